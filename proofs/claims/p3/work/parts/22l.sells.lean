/-! WHO SELLS WHEN, as numbers; both sides -/
section SELLS
variable {m : mM} {n : Nat} {pd : Nat → Nat → Nat}
/-- how many of the first k that are there are BORN on d -/
def mB (pd : Nat → Nat → Nat) (d : Nat) : Nat → Nat
  | 0 => 0
  | k + 1 => mB pd d k + if pd 4 k ≠ 0 ∧ pd 2 k = d then 1 else 0
theorem mB_le {d : Nat} : ∀ k, mB pd d k ≤ k
  | 0 => Nat.le_refl _
  | k + 1 => by
    have := mB_le (d := d) k
    unfold mB
    split <;> omega
/-- the first of k, k + 1 .. (j of them) with P -/
def fnd (P : Nat → Bool) : Nat → Nat → Option Nat
  | _, 0 => none
  | k, j + 1 => if P k = true then some k else fnd P (k + 1) j
def thatO (n : Nat) (pd : Nat → Nat → Nat) (p : Nat) : Nat := pd 1 p % n
def behindD (n : Nat) (pd : Nat → Nat → Nat) (p : Nat) : Nat := if pd 2 (thatO n pd p) = pd 3 p then (pd 3 p + 1) % 12 else pd 3 p
def freeP (n : Nat) (pd : Nat → Nat → Nat) (pl b c : Nat) (k : Nat) : Bool := decide (¬ (pl + k) % 12 = b) && decide (mB pd ((pl + k) % 12) n < c)
def shunD (n : Nat) (pd : Nat → Nat → Nat) (p : Nat) : Nat := match fnd (freeP n pd (pd 3 p) (pd 2 (thatO n pd p)) 2) 0 12 with
  | some k => (pd 3 p + k) % 12
  | none => behindD n pd p
def wishD (n : Nat) (pd : Nat → Nat → Nat) (y p : Nat) : Nat := match pd 0 p with
  | 1 => behindD n pd p
  | 2 => pd 2 (thatO n pd p)
  | 3 => (pd 3 p + pd 1 p) % 12
  | 4 => shunD n pd p
  | 5 => if pd 4 (thatO n pd p) = 0 then pd 3 p else pd 2 (thatO n pd p)
  | 6 => pd (5 + y % 4) p
  | _ => pd 3 p
def selD (n : Nat) (pd : Nat → Nat → Nat) (y fs p : Nat) : Nat := if wishD n pd y p = fs then (wishD n pd y p + 1) % 12 else wishD n pd y p
def offD (n : Nat) (pd : Nat → Nat → Nat) (y fs p : Nat) : Nat := (selD n pd y fs p + 12 - pd 3 p) % 12
theorem that_lt {p : Nat} (hp : p < n) : thatO n pd p < n := Nat.mod_lt _ (by omega)
theorem behind_lt {p : Nat} (h : PDr n pd) (hp : p < n) : behindD n pd p < 12 := by
  unfold behindD
  have := (h.2 p hp).2.2.2.1
  split
  · exact Nat.mod_lt _ (by decide)
  · exact this
theorem wish_lt {p y : Nat} (h : PDr n pd) (hp : p < n) : wishD n pd y p < 12 := by
  obtain ⟨h1, h2, h3, h4, h5, h6⟩ := h.2 p hp
  have h7 := (h.2 _ (that_lt (pd := pd) hp)).2.2.1
  unfold wishD
  split
  · exact behind_lt h hp
  · exact h7
  · exact Nat.mod_lt _ (by decide)
  · unfold shunD
    split
    · exact Nat.mod_lt _ (by decide)
    · exact behind_lt h hp
  · split <;> assumption
  · exact h6 _ (Nat.mod_lt _ (by decide))
  · exact h4
theorem sel_lt {p y fs : Nat} (h : PDr n pd) (hp : p < n) : selD n pd y fs p < 12 := by
  unfold selD
  split
  · exact Nat.mod_lt _ (by decide)
  · exact wish_lt h hp
theorem rmI_at {a d : Nat} (ha : a < 2 ^ 31) (h0 : 0 < d) (hd : d < 2 ^ 31) : rmI (nI a) (nI d) = some (nI (a % d)) := by
  unfold rmI
  rw [if_neg (nI_ne0 h0 hd), ← irem_eq_mod, pk_rem ha h0 hd]
theorem dvI_at {a d : Nat} (ha : a < 2 ^ 31) (h0 : 0 < d) (hd : d < 2 ^ 31) : dvI (nI a) (nI d) = some (nI (a / d)) := by
  unfold dvI
  rw [if_neg (nI_ne0 h0 hd), pk_div ha h0 hd]
theorem off_at {s p : Nat} (hs : s < 12) (hp : p < 12) : rmI ((nI s - nI p) + 12) 12 = some (nI ((s + 12 - p) % 12)) := by
  have e : (nI s - nI p) + 12 = nI (s + 12 - p) := by
    have h1 : nI (s + 12 - p) + nI p = nI s + nI 12 := by rw [nI_add, nI_add]; congr 1; omega
    have h2 : nI (s + 12 - p) = nI s + nI 12 - nI p := by rw [← h1, Int32.add_sub_cancel]
    rw [h2, Int32.sub_eq_add_neg, Int32.sub_eq_add_neg, Int32.add_assoc, Int32.add_assoc, Int32.add_comm (-nI p)]; rfl
  rw [e]
  exact rmI_at (by omega) (by decide) (by decide)
theorem nI_z {a : Nat} (ha : a < 2 ^ 31) : (nI a = 0) ↔ a = 0 := nI_eq ha (by decide)
/-! the reference -/
/-- the people of the reference -/
def PMr (m : mM) (n : Nat) (pd : Nat → Nat → Nat) : Prop := mI m 0 = nI n ∧ PDr n pd ∧ PDs (mA m 1) (mA m 2) (mA m 3) (mA m 4) (mA m 7) (mA m 6) ∧ PDe n pd (mA m 1) (mA m 2) (mA m 3) (mA m 4) (mA m 7) (mA m 6)
theorem PMr.g {p : Nat} (h : PMr m n pd) (hp : p < n) : gA (mA m 1) (nI p) = some (nI (pd 0 p)) ∧ gA (mA m 2) (nI p) = some (nI (pd 1 p)) ∧ gA (mA m 3) (nI p) = some (nI (pd 2 p)) ∧ gA (mA m 4) (nI p) = some (nI (pd 3 p)) ∧ gA (mA m 7) (nI p) = some (nI (pd 4 p)) ∧ ∀ j, j < 4 → gA (mA m 6) (nI (4 * p + j)) = some (nI (pd (5 + j) p)) := by
  obtain ⟨h0, ⟨h1, -⟩, ⟨l1, l2, l3, l4, l5, l6, -⟩, h2⟩ := h
  obtain ⟨g1, g2, g3, g4, g5, g6⟩ := h2 p hp
  refine ⟨by rw [gA_at (by omega) (by omega), g1], by rw [gA_at (by omega) (by omega), g2], by rw [gA_at (by omega) (by omega), g3], by rw [gA_at (by omega) (by omega), g4], by rw [gA_at (by omega) (by omega), g5], fun j hj => by rw [gA_at (by omega) (by omega), g6 j hj]⟩
theorem m_manyBorn {d : Nat} (h : PMr m n pd) (hd : d < 12) : f_X7_manyBorn m (nI d) = some (nI (mB pd d n), m) := by
  unfold f_X7_manyBorn
  have hn := h.2.1.1
  have key := lp_upA (f := fun F m a y => f_X7_manyBorn_4 F m (nI d) a y) (fb := fun K m a y => fb_X7_manyBorn_4 (fun m _ a y => K m a y) m (nI d) a y) (fun _ _ _ _ => rfl) (n := n) (G := fun _ => m) (A := fun k => nI (mB pd d k)) (E := some (nI (mB pd d n), m)) (fun k hk K => ?_) (fun K => ?_) n 0 1000 (by omega) (by omega)
  · exact key
  · obtain ⟨g1, g2, g3, g4, g5, g6⟩ := h.g hk
    obtain ⟨r1, r2, r3, r4, r5, r6⟩ := h.2.1.2 k hk
    unfold fb_X7_manyBorn_4
    rw [h.1, if_neg (nI_ge hk (by omega)), g5, Option.bind_some]
    by_cases c1 : pd 4 k = 0
    · rw [if_pos ((nI_z (by omega)).mpr c1), nmI_eq, Int32.add_zero, nI_1]
      show K m (nI (mB pd d k)) _ = K m (nI (mB pd d k + if pd 4 k ≠ 0 ∧ pd 2 k = d then 1 else 0)) _
      rw [if_neg (fun z => z.1 c1)]; rfl
    · rw [if_neg (fun z => c1 ((nI_z (by omega)).mp z)), g3, Option.bind_some]
      by_cases c2 : pd 2 k = d
      · rw [if_pos (congrArg nI c2), nmI_eq, nI_1, nI_1]
        show _ = K m (nI (mB pd d k + if pd 4 k ≠ 0 ∧ pd 2 k = d then 1 else 0)) _
        rw [if_pos ⟨c1, c2⟩]
      · rw [if_neg (fun z => c2 ((nI_eq (by omega) (by omega)).mp z)), nmI_eq, Int32.add_zero, nI_1]
        show K m (nI (mB pd d k)) _ = K m (nI (mB pd d k + if pd 4 k ≠ 0 ∧ pd 2 k = d then 1 else 0)) _
        rw [if_neg (fun z => c2 z.2)]; rfl
  · unfold fb_X7_manyBorn_4
    rw [h.1, if_pos (nI_le (Nat.le_refl _) (by omega))]
theorem m_thatOne {p : Nat} (h : PMr m n pd) (hp : p < n) : f_X7_thatOne m (nI p) = some (nI (thatO n pd p), m) := by
  unfold f_X7_thatOne
  have hn := h.2.1.1
  have r2 := (h.2.1.2 p hp).2.1
  rw [(h.g hp).2.1, Option.bind_some, h.1, rmI_at (by omega) (by omega) (by omega), Option.bind_some]; rfl
theorem m_behind {p : Nat} (h : PMr m n pd) (hp : p < n) : f_X7_behindHated m (nI p) = some (nI (behindD n pd p), m) := by
  unfold f_X7_behindHated
  have q := that_lt (pd := pd) hp
  have r3 := (h.2.1.2 _ q).2.2.1
  have r4 := (h.2.1.2 p hp).2.2.2.1
  rw [m_thatOne h hp, bnd_some, (h.g q).2.2.1, Option.bind_some, (h.g hp).2.2.2.1, Option.bind_some]
  unfold behindD
  by_cases c : pd 2 (thatO n pd p) = pd 3 p
  · rw [if_pos (congrArg nI c), if_pos c, Option.bind_some, nI_1, show (12 : Int32) = nI 12 from rfl, rmI_at (by omega) (by decide) (by decide), Option.bind_some]
  · rw [if_neg (fun z => c ((nI_eq (by omega) (by omega)).mp z)), if_neg c, Option.bind_some]
theorem fnd_s {P : Nat → Bool} {k j : Nat} : fnd P k (j + 1) = if P k = true then some k else fnd P (k + 1) j := rfl
theorem m_shunned {p : Nat} (h : PMr m n pd) (hp : p < n) : f_X7_shunned m (nI p) = some (nI (shunD n pd p), m) := by
  unfold f_X7_shunned
  have q := that_lt (pd := pd) hp
  have hn := h.2.1.1
  have r3 := (h.2.1.2 _ q).2.2.1
  have r4 := (h.2.1.2 p hp).2.2.2.1
  have main : ∀ j k F, k + j = 12 → j < F → f_X7_shunned_2 F m (nI p) (nI k) = some (nI (match fnd (freeP n pd (pd 3 p) (pd 2 (thatO n pd p)) 2) k j with | some k => (pd 3 p + k) % 12 | none => behindD n pd p), m) := by
    intro j
    induction j with
    | zero =>
      intro k F hk hF
      obtain ⟨F', rfl⟩ : ∃ F', F = F' + 1 := ⟨F - 1, by omega⟩
      obtain rfl : k = 12 := by omega
      show fb_X7_shunned_2 _ _ _ _ = _
      unfold fb_X7_shunned_2
      rw [if_pos (show (12 : Int32) ≤ nI 12 by decide), m_behind h hp, bnd_some]; rfl
    | succ j ih =>
      intro k F hk hF
      obtain ⟨F', rfl⟩ : ∃ F', F = F' + 1 := ⟨F - 1, by omega⟩
      show fb_X7_shunned_2 _ _ _ _ = _
      unfold fb_X7_shunned_2
      rw [if_neg (show ¬ (12 : Int32) ≤ nI k from (nI_ge (by omega) (by decide) : ¬ nI 12 ≤ nI k)), (h.g hp).2.2.2.1, Option.bind_some, nI_add, show (12 : Int32) = nI 12 from rfl, rmI_at (by omega) (by decide) (by decide), Option.bind_some, m_thatOne h hp, bnd_some, (h.g q).2.2.1, Option.bind_some, fnd_s]
      have hm : (pd 3 p + k) % 12 < 12 := Nat.mod_lt _ (by decide)
      by_cases c1 : (pd 3 p + k) % 12 = pd 2 (thatO n pd p)
      · rw [if_pos (congrArg nI c1.symm), if_neg (by unfold freeP; rw [decide_eq_false (fun z => z c1)]; exact Bool.false_ne_true), nI_1]
        exact ih (k + 1) F' (by omega) (by omega)
      · rw [if_neg (fun z => c1 ((nI_eq (by omega) (by omega)).mp z).symm), m_manyBorn h hm, bnd_some]
        have hb := mB_le (pd := pd) (d := (pd 3 p + k) % 12) n
        by_cases c2 : mB pd ((pd 3 p + k) % 12) n < 2
        · rw [if_neg (show ¬ (2 : Int32) ≤ nI _ from (nI_ge c2 (by decide) : ¬ nI 2 ≤ nI _)), if_pos (by unfold freeP; rw [decide_eq_true c1, decide_eq_true c2]; rfl)]
        · rw [if_pos (show (2 : Int32) ≤ nI _ from (nI_le (by omega) (by omega) : nI 2 ≤ nI _)), if_neg (by unfold freeP; rw [decide_eq_false c2, Bool.and_false]; exact Bool.false_ne_true), nI_1]
          exact ih (k + 1) F' (by omega) (by omega)
  exact main 12 0 1000 rfl (by decide)
theorem m_wished {p y : Nat} (h : PMr m n pd) (hp : p < n) (hy : mI m 2 = nI y) (hy2 : y < 2 ^ 31) : f_X7_wishedDay m (nI p) = some (nI (wishD n pd y p), m) := by
  unfold f_X7_wishedDay wishD
  have q := that_lt (pd := pd) hp
  have hn := h.2.1.1
  obtain ⟨r1, r2, r3, r4, r5, r6⟩ := h.2.1.2 p hp
  obtain ⟨g1, g2, g3, g4, g5, g6⟩ := h.g hp
  obtain ⟨t1, t2, t3, t4, t5, t6⟩ := h.g q
  have z5 := (h.2.1.2 _ q).2.2.2.2.1
  rw [g1, Option.bind_some]
  generalize hkd : pd 0 p = kd at r1
  match kd, r1 with
  | 0, _ => show (gA (mA m 4) (nI p)).bind _ = _; rw [g4]; rfl
  | 1, _ => show bnd (f_X7_behindHated m (nI p)) _ = _; rw [m_behind h hp]; rfl
  | 2, _ => show bnd (f_X7_thatOne m (nI p)) _ = _; rw [m_thatOne h hp, bnd_some, t3]; rfl
  | 3, _ => show (gA (mA m 4) (nI p)).bind _ = _; rw [g4, Option.bind_some, g2, Option.bind_some, nI_add, show (12 : Int32) = nI 12 from rfl, rmI_at (by omega) (by decide) (by decide)]; rfl
  | 4, _ => show bnd (f_X7_shunned m (nI p)) _ = _; rw [m_shunned h hp]; rfl
  | 5, _ =>
    show bnd (f_X7_thatOne m (nI p)) _ = _
    rw [m_thatOne h hp, bnd_some, t5, Option.bind_some]
    show _ = some (nI (if pd 4 (thatO n pd p) = 0 then pd 3 p else pd 2 (thatO n pd p)), m)
    by_cases c : pd 4 (thatO n pd p) = 0
    · rw [if_pos ((nI_z (by omega)).mpr c), if_pos c, g4, Option.bind_some]
    · rw [if_neg (fun z => c ((nI_z (by omega)).mp z)), if_neg c, m_thatOne h hp, bnd_some, t3, Option.bind_some]
  | 6, _ =>
    rw [if_neg (show ¬ nI 6 = 1 by decide), if_neg (show ¬ nI 6 = 2 by decide), if_neg (show ¬ nI 6 = 3 by decide), if_neg (show ¬ nI 6 = 4 by decide), if_neg (show ¬ nI 6 = 5 by decide), if_pos (show nI 6 = 6 from rfl)]
    rw [hy, show (4 : Int32) = nI 4 from rfl, rmI_at hy2 (by decide) (by decide), Option.bind_some, pk_mul, nI_add, g6 _ (Nat.mod_lt _ (by decide)), Option.bind_some]; rfl
end SELLS
