-- 22l.sells.lean.txt
section
/-! WHO SELLS WHEN, as numbers; both sides -/
section SELLS
variable {m : mM} {n : Nat} {pd : Nat → Nat → Nat}
/-- how many of the first k that are there are BORN on d -/
def mB (pd : Nat → Nat → Nat) (d : Nat) : Nat → Nat
  | 0 => 0
  | k + 1 => mB pd d k + if pd 4 k ≠ 0 ∧ pd 2 k = d then 1 else 0
theorem mB_le {d : Nat} : ∀ k, mB pd d k ≤ k
  | 0 => Nat.le_refl _
  | k + 1 => by
    have := mB_le (d := d) k
    unfold mB
    split <;> omega
/-- the first of k, k + 1 .. (j of them) with P -/
def fnd (P : Nat → Bool) : Nat → Nat → Option Nat
  | _, 0 => none
  | k, j + 1 => if P k = true then some k else fnd P (k + 1) j
def thatO (n : Nat) (pd : Nat → Nat → Nat) (p : Nat) : Nat := pd 1 p % n
def behindD (n : Nat) (pd : Nat → Nat → Nat) (p : Nat) : Nat := if pd 2 (thatO n pd p) = pd 3 p then (pd 3 p + 1) % 12 else pd 3 p
def freeP (n : Nat) (pd : Nat → Nat → Nat) (pl b c : Nat) (k : Nat) : Bool := decide (¬ (pl + k) % 12 = b) && decide (mB pd ((pl + k) % 12) n < c)
def shunD (n : Nat) (pd : Nat → Nat → Nat) (p : Nat) : Nat := match fnd (freeP n pd (pd 3 p) (pd 2 (thatO n pd p)) 2) 0 12 with
  | some k => (pd 3 p + k) % 12
  | none => behindD n pd p
def wishD (n : Nat) (pd : Nat → Nat → Nat) (y p : Nat) : Nat := match pd 0 p with
  | 1 => behindD n pd p
  | 2 => pd 2 (thatO n pd p)
  | 3 => (pd 3 p + pd 1 p) % 12
  | 4 => shunD n pd p
  | 5 => if pd 4 (thatO n pd p) = 0 then pd 3 p else pd 2 (thatO n pd p)
  | 6 => pd (5 + y % 4) p
  | _ => pd 3 p
def selD (n : Nat) (pd : Nat → Nat → Nat) (y fs p : Nat) : Nat := if wishD n pd y p = fs then (wishD n pd y p + 1) % 12 else wishD n pd y p
def offD (n : Nat) (pd : Nat → Nat → Nat) (y fs p : Nat) : Nat := (selD n pd y fs p + 12 - pd 3 p) % 12
theorem that_lt {p : Nat} (hp : p < n) : thatO n pd p < n := Nat.mod_lt _ (by omega)
theorem behind_lt {p : Nat} (h : PDr n pd) (hp : p < n) : behindD n pd p < 12 := by
  unfold behindD
  have := (h.2 p hp).2.2.2.1
  split
  · exact Nat.mod_lt _ (by decide)
  · exact this
theorem wish_lt {p y : Nat} (h : PDr n pd) (hp : p < n) : wishD n pd y p < 12 := by
  obtain ⟨h1, h2, h3, h4, h5, h6⟩ := h.2 p hp
  have h7 := (h.2 _ (that_lt (pd := pd) hp)).2.2.1
  unfold wishD
  split
  · exact behind_lt h hp
  · exact h7
  · exact Nat.mod_lt _ (by decide)
  · unfold shunD
    split
    · exact Nat.mod_lt _ (by decide)
    · exact behind_lt h hp
  · split <;> assumption
  · exact h6 _ (Nat.mod_lt _ (by decide))
  · exact h4
theorem sel_lt {p y fs : Nat} (h : PDr n pd) (hp : p < n) : selD n pd y fs p < 12 := by
  unfold selD
  split
  · exact Nat.mod_lt _ (by decide)
  · exact wish_lt h hp
theorem rmI_at {a d : Nat} (ha : a < 2 ^ 31) (h0 : 0 < d) (hd : d < 2 ^ 31) : rmI (nI a) (nI d) = some (nI (a % d)) := by
  unfold rmI
  rw [if_neg (nI_ne0 h0 hd), ← irem_eq_mod, pk_rem ha h0 hd]
theorem dvI_at {a d : Nat} (ha : a < 2 ^ 31) (h0 : 0 < d) (hd : d < 2 ^ 31) : dvI (nI a) (nI d) = some (nI (a / d)) := by
  unfold dvI
  rw [if_neg (nI_ne0 h0 hd), pk_div ha h0 hd]
theorem off_at {s p : Nat} (hs : s < 12) (hp : p < 12) : rmI ((nI s - nI p) + 12) 12 = some (nI ((s + 12 - p) % 12)) := by
  have e : (nI s - nI p) + 12 = nI (s + 12 - p) := by
    have h1 : nI (s + 12 - p) + nI p = nI s + nI 12 := by rw [nI_add, nI_add]; congr 1; omega
    have h2 : nI (s + 12 - p) = nI s + nI 12 - nI p := by rw [← h1, Int32.add_sub_cancel]
    rw [h2, Int32.sub_eq_add_neg, Int32.sub_eq_add_neg, Int32.add_assoc, Int32.add_assoc, Int32.add_comm (-nI p)]; rfl
  rw [e]
  exact rmI_at (by omega) (by decide) (by decide)
theorem nI_z {a : Nat} (ha : a < 2 ^ 31) : (nI a = 0) ↔ a = 0 := nI_eq ha (by decide)
/-! the reference -/
/-- the people of the reference -/
def PMr (m : mM) (n : Nat) (pd : Nat → Nat → Nat) : Prop := mI m 0 = nI n ∧ PDr n pd ∧ PDs (mA m 1) (mA m 2) (mA m 3) (mA m 4) (mA m 7) (mA m 6) ∧ PDe n pd (mA m 1) (mA m 2) (mA m 3) (mA m 4) (mA m 7) (mA m 6)
theorem PMr.g {p : Nat} (h : PMr m n pd) (hp : p < n) : gA (mA m 1) (nI p) = some (nI (pd 0 p)) ∧ gA (mA m 2) (nI p) = some (nI (pd 1 p)) ∧ gA (mA m 3) (nI p) = some (nI (pd 2 p)) ∧ gA (mA m 4) (nI p) = some (nI (pd 3 p)) ∧ gA (mA m 7) (nI p) = some (nI (pd 4 p)) ∧ ∀ j, j < 4 → gA (mA m 6) (nI (4 * p + j)) = some (nI (pd (5 + j) p)) := by
  obtain ⟨h0, ⟨h1, -⟩, ⟨l1, l2, l3, l4, l5, l6, -⟩, h2⟩ := h
  obtain ⟨g1, g2, g3, g4, g5, g6⟩ := h2 p hp
  refine ⟨by rw [gA_at (by omega) (by omega), g1], by rw [gA_at (by omega) (by omega), g2], by rw [gA_at (by omega) (by omega), g3], by rw [gA_at (by omega) (by omega), g4], by rw [gA_at (by omega) (by omega), g5], fun j hj => by rw [gA_at (by omega) (by omega), g6 j hj]⟩
theorem m_manyBorn {d : Nat} (h : PMr m n pd) (hd : d < 12) : f_X7_manyBorn m (nI d) = some (nI (mB pd d n), m) := by
  unfold f_X7_manyBorn
  have hn := h.2.1.1
  have key := lp_upA (f := fun F m a y => f_X7_manyBorn_4 F m (nI d) a y) (fb := fun K m a y => fb_X7_manyBorn_4 (fun m _ a y => K m a y) m (nI d) a y) (fun _ _ _ _ => rfl) (n := n) (G := fun _ => m) (A := fun k => nI (mB pd d k)) (E := some (nI (mB pd d n), m)) (fun k hk K => ?_) (fun K => ?_) n 0 1000 (by omega) (by omega)
  · exact key
  · obtain ⟨g1, g2, g3, g4, g5, g6⟩ := h.g hk
    obtain ⟨r1, r2, r3, r4, r5, r6⟩ := h.2.1.2 k hk
    unfold fb_X7_manyBorn_4
    rw [h.1, if_neg (nI_ge hk (by omega)), g5, Option.bind_some]
    by_cases c1 : pd 4 k = 0
    · rw [if_pos ((nI_z (by omega)).mpr c1), nmI_eq, Int32.add_zero, nI_1]
      show K m (nI (mB pd d k)) _ = K m (nI (mB pd d k + if pd 4 k ≠ 0 ∧ pd 2 k = d then 1 else 0)) _
      rw [if_neg (fun z => z.1 c1)]; rfl
    · rw [if_neg (fun z => c1 ((nI_z (by omega)).mp z)), g3, Option.bind_some]
      by_cases c2 : pd 2 k = d
      · rw [if_pos (congrArg nI c2), nmI_eq, nI_1, nI_1]
        show _ = K m (nI (mB pd d k + if pd 4 k ≠ 0 ∧ pd 2 k = d then 1 else 0)) _
        rw [if_pos ⟨c1, c2⟩]
      · rw [if_neg (fun z => c2 ((nI_eq (by omega) (by omega)).mp z)), nmI_eq, Int32.add_zero, nI_1]
        show K m (nI (mB pd d k)) _ = K m (nI (mB pd d k + if pd 4 k ≠ 0 ∧ pd 2 k = d then 1 else 0)) _
        rw [if_neg (fun z => c2 z.2)]; rfl
  · unfold fb_X7_manyBorn_4
    rw [h.1, if_pos (nI_le (Nat.le_refl _) (by omega))]
theorem m_thatOne {p : Nat} (h : PMr m n pd) (hp : p < n) : f_X7_thatOne m (nI p) = some (nI (thatO n pd p), m) := by
  unfold f_X7_thatOne
  have hn := h.2.1.1
  have r2 := (h.2.1.2 p hp).2.1
  rw [(h.g hp).2.1, Option.bind_some, h.1, rmI_at (by omega) (by omega) (by omega), Option.bind_some]; rfl
theorem m_behind {p : Nat} (h : PMr m n pd) (hp : p < n) : f_X7_behindHated m (nI p) = some (nI (behindD n pd p), m) := by
  unfold f_X7_behindHated
  have q := that_lt (pd := pd) hp
  have r3 := (h.2.1.2 _ q).2.2.1
  have r4 := (h.2.1.2 p hp).2.2.2.1
  rw [m_thatOne h hp, bnd_some, (h.g q).2.2.1, Option.bind_some, (h.g hp).2.2.2.1, Option.bind_some]
  unfold behindD
  by_cases c : pd 2 (thatO n pd p) = pd 3 p
  · rw [if_pos (congrArg nI c), if_pos c, Option.bind_some, nI_1, show (12 : Int32) = nI 12 from rfl, rmI_at (by omega) (by decide) (by decide), Option.bind_some]
  · rw [if_neg (fun z => c ((nI_eq (by omega) (by omega)).mp z)), if_neg c, Option.bind_some]
theorem fnd_s {P : Nat → Bool} {k j : Nat} : fnd P k (j + 1) = if P k = true then some k else fnd P (k + 1) j := rfl
theorem m_shunned {p : Nat} (h : PMr m n pd) (hp : p < n) : f_X7_shunned m (nI p) = some (nI (shunD n pd p), m) := by
  unfold f_X7_shunned
  have q := that_lt (pd := pd) hp
  have hn := h.2.1.1
  have r3 := (h.2.1.2 _ q).2.2.1
  have r4 := (h.2.1.2 p hp).2.2.2.1
  have main : ∀ j k F, k + j = 12 → j < F → f_X7_shunned_2 F m (nI p) (nI k) = some (nI (match fnd (freeP n pd (pd 3 p) (pd 2 (thatO n pd p)) 2) k j with | some k => (pd 3 p + k) % 12 | none => behindD n pd p), m) := by
    intro j
    induction j with
    | zero =>
      intro k F hk hF
      obtain ⟨F', rfl⟩ : ∃ F', F = F' + 1 := ⟨F - 1, by omega⟩
      obtain rfl : k = 12 := by omega
      show fb_X7_shunned_2 _ _ _ _ = _
      unfold fb_X7_shunned_2
      rw [if_pos (show (12 : Int32) ≤ nI 12 by decide), m_behind h hp, bnd_some]; rfl
    | succ j ih =>
      intro k F hk hF
      obtain ⟨F', rfl⟩ : ∃ F', F = F' + 1 := ⟨F - 1, by omega⟩
      show fb_X7_shunned_2 _ _ _ _ = _
      unfold fb_X7_shunned_2
      rw [if_neg (show ¬ (12 : Int32) ≤ nI k from (nI_ge (by omega) (by decide) : ¬ nI 12 ≤ nI k)), (h.g hp).2.2.2.1, Option.bind_some, nI_add, show (12 : Int32) = nI 12 from rfl, rmI_at (by omega) (by decide) (by decide), Option.bind_some, m_thatOne h hp, bnd_some, (h.g q).2.2.1, Option.bind_some, fnd_s]
      have hm : (pd 3 p + k) % 12 < 12 := Nat.mod_lt _ (by decide)
      by_cases c1 : (pd 3 p + k) % 12 = pd 2 (thatO n pd p)
      · rw [if_pos (congrArg nI c1.symm), if_neg (by unfold freeP; rw [decide_eq_false (fun z => z c1)]; exact Bool.false_ne_true), nI_1]
        exact ih (k + 1) F' (by omega) (by omega)
      · rw [if_neg (fun z => c1 ((nI_eq (by omega) (by omega)).mp z).symm), m_manyBorn h hm, bnd_some]
        have hb := mB_le (pd := pd) (d := (pd 3 p + k) % 12) n
        by_cases c2 : mB pd ((pd 3 p + k) % 12) n < 2
        · rw [if_neg (show ¬ (2 : Int32) ≤ nI _ from (nI_ge c2 (by decide) : ¬ nI 2 ≤ nI _)), if_pos (by unfold freeP; rw [decide_eq_true c1, decide_eq_true c2]; rfl)]
        · rw [if_pos (show (2 : Int32) ≤ nI _ from (nI_le (by omega) (by omega) : nI 2 ≤ nI _)), if_neg (by unfold freeP; rw [decide_eq_false c2, Bool.and_false]; exact Bool.false_ne_true), nI_1]
          exact ih (k + 1) F' (by omega) (by omega)
  exact main 12 0 1000 rfl (by decide)
theorem m_wished {p y : Nat} (h : PMr m n pd) (hp : p < n) (hy : mI m 2 = nI y) (hy2 : y < 2 ^ 31) : f_X7_wishedDay m (nI p) = some (nI (wishD n pd y p), m) := by
  unfold f_X7_wishedDay wishD
  have q := that_lt (pd := pd) hp
  have hn := h.2.1.1
  obtain ⟨r1, r2, r3, r4, r5, r6⟩ := h.2.1.2 p hp
  obtain ⟨g1, g2, g3, g4, g5, g6⟩ := h.g hp
  obtain ⟨t1, t2, t3, t4, t5, t6⟩ := h.g q
  have z5 := (h.2.1.2 _ q).2.2.2.2.1
  rw [g1, Option.bind_some]
  generalize hkd : pd 0 p = kd at r1
  match kd, r1 with
  | 0, _ => show (gA (mA m 4) (nI p)).bind _ = _; rw [g4]; rfl
  | 1, _ => show bnd (f_X7_behindHated m (nI p)) _ = _; rw [m_behind h hp]; rfl
  | 2, _ => show bnd (f_X7_thatOne m (nI p)) _ = _; rw [m_thatOne h hp, bnd_some, t3]; rfl
  | 3, _ => show (gA (mA m 4) (nI p)).bind _ = _; rw [g4, Option.bind_some, g2, Option.bind_some, nI_add, show (12 : Int32) = nI 12 from rfl, rmI_at (by omega) (by decide) (by decide)]; rfl
  | 4, _ => show bnd (f_X7_shunned m (nI p)) _ = _; rw [m_shunned h hp]; rfl
  | 5, _ =>
    show bnd (f_X7_thatOne m (nI p)) _ = _
    rw [m_thatOne h hp, bnd_some, t5, Option.bind_some]
    show _ = some (nI (if pd 4 (thatO n pd p) = 0 then pd 3 p else pd 2 (thatO n pd p)), m)
    by_cases c : pd 4 (thatO n pd p) = 0
    · rw [if_pos ((nI_z (by omega)).mpr c), if_pos c, g4, Option.bind_some]
    · rw [if_neg (fun z => c ((nI_z (by omega)).mp z)), if_neg c, m_thatOne h hp, bnd_some, t3, Option.bind_some]
  | 6, _ =>
    rw [if_neg (show ¬ nI 6 = 1 by decide), if_neg (show ¬ nI 6 = 2 by decide), if_neg (show ¬ nI 6 = 3 by decide), if_neg (show ¬ nI 6 = 4 by decide), if_neg (show ¬ nI 6 = 5 by decide), if_pos (show nI 6 = 6 from rfl)]
    rw [hy, show (4 : Int32) = nI 4 from rfl, rmI_at hy2 (by decide) (by decide), Option.bind_some, pk_mul, nI_add, g6 _ (Nat.mod_lt _ (by decide)), Option.bind_some]; rfl
end SELLS
end
-- 22m.days.lean.txt
section
/-! DAYS: the reference's sells and putOff, the class's Days begun -/
section DAYS
variable {m : mM} {n : Nat} {pd : Nat → Nat → Nat}
/-- the town of the reference -/
def MCl (m : mM) (tw : Nat) (cs : List CL) : Prop := tw ≤ 6 ∧ mI m 11 = nI tw - 1 ∧ TMh m ∧ (∀ c ∈ cs, clOk c) ∧ (tw = 0 → cs = []) ∧ (0 < tw → TMe m (tw - 1) cs)
theorem MCl.len {tw : Nat} {cs : List CL} (h : MCl m tw cs) : cs.length ≤ 10 := by
  obtain ⟨h1, h2, h3, h4, h5, h6⟩ := h
  by_cases c : tw = 0
  · rw [h5 c]; decide
  · exact (h6 (by omega)).2.1
theorem MCl.ok {tw c : Nat} {cs : List CL} (h : MCl m tw cs) (hc : c < cs.length) : clOk (cs.getD c (0, 0, [])) := by
  rw [List.getD_eq_getElem?_getD, List.getElem?_eq_getElem hc]
  exact h.2.2.2.1 _ (List.getElem_mem hc)
theorem m_clauseFrom {tw : Nat} {cs : List CL} (h : MCl m tw cs) : f_X7_clauseFrom m = some (nI (10 * (tw - 1)), m) := by
  unfold f_X7_clauseFrom
  obtain ⟨h1, h2, h3, h4, h5, h6⟩ := h
  rw [h2]
  rcases tw with _ | t
  · rw [if_neg (by decide)]; rfl
  · rw [nI_pred, if_pos (show (0 : Int32) ≤ nI t from (nI_le (Nat.zero_le _) (by omega) : nI 0 ≤ nI t)), show (10 : Int32) = nI 10 from rfl, pk_mul, Nat.add_sub_cancel]
theorem m_clauseTo {tw : Nat} {cs : List CL} (h : MCl m tw cs) : f_X7_clauseTo m = some (nI (10 * (tw - 1) + cs.length), m) := by
  unfold f_X7_clauseTo
  obtain ⟨h1, h2, h3, h4, h5, h6⟩ := h
  rw [h2]
  rcases tw with _ | t
  · rw [if_neg (by decide), h5 rfl]; rfl
  · rw [nI_pred, if_pos (show (0 : Int32) ≤ nI t from (nI_le (Nat.zero_le _) (by omega) : nI 0 ≤ nI t)), gA_at (by rw [h3.1]; omega) (by omega), Option.bind_some, show (mA m 9).getD t 0 = nI cs.length from (h6 (by omega)).1, show (10 : Int32) = nI 10 from rfl, pk_mul, nI_add, Nat.add_sub_cancel]
theorem MCl.at {tw c : Nat} {cs : List CL} (h : MCl m tw cs) (hc : c < cs.length) : gA (mA m 10) (nI (10 * (tw - 1) + c)) = some (nI (cs.getD c (0, 0, [])).1) ∧ gA (mA m 11) (nI (10 * (tw - 1) + c)) = some (nI (cs.getD c (0, 0, [])).2.1) := by
  have hl := h.len
  obtain ⟨h1, h2, h3, h4, h5, h6⟩ := h
  have ht : 0 < tw := by
    rcases tw with _ | t
    · rw [h5 rfl] at hc; exact absurd hc (by simp)
    · omega
  obtain ⟨k1, k2, k3⟩ := h6 ht
  have := k3 c hc
  rw [gA_at (by rw [h3.2.1]; omega) (by omega), gA_at (by rw [h3.2.2.1]; omega) (by omega), this.1, this.2.1]
  exact ⟨rfl, rfl⟩
theorem dropD {α : Type} {cs : List α} {c : Nat} {d : α} (hc : c < cs.length) : cs.drop c = cs.getD c d :: cs.drop (c + 1) := by
  rw [List.drop_eq_getElem_cons hc, List.getD_eq_getElem?_getD, List.getElem?_eq_getElem hc]; rfl
theorem m_lastOf {tw w d : Nat} {cs : List CL} (h : MCl m tw cs) (hw : w < 4) : f_X7_lastOf m (nI w) (nI d) = some (nI (clLast w d cs), m) := by
  unfold f_X7_lastOf
  rw [m_clauseFrom h, bnd_some]
  have hl := h.len
  have ht := h.1
  have main : ∀ j c d F, c + j = cs.length → j < F → f_X7_lastOf_8 F m (nI w) (nI d) (nI (10 * (tw - 1) + c)) = some (nI (clLast w d (cs.drop c)), m) := by
    intro j
    induction j with
    | zero =>
      intro c d F hc hF
      obtain ⟨F', rfl⟩ : ∃ F', F = F' + 1 := ⟨F - 1, by omega⟩
      show fb_X7_lastOf_8 _ _ _ _ _ = _
      unfold fb_X7_lastOf_8
      rw [m_clauseTo h, bnd_some, if_pos (nI_le (by omega) (by omega)), List.drop_of_length_le (by omega)]; rfl
    | succ j ih =>
      intro c d F hc hF
      obtain ⟨F', rfl⟩ : ∃ F', F = F' + 1 := ⟨F - 1, by omega⟩
      show fb_X7_lastOf_8 _ _ _ _ _ = _
      unfold fb_X7_lastOf_8
      have hk := h.ok (c := c) (by omega)
      have hk1 : (cs.getD c (0, 0, [])).1 < 4 := hk.1
      rw [m_clauseTo h, bnd_some, if_neg (nI_ge (by omega) (by omega)), (h.at (c := c) (by omega)).1, Option.bind_some, dropD (d := (0, 0, [])) (show c < cs.length by omega), clLast, nI_1]
      by_cases e : (cs.getD c (0, 0, [])).1 = w
      · rw [if_pos (congrArg nI e), if_pos e, (h.at (c := c) (by omega)).2, Option.bind_some]
        exact ih (c + 1) _ F' (by omega) (by omega)
      · rw [if_neg (fun z => e ((nI_eq (by omega) (by omega)).mp z)), if_neg e]
        exact ih (c + 1) _ F' (by omega) (by omega)
  exact main cs.length 0 d 1000 (by omega) (by omega)
theorem clLast_lt {w : Nat} : ∀ {cs : List CL} {d : Nat}, (∀ c ∈ cs, clOk c) → d < 100 → clLast w d cs < 100
  | [], _, _, hd => hd
  | c :: cs, d, h, hd => by
    unfold clLast
    refine clLast_lt (fun c hc => h c (List.mem_cons_of_mem _ hc)) ?_
    split
    · exact (h c (List.mem_cons_self ..)).2.1
    · exact hd
/-- what the reference's people and town are at a year -/
def PT (m : mM) (n : Nat) (pd : Nat → Nat → Nat) (tw : Nat) (cs : List CL) : Prop := PMr m n pd ∧ MCl m tw cs
theorem m_sells {tw p y : Nat} {cs : List CL} (h : PT m n pd tw cs) (hp : p < n) (hy : mI m 2 = nI y) (hy2 : y < 2 ^ 31) : f_X7_sells m (nI p) = some (nI (selD n pd y (clLast 3 99 cs) p), m) := by
  unfold f_X7_sells
  have hw := wish_lt (y := y) h.1.2.1 hp
  have hc := clLast_lt (w := 3) (d := 99) h.2.2.2.2.1 (by decide)
  rw [m_wished h.1 hp hy hy2, bnd_some, show (3 : Int32) = nI 3 from rfl, show (99 : Int32) = nI 99 from rfl, m_lastOf h.2 (by decide), bnd_some]
  unfold selD
  by_cases e : wishD n pd y p = clLast 3 99 cs
  · rw [if_pos (congrArg nI e), if_pos e, nI_1, show (12 : Int32) = nI 12 from rfl, rmI_at (by omega) (by decide) (by decide), Option.bind_some]
  · rw [if_neg (fun z => e ((nI_eq (by omega) (by omega)).mp z)), if_neg e]
theorem m_putOff {tw p y : Nat} {cs : List CL} (h : PT m n pd tw cs) (hp : p < n) (hy : mI m 2 = nI y) (hy2 : y < 2 ^ 31) : f_X7_putOff m (nI p) = some (nI (offD n pd y (clLast 3 99 cs) p), m) := by
  unfold f_X7_putOff
  rw [m_sells h hp hy hy2, bnd_some, (h.1.g hp).2.2.2.1, Option.bind_some, off_at (sel_lt h.1.2.1 hp) (h.1.2.1.2 p hp).2.2.2.1, Option.bind_some]; rfl
theorem m_dueNow {tw : Nat} {cs : List CL} (h : MCl m tw cs) (h27 : mI m 27 = -1) : f_X7_dueNow m = some (nI (clLast 1 10 cs), m) := by
  unfold f_X7_dueNow
  rw [if_neg (by rw [h27]; decide), show (1 : Int32) = nI 1 from rfl, show (10 : Int32) = nI 10 from rfl, m_lastOf h (by decide), bnd_some]
theorem m_dueNow' {x : Int32} (h27 : mI m 27 = x) (h0 : 0 ≤ x) : f_X7_dueNow m = some (x, m) := by
  unfold f_X7_dueNow
  rw [if_pos (by rw [h27]; exact h0), h27]
/-! the class -/
/-- the people of a state of the class -/
def PXr (m : mM) (c n : Nat) (pd : Nat → Nat → Nat) : Prop := (c = 14 ∨ c = 23 ∨ c = 32) ∧ mI m (64 * c + 0) = nI n ∧ PDr n pd ∧ PDs (mA m (c + 1)) (mA m (c + 2)) (mA m (c + 3)) (mA m (c + 4)) (mA m (c + 6)) (mA m (c + 7)) ∧ PDe n pd (mA m (c + 1)) (mA m (c + 2)) (mA m (c + 3)) (mA m (c + 4)) (mA m (c + 6)) (mA m (c + 7))
theorem PXr.c {c : Nat} (h : PXr m c n pd) : isC true 2 c = true := by
  rcases h.1 with rfl | rfl | rfl <;> rfl
theorem PXr.g {c p : Nat} (h : PXr m c n pd) (hp : p < n) : gA (mA m (c + 1)) (nI p) = some (nI (pd 0 p)) ∧ gA (mA m (c + 2)) (nI p) = some (nI (pd 1 p)) ∧ gA (mA m (c + 3)) (nI p) = some (nI (pd 2 p)) ∧ gA (mA m (c + 4)) (nI p) = some (nI (pd 3 p)) ∧ gA (mA m (c + 6)) (nI p) = some (nI (pd 4 p)) ∧ ∀ j, j < 4 → gA (mA m (c + 7)) (nI (4 * p + j)) = some (nI (pd (5 + j) p)) := by
  obtain ⟨-, h0, ⟨h1, -⟩, ⟨l1, l2, l3, l4, l5, l6, -⟩, h2⟩ := h
  obtain ⟨g1, g2, g3, g4, g5, g6⟩ := h2 p hp
  refine ⟨by rw [gA_at (by omega) (by omega), g1], by rw [gA_at (by omega) (by omega), g2], by rw [gA_at (by omega) (by omega), g3], by rw [gA_at (by omega) (by omega), g4], by rw [gA_at (by omega) (by omega), g5], fun j hj => by rw [gA_at (by omega) (by omega), g6 j hj]⟩
/-- births as they stand -/
def BTr (m : mM) (n : Nat) (pd : Nat → Nat → Nat) : Prop := (mA m 45).length = 12 ∧ ∀ d, d < 12 → (mA m 45).getD d 0 = nI (mB pd d n)
theorem BTr.g {d : Nat} (h : BTr m n pd) (hd : d < 12) : gA (mA m 45) (nI d) = some (nI (mB pd d n)) := by
  rw [gA_at (by rw [h.1]; exact hd) (by omega), h.2 d hd]
theorem x_freeDay {pl b c : Nat} (h : BTr m n pd) (hn : n ≤ 7) (hpl : pl < 12) (hb : b < 12) (hc : c < 100) : f_X1_freeDay m (nI pl) (nI b) (nI c) = some (match fnd (freeP n pd pl b c) 0 12 with | some k => nI ((pl + k) % 12) | none => -1, m) := by
  unfold f_X1_freeDay
  have main : ∀ j k F, k + j = 12 → j < F → f_X1_freeDay_3 F m (nI pl) (nI b) (nI c) (nI k) = some (match fnd (freeP n pd pl b c) k j with | some k => nI ((pl + k) % 12) | none => -1, m) := by
    intro j
    induction j with
    | zero =>
      intro k F hk hF
      obtain ⟨F', rfl⟩ : ∃ F', F = F' + 1 := ⟨F - 1, by omega⟩
      obtain rfl : k = 12 := by omega
      show fb_X1_freeDay_3 _ _ _ _ _ _ = _
      unfold fb_X1_freeDay_3
      rw [if_pos (show (12 : Int32) ≤ nI 12 by decide)]; rfl
    | succ j ih =>
      intro k F hk hF
      obtain ⟨F', rfl⟩ : ∃ F', F = F' + 1 := ⟨F - 1, by omega⟩
      show fb_X1_freeDay_3 _ _ _ _ _ _ = _
      unfold fb_X1_freeDay_3
      rw [if_neg (show ¬ (12 : Int32) ≤ nI k from (nI_ge (by omega) (by decide) : ¬ nI 12 ≤ nI k)), nI_add, show (12 : Int32) = nI 12 from rfl, rmI_at (by omega) (by decide) (by decide), Option.bind_some, fnd_s, nI_1]
      have hm : (pl + k) % 12 < 12 := Nat.mod_lt _ (by decide)
      by_cases c1 : (pl + k) % 12 = b
      · rw [if_pos (congrArg nI c1), if_neg (by unfold freeP; rw [decide_eq_false (fun z => z c1)]; exact Bool.false_ne_true)]
        exact ih (k + 1) F' (by omega) (by omega)
      · rw [if_neg (fun z => c1 ((nI_eq (by omega) (by omega)).mp z)), h.g hm, Option.bind_some]
        have hb := mB_le (pd := pd) (d := (pl + k) % 12) n
        by_cases c2 : mB pd ((pl + k) % 12) n < c
        · rw [if_neg (nI_ge c2 (by omega)), if_pos (by unfold freeP; rw [decide_eq_true c1, decide_eq_true c2]; rfl)]
        · rw [if_pos (nI_le (by omega) (by omega)), if_neg (by unfold freeP; rw [decide_eq_false c2, Bool.and_false]; exact Bool.false_ne_true)]
          exact ih (k + 1) F' (by omega) (by omega)
  exact main 12 0 1000 rfl (by decide)
/-- with a crowd of eight the first that is not shunned -/
theorem fnd_8 {pl b : Nat} (hn : n ≤ 7) (hpl : pl < 12) : (match fnd (freeP n pd pl b 8) 0 12 with | some k => nI ((pl + k) % 12) | none => -1) = nI (if b = pl then (pl + 1) % 12 else pl) := by
  have h8 : ∀ d, mB pd d n < 8 := fun d => by have := mB_le (pd := pd) (d := d) n; omega
  have f0 : ∀ k, freeP n pd pl b 8 k = decide (¬ (pl + k) % 12 = b) := fun k => by unfold freeP; rw [decide_eq_true (h8 _), Bool.and_true]
  by_cases c : b = pl
  · subst c
    rw [fnd_s, f0, decide_eq_false (fun z => z (by omega)), if_neg Bool.false_ne_true, fnd_s, f0, decide_eq_true (by omega), if_pos rfl, if_pos rfl]
  · rw [fnd_s, f0, decide_eq_true (by omega), if_pos rfl, if_neg c]
    show nI ((pl + 0) % 12) = nI pl
    congr 1; omega
theorem x_wanted {c p y : Nat} (h : PXr m c n pd) (hb : BTr m n pd) (hc : mR m 2624 = c) (hy : mI m 2627 = nI y) (hy2 : y < 2 ^ 31) (hp : p < n) : f_X1_wanted m (nI p) = some (nI (wishD n pd y p), m) := by
  unfold f_X1_wanted
  have q := that_lt (pd := pd) hp
  have hn := h.2.2.1.1
  obtain ⟨r1, r2, r3, r4, r5, r6⟩ := h.2.2.1.2 p hp
  obtain ⟨g1, g2, g3, g4, g5, g6⟩ := h.g hp
  obtain ⟨t1, t2, t3, t4, t5, t6⟩ := h.g q
  obtain ⟨z1, z2, z3, z4, z5, z6⟩ := h.2.2.1.2 _ q
  rw [hc, chR_t h.c, g4, Option.bind_some, chR_t h.c, h.2.1, if_neg (show ¬ nI n ≤ (0 : Int32) from (nI_ge (by omega) (by omega) : ¬ nI n ≤ nI 0)), chR_t h.c, g2, Option.bind_some, chR_t h.c, h.2.1, rmI_at (by omega) (by omega) (by omega), Option.bind_some]
  show f_X1_wanted_41 m (nI p) (nI (pd 3 p)) (nI (thatO n pd p)) = _
  unfold f_X1_wanted_41 wishD
  rw [hc, chR_t h.c, t3, Option.bind_some, chR_t h.c, g1, Option.bind_some]
  have e8 := x_freeDay (c := 8) hb hn r4 z3 (by decide)
  have e2 := x_freeDay (c := 2) hb hn r4 z3 (by decide)
  rw [fnd_8 hn r4] at e8
  have hbh : (if pd 2 (thatO n pd p) = pd 3 p then (pd 3 p + 1) % 12 else pd 3 p) = behindD n pd p := rfl
  rw [hbh] at e8
  generalize hkd : pd 0 p = kd at r1
  match kd, r1 with
  | 0, _ => rfl
  | 1, _ => show bnd (f_X1_freeDay m (nI (pd 3 p)) (nI (pd 2 (thatO n pd p))) (nI 8)) _ = _; rw [e8]; rfl
  | 2, _ => rfl
  | 3, _ =>
    rw [if_neg (show ¬ nI 3 = 1 by decide), if_neg (show ¬ nI 3 = 2 by decide), if_pos (show nI 3 = 3 from rfl)]
    rw [chR_t h.c, g2, Option.bind_some, nI_add, show (12 : Int32) = nI 12 from rfl, rmI_at (by omega) (by decide) (by decide)]; rfl
  | 4, _ =>
    show bnd (f_X1_freeDay m (nI (pd 3 p)) (nI (pd 2 (thatO n pd p))) (nI 2)) _ = _
    rw [e2, bnd_some]
    show _ = some (nI (shunD n pd p), m)
    unfold shunD
    cases hf : fnd (freeP n pd (pd 3 p) (pd 2 (thatO n pd p)) 2) 0 12 with
    | none =>
      show (if (-1 : Int32) = -1 then bnd (f_X1_freeDay m (nI (pd 3 p)) (nI (pd 2 (thatO n pd p))) (nI 8)) _ else _) = _
      rw [if_pos rfl, e8]; rfl
    | some k =>
      show (if nI ((pd 3 p + k) % 12) = -1 then _ else _) = _
      rw [if_neg (fun z => by
        have e := congrArg Int32.toInt z
        rw [nI_toInt (by omega)] at e
        have e1 : (-1 : Int32).toInt = -1 := by decide
        omega)]
  | 5, _ =>
    rw [if_neg (show ¬ nI 5 = 1 by decide), if_neg (show ¬ nI 5 = 2 by decide), if_neg (show ¬ nI 5 = 3 by decide), if_neg (show ¬ nI 5 = 4 by decide), if_pos (show nI 5 = 5 from rfl)]
    rw [chR_t h.c, t5, Option.bind_some]
    show _ = some (nI (if pd 4 (thatO n pd p) = 0 then pd 3 p else pd 2 (thatO n pd p)), m)
    by_cases k : pd 4 (thatO n pd p) = 0
    · rw [if_pos ((nI_z (by omega)).mpr k), if_pos k]
    · rw [if_neg (fun z => k ((nI_z (by omega)).mp z)), if_neg k]
  | 6, _ =>
    rw [if_neg (show ¬ nI 6 = 1 by decide), if_neg (show ¬ nI 6 = 2 by decide), if_neg (show ¬ nI 6 = 3 by decide), if_neg (show ¬ nI 6 = 4 by decide), if_neg (show ¬ nI 6 = 5 by decide), if_pos (show nI 6 = 6 from rfl), chR_t h.c, hy, show (4 : Int32) = nI 4 from rfl, rmI_at hy2 (by decide) (by decide), Option.bind_some, pk_mul, nI_add, Nat.mul_comm p 4, g6 _ (Nat.mod_lt _ (by decide)), Option.bind_some]; rfl
end DAYS
end
-- 22n.takes.lean.txt
section
/-! WHAT ONE TAKES: the steps of an E, as a stack of truths -/
section TAKES
/-- a pile's bits, the lowest what came last -/
def BT (v : Int32) (st : List Bool) : Prop := ∀ i, i < 32 → v.toBitVec.getLsbD i = st.getD i false
theorem BT.not {v : Int32} {b : Bool} {s : List Bool} (h : BT v (b :: s)) : BT (v ^^^ 1) ((!b) :: s) := by
  intro i hi
  have h1 : (1 : Int32).toBitVec.getLsbD i = decide (i = 0) := by
    show (1#32).getLsbD i = _
    rw [BitVec.getLsbD_one]; simp
  rw [Int32.toBitVec_xor, BitVec.getLsbD_xor, h i hi, h1]
  cases i with
  | zero => simp
  | succ i => simp
theorem shr1 {v : Int32} {i : Nat} : ((((v : Int32).toUInt32 >>> ((1 : Int32).toUInt32 &&& Int32.toUInt32 31)).toInt32) : Int32).toBitVec.getLsbD i = v.toBitVec.getLsbD (i + 1) := by
  show ((v.toUInt32 >>> (1 : UInt32)).toBitVec).getLsbD i = _
  rw [UInt32.toBitVec_shiftRight]
  show (v.toBitVec >>> (1 : Nat)).getLsbD i = _
  rw [BitVec.getLsbD_ushiftRight, Nat.add_comm]
theorem shl1 {v : Int32} {i : Nat} (hi : i < 32) : (v <<< ((1 : Int32) &&& 31)).toBitVec.getLsbD i = (decide (0 < i) && v.toBitVec.getLsbD (i - 1)) := by
  show (v.toBitVec <<< (1 : Nat)).getLsbD i = _
  rw [BitVec.getLsbD_shiftLeft]
  cases i with
  | zero => simp
  | succ i => simp [hi]
theorem BT.and {v : Int32} {b c : Bool} {s : List Bool} (h : BT v (c :: b :: s)) (hs : s.length ≤ 29) : BT ((((v : Int32).toUInt32 >>> ((1 : Int32).toUInt32 &&& Int32.toUInt32 31)).toInt32) &&& (v ||| (-2))) ((b && c) :: s) := by
  intro i hi
  have h1 : (-2 : Int32).toBitVec.getLsbD i = decide (0 < i) := by
    show (~~~(1#32)).getLsbD i = _
    rw [BitVec.getLsbD_not, BitVec.getLsbD_one]; rcases i with _ | i <;> simp [hi]
  rw [Int32.toBitVec_and, BitVec.getLsbD_and, Int32.toBitVec_or, BitVec.getLsbD_or, shr1, h1, h i hi]
  by_cases e : i + 1 < 32
  · rw [h _ e]
    cases i with
    | zero => simp
    | succ i => simp
  · have : i = 31 := by omega
    subst this
    rw [BitVec.getLsbD_of_ge _ _ (by decide)]
    simp [List.getD_eq_getElem?_getD, List.getElem?_eq_none (show s.length ≤ 30 by omega)]
theorem BT.or {v : Int32} {b c : Bool} {s : List Bool} (h : BT v (c :: b :: s)) (hs : s.length ≤ 29) : BT ((((v : Int32).toUInt32 >>> ((1 : Int32).toUInt32 &&& Int32.toUInt32 31)).toInt32) ||| (v &&& 1)) ((b || c) :: s) := by
  intro i hi
  have h1 : (1 : Int32).toBitVec.getLsbD i = decide (i = 0) := by
    show (1#32).getLsbD i = _
    rw [BitVec.getLsbD_one]; simp
  rw [Int32.toBitVec_or, BitVec.getLsbD_or, Int32.toBitVec_and, BitVec.getLsbD_and, shr1, h1, h i hi]
  by_cases e : i + 1 < 32
  · rw [h _ e]
    cases i with
    | zero => simp
    | succ i => simp
  · have : i = 31 := by omega
    subst this
    rw [BitVec.getLsbD_of_ge _ _ (by decide)]
    simp [List.getD_eq_getElem?_getD, List.getElem?_eq_none (show s.length ≤ 30 by omega)]
theorem BT.push {v : Int32} {st : List Bool} {b : Bool} (h : BT v st) : BT ((v <<< ((1 : Int32) &&& 31)) ||| zB b) (b :: st) := by
  intro i hi
  have h1 : (zB b).toBitVec.getLsbD i = (decide (i = 0) && b) := by
    cases b
    · show (0#32).getLsbD i = _
      simp
    · show (1#32).getLsbD i = _
      rw [BitVec.getLsbD_one]; simp
  rw [Int32.toBitVec_or, BitVec.getLsbD_or, shl1 hi, h1]
  cases i with
  | zero => simp
  | succ i => rw [h _ (by omega)]; simp
theorem BT.top {v : Int32} {st : List Bool} (h : BT v st) : (v &&& 1 = 1) ↔ st.getD 0 false = true := by
  rw [← h 0 (by decide)]
  constructor
  · intro e
    have := congrArg (fun x : Int32 => x.toBitVec.getLsbD 0) e
    simpa [Int32.toBitVec_and] using this
  · intro e
    apply Int32.toBitVec_inj.mp
    apply BitVec.eq_of_getLsbD_eq
    intro i hi
    have h1 : (1 : Int32).toBitVec.getLsbD i = decide (i = 0) := by
      show (1#32).getLsbD i = _
      rw [BitVec.getLsbD_one]; simp
    rw [Int32.toBitVec_and, BitVec.getLsbD_and, h1]
    cases i with
    | zero => simp [e]
    | succ i => simp
/-- the facts -/
def facT (n : Nat) (pd : Nat → Nat → Nat) (y p d : Nat) : Nat → Nat
  | 0 => p
  | 1 => pd 0 p
  | 2 => d
  | 3 => mB pd d n
  | 4 => y % 10
  | _ => pd 2 p
def evT (F : Nat → Nat) (t : Int32) : Bool := if t.toInt.toNat / 100 % 10 = 0 then decide (F (t.toInt.toNat / 1000) < t.toInt.toNat % 100) else if t.toInt.toNat / 100 % 10 = 1 then decide (F (t.toInt.toNat / 1000) = t.toInt.toNat % 100) else decide (t.toInt.toNat % 100 < F (t.toInt.toNat / 1000))
def evJ (t : Int32) : List Bool → List Bool
  | b :: s => if t = -33 then (!b) :: s else match s with
    | a :: r => (if t = -38 then (a && b) else (a || b)) :: r
    | [] => [b]
  | [] => []
theorem evJ_n {t : Int32} {b : Bool} {s : List Bool} (h : t = -33) : evJ t (b :: s) = (!b) :: s := if_pos h
theorem evJ_b {t : Int32} {c a : Bool} {s : List Bool} (h : ¬ t = -33) : evJ t (c :: a :: s) = (if t = -38 then (a && c) else (a || c)) :: s := if_neg h
/-- what the steps leave on top -/
def evS (F : Nat → Nat) : List Int32 → List Bool → Bool
  | [], st => st.getD 0 false
  | t :: ts, st => evS F ts (if t = -33 ∨ t = -38 ∨ t = -124 then evJ t st else evT F t :: st)
theorem nI_nj {v : Nat} (h : v < 2 ^ 31) : ¬ (nI v = -33 ∨ nI v = -38 ∨ nI v = -124) := by
  have e1 : (-33 : Int32).toInt = -33 := by decide
  have e2 : (-38 : Int32).toInt = -38 := by decide
  have e3 : (-124 : Int32).toInt = -124 := by decide
  rintro (z | z | z) <;> (have e := congrArg Int32.toInt z; rw [nI_toInt h] at e; omega)
theorem evT_at {F : Nat → Nat} {f s r : Nat} (hf : f < 6) (hs : s < 3) (hr : r < 100) : evT F (nI (1000 * f + 100 * s + r)) = (if s = 0 then decide (F f < r) else if s = 1 then decide (F f = r) else decide (r < F f)) := by
  have e : (nI (1000 * f + 100 * s + r)).toInt.toNat = 1000 * f + 100 * s + r := by rw [nI_toInt (by omega)]; rfl
  unfold evT
  rw [e, show (1000 * f + 100 * s + r) / 100 % 10 = s by omega, show (1000 * f + 100 * s + r) / 1000 = f by omega, show (1000 * f + 100 * s + r) % 100 = r by omega]
/-- what a step may be at a depth -/
theorem wfc_j {d : Nat} {t : Int32} {ts : List Int32} (h : wfc d (t :: ts)) (ht : t = -33 ∨ t = -38 ∨ t = -124) : (t = -33 ∧ 1 ≤ d ∧ wfc d ts) ∨ (¬ t = -33 ∧ (t = -38 ∨ (¬ t = -38 ∧ t = -124)) ∧ 2 ≤ d ∧ wfc (d - 1) ts) := by
  unfold wfc at h
  rcases h with h | ⟨h1, h2⟩ | ⟨h1, ⟨f, s, r, hf, hs, hr, rfl⟩, h2⟩
  · exact Or.inl h
  · right
    rcases h1 with rfl | rfl
    · exact ⟨by decide, Or.inl rfl, h2⟩
    · exact ⟨by decide, Or.inr ⟨by decide, rfl⟩, h2⟩
  · exact absurd ht (nI_nj (by omega))
theorem wfc_t {d : Nat} {t : Int32} {ts : List Int32} (h : wfc d (t :: ts)) (ht : ¬ (t = -33 ∨ t = -38 ∨ t = -124)) : d < 31 ∧ (∃ f s r, f < 6 ∧ s < 3 ∧ r < 100 ∧ t = nI (1000 * f + 100 * s + r)) ∧ wfc (d + 1) ts := by
  unfold wfc at h
  rcases h with h | h | h
  · exact absurd (Or.inl h.1) ht
  · exact absurd (Or.inr h.1) ht
  · exact h
/-- the pile of the reference -/
def PL (l : List Int32) : List Bool → Prop
  | [] => True
  | b :: s => l.getD s.length 0 = zB b ∧ PL l s
theorem PL.set {l : List Int32} {i : Nat} {x : Int32} : ∀ {st : List Bool}, PL l st → st.length ≤ i → PL (l.set i x) st
  | [], _, _ => trivial
  | b :: s, h, hi => ⟨by rw [gd_ne (by simp at hi; omega)]; exact h.1, h.2.set (by simp at hi; omega)⟩
section M
variable {m : mM} {n : Nat} {pd : Nat → Nat → Nat}
theorem m_factOf {p d y f : Nat} (h : PMr m n pd) (hp : p < n) (hd : d < 12) (hy : mI m 2 = nI y) (hy2 : y < 2 ^ 31) (hf : f < 6) : f_X7_factOf m (nI f) (nI p) (nI d) = some (nI (facT n pd y p d f), m) := by
  unfold f_X7_factOf
  match f, hf with
  | 0, _ => rfl
  | 1, _ => show (gA (mA m 1) (nI p)).bind _ = _; rw [(h.g hp).1]; rfl
  | 2, _ => rfl
  | 3, _ => show bnd (f_X7_manyBorn m (nI d)) _ = _; rw [m_manyBorn h hd]; rfl
  | 4, _ => rw [if_neg (show ¬ nI 4 = 0 by decide), if_neg (show ¬ nI 4 = 1 by decide), if_neg (show ¬ nI 4 = 2 by decide), if_neg (show ¬ nI 4 = 3 by decide), if_pos (show nI 4 = 4 from rfl), show (10 : Int32) = nI 10 from rfl, hy, rmI_at hy2 (by decide) (by decide)]; rfl
  | 5, _ => rw [if_neg (show ¬ nI 5 = 0 by decide), if_neg (show ¬ nI 5 = 1 by decide), if_neg (show ¬ nI 5 = 2 by decide), if_neg (show ¬ nI 5 = 3 by decide), if_neg (show ¬ nI 5 = 4 by decide), (h.g hp).2.2.1]; rfl
theorem facT_lt {p d y f : Nat} (h : PDr n pd) (hp : p < n) (hd : d < 12) : facT n pd y p d f < 100 := by
  obtain ⟨r1, r2, r3, r4, r5, r6⟩ := h.2 p hp
  have := mB_le (pd := pd) (d := d) n
  have := h.1
  unfold facT
  split <;> omega
theorem m_holds_lp {p d y c e : Nat} (h : PMr m n pd) (hp : p < n) (hd : d < 12) (hy : mI m 2 = nI y) (hy2 : y < 2 ^ 31) (h13 : gA (mA m 13) (nI c) = some (nI e)) (h14 : (mA m 14).length = 600) (he : e ≤ 600) : ∀ (us : List Int32) (b : Nat) (st : List Bool) (l : List Int32) (F : Nat), b + us.length = e → (∀ k, k < us.length → (mA m 14).getD (b + k) 0 = us.getD k 0) → wfc st.length us → st.length ≤ 31 → PL l st → l.length = 100 → us.length < F → ∃ l', l'.length = 100 ∧ f_X7_holds_11 F (wA m 17 l) (nI c) (nI p) (nI d) (nI st.length) (nI b) = some (zB (evS (facT n pd y p d) us st), wA m 17 l') := by
  intro us
  induction us with
  | nil =>
    intro b st l F hb hs hw hdp hl h100 hF
    obtain ⟨F', rfl⟩ : ∃ F', F = F' + 1 := ⟨F - 1, by omega⟩
    obtain rfl : b = e := hb
    unfold wfc at hw
    refine ⟨l, h100, ?_⟩
    show fb_X7_holds_11 _ (wA m 17 l) _ _ _ _ _ = _
    unfold fb_X7_holds_11
    rw [show mA (wA m 17 l) 13 = mA m 13 from rfl, h13, Option.bind_some, if_pos (nI_le (Nat.le_refl _) (by omega)), show mA (wA m 17 l) 17 = l from rfl, show (0 : Int32) = nI 0 from rfl, gA_at (by omega) (by omega), Option.bind_some]
    match st, hw with
    | [b], _ =>
      rw [show l.getD 0 0 = zB b from hl.1, chZ_zB]; rfl
  | cons t ts ih =>
    intro b st l F hb hs hw hdp hl h100 hF
    obtain ⟨F', rfl⟩ : ∃ F', F = F' + 1 := ⟨F - 1, by omega⟩
    have hb' : b + ts.length + 1 = e := by rw [← hb, List.length_cons]; omega
    have ht0 : (mA m 14).getD b 0 = t := by have := hs 0 (by simp); simpa using this
    have hs' : ∀ k, k < ts.length → (mA m 14).getD (b + 1 + k) 0 = ts.getD k 0 := fun k hk => by
      have := hs (k + 1) (by simp; omega)
      rw [show b + 1 + k = b + (k + 1) by omega, this]; simp
    have hF' : ts.length < F' := by simp at hF; omega
    show ∃ l' : List Int32, l'.length = 100 ∧ fb_X7_holds_11 _ (wA m 17 l) _ _ _ _ _ = _
    unfold fb_X7_holds_11
    rw [show mA (wA m 17 l) 13 = mA m 13 from rfl, show mA (wA m 17 l) 14 = mA m 14 from rfl, show mA (wA m 17 l) 17 = l from rfl, h13, Option.bind_some, if_neg (nI_ge (by omega) (by omega)), gA_at (by omega) (by omega), ht0, Option.bind_some]
    by_cases hj : t = -33 ∨ t = -38 ∨ t = -124
    · rcases wfc_j hw hj with ⟨k1, k2, k3⟩ | ⟨k1, k2, k3, k4⟩
      · match st, k2 with
        | a :: s, _ =>
          rw [if_pos k1]
          have e1 : nI (a :: s).length - 1 = nI s.length := by rw [List.length_cons]; exact nI_pred _
          rw [e1, gA_at (by rw [h100]; simp at hdp; omega) (by simp at hdp; omega), hl.1, Option.bind_some, nI_1]
          have fin : ∀ x : Int32, x = zB (!a) → ∃ l', l'.length = 100 ∧ ((sA 3 (wA m 17 l) 17 (nI s.length) x).bind fun m31 => f_X7_holds_11 F' m31 (nI c) (nI p) (nI d) (nI (a :: s).length) (nI (b + 1))) = some (zB (evS (facT n pd y p d) (t :: ts) (a :: s)), wA m 17 l') := by
            intro x hx
            rw [sA_at3 (by show s.length < l.length; rw [h100]; simp at hdp; omega) (by simp at hdp; omega) (by rw [hx]; exact zB_z _), Option.bind_some, wA_wA, show mA (wA m 17 l) 17 = l from rfl]
            have := ih (b + 1) ((!a) :: s) (l.set s.length x) F' (by omega) hs' k3 hdp ⟨by rw [gd_same (by rw [h100]; simp at hdp; omega), hx], hl.2.set (Nat.le_refl _)⟩ (by rw [List.length_set]; exact h100) hF'
            obtain ⟨l', q1, q2⟩ := this
            refine ⟨l', q1, ?_⟩
            rw [show (a :: s).length = ((!a) :: s).length from rfl, q2]
            show _ = some (zB (evS _ ts (if t = -33 ∨ t = -38 ∨ t = -124 then evJ t (a :: s) else _)), _)
            rw [if_pos hj]
            rw [evJ_n k1]
          cases a with
          | false => rw [if_pos zB_f]; exact fin _ rfl
          | true => rw [if_neg (show ¬ zB true = 0 by decide)]; exact fin _ rfl
      · match st, k3 with
        | c2 :: a :: s, _ =>
          have hl2 : s.length + 2 ≤ 31 := by simpa using hdp
          have e0 : nI (c2 :: a :: s).length + (-1) = nI (s.length + 1) := by
            rw [← Int32.sub_eq_add_neg]
            exact nI_pred _
          rw [e0, nI_pred, if_neg k1]
          have fin : ∀ x : Int32, x = zB (if t = -38 then (a && c2) else (a || c2)) → ∃ l', l'.length = 100 ∧ ((sA 3 (wA m 17 l) 17 (nI s.length) x).bind fun m31 => f_X7_holds_11 F' m31 (nI c) (nI p) (nI d) (nI (s.length + 1)) (nI b + 1)) = some (zB (evS (facT n pd y p d) (t :: ts) (c2 :: a :: s)), wA m 17 l') := by
            intro x hx
            rw [sA_at3 (by show s.length < l.length; omega) (by omega) (by rw [hx]; exact zB_z _), Option.bind_some, wA_wA, show mA (wA m 17 l) 17 = l from rfl, nI_1]
            have := ih (b + 1) ((if t = -38 then (a && c2) else (a || c2)) :: s) (l.set s.length x) F' (by omega) hs' k4 (by simp at hdp ⊢; omega) ⟨by rw [gd_same (by omega), hx], hl.2.2.set (Nat.le_refl _)⟩ (by rw [List.length_set]; exact h100) hF'
            obtain ⟨l', q1, q2⟩ := this
            refine ⟨l', q1, ?_⟩
            rw [show nI (s.length + 1) = nI ((if t = -38 then (a && c2) else (a || c2)) :: s).length from rfl, q2]
            show _ = some (zB (evS _ ts (if t = -33 ∨ t = -38 ∨ t = -124 then evJ t (c2 :: a :: s) else _)), _)
            rw [if_pos hj]
            rw [evJ_b k1]
          have ga : gA l (nI s.length) = some (zB a) := by rw [gA_at (by omega) (by omega), hl.2.1]
          have gc : gA l (nI (s.length + 1)) = some (zB c2) := by rw [gA_at (by omega) (by omega)]; exact congrArg some hl.1
          rw [ga, gc]
          rcases k2 with k2 | ⟨k2, k2'⟩
          · rw [if_neg (by rw [k2]; decide), if_pos k2, Option.bind_some]
            rw [if_pos k2] at fin
            cases a with
            | false => rw [if_pos zB_f]; exact fin _ rfl
            | true =>
              rw [if_neg (show ¬ zB true = 0 by decide), Option.bind_some]
              cases c2 with
              | false => rw [if_pos zB_f]; exact fin _ rfl
              | true => rw [if_neg (show ¬ zB true = 0 by decide)]; exact fin _ rfl
          · rw [if_neg (by rw [k2']; decide), if_neg k2, Option.bind_some]
            rw [if_neg k2] at fin
            cases a with
            | true => rw [if_neg (show ¬ zB true = 0 by decide)]; exact fin _ rfl
            | false =>
              rw [if_pos zB_f, Option.bind_some]
              cases c2 with
              | false => rw [if_pos zB_f]; exact fin _ rfl
              | true => rw [if_neg (show ¬ zB true = 0 by decide)]; exact fin _ rfl
    · obtain ⟨k1, ⟨f, s, r, hf, hs3, hr, rfl⟩, k3⟩ := wfc_t hw hj
      have hv : 1000 * f + 100 * s + r < 2 ^ 31 := by omega
      have hF2 : PMr (wA m 17 l) n pd := h
      have hfl := facT_lt (y := y) (f := f) h.2.1 hp hd
      rw [if_neg (fun z => hj (Or.inl z)), if_pos (show (0 : Int32) ≤ nI (1000 * f + 100 * s + r) from (nI_le (Nat.zero_le _) hv : nI 0 ≤ _)), show (1000 : Int32) = nI 1000 from rfl, dvI_at hv (by decide) (by decide), Option.bind_some, show (1000 * f + 100 * s + r) / 1000 = f by omega, m_factOf hF2 hp hd hy hy2 hf, bnd_some, show (100 : Int32) = nI 100 from rfl, dvI_at hv (by decide) (by decide), Option.bind_some, show (10 : Int32) = nI 10 from rfl, rmI_at (by omega) (by decide) (by decide), Option.bind_some, show (1000 * f + 100 * s + r) / 100 % 10 = s by omega, rmI_at hv (by decide) (by decide), Option.bind_some, show (1000 * f + 100 * s + r) % 100 = r by omega]
      have fin : ∀ x : Int32, x = zB (evT (facT n pd y p d) (nI (1000 * f + 100 * s + r))) → ∃ l', l'.length = 100 ∧ ((sA 3 (wA m 17 l) 17 (nI st.length) x).bind fun m31 => f_X7_holds_11 F' m31 (nI c) (nI p) (nI d) (nI st.length + 1) (nI b + 1)) = some (zB (evS (facT n pd y p d) (nI (1000 * f + 100 * s + r) :: ts) st), wA m 17 l') := by
        intro x hx
        rw [sA_at3 (by show st.length < l.length; omega) (by omega) (by rw [hx]; exact zB_z _), Option.bind_some, wA_wA, show mA (wA m 17 l) 17 = l from rfl, nI_1, nI_1]
        have := ih (b + 1) (evT (facT n pd y p d) (nI (1000 * f + 100 * s + r)) :: st) (l.set st.length x) F' (by omega) hs' k3 (by simp; omega) ⟨by rw [gd_same (by omega), hx], hl.set (Nat.le_refl _)⟩ (by rw [List.length_set]; exact h100) hF'
        obtain ⟨l', q1, q2⟩ := this
        refine ⟨l', q1, ?_⟩
        rw [show nI (st.length + 1) = nI (evT (facT n pd y p d) (nI (1000 * f + 100 * s + r)) :: st).length from rfl, q2]
        show _ = some (zB (evS _ ts (if _ ∨ _ ∨ _ then _ else _)), _)
        rw [if_neg hj]
      rw [evT_at hf hs3 hr] at fin
      generalize facT n pd y p d f = x at *
      match s, hs3 with
      | 0, _ =>
        rw [if_pos (show nI 0 = 0 from rfl)]
        by_cases e : x < r
        · rw [if_neg (nI_ge e (by omega))]; exact fin _ (by rw [if_pos rfl, decide_eq_true e]; rfl)
        · rw [if_pos (nI_le (by omega) (by omega))]; exact fin _ (by rw [if_pos rfl, decide_eq_false e]; rfl)
      | 1, _ =>
        rw [if_neg (show ¬ nI 1 = 0 by decide), if_pos (show nI 1 = 1 from rfl), Option.bind_some]
        by_cases e : x = r
        · rw [if_pos (congrArg nI e)]; exact fin _ (by rw [if_neg (by decide), if_pos rfl, decide_eq_true e]; rfl)
        · rw [if_neg (fun z => e ((nI_eq (by omega) (by omega)).mp z))]; exact fin _ (by rw [if_neg (by decide), if_pos rfl, decide_eq_false e]; rfl)
      | 2, _ =>
        rw [if_neg (show ¬ nI 2 = 0 by decide), if_neg (show ¬ nI 2 = 1 by decide), Option.bind_some]
        by_cases e : r < x
        · rw [if_neg (nI_ge e (by omega))]; exact fin _ (by rw [if_neg (by decide), if_neg (by decide), decide_eq_true e]; rfl)
        · rw [if_pos (nI_le (by omega) (by omega))]; exact fin _ (by rw [if_neg (by decide), if_neg (by decide), decide_eq_false e]; rfl)
end M
end TAKES
end
-- 22o.allows.lean.txt
section
/-! WHAT ONE TAKES: the class's allows; the sums -/
section ALLOWS
variable {m : mM} {n : Nat} {pd : Nat → Nat → Nat}
theorem x_valueOf {c p d y f : Nat} (h : PXr m c n pd) (hb : BTr m n pd) (hc : mR m 2624 = c) (hy : mI m 2627 = nI y) (hy2 : y < 2 ^ 31) (hp : p < n) (hd : d < 12) (hf : f < 6) : f_X1_valueOf m (nI ([112, 107, 100, 99, 121, 98].getD f 0)) (nI p) (nI d) = some (nI (facT n pd y p d f), m) := by
  unfold f_X1_valueOf
  obtain ⟨g1, g2, g3, g4, g5, g6⟩ := h.g hp
  match f, hf with
  | 0, _ => rw [if_neg (show ¬ nI ([112, 107, 100, 99, 121, 98].getD 0 0) = 99 by decide), if_neg (show ¬ nI ([112, 107, 100, 99, 121, 98].getD 0 0) = 100 by decide), if_neg (show ¬ nI ([112, 107, 100, 99, 121, 98].getD 0 0) = 107 by decide), if_pos (show nI ([112, 107, 100, 99, 121, 98].getD 0 0) = 112 from rfl)]; rfl
  | 1, _ => rw [if_neg (show ¬ nI ([112, 107, 100, 99, 121, 98].getD 1 0) = 99 by decide), if_neg (show ¬ nI ([112, 107, 100, 99, 121, 98].getD 1 0) = 100 by decide), if_pos (show nI ([112, 107, 100, 99, 121, 98].getD 1 0) = 107 from rfl), hc, chR_t h.c, g1]; rfl
  | 2, _ => rw [if_neg (show ¬ nI ([112, 107, 100, 99, 121, 98].getD 2 0) = 99 by decide), if_pos (show nI ([112, 107, 100, 99, 121, 98].getD 2 0) = 100 from rfl)]; rfl
  | 3, _ => rw [if_pos (show nI ([112, 107, 100, 99, 121, 98].getD 3 0) = 99 from rfl), hb.g hd]; rfl
  | 4, _ => rw [if_neg (show ¬ nI ([112, 107, 100, 99, 121, 98].getD 4 0) = 99 by decide), if_neg (show ¬ nI ([112, 107, 100, 99, 121, 98].getD 4 0) = 100 by decide), if_neg (show ¬ nI ([112, 107, 100, 99, 121, 98].getD 4 0) = 107 by decide), if_neg (show ¬ nI ([112, 107, 100, 99, 121, 98].getD 4 0) = 112 by decide), if_pos (show nI ([112, 107, 100, 99, 121, 98].getD 4 0) = 121 from rfl), hy, show (10 : Int32) = nI 10 from rfl, rmI_at hy2 (by decide) (by decide)]; rfl
  | 5, _ => rw [if_neg (show ¬ nI ([112, 107, 100, 99, 121, 98].getD 5 0) = 99 by decide), if_neg (show ¬ nI ([112, 107, 100, 99, 121, 98].getD 5 0) = 100 by decide), if_neg (show ¬ nI ([112, 107, 100, 99, 121, 98].getD 5 0) = 107 by decide), if_neg (show ¬ nI ([112, 107, 100, 99, 121, 98].getD 5 0) = 112 by decide), if_neg (show ¬ nI ([112, 107, 100, 99, 121, 98].getD 5 0) = 121 by decide), hc, chR_t h.c, g3]; rfl
/-- a step of the class -/
def STx (m : mM) (a k : Nat) (t : Int32) : Prop := cdX ((mA m (a + 1)).getD k 0) ((mA m (a + 2)).getD k 0) ((mA m (a + 3)).getD k 0) = t ∧
    (((mA m (a + 1)).getD k 0 = 33 ∨ (mA m (a + 1)).getD k 0 = 38 ∨ (mA m (a + 1)).getD k 0 = 124) ∨ ∃ f s r, f < 6 ∧ s < 3 ∧ r < 100 ∧ (mA m (a + 1)).getD k 0 = nI ([112, 107, 100, 99, 121, 98].getD f 0) ∧ (mA m (a + 2)).getD k 0 = nI (60 + s) ∧ (mA m (a + 3)).getD k 0 = nI r)
theorem ltF_at {f : Nat} (hf : f < 6) : ltF (nI ([112, 107, 100, 99, 121, 98].getD f 0)) = f ∧ ¬ nI ([112, 107, 100, 99, 121, 98].getD f 0) = 33 ∧ ¬ nI ([112, 107, 100, 99, 121, 98].getD f 0) = 38 ∧ ¬ nI ([112, 107, 100, 99, 121, 98].getD f 0) = 124 := by
  match f, hf with
  | 0, _ => decide
  | 1, _ => decide
  | 2, _ => decide
  | 3, _ => decide
  | 4, _ => decide
  | 5, _ => decide
theorem cdX_at {f s r : Nat} (hf : f < 6) (hs : s < 3) : cdX (nI ([112, 107, 100, 99, 121, 98].getD f 0)) (nI (60 + s)) (nI r) = nI (1000 * f + 100 * s + r) := by
  obtain ⟨e1, e2, e3, e4⟩ := ltF_at hf
  have e5 : nI (60 + s) - 60 = nI s := by
    match s, hs with
    | 0, _ => decide
    | 1, _ => decide
    | 2, _ => decide
  unfold cdX
  rw [if_neg (fun z => by rcases z with z | z | z; exact e2 z; exact e3 z; exact e4 z), e1, e5, show (100 : Int32) = nI 100 from rfl, pk_mul, nI_add, nI_add]
theorem x_allows_lp {c p d y a e : Nat} (h : PXr m c n pd) (hb : BTr m n pd) (hc : mR m 2624 = c) (hy : mI m 2627 = nI y) (hy2 : y < 2 ^ 31) (hp : p < n) (hd : d < 12) (hX : TXh m a) (he : e ≤ 100) : ∀ (us : List Int32) (b : Nat) (st : List Bool) (v : Int32) (F : Nat), b + us.length = e → (∀ k, k < us.length → STx m a (b + k) (us.getD k 0)) → wfc st.length us → st.length ≤ 31 → BT v st → us.length < F → f_X1_allows_6 F m a (nI e) (nI p) (nI d) v (nI b) = some (zB (evS (facT n pd y p d) us st), m) := by
  intro us
  induction us with
  | nil =>
    intro b st v F hbe hs hw hdp hv hF
    obtain ⟨F', rfl⟩ : ∃ F', F = F' + 1 := ⟨F - 1, by omega⟩
    obtain rfl : b = e := hbe
    show fb_X1_allows_6 _ _ _ _ _ _ _ _ = _
    unfold fb_X1_allows_6
    rw [if_pos (nI_le (Nat.le_refl _) (by omega))]
    show _ = some (zB (st.getD 0 false), m)
    cases hz : st.getD 0 false with
    | true => rw [if_pos (hv.top.mpr hz)]; rfl
    | false => rw [if_neg (fun z => by rw [hv.top.mp z] at hz; cases hz)]; rfl
  | cons t ts ih =>
    intro b st v F hbe hs hw hdp hv hF
    obtain ⟨F', rfl⟩ : ∃ F', F = F' + 1 := ⟨F - 1, by omega⟩
    have hb' : b + ts.length + 1 = e := by rw [← hbe, List.length_cons]; omega
    have ht0 : STx m a b t := by have := hs 0 (by simp); simpa using this
    have hs' : ∀ k, k < ts.length → STx m a (b + 1 + k) (ts.getD k 0) := fun k hk => by
      have := hs (k + 1) (by simp; omega)
      rw [show b + 1 + k = b + (k + 1) by omega]; simpa using this
    have hF' : ts.length < F' := by simp at hF; omega
    obtain ⟨x1, x2, x3, -, -⟩ := hX
    show fb_X1_allows_6 _ _ _ _ _ _ _ _ = _
    unfold fb_X1_allows_6
    rw [if_neg (nI_ge (by omega) (by omega)), gA_at (by omega) (by omega), Option.bind_some]
    obtain ⟨q1, q2⟩ := ht0
    rcases q2 with q2 | ⟨f, s, r, hf, hs3, hr, k1, k2, k3⟩
    · have q1' : -(mA m (a + 1)).getD b 0 = t := by unfold cdX at q1; rw [if_pos q2] at q1; exact q1
      have hj : t = -33 ∨ t = -38 ∨ t = -124 := by
        rcases q2 with z | z | z <;> rw [z] at q1'
        · exact Or.inl q1'.symm
        · exact Or.inr (Or.inl q1'.symm)
        · exact Or.inr (Or.inr q1'.symm)
      have e2 : evS (facT n pd y p d) (t :: ts) st = evS (facT n pd y p d) ts (evJ t st) := by
        show evS _ ts (if _ ∨ _ ∨ _ then _ else _) = _
        rw [if_pos hj]
      rw [e2]
      rcases wfc_j hw hj with ⟨w1, w2, w3⟩ | ⟨w1, w2, w3, w4⟩
      · match st, w2 with
        | o :: u, _ =>
          have e3 : (mA m (a + 1)).getD b 0 = 33 := by
            rcases q2 with z | z | z
            · exact z
            · rw [z, w1] at q1'; exact absurd q1' (by decide)
            · rw [z, w1] at q1'; exact absurd q1' (by decide)
          rw [if_pos e3, nmI_eq, evJ_n w1, nI_1]
          exact ih (b + 1) _ _ F' (by omega) hs' w3 hdp hv.not hF'
      · match st, w3 with
        | o :: o2 :: u, _ =>
          have hl2 : u.length ≤ 29 := by simp at hdp; omega
          rw [evJ_b w1]
          rcases w2 with w2 | ⟨w2, w2'⟩
          · have e3 : (mA m (a + 1)).getD b 0 = 38 := by
              rcases q2 with z | z | z
              · rw [z, w2] at q1'; exact absurd q1' (by decide)
              · exact z
              · rw [z, w2] at q1'; exact absurd q1' (by decide)
            rw [e3, if_neg (by decide), if_pos rfl, nmI_eq, if_pos w2, nI_1]
            exact ih (b + 1) _ _ F' (by omega) hs' w4 (by simp at hdp ⊢; omega) (hv.and hl2) hF'
          · have e3 : (mA m (a + 1)).getD b 0 = 124 := by
              rcases q2 with z | z | z
              · rw [z, w2'] at q1'; exact absurd q1' (by decide)
              · rw [z, w2'] at q1'; exact absurd q1' (by decide)
              · exact z
            rw [e3, if_neg (by decide), if_neg (by decide), if_pos rfl, nmI_eq, if_neg w2, nI_1]
            exact ih (b + 1) _ _ F' (by omega) hs' w4 (by simp at hdp ⊢; omega) (hv.or hl2) hF'
    · have q1' : t = nI (1000 * f + 100 * s + r) := by rw [← q1, k1, k2, k3, cdX_at hf hs3]
      subst q1'
      have hj : ¬ (nI (1000 * f + 100 * s + r) = -33 ∨ nI (1000 * f + 100 * s + r) = -38 ∨ nI (1000 * f + 100 * s + r) = -124) := nI_nj (by omega)
      have e2 : evS (facT n pd y p d) (nI (1000 * f + 100 * s + r) :: ts) st = evS (facT n pd y p d) ts (evT (facT n pd y p d) (nI (1000 * f + 100 * s + r)) :: st) := by
        show evS _ ts (if _ ∨ _ ∨ _ then _ else _) = _
        rw [if_neg hj]
      obtain ⟨w1, -, w3⟩ := wfc_t hw hj
      obtain ⟨l1, l2, l3, l4⟩ := ltF_at hf
      have hfl := facT_lt (y := y) (f := f) h.2.2.1 hp hd
      have fin : ∀ q, q < 3 → decide (q = s) = evT (facT n pd y p d) (nI (1000 * f + 100 * s + r)) → f_X1_allows_127 (fun m y1 y3 y4 y5 y6 y7 => f_X1_allows_6 F' m y1 y3 y4 y5 y6 y7) m a (nI e) (nI p) (nI d) v (nI b) (nI (60 + q)) = some (zB (evS (facT n pd y p d) (nI (1000 * f + 100 * s + r) :: ts) st), m) := by
        intro q hq hqs
        unfold f_X1_allows_127
        rw [gA_at (by omega) (by omega), k2, Option.bind_some, e2, ← hqs, nI_1]
        by_cases z : q = s
        · rw [if_pos (congrArg nI (congrArg (60 + ·) z)), nmI_eq, decide_eq_true z]
          exact ih (b + 1) _ _ F' (by omega) hs' w3 (by simp; omega) (hv.push (b := true)) hF'
        · rw [if_neg (fun w => z (by have := (nI_eq (by omega) (by omega)).mp w; omega)), nmI_eq, decide_eq_false z]
          exact ih (b + 1) _ _ F' (by omega) hs' w3 (by simp; omega) (hv.push (b := false)) hF'
      rw [k1, if_neg l2, if_neg l3, if_neg l4, x_valueOf h hb hc hy hy2 hp hd hf, bnd_some, gA_at (by omega) (by omega), k3, Option.bind_some]
      rw [evT_at hf hs3 hr] at fin
      generalize facT n pd y p d f = x at *
      have fs : s = 0 ∨ s = 1 ∨ s = 2 := by omega
      by_cases o1 : r ≤ x
      · rw [if_pos (nI_le o1 (by omega))]
        by_cases o2 : x = r
        · rw [if_pos (congrArg nI o2)]
          refine fin 1 (by decide) ?_
          rcases fs with rfl | rfl | rfl <;> simp <;> omega
        · rw [if_neg (fun z => o2 ((nI_eq (by omega) (by omega)).mp z))]
          refine fin 2 (by decide) ?_
          rcases fs with rfl | rfl | rfl <;> simp <;> omega
      · rw [if_neg (nI_ge (by omega) (by omega))]
        refine fin 0 (by decide) ?_
        rcases fs with rfl | rfl | rfl <;> simp <;> omega
/-- the sum of what the takes give -/
def tkV (F : Nat → Nat) : List (Nat × List Int32) → Int32 → Int32
  | [], s => 10 * s
  | c :: cs, s => tkV F cs (if evS F c.2 [] = true then s + nI c.1 else s)
def takV (F : Nat → Nat) (tk : List (Nat × List Int32)) : Int32 := if tk = [] then 100 else tkV F tk 0
theorem tkE0 {L : List (Nat × List Int32)} : tkE L 0 = 0 := by cases L <;> rfl
theorem tkE_s {L : List (Nat × List Int32)} : ∀ {i : Nat}, i < L.length → tkE L (i + 1) = tkE L i + (L.getD i (0, [])).2.length := by
  induction L with
  | nil => intro i h; exact absurd h (by simp)
  | cons c cs ih =>
    intro i h
    cases i with
    | zero => show c.2.length + tkE cs 0 = 0 + _; cases cs <;> simp [tkE]
    | succ i =>
      show c.2.length + tkE cs (i + 1) = c.2.length + tkE cs i + _
      rw [ih (by simpa using h)]; simp; omega
theorem tkE_le {L : List (Nat × List Int32)} : ∀ {j i : Nat}, i + j = L.length → tkE L i ≤ tkE L L.length := by
  intro j
  induction j with
  | zero => intro i h; rw [← h]; exact Nat.le_refl _
  | succ j ih =>
    intro i h
    have := ih (i := i + 1) (by omega)
    rw [tkE_s (by omega)] at this; omega
theorem x_takes_lp {c p d y a t : Nat} {cs : List CL} (h : PXr m c n pd) (hb : BTr m n pd) (hc : mR m 2624 = c) (hy : mI m 2627 = nI y) (hy2 : y < 2 ^ 31) (hp : p < n) (hd : d < 12) (hX : TXh m a) {T : TW} (hT : TXe m a T) (hw : ∀ x ∈ T.2.2.2, wfc 0 x.2) (hl : T.2.2.2.length ≤ 10) : ∀ (j i : Nat) (s : Int32) (F : Nat), i + j = T.2.2.2.length → j < F → f_X1_takes_27 F m (nI p) (nI d) a s (nI (tkE T.2.2.2 i)) (nI i) = some (tkV (facT n pd y p d) (T.2.2.2.drop i) s, m) := by
  intro j
  obtain ⟨⟨t1, t2, t3, t4⟩, t5, t6, t7⟩ := hT
  induction j with
  | zero =>
    intro i s F hi hF
    obtain ⟨F', rfl⟩ : ∃ F', F = F' + 1 := ⟨F - 1, by omega⟩
    show fb_X1_takes_27 _ _ _ _ _ _ _ _ = _
    unfold fb_X1_takes_27
    rw [t4, if_pos (nI_le (by omega) (by omega)), List.drop_of_length_le (by omega)]; rfl
  | succ j ih =>
    intro i s F hi hF
    obtain ⟨F', rfl⟩ : ∃ F', F = F' + 1 := ⟨F - 1, by omega⟩
    show fb_X1_takes_27 _ _ _ _ _ _ _ _ = _
    unfold fb_X1_takes_27
    obtain ⟨g1, g2⟩ := t5 i (by omega)
    have hle := tkE_le (L := T.2.2.2) (j := j) (i := i + 1) (by omega)
    have hsu := tkE_s (L := T.2.2.2) (i := i) (by omega)
    have hmem : T.2.2.2.getD i (0, []) ∈ T.2.2.2 := by
      rw [List.getD_eq_getElem?_getD, List.getElem?_eq_getElem (by omega)]
      exact List.getElem_mem _
    have hal := x_allows_lp h hb hc hy hy2 hp hd hX (e := tkE T.2.2.2 (i + 1)) (by omega) (T.2.2.2.getD i (0, [])).2 (tkE T.2.2.2 i) [] 0 1000 (by omega) (fun k hk => t7 i (by omega) k hk) (hw _ hmem) (by simp) (fun i hi => by
      show (0#32).getLsbD i = _
      simp) (by omega)
    obtain ⟨x1, x2, x3, x4, x5⟩ := hX
    rw [t4, if_neg (nI_ge (by omega) (by omega)), gA_at (by omega) (by omega), g2, Option.bind_some]
    show bnd (f_X1_allows_6 1000 m a (nI (tkE T.2.2.2 (i + 1))) (nI p) (nI d) 0 (nI (tkE T.2.2.2 i))) _ = _
    rw [hal, bnd_some, dropD (d := (0, [])) (show i < T.2.2.2.length by omega), tkV]
    cases evS (facT n pd y p d) (T.2.2.2.getD i (0, [])).2 [] with
    | false =>
      rw [if_pos zB_f, if_neg Bool.false_ne_true]
      unfold f_X1_takes_67
      rw [gA_at (by omega) (by omega), g2, Option.bind_some, nI_1]
      exact ih (i + 1) s F' (by omega) (by omega)
    | true =>
      rw [if_neg (show ¬ zB true = 0 by decide), if_pos rfl, gA_at (by omega) (by omega), g1, Option.bind_some, nmI_eq]
      unfold f_X1_takes_67
      rw [gA_at (by omega) (by omega), g2, Option.bind_some, nI_1]
      exact ih (i + 1) _ F' (by omega) (by omega)
theorem clTk_len : ∀ {cs : List CL}, (clTk cs).length ≤ cs.length
  | [] => Nat.le_refl _
  | c :: cs => by
    have := clTk_len (cs := cs)
    unfold clTk
    split <;> simp <;> omega
theorem clTk_ok : ∀ {cs : List CL}, (∀ c ∈ cs, clOk c) → ∀ x ∈ clTk cs, wfc 0 x.2
  | [], _, x, hx => absurd hx (by simp [clTk])
  | c :: cs, h, x, hx => by
    have ih := clTk_ok (cs := cs) (fun c hc => h c (List.mem_cons_of_mem _ hc))
    unfold clTk at hx
    split at hx
    · rename_i z
      rcases List.mem_cons.mp hx with rfl | hx
      · exact (h c (List.mem_cons_self ..)).2.2 z
      · exact ih x hx
    · exact ih x hx
/-- the town of a state of the class -/
def TXr (m : mM) (c t : Nat) (cs : List CL) : Prop := t ≤ 6 ∧ mR m (64 * c + 4) = twA t ∧ TXh m (twA t) ∧ TXe m (twA t) (twOf cs) ∧ (∀ c ∈ cs, clOk c) ∧ cs.length ≤ 10
theorem x_takes {c p d y t : Nat} {cs : List CL} (h : PXr m c n pd) (hb : BTr m n pd) (hc : mR m 2624 = c) (hy : mI m 2627 = nI y) (hy2 : y < 2 ^ 31) (hp : p < n) (hd : d < 12) (ht : TXr m c t cs) : f_X1_takes m (nI p) (nI d) = some (takV (facT n pd y p d) (clTk cs), m) := by
  unfold f_X1_takes
  obtain ⟨t1, t2, t3, t4, t5, t6⟩ := ht
  have hl := clTk_len (cs := cs)
  rw [hc, chR_t h.c, t2, chR_t (twA_ok t1), show mI m (64 * twA t + 3) = nI (clTk cs).length from t4.1.2.2.2]
  unfold takV
  by_cases e : clTk cs = []
  · rw [if_pos e, if_pos (by rw [e]; rfl)]
  · rw [if_neg e, if_neg (fun z => e (List.length_eq_zero_iff.mp ((nI_z (by omega)).mp z)))]
    have r := x_takes_lp (t := t) (cs := cs) h hb hc hy hy2 hp hd t3 t4 (clTk_ok t5) (by show (clTk cs).length ≤ 10; omega) (clTk cs).length 0 0 1000 (by show 0 + _ = (clTk cs).length; omega) (by omega)
    rw [tkE0, List.drop_zero] at r
    exact r
theorem m_takes {p d y tw : Nat} {cs : List CL} (h : PT m n pd tw cs) (h17 : (mA m 17).length = 100) (hp : p < n) (hd : d < 12) (hy : mI m 2 = nI y) (hy2 : y < 2 ^ 31) : ∃ l : List Int32, l.length = 100 ∧ f_X7_takesOf m (nI p) (nI d) = some (takV (facT n pd y p d) (clTk cs), wA m 17 l) := by
  unfold f_X7_takesOf
  rw [m_clauseFrom h.2, bnd_some]
  have hl := h.2.len
  have htw := h.2.1
  have main : ∀ (j c : Nat) (s : Int32) (q : Bool) (l : List Int32) (F : Nat), c + j = cs.length → j < F → l.length = 100 → ∃ l' : List Int32, l'.length = 100 ∧ f_X7_takesOf_11 F (wA m 17 l) (nI p) (nI d) s (zB q) (nI (10 * (tw - 1) + c)) = some (if q = false ∧ clTk (cs.drop c) = [] then 100 else tkV (facT n pd y p d) (clTk (cs.drop c)) s, wA m 17 l') := by
    intro j
    induction j with
    | zero =>
      intro c s q l F hc hF hl1
      obtain ⟨F', rfl⟩ : ∃ F', F = F' + 1 := ⟨F - 1, by omega⟩
      have hM : MCl (wA m 17 l) tw cs := h.2
      refine ⟨l, hl1, ?_⟩
      show fb_X7_takesOf_11 _ _ _ _ _ _ _ = _
      unfold fb_X7_takesOf_11
      rw [m_clauseTo hM, bnd_some, if_pos (nI_le (by omega) (by omega)), List.drop_of_length_le (by omega)]
      cases q with
      | false => rw [if_pos zB_f, if_pos ⟨rfl, rfl⟩]
      | true => rw [if_neg (show ¬ zB true = 0 by decide), if_neg (fun z => by cases z.1)]; rfl
    | succ j ih =>
      intro c s q l F hc hF hl1
      obtain ⟨F', rfl⟩ : ∃ F', F = F' + 1 := ⟨F - 1, by omega⟩
      have hM : MCl (wA m 17 l) tw cs := h.2
      have hP : PMr (wA m 17 l) n pd := h.1
      have hok := hM.ok (c := c) (by omega)
      have hk1 := hok.1
      show ∃ l' : List Int32, l'.length = 100 ∧ fb_X7_takesOf_11 _ _ _ _ _ _ _ = _
      unfold fb_X7_takesOf_11
      rw [m_clauseTo hM, bnd_some, if_neg (nI_ge (by omega) (by omega)), (hM.at (c := c) (by omega)).1, Option.bind_some, dropD (d := (0, 0, [])) (show c < cs.length by omega), clTk]
      by_cases e : (cs.getD c (0, 0, [])).1 = 0
      · rw [if_pos ((nI_z (by omega)).mpr e), if_pos e]
        have ht : 0 < tw := by
          rcases tw with _ | t
          · rw [h.2.2.2.2.2.1 rfl] at hc; simp at hc
          · omega
        obtain ⟨k1, k2, k3⟩ := h.2.2.2.2.2.2 ht
        obtain ⟨a, b1, b2, b3, b4⟩ := (k3 c (by omega)).2.2 e
        have hmh := h.2.2.2.1
        obtain ⟨l', q1, q2⟩ := m_holds_lp (m := wA m 17 l) (c := 10 * (tw - 1) + c) hP hp hd hy hy2 (by rw [show mA (wA m 17 l) 13 = mA m 13 from rfl, gA_at (by rw [hmh.2.2.2.2.1]; omega) (by omega), b3]) hmh.2.2.2.2.2.1 (by omega) (cs.getD c (0, 0, [])).2.2 a [] l 1000 rfl b4 (hok.2.2 e) (by simp) trivial hl1 (by omega)
        have q3 : f_X7_holds (wA m 17 l) (nI (10 * (tw - 1) + c)) (nI p) (nI d) = some (zB (evS (facT n pd y p d) (cs.getD c (0, 0, [])).2.2 []), wA m 17 l') := by
          unfold f_X7_holds
          rw [show mA (wA m 17 l) 12 = mA m 12 from rfl, gA_at (by rw [hmh.2.2.2.1]; omega) (by omega), b2, Option.bind_some]
          rw [wA_wA, wA_wA] at q2
          exact q2
        rw [q3, bnd_some]
        have hM' : MCl (wA m 17 l') tw cs := h.2
        have fin : ∀ s' : Int32, s' = (if evS (facT n pd y p d) (cs.getD c (0, 0, [])).2.2 [] = true then s + nI (cs.getD c (0, 0, [])).2.1 else s) → ∃ l'' : List Int32, l''.length = 100 ∧ f_X7_takesOf_11 F' (wA m 17 l') (nI p) (nI d) s' 1 (nI (10 * (tw - 1) + c) + 1) = some (if q = false ∧ ((cs.getD c (0, 0, [])).2.1, (cs.getD c (0, 0, [])).2.2) :: clTk (cs.drop (c + 1)) = [] then 100 else tkV (facT n pd y p d) (((cs.getD c (0, 0, [])).2.1, (cs.getD c (0, 0, [])).2.2) :: clTk (cs.drop (c + 1))) s, wA m 17 l'') := by
          intro s' hs'
          obtain ⟨l'', r1, r2⟩ := ih (c + 1) s' true l' F' (by omega) (by omega) q1
          refine ⟨l'', r1, ?_⟩
          rw [nI_1, show (1 : Int32) = zB true from rfl, Nat.add_assoc, r2, if_neg (fun z => by cases z.1), if_neg (fun z => by cases z.2), tkV, hs']
        cases hz : evS (facT n pd y p d) (cs.getD c (0, 0, [])).2.2 [] with
        | false =>
          rw [if_pos zB_f, nmI_eq]
          exact fin _ (by rw [hz, if_neg Bool.false_ne_true, Int32.add_zero])
        | true =>
          rw [if_neg (show ¬ zB true = 0 by decide), (hM'.at (c := c) (by omega)).2, Option.bind_some, nmI_eq]
          exact fin _ (by rw [hz, if_pos rfl])
      · rw [if_neg (fun z => e ((nI_z (by omega)).mp z)), if_neg e, nI_1, Nat.add_assoc]
        exact ih (c + 1) s q l F' (by omega) (by omega) hl1
  have e0 : wA m 17 (mA m 17) = m := wA_self
  obtain ⟨l', r1, r2⟩ := main cs.length 0 0 false (mA m 17) 1000 (by omega) (by omega) h17
  refine ⟨l', r1, ?_⟩
  rw [e0] at r2
  refine r2.trans ?_
  unfold takV
  rw [List.drop_zero]
  by_cases e : clTk cs = []
  · rw [if_pos ⟨rfl, e⟩, if_pos e]
  · rw [if_neg (fun z => e z.2), if_neg e]
end ALLOWS
end
-- 22p.go.lean.txt
section
/-! DAYS OF THE CLASS: one day as numbers; start, sell, share, go -/
section GO
abbrev slS (n : Nat) (pd : Nat → Nat → Nat) (cs : List CL) (y d p : Nat) : Prop := pd 4 p ≠ 0 ∧ selD n pd y (clLast 3 99 cs) p = d
def tkD (n : Nat) (pd : Nat → Nat → Nat) (cs : List CL) (y d p : Nat) : Int32 := takV (facT n pd y p d) (clTk cs)
def pyD (n : Nat) (pd : Nat → Nat → Nat) (cs : List CL) (due : Int32) (y d p : Nat) : Int32 := if mB pd d n = 0 then 0 else (tkD n pd cs y d p * due) / 100
def slD (n : Nat) (pd : Nat → Nat → Nat) (cs : List CL) (due : Int32) (y d p : Nat) : Int32 := if slS n pd cs y d p then (tkD n pd cs y d p - nI (clLast 2 1 cs) * nI (offD n pd y (clLast 3 99 cs) p)) - pyD n pd cs due y d p else 0
def duD (n : Nat) (pd : Nat → Nat → Nat) (cs : List CL) (due : Int32) (y d : Nat) : Nat → Int32
  | 0 => 0
  | k + 1 => if slS n pd cs y d k then duD n pd cs due y d k + pyD n pd cs due y d k else duD n pd cs due y d k
def hrD (n : Nat) (pd : Nat → Nat → Nat) (cs : List CL) (due : Int32) (y d p : Nat) : Int32 := if pd 4 p ≠ 0 ∧ pd 2 p = d then duD n pd cs due y d n / nI (mB pd d n) + (if mB pd d p = 0 then duD n pd cs due y d n % nI (mB pd d n) else 0) else 0
/-- date, year, more in the purses, got, dues -/
abbrev DS : Type := Nat × Nat × (Nat → Int32) × (Nat → Int32) × Int32
def day1 (n : Nat) (pd : Nat → Nat → Nat) (cs : List CL) (due : Int32) (s : DS) : DS := ((s.1 + 1) % 12, s.2.1 + (if s.1 = 11 then 1 else 0), fun p => s.2.2.1 p + slD n pd cs due s.2.1 s.1 p + hrD n pd cs due s.2.1 s.1 p, fun p => s.2.2.2.1 p + hrD n pd cs due s.2.1 s.1 p, duD n pd cs due s.2.1 s.1 n)
def days (n : Nat) (pd : Nat → Nat → Nat) (cs : List CL) (due : Int32) : Nat → DS → DS
  | 0, s => s
  | k + 1, s => days n pd cs due k (day1 n pd cs due s)
theorem mB_0 {pd : Nat → Nat → Nat} {d n p : Nat} (h : mB pd d n = 0) (hp : p < n) : ¬ (pd 4 p ≠ 0 ∧ pd 2 p = d) := by
  induction n with
  | zero => omega
  | succ n ih =>
    unfold mB at h
    intro z
    by_cases e : p = n
    · subst e; rw [if_pos z] at h; omega
    · exact ih (by omega) (by omega) z
/-- what of the class's memory the days do not touch -/
def FX (m m' : mM) : Prop := (∀ k, ¬ (2624 ≤ k ∧ k < 2688) → mI m' k = mI m k) ∧ (∀ c, ¬ (42 ≤ c ∧ c ≤ 45) → mA m' c = mA m c) ∧ (∀ c, mL m' c = mL m c) ∧ (∀ k, k ≠ 2624 → mR m' k = mR m k)
theorem FX.rfl {m : mM} : FX m m := ⟨fun _ _ => Eq.refl _, fun _ _ => Eq.refl _, fun _ => Eq.refl _, fun _ _ => Eq.refl _⟩
theorem FX.trans {a b c : mM} (h : FX a b) (g : FX b c) : FX a c := ⟨fun k hk => (g.1 k hk).trans (h.1 k hk), fun k hk => (g.2.1 k hk).trans (h.2.1 k hk), fun k => (g.2.2.1 k).trans (h.2.2.1 k), fun k hk => (g.2.2.2 k hk).trans (h.2.2.2 k hk)⟩
theorem FX.I {m : mM} {k : Nat} {v : Int32} (hk : 2624 ≤ k ∧ k < 2688) : FX m (wI m k v) := ⟨fun j hj => by rw [mI_wI, if_neg (by omega)], fun _ _ => Eq.refl _, fun _ => Eq.refl _, fun _ _ => Eq.refl _⟩
theorem FX.A {m : mM} {c : Nat} {v : List Int32} (hk : 42 ≤ c ∧ c ≤ 45) : FX m (wA m c v) := ⟨fun _ _ => Eq.refl _, fun j hj => by rw [mA_wA, if_neg (by omega)], fun _ => Eq.refl _, fun _ _ => Eq.refl _⟩
theorem FX.R {m : mM} {v : Nat} : FX m (wR m 2624 v) := ⟨fun _ _ => Eq.refl _, fun _ _ => Eq.refl _, fun _ => Eq.refl _, fun j hj => by rw [mR_wR, if_neg hj]⟩
section X
variable {m : mM} {n : Nat} {pd : Nat → Nat → Nat} {c t : Nat} {cs : List CL} {due : Int32}
theorem PXr.fr {m' : mM} (h : PXr m c n pd) (f : FX m m') : PXr m' c n pd := by
  obtain ⟨h1, h2, h3, h4, h5⟩ := h
  have hA : ∀ k, k < 9 → mA m' (c + k) = mA m (c + k) := fun k hk => f.2.1 _ (by omega)
  refine ⟨h1, by rw [f.1 _ (by omega)]; exact h2, h3, ?_, ?_⟩
  · rw [hA 1 (by omega), hA 2 (by omega), hA 3 (by omega), hA 4 (by omega), hA 6 (by omega), hA 7 (by omega)]; exact h4
  · rw [hA 1 (by omega), hA 2 (by omega), hA 3 (by omega), hA 4 (by omega), hA 6 (by omega), hA 7 (by omega)]; exact h5
theorem twA_b {t : Nat} (ht : t ≤ 6) : twA t = 8 ∨ (46 ≤ twA t ∧ twA t ≤ 76) := by
  match t, ht with
  | 0, _ => exact Or.inl rfl
  | k + 1, ht => right; show 46 ≤ 46 + 6 * k ∧ 46 + 6 * k ≤ 76; omega
theorem TXr.fr {m' : mM} (h : TXr m c t cs) (hc : c = 14 ∨ c = 23 ∨ c = 32) (f : FX m m') : TXr m' c t cs := by
  obtain ⟨h1, h2, h3, h4, h5⟩ := h
  have hb := twA_b h1
  have hA : ∀ k, k < 6 → mA m' (twA t + k) = mA m (twA t + k) := fun k hk => f.2.1 _ (by omega)
  have hI : ∀ k, k < 6 → mI m' (64 * twA t + k) = mI m (64 * twA t + k) := fun k hk => f.1 _ (by omega)
  refine ⟨h1, by rw [f.2.2.2 _ (by omega)]; exact h2, ?_, ?_, h5⟩
  · unfold TXh at h3 ⊢
    rw [hA 1 (by omega), hA 2 (by omega), hA 3 (by omega), hA 4 (by omega), hA 5 (by omega)]; exact h3
  · unfold TXe at h4 ⊢
    rw [hI 0 (by omega), hI 1 (by omega), hI 2 (by omega), hI 3 (by omega), hA 1 (by omega), hA 2 (by omega), hA 3 (by omega), hA 4 (by omega), hA 5 (by omega)]; exact h4
/-- the class's Days as they stand -/
def XB (m : mM) (c n : Nat) (pd : Nat → Nat → Nat) (t : Nat) (cs : List CL) (due : Int32) (s : DS) : Prop := PXr m c n pd ∧ TXr m c t cs ∧ BTr m n pd ∧ mR m 2624 = c ∧ mI m 2625 = due ∧ mI m 2626 = nI s.1 ∧ mI m 2627 = nI s.2.1 ∧ mI m 2628 = s.2.2.2.2 ∧ (mA m 42).length = 7 ∧ (mA m 43).length = 7 ∧ (mA m 44).length = 7 ∧ (∀ p, p < n → (mA m 42).getD p 0 = s.2.2.1 p) ∧ (∀ p, p < n → (mA m 43).getD p 0 = s.2.2.2.1 p) ∧ s.1 < 12
def XD (m : mM) (c n : Nat) (pd : Nat → Nat → Nat) (t : Nat) (cs : List CL) (due : Int32) (s : DS) : Prop := XB m c n pd t cs due s ∧ ∀ p, p < n → (mA m 44).getD p 0 = nI (selD n pd s.2.1 (clLast 3 99 cs) p)
theorem x_beginYear {s : DS} (h : XB m c n pd t cs due s) (hy : s.2.1 < 2 ^ 31) : ∃ m', f_X1_beginYear m = some ((), m') ∧ XD m' c n pd t cs due s ∧ FX m m' := by
  unfold f_X1_beginYear
  have main : ∀ (j k : Nat) (m : mM) (F : Nat), k + j = n → j < F → XB m c n pd t cs due s → (∀ p, p < k → (mA m 44).getD p 0 = nI (selD n pd s.2.1 (clLast 3 99 cs) p)) → ∃ m', f_X1_beginYear_2 F m (nI k) = some ((), m') ∧ XD m' c n pd t cs due s ∧ FX m m' := by
    intro j
    induction j with
    | zero =>
      intro k m F hk hF h hs
      obtain ⟨F', rfl⟩ : ∃ F', F = F' + 1 := ⟨F - 1, by omega⟩
      obtain rfl : k = n := by omega
      have hn := h.1.2.2.1.1
      refine ⟨m, ?_, ⟨h, hs⟩, FX.rfl⟩
      show fb_X1_beginYear_2 _ _ _ = _
      unfold fb_X1_beginYear_2
      rw [h.2.2.2.1, chR_t h.1.c, h.1.2.1, if_pos (nI_le (Nat.le_refl _) (by omega))]
    | succ j ih =>
      intro k m F hk hF h hs
      obtain ⟨F', rfl⟩ : ∃ F', F = F' + 1 := ⟨F - 1, by omega⟩
      obtain ⟨a1, a2, a3, a4, a5, a6, a7, a8, a9, a10, a11, a12, a13⟩ := id h
      have hn := a1.2.2.1.1
      have hkn : k < n := by omega
      have hw := wish_lt (y := s.2.1) a1.2.2.1 hkn
      have hfe := clLast_lt (w := 3) (d := 99) a2.2.2.2.2.1 (by decide)
      have fin : ∀ x : Int32, x = nI (selD n pd s.2.1 (clLast 3 99 cs) k) → ∃ m', ((sA 0 m 44 (nI k) x).bind fun m9 => f_X1_beginYear_2 F' m9 (nI k + 1)) = some ((), m') ∧ XD m' c n pd t cs due s ∧ FX m m' := by
        intro x hx
        rw [sA_at0 (by omega) (by omega), Option.bind_some, nI_1]
        have f : FX m (wA m 44 ((mA m 44).set k x)) := FX.A (by omega)
        have h' : XB (wA m 44 ((mA m 44).set k x)) c n pd t cs due s := ⟨a1.fr f, a2.fr a1.1 f, a3, a4, a5, a6, a7, a8, a9, a10, by rw [mA_wA, if_pos rfl, List.length_set]; exact a11, a12, a13⟩
        obtain ⟨m', q1, q2, q3⟩ := ih (k + 1) _ F' (by omega) (by omega) h' (fun p hp => by
          rw [mA_wA, if_pos rfl, gd_set]
          by_cases e : k = p
          · subst e; rw [if_pos ⟨rfl, by omega⟩]; exact hx
          · rw [if_neg (fun z => e z.1)]; exact hs p (by omega))
        exact ⟨m', q1, q2, f.trans q3⟩
      show ∃ m', fb_X1_beginYear_2 _ _ _ = some ((), m') ∧ _
      unfold fb_X1_beginYear_2
      rw [a4, chR_t a1.c, a1.2.1, if_neg (nI_ge hkn (by omega)), x_wanted a1 a3 a4 a7 hy hkn, bnd_some, a4, chR_t a1.c, a2.2.1, chR_t (twA_ok a2.1), show mI m (64 * twA t + 2) = nI (clLast 3 99 cs) from a2.2.2.2.1.1.2.2.1]
      by_cases e : wishD n pd s.2.1 k = clLast 3 99 cs
      · rw [if_pos (congrArg nI e), nI_1, show (12 : Int32) = nI 12 from rfl, rmI_at (by omega) (by decide) (by decide), Option.bind_some]
        exact fin _ (by unfold selD; rw [if_pos e])
      · rw [if_neg (fun z => e ((nI_eq (by omega) (by omega)).mp z))]
        exact fin _ (by unfold selD; rw [if_neg e])
  exact main n 0 m 1000 (by omega) (by have := h.1.2.2.1.1; omega) h (fun p hp => absurd hp (by omega))
theorem x_putOff {s : DS} {p : Nat} (h : XD m c n pd t cs due s) (hp : p < n) : f_X1_putOff m (nI p) = some (nI (offD n pd s.2.1 (clLast 3 99 cs) p), m) := by
  unfold f_X1_putOff
  obtain ⟨⟨a1, a2, a3, a4, a5, a6, a7, a8, a9, a10, a11, a12, a13⟩, h2⟩ := h
  have hn := a1.2.2.1.1
  rw [gA_at (by omega) (by omega), h2 p hp, Option.bind_some, a4, chR_t a1.c, (a1.g hp).2.2.2.1, Option.bind_some, off_at (sel_lt a1.2.2.1 hp) (a1.2.2.1.2 p hp).2.2.2.1, Option.bind_some]; rfl
theorem x_sell {s : DS} (h : XD m c n pd t cs due s) (hy : s.2.1 < 2 ^ 31) : ∃ m', f_X1_sell m = some ((), m') ∧ XD m' c n pd t cs due (s.1, s.2.1, fun p => s.2.2.1 p + slD n pd cs due s.2.1 s.1 p, s.2.2.2.1, duD n pd cs due s.2.1 s.1 n) ∧ FX m m' := by
  unfold f_X1_sell
  have main : ∀ (j k : Nat) (m : mM) (F : Nat), k + j = n → j < F → XD m c n pd t cs due (s.1, s.2.1, fun p => if p < k then s.2.2.1 p + slD n pd cs due s.2.1 s.1 p else s.2.2.1 p, s.2.2.2.1, duD n pd cs due s.2.1 s.1 k) → ∃ m', f_X1_sell_7 F m (nI k) = some ((), m') ∧ XD m' c n pd t cs due (s.1, s.2.1, fun p => s.2.2.1 p + slD n pd cs due s.2.1 s.1 p, s.2.2.2.1, duD n pd cs due s.2.1 s.1 n) ∧ FX m m' := by
    intro j
    induction j with
    | zero =>
      intro k m F hk hF h
      obtain ⟨F', rfl⟩ : ∃ F', F = F' + 1 := ⟨F - 1, by omega⟩
      obtain rfl : k = n := by omega
      obtain ⟨⟨a1, a2, a3, a4, a5, a6, a7, a8, a9, a10, a11, a12, a13⟩, h2⟩ := h
      have hn := a1.2.2.1.1
      refine ⟨m, ?_, ⟨⟨a1, a2, a3, a4, a5, a6, a7, a8, a9, a10, a11, fun p hp => ?_, a13⟩, h2⟩, FX.rfl⟩
      · show fb_X1_sell_7 _ _ _ = _
        unfold fb_X1_sell_7
        rw [a4, chR_t a1.c, a1.2.1, if_pos (nI_le (Nat.le_refl _) (by omega))]
      · have := a12 p hp
        rw [this]; exact if_pos hp
    | succ j ih =>
      intro k m F hk hF h
      obtain ⟨F', rfl⟩ : ∃ F', F = F' + 1 := ⟨F - 1, by omega⟩
      obtain ⟨⟨a1, a2, a3, a4, a5, a6, a7, a8, a9, a10, a11, a12, a13, a14⟩, h2⟩ := id h
      have hn := a1.2.2.1.1
      have hkn : k < n := by omega
      have r5 := (a1.2.2.1.2 k hkn).2.2.2.2.1
      have hsl := sel_lt (y := s.2.1) (fs := clLast 3 99 cs) a1.2.2.1 hkn
      have a14' : s.1 < 12 := a14
      have skip : ¬ slS n pd cs s.2.1 s.1 k → ∃ m', f_X1_sell_7 F' m (nI k + 1) = some ((), m') ∧ XD m' c n pd t cs due (s.1, s.2.1, fun p => s.2.2.1 p + slD n pd cs due s.2.1 s.1 p, s.2.2.2.1, duD n pd cs due s.2.1 s.1 n) ∧ FX m m' := by
        intro hz
        rw [nI_1]
        refine ih (k + 1) m F' (by omega) (by omega) ⟨⟨a1, a2, a3, a4, a5, a6, a7, ?_, a9, a10, a11, fun p hp => ?_, a13, a14⟩, h2⟩
        · rw [a8]; show duD n pd cs due s.2.1 s.1 k = (if _ then _ else _); rw [if_neg hz]
        · rw [a12 p hp]
          show (if p < k then _ else _) = if p < k + 1 then _ else _
          by_cases e : p = k
          · subst e; rw [if_neg (by omega), if_pos (by omega)]; unfold slD; rw [if_neg hz, Int32.add_zero]
          · by_cases e2 : p < k
            · rw [if_pos e2, if_pos (by omega)]
            · rw [if_neg e2, if_neg (by omega)]
      show ∃ m', fb_X1_sell_7 _ _ _ = some ((), m') ∧ _
      unfold fb_X1_sell_7
      rw [a4, chR_t a1.c, a1.2.1, if_neg (nI_ge hkn (by omega)), chR_t a1.c, (a1.g hkn).2.2.2.2.1, Option.bind_some]
      by_cases e1 : pd 4 k = 0
      · rw [if_pos ((nI_z (by omega)).mpr e1)]
        exact skip (fun z => z.1 e1)
      rw [if_neg (fun z => e1 ((nI_z (by omega)).mp z)), gA_at (by omega) (by omega), h2 k hkn, Option.bind_some, a6]
      by_cases e2 : selD n pd s.2.1 (clLast 3 99 cs) k = s.1
      · have hs : slS n pd cs s.2.1 s.1 k := ⟨e1, e2⟩
        rw [if_pos (congrArg nI e2), x_takes a1 a3 a4 a7 hy hkn a14 a2, bnd_some, a6, a3.g a14, Option.bind_some]
        have hmb := mB_le (pd := pd) (d := s.1) n
        have fin : ∀ x : Int32, x = pyD n pd cs due s.2.1 s.1 k → ∃ m', f_X1_sell_78 (fun m y => f_X1_sell_7 F' m y) m (nI k) (tkD n pd cs s.2.1 s.1 k) x = some ((), m') ∧ XD m' c n pd t cs due (s.1, s.2.1, fun p => s.2.2.1 p + slD n pd cs due s.2.1 s.1 p, s.2.2.2.1, duD n pd cs due s.2.1 s.1 n) ∧ FX m m' := by
          intro x hx
          unfold f_X1_sell_78
          rw [gA_at (by omega) (by omega), a12 k hkn, Option.bind_some, a4, chR_t a1.c, a2.2.1, chR_t (twA_ok a2.1), x_putOff h hkn, bnd_some, sA_at0 (by omega) (by omega), Option.bind_some, nmM_eq, show mI m (64 * twA t + 1) = nI (clLast 2 1 cs) from a2.2.2.2.1.1.2.1, nI_1]
          show ∃ m', f_X1_sell_7 F' (wI (wA m 42 ((mA m 42).set k ((if k < k then s.2.2.1 k + slD n pd cs due s.2.1 s.1 k else s.2.2.1 k) + (tkD n pd cs s.2.1 s.1 k - nI (clLast 2 1 cs) * nI (offD n pd s.2.1 (clLast 3 99 cs) k) - x)))) 2628 (mI m 2628 + x)) (nI (k + 1)) = some ((), m') ∧ _
          rw [if_neg (Nat.lt_irrefl k)]
          generalize hv : s.2.2.1 k + (tkD n pd cs s.2.1 s.1 k - nI (clLast 2 1 cs) * nI (offD n pd s.2.1 (clLast 3 99 cs) k) - x) = v
          have hv' : v = s.2.2.1 k + slD n pd cs due s.2.1 s.1 k := by rw [← hv, hx]; unfold slD; rw [if_pos hs]
          have f : FX m (wI (wA m 42 ((mA m 42).set k v)) 2628 (mI m 2628 + x)) := FX.trans (FX.A (by omega)) (FX.I (by omega))
          have hX : XD (wI (wA m 42 ((mA m 42).set k v)) 2628 (mI m 2628 + x)) c n pd t cs due (s.1, s.2.1, fun p => if p < k + 1 then s.2.2.1 p + slD n pd cs due s.2.1 s.1 p else s.2.2.1 p, s.2.2.2.1, duD n pd cs due s.2.1 s.1 (k + 1)) := by
            refine ⟨⟨a1.fr f, a2.fr a1.1 f, a3, a4, a5, a6, a7, ?_, ?_, a10, a11, fun p hp => ?_, a13, a14⟩, h2⟩
            · show mI m 2628 + x = (if slS n pd cs s.2.1 s.1 k then _ else _)
              rw [if_pos hs, a8, hx]
            · show ((mA m 42).set k v).length = 7
              rw [List.length_set]; exact a9
            · show ((mA m 42).set k v).getD p 0 = if p < k + 1 then _ else _
              rw [gd_set]
              by_cases e : k = p
              · subst e; rw [if_pos ⟨rfl, by omega⟩, if_pos (by omega), hv']
              · rw [if_neg (fun z => e z.1), a12 p hp]
                show (if p < k then _ else _) = _
                by_cases e2 : p < k
                · rw [if_pos e2, if_pos (by omega)]
                · rw [if_neg e2, if_neg (by omega)]
          obtain ⟨m', q1, q2, q3⟩ := ih (k + 1) (wI (wA m 42 ((mA m 42).set k v)) 2628 (mI m 2628 + x)) F' (by omega) (by omega) hX
          exact ⟨m', q1, q2, f.trans q3⟩
        by_cases e3 : mB pd s.1 n = 0
        · rw [if_pos (show nI (mB pd s.1 n) ≤ (0 : Int32) from (nI_le (by omega) (by decide) : nI (mB pd s.1 n) ≤ nI 0))]
          exact fin _ (by unfold pyD; rw [if_pos e3])
        · rw [if_neg (show ¬ nI (mB pd s.1 n) ≤ (0 : Int32) from (nI_ge (by omega) (by omega) : ¬ nI (mB pd s.1 n) ≤ nI 0)), a5]
          show ∃ m', (dvI (tkD n pd cs s.2.1 s.1 k * due) 100).bind _ = _ ∧ _
          unfold dvI
          rw [if_neg (by decide), Option.bind_some]
          exact fin _ (by unfold pyD; rw [if_neg e3])
      · rw [if_neg (fun z => e2 ((nI_eq (by omega) (by omega)).mp z))]
        exact skip (fun z => e2 z.2)
  rw [nmM_eq]
  obtain ⟨⟨a1, a2, a3, a4, a5, a6, a7, a8, a9, a10, a11, a12, a13⟩, h2⟩ := id h
  have f : FX m (wI m 2628 0) := FX.I (by omega)
  have hX : XD (wI m 2628 0) c n pd t cs due (s.1, s.2.1, fun p => if p < 0 then s.2.2.1 p + slD n pd cs due s.2.1 s.1 p else s.2.2.1 p, s.2.2.2.1, duD n pd cs due s.2.1 s.1 0) := by
    refine ⟨⟨a1.fr f, a2.fr a1.1 f, a3, a4, a5, a6, a7, rfl, a9, a10, a11, fun p hp => ?_, a13⟩, h2⟩
    exact a12 p hp
  obtain ⟨m', q1, q2, q3⟩ := main n 0 (wI m 2628 0) 1000 (by omega) (by have := a1.2.2.1.1; omega) hX
  exact ⟨m', q1, q2, f.trans q3⟩
theorem x_share {s : DS} (h : XD m c n pd t cs due s) (he : s.2.2.2.2 = duD n pd cs due s.2.1 s.1 n) : ∃ m', f_X1_share m = some ((), m') ∧ XD m' c n pd t cs due (s.1, s.2.1, fun p => s.2.2.1 p + hrD n pd cs due s.2.1 s.1 p, fun p => s.2.2.2.1 p + hrD n pd cs due s.2.1 s.1 p, s.2.2.2.2) ∧ FX m m' := by
  unfold f_X1_share
  obtain ⟨⟨a1, a2, a3, a4, a5, a6, a7, a8, a9, a10, a11, a12, a13, a14⟩, h2⟩ := id h
  have hn := a1.2.2.1.1
  have hmb := mB_le (pd := pd) (d := s.1) n
  rw [a6, a3.g a14, Option.bind_some]
  by_cases e0 : mB pd s.1 n = 0
  · rw [if_pos ((nI_z (by omega)).mpr e0)]
    have hz : ∀ p, p < n → hrD n pd cs due s.2.1 s.1 p = 0 := fun p hp => if_neg (mB_0 e0 hp)
    exact ⟨m, rfl, ⟨⟨a1, a2, a3, a4, a5, a6, a7, a8, a9, a10, a11, fun p hp => by
      rw [a12 p hp]; show _ = s.2.2.1 p + hrD n pd cs due s.2.1 s.1 p; rw [hz p hp, Int32.add_zero], fun p hp => by
      rw [a13 p hp]; show _ = s.2.2.2.1 p + hrD n pd cs due s.2.1 s.1 p; rw [hz p hp, Int32.add_zero], a14⟩, h2⟩, FX.rfl⟩
  rw [if_neg (fun z => e0 ((nI_z (by omega)).mp z))]
  unfold dvI rmI
  rw [if_neg (nI_ne0 (by omega) (by omega)), if_neg (nI_ne0 (by omega) (by omega)), Option.bind_some, Option.bind_some, a8, he]
  have main : ∀ (j k : Nat) (m : mM) (F : Nat), k + j = n → j < F → XD m c n pd t cs due (s.1, s.2.1, fun p => if p < k then s.2.2.1 p + hrD n pd cs due s.2.1 s.1 p else s.2.2.1 p, fun p => if p < k then s.2.2.2.1 p + hrD n pd cs due s.2.1 s.1 p else s.2.2.2.1 p, s.2.2.2.2) → ∃ m', f_X1_share_32 F m (duD n pd cs due s.2.1 s.1 n / nI (mB pd s.1 n)) (if mB pd s.1 k = 0 then duD n pd cs due s.2.1 s.1 n % nI (mB pd s.1 n) else 0) (nI k) = some ((), m') ∧ XD m' c n pd t cs due (s.1, s.2.1, fun p => s.2.2.1 p + hrD n pd cs due s.2.1 s.1 p, fun p => s.2.2.2.1 p + hrD n pd cs due s.2.1 s.1 p, s.2.2.2.2) ∧ FX m m' := by
    intro j
    induction j with
    | zero =>
      intro k m F hk hF h
      obtain ⟨F', rfl⟩ : ∃ F', F = F' + 1 := ⟨F - 1, by omega⟩
      obtain rfl : k = n := by omega
      obtain ⟨⟨a1, a2, a3, a4, a5, a6, a7, a8, a9, a10, a11, a12, a13, a14⟩, h2⟩ := h
      refine ⟨m, ?_, ⟨⟨a1, a2, a3, a4, a5, a6, a7, a8, a9, a10, a11, fun p hp => ?_, fun p hp => ?_, a14⟩, h2⟩, FX.rfl⟩
      · show fb_X1_share_32 _ _ _ _ _ = _
        unfold fb_X1_share_32
        rw [a4, chR_t a1.c, a1.2.1, if_pos (nI_le (Nat.le_refl _) (by omega))]
      · rw [a12 p hp]; exact if_pos hp
      · rw [a13 p hp]; exact if_pos hp
    | succ j ih =>
      intro k m F hk hF h
      obtain ⟨F', rfl⟩ : ∃ F', F = F' + 1 := ⟨F - 1, by omega⟩
      obtain ⟨⟨a1, a2, a3, a4, a5, a6, a7, a8, a9, a10, a11, a12, a13, a14⟩, h2⟩ := id h
      have a14' : s.1 < 12 := a14
      have hkn : k < n := by omega
      obtain ⟨r1, r2, r3, r4, r5, r6⟩ := a1.2.2.1.2 k hkn
      have skip : ¬ (pd 4 k ≠ 0 ∧ pd 2 k = s.1) → ∃ m', f_X1_share_32 F' m (duD n pd cs due s.2.1 s.1 n / nI (mB pd s.1 n)) (if mB pd s.1 k = 0 then duD n pd cs due s.2.1 s.1 n % nI (mB pd s.1 n) else 0) (nI k + 1) = some ((), m') ∧ XD m' c n pd t cs due (s.1, s.2.1, fun p => s.2.2.1 p + hrD n pd cs due s.2.1 s.1 p, fun p => s.2.2.2.1 p + hrD n pd cs due s.2.1 s.1 p, s.2.2.2.2) ∧ FX m m' := by
        intro hz
        have em : mB pd s.1 (k + 1) = mB pd s.1 k := by
          show mB pd s.1 k + (if pd 4 k ≠ 0 ∧ pd 2 k = s.1 then 1 else 0) = _
          rw [if_neg hz]; rfl
        have hX : XD m c n pd t cs due (s.1, s.2.1, fun p => if p < k + 1 then s.2.2.1 p + hrD n pd cs due s.2.1 s.1 p else s.2.2.1 p, fun p => if p < k + 1 then s.2.2.2.1 p + hrD n pd cs due s.2.1 s.1 p else s.2.2.2.1 p, s.2.2.2.2) := by
          have hh : hrD n pd cs due s.2.1 s.1 k = 0 := if_neg hz
          refine ⟨⟨a1, a2, a3, a4, a5, a6, a7, a8, a9, a10, a11, fun p hp => ?_, fun p hp => ?_, a14⟩, h2⟩
          · rw [a12 p hp]
            show (if p < k then _ else _) = if p < k + 1 then _ else _
            by_cases e : p = k
            · subst e; rw [if_neg (by omega), if_pos (by omega), hh, Int32.add_zero]
            · by_cases e2 : p < k
              · rw [if_pos e2, if_pos (by omega)]
              · rw [if_neg e2, if_neg (by omega)]
          · rw [a13 p hp]
            show (if p < k then _ else _) = if p < k + 1 then _ else _
            by_cases e : p = k
            · subst e; rw [if_neg (by omega), if_pos (by omega), hh, Int32.add_zero]
            · by_cases e2 : p < k
              · rw [if_pos e2, if_pos (by omega)]
              · rw [if_neg e2, if_neg (by omega)]
        have := ih (k + 1) m F' (by omega) (by omega) hX
        rw [em] at this
        rw [nI_1]; exact this
      show ∃ m', fb_X1_share_32 _ _ _ _ _ = some ((), m') ∧ _
      unfold fb_X1_share_32
      rw [a4, chR_t a1.c, a1.2.1, if_neg (nI_ge hkn (by omega)), chR_t a1.c, (a1.g hkn).2.2.2.2.1, Option.bind_some]
      by_cases e1 : pd 4 k = 0
      · rw [if_pos ((nI_z (by omega)).mpr e1)]; exact skip (fun z => z.1 e1)
      rw [if_neg (fun z => e1 ((nI_z (by omega)).mp z)), chR_t a1.c, (a1.g hkn).2.2.1, Option.bind_some, a6]
      by_cases e2 : pd 2 k = s.1
      · have hh : hrD n pd cs due s.2.1 s.1 k = duD n pd cs due s.2.1 s.1 n / nI (mB pd s.1 n) + (if mB pd s.1 k = 0 then duD n pd cs due s.2.1 s.1 n % nI (mB pd s.1 n) else 0) := if_pos ⟨e1, e2⟩
        have em : ¬ mB pd s.1 (k + 1) = 0 := by
          show ¬ mB pd s.1 k + (if pd 4 k ≠ 0 ∧ pd 2 k = s.1 then 1 else 0) = 0
          rw [if_pos ⟨e1, e2⟩]; omega
        have g12 : (mA m 42).getD k 0 = s.2.2.1 k := (a12 k hkn).trans (if_neg (Nat.lt_irrefl k))
        have g13 : (mA m 43).getD k 0 = s.2.2.2.1 k := (a13 k hkn).trans (if_neg (Nat.lt_irrefl k))
        rw [if_pos (congrArg nI e2), gA_at (by omega) (by omega), g12, Option.bind_some, ← hh]
        generalize hv : s.2.2.1 k + hrD n pd cs due s.2.1 s.1 k = v
        rw [sA_at0 (by omega) (by omega), Option.bind_some, show mA (wA m 42 ((mA m 42).set k v)) 43 = mA m 43 from rfl, gA_at (by omega) (by omega), g13, Option.bind_some]
        generalize hu : s.2.2.2.1 k + hrD n pd cs due s.2.1 s.1 k = u
        rw [sA_at0 (by show k < (mA m 43).length; omega) (by omega), Option.bind_some, show mA (wA m 42 ((mA m 42).set k v)) 43 = mA m 43 from rfl]
        have f : FX m (wA (wA m 42 ((mA m 42).set k v)) 43 ((mA m 43).set k u)) := FX.trans (FX.A (by omega)) (FX.A (by omega))
        have hX : XD (wA (wA m 42 ((mA m 42).set k v)) 43 ((mA m 43).set k u)) c n pd t cs due (s.1, s.2.1, fun p => if p < k + 1 then s.2.2.1 p + hrD n pd cs due s.2.1 s.1 p else s.2.2.1 p, fun p => if p < k + 1 then s.2.2.2.1 p + hrD n pd cs due s.2.1 s.1 p else s.2.2.2.1 p, s.2.2.2.2) := by
          refine ⟨⟨a1.fr f, a2.fr a1.1 f, a3, a4, a5, a6, a7, a8, ?_, ?_, a11, fun p hp => ?_, fun p hp => ?_, a14⟩, h2⟩
          · show ((mA m 42).set k v).length = 7
            rw [List.length_set]; exact a9
          · show ((mA m 43).set k u).length = 7
            rw [List.length_set]; exact a10
          · show ((mA m 42).set k v).getD p 0 = if p < k + 1 then _ else _
            rw [gd_set]
            by_cases e : k = p
            · subst e; rw [if_pos ⟨rfl, by omega⟩, if_pos (by omega), hv]
            · rw [if_neg (fun z => e z.1), a12 p hp]
              show (if p < k then _ else _) = _
              by_cases e2 : p < k
              · rw [if_pos e2, if_pos (by omega)]
              · rw [if_neg e2, if_neg (by omega)]
          · show ((mA m 43).set k u).getD p 0 = if p < k + 1 then _ else _
            rw [gd_set]
            by_cases e : k = p
            · subst e; rw [if_pos ⟨rfl, by omega⟩, if_pos (by omega), hu]
            · rw [if_neg (fun z => e z.1), a13 p hp]
              show (if p < k then _ else _) = _
              by_cases e2 : p < k
              · rw [if_pos e2, if_pos (by omega)]
              · rw [if_neg e2, if_neg (by omega)]
        obtain ⟨m', q1, q2, q3⟩ := ih (k + 1) _ F' (by omega) (by omega) hX
        rw [if_neg em] at q1
        exact ⟨m', by rw [nI_1]; exact q1, q2, f.trans q3⟩
      · rw [if_neg (fun z => e2 ((nI_eq (by omega) (by omega)).mp z))]; exact skip (fun z => e2 z.2)
  have hX : XD m c n pd t cs due (s.1, s.2.1, fun p => if p < 0 then s.2.2.1 p + hrD n pd cs due s.2.1 s.1 p else s.2.2.1 p, fun p => if p < 0 then s.2.2.2.1 p + hrD n pd cs due s.2.1 s.1 p else s.2.2.2.1 p, s.2.2.2.2) :=
    ⟨⟨a1, a2, a3, a4, a5, a6, a7, a8, a9, a10, a11, fun p hp => a12 p hp, fun p hp => a13 p hp, a14⟩, h2⟩
  have := main n 0 m 1000 (by omega) (by omega) hX
  rw [show (if mB pd s.1 0 = 0 then duD n pd cs due s.2.1 s.1 n % nI (mB pd s.1 n) else 0) = duD n pd cs due s.2.1 s.1 n % nI (mB pd s.1 n) from if_pos rfl, he] at this
  exact this
theorem x_go {N : Nat} (hN : N < 1000) {s : DS} (h : XD m c n pd t cs due s) (hy : s.2.1 + N < 2 ^ 31) : ∃ m', f_X1_go m (nI N) = some ((), m') ∧ XD m' c n pd t cs due (days n pd cs due N s) ∧ FX m m' := by
  unfold f_X1_go
  have main : ∀ (j k : Nat) (m : mM) (F : Nat) (s : DS), k + j = N → j < F → s.2.1 + j < 2 ^ 31 → XD m c n pd t cs due s → ∃ m', f_X1_go_2 F m (nI N) (nI k) = some ((), m') ∧ XD m' c n pd t cs due (days n pd cs due j s) ∧ FX m m' := by
    intro j
    induction j with
    | zero =>
      intro k m F s hk hF hy h
      obtain ⟨F', rfl⟩ : ∃ F', F = F' + 1 := ⟨F - 1, by omega⟩
      refine ⟨m, ?_, h, FX.rfl⟩
      show fb_X1_go_2 _ _ _ _ = _
      unfold fb_X1_go_2
      rw [if_pos (nI_le (by omega) (by omega))]
    | succ j ih =>
      intro k m F s hk hF hy h
      obtain ⟨F', rfl⟩ : ∃ F', F = F' + 1 := ⟨F - 1, by omega⟩
      obtain ⟨m1, p1, p2, p3⟩ := x_sell h (by omega)
      obtain ⟨m2, q1, q2, q3⟩ := x_share p2 rfl
      obtain ⟨⟨a1, a2, a3, a4, a5, a6, a7, a8, a9, a10, a11, a12, a13, a14⟩, h2⟩ := id q2
      have a14' : s.1 < 12 := a14
      show ∃ m', fb_X1_go_2 _ _ _ _ = some ((), m') ∧ _
      unfold fb_X1_go_2
      rw [if_neg (nI_ge (by omega) (by omega)), p1, bnd_some, q1, bnd_some, nmM_eq, a6, nI_1, nI_1]
      show ∃ m', (if nI (s.1 + 1) < (12 : Int32) then _ else _) = _ ∧ _
      by_cases e : s.1 + 1 < 12
      · rw [if_pos (show nI (s.1 + 1) < (12 : Int32) from (nI_lt e (by decide) : nI (s.1 + 1) < nI 12))]
        have f : FX m2 (wI m2 2626 (nI (s.1 + 1))) := FX.I (by omega)
        have ed : day1 n pd cs due s = (s.1 + 1, s.2.1, fun p => s.2.2.1 p + slD n pd cs due s.2.1 s.1 p + hrD n pd cs due s.2.1 s.1 p, fun p => s.2.2.2.1 p + hrD n pd cs due s.2.1 s.1 p, duD n pd cs due s.2.1 s.1 n) := by
          unfold day1
          rw [if_neg (by omega), show (s.1 + 1) % 12 = s.1 + 1 by omega]; rfl
        have hX : XD (wI m2 2626 (nI (s.1 + 1))) c n pd t cs due (day1 n pd cs due s) := by
          rw [ed]
          exact ⟨⟨a1.fr f, a2.fr a1.1 f, a3, a4, a5, rfl, a7, a8, a9, a10, a11, a12, a13, e⟩, h2⟩
        obtain ⟨m', r1, r2, r3⟩ := ih (k + 1) _ F' (day1 n pd cs due s) (by omega) (by omega) (by rw [ed]; show s.2.1 + j < _; omega) hX
        exact ⟨m', r1, r2, ((p3.trans q3).trans f).trans r3⟩
      · rw [if_neg (show ¬ nI (s.1 + 1) < (12 : Int32) from (nI_nlt (by omega) (by omega) : ¬ nI (s.1 + 1) < nI 12)), nmM_eq, nmM_eq]
        have ed : day1 n pd cs due s = (0, s.2.1 + 1, fun p => s.2.2.1 p + slD n pd cs due s.2.1 s.1 p + hrD n pd cs due s.2.1 s.1 p, fun p => s.2.2.2.1 p + hrD n pd cs due s.2.1 s.1 p, duD n pd cs due s.2.1 s.1 n) := by
          unfold day1
          rw [if_pos (by omega), show (s.1 + 1) % 12 = 0 by omega]
        have ey : mI (wI (wI m2 2626 (nI (s.1 + 1))) 2626 0) 2627 + 1 = nI (s.2.1 + 1) := by
          show mI m2 2627 + 1 = _
          rw [a7]; exact nI_1 _
        rw [ey]
        have f : FX m2 (wI (wI (wI m2 2626 (nI (s.1 + 1))) 2626 0) 2627 (nI (s.2.1 + 1))) := FX.trans (FX.trans (FX.I (by omega)) (FX.I (by omega))) (FX.I (by omega))
        have hX : XB (wI (wI (wI m2 2626 (nI (s.1 + 1))) 2626 0) 2627 (nI (s.2.1 + 1))) c n pd t cs due (day1 n pd cs due s) := by
          rw [ed]
          exact ⟨a1.fr f, a2.fr a1.1 f, a3, a4, a5, rfl, rfl, a8, a9, a10, a11, a12, a13, by show 0 < 12; decide⟩
        obtain ⟨m3, b1, b2, b3⟩ := x_beginYear hX (by rw [ed]; show s.2.1 + 1 < _; omega)
        rw [b1, bnd_some]
        obtain ⟨m', r1, r2, r3⟩ := ih (k + 1) m3 F' (day1 n pd cs due s) (by omega) (by omega) (by rw [ed]; show s.2.1 + 1 + j < _; omega) b2
        exact ⟨m', r1, r2, (((p3.trans q3).trans f).trans b3).trans r3⟩
  exact main N 0 m 1000 s (by omega) hN hy h
/-- what start needs -/
def XR0 (m : mM) : Prop := (mA m 42).length = 7 ∧ (mA m 43).length = 7 ∧ (mA m 44).length = 7 ∧ (mA m 45).length = 12
theorem x_start {dt yr : Nat} (h : PXr m c n pd) (ht : TXr m c t cs) (h0 : XR0 m) (hd : mI m (64 * c + 1) = nI dt) (hd2 : dt < 12) (hy : mI m (64 * c + 2) = nI yr) (hy2 : yr < 2 ^ 31) : ∃ m', f_X1_start m c due = some ((), m') ∧ XD m' c n pd t cs due (dt, yr, fun _ => 0, fun _ => 0, mI m 2628) ∧ FX m m' := by
  have hc3 := h.1
  have hn := h.2.2.1.1
  have main2 : ∀ (j k : Nat) (m : mM) (F : Nat), k + j = n → j < F → PXr m c n pd → TXr m c t cs → XR0 m → mR m 2624 = c → mI m 2625 = due → mI m 2626 = nI dt → mI m 2627 = nI yr → (∀ p, p < k → (mA m 42).getD p 0 = 0 ∧ (mA m 43).getD p 0 = 0) → (∀ d, d < 12 → (mA m 45).getD d 0 = nI (mB pd d k)) → ∃ m', f_X1_start_49 F m c (nI k) = some ((), m') ∧ XD m' c n pd t cs due (dt, yr, fun _ => 0, fun _ => 0, mI m 2628) ∧ FX m m' := by
    intro j
    induction j with
    | zero =>
      intro k m F hk hF h ht h0 q1 q2 q3 q4 q5 q6
      obtain ⟨F', rfl⟩ : ∃ F', F = F' + 1 := ⟨F - 1, by omega⟩
      obtain rfl : k = n := by omega
      show ∃ m', fb_X1_start_49 _ _ _ _ = some ((), m') ∧ _
      unfold fb_X1_start_49
      rw [h.2.1, if_pos (nI_le (Nat.le_refl _) (by omega))]
      obtain ⟨m', r1, r2, r3⟩ := x_beginYear (s := (dt, yr, fun _ => 0, fun _ => 0, mI m 2628)) ⟨h, ht, ⟨h0.2.2.2, q6⟩, q1, q2, q3, q4, rfl, h0.1, h0.2.1, h0.2.2.1, fun p hp => (q5 p hp).1, fun p hp => (q5 p hp).2, hd2⟩ hy2
      rw [r1, bnd_some]
      exact ⟨m', rfl, r2, r3⟩
    | succ j ih =>
      intro k m F hk hF h ht h0 q1 q2 q3 q4 q5 q6
      obtain ⟨F', rfl⟩ : ∃ F', F = F' + 1 := ⟨F - 1, by omega⟩
      have hkn : k < n := by omega
      obtain ⟨r1, r2, r3, r4, r5, r6⟩ := h.2.2.1.2 k hkn
      obtain ⟨l1, l2, l3, l4⟩ := id h0
      show ∃ m', fb_X1_start_49 _ _ _ _ = some ((), m') ∧ _
      unfold fb_X1_start_49
      rw [h.2.1, if_neg (nI_ge hkn (by omega)), sA_at0 (by omega) (by omega), Option.bind_some, sA_at0 (by show k < (mA m 43).length; omega) (by omega), Option.bind_some, show mA (wA m 42 ((mA m 42).set k 0)) 43 = mA m 43 from rfl, nI_1]
      have f : FX m (wA (wA m 42 ((mA m 42).set k 0)) 43 ((mA m 43).set k 0)) := FX.trans (FX.A (by omega)) (FX.A (by omega))
      have h' := h.fr f
      have z5 : ∀ p, p < k + 1 → ((mA m 42).set k 0).getD p 0 = 0 ∧ ((mA m 43).set k 0).getD p 0 = 0 := fun p hp => by
        rw [gd_set, gd_set]
        by_cases e : k = p
        · subst e; rw [if_pos ⟨rfl, by omega⟩, if_pos ⟨rfl, by omega⟩]; exact ⟨rfl, rfl⟩
        · rw [if_neg (fun z => e z.1), if_neg (fun z => e z.1)]; exact q5 p (by omega)
      have z0 : XR0 (wA (wA m 42 ((mA m 42).set k 0)) 43 ((mA m 43).set k 0)) := ⟨by show ((mA m 42).set k 0).length = 7; rw [List.length_set]; exact l1, by show ((mA m 43).set k 0).length = 7; rw [List.length_set]; exact l2, l3, l4⟩
      rw [(h'.g hkn).2.2.2.2.1, Option.bind_some]
      by_cases e : pd 4 k = 0
      · rw [if_pos ((nI_z (by omega)).mpr e)]
        have em : ∀ d, mB pd d (k + 1) = mB pd d k := fun d => by
          show mB pd d k + (if pd 4 k ≠ 0 ∧ pd 2 k = d then 1 else 0) = _
          rw [if_neg (fun z => z.1 e)]; rfl
        obtain ⟨m', s1, s2, s3⟩ := ih (k + 1) _ F' (by omega) (by omega) h' (ht.fr hc3 f) z0 q1 q2 q3 q4 z5 (fun d hd => by rw [em]; exact q6 d hd)
        exact ⟨m', s1, s2, f.trans s3⟩
      · rw [if_neg (fun z => e ((nI_z (by omega)).mp z)), (h'.g hkn).2.2.1, Option.bind_some, show mA (wA (wA m 42 ((mA m 42).set k 0)) 43 ((mA m 43).set k 0)) 45 = mA m 45 from rfl, gA_at (by omega) (by omega), q6 _ r3, Option.bind_some, sA_at0 (by show pd 2 k < (mA m 45).length; omega) (by omega), Option.bind_some, show mA (wA (wA m 42 ((mA m 42).set k 0)) 43 ((mA m 43).set k 0)) 45 = mA m 45 from rfl, nI_1]
        have f2 : FX m (wA (wA (wA m 42 ((mA m 42).set k 0)) 43 ((mA m 43).set k 0)) 45 ((mA m 45).set (pd 2 k) (nI (mB pd (pd 2 k) k + 1)))) := f.trans (FX.A (by omega))
        obtain ⟨m', s1, s2, s3⟩ := ih (k + 1) _ F' (by omega) (by omega) (h.fr f2) (ht.fr hc3 f2) ⟨z0.1, z0.2.1, l3, by show ((mA m 45).set _ _).length = 12; rw [List.length_set]; exact l4⟩ q1 q2 q3 q4 z5 (fun d hd => by
          show ((mA m 45).set _ _).getD d 0 = nI (mB pd d k + if pd 4 k ≠ 0 ∧ pd 2 k = d then 1 else 0)
          rw [gd_set]
          by_cases e2 : pd 2 k = d
          · rw [if_pos ⟨e2, by omega⟩, if_pos ⟨e, e2⟩, e2]
          · rw [if_neg (fun z => e2 z.1), if_neg (fun z => e2 z.2)]; exact q6 d hd)
        exact ⟨m', s1, s2, f2.trans s3⟩
  have main1 : ∀ (j k : Nat) (m : mM) (F : Nat), k + j = 12 → j < F → PXr m c n pd → TXr m c t cs → XR0 m → mR m 2624 = c → mI m 2625 = due → mI m 2626 = nI dt → mI m 2627 = nI yr → (∀ d, d < k → (mA m 45).getD d 0 = 0) → ∃ m', f_X1_start_28 F m c (nI k) = some ((), m') ∧ XD m' c n pd t cs due (dt, yr, fun _ => 0, fun _ => 0, mI m 2628) ∧ FX m m' := by
    intro j
    induction j with
    | zero =>
      intro k m F hk hF h ht h0 q1 q2 q3 q4 q5
      obtain ⟨F', rfl⟩ : ∃ F', F = F' + 1 := ⟨F - 1, by omega⟩
      obtain rfl : k = 12 := by omega
      show ∃ m', fb_X1_start_28 _ _ _ _ = some ((), m') ∧ _
      unfold fb_X1_start_28
      rw [if_pos (show (12 : Int32) ≤ nI 12 by decide)]
      exact main2 n 0 m 1000 (by omega) (by omega) h ht h0 q1 q2 q3 q4 (fun p hp => absurd hp (Nat.not_lt_zero p)) (fun d hd => q5 d hd)
    | succ j ih =>
      intro k m F hk hF h ht h0 q1 q2 q3 q4 q5
      obtain ⟨F', rfl⟩ : ∃ F', F = F' + 1 := ⟨F - 1, by omega⟩
      obtain ⟨l1, l2, l3, l4⟩ := id h0
      show ∃ m', fb_X1_start_28 _ _ _ _ = some ((), m') ∧ _
      unfold fb_X1_start_28
      rw [if_neg (show ¬ (12 : Int32) ≤ nI k from (nI_ge (by omega) (by decide) : ¬ nI 12 ≤ nI k)), sA_at0 (by omega) (by omega), Option.bind_some, nI_1]
      have f : FX m (wA m 45 ((mA m 45).set k 0)) := FX.A (by omega)
      obtain ⟨m', s1, s2, s3⟩ := ih (k + 1) _ F' (by omega) (by omega) (h.fr f) (ht.fr hc3 f) ⟨l1, l2, l3, by show ((mA m 45).set _ _).length = 12; rw [List.length_set]; exact l4⟩ q1 q2 q3 q4 (fun d hd => by
        show ((mA m 45).set _ _).getD d 0 = 0
        rw [gd_set]
        by_cases e : k = d
        · rw [if_pos ⟨e, by omega⟩]
        · rw [if_neg (fun z => e z.1)]; exact q5 d (by omega))
      exact ⟨m', s1, s2, f.trans s3⟩
  unfold f_X1_start
  rw [nmM_eq, nmM_eq, nmM_eq, nmM_eq]
  have e1 : mI (wI (wR m 2624 c) 2625 due) (64 * c + 1) = nI dt := by rw [mI_wI, if_neg (by omega)]; exact hd
  rw [e1]
  have e2 : mI (wI (wI (wR m 2624 c) 2625 due) 2626 (nI dt)) (64 * c + 2) = nI yr := by rw [mI_wI, if_neg (by omega), mI_wI, if_neg (by omega)]; exact hy
  rw [e2]
  have f : FX m (wI (wI (wI (wR m 2624 c) 2625 due) 2626 (nI dt)) 2627 (nI yr)) := FX.trans (FX.trans (FX.trans FX.R (FX.I (by omega))) (FX.I (by omega))) (FX.I (by omega))
  obtain ⟨m', s1, s2, s3⟩ := main1 12 0 _ 1000 (by omega) (by omega) (h.fr f) (ht.fr hc3 f) h0 rfl rfl rfl rfl (fun d hd => absurd hd (Nat.not_lt_zero d))
  exact ⟨m', s1, s2, f.trans s3⟩
end X
end GO
end
-- 22q.goday.lean.txt
section
/-! DAYS OF THE REFERENCE -/
section GODAY
/-- what of the reference's memory the days do not touch -/
def FM (m m' : mM) : Prop := (∀ k, k ≠ 1 → k ≠ 2 → mI m' k = mI m k) ∧ (∀ c, c ≠ 5 → c ≠ 17 → c ≠ 18 → mA m' c = mA m c) ∧ (∀ c, mL m' c = mL m c) ∧ (∀ k, mR m' k = mR m k)
theorem FM.rfl {m : mM} : FM m m := ⟨fun _ _ _ => Eq.refl _, fun _ _ _ _ => Eq.refl _, fun _ => Eq.refl _, fun _ => Eq.refl _⟩
theorem FM.trans {a b c : mM} (h : FM a b) (g : FM b c) : FM a c := ⟨fun k h1 h2 => (g.1 k h1 h2).trans (h.1 k h1 h2), fun k h1 h2 h3 => (g.2.1 k h1 h2 h3).trans (h.2.1 k h1 h2 h3), fun k => (g.2.2.1 k).trans (h.2.2.1 k), fun k => (g.2.2.2 k).trans (h.2.2.2 k)⟩
theorem FM.I {m : mM} {k : Nat} {v : Int32} (hk : k = 1 ∨ k = 2) : FM m (wI m k v) := ⟨fun j h1 h2 => by rw [mI_wI, if_neg (by omega)], fun _ _ _ _ => Eq.refl _, fun _ => Eq.refl _, fun _ => Eq.refl _⟩
theorem FM.A {m : mM} {c : Nat} {v : List Int32} (hk : c = 5 ∨ c = 17 ∨ c = 18) : FM m (wA m c v) := ⟨fun _ _ _ => Eq.refl _, fun j h1 h2 h3 => by rw [mA_wA, if_neg (by omega)], fun _ => Eq.refl _, fun _ => Eq.refl _⟩
section M
variable {m : mM} {n : Nat} {pd : Nat → Nat → Nat} {tw : Nat} {cs : List CL} {due : Int32} {pu : Nat → Int32}
theorem PT.fr {m' : mM} (h : PT m n pd tw cs) (f : FM m m') : PT m' n pd tw cs := by
  obtain ⟨⟨h1, h2, h3, h4⟩, g1, g2, g3, g4, g5, g6⟩ := h
  have hA : ∀ c, c ≠ 5 → c ≠ 17 → c ≠ 18 → mA m' c = mA m c := f.2.1
  refine ⟨⟨by rw [f.1 0 (by decide) (by decide)]; exact h1, h2, ?_, ?_⟩, g1, by rw [f.1 11 (by decide) (by decide)]; exact g2, ?_, g4, g5, fun hz => ?_⟩
  · rw [hA 1 (by decide) (by decide) (by decide), hA 2 (by decide) (by decide) (by decide), hA 3 (by decide) (by decide) (by decide), hA 4 (by decide) (by decide) (by decide), hA 7 (by decide) (by decide) (by decide), hA 6 (by decide) (by decide) (by decide)]; exact h3
  · rw [hA 1 (by decide) (by decide) (by decide), hA 2 (by decide) (by decide) (by decide), hA 3 (by decide) (by decide) (by decide), hA 4 (by decide) (by decide) (by decide), hA 7 (by decide) (by decide) (by decide), hA 6 (by decide) (by decide) (by decide)]; exact h4
  · unfold TMh at g3 ⊢
    rw [hA 9 (by decide) (by decide) (by decide), hA 10 (by decide) (by decide) (by decide), hA 11 (by decide) (by decide) (by decide), hA 12 (by decide) (by decide) (by decide), hA 13 (by decide) (by decide) (by decide), hA 14 (by decide) (by decide) (by decide), hA 15 (by decide) (by decide) (by decide), hA 16 (by decide) (by decide) (by decide)]; exact g3
  · have := g6 hz
    unfold TMe at this ⊢
    rw [hA 9 (by decide) (by decide) (by decide), hA 10 (by decide) (by decide) (by decide), hA 11 (by decide) (by decide) (by decide), hA 12 (by decide) (by decide) (by decide), hA 13 (by decide) (by decide) (by decide), hA 14 (by decide) (by decide) (by decide)]; exact this
def DUE (m : mM) (cs : List CL) (due : Int32) : Prop := (mI m 27 = -1 ∧ due = nI (clLast 1 10 cs)) ∨ (mI m 27 = due ∧ 0 ≤ due)
theorem DUE.fr {m' : mM} (h : DUE m cs due) (f : FM m m') : DUE m' cs due := by
  unfold DUE at h ⊢
  rw [f.1 27 (by decide) (by decide)]; exact h
theorem m_due (h : MCl m tw cs) (hd : DUE m cs due) : f_X7_dueNow m = some (due, m) := by
  rcases hd with ⟨h1, rfl⟩ | ⟨h1, h2⟩
  · exact m_dueNow h h1
  · exact m_dueNow' h1 h2
/-- the reference in the midst of days -/
def MD (m : mM) (n : Nat) (pd : Nat → Nat → Nat) (tw : Nat) (cs : List CL) (due : Int32) (pu : Nat → Int32) (s : DS) : Prop := PT m n pd tw cs ∧ DUE m cs due ∧ mI m 1 = nI s.1 ∧ mI m 2 = nI s.2.1 ∧ (mA m 5).length = 7 ∧ (mA m 17).length = 100 ∧ (mA m 18).length = 7 ∧ (∀ p, p < n → (mA m 5).getD p 0 = pu p + s.2.2.1 p) ∧ (∀ p, p < n → (mA m 18).getD p 0 = s.2.2.2.1 p) ∧ s.1 < 12
theorem m_sell {s : DS} (h : MD m n pd tw cs due pu s) (hy : s.2.1 < 2 ^ 31) : ∃ m', f_X7_goDay_13 1000 m (nI (mB pd s.1 n)) 0 0 = (if nI (mB pd s.1 n) = 0 then f_X7_goDay_129 1000 m' (nI (mB pd s.1 n)) (duD n pd cs due s.2.1 s.1 n) 0 0 else (rmI (duD n pd cs due s.2.1 s.1 n) (nI (mB pd s.1 n))).bind fun x4 => f_X7_goDay_129 1000 m' (nI (mB pd s.1 n)) (duD n pd cs due s.2.1 s.1 n) x4 0) ∧ MD m' n pd tw cs due pu (s.1, s.2.1, fun p => s.2.2.1 p + slD n pd cs due s.2.1 s.1 p, s.2.2.2.1, duD n pd cs due s.2.1 s.1 n) ∧ FM m m' := by
  have hn := h.1.1.2.1.1
  have hmb := mB_le (pd := pd) (d := s.1) n
  have main : ∀ (j k : Nat) (m : mM) (F : Nat), k + j = n → j < F → MD m n pd tw cs due pu (s.1, s.2.1, fun p => if p < k then s.2.2.1 p + slD n pd cs due s.2.1 s.1 p else s.2.2.1 p, s.2.2.2.1, duD n pd cs due s.2.1 s.1 k) → ∃ m', f_X7_goDay_13 F m (nI (mB pd s.1 n)) (duD n pd cs due s.2.1 s.1 k) (nI k) = (if nI (mB pd s.1 n) = 0 then f_X7_goDay_129 1000 m' (nI (mB pd s.1 n)) (duD n pd cs due s.2.1 s.1 n) 0 0 else (rmI (duD n pd cs due s.2.1 s.1 n) (nI (mB pd s.1 n))).bind fun x4 => f_X7_goDay_129 1000 m' (nI (mB pd s.1 n)) (duD n pd cs due s.2.1 s.1 n) x4 0) ∧ MD m' n pd tw cs due pu (s.1, s.2.1, fun p => s.2.2.1 p + slD n pd cs due s.2.1 s.1 p, s.2.2.2.1, duD n pd cs due s.2.1 s.1 n) ∧ FM m m' := by
    intro j
    induction j with
    | zero =>
      intro k m F hk hF h
      obtain ⟨F', rfl⟩ : ∃ F', F = F' + 1 := ⟨F - 1, by omega⟩
      obtain rfl : k = n := by omega
      obtain ⟨a1, a2, a3, a4, a5, a6, a7, a8, a9⟩ := h
      refine ⟨m, ?_, ⟨a1, a2, a3, a4, a5, a6, a7, fun p hp => ?_, a9⟩, FM.rfl⟩
      · show fb_X7_goDay_13 _ _ _ _ _ = _
        unfold fb_X7_goDay_13
        rw [a1.1.1, if_pos (nI_le (Nat.le_refl _) (by omega))]
      · rw [a8 p hp]
        show pu p + (if p < k then _ else _) = _
        rw [if_pos hp]
    | succ j ih =>
      intro k m F hk hF h
      obtain ⟨F', rfl⟩ : ∃ F', F = F' + 1 := ⟨F - 1, by omega⟩
      obtain ⟨a1, a2, a3, a4, a5, a6, a7, a8, a9, a10⟩ := id h
      have hkn : k < n := by omega
      obtain ⟨r1, r2, r3, r4, r5, r6⟩ := a1.1.2.1.2 k hkn
      have hsl := sel_lt (y := s.2.1) (fs := clLast 3 99 cs) a1.1.2.1 hkn
      have a10' : s.1 < 12 := a10
      have g5 : (mA m 5).getD k 0 = pu k + s.2.2.1 k := (a8 k hkn).trans (congrArg (pu k + ·) (if_neg (Nat.lt_irrefl k)))
      have skip : ¬ slS n pd cs s.2.1 s.1 k → ∃ m', f_X7_goDay_13 F' m (nI (mB pd s.1 n)) (duD n pd cs due s.2.1 s.1 k) (nI k + 1) = (if nI (mB pd s.1 n) = 0 then f_X7_goDay_129 1000 m' (nI (mB pd s.1 n)) (duD n pd cs due s.2.1 s.1 n) 0 0 else (rmI (duD n pd cs due s.2.1 s.1 n) (nI (mB pd s.1 n))).bind fun x4 => f_X7_goDay_129 1000 m' (nI (mB pd s.1 n)) (duD n pd cs due s.2.1 s.1 n) x4 0) ∧ MD m' n pd tw cs due pu (s.1, s.2.1, fun p => s.2.2.1 p + slD n pd cs due s.2.1 s.1 p, s.2.2.2.1, duD n pd cs due s.2.1 s.1 n) ∧ FM m m' := by
        intro hz
        have ed : duD n pd cs due s.2.1 s.1 (k + 1) = duD n pd cs due s.2.1 s.1 k := if_neg hz
        have hX : MD m n pd tw cs due pu (s.1, s.2.1, fun p => if p < k + 1 then s.2.2.1 p + slD n pd cs due s.2.1 s.1 p else s.2.2.1 p, s.2.2.2.1, duD n pd cs due s.2.1 s.1 (k + 1)) := by
          refine ⟨a1, a2, a3, a4, a5, a6, a7, fun p hp => ?_, a9, a10⟩
          rw [a8 p hp]
          show pu p + (if p < k then _ else _) = pu p + (if p < k + 1 then _ else _)
          by_cases e : p = k
          · subst e; rw [if_neg (by omega), if_pos (by omega)]; unfold slD; rw [if_neg hz, Int32.add_zero]
          · by_cases e2 : p < k
            · rw [if_pos e2, if_pos (by omega)]
            · rw [if_neg e2, if_neg (by omega)]
        have := ih (k + 1) m F' (by omega) (by omega) hX
        rw [ed] at this
        rw [nI_1]; exact this
      show ∃ m', fb_X7_goDay_13 _ _ _ _ _ = _ ∧ _
      unfold fb_X7_goDay_13
      rw [a1.1.1, if_neg (nI_ge hkn (by omega)), (a1.1.g hkn).2.2.2.2.1, Option.bind_some]
      by_cases e1 : pd 4 k = 0
      · rw [if_pos ((nI_z (by omega)).mpr e1)]; exact skip (fun z => z.1 e1)
      rw [if_neg (fun z => e1 ((nI_z (by omega)).mp z)), m_sells a1 hkn a4 hy, bnd_some, a3]
      by_cases e2 : selD n pd s.2.1 (clLast 3 99 cs) k = s.1
      · have hs : slS n pd cs s.2.1 s.1 k := ⟨e1, e2⟩
        obtain ⟨l, hl, ht⟩ := m_takes a1 a6 hkn a10 a4 hy
        rw [if_pos (congrArg nI e2), ht, bnd_some]
        have f1 : FM m (wA m 17 l) := FM.A (by omega)
        have b1 := a1.fr f1
        have b2 := a2.fr f1
        have fin : ∀ x : Int32, x = pyD n pd cs due s.2.1 s.1 k → ∃ m', f_X7_goDay_74 (fun m y1 y2 y3 => f_X7_goDay_13 F' m y1 y2 y3) (wA m 17 l) (nI (mB pd s.1 n)) (duD n pd cs due s.2.1 s.1 k) (nI k) (tkD n pd cs s.2.1 s.1 k) x = (if nI (mB pd s.1 n) = 0 then f_X7_goDay_129 1000 m' (nI (mB pd s.1 n)) (duD n pd cs due s.2.1 s.1 n) 0 0 else (rmI (duD n pd cs due s.2.1 s.1 n) (nI (mB pd s.1 n))).bind fun x4 => f_X7_goDay_129 1000 m' (nI (mB pd s.1 n)) (duD n pd cs due s.2.1 s.1 n) x4 0) ∧ MD m' n pd tw cs due pu (s.1, s.2.1, fun p => s.2.2.1 p + slD n pd cs due s.2.1 s.1 p, s.2.2.2.1, duD n pd cs due s.2.1 s.1 n) ∧ FM m m' := by
          intro x hx
          unfold f_X7_goDay_74
          rw [show mA (wA m 17 l) 5 = mA m 5 from rfl, gA_at (by omega) (by omega), g5, Option.bind_some, show (2 : Int32) = nI 2 from rfl, show (1 : Int32) = nI 1 from rfl, m_lastOf b1.2 (by decide), bnd_some, m_putOff b1 hkn a4 hy, bnd_some, sA_at0 (by show k < (mA m 5).length; omega) (by omega), Option.bind_some, nmI_eq, nI_add, show mA (wA m 17 l) 5 = mA m 5 from rfl]
          generalize hv : pu k + s.2.2.1 k + (tkD n pd cs s.2.1 s.1 k - nI (clLast 2 1 cs) * nI (offD n pd s.2.1 (clLast 3 99 cs) k) - x) = v
          have hv' : v = pu k + (s.2.2.1 k + slD n pd cs due s.2.1 s.1 k) := by rw [← hv, hx, Int32.add_assoc]; unfold slD; rw [if_pos hs]
          have ed : duD n pd cs due s.2.1 s.1 (k + 1) = duD n pd cs due s.2.1 s.1 k + x := by rw [hx]; exact if_pos hs
          have f : FM m (wA (wA m 17 l) 5 ((mA m 5).set k v)) := FM.trans f1 (FM.A (by omega))
          have hX : MD (wA (wA m 17 l) 5 ((mA m 5).set k v)) n pd tw cs due pu (s.1, s.2.1, fun p => if p < k + 1 then s.2.2.1 p + slD n pd cs due s.2.1 s.1 p else s.2.2.1 p, s.2.2.2.1, duD n pd cs due s.2.1 s.1 (k + 1)) := by
            refine ⟨a1.fr f, a2.fr f, a3, a4, ?_, hl, a7, fun p hp => ?_, a9, a10⟩
            · show ((mA m 5).set k v).length = 7
              rw [List.length_set]; exact a5
            · show ((mA m 5).set k v).getD p 0 = pu p + (if p < k + 1 then _ else _)
              rw [gd_set]
              by_cases e : k = p
              · subst e; rw [if_pos ⟨rfl, by omega⟩, if_pos (by omega), hv']
              · rw [if_neg (fun z => e z.1), a8 p hp]
                show pu p + (if p < k then _ else _) = _
                by_cases e2 : p < k
                · rw [if_pos e2, if_pos (by omega)]
                · rw [if_neg e2, if_neg (by omega)]
          obtain ⟨m', q1, q2, q3⟩ := ih (k + 1) _ F' (by omega) (by omega) hX
          rw [ed] at q1
          exact ⟨m', q1, q2, f.trans q3⟩
        by_cases e3 : mB pd s.1 n = 0
        · rw [if_pos ((nI_z (by omega)).mpr e3)]
          exact fin 0 (by unfold pyD; rw [if_pos e3])
        · rw [if_neg (fun z => e3 ((nI_z (by omega)).mp z)), m_due b1.2 b2, bnd_some]
          have hq : due * takV (facT n pd s.2.1 k s.1) (clTk cs) = tkD n pd cs s.2.1 s.1 k * due := Int32.mul_comm ..
          rw [hq]
          unfold dvI
          rw [if_neg (show ¬ (100 : Int32) = 0 by decide), Option.bind_some]
          exact fin (tkD n pd cs s.2.1 s.1 k * due / 100) (by unfold pyD; rw [if_neg e3])
      · rw [if_neg (fun z => e2 ((nI_eq (by omega) (by omega)).mp z))]; exact skip (fun z => e2 z.2)
  exact main n 0 m 1000 (by omega) (by omega) h
theorem m_share {s : DS} {D : Int32} {odd : Int32} (h : MD m n pd tw cs due pu s) (hD : D = duD n pd cs due s.2.1 s.1 n) (ho : mB pd s.1 n ≠ 0 → odd = D % nI (mB pd s.1 n)) : ∃ m', f_X7_goDay_129 1000 m (nI (mB pd s.1 n)) D odd 0 = some (D, m') ∧ MD m' n pd tw cs due pu ((s.1 + 1) % 12, s.2.1 + (if s.1 = 11 then 1 else 0), fun p => s.2.2.1 p + hrD n pd cs due s.2.1 s.1 p, fun p => s.2.2.2.1 p + hrD n pd cs due s.2.1 s.1 p, s.2.2.2.2) ∧ FM m m' := by
  have hn := h.1.1.2.1.1
  have hmb := mB_le (pd := pd) (d := s.1) n
  have main : ∀ (j k : Nat) (m : mM) (F : Nat), k + j = n → j < F → MD m n pd tw cs due pu (s.1, s.2.1, fun p => if p < k then s.2.2.1 p + hrD n pd cs due s.2.1 s.1 p else s.2.2.1 p, fun p => if p < k then s.2.2.2.1 p + hrD n pd cs due s.2.1 s.1 p else s.2.2.2.1 p, s.2.2.2.2) → ∃ m', f_X7_goDay_129 F m (nI (mB pd s.1 n)) D (if mB pd s.1 k = 0 then odd else 0) (nI k) = some (D, m') ∧ MD m' n pd tw cs due pu ((s.1 + 1) % 12, s.2.1 + (if s.1 = 11 then 1 else 0), fun p => s.2.2.1 p + hrD n pd cs due s.2.1 s.1 p, fun p => s.2.2.2.1 p + hrD n pd cs due s.2.1 s.1 p, s.2.2.2.2) ∧ FM m m' := by
    intro j
    induction j with
    | zero =>
      intro k m F hk hF h
      obtain ⟨F', rfl⟩ : ∃ F', F = F' + 1 := ⟨F - 1, by omega⟩
      obtain rfl : k = n := by omega
      obtain ⟨a1, a2, a3, a4, a5, a6, a7, a8, a9, a10⟩ := h
      have a10' : s.1 < 12 := a10
      have fin : ∀ x : Nat, x = (if s.1 = 11 then 1 else 0) → ∃ m', f_X7_goDay_222 m D (nI x) (mI m 2) = some (D, m') ∧ MD m' k pd tw cs due pu ((s.1 + 1) % 12, s.2.1 + (if s.1 = 11 then 1 else 0), fun p => s.2.2.1 p + hrD k pd cs due s.2.1 s.1 p, fun p => s.2.2.2.1 p + hrD k pd cs due s.2.1 s.1 p, s.2.2.2.2) ∧ FM m m' := by
        intro x hx
        unfold f_X7_goDay_222
        have e1 : mI (wI m 2 (mI m 2 + nI x)) 1 + 1 = nI (s.1 + 1) := by
          show mI m 1 + 1 = _
          rw [a3]; exact nI_1 _
        rw [nmM_eq, e1, show (12 : Int32) = nI 12 from rfl, rmI_at (by omega) (by decide) (by decide), Option.bind_some, nmM_eq]
        have f : FM m (wI (wI m 2 (mI m 2 + nI x)) 1 (nI ((s.1 + 1) % 12))) := FM.trans (FM.I (by omega)) (FM.I (by omega))
        refine ⟨_, rfl, ⟨a1.fr f, a2.fr f, rfl, ?_, a5, a6, a7, fun p hp => ?_, fun p hp => ?_, Nat.mod_lt _ (by decide)⟩, f⟩
        · show mI m 2 + nI x = nI (s.2.1 + _)
          rw [a4, hx]; exact nI_add _ _
        · refine (a8 p hp).trans ?_
          show pu p + (if p < k then _ else _) = _
          rw [if_pos hp]
        · refine (a9 p hp).trans ?_
          exact if_pos hp
      show ∃ m', fb_X7_goDay_129 _ _ _ _ _ _ = _ ∧ _
      unfold fb_X7_goDay_129
      rw [a1.1.1, if_pos (nI_le (Nat.le_refl _) (by omega)), a3]
      show ∃ m', (if nI s.1 = (11 : Int32) then _ else _) = _ ∧ _
      by_cases e : s.1 = 11
      · rw [if_pos (show nI s.1 = (11 : Int32) from congrArg nI e)]
        exact fin 1 (by rw [if_pos e])
      · rw [if_neg (show ¬ nI s.1 = (11 : Int32) from fun z => e ((nI_eq (by omega) (by decide)).mp (show nI s.1 = nI 11 from z)))]
        exact fin 0 (by rw [if_neg e])
    | succ j ih =>
      intro k m F hk hF h
      obtain ⟨F', rfl⟩ : ∃ F', F = F' + 1 := ⟨F - 1, by omega⟩
      obtain ⟨a1, a2, a3, a4, a5, a6, a7, a8, a9, a10⟩ := id h
      have a10' : s.1 < 12 := a10
      have hkn : k < n := by omega
      obtain ⟨r1, r2, r3, r4, r5, r6⟩ := a1.1.2.1.2 k hkn
      have g5 : (mA m 5).getD k 0 = pu k + s.2.2.1 k := (a8 k hkn).trans (congrArg (pu k + ·) (if_neg (Nat.lt_irrefl k)))
      have g18 : (mA m 18).getD k 0 = s.2.2.2.1 k := (a9 k hkn).trans (if_neg (Nat.lt_irrefl k))
      have skip : ¬ (pd 4 k ≠ 0 ∧ pd 2 k = s.1) → ∃ m', f_X7_goDay_129 F' m (nI (mB pd s.1 n)) D (if mB pd s.1 k = 0 then odd else 0) (nI k + 1) = some (D, m') ∧ MD m' n pd tw cs due pu ((s.1 + 1) % 12, s.2.1 + (if s.1 = 11 then 1 else 0), fun p => s.2.2.1 p + hrD n pd cs due s.2.1 s.1 p, fun p => s.2.2.2.1 p + hrD n pd cs due s.2.1 s.1 p, s.2.2.2.2) ∧ FM m m' := by
        intro hz
        have em : mB pd s.1 (k + 1) = mB pd s.1 k := by
          show mB pd s.1 k + (if pd 4 k ≠ 0 ∧ pd 2 k = s.1 then 1 else 0) = _
          rw [if_neg hz]; rfl
        have hh : hrD n pd cs due s.2.1 s.1 k = 0 := if_neg hz
        have hX : MD m n pd tw cs due pu (s.1, s.2.1, fun p => if p < k + 1 then s.2.2.1 p + hrD n pd cs due s.2.1 s.1 p else s.2.2.1 p, fun p => if p < k + 1 then s.2.2.2.1 p + hrD n pd cs due s.2.1 s.1 p else s.2.2.2.1 p, s.2.2.2.2) := by
          refine ⟨a1, a2, a3, a4, a5, a6, a7, fun p hp => ?_, fun p hp => ?_, a10⟩
          · rw [a8 p hp]
            show pu p + (if p < k then _ else _) = pu p + (if p < k + 1 then _ else _)
            by_cases e : p = k
            · subst e; rw [if_neg (by omega), if_pos (by omega), hh, Int32.add_zero]
            · by_cases e2 : p < k
              · rw [if_pos e2, if_pos (by omega)]
              · rw [if_neg e2, if_neg (by omega)]
          · rw [a9 p hp]
            show (if p < k then _ else _) = if p < k + 1 then _ else _
            by_cases e : p = k
            · subst e; rw [if_neg (by omega), if_pos (by omega), hh, Int32.add_zero]
            · by_cases e2 : p < k
              · rw [if_pos e2, if_pos (by omega)]
              · rw [if_neg e2, if_neg (by omega)]
        have := ih (k + 1) m F' (by omega) (by omega) hX
        rw [em] at this
        rw [nI_1]; exact this
      show ∃ m', fb_X7_goDay_129 _ _ _ _ _ _ = _ ∧ _
      unfold fb_X7_goDay_129
      rw [a1.1.1, if_neg (nI_ge hkn (by omega)), (a1.1.g hkn).2.2.2.2.1, Option.bind_some]
      by_cases e1 : pd 4 k = 0
      · rw [if_pos ((nI_z (by omega)).mpr e1)]; exact skip (fun z => z.1 e1)
      rw [if_neg (fun z => e1 ((nI_z (by omega)).mp z)), (a1.1.g hkn).2.2.1, Option.bind_some, a3]
      by_cases e2 : pd 2 k = s.1
      · have hb0 : mB pd s.1 n ≠ 0 := fun z => mB_0 z hkn ⟨e1, e2⟩
        have em : ¬ mB pd s.1 (k + 1) = 0 := by
          show ¬ mB pd s.1 k + (if pd 4 k ≠ 0 ∧ pd 2 k = s.1 then 1 else 0) = 0
          rw [if_pos ⟨e1, e2⟩]; omega
        have hh : D / nI (mB pd s.1 n) + (if mB pd s.1 k = 0 then odd else 0) = hrD n pd cs due s.2.1 s.1 k := by
          rw [ho hb0, hD]; exact (if_pos ⟨e1, e2⟩).symm
        unfold dvI
        rw [if_pos (congrArg nI e2), gA_at (by omega) (by omega), g5, Option.bind_some, if_neg (nI_ne0 (by omega) (by omega)), Option.bind_some, hh]
        generalize hv : pu k + s.2.2.1 k + hrD n pd cs due s.2.1 s.1 k = v
        have hv' : v = pu k + (s.2.2.1 k + hrD n pd cs due s.2.1 s.1 k) := by rw [← hv, Int32.add_assoc]
        rw [sA_at0 (by omega) (by omega), Option.bind_some, show mA (wA m 5 ((mA m 5).set k v)) 18 = mA m 18 from rfl, gA_at (by omega) (by omega), g18, Option.bind_some, Option.bind_some, hh]
        generalize hu : s.2.2.2.1 k + hrD n pd cs due s.2.1 s.1 k = u
        rw [sA_at0 (by show k < (mA m 18).length; omega) (by omega), Option.bind_some, show mA (wA m 5 ((mA m 5).set k v)) 18 = mA m 18 from rfl]
        have f : FM m (wA (wA m 5 ((mA m 5).set k v)) 18 ((mA m 18).set k u)) := FM.trans (FM.A (by omega)) (FM.A (by omega))
        have hX : MD (wA (wA m 5 ((mA m 5).set k v)) 18 ((mA m 18).set k u)) n pd tw cs due pu (s.1, s.2.1, fun p => if p < k + 1 then s.2.2.1 p + hrD n pd cs due s.2.1 s.1 p else s.2.2.1 p, fun p => if p < k + 1 then s.2.2.2.1 p + hrD n pd cs due s.2.1 s.1 p else s.2.2.2.1 p, s.2.2.2.2) := by
          refine ⟨a1.fr f, a2.fr f, a3, a4, ?_, a6, ?_, fun p hp => ?_, fun p hp => ?_, a10⟩
          · show ((mA m 5).set k v).length = 7
            rw [List.length_set]; exact a5
          · show ((mA m 18).set k u).length = 7
            rw [List.length_set]; exact a7
          · show ((mA m 5).set k v).getD p 0 = pu p + (if p < k + 1 then _ else _)
            rw [gd_set]
            by_cases e : k = p
            · subst e; rw [if_pos ⟨rfl, by omega⟩, if_pos (by omega), hv']
            · rw [if_neg (fun z => e z.1), a8 p hp]
              show pu p + (if p < k then _ else _) = _
              by_cases e2 : p < k
              · rw [if_pos e2, if_pos (by omega)]
              · rw [if_neg e2, if_neg (by omega)]
          · show ((mA m 18).set k u).getD p 0 = if p < k + 1 then _ else _
            rw [gd_set]
            by_cases e : k = p
            · subst e; rw [if_pos ⟨rfl, by omega⟩, if_pos (by omega), hu]
            · rw [if_neg (fun z => e z.1), a9 p hp]
              show (if p < k then _ else _) = _
              by_cases e2 : p < k
              · rw [if_pos e2, if_pos (by omega)]
              · rw [if_neg e2, if_neg (by omega)]
        obtain ⟨m', q1, q2, q3⟩ := ih (k + 1) _ F' (by omega) (by omega) hX
        rw [if_neg em] at q1
        exact ⟨m', by rw [nI_1]; exact q1, q2, f.trans q3⟩
      · rw [if_neg (fun z => e2 ((nI_eq (by omega) (by omega)).mp z))]; exact skip (fun z => e2 z.2)
  exact main n 0 m 1000 (by omega) (by omega) h
theorem m_goDay {s : DS} (h : MD m n pd tw cs due pu s) (hy : s.2.1 < 2 ^ 31) : ∃ m', f_X7_goDay m = some (duD n pd cs due s.2.1 s.1 n, m') ∧ MD m' n pd tw cs due pu (day1 n pd cs due s) ∧ FM m m' := by
  unfold f_X7_goDay
  have hmb := mB_le (pd := pd) (d := s.1) n
  have hn := h.1.1.2.1.1
  rw [h.2.2.1, m_manyBorn h.1.1 h.2.2.2.2.2.2.2.2.2, bnd_some]
  obtain ⟨m1, p1, p2, p3⟩ := m_sell h hy
  rw [p1]
  by_cases e : mB pd s.1 n = 0
  · rw [if_pos ((nI_z (by omega)).mpr e)]
    obtain ⟨m2, q1, q2, q3⟩ := m_share (odd := 0) p2 rfl (fun z => absurd e z)
    exact ⟨m2, q1, q2, p3.trans q3⟩
  · rw [if_neg (fun z => e ((nI_z (by omega)).mp z))]
    unfold rmI
    rw [if_neg (nI_ne0 (by omega) (by omega)), Option.bind_some]
    obtain ⟨m2, q1, q2, q3⟩ := m_share p2 rfl (fun z => rfl)
    exact ⟨m2, q1, q2, p3.trans q3⟩
end M
end GODAY
end
-- 22q2.bound.lean.txt
section
/-! HOW FAR A DAY CAN GO -/
section BOUND
theorem addI {a b : Int32} (h1 : -1073741824 ≤ a.toInt ∧ a.toInt ≤ 1073741823) (h2 : -1073741824 ≤ b.toInt ∧ b.toInt ≤ 1073741823) : (a + b).toInt = a.toInt + b.toInt := by
  rw [Int32.toInt_add]
  exact Int.bmod_eq_of_le (by omega) (by omega)
theorem subI {a b : Int32} (h1 : -1073741824 ≤ a.toInt ∧ a.toInt ≤ 1073741823) (h2 : -1073741823 ≤ b.toInt ∧ b.toInt ≤ 1073741823) : (a - b).toInt = a.toInt - b.toInt := by
  rw [Int32.toInt_sub]
  exact Int.bmod_eq_of_le (by omega) (by omega)
theorem tkV_b {F : Nat → Nat} : ∀ {tk : List (Nat × List Int32)} {a : Nat}, (∀ x ∈ tk, x.1 < 100) → ∃ b, b ≤ a + 99 * tk.length ∧ tkV F tk (nI a) = nI (10 * b)
  | [], a, _ => ⟨a, by simp, by unfold tkV; rw [show (10 : Int32) = nI 10 from rfl, pk_mul]⟩
  | c :: cs, a, h => by
    have hc := h c (List.mem_cons_self ..)
    unfold tkV
    by_cases e : evS F c.2 [] = true
    · rw [if_pos e, nI_add]
      obtain ⟨b, h1, h2⟩ := tkV_b (F := F) (tk := cs) (a := a + c.1) (fun x hx => h x (List.mem_cons_of_mem _ hx))
      exact ⟨b, by simp; omega, h2⟩
    · rw [if_neg e]
      obtain ⟨b, h1, h2⟩ := tkV_b (F := F) (tk := cs) (a := a) (fun x hx => h x (List.mem_cons_of_mem _ hx))
      exact ⟨b, by simp; omega, h2⟩
theorem clTk_b : ∀ {cs : List CL}, (∀ c ∈ cs, clOk c) → ∀ x ∈ clTk cs, x.1 < 100
  | [], _, x, hx => absurd hx (by simp [clTk])
  | c :: cs, h, x, hx => by
    have ih := clTk_b (cs := cs) (fun c hc => h c (List.mem_cons_of_mem _ hc))
    unfold clTk at hx
    split at hx
    · rcases List.mem_cons.mp hx with rfl | hx
      · exact (h c (List.mem_cons_self ..)).2.1
      · exact ih x hx
    · exact ih x hx
section X
variable {n : Nat} {pd : Nat → Nat → Nat} {cs : List CL} {y d p e : Nat}
theorem tkD_b (h : ∀ c ∈ cs, clOk c) (hl : cs.length ≤ 10) : ∃ v, v ≤ 9900 ∧ tkD n pd cs y d p = nI v := by
  unfold tkD takV
  by_cases c : clTk cs = []
  · rw [if_pos c]; exact ⟨100, by decide, rfl⟩
  · rw [if_neg c]
    obtain ⟨b, h1, h2⟩ := tkV_b (F := facT n pd y p d) (a := 0) (clTk_b h)
    have := clTk_len (cs := cs)
    exact ⟨10 * b, by omega, h2⟩
theorem pyD_b (h : ∀ c ∈ cs, clOk c) (hl : cs.length ≤ 10) (he : e < 100) : ∃ v, v ≤ 9801 ∧ pyD n pd cs (nI e) y d p = nI v ∧ ∃ w, v ≤ w ∧ w ≤ 9900 ∧ tkD n pd cs y d p = nI w := by
  obtain ⟨w, h1, h2⟩ := tkD_b (n := n) (pd := pd) (y := y) (d := d) (p := p) h hl
  unfold pyD
  by_cases c : mB pd d n = 0
  · rw [if_pos c]; exact ⟨0, by decide, rfl, w, Nat.zero_le _, h1, h2⟩
  · rw [if_neg c, h2]
    have hm : w * e ≤ 9900 * 99 := Nat.mul_le_mul h1 (by omega)
    have hm2 : w * e ≤ w * 99 := Nat.mul_le_mul (Nat.le_refl w) (by omega)
    refine ⟨w * e / 100, by omega, ?_, w, by omega, h1, rfl⟩
    rw [pk_mul, show (100 : Int32) = nI 100 from rfl, pk_div (by omega) (by decide) (by decide)]
theorem duD_b (h : ∀ c ∈ cs, clOk c) (hl : cs.length ≤ 10) (he : e < 100) : ∀ k, ∃ D, D ≤ 9801 * k ∧ duD n pd cs (nI e) y d k = nI D
  | 0 => ⟨0, by decide, rfl⟩
  | k + 1 => by
    obtain ⟨D, h1, h2⟩ := duD_b h hl he k
    unfold duD
    by_cases c : slS n pd cs y d k
    · obtain ⟨v, h3, h4, -⟩ := pyD_b (n := n) (pd := pd) (y := y) (d := d) (p := k) h hl he
      rw [if_pos c, h2, h4, nI_add]; exact ⟨D + v, by omega, rfl⟩
    · rw [if_neg c]; exact ⟨D, by omega, h2⟩
theorem hrD_b (hn : n ≤ 7) (h : ∀ c ∈ cs, clOk c) (hl : cs.length ≤ 10) (he : e < 100) (hp : p < n) : ∃ v, v ≤ 68607 ∧ hrD n pd cs (nI e) y d p = nI v := by
  unfold hrD
  by_cases c : pd 4 p ≠ 0 ∧ pd 2 p = d
  · obtain ⟨D, h1, h2⟩ := duD_b (n := n) (pd := pd) (y := y) (d := d) h hl he n
    have hb := mB_le (pd := pd) (d := d) n
    have hb0 : 0 < mB pd d n := Nat.pos_of_ne_zero (fun z => mB_0 z hp c)
    rw [if_pos c, h2, pk_div (by omega) hb0 (by omega)]
    have hd := Nat.div_add_mod D (mB pd d n)
    have hq : D / mB pd d n ≤ mB pd d n * (D / mB pd d n) := Nat.le_mul_of_pos_left _ hb0
    by_cases c2 : mB pd d p = 0
    · have er : nI D % nI (mB pd d n) = nI (D % mB pd d n) := by rw [← irem_eq_mod, pk_rem (by omega) hb0 (by omega)]
      rw [if_pos c2, er, nI_add]
      exact ⟨_, by omega, rfl⟩
    · rw [if_neg c2, Int32.add_zero]; exact ⟨_, by omega, rfl⟩
  · rw [if_neg c]; exact ⟨0, by decide, rfl⟩
theorem slD_b (h : ∀ c ∈ cs, clOk c) (hl : cs.length ≤ 10) (he : e < 100) : -1089 ≤ (slD n pd cs (nI e) y d p).toInt ∧ (slD n pd cs (nI e) y d p).toInt ≤ 9900 := by
  unfold slD
  by_cases c : slS n pd cs y d p
  · obtain ⟨v, h1, h2, w, h3, h4, h5⟩ := pyD_b (n := n) (pd := pd) (y := y) (d := d) (p := p) h hl he
    have hc := clLast_lt (w := 2) (d := 1) h (by decide)
    have ho : offD n pd y (clLast 3 99 cs) p < 12 := Nat.mod_lt _ (by decide)
    have hm : clLast 2 1 cs * offD n pd y (clLast 3 99 cs) p ≤ 99 * 11 := Nat.mul_le_mul (by omega) (by omega)
    rw [if_pos c, h2, h5, pk_mul]
    have e1 : (nI w - nI (clLast 2 1 cs * offD n pd y (clLast 3 99 cs) p)).toInt = (w : Int) - (clLast 2 1 cs * offD n pd y (clLast 3 99 cs) p : Nat) := by
      rw [subI (by rw [nI_toInt (by omega)]; omega) (by rw [nI_toInt (by omega)]; omega), nI_toInt (by omega), nI_toInt (by omega)]
    rw [subI (by rw [e1]; omega) (by rw [nI_toInt (by omega)]; omega), e1, nI_toInt (by omega)]
    omega
  · rw [if_neg c]; decide
theorem day1_b {s : DS} {B : Int} (hn : n ≤ 7) (h : ∀ c ∈ cs, clOk c) (hl : cs.length ≤ 10) (he : e < 100) (hB : B ≤ 1073000000) (hp : p < n) (hg : -B ≤ (s.2.2.1 p).toInt ∧ (s.2.2.1 p).toInt ≤ B) : -(B + 80000) ≤ ((day1 n pd cs (nI e) s).2.2.1 p).toInt ∧ ((day1 n pd cs (nI e) s).2.2.1 p).toInt ≤ B + 80000 := by
  obtain ⟨v, h1, h2⟩ := hrD_b (pd := pd) (y := s.2.1) (d := s.1) hn h hl he hp
  have h3 := slD_b (n := n) (pd := pd) (y := s.2.1) (d := s.1) (p := p) h hl he
  show _ ≤ (s.2.2.1 p + slD n pd cs (nI e) s.2.1 s.1 p + hrD n pd cs (nI e) s.2.1 s.1 p).toInt ∧ _
  have e1 : (s.2.2.1 p + slD n pd cs (nI e) s.2.1 s.1 p).toInt = (s.2.2.1 p).toInt + (slD n pd cs (nI e) s.2.1 s.1 p).toInt := addI (by omega) (by omega)
  have e2 : (s.2.2.1 p + slD n pd cs (nI e) s.2.1 s.1 p + hrD n pd cs (nI e) s.2.1 s.1 p).toInt = (s.2.2.1 p).toInt + (slD n pd cs (nI e) s.2.1 s.1 p).toInt + v := by
    rw [h2, addI (by rw [e1]; omega) (by rw [nI_toInt (by omega)]; omega), e1, nI_toInt (by omega)]
  show _ ≤ _ ∧ (s.2.2.1 p + slD n pd cs (nI e) s.2.1 s.1 p + hrD n pd cs (nI e) s.2.1 s.1 p).toInt ≤ _
  rw [e2]; omega
theorem days_b (hn : n ≤ 7) (h : ∀ c ∈ cs, clOk c) (hl : cs.length ≤ 10) (he : e < 100) (hp : p < n) : ∀ (N : Nat) {s : DS} {B : Int}, B + 80000 * N ≤ 1073000000 → (-B ≤ (s.2.2.1 p).toInt ∧ (s.2.2.1 p).toInt ≤ B) → -(B + 80000 * N) ≤ ((days n pd cs (nI e) N s).2.2.1 p).toInt ∧ ((days n pd cs (nI e) N s).2.2.1 p).toInt ≤ B + 80000 * N
  | 0, s, B, hB, hg => by
    show _ ≤ (s.2.2.1 p).toInt ∧ (s.2.2.1 p).toInt ≤ _
    omega
  | N + 1, s, B, hB, hg => by
    have h1 := day1_b (pd := pd) (s := s) hn h hl he (by omega) hp hg
    have h2 := days_b hn h hl he hp N (s := day1 n pd cs (nI e) s) (B := B + 80000) (by omega) h1
    show _ ≤ ((days n pd cs (nI e) N (day1 n pd cs (nI e) s)).2.2.1 p).toInt ∧ ((days n pd cs (nI e) N (day1 n pd cs (nI e) s)).2.2.1 p).toInt ≤ _
    omega
end X
end BOUND
end
