/-! DAYS: the reference's sells and putOff, the class's Days begun -/
section DAYS
variable {m : mM} {n : Nat} {pd : Nat → Nat → Nat}
/-- the town of the reference -/
def MCl (m : mM) (tw : Nat) (cs : List CL) : Prop := tw ≤ 6 ∧ mI m 11 = nI tw - 1 ∧ TMh m ∧ (∀ c ∈ cs, clOk c) ∧ (tw = 0 → cs = []) ∧ (0 < tw → TMe m (tw - 1) cs)
theorem MCl.len {tw : Nat} {cs : List CL} (h : MCl m tw cs) : cs.length ≤ 10 := by
  obtain ⟨h1, h2, h3, h4, h5, h6⟩ := h
  by_cases c : tw = 0
  · rw [h5 c]; decide
  · exact (h6 (by omega)).2.1
theorem MCl.ok {tw c : Nat} {cs : List CL} (h : MCl m tw cs) (hc : c < cs.length) : clOk (cs.getD c (0, 0, [])) := by
  rw [List.getD_eq_getElem?_getD, List.getElem?_eq_getElem hc]
  exact h.2.2.2.1 _ (List.getElem_mem hc)
theorem m_clauseFrom {tw : Nat} {cs : List CL} (h : MCl m tw cs) : f_X7_clauseFrom m = some (nI (10 * (tw - 1)), m) := by
  unfold f_X7_clauseFrom
  obtain ⟨h1, h2, h3, h4, h5, h6⟩ := h
  rw [h2]
  rcases tw with _ | t
  · rw [if_neg (by decide)]; rfl
  · rw [nI_pred, if_pos (show (0 : Int32) ≤ nI t from (nI_le (Nat.zero_le _) (by omega) : nI 0 ≤ nI t)), show (10 : Int32) = nI 10 from rfl, pk_mul, Nat.add_sub_cancel]
theorem m_clauseTo {tw : Nat} {cs : List CL} (h : MCl m tw cs) : f_X7_clauseTo m = some (nI (10 * (tw - 1) + cs.length), m) := by
  unfold f_X7_clauseTo
  obtain ⟨h1, h2, h3, h4, h5, h6⟩ := h
  rw [h2]
  rcases tw with _ | t
  · rw [if_neg (by decide), h5 rfl]; rfl
  · rw [nI_pred, if_pos (show (0 : Int32) ≤ nI t from (nI_le (Nat.zero_le _) (by omega) : nI 0 ≤ nI t)), gA_at (by rw [h3.1]; omega) (by omega), Option.bind_some, show (mA m 9).getD t 0 = nI cs.length from (h6 (by omega)).1, show (10 : Int32) = nI 10 from rfl, pk_mul, nI_add, Nat.add_sub_cancel]
theorem MCl.at {tw c : Nat} {cs : List CL} (h : MCl m tw cs) (hc : c < cs.length) : gA (mA m 10) (nI (10 * (tw - 1) + c)) = some (nI (cs.getD c (0, 0, [])).1) ∧ gA (mA m 11) (nI (10 * (tw - 1) + c)) = some (nI (cs.getD c (0, 0, [])).2.1) := by
  have hl := h.len
  obtain ⟨h1, h2, h3, h4, h5, h6⟩ := h
  have ht : 0 < tw := by
    rcases tw with _ | t
    · rw [h5 rfl] at hc; exact absurd hc (by simp)
    · omega
  obtain ⟨k1, k2, k3⟩ := h6 ht
  have := k3 c hc
  rw [gA_at (by rw [h3.2.1]; omega) (by omega), gA_at (by rw [h3.2.2.1]; omega) (by omega), this.1, this.2.1]
  exact ⟨rfl, rfl⟩
theorem dropD {α : Type} {cs : List α} {c : Nat} {d : α} (hc : c < cs.length) : cs.drop c = cs.getD c d :: cs.drop (c + 1) := by
  rw [List.drop_eq_getElem_cons hc, List.getD_eq_getElem?_getD, List.getElem?_eq_getElem hc]; rfl
theorem m_lastOf {tw w d : Nat} {cs : List CL} (h : MCl m tw cs) (hw : w < 4) : f_X7_lastOf m (nI w) (nI d) = some (nI (clLast w d cs), m) := by
  unfold f_X7_lastOf
  rw [m_clauseFrom h, bnd_some]
  have hl := h.len
  have ht := h.1
  have main : ∀ j c d F, c + j = cs.length → j < F → f_X7_lastOf_8 F m (nI w) (nI d) (nI (10 * (tw - 1) + c)) = some (nI (clLast w d (cs.drop c)), m) := by
    intro j
    induction j with
    | zero =>
      intro c d F hc hF
      obtain ⟨F', rfl⟩ : ∃ F', F = F' + 1 := ⟨F - 1, by omega⟩
      show fb_X7_lastOf_8 _ _ _ _ _ = _
      unfold fb_X7_lastOf_8
      rw [m_clauseTo h, bnd_some, if_pos (nI_le (by omega) (by omega)), List.drop_of_length_le (by omega)]; rfl
    | succ j ih =>
      intro c d F hc hF
      obtain ⟨F', rfl⟩ : ∃ F', F = F' + 1 := ⟨F - 1, by omega⟩
      show fb_X7_lastOf_8 _ _ _ _ _ = _
      unfold fb_X7_lastOf_8
      have hk := h.ok (c := c) (by omega)
      have hk1 : (cs.getD c (0, 0, [])).1 < 4 := hk.1
      rw [m_clauseTo h, bnd_some, if_neg (nI_ge (by omega) (by omega)), (h.at (c := c) (by omega)).1, Option.bind_some, dropD (d := (0, 0, [])) (show c < cs.length by omega), clLast, nI_1]
      by_cases e : (cs.getD c (0, 0, [])).1 = w
      · rw [if_pos (congrArg nI e), if_pos e, (h.at (c := c) (by omega)).2, Option.bind_some]
        exact ih (c + 1) _ F' (by omega) (by omega)
      · rw [if_neg (fun z => e ((nI_eq (by omega) (by omega)).mp z)), if_neg e]
        exact ih (c + 1) _ F' (by omega) (by omega)
  exact main cs.length 0 d 1000 (by omega) (by omega)
theorem clLast_lt {w : Nat} : ∀ {cs : List CL} {d : Nat}, (∀ c ∈ cs, clOk c) → d < 100 → clLast w d cs < 100
  | [], _, _, hd => hd
  | c :: cs, d, h, hd => by
    unfold clLast
    refine clLast_lt (fun c hc => h c (List.mem_cons_of_mem _ hc)) ?_
    split
    · exact (h c (List.mem_cons_self ..)).2.1
    · exact hd
/-- what the reference's people and town are at a year -/
def PT (m : mM) (n : Nat) (pd : Nat → Nat → Nat) (tw : Nat) (cs : List CL) : Prop := PMr m n pd ∧ MCl m tw cs
theorem m_sells {tw p y : Nat} {cs : List CL} (h : PT m n pd tw cs) (hp : p < n) (hy : mI m 2 = nI y) (hy2 : y < 2 ^ 31) : f_X7_sells m (nI p) = some (nI (selD n pd y (clLast 3 99 cs) p), m) := by
  unfold f_X7_sells
  have hw := wish_lt (y := y) h.1.2.1 hp
  have hc := clLast_lt (w := 3) (d := 99) h.2.2.2.2.1 (by decide)
  rw [m_wished h.1 hp hy hy2, bnd_some, show (3 : Int32) = nI 3 from rfl, show (99 : Int32) = nI 99 from rfl, m_lastOf h.2 (by decide), bnd_some]
  unfold selD
  by_cases e : wishD n pd y p = clLast 3 99 cs
  · rw [if_pos (congrArg nI e), if_pos e, nI_1, show (12 : Int32) = nI 12 from rfl, rmI_at (by omega) (by decide) (by decide), Option.bind_some]
  · rw [if_neg (fun z => e ((nI_eq (by omega) (by omega)).mp z)), if_neg e]
theorem m_putOff {tw p y : Nat} {cs : List CL} (h : PT m n pd tw cs) (hp : p < n) (hy : mI m 2 = nI y) (hy2 : y < 2 ^ 31) : f_X7_putOff m (nI p) = some (nI (offD n pd y (clLast 3 99 cs) p), m) := by
  unfold f_X7_putOff
  rw [m_sells h hp hy hy2, bnd_some, (h.1.g hp).2.2.2.1, Option.bind_some, off_at (sel_lt h.1.2.1 hp) (h.1.2.1.2 p hp).2.2.2.1, Option.bind_some]; rfl
theorem m_dueNow {tw : Nat} {cs : List CL} (h : MCl m tw cs) (h27 : mI m 27 = -1) : f_X7_dueNow m = some (nI (clLast 1 10 cs), m) := by
  unfold f_X7_dueNow
  rw [if_neg (by rw [h27]; decide), show (1 : Int32) = nI 1 from rfl, show (10 : Int32) = nI 10 from rfl, m_lastOf h (by decide), bnd_some]
theorem m_dueNow' {x : Int32} (h27 : mI m 27 = x) (h0 : 0 ≤ x) : f_X7_dueNow m = some (x, m) := by
  unfold f_X7_dueNow
  rw [if_pos (by rw [h27]; exact h0), h27]
/-! the class -/
/-- the people of a state of the class -/
def PXr (m : mM) (c n : Nat) (pd : Nat → Nat → Nat) : Prop := (c = 14 ∨ c = 23 ∨ c = 32) ∧ mI m (64 * c + 0) = nI n ∧ PDr n pd ∧ PDs (mA m (c + 1)) (mA m (c + 2)) (mA m (c + 3)) (mA m (c + 4)) (mA m (c + 6)) (mA m (c + 7)) ∧ PDe n pd (mA m (c + 1)) (mA m (c + 2)) (mA m (c + 3)) (mA m (c + 4)) (mA m (c + 6)) (mA m (c + 7))
theorem PXr.c {c : Nat} (h : PXr m c n pd) : isC true 2 c = true := by
  rcases h.1 with rfl | rfl | rfl <;> rfl
theorem PXr.g {c p : Nat} (h : PXr m c n pd) (hp : p < n) : gA (mA m (c + 1)) (nI p) = some (nI (pd 0 p)) ∧ gA (mA m (c + 2)) (nI p) = some (nI (pd 1 p)) ∧ gA (mA m (c + 3)) (nI p) = some (nI (pd 2 p)) ∧ gA (mA m (c + 4)) (nI p) = some (nI (pd 3 p)) ∧ gA (mA m (c + 6)) (nI p) = some (nI (pd 4 p)) ∧ ∀ j, j < 4 → gA (mA m (c + 7)) (nI (4 * p + j)) = some (nI (pd (5 + j) p)) := by
  obtain ⟨-, h0, ⟨h1, -⟩, ⟨l1, l2, l3, l4, l5, l6, -⟩, h2⟩ := h
  obtain ⟨g1, g2, g3, g4, g5, g6⟩ := h2 p hp
  refine ⟨by rw [gA_at (by omega) (by omega), g1], by rw [gA_at (by omega) (by omega), g2], by rw [gA_at (by omega) (by omega), g3], by rw [gA_at (by omega) (by omega), g4], by rw [gA_at (by omega) (by omega), g5], fun j hj => by rw [gA_at (by omega) (by omega), g6 j hj]⟩
/-- births as they stand -/
def BTr (m : mM) (n : Nat) (pd : Nat → Nat → Nat) : Prop := (mA m 45).length = 12 ∧ ∀ d, d < 12 → (mA m 45).getD d 0 = nI (mB pd d n)
theorem BTr.g {d : Nat} (h : BTr m n pd) (hd : d < 12) : gA (mA m 45) (nI d) = some (nI (mB pd d n)) := by
  rw [gA_at (by rw [h.1]; exact hd) (by omega), h.2 d hd]
theorem x_freeDay {pl b c : Nat} (h : BTr m n pd) (hn : n ≤ 7) (hpl : pl < 12) (hb : b < 12) (hc : c < 100) : f_X1_freeDay m (nI pl) (nI b) (nI c) = some (match fnd (freeP n pd pl b c) 0 12 with | some k => nI ((pl + k) % 12) | none => -1, m) := by
  unfold f_X1_freeDay
  have main : ∀ j k F, k + j = 12 → j < F → f_X1_freeDay_3 F m (nI pl) (nI b) (nI c) (nI k) = some (match fnd (freeP n pd pl b c) k j with | some k => nI ((pl + k) % 12) | none => -1, m) := by
    intro j
    induction j with
    | zero =>
      intro k F hk hF
      obtain ⟨F', rfl⟩ : ∃ F', F = F' + 1 := ⟨F - 1, by omega⟩
      obtain rfl : k = 12 := by omega
      show fb_X1_freeDay_3 _ _ _ _ _ _ = _
      unfold fb_X1_freeDay_3
      rw [if_pos (show (12 : Int32) ≤ nI 12 by decide)]; rfl
    | succ j ih =>
      intro k F hk hF
      obtain ⟨F', rfl⟩ : ∃ F', F = F' + 1 := ⟨F - 1, by omega⟩
      show fb_X1_freeDay_3 _ _ _ _ _ _ = _
      unfold fb_X1_freeDay_3
      rw [if_neg (show ¬ (12 : Int32) ≤ nI k from (nI_ge (by omega) (by decide) : ¬ nI 12 ≤ nI k)), nI_add, show (12 : Int32) = nI 12 from rfl, rmI_at (by omega) (by decide) (by decide), Option.bind_some, fnd_s, nI_1]
      have hm : (pl + k) % 12 < 12 := Nat.mod_lt _ (by decide)
      by_cases c1 : (pl + k) % 12 = b
      · rw [if_pos (congrArg nI c1), if_neg (by unfold freeP; rw [decide_eq_false (fun z => z c1)]; exact Bool.false_ne_true)]
        exact ih (k + 1) F' (by omega) (by omega)
      · rw [if_neg (fun z => c1 ((nI_eq (by omega) (by omega)).mp z)), h.g hm, Option.bind_some]
        have hb := mB_le (pd := pd) (d := (pl + k) % 12) n
        by_cases c2 : mB pd ((pl + k) % 12) n < c
        · rw [if_neg (nI_ge c2 (by omega)), if_pos (by unfold freeP; rw [decide_eq_true c1, decide_eq_true c2]; rfl)]
        · rw [if_pos (nI_le (by omega) (by omega)), if_neg (by unfold freeP; rw [decide_eq_false c2, Bool.and_false]; exact Bool.false_ne_true)]
          exact ih (k + 1) F' (by omega) (by omega)
  exact main 12 0 1000 rfl (by decide)
/-- with a crowd of eight the first that is not shunned -/
theorem fnd_8 {pl b : Nat} (hn : n ≤ 7) (hpl : pl < 12) : (match fnd (freeP n pd pl b 8) 0 12 with | some k => nI ((pl + k) % 12) | none => -1) = nI (if b = pl then (pl + 1) % 12 else pl) := by
  have h8 : ∀ d, mB pd d n < 8 := fun d => by have := mB_le (pd := pd) (d := d) n; omega
  have f0 : ∀ k, freeP n pd pl b 8 k = decide (¬ (pl + k) % 12 = b) := fun k => by unfold freeP; rw [decide_eq_true (h8 _), Bool.and_true]
  by_cases c : b = pl
  · subst c
    rw [fnd_s, f0, decide_eq_false (fun z => z (by omega)), if_neg Bool.false_ne_true, fnd_s, f0, decide_eq_true (by omega), if_pos rfl, if_pos rfl]
  · rw [fnd_s, f0, decide_eq_true (by omega), if_pos rfl, if_neg c]
    show nI ((pl + 0) % 12) = nI pl
    congr 1; omega
theorem x_wanted {c p y : Nat} (h : PXr m c n pd) (hb : BTr m n pd) (hc : mR m 2624 = c) (hy : mI m 2627 = nI y) (hy2 : y < 2 ^ 31) (hp : p < n) : f_X1_wanted m (nI p) = some (nI (wishD n pd y p), m) := by
  unfold f_X1_wanted
  have q := that_lt (pd := pd) hp
  have hn := h.2.2.1.1
  obtain ⟨r1, r2, r3, r4, r5, r6⟩ := h.2.2.1.2 p hp
  obtain ⟨g1, g2, g3, g4, g5, g6⟩ := h.g hp
  obtain ⟨t1, t2, t3, t4, t5, t6⟩ := h.g q
  obtain ⟨z1, z2, z3, z4, z5, z6⟩ := h.2.2.1.2 _ q
  rw [hc, chR_t h.c, g4, Option.bind_some, chR_t h.c, h.2.1, if_neg (show ¬ nI n ≤ (0 : Int32) from (nI_ge (by omega) (by omega) : ¬ nI n ≤ nI 0)), chR_t h.c, g2, Option.bind_some, chR_t h.c, h.2.1, rmI_at (by omega) (by omega) (by omega), Option.bind_some]
  show f_X1_wanted_41 m (nI p) (nI (pd 3 p)) (nI (thatO n pd p)) = _
  unfold f_X1_wanted_41 wishD
  rw [hc, chR_t h.c, t3, Option.bind_some, chR_t h.c, g1, Option.bind_some]
  have e8 := x_freeDay (c := 8) hb hn r4 z3 (by decide)
  have e2 := x_freeDay (c := 2) hb hn r4 z3 (by decide)
  rw [fnd_8 hn r4] at e8
  have hbh : (if pd 2 (thatO n pd p) = pd 3 p then (pd 3 p + 1) % 12 else pd 3 p) = behindD n pd p := rfl
  rw [hbh] at e8
  generalize hkd : pd 0 p = kd at r1
  match kd, r1 with
  | 0, _ => rfl
  | 1, _ => show bnd (f_X1_freeDay m (nI (pd 3 p)) (nI (pd 2 (thatO n pd p))) (nI 8)) _ = _; rw [e8]; rfl
  | 2, _ => rfl
  | 3, _ =>
    rw [if_neg (show ¬ nI 3 = 1 by decide), if_neg (show ¬ nI 3 = 2 by decide), if_pos (show nI 3 = 3 from rfl)]
    rw [chR_t h.c, g2, Option.bind_some, nI_add, show (12 : Int32) = nI 12 from rfl, rmI_at (by omega) (by decide) (by decide)]; rfl
  | 4, _ =>
    show bnd (f_X1_freeDay m (nI (pd 3 p)) (nI (pd 2 (thatO n pd p))) (nI 2)) _ = _
    rw [e2, bnd_some]
    show _ = some (nI (shunD n pd p), m)
    unfold shunD
    cases hf : fnd (freeP n pd (pd 3 p) (pd 2 (thatO n pd p)) 2) 0 12 with
    | none =>
      show (if (-1 : Int32) = -1 then bnd (f_X1_freeDay m (nI (pd 3 p)) (nI (pd 2 (thatO n pd p))) (nI 8)) _ else _) = _
      rw [if_pos rfl, e8]; rfl
    | some k =>
      show (if nI ((pd 3 p + k) % 12) = -1 then _ else _) = _
      rw [if_neg (fun z => by
        have e := congrArg Int32.toInt z
        rw [nI_toInt (by omega)] at e
        have e1 : (-1 : Int32).toInt = -1 := by decide
        omega)]
  | 5, _ =>
    rw [if_neg (show ¬ nI 5 = 1 by decide), if_neg (show ¬ nI 5 = 2 by decide), if_neg (show ¬ nI 5 = 3 by decide), if_neg (show ¬ nI 5 = 4 by decide), if_pos (show nI 5 = 5 from rfl)]
    rw [chR_t h.c, t5, Option.bind_some]
    show _ = some (nI (if pd 4 (thatO n pd p) = 0 then pd 3 p else pd 2 (thatO n pd p)), m)
    by_cases k : pd 4 (thatO n pd p) = 0
    · rw [if_pos ((nI_z (by omega)).mpr k), if_pos k]
    · rw [if_neg (fun z => k ((nI_z (by omega)).mp z)), if_neg k]
  | 6, _ =>
    rw [if_neg (show ¬ nI 6 = 1 by decide), if_neg (show ¬ nI 6 = 2 by decide), if_neg (show ¬ nI 6 = 3 by decide), if_neg (show ¬ nI 6 = 4 by decide), if_neg (show ¬ nI 6 = 5 by decide), if_pos (show nI 6 = 6 from rfl), chR_t h.c, hy, show (4 : Int32) = nI 4 from rfl, rmI_at hy2 (by decide) (by decide), Option.bind_some, pk_mul, nI_add, Nat.mul_comm p 4, g6 _ (Nat.mod_lt _ (by decide)), Option.bind_some]; rfl
end DAYS
