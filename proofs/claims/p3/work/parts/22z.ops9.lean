/-! OPERATIONS: high, last, reckoning, judge -/
section OPS9
variable {mx mm : mM}
def hiP (n : Nat) (pd : Nat → Nat → Nat) (cs : List CL) (dt yr p : Nat) : Nat → Bool := fun i => decide (gY n pd cs (nI (5 * i)) dt yr p < (bst (vB n pd cs (nI (5 * i)) dt yr 3 p) 12).2)
theorem x_high_lp {n : Nat} {pd : Nat → Nat → Nat} {t : Nat} {cs : List CL} {dt yr p : Nat} (hp : p < n) (l18 : (mA mx 18).length = 7) (h18 : (mA mx 18).getD p 0 = nI (pd 3 p)) : ∀ (j i : Nat) (m : mM) (F : Nat), i + j = 20 → j < F → FSX mx m → TR m n pd t cs dt yr → ∃ m', f_X6_high_23 F m (nI p) (nI (5 * i)) = some (match fnd (hiP n pd cs dt yr p) i j with | some i => nI (5 * i) | none => -5, m') ∧ FSX mx m' := by
  intro j
  induction j with
  | zero =>
    intro i m F hi hF hf h
    obtain ⟨F', rfl⟩ : ∃ F', F = F' + 1 := ⟨F - 1, by omega⟩
    obtain rfl : i = 20 := by omega
    refine ⟨m, ?_, hf⟩
    show fb_X6_high_23 _ _ _ _ = _
    unfold fb_X6_high_23
    rw [if_pos (show (100 : Int32) ≤ nI (5 * 20) by decide)]; rfl
  | succ j ih =>
    intro i m F hi hF hf h
    obtain ⟨F', rfl⟩ : ∃ F', F = F' + 1 := ⟨F - 1, by omega⟩
    have hn := h.1.2.2.1.1
    have r4 := (h.1.2.2.1.2 p hp).2.2.2.1
    obtain ⟨m1, q1, q2, q3⟩ := x_betterPlan (due := nI (5 * i)) h hp
    have hf1 := hf.ft q2 q3.x.1 q3.x.2
    have hb := bst_lt (v := vB n pd cs (nI (5 * i)) dt yr 3 p) 12 (by decide)
    have e18 : mA m1 18 = mA mx 18 := hf1.2.1 18 (by decide) (by decide) (by decide)
    show ∃ m', fb_X6_high_23 _ _ _ _ = _ ∧ _
    unfold fb_X6_high_23
    rw [if_neg (show ¬ (100 : Int32) ≤ nI (5 * i) from (nI_ge (by omega) (by decide) : ¬ nI 100 ≤ nI (5 * i))), q1, bnd_some, e18, gA_at (by omega) (by omega), h18, Option.bind_some, fnd_s]
    by_cases c : gY n pd cs (nI (5 * i)) dt yr p < (bst (vB n pd cs (nI (5 * i)) dt yr 3 p) 12).2
    · rw [if_pos c, if_neg (fun z => bst_ne c ((nI_eq (by omega) (by omega)).mp z)), if_pos (show hiP n pd cs dt yr p i = true from decide_eq_true c)]
      exact ⟨m1, rfl, hf1⟩
    · rw [if_neg c, if_pos rfl, if_neg (show ¬ hiP n pd cs dt yr p i = true from fun z => c (of_decide_eq_true z)), show (5 : Int32) = nI 5 from rfl, nI_add, show 5 * i + 5 = 5 * (i + 1) by omega]
      exact ih (i + 1) m1 F' (by omega) (by omega) hf1 q3
section M
variable {m : mM} {n : Nat} {pd : Nat → Nat → Nat} {tw : Nat} {cs : List CL} {due : Int32} {pu : Nat → Int32} {dt yr : Nat}
theorem MR.fb {m' : mM} (h : MR m n pd tw cs due pu dt yr) (f : FB m m') : MR m' n pd tw cs due pu dt yr := by
  obtain ⟨a1, a2, a3, a4, a5, a6, a7, a8, a9⟩ := h
  have hI : ∀ k, k ≠ 31 → k ≠ 32 → k ≠ 34 → k ≠ 35 → mI m' k = mI m k := f.1
  refine ⟨a1.fy (hI 0 (by decide) (by decide) (by decide) (by decide)) (hI 11 (by decide) (by decide) (by decide) (by decide)) (fun c _ h2 => f.2.1 c h2), ?_, by rw [hI 1 (by decide) (by decide) (by decide) (by decide)]; exact a3, by rw [hI 2 (by decide) (by decide) (by decide) (by decide)]; exact a4, a5, a6, by rw [f.2.1 5 (by decide)]; exact a7, by rw [f.2.1 5 (by decide)]; exact a8, f.2.2.2.2⟩
  unfold DUE at a2 ⊢
  rw [hI 27 (by decide) (by decide) (by decide) (by decide)]; exact a2
theorem MR.du27 {x : Nat} (h : MR m n pd tw cs due pu dt yr) (hx : x < 2 ^ 31) : MR (wI m 27 (nI x)) n pd tw cs (nI x) pu dt yr := by
  obtain ⟨a1, a2, a3, a4, a5, a6, a7, a8, a9⟩ := h
  exact ⟨a1.fy rfl rfl (fun c _ _ => rfl), Or.inr ⟨rfl, (nI_le (Nat.zero_le _) hx : nI 0 ≤ nI x)⟩, a3, a4, a5, a6, a7, a8, a9⟩
/-- frame of high -/
def FH (m m' : mM) : Prop := (∀ k, k ≠ 27 → k ≠ 31 → k ≠ 32 → k ≠ 34 → k ≠ 35 → mI m' k = mI m k) ∧ (∀ c, ¬ (17 ≤ c ∧ c ≤ 20) → mA m' c = mA m c) ∧ (∀ c, mL m' c = mL m c) ∧ (∀ k, mR m' k = mR m k)
theorem m_high_lp {p : Nat} (hp : p < n) {m0 : mM} : ∀ (j i : Nat) (m : mM) (due : Int32) (F : Nat), i + j = 20 → j + 1 < F → FH m0 m → MR m n pd tw cs due pu dt yr → ∃ m' d', f_X7_high_15 F m (nI p) (-5) (nI (5 * i)) = some (match fnd (hiP n pd cs dt yr p) i j with | some i => nI (5 * i) | none => -5, wI m' 27 (-1)) ∧ FH m0 m' ∧ MR m' n pd tw cs d' pu dt yr := by
  intro j
  induction j with
  | zero =>
    intro i m due F hi hF hf h
    obtain ⟨F', rfl⟩ : ∃ F', F = F' + 1 := ⟨F - 1, by omega⟩
    obtain rfl : i = 20 := by omega
    refine ⟨m, due, ?_, hf, h⟩
    show fb_X7_high_15 _ _ _ _ _ = _
    unfold fb_X7_high_15
    rw [if_pos (show (100 : Int32) ≤ nI (5 * 20) by decide)]; rfl
  | succ j ih =>
    intro i m due F hi hF hf h
    obtain ⟨F', rfl⟩ : ∃ F', F = F' + 1 := ⟨F - 1, by omega⟩
    obtain ⟨m1, q1, q2, q3⟩ := m_wouldChange (h.du27 (x := 5 * i) (by omega)) hp
    have hf1 : FH m0 m1 := ⟨fun k k1 k2 k3 k4 k5 => by rw [q2.1 k k2 k3 k4 k5, mI_wI, if_neg k1]; exact hf.1 k k1 k2 k3 k4 k5, fun c hc => (q2.2.1 c hc).trans (hf.2.1 c hc), fun c => (q2.2.2.1 c).trans (hf.2.2.1 c), fun k => (q2.2.2.2.1 k).trans (hf.2.2.2 k)⟩
    have h1 := (h.du27 (x := 5 * i) (by omega)).fb q2
    show ∃ m' d', fb_X7_high_15 _ _ _ _ _ = _ ∧ _
    unfold fb_X7_high_15
    rw [if_neg (show ¬ (100 : Int32) ≤ nI (5 * i) from (nI_ge (by omega) (by decide) : ¬ nI 100 ≤ nI (5 * i))), if_neg (show ¬ (0 : Int32) ≤ -5 by decide), nmM_eq, q1, bnd_some, fnd_s]
    have e5 : nI (5 * i) + 5 = nI (5 * (i + 1)) := by rw [show (5 : Int32) = nI 5 from rfl, nI_add, show 5 * i + 5 = 5 * (i + 1) by omega]
    by_cases c : gY n pd cs (nI (5 * i)) dt yr p < (bst (vB n pd cs (nI (5 * i)) dt yr 3 p) 12).2
    · rw [if_pos c, if_neg (show ¬ (1 : Int32) = 0 by decide), if_pos (show hiP n pd cs dt yr p i = true from decide_eq_true c), e5]
      obtain ⟨F'', rfl⟩ : ∃ F'', F' = F'' + 1 := ⟨F' - 1, by omega⟩
      refine ⟨m1, _, ?_, hf1, h1⟩
      show fb_X7_high_15 _ _ _ _ _ = _
      unfold fb_X7_high_15
      split
      · rfl
      · rw [if_pos (show (0 : Int32) ≤ nI (5 * i) from (nI_le (Nat.zero_le _) (by omega) : nI 0 ≤ _))]; rfl
    · rw [if_neg c, if_pos rfl, if_neg (show ¬ hiP n pd cs dt yr p i = true from fun z => c (of_decide_eq_true z)), e5]
      exact ih (i + 1) m1 _ F' (by omega) (by omega) hf1 h1
end M
theorem op_high (h : RR mx mm) (p : Int32) : OPe (f_X6_high mx p) (f_X7_high mm p) := by
  obtain ⟨W, S, hr⟩ := id h
  obtain ⟨cs, hg⟩ := RRs.rg hr
  unfold f_X6_high f_X7_high
  rw [hg.per.1, hg.per.2, bnd_some, bnd_some]
  cases hp : inR S.1 p with
  | false => exact ⟨_, mx, mm, rfl, rfl, h⟩
  | true =>
    have hn := hg.2.1.1.1
    obtain ⟨k, hk, rfl⟩ := inR_t (by omega) hp
    obtain ⟨c1, c2, c3⟩ := hg.copy
    have hmr := hg.mr
    have hsc := hg.2.2.2.2.1
    obtain ⟨m1, x1, x2⟩ := x_high_lp hk hg.1.1.1.2.2.2.1 (hg.1.2.1.2.1 k hk).2.2.2.1 20 0 (cpM mx 32 14) 1000 (by omega) (by omega) c2 c3
    obtain ⟨m2, d2, y1, y2, y3⟩ := m_high_lp (m0 := mm) hk 20 0 mm _ 1000 (by omega) (by omega) ⟨fun _ _ _ _ _ _ => rfl, fun _ _ => rfl, fun _ => rfl, fun _ => rfl⟩ hmr
    rw [zB_t, if_neg i0, if_neg i0, c1, bnd_some]
    have x1' : f_X6_high_23 1000 (cpM mx 32 14) (nI k) 0 = _ := x1
    have y1' : f_X7_high_15 1000 mm (nI k) (-5) 0 = _ := y1
    rw [x1', y1']
    refine ⟨_, m1, wI m2 27 (-1), rfl, rfl, h.frS x2 ⟨fun j j1 j2 j3 j4 => ?_, fun c hc => y2.2.1 c (by omega), y2.2.2.1, y2.2.2.2, ?_⟩⟩
    · rw [mI_wI]
      by_cases e : j = 27
      · rw [if_pos e, e]; exact hsc.2.2.2.2.2.2.symm
      · rw [if_neg e]; exact y2.1 j e j1 j2 j3 j4
    · have z := y3.2.2.2.2.2.2.2.2
      exact ⟨z.1, z.2.1, z.2.2.1, z.2.2.2, (y2.2.1 21 (by decide) ▸ hsc.2.2.2.2.1 : (mA m2 21).length = 7), (y2.2.1 22 (by decide) ▸ hsc.2.2.2.2.2.1 : (mA m2 22).length = 7), rfl⟩
/-! the sum of what others gain -/
def gS (pd : Nat → Nat → Nat) (g : Nat → Int32) (y : Int32) : Nat → Int32
  | 0 => 0
  | k + 1 => if nI k = y ∨ pd 4 k = 0 then gS pd g y k else gS pd g y k + g k
theorem x_gain {m : mM} {c n : Nat} {pd : Nat → Nat → Nat} {g : Nat → Int32} {y : Int32} (h : PXr m c n pd) (hl : (mA m 42).length = 7) (hg : ∀ p, p < n → (mA m 42).getD p 0 = g p) : f_X6_gainOfOthers m c y = some (gS pd g y n, m) := by
  unfold f_X6_gainOfOthers
  have hn := h.2.2.1.1
  have key := lp_upA (f := fun F m a i => f_X6_gainOfOthers_5 F m c y a i) (fb := fun K m a i => fb_X6_gainOfOthers_5 (fun m _ _ a i => K m a i) m c y a i) (fun _ _ _ _ => rfl) (n := n) (G := fun _ => m) (A := fun k => gS pd g y k) (E := some (gS pd g y n, m)) (fun k hk K => ?_) (fun K => ?_) n 0 1000 (by omega) (by omega)
  · exact key
  · obtain ⟨r1, r2, r3, r4, r5, r6⟩ := h.2.2.1.2 k hk
    show fb_X6_gainOfOthers_5 _ _ _ _ _ _ = K m (if nI k = y ∨ pd 4 k = 0 then gS pd g y k else gS pd g y k + g k) _
    unfold fb_X6_gainOfOthers_5
    rw [h.2.1, if_neg (nI_ge hk (by omega)), nI_1]
    by_cases c1 : nI k = y
    · rw [if_pos c1, if_pos (Or.inl c1)]
    · rw [if_neg c1, (h.g hk).2.2.2.2.1, Option.bind_some]
      by_cases c2 : pd 4 k = 0
      · rw [if_pos ((nI_z (by omega)).mpr c2), if_pos (Or.inr c2)]
      · rw [if_neg (fun z => c2 ((nI_z (by omega)).mp z)), if_neg (fun z => z.elim c1 c2), gA_at (by omega) (by omega), hg k hk, Option.bind_some, nmI_eq]
  · show fb_X6_gainOfOthers_5 _ _ _ _ _ _ = _
    unfold fb_X6_gainOfOthers_5
    rw [h.2.1, if_pos (nI_le (Nat.le_refl _) (by omega))]
theorem nI_m1 {k : Nat} (h : k < 2 ^ 31) : ¬ nI k = -1 := fun z => by
  have e := congrArg Int32.toInt z
  rw [nI_toInt h] at e
  have e1 : (-1 : Int32).toInt = -1 := by decide
  omega
theorem m_allMore {m : mM} {n : Nat} {pd : Nat → Nat → Nat} {tw : Nat} {cs : List CL} {due : Int32} {pu : Nat → Int32} {dt yr : Nat} (h : MR m n pd tw cs due pu dt yr) : ∃ m', f_X7_allMore m = some (gS pd (gY n pd cs due dt yr) (-1) n, m') ∧ FY m m' ∧ ∀ p, p < n → (mA m' 20).getD p 0 = gY n pd cs due dt yr p := by
  unfold f_X7_allMore
  have hn := h.1.1.2.1.1
  obtain ⟨m1, r1, r2, r3⟩ := m_layYear h
  have h1 := h.fy r2
  rw [r1, bnd_some]
  refine ⟨m1, ?_, r2, r3⟩
  have key := lp_upA (f := fun F m a i => f_X7_allMore_8 F m a i) (fb := fun K m a i => fb_X7_allMore_8 (fun m a i => K m a i) m a i) (fun _ _ _ _ => rfl) (n := n) (G := fun _ => m1) (A := fun k => gS pd (gY n pd cs due dt yr) (-1) k) (E := some (gS pd (gY n pd cs due dt yr) (-1) n, m1)) (fun k hk K => ?_) (fun K => ?_) n 0 1000 (by omega) (by omega)
  · exact key
  · obtain ⟨q1, q2, q3, q4, q5, q6⟩ := h1.1.1.2.1.2 k hk
    show fb_X7_allMore_8 _ _ _ _ = K m1 (if nI k = -1 ∨ pd 4 k = 0 then _ else _) _
    unfold fb_X7_allMore_8
    rw [h1.1.1.1, if_neg (nI_ge hk (by omega)), (h1.1.1.g hk).2.2.2.2.1, Option.bind_some, nI_1]
    by_cases c2 : pd 4 k = 0
    · rw [if_pos ((nI_z (by omega)).mpr c2), if_pos (Or.inr c2), nmI_eq, Int32.add_zero]
    · rw [if_neg (fun z => c2 ((nI_z (by omega)).mp z)), if_neg (fun z => z.elim (nI_m1 (by omega)) c2), gA_at (by rw [r2.2.2.2.2.2.2.2]; omega) (by omega), r3 k hk, Option.bind_some, nmI_eq]
  · show fb_X7_allMore_8 _ _ _ _ = _
    unfold fb_X7_allMore_8
    rw [h1.1.1.1, if_pos (nI_le (Nat.le_refl _) (by omega))]
theorem gS_p {pd : Nat → Nat → Nat} {g : Nat → Int32} {p : Nat} (hp : p < 2 ^ 31) : ∀ {k : Nat}, k < 2 ^ 31 → gS pd g (-1) k = gS pd g (nI p) k + (if p < k ∧ pd 4 p ≠ 0 then g p else 0)
  | 0, _ => by rw [if_neg (fun z => Nat.not_lt_zero _ z.1)]; rfl
  | k + 1, hk => by
    have ih := gS_p (pd := pd) (g := g) hp (k := k) (by omega)
    show (if nI k = -1 ∨ pd 4 k = 0 then gS pd g (-1) k else gS pd g (-1) k + g k) = (if nI k = nI p ∨ pd 4 k = 0 then gS pd g (nI p) k else gS pd g (nI p) k + g k) + _
    by_cases c : pd 4 k = 0
    · rw [if_pos (Or.inr c), if_pos (Or.inr c), ih]
      by_cases e : p = k
      · subst e; rw [if_neg (fun z => z.2 c), if_neg (fun z => z.2 c)]
      · by_cases e2 : p < k ∧ pd 4 p ≠ 0
        · rw [if_pos e2, if_pos ⟨by omega, e2.2⟩]
        · rw [if_neg e2, if_neg (fun z => e2 ⟨by omega, z.2⟩)]
    · rw [if_neg (fun z => z.elim (nI_m1 (by omega)) c), ih]
      by_cases e : p = k
      · subst e; rw [if_neg (fun z => Nat.lt_irrefl _ z.1), if_pos (Or.inl rfl), if_pos ⟨Nat.lt_succ_self _, c⟩, Int32.add_zero]
      · rw [if_neg (show ¬ (nI k = nI p ∨ pd 4 k = 0) from fun z => z.elim (fun w => e ((nI_eq (by omega) hp).mp w).symm) c), Int32.add_assoc, Int32.add_assoc, Int32.add_comm (g k)]
        by_cases e2 : p < k ∧ pd 4 p ≠ 0
        · rw [if_pos e2, if_pos ⟨by omega, e2.2⟩]
        · rw [if_neg e2, if_neg (fun z => e2 ⟨by omega, z.2⟩)]
/-- a year of today's state -/
theorem RG.year {W : Nat} {S : SS} {cs : List CL} (h : RG mx mm W S cs) : ∃ m1, f_X6_goYear mx 14 (nI (clLast 1 10 cs)) = some ((), m1) ∧ FSX mx m1 ∧ FX mx m1 ∧ PXr m1 14 S.1 S.2.1 ∧ (mA m1 42).length = 7 ∧ ∀ p, p < S.1 → (mA m1 42).getD p 0 = gY S.1 S.2.1 cs (nI (clLast 1 10 cs)) S.2.2.2.1 S.2.2.2.2.1 p := by
  obtain ⟨⟨h1, h2, h3, h4⟩, h5, h6, h7, h8, h9, h10, h11, h12⟩ := h
  obtain ⟨m1, q1, q2, q3, q4⟩ := x_goYear (due := nI (clLast 1 10 cs)) h9 h10 ⟨h7.2.2.1, h7.2.2.2.1, h7.2.2.2.2.1, h7.2.2.2.2.2⟩ h2.1.2.1 h5.2.1 h2.1.2.2.1 (by have := h5.2.2.1; omega)
  exact ⟨m1, q1, FSX.of h7 q2 q3.1 q3.2.1 q3.2.2.1 q3.2.2.2, q2, h9.fr q2, q3.1, q4⟩
end OPS9
