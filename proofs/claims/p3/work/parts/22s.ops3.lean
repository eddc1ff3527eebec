/-! OPERATIONS: a day, by, a year, of, the sums -/
section OPS3
/-- a year's gain of each -/
def gY (n : Nat) (pd : Nat → Nat → Nat) (cs : List CL) (due : Int32) (dt yr : Nat) : Nat → Int32 := (days n pd cs due 12 (dt, yr, fun _ => 0, fun _ => 0, 0)).2.2.1
section M
variable {m : mM} {n : Nat} {pd : Nat → Nat → Nat} {tw : Nat} {cs : List CL} {due : Int32} {pu : Nat → Int32}
/-- at rest: the state's own -/
def MR (m : mM) (n : Nat) (pd : Nat → Nat → Nat) (tw : Nat) (cs : List CL) (due : Int32) (pu : Nat → Int32) (dt yr : Nat) : Prop := PT m n pd tw cs ∧ DUE m cs due ∧ mI m 1 = nI dt ∧ mI m 2 = nI yr ∧ dt < 12 ∧ yr ≤ 999 ∧ (mA m 5).length = 7 ∧ (∀ p, p < n → (mA m 5).getD p 0 = pu p) ∧ (mA m 17).length = 100 ∧ (mA m 18).length = 7 ∧ (mA m 19).length = 7 ∧ (mA m 20).length = 7
/-- frame of a year laid -/
def FY (m m' : mM) : Prop := (∀ k, k ≠ 31 → k ≠ 32 → mI m' k = mI m k) ∧ (∀ c, ¬ (17 ≤ c ∧ c ≤ 20) → mA m' c = mA m c) ∧ (∀ c, mL m' c = mL m c) ∧ (∀ k, mR m' k = mR m k) ∧ (mA m' 17).length = 100 ∧ (mA m' 18).length = 7 ∧ (mA m' 19).length = 7 ∧ (mA m' 20).length = 7
theorem FY.trans {a b c : mM} (h : FY a b) (g : FY b c) : FY a c := ⟨fun k h1 h2 => (g.1 k h1 h2).trans (h.1 k h1 h2), fun k h1 => (g.2.1 k h1).trans (h.2.1 k h1), fun k => (g.2.2.1 k).trans (h.2.2.1 k), fun k => (g.2.2.2.1 k).trans (h.2.2.2.1 k), g.2.2.2.2⟩
theorem FY.sm {m' : mM} (h : FY m m') (hc : R_scM m) : FSM m m' := ⟨fun k h1 h2 _ _ => h.1 k h1 h2, fun c h1 => h.2.1 c (by omega), h.2.2.1, h.2.2.2.1, h.2.2.2.2.1, h.2.2.2.2.2.1, h.2.2.2.2.2.2.1, h.2.2.2.2.2.2.2, by rw [h.2.1 21 (by omega)]; exact hc.2.2.2.2.1, by rw [h.2.1 22 (by omega)]; exact hc.2.2.2.2.2.1, by rw [h.1 27 (by decide) (by decide)]; exact hc.2.2.2.2.2.2⟩
theorem PT.fy {m' : mM} (h : PT m n pd tw cs) (f0 : mI m' 0 = mI m 0) (f11 : mI m' 11 = mI m 11) (hA : ∀ c, c ≠ 5 → ¬ (17 ≤ c ∧ c ≤ 20) → mA m' c = mA m c) : PT m' n pd tw cs := by
  obtain ⟨⟨h1, h2, h3, h4⟩, g1, g2, g3, g4, g5, g6⟩ := h
  refine ⟨⟨by rw [f0]; exact h1, h2, ?_, ?_⟩, g1, by rw [f11]; exact g2, ?_, g4, g5, fun hz => ?_⟩
  · rw [hA 1 (by decide) (by decide), hA 2 (by decide) (by decide), hA 3 (by decide) (by decide), hA 4 (by decide) (by decide), hA 7 (by decide) (by decide), hA 6 (by decide) (by decide)]; exact h3
  · rw [hA 1 (by decide) (by decide), hA 2 (by decide) (by decide), hA 3 (by decide) (by decide), hA 4 (by decide) (by decide), hA 7 (by decide) (by decide), hA 6 (by decide) (by decide)]; exact h4
  · unfold TMh at g3 ⊢
    rw [hA 9 (by decide) (by decide), hA 10 (by decide) (by decide), hA 11 (by decide) (by decide), hA 12 (by decide) (by decide), hA 13 (by decide) (by decide), hA 14 (by decide) (by decide), hA 15 (by decide) (by decide), hA 16 (by decide) (by decide)]; exact g3
  · have := g6 hz
    unfold TMe at this ⊢
    rw [hA 9 (by decide) (by decide), hA 10 (by decide) (by decide), hA 11 (by decide) (by decide), hA 12 (by decide) (by decide), hA 13 (by decide) (by decide), hA 14 (by decide) (by decide)]; exact this
theorem MR.fy {m' : mM} {dt yr : Nat} (h : MR m n pd tw cs due pu dt yr) (f : FY m m') : MR m' n pd tw cs due pu dt yr := by
  obtain ⟨a1, a2, a3, a4, a5, a6, a7, a8, a9⟩ := h
  refine ⟨a1.fy (f.1 0 (by decide) (by decide)) (f.1 11 (by decide) (by decide)) (fun c _ h2 => f.2.1 c h2), ?_, by rw [f.1 1 (by decide) (by decide)]; exact a3, by rw [f.1 2 (by decide) (by decide)]; exact a4, a5, a6, by rw [f.2.1 5 (by decide)]; exact a7, by rw [f.2.1 5 (by decide)]; exact a8, f.2.2.2.2⟩
  unfold DUE at a2 ⊢
  rw [f.1 27 (by decide) (by decide)]; exact a2
/-- kept, and N days on -/
theorem m_kept {dt yr : Nat} (h : MR m n pd tw cs due pu dt yr) : ∃ m', f_X7_keep m = some ((), m') ∧ MD m' n pd tw cs due pu (dt, yr, fun _ => 0, fun _ => 0, 0) ∧ mA m' 19 = mA m 5 ∧ mI m' 31 = mI m 1 ∧ mI m' 32 = mI m 2 ∧ (∀ k, k ≠ 31 → k ≠ 32 → mI m' k = mI m k) ∧ (∀ c, c ≠ 18 → c ≠ 19 → mA m' c = mA m c) ∧ (∀ c, mL m' c = mL m c) ∧ (∀ k, mR m' k = mR m k) := by
  obtain ⟨a1, a2, a3, a4, a5, a6, a7, a8, a9, a10, a11, a12⟩ := h
  obtain ⟨m1, k1, k2, k3, k4, k5, k6, k7, k8, k9, k10⟩ := m_keep a7 a10 a11
  refine ⟨m1, k1, ⟨a1.fy (k2 0 (by decide) (by decide)) (k2 11 (by decide) (by decide)) (fun c h1 h2 => k3 c (by omega) (by omega)), ?_, by rw [k2 1 (by decide) (by decide)]; exact a3, by rw [k2 2 (by decide) (by decide)]; exact a4, by rw [k3 5 (by decide) (by decide)]; exact a7, by rw [k3 17 (by decide) (by decide)]; exact a9, k7, fun p hp => ?_, fun p hp => k8 p (by have := a1.1.2.1.1; omega), a5⟩, k6, k9, k10, k2, k3, k4, k5⟩
  · unfold DUE at a2 ⊢
    rw [k2 27 (by decide) (by decide)]; exact a2
  · rw [k3 5 (by decide) (by decide), a8 p hp]; exact (Int32.add_zero _).symm
/-- and back again -/
theorem m_back {dt yr : Nat} {mk m' : mM} {s : DS} (h : MR m n pd tw cs due pu dt yr) (k6 : mA mk 19 = mA m 5) (k9 : mI mk 31 = mI m 1) (k10 : mI mk 32 = mI m 2) (k2 : ∀ k, k ≠ 31 → k ≠ 32 → mI mk k = mI m k) (k3 : ∀ c, c ≠ 18 → c ≠ 19 → mA mk c = mA m c) (k4 : ∀ c, mL mk c = mL m c) (k5 : ∀ k, mR mk k = mR m k) (f1 : ∀ k, k ≠ 1 → k ≠ 2 → mI m' k = mI mk k) (f2 : ∀ c, c ≠ 5 → c ≠ 17 → c ≠ 18 → c ≠ 20 → mA m' c = mA mk c) (f3 : ∀ c, mL m' c = mL mk c) (f4 : ∀ k, mR m' k = mR mk k) (l5 : (mA m' 5).length = 7) (l17 : (mA m' 17).length = 100) (l18 : (mA m' 18).length = 7) (l20 : (mA m' 20).length = 7) : ∃ m'', f_X7_putBack m' = some ((), m'') ∧ FY m m'' ∧ ∀ c, c ≠ 5 → mA m'' c = mA m' c := by
  obtain ⟨a1, a2, a3, a4, a5, a6, a7, a8, a9, a10, a11, a12⟩ := h
  have e19 : mA m' 19 = mA m 5 := by rw [f2 19 (by decide) (by decide) (by decide) (by decide), k6]
  obtain ⟨m2, q1, q2, q3, q4, q5, q6, q7, q8⟩ := m_putBack l5 (by rw [e19]; exact a7)
  refine ⟨m2, q1, ⟨fun k h1 h2 => ?_, fun c hc => ?_, fun c => by rw [q4, f3, k4], fun k => by rw [q5, f4, k5], by rw [q3 17 (by decide)]; exact l17, by rw [q3 18 (by decide)]; exact l18, by rw [q3 19 (by decide), e19]; exact a7, by rw [q3 20 (by decide)]; exact l20⟩, q3⟩
  · by_cases e1 : k = 1
    · subst e1; rw [q7, f1 31 (by decide) (by decide), k9]
    · by_cases e2 : k = 2
      · subst e2; rw [q8, f1 32 (by decide) (by decide), k10]
      · rw [q2 k e1 e2, f1 k e1 e2, k2 k h1 h2]
  · by_cases e : c = 5
    · subst e; rw [q6, e19]
    · rw [q3 c e, f2 c e (by omega) (by omega) (by omega), k3 c (by omega) (by omega)]
theorem m_layYear {dt yr : Nat} (h : MR m n pd tw cs due pu dt yr) : ∃ m', f_X7_layYear m = some ((), m') ∧ FY m m' ∧ ∀ p, p < n → (mA m' 20).getD p 0 = gY n pd cs due dt yr p := by
  unfold f_X7_layYear
  have hn := h.1.1.2.1.1
  obtain ⟨mk, k1, kD, k6, k9, k10, k2, k3, k4, k5⟩ := m_kept h
  obtain ⟨a1, a2, a3, a4, a5, a6, a7, a8, a9, a10, a11, a12⟩ := id h
  rw [k1, bnd_some]
  -- laid: the row of more
  have lay : ∀ (j k : Nat) (m1 : mM) (F : Nat), k + j = n → j < F → MD m1 n pd tw cs due pu (days n pd cs due 12 (dt, yr, fun _ => 0, fun _ => 0, 0)) → (∀ k, k ≠ 1 → k ≠ 2 → mI m1 k = mI mk k) → (∀ c, c ≠ 5 → c ≠ 17 → c ≠ 18 → c ≠ 20 → mA m1 c = mA mk c) → (∀ c, mL m1 c = mL mk c) → (∀ k, mR m1 k = mR mk k) → (mA m1 20).length = 7 → (∀ p, p < k → (mA m1 20).getD p 0 = gY n pd cs due dt yr p) → ∃ m', f_X7_layYear_25 F m1 (nI k) = some ((), m') ∧ FY m m' ∧ ∀ p, p < n → (mA m' 20).getD p 0 = gY n pd cs due dt yr p := by
    intro j
    induction j with
    | zero =>
      intro k m1 F hk hF hD f1 f2 f3 f4 l20 hp
      obtain ⟨F', rfl⟩ : ∃ F', F = F' + 1 := ⟨F - 1, by omega⟩
      obtain rfl : k = n := by omega
      obtain ⟨b1, b2, b3, b4, b5, b6, b7, b8, b9, b10⟩ := hD
      obtain ⟨m2, r1, r2, r3⟩ := m_back (s := (0, 0, fun _ => 0, fun _ => 0, 0)) h k6 k9 k10 k2 k3 k4 k5 f1 f2 f3 f4 b5 b6 b7 l20
      refine ⟨m2, ?_, r2, fun p hq => by rw [r3 20 (by decide)]; exact hp p hq⟩
      show fb_X7_layYear_25 _ _ _ = _
      unfold fb_X7_layYear_25
      rw [b1.1.1, if_pos (nI_le (Nat.le_refl _) (by omega)), r1, bnd_some]
    | succ j ih =>
      intro k m1 F hk hF hD f1 f2 f3 f4 l20 hp
      obtain ⟨F', rfl⟩ : ∃ F', F = F' + 1 := ⟨F - 1, by omega⟩
      obtain ⟨b1, b2, b3, b4, b5, b6, b7, b8, b9, b10⟩ := hD
      have hkn : k < n := by omega
      have e19 : mA m1 19 = mA m 5 := by rw [f2 19 (by decide) (by decide) (by decide) (by decide), k6]
      show ∃ m', fb_X7_layYear_25 _ _ _ = _ ∧ _
      unfold fb_X7_layYear_25
      rw [b1.1.1, if_neg (nI_ge hkn (by omega)), gA_at (by omega) (by omega), b8 k hkn, Option.bind_some, e19, gA_at (by omega) (by omega), a8 k hkn, Option.bind_some, sA_at0 (by omega) (by omega), Option.bind_some, nI_1]
      have ev : pu k + (days n pd cs due 12 (dt, yr, fun _ => 0, fun _ => 0, 0)).2.2.1 k - pu k = gY n pd cs due dt yr k := by
        rw [Int32.add_comm, Int32.add_sub_cancel]; rfl
      rw [ev]
      refine ih (k + 1) (wA m1 20 ((mA m1 20).set k (gY n pd cs due dt yr k))) F' (by omega) (by omega) ⟨b1.fy rfl rfl (fun c _ h2 => by rw [mA_wA, if_neg (by omega)]), b2, b3, b4, b5, b6, b7, b8, b9, b10⟩ f1 (fun c c1 c2 c3 c4 => by rw [mA_wA, if_neg c4]; exact f2 c c1 c2 c3 c4) f3 f4 (by rw [mA_wA, if_pos rfl, List.length_set]; exact l20) (fun p hq => ?_)
      rw [mA_wA, if_pos rfl, gd_set]
      by_cases e : k = p
      · subst e; rw [if_pos ⟨rfl, by omega⟩]
      · rw [if_neg (fun z => e z.1)]; exact hp p (by omega)
  have go : ∀ (j k : Nat) (m1 : mM) (F : Nat) (s : DS), k + j = 12 → j < F → s.2.1 + j < 2 ^ 31 → MD m1 n pd tw cs due pu s → days n pd cs due j s = days n pd cs due 12 (dt, yr, fun _ => 0, fun _ => 0, 0) → FM mk m1 → ∃ m', f_X7_layYear_6 F m1 (nI k) = some ((), m') ∧ FY m m' ∧ ∀ p, p < n → (mA m' 20).getD p 0 = gY n pd cs due dt yr p := by
    intro j
    induction j with
    | zero =>
      intro k m1 F s hk hF hy hD he f
      obtain ⟨F', rfl⟩ : ∃ F', F = F' + 1 := ⟨F - 1, by omega⟩
      obtain rfl : k = 12 := by omega
      show ∃ m', fb_X7_layYear_6 _ _ _ = _ ∧ _
      unfold fb_X7_layYear_6
      rw [if_pos (show (12 : Int32) ≤ nI 12 by decide)]
      have he' : s = days n pd cs due 12 (dt, yr, fun _ => 0, fun _ => 0, 0) := he
      rw [he'] at hD
      exact lay n 0 m1 1000 (by omega) (by omega) hD f.1 (fun c c1 c2 c3 _ => f.2.1 c c1 c2 c3) f.2.2.1 f.2.2.2 (by rw [f.2.1 20 (by decide) (by decide) (by decide), k3 20 (by decide) (by decide)]; exact a12) (fun p hp => absurd hp (Nat.not_lt_zero p))
    | succ j ih =>
      intro k m1 F s hk hF hy hD he f
      obtain ⟨F', rfl⟩ : ∃ F', F = F' + 1 := ⟨F - 1, by omega⟩
      show ∃ m', fb_X7_layYear_6 _ _ _ = _ ∧ _
      unfold fb_X7_layYear_6
      obtain ⟨m2, r1, r2, r3⟩ := m_goDay hD (by omega)
      rw [if_neg (show ¬ (12 : Int32) ≤ nI k from (nI_ge (by omega) (by decide) : ¬ nI 12 ≤ nI k)), r1, bnd_some, nI_1]
      exact ih (k + 1) m2 F' _ (by omega) (by omega) (by
        have := days_yr (n := n) (pd := pd) (cs := cs) (due := due) 1 s
        have e : (days n pd cs due 1 s) = day1 n pd cs due s := rfl
        rw [e] at this; omega) r2 he (f.trans r3)
  exact go 12 0 mk 1000 _ (by omega) (by omega) (by show yr + 12 < 2 ^ 31; omega) kD rfl FM.rfl
end M
end OPS3
