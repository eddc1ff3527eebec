/-! FROM THE RELATION TO DAYS, AND BACK; keep, putBack, a year -/
section LINK
theorem lext {a b : List Int32} {n : Nat} (ha : a.length = n) (hb : b.length = n) (h : ∀ i, i < n → a.getD i 0 = b.getD i 0) : a = b := by
  apply List.ext_getElem (by omega)
  intro i h1 h2
  have := h i (by omega)
  rw [List.getD_eq_getElem?_getD, List.getD_eq_getElem?_getD, List.getElem?_eq_getElem h1, List.getElem?_eq_getElem h2] at this
  exact this
theorem days_s {n : Nat} {pd : Nat → Nat → Nat} {cs : List CL} {due : Int32} {a b : Nat} {g c : Nat → Int32} {x y : Int32} (N : Nat) : (days n pd cs due N (a, b, g, c, x)).1 = (days n pd cs due N (a, b, g, c, y)).1 ∧ (days n pd cs due N (a, b, g, c, x)).2.1 = (days n pd cs due N (a, b, g, c, y)).2.1 ∧ (days n pd cs due N (a, b, g, c, x)).2.2.1 = (days n pd cs due N (a, b, g, c, y)).2.2.1 ∧ (days n pd cs due N (a, b, g, c, x)).2.2.2.1 = (days n pd cs due N (a, b, g, c, y)).2.2.2.1 := by
  cases N with
  | zero => exact ⟨rfl, rfl, rfl, rfl⟩
  | succ N => exact ⟨rfl, rfl, rfl, rfl⟩
theorem days_yr {n : Nat} {pd : Nat → Nat → Nat} {cs : List CL} {due : Int32} : ∀ (N : Nat) (s : DS), (days n pd cs due N s).2.1 ≤ s.2.1 + N
  | 0, s => Nat.le_refl _
  | N + 1, s => by
    have h1 := days_yr (n := n) (pd := pd) (cs := cs) (due := due) N (day1 n pd cs due s)
    have h2 : (day1 n pd cs due s).2.1 ≤ s.2.1 + 1 := by
      unfold day1
      show s.2.1 + (if s.1 = 11 then 1 else 0) ≤ _
      split <;> omega
    show (days n pd cs due N (day1 n pd cs due s)).2.1 ≤ _
    omega
/-- the whole scratch of the class -/
def FSX (m m' : mM) : Prop := (∀ k, ¬ (2048 ≤ k ∧ k < 2112) → ¬ (2624 ≤ k ∧ k < 2688) → mI m' k = mI m k) ∧ (∀ c, c ≠ 1 → ¬ (33 ≤ c ∧ c ≤ 40) → ¬ (42 ≤ c ∧ c ≤ 45) → mA m' c = mA m c) ∧ (∀ c, mL m' c = mL m c) ∧ (∀ k, k ≠ 2052 → k ≠ 2624 → mR m' k = mR m k) ∧ R_scX m'
/-- and of the reference -/
def FSM (m m' : mM) : Prop := (∀ k, k ≠ 31 → k ≠ 32 → k ≠ 34 → k ≠ 35 → mI m' k = mI m k) ∧ (∀ c, ¬ (17 ≤ c ∧ c ≤ 22) → mA m' c = mA m c) ∧ (∀ c, mL m' c = mL m c) ∧ (∀ k, mR m' k = mR m k) ∧ R_scM m'
theorem XS.fr {m m' : mM} {c : Nat} {S : SS} (h : XS m c S) (hI : ∀ k, k < 4 → mI m' (64 * c + k) = mI m (64 * c + k)) (hR : mR m' (64 * c + 4) = mR m (64 * c + 4)) (hA : ∀ k, k < 9 → mA m' (c + k) = mA m (c + k)) : XS m' c S := by
  unfold XS at h ⊢
  rw [hI 0 (by omega), hI 1 (by omega), hI 2 (by omega), hI 3 (by omega), hR, hA 1 (by omega), hA 2 (by omega), hA 3 (by omega), hA 4 (by omega), hA 5 (by omega), hA 6 (by omega), hA 7 (by omega), hA 8 (by omega)]
  exact h
theorem XSh.fr {m m' : mM} {c : Nat} (h : XSh m c) (hA : ∀ k, k < 9 → mA m' (c + k) = mA m (c + k)) : XSh m' c := by
  unfold XSh at h ⊢
  rw [hA 1 (by omega), hA 2 (by omega), hA 3 (by omega), hA 4 (by omega), hA 5 (by omega), hA 6 (by omega), hA 7 (by omega), hA 8 (by omega)]
  exact h
/-- with its state -/
def RRs (W : Nat) (S : SS) (mx mm : mM) : Prop := R_now mx mm S ∧ SOK W S ∧ R_kep W mx mm ∧ R_scX mx ∧ R_scM mm ∧ R_txt mx mm ∧ R_twn W mx mm ∧ R_act mx mm ∧ R_tap mx mm
theorem RRs.frS {W : Nat} {S : SS} {mx mm mx' mm' : mM} (h : RRs W S mx mm) (f : FSX mx mx') (g : FSM mm mm') : RRs W S mx' mm' := by
  obtain ⟨⟨hX, hS, hM, hQ⟩, hO, ⟨k1, k2, b, k3, k4, k5⟩, hC, hC2, ⟨t1, t2, t3⟩, hW, ⟨c1, c2, c3⟩, hP⟩ := h
  obtain ⟨f1, f2, f3, f4, f5⟩ := f
  obtain ⟨g1, g2, g3, g4, g5⟩ := g
  have gA : ∀ c, ¬ (17 ≤ c ∧ c ≤ 22) → mA mm' c = mA mm c := g2
  refine ⟨⟨hX.fr (fun k hk => f2 _ (by omega) (by omega) (by omega)), hS.fr (fun k hk => f1 _ (by omega) (by omega)) (f4 _ (by omega) (by omega)) (fun k hk => f2 _ (by omega) (by omega) (by omega)), ?_, ?_⟩, hO, ⟨k1.fr (fun k hk => f2 _ (by omega) (by omega) (by omega)), ?_, b, by rw [f1 3 (by omega) (by omega)]; exact k3, by rw [g1 40 (by omega) (by omega) (by omega) (by omega)]; exact k4, fun hb => ?_⟩, f5, g5, ?_, ?_, ?_, ?_⟩
  · unfold MSh at hM ⊢
    rw [gA 1 (by omega), gA 2 (by omega), gA 3 (by omega), gA 4 (by omega), gA 7 (by omega), gA 6 (by omega), gA 5 (by omega), gA 23 (by omega)]; exact hM
  · unfold MS at hQ ⊢
    rw [gA 1 (by omega), gA 2 (by omega), gA 3 (by omega), gA 4 (by omega), gA 7 (by omega), gA 6 (by omega), gA 5 (by omega), gA 23 (by omega), g1 0 (by omega) (by omega) (by omega) (by omega), g1 1 (by omega) (by omega) (by omega) (by omega), g1 2 (by omega) (by omega) (by omega) (by omega), g1 38 (by omega) (by omega) (by omega) (by omega), g1 11 (by omega) (by omega) (by omega) (by omega)]; exact hQ
  · unfold MKh at k2 ⊢
    rw [gA 24 (by omega), gA 25 (by omega), gA 26 (by omega), gA 27 (by omega), gA 31 (by omega), gA 29 (by omega), gA 28 (by omega), gA 30 (by omega)]; exact k2
  · obtain ⟨K, q1, q2, q3⟩ := k5 hb
    refine ⟨K, q1.fr (fun k hk => f1 _ (by omega) (by omega)) (f4 _ (by omega) (by omega)) (fun k hk => f2 _ (by omega) (by omega) (by omega)), ?_, q3⟩
    unfold MK at q2 ⊢
    rw [gA 24 (by omega), gA 25 (by omega), gA 26 (by omega), gA 27 (by omega), gA 31 (by omega), gA 29 (by omega), gA 28 (by omega), gA 30 (by omega), g1 42 (by omega) (by omega) (by omega) (by omega), g1 43 (by omega) (by omega) (by omega) (by omega), g1 44 (by omega) (by omega) (by omega) (by omega), g1 45 (by omega) (by omega) (by omega) (by omega), g1 41 (by omega) (by omega) (by omega) (by omega)]; exact q2
  · unfold R_txt
    rw [f2 3 (by omega) (by omega) (by omega), gA 8 (by omega), f1 129 (by omega) (by omega), g1 12 (by omega) (by omega) (by omega) (by omega)]; exact ⟨t1, t2, t3⟩
  · exact hW.fr (fun k hk => f1 _ (by omega) (by omega)) (fun c hc => f2 _ (by omega) (by omega) (by omega)) (g1 10 (by omega) (by omega) (by omega) (by omega)) (fun c hc => by
      by_cases e : c < 17
      · exact gA c (by omega)
      · omega)
  · unfold R_act
    rw [f2 6 (by omega) (by omega) (by omega), gA 32 (by omega), f1 321 (by omega) (by omega), g1 54 (by omega) (by omega) (by omega) (by omega)]; exact ⟨c1, c2, c3⟩
  · exact hP.fr (fun k hk => f1 _ (by omega) (by omega)) (fun c hc => f3 c) ⟨gA 33 (by omega), gA 34 (by omega)⟩ ⟨g3 35, g3 36⟩
theorem RR.frS {mx mm mx' mm' : mM} (h : RR mx mm) (f : FSX mx mx') (g : FSM mm mm') : RR mx' mm' := by
  obtain ⟨W, S, h⟩ := h
  exact ⟨W, S, RRs.frS h f g⟩
theorem FSM.rfl {m : mM} (h : R_scM m) : FSM m m := ⟨fun _ _ _ _ _ => Eq.refl _, fun _ _ => Eq.refl _, fun _ => Eq.refl _, fun _ => Eq.refl _, h⟩
theorem FSX.rfl {m : mM} (h : R_scX m) : FSX m m := ⟨fun _ _ _ => Eq.refl _, fun _ _ _ _ => Eq.refl _, fun _ => Eq.refl _, fun _ _ _ => Eq.refl _, h⟩
theorem FSX.of {m m' : mM} (h : R_scX m) (f : FX m m') (l42 : (mA m' 42).length = 7) (l43 : (mA m' 43).length = 7) (l44 : (mA m' 44).length = 7) (l45 : (mA m' 45).length = 12) : FSX m m' := ⟨fun k _ h2 => f.1 k h2, fun c _ _ h3 => f.2.1 c h3, f.2.2.1, fun k _ h2 => f.2.2.2 k h2, h.1.fr (fun k hk => f.2.1 _ (by omega)), by rw [f.2.1 1 (by omega)]; exact h.2.1, l42, l43, l44, l45⟩
theorem XD.frS {m m' : mM} {c n t : Nat} {pd : Nat → Nat → Nat} {cs : List CL} {due : Int32} {s : DS} (h : R_scX m) (f : FX m m') (x : XD m' c n pd t cs due s) : FSX m m' := by
  obtain ⟨⟨a1, a2, a3, a4, a5, a6, a7, a8, a9, a10, a11, a12⟩, -⟩ := x
  exact FSX.of h f a9 a10 a11 a3.1
/-- the class's side of a state, the reference's side -/
theorem RRs.g {W : Nat} {S : SS} {mx mm : mM} (h : RRs W S mx mm) : ∃ cs, R_now mx mm S ∧ SOK W S ∧ R_twn W mx mm ∧ R_scX mx ∧ R_scM mm ∧ PXr mx 14 S.1 S.2.1 ∧ TXr mx 14 S.2.2.2.2.2.2 cs ∧ PT mm S.1 S.2.1 S.2.2.2.2.2.2 cs ∧ DUE mm cs (nI (clLast 1 10 cs)) := by
  obtain ⟨⟨hX, hS, hM, hQ⟩, hO, hK, hC, hC2, hT, hW, hA, hP⟩ := h
  obtain ⟨w1, w2, w3, w4, w5, w6⟩ := id hW
  have htw := hO.2.2.2.2.1
  obtain ⟨cs, t1, t2, t3, t4⟩ := w6 _ htw
  have hlen : cs.length ≤ 10 := by
    by_cases e : S.2.2.2.2.2.2 = 0
    · rw [t3 e]; decide
    · exact (t4 (by omega)).2.1
  refine ⟨cs, ⟨hX, hS, hM, hQ⟩, hO, hW, hC, hC2, ⟨Or.inl rfl, hS.1.1, hO.1, hX.1, hS.2.1⟩, ⟨by omega, hS.1.2.2.2.2, w4 _ (by omega), t2, t1, hlen⟩, ⟨⟨hQ.1.1, hO.1, hM.1, hQ.2.1⟩, by omega, hQ.1.2.2.2.2, w5, t1, t3, t4⟩, Or.inl ⟨hC2.2.2.2.2.2.2, rfl⟩⟩
/-- a new state of today's -/
theorem RRs.now {W : Nat} {S S' : SS} {mx mm mx' mm' : mM} (h : RRs W S mx mm) (hN : R_now mx' mm' S') (hO : SOK W S') (hM : R_scM mm') (f1 : ∀ k, ¬ (896 ≤ k ∧ k < 960) → mI mx' k = mI mx k) (f2 : ∀ c, ¬ (14 ≤ c ∧ c ≤ 22) → mA mx' c = mA mx c) (f3 : ∀ c, mL mx' c = mL mx c) (f4 : ∀ k, k ≠ 900 → mR mx' k = mR mx k) (g1 : ∀ k, k ∉ [0, 1, 2, 11, 31, 32, 34, 35, 38] → mI mm' k = mI mm k) (g2 : ∀ c, ¬ (1 ≤ c ∧ c ≤ 7) → ¬ (17 ≤ c ∧ c ≤ 23) → mA mm' c = mA mm c) (g3 : ∀ c, mL mm' c = mL mm c) : RRs W S' mx' mm' := by
  obtain ⟨-, -, ⟨k1, k2, b, k3, k4, k5⟩, hC, -, ⟨t1, t2, t3⟩, hW, ⟨c1, c2, c3⟩, hP⟩ := h
  have gA : ∀ c, ¬ (1 ≤ c ∧ c ≤ 7) → ¬ (17 ≤ c ∧ c ≤ 23) → mA mm' c = mA mm c := g2
  refine ⟨hN, hO, ⟨k1.fr (fun k hk => f2 _ (by omega)), ?_, b, by rw [f1 3 (by omega)]; exact k3, by rw [g1 40 (by decide)]; exact k4, fun hb => ?_⟩, ⟨hC.1.fr (fun k hk => f2 _ (by omega)), by rw [f2 1 (by omega)]; exact hC.2.1, by rw [f2 42 (by omega)]; exact hC.2.2.1, by rw [f2 43 (by omega)]; exact hC.2.2.2.1, by rw [f2 44 (by omega)]; exact hC.2.2.2.2.1, by rw [f2 45 (by omega)]; exact hC.2.2.2.2.2⟩, hM, ?_, ?_, ?_, ?_⟩
  · unfold MKh at k2 ⊢
    rw [gA 24 (by omega) (by omega), gA 25 (by omega) (by omega), gA 26 (by omega) (by omega), gA 27 (by omega) (by omega), gA 31 (by omega) (by omega), gA 29 (by omega) (by omega), gA 28 (by omega) (by omega), gA 30 (by omega) (by omega)]; exact k2
  · obtain ⟨K, q1, q2, q3⟩ := k5 hb
    refine ⟨K, q1.fr (fun k hk => f1 _ (by omega)) (f4 _ (by omega)) (fun k hk => f2 _ (by omega)), ?_, q3⟩
    unfold MK at q2 ⊢
    rw [gA 24 (by omega) (by omega), gA 25 (by omega) (by omega), gA 26 (by omega) (by omega), gA 27 (by omega) (by omega), gA 31 (by omega) (by omega), gA 29 (by omega) (by omega), gA 28 (by omega) (by omega), gA 30 (by omega) (by omega), g1 42 (by decide), g1 43 (by decide), g1 44 (by decide), g1 45 (by decide), g1 41 (by decide)]; exact q2
  · unfold R_txt
    rw [f2 3 (by omega), gA 8 (by omega) (by omega), f1 129 (by omega), g1 12 (by decide)]; exact ⟨t1, t2, t3⟩
  · exact hW.fr (fun k hk => f1 _ (by omega)) (fun c hc => f2 _ (by omega)) (g1 10 (by decide)) (fun c hc => gA c (by omega) (by omega))
  · unfold R_act
    rw [f2 6 (by omega), gA 32 (by omega) (by omega), f1 321 (by omega), g1 54 (by decide)]; exact ⟨c1, c2, c3⟩
  · exact hP.fr (fun k hk => f1 _ (by omega)) (fun c hc => f3 c) ⟨gA 33 (by omega) (by omega), gA 34 (by omega) (by omega)⟩ ⟨g3 35, g3 36⟩
/-! keep, putBack -/
section M
variable {m : mM}
theorem m_keep (h5 : (mA m 5).length = 7) (h18 : (mA m 18).length = 7) (h19 : (mA m 19).length = 7) : ∃ m', f_X7_keep m = some ((), m') ∧ (∀ k, k ≠ 31 → k ≠ 32 → mI m' k = mI m k) ∧ (∀ c, c ≠ 18 → c ≠ 19 → mA m' c = mA m c) ∧ (∀ c, mL m' c = mL m c) ∧ (∀ k, mR m' k = mR m k) ∧ mA m' 19 = mA m 5 ∧ (mA m' 18).length = 7 ∧ (∀ p, p < 7 → (mA m' 18).getD p 0 = 0) ∧ mI m' 31 = mI m 1 ∧ mI m' 32 = mI m 2 := by
  unfold f_X7_keep
  have main : ∀ (j k : Nat) (l18 l19 : List Int32) (F : Nat), k + j = 7 → j < F → l18.length = 7 → l19.length = 7 → (∀ p, p < k → l18.getD p 0 = 0 ∧ l19.getD p 0 = (mA m 5).getD p 0) → ∃ q18 q19 : List Int32, f_X7_keep_2 F (wA (wA m 19 l19) 18 l18) (nI k) = some ((), wI (wI (wA (wA m 19 q19) 18 q18) 31 (mI m 1)) 32 (mI m 2)) ∧ q18.length = 7 ∧ q19.length = 7 ∧ ∀ p, p < 7 → q18.getD p 0 = 0 ∧ q19.getD p 0 = (mA m 5).getD p 0 := by
    intro j
    induction j with
    | zero =>
      intro k l18 l19 F hk hF e1 e2 e3
      obtain ⟨F', rfl⟩ : ∃ F', F = F' + 1 := ⟨F - 1, by omega⟩
      obtain rfl : k = 7 := by omega
      refine ⟨l18, l19, ?_, e1, e2, e3⟩
      show fb_X7_keep_2 _ _ _ = _
      unfold fb_X7_keep_2
      rw [if_pos (show (7 : Int32) ≤ nI 7 by decide)]; rfl
    | succ j ih =>
      intro k l18 l19 F hk hF e1 e2 e3
      obtain ⟨F', rfl⟩ : ∃ F', F = F' + 1 := ⟨F - 1, by omega⟩
      show ∃ q18 q19 : List Int32, fb_X7_keep_2 _ _ _ = _ ∧ _
      unfold fb_X7_keep_2
      rw [if_neg (show ¬ (7 : Int32) ≤ nI k from (nI_ge (by omega) (by decide) : ¬ nI 7 ≤ nI k)), show mA (wA (wA m 19 l19) 18 l18) 5 = mA m 5 from rfl, gA_at (by omega) (by omega), Option.bind_some, sA_at0 (by show k < l19.length; omega) (by omega), Option.bind_some, sA_at0 (by show k < l18.length; omega) (by omega), Option.bind_some, nI_1]
      have em : wA (wA (wA (wA m 19 l19) 18 l18) 19 ((mA (wA (wA m 19 l19) 18 l18) 19).set k ((mA m 5).getD k 0))) 18 ((mA (wA (wA (wA m 19 l19) 18 l18) 19 ((mA (wA (wA m 19 l19) 18 l18) 19).set k ((mA m 5).getD k 0))) 18).set k 0) = wA (wA m 19 (l19.set k ((mA m 5).getD k 0))) 18 (l18.set k 0) := by
        show ((_, _, _, _) : mM) = (_, _, _, _)
        refine Prod.ext rfl (Prod.ext ?_ rfl)
        funext c
        show (if c = 18 then _ else if c = 19 then _ else if c = 18 then _ else if c = 19 then _ else _) = (if c = 18 then _ else if c = 19 then _ else _)
        by_cases c1 : c = 18
        · rw [if_pos c1, if_pos c1]; rfl
        · rw [if_neg c1, if_neg c1]
          by_cases c2 : c = 19
          · rw [if_pos c2, if_neg c1, if_pos c2]; rfl
          · rw [if_neg c2, if_neg c2, if_neg c1, if_neg c2]
      rw [em]
      exact ih (k + 1) _ _ F' (by omega) (by omega) (by rw [List.length_set]; exact e1) (by rw [List.length_set]; exact e2) (fun p hp => by
        rw [gd_set, gd_set]
        by_cases e : k = p
        · subst e; rw [if_pos ⟨rfl, by omega⟩, if_pos ⟨rfl, by omega⟩]; exact ⟨rfl, rfl⟩
        · rw [if_neg (fun z => e z.1), if_neg (fun z => e z.1)]; exact e3 p (by omega))
  obtain ⟨q18, q19, r1, r2, r3, r4⟩ := main 7 0 (mA m 18) (mA m 19) 1000 (by omega) (by omega) h18 h19 (fun p hp => absurd hp (Nat.not_lt_zero p))
  have e0 : wA (wA m 19 (mA m 19)) 18 (mA m 18) = m := by rw [wA_self]; exact wA_self
  rw [e0] at r1
  refine ⟨_, r1, fun k k1 k2 => by rw [mI_wI, if_neg k2, mI_wI, if_neg k1]; rfl, fun c c1 c2 => by rw [mA_wI, mA_wI, mA_wA, if_neg c1, mA_wA, if_neg c2], fun _ => rfl, fun _ => rfl, ?_, r2, fun p hp => (r4 p hp).1, rfl, rfl⟩
  exact lext r3 h5 (fun p hp => (r4 p hp).2)
theorem m_putBack (h5 : (mA m 5).length = 7) (h19 : (mA m 19).length = 7) : ∃ m', f_X7_putBack m = some ((), m') ∧ (∀ k, k ≠ 1 → k ≠ 2 → mI m' k = mI m k) ∧ (∀ c, c ≠ 5 → mA m' c = mA m c) ∧ (∀ c, mL m' c = mL m c) ∧ (∀ k, mR m' k = mR m k) ∧ mA m' 5 = mA m 19 ∧ mI m' 1 = mI m 31 ∧ mI m' 2 = mI m 32 := by
  unfold f_X7_putBack
  have main : ∀ (j k : Nat) (l : List Int32) (F : Nat), k + j = 7 → j < F → l.length = 7 → (∀ p, p < k → l.getD p 0 = (mA m 19).getD p 0) → ∃ q : List Int32, f_X7_putBack_2 F (wA m 5 l) (nI k) = some ((), wI (wI (wA m 5 q) 1 (mI m 31)) 2 (mI m 32)) ∧ q.length = 7 ∧ ∀ p, p < 7 → q.getD p 0 = (mA m 19).getD p 0 := by
    intro j
    induction j with
    | zero =>
      intro k l F hk hF e1 e2
      obtain ⟨F', rfl⟩ : ∃ F', F = F' + 1 := ⟨F - 1, by omega⟩
      obtain rfl : k = 7 := by omega
      refine ⟨l, ?_, e1, e2⟩
      show fb_X7_putBack_2 _ _ _ = _
      unfold fb_X7_putBack_2
      rw [if_pos (show (7 : Int32) ≤ nI 7 by decide)]; rfl
    | succ j ih =>
      intro k l F hk hF e1 e2
      obtain ⟨F', rfl⟩ : ∃ F', F = F' + 1 := ⟨F - 1, by omega⟩
      show ∃ q : List Int32, fb_X7_putBack_2 _ _ _ = _ ∧ _
      unfold fb_X7_putBack_2
      rw [if_neg (show ¬ (7 : Int32) ≤ nI k from (nI_ge (by omega) (by decide) : ¬ nI 7 ≤ nI k)), show mA (wA m 5 l) 19 = mA m 19 from rfl, gA_at (by omega) (by omega), Option.bind_some, sA_at0 (by show k < l.length; omega) (by omega), Option.bind_some, nI_1, wA_wA, show mA (wA m 5 l) 5 = l from rfl]
      exact ih (k + 1) _ F' (by omega) (by omega) (by rw [List.length_set]; exact e1) (fun p hp => by
        rw [gd_set]
        by_cases e : k = p
        · subst e; rw [if_pos ⟨rfl, by omega⟩]
        · rw [if_neg (fun z => e z.1)]; exact e2 p (by omega))
  obtain ⟨q, r1, r2, r3⟩ := main 7 0 (mA m 5) 1000 (by omega) (by omega) h5 (fun p hp => absurd hp (Nat.not_lt_zero p))
  rw [wA_self] at r1
  refine ⟨_, r1, fun k k1 k2 => by rw [mI_wI, if_neg k2, mI_wI, if_neg k1]; rfl, fun c c1 => by rw [mA_wI, mA_wI, mA_wA, if_neg c1], fun _ => rfl, fun _ => rfl, ?_, rfl, rfl⟩
  exact lext r2 h19 r3
end M
end LINK
