-- 22r.link.lean.txt
section
/-! FROM THE RELATION TO DAYS, AND BACK; keep, putBack, a year -/
section LINK
theorem lext {a b : List Int32} {n : Nat} (ha : a.length = n) (hb : b.length = n) (h : ∀ i, i < n → a.getD i 0 = b.getD i 0) : a = b := by
  apply List.ext_getElem (by omega)
  intro i h1 h2
  have := h i (by omega)
  rw [List.getD_eq_getElem?_getD, List.getD_eq_getElem?_getD, List.getElem?_eq_getElem h1, List.getElem?_eq_getElem h2] at this
  exact this
theorem days_s {n : Nat} {pd : Nat → Nat → Nat} {cs : List CL} {due : Int32} {a b : Nat} {g c : Nat → Int32} {x y : Int32} (N : Nat) : (days n pd cs due N (a, b, g, c, x)).1 = (days n pd cs due N (a, b, g, c, y)).1 ∧ (days n pd cs due N (a, b, g, c, x)).2.1 = (days n pd cs due N (a, b, g, c, y)).2.1 ∧ (days n pd cs due N (a, b, g, c, x)).2.2.1 = (days n pd cs due N (a, b, g, c, y)).2.2.1 ∧ (days n pd cs due N (a, b, g, c, x)).2.2.2.1 = (days n pd cs due N (a, b, g, c, y)).2.2.2.1 := by
  cases N with
  | zero => exact ⟨rfl, rfl, rfl, rfl⟩
  | succ N => exact ⟨rfl, rfl, rfl, rfl⟩
theorem days_yr {n : Nat} {pd : Nat → Nat → Nat} {cs : List CL} {due : Int32} : ∀ (N : Nat) (s : DS), (days n pd cs due N s).2.1 ≤ s.2.1 + N
  | 0, s => Nat.le_refl _
  | N + 1, s => by
    have h1 := days_yr (n := n) (pd := pd) (cs := cs) (due := due) N (day1 n pd cs due s)
    have h2 : (day1 n pd cs due s).2.1 ≤ s.2.1 + 1 := by
      unfold day1
      show s.2.1 + (if s.1 = 11 then 1 else 0) ≤ _
      split <;> omega
    show (days n pd cs due N (day1 n pd cs due s)).2.1 ≤ _
    omega
/-- the whole scratch of the class -/
def FSX (m m' : mM) : Prop := (∀ k, ¬ (2048 ≤ k ∧ k < 2112) → ¬ (2624 ≤ k ∧ k < 2688) → mI m' k = mI m k) ∧ (∀ c, c ≠ 1 → ¬ (33 ≤ c ∧ c ≤ 40) → ¬ (42 ≤ c ∧ c ≤ 45) → mA m' c = mA m c) ∧ (∀ c, mL m' c = mL m c) ∧ (∀ k, k ≠ 2052 → k ≠ 2624 → mR m' k = mR m k) ∧ R_scX m'
/-- and of the reference -/
def FSM (m m' : mM) : Prop := (∀ k, k ≠ 31 → k ≠ 32 → k ≠ 34 → k ≠ 35 → mI m' k = mI m k) ∧ (∀ c, ¬ (17 ≤ c ∧ c ≤ 22) → mA m' c = mA m c) ∧ (∀ c, mL m' c = mL m c) ∧ (∀ k, mR m' k = mR m k) ∧ R_scM m'
theorem XS.fr {m m' : mM} {c : Nat} {S : SS} (h : XS m c S) (hI : ∀ k, k < 4 → mI m' (64 * c + k) = mI m (64 * c + k)) (hR : mR m' (64 * c + 4) = mR m (64 * c + 4)) (hA : ∀ k, k < 9 → mA m' (c + k) = mA m (c + k)) : XS m' c S := by
  unfold XS at h ⊢
  rw [hI 0 (by omega), hI 1 (by omega), hI 2 (by omega), hI 3 (by omega), hR, hA 1 (by omega), hA 2 (by omega), hA 3 (by omega), hA 4 (by omega), hA 5 (by omega), hA 6 (by omega), hA 7 (by omega), hA 8 (by omega)]
  exact h
theorem XSh.fr {m m' : mM} {c : Nat} (h : XSh m c) (hA : ∀ k, k < 9 → mA m' (c + k) = mA m (c + k)) : XSh m' c := by
  unfold XSh at h ⊢
  rw [hA 1 (by omega), hA 2 (by omega), hA 3 (by omega), hA 4 (by omega), hA 5 (by omega), hA 6 (by omega), hA 7 (by omega), hA 8 (by omega)]
  exact h
/-- with its state -/
def RRs (W : Nat) (S : SS) (mx mm : mM) : Prop := R_now mx mm S ∧ SOK W S ∧ R_kep W mx mm ∧ R_scX mx ∧ R_scM mm ∧ R_txt mx mm ∧ R_twn W mx mm ∧ R_act mx mm ∧ R_tap mx mm
theorem RRs.frS {W : Nat} {S : SS} {mx mm mx' mm' : mM} (h : RRs W S mx mm) (f : FSX mx mx') (g : FSM mm mm') : RRs W S mx' mm' := by
  obtain ⟨⟨hX, hS, hM, hQ⟩, hO, ⟨k1, k2, b, k3, k4, k5⟩, hC, hC2, ⟨t1, t2, t3⟩, hW, ⟨c1, c2, c3⟩, hP⟩ := h
  obtain ⟨f1, f2, f3, f4, f5⟩ := f
  obtain ⟨g1, g2, g3, g4, g5⟩ := g
  have gA : ∀ c, ¬ (17 ≤ c ∧ c ≤ 22) → mA mm' c = mA mm c := g2
  refine ⟨⟨hX.fr (fun k hk => f2 _ (by omega) (by omega) (by omega)), hS.fr (fun k hk => f1 _ (by omega) (by omega)) (f4 _ (by omega) (by omega)) (fun k hk => f2 _ (by omega) (by omega) (by omega)), ?_, ?_⟩, hO, ⟨k1.fr (fun k hk => f2 _ (by omega) (by omega) (by omega)), ?_, b, by rw [f1 3 (by omega) (by omega)]; exact k3, by rw [g1 40 (by omega) (by omega) (by omega) (by omega)]; exact k4, fun hb => ?_⟩, f5, g5, ?_, ?_, ?_, ?_⟩
  · unfold MSh at hM ⊢
    rw [gA 1 (by omega), gA 2 (by omega), gA 3 (by omega), gA 4 (by omega), gA 7 (by omega), gA 6 (by omega), gA 5 (by omega), gA 23 (by omega)]; exact hM
  · unfold MS at hQ ⊢
    rw [gA 1 (by omega), gA 2 (by omega), gA 3 (by omega), gA 4 (by omega), gA 7 (by omega), gA 6 (by omega), gA 5 (by omega), gA 23 (by omega), g1 0 (by omega) (by omega) (by omega) (by omega), g1 1 (by omega) (by omega) (by omega) (by omega), g1 2 (by omega) (by omega) (by omega) (by omega), g1 38 (by omega) (by omega) (by omega) (by omega), g1 11 (by omega) (by omega) (by omega) (by omega)]; exact hQ
  · unfold MKh at k2 ⊢
    rw [gA 24 (by omega), gA 25 (by omega), gA 26 (by omega), gA 27 (by omega), gA 31 (by omega), gA 29 (by omega), gA 28 (by omega), gA 30 (by omega)]; exact k2
  · obtain ⟨K, q1, q2, q3⟩ := k5 hb
    refine ⟨K, q1.fr (fun k hk => f1 _ (by omega) (by omega)) (f4 _ (by omega) (by omega)) (fun k hk => f2 _ (by omega) (by omega) (by omega)), ?_, q3⟩
    unfold MK at q2 ⊢
    rw [gA 24 (by omega), gA 25 (by omega), gA 26 (by omega), gA 27 (by omega), gA 31 (by omega), gA 29 (by omega), gA 28 (by omega), gA 30 (by omega), g1 42 (by omega) (by omega) (by omega) (by omega), g1 43 (by omega) (by omega) (by omega) (by omega), g1 44 (by omega) (by omega) (by omega) (by omega), g1 45 (by omega) (by omega) (by omega) (by omega), g1 41 (by omega) (by omega) (by omega) (by omega)]; exact q2
  · unfold R_txt
    rw [f2 3 (by omega) (by omega) (by omega), gA 8 (by omega), f1 129 (by omega) (by omega), g1 12 (by omega) (by omega) (by omega) (by omega)]; exact ⟨t1, t2, t3⟩
  · exact hW.fr (fun k hk => f1 _ (by omega) (by omega)) (fun c hc => f2 _ (by omega) (by omega) (by omega)) (g1 10 (by omega) (by omega) (by omega) (by omega)) (fun c hc => by
      by_cases e : c < 17
      · exact gA c (by omega)
      · omega)
  · unfold R_act
    rw [f2 6 (by omega) (by omega) (by omega), gA 32 (by omega), f1 321 (by omega) (by omega), g1 54 (by omega) (by omega) (by omega) (by omega)]; exact ⟨c1, c2, c3⟩
  · exact hP.fr (fun k hk => f1 _ (by omega) (by omega)) (fun c hc => f3 c) ⟨gA 33 (by omega), gA 34 (by omega)⟩ ⟨g3 35, g3 36⟩
theorem RR.frS {mx mm mx' mm' : mM} (h : RR mx mm) (f : FSX mx mx') (g : FSM mm mm') : RR mx' mm' := by
  obtain ⟨W, S, h⟩ := h
  exact ⟨W, S, RRs.frS h f g⟩
theorem FSM.rfl {m : mM} (h : R_scM m) : FSM m m := ⟨fun _ _ _ _ _ => Eq.refl _, fun _ _ => Eq.refl _, fun _ => Eq.refl _, fun _ => Eq.refl _, h⟩
theorem FSX.rfl {m : mM} (h : R_scX m) : FSX m m := ⟨fun _ _ _ => Eq.refl _, fun _ _ _ _ => Eq.refl _, fun _ => Eq.refl _, fun _ _ _ => Eq.refl _, h⟩
theorem FSX.of {m m' : mM} (h : R_scX m) (f : FX m m') (l42 : (mA m' 42).length = 7) (l43 : (mA m' 43).length = 7) (l44 : (mA m' 44).length = 7) (l45 : (mA m' 45).length = 12) : FSX m m' := ⟨fun k _ h2 => f.1 k h2, fun c _ _ h3 => f.2.1 c h3, f.2.2.1, fun k _ h2 => f.2.2.2 k h2, h.1.fr (fun k hk => f.2.1 _ (by omega)), by rw [f.2.1 1 (by omega)]; exact h.2.1, l42, l43, l44, l45⟩
theorem XD.frS {m m' : mM} {c n t : Nat} {pd : Nat → Nat → Nat} {cs : List CL} {due : Int32} {s : DS} (h : R_scX m) (f : FX m m') (x : XD m' c n pd t cs due s) : FSX m m' := by
  obtain ⟨⟨a1, a2, a3, a4, a5, a6, a7, a8, a9, a10, a11, a12⟩, -⟩ := x
  exact FSX.of h f a9 a10 a11 a3.1
/-- the class's side of a state, the reference's side -/
theorem RRs.g {W : Nat} {S : SS} {mx mm : mM} (h : RRs W S mx mm) : ∃ cs, R_now mx mm S ∧ SOK W S ∧ R_twn W mx mm ∧ R_scX mx ∧ R_scM mm ∧ PXr mx 14 S.1 S.2.1 ∧ TXr mx 14 S.2.2.2.2.2.2 cs ∧ PT mm S.1 S.2.1 S.2.2.2.2.2.2 cs ∧ DUE mm cs (nI (clLast 1 10 cs)) := by
  obtain ⟨⟨hX, hS, hM, hQ⟩, hO, hK, hC, hC2, hT, hW, hA, hP⟩ := h
  obtain ⟨w1, w2, w3, w4, w5, w6⟩ := id hW
  have htw := hO.2.2.2.2.1
  obtain ⟨cs, t1, t2, t3, t4⟩ := w6 _ htw
  have hlen : cs.length ≤ 10 := by
    by_cases e : S.2.2.2.2.2.2 = 0
    · rw [t3 e]; decide
    · exact (t4 (by omega)).2.1
  refine ⟨cs, ⟨hX, hS, hM, hQ⟩, hO, hW, hC, hC2, ⟨Or.inl rfl, hS.1.1, hO.1, hX.1, hS.2.1⟩, ⟨by omega, hS.1.2.2.2.2, w4 _ (by omega), t2, t1, hlen⟩, ⟨⟨hQ.1.1, hO.1, hM.1, hQ.2.1⟩, by omega, hQ.1.2.2.2.2, w5, t1, t3, t4⟩, Or.inl ⟨hC2.2.2.2.2.2.2, rfl⟩⟩
/-- a new state of today's -/
theorem RRs.now {W : Nat} {S S' : SS} {mx mm mx' mm' : mM} (h : RRs W S mx mm) (hN : R_now mx' mm' S') (hO : SOK W S') (hM : R_scM mm') (f1 : ∀ k, ¬ (896 ≤ k ∧ k < 960) → mI mx' k = mI mx k) (f2 : ∀ c, ¬ (14 ≤ c ∧ c ≤ 22) → mA mx' c = mA mx c) (f3 : ∀ c, mL mx' c = mL mx c) (f4 : ∀ k, k ≠ 900 → mR mx' k = mR mx k) (g1 : ∀ k, k ∉ [0, 1, 2, 11, 31, 32, 34, 35, 38] → mI mm' k = mI mm k) (g2 : ∀ c, ¬ (1 ≤ c ∧ c ≤ 7) → ¬ (17 ≤ c ∧ c ≤ 23) → mA mm' c = mA mm c) (g3 : ∀ c, mL mm' c = mL mm c) : RRs W S' mx' mm' := by
  obtain ⟨-, -, ⟨k1, k2, b, k3, k4, k5⟩, hC, -, ⟨t1, t2, t3⟩, hW, ⟨c1, c2, c3⟩, hP⟩ := h
  have gA : ∀ c, ¬ (1 ≤ c ∧ c ≤ 7) → ¬ (17 ≤ c ∧ c ≤ 23) → mA mm' c = mA mm c := g2
  refine ⟨hN, hO, ⟨k1.fr (fun k hk => f2 _ (by omega)), ?_, b, by rw [f1 3 (by omega)]; exact k3, by rw [g1 40 (by decide)]; exact k4, fun hb => ?_⟩, ⟨hC.1.fr (fun k hk => f2 _ (by omega)), by rw [f2 1 (by omega)]; exact hC.2.1, by rw [f2 42 (by omega)]; exact hC.2.2.1, by rw [f2 43 (by omega)]; exact hC.2.2.2.1, by rw [f2 44 (by omega)]; exact hC.2.2.2.2.1, by rw [f2 45 (by omega)]; exact hC.2.2.2.2.2⟩, hM, ?_, ?_, ?_, ?_⟩
  · unfold MKh at k2 ⊢
    rw [gA 24 (by omega) (by omega), gA 25 (by omega) (by omega), gA 26 (by omega) (by omega), gA 27 (by omega) (by omega), gA 31 (by omega) (by omega), gA 29 (by omega) (by omega), gA 28 (by omega) (by omega), gA 30 (by omega) (by omega)]; exact k2
  · obtain ⟨K, q1, q2, q3⟩ := k5 hb
    refine ⟨K, q1.fr (fun k hk => f1 _ (by omega)) (f4 _ (by omega)) (fun k hk => f2 _ (by omega)), ?_, q3⟩
    unfold MK at q2 ⊢
    rw [gA 24 (by omega) (by omega), gA 25 (by omega) (by omega), gA 26 (by omega) (by omega), gA 27 (by omega) (by omega), gA 31 (by omega) (by omega), gA 29 (by omega) (by omega), gA 28 (by omega) (by omega), gA 30 (by omega) (by omega), g1 42 (by decide), g1 43 (by decide), g1 44 (by decide), g1 45 (by decide), g1 41 (by decide)]; exact q2
  · unfold R_txt
    rw [f2 3 (by omega), gA 8 (by omega) (by omega), f1 129 (by omega), g1 12 (by decide)]; exact ⟨t1, t2, t3⟩
  · exact hW.fr (fun k hk => f1 _ (by omega)) (fun c hc => f2 _ (by omega)) (g1 10 (by decide)) (fun c hc => gA c (by omega) (by omega))
  · unfold R_act
    rw [f2 6 (by omega), gA 32 (by omega) (by omega), f1 321 (by omega), g1 54 (by decide)]; exact ⟨c1, c2, c3⟩
  · exact hP.fr (fun k hk => f1 _ (by omega)) (fun c hc => f3 c) ⟨gA 33 (by omega) (by omega), gA 34 (by omega) (by omega)⟩ ⟨g3 35, g3 36⟩
/-! keep, putBack -/
section M
variable {m : mM}
theorem m_keep (h5 : (mA m 5).length = 7) (h18 : (mA m 18).length = 7) (h19 : (mA m 19).length = 7) : ∃ m', f_X7_keep m = some ((), m') ∧ (∀ k, k ≠ 31 → k ≠ 32 → mI m' k = mI m k) ∧ (∀ c, c ≠ 18 → c ≠ 19 → mA m' c = mA m c) ∧ (∀ c, mL m' c = mL m c) ∧ (∀ k, mR m' k = mR m k) ∧ mA m' 19 = mA m 5 ∧ (mA m' 18).length = 7 ∧ (∀ p, p < 7 → (mA m' 18).getD p 0 = 0) ∧ mI m' 31 = mI m 1 ∧ mI m' 32 = mI m 2 := by
  unfold f_X7_keep
  have main : ∀ (j k : Nat) (l18 l19 : List Int32) (F : Nat), k + j = 7 → j < F → l18.length = 7 → l19.length = 7 → (∀ p, p < k → l18.getD p 0 = 0 ∧ l19.getD p 0 = (mA m 5).getD p 0) → ∃ q18 q19 : List Int32, f_X7_keep_2 F (wA (wA m 19 l19) 18 l18) (nI k) = some ((), wI (wI (wA (wA m 19 q19) 18 q18) 31 (mI m 1)) 32 (mI m 2)) ∧ q18.length = 7 ∧ q19.length = 7 ∧ ∀ p, p < 7 → q18.getD p 0 = 0 ∧ q19.getD p 0 = (mA m 5).getD p 0 := by
    intro j
    induction j with
    | zero =>
      intro k l18 l19 F hk hF e1 e2 e3
      obtain ⟨F', rfl⟩ : ∃ F', F = F' + 1 := ⟨F - 1, by omega⟩
      obtain rfl : k = 7 := by omega
      refine ⟨l18, l19, ?_, e1, e2, e3⟩
      show fb_X7_keep_2 _ _ _ = _
      unfold fb_X7_keep_2
      rw [if_pos (show (7 : Int32) ≤ nI 7 by decide)]; rfl
    | succ j ih =>
      intro k l18 l19 F hk hF e1 e2 e3
      obtain ⟨F', rfl⟩ : ∃ F', F = F' + 1 := ⟨F - 1, by omega⟩
      show ∃ q18 q19 : List Int32, fb_X7_keep_2 _ _ _ = _ ∧ _
      unfold fb_X7_keep_2
      rw [if_neg (show ¬ (7 : Int32) ≤ nI k from (nI_ge (by omega) (by decide) : ¬ nI 7 ≤ nI k)), show mA (wA (wA m 19 l19) 18 l18) 5 = mA m 5 from rfl, gA_at (by omega) (by omega), Option.bind_some, sA_at0 (by show k < l19.length; omega) (by omega), Option.bind_some, sA_at0 (by show k < l18.length; omega) (by omega), Option.bind_some, nI_1]
      have em : wA (wA (wA (wA m 19 l19) 18 l18) 19 ((mA (wA (wA m 19 l19) 18 l18) 19).set k ((mA m 5).getD k 0))) 18 ((mA (wA (wA (wA m 19 l19) 18 l18) 19 ((mA (wA (wA m 19 l19) 18 l18) 19).set k ((mA m 5).getD k 0))) 18).set k 0) = wA (wA m 19 (l19.set k ((mA m 5).getD k 0))) 18 (l18.set k 0) := by
        show ((_, _, _, _) : mM) = (_, _, _, _)
        refine Prod.ext rfl (Prod.ext ?_ rfl)
        funext c
        show (if c = 18 then _ else if c = 19 then _ else if c = 18 then _ else if c = 19 then _ else _) = (if c = 18 then _ else if c = 19 then _ else _)
        by_cases c1 : c = 18
        · rw [if_pos c1, if_pos c1]; rfl
        · rw [if_neg c1, if_neg c1]
          by_cases c2 : c = 19
          · rw [if_pos c2, if_neg c1, if_pos c2]; rfl
          · rw [if_neg c2, if_neg c2, if_neg c1, if_neg c2]
      rw [em]
      exact ih (k + 1) _ _ F' (by omega) (by omega) (by rw [List.length_set]; exact e1) (by rw [List.length_set]; exact e2) (fun p hp => by
        rw [gd_set, gd_set]
        by_cases e : k = p
        · subst e; rw [if_pos ⟨rfl, by omega⟩, if_pos ⟨rfl, by omega⟩]; exact ⟨rfl, rfl⟩
        · rw [if_neg (fun z => e z.1), if_neg (fun z => e z.1)]; exact e3 p (by omega))
  obtain ⟨q18, q19, r1, r2, r3, r4⟩ := main 7 0 (mA m 18) (mA m 19) 1000 (by omega) (by omega) h18 h19 (fun p hp => absurd hp (Nat.not_lt_zero p))
  have e0 : wA (wA m 19 (mA m 19)) 18 (mA m 18) = m := by rw [wA_self]; exact wA_self
  rw [e0] at r1
  refine ⟨_, r1, fun k k1 k2 => by rw [mI_wI, if_neg k2, mI_wI, if_neg k1]; rfl, fun c c1 c2 => by rw [mA_wI, mA_wI, mA_wA, if_neg c1, mA_wA, if_neg c2], fun _ => rfl, fun _ => rfl, ?_, r2, fun p hp => (r4 p hp).1, rfl, rfl⟩
  exact lext r3 h5 (fun p hp => (r4 p hp).2)
theorem m_putBack (h5 : (mA m 5).length = 7) (h19 : (mA m 19).length = 7) : ∃ m', f_X7_putBack m = some ((), m') ∧ (∀ k, k ≠ 1 → k ≠ 2 → mI m' k = mI m k) ∧ (∀ c, c ≠ 5 → mA m' c = mA m c) ∧ (∀ c, mL m' c = mL m c) ∧ (∀ k, mR m' k = mR m k) ∧ mA m' 5 = mA m 19 ∧ mI m' 1 = mI m 31 ∧ mI m' 2 = mI m 32 := by
  unfold f_X7_putBack
  have main : ∀ (j k : Nat) (l : List Int32) (F : Nat), k + j = 7 → j < F → l.length = 7 → (∀ p, p < k → l.getD p 0 = (mA m 19).getD p 0) → ∃ q : List Int32, f_X7_putBack_2 F (wA m 5 l) (nI k) = some ((), wI (wI (wA m 5 q) 1 (mI m 31)) 2 (mI m 32)) ∧ q.length = 7 ∧ ∀ p, p < 7 → q.getD p 0 = (mA m 19).getD p 0 := by
    intro j
    induction j with
    | zero =>
      intro k l F hk hF e1 e2
      obtain ⟨F', rfl⟩ : ∃ F', F = F' + 1 := ⟨F - 1, by omega⟩
      obtain rfl : k = 7 := by omega
      refine ⟨l, ?_, e1, e2⟩
      show fb_X7_putBack_2 _ _ _ = _
      unfold fb_X7_putBack_2
      rw [if_pos (show (7 : Int32) ≤ nI 7 by decide)]; rfl
    | succ j ih =>
      intro k l F hk hF e1 e2
      obtain ⟨F', rfl⟩ : ∃ F', F = F' + 1 := ⟨F - 1, by omega⟩
      show ∃ q : List Int32, fb_X7_putBack_2 _ _ _ = _ ∧ _
      unfold fb_X7_putBack_2
      rw [if_neg (show ¬ (7 : Int32) ≤ nI k from (nI_ge (by omega) (by decide) : ¬ nI 7 ≤ nI k)), show mA (wA m 5 l) 19 = mA m 19 from rfl, gA_at (by omega) (by omega), Option.bind_some, sA_at0 (by show k < l.length; omega) (by omega), Option.bind_some, nI_1, wA_wA, show mA (wA m 5 l) 5 = l from rfl]
      exact ih (k + 1) _ F' (by omega) (by omega) (by rw [List.length_set]; exact e1) (fun p hp => by
        rw [gd_set]
        by_cases e : k = p
        · subst e; rw [if_pos ⟨rfl, by omega⟩]
        · rw [if_neg (fun z => e z.1)]; exact e2 p (by omega))
  obtain ⟨q, r1, r2, r3⟩ := main 7 0 (mA m 5) 1000 (by omega) (by omega) h5 (fun p hp => absurd hp (Nat.not_lt_zero p))
  rw [wA_self] at r1
  refine ⟨_, r1, fun k k1 k2 => by rw [mI_wI, if_neg k2, mI_wI, if_neg k1]; rfl, fun c c1 => by rw [mA_wI, mA_wI, mA_wA, if_neg c1], fun _ => rfl, fun _ => rfl, ?_, rfl, rfl⟩
  exact lext r2 h19 r3
end M
end LINK
end
-- 22s.ops3.lean.txt
section
/-! OPERATIONS: a day, by, a year, of, the sums -/
section OPS3
/-- a year's gain of each -/
def gY (n : Nat) (pd : Nat → Nat → Nat) (cs : List CL) (due : Int32) (dt yr : Nat) : Nat → Int32 := (days n pd cs due 12 (dt, yr, fun _ => 0, fun _ => 0, 0)).2.2.1
section M
variable {m : mM} {n : Nat} {pd : Nat → Nat → Nat} {tw : Nat} {cs : List CL} {due : Int32} {pu : Nat → Int32}
/-- at rest: the state's own -/
def MR (m : mM) (n : Nat) (pd : Nat → Nat → Nat) (tw : Nat) (cs : List CL) (due : Int32) (pu : Nat → Int32) (dt yr : Nat) : Prop := PT m n pd tw cs ∧ DUE m cs due ∧ mI m 1 = nI dt ∧ mI m 2 = nI yr ∧ dt < 12 ∧ yr ≤ 999 ∧ (mA m 5).length = 7 ∧ (∀ p, p < n → (mA m 5).getD p 0 = pu p) ∧ (mA m 17).length = 100 ∧ (mA m 18).length = 7 ∧ (mA m 19).length = 7 ∧ (mA m 20).length = 7
/-- frame of a year laid -/
def FY (m m' : mM) : Prop := (∀ k, k ≠ 31 → k ≠ 32 → mI m' k = mI m k) ∧ (∀ c, ¬ (17 ≤ c ∧ c ≤ 20) → mA m' c = mA m c) ∧ (∀ c, mL m' c = mL m c) ∧ (∀ k, mR m' k = mR m k) ∧ (mA m' 17).length = 100 ∧ (mA m' 18).length = 7 ∧ (mA m' 19).length = 7 ∧ (mA m' 20).length = 7
theorem FY.trans {a b c : mM} (h : FY a b) (g : FY b c) : FY a c := ⟨fun k h1 h2 => (g.1 k h1 h2).trans (h.1 k h1 h2), fun k h1 => (g.2.1 k h1).trans (h.2.1 k h1), fun k => (g.2.2.1 k).trans (h.2.2.1 k), fun k => (g.2.2.2.1 k).trans (h.2.2.2.1 k), g.2.2.2.2⟩
theorem FY.sm {m' : mM} (h : FY m m') (hc : R_scM m) : FSM m m' := ⟨fun k h1 h2 _ _ => h.1 k h1 h2, fun c h1 => h.2.1 c (by omega), h.2.2.1, h.2.2.2.1, h.2.2.2.2.1, h.2.2.2.2.2.1, h.2.2.2.2.2.2.1, h.2.2.2.2.2.2.2, by rw [h.2.1 21 (by omega)]; exact hc.2.2.2.2.1, by rw [h.2.1 22 (by omega)]; exact hc.2.2.2.2.2.1, by rw [h.1 27 (by decide) (by decide)]; exact hc.2.2.2.2.2.2⟩
theorem PT.fy {m' : mM} (h : PT m n pd tw cs) (f0 : mI m' 0 = mI m 0) (f11 : mI m' 11 = mI m 11) (hA : ∀ c, c ≠ 5 → ¬ (17 ≤ c ∧ c ≤ 20) → mA m' c = mA m c) : PT m' n pd tw cs := by
  obtain ⟨⟨h1, h2, h3, h4⟩, g1, g2, g3, g4, g5, g6⟩ := h
  refine ⟨⟨by rw [f0]; exact h1, h2, ?_, ?_⟩, g1, by rw [f11]; exact g2, ?_, g4, g5, fun hz => ?_⟩
  · rw [hA 1 (by decide) (by decide), hA 2 (by decide) (by decide), hA 3 (by decide) (by decide), hA 4 (by decide) (by decide), hA 7 (by decide) (by decide), hA 6 (by decide) (by decide)]; exact h3
  · rw [hA 1 (by decide) (by decide), hA 2 (by decide) (by decide), hA 3 (by decide) (by decide), hA 4 (by decide) (by decide), hA 7 (by decide) (by decide), hA 6 (by decide) (by decide)]; exact h4
  · unfold TMh at g3 ⊢
    rw [hA 9 (by decide) (by decide), hA 10 (by decide) (by decide), hA 11 (by decide) (by decide), hA 12 (by decide) (by decide), hA 13 (by decide) (by decide), hA 14 (by decide) (by decide), hA 15 (by decide) (by decide), hA 16 (by decide) (by decide)]; exact g3
  · have := g6 hz
    unfold TMe at this ⊢
    rw [hA 9 (by decide) (by decide), hA 10 (by decide) (by decide), hA 11 (by decide) (by decide), hA 12 (by decide) (by decide), hA 13 (by decide) (by decide), hA 14 (by decide) (by decide)]; exact this
theorem MR.fy {m' : mM} {dt yr : Nat} (h : MR m n pd tw cs due pu dt yr) (f : FY m m') : MR m' n pd tw cs due pu dt yr := by
  obtain ⟨a1, a2, a3, a4, a5, a6, a7, a8, a9⟩ := h
  refine ⟨a1.fy (f.1 0 (by decide) (by decide)) (f.1 11 (by decide) (by decide)) (fun c _ h2 => f.2.1 c h2), ?_, by rw [f.1 1 (by decide) (by decide)]; exact a3, by rw [f.1 2 (by decide) (by decide)]; exact a4, a5, a6, by rw [f.2.1 5 (by decide)]; exact a7, by rw [f.2.1 5 (by decide)]; exact a8, f.2.2.2.2⟩
  unfold DUE at a2 ⊢
  rw [f.1 27 (by decide) (by decide)]; exact a2
/-- kept, and N days on -/
theorem m_kept {dt yr : Nat} (h : MR m n pd tw cs due pu dt yr) : ∃ m', f_X7_keep m = some ((), m') ∧ MD m' n pd tw cs due pu (dt, yr, fun _ => 0, fun _ => 0, 0) ∧ mA m' 19 = mA m 5 ∧ mI m' 31 = mI m 1 ∧ mI m' 32 = mI m 2 ∧ (∀ k, k ≠ 31 → k ≠ 32 → mI m' k = mI m k) ∧ (∀ c, c ≠ 18 → c ≠ 19 → mA m' c = mA m c) ∧ (∀ c, mL m' c = mL m c) ∧ (∀ k, mR m' k = mR m k) := by
  obtain ⟨a1, a2, a3, a4, a5, a6, a7, a8, a9, a10, a11, a12⟩ := h
  obtain ⟨m1, k1, k2, k3, k4, k5, k6, k7, k8, k9, k10⟩ := m_keep a7 a10 a11
  refine ⟨m1, k1, ⟨a1.fy (k2 0 (by decide) (by decide)) (k2 11 (by decide) (by decide)) (fun c h1 h2 => k3 c (by omega) (by omega)), ?_, by rw [k2 1 (by decide) (by decide)]; exact a3, by rw [k2 2 (by decide) (by decide)]; exact a4, by rw [k3 5 (by decide) (by decide)]; exact a7, by rw [k3 17 (by decide) (by decide)]; exact a9, k7, fun p hp => ?_, fun p hp => k8 p (by have := a1.1.2.1.1; omega), a5⟩, k6, k9, k10, k2, k3, k4, k5⟩
  · unfold DUE at a2 ⊢
    rw [k2 27 (by decide) (by decide)]; exact a2
  · rw [k3 5 (by decide) (by decide), a8 p hp]; exact (Int32.add_zero _).symm
/-- and back again -/
theorem m_back {dt yr : Nat} {mk m' : mM} {s : DS} (h : MR m n pd tw cs due pu dt yr) (k6 : mA mk 19 = mA m 5) (k9 : mI mk 31 = mI m 1) (k10 : mI mk 32 = mI m 2) (k2 : ∀ k, k ≠ 31 → k ≠ 32 → mI mk k = mI m k) (k3 : ∀ c, c ≠ 18 → c ≠ 19 → mA mk c = mA m c) (k4 : ∀ c, mL mk c = mL m c) (k5 : ∀ k, mR mk k = mR m k) (f1 : ∀ k, k ≠ 1 → k ≠ 2 → mI m' k = mI mk k) (f2 : ∀ c, c ≠ 5 → c ≠ 17 → c ≠ 18 → c ≠ 20 → mA m' c = mA mk c) (f3 : ∀ c, mL m' c = mL mk c) (f4 : ∀ k, mR m' k = mR mk k) (l5 : (mA m' 5).length = 7) (l17 : (mA m' 17).length = 100) (l18 : (mA m' 18).length = 7) (l20 : (mA m' 20).length = 7) : ∃ m'', f_X7_putBack m' = some ((), m'') ∧ FY m m'' ∧ ∀ c, c ≠ 5 → mA m'' c = mA m' c := by
  obtain ⟨a1, a2, a3, a4, a5, a6, a7, a8, a9, a10, a11, a12⟩ := h
  have e19 : mA m' 19 = mA m 5 := by rw [f2 19 (by decide) (by decide) (by decide) (by decide), k6]
  obtain ⟨m2, q1, q2, q3, q4, q5, q6, q7, q8⟩ := m_putBack l5 (by rw [e19]; exact a7)
  refine ⟨m2, q1, ⟨fun k h1 h2 => ?_, fun c hc => ?_, fun c => by rw [q4, f3, k4], fun k => by rw [q5, f4, k5], by rw [q3 17 (by decide)]; exact l17, by rw [q3 18 (by decide)]; exact l18, by rw [q3 19 (by decide), e19]; exact a7, by rw [q3 20 (by decide)]; exact l20⟩, q3⟩
  · by_cases e1 : k = 1
    · subst e1; rw [q7, f1 31 (by decide) (by decide), k9]
    · by_cases e2 : k = 2
      · subst e2; rw [q8, f1 32 (by decide) (by decide), k10]
      · rw [q2 k e1 e2, f1 k e1 e2, k2 k h1 h2]
  · by_cases e : c = 5
    · subst e; rw [q6, e19]
    · rw [q3 c e, f2 c e (by omega) (by omega) (by omega), k3 c (by omega) (by omega)]
theorem m_layYear {dt yr : Nat} (h : MR m n pd tw cs due pu dt yr) : ∃ m', f_X7_layYear m = some ((), m') ∧ FY m m' ∧ ∀ p, p < n → (mA m' 20).getD p 0 = gY n pd cs due dt yr p := by
  unfold f_X7_layYear
  have hn := h.1.1.2.1.1
  obtain ⟨mk, k1, kD, k6, k9, k10, k2, k3, k4, k5⟩ := m_kept h
  obtain ⟨a1, a2, a3, a4, a5, a6, a7, a8, a9, a10, a11, a12⟩ := id h
  rw [k1, bnd_some]
  -- laid: the row of more
  have lay : ∀ (j k : Nat) (m1 : mM) (F : Nat), k + j = n → j < F → MD m1 n pd tw cs due pu (days n pd cs due 12 (dt, yr, fun _ => 0, fun _ => 0, 0)) → (∀ k, k ≠ 1 → k ≠ 2 → mI m1 k = mI mk k) → (∀ c, c ≠ 5 → c ≠ 17 → c ≠ 18 → c ≠ 20 → mA m1 c = mA mk c) → (∀ c, mL m1 c = mL mk c) → (∀ k, mR m1 k = mR mk k) → (mA m1 20).length = 7 → (∀ p, p < k → (mA m1 20).getD p 0 = gY n pd cs due dt yr p) → ∃ m', f_X7_layYear_25 F m1 (nI k) = some ((), m') ∧ FY m m' ∧ ∀ p, p < n → (mA m' 20).getD p 0 = gY n pd cs due dt yr p := by
    intro j
    induction j with
    | zero =>
      intro k m1 F hk hF hD f1 f2 f3 f4 l20 hp
      obtain ⟨F', rfl⟩ : ∃ F', F = F' + 1 := ⟨F - 1, by omega⟩
      obtain rfl : k = n := by omega
      obtain ⟨b1, b2, b3, b4, b5, b6, b7, b8, b9, b10⟩ := hD
      obtain ⟨m2, r1, r2, r3⟩ := m_back (s := (0, 0, fun _ => 0, fun _ => 0, 0)) h k6 k9 k10 k2 k3 k4 k5 f1 f2 f3 f4 b5 b6 b7 l20
      refine ⟨m2, ?_, r2, fun p hq => by rw [r3 20 (by decide)]; exact hp p hq⟩
      show fb_X7_layYear_25 _ _ _ = _
      unfold fb_X7_layYear_25
      rw [b1.1.1, if_pos (nI_le (Nat.le_refl _) (by omega)), r1, bnd_some]
    | succ j ih =>
      intro k m1 F hk hF hD f1 f2 f3 f4 l20 hp
      obtain ⟨F', rfl⟩ : ∃ F', F = F' + 1 := ⟨F - 1, by omega⟩
      obtain ⟨b1, b2, b3, b4, b5, b6, b7, b8, b9, b10⟩ := hD
      have hkn : k < n := by omega
      have e19 : mA m1 19 = mA m 5 := by rw [f2 19 (by decide) (by decide) (by decide) (by decide), k6]
      show ∃ m', fb_X7_layYear_25 _ _ _ = _ ∧ _
      unfold fb_X7_layYear_25
      rw [b1.1.1, if_neg (nI_ge hkn (by omega)), gA_at (by omega) (by omega), b8 k hkn, Option.bind_some, e19, gA_at (by omega) (by omega), a8 k hkn, Option.bind_some, sA_at0 (by omega) (by omega), Option.bind_some, nI_1]
      have ev : pu k + (days n pd cs due 12 (dt, yr, fun _ => 0, fun _ => 0, 0)).2.2.1 k - pu k = gY n pd cs due dt yr k := by
        rw [Int32.add_comm, Int32.add_sub_cancel]; rfl
      rw [ev]
      refine ih (k + 1) (wA m1 20 ((mA m1 20).set k (gY n pd cs due dt yr k))) F' (by omega) (by omega) ⟨b1.fy rfl rfl (fun c _ h2 => by rw [mA_wA, if_neg (by omega)]), b2, b3, b4, b5, b6, b7, b8, b9, b10⟩ f1 (fun c c1 c2 c3 c4 => by rw [mA_wA, if_neg c4]; exact f2 c c1 c2 c3 c4) f3 f4 (by rw [mA_wA, if_pos rfl, List.length_set]; exact l20) (fun p hq => ?_)
      rw [mA_wA, if_pos rfl, gd_set]
      by_cases e : k = p
      · subst e; rw [if_pos ⟨rfl, by omega⟩]
      · rw [if_neg (fun z => e z.1)]; exact hp p (by omega)
  have go : ∀ (j k : Nat) (m1 : mM) (F : Nat) (s : DS), k + j = 12 → j < F → s.2.1 + j < 2 ^ 31 → MD m1 n pd tw cs due pu s → days n pd cs due j s = days n pd cs due 12 (dt, yr, fun _ => 0, fun _ => 0, 0) → FM mk m1 → ∃ m', f_X7_layYear_6 F m1 (nI k) = some ((), m') ∧ FY m m' ∧ ∀ p, p < n → (mA m' 20).getD p 0 = gY n pd cs due dt yr p := by
    intro j
    induction j with
    | zero =>
      intro k m1 F s hk hF hy hD he f
      obtain ⟨F', rfl⟩ : ∃ F', F = F' + 1 := ⟨F - 1, by omega⟩
      obtain rfl : k = 12 := by omega
      show ∃ m', fb_X7_layYear_6 _ _ _ = _ ∧ _
      unfold fb_X7_layYear_6
      rw [if_pos (show (12 : Int32) ≤ nI 12 by decide)]
      have he' : s = days n pd cs due 12 (dt, yr, fun _ => 0, fun _ => 0, 0) := he
      rw [he'] at hD
      exact lay n 0 m1 1000 (by omega) (by omega) hD f.1 (fun c c1 c2 c3 _ => f.2.1 c c1 c2 c3) f.2.2.1 f.2.2.2 (by rw [f.2.1 20 (by decide) (by decide) (by decide), k3 20 (by decide) (by decide)]; exact a12) (fun p hp => absurd hp (Nat.not_lt_zero p))
    | succ j ih =>
      intro k m1 F s hk hF hy hD he f
      obtain ⟨F', rfl⟩ : ∃ F', F = F' + 1 := ⟨F - 1, by omega⟩
      show ∃ m', fb_X7_layYear_6 _ _ _ = _ ∧ _
      unfold fb_X7_layYear_6
      obtain ⟨m2, r1, r2, r3⟩ := m_goDay hD (by omega)
      rw [if_neg (show ¬ (12 : Int32) ≤ nI k from (nI_ge (by omega) (by decide) : ¬ nI 12 ≤ nI k)), r1, bnd_some, nI_1]
      exact ih (k + 1) m2 F' _ (by omega) (by omega) (by
        have := days_yr (n := n) (pd := pd) (cs := cs) (due := due) 1 s
        have e : (days n pd cs due 1 s) = day1 n pd cs due s := rfl
        rw [e] at this; omega) r2 he (f.trans r3)
  exact go 12 0 mk 1000 _ (by omega) (by omega) (by show yr + 12 < 2 ^ 31; omega) kD rfl FM.rfl
end M
end OPS3
end
-- 22t.ops4.lean.txt
section
/-! OPERATIONS: a day, by, a year, of, the sums -/
section OPS4
variable {mx mm : mM}
/-- all that an operation of days needs -/
def RG (mx mm : mM) (W : Nat) (S : SS) (cs : List CL) : Prop := R_now mx mm S ∧ SOK W S ∧ R_twn W mx mm ∧ R_scX mx ∧ R_scM mm ∧ PXr mx 14 S.1 S.2.1 ∧ TXr mx 14 S.2.2.2.2.2.2 cs ∧ PT mm S.1 S.2.1 S.2.2.2.2.2.2 cs ∧ DUE mm cs (nI (clLast 1 10 cs))
theorem RG.mr {W : Nat} {S : SS} {cs : List CL} (h : RG mx mm W S cs) : MR mm S.1 S.2.1 S.2.2.2.2.2.2 cs (nI (clLast 1 10 cs)) S.2.2.1 S.2.2.2.1 S.2.2.2.2.1 := by
  obtain ⟨⟨h1, h2, h3, h4⟩, h5, h6, h7, h8, h9, h10, h11, h12⟩ := h
  exact ⟨h11, h12, h4.1.2.1, h4.1.2.2.1, h5.2.1, h5.2.2.1, h3.2.1, h4.2.2.1, h8.1, h8.2.1, h8.2.2.1, h8.2.2.2.1⟩
theorem RG.tw {W : Nat} {S : SS} {cs : List CL} (h : RG mx mm W S cs) : isC true 5 (mR mx 900) = true ∧ mI mx (64 * mR mx 900 + 0) = nI (clLast 1 10 cs) ∧ mI mx (64 * mR mx 900 + 1) = nI (clLast 2 1 cs) ∧ mI mx (64 * mR mx 900 + 2) = nI (clLast 3 99 cs) := by
  obtain ⟨-, -, -, -, -, -, ⟨t1, t2, t3, t4, t5⟩, -⟩ := h
  have e : mR mx 900 = twA S.2.2.2.2.2.2 := t2
  rw [e]
  exact ⟨twA_ok t1, t4.1.1, t4.1.2.1, t4.1.2.2.1⟩
theorem RG.start {W : Nat} {S : SS} {cs : List CL} {due : Int32} (h : RG mx mm W S cs) : ∃ m', f_X1_start mx 14 due = some ((), m') ∧ XD m' 14 S.1 S.2.1 S.2.2.2.2.2.2 cs due (S.2.2.2.1, S.2.2.2.2.1, fun _ => 0, fun _ => 0, mI mx 2628) ∧ FX mx m' ∧ FSX mx m' := by
  obtain ⟨⟨h1, h2, h3, h4⟩, h5, h6, h7, h8, h9, h10, h11, h12⟩ := h
  obtain ⟨m', q1, q2, q3⟩ := x_start (due := due) h9 h10 ⟨h7.2.2.1, h7.2.2.2.1, h7.2.2.2.2.1, h7.2.2.2.2.2⟩ h2.1.2.1 h5.2.1 h2.1.2.2.1 (by have := h5.2.2.1; omega)
  exact ⟨m', q1, q2, q3, q2.frS h7 q3⟩
theorem RRs.rg {W : Nat} {S : SS} (h : RRs W S mx mm) : ∃ cs, RG mx mm W S cs := h.g
theorem RR.rg (h : RR mx mm) : ∃ W S cs, RG mx mm W S cs := by
  obtain ⟨W, S, h⟩ := h
  obtain ⟨cs, g⟩ := RRs.rg h
  exact ⟨W, S, cs, g⟩
theorem RG.per {W : Nat} {S : SS} {cs : List CL} {p : Int32} (h : RG mx mm W S cs) : f_X6_isPerson mx p = some (zB (inR S.1 p), mx) ∧ f_X7_isPerson mm p = some (zB (inR S.1 p), mm) := by
  have hn := h.2.1.1.1
  exact ⟨op_isPerson h.1.2.1.1.1, op7_isPerson h.1.2.2.2.1.1 (by omega)⟩
/-- a year of the class -/
theorem x_goYear {m : mM} {n : Nat} {pd : Nat → Nat → Nat} {c t dt yr : Nat} {cs : List CL} {due : Int32} (h : PXr m c n pd) (ht : TXr m c t cs) (h0 : XR0 m) (hd : mI m (64 * c + 1) = nI dt) (hd2 : dt < 12) (hy : mI m (64 * c + 2) = nI yr) (hy2 : yr ≤ 1000) : ∃ m', f_X6_goYear m c due = some ((), m') ∧ FX m m' ∧ XR0 m' ∧ ∀ p, p < n → (mA m' 42).getD p 0 = gY n pd cs due dt yr p := by
  unfold f_X6_goYear
  obtain ⟨m1, q1, q2, q3⟩ := x_start (due := due) h ht h0 hd hd2 hy (by omega)
  obtain ⟨m2, r1, r2, r3⟩ := x_go (N := 12) (by decide) q2 (by show yr + 12 < 2 ^ 31; omega)
  rw [q1, bnd_some, show (12 : Int32) = nI 12 from rfl, r1, bnd_some]
  refine ⟨m2, rfl, q3.trans r3, ?_, fun p hp => ?_⟩
  · obtain ⟨⟨a1, a2, a3, a4, a5, a6, a7, a8, a9, a10, a11, a12⟩, -⟩ := r2
    exact ⟨a9, a10, a11, a3.1⟩
  · rw [r2.1.2.2.2.2.2.2.2.2.2.2.2.1 p hp]
    unfold gY
    rw [(days_s 12).2.2.1]
theorem op_years (h : RR mx mm) (p : Int32) : OPe (f_X6_years mx p) (f_X7_years mm p) := by
  obtain ⟨W, S, cs, hg⟩ := h.rg
  unfold f_X6_years f_X7_years
  rw [hg.per.1, hg.per.2, bnd_some, bnd_some]
  cases hp : inR S.1 p with
  | false => exact ⟨_, mx, mm, rfl, rfl, h⟩
  | true =>
    obtain ⟨k, hk, rfl⟩ := inR_t (by have := hg.2.1.1.1; omega) hp
    have hn := hg.2.1.1.1
    have hmr := hg.mr
    have htw := hg.tw
    obtain ⟨⟨h1, h2, h3, h4⟩, h5, h6, h7, h8, h9, h10, h11, h12⟩ := hg
    obtain ⟨m1, q1, q2, q3, q4⟩ := x_goYear (due := nI (clLast 1 10 cs)) h9 h10 ⟨h7.2.2.1, h7.2.2.2.1, h7.2.2.2.2.1, h7.2.2.2.2.2⟩ h2.1.2.1 h5.2.1 h2.1.2.2.1 (by have := h5.2.2.1; omega)
    obtain ⟨m2, r1, r2, r3⟩ := m_layYear hmr
    rw [zB_t, if_neg i0, if_neg i0, chR_t htw.1, htw.2.1, q1, bnd_some, gA_at (by rw [q3.1]; omega) (by omega), q4 k hk, Option.bind_some]
    unfold f_X7_yearOf
    rw [r1, bnd_some, gA_at (by rw [r2.2.2.2.2.2.2.2]; omega) (by omega), r3 k hk, Option.bind_some, bnd_some]
    exact ⟨_, m1, m2, rfl, rfl, h.frS (FSX.of h7 q2 q3.1 q3.2.1 q3.2.2.1 q3.2.2.2) (r2.sm h8)⟩
theorem op_by (h : RR mx mm) (p q t : Int32) : OPe (f_X6_by mx p q t) (f_X7_by mm p q t) := by
  obtain ⟨W, S, cs, hg⟩ := h.rg
  unfold f_X6_by f_X7_by
  rw [hg.per.1, hg.per.2, bnd_some, bnd_some]
  cases hp : inR S.1 p with
  | false => exact ⟨_, mx, mm, rfl, rfl, h⟩
  | true =>
    obtain ⟨k, hk, rfl⟩ := inR_t (by have := hg.2.1.1.1; omega) hp
    have hn := hg.2.1.1.1
    rw [zB_t, if_neg i0, if_neg i0, op_in (n := 2) (in_lit (by decide) (by decide)), bnd_some]
    by_cases t0 : t < 0
    · rw [if_pos t0, inR_low t0]; exact ⟨_, mx, mm, rfl, rfl, h⟩
    rw [if_neg t0]
    by_cases t1 : t ≤ 1
    · have ht : inR 2 t = true := inR_mid t0 (fun z => by
        rw [Int32.le_iff_toInt_le] at t1 z
        have e1 : (1 : Int32).toInt = 1 := by decide
        have e2 : (nI 2).toInt = 2 := by decide
        omega)
      rw [if_pos t1, ht, zB_t, if_neg i0, op_in (n := 61) (in_lit (by decide) (by decide)), bnd_some]
      by_cases q0 : q < 0
      · rw [if_pos q0, inR_low q0]; exact ⟨_, mx, mm, rfl, rfl, h⟩
      rw [if_neg q0]
      by_cases q1 : q ≤ 60
      · have hq : inR 61 q = true := inR_mid q0 (fun z => by
          rw [Int32.le_iff_toInt_le] at q1 z
          have e1 : (60 : Int32).toInt = 60 := by decide
          have e2 : (nI 61).toInt = 61 := by decide
          omega)
        obtain ⟨N, hN, rfl⟩ := inR_t (by decide) hq
        have htw := hg.tw
        have hmr := hg.mr
        obtain ⟨mk, k1, kD, k6, k9, k10, k2, k3, k4, k5⟩ := m_kept hmr
        obtain ⟨m1, s1, s2, s3, s4⟩ := hg.start (due := nI (clLast 1 10 cs))
        have hyr := hg.2.1.2.2.1
        obtain ⟨m2, g1, g2, g3⟩ := x_go (N := N) (by omega) s2 (by show S.2.2.2.2.1 + N < _; omega)
        rw [if_pos q1, chR_t htw.1, htw.2.1, s1, bnd_some, g1, bnd_some, hq, zB_t, if_neg i0, k1, bnd_some]
        have go : ∀ (j i : Nat) (m1 : mM) (F : Nat) (s : DS), i + j = N → j < F → s.2.1 + j < 2 ^ 31 → MD m1 S.1 S.2.1 S.2.2.2.2.2.2 cs (nI (clLast 1 10 cs)) S.2.2.1 s → days S.1 S.2.1 cs (nI (clLast 1 10 cs)) j s = days S.1 S.2.1 cs (nI (clLast 1 10 cs)) N (S.2.2.2.1, S.2.2.2.2.1, fun _ => 0, fun _ => 0, 0) → FM mk m1 → ∃ m', f_X7_by_44 F m1 (nI k) (nI N) t (nI i) = some (if t = 0 then S.2.2.1 k + (days S.1 S.2.1 cs (nI (clLast 1 10 cs)) N (S.2.2.2.1, S.2.2.2.2.1, fun _ => 0, fun _ => 0, 0)).2.2.1 k else (days S.1 S.2.1 cs (nI (clLast 1 10 cs)) N (S.2.2.2.1, S.2.2.2.2.1, fun _ => 0, fun _ => 0, 0)).2.2.2.1 k, m') ∧ FY mm m' := by
          intro j
          induction j with
          | zero =>
            intro i m1 F s hi hF hy hD he f
            obtain ⟨F', rfl⟩ : ∃ F', F = F' + 1 := ⟨F - 1, by omega⟩
            obtain rfl : i = N := by omega
            have he' : s = days S.1 S.2.1 cs (nI (clLast 1 10 cs)) i (S.2.2.2.1, S.2.2.2.2.1, fun _ => 0, fun _ => 0, 0) := he
            rw [← he']
            obtain ⟨b1, b2, b3, b4, b5, b6, b7, b8, b9, b10⟩ := hD
            obtain ⟨m2, r1, r2, r3⟩ := m_back (s := (0, 0, fun _ => 0, fun _ => 0, 0)) hmr k6 k9 k10 k2 k3 k4 k5 f.1 (fun c c1 c2 c3 _ => f.2.1 c c1 c2 c3) f.2.2.1 f.2.2.2 b5 b6 b7 (by rw [f.2.1 20 (by decide) (by decide) (by decide), k3 20 (by decide) (by decide)]; exact hmr.2.2.2.2.2.2.2.2.2.2.2)
            show ∃ m', fb_X7_by_44 _ _ _ _ _ _ = _ ∧ _
            unfold fb_X7_by_44
            rw [if_pos (nI_le (Nat.le_refl _) (by omega))]
            by_cases e : t = 0
            · rw [if_pos e, if_pos e, gA_at (by omega) (by omega), b8 k hk, Option.bind_some]
              unfold f_X7_by_81
              rw [r1, bnd_some]; exact ⟨m2, rfl, r2⟩
            · rw [if_neg e, if_neg e, gA_at (by omega) (by omega), b9 k hk, Option.bind_some]
              unfold f_X7_by_81
              rw [r1, bnd_some]; exact ⟨m2, rfl, r2⟩
          | succ j ih =>
            intro i m1 F s hi hF hy hD he f
            obtain ⟨F', rfl⟩ : ∃ F', F = F' + 1 := ⟨F - 1, by omega⟩
            show ∃ m', fb_X7_by_44 _ _ _ _ _ _ = _ ∧ _
            unfold fb_X7_by_44
            obtain ⟨m2, r1, r2, r3⟩ := m_goDay hD (by omega)
            rw [if_neg (nI_ge (by omega) (by omega)), r1, bnd_some, nI_1]
            exact ih (i + 1) m2 F' _ (by omega) (by omega) (by
              have := days_yr (n := S.1) (pd := S.2.1) (cs := cs) (due := nI (clLast 1 10 cs)) 1 s
              have e : (days S.1 S.2.1 cs (nI (clLast 1 10 cs)) 1 s) = day1 S.1 S.2.1 cs (nI (clLast 1 10 cs)) s := rfl
              rw [e] at this; omega) r2 he (f.trans r3)
        obtain ⟨m', r1, r2⟩ := go N 0 mk 1000 _ (by omega) (by omega) (by show S.2.2.2.2.1 + N < _; omega) kD rfl FM.rfl
        have r1' : f_X7_by_44 1000 mk (nI k) (nI N) t 0 = _ := r1
        rw [r1']
        obtain ⟨⟨a1, a2, a3, a4, a5, a6, a7, a8, a9, a10, a11, a12, a13, a14⟩, -⟩ := id g2
        have hfs : FSX mx m2 := g2.frS hg.2.2.2.1 (s3.trans g3)
        have e19 : (mA m2 19).length = 7 ∧ (mA m2 19).getD k 0 = S.2.2.1 k := by
          rw [(s3.trans g3).2.1 19 (by decide)]
          exact ⟨hg.1.1.2.1, hg.1.2.1.2.2.1 k hk⟩
        refine ⟨_, m2, m', ?_, rfl, h.frS hfs (r2.sm hg.2.2.2.2.1)⟩
        by_cases e : t = 0
        · rw [if_pos e, if_pos e, gA_at (by omega) (by omega), e19.2, Option.bind_some, gA_at (by omega) (by omega), a12 k hk, Option.bind_some, (days_s N).2.2.1]
        · rw [if_neg e, if_neg e, gA_at (by omega) (by omega), a13 k hk, Option.bind_some, (days_s N).2.2.2]
      · rw [if_neg q1, inR_high (n := 61) (by
          rw [Int32.le_iff_toInt_le] at q1 ⊢
          have e1 : (60 : Int32).toInt = 60 := by decide
          have e2 : (nI 61).toInt = 61 := by decide
          omega)]
        exact ⟨_, mx, mm, rfl, rfl, h⟩
    · rw [if_neg t1, inR_high (n := 2) (by
        rw [Int32.le_iff_toInt_le] at t1 ⊢
        have e1 : (1 : Int32).toInt = 1 := by decide
        have e2 : (nI 2).toInt = 2 := by decide
        omega)]
      exact ⟨_, mx, mm, rfl, rfl, h⟩
end OPS4
end
-- 22u.ops5.lean.txt
section
/-! OPERATIONS: a day lived, of, the sums -/
section OPS5
variable {mx mm : mM}
theorem day_lp {m : mM} {n : Nat} {g pu : Nat → Int32} (hn : n ≤ 7) (h0 : mI m 896 = nI n) (l19 : (mA m 19).length = 7) (l42 : (mA m 42).length = 7) (h19 : ∀ p, p < n → (mA m 19).getD p 0 = pu p) (h42 : ∀ p, p < n → (mA m 42).getD p 0 = g p) : ∃ q : List Int32, f_X6_day_59 1000 m 0 = some (mI m 2628, wI (wI (wA m 19 q) 897 (mI m 2626)) 898 (mI m 2627)) ∧ q.length = 7 ∧ ∀ p, p < n → q.getD p 0 = pu p + g p := by
  have main : ∀ (j k : Nat) (l : List Int32) (F : Nat), k + j = n → j < F → l.length = 7 → (∀ p, p < n → l.getD p 0 = if p < k then pu p + g p else pu p) → ∃ q : List Int32, f_X6_day_59 F (wA m 19 l) (nI k) = some (mI m 2628, wI (wI (wA m 19 q) 897 (mI m 2626)) 898 (mI m 2627)) ∧ q.length = 7 ∧ ∀ p, p < n → q.getD p 0 = pu p + g p := by
    intro j
    induction j with
    | zero =>
      intro k l F hk hF e1 e2
      obtain ⟨F', rfl⟩ : ∃ F', F = F' + 1 := ⟨F - 1, by omega⟩
      obtain rfl : k = n := by omega
      refine ⟨l, ?_, e1, fun p hp => by rw [e2 p hp, if_pos hp]⟩
      show fb_X6_day_59 _ _ _ = _
      unfold fb_X6_day_59
      rw [show mI (wA m 19 l) 896 = mI m 896 from rfl, h0, if_pos (nI_le (Nat.le_refl _) (by omega))]; rfl
    | succ j ih =>
      intro k l F hk hF e1 e2
      obtain ⟨F', rfl⟩ : ∃ F', F = F' + 1 := ⟨F - 1, by omega⟩
      have hkn : k < n := by omega
      show ∃ q : List Int32, fb_X6_day_59 _ _ _ = _ ∧ _
      unfold fb_X6_day_59
      rw [show mI (wA m 19 l) 896 = mI m 896 from rfl, h0, if_neg (nI_ge hkn (by omega)), show mA (wA m 19 l) 19 = l from rfl, gA_at (by omega) (by omega), e2 k hkn, if_neg (Nat.lt_irrefl k), Option.bind_some, show mA (wA m 19 l) 42 = mA m 42 from rfl, gA_at (by omega) (by omega), h42 k hkn, Option.bind_some, sA_at0 (by show k < l.length; omega) (by omega), Option.bind_some, nI_1, wA_wA, show mA (wA m 19 l) 19 = l from rfl]
      refine ih (k + 1) _ F' (by omega) (by omega) (by rw [List.length_set]; exact e1) (fun p hp => ?_)
      rw [gd_set]
      by_cases e : k = p
      · subst e; rw [if_pos ⟨rfl, by omega⟩, if_pos (by omega)]
      · rw [if_neg (fun z => e z.1), e2 p hp]
        by_cases e2 : p < k
        · rw [if_pos e2, if_pos (by omega)]
        · rw [if_neg e2, if_neg (by omega)]
  obtain ⟨q, r⟩ := main n 0 (mA m 19) 1000 (by omega) (by omega) l19 (fun p hp => by rw [if_neg (by omega)]; exact h19 p hp)
  rw [wA_self] at r
  exact ⟨q, r⟩
theorem op_day (h : RR mx mm) : OPe (f_X6_day mx) (f_X7_day mm) := by
  obtain ⟨W, S, hr⟩ := id h
  obtain ⟨cs, hg⟩ := RRs.rg hr
  have hr : RRs W S mx mm := hr
  have hO := hg.2.1
  have hdt := hO.2.1
  have hyr := hO.2.2.1
  have hn := hO.1.1
  obtain ⟨hX, hS, hM, hQ⟩ := id hg.1
  have e1 : mI mx 897 = nI S.2.2.2.1 := hS.1.2.1
  have e2 : mI mx 898 = nI S.2.2.2.2.1 := hS.1.2.2.1
  have e3 : mI mm 1 = nI S.2.2.2.1 := hQ.1.2.1
  have e4 : mI mm 2 = nI S.2.2.2.2.1 := hQ.1.2.2.1
  have main : ¬ (S.2.2.2.1 = 11 ∧ S.2.2.2.2.1 = 999) → OPe (f_X6_day_28 mx) (f_X7_day_24 mm) := by
    intro hc
    have htw := hg.tw
    have hmr := hg.mr
    obtain ⟨m1, s1, s2, s3, s4⟩ := hg.start (due := nI (clLast 1 10 cs))
    obtain ⟨m2, g1, g2, g3⟩ := x_go (N := 1) (by omega) s2 (by show S.2.2.2.2.1 + 1 < _; omega)
    obtain ⟨⟨a1, a2, a3, a4, a5, a6, a7, a8, a9, a10, a11, a12, a13, a14⟩, -⟩ := id g2
    have ff := s3.trans g3
    have hD : MD mm S.1 S.2.1 S.2.2.2.2.2.2 cs (nI (clLast 1 10 cs)) S.2.2.1 (S.2.2.2.1, S.2.2.2.2.1, fun _ => 0, fun p => (mA mm 18).getD p 0, 0) := by
      obtain ⟨b1, b2, b3, b4, b5, b6, b7, b8, b9, b10, b11, b12⟩ := hmr
      exact ⟨b1, b2, b3, b4, b7, b9, b10, fun p hp => by rw [b8 p hp]; exact (Int32.add_zero _).symm, fun p hp => rfl, b5⟩
    obtain ⟨m3, d1, d2, d3⟩ := m_goDay hD (by show S.2.2.2.2.1 < _; omega)
    obtain ⟨c1, c2, c3, c4, c5, c6, c7, c8, c9, c10⟩ := id d2
    obtain ⟨q, q1, q2, q3⟩ := day_lp (m := m2) (pu := S.2.2.1) hn a1.2.1 (by rw [ff.2.1 19 (by decide)]; exact hX.2.1) a9 (fun p hp => by rw [ff.2.1 19 (by decide)]; exact hS.2.2.1 p hp) a12
    unfold f_X6_day_28 f_X7_day_24
    rw [chR_t htw.1, htw.2.1, s1, bnd_some, show (1 : Int32) = nI 1 from rfl, g1, bnd_some, d1, bnd_some, q1, a8, a6, a7]
    have hs2 : RRs W S m2 mm := hr.frS (g2.frS hg.2.2.2.1 ff) (FSM.rfl hg.2.2.2.2.1)
    obtain ⟨hX2, hS2, -, -⟩ := id hs2.1
    have hsc := hg.2.2.2.2.1
    refine ⟨_, _, m3, rfl, rfl, W, (S.1, S.2.1, fun p => S.2.2.1 p + (day1 S.1 S.2.1 cs (nI (clLast 1 10 cs)) (S.2.2.2.1, S.2.2.2.2.1, fun _ => 0, fun _ => 0, 0)).2.2.1 p, (S.2.2.2.1 + 1) % 12, S.2.2.2.2.1 + (if S.2.2.2.1 = 11 then 1 else 0), S.2.2.2.2.2), ?_⟩
    refine RRs.now hs2 ⟨⟨hX2.1, q2, hX2.2.2⟩, ⟨⟨hS2.1.1, rfl, rfl, hS2.1.2.2.2.1, hS2.1.2.2.2.2⟩, hS2.2.1, fun p hp => q3 p hp, hS2.2.2.2⟩, ?_, ?_⟩ ⟨hO.1, Nat.mod_lt _ (by decide), ?_, hO.2.2.2.1, hO.2.2.2.2.1, fun p hp => ?_, hO.2.2.2.2.2.2⟩ ⟨c6, c7, ?_⟩ (fun k hk => ?_) (fun c hc => ?_) (fun _ => rfl) (fun _ _ => rfl) (fun k hk => d3.1 k (fun e => hk (by rw [e]; decide)) (fun e => hk (by rw [e]; decide))) (fun c h1 h2 => d3.2.1 c (by omega) (by omega) (by omega)) d3.2.2.1
    · unfold MSh at hM ⊢
      rw [d3.2.1 1 (by decide) (by decide) (by decide), d3.2.1 2 (by decide) (by decide) (by decide), d3.2.1 3 (by decide) (by decide) (by decide), d3.2.1 4 (by decide) (by decide) (by decide), d3.2.1 7 (by decide) (by decide) (by decide), d3.2.1 6 (by decide) (by decide) (by decide), d3.2.1 23 (by decide) (by decide) (by decide)]
      exact ⟨hM.1, c5, hM.2.2⟩
    · unfold MS at hQ ⊢
      rw [d3.1 0 (by decide) (by decide), d3.1 38 (by decide) (by decide), d3.1 11 (by decide) (by decide), d3.2.1 1 (by decide) (by decide) (by decide), d3.2.1 2 (by decide) (by decide) (by decide), d3.2.1 3 (by decide) (by decide) (by decide), d3.2.1 4 (by decide) (by decide) (by decide), d3.2.1 7 (by decide) (by decide) (by decide), d3.2.1 6 (by decide) (by decide) (by decide), d3.2.1 23 (by decide) (by decide) (by decide)]
      exact ⟨⟨hQ.1.1, c3, c4, hQ.1.2.2.2.1, hQ.1.2.2.2.2⟩, hQ.2.1, fun p hp => c8 p hp, hQ.2.2.2⟩
    · show S.2.2.2.2.1 + (if S.2.2.2.1 = 11 then 1 else 0) ≤ 999
      split
      · omega
      · omega
    · have hq := hO.2.2.2.2.2.1 p hp
      have hcs := hg.2.2.2.2.2.2.1.2.2.2.2.1
      have hcl := hg.2.2.2.2.2.2.1.2.2.2.2.2
      have hde := clLast_lt (w := 1) (d := 10) hcs (by decide)
      have hb := day1_b (n := S.1) (pd := S.2.1) (cs := cs) (p := p) (e := clLast 1 10 cs) (s := (S.2.2.2.1, S.2.2.2.2.1, fun _ => 0, fun _ => 0, 0)) (B := 0) hn hcs hcl hde (by decide) hp (by show -0 ≤ (0 : Int32).toInt ∧ (0 : Int32).toInt ≤ 0; decide)
      have ed : (12 * ((S.2.2.2.2.1 + (if S.2.2.2.1 = 11 then 1 else 0) : Nat) : Int) + ((S.2.2.2.1 + 1) % 12 : Nat)) = 12 * (S.2.2.2.2.1 : Int) + S.2.2.2.1 + 1 := by
        split <;> omega
      show -(80000 * (12 * ((S.2.2.2.2.1 + (if S.2.2.2.1 = 11 then 1 else 0) : Nat) : Int) + ((S.2.2.2.1 + 1) % 12 : Nat))) ≤ (S.2.2.1 p + _).toInt ∧ (S.2.2.1 p + _).toInt ≤ 80000 * (12 * ((S.2.2.2.2.1 + (if S.2.2.2.1 = 11 then 1 else 0) : Nat) : Int) + ((S.2.2.2.1 + 1) % 12 : Nat))
      rw [ed, addI (by omega) (by omega)]
      omega
    · rw [d3.2.1 19 (by decide) (by decide) (by decide), d3.2.1 20 (by decide) (by decide) (by decide), d3.2.1 21 (by decide) (by decide) (by decide), d3.2.1 22 (by decide) (by decide) (by decide), d3.1 27 (by decide) (by decide)]
      exact hsc.2.2
    · rw [mI_wI, if_neg (by omega), mI_wI, if_neg (by omega)]; rfl
    · rw [mA_wI, mA_wI, mA_wA, if_neg (by omega)]
  unfold f_X6_day f_X7_day
  rw [e1, e3]
  by_cases c : S.2.2.2.1 = 11
  · rw [if_pos (show nI S.2.2.2.1 = (11 : Int32) from congrArg nI c), if_pos (show nI S.2.2.2.1 = (11 : Int32) from congrArg nI c), e2, e4]
    by_cases c2 : S.2.2.2.2.1 = 999
    · rw [if_neg (show ¬ nI S.2.2.2.2.1 < (999 : Int32) from (nI_nlt (by omega) (by omega) : ¬ nI S.2.2.2.2.1 < nI 999)), if_pos (show nI S.2.2.2.2.1 = (999 : Int32) from congrArg nI c2)]
      exact ⟨_, mx, mm, rfl, rfl, h⟩
    · rw [if_pos (show nI S.2.2.2.2.1 < (999 : Int32) from (nI_lt (by omega) (by decide) : nI S.2.2.2.2.1 < nI 999)), if_neg (show ¬ nI S.2.2.2.2.1 = (999 : Int32) from fun z => c2 ((nI_eq (by omega) (by decide)).mp (show nI S.2.2.2.2.1 = nI 999 from z)))]
      exact main (fun z => c2 z.2)
  · rw [if_neg (show ¬ nI S.2.2.2.1 = (11 : Int32) from fun z => c ((nI_eq (by omega) (by decide)).mp (show nI S.2.2.2.1 = nI 11 from z))), if_neg (show ¬ nI S.2.2.2.1 = (11 : Int32) from fun z => c ((nI_eq (by omega) (by decide)).mp (show nI S.2.2.2.1 = nI 11 from z)))]
    exact main (fun z => c z.1)
theorem in_g {m : mM} {p a b : Int32} : f_X7_in m p a b = some (if p < a then 0 else if b < p then 0 else 1, m) := by
  unfold f_X7_in
  split
  · rfl
  · split <;> rfl
/-- the bits of those born on y -/
def bO (pd : Nat → Nat → Nat) (y : Int32) : Nat → Int32
  | 0 => 0
  | k + 1 => if pd 4 k ≠ 0 ∧ nI (pd 2 k) = y then bO pd y k ||| (1 <<< (nI k &&& 31)) else bO pd y k
def pS (pu : Nat → Int32) : Nat → Int32
  | 0 => 0
  | k + 1 => pS pu k + pu k
theorem or0 {x : Int32} : x ||| 0 = x := Int32.or_zero
theorem x_bornOn {m : mM} {n : Nat} {pd : Nat → Nat → Nat} (h : PXr m 14 n pd) (y : Int32) : f_X6_bornOn m y = some (bO pd y n, m) := by
  unfold f_X6_bornOn
  have hn := h.2.2.1.1
  have h0 : mI m 896 = nI n := h.2.1
  have key := lp_upA (f := fun F m a i => f_X6_bornOn_4 F m y a i) (fb := fun K m a i => fb_X6_bornOn_4 (fun m _ a i => K m a i) m y a i) (fun _ _ _ _ => rfl) (n := n) (G := fun _ => m) (A := fun k => bO pd y k) (E := some (bO pd y n, m)) (fun k hk K => ?_) (fun K => ?_) n 0 1000 (by omega) (by omega)
  · exact key
  · obtain ⟨g1, g2, g3, g4, g5, g6⟩ := h.g hk
    obtain ⟨r1, r2, r3, r4, r5, r6⟩ := h.2.2.1.2 k hk
    show fb_X6_bornOn_4 _ _ _ _ _ = K m (if pd 4 k ≠ 0 ∧ nI (pd 2 k) = y then bO pd y k ||| (1 <<< (nI k &&& 31)) else bO pd y k) _
    unfold fb_X6_bornOn_4
    rw [h0, if_neg (nI_ge hk (by omega)), show gA (mA m 20) (nI k) = some (nI (pd 4 k)) from g5, Option.bind_some]
    by_cases c1 : pd 4 k = 0
    · rw [if_pos ((nI_z (by omega)).mpr c1), if_neg (fun z => z.1 c1), nI_1]
    · rw [if_neg (fun z => c1 ((nI_z (by omega)).mp z)), show gA (mA m 17) (nI k) = some (nI (pd 2 k)) from g3, Option.bind_some]
      by_cases c2 : nI (pd 2 k) = y
      · rw [if_pos c2, if_pos ⟨c1, c2⟩, nmI_eq, nI_1]
      · rw [if_neg c2, if_neg (fun z => c2 z.2), nI_1]
  · show fb_X6_bornOn_4 _ _ _ _ _ = _
    unfold fb_X6_bornOn_4
    rw [h0, if_pos (nI_le (Nat.le_refl _) (by omega))]
theorem m_bornOn {m : mM} {n : Nat} {pd : Nat → Nat → Nat} (h : PMr m n pd) (y : Int32) : f_X7_bornOn m y = some (bO pd y n, m) := by
  unfold f_X7_bornOn
  have hn := h.2.1.1
  have key := lp_upA (f := fun F m a i => f_X7_bornOn_4 F m y a i) (fb := fun K m a i => fb_X7_bornOn_4 (fun m _ a i => K m a i) m y a i) (fun _ _ _ _ => rfl) (n := n) (G := fun _ => m) (A := fun k => bO pd y k) (E := some (bO pd y n, m)) (fun k hk K => ?_) (fun K => ?_) n 0 1000 (by omega) (by omega)
  · exact key
  · obtain ⟨g1, g2, g3, g4, g5, g6⟩ := h.g hk
    obtain ⟨r1, r2, r3, r4, r5, r6⟩ := h.2.1.2 k hk
    show fb_X7_bornOn_4 _ _ _ _ _ = K m (if pd 4 k ≠ 0 ∧ nI (pd 2 k) = y then bO pd y k ||| (1 <<< (nI k &&& 31)) else bO pd y k) _
    unfold fb_X7_bornOn_4
    rw [h.1, if_neg (nI_ge hk (by omega)), g5, Option.bind_some]
    by_cases c1 : pd 4 k = 0
    · rw [if_pos ((nI_z (by omega)).mpr c1), if_neg (fun z => z.1 c1), nI_1, nmI_eq, or0]
    · rw [if_neg (fun z => c1 ((nI_z (by omega)).mp z)), g3, Option.bind_some]
      by_cases c2 : nI (pd 2 k) = y
      · rw [if_pos c2, if_pos ⟨c1, c2⟩, nmI_eq, nI_1]
      · rw [if_neg c2, if_neg (fun z => c2 z.2), nI_1, nmI_eq, or0]
  · show fb_X7_bornOn_4 _ _ _ _ _ = _
    unfold fb_X7_bornOn_4
    rw [h.1, if_pos (nI_le (Nat.le_refl _) (by omega))]
theorem x_allPurses {m : mM} {n : Nat} {pu : Nat → Int32} (hn : n ≤ 7) (h0 : mI m 896 = nI n) (hl : (mA m 19).length = 7) (hp : ∀ p, p < n → (mA m 19).getD p 0 = pu p) : f_X6_allPurses m = some (pS pu n, m) := by
  unfold f_X6_allPurses
  have key := lp_upA (f := fun F m a i => f_X6_allPurses_4 F m a i) (fb := fun K m a i => fb_X6_allPurses_4 (fun m a i => K m a i) m a i) (fun _ _ _ _ => rfl) (n := n) (G := fun _ => m) (A := fun k => pS pu k) (E := some (pS pu n, m)) (fun k hk K => ?_) (fun K => ?_) n 0 1000 (by omega) (by omega)
  · exact key
  · show fb_X6_allPurses_4 _ _ _ _ = K m (pS pu k + pu k) _
    unfold fb_X6_allPurses_4
    rw [h0, if_neg (nI_ge hk (by omega)), gA_at (by omega) (by omega), hp k hk, Option.bind_some, nmI_eq, nI_1]
  · show fb_X6_allPurses_4 _ _ _ _ = _
    unfold fb_X6_allPurses_4
    rw [h0, if_pos (nI_le (Nat.le_refl _) (by omega))]
theorem m_allPurses {m : mM} {n : Nat} {pu : Nat → Int32} (hn : n ≤ 7) (h0 : mI m 0 = nI n) (hl : (mA m 5).length = 7) (hp : ∀ p, p < n → (mA m 5).getD p 0 = pu p) : f_X7_allPurses m = some (pS pu n, m) := by
  unfold f_X7_allPurses
  have key := lp_upA (f := fun F m a i => f_X7_allPurses_4 F m a i) (fb := fun K m a i => fb_X7_allPurses_4 (fun m a i => K m a i) m a i) (fun _ _ _ _ => rfl) (n := n) (G := fun _ => m) (A := fun k => pS pu k) (E := some (pS pu n, m)) (fun k hk K => ?_) (fun K => ?_) n 0 1000 (by omega) (by omega)
  · exact key
  · show fb_X7_allPurses_4 _ _ _ _ = K m (pS pu k + pu k) _
    unfold fb_X7_allPurses_4
    rw [h0, if_neg (nI_ge hk (by omega)), gA_at (by omega) (by omega), hp k hk, Option.bind_some, nmI_eq, nI_1]
  · show fb_X7_allPurses_4 _ _ _ _ = _
    unfold fb_X7_allPurses_4
    rw [h0, if_pos (nI_le (Nat.le_refl _) (by omega))]
/-- the reference's bits of those that sell on y -/
def sO (n : Nat) (pd : Nat → Nat → Nat) (yr fe : Nat) (y : Int32) : Nat → Int32
  | 0 => 0
  | k + 1 => if pd 4 k ≠ 0 ∧ nI (selD n pd yr fe k) = y then sO n pd yr fe y k ||| (1 <<< (nI k &&& 31)) else sO n pd yr fe y k
theorem m_sellOn {m : mM} {n tw yr : Nat} {pd : Nat → Nat → Nat} {cs : List CL} (h : PT m n pd tw cs) (hy : mI m 2 = nI yr) (hy2 : yr < 2 ^ 31) (y : Int32) : f_X7_sellOn m y = some (sO n pd yr (clLast 3 99 cs) y n, m) := by
  unfold f_X7_sellOn
  have hn := h.1.2.1.1
  have key := lp_upA (f := fun F m a i => f_X7_sellOn_4 F m y a i) (fb := fun K m a i => fb_X7_sellOn_4 (fun m _ a i => K m a i) m y a i) (fun _ _ _ _ => rfl) (n := n) (G := fun _ => m) (A := fun k => sO n pd yr (clLast 3 99 cs) y k) (E := some (sO n pd yr (clLast 3 99 cs) y n, m)) (fun k hk K => ?_) (fun K => ?_) n 0 1000 (by omega) (by omega)
  · exact key
  · obtain ⟨g1, g2, g3, g4, g5, g6⟩ := h.1.g hk
    obtain ⟨r1, r2, r3, r4, r5, r6⟩ := h.1.2.1.2 k hk
    show fb_X7_sellOn_4 _ _ _ _ _ = K m (if pd 4 k ≠ 0 ∧ nI (selD n pd yr (clLast 3 99 cs) k) = y then sO n pd yr (clLast 3 99 cs) y k ||| (1 <<< (nI k &&& 31)) else sO n pd yr (clLast 3 99 cs) y k) _
    unfold fb_X7_sellOn_4
    rw [h.1.1, if_neg (nI_ge hk (by omega)), g5, Option.bind_some]
    by_cases c1 : pd 4 k = 0
    · rw [if_pos ((nI_z (by omega)).mpr c1), if_neg (fun z => z.1 c1), nI_1, nmI_eq, or0]
    · rw [if_neg (fun z => c1 ((nI_z (by omega)).mp z)), m_sells h hk hy hy2, bnd_some]
      by_cases c2 : nI (selD n pd yr (clLast 3 99 cs) k) = y
      · rw [if_pos c2, if_pos ⟨c1, c2⟩, nmI_eq, nI_1]
      · rw [if_neg c2, if_neg (fun z => c2 z.2), nI_1, nmI_eq, or0]
  · show fb_X7_sellOn_4 _ _ _ _ _ = _
    unfold fb_X7_sellOn_4
    rw [h.1.1, if_pos (nI_le (Nat.le_refl _) (by omega))]
/-- the class's bits: it answers, whatever -/
theorem x_sellingOn {W : Nat} {S : SS} {cs : List CL} (h : RG mx mm W S cs) (y : Int32) : ∃ r m', f_X6_sellingOn mx y = some (r, m') ∧ FSX mx m' := by
  unfold f_X6_sellingOn
  have htw := h.tw
  have hn := h.2.1.1.1
  obtain ⟨m1, s1, s2, s3, s4⟩ := h.start (due := nI (clLast 1 10 cs))
  rw [chR_t htw.1, htw.2.1, s1, bnd_some]
  obtain ⟨⟨a1, a2, a3, a4, a5, a6, a7, a8, a9, a10, a11, a12⟩, a13⟩ := s2
  have h0 : mI m1 896 = nI S.1 := a1.2.1
  have main : ∀ (j k : Nat) (v : Int32) (F : Nat), k + j = S.1 → j < F → ∃ r, f_X6_sellingOn_25 F m1 y v (nI k) = some (r, m1) := by
    intro j
    induction j with
    | zero =>
      intro k v F hk hF
      obtain ⟨F', rfl⟩ : ∃ F', F = F' + 1 := ⟨F - 1, by omega⟩
      show ∃ r, fb_X6_sellingOn_25 _ _ _ _ _ = _
      unfold fb_X6_sellingOn_25
      rw [h0, if_pos (nI_le (by omega) (by omega))]; exact ⟨v, rfl⟩
    | succ j ih =>
      intro k v F hk hF
      obtain ⟨F', rfl⟩ : ∃ F', F = F' + 1 := ⟨F - 1, by omega⟩
      show ∃ r, fb_X6_sellingOn_25 _ _ _ _ _ = _
      unfold fb_X6_sellingOn_25
      rw [h0, if_neg (nI_ge (by omega) (by omega)), gA_at (by omega) (by omega), Option.bind_some, nI_1, nmI_eq]
      split
      · exact ih (k + 1) _ F' (by omega) (by omega)
      · exact ih (k + 1) _ F' (by omega) (by omega)
  obtain ⟨r, hr⟩ := main S.1 0 0 1000 (by omega) (by omega)
  exact ⟨r, m1, hr, s4⟩
theorem op_told_t (h : RR mx mm) (p : Int32) : OPt (f_X6_told mx p) (f_X7_told mm p) ∧ (p < 30 ∨ 41 < p → OPe (f_X6_told mx p) (f_X7_told mm p)) := by
  obtain ⟨W, S, hr⟩ := id h
  obtain ⟨cs, hg⟩ := RRs.rg hr
  have hn := hg.2.1.1.1
  obtain ⟨hX, hS, hM, hQ⟩ := id hg.1
  have hmr := hg.mr
  have htw := hg.tw
  have i10 : (10 : Int32).toInt = 10 := by decide
  have i21 : (21 : Int32).toInt = 21 := by decide
  have i22 : (22 : Int32).toInt = 22 := by decide
  have i30 : (30 : Int32).toInt = 30 := by decide
  have i41 : (41 : Int32).toInt = 41 := by decide
  have i42 : (42 : Int32).toInt = 42 := by decide
  have wk : ∀ {a b : fR Int32}, OPe a b → OPt a b := fun ⟨r, m1, m2, e1, e2, e3⟩ => ⟨r, r, m1, m2, e1, e2, e3⟩
  have small : OPe (f_X6_told_42 mx p) (if p = 0 then bnd (f_X7_dueNow mm) fun (x8 : Int32) (m9 : mM) => some (x8, m9) else if p = 1 then bnd (f_X7_lastOf mm 2 1) fun (x11 : Int32) (m12 : mM) => some (x11, m12) else if p = 2 then bnd (f_X7_lastOf mm 3 99) fun (x14 : Int32) (m15 : mM) => some (x14, m15) else if p = 3 then some ((mI mm 1), mm) else if p = 4 then some ((mI mm 2), mm) else if p = 5 then bnd (f_X7_allPurses mm) fun (x17 : Int32) (m18 : mM) => some (x17, m18) else some ((-10000001), mm)) := by
    unfold f_X6_told_42
    by_cases c0 : p = 0
    · rw [if_pos c0, if_pos c0, chR_t htw.1, htw.2.1, m_due hmr.1.2 hmr.2.1, bnd_some]; exact ⟨_, mx, mm, rfl, rfl, h⟩
    rw [if_neg c0, if_neg c0]
    by_cases c1 : p = 1
    · rw [if_pos c1, if_pos c1, chR_t htw.1, htw.2.2.1, show (2 : Int32) = nI 2 from rfl, show (1 : Int32) = nI 1 from rfl, m_lastOf hmr.1.2 (by decide), bnd_some]; exact ⟨_, mx, mm, rfl, rfl, h⟩
    rw [if_neg c1, if_neg c1]
    by_cases c2 : p = 2
    · rw [if_pos c2, if_pos c2, chR_t htw.1, htw.2.2.2, show (3 : Int32) = nI 3 from rfl, show (99 : Int32) = nI 99 from rfl, m_lastOf hmr.1.2 (by decide), bnd_some]; exact ⟨_, mx, mm, rfl, rfl, h⟩
    rw [if_neg c2, if_neg c2]
    by_cases c3 : p = 3
    · rw [if_pos c3, if_pos c3, hQ.1.2.1, show mI mx 897 = nI S.2.2.2.1 from hS.1.2.1]; exact ⟨_, mx, mm, rfl, rfl, h⟩
    rw [if_neg c3, if_neg c3]
    by_cases c4 : p = 4
    · rw [if_pos c4, if_pos c4, hQ.1.2.2.1, show mI mx 898 = nI S.2.2.2.2.1 from hS.1.2.2.1]; exact ⟨_, mx, mm, rfl, rfl, h⟩
    rw [if_neg c4, if_neg c4]
    by_cases c5 : p = 5
    · rw [if_pos c5, if_pos c5, x_allPurses hn hS.1.1 hX.2.1 hS.2.2.1, m_allPurses hn hQ.1.1 hM.2.1 hQ.2.2.1, bnd_some, bnd_some]; exact ⟨_, mx, mm, rfl, rfl, h⟩
    rw [if_neg c5, if_neg c5]
    exact ⟨_, mx, mm, rfl, rfl, h⟩
  unfold f_X6_told f_X7_told
  rw [in_g, bnd_some, in_g, bnd_some]
  by_cases c1 : p < 10
  · have k1 : p < 30 := by rw [Int32.lt_iff_toInt_lt] at c1 ⊢; omega
    rw [if_pos c1, if_pos c1, if_pos rfl]
    unfold f_X6_told_21
    rw [if_pos k1, if_pos k1, if_pos rfl]
    exact ⟨wk small, fun _ => small⟩
  rw [if_neg c1, if_neg c1]
  by_cases c2 : 22 ≤ p
  · have k2 : 21 < p := by rw [Int32.lt_iff_toInt_lt]; rw [Int32.le_iff_toInt_le] at c2; omega
    rw [if_pos c2, if_pos k2, if_pos rfl]
    unfold f_X6_told_21
    by_cases c3 : p < 30
    · rw [if_pos c3, if_pos c3, if_pos rfl]
      exact ⟨wk small, fun _ => small⟩
    rw [if_neg c3, if_neg c3]
    by_cases c4 : 42 ≤ p
    · have k4 : 41 < p := by rw [Int32.lt_iff_toInt_lt]; rw [Int32.le_iff_toInt_le] at c4; omega
      rw [if_pos c4, if_pos k4, if_pos rfl]
      exact ⟨wk small, fun _ => small⟩
    have k4 : ¬ 41 < p := by rw [Int32.lt_iff_toInt_lt]; rw [Int32.le_iff_toInt_le] at c4; omega
    rw [if_neg c4, if_neg k4, if_neg (show ¬ (1 : Int32) = 0 by decide)]
    obtain ⟨r, m', q1, q2⟩ := x_sellingOn hg (p - 30)
    rw [q1, bnd_some, m_sellOn hmr.1 hmr.2.2.2.1 (by have := hmr.2.2.2.2.2.1; omega), bnd_some]
    exact ⟨⟨r, _, m', mm, rfl, rfl, h.frS q2 (FSM.rfl hg.2.2.2.2.1)⟩, fun z => by rcases z with z | z; exact absurd z c3; exact absurd z k4⟩
  · have k2 : ¬ 21 < p := by rw [Int32.lt_iff_toInt_lt]; rw [Int32.le_iff_toInt_le] at c2; omega
    rw [if_neg c2, if_neg k2, if_neg (show ¬ (1 : Int32) = 0 by decide), x_bornOn hg.2.2.2.2.2.1, m_bornOn hmr.1.1, bnd_some, bnd_some]
    exact ⟨⟨_, _, mx, mm, rfl, rfl, h⟩, fun _ => ⟨_, mx, mm, rfl, rfl, h⟩⟩
end OPS5
end
-- 22v.ops6.lean.txt
section
/-! OPERATIONS: of, quiet -/
section OPS6
variable {mx mm : mM}
theorem op_of (h : RR mx mm) (p q : Int32) : OPe (f_X6_of mx p q) (f_X7_of mm p q) := by
  obtain ⟨W, S, hr⟩ := id h
  obtain ⟨cs, hg⟩ := RRs.rg hr
  unfold f_X6_of f_X7_of
  rw [hg.per.1, hg.per.2, bnd_some, bnd_some]
  cases hp : inR S.1 p with
  | false => exact ⟨_, mx, mm, rfl, rfl, h⟩
  | true =>
    have hn := hg.2.1.1.1
    obtain ⟨k, hk, rfl⟩ := inR_t (by omega) hp
    have hmr := hg.mr
    have htw := hg.tw
    have hyr : S.2.2.2.2.1 < 2 ^ 31 := by have := hg.2.1.2.2.1; omega
    obtain ⟨m1, s1, s2, s3, s4⟩ := hg.start (due := nI (clLast 1 10 cs))
    have fin := h.frS s4 (FSM.rfl hg.2.2.2.2.1)
    obtain ⟨⟨a1, a2, a3, a4, a5, a6, a7, a8, a9, a10, a11, a12⟩, a13⟩ := id s2
    have hsl := sel_lt (y := S.2.2.2.2.1) (fs := clLast 3 99 cs) a1.2.2.1 hk
    have e44 : (mA m1 44).getD k 0 = nI (selD S.1 S.2.1 S.2.2.2.2.1 (clLast 3 99 cs) k) := a13 k hk
    rw [zB_t, if_neg i0, if_neg i0, chR_t htw.1, htw.2.1, s1, bnd_some, gA_at (by omega) (by omega), e44, Option.bind_some]
    obtain ⟨g1, g2, g3, g4, g5, g6⟩ := a1.g hk
    obtain ⟨t1, t2, t3, t4, t5, t6⟩ := hmr.1.1.g hk
    obtain ⟨r1, r2, r3, r4, r5, r6⟩ := a1.2.2.1.2 k hk
    by_cases c0 : q = 0
    · rw [if_pos c0, if_pos c0, show gA (mA m1 15) (nI k) = _ from g1, t1, Option.bind_some, Option.bind_some]; exact ⟨_, m1, mm, rfl, rfl, fin⟩
    rw [if_neg c0, if_neg c0]
    by_cases c1 : q = 1
    · rw [if_pos c1, if_pos c1, show gA (mA m1 16) (nI k) = _ from g2, t2, Option.bind_some, Option.bind_some]; exact ⟨_, m1, mm, rfl, rfl, fin⟩
    rw [if_neg c1, if_neg c1]
    by_cases c2 : q = 2
    · rw [if_pos c2, if_pos c2, show gA (mA m1 17) (nI k) = _ from g3, t3, Option.bind_some, Option.bind_some]; exact ⟨_, m1, mm, rfl, rfl, fin⟩
    rw [if_neg c2, if_neg c2]
    by_cases c3 : q = 3
    · rw [if_pos c3, if_pos c3, show gA (mA m1 18) (nI k) = _ from g4, t4, Option.bind_some, Option.bind_some]; exact ⟨_, m1, mm, rfl, rfl, fin⟩
    rw [if_neg c3, if_neg c3]
    by_cases c4 : q = 4
    · rw [if_pos c4, if_pos c4, show gA (mA m1 20) (nI k) = _ from g5, t5, Option.bind_some, Option.bind_some]
      split
      · exact ⟨_, m1, mm, rfl, rfl, fin⟩
      · exact ⟨_, m1, mm, rfl, rfl, fin⟩
    rw [if_neg c4, if_neg c4]
    by_cases c5 : q = 5
    · rw [if_pos c5, if_pos c5, m_sells hmr.1 hk hmr.2.2.2.1 hyr, bnd_some]; exact ⟨_, m1, mm, rfl, rfl, fin⟩
    rw [if_neg c5, if_neg c5]
    by_cases c6 : q = 6
    · rw [if_pos c6, if_pos c6, m_putOff hmr.1 hk hmr.2.2.2.1 hyr, bnd_some, x_putOff s2 hk, bnd_some]; exact ⟨_, m1, mm, rfl, rfl, fin⟩
    rw [if_neg c6, if_neg c6]
    by_cases c7 : q = 7
    · obtain ⟨l, hl, ht⟩ := m_takes hmr.1 hmr.2.2.2.2.2.2.2.2.1 hk hsl hmr.2.2.2.1 hyr
      rw [if_pos c7, if_pos c7, m_sells hmr.1 hk hmr.2.2.2.1 hyr, bnd_some, ht, bnd_some, x_takes a1 a3 a4 a7 hyr hk hsl a2, bnd_some]
      refine ⟨_, m1, wA mm 17 l, rfl, rfl, h.frS s4 ⟨fun _ _ _ _ _ => rfl, fun c hc => by rw [mA_wA, if_neg (by omega)], fun _ => rfl, fun _ => rfl, ?_⟩⟩
      obtain ⟨z1, z2, z3, z4, z5, z6, z7⟩ := hg.2.2.2.2.1
      exact ⟨hl, z2, z3, z4, z5, z6, z7⟩
    rw [if_neg c7, if_neg c7]
    by_cases c8 : q = 8
    · rw [if_pos c8, if_pos c8, gA_at (by rw [s3.2.1 19 (by decide), hg.1.1.2.1]; omega) (by omega), s3.2.1 19 (by decide), show (mA mx 19).getD k 0 = S.2.2.1 k from hg.1.2.1.2.2.1 k hk, gA_at (by rw [hmr.2.2.2.2.2.2.1]; omega) (by omega), hmr.2.2.2.2.2.2.2.1 k hk, Option.bind_some, Option.bind_some]; exact ⟨_, m1, mm, rfl, rfl, fin⟩
    rw [if_neg c8, if_neg c8]
    exact ⟨_, m1, mm, rfl, rfl, fin⟩
/-! quiet: bits -/
theorem bit_at : ∀ d, d < 12 → ∀ i, i < 32 → (((1 : Int32) <<< (nI d &&& 31)).toBitVec.getLsbD i = decide (i = d)) := by decide
theorem bit_inv {d i : Nat} (hd : d < 12) (hi : i < 32) : (((1 : Int32) <<< (nI d &&& 31)) ^^^ (-1)).toBitVec.getLsbD i = decide (¬ i = d) := by
  rw [Int32.toBitVec_xor, BitVec.getLsbD_xor, bit_at d hd i hi]
  have : (-1 : Int32).toBitVec.getLsbD i = true := by
    show (BitVec.allOnes 32).getLsbD i = true
    rw [BitVec.getLsbD_allOnes]; simp [hi]
  rw [this]
  by_cases e : i = d <;> simp [e]
theorem b4095 : ∀ i, i < 32 → (4095 : Int32).toBitVec.getLsbD i = decide (i < 12) := by decide
theorem sO_bit {n yr fe : Nat} {pd : Nat → Nat → Nat} {y : Int32} : ∀ {k : Nat}, k ≤ 7 → ∀ i, i < 32 → (sO n pd yr fe y k).toBitVec.getLsbD i = decide (i < k ∧ pd 4 i ≠ 0 ∧ nI (selD n pd yr fe i) = y)
  | 0, _, i, _ => by
    show (0#32).getLsbD i = _
    simp
  | k + 1, hk, i, hi => by
    have ih := sO_bit (n := n) (yr := yr) (fe := fe) (pd := pd) (y := y) (k := k) (by omega) i hi
    unfold sO
    split
    · rename_i z
      rw [Int32.toBitVec_or, BitVec.getLsbD_or, ih, bit_at k (by omega) i hi]
      by_cases e : i = k
      · subst e; simp; exact z
      · by_cases e2 : i < k
        · simp [e, e2, show i < k + 1 by omega]
        · simp [e, e2]; intro; omega
    · rename_i z
      rw [ih]
      by_cases e : i = k
      · subst e; simp; exact fun a b => z ⟨a, b⟩
      · by_cases e2 : i < k
        · simp [e2, show i < k + 1 by omega]
        · simp [e2]; intro; omega
theorem z_bits {x : Int32} : (x = 0) ↔ ∀ i, i < 32 → x.toBitVec.getLsbD i = false := by
  constructor
  · rintro rfl i _
    show (0#32).getLsbD i = false
    simp
  · intro h
    apply Int32.toBitVec_inj.mp
    apply BitVec.eq_of_getLsbD_eq
    intro i hi
    rw [h i hi]
    show _ = (0#32).getLsbD i
    simp
/-- nobody sells on d -/
def nSl (n : Nat) (pd : Nat → Nat → Nat) (yr fe d k : Nat) : Prop := ∀ p, p < k → ¬ (pd 4 p ≠ 0 ∧ selD n pd yr fe p = d)
theorem sO_0 {n yr fe d : Nat} {pd : Nat → Nat → Nat} (h : PDr n pd) (hd : d < 12) : (sO n pd yr fe (nI d) n = 0) ↔ nSl n pd yr fe d n := by
  have hn := h.1
  rw [z_bits]
  constructor
  · intro z p hp w
    have := z p (by omega)
    rw [sO_bit (by omega) p (by omega)] at this
    exact (of_decide_eq_false this) ⟨hp, w.1, congrArg nI w.2⟩
  · intro z i hi
    rw [sO_bit (by omega) i hi]
    apply decide_eq_false
    rintro ⟨w1, w2, w3⟩
    have := sel_lt (y := yr) (fs := fe) h w1
    exact z i w1 ⟨w2, (nI_eq (by omega) (by omega)).mp w3⟩
theorem ext_bits {x y : Int32} (h : ∀ i, i < 32 → x.toBitVec.getLsbD i = y.toBitVec.getLsbD i) : x = y := by
  apply Int32.toBitVec_inj.mp
  apply BitVec.eq_of_getLsbD_eq
  exact h
theorem op_quiet (h : RR mx mm) : OPe (f_X6_quiet mx) (f_X7_quiet mm) := by
  obtain ⟨W, S, hr⟩ := id h
  obtain ⟨cs, hg⟩ := RRs.rg hr
  have hn := hg.2.1.1.1
  have hmr := hg.mr
  have htw := hg.tw
  have hyr : S.2.2.2.2.1 < 2 ^ 31 := by have := hg.2.1.2.2.1; omega
  obtain ⟨m1, s1, s2, s3, s4⟩ := hg.start (due := nI (clLast 1 10 cs))
  obtain ⟨⟨a1, a2, a3, a4, a5, a6, a7, a8, a9, a10, a11, a12⟩, a13⟩ := id s2
  have hpd := a1.2.2.1
  have h0 : mI m1 896 = nI S.1 := a1.2.1
  unfold f_X6_quiet f_X7_quiet
  rw [chR_t htw.1, htw.2.1, s1, bnd_some]
  have xm : ∀ (j k : Nat) (v : Int32) (F : Nat), k + j = S.1 → j < F → (∀ i, i < 32 → (v.toBitVec.getLsbD i = true ↔ i < 12 ∧ nSl S.1 S.2.1 S.2.2.2.2.1 (clLast 3 99 cs) i k)) → ∃ r, f_X6_quiet_27 F m1 v (nI k) = some (r, m1) ∧ ∀ i, i < 32 → (r.toBitVec.getLsbD i = true ↔ i < 12 ∧ nSl S.1 S.2.1 S.2.2.2.2.1 (clLast 3 99 cs) i S.1) := by
    intro j
    induction j with
    | zero =>
      intro k v F hk hF hv
      obtain ⟨F', rfl⟩ : ∃ F', F = F' + 1 := ⟨F - 1, by omega⟩
      obtain rfl : k = S.1 := by omega
      refine ⟨v, ?_, hv⟩
      show fb_X6_quiet_27 _ _ _ _ = _
      unfold fb_X6_quiet_27
      rw [h0, if_pos (nI_le (Nat.le_refl _) (by omega))]
    | succ j ih =>
      intro k v F hk hF hv
      obtain ⟨F', rfl⟩ : ∃ F', F = F' + 1 := ⟨F - 1, by omega⟩
      have hkn : k < S.1 := by omega
      obtain ⟨r1, r2, r3, r4, r5, r6⟩ := hpd.2 k hkn
      have hsl := sel_lt (y := S.2.2.2.2.1) (fs := clLast 3 99 cs) hpd hkn
      have e44 : (mA m1 44).getD k 0 = nI (selD S.1 S.2.1 S.2.2.2.2.1 (clLast 3 99 cs) k) := a13 k hkn
      show ∃ r, fb_X6_quiet_27 _ _ _ _ = _ ∧ _
      unfold fb_X6_quiet_27
      rw [h0, if_neg (nI_ge hkn (by omega)), show gA (mA m1 20) (nI k) = _ from (a1.g hkn).2.2.2.2.1, Option.bind_some]
      by_cases c : S.2.1 4 k = 0
      · rw [if_pos ((nI_z (by omega)).mpr c), nI_1]
        refine ih (k + 1) v F' (by omega) (by omega) (fun i hi => ?_)
        rw [hv i hi]
        refine and_congr Iff.rfl ⟨fun z p hp w => ?_, fun z p hp => z p (by omega)⟩
        by_cases e : p = k
        · subst e; exact w.1 c
        · exact z p (by omega) w
      · rw [if_neg (fun z => c ((nI_z (by omega)).mp z)), gA_at (by omega) (by omega), e44, Option.bind_some, nmI_eq, nI_1]
        refine ih (k + 1) _ F' (by omega) (by omega) (fun i hi => ?_)
        rw [Int32.toBitVec_and, BitVec.getLsbD_and, bit_inv hsl hi, Bool.and_eq_true, hv i hi, decide_eq_true_eq]
        constructor
        · rintro ⟨⟨w1, w2⟩, w3⟩
          refine ⟨w1, fun p hp w => ?_⟩
          by_cases e : p = k
          · subst e; exact w3 w.2.symm
          · exact w2 p (by omega) w
        · rintro ⟨w1, w2⟩
          exact ⟨⟨w1, fun p hp => w2 p (by omega)⟩, fun z => w2 k (by omega) ⟨c, z.symm⟩⟩
  have mmn : ∀ (j k : Nat) (v : Int32) (F : Nat), k + j = 12 → j < F → (∀ i, i < 32 → (v.toBitVec.getLsbD i = true ↔ i < k ∧ nSl S.1 S.2.1 S.2.2.2.2.1 (clLast 3 99 cs) i S.1)) → ∃ r, f_X7_quiet_4 F mm v (nI k) = some (r, mm) ∧ ∀ i, i < 32 → (r.toBitVec.getLsbD i = true ↔ i < 12 ∧ nSl S.1 S.2.1 S.2.2.2.2.1 (clLast 3 99 cs) i S.1) := by
    intro j
    induction j with
    | zero =>
      intro k v F hk hF hv
      obtain ⟨F', rfl⟩ : ∃ F', F = F' + 1 := ⟨F - 1, by omega⟩
      obtain rfl : k = 12 := by omega
      refine ⟨v, ?_, hv⟩
      show fb_X7_quiet_4 _ _ _ _ = _
      unfold fb_X7_quiet_4
      rw [if_pos (show (12 : Int32) ≤ nI 12 by decide)]
    | succ j ih =>
      intro k v F hk hF hv
      obtain ⟨F', rfl⟩ : ∃ F', F = F' + 1 := ⟨F - 1, by omega⟩
      show ∃ r, fb_X7_quiet_4 _ _ _ _ = _ ∧ _
      unfold fb_X7_quiet_4
      rw [if_neg (show ¬ (12 : Int32) ≤ nI k from (nI_ge (by omega) (by decide) : ¬ nI 12 ≤ nI k)), m_sellOn hmr.1 hmr.2.2.2.1 hyr, bnd_some]
      by_cases c : nSl S.1 S.2.1 S.2.2.2.2.1 (clLast 3 99 cs) k S.1
      · rw [if_pos ((sO_0 hpd (by omega)).mpr c), nmI_eq, nI_1]
        refine ih (k + 1) _ F' (by omega) (by omega) (fun i hi => ?_)
        rw [Int32.toBitVec_or, BitVec.getLsbD_or, bit_at k (by omega) i hi, Bool.or_eq_true, hv i hi, decide_eq_true_eq]
        constructor
        · rintro (⟨w1, w2⟩ | rfl)
          · exact ⟨by omega, w2⟩
          · exact ⟨by omega, c⟩
        · rintro ⟨w1, w2⟩
          by_cases e : i = k
          · exact Or.inr e
          · exact Or.inl ⟨by omega, w2⟩
      · rw [if_neg (fun z => c ((sO_0 hpd (by omega)).mp z)), nmI_eq, or0, nI_1]
        refine ih (k + 1) _ F' (by omega) (by omega) (fun i hi => ?_)
        rw [hv i hi]
        constructor
        · rintro ⟨w1, w2⟩; exact ⟨by omega, w2⟩
        · rintro ⟨w1, w2⟩
          by_cases e : i = k
          · subst e; exact absurd w2 c
          · exact ⟨by omega, w2⟩
  obtain ⟨r, r1, r2⟩ := xm S.1 0 4095 1000 (by omega) (by omega) (fun i hi => by
    rw [b4095 i hi, decide_eq_true_eq]
    exact ⟨fun z => ⟨z, fun p hp => absurd hp (Nat.not_lt_zero p)⟩, fun z => z.1⟩)
  obtain ⟨r', q1, q2⟩ := mmn 12 0 0 1000 (by omega) (by omega) (fun i hi => by
    show (0#32).getLsbD i = true ↔ _
    simp)
  have e : r = r' := ext_bits (fun i hi => by
    have a := r2 i hi
    have b := q2 i hi
    rw [Bool.eq_iff_iff, a, b])
  rw [show (f_X6_quiet_27 1000 m1 4095 0) = _ from r1, show (f_X7_quiet_4 1000 mm 0 0) = _ from q1, e]
  exact ⟨_, m1, mm, rfl, rfl, h.frS s4 (FSM.rfl hg.2.2.2.2.1)⟩
end OPS6
end
-- 22w.best.lean.txt
section
/-! THE BEST DAY OF TWELVE: tryDays and layBest -/
section BEST
/-- the first that is most, and what it is -/
def bst (v : Nat → Int32) : Nat → Nat × Int32
  | 0 => (0, v 0)
  | k + 1 => if (bst v k).2 < v k then (k, v k) else bst v k
theorem bst_le {v : Nat → Int32} : ∀ k, (bst v k).1 ≤ k
  | 0 => Nat.le_refl _
  | k + 1 => by
    have := bst_le (v := v) k
    unfold bst
    split
    · exact Nat.le_succ k
    · omega
theorem bst_v {v : Nat → Int32} : ∀ k, (bst v k).2 = v (bst v k).1
  | 0 => rfl
  | k + 1 => by
    unfold bst
    split
    · rfl
    · exact bst_v k
theorem bst_1 {v : Nat → Int32} : bst v 1 = (0, v 0) := by
  exact if_neg (fun z : v 0 < v 0 => by rw [Int32.lt_iff_toInt_lt] at z; omega)
theorem bst_lt {v : Nat → Int32} : ∀ k, 0 < k → (bst v k).1 < k
  | 0, h => absurd h (Nat.lt_irrefl 0)
  | k + 1, _ => by
    have := bst_le (v := v) k
    unfold bst
    split
    · exact Nat.lt_succ_self k
    · show (bst v k).1 < k + 1; omega
theorem pdu_pdu {pd : Nat → Nat → Nat} {f p a b : Nat} : pdu (pdu pd f p a) f p b = pdu pd f p b := by
  funext f' p'
  unfold pdu
  split
  · rfl
  · rfl
theorem pdu_self {pd : Nat → Nat → Nat} {f p : Nat} : pdu pd f p (pd f p) = pd := by
  funext f' p'
  unfold pdu
  split
  · rename_i z; rw [z.1, z.2]
  · rfl
theorem set_self {l : List Int32} {p : Nat} : l.set p (l.getD p 0) = l := by
  refine lext (n := l.length) (by rw [List.length_set]) rfl (fun i hi => ?_)
  rw [gd_set]
  by_cases e : p = i
  · subst e; rw [if_pos ⟨rfl, hi⟩]
  · rw [if_neg (fun z => e z.1)]
/-- what a day x for p would give it -/
def vB (n : Nat) (pd : Nat → Nat → Nat) (cs : List CL) (due : Int32) (dt yr f p : Nat) : Nat → Int32 := fun x => gY n (pdu pd f p x) cs due dt yr p
section M
variable {m : mM} {n : Nat} {pd : Nat → Nat → Nat} {tw : Nat} {cs : List CL} {due : Int32} {pu : Nat → Int32} {dt yr : Nat}
theorem MR.set {c f p x : Nat} (h : MR m n pd tw cs due pu dt yr) (hc : (c = 4 ∧ f = 3) ∨ (c = 3 ∧ f = 2)) (hp : p < n) (hx : x < 12) : MR (wA m c ((mA m c).set p (nI x))) n (pdu pd f p x) tw cs due pu dt yr := by
  obtain ⟨⟨⟨h1, h2, h3, h4⟩, hM⟩, a2, a3, a4, a5, a6, a7⟩ := h
  rcases hc with ⟨rfl, rfl⟩ | ⟨rfl, rfl⟩
  · exact ⟨⟨⟨h1, h2.upd hx, h3.plan, h4.plan h3 h2.1 hp⟩, hM⟩, a2, a3, a4, a5, a6, a7⟩
  · exact ⟨⟨⟨h1, h2.upd hx, h3.born, h4.born h3 h2.1 hp⟩, hM⟩, a2, a3, a4, a5, a6, a7⟩
/-- frame of the best laid -/
def FB (m m' : mM) : Prop := (∀ k, k ≠ 31 → k ≠ 32 → k ≠ 34 → k ≠ 35 → mI m' k = mI m k) ∧ (∀ c, ¬ (17 ≤ c ∧ c ≤ 20) → mA m' c = mA m c) ∧ (∀ c, mL m' c = mL m c) ∧ (∀ k, mR m' k = mR m k) ∧ (mA m' 17).length = 100 ∧ (mA m' 18).length = 7 ∧ (mA m' 19).length = 7 ∧ (mA m' 20).length = 7
theorem FB.sm {m' : mM} (h : FB m m') (hc : R_scM m) : FSM m m' := ⟨h.1, fun c h1 => h.2.1 c (by omega), h.2.2.1, h.2.2.2.1, h.2.2.2.2.1, h.2.2.2.2.2.1, h.2.2.2.2.2.2.1, h.2.2.2.2.2.2.2, by rw [h.2.1 21 (by omega)]; exact hc.2.2.2.2.1, by rw [h.2.1 22 (by omega)]; exact hc.2.2.2.2.2.1, by rw [h.1 27 (by decide) (by decide) (by decide) (by decide)]; exact hc.2.2.2.2.2.2⟩
theorem m_layBest {p c f : Nat} {y2 : Int32} (h : MR m n pd tw cs due pu dt yr) (hp : p < n) (hc : (c = 4 ∧ f = 3 ∧ y2 = 0) ∨ (c = 3 ∧ f = 2 ∧ y2 = 1)) : ∃ m', f_X7_layBest m (nI p) y2 = some ((), m') ∧ FB m m' ∧ mI m' 34 = nI (bst (vB n pd cs due dt yr f p) 12).1 ∧ mI m' 35 = (bst (vB n pd cs due dt yr f p) 12).2 := by
  have hn := h.1.1.2.1.1
  have hcf : (c = 4 ∧ f = 3) ∨ (c = 3 ∧ f = 2) := by rcases hc with z | z; exact Or.inl ⟨z.1, z.2.1⟩; exact Or.inr ⟨z.1, z.2.1⟩
  have hc17 : ¬ (17 ≤ c ∧ c ≤ 20) := by omega
  have len : ∀ {m1 : mM} {pd1 : Nat → Nat → Nat}, MR m1 n pd1 tw cs due pu dt yr → (mA m1 c).length = 7 := by
    intro m1 pd1 h1
    have hs := h1.1.1.2.2.1
    rcases hcf with ⟨rfl, -⟩ | ⟨rfl, -⟩
    · exact hs.2.2.2.1
    · exact hs.2.2.1
  have main : ∀ (j k : Nat) (m1 : mM) (pd1 : Nat → Nat → Nat) (F : Nat), k + j = 12 → j < F → MR m1 n pd1 tw cs due pu dt yr → (∀ x, pdu pd1 f p x = pdu pd f p x) → (∀ x, (mA m1 c).set p x = (mA m c).set p x) → (∀ k, k ≠ 31 → k ≠ 32 → k ≠ 34 → k ≠ 35 → mI m1 k = mI m k) → (∀ d, d ≠ c → ¬ (17 ≤ d ∧ d ≤ 20) → mA m1 d = mA m d) → (∀ d, mL m1 d = mL m d) → (∀ k, mR m1 k = mR m k) → (0 < k → mI m1 34 = nI (bst (vB n pd cs due dt yr f p) k).1 ∧ mI m1 35 = (bst (vB n pd cs due dt yr f p) k).2) → ∃ m', f_X7_layBest_23 F m1 (nI p) y2 ((mA m c).getD p 0) (nI k) = some ((), m') ∧ FB m m' ∧ mI m' 34 = nI (bst (vB n pd cs due dt yr f p) 12).1 ∧ mI m' 35 = (bst (vB n pd cs due dt yr f p) 12).2 := by
    intro j
    induction j with
    | zero =>
      intro k m1 pd1 F hk hF h1 e1 e2 f1 f2 f3 f4 hb
      obtain ⟨F', rfl⟩ : ∃ F', F = F' + 1 := ⟨F - 1, by omega⟩
      obtain rfl : k = 12 := by omega
      have hl := len h1
      obtain ⟨b1, b2⟩ := hb (by decide)
      have es : (mA m1 c).set p ((mA m c).getD p 0) = mA m c := by rw [e2]; exact set_self
      refine ⟨wA m1 c (mA m c), ?_, ⟨f1, fun d hd => ?_, f3, f4, ?_⟩, b1, b2⟩
      · show fb_X7_layBest_23 _ _ _ _ _ _ = _
        unfold fb_X7_layBest_23
        rw [if_pos (show (12 : Int32) ≤ nI 12 by decide)]
        rcases hc with ⟨rfl, rfl, rfl⟩ | ⟨rfl, rfl, rfl⟩
        · rw [if_pos rfl, sA_at0 (by omega) (by omega), Option.bind_some, es]
        · rw [if_neg (by decide), sA_at0 (by omega) (by omega), Option.bind_some, es]
      · rw [mA_wA]
        by_cases e : d = c
        · rw [if_pos e, e]
        · rw [if_neg e]; exact f2 d e hd
      · have := h1.2.2.2.2.2.2.2.2
        rw [mA_wA, if_neg (by omega), mA_wA, if_neg (by omega), mA_wA, if_neg (by omega), mA_wA, if_neg (by omega)]; exact this
    | succ j ih =>
      intro k m1 pd1 F hk hF h1 e1 e2 f1 f2 f3 f4 hb
      obtain ⟨F', rfl⟩ : ∃ F', F = F' + 1 := ⟨F - 1, by omega⟩
      have hl := len h1
      have h2 := h1.set hcf hp (x := k) (by omega)
      obtain ⟨m2, r1, r2, r3⟩ := m_layYear h2
      have ev : gY n (pdu pd1 f p k) cs due dt yr p = vB n pd cs due dt yr f p k := by rw [e1]; rfl
      have hy : f_X7_yearOf (wA m1 c ((mA m1 c).set p (nI k))) (nI p) = some (vB n pd cs due dt yr f p k, m2) := by
        unfold f_X7_yearOf
        rw [r1, bnd_some, gA_at (by rw [r2.2.2.2.2.2.2.2]; omega) (by omega), r3 p hp, Option.bind_some, ev]
      have h3 := h2.fy r2
      have g1 : ∀ i, i ≠ 31 → i ≠ 32 → mI m2 i = mI m1 i := fun i z1 z2 => r2.1 i z1 z2
      have g2 : ∀ d, d ≠ c → ¬ (17 ≤ d ∧ d ≤ 20) → mA m2 d = mA m1 d := fun d z1 z2 => by rw [r2.2.1 d z2, mA_wA, if_neg z1]
      have g2c : mA m2 c = (mA m1 c).set p (nI k) := by rw [r2.2.1 c hc17, mA_wA, if_pos rfl]
      have E1 : ∀ x, pdu (pdu pd1 f p k) f p x = pdu pd f p x := fun x => by rw [pdu_pdu, e1]
      have E2 : ∀ x, (mA m2 c).set p x = (mA m c).set p x := fun x => by rw [g2c, List.set_set, e2]
      have fin : ∃ m', f_X7_layBest_53 (fun m y1 y2 y3 y4 => f_X7_layBest_23 F' m y1 y2 y3 y4) (wA m1 c ((mA m1 c).set p (nI k))) (nI p) y2 ((mA m c).getD p 0) (nI k) = some ((), m') ∧ FB m m' ∧ mI m' 34 = nI (bst (vB n pd cs due dt yr f p) 12).1 ∧ mI m' 35 = (bst (vB n pd cs due dt yr f p) 12).2 := by
        unfold f_X7_layBest_53
        rw [hy, bnd_some]
        have new : bst (vB n pd cs due dt yr f p) (k + 1) = (k, vB n pd cs due dt yr f p k) → ∃ m', f_X7_layBest_77 (fun m y1 y2 y3 y4 => f_X7_layBest_23 F' m y1 y2 y3 y4) m2 (nI p) y2 ((mA m c).getD p 0) (nI k) (vB n pd cs due dt yr f p k) = some ((), m') ∧ FB m m' ∧ mI m' 34 = nI (bst (vB n pd cs due dt yr f p) 12).1 ∧ mI m' 35 = (bst (vB n pd cs due dt yr f p) 12).2 := by
          intro hz
          unfold f_X7_layBest_77
          rw [nmM_eq, nmM_eq, nI_1]
          refine ih (k + 1) (wI (wI m2 34 (nI k)) 35 (vB n pd cs due dt yr f p k)) (pdu pd1 f p k) F' (by omega) (by omega) h3 E1 E2 (fun i z1 z2 z3 z4 => ?_) (fun d z1 z2 => ?_) (fun d => (r2.2.2.1 d).trans (f3 d)) (fun i => (r2.2.2.2.1 i).trans (f4 i)) (fun _ => by rw [hz]; exact ⟨rfl, rfl⟩)
          · rw [mI_wI, if_neg z4, mI_wI, if_neg z3, g1 i z1 z2]; exact f1 i z1 z2 z3 z4
          · exact (g2 d z1 z2).trans (f2 d z1 z2)
        by_cases c0 : k = 0
        · subst c0
          rw [if_pos (show nI 0 ≤ (0 : Int32) by decide)]
          exact new bst_1
        · rw [if_neg (show ¬ nI k ≤ (0 : Int32) from (nI_ge (by omega) (by omega) : ¬ nI k ≤ nI 0)), g1 35 (by decide) (by decide), (hb (by omega)).2]
          by_cases c1 : (bst (vB n pd cs due dt yr f p) k).2 < vB n pd cs due dt yr f p k
          · rw [if_pos c1]; exact new (if_pos c1)
          · rw [if_neg c1, nI_1]
            have hz : bst (vB n pd cs due dt yr f p) (k + 1) = bst (vB n pd cs due dt yr f p) k := if_neg c1
            refine ih (k + 1) m2 (pdu pd1 f p k) F' (by omega) (by omega) h3 E1 E2 (fun i z1 z2 z3 z4 => (g1 i z1 z2).trans (f1 i z1 z2 z3 z4)) (fun d z1 z2 => (g2 d z1 z2).trans (f2 d z1 z2)) (fun d => (r2.2.2.1 d).trans (f3 d)) (fun i => (r2.2.2.2.1 i).trans (f4 i)) (fun _ => ?_)
            rw [hz, g1 34 (by decide) (by decide), g1 35 (by decide) (by decide)]; exact hb (by omega)
      show ∃ m', fb_X7_layBest_23 _ _ _ _ _ _ = _ ∧ _
      unfold fb_X7_layBest_23
      rw [if_neg (show ¬ (12 : Int32) ≤ nI k from (nI_ge (by omega) (by decide) : ¬ nI 12 ≤ nI k))]
      rcases hc with ⟨rfl, rfl, rfl⟩ | ⟨rfl, rfl, rfl⟩
      · rw [if_pos rfl, sA_at0 (by omega) (by omega), Option.bind_some]; exact fin
      · rw [if_neg (by decide), sA_at0 (by omega) (by omega), Option.bind_some]; exact fin
  unfold f_X7_layBest
  have hl := len h
  have r := main 12 0 m pd 1000 (by omega) (by omega) h (fun _ => rfl) (fun _ => rfl) (fun _ _ _ _ _ => rfl) (fun _ _ _ => rfl) (fun _ => rfl) (fun _ => rfl) (fun z => absurd z (Nat.lt_irrefl 0))
  rcases hc with ⟨rfl, rfl, rfl⟩ | ⟨rfl, rfl, rfl⟩
  · rw [if_pos rfl, gA_at (by omega) (by omega), Option.bind_some]; exact r
  · rw [if_neg (by decide), gA_at (by omega) (by omega), Option.bind_some]; exact r
end M
/-! the class's -/
section X
variable {m : mM} {n : Nat} {pd : Nat → Nat → Nat} {t : Nat} {cs : List CL} {due : Int32} {dt yr : Nat}
theorem TXr.fr2 {m' : mM} {c c' : Nat} (h : TXr m c t cs) (hR : mR m' (64 * c' + 4) = mR m (64 * c + 4)) (hI : ∀ k, (512 ≤ k ∧ k < 576) ∨ (2944 ≤ k ∧ k < 5248) → mI m' k = mI m k) (hA2 : ∀ c, (8 ≤ c ∧ c < 14) ∨ (46 ≤ c ∧ c < 82) → mA m' c = mA m c) : TXr m' c' t cs := by
  obtain ⟨h1, h2, h3, h4, h5⟩ := h
  have hb := twA_b h1
  have hA : ∀ k, k < 6 → mA m' (twA t + k) = mA m (twA t + k) := fun k hk => hA2 _ (by omega)
  have hI : ∀ k, k < 6 → mI m' (64 * twA t + k) = mI m (64 * twA t + k) := fun k hk => hI _ (by omega)
  refine ⟨h1, by rw [hR]; exact h2, ?_, ?_, h5⟩
  · unfold TXh at h3 ⊢
    rw [hA 1 (by omega), hA 2 (by omega), hA 3 (by omega), hA 4 (by omega), hA 5 (by omega)]; exact h3
  · unfold TXe at h4 ⊢
    rw [hI 0 (by omega), hI 1 (by omega), hI 2 (by omega), hI 3 (by omega), hA 1 (by omega), hA 2 (by omega), hA 3 (by omega), hA 4 (by omega), hA 5 (by omega)]; exact h4
/-- the trial state -/
def TR (m : mM) (n : Nat) (pd : Nat → Nat → Nat) (t : Nat) (cs : List CL) (dt yr : Nat) : Prop := PXr m 32 n pd ∧ TXr m 32 t cs ∧ XR0 m ∧ mI m 2049 = nI dt ∧ dt < 12 ∧ mI m 2050 = nI yr ∧ yr ≤ 999 ∧ (mA m 1).length = 12
theorem TR.fr {m' : mM} (h : TR m n pd t cs dt yr) (f : FX m m') (h0 : XR0 m') : TR m' n pd t cs dt yr := by
  obtain ⟨a1, a2, a3, a4, a5, a6, a7, a8⟩ := h
  exact ⟨a1.fr f, a2.fr a1.1 f, h0, by rw [f.1 _ (by omega)]; exact a4, a5, by rw [f.1 _ (by omega)]; exact a6, a7, by rw [f.2.1 1 (by omega)]; exact a8⟩
theorem TR.set {c f p x : Nat} (h : TR m n pd t cs dt yr) (hc : (c = 36 ∧ f = 3) ∨ (c = 35 ∧ f = 2)) (hp : p < n) (hx : x < 12) : TR (wA m c ((mA m c).set p (nI x))) n (pdu pd f p x) t cs dt yr := by
  obtain ⟨⟨h0, h1, h2, h3, h4⟩, a2, a3, a4, a5, a6, a7, a8⟩ := h
  have hT : TXr (wA m c ((mA m c).set p (nI x))) 32 t cs := a2.fr2 rfl (fun _ _ => rfl) (fun d hd => by rw [mA_wA, if_neg (by omega)])
  rcases hc with ⟨rfl, rfl⟩ | ⟨rfl, rfl⟩
  · exact ⟨⟨h0, h1, h2.upd hx, h3.plan, h4.plan h3 h2.1 hp⟩, hT, a3, a4, a5, a6, a7, a8⟩
  · exact ⟨⟨h0, h1, h2.upd hx, h3.born, h4.born h3 h2.1 hp⟩, hT, a3, a4, a5, a6, a7, a8⟩
theorem TR.yields {l : List Int32} (h : TR m n pd t cs dt yr) (hl : l.length = 12) : TR (wA m 1 l) n pd t cs dt yr := by
  obtain ⟨⟨h0, h1, h2, h3, h4⟩, a2, a3, a4, a5, a6, a7, a8⟩ := h
  exact ⟨⟨h0, h1, h2, h3, h4⟩, a2.fr2 rfl (fun _ _ => rfl) (fun d hd => by rw [mA_wA, if_neg (by omega)]), a3, a4, a5, a6, a7, hl⟩
/-- frame of trials -/
def FT (m m' : mM) : Prop := (∀ k, ¬ (2624 ≤ k ∧ k < 2688) → mI m' k = mI m k) ∧ (∀ c, c ≠ 1 → ¬ (42 ≤ c ∧ c ≤ 45) → mA m' c = mA m c) ∧ (∀ c, mL m' c = mL m c) ∧ (∀ k, k ≠ 2624 → mR m' k = mR m k)
theorem x_tryDays {p c f : Nat} (h : TR m n pd t cs dt yr) (hp : p < n) (hc : (c = 36 ∧ f = 3) ∨ (c = 35 ∧ f = 2)) : ∃ m', f_X6_tryDays m c (nI p) due = some ((), m') ∧ FT m m' ∧ TR m' n pd t cs dt yr ∧ ∀ x, x < 12 → (mA m' 1).getD x 0 = vB n pd cs due dt yr f p x := by
  have hn := h.1.2.2.1.1
  have len : ∀ {m1 : mM} {pd1 : Nat → Nat → Nat}, TR m1 n pd1 t cs dt yr → (mA m1 c).length = 7 := by
    intro m1 pd1 h1
    have hs := h1.1.2.2.2.1
    rcases hc with ⟨rfl, -⟩ | ⟨rfl, -⟩
    · exact hs.2.2.2.1
    · exact hs.2.2.1
  have val : ∃ z, z < 12 ∧ (mA m c).getD p 0 = nI z ∧ pdu pd f p z = pd := by
    obtain ⟨r1, r2, r3, r4, r5, r6⟩ := h.1.2.2.1.2 p hp
    obtain ⟨g1, g2, g3, g4, g5, g6⟩ := h.1.2.2.2.2 p hp
    rcases hc with ⟨rfl, rfl⟩ | ⟨rfl, rfl⟩
    · exact ⟨_, r4, g4, pdu_self⟩
    · exact ⟨_, r3, g3, pdu_self⟩
  have main : ∀ (j k : Nat) (m1 : mM) (pd1 : Nat → Nat → Nat) (F : Nat), k + j = 12 → j < F → TR m1 n pd1 t cs dt yr → (∀ x, pdu pd1 f p x = pdu pd f p x) → (∀ x, (mA m1 c).set p x = (mA m c).set p x) → (∀ k, ¬ (2624 ≤ k ∧ k < 2688) → mI m1 k = mI m k) → (∀ d, d ≠ 1 → d ≠ c → ¬ (42 ≤ d ∧ d ≤ 45) → mA m1 d = mA m d) → (∀ d, mL m1 d = mL m d) → (∀ k, k ≠ 2624 → mR m1 k = mR m k) → (∀ x, x < k → (mA m1 1).getD x 0 = vB n pd cs due dt yr f p x) → ∃ m', f_X6_tryDays_8 F m1 c (nI p) due ((mA m c).getD p 0) (nI k) = some ((), m') ∧ FT m m' ∧ TR m' n pd t cs dt yr ∧ ∀ x, x < 12 → (mA m' 1).getD x 0 = vB n pd cs due dt yr f p x := by
    intro j
    induction j with
    | zero =>
      intro k m1 pd1 F hk hF h1 e1 e2 f1 f2 f3 f4 hb
      obtain ⟨F', rfl⟩ : ∃ F', F = F' + 1 := ⟨F - 1, by omega⟩
      obtain rfl : k = 12 := by omega
      have hl := len h1
      obtain ⟨z, hz, ez, ep⟩ := val
      have es : (mA m1 c).set p (nI z) = mA m c := by rw [e2, ← ez]; exact set_self
      have h2 := h1.set hc hp hz
      rw [e1, ep] at h2
      refine ⟨wA m1 c ((mA m1 c).set p (nI z)), ?_, ⟨f1, fun d d1 d2 => ?_, f3, f4⟩, h2, fun x hx => ?_⟩
      · show fb_X6_tryDays_8 _ _ _ _ _ _ _ = _
        unfold fb_X6_tryDays_8
        rw [if_pos (show (12 : Int32) ≤ nI 12 by decide), ez, sA_at0 (by omega) (by omega), Option.bind_some]
      · rw [mA_wA]
        by_cases e : d = c
        · rw [if_pos e, es, e]
        · rw [if_neg e]; exact f2 d d1 e d2
      · rw [mA_wA, if_neg (by omega)]; exact hb x hx
    | succ j ih =>
      intro k m1 pd1 F hk hF h1 e1 e2 f1 f2 f3 f4 hb
      obtain ⟨F', rfl⟩ : ∃ F', F = F' + 1 := ⟨F - 1, by omega⟩
      have hl := len h1
      have h2 := h1.set hc hp (x := k) (by omega)
      obtain ⟨a1, a2, a3, a4, a5, a6, a7, a8⟩ := id h2
      obtain ⟨m2, r1, r2, r3, r4⟩ := x_goYear (due := due) a1 a2 a3 a4 a5 a6 (by omega)
      have hg : ∃ m', f_X1_start (wA m1 c ((mA m1 c).set p (nI k))) 32 due = some ((), m') ∧ f_X1_go m' 12 = some ((), m2) := by
        unfold f_X6_goYear at r1
        cases hs : f_X1_start (wA m1 c ((mA m1 c).set p (nI k))) 32 due with
        | none => rw [hs] at r1; cases r1
        | some q =>
          obtain ⟨u, m'⟩ := q
          rw [hs, bnd_some] at r1
          cases hs2 : f_X1_go m' 12 with
          | none => rw [hs2] at r1; cases r1
          | some q2 =>
            obtain ⟨u2, m''⟩ := q2
            rw [hs2, bnd_some] at r1
            have : m'' = m2 := by injection r1 with r1; exact congrArg Prod.snd r1
            exact ⟨m', rfl, by rw [hs2, this]⟩
      obtain ⟨m', q1, q2⟩ := hg
      have ev : gY n (pdu pd1 f p k) cs due dt yr p = vB n pd cs due dt yr f p k := by rw [e1]; rfl
      have h3 := h2.fr r2 r3
      have hl1 : (mA m2 1).length = 12 := h3.2.2.2.2.2.2.2
      have h4 := h3.yields (l := (mA m2 1).set k (vB n pd cs due dt yr f p k)) (by rw [List.length_set]; exact hl1)
      have g2c : mA m2 c = (mA m1 c).set p (nI k) := by rw [r2.2.1 c (by omega), mA_wA, if_pos rfl]
      show ∃ m', fb_X6_tryDays_8 _ _ _ _ _ _ _ = _ ∧ _
      unfold fb_X6_tryDays_8
      rw [if_neg (show ¬ (12 : Int32) ≤ nI k from (nI_ge (by omega) (by decide) : ¬ nI 12 ≤ nI k)), sA_at0 (by omega) (by omega), Option.bind_some, q1, bnd_some, q2, bnd_some, gA_at (by rw [r3.1]; omega) (by omega), r4 p hp, ev, Option.bind_some, sA_at0 (by omega) (by omega), Option.bind_some, nI_1]
      refine ih (k + 1) _ (pdu pd1 f p k) F' (by omega) (by omega) h4 (fun x => by rw [pdu_pdu, e1]) (fun x => ?_) (fun i hi => ?_) (fun d d1 d2 d3 => ?_) (fun d => (r2.2.2.1 d).trans (f3 d)) (fun i hi => (r2.2.2.2 i hi).trans (f4 i hi)) (fun x hx => ?_)
      · rw [mA_wA, if_neg (by omega), g2c, List.set_set, e2]
      · exact (r2.1 i hi).trans (f1 i hi)
      · rw [mA_wA, if_neg d1, r2.2.1 d d3, mA_wA, if_neg d2]; exact f2 d d1 d2 d3
      · rw [mA_wA, if_pos rfl, gd_set]
        by_cases e : k = x
        · subst e; rw [if_pos ⟨rfl, by omega⟩]
        · rw [if_neg (fun z => e z.1), r2.2.1 1 (by decide), mA_wA, if_neg (by omega)]; exact hb x (by omega)
  unfold f_X6_tryDays
  have hl := len h
  rw [gA_at (by omega) (by omega), Option.bind_some]
  exact main 12 0 m pd 1000 (by omega) (by omega) h (fun _ => rfl) (fun _ => rfl) (fun _ _ => rfl) (fun _ _ _ _ => rfl) (fun _ => rfl) (fun _ _ => rfl) (fun x hx => absurd hx (Nat.not_lt_zero x))
theorem x_firstMost {v : Nat → Int32} (hl : (mA m 1).length = 12) (hv : ∀ x, x < 12 → (mA m 1).getD x 0 = v x) : f_X6_firstMost m = some (nI (bst v 12).1, m) := by
  unfold f_X6_firstMost
  have main : ∀ (j k : Nat) (F : Nat), k + j = 12 → 0 < k → j < F → f_X6_firstMost_4 F m (nI (bst v k).1) (nI k) = some (nI (bst v 12).1, m) := by
    intro j
    induction j with
    | zero =>
      intro k F hk h0 hF
      obtain ⟨F', rfl⟩ : ∃ F', F = F' + 1 := ⟨F - 1, by omega⟩
      obtain rfl : k = 12 := by omega
      show fb_X6_firstMost_4 _ _ _ _ = _
      unfold fb_X6_firstMost_4
      rw [if_pos (show (12 : Int32) ≤ nI 12 by decide)]
    | succ j ih =>
      intro k F hk h0 hF
      obtain ⟨F', rfl⟩ : ∃ F', F = F' + 1 := ⟨F - 1, by omega⟩
      have hb := bst_lt (v := v) k h0
      show fb_X6_firstMost_4 _ _ _ _ = _
      unfold fb_X6_firstMost_4
      rw [if_neg (show ¬ (12 : Int32) ≤ nI k from (nI_ge (by omega) (by decide) : ¬ nI 12 ≤ nI k)), gA_at (by omega) (by omega), hv k (by omega), Option.bind_some, gA_at (by omega) (by omega), hv _ (by omega), Option.bind_some, nI_1, ← bst_v (v := v) k]
      have := ih (k + 1) F' (by omega) (by omega) (by omega)
      by_cases c : v k ≤ (bst v k).2
      · rw [if_pos c]
        have e : bst v (k + 1) = bst v k := if_neg (fun z => by rw [Int32.lt_iff_toInt_lt] at z; rw [Int32.le_iff_toInt_le] at c; omega)
        rw [e] at this; exact this
      · rw [if_neg c]
        have e : bst v (k + 1) = (k, v k) := if_pos (by rw [Int32.lt_iff_toInt_lt]; rw [Int32.le_iff_toInt_le] at c; omega)
        rw [e] at this; exact this
  have := main 11 1 1000 (by omega) (by omega) (by omega)
  rw [bst_1] at this
  exact this
theorem x_bestOf {p c f : Nat} {q : Int32} (h : TR m n pd t cs dt yr) (hp : p < n) (hc : (c = 36 ∧ f = 3) ∨ (c = 35 ∧ f = 2)) : ∃ m', f_X6_bestOf m c (nI p) q = some (if q = 0 then nI (bst (vB n pd cs (nI (clLast 1 10 cs)) dt yr f p) 12).1 else (bst (vB n pd cs (nI (clLast 1 10 cs)) dt yr f p) 12).2, m') ∧ FT m m' ∧ TR m' n pd t cs dt yr := by
  unfold f_X6_bestOf
  obtain ⟨t1, t2, t3, t4, t5⟩ := id h.2.1
  have e : mR m 2052 = twA t := t2
  obtain ⟨m', q1, q2, q3, q4⟩ := x_tryDays (due := nI (clLast 1 10 cs)) h hp hc
  have hb := bst_lt (v := vB n pd cs (nI (clLast 1 10 cs)) dt yr f p) 12 (by decide)
  rw [e, chR_t (twA_ok t1), show mI m (64 * twA t + 0) = nI (clLast 1 10 cs) from t4.1.1, q1, bnd_some, x_firstMost q3.2.2.2.2.2.2.2 q4, bnd_some]
  refine ⟨m', ?_, q2, q3⟩
  by_cases c : q = 0
  · rw [if_pos c, if_pos c]
  · rw [if_neg c, if_neg c, gA_at (by rw [q3.2.2.2.2.2.2.2]; omega) (by omega), q4 _ hb, Option.bind_some, ← bst_v (v := vB n pd cs (nI (clLast 1 10 cs)) dt yr f p) 12]
end X
end BEST
end
-- 22x.ops7.lean.txt
section
/-! OPERATIONS OF TRIALS: birth, plan, foundling, change, forged -/
section OPS7
variable {mx mm : mM}
theorem FSX.ft {m m1 m2 : mM} (h : FSX m m1) (f : FT m1 m2) (h0 : XR0 m2) (hl : (mA m2 1).length = 12) : FSX m m2 := by
  obtain ⟨a1, a2, a3, a4, a5⟩ := h
  refine ⟨fun k h1 h2 => (f.1 k h2).trans (a1 k h1 h2), fun c h1 h2 h3 => (f.2.1 c h1 h3).trans (a2 c h1 h2 h3), fun c => (f.2.2.1 c).trans (a3 c), fun k h1 h2 => (f.2.2.2 k h2).trans (a4 k h1 h2), a5.1.fr (fun k hk => f.2.1 _ (by omega) (by omega)), hl, h0⟩
theorem TR.x {m : mM} {n t dt yr : Nat} {pd : Nat → Nat → Nat} {cs : List CL} (h : TR m n pd t cs dt yr) : XR0 m ∧ (mA m 1).length = 12 := ⟨h.2.2.1, h.2.2.2.2.2.2.2⟩
theorem FT.trans {a b c : mM} (h : FT a b) (g : FT b c) : FT a c := ⟨fun k hk => (g.1 k hk).trans (h.1 k hk), fun k h1 hk => (g.2.1 k h1 hk).trans (h.2.1 k h1 hk), fun k => (g.2.2.1 k).trans (h.2.2.1 k), fun k hk => (g.2.2.2 k hk).trans (h.2.2.2 k hk)⟩
theorem FT.rfl {m : mM} : FT m m := ⟨fun _ _ => Eq.refl _, fun _ _ _ => Eq.refl _, fun _ => Eq.refl _, fun _ _ => Eq.refl _⟩
set_option maxRecDepth 4000 in
/-- the copy tried on -/
theorem RG.copy {W : Nat} {S : SS} {cs : List CL} (h : RG mx mm W S cs) : f_X2_copy mx 32 14 = some ((), cpM mx 32 14) ∧ FSX mx (cpM mx 32 14) ∧ TR (cpM mx 32 14) S.1 S.2.1 S.2.2.2.2.2.2 cs S.2.2.2.1 S.2.2.2.2.1 := by
  obtain ⟨⟨h1, h2, h3, h4⟩, h5, h6, h7, h8, h9, h10, h11, h12⟩ := h
  have hA : ∀ c, c ≠ 1 → ¬ (33 ≤ c ∧ c ≤ 40) → mA (cpM mx 32 14) c = mA mx c := fun c _ hc => by
    unfold cpM
    rw [mA_ne (by omega), mA_ne (by omega), mA_ne (by omega), mA_ne (by omega), mA_ne (by omega), mA_ne (by omega), mA_ne (by omega), mA_ne (by omega)]; rfl
  have hI : ∀ k, ¬ (2048 ≤ k ∧ k < 2112) → mI (cpM mx 32 14) k = mI mx k := fun k hk => by
    unfold cpM
    simp only [mI_wI, mI_wA, mI_wR]
    rw [if_neg (by omega), if_neg (by omega), if_neg (by omega), if_neg (by omega)]
  refine ⟨copy_eq (by omega) h7.1 h1 (by rw [h10.2.1]; exact twA_ok h10.1), ⟨fun k hk _ => hI k hk, fun c c1 c2 _ => hA c c1 c2, fun _ => rfl, fun k hk _ => ?_, h1, h7.2⟩, ⟨Or.inr (Or.inr rfl), h2.1.1, h5.1, h1.1, h2.2.1⟩, h10.fr2 rfl (fun k hk => hI k (by omega)) (fun c hc => hA c (by omega) (by omega)), h7.2.2, h2.1.2.1, h5.2.1, h2.1.2.2.1, h5.2.2.1, h7.2.1⟩
  show mR (cpM mx 32 14) k = mR mx k
  unfold cpM
  simp only [mR_wA, mR_wR, mR_wI]
  rw [if_neg (by omega)]
/-- both sides' best of twelve -/
theorem RG.best {W : Nat} {S : SS} {cs : List CL} {k c c' f : Nat} {q y2 : Int32} (h : RG mx mm W S cs) (hk : k < S.1) (hc : (c = 36 ∧ c' = 4 ∧ f = 3 ∧ y2 = 0) ∨ (c = 35 ∧ c' = 3 ∧ f = 2 ∧ y2 = 1)) : ∃ m1 m2, f_X6_bestOf (cpM mx 32 14) c (nI k) q = some (if q = 0 then mI m2 34 else mI m2 35, m1) ∧ f_X7_layBest mm (nI k) y2 = some ((), m2) ∧ FSX mx m1 ∧ FSM mm m2 := by
  obtain ⟨c1, c2, c3⟩ := h.copy
  obtain ⟨m1, x1, x2, x3⟩ := x_bestOf (q := q) c3 hk (c := c) (f := f) (by rcases hc with z | z; exact Or.inl ⟨z.1, z.2.2.1⟩; exact Or.inr ⟨z.1, z.2.2.1⟩)
  obtain ⟨m2, y1, y2', y3, y4⟩ := m_layBest (y2 := y2) h.mr hk (c := c') (f := f) (by rcases hc with z | z; exact Or.inl ⟨z.2.1, z.2.2.1, z.2.2.2⟩; exact Or.inr ⟨z.2.1, z.2.2.1, z.2.2.2⟩)
  exact ⟨m1, m2, by rw [x1, y3, y4], y1, c2.ft x2 x3.x.1 x3.x.2, y2'.sm h.2.2.2.2.1⟩
theorem in01 {t : Int32} (t0 : ¬ t < 0) : (t ≤ 1 → inR 2 t = true) ∧ (¬ t ≤ 1 → inR 2 t = false) := by
  have e1 : (1 : Int32).toInt = 1 := by decide
  have e2 : (nI 2).toInt = 2 := by decide
  refine ⟨fun h => inR_mid t0 (fun z => ?_), fun h => inR_high ?_⟩
  · rw [Int32.le_iff_toInt_le] at h z; omega
  · rw [Int32.le_iff_toInt_le] at h ⊢; omega
theorem op_birth (h : RR mx mm) (p q : Int32) : OPe (f_X6_birth mx p q) (f_X7_birth mm p q) := by
  obtain ⟨W, S, hr⟩ := id h
  obtain ⟨cs, hg⟩ := RRs.rg hr
  unfold f_X6_birth f_X7_birth
  rw [hg.per.1, hg.per.2, bnd_some, bnd_some]
  cases hp : inR S.1 p with
  | false => exact ⟨_, mx, mm, rfl, rfl, h⟩
  | true =>
    have hn := hg.2.1.1.1
    obtain ⟨k, hk, rfl⟩ := inR_t (by omega) hp
    rw [zB_t, if_neg i0, if_neg i0, op_in (n := 2) (in_lit (by decide) (by decide)), bnd_some]
    by_cases t0 : q < 0
    · rw [if_pos t0, inR_low t0]; exact ⟨_, mx, mm, rfl, rfl, h⟩
    rw [if_neg t0]
    by_cases t1 : q ≤ 1
    · rw [if_pos t1, (in01 t0).1 t1, zB_t, if_neg i0, hg.copy.1, bnd_some]
      obtain ⟨m1, m2, b1, b2, b3, b4⟩ := hg.best (q := q) hk (Or.inr ⟨rfl, rfl, rfl, rfl⟩)
      rw [b1, bnd_some, b2, bnd_some]
      by_cases c : q = 0
      · rw [if_pos c, if_pos c]; exact ⟨_, m1, m2, rfl, rfl, h.frS b3 b4⟩
      · rw [if_neg c, if_neg c]; exact ⟨_, m1, m2, rfl, rfl, h.frS b3 b4⟩
    · rw [if_neg t1, (in01 t0).2 t1]; exact ⟨_, mx, mm, rfl, rfl, h⟩
theorem op_plan (h : RR mx mm) (p q : Int32) : OPe (f_X6_plan mx p q) (f_X7_plan mm p q) := by
  obtain ⟨W, S, hr⟩ := id h
  obtain ⟨cs, hg⟩ := RRs.rg hr
  unfold f_X6_plan f_X7_plan
  rw [hg.per.1, hg.per.2, bnd_some, bnd_some]
  cases hp : inR S.1 p with
  | false => exact ⟨_, mx, mm, rfl, rfl, h⟩
  | true =>
    have hn := hg.2.1.1.1
    obtain ⟨k, hk, rfl⟩ := inR_t (by omega) hp
    rw [zB_t, if_neg i0, if_neg i0, op_in (n := 2) (in_lit (by decide) (by decide)), bnd_some]
    by_cases t0 : q < 0
    · rw [if_pos t0, inR_low t0]; exact ⟨_, mx, mm, rfl, rfl, h⟩
    rw [if_neg t0]
    by_cases t1 : q ≤ 1
    · rw [if_pos t1, (in01 t0).1 t1, zB_t, if_neg i0, hg.copy.1, bnd_some]
      obtain ⟨m1, m2, b1, b2, b3, b4⟩ := hg.best (q := q) hk (Or.inl ⟨rfl, rfl, rfl, rfl⟩)
      rw [b1, bnd_some, b2, bnd_some]
      by_cases c : q = 0
      · rw [if_pos c, if_pos c]; exact ⟨_, m1, m2, rfl, rfl, h.frS b3 b4⟩
      · rw [if_neg c, if_neg c]; exact ⟨_, m1, m2, rfl, rfl, h.frS b3 b4⟩
    · rw [if_neg t1, (in01 t0).2 t1]; exact ⟨_, mx, mm, rfl, rfl, h⟩
/-- the class's better plan -/
theorem x_betterPlan {m : mM} {n : Nat} {pd : Nat → Nat → Nat} {t : Nat} {cs : List CL} {due : Int32} {dt yr p : Nat} (h : TR m n pd t cs dt yr) (hp : p < n) : ∃ m', f_X6_betterPlan m (nI p) due = some (nI (if gY n pd cs due dt yr p < (bst (vB n pd cs due dt yr 3 p) 12).2 then (bst (vB n pd cs due dt yr 3 p) 12).1 else pd 3 p), m') ∧ FT m m' ∧ TR m' n pd t cs dt yr := by
  unfold f_X6_betterPlan
  have hn := h.1.2.2.1.1
  have r4 := (h.1.2.2.1.2 p hp).2.2.2.1
  obtain ⟨m', q1, q2, q3, q4⟩ := x_tryDays (due := due) h hp (Or.inl ⟨rfl, rfl⟩)
  have hb := bst_lt (v := vB n pd cs due dt yr 3 p) 12 (by decide)
  have e36 : (mA m' 36).length = 7 ∧ (mA m' 36).getD p 0 = nI (pd 3 p) := by
    have hs := q3.1.2.2.2.1
    exact ⟨hs.2.2.2.1, (q3.1.2.2.2.2 p hp).2.2.2.1⟩
  have e1 := q3.2.2.2.2.2.2.2
  have ev : vB n pd cs due dt yr 3 p (pd 3 p) = gY n pd cs due dt yr p := by unfold vB; rw [pdu_self]
  rw [q1, bnd_some, x_firstMost e1 q4, bnd_some, gA_at (by omega) (by omega), e36.2, Option.bind_some, gA_at (by omega) (by omega), q4 _ hb, Option.bind_some, gA_at (by omega) (by omega), q4 _ r4, Option.bind_some, ev, ← bst_v (v := vB n pd cs due dt yr 3 p) 12]
  refine ⟨m', ?_, q2, q3⟩
  by_cases c : (bst (vB n pd cs due dt yr 3 p) 12).2 ≤ gY n pd cs due dt yr p
  · rw [if_pos c, if_neg (fun z => by rw [Int32.lt_iff_toInt_lt] at z; rw [Int32.le_iff_toInt_le] at c; omega)]
  · rw [if_neg c, if_pos (by rw [Int32.lt_iff_toInt_lt]; rw [Int32.le_iff_toInt_le] at c; omega)]
/-- the reference's would-change -/
theorem m_wouldChange {m : mM} {n : Nat} {pd : Nat → Nat → Nat} {tw : Nat} {cs : List CL} {due : Int32} {pu : Nat → Int32} {dt yr p : Nat} (h : MR m n pd tw cs due pu dt yr) (hp : p < n) : ∃ m', f_X7_wouldChange m (nI p) = some (if gY n pd cs due dt yr p < (bst (vB n pd cs due dt yr 3 p) 12).2 then 1 else 0, m') ∧ FB m m' ∧ mI m' 34 = nI (bst (vB n pd cs due dt yr 3 p) 12).1 := by
  unfold f_X7_wouldChange f_X7_yearOf
  have hn := h.1.1.2.1.1
  obtain ⟨m1, r1, r2, r3⟩ := m_layYear h
  obtain ⟨m2, s1, s2, s3, s4⟩ := m_layBest (y2 := 0) (h.fy r2) hp (Or.inl ⟨rfl, rfl, rfl⟩)
  rw [r1, bnd_some, gA_at (by rw [r2.2.2.2.2.2.2.2]; omega) (by omega), r3 p hp, Option.bind_some, bnd_some, s1, bnd_some, s4]
  refine ⟨m2, ?_, ⟨fun k k1 k2 k3 k4 => (s2.1 k k1 k2 k3 k4).trans (r2.1 k k1 k2), fun c hc => (s2.2.1 c hc).trans (r2.2.1 c hc), fun c => (s2.2.2.1 c).trans (r2.2.2.1 c), fun k => (s2.2.2.2.1 k).trans (r2.2.2.2.1 k), s2.2.2.2.2⟩, s3⟩
  by_cases c : (bst (vB n pd cs due dt yr 3 p) 12).2 ≤ gY n pd cs due dt yr p
  · rw [if_pos c, if_neg (fun z => by rw [Int32.lt_iff_toInt_lt] at z; rw [Int32.le_iff_toInt_le] at c; omega)]
  · rw [if_neg c, if_pos (by rw [Int32.lt_iff_toInt_lt]; rw [Int32.le_iff_toInt_le] at c; omega)]
/-- a better day is another day -/
theorem bst_ne {n : Nat} {pd : Nat → Nat → Nat} {cs : List CL} {due : Int32} {dt yr p : Nat} (h : gY n pd cs due dt yr p < (bst (vB n pd cs due dt yr 3 p) 12).2) : ¬ (bst (vB n pd cs due dt yr 3 p) 12).1 = pd 3 p := by
  intro e
  rw [bst_v, e] at h
  have ev : vB n pd cs due dt yr 3 p (pd 3 p) = gY n pd cs due dt yr p := by unfold vB; rw [pdu_self]
  rw [ev, Int32.lt_iff_toInt_lt] at h
  omega
theorem op_change (h : RR mx mm) (p : Int32) : OPe (f_X6_change mx p) (f_X7_change mm p) := by
  obtain ⟨W, S, hr⟩ := id h
  obtain ⟨cs, hg⟩ := RRs.rg hr
  unfold f_X6_change f_X7_change
  rw [hg.per.1, hg.per.2, bnd_some, bnd_some]
  cases hp : inR S.1 p with
  | false => exact ⟨_, mx, mm, rfl, rfl, h⟩
  | true =>
    have hn := hg.2.1.1.1
    obtain ⟨k, hk, rfl⟩ := inR_t (by omega) hp
    have htw := hg.tw
    obtain ⟨c1, c2, c3⟩ := hg.copy
    have r4 := (c3.1.2.2.1.2 k hk).2.2.2.1
    obtain ⟨m1, x1, x2, x3⟩ := x_betterPlan (due := nI (clLast 1 10 cs)) c3 hk
    obtain ⟨m2, y1, y2, y3⟩ := m_wouldChange hg.mr hk
    have hb := bst_lt (v := vB S.1 S.2.1 cs (nI (clLast 1 10 cs)) S.2.2.2.1 S.2.2.2.2.1 3 k) 12 (by decide)
    have e900 : mR (cpM mx 32 14) 900 = mR mx 900 := c2.2.2.2.1 900 (by decide) (by decide)
    have htb := twA_b hg.2.2.2.2.2.2.1.1
    have e0 : mI (cpM mx 32 14) (64 * mR mx 900 + 0) = nI (clLast 1 10 cs) := by
      rw [c2.1 _ (by rw [show mR mx 900 = twA S.2.2.2.2.2.2 from hg.2.2.2.2.2.2.1.2.1]; omega) (by rw [show mR mx 900 = twA S.2.2.2.2.2.2 from hg.2.2.2.2.2.2.1.2.1]; omega)]; exact htw.2.1
    have e18 : (mA m1 18).length = 7 ∧ (mA m1 18).getD k 0 = nI (S.2.1 3 k) := by
      rw [x2.2.1 18 (by decide) (by decide), c2.2.1 18 (by decide) (by decide) (by decide)]
      exact ⟨hg.1.1.1.2.2.2.1, (hg.1.2.1.2.1 k hk).2.2.2.1⟩
    have fin := h.frS (c2.ft x2 x3.x.1 x3.x.2) (y2.sm hg.2.2.2.2.1)
    rw [zB_t, if_neg i0, if_neg i0, c1, bnd_some, e900, chR_t htw.1, e0, x1, bnd_some, gA_at (by omega) (by omega), e18.2, Option.bind_some, y1, bnd_some]
    by_cases c : gY S.1 S.2.1 cs (nI (clLast 1 10 cs)) S.2.2.2.1 S.2.2.2.2.1 k < (bst (vB S.1 S.2.1 cs (nI (clLast 1 10 cs)) S.2.2.2.1 S.2.2.2.2.1 3 k) 12).2
    · rw [if_pos c, if_pos c, if_neg (show ¬ (1 : Int32) = 0 by decide), if_neg (fun z => bst_ne c ((nI_eq (by omega) (by omega)).mp z))]
      exact ⟨_, m1, m2, rfl, rfl, fin⟩
    · rw [if_neg c, if_neg c, if_pos rfl, if_pos rfl]
      exact ⟨_, m1, m2, rfl, rfl, fin⟩
end OPS7
end
-- 22y.ops8.lean.txt
section
/-! OPERATIONS OF TRIALS: foundling, forged -/
section OPS8
variable {mx mm : mM}
theorem PDe.low {n k v b p : Nat} {pd : Nat → Nat → Nat} {lk lv lb lp lh lr : List Int32} (h : PDe (n + 1) (pdn pd n k v b p) lk lv lb lp lh lr) : PDe n pd lk lv lb lp lh lr := by
  intro q hq
  have nz : ∀ f, pdn pd n k v b p f q = pd f q := fun f => if_neg (by omega)
  obtain ⟨g1, g2, g3, g4, g5, g6⟩ := h q (by omega)
  rw [nz] at g1 g2 g3 g4 g5
  exact ⟨g1, g2, g3, g4, g5, fun j hj => by have := g6 j hj; rw [nz] at this; exact this⟩
set_option maxRecDepth 4000 in
theorem op_foundling (h : RR mx mm) (p q : Int32) : OPe (f_X6_foundling mx p q) (f_X7_foundling mm p q) := by
  obtain ⟨W, S, hr⟩ := id h
  have hr : RRs W S mx mm := hr
  obtain ⟨cs, hg⟩ := RRs.rg hr
  have hn := hg.2.1.1.1
  obtain ⟨hX, hS, hM, hQ⟩ := id hg.1
  unfold f_X6_foundling f_X7_foundling
  rw [op_in (n := 2) (in_lit (by decide) (by decide)), bnd_some]
  by_cases t0 : q < 0
  · rw [if_pos t0, inR_low t0]; exact ⟨_, mx, mm, rfl, rfl, h⟩
  rw [if_neg t0]
  by_cases t1 : q ≤ 1
  · rw [if_pos t1, (in01 t0).1 t1, zB_t, if_neg i0, op_isDay, op7_isDay, bnd_some, bnd_some]
    cases hd : inR 12 p with
    | false => exact ⟨_, mx, mm, rfl, rfl, h⟩
    | true =>
      obtain ⟨d, hd12, rfl⟩ := inR_t (by decide) hd
      rw [zB_t, if_neg i0, if_neg i0, show mI mx 896 = nI S.1 from hS.1.1, show mI mm 0 = nI S.1 from hQ.1.1]
      by_cases hf : S.1 < 7
      · obtain ⟨c1, c2, c3⟩ := hg.copy
        have hXc : XSh (cpM mx 32 14) 32 := hX
        have hi32 : mI (cpM mx 32 14) (64 * 32 + 0) = nI S.1 := hS.1.1
        rw [if_pos (show nI S.1 < (7 : Int32) from (nI_lt hf (by decide) : nI S.1 < nI 7)), if_neg (show ¬ nI S.1 = (7 : Int32) from fun z => by have := (nI_eq (by omega) (by decide)).mp (show nI S.1 = nI 7 from z); omega), c1, bnd_some, add_eq hXc hi32 hf, lay_eq hM hf, bnd_some, bnd_some, nmM_eq]
        have v1 : mI (addM (cpM mx 32 14) 32 S.1 0 0 0 (nI d)) 2048 - 1 = nI S.1 := nI_pred S.1
        have v3 : mI (layMm mm S.1 0 0 0 (nI d)) 0 + 1 = nI (S.1 + 1) := by
          show mI mm 0 + 1 = _; rw [show mI mm 0 = nI S.1 from hQ.1.1, nI_1]
        have v2 : mI (wI (layMm mm S.1 0 0 0 (nI d)) 0 (nI (S.1 + 1))) 0 - 1 = nI S.1 := nI_pred S.1
        rw [v1, v3, v2]
        obtain ⟨⟨p1, p2, p3, p4, p5⟩, a2, a3, a4, a5, a6, a7, a8⟩ := c3
        have hA9 : ∀ c, ¬ (33 ≤ c ∧ c ≤ 39) → mA (addM (cpM mx 32 14) 32 S.1 0 0 0 (nI d)) c = mA (cpM mx 32 14) c := fun c hc => by
          unfold addM
          rw [mA_wI, mA_ne (by omega), mA_ne (by omega), mA_ne (by omega), mA_ne (by omega), mA_ne (by omega), mA_ne (by omega), mA_ne (by omega)]
        have hI9 : ∀ k, k ≠ 2048 → mI (addM (cpM mx 32 14) 32 S.1 0 0 0 (nI d)) k = mI (cpM mx 32 14) k := fun k hk => if_neg hk
        have hT : TR (addM (cpM mx 32 14) 32 S.1 0 0 0 (nI d)) (S.1 + 1) (pdn S.2.1 S.1 0 0 0 d) S.2.2.2.2.2.2 cs S.2.2.2.1 S.2.2.2.2.1 := by
          refine ⟨⟨p1, rfl, p3.add hf (by decide) (by decide) (by decide) hd12, p4.add, PDe.add p4 hf p5⟩, a2.fr2 rfl (fun k hk => hI9 k (by omega)) (fun c hc => hA9 c (by omega)), ?_, a4, a5, a6, a7, a8⟩
          unfold XR0
          rw [hA9 42 (by decide), hA9 43 (by decide), hA9 44 (by decide), hA9 45 (by decide)]; exact a3
        have hfs : FSX mx (addM (cpM mx 32 14) 32 S.1 0 0 0 (nI d)) := by
          obtain ⟨b1, b2, b3, b4, b5⟩ := c2
          refine ⟨fun k k1 k2 => (hI9 k (by omega)).trans (b1 k k1 k2), fun c e1 e2 e3 => (hA9 c (by omega)).trans (b2 c e1 e2 e3), b3, b4, ⟨hT.1.2.2.2.1, (List.length_set ..).trans hX.2.1, hX.2.2⟩, a8, hT.2.2.1⟩
        obtain ⟨m1, x1, x2, x3⟩ := x_bestOf (q := q) hT (Nat.lt_succ_self S.1) (Or.inr ⟨rfl, rfl⟩)
        have hmr := hg.mr
        have hMR : MR (wI (layMm mm S.1 0 0 0 (nI d)) 0 (nI (S.1 + 1))) (S.1 + 1) (pdn S.2.1 S.1 0 0 0 d) S.2.2.2.2.2.2 cs (nI (clLast 1 10 cs)) (fun q => if q = S.1 then 0 else S.2.2.1 q) S.2.2.2.1 S.2.2.2.2.1 := by
          obtain ⟨⟨⟨m1, m2, m3, m4⟩, w1, w2, w3, w4, w5, w6⟩, b2, b3, b4, b5, b6, b7, b8, b9⟩ := hmr
          exact ⟨⟨⟨rfl, m2.add hf (by decide) (by decide) (by decide) hd12, m3.add, PDe.add m3 hf m4⟩, w1, w2, w3, w4, w5, w6⟩, b2, b3, b4, b5, b6, (List.length_set ..).trans b7, PUe.add b7 hf b8, b9⟩
        obtain ⟨m2, y1, y2, y3, y4⟩ := m_layBest (y2 := 1) hMR (Nat.lt_succ_self S.1) (Or.inr ⟨rfl, rfl, rfl⟩)
        rw [x1, bnd_some, y1, bnd_some, nmM_eq]
        have e0 : mI m2 0 - 1 = nI S.1 := by rw [y2.1 0 (by decide) (by decide) (by decide) (by decide)]; exact nI_pred S.1
        rw [e0]
        have hx2 := hfs.ft x2 x3.x.1 x3.x.2
        have hrs := hr.frS hx2 (FSM.rfl hg.2.2.2.2.1)
        have fin : RRs W S m1 (wI m2 0 (nI S.1)) := by
          have yA : ∀ c, ¬ (17 ≤ c ∧ c ≤ 20) → mA m2 c = mA (layMm mm S.1 0 0 0 (nI d)) c := y2.2.1
          refine RRs.now hrs ⟨hrs.1.1, hrs.1.2.1, ?_, ?_⟩ hg.2.1 ⟨y2.2.2.2.2.1, y2.2.2.2.2.2.1, y2.2.2.2.2.2.2.1, y2.2.2.2.2.2.2.2, ?_⟩ (fun _ _ => rfl) (fun _ _ => rfl) (fun _ => rfl) (fun _ _ => rfl) (fun k hk => ?_) (fun c e1 e2 => ?_) y2.2.2.1
          · unfold MSh
            rw [mA_wI, mA_wI, mA_wI, mA_wI, mA_wI, mA_wI, mA_wI, mA_wI, yA 1 (by decide), yA 2 (by decide), yA 3 (by decide), yA 4 (by decide), yA 7 (by decide), yA 6 (by decide), yA 5 (by decide), yA 23 (by decide)]
            exact ⟨hM.1.add, (List.length_set ..).trans hM.2.1, hM.2.2⟩
          · unfold MS
            rw [mA_wI, mA_wI, mA_wI, mA_wI, mA_wI, mA_wI, mA_wI, mA_wI, yA 1 (by decide), yA 2 (by decide), yA 3 (by decide), yA 4 (by decide), yA 7 (by decide), yA 6 (by decide), yA 5 (by decide), yA 23 (by decide)]
            refine ⟨⟨rfl, ?_, ?_, ?_, ?_⟩, PDe.low (PDe.add (k := 0) (v := 0) (b := 0) (p := d) hM.1 hf hQ.2.1), fun p hp => ?_, hQ.2.2.2⟩
            · rw [mI_wI, if_neg (by decide), y2.1 1 (by decide) (by decide) (by decide) (by decide)]; exact hQ.1.2.1
            · rw [mI_wI, if_neg (by decide), y2.1 2 (by decide) (by decide) (by decide) (by decide)]; exact hQ.1.2.2.1
            · rw [mI_wI, if_neg (by decide), y2.1 38 (by decide) (by decide) (by decide) (by decide)]; exact hQ.1.2.2.2.1
            · rw [mI_wI, if_neg (by decide), y2.1 11 (by decide) (by decide) (by decide) (by decide)]; exact hQ.1.2.2.2.2
            · have := PUe.add hM.2.1 hf hQ.2.2.1 p (by omega)
              exact this.trans (if_neg (by omega))
          · have hsc := hg.2.2.2.2.1
            rw [mA_wI, mA_wI, y2.2.1 21 (by decide), y2.2.1 22 (by decide), mI_wI, if_neg (by decide), y2.1 27 (by decide) (by decide) (by decide) (by decide)]
            exact ⟨hsc.2.2.2.2.1, hsc.2.2.2.2.2.1, hsc.2.2.2.2.2.2⟩
          · have k0 : k ≠ 0 := fun e => hk (by rw [e]; decide)
            rw [mI_wI, if_neg k0, y2.1 k (fun e => hk (by rw [e]; decide)) (fun e => hk (by rw [e]; decide)) (fun e => hk (by rw [e]; decide)) (fun e => hk (by rw [e]; decide))]
            exact if_neg k0
          · rw [mA_wI, yA c (by omega)]
            unfold layMm
            rw [mA_ne (by omega), mA_ne (by omega), mA_ne (by omega), mA_ne (by omega), mA_ne (by omega), mA_ne (by omega), mA_ne (by omega)]
        have e34 : mI (wI m2 0 (nI S.1)) 34 = mI m2 34 := rfl
        have e35 : mI (wI m2 0 (nI S.1)) 35 = mI m2 35 := rfl
        rw [e34, e35, y3, y4]
        by_cases c : q = 0
        · rw [if_pos c, if_pos c]; exact ⟨_, m1, _, rfl, rfl, W, S, fin⟩
        · rw [if_neg c, if_neg c]; exact ⟨_, m1, _, rfl, rfl, W, S, fin⟩
      · rw [if_neg (show ¬ nI S.1 < (7 : Int32) from (nI_nlt (by omega) (by omega) : ¬ nI S.1 < nI 7)), if_pos (show nI S.1 = (7 : Int32) from (congrArg nI (show S.1 = 7 by omega) : nI S.1 = nI 7))]
        exact ⟨_, mx, mm, rfl, rfl, h⟩
  · rw [if_neg t1, (in01 t0).2 t1]; exact ⟨_, mx, mm, rfl, rfl, h⟩
/-! forged -/
def fgP (n : Nat) (pd : Nat → Nat → Nat) (cs : List CL) (due : Int32) (dt yr : Nat) (y : Int32) (p : Nat) : Nat → Bool := fun d => decide (¬ d = pd 2 p) && decide (vB n pd cs due dt yr 2 p d = y)
def fgO (n : Nat) (pd : Nat → Nat → Nat) (cs : List CL) (due : Int32) (dt yr : Nat) (y : Int32) : Nat → Nat → Int32
  | _, 0 => -5
  | k, j + 1 => match fnd (fgP n pd cs due dt yr y k) 0 12 with
    | some d => nI (100 * k + d)
    | none => fgO n pd cs due dt yr y (k + 1) j
theorem fnd_lt {P : Nat → Bool} : ∀ {j k d : Nat}, fnd P k j = some d → d < k + j
  | 0, _, _, h => by cases h
  | j + 1, k, d, h => by
    rw [fnd_s] at h
    by_cases c : P k = true
    · rw [if_pos c] at h; injection h with h; omega
    · rw [if_neg c] at h; have := fnd_lt h; omega
theorem x_forged_in {m : mM} {n : Nat} {pd : Nat → Nat → Nat} {cs : List CL} {due : Int32} {dt yr p : Nat} {y : Int32} {K : mM → Int32 → Int32 → fR Int32} (hb : pd 2 p < 12) (h17 : gA (mA m 17) (nI p) = some (nI (pd 2 p))) (h1 : (mA m 1).length = 12) (hv : ∀ x, x < 12 → (mA m 1).getD x 0 = vB n pd cs due dt yr 2 p x) : f_X6_forged_62 K 1000 m y (nI p) 0 = (match fnd (fgP n pd cs due dt yr y p) 0 12 with | some d => some (nI (100 * p + d), m) | none => K m y (nI p + 1)) := by
  have main : ∀ (j d F : Nat), d + j = 12 → j < F → f_X6_forged_62 K F m y (nI p) (nI d) = (match fnd (fgP n pd cs due dt yr y p) d j with | some d => some (nI (100 * p + d), m) | none => K m y (nI p + 1)) := by
    intro j
    induction j with
    | zero =>
      intro d F hd hF
      obtain ⟨F', rfl⟩ : ∃ F', F = F' + 1 := ⟨F - 1, by omega⟩
      obtain rfl : d = 12 := by omega
      show fb_X6_forged_62 _ _ _ _ _ _ = _
      unfold fb_X6_forged_62
      rw [if_pos (show (12 : Int32) ≤ nI 12 by decide)]; rfl
    | succ j ih =>
      intro d F hd hF
      obtain ⟨F', rfl⟩ : ∃ F', F = F' + 1 := ⟨F - 1, by omega⟩
      show fb_X6_forged_62 _ _ _ _ _ _ = _
      unfold fb_X6_forged_62
      rw [if_neg (show ¬ (12 : Int32) ≤ nI d from (nI_ge (by omega) (by decide) : ¬ nI 12 ≤ nI d)), h17, Option.bind_some, fnd_s, nI_1]
      by_cases c : d = pd 2 p
      · rw [if_pos (congrArg nI c), if_neg (by unfold fgP; rw [decide_eq_false (fun z => z c)]; exact Bool.false_ne_true)]
        exact ih (d + 1) F' (by omega) (by omega)
      · rw [if_neg (fun z => c ((nI_eq (by omega) (by omega)).mp z)), gA_at (by omega) (by omega), hv d (by omega), Option.bind_some]
        by_cases e : vB n pd cs due dt yr 2 p d = y
        · rw [if_pos e, if_pos (by unfold fgP; rw [decide_eq_true c, decide_eq_true e]; rfl), show (100 : Int32) = nI 100 from rfl, pk_mul, nI_add]
        · rw [if_neg e, if_neg (by unfold fgP; rw [decide_eq_false e, Bool.and_false]; exact Bool.false_ne_true)]
          exact ih (d + 1) F' (by omega) (by omega)
  exact main 12 0 1000 (by omega) (by omega)
theorem x_forged_lp {n : Nat} {pd : Nat → Nat → Nat} {t : Nat} {cs : List CL} {dt yr : Nat} {y : Int32} (ht : isC true 5 (mR mx 900) = true) (h900 : mR mx 900 = twA t) (htl : t ≤ 6) (hdue : mI mx (64 * mR mx 900 + 0) = nI (clLast 1 10 cs)) (hn896 : mI mx 896 = nI n) (h17 : ∀ p, p < n → gA (mA mx 17) (nI p) = some (nI (pd 2 p))) : ∀ (j k : Nat) (m : mM) (F : Nat), k + j = n → j < F → FSX mx m → TR m n pd t cs dt yr → ∃ m', f_X6_forged_27 F m y (nI k) = some (fgO n pd cs (nI (clLast 1 10 cs)) dt yr y k j, m') ∧ FSX mx m' := by
  intro j
  induction j with
  | zero =>
    intro k m F hk hF hf h
    obtain ⟨F', rfl⟩ : ∃ F', F = F' + 1 := ⟨F - 1, by omega⟩
    obtain rfl : k = n := by omega
    have hn := h.1.2.2.1.1
    refine ⟨m, ?_, hf⟩
    show fb_X6_forged_27 _ _ _ _ = _
    unfold fb_X6_forged_27
    rw [hf.1 896 (by decide) (by decide), hn896, if_pos (nI_le (Nat.le_refl _) (by omega))]; rfl
  | succ j ih =>
    intro k m F hk hF hf h
    obtain ⟨F', rfl⟩ : ∃ F', F = F' + 1 := ⟨F - 1, by omega⟩
    have hn := h.1.2.2.1.1
    have hkn : k < n := by omega
    have htb := twA_b htl
    have e900 : mR m 900 = mR mx 900 := hf.2.2.2.1 900 (by decide) (by decide)
    have e0 : mI m (64 * mR mx 900 + 0) = nI (clLast 1 10 cs) := by rw [hf.1 _ (by rw [h900]; omega) (by rw [h900]; omega)]; exact hdue
    obtain ⟨m1, q1, q2, q3, q4⟩ := x_tryDays (due := nI (clLast 1 10 cs)) h hkn (Or.inr ⟨rfl, rfl⟩)
    have hf1 := hf.ft q2 q3.x.1 q3.x.2
    show ∃ m', fb_X6_forged_27 _ _ _ _ = _ ∧ _
    unfold fb_X6_forged_27
    rw [hf.1 896 (by decide) (by decide), hn896, if_neg (nI_ge hkn (by omega)), e900, chR_t ht, e0, q1, bnd_some, x_forged_in (n := n) (pd := pd) (cs := cs) (due := nI (clLast 1 10 cs)) (dt := dt) (yr := yr) (h.1.2.2.1.2 k hkn).2.2.1 (by rw [hf1.2.1 17 (by decide) (by decide) (by decide)]; exact h17 k hkn) q3.x.2 q4]
    unfold fgO
    cases fnd (fgP n pd cs (nI (clLast 1 10 cs)) dt yr y k) 0 12 with
    | some d => exact ⟨m1, rfl, hf1⟩
    | none =>
      show ∃ m', f_X6_forged_27 F' m1 y (nI k + 1) = _ ∧ _
      rw [nI_1]
      exact ih (k + 1) m1 F' (by omega) (by omega) hf1 q3
section M
variable {m : mM} {n : Nat} {pd : Nat → Nat → Nat} {tw : Nat} {cs : List CL} {due : Int32} {pu : Nat → Int32} {dt yr : Nat}
theorem m_forged_in {p : Nat} {y : Int32} {K : mM → Int32 → Int32 → Int32 → fR Int32} (h : MR m n pd tw cs due pu dt yr) (hp : p < n) : ∃ m', f_X7_forged_43 K 1000 m y (-5) (nI p) (nI (pd 2 p)) 0 = K m' y (match fnd (fgP n pd cs due dt yr y p) 0 12 with | some d => nI (100 * p + d) | none => -5) (nI p + 1) ∧ FY m m' := by
  have hn := h.1.1.2.1.1
  have hb := (h.1.1.2.1.2 p hp).2.2.1
  have h3g : (mA m 3).getD p 0 = nI (pd 2 p) := (h.1.1.2.2.2 p hp).2.2.1
  have n5 : ¬ (0 : Int32) ≤ -5 := by decide
  have back : ∀ (m1 : mM) (pd1 : Nat → Nat → Nat) (v : Int32), MR m1 n pd1 tw cs due pu dt yr → (∀ x, (mA m1 3).set p x = (mA m 3).set p x) → (∀ k, k ≠ 31 → k ≠ 32 → mI m1 k = mI m k) → (∀ d, d ≠ 3 → ¬ (17 ≤ d ∧ d ≤ 20) → mA m1 d = mA m d) → (∀ d, mL m1 d = mL m d) → (∀ k, mR m1 k = mR m k) → f_X7_forged_97 K m1 y v (nI p) (nI (pd 2 p)) = K (wA m1 3 (mA m 3)) y v (nI p + 1) ∧ FY m (wA m1 3 (mA m 3)) := by
    intro m1 pd1 v h1 e2 f1 f2 f3 f4
    have hl := h1.1.1.2.2.1.2.2.1
    have es : (mA m1 3).set p (nI (pd 2 p)) = mA m 3 := by rw [e2, ← h3g]; exact set_self
    refine ⟨?_, f1, fun d hd => ?_, f3, f4, h1.2.2.2.2.2.2.2.2⟩
    · unfold f_X7_forged_97
      rw [sA_at0 (by omega) (by omega), Option.bind_some, es]
    · rw [mA_wA]
      by_cases e : d = 3
      · rw [if_pos e, e]
      · rw [if_neg e]; exact f2 d e hd
  have main : ∀ (j d : Nat) (m1 : mM) (pd1 : Nat → Nat → Nat) (F : Nat), d + j = 12 → j + 1 < F → MR m1 n pd1 tw cs due pu dt yr → (∀ x, pdu pd1 2 p x = pdu pd 2 p x) → (∀ x, (mA m1 3).set p x = (mA m 3).set p x) → (∀ k, k ≠ 31 → k ≠ 32 → mI m1 k = mI m k) → (∀ d, d ≠ 3 → ¬ (17 ≤ d ∧ d ≤ 20) → mA m1 d = mA m d) → (∀ d, mL m1 d = mL m d) → (∀ k, mR m1 k = mR m k) → ∃ m', f_X7_forged_43 K F m1 y (-5) (nI p) (nI (pd 2 p)) (nI d) = K m' y (match fnd (fgP n pd cs due dt yr y p) d j with | some d => nI (100 * p + d) | none => -5) (nI p + 1) ∧ FY m m' := by
    intro j
    induction j with
    | zero =>
      intro d m1 pd1 F hd hF h1 e1 e2 f1 f2 f3 f4
      obtain ⟨F', rfl⟩ : ∃ F', F = F' + 1 := ⟨F - 1, by omega⟩
      obtain rfl : d = 12 := by omega
      obtain ⟨b1, b2⟩ := back m1 pd1 (-5) h1 e2 f1 f2 f3 f4
      refine ⟨_, ?_, b2⟩
      show fb_X7_forged_43 _ _ _ _ _ _ _ _ = _
      unfold fb_X7_forged_43
      rw [if_pos (show (12 : Int32) ≤ nI 12 by decide), b1]; rfl
    | succ j ih =>
      intro d m1 pd1 F hd hF h1 e1 e2 f1 f2 f3 f4
      obtain ⟨F', rfl⟩ : ∃ F', F = F' + 1 := ⟨F - 1, by omega⟩
      have hl := h1.1.1.2.2.1.2.2.1
      have h2 := h1.set (Or.inr ⟨rfl, rfl⟩) hp (x := d) (by omega)
      have g2 : ∀ i, i ≠ 3 → ¬ (17 ≤ i ∧ i ≤ 20) → mA (wA m1 3 ((mA m1 3).set p (nI d))) i = mA m i := fun i z1 z2 => by rw [mA_wA, if_neg z1]; exact f2 i z1 z2
      show ∃ m', fb_X7_forged_43 _ _ _ _ _ _ _ _ = _ ∧ _
      unfold fb_X7_forged_43
      rw [if_neg (show ¬ (12 : Int32) ≤ nI d from (nI_ge (by omega) (by decide) : ¬ nI 12 ≤ nI d)), if_neg n5, sA_at0 (by omega) (by omega), Option.bind_some, fnd_s, nI_1]
      by_cases c : d = pd 2 p
      · rw [if_pos (congrArg nI c), if_neg (by unfold fgP; rw [decide_eq_false (fun z => z c)]; exact Bool.false_ne_true)]
        exact ih (d + 1) _ (pdu pd1 2 p d) F' (by omega) (by omega) h2 (fun x => by rw [pdu_pdu, e1]) (fun x => by rw [mA_wA, if_pos rfl, List.set_set, e2]) f1 g2 f3 f4
      · obtain ⟨m2, r1, r2, r3⟩ := m_layYear h2
        have ev : gY n (pdu pd1 2 p d) cs due dt yr p = vB n pd cs due dt yr 2 p d := by rw [e1]; rfl
        have h3 := h2.fy r2
        have E2 : ∀ x, (mA m2 3).set p x = (mA m 3).set p x := fun x => by rw [r2.2.1 3 (by decide), mA_wA, if_pos rfl, List.set_set, e2]
        have F1 : ∀ k, k ≠ 31 → k ≠ 32 → mI m2 k = mI m k := fun k z1 z2 => (r2.1 k z1 z2).trans (f1 k z1 z2)
        have F2 : ∀ i, i ≠ 3 → ¬ (17 ≤ i ∧ i ≤ 20) → mA m2 i = mA m i := fun i z1 z2 => (r2.2.1 i z2).trans (g2 i z1 z2)
        have F3 : ∀ i, mL m2 i = mL m i := fun i => (r2.2.2.1 i).trans (f3 i)
        have F4 : ∀ i, mR m2 i = mR m i := fun i => (r2.2.2.2.1 i).trans (f4 i)
        unfold f_X7_yearOf
        rw [if_neg (fun z => c ((nI_eq (by omega) (by omega)).mp z)), r1, bnd_some, gA_at (by rw [r2.2.2.2.2.2.2.2]; omega) (by omega), r3 p hp, Option.bind_some, bnd_some, ev]
        by_cases e : vB n pd cs due dt yr 2 p d = y
        · rw [if_pos e, if_pos (by unfold fgP; rw [decide_eq_true c, decide_eq_true e]; rfl), show (100 : Int32) = nI 100 from rfl, pk_mul, nI_add, nmI_eq]
          obtain ⟨F'', rfl⟩ : ∃ F'', F' = F'' + 1 := ⟨F' - 1, by omega⟩
          obtain ⟨b1, b2⟩ := back m2 _ (nI (100 * p + d)) h3 E2 F1 F2 F3 F4
          refine ⟨_, ?_, b2⟩
          show fb_X7_forged_43 _ _ _ _ _ _ _ _ = _
          unfold fb_X7_forged_43
          rw [if_pos (show (0 : Int32) ≤ nI (100 * p + d) from (nI_le (Nat.zero_le _) (by omega) : nI 0 ≤ _))]
          split
          · exact b1
          · exact b1
        · rw [if_neg e, if_neg (by unfold fgP; rw [decide_eq_false e, Bool.and_false]; exact Bool.false_ne_true)]
          exact ih (d + 1) m2 (pdu pd1 2 p d) F' (by omega) (by omega) h3 (fun x => by rw [pdu_pdu, e1]) E2 F1 F2 F3 F4
  exact main 12 0 m pd 1000 (by omega) (by omega) h (fun _ => rfl) (fun _ => rfl) (fun _ _ _ => rfl) (fun _ _ _ => rfl) (fun _ => rfl) (fun _ => rfl)
theorem FY.self (h : MR m n pd tw cs due pu dt yr) : FY m m := ⟨fun _ _ _ => rfl, fun _ _ => rfl, fun _ => rfl, fun _ => rfl, h.2.2.2.2.2.2.2.2⟩
theorem m_forged_lp {y : Int32} : ∀ (j k : Nat) (m : mM) (F : Nat), k + j = n → j + 1 < F → MR m n pd tw cs due pu dt yr → ∃ m', f_X7_forged_20 F m y (-5) (nI k) = some (fgO n pd cs due dt yr y k j, m') ∧ FY m m' := by
  intro j
  induction j with
  | zero =>
    intro k m F hk hF h
    obtain ⟨F', rfl⟩ : ∃ F', F = F' + 1 := ⟨F - 1, by omega⟩
    obtain rfl : k = n := by omega
    have hn := h.1.1.2.1.1
    refine ⟨m, ?_, FY.self h⟩
    show fb_X7_forged_20 _ _ _ _ _ = _
    unfold fb_X7_forged_20
    rw [h.1.1.1, if_pos (nI_le (Nat.le_refl _) (by omega))]; rfl
  | succ j ih =>
    intro k m F hk hF h
    obtain ⟨F', rfl⟩ : ∃ F', F = F' + 1 := ⟨F - 1, by omega⟩
    have hn := h.1.1.2.1.1
    have hkn : k < n := by omega
    obtain ⟨m1, q1, q2⟩ := m_forged_in (y := y) (K := fun m y1 y2 y3 => f_X7_forged_20 F' m y1 y2 y3) h hkn
    show ∃ m', fb_X7_forged_20 _ _ _ _ _ = _ ∧ _
    unfold fb_X7_forged_20
    rw [h.1.1.1, if_neg (nI_ge hkn (by omega)), if_neg (show ¬ (0 : Int32) ≤ -5 by decide), (h.1.1.g hkn).2.2.1, Option.bind_some, q1]
    unfold fgO
    cases hf : fnd (fgP n pd cs due dt yr y k) 0 12 with
    | none =>
      show ∃ m', f_X7_forged_20 F' m1 y (-5) (nI k + 1) = _ ∧ _
      rw [nI_1]
      obtain ⟨m2, s1, s2⟩ := ih (k + 1) m1 F' (by omega) (by omega) (h.fy q2)
      exact ⟨m2, s1, q2.trans s2⟩
    | some d =>
      have hd := fnd_lt hf
      obtain ⟨F'', rfl⟩ : ∃ F'', F' = F'' + 1 := ⟨F' - 1, by omega⟩
      refine ⟨m1, ?_, q2⟩
      show fb_X7_forged_20 _ m1 y (nI (100 * k + d)) (nI k + 1) = some (nI (100 * k + d), m1)
      unfold fb_X7_forged_20
      rw [if_pos (show (0 : Int32) ≤ nI (100 * k + d) from (nI_le (Nat.zero_le _) (by omega) : nI 0 ≤ _))]
      split
      · rfl
      · rfl
end M
theorem op_forged (h : RR mx mm) (p : Int32) : OPe (f_X6_forged mx p) (f_X7_forged mm p) := by
  obtain ⟨W, S, hr⟩ := id h
  obtain ⟨cs, hg⟩ := RRs.rg hr
  have hn := hg.2.1.1.1
  unfold f_X6_forged f_X7_forged
  rw [op_in (n := 10001) (in_lit (by decide) (by decide)), bnd_some]
  by_cases t0 : p < 0
  · rw [if_pos t0, inR_low t0]; exact ⟨_, mx, mm, rfl, rfl, h⟩
  rw [if_neg t0]
  have e1 : (10000 : Int32).toInt = 10000 := by decide
  have e2 : (nI 10001).toInt = 10001 := by decide
  by_cases t1 : p ≤ 10000
  · rw [if_pos t1, inR_mid t0 (n := 10001) (fun z => by rw [Int32.le_iff_toInt_le] at t1 z; omega), zB_t, if_neg i0]
    obtain ⟨c1, c2, c3⟩ := hg.copy
    have htw := hg.tw
    obtain ⟨m1, x1, x2⟩ := x_forged_lp (y := p) (dt := S.2.2.2.1) (yr := S.2.2.2.2.1) (n := S.1) (pd := S.2.1) (t := S.2.2.2.2.2.2) (cs := cs) htw.1 hg.2.2.2.2.2.2.1.2.1 hg.2.2.2.2.2.2.1.1 htw.2.1 hg.1.2.1.1.1 (fun k hk => (hg.2.2.2.2.2.1.g hk).2.2.1) S.1 0 (cpM mx 32 14) 1000 (by omega) (by omega) c2 c3
    obtain ⟨m2, y1, y2⟩ := m_forged_lp (y := p) S.1 0 mm 1000 (by omega) (by omega) hg.mr
    rw [c1, bnd_some, show (0 : Int32) = nI 0 from rfl, x1, y1]
    exact ⟨_, m1, m2, rfl, rfl, h.frS x2 (y2.sm hg.2.2.2.2.1)⟩
  · rw [if_neg t1, inR_high (n := 10001) (by rw [Int32.le_iff_toInt_le] at t1 ⊢; omega)]; exact ⟨_, mx, mm, rfl, rfl, h⟩
end OPS8
end
-- 22z.ops9.lean.txt
section
/-! OPERATIONS: high, last, reckoning, judge -/
section OPS9
variable {mx mm : mM}
def hiP (n : Nat) (pd : Nat → Nat → Nat) (cs : List CL) (dt yr p : Nat) : Nat → Bool := fun i => decide (gY n pd cs (nI (5 * i)) dt yr p < (bst (vB n pd cs (nI (5 * i)) dt yr 3 p) 12).2)
theorem x_high_lp {n : Nat} {pd : Nat → Nat → Nat} {t : Nat} {cs : List CL} {dt yr p : Nat} (hp : p < n) (l18 : (mA mx 18).length = 7) (h18 : (mA mx 18).getD p 0 = nI (pd 3 p)) : ∀ (j i : Nat) (m : mM) (F : Nat), i + j = 20 → j < F → FSX mx m → TR m n pd t cs dt yr → ∃ m', f_X6_high_23 F m (nI p) (nI (5 * i)) = some (match fnd (hiP n pd cs dt yr p) i j with | some i => nI (5 * i) | none => -5, m') ∧ FSX mx m' := by
  intro j
  induction j with
  | zero =>
    intro i m F hi hF hf h
    obtain ⟨F', rfl⟩ : ∃ F', F = F' + 1 := ⟨F - 1, by omega⟩
    obtain rfl : i = 20 := by omega
    refine ⟨m, ?_, hf⟩
    show fb_X6_high_23 _ _ _ _ = _
    unfold fb_X6_high_23
    rw [if_pos (show (100 : Int32) ≤ nI (5 * 20) by decide)]; rfl
  | succ j ih =>
    intro i m F hi hF hf h
    obtain ⟨F', rfl⟩ : ∃ F', F = F' + 1 := ⟨F - 1, by omega⟩
    have hn := h.1.2.2.1.1
    have r4 := (h.1.2.2.1.2 p hp).2.2.2.1
    obtain ⟨m1, q1, q2, q3⟩ := x_betterPlan (due := nI (5 * i)) h hp
    have hf1 := hf.ft q2 q3.x.1 q3.x.2
    have hb := bst_lt (v := vB n pd cs (nI (5 * i)) dt yr 3 p) 12 (by decide)
    have e18 : mA m1 18 = mA mx 18 := hf1.2.1 18 (by decide) (by decide) (by decide)
    show ∃ m', fb_X6_high_23 _ _ _ _ = _ ∧ _
    unfold fb_X6_high_23
    rw [if_neg (show ¬ (100 : Int32) ≤ nI (5 * i) from (nI_ge (by omega) (by decide) : ¬ nI 100 ≤ nI (5 * i))), q1, bnd_some, e18, gA_at (by omega) (by omega), h18, Option.bind_some, fnd_s]
    by_cases c : gY n pd cs (nI (5 * i)) dt yr p < (bst (vB n pd cs (nI (5 * i)) dt yr 3 p) 12).2
    · rw [if_pos c, if_neg (fun z => bst_ne c ((nI_eq (by omega) (by omega)).mp z)), if_pos (show hiP n pd cs dt yr p i = true from decide_eq_true c)]
      exact ⟨m1, rfl, hf1⟩
    · rw [if_neg c, if_pos rfl, if_neg (show ¬ hiP n pd cs dt yr p i = true from fun z => c (of_decide_eq_true z)), show (5 : Int32) = nI 5 from rfl, nI_add, show 5 * i + 5 = 5 * (i + 1) by omega]
      exact ih (i + 1) m1 F' (by omega) (by omega) hf1 q3
section M
variable {m : mM} {n : Nat} {pd : Nat → Nat → Nat} {tw : Nat} {cs : List CL} {due : Int32} {pu : Nat → Int32} {dt yr : Nat}
theorem MR.fb {m' : mM} (h : MR m n pd tw cs due pu dt yr) (f : FB m m') : MR m' n pd tw cs due pu dt yr := by
  obtain ⟨a1, a2, a3, a4, a5, a6, a7, a8, a9⟩ := h
  have hI : ∀ k, k ≠ 31 → k ≠ 32 → k ≠ 34 → k ≠ 35 → mI m' k = mI m k := f.1
  refine ⟨a1.fy (hI 0 (by decide) (by decide) (by decide) (by decide)) (hI 11 (by decide) (by decide) (by decide) (by decide)) (fun c _ h2 => f.2.1 c h2), ?_, by rw [hI 1 (by decide) (by decide) (by decide) (by decide)]; exact a3, by rw [hI 2 (by decide) (by decide) (by decide) (by decide)]; exact a4, a5, a6, by rw [f.2.1 5 (by decide)]; exact a7, by rw [f.2.1 5 (by decide)]; exact a8, f.2.2.2.2⟩
  unfold DUE at a2 ⊢
  rw [hI 27 (by decide) (by decide) (by decide) (by decide)]; exact a2
theorem MR.du27 {x : Nat} (h : MR m n pd tw cs due pu dt yr) (hx : x < 2 ^ 31) : MR (wI m 27 (nI x)) n pd tw cs (nI x) pu dt yr := by
  obtain ⟨a1, a2, a3, a4, a5, a6, a7, a8, a9⟩ := h
  exact ⟨a1.fy rfl rfl (fun c _ _ => rfl), Or.inr ⟨rfl, (nI_le (Nat.zero_le _) hx : nI 0 ≤ nI x)⟩, a3, a4, a5, a6, a7, a8, a9⟩
/-- frame of high -/
def FH (m m' : mM) : Prop := (∀ k, k ≠ 27 → k ≠ 31 → k ≠ 32 → k ≠ 34 → k ≠ 35 → mI m' k = mI m k) ∧ (∀ c, ¬ (17 ≤ c ∧ c ≤ 20) → mA m' c = mA m c) ∧ (∀ c, mL m' c = mL m c) ∧ (∀ k, mR m' k = mR m k)
theorem m_high_lp {p : Nat} (hp : p < n) {m0 : mM} : ∀ (j i : Nat) (m : mM) (due : Int32) (F : Nat), i + j = 20 → j + 1 < F → FH m0 m → MR m n pd tw cs due pu dt yr → ∃ m' d', f_X7_high_15 F m (nI p) (-5) (nI (5 * i)) = some (match fnd (hiP n pd cs dt yr p) i j with | some i => nI (5 * i) | none => -5, wI m' 27 (-1)) ∧ FH m0 m' ∧ MR m' n pd tw cs d' pu dt yr := by
  intro j
  induction j with
  | zero =>
    intro i m due F hi hF hf h
    obtain ⟨F', rfl⟩ : ∃ F', F = F' + 1 := ⟨F - 1, by omega⟩
    obtain rfl : i = 20 := by omega
    refine ⟨m, due, ?_, hf, h⟩
    show fb_X7_high_15 _ _ _ _ _ = _
    unfold fb_X7_high_15
    rw [if_pos (show (100 : Int32) ≤ nI (5 * 20) by decide)]; rfl
  | succ j ih =>
    intro i m due F hi hF hf h
    obtain ⟨F', rfl⟩ : ∃ F', F = F' + 1 := ⟨F - 1, by omega⟩
    obtain ⟨m1, q1, q2, q3⟩ := m_wouldChange (h.du27 (x := 5 * i) (by omega)) hp
    have hf1 : FH m0 m1 := ⟨fun k k1 k2 k3 k4 k5 => by rw [q2.1 k k2 k3 k4 k5, mI_wI, if_neg k1]; exact hf.1 k k1 k2 k3 k4 k5, fun c hc => (q2.2.1 c hc).trans (hf.2.1 c hc), fun c => (q2.2.2.1 c).trans (hf.2.2.1 c), fun k => (q2.2.2.2.1 k).trans (hf.2.2.2 k)⟩
    have h1 := (h.du27 (x := 5 * i) (by omega)).fb q2
    show ∃ m' d', fb_X7_high_15 _ _ _ _ _ = _ ∧ _
    unfold fb_X7_high_15
    rw [if_neg (show ¬ (100 : Int32) ≤ nI (5 * i) from (nI_ge (by omega) (by decide) : ¬ nI 100 ≤ nI (5 * i))), if_neg (show ¬ (0 : Int32) ≤ -5 by decide), nmM_eq, q1, bnd_some, fnd_s]
    have e5 : nI (5 * i) + 5 = nI (5 * (i + 1)) := by rw [show (5 : Int32) = nI 5 from rfl, nI_add, show 5 * i + 5 = 5 * (i + 1) by omega]
    by_cases c : gY n pd cs (nI (5 * i)) dt yr p < (bst (vB n pd cs (nI (5 * i)) dt yr 3 p) 12).2
    · rw [if_pos c, if_neg (show ¬ (1 : Int32) = 0 by decide), if_pos (show hiP n pd cs dt yr p i = true from decide_eq_true c), e5]
      obtain ⟨F'', rfl⟩ : ∃ F'', F' = F'' + 1 := ⟨F' - 1, by omega⟩
      refine ⟨m1, _, ?_, hf1, h1⟩
      show fb_X7_high_15 _ _ _ _ _ = _
      unfold fb_X7_high_15
      split
      · rfl
      · rw [if_pos (show (0 : Int32) ≤ nI (5 * i) from (nI_le (Nat.zero_le _) (by omega) : nI 0 ≤ _))]; rfl
    · rw [if_neg c, if_pos rfl, if_neg (show ¬ hiP n pd cs dt yr p i = true from fun z => c (of_decide_eq_true z)), e5]
      exact ih (i + 1) m1 _ F' (by omega) (by omega) hf1 h1
end M
theorem op_high (h : RR mx mm) (p : Int32) : OPe (f_X6_high mx p) (f_X7_high mm p) := by
  obtain ⟨W, S, hr⟩ := id h
  obtain ⟨cs, hg⟩ := RRs.rg hr
  unfold f_X6_high f_X7_high
  rw [hg.per.1, hg.per.2, bnd_some, bnd_some]
  cases hp : inR S.1 p with
  | false => exact ⟨_, mx, mm, rfl, rfl, h⟩
  | true =>
    have hn := hg.2.1.1.1
    obtain ⟨k, hk, rfl⟩ := inR_t (by omega) hp
    obtain ⟨c1, c2, c3⟩ := hg.copy
    have hmr := hg.mr
    have hsc := hg.2.2.2.2.1
    obtain ⟨m1, x1, x2⟩ := x_high_lp hk hg.1.1.1.2.2.2.1 (hg.1.2.1.2.1 k hk).2.2.2.1 20 0 (cpM mx 32 14) 1000 (by omega) (by omega) c2 c3
    obtain ⟨m2, d2, y1, y2, y3⟩ := m_high_lp (m0 := mm) hk 20 0 mm _ 1000 (by omega) (by omega) ⟨fun _ _ _ _ _ _ => rfl, fun _ _ => rfl, fun _ => rfl, fun _ => rfl⟩ hmr
    rw [zB_t, if_neg i0, if_neg i0, c1, bnd_some]
    have x1' : f_X6_high_23 1000 (cpM mx 32 14) (nI k) 0 = _ := x1
    have y1' : f_X7_high_15 1000 mm (nI k) (-5) 0 = _ := y1
    rw [x1', y1']
    refine ⟨_, m1, wI m2 27 (-1), rfl, rfl, h.frS x2 ⟨fun j j1 j2 j3 j4 => ?_, fun c hc => y2.2.1 c (by omega), y2.2.2.1, y2.2.2.2, ?_⟩⟩
    · rw [mI_wI]
      by_cases e : j = 27
      · rw [if_pos e, e]; exact hsc.2.2.2.2.2.2.symm
      · rw [if_neg e]; exact y2.1 j e j1 j2 j3 j4
    · have z := y3.2.2.2.2.2.2.2.2
      exact ⟨z.1, z.2.1, z.2.2.1, z.2.2.2, (y2.2.1 21 (by decide) ▸ hsc.2.2.2.2.1 : (mA m2 21).length = 7), (y2.2.1 22 (by decide) ▸ hsc.2.2.2.2.2.1 : (mA m2 22).length = 7), rfl⟩
/-! the sum of what others gain -/
def gS (pd : Nat → Nat → Nat) (g : Nat → Int32) (y : Int32) : Nat → Int32
  | 0 => 0
  | k + 1 => if nI k = y ∨ pd 4 k = 0 then gS pd g y k else gS pd g y k + g k
theorem x_gain {m : mM} {c n : Nat} {pd : Nat → Nat → Nat} {g : Nat → Int32} {y : Int32} (h : PXr m c n pd) (hl : (mA m 42).length = 7) (hg : ∀ p, p < n → (mA m 42).getD p 0 = g p) : f_X6_gainOfOthers m c y = some (gS pd g y n, m) := by
  unfold f_X6_gainOfOthers
  have hn := h.2.2.1.1
  have key := lp_upA (f := fun F m a i => f_X6_gainOfOthers_5 F m c y a i) (fb := fun K m a i => fb_X6_gainOfOthers_5 (fun m _ _ a i => K m a i) m c y a i) (fun _ _ _ _ => rfl) (n := n) (G := fun _ => m) (A := fun k => gS pd g y k) (E := some (gS pd g y n, m)) (fun k hk K => ?_) (fun K => ?_) n 0 1000 (by omega) (by omega)
  · exact key
  · obtain ⟨r1, r2, r3, r4, r5, r6⟩ := h.2.2.1.2 k hk
    show fb_X6_gainOfOthers_5 _ _ _ _ _ _ = K m (if nI k = y ∨ pd 4 k = 0 then gS pd g y k else gS pd g y k + g k) _
    unfold fb_X6_gainOfOthers_5
    rw [h.2.1, if_neg (nI_ge hk (by omega)), nI_1]
    by_cases c1 : nI k = y
    · rw [if_pos c1, if_pos (Or.inl c1)]
    · rw [if_neg c1, (h.g hk).2.2.2.2.1, Option.bind_some]
      by_cases c2 : pd 4 k = 0
      · rw [if_pos ((nI_z (by omega)).mpr c2), if_pos (Or.inr c2)]
      · rw [if_neg (fun z => c2 ((nI_z (by omega)).mp z)), if_neg (fun z => z.elim c1 c2), gA_at (by omega) (by omega), hg k hk, Option.bind_some, nmI_eq]
  · show fb_X6_gainOfOthers_5 _ _ _ _ _ _ = _
    unfold fb_X6_gainOfOthers_5
    rw [h.2.1, if_pos (nI_le (Nat.le_refl _) (by omega))]
theorem nI_m1 {k : Nat} (h : k < 2 ^ 31) : ¬ nI k = -1 := fun z => by
  have e := congrArg Int32.toInt z
  rw [nI_toInt h] at e
  have e1 : (-1 : Int32).toInt = -1 := by decide
  omega
theorem m_allMore {m : mM} {n : Nat} {pd : Nat → Nat → Nat} {tw : Nat} {cs : List CL} {due : Int32} {pu : Nat → Int32} {dt yr : Nat} (h : MR m n pd tw cs due pu dt yr) : ∃ m', f_X7_allMore m = some (gS pd (gY n pd cs due dt yr) (-1) n, m') ∧ FY m m' ∧ ∀ p, p < n → (mA m' 20).getD p 0 = gY n pd cs due dt yr p := by
  unfold f_X7_allMore
  have hn := h.1.1.2.1.1
  obtain ⟨m1, r1, r2, r3⟩ := m_layYear h
  have h1 := h.fy r2
  rw [r1, bnd_some]
  refine ⟨m1, ?_, r2, r3⟩
  have key := lp_upA (f := fun F m a i => f_X7_allMore_8 F m a i) (fb := fun K m a i => fb_X7_allMore_8 (fun m a i => K m a i) m a i) (fun _ _ _ _ => rfl) (n := n) (G := fun _ => m1) (A := fun k => gS pd (gY n pd cs due dt yr) (-1) k) (E := some (gS pd (gY n pd cs due dt yr) (-1) n, m1)) (fun k hk K => ?_) (fun K => ?_) n 0 1000 (by omega) (by omega)
  · exact key
  · obtain ⟨q1, q2, q3, q4, q5, q6⟩ := h1.1.1.2.1.2 k hk
    show fb_X7_allMore_8 _ _ _ _ = K m1 (if nI k = -1 ∨ pd 4 k = 0 then _ else _) _
    unfold fb_X7_allMore_8
    rw [h1.1.1.1, if_neg (nI_ge hk (by omega)), (h1.1.1.g hk).2.2.2.2.1, Option.bind_some, nI_1]
    by_cases c2 : pd 4 k = 0
    · rw [if_pos ((nI_z (by omega)).mpr c2), if_pos (Or.inr c2), nmI_eq, Int32.add_zero]
    · rw [if_neg (fun z => c2 ((nI_z (by omega)).mp z)), if_neg (fun z => z.elim (nI_m1 (by omega)) c2), gA_at (by rw [r2.2.2.2.2.2.2.2]; omega) (by omega), r3 k hk, Option.bind_some, nmI_eq]
  · show fb_X7_allMore_8 _ _ _ _ = _
    unfold fb_X7_allMore_8
    rw [h1.1.1.1, if_pos (nI_le (Nat.le_refl _) (by omega))]
theorem gS_p {pd : Nat → Nat → Nat} {g : Nat → Int32} {p : Nat} (hp : p < 2 ^ 31) : ∀ {k : Nat}, k < 2 ^ 31 → gS pd g (-1) k = gS pd g (nI p) k + (if p < k ∧ pd 4 p ≠ 0 then g p else 0)
  | 0, _ => by rw [if_neg (fun z => Nat.not_lt_zero _ z.1)]; rfl
  | k + 1, hk => by
    have ih := gS_p (pd := pd) (g := g) hp (k := k) (by omega)
    show (if nI k = -1 ∨ pd 4 k = 0 then gS pd g (-1) k else gS pd g (-1) k + g k) = (if nI k = nI p ∨ pd 4 k = 0 then gS pd g (nI p) k else gS pd g (nI p) k + g k) + _
    by_cases c : pd 4 k = 0
    · rw [if_pos (Or.inr c), if_pos (Or.inr c), ih]
      by_cases e : p = k
      · subst e; rw [if_neg (fun z => z.2 c), if_neg (fun z => z.2 c)]
      · by_cases e2 : p < k ∧ pd 4 p ≠ 0
        · rw [if_pos e2, if_pos ⟨by omega, e2.2⟩]
        · rw [if_neg e2, if_neg (fun z => e2 ⟨by omega, z.2⟩)]
    · rw [if_neg (fun z => z.elim (nI_m1 (by omega)) c), ih]
      by_cases e : p = k
      · subst e; rw [if_neg (fun z => Nat.lt_irrefl _ z.1), if_pos (Or.inl rfl), if_pos ⟨Nat.lt_succ_self _, c⟩, Int32.add_zero]
      · rw [if_neg (show ¬ (nI k = nI p ∨ pd 4 k = 0) from fun z => z.elim (fun w => e ((nI_eq (by omega) hp).mp w).symm) c), Int32.add_assoc, Int32.add_assoc, Int32.add_comm (g k)]
        by_cases e2 : p < k ∧ pd 4 p ≠ 0
        · rw [if_pos e2, if_pos ⟨by omega, e2.2⟩]
        · rw [if_neg e2, if_neg (fun z => e2 ⟨by omega, z.2⟩)]
/-- a year of today's state -/
theorem RG.year {W : Nat} {S : SS} {cs : List CL} (h : RG mx mm W S cs) : ∃ m1, f_X6_goYear mx 14 (nI (clLast 1 10 cs)) = some ((), m1) ∧ FSX mx m1 ∧ FX mx m1 ∧ PXr m1 14 S.1 S.2.1 ∧ (mA m1 42).length = 7 ∧ ∀ p, p < S.1 → (mA m1 42).getD p 0 = gY S.1 S.2.1 cs (nI (clLast 1 10 cs)) S.2.2.2.1 S.2.2.2.2.1 p := by
  obtain ⟨⟨h1, h2, h3, h4⟩, h5, h6, h7, h8, h9, h10, h11, h12⟩ := h
  obtain ⟨m1, q1, q2, q3, q4⟩ := x_goYear (due := nI (clLast 1 10 cs)) h9 h10 ⟨h7.2.2.1, h7.2.2.2.1, h7.2.2.2.2.1, h7.2.2.2.2.2⟩ h2.1.2.1 h5.2.1 h2.1.2.2.1 (by have := h5.2.2.1; omega)
  exact ⟨m1, q1, FSX.of h7 q2 q3.1 q3.2.1 q3.2.2.1 q3.2.2.2, q2, h9.fr q2, q3.1, q4⟩
end OPS9
end
