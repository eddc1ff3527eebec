/-! OPERATIONS: last, reckoning -/
section OPS10
variable {mx mm : mM}
theorem RG.fx {W : Nat} {S : SS} {cs : List CL} {m1 : mM} (hr : RRs W S mx mm) (h : RG mx mm W S cs) (fs : FSX mx m1) (f : FX mx m1) : RG m1 mm W S cs := by
  have h1 := hr.frS fs (FSM.rfl h.2.2.2.2.1)
  obtain ⟨g1, g2, g3, g4, g5, g6, g7, g8, g9⟩ := h
  exact ⟨h1.1, g2, h1.2.2.2.2.2.2.1, fs.2.2.2.2, g5, g6.fr f, g7.fr (Or.inl rfl) f, g8, g9⟩
theorem TR.year {m : mM} {n : Nat} {pd : Nat → Nat → Nat} {t : Nat} {cs : List CL} {dt yr : Nat} (h : TR m n pd t cs dt yr) : isC true 5 (mR m 2052) = true ∧ ∃ m', f_X6_goYear m 32 (mI m (64 * mR m 2052 + 0)) = some ((), m') ∧ FT m m' ∧ TR m' n pd t cs dt yr ∧ ∀ p, p < n → (mA m' 42).getD p 0 = gY n pd cs (nI (clLast 1 10 cs)) dt yr p := by
  obtain ⟨a1, a2, a3, a4, a5, a6, a7, a8⟩ := id h
  obtain ⟨t1, t2, t3, t4, t5⟩ := id a2
  have e : mR m 2052 = twA t := t2
  obtain ⟨m', q1, q2, q3, q4⟩ := x_goYear (due := nI (clLast 1 10 cs)) a1 a2 a3 a4 a5 a6 (by omega)
  rw [e, show mI m (64 * twA t + 0) = nI (clLast 1 10 cs) from t4.1.1]
  exact ⟨twA_ok t1, m', q1, ⟨q2.1, fun c _ hc => q2.2.1 c hc, q2.2.2.1, q2.2.2.2⟩, h.fr q2 q3, q4⟩
theorem TR.gone {m : mM} {n : Nat} {pd : Nat → Nat → Nat} {t : Nat} {cs : List CL} {dt yr p : Nat} (h : TR m n pd t cs dt yr) (hp : p < n) : TR (wA m 38 ((mA m 38).set p 0)) n (pdu pd 4 p 0) t cs dt yr := by
  obtain ⟨⟨h0, h1, h2, h3, h4⟩, a2, a3, a4, a5, a6, a7, a8⟩ := h
  exact ⟨⟨h0, h1, h2.upd (by decide), h3.there (Or.inl rfl), h4.there h3 h2.1 hp⟩, a2.fr2 rfl (fun _ _ => rfl) (fun d hd => by rw [mA_wA, if_neg (by omega)]), a3, a4, a5, a6, a7, a8⟩
theorem MR.gone {m : mM} {n : Nat} {pd : Nat → Nat → Nat} {tw : Nat} {cs : List CL} {due : Int32} {pu : Nat → Int32} {dt yr p : Nat} (h : MR m n pd tw cs due pu dt yr) (hp : p < n) : MR (wA m 7 ((mA m 7).set p 0)) n (pdu pd 4 p 0) tw cs due pu dt yr := by
  obtain ⟨⟨⟨h1, h2, h3, h4⟩, hM⟩, a2, a3, a4, a5, a6, a7⟩ := h
  exact ⟨⟨⟨h1, h2.upd (by decide), h3.there (Or.inl rfl), h4.there h3 h2.1 hp⟩, hM⟩, a2, a3, a4, a5, a6, a7⟩
theorem m_othersMore {m : mM} {n : Nat} {pd : Nat → Nat → Nat} {tw : Nat} {cs : List CL} {due : Int32} {pu : Nat → Int32} {dt yr p : Nat} (h : MR m n pd tw cs due pu dt yr) (hp : p < n) : ∃ m', f_X7_othersMore m (nI p) = some (gS pd (gY n pd cs due dt yr) (nI p) n, m') ∧ FY m m' := by
  unfold f_X7_othersMore
  have hn := h.1.1.2.1.1
  obtain ⟨m1, r1, r2, r3⟩ := m_allMore h
  have h1 := h.fy r2
  have r5 := (h.1.1.2.1.2 p hp).2.2.2.2.1
  have e := gS_p (pd := pd) (g := gY n pd cs due dt yr) (p := p) (by omega) (k := n) (by omega)
  rw [r1, bnd_some, (h1.1.1.g hp).2.2.2.2.1, Option.bind_some]
  refine ⟨m1, ?_, r2⟩
  by_cases c : pd 4 p = 0
  · rw [if_pos ((nI_z (by omega)).mpr c), e, if_neg (fun z => z.2 c), Int32.add_zero]
  · rw [if_neg (fun z => c ((nI_z (by omega)).mp z)), gA_at (by rw [r2.2.2.2.2.2.2.2]; omega) (by omega), r3 p hp, Option.bind_some, e, if_pos ⟨hp, c⟩, Int32.add_sub_cancel]
theorem op_last (h : RR mx mm) (p : Int32) : OPe (f_X6_last mx p) (f_X7_last mm p) := by
  obtain ⟨W, S, hr⟩ := id h
  have hr : RRs W S mx mm := hr
  obtain ⟨cs, hg⟩ := RRs.rg hr
  unfold f_X6_last f_X7_last
  rw [hg.per.1, hg.per.2, bnd_some, bnd_some]
  cases hp : inR S.1 p with
  | false => exact ⟨_, mx, mm, rfl, rfl, h⟩
  | true =>
    have hn := hg.2.1.1.1
    obtain ⟨k, hk, rfl⟩ := inR_t (by omega) hp
    have htw := hg.tw
    have hmr := hg.mr
    obtain ⟨m1, x1, x2, x3, x4, x5, x6⟩ := hg.year
    have hg1 := RG.fx hr hg x2 x3
    obtain ⟨c1, c2, c3⟩ := hg1.copy
    have l38 : (mA (cpM m1 32 14) 38).length = 7 := c3.1.2.2.2.1.2.2.2.2.1
    have c4 := c3.gone hk
    obtain ⟨y0, m2, y1, y2, y3, y4⟩ := c4.year
    rw [zB_t, if_neg i0, if_neg i0, chR_t htw.1, htw.2.1, x1, bnd_some, x_gain x4 x5 x6, bnd_some, c1, bnd_some, sA_at3 (by rw [l38]; omega) (by omega) (Or.inl rfl), Option.bind_some, chR_t y0, y1, bnd_some, x_gain y3.1 y3.x.1.1 y4, bnd_some]
    obtain ⟨m3, z1, z2⟩ := m_othersMore hmr hk
    have h3 := hmr.fy z2
    have l7 : (mA m3 7).length = 7 := h3.1.1.2.2.1.2.2.2.2.1
    have v7 : (mA m3 7).getD k 0 = nI (S.2.1 4 k) := (h3.1.1.2.2.2 k hk).2.2.2.2.1
    have r5 := (h3.1.1.2.1.2 k hk).2.2.2.2.1
    have h4 := h3.gone hk
    obtain ⟨m4, w1, w2⟩ := m_othersMore h4 hk
    have e7 : mA m4 7 = (mA m3 7).set k 0 := by rw [w2.2.1 7 (by decide), mA_wA, if_pos rfl]
    have h01 : nI (S.2.1 4 k) = 0 ∨ nI (S.2.1 4 k) = 1 := by
      have : S.2.1 4 k = 0 ∨ S.2.1 4 k = 1 := by omega
      rcases this with z | z
      · exact Or.inl (congrArg nI z)
      · exact Or.inr (congrArg nI z)
    have back : ((mA m3 7).set k 0).set k (nI (S.2.1 4 k)) = mA m3 7 := by rw [List.set_set, ← v7]; exact set_self
    rw [z1, bnd_some, gA_at (by omega) (by omega), v7, Option.bind_some, sA_at3 (by omega) (by omega) (Or.inl rfl), Option.bind_some, w1, bnd_some, sA_at3 (by rw [e7, List.length_set]; omega) (by omega) h01, Option.bind_some, e7, back]
    have hfx : FSX mx m2 := by
      have g : FSX mx (cpM m1 32 14) := ⟨fun k k1 k2 => (c2.1 k k1 k2).trans (x2.1 k k1 k2), fun c e1 e2 e3 => (c2.2.1 c e1 e2 e3).trans (x2.2.1 c e1 e2 e3), fun c => (c2.2.2.1 c).trans (x2.2.2.1 c), fun k k1 k2 => (c2.2.2.2.1 k k1 k2).trans (x2.2.2.2.1 k k1 k2), c2.2.2.2.2⟩
      have g2 : FSX mx (wA (cpM m1 32 14) 38 ((mA (cpM m1 32 14) 38).set k 0)) := by
        refine ⟨g.1, fun c e1 e2 e3 => by rw [mA_wA, if_neg (by omega)]; exact g.2.1 c e1 e2 e3, g.2.2.1, g.2.2.2.1, ⟨c4.1.2.2.2.1, g.2.2.2.2.1.2⟩, c4.x.2, c4.x.1⟩
      exact g2.ft y2 y3.x.1 y3.x.2
    refine ⟨_, m2, wA m4 7 (mA m3 7), rfl, rfl, h.frS hfx ?_⟩
    have f3 : FY mm (wA m4 7 (mA m3 7)) := by
      refine ⟨fun k k1 k2 => ((w2.1 k k1 k2).trans (z2.1 k k1 k2)), fun c hc => ?_, fun c => (w2.2.2.1 c).trans (z2.2.2.1 c), fun k => (w2.2.2.2.1 k).trans (z2.2.2.2.1 k), w2.2.2.2.2⟩
      rw [mA_wA]
      by_cases e : c = 7
      · rw [if_pos e, e]; exact z2.2.1 7 (by decide)
      · rw [if_neg e, w2.2.1 c hc, mA_wA, if_neg e]; exact z2.2.1 c hc
    exact f3.sm hg.2.2.2.2.1
/-! judge -/
theorem op_judge (h : RR mx mm) (p q : Int32) : OPe (f_X6_judge mx p q) (f_X7_judge mm p q) := by
  obtain ⟨W, S, ⟨hX, hS, hM, hQ⟩, hO, hK, hC, hC2, hT, hW, hA, hP⟩ := id h
  obtain ⟨g1, g2, g3, g4, g5⟩ := id hP
  have hn := hO.1.1
  unfold f_X6_judge f_X7_judge
  rw [op_isTape, op7_isTape, bnd_some, bnd_some]
  cases hp : inR 6 p with
  | false => exact ⟨_, mx, mm, rfl, rfl, h⟩
  | true =>
    rw [zB_t, if_neg i0, if_neg i0]
    obtain ⟨t, ht, rfl⟩ := inR_t (by decide) hp
    obtain ⟨s, l, hs, hl, hz, e1, e2, e3, e4, e5, e6⟩ := g5 t ht
    have main : (s = 0 ∨ nI s - 1 = 3) → ∀ (j k F : Nat), k + j = S.1 → j < F → ∃ r, f_X6_judge_38 F mx q (82 + 2 * t) (nI k) = some (r, mx) ∧ f_X7_judge_34 F mm (nI t) q (nI k) = some (r, mm) := by
      intro hs3 j
      induction j with
      | zero =>
        intro k F hk hF
        obtain ⟨F', rfl⟩ : ∃ F', F = F' + 1 := ⟨F - 1, by omega⟩
        obtain rfl : k = S.1 := by omega
        refine ⟨-5, ?_, ?_⟩
        · show fb_X6_judge_38 _ _ _ _ _ = _
          unfold fb_X6_judge_38
          rw [show mI mx 896 = nI S.1 from hS.1.1, if_pos (nI_le (Nat.le_refl _) (by omega))]
        · show fb_X7_judge_34 _ _ _ _ _ = _
          unfold fb_X7_judge_34
          rw [show mI mm 0 = nI S.1 from hQ.1.1, if_pos (nI_le (Nat.le_refl _) (by omega))]
      | succ j ih =>
        intro k F hk hF
        obtain ⟨F', rfl⟩ : ∃ F', F = F' + 1 := ⟨F - 1, by omega⟩
        have hkn : k < S.1 := by omega
        show ∃ r, fb_X6_judge_38 _ _ _ _ _ = _ ∧ fb_X7_judge_34 _ _ _ _ _ = _
        unfold fb_X6_judge_38 fb_X7_judge_34
        rw [show mI mx 896 = nI S.1 from hS.1.1, show mI mm 0 = nI S.1 from hQ.1.1, if_neg (nI_ge hkn (by omega)), if_neg (nI_ge hkn (by omega)), gA_at (xs := mA mm 33) (by rw [g1]; omega) (by omega), e2, gA_at (xs := mA mm 34) (by rw [g2]; omega) (by omega), e4, Option.bind_some, Option.bind_some, e3]
        have hsub := sub_in (l := l) (c := k) hl (by omega)
        have i1 : (1 : Int32).toInt = 1 := by decide
        have hsub1 : (nI l - nI k - 1).toInt = (l : Int) - k - 1 := by rw [subI (by rw [hsub]; omega) (by omega), hsub, i1]
        by_cases q0 : q < 0
        · rw [if_pos q0, if_pos q0]
          refine ⟨_, rfl, ?_⟩
          split
          · rfl
          · rfl
        · rw [if_neg q0, if_neg q0]
          obtain ⟨a, ha, rfl⟩ := nI_of q0
          by_cases c : a + k < l
          · have hs0 : ¬ s = 0 := fun z => by have := hz z; omega
            have e5p : (mA mx 19).getD k 0 = (mA mm 5).getD k 0 := by rw [show (mA mx 19).getD k 0 = S.2.2.1 k from hS.2.2.1 k hkn, show (mA mm 5).getD k 0 = S.2.2.1 k from hQ.2.2.1 k hkn]
            rw [if_pos (show nI a < nI l - nI k by rw [Int32.lt_iff_toInt_lt, hsub, nI_toInt ha]; omega), if_neg (fun z => hs0 ((nIp hs).2.1.mp z)), if_pos (show nI a ≤ nI l - nI k - 1 by rw [Int32.le_iff_toInt_le, hsub1, nI_toInt ha]; omega), nI_add, gL_at (xs := mL mx (82 + 2 * t + 1)) (by omega) (by omega), Option.bind_some, gA_at (xs := mA mx 19) (by rw [hX.2.1]; omega) (by omega), Option.bind_some, show (60 : Int32) = nI 60 from rfl, pk_mul, nI_add, nI_add, gL_at (xs := mL mm 35) (by omega) (by omega), Option.bind_some, gA_at (xs := mA mm 5) (by rw [hM.2.1]; omega) (by omega), Option.bind_some, e6 _ c, e5p, show 60 * t + a + k = 60 * t + (a + k) by omega, nI_1]
            by_cases c2 : lg_cmp ((mL mm 35).getD (60 * t + (a + k)) 0) ((mA mm 5).getD k 0).toInt64 = 0
            · rw [if_pos c2, if_pos c2]; exact ih (k + 1) F' (by omega) (by omega)
            · rw [if_neg c2, if_neg c2]; exact ⟨_, rfl, rfl⟩
          · rw [if_neg (show ¬ nI a < nI l - nI k by rw [Int32.lt_iff_toInt_lt, hsub, nI_toInt ha]; omega)]
            refine ⟨_, rfl, ?_⟩
            split
            · rfl
            · rw [if_neg (show ¬ nI a ≤ nI l - nI k - 1 by rw [Int32.le_iff_toInt_le, hsub1, nI_toInt ha]; omega)]
    rw [(tp_tb ht).1, Option.bind_some, chR_t (tp_tb ht).2, e1, gA_at (xs := mA mm 33) (by rw [g1]; omega) (by omega), e2, Option.bind_some, Option.bind_some]
    by_cases s0 : s = 0
    · obtain ⟨r, m1, m2⟩ := main (Or.inl s0) S.1 0 1000 (by omega) (by omega)
      rw [if_pos ((nIp hs).1.mpr s0), if_pos ((nIp hs).2.1.mpr s0)]
      exact ⟨r, mx, mm, m1, m2, h⟩
    · rw [if_neg (fun z => s0 ((nIp hs).1.mp z)), if_neg (fun z => s0 ((nIp hs).2.1.mp z))]
      by_cases s3 : nI s - 1 = 3
      · obtain ⟨r, m1, m2⟩ := main (Or.inr s3) S.1 0 1000 (by omega) (by omega)
        rw [if_pos s3, if_pos s3]
        exact ⟨r, mx, mm, m1, m2, h⟩
      · rw [if_neg s3, if_neg s3]; exact ⟨_, mx, mm, rfl, rfl, h⟩
end OPS10
