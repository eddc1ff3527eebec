-- 23a.ops10.lean.txt
section
/-! OPERATIONS: last, reckoning -/
section OPS10
variable {mx mm : mM}
theorem RG.fx {W : Nat} {S : SS} {cs : List CL} {m1 : mM} (hr : RRs W S mx mm) (h : RG mx mm W S cs) (fs : FSX mx m1) (f : FX mx m1) : RG m1 mm W S cs := by
  have h1 := hr.frS fs (FSM.rfl h.2.2.2.2.1)
  obtain ⟨g1, g2, g3, g4, g5, g6, g7, g8, g9⟩ := h
  exact ⟨h1.1, g2, h1.2.2.2.2.2.2.1, fs.2.2.2.2, g5, g6.fr f, g7.fr (Or.inl rfl) f, g8, g9⟩
theorem TR.year {m : mM} {n : Nat} {pd : Nat → Nat → Nat} {t : Nat} {cs : List CL} {dt yr : Nat} (h : TR m n pd t cs dt yr) : isC true 5 (mR m 2052) = true ∧ ∃ m', f_X6_goYear m 32 (mI m (64 * mR m 2052 + 0)) = some ((), m') ∧ FT m m' ∧ TR m' n pd t cs dt yr ∧ ∀ p, p < n → (mA m' 42).getD p 0 = gY n pd cs (nI (clLast 1 10 cs)) dt yr p := by
  obtain ⟨a1, a2, a3, a4, a5, a6, a7, a8⟩ := id h
  obtain ⟨t1, t2, t3, t4, t5⟩ := id a2
  have e : mR m 2052 = twA t := t2
  obtain ⟨m', q1, q2, q3, q4⟩ := x_goYear (due := nI (clLast 1 10 cs)) a1 a2 a3 a4 a5 a6 (by omega)
  rw [e, show mI m (64 * twA t + 0) = nI (clLast 1 10 cs) from t4.1.1]
  exact ⟨twA_ok t1, m', q1, ⟨q2.1, fun c _ hc => q2.2.1 c hc, q2.2.2.1, q2.2.2.2⟩, h.fr q2 q3, q4⟩
theorem TR.gone {m : mM} {n : Nat} {pd : Nat → Nat → Nat} {t : Nat} {cs : List CL} {dt yr p : Nat} (h : TR m n pd t cs dt yr) (hp : p < n) : TR (wA m 38 ((mA m 38).set p 0)) n (pdu pd 4 p 0) t cs dt yr := by
  obtain ⟨⟨h0, h1, h2, h3, h4⟩, a2, a3, a4, a5, a6, a7, a8⟩ := h
  exact ⟨⟨h0, h1, h2.upd (by decide), h3.there (Or.inl rfl), h4.there h3 h2.1 hp⟩, a2.fr2 rfl (fun _ _ => rfl) (fun d hd => by rw [mA_wA, if_neg (by omega)]), a3, a4, a5, a6, a7, a8⟩
theorem MR.gone {m : mM} {n : Nat} {pd : Nat → Nat → Nat} {tw : Nat} {cs : List CL} {due : Int32} {pu : Nat → Int32} {dt yr p : Nat} (h : MR m n pd tw cs due pu dt yr) (hp : p < n) : MR (wA m 7 ((mA m 7).set p 0)) n (pdu pd 4 p 0) tw cs due pu dt yr := by
  obtain ⟨⟨⟨h1, h2, h3, h4⟩, hM⟩, a2, a3, a4, a5, a6, a7⟩ := h
  exact ⟨⟨⟨h1, h2.upd (by decide), h3.there (Or.inl rfl), h4.there h3 h2.1 hp⟩, hM⟩, a2, a3, a4, a5, a6, a7⟩
theorem m_othersMore {m : mM} {n : Nat} {pd : Nat → Nat → Nat} {tw : Nat} {cs : List CL} {due : Int32} {pu : Nat → Int32} {dt yr p : Nat} (h : MR m n pd tw cs due pu dt yr) (hp : p < n) : ∃ m', f_X7_othersMore m (nI p) = some (gS pd (gY n pd cs due dt yr) (nI p) n, m') ∧ FY m m' := by
  unfold f_X7_othersMore
  have hn := h.1.1.2.1.1
  obtain ⟨m1, r1, r2, r3⟩ := m_allMore h
  have h1 := h.fy r2
  have r5 := (h.1.1.2.1.2 p hp).2.2.2.2.1
  have e := gS_p (pd := pd) (g := gY n pd cs due dt yr) (p := p) (by omega) (k := n) (by omega)
  rw [r1, bnd_some, (h1.1.1.g hp).2.2.2.2.1, Option.bind_some]
  refine ⟨m1, ?_, r2⟩
  by_cases c : pd 4 p = 0
  · rw [if_pos ((nI_z (by omega)).mpr c), e, if_neg (fun z => z.2 c), Int32.add_zero]
  · rw [if_neg (fun z => c ((nI_z (by omega)).mp z)), gA_at (by rw [r2.2.2.2.2.2.2.2]; omega) (by omega), r3 p hp, Option.bind_some, e, if_pos ⟨hp, c⟩, Int32.add_sub_cancel]
theorem op_last (h : RR mx mm) (p : Int32) : OPe (f_X6_last mx p) (f_X7_last mm p) := by
  obtain ⟨W, S, hr⟩ := id h
  have hr : RRs W S mx mm := hr
  obtain ⟨cs, hg⟩ := RRs.rg hr
  unfold f_X6_last f_X7_last
  rw [hg.per.1, hg.per.2, bnd_some, bnd_some]
  cases hp : inR S.1 p with
  | false => exact ⟨_, mx, mm, rfl, rfl, h⟩
  | true =>
    have hn := hg.2.1.1.1
    obtain ⟨k, hk, rfl⟩ := inR_t (by omega) hp
    have htw := hg.tw
    have hmr := hg.mr
    obtain ⟨m1, x1, x2, x3, x4, x5, x6⟩ := hg.year
    have hg1 := RG.fx hr hg x2 x3
    obtain ⟨c1, c2, c3⟩ := hg1.copy
    have l38 : (mA (cpM m1 32 14) 38).length = 7 := c3.1.2.2.2.1.2.2.2.2.1
    have c4 := c3.gone hk
    obtain ⟨y0, m2, y1, y2, y3, y4⟩ := c4.year
    rw [zB_t, if_neg i0, if_neg i0, chR_t htw.1, htw.2.1, x1, bnd_some, x_gain x4 x5 x6, bnd_some, c1, bnd_some, sA_at3 (by rw [l38]; omega) (by omega) (Or.inl rfl), Option.bind_some, chR_t y0, y1, bnd_some, x_gain y3.1 y3.x.1.1 y4, bnd_some]
    obtain ⟨m3, z1, z2⟩ := m_othersMore hmr hk
    have h3 := hmr.fy z2
    have l7 : (mA m3 7).length = 7 := h3.1.1.2.2.1.2.2.2.2.1
    have v7 : (mA m3 7).getD k 0 = nI (S.2.1 4 k) := (h3.1.1.2.2.2 k hk).2.2.2.2.1
    have r5 := (h3.1.1.2.1.2 k hk).2.2.2.2.1
    have h4 := h3.gone hk
    obtain ⟨m4, w1, w2⟩ := m_othersMore h4 hk
    have e7 : mA m4 7 = (mA m3 7).set k 0 := by rw [w2.2.1 7 (by decide), mA_wA, if_pos rfl]
    have h01 : nI (S.2.1 4 k) = 0 ∨ nI (S.2.1 4 k) = 1 := by
      have : S.2.1 4 k = 0 ∨ S.2.1 4 k = 1 := by omega
      rcases this with z | z
      · exact Or.inl (congrArg nI z)
      · exact Or.inr (congrArg nI z)
    have back : ((mA m3 7).set k 0).set k (nI (S.2.1 4 k)) = mA m3 7 := by rw [List.set_set, ← v7]; exact set_self
    rw [z1, bnd_some, gA_at (by omega) (by omega), v7, Option.bind_some, sA_at3 (by omega) (by omega) (Or.inl rfl), Option.bind_some, w1, bnd_some, sA_at3 (by rw [e7, List.length_set]; omega) (by omega) h01, Option.bind_some, e7, back]
    have hfx : FSX mx m2 := by
      have g : FSX mx (cpM m1 32 14) := ⟨fun k k1 k2 => (c2.1 k k1 k2).trans (x2.1 k k1 k2), fun c e1 e2 e3 => (c2.2.1 c e1 e2 e3).trans (x2.2.1 c e1 e2 e3), fun c => (c2.2.2.1 c).trans (x2.2.2.1 c), fun k k1 k2 => (c2.2.2.2.1 k k1 k2).trans (x2.2.2.2.1 k k1 k2), c2.2.2.2.2⟩
      have g2 : FSX mx (wA (cpM m1 32 14) 38 ((mA (cpM m1 32 14) 38).set k 0)) := by
        refine ⟨g.1, fun c e1 e2 e3 => by rw [mA_wA, if_neg (by omega)]; exact g.2.1 c e1 e2 e3, g.2.2.1, g.2.2.2.1, ⟨c4.1.2.2.2.1, g.2.2.2.2.1.2⟩, c4.x.2, c4.x.1⟩
      exact g2.ft y2 y3.x.1 y3.x.2
    refine ⟨_, m2, wA m4 7 (mA m3 7), rfl, rfl, h.frS hfx ?_⟩
    have f3 : FY mm (wA m4 7 (mA m3 7)) := by
      refine ⟨fun k k1 k2 => ((w2.1 k k1 k2).trans (z2.1 k k1 k2)), fun c hc => ?_, fun c => (w2.2.2.1 c).trans (z2.2.2.1 c), fun k => (w2.2.2.2.1 k).trans (z2.2.2.2.1 k), w2.2.2.2.2⟩
      rw [mA_wA]
      by_cases e : c = 7
      · rw [if_pos e, e]; exact z2.2.1 7 (by decide)
      · rw [if_neg e, w2.2.1 c hc, mA_wA, if_neg e]; exact z2.2.1 c hc
    exact f3.sm hg.2.2.2.2.1
/-! judge -/
theorem op_judge (h : RR mx mm) (p q : Int32) : OPe (f_X6_judge mx p q) (f_X7_judge mm p q) := by
  obtain ⟨W, S, ⟨hX, hS, hM, hQ⟩, hO, hK, hC, hC2, hT, hW, hA, hP⟩ := id h
  obtain ⟨g1, g2, g3, g4, g5⟩ := id hP
  have hn := hO.1.1
  unfold f_X6_judge f_X7_judge
  rw [op_isTape, op7_isTape, bnd_some, bnd_some]
  cases hp : inR 6 p with
  | false => exact ⟨_, mx, mm, rfl, rfl, h⟩
  | true =>
    rw [zB_t, if_neg i0, if_neg i0]
    obtain ⟨t, ht, rfl⟩ := inR_t (by decide) hp
    obtain ⟨s, l, hs, hl, hz, e1, e2, e3, e4, e5, e6⟩ := g5 t ht
    have main : (s = 0 ∨ nI s - 1 = 3) → ∀ (j k F : Nat), k + j = S.1 → j < F → ∃ r, f_X6_judge_38 F mx q (82 + 2 * t) (nI k) = some (r, mx) ∧ f_X7_judge_34 F mm (nI t) q (nI k) = some (r, mm) := by
      intro hs3 j
      induction j with
      | zero =>
        intro k F hk hF
        obtain ⟨F', rfl⟩ : ∃ F', F = F' + 1 := ⟨F - 1, by omega⟩
        obtain rfl : k = S.1 := by omega
        refine ⟨-5, ?_, ?_⟩
        · show fb_X6_judge_38 _ _ _ _ _ = _
          unfold fb_X6_judge_38
          rw [show mI mx 896 = nI S.1 from hS.1.1, if_pos (nI_le (Nat.le_refl _) (by omega))]
        · show fb_X7_judge_34 _ _ _ _ _ = _
          unfold fb_X7_judge_34
          rw [show mI mm 0 = nI S.1 from hQ.1.1, if_pos (nI_le (Nat.le_refl _) (by omega))]
      | succ j ih =>
        intro k F hk hF
        obtain ⟨F', rfl⟩ : ∃ F', F = F' + 1 := ⟨F - 1, by omega⟩
        have hkn : k < S.1 := by omega
        show ∃ r, fb_X6_judge_38 _ _ _ _ _ = _ ∧ fb_X7_judge_34 _ _ _ _ _ = _
        unfold fb_X6_judge_38 fb_X7_judge_34
        rw [show mI mx 896 = nI S.1 from hS.1.1, show mI mm 0 = nI S.1 from hQ.1.1, if_neg (nI_ge hkn (by omega)), if_neg (nI_ge hkn (by omega)), gA_at (xs := mA mm 33) (by rw [g1]; omega) (by omega), e2, gA_at (xs := mA mm 34) (by rw [g2]; omega) (by omega), e4, Option.bind_some, Option.bind_some, e3]
        have hsub := sub_in (l := l) (c := k) hl (by omega)
        have i1 : (1 : Int32).toInt = 1 := by decide
        have hsub1 : (nI l - nI k - 1).toInt = (l : Int) - k - 1 := by rw [subI (by rw [hsub]; omega) (by omega), hsub, i1]
        by_cases q0 : q < 0
        · rw [if_pos q0, if_pos q0]
          refine ⟨_, rfl, ?_⟩
          split
          · rfl
          · rfl
        · rw [if_neg q0, if_neg q0]
          obtain ⟨a, ha, rfl⟩ := nI_of q0
          by_cases c : a + k < l
          · have hs0 : ¬ s = 0 := fun z => by have := hz z; omega
            have e5p : (mA mx 19).getD k 0 = (mA mm 5).getD k 0 := by rw [show (mA mx 19).getD k 0 = S.2.2.1 k from hS.2.2.1 k hkn, show (mA mm 5).getD k 0 = S.2.2.1 k from hQ.2.2.1 k hkn]
            rw [if_pos (show nI a < nI l - nI k by rw [Int32.lt_iff_toInt_lt, hsub, nI_toInt ha]; omega), if_neg (fun z => hs0 ((nIp hs).2.1.mp z)), if_pos (show nI a ≤ nI l - nI k - 1 by rw [Int32.le_iff_toInt_le, hsub1, nI_toInt ha]; omega), nI_add, gL_at (xs := mL mx (82 + 2 * t + 1)) (by omega) (by omega), Option.bind_some, gA_at (xs := mA mx 19) (by rw [hX.2.1]; omega) (by omega), Option.bind_some, show (60 : Int32) = nI 60 from rfl, pk_mul, nI_add, nI_add, gL_at (xs := mL mm 35) (by omega) (by omega), Option.bind_some, gA_at (xs := mA mm 5) (by rw [hM.2.1]; omega) (by omega), Option.bind_some, e6 _ c, e5p, show 60 * t + a + k = 60 * t + (a + k) by omega, nI_1]
            by_cases c2 : lg_cmp ((mL mm 35).getD (60 * t + (a + k)) 0) ((mA mm 5).getD k 0).toInt64 = 0
            · rw [if_pos c2, if_pos c2]; exact ih (k + 1) F' (by omega) (by omega)
            · rw [if_neg c2, if_neg c2]; exact ⟨_, rfl, rfl⟩
          · rw [if_neg (show ¬ nI a < nI l - nI k by rw [Int32.lt_iff_toInt_lt, hsub, nI_toInt ha]; omega)]
            refine ⟨_, rfl, ?_⟩
            split
            · rfl
            · rw [if_neg (show ¬ nI a ≤ nI l - nI k - 1 by rw [Int32.le_iff_toInt_le, hsub1, nI_toInt ha]; omega)]
    rw [(tp_tb ht).1, Option.bind_some, chR_t (tp_tb ht).2, e1, gA_at (xs := mA mm 33) (by rw [g1]; omega) (by omega), e2, Option.bind_some, Option.bind_some]
    by_cases s0 : s = 0
    · obtain ⟨r, m1, m2⟩ := main (Or.inl s0) S.1 0 1000 (by omega) (by omega)
      rw [if_pos ((nIp hs).1.mpr s0), if_pos ((nIp hs).2.1.mpr s0)]
      exact ⟨r, mx, mm, m1, m2, h⟩
    · rw [if_neg (fun z => s0 ((nIp hs).1.mp z)), if_neg (fun z => s0 ((nIp hs).2.1.mp z))]
      by_cases s3 : nI s - 1 = 3
      · obtain ⟨r, m1, m2⟩ := main (Or.inr s3) S.1 0 1000 (by omega) (by omega)
        rw [if_pos s3, if_pos s3]
        exact ⟨r, mx, mm, m1, m2, h⟩
      · rw [if_neg s3, if_neg s3]; exact ⟨_, mx, mm, rfl, rfl, h⟩
end OPS10
end
-- 23b.ops11.lean.txt
section
/-! OPERATIONS: reckoning -/
section OPS11
variable {mx mm : mM}
def shf (pd : Nat → Nat → Nat) (d : Nat) : Nat → Nat → Nat → Nat
  | 0 => pd
  | k + 1 => pdu (shf pd d k) 3 k ((pd 3 k + d) % 12)
theorem shf_ge {pd : Nat → Nat → Nat} {d q : Nat} : ∀ {k : Nat}, k ≤ q → shf pd d k 3 q = pd 3 q
  | 0, _ => rfl
  | k + 1, h => by
    show pdu (shf pd d k) 3 k ((pd 3 k + d) % 12) 3 q = _
    unfold pdu
    rw [if_neg (fun z => by omega)]
    exact shf_ge (by omega)
theorem shf_lt {pd : Nat → Nat → Nat} {d q : Nat} : ∀ {k : Nat}, q < k → shf pd d k 3 q = (pd 3 q + d) % 12
  | 0, h => absurd h (Nat.not_lt_zero q)
  | k + 1, h => by
    show pdu (shf pd d k) 3 k ((pd 3 k + d) % 12) 3 q = _
    unfold pdu
    by_cases e : q = k
    · subst e; rw [if_pos ⟨rfl, rfl⟩]
    · rw [if_neg (fun z => e z.2)]; exact shf_lt (by omega)
theorem x_reck_lp {n : Nat} {pd : Nat → Nat → Nat} {t : Nat} {cs : List CL} {dt yr d : Nat} {B : Int32} (hd : d < 12) : ∀ (j k : Nat) (m : mM) (F : Nat), k + j = n → j < F → FSX mx m → TR m n (shf pd d k) t cs dt yr → ∃ m', f_X6_reckoning_51 F m (nI d) B (nI k) = some (gS (shf pd d n) (gY n (shf pd d n) cs (nI (clLast 1 10 cs)) dt yr) (-1) n - B, m') ∧ FSX mx m' := by
  intro j
  induction j with
  | zero =>
    intro k m F hk hF hf h
    obtain ⟨F', rfl⟩ : ∃ F', F = F' + 1 := ⟨F - 1, by omega⟩
    obtain rfl : k = n := by omega
    have hn := h.1.2.2.1.1
    obtain ⟨y0, m2, y1, y2, y3, y4⟩ := h.year
    refine ⟨m2, ?_, hf.ft y2 y3.x.1 y3.x.2⟩
    show fb_X6_reckoning_51 _ _ _ _ _ = _
    unfold fb_X6_reckoning_51
    rw [show mI m 2048 = nI k from h.1.2.1, if_pos (nI_le (Nat.le_refl _) (by omega)), chR_t y0, y1, bnd_some, x_gain y3.1 y3.x.1.1 y4, bnd_some]
  | succ j ih =>
    intro k m F hk hF hf h
    obtain ⟨F', rfl⟩ : ∃ F', F = F' + 1 := ⟨F - 1, by omega⟩
    have hn := h.1.2.2.1.1
    have hkn : k < n := by omega
    have r4 : pd 3 k < 12 := by have := (h.1.2.2.1.2 k hkn).2.2.2.1; rw [shf_ge (Nat.le_refl k)] at this; exact this
    have l36 : (mA m 36).length = 7 := h.1.2.2.2.1.2.2.2.1
    have v36 : (mA m 36).getD k 0 = nI (pd 3 k) := by have := (h.1.2.2.2.2 k hkn).2.2.2.1; rw [shf_ge (Nat.le_refl k)] at this; exact this
    have h2 : TR (wA m 36 ((mA m 36).set k (nI ((pd 3 k + d) % 12)))) n (shf pd d (k + 1)) t cs dt yr := h.set (Or.inl ⟨rfl, rfl⟩) hkn (Nat.mod_lt _ (by decide))
    have hf2 : FSX mx (wA m 36 ((mA m 36).set k (nI ((pd 3 k + d) % 12)))) := ⟨hf.1, fun c e1 e2 e3 => by rw [mA_wA, if_neg (by omega)]; exact hf.2.1 c e1 e2 e3, hf.2.2.1, hf.2.2.2.1, ⟨h2.1.2.2.2.1, hf.2.2.2.2.1.2⟩, h2.x.2, h2.x.1⟩
    show ∃ m', fb_X6_reckoning_51 _ _ _ _ _ = _ ∧ _
    unfold fb_X6_reckoning_51
    rw [show mI m 2048 = nI n from h.1.2.1, if_neg (nI_ge hkn (by omega)), gA_at (by omega) (by omega), v36, Option.bind_some, nI_add, show (12 : Int32) = nI 12 from rfl, rmI_at (by omega) (by decide) (by decide), Option.bind_some, sA_at0 (by omega) (by omega), Option.bind_some, nI_1]
    exact ih (k + 1) _ F' (by omega) (by omega) hf2 h2
section M
variable {n : Nat} {pd : Nat → Nat → Nat} {tw : Nat} {cs : List CL} {due : Int32} {pu : Nat → Int32} {dt yr d : Nat} {B X : Int32}
theorem m_reck_back {m : mM} {o : List Int32} (hd : d < 12) (hn : n ≤ 7) (h0 : mI m 0 = nI n) (lo : o.length = 7) (hpd : ∀ q, q < n → pd 3 q < 12 ∧ o.getD q 0 = nI (pd 3 q)) : ∀ (j k : Nat) (l : List Int32) (F : Nat), k + j = n → j < F → l.length = 7 → (∀ q, q < 7 → l.getD q 0 = if k ≤ q ∧ q < n then nI ((pd 3 q + d) % 12) else o.getD q 0) → f_X7_reckoning_61 F (wA m 4 l) (nI d) B X (nI k) = some (X - B, wA m 4 o) := by
  intro j
  induction j with
  | zero =>
    intro k l F hk hF hl h
    obtain ⟨F', rfl⟩ : ∃ F', F = F' + 1 := ⟨F - 1, by omega⟩
    obtain rfl : k = n := by omega
    have e : l = o := lext hl lo (fun q hq => by rw [h q hq, if_neg (by omega)])
    show fb_X7_reckoning_61 _ _ _ _ _ _ = _
    unfold fb_X7_reckoning_61
    rw [show mI (wA m 4 l) 0 = mI m 0 from rfl, h0, if_pos (nI_le (Nat.le_refl _) (by omega)), e]
  | succ j ih =>
    intro k l F hk hF hl h
    obtain ⟨F', rfl⟩ : ∃ F', F = F' + 1 := ⟨F - 1, by omega⟩
    have hkn : k < n := by omega
    obtain ⟨p1, p2⟩ := hpd k hkn
    have e12 : nI ((pd 3 k + d) % 12) + 12 - nI d = nI ((pd 3 k + d) % 12 + 12 - d) := by
      apply Int32.toInt_inj.mp
      rw [show (12 : Int32) = nI 12 from rfl, nI_add, subI (by rw [nI_toInt (by omega)]; omega) (by rw [nI_toInt (by omega)]; omega), nI_toInt (by omega), nI_toInt (by omega), nI_toInt (by omega)]
      omega
    show fb_X7_reckoning_61 _ _ _ _ _ _ = _
    unfold fb_X7_reckoning_61
    rw [show mI (wA m 4 l) 0 = mI m 0 from rfl, h0, if_neg (nI_ge hkn (by omega)), show mA (wA m 4 l) 4 = l from rfl, gA_at (by omega) (by omega), h k (by omega), if_pos ⟨Nat.le_refl k, hkn⟩, Option.bind_some, e12, show (12 : Int32) = nI 12 from rfl, rmI_at (by omega) (by decide) (by decide), Option.bind_some, show ((pd 3 k + d) % 12 + 12 - d) % 12 = pd 3 k by omega, sA_at0 (by show k < l.length; omega) (by omega), Option.bind_some, wA_wA, show mA (wA m 4 l) 4 = l from rfl, nI_1]
    refine ih (k + 1) _ F' (by omega) (by omega) (by rw [List.length_set]; exact hl) (fun q hq => ?_)
    rw [gd_set]
    by_cases e : k = q
    · subst e; rw [if_pos ⟨rfl, by omega⟩, if_neg (by omega), p2]
    · rw [if_neg (fun z => e z.1), h q hq]
      by_cases c : k ≤ q ∧ q < n
      · rw [if_pos c, if_pos (by omega)]
      · rw [if_neg c, if_neg (by omega)]
theorem m_reck_lp {m0 : mM} (hd : d < 12) (h0 : MR m0 n pd tw cs due pu dt yr) : ∀ (j k : Nat) (l : List Int32) (F : Nat), k + j = n → j < F → l.length = 7 → MR (wA m0 4 l) n (shf pd d k) tw cs due pu dt yr → (∀ q, q < 7 → n ≤ q → l.getD q 0 = (mA m0 4).getD q 0) → ∃ m', f_X7_reckoning_22 F (wA m0 4 l) (nI d) B (nI k) = some (gS (shf pd d n) (gY n (shf pd d n) cs due dt yr) (-1) n - B, m') ∧ FY m0 m' := by
  have hn := h0.1.1.2.1.1
  intro j
  induction j with
  | zero =>
    intro k l F hk hF hl h hq
    obtain ⟨F', rfl⟩ : ∃ F', F = F' + 1 := ⟨F - 1, by omega⟩
    obtain rfl : k = n := by omega
    obtain ⟨m1, r1, r2, r3⟩ := m_allMore h
    have l4 : mA m1 4 = l := by rw [r2.2.1 4 (by decide)]; rfl
    have hb := m_reck_back (m := m1) (o := mA m0 4) (pd := pd) (d := d) (B := B) (X := gS (shf pd d k) (gY k (shf pd d k) cs due dt yr) (-1) k) hd hn (by rw [r2.1 0 (by decide) (by decide)]; exact h.1.1.1) h0.1.1.2.2.1.2.2.2.1 (fun q hq => ⟨(h0.1.1.2.1.2 q hq).2.2.2.1, (h0.1.1.2.2.2 q hq).2.2.2.1⟩) k 0 l 1000 (by omega) (by omega) hl (fun q hq7 => by
      by_cases c : q < k
      · rw [if_pos ⟨Nat.zero_le _, c⟩]
        have := (h.1.1.2.2.2 q c).2.2.2.1
        rw [shf_lt c] at this; exact this
      · rw [if_neg (fun z => c z.2)]; exact hq q hq7 (by omega))
    have es : wA m1 4 l = m1 := by rw [← l4]; exact wA_self
    rw [es] at hb
    refine ⟨wA m1 4 (mA m0 4), ?_, fun i i1 i2 => r2.1 i i1 i2, fun c hc => ?_, r2.2.2.1, r2.2.2.2.1, r2.2.2.2.2⟩
    · show fb_X7_reckoning_22 _ _ _ _ _ = _
      unfold fb_X7_reckoning_22
      rw [h.1.1.1, if_pos (nI_le (Nat.le_refl _) (by omega)), r1, bnd_some]
      exact hb
    · rw [mA_wA]
      by_cases e : c = 4
      · rw [if_pos e, e]
      · rw [if_neg e, r2.2.1 c hc, mA_wA, if_neg e]
  | succ j ih =>
    intro k l F hk hF hl h hq
    obtain ⟨F', rfl⟩ : ∃ F', F = F' + 1 := ⟨F - 1, by omega⟩
    have hkn : k < n := by omega
    have r4 : pd 3 k < 12 := (h0.1.1.2.1.2 k hkn).2.2.2.1
    have v4 : l.getD k 0 = nI (pd 3 k) := by have := (h.1.1.2.2.2 k hkn).2.2.2.1; rw [shf_ge (Nat.le_refl k)] at this; exact this
    have h2 := h.set (x := (pd 3 k + d) % 12) (Or.inl ⟨rfl, rfl⟩) hkn (Nat.mod_lt _ (by decide))
    rw [wA_wA, show mA (wA m0 4 l) 4 = l from rfl] at h2
    show ∃ m', fb_X7_reckoning_22 _ _ _ _ _ = _ ∧ _
    unfold fb_X7_reckoning_22
    rw [h.1.1.1, if_neg (nI_ge hkn (by omega)), show mA (wA m0 4 l) 4 = l from rfl, gA_at (by omega) (by omega), v4, Option.bind_some, nI_add, show (12 : Int32) = nI 12 from rfl, rmI_at (by omega) (by decide) (by decide), Option.bind_some, sA_at0 (by show k < l.length; omega) (by omega), Option.bind_some, wA_wA, show mA (wA m0 4 l) 4 = l from rfl, nI_1]
    exact ih (k + 1) _ F' (by omega) (by omega) (by rw [List.length_set]; exact hl) h2 (fun q q1 q2 => by rw [gd_ne (by omega)]; exact hq q q1 q2)
end M
theorem op_reckoning (h : RR mx mm) (p : Int32) : OPe (f_X6_reckoning mx p) (f_X7_reckoning mm p) := by
  obtain ⟨W, S, hr⟩ := id h
  have hr : RRs W S mx mm := hr
  obtain ⟨cs, hg⟩ := RRs.rg hr
  unfold f_X6_reckoning f_X7_reckoning
  rw [op_isDay, bnd_some, op_in (n := 12) (in_lit (by decide) (by decide)), bnd_some]
  cases hp : inR 12 p with
  | false => exact ⟨_, mx, mm, rfl, rfl, h⟩
  | true =>
    have hn := hg.2.1.1.1
    obtain ⟨d, hd, rfl⟩ := inR_t (by decide) hp
    have htw := hg.tw
    have hmr := hg.mr
    obtain ⟨m1, x1, x2, x3, x4, x5, x6⟩ := hg.year
    have hg1 := RG.fx hr hg x2 x3
    obtain ⟨c1, c2, c3⟩ := hg1.copy
    have g : FSX mx (cpM m1 32 14) := ⟨fun k k1 k2 => (c2.1 k k1 k2).trans (x2.1 k k1 k2), fun c e1 e2 e3 => (c2.2.1 c e1 e2 e3).trans (x2.2.1 c e1 e2 e3), fun c => (c2.2.2.1 c).trans (x2.2.2.1 c), fun k k1 k2 => (c2.2.2.2.1 k k1 k2).trans (x2.2.2.2.1 k k1 k2), c2.2.2.2.2⟩
    rw [zB_t, if_neg i0, if_neg i0, chR_t htw.1, htw.2.1, x1, bnd_some, x_gain x4 x5 x6, bnd_some, c1, bnd_some]
    obtain ⟨m2, y1, y2⟩ := x_reck_lp (B := gS S.2.1 (gY S.1 S.2.1 cs (nI (clLast 1 10 cs)) S.2.2.2.1 S.2.2.2.2.1) (-1) S.1) hd S.1 0 (cpM m1 32 14) 1000 (by omega) (by omega) g c3
    obtain ⟨m3, z1, z2, z3⟩ := m_allMore hmr
    have h3 := hmr.fy z2
    obtain ⟨m4, w1, w2⟩ := m_reck_lp (B := gS S.2.1 (gY S.1 S.2.1 cs (nI (clLast 1 10 cs)) S.2.2.2.1 S.2.2.2.2.1) (-1) S.1) hd h3 S.1 0 (mA m3 4) 1000 (by omega) (by omega) h3.1.1.2.2.1.2.2.2.1 (by rw [wA_self]; exact h3) (fun _ _ _ => rfl)
    rw [wA_self] at w1
    have y1' : f_X6_reckoning_51 1000 (cpM m1 32 14) (nI d) _ 0 = _ := y1
    have w1' : f_X7_reckoning_22 1000 m3 (nI d) _ 0 = _ := w1
    rw [y1', z1, bnd_some, w1']
    exact ⟨_, m2, m4, rfl, rfl, h.frS y2 ((z2.trans w2).sm hg.2.2.2.2.1)⟩
end OPS11
end
-- 23c.ops12.lean.txt
section
/-! OPERATIONS: odds, mean -/
section OPS12
variable {mx mm : mM}
theorem rem0 {x : Int32} {c : Nat} (hc : 0 < c) (hc2 : c < 2 ^ 31) : (x % nI c = 0) ↔ c ∣ x.toInt.natAbs := by
  rw [← Int32.toInt_inj, Int32.toInt_mod, nI_toInt hc2, show (0 : Int32).toInt = 0 from rfl]
  rw [← Int.dvd_iff_tmod_eq_zero, ← Int.natAbs_dvd_natAbs]; rfl
/-- the class's fraction in lowest terms -/
theorem x_fraction {m : mM} {x q : Int32} {b : Nat} (hb : 0 < b) (hb2 : b < 100) (hq : ¬ q < 0) (hq1 : q ≤ 1) : f_X6_fraction m x (nI b) q = some ((if q = 0 then x / nI (Nat.gcd x.toInt.natAbs b) else nI b / nI (Nat.gcd x.toInt.natAbs b)).toInt64, m) := by
  unfold f_X6_fraction
  rw [if_neg (show ¬ nI b ≤ (0 : Int32) from (nI_ge hb (by omega) : ¬ nI b ≤ nI 0)), if_neg hq, if_pos hq1]
  have hg0 : 0 < Nat.gcd x.toInt.natAbs b := Nat.gcd_pos_of_pos_right _ hb
  have hgb : Nat.gcd x.toInt.natAbs b ≤ b := Nat.gcd_le_right _ hb
  have fin : f_X6_fraction_42 m x (nI b) q (nI (Nat.gcd x.toInt.natAbs b)) = some ((if q = 0 then x / nI (Nat.gcd x.toInt.natAbs b) else nI b / nI (Nat.gcd x.toInt.natAbs b)).toInt64, m) := by
    unfold f_X6_fraction_42 dvI
    rw [if_neg (nI_ne0 hg0 (by omega)), Option.bind_some]
    by_cases c : q = 0
    · rw [if_pos c, if_pos c]
    · rw [if_neg c, if_neg c, if_neg (nI_ne0 hg0 (by omega)), Option.bind_some]
  have main : ∀ (c F : Nat), 0 < c → c ≤ b → c < F → Nat.gcd x.toInt.natAbs b ≤ c → f_X6_fraction_19 F m x (nI b) q (nI c) = some ((if q = 0 then x / nI (Nat.gcd x.toInt.natAbs b) else nI b / nI (Nat.gcd x.toInt.natAbs b)).toInt64, m) := by
    intro c
    induction c with
    | zero => intro F h0; omega
    | succ c ih =>
      intro F h0 h1 hF h2
      obtain ⟨F', rfl⟩ : ∃ F', F = F' + 1 := ⟨F - 1, by omega⟩
      show fb_X6_fraction_19 _ _ _ _ _ _ = _
      unfold fb_X6_fraction_19
      by_cases e1 : c = 0
      · subst e1
        rw [if_pos (show nI (0 + 1) ≤ (1 : Int32) by decide)]
        have : Nat.gcd x.toInt.natAbs b = 0 + 1 := by omega
        rw [this] at fin ⊢; exact fin
      · rw [if_neg (show ¬ nI (c + 1) ≤ (1 : Int32) from (nI_ge (by omega) (by omega) : ¬ nI (c + 1) ≤ nI 1))]
        have next : ¬ Nat.gcd x.toInt.natAbs b = c + 1 → f_X6_fraction_19 F' m x (nI b) q (nI (c + 1) + (-1)) = some ((if q = 0 then x / nI (Nat.gcd x.toInt.natAbs b) else nI b / nI (Nat.gcd x.toInt.natAbs b)).toInt64, m) := by
          intro z
          rw [← Int32.sub_eq_add_neg, nI_pred]
          exact ih F' (by omega) (by omega) (by omega) (by omega)
        unfold rmI
        rw [if_neg (nI_ne0 (by omega) (by omega)), Option.bind_some]
        by_cases c1 : c + 1 ∣ x.toInt.natAbs
        · rw [if_pos ((rem0 (by omega) (by omega)).mpr c1), if_neg (nI_ne0 (by omega) (by omega)), Option.bind_some]
          have hbn : (nI b).toInt.natAbs = b := by rw [nI_toInt (by omega)]; rfl
          by_cases c2 : c + 1 ∣ b
          · rw [if_pos ((rem0 (by omega) (by omega)).mpr (by rw [hbn]; exact c2))]
            have hd := Nat.le_of_dvd hg0 (Nat.dvd_gcd c1 c2)
            have : Nat.gcd x.toInt.natAbs b = c + 1 := by omega
            rw [this] at fin ⊢; exact fin
          · rw [if_neg (fun z => c2 (by have := (rem0 (by omega) (by omega)).mp z; rw [hbn] at this; exact this))]
            exact next (fun z => c2 (z ▸ Nat.gcd_dvd_right _ _))
        · rw [if_neg (fun z => c1 ((rem0 (by omega) (by omega)).mp z))]
          exact next (fun z => c1 (z ▸ Nat.gcd_dvd_left _ _))
  exact main b 1000 hb (Nat.le_refl b) (by omega) hgb
theorem m_euclid {m : mM} : ∀ (F a b : Nat), a < 2 ^ 31 → b < F → b < 2 ^ 31 → f_X7_divisor_14 F m (nI a) (nI b) = some (nI (Nat.gcd a b), m)
  | 0, a, b, _, hF, _ => absurd hF (Nat.not_lt_zero b)
  | F + 1, a, b, ha, hF, hb => by
    show fb_X7_divisor_14 _ _ _ _ = _
    unfold fb_X7_divisor_14
    by_cases c : b = 0
    · subst c; rw [if_pos (show nI 0 = 0 from rfl), Nat.gcd_zero_right]
    · have hm := Nat.mod_lt a (Nat.pos_of_ne_zero c)
      rw [if_neg (nI_ne0 (by omega) hb), rmI_at ha (by omega) hb, Option.bind_some]
      show f_X7_divisor_14 F m (nI b) (nI (a % b)) = _
      rw [m_euclid F b (a % b) hb (by omega) (by omega), Nat.gcd_comm a b, Nat.gcd_rec b a, Nat.gcd_comm]
theorem m_lowest {m : mM} {x q : Int32} {b : Nat} (hb : 0 < b) (hb2 : b < 100) (hx : -2147483647 ≤ x.toInt) : f_X7_lowest m x (nI b) q = some ((if q = 0 then x / nI (Nat.gcd x.toInt.natAbs b) else nI b / nI (Nat.gcd x.toInt.natAbs b)).toInt64, m) := by
  have hg0 : 0 < Nat.gcd x.toInt.natAbs b := Nat.gcd_pos_of_pos_right _ hb
  have hgb : Nat.gcd x.toInt.natAbs b ≤ b := Nat.gcd_le_right _ hb
  have hlt := x.toInt_lt
  have i0' : (0 : Int32).toInt = 0 := rfl
  have hd : f_X7_divisor m x (nI b) = some (nI (Nat.gcd x.toInt.natAbs b), m) := by
    unfold f_X7_divisor
    by_cases c : 0 ≤ x
    · rw [if_pos c]
      rw [Int32.le_iff_toInt_le, i0'] at c
      have e : x = nI x.toInt.natAbs := by apply Int32.toInt_inj.mp; rw [nI_toInt (by omega)]; omega
      conv => lhs; rw [e]
      exact m_euclid 1000 _ b (by omega) (by omega) (by omega)
    · rw [if_neg c, nmI_eq]
      rw [Int32.le_iff_toInt_le, i0'] at c
      have e : -x = nI x.toInt.natAbs := by
        apply Int32.toInt_inj.mp
        rw [nI_toInt (by omega), Int32.toInt_neg, Int.bmod_eq_of_le (by omega) (by omega)]; omega
      rw [e]
      exact m_euclid 1000 _ b (by omega) (by omega) (by omega)
  unfold f_X7_lowest dvI
  rw [hd, bnd_some, if_neg (nI_ne0 hg0 (by omega)), Option.bind_some]
  by_cases c : q = 0
  · rw [if_pos c, if_pos c]
  · rw [if_neg c, if_neg c, if_neg (nI_ne0 hg0 (by omega)), Option.bind_some]
/-- a year's sum stays small -/
theorem gY_b {n : Nat} {pd : Nat → Nat → Nat} {cs : List CL} {dt yr p e : Nat} (hn : n ≤ 7) (h : ∀ c ∈ cs, clOk c) (hl : cs.length ≤ 10) (he : e < 100) (hp : p < n) : -960000 ≤ (gY n pd cs (nI e) dt yr p).toInt ∧ (gY n pd cs (nI e) dt yr p).toInt ≤ 960000 := by
  have := days_b (pd := pd) hn h hl he hp 12 (s := (dt, yr, fun _ => 0, fun _ => 0, 0)) (B := 0) (by decide) (by show -0 ≤ (0 : Int32).toInt ∧ (0 : Int32).toInt ≤ 0; decide)
  unfold gY
  omega
theorem gS_b {pd : Nat → Nat → Nat} {g : Nat → Int32} {y : Int32} {n : Nat} (hn : n ≤ 7) (hg : ∀ p, p < n → -960000 ≤ (g p).toInt ∧ (g p).toInt ≤ 960000) : ∀ k, k ≤ n → -(960000 * (k : Int)) ≤ (gS pd g y k).toInt ∧ (gS pd g y k).toInt ≤ 960000 * (k : Int)
  | 0, _ => by show _ ≤ (0 : Int32).toInt ∧ (0 : Int32).toInt ≤ _; decide
  | k + 1, h => by
    have ih := gS_b (pd := pd) (y := y) hn hg k (by omega)
    have hk := hg k (by omega)
    unfold gS
    split
    · omega
    · rw [addI (by omega) (by omega)]; omega
end OPS12
end
-- 23d.ops13.lean.txt
section
/-! OPERATIONS: odds, mean -/
section OPS13
variable {mx mm : mM}
theorem m_yearIf {m : mM} {n : Nat} {pd : Nat → Nat → Nat} {tw : Nat} {cs : List CL} {due : Int32} {pu : Nat → Int32} {dt yr p x : Nat} (h : MR m n pd tw cs due pu dt yr) (hp : p < n) (hx : x < 12) : ∃ m', f_X7_yearIf m (nI p) (nI x) = some (vB n pd cs due dt yr 2 p x, m') ∧ FY m m' := by
  unfold f_X7_yearIf f_X7_yearOf
  have hn := h.1.1.2.1.1
  have l3 : (mA m 3).length = 7 := h.1.1.2.2.1.2.2.1
  have h2 := h.set (Or.inr ⟨rfl, rfl⟩) hp hx
  obtain ⟨m1, r1, r2, r3⟩ := m_layYear h2
  have e3 : mA m1 3 = (mA m 3).set p (nI x) := by rw [r2.2.1 3 (by decide), mA_wA, if_pos rfl]
  have back : ((mA m 3).set p (nI x)).set p ((mA m 3).getD p 0) = mA m 3 := by rw [List.set_set]; exact set_self
  rw [gA_at (by omega) (by omega), Option.bind_some, sA_at0 (by omega) (by omega), Option.bind_some, r1, bnd_some, gA_at (by rw [r2.2.2.2.2.2.2.2]; omega) (by omega), r3 p hp, Option.bind_some, bnd_some, sA_at0 (by rw [e3, List.length_set]; omega) (by omega), Option.bind_some, e3, back]
  refine ⟨_, rfl, fun i i1 i2 => r2.1 i i1 i2, fun c hc => ?_, r2.2.2.1, r2.2.2.2.1, r2.2.2.2.2⟩
  rw [mA_wA]
  by_cases e : c = 3
  · rw [if_pos e, e]
  · rw [if_neg e, r2.2.1 c hc, mA_wA, if_neg e]
/-- how many of the first k days are no worse than d -/
def cntO (v : Nat → Int32) (d : Nat) : Nat → Nat
  | 0 => 0
  | k + 1 => if v k < v d then cntO v d k else cntO v d k + 1
theorem cntO_le {v : Nat → Int32} {d : Nat} : ∀ k, cntO v d k ≤ k
  | 0 => Nat.le_refl _
  | k + 1 => by
    have := cntO_le (v := v) (d := d) k
    unfold cntO
    split <;> omega
theorem fr_bad {m : mM} {x q b : Int32} (h : q < 0 ∨ 1 < q ∨ b ≤ 0) : f_X6_fraction m x b q = some (-9223372036854775808, m) := by
  unfold f_X6_fraction
  by_cases c1 : b ≤ 0
  · rw [if_pos c1]
  · rw [if_neg c1]
    by_cases c2 : q < 0
    · rw [if_pos c2]
    · rw [if_neg c2]
      by_cases c3 : q ≤ 1
      · rcases h with z | z | z
        · exact absurd z c2
        · exfalso; rw [Int32.lt_iff_toInt_lt] at z; rw [Int32.le_iff_toInt_le] at c3; omega
        · exact absurd z c1
      · rw [if_neg c3]
theorem x_odds_lp {m : mM} {v : Nat → Int32} {d : Nat} {q : Int32} (hd : d < 12) (hl : (mA m 1).length = 12) (hv : ∀ x, x < 12 → (mA m 1).getD x 0 = v x) : f_X6_odds_58 1000 m (nI d) q 0 0 = bnd (f_X6_fraction m (nI (cntO v d 12)) 12 q) fun (x14 : Int64) (m15 : mM) => some (x14, m15) := by
  have key := lp_upA (f := fun F m a i => f_X6_odds_58 F m (nI d) q a i) (fb := fun K m a i => fb_X6_odds_58 (fun m _ _ a i => K m a i) m (nI d) q a i) (fun _ _ _ _ => rfl) (n := 12) (G := fun _ => m) (A := fun k => nI (cntO v d k)) (E := bnd (f_X6_fraction m (nI (cntO v d 12)) 12 q) fun (x14 : Int64) (m15 : mM) => some (x14, m15)) (fun k hk K => ?_) (fun K => ?_) 12 0 1000 (by omega) (by omega)
  · exact key
  · show fb_X6_odds_58 _ _ _ _ _ _ = K m (nI (if v k < v d then cntO v d k else cntO v d k + 1)) _
    unfold fb_X6_odds_58
    rw [if_neg (show ¬ (12 : Int32) ≤ nI k from (nI_ge hk (by decide) : ¬ nI 12 ≤ nI k)), gA_at (by omega) (by omega), hv k hk, Option.bind_some, gA_at (by omega) (by omega), hv d hd, Option.bind_some, nI_1]
    by_cases c : v k < v d
    · rw [if_pos c, if_pos c]
    · rw [if_neg c, if_neg c, nI_1]
  · show fb_X6_odds_58 _ _ _ _ _ _ = _
    unfold fb_X6_odds_58
    rw [if_pos (show (12 : Int32) ≤ nI 12 by decide)]
theorem m_odds_lp {n : Nat} {pd : Nat → Nat → Nat} {tw : Nat} {cs : List CL} {due : Int32} {pu : Nat → Int32} {dt yr p d : Nat} {q : Int32} {m0 : mM} (hp : p < n) : ∀ (j k : Nat) (m : mM) (F : Nat), k + j = 12 → j < F → MR m n pd tw cs due pu dt yr → FY m0 m → ∃ m', f_X7_odds_44 F m (nI p) q (vB n pd cs due dt yr 2 p d) (nI (cntO (vB n pd cs due dt yr 2 p) d k)) (nI k) = (bnd (f_X7_lowest m' (nI (cntO (vB n pd cs due dt yr 2 p) d 12)) 12 q) fun (x13 : Int64) (m14 : mM) => some (x13, m14)) ∧ FY m0 m' := by
  intro j
  induction j with
  | zero =>
    intro k m F hk hF h hf
    obtain ⟨F', rfl⟩ : ∃ F', F = F' + 1 := ⟨F - 1, by omega⟩
    obtain rfl : k = 12 := by omega
    refine ⟨m, ?_, hf⟩
    show fb_X7_odds_44 _ _ _ _ _ _ _ = _
    unfold fb_X7_odds_44
    rw [if_pos (show (12 : Int32) ≤ nI 12 by decide)]
  | succ j ih =>
    intro k m F hk hF h hf
    obtain ⟨F', rfl⟩ : ∃ F', F = F' + 1 := ⟨F - 1, by omega⟩
    obtain ⟨m1, r1, r2⟩ := m_yearIf h hp (x := k) (by omega)
    show ∃ m', fb_X7_odds_44 _ _ _ _ _ _ _ = _ ∧ _
    unfold fb_X7_odds_44
    rw [if_neg (show ¬ (12 : Int32) ≤ nI k from (nI_ge (by omega) (by decide) : ¬ nI 12 ≤ nI k)), r1, bnd_some]
    have := ih (k + 1) m1 F' (by omega) (by omega) (h.fy r2) (hf.trans r2)
    by_cases c : vB n pd cs due dt yr 2 p k < vB n pd cs due dt yr 2 p d
    · have e : cntO (vB n pd cs due dt yr 2 p) d (k + 1) = cntO (vB n pd cs due dt yr 2 p) d k := if_pos c
      rw [e] at this
      rw [if_pos c, nmI_eq, Int32.add_zero, nI_1]; exact this
    · have e : cntO (vB n pd cs due dt yr 2 p) d (k + 1) = cntO (vB n pd cs due dt yr 2 p) d k + 1 := if_neg c
      rw [e] at this
      rw [if_neg c, nmI_eq, nI_1, nI_1]; exact this
theorem op_odds (h : RR mx mm) (p x q : Int32) : OPe (f_X6_odds mx p x q) (f_X7_odds mm p x q) := by
  obtain ⟨W, S, hr⟩ := id h
  obtain ⟨cs, hg⟩ := RRs.rg hr
  unfold f_X6_odds f_X7_odds
  rw [hg.per.1, hg.per.2, bnd_some, bnd_some]
  cases hp : inR S.1 p with
  | false => exact ⟨_, mx, mm, rfl, rfl, h⟩
  | true =>
    have hn := hg.2.1.1.1
    obtain ⟨k, hk, rfl⟩ := inR_t (by omega) hp
    rw [zB_t, if_neg i0, if_neg i0, op_isDay, op7_isDay, bnd_some, bnd_some]
    cases hd : inR 12 x with
    | false => exact ⟨_, mx, mm, rfl, rfl, h⟩
    | true =>
      obtain ⟨d, hd12, rfl⟩ := inR_t (by decide) hd
      obtain ⟨c1, c2, c3⟩ := hg.copy
      have htw := hg.tw
      have hmr := hg.mr
      have e900 : mR (cpM mx 32 14) 900 = mR mx 900 := c2.2.2.2.1 900 (by decide) (by decide)
      have htb := twA_b hg.2.2.2.2.2.2.1.1
      have e0 : mI (cpM mx 32 14) (64 * mR mx 900 + 0) = nI (clLast 1 10 cs) := by
        rw [c2.1 _ (by rw [show mR mx 900 = twA S.2.2.2.2.2.2 from hg.2.2.2.2.2.2.1.2.1]; omega) (by rw [show mR mx 900 = twA S.2.2.2.2.2.2 from hg.2.2.2.2.2.2.1.2.1]; omega)]; exact htw.2.1
      obtain ⟨m1, x1, x2, x3, x4⟩ := x_tryDays (due := nI (clLast 1 10 cs)) c3 hk (Or.inr ⟨rfl, rfl⟩)
      have hfx := c2.ft x2 x3.x.1 x3.x.2
      rw [zB_t, if_neg i0, if_neg i0, c1, bnd_some, e900, chR_t htw.1, e0, x1, bnd_some, x_odds_lp hd12 x3.x.2 x4, in_g, bnd_some]
      by_cases q0 : q < 0
      · rw [fr_bad (Or.inl q0), if_pos q0, bnd_some, if_pos rfl]
        exact ⟨_, m1, mm, rfl, rfl, h.frS hfx (FSM.rfl hg.2.2.2.2.1)⟩
      by_cases q1 : 1 < q
      · rw [fr_bad (Or.inr (Or.inl q1)), if_neg q0, if_pos q1, bnd_some, if_pos rfl]
        exact ⟨_, m1, mm, rfl, rfl, h.frS hfx (FSM.rfl hg.2.2.2.2.1)⟩
      have hq1 : q ≤ 1 := by rw [Int32.lt_iff_toInt_lt] at q1; rw [Int32.le_iff_toInt_le]; omega
      obtain ⟨m2, r1, r2⟩ := m_yearIf hmr hk hd12
      obtain ⟨m3, s1, s2⟩ := m_odds_lp (q := q) (d := d) (m0 := mm) hk 12 0 m2 1000 (by omega) (by omega) (hmr.fy r2) r2
      have s1' : f_X7_odds_44 1000 m2 (nI k) q (vB S.1 S.2.1 cs (nI (clLast 1 10 cs)) S.2.2.2.1 S.2.2.2.2.1 2 k d) 0 0 = _ := s1
      have hc := cntO_le (v := vB S.1 S.2.1 cs (nI (clLast 1 10 cs)) S.2.2.2.1 S.2.2.2.2.1 2 k) (d := d) 12
      rw [if_neg q0, if_neg q1, if_neg i0, r1, bnd_some, s1', show (12 : Int32) = nI 12 from rfl, x_fraction (by decide) (by decide) q0 hq1, m_lowest (by decide) (by decide) (by rw [nI_toInt (by omega)]; omega), bnd_some, bnd_some]
      exact ⟨_, m1, m3, rfl, rfl, h.frS hfx (s2.sm hg.2.2.2.2.1)⟩
/-- how many are there -/
def cntT (pd : Nat → Nat → Nat) : Nat → Nat
  | 0 => 0
  | k + 1 => if pd 4 k = 0 then cntT pd k else cntT pd k + 1
theorem cntT_le {pd : Nat → Nat → Nat} : ∀ k, cntT pd k ≤ k
  | 0 => Nat.le_refl _
  | k + 1 => by
    have := cntT_le (pd := pd) k
    unfold cntT
    split <;> omega
theorem op_mean (h : RR mx mm) (q : Int32) : OPe (f_X6_mean mx q) (f_X7_mean mm q) := by
  obtain ⟨W, S, hr⟩ := id h
  obtain ⟨cs, hg⟩ := RRs.rg hr
  have hn := hg.2.1.1.1
  have htw := hg.tw
  have hmr := hg.mr
  have hct := cntT_le (pd := S.2.1) S.1
  obtain ⟨m1, x1, x2, x3, x4, x5, x6⟩ := hg.year
  have hx : f_X6_mean mx q = (bnd (f_X6_fraction m1 (gS S.2.1 (gY S.1 S.2.1 cs (nI (clLast 1 10 cs)) S.2.2.2.1 S.2.2.2.2.1) (-1) S.1) (nI (cntT S.2.1 S.1)) q) fun (x8 : Int64) (m9 : mM) => some (x8, m9)) := by
    unfold f_X6_mean
    have key := lp_upA (f := fun F m a i => f_X6_mean_4 F m q a i) (fb := fun K m a i => fb_X6_mean_4 (fun m _ a i => K m a i) m q a i) (fun _ _ _ _ => rfl) (n := S.1) (G := fun _ => mx) (A := fun k => nI (cntT S.2.1 k)) (E := bnd (f_X6_fraction m1 (gS S.2.1 (gY S.1 S.2.1 cs (nI (clLast 1 10 cs)) S.2.2.2.1 S.2.2.2.2.1) (-1) S.1) (nI (cntT S.2.1 S.1)) q) fun (x8 : Int64) (m9 : mM) => some (x8, m9)) (fun k hk K => ?_) (fun K => ?_) S.1 0 1000 (by omega) (by omega)
    · exact key
    · have g5 := (hg.2.2.2.2.2.1.g hk).2.2.2.2.1
      have r5 := (hg.2.1.1.2 k hk).2.2.2.2.1
      show fb_X6_mean_4 _ _ _ _ _ = K mx (nI (if S.2.1 4 k = 0 then cntT S.2.1 k else cntT S.2.1 k + 1)) _
      unfold fb_X6_mean_4
      rw [show mI mx 896 = nI S.1 from hg.1.2.1.1.1, if_neg (nI_ge hk (by omega)), show gA (mA mx 20) (nI k) = _ from g5, Option.bind_some, nI_1]
      by_cases c : S.2.1 4 k = 0
      · rw [if_pos ((nI_z (by omega)).mpr c), if_pos c]
      · rw [if_neg (fun z => c ((nI_z (by omega)).mp z)), if_neg c, nI_1]
    · show fb_X6_mean_4 _ _ _ _ _ = _
      unfold fb_X6_mean_4
      rw [show mI mx 896 = nI S.1 from hg.1.2.1.1.1, if_pos (nI_le (Nat.le_refl _) (by omega)), chR_t htw.1, htw.2.1, x1, bnd_some, x_gain x4 x5 x6, bnd_some]
  rw [hx]
  unfold f_X7_mean
  rw [in_g, bnd_some]
  have fin0 := h.frS x2 (FSM.rfl hg.2.2.2.2.1)
  by_cases q0 : q < 0
  · rw [fr_bad (Or.inl q0), if_pos q0, bnd_some, if_pos rfl]; exact ⟨_, m1, mm, rfl, rfl, fin0⟩
  by_cases q1 : 1 < q
  · rw [fr_bad (Or.inr (Or.inl q1)), if_neg q0, if_pos q1, bnd_some, if_pos rfl]; exact ⟨_, m1, mm, rfl, rfl, fin0⟩
  have hq1 : q ≤ 1 := by rw [Int32.lt_iff_toInt_lt] at q1; rw [Int32.le_iff_toInt_le]; omega
  rw [if_neg q0, if_neg q1, if_neg i0]
  have hm : f_X7_mean_18 1000 mm q 0 0 = (if nI (cntT S.2.1 S.1) = 0 then some ((-9223372036854775808), mm) else bnd (f_X7_allMore mm) fun (x4 : Int32) (m5 : mM) => bnd (f_X7_lowest m5 x4 (nI (cntT S.2.1 S.1)) q) fun (x7 : Int64) (m8 : mM) => some (x7, m8)) := by
    have key := lp_upA (f := fun F m a i => f_X7_mean_18 F m q a i) (fb := fun K m a i => fb_X7_mean_18 (fun m _ a i => K m a i) m q a i) (fun _ _ _ _ => rfl) (n := S.1) (G := fun _ => mm) (A := fun k => nI (cntT S.2.1 k)) (E := (if nI (cntT S.2.1 S.1) = 0 then some ((-9223372036854775808), mm) else bnd (f_X7_allMore mm) fun (x4 : Int32) (m5 : mM) => bnd (f_X7_lowest m5 x4 (nI (cntT S.2.1 S.1)) q) fun (x7 : Int64) (m8 : mM) => some (x7, m8))) (fun k hk K => ?_) (fun K => ?_) S.1 0 1000 (by omega) (by omega)
    · exact key
    · have g5 := (hmr.1.1.g hk).2.2.2.2.1
      have r5 := (hg.2.1.1.2 k hk).2.2.2.2.1
      show fb_X7_mean_18 _ _ _ _ _ = K mm (nI (if S.2.1 4 k = 0 then cntT S.2.1 k else cntT S.2.1 k + 1)) _
      unfold fb_X7_mean_18
      rw [hmr.1.1.1, if_neg (nI_ge hk (by omega)), g5, Option.bind_some, nI_1]
      by_cases c : S.2.1 4 k = 0
      · rw [if_pos ((nI_z (by omega)).mpr c), if_pos c, nmI_eq, Int32.add_zero]
      · rw [if_neg (fun z => c ((nI_z (by omega)).mp z)), if_neg c, nmI_eq, nI_1]
    · show fb_X7_mean_18 _ _ _ _ _ = _
      unfold fb_X7_mean_18
      rw [hmr.1.1.1, if_pos (nI_le (Nat.le_refl _) (by omega))]
  rw [hm]
  by_cases c : cntT S.2.1 S.1 = 0
  · rw [if_pos ((nI_z (by omega)).mpr c), fr_bad (Or.inr (Or.inr (by rw [c]; decide))), bnd_some]; exact ⟨_, m1, mm, rfl, rfl, fin0⟩
  · obtain ⟨m2, r1, r2, r3⟩ := m_allMore hmr
    have hcs := hg.2.2.2.2.2.2.1.2.2.2.2.1
    have hcl := hg.2.2.2.2.2.2.1.2.2.2.2.2
    have hde := clLast_lt (w := 1) (d := 10) hcs (by decide)
    have hb := gS_b (pd := S.2.1) (y := -1) (g := gY S.1 S.2.1 cs (nI (clLast 1 10 cs)) S.2.2.2.1 S.2.2.2.2.1) hn (fun p hp => gY_b hn hcs hcl hde hp) S.1 (Nat.le_refl _)
    rw [if_neg (fun z => c ((nI_z (by omega)).mp z)), r1, bnd_some, x_fraction (by omega) (by omega) q0 hq1, m_lowest (by omega) (by omega) (by omega), bnd_some, bnd_some]
    exact ⟨_, m1, m2, rfl, rfl, h.frS x2 (r2.sm hg.2.2.2.2.1)⟩
end OPS13
end
-- 23e.ops14.lean.txt
section
/-! OPERATIONS: looked -/
section OPS14
variable {mx mm : mM}
theorem abs_in {z y : Int32} (hz : -1073741823 ≤ z.toInt ∧ z.toInt ≤ 1073741823) (hy : 0 ≤ y.toInt) : (abI z ≤ y) ↔ (-y.toInt ≤ z.toInt ∧ z.toInt ≤ y.toInt) := by
  have i0' : (0 : Int32).toInt = 0 := rfl
  unfold abI
  rw [Int32.le_iff_toInt_le]
  by_cases c : 0 ≤ z
  · rw [if_pos c]
    rw [Int32.le_iff_toInt_le, i0'] at c
    omega
  · rw [if_neg c, subI (by rw [i0']; omega) (by omega), i0']
    rw [Int32.le_iff_toInt_le, i0'] at c
    omega
theorem op_looked (h : RR mx mm) (p : Int32) : OPe (f_X6_looked mx p) (f_X7_looked mm p) := by
  obtain ⟨W, S, hr⟩ := id h
  obtain ⟨cs, hg⟩ := RRs.rg hr
  have hn := hg.2.1.1.1
  obtain ⟨hX, hS, hM, hQ⟩ := id hg.1
  unfold f_X6_looked f_X7_looked
  rw [op_in (n := 100) (in_lit (by decide) (by decide)), bnd_some]
  by_cases t0 : p < 0
  · rw [if_pos t0, inR_low t0]; exact ⟨_, mx, mm, rfl, rfl, h⟩
  rw [if_neg t0]
  have e1 : (99 : Int32).toInt = 99 := by decide
  have e2 : (nI 100).toInt = 100 := by decide
  by_cases t1 : p ≤ 99
  · have hp : inR 100 p = true := inR_mid t0 (n := 100) (fun z => by rw [Int32.le_iff_toInt_le] at t1 z; omega)
    obtain ⟨Y, hY, rfl⟩ := inR_t (by decide) hp
    rw [if_pos t1, hp, zB_t, if_neg i0, show mI mx 896 = nI S.1 from hS.1.1, show mI mm 0 = nI S.1 from hQ.1.1]
    by_cases c0 : S.1 = 0
    · rw [if_pos ((nI_z (by omega)).mpr c0), if_pos ((nI_z (by omega)).mpr c0)]; exact ⟨_, mx, mm, rfl, rfl, h⟩
    rw [if_neg (fun z => c0 ((nI_z (by omega)).mp z)), if_neg (fun z => c0 ((nI_z (by omega)).mp z))]
    have h0 : 0 < S.1 := by omega
    have htw := hg.tw
    have hmr := hg.mr
    have hlen := hg.2.1.2.2.2.1
    have hyr := hg.2.1.2.2.1
    have hdt := hg.2.1.2.1
    obtain ⟨hB1, hB2⟩ := hg.2.1.2.2.2.2.2
    have hp0 := hB1 0 h0
    have hcs := hg.2.2.2.2.2.2.1.2.2.2.2.1
    have hcl := hg.2.2.2.2.2.2.1.2.2.2.2.2
    have hde := clLast_lt (w := 1) (d := 10) hcs (by decide)
    obtain ⟨mk, k1, kD, k6, k9, k10, k2, k3, k4, k5⟩ := m_kept hmr
    obtain ⟨m1, s1, s2, s3, s4⟩ := hg.start (due := nI (clLast 1 10 cs))
    rw [chR_t htw.1, htw.2.1, s1, bnd_some, k1, bnd_some]
    have hYt : (nI Y).toInt = (Y : Int) := nI_toInt (by omega)
    have hYn : (-nI Y).toInt = -(Y : Int) := by rw [Int32.toInt_neg, hYt, Int.bmod_eq_of_le (by omega) (by omega)]
    have l19 : ∀ {m' : mM}, FX mx m' → (mA m' 19).length = 7 ∧ (mA m' 19).getD 0 0 = S.2.2.1 0 := fun f => by
      rw [f.2.1 19 (by decide)]; exact ⟨hX.2.1, hS.2.2.1 0 h0⟩
    have back : ∀ {m2 : mM} {s : DS} {v : Int32}, MD m2 S.1 S.2.1 S.2.2.2.2.2.2 cs (nI (clLast 1 10 cs)) S.2.2.1 s → FM mk m2 → ∃ m', f_X7_looked_87 m2 v = some (v, m') ∧ FY mm m' := by
      intro m2 s v hD f
      obtain ⟨b1, b2, b3, b4, b5, b6, b7, b8, b9, b10⟩ := hD
      obtain ⟨m3, r1, r2, r3⟩ := m_back (s := (0, 0, fun _ => 0, fun _ => 0, 0)) hmr k6 k9 k10 k2 k3 k4 k5 f.1 (fun c c1 c2 c3 _ => f.2.1 c c1 c2 c3) f.2.2.1 f.2.2.2 b5 b6 b7 (by rw [f.2.1 20 (by decide) (by decide) (by decide), k3 20 (by decide) (by decide)]; exact hmr.2.2.2.2.2.2.2.2.2.2.2)
      refine ⟨m3, ?_, r2⟩
      unfold f_X7_looked_87
      rw [r1, bnd_some]
    have main : ∀ (j k : Nat) (ma mb : mM) (F : Nat) (s : DS), k + j = S.2.2.2.2.2.1.length → j + 1 < F → XD ma 14 S.1 S.2.1 S.2.2.2.2.2.2 cs (nI (clLast 1 10 cs)) s → MD mb S.1 S.2.1 S.2.2.2.2.2.2 cs (nI (clLast 1 10 cs)) S.2.2.1 s → FX mx ma → FM mk mb → s.2.1 ≤ 999 + k → (-(80000 * (k : Int)) ≤ (s.2.2.1 0).toInt ∧ (s.2.2.1 0).toInt ≤ 80000 * (k : Int)) → ∃ r ma' mb', f_X6_looked_49 F ma (nI Y) (nI k) = some (r, ma') ∧ f_X7_looked_33 F mb (nI Y) (-5) (nI k) = some (r, mb') ∧ FSX mx ma' ∧ FY mm mb' := by
      intro j
      induction j with
      | zero =>
        intro k ma mb F s hk hF hx hD fx fm hy hgb
        obtain ⟨F', rfl⟩ : ∃ F', F = F' + 1 := ⟨F - 1, by omega⟩
        obtain ⟨m', q1, q2⟩ := back (v := -5) hD fm
        refine ⟨-5, ma, m', ?_, ?_, hx.frS hg.2.2.2.1 fx, q2⟩
        · show fb_X6_looked_49 _ _ _ _ = _
          unfold fb_X6_looked_49
          rw [fx.1 899 (by decide), show mI mx 899 = nI S.2.2.2.2.2.1.length from hS.1.2.2.2.1, if_pos (nI_le (by omega) (by omega))]
        · show fb_X7_looked_33 _ _ _ _ _ = _
          unfold fb_X7_looked_33
          rw [fm.1 38 (by decide) (by decide), k2 38 (by decide) (by decide), show mI mm 38 = nI S.2.2.2.2.2.1.length from hQ.1.2.2.2.1, if_pos (nI_le (by omega) (by omega)), q1]
      | succ j ih =>
        intro k ma mb F s hk hF hx hD fx fm hy hgb
        obtain ⟨F', rfl⟩ : ∃ F', F = F' + 1 := ⟨F - 1, by omega⟩
        obtain ⟨ma1, a1, a2, a3⟩ := x_go (N := 1) (by decide) hx (by omega)
        obtain ⟨mb1, b1, b2, b3⟩ := m_goDay hD (by omega)
        have fx1 := fx.trans a3
        have fm1 := fm.trans b3
        have a2 : XD ma1 14 S.1 S.2.1 S.2.2.2.2.2.2 cs (nI (clLast 1 10 cs)) (day1 S.1 S.2.1 cs (nI (clLast 1 10 cs)) s) := a2
        obtain ⟨n1, n2⟩ := l19 fx1
        have hb1 := day1_b (n := S.1) (pd := S.2.1) (cs := cs) (p := 0) (e := clLast 1 10 cs) (s := s) (B := 80000 * (k : Int)) hn hcs hcl hde (by omega) h0 hgb
        have hbk := hB2 k (by omega)
        generalize hs1 : day1 S.1 S.2.1 cs (nI (clLast 1 10 cs)) s = s1 at *
        obtain ⟨⟨x1, x2, x3, x4, x5, x6, x7, x8, x9, x10, x11, x12, x13⟩, -⟩ := id a2
        obtain ⟨d1, d2, d3, d4, d5, d6, d7, d8, d9, d10⟩ := id b2
        have eb : (mA ma1 22).length = 12 ∧ (mA ma1 22).getD k 0 = S.2.2.2.2.2.1.getD k 0 := by rw [fx1.2.1 22 (by decide)]; exact ⟨hX.2.2, hS.2.2.2 k (by omega)⟩
        have eb2 : (mA mb1 23).length = 12 ∧ (mA mb1 23).getD k 0 = S.2.2.2.2.2.1.getD k 0 := by rw [fm1.2.1 23 (by decide) (by decide) (by decide), k3 23 (by decide) (by decide)]; exact ⟨hM.2.2, hQ.2.2.2 k (by omega)⟩
        have hpu : -960000000 ≤ (S.2.2.1 0).toInt ∧ (S.2.2.1 0).toInt ≤ 960000000 := by omega
        have z1 : (S.2.2.2.2.2.1.getD k 0 - S.2.2.1 0 - s1.2.2.1 0).toInt = (S.2.2.2.2.2.1.getD k 0).toInt - (S.2.2.1 0).toInt - (s1.2.2.1 0).toInt := by
          have w1 := subI (a := S.2.2.2.2.2.1.getD k 0) (b := S.2.2.1 0) (by omega) (by omega)
          rw [subI (by rw [w1]; omega) (by omega), w1]
        have z2 : (S.2.2.1 0 + s1.2.2.1 0 - S.2.2.2.2.2.1.getD k 0).toInt = (S.2.2.1 0).toInt + (s1.2.2.1 0).toInt - (S.2.2.2.2.2.1.getD k 0).toInt := by
          have w1 := addI (a := S.2.2.1 0) (b := s1.2.2.1 0) (by omega) (by omega)
          rw [subI (by rw [w1]; omega) (by omega), w1]
        have key := abs_in (z := S.2.2.2.2.2.1.getD k 0 - S.2.2.1 0 - s1.2.2.1 0) (y := nI Y) (by rw [z1]; omega) (by omega)
        rw [z1, hYt] at key
        have g42 : (mA ma1 42).getD 0 0 = s1.2.2.1 0 := x12 0 h0
        have g5 : (mA mb1 5).getD 0 0 = S.2.2.1 0 + s1.2.2.1 0 := d8 0 h0
        have xe : f_X6_looked_49 (F' + 1) ma (nI Y) (nI k) = (if abI (S.2.2.2.2.2.1.getD k 0 - S.2.2.1 0 - s1.2.2.1 0) ≤ nI Y then f_X6_looked_49 F' ma1 (nI Y) (nI k + 1) else some (nI k, ma1)) := by
          show fb_X6_looked_49 _ _ _ _ = _
          unfold fb_X6_looked_49
          rw [fx.1 899 (by decide), show mI mx 899 = nI S.2.2.2.2.2.1.length from hS.1.2.2.2.1, if_neg (nI_ge (by omega) (by omega)), show (1 : Int32) = nI 1 from rfl, a1, bnd_some, gA_at (xs := mA ma1 22) (by omega) (by omega), eb.2, Option.bind_some, show (0 : Int32) = nI 0 from rfl, gA_at (xs := mA ma1 19) (by omega) (by omega), n2, Option.bind_some, gA_at (xs := mA ma1 42) (by omega) (by omega), g42, Option.bind_some]
        have me : f_X7_looked_33 (F' + 1) mb (nI Y) (-5) (nI k) = (if (if S.2.2.1 0 + s1.2.2.1 0 - S.2.2.2.2.2.1.getD k 0 < -nI Y then (0 : Int32) else if nI Y < S.2.2.1 0 + s1.2.2.1 0 - S.2.2.2.2.2.1.getD k 0 then 0 else 1) = 0 then f_X7_looked_33 F' mb1 (nI Y) (nI k) (nI k + 1) else f_X7_looked_33 F' mb1 (nI Y) (-5) (nI k + 1)) := by
          show fb_X7_looked_33 _ _ _ _ _ = _
          unfold fb_X7_looked_33
          rw [fm.1 38 (by decide) (by decide), k2 38 (by decide) (by decide), show mI mm 38 = nI S.2.2.2.2.2.1.length from hQ.1.2.2.2.1, if_neg (nI_ge (by omega) (by omega)), if_neg (show ¬ (0 : Int32) ≤ -5 by decide), b1, bnd_some, show (gA (mA mb1 5) 0) = some (S.2.2.1 0 + s1.2.2.1 0) from (gA_at (xs := mA mb1 5) (i := 0) (by omega) (by omega)).trans (congrArg some g5), Option.bind_some, gA_at (xs := mA mb1 23) (by omega) (by omega), eb2.2, Option.bind_some, in_g, bnd_some]
        rw [xe, me]
        by_cases c : abI (S.2.2.2.2.2.1.getD k 0 - S.2.2.1 0 - s1.2.2.1 0) ≤ nI Y
        · have c' := key.mp c
          rw [if_pos c, if_neg (show ¬ S.2.2.1 0 + s1.2.2.1 0 - S.2.2.2.2.2.1.getD k 0 < -nI Y by rw [Int32.lt_iff_toInt_lt, hYn, z2]; omega), if_neg (show ¬ nI Y < S.2.2.1 0 + s1.2.2.1 0 - S.2.2.2.2.2.1.getD k 0 by rw [Int32.lt_iff_toInt_lt, hYt, z2]; omega), if_neg (show ¬ (1 : Int32) = 0 by decide), nI_1]
          have hy1 : s1.2.1 ≤ s.2.1 + 1 := by
            rw [← hs1]
            show s.2.1 + (if s.1 = 11 then 1 else 0) ≤ _
            split <;> omega
          exact ih (k + 1) ma1 mb1 F' s1 (by omega) (by omega) a2 b2 fx1 fm1 (by omega) (by omega)
        · have c' : ¬ (-(Y : Int) ≤ (S.2.2.2.2.2.1.getD k 0).toInt - (S.2.2.1 0).toInt - (s1.2.2.1 0).toInt ∧ (S.2.2.2.2.2.1.getD k 0).toInt - (S.2.2.1 0).toInt - (s1.2.2.1 0).toInt ≤ Y) := fun z => c (key.mpr z)
          have ez : (if S.2.2.1 0 + s1.2.2.1 0 - S.2.2.2.2.2.1.getD k 0 < -nI Y then (0 : Int32) else if nI Y < S.2.2.1 0 + s1.2.2.1 0 - S.2.2.2.2.2.1.getD k 0 then 0 else 1) = 0 := by
            by_cases w : S.2.2.1 0 + s1.2.2.1 0 - S.2.2.2.2.2.1.getD k 0 < -nI Y
            · rw [if_pos w]
            · rw [if_neg w, if_pos]
              rw [Int32.lt_iff_toInt_lt, hYn, z2] at w
              rw [Int32.lt_iff_toInt_lt, hYt, z2]; omega
          rw [if_neg c, if_pos ez]
          obtain ⟨F'', rfl⟩ : ∃ F'', F' = F'' + 1 := ⟨F' - 1, by omega⟩
          obtain ⟨m', q1, q2⟩ := back (v := nI k) b2 fm1
          refine ⟨nI k, ma1, m', rfl, ?_, a2.frS hg.2.2.2.1 fx1, q2⟩
          show fb_X7_looked_33 _ _ _ _ _ = _
          unfold fb_X7_looked_33
          split
          · exact q1
          · rw [if_pos (show (0 : Int32) ≤ nI k from (nI_le (Nat.zero_le _) (by omega) : nI 0 ≤ _))]; exact q1
    obtain ⟨r, ma', mb', r1, r2, r3, r4⟩ := main S.2.2.2.2.2.1.length 0 m1 mk 1000 _ (by omega) (by omega) s2 kD s3 FM.rfl (by show S.2.2.2.2.1 ≤ 999 + 0; omega) (by show _ ≤ (0 : Int32).toInt ∧ (0 : Int32).toInt ≤ _; decide)
    exact ⟨r, ma', mb', r1, r2, h.frS r3 (r4.sm hg.2.2.2.2.1)⟩
  · rw [if_neg t1, inR_high (n := 100) (by rw [Int32.le_iff_toInt_le] at t1 ⊢; omega)]; exact ⟨_, mx, mm, rfl, rfl, h⟩
end OPS14
end
-- 23f.rest.lean.txt
section
/-! REST: what the reference keeps and puts back; the class alone -/
section REST
theorem m_rest_keep {m : mM} (l4 : (mA m 4).length = 7) (l21 : (mA m 21).length = 7) : f_X7_layRest m = f_X7_layRest_32 1000 (wA m 21 (mA m 4)) 0 0 0 := by
  unfold f_X7_layRest
  have main : ∀ (j k : Nat) (l : List Int32) (F : Nat), k + j = 7 → j < F → l.length = 7 → (∀ q, q < k → l.getD q 0 = (mA m 4).getD q 0) → f_X7_layRest_2 F (wA m 21 l) (nI k) = f_X7_layRest_32 1000 (wA m 21 (mA m 4)) 0 0 0 := by
    intro j
    induction j with
    | zero =>
      intro k l F hk hF hl h
      obtain ⟨F', rfl⟩ : ∃ F', F = F' + 1 := ⟨F - 1, by omega⟩
      obtain rfl : k = 7 := by omega
      have e : l = mA m 4 := lext hl l4 h
      show fb_X7_layRest_2 _ _ _ = _
      unfold fb_X7_layRest_2
      rw [if_pos (show (7 : Int32) ≤ nI 7 by decide), e]
    | succ j ih =>
      intro k l F hk hF hl h
      obtain ⟨F', rfl⟩ : ∃ F', F = F' + 1 := ⟨F - 1, by omega⟩
      show fb_X7_layRest_2 _ _ _ = _
      unfold fb_X7_layRest_2
      rw [if_neg (show ¬ (7 : Int32) ≤ nI k from (nI_ge (by omega) (by decide) : ¬ nI 7 ≤ nI k)), show mA (wA m 21 l) 4 = mA m 4 from rfl, gA_at (by omega) (by omega), Option.bind_some, sA_at0 (by show k < l.length; omega) (by omega), Option.bind_some, wA_wA, show mA (wA m 21 l) 21 = l from rfl, nI_1]
      refine ih (k + 1) _ F' (by omega) (by omega) (by rw [List.length_set]; exact hl) (fun q hq => ?_)
      rw [gd_set]
      by_cases e : k = q
      · subst e; rw [if_pos ⟨rfl, by omega⟩]
      · rw [if_neg (fun z => e z.1)]; exact h q (by omega)
  have := main 7 0 (mA m 21) 1000 (by omega) (by omega) l21 (fun q hq => absurd hq (Nat.not_lt_zero q))
  rw [wA_self] at this
  exact this
theorem m_rest_end {m : mM} {c : Int32} (l4 : (mA m 4).length = 7) (l21 : (mA m 21).length = 7) (l22 : (mA m 22).length = 7) : f_X7_layRest_126 1000 m c 0 = some (if c ≤ 8 then c else -5, wA (wA m 22 (mA m 4)) 4 (mA m 21)) := by
  have main : ∀ (j k : Nat) (a b : List Int32) (F : Nat), k + j = 7 → j < F → a.length = 7 → b.length = 7 → (∀ q, q < 7 → a.getD q 0 = if q < k then (mA m 4).getD q 0 else (mA m 22).getD q 0) → (∀ q, q < 7 → b.getD q 0 = if q < k then (mA m 21).getD q 0 else (mA m 4).getD q 0) → f_X7_layRest_126 F (wA (wA m 22 a) 4 b) c (nI k) = some (if c ≤ 8 then c else -5, wA (wA m 22 (mA m 4)) 4 (mA m 21)) := by
    intro j
    induction j with
    | zero =>
      intro k a b F hk hF ha hb h1 h2
      obtain ⟨F', rfl⟩ : ∃ F', F = F' + 1 := ⟨F - 1, by omega⟩
      obtain rfl : k = 7 := by omega
      have ea : a = mA m 4 := lext ha l4 (fun q hq => by rw [h1 q hq, if_pos hq])
      have eb : b = mA m 21 := lext hb l21 (fun q hq => by rw [h2 q hq, if_pos hq])
      show fb_X7_layRest_126 _ _ _ _ = _
      unfold fb_X7_layRest_126
      rw [if_pos (show (7 : Int32) ≤ nI 7 by decide), ea, eb]
      by_cases z : c ≤ 8
      · rw [if_pos z, if_pos z]
      · rw [if_neg z, if_neg z]
    | succ j ih =>
      intro k a b F hk hF ha hb h1 h2
      obtain ⟨F', rfl⟩ : ∃ F', F = F' + 1 := ⟨F - 1, by omega⟩
      show fb_X7_layRest_126 _ _ _ _ = _
      unfold fb_X7_layRest_126
      have em : wA (wA (wA (wA m 22 a) 4 b) 22 (a.set k (b.getD k 0))) 4 (b.set k ((mA m 21).getD k 0)) = wA (wA m 22 (a.set k (b.getD k 0))) 4 (b.set k ((mA m 21).getD k 0)) := by
        refine Prod.ext rfl (Prod.ext ?_ rfl)
        funext d
        show (if d = 4 then _ else if d = 22 then _ else if d = 4 then _ else if d = 22 then _ else _) = (if d = 4 then _ else if d = 22 then _ else _)
        by_cases c1 : d = 4
        · rw [if_pos c1, if_pos c1]
        · rw [if_neg c1, if_neg c1]
          by_cases c2 : d = 22
          · rw [if_pos c2, if_pos c2, if_neg c1]
          · rw [if_neg c2, if_neg c2, if_neg c1, if_neg c2]
      rw [if_neg (show ¬ (7 : Int32) ≤ nI k from (nI_ge (by omega) (by decide) : ¬ nI 7 ≤ nI k)), show mA (wA (wA m 22 a) 4 b) 4 = b from rfl, gA_at (by omega) (by omega), Option.bind_some, sA_at0 (by show k < a.length; omega) (by omega), Option.bind_some, show mA (wA (wA (wA m 22 a) 4 b) 22 ((mA (wA (wA m 22 a) 4 b) 22).set k (b.getD k 0))) 21 = mA m 21 from rfl, gA_at (by omega) (by omega), Option.bind_some, sA_at0 (by show k < b.length; omega) (by omega), Option.bind_some, show mA (wA (wA m 22 a) 4 b) 22 = a from rfl, show mA (wA (wA (wA m 22 a) 4 b) 22 (a.set k (b.getD k 0))) 4 = b from rfl, em, nI_1]
      refine ih (k + 1) _ _ F' (by omega) (by omega) (by rw [List.length_set]; exact ha) (by rw [List.length_set]; exact hb) (fun q hq => ?_) (fun q hq => ?_)
      · rw [gd_set]
        by_cases e : k = q
        · subst e; rw [if_pos ⟨rfl, by omega⟩, if_pos (by omega), h2 k hq, if_neg (by omega)]
        · rw [if_neg (fun z => e z.1), h1 q hq]
          by_cases e2 : q < k
          · rw [if_pos e2, if_pos (by omega)]
          · rw [if_neg e2, if_neg (by omega)]
      · rw [gd_set]
        by_cases e : k = q
        · subst e; rw [if_pos ⟨rfl, by omega⟩, if_pos (by omega)]
        · rw [if_neg (fun z => e z.1), h2 q hq]
          by_cases e2 : q < k
          · rw [if_pos e2, if_pos (by omega)]
          · rw [if_neg e2, if_neg (by omega)]
  have e0 : wA (wA m 22 (mA m 22)) 4 (mA m 4) = m := by rw [wA_self]; exact wA_self
  have := main 7 0 (mA m 22) (mA m 4) 1000 (by omega) (by omega) l22 l4 (fun q hq => by rw [if_neg (by omega)]) (fun q hq => by rw [if_neg (by omega)])
  rw [e0] at this
  exact this
end REST
end
-- 23g.steps.lean.txt
section
/-! REST: a step of each -/
section RSTEP
/-- whether k changes its plan, and what is then -/
abbrev wnt (n : Nat) (pd : Nat → Nat → Nat) (cs : List CL) (dt yr k : Nat) : Prop := pd 4 k ≠ 0 ∧ gY n pd cs (nI (clLast 1 10 cs)) dt yr k < (bst (vB n pd cs (nI (clLast 1 10 cs)) dt yr 3 k) 12).2
def stp (n : Nat) (pd : Nat → Nat → Nat) (cs : List CL) (dt yr k : Nat) : Nat → Nat → Nat := if wnt n pd cs dt yr k then pdu pd 3 k (bst (vB n pd cs (nI (clLast 1 10 cs)) dt yr 3 k) 12).1 else pd
theorem x_rest_step {mx m : mM} {n : Nat} {pd : Nat → Nat → Nat} {t : Nat} {cs : List CL} {dt yr k : Nat} {y1 c q r : Int32} {K44 : mM → Int32 → Int32 → Int32 → Int32 → fR Int32} {K60 : mM → Int32 → Int32 → Int32 → Int32 → Int32 → fR Int32} (hf : FSX mx m) (h : TR m n pd t cs dt yr) (hk : k < n) : ∃ m', fb_X6_rest_60 K44 K60 m y1 c q r (nI k) = (if wnt n pd cs dt yr k then K60 m' y1 (c + 1) 0 r (nI (k + 1)) else K60 m' y1 c q r (nI (k + 1))) ∧ FSX mx m' ∧ TR m' n (stp n pd cs dt yr k) t cs dt yr := by
  have hn := h.1.2.2.1.1
  obtain ⟨r1, r2, r3, r4, r5, r6⟩ := h.1.2.2.1.2 k hk
  have g36 : ∀ {m1 : mM}, TR m1 n pd t cs dt yr → gA (mA m1 36) (nI k) = some (nI (pd 3 k)) := fun h1 => (h1.1.g hk).2.2.2.1
  unfold fb_X6_rest_60
  rw [show mI m 2048 = nI n from h.1.2.1, if_neg (nI_ge hk (by omega)), show gA (mA m 38) (nI k) = some (nI (pd 4 k)) from (h.1.g hk).2.2.2.2.1, Option.bind_some]
  by_cases c0 : pd 4 k = 0
  · have hw : ¬ wnt n pd cs dt yr k := fun z => z.1 c0
    rw [if_pos ((nI_z (by omega)).mpr c0), g36 h, Option.bind_some]
    unfold f_X6_rest_114
    rw [g36 h, Option.bind_some, if_pos rfl, nI_1]
    exact ⟨m, (if_neg hw).symm, hf, by unfold stp; rw [if_neg hw]; exact h⟩
  · obtain ⟨t1, t2, t3, t4, t5⟩ := id h.2.1
    have e : mR m 2052 = twA t := t2
    obtain ⟨m1, x1, x2, x3⟩ := x_betterPlan (due := nI (clLast 1 10 cs)) h hk
    have hf1 := hf.ft x2 x3.x.1 x3.x.2
    have hb := bst_lt (v := vB n pd cs (nI (clLast 1 10 cs)) dt yr 3 k) 12 (by decide)
    rw [if_neg (fun z => c0 ((nI_z (by omega)).mp z)), e, chR_t (twA_ok t1), show mI m (64 * twA t + 0) = nI (clLast 1 10 cs) from t4.1.1, x1, bnd_some]
    unfold f_X6_rest_114
    rw [g36 x3, Option.bind_some]
    by_cases w : gY n pd cs (nI (clLast 1 10 cs)) dt yr k < (bst (vB n pd cs (nI (clLast 1 10 cs)) dt yr 3 k) 12).2
    · have hw : wnt n pd cs dt yr k := ⟨c0, w⟩
      have l36 : (mA m1 36).length = 7 := x3.1.2.2.2.1.2.2.2.1
      have h2 := x3.set (c := 36) (f := 3) (Or.inl ⟨rfl, rfl⟩) hk hb
      rw [if_pos w, if_neg (fun z => bst_ne w ((nI_eq (by omega) (by omega)).mp z)), sA_at0 (by omega) (by omega), Option.bind_some, nI_1]
      refine ⟨wA m1 36 ((mA m1 36).set k (nI (bst (vB n pd cs (nI (clLast 1 10 cs)) dt yr 3 k) 12).1)), (if_pos hw).symm, ⟨hf1.1, fun c e1 e2 e3 => by rw [mA_wA, if_neg (by omega)]; exact hf1.2.1 c e1 e2 e3, hf1.2.2.1, hf1.2.2.2.1, ⟨h2.1.2.2.2.1, hf1.2.2.2.2.1.2⟩, h2.x.2, h2.x.1⟩, ?_⟩
      unfold stp; rw [if_pos hw]; exact h2
    · have hw : ¬ wnt n pd cs dt yr k := fun z => w z.2
      rw [if_neg w, if_pos rfl, nI_1]
      exact ⟨m1, (if_neg hw).symm, hf1, by unfold stp; rw [if_neg hw]; exact x3⟩
/-- a step of the reference -/
theorem m_rest_step {m : mM} {n : Nat} {pd : Nat → Nat → Nat} {tw : Nat} {cs : List CL} {pu : Nat → Int32} {dt yr k c q : Nat} {K32 : mM → Int32 → Int32 → Int32 → fR Int32} (h : MR m n pd tw cs (nI (clLast 1 10 cs)) pu dt yr) (hk : k < n) (hq : q < n) (hc : c < 9) : ∃ m', fb_X7_layRest_32 K32 m (nI c) (nI q) (nI k) = (if wnt n pd cs dt yr k then K32 m' (nI (c + 1)) 0 (nI ((k + 1) % n)) else K32 m' (nI c) (nI (q + 1)) (nI ((k + 1) % n))) ∧ MR m' n (stp n pd cs dt yr k) tw cs (nI (clLast 1 10 cs)) pu dt yr ∧ (∀ i, i ≠ 31 → i ≠ 32 → i ≠ 34 → i ≠ 35 → mI m' i = mI m i) ∧ (∀ d, d ≠ 4 → ¬ (17 ≤ d ∧ d ≤ 20) → mA m' d = mA m d) ∧ (∀ d, mL m' d = mL m d) ∧ (∀ i, mR m' i = mR m i) ∧ ∀ p, n ≤ p → (mA m' 4).getD p 0 = (mA m 4).getD p 0 := by
  have hn := h.1.1.2.1.1
  obtain ⟨r1, r2, r3, r4, r5, r6⟩ := h.1.1.2.1.2 k hk
  unfold fb_X7_layRest_32
  rw [h.1.1.1, if_neg (nI_ge hq (by omega)), if_neg (show ¬ (9 : Int32) ≤ nI c from (nI_ge hc (by decide) : ¬ nI 9 ≤ nI c)), (h.1.1.g hk).2.2.2.2.1, Option.bind_some]
  have still : ∀ {m1 : mM}, mI m1 0 = nI n → f_X7_layRest_67 K32 m1 (nI c) (nI q) (nI k) = K32 m1 (nI c) (nI (q + 1)) (nI ((k + 1) % n)) := by
    intro m1 h0
    unfold f_X7_layRest_67 f_X7_layRest_68
    rw [if_pos rfl]
    unfold f_X7_layRest_85
    rw [if_pos rfl]
    unfold f_X7_layRest_96
    rw [nmI_eq, if_pos rfl, Int32.add_zero, nI_1]
    unfold f_X7_layRest_110
    rw [h0, nI_1, rmI_at (by omega) (by omega) (by omega), Option.bind_some]
  by_cases c0 : pd 4 k = 0
  · have hw : ¬ wnt n pd cs dt yr k := fun z => z.1 c0
    rw [if_pos ((nI_z (by omega)).mpr c0), still h.1.1.1]
    exact ⟨m, (if_neg hw).symm, by unfold stp; rw [if_neg hw]; exact h, fun _ _ _ _ _ => rfl, fun _ _ _ => rfl, fun _ => rfl, fun _ => rfl, fun _ _ => rfl⟩
  · obtain ⟨m1, y1, y2, y3⟩ := m_wouldChange h hk
    have h1 := h.fb y2
    have hb := bst_lt (v := vB n pd cs (nI (clLast 1 10 cs)) dt yr 3 k) 12 (by decide)
    rw [if_neg (fun z => c0 ((nI_z (by omega)).mp z)), y1, bnd_some]
    by_cases w : gY n pd cs (nI (clLast 1 10 cs)) dt yr k < (bst (vB n pd cs (nI (clLast 1 10 cs)) dt yr 3 k) 12).2
    · have hw : wnt n pd cs dt yr k := ⟨c0, w⟩
      have l4 : (mA m1 4).length = 7 := h1.1.1.2.2.1.2.2.2.1
      have h2 := h1.set (c := 4) (f := 3) (Or.inl ⟨rfl, rfl⟩) hk hb
      rw [if_pos w, if_neg (show ¬ (1 : Int32) = 0 by decide)]
      unfold f_X7_layRest_68
      rw [if_neg (show ¬ (1 : Int32) = 0 by decide), y3, sA_at0 (by omega) (by omega), Option.bind_some]
      unfold f_X7_layRest_85
      rw [if_neg (show ¬ (1 : Int32) = 0 by decide)]
      unfold f_X7_layRest_96
      rw [nmI_eq, if_neg (show ¬ (1 : Int32) = 0 by decide), nI_1]
      unfold f_X7_layRest_110
      rw [show mI (wA m1 4 ((mA m1 4).set k (nI (bst (vB n pd cs (nI (clLast 1 10 cs)) dt yr 3 k) 12).1))) 0 = nI n from h1.1.1.1, nI_1, rmI_at (by omega) (by omega) (by omega), Option.bind_some]
      refine ⟨wA m1 4 ((mA m1 4).set k (nI (bst (vB n pd cs (nI (clLast 1 10 cs)) dt yr 3 k) 12).1)), (if_pos hw).symm, by unfold stp; rw [if_pos hw]; exact h2, y2.1, fun d d1 d2 => by rw [mA_wA, if_neg d1]; exact y2.2.1 d d2, y2.2.2.1, y2.2.2.2.1, fun p hp => ?_⟩
      rw [mA_wA, if_pos rfl, gd_ne (by omega), y2.2.1 4 (by decide)]
    · have hw : ¬ wnt n pd cs dt yr k := fun z => w z.2
      rw [if_neg w, if_pos rfl, still h1.1.1.1]
      exact ⟨m1, (if_neg hw).symm, by unfold stp; rw [if_neg hw]; exact h1, y2.1, fun d _ d2 => y2.2.1 d d2, y2.2.2.1, y2.2.2.2.1, fun p hp => by rw [y2.2.1 4 (by decide)]⟩
end RSTEP
end
-- 23h.alone.lean.txt
section
/-! REST: the class alone, from any place on -/
section ALONE
theorem x_rest_alone {mx : mM} {n : Nat} {t : Nat} {cs : List CL} {dt yr : Nat} {y1 : Int32} (hn : n ≤ 7) : ∀ (μ r p : Nat) (m : mM) (pd : Nat → Nat → Nat) (c : Nat) (q : Int32) (F44 F60 : Nat), μ = (9 - r) * (n + 1) + (n - p) → r ≤ 8 → p ≤ n → n - p < F60 → 9 - r < F44 → (q = 0 ∨ q = 1) → FSX mx m → TR m n pd t cs dt yr → ∃ m' pd' c', f_X6_rest_60 (f_X6_rest_44 F44) F60 m y1 (nI c) q (nI r) (nI p) = f_X6_rest_160 m' y1 (nI c') ∧ FSX mx m' ∧ TR m' n pd' t cs dt yr ∧ c ≤ c' ∧ c' ≤ c + μ ∧ ((∀ k, k < n → ¬ wnt n pd cs dt yr k) → pd' = pd ∧ c' = c) := by
  intro μ
  induction μ using Nat.strongRecOn with
  | ind μ ih =>
    intro r p m pd c q F44 F60 hμ hr hp hF hF4 hq hf h
    obtain ⟨F60, rfl⟩ : ∃ F', F60 = F' + 1 := ⟨F60 - 1, by omega⟩
    by_cases hpn : p = n
    · obtain ⟨F44, rfl⟩ : ∃ F', F44 = F' + 1 := ⟨F44 - 1, by omega⟩
      have e : f_X6_rest_60 (f_X6_rest_44 (F44 + 1)) (F60 + 1) m y1 (nI c) q (nI r) (nI p) = fb_X6_rest_44 (f_X6_rest_44 F44) m y1 (nI c) q (nI (r + 1)) := by
        show fb_X6_rest_60 _ _ _ _ _ _ _ _ = _
        unfold fb_X6_rest_60
        rw [show mI m 2048 = nI n from h.1.2.1, if_pos (nI_le (by omega) (by omega)), nI_1]; rfl
      rw [e]
      unfold fb_X6_rest_44
      by_cases h8 : r = 8
      · rw [if_pos (show (8 : Int32) < nI (r + 1) from (nI_lt (by omega) (by omega) : nI 8 < nI (r + 1)))]
        exact ⟨m, pd, c, rfl, hf, h, Nat.le_refl _, by omega, fun _ => ⟨rfl, rfl⟩⟩
      · rw [if_neg (show ¬ (8 : Int32) < nI (r + 1) from (nI_nlt (by omega) (by omega) : ¬ nI 8 < nI (r + 1)))]
        have hm : (9 - (r + 1)) * (n + 1) + (n - 0) < μ := by
          have : (9 - r) * (n + 1) = (9 - (r + 1)) * (n + 1) + (n + 1) := by
            rw [show 9 - r = (9 - (r + 1)) + 1 by omega, Nat.succ_mul]
          omega
        rcases hq with rfl | rfl
        · rw [if_pos rfl]
          obtain ⟨m', pd', c', g1, g2, g3, g4, g5, g6⟩ := ih _ hm (r + 1) 0 m pd c 1 F44 1000 rfl (by omega) (by omega) (by omega) (by omega) (Or.inr rfl) hf h
          exact ⟨m', pd', c', g1, g2, g3, g4, by omega, g6⟩
        · rw [if_neg (show ¬ (1 : Int32) = 0 by decide)]
          exact ⟨m, pd, c, rfl, hf, h, Nat.le_refl _, by omega, fun _ => ⟨rfl, rfl⟩⟩
    · have hk : p < n := by omega
      obtain ⟨m1, s1, s2, s3⟩ := x_rest_step (K44 := f_X6_rest_44 F44) (K60 := fun m a b c d e => f_X6_rest_60 (f_X6_rest_44 F44) F60 m a b c d e) (y1 := y1) (c := nI c) (q := q) (r := nI r) hf h hk
      have e : f_X6_rest_60 (f_X6_rest_44 F44) (F60 + 1) m y1 (nI c) q (nI r) (nI p) = _ := s1
      rw [e]
      by_cases w : wnt n pd cs dt yr p
      · rw [if_pos w, nI_1]
        obtain ⟨m', pd', c', g1, g2, g3, g4, g5, g6⟩ := ih ((9 - r) * (n + 1) + (n - (p + 1))) (by omega) r (p + 1) m1 _ (c + 1) 0 F44 F60 rfl hr (by omega) (by omega) hF4 (Or.inl rfl) s2 s3
        exact ⟨m', pd', c', g1, g2, g3, by omega, by omega, fun z => absurd w (z p hk)⟩
      · rw [if_neg w]
        have es : stp n pd cs dt yr p = pd := by unfold stp; rw [if_neg w]
        rw [es] at s3
        obtain ⟨m', pd', c', g1, g2, g3, g4, g5, g6⟩ := ih ((9 - r) * (n + 1) + (n - (p + 1))) (by omega) r (p + 1) m1 pd c q F44 F60 rfl hr (by omega) (by omega) hF4 hq s2 s3
        exact ⟨m', pd', c', g1, g2, g3, g4, by omega, g6⟩
end ALONE
end
-- 23i.lock.lean.txt
section
/-! REST: both, side by side -/
section LOCK
def FRm (m m' : mM) : Prop := (∀ i, i ≠ 31 → i ≠ 32 → i ≠ 34 → i ≠ 35 → mI m' i = mI m i) ∧ (∀ d, d ≠ 4 → ¬ (17 ≤ d ∧ d ≤ 20) → mA m' d = mA m d) ∧ (∀ d, mL m' d = mL m d) ∧ (∀ i, mR m' i = mR m i)
theorem rest_lock {mx mm : mM} {n tw t : Nat} {cs : List CL} {pu : Nat → Int32} {dt yr : Nat} {y1 : Int32} (hn : n ≤ 7) : ∀ (ν r p : Nat) (mX mM1 : mM) (pd : Nat → Nat → Nat) (c : Nat) (q : Int32) (Q k F44 F60 F32 : Nat), ((p = n ∧ 2 * (8 * (9 - c) + (n - Q)) + 1 ≤ ν) ∨ (p < n ∧ 2 * (8 * (9 - c) + (n - Q)) ≤ ν)) → r ≤ 8 → n - p < F60 → 9 - r < F44 → 8 * (9 - c) + (n - Q) < F32 → ((q = 0 ∧ r + 1 ≤ c) ∨ (q = 1 ∧ r ≤ c ∧ p ≤ Q)) → c ≤ 9 → Q ≤ n → ((k = p ∧ p < n) ∨ (k = 0 ∧ p = n)) → (∀ j, j < n → ((j < k ∧ k ≤ j + Q) ∨ (k ≤ j ∧ k + n ≤ j + Q)) → ¬ wnt n pd cs dt yr j) → FSX mx mX → TR mX n pd t cs dt yr → MR mM1 n pd tw cs (nI (clLast 1 10 cs)) pu dt yr → FRm mm mM1 →
    ∃ mX' mM' pX pM c' c'', f_X6_rest_60 (f_X6_rest_44 F44) F60 mX y1 (nI c) q (nI r) (nI p) = f_X6_rest_160 mX' y1 (nI c') ∧ f_X7_layRest_32 F32 mM1 (nI c) (nI Q) (nI k) = f_X7_layRest_126 1000 mM' (nI c'') 0 ∧ FSX mx mX' ∧ TR mX' n pX t cs dt yr ∧ MR mM' n pM tw cs (nI (clLast 1 10 cs)) pu dt yr ∧ FRm mm mM' ∧ c' ≤ 200 ∧ ((c' = c'' ∧ c' ≤ 8 ∧ pX = pM) ∨ (9 ≤ c' ∧ c'' = 9)) := by
  intro ν
  induction ν using Nat.strongRecOn with
  | ind ν ih =>
    intro r p mX mM1 pd c q Q k F44 F60 F32 hν hr h60 h44 h32 hq hc hQ hk hw fX tX tM fM
    have hp : p ≤ n := by omega
    obtain ⟨F32, rfl⟩ : ∃ F', F32 = F' + 1 := ⟨F32 - 1, by omega⟩
    by_cases stop : Q = n ∨ c = 9
    · have eM : f_X7_layRest_32 (F32 + 1) mM1 (nI c) (nI Q) (nI k) = f_X7_layRest_126 1000 mM1 (nI c) 0 := by
        show fb_X7_layRest_32 _ _ _ _ _ = _
        unfold fb_X7_layRest_32
        rw [show mI mM1 0 = nI n from tM.1.1.1]
        by_cases e : Q = n
        · rw [if_pos (nI_le (by omega) (by omega))]
        · rw [if_neg (nI_ge (by omega) (by omega)), if_pos (show (9 : Int32) ≤ nI c from (nI_le (by omega) (by omega) : nI 9 ≤ nI c))]
      obtain ⟨m', pd', c', g1, g2, g3, g4, g5, g6⟩ := x_rest_alone (y1 := y1) hn _ r p mX pd c q F44 F60 rfl hr hp h60 h44 (by rcases hq with z | z; exact Or.inl z.1; exact Or.inr z.1) fX tX
      have hb : (9 - r) * (n + 1) ≤ 9 * 8 := Nat.mul_le_mul (by omega) (by omega)
      refine ⟨m', mM1, pd', pd, c', c, g1, eM, g2, g3, tM, fM, by omega, ?_⟩
      by_cases e9 : c = 9
      · right; omega
      · have eQ : Q = n := stop.resolve_right e9
        obtain ⟨w1, w2⟩ := g6 (fun j hj => hw j hj (by omega))
        left; exact ⟨w2, by omega, w1⟩
    · obtain ⟨F60, rfl⟩ : ∃ F', F60 = F' + 1 := ⟨F60 - 1, by omega⟩
      by_cases hpn : p = n
      · obtain ⟨F44, rfl⟩ : ∃ F', F44 = F' + 1 := ⟨F44 - 1, by omega⟩
        have hq0 : q = 0 ∧ r + 1 ≤ c := hq.resolve_right (fun z => by omega)
        have e : f_X6_rest_60 (f_X6_rest_44 (F44 + 1)) (F60 + 1) mX y1 (nI c) q (nI r) (nI p) = f_X6_rest_60 (f_X6_rest_44 F44) 1000 mX y1 (nI c) 1 (nI (r + 1)) (nI 0) := by
          show fb_X6_rest_60 _ _ _ _ _ _ _ _ = _
          unfold fb_X6_rest_60
          rw [show mI mX 2048 = nI n from tX.1.2.1, if_pos (nI_le (by omega) (by omega)), nI_1]
          show fb_X6_rest_44 _ _ _ _ _ _ = _
          unfold fb_X6_rest_44
          rw [if_neg (show ¬ (8 : Int32) < nI (r + 1) from (nI_nlt (by omega) (by omega) : ¬ nI 8 < nI (r + 1))), if_pos hq0.1]; rfl
        rw [e]
        exact ih (ν - 1) (by omega) (r + 1) 0 mX mM1 pd c 1 Q k F44 1000 (F32 + 1) (by omega) (by omega) (by omega) (by omega) h32 (Or.inr ⟨rfl, by omega, by omega⟩) hc hQ (by omega) hw fX tX tM fM
      · have hpl : p < n := by omega
        obtain rfl : k = p := by omega
        obtain ⟨m1, s1, s2, s3⟩ := x_rest_step (K44 := f_X6_rest_44 F44) (K60 := fun m a b c d e => f_X6_rest_60 (f_X6_rest_44 F44) F60 m a b c d e) (y1 := y1) (c := nI c) (q := q) (r := nI r) fX tX hpl
        have e : f_X6_rest_60 (f_X6_rest_44 F44) (F60 + 1) mX y1 (nI c) q (nI r) (nI k) = _ := s1
        obtain ⟨m2, u1, u2, u3, u4, u5, u6, u7⟩ := m_rest_step (K32 := fun m a b c => f_X7_layRest_32 F32 m a b c) (c := c) (q := Q) tM hpl (by omega) (by omega)
        have e2 : f_X7_layRest_32 (F32 + 1) mM1 (nI c) (nI Q) (nI k) = _ := u1
        have fM2 : FRm mm m2 := ⟨fun i a1 a2 a3 a4 => (u3 i a1 a2 a3 a4).trans (fM.1 i a1 a2 a3 a4), fun d a1 a2 => (u4 d a1 a2).trans (fM.2.1 d a1 a2), fun d => (u5 d).trans (fM.2.2.1 d), fun i => (u6 i).trans (fM.2.2.2 i)⟩
        have hmod : ((k + 1) % n = k + 1 ∧ k + 1 < n) ∨ ((k + 1) % n = 0 ∧ k + 1 = n) := by
          by_cases z : k + 1 = n
          · right; rw [z, Nat.mod_self]; exact ⟨rfl, rfl⟩
          · left; exact ⟨Nat.mod_eq_of_lt (by omega), by omega⟩
        rw [e, e2]
        by_cases w : wnt n pd cs dt yr k
        · rw [if_pos w, if_pos w, nI_1]
          exact ih (ν - 1) (by omega) r (k + 1) m1 m2 _ (c + 1) 0 0 _ F44 F60 F32 (by omega) hr (by omega) h44 (by omega) (Or.inl ⟨rfl, by omega⟩) (by omega) (by omega) (by omega) (fun j hj z => by omega) s2 s3 u2 fM2
        · have es : stp n pd cs dt yr k = pd := by unfold stp; rw [if_neg w]
          rw [es] at s3 u2
          rw [if_neg w, if_neg w]
          refine ih (ν - 1) (by omega) r (k + 1) m1 m2 pd c q (Q + 1) _ F44 F60 F32 (by omega) hr (by omega) h44 (by omega) (hq.imp (fun z => z) (fun z => ⟨z.1, z.2.1, by omega⟩)) hc (by omega) (by omega) (fun j hj z => ?_) s2 s3 u2 fM2
          by_cases ej : j = k
          · rw [ej]; exact w
          · exact hw j hj (by omega)
theorem op_rest_core {mx mm : mM} (h : RR mx mm) {W : Nat} {S : SS} {cs : List CL} (hg : RG mx mm W S cs) (y : Int32) (hy : y = 0 ∨ (¬ y = 0 ∧ ∃ j, j < S.1 ∧ y - 10 = nI j)) : OPe (f_X6_rest_26 mx y) (f_X7_rest_23 mm y) := by
  have hn := hg.2.1.1.1
  obtain ⟨hX, hS, hM, hQ⟩ := id hg.1
  obtain ⟨c1, c2, c3⟩ := hg.copy
  have hmr := hg.mr
  have l4 : (mA mm 4).length = 7 := hM.1.2.2.2.1
  have hsc : R_scM mm := hg.2.2.2.2.1
  have l21 : (mA mm 21).length = 7 := hsc.2.2.2.2.1
  have l22 : (mA mm 22).length = 7 := hsc.2.2.2.2.2.1
  have hmr2 : MR (wA mm 21 (mA mm 4)) S.1 S.2.1 S.2.2.2.2.2.2 cs (nI (clLast 1 10 cs)) S.2.2.1 S.2.2.2.1 S.2.2.2.2.1 := hmr
  unfold f_X6_rest_26 f_X7_rest_23
  rw [c1, bnd_some, m_rest_keep l4 l21]
  have e44 : f_X6_rest_44 1000 (cpM mx 32 14) y 0 0 0 = f_X6_rest_60 (f_X6_rest_44 999) 1000 (cpM mx 32 14) y (nI 0) 1 (nI 0) (nI 0) := by
    show fb_X6_rest_44 _ _ _ _ _ _ = _
    unfold fb_X6_rest_44
    rw [if_neg (show ¬ (8 : Int32) < 0 by decide), if_pos rfl]; rfl
  obtain ⟨mX', mM', pX, pM, c', c'', g1, g2, g3, g4, g5, g6, g7, g8⟩ := rest_lock (mx := mx) (mm := wA mm 21 (mA mm 4)) (y1 := y) hn 1000 0 0 (cpM mx 32 14) (wA mm 21 (mA mm 4)) S.2.1 0 1 0 0 999 1000 1000 (by omega) (by omega) (by omega) (by omega) (by omega) (Or.inr ⟨rfl, by omega, by omega⟩) (by omega) (by omega) (by omega) (fun j hj z => by omega) c2 c3 hmr2 ⟨fun _ _ _ _ _ => rfl, fun _ _ _ => rfl, fun _ => rfl, fun _ => rfl⟩
  have l4' : (mA mM' 4).length = 7 := g5.1.1.2.2.1.2.2.2.1
  have e21 : mA mM' 21 = mA mm 4 := g6.2.1 21 (by decide) (by decide)
  have e22 : mA mM' 22 = mA mm 22 := g6.2.1 22 (by decide) (by decide)
  rw [e44, g1, show f_X7_layRest_32 1000 (wA mm 21 (mA mm 4)) 0 0 0 = _ from g2, m_rest_end l4' (by rw [e21]; exact l4) (by rw [e22]; exact l22), bnd_some]
  have fin : RR mX' (wA (wA mM' 22 (mA mM' 4)) 4 (mA mM' 21)) := by
    refine h.frS g3 ⟨fun k a1 a2 a3 a4 => g6.1 k a1 a2 a3 a4, fun d hd => ?_, g6.2.2.1, g6.2.2.2, ?_⟩
    · rw [mA_wA, mA_wA]
      by_cases e4 : d = 4
      · rw [if_pos e4, e21, e4]
      · rw [if_neg e4, if_neg (by omega), g6.2.1 d e4 (by omega), mA_wA, if_neg (by omega)]
    · obtain ⟨_, _, _, _, _, _, _, _, k1, k2, k3, k4⟩ := g5
      refine ⟨k1, k2, k3, k4, ?_, l4', ?_⟩
      · show (mA mM' 21).length = 7; rw [e21]; exact l4
      · show mI mM' 27 = -1
        rw [g6.1 27 (by decide) (by decide) (by decide) (by decide)]; exact hsc.2.2.2.2.2.2
  unfold f_X6_rest_160
  rcases g8 with ⟨z1, z2, z3⟩ | ⟨z1, z2⟩
  · subst z1 z3
    have e8 : nI c' ≤ (8 : Int32) := (nI_le z2 (by decide) : nI c' ≤ nI 8)
    rw [if_pos e8, if_pos e8]
    rcases hy with rfl | ⟨y0, j, hj, ey⟩
    · rw [if_pos rfl, if_pos rfl]; exact ⟨_, _, _, rfl, rfl, fin⟩
    · rw [if_neg y0, if_neg y0, if_pos (nI_pos' (by omega)), ey, (g4.1.g hj).2.2.2.1, Option.bind_some]
      have eR : mA (wA (wA mM' 22 (mA mM' 4)) 4 (mA mM' 21)) 22 = mA mM' 4 := rfl
      rw [eR, (g5.1.1.g hj).2.2.2.1, Option.bind_some]
      exact ⟨_, _, _, rfl, rfl, fin⟩
  · subst z2
    have e8 : ¬ nI c' ≤ (8 : Int32) := (nI_ge (by omega) (by omega) : ¬ nI c' ≤ nI 8)
    rw [if_neg e8, if_neg (show ¬ nI 9 ≤ (8 : Int32) by decide), if_neg (show ¬ (0 : Int32) ≤ -5 by decide)]
    rcases hy with rfl | ⟨y0, j, hj, ey⟩
    · rw [if_pos rfl]; exact ⟨_, _, _, rfl, rfl, fin⟩
    · rw [if_neg y0]; exact ⟨_, _, _, rfl, rfl, fin⟩
theorem op_rest {mx mm : mM} (h : RR mx mm) (p : Int32) : OPe (f_X6_rest mx p) (f_X7_rest mm p) := by
  obtain ⟨W, S, hr⟩ := id h
  obtain ⟨cs, hg⟩ := RRs.rg hr
  have hn := hg.2.1.1.1
  obtain ⟨hX, hS, hM, hQ⟩ := id hg.1
  unfold f_X6_rest f_X7_rest
  by_cases p0 : p = 0
  · rw [if_pos p0, if_pos p0]; exact op_rest_core h hg p (Or.inl p0)
  rw [if_neg p0, if_neg p0, show mI mx 896 = nI S.1 from hS.1.1, show mI mm 0 = nI S.1 from hQ.1.1]
  unfold f_X7_in
  have e10 : (10 : Int32).toInt = 10 := by decide
  by_cases p1 : p < 10
  · rw [if_pos p1, if_pos p1, bnd_some, if_pos rfl]; exact ⟨_, mx, mm, rfl, rfl, h⟩
  rw [if_neg p1, if_neg p1]
  have q1 : 10 ≤ p.toInt := by rw [Int32.lt_iff_toInt_lt, e10] at p1; omega
  have hpb := p.toInt_lt
  obtain ⟨j, hj, ej⟩ : ∃ j, j < 2 ^ 31 ∧ p = nI j := nI_of (by rw [Int32.lt_iff_toInt_lt]; show ¬ p.toInt < 0; omega)
  subst ej
  rw [nI_toInt hj] at q1
  obtain ⟨i, rfl⟩ : ∃ i, j = i + 10 := ⟨j - 10, by omega⟩
  have e1 : nI (i + 10) - 10 = nI i := by
    rw [← nI_add]; exact Int32.add_sub_cancel _ _
  have e2 : (9 : Int32) + nI S.1 = nI (9 + S.1) := nI_add 9 S.1
  rw [e1, e2]
  by_cases hi : i < S.1
  · rw [if_pos (nI_lt hi (by omega)), if_neg (nI_nlt (by omega) (by omega)), bnd_some, if_neg (show ¬ (1 : Int32) = 0 by decide)]
    exact op_rest_core h hg _ (Or.inr ⟨p0, i, hi, e1⟩)
  · rw [if_neg (nI_nlt (by omega) (by omega)), if_pos (nI_lt (by omega) (by omega)), bnd_some, if_pos rfl]
    exact ⟨_, mx, mm, rfl, rfl, h⟩
end LOCK
end
