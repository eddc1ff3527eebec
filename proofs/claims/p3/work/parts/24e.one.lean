/-! TOWN: an F, both side by side -/
section ONE
theorem isL (m m' : mM) (x : Int32) : (∃ f, f < 6 ∧ x = nI ([112, 107, 100, 99, 121, 98].getD f 0) ∧ ltF x = f ∧ f_X4_isLetter m x = some (1, m) ∧ f_X7_place m' x = some (nI f, m')) ∨ (f_X4_isLetter m x = some (0, m) ∧ f_X7_place m' x = some (-1, m')) := by
  unfold f_X4_isLetter f_X7_place
  by_cases c1 : x = 112
  · left; subst c1; exact ⟨0, by decide, rfl, rfl, rfl, rfl⟩
  by_cases c2 : x = 107
  · left; subst c2; exact ⟨1, by decide, rfl, rfl, rfl, rfl⟩
  by_cases c3 : x = 100
  · left; subst c3; exact ⟨2, by decide, rfl, rfl, rfl, rfl⟩
  by_cases c4 : x = 99
  · left; subst c4; exact ⟨3, by decide, rfl, rfl, rfl, rfl⟩
  by_cases c5 : x = 121
  · left; subst c5; exact ⟨4, by decide, rfl, rfl, rfl, rfl⟩
  by_cases c6 : x = 98
  · left; subst c6; exact ⟨5, by decide, rfl, rfl, rfl, rfl⟩
  right
  rw [if_neg c1, if_neg c2, if_neg c3, if_neg c4, if_neg c5, if_neg c6, if_neg c6, if_neg c4, if_neg c3, if_neg c2, if_neg c1, if_neg c5]
  exact ⟨rfl, rfl⟩
theorem isR (m : mM) (x : Int32) : (∃ s, s < 3 ∧ x = nI (60 + s) ∧ f_X7_in m x 60 62 = some (1, m)) ∨ (¬ x = 60 ∧ ¬ x = 61 ∧ ¬ x = 62 ∧ f_X7_in m x 60 62 = some (0, m)) := by
  by_cases c1 : x = 60
  · left; subst c1; exact ⟨0, by decide, rfl, rfl⟩
  by_cases c2 : x = 61
  · left; subst c2; exact ⟨1, by decide, rfl, rfl⟩
  by_cases c3 : x = 62
  · left; subst c3; exact ⟨2, by decide, rfl, rfl⟩
  right
  refine ⟨c1, c2, c3, ?_⟩
  unfold f_X7_in
  by_cases d1 : x < 60
  · rw [if_pos d1]
  by_cases d2 : (62 : Int32) < x
  · rw [if_neg d1, if_pos d2]
  exfalso
  have e60 : (60 : Int32).toInt = 60 := by decide
  have e61 : (61 : Int32).toInt = 61 := by decide
  have e62 : (62 : Int32).toInt = 62 := by decide
  rw [Int32.lt_iff_toInt_lt, e60] at d1
  rw [Int32.lt_iff_toInt_lt, e62] at d2
  have q1 : ¬ x.toInt = 60 := fun z => c1 (Int32.toInt_inj.mp (z.trans e60.symm))
  have q2 : ¬ x.toInt = 61 := fun z => c2 (Int32.toInt_inj.mp (z.trans e61.symm))
  have q3 : ¬ x.toInt = 62 := fun z => c3 (Int32.toInt_inj.mp (z.trans e62.symm))
  omega
theorem cd_val {f s v : Nat} : nI (1000 * f) + 100 * (nI (60 + s) - 60) + nI v = nI (1000 * f + 100 * s + v) := by
  have e1 : nI (60 + s) - 60 = nI s := by
    rw [show 60 + s = s + 60 from Nat.add_comm _ _, ← nI_add]; exact Int32.add_sub_cancel _ _
  have e2 : (100 : Int32) * nI s = nI (100 * s) := (Int32.ofNat_mul 100 s).symm
  rw [e1, e2, nI_add, nI_add]
theorem cd_val2 {f s v : Nat} : (1000 : Int32) * nI f + 100 * (nI (60 + s) - 60) + nI v = nI (1000 * f + 100 * s + v) := by
  have e2 : (1000 : Int32) * nI f = nI (1000 * f) := (Int32.ofNat_mul 1000 f).symm
  rw [e2, cd_val]
section S
variable {mx m0 m1 : mM} {a W L p w : Nat} {ch : Nat → Nat} {T : Nat × Nat × Nat} {tk : List (Nat × Nat)}
theorem dead_one {D : Nat} : deadR mx a L (f_X4_one (D + 1)) := by
  intro mX pos w h
  show ∃ mX', fb_X4_one _ _ _ _ = _ ∧ _
  unfold fb_X4_one
  rw [h.next, bnd_some, show f_X4_isLetter mX (-1) = some (0, mX) from rfl, bnd_some, if_pos rfl, if_neg (by decide), if_neg (by decide), nmM_eq]
  exact ⟨_, rfl, h.die⟩
theorem LX.rel (m0 : mM) (hT : TXT mx m0 L ch) {m : mM} {pos : Nat} {all : List Int32} (h : LX mx m a L pos T tk all) : (∀ s, s < 3 → nx ch L pos = nI (60 + s) → f_X4_relation m = some (nx ch L pos, wI m 130 (mI m 130 + 1))) ∧ (¬ nx ch L pos = 60 → ¬ nx ch L pos = 61 → ¬ nx ch L pos = 62 → f_X4_relation m = some (nx ch L pos, wI m 131 0)) := by
  unfold f_X4_relation f_X4_relation_23
  rw [h.next hT, bnd_some]
  refine ⟨fun s hs e => ?_, fun c1 c2 c3 => ?_⟩
  · rw [e]
    match s, hs with
    | 0, _ => rfl
    | 1, _ => rfl
    | 2, _ => rfl
  · rw [if_neg c1, if_neg c2, if_neg c3, nmM_eq]
theorem DX.rel {m : mM} {pos : Nat} (h : DX mx m a L pos) : f_X4_relation m = some (-1, wI m 131 0) := by
  unfold f_X4_relation
  rw [h.next, bnd_some, if_neg (by decide), if_neg (by decide), if_neg (by decide), nmM_eq]
theorem let_ne {f : Nat} (hf : f < 6) : ¬ nI ([112, 107, 100, 99, 121, 98].getD f 0) = 33 ∧ ¬ nI ([112, 107, 100, 99, 121, 98].getD f 0) = 40 ∧ [112, 107, 100, 99, 121, 98].getD f 0 < 128 := by
  match f, hf with
  | 0, _ => decide
  | 1, _ => decide
  | 2, _ => decide
  | 3, _ => decide
  | 4, _ => decide
  | 5, _ => decide
theorem let_cd {f s v : Nat} (hf : f < 6) (hl : ltF (nI ([112, 107, 100, 99, 121, 98].getD f 0)) = f) : cdX (nI ([112, 107, 100, 99, 121, 98].getD f 0)) (nI (60 + s)) (nI v) = nI (1000 * f + 100 * s + v) := by
  have e : cdX (nI ([112, 107, 100, 99, 121, 98].getD f 0)) (nI (60 + s)) (nI v) = nI (1000 * ltF (nI ([112, 107, 100, 99, 121, 98].getD f 0))) + 100 * (nI (60 + s) - 60) + nI v := by
    refine if_neg ?_
    match f, hf with
    | 0, _ => decide
    | 1, _ => decide
    | 2, _ => decide
    | 3, _ => decide
    | 4, _ => decide
    | 5, _ => decide
  rw [e, hl, cd_val]
theorem OPS.test {w f s v : Nat} (hf : f < 6) (hs : s < 3) (hv : v < 100) : OPS w [nI (1000 * f + 100 * s + v)] := fun d rest hd hr => Or.inr (Or.inr ⟨by omega, ⟨f, s, v, hf, hs, hv, rfl⟩, hr⟩)
theorem sim_one (hT : TXT mx m0 L ch) : ∀ D w, w ≤ 4 → 5 ≤ D + w → simR mx m0 m1 a W L p ch T tk (f_X4_one D) w := by
  intro D
  induction D with
  | zero => intro w h1 h2; omega
  | succ D ih =>
    intro w hw hD mX nM pos all st F hX hM hS hd hl hF
    have hL : L ≤ 100 := hX.2.2.2.2.1
    have hpL : pos ≤ L := hX.2.2.2.1
    have hap : all.length ≤ pos := hX.2.2.2.2.2.2.2.2.1
    obtain ⟨F', rfl⟩ : ∃ F', F = F' + 1 := ⟨F - 1, by omega⟩
    have e0 : f_X7_takesE_22 (F' + 1) nM (nI p) 1 = fb_X7_takesE_22 (f_X7_takesE_22 F') nM (nI p) 1 := rfl
    rw [e0]
    show ∃ mX', fb_X4_one _ _ _ _ = _ ∧ _
    unfold fb_X4_one fb_X7_takesE_22
    rw [hX.next hT, bnd_some, hM.2.2.1.next, bnd_some, if_neg i0]
    rcases isL mX nM (nx ch L pos) with ⟨f, hf, ex, hlt, y1, y2⟩ | ⟨y1, y2⟩
    · -- a TEST
      obtain ⟨n33, n40, hb⟩ := let_ne hf
      have hpl : pos < L := nx_lt (by omega) ex
      have hX1 := hX.adv hpl
      have hM1 := hM.adv hpl
      rw [y1, bnd_some, if_neg i0, nmM_eq, ex, if_neg n33, if_neg n40]
      rw [ex] at y2 hlt
      unfold f_X7_takesTest
      rw [hM.2.2.1.next, bnd_some, ex, y2, bnd_some, if_pos (nI_pos' (by omega)), nmM_eq, hM1.2.2.1.next, bnd_some]
      obtain ⟨r1, r2⟩ := LX.rel m0 hT hX1
      rcases isR (wI nM 13 (mI nM 13 + 1)) (nx ch L (pos + 1)) with ⟨s, hs, es, z1⟩ | ⟨z1, z2, z3, z4⟩
      · have hpl2 : pos + 1 < L := nx_lt (by omega) es
        have hX2 := hX1.adv hpl2
        have hM2 := hM1.adv hpl2
        rw [r1 s hs es, z1, bnd_some, bnd_some, if_neg i0, nmM_eq]
        rcases hX2.number hT with ⟨b1, mX3, b2, b3⟩ | ⟨v, p', mX3, b1, b2, b3⟩
        · rcases hM2.2.2.1.number with ⟨c1, c2⟩ | ⟨v', p'', m', c1, _⟩
          · obtain ⟨mX4, d1, d2⟩ := b3.add (l := nI ([112, 107, 100, 99, 121, 98].getD f 0)) (r := nx ch L (pos + 1)) (n := 0)
            rw [b2, bnd_some, d1, bnd_some, c2, bnd_some, if_pos rfl, bnd_some, if_pos rfl]
            exact ⟨mX4, rfl, Or.inr ⟨_, _, all, d2, rfl, hM2⟩⟩
          · rw [b1] at c1; cases c1
        · rcases hM2.2.2.1.number with ⟨c1, _⟩ | ⟨v', p'', m', c1, c2, c3, c4, c5⟩
          · rw [b1] at c1; cases c1
          · rw [b1] at c1
            cases c1
            obtain ⟨i1, i2, i3⟩ := nbO_in (fun i hi => (hT.2.2.2.2.2 i hi).2.2) b1
            rw [es]
            obtain ⟨mX4, d1, d2⟩ := b3.add (l := nI ([112, 107, 100, 99, 121, 98].getD f 0)) (r := nI (60 + s)) (n := nI v) (v := nI (1000 * f + 100 * s + v)) (by omega) ⟨let_cd hf hlt, Or.inr ⟨f, s, v, hf, hs, i3, rfl, rfl, rfl⟩⟩
            have hM3 := hM2.nm c3 c4 (by omega)
            have hS3 := ((hS.nm (NM.I (v := mI nM 13 + 1) (Or.inl rfl))).nm (NM.I (v := mI (wI nM 13 (mI nM 13 + 1)) 13 + 1) (Or.inl rfl))).nm c3
            obtain ⟨m4, f1, f2, f3, f4⟩ := hM3.out (v := nI (1000 * f + 100 * s + v)) (by omega)
            have hS4 := hS3.out f3 f4
            obtain ⟨m5, g1, g2, g3⟩ := m_whole f2 hS4 (by rw [List.length_append]; show all.length + 1 + _ ≤ _; omega)
            rw [b2, bnd_some, d1, bnd_some, c2, bnd_some, if_neg i0, c5, cd_val2, f1, bnd_some, g1, bnd_some, bnd_some, if_neg i0]
            exact ⟨mX4, rfl, Or.inl ⟨p', [nI (1000 * f + 100 * s + v)], m5, F', by omega, by show 1 + pos ≤ p'; omega, d2, rfl, g2, g3, by omega, OPS.test hf hs i3⟩⟩
      · rw [r2 z1 z2 z3, bnd_some, z4, bnd_some, if_pos rfl, bnd_some, if_pos rfl]
        obtain ⟨mX3, b1, b2⟩ := hX1.die.number
        obtain ⟨mX4, d1, d2⟩ := b2.add (l := nI ([112, 107, 100, 99, 121, 98].getD f 0)) (r := nx ch L (pos + 1)) (n := 0)
        rw [b1, bnd_some, d1, bnd_some]
        exact ⟨mX4, rfl, Or.inr ⟨_, _, all, d2, rfl, hM1⟩⟩
    · rw [y1, bnd_some, if_pos rfl]
      by_cases c33 : nx ch L pos = 33
      · have hpl : pos < L := nx_lt (c := 33) (by decide) c33
        rw [if_pos c33, if_pos c33, c33]
        unfold f_X4_one_50
        by_cases h4 : w < 4
        · obtain ⟨D', rfl⟩ : ∃ D', D = D' + 1 := ⟨D - 1, by omega⟩
          obtain ⟨m2, g1, g2, g3⟩ := m_push43 (y1 := nI p) (y2 := 1) (K := f_X7_takesE_22 F') hM hS hpl hl (by omega) (Or.inl rfl)
          have edep : dep ((33 : Int32) :: st) = w + 1 := by rw [← hd]; rfl
          rw [if_pos (show nI w < (4 : Int32) from (nI_lt h4 (by decide) : nI w < nI 4)), if_pos rfl, nmM_eq, nI_1, g1]
          obtain ⟨mX2, r1, r2⟩ := ih (w + 1) (by omega) (by omega) _ m2 (pos + 1) all _ F' (hX.adv hpl) g2 g3 edep (by show _ + (st.length + 1) ≤ _; omega) (by omega)
          rw [r1, bnd_some]
          rcases r2 with ⟨pos2, ops2, mM3, F3, s1, s2, s3, s4, s5, s6, s7, s8⟩ | ⟨pos2, mM3, all3, s1, s2, s3⟩
          · obtain ⟨mX3, q1, q2⟩ := s3.joint (s := 33) (by rw [List.length_append]; omega) (Or.inl rfl)
            rw [q1, bnd_some]
            have eo : all ++ (ops2 ++ [-33]) = (all ++ ops2) ++ [-33] := (List.append_assoc _ _ _).symm
            refine ⟨mX3, rfl, Or.inl ⟨pos2, ops2 ++ [-33], mM3, F3, by omega, ?_, by rw [eo]; exact q2, s4, ?_, s6, s7, fun d rest hd2 hr => ?_⟩⟩
            · rw [List.length_append]; show _ + 1 + _ ≤ _; omega
            · have er : (all ++ (ops2 ++ [-33])) ++ List.replicate (nb st) (-33) = (all ++ ops2) ++ List.replicate (nb ((33 : Int32) :: st)) (-33) := by
                rw [eo, List.append_assoc]; rfl
              rw [er]; exact s5
            · rw [List.append_assoc]
              exact s8 d _ (by omega) (wfc_not hr)
          · obtain ⟨mX3, q1, q2⟩ := s1.joint (s := 33)
            rw [q1, bnd_some]
            exact ⟨mX3, rfl, Or.inr ⟨pos2, mM3, all3, q2, s2, s3⟩⟩
        · rw [if_neg (show ¬ nI w < (4 : Int32) from (nI_nlt (by omega) (by omega) : ¬ nI w < nI 4)), nmM_eq]
          unfold f_X7_takesE_43
          rw [hS.2.1, if_pos (show nI (dep st) = (4 : Int32) from (congrArg nI (by omega) : nI (dep st) = nI 4))]
          exact ⟨_, rfl, Or.inr ⟨pos, nM, all, hX.die, rfl, hM⟩⟩
      · by_cases c40 : nx ch L pos = 40
        · have hpl : pos < L := nx_lt (c := 40) (by decide) c40
          rw [if_neg c33, if_neg c33, if_pos c40, if_pos c40, c40]
          unfold f_X4_one_50
          by_cases h4 : w < 4
          · obtain ⟨D', rfl⟩ : ∃ D', D = D' + 1 := ⟨D - 1, by omega⟩
            obtain ⟨m2, g1, g2, g3⟩ := m_push43 (y1 := nI p) (y2 := 1) (K := f_X7_takesE_22 F') hM hS hpl hl (by omega) (Or.inr rfl)
            have edep : dep ((40 : Int32) :: st) = w + 1 := by rw [← hd]; rfl
            rw [if_pos (show nI w < (4 : Int32) from (nI_lt h4 (by decide) : nI w < nI 4)), if_neg (by decide), nmM_eq, nI_1, g1]
            obtain ⟨mX2, r1, r2⟩ := sim_either hT (ih (w + 1) (by omega) (by omega)) dead_one (by omega) (hX.adv hpl) g2 g3 (Or.inr ⟨st, rfl⟩) edep (by show _ + (st.length + 1) ≤ _; omega) (F := F') (by omega)
            rw [r1, bnd_some]
            have hz : stL 8 = some (nI [41].length) := rfl
            have hzs : ∀ i, i < [41].length → stA 8 (nI i) = some (nI ([41].getD i 0)) := fun i hi => by
              match i, hi with
              | 0, _ => rfl
            rcases r2 with ⟨pos2, ops2, mM3, F3, s1, s2, s3, s4, s5, s6, s7, s8⟩ | ⟨pos2, mM3, all3, s1, s2, s3⟩
            · have hp2 := s3.2.2.2.1
              have l13 : (mA mM3 13).length = 60 := s5.1.2.2.2.2.1.2.2.2.2.1
              obtain ⟨w1, w2, w3⟩ := s5.2.2.2.1
              -- row 13 at p
              have s5' : LM m0 m1 (wA mM3 13 ((mA mM3 13).set p (mI mM3 23))) W L p pos2 ch (all ++ ops2) := by
                obtain ⟨⟨a1, a2, a3, a4, a5, a6, a7, a8⟩, ⟨b1, b2, b3, b4, b5⟩, c1, c2, c3, c4, c5⟩ := s5
                refine ⟨⟨a1, fun c hc => by rw [mA_ne (by omega)]; exact a2 c hc, a3, a4, ⟨a5.1, a5.2.1, a5.2.2.1, a5.2.2.2.1, ?_, a5.2.2.2.2.2⟩, a6, fun c i hc hc2 hi => ?_, a8⟩, ⟨b1, b2, b3, b4, fun i hi => ?_⟩, c1, c2, c3, c4, c5⟩
                · rw [mA_wA, if_pos rfl, List.length_set]; exact l13
                · rw [mA_wA]
                  by_cases e : c = 13
                  · rw [if_pos e, gd_ne (by omega), ← e]; exact a7 c i hc hc2 hi
                  · rw [if_neg e]; exact a7 c i hc hc2 hi
                · rw [mA_wA, if_pos rfl, gd_ne (Ne.symm hi)]; exact b5 i hi
              have s6' : SK (wA mM3 13 ((mA mM3 13).set p (mI mM3 23))) ((40 : Int32) :: st) := s6
              rw [s4]
              unfold tlE
              have e24 : mI (wA mM3 13 ((mA mM3 13).set p (mI mM3 23))) 24 = nI (st.length + 1) := s6.1
              have e25 : mI (wA mM3 13 ((mA mM3 13).set p (mI mM3 23))) 25 = nI (dep st + 1) := s6.2.1
              rw [sA_at0 (by omega) (by omega), Option.bind_some]
              generalize wA mM3 13 ((mA mM3 13).set p (mI mM3 23)) = m16 at s5' s6' e24 e25 ⊢
              rw [e24, if_neg (nI_ne0 (by omega) (by omega))]
              obtain ⟨mX3, q1, q2⟩ := s3.word hT (z := 8) (cs := [41]) (by decide) hz hzs (by decide)
              rw [q1, bnd_some]
              unfold wdO wdO at q2
              by_cases c41 : nx ch L pos2 = 41
              · have hpl2 : pos2 < L := nx_lt (c := 41) (by decide) c41
                rw [show nx ch L pos2 = nI 41 from c41, if_pos rfl] at q2
                have q3 : LX mx mX3 a L (pos2 + 1) T tk (all ++ ops2) := by
                  rcases q2 with q2 | q2
                  · exact q2.2
                  · cases q2.1
                rw [if_pos c41, nmM_eq, nmM_eq, nmM_eq, nI_pred, show mI (wI m16 24 (nI st.length)) 25 = nI (dep st + 1) from e25, nI_pred]
                have t5 : LM m0 m1 (wI (wI m16 24 (nI st.length)) 25 (nI (dep st))) W L p pos2 ch (all ++ ops2) := s5'.sk (fun k k1 k2 => by rw [mI_wI, if_neg k2, mI_wI, if_neg k1]) (fun _ _ => rfl) s5'.1.2.2.2.2.1.2.2.2.2.2.2 (fun _ => rfl) (fun _ => rfl)
                have t6 : SK (wI (wI m16 24 (nI st.length)) 25 (nI (dep st))) st := ⟨by rw [mI_wI, if_neg (by decide), mI_wI, if_pos rfl], by rw [mI_wI, if_pos rfl], s6'.2.2.2⟩
                have t7 := t5.adv hpl2
                have t8 := t6.nm (NM.I (v := mI (wI (wI m16 24 (nI st.length)) 25 (nI (dep st))) 13 + 1) (Or.inl rfl))
                obtain ⟨m5, h1, h2, h3⟩ := m_whole t7 t8 (by rw [List.length_append]; omega)
                rw [h1, bnd_some]
                exact ⟨mX3, rfl, Or.inl ⟨pos2 + 1, ops2, m5, F3, by omega, by omega, q3, rfl, h2, h3, by omega, fun d rest hd2 hr => s8 d rest (by omega) hr⟩⟩
              · rw [if_neg (show ¬ nx ch L pos2 = nI 41 from c41)] at q2
                have q3 : DX mx mX3 a L pos2 := by
                  rcases q2 with q2 | q2
                  · cases q2.1
                  · exact q2.2
                rw [if_neg c41]
                exact ⟨mX3, rfl, Or.inr ⟨pos2, m16, _, q3, rfl, s5'⟩⟩
            · obtain ⟨mX3, q1, q2⟩ := s1.word (z := 8) (cs := [41]) (by decide) hz hzs (by decide)
              rw [q1, bnd_some]
              exact ⟨mX3, rfl, Or.inr ⟨pos2, mM3, all3, q2, s2, s3⟩⟩
          · rw [if_neg (show ¬ nI w < (4 : Int32) from (nI_nlt (by omega) (by omega) : ¬ nI w < nI 4)), nmM_eq]
            unfold f_X7_takesE_43
            rw [hS.2.1, if_pos (show nI (dep st) = (4 : Int32) from (congrArg nI (by omega) : nI (dep st) = nI 4))]
            exact ⟨_, rfl, Or.inr ⟨pos, nM, all, hX.die, rfl, hM⟩⟩
        · rw [if_neg c33, if_neg c33, if_neg c40, if_neg c40, nmM_eq]
          unfold f_X7_takesTest
          rw [hM.2.2.1.next, bnd_some, y2, bnd_some, if_neg (show ¬ (0 : Int32) ≤ -1 by decide), bnd_some, if_pos rfl]
          exact ⟨_, rfl, Or.inr ⟨pos, nM, all, hX.die, rfl, hM⟩⟩
end S
end ONE
