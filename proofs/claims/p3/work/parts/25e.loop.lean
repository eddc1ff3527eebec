/-! THE LAW: its switch, its loop, its start (by program: wip/gen/law2.py) -/
section LAW2
variable {L i : Nat} {xs : Nat → Int32} {kc ks : Nat}
set_option maxHeartbeats 4000000 in
set_option maxRecDepth 1000000 in
theorem law_six (hL : L ≤ 3072) (hi : i + 6 ≤ L) (next : ∀ mx mm, RR mx mm → J m_L_law true L xs 24 kc ks 1306 (zI i) [] (HH mx mm) lawQ) {mx mm : mM} (h : RR mx mm) : J m_L_law true L xs 24 kc ks 27 (zI i) [] (HH mx mm) lawQ := by
  refine J_sload_n (i := 0) (a := 0) rfl rfl (dk_L_law 27 _ rfl) ?_
  refine J_iload_n (i := 3) (a := 3) rfl rfl (dk_L_law 28 _ rfl) ?_
  refine J_sldC (v := xs i) rfl (vp_in_nI (by omega) (by omega)) (by rw [nI_clamp (by omega)]) (dk_L_law 29 _ rfl) ?_
  refine J_bipush (v := 63) (by decide) (dk_L_law 30 _ rfl) ?_
  refine J_iand (dk_L_law 32 _ rfl) ?_
  generalize xs i &&& 63 = y
  by_cases hy : y.toInt < 0 ∨ 35 < y.toInt
  · exact J_tout (tgt := 1306) hy (by decide) (dk_L_law 33 _ rfl) (next _ _ h)
  · have h36 : y.toInt = 0 ∨ y.toInt = 1 ∨ y.toInt = 2 ∨ y.toInt = 3 ∨ y.toInt = 4 ∨ y.toInt = 5 ∨ y.toInt = 6 ∨ y.toInt = 7 ∨ y.toInt = 8 ∨ y.toInt = 9 ∨ y.toInt = 10 ∨ y.toInt = 11 ∨ y.toInt = 12 ∨ y.toInt = 13 ∨ y.toInt = 14 ∨ y.toInt = 15 ∨ y.toInt = 16 ∨ y.toInt = 17 ∨ y.toInt = 18 ∨ y.toInt = 19 ∨ y.toInt = 20 ∨ y.toInt = 21 ∨ y.toInt = 22 ∨ y.toInt = 23 ∨ y.toInt = 24 ∨ y.toInt = 25 ∨ y.toInt = 26 ∨ y.toInt = 27 ∨ y.toInt = 28 ∨ y.toInt = 29 ∨ y.toInt = 30 ∨ y.toInt = 31 ∨ y.toInt = 32 ∨ y.toInt = 33 ∨ y.toInt = 34 ∨ y.toInt = 35 := by omega
    rcases h36 with e | e | e | e | e | e | e | e | e | e | e | e | e | e | e | e | e | e | e | e | e | e | e | e | e | e | e | e | e | e | e | e | e | e | e | e
    · exact J_tin (off := 159) (tgt := 192) (by omega) (by omega) (by rw [e]; rfl) (by decide) (dk_L_law 33 _ rfl) (law_c0 hL hi next h)
    · exact J_tin (off := 212) (tgt := 245) (by omega) (by omega) (by rw [e]; rfl) (by decide) (dk_L_law 33 _ rfl) (law_c1 hL hi next h)
    · exact J_tin (off := 245) (tgt := 278) (by omega) (by omega) (by rw [e]; rfl) (by decide) (dk_L_law 33 _ rfl) (law_c2 hL hi next h)
    · exact J_tin (off := 288) (tgt := 321) (by omega) (by omega) (by rw [e]; rfl) (by decide) (dk_L_law 33 _ rfl) (law_c3 hL hi next h)
    · exact J_tin (off := 337) (tgt := 370) (by omega) (by omega) (by rw [e]; rfl) (by decide) (dk_L_law 33 _ rfl) (law_c4 hL hi next h)
    · exact J_tin (off := 380) (tgt := 413) (by omega) (by omega) (by rw [e]; rfl) (by decide) (dk_L_law 33 _ rfl) (law_c5 hL hi next h)
    · exact J_tin (off := 403) (tgt := 436) (by omega) (by omega) (by rw [e]; rfl) (by decide) (dk_L_law 33 _ rfl) (law_c6 hL hi next h)
    · exact J_tin (off := 416) (tgt := 449) (by omega) (by omega) (by rw [e]; rfl) (by decide) (dk_L_law 33 _ rfl) (law_c7 hL hi next h)
    · exact J_tin (off := 439) (tgt := 472) (by omega) (by omega) (by rw [e]; rfl) (by decide) (dk_L_law 33 _ rfl) (law_c8 hL hi next h)
    · exact J_tin (off := 452) (tgt := 485) (by omega) (by omega) (by rw [e]; rfl) (by decide) (dk_L_law 33 _ rfl) (law_c9 hL hi next h)
    · exact J_tin (off := 495) (tgt := 528) (by omega) (by omega) (by rw [e]; rfl) (by decide) (dk_L_law 33 _ rfl) (law_c10 hL hi next h)
    · exact J_tin (off := 518) (tgt := 551) (by omega) (by omega) (by rw [e]; rfl) (by decide) (dk_L_law 33 _ rfl) (law_c11 hL hi next h)
    · exact J_tin (off := 551) (tgt := 584) (by omega) (by omega) (by rw [e]; rfl) (by decide) (dk_L_law 33 _ rfl) (law_c12 hL hi next h)
    · exact J_tin (off := 584) (tgt := 617) (by omega) (by omega) (by rw [e]; rfl) (by decide) (dk_L_law 33 _ rfl) (law_c13 hL hi next h)
    · exact J_tin (off := 597) (tgt := 630) (by omega) (by omega) (by rw [e]; rfl) (by decide) (dk_L_law 33 _ rfl) (law_c14 hL hi next h)
    · exact J_tin (off := 630) (tgt := 663) (by omega) (by omega) (by rw [e]; rfl) (by decide) (dk_L_law 33 _ rfl) (law_c15 hL hi next h)
    · exact J_tin (off := 653) (tgt := 686) (by omega) (by omega) (by rw [e]; rfl) (by decide) (dk_L_law 33 _ rfl) (law_c16 hL hi next h)
    · exact J_tin (off := 676) (tgt := 709) (by omega) (by omega) (by rw [e]; rfl) (by decide) (dk_L_law 33 _ rfl) (law_c17 hL hi next h)
    · exact J_tin (off := 699) (tgt := 732) (by omega) (by omega) (by rw [e]; rfl) (by decide) (dk_L_law 33 _ rfl) (law_c18 hL hi next h)
    · exact J_tin (off := 722) (tgt := 755) (by omega) (by omega) (by rw [e]; rfl) (by decide) (dk_L_law 33 _ rfl) (law_c19 hL hi next h)
    · exact J_tin (off := 745) (tgt := 778) (by omega) (by omega) (by rw [e]; rfl) (by decide) (dk_L_law 33 _ rfl) (law_c20 hL hi next h)
    · exact J_tin (off := 768) (tgt := 801) (by omega) (by omega) (by rw [e]; rfl) (by decide) (dk_L_law 33 _ rfl) (law_c21 hL hi next h)
    · exact J_tin (off := 811) (tgt := 844) (by omega) (by omega) (by rw [e]; rfl) (by decide) (dk_L_law 33 _ rfl) (law_c22 hL hi next h)
    · exact J_tin (off := 834) (tgt := 867) (by omega) (by omega) (by rw [e]; rfl) (by decide) (dk_L_law 33 _ rfl) (law_c23 hL hi next h)
    · exact J_tin (off := 857) (tgt := 890) (by omega) (by omega) (by rw [e]; rfl) (by decide) (dk_L_law 33 _ rfl) (law_c24 hL hi next h)
    · exact J_tin (off := 880) (tgt := 913) (by omega) (by omega) (by rw [e]; rfl) (by decide) (dk_L_law 33 _ rfl) (law_c25 hL hi next h)
    · exact J_tin (off := 913) (tgt := 946) (by omega) (by omega) (by rw [e]; rfl) (by decide) (dk_L_law 33 _ rfl) (law_c26 hL hi next h)
    · exact J_tin (off := 926) (tgt := 959) (by omega) (by omega) (by rw [e]; rfl) (by decide) (dk_L_law 33 _ rfl) (law_c27 hL hi next h)
    · exact J_tin (off := 939) (tgt := 972) (by omega) (by omega) (by rw [e]; rfl) (by decide) (dk_L_law 33 _ rfl) (law_c28 hL hi next h)
    · exact J_tin (off := 982) (tgt := 1015) (by omega) (by omega) (by rw [e]; rfl) (by decide) (dk_L_law 33 _ rfl) (law_c29 hL hi next h)
    · exact J_tin (off := 1005) (tgt := 1038) (by omega) (by omega) (by rw [e]; rfl) (by decide) (dk_L_law 33 _ rfl) (law_c30 hL hi next h)
    · exact J_tin (off := 1038) (tgt := 1071) (by omega) (by omega) (by rw [e]; rfl) (by decide) (dk_L_law 33 _ rfl) (law_c31 hL hi next h)
    · exact J_tin (off := 1061) (tgt := 1094) (by omega) (by omega) (by rw [e]; rfl) (by decide) (dk_L_law 33 _ rfl) (law_c32 hL hi next h)
    · exact J_tin (off := 1104) (tgt := 1137) (by omega) (by omega) (by rw [e]; rfl) (by decide) (dk_L_law 33 _ rfl) (law_c33 hL hi next h)
    · exact J_tin (off := 1177) (tgt := 1210) (by omega) (by omega) (by rw [e]; rfl) (by decide) (dk_L_law 33 _ rfl) (law_c34 hL hi next h)
    · exact J_tin (off := 1210) (tgt := 1243) (by omega) (by omega) (by rw [e]; rfl) (by decide) (dk_L_law 33 _ rfl) (law_c35 hL hi next h)
set_option maxRecDepth 1000000 in
theorem law_loop (hL : L ≤ 3072) : ∀ (j i : Nat), L + 6 - i ≤ j → i ≤ 4000 → ∀ mx mm, RR mx mm → J m_L_law true L xs 24 kc ks 18 (zI i) [] (HH mx mm) lawQ := by
  intro j
  induction j with
  | zero =>
    intro i hj hi mx mm h
    have hs : (nI L - 6).toInt = (L : Int) - 6 := sub6 hL
    refine J_iload_n (i := 3) (a := 3) rfl rfl (dk_L_law 18 _ rfl) ?_
    refine J_sload_n (i := 0) (a := 0) rfl rfl (dk_L_law 19 _ rfl) ?_
    refine J_slen (v := nI L) rfl rfl (dk_L_law 20 _ rfl) ?_
    refine J_bipush (v := 6) (by decide) (dk_L_law 21 _ rfl) ?_
    refine J_isubC rfl (dk_L_law 23 _ rfl) ?_
    refine J_icT (tgt := 1312) (by decide) (dk_L_law 24 _ rfl) (show nI L - 6 < nI i by rw [Int32.lt_iff_toInt_lt, hs, nI_toInt (by omega)]; omega) ?_
    refine J_iconst (v := 1) (by decide) (dk_L_law 1312 _ rfl) ?_
    exact J_iret rfl rfl (dk_L_law 1313 _ rfl) rfl
  | succ j ih =>
    intro i hj hi mx mm h
    have hs : (nI L - 6).toInt = (L : Int) - 6 := sub6 hL
    refine J_iload_n (i := 3) (a := 3) rfl rfl (dk_L_law 18 _ rfl) ?_
    refine J_sload_n (i := 0) (a := 0) rfl rfl (dk_L_law 19 _ rfl) ?_
    refine J_slen (v := nI L) rfl rfl (dk_L_law 20 _ rfl) ?_
    refine J_bipush (v := 6) (by decide) (dk_L_law 21 _ rfl) ?_
    refine J_isubC rfl (dk_L_law 23 _ rfl) ?_
    by_cases hc : i + 6 ≤ L
    · refine J_icF (tgt := 1312) (by decide) (dk_L_law 24 _ rfl) (show ¬ nI L - 6 < nI i by rw [Int32.lt_iff_toInt_lt, hs, nI_toInt (by omega)]; omega) ?_
      refine law_six hL hc (fun mx mm h => ?_) h
      refine J_iinc (i := 3) (n := 6) (v := nI (i + 6)) rfl (nI_add i 6) (by decide) (dk_L_law 1306 _ rfl) ?_
      refine J_goto (tgt := 18) (by decide) (dk_L_law 1309 _ rfl) ?_
      show J _ _ _ _ _ _ _ _ (zI (i + 6)) _ _ _
      exact ih (i + 6) (by omega) (by omega) mx mm h
    · refine J_icT (tgt := 1312) (by decide) (dk_L_law 24 _ rfl) (show nI L - 6 < nI i by rw [Int32.lt_iff_toInt_lt, hs, nI_toInt (by omega)]; omega) ?_
      refine J_iconst (v := 1) (by decide) (dk_L_law 1312 _ rfl) ?_
      exact J_iret rfl rfl (dk_L_law 1313 _ rfl) rfl
set_option maxRecDepth 1000000 in
theorem law_all (hL : L ≤ 3072) : J m_L_law true L xs 24 600000 7302250 0 [(0, .retAddr 0)] [] [] lawQ := by
  refine J_new (kc := 599999) (ks := 7302239) (ci := 6) (q := (RX6, TX6, 11)) rfl kl_8_7 is_6 ic_6 (jdf_ok rfl).1 (jdf_ok rfl).2 (by decide +kernel) (by decide +kernel) (dk_L_law 0 _ rfl) ?_
  refine J_dup rfl (dk_L_law 3 _ rfl) ?_
  refine J_callI (kc' := 93) (ks' := 3168) (kc := 599906) (ks := 7299071) (As := []) (b := 0) ok_X6_init in_X6_init cl_8_9 (n := 0) (by decide +kernel) rfl (by decide) (Or.inr (by decide +kernel)) (by decide) (dk_L_law 4 _ rfl) (jev_ctA rfl r_newX) (fun r h' hq _ => ?_)
  obtain ⟨rfl, rfl⟩ := hq
  show J _ _ _ _ _ _ _ _ _ [.ref 0] _ _
  refine J_astore_n (i := 1) (a := 1) rfl (by decide) (dk_L_law 7 _ rfl) ?_
  show J _ _ _ _ _ _ _ _ [(1, .ref 0), (0, .retAddr 0)] _ _ _
  refine J_new (kc := 599905) (ks := 7299011) (ci := 7) (q := (RX7, TX7, 60)) rfl kl_8_10 is_7 ic_7 (jdf_ok rfl).1 (jdf_ok rfl).2 (by decide +kernel) (by decide +kernel) (dk_L_law 8 _ rfl) ?_
  rw [lX]
  refine J_dup rfl (dk_L_law 11 _ rfl) ?_
  refine J_callI (kc' := 36) (ks' := 1814) (kc := 599869) (ks := 7297197) (As := []) (b := 94) ok_X7_init in_X7_init cl_8_12 (n := 0) (by decide +kernel) rfl (by decide) (Or.inr (by decide +kernel)) (by decide) (dk_L_law 12 _ rfl) (jev_ctA rfl r_newM) (fun r h' hq _ => ?_)
  obtain ⟨rfl, rfl⟩ := hq
  show J _ _ _ _ _ _ _ _ _ [.ref 94] _ _
  refine J_astore_n (i := 2) (a := 2) rfl (by decide) (dk_L_law 15 _ rfl) ?_
  refine J_iconst (v := 0) (by decide) (dk_L_law 16 _ rfl) ?_
  refine J_istore_n (i := 3) (a := 3) rfl (by decide) (dk_L_law 17 _ rfl) ?_
  show J _ _ _ _ _ _ _ _ (zI 0) _ _ _
  rw [HH0]
  exact law_loop hL (L + 6) 0 (by omega) (by omega) mx0 mm0 RR0
end LAW2
