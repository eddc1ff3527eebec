section LAW2
variable {xs : Nat → Int32} {kc ks : Nat}
set_option maxHeartbeats 4000000 in
set_option maxRecDepth 1000000 in
theorem law_six : J m_L_law true 6 xs 20 kc ks 27 zL [] hN2 lawQ := by
  refine J_sload_n (i := 0) (a := 0) rfl rfl (dk_L_law 27 _ rfl) ?_
  refine J_iload_n (i := 3) (a := 3) rfl rfl (dk_L_law 28 _ rfl) ?_
  refine J_sldC (v := xs 0) rfl (vp6 (k := 0) (by decide)) rfl (dk_L_law 29 _ rfl) ?_
  refine J_bipush (v := 63) (by decide) (dk_L_law 30 _ rfl) ?_
  refine J_iand (dk_L_law 32 _ rfl) ?_
  generalize xs 0 &&& 63 = y
  by_cases hy : y.toInt < 0 ∨ 35 < y.toInt
  · exact J_tout (tgt := 1309) hy (by decide) (dk_L_law 33 _ rfl) law_next
  · have h36 : y.toInt = 0 ∨ y.toInt = 1 ∨ y.toInt = 2 ∨ y.toInt = 3 ∨ y.toInt = 4 ∨ y.toInt = 5 ∨ y.toInt = 6 ∨ y.toInt = 7 ∨ y.toInt = 8 ∨ y.toInt = 9 ∨ y.toInt = 10 ∨ y.toInt = 11 ∨ y.toInt = 12 ∨ y.toInt = 13 ∨ y.toInt = 14 ∨ y.toInt = 15 ∨ y.toInt = 16 ∨ y.toInt = 17 ∨ y.toInt = 18 ∨ y.toInt = 19 ∨ y.toInt = 20 ∨ y.toInt = 21 ∨ y.toInt = 22 ∨ y.toInt = 23 ∨ y.toInt = 24 ∨ y.toInt = 25 ∨ y.toInt = 26 ∨ y.toInt = 27 ∨ y.toInt = 28 ∨ y.toInt = 29 ∨ y.toInt = 30 ∨ y.toInt = 31 ∨ y.toInt = 32 ∨ y.toInt = 33 ∨ y.toInt = 34 ∨ y.toInt = 35 := by omega
    rcases h36 with e | e | e | e | e | e | e | e | e | e | e | e | e | e | e | e | e | e | e | e | e | e | e | e | e | e | e | e | e | e | e | e | e | e | e | e
    · exact J_tin (off := 159) (tgt := 192) (by omega) (by omega) (by rw [e]; rfl) (by decide) (dk_L_law 33 _ rfl) law_c0
    · exact J_tin (off := 212) (tgt := 245) (by omega) (by omega) (by rw [e]; rfl) (by decide) (dk_L_law 33 _ rfl) law_c1
    · exact J_tin (off := 245) (tgt := 278) (by omega) (by omega) (by rw [e]; rfl) (by decide) (dk_L_law 33 _ rfl) law_c2
    · exact J_tin (off := 288) (tgt := 321) (by omega) (by omega) (by rw [e]; rfl) (by decide) (dk_L_law 33 _ rfl) law_c3
    · exact J_tin (off := 337) (tgt := 370) (by omega) (by omega) (by rw [e]; rfl) (by decide) (dk_L_law 33 _ rfl) law_c4
    · exact J_tin (off := 380) (tgt := 413) (by omega) (by omega) (by rw [e]; rfl) (by decide) (dk_L_law 33 _ rfl) law_c5
    · exact J_tin (off := 403) (tgt := 436) (by omega) (by omega) (by rw [e]; rfl) (by decide) (dk_L_law 33 _ rfl) law_c6
    · exact J_tin (off := 416) (tgt := 449) (by omega) (by omega) (by rw [e]; rfl) (by decide) (dk_L_law 33 _ rfl) law_c7
    · exact J_tin (off := 439) (tgt := 472) (by omega) (by omega) (by rw [e]; rfl) (by decide) (dk_L_law 33 _ rfl) law_c8
    · exact J_tin (off := 452) (tgt := 485) (by omega) (by omega) (by rw [e]; rfl) (by decide) (dk_L_law 33 _ rfl) law_c9
    · exact J_tin (off := 495) (tgt := 528) (by omega) (by omega) (by rw [e]; rfl) (by decide) (dk_L_law 33 _ rfl) law_c10
    · exact J_tin (off := 518) (tgt := 551) (by omega) (by omega) (by rw [e]; rfl) (by decide) (dk_L_law 33 _ rfl) law_c11
    · exact J_tin (off := 551) (tgt := 584) (by omega) (by omega) (by rw [e]; rfl) (by decide) (dk_L_law 33 _ rfl) law_c12
    · exact J_tin (off := 584) (tgt := 617) (by omega) (by omega) (by rw [e]; rfl) (by decide) (dk_L_law 33 _ rfl) law_c13
    · exact J_tin (off := 597) (tgt := 630) (by omega) (by omega) (by rw [e]; rfl) (by decide) (dk_L_law 33 _ rfl) law_c14
    · exact J_tin (off := 630) (tgt := 663) (by omega) (by omega) (by rw [e]; rfl) (by decide) (dk_L_law 33 _ rfl) law_c15
    · exact J_tin (off := 653) (tgt := 686) (by omega) (by omega) (by rw [e]; rfl) (by decide) (dk_L_law 33 _ rfl) law_c16
    · exact J_tin (off := 676) (tgt := 709) (by omega) (by omega) (by rw [e]; rfl) (by decide) (dk_L_law 33 _ rfl) law_c17
    · exact J_tin (off := 699) (tgt := 732) (by omega) (by omega) (by rw [e]; rfl) (by decide) (dk_L_law 33 _ rfl) law_c18
    · exact J_tin (off := 722) (tgt := 755) (by omega) (by omega) (by rw [e]; rfl) (by decide) (dk_L_law 33 _ rfl) law_c19
    · exact J_tin (off := 745) (tgt := 778) (by omega) (by omega) (by rw [e]; rfl) (by decide) (dk_L_law 33 _ rfl) law_c20
    · exact J_tin (off := 768) (tgt := 801) (by omega) (by omega) (by rw [e]; rfl) (by decide) (dk_L_law 33 _ rfl) law_c21
    · exact J_tin (off := 812) (tgt := 845) (by omega) (by omega) (by rw [e]; rfl) (by decide) (dk_L_law 33 _ rfl) law_c22
    · exact J_tin (off := 836) (tgt := 869) (by omega) (by omega) (by rw [e]; rfl) (by decide) (dk_L_law 33 _ rfl) law_c23
    · exact J_tin (off := 859) (tgt := 892) (by omega) (by omega) (by rw [e]; rfl) (by decide) (dk_L_law 33 _ rfl) law_c24
    · exact J_tin (off := 882) (tgt := 915) (by omega) (by omega) (by rw [e]; rfl) (by decide) (dk_L_law 33 _ rfl) law_c25
    · exact J_tin (off := 915) (tgt := 948) (by omega) (by omega) (by rw [e]; rfl) (by decide) (dk_L_law 33 _ rfl) law_c26
    · exact J_tin (off := 928) (tgt := 961) (by omega) (by omega) (by rw [e]; rfl) (by decide) (dk_L_law 33 _ rfl) law_c27
    · exact J_tin (off := 941) (tgt := 974) (by omega) (by omega) (by rw [e]; rfl) (by decide) (dk_L_law 33 _ rfl) law_c28
    · exact J_tin (off := 984) (tgt := 1017) (by omega) (by omega) (by rw [e]; rfl) (by decide) (dk_L_law 33 _ rfl) law_c29
    · exact J_tin (off := 1007) (tgt := 1040) (by omega) (by omega) (by rw [e]; rfl) (by decide) (dk_L_law 33 _ rfl) law_c30
    · exact J_tin (off := 1040) (tgt := 1073) (by omega) (by omega) (by rw [e]; rfl) (by decide) (dk_L_law 33 _ rfl) law_c31
    · exact J_tin (off := 1063) (tgt := 1096) (by omega) (by omega) (by rw [e]; rfl) (by decide) (dk_L_law 33 _ rfl) law_c32
    · exact J_tin (off := 1106) (tgt := 1139) (by omega) (by omega) (by rw [e]; rfl) (by decide) (dk_L_law 33 _ rfl) law_c33
    · exact J_tin (off := 1179) (tgt := 1212) (by omega) (by omega) (by rw [e]; rfl) (by decide) (dk_L_law 33 _ rfl) law_c34
    · exact J_tin (off := 1213) (tgt := 1246) (by omega) (by omega) (by rw [e]; rfl) (by decide) (dk_L_law 33 _ rfl) law_c35
end LAW2
