set_option maxHeartbeats 4000000 in
set_option maxRecDepth 1000000 in
theorem o_told (w : Int32) : ∃ rv : Int32, jCt m_X6_told 12 0 0 [.ref 0, .int w] hN0 (jA (.int rv) 94) ∧ jCt m_X7_told 12 0 0 [.ref 0, .int w] hM0 (jA (.int rv) 37) := by
  have r_w := w.toInt_lt; have q_w := w.le_toInt
  by_cases c1 : (w : Int32).toInt < 10
  · by_cases c2 : (w : Int32).toInt < 0
    · refine ⟨(-10000001), ?_, ?_⟩
      · refine jCt_of ok_X6_told (fun _ _ => Nat.le_of_ble_eq_true rfl) (fun _ _ hq => Nat.le_of_eq (lX.trans hq.2.symm)) ?_
        show J _ _ _ _ _ _ _ _ [(0, .ref 0), (1, .int w)] _ _ _
        refine J_iload_n (i := 1) (a := 1) rfl rfl (dk_X6_told 0 _ rfl) ?_
        refine J_bipush (v := 10) (by decide) (dk_X6_told 1 _ rfl) ?_
        refine J_icT (tgt := 21) (by decide) (dk_X6_told 3 _ rfl) (jI_lt (rfl : (w : Int32).toInt = (w : Int32).toInt) (by decide : (10 : Int32).toInt = 10) (by omega)) ?_
        refine J_iload_n (i := 1) (a := 1) rfl rfl (dk_X6_told 21 _ rfl) ?_
        refine J_bipush (v := 30) (by decide) (dk_X6_told 22 _ rfl) ?_
        refine J_icT (tgt := 42) (by decide) (dk_X6_told 24 _ rfl) (jI_lt (rfl : (w : Int32).toInt = (w : Int32).toInt) (by decide : (30 : Int32).toInt = 30) (by omega)) ?_
        refine J_iload_n (i := 1) (a := 1) rfl rfl (dk_X6_told 42 _ rfl) ?_
        refine J_tout (tgt := 134) (by omega) (by decide) (dk_X6_told 43 _ rfl) ?_
        refine J_ldc (v := (-10000001)) ct_6_82 (dk_X6_told 134 _ rfl) ?_
        exact J_iret rfl rfl (dk_X6_told 136 _ rfl) ⟨rfl, rfl⟩
      · refine jCt_of ok_X7_told (fun _ _ => Nat.le_of_ble_eq_true rfl) (fun _ _ hq => Nat.le_of_eq (lM.trans hq.2.symm)) ?_
        show J _ _ _ _ _ _ _ _ [(0, .ref 0), (1, .int w)] _ _ _
        refine J_aload_n (i := 0) (a := 0) rfl rfl (dk_X7_told 0 _ rfl) ?_
        refine J_iload_n (i := 1) (a := 1) rfl rfl (dk_X7_told 1 _ rfl) ?_
        refine J_bipush (v := 10) (by decide) (dk_X7_told 2 _ rfl) ?_
        refine J_bipush (v := 21) (by decide) (dk_X7_told 4 _ rfl) ?_
        refine J_cV (rv := some (.int 0)) (h' := hM0) (d' := 11) (As := [.int w, .int 10, .int 21]) ok_X7_in vi_X7_in cl_7_194 (n := 3) (by decide +kernel) rfl rfl rfl rfl (by decide) (by decide) (dk_X7_told 6 _ rfl) ?_ ?_
        · refine jCt_of ok_X7_in (fun _ _ => Nat.le_of_ble_eq_true rfl) (fun _ _ hq => by rw [hq.2]; first | exact Nat.le_refl _ | simp) ?_
          show J _ _ _ _ _ _ _ _ [(0, .ref 0), (1, .int w), (2, .int 10), (3, .int 21)] _ _ _
          refine J_iload_n (i := 1) (a := 1) rfl rfl (dk_X7_in 0 _ rfl) ?_
          refine J_iload_n (i := 2) (a := 2) rfl rfl (dk_X7_in 1 _ rfl) ?_
          refine J_icT (tgt := 14) (by decide) (dk_X7_in 2 _ rfl) (jI_lt (rfl : (w : Int32).toInt = (w : Int32).toInt) (by decide : (10 : Int32).toInt = 10) (by omega)) ?_
          refine J_iconst (v := 0) (by decide) (dk_X7_in 14 _ rfl) ?_
          exact J_iret rfl rfl (dk_X7_in 15 _ rfl) ⟨rfl, rfl⟩
        show J _ _ _ _ _ _ _ _ _ [.int 0] _ _
        refine J_ifT (tgt := 21) (by decide) (dk_X7_told 9 _ rfl) (jI_eq (by decide : (0 : Int32).toInt = 0) (by decide : (0 : Int32).toInt = 0) (by omega)) ?_
        refine J_aload_n (i := 0) (a := 0) rfl rfl (dk_X7_told 21 _ rfl) ?_
        refine J_iload_n (i := 1) (a := 1) rfl rfl (dk_X7_told 22 _ rfl) ?_
        refine J_bipush (v := 30) (by decide) (dk_X7_told 23 _ rfl) ?_
        refine J_bipush (v := 41) (by decide) (dk_X7_told 25 _ rfl) ?_
        refine J_cV (rv := some (.int 0)) (h' := hM0) (d' := 11) (As := [.int w, .int 30, .int 41]) ok_X7_in vi_X7_in cl_7_194 (n := 3) (by decide +kernel) rfl rfl rfl rfl (by decide) (by decide) (dk_X7_told 27 _ rfl) ?_ ?_
        · refine jCt_of ok_X7_in (fun _ _ => Nat.le_of_ble_eq_true rfl) (fun _ _ hq => by rw [hq.2]; first | exact Nat.le_refl _ | simp) ?_
          show J _ _ _ _ _ _ _ _ [(0, .ref 0), (1, .int w), (2, .int 30), (3, .int 41)] _ _ _
          refine J_iload_n (i := 1) (a := 1) rfl rfl (dk_X7_in 0 _ rfl) ?_
          refine J_iload_n (i := 2) (a := 2) rfl rfl (dk_X7_in 1 _ rfl) ?_
          refine J_icT (tgt := 14) (by decide) (dk_X7_in 2 _ rfl) (jI_lt (rfl : (w : Int32).toInt = (w : Int32).toInt) (by decide : (30 : Int32).toInt = 30) (by omega)) ?_
          refine J_iconst (v := 0) (by decide) (dk_X7_in 14 _ rfl) ?_
          exact J_iret rfl rfl (dk_X7_in 15 _ rfl) ⟨rfl, rfl⟩
        show J _ _ _ _ _ _ _ _ _ [.int 0] _ _
        refine J_ifT (tgt := 42) (by decide) (dk_X7_told 30 _ rfl) (jI_eq (by decide : (0 : Int32).toInt = 0) (by decide : (0 : Int32).toInt = 0) (by omega)) ?_
        refine J_iload_n (i := 1) (a := 1) rfl rfl (dk_X7_told 42 _ rfl) ?_
        refine J_tout (tgt := 115) (by omega) (by decide) (dk_X7_told 43 _ rfl) ?_
        refine J_ldcw (v := (-10000001)) ct_7_291 (dk_X7_told 115 _ rfl) ?_
        exact J_iret rfl rfl (dk_X7_told 118 _ rfl) ⟨rfl, rfl⟩
    · by_cases c3 : (w : Int32).toInt = 0
      · obtain rfl : w = 0 := jI_eq rfl (by decide) c3
        exact ⟨10, jq2_ct rfl (F := 100000) (d := 12) (mid := 49) (by decide +kernel), jq2_ct rfl (F := 100000) (d := 12) (mid := 134) (by decide +kernel)⟩
      · by_cases c4 : (w : Int32).toInt = 1
        · obtain rfl : w = 1 := jI_eq rfl (by decide) c4
          exact ⟨1, jq2_ct rfl (F := 100000) (d := 12) (mid := 49) (by decide +kernel), jq2_ct rfl (F := 100000) (d := 12) (mid := 134) (by decide +kernel)⟩
        · by_cases c5 : (w : Int32).toInt = 2
          · obtain rfl : w = 2 := jI_eq rfl (by decide) c5
            exact ⟨99, jq2_ct rfl (F := 100000) (d := 12) (mid := 49) (by decide +kernel), jq2_ct rfl (F := 100000) (d := 12) (mid := 134) (by decide +kernel)⟩
          · by_cases c6 : (w : Int32).toInt = 3
            · obtain rfl : w = 3 := jI_eq rfl (by decide) c6
              exact ⟨0, jq2_ct rfl (F := 100000) (d := 12) (mid := 49) (by decide +kernel), jq2_ct rfl (F := 100000) (d := 12) (mid := 134) (by decide +kernel)⟩
            · by_cases c7 : (w : Int32).toInt = 4
              · obtain rfl : w = 4 := jI_eq rfl (by decide) c7
                exact ⟨0, jq2_ct rfl (F := 100000) (d := 12) (mid := 49) (by decide +kernel), jq2_ct rfl (F := 100000) (d := 12) (mid := 134) (by decide +kernel)⟩
              · by_cases c8 : (w : Int32).toInt = 5
                · obtain rfl : w = 5 := jI_eq rfl (by decide) c8
                  exact ⟨0, jq2_ct rfl (F := 100000) (d := 12) (mid := 49) (by decide +kernel), jq2_ct rfl (F := 100000) (d := 12) (mid := 134) (by decide +kernel)⟩
                · by_cases c9 : (w : Int32).toInt = 6
                  · obtain rfl : w = 6 := jI_eq rfl (by decide) c9
                    exact ⟨(-10000001), jq2_ct rfl (F := 100000) (d := 12) (mid := 49) (by decide +kernel), jq2_ct rfl (F := 100000) (d := 12) (mid := 134) (by decide +kernel)⟩
                  · by_cases c10 : (w : Int32).toInt = 7
                    · obtain rfl : w = 7 := jI_eq rfl (by decide) c10
                      exact ⟨(-10000001), jq2_ct rfl (F := 100000) (d := 12) (mid := 49) (by decide +kernel), jq2_ct rfl (F := 100000) (d := 12) (mid := 134) (by decide +kernel)⟩
                    · by_cases c11 : (w : Int32).toInt = 8
                      · obtain rfl : w = 8 := jI_eq rfl (by decide) c11
                        exact ⟨(-10000001), jq2_ct rfl (F := 100000) (d := 12) (mid := 49) (by decide +kernel), jq2_ct rfl (F := 100000) (d := 12) (mid := 134) (by decide +kernel)⟩
                      · obtain rfl : w = 9 := jI_eq rfl (by decide) (by omega : (w : Int32).toInt = 9)
                        exact ⟨(-10000001), jq2_ct rfl (F := 100000) (d := 12) (mid := 49) (by decide +kernel), jq2_ct rfl (F := 100000) (d := 12) (mid := 134) (by decide +kernel)⟩
  · by_cases c13 : (w : Int32).toInt < 22
    · by_cases c14 : (w : Int32).toInt = 10
      · obtain rfl : w = 10 := jI_eq rfl (by decide) c14
        exact ⟨0, jq2_ct rfl (F := 100000) (d := 12) (mid := 49) (by decide +kernel), jq2_ct rfl (F := 100000) (d := 12) (mid := 134) (by decide +kernel)⟩
      · by_cases c15 : (w : Int32).toInt = 11
        · obtain rfl : w = 11 := jI_eq rfl (by decide) c15
          exact ⟨0, jq2_ct rfl (F := 100000) (d := 12) (mid := 49) (by decide +kernel), jq2_ct rfl (F := 100000) (d := 12) (mid := 134) (by decide +kernel)⟩
        · by_cases c16 : (w : Int32).toInt = 12
          · obtain rfl : w = 12 := jI_eq rfl (by decide) c16
            exact ⟨0, jq2_ct rfl (F := 100000) (d := 12) (mid := 49) (by decide +kernel), jq2_ct rfl (F := 100000) (d := 12) (mid := 134) (by decide +kernel)⟩
          · by_cases c17 : (w : Int32).toInt = 13
            · obtain rfl : w = 13 := jI_eq rfl (by decide) c17
              exact ⟨0, jq2_ct rfl (F := 100000) (d := 12) (mid := 49) (by decide +kernel), jq2_ct rfl (F := 100000) (d := 12) (mid := 134) (by decide +kernel)⟩
            · by_cases c18 : (w : Int32).toInt = 14
              · obtain rfl : w = 14 := jI_eq rfl (by decide) c18
                exact ⟨0, jq2_ct rfl (F := 100000) (d := 12) (mid := 49) (by decide +kernel), jq2_ct rfl (F := 100000) (d := 12) (mid := 134) (by decide +kernel)⟩
              · by_cases c19 : (w : Int32).toInt = 15
                · obtain rfl : w = 15 := jI_eq rfl (by decide) c19
                  exact ⟨0, jq2_ct rfl (F := 100000) (d := 12) (mid := 49) (by decide +kernel), jq2_ct rfl (F := 100000) (d := 12) (mid := 134) (by decide +kernel)⟩
                · by_cases c20 : (w : Int32).toInt = 16
                  · obtain rfl : w = 16 := jI_eq rfl (by decide) c20
                    exact ⟨0, jq2_ct rfl (F := 100000) (d := 12) (mid := 49) (by decide +kernel), jq2_ct rfl (F := 100000) (d := 12) (mid := 134) (by decide +kernel)⟩
                  · by_cases c21 : (w : Int32).toInt = 17
                    · obtain rfl : w = 17 := jI_eq rfl (by decide) c21
                      exact ⟨0, jq2_ct rfl (F := 100000) (d := 12) (mid := 49) (by decide +kernel), jq2_ct rfl (F := 100000) (d := 12) (mid := 134) (by decide +kernel)⟩
                    · by_cases c22 : (w : Int32).toInt = 18
                      · obtain rfl : w = 18 := jI_eq rfl (by decide) c22
                        exact ⟨0, jq2_ct rfl (F := 100000) (d := 12) (mid := 49) (by decide +kernel), jq2_ct rfl (F := 100000) (d := 12) (mid := 134) (by decide +kernel)⟩
                      · by_cases c23 : (w : Int32).toInt = 19
                        · obtain rfl : w = 19 := jI_eq rfl (by decide) c23
                          exact ⟨0, jq2_ct rfl (F := 100000) (d := 12) (mid := 49) (by decide +kernel), jq2_ct rfl (F := 100000) (d := 12) (mid := 134) (by decide +kernel)⟩
                        · by_cases c24 : (w : Int32).toInt = 20
                          · obtain rfl : w = 20 := jI_eq rfl (by decide) c24
                            exact ⟨0, jq2_ct rfl (F := 100000) (d := 12) (mid := 49) (by decide +kernel), jq2_ct rfl (F := 100000) (d := 12) (mid := 134) (by decide +kernel)⟩
                          · obtain rfl : w = 21 := jI_eq rfl (by decide) (by omega : (w : Int32).toInt = 21)
                            exact ⟨0, jq2_ct rfl (F := 100000) (d := 12) (mid := 49) (by decide +kernel), jq2_ct rfl (F := 100000) (d := 12) (mid := 134) (by decide +kernel)⟩
    · by_cases c26 : (w : Int32).toInt < 30
      · by_cases c27 : (w : Int32).toInt = 22
        · obtain rfl : w = 22 := jI_eq rfl (by decide) c27
          exact ⟨(-10000001), jq2_ct rfl (F := 100000) (d := 12) (mid := 49) (by decide +kernel), jq2_ct rfl (F := 100000) (d := 12) (mid := 134) (by decide +kernel)⟩
        · by_cases c28 : (w : Int32).toInt = 23
          · obtain rfl : w = 23 := jI_eq rfl (by decide) c28
            exact ⟨(-10000001), jq2_ct rfl (F := 100000) (d := 12) (mid := 49) (by decide +kernel), jq2_ct rfl (F := 100000) (d := 12) (mid := 134) (by decide +kernel)⟩
          · by_cases c29 : (w : Int32).toInt = 24
            · obtain rfl : w = 24 := jI_eq rfl (by decide) c29
              exact ⟨(-10000001), jq2_ct rfl (F := 100000) (d := 12) (mid := 49) (by decide +kernel), jq2_ct rfl (F := 100000) (d := 12) (mid := 134) (by decide +kernel)⟩
            · by_cases c30 : (w : Int32).toInt = 25
              · obtain rfl : w = 25 := jI_eq rfl (by decide) c30
                exact ⟨(-10000001), jq2_ct rfl (F := 100000) (d := 12) (mid := 49) (by decide +kernel), jq2_ct rfl (F := 100000) (d := 12) (mid := 134) (by decide +kernel)⟩
              · by_cases c31 : (w : Int32).toInt = 26
                · obtain rfl : w = 26 := jI_eq rfl (by decide) c31
                  exact ⟨(-10000001), jq2_ct rfl (F := 100000) (d := 12) (mid := 49) (by decide +kernel), jq2_ct rfl (F := 100000) (d := 12) (mid := 134) (by decide +kernel)⟩
                · by_cases c32 : (w : Int32).toInt = 27
                  · obtain rfl : w = 27 := jI_eq rfl (by decide) c32
                    exact ⟨(-10000001), jq2_ct rfl (F := 100000) (d := 12) (mid := 49) (by decide +kernel), jq2_ct rfl (F := 100000) (d := 12) (mid := 134) (by decide +kernel)⟩
                  · by_cases c33 : (w : Int32).toInt = 28
                    · obtain rfl : w = 28 := jI_eq rfl (by decide) c33
                      exact ⟨(-10000001), jq2_ct rfl (F := 100000) (d := 12) (mid := 49) (by decide +kernel), jq2_ct rfl (F := 100000) (d := 12) (mid := 134) (by decide +kernel)⟩
                    · obtain rfl : w = 29 := jI_eq rfl (by decide) (by omega : (w : Int32).toInt = 29)
                      exact ⟨(-10000001), jq2_ct rfl (F := 100000) (d := 12) (mid := 49) (by decide +kernel), jq2_ct rfl (F := 100000) (d := 12) (mid := 134) (by decide +kernel)⟩
      · by_cases c35 : (w : Int32).toInt < 42
        · by_cases c36 : (w : Int32).toInt = 30
          · obtain rfl : w = 30 := jI_eq rfl (by decide) c36
            exact ⟨0, jq2_ct rfl (F := 100000) (d := 12) (mid := 49) (by decide +kernel), jq2_ct rfl (F := 100000) (d := 12) (mid := 134) (by decide +kernel)⟩
          · by_cases c37 : (w : Int32).toInt = 31
            · obtain rfl : w = 31 := jI_eq rfl (by decide) c37
              exact ⟨0, jq2_ct rfl (F := 100000) (d := 12) (mid := 49) (by decide +kernel), jq2_ct rfl (F := 100000) (d := 12) (mid := 134) (by decide +kernel)⟩
            · by_cases c38 : (w : Int32).toInt = 32
              · obtain rfl : w = 32 := jI_eq rfl (by decide) c38
                exact ⟨0, jq2_ct rfl (F := 100000) (d := 12) (mid := 49) (by decide +kernel), jq2_ct rfl (F := 100000) (d := 12) (mid := 134) (by decide +kernel)⟩
              · by_cases c39 : (w : Int32).toInt = 33
                · obtain rfl : w = 33 := jI_eq rfl (by decide) c39
                  exact ⟨0, jq2_ct rfl (F := 100000) (d := 12) (mid := 49) (by decide +kernel), jq2_ct rfl (F := 100000) (d := 12) (mid := 134) (by decide +kernel)⟩
                · by_cases c40 : (w : Int32).toInt = 34
                  · obtain rfl : w = 34 := jI_eq rfl (by decide) c40
                    exact ⟨0, jq2_ct rfl (F := 100000) (d := 12) (mid := 49) (by decide +kernel), jq2_ct rfl (F := 100000) (d := 12) (mid := 134) (by decide +kernel)⟩
                  · by_cases c41 : (w : Int32).toInt = 35
                    · obtain rfl : w = 35 := jI_eq rfl (by decide) c41
                      exact ⟨0, jq2_ct rfl (F := 100000) (d := 12) (mid := 49) (by decide +kernel), jq2_ct rfl (F := 100000) (d := 12) (mid := 134) (by decide +kernel)⟩
                    · by_cases c42 : (w : Int32).toInt = 36
                      · obtain rfl : w = 36 := jI_eq rfl (by decide) c42
                        exact ⟨0, jq2_ct rfl (F := 100000) (d := 12) (mid := 49) (by decide +kernel), jq2_ct rfl (F := 100000) (d := 12) (mid := 134) (by decide +kernel)⟩
                      · by_cases c43 : (w : Int32).toInt = 37
                        · obtain rfl : w = 37 := jI_eq rfl (by decide) c43
                          exact ⟨0, jq2_ct rfl (F := 100000) (d := 12) (mid := 49) (by decide +kernel), jq2_ct rfl (F := 100000) (d := 12) (mid := 134) (by decide +kernel)⟩
                        · by_cases c44 : (w : Int32).toInt = 38
                          · obtain rfl : w = 38 := jI_eq rfl (by decide) c44
                            exact ⟨0, jq2_ct rfl (F := 100000) (d := 12) (mid := 49) (by decide +kernel), jq2_ct rfl (F := 100000) (d := 12) (mid := 134) (by decide +kernel)⟩
                          · by_cases c45 : (w : Int32).toInt = 39
                            · obtain rfl : w = 39 := jI_eq rfl (by decide) c45
                              exact ⟨0, jq2_ct rfl (F := 100000) (d := 12) (mid := 49) (by decide +kernel), jq2_ct rfl (F := 100000) (d := 12) (mid := 134) (by decide +kernel)⟩
                            · by_cases c46 : (w : Int32).toInt = 40
                              · obtain rfl : w = 40 := jI_eq rfl (by decide) c46
                                exact ⟨0, jq2_ct rfl (F := 100000) (d := 12) (mid := 49) (by decide +kernel), jq2_ct rfl (F := 100000) (d := 12) (mid := 134) (by decide +kernel)⟩
                              · obtain rfl : w = 41 := jI_eq rfl (by decide) (by omega : (w : Int32).toInt = 41)
                                exact ⟨0, jq2_ct rfl (F := 100000) (d := 12) (mid := 49) (by decide +kernel), jq2_ct rfl (F := 100000) (d := 12) (mid := 134) (by decide +kernel)⟩
        · refine ⟨(-10000001), ?_, ?_⟩
          · refine jCt_of ok_X6_told (fun _ _ => Nat.le_of_ble_eq_true rfl) (fun _ _ hq => Nat.le_of_eq (lX.trans hq.2.symm)) ?_
            show J _ _ _ _ _ _ _ _ [(0, .ref 0), (1, .int w)] _ _ _
            refine J_iload_n (i := 1) (a := 1) rfl rfl (dk_X6_told 0 _ rfl) ?_
            refine J_bipush (v := 10) (by decide) (dk_X6_told 1 _ rfl) ?_
            refine J_icF (tgt := 21) (by decide) (dk_X6_told 3 _ rfl) (jI_nlt (rfl : (w : Int32).toInt = (w : Int32).toInt) (by decide : (10 : Int32).toInt = 10) (by omega)) ?_
            refine J_iload_n (i := 1) (a := 1) rfl rfl (dk_X6_told 6 _ rfl) ?_
            refine J_bipush (v := 22) (by decide) (dk_X6_told 7 _ rfl) ?_
            refine J_icT (tgt := 21) (by decide) (dk_X6_told 9 _ rfl) (jI_le (by decide : (22 : Int32).toInt = 22) (rfl : (w : Int32).toInt = (w : Int32).toInt) (by omega)) ?_
            refine J_iload_n (i := 1) (a := 1) rfl rfl (dk_X6_told 21 _ rfl) ?_
            refine J_bipush (v := 30) (by decide) (dk_X6_told 22 _ rfl) ?_
            refine J_icF (tgt := 42) (by decide) (dk_X6_told 24 _ rfl) (jI_nlt (rfl : (w : Int32).toInt = (w : Int32).toInt) (by decide : (30 : Int32).toInt = 30) (by omega)) ?_
            refine J_iload_n (i := 1) (a := 1) rfl rfl (dk_X6_told 27 _ rfl) ?_
            refine J_bipush (v := 42) (by decide) (dk_X6_told 28 _ rfl) ?_
            refine J_icT (tgt := 42) (by decide) (dk_X6_told 30 _ rfl) (jI_le (by decide : (42 : Int32).toInt = 42) (rfl : (w : Int32).toInt = (w : Int32).toInt) (by omega)) ?_
            refine J_iload_n (i := 1) (a := 1) rfl rfl (dk_X6_told 42 _ rfl) ?_
            refine J_tout (tgt := 134) (by omega) (by decide) (dk_X6_told 43 _ rfl) ?_
            refine J_ldc (v := (-10000001)) ct_6_82 (dk_X6_told 134 _ rfl) ?_
            exact J_iret rfl rfl (dk_X6_told 136 _ rfl) ⟨rfl, rfl⟩
          · refine jCt_of ok_X7_told (fun _ _ => Nat.le_of_ble_eq_true rfl) (fun _ _ hq => Nat.le_of_eq (lM.trans hq.2.symm)) ?_
            show J _ _ _ _ _ _ _ _ [(0, .ref 0), (1, .int w)] _ _ _
            refine J_aload_n (i := 0) (a := 0) rfl rfl (dk_X7_told 0 _ rfl) ?_
            refine J_iload_n (i := 1) (a := 1) rfl rfl (dk_X7_told 1 _ rfl) ?_
            refine J_bipush (v := 10) (by decide) (dk_X7_told 2 _ rfl) ?_
            refine J_bipush (v := 21) (by decide) (dk_X7_told 4 _ rfl) ?_
            refine J_cV (rv := some (.int 0)) (h' := hM0) (d' := 11) (As := [.int w, .int 10, .int 21]) ok_X7_in vi_X7_in cl_7_194 (n := 3) (by decide +kernel) rfl rfl rfl rfl (by decide) (by decide) (dk_X7_told 6 _ rfl) ?_ ?_
            · refine jCt_of ok_X7_in (fun _ _ => Nat.le_of_ble_eq_true rfl) (fun _ _ hq => by rw [hq.2]; first | exact Nat.le_refl _ | simp) ?_
              show J _ _ _ _ _ _ _ _ [(0, .ref 0), (1, .int w), (2, .int 10), (3, .int 21)] _ _ _
              refine J_iload_n (i := 1) (a := 1) rfl rfl (dk_X7_in 0 _ rfl) ?_
              refine J_iload_n (i := 2) (a := 2) rfl rfl (dk_X7_in 1 _ rfl) ?_
              refine J_icF (tgt := 14) (by decide) (dk_X7_in 2 _ rfl) (jI_nlt (rfl : (w : Int32).toInt = (w : Int32).toInt) (by decide : (10 : Int32).toInt = 10) (by omega)) ?_
              refine J_iload_n (i := 1) (a := 1) rfl rfl (dk_X7_in 5 _ rfl) ?_
              refine J_iload_n (i := 3) (a := 3) rfl rfl (dk_X7_in 6 _ rfl) ?_
              refine J_icT (tgt := 14) (by decide) (dk_X7_in 7 _ rfl) (jI_lt (by decide : (21 : Int32).toInt = 21) (rfl : (w : Int32).toInt = (w : Int32).toInt) (by omega)) ?_
              refine J_iconst (v := 0) (by decide) (dk_X7_in 14 _ rfl) ?_
              exact J_iret rfl rfl (dk_X7_in 15 _ rfl) ⟨rfl, rfl⟩
            show J _ _ _ _ _ _ _ _ _ [.int 0] _ _
            refine J_ifT (tgt := 21) (by decide) (dk_X7_told 9 _ rfl) (jI_eq (by decide : (0 : Int32).toInt = 0) (by decide : (0 : Int32).toInt = 0) (by omega)) ?_
            refine J_aload_n (i := 0) (a := 0) rfl rfl (dk_X7_told 21 _ rfl) ?_
            refine J_iload_n (i := 1) (a := 1) rfl rfl (dk_X7_told 22 _ rfl) ?_
            refine J_bipush (v := 30) (by decide) (dk_X7_told 23 _ rfl) ?_
            refine J_bipush (v := 41) (by decide) (dk_X7_told 25 _ rfl) ?_
            refine J_cV (rv := some (.int 0)) (h' := hM0) (d' := 11) (As := [.int w, .int 30, .int 41]) ok_X7_in vi_X7_in cl_7_194 (n := 3) (by decide +kernel) rfl rfl rfl rfl (by decide) (by decide) (dk_X7_told 27 _ rfl) ?_ ?_
            · refine jCt_of ok_X7_in (fun _ _ => Nat.le_of_ble_eq_true rfl) (fun _ _ hq => by rw [hq.2]; first | exact Nat.le_refl _ | simp) ?_
              show J _ _ _ _ _ _ _ _ [(0, .ref 0), (1, .int w), (2, .int 30), (3, .int 41)] _ _ _
              refine J_iload_n (i := 1) (a := 1) rfl rfl (dk_X7_in 0 _ rfl) ?_
              refine J_iload_n (i := 2) (a := 2) rfl rfl (dk_X7_in 1 _ rfl) ?_
              refine J_icF (tgt := 14) (by decide) (dk_X7_in 2 _ rfl) (jI_nlt (rfl : (w : Int32).toInt = (w : Int32).toInt) (by decide : (30 : Int32).toInt = 30) (by omega)) ?_
              refine J_iload_n (i := 1) (a := 1) rfl rfl (dk_X7_in 5 _ rfl) ?_
              refine J_iload_n (i := 3) (a := 3) rfl rfl (dk_X7_in 6 _ rfl) ?_
              refine J_icT (tgt := 14) (by decide) (dk_X7_in 7 _ rfl) (jI_lt (by decide : (41 : Int32).toInt = 41) (rfl : (w : Int32).toInt = (w : Int32).toInt) (by omega)) ?_
              refine J_iconst (v := 0) (by decide) (dk_X7_in 14 _ rfl) ?_
              exact J_iret rfl rfl (dk_X7_in 15 _ rfl) ⟨rfl, rfl⟩
            show J _ _ _ _ _ _ _ _ _ [.int 0] _ _
            refine J_ifT (tgt := 42) (by decide) (dk_X7_told 30 _ rfl) (jI_eq (by decide : (0 : Int32).toInt = 0) (by decide : (0 : Int32).toInt = 0) (by omega)) ?_
            refine J_iload_n (i := 1) (a := 1) rfl rfl (dk_X7_told 42 _ rfl) ?_
            refine J_tout (tgt := 115) (by omega) (by decide) (dk_X7_told 43 _ rfl) ?_
            refine J_ldcw (v := (-10000001)) ct_7_291 (dk_X7_told 115 _ rfl) ?_
            exact J_iret rfl rfl (dk_X7_told 118 _ rfl) ⟨rfl, rfl⟩
set_option maxHeartbeats 4000000 in
set_option maxRecDepth 1000000 in
theorem o_rest (w : Int32) : ∃ rv : Int32, jCt m_X6_rest 12 0 0 [.ref 0, .int w] hN0 (jA (.int rv) 94) ∧ jCt m_X7_rest 12 0 0 [.ref 0, .int w] hM0 (jA (.int rv) 37) := by
  have r_w := w.toInt_lt; have q_w := w.le_toInt
  by_cases c2 : (w : Int32).toInt < 0
  · refine ⟨(-1), ?_, ?_⟩
    · refine jCt_of ok_X6_rest (fun _ _ => Nat.le_of_ble_eq_true rfl) (fun _ _ hq => Nat.le_of_eq (lX.trans hq.2.symm)) ?_
      show J _ _ _ _ _ _ _ _ [(0, .ref 0), (1, .int w)] _ _ _
      refine J_iload_n (i := 1) (a := 1) rfl rfl (dk_X6_rest 0 _ rfl) ?_
      refine J_ifF (tgt := 26) (by decide) (dk_X6_rest 1 _ rfl) (jI_ne (rfl : (w : Int32).toInt = (w : Int32).toInt) (by decide : (0 : Int32).toInt = 0) (by omega)) ?_
      refine J_iload_n (i := 1) (a := 1) rfl rfl (dk_X6_rest 4 _ rfl) ?_
      refine J_bipush (v := 10) (by decide) (dk_X6_rest 5 _ rfl) ?_
      refine J_icT (tgt := 24) (by decide) (dk_X6_rest 7 _ rfl) (jI_lt (rfl : (w : Int32).toInt = (w : Int32).toInt) (by decide : (10 : Int32).toInt = 10) (by omega)) ?_
      refine J_iconst (v := (-1)) (by decide) (dk_X6_rest 24 _ rfl) ?_
      exact J_iret rfl rfl (dk_X6_rest 25 _ rfl) ⟨rfl, rfl⟩
    · refine jCt_of ok_X7_rest (fun _ _ => Nat.le_of_ble_eq_true rfl) (fun _ _ hq => Nat.le_of_eq (lM.trans hq.2.symm)) ?_
      show J _ _ _ _ _ _ _ _ [(0, .ref 0), (1, .int w)] _ _ _
      refine J_iload_n (i := 1) (a := 1) rfl rfl (dk_X7_rest 0 _ rfl) ?_
      refine J_ifF (tgt := 23) (by decide) (dk_X7_rest 1 _ rfl) (jI_ne (rfl : (w : Int32).toInt = (w : Int32).toInt) (by decide : (0 : Int32).toInt = 0) (by omega)) ?_
      refine J_aload_n (i := 0) (a := 0) rfl rfl (dk_X7_rest 4 _ rfl) ?_
      refine J_iload_n (i := 1) (a := 1) rfl rfl (dk_X7_rest 5 _ rfl) ?_
      refine J_bipush (v := 10) (by decide) (dk_X7_rest 6 _ rfl) ?_
      refine J_bipush (v := 9) (by decide) (dk_X7_rest 8 _ rfl) ?_
      refine J_aload_n (i := 0) (a := 0) rfl rfl (dk_X7_rest 10 _ rfl) ?_
      refine J_getf fl_7_7 rfl rfl (dk_X7_rest 11 _ rfl) ?_
      refine J_iaddC (v := 9) (by decide) (dk_X7_rest 14 _ rfl) ?_
      refine J_cV (rv := some (.int 0)) (h' := hM0) (d' := 11) (As := [.int w, .int 10, .int 9]) ok_X7_in vi_X7_in cl_7_194 (n := 3) (by decide +kernel) rfl rfl rfl rfl (by decide) (by decide) (dk_X7_rest 15 _ rfl) ?_ ?_
      · refine jCt_of ok_X7_in (fun _ _ => Nat.le_of_ble_eq_true rfl) (fun _ _ hq => by rw [hq.2]; first | exact Nat.le_refl _ | simp) ?_
        show J _ _ _ _ _ _ _ _ [(0, .ref 0), (1, .int w), (2, .int 10), (3, .int 9)] _ _ _
        refine J_iload_n (i := 1) (a := 1) rfl rfl (dk_X7_in 0 _ rfl) ?_
        refine J_iload_n (i := 2) (a := 2) rfl rfl (dk_X7_in 1 _ rfl) ?_
        refine J_icT (tgt := 14) (by decide) (dk_X7_in 2 _ rfl) (jI_lt (rfl : (w : Int32).toInt = (w : Int32).toInt) (by decide : (10 : Int32).toInt = 10) (by omega)) ?_
        refine J_iconst (v := 0) (by decide) (dk_X7_in 14 _ rfl) ?_
        exact J_iret rfl rfl (dk_X7_in 15 _ rfl) ⟨rfl, rfl⟩
      show J _ _ _ _ _ _ _ _ _ [.int 0] _ _
      refine J_ifF (tgt := 23) (by decide) (dk_X7_rest 18 _ rfl) (fun z => z (jI_eq (by decide : (0 : Int32).toInt = 0) (by decide : (0 : Int32).toInt = 0) (by omega))) ?_
      refine J_iconst (v := (-1)) (by decide) (dk_X7_rest 21 _ rfl) ?_
      exact J_iret rfl rfl (dk_X7_rest 22 _ rfl) ⟨rfl, rfl⟩
  · by_cases c3 : (w : Int32).toInt = 0
    · obtain rfl : w = 0 := jI_eq rfl (by decide) c3
      exact ⟨0, jq2_ct rfl (F := 100000) (d := 12) (mid := 59) (by decide +kernel), jq2_ct rfl (F := 100000) (d := 12) (mid := 152) (by decide +kernel)⟩
    · by_cases c4 : (w : Int32).toInt < 10
      · refine ⟨(-1), ?_, ?_⟩
        · refine jCt_of ok_X6_rest (fun _ _ => Nat.le_of_ble_eq_true rfl) (fun _ _ hq => Nat.le_of_eq (lX.trans hq.2.symm)) ?_
          show J _ _ _ _ _ _ _ _ [(0, .ref 0), (1, .int w)] _ _ _
          refine J_iload_n (i := 1) (a := 1) rfl rfl (dk_X6_rest 0 _ rfl) ?_
          refine J_ifF (tgt := 26) (by decide) (dk_X6_rest 1 _ rfl) (jI_ne (rfl : (w : Int32).toInt = (w : Int32).toInt) (by decide : (0 : Int32).toInt = 0) (by omega)) ?_
          refine J_iload_n (i := 1) (a := 1) rfl rfl (dk_X6_rest 4 _ rfl) ?_
          refine J_bipush (v := 10) (by decide) (dk_X6_rest 5 _ rfl) ?_
          refine J_icT (tgt := 24) (by decide) (dk_X6_rest 7 _ rfl) (jI_lt (rfl : (w : Int32).toInt = (w : Int32).toInt) (by decide : (10 : Int32).toInt = 10) (by omega)) ?_
          refine J_iconst (v := (-1)) (by decide) (dk_X6_rest 24 _ rfl) ?_
          exact J_iret rfl rfl (dk_X6_rest 25 _ rfl) ⟨rfl, rfl⟩
        · refine jCt_of ok_X7_rest (fun _ _ => Nat.le_of_ble_eq_true rfl) (fun _ _ hq => Nat.le_of_eq (lM.trans hq.2.symm)) ?_
          show J _ _ _ _ _ _ _ _ [(0, .ref 0), (1, .int w)] _ _ _
          refine J_iload_n (i := 1) (a := 1) rfl rfl (dk_X7_rest 0 _ rfl) ?_
          refine J_ifF (tgt := 23) (by decide) (dk_X7_rest 1 _ rfl) (jI_ne (rfl : (w : Int32).toInt = (w : Int32).toInt) (by decide : (0 : Int32).toInt = 0) (by omega)) ?_
          refine J_aload_n (i := 0) (a := 0) rfl rfl (dk_X7_rest 4 _ rfl) ?_
          refine J_iload_n (i := 1) (a := 1) rfl rfl (dk_X7_rest 5 _ rfl) ?_
          refine J_bipush (v := 10) (by decide) (dk_X7_rest 6 _ rfl) ?_
          refine J_bipush (v := 9) (by decide) (dk_X7_rest 8 _ rfl) ?_
          refine J_aload_n (i := 0) (a := 0) rfl rfl (dk_X7_rest 10 _ rfl) ?_
          refine J_getf fl_7_7 rfl rfl (dk_X7_rest 11 _ rfl) ?_
          refine J_iaddC (v := 9) (by decide) (dk_X7_rest 14 _ rfl) ?_
          refine J_cV (rv := some (.int 0)) (h' := hM0) (d' := 11) (As := [.int w, .int 10, .int 9]) ok_X7_in vi_X7_in cl_7_194 (n := 3) (by decide +kernel) rfl rfl rfl rfl (by decide) (by decide) (dk_X7_rest 15 _ rfl) ?_ ?_
          · refine jCt_of ok_X7_in (fun _ _ => Nat.le_of_ble_eq_true rfl) (fun _ _ hq => by rw [hq.2]; first | exact Nat.le_refl _ | simp) ?_
            show J _ _ _ _ _ _ _ _ [(0, .ref 0), (1, .int w), (2, .int 10), (3, .int 9)] _ _ _
            refine J_iload_n (i := 1) (a := 1) rfl rfl (dk_X7_in 0 _ rfl) ?_
            refine J_iload_n (i := 2) (a := 2) rfl rfl (dk_X7_in 1 _ rfl) ?_
            refine J_icT (tgt := 14) (by decide) (dk_X7_in 2 _ rfl) (jI_lt (rfl : (w : Int32).toInt = (w : Int32).toInt) (by decide : (10 : Int32).toInt = 10) (by omega)) ?_
            refine J_iconst (v := 0) (by decide) (dk_X7_in 14 _ rfl) ?_
            exact J_iret rfl rfl (dk_X7_in 15 _ rfl) ⟨rfl, rfl⟩
          show J _ _ _ _ _ _ _ _ _ [.int 0] _ _
          refine J_ifF (tgt := 23) (by decide) (dk_X7_rest 18 _ rfl) (fun z => z (jI_eq (by decide : (0 : Int32).toInt = 0) (by decide : (0 : Int32).toInt = 0) (by omega))) ?_
          refine J_iconst (v := (-1)) (by decide) (dk_X7_rest 21 _ rfl) ?_
          exact J_iret rfl rfl (dk_X7_rest 22 _ rfl) ⟨rfl, rfl⟩
      · refine ⟨(-1), ?_, ?_⟩
        · refine jCt_of ok_X6_rest (fun _ _ => Nat.le_of_ble_eq_true rfl) (fun _ _ hq => Nat.le_of_eq (lX.trans hq.2.symm)) ?_
          show J _ _ _ _ _ _ _ _ [(0, .ref 0), (1, .int w)] _ _ _
          refine J_iload_n (i := 1) (a := 1) rfl rfl (dk_X6_rest 0 _ rfl) ?_
          refine J_ifF (tgt := 26) (by decide) (dk_X6_rest 1 _ rfl) (jI_ne (rfl : (w : Int32).toInt = (w : Int32).toInt) (by decide : (0 : Int32).toInt = 0) (by omega)) ?_
          refine J_iload_n (i := 1) (a := 1) rfl rfl (dk_X6_rest 4 _ rfl) ?_
          refine J_bipush (v := 10) (by decide) (dk_X6_rest 5 _ rfl) ?_
          refine J_icF (tgt := 24) (by decide) (dk_X6_rest 7 _ rfl) (jI_nlt (rfl : (w : Int32).toInt = (w : Int32).toInt) (by decide : (10 : Int32).toInt = 10) (by omega)) ?_
          refine J_iload_n (i := 1) (a := 1) rfl rfl (dk_X6_rest 10 _ rfl) ?_
          refine J_bipush (v := 10) (by decide) (dk_X6_rest 11 _ rfl) ?_
          refine J_isub (dk_X6_rest 13 _ rfl) ?_
          have e59_13 : ((w - 10) : Int32).toInt = (w : Int32).toInt - 10 := jI_sub (rfl : (w : Int32).toInt = (w : Int32).toInt) (by decide : (10 : Int32).toInt = 10) (by omega) (by omega)
          refine J_aload_n (i := 0) (a := 0) rfl rfl (dk_X6_rest 14 _ rfl) ?_
          refine J_getf fl_6_47 rfl rfl (dk_X6_rest 15 _ rfl) ?_
          refine J_getf fl_6_71 rfl rfl (dk_X6_rest 18 _ rfl) ?_
          refine J_icF (tgt := 26) (by decide) (dk_X6_rest 21 _ rfl) (jI_nlt (e59_13 : ((w - 10) : Int32).toInt = (w : Int32).toInt - 10) (by decide : (0 : Int32).toInt = 0) (by omega)) ?_
          refine J_iconst (v := (-1)) (by decide) (dk_X6_rest 24 _ rfl) ?_
          exact J_iret rfl rfl (dk_X6_rest 25 _ rfl) ⟨rfl, rfl⟩
        · refine jCt_of ok_X7_rest (fun _ _ => Nat.le_of_ble_eq_true rfl) (fun _ _ hq => Nat.le_of_eq (lM.trans hq.2.symm)) ?_
          show J _ _ _ _ _ _ _ _ [(0, .ref 0), (1, .int w)] _ _ _
          refine J_iload_n (i := 1) (a := 1) rfl rfl (dk_X7_rest 0 _ rfl) ?_
          refine J_ifF (tgt := 23) (by decide) (dk_X7_rest 1 _ rfl) (jI_ne (rfl : (w : Int32).toInt = (w : Int32).toInt) (by decide : (0 : Int32).toInt = 0) (by omega)) ?_
          refine J_aload_n (i := 0) (a := 0) rfl rfl (dk_X7_rest 4 _ rfl) ?_
          refine J_iload_n (i := 1) (a := 1) rfl rfl (dk_X7_rest 5 _ rfl) ?_
          refine J_bipush (v := 10) (by decide) (dk_X7_rest 6 _ rfl) ?_
          refine J_bipush (v := 9) (by decide) (dk_X7_rest 8 _ rfl) ?_
          refine J_aload_n (i := 0) (a := 0) rfl rfl (dk_X7_rest 10 _ rfl) ?_
          refine J_getf fl_7_7 rfl rfl (dk_X7_rest 11 _ rfl) ?_
          refine J_iaddC (v := 9) (by decide) (dk_X7_rest 14 _ rfl) ?_
          refine J_cV (rv := some (.int 0)) (h' := hM0) (d' := 11) (As := [.int w, .int 10, .int 9]) ok_X7_in vi_X7_in cl_7_194 (n := 3) (by decide +kernel) rfl rfl rfl rfl (by decide) (by decide) (dk_X7_rest 15 _ rfl) ?_ ?_
          · refine jCt_of ok_X7_in (fun _ _ => Nat.le_of_ble_eq_true rfl) (fun _ _ hq => by rw [hq.2]; first | exact Nat.le_refl _ | simp) ?_
            show J _ _ _ _ _ _ _ _ [(0, .ref 0), (1, .int w), (2, .int 10), (3, .int 9)] _ _ _
            refine J_iload_n (i := 1) (a := 1) rfl rfl (dk_X7_in 0 _ rfl) ?_
            refine J_iload_n (i := 2) (a := 2) rfl rfl (dk_X7_in 1 _ rfl) ?_
            refine J_icF (tgt := 14) (by decide) (dk_X7_in 2 _ rfl) (jI_nlt (rfl : (w : Int32).toInt = (w : Int32).toInt) (by decide : (10 : Int32).toInt = 10) (by omega)) ?_
            refine J_iload_n (i := 1) (a := 1) rfl rfl (dk_X7_in 5 _ rfl) ?_
            refine J_iload_n (i := 3) (a := 3) rfl rfl (dk_X7_in 6 _ rfl) ?_
            refine J_icT (tgt := 14) (by decide) (dk_X7_in 7 _ rfl) (jI_lt (by decide : (9 : Int32).toInt = 9) (rfl : (w : Int32).toInt = (w : Int32).toInt) (by omega)) ?_
            refine J_iconst (v := 0) (by decide) (dk_X7_in 14 _ rfl) ?_
            exact J_iret rfl rfl (dk_X7_in 15 _ rfl) ⟨rfl, rfl⟩
          show J _ _ _ _ _ _ _ _ _ [.int 0] _ _
          refine J_ifF (tgt := 23) (by decide) (dk_X7_rest 18 _ rfl) (fun z => z (jI_eq (by decide : (0 : Int32).toInt = 0) (by decide : (0 : Int32).toInt = 0) (by omega))) ?_
          refine J_iconst (v := (-1)) (by decide) (dk_X7_rest 21 _ rfl) ?_
          exact J_iret rfl rfl (dk_X7_rest 22 _ rfl) ⟨rfl, rfl⟩
set_option maxHeartbeats 4000000 in
set_option maxRecDepth 1000000 in
theorem o_reckoning (n : Int32) : ∃ rv : Int32, jCt m_X6_reckoning 12 0 0 [.ref 0, .int n] hN0 (jA (.int rv) 94) ∧ jCt m_X7_reckoning 12 0 0 [.ref 0, .int n] hM0 (jA (.int rv) 37) := by
  have r_n := n.toInt_lt; have q_n := n.le_toInt
  by_cases c1 : (n : Int32).toInt < 0
  · refine ⟨(-10000002), ?_, ?_⟩
    · refine jCt_of ok_X6_reckoning (fun _ _ => Nat.le_of_ble_eq_true rfl) (fun _ _ hq => Nat.le_of_eq (lX.trans hq.2.symm)) ?_
      show J _ _ _ _ _ _ _ _ [(0, .ref 0), (1, .int n)] _ _ _
      refine J_iload_n (i := 1) (a := 1) rfl rfl (dk_X6_reckoning 0 _ rfl) ?_
      refine J_cS (rv := some (.int 0)) (h' := hN0) (d' := 11) (As := [.int n]) ok_X6_isDay st_X6_isDay cl_6_67 rfl (n := 1) (by decide +kernel) rfl (by decide) (by decide) (dk_X6_reckoning 1 _ rfl) ?_ ?_
      · refine jCt_of ok_X6_isDay (fun _ _ => Nat.le_of_ble_eq_true rfl) (fun _ _ hq => by rw [hq.2]; first | exact Nat.le_refl _ | simp) ?_
        show J _ _ _ _ _ _ _ _ [(0, .int n)] _ _ _
        refine J_iload_n (i := 0) (a := 0) rfl rfl (dk_X6_isDay 0 _ rfl) ?_
        refine J_ifT (tgt := 14) (by decide) (dk_X6_isDay 1 _ rfl) (jI_lt (rfl : (n : Int32).toInt = (n : Int32).toInt) (by decide : (0 : Int32).toInt = 0) (by omega)) ?_
        refine J_iconst (v := 0) (by decide) (dk_X6_isDay 14 _ rfl) ?_
        exact J_iret rfl rfl (dk_X6_isDay 15 _ rfl) ⟨rfl, rfl⟩
      show J _ _ _ _ _ _ _ _ _ [.int 0] _ _
      refine J_ifF (tgt := 10) (by decide) (dk_X6_reckoning 4 _ rfl) (fun z => z (jI_eq (by decide : (0 : Int32).toInt = 0) (by decide : (0 : Int32).toInt = 0) (by omega))) ?_
      refine J_ldc (v := (-10000002)) ct_6_178 (dk_X6_reckoning 7 _ rfl) ?_
      exact J_iret rfl rfl (dk_X6_reckoning 9 _ rfl) ⟨rfl, rfl⟩
    · refine jCt_of ok_X7_reckoning (fun _ _ => Nat.le_of_ble_eq_true rfl) (fun _ _ hq => Nat.le_of_eq (lM.trans hq.2.symm)) ?_
      show J _ _ _ _ _ _ _ _ [(0, .ref 0), (1, .int n)] _ _ _
      refine J_aload_n (i := 0) (a := 0) rfl rfl (dk_X7_reckoning 0 _ rfl) ?_
      refine J_iload_n (i := 1) (a := 1) rfl rfl (dk_X7_reckoning 1 _ rfl) ?_
      refine J_iconst (v := 0) (by decide) (dk_X7_reckoning 2 _ rfl) ?_
      refine J_bipush (v := 11) (by decide) (dk_X7_reckoning 3 _ rfl) ?_
      refine J_cV (rv := some (.int 0)) (h' := hM0) (d' := 11) (As := [.int n, .int 0, .int 11]) ok_X7_in vi_X7_in cl_7_194 (n := 3) (by decide +kernel) rfl rfl rfl rfl (by decide) (by decide) (dk_X7_reckoning 5 _ rfl) ?_ ?_
      · refine jCt_of ok_X7_in (fun _ _ => Nat.le_of_ble_eq_true rfl) (fun _ _ hq => by rw [hq.2]; first | exact Nat.le_refl _ | simp) ?_
        show J _ _ _ _ _ _ _ _ [(0, .ref 0), (1, .int n), (2, .int 0), (3, .int 11)] _ _ _
        refine J_iload_n (i := 1) (a := 1) rfl rfl (dk_X7_in 0 _ rfl) ?_
        refine J_iload_n (i := 2) (a := 2) rfl rfl (dk_X7_in 1 _ rfl) ?_
        refine J_icT (tgt := 14) (by decide) (dk_X7_in 2 _ rfl) (jI_lt (rfl : (n : Int32).toInt = (n : Int32).toInt) (by decide : (0 : Int32).toInt = 0) (by omega)) ?_
        refine J_iconst (v := 0) (by decide) (dk_X7_in 14 _ rfl) ?_
        exact J_iret rfl rfl (dk_X7_in 15 _ rfl) ⟨rfl, rfl⟩
      show J _ _ _ _ _ _ _ _ _ [.int 0] _ _
      refine J_ifF (tgt := 15) (by decide) (dk_X7_reckoning 8 _ rfl) (fun z => z (jI_eq (by decide : (0 : Int32).toInt = 0) (by decide : (0 : Int32).toInt = 0) (by omega))) ?_
      refine J_ldcw (v := (-10000002)) ct_7_313 (dk_X7_reckoning 11 _ rfl) ?_
      exact J_iret rfl rfl (dk_X7_reckoning 14 _ rfl) ⟨rfl, rfl⟩
  · by_cases c2 : (n : Int32).toInt < 12
    · by_cases c3 : (n : Int32).toInt = 0
      · obtain rfl : n = 0 := jI_eq rfl (by decide) c3
        exact ⟨0, jq2_ct rfl (F := 100000) (d := 12) (mid := 60) (by decide +kernel), jq2_ct rfl (F := 100000) (d := 12) (mid := 154) (by decide +kernel)⟩
      · by_cases c4 : (n : Int32).toInt = 1
        · obtain rfl : n = 1 := jI_eq rfl (by decide) c4
          exact ⟨0, jq2_ct rfl (F := 100000) (d := 12) (mid := 60) (by decide +kernel), jq2_ct rfl (F := 100000) (d := 12) (mid := 154) (by decide +kernel)⟩
        · by_cases c5 : (n : Int32).toInt = 2
          · obtain rfl : n = 2 := jI_eq rfl (by decide) c5
            exact ⟨0, jq2_ct rfl (F := 100000) (d := 12) (mid := 60) (by decide +kernel), jq2_ct rfl (F := 100000) (d := 12) (mid := 154) (by decide +kernel)⟩
          · by_cases c6 : (n : Int32).toInt = 3
            · obtain rfl : n = 3 := jI_eq rfl (by decide) c6
              exact ⟨0, jq2_ct rfl (F := 100000) (d := 12) (mid := 60) (by decide +kernel), jq2_ct rfl (F := 100000) (d := 12) (mid := 154) (by decide +kernel)⟩
            · by_cases c7 : (n : Int32).toInt = 4
              · obtain rfl : n = 4 := jI_eq rfl (by decide) c7
                exact ⟨0, jq2_ct rfl (F := 100000) (d := 12) (mid := 60) (by decide +kernel), jq2_ct rfl (F := 100000) (d := 12) (mid := 154) (by decide +kernel)⟩
              · by_cases c8 : (n : Int32).toInt = 5
                · obtain rfl : n = 5 := jI_eq rfl (by decide) c8
                  exact ⟨0, jq2_ct rfl (F := 100000) (d := 12) (mid := 60) (by decide +kernel), jq2_ct rfl (F := 100000) (d := 12) (mid := 154) (by decide +kernel)⟩
                · by_cases c9 : (n : Int32).toInt = 6
                  · obtain rfl : n = 6 := jI_eq rfl (by decide) c9
                    exact ⟨0, jq2_ct rfl (F := 100000) (d := 12) (mid := 60) (by decide +kernel), jq2_ct rfl (F := 100000) (d := 12) (mid := 154) (by decide +kernel)⟩
                  · by_cases c10 : (n : Int32).toInt = 7
                    · obtain rfl : n = 7 := jI_eq rfl (by decide) c10
                      exact ⟨0, jq2_ct rfl (F := 100000) (d := 12) (mid := 60) (by decide +kernel), jq2_ct rfl (F := 100000) (d := 12) (mid := 154) (by decide +kernel)⟩
                    · by_cases c11 : (n : Int32).toInt = 8
                      · obtain rfl : n = 8 := jI_eq rfl (by decide) c11
                        exact ⟨0, jq2_ct rfl (F := 100000) (d := 12) (mid := 60) (by decide +kernel), jq2_ct rfl (F := 100000) (d := 12) (mid := 154) (by decide +kernel)⟩
                      · by_cases c12 : (n : Int32).toInt = 9
                        · obtain rfl : n = 9 := jI_eq rfl (by decide) c12
                          exact ⟨0, jq2_ct rfl (F := 100000) (d := 12) (mid := 60) (by decide +kernel), jq2_ct rfl (F := 100000) (d := 12) (mid := 154) (by decide +kernel)⟩
                        · by_cases c13 : (n : Int32).toInt = 10
                          · obtain rfl : n = 10 := jI_eq rfl (by decide) c13
                            exact ⟨0, jq2_ct rfl (F := 100000) (d := 12) (mid := 60) (by decide +kernel), jq2_ct rfl (F := 100000) (d := 12) (mid := 154) (by decide +kernel)⟩
                          · obtain rfl : n = 11 := jI_eq rfl (by decide) (by omega : (n : Int32).toInt = 11)
                            exact ⟨0, jq2_ct rfl (F := 100000) (d := 12) (mid := 60) (by decide +kernel), jq2_ct rfl (F := 100000) (d := 12) (mid := 154) (by decide +kernel)⟩
    · refine ⟨(-10000002), ?_, ?_⟩
      · refine jCt_of ok_X6_reckoning (fun _ _ => Nat.le_of_ble_eq_true rfl) (fun _ _ hq => Nat.le_of_eq (lX.trans hq.2.symm)) ?_
        show J _ _ _ _ _ _ _ _ [(0, .ref 0), (1, .int n)] _ _ _
        refine J_iload_n (i := 1) (a := 1) rfl rfl (dk_X6_reckoning 0 _ rfl) ?_
        refine J_cS (rv := some (.int 0)) (h' := hN0) (d' := 11) (As := [.int n]) ok_X6_isDay st_X6_isDay cl_6_67 rfl (n := 1) (by decide +kernel) rfl (by decide) (by decide) (dk_X6_reckoning 1 _ rfl) ?_ ?_
        · refine jCt_of ok_X6_isDay (fun _ _ => Nat.le_of_ble_eq_true rfl) (fun _ _ hq => by rw [hq.2]; first | exact Nat.le_refl _ | simp) ?_
          show J _ _ _ _ _ _ _ _ [(0, .int n)] _ _ _
          refine J_iload_n (i := 0) (a := 0) rfl rfl (dk_X6_isDay 0 _ rfl) ?_
          refine J_ifF (tgt := 14) (by decide) (dk_X6_isDay 1 _ rfl) (jI_nlt (rfl : (n : Int32).toInt = (n : Int32).toInt) (by decide : (0 : Int32).toInt = 0) (by omega)) ?_
          refine J_iload_n (i := 0) (a := 0) rfl rfl (dk_X6_isDay 4 _ rfl) ?_
          refine J_bipush (v := 12) (by decide) (dk_X6_isDay 5 _ rfl) ?_
          refine J_icT (tgt := 14) (by decide) (dk_X6_isDay 7 _ rfl) (jI_le (by decide : (12 : Int32).toInt = 12) (rfl : (n : Int32).toInt = (n : Int32).toInt) (by omega)) ?_
          refine J_iconst (v := 0) (by decide) (dk_X6_isDay 14 _ rfl) ?_
          exact J_iret rfl rfl (dk_X6_isDay 15 _ rfl) ⟨rfl, rfl⟩
        show J _ _ _ _ _ _ _ _ _ [.int 0] _ _
        refine J_ifF (tgt := 10) (by decide) (dk_X6_reckoning 4 _ rfl) (fun z => z (jI_eq (by decide : (0 : Int32).toInt = 0) (by decide : (0 : Int32).toInt = 0) (by omega))) ?_
        refine J_ldc (v := (-10000002)) ct_6_178 (dk_X6_reckoning 7 _ rfl) ?_
        exact J_iret rfl rfl (dk_X6_reckoning 9 _ rfl) ⟨rfl, rfl⟩
      · refine jCt_of ok_X7_reckoning (fun _ _ => Nat.le_of_ble_eq_true rfl) (fun _ _ hq => Nat.le_of_eq (lM.trans hq.2.symm)) ?_
        show J _ _ _ _ _ _ _ _ [(0, .ref 0), (1, .int n)] _ _ _
        refine J_aload_n (i := 0) (a := 0) rfl rfl (dk_X7_reckoning 0 _ rfl) ?_
        refine J_iload_n (i := 1) (a := 1) rfl rfl (dk_X7_reckoning 1 _ rfl) ?_
        refine J_iconst (v := 0) (by decide) (dk_X7_reckoning 2 _ rfl) ?_
        refine J_bipush (v := 11) (by decide) (dk_X7_reckoning 3 _ rfl) ?_
        refine J_cV (rv := some (.int 0)) (h' := hM0) (d' := 11) (As := [.int n, .int 0, .int 11]) ok_X7_in vi_X7_in cl_7_194 (n := 3) (by decide +kernel) rfl rfl rfl rfl (by decide) (by decide) (dk_X7_reckoning 5 _ rfl) ?_ ?_
        · refine jCt_of ok_X7_in (fun _ _ => Nat.le_of_ble_eq_true rfl) (fun _ _ hq => by rw [hq.2]; first | exact Nat.le_refl _ | simp) ?_
          show J _ _ _ _ _ _ _ _ [(0, .ref 0), (1, .int n), (2, .int 0), (3, .int 11)] _ _ _
          refine J_iload_n (i := 1) (a := 1) rfl rfl (dk_X7_in 0 _ rfl) ?_
          refine J_iload_n (i := 2) (a := 2) rfl rfl (dk_X7_in 1 _ rfl) ?_
          refine J_icF (tgt := 14) (by decide) (dk_X7_in 2 _ rfl) (jI_nlt (rfl : (n : Int32).toInt = (n : Int32).toInt) (by decide : (0 : Int32).toInt = 0) (by omega)) ?_
          refine J_iload_n (i := 1) (a := 1) rfl rfl (dk_X7_in 5 _ rfl) ?_
          refine J_iload_n (i := 3) (a := 3) rfl rfl (dk_X7_in 6 _ rfl) ?_
          refine J_icT (tgt := 14) (by decide) (dk_X7_in 7 _ rfl) (jI_lt (by decide : (11 : Int32).toInt = 11) (rfl : (n : Int32).toInt = (n : Int32).toInt) (by omega)) ?_
          refine J_iconst (v := 0) (by decide) (dk_X7_in 14 _ rfl) ?_
          exact J_iret rfl rfl (dk_X7_in 15 _ rfl) ⟨rfl, rfl⟩
        show J _ _ _ _ _ _ _ _ _ [.int 0] _ _
        refine J_ifF (tgt := 15) (by decide) (dk_X7_reckoning 8 _ rfl) (fun z => z (jI_eq (by decide : (0 : Int32).toInt = 0) (by decide : (0 : Int32).toInt = 0) (by omega))) ?_
        refine J_ldcw (v := (-10000002)) ct_7_313 (dk_X7_reckoning 11 _ rfl) ?_
        exact J_iret rfl rfl (dk_X7_reckoning 14 _ rfl) ⟨rfl, rfl⟩
set_option maxHeartbeats 4000000 in
set_option maxRecDepth 1000000 in
theorem o_mean (w : Int32) : ∃ rv : Int64, jCt m_X6_mean 12 0 0 [.ref 0, .int w] hN0 (jA (.long rv) 94) ∧ jCt m_X7_mean 12 0 0 [.ref 0, .int w] hM0 (jA (.long rv) 37) := by
  have r_w := w.toInt_lt; have q_w := w.le_toInt
  by_cases c1 : (w : Int32).toInt < 0
  · refine ⟨(-9223372036854775808), ?_, ?_⟩
    · refine jCt_of ok_X6_mean (fun _ _ => Nat.le_of_ble_eq_true rfl) (fun _ _ hq => Nat.le_of_eq (lX.trans hq.2.symm)) ?_
      show J _ _ _ _ _ _ _ _ [(0, .ref 0), (1, .int w)] _ _ _
      refine J_iconst (v := 0) (by decide) (dk_X6_mean 0 _ rfl) ?_
      refine J_istore_n (i := 2) (a := 2) rfl (by decide) (dk_X6_mean 1 _ rfl) ?_
      show J _ _ _ _ _ _ _ _ [(2, .int 0), (0, .ref 0), (1, .int w)] _ _ _
      refine J_iconst (v := 0) (by decide) (dk_X6_mean 2 _ rfl) ?_
      refine J_istore_n (i := 3) (a := 3) rfl (by decide) (dk_X6_mean 3 _ rfl) ?_
      show J _ _ _ _ _ _ _ _ [(3, .int 0), (2, .int 0), (0, .ref 0), (1, .int w)] _ _ _
      refine J_iload_n (i := 3) (a := 3) rfl rfl (dk_X6_mean 4 _ rfl) ?_
      refine J_aload_n (i := 0) (a := 0) rfl rfl (dk_X6_mean 5 _ rfl) ?_
      refine J_getf fl_6_47 rfl rfl (dk_X6_mean 6 _ rfl) ?_
      refine J_getf fl_6_71 rfl rfl (dk_X6_mean 9 _ rfl) ?_
      refine J_icT (tgt := 36) (by decide) (dk_X6_mean 12 _ rfl) (jI_le (by decide : (0 : Int32).toInt = 0) (by decide : (0 : Int32).toInt = 0) (by omega)) ?_
      refine J_aload_n (i := 0) (a := 0) rfl rfl (dk_X6_mean 36 _ rfl) ?_
      refine J_aload_n (i := 0) (a := 0) rfl rfl (dk_X6_mean 37 _ rfl) ?_
      refine J_getf fl_6_47 rfl rfl (dk_X6_mean 38 _ rfl) ?_
      refine J_aload_n (i := 0) (a := 0) rfl rfl (dk_X6_mean 41 _ rfl) ?_
      refine J_getf fl_6_47 rfl rfl (dk_X6_mean 42 _ rfl) ?_
      refine J_getf fl_6_83 rfl rfl (dk_X6_mean 45 _ rfl) ?_
      refine J_getf fl_6_87 rfl rfl (dk_X6_mean 48 _ rfl) ?_
      refine J_cV (rv := none) (h' := hC6_1) (d' := 11) (As := [.ref 14, .int 10]) ok_X6_goYear vi_X6_goYear cl_6_182 (n := 2) (by decide +kernel) rfl rfl rfl rfl (by decide) (by decide) (dk_X6_mean 51 _ rfl) (jev_ct (M := m_X6_goYear) rfl rc6_1) ?_
      show J _ _ _ _ _ _ _ _ _ [] _ _
      refine J_aload_n (i := 0) (a := 0) rfl rfl (dk_X6_mean 54 _ rfl) ?_
      refine J_aload_n (i := 0) (a := 0) rfl rfl (dk_X6_mean 55 _ rfl) ?_
      refine J_getf fl_6_47 rfl rfl (dk_X6_mean 56 _ rfl) ?_
      refine J_iconst (v := (-1)) (by decide) (dk_X6_mean 59 _ rfl) ?_
      refine J_cV (rv := some (.int 0)) (h' := hC6_1) (d' := 11) (As := [.ref 14, .int (-1)]) ok_X6_gainOfOthers vi_X6_gainOfOthers cl_6_199 (n := 2) (by decide +kernel) rfl rfl rfl rfl (by decide) (by decide) (dk_X6_mean 60 _ rfl) ?_ ?_
      · refine jCt_of ok_X6_gainOfOthers (fun _ _ => Nat.le_of_ble_eq_true rfl) (fun _ _ hq => by rw [hq.2]; first | exact Nat.le_refl _ | simp) ?_
        show J _ _ _ _ _ _ _ _ [(0, .ref 0), (1, .ref 14), (2, .int (-1))] _ _ _
        refine J_iconst (v := 0) (by decide) (dk_X6_gainOfOthers 0 _ rfl) ?_
        refine J_istore_n (i := 3) (a := 3) rfl (by decide) (dk_X6_gainOfOthers 1 _ rfl) ?_
        show J _ _ _ _ _ _ _ _ [(3, .int 0), (0, .ref 0), (1, .ref 14), (2, .int (-1))] _ _ _
        refine J_iconst (v := 0) (by decide) (dk_X6_gainOfOthers 2 _ rfl) ?_
        refine J_istore (i := 4) (by decide) (dk_X6_gainOfOthers 3 _ rfl) ?_
        show J _ _ _ _ _ _ _ _ [(4, .int 0), (3, .int 0), (0, .ref 0), (1, .ref 14), (2, .int (-1))] _ _ _
        refine J_iload (i := 4) rfl (dk_X6_gainOfOthers 5 _ rfl) ?_
        refine J_aload_n (i := 1) (a := 1) rfl rfl (dk_X6_gainOfOthers 7 _ rfl) ?_
        refine J_getf fl_6_71 rfl rfl (dk_X6_gainOfOthers 8 _ rfl) ?_
        refine J_icT (tgt := 49) (by decide) (dk_X6_gainOfOthers 11 _ rfl) (jI_le (by decide : (0 : Int32).toInt = 0) (by decide : (0 : Int32).toInt = 0) (by omega)) ?_
        refine J_iload_n (i := 3) (a := 3) rfl rfl (dk_X6_gainOfOthers 49 _ rfl) ?_
        exact J_iret rfl rfl (dk_X6_gainOfOthers 50 _ rfl) ⟨rfl, rfl⟩
      show J _ _ _ _ _ _ _ _ _ [.int 0] _ _
      refine J_iload_n (i := 2) (a := 2) rfl rfl (dk_X6_mean 63 _ rfl) ?_
      refine J_iload_n (i := 1) (a := 1) rfl rfl (dk_X6_mean 64 _ rfl) ?_
      refine J_cS (rv := some (.long (-9223372036854775808))) (h' := hC6_1) (d' := 11) (As := [.int 0, .int 0, .int w]) ok_X6_fraction st_X6_fraction cl_6_205 rfl (n := 3) (by decide +kernel) rfl (by decide) (by decide) (dk_X6_mean 65 _ rfl) ?_ ?_
      · refine jCt_of ok_X6_fraction (fun _ _ => Nat.le_of_ble_eq_true rfl) (fun _ _ hq => by rw [hq.2]; first | exact Nat.le_refl _ | simp) ?_
        show J _ _ _ _ _ _ _ _ [(0, .int 0), (1, .int 0), (2, .int w)] _ _ _
        refine J_iload_n (i := 1) (a := 1) rfl rfl (dk_X6_fraction 0 _ rfl) ?_
        refine J_ifT (tgt := 13) (by decide) (dk_X6_fraction 1 _ rfl) (jI_le (by decide : (0 : Int32).toInt = 0) (by decide : (0 : Int32).toInt = 0) (by omega)) ?_
        refine J_ldc2 (v := (-9223372036854775808)) ctl_6_203 (dk_X6_fraction 13 _ rfl) ?_
        exact J_lret rfl (dk_X6_fraction 16 _ rfl) ⟨rfl, rfl⟩
      show J _ _ _ _ _ _ _ _ _ [.long (-9223372036854775808)] _ _
      exact J_lret rfl (dk_X6_mean 68 _ rfl) ⟨rfl, rfl⟩
    · refine jCt_of ok_X7_mean (fun _ _ => Nat.le_of_ble_eq_true rfl) (fun _ _ hq => Nat.le_of_eq (lM.trans hq.2.symm)) ?_
      show J _ _ _ _ _ _ _ _ [(0, .ref 0), (1, .int w)] _ _ _
      refine J_aload_n (i := 0) (a := 0) rfl rfl (dk_X7_mean 0 _ rfl) ?_
      refine J_iload_n (i := 1) (a := 1) rfl rfl (dk_X7_mean 1 _ rfl) ?_
      refine J_iconst (v := 0) (by decide) (dk_X7_mean 2 _ rfl) ?_
      refine J_iconst (v := 1) (by decide) (dk_X7_mean 3 _ rfl) ?_
      refine J_cV (rv := some (.int 0)) (h' := hM0) (d' := 11) (As := [.int w, .int 0, .int 1]) ok_X7_in vi_X7_in cl_7_194 (n := 3) (by decide +kernel) rfl rfl rfl rfl (by decide) (by decide) (dk_X7_mean 4 _ rfl) ?_ ?_
      · refine jCt_of ok_X7_in (fun _ _ => Nat.le_of_ble_eq_true rfl) (fun _ _ hq => by rw [hq.2]; first | exact Nat.le_refl _ | simp) ?_
        show J _ _ _ _ _ _ _ _ [(0, .ref 0), (1, .int w), (2, .int 0), (3, .int 1)] _ _ _
        refine J_iload_n (i := 1) (a := 1) rfl rfl (dk_X7_in 0 _ rfl) ?_
        refine J_iload_n (i := 2) (a := 2) rfl rfl (dk_X7_in 1 _ rfl) ?_
        refine J_icT (tgt := 14) (by decide) (dk_X7_in 2 _ rfl) (jI_lt (rfl : (w : Int32).toInt = (w : Int32).toInt) (by decide : (0 : Int32).toInt = 0) (by omega)) ?_
        refine J_iconst (v := 0) (by decide) (dk_X7_in 14 _ rfl) ?_
        exact J_iret rfl rfl (dk_X7_in 15 _ rfl) ⟨rfl, rfl⟩
      show J _ _ _ _ _ _ _ _ _ [.int 0] _ _
      refine J_ifF (tgt := 14) (by decide) (dk_X7_mean 7 _ rfl) (fun z => z (jI_eq (by decide : (0 : Int32).toInt = 0) (by decide : (0 : Int32).toInt = 0) (by omega))) ?_
      refine J_ldc2 (v := (-9223372036854775808)) ctl_7_345 (dk_X7_mean 10 _ rfl) ?_
      exact J_lret rfl (dk_X7_mean 13 _ rfl) ⟨rfl, rfl⟩
  · by_cases c2 : (w : Int32).toInt < 2
    · refine ⟨(-9223372036854775808), ?_, ?_⟩
      · refine jCt_of ok_X6_mean (fun _ _ => Nat.le_of_ble_eq_true rfl) (fun _ _ hq => Nat.le_of_eq (lX.trans hq.2.symm)) ?_
        show J _ _ _ _ _ _ _ _ [(0, .ref 0), (1, .int w)] _ _ _
        refine J_iconst (v := 0) (by decide) (dk_X6_mean 0 _ rfl) ?_
        refine J_istore_n (i := 2) (a := 2) rfl (by decide) (dk_X6_mean 1 _ rfl) ?_
        show J _ _ _ _ _ _ _ _ [(2, .int 0), (0, .ref 0), (1, .int w)] _ _ _
        refine J_iconst (v := 0) (by decide) (dk_X6_mean 2 _ rfl) ?_
        refine J_istore_n (i := 3) (a := 3) rfl (by decide) (dk_X6_mean 3 _ rfl) ?_
        show J _ _ _ _ _ _ _ _ [(3, .int 0), (2, .int 0), (0, .ref 0), (1, .int w)] _ _ _
        refine J_iload_n (i := 3) (a := 3) rfl rfl (dk_X6_mean 4 _ rfl) ?_
        refine J_aload_n (i := 0) (a := 0) rfl rfl (dk_X6_mean 5 _ rfl) ?_
        refine J_getf fl_6_47 rfl rfl (dk_X6_mean 6 _ rfl) ?_
        refine J_getf fl_6_71 rfl rfl (dk_X6_mean 9 _ rfl) ?_
        refine J_icT (tgt := 36) (by decide) (dk_X6_mean 12 _ rfl) (jI_le (by decide : (0 : Int32).toInt = 0) (by decide : (0 : Int32).toInt = 0) (by omega)) ?_
        refine J_aload_n (i := 0) (a := 0) rfl rfl (dk_X6_mean 36 _ rfl) ?_
        refine J_aload_n (i := 0) (a := 0) rfl rfl (dk_X6_mean 37 _ rfl) ?_
        refine J_getf fl_6_47 rfl rfl (dk_X6_mean 38 _ rfl) ?_
        refine J_aload_n (i := 0) (a := 0) rfl rfl (dk_X6_mean 41 _ rfl) ?_
        refine J_getf fl_6_47 rfl rfl (dk_X6_mean 42 _ rfl) ?_
        refine J_getf fl_6_83 rfl rfl (dk_X6_mean 45 _ rfl) ?_
        refine J_getf fl_6_87 rfl rfl (dk_X6_mean 48 _ rfl) ?_
        refine J_cV (rv := none) (h' := hC6_1) (d' := 11) (As := [.ref 14, .int 10]) ok_X6_goYear vi_X6_goYear cl_6_182 (n := 2) (by decide +kernel) rfl rfl rfl rfl (by decide) (by decide) (dk_X6_mean 51 _ rfl) (jev_ct (M := m_X6_goYear) rfl rc6_1) ?_
        show J _ _ _ _ _ _ _ _ _ [] _ _
        refine J_aload_n (i := 0) (a := 0) rfl rfl (dk_X6_mean 54 _ rfl) ?_
        refine J_aload_n (i := 0) (a := 0) rfl rfl (dk_X6_mean 55 _ rfl) ?_
        refine J_getf fl_6_47 rfl rfl (dk_X6_mean 56 _ rfl) ?_
        refine J_iconst (v := (-1)) (by decide) (dk_X6_mean 59 _ rfl) ?_
        refine J_cV (rv := some (.int 0)) (h' := hC6_1) (d' := 11) (As := [.ref 14, .int (-1)]) ok_X6_gainOfOthers vi_X6_gainOfOthers cl_6_199 (n := 2) (by decide +kernel) rfl rfl rfl rfl (by decide) (by decide) (dk_X6_mean 60 _ rfl) ?_ ?_
        · refine jCt_of ok_X6_gainOfOthers (fun _ _ => Nat.le_of_ble_eq_true rfl) (fun _ _ hq => by rw [hq.2]; first | exact Nat.le_refl _ | simp) ?_
          show J _ _ _ _ _ _ _ _ [(0, .ref 0), (1, .ref 14), (2, .int (-1))] _ _ _
          refine J_iconst (v := 0) (by decide) (dk_X6_gainOfOthers 0 _ rfl) ?_
          refine J_istore_n (i := 3) (a := 3) rfl (by decide) (dk_X6_gainOfOthers 1 _ rfl) ?_
          show J _ _ _ _ _ _ _ _ [(3, .int 0), (0, .ref 0), (1, .ref 14), (2, .int (-1))] _ _ _
          refine J_iconst (v := 0) (by decide) (dk_X6_gainOfOthers 2 _ rfl) ?_
          refine J_istore (i := 4) (by decide) (dk_X6_gainOfOthers 3 _ rfl) ?_
          show J _ _ _ _ _ _ _ _ [(4, .int 0), (3, .int 0), (0, .ref 0), (1, .ref 14), (2, .int (-1))] _ _ _
          refine J_iload (i := 4) rfl (dk_X6_gainOfOthers 5 _ rfl) ?_
          refine J_aload_n (i := 1) (a := 1) rfl rfl (dk_X6_gainOfOthers 7 _ rfl) ?_
          refine J_getf fl_6_71 rfl rfl (dk_X6_gainOfOthers 8 _ rfl) ?_
          refine J_icT (tgt := 49) (by decide) (dk_X6_gainOfOthers 11 _ rfl) (jI_le (by decide : (0 : Int32).toInt = 0) (by decide : (0 : Int32).toInt = 0) (by omega)) ?_
          refine J_iload_n (i := 3) (a := 3) rfl rfl (dk_X6_gainOfOthers 49 _ rfl) ?_
          exact J_iret rfl rfl (dk_X6_gainOfOthers 50 _ rfl) ⟨rfl, rfl⟩
        show J _ _ _ _ _ _ _ _ _ [.int 0] _ _
        refine J_iload_n (i := 2) (a := 2) rfl rfl (dk_X6_mean 63 _ rfl) ?_
        refine J_iload_n (i := 1) (a := 1) rfl rfl (dk_X6_mean 64 _ rfl) ?_
        refine J_cS (rv := some (.long (-9223372036854775808))) (h' := hC6_1) (d' := 11) (As := [.int 0, .int 0, .int w]) ok_X6_fraction st_X6_fraction cl_6_205 rfl (n := 3) (by decide +kernel) rfl (by decide) (by decide) (dk_X6_mean 65 _ rfl) ?_ ?_
        · refine jCt_of ok_X6_fraction (fun _ _ => Nat.le_of_ble_eq_true rfl) (fun _ _ hq => by rw [hq.2]; first | exact Nat.le_refl _ | simp) ?_
          show J _ _ _ _ _ _ _ _ [(0, .int 0), (1, .int 0), (2, .int w)] _ _ _
          refine J_iload_n (i := 1) (a := 1) rfl rfl (dk_X6_fraction 0 _ rfl) ?_
          refine J_ifT (tgt := 13) (by decide) (dk_X6_fraction 1 _ rfl) (jI_le (by decide : (0 : Int32).toInt = 0) (by decide : (0 : Int32).toInt = 0) (by omega)) ?_
          refine J_ldc2 (v := (-9223372036854775808)) ctl_6_203 (dk_X6_fraction 13 _ rfl) ?_
          exact J_lret rfl (dk_X6_fraction 16 _ rfl) ⟨rfl, rfl⟩
        show J _ _ _ _ _ _ _ _ _ [.long (-9223372036854775808)] _ _
        exact J_lret rfl (dk_X6_mean 68 _ rfl) ⟨rfl, rfl⟩
      · refine jCt_of ok_X7_mean (fun _ _ => Nat.le_of_ble_eq_true rfl) (fun _ _ hq => Nat.le_of_eq (lM.trans hq.2.symm)) ?_
        show J _ _ _ _ _ _ _ _ [(0, .ref 0), (1, .int w)] _ _ _
        refine J_aload_n (i := 0) (a := 0) rfl rfl (dk_X7_mean 0 _ rfl) ?_
        refine J_iload_n (i := 1) (a := 1) rfl rfl (dk_X7_mean 1 _ rfl) ?_
        refine J_iconst (v := 0) (by decide) (dk_X7_mean 2 _ rfl) ?_
        refine J_iconst (v := 1) (by decide) (dk_X7_mean 3 _ rfl) ?_
        refine J_cV (rv := some (.int 1)) (h' := hM0) (d' := 11) (As := [.int w, .int 0, .int 1]) ok_X7_in vi_X7_in cl_7_194 (n := 3) (by decide +kernel) rfl rfl rfl rfl (by decide) (by decide) (dk_X7_mean 4 _ rfl) ?_ ?_
        · refine jCt_of ok_X7_in (fun _ _ => Nat.le_of_ble_eq_true rfl) (fun _ _ hq => by rw [hq.2]; first | exact Nat.le_refl _ | simp) ?_
          show J _ _ _ _ _ _ _ _ [(0, .ref 0), (1, .int w), (2, .int 0), (3, .int 1)] _ _ _
          refine J_iload_n (i := 1) (a := 1) rfl rfl (dk_X7_in 0 _ rfl) ?_
          refine J_iload_n (i := 2) (a := 2) rfl rfl (dk_X7_in 1 _ rfl) ?_
          refine J_icF (tgt := 14) (by decide) (dk_X7_in 2 _ rfl) (jI_nlt (rfl : (w : Int32).toInt = (w : Int32).toInt) (by decide : (0 : Int32).toInt = 0) (by omega)) ?_
          refine J_iload_n (i := 1) (a := 1) rfl rfl (dk_X7_in 5 _ rfl) ?_
          refine J_iload_n (i := 3) (a := 3) rfl rfl (dk_X7_in 6 _ rfl) ?_
          refine J_icF (tgt := 14) (by decide) (dk_X7_in 7 _ rfl) (jI_nlt (by decide : (1 : Int32).toInt = 1) (rfl : (w : Int32).toInt = (w : Int32).toInt) (by omega)) ?_
          refine J_iconst (v := 1) (by decide) (dk_X7_in 10 _ rfl) ?_
          refine J_goto (tgt := 15) (by decide) (dk_X7_in 11 _ rfl) ?_
          exact J_iret rfl rfl (dk_X7_in 15 _ rfl) ⟨rfl, rfl⟩
        show J _ _ _ _ _ _ _ _ _ [.int 1] _ _
        refine J_ifT (tgt := 14) (by decide) (dk_X7_mean 7 _ rfl) (jI_ne (by decide : (1 : Int32).toInt = 1) (by decide : (0 : Int32).toInt = 0) (by omega)) ?_
        refine J_iconst (v := 0) (by decide) (dk_X7_mean 14 _ rfl) ?_
        refine J_istore_n (i := 2) (a := 2) rfl (by decide) (dk_X7_mean 15 _ rfl) ?_
        show J _ _ _ _ _ _ _ _ [(2, .int 0), (0, .ref 0), (1, .int w)] _ _ _
        refine J_iconst (v := 0) (by decide) (dk_X7_mean 16 _ rfl) ?_
        refine J_istore_n (i := 3) (a := 3) rfl (by decide) (dk_X7_mean 17 _ rfl) ?_
        show J _ _ _ _ _ _ _ _ [(3, .int 0), (2, .int 0), (0, .ref 0), (1, .int w)] _ _ _
        refine J_iload_n (i := 3) (a := 3) rfl rfl (dk_X7_mean 18 _ rfl) ?_
        refine J_aload_n (i := 0) (a := 0) rfl rfl (dk_X7_mean 19 _ rfl) ?_
        refine J_getf fl_7_7 rfl rfl (dk_X7_mean 20 _ rfl) ?_
        refine J_icT (tgt := 49) (by decide) (dk_X7_mean 23 _ rfl) (jI_le (by decide : (0 : Int32).toInt = 0) (by decide : (0 : Int32).toInt = 0) (by omega)) ?_
        refine J_iload_n (i := 2) (a := 2) rfl rfl (dk_X7_mean 49 _ rfl) ?_
        refine J_ifF (tgt := 59) (by decide) (dk_X7_mean 50 _ rfl) (fun z => z (jI_eq (by decide : (0 : Int32).toInt = 0) (by decide : (0 : Int32).toInt = 0) (by omega))) ?_
        refine J_ldc2 (v := (-9223372036854775808)) ctl_7_345 (dk_X7_mean 53 _ rfl) ?_
        refine J_goto (tgt := 69) (by decide) (dk_X7_mean 56 _ rfl) ?_
        exact J_lret rfl (dk_X7_mean 69 _ rfl) ⟨rfl, rfl⟩
    · refine ⟨(-9223372036854775808), ?_, ?_⟩
      · refine jCt_of ok_X6_mean (fun _ _ => Nat.le_of_ble_eq_true rfl) (fun _ _ hq => Nat.le_of_eq (lX.trans hq.2.symm)) ?_
        show J _ _ _ _ _ _ _ _ [(0, .ref 0), (1, .int w)] _ _ _
        refine J_iconst (v := 0) (by decide) (dk_X6_mean 0 _ rfl) ?_
        refine J_istore_n (i := 2) (a := 2) rfl (by decide) (dk_X6_mean 1 _ rfl) ?_
        show J _ _ _ _ _ _ _ _ [(2, .int 0), (0, .ref 0), (1, .int w)] _ _ _
        refine J_iconst (v := 0) (by decide) (dk_X6_mean 2 _ rfl) ?_
        refine J_istore_n (i := 3) (a := 3) rfl (by decide) (dk_X6_mean 3 _ rfl) ?_
        show J _ _ _ _ _ _ _ _ [(3, .int 0), (2, .int 0), (0, .ref 0), (1, .int w)] _ _ _
        refine J_iload_n (i := 3) (a := 3) rfl rfl (dk_X6_mean 4 _ rfl) ?_
        refine J_aload_n (i := 0) (a := 0) rfl rfl (dk_X6_mean 5 _ rfl) ?_
        refine J_getf fl_6_47 rfl rfl (dk_X6_mean 6 _ rfl) ?_
        refine J_getf fl_6_71 rfl rfl (dk_X6_mean 9 _ rfl) ?_
        refine J_icT (tgt := 36) (by decide) (dk_X6_mean 12 _ rfl) (jI_le (by decide : (0 : Int32).toInt = 0) (by decide : (0 : Int32).toInt = 0) (by omega)) ?_
        refine J_aload_n (i := 0) (a := 0) rfl rfl (dk_X6_mean 36 _ rfl) ?_
        refine J_aload_n (i := 0) (a := 0) rfl rfl (dk_X6_mean 37 _ rfl) ?_
        refine J_getf fl_6_47 rfl rfl (dk_X6_mean 38 _ rfl) ?_
        refine J_aload_n (i := 0) (a := 0) rfl rfl (dk_X6_mean 41 _ rfl) ?_
        refine J_getf fl_6_47 rfl rfl (dk_X6_mean 42 _ rfl) ?_
        refine J_getf fl_6_83 rfl rfl (dk_X6_mean 45 _ rfl) ?_
        refine J_getf fl_6_87 rfl rfl (dk_X6_mean 48 _ rfl) ?_
        refine J_cV (rv := none) (h' := hC6_1) (d' := 11) (As := [.ref 14, .int 10]) ok_X6_goYear vi_X6_goYear cl_6_182 (n := 2) (by decide +kernel) rfl rfl rfl rfl (by decide) (by decide) (dk_X6_mean 51 _ rfl) (jev_ct (M := m_X6_goYear) rfl rc6_1) ?_
        show J _ _ _ _ _ _ _ _ _ [] _ _
        refine J_aload_n (i := 0) (a := 0) rfl rfl (dk_X6_mean 54 _ rfl) ?_
        refine J_aload_n (i := 0) (a := 0) rfl rfl (dk_X6_mean 55 _ rfl) ?_
        refine J_getf fl_6_47 rfl rfl (dk_X6_mean 56 _ rfl) ?_
        refine J_iconst (v := (-1)) (by decide) (dk_X6_mean 59 _ rfl) ?_
        refine J_cV (rv := some (.int 0)) (h' := hC6_1) (d' := 11) (As := [.ref 14, .int (-1)]) ok_X6_gainOfOthers vi_X6_gainOfOthers cl_6_199 (n := 2) (by decide +kernel) rfl rfl rfl rfl (by decide) (by decide) (dk_X6_mean 60 _ rfl) ?_ ?_
        · refine jCt_of ok_X6_gainOfOthers (fun _ _ => Nat.le_of_ble_eq_true rfl) (fun _ _ hq => by rw [hq.2]; first | exact Nat.le_refl _ | simp) ?_
          show J _ _ _ _ _ _ _ _ [(0, .ref 0), (1, .ref 14), (2, .int (-1))] _ _ _
          refine J_iconst (v := 0) (by decide) (dk_X6_gainOfOthers 0 _ rfl) ?_
          refine J_istore_n (i := 3) (a := 3) rfl (by decide) (dk_X6_gainOfOthers 1 _ rfl) ?_
          show J _ _ _ _ _ _ _ _ [(3, .int 0), (0, .ref 0), (1, .ref 14), (2, .int (-1))] _ _ _
          refine J_iconst (v := 0) (by decide) (dk_X6_gainOfOthers 2 _ rfl) ?_
          refine J_istore (i := 4) (by decide) (dk_X6_gainOfOthers 3 _ rfl) ?_
          show J _ _ _ _ _ _ _ _ [(4, .int 0), (3, .int 0), (0, .ref 0), (1, .ref 14), (2, .int (-1))] _ _ _
          refine J_iload (i := 4) rfl (dk_X6_gainOfOthers 5 _ rfl) ?_
          refine J_aload_n (i := 1) (a := 1) rfl rfl (dk_X6_gainOfOthers 7 _ rfl) ?_
          refine J_getf fl_6_71 rfl rfl (dk_X6_gainOfOthers 8 _ rfl) ?_
          refine J_icT (tgt := 49) (by decide) (dk_X6_gainOfOthers 11 _ rfl) (jI_le (by decide : (0 : Int32).toInt = 0) (by decide : (0 : Int32).toInt = 0) (by omega)) ?_
          refine J_iload_n (i := 3) (a := 3) rfl rfl (dk_X6_gainOfOthers 49 _ rfl) ?_
          exact J_iret rfl rfl (dk_X6_gainOfOthers 50 _ rfl) ⟨rfl, rfl⟩
        show J _ _ _ _ _ _ _ _ _ [.int 0] _ _
        refine J_iload_n (i := 2) (a := 2) rfl rfl (dk_X6_mean 63 _ rfl) ?_
        refine J_iload_n (i := 1) (a := 1) rfl rfl (dk_X6_mean 64 _ rfl) ?_
        refine J_cS (rv := some (.long (-9223372036854775808))) (h' := hC6_1) (d' := 11) (As := [.int 0, .int 0, .int w]) ok_X6_fraction st_X6_fraction cl_6_205 rfl (n := 3) (by decide +kernel) rfl (by decide) (by decide) (dk_X6_mean 65 _ rfl) ?_ ?_
        · refine jCt_of ok_X6_fraction (fun _ _ => Nat.le_of_ble_eq_true rfl) (fun _ _ hq => by rw [hq.2]; first | exact Nat.le_refl _ | simp) ?_
          show J _ _ _ _ _ _ _ _ [(0, .int 0), (1, .int 0), (2, .int w)] _ _ _
          refine J_iload_n (i := 1) (a := 1) rfl rfl (dk_X6_fraction 0 _ rfl) ?_
          refine J_ifT (tgt := 13) (by decide) (dk_X6_fraction 1 _ rfl) (jI_le (by decide : (0 : Int32).toInt = 0) (by decide : (0 : Int32).toInt = 0) (by omega)) ?_
          refine J_ldc2 (v := (-9223372036854775808)) ctl_6_203 (dk_X6_fraction 13 _ rfl) ?_
          exact J_lret rfl (dk_X6_fraction 16 _ rfl) ⟨rfl, rfl⟩
        show J _ _ _ _ _ _ _ _ _ [.long (-9223372036854775808)] _ _
        exact J_lret rfl (dk_X6_mean 68 _ rfl) ⟨rfl, rfl⟩
      · refine jCt_of ok_X7_mean (fun _ _ => Nat.le_of_ble_eq_true rfl) (fun _ _ hq => Nat.le_of_eq (lM.trans hq.2.symm)) ?_
        show J _ _ _ _ _ _ _ _ [(0, .ref 0), (1, .int w)] _ _ _
        refine J_aload_n (i := 0) (a := 0) rfl rfl (dk_X7_mean 0 _ rfl) ?_
        refine J_iload_n (i := 1) (a := 1) rfl rfl (dk_X7_mean 1 _ rfl) ?_
        refine J_iconst (v := 0) (by decide) (dk_X7_mean 2 _ rfl) ?_
        refine J_iconst (v := 1) (by decide) (dk_X7_mean 3 _ rfl) ?_
        refine J_cV (rv := some (.int 0)) (h' := hM0) (d' := 11) (As := [.int w, .int 0, .int 1]) ok_X7_in vi_X7_in cl_7_194 (n := 3) (by decide +kernel) rfl rfl rfl rfl (by decide) (by decide) (dk_X7_mean 4 _ rfl) ?_ ?_
        · refine jCt_of ok_X7_in (fun _ _ => Nat.le_of_ble_eq_true rfl) (fun _ _ hq => by rw [hq.2]; first | exact Nat.le_refl _ | simp) ?_
          show J _ _ _ _ _ _ _ _ [(0, .ref 0), (1, .int w), (2, .int 0), (3, .int 1)] _ _ _
          refine J_iload_n (i := 1) (a := 1) rfl rfl (dk_X7_in 0 _ rfl) ?_
          refine J_iload_n (i := 2) (a := 2) rfl rfl (dk_X7_in 1 _ rfl) ?_
          refine J_icF (tgt := 14) (by decide) (dk_X7_in 2 _ rfl) (jI_nlt (rfl : (w : Int32).toInt = (w : Int32).toInt) (by decide : (0 : Int32).toInt = 0) (by omega)) ?_
          refine J_iload_n (i := 1) (a := 1) rfl rfl (dk_X7_in 5 _ rfl) ?_
          refine J_iload_n (i := 3) (a := 3) rfl rfl (dk_X7_in 6 _ rfl) ?_
          refine J_icT (tgt := 14) (by decide) (dk_X7_in 7 _ rfl) (jI_lt (by decide : (1 : Int32).toInt = 1) (rfl : (w : Int32).toInt = (w : Int32).toInt) (by omega)) ?_
          refine J_iconst (v := 0) (by decide) (dk_X7_in 14 _ rfl) ?_
          exact J_iret rfl rfl (dk_X7_in 15 _ rfl) ⟨rfl, rfl⟩
        show J _ _ _ _ _ _ _ _ _ [.int 0] _ _
        refine J_ifF (tgt := 14) (by decide) (dk_X7_mean 7 _ rfl) (fun z => z (jI_eq (by decide : (0 : Int32).toInt = 0) (by decide : (0 : Int32).toInt = 0) (by omega))) ?_
        refine J_ldc2 (v := (-9223372036854775808)) ctl_7_345 (dk_X7_mean 10 _ rfl) ?_
        exact J_lret rfl (dk_X7_mean 13 _ rfl) ⟨rfl, rfl⟩
set_option maxHeartbeats 4000000 in
set_option maxRecDepth 1000000 in
theorem o_forged (p : Int32) : ∃ rv : Int32, jCt m_X6_forged 12 0 0 [.ref 0, .int p] hN0 (jA (.int rv) 94) ∧ jCt m_X7_forged 12 0 0 [.ref 0, .int p] hM0 (jA (.int rv) 37) := by
  have r_p := p.toInt_lt; have q_p := p.le_toInt
  by_cases c1 : (p : Int32).toInt < 0
  · refine ⟨(-2), ?_, ?_⟩
    · refine jCt_of ok_X6_forged (fun _ _ => Nat.le_of_ble_eq_true rfl) (fun _ _ hq => Nat.le_of_eq (lX.trans hq.2.symm)) ?_
      show J _ _ _ _ _ _ _ _ [(0, .ref 0), (1, .int p)] _ _ _
      refine J_iload_n (i := 1) (a := 1) rfl rfl (dk_X6_forged 0 _ rfl) ?_
      refine J_ifT (tgt := 11) (by decide) (dk_X6_forged 1 _ rfl) (jI_lt (rfl : (p : Int32).toInt = (p : Int32).toInt) (by decide : (0 : Int32).toInt = 0) (by omega)) ?_
      refine J_bipush (v := (-2)) (by decide) (dk_X6_forged 11 _ rfl) ?_
      exact J_iret rfl rfl (dk_X6_forged 13 _ rfl) ⟨rfl, rfl⟩
    · refine jCt_of ok_X7_forged (fun _ _ => Nat.le_of_ble_eq_true rfl) (fun _ _ hq => Nat.le_of_eq (lM.trans hq.2.symm)) ?_
      show J _ _ _ _ _ _ _ _ [(0, .ref 0), (1, .int p)] _ _ _
      refine J_aload_n (i := 0) (a := 0) rfl rfl (dk_X7_forged 0 _ rfl) ?_
      refine J_iload_n (i := 1) (a := 1) rfl rfl (dk_X7_forged 1 _ rfl) ?_
      refine J_iconst (v := 0) (by decide) (dk_X7_forged 2 _ rfl) ?_
      refine J_sipush (v := 10000) (by decide) (dk_X7_forged 3 _ rfl) ?_
      refine J_cV (rv := some (.int 0)) (h' := hM0) (d' := 11) (As := [.int p, .int 0, .int 10000]) ok_X7_in vi_X7_in cl_7_194 (n := 3) (by decide +kernel) rfl rfl rfl rfl (by decide) (by decide) (dk_X7_forged 6 _ rfl) ?_ ?_
      · refine jCt_of ok_X7_in (fun _ _ => Nat.le_of_ble_eq_true rfl) (fun _ _ hq => by rw [hq.2]; first | exact Nat.le_refl _ | simp) ?_
        show J _ _ _ _ _ _ _ _ [(0, .ref 0), (1, .int p), (2, .int 0), (3, .int 10000)] _ _ _
        refine J_iload_n (i := 1) (a := 1) rfl rfl (dk_X7_in 0 _ rfl) ?_
        refine J_iload_n (i := 2) (a := 2) rfl rfl (dk_X7_in 1 _ rfl) ?_
        refine J_icT (tgt := 14) (by decide) (dk_X7_in 2 _ rfl) (jI_lt (rfl : (p : Int32).toInt = (p : Int32).toInt) (by decide : (0 : Int32).toInt = 0) (by omega)) ?_
        refine J_iconst (v := 0) (by decide) (dk_X7_in 14 _ rfl) ?_
        exact J_iret rfl rfl (dk_X7_in 15 _ rfl) ⟨rfl, rfl⟩
      show J _ _ _ _ _ _ _ _ _ [.int 0] _ _
      refine J_ifF (tgt := 15) (by decide) (dk_X7_forged 9 _ rfl) (fun z => z (jI_eq (by decide : (0 : Int32).toInt = 0) (by decide : (0 : Int32).toInt = 0) (by omega))) ?_
      refine J_bipush (v := (-2)) (by decide) (dk_X7_forged 12 _ rfl) ?_
      exact J_iret rfl rfl (dk_X7_forged 14 _ rfl) ⟨rfl, rfl⟩
  · by_cases c2 : (p : Int32).toInt < 10001
    · refine ⟨(-5), ?_, ?_⟩
      · refine jCt_of ok_X6_forged (fun _ _ => Nat.le_of_ble_eq_true rfl) (fun _ _ hq => Nat.le_of_eq (lX.trans hq.2.symm)) ?_
        show J _ _ _ _ _ _ _ _ [(0, .ref 0), (1, .int p)] _ _ _
        refine J_iload_n (i := 1) (a := 1) rfl rfl (dk_X6_forged 0 _ rfl) ?_
        refine J_ifF (tgt := 11) (by decide) (dk_X6_forged 1 _ rfl) (jI_nlt (rfl : (p : Int32).toInt = (p : Int32).toInt) (by decide : (0 : Int32).toInt = 0) (by omega)) ?_
        refine J_iload_n (i := 1) (a := 1) rfl rfl (dk_X6_forged 4 _ rfl) ?_
        refine J_sipush (v := 10000) (by decide) (dk_X6_forged 5 _ rfl) ?_
        refine J_icT (tgt := 14) (by decide) (dk_X6_forged 8 _ rfl) (jI_le (rfl : (p : Int32).toInt = (p : Int32).toInt) (by decide : (10000 : Int32).toInt = 10000) (by omega)) ?_
        refine J_aload_n (i := 0) (a := 0) rfl rfl (dk_X6_forged 14 _ rfl) ?_
        refine J_getf fl_6_54 rfl rfl (dk_X6_forged 15 _ rfl) ?_
        refine J_aload_n (i := 0) (a := 0) rfl rfl (dk_X6_forged 18 _ rfl) ?_
        refine J_getf fl_6_47 rfl rfl (dk_X6_forged 19 _ rfl) ?_
        refine J_cV (rv := none) (h' := hN0) (d' := 11) (As := [.ref 14]) ok_X2_copy vi_X2_copy cl_6_185 (n := 1) (by decide +kernel) rfl rfl rfl rfl (by decide) (by decide) (dk_X6_forged 22 _ rfl) (jev_ct (M := m_X2_copy) rfl rc6_0) ?_
        show J _ _ _ _ _ _ _ _ _ [] _ _
        refine J_iconst (v := 0) (by decide) (dk_X6_forged 25 _ rfl) ?_
        refine J_istore_n (i := 2) (a := 2) rfl (by decide) (dk_X6_forged 26 _ rfl) ?_
        show J _ _ _ _ _ _ _ _ [(2, .int 0), (0, .ref 0), (1, .int p)] _ _ _
        refine J_iload_n (i := 2) (a := 2) rfl rfl (dk_X6_forged 27 _ rfl) ?_
        refine J_aload_n (i := 0) (a := 0) rfl rfl (dk_X6_forged 28 _ rfl) ?_
        refine J_getf fl_6_47 rfl rfl (dk_X6_forged 29 _ rfl) ?_
        refine J_getf fl_6_71 rfl rfl (dk_X6_forged 32 _ rfl) ?_
        refine J_icT (tgt := 110) (by decide) (dk_X6_forged 35 _ rfl) (jI_le (by decide : (0 : Int32).toInt = 0) (by decide : (0 : Int32).toInt = 0) (by omega)) ?_
        refine J_bipush (v := (-5)) (by decide) (dk_X6_forged 110 _ rfl) ?_
        exact J_iret rfl rfl (dk_X6_forged 112 _ rfl) ⟨rfl, rfl⟩
      · refine jCt_of ok_X7_forged (fun _ _ => Nat.le_of_ble_eq_true rfl) (fun _ _ hq => Nat.le_of_eq (lM.trans hq.2.symm)) ?_
        show J _ _ _ _ _ _ _ _ [(0, .ref 0), (1, .int p)] _ _ _
        refine J_aload_n (i := 0) (a := 0) rfl rfl (dk_X7_forged 0 _ rfl) ?_
        refine J_iload_n (i := 1) (a := 1) rfl rfl (dk_X7_forged 1 _ rfl) ?_
        refine J_iconst (v := 0) (by decide) (dk_X7_forged 2 _ rfl) ?_
        refine J_sipush (v := 10000) (by decide) (dk_X7_forged 3 _ rfl) ?_
        refine J_cV (rv := some (.int 1)) (h' := hM0) (d' := 11) (As := [.int p, .int 0, .int 10000]) ok_X7_in vi_X7_in cl_7_194 (n := 3) (by decide +kernel) rfl rfl rfl rfl (by decide) (by decide) (dk_X7_forged 6 _ rfl) ?_ ?_
        · refine jCt_of ok_X7_in (fun _ _ => Nat.le_of_ble_eq_true rfl) (fun _ _ hq => by rw [hq.2]; first | exact Nat.le_refl _ | simp) ?_
          show J _ _ _ _ _ _ _ _ [(0, .ref 0), (1, .int p), (2, .int 0), (3, .int 10000)] _ _ _
          refine J_iload_n (i := 1) (a := 1) rfl rfl (dk_X7_in 0 _ rfl) ?_
          refine J_iload_n (i := 2) (a := 2) rfl rfl (dk_X7_in 1 _ rfl) ?_
          refine J_icF (tgt := 14) (by decide) (dk_X7_in 2 _ rfl) (jI_nlt (rfl : (p : Int32).toInt = (p : Int32).toInt) (by decide : (0 : Int32).toInt = 0) (by omega)) ?_
          refine J_iload_n (i := 1) (a := 1) rfl rfl (dk_X7_in 5 _ rfl) ?_
          refine J_iload_n (i := 3) (a := 3) rfl rfl (dk_X7_in 6 _ rfl) ?_
          refine J_icF (tgt := 14) (by decide) (dk_X7_in 7 _ rfl) (jI_nlt (by decide : (10000 : Int32).toInt = 10000) (rfl : (p : Int32).toInt = (p : Int32).toInt) (by omega)) ?_
          refine J_iconst (v := 1) (by decide) (dk_X7_in 10 _ rfl) ?_
          refine J_goto (tgt := 15) (by decide) (dk_X7_in 11 _ rfl) ?_
          exact J_iret rfl rfl (dk_X7_in 15 _ rfl) ⟨rfl, rfl⟩
        show J _ _ _ _ _ _ _ _ _ [.int 1] _ _
        refine J_ifT (tgt := 15) (by decide) (dk_X7_forged 9 _ rfl) (jI_ne (by decide : (1 : Int32).toInt = 1) (by decide : (0 : Int32).toInt = 0) (by omega)) ?_
        refine J_bipush (v := (-5)) (by decide) (dk_X7_forged 15 _ rfl) ?_
        refine J_istore_n (i := 2) (a := 2) rfl (by decide) (dk_X7_forged 17 _ rfl) ?_
        show J _ _ _ _ _ _ _ _ [(2, .int (-5)), (0, .ref 0), (1, .int p)] _ _ _
        refine J_iconst (v := 0) (by decide) (dk_X7_forged 18 _ rfl) ?_
        refine J_istore_n (i := 3) (a := 3) rfl (by decide) (dk_X7_forged 19 _ rfl) ?_
        show J _ _ _ _ _ _ _ _ [(3, .int 0), (2, .int (-5)), (0, .ref 0), (1, .int p)] _ _ _
        refine J_iload_n (i := 3) (a := 3) rfl rfl (dk_X7_forged 20 _ rfl) ?_
        refine J_aload_n (i := 0) (a := 0) rfl rfl (dk_X7_forged 21 _ rfl) ?_
        refine J_getf fl_7_7 rfl rfl (dk_X7_forged 22 _ rfl) ?_
        refine J_icT (tgt := 111) (by decide) (dk_X7_forged 25 _ rfl) (jI_le (by decide : (0 : Int32).toInt = 0) (by decide : (0 : Int32).toInt = 0) (by omega)) ?_
        refine J_iload_n (i := 2) (a := 2) rfl rfl (dk_X7_forged 111 _ rfl) ?_
        exact J_iret rfl rfl (dk_X7_forged 112 _ rfl) ⟨rfl, rfl⟩
    · refine ⟨(-2), ?_, ?_⟩
      · refine jCt_of ok_X6_forged (fun _ _ => Nat.le_of_ble_eq_true rfl) (fun _ _ hq => Nat.le_of_eq (lX.trans hq.2.symm)) ?_
        show J _ _ _ _ _ _ _ _ [(0, .ref 0), (1, .int p)] _ _ _
        refine J_iload_n (i := 1) (a := 1) rfl rfl (dk_X6_forged 0 _ rfl) ?_
        refine J_ifF (tgt := 11) (by decide) (dk_X6_forged 1 _ rfl) (jI_nlt (rfl : (p : Int32).toInt = (p : Int32).toInt) (by decide : (0 : Int32).toInt = 0) (by omega)) ?_
        refine J_iload_n (i := 1) (a := 1) rfl rfl (dk_X6_forged 4 _ rfl) ?_
        refine J_sipush (v := 10000) (by decide) (dk_X6_forged 5 _ rfl) ?_
        refine J_icF (tgt := 14) (by decide) (dk_X6_forged 8 _ rfl) (jI_nle (rfl : (p : Int32).toInt = (p : Int32).toInt) (by decide : (10000 : Int32).toInt = 10000) (by omega)) ?_
        refine J_bipush (v := (-2)) (by decide) (dk_X6_forged 11 _ rfl) ?_
        exact J_iret rfl rfl (dk_X6_forged 13 _ rfl) ⟨rfl, rfl⟩
      · refine jCt_of ok_X7_forged (fun _ _ => Nat.le_of_ble_eq_true rfl) (fun _ _ hq => Nat.le_of_eq (lM.trans hq.2.symm)) ?_
        show J _ _ _ _ _ _ _ _ [(0, .ref 0), (1, .int p)] _ _ _
        refine J_aload_n (i := 0) (a := 0) rfl rfl (dk_X7_forged 0 _ rfl) ?_
        refine J_iload_n (i := 1) (a := 1) rfl rfl (dk_X7_forged 1 _ rfl) ?_
        refine J_iconst (v := 0) (by decide) (dk_X7_forged 2 _ rfl) ?_
        refine J_sipush (v := 10000) (by decide) (dk_X7_forged 3 _ rfl) ?_
        refine J_cV (rv := some (.int 0)) (h' := hM0) (d' := 11) (As := [.int p, .int 0, .int 10000]) ok_X7_in vi_X7_in cl_7_194 (n := 3) (by decide +kernel) rfl rfl rfl rfl (by decide) (by decide) (dk_X7_forged 6 _ rfl) ?_ ?_
        · refine jCt_of ok_X7_in (fun _ _ => Nat.le_of_ble_eq_true rfl) (fun _ _ hq => by rw [hq.2]; first | exact Nat.le_refl _ | simp) ?_
          show J _ _ _ _ _ _ _ _ [(0, .ref 0), (1, .int p), (2, .int 0), (3, .int 10000)] _ _ _
          refine J_iload_n (i := 1) (a := 1) rfl rfl (dk_X7_in 0 _ rfl) ?_
          refine J_iload_n (i := 2) (a := 2) rfl rfl (dk_X7_in 1 _ rfl) ?_
          refine J_icF (tgt := 14) (by decide) (dk_X7_in 2 _ rfl) (jI_nlt (rfl : (p : Int32).toInt = (p : Int32).toInt) (by decide : (0 : Int32).toInt = 0) (by omega)) ?_
          refine J_iload_n (i := 1) (a := 1) rfl rfl (dk_X7_in 5 _ rfl) ?_
          refine J_iload_n (i := 3) (a := 3) rfl rfl (dk_X7_in 6 _ rfl) ?_
          refine J_icT (tgt := 14) (by decide) (dk_X7_in 7 _ rfl) (jI_lt (by decide : (10000 : Int32).toInt = 10000) (rfl : (p : Int32).toInt = (p : Int32).toInt) (by omega)) ?_
          refine J_iconst (v := 0) (by decide) (dk_X7_in 14 _ rfl) ?_
          exact J_iret rfl rfl (dk_X7_in 15 _ rfl) ⟨rfl, rfl⟩
        show J _ _ _ _ _ _ _ _ _ [.int 0] _ _
        refine J_ifF (tgt := 15) (by decide) (dk_X7_forged 9 _ rfl) (fun z => z (jI_eq (by decide : (0 : Int32).toInt = 0) (by decide : (0 : Int32).toInt = 0) (by omega))) ?_
        refine J_bipush (v := (-2)) (by decide) (dk_X7_forged 12 _ rfl) ?_
        exact J_iret rfl rfl (dk_X7_forged 14 _ rfl) ⟨rfl, rfl⟩
