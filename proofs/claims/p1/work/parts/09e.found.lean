set_option maxHeartbeats 4000000 in
set_option maxRecDepth 1000000 in
theorem o_foundling (d : Int32) (w : Int32) : ∃ rv : Int32, jCt m_X6_foundling 12 0 0 [.ref 0, .int d, .int w] hN0 (jA (.int rv) 94) ∧ jCt m_X7_foundling 12 0 0 [.ref 0, .int d, .int w] hM0 (jA (.int rv) 37) := by
  have r_d := d.toInt_lt; have q_d := d.le_toInt
  have r_w := w.toInt_lt; have q_w := w.le_toInt
  by_cases c1 : (w : Int32).toInt < 0
  · refine ⟨(-10000001), ?_, ?_⟩
    · refine jCt_of ok_X6_foundling (fun _ _ => Nat.le_of_ble_eq_true rfl) (fun _ _ hq => Nat.le_of_eq (lX.trans hq.2.symm)) ?_
      show J _ _ _ _ _ _ _ _ [(0, .ref 0), (1, .int d), (2, .int w)] _ _ _
      refine J_iload_n (i := 2) (a := 2) rfl rfl (dk_X6_foundling 0 _ rfl) ?_
      refine J_ifT (tgt := 9) (by decide) (dk_X6_foundling 1 _ rfl) (jI_lt (rfl : (w : Int32).toInt = (w : Int32).toInt) (by decide : (0 : Int32).toInt = 0) (by omega)) ?_
      refine J_ldc (v := (-10000001)) ct_6_82 (dk_X6_foundling 9 _ rfl) ?_
      exact J_iret rfl rfl (dk_X6_foundling 11 _ rfl) ⟨rfl, rfl⟩
    · refine jCt_of ok_X7_foundling (fun _ _ => Nat.le_of_ble_eq_true rfl) (fun _ _ hq => Nat.le_of_eq (lM.trans hq.2.symm)) ?_
      show J _ _ _ _ _ _ _ _ [(0, .ref 0), (1, .int d), (2, .int w)] _ _ _
      refine J_aload_n (i := 0) (a := 0) rfl rfl (dk_X7_foundling 0 _ rfl) ?_
      refine J_iload_n (i := 2) (a := 2) rfl rfl (dk_X7_foundling 1 _ rfl) ?_
      refine J_iconst (v := 0) (by decide) (dk_X7_foundling 2 _ rfl) ?_
      refine J_iconst (v := 1) (by decide) (dk_X7_foundling 3 _ rfl) ?_
      refine J_cV (rv := some (.int 0)) (h' := hM0) (d' := 11) (As := [.int w, .int 0, .int 1]) ok_X7_in vi_X7_in cl_7_194 (n := 3) (by decide +kernel) rfl rfl rfl rfl (by decide) (by decide) (dk_X7_foundling 4 _ rfl) ?_ ?_
      · refine jCt_of ok_X7_in (fun _ _ => Nat.le_of_ble_eq_true rfl) (fun _ _ hq => by rw [hq.2]; first | exact Nat.le_refl _ | simp) ?_
        show J _ _ _ _ _ _ _ _ [(0, .ref 0), (1, .int w), (2, .int 0), (3, .int 1)] _ _ _
        refine J_iload_n (i := 1) (a := 1) rfl rfl (dk_X7_in 0 _ rfl) ?_
        refine J_iload_n (i := 2) (a := 2) rfl rfl (dk_X7_in 1 _ rfl) ?_
        refine J_icT (tgt := 14) (by decide) (dk_X7_in 2 _ rfl) (jI_lt (rfl : (w : Int32).toInt = (w : Int32).toInt) (by decide : (0 : Int32).toInt = 0) (by omega)) ?_
        refine J_iconst (v := 0) (by decide) (dk_X7_in 14 _ rfl) ?_
        exact J_iret rfl rfl (dk_X7_in 15 _ rfl) ⟨rfl, rfl⟩
      show J _ _ _ _ _ _ _ _ _ [.int 0] _ _
      refine J_ifF (tgt := 14) (by decide) (dk_X7_foundling 7 _ rfl) (fun z => z (jI_eq (by decide : (0 : Int32).toInt = 0) (by decide : (0 : Int32).toInt = 0) (by omega))) ?_
      refine J_ldcw (v := (-10000001)) ct_7_291 (dk_X7_foundling 10 _ rfl) ?_
      exact J_iret rfl rfl (dk_X7_foundling 13 _ rfl) ⟨rfl, rfl⟩
  · by_cases c2 : (w : Int32).toInt < 2
    · by_cases c3 : (w : Int32).toInt = 0
      · obtain rfl : w = 0 := jI_eq rfl (by decide) c3
        by_cases c4 : (d : Int32).toInt < 0
        · refine ⟨(-10000002), ?_, ?_⟩
          · refine jCt_of ok_X6_foundling (fun _ _ => Nat.le_of_ble_eq_true rfl) (fun _ _ hq => Nat.le_of_eq (lX.trans hq.2.symm)) ?_
            show J _ _ _ _ _ _ _ _ [(0, .ref 0), (1, .int d), (2, .int 0)] _ _ _
            refine J_iload_n (i := 2) (a := 2) rfl rfl (dk_X6_foundling 0 _ rfl) ?_
            refine J_ifF (tgt := 9) (by decide) (dk_X6_foundling 1 _ rfl) (jI_nlt (by decide : (0 : Int32).toInt = 0) (by decide : (0 : Int32).toInt = 0) (by omega)) ?_
            refine J_iload_n (i := 2) (a := 2) rfl rfl (dk_X6_foundling 4 _ rfl) ?_
            refine J_iconst (v := 1) (by decide) (dk_X6_foundling 5 _ rfl) ?_
            refine J_icT (tgt := 12) (by decide) (dk_X6_foundling 6 _ rfl) (jI_le (by decide : (0 : Int32).toInt = 0) (by decide : (1 : Int32).toInt = 1) (by omega)) ?_
            refine J_iload_n (i := 1) (a := 1) rfl rfl (dk_X6_foundling 12 _ rfl) ?_
            refine J_cS (rv := some (.int 0)) (h' := hN0) (d' := 11) (As := [.int d]) ok_X6_isDay st_X6_isDay cl_6_67 rfl (n := 1) (by decide +kernel) rfl (by decide) (by decide) (dk_X6_foundling 13 _ rfl) ?_ ?_
            · refine jCt_of ok_X6_isDay (fun _ _ => Nat.le_of_ble_eq_true rfl) (fun _ _ hq => by rw [hq.2]; first | exact Nat.le_refl _ | simp) ?_
              show J _ _ _ _ _ _ _ _ [(0, .int d)] _ _ _
              refine J_iload_n (i := 0) (a := 0) rfl rfl (dk_X6_isDay 0 _ rfl) ?_
              refine J_ifT (tgt := 14) (by decide) (dk_X6_isDay 1 _ rfl) (jI_lt (rfl : (d : Int32).toInt = (d : Int32).toInt) (by decide : (0 : Int32).toInt = 0) (by omega)) ?_
              refine J_iconst (v := 0) (by decide) (dk_X6_isDay 14 _ rfl) ?_
              exact J_iret rfl rfl (dk_X6_isDay 15 _ rfl) ⟨rfl, rfl⟩
            show J _ _ _ _ _ _ _ _ _ [.int 0] _ _
            refine J_ifF (tgt := 22) (by decide) (dk_X6_foundling 16 _ rfl) (fun z => z (jI_eq (by decide : (0 : Int32).toInt = 0) (by decide : (0 : Int32).toInt = 0) (by omega))) ?_
            refine J_ldc (v := (-10000002)) ct_6_178 (dk_X6_foundling 19 _ rfl) ?_
            exact J_iret rfl rfl (dk_X6_foundling 21 _ rfl) ⟨rfl, rfl⟩
          · refine jCt_of ok_X7_foundling (fun _ _ => Nat.le_of_ble_eq_true rfl) (fun _ _ hq => Nat.le_of_eq (lM.trans hq.2.symm)) ?_
            show J _ _ _ _ _ _ _ _ [(0, .ref 0), (1, .int d), (2, .int 0)] _ _ _
            refine J_aload_n (i := 0) (a := 0) rfl rfl (dk_X7_foundling 0 _ rfl) ?_
            refine J_iload_n (i := 2) (a := 2) rfl rfl (dk_X7_foundling 1 _ rfl) ?_
            refine J_iconst (v := 0) (by decide) (dk_X7_foundling 2 _ rfl) ?_
            refine J_iconst (v := 1) (by decide) (dk_X7_foundling 3 _ rfl) ?_
            refine J_cV (rv := some (.int 1)) (h' := hM0) (d' := 11) (As := [.int 0, .int 0, .int 1]) ok_X7_in vi_X7_in cl_7_194 (n := 3) (by decide +kernel) rfl rfl rfl rfl (by decide) (by decide) (dk_X7_foundling 4 _ rfl) ?_ ?_
            · refine jCt_of ok_X7_in (fun _ _ => Nat.le_of_ble_eq_true rfl) (fun _ _ hq => by rw [hq.2]; first | exact Nat.le_refl _ | simp) ?_
              show J _ _ _ _ _ _ _ _ [(0, .ref 0), (1, .int 0), (2, .int 0), (3, .int 1)] _ _ _
              refine J_iload_n (i := 1) (a := 1) rfl rfl (dk_X7_in 0 _ rfl) ?_
              refine J_iload_n (i := 2) (a := 2) rfl rfl (dk_X7_in 1 _ rfl) ?_
              refine J_icF (tgt := 14) (by decide) (dk_X7_in 2 _ rfl) (jI_nlt (by decide : (0 : Int32).toInt = 0) (by decide : (0 : Int32).toInt = 0) (by omega)) ?_
              refine J_iload_n (i := 1) (a := 1) rfl rfl (dk_X7_in 5 _ rfl) ?_
              refine J_iload_n (i := 3) (a := 3) rfl rfl (dk_X7_in 6 _ rfl) ?_
              refine J_icF (tgt := 14) (by decide) (dk_X7_in 7 _ rfl) (jI_nlt (by decide : (1 : Int32).toInt = 1) (by decide : (0 : Int32).toInt = 0) (by omega)) ?_
              refine J_iconst (v := 1) (by decide) (dk_X7_in 10 _ rfl) ?_
              refine J_goto (tgt := 15) (by decide) (dk_X7_in 11 _ rfl) ?_
              exact J_iret rfl rfl (dk_X7_in 15 _ rfl) ⟨rfl, rfl⟩
            show J _ _ _ _ _ _ _ _ _ [.int 1] _ _
            refine J_ifT (tgt := 14) (by decide) (dk_X7_foundling 7 _ rfl) (jI_ne (by decide : (1 : Int32).toInt = 1) (by decide : (0 : Int32).toInt = 0) (by omega)) ?_
            refine J_aload_n (i := 0) (a := 0) rfl rfl (dk_X7_foundling 14 _ rfl) ?_
            refine J_iload_n (i := 1) (a := 1) rfl rfl (dk_X7_foundling 15 _ rfl) ?_
            refine J_cV (rv := some (.int 0)) (h' := hM0) (d' := 11) (As := [.int d]) ok_X7_isDay vi_X7_isDay cl_7_198 (n := 1) (by decide +kernel) rfl rfl rfl rfl (by decide) (by decide) (dk_X7_foundling 16 _ rfl) ?_ ?_
            · refine jCt_of ok_X7_isDay (fun _ _ => Nat.le_of_ble_eq_true rfl) (fun _ _ hq => by rw [hq.2]; first | exact Nat.le_refl _ | simp) ?_
              show J _ _ _ _ _ _ _ _ [(0, .ref 0), (1, .int d)] _ _ _
              refine J_aload_n (i := 0) (a := 0) rfl rfl (dk_X7_isDay 0 _ rfl) ?_
              refine J_iload_n (i := 1) (a := 1) rfl rfl (dk_X7_isDay 1 _ rfl) ?_
              refine J_iconst (v := 0) (by decide) (dk_X7_isDay 2 _ rfl) ?_
              refine J_bipush (v := 11) (by decide) (dk_X7_isDay 3 _ rfl) ?_
              refine J_cV (rv := some (.int 0)) (h' := hM0) (d' := 10) (As := [.int d, .int 0, .int 11]) ok_X7_in vi_X7_in cl_7_194 (n := 3) (by decide +kernel) rfl rfl rfl rfl (by decide) (by decide) (dk_X7_isDay 5 _ rfl) ?_ ?_
              · refine jCt_of ok_X7_in (fun _ _ => Nat.le_of_ble_eq_true rfl) (fun _ _ hq => by rw [hq.2]; first | exact Nat.le_refl _ | simp) ?_
                show J _ _ _ _ _ _ _ _ [(0, .ref 0), (1, .int d), (2, .int 0), (3, .int 11)] _ _ _
                refine J_iload_n (i := 1) (a := 1) rfl rfl (dk_X7_in 0 _ rfl) ?_
                refine J_iload_n (i := 2) (a := 2) rfl rfl (dk_X7_in 1 _ rfl) ?_
                refine J_icT (tgt := 14) (by decide) (dk_X7_in 2 _ rfl) (jI_lt (rfl : (d : Int32).toInt = (d : Int32).toInt) (by decide : (0 : Int32).toInt = 0) (by omega)) ?_
                refine J_iconst (v := 0) (by decide) (dk_X7_in 14 _ rfl) ?_
                exact J_iret rfl rfl (dk_X7_in 15 _ rfl) ⟨rfl, rfl⟩
              show J _ _ _ _ _ _ _ _ _ [.int 0] _ _
              exact J_iret rfl rfl (dk_X7_isDay 8 _ rfl) ⟨rfl, rfl⟩
            show J _ _ _ _ _ _ _ _ _ [.int 0] _ _
            refine J_ifF (tgt := 26) (by decide) (dk_X7_foundling 19 _ rfl) (fun z => z (jI_eq (by decide : (0 : Int32).toInt = 0) (by decide : (0 : Int32).toInt = 0) (by omega))) ?_
            refine J_ldcw (v := (-10000002)) ct_7_313 (dk_X7_foundling 22 _ rfl) ?_
            exact J_iret rfl rfl (dk_X7_foundling 25 _ rfl) ⟨rfl, rfl⟩
        · by_cases c5 : (d : Int32).toInt < 12
          · by_cases c6 : (d : Int32).toInt = 0
            · obtain rfl : d = 0 := jI_eq rfl (by decide) c6
              refine ⟨0, ?_, ?_⟩
              · refine jCt_of ok_X6_foundling (fun _ _ => Nat.le_of_ble_eq_true rfl) (fun _ _ hq => Nat.le_of_eq (lX.trans hq.2.symm)) ?_
                show J _ _ _ _ _ _ _ _ [(0, .ref 0), (1, .int 0), (2, .int 0)] _ _ _
                refine J_iload_n (i := 2) (a := 2) rfl rfl (dk_X6_foundling 0 _ rfl) ?_
                refine J_ifF (tgt := 9) (by decide) (dk_X6_foundling 1 _ rfl) (jI_nlt (by decide : (0 : Int32).toInt = 0) (by decide : (0 : Int32).toInt = 0) (by omega)) ?_
                refine J_iload_n (i := 2) (a := 2) rfl rfl (dk_X6_foundling 4 _ rfl) ?_
                refine J_iconst (v := 1) (by decide) (dk_X6_foundling 5 _ rfl) ?_
                refine J_icT (tgt := 12) (by decide) (dk_X6_foundling 6 _ rfl) (jI_le (by decide : (0 : Int32).toInt = 0) (by decide : (1 : Int32).toInt = 1) (by omega)) ?_
                refine J_iload_n (i := 1) (a := 1) rfl rfl (dk_X6_foundling 12 _ rfl) ?_
                refine J_cS (rv := some (.int 1)) (h' := hN0) (d' := 11) (As := [.int 0]) ok_X6_isDay st_X6_isDay cl_6_67 rfl (n := 1) (by decide +kernel) rfl (by decide) (by decide) (dk_X6_foundling 13 _ rfl) ?_ ?_
                · refine jCt_of ok_X6_isDay (fun _ _ => Nat.le_of_ble_eq_true rfl) (fun _ _ hq => by rw [hq.2]; first | exact Nat.le_refl _ | simp) ?_
                  show J _ _ _ _ _ _ _ _ [(0, .int 0)] _ _ _
                  refine J_iload_n (i := 0) (a := 0) rfl rfl (dk_X6_isDay 0 _ rfl) ?_
                  refine J_ifF (tgt := 14) (by decide) (dk_X6_isDay 1 _ rfl) (jI_nlt (by decide : (0 : Int32).toInt = 0) (by decide : (0 : Int32).toInt = 0) (by omega)) ?_
                  refine J_iload_n (i := 0) (a := 0) rfl rfl (dk_X6_isDay 4 _ rfl) ?_
                  refine J_bipush (v := 12) (by decide) (dk_X6_isDay 5 _ rfl) ?_
                  refine J_icF (tgt := 14) (by decide) (dk_X6_isDay 7 _ rfl) (jI_nle (by decide : (12 : Int32).toInt = 12) (by decide : (0 : Int32).toInt = 0) (by omega)) ?_
                  refine J_iconst (v := 1) (by decide) (dk_X6_isDay 10 _ rfl) ?_
                  refine J_goto (tgt := 15) (by decide) (dk_X6_isDay 11 _ rfl) ?_
                  exact J_iret rfl rfl (dk_X6_isDay 15 _ rfl) ⟨rfl, rfl⟩
                show J _ _ _ _ _ _ _ _ _ [.int 1] _ _
                refine J_ifT (tgt := 22) (by decide) (dk_X6_foundling 16 _ rfl) (jI_ne (by decide : (1 : Int32).toInt = 1) (by decide : (0 : Int32).toInt = 0) (by omega)) ?_
                refine J_aload_n (i := 0) (a := 0) rfl rfl (dk_X6_foundling 22 _ rfl) ?_
                refine J_getf fl_6_47 rfl rfl (dk_X6_foundling 23 _ rfl) ?_
                refine J_getf fl_6_71 rfl rfl (dk_X6_foundling 26 _ rfl) ?_
                refine J_bipush (v := 7) (by decide) (dk_X6_foundling 29 _ rfl) ?_
                refine J_icT (tgt := 37) (by decide) (dk_X6_foundling 31 _ rfl) (jI_lt (by decide : (0 : Int32).toInt = 0) (by decide : (7 : Int32).toInt = 7) (by omega)) ?_
                refine J_aload_n (i := 0) (a := 0) rfl rfl (dk_X6_foundling 37 _ rfl) ?_
                refine J_getf fl_6_54 rfl rfl (dk_X6_foundling 38 _ rfl) ?_
                refine J_aload_n (i := 0) (a := 0) rfl rfl (dk_X6_foundling 41 _ rfl) ?_
                refine J_getf fl_6_47 rfl rfl (dk_X6_foundling 42 _ rfl) ?_
                refine J_cV (rv := none) (h' := hN0) (d' := 11) (As := [.ref 14]) ok_X2_copy vi_X2_copy cl_6_185 (n := 1) (by decide +kernel) rfl rfl rfl rfl (by decide) (by decide) (dk_X6_foundling 45 _ rfl) (jev_ct (M := m_X2_copy) rfl rc6_0) ?_
                show J _ _ _ _ _ _ _ _ _ [] _ _
                refine J_aload_n (i := 0) (a := 0) rfl rfl (dk_X6_foundling 48 _ rfl) ?_
                refine J_getf fl_6_54 rfl rfl (dk_X6_foundling 49 _ rfl) ?_
                refine J_iconst (v := 0) (by decide) (dk_X6_foundling 52 _ rfl) ?_
                refine J_iconst (v := 0) (by decide) (dk_X6_foundling 53 _ rfl) ?_
                refine J_iconst (v := 0) (by decide) (dk_X6_foundling 54 _ rfl) ?_
                refine J_iload_n (i := 1) (a := 1) rfl rfl (dk_X6_foundling 55 _ rfl) ?_
                refine J_cV (rv := none) (h' := hC6_7) (d' := 11) (As := [.int 0, .int 0, .int 0, .int 0]) ok_X2_add vi_X2_add cl_6_75 (n := 4) (by decide +kernel) rfl rfl rfl rfl (by decide) (by decide) (dk_X6_foundling 56 _ rfl) (jev_ct (M := m_X2_add) rfl rc6_7) ?_
                show J _ _ _ _ _ _ _ _ _ [] _ _
                refine J_aload_n (i := 0) (a := 0) rfl rfl (dk_X6_foundling 59 _ rfl) ?_
                refine J_aload_n (i := 0) (a := 0) rfl rfl (dk_X6_foundling 60 _ rfl) ?_
                refine J_getf fl_6_54 rfl rfl (dk_X6_foundling 61 _ rfl) ?_
                refine J_getf fl_6_103 rfl rfl (dk_X6_foundling 64 _ rfl) ?_
                refine J_aload_n (i := 0) (a := 0) rfl rfl (dk_X6_foundling 67 _ rfl) ?_
                refine J_getf fl_6_54 rfl rfl (dk_X6_foundling 68 _ rfl) ?_
                refine J_getf fl_6_71 rfl rfl (dk_X6_foundling 71 _ rfl) ?_
                refine J_iconst (v := 1) (by decide) (dk_X6_foundling 74 _ rfl) ?_
                refine J_isubC (v := 0) (by decide) (dk_X6_foundling 75 _ rfl) ?_
                refine J_iload_n (i := 2) (a := 2) rfl rfl (dk_X6_foundling 76 _ rfl) ?_
                refine J_cV (rv := some (.int 0)) (h' := hC6_8) (d' := 11) (As := [.ref 35, .int 0, .int 0]) ok_X6_bestOf vi_X6_bestOf cl_6_188 (n := 3) (by decide +kernel) rfl rfl rfl rfl (by decide) (by decide) (dk_X6_foundling 77 _ rfl) ?_ ?_
                · refine jCt_of ok_X6_bestOf (fun _ _ => Nat.le_of_ble_eq_true rfl) (fun _ _ hq => by rw [hq.2]; first | exact Nat.le_refl _ | simp) ?_
                  show J _ _ _ _ _ _ _ _ [(0, .ref 0), (1, .ref 35), (2, .int 0), (3, .int 0)] _ _ _
                  refine J_aload_n (i := 0) (a := 0) rfl rfl (dk_X6_bestOf 0 _ rfl) ?_
                  refine J_aload_n (i := 1) (a := 1) rfl rfl (dk_X6_bestOf 1 _ rfl) ?_
                  refine J_iload_n (i := 2) (a := 2) rfl rfl (dk_X6_bestOf 2 _ rfl) ?_
                  refine J_aload_n (i := 0) (a := 0) rfl rfl (dk_X6_bestOf 3 _ rfl) ?_
                  refine J_getf fl_6_54 rfl rfl (dk_X6_bestOf 4 _ rfl) ?_
                  refine J_getf fl_6_83 rfl rfl (dk_X6_bestOf 7 _ rfl) ?_
                  refine J_getf fl_6_87 rfl rfl (dk_X6_bestOf 10 _ rfl) ?_
                  refine J_cV (rv := none) (h' := hC6_8) (d' := 10) (As := [.ref 35, .int 0, .int 10]) ok_X6_tryDays vi_X6_tryDays cl_6_192 (n := 3) (by decide +kernel) rfl rfl rfl rfl (by decide) (by decide) (dk_X6_bestOf 13 _ rfl) (jev_ct (M := m_X6_tryDays) rfl rc6_8) ?_
                  show J _ _ _ _ _ _ _ _ _ [] _ _
                  refine J_aload_n (i := 0) (a := 0) rfl rfl (dk_X6_bestOf 16 _ rfl) ?_
                  refine J_cV (rv := some (.int 0)) (h' := hC6_8) (d' := 10) (As := []) ok_X6_firstMost vi_X6_firstMost cl_6_269 (n := 0) (by decide +kernel) rfl rfl rfl rfl (by decide) (by decide) (dk_X6_bestOf 17 _ rfl) (jev_ct (M := m_X6_firstMost) rfl rc6_9) ?_
                  show J _ _ _ _ _ _ _ _ _ [.int 0] _ _
                  refine J_istore (i := 4) (by decide) (dk_X6_bestOf 20 _ rfl) ?_
                  show J _ _ _ _ _ _ _ _ [(4, .int 0), (0, .ref 0), (1, .ref 35), (2, .int 0), (3, .int 0)] _ _ _
                  refine J_iload_n (i := 3) (a := 3) rfl rfl (dk_X6_bestOf 22 _ rfl) ?_
                  refine J_ifF (tgt := 31) (by decide) (dk_X6_bestOf 23 _ rfl) (fun z => z (jI_eq (by decide : (0 : Int32).toInt = 0) (by decide : (0 : Int32).toInt = 0) (by omega))) ?_
                  refine J_iload (i := 4) rfl (dk_X6_bestOf 26 _ rfl) ?_
                  refine J_goto (tgt := 38) (by decide) (dk_X6_bestOf 28 _ rfl) ?_
                  exact J_iret rfl rfl (dk_X6_bestOf 38 _ rfl) ⟨rfl, rfl⟩
                show J _ _ _ _ _ _ _ _ _ [.int 0] _ _
                exact J_iret rfl rfl (dk_X6_foundling 80 _ rfl) ⟨rfl, rfl⟩
              · refine jCt_of ok_X7_foundling (fun _ _ => Nat.le_of_ble_eq_true rfl) (fun _ _ hq => Nat.le_of_eq (lM.trans hq.2.symm)) ?_
                show J _ _ _ _ _ _ _ _ [(0, .ref 0), (1, .int 0), (2, .int 0)] _ _ _
                refine J_aload_n (i := 0) (a := 0) rfl rfl (dk_X7_foundling 0 _ rfl) ?_
                refine J_iload_n (i := 2) (a := 2) rfl rfl (dk_X7_foundling 1 _ rfl) ?_
                refine J_iconst (v := 0) (by decide) (dk_X7_foundling 2 _ rfl) ?_
                refine J_iconst (v := 1) (by decide) (dk_X7_foundling 3 _ rfl) ?_
                refine J_cV (rv := some (.int 1)) (h' := hM0) (d' := 11) (As := [.int 0, .int 0, .int 1]) ok_X7_in vi_X7_in cl_7_194 (n := 3) (by decide +kernel) rfl rfl rfl rfl (by decide) (by decide) (dk_X7_foundling 4 _ rfl) ?_ ?_
                · refine jCt_of ok_X7_in (fun _ _ => Nat.le_of_ble_eq_true rfl) (fun _ _ hq => by rw [hq.2]; first | exact Nat.le_refl _ | simp) ?_
                  show J _ _ _ _ _ _ _ _ [(0, .ref 0), (1, .int 0), (2, .int 0), (3, .int 1)] _ _ _
                  refine J_iload_n (i := 1) (a := 1) rfl rfl (dk_X7_in 0 _ rfl) ?_
                  refine J_iload_n (i := 2) (a := 2) rfl rfl (dk_X7_in 1 _ rfl) ?_
                  refine J_icF (tgt := 14) (by decide) (dk_X7_in 2 _ rfl) (jI_nlt (by decide : (0 : Int32).toInt = 0) (by decide : (0 : Int32).toInt = 0) (by omega)) ?_
                  refine J_iload_n (i := 1) (a := 1) rfl rfl (dk_X7_in 5 _ rfl) ?_
                  refine J_iload_n (i := 3) (a := 3) rfl rfl (dk_X7_in 6 _ rfl) ?_
                  refine J_icF (tgt := 14) (by decide) (dk_X7_in 7 _ rfl) (jI_nlt (by decide : (1 : Int32).toInt = 1) (by decide : (0 : Int32).toInt = 0) (by omega)) ?_
                  refine J_iconst (v := 1) (by decide) (dk_X7_in 10 _ rfl) ?_
                  refine J_goto (tgt := 15) (by decide) (dk_X7_in 11 _ rfl) ?_
                  exact J_iret rfl rfl (dk_X7_in 15 _ rfl) ⟨rfl, rfl⟩
                show J _ _ _ _ _ _ _ _ _ [.int 1] _ _
                refine J_ifT (tgt := 14) (by decide) (dk_X7_foundling 7 _ rfl) (jI_ne (by decide : (1 : Int32).toInt = 1) (by decide : (0 : Int32).toInt = 0) (by omega)) ?_
                refine J_aload_n (i := 0) (a := 0) rfl rfl (dk_X7_foundling 14 _ rfl) ?_
                refine J_iload_n (i := 1) (a := 1) rfl rfl (dk_X7_foundling 15 _ rfl) ?_
                refine J_cV (rv := some (.int 1)) (h' := hM0) (d' := 11) (As := [.int 0]) ok_X7_isDay vi_X7_isDay cl_7_198 (n := 1) (by decide +kernel) rfl rfl rfl rfl (by decide) (by decide) (dk_X7_foundling 16 _ rfl) ?_ ?_
                · refine jCt_of ok_X7_isDay (fun _ _ => Nat.le_of_ble_eq_true rfl) (fun _ _ hq => by rw [hq.2]; first | exact Nat.le_refl _ | simp) ?_
                  show J _ _ _ _ _ _ _ _ [(0, .ref 0), (1, .int 0)] _ _ _
                  refine J_aload_n (i := 0) (a := 0) rfl rfl (dk_X7_isDay 0 _ rfl) ?_
                  refine J_iload_n (i := 1) (a := 1) rfl rfl (dk_X7_isDay 1 _ rfl) ?_
                  refine J_iconst (v := 0) (by decide) (dk_X7_isDay 2 _ rfl) ?_
                  refine J_bipush (v := 11) (by decide) (dk_X7_isDay 3 _ rfl) ?_
                  refine J_cV (rv := some (.int 1)) (h' := hM0) (d' := 10) (As := [.int 0, .int 0, .int 11]) ok_X7_in vi_X7_in cl_7_194 (n := 3) (by decide +kernel) rfl rfl rfl rfl (by decide) (by decide) (dk_X7_isDay 5 _ rfl) ?_ ?_
                  · refine jCt_of ok_X7_in (fun _ _ => Nat.le_of_ble_eq_true rfl) (fun _ _ hq => by rw [hq.2]; first | exact Nat.le_refl _ | simp) ?_
                    show J _ _ _ _ _ _ _ _ [(0, .ref 0), (1, .int 0), (2, .int 0), (3, .int 11)] _ _ _
                    refine J_iload_n (i := 1) (a := 1) rfl rfl (dk_X7_in 0 _ rfl) ?_
                    refine J_iload_n (i := 2) (a := 2) rfl rfl (dk_X7_in 1 _ rfl) ?_
                    refine J_icF (tgt := 14) (by decide) (dk_X7_in 2 _ rfl) (jI_nlt (by decide : (0 : Int32).toInt = 0) (by decide : (0 : Int32).toInt = 0) (by omega)) ?_
                    refine J_iload_n (i := 1) (a := 1) rfl rfl (dk_X7_in 5 _ rfl) ?_
                    refine J_iload_n (i := 3) (a := 3) rfl rfl (dk_X7_in 6 _ rfl) ?_
                    refine J_icF (tgt := 14) (by decide) (dk_X7_in 7 _ rfl) (jI_nlt (by decide : (11 : Int32).toInt = 11) (by decide : (0 : Int32).toInt = 0) (by omega)) ?_
                    refine J_iconst (v := 1) (by decide) (dk_X7_in 10 _ rfl) ?_
                    refine J_goto (tgt := 15) (by decide) (dk_X7_in 11 _ rfl) ?_
                    exact J_iret rfl rfl (dk_X7_in 15 _ rfl) ⟨rfl, rfl⟩
                  show J _ _ _ _ _ _ _ _ _ [.int 1] _ _
                  exact J_iret rfl rfl (dk_X7_isDay 8 _ rfl) ⟨rfl, rfl⟩
                show J _ _ _ _ _ _ _ _ _ [.int 1] _ _
                refine J_ifT (tgt := 26) (by decide) (dk_X7_foundling 19 _ rfl) (jI_ne (by decide : (1 : Int32).toInt = 1) (by decide : (0 : Int32).toInt = 0) (by omega)) ?_
                refine J_aload_n (i := 0) (a := 0) rfl rfl (dk_X7_foundling 26 _ rfl) ?_
                refine J_getf fl_7_7 rfl rfl (dk_X7_foundling 27 _ rfl) ?_
                refine J_bipush (v := 7) (by decide) (dk_X7_foundling 30 _ rfl) ?_
                refine J_icT (tgt := 38) (by decide) (dk_X7_foundling 32 _ rfl) (jI_ne (by decide : (0 : Int32).toInt = 0) (by decide : (7 : Int32).toInt = 7) (by omega)) ?_
                refine J_aload_n (i := 0) (a := 0) rfl rfl (dk_X7_foundling 38 _ rfl) ?_
                refine J_aload_n (i := 0) (a := 0) rfl rfl (dk_X7_foundling 39 _ rfl) ?_
                refine J_getf fl_7_7 rfl rfl (dk_X7_foundling 40 _ rfl) ?_
                refine J_iconst (v := 0) (by decide) (dk_X7_foundling 43 _ rfl) ?_
                refine J_iconst (v := 0) (by decide) (dk_X7_foundling 44 _ rfl) ?_
                refine J_iconst (v := 0) (by decide) (dk_X7_foundling 45 _ rfl) ?_
                refine J_iload_n (i := 1) (a := 1) rfl rfl (dk_X7_foundling 46 _ rfl) ?_
                refine J_cV (rv := none) (h' := hC7_10) (d' := 11) (As := [.int 0, .int 0, .int 0, .int 0, .int 0]) ok_X7_lay vi_X7_lay cl_7_202 (n := 5) (by decide +kernel) rfl rfl rfl rfl (by decide) (by decide) (dk_X7_foundling 47 _ rfl) (jev_ct (M := m_X7_lay) rfl rc7_10) ?_
                show J _ _ _ _ _ _ _ _ _ [] _ _
                refine J_aload_n (i := 0) (a := 0) rfl rfl (dk_X7_foundling 50 _ rfl) ?_
                refine J_dup rfl (dk_X7_foundling 51 _ rfl) ?_
                refine J_getf fl_7_7 rfl rfl (dk_X7_foundling 52 _ rfl) ?_
                refine J_iconst (v := 1) (by decide) (dk_X7_foundling 55 _ rfl) ?_
                refine J_iaddC (v := 1) (by decide) (dk_X7_foundling 56 _ rfl) ?_
                refine J_putf fl_7_7 rfl (fun q hq => by cases hq; rfl) trivial (Nat.le_of_ble_eq_true rfl) (dk_X7_foundling 57 _ rfl) ?_
                refine J_aload_n (i := 0) (a := 0) rfl rfl (dk_X7_foundling 60 _ rfl) ?_
                refine J_aload_n (i := 0) (a := 0) rfl rfl (dk_X7_foundling 61 _ rfl) ?_
                refine J_getf fl_7_7 rfl rfl (dk_X7_foundling 62 _ rfl) ?_
                refine J_iconst (v := 1) (by decide) (dk_X7_foundling 65 _ rfl) ?_
                refine J_isubC (v := 0) (by decide) (dk_X7_foundling 66 _ rfl) ?_
                refine J_iconst (v := 1) (by decide) (dk_X7_foundling 67 _ rfl) ?_
                refine J_cV (rv := none) (h' := hC7_11) (d' := 11) (As := [.int 0, .int 1]) ok_X7_layBest vi_X7_layBest cl_7_326 (n := 2) (by decide +kernel) rfl rfl rfl rfl (by decide) (by decide) (dk_X7_foundling 68 _ rfl) (jev_ct (M := m_X7_layBest) rfl rc7_11) ?_
                show J _ _ _ _ _ _ _ _ _ [] _ _
                refine J_aload_n (i := 0) (a := 0) rfl rfl (dk_X7_foundling 71 _ rfl) ?_
                refine J_dup rfl (dk_X7_foundling 72 _ rfl) ?_
                refine J_getf fl_7_7 rfl rfl (dk_X7_foundling 73 _ rfl) ?_
                refine J_iconst (v := 1) (by decide) (dk_X7_foundling 76 _ rfl) ?_
                refine J_isubC (v := 0) (by decide) (dk_X7_foundling 77 _ rfl) ?_
                refine J_putf fl_7_7 rfl (fun q hq => by cases hq; rfl) trivial (Nat.le_of_ble_eq_true rfl) (dk_X7_foundling 78 _ rfl) ?_
                refine J_iload_n (i := 2) (a := 2) rfl rfl (dk_X7_foundling 81 _ rfl) ?_
                refine J_ifF (tgt := 92) (by decide) (dk_X7_foundling 82 _ rfl) (fun z => z (jI_eq (by decide : (0 : Int32).toInt = 0) (by decide : (0 : Int32).toInt = 0) (by omega))) ?_
                refine J_aload_n (i := 0) (a := 0) rfl rfl (dk_X7_foundling 85 _ rfl) ?_
                refine J_getf fl_7_114 rfl rfl (dk_X7_foundling 86 _ rfl) ?_
                refine J_goto (tgt := 96) (by decide) (dk_X7_foundling 89 _ rfl) ?_
                exact J_iret rfl rfl (dk_X7_foundling 96 _ rfl) ⟨rfl, rfl⟩
            · by_cases c7 : (d : Int32).toInt = 1
              · obtain rfl : d = 1 := jI_eq rfl (by decide) c7
                refine ⟨0, ?_, ?_⟩
                · refine jCt_of ok_X6_foundling (fun _ _ => Nat.le_of_ble_eq_true rfl) (fun _ _ hq => Nat.le_of_eq (lX.trans hq.2.symm)) ?_
                  show J _ _ _ _ _ _ _ _ [(0, .ref 0), (1, .int 1), (2, .int 0)] _ _ _
                  refine J_iload_n (i := 2) (a := 2) rfl rfl (dk_X6_foundling 0 _ rfl) ?_
                  refine J_ifF (tgt := 9) (by decide) (dk_X6_foundling 1 _ rfl) (jI_nlt (by decide : (0 : Int32).toInt = 0) (by decide : (0 : Int32).toInt = 0) (by omega)) ?_
                  refine J_iload_n (i := 2) (a := 2) rfl rfl (dk_X6_foundling 4 _ rfl) ?_
                  refine J_iconst (v := 1) (by decide) (dk_X6_foundling 5 _ rfl) ?_
                  refine J_icT (tgt := 12) (by decide) (dk_X6_foundling 6 _ rfl) (jI_le (by decide : (0 : Int32).toInt = 0) (by decide : (1 : Int32).toInt = 1) (by omega)) ?_
                  refine J_iload_n (i := 1) (a := 1) rfl rfl (dk_X6_foundling 12 _ rfl) ?_
                  refine J_cS (rv := some (.int 1)) (h' := hN0) (d' := 11) (As := [.int 1]) ok_X6_isDay st_X6_isDay cl_6_67 rfl (n := 1) (by decide +kernel) rfl (by decide) (by decide) (dk_X6_foundling 13 _ rfl) ?_ ?_
                  · refine jCt_of ok_X6_isDay (fun _ _ => Nat.le_of_ble_eq_true rfl) (fun _ _ hq => by rw [hq.2]; first | exact Nat.le_refl _ | simp) ?_
                    show J _ _ _ _ _ _ _ _ [(0, .int 1)] _ _ _
                    refine J_iload_n (i := 0) (a := 0) rfl rfl (dk_X6_isDay 0 _ rfl) ?_
                    refine J_ifF (tgt := 14) (by decide) (dk_X6_isDay 1 _ rfl) (jI_nlt (by decide : (1 : Int32).toInt = 1) (by decide : (0 : Int32).toInt = 0) (by omega)) ?_
                    refine J_iload_n (i := 0) (a := 0) rfl rfl (dk_X6_isDay 4 _ rfl) ?_
                    refine J_bipush (v := 12) (by decide) (dk_X6_isDay 5 _ rfl) ?_
                    refine J_icF (tgt := 14) (by decide) (dk_X6_isDay 7 _ rfl) (jI_nle (by decide : (12 : Int32).toInt = 12) (by decide : (1 : Int32).toInt = 1) (by omega)) ?_
                    refine J_iconst (v := 1) (by decide) (dk_X6_isDay 10 _ rfl) ?_
                    refine J_goto (tgt := 15) (by decide) (dk_X6_isDay 11 _ rfl) ?_
                    exact J_iret rfl rfl (dk_X6_isDay 15 _ rfl) ⟨rfl, rfl⟩
                  show J _ _ _ _ _ _ _ _ _ [.int 1] _ _
                  refine J_ifT (tgt := 22) (by decide) (dk_X6_foundling 16 _ rfl) (jI_ne (by decide : (1 : Int32).toInt = 1) (by decide : (0 : Int32).toInt = 0) (by omega)) ?_
                  refine J_aload_n (i := 0) (a := 0) rfl rfl (dk_X6_foundling 22 _ rfl) ?_
                  refine J_getf fl_6_47 rfl rfl (dk_X6_foundling 23 _ rfl) ?_
                  refine J_getf fl_6_71 rfl rfl (dk_X6_foundling 26 _ rfl) ?_
                  refine J_bipush (v := 7) (by decide) (dk_X6_foundling 29 _ rfl) ?_
                  refine J_icT (tgt := 37) (by decide) (dk_X6_foundling 31 _ rfl) (jI_lt (by decide : (0 : Int32).toInt = 0) (by decide : (7 : Int32).toInt = 7) (by omega)) ?_
                  refine J_aload_n (i := 0) (a := 0) rfl rfl (dk_X6_foundling 37 _ rfl) ?_
                  refine J_getf fl_6_54 rfl rfl (dk_X6_foundling 38 _ rfl) ?_
                  refine J_aload_n (i := 0) (a := 0) rfl rfl (dk_X6_foundling 41 _ rfl) ?_
                  refine J_getf fl_6_47 rfl rfl (dk_X6_foundling 42 _ rfl) ?_
                  refine J_cV (rv := none) (h' := hN0) (d' := 11) (As := [.ref 14]) ok_X2_copy vi_X2_copy cl_6_185 (n := 1) (by decide +kernel) rfl rfl rfl rfl (by decide) (by decide) (dk_X6_foundling 45 _ rfl) (jev_ct (M := m_X2_copy) rfl rc6_0) ?_
                  show J _ _ _ _ _ _ _ _ _ [] _ _
                  refine J_aload_n (i := 0) (a := 0) rfl rfl (dk_X6_foundling 48 _ rfl) ?_
                  refine J_getf fl_6_54 rfl rfl (dk_X6_foundling 49 _ rfl) ?_
                  refine J_iconst (v := 0) (by decide) (dk_X6_foundling 52 _ rfl) ?_
                  refine J_iconst (v := 0) (by decide) (dk_X6_foundling 53 _ rfl) ?_
                  refine J_iconst (v := 0) (by decide) (dk_X6_foundling 54 _ rfl) ?_
                  refine J_iload_n (i := 1) (a := 1) rfl rfl (dk_X6_foundling 55 _ rfl) ?_
                  refine J_cV (rv := none) (h' := hC6_13) (d' := 11) (As := [.int 0, .int 0, .int 0, .int 1]) ok_X2_add vi_X2_add cl_6_75 (n := 4) (by decide +kernel) rfl rfl rfl rfl (by decide) (by decide) (dk_X6_foundling 56 _ rfl) (jev_ct (M := m_X2_add) rfl rc6_13) ?_
                  show J _ _ _ _ _ _ _ _ _ [] _ _
                  refine J_aload_n (i := 0) (a := 0) rfl rfl (dk_X6_foundling 59 _ rfl) ?_
                  refine J_aload_n (i := 0) (a := 0) rfl rfl (dk_X6_foundling 60 _ rfl) ?_
                  refine J_getf fl_6_54 rfl rfl (dk_X6_foundling 61 _ rfl) ?_
                  refine J_getf fl_6_103 rfl rfl (dk_X6_foundling 64 _ rfl) ?_
                  refine J_aload_n (i := 0) (a := 0) rfl rfl (dk_X6_foundling 67 _ rfl) ?_
                  refine J_getf fl_6_54 rfl rfl (dk_X6_foundling 68 _ rfl) ?_
                  refine J_getf fl_6_71 rfl rfl (dk_X6_foundling 71 _ rfl) ?_
                  refine J_iconst (v := 1) (by decide) (dk_X6_foundling 74 _ rfl) ?_
                  refine J_isubC (v := 0) (by decide) (dk_X6_foundling 75 _ rfl) ?_
                  refine J_iload_n (i := 2) (a := 2) rfl rfl (dk_X6_foundling 76 _ rfl) ?_
                  refine J_cV (rv := some (.int 0)) (h' := hC6_14) (d' := 11) (As := [.ref 35, .int 0, .int 0]) ok_X6_bestOf vi_X6_bestOf cl_6_188 (n := 3) (by decide +kernel) rfl rfl rfl rfl (by decide) (by decide) (dk_X6_foundling 77 _ rfl) ?_ ?_
                  · refine jCt_of ok_X6_bestOf (fun _ _ => Nat.le_of_ble_eq_true rfl) (fun _ _ hq => by rw [hq.2]; first | exact Nat.le_refl _ | simp) ?_
                    show J _ _ _ _ _ _ _ _ [(0, .ref 0), (1, .ref 35), (2, .int 0), (3, .int 0)] _ _ _
                    refine J_aload_n (i := 0) (a := 0) rfl rfl (dk_X6_bestOf 0 _ rfl) ?_
                    refine J_aload_n (i := 1) (a := 1) rfl rfl (dk_X6_bestOf 1 _ rfl) ?_
                    refine J_iload_n (i := 2) (a := 2) rfl rfl (dk_X6_bestOf 2 _ rfl) ?_
                    refine J_aload_n (i := 0) (a := 0) rfl rfl (dk_X6_bestOf 3 _ rfl) ?_
                    refine J_getf fl_6_54 rfl rfl (dk_X6_bestOf 4 _ rfl) ?_
                    refine J_getf fl_6_83 rfl rfl (dk_X6_bestOf 7 _ rfl) ?_
                    refine J_getf fl_6_87 rfl rfl (dk_X6_bestOf 10 _ rfl) ?_
                    refine J_cV (rv := none) (h' := hC6_14) (d' := 10) (As := [.ref 35, .int 0, .int 10]) ok_X6_tryDays vi_X6_tryDays cl_6_192 (n := 3) (by decide +kernel) rfl rfl rfl rfl (by decide) (by decide) (dk_X6_bestOf 13 _ rfl) (jev_ct (M := m_X6_tryDays) rfl rc6_14) ?_
                    show J _ _ _ _ _ _ _ _ _ [] _ _
                    refine J_aload_n (i := 0) (a := 0) rfl rfl (dk_X6_bestOf 16 _ rfl) ?_
                    refine J_cV (rv := some (.int 0)) (h' := hC6_14) (d' := 10) (As := []) ok_X6_firstMost vi_X6_firstMost cl_6_269 (n := 0) (by decide +kernel) rfl rfl rfl rfl (by decide) (by decide) (dk_X6_bestOf 17 _ rfl) (jev_ct (M := m_X6_firstMost) rfl rc6_15) ?_
                    show J _ _ _ _ _ _ _ _ _ [.int 0] _ _
                    refine J_istore (i := 4) (by decide) (dk_X6_bestOf 20 _ rfl) ?_
                    show J _ _ _ _ _ _ _ _ [(4, .int 0), (0, .ref 0), (1, .ref 35), (2, .int 0), (3, .int 0)] _ _ _
                    refine J_iload_n (i := 3) (a := 3) rfl rfl (dk_X6_bestOf 22 _ rfl) ?_
                    refine J_ifF (tgt := 31) (by decide) (dk_X6_bestOf 23 _ rfl) (fun z => z (jI_eq (by decide : (0 : Int32).toInt = 0) (by decide : (0 : Int32).toInt = 0) (by omega))) ?_
                    refine J_iload (i := 4) rfl (dk_X6_bestOf 26 _ rfl) ?_
                    refine J_goto (tgt := 38) (by decide) (dk_X6_bestOf 28 _ rfl) ?_
                    exact J_iret rfl rfl (dk_X6_bestOf 38 _ rfl) ⟨rfl, rfl⟩
                  show J _ _ _ _ _ _ _ _ _ [.int 0] _ _
                  exact J_iret rfl rfl (dk_X6_foundling 80 _ rfl) ⟨rfl, rfl⟩
                · refine jCt_of ok_X7_foundling (fun _ _ => Nat.le_of_ble_eq_true rfl) (fun _ _ hq => Nat.le_of_eq (lM.trans hq.2.symm)) ?_
                  show J _ _ _ _ _ _ _ _ [(0, .ref 0), (1, .int 1), (2, .int 0)] _ _ _
                  refine J_aload_n (i := 0) (a := 0) rfl rfl (dk_X7_foundling 0 _ rfl) ?_
                  refine J_iload_n (i := 2) (a := 2) rfl rfl (dk_X7_foundling 1 _ rfl) ?_
                  refine J_iconst (v := 0) (by decide) (dk_X7_foundling 2 _ rfl) ?_
                  refine J_iconst (v := 1) (by decide) (dk_X7_foundling 3 _ rfl) ?_
                  refine J_cV (rv := some (.int 1)) (h' := hM0) (d' := 11) (As := [.int 0, .int 0, .int 1]) ok_X7_in vi_X7_in cl_7_194 (n := 3) (by decide +kernel) rfl rfl rfl rfl (by decide) (by decide) (dk_X7_foundling 4 _ rfl) ?_ ?_
                  · refine jCt_of ok_X7_in (fun _ _ => Nat.le_of_ble_eq_true rfl) (fun _ _ hq => by rw [hq.2]; first | exact Nat.le_refl _ | simp) ?_
                    show J _ _ _ _ _ _ _ _ [(0, .ref 0), (1, .int 0), (2, .int 0), (3, .int 1)] _ _ _
                    refine J_iload_n (i := 1) (a := 1) rfl rfl (dk_X7_in 0 _ rfl) ?_
                    refine J_iload_n (i := 2) (a := 2) rfl rfl (dk_X7_in 1 _ rfl) ?_
                    refine J_icF (tgt := 14) (by decide) (dk_X7_in 2 _ rfl) (jI_nlt (by decide : (0 : Int32).toInt = 0) (by decide : (0 : Int32).toInt = 0) (by omega)) ?_
                    refine J_iload_n (i := 1) (a := 1) rfl rfl (dk_X7_in 5 _ rfl) ?_
                    refine J_iload_n (i := 3) (a := 3) rfl rfl (dk_X7_in 6 _ rfl) ?_
                    refine J_icF (tgt := 14) (by decide) (dk_X7_in 7 _ rfl) (jI_nlt (by decide : (1 : Int32).toInt = 1) (by decide : (0 : Int32).toInt = 0) (by omega)) ?_
                    refine J_iconst (v := 1) (by decide) (dk_X7_in 10 _ rfl) ?_
                    refine J_goto (tgt := 15) (by decide) (dk_X7_in 11 _ rfl) ?_
                    exact J_iret rfl rfl (dk_X7_in 15 _ rfl) ⟨rfl, rfl⟩
                  show J _ _ _ _ _ _ _ _ _ [.int 1] _ _
                  refine J_ifT (tgt := 14) (by decide) (dk_X7_foundling 7 _ rfl) (jI_ne (by decide : (1 : Int32).toInt = 1) (by decide : (0 : Int32).toInt = 0) (by omega)) ?_
                  refine J_aload_n (i := 0) (a := 0) rfl rfl (dk_X7_foundling 14 _ rfl) ?_
                  refine J_iload_n (i := 1) (a := 1) rfl rfl (dk_X7_foundling 15 _ rfl) ?_
                  refine J_cV (rv := some (.int 1)) (h' := hM0) (d' := 11) (As := [.int 1]) ok_X7_isDay vi_X7_isDay cl_7_198 (n := 1) (by decide +kernel) rfl rfl rfl rfl (by decide) (by decide) (dk_X7_foundling 16 _ rfl) ?_ ?_
                  · refine jCt_of ok_X7_isDay (fun _ _ => Nat.le_of_ble_eq_true rfl) (fun _ _ hq => by rw [hq.2]; first | exact Nat.le_refl _ | simp) ?_
                    show J _ _ _ _ _ _ _ _ [(0, .ref 0), (1, .int 1)] _ _ _
                    refine J_aload_n (i := 0) (a := 0) rfl rfl (dk_X7_isDay 0 _ rfl) ?_
                    refine J_iload_n (i := 1) (a := 1) rfl rfl (dk_X7_isDay 1 _ rfl) ?_
                    refine J_iconst (v := 0) (by decide) (dk_X7_isDay 2 _ rfl) ?_
                    refine J_bipush (v := 11) (by decide) (dk_X7_isDay 3 _ rfl) ?_
                    refine J_cV (rv := some (.int 1)) (h' := hM0) (d' := 10) (As := [.int 1, .int 0, .int 11]) ok_X7_in vi_X7_in cl_7_194 (n := 3) (by decide +kernel) rfl rfl rfl rfl (by decide) (by decide) (dk_X7_isDay 5 _ rfl) ?_ ?_
                    · refine jCt_of ok_X7_in (fun _ _ => Nat.le_of_ble_eq_true rfl) (fun _ _ hq => by rw [hq.2]; first | exact Nat.le_refl _ | simp) ?_
                      show J _ _ _ _ _ _ _ _ [(0, .ref 0), (1, .int 1), (2, .int 0), (3, .int 11)] _ _ _
                      refine J_iload_n (i := 1) (a := 1) rfl rfl (dk_X7_in 0 _ rfl) ?_
                      refine J_iload_n (i := 2) (a := 2) rfl rfl (dk_X7_in 1 _ rfl) ?_
                      refine J_icF (tgt := 14) (by decide) (dk_X7_in 2 _ rfl) (jI_nlt (by decide : (1 : Int32).toInt = 1) (by decide : (0 : Int32).toInt = 0) (by omega)) ?_
                      refine J_iload_n (i := 1) (a := 1) rfl rfl (dk_X7_in 5 _ rfl) ?_
                      refine J_iload_n (i := 3) (a := 3) rfl rfl (dk_X7_in 6 _ rfl) ?_
                      refine J_icF (tgt := 14) (by decide) (dk_X7_in 7 _ rfl) (jI_nlt (by decide : (11 : Int32).toInt = 11) (by decide : (1 : Int32).toInt = 1) (by omega)) ?_
                      refine J_iconst (v := 1) (by decide) (dk_X7_in 10 _ rfl) ?_
                      refine J_goto (tgt := 15) (by decide) (dk_X7_in 11 _ rfl) ?_
                      exact J_iret rfl rfl (dk_X7_in 15 _ rfl) ⟨rfl, rfl⟩
                    show J _ _ _ _ _ _ _ _ _ [.int 1] _ _
                    exact J_iret rfl rfl (dk_X7_isDay 8 _ rfl) ⟨rfl, rfl⟩
                  show J _ _ _ _ _ _ _ _ _ [.int 1] _ _
                  refine J_ifT (tgt := 26) (by decide) (dk_X7_foundling 19 _ rfl) (jI_ne (by decide : (1 : Int32).toInt = 1) (by decide : (0 : Int32).toInt = 0) (by omega)) ?_
                  refine J_aload_n (i := 0) (a := 0) rfl rfl (dk_X7_foundling 26 _ rfl) ?_
                  refine J_getf fl_7_7 rfl rfl (dk_X7_foundling 27 _ rfl) ?_
                  refine J_bipush (v := 7) (by decide) (dk_X7_foundling 30 _ rfl) ?_
                  refine J_icT (tgt := 38) (by decide) (dk_X7_foundling 32 _ rfl) (jI_ne (by decide : (0 : Int32).toInt = 0) (by decide : (7 : Int32).toInt = 7) (by omega)) ?_
                  refine J_aload_n (i := 0) (a := 0) rfl rfl (dk_X7_foundling 38 _ rfl) ?_
                  refine J_aload_n (i := 0) (a := 0) rfl rfl (dk_X7_foundling 39 _ rfl) ?_
                  refine J_getf fl_7_7 rfl rfl (dk_X7_foundling 40 _ rfl) ?_
                  refine J_iconst (v := 0) (by decide) (dk_X7_foundling 43 _ rfl) ?_
                  refine J_iconst (v := 0) (by decide) (dk_X7_foundling 44 _ rfl) ?_
                  refine J_iconst (v := 0) (by decide) (dk_X7_foundling 45 _ rfl) ?_
                  refine J_iload_n (i := 1) (a := 1) rfl rfl (dk_X7_foundling 46 _ rfl) ?_
                  refine J_cV (rv := none) (h' := hC7_16) (d' := 11) (As := [.int 0, .int 0, .int 0, .int 0, .int 1]) ok_X7_lay vi_X7_lay cl_7_202 (n := 5) (by decide +kernel) rfl rfl rfl rfl (by decide) (by decide) (dk_X7_foundling 47 _ rfl) (jev_ct (M := m_X7_lay) rfl rc7_16) ?_
                  show J _ _ _ _ _ _ _ _ _ [] _ _
                  refine J_aload_n (i := 0) (a := 0) rfl rfl (dk_X7_foundling 50 _ rfl) ?_
                  refine J_dup rfl (dk_X7_foundling 51 _ rfl) ?_
                  refine J_getf fl_7_7 rfl rfl (dk_X7_foundling 52 _ rfl) ?_
                  refine J_iconst (v := 1) (by decide) (dk_X7_foundling 55 _ rfl) ?_
                  refine J_iaddC (v := 1) (by decide) (dk_X7_foundling 56 _ rfl) ?_
                  refine J_putf fl_7_7 rfl (fun q hq => by cases hq; rfl) trivial (Nat.le_of_ble_eq_true rfl) (dk_X7_foundling 57 _ rfl) ?_
                  refine J_aload_n (i := 0) (a := 0) rfl rfl (dk_X7_foundling 60 _ rfl) ?_
                  refine J_aload_n (i := 0) (a := 0) rfl rfl (dk_X7_foundling 61 _ rfl) ?_
                  refine J_getf fl_7_7 rfl rfl (dk_X7_foundling 62 _ rfl) ?_
                  refine J_iconst (v := 1) (by decide) (dk_X7_foundling 65 _ rfl) ?_
                  refine J_isubC (v := 0) (by decide) (dk_X7_foundling 66 _ rfl) ?_
                  refine J_iconst (v := 1) (by decide) (dk_X7_foundling 67 _ rfl) ?_
                  refine J_cV (rv := none) (h' := hC7_17) (d' := 11) (As := [.int 0, .int 1]) ok_X7_layBest vi_X7_layBest cl_7_326 (n := 2) (by decide +kernel) rfl rfl rfl rfl (by decide) (by decide) (dk_X7_foundling 68 _ rfl) (jev_ct (M := m_X7_layBest) rfl rc7_17) ?_
                  show J _ _ _ _ _ _ _ _ _ [] _ _
                  refine J_aload_n (i := 0) (a := 0) rfl rfl (dk_X7_foundling 71 _ rfl) ?_
                  refine J_dup rfl (dk_X7_foundling 72 _ rfl) ?_
                  refine J_getf fl_7_7 rfl rfl (dk_X7_foundling 73 _ rfl) ?_
                  refine J_iconst (v := 1) (by decide) (dk_X7_foundling 76 _ rfl) ?_
                  refine J_isubC (v := 0) (by decide) (dk_X7_foundling 77 _ rfl) ?_
                  refine J_putf fl_7_7 rfl (fun q hq => by cases hq; rfl) trivial (Nat.le_of_ble_eq_true rfl) (dk_X7_foundling 78 _ rfl) ?_
                  refine J_iload_n (i := 2) (a := 2) rfl rfl (dk_X7_foundling 81 _ rfl) ?_
                  refine J_ifF (tgt := 92) (by decide) (dk_X7_foundling 82 _ rfl) (fun z => z (jI_eq (by decide : (0 : Int32).toInt = 0) (by decide : (0 : Int32).toInt = 0) (by omega))) ?_
                  refine J_aload_n (i := 0) (a := 0) rfl rfl (dk_X7_foundling 85 _ rfl) ?_
                  refine J_getf fl_7_114 rfl rfl (dk_X7_foundling 86 _ rfl) ?_
                  refine J_goto (tgt := 96) (by decide) (dk_X7_foundling 89 _ rfl) ?_
                  exact J_iret rfl rfl (dk_X7_foundling 96 _ rfl) ⟨rfl, rfl⟩
              · by_cases c8 : (d : Int32).toInt = 2
                · obtain rfl : d = 2 := jI_eq rfl (by decide) c8
                  refine ⟨0, ?_, ?_⟩
                  · refine jCt_of ok_X6_foundling (fun _ _ => Nat.le_of_ble_eq_true rfl) (fun _ _ hq => Nat.le_of_eq (lX.trans hq.2.symm)) ?_
                    show J _ _ _ _ _ _ _ _ [(0, .ref 0), (1, .int 2), (2, .int 0)] _ _ _
                    refine J_iload_n (i := 2) (a := 2) rfl rfl (dk_X6_foundling 0 _ rfl) ?_
                    refine J_ifF (tgt := 9) (by decide) (dk_X6_foundling 1 _ rfl) (jI_nlt (by decide : (0 : Int32).toInt = 0) (by decide : (0 : Int32).toInt = 0) (by omega)) ?_
                    refine J_iload_n (i := 2) (a := 2) rfl rfl (dk_X6_foundling 4 _ rfl) ?_
                    refine J_iconst (v := 1) (by decide) (dk_X6_foundling 5 _ rfl) ?_
                    refine J_icT (tgt := 12) (by decide) (dk_X6_foundling 6 _ rfl) (jI_le (by decide : (0 : Int32).toInt = 0) (by decide : (1 : Int32).toInt = 1) (by omega)) ?_
                    refine J_iload_n (i := 1) (a := 1) rfl rfl (dk_X6_foundling 12 _ rfl) ?_
                    refine J_cS (rv := some (.int 1)) (h' := hN0) (d' := 11) (As := [.int 2]) ok_X6_isDay st_X6_isDay cl_6_67 rfl (n := 1) (by decide +kernel) rfl (by decide) (by decide) (dk_X6_foundling 13 _ rfl) ?_ ?_
                    · refine jCt_of ok_X6_isDay (fun _ _ => Nat.le_of_ble_eq_true rfl) (fun _ _ hq => by rw [hq.2]; first | exact Nat.le_refl _ | simp) ?_
                      show J _ _ _ _ _ _ _ _ [(0, .int 2)] _ _ _
                      refine J_iload_n (i := 0) (a := 0) rfl rfl (dk_X6_isDay 0 _ rfl) ?_
                      refine J_ifF (tgt := 14) (by decide) (dk_X6_isDay 1 _ rfl) (jI_nlt (by decide : (2 : Int32).toInt = 2) (by decide : (0 : Int32).toInt = 0) (by omega)) ?_
                      refine J_iload_n (i := 0) (a := 0) rfl rfl (dk_X6_isDay 4 _ rfl) ?_
                      refine J_bipush (v := 12) (by decide) (dk_X6_isDay 5 _ rfl) ?_
                      refine J_icF (tgt := 14) (by decide) (dk_X6_isDay 7 _ rfl) (jI_nle (by decide : (12 : Int32).toInt = 12) (by decide : (2 : Int32).toInt = 2) (by omega)) ?_
                      refine J_iconst (v := 1) (by decide) (dk_X6_isDay 10 _ rfl) ?_
                      refine J_goto (tgt := 15) (by decide) (dk_X6_isDay 11 _ rfl) ?_
                      exact J_iret rfl rfl (dk_X6_isDay 15 _ rfl) ⟨rfl, rfl⟩
                    show J _ _ _ _ _ _ _ _ _ [.int 1] _ _
                    refine J_ifT (tgt := 22) (by decide) (dk_X6_foundling 16 _ rfl) (jI_ne (by decide : (1 : Int32).toInt = 1) (by decide : (0 : Int32).toInt = 0) (by omega)) ?_
                    refine J_aload_n (i := 0) (a := 0) rfl rfl (dk_X6_foundling 22 _ rfl) ?_
                    refine J_getf fl_6_47 rfl rfl (dk_X6_foundling 23 _ rfl) ?_
                    refine J_getf fl_6_71 rfl rfl (dk_X6_foundling 26 _ rfl) ?_
                    refine J_bipush (v := 7) (by decide) (dk_X6_foundling 29 _ rfl) ?_
                    refine J_icT (tgt := 37) (by decide) (dk_X6_foundling 31 _ rfl) (jI_lt (by decide : (0 : Int32).toInt = 0) (by decide : (7 : Int32).toInt = 7) (by omega)) ?_
                    refine J_aload_n (i := 0) (a := 0) rfl rfl (dk_X6_foundling 37 _ rfl) ?_
                    refine J_getf fl_6_54 rfl rfl (dk_X6_foundling 38 _ rfl) ?_
                    refine J_aload_n (i := 0) (a := 0) rfl rfl (dk_X6_foundling 41 _ rfl) ?_
                    refine J_getf fl_6_47 rfl rfl (dk_X6_foundling 42 _ rfl) ?_
                    refine J_cV (rv := none) (h' := hN0) (d' := 11) (As := [.ref 14]) ok_X2_copy vi_X2_copy cl_6_185 (n := 1) (by decide +kernel) rfl rfl rfl rfl (by decide) (by decide) (dk_X6_foundling 45 _ rfl) (jev_ct (M := m_X2_copy) rfl rc6_0) ?_
                    show J _ _ _ _ _ _ _ _ _ [] _ _
                    refine J_aload_n (i := 0) (a := 0) rfl rfl (dk_X6_foundling 48 _ rfl) ?_
                    refine J_getf fl_6_54 rfl rfl (dk_X6_foundling 49 _ rfl) ?_
                    refine J_iconst (v := 0) (by decide) (dk_X6_foundling 52 _ rfl) ?_
                    refine J_iconst (v := 0) (by decide) (dk_X6_foundling 53 _ rfl) ?_
                    refine J_iconst (v := 0) (by decide) (dk_X6_foundling 54 _ rfl) ?_
                    refine J_iload_n (i := 1) (a := 1) rfl rfl (dk_X6_foundling 55 _ rfl) ?_
                    refine J_cV (rv := none) (h' := hC6_19) (d' := 11) (As := [.int 0, .int 0, .int 0, .int 2]) ok_X2_add vi_X2_add cl_6_75 (n := 4) (by decide +kernel) rfl rfl rfl rfl (by decide) (by decide) (dk_X6_foundling 56 _ rfl) (jev_ct (M := m_X2_add) rfl rc6_19) ?_
                    show J _ _ _ _ _ _ _ _ _ [] _ _
                    refine J_aload_n (i := 0) (a := 0) rfl rfl (dk_X6_foundling 59 _ rfl) ?_
                    refine J_aload_n (i := 0) (a := 0) rfl rfl (dk_X6_foundling 60 _ rfl) ?_
                    refine J_getf fl_6_54 rfl rfl (dk_X6_foundling 61 _ rfl) ?_
                    refine J_getf fl_6_103 rfl rfl (dk_X6_foundling 64 _ rfl) ?_
                    refine J_aload_n (i := 0) (a := 0) rfl rfl (dk_X6_foundling 67 _ rfl) ?_
                    refine J_getf fl_6_54 rfl rfl (dk_X6_foundling 68 _ rfl) ?_
                    refine J_getf fl_6_71 rfl rfl (dk_X6_foundling 71 _ rfl) ?_
                    refine J_iconst (v := 1) (by decide) (dk_X6_foundling 74 _ rfl) ?_
                    refine J_isubC (v := 0) (by decide) (dk_X6_foundling 75 _ rfl) ?_
                    refine J_iload_n (i := 2) (a := 2) rfl rfl (dk_X6_foundling 76 _ rfl) ?_
                    refine J_cV (rv := some (.int 0)) (h' := hC6_20) (d' := 11) (As := [.ref 35, .int 0, .int 0]) ok_X6_bestOf vi_X6_bestOf cl_6_188 (n := 3) (by decide +kernel) rfl rfl rfl rfl (by decide) (by decide) (dk_X6_foundling 77 _ rfl) ?_ ?_
                    · refine jCt_of ok_X6_bestOf (fun _ _ => Nat.le_of_ble_eq_true rfl) (fun _ _ hq => by rw [hq.2]; first | exact Nat.le_refl _ | simp) ?_
                      show J _ _ _ _ _ _ _ _ [(0, .ref 0), (1, .ref 35), (2, .int 0), (3, .int 0)] _ _ _
                      refine J_aload_n (i := 0) (a := 0) rfl rfl (dk_X6_bestOf 0 _ rfl) ?_
                      refine J_aload_n (i := 1) (a := 1) rfl rfl (dk_X6_bestOf 1 _ rfl) ?_
                      refine J_iload_n (i := 2) (a := 2) rfl rfl (dk_X6_bestOf 2 _ rfl) ?_
                      refine J_aload_n (i := 0) (a := 0) rfl rfl (dk_X6_bestOf 3 _ rfl) ?_
                      refine J_getf fl_6_54 rfl rfl (dk_X6_bestOf 4 _ rfl) ?_
                      refine J_getf fl_6_83 rfl rfl (dk_X6_bestOf 7 _ rfl) ?_
                      refine J_getf fl_6_87 rfl rfl (dk_X6_bestOf 10 _ rfl) ?_
                      refine J_cV (rv := none) (h' := hC6_20) (d' := 10) (As := [.ref 35, .int 0, .int 10]) ok_X6_tryDays vi_X6_tryDays cl_6_192 (n := 3) (by decide +kernel) rfl rfl rfl rfl (by decide) (by decide) (dk_X6_bestOf 13 _ rfl) (jev_ct (M := m_X6_tryDays) rfl rc6_20) ?_
                      show J _ _ _ _ _ _ _ _ _ [] _ _
                      refine J_aload_n (i := 0) (a := 0) rfl rfl (dk_X6_bestOf 16 _ rfl) ?_
                      refine J_cV (rv := some (.int 0)) (h' := hC6_20) (d' := 10) (As := []) ok_X6_firstMost vi_X6_firstMost cl_6_269 (n := 0) (by decide +kernel) rfl rfl rfl rfl (by decide) (by decide) (dk_X6_bestOf 17 _ rfl) (jev_ct (M := m_X6_firstMost) rfl rc6_21) ?_
                      show J _ _ _ _ _ _ _ _ _ [.int 0] _ _
                      refine J_istore (i := 4) (by decide) (dk_X6_bestOf 20 _ rfl) ?_
                      show J _ _ _ _ _ _ _ _ [(4, .int 0), (0, .ref 0), (1, .ref 35), (2, .int 0), (3, .int 0)] _ _ _
                      refine J_iload_n (i := 3) (a := 3) rfl rfl (dk_X6_bestOf 22 _ rfl) ?_
                      refine J_ifF (tgt := 31) (by decide) (dk_X6_bestOf 23 _ rfl) (fun z => z (jI_eq (by decide : (0 : Int32).toInt = 0) (by decide : (0 : Int32).toInt = 0) (by omega))) ?_
                      refine J_iload (i := 4) rfl (dk_X6_bestOf 26 _ rfl) ?_
                      refine J_goto (tgt := 38) (by decide) (dk_X6_bestOf 28 _ rfl) ?_
                      exact J_iret rfl rfl (dk_X6_bestOf 38 _ rfl) ⟨rfl, rfl⟩
                    show J _ _ _ _ _ _ _ _ _ [.int 0] _ _
                    exact J_iret rfl rfl (dk_X6_foundling 80 _ rfl) ⟨rfl, rfl⟩
                  · refine jCt_of ok_X7_foundling (fun _ _ => Nat.le_of_ble_eq_true rfl) (fun _ _ hq => Nat.le_of_eq (lM.trans hq.2.symm)) ?_
                    show J _ _ _ _ _ _ _ _ [(0, .ref 0), (1, .int 2), (2, .int 0)] _ _ _
                    refine J_aload_n (i := 0) (a := 0) rfl rfl (dk_X7_foundling 0 _ rfl) ?_
                    refine J_iload_n (i := 2) (a := 2) rfl rfl (dk_X7_foundling 1 _ rfl) ?_
                    refine J_iconst (v := 0) (by decide) (dk_X7_foundling 2 _ rfl) ?_
                    refine J_iconst (v := 1) (by decide) (dk_X7_foundling 3 _ rfl) ?_
                    refine J_cV (rv := some (.int 1)) (h' := hM0) (d' := 11) (As := [.int 0, .int 0, .int 1]) ok_X7_in vi_X7_in cl_7_194 (n := 3) (by decide +kernel) rfl rfl rfl rfl (by decide) (by decide) (dk_X7_foundling 4 _ rfl) ?_ ?_
                    · refine jCt_of ok_X7_in (fun _ _ => Nat.le_of_ble_eq_true rfl) (fun _ _ hq => by rw [hq.2]; first | exact Nat.le_refl _ | simp) ?_
                      show J _ _ _ _ _ _ _ _ [(0, .ref 0), (1, .int 0), (2, .int 0), (3, .int 1)] _ _ _
                      refine J_iload_n (i := 1) (a := 1) rfl rfl (dk_X7_in 0 _ rfl) ?_
                      refine J_iload_n (i := 2) (a := 2) rfl rfl (dk_X7_in 1 _ rfl) ?_
                      refine J_icF (tgt := 14) (by decide) (dk_X7_in 2 _ rfl) (jI_nlt (by decide : (0 : Int32).toInt = 0) (by decide : (0 : Int32).toInt = 0) (by omega)) ?_
                      refine J_iload_n (i := 1) (a := 1) rfl rfl (dk_X7_in 5 _ rfl) ?_
                      refine J_iload_n (i := 3) (a := 3) rfl rfl (dk_X7_in 6 _ rfl) ?_
                      refine J_icF (tgt := 14) (by decide) (dk_X7_in 7 _ rfl) (jI_nlt (by decide : (1 : Int32).toInt = 1) (by decide : (0 : Int32).toInt = 0) (by omega)) ?_
                      refine J_iconst (v := 1) (by decide) (dk_X7_in 10 _ rfl) ?_
                      refine J_goto (tgt := 15) (by decide) (dk_X7_in 11 _ rfl) ?_
                      exact J_iret rfl rfl (dk_X7_in 15 _ rfl) ⟨rfl, rfl⟩
                    show J _ _ _ _ _ _ _ _ _ [.int 1] _ _
                    refine J_ifT (tgt := 14) (by decide) (dk_X7_foundling 7 _ rfl) (jI_ne (by decide : (1 : Int32).toInt = 1) (by decide : (0 : Int32).toInt = 0) (by omega)) ?_
                    refine J_aload_n (i := 0) (a := 0) rfl rfl (dk_X7_foundling 14 _ rfl) ?_
                    refine J_iload_n (i := 1) (a := 1) rfl rfl (dk_X7_foundling 15 _ rfl) ?_
                    refine J_cV (rv := some (.int 1)) (h' := hM0) (d' := 11) (As := [.int 2]) ok_X7_isDay vi_X7_isDay cl_7_198 (n := 1) (by decide +kernel) rfl rfl rfl rfl (by decide) (by decide) (dk_X7_foundling 16 _ rfl) ?_ ?_
                    · refine jCt_of ok_X7_isDay (fun _ _ => Nat.le_of_ble_eq_true rfl) (fun _ _ hq => by rw [hq.2]; first | exact Nat.le_refl _ | simp) ?_
                      show J _ _ _ _ _ _ _ _ [(0, .ref 0), (1, .int 2)] _ _ _
                      refine J_aload_n (i := 0) (a := 0) rfl rfl (dk_X7_isDay 0 _ rfl) ?_
                      refine J_iload_n (i := 1) (a := 1) rfl rfl (dk_X7_isDay 1 _ rfl) ?_
                      refine J_iconst (v := 0) (by decide) (dk_X7_isDay 2 _ rfl) ?_
                      refine J_bipush (v := 11) (by decide) (dk_X7_isDay 3 _ rfl) ?_
                      refine J_cV (rv := some (.int 1)) (h' := hM0) (d' := 10) (As := [.int 2, .int 0, .int 11]) ok_X7_in vi_X7_in cl_7_194 (n := 3) (by decide +kernel) rfl rfl rfl rfl (by decide) (by decide) (dk_X7_isDay 5 _ rfl) ?_ ?_
                      · refine jCt_of ok_X7_in (fun _ _ => Nat.le_of_ble_eq_true rfl) (fun _ _ hq => by rw [hq.2]; first | exact Nat.le_refl _ | simp) ?_
                        show J _ _ _ _ _ _ _ _ [(0, .ref 0), (1, .int 2), (2, .int 0), (3, .int 11)] _ _ _
                        refine J_iload_n (i := 1) (a := 1) rfl rfl (dk_X7_in 0 _ rfl) ?_
                        refine J_iload_n (i := 2) (a := 2) rfl rfl (dk_X7_in 1 _ rfl) ?_
                        refine J_icF (tgt := 14) (by decide) (dk_X7_in 2 _ rfl) (jI_nlt (by decide : (2 : Int32).toInt = 2) (by decide : (0 : Int32).toInt = 0) (by omega)) ?_
                        refine J_iload_n (i := 1) (a := 1) rfl rfl (dk_X7_in 5 _ rfl) ?_
                        refine J_iload_n (i := 3) (a := 3) rfl rfl (dk_X7_in 6 _ rfl) ?_
                        refine J_icF (tgt := 14) (by decide) (dk_X7_in 7 _ rfl) (jI_nlt (by decide : (11 : Int32).toInt = 11) (by decide : (2 : Int32).toInt = 2) (by omega)) ?_
                        refine J_iconst (v := 1) (by decide) (dk_X7_in 10 _ rfl) ?_
                        refine J_goto (tgt := 15) (by decide) (dk_X7_in 11 _ rfl) ?_
                        exact J_iret rfl rfl (dk_X7_in 15 _ rfl) ⟨rfl, rfl⟩
                      show J _ _ _ _ _ _ _ _ _ [.int 1] _ _
                      exact J_iret rfl rfl (dk_X7_isDay 8 _ rfl) ⟨rfl, rfl⟩
                    show J _ _ _ _ _ _ _ _ _ [.int 1] _ _
                    refine J_ifT (tgt := 26) (by decide) (dk_X7_foundling 19 _ rfl) (jI_ne (by decide : (1 : Int32).toInt = 1) (by decide : (0 : Int32).toInt = 0) (by omega)) ?_
                    refine J_aload_n (i := 0) (a := 0) rfl rfl (dk_X7_foundling 26 _ rfl) ?_
                    refine J_getf fl_7_7 rfl rfl (dk_X7_foundling 27 _ rfl) ?_
                    refine J_bipush (v := 7) (by decide) (dk_X7_foundling 30 _ rfl) ?_
                    refine J_icT (tgt := 38) (by decide) (dk_X7_foundling 32 _ rfl) (jI_ne (by decide : (0 : Int32).toInt = 0) (by decide : (7 : Int32).toInt = 7) (by omega)) ?_
                    refine J_aload_n (i := 0) (a := 0) rfl rfl (dk_X7_foundling 38 _ rfl) ?_
                    refine J_aload_n (i := 0) (a := 0) rfl rfl (dk_X7_foundling 39 _ rfl) ?_
                    refine J_getf fl_7_7 rfl rfl (dk_X7_foundling 40 _ rfl) ?_
                    refine J_iconst (v := 0) (by decide) (dk_X7_foundling 43 _ rfl) ?_
                    refine J_iconst (v := 0) (by decide) (dk_X7_foundling 44 _ rfl) ?_
                    refine J_iconst (v := 0) (by decide) (dk_X7_foundling 45 _ rfl) ?_
                    refine J_iload_n (i := 1) (a := 1) rfl rfl (dk_X7_foundling 46 _ rfl) ?_
                    refine J_cV (rv := none) (h' := hC7_22) (d' := 11) (As := [.int 0, .int 0, .int 0, .int 0, .int 2]) ok_X7_lay vi_X7_lay cl_7_202 (n := 5) (by decide +kernel) rfl rfl rfl rfl (by decide) (by decide) (dk_X7_foundling 47 _ rfl) (jev_ct (M := m_X7_lay) rfl rc7_22) ?_
                    show J _ _ _ _ _ _ _ _ _ [] _ _
                    refine J_aload_n (i := 0) (a := 0) rfl rfl (dk_X7_foundling 50 _ rfl) ?_
                    refine J_dup rfl (dk_X7_foundling 51 _ rfl) ?_
                    refine J_getf fl_7_7 rfl rfl (dk_X7_foundling 52 _ rfl) ?_
                    refine J_iconst (v := 1) (by decide) (dk_X7_foundling 55 _ rfl) ?_
                    refine J_iaddC (v := 1) (by decide) (dk_X7_foundling 56 _ rfl) ?_
                    refine J_putf fl_7_7 rfl (fun q hq => by cases hq; rfl) trivial (Nat.le_of_ble_eq_true rfl) (dk_X7_foundling 57 _ rfl) ?_
                    refine J_aload_n (i := 0) (a := 0) rfl rfl (dk_X7_foundling 60 _ rfl) ?_
                    refine J_aload_n (i := 0) (a := 0) rfl rfl (dk_X7_foundling 61 _ rfl) ?_
                    refine J_getf fl_7_7 rfl rfl (dk_X7_foundling 62 _ rfl) ?_
                    refine J_iconst (v := 1) (by decide) (dk_X7_foundling 65 _ rfl) ?_
                    refine J_isubC (v := 0) (by decide) (dk_X7_foundling 66 _ rfl) ?_
                    refine J_iconst (v := 1) (by decide) (dk_X7_foundling 67 _ rfl) ?_
                    refine J_cV (rv := none) (h' := hC7_23) (d' := 11) (As := [.int 0, .int 1]) ok_X7_layBest vi_X7_layBest cl_7_326 (n := 2) (by decide +kernel) rfl rfl rfl rfl (by decide) (by decide) (dk_X7_foundling 68 _ rfl) (jev_ct (M := m_X7_layBest) rfl rc7_23) ?_
                    show J _ _ _ _ _ _ _ _ _ [] _ _
                    refine J_aload_n (i := 0) (a := 0) rfl rfl (dk_X7_foundling 71 _ rfl) ?_
                    refine J_dup rfl (dk_X7_foundling 72 _ rfl) ?_
                    refine J_getf fl_7_7 rfl rfl (dk_X7_foundling 73 _ rfl) ?_
                    refine J_iconst (v := 1) (by decide) (dk_X7_foundling 76 _ rfl) ?_
                    refine J_isubC (v := 0) (by decide) (dk_X7_foundling 77 _ rfl) ?_
                    refine J_putf fl_7_7 rfl (fun q hq => by cases hq; rfl) trivial (Nat.le_of_ble_eq_true rfl) (dk_X7_foundling 78 _ rfl) ?_
                    refine J_iload_n (i := 2) (a := 2) rfl rfl (dk_X7_foundling 81 _ rfl) ?_
                    refine J_ifF (tgt := 92) (by decide) (dk_X7_foundling 82 _ rfl) (fun z => z (jI_eq (by decide : (0 : Int32).toInt = 0) (by decide : (0 : Int32).toInt = 0) (by omega))) ?_
                    refine J_aload_n (i := 0) (a := 0) rfl rfl (dk_X7_foundling 85 _ rfl) ?_
                    refine J_getf fl_7_114 rfl rfl (dk_X7_foundling 86 _ rfl) ?_
                    refine J_goto (tgt := 96) (by decide) (dk_X7_foundling 89 _ rfl) ?_
                    exact J_iret rfl rfl (dk_X7_foundling 96 _ rfl) ⟨rfl, rfl⟩
                · by_cases c9 : (d : Int32).toInt = 3
                  · obtain rfl : d = 3 := jI_eq rfl (by decide) c9
                    refine ⟨0, ?_, ?_⟩
                    · refine jCt_of ok_X6_foundling (fun _ _ => Nat.le_of_ble_eq_true rfl) (fun _ _ hq => Nat.le_of_eq (lX.trans hq.2.symm)) ?_
                      show J _ _ _ _ _ _ _ _ [(0, .ref 0), (1, .int 3), (2, .int 0)] _ _ _
                      refine J_iload_n (i := 2) (a := 2) rfl rfl (dk_X6_foundling 0 _ rfl) ?_
                      refine J_ifF (tgt := 9) (by decide) (dk_X6_foundling 1 _ rfl) (jI_nlt (by decide : (0 : Int32).toInt = 0) (by decide : (0 : Int32).toInt = 0) (by omega)) ?_
                      refine J_iload_n (i := 2) (a := 2) rfl rfl (dk_X6_foundling 4 _ rfl) ?_
                      refine J_iconst (v := 1) (by decide) (dk_X6_foundling 5 _ rfl) ?_
                      refine J_icT (tgt := 12) (by decide) (dk_X6_foundling 6 _ rfl) (jI_le (by decide : (0 : Int32).toInt = 0) (by decide : (1 : Int32).toInt = 1) (by omega)) ?_
                      refine J_iload_n (i := 1) (a := 1) rfl rfl (dk_X6_foundling 12 _ rfl) ?_
                      refine J_cS (rv := some (.int 1)) (h' := hN0) (d' := 11) (As := [.int 3]) ok_X6_isDay st_X6_isDay cl_6_67 rfl (n := 1) (by decide +kernel) rfl (by decide) (by decide) (dk_X6_foundling 13 _ rfl) ?_ ?_
                      · refine jCt_of ok_X6_isDay (fun _ _ => Nat.le_of_ble_eq_true rfl) (fun _ _ hq => by rw [hq.2]; first | exact Nat.le_refl _ | simp) ?_
                        show J _ _ _ _ _ _ _ _ [(0, .int 3)] _ _ _
                        refine J_iload_n (i := 0) (a := 0) rfl rfl (dk_X6_isDay 0 _ rfl) ?_
                        refine J_ifF (tgt := 14) (by decide) (dk_X6_isDay 1 _ rfl) (jI_nlt (by decide : (3 : Int32).toInt = 3) (by decide : (0 : Int32).toInt = 0) (by omega)) ?_
                        refine J_iload_n (i := 0) (a := 0) rfl rfl (dk_X6_isDay 4 _ rfl) ?_
                        refine J_bipush (v := 12) (by decide) (dk_X6_isDay 5 _ rfl) ?_
                        refine J_icF (tgt := 14) (by decide) (dk_X6_isDay 7 _ rfl) (jI_nle (by decide : (12 : Int32).toInt = 12) (by decide : (3 : Int32).toInt = 3) (by omega)) ?_
                        refine J_iconst (v := 1) (by decide) (dk_X6_isDay 10 _ rfl) ?_
                        refine J_goto (tgt := 15) (by decide) (dk_X6_isDay 11 _ rfl) ?_
                        exact J_iret rfl rfl (dk_X6_isDay 15 _ rfl) ⟨rfl, rfl⟩
                      show J _ _ _ _ _ _ _ _ _ [.int 1] _ _
                      refine J_ifT (tgt := 22) (by decide) (dk_X6_foundling 16 _ rfl) (jI_ne (by decide : (1 : Int32).toInt = 1) (by decide : (0 : Int32).toInt = 0) (by omega)) ?_
                      refine J_aload_n (i := 0) (a := 0) rfl rfl (dk_X6_foundling 22 _ rfl) ?_
                      refine J_getf fl_6_47 rfl rfl (dk_X6_foundling 23 _ rfl) ?_
                      refine J_getf fl_6_71 rfl rfl (dk_X6_foundling 26 _ rfl) ?_
                      refine J_bipush (v := 7) (by decide) (dk_X6_foundling 29 _ rfl) ?_
                      refine J_icT (tgt := 37) (by decide) (dk_X6_foundling 31 _ rfl) (jI_lt (by decide : (0 : Int32).toInt = 0) (by decide : (7 : Int32).toInt = 7) (by omega)) ?_
                      refine J_aload_n (i := 0) (a := 0) rfl rfl (dk_X6_foundling 37 _ rfl) ?_
                      refine J_getf fl_6_54 rfl rfl (dk_X6_foundling 38 _ rfl) ?_
                      refine J_aload_n (i := 0) (a := 0) rfl rfl (dk_X6_foundling 41 _ rfl) ?_
                      refine J_getf fl_6_47 rfl rfl (dk_X6_foundling 42 _ rfl) ?_
                      refine J_cV (rv := none) (h' := hN0) (d' := 11) (As := [.ref 14]) ok_X2_copy vi_X2_copy cl_6_185 (n := 1) (by decide +kernel) rfl rfl rfl rfl (by decide) (by decide) (dk_X6_foundling 45 _ rfl) (jev_ct (M := m_X2_copy) rfl rc6_0) ?_
                      show J _ _ _ _ _ _ _ _ _ [] _ _
                      refine J_aload_n (i := 0) (a := 0) rfl rfl (dk_X6_foundling 48 _ rfl) ?_
                      refine J_getf fl_6_54 rfl rfl (dk_X6_foundling 49 _ rfl) ?_
                      refine J_iconst (v := 0) (by decide) (dk_X6_foundling 52 _ rfl) ?_
                      refine J_iconst (v := 0) (by decide) (dk_X6_foundling 53 _ rfl) ?_
                      refine J_iconst (v := 0) (by decide) (dk_X6_foundling 54 _ rfl) ?_
                      refine J_iload_n (i := 1) (a := 1) rfl rfl (dk_X6_foundling 55 _ rfl) ?_
                      refine J_cV (rv := none) (h' := hC6_25) (d' := 11) (As := [.int 0, .int 0, .int 0, .int 3]) ok_X2_add vi_X2_add cl_6_75 (n := 4) (by decide +kernel) rfl rfl rfl rfl (by decide) (by decide) (dk_X6_foundling 56 _ rfl) (jev_ct (M := m_X2_add) rfl rc6_25) ?_
                      show J _ _ _ _ _ _ _ _ _ [] _ _
                      refine J_aload_n (i := 0) (a := 0) rfl rfl (dk_X6_foundling 59 _ rfl) ?_
                      refine J_aload_n (i := 0) (a := 0) rfl rfl (dk_X6_foundling 60 _ rfl) ?_
                      refine J_getf fl_6_54 rfl rfl (dk_X6_foundling 61 _ rfl) ?_
                      refine J_getf fl_6_103 rfl rfl (dk_X6_foundling 64 _ rfl) ?_
                      refine J_aload_n (i := 0) (a := 0) rfl rfl (dk_X6_foundling 67 _ rfl) ?_
                      refine J_getf fl_6_54 rfl rfl (dk_X6_foundling 68 _ rfl) ?_
                      refine J_getf fl_6_71 rfl rfl (dk_X6_foundling 71 _ rfl) ?_
                      refine J_iconst (v := 1) (by decide) (dk_X6_foundling 74 _ rfl) ?_
                      refine J_isubC (v := 0) (by decide) (dk_X6_foundling 75 _ rfl) ?_
                      refine J_iload_n (i := 2) (a := 2) rfl rfl (dk_X6_foundling 76 _ rfl) ?_
                      refine J_cV (rv := some (.int 0)) (h' := hC6_26) (d' := 11) (As := [.ref 35, .int 0, .int 0]) ok_X6_bestOf vi_X6_bestOf cl_6_188 (n := 3) (by decide +kernel) rfl rfl rfl rfl (by decide) (by decide) (dk_X6_foundling 77 _ rfl) ?_ ?_
                      · refine jCt_of ok_X6_bestOf (fun _ _ => Nat.le_of_ble_eq_true rfl) (fun _ _ hq => by rw [hq.2]; first | exact Nat.le_refl _ | simp) ?_
                        show J _ _ _ _ _ _ _ _ [(0, .ref 0), (1, .ref 35), (2, .int 0), (3, .int 0)] _ _ _
                        refine J_aload_n (i := 0) (a := 0) rfl rfl (dk_X6_bestOf 0 _ rfl) ?_
                        refine J_aload_n (i := 1) (a := 1) rfl rfl (dk_X6_bestOf 1 _ rfl) ?_
                        refine J_iload_n (i := 2) (a := 2) rfl rfl (dk_X6_bestOf 2 _ rfl) ?_
                        refine J_aload_n (i := 0) (a := 0) rfl rfl (dk_X6_bestOf 3 _ rfl) ?_
                        refine J_getf fl_6_54 rfl rfl (dk_X6_bestOf 4 _ rfl) ?_
                        refine J_getf fl_6_83 rfl rfl (dk_X6_bestOf 7 _ rfl) ?_
                        refine J_getf fl_6_87 rfl rfl (dk_X6_bestOf 10 _ rfl) ?_
                        refine J_cV (rv := none) (h' := hC6_26) (d' := 10) (As := [.ref 35, .int 0, .int 10]) ok_X6_tryDays vi_X6_tryDays cl_6_192 (n := 3) (by decide +kernel) rfl rfl rfl rfl (by decide) (by decide) (dk_X6_bestOf 13 _ rfl) (jev_ct (M := m_X6_tryDays) rfl rc6_26) ?_
                        show J _ _ _ _ _ _ _ _ _ [] _ _
                        refine J_aload_n (i := 0) (a := 0) rfl rfl (dk_X6_bestOf 16 _ rfl) ?_
                        refine J_cV (rv := some (.int 0)) (h' := hC6_26) (d' := 10) (As := []) ok_X6_firstMost vi_X6_firstMost cl_6_269 (n := 0) (by decide +kernel) rfl rfl rfl rfl (by decide) (by decide) (dk_X6_bestOf 17 _ rfl) (jev_ct (M := m_X6_firstMost) rfl rc6_27) ?_
                        show J _ _ _ _ _ _ _ _ _ [.int 0] _ _
                        refine J_istore (i := 4) (by decide) (dk_X6_bestOf 20 _ rfl) ?_
                        show J _ _ _ _ _ _ _ _ [(4, .int 0), (0, .ref 0), (1, .ref 35), (2, .int 0), (3, .int 0)] _ _ _
                        refine J_iload_n (i := 3) (a := 3) rfl rfl (dk_X6_bestOf 22 _ rfl) ?_
                        refine J_ifF (tgt := 31) (by decide) (dk_X6_bestOf 23 _ rfl) (fun z => z (jI_eq (by decide : (0 : Int32).toInt = 0) (by decide : (0 : Int32).toInt = 0) (by omega))) ?_
                        refine J_iload (i := 4) rfl (dk_X6_bestOf 26 _ rfl) ?_
                        refine J_goto (tgt := 38) (by decide) (dk_X6_bestOf 28 _ rfl) ?_
                        exact J_iret rfl rfl (dk_X6_bestOf 38 _ rfl) ⟨rfl, rfl⟩
                      show J _ _ _ _ _ _ _ _ _ [.int 0] _ _
                      exact J_iret rfl rfl (dk_X6_foundling 80 _ rfl) ⟨rfl, rfl⟩
                    · refine jCt_of ok_X7_foundling (fun _ _ => Nat.le_of_ble_eq_true rfl) (fun _ _ hq => Nat.le_of_eq (lM.trans hq.2.symm)) ?_
                      show J _ _ _ _ _ _ _ _ [(0, .ref 0), (1, .int 3), (2, .int 0)] _ _ _
                      refine J_aload_n (i := 0) (a := 0) rfl rfl (dk_X7_foundling 0 _ rfl) ?_
                      refine J_iload_n (i := 2) (a := 2) rfl rfl (dk_X7_foundling 1 _ rfl) ?_
                      refine J_iconst (v := 0) (by decide) (dk_X7_foundling 2 _ rfl) ?_
                      refine J_iconst (v := 1) (by decide) (dk_X7_foundling 3 _ rfl) ?_
                      refine J_cV (rv := some (.int 1)) (h' := hM0) (d' := 11) (As := [.int 0, .int 0, .int 1]) ok_X7_in vi_X7_in cl_7_194 (n := 3) (by decide +kernel) rfl rfl rfl rfl (by decide) (by decide) (dk_X7_foundling 4 _ rfl) ?_ ?_
                      · refine jCt_of ok_X7_in (fun _ _ => Nat.le_of_ble_eq_true rfl) (fun _ _ hq => by rw [hq.2]; first | exact Nat.le_refl _ | simp) ?_
                        show J _ _ _ _ _ _ _ _ [(0, .ref 0), (1, .int 0), (2, .int 0), (3, .int 1)] _ _ _
                        refine J_iload_n (i := 1) (a := 1) rfl rfl (dk_X7_in 0 _ rfl) ?_
                        refine J_iload_n (i := 2) (a := 2) rfl rfl (dk_X7_in 1 _ rfl) ?_
                        refine J_icF (tgt := 14) (by decide) (dk_X7_in 2 _ rfl) (jI_nlt (by decide : (0 : Int32).toInt = 0) (by decide : (0 : Int32).toInt = 0) (by omega)) ?_
                        refine J_iload_n (i := 1) (a := 1) rfl rfl (dk_X7_in 5 _ rfl) ?_
                        refine J_iload_n (i := 3) (a := 3) rfl rfl (dk_X7_in 6 _ rfl) ?_
                        refine J_icF (tgt := 14) (by decide) (dk_X7_in 7 _ rfl) (jI_nlt (by decide : (1 : Int32).toInt = 1) (by decide : (0 : Int32).toInt = 0) (by omega)) ?_
                        refine J_iconst (v := 1) (by decide) (dk_X7_in 10 _ rfl) ?_
                        refine J_goto (tgt := 15) (by decide) (dk_X7_in 11 _ rfl) ?_
                        exact J_iret rfl rfl (dk_X7_in 15 _ rfl) ⟨rfl, rfl⟩
                      show J _ _ _ _ _ _ _ _ _ [.int 1] _ _
                      refine J_ifT (tgt := 14) (by decide) (dk_X7_foundling 7 _ rfl) (jI_ne (by decide : (1 : Int32).toInt = 1) (by decide : (0 : Int32).toInt = 0) (by omega)) ?_
                      refine J_aload_n (i := 0) (a := 0) rfl rfl (dk_X7_foundling 14 _ rfl) ?_
                      refine J_iload_n (i := 1) (a := 1) rfl rfl (dk_X7_foundling 15 _ rfl) ?_
                      refine J_cV (rv := some (.int 1)) (h' := hM0) (d' := 11) (As := [.int 3]) ok_X7_isDay vi_X7_isDay cl_7_198 (n := 1) (by decide +kernel) rfl rfl rfl rfl (by decide) (by decide) (dk_X7_foundling 16 _ rfl) ?_ ?_
                      · refine jCt_of ok_X7_isDay (fun _ _ => Nat.le_of_ble_eq_true rfl) (fun _ _ hq => by rw [hq.2]; first | exact Nat.le_refl _ | simp) ?_
                        show J _ _ _ _ _ _ _ _ [(0, .ref 0), (1, .int 3)] _ _ _
                        refine J_aload_n (i := 0) (a := 0) rfl rfl (dk_X7_isDay 0 _ rfl) ?_
                        refine J_iload_n (i := 1) (a := 1) rfl rfl (dk_X7_isDay 1 _ rfl) ?_
                        refine J_iconst (v := 0) (by decide) (dk_X7_isDay 2 _ rfl) ?_
                        refine J_bipush (v := 11) (by decide) (dk_X7_isDay 3 _ rfl) ?_
                        refine J_cV (rv := some (.int 1)) (h' := hM0) (d' := 10) (As := [.int 3, .int 0, .int 11]) ok_X7_in vi_X7_in cl_7_194 (n := 3) (by decide +kernel) rfl rfl rfl rfl (by decide) (by decide) (dk_X7_isDay 5 _ rfl) ?_ ?_
                        · refine jCt_of ok_X7_in (fun _ _ => Nat.le_of_ble_eq_true rfl) (fun _ _ hq => by rw [hq.2]; first | exact Nat.le_refl _ | simp) ?_
                          show J _ _ _ _ _ _ _ _ [(0, .ref 0), (1, .int 3), (2, .int 0), (3, .int 11)] _ _ _
                          refine J_iload_n (i := 1) (a := 1) rfl rfl (dk_X7_in 0 _ rfl) ?_
                          refine J_iload_n (i := 2) (a := 2) rfl rfl (dk_X7_in 1 _ rfl) ?_
                          refine J_icF (tgt := 14) (by decide) (dk_X7_in 2 _ rfl) (jI_nlt (by decide : (3 : Int32).toInt = 3) (by decide : (0 : Int32).toInt = 0) (by omega)) ?_
                          refine J_iload_n (i := 1) (a := 1) rfl rfl (dk_X7_in 5 _ rfl) ?_
                          refine J_iload_n (i := 3) (a := 3) rfl rfl (dk_X7_in 6 _ rfl) ?_
                          refine J_icF (tgt := 14) (by decide) (dk_X7_in 7 _ rfl) (jI_nlt (by decide : (11 : Int32).toInt = 11) (by decide : (3 : Int32).toInt = 3) (by omega)) ?_
                          refine J_iconst (v := 1) (by decide) (dk_X7_in 10 _ rfl) ?_
                          refine J_goto (tgt := 15) (by decide) (dk_X7_in 11 _ rfl) ?_
                          exact J_iret rfl rfl (dk_X7_in 15 _ rfl) ⟨rfl, rfl⟩
                        show J _ _ _ _ _ _ _ _ _ [.int 1] _ _
                        exact J_iret rfl rfl (dk_X7_isDay 8 _ rfl) ⟨rfl, rfl⟩
                      show J _ _ _ _ _ _ _ _ _ [.int 1] _ _
                      refine J_ifT (tgt := 26) (by decide) (dk_X7_foundling 19 _ rfl) (jI_ne (by decide : (1 : Int32).toInt = 1) (by decide : (0 : Int32).toInt = 0) (by omega)) ?_
                      refine J_aload_n (i := 0) (a := 0) rfl rfl (dk_X7_foundling 26 _ rfl) ?_
                      refine J_getf fl_7_7 rfl rfl (dk_X7_foundling 27 _ rfl) ?_
                      refine J_bipush (v := 7) (by decide) (dk_X7_foundling 30 _ rfl) ?_
                      refine J_icT (tgt := 38) (by decide) (dk_X7_foundling 32 _ rfl) (jI_ne (by decide : (0 : Int32).toInt = 0) (by decide : (7 : Int32).toInt = 7) (by omega)) ?_
                      refine J_aload_n (i := 0) (a := 0) rfl rfl (dk_X7_foundling 38 _ rfl) ?_
                      refine J_aload_n (i := 0) (a := 0) rfl rfl (dk_X7_foundling 39 _ rfl) ?_
                      refine J_getf fl_7_7 rfl rfl (dk_X7_foundling 40 _ rfl) ?_
                      refine J_iconst (v := 0) (by decide) (dk_X7_foundling 43 _ rfl) ?_
                      refine J_iconst (v := 0) (by decide) (dk_X7_foundling 44 _ rfl) ?_
                      refine J_iconst (v := 0) (by decide) (dk_X7_foundling 45 _ rfl) ?_
                      refine J_iload_n (i := 1) (a := 1) rfl rfl (dk_X7_foundling 46 _ rfl) ?_
                      refine J_cV (rv := none) (h' := hC7_28) (d' := 11) (As := [.int 0, .int 0, .int 0, .int 0, .int 3]) ok_X7_lay vi_X7_lay cl_7_202 (n := 5) (by decide +kernel) rfl rfl rfl rfl (by decide) (by decide) (dk_X7_foundling 47 _ rfl) (jev_ct (M := m_X7_lay) rfl rc7_28) ?_
                      show J _ _ _ _ _ _ _ _ _ [] _ _
                      refine J_aload_n (i := 0) (a := 0) rfl rfl (dk_X7_foundling 50 _ rfl) ?_
                      refine J_dup rfl (dk_X7_foundling 51 _ rfl) ?_
                      refine J_getf fl_7_7 rfl rfl (dk_X7_foundling 52 _ rfl) ?_
                      refine J_iconst (v := 1) (by decide) (dk_X7_foundling 55 _ rfl) ?_
                      refine J_iaddC (v := 1) (by decide) (dk_X7_foundling 56 _ rfl) ?_
                      refine J_putf fl_7_7 rfl (fun q hq => by cases hq; rfl) trivial (Nat.le_of_ble_eq_true rfl) (dk_X7_foundling 57 _ rfl) ?_
                      refine J_aload_n (i := 0) (a := 0) rfl rfl (dk_X7_foundling 60 _ rfl) ?_
                      refine J_aload_n (i := 0) (a := 0) rfl rfl (dk_X7_foundling 61 _ rfl) ?_
                      refine J_getf fl_7_7 rfl rfl (dk_X7_foundling 62 _ rfl) ?_
                      refine J_iconst (v := 1) (by decide) (dk_X7_foundling 65 _ rfl) ?_
                      refine J_isubC (v := 0) (by decide) (dk_X7_foundling 66 _ rfl) ?_
                      refine J_iconst (v := 1) (by decide) (dk_X7_foundling 67 _ rfl) ?_
                      refine J_cV (rv := none) (h' := hC7_29) (d' := 11) (As := [.int 0, .int 1]) ok_X7_layBest vi_X7_layBest cl_7_326 (n := 2) (by decide +kernel) rfl rfl rfl rfl (by decide) (by decide) (dk_X7_foundling 68 _ rfl) (jev_ct (M := m_X7_layBest) rfl rc7_29) ?_
                      show J _ _ _ _ _ _ _ _ _ [] _ _
                      refine J_aload_n (i := 0) (a := 0) rfl rfl (dk_X7_foundling 71 _ rfl) ?_
                      refine J_dup rfl (dk_X7_foundling 72 _ rfl) ?_
                      refine J_getf fl_7_7 rfl rfl (dk_X7_foundling 73 _ rfl) ?_
                      refine J_iconst (v := 1) (by decide) (dk_X7_foundling 76 _ rfl) ?_
                      refine J_isubC (v := 0) (by decide) (dk_X7_foundling 77 _ rfl) ?_
                      refine J_putf fl_7_7 rfl (fun q hq => by cases hq; rfl) trivial (Nat.le_of_ble_eq_true rfl) (dk_X7_foundling 78 _ rfl) ?_
                      refine J_iload_n (i := 2) (a := 2) rfl rfl (dk_X7_foundling 81 _ rfl) ?_
                      refine J_ifF (tgt := 92) (by decide) (dk_X7_foundling 82 _ rfl) (fun z => z (jI_eq (by decide : (0 : Int32).toInt = 0) (by decide : (0 : Int32).toInt = 0) (by omega))) ?_
                      refine J_aload_n (i := 0) (a := 0) rfl rfl (dk_X7_foundling 85 _ rfl) ?_
                      refine J_getf fl_7_114 rfl rfl (dk_X7_foundling 86 _ rfl) ?_
                      refine J_goto (tgt := 96) (by decide) (dk_X7_foundling 89 _ rfl) ?_
                      exact J_iret rfl rfl (dk_X7_foundling 96 _ rfl) ⟨rfl, rfl⟩
                  · by_cases c10 : (d : Int32).toInt = 4
                    · obtain rfl : d = 4 := jI_eq rfl (by decide) c10
                      refine ⟨0, ?_, ?_⟩
                      · refine jCt_of ok_X6_foundling (fun _ _ => Nat.le_of_ble_eq_true rfl) (fun _ _ hq => Nat.le_of_eq (lX.trans hq.2.symm)) ?_
                        show J _ _ _ _ _ _ _ _ [(0, .ref 0), (1, .int 4), (2, .int 0)] _ _ _
                        refine J_iload_n (i := 2) (a := 2) rfl rfl (dk_X6_foundling 0 _ rfl) ?_
                        refine J_ifF (tgt := 9) (by decide) (dk_X6_foundling 1 _ rfl) (jI_nlt (by decide : (0 : Int32).toInt = 0) (by decide : (0 : Int32).toInt = 0) (by omega)) ?_
                        refine J_iload_n (i := 2) (a := 2) rfl rfl (dk_X6_foundling 4 _ rfl) ?_
                        refine J_iconst (v := 1) (by decide) (dk_X6_foundling 5 _ rfl) ?_
                        refine J_icT (tgt := 12) (by decide) (dk_X6_foundling 6 _ rfl) (jI_le (by decide : (0 : Int32).toInt = 0) (by decide : (1 : Int32).toInt = 1) (by omega)) ?_
                        refine J_iload_n (i := 1) (a := 1) rfl rfl (dk_X6_foundling 12 _ rfl) ?_
                        refine J_cS (rv := some (.int 1)) (h' := hN0) (d' := 11) (As := [.int 4]) ok_X6_isDay st_X6_isDay cl_6_67 rfl (n := 1) (by decide +kernel) rfl (by decide) (by decide) (dk_X6_foundling 13 _ rfl) ?_ ?_
                        · refine jCt_of ok_X6_isDay (fun _ _ => Nat.le_of_ble_eq_true rfl) (fun _ _ hq => by rw [hq.2]; first | exact Nat.le_refl _ | simp) ?_
                          show J _ _ _ _ _ _ _ _ [(0, .int 4)] _ _ _
                          refine J_iload_n (i := 0) (a := 0) rfl rfl (dk_X6_isDay 0 _ rfl) ?_
                          refine J_ifF (tgt := 14) (by decide) (dk_X6_isDay 1 _ rfl) (jI_nlt (by decide : (4 : Int32).toInt = 4) (by decide : (0 : Int32).toInt = 0) (by omega)) ?_
                          refine J_iload_n (i := 0) (a := 0) rfl rfl (dk_X6_isDay 4 _ rfl) ?_
                          refine J_bipush (v := 12) (by decide) (dk_X6_isDay 5 _ rfl) ?_
                          refine J_icF (tgt := 14) (by decide) (dk_X6_isDay 7 _ rfl) (jI_nle (by decide : (12 : Int32).toInt = 12) (by decide : (4 : Int32).toInt = 4) (by omega)) ?_
                          refine J_iconst (v := 1) (by decide) (dk_X6_isDay 10 _ rfl) ?_
                          refine J_goto (tgt := 15) (by decide) (dk_X6_isDay 11 _ rfl) ?_
                          exact J_iret rfl rfl (dk_X6_isDay 15 _ rfl) ⟨rfl, rfl⟩
                        show J _ _ _ _ _ _ _ _ _ [.int 1] _ _
                        refine J_ifT (tgt := 22) (by decide) (dk_X6_foundling 16 _ rfl) (jI_ne (by decide : (1 : Int32).toInt = 1) (by decide : (0 : Int32).toInt = 0) (by omega)) ?_
                        refine J_aload_n (i := 0) (a := 0) rfl rfl (dk_X6_foundling 22 _ rfl) ?_
                        refine J_getf fl_6_47 rfl rfl (dk_X6_foundling 23 _ rfl) ?_
                        refine J_getf fl_6_71 rfl rfl (dk_X6_foundling 26 _ rfl) ?_
                        refine J_bipush (v := 7) (by decide) (dk_X6_foundling 29 _ rfl) ?_
                        refine J_icT (tgt := 37) (by decide) (dk_X6_foundling 31 _ rfl) (jI_lt (by decide : (0 : Int32).toInt = 0) (by decide : (7 : Int32).toInt = 7) (by omega)) ?_
                        refine J_aload_n (i := 0) (a := 0) rfl rfl (dk_X6_foundling 37 _ rfl) ?_
                        refine J_getf fl_6_54 rfl rfl (dk_X6_foundling 38 _ rfl) ?_
                        refine J_aload_n (i := 0) (a := 0) rfl rfl (dk_X6_foundling 41 _ rfl) ?_
                        refine J_getf fl_6_47 rfl rfl (dk_X6_foundling 42 _ rfl) ?_
                        refine J_cV (rv := none) (h' := hN0) (d' := 11) (As := [.ref 14]) ok_X2_copy vi_X2_copy cl_6_185 (n := 1) (by decide +kernel) rfl rfl rfl rfl (by decide) (by decide) (dk_X6_foundling 45 _ rfl) (jev_ct (M := m_X2_copy) rfl rc6_0) ?_
                        show J _ _ _ _ _ _ _ _ _ [] _ _
                        refine J_aload_n (i := 0) (a := 0) rfl rfl (dk_X6_foundling 48 _ rfl) ?_
                        refine J_getf fl_6_54 rfl rfl (dk_X6_foundling 49 _ rfl) ?_
                        refine J_iconst (v := 0) (by decide) (dk_X6_foundling 52 _ rfl) ?_
                        refine J_iconst (v := 0) (by decide) (dk_X6_foundling 53 _ rfl) ?_
                        refine J_iconst (v := 0) (by decide) (dk_X6_foundling 54 _ rfl) ?_
                        refine J_iload_n (i := 1) (a := 1) rfl rfl (dk_X6_foundling 55 _ rfl) ?_
                        refine J_cV (rv := none) (h' := hC6_31) (d' := 11) (As := [.int 0, .int 0, .int 0, .int 4]) ok_X2_add vi_X2_add cl_6_75 (n := 4) (by decide +kernel) rfl rfl rfl rfl (by decide) (by decide) (dk_X6_foundling 56 _ rfl) (jev_ct (M := m_X2_add) rfl rc6_31) ?_
                        show J _ _ _ _ _ _ _ _ _ [] _ _
                        refine J_aload_n (i := 0) (a := 0) rfl rfl (dk_X6_foundling 59 _ rfl) ?_
                        refine J_aload_n (i := 0) (a := 0) rfl rfl (dk_X6_foundling 60 _ rfl) ?_
                        refine J_getf fl_6_54 rfl rfl (dk_X6_foundling 61 _ rfl) ?_
                        refine J_getf fl_6_103 rfl rfl (dk_X6_foundling 64 _ rfl) ?_
                        refine J_aload_n (i := 0) (a := 0) rfl rfl (dk_X6_foundling 67 _ rfl) ?_
                        refine J_getf fl_6_54 rfl rfl (dk_X6_foundling 68 _ rfl) ?_
                        refine J_getf fl_6_71 rfl rfl (dk_X6_foundling 71 _ rfl) ?_
                        refine J_iconst (v := 1) (by decide) (dk_X6_foundling 74 _ rfl) ?_
                        refine J_isubC (v := 0) (by decide) (dk_X6_foundling 75 _ rfl) ?_
                        refine J_iload_n (i := 2) (a := 2) rfl rfl (dk_X6_foundling 76 _ rfl) ?_
                        refine J_cV (rv := some (.int 0)) (h' := hC6_32) (d' := 11) (As := [.ref 35, .int 0, .int 0]) ok_X6_bestOf vi_X6_bestOf cl_6_188 (n := 3) (by decide +kernel) rfl rfl rfl rfl (by decide) (by decide) (dk_X6_foundling 77 _ rfl) ?_ ?_
                        · refine jCt_of ok_X6_bestOf (fun _ _ => Nat.le_of_ble_eq_true rfl) (fun _ _ hq => by rw [hq.2]; first | exact Nat.le_refl _ | simp) ?_
                          show J _ _ _ _ _ _ _ _ [(0, .ref 0), (1, .ref 35), (2, .int 0), (3, .int 0)] _ _ _
                          refine J_aload_n (i := 0) (a := 0) rfl rfl (dk_X6_bestOf 0 _ rfl) ?_
                          refine J_aload_n (i := 1) (a := 1) rfl rfl (dk_X6_bestOf 1 _ rfl) ?_
                          refine J_iload_n (i := 2) (a := 2) rfl rfl (dk_X6_bestOf 2 _ rfl) ?_
                          refine J_aload_n (i := 0) (a := 0) rfl rfl (dk_X6_bestOf 3 _ rfl) ?_
                          refine J_getf fl_6_54 rfl rfl (dk_X6_bestOf 4 _ rfl) ?_
                          refine J_getf fl_6_83 rfl rfl (dk_X6_bestOf 7 _ rfl) ?_
                          refine J_getf fl_6_87 rfl rfl (dk_X6_bestOf 10 _ rfl) ?_
                          refine J_cV (rv := none) (h' := hC6_32) (d' := 10) (As := [.ref 35, .int 0, .int 10]) ok_X6_tryDays vi_X6_tryDays cl_6_192 (n := 3) (by decide +kernel) rfl rfl rfl rfl (by decide) (by decide) (dk_X6_bestOf 13 _ rfl) (jev_ct (M := m_X6_tryDays) rfl rc6_32) ?_
                          show J _ _ _ _ _ _ _ _ _ [] _ _
                          refine J_aload_n (i := 0) (a := 0) rfl rfl (dk_X6_bestOf 16 _ rfl) ?_
                          refine J_cV (rv := some (.int 0)) (h' := hC6_32) (d' := 10) (As := []) ok_X6_firstMost vi_X6_firstMost cl_6_269 (n := 0) (by decide +kernel) rfl rfl rfl rfl (by decide) (by decide) (dk_X6_bestOf 17 _ rfl) (jev_ct (M := m_X6_firstMost) rfl rc6_33) ?_
                          show J _ _ _ _ _ _ _ _ _ [.int 0] _ _
                          refine J_istore (i := 4) (by decide) (dk_X6_bestOf 20 _ rfl) ?_
                          show J _ _ _ _ _ _ _ _ [(4, .int 0), (0, .ref 0), (1, .ref 35), (2, .int 0), (3, .int 0)] _ _ _
                          refine J_iload_n (i := 3) (a := 3) rfl rfl (dk_X6_bestOf 22 _ rfl) ?_
                          refine J_ifF (tgt := 31) (by decide) (dk_X6_bestOf 23 _ rfl) (fun z => z (jI_eq (by decide : (0 : Int32).toInt = 0) (by decide : (0 : Int32).toInt = 0) (by omega))) ?_
                          refine J_iload (i := 4) rfl (dk_X6_bestOf 26 _ rfl) ?_
                          refine J_goto (tgt := 38) (by decide) (dk_X6_bestOf 28 _ rfl) ?_
                          exact J_iret rfl rfl (dk_X6_bestOf 38 _ rfl) ⟨rfl, rfl⟩
                        show J _ _ _ _ _ _ _ _ _ [.int 0] _ _
                        exact J_iret rfl rfl (dk_X6_foundling 80 _ rfl) ⟨rfl, rfl⟩
                      · refine jCt_of ok_X7_foundling (fun _ _ => Nat.le_of_ble_eq_true rfl) (fun _ _ hq => Nat.le_of_eq (lM.trans hq.2.symm)) ?_
                        show J _ _ _ _ _ _ _ _ [(0, .ref 0), (1, .int 4), (2, .int 0)] _ _ _
                        refine J_aload_n (i := 0) (a := 0) rfl rfl (dk_X7_foundling 0 _ rfl) ?_
                        refine J_iload_n (i := 2) (a := 2) rfl rfl (dk_X7_foundling 1 _ rfl) ?_
                        refine J_iconst (v := 0) (by decide) (dk_X7_foundling 2 _ rfl) ?_
                        refine J_iconst (v := 1) (by decide) (dk_X7_foundling 3 _ rfl) ?_
                        refine J_cV (rv := some (.int 1)) (h' := hM0) (d' := 11) (As := [.int 0, .int 0, .int 1]) ok_X7_in vi_X7_in cl_7_194 (n := 3) (by decide +kernel) rfl rfl rfl rfl (by decide) (by decide) (dk_X7_foundling 4 _ rfl) ?_ ?_
                        · refine jCt_of ok_X7_in (fun _ _ => Nat.le_of_ble_eq_true rfl) (fun _ _ hq => by rw [hq.2]; first | exact Nat.le_refl _ | simp) ?_
                          show J _ _ _ _ _ _ _ _ [(0, .ref 0), (1, .int 0), (2, .int 0), (3, .int 1)] _ _ _
                          refine J_iload_n (i := 1) (a := 1) rfl rfl (dk_X7_in 0 _ rfl) ?_
                          refine J_iload_n (i := 2) (a := 2) rfl rfl (dk_X7_in 1 _ rfl) ?_
                          refine J_icF (tgt := 14) (by decide) (dk_X7_in 2 _ rfl) (jI_nlt (by decide : (0 : Int32).toInt = 0) (by decide : (0 : Int32).toInt = 0) (by omega)) ?_
                          refine J_iload_n (i := 1) (a := 1) rfl rfl (dk_X7_in 5 _ rfl) ?_
                          refine J_iload_n (i := 3) (a := 3) rfl rfl (dk_X7_in 6 _ rfl) ?_
                          refine J_icF (tgt := 14) (by decide) (dk_X7_in 7 _ rfl) (jI_nlt (by decide : (1 : Int32).toInt = 1) (by decide : (0 : Int32).toInt = 0) (by omega)) ?_
                          refine J_iconst (v := 1) (by decide) (dk_X7_in 10 _ rfl) ?_
                          refine J_goto (tgt := 15) (by decide) (dk_X7_in 11 _ rfl) ?_
                          exact J_iret rfl rfl (dk_X7_in 15 _ rfl) ⟨rfl, rfl⟩
                        show J _ _ _ _ _ _ _ _ _ [.int 1] _ _
                        refine J_ifT (tgt := 14) (by decide) (dk_X7_foundling 7 _ rfl) (jI_ne (by decide : (1 : Int32).toInt = 1) (by decide : (0 : Int32).toInt = 0) (by omega)) ?_
                        refine J_aload_n (i := 0) (a := 0) rfl rfl (dk_X7_foundling 14 _ rfl) ?_
                        refine J_iload_n (i := 1) (a := 1) rfl rfl (dk_X7_foundling 15 _ rfl) ?_
                        refine J_cV (rv := some (.int 1)) (h' := hM0) (d' := 11) (As := [.int 4]) ok_X7_isDay vi_X7_isDay cl_7_198 (n := 1) (by decide +kernel) rfl rfl rfl rfl (by decide) (by decide) (dk_X7_foundling 16 _ rfl) ?_ ?_
                        · refine jCt_of ok_X7_isDay (fun _ _ => Nat.le_of_ble_eq_true rfl) (fun _ _ hq => by rw [hq.2]; first | exact Nat.le_refl _ | simp) ?_
                          show J _ _ _ _ _ _ _ _ [(0, .ref 0), (1, .int 4)] _ _ _
                          refine J_aload_n (i := 0) (a := 0) rfl rfl (dk_X7_isDay 0 _ rfl) ?_
                          refine J_iload_n (i := 1) (a := 1) rfl rfl (dk_X7_isDay 1 _ rfl) ?_
                          refine J_iconst (v := 0) (by decide) (dk_X7_isDay 2 _ rfl) ?_
                          refine J_bipush (v := 11) (by decide) (dk_X7_isDay 3 _ rfl) ?_
                          refine J_cV (rv := some (.int 1)) (h' := hM0) (d' := 10) (As := [.int 4, .int 0, .int 11]) ok_X7_in vi_X7_in cl_7_194 (n := 3) (by decide +kernel) rfl rfl rfl rfl (by decide) (by decide) (dk_X7_isDay 5 _ rfl) ?_ ?_
                          · refine jCt_of ok_X7_in (fun _ _ => Nat.le_of_ble_eq_true rfl) (fun _ _ hq => by rw [hq.2]; first | exact Nat.le_refl _ | simp) ?_
                            show J _ _ _ _ _ _ _ _ [(0, .ref 0), (1, .int 4), (2, .int 0), (3, .int 11)] _ _ _
                            refine J_iload_n (i := 1) (a := 1) rfl rfl (dk_X7_in 0 _ rfl) ?_
                            refine J_iload_n (i := 2) (a := 2) rfl rfl (dk_X7_in 1 _ rfl) ?_
                            refine J_icF (tgt := 14) (by decide) (dk_X7_in 2 _ rfl) (jI_nlt (by decide : (4 : Int32).toInt = 4) (by decide : (0 : Int32).toInt = 0) (by omega)) ?_
                            refine J_iload_n (i := 1) (a := 1) rfl rfl (dk_X7_in 5 _ rfl) ?_
                            refine J_iload_n (i := 3) (a := 3) rfl rfl (dk_X7_in 6 _ rfl) ?_
                            refine J_icF (tgt := 14) (by decide) (dk_X7_in 7 _ rfl) (jI_nlt (by decide : (11 : Int32).toInt = 11) (by decide : (4 : Int32).toInt = 4) (by omega)) ?_
                            refine J_iconst (v := 1) (by decide) (dk_X7_in 10 _ rfl) ?_
                            refine J_goto (tgt := 15) (by decide) (dk_X7_in 11 _ rfl) ?_
                            exact J_iret rfl rfl (dk_X7_in 15 _ rfl) ⟨rfl, rfl⟩
                          show J _ _ _ _ _ _ _ _ _ [.int 1] _ _
                          exact J_iret rfl rfl (dk_X7_isDay 8 _ rfl) ⟨rfl, rfl⟩
                        show J _ _ _ _ _ _ _ _ _ [.int 1] _ _
                        refine J_ifT (tgt := 26) (by decide) (dk_X7_foundling 19 _ rfl) (jI_ne (by decide : (1 : Int32).toInt = 1) (by decide : (0 : Int32).toInt = 0) (by omega)) ?_
                        refine J_aload_n (i := 0) (a := 0) rfl rfl (dk_X7_foundling 26 _ rfl) ?_
                        refine J_getf fl_7_7 rfl rfl (dk_X7_foundling 27 _ rfl) ?_
                        refine J_bipush (v := 7) (by decide) (dk_X7_foundling 30 _ rfl) ?_
                        refine J_icT (tgt := 38) (by decide) (dk_X7_foundling 32 _ rfl) (jI_ne (by decide : (0 : Int32).toInt = 0) (by decide : (7 : Int32).toInt = 7) (by omega)) ?_
                        refine J_aload_n (i := 0) (a := 0) rfl rfl (dk_X7_foundling 38 _ rfl) ?_
                        refine J_aload_n (i := 0) (a := 0) rfl rfl (dk_X7_foundling 39 _ rfl) ?_
                        refine J_getf fl_7_7 rfl rfl (dk_X7_foundling 40 _ rfl) ?_
                        refine J_iconst (v := 0) (by decide) (dk_X7_foundling 43 _ rfl) ?_
                        refine J_iconst (v := 0) (by decide) (dk_X7_foundling 44 _ rfl) ?_
                        refine J_iconst (v := 0) (by decide) (dk_X7_foundling 45 _ rfl) ?_
                        refine J_iload_n (i := 1) (a := 1) rfl rfl (dk_X7_foundling 46 _ rfl) ?_
                        refine J_cV (rv := none) (h' := hC7_34) (d' := 11) (As := [.int 0, .int 0, .int 0, .int 0, .int 4]) ok_X7_lay vi_X7_lay cl_7_202 (n := 5) (by decide +kernel) rfl rfl rfl rfl (by decide) (by decide) (dk_X7_foundling 47 _ rfl) (jev_ct (M := m_X7_lay) rfl rc7_34) ?_
                        show J _ _ _ _ _ _ _ _ _ [] _ _
                        refine J_aload_n (i := 0) (a := 0) rfl rfl (dk_X7_foundling 50 _ rfl) ?_
                        refine J_dup rfl (dk_X7_foundling 51 _ rfl) ?_
                        refine J_getf fl_7_7 rfl rfl (dk_X7_foundling 52 _ rfl) ?_
                        refine J_iconst (v := 1) (by decide) (dk_X7_foundling 55 _ rfl) ?_
                        refine J_iaddC (v := 1) (by decide) (dk_X7_foundling 56 _ rfl) ?_
                        refine J_putf fl_7_7 rfl (fun q hq => by cases hq; rfl) trivial (Nat.le_of_ble_eq_true rfl) (dk_X7_foundling 57 _ rfl) ?_
                        refine J_aload_n (i := 0) (a := 0) rfl rfl (dk_X7_foundling 60 _ rfl) ?_
                        refine J_aload_n (i := 0) (a := 0) rfl rfl (dk_X7_foundling 61 _ rfl) ?_
                        refine J_getf fl_7_7 rfl rfl (dk_X7_foundling 62 _ rfl) ?_
                        refine J_iconst (v := 1) (by decide) (dk_X7_foundling 65 _ rfl) ?_
                        refine J_isubC (v := 0) (by decide) (dk_X7_foundling 66 _ rfl) ?_
                        refine J_iconst (v := 1) (by decide) (dk_X7_foundling 67 _ rfl) ?_
                        refine J_cV (rv := none) (h' := hC7_35) (d' := 11) (As := [.int 0, .int 1]) ok_X7_layBest vi_X7_layBest cl_7_326 (n := 2) (by decide +kernel) rfl rfl rfl rfl (by decide) (by decide) (dk_X7_foundling 68 _ rfl) (jev_ct (M := m_X7_layBest) rfl rc7_35) ?_
                        show J _ _ _ _ _ _ _ _ _ [] _ _
                        refine J_aload_n (i := 0) (a := 0) rfl rfl (dk_X7_foundling 71 _ rfl) ?_
                        refine J_dup rfl (dk_X7_foundling 72 _ rfl) ?_
                        refine J_getf fl_7_7 rfl rfl (dk_X7_foundling 73 _ rfl) ?_
                        refine J_iconst (v := 1) (by decide) (dk_X7_foundling 76 _ rfl) ?_
                        refine J_isubC (v := 0) (by decide) (dk_X7_foundling 77 _ rfl) ?_
                        refine J_putf fl_7_7 rfl (fun q hq => by cases hq; rfl) trivial (Nat.le_of_ble_eq_true rfl) (dk_X7_foundling 78 _ rfl) ?_
                        refine J_iload_n (i := 2) (a := 2) rfl rfl (dk_X7_foundling 81 _ rfl) ?_
                        refine J_ifF (tgt := 92) (by decide) (dk_X7_foundling 82 _ rfl) (fun z => z (jI_eq (by decide : (0 : Int32).toInt = 0) (by decide : (0 : Int32).toInt = 0) (by omega))) ?_
                        refine J_aload_n (i := 0) (a := 0) rfl rfl (dk_X7_foundling 85 _ rfl) ?_
                        refine J_getf fl_7_114 rfl rfl (dk_X7_foundling 86 _ rfl) ?_
                        refine J_goto (tgt := 96) (by decide) (dk_X7_foundling 89 _ rfl) ?_
                        exact J_iret rfl rfl (dk_X7_foundling 96 _ rfl) ⟨rfl, rfl⟩
                    · by_cases c11 : (d : Int32).toInt = 5
                      · obtain rfl : d = 5 := jI_eq rfl (by decide) c11
                        refine ⟨0, ?_, ?_⟩
                        · refine jCt_of ok_X6_foundling (fun _ _ => Nat.le_of_ble_eq_true rfl) (fun _ _ hq => Nat.le_of_eq (lX.trans hq.2.symm)) ?_
                          show J _ _ _ _ _ _ _ _ [(0, .ref 0), (1, .int 5), (2, .int 0)] _ _ _
                          refine J_iload_n (i := 2) (a := 2) rfl rfl (dk_X6_foundling 0 _ rfl) ?_
                          refine J_ifF (tgt := 9) (by decide) (dk_X6_foundling 1 _ rfl) (jI_nlt (by decide : (0 : Int32).toInt = 0) (by decide : (0 : Int32).toInt = 0) (by omega)) ?_
                          refine J_iload_n (i := 2) (a := 2) rfl rfl (dk_X6_foundling 4 _ rfl) ?_
                          refine J_iconst (v := 1) (by decide) (dk_X6_foundling 5 _ rfl) ?_
                          refine J_icT (tgt := 12) (by decide) (dk_X6_foundling 6 _ rfl) (jI_le (by decide : (0 : Int32).toInt = 0) (by decide : (1 : Int32).toInt = 1) (by omega)) ?_
                          refine J_iload_n (i := 1) (a := 1) rfl rfl (dk_X6_foundling 12 _ rfl) ?_
                          refine J_cS (rv := some (.int 1)) (h' := hN0) (d' := 11) (As := [.int 5]) ok_X6_isDay st_X6_isDay cl_6_67 rfl (n := 1) (by decide +kernel) rfl (by decide) (by decide) (dk_X6_foundling 13 _ rfl) ?_ ?_
                          · refine jCt_of ok_X6_isDay (fun _ _ => Nat.le_of_ble_eq_true rfl) (fun _ _ hq => by rw [hq.2]; first | exact Nat.le_refl _ | simp) ?_
                            show J _ _ _ _ _ _ _ _ [(0, .int 5)] _ _ _
                            refine J_iload_n (i := 0) (a := 0) rfl rfl (dk_X6_isDay 0 _ rfl) ?_
                            refine J_ifF (tgt := 14) (by decide) (dk_X6_isDay 1 _ rfl) (jI_nlt (by decide : (5 : Int32).toInt = 5) (by decide : (0 : Int32).toInt = 0) (by omega)) ?_
                            refine J_iload_n (i := 0) (a := 0) rfl rfl (dk_X6_isDay 4 _ rfl) ?_
                            refine J_bipush (v := 12) (by decide) (dk_X6_isDay 5 _ rfl) ?_
                            refine J_icF (tgt := 14) (by decide) (dk_X6_isDay 7 _ rfl) (jI_nle (by decide : (12 : Int32).toInt = 12) (by decide : (5 : Int32).toInt = 5) (by omega)) ?_
                            refine J_iconst (v := 1) (by decide) (dk_X6_isDay 10 _ rfl) ?_
                            refine J_goto (tgt := 15) (by decide) (dk_X6_isDay 11 _ rfl) ?_
                            exact J_iret rfl rfl (dk_X6_isDay 15 _ rfl) ⟨rfl, rfl⟩
                          show J _ _ _ _ _ _ _ _ _ [.int 1] _ _
                          refine J_ifT (tgt := 22) (by decide) (dk_X6_foundling 16 _ rfl) (jI_ne (by decide : (1 : Int32).toInt = 1) (by decide : (0 : Int32).toInt = 0) (by omega)) ?_
                          refine J_aload_n (i := 0) (a := 0) rfl rfl (dk_X6_foundling 22 _ rfl) ?_
                          refine J_getf fl_6_47 rfl rfl (dk_X6_foundling 23 _ rfl) ?_
                          refine J_getf fl_6_71 rfl rfl (dk_X6_foundling 26 _ rfl) ?_
                          refine J_bipush (v := 7) (by decide) (dk_X6_foundling 29 _ rfl) ?_
                          refine J_icT (tgt := 37) (by decide) (dk_X6_foundling 31 _ rfl) (jI_lt (by decide : (0 : Int32).toInt = 0) (by decide : (7 : Int32).toInt = 7) (by omega)) ?_
                          refine J_aload_n (i := 0) (a := 0) rfl rfl (dk_X6_foundling 37 _ rfl) ?_
                          refine J_getf fl_6_54 rfl rfl (dk_X6_foundling 38 _ rfl) ?_
                          refine J_aload_n (i := 0) (a := 0) rfl rfl (dk_X6_foundling 41 _ rfl) ?_
                          refine J_getf fl_6_47 rfl rfl (dk_X6_foundling 42 _ rfl) ?_
                          refine J_cV (rv := none) (h' := hN0) (d' := 11) (As := [.ref 14]) ok_X2_copy vi_X2_copy cl_6_185 (n := 1) (by decide +kernel) rfl rfl rfl rfl (by decide) (by decide) (dk_X6_foundling 45 _ rfl) (jev_ct (M := m_X2_copy) rfl rc6_0) ?_
                          show J _ _ _ _ _ _ _ _ _ [] _ _
                          refine J_aload_n (i := 0) (a := 0) rfl rfl (dk_X6_foundling 48 _ rfl) ?_
                          refine J_getf fl_6_54 rfl rfl (dk_X6_foundling 49 _ rfl) ?_
                          refine J_iconst (v := 0) (by decide) (dk_X6_foundling 52 _ rfl) ?_
                          refine J_iconst (v := 0) (by decide) (dk_X6_foundling 53 _ rfl) ?_
                          refine J_iconst (v := 0) (by decide) (dk_X6_foundling 54 _ rfl) ?_
                          refine J_iload_n (i := 1) (a := 1) rfl rfl (dk_X6_foundling 55 _ rfl) ?_
                          refine J_cV (rv := none) (h' := hC6_37) (d' := 11) (As := [.int 0, .int 0, .int 0, .int 5]) ok_X2_add vi_X2_add cl_6_75 (n := 4) (by decide +kernel) rfl rfl rfl rfl (by decide) (by decide) (dk_X6_foundling 56 _ rfl) (jev_ct (M := m_X2_add) rfl rc6_37) ?_
                          show J _ _ _ _ _ _ _ _ _ [] _ _
                          refine J_aload_n (i := 0) (a := 0) rfl rfl (dk_X6_foundling 59 _ rfl) ?_
                          refine J_aload_n (i := 0) (a := 0) rfl rfl (dk_X6_foundling 60 _ rfl) ?_
                          refine J_getf fl_6_54 rfl rfl (dk_X6_foundling 61 _ rfl) ?_
                          refine J_getf fl_6_103 rfl rfl (dk_X6_foundling 64 _ rfl) ?_
                          refine J_aload_n (i := 0) (a := 0) rfl rfl (dk_X6_foundling 67 _ rfl) ?_
                          refine J_getf fl_6_54 rfl rfl (dk_X6_foundling 68 _ rfl) ?_
                          refine J_getf fl_6_71 rfl rfl (dk_X6_foundling 71 _ rfl) ?_
                          refine J_iconst (v := 1) (by decide) (dk_X6_foundling 74 _ rfl) ?_
                          refine J_isubC (v := 0) (by decide) (dk_X6_foundling 75 _ rfl) ?_
                          refine J_iload_n (i := 2) (a := 2) rfl rfl (dk_X6_foundling 76 _ rfl) ?_
                          refine J_cV (rv := some (.int 0)) (h' := hC6_38) (d' := 11) (As := [.ref 35, .int 0, .int 0]) ok_X6_bestOf vi_X6_bestOf cl_6_188 (n := 3) (by decide +kernel) rfl rfl rfl rfl (by decide) (by decide) (dk_X6_foundling 77 _ rfl) ?_ ?_
                          · refine jCt_of ok_X6_bestOf (fun _ _ => Nat.le_of_ble_eq_true rfl) (fun _ _ hq => by rw [hq.2]; first | exact Nat.le_refl _ | simp) ?_
                            show J _ _ _ _ _ _ _ _ [(0, .ref 0), (1, .ref 35), (2, .int 0), (3, .int 0)] _ _ _
                            refine J_aload_n (i := 0) (a := 0) rfl rfl (dk_X6_bestOf 0 _ rfl) ?_
                            refine J_aload_n (i := 1) (a := 1) rfl rfl (dk_X6_bestOf 1 _ rfl) ?_
                            refine J_iload_n (i := 2) (a := 2) rfl rfl (dk_X6_bestOf 2 _ rfl) ?_
                            refine J_aload_n (i := 0) (a := 0) rfl rfl (dk_X6_bestOf 3 _ rfl) ?_
                            refine J_getf fl_6_54 rfl rfl (dk_X6_bestOf 4 _ rfl) ?_
                            refine J_getf fl_6_83 rfl rfl (dk_X6_bestOf 7 _ rfl) ?_
                            refine J_getf fl_6_87 rfl rfl (dk_X6_bestOf 10 _ rfl) ?_
                            refine J_cV (rv := none) (h' := hC6_38) (d' := 10) (As := [.ref 35, .int 0, .int 10]) ok_X6_tryDays vi_X6_tryDays cl_6_192 (n := 3) (by decide +kernel) rfl rfl rfl rfl (by decide) (by decide) (dk_X6_bestOf 13 _ rfl) (jev_ct (M := m_X6_tryDays) rfl rc6_38) ?_
                            show J _ _ _ _ _ _ _ _ _ [] _ _
                            refine J_aload_n (i := 0) (a := 0) rfl rfl (dk_X6_bestOf 16 _ rfl) ?_
                            refine J_cV (rv := some (.int 0)) (h' := hC6_38) (d' := 10) (As := []) ok_X6_firstMost vi_X6_firstMost cl_6_269 (n := 0) (by decide +kernel) rfl rfl rfl rfl (by decide) (by decide) (dk_X6_bestOf 17 _ rfl) (jev_ct (M := m_X6_firstMost) rfl rc6_39) ?_
                            show J _ _ _ _ _ _ _ _ _ [.int 0] _ _
                            refine J_istore (i := 4) (by decide) (dk_X6_bestOf 20 _ rfl) ?_
                            show J _ _ _ _ _ _ _ _ [(4, .int 0), (0, .ref 0), (1, .ref 35), (2, .int 0), (3, .int 0)] _ _ _
                            refine J_iload_n (i := 3) (a := 3) rfl rfl (dk_X6_bestOf 22 _ rfl) ?_
                            refine J_ifF (tgt := 31) (by decide) (dk_X6_bestOf 23 _ rfl) (fun z => z (jI_eq (by decide : (0 : Int32).toInt = 0) (by decide : (0 : Int32).toInt = 0) (by omega))) ?_
                            refine J_iload (i := 4) rfl (dk_X6_bestOf 26 _ rfl) ?_
                            refine J_goto (tgt := 38) (by decide) (dk_X6_bestOf 28 _ rfl) ?_
                            exact J_iret rfl rfl (dk_X6_bestOf 38 _ rfl) ⟨rfl, rfl⟩
                          show J _ _ _ _ _ _ _ _ _ [.int 0] _ _
                          exact J_iret rfl rfl (dk_X6_foundling 80 _ rfl) ⟨rfl, rfl⟩
                        · refine jCt_of ok_X7_foundling (fun _ _ => Nat.le_of_ble_eq_true rfl) (fun _ _ hq => Nat.le_of_eq (lM.trans hq.2.symm)) ?_
                          show J _ _ _ _ _ _ _ _ [(0, .ref 0), (1, .int 5), (2, .int 0)] _ _ _
                          refine J_aload_n (i := 0) (a := 0) rfl rfl (dk_X7_foundling 0 _ rfl) ?_
                          refine J_iload_n (i := 2) (a := 2) rfl rfl (dk_X7_foundling 1 _ rfl) ?_
                          refine J_iconst (v := 0) (by decide) (dk_X7_foundling 2 _ rfl) ?_
                          refine J_iconst (v := 1) (by decide) (dk_X7_foundling 3 _ rfl) ?_
                          refine J_cV (rv := some (.int 1)) (h' := hM0) (d' := 11) (As := [.int 0, .int 0, .int 1]) ok_X7_in vi_X7_in cl_7_194 (n := 3) (by decide +kernel) rfl rfl rfl rfl (by decide) (by decide) (dk_X7_foundling 4 _ rfl) ?_ ?_
                          · refine jCt_of ok_X7_in (fun _ _ => Nat.le_of_ble_eq_true rfl) (fun _ _ hq => by rw [hq.2]; first | exact Nat.le_refl _ | simp) ?_
                            show J _ _ _ _ _ _ _ _ [(0, .ref 0), (1, .int 0), (2, .int 0), (3, .int 1)] _ _ _
                            refine J_iload_n (i := 1) (a := 1) rfl rfl (dk_X7_in 0 _ rfl) ?_
                            refine J_iload_n (i := 2) (a := 2) rfl rfl (dk_X7_in 1 _ rfl) ?_
                            refine J_icF (tgt := 14) (by decide) (dk_X7_in 2 _ rfl) (jI_nlt (by decide : (0 : Int32).toInt = 0) (by decide : (0 : Int32).toInt = 0) (by omega)) ?_
                            refine J_iload_n (i := 1) (a := 1) rfl rfl (dk_X7_in 5 _ rfl) ?_
                            refine J_iload_n (i := 3) (a := 3) rfl rfl (dk_X7_in 6 _ rfl) ?_
                            refine J_icF (tgt := 14) (by decide) (dk_X7_in 7 _ rfl) (jI_nlt (by decide : (1 : Int32).toInt = 1) (by decide : (0 : Int32).toInt = 0) (by omega)) ?_
                            refine J_iconst (v := 1) (by decide) (dk_X7_in 10 _ rfl) ?_
                            refine J_goto (tgt := 15) (by decide) (dk_X7_in 11 _ rfl) ?_
                            exact J_iret rfl rfl (dk_X7_in 15 _ rfl) ⟨rfl, rfl⟩
                          show J _ _ _ _ _ _ _ _ _ [.int 1] _ _
                          refine J_ifT (tgt := 14) (by decide) (dk_X7_foundling 7 _ rfl) (jI_ne (by decide : (1 : Int32).toInt = 1) (by decide : (0 : Int32).toInt = 0) (by omega)) ?_
                          refine J_aload_n (i := 0) (a := 0) rfl rfl (dk_X7_foundling 14 _ rfl) ?_
                          refine J_iload_n (i := 1) (a := 1) rfl rfl (dk_X7_foundling 15 _ rfl) ?_
                          refine J_cV (rv := some (.int 1)) (h' := hM0) (d' := 11) (As := [.int 5]) ok_X7_isDay vi_X7_isDay cl_7_198 (n := 1) (by decide +kernel) rfl rfl rfl rfl (by decide) (by decide) (dk_X7_foundling 16 _ rfl) ?_ ?_
                          · refine jCt_of ok_X7_isDay (fun _ _ => Nat.le_of_ble_eq_true rfl) (fun _ _ hq => by rw [hq.2]; first | exact Nat.le_refl _ | simp) ?_
                            show J _ _ _ _ _ _ _ _ [(0, .ref 0), (1, .int 5)] _ _ _
                            refine J_aload_n (i := 0) (a := 0) rfl rfl (dk_X7_isDay 0 _ rfl) ?_
                            refine J_iload_n (i := 1) (a := 1) rfl rfl (dk_X7_isDay 1 _ rfl) ?_
                            refine J_iconst (v := 0) (by decide) (dk_X7_isDay 2 _ rfl) ?_
                            refine J_bipush (v := 11) (by decide) (dk_X7_isDay 3 _ rfl) ?_
                            refine J_cV (rv := some (.int 1)) (h' := hM0) (d' := 10) (As := [.int 5, .int 0, .int 11]) ok_X7_in vi_X7_in cl_7_194 (n := 3) (by decide +kernel) rfl rfl rfl rfl (by decide) (by decide) (dk_X7_isDay 5 _ rfl) ?_ ?_
                            · refine jCt_of ok_X7_in (fun _ _ => Nat.le_of_ble_eq_true rfl) (fun _ _ hq => by rw [hq.2]; first | exact Nat.le_refl _ | simp) ?_
                              show J _ _ _ _ _ _ _ _ [(0, .ref 0), (1, .int 5), (2, .int 0), (3, .int 11)] _ _ _
                              refine J_iload_n (i := 1) (a := 1) rfl rfl (dk_X7_in 0 _ rfl) ?_
                              refine J_iload_n (i := 2) (a := 2) rfl rfl (dk_X7_in 1 _ rfl) ?_
                              refine J_icF (tgt := 14) (by decide) (dk_X7_in 2 _ rfl) (jI_nlt (by decide : (5 : Int32).toInt = 5) (by decide : (0 : Int32).toInt = 0) (by omega)) ?_
                              refine J_iload_n (i := 1) (a := 1) rfl rfl (dk_X7_in 5 _ rfl) ?_
                              refine J_iload_n (i := 3) (a := 3) rfl rfl (dk_X7_in 6 _ rfl) ?_
                              refine J_icF (tgt := 14) (by decide) (dk_X7_in 7 _ rfl) (jI_nlt (by decide : (11 : Int32).toInt = 11) (by decide : (5 : Int32).toInt = 5) (by omega)) ?_
                              refine J_iconst (v := 1) (by decide) (dk_X7_in 10 _ rfl) ?_
                              refine J_goto (tgt := 15) (by decide) (dk_X7_in 11 _ rfl) ?_
                              exact J_iret rfl rfl (dk_X7_in 15 _ rfl) ⟨rfl, rfl⟩
                            show J _ _ _ _ _ _ _ _ _ [.int 1] _ _
                            exact J_iret rfl rfl (dk_X7_isDay 8 _ rfl) ⟨rfl, rfl⟩
                          show J _ _ _ _ _ _ _ _ _ [.int 1] _ _
                          refine J_ifT (tgt := 26) (by decide) (dk_X7_foundling 19 _ rfl) (jI_ne (by decide : (1 : Int32).toInt = 1) (by decide : (0 : Int32).toInt = 0) (by omega)) ?_
                          refine J_aload_n (i := 0) (a := 0) rfl rfl (dk_X7_foundling 26 _ rfl) ?_
                          refine J_getf fl_7_7 rfl rfl (dk_X7_foundling 27 _ rfl) ?_
                          refine J_bipush (v := 7) (by decide) (dk_X7_foundling 30 _ rfl) ?_
                          refine J_icT (tgt := 38) (by decide) (dk_X7_foundling 32 _ rfl) (jI_ne (by decide : (0 : Int32).toInt = 0) (by decide : (7 : Int32).toInt = 7) (by omega)) ?_
                          refine J_aload_n (i := 0) (a := 0) rfl rfl (dk_X7_foundling 38 _ rfl) ?_
                          refine J_aload_n (i := 0) (a := 0) rfl rfl (dk_X7_foundling 39 _ rfl) ?_
                          refine J_getf fl_7_7 rfl rfl (dk_X7_foundling 40 _ rfl) ?_
                          refine J_iconst (v := 0) (by decide) (dk_X7_foundling 43 _ rfl) ?_
                          refine J_iconst (v := 0) (by decide) (dk_X7_foundling 44 _ rfl) ?_
                          refine J_iconst (v := 0) (by decide) (dk_X7_foundling 45 _ rfl) ?_
                          refine J_iload_n (i := 1) (a := 1) rfl rfl (dk_X7_foundling 46 _ rfl) ?_
                          refine J_cV (rv := none) (h' := hC7_40) (d' := 11) (As := [.int 0, .int 0, .int 0, .int 0, .int 5]) ok_X7_lay vi_X7_lay cl_7_202 (n := 5) (by decide +kernel) rfl rfl rfl rfl (by decide) (by decide) (dk_X7_foundling 47 _ rfl) (jev_ct (M := m_X7_lay) rfl rc7_40) ?_
                          show J _ _ _ _ _ _ _ _ _ [] _ _
                          refine J_aload_n (i := 0) (a := 0) rfl rfl (dk_X7_foundling 50 _ rfl) ?_
                          refine J_dup rfl (dk_X7_foundling 51 _ rfl) ?_
                          refine J_getf fl_7_7 rfl rfl (dk_X7_foundling 52 _ rfl) ?_
                          refine J_iconst (v := 1) (by decide) (dk_X7_foundling 55 _ rfl) ?_
                          refine J_iaddC (v := 1) (by decide) (dk_X7_foundling 56 _ rfl) ?_
                          refine J_putf fl_7_7 rfl (fun q hq => by cases hq; rfl) trivial (Nat.le_of_ble_eq_true rfl) (dk_X7_foundling 57 _ rfl) ?_
                          refine J_aload_n (i := 0) (a := 0) rfl rfl (dk_X7_foundling 60 _ rfl) ?_
                          refine J_aload_n (i := 0) (a := 0) rfl rfl (dk_X7_foundling 61 _ rfl) ?_
                          refine J_getf fl_7_7 rfl rfl (dk_X7_foundling 62 _ rfl) ?_
                          refine J_iconst (v := 1) (by decide) (dk_X7_foundling 65 _ rfl) ?_
                          refine J_isubC (v := 0) (by decide) (dk_X7_foundling 66 _ rfl) ?_
                          refine J_iconst (v := 1) (by decide) (dk_X7_foundling 67 _ rfl) ?_
                          refine J_cV (rv := none) (h' := hC7_41) (d' := 11) (As := [.int 0, .int 1]) ok_X7_layBest vi_X7_layBest cl_7_326 (n := 2) (by decide +kernel) rfl rfl rfl rfl (by decide) (by decide) (dk_X7_foundling 68 _ rfl) (jev_ct (M := m_X7_layBest) rfl rc7_41) ?_
                          show J _ _ _ _ _ _ _ _ _ [] _ _
                          refine J_aload_n (i := 0) (a := 0) rfl rfl (dk_X7_foundling 71 _ rfl) ?_
                          refine J_dup rfl (dk_X7_foundling 72 _ rfl) ?_
                          refine J_getf fl_7_7 rfl rfl (dk_X7_foundling 73 _ rfl) ?_
                          refine J_iconst (v := 1) (by decide) (dk_X7_foundling 76 _ rfl) ?_
                          refine J_isubC (v := 0) (by decide) (dk_X7_foundling 77 _ rfl) ?_
                          refine J_putf fl_7_7 rfl (fun q hq => by cases hq; rfl) trivial (Nat.le_of_ble_eq_true rfl) (dk_X7_foundling 78 _ rfl) ?_
                          refine J_iload_n (i := 2) (a := 2) rfl rfl (dk_X7_foundling 81 _ rfl) ?_
                          refine J_ifF (tgt := 92) (by decide) (dk_X7_foundling 82 _ rfl) (fun z => z (jI_eq (by decide : (0 : Int32).toInt = 0) (by decide : (0 : Int32).toInt = 0) (by omega))) ?_
                          refine J_aload_n (i := 0) (a := 0) rfl rfl (dk_X7_foundling 85 _ rfl) ?_
                          refine J_getf fl_7_114 rfl rfl (dk_X7_foundling 86 _ rfl) ?_
                          refine J_goto (tgt := 96) (by decide) (dk_X7_foundling 89 _ rfl) ?_
                          exact J_iret rfl rfl (dk_X7_foundling 96 _ rfl) ⟨rfl, rfl⟩
                      · by_cases c12 : (d : Int32).toInt = 6
                        · obtain rfl : d = 6 := jI_eq rfl (by decide) c12
                          refine ⟨0, ?_, ?_⟩
                          · refine jCt_of ok_X6_foundling (fun _ _ => Nat.le_of_ble_eq_true rfl) (fun _ _ hq => Nat.le_of_eq (lX.trans hq.2.symm)) ?_
                            show J _ _ _ _ _ _ _ _ [(0, .ref 0), (1, .int 6), (2, .int 0)] _ _ _
                            refine J_iload_n (i := 2) (a := 2) rfl rfl (dk_X6_foundling 0 _ rfl) ?_
                            refine J_ifF (tgt := 9) (by decide) (dk_X6_foundling 1 _ rfl) (jI_nlt (by decide : (0 : Int32).toInt = 0) (by decide : (0 : Int32).toInt = 0) (by omega)) ?_
                            refine J_iload_n (i := 2) (a := 2) rfl rfl (dk_X6_foundling 4 _ rfl) ?_
                            refine J_iconst (v := 1) (by decide) (dk_X6_foundling 5 _ rfl) ?_
                            refine J_icT (tgt := 12) (by decide) (dk_X6_foundling 6 _ rfl) (jI_le (by decide : (0 : Int32).toInt = 0) (by decide : (1 : Int32).toInt = 1) (by omega)) ?_
                            refine J_iload_n (i := 1) (a := 1) rfl rfl (dk_X6_foundling 12 _ rfl) ?_
                            refine J_cS (rv := some (.int 1)) (h' := hN0) (d' := 11) (As := [.int 6]) ok_X6_isDay st_X6_isDay cl_6_67 rfl (n := 1) (by decide +kernel) rfl (by decide) (by decide) (dk_X6_foundling 13 _ rfl) ?_ ?_
                            · refine jCt_of ok_X6_isDay (fun _ _ => Nat.le_of_ble_eq_true rfl) (fun _ _ hq => by rw [hq.2]; first | exact Nat.le_refl _ | simp) ?_
                              show J _ _ _ _ _ _ _ _ [(0, .int 6)] _ _ _
                              refine J_iload_n (i := 0) (a := 0) rfl rfl (dk_X6_isDay 0 _ rfl) ?_
                              refine J_ifF (tgt := 14) (by decide) (dk_X6_isDay 1 _ rfl) (jI_nlt (by decide : (6 : Int32).toInt = 6) (by decide : (0 : Int32).toInt = 0) (by omega)) ?_
                              refine J_iload_n (i := 0) (a := 0) rfl rfl (dk_X6_isDay 4 _ rfl) ?_
                              refine J_bipush (v := 12) (by decide) (dk_X6_isDay 5 _ rfl) ?_
                              refine J_icF (tgt := 14) (by decide) (dk_X6_isDay 7 _ rfl) (jI_nle (by decide : (12 : Int32).toInt = 12) (by decide : (6 : Int32).toInt = 6) (by omega)) ?_
                              refine J_iconst (v := 1) (by decide) (dk_X6_isDay 10 _ rfl) ?_
                              refine J_goto (tgt := 15) (by decide) (dk_X6_isDay 11 _ rfl) ?_
                              exact J_iret rfl rfl (dk_X6_isDay 15 _ rfl) ⟨rfl, rfl⟩
                            show J _ _ _ _ _ _ _ _ _ [.int 1] _ _
                            refine J_ifT (tgt := 22) (by decide) (dk_X6_foundling 16 _ rfl) (jI_ne (by decide : (1 : Int32).toInt = 1) (by decide : (0 : Int32).toInt = 0) (by omega)) ?_
                            refine J_aload_n (i := 0) (a := 0) rfl rfl (dk_X6_foundling 22 _ rfl) ?_
                            refine J_getf fl_6_47 rfl rfl (dk_X6_foundling 23 _ rfl) ?_
                            refine J_getf fl_6_71 rfl rfl (dk_X6_foundling 26 _ rfl) ?_
                            refine J_bipush (v := 7) (by decide) (dk_X6_foundling 29 _ rfl) ?_
                            refine J_icT (tgt := 37) (by decide) (dk_X6_foundling 31 _ rfl) (jI_lt (by decide : (0 : Int32).toInt = 0) (by decide : (7 : Int32).toInt = 7) (by omega)) ?_
                            refine J_aload_n (i := 0) (a := 0) rfl rfl (dk_X6_foundling 37 _ rfl) ?_
                            refine J_getf fl_6_54 rfl rfl (dk_X6_foundling 38 _ rfl) ?_
                            refine J_aload_n (i := 0) (a := 0) rfl rfl (dk_X6_foundling 41 _ rfl) ?_
                            refine J_getf fl_6_47 rfl rfl (dk_X6_foundling 42 _ rfl) ?_
                            refine J_cV (rv := none) (h' := hN0) (d' := 11) (As := [.ref 14]) ok_X2_copy vi_X2_copy cl_6_185 (n := 1) (by decide +kernel) rfl rfl rfl rfl (by decide) (by decide) (dk_X6_foundling 45 _ rfl) (jev_ct (M := m_X2_copy) rfl rc6_0) ?_
                            show J _ _ _ _ _ _ _ _ _ [] _ _
                            refine J_aload_n (i := 0) (a := 0) rfl rfl (dk_X6_foundling 48 _ rfl) ?_
                            refine J_getf fl_6_54 rfl rfl (dk_X6_foundling 49 _ rfl) ?_
                            refine J_iconst (v := 0) (by decide) (dk_X6_foundling 52 _ rfl) ?_
                            refine J_iconst (v := 0) (by decide) (dk_X6_foundling 53 _ rfl) ?_
                            refine J_iconst (v := 0) (by decide) (dk_X6_foundling 54 _ rfl) ?_
                            refine J_iload_n (i := 1) (a := 1) rfl rfl (dk_X6_foundling 55 _ rfl) ?_
                            refine J_cV (rv := none) (h' := hC6_43) (d' := 11) (As := [.int 0, .int 0, .int 0, .int 6]) ok_X2_add vi_X2_add cl_6_75 (n := 4) (by decide +kernel) rfl rfl rfl rfl (by decide) (by decide) (dk_X6_foundling 56 _ rfl) (jev_ct (M := m_X2_add) rfl rc6_43) ?_
                            show J _ _ _ _ _ _ _ _ _ [] _ _
                            refine J_aload_n (i := 0) (a := 0) rfl rfl (dk_X6_foundling 59 _ rfl) ?_
                            refine J_aload_n (i := 0) (a := 0) rfl rfl (dk_X6_foundling 60 _ rfl) ?_
                            refine J_getf fl_6_54 rfl rfl (dk_X6_foundling 61 _ rfl) ?_
                            refine J_getf fl_6_103 rfl rfl (dk_X6_foundling 64 _ rfl) ?_
                            refine J_aload_n (i := 0) (a := 0) rfl rfl (dk_X6_foundling 67 _ rfl) ?_
                            refine J_getf fl_6_54 rfl rfl (dk_X6_foundling 68 _ rfl) ?_
                            refine J_getf fl_6_71 rfl rfl (dk_X6_foundling 71 _ rfl) ?_
                            refine J_iconst (v := 1) (by decide) (dk_X6_foundling 74 _ rfl) ?_
                            refine J_isubC (v := 0) (by decide) (dk_X6_foundling 75 _ rfl) ?_
                            refine J_iload_n (i := 2) (a := 2) rfl rfl (dk_X6_foundling 76 _ rfl) ?_
                            refine J_cV (rv := some (.int 0)) (h' := hC6_44) (d' := 11) (As := [.ref 35, .int 0, .int 0]) ok_X6_bestOf vi_X6_bestOf cl_6_188 (n := 3) (by decide +kernel) rfl rfl rfl rfl (by decide) (by decide) (dk_X6_foundling 77 _ rfl) ?_ ?_
                            · refine jCt_of ok_X6_bestOf (fun _ _ => Nat.le_of_ble_eq_true rfl) (fun _ _ hq => by rw [hq.2]; first | exact Nat.le_refl _ | simp) ?_
                              show J _ _ _ _ _ _ _ _ [(0, .ref 0), (1, .ref 35), (2, .int 0), (3, .int 0)] _ _ _
                              refine J_aload_n (i := 0) (a := 0) rfl rfl (dk_X6_bestOf 0 _ rfl) ?_
                              refine J_aload_n (i := 1) (a := 1) rfl rfl (dk_X6_bestOf 1 _ rfl) ?_
                              refine J_iload_n (i := 2) (a := 2) rfl rfl (dk_X6_bestOf 2 _ rfl) ?_
                              refine J_aload_n (i := 0) (a := 0) rfl rfl (dk_X6_bestOf 3 _ rfl) ?_
                              refine J_getf fl_6_54 rfl rfl (dk_X6_bestOf 4 _ rfl) ?_
                              refine J_getf fl_6_83 rfl rfl (dk_X6_bestOf 7 _ rfl) ?_
                              refine J_getf fl_6_87 rfl rfl (dk_X6_bestOf 10 _ rfl) ?_
                              refine J_cV (rv := none) (h' := hC6_44) (d' := 10) (As := [.ref 35, .int 0, .int 10]) ok_X6_tryDays vi_X6_tryDays cl_6_192 (n := 3) (by decide +kernel) rfl rfl rfl rfl (by decide) (by decide) (dk_X6_bestOf 13 _ rfl) (jev_ct (M := m_X6_tryDays) rfl rc6_44) ?_
                              show J _ _ _ _ _ _ _ _ _ [] _ _
                              refine J_aload_n (i := 0) (a := 0) rfl rfl (dk_X6_bestOf 16 _ rfl) ?_
                              refine J_cV (rv := some (.int 0)) (h' := hC6_44) (d' := 10) (As := []) ok_X6_firstMost vi_X6_firstMost cl_6_269 (n := 0) (by decide +kernel) rfl rfl rfl rfl (by decide) (by decide) (dk_X6_bestOf 17 _ rfl) (jev_ct (M := m_X6_firstMost) rfl rc6_45) ?_
                              show J _ _ _ _ _ _ _ _ _ [.int 0] _ _
                              refine J_istore (i := 4) (by decide) (dk_X6_bestOf 20 _ rfl) ?_
                              show J _ _ _ _ _ _ _ _ [(4, .int 0), (0, .ref 0), (1, .ref 35), (2, .int 0), (3, .int 0)] _ _ _
                              refine J_iload_n (i := 3) (a := 3) rfl rfl (dk_X6_bestOf 22 _ rfl) ?_
                              refine J_ifF (tgt := 31) (by decide) (dk_X6_bestOf 23 _ rfl) (fun z => z (jI_eq (by decide : (0 : Int32).toInt = 0) (by decide : (0 : Int32).toInt = 0) (by omega))) ?_
                              refine J_iload (i := 4) rfl (dk_X6_bestOf 26 _ rfl) ?_
                              refine J_goto (tgt := 38) (by decide) (dk_X6_bestOf 28 _ rfl) ?_
                              exact J_iret rfl rfl (dk_X6_bestOf 38 _ rfl) ⟨rfl, rfl⟩
                            show J _ _ _ _ _ _ _ _ _ [.int 0] _ _
                            exact J_iret rfl rfl (dk_X6_foundling 80 _ rfl) ⟨rfl, rfl⟩
                          · refine jCt_of ok_X7_foundling (fun _ _ => Nat.le_of_ble_eq_true rfl) (fun _ _ hq => Nat.le_of_eq (lM.trans hq.2.symm)) ?_
                            show J _ _ _ _ _ _ _ _ [(0, .ref 0), (1, .int 6), (2, .int 0)] _ _ _
                            refine J_aload_n (i := 0) (a := 0) rfl rfl (dk_X7_foundling 0 _ rfl) ?_
                            refine J_iload_n (i := 2) (a := 2) rfl rfl (dk_X7_foundling 1 _ rfl) ?_
                            refine J_iconst (v := 0) (by decide) (dk_X7_foundling 2 _ rfl) ?_
                            refine J_iconst (v := 1) (by decide) (dk_X7_foundling 3 _ rfl) ?_
                            refine J_cV (rv := some (.int 1)) (h' := hM0) (d' := 11) (As := [.int 0, .int 0, .int 1]) ok_X7_in vi_X7_in cl_7_194 (n := 3) (by decide +kernel) rfl rfl rfl rfl (by decide) (by decide) (dk_X7_foundling 4 _ rfl) ?_ ?_
                            · refine jCt_of ok_X7_in (fun _ _ => Nat.le_of_ble_eq_true rfl) (fun _ _ hq => by rw [hq.2]; first | exact Nat.le_refl _ | simp) ?_
                              show J _ _ _ _ _ _ _ _ [(0, .ref 0), (1, .int 0), (2, .int 0), (3, .int 1)] _ _ _
                              refine J_iload_n (i := 1) (a := 1) rfl rfl (dk_X7_in 0 _ rfl) ?_
                              refine J_iload_n (i := 2) (a := 2) rfl rfl (dk_X7_in 1 _ rfl) ?_
                              refine J_icF (tgt := 14) (by decide) (dk_X7_in 2 _ rfl) (jI_nlt (by decide : (0 : Int32).toInt = 0) (by decide : (0 : Int32).toInt = 0) (by omega)) ?_
                              refine J_iload_n (i := 1) (a := 1) rfl rfl (dk_X7_in 5 _ rfl) ?_
                              refine J_iload_n (i := 3) (a := 3) rfl rfl (dk_X7_in 6 _ rfl) ?_
                              refine J_icF (tgt := 14) (by decide) (dk_X7_in 7 _ rfl) (jI_nlt (by decide : (1 : Int32).toInt = 1) (by decide : (0 : Int32).toInt = 0) (by omega)) ?_
                              refine J_iconst (v := 1) (by decide) (dk_X7_in 10 _ rfl) ?_
                              refine J_goto (tgt := 15) (by decide) (dk_X7_in 11 _ rfl) ?_
                              exact J_iret rfl rfl (dk_X7_in 15 _ rfl) ⟨rfl, rfl⟩
                            show J _ _ _ _ _ _ _ _ _ [.int 1] _ _
                            refine J_ifT (tgt := 14) (by decide) (dk_X7_foundling 7 _ rfl) (jI_ne (by decide : (1 : Int32).toInt = 1) (by decide : (0 : Int32).toInt = 0) (by omega)) ?_
                            refine J_aload_n (i := 0) (a := 0) rfl rfl (dk_X7_foundling 14 _ rfl) ?_
                            refine J_iload_n (i := 1) (a := 1) rfl rfl (dk_X7_foundling 15 _ rfl) ?_
                            refine J_cV (rv := some (.int 1)) (h' := hM0) (d' := 11) (As := [.int 6]) ok_X7_isDay vi_X7_isDay cl_7_198 (n := 1) (by decide +kernel) rfl rfl rfl rfl (by decide) (by decide) (dk_X7_foundling 16 _ rfl) ?_ ?_
                            · refine jCt_of ok_X7_isDay (fun _ _ => Nat.le_of_ble_eq_true rfl) (fun _ _ hq => by rw [hq.2]; first | exact Nat.le_refl _ | simp) ?_
                              show J _ _ _ _ _ _ _ _ [(0, .ref 0), (1, .int 6)] _ _ _
                              refine J_aload_n (i := 0) (a := 0) rfl rfl (dk_X7_isDay 0 _ rfl) ?_
                              refine J_iload_n (i := 1) (a := 1) rfl rfl (dk_X7_isDay 1 _ rfl) ?_
                              refine J_iconst (v := 0) (by decide) (dk_X7_isDay 2 _ rfl) ?_
                              refine J_bipush (v := 11) (by decide) (dk_X7_isDay 3 _ rfl) ?_
                              refine J_cV (rv := some (.int 1)) (h' := hM0) (d' := 10) (As := [.int 6, .int 0, .int 11]) ok_X7_in vi_X7_in cl_7_194 (n := 3) (by decide +kernel) rfl rfl rfl rfl (by decide) (by decide) (dk_X7_isDay 5 _ rfl) ?_ ?_
                              · refine jCt_of ok_X7_in (fun _ _ => Nat.le_of_ble_eq_true rfl) (fun _ _ hq => by rw [hq.2]; first | exact Nat.le_refl _ | simp) ?_
                                show J _ _ _ _ _ _ _ _ [(0, .ref 0), (1, .int 6), (2, .int 0), (3, .int 11)] _ _ _
                                refine J_iload_n (i := 1) (a := 1) rfl rfl (dk_X7_in 0 _ rfl) ?_
                                refine J_iload_n (i := 2) (a := 2) rfl rfl (dk_X7_in 1 _ rfl) ?_
                                refine J_icF (tgt := 14) (by decide) (dk_X7_in 2 _ rfl) (jI_nlt (by decide : (6 : Int32).toInt = 6) (by decide : (0 : Int32).toInt = 0) (by omega)) ?_
                                refine J_iload_n (i := 1) (a := 1) rfl rfl (dk_X7_in 5 _ rfl) ?_
                                refine J_iload_n (i := 3) (a := 3) rfl rfl (dk_X7_in 6 _ rfl) ?_
                                refine J_icF (tgt := 14) (by decide) (dk_X7_in 7 _ rfl) (jI_nlt (by decide : (11 : Int32).toInt = 11) (by decide : (6 : Int32).toInt = 6) (by omega)) ?_
                                refine J_iconst (v := 1) (by decide) (dk_X7_in 10 _ rfl) ?_
                                refine J_goto (tgt := 15) (by decide) (dk_X7_in 11 _ rfl) ?_
                                exact J_iret rfl rfl (dk_X7_in 15 _ rfl) ⟨rfl, rfl⟩
                              show J _ _ _ _ _ _ _ _ _ [.int 1] _ _
                              exact J_iret rfl rfl (dk_X7_isDay 8 _ rfl) ⟨rfl, rfl⟩
                            show J _ _ _ _ _ _ _ _ _ [.int 1] _ _
                            refine J_ifT (tgt := 26) (by decide) (dk_X7_foundling 19 _ rfl) (jI_ne (by decide : (1 : Int32).toInt = 1) (by decide : (0 : Int32).toInt = 0) (by omega)) ?_
                            refine J_aload_n (i := 0) (a := 0) rfl rfl (dk_X7_foundling 26 _ rfl) ?_
                            refine J_getf fl_7_7 rfl rfl (dk_X7_foundling 27 _ rfl) ?_
                            refine J_bipush (v := 7) (by decide) (dk_X7_foundling 30 _ rfl) ?_
                            refine J_icT (tgt := 38) (by decide) (dk_X7_foundling 32 _ rfl) (jI_ne (by decide : (0 : Int32).toInt = 0) (by decide : (7 : Int32).toInt = 7) (by omega)) ?_
                            refine J_aload_n (i := 0) (a := 0) rfl rfl (dk_X7_foundling 38 _ rfl) ?_
                            refine J_aload_n (i := 0) (a := 0) rfl rfl (dk_X7_foundling 39 _ rfl) ?_
                            refine J_getf fl_7_7 rfl rfl (dk_X7_foundling 40 _ rfl) ?_
                            refine J_iconst (v := 0) (by decide) (dk_X7_foundling 43 _ rfl) ?_
                            refine J_iconst (v := 0) (by decide) (dk_X7_foundling 44 _ rfl) ?_
                            refine J_iconst (v := 0) (by decide) (dk_X7_foundling 45 _ rfl) ?_
                            refine J_iload_n (i := 1) (a := 1) rfl rfl (dk_X7_foundling 46 _ rfl) ?_
                            refine J_cV (rv := none) (h' := hC7_46) (d' := 11) (As := [.int 0, .int 0, .int 0, .int 0, .int 6]) ok_X7_lay vi_X7_lay cl_7_202 (n := 5) (by decide +kernel) rfl rfl rfl rfl (by decide) (by decide) (dk_X7_foundling 47 _ rfl) (jev_ct (M := m_X7_lay) rfl rc7_46) ?_
                            show J _ _ _ _ _ _ _ _ _ [] _ _
                            refine J_aload_n (i := 0) (a := 0) rfl rfl (dk_X7_foundling 50 _ rfl) ?_
                            refine J_dup rfl (dk_X7_foundling 51 _ rfl) ?_
                            refine J_getf fl_7_7 rfl rfl (dk_X7_foundling 52 _ rfl) ?_
                            refine J_iconst (v := 1) (by decide) (dk_X7_foundling 55 _ rfl) ?_
                            refine J_iaddC (v := 1) (by decide) (dk_X7_foundling 56 _ rfl) ?_
                            refine J_putf fl_7_7 rfl (fun q hq => by cases hq; rfl) trivial (Nat.le_of_ble_eq_true rfl) (dk_X7_foundling 57 _ rfl) ?_
                            refine J_aload_n (i := 0) (a := 0) rfl rfl (dk_X7_foundling 60 _ rfl) ?_
                            refine J_aload_n (i := 0) (a := 0) rfl rfl (dk_X7_foundling 61 _ rfl) ?_
                            refine J_getf fl_7_7 rfl rfl (dk_X7_foundling 62 _ rfl) ?_
                            refine J_iconst (v := 1) (by decide) (dk_X7_foundling 65 _ rfl) ?_
                            refine J_isubC (v := 0) (by decide) (dk_X7_foundling 66 _ rfl) ?_
                            refine J_iconst (v := 1) (by decide) (dk_X7_foundling 67 _ rfl) ?_
                            refine J_cV (rv := none) (h' := hC7_47) (d' := 11) (As := [.int 0, .int 1]) ok_X7_layBest vi_X7_layBest cl_7_326 (n := 2) (by decide +kernel) rfl rfl rfl rfl (by decide) (by decide) (dk_X7_foundling 68 _ rfl) (jev_ct (M := m_X7_layBest) rfl rc7_47) ?_
                            show J _ _ _ _ _ _ _ _ _ [] _ _
                            refine J_aload_n (i := 0) (a := 0) rfl rfl (dk_X7_foundling 71 _ rfl) ?_
                            refine J_dup rfl (dk_X7_foundling 72 _ rfl) ?_
                            refine J_getf fl_7_7 rfl rfl (dk_X7_foundling 73 _ rfl) ?_
                            refine J_iconst (v := 1) (by decide) (dk_X7_foundling 76 _ rfl) ?_
                            refine J_isubC (v := 0) (by decide) (dk_X7_foundling 77 _ rfl) ?_
                            refine J_putf fl_7_7 rfl (fun q hq => by cases hq; rfl) trivial (Nat.le_of_ble_eq_true rfl) (dk_X7_foundling 78 _ rfl) ?_
                            refine J_iload_n (i := 2) (a := 2) rfl rfl (dk_X7_foundling 81 _ rfl) ?_
                            refine J_ifF (tgt := 92) (by decide) (dk_X7_foundling 82 _ rfl) (fun z => z (jI_eq (by decide : (0 : Int32).toInt = 0) (by decide : (0 : Int32).toInt = 0) (by omega))) ?_
                            refine J_aload_n (i := 0) (a := 0) rfl rfl (dk_X7_foundling 85 _ rfl) ?_
                            refine J_getf fl_7_114 rfl rfl (dk_X7_foundling 86 _ rfl) ?_
                            refine J_goto (tgt := 96) (by decide) (dk_X7_foundling 89 _ rfl) ?_
                            exact J_iret rfl rfl (dk_X7_foundling 96 _ rfl) ⟨rfl, rfl⟩
                        · by_cases c13 : (d : Int32).toInt = 7
                          · obtain rfl : d = 7 := jI_eq rfl (by decide) c13
                            refine ⟨0, ?_, ?_⟩
                            · refine jCt_of ok_X6_foundling (fun _ _ => Nat.le_of_ble_eq_true rfl) (fun _ _ hq => Nat.le_of_eq (lX.trans hq.2.symm)) ?_
                              show J _ _ _ _ _ _ _ _ [(0, .ref 0), (1, .int 7), (2, .int 0)] _ _ _
                              refine J_iload_n (i := 2) (a := 2) rfl rfl (dk_X6_foundling 0 _ rfl) ?_
                              refine J_ifF (tgt := 9) (by decide) (dk_X6_foundling 1 _ rfl) (jI_nlt (by decide : (0 : Int32).toInt = 0) (by decide : (0 : Int32).toInt = 0) (by omega)) ?_
                              refine J_iload_n (i := 2) (a := 2) rfl rfl (dk_X6_foundling 4 _ rfl) ?_
                              refine J_iconst (v := 1) (by decide) (dk_X6_foundling 5 _ rfl) ?_
                              refine J_icT (tgt := 12) (by decide) (dk_X6_foundling 6 _ rfl) (jI_le (by decide : (0 : Int32).toInt = 0) (by decide : (1 : Int32).toInt = 1) (by omega)) ?_
                              refine J_iload_n (i := 1) (a := 1) rfl rfl (dk_X6_foundling 12 _ rfl) ?_
                              refine J_cS (rv := some (.int 1)) (h' := hN0) (d' := 11) (As := [.int 7]) ok_X6_isDay st_X6_isDay cl_6_67 rfl (n := 1) (by decide +kernel) rfl (by decide) (by decide) (dk_X6_foundling 13 _ rfl) ?_ ?_
                              · refine jCt_of ok_X6_isDay (fun _ _ => Nat.le_of_ble_eq_true rfl) (fun _ _ hq => by rw [hq.2]; first | exact Nat.le_refl _ | simp) ?_
                                show J _ _ _ _ _ _ _ _ [(0, .int 7)] _ _ _
                                refine J_iload_n (i := 0) (a := 0) rfl rfl (dk_X6_isDay 0 _ rfl) ?_
                                refine J_ifF (tgt := 14) (by decide) (dk_X6_isDay 1 _ rfl) (jI_nlt (by decide : (7 : Int32).toInt = 7) (by decide : (0 : Int32).toInt = 0) (by omega)) ?_
                                refine J_iload_n (i := 0) (a := 0) rfl rfl (dk_X6_isDay 4 _ rfl) ?_
                                refine J_bipush (v := 12) (by decide) (dk_X6_isDay 5 _ rfl) ?_
                                refine J_icF (tgt := 14) (by decide) (dk_X6_isDay 7 _ rfl) (jI_nle (by decide : (12 : Int32).toInt = 12) (by decide : (7 : Int32).toInt = 7) (by omega)) ?_
                                refine J_iconst (v := 1) (by decide) (dk_X6_isDay 10 _ rfl) ?_
                                refine J_goto (tgt := 15) (by decide) (dk_X6_isDay 11 _ rfl) ?_
                                exact J_iret rfl rfl (dk_X6_isDay 15 _ rfl) ⟨rfl, rfl⟩
                              show J _ _ _ _ _ _ _ _ _ [.int 1] _ _
                              refine J_ifT (tgt := 22) (by decide) (dk_X6_foundling 16 _ rfl) (jI_ne (by decide : (1 : Int32).toInt = 1) (by decide : (0 : Int32).toInt = 0) (by omega)) ?_
                              refine J_aload_n (i := 0) (a := 0) rfl rfl (dk_X6_foundling 22 _ rfl) ?_
                              refine J_getf fl_6_47 rfl rfl (dk_X6_foundling 23 _ rfl) ?_
                              refine J_getf fl_6_71 rfl rfl (dk_X6_foundling 26 _ rfl) ?_
                              refine J_bipush (v := 7) (by decide) (dk_X6_foundling 29 _ rfl) ?_
                              refine J_icT (tgt := 37) (by decide) (dk_X6_foundling 31 _ rfl) (jI_lt (by decide : (0 : Int32).toInt = 0) (by decide : (7 : Int32).toInt = 7) (by omega)) ?_
                              refine J_aload_n (i := 0) (a := 0) rfl rfl (dk_X6_foundling 37 _ rfl) ?_
                              refine J_getf fl_6_54 rfl rfl (dk_X6_foundling 38 _ rfl) ?_
                              refine J_aload_n (i := 0) (a := 0) rfl rfl (dk_X6_foundling 41 _ rfl) ?_
                              refine J_getf fl_6_47 rfl rfl (dk_X6_foundling 42 _ rfl) ?_
                              refine J_cV (rv := none) (h' := hN0) (d' := 11) (As := [.ref 14]) ok_X2_copy vi_X2_copy cl_6_185 (n := 1) (by decide +kernel) rfl rfl rfl rfl (by decide) (by decide) (dk_X6_foundling 45 _ rfl) (jev_ct (M := m_X2_copy) rfl rc6_0) ?_
                              show J _ _ _ _ _ _ _ _ _ [] _ _
                              refine J_aload_n (i := 0) (a := 0) rfl rfl (dk_X6_foundling 48 _ rfl) ?_
                              refine J_getf fl_6_54 rfl rfl (dk_X6_foundling 49 _ rfl) ?_
                              refine J_iconst (v := 0) (by decide) (dk_X6_foundling 52 _ rfl) ?_
                              refine J_iconst (v := 0) (by decide) (dk_X6_foundling 53 _ rfl) ?_
                              refine J_iconst (v := 0) (by decide) (dk_X6_foundling 54 _ rfl) ?_
                              refine J_iload_n (i := 1) (a := 1) rfl rfl (dk_X6_foundling 55 _ rfl) ?_
                              refine J_cV (rv := none) (h' := hC6_49) (d' := 11) (As := [.int 0, .int 0, .int 0, .int 7]) ok_X2_add vi_X2_add cl_6_75 (n := 4) (by decide +kernel) rfl rfl rfl rfl (by decide) (by decide) (dk_X6_foundling 56 _ rfl) (jev_ct (M := m_X2_add) rfl rc6_49) ?_
                              show J _ _ _ _ _ _ _ _ _ [] _ _
                              refine J_aload_n (i := 0) (a := 0) rfl rfl (dk_X6_foundling 59 _ rfl) ?_
                              refine J_aload_n (i := 0) (a := 0) rfl rfl (dk_X6_foundling 60 _ rfl) ?_
                              refine J_getf fl_6_54 rfl rfl (dk_X6_foundling 61 _ rfl) ?_
                              refine J_getf fl_6_103 rfl rfl (dk_X6_foundling 64 _ rfl) ?_
                              refine J_aload_n (i := 0) (a := 0) rfl rfl (dk_X6_foundling 67 _ rfl) ?_
                              refine J_getf fl_6_54 rfl rfl (dk_X6_foundling 68 _ rfl) ?_
                              refine J_getf fl_6_71 rfl rfl (dk_X6_foundling 71 _ rfl) ?_
                              refine J_iconst (v := 1) (by decide) (dk_X6_foundling 74 _ rfl) ?_
                              refine J_isubC (v := 0) (by decide) (dk_X6_foundling 75 _ rfl) ?_
                              refine J_iload_n (i := 2) (a := 2) rfl rfl (dk_X6_foundling 76 _ rfl) ?_
                              refine J_cV (rv := some (.int 0)) (h' := hC6_50) (d' := 11) (As := [.ref 35, .int 0, .int 0]) ok_X6_bestOf vi_X6_bestOf cl_6_188 (n := 3) (by decide +kernel) rfl rfl rfl rfl (by decide) (by decide) (dk_X6_foundling 77 _ rfl) ?_ ?_
                              · refine jCt_of ok_X6_bestOf (fun _ _ => Nat.le_of_ble_eq_true rfl) (fun _ _ hq => by rw [hq.2]; first | exact Nat.le_refl _ | simp) ?_
                                show J _ _ _ _ _ _ _ _ [(0, .ref 0), (1, .ref 35), (2, .int 0), (3, .int 0)] _ _ _
                                refine J_aload_n (i := 0) (a := 0) rfl rfl (dk_X6_bestOf 0 _ rfl) ?_
                                refine J_aload_n (i := 1) (a := 1) rfl rfl (dk_X6_bestOf 1 _ rfl) ?_
                                refine J_iload_n (i := 2) (a := 2) rfl rfl (dk_X6_bestOf 2 _ rfl) ?_
                                refine J_aload_n (i := 0) (a := 0) rfl rfl (dk_X6_bestOf 3 _ rfl) ?_
                                refine J_getf fl_6_54 rfl rfl (dk_X6_bestOf 4 _ rfl) ?_
                                refine J_getf fl_6_83 rfl rfl (dk_X6_bestOf 7 _ rfl) ?_
                                refine J_getf fl_6_87 rfl rfl (dk_X6_bestOf 10 _ rfl) ?_
                                refine J_cV (rv := none) (h' := hC6_50) (d' := 10) (As := [.ref 35, .int 0, .int 10]) ok_X6_tryDays vi_X6_tryDays cl_6_192 (n := 3) (by decide +kernel) rfl rfl rfl rfl (by decide) (by decide) (dk_X6_bestOf 13 _ rfl) (jev_ct (M := m_X6_tryDays) rfl rc6_50) ?_
                                show J _ _ _ _ _ _ _ _ _ [] _ _
                                refine J_aload_n (i := 0) (a := 0) rfl rfl (dk_X6_bestOf 16 _ rfl) ?_
                                refine J_cV (rv := some (.int 0)) (h' := hC6_50) (d' := 10) (As := []) ok_X6_firstMost vi_X6_firstMost cl_6_269 (n := 0) (by decide +kernel) rfl rfl rfl rfl (by decide) (by decide) (dk_X6_bestOf 17 _ rfl) (jev_ct (M := m_X6_firstMost) rfl rc6_51) ?_
                                show J _ _ _ _ _ _ _ _ _ [.int 0] _ _
                                refine J_istore (i := 4) (by decide) (dk_X6_bestOf 20 _ rfl) ?_
                                show J _ _ _ _ _ _ _ _ [(4, .int 0), (0, .ref 0), (1, .ref 35), (2, .int 0), (3, .int 0)] _ _ _
                                refine J_iload_n (i := 3) (a := 3) rfl rfl (dk_X6_bestOf 22 _ rfl) ?_
                                refine J_ifF (tgt := 31) (by decide) (dk_X6_bestOf 23 _ rfl) (fun z => z (jI_eq (by decide : (0 : Int32).toInt = 0) (by decide : (0 : Int32).toInt = 0) (by omega))) ?_
                                refine J_iload (i := 4) rfl (dk_X6_bestOf 26 _ rfl) ?_
                                refine J_goto (tgt := 38) (by decide) (dk_X6_bestOf 28 _ rfl) ?_
                                exact J_iret rfl rfl (dk_X6_bestOf 38 _ rfl) ⟨rfl, rfl⟩
                              show J _ _ _ _ _ _ _ _ _ [.int 0] _ _
                              exact J_iret rfl rfl (dk_X6_foundling 80 _ rfl) ⟨rfl, rfl⟩
                            · refine jCt_of ok_X7_foundling (fun _ _ => Nat.le_of_ble_eq_true rfl) (fun _ _ hq => Nat.le_of_eq (lM.trans hq.2.symm)) ?_
                              show J _ _ _ _ _ _ _ _ [(0, .ref 0), (1, .int 7), (2, .int 0)] _ _ _
                              refine J_aload_n (i := 0) (a := 0) rfl rfl (dk_X7_foundling 0 _ rfl) ?_
                              refine J_iload_n (i := 2) (a := 2) rfl rfl (dk_X7_foundling 1 _ rfl) ?_
                              refine J_iconst (v := 0) (by decide) (dk_X7_foundling 2 _ rfl) ?_
                              refine J_iconst (v := 1) (by decide) (dk_X7_foundling 3 _ rfl) ?_
                              refine J_cV (rv := some (.int 1)) (h' := hM0) (d' := 11) (As := [.int 0, .int 0, .int 1]) ok_X7_in vi_X7_in cl_7_194 (n := 3) (by decide +kernel) rfl rfl rfl rfl (by decide) (by decide) (dk_X7_foundling 4 _ rfl) ?_ ?_
                              · refine jCt_of ok_X7_in (fun _ _ => Nat.le_of_ble_eq_true rfl) (fun _ _ hq => by rw [hq.2]; first | exact Nat.le_refl _ | simp) ?_
                                show J _ _ _ _ _ _ _ _ [(0, .ref 0), (1, .int 0), (2, .int 0), (3, .int 1)] _ _ _
                                refine J_iload_n (i := 1) (a := 1) rfl rfl (dk_X7_in 0 _ rfl) ?_
                                refine J_iload_n (i := 2) (a := 2) rfl rfl (dk_X7_in 1 _ rfl) ?_
                                refine J_icF (tgt := 14) (by decide) (dk_X7_in 2 _ rfl) (jI_nlt (by decide : (0 : Int32).toInt = 0) (by decide : (0 : Int32).toInt = 0) (by omega)) ?_
                                refine J_iload_n (i := 1) (a := 1) rfl rfl (dk_X7_in 5 _ rfl) ?_
                                refine J_iload_n (i := 3) (a := 3) rfl rfl (dk_X7_in 6 _ rfl) ?_
                                refine J_icF (tgt := 14) (by decide) (dk_X7_in 7 _ rfl) (jI_nlt (by decide : (1 : Int32).toInt = 1) (by decide : (0 : Int32).toInt = 0) (by omega)) ?_
                                refine J_iconst (v := 1) (by decide) (dk_X7_in 10 _ rfl) ?_
                                refine J_goto (tgt := 15) (by decide) (dk_X7_in 11 _ rfl) ?_
                                exact J_iret rfl rfl (dk_X7_in 15 _ rfl) ⟨rfl, rfl⟩
                              show J _ _ _ _ _ _ _ _ _ [.int 1] _ _
                              refine J_ifT (tgt := 14) (by decide) (dk_X7_foundling 7 _ rfl) (jI_ne (by decide : (1 : Int32).toInt = 1) (by decide : (0 : Int32).toInt = 0) (by omega)) ?_
                              refine J_aload_n (i := 0) (a := 0) rfl rfl (dk_X7_foundling 14 _ rfl) ?_
                              refine J_iload_n (i := 1) (a := 1) rfl rfl (dk_X7_foundling 15 _ rfl) ?_
                              refine J_cV (rv := some (.int 1)) (h' := hM0) (d' := 11) (As := [.int 7]) ok_X7_isDay vi_X7_isDay cl_7_198 (n := 1) (by decide +kernel) rfl rfl rfl rfl (by decide) (by decide) (dk_X7_foundling 16 _ rfl) ?_ ?_
                              · refine jCt_of ok_X7_isDay (fun _ _ => Nat.le_of_ble_eq_true rfl) (fun _ _ hq => by rw [hq.2]; first | exact Nat.le_refl _ | simp) ?_
                                show J _ _ _ _ _ _ _ _ [(0, .ref 0), (1, .int 7)] _ _ _
                                refine J_aload_n (i := 0) (a := 0) rfl rfl (dk_X7_isDay 0 _ rfl) ?_
                                refine J_iload_n (i := 1) (a := 1) rfl rfl (dk_X7_isDay 1 _ rfl) ?_
                                refine J_iconst (v := 0) (by decide) (dk_X7_isDay 2 _ rfl) ?_
                                refine J_bipush (v := 11) (by decide) (dk_X7_isDay 3 _ rfl) ?_
                                refine J_cV (rv := some (.int 1)) (h' := hM0) (d' := 10) (As := [.int 7, .int 0, .int 11]) ok_X7_in vi_X7_in cl_7_194 (n := 3) (by decide +kernel) rfl rfl rfl rfl (by decide) (by decide) (dk_X7_isDay 5 _ rfl) ?_ ?_
                                · refine jCt_of ok_X7_in (fun _ _ => Nat.le_of_ble_eq_true rfl) (fun _ _ hq => by rw [hq.2]; first | exact Nat.le_refl _ | simp) ?_
                                  show J _ _ _ _ _ _ _ _ [(0, .ref 0), (1, .int 7), (2, .int 0), (3, .int 11)] _ _ _
                                  refine J_iload_n (i := 1) (a := 1) rfl rfl (dk_X7_in 0 _ rfl) ?_
                                  refine J_iload_n (i := 2) (a := 2) rfl rfl (dk_X7_in 1 _ rfl) ?_
                                  refine J_icF (tgt := 14) (by decide) (dk_X7_in 2 _ rfl) (jI_nlt (by decide : (7 : Int32).toInt = 7) (by decide : (0 : Int32).toInt = 0) (by omega)) ?_
                                  refine J_iload_n (i := 1) (a := 1) rfl rfl (dk_X7_in 5 _ rfl) ?_
                                  refine J_iload_n (i := 3) (a := 3) rfl rfl (dk_X7_in 6 _ rfl) ?_
                                  refine J_icF (tgt := 14) (by decide) (dk_X7_in 7 _ rfl) (jI_nlt (by decide : (11 : Int32).toInt = 11) (by decide : (7 : Int32).toInt = 7) (by omega)) ?_
                                  refine J_iconst (v := 1) (by decide) (dk_X7_in 10 _ rfl) ?_
                                  refine J_goto (tgt := 15) (by decide) (dk_X7_in 11 _ rfl) ?_
                                  exact J_iret rfl rfl (dk_X7_in 15 _ rfl) ⟨rfl, rfl⟩
                                show J _ _ _ _ _ _ _ _ _ [.int 1] _ _
                                exact J_iret rfl rfl (dk_X7_isDay 8 _ rfl) ⟨rfl, rfl⟩
                              show J _ _ _ _ _ _ _ _ _ [.int 1] _ _
                              refine J_ifT (tgt := 26) (by decide) (dk_X7_foundling 19 _ rfl) (jI_ne (by decide : (1 : Int32).toInt = 1) (by decide : (0 : Int32).toInt = 0) (by omega)) ?_
                              refine J_aload_n (i := 0) (a := 0) rfl rfl (dk_X7_foundling 26 _ rfl) ?_
                              refine J_getf fl_7_7 rfl rfl (dk_X7_foundling 27 _ rfl) ?_
                              refine J_bipush (v := 7) (by decide) (dk_X7_foundling 30 _ rfl) ?_
                              refine J_icT (tgt := 38) (by decide) (dk_X7_foundling 32 _ rfl) (jI_ne (by decide : (0 : Int32).toInt = 0) (by decide : (7 : Int32).toInt = 7) (by omega)) ?_
                              refine J_aload_n (i := 0) (a := 0) rfl rfl (dk_X7_foundling 38 _ rfl) ?_
                              refine J_aload_n (i := 0) (a := 0) rfl rfl (dk_X7_foundling 39 _ rfl) ?_
                              refine J_getf fl_7_7 rfl rfl (dk_X7_foundling 40 _ rfl) ?_
                              refine J_iconst (v := 0) (by decide) (dk_X7_foundling 43 _ rfl) ?_
                              refine J_iconst (v := 0) (by decide) (dk_X7_foundling 44 _ rfl) ?_
                              refine J_iconst (v := 0) (by decide) (dk_X7_foundling 45 _ rfl) ?_
                              refine J_iload_n (i := 1) (a := 1) rfl rfl (dk_X7_foundling 46 _ rfl) ?_
                              refine J_cV (rv := none) (h' := hC7_52) (d' := 11) (As := [.int 0, .int 0, .int 0, .int 0, .int 7]) ok_X7_lay vi_X7_lay cl_7_202 (n := 5) (by decide +kernel) rfl rfl rfl rfl (by decide) (by decide) (dk_X7_foundling 47 _ rfl) (jev_ct (M := m_X7_lay) rfl rc7_52) ?_
                              show J _ _ _ _ _ _ _ _ _ [] _ _
                              refine J_aload_n (i := 0) (a := 0) rfl rfl (dk_X7_foundling 50 _ rfl) ?_
                              refine J_dup rfl (dk_X7_foundling 51 _ rfl) ?_
                              refine J_getf fl_7_7 rfl rfl (dk_X7_foundling 52 _ rfl) ?_
                              refine J_iconst (v := 1) (by decide) (dk_X7_foundling 55 _ rfl) ?_
                              refine J_iaddC (v := 1) (by decide) (dk_X7_foundling 56 _ rfl) ?_
                              refine J_putf fl_7_7 rfl (fun q hq => by cases hq; rfl) trivial (Nat.le_of_ble_eq_true rfl) (dk_X7_foundling 57 _ rfl) ?_
                              refine J_aload_n (i := 0) (a := 0) rfl rfl (dk_X7_foundling 60 _ rfl) ?_
                              refine J_aload_n (i := 0) (a := 0) rfl rfl (dk_X7_foundling 61 _ rfl) ?_
                              refine J_getf fl_7_7 rfl rfl (dk_X7_foundling 62 _ rfl) ?_
                              refine J_iconst (v := 1) (by decide) (dk_X7_foundling 65 _ rfl) ?_
                              refine J_isubC (v := 0) (by decide) (dk_X7_foundling 66 _ rfl) ?_
                              refine J_iconst (v := 1) (by decide) (dk_X7_foundling 67 _ rfl) ?_
                              refine J_cV (rv := none) (h' := hC7_53) (d' := 11) (As := [.int 0, .int 1]) ok_X7_layBest vi_X7_layBest cl_7_326 (n := 2) (by decide +kernel) rfl rfl rfl rfl (by decide) (by decide) (dk_X7_foundling 68 _ rfl) (jev_ct (M := m_X7_layBest) rfl rc7_53) ?_
                              show J _ _ _ _ _ _ _ _ _ [] _ _
                              refine J_aload_n (i := 0) (a := 0) rfl rfl (dk_X7_foundling 71 _ rfl) ?_
                              refine J_dup rfl (dk_X7_foundling 72 _ rfl) ?_
                              refine J_getf fl_7_7 rfl rfl (dk_X7_foundling 73 _ rfl) ?_
                              refine J_iconst (v := 1) (by decide) (dk_X7_foundling 76 _ rfl) ?_
                              refine J_isubC (v := 0) (by decide) (dk_X7_foundling 77 _ rfl) ?_
                              refine J_putf fl_7_7 rfl (fun q hq => by cases hq; rfl) trivial (Nat.le_of_ble_eq_true rfl) (dk_X7_foundling 78 _ rfl) ?_
                              refine J_iload_n (i := 2) (a := 2) rfl rfl (dk_X7_foundling 81 _ rfl) ?_
                              refine J_ifF (tgt := 92) (by decide) (dk_X7_foundling 82 _ rfl) (fun z => z (jI_eq (by decide : (0 : Int32).toInt = 0) (by decide : (0 : Int32).toInt = 0) (by omega))) ?_
                              refine J_aload_n (i := 0) (a := 0) rfl rfl (dk_X7_foundling 85 _ rfl) ?_
                              refine J_getf fl_7_114 rfl rfl (dk_X7_foundling 86 _ rfl) ?_
                              refine J_goto (tgt := 96) (by decide) (dk_X7_foundling 89 _ rfl) ?_
                              exact J_iret rfl rfl (dk_X7_foundling 96 _ rfl) ⟨rfl, rfl⟩
                          · by_cases c14 : (d : Int32).toInt = 8
                            · obtain rfl : d = 8 := jI_eq rfl (by decide) c14
                              refine ⟨0, ?_, ?_⟩
                              · refine jCt_of ok_X6_foundling (fun _ _ => Nat.le_of_ble_eq_true rfl) (fun _ _ hq => Nat.le_of_eq (lX.trans hq.2.symm)) ?_
                                show J _ _ _ _ _ _ _ _ [(0, .ref 0), (1, .int 8), (2, .int 0)] _ _ _
                                refine J_iload_n (i := 2) (a := 2) rfl rfl (dk_X6_foundling 0 _ rfl) ?_
                                refine J_ifF (tgt := 9) (by decide) (dk_X6_foundling 1 _ rfl) (jI_nlt (by decide : (0 : Int32).toInt = 0) (by decide : (0 : Int32).toInt = 0) (by omega)) ?_
                                refine J_iload_n (i := 2) (a := 2) rfl rfl (dk_X6_foundling 4 _ rfl) ?_
                                refine J_iconst (v := 1) (by decide) (dk_X6_foundling 5 _ rfl) ?_
                                refine J_icT (tgt := 12) (by decide) (dk_X6_foundling 6 _ rfl) (jI_le (by decide : (0 : Int32).toInt = 0) (by decide : (1 : Int32).toInt = 1) (by omega)) ?_
                                refine J_iload_n (i := 1) (a := 1) rfl rfl (dk_X6_foundling 12 _ rfl) ?_
                                refine J_cS (rv := some (.int 1)) (h' := hN0) (d' := 11) (As := [.int 8]) ok_X6_isDay st_X6_isDay cl_6_67 rfl (n := 1) (by decide +kernel) rfl (by decide) (by decide) (dk_X6_foundling 13 _ rfl) ?_ ?_
                                · refine jCt_of ok_X6_isDay (fun _ _ => Nat.le_of_ble_eq_true rfl) (fun _ _ hq => by rw [hq.2]; first | exact Nat.le_refl _ | simp) ?_
                                  show J _ _ _ _ _ _ _ _ [(0, .int 8)] _ _ _
                                  refine J_iload_n (i := 0) (a := 0) rfl rfl (dk_X6_isDay 0 _ rfl) ?_
                                  refine J_ifF (tgt := 14) (by decide) (dk_X6_isDay 1 _ rfl) (jI_nlt (by decide : (8 : Int32).toInt = 8) (by decide : (0 : Int32).toInt = 0) (by omega)) ?_
                                  refine J_iload_n (i := 0) (a := 0) rfl rfl (dk_X6_isDay 4 _ rfl) ?_
                                  refine J_bipush (v := 12) (by decide) (dk_X6_isDay 5 _ rfl) ?_
                                  refine J_icF (tgt := 14) (by decide) (dk_X6_isDay 7 _ rfl) (jI_nle (by decide : (12 : Int32).toInt = 12) (by decide : (8 : Int32).toInt = 8) (by omega)) ?_
                                  refine J_iconst (v := 1) (by decide) (dk_X6_isDay 10 _ rfl) ?_
                                  refine J_goto (tgt := 15) (by decide) (dk_X6_isDay 11 _ rfl) ?_
                                  exact J_iret rfl rfl (dk_X6_isDay 15 _ rfl) ⟨rfl, rfl⟩
                                show J _ _ _ _ _ _ _ _ _ [.int 1] _ _
                                refine J_ifT (tgt := 22) (by decide) (dk_X6_foundling 16 _ rfl) (jI_ne (by decide : (1 : Int32).toInt = 1) (by decide : (0 : Int32).toInt = 0) (by omega)) ?_
                                refine J_aload_n (i := 0) (a := 0) rfl rfl (dk_X6_foundling 22 _ rfl) ?_
                                refine J_getf fl_6_47 rfl rfl (dk_X6_foundling 23 _ rfl) ?_
                                refine J_getf fl_6_71 rfl rfl (dk_X6_foundling 26 _ rfl) ?_
                                refine J_bipush (v := 7) (by decide) (dk_X6_foundling 29 _ rfl) ?_
                                refine J_icT (tgt := 37) (by decide) (dk_X6_foundling 31 _ rfl) (jI_lt (by decide : (0 : Int32).toInt = 0) (by decide : (7 : Int32).toInt = 7) (by omega)) ?_
                                refine J_aload_n (i := 0) (a := 0) rfl rfl (dk_X6_foundling 37 _ rfl) ?_
                                refine J_getf fl_6_54 rfl rfl (dk_X6_foundling 38 _ rfl) ?_
                                refine J_aload_n (i := 0) (a := 0) rfl rfl (dk_X6_foundling 41 _ rfl) ?_
                                refine J_getf fl_6_47 rfl rfl (dk_X6_foundling 42 _ rfl) ?_
                                refine J_cV (rv := none) (h' := hN0) (d' := 11) (As := [.ref 14]) ok_X2_copy vi_X2_copy cl_6_185 (n := 1) (by decide +kernel) rfl rfl rfl rfl (by decide) (by decide) (dk_X6_foundling 45 _ rfl) (jev_ct (M := m_X2_copy) rfl rc6_0) ?_
                                show J _ _ _ _ _ _ _ _ _ [] _ _
                                refine J_aload_n (i := 0) (a := 0) rfl rfl (dk_X6_foundling 48 _ rfl) ?_
                                refine J_getf fl_6_54 rfl rfl (dk_X6_foundling 49 _ rfl) ?_
                                refine J_iconst (v := 0) (by decide) (dk_X6_foundling 52 _ rfl) ?_
                                refine J_iconst (v := 0) (by decide) (dk_X6_foundling 53 _ rfl) ?_
                                refine J_iconst (v := 0) (by decide) (dk_X6_foundling 54 _ rfl) ?_
                                refine J_iload_n (i := 1) (a := 1) rfl rfl (dk_X6_foundling 55 _ rfl) ?_
                                refine J_cV (rv := none) (h' := hC6_55) (d' := 11) (As := [.int 0, .int 0, .int 0, .int 8]) ok_X2_add vi_X2_add cl_6_75 (n := 4) (by decide +kernel) rfl rfl rfl rfl (by decide) (by decide) (dk_X6_foundling 56 _ rfl) (jev_ct (M := m_X2_add) rfl rc6_55) ?_
                                show J _ _ _ _ _ _ _ _ _ [] _ _
                                refine J_aload_n (i := 0) (a := 0) rfl rfl (dk_X6_foundling 59 _ rfl) ?_
                                refine J_aload_n (i := 0) (a := 0) rfl rfl (dk_X6_foundling 60 _ rfl) ?_
                                refine J_getf fl_6_54 rfl rfl (dk_X6_foundling 61 _ rfl) ?_
                                refine J_getf fl_6_103 rfl rfl (dk_X6_foundling 64 _ rfl) ?_
                                refine J_aload_n (i := 0) (a := 0) rfl rfl (dk_X6_foundling 67 _ rfl) ?_
                                refine J_getf fl_6_54 rfl rfl (dk_X6_foundling 68 _ rfl) ?_
                                refine J_getf fl_6_71 rfl rfl (dk_X6_foundling 71 _ rfl) ?_
                                refine J_iconst (v := 1) (by decide) (dk_X6_foundling 74 _ rfl) ?_
                                refine J_isubC (v := 0) (by decide) (dk_X6_foundling 75 _ rfl) ?_
                                refine J_iload_n (i := 2) (a := 2) rfl rfl (dk_X6_foundling 76 _ rfl) ?_
                                refine J_cV (rv := some (.int 0)) (h' := hC6_56) (d' := 11) (As := [.ref 35, .int 0, .int 0]) ok_X6_bestOf vi_X6_bestOf cl_6_188 (n := 3) (by decide +kernel) rfl rfl rfl rfl (by decide) (by decide) (dk_X6_foundling 77 _ rfl) ?_ ?_
                                · refine jCt_of ok_X6_bestOf (fun _ _ => Nat.le_of_ble_eq_true rfl) (fun _ _ hq => by rw [hq.2]; first | exact Nat.le_refl _ | simp) ?_
                                  show J _ _ _ _ _ _ _ _ [(0, .ref 0), (1, .ref 35), (2, .int 0), (3, .int 0)] _ _ _
                                  refine J_aload_n (i := 0) (a := 0) rfl rfl (dk_X6_bestOf 0 _ rfl) ?_
                                  refine J_aload_n (i := 1) (a := 1) rfl rfl (dk_X6_bestOf 1 _ rfl) ?_
                                  refine J_iload_n (i := 2) (a := 2) rfl rfl (dk_X6_bestOf 2 _ rfl) ?_
                                  refine J_aload_n (i := 0) (a := 0) rfl rfl (dk_X6_bestOf 3 _ rfl) ?_
                                  refine J_getf fl_6_54 rfl rfl (dk_X6_bestOf 4 _ rfl) ?_
                                  refine J_getf fl_6_83 rfl rfl (dk_X6_bestOf 7 _ rfl) ?_
                                  refine J_getf fl_6_87 rfl rfl (dk_X6_bestOf 10 _ rfl) ?_
                                  refine J_cV (rv := none) (h' := hC6_56) (d' := 10) (As := [.ref 35, .int 0, .int 10]) ok_X6_tryDays vi_X6_tryDays cl_6_192 (n := 3) (by decide +kernel) rfl rfl rfl rfl (by decide) (by decide) (dk_X6_bestOf 13 _ rfl) (jev_ct (M := m_X6_tryDays) rfl rc6_56) ?_
                                  show J _ _ _ _ _ _ _ _ _ [] _ _
                                  refine J_aload_n (i := 0) (a := 0) rfl rfl (dk_X6_bestOf 16 _ rfl) ?_
                                  refine J_cV (rv := some (.int 0)) (h' := hC6_56) (d' := 10) (As := []) ok_X6_firstMost vi_X6_firstMost cl_6_269 (n := 0) (by decide +kernel) rfl rfl rfl rfl (by decide) (by decide) (dk_X6_bestOf 17 _ rfl) (jev_ct (M := m_X6_firstMost) rfl rc6_57) ?_
                                  show J _ _ _ _ _ _ _ _ _ [.int 0] _ _
                                  refine J_istore (i := 4) (by decide) (dk_X6_bestOf 20 _ rfl) ?_
                                  show J _ _ _ _ _ _ _ _ [(4, .int 0), (0, .ref 0), (1, .ref 35), (2, .int 0), (3, .int 0)] _ _ _
                                  refine J_iload_n (i := 3) (a := 3) rfl rfl (dk_X6_bestOf 22 _ rfl) ?_
                                  refine J_ifF (tgt := 31) (by decide) (dk_X6_bestOf 23 _ rfl) (fun z => z (jI_eq (by decide : (0 : Int32).toInt = 0) (by decide : (0 : Int32).toInt = 0) (by omega))) ?_
                                  refine J_iload (i := 4) rfl (dk_X6_bestOf 26 _ rfl) ?_
                                  refine J_goto (tgt := 38) (by decide) (dk_X6_bestOf 28 _ rfl) ?_
                                  exact J_iret rfl rfl (dk_X6_bestOf 38 _ rfl) ⟨rfl, rfl⟩
                                show J _ _ _ _ _ _ _ _ _ [.int 0] _ _
                                exact J_iret rfl rfl (dk_X6_foundling 80 _ rfl) ⟨rfl, rfl⟩
                              · refine jCt_of ok_X7_foundling (fun _ _ => Nat.le_of_ble_eq_true rfl) (fun _ _ hq => Nat.le_of_eq (lM.trans hq.2.symm)) ?_
                                show J _ _ _ _ _ _ _ _ [(0, .ref 0), (1, .int 8), (2, .int 0)] _ _ _
                                refine J_aload_n (i := 0) (a := 0) rfl rfl (dk_X7_foundling 0 _ rfl) ?_
                                refine J_iload_n (i := 2) (a := 2) rfl rfl (dk_X7_foundling 1 _ rfl) ?_
                                refine J_iconst (v := 0) (by decide) (dk_X7_foundling 2 _ rfl) ?_
                                refine J_iconst (v := 1) (by decide) (dk_X7_foundling 3 _ rfl) ?_
                                refine J_cV (rv := some (.int 1)) (h' := hM0) (d' := 11) (As := [.int 0, .int 0, .int 1]) ok_X7_in vi_X7_in cl_7_194 (n := 3) (by decide +kernel) rfl rfl rfl rfl (by decide) (by decide) (dk_X7_foundling 4 _ rfl) ?_ ?_
                                · refine jCt_of ok_X7_in (fun _ _ => Nat.le_of_ble_eq_true rfl) (fun _ _ hq => by rw [hq.2]; first | exact Nat.le_refl _ | simp) ?_
                                  show J _ _ _ _ _ _ _ _ [(0, .ref 0), (1, .int 0), (2, .int 0), (3, .int 1)] _ _ _
                                  refine J_iload_n (i := 1) (a := 1) rfl rfl (dk_X7_in 0 _ rfl) ?_
                                  refine J_iload_n (i := 2) (a := 2) rfl rfl (dk_X7_in 1 _ rfl) ?_
                                  refine J_icF (tgt := 14) (by decide) (dk_X7_in 2 _ rfl) (jI_nlt (by decide : (0 : Int32).toInt = 0) (by decide : (0 : Int32).toInt = 0) (by omega)) ?_
                                  refine J_iload_n (i := 1) (a := 1) rfl rfl (dk_X7_in 5 _ rfl) ?_
                                  refine J_iload_n (i := 3) (a := 3) rfl rfl (dk_X7_in 6 _ rfl) ?_
                                  refine J_icF (tgt := 14) (by decide) (dk_X7_in 7 _ rfl) (jI_nlt (by decide : (1 : Int32).toInt = 1) (by decide : (0 : Int32).toInt = 0) (by omega)) ?_
                                  refine J_iconst (v := 1) (by decide) (dk_X7_in 10 _ rfl) ?_
                                  refine J_goto (tgt := 15) (by decide) (dk_X7_in 11 _ rfl) ?_
                                  exact J_iret rfl rfl (dk_X7_in 15 _ rfl) ⟨rfl, rfl⟩
                                show J _ _ _ _ _ _ _ _ _ [.int 1] _ _
                                refine J_ifT (tgt := 14) (by decide) (dk_X7_foundling 7 _ rfl) (jI_ne (by decide : (1 : Int32).toInt = 1) (by decide : (0 : Int32).toInt = 0) (by omega)) ?_
                                refine J_aload_n (i := 0) (a := 0) rfl rfl (dk_X7_foundling 14 _ rfl) ?_
                                refine J_iload_n (i := 1) (a := 1) rfl rfl (dk_X7_foundling 15 _ rfl) ?_
                                refine J_cV (rv := some (.int 1)) (h' := hM0) (d' := 11) (As := [.int 8]) ok_X7_isDay vi_X7_isDay cl_7_198 (n := 1) (by decide +kernel) rfl rfl rfl rfl (by decide) (by decide) (dk_X7_foundling 16 _ rfl) ?_ ?_
                                · refine jCt_of ok_X7_isDay (fun _ _ => Nat.le_of_ble_eq_true rfl) (fun _ _ hq => by rw [hq.2]; first | exact Nat.le_refl _ | simp) ?_
                                  show J _ _ _ _ _ _ _ _ [(0, .ref 0), (1, .int 8)] _ _ _
                                  refine J_aload_n (i := 0) (a := 0) rfl rfl (dk_X7_isDay 0 _ rfl) ?_
                                  refine J_iload_n (i := 1) (a := 1) rfl rfl (dk_X7_isDay 1 _ rfl) ?_
                                  refine J_iconst (v := 0) (by decide) (dk_X7_isDay 2 _ rfl) ?_
                                  refine J_bipush (v := 11) (by decide) (dk_X7_isDay 3 _ rfl) ?_
                                  refine J_cV (rv := some (.int 1)) (h' := hM0) (d' := 10) (As := [.int 8, .int 0, .int 11]) ok_X7_in vi_X7_in cl_7_194 (n := 3) (by decide +kernel) rfl rfl rfl rfl (by decide) (by decide) (dk_X7_isDay 5 _ rfl) ?_ ?_
                                  · refine jCt_of ok_X7_in (fun _ _ => Nat.le_of_ble_eq_true rfl) (fun _ _ hq => by rw [hq.2]; first | exact Nat.le_refl _ | simp) ?_
                                    show J _ _ _ _ _ _ _ _ [(0, .ref 0), (1, .int 8), (2, .int 0), (3, .int 11)] _ _ _
                                    refine J_iload_n (i := 1) (a := 1) rfl rfl (dk_X7_in 0 _ rfl) ?_
                                    refine J_iload_n (i := 2) (a := 2) rfl rfl (dk_X7_in 1 _ rfl) ?_
                                    refine J_icF (tgt := 14) (by decide) (dk_X7_in 2 _ rfl) (jI_nlt (by decide : (8 : Int32).toInt = 8) (by decide : (0 : Int32).toInt = 0) (by omega)) ?_
                                    refine J_iload_n (i := 1) (a := 1) rfl rfl (dk_X7_in 5 _ rfl) ?_
                                    refine J_iload_n (i := 3) (a := 3) rfl rfl (dk_X7_in 6 _ rfl) ?_
                                    refine J_icF (tgt := 14) (by decide) (dk_X7_in 7 _ rfl) (jI_nlt (by decide : (11 : Int32).toInt = 11) (by decide : (8 : Int32).toInt = 8) (by omega)) ?_
                                    refine J_iconst (v := 1) (by decide) (dk_X7_in 10 _ rfl) ?_
                                    refine J_goto (tgt := 15) (by decide) (dk_X7_in 11 _ rfl) ?_
                                    exact J_iret rfl rfl (dk_X7_in 15 _ rfl) ⟨rfl, rfl⟩
                                  show J _ _ _ _ _ _ _ _ _ [.int 1] _ _
                                  exact J_iret rfl rfl (dk_X7_isDay 8 _ rfl) ⟨rfl, rfl⟩
                                show J _ _ _ _ _ _ _ _ _ [.int 1] _ _
                                refine J_ifT (tgt := 26) (by decide) (dk_X7_foundling 19 _ rfl) (jI_ne (by decide : (1 : Int32).toInt = 1) (by decide : (0 : Int32).toInt = 0) (by omega)) ?_
                                refine J_aload_n (i := 0) (a := 0) rfl rfl (dk_X7_foundling 26 _ rfl) ?_
                                refine J_getf fl_7_7 rfl rfl (dk_X7_foundling 27 _ rfl) ?_
                                refine J_bipush (v := 7) (by decide) (dk_X7_foundling 30 _ rfl) ?_
                                refine J_icT (tgt := 38) (by decide) (dk_X7_foundling 32 _ rfl) (jI_ne (by decide : (0 : Int32).toInt = 0) (by decide : (7 : Int32).toInt = 7) (by omega)) ?_
                                refine J_aload_n (i := 0) (a := 0) rfl rfl (dk_X7_foundling 38 _ rfl) ?_
                                refine J_aload_n (i := 0) (a := 0) rfl rfl (dk_X7_foundling 39 _ rfl) ?_
                                refine J_getf fl_7_7 rfl rfl (dk_X7_foundling 40 _ rfl) ?_
                                refine J_iconst (v := 0) (by decide) (dk_X7_foundling 43 _ rfl) ?_
                                refine J_iconst (v := 0) (by decide) (dk_X7_foundling 44 _ rfl) ?_
                                refine J_iconst (v := 0) (by decide) (dk_X7_foundling 45 _ rfl) ?_
                                refine J_iload_n (i := 1) (a := 1) rfl rfl (dk_X7_foundling 46 _ rfl) ?_
                                refine J_cV (rv := none) (h' := hC7_58) (d' := 11) (As := [.int 0, .int 0, .int 0, .int 0, .int 8]) ok_X7_lay vi_X7_lay cl_7_202 (n := 5) (by decide +kernel) rfl rfl rfl rfl (by decide) (by decide) (dk_X7_foundling 47 _ rfl) (jev_ct (M := m_X7_lay) rfl rc7_58) ?_
                                show J _ _ _ _ _ _ _ _ _ [] _ _
                                refine J_aload_n (i := 0) (a := 0) rfl rfl (dk_X7_foundling 50 _ rfl) ?_
                                refine J_dup rfl (dk_X7_foundling 51 _ rfl) ?_
                                refine J_getf fl_7_7 rfl rfl (dk_X7_foundling 52 _ rfl) ?_
                                refine J_iconst (v := 1) (by decide) (dk_X7_foundling 55 _ rfl) ?_
                                refine J_iaddC (v := 1) (by decide) (dk_X7_foundling 56 _ rfl) ?_
                                refine J_putf fl_7_7 rfl (fun q hq => by cases hq; rfl) trivial (Nat.le_of_ble_eq_true rfl) (dk_X7_foundling 57 _ rfl) ?_
                                refine J_aload_n (i := 0) (a := 0) rfl rfl (dk_X7_foundling 60 _ rfl) ?_
                                refine J_aload_n (i := 0) (a := 0) rfl rfl (dk_X7_foundling 61 _ rfl) ?_
                                refine J_getf fl_7_7 rfl rfl (dk_X7_foundling 62 _ rfl) ?_
                                refine J_iconst (v := 1) (by decide) (dk_X7_foundling 65 _ rfl) ?_
                                refine J_isubC (v := 0) (by decide) (dk_X7_foundling 66 _ rfl) ?_
                                refine J_iconst (v := 1) (by decide) (dk_X7_foundling 67 _ rfl) ?_
                                refine J_cV (rv := none) (h' := hC7_59) (d' := 11) (As := [.int 0, .int 1]) ok_X7_layBest vi_X7_layBest cl_7_326 (n := 2) (by decide +kernel) rfl rfl rfl rfl (by decide) (by decide) (dk_X7_foundling 68 _ rfl) (jev_ct (M := m_X7_layBest) rfl rc7_59) ?_
                                show J _ _ _ _ _ _ _ _ _ [] _ _
                                refine J_aload_n (i := 0) (a := 0) rfl rfl (dk_X7_foundling 71 _ rfl) ?_
                                refine J_dup rfl (dk_X7_foundling 72 _ rfl) ?_
                                refine J_getf fl_7_7 rfl rfl (dk_X7_foundling 73 _ rfl) ?_
                                refine J_iconst (v := 1) (by decide) (dk_X7_foundling 76 _ rfl) ?_
                                refine J_isubC (v := 0) (by decide) (dk_X7_foundling 77 _ rfl) ?_
                                refine J_putf fl_7_7 rfl (fun q hq => by cases hq; rfl) trivial (Nat.le_of_ble_eq_true rfl) (dk_X7_foundling 78 _ rfl) ?_
                                refine J_iload_n (i := 2) (a := 2) rfl rfl (dk_X7_foundling 81 _ rfl) ?_
                                refine J_ifF (tgt := 92) (by decide) (dk_X7_foundling 82 _ rfl) (fun z => z (jI_eq (by decide : (0 : Int32).toInt = 0) (by decide : (0 : Int32).toInt = 0) (by omega))) ?_
                                refine J_aload_n (i := 0) (a := 0) rfl rfl (dk_X7_foundling 85 _ rfl) ?_
                                refine J_getf fl_7_114 rfl rfl (dk_X7_foundling 86 _ rfl) ?_
                                refine J_goto (tgt := 96) (by decide) (dk_X7_foundling 89 _ rfl) ?_
                                exact J_iret rfl rfl (dk_X7_foundling 96 _ rfl) ⟨rfl, rfl⟩
                            · by_cases c15 : (d : Int32).toInt = 9
                              · obtain rfl : d = 9 := jI_eq rfl (by decide) c15
                                refine ⟨0, ?_, ?_⟩
                                · refine jCt_of ok_X6_foundling (fun _ _ => Nat.le_of_ble_eq_true rfl) (fun _ _ hq => Nat.le_of_eq (lX.trans hq.2.symm)) ?_
                                  show J _ _ _ _ _ _ _ _ [(0, .ref 0), (1, .int 9), (2, .int 0)] _ _ _
                                  refine J_iload_n (i := 2) (a := 2) rfl rfl (dk_X6_foundling 0 _ rfl) ?_
                                  refine J_ifF (tgt := 9) (by decide) (dk_X6_foundling 1 _ rfl) (jI_nlt (by decide : (0 : Int32).toInt = 0) (by decide : (0 : Int32).toInt = 0) (by omega)) ?_
                                  refine J_iload_n (i := 2) (a := 2) rfl rfl (dk_X6_foundling 4 _ rfl) ?_
                                  refine J_iconst (v := 1) (by decide) (dk_X6_foundling 5 _ rfl) ?_
                                  refine J_icT (tgt := 12) (by decide) (dk_X6_foundling 6 _ rfl) (jI_le (by decide : (0 : Int32).toInt = 0) (by decide : (1 : Int32).toInt = 1) (by omega)) ?_
                                  refine J_iload_n (i := 1) (a := 1) rfl rfl (dk_X6_foundling 12 _ rfl) ?_
                                  refine J_cS (rv := some (.int 1)) (h' := hN0) (d' := 11) (As := [.int 9]) ok_X6_isDay st_X6_isDay cl_6_67 rfl (n := 1) (by decide +kernel) rfl (by decide) (by decide) (dk_X6_foundling 13 _ rfl) ?_ ?_
                                  · refine jCt_of ok_X6_isDay (fun _ _ => Nat.le_of_ble_eq_true rfl) (fun _ _ hq => by rw [hq.2]; first | exact Nat.le_refl _ | simp) ?_
                                    show J _ _ _ _ _ _ _ _ [(0, .int 9)] _ _ _
                                    refine J_iload_n (i := 0) (a := 0) rfl rfl (dk_X6_isDay 0 _ rfl) ?_
                                    refine J_ifF (tgt := 14) (by decide) (dk_X6_isDay 1 _ rfl) (jI_nlt (by decide : (9 : Int32).toInt = 9) (by decide : (0 : Int32).toInt = 0) (by omega)) ?_
                                    refine J_iload_n (i := 0) (a := 0) rfl rfl (dk_X6_isDay 4 _ rfl) ?_
                                    refine J_bipush (v := 12) (by decide) (dk_X6_isDay 5 _ rfl) ?_
                                    refine J_icF (tgt := 14) (by decide) (dk_X6_isDay 7 _ rfl) (jI_nle (by decide : (12 : Int32).toInt = 12) (by decide : (9 : Int32).toInt = 9) (by omega)) ?_
                                    refine J_iconst (v := 1) (by decide) (dk_X6_isDay 10 _ rfl) ?_
                                    refine J_goto (tgt := 15) (by decide) (dk_X6_isDay 11 _ rfl) ?_
                                    exact J_iret rfl rfl (dk_X6_isDay 15 _ rfl) ⟨rfl, rfl⟩
                                  show J _ _ _ _ _ _ _ _ _ [.int 1] _ _
                                  refine J_ifT (tgt := 22) (by decide) (dk_X6_foundling 16 _ rfl) (jI_ne (by decide : (1 : Int32).toInt = 1) (by decide : (0 : Int32).toInt = 0) (by omega)) ?_
                                  refine J_aload_n (i := 0) (a := 0) rfl rfl (dk_X6_foundling 22 _ rfl) ?_
                                  refine J_getf fl_6_47 rfl rfl (dk_X6_foundling 23 _ rfl) ?_
                                  refine J_getf fl_6_71 rfl rfl (dk_X6_foundling 26 _ rfl) ?_
                                  refine J_bipush (v := 7) (by decide) (dk_X6_foundling 29 _ rfl) ?_
                                  refine J_icT (tgt := 37) (by decide) (dk_X6_foundling 31 _ rfl) (jI_lt (by decide : (0 : Int32).toInt = 0) (by decide : (7 : Int32).toInt = 7) (by omega)) ?_
                                  refine J_aload_n (i := 0) (a := 0) rfl rfl (dk_X6_foundling 37 _ rfl) ?_
                                  refine J_getf fl_6_54 rfl rfl (dk_X6_foundling 38 _ rfl) ?_
                                  refine J_aload_n (i := 0) (a := 0) rfl rfl (dk_X6_foundling 41 _ rfl) ?_
                                  refine J_getf fl_6_47 rfl rfl (dk_X6_foundling 42 _ rfl) ?_
                                  refine J_cV (rv := none) (h' := hN0) (d' := 11) (As := [.ref 14]) ok_X2_copy vi_X2_copy cl_6_185 (n := 1) (by decide +kernel) rfl rfl rfl rfl (by decide) (by decide) (dk_X6_foundling 45 _ rfl) (jev_ct (M := m_X2_copy) rfl rc6_0) ?_
                                  show J _ _ _ _ _ _ _ _ _ [] _ _
                                  refine J_aload_n (i := 0) (a := 0) rfl rfl (dk_X6_foundling 48 _ rfl) ?_
                                  refine J_getf fl_6_54 rfl rfl (dk_X6_foundling 49 _ rfl) ?_
                                  refine J_iconst (v := 0) (by decide) (dk_X6_foundling 52 _ rfl) ?_
                                  refine J_iconst (v := 0) (by decide) (dk_X6_foundling 53 _ rfl) ?_
                                  refine J_iconst (v := 0) (by decide) (dk_X6_foundling 54 _ rfl) ?_
                                  refine J_iload_n (i := 1) (a := 1) rfl rfl (dk_X6_foundling 55 _ rfl) ?_
                                  refine J_cV (rv := none) (h' := hC6_61) (d' := 11) (As := [.int 0, .int 0, .int 0, .int 9]) ok_X2_add vi_X2_add cl_6_75 (n := 4) (by decide +kernel) rfl rfl rfl rfl (by decide) (by decide) (dk_X6_foundling 56 _ rfl) (jev_ct (M := m_X2_add) rfl rc6_61) ?_
                                  show J _ _ _ _ _ _ _ _ _ [] _ _
                                  refine J_aload_n (i := 0) (a := 0) rfl rfl (dk_X6_foundling 59 _ rfl) ?_
                                  refine J_aload_n (i := 0) (a := 0) rfl rfl (dk_X6_foundling 60 _ rfl) ?_
                                  refine J_getf fl_6_54 rfl rfl (dk_X6_foundling 61 _ rfl) ?_
                                  refine J_getf fl_6_103 rfl rfl (dk_X6_foundling 64 _ rfl) ?_
                                  refine J_aload_n (i := 0) (a := 0) rfl rfl (dk_X6_foundling 67 _ rfl) ?_
                                  refine J_getf fl_6_54 rfl rfl (dk_X6_foundling 68 _ rfl) ?_
                                  refine J_getf fl_6_71 rfl rfl (dk_X6_foundling 71 _ rfl) ?_
                                  refine J_iconst (v := 1) (by decide) (dk_X6_foundling 74 _ rfl) ?_
                                  refine J_isubC (v := 0) (by decide) (dk_X6_foundling 75 _ rfl) ?_
                                  refine J_iload_n (i := 2) (a := 2) rfl rfl (dk_X6_foundling 76 _ rfl) ?_
                                  refine J_cV (rv := some (.int 0)) (h' := hC6_62) (d' := 11) (As := [.ref 35, .int 0, .int 0]) ok_X6_bestOf vi_X6_bestOf cl_6_188 (n := 3) (by decide +kernel) rfl rfl rfl rfl (by decide) (by decide) (dk_X6_foundling 77 _ rfl) ?_ ?_
                                  · refine jCt_of ok_X6_bestOf (fun _ _ => Nat.le_of_ble_eq_true rfl) (fun _ _ hq => by rw [hq.2]; first | exact Nat.le_refl _ | simp) ?_
                                    show J _ _ _ _ _ _ _ _ [(0, .ref 0), (1, .ref 35), (2, .int 0), (3, .int 0)] _ _ _
                                    refine J_aload_n (i := 0) (a := 0) rfl rfl (dk_X6_bestOf 0 _ rfl) ?_
                                    refine J_aload_n (i := 1) (a := 1) rfl rfl (dk_X6_bestOf 1 _ rfl) ?_
                                    refine J_iload_n (i := 2) (a := 2) rfl rfl (dk_X6_bestOf 2 _ rfl) ?_
                                    refine J_aload_n (i := 0) (a := 0) rfl rfl (dk_X6_bestOf 3 _ rfl) ?_
                                    refine J_getf fl_6_54 rfl rfl (dk_X6_bestOf 4 _ rfl) ?_
                                    refine J_getf fl_6_83 rfl rfl (dk_X6_bestOf 7 _ rfl) ?_
                                    refine J_getf fl_6_87 rfl rfl (dk_X6_bestOf 10 _ rfl) ?_
                                    refine J_cV (rv := none) (h' := hC6_62) (d' := 10) (As := [.ref 35, .int 0, .int 10]) ok_X6_tryDays vi_X6_tryDays cl_6_192 (n := 3) (by decide +kernel) rfl rfl rfl rfl (by decide) (by decide) (dk_X6_bestOf 13 _ rfl) (jev_ct (M := m_X6_tryDays) rfl rc6_62) ?_
                                    show J _ _ _ _ _ _ _ _ _ [] _ _
                                    refine J_aload_n (i := 0) (a := 0) rfl rfl (dk_X6_bestOf 16 _ rfl) ?_
                                    refine J_cV (rv := some (.int 0)) (h' := hC6_62) (d' := 10) (As := []) ok_X6_firstMost vi_X6_firstMost cl_6_269 (n := 0) (by decide +kernel) rfl rfl rfl rfl (by decide) (by decide) (dk_X6_bestOf 17 _ rfl) (jev_ct (M := m_X6_firstMost) rfl rc6_63) ?_
                                    show J _ _ _ _ _ _ _ _ _ [.int 0] _ _
                                    refine J_istore (i := 4) (by decide) (dk_X6_bestOf 20 _ rfl) ?_
                                    show J _ _ _ _ _ _ _ _ [(4, .int 0), (0, .ref 0), (1, .ref 35), (2, .int 0), (3, .int 0)] _ _ _
                                    refine J_iload_n (i := 3) (a := 3) rfl rfl (dk_X6_bestOf 22 _ rfl) ?_
                                    refine J_ifF (tgt := 31) (by decide) (dk_X6_bestOf 23 _ rfl) (fun z => z (jI_eq (by decide : (0 : Int32).toInt = 0) (by decide : (0 : Int32).toInt = 0) (by omega))) ?_
                                    refine J_iload (i := 4) rfl (dk_X6_bestOf 26 _ rfl) ?_
                                    refine J_goto (tgt := 38) (by decide) (dk_X6_bestOf 28 _ rfl) ?_
                                    exact J_iret rfl rfl (dk_X6_bestOf 38 _ rfl) ⟨rfl, rfl⟩
                                  show J _ _ _ _ _ _ _ _ _ [.int 0] _ _
                                  exact J_iret rfl rfl (dk_X6_foundling 80 _ rfl) ⟨rfl, rfl⟩
                                · refine jCt_of ok_X7_foundling (fun _ _ => Nat.le_of_ble_eq_true rfl) (fun _ _ hq => Nat.le_of_eq (lM.trans hq.2.symm)) ?_
                                  show J _ _ _ _ _ _ _ _ [(0, .ref 0), (1, .int 9), (2, .int 0)] _ _ _
                                  refine J_aload_n (i := 0) (a := 0) rfl rfl (dk_X7_foundling 0 _ rfl) ?_
                                  refine J_iload_n (i := 2) (a := 2) rfl rfl (dk_X7_foundling 1 _ rfl) ?_
                                  refine J_iconst (v := 0) (by decide) (dk_X7_foundling 2 _ rfl) ?_
                                  refine J_iconst (v := 1) (by decide) (dk_X7_foundling 3 _ rfl) ?_
                                  refine J_cV (rv := some (.int 1)) (h' := hM0) (d' := 11) (As := [.int 0, .int 0, .int 1]) ok_X7_in vi_X7_in cl_7_194 (n := 3) (by decide +kernel) rfl rfl rfl rfl (by decide) (by decide) (dk_X7_foundling 4 _ rfl) ?_ ?_
                                  · refine jCt_of ok_X7_in (fun _ _ => Nat.le_of_ble_eq_true rfl) (fun _ _ hq => by rw [hq.2]; first | exact Nat.le_refl _ | simp) ?_
                                    show J _ _ _ _ _ _ _ _ [(0, .ref 0), (1, .int 0), (2, .int 0), (3, .int 1)] _ _ _
                                    refine J_iload_n (i := 1) (a := 1) rfl rfl (dk_X7_in 0 _ rfl) ?_
                                    refine J_iload_n (i := 2) (a := 2) rfl rfl (dk_X7_in 1 _ rfl) ?_
                                    refine J_icF (tgt := 14) (by decide) (dk_X7_in 2 _ rfl) (jI_nlt (by decide : (0 : Int32).toInt = 0) (by decide : (0 : Int32).toInt = 0) (by omega)) ?_
                                    refine J_iload_n (i := 1) (a := 1) rfl rfl (dk_X7_in 5 _ rfl) ?_
                                    refine J_iload_n (i := 3) (a := 3) rfl rfl (dk_X7_in 6 _ rfl) ?_
                                    refine J_icF (tgt := 14) (by decide) (dk_X7_in 7 _ rfl) (jI_nlt (by decide : (1 : Int32).toInt = 1) (by decide : (0 : Int32).toInt = 0) (by omega)) ?_
                                    refine J_iconst (v := 1) (by decide) (dk_X7_in 10 _ rfl) ?_
                                    refine J_goto (tgt := 15) (by decide) (dk_X7_in 11 _ rfl) ?_
                                    exact J_iret rfl rfl (dk_X7_in 15 _ rfl) ⟨rfl, rfl⟩
                                  show J _ _ _ _ _ _ _ _ _ [.int 1] _ _
                                  refine J_ifT (tgt := 14) (by decide) (dk_X7_foundling 7 _ rfl) (jI_ne (by decide : (1 : Int32).toInt = 1) (by decide : (0 : Int32).toInt = 0) (by omega)) ?_
                                  refine J_aload_n (i := 0) (a := 0) rfl rfl (dk_X7_foundling 14 _ rfl) ?_
                                  refine J_iload_n (i := 1) (a := 1) rfl rfl (dk_X7_foundling 15 _ rfl) ?_
                                  refine J_cV (rv := some (.int 1)) (h' := hM0) (d' := 11) (As := [.int 9]) ok_X7_isDay vi_X7_isDay cl_7_198 (n := 1) (by decide +kernel) rfl rfl rfl rfl (by decide) (by decide) (dk_X7_foundling 16 _ rfl) ?_ ?_
                                  · refine jCt_of ok_X7_isDay (fun _ _ => Nat.le_of_ble_eq_true rfl) (fun _ _ hq => by rw [hq.2]; first | exact Nat.le_refl _ | simp) ?_
                                    show J _ _ _ _ _ _ _ _ [(0, .ref 0), (1, .int 9)] _ _ _
                                    refine J_aload_n (i := 0) (a := 0) rfl rfl (dk_X7_isDay 0 _ rfl) ?_
                                    refine J_iload_n (i := 1) (a := 1) rfl rfl (dk_X7_isDay 1 _ rfl) ?_
                                    refine J_iconst (v := 0) (by decide) (dk_X7_isDay 2 _ rfl) ?_
                                    refine J_bipush (v := 11) (by decide) (dk_X7_isDay 3 _ rfl) ?_
                                    refine J_cV (rv := some (.int 1)) (h' := hM0) (d' := 10) (As := [.int 9, .int 0, .int 11]) ok_X7_in vi_X7_in cl_7_194 (n := 3) (by decide +kernel) rfl rfl rfl rfl (by decide) (by decide) (dk_X7_isDay 5 _ rfl) ?_ ?_
                                    · refine jCt_of ok_X7_in (fun _ _ => Nat.le_of_ble_eq_true rfl) (fun _ _ hq => by rw [hq.2]; first | exact Nat.le_refl _ | simp) ?_
                                      show J _ _ _ _ _ _ _ _ [(0, .ref 0), (1, .int 9), (2, .int 0), (3, .int 11)] _ _ _
                                      refine J_iload_n (i := 1) (a := 1) rfl rfl (dk_X7_in 0 _ rfl) ?_
                                      refine J_iload_n (i := 2) (a := 2) rfl rfl (dk_X7_in 1 _ rfl) ?_
                                      refine J_icF (tgt := 14) (by decide) (dk_X7_in 2 _ rfl) (jI_nlt (by decide : (9 : Int32).toInt = 9) (by decide : (0 : Int32).toInt = 0) (by omega)) ?_
                                      refine J_iload_n (i := 1) (a := 1) rfl rfl (dk_X7_in 5 _ rfl) ?_
                                      refine J_iload_n (i := 3) (a := 3) rfl rfl (dk_X7_in 6 _ rfl) ?_
                                      refine J_icF (tgt := 14) (by decide) (dk_X7_in 7 _ rfl) (jI_nlt (by decide : (11 : Int32).toInt = 11) (by decide : (9 : Int32).toInt = 9) (by omega)) ?_
                                      refine J_iconst (v := 1) (by decide) (dk_X7_in 10 _ rfl) ?_
                                      refine J_goto (tgt := 15) (by decide) (dk_X7_in 11 _ rfl) ?_
                                      exact J_iret rfl rfl (dk_X7_in 15 _ rfl) ⟨rfl, rfl⟩
                                    show J _ _ _ _ _ _ _ _ _ [.int 1] _ _
                                    exact J_iret rfl rfl (dk_X7_isDay 8 _ rfl) ⟨rfl, rfl⟩
                                  show J _ _ _ _ _ _ _ _ _ [.int 1] _ _
                                  refine J_ifT (tgt := 26) (by decide) (dk_X7_foundling 19 _ rfl) (jI_ne (by decide : (1 : Int32).toInt = 1) (by decide : (0 : Int32).toInt = 0) (by omega)) ?_
                                  refine J_aload_n (i := 0) (a := 0) rfl rfl (dk_X7_foundling 26 _ rfl) ?_
                                  refine J_getf fl_7_7 rfl rfl (dk_X7_foundling 27 _ rfl) ?_
                                  refine J_bipush (v := 7) (by decide) (dk_X7_foundling 30 _ rfl) ?_
                                  refine J_icT (tgt := 38) (by decide) (dk_X7_foundling 32 _ rfl) (jI_ne (by decide : (0 : Int32).toInt = 0) (by decide : (7 : Int32).toInt = 7) (by omega)) ?_
                                  refine J_aload_n (i := 0) (a := 0) rfl rfl (dk_X7_foundling 38 _ rfl) ?_
                                  refine J_aload_n (i := 0) (a := 0) rfl rfl (dk_X7_foundling 39 _ rfl) ?_
                                  refine J_getf fl_7_7 rfl rfl (dk_X7_foundling 40 _ rfl) ?_
                                  refine J_iconst (v := 0) (by decide) (dk_X7_foundling 43 _ rfl) ?_
                                  refine J_iconst (v := 0) (by decide) (dk_X7_foundling 44 _ rfl) ?_
                                  refine J_iconst (v := 0) (by decide) (dk_X7_foundling 45 _ rfl) ?_
                                  refine J_iload_n (i := 1) (a := 1) rfl rfl (dk_X7_foundling 46 _ rfl) ?_
                                  refine J_cV (rv := none) (h' := hC7_64) (d' := 11) (As := [.int 0, .int 0, .int 0, .int 0, .int 9]) ok_X7_lay vi_X7_lay cl_7_202 (n := 5) (by decide +kernel) rfl rfl rfl rfl (by decide) (by decide) (dk_X7_foundling 47 _ rfl) (jev_ct (M := m_X7_lay) rfl rc7_64) ?_
                                  show J _ _ _ _ _ _ _ _ _ [] _ _
                                  refine J_aload_n (i := 0) (a := 0) rfl rfl (dk_X7_foundling 50 _ rfl) ?_
                                  refine J_dup rfl (dk_X7_foundling 51 _ rfl) ?_
                                  refine J_getf fl_7_7 rfl rfl (dk_X7_foundling 52 _ rfl) ?_
                                  refine J_iconst (v := 1) (by decide) (dk_X7_foundling 55 _ rfl) ?_
                                  refine J_iaddC (v := 1) (by decide) (dk_X7_foundling 56 _ rfl) ?_
                                  refine J_putf fl_7_7 rfl (fun q hq => by cases hq; rfl) trivial (Nat.le_of_ble_eq_true rfl) (dk_X7_foundling 57 _ rfl) ?_
                                  refine J_aload_n (i := 0) (a := 0) rfl rfl (dk_X7_foundling 60 _ rfl) ?_
                                  refine J_aload_n (i := 0) (a := 0) rfl rfl (dk_X7_foundling 61 _ rfl) ?_
                                  refine J_getf fl_7_7 rfl rfl (dk_X7_foundling 62 _ rfl) ?_
                                  refine J_iconst (v := 1) (by decide) (dk_X7_foundling 65 _ rfl) ?_
                                  refine J_isubC (v := 0) (by decide) (dk_X7_foundling 66 _ rfl) ?_
                                  refine J_iconst (v := 1) (by decide) (dk_X7_foundling 67 _ rfl) ?_
                                  refine J_cV (rv := none) (h' := hC7_65) (d' := 11) (As := [.int 0, .int 1]) ok_X7_layBest vi_X7_layBest cl_7_326 (n := 2) (by decide +kernel) rfl rfl rfl rfl (by decide) (by decide) (dk_X7_foundling 68 _ rfl) (jev_ct (M := m_X7_layBest) rfl rc7_65) ?_
                                  show J _ _ _ _ _ _ _ _ _ [] _ _
                                  refine J_aload_n (i := 0) (a := 0) rfl rfl (dk_X7_foundling 71 _ rfl) ?_
                                  refine J_dup rfl (dk_X7_foundling 72 _ rfl) ?_
                                  refine J_getf fl_7_7 rfl rfl (dk_X7_foundling 73 _ rfl) ?_
                                  refine J_iconst (v := 1) (by decide) (dk_X7_foundling 76 _ rfl) ?_
                                  refine J_isubC (v := 0) (by decide) (dk_X7_foundling 77 _ rfl) ?_
                                  refine J_putf fl_7_7 rfl (fun q hq => by cases hq; rfl) trivial (Nat.le_of_ble_eq_true rfl) (dk_X7_foundling 78 _ rfl) ?_
                                  refine J_iload_n (i := 2) (a := 2) rfl rfl (dk_X7_foundling 81 _ rfl) ?_
                                  refine J_ifF (tgt := 92) (by decide) (dk_X7_foundling 82 _ rfl) (fun z => z (jI_eq (by decide : (0 : Int32).toInt = 0) (by decide : (0 : Int32).toInt = 0) (by omega))) ?_
                                  refine J_aload_n (i := 0) (a := 0) rfl rfl (dk_X7_foundling 85 _ rfl) ?_
                                  refine J_getf fl_7_114 rfl rfl (dk_X7_foundling 86 _ rfl) ?_
                                  refine J_goto (tgt := 96) (by decide) (dk_X7_foundling 89 _ rfl) ?_
                                  exact J_iret rfl rfl (dk_X7_foundling 96 _ rfl) ⟨rfl, rfl⟩
                              · by_cases c16 : (d : Int32).toInt = 10
                                · obtain rfl : d = 10 := jI_eq rfl (by decide) c16
                                  refine ⟨0, ?_, ?_⟩
                                  · refine jCt_of ok_X6_foundling (fun _ _ => Nat.le_of_ble_eq_true rfl) (fun _ _ hq => Nat.le_of_eq (lX.trans hq.2.symm)) ?_
                                    show J _ _ _ _ _ _ _ _ [(0, .ref 0), (1, .int 10), (2, .int 0)] _ _ _
                                    refine J_iload_n (i := 2) (a := 2) rfl rfl (dk_X6_foundling 0 _ rfl) ?_
                                    refine J_ifF (tgt := 9) (by decide) (dk_X6_foundling 1 _ rfl) (jI_nlt (by decide : (0 : Int32).toInt = 0) (by decide : (0 : Int32).toInt = 0) (by omega)) ?_
                                    refine J_iload_n (i := 2) (a := 2) rfl rfl (dk_X6_foundling 4 _ rfl) ?_
                                    refine J_iconst (v := 1) (by decide) (dk_X6_foundling 5 _ rfl) ?_
                                    refine J_icT (tgt := 12) (by decide) (dk_X6_foundling 6 _ rfl) (jI_le (by decide : (0 : Int32).toInt = 0) (by decide : (1 : Int32).toInt = 1) (by omega)) ?_
                                    refine J_iload_n (i := 1) (a := 1) rfl rfl (dk_X6_foundling 12 _ rfl) ?_
                                    refine J_cS (rv := some (.int 1)) (h' := hN0) (d' := 11) (As := [.int 10]) ok_X6_isDay st_X6_isDay cl_6_67 rfl (n := 1) (by decide +kernel) rfl (by decide) (by decide) (dk_X6_foundling 13 _ rfl) ?_ ?_
                                    · refine jCt_of ok_X6_isDay (fun _ _ => Nat.le_of_ble_eq_true rfl) (fun _ _ hq => by rw [hq.2]; first | exact Nat.le_refl _ | simp) ?_
                                      show J _ _ _ _ _ _ _ _ [(0, .int 10)] _ _ _
                                      refine J_iload_n (i := 0) (a := 0) rfl rfl (dk_X6_isDay 0 _ rfl) ?_
                                      refine J_ifF (tgt := 14) (by decide) (dk_X6_isDay 1 _ rfl) (jI_nlt (by decide : (10 : Int32).toInt = 10) (by decide : (0 : Int32).toInt = 0) (by omega)) ?_
                                      refine J_iload_n (i := 0) (a := 0) rfl rfl (dk_X6_isDay 4 _ rfl) ?_
                                      refine J_bipush (v := 12) (by decide) (dk_X6_isDay 5 _ rfl) ?_
                                      refine J_icF (tgt := 14) (by decide) (dk_X6_isDay 7 _ rfl) (jI_nle (by decide : (12 : Int32).toInt = 12) (by decide : (10 : Int32).toInt = 10) (by omega)) ?_
                                      refine J_iconst (v := 1) (by decide) (dk_X6_isDay 10 _ rfl) ?_
                                      refine J_goto (tgt := 15) (by decide) (dk_X6_isDay 11 _ rfl) ?_
                                      exact J_iret rfl rfl (dk_X6_isDay 15 _ rfl) ⟨rfl, rfl⟩
                                    show J _ _ _ _ _ _ _ _ _ [.int 1] _ _
                                    refine J_ifT (tgt := 22) (by decide) (dk_X6_foundling 16 _ rfl) (jI_ne (by decide : (1 : Int32).toInt = 1) (by decide : (0 : Int32).toInt = 0) (by omega)) ?_
                                    refine J_aload_n (i := 0) (a := 0) rfl rfl (dk_X6_foundling 22 _ rfl) ?_
                                    refine J_getf fl_6_47 rfl rfl (dk_X6_foundling 23 _ rfl) ?_
                                    refine J_getf fl_6_71 rfl rfl (dk_X6_foundling 26 _ rfl) ?_
                                    refine J_bipush (v := 7) (by decide) (dk_X6_foundling 29 _ rfl) ?_
                                    refine J_icT (tgt := 37) (by decide) (dk_X6_foundling 31 _ rfl) (jI_lt (by decide : (0 : Int32).toInt = 0) (by decide : (7 : Int32).toInt = 7) (by omega)) ?_
                                    refine J_aload_n (i := 0) (a := 0) rfl rfl (dk_X6_foundling 37 _ rfl) ?_
                                    refine J_getf fl_6_54 rfl rfl (dk_X6_foundling 38 _ rfl) ?_
                                    refine J_aload_n (i := 0) (a := 0) rfl rfl (dk_X6_foundling 41 _ rfl) ?_
                                    refine J_getf fl_6_47 rfl rfl (dk_X6_foundling 42 _ rfl) ?_
                                    refine J_cV (rv := none) (h' := hN0) (d' := 11) (As := [.ref 14]) ok_X2_copy vi_X2_copy cl_6_185 (n := 1) (by decide +kernel) rfl rfl rfl rfl (by decide) (by decide) (dk_X6_foundling 45 _ rfl) (jev_ct (M := m_X2_copy) rfl rc6_0) ?_
                                    show J _ _ _ _ _ _ _ _ _ [] _ _
                                    refine J_aload_n (i := 0) (a := 0) rfl rfl (dk_X6_foundling 48 _ rfl) ?_
                                    refine J_getf fl_6_54 rfl rfl (dk_X6_foundling 49 _ rfl) ?_
                                    refine J_iconst (v := 0) (by decide) (dk_X6_foundling 52 _ rfl) ?_
                                    refine J_iconst (v := 0) (by decide) (dk_X6_foundling 53 _ rfl) ?_
                                    refine J_iconst (v := 0) (by decide) (dk_X6_foundling 54 _ rfl) ?_
                                    refine J_iload_n (i := 1) (a := 1) rfl rfl (dk_X6_foundling 55 _ rfl) ?_
                                    refine J_cV (rv := none) (h' := hC6_67) (d' := 11) (As := [.int 0, .int 0, .int 0, .int 10]) ok_X2_add vi_X2_add cl_6_75 (n := 4) (by decide +kernel) rfl rfl rfl rfl (by decide) (by decide) (dk_X6_foundling 56 _ rfl) (jev_ct (M := m_X2_add) rfl rc6_67) ?_
                                    show J _ _ _ _ _ _ _ _ _ [] _ _
                                    refine J_aload_n (i := 0) (a := 0) rfl rfl (dk_X6_foundling 59 _ rfl) ?_
                                    refine J_aload_n (i := 0) (a := 0) rfl rfl (dk_X6_foundling 60 _ rfl) ?_
                                    refine J_getf fl_6_54 rfl rfl (dk_X6_foundling 61 _ rfl) ?_
                                    refine J_getf fl_6_103 rfl rfl (dk_X6_foundling 64 _ rfl) ?_
                                    refine J_aload_n (i := 0) (a := 0) rfl rfl (dk_X6_foundling 67 _ rfl) ?_
                                    refine J_getf fl_6_54 rfl rfl (dk_X6_foundling 68 _ rfl) ?_
                                    refine J_getf fl_6_71 rfl rfl (dk_X6_foundling 71 _ rfl) ?_
                                    refine J_iconst (v := 1) (by decide) (dk_X6_foundling 74 _ rfl) ?_
                                    refine J_isubC (v := 0) (by decide) (dk_X6_foundling 75 _ rfl) ?_
                                    refine J_iload_n (i := 2) (a := 2) rfl rfl (dk_X6_foundling 76 _ rfl) ?_
                                    refine J_cV (rv := some (.int 0)) (h' := hC6_68) (d' := 11) (As := [.ref 35, .int 0, .int 0]) ok_X6_bestOf vi_X6_bestOf cl_6_188 (n := 3) (by decide +kernel) rfl rfl rfl rfl (by decide) (by decide) (dk_X6_foundling 77 _ rfl) ?_ ?_
                                    · refine jCt_of ok_X6_bestOf (fun _ _ => Nat.le_of_ble_eq_true rfl) (fun _ _ hq => by rw [hq.2]; first | exact Nat.le_refl _ | simp) ?_
                                      show J _ _ _ _ _ _ _ _ [(0, .ref 0), (1, .ref 35), (2, .int 0), (3, .int 0)] _ _ _
                                      refine J_aload_n (i := 0) (a := 0) rfl rfl (dk_X6_bestOf 0 _ rfl) ?_
                                      refine J_aload_n (i := 1) (a := 1) rfl rfl (dk_X6_bestOf 1 _ rfl) ?_
                                      refine J_iload_n (i := 2) (a := 2) rfl rfl (dk_X6_bestOf 2 _ rfl) ?_
                                      refine J_aload_n (i := 0) (a := 0) rfl rfl (dk_X6_bestOf 3 _ rfl) ?_
                                      refine J_getf fl_6_54 rfl rfl (dk_X6_bestOf 4 _ rfl) ?_
                                      refine J_getf fl_6_83 rfl rfl (dk_X6_bestOf 7 _ rfl) ?_
                                      refine J_getf fl_6_87 rfl rfl (dk_X6_bestOf 10 _ rfl) ?_
                                      refine J_cV (rv := none) (h' := hC6_68) (d' := 10) (As := [.ref 35, .int 0, .int 10]) ok_X6_tryDays vi_X6_tryDays cl_6_192 (n := 3) (by decide +kernel) rfl rfl rfl rfl (by decide) (by decide) (dk_X6_bestOf 13 _ rfl) (jev_ct (M := m_X6_tryDays) rfl rc6_68) ?_
                                      show J _ _ _ _ _ _ _ _ _ [] _ _
                                      refine J_aload_n (i := 0) (a := 0) rfl rfl (dk_X6_bestOf 16 _ rfl) ?_
                                      refine J_cV (rv := some (.int 0)) (h' := hC6_68) (d' := 10) (As := []) ok_X6_firstMost vi_X6_firstMost cl_6_269 (n := 0) (by decide +kernel) rfl rfl rfl rfl (by decide) (by decide) (dk_X6_bestOf 17 _ rfl) (jev_ct (M := m_X6_firstMost) rfl rc6_69) ?_
                                      show J _ _ _ _ _ _ _ _ _ [.int 0] _ _
                                      refine J_istore (i := 4) (by decide) (dk_X6_bestOf 20 _ rfl) ?_
                                      show J _ _ _ _ _ _ _ _ [(4, .int 0), (0, .ref 0), (1, .ref 35), (2, .int 0), (3, .int 0)] _ _ _
                                      refine J_iload_n (i := 3) (a := 3) rfl rfl (dk_X6_bestOf 22 _ rfl) ?_
                                      refine J_ifF (tgt := 31) (by decide) (dk_X6_bestOf 23 _ rfl) (fun z => z (jI_eq (by decide : (0 : Int32).toInt = 0) (by decide : (0 : Int32).toInt = 0) (by omega))) ?_
                                      refine J_iload (i := 4) rfl (dk_X6_bestOf 26 _ rfl) ?_
                                      refine J_goto (tgt := 38) (by decide) (dk_X6_bestOf 28 _ rfl) ?_
                                      exact J_iret rfl rfl (dk_X6_bestOf 38 _ rfl) ⟨rfl, rfl⟩
                                    show J _ _ _ _ _ _ _ _ _ [.int 0] _ _
                                    exact J_iret rfl rfl (dk_X6_foundling 80 _ rfl) ⟨rfl, rfl⟩
                                  · refine jCt_of ok_X7_foundling (fun _ _ => Nat.le_of_ble_eq_true rfl) (fun _ _ hq => Nat.le_of_eq (lM.trans hq.2.symm)) ?_
                                    show J _ _ _ _ _ _ _ _ [(0, .ref 0), (1, .int 10), (2, .int 0)] _ _ _
                                    refine J_aload_n (i := 0) (a := 0) rfl rfl (dk_X7_foundling 0 _ rfl) ?_
                                    refine J_iload_n (i := 2) (a := 2) rfl rfl (dk_X7_foundling 1 _ rfl) ?_
                                    refine J_iconst (v := 0) (by decide) (dk_X7_foundling 2 _ rfl) ?_
                                    refine J_iconst (v := 1) (by decide) (dk_X7_foundling 3 _ rfl) ?_
                                    refine J_cV (rv := some (.int 1)) (h' := hM0) (d' := 11) (As := [.int 0, .int 0, .int 1]) ok_X7_in vi_X7_in cl_7_194 (n := 3) (by decide +kernel) rfl rfl rfl rfl (by decide) (by decide) (dk_X7_foundling 4 _ rfl) ?_ ?_
                                    · refine jCt_of ok_X7_in (fun _ _ => Nat.le_of_ble_eq_true rfl) (fun _ _ hq => by rw [hq.2]; first | exact Nat.le_refl _ | simp) ?_
                                      show J _ _ _ _ _ _ _ _ [(0, .ref 0), (1, .int 0), (2, .int 0), (3, .int 1)] _ _ _
                                      refine J_iload_n (i := 1) (a := 1) rfl rfl (dk_X7_in 0 _ rfl) ?_
                                      refine J_iload_n (i := 2) (a := 2) rfl rfl (dk_X7_in 1 _ rfl) ?_
                                      refine J_icF (tgt := 14) (by decide) (dk_X7_in 2 _ rfl) (jI_nlt (by decide : (0 : Int32).toInt = 0) (by decide : (0 : Int32).toInt = 0) (by omega)) ?_
                                      refine J_iload_n (i := 1) (a := 1) rfl rfl (dk_X7_in 5 _ rfl) ?_
                                      refine J_iload_n (i := 3) (a := 3) rfl rfl (dk_X7_in 6 _ rfl) ?_
                                      refine J_icF (tgt := 14) (by decide) (dk_X7_in 7 _ rfl) (jI_nlt (by decide : (1 : Int32).toInt = 1) (by decide : (0 : Int32).toInt = 0) (by omega)) ?_
                                      refine J_iconst (v := 1) (by decide) (dk_X7_in 10 _ rfl) ?_
                                      refine J_goto (tgt := 15) (by decide) (dk_X7_in 11 _ rfl) ?_
                                      exact J_iret rfl rfl (dk_X7_in 15 _ rfl) ⟨rfl, rfl⟩
                                    show J _ _ _ _ _ _ _ _ _ [.int 1] _ _
                                    refine J_ifT (tgt := 14) (by decide) (dk_X7_foundling 7 _ rfl) (jI_ne (by decide : (1 : Int32).toInt = 1) (by decide : (0 : Int32).toInt = 0) (by omega)) ?_
                                    refine J_aload_n (i := 0) (a := 0) rfl rfl (dk_X7_foundling 14 _ rfl) ?_
                                    refine J_iload_n (i := 1) (a := 1) rfl rfl (dk_X7_foundling 15 _ rfl) ?_
                                    refine J_cV (rv := some (.int 1)) (h' := hM0) (d' := 11) (As := [.int 10]) ok_X7_isDay vi_X7_isDay cl_7_198 (n := 1) (by decide +kernel) rfl rfl rfl rfl (by decide) (by decide) (dk_X7_foundling 16 _ rfl) ?_ ?_
                                    · refine jCt_of ok_X7_isDay (fun _ _ => Nat.le_of_ble_eq_true rfl) (fun _ _ hq => by rw [hq.2]; first | exact Nat.le_refl _ | simp) ?_
                                      show J _ _ _ _ _ _ _ _ [(0, .ref 0), (1, .int 10)] _ _ _
                                      refine J_aload_n (i := 0) (a := 0) rfl rfl (dk_X7_isDay 0 _ rfl) ?_
                                      refine J_iload_n (i := 1) (a := 1) rfl rfl (dk_X7_isDay 1 _ rfl) ?_
                                      refine J_iconst (v := 0) (by decide) (dk_X7_isDay 2 _ rfl) ?_
                                      refine J_bipush (v := 11) (by decide) (dk_X7_isDay 3 _ rfl) ?_
                                      refine J_cV (rv := some (.int 1)) (h' := hM0) (d' := 10) (As := [.int 10, .int 0, .int 11]) ok_X7_in vi_X7_in cl_7_194 (n := 3) (by decide +kernel) rfl rfl rfl rfl (by decide) (by decide) (dk_X7_isDay 5 _ rfl) ?_ ?_
                                      · refine jCt_of ok_X7_in (fun _ _ => Nat.le_of_ble_eq_true rfl) (fun _ _ hq => by rw [hq.2]; first | exact Nat.le_refl _ | simp) ?_
                                        show J _ _ _ _ _ _ _ _ [(0, .ref 0), (1, .int 10), (2, .int 0), (3, .int 11)] _ _ _
                                        refine J_iload_n (i := 1) (a := 1) rfl rfl (dk_X7_in 0 _ rfl) ?_
                                        refine J_iload_n (i := 2) (a := 2) rfl rfl (dk_X7_in 1 _ rfl) ?_
                                        refine J_icF (tgt := 14) (by decide) (dk_X7_in 2 _ rfl) (jI_nlt (by decide : (10 : Int32).toInt = 10) (by decide : (0 : Int32).toInt = 0) (by omega)) ?_
                                        refine J_iload_n (i := 1) (a := 1) rfl rfl (dk_X7_in 5 _ rfl) ?_
                                        refine J_iload_n (i := 3) (a := 3) rfl rfl (dk_X7_in 6 _ rfl) ?_
                                        refine J_icF (tgt := 14) (by decide) (dk_X7_in 7 _ rfl) (jI_nlt (by decide : (11 : Int32).toInt = 11) (by decide : (10 : Int32).toInt = 10) (by omega)) ?_
                                        refine J_iconst (v := 1) (by decide) (dk_X7_in 10 _ rfl) ?_
                                        refine J_goto (tgt := 15) (by decide) (dk_X7_in 11 _ rfl) ?_
                                        exact J_iret rfl rfl (dk_X7_in 15 _ rfl) ⟨rfl, rfl⟩
                                      show J _ _ _ _ _ _ _ _ _ [.int 1] _ _
                                      exact J_iret rfl rfl (dk_X7_isDay 8 _ rfl) ⟨rfl, rfl⟩
                                    show J _ _ _ _ _ _ _ _ _ [.int 1] _ _
                                    refine J_ifT (tgt := 26) (by decide) (dk_X7_foundling 19 _ rfl) (jI_ne (by decide : (1 : Int32).toInt = 1) (by decide : (0 : Int32).toInt = 0) (by omega)) ?_
                                    refine J_aload_n (i := 0) (a := 0) rfl rfl (dk_X7_foundling 26 _ rfl) ?_
                                    refine J_getf fl_7_7 rfl rfl (dk_X7_foundling 27 _ rfl) ?_
                                    refine J_bipush (v := 7) (by decide) (dk_X7_foundling 30 _ rfl) ?_
                                    refine J_icT (tgt := 38) (by decide) (dk_X7_foundling 32 _ rfl) (jI_ne (by decide : (0 : Int32).toInt = 0) (by decide : (7 : Int32).toInt = 7) (by omega)) ?_
                                    refine J_aload_n (i := 0) (a := 0) rfl rfl (dk_X7_foundling 38 _ rfl) ?_
                                    refine J_aload_n (i := 0) (a := 0) rfl rfl (dk_X7_foundling 39 _ rfl) ?_
                                    refine J_getf fl_7_7 rfl rfl (dk_X7_foundling 40 _ rfl) ?_
                                    refine J_iconst (v := 0) (by decide) (dk_X7_foundling 43 _ rfl) ?_
                                    refine J_iconst (v := 0) (by decide) (dk_X7_foundling 44 _ rfl) ?_
                                    refine J_iconst (v := 0) (by decide) (dk_X7_foundling 45 _ rfl) ?_
                                    refine J_iload_n (i := 1) (a := 1) rfl rfl (dk_X7_foundling 46 _ rfl) ?_
                                    refine J_cV (rv := none) (h' := hC7_70) (d' := 11) (As := [.int 0, .int 0, .int 0, .int 0, .int 10]) ok_X7_lay vi_X7_lay cl_7_202 (n := 5) (by decide +kernel) rfl rfl rfl rfl (by decide) (by decide) (dk_X7_foundling 47 _ rfl) (jev_ct (M := m_X7_lay) rfl rc7_70) ?_
                                    show J _ _ _ _ _ _ _ _ _ [] _ _
                                    refine J_aload_n (i := 0) (a := 0) rfl rfl (dk_X7_foundling 50 _ rfl) ?_
                                    refine J_dup rfl (dk_X7_foundling 51 _ rfl) ?_
                                    refine J_getf fl_7_7 rfl rfl (dk_X7_foundling 52 _ rfl) ?_
                                    refine J_iconst (v := 1) (by decide) (dk_X7_foundling 55 _ rfl) ?_
                                    refine J_iaddC (v := 1) (by decide) (dk_X7_foundling 56 _ rfl) ?_
                                    refine J_putf fl_7_7 rfl (fun q hq => by cases hq; rfl) trivial (Nat.le_of_ble_eq_true rfl) (dk_X7_foundling 57 _ rfl) ?_
                                    refine J_aload_n (i := 0) (a := 0) rfl rfl (dk_X7_foundling 60 _ rfl) ?_
                                    refine J_aload_n (i := 0) (a := 0) rfl rfl (dk_X7_foundling 61 _ rfl) ?_
                                    refine J_getf fl_7_7 rfl rfl (dk_X7_foundling 62 _ rfl) ?_
                                    refine J_iconst (v := 1) (by decide) (dk_X7_foundling 65 _ rfl) ?_
                                    refine J_isubC (v := 0) (by decide) (dk_X7_foundling 66 _ rfl) ?_
                                    refine J_iconst (v := 1) (by decide) (dk_X7_foundling 67 _ rfl) ?_
                                    refine J_cV (rv := none) (h' := hC7_71) (d' := 11) (As := [.int 0, .int 1]) ok_X7_layBest vi_X7_layBest cl_7_326 (n := 2) (by decide +kernel) rfl rfl rfl rfl (by decide) (by decide) (dk_X7_foundling 68 _ rfl) (jev_ct (M := m_X7_layBest) rfl rc7_71) ?_
                                    show J _ _ _ _ _ _ _ _ _ [] _ _
                                    refine J_aload_n (i := 0) (a := 0) rfl rfl (dk_X7_foundling 71 _ rfl) ?_
                                    refine J_dup rfl (dk_X7_foundling 72 _ rfl) ?_
                                    refine J_getf fl_7_7 rfl rfl (dk_X7_foundling 73 _ rfl) ?_
                                    refine J_iconst (v := 1) (by decide) (dk_X7_foundling 76 _ rfl) ?_
                                    refine J_isubC (v := 0) (by decide) (dk_X7_foundling 77 _ rfl) ?_
                                    refine J_putf fl_7_7 rfl (fun q hq => by cases hq; rfl) trivial (Nat.le_of_ble_eq_true rfl) (dk_X7_foundling 78 _ rfl) ?_
                                    refine J_iload_n (i := 2) (a := 2) rfl rfl (dk_X7_foundling 81 _ rfl) ?_
                                    refine J_ifF (tgt := 92) (by decide) (dk_X7_foundling 82 _ rfl) (fun z => z (jI_eq (by decide : (0 : Int32).toInt = 0) (by decide : (0 : Int32).toInt = 0) (by omega))) ?_
                                    refine J_aload_n (i := 0) (a := 0) rfl rfl (dk_X7_foundling 85 _ rfl) ?_
                                    refine J_getf fl_7_114 rfl rfl (dk_X7_foundling 86 _ rfl) ?_
                                    refine J_goto (tgt := 96) (by decide) (dk_X7_foundling 89 _ rfl) ?_
                                    exact J_iret rfl rfl (dk_X7_foundling 96 _ rfl) ⟨rfl, rfl⟩
                                · obtain rfl : d = 11 := jI_eq rfl (by decide) (by omega : (d : Int32).toInt = 11)
                                  refine ⟨0, ?_, ?_⟩
                                  · refine jCt_of ok_X6_foundling (fun _ _ => Nat.le_of_ble_eq_true rfl) (fun _ _ hq => Nat.le_of_eq (lX.trans hq.2.symm)) ?_
                                    show J _ _ _ _ _ _ _ _ [(0, .ref 0), (1, .int 11), (2, .int 0)] _ _ _
                                    refine J_iload_n (i := 2) (a := 2) rfl rfl (dk_X6_foundling 0 _ rfl) ?_
                                    refine J_ifF (tgt := 9) (by decide) (dk_X6_foundling 1 _ rfl) (jI_nlt (by decide : (0 : Int32).toInt = 0) (by decide : (0 : Int32).toInt = 0) (by omega)) ?_
                                    refine J_iload_n (i := 2) (a := 2) rfl rfl (dk_X6_foundling 4 _ rfl) ?_
                                    refine J_iconst (v := 1) (by decide) (dk_X6_foundling 5 _ rfl) ?_
                                    refine J_icT (tgt := 12) (by decide) (dk_X6_foundling 6 _ rfl) (jI_le (by decide : (0 : Int32).toInt = 0) (by decide : (1 : Int32).toInt = 1) (by omega)) ?_
                                    refine J_iload_n (i := 1) (a := 1) rfl rfl (dk_X6_foundling 12 _ rfl) ?_
                                    refine J_cS (rv := some (.int 1)) (h' := hN0) (d' := 11) (As := [.int 11]) ok_X6_isDay st_X6_isDay cl_6_67 rfl (n := 1) (by decide +kernel) rfl (by decide) (by decide) (dk_X6_foundling 13 _ rfl) ?_ ?_
                                    · refine jCt_of ok_X6_isDay (fun _ _ => Nat.le_of_ble_eq_true rfl) (fun _ _ hq => by rw [hq.2]; first | exact Nat.le_refl _ | simp) ?_
                                      show J _ _ _ _ _ _ _ _ [(0, .int 11)] _ _ _
                                      refine J_iload_n (i := 0) (a := 0) rfl rfl (dk_X6_isDay 0 _ rfl) ?_
                                      refine J_ifF (tgt := 14) (by decide) (dk_X6_isDay 1 _ rfl) (jI_nlt (by decide : (11 : Int32).toInt = 11) (by decide : (0 : Int32).toInt = 0) (by omega)) ?_
                                      refine J_iload_n (i := 0) (a := 0) rfl rfl (dk_X6_isDay 4 _ rfl) ?_
                                      refine J_bipush (v := 12) (by decide) (dk_X6_isDay 5 _ rfl) ?_
                                      refine J_icF (tgt := 14) (by decide) (dk_X6_isDay 7 _ rfl) (jI_nle (by decide : (12 : Int32).toInt = 12) (by decide : (11 : Int32).toInt = 11) (by omega)) ?_
                                      refine J_iconst (v := 1) (by decide) (dk_X6_isDay 10 _ rfl) ?_
                                      refine J_goto (tgt := 15) (by decide) (dk_X6_isDay 11 _ rfl) ?_
                                      exact J_iret rfl rfl (dk_X6_isDay 15 _ rfl) ⟨rfl, rfl⟩
                                    show J _ _ _ _ _ _ _ _ _ [.int 1] _ _
                                    refine J_ifT (tgt := 22) (by decide) (dk_X6_foundling 16 _ rfl) (jI_ne (by decide : (1 : Int32).toInt = 1) (by decide : (0 : Int32).toInt = 0) (by omega)) ?_
                                    refine J_aload_n (i := 0) (a := 0) rfl rfl (dk_X6_foundling 22 _ rfl) ?_
                                    refine J_getf fl_6_47 rfl rfl (dk_X6_foundling 23 _ rfl) ?_
                                    refine J_getf fl_6_71 rfl rfl (dk_X6_foundling 26 _ rfl) ?_
                                    refine J_bipush (v := 7) (by decide) (dk_X6_foundling 29 _ rfl) ?_
                                    refine J_icT (tgt := 37) (by decide) (dk_X6_foundling 31 _ rfl) (jI_lt (by decide : (0 : Int32).toInt = 0) (by decide : (7 : Int32).toInt = 7) (by omega)) ?_
                                    refine J_aload_n (i := 0) (a := 0) rfl rfl (dk_X6_foundling 37 _ rfl) ?_
                                    refine J_getf fl_6_54 rfl rfl (dk_X6_foundling 38 _ rfl) ?_
                                    refine J_aload_n (i := 0) (a := 0) rfl rfl (dk_X6_foundling 41 _ rfl) ?_
                                    refine J_getf fl_6_47 rfl rfl (dk_X6_foundling 42 _ rfl) ?_
                                    refine J_cV (rv := none) (h' := hN0) (d' := 11) (As := [.ref 14]) ok_X2_copy vi_X2_copy cl_6_185 (n := 1) (by decide +kernel) rfl rfl rfl rfl (by decide) (by decide) (dk_X6_foundling 45 _ rfl) (jev_ct (M := m_X2_copy) rfl rc6_0) ?_
                                    show J _ _ _ _ _ _ _ _ _ [] _ _
                                    refine J_aload_n (i := 0) (a := 0) rfl rfl (dk_X6_foundling 48 _ rfl) ?_
                                    refine J_getf fl_6_54 rfl rfl (dk_X6_foundling 49 _ rfl) ?_
                                    refine J_iconst (v := 0) (by decide) (dk_X6_foundling 52 _ rfl) ?_
                                    refine J_iconst (v := 0) (by decide) (dk_X6_foundling 53 _ rfl) ?_
                                    refine J_iconst (v := 0) (by decide) (dk_X6_foundling 54 _ rfl) ?_
                                    refine J_iload_n (i := 1) (a := 1) rfl rfl (dk_X6_foundling 55 _ rfl) ?_
                                    refine J_cV (rv := none) (h' := hC6_73) (d' := 11) (As := [.int 0, .int 0, .int 0, .int 11]) ok_X2_add vi_X2_add cl_6_75 (n := 4) (by decide +kernel) rfl rfl rfl rfl (by decide) (by decide) (dk_X6_foundling 56 _ rfl) (jev_ct (M := m_X2_add) rfl rc6_73) ?_
                                    show J _ _ _ _ _ _ _ _ _ [] _ _
                                    refine J_aload_n (i := 0) (a := 0) rfl rfl (dk_X6_foundling 59 _ rfl) ?_
                                    refine J_aload_n (i := 0) (a := 0) rfl rfl (dk_X6_foundling 60 _ rfl) ?_
                                    refine J_getf fl_6_54 rfl rfl (dk_X6_foundling 61 _ rfl) ?_
                                    refine J_getf fl_6_103 rfl rfl (dk_X6_foundling 64 _ rfl) ?_
                                    refine J_aload_n (i := 0) (a := 0) rfl rfl (dk_X6_foundling 67 _ rfl) ?_
                                    refine J_getf fl_6_54 rfl rfl (dk_X6_foundling 68 _ rfl) ?_
                                    refine J_getf fl_6_71 rfl rfl (dk_X6_foundling 71 _ rfl) ?_
                                    refine J_iconst (v := 1) (by decide) (dk_X6_foundling 74 _ rfl) ?_
                                    refine J_isubC (v := 0) (by decide) (dk_X6_foundling 75 _ rfl) ?_
                                    refine J_iload_n (i := 2) (a := 2) rfl rfl (dk_X6_foundling 76 _ rfl) ?_
                                    refine J_cV (rv := some (.int 0)) (h' := hC6_74) (d' := 11) (As := [.ref 35, .int 0, .int 0]) ok_X6_bestOf vi_X6_bestOf cl_6_188 (n := 3) (by decide +kernel) rfl rfl rfl rfl (by decide) (by decide) (dk_X6_foundling 77 _ rfl) ?_ ?_
                                    · refine jCt_of ok_X6_bestOf (fun _ _ => Nat.le_of_ble_eq_true rfl) (fun _ _ hq => by rw [hq.2]; first | exact Nat.le_refl _ | simp) ?_
                                      show J _ _ _ _ _ _ _ _ [(0, .ref 0), (1, .ref 35), (2, .int 0), (3, .int 0)] _ _ _
                                      refine J_aload_n (i := 0) (a := 0) rfl rfl (dk_X6_bestOf 0 _ rfl) ?_
                                      refine J_aload_n (i := 1) (a := 1) rfl rfl (dk_X6_bestOf 1 _ rfl) ?_
                                      refine J_iload_n (i := 2) (a := 2) rfl rfl (dk_X6_bestOf 2 _ rfl) ?_
                                      refine J_aload_n (i := 0) (a := 0) rfl rfl (dk_X6_bestOf 3 _ rfl) ?_
                                      refine J_getf fl_6_54 rfl rfl (dk_X6_bestOf 4 _ rfl) ?_
                                      refine J_getf fl_6_83 rfl rfl (dk_X6_bestOf 7 _ rfl) ?_
                                      refine J_getf fl_6_87 rfl rfl (dk_X6_bestOf 10 _ rfl) ?_
                                      refine J_cV (rv := none) (h' := hC6_74) (d' := 10) (As := [.ref 35, .int 0, .int 10]) ok_X6_tryDays vi_X6_tryDays cl_6_192 (n := 3) (by decide +kernel) rfl rfl rfl rfl (by decide) (by decide) (dk_X6_bestOf 13 _ rfl) (jev_ct (M := m_X6_tryDays) rfl rc6_74) ?_
                                      show J _ _ _ _ _ _ _ _ _ [] _ _
                                      refine J_aload_n (i := 0) (a := 0) rfl rfl (dk_X6_bestOf 16 _ rfl) ?_
                                      refine J_cV (rv := some (.int 0)) (h' := hC6_74) (d' := 10) (As := []) ok_X6_firstMost vi_X6_firstMost cl_6_269 (n := 0) (by decide +kernel) rfl rfl rfl rfl (by decide) (by decide) (dk_X6_bestOf 17 _ rfl) (jev_ct (M := m_X6_firstMost) rfl rc6_75) ?_
                                      show J _ _ _ _ _ _ _ _ _ [.int 0] _ _
                                      refine J_istore (i := 4) (by decide) (dk_X6_bestOf 20 _ rfl) ?_
                                      show J _ _ _ _ _ _ _ _ [(4, .int 0), (0, .ref 0), (1, .ref 35), (2, .int 0), (3, .int 0)] _ _ _
                                      refine J_iload_n (i := 3) (a := 3) rfl rfl (dk_X6_bestOf 22 _ rfl) ?_
                                      refine J_ifF (tgt := 31) (by decide) (dk_X6_bestOf 23 _ rfl) (fun z => z (jI_eq (by decide : (0 : Int32).toInt = 0) (by decide : (0 : Int32).toInt = 0) (by omega))) ?_
                                      refine J_iload (i := 4) rfl (dk_X6_bestOf 26 _ rfl) ?_
                                      refine J_goto (tgt := 38) (by decide) (dk_X6_bestOf 28 _ rfl) ?_
                                      exact J_iret rfl rfl (dk_X6_bestOf 38 _ rfl) ⟨rfl, rfl⟩
                                    show J _ _ _ _ _ _ _ _ _ [.int 0] _ _
                                    exact J_iret rfl rfl (dk_X6_foundling 80 _ rfl) ⟨rfl, rfl⟩
                                  · refine jCt_of ok_X7_foundling (fun _ _ => Nat.le_of_ble_eq_true rfl) (fun _ _ hq => Nat.le_of_eq (lM.trans hq.2.symm)) ?_
                                    show J _ _ _ _ _ _ _ _ [(0, .ref 0), (1, .int 11), (2, .int 0)] _ _ _
                                    refine J_aload_n (i := 0) (a := 0) rfl rfl (dk_X7_foundling 0 _ rfl) ?_
                                    refine J_iload_n (i := 2) (a := 2) rfl rfl (dk_X7_foundling 1 _ rfl) ?_
                                    refine J_iconst (v := 0) (by decide) (dk_X7_foundling 2 _ rfl) ?_
                                    refine J_iconst (v := 1) (by decide) (dk_X7_foundling 3 _ rfl) ?_
                                    refine J_cV (rv := some (.int 1)) (h' := hM0) (d' := 11) (As := [.int 0, .int 0, .int 1]) ok_X7_in vi_X7_in cl_7_194 (n := 3) (by decide +kernel) rfl rfl rfl rfl (by decide) (by decide) (dk_X7_foundling 4 _ rfl) ?_ ?_
                                    · refine jCt_of ok_X7_in (fun _ _ => Nat.le_of_ble_eq_true rfl) (fun _ _ hq => by rw [hq.2]; first | exact Nat.le_refl _ | simp) ?_
                                      show J _ _ _ _ _ _ _ _ [(0, .ref 0), (1, .int 0), (2, .int 0), (3, .int 1)] _ _ _
                                      refine J_iload_n (i := 1) (a := 1) rfl rfl (dk_X7_in 0 _ rfl) ?_
                                      refine J_iload_n (i := 2) (a := 2) rfl rfl (dk_X7_in 1 _ rfl) ?_
                                      refine J_icF (tgt := 14) (by decide) (dk_X7_in 2 _ rfl) (jI_nlt (by decide : (0 : Int32).toInt = 0) (by decide : (0 : Int32).toInt = 0) (by omega)) ?_
                                      refine J_iload_n (i := 1) (a := 1) rfl rfl (dk_X7_in 5 _ rfl) ?_
                                      refine J_iload_n (i := 3) (a := 3) rfl rfl (dk_X7_in 6 _ rfl) ?_
                                      refine J_icF (tgt := 14) (by decide) (dk_X7_in 7 _ rfl) (jI_nlt (by decide : (1 : Int32).toInt = 1) (by decide : (0 : Int32).toInt = 0) (by omega)) ?_
                                      refine J_iconst (v := 1) (by decide) (dk_X7_in 10 _ rfl) ?_
                                      refine J_goto (tgt := 15) (by decide) (dk_X7_in 11 _ rfl) ?_
                                      exact J_iret rfl rfl (dk_X7_in 15 _ rfl) ⟨rfl, rfl⟩
                                    show J _ _ _ _ _ _ _ _ _ [.int 1] _ _
                                    refine J_ifT (tgt := 14) (by decide) (dk_X7_foundling 7 _ rfl) (jI_ne (by decide : (1 : Int32).toInt = 1) (by decide : (0 : Int32).toInt = 0) (by omega)) ?_
                                    refine J_aload_n (i := 0) (a := 0) rfl rfl (dk_X7_foundling 14 _ rfl) ?_
                                    refine J_iload_n (i := 1) (a := 1) rfl rfl (dk_X7_foundling 15 _ rfl) ?_
                                    refine J_cV (rv := some (.int 1)) (h' := hM0) (d' := 11) (As := [.int 11]) ok_X7_isDay vi_X7_isDay cl_7_198 (n := 1) (by decide +kernel) rfl rfl rfl rfl (by decide) (by decide) (dk_X7_foundling 16 _ rfl) ?_ ?_
                                    · refine jCt_of ok_X7_isDay (fun _ _ => Nat.le_of_ble_eq_true rfl) (fun _ _ hq => by rw [hq.2]; first | exact Nat.le_refl _ | simp) ?_
                                      show J _ _ _ _ _ _ _ _ [(0, .ref 0), (1, .int 11)] _ _ _
                                      refine J_aload_n (i := 0) (a := 0) rfl rfl (dk_X7_isDay 0 _ rfl) ?_
                                      refine J_iload_n (i := 1) (a := 1) rfl rfl (dk_X7_isDay 1 _ rfl) ?_
                                      refine J_iconst (v := 0) (by decide) (dk_X7_isDay 2 _ rfl) ?_
                                      refine J_bipush (v := 11) (by decide) (dk_X7_isDay 3 _ rfl) ?_
                                      refine J_cV (rv := some (.int 1)) (h' := hM0) (d' := 10) (As := [.int 11, .int 0, .int 11]) ok_X7_in vi_X7_in cl_7_194 (n := 3) (by decide +kernel) rfl rfl rfl rfl (by decide) (by decide) (dk_X7_isDay 5 _ rfl) ?_ ?_
                                      · refine jCt_of ok_X7_in (fun _ _ => Nat.le_of_ble_eq_true rfl) (fun _ _ hq => by rw [hq.2]; first | exact Nat.le_refl _ | simp) ?_
                                        show J _ _ _ _ _ _ _ _ [(0, .ref 0), (1, .int 11), (2, .int 0), (3, .int 11)] _ _ _
                                        refine J_iload_n (i := 1) (a := 1) rfl rfl (dk_X7_in 0 _ rfl) ?_
                                        refine J_iload_n (i := 2) (a := 2) rfl rfl (dk_X7_in 1 _ rfl) ?_
                                        refine J_icF (tgt := 14) (by decide) (dk_X7_in 2 _ rfl) (jI_nlt (by decide : (11 : Int32).toInt = 11) (by decide : (0 : Int32).toInt = 0) (by omega)) ?_
                                        refine J_iload_n (i := 1) (a := 1) rfl rfl (dk_X7_in 5 _ rfl) ?_
                                        refine J_iload_n (i := 3) (a := 3) rfl rfl (dk_X7_in 6 _ rfl) ?_
                                        refine J_icF (tgt := 14) (by decide) (dk_X7_in 7 _ rfl) (jI_nlt (by decide : (11 : Int32).toInt = 11) (by decide : (11 : Int32).toInt = 11) (by omega)) ?_
                                        refine J_iconst (v := 1) (by decide) (dk_X7_in 10 _ rfl) ?_
                                        refine J_goto (tgt := 15) (by decide) (dk_X7_in 11 _ rfl) ?_
                                        exact J_iret rfl rfl (dk_X7_in 15 _ rfl) ⟨rfl, rfl⟩
                                      show J _ _ _ _ _ _ _ _ _ [.int 1] _ _
                                      exact J_iret rfl rfl (dk_X7_isDay 8 _ rfl) ⟨rfl, rfl⟩
                                    show J _ _ _ _ _ _ _ _ _ [.int 1] _ _
                                    refine J_ifT (tgt := 26) (by decide) (dk_X7_foundling 19 _ rfl) (jI_ne (by decide : (1 : Int32).toInt = 1) (by decide : (0 : Int32).toInt = 0) (by omega)) ?_
                                    refine J_aload_n (i := 0) (a := 0) rfl rfl (dk_X7_foundling 26 _ rfl) ?_
                                    refine J_getf fl_7_7 rfl rfl (dk_X7_foundling 27 _ rfl) ?_
                                    refine J_bipush (v := 7) (by decide) (dk_X7_foundling 30 _ rfl) ?_
                                    refine J_icT (tgt := 38) (by decide) (dk_X7_foundling 32 _ rfl) (jI_ne (by decide : (0 : Int32).toInt = 0) (by decide : (7 : Int32).toInt = 7) (by omega)) ?_
                                    refine J_aload_n (i := 0) (a := 0) rfl rfl (dk_X7_foundling 38 _ rfl) ?_
                                    refine J_aload_n (i := 0) (a := 0) rfl rfl (dk_X7_foundling 39 _ rfl) ?_
                                    refine J_getf fl_7_7 rfl rfl (dk_X7_foundling 40 _ rfl) ?_
                                    refine J_iconst (v := 0) (by decide) (dk_X7_foundling 43 _ rfl) ?_
                                    refine J_iconst (v := 0) (by decide) (dk_X7_foundling 44 _ rfl) ?_
                                    refine J_iconst (v := 0) (by decide) (dk_X7_foundling 45 _ rfl) ?_
                                    refine J_iload_n (i := 1) (a := 1) rfl rfl (dk_X7_foundling 46 _ rfl) ?_
                                    refine J_cV (rv := none) (h' := hC7_76) (d' := 11) (As := [.int 0, .int 0, .int 0, .int 0, .int 11]) ok_X7_lay vi_X7_lay cl_7_202 (n := 5) (by decide +kernel) rfl rfl rfl rfl (by decide) (by decide) (dk_X7_foundling 47 _ rfl) (jev_ct (M := m_X7_lay) rfl rc7_76) ?_
                                    show J _ _ _ _ _ _ _ _ _ [] _ _
                                    refine J_aload_n (i := 0) (a := 0) rfl rfl (dk_X7_foundling 50 _ rfl) ?_
                                    refine J_dup rfl (dk_X7_foundling 51 _ rfl) ?_
                                    refine J_getf fl_7_7 rfl rfl (dk_X7_foundling 52 _ rfl) ?_
                                    refine J_iconst (v := 1) (by decide) (dk_X7_foundling 55 _ rfl) ?_
                                    refine J_iaddC (v := 1) (by decide) (dk_X7_foundling 56 _ rfl) ?_
                                    refine J_putf fl_7_7 rfl (fun q hq => by cases hq; rfl) trivial (Nat.le_of_ble_eq_true rfl) (dk_X7_foundling 57 _ rfl) ?_
                                    refine J_aload_n (i := 0) (a := 0) rfl rfl (dk_X7_foundling 60 _ rfl) ?_
                                    refine J_aload_n (i := 0) (a := 0) rfl rfl (dk_X7_foundling 61 _ rfl) ?_
                                    refine J_getf fl_7_7 rfl rfl (dk_X7_foundling 62 _ rfl) ?_
                                    refine J_iconst (v := 1) (by decide) (dk_X7_foundling 65 _ rfl) ?_
                                    refine J_isubC (v := 0) (by decide) (dk_X7_foundling 66 _ rfl) ?_
                                    refine J_iconst (v := 1) (by decide) (dk_X7_foundling 67 _ rfl) ?_
                                    refine J_cV (rv := none) (h' := hC7_77) (d' := 11) (As := [.int 0, .int 1]) ok_X7_layBest vi_X7_layBest cl_7_326 (n := 2) (by decide +kernel) rfl rfl rfl rfl (by decide) (by decide) (dk_X7_foundling 68 _ rfl) (jev_ct (M := m_X7_layBest) rfl rc7_77) ?_
                                    show J _ _ _ _ _ _ _ _ _ [] _ _
                                    refine J_aload_n (i := 0) (a := 0) rfl rfl (dk_X7_foundling 71 _ rfl) ?_
                                    refine J_dup rfl (dk_X7_foundling 72 _ rfl) ?_
                                    refine J_getf fl_7_7 rfl rfl (dk_X7_foundling 73 _ rfl) ?_
                                    refine J_iconst (v := 1) (by decide) (dk_X7_foundling 76 _ rfl) ?_
                                    refine J_isubC (v := 0) (by decide) (dk_X7_foundling 77 _ rfl) ?_
                                    refine J_putf fl_7_7 rfl (fun q hq => by cases hq; rfl) trivial (Nat.le_of_ble_eq_true rfl) (dk_X7_foundling 78 _ rfl) ?_
                                    refine J_iload_n (i := 2) (a := 2) rfl rfl (dk_X7_foundling 81 _ rfl) ?_
                                    refine J_ifF (tgt := 92) (by decide) (dk_X7_foundling 82 _ rfl) (fun z => z (jI_eq (by decide : (0 : Int32).toInt = 0) (by decide : (0 : Int32).toInt = 0) (by omega))) ?_
                                    refine J_aload_n (i := 0) (a := 0) rfl rfl (dk_X7_foundling 85 _ rfl) ?_
                                    refine J_getf fl_7_114 rfl rfl (dk_X7_foundling 86 _ rfl) ?_
                                    refine J_goto (tgt := 96) (by decide) (dk_X7_foundling 89 _ rfl) ?_
                                    exact J_iret rfl rfl (dk_X7_foundling 96 _ rfl) ⟨rfl, rfl⟩
          · refine ⟨(-10000002), ?_, ?_⟩
            · refine jCt_of ok_X6_foundling (fun _ _ => Nat.le_of_ble_eq_true rfl) (fun _ _ hq => Nat.le_of_eq (lX.trans hq.2.symm)) ?_
              show J _ _ _ _ _ _ _ _ [(0, .ref 0), (1, .int d), (2, .int 0)] _ _ _
              refine J_iload_n (i := 2) (a := 2) rfl rfl (dk_X6_foundling 0 _ rfl) ?_
              refine J_ifF (tgt := 9) (by decide) (dk_X6_foundling 1 _ rfl) (jI_nlt (by decide : (0 : Int32).toInt = 0) (by decide : (0 : Int32).toInt = 0) (by omega)) ?_
              refine J_iload_n (i := 2) (a := 2) rfl rfl (dk_X6_foundling 4 _ rfl) ?_
              refine J_iconst (v := 1) (by decide) (dk_X6_foundling 5 _ rfl) ?_
              refine J_icT (tgt := 12) (by decide) (dk_X6_foundling 6 _ rfl) (jI_le (by decide : (0 : Int32).toInt = 0) (by decide : (1 : Int32).toInt = 1) (by omega)) ?_
              refine J_iload_n (i := 1) (a := 1) rfl rfl (dk_X6_foundling 12 _ rfl) ?_
              refine J_cS (rv := some (.int 0)) (h' := hN0) (d' := 11) (As := [.int d]) ok_X6_isDay st_X6_isDay cl_6_67 rfl (n := 1) (by decide +kernel) rfl (by decide) (by decide) (dk_X6_foundling 13 _ rfl) ?_ ?_
              · refine jCt_of ok_X6_isDay (fun _ _ => Nat.le_of_ble_eq_true rfl) (fun _ _ hq => by rw [hq.2]; first | exact Nat.le_refl _ | simp) ?_
                show J _ _ _ _ _ _ _ _ [(0, .int d)] _ _ _
                refine J_iload_n (i := 0) (a := 0) rfl rfl (dk_X6_isDay 0 _ rfl) ?_
                refine J_ifF (tgt := 14) (by decide) (dk_X6_isDay 1 _ rfl) (jI_nlt (rfl : (d : Int32).toInt = (d : Int32).toInt) (by decide : (0 : Int32).toInt = 0) (by omega)) ?_
                refine J_iload_n (i := 0) (a := 0) rfl rfl (dk_X6_isDay 4 _ rfl) ?_
                refine J_bipush (v := 12) (by decide) (dk_X6_isDay 5 _ rfl) ?_
                refine J_icT (tgt := 14) (by decide) (dk_X6_isDay 7 _ rfl) (jI_le (by decide : (12 : Int32).toInt = 12) (rfl : (d : Int32).toInt = (d : Int32).toInt) (by omega)) ?_
                refine J_iconst (v := 0) (by decide) (dk_X6_isDay 14 _ rfl) ?_
                exact J_iret rfl rfl (dk_X6_isDay 15 _ rfl) ⟨rfl, rfl⟩
              show J _ _ _ _ _ _ _ _ _ [.int 0] _ _
              refine J_ifF (tgt := 22) (by decide) (dk_X6_foundling 16 _ rfl) (fun z => z (jI_eq (by decide : (0 : Int32).toInt = 0) (by decide : (0 : Int32).toInt = 0) (by omega))) ?_
              refine J_ldc (v := (-10000002)) ct_6_178 (dk_X6_foundling 19 _ rfl) ?_
              exact J_iret rfl rfl (dk_X6_foundling 21 _ rfl) ⟨rfl, rfl⟩
            · refine jCt_of ok_X7_foundling (fun _ _ => Nat.le_of_ble_eq_true rfl) (fun _ _ hq => Nat.le_of_eq (lM.trans hq.2.symm)) ?_
              show J _ _ _ _ _ _ _ _ [(0, .ref 0), (1, .int d), (2, .int 0)] _ _ _
              refine J_aload_n (i := 0) (a := 0) rfl rfl (dk_X7_foundling 0 _ rfl) ?_
              refine J_iload_n (i := 2) (a := 2) rfl rfl (dk_X7_foundling 1 _ rfl) ?_
              refine J_iconst (v := 0) (by decide) (dk_X7_foundling 2 _ rfl) ?_
              refine J_iconst (v := 1) (by decide) (dk_X7_foundling 3 _ rfl) ?_
              refine J_cV (rv := some (.int 1)) (h' := hM0) (d' := 11) (As := [.int 0, .int 0, .int 1]) ok_X7_in vi_X7_in cl_7_194 (n := 3) (by decide +kernel) rfl rfl rfl rfl (by decide) (by decide) (dk_X7_foundling 4 _ rfl) ?_ ?_
              · refine jCt_of ok_X7_in (fun _ _ => Nat.le_of_ble_eq_true rfl) (fun _ _ hq => by rw [hq.2]; first | exact Nat.le_refl _ | simp) ?_
                show J _ _ _ _ _ _ _ _ [(0, .ref 0), (1, .int 0), (2, .int 0), (3, .int 1)] _ _ _
                refine J_iload_n (i := 1) (a := 1) rfl rfl (dk_X7_in 0 _ rfl) ?_
                refine J_iload_n (i := 2) (a := 2) rfl rfl (dk_X7_in 1 _ rfl) ?_
                refine J_icF (tgt := 14) (by decide) (dk_X7_in 2 _ rfl) (jI_nlt (by decide : (0 : Int32).toInt = 0) (by decide : (0 : Int32).toInt = 0) (by omega)) ?_
                refine J_iload_n (i := 1) (a := 1) rfl rfl (dk_X7_in 5 _ rfl) ?_
                refine J_iload_n (i := 3) (a := 3) rfl rfl (dk_X7_in 6 _ rfl) ?_
                refine J_icF (tgt := 14) (by decide) (dk_X7_in 7 _ rfl) (jI_nlt (by decide : (1 : Int32).toInt = 1) (by decide : (0 : Int32).toInt = 0) (by omega)) ?_
                refine J_iconst (v := 1) (by decide) (dk_X7_in 10 _ rfl) ?_
                refine J_goto (tgt := 15) (by decide) (dk_X7_in 11 _ rfl) ?_
                exact J_iret rfl rfl (dk_X7_in 15 _ rfl) ⟨rfl, rfl⟩
              show J _ _ _ _ _ _ _ _ _ [.int 1] _ _
              refine J_ifT (tgt := 14) (by decide) (dk_X7_foundling 7 _ rfl) (jI_ne (by decide : (1 : Int32).toInt = 1) (by decide : (0 : Int32).toInt = 0) (by omega)) ?_
              refine J_aload_n (i := 0) (a := 0) rfl rfl (dk_X7_foundling 14 _ rfl) ?_
              refine J_iload_n (i := 1) (a := 1) rfl rfl (dk_X7_foundling 15 _ rfl) ?_
              refine J_cV (rv := some (.int 0)) (h' := hM0) (d' := 11) (As := [.int d]) ok_X7_isDay vi_X7_isDay cl_7_198 (n := 1) (by decide +kernel) rfl rfl rfl rfl (by decide) (by decide) (dk_X7_foundling 16 _ rfl) ?_ ?_
              · refine jCt_of ok_X7_isDay (fun _ _ => Nat.le_of_ble_eq_true rfl) (fun _ _ hq => by rw [hq.2]; first | exact Nat.le_refl _ | simp) ?_
                show J _ _ _ _ _ _ _ _ [(0, .ref 0), (1, .int d)] _ _ _
                refine J_aload_n (i := 0) (a := 0) rfl rfl (dk_X7_isDay 0 _ rfl) ?_
                refine J_iload_n (i := 1) (a := 1) rfl rfl (dk_X7_isDay 1 _ rfl) ?_
                refine J_iconst (v := 0) (by decide) (dk_X7_isDay 2 _ rfl) ?_
                refine J_bipush (v := 11) (by decide) (dk_X7_isDay 3 _ rfl) ?_
                refine J_cV (rv := some (.int 0)) (h' := hM0) (d' := 10) (As := [.int d, .int 0, .int 11]) ok_X7_in vi_X7_in cl_7_194 (n := 3) (by decide +kernel) rfl rfl rfl rfl (by decide) (by decide) (dk_X7_isDay 5 _ rfl) ?_ ?_
                · refine jCt_of ok_X7_in (fun _ _ => Nat.le_of_ble_eq_true rfl) (fun _ _ hq => by rw [hq.2]; first | exact Nat.le_refl _ | simp) ?_
                  show J _ _ _ _ _ _ _ _ [(0, .ref 0), (1, .int d), (2, .int 0), (3, .int 11)] _ _ _
                  refine J_iload_n (i := 1) (a := 1) rfl rfl (dk_X7_in 0 _ rfl) ?_
                  refine J_iload_n (i := 2) (a := 2) rfl rfl (dk_X7_in 1 _ rfl) ?_
                  refine J_icF (tgt := 14) (by decide) (dk_X7_in 2 _ rfl) (jI_nlt (rfl : (d : Int32).toInt = (d : Int32).toInt) (by decide : (0 : Int32).toInt = 0) (by omega)) ?_
                  refine J_iload_n (i := 1) (a := 1) rfl rfl (dk_X7_in 5 _ rfl) ?_
                  refine J_iload_n (i := 3) (a := 3) rfl rfl (dk_X7_in 6 _ rfl) ?_
                  refine J_icT (tgt := 14) (by decide) (dk_X7_in 7 _ rfl) (jI_lt (by decide : (11 : Int32).toInt = 11) (rfl : (d : Int32).toInt = (d : Int32).toInt) (by omega)) ?_
                  refine J_iconst (v := 0) (by decide) (dk_X7_in 14 _ rfl) ?_
                  exact J_iret rfl rfl (dk_X7_in 15 _ rfl) ⟨rfl, rfl⟩
                show J _ _ _ _ _ _ _ _ _ [.int 0] _ _
                exact J_iret rfl rfl (dk_X7_isDay 8 _ rfl) ⟨rfl, rfl⟩
              show J _ _ _ _ _ _ _ _ _ [.int 0] _ _
              refine J_ifF (tgt := 26) (by decide) (dk_X7_foundling 19 _ rfl) (fun z => z (jI_eq (by decide : (0 : Int32).toInt = 0) (by decide : (0 : Int32).toInt = 0) (by omega))) ?_
              refine J_ldcw (v := (-10000002)) ct_7_313 (dk_X7_foundling 22 _ rfl) ?_
              exact J_iret rfl rfl (dk_X7_foundling 25 _ rfl) ⟨rfl, rfl⟩
      · obtain rfl : w = 1 := jI_eq rfl (by decide) (by omega : (w : Int32).toInt = 1)
        by_cases c19 : (d : Int32).toInt < 0
        · refine ⟨(-10000002), ?_, ?_⟩
          · refine jCt_of ok_X6_foundling (fun _ _ => Nat.le_of_ble_eq_true rfl) (fun _ _ hq => Nat.le_of_eq (lX.trans hq.2.symm)) ?_
            show J _ _ _ _ _ _ _ _ [(0, .ref 0), (1, .int d), (2, .int 1)] _ _ _
            refine J_iload_n (i := 2) (a := 2) rfl rfl (dk_X6_foundling 0 _ rfl) ?_
            refine J_ifF (tgt := 9) (by decide) (dk_X6_foundling 1 _ rfl) (jI_nlt (by decide : (1 : Int32).toInt = 1) (by decide : (0 : Int32).toInt = 0) (by omega)) ?_
            refine J_iload_n (i := 2) (a := 2) rfl rfl (dk_X6_foundling 4 _ rfl) ?_
            refine J_iconst (v := 1) (by decide) (dk_X6_foundling 5 _ rfl) ?_
            refine J_icT (tgt := 12) (by decide) (dk_X6_foundling 6 _ rfl) (jI_le (by decide : (1 : Int32).toInt = 1) (by decide : (1 : Int32).toInt = 1) (by omega)) ?_
            refine J_iload_n (i := 1) (a := 1) rfl rfl (dk_X6_foundling 12 _ rfl) ?_
            refine J_cS (rv := some (.int 0)) (h' := hN0) (d' := 11) (As := [.int d]) ok_X6_isDay st_X6_isDay cl_6_67 rfl (n := 1) (by decide +kernel) rfl (by decide) (by decide) (dk_X6_foundling 13 _ rfl) ?_ ?_
            · refine jCt_of ok_X6_isDay (fun _ _ => Nat.le_of_ble_eq_true rfl) (fun _ _ hq => by rw [hq.2]; first | exact Nat.le_refl _ | simp) ?_
              show J _ _ _ _ _ _ _ _ [(0, .int d)] _ _ _
              refine J_iload_n (i := 0) (a := 0) rfl rfl (dk_X6_isDay 0 _ rfl) ?_
              refine J_ifT (tgt := 14) (by decide) (dk_X6_isDay 1 _ rfl) (jI_lt (rfl : (d : Int32).toInt = (d : Int32).toInt) (by decide : (0 : Int32).toInt = 0) (by omega)) ?_
              refine J_iconst (v := 0) (by decide) (dk_X6_isDay 14 _ rfl) ?_
              exact J_iret rfl rfl (dk_X6_isDay 15 _ rfl) ⟨rfl, rfl⟩
            show J _ _ _ _ _ _ _ _ _ [.int 0] _ _
            refine J_ifF (tgt := 22) (by decide) (dk_X6_foundling 16 _ rfl) (fun z => z (jI_eq (by decide : (0 : Int32).toInt = 0) (by decide : (0 : Int32).toInt = 0) (by omega))) ?_
            refine J_ldc (v := (-10000002)) ct_6_178 (dk_X6_foundling 19 _ rfl) ?_
            exact J_iret rfl rfl (dk_X6_foundling 21 _ rfl) ⟨rfl, rfl⟩
          · refine jCt_of ok_X7_foundling (fun _ _ => Nat.le_of_ble_eq_true rfl) (fun _ _ hq => Nat.le_of_eq (lM.trans hq.2.symm)) ?_
            show J _ _ _ _ _ _ _ _ [(0, .ref 0), (1, .int d), (2, .int 1)] _ _ _
            refine J_aload_n (i := 0) (a := 0) rfl rfl (dk_X7_foundling 0 _ rfl) ?_
            refine J_iload_n (i := 2) (a := 2) rfl rfl (dk_X7_foundling 1 _ rfl) ?_
            refine J_iconst (v := 0) (by decide) (dk_X7_foundling 2 _ rfl) ?_
            refine J_iconst (v := 1) (by decide) (dk_X7_foundling 3 _ rfl) ?_
            refine J_cV (rv := some (.int 1)) (h' := hM0) (d' := 11) (As := [.int 1, .int 0, .int 1]) ok_X7_in vi_X7_in cl_7_194 (n := 3) (by decide +kernel) rfl rfl rfl rfl (by decide) (by decide) (dk_X7_foundling 4 _ rfl) ?_ ?_
            · refine jCt_of ok_X7_in (fun _ _ => Nat.le_of_ble_eq_true rfl) (fun _ _ hq => by rw [hq.2]; first | exact Nat.le_refl _ | simp) ?_
              show J _ _ _ _ _ _ _ _ [(0, .ref 0), (1, .int 1), (2, .int 0), (3, .int 1)] _ _ _
              refine J_iload_n (i := 1) (a := 1) rfl rfl (dk_X7_in 0 _ rfl) ?_
              refine J_iload_n (i := 2) (a := 2) rfl rfl (dk_X7_in 1 _ rfl) ?_
              refine J_icF (tgt := 14) (by decide) (dk_X7_in 2 _ rfl) (jI_nlt (by decide : (1 : Int32).toInt = 1) (by decide : (0 : Int32).toInt = 0) (by omega)) ?_
              refine J_iload_n (i := 1) (a := 1) rfl rfl (dk_X7_in 5 _ rfl) ?_
              refine J_iload_n (i := 3) (a := 3) rfl rfl (dk_X7_in 6 _ rfl) ?_
              refine J_icF (tgt := 14) (by decide) (dk_X7_in 7 _ rfl) (jI_nlt (by decide : (1 : Int32).toInt = 1) (by decide : (1 : Int32).toInt = 1) (by omega)) ?_
              refine J_iconst (v := 1) (by decide) (dk_X7_in 10 _ rfl) ?_
              refine J_goto (tgt := 15) (by decide) (dk_X7_in 11 _ rfl) ?_
              exact J_iret rfl rfl (dk_X7_in 15 _ rfl) ⟨rfl, rfl⟩
            show J _ _ _ _ _ _ _ _ _ [.int 1] _ _
            refine J_ifT (tgt := 14) (by decide) (dk_X7_foundling 7 _ rfl) (jI_ne (by decide : (1 : Int32).toInt = 1) (by decide : (0 : Int32).toInt = 0) (by omega)) ?_
            refine J_aload_n (i := 0) (a := 0) rfl rfl (dk_X7_foundling 14 _ rfl) ?_
            refine J_iload_n (i := 1) (a := 1) rfl rfl (dk_X7_foundling 15 _ rfl) ?_
            refine J_cV (rv := some (.int 0)) (h' := hM0) (d' := 11) (As := [.int d]) ok_X7_isDay vi_X7_isDay cl_7_198 (n := 1) (by decide +kernel) rfl rfl rfl rfl (by decide) (by decide) (dk_X7_foundling 16 _ rfl) ?_ ?_
            · refine jCt_of ok_X7_isDay (fun _ _ => Nat.le_of_ble_eq_true rfl) (fun _ _ hq => by rw [hq.2]; first | exact Nat.le_refl _ | simp) ?_
              show J _ _ _ _ _ _ _ _ [(0, .ref 0), (1, .int d)] _ _ _
              refine J_aload_n (i := 0) (a := 0) rfl rfl (dk_X7_isDay 0 _ rfl) ?_
              refine J_iload_n (i := 1) (a := 1) rfl rfl (dk_X7_isDay 1 _ rfl) ?_
              refine J_iconst (v := 0) (by decide) (dk_X7_isDay 2 _ rfl) ?_
              refine J_bipush (v := 11) (by decide) (dk_X7_isDay 3 _ rfl) ?_
              refine J_cV (rv := some (.int 0)) (h' := hM0) (d' := 10) (As := [.int d, .int 0, .int 11]) ok_X7_in vi_X7_in cl_7_194 (n := 3) (by decide +kernel) rfl rfl rfl rfl (by decide) (by decide) (dk_X7_isDay 5 _ rfl) ?_ ?_
              · refine jCt_of ok_X7_in (fun _ _ => Nat.le_of_ble_eq_true rfl) (fun _ _ hq => by rw [hq.2]; first | exact Nat.le_refl _ | simp) ?_
                show J _ _ _ _ _ _ _ _ [(0, .ref 0), (1, .int d), (2, .int 0), (3, .int 11)] _ _ _
                refine J_iload_n (i := 1) (a := 1) rfl rfl (dk_X7_in 0 _ rfl) ?_
                refine J_iload_n (i := 2) (a := 2) rfl rfl (dk_X7_in 1 _ rfl) ?_
                refine J_icT (tgt := 14) (by decide) (dk_X7_in 2 _ rfl) (jI_lt (rfl : (d : Int32).toInt = (d : Int32).toInt) (by decide : (0 : Int32).toInt = 0) (by omega)) ?_
                refine J_iconst (v := 0) (by decide) (dk_X7_in 14 _ rfl) ?_
                exact J_iret rfl rfl (dk_X7_in 15 _ rfl) ⟨rfl, rfl⟩
              show J _ _ _ _ _ _ _ _ _ [.int 0] _ _
              exact J_iret rfl rfl (dk_X7_isDay 8 _ rfl) ⟨rfl, rfl⟩
            show J _ _ _ _ _ _ _ _ _ [.int 0] _ _
            refine J_ifF (tgt := 26) (by decide) (dk_X7_foundling 19 _ rfl) (fun z => z (jI_eq (by decide : (0 : Int32).toInt = 0) (by decide : (0 : Int32).toInt = 0) (by omega))) ?_
            refine J_ldcw (v := (-10000002)) ct_7_313 (dk_X7_foundling 22 _ rfl) ?_
            exact J_iret rfl rfl (dk_X7_foundling 25 _ rfl) ⟨rfl, rfl⟩
        · by_cases c20 : (d : Int32).toInt < 12
          · by_cases c21 : (d : Int32).toInt = 0
            · obtain rfl : d = 0 := jI_eq rfl (by decide) c21
              refine ⟨100, ?_, ?_⟩
              · refine jCt_of ok_X6_foundling (fun _ _ => Nat.le_of_ble_eq_true rfl) (fun _ _ hq => Nat.le_of_eq (lX.trans hq.2.symm)) ?_
                show J _ _ _ _ _ _ _ _ [(0, .ref 0), (1, .int 0), (2, .int 1)] _ _ _
                refine J_iload_n (i := 2) (a := 2) rfl rfl (dk_X6_foundling 0 _ rfl) ?_
                refine J_ifF (tgt := 9) (by decide) (dk_X6_foundling 1 _ rfl) (jI_nlt (by decide : (1 : Int32).toInt = 1) (by decide : (0 : Int32).toInt = 0) (by omega)) ?_
                refine J_iload_n (i := 2) (a := 2) rfl rfl (dk_X6_foundling 4 _ rfl) ?_
                refine J_iconst (v := 1) (by decide) (dk_X6_foundling 5 _ rfl) ?_
                refine J_icT (tgt := 12) (by decide) (dk_X6_foundling 6 _ rfl) (jI_le (by decide : (1 : Int32).toInt = 1) (by decide : (1 : Int32).toInt = 1) (by omega)) ?_
                refine J_iload_n (i := 1) (a := 1) rfl rfl (dk_X6_foundling 12 _ rfl) ?_
                refine J_cS (rv := some (.int 1)) (h' := hN0) (d' := 11) (As := [.int 0]) ok_X6_isDay st_X6_isDay cl_6_67 rfl (n := 1) (by decide +kernel) rfl (by decide) (by decide) (dk_X6_foundling 13 _ rfl) ?_ ?_
                · refine jCt_of ok_X6_isDay (fun _ _ => Nat.le_of_ble_eq_true rfl) (fun _ _ hq => by rw [hq.2]; first | exact Nat.le_refl _ | simp) ?_
                  show J _ _ _ _ _ _ _ _ [(0, .int 0)] _ _ _
                  refine J_iload_n (i := 0) (a := 0) rfl rfl (dk_X6_isDay 0 _ rfl) ?_
                  refine J_ifF (tgt := 14) (by decide) (dk_X6_isDay 1 _ rfl) (jI_nlt (by decide : (0 : Int32).toInt = 0) (by decide : (0 : Int32).toInt = 0) (by omega)) ?_
                  refine J_iload_n (i := 0) (a := 0) rfl rfl (dk_X6_isDay 4 _ rfl) ?_
                  refine J_bipush (v := 12) (by decide) (dk_X6_isDay 5 _ rfl) ?_
                  refine J_icF (tgt := 14) (by decide) (dk_X6_isDay 7 _ rfl) (jI_nle (by decide : (12 : Int32).toInt = 12) (by decide : (0 : Int32).toInt = 0) (by omega)) ?_
                  refine J_iconst (v := 1) (by decide) (dk_X6_isDay 10 _ rfl) ?_
                  refine J_goto (tgt := 15) (by decide) (dk_X6_isDay 11 _ rfl) ?_
                  exact J_iret rfl rfl (dk_X6_isDay 15 _ rfl) ⟨rfl, rfl⟩
                show J _ _ _ _ _ _ _ _ _ [.int 1] _ _
                refine J_ifT (tgt := 22) (by decide) (dk_X6_foundling 16 _ rfl) (jI_ne (by decide : (1 : Int32).toInt = 1) (by decide : (0 : Int32).toInt = 0) (by omega)) ?_
                refine J_aload_n (i := 0) (a := 0) rfl rfl (dk_X6_foundling 22 _ rfl) ?_
                refine J_getf fl_6_47 rfl rfl (dk_X6_foundling 23 _ rfl) ?_
                refine J_getf fl_6_71 rfl rfl (dk_X6_foundling 26 _ rfl) ?_
                refine J_bipush (v := 7) (by decide) (dk_X6_foundling 29 _ rfl) ?_
                refine J_icT (tgt := 37) (by decide) (dk_X6_foundling 31 _ rfl) (jI_lt (by decide : (0 : Int32).toInt = 0) (by decide : (7 : Int32).toInt = 7) (by omega)) ?_
                refine J_aload_n (i := 0) (a := 0) rfl rfl (dk_X6_foundling 37 _ rfl) ?_
                refine J_getf fl_6_54 rfl rfl (dk_X6_foundling 38 _ rfl) ?_
                refine J_aload_n (i := 0) (a := 0) rfl rfl (dk_X6_foundling 41 _ rfl) ?_
                refine J_getf fl_6_47 rfl rfl (dk_X6_foundling 42 _ rfl) ?_
                refine J_cV (rv := none) (h' := hN0) (d' := 11) (As := [.ref 14]) ok_X2_copy vi_X2_copy cl_6_185 (n := 1) (by decide +kernel) rfl rfl rfl rfl (by decide) (by decide) (dk_X6_foundling 45 _ rfl) (jev_ct (M := m_X2_copy) rfl rc6_0) ?_
                show J _ _ _ _ _ _ _ _ _ [] _ _
                refine J_aload_n (i := 0) (a := 0) rfl rfl (dk_X6_foundling 48 _ rfl) ?_
                refine J_getf fl_6_54 rfl rfl (dk_X6_foundling 49 _ rfl) ?_
                refine J_iconst (v := 0) (by decide) (dk_X6_foundling 52 _ rfl) ?_
                refine J_iconst (v := 0) (by decide) (dk_X6_foundling 53 _ rfl) ?_
                refine J_iconst (v := 0) (by decide) (dk_X6_foundling 54 _ rfl) ?_
                refine J_iload_n (i := 1) (a := 1) rfl rfl (dk_X6_foundling 55 _ rfl) ?_
                refine J_cV (rv := none) (h' := hC6_7) (d' := 11) (As := [.int 0, .int 0, .int 0, .int 0]) ok_X2_add vi_X2_add cl_6_75 (n := 4) (by decide +kernel) rfl rfl rfl rfl (by decide) (by decide) (dk_X6_foundling 56 _ rfl) (jev_ct (M := m_X2_add) rfl rc6_7) ?_
                show J _ _ _ _ _ _ _ _ _ [] _ _
                refine J_aload_n (i := 0) (a := 0) rfl rfl (dk_X6_foundling 59 _ rfl) ?_
                refine J_aload_n (i := 0) (a := 0) rfl rfl (dk_X6_foundling 60 _ rfl) ?_
                refine J_getf fl_6_54 rfl rfl (dk_X6_foundling 61 _ rfl) ?_
                refine J_getf fl_6_103 rfl rfl (dk_X6_foundling 64 _ rfl) ?_
                refine J_aload_n (i := 0) (a := 0) rfl rfl (dk_X6_foundling 67 _ rfl) ?_
                refine J_getf fl_6_54 rfl rfl (dk_X6_foundling 68 _ rfl) ?_
                refine J_getf fl_6_71 rfl rfl (dk_X6_foundling 71 _ rfl) ?_
                refine J_iconst (v := 1) (by decide) (dk_X6_foundling 74 _ rfl) ?_
                refine J_isubC (v := 0) (by decide) (dk_X6_foundling 75 _ rfl) ?_
                refine J_iload_n (i := 2) (a := 2) rfl rfl (dk_X6_foundling 76 _ rfl) ?_
                refine J_cV (rv := some (.int 100)) (h' := hC6_8) (d' := 11) (As := [.ref 35, .int 0, .int 1]) ok_X6_bestOf vi_X6_bestOf cl_6_188 (n := 3) (by decide +kernel) rfl rfl rfl rfl (by decide) (by decide) (dk_X6_foundling 77 _ rfl) ?_ ?_
                · refine jCt_of ok_X6_bestOf (fun _ _ => Nat.le_of_ble_eq_true rfl) (fun _ _ hq => by rw [hq.2]; first | exact Nat.le_refl _ | simp) ?_
                  show J _ _ _ _ _ _ _ _ [(0, .ref 0), (1, .ref 35), (2, .int 0), (3, .int 1)] _ _ _
                  refine J_aload_n (i := 0) (a := 0) rfl rfl (dk_X6_bestOf 0 _ rfl) ?_
                  refine J_aload_n (i := 1) (a := 1) rfl rfl (dk_X6_bestOf 1 _ rfl) ?_
                  refine J_iload_n (i := 2) (a := 2) rfl rfl (dk_X6_bestOf 2 _ rfl) ?_
                  refine J_aload_n (i := 0) (a := 0) rfl rfl (dk_X6_bestOf 3 _ rfl) ?_
                  refine J_getf fl_6_54 rfl rfl (dk_X6_bestOf 4 _ rfl) ?_
                  refine J_getf fl_6_83 rfl rfl (dk_X6_bestOf 7 _ rfl) ?_
                  refine J_getf fl_6_87 rfl rfl (dk_X6_bestOf 10 _ rfl) ?_
                  refine J_cV (rv := none) (h' := hC6_8) (d' := 10) (As := [.ref 35, .int 0, .int 10]) ok_X6_tryDays vi_X6_tryDays cl_6_192 (n := 3) (by decide +kernel) rfl rfl rfl rfl (by decide) (by decide) (dk_X6_bestOf 13 _ rfl) (jev_ct (M := m_X6_tryDays) rfl rc6_8) ?_
                  show J _ _ _ _ _ _ _ _ _ [] _ _
                  refine J_aload_n (i := 0) (a := 0) rfl rfl (dk_X6_bestOf 16 _ rfl) ?_
                  refine J_cV (rv := some (.int 0)) (h' := hC6_8) (d' := 10) (As := []) ok_X6_firstMost vi_X6_firstMost cl_6_269 (n := 0) (by decide +kernel) rfl rfl rfl rfl (by decide) (by decide) (dk_X6_bestOf 17 _ rfl) (jev_ct (M := m_X6_firstMost) rfl rc6_9) ?_
                  show J _ _ _ _ _ _ _ _ _ [.int 0] _ _
                  refine J_istore (i := 4) (by decide) (dk_X6_bestOf 20 _ rfl) ?_
                  show J _ _ _ _ _ _ _ _ [(4, .int 0), (0, .ref 0), (1, .ref 35), (2, .int 0), (3, .int 1)] _ _ _
                  refine J_iload_n (i := 3) (a := 3) rfl rfl (dk_X6_bestOf 22 _ rfl) ?_
                  refine J_ifT (tgt := 31) (by decide) (dk_X6_bestOf 23 _ rfl) (jI_ne (by decide : (1 : Int32).toInt = 1) (by decide : (0 : Int32).toInt = 0) (by omega)) ?_
                  refine J_aload_n (i := 0) (a := 0) rfl rfl (dk_X6_bestOf 31 _ rfl) ?_
                  refine J_getf fl_6_11 rfl rfl (dk_X6_bestOf 32 _ rfl) ?_
                  refine J_iload (i := 4) rfl (dk_X6_bestOf 35 _ rfl) ?_
                  refine J_iald rfl (by decide) rfl (dk_X6_bestOf 37 _ rfl) ?_
                  exact J_iret rfl rfl (dk_X6_bestOf 38 _ rfl) ⟨rfl, rfl⟩
                show J _ _ _ _ _ _ _ _ _ [.int 100] _ _
                exact J_iret rfl rfl (dk_X6_foundling 80 _ rfl) ⟨rfl, rfl⟩
              · refine jCt_of ok_X7_foundling (fun _ _ => Nat.le_of_ble_eq_true rfl) (fun _ _ hq => Nat.le_of_eq (lM.trans hq.2.symm)) ?_
                show J _ _ _ _ _ _ _ _ [(0, .ref 0), (1, .int 0), (2, .int 1)] _ _ _
                refine J_aload_n (i := 0) (a := 0) rfl rfl (dk_X7_foundling 0 _ rfl) ?_
                refine J_iload_n (i := 2) (a := 2) rfl rfl (dk_X7_foundling 1 _ rfl) ?_
                refine J_iconst (v := 0) (by decide) (dk_X7_foundling 2 _ rfl) ?_
                refine J_iconst (v := 1) (by decide) (dk_X7_foundling 3 _ rfl) ?_
                refine J_cV (rv := some (.int 1)) (h' := hM0) (d' := 11) (As := [.int 1, .int 0, .int 1]) ok_X7_in vi_X7_in cl_7_194 (n := 3) (by decide +kernel) rfl rfl rfl rfl (by decide) (by decide) (dk_X7_foundling 4 _ rfl) ?_ ?_
                · refine jCt_of ok_X7_in (fun _ _ => Nat.le_of_ble_eq_true rfl) (fun _ _ hq => by rw [hq.2]; first | exact Nat.le_refl _ | simp) ?_
                  show J _ _ _ _ _ _ _ _ [(0, .ref 0), (1, .int 1), (2, .int 0), (3, .int 1)] _ _ _
                  refine J_iload_n (i := 1) (a := 1) rfl rfl (dk_X7_in 0 _ rfl) ?_
                  refine J_iload_n (i := 2) (a := 2) rfl rfl (dk_X7_in 1 _ rfl) ?_
                  refine J_icF (tgt := 14) (by decide) (dk_X7_in 2 _ rfl) (jI_nlt (by decide : (1 : Int32).toInt = 1) (by decide : (0 : Int32).toInt = 0) (by omega)) ?_
                  refine J_iload_n (i := 1) (a := 1) rfl rfl (dk_X7_in 5 _ rfl) ?_
                  refine J_iload_n (i := 3) (a := 3) rfl rfl (dk_X7_in 6 _ rfl) ?_
                  refine J_icF (tgt := 14) (by decide) (dk_X7_in 7 _ rfl) (jI_nlt (by decide : (1 : Int32).toInt = 1) (by decide : (1 : Int32).toInt = 1) (by omega)) ?_
                  refine J_iconst (v := 1) (by decide) (dk_X7_in 10 _ rfl) ?_
                  refine J_goto (tgt := 15) (by decide) (dk_X7_in 11 _ rfl) ?_
                  exact J_iret rfl rfl (dk_X7_in 15 _ rfl) ⟨rfl, rfl⟩
                show J _ _ _ _ _ _ _ _ _ [.int 1] _ _
                refine J_ifT (tgt := 14) (by decide) (dk_X7_foundling 7 _ rfl) (jI_ne (by decide : (1 : Int32).toInt = 1) (by decide : (0 : Int32).toInt = 0) (by omega)) ?_
                refine J_aload_n (i := 0) (a := 0) rfl rfl (dk_X7_foundling 14 _ rfl) ?_
                refine J_iload_n (i := 1) (a := 1) rfl rfl (dk_X7_foundling 15 _ rfl) ?_
                refine J_cV (rv := some (.int 1)) (h' := hM0) (d' := 11) (As := [.int 0]) ok_X7_isDay vi_X7_isDay cl_7_198 (n := 1) (by decide +kernel) rfl rfl rfl rfl (by decide) (by decide) (dk_X7_foundling 16 _ rfl) ?_ ?_
                · refine jCt_of ok_X7_isDay (fun _ _ => Nat.le_of_ble_eq_true rfl) (fun _ _ hq => by rw [hq.2]; first | exact Nat.le_refl _ | simp) ?_
                  show J _ _ _ _ _ _ _ _ [(0, .ref 0), (1, .int 0)] _ _ _
                  refine J_aload_n (i := 0) (a := 0) rfl rfl (dk_X7_isDay 0 _ rfl) ?_
                  refine J_iload_n (i := 1) (a := 1) rfl rfl (dk_X7_isDay 1 _ rfl) ?_
                  refine J_iconst (v := 0) (by decide) (dk_X7_isDay 2 _ rfl) ?_
                  refine J_bipush (v := 11) (by decide) (dk_X7_isDay 3 _ rfl) ?_
                  refine J_cV (rv := some (.int 1)) (h' := hM0) (d' := 10) (As := [.int 0, .int 0, .int 11]) ok_X7_in vi_X7_in cl_7_194 (n := 3) (by decide +kernel) rfl rfl rfl rfl (by decide) (by decide) (dk_X7_isDay 5 _ rfl) ?_ ?_
                  · refine jCt_of ok_X7_in (fun _ _ => Nat.le_of_ble_eq_true rfl) (fun _ _ hq => by rw [hq.2]; first | exact Nat.le_refl _ | simp) ?_
                    show J _ _ _ _ _ _ _ _ [(0, .ref 0), (1, .int 0), (2, .int 0), (3, .int 11)] _ _ _
                    refine J_iload_n (i := 1) (a := 1) rfl rfl (dk_X7_in 0 _ rfl) ?_
                    refine J_iload_n (i := 2) (a := 2) rfl rfl (dk_X7_in 1 _ rfl) ?_
                    refine J_icF (tgt := 14) (by decide) (dk_X7_in 2 _ rfl) (jI_nlt (by decide : (0 : Int32).toInt = 0) (by decide : (0 : Int32).toInt = 0) (by omega)) ?_
                    refine J_iload_n (i := 1) (a := 1) rfl rfl (dk_X7_in 5 _ rfl) ?_
                    refine J_iload_n (i := 3) (a := 3) rfl rfl (dk_X7_in 6 _ rfl) ?_
                    refine J_icF (tgt := 14) (by decide) (dk_X7_in 7 _ rfl) (jI_nlt (by decide : (11 : Int32).toInt = 11) (by decide : (0 : Int32).toInt = 0) (by omega)) ?_
                    refine J_iconst (v := 1) (by decide) (dk_X7_in 10 _ rfl) ?_
                    refine J_goto (tgt := 15) (by decide) (dk_X7_in 11 _ rfl) ?_
                    exact J_iret rfl rfl (dk_X7_in 15 _ rfl) ⟨rfl, rfl⟩
                  show J _ _ _ _ _ _ _ _ _ [.int 1] _ _
                  exact J_iret rfl rfl (dk_X7_isDay 8 _ rfl) ⟨rfl, rfl⟩
                show J _ _ _ _ _ _ _ _ _ [.int 1] _ _
                refine J_ifT (tgt := 26) (by decide) (dk_X7_foundling 19 _ rfl) (jI_ne (by decide : (1 : Int32).toInt = 1) (by decide : (0 : Int32).toInt = 0) (by omega)) ?_
                refine J_aload_n (i := 0) (a := 0) rfl rfl (dk_X7_foundling 26 _ rfl) ?_
                refine J_getf fl_7_7 rfl rfl (dk_X7_foundling 27 _ rfl) ?_
                refine J_bipush (v := 7) (by decide) (dk_X7_foundling 30 _ rfl) ?_
                refine J_icT (tgt := 38) (by decide) (dk_X7_foundling 32 _ rfl) (jI_ne (by decide : (0 : Int32).toInt = 0) (by decide : (7 : Int32).toInt = 7) (by omega)) ?_
                refine J_aload_n (i := 0) (a := 0) rfl rfl (dk_X7_foundling 38 _ rfl) ?_
                refine J_aload_n (i := 0) (a := 0) rfl rfl (dk_X7_foundling 39 _ rfl) ?_
                refine J_getf fl_7_7 rfl rfl (dk_X7_foundling 40 _ rfl) ?_
                refine J_iconst (v := 0) (by decide) (dk_X7_foundling 43 _ rfl) ?_
                refine J_iconst (v := 0) (by decide) (dk_X7_foundling 44 _ rfl) ?_
                refine J_iconst (v := 0) (by decide) (dk_X7_foundling 45 _ rfl) ?_
                refine J_iload_n (i := 1) (a := 1) rfl rfl (dk_X7_foundling 46 _ rfl) ?_
                refine J_cV (rv := none) (h' := hC7_10) (d' := 11) (As := [.int 0, .int 0, .int 0, .int 0, .int 0]) ok_X7_lay vi_X7_lay cl_7_202 (n := 5) (by decide +kernel) rfl rfl rfl rfl (by decide) (by decide) (dk_X7_foundling 47 _ rfl) (jev_ct (M := m_X7_lay) rfl rc7_10) ?_
                show J _ _ _ _ _ _ _ _ _ [] _ _
                refine J_aload_n (i := 0) (a := 0) rfl rfl (dk_X7_foundling 50 _ rfl) ?_
                refine J_dup rfl (dk_X7_foundling 51 _ rfl) ?_
                refine J_getf fl_7_7 rfl rfl (dk_X7_foundling 52 _ rfl) ?_
                refine J_iconst (v := 1) (by decide) (dk_X7_foundling 55 _ rfl) ?_
                refine J_iaddC (v := 1) (by decide) (dk_X7_foundling 56 _ rfl) ?_
                refine J_putf fl_7_7 rfl (fun q hq => by cases hq; rfl) trivial (Nat.le_of_ble_eq_true rfl) (dk_X7_foundling 57 _ rfl) ?_
                refine J_aload_n (i := 0) (a := 0) rfl rfl (dk_X7_foundling 60 _ rfl) ?_
                refine J_aload_n (i := 0) (a := 0) rfl rfl (dk_X7_foundling 61 _ rfl) ?_
                refine J_getf fl_7_7 rfl rfl (dk_X7_foundling 62 _ rfl) ?_
                refine J_iconst (v := 1) (by decide) (dk_X7_foundling 65 _ rfl) ?_
                refine J_isubC (v := 0) (by decide) (dk_X7_foundling 66 _ rfl) ?_
                refine J_iconst (v := 1) (by decide) (dk_X7_foundling 67 _ rfl) ?_
                refine J_cV (rv := none) (h' := hC7_11) (d' := 11) (As := [.int 0, .int 1]) ok_X7_layBest vi_X7_layBest cl_7_326 (n := 2) (by decide +kernel) rfl rfl rfl rfl (by decide) (by decide) (dk_X7_foundling 68 _ rfl) (jev_ct (M := m_X7_layBest) rfl rc7_11) ?_
                show J _ _ _ _ _ _ _ _ _ [] _ _
                refine J_aload_n (i := 0) (a := 0) rfl rfl (dk_X7_foundling 71 _ rfl) ?_
                refine J_dup rfl (dk_X7_foundling 72 _ rfl) ?_
                refine J_getf fl_7_7 rfl rfl (dk_X7_foundling 73 _ rfl) ?_
                refine J_iconst (v := 1) (by decide) (dk_X7_foundling 76 _ rfl) ?_
                refine J_isubC (v := 0) (by decide) (dk_X7_foundling 77 _ rfl) ?_
                refine J_putf fl_7_7 rfl (fun q hq => by cases hq; rfl) trivial (Nat.le_of_ble_eq_true rfl) (dk_X7_foundling 78 _ rfl) ?_
                refine J_iload_n (i := 2) (a := 2) rfl rfl (dk_X7_foundling 81 _ rfl) ?_
                refine J_ifT (tgt := 92) (by decide) (dk_X7_foundling 82 _ rfl) (jI_ne (by decide : (1 : Int32).toInt = 1) (by decide : (0 : Int32).toInt = 0) (by omega)) ?_
                refine J_aload_n (i := 0) (a := 0) rfl rfl (dk_X7_foundling 92 _ rfl) ?_
                refine J_getf fl_7_117 rfl rfl (dk_X7_foundling 93 _ rfl) ?_
                exact J_iret rfl rfl (dk_X7_foundling 96 _ rfl) ⟨rfl, rfl⟩
            · by_cases c22 : (d : Int32).toInt = 1
              · obtain rfl : d = 1 := jI_eq rfl (by decide) c22
                refine ⟨100, ?_, ?_⟩
                · refine jCt_of ok_X6_foundling (fun _ _ => Nat.le_of_ble_eq_true rfl) (fun _ _ hq => Nat.le_of_eq (lX.trans hq.2.symm)) ?_
                  show J _ _ _ _ _ _ _ _ [(0, .ref 0), (1, .int 1), (2, .int 1)] _ _ _
                  refine J_iload_n (i := 2) (a := 2) rfl rfl (dk_X6_foundling 0 _ rfl) ?_
                  refine J_ifF (tgt := 9) (by decide) (dk_X6_foundling 1 _ rfl) (jI_nlt (by decide : (1 : Int32).toInt = 1) (by decide : (0 : Int32).toInt = 0) (by omega)) ?_
                  refine J_iload_n (i := 2) (a := 2) rfl rfl (dk_X6_foundling 4 _ rfl) ?_
                  refine J_iconst (v := 1) (by decide) (dk_X6_foundling 5 _ rfl) ?_
                  refine J_icT (tgt := 12) (by decide) (dk_X6_foundling 6 _ rfl) (jI_le (by decide : (1 : Int32).toInt = 1) (by decide : (1 : Int32).toInt = 1) (by omega)) ?_
                  refine J_iload_n (i := 1) (a := 1) rfl rfl (dk_X6_foundling 12 _ rfl) ?_
                  refine J_cS (rv := some (.int 1)) (h' := hN0) (d' := 11) (As := [.int 1]) ok_X6_isDay st_X6_isDay cl_6_67 rfl (n := 1) (by decide +kernel) rfl (by decide) (by decide) (dk_X6_foundling 13 _ rfl) ?_ ?_
                  · refine jCt_of ok_X6_isDay (fun _ _ => Nat.le_of_ble_eq_true rfl) (fun _ _ hq => by rw [hq.2]; first | exact Nat.le_refl _ | simp) ?_
                    show J _ _ _ _ _ _ _ _ [(0, .int 1)] _ _ _
                    refine J_iload_n (i := 0) (a := 0) rfl rfl (dk_X6_isDay 0 _ rfl) ?_
                    refine J_ifF (tgt := 14) (by decide) (dk_X6_isDay 1 _ rfl) (jI_nlt (by decide : (1 : Int32).toInt = 1) (by decide : (0 : Int32).toInt = 0) (by omega)) ?_
                    refine J_iload_n (i := 0) (a := 0) rfl rfl (dk_X6_isDay 4 _ rfl) ?_
                    refine J_bipush (v := 12) (by decide) (dk_X6_isDay 5 _ rfl) ?_
                    refine J_icF (tgt := 14) (by decide) (dk_X6_isDay 7 _ rfl) (jI_nle (by decide : (12 : Int32).toInt = 12) (by decide : (1 : Int32).toInt = 1) (by omega)) ?_
                    refine J_iconst (v := 1) (by decide) (dk_X6_isDay 10 _ rfl) ?_
                    refine J_goto (tgt := 15) (by decide) (dk_X6_isDay 11 _ rfl) ?_
                    exact J_iret rfl rfl (dk_X6_isDay 15 _ rfl) ⟨rfl, rfl⟩
                  show J _ _ _ _ _ _ _ _ _ [.int 1] _ _
                  refine J_ifT (tgt := 22) (by decide) (dk_X6_foundling 16 _ rfl) (jI_ne (by decide : (1 : Int32).toInt = 1) (by decide : (0 : Int32).toInt = 0) (by omega)) ?_
                  refine J_aload_n (i := 0) (a := 0) rfl rfl (dk_X6_foundling 22 _ rfl) ?_
                  refine J_getf fl_6_47 rfl rfl (dk_X6_foundling 23 _ rfl) ?_
                  refine J_getf fl_6_71 rfl rfl (dk_X6_foundling 26 _ rfl) ?_
                  refine J_bipush (v := 7) (by decide) (dk_X6_foundling 29 _ rfl) ?_
                  refine J_icT (tgt := 37) (by decide) (dk_X6_foundling 31 _ rfl) (jI_lt (by decide : (0 : Int32).toInt = 0) (by decide : (7 : Int32).toInt = 7) (by omega)) ?_
                  refine J_aload_n (i := 0) (a := 0) rfl rfl (dk_X6_foundling 37 _ rfl) ?_
                  refine J_getf fl_6_54 rfl rfl (dk_X6_foundling 38 _ rfl) ?_
                  refine J_aload_n (i := 0) (a := 0) rfl rfl (dk_X6_foundling 41 _ rfl) ?_
                  refine J_getf fl_6_47 rfl rfl (dk_X6_foundling 42 _ rfl) ?_
                  refine J_cV (rv := none) (h' := hN0) (d' := 11) (As := [.ref 14]) ok_X2_copy vi_X2_copy cl_6_185 (n := 1) (by decide +kernel) rfl rfl rfl rfl (by decide) (by decide) (dk_X6_foundling 45 _ rfl) (jev_ct (M := m_X2_copy) rfl rc6_0) ?_
                  show J _ _ _ _ _ _ _ _ _ [] _ _
                  refine J_aload_n (i := 0) (a := 0) rfl rfl (dk_X6_foundling 48 _ rfl) ?_
                  refine J_getf fl_6_54 rfl rfl (dk_X6_foundling 49 _ rfl) ?_
                  refine J_iconst (v := 0) (by decide) (dk_X6_foundling 52 _ rfl) ?_
                  refine J_iconst (v := 0) (by decide) (dk_X6_foundling 53 _ rfl) ?_
                  refine J_iconst (v := 0) (by decide) (dk_X6_foundling 54 _ rfl) ?_
                  refine J_iload_n (i := 1) (a := 1) rfl rfl (dk_X6_foundling 55 _ rfl) ?_
                  refine J_cV (rv := none) (h' := hC6_13) (d' := 11) (As := [.int 0, .int 0, .int 0, .int 1]) ok_X2_add vi_X2_add cl_6_75 (n := 4) (by decide +kernel) rfl rfl rfl rfl (by decide) (by decide) (dk_X6_foundling 56 _ rfl) (jev_ct (M := m_X2_add) rfl rc6_13) ?_
                  show J _ _ _ _ _ _ _ _ _ [] _ _
                  refine J_aload_n (i := 0) (a := 0) rfl rfl (dk_X6_foundling 59 _ rfl) ?_
                  refine J_aload_n (i := 0) (a := 0) rfl rfl (dk_X6_foundling 60 _ rfl) ?_
                  refine J_getf fl_6_54 rfl rfl (dk_X6_foundling 61 _ rfl) ?_
                  refine J_getf fl_6_103 rfl rfl (dk_X6_foundling 64 _ rfl) ?_
                  refine J_aload_n (i := 0) (a := 0) rfl rfl (dk_X6_foundling 67 _ rfl) ?_
                  refine J_getf fl_6_54 rfl rfl (dk_X6_foundling 68 _ rfl) ?_
                  refine J_getf fl_6_71 rfl rfl (dk_X6_foundling 71 _ rfl) ?_
                  refine J_iconst (v := 1) (by decide) (dk_X6_foundling 74 _ rfl) ?_
                  refine J_isubC (v := 0) (by decide) (dk_X6_foundling 75 _ rfl) ?_
                  refine J_iload_n (i := 2) (a := 2) rfl rfl (dk_X6_foundling 76 _ rfl) ?_
                  refine J_cV (rv := some (.int 100)) (h' := hC6_14) (d' := 11) (As := [.ref 35, .int 0, .int 1]) ok_X6_bestOf vi_X6_bestOf cl_6_188 (n := 3) (by decide +kernel) rfl rfl rfl rfl (by decide) (by decide) (dk_X6_foundling 77 _ rfl) ?_ ?_
                  · refine jCt_of ok_X6_bestOf (fun _ _ => Nat.le_of_ble_eq_true rfl) (fun _ _ hq => by rw [hq.2]; first | exact Nat.le_refl _ | simp) ?_
                    show J _ _ _ _ _ _ _ _ [(0, .ref 0), (1, .ref 35), (2, .int 0), (3, .int 1)] _ _ _
                    refine J_aload_n (i := 0) (a := 0) rfl rfl (dk_X6_bestOf 0 _ rfl) ?_
                    refine J_aload_n (i := 1) (a := 1) rfl rfl (dk_X6_bestOf 1 _ rfl) ?_
                    refine J_iload_n (i := 2) (a := 2) rfl rfl (dk_X6_bestOf 2 _ rfl) ?_
                    refine J_aload_n (i := 0) (a := 0) rfl rfl (dk_X6_bestOf 3 _ rfl) ?_
                    refine J_getf fl_6_54 rfl rfl (dk_X6_bestOf 4 _ rfl) ?_
                    refine J_getf fl_6_83 rfl rfl (dk_X6_bestOf 7 _ rfl) ?_
                    refine J_getf fl_6_87 rfl rfl (dk_X6_bestOf 10 _ rfl) ?_
                    refine J_cV (rv := none) (h' := hC6_14) (d' := 10) (As := [.ref 35, .int 0, .int 10]) ok_X6_tryDays vi_X6_tryDays cl_6_192 (n := 3) (by decide +kernel) rfl rfl rfl rfl (by decide) (by decide) (dk_X6_bestOf 13 _ rfl) (jev_ct (M := m_X6_tryDays) rfl rc6_14) ?_
                    show J _ _ _ _ _ _ _ _ _ [] _ _
                    refine J_aload_n (i := 0) (a := 0) rfl rfl (dk_X6_bestOf 16 _ rfl) ?_
                    refine J_cV (rv := some (.int 0)) (h' := hC6_14) (d' := 10) (As := []) ok_X6_firstMost vi_X6_firstMost cl_6_269 (n := 0) (by decide +kernel) rfl rfl rfl rfl (by decide) (by decide) (dk_X6_bestOf 17 _ rfl) (jev_ct (M := m_X6_firstMost) rfl rc6_15) ?_
                    show J _ _ _ _ _ _ _ _ _ [.int 0] _ _
                    refine J_istore (i := 4) (by decide) (dk_X6_bestOf 20 _ rfl) ?_
                    show J _ _ _ _ _ _ _ _ [(4, .int 0), (0, .ref 0), (1, .ref 35), (2, .int 0), (3, .int 1)] _ _ _
                    refine J_iload_n (i := 3) (a := 3) rfl rfl (dk_X6_bestOf 22 _ rfl) ?_
                    refine J_ifT (tgt := 31) (by decide) (dk_X6_bestOf 23 _ rfl) (jI_ne (by decide : (1 : Int32).toInt = 1) (by decide : (0 : Int32).toInt = 0) (by omega)) ?_
                    refine J_aload_n (i := 0) (a := 0) rfl rfl (dk_X6_bestOf 31 _ rfl) ?_
                    refine J_getf fl_6_11 rfl rfl (dk_X6_bestOf 32 _ rfl) ?_
                    refine J_iload (i := 4) rfl (dk_X6_bestOf 35 _ rfl) ?_
                    refine J_iald rfl (by decide) rfl (dk_X6_bestOf 37 _ rfl) ?_
                    exact J_iret rfl rfl (dk_X6_bestOf 38 _ rfl) ⟨rfl, rfl⟩
                  show J _ _ _ _ _ _ _ _ _ [.int 100] _ _
                  exact J_iret rfl rfl (dk_X6_foundling 80 _ rfl) ⟨rfl, rfl⟩
                · refine jCt_of ok_X7_foundling (fun _ _ => Nat.le_of_ble_eq_true rfl) (fun _ _ hq => Nat.le_of_eq (lM.trans hq.2.symm)) ?_
                  show J _ _ _ _ _ _ _ _ [(0, .ref 0), (1, .int 1), (2, .int 1)] _ _ _
                  refine J_aload_n (i := 0) (a := 0) rfl rfl (dk_X7_foundling 0 _ rfl) ?_
                  refine J_iload_n (i := 2) (a := 2) rfl rfl (dk_X7_foundling 1 _ rfl) ?_
                  refine J_iconst (v := 0) (by decide) (dk_X7_foundling 2 _ rfl) ?_
                  refine J_iconst (v := 1) (by decide) (dk_X7_foundling 3 _ rfl) ?_
                  refine J_cV (rv := some (.int 1)) (h' := hM0) (d' := 11) (As := [.int 1, .int 0, .int 1]) ok_X7_in vi_X7_in cl_7_194 (n := 3) (by decide +kernel) rfl rfl rfl rfl (by decide) (by decide) (dk_X7_foundling 4 _ rfl) ?_ ?_
                  · refine jCt_of ok_X7_in (fun _ _ => Nat.le_of_ble_eq_true rfl) (fun _ _ hq => by rw [hq.2]; first | exact Nat.le_refl _ | simp) ?_
                    show J _ _ _ _ _ _ _ _ [(0, .ref 0), (1, .int 1), (2, .int 0), (3, .int 1)] _ _ _
                    refine J_iload_n (i := 1) (a := 1) rfl rfl (dk_X7_in 0 _ rfl) ?_
                    refine J_iload_n (i := 2) (a := 2) rfl rfl (dk_X7_in 1 _ rfl) ?_
                    refine J_icF (tgt := 14) (by decide) (dk_X7_in 2 _ rfl) (jI_nlt (by decide : (1 : Int32).toInt = 1) (by decide : (0 : Int32).toInt = 0) (by omega)) ?_
                    refine J_iload_n (i := 1) (a := 1) rfl rfl (dk_X7_in 5 _ rfl) ?_
                    refine J_iload_n (i := 3) (a := 3) rfl rfl (dk_X7_in 6 _ rfl) ?_
                    refine J_icF (tgt := 14) (by decide) (dk_X7_in 7 _ rfl) (jI_nlt (by decide : (1 : Int32).toInt = 1) (by decide : (1 : Int32).toInt = 1) (by omega)) ?_
                    refine J_iconst (v := 1) (by decide) (dk_X7_in 10 _ rfl) ?_
                    refine J_goto (tgt := 15) (by decide) (dk_X7_in 11 _ rfl) ?_
                    exact J_iret rfl rfl (dk_X7_in 15 _ rfl) ⟨rfl, rfl⟩
                  show J _ _ _ _ _ _ _ _ _ [.int 1] _ _
                  refine J_ifT (tgt := 14) (by decide) (dk_X7_foundling 7 _ rfl) (jI_ne (by decide : (1 : Int32).toInt = 1) (by decide : (0 : Int32).toInt = 0) (by omega)) ?_
                  refine J_aload_n (i := 0) (a := 0) rfl rfl (dk_X7_foundling 14 _ rfl) ?_
                  refine J_iload_n (i := 1) (a := 1) rfl rfl (dk_X7_foundling 15 _ rfl) ?_
                  refine J_cV (rv := some (.int 1)) (h' := hM0) (d' := 11) (As := [.int 1]) ok_X7_isDay vi_X7_isDay cl_7_198 (n := 1) (by decide +kernel) rfl rfl rfl rfl (by decide) (by decide) (dk_X7_foundling 16 _ rfl) ?_ ?_
                  · refine jCt_of ok_X7_isDay (fun _ _ => Nat.le_of_ble_eq_true rfl) (fun _ _ hq => by rw [hq.2]; first | exact Nat.le_refl _ | simp) ?_
                    show J _ _ _ _ _ _ _ _ [(0, .ref 0), (1, .int 1)] _ _ _
                    refine J_aload_n (i := 0) (a := 0) rfl rfl (dk_X7_isDay 0 _ rfl) ?_
                    refine J_iload_n (i := 1) (a := 1) rfl rfl (dk_X7_isDay 1 _ rfl) ?_
                    refine J_iconst (v := 0) (by decide) (dk_X7_isDay 2 _ rfl) ?_
                    refine J_bipush (v := 11) (by decide) (dk_X7_isDay 3 _ rfl) ?_
                    refine J_cV (rv := some (.int 1)) (h' := hM0) (d' := 10) (As := [.int 1, .int 0, .int 11]) ok_X7_in vi_X7_in cl_7_194 (n := 3) (by decide +kernel) rfl rfl rfl rfl (by decide) (by decide) (dk_X7_isDay 5 _ rfl) ?_ ?_
                    · refine jCt_of ok_X7_in (fun _ _ => Nat.le_of_ble_eq_true rfl) (fun _ _ hq => by rw [hq.2]; first | exact Nat.le_refl _ | simp) ?_
                      show J _ _ _ _ _ _ _ _ [(0, .ref 0), (1, .int 1), (2, .int 0), (3, .int 11)] _ _ _
                      refine J_iload_n (i := 1) (a := 1) rfl rfl (dk_X7_in 0 _ rfl) ?_
                      refine J_iload_n (i := 2) (a := 2) rfl rfl (dk_X7_in 1 _ rfl) ?_
                      refine J_icF (tgt := 14) (by decide) (dk_X7_in 2 _ rfl) (jI_nlt (by decide : (1 : Int32).toInt = 1) (by decide : (0 : Int32).toInt = 0) (by omega)) ?_
                      refine J_iload_n (i := 1) (a := 1) rfl rfl (dk_X7_in 5 _ rfl) ?_
                      refine J_iload_n (i := 3) (a := 3) rfl rfl (dk_X7_in 6 _ rfl) ?_
                      refine J_icF (tgt := 14) (by decide) (dk_X7_in 7 _ rfl) (jI_nlt (by decide : (11 : Int32).toInt = 11) (by decide : (1 : Int32).toInt = 1) (by omega)) ?_
                      refine J_iconst (v := 1) (by decide) (dk_X7_in 10 _ rfl) ?_
                      refine J_goto (tgt := 15) (by decide) (dk_X7_in 11 _ rfl) ?_
                      exact J_iret rfl rfl (dk_X7_in 15 _ rfl) ⟨rfl, rfl⟩
                    show J _ _ _ _ _ _ _ _ _ [.int 1] _ _
                    exact J_iret rfl rfl (dk_X7_isDay 8 _ rfl) ⟨rfl, rfl⟩
                  show J _ _ _ _ _ _ _ _ _ [.int 1] _ _
                  refine J_ifT (tgt := 26) (by decide) (dk_X7_foundling 19 _ rfl) (jI_ne (by decide : (1 : Int32).toInt = 1) (by decide : (0 : Int32).toInt = 0) (by omega)) ?_
                  refine J_aload_n (i := 0) (a := 0) rfl rfl (dk_X7_foundling 26 _ rfl) ?_
                  refine J_getf fl_7_7 rfl rfl (dk_X7_foundling 27 _ rfl) ?_
                  refine J_bipush (v := 7) (by decide) (dk_X7_foundling 30 _ rfl) ?_
                  refine J_icT (tgt := 38) (by decide) (dk_X7_foundling 32 _ rfl) (jI_ne (by decide : (0 : Int32).toInt = 0) (by decide : (7 : Int32).toInt = 7) (by omega)) ?_
                  refine J_aload_n (i := 0) (a := 0) rfl rfl (dk_X7_foundling 38 _ rfl) ?_
                  refine J_aload_n (i := 0) (a := 0) rfl rfl (dk_X7_foundling 39 _ rfl) ?_
                  refine J_getf fl_7_7 rfl rfl (dk_X7_foundling 40 _ rfl) ?_
                  refine J_iconst (v := 0) (by decide) (dk_X7_foundling 43 _ rfl) ?_
                  refine J_iconst (v := 0) (by decide) (dk_X7_foundling 44 _ rfl) ?_
                  refine J_iconst (v := 0) (by decide) (dk_X7_foundling 45 _ rfl) ?_
                  refine J_iload_n (i := 1) (a := 1) rfl rfl (dk_X7_foundling 46 _ rfl) ?_
                  refine J_cV (rv := none) (h' := hC7_16) (d' := 11) (As := [.int 0, .int 0, .int 0, .int 0, .int 1]) ok_X7_lay vi_X7_lay cl_7_202 (n := 5) (by decide +kernel) rfl rfl rfl rfl (by decide) (by decide) (dk_X7_foundling 47 _ rfl) (jev_ct (M := m_X7_lay) rfl rc7_16) ?_
                  show J _ _ _ _ _ _ _ _ _ [] _ _
                  refine J_aload_n (i := 0) (a := 0) rfl rfl (dk_X7_foundling 50 _ rfl) ?_
                  refine J_dup rfl (dk_X7_foundling 51 _ rfl) ?_
                  refine J_getf fl_7_7 rfl rfl (dk_X7_foundling 52 _ rfl) ?_
                  refine J_iconst (v := 1) (by decide) (dk_X7_foundling 55 _ rfl) ?_
                  refine J_iaddC (v := 1) (by decide) (dk_X7_foundling 56 _ rfl) ?_
                  refine J_putf fl_7_7 rfl (fun q hq => by cases hq; rfl) trivial (Nat.le_of_ble_eq_true rfl) (dk_X7_foundling 57 _ rfl) ?_
                  refine J_aload_n (i := 0) (a := 0) rfl rfl (dk_X7_foundling 60 _ rfl) ?_
                  refine J_aload_n (i := 0) (a := 0) rfl rfl (dk_X7_foundling 61 _ rfl) ?_
                  refine J_getf fl_7_7 rfl rfl (dk_X7_foundling 62 _ rfl) ?_
                  refine J_iconst (v := 1) (by decide) (dk_X7_foundling 65 _ rfl) ?_
                  refine J_isubC (v := 0) (by decide) (dk_X7_foundling 66 _ rfl) ?_
                  refine J_iconst (v := 1) (by decide) (dk_X7_foundling 67 _ rfl) ?_
                  refine J_cV (rv := none) (h' := hC7_17) (d' := 11) (As := [.int 0, .int 1]) ok_X7_layBest vi_X7_layBest cl_7_326 (n := 2) (by decide +kernel) rfl rfl rfl rfl (by decide) (by decide) (dk_X7_foundling 68 _ rfl) (jev_ct (M := m_X7_layBest) rfl rc7_17) ?_
                  show J _ _ _ _ _ _ _ _ _ [] _ _
                  refine J_aload_n (i := 0) (a := 0) rfl rfl (dk_X7_foundling 71 _ rfl) ?_
                  refine J_dup rfl (dk_X7_foundling 72 _ rfl) ?_
                  refine J_getf fl_7_7 rfl rfl (dk_X7_foundling 73 _ rfl) ?_
                  refine J_iconst (v := 1) (by decide) (dk_X7_foundling 76 _ rfl) ?_
                  refine J_isubC (v := 0) (by decide) (dk_X7_foundling 77 _ rfl) ?_
                  refine J_putf fl_7_7 rfl (fun q hq => by cases hq; rfl) trivial (Nat.le_of_ble_eq_true rfl) (dk_X7_foundling 78 _ rfl) ?_
                  refine J_iload_n (i := 2) (a := 2) rfl rfl (dk_X7_foundling 81 _ rfl) ?_
                  refine J_ifT (tgt := 92) (by decide) (dk_X7_foundling 82 _ rfl) (jI_ne (by decide : (1 : Int32).toInt = 1) (by decide : (0 : Int32).toInt = 0) (by omega)) ?_
                  refine J_aload_n (i := 0) (a := 0) rfl rfl (dk_X7_foundling 92 _ rfl) ?_
                  refine J_getf fl_7_117 rfl rfl (dk_X7_foundling 93 _ rfl) ?_
                  exact J_iret rfl rfl (dk_X7_foundling 96 _ rfl) ⟨rfl, rfl⟩
              · by_cases c23 : (d : Int32).toInt = 2
                · obtain rfl : d = 2 := jI_eq rfl (by decide) c23
                  refine ⟨100, ?_, ?_⟩
                  · refine jCt_of ok_X6_foundling (fun _ _ => Nat.le_of_ble_eq_true rfl) (fun _ _ hq => Nat.le_of_eq (lX.trans hq.2.symm)) ?_
                    show J _ _ _ _ _ _ _ _ [(0, .ref 0), (1, .int 2), (2, .int 1)] _ _ _
                    refine J_iload_n (i := 2) (a := 2) rfl rfl (dk_X6_foundling 0 _ rfl) ?_
                    refine J_ifF (tgt := 9) (by decide) (dk_X6_foundling 1 _ rfl) (jI_nlt (by decide : (1 : Int32).toInt = 1) (by decide : (0 : Int32).toInt = 0) (by omega)) ?_
                    refine J_iload_n (i := 2) (a := 2) rfl rfl (dk_X6_foundling 4 _ rfl) ?_
                    refine J_iconst (v := 1) (by decide) (dk_X6_foundling 5 _ rfl) ?_
                    refine J_icT (tgt := 12) (by decide) (dk_X6_foundling 6 _ rfl) (jI_le (by decide : (1 : Int32).toInt = 1) (by decide : (1 : Int32).toInt = 1) (by omega)) ?_
                    refine J_iload_n (i := 1) (a := 1) rfl rfl (dk_X6_foundling 12 _ rfl) ?_
                    refine J_cS (rv := some (.int 1)) (h' := hN0) (d' := 11) (As := [.int 2]) ok_X6_isDay st_X6_isDay cl_6_67 rfl (n := 1) (by decide +kernel) rfl (by decide) (by decide) (dk_X6_foundling 13 _ rfl) ?_ ?_
                    · refine jCt_of ok_X6_isDay (fun _ _ => Nat.le_of_ble_eq_true rfl) (fun _ _ hq => by rw [hq.2]; first | exact Nat.le_refl _ | simp) ?_
                      show J _ _ _ _ _ _ _ _ [(0, .int 2)] _ _ _
                      refine J_iload_n (i := 0) (a := 0) rfl rfl (dk_X6_isDay 0 _ rfl) ?_
                      refine J_ifF (tgt := 14) (by decide) (dk_X6_isDay 1 _ rfl) (jI_nlt (by decide : (2 : Int32).toInt = 2) (by decide : (0 : Int32).toInt = 0) (by omega)) ?_
                      refine J_iload_n (i := 0) (a := 0) rfl rfl (dk_X6_isDay 4 _ rfl) ?_
                      refine J_bipush (v := 12) (by decide) (dk_X6_isDay 5 _ rfl) ?_
                      refine J_icF (tgt := 14) (by decide) (dk_X6_isDay 7 _ rfl) (jI_nle (by decide : (12 : Int32).toInt = 12) (by decide : (2 : Int32).toInt = 2) (by omega)) ?_
                      refine J_iconst (v := 1) (by decide) (dk_X6_isDay 10 _ rfl) ?_
                      refine J_goto (tgt := 15) (by decide) (dk_X6_isDay 11 _ rfl) ?_
                      exact J_iret rfl rfl (dk_X6_isDay 15 _ rfl) ⟨rfl, rfl⟩
                    show J _ _ _ _ _ _ _ _ _ [.int 1] _ _
                    refine J_ifT (tgt := 22) (by decide) (dk_X6_foundling 16 _ rfl) (jI_ne (by decide : (1 : Int32).toInt = 1) (by decide : (0 : Int32).toInt = 0) (by omega)) ?_
                    refine J_aload_n (i := 0) (a := 0) rfl rfl (dk_X6_foundling 22 _ rfl) ?_
                    refine J_getf fl_6_47 rfl rfl (dk_X6_foundling 23 _ rfl) ?_
                    refine J_getf fl_6_71 rfl rfl (dk_X6_foundling 26 _ rfl) ?_
                    refine J_bipush (v := 7) (by decide) (dk_X6_foundling 29 _ rfl) ?_
                    refine J_icT (tgt := 37) (by decide) (dk_X6_foundling 31 _ rfl) (jI_lt (by decide : (0 : Int32).toInt = 0) (by decide : (7 : Int32).toInt = 7) (by omega)) ?_
                    refine J_aload_n (i := 0) (a := 0) rfl rfl (dk_X6_foundling 37 _ rfl) ?_
                    refine J_getf fl_6_54 rfl rfl (dk_X6_foundling 38 _ rfl) ?_
                    refine J_aload_n (i := 0) (a := 0) rfl rfl (dk_X6_foundling 41 _ rfl) ?_
                    refine J_getf fl_6_47 rfl rfl (dk_X6_foundling 42 _ rfl) ?_
                    refine J_cV (rv := none) (h' := hN0) (d' := 11) (As := [.ref 14]) ok_X2_copy vi_X2_copy cl_6_185 (n := 1) (by decide +kernel) rfl rfl rfl rfl (by decide) (by decide) (dk_X6_foundling 45 _ rfl) (jev_ct (M := m_X2_copy) rfl rc6_0) ?_
                    show J _ _ _ _ _ _ _ _ _ [] _ _
                    refine J_aload_n (i := 0) (a := 0) rfl rfl (dk_X6_foundling 48 _ rfl) ?_
                    refine J_getf fl_6_54 rfl rfl (dk_X6_foundling 49 _ rfl) ?_
                    refine J_iconst (v := 0) (by decide) (dk_X6_foundling 52 _ rfl) ?_
                    refine J_iconst (v := 0) (by decide) (dk_X6_foundling 53 _ rfl) ?_
                    refine J_iconst (v := 0) (by decide) (dk_X6_foundling 54 _ rfl) ?_
                    refine J_iload_n (i := 1) (a := 1) rfl rfl (dk_X6_foundling 55 _ rfl) ?_
                    refine J_cV (rv := none) (h' := hC6_19) (d' := 11) (As := [.int 0, .int 0, .int 0, .int 2]) ok_X2_add vi_X2_add cl_6_75 (n := 4) (by decide +kernel) rfl rfl rfl rfl (by decide) (by decide) (dk_X6_foundling 56 _ rfl) (jev_ct (M := m_X2_add) rfl rc6_19) ?_
                    show J _ _ _ _ _ _ _ _ _ [] _ _
                    refine J_aload_n (i := 0) (a := 0) rfl rfl (dk_X6_foundling 59 _ rfl) ?_
                    refine J_aload_n (i := 0) (a := 0) rfl rfl (dk_X6_foundling 60 _ rfl) ?_
                    refine J_getf fl_6_54 rfl rfl (dk_X6_foundling 61 _ rfl) ?_
                    refine J_getf fl_6_103 rfl rfl (dk_X6_foundling 64 _ rfl) ?_
                    refine J_aload_n (i := 0) (a := 0) rfl rfl (dk_X6_foundling 67 _ rfl) ?_
                    refine J_getf fl_6_54 rfl rfl (dk_X6_foundling 68 _ rfl) ?_
                    refine J_getf fl_6_71 rfl rfl (dk_X6_foundling 71 _ rfl) ?_
                    refine J_iconst (v := 1) (by decide) (dk_X6_foundling 74 _ rfl) ?_
                    refine J_isubC (v := 0) (by decide) (dk_X6_foundling 75 _ rfl) ?_
                    refine J_iload_n (i := 2) (a := 2) rfl rfl (dk_X6_foundling 76 _ rfl) ?_
                    refine J_cV (rv := some (.int 100)) (h' := hC6_20) (d' := 11) (As := [.ref 35, .int 0, .int 1]) ok_X6_bestOf vi_X6_bestOf cl_6_188 (n := 3) (by decide +kernel) rfl rfl rfl rfl (by decide) (by decide) (dk_X6_foundling 77 _ rfl) ?_ ?_
                    · refine jCt_of ok_X6_bestOf (fun _ _ => Nat.le_of_ble_eq_true rfl) (fun _ _ hq => by rw [hq.2]; first | exact Nat.le_refl _ | simp) ?_
                      show J _ _ _ _ _ _ _ _ [(0, .ref 0), (1, .ref 35), (2, .int 0), (3, .int 1)] _ _ _
                      refine J_aload_n (i := 0) (a := 0) rfl rfl (dk_X6_bestOf 0 _ rfl) ?_
                      refine J_aload_n (i := 1) (a := 1) rfl rfl (dk_X6_bestOf 1 _ rfl) ?_
                      refine J_iload_n (i := 2) (a := 2) rfl rfl (dk_X6_bestOf 2 _ rfl) ?_
                      refine J_aload_n (i := 0) (a := 0) rfl rfl (dk_X6_bestOf 3 _ rfl) ?_
                      refine J_getf fl_6_54 rfl rfl (dk_X6_bestOf 4 _ rfl) ?_
                      refine J_getf fl_6_83 rfl rfl (dk_X6_bestOf 7 _ rfl) ?_
                      refine J_getf fl_6_87 rfl rfl (dk_X6_bestOf 10 _ rfl) ?_
                      refine J_cV (rv := none) (h' := hC6_20) (d' := 10) (As := [.ref 35, .int 0, .int 10]) ok_X6_tryDays vi_X6_tryDays cl_6_192 (n := 3) (by decide +kernel) rfl rfl rfl rfl (by decide) (by decide) (dk_X6_bestOf 13 _ rfl) (jev_ct (M := m_X6_tryDays) rfl rc6_20) ?_
                      show J _ _ _ _ _ _ _ _ _ [] _ _
                      refine J_aload_n (i := 0) (a := 0) rfl rfl (dk_X6_bestOf 16 _ rfl) ?_
                      refine J_cV (rv := some (.int 0)) (h' := hC6_20) (d' := 10) (As := []) ok_X6_firstMost vi_X6_firstMost cl_6_269 (n := 0) (by decide +kernel) rfl rfl rfl rfl (by decide) (by decide) (dk_X6_bestOf 17 _ rfl) (jev_ct (M := m_X6_firstMost) rfl rc6_21) ?_
                      show J _ _ _ _ _ _ _ _ _ [.int 0] _ _
                      refine J_istore (i := 4) (by decide) (dk_X6_bestOf 20 _ rfl) ?_
                      show J _ _ _ _ _ _ _ _ [(4, .int 0), (0, .ref 0), (1, .ref 35), (2, .int 0), (3, .int 1)] _ _ _
                      refine J_iload_n (i := 3) (a := 3) rfl rfl (dk_X6_bestOf 22 _ rfl) ?_
                      refine J_ifT (tgt := 31) (by decide) (dk_X6_bestOf 23 _ rfl) (jI_ne (by decide : (1 : Int32).toInt = 1) (by decide : (0 : Int32).toInt = 0) (by omega)) ?_
                      refine J_aload_n (i := 0) (a := 0) rfl rfl (dk_X6_bestOf 31 _ rfl) ?_
                      refine J_getf fl_6_11 rfl rfl (dk_X6_bestOf 32 _ rfl) ?_
                      refine J_iload (i := 4) rfl (dk_X6_bestOf 35 _ rfl) ?_
                      refine J_iald rfl (by decide) rfl (dk_X6_bestOf 37 _ rfl) ?_
                      exact J_iret rfl rfl (dk_X6_bestOf 38 _ rfl) ⟨rfl, rfl⟩
                    show J _ _ _ _ _ _ _ _ _ [.int 100] _ _
                    exact J_iret rfl rfl (dk_X6_foundling 80 _ rfl) ⟨rfl, rfl⟩
                  · refine jCt_of ok_X7_foundling (fun _ _ => Nat.le_of_ble_eq_true rfl) (fun _ _ hq => Nat.le_of_eq (lM.trans hq.2.symm)) ?_
                    show J _ _ _ _ _ _ _ _ [(0, .ref 0), (1, .int 2), (2, .int 1)] _ _ _
                    refine J_aload_n (i := 0) (a := 0) rfl rfl (dk_X7_foundling 0 _ rfl) ?_
                    refine J_iload_n (i := 2) (a := 2) rfl rfl (dk_X7_foundling 1 _ rfl) ?_
                    refine J_iconst (v := 0) (by decide) (dk_X7_foundling 2 _ rfl) ?_
                    refine J_iconst (v := 1) (by decide) (dk_X7_foundling 3 _ rfl) ?_
                    refine J_cV (rv := some (.int 1)) (h' := hM0) (d' := 11) (As := [.int 1, .int 0, .int 1]) ok_X7_in vi_X7_in cl_7_194 (n := 3) (by decide +kernel) rfl rfl rfl rfl (by decide) (by decide) (dk_X7_foundling 4 _ rfl) ?_ ?_
                    · refine jCt_of ok_X7_in (fun _ _ => Nat.le_of_ble_eq_true rfl) (fun _ _ hq => by rw [hq.2]; first | exact Nat.le_refl _ | simp) ?_
                      show J _ _ _ _ _ _ _ _ [(0, .ref 0), (1, .int 1), (2, .int 0), (3, .int 1)] _ _ _
                      refine J_iload_n (i := 1) (a := 1) rfl rfl (dk_X7_in 0 _ rfl) ?_
                      refine J_iload_n (i := 2) (a := 2) rfl rfl (dk_X7_in 1 _ rfl) ?_
                      refine J_icF (tgt := 14) (by decide) (dk_X7_in 2 _ rfl) (jI_nlt (by decide : (1 : Int32).toInt = 1) (by decide : (0 : Int32).toInt = 0) (by omega)) ?_
                      refine J_iload_n (i := 1) (a := 1) rfl rfl (dk_X7_in 5 _ rfl) ?_
                      refine J_iload_n (i := 3) (a := 3) rfl rfl (dk_X7_in 6 _ rfl) ?_
                      refine J_icF (tgt := 14) (by decide) (dk_X7_in 7 _ rfl) (jI_nlt (by decide : (1 : Int32).toInt = 1) (by decide : (1 : Int32).toInt = 1) (by omega)) ?_
                      refine J_iconst (v := 1) (by decide) (dk_X7_in 10 _ rfl) ?_
                      refine J_goto (tgt := 15) (by decide) (dk_X7_in 11 _ rfl) ?_
                      exact J_iret rfl rfl (dk_X7_in 15 _ rfl) ⟨rfl, rfl⟩
                    show J _ _ _ _ _ _ _ _ _ [.int 1] _ _
                    refine J_ifT (tgt := 14) (by decide) (dk_X7_foundling 7 _ rfl) (jI_ne (by decide : (1 : Int32).toInt = 1) (by decide : (0 : Int32).toInt = 0) (by omega)) ?_
                    refine J_aload_n (i := 0) (a := 0) rfl rfl (dk_X7_foundling 14 _ rfl) ?_
                    refine J_iload_n (i := 1) (a := 1) rfl rfl (dk_X7_foundling 15 _ rfl) ?_
                    refine J_cV (rv := some (.int 1)) (h' := hM0) (d' := 11) (As := [.int 2]) ok_X7_isDay vi_X7_isDay cl_7_198 (n := 1) (by decide +kernel) rfl rfl rfl rfl (by decide) (by decide) (dk_X7_foundling 16 _ rfl) ?_ ?_
                    · refine jCt_of ok_X7_isDay (fun _ _ => Nat.le_of_ble_eq_true rfl) (fun _ _ hq => by rw [hq.2]; first | exact Nat.le_refl _ | simp) ?_
                      show J _ _ _ _ _ _ _ _ [(0, .ref 0), (1, .int 2)] _ _ _
                      refine J_aload_n (i := 0) (a := 0) rfl rfl (dk_X7_isDay 0 _ rfl) ?_
                      refine J_iload_n (i := 1) (a := 1) rfl rfl (dk_X7_isDay 1 _ rfl) ?_
                      refine J_iconst (v := 0) (by decide) (dk_X7_isDay 2 _ rfl) ?_
                      refine J_bipush (v := 11) (by decide) (dk_X7_isDay 3 _ rfl) ?_
                      refine J_cV (rv := some (.int 1)) (h' := hM0) (d' := 10) (As := [.int 2, .int 0, .int 11]) ok_X7_in vi_X7_in cl_7_194 (n := 3) (by decide +kernel) rfl rfl rfl rfl (by decide) (by decide) (dk_X7_isDay 5 _ rfl) ?_ ?_
                      · refine jCt_of ok_X7_in (fun _ _ => Nat.le_of_ble_eq_true rfl) (fun _ _ hq => by rw [hq.2]; first | exact Nat.le_refl _ | simp) ?_
                        show J _ _ _ _ _ _ _ _ [(0, .ref 0), (1, .int 2), (2, .int 0), (3, .int 11)] _ _ _
                        refine J_iload_n (i := 1) (a := 1) rfl rfl (dk_X7_in 0 _ rfl) ?_
                        refine J_iload_n (i := 2) (a := 2) rfl rfl (dk_X7_in 1 _ rfl) ?_
                        refine J_icF (tgt := 14) (by decide) (dk_X7_in 2 _ rfl) (jI_nlt (by decide : (2 : Int32).toInt = 2) (by decide : (0 : Int32).toInt = 0) (by omega)) ?_
                        refine J_iload_n (i := 1) (a := 1) rfl rfl (dk_X7_in 5 _ rfl) ?_
                        refine J_iload_n (i := 3) (a := 3) rfl rfl (dk_X7_in 6 _ rfl) ?_
                        refine J_icF (tgt := 14) (by decide) (dk_X7_in 7 _ rfl) (jI_nlt (by decide : (11 : Int32).toInt = 11) (by decide : (2 : Int32).toInt = 2) (by omega)) ?_
                        refine J_iconst (v := 1) (by decide) (dk_X7_in 10 _ rfl) ?_
                        refine J_goto (tgt := 15) (by decide) (dk_X7_in 11 _ rfl) ?_
                        exact J_iret rfl rfl (dk_X7_in 15 _ rfl) ⟨rfl, rfl⟩
                      show J _ _ _ _ _ _ _ _ _ [.int 1] _ _
                      exact J_iret rfl rfl (dk_X7_isDay 8 _ rfl) ⟨rfl, rfl⟩
                    show J _ _ _ _ _ _ _ _ _ [.int 1] _ _
                    refine J_ifT (tgt := 26) (by decide) (dk_X7_foundling 19 _ rfl) (jI_ne (by decide : (1 : Int32).toInt = 1) (by decide : (0 : Int32).toInt = 0) (by omega)) ?_
                    refine J_aload_n (i := 0) (a := 0) rfl rfl (dk_X7_foundling 26 _ rfl) ?_
                    refine J_getf fl_7_7 rfl rfl (dk_X7_foundling 27 _ rfl) ?_
                    refine J_bipush (v := 7) (by decide) (dk_X7_foundling 30 _ rfl) ?_
                    refine J_icT (tgt := 38) (by decide) (dk_X7_foundling 32 _ rfl) (jI_ne (by decide : (0 : Int32).toInt = 0) (by decide : (7 : Int32).toInt = 7) (by omega)) ?_
                    refine J_aload_n (i := 0) (a := 0) rfl rfl (dk_X7_foundling 38 _ rfl) ?_
                    refine J_aload_n (i := 0) (a := 0) rfl rfl (dk_X7_foundling 39 _ rfl) ?_
                    refine J_getf fl_7_7 rfl rfl (dk_X7_foundling 40 _ rfl) ?_
                    refine J_iconst (v := 0) (by decide) (dk_X7_foundling 43 _ rfl) ?_
                    refine J_iconst (v := 0) (by decide) (dk_X7_foundling 44 _ rfl) ?_
                    refine J_iconst (v := 0) (by decide) (dk_X7_foundling 45 _ rfl) ?_
                    refine J_iload_n (i := 1) (a := 1) rfl rfl (dk_X7_foundling 46 _ rfl) ?_
                    refine J_cV (rv := none) (h' := hC7_22) (d' := 11) (As := [.int 0, .int 0, .int 0, .int 0, .int 2]) ok_X7_lay vi_X7_lay cl_7_202 (n := 5) (by decide +kernel) rfl rfl rfl rfl (by decide) (by decide) (dk_X7_foundling 47 _ rfl) (jev_ct (M := m_X7_lay) rfl rc7_22) ?_
                    show J _ _ _ _ _ _ _ _ _ [] _ _
                    refine J_aload_n (i := 0) (a := 0) rfl rfl (dk_X7_foundling 50 _ rfl) ?_
                    refine J_dup rfl (dk_X7_foundling 51 _ rfl) ?_
                    refine J_getf fl_7_7 rfl rfl (dk_X7_foundling 52 _ rfl) ?_
                    refine J_iconst (v := 1) (by decide) (dk_X7_foundling 55 _ rfl) ?_
                    refine J_iaddC (v := 1) (by decide) (dk_X7_foundling 56 _ rfl) ?_
                    refine J_putf fl_7_7 rfl (fun q hq => by cases hq; rfl) trivial (Nat.le_of_ble_eq_true rfl) (dk_X7_foundling 57 _ rfl) ?_
                    refine J_aload_n (i := 0) (a := 0) rfl rfl (dk_X7_foundling 60 _ rfl) ?_
                    refine J_aload_n (i := 0) (a := 0) rfl rfl (dk_X7_foundling 61 _ rfl) ?_
                    refine J_getf fl_7_7 rfl rfl (dk_X7_foundling 62 _ rfl) ?_
                    refine J_iconst (v := 1) (by decide) (dk_X7_foundling 65 _ rfl) ?_
                    refine J_isubC (v := 0) (by decide) (dk_X7_foundling 66 _ rfl) ?_
                    refine J_iconst (v := 1) (by decide) (dk_X7_foundling 67 _ rfl) ?_
                    refine J_cV (rv := none) (h' := hC7_23) (d' := 11) (As := [.int 0, .int 1]) ok_X7_layBest vi_X7_layBest cl_7_326 (n := 2) (by decide +kernel) rfl rfl rfl rfl (by decide) (by decide) (dk_X7_foundling 68 _ rfl) (jev_ct (M := m_X7_layBest) rfl rc7_23) ?_
                    show J _ _ _ _ _ _ _ _ _ [] _ _
                    refine J_aload_n (i := 0) (a := 0) rfl rfl (dk_X7_foundling 71 _ rfl) ?_
                    refine J_dup rfl (dk_X7_foundling 72 _ rfl) ?_
                    refine J_getf fl_7_7 rfl rfl (dk_X7_foundling 73 _ rfl) ?_
                    refine J_iconst (v := 1) (by decide) (dk_X7_foundling 76 _ rfl) ?_
                    refine J_isubC (v := 0) (by decide) (dk_X7_foundling 77 _ rfl) ?_
                    refine J_putf fl_7_7 rfl (fun q hq => by cases hq; rfl) trivial (Nat.le_of_ble_eq_true rfl) (dk_X7_foundling 78 _ rfl) ?_
                    refine J_iload_n (i := 2) (a := 2) rfl rfl (dk_X7_foundling 81 _ rfl) ?_
                    refine J_ifT (tgt := 92) (by decide) (dk_X7_foundling 82 _ rfl) (jI_ne (by decide : (1 : Int32).toInt = 1) (by decide : (0 : Int32).toInt = 0) (by omega)) ?_
                    refine J_aload_n (i := 0) (a := 0) rfl rfl (dk_X7_foundling 92 _ rfl) ?_
                    refine J_getf fl_7_117 rfl rfl (dk_X7_foundling 93 _ rfl) ?_
                    exact J_iret rfl rfl (dk_X7_foundling 96 _ rfl) ⟨rfl, rfl⟩
                · by_cases c24 : (d : Int32).toInt = 3
                  · obtain rfl : d = 3 := jI_eq rfl (by decide) c24
                    refine ⟨100, ?_, ?_⟩
                    · refine jCt_of ok_X6_foundling (fun _ _ => Nat.le_of_ble_eq_true rfl) (fun _ _ hq => Nat.le_of_eq (lX.trans hq.2.symm)) ?_
                      show J _ _ _ _ _ _ _ _ [(0, .ref 0), (1, .int 3), (2, .int 1)] _ _ _
                      refine J_iload_n (i := 2) (a := 2) rfl rfl (dk_X6_foundling 0 _ rfl) ?_
                      refine J_ifF (tgt := 9) (by decide) (dk_X6_foundling 1 _ rfl) (jI_nlt (by decide : (1 : Int32).toInt = 1) (by decide : (0 : Int32).toInt = 0) (by omega)) ?_
                      refine J_iload_n (i := 2) (a := 2) rfl rfl (dk_X6_foundling 4 _ rfl) ?_
                      refine J_iconst (v := 1) (by decide) (dk_X6_foundling 5 _ rfl) ?_
                      refine J_icT (tgt := 12) (by decide) (dk_X6_foundling 6 _ rfl) (jI_le (by decide : (1 : Int32).toInt = 1) (by decide : (1 : Int32).toInt = 1) (by omega)) ?_
                      refine J_iload_n (i := 1) (a := 1) rfl rfl (dk_X6_foundling 12 _ rfl) ?_
                      refine J_cS (rv := some (.int 1)) (h' := hN0) (d' := 11) (As := [.int 3]) ok_X6_isDay st_X6_isDay cl_6_67 rfl (n := 1) (by decide +kernel) rfl (by decide) (by decide) (dk_X6_foundling 13 _ rfl) ?_ ?_
                      · refine jCt_of ok_X6_isDay (fun _ _ => Nat.le_of_ble_eq_true rfl) (fun _ _ hq => by rw [hq.2]; first | exact Nat.le_refl _ | simp) ?_
                        show J _ _ _ _ _ _ _ _ [(0, .int 3)] _ _ _
                        refine J_iload_n (i := 0) (a := 0) rfl rfl (dk_X6_isDay 0 _ rfl) ?_
                        refine J_ifF (tgt := 14) (by decide) (dk_X6_isDay 1 _ rfl) (jI_nlt (by decide : (3 : Int32).toInt = 3) (by decide : (0 : Int32).toInt = 0) (by omega)) ?_
                        refine J_iload_n (i := 0) (a := 0) rfl rfl (dk_X6_isDay 4 _ rfl) ?_
                        refine J_bipush (v := 12) (by decide) (dk_X6_isDay 5 _ rfl) ?_
                        refine J_icF (tgt := 14) (by decide) (dk_X6_isDay 7 _ rfl) (jI_nle (by decide : (12 : Int32).toInt = 12) (by decide : (3 : Int32).toInt = 3) (by omega)) ?_
                        refine J_iconst (v := 1) (by decide) (dk_X6_isDay 10 _ rfl) ?_
                        refine J_goto (tgt := 15) (by decide) (dk_X6_isDay 11 _ rfl) ?_
                        exact J_iret rfl rfl (dk_X6_isDay 15 _ rfl) ⟨rfl, rfl⟩
                      show J _ _ _ _ _ _ _ _ _ [.int 1] _ _
                      refine J_ifT (tgt := 22) (by decide) (dk_X6_foundling 16 _ rfl) (jI_ne (by decide : (1 : Int32).toInt = 1) (by decide : (0 : Int32).toInt = 0) (by omega)) ?_
                      refine J_aload_n (i := 0) (a := 0) rfl rfl (dk_X6_foundling 22 _ rfl) ?_
                      refine J_getf fl_6_47 rfl rfl (dk_X6_foundling 23 _ rfl) ?_
                      refine J_getf fl_6_71 rfl rfl (dk_X6_foundling 26 _ rfl) ?_
                      refine J_bipush (v := 7) (by decide) (dk_X6_foundling 29 _ rfl) ?_
                      refine J_icT (tgt := 37) (by decide) (dk_X6_foundling 31 _ rfl) (jI_lt (by decide : (0 : Int32).toInt = 0) (by decide : (7 : Int32).toInt = 7) (by omega)) ?_
                      refine J_aload_n (i := 0) (a := 0) rfl rfl (dk_X6_foundling 37 _ rfl) ?_
                      refine J_getf fl_6_54 rfl rfl (dk_X6_foundling 38 _ rfl) ?_
                      refine J_aload_n (i := 0) (a := 0) rfl rfl (dk_X6_foundling 41 _ rfl) ?_
                      refine J_getf fl_6_47 rfl rfl (dk_X6_foundling 42 _ rfl) ?_
                      refine J_cV (rv := none) (h' := hN0) (d' := 11) (As := [.ref 14]) ok_X2_copy vi_X2_copy cl_6_185 (n := 1) (by decide +kernel) rfl rfl rfl rfl (by decide) (by decide) (dk_X6_foundling 45 _ rfl) (jev_ct (M := m_X2_copy) rfl rc6_0) ?_
                      show J _ _ _ _ _ _ _ _ _ [] _ _
                      refine J_aload_n (i := 0) (a := 0) rfl rfl (dk_X6_foundling 48 _ rfl) ?_
                      refine J_getf fl_6_54 rfl rfl (dk_X6_foundling 49 _ rfl) ?_
                      refine J_iconst (v := 0) (by decide) (dk_X6_foundling 52 _ rfl) ?_
                      refine J_iconst (v := 0) (by decide) (dk_X6_foundling 53 _ rfl) ?_
                      refine J_iconst (v := 0) (by decide) (dk_X6_foundling 54 _ rfl) ?_
                      refine J_iload_n (i := 1) (a := 1) rfl rfl (dk_X6_foundling 55 _ rfl) ?_
                      refine J_cV (rv := none) (h' := hC6_25) (d' := 11) (As := [.int 0, .int 0, .int 0, .int 3]) ok_X2_add vi_X2_add cl_6_75 (n := 4) (by decide +kernel) rfl rfl rfl rfl (by decide) (by decide) (dk_X6_foundling 56 _ rfl) (jev_ct (M := m_X2_add) rfl rc6_25) ?_
                      show J _ _ _ _ _ _ _ _ _ [] _ _
                      refine J_aload_n (i := 0) (a := 0) rfl rfl (dk_X6_foundling 59 _ rfl) ?_
                      refine J_aload_n (i := 0) (a := 0) rfl rfl (dk_X6_foundling 60 _ rfl) ?_
                      refine J_getf fl_6_54 rfl rfl (dk_X6_foundling 61 _ rfl) ?_
                      refine J_getf fl_6_103 rfl rfl (dk_X6_foundling 64 _ rfl) ?_
                      refine J_aload_n (i := 0) (a := 0) rfl rfl (dk_X6_foundling 67 _ rfl) ?_
                      refine J_getf fl_6_54 rfl rfl (dk_X6_foundling 68 _ rfl) ?_
                      refine J_getf fl_6_71 rfl rfl (dk_X6_foundling 71 _ rfl) ?_
                      refine J_iconst (v := 1) (by decide) (dk_X6_foundling 74 _ rfl) ?_
                      refine J_isubC (v := 0) (by decide) (dk_X6_foundling 75 _ rfl) ?_
                      refine J_iload_n (i := 2) (a := 2) rfl rfl (dk_X6_foundling 76 _ rfl) ?_
                      refine J_cV (rv := some (.int 100)) (h' := hC6_26) (d' := 11) (As := [.ref 35, .int 0, .int 1]) ok_X6_bestOf vi_X6_bestOf cl_6_188 (n := 3) (by decide +kernel) rfl rfl rfl rfl (by decide) (by decide) (dk_X6_foundling 77 _ rfl) ?_ ?_
                      · refine jCt_of ok_X6_bestOf (fun _ _ => Nat.le_of_ble_eq_true rfl) (fun _ _ hq => by rw [hq.2]; first | exact Nat.le_refl _ | simp) ?_
                        show J _ _ _ _ _ _ _ _ [(0, .ref 0), (1, .ref 35), (2, .int 0), (3, .int 1)] _ _ _
                        refine J_aload_n (i := 0) (a := 0) rfl rfl (dk_X6_bestOf 0 _ rfl) ?_
                        refine J_aload_n (i := 1) (a := 1) rfl rfl (dk_X6_bestOf 1 _ rfl) ?_
                        refine J_iload_n (i := 2) (a := 2) rfl rfl (dk_X6_bestOf 2 _ rfl) ?_
                        refine J_aload_n (i := 0) (a := 0) rfl rfl (dk_X6_bestOf 3 _ rfl) ?_
                        refine J_getf fl_6_54 rfl rfl (dk_X6_bestOf 4 _ rfl) ?_
                        refine J_getf fl_6_83 rfl rfl (dk_X6_bestOf 7 _ rfl) ?_
                        refine J_getf fl_6_87 rfl rfl (dk_X6_bestOf 10 _ rfl) ?_
                        refine J_cV (rv := none) (h' := hC6_26) (d' := 10) (As := [.ref 35, .int 0, .int 10]) ok_X6_tryDays vi_X6_tryDays cl_6_192 (n := 3) (by decide +kernel) rfl rfl rfl rfl (by decide) (by decide) (dk_X6_bestOf 13 _ rfl) (jev_ct (M := m_X6_tryDays) rfl rc6_26) ?_
                        show J _ _ _ _ _ _ _ _ _ [] _ _
                        refine J_aload_n (i := 0) (a := 0) rfl rfl (dk_X6_bestOf 16 _ rfl) ?_
                        refine J_cV (rv := some (.int 0)) (h' := hC6_26) (d' := 10) (As := []) ok_X6_firstMost vi_X6_firstMost cl_6_269 (n := 0) (by decide +kernel) rfl rfl rfl rfl (by decide) (by decide) (dk_X6_bestOf 17 _ rfl) (jev_ct (M := m_X6_firstMost) rfl rc6_27) ?_
                        show J _ _ _ _ _ _ _ _ _ [.int 0] _ _
                        refine J_istore (i := 4) (by decide) (dk_X6_bestOf 20 _ rfl) ?_
                        show J _ _ _ _ _ _ _ _ [(4, .int 0), (0, .ref 0), (1, .ref 35), (2, .int 0), (3, .int 1)] _ _ _
                        refine J_iload_n (i := 3) (a := 3) rfl rfl (dk_X6_bestOf 22 _ rfl) ?_
                        refine J_ifT (tgt := 31) (by decide) (dk_X6_bestOf 23 _ rfl) (jI_ne (by decide : (1 : Int32).toInt = 1) (by decide : (0 : Int32).toInt = 0) (by omega)) ?_
                        refine J_aload_n (i := 0) (a := 0) rfl rfl (dk_X6_bestOf 31 _ rfl) ?_
                        refine J_getf fl_6_11 rfl rfl (dk_X6_bestOf 32 _ rfl) ?_
                        refine J_iload (i := 4) rfl (dk_X6_bestOf 35 _ rfl) ?_
                        refine J_iald rfl (by decide) rfl (dk_X6_bestOf 37 _ rfl) ?_
                        exact J_iret rfl rfl (dk_X6_bestOf 38 _ rfl) ⟨rfl, rfl⟩
                      show J _ _ _ _ _ _ _ _ _ [.int 100] _ _
                      exact J_iret rfl rfl (dk_X6_foundling 80 _ rfl) ⟨rfl, rfl⟩
                    · refine jCt_of ok_X7_foundling (fun _ _ => Nat.le_of_ble_eq_true rfl) (fun _ _ hq => Nat.le_of_eq (lM.trans hq.2.symm)) ?_
                      show J _ _ _ _ _ _ _ _ [(0, .ref 0), (1, .int 3), (2, .int 1)] _ _ _
                      refine J_aload_n (i := 0) (a := 0) rfl rfl (dk_X7_foundling 0 _ rfl) ?_
                      refine J_iload_n (i := 2) (a := 2) rfl rfl (dk_X7_foundling 1 _ rfl) ?_
                      refine J_iconst (v := 0) (by decide) (dk_X7_foundling 2 _ rfl) ?_
                      refine J_iconst (v := 1) (by decide) (dk_X7_foundling 3 _ rfl) ?_
                      refine J_cV (rv := some (.int 1)) (h' := hM0) (d' := 11) (As := [.int 1, .int 0, .int 1]) ok_X7_in vi_X7_in cl_7_194 (n := 3) (by decide +kernel) rfl rfl rfl rfl (by decide) (by decide) (dk_X7_foundling 4 _ rfl) ?_ ?_
                      · refine jCt_of ok_X7_in (fun _ _ => Nat.le_of_ble_eq_true rfl) (fun _ _ hq => by rw [hq.2]; first | exact Nat.le_refl _ | simp) ?_
                        show J _ _ _ _ _ _ _ _ [(0, .ref 0), (1, .int 1), (2, .int 0), (3, .int 1)] _ _ _
                        refine J_iload_n (i := 1) (a := 1) rfl rfl (dk_X7_in 0 _ rfl) ?_
                        refine J_iload_n (i := 2) (a := 2) rfl rfl (dk_X7_in 1 _ rfl) ?_
                        refine J_icF (tgt := 14) (by decide) (dk_X7_in 2 _ rfl) (jI_nlt (by decide : (1 : Int32).toInt = 1) (by decide : (0 : Int32).toInt = 0) (by omega)) ?_
                        refine J_iload_n (i := 1) (a := 1) rfl rfl (dk_X7_in 5 _ rfl) ?_
                        refine J_iload_n (i := 3) (a := 3) rfl rfl (dk_X7_in 6 _ rfl) ?_
                        refine J_icF (tgt := 14) (by decide) (dk_X7_in 7 _ rfl) (jI_nlt (by decide : (1 : Int32).toInt = 1) (by decide : (1 : Int32).toInt = 1) (by omega)) ?_
                        refine J_iconst (v := 1) (by decide) (dk_X7_in 10 _ rfl) ?_
                        refine J_goto (tgt := 15) (by decide) (dk_X7_in 11 _ rfl) ?_
                        exact J_iret rfl rfl (dk_X7_in 15 _ rfl) ⟨rfl, rfl⟩
                      show J _ _ _ _ _ _ _ _ _ [.int 1] _ _
                      refine J_ifT (tgt := 14) (by decide) (dk_X7_foundling 7 _ rfl) (jI_ne (by decide : (1 : Int32).toInt = 1) (by decide : (0 : Int32).toInt = 0) (by omega)) ?_
                      refine J_aload_n (i := 0) (a := 0) rfl rfl (dk_X7_foundling 14 _ rfl) ?_
                      refine J_iload_n (i := 1) (a := 1) rfl rfl (dk_X7_foundling 15 _ rfl) ?_
                      refine J_cV (rv := some (.int 1)) (h' := hM0) (d' := 11) (As := [.int 3]) ok_X7_isDay vi_X7_isDay cl_7_198 (n := 1) (by decide +kernel) rfl rfl rfl rfl (by decide) (by decide) (dk_X7_foundling 16 _ rfl) ?_ ?_
                      · refine jCt_of ok_X7_isDay (fun _ _ => Nat.le_of_ble_eq_true rfl) (fun _ _ hq => by rw [hq.2]; first | exact Nat.le_refl _ | simp) ?_
                        show J _ _ _ _ _ _ _ _ [(0, .ref 0), (1, .int 3)] _ _ _
                        refine J_aload_n (i := 0) (a := 0) rfl rfl (dk_X7_isDay 0 _ rfl) ?_
                        refine J_iload_n (i := 1) (a := 1) rfl rfl (dk_X7_isDay 1 _ rfl) ?_
                        refine J_iconst (v := 0) (by decide) (dk_X7_isDay 2 _ rfl) ?_
                        refine J_bipush (v := 11) (by decide) (dk_X7_isDay 3 _ rfl) ?_
                        refine J_cV (rv := some (.int 1)) (h' := hM0) (d' := 10) (As := [.int 3, .int 0, .int 11]) ok_X7_in vi_X7_in cl_7_194 (n := 3) (by decide +kernel) rfl rfl rfl rfl (by decide) (by decide) (dk_X7_isDay 5 _ rfl) ?_ ?_
                        · refine jCt_of ok_X7_in (fun _ _ => Nat.le_of_ble_eq_true rfl) (fun _ _ hq => by rw [hq.2]; first | exact Nat.le_refl _ | simp) ?_
                          show J _ _ _ _ _ _ _ _ [(0, .ref 0), (1, .int 3), (2, .int 0), (3, .int 11)] _ _ _
                          refine J_iload_n (i := 1) (a := 1) rfl rfl (dk_X7_in 0 _ rfl) ?_
                          refine J_iload_n (i := 2) (a := 2) rfl rfl (dk_X7_in 1 _ rfl) ?_
                          refine J_icF (tgt := 14) (by decide) (dk_X7_in 2 _ rfl) (jI_nlt (by decide : (3 : Int32).toInt = 3) (by decide : (0 : Int32).toInt = 0) (by omega)) ?_
                          refine J_iload_n (i := 1) (a := 1) rfl rfl (dk_X7_in 5 _ rfl) ?_
                          refine J_iload_n (i := 3) (a := 3) rfl rfl (dk_X7_in 6 _ rfl) ?_
                          refine J_icF (tgt := 14) (by decide) (dk_X7_in 7 _ rfl) (jI_nlt (by decide : (11 : Int32).toInt = 11) (by decide : (3 : Int32).toInt = 3) (by omega)) ?_
                          refine J_iconst (v := 1) (by decide) (dk_X7_in 10 _ rfl) ?_
                          refine J_goto (tgt := 15) (by decide) (dk_X7_in 11 _ rfl) ?_
                          exact J_iret rfl rfl (dk_X7_in 15 _ rfl) ⟨rfl, rfl⟩
                        show J _ _ _ _ _ _ _ _ _ [.int 1] _ _
                        exact J_iret rfl rfl (dk_X7_isDay 8 _ rfl) ⟨rfl, rfl⟩
                      show J _ _ _ _ _ _ _ _ _ [.int 1] _ _
                      refine J_ifT (tgt := 26) (by decide) (dk_X7_foundling 19 _ rfl) (jI_ne (by decide : (1 : Int32).toInt = 1) (by decide : (0 : Int32).toInt = 0) (by omega)) ?_
                      refine J_aload_n (i := 0) (a := 0) rfl rfl (dk_X7_foundling 26 _ rfl) ?_
                      refine J_getf fl_7_7 rfl rfl (dk_X7_foundling 27 _ rfl) ?_
                      refine J_bipush (v := 7) (by decide) (dk_X7_foundling 30 _ rfl) ?_
                      refine J_icT (tgt := 38) (by decide) (dk_X7_foundling 32 _ rfl) (jI_ne (by decide : (0 : Int32).toInt = 0) (by decide : (7 : Int32).toInt = 7) (by omega)) ?_
                      refine J_aload_n (i := 0) (a := 0) rfl rfl (dk_X7_foundling 38 _ rfl) ?_
                      refine J_aload_n (i := 0) (a := 0) rfl rfl (dk_X7_foundling 39 _ rfl) ?_
                      refine J_getf fl_7_7 rfl rfl (dk_X7_foundling 40 _ rfl) ?_
                      refine J_iconst (v := 0) (by decide) (dk_X7_foundling 43 _ rfl) ?_
                      refine J_iconst (v := 0) (by decide) (dk_X7_foundling 44 _ rfl) ?_
                      refine J_iconst (v := 0) (by decide) (dk_X7_foundling 45 _ rfl) ?_
                      refine J_iload_n (i := 1) (a := 1) rfl rfl (dk_X7_foundling 46 _ rfl) ?_
                      refine J_cV (rv := none) (h' := hC7_28) (d' := 11) (As := [.int 0, .int 0, .int 0, .int 0, .int 3]) ok_X7_lay vi_X7_lay cl_7_202 (n := 5) (by decide +kernel) rfl rfl rfl rfl (by decide) (by decide) (dk_X7_foundling 47 _ rfl) (jev_ct (M := m_X7_lay) rfl rc7_28) ?_
                      show J _ _ _ _ _ _ _ _ _ [] _ _
                      refine J_aload_n (i := 0) (a := 0) rfl rfl (dk_X7_foundling 50 _ rfl) ?_
                      refine J_dup rfl (dk_X7_foundling 51 _ rfl) ?_
                      refine J_getf fl_7_7 rfl rfl (dk_X7_foundling 52 _ rfl) ?_
                      refine J_iconst (v := 1) (by decide) (dk_X7_foundling 55 _ rfl) ?_
                      refine J_iaddC (v := 1) (by decide) (dk_X7_foundling 56 _ rfl) ?_
                      refine J_putf fl_7_7 rfl (fun q hq => by cases hq; rfl) trivial (Nat.le_of_ble_eq_true rfl) (dk_X7_foundling 57 _ rfl) ?_
                      refine J_aload_n (i := 0) (a := 0) rfl rfl (dk_X7_foundling 60 _ rfl) ?_
                      refine J_aload_n (i := 0) (a := 0) rfl rfl (dk_X7_foundling 61 _ rfl) ?_
                      refine J_getf fl_7_7 rfl rfl (dk_X7_foundling 62 _ rfl) ?_
                      refine J_iconst (v := 1) (by decide) (dk_X7_foundling 65 _ rfl) ?_
                      refine J_isubC (v := 0) (by decide) (dk_X7_foundling 66 _ rfl) ?_
                      refine J_iconst (v := 1) (by decide) (dk_X7_foundling 67 _ rfl) ?_
                      refine J_cV (rv := none) (h' := hC7_29) (d' := 11) (As := [.int 0, .int 1]) ok_X7_layBest vi_X7_layBest cl_7_326 (n := 2) (by decide +kernel) rfl rfl rfl rfl (by decide) (by decide) (dk_X7_foundling 68 _ rfl) (jev_ct (M := m_X7_layBest) rfl rc7_29) ?_
                      show J _ _ _ _ _ _ _ _ _ [] _ _
                      refine J_aload_n (i := 0) (a := 0) rfl rfl (dk_X7_foundling 71 _ rfl) ?_
                      refine J_dup rfl (dk_X7_foundling 72 _ rfl) ?_
                      refine J_getf fl_7_7 rfl rfl (dk_X7_foundling 73 _ rfl) ?_
                      refine J_iconst (v := 1) (by decide) (dk_X7_foundling 76 _ rfl) ?_
                      refine J_isubC (v := 0) (by decide) (dk_X7_foundling 77 _ rfl) ?_
                      refine J_putf fl_7_7 rfl (fun q hq => by cases hq; rfl) trivial (Nat.le_of_ble_eq_true rfl) (dk_X7_foundling 78 _ rfl) ?_
                      refine J_iload_n (i := 2) (a := 2) rfl rfl (dk_X7_foundling 81 _ rfl) ?_
                      refine J_ifT (tgt := 92) (by decide) (dk_X7_foundling 82 _ rfl) (jI_ne (by decide : (1 : Int32).toInt = 1) (by decide : (0 : Int32).toInt = 0) (by omega)) ?_
                      refine J_aload_n (i := 0) (a := 0) rfl rfl (dk_X7_foundling 92 _ rfl) ?_
                      refine J_getf fl_7_117 rfl rfl (dk_X7_foundling 93 _ rfl) ?_
                      exact J_iret rfl rfl (dk_X7_foundling 96 _ rfl) ⟨rfl, rfl⟩
                  · by_cases c25 : (d : Int32).toInt = 4
                    · obtain rfl : d = 4 := jI_eq rfl (by decide) c25
                      refine ⟨100, ?_, ?_⟩
                      · refine jCt_of ok_X6_foundling (fun _ _ => Nat.le_of_ble_eq_true rfl) (fun _ _ hq => Nat.le_of_eq (lX.trans hq.2.symm)) ?_
                        show J _ _ _ _ _ _ _ _ [(0, .ref 0), (1, .int 4), (2, .int 1)] _ _ _
                        refine J_iload_n (i := 2) (a := 2) rfl rfl (dk_X6_foundling 0 _ rfl) ?_
                        refine J_ifF (tgt := 9) (by decide) (dk_X6_foundling 1 _ rfl) (jI_nlt (by decide : (1 : Int32).toInt = 1) (by decide : (0 : Int32).toInt = 0) (by omega)) ?_
                        refine J_iload_n (i := 2) (a := 2) rfl rfl (dk_X6_foundling 4 _ rfl) ?_
                        refine J_iconst (v := 1) (by decide) (dk_X6_foundling 5 _ rfl) ?_
                        refine J_icT (tgt := 12) (by decide) (dk_X6_foundling 6 _ rfl) (jI_le (by decide : (1 : Int32).toInt = 1) (by decide : (1 : Int32).toInt = 1) (by omega)) ?_
                        refine J_iload_n (i := 1) (a := 1) rfl rfl (dk_X6_foundling 12 _ rfl) ?_
                        refine J_cS (rv := some (.int 1)) (h' := hN0) (d' := 11) (As := [.int 4]) ok_X6_isDay st_X6_isDay cl_6_67 rfl (n := 1) (by decide +kernel) rfl (by decide) (by decide) (dk_X6_foundling 13 _ rfl) ?_ ?_
                        · refine jCt_of ok_X6_isDay (fun _ _ => Nat.le_of_ble_eq_true rfl) (fun _ _ hq => by rw [hq.2]; first | exact Nat.le_refl _ | simp) ?_
                          show J _ _ _ _ _ _ _ _ [(0, .int 4)] _ _ _
                          refine J_iload_n (i := 0) (a := 0) rfl rfl (dk_X6_isDay 0 _ rfl) ?_
                          refine J_ifF (tgt := 14) (by decide) (dk_X6_isDay 1 _ rfl) (jI_nlt (by decide : (4 : Int32).toInt = 4) (by decide : (0 : Int32).toInt = 0) (by omega)) ?_
                          refine J_iload_n (i := 0) (a := 0) rfl rfl (dk_X6_isDay 4 _ rfl) ?_
                          refine J_bipush (v := 12) (by decide) (dk_X6_isDay 5 _ rfl) ?_
                          refine J_icF (tgt := 14) (by decide) (dk_X6_isDay 7 _ rfl) (jI_nle (by decide : (12 : Int32).toInt = 12) (by decide : (4 : Int32).toInt = 4) (by omega)) ?_
                          refine J_iconst (v := 1) (by decide) (dk_X6_isDay 10 _ rfl) ?_
                          refine J_goto (tgt := 15) (by decide) (dk_X6_isDay 11 _ rfl) ?_
                          exact J_iret rfl rfl (dk_X6_isDay 15 _ rfl) ⟨rfl, rfl⟩
                        show J _ _ _ _ _ _ _ _ _ [.int 1] _ _
                        refine J_ifT (tgt := 22) (by decide) (dk_X6_foundling 16 _ rfl) (jI_ne (by decide : (1 : Int32).toInt = 1) (by decide : (0 : Int32).toInt = 0) (by omega)) ?_
                        refine J_aload_n (i := 0) (a := 0) rfl rfl (dk_X6_foundling 22 _ rfl) ?_
                        refine J_getf fl_6_47 rfl rfl (dk_X6_foundling 23 _ rfl) ?_
                        refine J_getf fl_6_71 rfl rfl (dk_X6_foundling 26 _ rfl) ?_
                        refine J_bipush (v := 7) (by decide) (dk_X6_foundling 29 _ rfl) ?_
                        refine J_icT (tgt := 37) (by decide) (dk_X6_foundling 31 _ rfl) (jI_lt (by decide : (0 : Int32).toInt = 0) (by decide : (7 : Int32).toInt = 7) (by omega)) ?_
                        refine J_aload_n (i := 0) (a := 0) rfl rfl (dk_X6_foundling 37 _ rfl) ?_
                        refine J_getf fl_6_54 rfl rfl (dk_X6_foundling 38 _ rfl) ?_
                        refine J_aload_n (i := 0) (a := 0) rfl rfl (dk_X6_foundling 41 _ rfl) ?_
                        refine J_getf fl_6_47 rfl rfl (dk_X6_foundling 42 _ rfl) ?_
                        refine J_cV (rv := none) (h' := hN0) (d' := 11) (As := [.ref 14]) ok_X2_copy vi_X2_copy cl_6_185 (n := 1) (by decide +kernel) rfl rfl rfl rfl (by decide) (by decide) (dk_X6_foundling 45 _ rfl) (jev_ct (M := m_X2_copy) rfl rc6_0) ?_
                        show J _ _ _ _ _ _ _ _ _ [] _ _
                        refine J_aload_n (i := 0) (a := 0) rfl rfl (dk_X6_foundling 48 _ rfl) ?_
                        refine J_getf fl_6_54 rfl rfl (dk_X6_foundling 49 _ rfl) ?_
                        refine J_iconst (v := 0) (by decide) (dk_X6_foundling 52 _ rfl) ?_
                        refine J_iconst (v := 0) (by decide) (dk_X6_foundling 53 _ rfl) ?_
                        refine J_iconst (v := 0) (by decide) (dk_X6_foundling 54 _ rfl) ?_
                        refine J_iload_n (i := 1) (a := 1) rfl rfl (dk_X6_foundling 55 _ rfl) ?_
                        refine J_cV (rv := none) (h' := hC6_31) (d' := 11) (As := [.int 0, .int 0, .int 0, .int 4]) ok_X2_add vi_X2_add cl_6_75 (n := 4) (by decide +kernel) rfl rfl rfl rfl (by decide) (by decide) (dk_X6_foundling 56 _ rfl) (jev_ct (M := m_X2_add) rfl rc6_31) ?_
                        show J _ _ _ _ _ _ _ _ _ [] _ _
                        refine J_aload_n (i := 0) (a := 0) rfl rfl (dk_X6_foundling 59 _ rfl) ?_
                        refine J_aload_n (i := 0) (a := 0) rfl rfl (dk_X6_foundling 60 _ rfl) ?_
                        refine J_getf fl_6_54 rfl rfl (dk_X6_foundling 61 _ rfl) ?_
                        refine J_getf fl_6_103 rfl rfl (dk_X6_foundling 64 _ rfl) ?_
                        refine J_aload_n (i := 0) (a := 0) rfl rfl (dk_X6_foundling 67 _ rfl) ?_
                        refine J_getf fl_6_54 rfl rfl (dk_X6_foundling 68 _ rfl) ?_
                        refine J_getf fl_6_71 rfl rfl (dk_X6_foundling 71 _ rfl) ?_
                        refine J_iconst (v := 1) (by decide) (dk_X6_foundling 74 _ rfl) ?_
                        refine J_isubC (v := 0) (by decide) (dk_X6_foundling 75 _ rfl) ?_
                        refine J_iload_n (i := 2) (a := 2) rfl rfl (dk_X6_foundling 76 _ rfl) ?_
                        refine J_cV (rv := some (.int 100)) (h' := hC6_32) (d' := 11) (As := [.ref 35, .int 0, .int 1]) ok_X6_bestOf vi_X6_bestOf cl_6_188 (n := 3) (by decide +kernel) rfl rfl rfl rfl (by decide) (by decide) (dk_X6_foundling 77 _ rfl) ?_ ?_
                        · refine jCt_of ok_X6_bestOf (fun _ _ => Nat.le_of_ble_eq_true rfl) (fun _ _ hq => by rw [hq.2]; first | exact Nat.le_refl _ | simp) ?_
                          show J _ _ _ _ _ _ _ _ [(0, .ref 0), (1, .ref 35), (2, .int 0), (3, .int 1)] _ _ _
                          refine J_aload_n (i := 0) (a := 0) rfl rfl (dk_X6_bestOf 0 _ rfl) ?_
                          refine J_aload_n (i := 1) (a := 1) rfl rfl (dk_X6_bestOf 1 _ rfl) ?_
                          refine J_iload_n (i := 2) (a := 2) rfl rfl (dk_X6_bestOf 2 _ rfl) ?_
                          refine J_aload_n (i := 0) (a := 0) rfl rfl (dk_X6_bestOf 3 _ rfl) ?_
                          refine J_getf fl_6_54 rfl rfl (dk_X6_bestOf 4 _ rfl) ?_
                          refine J_getf fl_6_83 rfl rfl (dk_X6_bestOf 7 _ rfl) ?_
                          refine J_getf fl_6_87 rfl rfl (dk_X6_bestOf 10 _ rfl) ?_
                          refine J_cV (rv := none) (h' := hC6_32) (d' := 10) (As := [.ref 35, .int 0, .int 10]) ok_X6_tryDays vi_X6_tryDays cl_6_192 (n := 3) (by decide +kernel) rfl rfl rfl rfl (by decide) (by decide) (dk_X6_bestOf 13 _ rfl) (jev_ct (M := m_X6_tryDays) rfl rc6_32) ?_
                          show J _ _ _ _ _ _ _ _ _ [] _ _
                          refine J_aload_n (i := 0) (a := 0) rfl rfl (dk_X6_bestOf 16 _ rfl) ?_
                          refine J_cV (rv := some (.int 0)) (h' := hC6_32) (d' := 10) (As := []) ok_X6_firstMost vi_X6_firstMost cl_6_269 (n := 0) (by decide +kernel) rfl rfl rfl rfl (by decide) (by decide) (dk_X6_bestOf 17 _ rfl) (jev_ct (M := m_X6_firstMost) rfl rc6_33) ?_
                          show J _ _ _ _ _ _ _ _ _ [.int 0] _ _
                          refine J_istore (i := 4) (by decide) (dk_X6_bestOf 20 _ rfl) ?_
                          show J _ _ _ _ _ _ _ _ [(4, .int 0), (0, .ref 0), (1, .ref 35), (2, .int 0), (3, .int 1)] _ _ _
                          refine J_iload_n (i := 3) (a := 3) rfl rfl (dk_X6_bestOf 22 _ rfl) ?_
                          refine J_ifT (tgt := 31) (by decide) (dk_X6_bestOf 23 _ rfl) (jI_ne (by decide : (1 : Int32).toInt = 1) (by decide : (0 : Int32).toInt = 0) (by omega)) ?_
                          refine J_aload_n (i := 0) (a := 0) rfl rfl (dk_X6_bestOf 31 _ rfl) ?_
                          refine J_getf fl_6_11 rfl rfl (dk_X6_bestOf 32 _ rfl) ?_
                          refine J_iload (i := 4) rfl (dk_X6_bestOf 35 _ rfl) ?_
                          refine J_iald rfl (by decide) rfl (dk_X6_bestOf 37 _ rfl) ?_
                          exact J_iret rfl rfl (dk_X6_bestOf 38 _ rfl) ⟨rfl, rfl⟩
                        show J _ _ _ _ _ _ _ _ _ [.int 100] _ _
                        exact J_iret rfl rfl (dk_X6_foundling 80 _ rfl) ⟨rfl, rfl⟩
                      · refine jCt_of ok_X7_foundling (fun _ _ => Nat.le_of_ble_eq_true rfl) (fun _ _ hq => Nat.le_of_eq (lM.trans hq.2.symm)) ?_
                        show J _ _ _ _ _ _ _ _ [(0, .ref 0), (1, .int 4), (2, .int 1)] _ _ _
                        refine J_aload_n (i := 0) (a := 0) rfl rfl (dk_X7_foundling 0 _ rfl) ?_
                        refine J_iload_n (i := 2) (a := 2) rfl rfl (dk_X7_foundling 1 _ rfl) ?_
                        refine J_iconst (v := 0) (by decide) (dk_X7_foundling 2 _ rfl) ?_
                        refine J_iconst (v := 1) (by decide) (dk_X7_foundling 3 _ rfl) ?_
                        refine J_cV (rv := some (.int 1)) (h' := hM0) (d' := 11) (As := [.int 1, .int 0, .int 1]) ok_X7_in vi_X7_in cl_7_194 (n := 3) (by decide +kernel) rfl rfl rfl rfl (by decide) (by decide) (dk_X7_foundling 4 _ rfl) ?_ ?_
                        · refine jCt_of ok_X7_in (fun _ _ => Nat.le_of_ble_eq_true rfl) (fun _ _ hq => by rw [hq.2]; first | exact Nat.le_refl _ | simp) ?_
                          show J _ _ _ _ _ _ _ _ [(0, .ref 0), (1, .int 1), (2, .int 0), (3, .int 1)] _ _ _
                          refine J_iload_n (i := 1) (a := 1) rfl rfl (dk_X7_in 0 _ rfl) ?_
                          refine J_iload_n (i := 2) (a := 2) rfl rfl (dk_X7_in 1 _ rfl) ?_
                          refine J_icF (tgt := 14) (by decide) (dk_X7_in 2 _ rfl) (jI_nlt (by decide : (1 : Int32).toInt = 1) (by decide : (0 : Int32).toInt = 0) (by omega)) ?_
                          refine J_iload_n (i := 1) (a := 1) rfl rfl (dk_X7_in 5 _ rfl) ?_
                          refine J_iload_n (i := 3) (a := 3) rfl rfl (dk_X7_in 6 _ rfl) ?_
                          refine J_icF (tgt := 14) (by decide) (dk_X7_in 7 _ rfl) (jI_nlt (by decide : (1 : Int32).toInt = 1) (by decide : (1 : Int32).toInt = 1) (by omega)) ?_
                          refine J_iconst (v := 1) (by decide) (dk_X7_in 10 _ rfl) ?_
                          refine J_goto (tgt := 15) (by decide) (dk_X7_in 11 _ rfl) ?_
                          exact J_iret rfl rfl (dk_X7_in 15 _ rfl) ⟨rfl, rfl⟩
                        show J _ _ _ _ _ _ _ _ _ [.int 1] _ _
                        refine J_ifT (tgt := 14) (by decide) (dk_X7_foundling 7 _ rfl) (jI_ne (by decide : (1 : Int32).toInt = 1) (by decide : (0 : Int32).toInt = 0) (by omega)) ?_
                        refine J_aload_n (i := 0) (a := 0) rfl rfl (dk_X7_foundling 14 _ rfl) ?_
                        refine J_iload_n (i := 1) (a := 1) rfl rfl (dk_X7_foundling 15 _ rfl) ?_
                        refine J_cV (rv := some (.int 1)) (h' := hM0) (d' := 11) (As := [.int 4]) ok_X7_isDay vi_X7_isDay cl_7_198 (n := 1) (by decide +kernel) rfl rfl rfl rfl (by decide) (by decide) (dk_X7_foundling 16 _ rfl) ?_ ?_
                        · refine jCt_of ok_X7_isDay (fun _ _ => Nat.le_of_ble_eq_true rfl) (fun _ _ hq => by rw [hq.2]; first | exact Nat.le_refl _ | simp) ?_
                          show J _ _ _ _ _ _ _ _ [(0, .ref 0), (1, .int 4)] _ _ _
                          refine J_aload_n (i := 0) (a := 0) rfl rfl (dk_X7_isDay 0 _ rfl) ?_
                          refine J_iload_n (i := 1) (a := 1) rfl rfl (dk_X7_isDay 1 _ rfl) ?_
                          refine J_iconst (v := 0) (by decide) (dk_X7_isDay 2 _ rfl) ?_
                          refine J_bipush (v := 11) (by decide) (dk_X7_isDay 3 _ rfl) ?_
                          refine J_cV (rv := some (.int 1)) (h' := hM0) (d' := 10) (As := [.int 4, .int 0, .int 11]) ok_X7_in vi_X7_in cl_7_194 (n := 3) (by decide +kernel) rfl rfl rfl rfl (by decide) (by decide) (dk_X7_isDay 5 _ rfl) ?_ ?_
                          · refine jCt_of ok_X7_in (fun _ _ => Nat.le_of_ble_eq_true rfl) (fun _ _ hq => by rw [hq.2]; first | exact Nat.le_refl _ | simp) ?_
                            show J _ _ _ _ _ _ _ _ [(0, .ref 0), (1, .int 4), (2, .int 0), (3, .int 11)] _ _ _
                            refine J_iload_n (i := 1) (a := 1) rfl rfl (dk_X7_in 0 _ rfl) ?_
                            refine J_iload_n (i := 2) (a := 2) rfl rfl (dk_X7_in 1 _ rfl) ?_
                            refine J_icF (tgt := 14) (by decide) (dk_X7_in 2 _ rfl) (jI_nlt (by decide : (4 : Int32).toInt = 4) (by decide : (0 : Int32).toInt = 0) (by omega)) ?_
                            refine J_iload_n (i := 1) (a := 1) rfl rfl (dk_X7_in 5 _ rfl) ?_
                            refine J_iload_n (i := 3) (a := 3) rfl rfl (dk_X7_in 6 _ rfl) ?_
                            refine J_icF (tgt := 14) (by decide) (dk_X7_in 7 _ rfl) (jI_nlt (by decide : (11 : Int32).toInt = 11) (by decide : (4 : Int32).toInt = 4) (by omega)) ?_
                            refine J_iconst (v := 1) (by decide) (dk_X7_in 10 _ rfl) ?_
                            refine J_goto (tgt := 15) (by decide) (dk_X7_in 11 _ rfl) ?_
                            exact J_iret rfl rfl (dk_X7_in 15 _ rfl) ⟨rfl, rfl⟩
                          show J _ _ _ _ _ _ _ _ _ [.int 1] _ _
                          exact J_iret rfl rfl (dk_X7_isDay 8 _ rfl) ⟨rfl, rfl⟩
                        show J _ _ _ _ _ _ _ _ _ [.int 1] _ _
                        refine J_ifT (tgt := 26) (by decide) (dk_X7_foundling 19 _ rfl) (jI_ne (by decide : (1 : Int32).toInt = 1) (by decide : (0 : Int32).toInt = 0) (by omega)) ?_
                        refine J_aload_n (i := 0) (a := 0) rfl rfl (dk_X7_foundling 26 _ rfl) ?_
                        refine J_getf fl_7_7 rfl rfl (dk_X7_foundling 27 _ rfl) ?_
                        refine J_bipush (v := 7) (by decide) (dk_X7_foundling 30 _ rfl) ?_
                        refine J_icT (tgt := 38) (by decide) (dk_X7_foundling 32 _ rfl) (jI_ne (by decide : (0 : Int32).toInt = 0) (by decide : (7 : Int32).toInt = 7) (by omega)) ?_
                        refine J_aload_n (i := 0) (a := 0) rfl rfl (dk_X7_foundling 38 _ rfl) ?_
                        refine J_aload_n (i := 0) (a := 0) rfl rfl (dk_X7_foundling 39 _ rfl) ?_
                        refine J_getf fl_7_7 rfl rfl (dk_X7_foundling 40 _ rfl) ?_
                        refine J_iconst (v := 0) (by decide) (dk_X7_foundling 43 _ rfl) ?_
                        refine J_iconst (v := 0) (by decide) (dk_X7_foundling 44 _ rfl) ?_
                        refine J_iconst (v := 0) (by decide) (dk_X7_foundling 45 _ rfl) ?_
                        refine J_iload_n (i := 1) (a := 1) rfl rfl (dk_X7_foundling 46 _ rfl) ?_
                        refine J_cV (rv := none) (h' := hC7_34) (d' := 11) (As := [.int 0, .int 0, .int 0, .int 0, .int 4]) ok_X7_lay vi_X7_lay cl_7_202 (n := 5) (by decide +kernel) rfl rfl rfl rfl (by decide) (by decide) (dk_X7_foundling 47 _ rfl) (jev_ct (M := m_X7_lay) rfl rc7_34) ?_
                        show J _ _ _ _ _ _ _ _ _ [] _ _
                        refine J_aload_n (i := 0) (a := 0) rfl rfl (dk_X7_foundling 50 _ rfl) ?_
                        refine J_dup rfl (dk_X7_foundling 51 _ rfl) ?_
                        refine J_getf fl_7_7 rfl rfl (dk_X7_foundling 52 _ rfl) ?_
                        refine J_iconst (v := 1) (by decide) (dk_X7_foundling 55 _ rfl) ?_
                        refine J_iaddC (v := 1) (by decide) (dk_X7_foundling 56 _ rfl) ?_
                        refine J_putf fl_7_7 rfl (fun q hq => by cases hq; rfl) trivial (Nat.le_of_ble_eq_true rfl) (dk_X7_foundling 57 _ rfl) ?_
                        refine J_aload_n (i := 0) (a := 0) rfl rfl (dk_X7_foundling 60 _ rfl) ?_
                        refine J_aload_n (i := 0) (a := 0) rfl rfl (dk_X7_foundling 61 _ rfl) ?_
                        refine J_getf fl_7_7 rfl rfl (dk_X7_foundling 62 _ rfl) ?_
                        refine J_iconst (v := 1) (by decide) (dk_X7_foundling 65 _ rfl) ?_
                        refine J_isubC (v := 0) (by decide) (dk_X7_foundling 66 _ rfl) ?_
                        refine J_iconst (v := 1) (by decide) (dk_X7_foundling 67 _ rfl) ?_
                        refine J_cV (rv := none) (h' := hC7_35) (d' := 11) (As := [.int 0, .int 1]) ok_X7_layBest vi_X7_layBest cl_7_326 (n := 2) (by decide +kernel) rfl rfl rfl rfl (by decide) (by decide) (dk_X7_foundling 68 _ rfl) (jev_ct (M := m_X7_layBest) rfl rc7_35) ?_
                        show J _ _ _ _ _ _ _ _ _ [] _ _
                        refine J_aload_n (i := 0) (a := 0) rfl rfl (dk_X7_foundling 71 _ rfl) ?_
                        refine J_dup rfl (dk_X7_foundling 72 _ rfl) ?_
                        refine J_getf fl_7_7 rfl rfl (dk_X7_foundling 73 _ rfl) ?_
                        refine J_iconst (v := 1) (by decide) (dk_X7_foundling 76 _ rfl) ?_
                        refine J_isubC (v := 0) (by decide) (dk_X7_foundling 77 _ rfl) ?_
                        refine J_putf fl_7_7 rfl (fun q hq => by cases hq; rfl) trivial (Nat.le_of_ble_eq_true rfl) (dk_X7_foundling 78 _ rfl) ?_
                        refine J_iload_n (i := 2) (a := 2) rfl rfl (dk_X7_foundling 81 _ rfl) ?_
                        refine J_ifT (tgt := 92) (by decide) (dk_X7_foundling 82 _ rfl) (jI_ne (by decide : (1 : Int32).toInt = 1) (by decide : (0 : Int32).toInt = 0) (by omega)) ?_
                        refine J_aload_n (i := 0) (a := 0) rfl rfl (dk_X7_foundling 92 _ rfl) ?_
                        refine J_getf fl_7_117 rfl rfl (dk_X7_foundling 93 _ rfl) ?_
                        exact J_iret rfl rfl (dk_X7_foundling 96 _ rfl) ⟨rfl, rfl⟩
                    · by_cases c26 : (d : Int32).toInt = 5
                      · obtain rfl : d = 5 := jI_eq rfl (by decide) c26
                        refine ⟨100, ?_, ?_⟩
                        · refine jCt_of ok_X6_foundling (fun _ _ => Nat.le_of_ble_eq_true rfl) (fun _ _ hq => Nat.le_of_eq (lX.trans hq.2.symm)) ?_
                          show J _ _ _ _ _ _ _ _ [(0, .ref 0), (1, .int 5), (2, .int 1)] _ _ _
                          refine J_iload_n (i := 2) (a := 2) rfl rfl (dk_X6_foundling 0 _ rfl) ?_
                          refine J_ifF (tgt := 9) (by decide) (dk_X6_foundling 1 _ rfl) (jI_nlt (by decide : (1 : Int32).toInt = 1) (by decide : (0 : Int32).toInt = 0) (by omega)) ?_
                          refine J_iload_n (i := 2) (a := 2) rfl rfl (dk_X6_foundling 4 _ rfl) ?_
                          refine J_iconst (v := 1) (by decide) (dk_X6_foundling 5 _ rfl) ?_
                          refine J_icT (tgt := 12) (by decide) (dk_X6_foundling 6 _ rfl) (jI_le (by decide : (1 : Int32).toInt = 1) (by decide : (1 : Int32).toInt = 1) (by omega)) ?_
                          refine J_iload_n (i := 1) (a := 1) rfl rfl (dk_X6_foundling 12 _ rfl) ?_
                          refine J_cS (rv := some (.int 1)) (h' := hN0) (d' := 11) (As := [.int 5]) ok_X6_isDay st_X6_isDay cl_6_67 rfl (n := 1) (by decide +kernel) rfl (by decide) (by decide) (dk_X6_foundling 13 _ rfl) ?_ ?_
                          · refine jCt_of ok_X6_isDay (fun _ _ => Nat.le_of_ble_eq_true rfl) (fun _ _ hq => by rw [hq.2]; first | exact Nat.le_refl _ | simp) ?_
                            show J _ _ _ _ _ _ _ _ [(0, .int 5)] _ _ _
                            refine J_iload_n (i := 0) (a := 0) rfl rfl (dk_X6_isDay 0 _ rfl) ?_
                            refine J_ifF (tgt := 14) (by decide) (dk_X6_isDay 1 _ rfl) (jI_nlt (by decide : (5 : Int32).toInt = 5) (by decide : (0 : Int32).toInt = 0) (by omega)) ?_
                            refine J_iload_n (i := 0) (a := 0) rfl rfl (dk_X6_isDay 4 _ rfl) ?_
                            refine J_bipush (v := 12) (by decide) (dk_X6_isDay 5 _ rfl) ?_
                            refine J_icF (tgt := 14) (by decide) (dk_X6_isDay 7 _ rfl) (jI_nle (by decide : (12 : Int32).toInt = 12) (by decide : (5 : Int32).toInt = 5) (by omega)) ?_
                            refine J_iconst (v := 1) (by decide) (dk_X6_isDay 10 _ rfl) ?_
                            refine J_goto (tgt := 15) (by decide) (dk_X6_isDay 11 _ rfl) ?_
                            exact J_iret rfl rfl (dk_X6_isDay 15 _ rfl) ⟨rfl, rfl⟩
                          show J _ _ _ _ _ _ _ _ _ [.int 1] _ _
                          refine J_ifT (tgt := 22) (by decide) (dk_X6_foundling 16 _ rfl) (jI_ne (by decide : (1 : Int32).toInt = 1) (by decide : (0 : Int32).toInt = 0) (by omega)) ?_
                          refine J_aload_n (i := 0) (a := 0) rfl rfl (dk_X6_foundling 22 _ rfl) ?_
                          refine J_getf fl_6_47 rfl rfl (dk_X6_foundling 23 _ rfl) ?_
                          refine J_getf fl_6_71 rfl rfl (dk_X6_foundling 26 _ rfl) ?_
                          refine J_bipush (v := 7) (by decide) (dk_X6_foundling 29 _ rfl) ?_
                          refine J_icT (tgt := 37) (by decide) (dk_X6_foundling 31 _ rfl) (jI_lt (by decide : (0 : Int32).toInt = 0) (by decide : (7 : Int32).toInt = 7) (by omega)) ?_
                          refine J_aload_n (i := 0) (a := 0) rfl rfl (dk_X6_foundling 37 _ rfl) ?_
                          refine J_getf fl_6_54 rfl rfl (dk_X6_foundling 38 _ rfl) ?_
                          refine J_aload_n (i := 0) (a := 0) rfl rfl (dk_X6_foundling 41 _ rfl) ?_
                          refine J_getf fl_6_47 rfl rfl (dk_X6_foundling 42 _ rfl) ?_
                          refine J_cV (rv := none) (h' := hN0) (d' := 11) (As := [.ref 14]) ok_X2_copy vi_X2_copy cl_6_185 (n := 1) (by decide +kernel) rfl rfl rfl rfl (by decide) (by decide) (dk_X6_foundling 45 _ rfl) (jev_ct (M := m_X2_copy) rfl rc6_0) ?_
                          show J _ _ _ _ _ _ _ _ _ [] _ _
                          refine J_aload_n (i := 0) (a := 0) rfl rfl (dk_X6_foundling 48 _ rfl) ?_
                          refine J_getf fl_6_54 rfl rfl (dk_X6_foundling 49 _ rfl) ?_
                          refine J_iconst (v := 0) (by decide) (dk_X6_foundling 52 _ rfl) ?_
                          refine J_iconst (v := 0) (by decide) (dk_X6_foundling 53 _ rfl) ?_
                          refine J_iconst (v := 0) (by decide) (dk_X6_foundling 54 _ rfl) ?_
                          refine J_iload_n (i := 1) (a := 1) rfl rfl (dk_X6_foundling 55 _ rfl) ?_
                          refine J_cV (rv := none) (h' := hC6_37) (d' := 11) (As := [.int 0, .int 0, .int 0, .int 5]) ok_X2_add vi_X2_add cl_6_75 (n := 4) (by decide +kernel) rfl rfl rfl rfl (by decide) (by decide) (dk_X6_foundling 56 _ rfl) (jev_ct (M := m_X2_add) rfl rc6_37) ?_
                          show J _ _ _ _ _ _ _ _ _ [] _ _
                          refine J_aload_n (i := 0) (a := 0) rfl rfl (dk_X6_foundling 59 _ rfl) ?_
                          refine J_aload_n (i := 0) (a := 0) rfl rfl (dk_X6_foundling 60 _ rfl) ?_
                          refine J_getf fl_6_54 rfl rfl (dk_X6_foundling 61 _ rfl) ?_
                          refine J_getf fl_6_103 rfl rfl (dk_X6_foundling 64 _ rfl) ?_
                          refine J_aload_n (i := 0) (a := 0) rfl rfl (dk_X6_foundling 67 _ rfl) ?_
                          refine J_getf fl_6_54 rfl rfl (dk_X6_foundling 68 _ rfl) ?_
                          refine J_getf fl_6_71 rfl rfl (dk_X6_foundling 71 _ rfl) ?_
                          refine J_iconst (v := 1) (by decide) (dk_X6_foundling 74 _ rfl) ?_
                          refine J_isubC (v := 0) (by decide) (dk_X6_foundling 75 _ rfl) ?_
                          refine J_iload_n (i := 2) (a := 2) rfl rfl (dk_X6_foundling 76 _ rfl) ?_
                          refine J_cV (rv := some (.int 100)) (h' := hC6_38) (d' := 11) (As := [.ref 35, .int 0, .int 1]) ok_X6_bestOf vi_X6_bestOf cl_6_188 (n := 3) (by decide +kernel) rfl rfl rfl rfl (by decide) (by decide) (dk_X6_foundling 77 _ rfl) ?_ ?_
                          · refine jCt_of ok_X6_bestOf (fun _ _ => Nat.le_of_ble_eq_true rfl) (fun _ _ hq => by rw [hq.2]; first | exact Nat.le_refl _ | simp) ?_
                            show J _ _ _ _ _ _ _ _ [(0, .ref 0), (1, .ref 35), (2, .int 0), (3, .int 1)] _ _ _
                            refine J_aload_n (i := 0) (a := 0) rfl rfl (dk_X6_bestOf 0 _ rfl) ?_
                            refine J_aload_n (i := 1) (a := 1) rfl rfl (dk_X6_bestOf 1 _ rfl) ?_
                            refine J_iload_n (i := 2) (a := 2) rfl rfl (dk_X6_bestOf 2 _ rfl) ?_
                            refine J_aload_n (i := 0) (a := 0) rfl rfl (dk_X6_bestOf 3 _ rfl) ?_
                            refine J_getf fl_6_54 rfl rfl (dk_X6_bestOf 4 _ rfl) ?_
                            refine J_getf fl_6_83 rfl rfl (dk_X6_bestOf 7 _ rfl) ?_
                            refine J_getf fl_6_87 rfl rfl (dk_X6_bestOf 10 _ rfl) ?_
                            refine J_cV (rv := none) (h' := hC6_38) (d' := 10) (As := [.ref 35, .int 0, .int 10]) ok_X6_tryDays vi_X6_tryDays cl_6_192 (n := 3) (by decide +kernel) rfl rfl rfl rfl (by decide) (by decide) (dk_X6_bestOf 13 _ rfl) (jev_ct (M := m_X6_tryDays) rfl rc6_38) ?_
                            show J _ _ _ _ _ _ _ _ _ [] _ _
                            refine J_aload_n (i := 0) (a := 0) rfl rfl (dk_X6_bestOf 16 _ rfl) ?_
                            refine J_cV (rv := some (.int 0)) (h' := hC6_38) (d' := 10) (As := []) ok_X6_firstMost vi_X6_firstMost cl_6_269 (n := 0) (by decide +kernel) rfl rfl rfl rfl (by decide) (by decide) (dk_X6_bestOf 17 _ rfl) (jev_ct (M := m_X6_firstMost) rfl rc6_39) ?_
                            show J _ _ _ _ _ _ _ _ _ [.int 0] _ _
                            refine J_istore (i := 4) (by decide) (dk_X6_bestOf 20 _ rfl) ?_
                            show J _ _ _ _ _ _ _ _ [(4, .int 0), (0, .ref 0), (1, .ref 35), (2, .int 0), (3, .int 1)] _ _ _
                            refine J_iload_n (i := 3) (a := 3) rfl rfl (dk_X6_bestOf 22 _ rfl) ?_
                            refine J_ifT (tgt := 31) (by decide) (dk_X6_bestOf 23 _ rfl) (jI_ne (by decide : (1 : Int32).toInt = 1) (by decide : (0 : Int32).toInt = 0) (by omega)) ?_
                            refine J_aload_n (i := 0) (a := 0) rfl rfl (dk_X6_bestOf 31 _ rfl) ?_
                            refine J_getf fl_6_11 rfl rfl (dk_X6_bestOf 32 _ rfl) ?_
                            refine J_iload (i := 4) rfl (dk_X6_bestOf 35 _ rfl) ?_
                            refine J_iald rfl (by decide) rfl (dk_X6_bestOf 37 _ rfl) ?_
                            exact J_iret rfl rfl (dk_X6_bestOf 38 _ rfl) ⟨rfl, rfl⟩
                          show J _ _ _ _ _ _ _ _ _ [.int 100] _ _
                          exact J_iret rfl rfl (dk_X6_foundling 80 _ rfl) ⟨rfl, rfl⟩
                        · refine jCt_of ok_X7_foundling (fun _ _ => Nat.le_of_ble_eq_true rfl) (fun _ _ hq => Nat.le_of_eq (lM.trans hq.2.symm)) ?_
                          show J _ _ _ _ _ _ _ _ [(0, .ref 0), (1, .int 5), (2, .int 1)] _ _ _
                          refine J_aload_n (i := 0) (a := 0) rfl rfl (dk_X7_foundling 0 _ rfl) ?_
                          refine J_iload_n (i := 2) (a := 2) rfl rfl (dk_X7_foundling 1 _ rfl) ?_
                          refine J_iconst (v := 0) (by decide) (dk_X7_foundling 2 _ rfl) ?_
                          refine J_iconst (v := 1) (by decide) (dk_X7_foundling 3 _ rfl) ?_
                          refine J_cV (rv := some (.int 1)) (h' := hM0) (d' := 11) (As := [.int 1, .int 0, .int 1]) ok_X7_in vi_X7_in cl_7_194 (n := 3) (by decide +kernel) rfl rfl rfl rfl (by decide) (by decide) (dk_X7_foundling 4 _ rfl) ?_ ?_
                          · refine jCt_of ok_X7_in (fun _ _ => Nat.le_of_ble_eq_true rfl) (fun _ _ hq => by rw [hq.2]; first | exact Nat.le_refl _ | simp) ?_
                            show J _ _ _ _ _ _ _ _ [(0, .ref 0), (1, .int 1), (2, .int 0), (3, .int 1)] _ _ _
                            refine J_iload_n (i := 1) (a := 1) rfl rfl (dk_X7_in 0 _ rfl) ?_
                            refine J_iload_n (i := 2) (a := 2) rfl rfl (dk_X7_in 1 _ rfl) ?_
                            refine J_icF (tgt := 14) (by decide) (dk_X7_in 2 _ rfl) (jI_nlt (by decide : (1 : Int32).toInt = 1) (by decide : (0 : Int32).toInt = 0) (by omega)) ?_
                            refine J_iload_n (i := 1) (a := 1) rfl rfl (dk_X7_in 5 _ rfl) ?_
                            refine J_iload_n (i := 3) (a := 3) rfl rfl (dk_X7_in 6 _ rfl) ?_
                            refine J_icF (tgt := 14) (by decide) (dk_X7_in 7 _ rfl) (jI_nlt (by decide : (1 : Int32).toInt = 1) (by decide : (1 : Int32).toInt = 1) (by omega)) ?_
                            refine J_iconst (v := 1) (by decide) (dk_X7_in 10 _ rfl) ?_
                            refine J_goto (tgt := 15) (by decide) (dk_X7_in 11 _ rfl) ?_
                            exact J_iret rfl rfl (dk_X7_in 15 _ rfl) ⟨rfl, rfl⟩
                          show J _ _ _ _ _ _ _ _ _ [.int 1] _ _
                          refine J_ifT (tgt := 14) (by decide) (dk_X7_foundling 7 _ rfl) (jI_ne (by decide : (1 : Int32).toInt = 1) (by decide : (0 : Int32).toInt = 0) (by omega)) ?_
                          refine J_aload_n (i := 0) (a := 0) rfl rfl (dk_X7_foundling 14 _ rfl) ?_
                          refine J_iload_n (i := 1) (a := 1) rfl rfl (dk_X7_foundling 15 _ rfl) ?_
                          refine J_cV (rv := some (.int 1)) (h' := hM0) (d' := 11) (As := [.int 5]) ok_X7_isDay vi_X7_isDay cl_7_198 (n := 1) (by decide +kernel) rfl rfl rfl rfl (by decide) (by decide) (dk_X7_foundling 16 _ rfl) ?_ ?_
                          · refine jCt_of ok_X7_isDay (fun _ _ => Nat.le_of_ble_eq_true rfl) (fun _ _ hq => by rw [hq.2]; first | exact Nat.le_refl _ | simp) ?_
                            show J _ _ _ _ _ _ _ _ [(0, .ref 0), (1, .int 5)] _ _ _
                            refine J_aload_n (i := 0) (a := 0) rfl rfl (dk_X7_isDay 0 _ rfl) ?_
                            refine J_iload_n (i := 1) (a := 1) rfl rfl (dk_X7_isDay 1 _ rfl) ?_
                            refine J_iconst (v := 0) (by decide) (dk_X7_isDay 2 _ rfl) ?_
                            refine J_bipush (v := 11) (by decide) (dk_X7_isDay 3 _ rfl) ?_
                            refine J_cV (rv := some (.int 1)) (h' := hM0) (d' := 10) (As := [.int 5, .int 0, .int 11]) ok_X7_in vi_X7_in cl_7_194 (n := 3) (by decide +kernel) rfl rfl rfl rfl (by decide) (by decide) (dk_X7_isDay 5 _ rfl) ?_ ?_
                            · refine jCt_of ok_X7_in (fun _ _ => Nat.le_of_ble_eq_true rfl) (fun _ _ hq => by rw [hq.2]; first | exact Nat.le_refl _ | simp) ?_
                              show J _ _ _ _ _ _ _ _ [(0, .ref 0), (1, .int 5), (2, .int 0), (3, .int 11)] _ _ _
                              refine J_iload_n (i := 1) (a := 1) rfl rfl (dk_X7_in 0 _ rfl) ?_
                              refine J_iload_n (i := 2) (a := 2) rfl rfl (dk_X7_in 1 _ rfl) ?_
                              refine J_icF (tgt := 14) (by decide) (dk_X7_in 2 _ rfl) (jI_nlt (by decide : (5 : Int32).toInt = 5) (by decide : (0 : Int32).toInt = 0) (by omega)) ?_
                              refine J_iload_n (i := 1) (a := 1) rfl rfl (dk_X7_in 5 _ rfl) ?_
                              refine J_iload_n (i := 3) (a := 3) rfl rfl (dk_X7_in 6 _ rfl) ?_
                              refine J_icF (tgt := 14) (by decide) (dk_X7_in 7 _ rfl) (jI_nlt (by decide : (11 : Int32).toInt = 11) (by decide : (5 : Int32).toInt = 5) (by omega)) ?_
                              refine J_iconst (v := 1) (by decide) (dk_X7_in 10 _ rfl) ?_
                              refine J_goto (tgt := 15) (by decide) (dk_X7_in 11 _ rfl) ?_
                              exact J_iret rfl rfl (dk_X7_in 15 _ rfl) ⟨rfl, rfl⟩
                            show J _ _ _ _ _ _ _ _ _ [.int 1] _ _
                            exact J_iret rfl rfl (dk_X7_isDay 8 _ rfl) ⟨rfl, rfl⟩
                          show J _ _ _ _ _ _ _ _ _ [.int 1] _ _
                          refine J_ifT (tgt := 26) (by decide) (dk_X7_foundling 19 _ rfl) (jI_ne (by decide : (1 : Int32).toInt = 1) (by decide : (0 : Int32).toInt = 0) (by omega)) ?_
                          refine J_aload_n (i := 0) (a := 0) rfl rfl (dk_X7_foundling 26 _ rfl) ?_
                          refine J_getf fl_7_7 rfl rfl (dk_X7_foundling 27 _ rfl) ?_
                          refine J_bipush (v := 7) (by decide) (dk_X7_foundling 30 _ rfl) ?_
                          refine J_icT (tgt := 38) (by decide) (dk_X7_foundling 32 _ rfl) (jI_ne (by decide : (0 : Int32).toInt = 0) (by decide : (7 : Int32).toInt = 7) (by omega)) ?_
                          refine J_aload_n (i := 0) (a := 0) rfl rfl (dk_X7_foundling 38 _ rfl) ?_
                          refine J_aload_n (i := 0) (a := 0) rfl rfl (dk_X7_foundling 39 _ rfl) ?_
                          refine J_getf fl_7_7 rfl rfl (dk_X7_foundling 40 _ rfl) ?_
                          refine J_iconst (v := 0) (by decide) (dk_X7_foundling 43 _ rfl) ?_
                          refine J_iconst (v := 0) (by decide) (dk_X7_foundling 44 _ rfl) ?_
                          refine J_iconst (v := 0) (by decide) (dk_X7_foundling 45 _ rfl) ?_
                          refine J_iload_n (i := 1) (a := 1) rfl rfl (dk_X7_foundling 46 _ rfl) ?_
                          refine J_cV (rv := none) (h' := hC7_40) (d' := 11) (As := [.int 0, .int 0, .int 0, .int 0, .int 5]) ok_X7_lay vi_X7_lay cl_7_202 (n := 5) (by decide +kernel) rfl rfl rfl rfl (by decide) (by decide) (dk_X7_foundling 47 _ rfl) (jev_ct (M := m_X7_lay) rfl rc7_40) ?_
                          show J _ _ _ _ _ _ _ _ _ [] _ _
                          refine J_aload_n (i := 0) (a := 0) rfl rfl (dk_X7_foundling 50 _ rfl) ?_
                          refine J_dup rfl (dk_X7_foundling 51 _ rfl) ?_
                          refine J_getf fl_7_7 rfl rfl (dk_X7_foundling 52 _ rfl) ?_
                          refine J_iconst (v := 1) (by decide) (dk_X7_foundling 55 _ rfl) ?_
                          refine J_iaddC (v := 1) (by decide) (dk_X7_foundling 56 _ rfl) ?_
                          refine J_putf fl_7_7 rfl (fun q hq => by cases hq; rfl) trivial (Nat.le_of_ble_eq_true rfl) (dk_X7_foundling 57 _ rfl) ?_
                          refine J_aload_n (i := 0) (a := 0) rfl rfl (dk_X7_foundling 60 _ rfl) ?_
                          refine J_aload_n (i := 0) (a := 0) rfl rfl (dk_X7_foundling 61 _ rfl) ?_
                          refine J_getf fl_7_7 rfl rfl (dk_X7_foundling 62 _ rfl) ?_
                          refine J_iconst (v := 1) (by decide) (dk_X7_foundling 65 _ rfl) ?_
                          refine J_isubC (v := 0) (by decide) (dk_X7_foundling 66 _ rfl) ?_
                          refine J_iconst (v := 1) (by decide) (dk_X7_foundling 67 _ rfl) ?_
                          refine J_cV (rv := none) (h' := hC7_41) (d' := 11) (As := [.int 0, .int 1]) ok_X7_layBest vi_X7_layBest cl_7_326 (n := 2) (by decide +kernel) rfl rfl rfl rfl (by decide) (by decide) (dk_X7_foundling 68 _ rfl) (jev_ct (M := m_X7_layBest) rfl rc7_41) ?_
                          show J _ _ _ _ _ _ _ _ _ [] _ _
                          refine J_aload_n (i := 0) (a := 0) rfl rfl (dk_X7_foundling 71 _ rfl) ?_
                          refine J_dup rfl (dk_X7_foundling 72 _ rfl) ?_
                          refine J_getf fl_7_7 rfl rfl (dk_X7_foundling 73 _ rfl) ?_
                          refine J_iconst (v := 1) (by decide) (dk_X7_foundling 76 _ rfl) ?_
                          refine J_isubC (v := 0) (by decide) (dk_X7_foundling 77 _ rfl) ?_
                          refine J_putf fl_7_7 rfl (fun q hq => by cases hq; rfl) trivial (Nat.le_of_ble_eq_true rfl) (dk_X7_foundling 78 _ rfl) ?_
                          refine J_iload_n (i := 2) (a := 2) rfl rfl (dk_X7_foundling 81 _ rfl) ?_
                          refine J_ifT (tgt := 92) (by decide) (dk_X7_foundling 82 _ rfl) (jI_ne (by decide : (1 : Int32).toInt = 1) (by decide : (0 : Int32).toInt = 0) (by omega)) ?_
                          refine J_aload_n (i := 0) (a := 0) rfl rfl (dk_X7_foundling 92 _ rfl) ?_
                          refine J_getf fl_7_117 rfl rfl (dk_X7_foundling 93 _ rfl) ?_
                          exact J_iret rfl rfl (dk_X7_foundling 96 _ rfl) ⟨rfl, rfl⟩
                      · by_cases c27 : (d : Int32).toInt = 6
                        · obtain rfl : d = 6 := jI_eq rfl (by decide) c27
                          refine ⟨100, ?_, ?_⟩
                          · refine jCt_of ok_X6_foundling (fun _ _ => Nat.le_of_ble_eq_true rfl) (fun _ _ hq => Nat.le_of_eq (lX.trans hq.2.symm)) ?_
                            show J _ _ _ _ _ _ _ _ [(0, .ref 0), (1, .int 6), (2, .int 1)] _ _ _
                            refine J_iload_n (i := 2) (a := 2) rfl rfl (dk_X6_foundling 0 _ rfl) ?_
                            refine J_ifF (tgt := 9) (by decide) (dk_X6_foundling 1 _ rfl) (jI_nlt (by decide : (1 : Int32).toInt = 1) (by decide : (0 : Int32).toInt = 0) (by omega)) ?_
                            refine J_iload_n (i := 2) (a := 2) rfl rfl (dk_X6_foundling 4 _ rfl) ?_
                            refine J_iconst (v := 1) (by decide) (dk_X6_foundling 5 _ rfl) ?_
                            refine J_icT (tgt := 12) (by decide) (dk_X6_foundling 6 _ rfl) (jI_le (by decide : (1 : Int32).toInt = 1) (by decide : (1 : Int32).toInt = 1) (by omega)) ?_
                            refine J_iload_n (i := 1) (a := 1) rfl rfl (dk_X6_foundling 12 _ rfl) ?_
                            refine J_cS (rv := some (.int 1)) (h' := hN0) (d' := 11) (As := [.int 6]) ok_X6_isDay st_X6_isDay cl_6_67 rfl (n := 1) (by decide +kernel) rfl (by decide) (by decide) (dk_X6_foundling 13 _ rfl) ?_ ?_
                            · refine jCt_of ok_X6_isDay (fun _ _ => Nat.le_of_ble_eq_true rfl) (fun _ _ hq => by rw [hq.2]; first | exact Nat.le_refl _ | simp) ?_
                              show J _ _ _ _ _ _ _ _ [(0, .int 6)] _ _ _
                              refine J_iload_n (i := 0) (a := 0) rfl rfl (dk_X6_isDay 0 _ rfl) ?_
                              refine J_ifF (tgt := 14) (by decide) (dk_X6_isDay 1 _ rfl) (jI_nlt (by decide : (6 : Int32).toInt = 6) (by decide : (0 : Int32).toInt = 0) (by omega)) ?_
                              refine J_iload_n (i := 0) (a := 0) rfl rfl (dk_X6_isDay 4 _ rfl) ?_
                              refine J_bipush (v := 12) (by decide) (dk_X6_isDay 5 _ rfl) ?_
                              refine J_icF (tgt := 14) (by decide) (dk_X6_isDay 7 _ rfl) (jI_nle (by decide : (12 : Int32).toInt = 12) (by decide : (6 : Int32).toInt = 6) (by omega)) ?_
                              refine J_iconst (v := 1) (by decide) (dk_X6_isDay 10 _ rfl) ?_
                              refine J_goto (tgt := 15) (by decide) (dk_X6_isDay 11 _ rfl) ?_
                              exact J_iret rfl rfl (dk_X6_isDay 15 _ rfl) ⟨rfl, rfl⟩
                            show J _ _ _ _ _ _ _ _ _ [.int 1] _ _
                            refine J_ifT (tgt := 22) (by decide) (dk_X6_foundling 16 _ rfl) (jI_ne (by decide : (1 : Int32).toInt = 1) (by decide : (0 : Int32).toInt = 0) (by omega)) ?_
                            refine J_aload_n (i := 0) (a := 0) rfl rfl (dk_X6_foundling 22 _ rfl) ?_
                            refine J_getf fl_6_47 rfl rfl (dk_X6_foundling 23 _ rfl) ?_
                            refine J_getf fl_6_71 rfl rfl (dk_X6_foundling 26 _ rfl) ?_
                            refine J_bipush (v := 7) (by decide) (dk_X6_foundling 29 _ rfl) ?_
                            refine J_icT (tgt := 37) (by decide) (dk_X6_foundling 31 _ rfl) (jI_lt (by decide : (0 : Int32).toInt = 0) (by decide : (7 : Int32).toInt = 7) (by omega)) ?_
                            refine J_aload_n (i := 0) (a := 0) rfl rfl (dk_X6_foundling 37 _ rfl) ?_
                            refine J_getf fl_6_54 rfl rfl (dk_X6_foundling 38 _ rfl) ?_
                            refine J_aload_n (i := 0) (a := 0) rfl rfl (dk_X6_foundling 41 _ rfl) ?_
                            refine J_getf fl_6_47 rfl rfl (dk_X6_foundling 42 _ rfl) ?_
                            refine J_cV (rv := none) (h' := hN0) (d' := 11) (As := [.ref 14]) ok_X2_copy vi_X2_copy cl_6_185 (n := 1) (by decide +kernel) rfl rfl rfl rfl (by decide) (by decide) (dk_X6_foundling 45 _ rfl) (jev_ct (M := m_X2_copy) rfl rc6_0) ?_
                            show J _ _ _ _ _ _ _ _ _ [] _ _
                            refine J_aload_n (i := 0) (a := 0) rfl rfl (dk_X6_foundling 48 _ rfl) ?_
                            refine J_getf fl_6_54 rfl rfl (dk_X6_foundling 49 _ rfl) ?_
                            refine J_iconst (v := 0) (by decide) (dk_X6_foundling 52 _ rfl) ?_
                            refine J_iconst (v := 0) (by decide) (dk_X6_foundling 53 _ rfl) ?_
                            refine J_iconst (v := 0) (by decide) (dk_X6_foundling 54 _ rfl) ?_
                            refine J_iload_n (i := 1) (a := 1) rfl rfl (dk_X6_foundling 55 _ rfl) ?_
                            refine J_cV (rv := none) (h' := hC6_43) (d' := 11) (As := [.int 0, .int 0, .int 0, .int 6]) ok_X2_add vi_X2_add cl_6_75 (n := 4) (by decide +kernel) rfl rfl rfl rfl (by decide) (by decide) (dk_X6_foundling 56 _ rfl) (jev_ct (M := m_X2_add) rfl rc6_43) ?_
                            show J _ _ _ _ _ _ _ _ _ [] _ _
                            refine J_aload_n (i := 0) (a := 0) rfl rfl (dk_X6_foundling 59 _ rfl) ?_
                            refine J_aload_n (i := 0) (a := 0) rfl rfl (dk_X6_foundling 60 _ rfl) ?_
                            refine J_getf fl_6_54 rfl rfl (dk_X6_foundling 61 _ rfl) ?_
                            refine J_getf fl_6_103 rfl rfl (dk_X6_foundling 64 _ rfl) ?_
                            refine J_aload_n (i := 0) (a := 0) rfl rfl (dk_X6_foundling 67 _ rfl) ?_
                            refine J_getf fl_6_54 rfl rfl (dk_X6_foundling 68 _ rfl) ?_
                            refine J_getf fl_6_71 rfl rfl (dk_X6_foundling 71 _ rfl) ?_
                            refine J_iconst (v := 1) (by decide) (dk_X6_foundling 74 _ rfl) ?_
                            refine J_isubC (v := 0) (by decide) (dk_X6_foundling 75 _ rfl) ?_
                            refine J_iload_n (i := 2) (a := 2) rfl rfl (dk_X6_foundling 76 _ rfl) ?_
                            refine J_cV (rv := some (.int 100)) (h' := hC6_44) (d' := 11) (As := [.ref 35, .int 0, .int 1]) ok_X6_bestOf vi_X6_bestOf cl_6_188 (n := 3) (by decide +kernel) rfl rfl rfl rfl (by decide) (by decide) (dk_X6_foundling 77 _ rfl) ?_ ?_
                            · refine jCt_of ok_X6_bestOf (fun _ _ => Nat.le_of_ble_eq_true rfl) (fun _ _ hq => by rw [hq.2]; first | exact Nat.le_refl _ | simp) ?_
                              show J _ _ _ _ _ _ _ _ [(0, .ref 0), (1, .ref 35), (2, .int 0), (3, .int 1)] _ _ _
                              refine J_aload_n (i := 0) (a := 0) rfl rfl (dk_X6_bestOf 0 _ rfl) ?_
                              refine J_aload_n (i := 1) (a := 1) rfl rfl (dk_X6_bestOf 1 _ rfl) ?_
                              refine J_iload_n (i := 2) (a := 2) rfl rfl (dk_X6_bestOf 2 _ rfl) ?_
                              refine J_aload_n (i := 0) (a := 0) rfl rfl (dk_X6_bestOf 3 _ rfl) ?_
                              refine J_getf fl_6_54 rfl rfl (dk_X6_bestOf 4 _ rfl) ?_
                              refine J_getf fl_6_83 rfl rfl (dk_X6_bestOf 7 _ rfl) ?_
                              refine J_getf fl_6_87 rfl rfl (dk_X6_bestOf 10 _ rfl) ?_
                              refine J_cV (rv := none) (h' := hC6_44) (d' := 10) (As := [.ref 35, .int 0, .int 10]) ok_X6_tryDays vi_X6_tryDays cl_6_192 (n := 3) (by decide +kernel) rfl rfl rfl rfl (by decide) (by decide) (dk_X6_bestOf 13 _ rfl) (jev_ct (M := m_X6_tryDays) rfl rc6_44) ?_
                              show J _ _ _ _ _ _ _ _ _ [] _ _
                              refine J_aload_n (i := 0) (a := 0) rfl rfl (dk_X6_bestOf 16 _ rfl) ?_
                              refine J_cV (rv := some (.int 0)) (h' := hC6_44) (d' := 10) (As := []) ok_X6_firstMost vi_X6_firstMost cl_6_269 (n := 0) (by decide +kernel) rfl rfl rfl rfl (by decide) (by decide) (dk_X6_bestOf 17 _ rfl) (jev_ct (M := m_X6_firstMost) rfl rc6_45) ?_
                              show J _ _ _ _ _ _ _ _ _ [.int 0] _ _
                              refine J_istore (i := 4) (by decide) (dk_X6_bestOf 20 _ rfl) ?_
                              show J _ _ _ _ _ _ _ _ [(4, .int 0), (0, .ref 0), (1, .ref 35), (2, .int 0), (3, .int 1)] _ _ _
                              refine J_iload_n (i := 3) (a := 3) rfl rfl (dk_X6_bestOf 22 _ rfl) ?_
                              refine J_ifT (tgt := 31) (by decide) (dk_X6_bestOf 23 _ rfl) (jI_ne (by decide : (1 : Int32).toInt = 1) (by decide : (0 : Int32).toInt = 0) (by omega)) ?_
                              refine J_aload_n (i := 0) (a := 0) rfl rfl (dk_X6_bestOf 31 _ rfl) ?_
                              refine J_getf fl_6_11 rfl rfl (dk_X6_bestOf 32 _ rfl) ?_
                              refine J_iload (i := 4) rfl (dk_X6_bestOf 35 _ rfl) ?_
                              refine J_iald rfl (by decide) rfl (dk_X6_bestOf 37 _ rfl) ?_
                              exact J_iret rfl rfl (dk_X6_bestOf 38 _ rfl) ⟨rfl, rfl⟩
                            show J _ _ _ _ _ _ _ _ _ [.int 100] _ _
                            exact J_iret rfl rfl (dk_X6_foundling 80 _ rfl) ⟨rfl, rfl⟩
                          · refine jCt_of ok_X7_foundling (fun _ _ => Nat.le_of_ble_eq_true rfl) (fun _ _ hq => Nat.le_of_eq (lM.trans hq.2.symm)) ?_
                            show J _ _ _ _ _ _ _ _ [(0, .ref 0), (1, .int 6), (2, .int 1)] _ _ _
                            refine J_aload_n (i := 0) (a := 0) rfl rfl (dk_X7_foundling 0 _ rfl) ?_
                            refine J_iload_n (i := 2) (a := 2) rfl rfl (dk_X7_foundling 1 _ rfl) ?_
                            refine J_iconst (v := 0) (by decide) (dk_X7_foundling 2 _ rfl) ?_
                            refine J_iconst (v := 1) (by decide) (dk_X7_foundling 3 _ rfl) ?_
                            refine J_cV (rv := some (.int 1)) (h' := hM0) (d' := 11) (As := [.int 1, .int 0, .int 1]) ok_X7_in vi_X7_in cl_7_194 (n := 3) (by decide +kernel) rfl rfl rfl rfl (by decide) (by decide) (dk_X7_foundling 4 _ rfl) ?_ ?_
                            · refine jCt_of ok_X7_in (fun _ _ => Nat.le_of_ble_eq_true rfl) (fun _ _ hq => by rw [hq.2]; first | exact Nat.le_refl _ | simp) ?_
                              show J _ _ _ _ _ _ _ _ [(0, .ref 0), (1, .int 1), (2, .int 0), (3, .int 1)] _ _ _
                              refine J_iload_n (i := 1) (a := 1) rfl rfl (dk_X7_in 0 _ rfl) ?_
                              refine J_iload_n (i := 2) (a := 2) rfl rfl (dk_X7_in 1 _ rfl) ?_
                              refine J_icF (tgt := 14) (by decide) (dk_X7_in 2 _ rfl) (jI_nlt (by decide : (1 : Int32).toInt = 1) (by decide : (0 : Int32).toInt = 0) (by omega)) ?_
                              refine J_iload_n (i := 1) (a := 1) rfl rfl (dk_X7_in 5 _ rfl) ?_
                              refine J_iload_n (i := 3) (a := 3) rfl rfl (dk_X7_in 6 _ rfl) ?_
                              refine J_icF (tgt := 14) (by decide) (dk_X7_in 7 _ rfl) (jI_nlt (by decide : (1 : Int32).toInt = 1) (by decide : (1 : Int32).toInt = 1) (by omega)) ?_
                              refine J_iconst (v := 1) (by decide) (dk_X7_in 10 _ rfl) ?_
                              refine J_goto (tgt := 15) (by decide) (dk_X7_in 11 _ rfl) ?_
                              exact J_iret rfl rfl (dk_X7_in 15 _ rfl) ⟨rfl, rfl⟩
                            show J _ _ _ _ _ _ _ _ _ [.int 1] _ _
                            refine J_ifT (tgt := 14) (by decide) (dk_X7_foundling 7 _ rfl) (jI_ne (by decide : (1 : Int32).toInt = 1) (by decide : (0 : Int32).toInt = 0) (by omega)) ?_
                            refine J_aload_n (i := 0) (a := 0) rfl rfl (dk_X7_foundling 14 _ rfl) ?_
                            refine J_iload_n (i := 1) (a := 1) rfl rfl (dk_X7_foundling 15 _ rfl) ?_
                            refine J_cV (rv := some (.int 1)) (h' := hM0) (d' := 11) (As := [.int 6]) ok_X7_isDay vi_X7_isDay cl_7_198 (n := 1) (by decide +kernel) rfl rfl rfl rfl (by decide) (by decide) (dk_X7_foundling 16 _ rfl) ?_ ?_
                            · refine jCt_of ok_X7_isDay (fun _ _ => Nat.le_of_ble_eq_true rfl) (fun _ _ hq => by rw [hq.2]; first | exact Nat.le_refl _ | simp) ?_
                              show J _ _ _ _ _ _ _ _ [(0, .ref 0), (1, .int 6)] _ _ _
                              refine J_aload_n (i := 0) (a := 0) rfl rfl (dk_X7_isDay 0 _ rfl) ?_
                              refine J_iload_n (i := 1) (a := 1) rfl rfl (dk_X7_isDay 1 _ rfl) ?_
                              refine J_iconst (v := 0) (by decide) (dk_X7_isDay 2 _ rfl) ?_
                              refine J_bipush (v := 11) (by decide) (dk_X7_isDay 3 _ rfl) ?_
                              refine J_cV (rv := some (.int 1)) (h' := hM0) (d' := 10) (As := [.int 6, .int 0, .int 11]) ok_X7_in vi_X7_in cl_7_194 (n := 3) (by decide +kernel) rfl rfl rfl rfl (by decide) (by decide) (dk_X7_isDay 5 _ rfl) ?_ ?_
                              · refine jCt_of ok_X7_in (fun _ _ => Nat.le_of_ble_eq_true rfl) (fun _ _ hq => by rw [hq.2]; first | exact Nat.le_refl _ | simp) ?_
                                show J _ _ _ _ _ _ _ _ [(0, .ref 0), (1, .int 6), (2, .int 0), (3, .int 11)] _ _ _
                                refine J_iload_n (i := 1) (a := 1) rfl rfl (dk_X7_in 0 _ rfl) ?_
                                refine J_iload_n (i := 2) (a := 2) rfl rfl (dk_X7_in 1 _ rfl) ?_
                                refine J_icF (tgt := 14) (by decide) (dk_X7_in 2 _ rfl) (jI_nlt (by decide : (6 : Int32).toInt = 6) (by decide : (0 : Int32).toInt = 0) (by omega)) ?_
                                refine J_iload_n (i := 1) (a := 1) rfl rfl (dk_X7_in 5 _ rfl) ?_
                                refine J_iload_n (i := 3) (a := 3) rfl rfl (dk_X7_in 6 _ rfl) ?_
                                refine J_icF (tgt := 14) (by decide) (dk_X7_in 7 _ rfl) (jI_nlt (by decide : (11 : Int32).toInt = 11) (by decide : (6 : Int32).toInt = 6) (by omega)) ?_
                                refine J_iconst (v := 1) (by decide) (dk_X7_in 10 _ rfl) ?_
                                refine J_goto (tgt := 15) (by decide) (dk_X7_in 11 _ rfl) ?_
                                exact J_iret rfl rfl (dk_X7_in 15 _ rfl) ⟨rfl, rfl⟩
                              show J _ _ _ _ _ _ _ _ _ [.int 1] _ _
                              exact J_iret rfl rfl (dk_X7_isDay 8 _ rfl) ⟨rfl, rfl⟩
                            show J _ _ _ _ _ _ _ _ _ [.int 1] _ _
                            refine J_ifT (tgt := 26) (by decide) (dk_X7_foundling 19 _ rfl) (jI_ne (by decide : (1 : Int32).toInt = 1) (by decide : (0 : Int32).toInt = 0) (by omega)) ?_
                            refine J_aload_n (i := 0) (a := 0) rfl rfl (dk_X7_foundling 26 _ rfl) ?_
                            refine J_getf fl_7_7 rfl rfl (dk_X7_foundling 27 _ rfl) ?_
                            refine J_bipush (v := 7) (by decide) (dk_X7_foundling 30 _ rfl) ?_
                            refine J_icT (tgt := 38) (by decide) (dk_X7_foundling 32 _ rfl) (jI_ne (by decide : (0 : Int32).toInt = 0) (by decide : (7 : Int32).toInt = 7) (by omega)) ?_
                            refine J_aload_n (i := 0) (a := 0) rfl rfl (dk_X7_foundling 38 _ rfl) ?_
                            refine J_aload_n (i := 0) (a := 0) rfl rfl (dk_X7_foundling 39 _ rfl) ?_
                            refine J_getf fl_7_7 rfl rfl (dk_X7_foundling 40 _ rfl) ?_
                            refine J_iconst (v := 0) (by decide) (dk_X7_foundling 43 _ rfl) ?_
                            refine J_iconst (v := 0) (by decide) (dk_X7_foundling 44 _ rfl) ?_
                            refine J_iconst (v := 0) (by decide) (dk_X7_foundling 45 _ rfl) ?_
                            refine J_iload_n (i := 1) (a := 1) rfl rfl (dk_X7_foundling 46 _ rfl) ?_
                            refine J_cV (rv := none) (h' := hC7_46) (d' := 11) (As := [.int 0, .int 0, .int 0, .int 0, .int 6]) ok_X7_lay vi_X7_lay cl_7_202 (n := 5) (by decide +kernel) rfl rfl rfl rfl (by decide) (by decide) (dk_X7_foundling 47 _ rfl) (jev_ct (M := m_X7_lay) rfl rc7_46) ?_
                            show J _ _ _ _ _ _ _ _ _ [] _ _
                            refine J_aload_n (i := 0) (a := 0) rfl rfl (dk_X7_foundling 50 _ rfl) ?_
                            refine J_dup rfl (dk_X7_foundling 51 _ rfl) ?_
                            refine J_getf fl_7_7 rfl rfl (dk_X7_foundling 52 _ rfl) ?_
                            refine J_iconst (v := 1) (by decide) (dk_X7_foundling 55 _ rfl) ?_
                            refine J_iaddC (v := 1) (by decide) (dk_X7_foundling 56 _ rfl) ?_
                            refine J_putf fl_7_7 rfl (fun q hq => by cases hq; rfl) trivial (Nat.le_of_ble_eq_true rfl) (dk_X7_foundling 57 _ rfl) ?_
                            refine J_aload_n (i := 0) (a := 0) rfl rfl (dk_X7_foundling 60 _ rfl) ?_
                            refine J_aload_n (i := 0) (a := 0) rfl rfl (dk_X7_foundling 61 _ rfl) ?_
                            refine J_getf fl_7_7 rfl rfl (dk_X7_foundling 62 _ rfl) ?_
                            refine J_iconst (v := 1) (by decide) (dk_X7_foundling 65 _ rfl) ?_
                            refine J_isubC (v := 0) (by decide) (dk_X7_foundling 66 _ rfl) ?_
                            refine J_iconst (v := 1) (by decide) (dk_X7_foundling 67 _ rfl) ?_
                            refine J_cV (rv := none) (h' := hC7_47) (d' := 11) (As := [.int 0, .int 1]) ok_X7_layBest vi_X7_layBest cl_7_326 (n := 2) (by decide +kernel) rfl rfl rfl rfl (by decide) (by decide) (dk_X7_foundling 68 _ rfl) (jev_ct (M := m_X7_layBest) rfl rc7_47) ?_
                            show J _ _ _ _ _ _ _ _ _ [] _ _
                            refine J_aload_n (i := 0) (a := 0) rfl rfl (dk_X7_foundling 71 _ rfl) ?_
                            refine J_dup rfl (dk_X7_foundling 72 _ rfl) ?_
                            refine J_getf fl_7_7 rfl rfl (dk_X7_foundling 73 _ rfl) ?_
                            refine J_iconst (v := 1) (by decide) (dk_X7_foundling 76 _ rfl) ?_
                            refine J_isubC (v := 0) (by decide) (dk_X7_foundling 77 _ rfl) ?_
                            refine J_putf fl_7_7 rfl (fun q hq => by cases hq; rfl) trivial (Nat.le_of_ble_eq_true rfl) (dk_X7_foundling 78 _ rfl) ?_
                            refine J_iload_n (i := 2) (a := 2) rfl rfl (dk_X7_foundling 81 _ rfl) ?_
                            refine J_ifT (tgt := 92) (by decide) (dk_X7_foundling 82 _ rfl) (jI_ne (by decide : (1 : Int32).toInt = 1) (by decide : (0 : Int32).toInt = 0) (by omega)) ?_
                            refine J_aload_n (i := 0) (a := 0) rfl rfl (dk_X7_foundling 92 _ rfl) ?_
                            refine J_getf fl_7_117 rfl rfl (dk_X7_foundling 93 _ rfl) ?_
                            exact J_iret rfl rfl (dk_X7_foundling 96 _ rfl) ⟨rfl, rfl⟩
                        · by_cases c28 : (d : Int32).toInt = 7
                          · obtain rfl : d = 7 := jI_eq rfl (by decide) c28
                            refine ⟨100, ?_, ?_⟩
                            · refine jCt_of ok_X6_foundling (fun _ _ => Nat.le_of_ble_eq_true rfl) (fun _ _ hq => Nat.le_of_eq (lX.trans hq.2.symm)) ?_
                              show J _ _ _ _ _ _ _ _ [(0, .ref 0), (1, .int 7), (2, .int 1)] _ _ _
                              refine J_iload_n (i := 2) (a := 2) rfl rfl (dk_X6_foundling 0 _ rfl) ?_
                              refine J_ifF (tgt := 9) (by decide) (dk_X6_foundling 1 _ rfl) (jI_nlt (by decide : (1 : Int32).toInt = 1) (by decide : (0 : Int32).toInt = 0) (by omega)) ?_
                              refine J_iload_n (i := 2) (a := 2) rfl rfl (dk_X6_foundling 4 _ rfl) ?_
                              refine J_iconst (v := 1) (by decide) (dk_X6_foundling 5 _ rfl) ?_
                              refine J_icT (tgt := 12) (by decide) (dk_X6_foundling 6 _ rfl) (jI_le (by decide : (1 : Int32).toInt = 1) (by decide : (1 : Int32).toInt = 1) (by omega)) ?_
                              refine J_iload_n (i := 1) (a := 1) rfl rfl (dk_X6_foundling 12 _ rfl) ?_
                              refine J_cS (rv := some (.int 1)) (h' := hN0) (d' := 11) (As := [.int 7]) ok_X6_isDay st_X6_isDay cl_6_67 rfl (n := 1) (by decide +kernel) rfl (by decide) (by decide) (dk_X6_foundling 13 _ rfl) ?_ ?_
                              · refine jCt_of ok_X6_isDay (fun _ _ => Nat.le_of_ble_eq_true rfl) (fun _ _ hq => by rw [hq.2]; first | exact Nat.le_refl _ | simp) ?_
                                show J _ _ _ _ _ _ _ _ [(0, .int 7)] _ _ _
                                refine J_iload_n (i := 0) (a := 0) rfl rfl (dk_X6_isDay 0 _ rfl) ?_
                                refine J_ifF (tgt := 14) (by decide) (dk_X6_isDay 1 _ rfl) (jI_nlt (by decide : (7 : Int32).toInt = 7) (by decide : (0 : Int32).toInt = 0) (by omega)) ?_
                                refine J_iload_n (i := 0) (a := 0) rfl rfl (dk_X6_isDay 4 _ rfl) ?_
                                refine J_bipush (v := 12) (by decide) (dk_X6_isDay 5 _ rfl) ?_
                                refine J_icF (tgt := 14) (by decide) (dk_X6_isDay 7 _ rfl) (jI_nle (by decide : (12 : Int32).toInt = 12) (by decide : (7 : Int32).toInt = 7) (by omega)) ?_
                                refine J_iconst (v := 1) (by decide) (dk_X6_isDay 10 _ rfl) ?_
                                refine J_goto (tgt := 15) (by decide) (dk_X6_isDay 11 _ rfl) ?_
                                exact J_iret rfl rfl (dk_X6_isDay 15 _ rfl) ⟨rfl, rfl⟩
                              show J _ _ _ _ _ _ _ _ _ [.int 1] _ _
                              refine J_ifT (tgt := 22) (by decide) (dk_X6_foundling 16 _ rfl) (jI_ne (by decide : (1 : Int32).toInt = 1) (by decide : (0 : Int32).toInt = 0) (by omega)) ?_
                              refine J_aload_n (i := 0) (a := 0) rfl rfl (dk_X6_foundling 22 _ rfl) ?_
                              refine J_getf fl_6_47 rfl rfl (dk_X6_foundling 23 _ rfl) ?_
                              refine J_getf fl_6_71 rfl rfl (dk_X6_foundling 26 _ rfl) ?_
                              refine J_bipush (v := 7) (by decide) (dk_X6_foundling 29 _ rfl) ?_
                              refine J_icT (tgt := 37) (by decide) (dk_X6_foundling 31 _ rfl) (jI_lt (by decide : (0 : Int32).toInt = 0) (by decide : (7 : Int32).toInt = 7) (by omega)) ?_
                              refine J_aload_n (i := 0) (a := 0) rfl rfl (dk_X6_foundling 37 _ rfl) ?_
                              refine J_getf fl_6_54 rfl rfl (dk_X6_foundling 38 _ rfl) ?_
                              refine J_aload_n (i := 0) (a := 0) rfl rfl (dk_X6_foundling 41 _ rfl) ?_
                              refine J_getf fl_6_47 rfl rfl (dk_X6_foundling 42 _ rfl) ?_
                              refine J_cV (rv := none) (h' := hN0) (d' := 11) (As := [.ref 14]) ok_X2_copy vi_X2_copy cl_6_185 (n := 1) (by decide +kernel) rfl rfl rfl rfl (by decide) (by decide) (dk_X6_foundling 45 _ rfl) (jev_ct (M := m_X2_copy) rfl rc6_0) ?_
                              show J _ _ _ _ _ _ _ _ _ [] _ _
                              refine J_aload_n (i := 0) (a := 0) rfl rfl (dk_X6_foundling 48 _ rfl) ?_
                              refine J_getf fl_6_54 rfl rfl (dk_X6_foundling 49 _ rfl) ?_
                              refine J_iconst (v := 0) (by decide) (dk_X6_foundling 52 _ rfl) ?_
                              refine J_iconst (v := 0) (by decide) (dk_X6_foundling 53 _ rfl) ?_
                              refine J_iconst (v := 0) (by decide) (dk_X6_foundling 54 _ rfl) ?_
                              refine J_iload_n (i := 1) (a := 1) rfl rfl (dk_X6_foundling 55 _ rfl) ?_
                              refine J_cV (rv := none) (h' := hC6_49) (d' := 11) (As := [.int 0, .int 0, .int 0, .int 7]) ok_X2_add vi_X2_add cl_6_75 (n := 4) (by decide +kernel) rfl rfl rfl rfl (by decide) (by decide) (dk_X6_foundling 56 _ rfl) (jev_ct (M := m_X2_add) rfl rc6_49) ?_
                              show J _ _ _ _ _ _ _ _ _ [] _ _
                              refine J_aload_n (i := 0) (a := 0) rfl rfl (dk_X6_foundling 59 _ rfl) ?_
                              refine J_aload_n (i := 0) (a := 0) rfl rfl (dk_X6_foundling 60 _ rfl) ?_
                              refine J_getf fl_6_54 rfl rfl (dk_X6_foundling 61 _ rfl) ?_
                              refine J_getf fl_6_103 rfl rfl (dk_X6_foundling 64 _ rfl) ?_
                              refine J_aload_n (i := 0) (a := 0) rfl rfl (dk_X6_foundling 67 _ rfl) ?_
                              refine J_getf fl_6_54 rfl rfl (dk_X6_foundling 68 _ rfl) ?_
                              refine J_getf fl_6_71 rfl rfl (dk_X6_foundling 71 _ rfl) ?_
                              refine J_iconst (v := 1) (by decide) (dk_X6_foundling 74 _ rfl) ?_
                              refine J_isubC (v := 0) (by decide) (dk_X6_foundling 75 _ rfl) ?_
                              refine J_iload_n (i := 2) (a := 2) rfl rfl (dk_X6_foundling 76 _ rfl) ?_
                              refine J_cV (rv := some (.int 100)) (h' := hC6_50) (d' := 11) (As := [.ref 35, .int 0, .int 1]) ok_X6_bestOf vi_X6_bestOf cl_6_188 (n := 3) (by decide +kernel) rfl rfl rfl rfl (by decide) (by decide) (dk_X6_foundling 77 _ rfl) ?_ ?_
                              · refine jCt_of ok_X6_bestOf (fun _ _ => Nat.le_of_ble_eq_true rfl) (fun _ _ hq => by rw [hq.2]; first | exact Nat.le_refl _ | simp) ?_
                                show J _ _ _ _ _ _ _ _ [(0, .ref 0), (1, .ref 35), (2, .int 0), (3, .int 1)] _ _ _
                                refine J_aload_n (i := 0) (a := 0) rfl rfl (dk_X6_bestOf 0 _ rfl) ?_
                                refine J_aload_n (i := 1) (a := 1) rfl rfl (dk_X6_bestOf 1 _ rfl) ?_
                                refine J_iload_n (i := 2) (a := 2) rfl rfl (dk_X6_bestOf 2 _ rfl) ?_
                                refine J_aload_n (i := 0) (a := 0) rfl rfl (dk_X6_bestOf 3 _ rfl) ?_
                                refine J_getf fl_6_54 rfl rfl (dk_X6_bestOf 4 _ rfl) ?_
                                refine J_getf fl_6_83 rfl rfl (dk_X6_bestOf 7 _ rfl) ?_
                                refine J_getf fl_6_87 rfl rfl (dk_X6_bestOf 10 _ rfl) ?_
                                refine J_cV (rv := none) (h' := hC6_50) (d' := 10) (As := [.ref 35, .int 0, .int 10]) ok_X6_tryDays vi_X6_tryDays cl_6_192 (n := 3) (by decide +kernel) rfl rfl rfl rfl (by decide) (by decide) (dk_X6_bestOf 13 _ rfl) (jev_ct (M := m_X6_tryDays) rfl rc6_50) ?_
                                show J _ _ _ _ _ _ _ _ _ [] _ _
                                refine J_aload_n (i := 0) (a := 0) rfl rfl (dk_X6_bestOf 16 _ rfl) ?_
                                refine J_cV (rv := some (.int 0)) (h' := hC6_50) (d' := 10) (As := []) ok_X6_firstMost vi_X6_firstMost cl_6_269 (n := 0) (by decide +kernel) rfl rfl rfl rfl (by decide) (by decide) (dk_X6_bestOf 17 _ rfl) (jev_ct (M := m_X6_firstMost) rfl rc6_51) ?_
                                show J _ _ _ _ _ _ _ _ _ [.int 0] _ _
                                refine J_istore (i := 4) (by decide) (dk_X6_bestOf 20 _ rfl) ?_
                                show J _ _ _ _ _ _ _ _ [(4, .int 0), (0, .ref 0), (1, .ref 35), (2, .int 0), (3, .int 1)] _ _ _
                                refine J_iload_n (i := 3) (a := 3) rfl rfl (dk_X6_bestOf 22 _ rfl) ?_
                                refine J_ifT (tgt := 31) (by decide) (dk_X6_bestOf 23 _ rfl) (jI_ne (by decide : (1 : Int32).toInt = 1) (by decide : (0 : Int32).toInt = 0) (by omega)) ?_
                                refine J_aload_n (i := 0) (a := 0) rfl rfl (dk_X6_bestOf 31 _ rfl) ?_
                                refine J_getf fl_6_11 rfl rfl (dk_X6_bestOf 32 _ rfl) ?_
                                refine J_iload (i := 4) rfl (dk_X6_bestOf 35 _ rfl) ?_
                                refine J_iald rfl (by decide) rfl (dk_X6_bestOf 37 _ rfl) ?_
                                exact J_iret rfl rfl (dk_X6_bestOf 38 _ rfl) ⟨rfl, rfl⟩
                              show J _ _ _ _ _ _ _ _ _ [.int 100] _ _
                              exact J_iret rfl rfl (dk_X6_foundling 80 _ rfl) ⟨rfl, rfl⟩
                            · refine jCt_of ok_X7_foundling (fun _ _ => Nat.le_of_ble_eq_true rfl) (fun _ _ hq => Nat.le_of_eq (lM.trans hq.2.symm)) ?_
                              show J _ _ _ _ _ _ _ _ [(0, .ref 0), (1, .int 7), (2, .int 1)] _ _ _
                              refine J_aload_n (i := 0) (a := 0) rfl rfl (dk_X7_foundling 0 _ rfl) ?_
                              refine J_iload_n (i := 2) (a := 2) rfl rfl (dk_X7_foundling 1 _ rfl) ?_
                              refine J_iconst (v := 0) (by decide) (dk_X7_foundling 2 _ rfl) ?_
                              refine J_iconst (v := 1) (by decide) (dk_X7_foundling 3 _ rfl) ?_
                              refine J_cV (rv := some (.int 1)) (h' := hM0) (d' := 11) (As := [.int 1, .int 0, .int 1]) ok_X7_in vi_X7_in cl_7_194 (n := 3) (by decide +kernel) rfl rfl rfl rfl (by decide) (by decide) (dk_X7_foundling 4 _ rfl) ?_ ?_
                              · refine jCt_of ok_X7_in (fun _ _ => Nat.le_of_ble_eq_true rfl) (fun _ _ hq => by rw [hq.2]; first | exact Nat.le_refl _ | simp) ?_
                                show J _ _ _ _ _ _ _ _ [(0, .ref 0), (1, .int 1), (2, .int 0), (3, .int 1)] _ _ _
                                refine J_iload_n (i := 1) (a := 1) rfl rfl (dk_X7_in 0 _ rfl) ?_
                                refine J_iload_n (i := 2) (a := 2) rfl rfl (dk_X7_in 1 _ rfl) ?_
                                refine J_icF (tgt := 14) (by decide) (dk_X7_in 2 _ rfl) (jI_nlt (by decide : (1 : Int32).toInt = 1) (by decide : (0 : Int32).toInt = 0) (by omega)) ?_
                                refine J_iload_n (i := 1) (a := 1) rfl rfl (dk_X7_in 5 _ rfl) ?_
                                refine J_iload_n (i := 3) (a := 3) rfl rfl (dk_X7_in 6 _ rfl) ?_
                                refine J_icF (tgt := 14) (by decide) (dk_X7_in 7 _ rfl) (jI_nlt (by decide : (1 : Int32).toInt = 1) (by decide : (1 : Int32).toInt = 1) (by omega)) ?_
                                refine J_iconst (v := 1) (by decide) (dk_X7_in 10 _ rfl) ?_
                                refine J_goto (tgt := 15) (by decide) (dk_X7_in 11 _ rfl) ?_
                                exact J_iret rfl rfl (dk_X7_in 15 _ rfl) ⟨rfl, rfl⟩
                              show J _ _ _ _ _ _ _ _ _ [.int 1] _ _
                              refine J_ifT (tgt := 14) (by decide) (dk_X7_foundling 7 _ rfl) (jI_ne (by decide : (1 : Int32).toInt = 1) (by decide : (0 : Int32).toInt = 0) (by omega)) ?_
                              refine J_aload_n (i := 0) (a := 0) rfl rfl (dk_X7_foundling 14 _ rfl) ?_
                              refine J_iload_n (i := 1) (a := 1) rfl rfl (dk_X7_foundling 15 _ rfl) ?_
                              refine J_cV (rv := some (.int 1)) (h' := hM0) (d' := 11) (As := [.int 7]) ok_X7_isDay vi_X7_isDay cl_7_198 (n := 1) (by decide +kernel) rfl rfl rfl rfl (by decide) (by decide) (dk_X7_foundling 16 _ rfl) ?_ ?_
                              · refine jCt_of ok_X7_isDay (fun _ _ => Nat.le_of_ble_eq_true rfl) (fun _ _ hq => by rw [hq.2]; first | exact Nat.le_refl _ | simp) ?_
                                show J _ _ _ _ _ _ _ _ [(0, .ref 0), (1, .int 7)] _ _ _
                                refine J_aload_n (i := 0) (a := 0) rfl rfl (dk_X7_isDay 0 _ rfl) ?_
                                refine J_iload_n (i := 1) (a := 1) rfl rfl (dk_X7_isDay 1 _ rfl) ?_
                                refine J_iconst (v := 0) (by decide) (dk_X7_isDay 2 _ rfl) ?_
                                refine J_bipush (v := 11) (by decide) (dk_X7_isDay 3 _ rfl) ?_
                                refine J_cV (rv := some (.int 1)) (h' := hM0) (d' := 10) (As := [.int 7, .int 0, .int 11]) ok_X7_in vi_X7_in cl_7_194 (n := 3) (by decide +kernel) rfl rfl rfl rfl (by decide) (by decide) (dk_X7_isDay 5 _ rfl) ?_ ?_
                                · refine jCt_of ok_X7_in (fun _ _ => Nat.le_of_ble_eq_true rfl) (fun _ _ hq => by rw [hq.2]; first | exact Nat.le_refl _ | simp) ?_
                                  show J _ _ _ _ _ _ _ _ [(0, .ref 0), (1, .int 7), (2, .int 0), (3, .int 11)] _ _ _
                                  refine J_iload_n (i := 1) (a := 1) rfl rfl (dk_X7_in 0 _ rfl) ?_
                                  refine J_iload_n (i := 2) (a := 2) rfl rfl (dk_X7_in 1 _ rfl) ?_
                                  refine J_icF (tgt := 14) (by decide) (dk_X7_in 2 _ rfl) (jI_nlt (by decide : (7 : Int32).toInt = 7) (by decide : (0 : Int32).toInt = 0) (by omega)) ?_
                                  refine J_iload_n (i := 1) (a := 1) rfl rfl (dk_X7_in 5 _ rfl) ?_
                                  refine J_iload_n (i := 3) (a := 3) rfl rfl (dk_X7_in 6 _ rfl) ?_
                                  refine J_icF (tgt := 14) (by decide) (dk_X7_in 7 _ rfl) (jI_nlt (by decide : (11 : Int32).toInt = 11) (by decide : (7 : Int32).toInt = 7) (by omega)) ?_
                                  refine J_iconst (v := 1) (by decide) (dk_X7_in 10 _ rfl) ?_
                                  refine J_goto (tgt := 15) (by decide) (dk_X7_in 11 _ rfl) ?_
                                  exact J_iret rfl rfl (dk_X7_in 15 _ rfl) ⟨rfl, rfl⟩
                                show J _ _ _ _ _ _ _ _ _ [.int 1] _ _
                                exact J_iret rfl rfl (dk_X7_isDay 8 _ rfl) ⟨rfl, rfl⟩
                              show J _ _ _ _ _ _ _ _ _ [.int 1] _ _
                              refine J_ifT (tgt := 26) (by decide) (dk_X7_foundling 19 _ rfl) (jI_ne (by decide : (1 : Int32).toInt = 1) (by decide : (0 : Int32).toInt = 0) (by omega)) ?_
                              refine J_aload_n (i := 0) (a := 0) rfl rfl (dk_X7_foundling 26 _ rfl) ?_
                              refine J_getf fl_7_7 rfl rfl (dk_X7_foundling 27 _ rfl) ?_
                              refine J_bipush (v := 7) (by decide) (dk_X7_foundling 30 _ rfl) ?_
                              refine J_icT (tgt := 38) (by decide) (dk_X7_foundling 32 _ rfl) (jI_ne (by decide : (0 : Int32).toInt = 0) (by decide : (7 : Int32).toInt = 7) (by omega)) ?_
                              refine J_aload_n (i := 0) (a := 0) rfl rfl (dk_X7_foundling 38 _ rfl) ?_
                              refine J_aload_n (i := 0) (a := 0) rfl rfl (dk_X7_foundling 39 _ rfl) ?_
                              refine J_getf fl_7_7 rfl rfl (dk_X7_foundling 40 _ rfl) ?_
                              refine J_iconst (v := 0) (by decide) (dk_X7_foundling 43 _ rfl) ?_
                              refine J_iconst (v := 0) (by decide) (dk_X7_foundling 44 _ rfl) ?_
                              refine J_iconst (v := 0) (by decide) (dk_X7_foundling 45 _ rfl) ?_
                              refine J_iload_n (i := 1) (a := 1) rfl rfl (dk_X7_foundling 46 _ rfl) ?_
                              refine J_cV (rv := none) (h' := hC7_52) (d' := 11) (As := [.int 0, .int 0, .int 0, .int 0, .int 7]) ok_X7_lay vi_X7_lay cl_7_202 (n := 5) (by decide +kernel) rfl rfl rfl rfl (by decide) (by decide) (dk_X7_foundling 47 _ rfl) (jev_ct (M := m_X7_lay) rfl rc7_52) ?_
                              show J _ _ _ _ _ _ _ _ _ [] _ _
                              refine J_aload_n (i := 0) (a := 0) rfl rfl (dk_X7_foundling 50 _ rfl) ?_
                              refine J_dup rfl (dk_X7_foundling 51 _ rfl) ?_
                              refine J_getf fl_7_7 rfl rfl (dk_X7_foundling 52 _ rfl) ?_
                              refine J_iconst (v := 1) (by decide) (dk_X7_foundling 55 _ rfl) ?_
                              refine J_iaddC (v := 1) (by decide) (dk_X7_foundling 56 _ rfl) ?_
                              refine J_putf fl_7_7 rfl (fun q hq => by cases hq; rfl) trivial (Nat.le_of_ble_eq_true rfl) (dk_X7_foundling 57 _ rfl) ?_
                              refine J_aload_n (i := 0) (a := 0) rfl rfl (dk_X7_foundling 60 _ rfl) ?_
                              refine J_aload_n (i := 0) (a := 0) rfl rfl (dk_X7_foundling 61 _ rfl) ?_
                              refine J_getf fl_7_7 rfl rfl (dk_X7_foundling 62 _ rfl) ?_
                              refine J_iconst (v := 1) (by decide) (dk_X7_foundling 65 _ rfl) ?_
                              refine J_isubC (v := 0) (by decide) (dk_X7_foundling 66 _ rfl) ?_
                              refine J_iconst (v := 1) (by decide) (dk_X7_foundling 67 _ rfl) ?_
                              refine J_cV (rv := none) (h' := hC7_53) (d' := 11) (As := [.int 0, .int 1]) ok_X7_layBest vi_X7_layBest cl_7_326 (n := 2) (by decide +kernel) rfl rfl rfl rfl (by decide) (by decide) (dk_X7_foundling 68 _ rfl) (jev_ct (M := m_X7_layBest) rfl rc7_53) ?_
                              show J _ _ _ _ _ _ _ _ _ [] _ _
                              refine J_aload_n (i := 0) (a := 0) rfl rfl (dk_X7_foundling 71 _ rfl) ?_
                              refine J_dup rfl (dk_X7_foundling 72 _ rfl) ?_
                              refine J_getf fl_7_7 rfl rfl (dk_X7_foundling 73 _ rfl) ?_
                              refine J_iconst (v := 1) (by decide) (dk_X7_foundling 76 _ rfl) ?_
                              refine J_isubC (v := 0) (by decide) (dk_X7_foundling 77 _ rfl) ?_
                              refine J_putf fl_7_7 rfl (fun q hq => by cases hq; rfl) trivial (Nat.le_of_ble_eq_true rfl) (dk_X7_foundling 78 _ rfl) ?_
                              refine J_iload_n (i := 2) (a := 2) rfl rfl (dk_X7_foundling 81 _ rfl) ?_
                              refine J_ifT (tgt := 92) (by decide) (dk_X7_foundling 82 _ rfl) (jI_ne (by decide : (1 : Int32).toInt = 1) (by decide : (0 : Int32).toInt = 0) (by omega)) ?_
                              refine J_aload_n (i := 0) (a := 0) rfl rfl (dk_X7_foundling 92 _ rfl) ?_
                              refine J_getf fl_7_117 rfl rfl (dk_X7_foundling 93 _ rfl) ?_
                              exact J_iret rfl rfl (dk_X7_foundling 96 _ rfl) ⟨rfl, rfl⟩
                          · by_cases c29 : (d : Int32).toInt = 8
                            · obtain rfl : d = 8 := jI_eq rfl (by decide) c29
                              refine ⟨100, ?_, ?_⟩
                              · refine jCt_of ok_X6_foundling (fun _ _ => Nat.le_of_ble_eq_true rfl) (fun _ _ hq => Nat.le_of_eq (lX.trans hq.2.symm)) ?_
                                show J _ _ _ _ _ _ _ _ [(0, .ref 0), (1, .int 8), (2, .int 1)] _ _ _
                                refine J_iload_n (i := 2) (a := 2) rfl rfl (dk_X6_foundling 0 _ rfl) ?_
                                refine J_ifF (tgt := 9) (by decide) (dk_X6_foundling 1 _ rfl) (jI_nlt (by decide : (1 : Int32).toInt = 1) (by decide : (0 : Int32).toInt = 0) (by omega)) ?_
                                refine J_iload_n (i := 2) (a := 2) rfl rfl (dk_X6_foundling 4 _ rfl) ?_
                                refine J_iconst (v := 1) (by decide) (dk_X6_foundling 5 _ rfl) ?_
                                refine J_icT (tgt := 12) (by decide) (dk_X6_foundling 6 _ rfl) (jI_le (by decide : (1 : Int32).toInt = 1) (by decide : (1 : Int32).toInt = 1) (by omega)) ?_
                                refine J_iload_n (i := 1) (a := 1) rfl rfl (dk_X6_foundling 12 _ rfl) ?_
                                refine J_cS (rv := some (.int 1)) (h' := hN0) (d' := 11) (As := [.int 8]) ok_X6_isDay st_X6_isDay cl_6_67 rfl (n := 1) (by decide +kernel) rfl (by decide) (by decide) (dk_X6_foundling 13 _ rfl) ?_ ?_
                                · refine jCt_of ok_X6_isDay (fun _ _ => Nat.le_of_ble_eq_true rfl) (fun _ _ hq => by rw [hq.2]; first | exact Nat.le_refl _ | simp) ?_
                                  show J _ _ _ _ _ _ _ _ [(0, .int 8)] _ _ _
                                  refine J_iload_n (i := 0) (a := 0) rfl rfl (dk_X6_isDay 0 _ rfl) ?_
                                  refine J_ifF (tgt := 14) (by decide) (dk_X6_isDay 1 _ rfl) (jI_nlt (by decide : (8 : Int32).toInt = 8) (by decide : (0 : Int32).toInt = 0) (by omega)) ?_
                                  refine J_iload_n (i := 0) (a := 0) rfl rfl (dk_X6_isDay 4 _ rfl) ?_
                                  refine J_bipush (v := 12) (by decide) (dk_X6_isDay 5 _ rfl) ?_
                                  refine J_icF (tgt := 14) (by decide) (dk_X6_isDay 7 _ rfl) (jI_nle (by decide : (12 : Int32).toInt = 12) (by decide : (8 : Int32).toInt = 8) (by omega)) ?_
                                  refine J_iconst (v := 1) (by decide) (dk_X6_isDay 10 _ rfl) ?_
                                  refine J_goto (tgt := 15) (by decide) (dk_X6_isDay 11 _ rfl) ?_
                                  exact J_iret rfl rfl (dk_X6_isDay 15 _ rfl) ⟨rfl, rfl⟩
                                show J _ _ _ _ _ _ _ _ _ [.int 1] _ _
                                refine J_ifT (tgt := 22) (by decide) (dk_X6_foundling 16 _ rfl) (jI_ne (by decide : (1 : Int32).toInt = 1) (by decide : (0 : Int32).toInt = 0) (by omega)) ?_
                                refine J_aload_n (i := 0) (a := 0) rfl rfl (dk_X6_foundling 22 _ rfl) ?_
                                refine J_getf fl_6_47 rfl rfl (dk_X6_foundling 23 _ rfl) ?_
                                refine J_getf fl_6_71 rfl rfl (dk_X6_foundling 26 _ rfl) ?_
                                refine J_bipush (v := 7) (by decide) (dk_X6_foundling 29 _ rfl) ?_
                                refine J_icT (tgt := 37) (by decide) (dk_X6_foundling 31 _ rfl) (jI_lt (by decide : (0 : Int32).toInt = 0) (by decide : (7 : Int32).toInt = 7) (by omega)) ?_
                                refine J_aload_n (i := 0) (a := 0) rfl rfl (dk_X6_foundling 37 _ rfl) ?_
                                refine J_getf fl_6_54 rfl rfl (dk_X6_foundling 38 _ rfl) ?_
                                refine J_aload_n (i := 0) (a := 0) rfl rfl (dk_X6_foundling 41 _ rfl) ?_
                                refine J_getf fl_6_47 rfl rfl (dk_X6_foundling 42 _ rfl) ?_
                                refine J_cV (rv := none) (h' := hN0) (d' := 11) (As := [.ref 14]) ok_X2_copy vi_X2_copy cl_6_185 (n := 1) (by decide +kernel) rfl rfl rfl rfl (by decide) (by decide) (dk_X6_foundling 45 _ rfl) (jev_ct (M := m_X2_copy) rfl rc6_0) ?_
                                show J _ _ _ _ _ _ _ _ _ [] _ _
                                refine J_aload_n (i := 0) (a := 0) rfl rfl (dk_X6_foundling 48 _ rfl) ?_
                                refine J_getf fl_6_54 rfl rfl (dk_X6_foundling 49 _ rfl) ?_
                                refine J_iconst (v := 0) (by decide) (dk_X6_foundling 52 _ rfl) ?_
                                refine J_iconst (v := 0) (by decide) (dk_X6_foundling 53 _ rfl) ?_
                                refine J_iconst (v := 0) (by decide) (dk_X6_foundling 54 _ rfl) ?_
                                refine J_iload_n (i := 1) (a := 1) rfl rfl (dk_X6_foundling 55 _ rfl) ?_
                                refine J_cV (rv := none) (h' := hC6_55) (d' := 11) (As := [.int 0, .int 0, .int 0, .int 8]) ok_X2_add vi_X2_add cl_6_75 (n := 4) (by decide +kernel) rfl rfl rfl rfl (by decide) (by decide) (dk_X6_foundling 56 _ rfl) (jev_ct (M := m_X2_add) rfl rc6_55) ?_
                                show J _ _ _ _ _ _ _ _ _ [] _ _
                                refine J_aload_n (i := 0) (a := 0) rfl rfl (dk_X6_foundling 59 _ rfl) ?_
                                refine J_aload_n (i := 0) (a := 0) rfl rfl (dk_X6_foundling 60 _ rfl) ?_
                                refine J_getf fl_6_54 rfl rfl (dk_X6_foundling 61 _ rfl) ?_
                                refine J_getf fl_6_103 rfl rfl (dk_X6_foundling 64 _ rfl) ?_
                                refine J_aload_n (i := 0) (a := 0) rfl rfl (dk_X6_foundling 67 _ rfl) ?_
                                refine J_getf fl_6_54 rfl rfl (dk_X6_foundling 68 _ rfl) ?_
                                refine J_getf fl_6_71 rfl rfl (dk_X6_foundling 71 _ rfl) ?_
                                refine J_iconst (v := 1) (by decide) (dk_X6_foundling 74 _ rfl) ?_
                                refine J_isubC (v := 0) (by decide) (dk_X6_foundling 75 _ rfl) ?_
                                refine J_iload_n (i := 2) (a := 2) rfl rfl (dk_X6_foundling 76 _ rfl) ?_
                                refine J_cV (rv := some (.int 100)) (h' := hC6_56) (d' := 11) (As := [.ref 35, .int 0, .int 1]) ok_X6_bestOf vi_X6_bestOf cl_6_188 (n := 3) (by decide +kernel) rfl rfl rfl rfl (by decide) (by decide) (dk_X6_foundling 77 _ rfl) ?_ ?_
                                · refine jCt_of ok_X6_bestOf (fun _ _ => Nat.le_of_ble_eq_true rfl) (fun _ _ hq => by rw [hq.2]; first | exact Nat.le_refl _ | simp) ?_
                                  show J _ _ _ _ _ _ _ _ [(0, .ref 0), (1, .ref 35), (2, .int 0), (3, .int 1)] _ _ _
                                  refine J_aload_n (i := 0) (a := 0) rfl rfl (dk_X6_bestOf 0 _ rfl) ?_
                                  refine J_aload_n (i := 1) (a := 1) rfl rfl (dk_X6_bestOf 1 _ rfl) ?_
                                  refine J_iload_n (i := 2) (a := 2) rfl rfl (dk_X6_bestOf 2 _ rfl) ?_
                                  refine J_aload_n (i := 0) (a := 0) rfl rfl (dk_X6_bestOf 3 _ rfl) ?_
                                  refine J_getf fl_6_54 rfl rfl (dk_X6_bestOf 4 _ rfl) ?_
                                  refine J_getf fl_6_83 rfl rfl (dk_X6_bestOf 7 _ rfl) ?_
                                  refine J_getf fl_6_87 rfl rfl (dk_X6_bestOf 10 _ rfl) ?_
                                  refine J_cV (rv := none) (h' := hC6_56) (d' := 10) (As := [.ref 35, .int 0, .int 10]) ok_X6_tryDays vi_X6_tryDays cl_6_192 (n := 3) (by decide +kernel) rfl rfl rfl rfl (by decide) (by decide) (dk_X6_bestOf 13 _ rfl) (jev_ct (M := m_X6_tryDays) rfl rc6_56) ?_
                                  show J _ _ _ _ _ _ _ _ _ [] _ _
                                  refine J_aload_n (i := 0) (a := 0) rfl rfl (dk_X6_bestOf 16 _ rfl) ?_
                                  refine J_cV (rv := some (.int 0)) (h' := hC6_56) (d' := 10) (As := []) ok_X6_firstMost vi_X6_firstMost cl_6_269 (n := 0) (by decide +kernel) rfl rfl rfl rfl (by decide) (by decide) (dk_X6_bestOf 17 _ rfl) (jev_ct (M := m_X6_firstMost) rfl rc6_57) ?_
                                  show J _ _ _ _ _ _ _ _ _ [.int 0] _ _
                                  refine J_istore (i := 4) (by decide) (dk_X6_bestOf 20 _ rfl) ?_
                                  show J _ _ _ _ _ _ _ _ [(4, .int 0), (0, .ref 0), (1, .ref 35), (2, .int 0), (3, .int 1)] _ _ _
                                  refine J_iload_n (i := 3) (a := 3) rfl rfl (dk_X6_bestOf 22 _ rfl) ?_
                                  refine J_ifT (tgt := 31) (by decide) (dk_X6_bestOf 23 _ rfl) (jI_ne (by decide : (1 : Int32).toInt = 1) (by decide : (0 : Int32).toInt = 0) (by omega)) ?_
                                  refine J_aload_n (i := 0) (a := 0) rfl rfl (dk_X6_bestOf 31 _ rfl) ?_
                                  refine J_getf fl_6_11 rfl rfl (dk_X6_bestOf 32 _ rfl) ?_
                                  refine J_iload (i := 4) rfl (dk_X6_bestOf 35 _ rfl) ?_
                                  refine J_iald rfl (by decide) rfl (dk_X6_bestOf 37 _ rfl) ?_
                                  exact J_iret rfl rfl (dk_X6_bestOf 38 _ rfl) ⟨rfl, rfl⟩
                                show J _ _ _ _ _ _ _ _ _ [.int 100] _ _
                                exact J_iret rfl rfl (dk_X6_foundling 80 _ rfl) ⟨rfl, rfl⟩
                              · refine jCt_of ok_X7_foundling (fun _ _ => Nat.le_of_ble_eq_true rfl) (fun _ _ hq => Nat.le_of_eq (lM.trans hq.2.symm)) ?_
                                show J _ _ _ _ _ _ _ _ [(0, .ref 0), (1, .int 8), (2, .int 1)] _ _ _
                                refine J_aload_n (i := 0) (a := 0) rfl rfl (dk_X7_foundling 0 _ rfl) ?_
                                refine J_iload_n (i := 2) (a := 2) rfl rfl (dk_X7_foundling 1 _ rfl) ?_
                                refine J_iconst (v := 0) (by decide) (dk_X7_foundling 2 _ rfl) ?_
                                refine J_iconst (v := 1) (by decide) (dk_X7_foundling 3 _ rfl) ?_
                                refine J_cV (rv := some (.int 1)) (h' := hM0) (d' := 11) (As := [.int 1, .int 0, .int 1]) ok_X7_in vi_X7_in cl_7_194 (n := 3) (by decide +kernel) rfl rfl rfl rfl (by decide) (by decide) (dk_X7_foundling 4 _ rfl) ?_ ?_
                                · refine jCt_of ok_X7_in (fun _ _ => Nat.le_of_ble_eq_true rfl) (fun _ _ hq => by rw [hq.2]; first | exact Nat.le_refl _ | simp) ?_
                                  show J _ _ _ _ _ _ _ _ [(0, .ref 0), (1, .int 1), (2, .int 0), (3, .int 1)] _ _ _
                                  refine J_iload_n (i := 1) (a := 1) rfl rfl (dk_X7_in 0 _ rfl) ?_
                                  refine J_iload_n (i := 2) (a := 2) rfl rfl (dk_X7_in 1 _ rfl) ?_
                                  refine J_icF (tgt := 14) (by decide) (dk_X7_in 2 _ rfl) (jI_nlt (by decide : (1 : Int32).toInt = 1) (by decide : (0 : Int32).toInt = 0) (by omega)) ?_
                                  refine J_iload_n (i := 1) (a := 1) rfl rfl (dk_X7_in 5 _ rfl) ?_
                                  refine J_iload_n (i := 3) (a := 3) rfl rfl (dk_X7_in 6 _ rfl) ?_
                                  refine J_icF (tgt := 14) (by decide) (dk_X7_in 7 _ rfl) (jI_nlt (by decide : (1 : Int32).toInt = 1) (by decide : (1 : Int32).toInt = 1) (by omega)) ?_
                                  refine J_iconst (v := 1) (by decide) (dk_X7_in 10 _ rfl) ?_
                                  refine J_goto (tgt := 15) (by decide) (dk_X7_in 11 _ rfl) ?_
                                  exact J_iret rfl rfl (dk_X7_in 15 _ rfl) ⟨rfl, rfl⟩
                                show J _ _ _ _ _ _ _ _ _ [.int 1] _ _
                                refine J_ifT (tgt := 14) (by decide) (dk_X7_foundling 7 _ rfl) (jI_ne (by decide : (1 : Int32).toInt = 1) (by decide : (0 : Int32).toInt = 0) (by omega)) ?_
                                refine J_aload_n (i := 0) (a := 0) rfl rfl (dk_X7_foundling 14 _ rfl) ?_
                                refine J_iload_n (i := 1) (a := 1) rfl rfl (dk_X7_foundling 15 _ rfl) ?_
                                refine J_cV (rv := some (.int 1)) (h' := hM0) (d' := 11) (As := [.int 8]) ok_X7_isDay vi_X7_isDay cl_7_198 (n := 1) (by decide +kernel) rfl rfl rfl rfl (by decide) (by decide) (dk_X7_foundling 16 _ rfl) ?_ ?_
                                · refine jCt_of ok_X7_isDay (fun _ _ => Nat.le_of_ble_eq_true rfl) (fun _ _ hq => by rw [hq.2]; first | exact Nat.le_refl _ | simp) ?_
                                  show J _ _ _ _ _ _ _ _ [(0, .ref 0), (1, .int 8)] _ _ _
                                  refine J_aload_n (i := 0) (a := 0) rfl rfl (dk_X7_isDay 0 _ rfl) ?_
                                  refine J_iload_n (i := 1) (a := 1) rfl rfl (dk_X7_isDay 1 _ rfl) ?_
                                  refine J_iconst (v := 0) (by decide) (dk_X7_isDay 2 _ rfl) ?_
                                  refine J_bipush (v := 11) (by decide) (dk_X7_isDay 3 _ rfl) ?_
                                  refine J_cV (rv := some (.int 1)) (h' := hM0) (d' := 10) (As := [.int 8, .int 0, .int 11]) ok_X7_in vi_X7_in cl_7_194 (n := 3) (by decide +kernel) rfl rfl rfl rfl (by decide) (by decide) (dk_X7_isDay 5 _ rfl) ?_ ?_
                                  · refine jCt_of ok_X7_in (fun _ _ => Nat.le_of_ble_eq_true rfl) (fun _ _ hq => by rw [hq.2]; first | exact Nat.le_refl _ | simp) ?_
                                    show J _ _ _ _ _ _ _ _ [(0, .ref 0), (1, .int 8), (2, .int 0), (3, .int 11)] _ _ _
                                    refine J_iload_n (i := 1) (a := 1) rfl rfl (dk_X7_in 0 _ rfl) ?_
                                    refine J_iload_n (i := 2) (a := 2) rfl rfl (dk_X7_in 1 _ rfl) ?_
                                    refine J_icF (tgt := 14) (by decide) (dk_X7_in 2 _ rfl) (jI_nlt (by decide : (8 : Int32).toInt = 8) (by decide : (0 : Int32).toInt = 0) (by omega)) ?_
                                    refine J_iload_n (i := 1) (a := 1) rfl rfl (dk_X7_in 5 _ rfl) ?_
                                    refine J_iload_n (i := 3) (a := 3) rfl rfl (dk_X7_in 6 _ rfl) ?_
                                    refine J_icF (tgt := 14) (by decide) (dk_X7_in 7 _ rfl) (jI_nlt (by decide : (11 : Int32).toInt = 11) (by decide : (8 : Int32).toInt = 8) (by omega)) ?_
                                    refine J_iconst (v := 1) (by decide) (dk_X7_in 10 _ rfl) ?_
                                    refine J_goto (tgt := 15) (by decide) (dk_X7_in 11 _ rfl) ?_
                                    exact J_iret rfl rfl (dk_X7_in 15 _ rfl) ⟨rfl, rfl⟩
                                  show J _ _ _ _ _ _ _ _ _ [.int 1] _ _
                                  exact J_iret rfl rfl (dk_X7_isDay 8 _ rfl) ⟨rfl, rfl⟩
                                show J _ _ _ _ _ _ _ _ _ [.int 1] _ _
                                refine J_ifT (tgt := 26) (by decide) (dk_X7_foundling 19 _ rfl) (jI_ne (by decide : (1 : Int32).toInt = 1) (by decide : (0 : Int32).toInt = 0) (by omega)) ?_
                                refine J_aload_n (i := 0) (a := 0) rfl rfl (dk_X7_foundling 26 _ rfl) ?_
                                refine J_getf fl_7_7 rfl rfl (dk_X7_foundling 27 _ rfl) ?_
                                refine J_bipush (v := 7) (by decide) (dk_X7_foundling 30 _ rfl) ?_
                                refine J_icT (tgt := 38) (by decide) (dk_X7_foundling 32 _ rfl) (jI_ne (by decide : (0 : Int32).toInt = 0) (by decide : (7 : Int32).toInt = 7) (by omega)) ?_
                                refine J_aload_n (i := 0) (a := 0) rfl rfl (dk_X7_foundling 38 _ rfl) ?_
                                refine J_aload_n (i := 0) (a := 0) rfl rfl (dk_X7_foundling 39 _ rfl) ?_
                                refine J_getf fl_7_7 rfl rfl (dk_X7_foundling 40 _ rfl) ?_
                                refine J_iconst (v := 0) (by decide) (dk_X7_foundling 43 _ rfl) ?_
                                refine J_iconst (v := 0) (by decide) (dk_X7_foundling 44 _ rfl) ?_
                                refine J_iconst (v := 0) (by decide) (dk_X7_foundling 45 _ rfl) ?_
                                refine J_iload_n (i := 1) (a := 1) rfl rfl (dk_X7_foundling 46 _ rfl) ?_
                                refine J_cV (rv := none) (h' := hC7_58) (d' := 11) (As := [.int 0, .int 0, .int 0, .int 0, .int 8]) ok_X7_lay vi_X7_lay cl_7_202 (n := 5) (by decide +kernel) rfl rfl rfl rfl (by decide) (by decide) (dk_X7_foundling 47 _ rfl) (jev_ct (M := m_X7_lay) rfl rc7_58) ?_
                                show J _ _ _ _ _ _ _ _ _ [] _ _
                                refine J_aload_n (i := 0) (a := 0) rfl rfl (dk_X7_foundling 50 _ rfl) ?_
                                refine J_dup rfl (dk_X7_foundling 51 _ rfl) ?_
                                refine J_getf fl_7_7 rfl rfl (dk_X7_foundling 52 _ rfl) ?_
                                refine J_iconst (v := 1) (by decide) (dk_X7_foundling 55 _ rfl) ?_
                                refine J_iaddC (v := 1) (by decide) (dk_X7_foundling 56 _ rfl) ?_
                                refine J_putf fl_7_7 rfl (fun q hq => by cases hq; rfl) trivial (Nat.le_of_ble_eq_true rfl) (dk_X7_foundling 57 _ rfl) ?_
                                refine J_aload_n (i := 0) (a := 0) rfl rfl (dk_X7_foundling 60 _ rfl) ?_
                                refine J_aload_n (i := 0) (a := 0) rfl rfl (dk_X7_foundling 61 _ rfl) ?_
                                refine J_getf fl_7_7 rfl rfl (dk_X7_foundling 62 _ rfl) ?_
                                refine J_iconst (v := 1) (by decide) (dk_X7_foundling 65 _ rfl) ?_
                                refine J_isubC (v := 0) (by decide) (dk_X7_foundling 66 _ rfl) ?_
                                refine J_iconst (v := 1) (by decide) (dk_X7_foundling 67 _ rfl) ?_
                                refine J_cV (rv := none) (h' := hC7_59) (d' := 11) (As := [.int 0, .int 1]) ok_X7_layBest vi_X7_layBest cl_7_326 (n := 2) (by decide +kernel) rfl rfl rfl rfl (by decide) (by decide) (dk_X7_foundling 68 _ rfl) (jev_ct (M := m_X7_layBest) rfl rc7_59) ?_
                                show J _ _ _ _ _ _ _ _ _ [] _ _
                                refine J_aload_n (i := 0) (a := 0) rfl rfl (dk_X7_foundling 71 _ rfl) ?_
                                refine J_dup rfl (dk_X7_foundling 72 _ rfl) ?_
                                refine J_getf fl_7_7 rfl rfl (dk_X7_foundling 73 _ rfl) ?_
                                refine J_iconst (v := 1) (by decide) (dk_X7_foundling 76 _ rfl) ?_
                                refine J_isubC (v := 0) (by decide) (dk_X7_foundling 77 _ rfl) ?_
                                refine J_putf fl_7_7 rfl (fun q hq => by cases hq; rfl) trivial (Nat.le_of_ble_eq_true rfl) (dk_X7_foundling 78 _ rfl) ?_
                                refine J_iload_n (i := 2) (a := 2) rfl rfl (dk_X7_foundling 81 _ rfl) ?_
                                refine J_ifT (tgt := 92) (by decide) (dk_X7_foundling 82 _ rfl) (jI_ne (by decide : (1 : Int32).toInt = 1) (by decide : (0 : Int32).toInt = 0) (by omega)) ?_
                                refine J_aload_n (i := 0) (a := 0) rfl rfl (dk_X7_foundling 92 _ rfl) ?_
                                refine J_getf fl_7_117 rfl rfl (dk_X7_foundling 93 _ rfl) ?_
                                exact J_iret rfl rfl (dk_X7_foundling 96 _ rfl) ⟨rfl, rfl⟩
                            · by_cases c30 : (d : Int32).toInt = 9
                              · obtain rfl : d = 9 := jI_eq rfl (by decide) c30
                                refine ⟨100, ?_, ?_⟩
                                · refine jCt_of ok_X6_foundling (fun _ _ => Nat.le_of_ble_eq_true rfl) (fun _ _ hq => Nat.le_of_eq (lX.trans hq.2.symm)) ?_
                                  show J _ _ _ _ _ _ _ _ [(0, .ref 0), (1, .int 9), (2, .int 1)] _ _ _
                                  refine J_iload_n (i := 2) (a := 2) rfl rfl (dk_X6_foundling 0 _ rfl) ?_
                                  refine J_ifF (tgt := 9) (by decide) (dk_X6_foundling 1 _ rfl) (jI_nlt (by decide : (1 : Int32).toInt = 1) (by decide : (0 : Int32).toInt = 0) (by omega)) ?_
                                  refine J_iload_n (i := 2) (a := 2) rfl rfl (dk_X6_foundling 4 _ rfl) ?_
                                  refine J_iconst (v := 1) (by decide) (dk_X6_foundling 5 _ rfl) ?_
                                  refine J_icT (tgt := 12) (by decide) (dk_X6_foundling 6 _ rfl) (jI_le (by decide : (1 : Int32).toInt = 1) (by decide : (1 : Int32).toInt = 1) (by omega)) ?_
                                  refine J_iload_n (i := 1) (a := 1) rfl rfl (dk_X6_foundling 12 _ rfl) ?_
                                  refine J_cS (rv := some (.int 1)) (h' := hN0) (d' := 11) (As := [.int 9]) ok_X6_isDay st_X6_isDay cl_6_67 rfl (n := 1) (by decide +kernel) rfl (by decide) (by decide) (dk_X6_foundling 13 _ rfl) ?_ ?_
                                  · refine jCt_of ok_X6_isDay (fun _ _ => Nat.le_of_ble_eq_true rfl) (fun _ _ hq => by rw [hq.2]; first | exact Nat.le_refl _ | simp) ?_
                                    show J _ _ _ _ _ _ _ _ [(0, .int 9)] _ _ _
                                    refine J_iload_n (i := 0) (a := 0) rfl rfl (dk_X6_isDay 0 _ rfl) ?_
                                    refine J_ifF (tgt := 14) (by decide) (dk_X6_isDay 1 _ rfl) (jI_nlt (by decide : (9 : Int32).toInt = 9) (by decide : (0 : Int32).toInt = 0) (by omega)) ?_
                                    refine J_iload_n (i := 0) (a := 0) rfl rfl (dk_X6_isDay 4 _ rfl) ?_
                                    refine J_bipush (v := 12) (by decide) (dk_X6_isDay 5 _ rfl) ?_
                                    refine J_icF (tgt := 14) (by decide) (dk_X6_isDay 7 _ rfl) (jI_nle (by decide : (12 : Int32).toInt = 12) (by decide : (9 : Int32).toInt = 9) (by omega)) ?_
                                    refine J_iconst (v := 1) (by decide) (dk_X6_isDay 10 _ rfl) ?_
                                    refine J_goto (tgt := 15) (by decide) (dk_X6_isDay 11 _ rfl) ?_
                                    exact J_iret rfl rfl (dk_X6_isDay 15 _ rfl) ⟨rfl, rfl⟩
                                  show J _ _ _ _ _ _ _ _ _ [.int 1] _ _
                                  refine J_ifT (tgt := 22) (by decide) (dk_X6_foundling 16 _ rfl) (jI_ne (by decide : (1 : Int32).toInt = 1) (by decide : (0 : Int32).toInt = 0) (by omega)) ?_
                                  refine J_aload_n (i := 0) (a := 0) rfl rfl (dk_X6_foundling 22 _ rfl) ?_
                                  refine J_getf fl_6_47 rfl rfl (dk_X6_foundling 23 _ rfl) ?_
                                  refine J_getf fl_6_71 rfl rfl (dk_X6_foundling 26 _ rfl) ?_
                                  refine J_bipush (v := 7) (by decide) (dk_X6_foundling 29 _ rfl) ?_
                                  refine J_icT (tgt := 37) (by decide) (dk_X6_foundling 31 _ rfl) (jI_lt (by decide : (0 : Int32).toInt = 0) (by decide : (7 : Int32).toInt = 7) (by omega)) ?_
                                  refine J_aload_n (i := 0) (a := 0) rfl rfl (dk_X6_foundling 37 _ rfl) ?_
                                  refine J_getf fl_6_54 rfl rfl (dk_X6_foundling 38 _ rfl) ?_
                                  refine J_aload_n (i := 0) (a := 0) rfl rfl (dk_X6_foundling 41 _ rfl) ?_
                                  refine J_getf fl_6_47 rfl rfl (dk_X6_foundling 42 _ rfl) ?_
                                  refine J_cV (rv := none) (h' := hN0) (d' := 11) (As := [.ref 14]) ok_X2_copy vi_X2_copy cl_6_185 (n := 1) (by decide +kernel) rfl rfl rfl rfl (by decide) (by decide) (dk_X6_foundling 45 _ rfl) (jev_ct (M := m_X2_copy) rfl rc6_0) ?_
                                  show J _ _ _ _ _ _ _ _ _ [] _ _
                                  refine J_aload_n (i := 0) (a := 0) rfl rfl (dk_X6_foundling 48 _ rfl) ?_
                                  refine J_getf fl_6_54 rfl rfl (dk_X6_foundling 49 _ rfl) ?_
                                  refine J_iconst (v := 0) (by decide) (dk_X6_foundling 52 _ rfl) ?_
                                  refine J_iconst (v := 0) (by decide) (dk_X6_foundling 53 _ rfl) ?_
                                  refine J_iconst (v := 0) (by decide) (dk_X6_foundling 54 _ rfl) ?_
                                  refine J_iload_n (i := 1) (a := 1) rfl rfl (dk_X6_foundling 55 _ rfl) ?_
                                  refine J_cV (rv := none) (h' := hC6_61) (d' := 11) (As := [.int 0, .int 0, .int 0, .int 9]) ok_X2_add vi_X2_add cl_6_75 (n := 4) (by decide +kernel) rfl rfl rfl rfl (by decide) (by decide) (dk_X6_foundling 56 _ rfl) (jev_ct (M := m_X2_add) rfl rc6_61) ?_
                                  show J _ _ _ _ _ _ _ _ _ [] _ _
                                  refine J_aload_n (i := 0) (a := 0) rfl rfl (dk_X6_foundling 59 _ rfl) ?_
                                  refine J_aload_n (i := 0) (a := 0) rfl rfl (dk_X6_foundling 60 _ rfl) ?_
                                  refine J_getf fl_6_54 rfl rfl (dk_X6_foundling 61 _ rfl) ?_
                                  refine J_getf fl_6_103 rfl rfl (dk_X6_foundling 64 _ rfl) ?_
                                  refine J_aload_n (i := 0) (a := 0) rfl rfl (dk_X6_foundling 67 _ rfl) ?_
                                  refine J_getf fl_6_54 rfl rfl (dk_X6_foundling 68 _ rfl) ?_
                                  refine J_getf fl_6_71 rfl rfl (dk_X6_foundling 71 _ rfl) ?_
                                  refine J_iconst (v := 1) (by decide) (dk_X6_foundling 74 _ rfl) ?_
                                  refine J_isubC (v := 0) (by decide) (dk_X6_foundling 75 _ rfl) ?_
                                  refine J_iload_n (i := 2) (a := 2) rfl rfl (dk_X6_foundling 76 _ rfl) ?_
                                  refine J_cV (rv := some (.int 100)) (h' := hC6_62) (d' := 11) (As := [.ref 35, .int 0, .int 1]) ok_X6_bestOf vi_X6_bestOf cl_6_188 (n := 3) (by decide +kernel) rfl rfl rfl rfl (by decide) (by decide) (dk_X6_foundling 77 _ rfl) ?_ ?_
                                  · refine jCt_of ok_X6_bestOf (fun _ _ => Nat.le_of_ble_eq_true rfl) (fun _ _ hq => by rw [hq.2]; first | exact Nat.le_refl _ | simp) ?_
                                    show J _ _ _ _ _ _ _ _ [(0, .ref 0), (1, .ref 35), (2, .int 0), (3, .int 1)] _ _ _
                                    refine J_aload_n (i := 0) (a := 0) rfl rfl (dk_X6_bestOf 0 _ rfl) ?_
                                    refine J_aload_n (i := 1) (a := 1) rfl rfl (dk_X6_bestOf 1 _ rfl) ?_
                                    refine J_iload_n (i := 2) (a := 2) rfl rfl (dk_X6_bestOf 2 _ rfl) ?_
                                    refine J_aload_n (i := 0) (a := 0) rfl rfl (dk_X6_bestOf 3 _ rfl) ?_
                                    refine J_getf fl_6_54 rfl rfl (dk_X6_bestOf 4 _ rfl) ?_
                                    refine J_getf fl_6_83 rfl rfl (dk_X6_bestOf 7 _ rfl) ?_
                                    refine J_getf fl_6_87 rfl rfl (dk_X6_bestOf 10 _ rfl) ?_
                                    refine J_cV (rv := none) (h' := hC6_62) (d' := 10) (As := [.ref 35, .int 0, .int 10]) ok_X6_tryDays vi_X6_tryDays cl_6_192 (n := 3) (by decide +kernel) rfl rfl rfl rfl (by decide) (by decide) (dk_X6_bestOf 13 _ rfl) (jev_ct (M := m_X6_tryDays) rfl rc6_62) ?_
                                    show J _ _ _ _ _ _ _ _ _ [] _ _
                                    refine J_aload_n (i := 0) (a := 0) rfl rfl (dk_X6_bestOf 16 _ rfl) ?_
                                    refine J_cV (rv := some (.int 0)) (h' := hC6_62) (d' := 10) (As := []) ok_X6_firstMost vi_X6_firstMost cl_6_269 (n := 0) (by decide +kernel) rfl rfl rfl rfl (by decide) (by decide) (dk_X6_bestOf 17 _ rfl) (jev_ct (M := m_X6_firstMost) rfl rc6_63) ?_
                                    show J _ _ _ _ _ _ _ _ _ [.int 0] _ _
                                    refine J_istore (i := 4) (by decide) (dk_X6_bestOf 20 _ rfl) ?_
                                    show J _ _ _ _ _ _ _ _ [(4, .int 0), (0, .ref 0), (1, .ref 35), (2, .int 0), (3, .int 1)] _ _ _
                                    refine J_iload_n (i := 3) (a := 3) rfl rfl (dk_X6_bestOf 22 _ rfl) ?_
                                    refine J_ifT (tgt := 31) (by decide) (dk_X6_bestOf 23 _ rfl) (jI_ne (by decide : (1 : Int32).toInt = 1) (by decide : (0 : Int32).toInt = 0) (by omega)) ?_
                                    refine J_aload_n (i := 0) (a := 0) rfl rfl (dk_X6_bestOf 31 _ rfl) ?_
                                    refine J_getf fl_6_11 rfl rfl (dk_X6_bestOf 32 _ rfl) ?_
                                    refine J_iload (i := 4) rfl (dk_X6_bestOf 35 _ rfl) ?_
                                    refine J_iald rfl (by decide) rfl (dk_X6_bestOf 37 _ rfl) ?_
                                    exact J_iret rfl rfl (dk_X6_bestOf 38 _ rfl) ⟨rfl, rfl⟩
                                  show J _ _ _ _ _ _ _ _ _ [.int 100] _ _
                                  exact J_iret rfl rfl (dk_X6_foundling 80 _ rfl) ⟨rfl, rfl⟩
                                · refine jCt_of ok_X7_foundling (fun _ _ => Nat.le_of_ble_eq_true rfl) (fun _ _ hq => Nat.le_of_eq (lM.trans hq.2.symm)) ?_
                                  show J _ _ _ _ _ _ _ _ [(0, .ref 0), (1, .int 9), (2, .int 1)] _ _ _
                                  refine J_aload_n (i := 0) (a := 0) rfl rfl (dk_X7_foundling 0 _ rfl) ?_
                                  refine J_iload_n (i := 2) (a := 2) rfl rfl (dk_X7_foundling 1 _ rfl) ?_
                                  refine J_iconst (v := 0) (by decide) (dk_X7_foundling 2 _ rfl) ?_
                                  refine J_iconst (v := 1) (by decide) (dk_X7_foundling 3 _ rfl) ?_
                                  refine J_cV (rv := some (.int 1)) (h' := hM0) (d' := 11) (As := [.int 1, .int 0, .int 1]) ok_X7_in vi_X7_in cl_7_194 (n := 3) (by decide +kernel) rfl rfl rfl rfl (by decide) (by decide) (dk_X7_foundling 4 _ rfl) ?_ ?_
                                  · refine jCt_of ok_X7_in (fun _ _ => Nat.le_of_ble_eq_true rfl) (fun _ _ hq => by rw [hq.2]; first | exact Nat.le_refl _ | simp) ?_
                                    show J _ _ _ _ _ _ _ _ [(0, .ref 0), (1, .int 1), (2, .int 0), (3, .int 1)] _ _ _
                                    refine J_iload_n (i := 1) (a := 1) rfl rfl (dk_X7_in 0 _ rfl) ?_
                                    refine J_iload_n (i := 2) (a := 2) rfl rfl (dk_X7_in 1 _ rfl) ?_
                                    refine J_icF (tgt := 14) (by decide) (dk_X7_in 2 _ rfl) (jI_nlt (by decide : (1 : Int32).toInt = 1) (by decide : (0 : Int32).toInt = 0) (by omega)) ?_
                                    refine J_iload_n (i := 1) (a := 1) rfl rfl (dk_X7_in 5 _ rfl) ?_
                                    refine J_iload_n (i := 3) (a := 3) rfl rfl (dk_X7_in 6 _ rfl) ?_
                                    refine J_icF (tgt := 14) (by decide) (dk_X7_in 7 _ rfl) (jI_nlt (by decide : (1 : Int32).toInt = 1) (by decide : (1 : Int32).toInt = 1) (by omega)) ?_
                                    refine J_iconst (v := 1) (by decide) (dk_X7_in 10 _ rfl) ?_
                                    refine J_goto (tgt := 15) (by decide) (dk_X7_in 11 _ rfl) ?_
                                    exact J_iret rfl rfl (dk_X7_in 15 _ rfl) ⟨rfl, rfl⟩
                                  show J _ _ _ _ _ _ _ _ _ [.int 1] _ _
                                  refine J_ifT (tgt := 14) (by decide) (dk_X7_foundling 7 _ rfl) (jI_ne (by decide : (1 : Int32).toInt = 1) (by decide : (0 : Int32).toInt = 0) (by omega)) ?_
                                  refine J_aload_n (i := 0) (a := 0) rfl rfl (dk_X7_foundling 14 _ rfl) ?_
                                  refine J_iload_n (i := 1) (a := 1) rfl rfl (dk_X7_foundling 15 _ rfl) ?_
                                  refine J_cV (rv := some (.int 1)) (h' := hM0) (d' := 11) (As := [.int 9]) ok_X7_isDay vi_X7_isDay cl_7_198 (n := 1) (by decide +kernel) rfl rfl rfl rfl (by decide) (by decide) (dk_X7_foundling 16 _ rfl) ?_ ?_
                                  · refine jCt_of ok_X7_isDay (fun _ _ => Nat.le_of_ble_eq_true rfl) (fun _ _ hq => by rw [hq.2]; first | exact Nat.le_refl _ | simp) ?_
                                    show J _ _ _ _ _ _ _ _ [(0, .ref 0), (1, .int 9)] _ _ _
                                    refine J_aload_n (i := 0) (a := 0) rfl rfl (dk_X7_isDay 0 _ rfl) ?_
                                    refine J_iload_n (i := 1) (a := 1) rfl rfl (dk_X7_isDay 1 _ rfl) ?_
                                    refine J_iconst (v := 0) (by decide) (dk_X7_isDay 2 _ rfl) ?_
                                    refine J_bipush (v := 11) (by decide) (dk_X7_isDay 3 _ rfl) ?_
                                    refine J_cV (rv := some (.int 1)) (h' := hM0) (d' := 10) (As := [.int 9, .int 0, .int 11]) ok_X7_in vi_X7_in cl_7_194 (n := 3) (by decide +kernel) rfl rfl rfl rfl (by decide) (by decide) (dk_X7_isDay 5 _ rfl) ?_ ?_
                                    · refine jCt_of ok_X7_in (fun _ _ => Nat.le_of_ble_eq_true rfl) (fun _ _ hq => by rw [hq.2]; first | exact Nat.le_refl _ | simp) ?_
                                      show J _ _ _ _ _ _ _ _ [(0, .ref 0), (1, .int 9), (2, .int 0), (3, .int 11)] _ _ _
                                      refine J_iload_n (i := 1) (a := 1) rfl rfl (dk_X7_in 0 _ rfl) ?_
                                      refine J_iload_n (i := 2) (a := 2) rfl rfl (dk_X7_in 1 _ rfl) ?_
                                      refine J_icF (tgt := 14) (by decide) (dk_X7_in 2 _ rfl) (jI_nlt (by decide : (9 : Int32).toInt = 9) (by decide : (0 : Int32).toInt = 0) (by omega)) ?_
                                      refine J_iload_n (i := 1) (a := 1) rfl rfl (dk_X7_in 5 _ rfl) ?_
                                      refine J_iload_n (i := 3) (a := 3) rfl rfl (dk_X7_in 6 _ rfl) ?_
                                      refine J_icF (tgt := 14) (by decide) (dk_X7_in 7 _ rfl) (jI_nlt (by decide : (11 : Int32).toInt = 11) (by decide : (9 : Int32).toInt = 9) (by omega)) ?_
                                      refine J_iconst (v := 1) (by decide) (dk_X7_in 10 _ rfl) ?_
                                      refine J_goto (tgt := 15) (by decide) (dk_X7_in 11 _ rfl) ?_
                                      exact J_iret rfl rfl (dk_X7_in 15 _ rfl) ⟨rfl, rfl⟩
                                    show J _ _ _ _ _ _ _ _ _ [.int 1] _ _
                                    exact J_iret rfl rfl (dk_X7_isDay 8 _ rfl) ⟨rfl, rfl⟩
                                  show J _ _ _ _ _ _ _ _ _ [.int 1] _ _
                                  refine J_ifT (tgt := 26) (by decide) (dk_X7_foundling 19 _ rfl) (jI_ne (by decide : (1 : Int32).toInt = 1) (by decide : (0 : Int32).toInt = 0) (by omega)) ?_
                                  refine J_aload_n (i := 0) (a := 0) rfl rfl (dk_X7_foundling 26 _ rfl) ?_
                                  refine J_getf fl_7_7 rfl rfl (dk_X7_foundling 27 _ rfl) ?_
                                  refine J_bipush (v := 7) (by decide) (dk_X7_foundling 30 _ rfl) ?_
                                  refine J_icT (tgt := 38) (by decide) (dk_X7_foundling 32 _ rfl) (jI_ne (by decide : (0 : Int32).toInt = 0) (by decide : (7 : Int32).toInt = 7) (by omega)) ?_
                                  refine J_aload_n (i := 0) (a := 0) rfl rfl (dk_X7_foundling 38 _ rfl) ?_
                                  refine J_aload_n (i := 0) (a := 0) rfl rfl (dk_X7_foundling 39 _ rfl) ?_
                                  refine J_getf fl_7_7 rfl rfl (dk_X7_foundling 40 _ rfl) ?_
                                  refine J_iconst (v := 0) (by decide) (dk_X7_foundling 43 _ rfl) ?_
                                  refine J_iconst (v := 0) (by decide) (dk_X7_foundling 44 _ rfl) ?_
                                  refine J_iconst (v := 0) (by decide) (dk_X7_foundling 45 _ rfl) ?_
                                  refine J_iload_n (i := 1) (a := 1) rfl rfl (dk_X7_foundling 46 _ rfl) ?_
                                  refine J_cV (rv := none) (h' := hC7_64) (d' := 11) (As := [.int 0, .int 0, .int 0, .int 0, .int 9]) ok_X7_lay vi_X7_lay cl_7_202 (n := 5) (by decide +kernel) rfl rfl rfl rfl (by decide) (by decide) (dk_X7_foundling 47 _ rfl) (jev_ct (M := m_X7_lay) rfl rc7_64) ?_
                                  show J _ _ _ _ _ _ _ _ _ [] _ _
                                  refine J_aload_n (i := 0) (a := 0) rfl rfl (dk_X7_foundling 50 _ rfl) ?_
                                  refine J_dup rfl (dk_X7_foundling 51 _ rfl) ?_
                                  refine J_getf fl_7_7 rfl rfl (dk_X7_foundling 52 _ rfl) ?_
                                  refine J_iconst (v := 1) (by decide) (dk_X7_foundling 55 _ rfl) ?_
                                  refine J_iaddC (v := 1) (by decide) (dk_X7_foundling 56 _ rfl) ?_
                                  refine J_putf fl_7_7 rfl (fun q hq => by cases hq; rfl) trivial (Nat.le_of_ble_eq_true rfl) (dk_X7_foundling 57 _ rfl) ?_
                                  refine J_aload_n (i := 0) (a := 0) rfl rfl (dk_X7_foundling 60 _ rfl) ?_
                                  refine J_aload_n (i := 0) (a := 0) rfl rfl (dk_X7_foundling 61 _ rfl) ?_
                                  refine J_getf fl_7_7 rfl rfl (dk_X7_foundling 62 _ rfl) ?_
                                  refine J_iconst (v := 1) (by decide) (dk_X7_foundling 65 _ rfl) ?_
                                  refine J_isubC (v := 0) (by decide) (dk_X7_foundling 66 _ rfl) ?_
                                  refine J_iconst (v := 1) (by decide) (dk_X7_foundling 67 _ rfl) ?_
                                  refine J_cV (rv := none) (h' := hC7_65) (d' := 11) (As := [.int 0, .int 1]) ok_X7_layBest vi_X7_layBest cl_7_326 (n := 2) (by decide +kernel) rfl rfl rfl rfl (by decide) (by decide) (dk_X7_foundling 68 _ rfl) (jev_ct (M := m_X7_layBest) rfl rc7_65) ?_
                                  show J _ _ _ _ _ _ _ _ _ [] _ _
                                  refine J_aload_n (i := 0) (a := 0) rfl rfl (dk_X7_foundling 71 _ rfl) ?_
                                  refine J_dup rfl (dk_X7_foundling 72 _ rfl) ?_
                                  refine J_getf fl_7_7 rfl rfl (dk_X7_foundling 73 _ rfl) ?_
                                  refine J_iconst (v := 1) (by decide) (dk_X7_foundling 76 _ rfl) ?_
                                  refine J_isubC (v := 0) (by decide) (dk_X7_foundling 77 _ rfl) ?_
                                  refine J_putf fl_7_7 rfl (fun q hq => by cases hq; rfl) trivial (Nat.le_of_ble_eq_true rfl) (dk_X7_foundling 78 _ rfl) ?_
                                  refine J_iload_n (i := 2) (a := 2) rfl rfl (dk_X7_foundling 81 _ rfl) ?_
                                  refine J_ifT (tgt := 92) (by decide) (dk_X7_foundling 82 _ rfl) (jI_ne (by decide : (1 : Int32).toInt = 1) (by decide : (0 : Int32).toInt = 0) (by omega)) ?_
                                  refine J_aload_n (i := 0) (a := 0) rfl rfl (dk_X7_foundling 92 _ rfl) ?_
                                  refine J_getf fl_7_117 rfl rfl (dk_X7_foundling 93 _ rfl) ?_
                                  exact J_iret rfl rfl (dk_X7_foundling 96 _ rfl) ⟨rfl, rfl⟩
                              · by_cases c31 : (d : Int32).toInt = 10
                                · obtain rfl : d = 10 := jI_eq rfl (by decide) c31
                                  refine ⟨100, ?_, ?_⟩
                                  · refine jCt_of ok_X6_foundling (fun _ _ => Nat.le_of_ble_eq_true rfl) (fun _ _ hq => Nat.le_of_eq (lX.trans hq.2.symm)) ?_
                                    show J _ _ _ _ _ _ _ _ [(0, .ref 0), (1, .int 10), (2, .int 1)] _ _ _
                                    refine J_iload_n (i := 2) (a := 2) rfl rfl (dk_X6_foundling 0 _ rfl) ?_
                                    refine J_ifF (tgt := 9) (by decide) (dk_X6_foundling 1 _ rfl) (jI_nlt (by decide : (1 : Int32).toInt = 1) (by decide : (0 : Int32).toInt = 0) (by omega)) ?_
                                    refine J_iload_n (i := 2) (a := 2) rfl rfl (dk_X6_foundling 4 _ rfl) ?_
                                    refine J_iconst (v := 1) (by decide) (dk_X6_foundling 5 _ rfl) ?_
                                    refine J_icT (tgt := 12) (by decide) (dk_X6_foundling 6 _ rfl) (jI_le (by decide : (1 : Int32).toInt = 1) (by decide : (1 : Int32).toInt = 1) (by omega)) ?_
                                    refine J_iload_n (i := 1) (a := 1) rfl rfl (dk_X6_foundling 12 _ rfl) ?_
                                    refine J_cS (rv := some (.int 1)) (h' := hN0) (d' := 11) (As := [.int 10]) ok_X6_isDay st_X6_isDay cl_6_67 rfl (n := 1) (by decide +kernel) rfl (by decide) (by decide) (dk_X6_foundling 13 _ rfl) ?_ ?_
                                    · refine jCt_of ok_X6_isDay (fun _ _ => Nat.le_of_ble_eq_true rfl) (fun _ _ hq => by rw [hq.2]; first | exact Nat.le_refl _ | simp) ?_
                                      show J _ _ _ _ _ _ _ _ [(0, .int 10)] _ _ _
                                      refine J_iload_n (i := 0) (a := 0) rfl rfl (dk_X6_isDay 0 _ rfl) ?_
                                      refine J_ifF (tgt := 14) (by decide) (dk_X6_isDay 1 _ rfl) (jI_nlt (by decide : (10 : Int32).toInt = 10) (by decide : (0 : Int32).toInt = 0) (by omega)) ?_
                                      refine J_iload_n (i := 0) (a := 0) rfl rfl (dk_X6_isDay 4 _ rfl) ?_
                                      refine J_bipush (v := 12) (by decide) (dk_X6_isDay 5 _ rfl) ?_
                                      refine J_icF (tgt := 14) (by decide) (dk_X6_isDay 7 _ rfl) (jI_nle (by decide : (12 : Int32).toInt = 12) (by decide : (10 : Int32).toInt = 10) (by omega)) ?_
                                      refine J_iconst (v := 1) (by decide) (dk_X6_isDay 10 _ rfl) ?_
                                      refine J_goto (tgt := 15) (by decide) (dk_X6_isDay 11 _ rfl) ?_
                                      exact J_iret rfl rfl (dk_X6_isDay 15 _ rfl) ⟨rfl, rfl⟩
                                    show J _ _ _ _ _ _ _ _ _ [.int 1] _ _
                                    refine J_ifT (tgt := 22) (by decide) (dk_X6_foundling 16 _ rfl) (jI_ne (by decide : (1 : Int32).toInt = 1) (by decide : (0 : Int32).toInt = 0) (by omega)) ?_
                                    refine J_aload_n (i := 0) (a := 0) rfl rfl (dk_X6_foundling 22 _ rfl) ?_
                                    refine J_getf fl_6_47 rfl rfl (dk_X6_foundling 23 _ rfl) ?_
                                    refine J_getf fl_6_71 rfl rfl (dk_X6_foundling 26 _ rfl) ?_
                                    refine J_bipush (v := 7) (by decide) (dk_X6_foundling 29 _ rfl) ?_
                                    refine J_icT (tgt := 37) (by decide) (dk_X6_foundling 31 _ rfl) (jI_lt (by decide : (0 : Int32).toInt = 0) (by decide : (7 : Int32).toInt = 7) (by omega)) ?_
                                    refine J_aload_n (i := 0) (a := 0) rfl rfl (dk_X6_foundling 37 _ rfl) ?_
                                    refine J_getf fl_6_54 rfl rfl (dk_X6_foundling 38 _ rfl) ?_
                                    refine J_aload_n (i := 0) (a := 0) rfl rfl (dk_X6_foundling 41 _ rfl) ?_
                                    refine J_getf fl_6_47 rfl rfl (dk_X6_foundling 42 _ rfl) ?_
                                    refine J_cV (rv := none) (h' := hN0) (d' := 11) (As := [.ref 14]) ok_X2_copy vi_X2_copy cl_6_185 (n := 1) (by decide +kernel) rfl rfl rfl rfl (by decide) (by decide) (dk_X6_foundling 45 _ rfl) (jev_ct (M := m_X2_copy) rfl rc6_0) ?_
                                    show J _ _ _ _ _ _ _ _ _ [] _ _
                                    refine J_aload_n (i := 0) (a := 0) rfl rfl (dk_X6_foundling 48 _ rfl) ?_
                                    refine J_getf fl_6_54 rfl rfl (dk_X6_foundling 49 _ rfl) ?_
                                    refine J_iconst (v := 0) (by decide) (dk_X6_foundling 52 _ rfl) ?_
                                    refine J_iconst (v := 0) (by decide) (dk_X6_foundling 53 _ rfl) ?_
                                    refine J_iconst (v := 0) (by decide) (dk_X6_foundling 54 _ rfl) ?_
                                    refine J_iload_n (i := 1) (a := 1) rfl rfl (dk_X6_foundling 55 _ rfl) ?_
                                    refine J_cV (rv := none) (h' := hC6_67) (d' := 11) (As := [.int 0, .int 0, .int 0, .int 10]) ok_X2_add vi_X2_add cl_6_75 (n := 4) (by decide +kernel) rfl rfl rfl rfl (by decide) (by decide) (dk_X6_foundling 56 _ rfl) (jev_ct (M := m_X2_add) rfl rc6_67) ?_
                                    show J _ _ _ _ _ _ _ _ _ [] _ _
                                    refine J_aload_n (i := 0) (a := 0) rfl rfl (dk_X6_foundling 59 _ rfl) ?_
                                    refine J_aload_n (i := 0) (a := 0) rfl rfl (dk_X6_foundling 60 _ rfl) ?_
                                    refine J_getf fl_6_54 rfl rfl (dk_X6_foundling 61 _ rfl) ?_
                                    refine J_getf fl_6_103 rfl rfl (dk_X6_foundling 64 _ rfl) ?_
                                    refine J_aload_n (i := 0) (a := 0) rfl rfl (dk_X6_foundling 67 _ rfl) ?_
                                    refine J_getf fl_6_54 rfl rfl (dk_X6_foundling 68 _ rfl) ?_
                                    refine J_getf fl_6_71 rfl rfl (dk_X6_foundling 71 _ rfl) ?_
                                    refine J_iconst (v := 1) (by decide) (dk_X6_foundling 74 _ rfl) ?_
                                    refine J_isubC (v := 0) (by decide) (dk_X6_foundling 75 _ rfl) ?_
                                    refine J_iload_n (i := 2) (a := 2) rfl rfl (dk_X6_foundling 76 _ rfl) ?_
                                    refine J_cV (rv := some (.int 100)) (h' := hC6_68) (d' := 11) (As := [.ref 35, .int 0, .int 1]) ok_X6_bestOf vi_X6_bestOf cl_6_188 (n := 3) (by decide +kernel) rfl rfl rfl rfl (by decide) (by decide) (dk_X6_foundling 77 _ rfl) ?_ ?_
                                    · refine jCt_of ok_X6_bestOf (fun _ _ => Nat.le_of_ble_eq_true rfl) (fun _ _ hq => by rw [hq.2]; first | exact Nat.le_refl _ | simp) ?_
                                      show J _ _ _ _ _ _ _ _ [(0, .ref 0), (1, .ref 35), (2, .int 0), (3, .int 1)] _ _ _
                                      refine J_aload_n (i := 0) (a := 0) rfl rfl (dk_X6_bestOf 0 _ rfl) ?_
                                      refine J_aload_n (i := 1) (a := 1) rfl rfl (dk_X6_bestOf 1 _ rfl) ?_
                                      refine J_iload_n (i := 2) (a := 2) rfl rfl (dk_X6_bestOf 2 _ rfl) ?_
                                      refine J_aload_n (i := 0) (a := 0) rfl rfl (dk_X6_bestOf 3 _ rfl) ?_
                                      refine J_getf fl_6_54 rfl rfl (dk_X6_bestOf 4 _ rfl) ?_
                                      refine J_getf fl_6_83 rfl rfl (dk_X6_bestOf 7 _ rfl) ?_
                                      refine J_getf fl_6_87 rfl rfl (dk_X6_bestOf 10 _ rfl) ?_
                                      refine J_cV (rv := none) (h' := hC6_68) (d' := 10) (As := [.ref 35, .int 0, .int 10]) ok_X6_tryDays vi_X6_tryDays cl_6_192 (n := 3) (by decide +kernel) rfl rfl rfl rfl (by decide) (by decide) (dk_X6_bestOf 13 _ rfl) (jev_ct (M := m_X6_tryDays) rfl rc6_68) ?_
                                      show J _ _ _ _ _ _ _ _ _ [] _ _
                                      refine J_aload_n (i := 0) (a := 0) rfl rfl (dk_X6_bestOf 16 _ rfl) ?_
                                      refine J_cV (rv := some (.int 0)) (h' := hC6_68) (d' := 10) (As := []) ok_X6_firstMost vi_X6_firstMost cl_6_269 (n := 0) (by decide +kernel) rfl rfl rfl rfl (by decide) (by decide) (dk_X6_bestOf 17 _ rfl) (jev_ct (M := m_X6_firstMost) rfl rc6_69) ?_
                                      show J _ _ _ _ _ _ _ _ _ [.int 0] _ _
                                      refine J_istore (i := 4) (by decide) (dk_X6_bestOf 20 _ rfl) ?_
                                      show J _ _ _ _ _ _ _ _ [(4, .int 0), (0, .ref 0), (1, .ref 35), (2, .int 0), (3, .int 1)] _ _ _
                                      refine J_iload_n (i := 3) (a := 3) rfl rfl (dk_X6_bestOf 22 _ rfl) ?_
                                      refine J_ifT (tgt := 31) (by decide) (dk_X6_bestOf 23 _ rfl) (jI_ne (by decide : (1 : Int32).toInt = 1) (by decide : (0 : Int32).toInt = 0) (by omega)) ?_
                                      refine J_aload_n (i := 0) (a := 0) rfl rfl (dk_X6_bestOf 31 _ rfl) ?_
                                      refine J_getf fl_6_11 rfl rfl (dk_X6_bestOf 32 _ rfl) ?_
                                      refine J_iload (i := 4) rfl (dk_X6_bestOf 35 _ rfl) ?_
                                      refine J_iald rfl (by decide) rfl (dk_X6_bestOf 37 _ rfl) ?_
                                      exact J_iret rfl rfl (dk_X6_bestOf 38 _ rfl) ⟨rfl, rfl⟩
                                    show J _ _ _ _ _ _ _ _ _ [.int 100] _ _
                                    exact J_iret rfl rfl (dk_X6_foundling 80 _ rfl) ⟨rfl, rfl⟩
                                  · refine jCt_of ok_X7_foundling (fun _ _ => Nat.le_of_ble_eq_true rfl) (fun _ _ hq => Nat.le_of_eq (lM.trans hq.2.symm)) ?_
                                    show J _ _ _ _ _ _ _ _ [(0, .ref 0), (1, .int 10), (2, .int 1)] _ _ _
                                    refine J_aload_n (i := 0) (a := 0) rfl rfl (dk_X7_foundling 0 _ rfl) ?_
                                    refine J_iload_n (i := 2) (a := 2) rfl rfl (dk_X7_foundling 1 _ rfl) ?_
                                    refine J_iconst (v := 0) (by decide) (dk_X7_foundling 2 _ rfl) ?_
                                    refine J_iconst (v := 1) (by decide) (dk_X7_foundling 3 _ rfl) ?_
                                    refine J_cV (rv := some (.int 1)) (h' := hM0) (d' := 11) (As := [.int 1, .int 0, .int 1]) ok_X7_in vi_X7_in cl_7_194 (n := 3) (by decide +kernel) rfl rfl rfl rfl (by decide) (by decide) (dk_X7_foundling 4 _ rfl) ?_ ?_
                                    · refine jCt_of ok_X7_in (fun _ _ => Nat.le_of_ble_eq_true rfl) (fun _ _ hq => by rw [hq.2]; first | exact Nat.le_refl _ | simp) ?_
                                      show J _ _ _ _ _ _ _ _ [(0, .ref 0), (1, .int 1), (2, .int 0), (3, .int 1)] _ _ _
                                      refine J_iload_n (i := 1) (a := 1) rfl rfl (dk_X7_in 0 _ rfl) ?_
                                      refine J_iload_n (i := 2) (a := 2) rfl rfl (dk_X7_in 1 _ rfl) ?_
                                      refine J_icF (tgt := 14) (by decide) (dk_X7_in 2 _ rfl) (jI_nlt (by decide : (1 : Int32).toInt = 1) (by decide : (0 : Int32).toInt = 0) (by omega)) ?_
                                      refine J_iload_n (i := 1) (a := 1) rfl rfl (dk_X7_in 5 _ rfl) ?_
                                      refine J_iload_n (i := 3) (a := 3) rfl rfl (dk_X7_in 6 _ rfl) ?_
                                      refine J_icF (tgt := 14) (by decide) (dk_X7_in 7 _ rfl) (jI_nlt (by decide : (1 : Int32).toInt = 1) (by decide : (1 : Int32).toInt = 1) (by omega)) ?_
                                      refine J_iconst (v := 1) (by decide) (dk_X7_in 10 _ rfl) ?_
                                      refine J_goto (tgt := 15) (by decide) (dk_X7_in 11 _ rfl) ?_
                                      exact J_iret rfl rfl (dk_X7_in 15 _ rfl) ⟨rfl, rfl⟩
                                    show J _ _ _ _ _ _ _ _ _ [.int 1] _ _
                                    refine J_ifT (tgt := 14) (by decide) (dk_X7_foundling 7 _ rfl) (jI_ne (by decide : (1 : Int32).toInt = 1) (by decide : (0 : Int32).toInt = 0) (by omega)) ?_
                                    refine J_aload_n (i := 0) (a := 0) rfl rfl (dk_X7_foundling 14 _ rfl) ?_
                                    refine J_iload_n (i := 1) (a := 1) rfl rfl (dk_X7_foundling 15 _ rfl) ?_
                                    refine J_cV (rv := some (.int 1)) (h' := hM0) (d' := 11) (As := [.int 10]) ok_X7_isDay vi_X7_isDay cl_7_198 (n := 1) (by decide +kernel) rfl rfl rfl rfl (by decide) (by decide) (dk_X7_foundling 16 _ rfl) ?_ ?_
                                    · refine jCt_of ok_X7_isDay (fun _ _ => Nat.le_of_ble_eq_true rfl) (fun _ _ hq => by rw [hq.2]; first | exact Nat.le_refl _ | simp) ?_
                                      show J _ _ _ _ _ _ _ _ [(0, .ref 0), (1, .int 10)] _ _ _
                                      refine J_aload_n (i := 0) (a := 0) rfl rfl (dk_X7_isDay 0 _ rfl) ?_
                                      refine J_iload_n (i := 1) (a := 1) rfl rfl (dk_X7_isDay 1 _ rfl) ?_
                                      refine J_iconst (v := 0) (by decide) (dk_X7_isDay 2 _ rfl) ?_
                                      refine J_bipush (v := 11) (by decide) (dk_X7_isDay 3 _ rfl) ?_
                                      refine J_cV (rv := some (.int 1)) (h' := hM0) (d' := 10) (As := [.int 10, .int 0, .int 11]) ok_X7_in vi_X7_in cl_7_194 (n := 3) (by decide +kernel) rfl rfl rfl rfl (by decide) (by decide) (dk_X7_isDay 5 _ rfl) ?_ ?_
                                      · refine jCt_of ok_X7_in (fun _ _ => Nat.le_of_ble_eq_true rfl) (fun _ _ hq => by rw [hq.2]; first | exact Nat.le_refl _ | simp) ?_
                                        show J _ _ _ _ _ _ _ _ [(0, .ref 0), (1, .int 10), (2, .int 0), (3, .int 11)] _ _ _
                                        refine J_iload_n (i := 1) (a := 1) rfl rfl (dk_X7_in 0 _ rfl) ?_
                                        refine J_iload_n (i := 2) (a := 2) rfl rfl (dk_X7_in 1 _ rfl) ?_
                                        refine J_icF (tgt := 14) (by decide) (dk_X7_in 2 _ rfl) (jI_nlt (by decide : (10 : Int32).toInt = 10) (by decide : (0 : Int32).toInt = 0) (by omega)) ?_
                                        refine J_iload_n (i := 1) (a := 1) rfl rfl (dk_X7_in 5 _ rfl) ?_
                                        refine J_iload_n (i := 3) (a := 3) rfl rfl (dk_X7_in 6 _ rfl) ?_
                                        refine J_icF (tgt := 14) (by decide) (dk_X7_in 7 _ rfl) (jI_nlt (by decide : (11 : Int32).toInt = 11) (by decide : (10 : Int32).toInt = 10) (by omega)) ?_
                                        refine J_iconst (v := 1) (by decide) (dk_X7_in 10 _ rfl) ?_
                                        refine J_goto (tgt := 15) (by decide) (dk_X7_in 11 _ rfl) ?_
                                        exact J_iret rfl rfl (dk_X7_in 15 _ rfl) ⟨rfl, rfl⟩
                                      show J _ _ _ _ _ _ _ _ _ [.int 1] _ _
                                      exact J_iret rfl rfl (dk_X7_isDay 8 _ rfl) ⟨rfl, rfl⟩
                                    show J _ _ _ _ _ _ _ _ _ [.int 1] _ _
                                    refine J_ifT (tgt := 26) (by decide) (dk_X7_foundling 19 _ rfl) (jI_ne (by decide : (1 : Int32).toInt = 1) (by decide : (0 : Int32).toInt = 0) (by omega)) ?_
                                    refine J_aload_n (i := 0) (a := 0) rfl rfl (dk_X7_foundling 26 _ rfl) ?_
                                    refine J_getf fl_7_7 rfl rfl (dk_X7_foundling 27 _ rfl) ?_
                                    refine J_bipush (v := 7) (by decide) (dk_X7_foundling 30 _ rfl) ?_
                                    refine J_icT (tgt := 38) (by decide) (dk_X7_foundling 32 _ rfl) (jI_ne (by decide : (0 : Int32).toInt = 0) (by decide : (7 : Int32).toInt = 7) (by omega)) ?_
                                    refine J_aload_n (i := 0) (a := 0) rfl rfl (dk_X7_foundling 38 _ rfl) ?_
                                    refine J_aload_n (i := 0) (a := 0) rfl rfl (dk_X7_foundling 39 _ rfl) ?_
                                    refine J_getf fl_7_7 rfl rfl (dk_X7_foundling 40 _ rfl) ?_
                                    refine J_iconst (v := 0) (by decide) (dk_X7_foundling 43 _ rfl) ?_
                                    refine J_iconst (v := 0) (by decide) (dk_X7_foundling 44 _ rfl) ?_
                                    refine J_iconst (v := 0) (by decide) (dk_X7_foundling 45 _ rfl) ?_
                                    refine J_iload_n (i := 1) (a := 1) rfl rfl (dk_X7_foundling 46 _ rfl) ?_
                                    refine J_cV (rv := none) (h' := hC7_70) (d' := 11) (As := [.int 0, .int 0, .int 0, .int 0, .int 10]) ok_X7_lay vi_X7_lay cl_7_202 (n := 5) (by decide +kernel) rfl rfl rfl rfl (by decide) (by decide) (dk_X7_foundling 47 _ rfl) (jev_ct (M := m_X7_lay) rfl rc7_70) ?_
                                    show J _ _ _ _ _ _ _ _ _ [] _ _
                                    refine J_aload_n (i := 0) (a := 0) rfl rfl (dk_X7_foundling 50 _ rfl) ?_
                                    refine J_dup rfl (dk_X7_foundling 51 _ rfl) ?_
                                    refine J_getf fl_7_7 rfl rfl (dk_X7_foundling 52 _ rfl) ?_
                                    refine J_iconst (v := 1) (by decide) (dk_X7_foundling 55 _ rfl) ?_
                                    refine J_iaddC (v := 1) (by decide) (dk_X7_foundling 56 _ rfl) ?_
                                    refine J_putf fl_7_7 rfl (fun q hq => by cases hq; rfl) trivial (Nat.le_of_ble_eq_true rfl) (dk_X7_foundling 57 _ rfl) ?_
                                    refine J_aload_n (i := 0) (a := 0) rfl rfl (dk_X7_foundling 60 _ rfl) ?_
                                    refine J_aload_n (i := 0) (a := 0) rfl rfl (dk_X7_foundling 61 _ rfl) ?_
                                    refine J_getf fl_7_7 rfl rfl (dk_X7_foundling 62 _ rfl) ?_
                                    refine J_iconst (v := 1) (by decide) (dk_X7_foundling 65 _ rfl) ?_
                                    refine J_isubC (v := 0) (by decide) (dk_X7_foundling 66 _ rfl) ?_
                                    refine J_iconst (v := 1) (by decide) (dk_X7_foundling 67 _ rfl) ?_
                                    refine J_cV (rv := none) (h' := hC7_71) (d' := 11) (As := [.int 0, .int 1]) ok_X7_layBest vi_X7_layBest cl_7_326 (n := 2) (by decide +kernel) rfl rfl rfl rfl (by decide) (by decide) (dk_X7_foundling 68 _ rfl) (jev_ct (M := m_X7_layBest) rfl rc7_71) ?_
                                    show J _ _ _ _ _ _ _ _ _ [] _ _
                                    refine J_aload_n (i := 0) (a := 0) rfl rfl (dk_X7_foundling 71 _ rfl) ?_
                                    refine J_dup rfl (dk_X7_foundling 72 _ rfl) ?_
                                    refine J_getf fl_7_7 rfl rfl (dk_X7_foundling 73 _ rfl) ?_
                                    refine J_iconst (v := 1) (by decide) (dk_X7_foundling 76 _ rfl) ?_
                                    refine J_isubC (v := 0) (by decide) (dk_X7_foundling 77 _ rfl) ?_
                                    refine J_putf fl_7_7 rfl (fun q hq => by cases hq; rfl) trivial (Nat.le_of_ble_eq_true rfl) (dk_X7_foundling 78 _ rfl) ?_
                                    refine J_iload_n (i := 2) (a := 2) rfl rfl (dk_X7_foundling 81 _ rfl) ?_
                                    refine J_ifT (tgt := 92) (by decide) (dk_X7_foundling 82 _ rfl) (jI_ne (by decide : (1 : Int32).toInt = 1) (by decide : (0 : Int32).toInt = 0) (by omega)) ?_
                                    refine J_aload_n (i := 0) (a := 0) rfl rfl (dk_X7_foundling 92 _ rfl) ?_
                                    refine J_getf fl_7_117 rfl rfl (dk_X7_foundling 93 _ rfl) ?_
                                    exact J_iret rfl rfl (dk_X7_foundling 96 _ rfl) ⟨rfl, rfl⟩
                                · obtain rfl : d = 11 := jI_eq rfl (by decide) (by omega : (d : Int32).toInt = 11)
                                  refine ⟨100, ?_, ?_⟩
                                  · refine jCt_of ok_X6_foundling (fun _ _ => Nat.le_of_ble_eq_true rfl) (fun _ _ hq => Nat.le_of_eq (lX.trans hq.2.symm)) ?_
                                    show J _ _ _ _ _ _ _ _ [(0, .ref 0), (1, .int 11), (2, .int 1)] _ _ _
                                    refine J_iload_n (i := 2) (a := 2) rfl rfl (dk_X6_foundling 0 _ rfl) ?_
                                    refine J_ifF (tgt := 9) (by decide) (dk_X6_foundling 1 _ rfl) (jI_nlt (by decide : (1 : Int32).toInt = 1) (by decide : (0 : Int32).toInt = 0) (by omega)) ?_
                                    refine J_iload_n (i := 2) (a := 2) rfl rfl (dk_X6_foundling 4 _ rfl) ?_
                                    refine J_iconst (v := 1) (by decide) (dk_X6_foundling 5 _ rfl) ?_
                                    refine J_icT (tgt := 12) (by decide) (dk_X6_foundling 6 _ rfl) (jI_le (by decide : (1 : Int32).toInt = 1) (by decide : (1 : Int32).toInt = 1) (by omega)) ?_
                                    refine J_iload_n (i := 1) (a := 1) rfl rfl (dk_X6_foundling 12 _ rfl) ?_
                                    refine J_cS (rv := some (.int 1)) (h' := hN0) (d' := 11) (As := [.int 11]) ok_X6_isDay st_X6_isDay cl_6_67 rfl (n := 1) (by decide +kernel) rfl (by decide) (by decide) (dk_X6_foundling 13 _ rfl) ?_ ?_
                                    · refine jCt_of ok_X6_isDay (fun _ _ => Nat.le_of_ble_eq_true rfl) (fun _ _ hq => by rw [hq.2]; first | exact Nat.le_refl _ | simp) ?_
                                      show J _ _ _ _ _ _ _ _ [(0, .int 11)] _ _ _
                                      refine J_iload_n (i := 0) (a := 0) rfl rfl (dk_X6_isDay 0 _ rfl) ?_
                                      refine J_ifF (tgt := 14) (by decide) (dk_X6_isDay 1 _ rfl) (jI_nlt (by decide : (11 : Int32).toInt = 11) (by decide : (0 : Int32).toInt = 0) (by omega)) ?_
                                      refine J_iload_n (i := 0) (a := 0) rfl rfl (dk_X6_isDay 4 _ rfl) ?_
                                      refine J_bipush (v := 12) (by decide) (dk_X6_isDay 5 _ rfl) ?_
                                      refine J_icF (tgt := 14) (by decide) (dk_X6_isDay 7 _ rfl) (jI_nle (by decide : (12 : Int32).toInt = 12) (by decide : (11 : Int32).toInt = 11) (by omega)) ?_
                                      refine J_iconst (v := 1) (by decide) (dk_X6_isDay 10 _ rfl) ?_
                                      refine J_goto (tgt := 15) (by decide) (dk_X6_isDay 11 _ rfl) ?_
                                      exact J_iret rfl rfl (dk_X6_isDay 15 _ rfl) ⟨rfl, rfl⟩
                                    show J _ _ _ _ _ _ _ _ _ [.int 1] _ _
                                    refine J_ifT (tgt := 22) (by decide) (dk_X6_foundling 16 _ rfl) (jI_ne (by decide : (1 : Int32).toInt = 1) (by decide : (0 : Int32).toInt = 0) (by omega)) ?_
                                    refine J_aload_n (i := 0) (a := 0) rfl rfl (dk_X6_foundling 22 _ rfl) ?_
                                    refine J_getf fl_6_47 rfl rfl (dk_X6_foundling 23 _ rfl) ?_
                                    refine J_getf fl_6_71 rfl rfl (dk_X6_foundling 26 _ rfl) ?_
                                    refine J_bipush (v := 7) (by decide) (dk_X6_foundling 29 _ rfl) ?_
                                    refine J_icT (tgt := 37) (by decide) (dk_X6_foundling 31 _ rfl) (jI_lt (by decide : (0 : Int32).toInt = 0) (by decide : (7 : Int32).toInt = 7) (by omega)) ?_
                                    refine J_aload_n (i := 0) (a := 0) rfl rfl (dk_X6_foundling 37 _ rfl) ?_
                                    refine J_getf fl_6_54 rfl rfl (dk_X6_foundling 38 _ rfl) ?_
                                    refine J_aload_n (i := 0) (a := 0) rfl rfl (dk_X6_foundling 41 _ rfl) ?_
                                    refine J_getf fl_6_47 rfl rfl (dk_X6_foundling 42 _ rfl) ?_
                                    refine J_cV (rv := none) (h' := hN0) (d' := 11) (As := [.ref 14]) ok_X2_copy vi_X2_copy cl_6_185 (n := 1) (by decide +kernel) rfl rfl rfl rfl (by decide) (by decide) (dk_X6_foundling 45 _ rfl) (jev_ct (M := m_X2_copy) rfl rc6_0) ?_
                                    show J _ _ _ _ _ _ _ _ _ [] _ _
                                    refine J_aload_n (i := 0) (a := 0) rfl rfl (dk_X6_foundling 48 _ rfl) ?_
                                    refine J_getf fl_6_54 rfl rfl (dk_X6_foundling 49 _ rfl) ?_
                                    refine J_iconst (v := 0) (by decide) (dk_X6_foundling 52 _ rfl) ?_
                                    refine J_iconst (v := 0) (by decide) (dk_X6_foundling 53 _ rfl) ?_
                                    refine J_iconst (v := 0) (by decide) (dk_X6_foundling 54 _ rfl) ?_
                                    refine J_iload_n (i := 1) (a := 1) rfl rfl (dk_X6_foundling 55 _ rfl) ?_
                                    refine J_cV (rv := none) (h' := hC6_73) (d' := 11) (As := [.int 0, .int 0, .int 0, .int 11]) ok_X2_add vi_X2_add cl_6_75 (n := 4) (by decide +kernel) rfl rfl rfl rfl (by decide) (by decide) (dk_X6_foundling 56 _ rfl) (jev_ct (M := m_X2_add) rfl rc6_73) ?_
                                    show J _ _ _ _ _ _ _ _ _ [] _ _
                                    refine J_aload_n (i := 0) (a := 0) rfl rfl (dk_X6_foundling 59 _ rfl) ?_
                                    refine J_aload_n (i := 0) (a := 0) rfl rfl (dk_X6_foundling 60 _ rfl) ?_
                                    refine J_getf fl_6_54 rfl rfl (dk_X6_foundling 61 _ rfl) ?_
                                    refine J_getf fl_6_103 rfl rfl (dk_X6_foundling 64 _ rfl) ?_
                                    refine J_aload_n (i := 0) (a := 0) rfl rfl (dk_X6_foundling 67 _ rfl) ?_
                                    refine J_getf fl_6_54 rfl rfl (dk_X6_foundling 68 _ rfl) ?_
                                    refine J_getf fl_6_71 rfl rfl (dk_X6_foundling 71 _ rfl) ?_
                                    refine J_iconst (v := 1) (by decide) (dk_X6_foundling 74 _ rfl) ?_
                                    refine J_isubC (v := 0) (by decide) (dk_X6_foundling 75 _ rfl) ?_
                                    refine J_iload_n (i := 2) (a := 2) rfl rfl (dk_X6_foundling 76 _ rfl) ?_
                                    refine J_cV (rv := some (.int 100)) (h' := hC6_74) (d' := 11) (As := [.ref 35, .int 0, .int 1]) ok_X6_bestOf vi_X6_bestOf cl_6_188 (n := 3) (by decide +kernel) rfl rfl rfl rfl (by decide) (by decide) (dk_X6_foundling 77 _ rfl) ?_ ?_
                                    · refine jCt_of ok_X6_bestOf (fun _ _ => Nat.le_of_ble_eq_true rfl) (fun _ _ hq => by rw [hq.2]; first | exact Nat.le_refl _ | simp) ?_
                                      show J _ _ _ _ _ _ _ _ [(0, .ref 0), (1, .ref 35), (2, .int 0), (3, .int 1)] _ _ _
                                      refine J_aload_n (i := 0) (a := 0) rfl rfl (dk_X6_bestOf 0 _ rfl) ?_
                                      refine J_aload_n (i := 1) (a := 1) rfl rfl (dk_X6_bestOf 1 _ rfl) ?_
                                      refine J_iload_n (i := 2) (a := 2) rfl rfl (dk_X6_bestOf 2 _ rfl) ?_
                                      refine J_aload_n (i := 0) (a := 0) rfl rfl (dk_X6_bestOf 3 _ rfl) ?_
                                      refine J_getf fl_6_54 rfl rfl (dk_X6_bestOf 4 _ rfl) ?_
                                      refine J_getf fl_6_83 rfl rfl (dk_X6_bestOf 7 _ rfl) ?_
                                      refine J_getf fl_6_87 rfl rfl (dk_X6_bestOf 10 _ rfl) ?_
                                      refine J_cV (rv := none) (h' := hC6_74) (d' := 10) (As := [.ref 35, .int 0, .int 10]) ok_X6_tryDays vi_X6_tryDays cl_6_192 (n := 3) (by decide +kernel) rfl rfl rfl rfl (by decide) (by decide) (dk_X6_bestOf 13 _ rfl) (jev_ct (M := m_X6_tryDays) rfl rc6_74) ?_
                                      show J _ _ _ _ _ _ _ _ _ [] _ _
                                      refine J_aload_n (i := 0) (a := 0) rfl rfl (dk_X6_bestOf 16 _ rfl) ?_
                                      refine J_cV (rv := some (.int 0)) (h' := hC6_74) (d' := 10) (As := []) ok_X6_firstMost vi_X6_firstMost cl_6_269 (n := 0) (by decide +kernel) rfl rfl rfl rfl (by decide) (by decide) (dk_X6_bestOf 17 _ rfl) (jev_ct (M := m_X6_firstMost) rfl rc6_75) ?_
                                      show J _ _ _ _ _ _ _ _ _ [.int 0] _ _
                                      refine J_istore (i := 4) (by decide) (dk_X6_bestOf 20 _ rfl) ?_
                                      show J _ _ _ _ _ _ _ _ [(4, .int 0), (0, .ref 0), (1, .ref 35), (2, .int 0), (3, .int 1)] _ _ _
                                      refine J_iload_n (i := 3) (a := 3) rfl rfl (dk_X6_bestOf 22 _ rfl) ?_
                                      refine J_ifT (tgt := 31) (by decide) (dk_X6_bestOf 23 _ rfl) (jI_ne (by decide : (1 : Int32).toInt = 1) (by decide : (0 : Int32).toInt = 0) (by omega)) ?_
                                      refine J_aload_n (i := 0) (a := 0) rfl rfl (dk_X6_bestOf 31 _ rfl) ?_
                                      refine J_getf fl_6_11 rfl rfl (dk_X6_bestOf 32 _ rfl) ?_
                                      refine J_iload (i := 4) rfl (dk_X6_bestOf 35 _ rfl) ?_
                                      refine J_iald rfl (by decide) rfl (dk_X6_bestOf 37 _ rfl) ?_
                                      exact J_iret rfl rfl (dk_X6_bestOf 38 _ rfl) ⟨rfl, rfl⟩
                                    show J _ _ _ _ _ _ _ _ _ [.int 100] _ _
                                    exact J_iret rfl rfl (dk_X6_foundling 80 _ rfl) ⟨rfl, rfl⟩
                                  · refine jCt_of ok_X7_foundling (fun _ _ => Nat.le_of_ble_eq_true rfl) (fun _ _ hq => Nat.le_of_eq (lM.trans hq.2.symm)) ?_
                                    show J _ _ _ _ _ _ _ _ [(0, .ref 0), (1, .int 11), (2, .int 1)] _ _ _
                                    refine J_aload_n (i := 0) (a := 0) rfl rfl (dk_X7_foundling 0 _ rfl) ?_
                                    refine J_iload_n (i := 2) (a := 2) rfl rfl (dk_X7_foundling 1 _ rfl) ?_
                                    refine J_iconst (v := 0) (by decide) (dk_X7_foundling 2 _ rfl) ?_
                                    refine J_iconst (v := 1) (by decide) (dk_X7_foundling 3 _ rfl) ?_
                                    refine J_cV (rv := some (.int 1)) (h' := hM0) (d' := 11) (As := [.int 1, .int 0, .int 1]) ok_X7_in vi_X7_in cl_7_194 (n := 3) (by decide +kernel) rfl rfl rfl rfl (by decide) (by decide) (dk_X7_foundling 4 _ rfl) ?_ ?_
                                    · refine jCt_of ok_X7_in (fun _ _ => Nat.le_of_ble_eq_true rfl) (fun _ _ hq => by rw [hq.2]; first | exact Nat.le_refl _ | simp) ?_
                                      show J _ _ _ _ _ _ _ _ [(0, .ref 0), (1, .int 1), (2, .int 0), (3, .int 1)] _ _ _
                                      refine J_iload_n (i := 1) (a := 1) rfl rfl (dk_X7_in 0 _ rfl) ?_
                                      refine J_iload_n (i := 2) (a := 2) rfl rfl (dk_X7_in 1 _ rfl) ?_
                                      refine J_icF (tgt := 14) (by decide) (dk_X7_in 2 _ rfl) (jI_nlt (by decide : (1 : Int32).toInt = 1) (by decide : (0 : Int32).toInt = 0) (by omega)) ?_
                                      refine J_iload_n (i := 1) (a := 1) rfl rfl (dk_X7_in 5 _ rfl) ?_
                                      refine J_iload_n (i := 3) (a := 3) rfl rfl (dk_X7_in 6 _ rfl) ?_
                                      refine J_icF (tgt := 14) (by decide) (dk_X7_in 7 _ rfl) (jI_nlt (by decide : (1 : Int32).toInt = 1) (by decide : (1 : Int32).toInt = 1) (by omega)) ?_
                                      refine J_iconst (v := 1) (by decide) (dk_X7_in 10 _ rfl) ?_
                                      refine J_goto (tgt := 15) (by decide) (dk_X7_in 11 _ rfl) ?_
                                      exact J_iret rfl rfl (dk_X7_in 15 _ rfl) ⟨rfl, rfl⟩
                                    show J _ _ _ _ _ _ _ _ _ [.int 1] _ _
                                    refine J_ifT (tgt := 14) (by decide) (dk_X7_foundling 7 _ rfl) (jI_ne (by decide : (1 : Int32).toInt = 1) (by decide : (0 : Int32).toInt = 0) (by omega)) ?_
                                    refine J_aload_n (i := 0) (a := 0) rfl rfl (dk_X7_foundling 14 _ rfl) ?_
                                    refine J_iload_n (i := 1) (a := 1) rfl rfl (dk_X7_foundling 15 _ rfl) ?_
                                    refine J_cV (rv := some (.int 1)) (h' := hM0) (d' := 11) (As := [.int 11]) ok_X7_isDay vi_X7_isDay cl_7_198 (n := 1) (by decide +kernel) rfl rfl rfl rfl (by decide) (by decide) (dk_X7_foundling 16 _ rfl) ?_ ?_
                                    · refine jCt_of ok_X7_isDay (fun _ _ => Nat.le_of_ble_eq_true rfl) (fun _ _ hq => by rw [hq.2]; first | exact Nat.le_refl _ | simp) ?_
                                      show J _ _ _ _ _ _ _ _ [(0, .ref 0), (1, .int 11)] _ _ _
                                      refine J_aload_n (i := 0) (a := 0) rfl rfl (dk_X7_isDay 0 _ rfl) ?_
                                      refine J_iload_n (i := 1) (a := 1) rfl rfl (dk_X7_isDay 1 _ rfl) ?_
                                      refine J_iconst (v := 0) (by decide) (dk_X7_isDay 2 _ rfl) ?_
                                      refine J_bipush (v := 11) (by decide) (dk_X7_isDay 3 _ rfl) ?_
                                      refine J_cV (rv := some (.int 1)) (h' := hM0) (d' := 10) (As := [.int 11, .int 0, .int 11]) ok_X7_in vi_X7_in cl_7_194 (n := 3) (by decide +kernel) rfl rfl rfl rfl (by decide) (by decide) (dk_X7_isDay 5 _ rfl) ?_ ?_
                                      · refine jCt_of ok_X7_in (fun _ _ => Nat.le_of_ble_eq_true rfl) (fun _ _ hq => by rw [hq.2]; first | exact Nat.le_refl _ | simp) ?_
                                        show J _ _ _ _ _ _ _ _ [(0, .ref 0), (1, .int 11), (2, .int 0), (3, .int 11)] _ _ _
                                        refine J_iload_n (i := 1) (a := 1) rfl rfl (dk_X7_in 0 _ rfl) ?_
                                        refine J_iload_n (i := 2) (a := 2) rfl rfl (dk_X7_in 1 _ rfl) ?_
                                        refine J_icF (tgt := 14) (by decide) (dk_X7_in 2 _ rfl) (jI_nlt (by decide : (11 : Int32).toInt = 11) (by decide : (0 : Int32).toInt = 0) (by omega)) ?_
                                        refine J_iload_n (i := 1) (a := 1) rfl rfl (dk_X7_in 5 _ rfl) ?_
                                        refine J_iload_n (i := 3) (a := 3) rfl rfl (dk_X7_in 6 _ rfl) ?_
                                        refine J_icF (tgt := 14) (by decide) (dk_X7_in 7 _ rfl) (jI_nlt (by decide : (11 : Int32).toInt = 11) (by decide : (11 : Int32).toInt = 11) (by omega)) ?_
                                        refine J_iconst (v := 1) (by decide) (dk_X7_in 10 _ rfl) ?_
                                        refine J_goto (tgt := 15) (by decide) (dk_X7_in 11 _ rfl) ?_
                                        exact J_iret rfl rfl (dk_X7_in 15 _ rfl) ⟨rfl, rfl⟩
                                      show J _ _ _ _ _ _ _ _ _ [.int 1] _ _
                                      exact J_iret rfl rfl (dk_X7_isDay 8 _ rfl) ⟨rfl, rfl⟩
                                    show J _ _ _ _ _ _ _ _ _ [.int 1] _ _
                                    refine J_ifT (tgt := 26) (by decide) (dk_X7_foundling 19 _ rfl) (jI_ne (by decide : (1 : Int32).toInt = 1) (by decide : (0 : Int32).toInt = 0) (by omega)) ?_
                                    refine J_aload_n (i := 0) (a := 0) rfl rfl (dk_X7_foundling 26 _ rfl) ?_
                                    refine J_getf fl_7_7 rfl rfl (dk_X7_foundling 27 _ rfl) ?_
                                    refine J_bipush (v := 7) (by decide) (dk_X7_foundling 30 _ rfl) ?_
                                    refine J_icT (tgt := 38) (by decide) (dk_X7_foundling 32 _ rfl) (jI_ne (by decide : (0 : Int32).toInt = 0) (by decide : (7 : Int32).toInt = 7) (by omega)) ?_
                                    refine J_aload_n (i := 0) (a := 0) rfl rfl (dk_X7_foundling 38 _ rfl) ?_
                                    refine J_aload_n (i := 0) (a := 0) rfl rfl (dk_X7_foundling 39 _ rfl) ?_
                                    refine J_getf fl_7_7 rfl rfl (dk_X7_foundling 40 _ rfl) ?_
                                    refine J_iconst (v := 0) (by decide) (dk_X7_foundling 43 _ rfl) ?_
                                    refine J_iconst (v := 0) (by decide) (dk_X7_foundling 44 _ rfl) ?_
                                    refine J_iconst (v := 0) (by decide) (dk_X7_foundling 45 _ rfl) ?_
                                    refine J_iload_n (i := 1) (a := 1) rfl rfl (dk_X7_foundling 46 _ rfl) ?_
                                    refine J_cV (rv := none) (h' := hC7_76) (d' := 11) (As := [.int 0, .int 0, .int 0, .int 0, .int 11]) ok_X7_lay vi_X7_lay cl_7_202 (n := 5) (by decide +kernel) rfl rfl rfl rfl (by decide) (by decide) (dk_X7_foundling 47 _ rfl) (jev_ct (M := m_X7_lay) rfl rc7_76) ?_
                                    show J _ _ _ _ _ _ _ _ _ [] _ _
                                    refine J_aload_n (i := 0) (a := 0) rfl rfl (dk_X7_foundling 50 _ rfl) ?_
                                    refine J_dup rfl (dk_X7_foundling 51 _ rfl) ?_
                                    refine J_getf fl_7_7 rfl rfl (dk_X7_foundling 52 _ rfl) ?_
                                    refine J_iconst (v := 1) (by decide) (dk_X7_foundling 55 _ rfl) ?_
                                    refine J_iaddC (v := 1) (by decide) (dk_X7_foundling 56 _ rfl) ?_
                                    refine J_putf fl_7_7 rfl (fun q hq => by cases hq; rfl) trivial (Nat.le_of_ble_eq_true rfl) (dk_X7_foundling 57 _ rfl) ?_
                                    refine J_aload_n (i := 0) (a := 0) rfl rfl (dk_X7_foundling 60 _ rfl) ?_
                                    refine J_aload_n (i := 0) (a := 0) rfl rfl (dk_X7_foundling 61 _ rfl) ?_
                                    refine J_getf fl_7_7 rfl rfl (dk_X7_foundling 62 _ rfl) ?_
                                    refine J_iconst (v := 1) (by decide) (dk_X7_foundling 65 _ rfl) ?_
                                    refine J_isubC (v := 0) (by decide) (dk_X7_foundling 66 _ rfl) ?_
                                    refine J_iconst (v := 1) (by decide) (dk_X7_foundling 67 _ rfl) ?_
                                    refine J_cV (rv := none) (h' := hC7_77) (d' := 11) (As := [.int 0, .int 1]) ok_X7_layBest vi_X7_layBest cl_7_326 (n := 2) (by decide +kernel) rfl rfl rfl rfl (by decide) (by decide) (dk_X7_foundling 68 _ rfl) (jev_ct (M := m_X7_layBest) rfl rc7_77) ?_
                                    show J _ _ _ _ _ _ _ _ _ [] _ _
                                    refine J_aload_n (i := 0) (a := 0) rfl rfl (dk_X7_foundling 71 _ rfl) ?_
                                    refine J_dup rfl (dk_X7_foundling 72 _ rfl) ?_
                                    refine J_getf fl_7_7 rfl rfl (dk_X7_foundling 73 _ rfl) ?_
                                    refine J_iconst (v := 1) (by decide) (dk_X7_foundling 76 _ rfl) ?_
                                    refine J_isubC (v := 0) (by decide) (dk_X7_foundling 77 _ rfl) ?_
                                    refine J_putf fl_7_7 rfl (fun q hq => by cases hq; rfl) trivial (Nat.le_of_ble_eq_true rfl) (dk_X7_foundling 78 _ rfl) ?_
                                    refine J_iload_n (i := 2) (a := 2) rfl rfl (dk_X7_foundling 81 _ rfl) ?_
                                    refine J_ifT (tgt := 92) (by decide) (dk_X7_foundling 82 _ rfl) (jI_ne (by decide : (1 : Int32).toInt = 1) (by decide : (0 : Int32).toInt = 0) (by omega)) ?_
                                    refine J_aload_n (i := 0) (a := 0) rfl rfl (dk_X7_foundling 92 _ rfl) ?_
                                    refine J_getf fl_7_117 rfl rfl (dk_X7_foundling 93 _ rfl) ?_
                                    exact J_iret rfl rfl (dk_X7_foundling 96 _ rfl) ⟨rfl, rfl⟩
          · refine ⟨(-10000002), ?_, ?_⟩
            · refine jCt_of ok_X6_foundling (fun _ _ => Nat.le_of_ble_eq_true rfl) (fun _ _ hq => Nat.le_of_eq (lX.trans hq.2.symm)) ?_
              show J _ _ _ _ _ _ _ _ [(0, .ref 0), (1, .int d), (2, .int 1)] _ _ _
              refine J_iload_n (i := 2) (a := 2) rfl rfl (dk_X6_foundling 0 _ rfl) ?_
              refine J_ifF (tgt := 9) (by decide) (dk_X6_foundling 1 _ rfl) (jI_nlt (by decide : (1 : Int32).toInt = 1) (by decide : (0 : Int32).toInt = 0) (by omega)) ?_
              refine J_iload_n (i := 2) (a := 2) rfl rfl (dk_X6_foundling 4 _ rfl) ?_
              refine J_iconst (v := 1) (by decide) (dk_X6_foundling 5 _ rfl) ?_
              refine J_icT (tgt := 12) (by decide) (dk_X6_foundling 6 _ rfl) (jI_le (by decide : (1 : Int32).toInt = 1) (by decide : (1 : Int32).toInt = 1) (by omega)) ?_
              refine J_iload_n (i := 1) (a := 1) rfl rfl (dk_X6_foundling 12 _ rfl) ?_
              refine J_cS (rv := some (.int 0)) (h' := hN0) (d' := 11) (As := [.int d]) ok_X6_isDay st_X6_isDay cl_6_67 rfl (n := 1) (by decide +kernel) rfl (by decide) (by decide) (dk_X6_foundling 13 _ rfl) ?_ ?_
              · refine jCt_of ok_X6_isDay (fun _ _ => Nat.le_of_ble_eq_true rfl) (fun _ _ hq => by rw [hq.2]; first | exact Nat.le_refl _ | simp) ?_
                show J _ _ _ _ _ _ _ _ [(0, .int d)] _ _ _
                refine J_iload_n (i := 0) (a := 0) rfl rfl (dk_X6_isDay 0 _ rfl) ?_
                refine J_ifF (tgt := 14) (by decide) (dk_X6_isDay 1 _ rfl) (jI_nlt (rfl : (d : Int32).toInt = (d : Int32).toInt) (by decide : (0 : Int32).toInt = 0) (by omega)) ?_
                refine J_iload_n (i := 0) (a := 0) rfl rfl (dk_X6_isDay 4 _ rfl) ?_
                refine J_bipush (v := 12) (by decide) (dk_X6_isDay 5 _ rfl) ?_
                refine J_icT (tgt := 14) (by decide) (dk_X6_isDay 7 _ rfl) (jI_le (by decide : (12 : Int32).toInt = 12) (rfl : (d : Int32).toInt = (d : Int32).toInt) (by omega)) ?_
                refine J_iconst (v := 0) (by decide) (dk_X6_isDay 14 _ rfl) ?_
                exact J_iret rfl rfl (dk_X6_isDay 15 _ rfl) ⟨rfl, rfl⟩
              show J _ _ _ _ _ _ _ _ _ [.int 0] _ _
              refine J_ifF (tgt := 22) (by decide) (dk_X6_foundling 16 _ rfl) (fun z => z (jI_eq (by decide : (0 : Int32).toInt = 0) (by decide : (0 : Int32).toInt = 0) (by omega))) ?_
              refine J_ldc (v := (-10000002)) ct_6_178 (dk_X6_foundling 19 _ rfl) ?_
              exact J_iret rfl rfl (dk_X6_foundling 21 _ rfl) ⟨rfl, rfl⟩
            · refine jCt_of ok_X7_foundling (fun _ _ => Nat.le_of_ble_eq_true rfl) (fun _ _ hq => Nat.le_of_eq (lM.trans hq.2.symm)) ?_
              show J _ _ _ _ _ _ _ _ [(0, .ref 0), (1, .int d), (2, .int 1)] _ _ _
              refine J_aload_n (i := 0) (a := 0) rfl rfl (dk_X7_foundling 0 _ rfl) ?_
              refine J_iload_n (i := 2) (a := 2) rfl rfl (dk_X7_foundling 1 _ rfl) ?_
              refine J_iconst (v := 0) (by decide) (dk_X7_foundling 2 _ rfl) ?_
              refine J_iconst (v := 1) (by decide) (dk_X7_foundling 3 _ rfl) ?_
              refine J_cV (rv := some (.int 1)) (h' := hM0) (d' := 11) (As := [.int 1, .int 0, .int 1]) ok_X7_in vi_X7_in cl_7_194 (n := 3) (by decide +kernel) rfl rfl rfl rfl (by decide) (by decide) (dk_X7_foundling 4 _ rfl) ?_ ?_
              · refine jCt_of ok_X7_in (fun _ _ => Nat.le_of_ble_eq_true rfl) (fun _ _ hq => by rw [hq.2]; first | exact Nat.le_refl _ | simp) ?_
                show J _ _ _ _ _ _ _ _ [(0, .ref 0), (1, .int 1), (2, .int 0), (3, .int 1)] _ _ _
                refine J_iload_n (i := 1) (a := 1) rfl rfl (dk_X7_in 0 _ rfl) ?_
                refine J_iload_n (i := 2) (a := 2) rfl rfl (dk_X7_in 1 _ rfl) ?_
                refine J_icF (tgt := 14) (by decide) (dk_X7_in 2 _ rfl) (jI_nlt (by decide : (1 : Int32).toInt = 1) (by decide : (0 : Int32).toInt = 0) (by omega)) ?_
                refine J_iload_n (i := 1) (a := 1) rfl rfl (dk_X7_in 5 _ rfl) ?_
                refine J_iload_n (i := 3) (a := 3) rfl rfl (dk_X7_in 6 _ rfl) ?_
                refine J_icF (tgt := 14) (by decide) (dk_X7_in 7 _ rfl) (jI_nlt (by decide : (1 : Int32).toInt = 1) (by decide : (1 : Int32).toInt = 1) (by omega)) ?_
                refine J_iconst (v := 1) (by decide) (dk_X7_in 10 _ rfl) ?_
                refine J_goto (tgt := 15) (by decide) (dk_X7_in 11 _ rfl) ?_
                exact J_iret rfl rfl (dk_X7_in 15 _ rfl) ⟨rfl, rfl⟩
              show J _ _ _ _ _ _ _ _ _ [.int 1] _ _
              refine J_ifT (tgt := 14) (by decide) (dk_X7_foundling 7 _ rfl) (jI_ne (by decide : (1 : Int32).toInt = 1) (by decide : (0 : Int32).toInt = 0) (by omega)) ?_
              refine J_aload_n (i := 0) (a := 0) rfl rfl (dk_X7_foundling 14 _ rfl) ?_
              refine J_iload_n (i := 1) (a := 1) rfl rfl (dk_X7_foundling 15 _ rfl) ?_
              refine J_cV (rv := some (.int 0)) (h' := hM0) (d' := 11) (As := [.int d]) ok_X7_isDay vi_X7_isDay cl_7_198 (n := 1) (by decide +kernel) rfl rfl rfl rfl (by decide) (by decide) (dk_X7_foundling 16 _ rfl) ?_ ?_
              · refine jCt_of ok_X7_isDay (fun _ _ => Nat.le_of_ble_eq_true rfl) (fun _ _ hq => by rw [hq.2]; first | exact Nat.le_refl _ | simp) ?_
                show J _ _ _ _ _ _ _ _ [(0, .ref 0), (1, .int d)] _ _ _
                refine J_aload_n (i := 0) (a := 0) rfl rfl (dk_X7_isDay 0 _ rfl) ?_
                refine J_iload_n (i := 1) (a := 1) rfl rfl (dk_X7_isDay 1 _ rfl) ?_
                refine J_iconst (v := 0) (by decide) (dk_X7_isDay 2 _ rfl) ?_
                refine J_bipush (v := 11) (by decide) (dk_X7_isDay 3 _ rfl) ?_
                refine J_cV (rv := some (.int 0)) (h' := hM0) (d' := 10) (As := [.int d, .int 0, .int 11]) ok_X7_in vi_X7_in cl_7_194 (n := 3) (by decide +kernel) rfl rfl rfl rfl (by decide) (by decide) (dk_X7_isDay 5 _ rfl) ?_ ?_
                · refine jCt_of ok_X7_in (fun _ _ => Nat.le_of_ble_eq_true rfl) (fun _ _ hq => by rw [hq.2]; first | exact Nat.le_refl _ | simp) ?_
                  show J _ _ _ _ _ _ _ _ [(0, .ref 0), (1, .int d), (2, .int 0), (3, .int 11)] _ _ _
                  refine J_iload_n (i := 1) (a := 1) rfl rfl (dk_X7_in 0 _ rfl) ?_
                  refine J_iload_n (i := 2) (a := 2) rfl rfl (dk_X7_in 1 _ rfl) ?_
                  refine J_icF (tgt := 14) (by decide) (dk_X7_in 2 _ rfl) (jI_nlt (rfl : (d : Int32).toInt = (d : Int32).toInt) (by decide : (0 : Int32).toInt = 0) (by omega)) ?_
                  refine J_iload_n (i := 1) (a := 1) rfl rfl (dk_X7_in 5 _ rfl) ?_
                  refine J_iload_n (i := 3) (a := 3) rfl rfl (dk_X7_in 6 _ rfl) ?_
                  refine J_icT (tgt := 14) (by decide) (dk_X7_in 7 _ rfl) (jI_lt (by decide : (11 : Int32).toInt = 11) (rfl : (d : Int32).toInt = (d : Int32).toInt) (by omega)) ?_
                  refine J_iconst (v := 0) (by decide) (dk_X7_in 14 _ rfl) ?_
                  exact J_iret rfl rfl (dk_X7_in 15 _ rfl) ⟨rfl, rfl⟩
                show J _ _ _ _ _ _ _ _ _ [.int 0] _ _
                exact J_iret rfl rfl (dk_X7_isDay 8 _ rfl) ⟨rfl, rfl⟩
              show J _ _ _ _ _ _ _ _ _ [.int 0] _ _
              refine J_ifF (tgt := 26) (by decide) (dk_X7_foundling 19 _ rfl) (fun z => z (jI_eq (by decide : (0 : Int32).toInt = 0) (by decide : (0 : Int32).toInt = 0) (by omega))) ?_
              refine J_ldcw (v := (-10000002)) ct_7_313 (dk_X7_foundling 22 _ rfl) ?_
              exact J_iret rfl rfl (dk_X7_foundling 25 _ rfl) ⟨rfl, rfl⟩
    · refine ⟨(-10000001), ?_, ?_⟩
      · refine jCt_of ok_X6_foundling (fun _ _ => Nat.le_of_ble_eq_true rfl) (fun _ _ hq => Nat.le_of_eq (lX.trans hq.2.symm)) ?_
        show J _ _ _ _ _ _ _ _ [(0, .ref 0), (1, .int d), (2, .int w)] _ _ _
        refine J_iload_n (i := 2) (a := 2) rfl rfl (dk_X6_foundling 0 _ rfl) ?_
        refine J_ifF (tgt := 9) (by decide) (dk_X6_foundling 1 _ rfl) (jI_nlt (rfl : (w : Int32).toInt = (w : Int32).toInt) (by decide : (0 : Int32).toInt = 0) (by omega)) ?_
        refine J_iload_n (i := 2) (a := 2) rfl rfl (dk_X6_foundling 4 _ rfl) ?_
        refine J_iconst (v := 1) (by decide) (dk_X6_foundling 5 _ rfl) ?_
        refine J_icF (tgt := 12) (by decide) (dk_X6_foundling 6 _ rfl) (jI_nle (rfl : (w : Int32).toInt = (w : Int32).toInt) (by decide : (1 : Int32).toInt = 1) (by omega)) ?_
        refine J_ldc (v := (-10000001)) ct_6_82 (dk_X6_foundling 9 _ rfl) ?_
        exact J_iret rfl rfl (dk_X6_foundling 11 _ rfl) ⟨rfl, rfl⟩
      · refine jCt_of ok_X7_foundling (fun _ _ => Nat.le_of_ble_eq_true rfl) (fun _ _ hq => Nat.le_of_eq (lM.trans hq.2.symm)) ?_
        show J _ _ _ _ _ _ _ _ [(0, .ref 0), (1, .int d), (2, .int w)] _ _ _
        refine J_aload_n (i := 0) (a := 0) rfl rfl (dk_X7_foundling 0 _ rfl) ?_
        refine J_iload_n (i := 2) (a := 2) rfl rfl (dk_X7_foundling 1 _ rfl) ?_
        refine J_iconst (v := 0) (by decide) (dk_X7_foundling 2 _ rfl) ?_
        refine J_iconst (v := 1) (by decide) (dk_X7_foundling 3 _ rfl) ?_
        refine J_cV (rv := some (.int 0)) (h' := hM0) (d' := 11) (As := [.int w, .int 0, .int 1]) ok_X7_in vi_X7_in cl_7_194 (n := 3) (by decide +kernel) rfl rfl rfl rfl (by decide) (by decide) (dk_X7_foundling 4 _ rfl) ?_ ?_
        · refine jCt_of ok_X7_in (fun _ _ => Nat.le_of_ble_eq_true rfl) (fun _ _ hq => by rw [hq.2]; first | exact Nat.le_refl _ | simp) ?_
          show J _ _ _ _ _ _ _ _ [(0, .ref 0), (1, .int w), (2, .int 0), (3, .int 1)] _ _ _
          refine J_iload_n (i := 1) (a := 1) rfl rfl (dk_X7_in 0 _ rfl) ?_
          refine J_iload_n (i := 2) (a := 2) rfl rfl (dk_X7_in 1 _ rfl) ?_
          refine J_icF (tgt := 14) (by decide) (dk_X7_in 2 _ rfl) (jI_nlt (rfl : (w : Int32).toInt = (w : Int32).toInt) (by decide : (0 : Int32).toInt = 0) (by omega)) ?_
          refine J_iload_n (i := 1) (a := 1) rfl rfl (dk_X7_in 5 _ rfl) ?_
          refine J_iload_n (i := 3) (a := 3) rfl rfl (dk_X7_in 6 _ rfl) ?_
          refine J_icT (tgt := 14) (by decide) (dk_X7_in 7 _ rfl) (jI_lt (by decide : (1 : Int32).toInt = 1) (rfl : (w : Int32).toInt = (w : Int32).toInt) (by omega)) ?_
          refine J_iconst (v := 0) (by decide) (dk_X7_in 14 _ rfl) ?_
          exact J_iret rfl rfl (dk_X7_in 15 _ rfl) ⟨rfl, rfl⟩
        show J _ _ _ _ _ _ _ _ _ [.int 0] _ _
        refine J_ifF (tgt := 14) (by decide) (dk_X7_foundling 7 _ rfl) (fun z => z (jI_eq (by decide : (0 : Int32).toInt = 0) (by decide : (0 : Int32).toInt = 0) (by omega))) ?_
        refine J_ldcw (v := (-10000001)) ct_7_291 (dk_X7_foundling 10 _ rfl) ?_
        exact J_iret rfl rfl (dk_X7_foundling 13 _ rfl) ⟨rfl, rfl⟩
