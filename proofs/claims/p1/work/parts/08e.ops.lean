set_option maxHeartbeats 4000000 in
set_option maxRecDepth 1000000 in
theorem o_judge (t : Int32) (i : Int32) : ∃ rv : Int32, jCt m_X6_judge 12 0 0 [.ref 0, .int t, .int i] hN0 (jA (.int rv) 94) ∧ jCt m_X7_judge 12 0 0 [.ref 0, .int t, .int i] hM0 (jA (.int rv) 37) := by
  have r_t := t.toInt_lt; have q_t := t.le_toInt
  have r_i := i.toInt_lt; have q_i := i.le_toInt
  by_cases c1 : (t : Int32).toInt < 0
  · refine ⟨(-1), ?_, ?_⟩
    · refine jCt_of ok_X6_judge (fun _ _ => Nat.le_of_ble_eq_true rfl) (fun _ _ hq => Nat.le_of_eq (lX.trans hq.2.symm)) ?_
      show J _ _ _ _ _ _ _ _ [(0, .ref 0), (1, .int t), (2, .int i)] _ _ _
      refine J_iload_n (i := 1) (a := 1) rfl rfl (dk_X6_judge 0 _ rfl) ?_
      refine J_cS (rv := some (.int 0)) (h' := hN0) (d' := 11) (As := [.int t]) ok_X6_isTape st_X6_isTape cl_6_220 rfl (n := 1) (by decide +kernel) rfl (by decide) (by decide) (dk_X6_judge 1 _ rfl) ?_ ?_
      · refine jCt_of ok_X6_isTape (fun _ _ => Nat.le_of_ble_eq_true rfl) (fun _ _ hq => by rw [hq.2]; first | exact Nat.le_refl _ | simp) ?_
        show J _ _ _ _ _ _ _ _ [(0, .int t)] _ _ _
        refine J_iload_n (i := 0) (a := 0) rfl rfl (dk_X6_isTape 0 _ rfl) ?_
        refine J_ifT (tgt := 14) (by decide) (dk_X6_isTape 1 _ rfl) (jI_lt (rfl : (t : Int32).toInt = (t : Int32).toInt) (by decide : (0 : Int32).toInt = 0) (by omega)) ?_
        refine J_iconst (v := 0) (by decide) (dk_X6_isTape 14 _ rfl) ?_
        exact J_iret rfl rfl (dk_X6_isTape 15 _ rfl) ⟨rfl, rfl⟩
      show J _ _ _ _ _ _ _ _ _ [.int 0] _ _
      refine J_ifF (tgt := 9) (by decide) (dk_X6_judge 4 _ rfl) (fun z => z (jI_eq (by decide : (0 : Int32).toInt = 0) (by decide : (0 : Int32).toInt = 0) (by omega))) ?_
      refine J_iconst (v := (-1)) (by decide) (dk_X6_judge 7 _ rfl) ?_
      exact J_iret rfl rfl (dk_X6_judge 8 _ rfl) ⟨rfl, rfl⟩
    · refine jCt_of ok_X7_judge (fun _ _ => Nat.le_of_ble_eq_true rfl) (fun _ _ hq => Nat.le_of_eq (lM.trans hq.2.symm)) ?_
      show J _ _ _ _ _ _ _ _ [(0, .ref 0), (1, .int t), (2, .int i)] _ _ _
      refine J_aload_n (i := 0) (a := 0) rfl rfl (dk_X7_judge 0 _ rfl) ?_
      refine J_iload_n (i := 1) (a := 1) rfl rfl (dk_X7_judge 1 _ rfl) ?_
      refine J_cV (rv := some (.int 0)) (h' := hM0) (d' := 11) (As := [.int t]) ok_X7_isTape vi_X7_isTape cl_7_354 (n := 1) (by decide +kernel) rfl rfl rfl rfl (by decide) (by decide) (dk_X7_judge 2 _ rfl) ?_ ?_
      · refine jCt_of ok_X7_isTape (fun _ _ => Nat.le_of_ble_eq_true rfl) (fun _ _ hq => by rw [hq.2]; first | exact Nat.le_refl _ | simp) ?_
        show J _ _ _ _ _ _ _ _ [(0, .ref 0), (1, .int t)] _ _ _
        refine J_aload_n (i := 0) (a := 0) rfl rfl (dk_X7_isTape 0 _ rfl) ?_
        refine J_iload_n (i := 1) (a := 1) rfl rfl (dk_X7_isTape 1 _ rfl) ?_
        refine J_iconst (v := 0) (by decide) (dk_X7_isTape 2 _ rfl) ?_
        refine J_iconst (v := 5) (by decide) (dk_X7_isTape 3 _ rfl) ?_
        refine J_cV (rv := some (.int 0)) (h' := hM0) (d' := 10) (As := [.int t, .int 0, .int 5]) ok_X7_in vi_X7_in cl_7_194 (n := 3) (by decide +kernel) rfl rfl rfl rfl (by decide) (by decide) (dk_X7_isTape 4 _ rfl) ?_ ?_
        · refine jCt_of ok_X7_in (fun _ _ => Nat.le_of_ble_eq_true rfl) (fun _ _ hq => by rw [hq.2]; first | exact Nat.le_refl _ | simp) ?_
          show J _ _ _ _ _ _ _ _ [(0, .ref 0), (1, .int t), (2, .int 0), (3, .int 5)] _ _ _
          refine J_iload_n (i := 1) (a := 1) rfl rfl (dk_X7_in 0 _ rfl) ?_
          refine J_iload_n (i := 2) (a := 2) rfl rfl (dk_X7_in 1 _ rfl) ?_
          refine J_icT (tgt := 14) (by decide) (dk_X7_in 2 _ rfl) (jI_lt (rfl : (t : Int32).toInt = (t : Int32).toInt) (by decide : (0 : Int32).toInt = 0) (by omega)) ?_
          refine J_iconst (v := 0) (by decide) (dk_X7_in 14 _ rfl) ?_
          exact J_iret rfl rfl (dk_X7_in 15 _ rfl) ⟨rfl, rfl⟩
        show J _ _ _ _ _ _ _ _ _ [.int 0] _ _
        exact J_iret rfl rfl (dk_X7_isTape 7 _ rfl) ⟨rfl, rfl⟩
      show J _ _ _ _ _ _ _ _ _ [.int 0] _ _
      refine J_ifF (tgt := 10) (by decide) (dk_X7_judge 5 _ rfl) (fun z => z (jI_eq (by decide : (0 : Int32).toInt = 0) (by decide : (0 : Int32).toInt = 0) (by omega))) ?_
      refine J_iconst (v := (-1)) (by decide) (dk_X7_judge 8 _ rfl) ?_
      exact J_iret rfl rfl (dk_X7_judge 9 _ rfl) ⟨rfl, rfl⟩
  · by_cases c2 : (t : Int32).toInt < 6
    · by_cases c3 : (t : Int32).toInt = 0
      · obtain rfl : t = 0 := jI_eq rfl (by decide) c3
        refine ⟨(-5), ?_, ?_⟩
        · refine jCt_of ok_X6_judge (fun _ _ => Nat.le_of_ble_eq_true rfl) (fun _ _ hq => Nat.le_of_eq (lX.trans hq.2.symm)) ?_
          show J _ _ _ _ _ _ _ _ [(0, .ref 0), (1, .int 0), (2, .int i)] _ _ _
          refine J_iload_n (i := 1) (a := 1) rfl rfl (dk_X6_judge 0 _ rfl) ?_
          refine J_cS (rv := some (.int 1)) (h' := hN0) (d' := 11) (As := [.int 0]) ok_X6_isTape st_X6_isTape cl_6_220 rfl (n := 1) (by decide +kernel) rfl (by decide) (by decide) (dk_X6_judge 1 _ rfl) ?_ ?_
          · refine jCt_of ok_X6_isTape (fun _ _ => Nat.le_of_ble_eq_true rfl) (fun _ _ hq => by rw [hq.2]; first | exact Nat.le_refl _ | simp) ?_
            show J _ _ _ _ _ _ _ _ [(0, .int 0)] _ _ _
            refine J_iload_n (i := 0) (a := 0) rfl rfl (dk_X6_isTape 0 _ rfl) ?_
            refine J_ifF (tgt := 14) (by decide) (dk_X6_isTape 1 _ rfl) (jI_nlt (by decide : (0 : Int32).toInt = 0) (by decide : (0 : Int32).toInt = 0) (by omega)) ?_
            refine J_iload_n (i := 0) (a := 0) rfl rfl (dk_X6_isTape 4 _ rfl) ?_
            refine J_bipush (v := 6) (by decide) (dk_X6_isTape 5 _ rfl) ?_
            refine J_icF (tgt := 14) (by decide) (dk_X6_isTape 7 _ rfl) (jI_nle (by decide : (6 : Int32).toInt = 6) (by decide : (0 : Int32).toInt = 0) (by omega)) ?_
            refine J_iconst (v := 1) (by decide) (dk_X6_isTape 10 _ rfl) ?_
            refine J_goto (tgt := 15) (by decide) (dk_X6_isTape 11 _ rfl) ?_
            exact J_iret rfl rfl (dk_X6_isTape 15 _ rfl) ⟨rfl, rfl⟩
          show J _ _ _ _ _ _ _ _ _ [.int 1] _ _
          refine J_ifT (tgt := 9) (by decide) (dk_X6_judge 4 _ rfl) (jI_ne (by decide : (1 : Int32).toInt = 1) (by decide : (0 : Int32).toInt = 0) (by omega)) ?_
          refine J_aload_n (i := 0) (a := 0) rfl rfl (dk_X6_judge 9 _ rfl) ?_
          refine J_getf fl_6_37 rfl rfl (dk_X6_judge 10 _ rfl) ?_
          refine J_iload_n (i := 1) (a := 1) rfl rfl (dk_X6_judge 13 _ rfl) ?_
          refine J_aald (by decide) rfl (by decide) rfl (dk_X6_judge 14 _ rfl) ?_
          refine J_astore_n (i := 3) (a := 3) rfl (by decide) (dk_X6_judge 15 _ rfl) ?_
          show J _ _ _ _ _ _ _ _ [(3, .ref 82), (0, .ref 0), (1, .int 0), (2, .int i)] _ _ _
          refine J_aload_n (i := 3) (a := 3) rfl rfl (dk_X6_judge 16 _ rfl) ?_
          refine J_getf fl_6_223 rfl rfl (dk_X6_judge 17 _ rfl) ?_
          refine J_iconst (v := (-1)) (by decide) (dk_X6_judge 20 _ rfl) ?_
          refine J_icT (tgt := 35) (by decide) (dk_X6_judge 21 _ rfl) (jI_eq (by decide : ((-1) : Int32).toInt = (-1)) (by decide : ((-1) : Int32).toInt = (-1)) (by omega)) ?_
          refine J_iconst (v := 0) (by decide) (dk_X6_judge 35 _ rfl) ?_
          refine J_istore (i := 4) (by decide) (dk_X6_judge 36 _ rfl) ?_
          show J _ _ _ _ _ _ _ _ [(4, .int 0), (3, .ref 82), (0, .ref 0), (1, .int 0), (2, .int i)] _ _ _
          refine J_iload (i := 4) rfl (dk_X6_judge 38 _ rfl) ?_
          refine J_aload_n (i := 0) (a := 0) rfl rfl (dk_X6_judge 40 _ rfl) ?_
          refine J_getf fl_6_47 rfl rfl (dk_X6_judge 41 _ rfl) ?_
          refine J_getf fl_6_71 rfl rfl (dk_X6_judge 44 _ rfl) ?_
          refine J_icT (tgt := 104) (by decide) (dk_X6_judge 47 _ rfl) (jI_le (by decide : (0 : Int32).toInt = 0) (by decide : (0 : Int32).toInt = 0) (by omega)) ?_
          refine J_bipush (v := (-5)) (by decide) (dk_X6_judge 104 _ rfl) ?_
          exact J_iret rfl rfl (dk_X6_judge 106 _ rfl) ⟨rfl, rfl⟩
        · refine jCt_of ok_X7_judge (fun _ _ => Nat.le_of_ble_eq_true rfl) (fun _ _ hq => Nat.le_of_eq (lM.trans hq.2.symm)) ?_
          show J _ _ _ _ _ _ _ _ [(0, .ref 0), (1, .int 0), (2, .int i)] _ _ _
          refine J_aload_n (i := 0) (a := 0) rfl rfl (dk_X7_judge 0 _ rfl) ?_
          refine J_iload_n (i := 1) (a := 1) rfl rfl (dk_X7_judge 1 _ rfl) ?_
          refine J_cV (rv := some (.int 1)) (h' := hM0) (d' := 11) (As := [.int 0]) ok_X7_isTape vi_X7_isTape cl_7_354 (n := 1) (by decide +kernel) rfl rfl rfl rfl (by decide) (by decide) (dk_X7_judge 2 _ rfl) ?_ ?_
          · refine jCt_of ok_X7_isTape (fun _ _ => Nat.le_of_ble_eq_true rfl) (fun _ _ hq => by rw [hq.2]; first | exact Nat.le_refl _ | simp) ?_
            show J _ _ _ _ _ _ _ _ [(0, .ref 0), (1, .int 0)] _ _ _
            refine J_aload_n (i := 0) (a := 0) rfl rfl (dk_X7_isTape 0 _ rfl) ?_
            refine J_iload_n (i := 1) (a := 1) rfl rfl (dk_X7_isTape 1 _ rfl) ?_
            refine J_iconst (v := 0) (by decide) (dk_X7_isTape 2 _ rfl) ?_
            refine J_iconst (v := 5) (by decide) (dk_X7_isTape 3 _ rfl) ?_
            refine J_cV (rv := some (.int 1)) (h' := hM0) (d' := 10) (As := [.int 0, .int 0, .int 5]) ok_X7_in vi_X7_in cl_7_194 (n := 3) (by decide +kernel) rfl rfl rfl rfl (by decide) (by decide) (dk_X7_isTape 4 _ rfl) ?_ ?_
            · refine jCt_of ok_X7_in (fun _ _ => Nat.le_of_ble_eq_true rfl) (fun _ _ hq => by rw [hq.2]; first | exact Nat.le_refl _ | simp) ?_
              show J _ _ _ _ _ _ _ _ [(0, .ref 0), (1, .int 0), (2, .int 0), (3, .int 5)] _ _ _
              refine J_iload_n (i := 1) (a := 1) rfl rfl (dk_X7_in 0 _ rfl) ?_
              refine J_iload_n (i := 2) (a := 2) rfl rfl (dk_X7_in 1 _ rfl) ?_
              refine J_icF (tgt := 14) (by decide) (dk_X7_in 2 _ rfl) (jI_nlt (by decide : (0 : Int32).toInt = 0) (by decide : (0 : Int32).toInt = 0) (by omega)) ?_
              refine J_iload_n (i := 1) (a := 1) rfl rfl (dk_X7_in 5 _ rfl) ?_
              refine J_iload_n (i := 3) (a := 3) rfl rfl (dk_X7_in 6 _ rfl) ?_
              refine J_icF (tgt := 14) (by decide) (dk_X7_in 7 _ rfl) (jI_nlt (by decide : (5 : Int32).toInt = 5) (by decide : (0 : Int32).toInt = 0) (by omega)) ?_
              refine J_iconst (v := 1) (by decide) (dk_X7_in 10 _ rfl) ?_
              refine J_goto (tgt := 15) (by decide) (dk_X7_in 11 _ rfl) ?_
              exact J_iret rfl rfl (dk_X7_in 15 _ rfl) ⟨rfl, rfl⟩
            show J _ _ _ _ _ _ _ _ _ [.int 1] _ _
            exact J_iret rfl rfl (dk_X7_isTape 7 _ rfl) ⟨rfl, rfl⟩
          show J _ _ _ _ _ _ _ _ _ [.int 1] _ _
          refine J_ifT (tgt := 10) (by decide) (dk_X7_judge 5 _ rfl) (jI_ne (by decide : (1 : Int32).toInt = 1) (by decide : (0 : Int32).toInt = 0) (by omega)) ?_
          refine J_aload_n (i := 0) (a := 0) rfl rfl (dk_X7_judge 10 _ rfl) ?_
          refine J_getf fl_7_181 rfl rfl (dk_X7_judge 11 _ rfl) ?_
          refine J_iload_n (i := 1) (a := 1) rfl rfl (dk_X7_judge 14 _ rfl) ?_
          refine J_iald rfl (by decide) rfl (dk_X7_judge 15 _ rfl) ?_
          refine J_ifT (tgt := 32) (by decide) (dk_X7_judge 16 _ rfl) (jI_lt (by decide : ((-1) : Int32).toInt = (-1)) (by decide : (0 : Int32).toInt = 0) (by omega)) ?_
          refine J_iconst (v := 0) (by decide) (dk_X7_judge 32 _ rfl) ?_
          refine J_istore_n (i := 3) (a := 3) rfl (by decide) (dk_X7_judge 33 _ rfl) ?_
          show J _ _ _ _ _ _ _ _ [(3, .int 0), (0, .ref 0), (1, .int 0), (2, .int i)] _ _ _
          refine J_iload_n (i := 3) (a := 3) rfl rfl (dk_X7_judge 34 _ rfl) ?_
          refine J_aload_n (i := 0) (a := 0) rfl rfl (dk_X7_judge 35 _ rfl) ?_
          refine J_getf fl_7_7 rfl rfl (dk_X7_judge 36 _ rfl) ?_
          refine J_icT (tgt := 106) (by decide) (dk_X7_judge 39 _ rfl) (jI_le (by decide : (0 : Int32).toInt = 0) (by decide : (0 : Int32).toInt = 0) (by omega)) ?_
          refine J_bipush (v := (-5)) (by decide) (dk_X7_judge 106 _ rfl) ?_
          exact J_iret rfl rfl (dk_X7_judge 108 _ rfl) ⟨rfl, rfl⟩
      · by_cases c4 : (t : Int32).toInt = 1
        · obtain rfl : t = 1 := jI_eq rfl (by decide) c4
          refine ⟨(-5), ?_, ?_⟩
          · refine jCt_of ok_X6_judge (fun _ _ => Nat.le_of_ble_eq_true rfl) (fun _ _ hq => Nat.le_of_eq (lX.trans hq.2.symm)) ?_
            show J _ _ _ _ _ _ _ _ [(0, .ref 0), (1, .int 1), (2, .int i)] _ _ _
            refine J_iload_n (i := 1) (a := 1) rfl rfl (dk_X6_judge 0 _ rfl) ?_
            refine J_cS (rv := some (.int 1)) (h' := hN0) (d' := 11) (As := [.int 1]) ok_X6_isTape st_X6_isTape cl_6_220 rfl (n := 1) (by decide +kernel) rfl (by decide) (by decide) (dk_X6_judge 1 _ rfl) ?_ ?_
            · refine jCt_of ok_X6_isTape (fun _ _ => Nat.le_of_ble_eq_true rfl) (fun _ _ hq => by rw [hq.2]; first | exact Nat.le_refl _ | simp) ?_
              show J _ _ _ _ _ _ _ _ [(0, .int 1)] _ _ _
              refine J_iload_n (i := 0) (a := 0) rfl rfl (dk_X6_isTape 0 _ rfl) ?_
              refine J_ifF (tgt := 14) (by decide) (dk_X6_isTape 1 _ rfl) (jI_nlt (by decide : (1 : Int32).toInt = 1) (by decide : (0 : Int32).toInt = 0) (by omega)) ?_
              refine J_iload_n (i := 0) (a := 0) rfl rfl (dk_X6_isTape 4 _ rfl) ?_
              refine J_bipush (v := 6) (by decide) (dk_X6_isTape 5 _ rfl) ?_
              refine J_icF (tgt := 14) (by decide) (dk_X6_isTape 7 _ rfl) (jI_nle (by decide : (6 : Int32).toInt = 6) (by decide : (1 : Int32).toInt = 1) (by omega)) ?_
              refine J_iconst (v := 1) (by decide) (dk_X6_isTape 10 _ rfl) ?_
              refine J_goto (tgt := 15) (by decide) (dk_X6_isTape 11 _ rfl) ?_
              exact J_iret rfl rfl (dk_X6_isTape 15 _ rfl) ⟨rfl, rfl⟩
            show J _ _ _ _ _ _ _ _ _ [.int 1] _ _
            refine J_ifT (tgt := 9) (by decide) (dk_X6_judge 4 _ rfl) (jI_ne (by decide : (1 : Int32).toInt = 1) (by decide : (0 : Int32).toInt = 0) (by omega)) ?_
            refine J_aload_n (i := 0) (a := 0) rfl rfl (dk_X6_judge 9 _ rfl) ?_
            refine J_getf fl_6_37 rfl rfl (dk_X6_judge 10 _ rfl) ?_
            refine J_iload_n (i := 1) (a := 1) rfl rfl (dk_X6_judge 13 _ rfl) ?_
            refine J_aald (by decide) rfl (by decide) rfl (dk_X6_judge 14 _ rfl) ?_
            refine J_astore_n (i := 3) (a := 3) rfl (by decide) (dk_X6_judge 15 _ rfl) ?_
            show J _ _ _ _ _ _ _ _ [(3, .ref 84), (0, .ref 0), (1, .int 1), (2, .int i)] _ _ _
            refine J_aload_n (i := 3) (a := 3) rfl rfl (dk_X6_judge 16 _ rfl) ?_
            refine J_getf fl_6_223 rfl rfl (dk_X6_judge 17 _ rfl) ?_
            refine J_iconst (v := (-1)) (by decide) (dk_X6_judge 20 _ rfl) ?_
            refine J_icT (tgt := 35) (by decide) (dk_X6_judge 21 _ rfl) (jI_eq (by decide : ((-1) : Int32).toInt = (-1)) (by decide : ((-1) : Int32).toInt = (-1)) (by omega)) ?_
            refine J_iconst (v := 0) (by decide) (dk_X6_judge 35 _ rfl) ?_
            refine J_istore (i := 4) (by decide) (dk_X6_judge 36 _ rfl) ?_
            show J _ _ _ _ _ _ _ _ [(4, .int 0), (3, .ref 84), (0, .ref 0), (1, .int 1), (2, .int i)] _ _ _
            refine J_iload (i := 4) rfl (dk_X6_judge 38 _ rfl) ?_
            refine J_aload_n (i := 0) (a := 0) rfl rfl (dk_X6_judge 40 _ rfl) ?_
            refine J_getf fl_6_47 rfl rfl (dk_X6_judge 41 _ rfl) ?_
            refine J_getf fl_6_71 rfl rfl (dk_X6_judge 44 _ rfl) ?_
            refine J_icT (tgt := 104) (by decide) (dk_X6_judge 47 _ rfl) (jI_le (by decide : (0 : Int32).toInt = 0) (by decide : (0 : Int32).toInt = 0) (by omega)) ?_
            refine J_bipush (v := (-5)) (by decide) (dk_X6_judge 104 _ rfl) ?_
            exact J_iret rfl rfl (dk_X6_judge 106 _ rfl) ⟨rfl, rfl⟩
          · refine jCt_of ok_X7_judge (fun _ _ => Nat.le_of_ble_eq_true rfl) (fun _ _ hq => Nat.le_of_eq (lM.trans hq.2.symm)) ?_
            show J _ _ _ _ _ _ _ _ [(0, .ref 0), (1, .int 1), (2, .int i)] _ _ _
            refine J_aload_n (i := 0) (a := 0) rfl rfl (dk_X7_judge 0 _ rfl) ?_
            refine J_iload_n (i := 1) (a := 1) rfl rfl (dk_X7_judge 1 _ rfl) ?_
            refine J_cV (rv := some (.int 1)) (h' := hM0) (d' := 11) (As := [.int 1]) ok_X7_isTape vi_X7_isTape cl_7_354 (n := 1) (by decide +kernel) rfl rfl rfl rfl (by decide) (by decide) (dk_X7_judge 2 _ rfl) ?_ ?_
            · refine jCt_of ok_X7_isTape (fun _ _ => Nat.le_of_ble_eq_true rfl) (fun _ _ hq => by rw [hq.2]; first | exact Nat.le_refl _ | simp) ?_
              show J _ _ _ _ _ _ _ _ [(0, .ref 0), (1, .int 1)] _ _ _
              refine J_aload_n (i := 0) (a := 0) rfl rfl (dk_X7_isTape 0 _ rfl) ?_
              refine J_iload_n (i := 1) (a := 1) rfl rfl (dk_X7_isTape 1 _ rfl) ?_
              refine J_iconst (v := 0) (by decide) (dk_X7_isTape 2 _ rfl) ?_
              refine J_iconst (v := 5) (by decide) (dk_X7_isTape 3 _ rfl) ?_
              refine J_cV (rv := some (.int 1)) (h' := hM0) (d' := 10) (As := [.int 1, .int 0, .int 5]) ok_X7_in vi_X7_in cl_7_194 (n := 3) (by decide +kernel) rfl rfl rfl rfl (by decide) (by decide) (dk_X7_isTape 4 _ rfl) ?_ ?_
              · refine jCt_of ok_X7_in (fun _ _ => Nat.le_of_ble_eq_true rfl) (fun _ _ hq => by rw [hq.2]; first | exact Nat.le_refl _ | simp) ?_
                show J _ _ _ _ _ _ _ _ [(0, .ref 0), (1, .int 1), (2, .int 0), (3, .int 5)] _ _ _
                refine J_iload_n (i := 1) (a := 1) rfl rfl (dk_X7_in 0 _ rfl) ?_
                refine J_iload_n (i := 2) (a := 2) rfl rfl (dk_X7_in 1 _ rfl) ?_
                refine J_icF (tgt := 14) (by decide) (dk_X7_in 2 _ rfl) (jI_nlt (by decide : (1 : Int32).toInt = 1) (by decide : (0 : Int32).toInt = 0) (by omega)) ?_
                refine J_iload_n (i := 1) (a := 1) rfl rfl (dk_X7_in 5 _ rfl) ?_
                refine J_iload_n (i := 3) (a := 3) rfl rfl (dk_X7_in 6 _ rfl) ?_
                refine J_icF (tgt := 14) (by decide) (dk_X7_in 7 _ rfl) (jI_nlt (by decide : (5 : Int32).toInt = 5) (by decide : (1 : Int32).toInt = 1) (by omega)) ?_
                refine J_iconst (v := 1) (by decide) (dk_X7_in 10 _ rfl) ?_
                refine J_goto (tgt := 15) (by decide) (dk_X7_in 11 _ rfl) ?_
                exact J_iret rfl rfl (dk_X7_in 15 _ rfl) ⟨rfl, rfl⟩
              show J _ _ _ _ _ _ _ _ _ [.int 1] _ _
              exact J_iret rfl rfl (dk_X7_isTape 7 _ rfl) ⟨rfl, rfl⟩
            show J _ _ _ _ _ _ _ _ _ [.int 1] _ _
            refine J_ifT (tgt := 10) (by decide) (dk_X7_judge 5 _ rfl) (jI_ne (by decide : (1 : Int32).toInt = 1) (by decide : (0 : Int32).toInt = 0) (by omega)) ?_
            refine J_aload_n (i := 0) (a := 0) rfl rfl (dk_X7_judge 10 _ rfl) ?_
            refine J_getf fl_7_181 rfl rfl (dk_X7_judge 11 _ rfl) ?_
            refine J_iload_n (i := 1) (a := 1) rfl rfl (dk_X7_judge 14 _ rfl) ?_
            refine J_iald rfl (by decide) rfl (dk_X7_judge 15 _ rfl) ?_
            refine J_ifT (tgt := 32) (by decide) (dk_X7_judge 16 _ rfl) (jI_lt (by decide : ((-1) : Int32).toInt = (-1)) (by decide : (0 : Int32).toInt = 0) (by omega)) ?_
            refine J_iconst (v := 0) (by decide) (dk_X7_judge 32 _ rfl) ?_
            refine J_istore_n (i := 3) (a := 3) rfl (by decide) (dk_X7_judge 33 _ rfl) ?_
            show J _ _ _ _ _ _ _ _ [(3, .int 0), (0, .ref 0), (1, .int 1), (2, .int i)] _ _ _
            refine J_iload_n (i := 3) (a := 3) rfl rfl (dk_X7_judge 34 _ rfl) ?_
            refine J_aload_n (i := 0) (a := 0) rfl rfl (dk_X7_judge 35 _ rfl) ?_
            refine J_getf fl_7_7 rfl rfl (dk_X7_judge 36 _ rfl) ?_
            refine J_icT (tgt := 106) (by decide) (dk_X7_judge 39 _ rfl) (jI_le (by decide : (0 : Int32).toInt = 0) (by decide : (0 : Int32).toInt = 0) (by omega)) ?_
            refine J_bipush (v := (-5)) (by decide) (dk_X7_judge 106 _ rfl) ?_
            exact J_iret rfl rfl (dk_X7_judge 108 _ rfl) ⟨rfl, rfl⟩
        · by_cases c5 : (t : Int32).toInt = 2
          · obtain rfl : t = 2 := jI_eq rfl (by decide) c5
            refine ⟨(-5), ?_, ?_⟩
            · refine jCt_of ok_X6_judge (fun _ _ => Nat.le_of_ble_eq_true rfl) (fun _ _ hq => Nat.le_of_eq (lX.trans hq.2.symm)) ?_
              show J _ _ _ _ _ _ _ _ [(0, .ref 0), (1, .int 2), (2, .int i)] _ _ _
              refine J_iload_n (i := 1) (a := 1) rfl rfl (dk_X6_judge 0 _ rfl) ?_
              refine J_cS (rv := some (.int 1)) (h' := hN0) (d' := 11) (As := [.int 2]) ok_X6_isTape st_X6_isTape cl_6_220 rfl (n := 1) (by decide +kernel) rfl (by decide) (by decide) (dk_X6_judge 1 _ rfl) ?_ ?_
              · refine jCt_of ok_X6_isTape (fun _ _ => Nat.le_of_ble_eq_true rfl) (fun _ _ hq => by rw [hq.2]; first | exact Nat.le_refl _ | simp) ?_
                show J _ _ _ _ _ _ _ _ [(0, .int 2)] _ _ _
                refine J_iload_n (i := 0) (a := 0) rfl rfl (dk_X6_isTape 0 _ rfl) ?_
                refine J_ifF (tgt := 14) (by decide) (dk_X6_isTape 1 _ rfl) (jI_nlt (by decide : (2 : Int32).toInt = 2) (by decide : (0 : Int32).toInt = 0) (by omega)) ?_
                refine J_iload_n (i := 0) (a := 0) rfl rfl (dk_X6_isTape 4 _ rfl) ?_
                refine J_bipush (v := 6) (by decide) (dk_X6_isTape 5 _ rfl) ?_
                refine J_icF (tgt := 14) (by decide) (dk_X6_isTape 7 _ rfl) (jI_nle (by decide : (6 : Int32).toInt = 6) (by decide : (2 : Int32).toInt = 2) (by omega)) ?_
                refine J_iconst (v := 1) (by decide) (dk_X6_isTape 10 _ rfl) ?_
                refine J_goto (tgt := 15) (by decide) (dk_X6_isTape 11 _ rfl) ?_
                exact J_iret rfl rfl (dk_X6_isTape 15 _ rfl) ⟨rfl, rfl⟩
              show J _ _ _ _ _ _ _ _ _ [.int 1] _ _
              refine J_ifT (tgt := 9) (by decide) (dk_X6_judge 4 _ rfl) (jI_ne (by decide : (1 : Int32).toInt = 1) (by decide : (0 : Int32).toInt = 0) (by omega)) ?_
              refine J_aload_n (i := 0) (a := 0) rfl rfl (dk_X6_judge 9 _ rfl) ?_
              refine J_getf fl_6_37 rfl rfl (dk_X6_judge 10 _ rfl) ?_
              refine J_iload_n (i := 1) (a := 1) rfl rfl (dk_X6_judge 13 _ rfl) ?_
              refine J_aald (by decide) rfl (by decide) rfl (dk_X6_judge 14 _ rfl) ?_
              refine J_astore_n (i := 3) (a := 3) rfl (by decide) (dk_X6_judge 15 _ rfl) ?_
              show J _ _ _ _ _ _ _ _ [(3, .ref 86), (0, .ref 0), (1, .int 2), (2, .int i)] _ _ _
              refine J_aload_n (i := 3) (a := 3) rfl rfl (dk_X6_judge 16 _ rfl) ?_
              refine J_getf fl_6_223 rfl rfl (dk_X6_judge 17 _ rfl) ?_
              refine J_iconst (v := (-1)) (by decide) (dk_X6_judge 20 _ rfl) ?_
              refine J_icT (tgt := 35) (by decide) (dk_X6_judge 21 _ rfl) (jI_eq (by decide : ((-1) : Int32).toInt = (-1)) (by decide : ((-1) : Int32).toInt = (-1)) (by omega)) ?_
              refine J_iconst (v := 0) (by decide) (dk_X6_judge 35 _ rfl) ?_
              refine J_istore (i := 4) (by decide) (dk_X6_judge 36 _ rfl) ?_
              show J _ _ _ _ _ _ _ _ [(4, .int 0), (3, .ref 86), (0, .ref 0), (1, .int 2), (2, .int i)] _ _ _
              refine J_iload (i := 4) rfl (dk_X6_judge 38 _ rfl) ?_
              refine J_aload_n (i := 0) (a := 0) rfl rfl (dk_X6_judge 40 _ rfl) ?_
              refine J_getf fl_6_47 rfl rfl (dk_X6_judge 41 _ rfl) ?_
              refine J_getf fl_6_71 rfl rfl (dk_X6_judge 44 _ rfl) ?_
              refine J_icT (tgt := 104) (by decide) (dk_X6_judge 47 _ rfl) (jI_le (by decide : (0 : Int32).toInt = 0) (by decide : (0 : Int32).toInt = 0) (by omega)) ?_
              refine J_bipush (v := (-5)) (by decide) (dk_X6_judge 104 _ rfl) ?_
              exact J_iret rfl rfl (dk_X6_judge 106 _ rfl) ⟨rfl, rfl⟩
            · refine jCt_of ok_X7_judge (fun _ _ => Nat.le_of_ble_eq_true rfl) (fun _ _ hq => Nat.le_of_eq (lM.trans hq.2.symm)) ?_
              show J _ _ _ _ _ _ _ _ [(0, .ref 0), (1, .int 2), (2, .int i)] _ _ _
              refine J_aload_n (i := 0) (a := 0) rfl rfl (dk_X7_judge 0 _ rfl) ?_
              refine J_iload_n (i := 1) (a := 1) rfl rfl (dk_X7_judge 1 _ rfl) ?_
              refine J_cV (rv := some (.int 1)) (h' := hM0) (d' := 11) (As := [.int 2]) ok_X7_isTape vi_X7_isTape cl_7_354 (n := 1) (by decide +kernel) rfl rfl rfl rfl (by decide) (by decide) (dk_X7_judge 2 _ rfl) ?_ ?_
              · refine jCt_of ok_X7_isTape (fun _ _ => Nat.le_of_ble_eq_true rfl) (fun _ _ hq => by rw [hq.2]; first | exact Nat.le_refl _ | simp) ?_
                show J _ _ _ _ _ _ _ _ [(0, .ref 0), (1, .int 2)] _ _ _
                refine J_aload_n (i := 0) (a := 0) rfl rfl (dk_X7_isTape 0 _ rfl) ?_
                refine J_iload_n (i := 1) (a := 1) rfl rfl (dk_X7_isTape 1 _ rfl) ?_
                refine J_iconst (v := 0) (by decide) (dk_X7_isTape 2 _ rfl) ?_
                refine J_iconst (v := 5) (by decide) (dk_X7_isTape 3 _ rfl) ?_
                refine J_cV (rv := some (.int 1)) (h' := hM0) (d' := 10) (As := [.int 2, .int 0, .int 5]) ok_X7_in vi_X7_in cl_7_194 (n := 3) (by decide +kernel) rfl rfl rfl rfl (by decide) (by decide) (dk_X7_isTape 4 _ rfl) ?_ ?_
                · refine jCt_of ok_X7_in (fun _ _ => Nat.le_of_ble_eq_true rfl) (fun _ _ hq => by rw [hq.2]; first | exact Nat.le_refl _ | simp) ?_
                  show J _ _ _ _ _ _ _ _ [(0, .ref 0), (1, .int 2), (2, .int 0), (3, .int 5)] _ _ _
                  refine J_iload_n (i := 1) (a := 1) rfl rfl (dk_X7_in 0 _ rfl) ?_
                  refine J_iload_n (i := 2) (a := 2) rfl rfl (dk_X7_in 1 _ rfl) ?_
                  refine J_icF (tgt := 14) (by decide) (dk_X7_in 2 _ rfl) (jI_nlt (by decide : (2 : Int32).toInt = 2) (by decide : (0 : Int32).toInt = 0) (by omega)) ?_
                  refine J_iload_n (i := 1) (a := 1) rfl rfl (dk_X7_in 5 _ rfl) ?_
                  refine J_iload_n (i := 3) (a := 3) rfl rfl (dk_X7_in 6 _ rfl) ?_
                  refine J_icF (tgt := 14) (by decide) (dk_X7_in 7 _ rfl) (jI_nlt (by decide : (5 : Int32).toInt = 5) (by decide : (2 : Int32).toInt = 2) (by omega)) ?_
                  refine J_iconst (v := 1) (by decide) (dk_X7_in 10 _ rfl) ?_
                  refine J_goto (tgt := 15) (by decide) (dk_X7_in 11 _ rfl) ?_
                  exact J_iret rfl rfl (dk_X7_in 15 _ rfl) ⟨rfl, rfl⟩
                show J _ _ _ _ _ _ _ _ _ [.int 1] _ _
                exact J_iret rfl rfl (dk_X7_isTape 7 _ rfl) ⟨rfl, rfl⟩
              show J _ _ _ _ _ _ _ _ _ [.int 1] _ _
              refine J_ifT (tgt := 10) (by decide) (dk_X7_judge 5 _ rfl) (jI_ne (by decide : (1 : Int32).toInt = 1) (by decide : (0 : Int32).toInt = 0) (by omega)) ?_
              refine J_aload_n (i := 0) (a := 0) rfl rfl (dk_X7_judge 10 _ rfl) ?_
              refine J_getf fl_7_181 rfl rfl (dk_X7_judge 11 _ rfl) ?_
              refine J_iload_n (i := 1) (a := 1) rfl rfl (dk_X7_judge 14 _ rfl) ?_
              refine J_iald rfl (by decide) rfl (dk_X7_judge 15 _ rfl) ?_
              refine J_ifT (tgt := 32) (by decide) (dk_X7_judge 16 _ rfl) (jI_lt (by decide : ((-1) : Int32).toInt = (-1)) (by decide : (0 : Int32).toInt = 0) (by omega)) ?_
              refine J_iconst (v := 0) (by decide) (dk_X7_judge 32 _ rfl) ?_
              refine J_istore_n (i := 3) (a := 3) rfl (by decide) (dk_X7_judge 33 _ rfl) ?_
              show J _ _ _ _ _ _ _ _ [(3, .int 0), (0, .ref 0), (1, .int 2), (2, .int i)] _ _ _
              refine J_iload_n (i := 3) (a := 3) rfl rfl (dk_X7_judge 34 _ rfl) ?_
              refine J_aload_n (i := 0) (a := 0) rfl rfl (dk_X7_judge 35 _ rfl) ?_
              refine J_getf fl_7_7 rfl rfl (dk_X7_judge 36 _ rfl) ?_
              refine J_icT (tgt := 106) (by decide) (dk_X7_judge 39 _ rfl) (jI_le (by decide : (0 : Int32).toInt = 0) (by decide : (0 : Int32).toInt = 0) (by omega)) ?_
              refine J_bipush (v := (-5)) (by decide) (dk_X7_judge 106 _ rfl) ?_
              exact J_iret rfl rfl (dk_X7_judge 108 _ rfl) ⟨rfl, rfl⟩
          · by_cases c6 : (t : Int32).toInt = 3
            · obtain rfl : t = 3 := jI_eq rfl (by decide) c6
              refine ⟨(-5), ?_, ?_⟩
              · refine jCt_of ok_X6_judge (fun _ _ => Nat.le_of_ble_eq_true rfl) (fun _ _ hq => Nat.le_of_eq (lX.trans hq.2.symm)) ?_
                show J _ _ _ _ _ _ _ _ [(0, .ref 0), (1, .int 3), (2, .int i)] _ _ _
                refine J_iload_n (i := 1) (a := 1) rfl rfl (dk_X6_judge 0 _ rfl) ?_
                refine J_cS (rv := some (.int 1)) (h' := hN0) (d' := 11) (As := [.int 3]) ok_X6_isTape st_X6_isTape cl_6_220 rfl (n := 1) (by decide +kernel) rfl (by decide) (by decide) (dk_X6_judge 1 _ rfl) ?_ ?_
                · refine jCt_of ok_X6_isTape (fun _ _ => Nat.le_of_ble_eq_true rfl) (fun _ _ hq => by rw [hq.2]; first | exact Nat.le_refl _ | simp) ?_
                  show J _ _ _ _ _ _ _ _ [(0, .int 3)] _ _ _
                  refine J_iload_n (i := 0) (a := 0) rfl rfl (dk_X6_isTape 0 _ rfl) ?_
                  refine J_ifF (tgt := 14) (by decide) (dk_X6_isTape 1 _ rfl) (jI_nlt (by decide : (3 : Int32).toInt = 3) (by decide : (0 : Int32).toInt = 0) (by omega)) ?_
                  refine J_iload_n (i := 0) (a := 0) rfl rfl (dk_X6_isTape 4 _ rfl) ?_
                  refine J_bipush (v := 6) (by decide) (dk_X6_isTape 5 _ rfl) ?_
                  refine J_icF (tgt := 14) (by decide) (dk_X6_isTape 7 _ rfl) (jI_nle (by decide : (6 : Int32).toInt = 6) (by decide : (3 : Int32).toInt = 3) (by omega)) ?_
                  refine J_iconst (v := 1) (by decide) (dk_X6_isTape 10 _ rfl) ?_
                  refine J_goto (tgt := 15) (by decide) (dk_X6_isTape 11 _ rfl) ?_
                  exact J_iret rfl rfl (dk_X6_isTape 15 _ rfl) ⟨rfl, rfl⟩
                show J _ _ _ _ _ _ _ _ _ [.int 1] _ _
                refine J_ifT (tgt := 9) (by decide) (dk_X6_judge 4 _ rfl) (jI_ne (by decide : (1 : Int32).toInt = 1) (by decide : (0 : Int32).toInt = 0) (by omega)) ?_
                refine J_aload_n (i := 0) (a := 0) rfl rfl (dk_X6_judge 9 _ rfl) ?_
                refine J_getf fl_6_37 rfl rfl (dk_X6_judge 10 _ rfl) ?_
                refine J_iload_n (i := 1) (a := 1) rfl rfl (dk_X6_judge 13 _ rfl) ?_
                refine J_aald (by decide) rfl (by decide) rfl (dk_X6_judge 14 _ rfl) ?_
                refine J_astore_n (i := 3) (a := 3) rfl (by decide) (dk_X6_judge 15 _ rfl) ?_
                show J _ _ _ _ _ _ _ _ [(3, .ref 88), (0, .ref 0), (1, .int 3), (2, .int i)] _ _ _
                refine J_aload_n (i := 3) (a := 3) rfl rfl (dk_X6_judge 16 _ rfl) ?_
                refine J_getf fl_6_223 rfl rfl (dk_X6_judge 17 _ rfl) ?_
                refine J_iconst (v := (-1)) (by decide) (dk_X6_judge 20 _ rfl) ?_
                refine J_icT (tgt := 35) (by decide) (dk_X6_judge 21 _ rfl) (jI_eq (by decide : ((-1) : Int32).toInt = (-1)) (by decide : ((-1) : Int32).toInt = (-1)) (by omega)) ?_
                refine J_iconst (v := 0) (by decide) (dk_X6_judge 35 _ rfl) ?_
                refine J_istore (i := 4) (by decide) (dk_X6_judge 36 _ rfl) ?_
                show J _ _ _ _ _ _ _ _ [(4, .int 0), (3, .ref 88), (0, .ref 0), (1, .int 3), (2, .int i)] _ _ _
                refine J_iload (i := 4) rfl (dk_X6_judge 38 _ rfl) ?_
                refine J_aload_n (i := 0) (a := 0) rfl rfl (dk_X6_judge 40 _ rfl) ?_
                refine J_getf fl_6_47 rfl rfl (dk_X6_judge 41 _ rfl) ?_
                refine J_getf fl_6_71 rfl rfl (dk_X6_judge 44 _ rfl) ?_
                refine J_icT (tgt := 104) (by decide) (dk_X6_judge 47 _ rfl) (jI_le (by decide : (0 : Int32).toInt = 0) (by decide : (0 : Int32).toInt = 0) (by omega)) ?_
                refine J_bipush (v := (-5)) (by decide) (dk_X6_judge 104 _ rfl) ?_
                exact J_iret rfl rfl (dk_X6_judge 106 _ rfl) ⟨rfl, rfl⟩
              · refine jCt_of ok_X7_judge (fun _ _ => Nat.le_of_ble_eq_true rfl) (fun _ _ hq => Nat.le_of_eq (lM.trans hq.2.symm)) ?_
                show J _ _ _ _ _ _ _ _ [(0, .ref 0), (1, .int 3), (2, .int i)] _ _ _
                refine J_aload_n (i := 0) (a := 0) rfl rfl (dk_X7_judge 0 _ rfl) ?_
                refine J_iload_n (i := 1) (a := 1) rfl rfl (dk_X7_judge 1 _ rfl) ?_
                refine J_cV (rv := some (.int 1)) (h' := hM0) (d' := 11) (As := [.int 3]) ok_X7_isTape vi_X7_isTape cl_7_354 (n := 1) (by decide +kernel) rfl rfl rfl rfl (by decide) (by decide) (dk_X7_judge 2 _ rfl) ?_ ?_
                · refine jCt_of ok_X7_isTape (fun _ _ => Nat.le_of_ble_eq_true rfl) (fun _ _ hq => by rw [hq.2]; first | exact Nat.le_refl _ | simp) ?_
                  show J _ _ _ _ _ _ _ _ [(0, .ref 0), (1, .int 3)] _ _ _
                  refine J_aload_n (i := 0) (a := 0) rfl rfl (dk_X7_isTape 0 _ rfl) ?_
                  refine J_iload_n (i := 1) (a := 1) rfl rfl (dk_X7_isTape 1 _ rfl) ?_
                  refine J_iconst (v := 0) (by decide) (dk_X7_isTape 2 _ rfl) ?_
                  refine J_iconst (v := 5) (by decide) (dk_X7_isTape 3 _ rfl) ?_
                  refine J_cV (rv := some (.int 1)) (h' := hM0) (d' := 10) (As := [.int 3, .int 0, .int 5]) ok_X7_in vi_X7_in cl_7_194 (n := 3) (by decide +kernel) rfl rfl rfl rfl (by decide) (by decide) (dk_X7_isTape 4 _ rfl) ?_ ?_
                  · refine jCt_of ok_X7_in (fun _ _ => Nat.le_of_ble_eq_true rfl) (fun _ _ hq => by rw [hq.2]; first | exact Nat.le_refl _ | simp) ?_
                    show J _ _ _ _ _ _ _ _ [(0, .ref 0), (1, .int 3), (2, .int 0), (3, .int 5)] _ _ _
                    refine J_iload_n (i := 1) (a := 1) rfl rfl (dk_X7_in 0 _ rfl) ?_
                    refine J_iload_n (i := 2) (a := 2) rfl rfl (dk_X7_in 1 _ rfl) ?_
                    refine J_icF (tgt := 14) (by decide) (dk_X7_in 2 _ rfl) (jI_nlt (by decide : (3 : Int32).toInt = 3) (by decide : (0 : Int32).toInt = 0) (by omega)) ?_
                    refine J_iload_n (i := 1) (a := 1) rfl rfl (dk_X7_in 5 _ rfl) ?_
                    refine J_iload_n (i := 3) (a := 3) rfl rfl (dk_X7_in 6 _ rfl) ?_
                    refine J_icF (tgt := 14) (by decide) (dk_X7_in 7 _ rfl) (jI_nlt (by decide : (5 : Int32).toInt = 5) (by decide : (3 : Int32).toInt = 3) (by omega)) ?_
                    refine J_iconst (v := 1) (by decide) (dk_X7_in 10 _ rfl) ?_
                    refine J_goto (tgt := 15) (by decide) (dk_X7_in 11 _ rfl) ?_
                    exact J_iret rfl rfl (dk_X7_in 15 _ rfl) ⟨rfl, rfl⟩
                  show J _ _ _ _ _ _ _ _ _ [.int 1] _ _
                  exact J_iret rfl rfl (dk_X7_isTape 7 _ rfl) ⟨rfl, rfl⟩
                show J _ _ _ _ _ _ _ _ _ [.int 1] _ _
                refine J_ifT (tgt := 10) (by decide) (dk_X7_judge 5 _ rfl) (jI_ne (by decide : (1 : Int32).toInt = 1) (by decide : (0 : Int32).toInt = 0) (by omega)) ?_
                refine J_aload_n (i := 0) (a := 0) rfl rfl (dk_X7_judge 10 _ rfl) ?_
                refine J_getf fl_7_181 rfl rfl (dk_X7_judge 11 _ rfl) ?_
                refine J_iload_n (i := 1) (a := 1) rfl rfl (dk_X7_judge 14 _ rfl) ?_
                refine J_iald rfl (by decide) rfl (dk_X7_judge 15 _ rfl) ?_
                refine J_ifT (tgt := 32) (by decide) (dk_X7_judge 16 _ rfl) (jI_lt (by decide : ((-1) : Int32).toInt = (-1)) (by decide : (0 : Int32).toInt = 0) (by omega)) ?_
                refine J_iconst (v := 0) (by decide) (dk_X7_judge 32 _ rfl) ?_
                refine J_istore_n (i := 3) (a := 3) rfl (by decide) (dk_X7_judge 33 _ rfl) ?_
                show J _ _ _ _ _ _ _ _ [(3, .int 0), (0, .ref 0), (1, .int 3), (2, .int i)] _ _ _
                refine J_iload_n (i := 3) (a := 3) rfl rfl (dk_X7_judge 34 _ rfl) ?_
                refine J_aload_n (i := 0) (a := 0) rfl rfl (dk_X7_judge 35 _ rfl) ?_
                refine J_getf fl_7_7 rfl rfl (dk_X7_judge 36 _ rfl) ?_
                refine J_icT (tgt := 106) (by decide) (dk_X7_judge 39 _ rfl) (jI_le (by decide : (0 : Int32).toInt = 0) (by decide : (0 : Int32).toInt = 0) (by omega)) ?_
                refine J_bipush (v := (-5)) (by decide) (dk_X7_judge 106 _ rfl) ?_
                exact J_iret rfl rfl (dk_X7_judge 108 _ rfl) ⟨rfl, rfl⟩
            · by_cases c7 : (t : Int32).toInt = 4
              · obtain rfl : t = 4 := jI_eq rfl (by decide) c7
                refine ⟨(-5), ?_, ?_⟩
                · refine jCt_of ok_X6_judge (fun _ _ => Nat.le_of_ble_eq_true rfl) (fun _ _ hq => Nat.le_of_eq (lX.trans hq.2.symm)) ?_
                  show J _ _ _ _ _ _ _ _ [(0, .ref 0), (1, .int 4), (2, .int i)] _ _ _
                  refine J_iload_n (i := 1) (a := 1) rfl rfl (dk_X6_judge 0 _ rfl) ?_
                  refine J_cS (rv := some (.int 1)) (h' := hN0) (d' := 11) (As := [.int 4]) ok_X6_isTape st_X6_isTape cl_6_220 rfl (n := 1) (by decide +kernel) rfl (by decide) (by decide) (dk_X6_judge 1 _ rfl) ?_ ?_
                  · refine jCt_of ok_X6_isTape (fun _ _ => Nat.le_of_ble_eq_true rfl) (fun _ _ hq => by rw [hq.2]; first | exact Nat.le_refl _ | simp) ?_
                    show J _ _ _ _ _ _ _ _ [(0, .int 4)] _ _ _
                    refine J_iload_n (i := 0) (a := 0) rfl rfl (dk_X6_isTape 0 _ rfl) ?_
                    refine J_ifF (tgt := 14) (by decide) (dk_X6_isTape 1 _ rfl) (jI_nlt (by decide : (4 : Int32).toInt = 4) (by decide : (0 : Int32).toInt = 0) (by omega)) ?_
                    refine J_iload_n (i := 0) (a := 0) rfl rfl (dk_X6_isTape 4 _ rfl) ?_
                    refine J_bipush (v := 6) (by decide) (dk_X6_isTape 5 _ rfl) ?_
                    refine J_icF (tgt := 14) (by decide) (dk_X6_isTape 7 _ rfl) (jI_nle (by decide : (6 : Int32).toInt = 6) (by decide : (4 : Int32).toInt = 4) (by omega)) ?_
                    refine J_iconst (v := 1) (by decide) (dk_X6_isTape 10 _ rfl) ?_
                    refine J_goto (tgt := 15) (by decide) (dk_X6_isTape 11 _ rfl) ?_
                    exact J_iret rfl rfl (dk_X6_isTape 15 _ rfl) ⟨rfl, rfl⟩
                  show J _ _ _ _ _ _ _ _ _ [.int 1] _ _
                  refine J_ifT (tgt := 9) (by decide) (dk_X6_judge 4 _ rfl) (jI_ne (by decide : (1 : Int32).toInt = 1) (by decide : (0 : Int32).toInt = 0) (by omega)) ?_
                  refine J_aload_n (i := 0) (a := 0) rfl rfl (dk_X6_judge 9 _ rfl) ?_
                  refine J_getf fl_6_37 rfl rfl (dk_X6_judge 10 _ rfl) ?_
                  refine J_iload_n (i := 1) (a := 1) rfl rfl (dk_X6_judge 13 _ rfl) ?_
                  refine J_aald (by decide) rfl (by decide) rfl (dk_X6_judge 14 _ rfl) ?_
                  refine J_astore_n (i := 3) (a := 3) rfl (by decide) (dk_X6_judge 15 _ rfl) ?_
                  show J _ _ _ _ _ _ _ _ [(3, .ref 90), (0, .ref 0), (1, .int 4), (2, .int i)] _ _ _
                  refine J_aload_n (i := 3) (a := 3) rfl rfl (dk_X6_judge 16 _ rfl) ?_
                  refine J_getf fl_6_223 rfl rfl (dk_X6_judge 17 _ rfl) ?_
                  refine J_iconst (v := (-1)) (by decide) (dk_X6_judge 20 _ rfl) ?_
                  refine J_icT (tgt := 35) (by decide) (dk_X6_judge 21 _ rfl) (jI_eq (by decide : ((-1) : Int32).toInt = (-1)) (by decide : ((-1) : Int32).toInt = (-1)) (by omega)) ?_
                  refine J_iconst (v := 0) (by decide) (dk_X6_judge 35 _ rfl) ?_
                  refine J_istore (i := 4) (by decide) (dk_X6_judge 36 _ rfl) ?_
                  show J _ _ _ _ _ _ _ _ [(4, .int 0), (3, .ref 90), (0, .ref 0), (1, .int 4), (2, .int i)] _ _ _
                  refine J_iload (i := 4) rfl (dk_X6_judge 38 _ rfl) ?_
                  refine J_aload_n (i := 0) (a := 0) rfl rfl (dk_X6_judge 40 _ rfl) ?_
                  refine J_getf fl_6_47 rfl rfl (dk_X6_judge 41 _ rfl) ?_
                  refine J_getf fl_6_71 rfl rfl (dk_X6_judge 44 _ rfl) ?_
                  refine J_icT (tgt := 104) (by decide) (dk_X6_judge 47 _ rfl) (jI_le (by decide : (0 : Int32).toInt = 0) (by decide : (0 : Int32).toInt = 0) (by omega)) ?_
                  refine J_bipush (v := (-5)) (by decide) (dk_X6_judge 104 _ rfl) ?_
                  exact J_iret rfl rfl (dk_X6_judge 106 _ rfl) ⟨rfl, rfl⟩
                · refine jCt_of ok_X7_judge (fun _ _ => Nat.le_of_ble_eq_true rfl) (fun _ _ hq => Nat.le_of_eq (lM.trans hq.2.symm)) ?_
                  show J _ _ _ _ _ _ _ _ [(0, .ref 0), (1, .int 4), (2, .int i)] _ _ _
                  refine J_aload_n (i := 0) (a := 0) rfl rfl (dk_X7_judge 0 _ rfl) ?_
                  refine J_iload_n (i := 1) (a := 1) rfl rfl (dk_X7_judge 1 _ rfl) ?_
                  refine J_cV (rv := some (.int 1)) (h' := hM0) (d' := 11) (As := [.int 4]) ok_X7_isTape vi_X7_isTape cl_7_354 (n := 1) (by decide +kernel) rfl rfl rfl rfl (by decide) (by decide) (dk_X7_judge 2 _ rfl) ?_ ?_
                  · refine jCt_of ok_X7_isTape (fun _ _ => Nat.le_of_ble_eq_true rfl) (fun _ _ hq => by rw [hq.2]; first | exact Nat.le_refl _ | simp) ?_
                    show J _ _ _ _ _ _ _ _ [(0, .ref 0), (1, .int 4)] _ _ _
                    refine J_aload_n (i := 0) (a := 0) rfl rfl (dk_X7_isTape 0 _ rfl) ?_
                    refine J_iload_n (i := 1) (a := 1) rfl rfl (dk_X7_isTape 1 _ rfl) ?_
                    refine J_iconst (v := 0) (by decide) (dk_X7_isTape 2 _ rfl) ?_
                    refine J_iconst (v := 5) (by decide) (dk_X7_isTape 3 _ rfl) ?_
                    refine J_cV (rv := some (.int 1)) (h' := hM0) (d' := 10) (As := [.int 4, .int 0, .int 5]) ok_X7_in vi_X7_in cl_7_194 (n := 3) (by decide +kernel) rfl rfl rfl rfl (by decide) (by decide) (dk_X7_isTape 4 _ rfl) ?_ ?_
                    · refine jCt_of ok_X7_in (fun _ _ => Nat.le_of_ble_eq_true rfl) (fun _ _ hq => by rw [hq.2]; first | exact Nat.le_refl _ | simp) ?_
                      show J _ _ _ _ _ _ _ _ [(0, .ref 0), (1, .int 4), (2, .int 0), (3, .int 5)] _ _ _
                      refine J_iload_n (i := 1) (a := 1) rfl rfl (dk_X7_in 0 _ rfl) ?_
                      refine J_iload_n (i := 2) (a := 2) rfl rfl (dk_X7_in 1 _ rfl) ?_
                      refine J_icF (tgt := 14) (by decide) (dk_X7_in 2 _ rfl) (jI_nlt (by decide : (4 : Int32).toInt = 4) (by decide : (0 : Int32).toInt = 0) (by omega)) ?_
                      refine J_iload_n (i := 1) (a := 1) rfl rfl (dk_X7_in 5 _ rfl) ?_
                      refine J_iload_n (i := 3) (a := 3) rfl rfl (dk_X7_in 6 _ rfl) ?_
                      refine J_icF (tgt := 14) (by decide) (dk_X7_in 7 _ rfl) (jI_nlt (by decide : (5 : Int32).toInt = 5) (by decide : (4 : Int32).toInt = 4) (by omega)) ?_
                      refine J_iconst (v := 1) (by decide) (dk_X7_in 10 _ rfl) ?_
                      refine J_goto (tgt := 15) (by decide) (dk_X7_in 11 _ rfl) ?_
                      exact J_iret rfl rfl (dk_X7_in 15 _ rfl) ⟨rfl, rfl⟩
                    show J _ _ _ _ _ _ _ _ _ [.int 1] _ _
                    exact J_iret rfl rfl (dk_X7_isTape 7 _ rfl) ⟨rfl, rfl⟩
                  show J _ _ _ _ _ _ _ _ _ [.int 1] _ _
                  refine J_ifT (tgt := 10) (by decide) (dk_X7_judge 5 _ rfl) (jI_ne (by decide : (1 : Int32).toInt = 1) (by decide : (0 : Int32).toInt = 0) (by omega)) ?_
                  refine J_aload_n (i := 0) (a := 0) rfl rfl (dk_X7_judge 10 _ rfl) ?_
                  refine J_getf fl_7_181 rfl rfl (dk_X7_judge 11 _ rfl) ?_
                  refine J_iload_n (i := 1) (a := 1) rfl rfl (dk_X7_judge 14 _ rfl) ?_
                  refine J_iald rfl (by decide) rfl (dk_X7_judge 15 _ rfl) ?_
                  refine J_ifT (tgt := 32) (by decide) (dk_X7_judge 16 _ rfl) (jI_lt (by decide : ((-1) : Int32).toInt = (-1)) (by decide : (0 : Int32).toInt = 0) (by omega)) ?_
                  refine J_iconst (v := 0) (by decide) (dk_X7_judge 32 _ rfl) ?_
                  refine J_istore_n (i := 3) (a := 3) rfl (by decide) (dk_X7_judge 33 _ rfl) ?_
                  show J _ _ _ _ _ _ _ _ [(3, .int 0), (0, .ref 0), (1, .int 4), (2, .int i)] _ _ _
                  refine J_iload_n (i := 3) (a := 3) rfl rfl (dk_X7_judge 34 _ rfl) ?_
                  refine J_aload_n (i := 0) (a := 0) rfl rfl (dk_X7_judge 35 _ rfl) ?_
                  refine J_getf fl_7_7 rfl rfl (dk_X7_judge 36 _ rfl) ?_
                  refine J_icT (tgt := 106) (by decide) (dk_X7_judge 39 _ rfl) (jI_le (by decide : (0 : Int32).toInt = 0) (by decide : (0 : Int32).toInt = 0) (by omega)) ?_
                  refine J_bipush (v := (-5)) (by decide) (dk_X7_judge 106 _ rfl) ?_
                  exact J_iret rfl rfl (dk_X7_judge 108 _ rfl) ⟨rfl, rfl⟩
              · obtain rfl : t = 5 := jI_eq rfl (by decide) (by omega : (t : Int32).toInt = 5)
                refine ⟨(-5), ?_, ?_⟩
                · refine jCt_of ok_X6_judge (fun _ _ => Nat.le_of_ble_eq_true rfl) (fun _ _ hq => Nat.le_of_eq (lX.trans hq.2.symm)) ?_
                  show J _ _ _ _ _ _ _ _ [(0, .ref 0), (1, .int 5), (2, .int i)] _ _ _
                  refine J_iload_n (i := 1) (a := 1) rfl rfl (dk_X6_judge 0 _ rfl) ?_
                  refine J_cS (rv := some (.int 1)) (h' := hN0) (d' := 11) (As := [.int 5]) ok_X6_isTape st_X6_isTape cl_6_220 rfl (n := 1) (by decide +kernel) rfl (by decide) (by decide) (dk_X6_judge 1 _ rfl) ?_ ?_
                  · refine jCt_of ok_X6_isTape (fun _ _ => Nat.le_of_ble_eq_true rfl) (fun _ _ hq => by rw [hq.2]; first | exact Nat.le_refl _ | simp) ?_
                    show J _ _ _ _ _ _ _ _ [(0, .int 5)] _ _ _
                    refine J_iload_n (i := 0) (a := 0) rfl rfl (dk_X6_isTape 0 _ rfl) ?_
                    refine J_ifF (tgt := 14) (by decide) (dk_X6_isTape 1 _ rfl) (jI_nlt (by decide : (5 : Int32).toInt = 5) (by decide : (0 : Int32).toInt = 0) (by omega)) ?_
                    refine J_iload_n (i := 0) (a := 0) rfl rfl (dk_X6_isTape 4 _ rfl) ?_
                    refine J_bipush (v := 6) (by decide) (dk_X6_isTape 5 _ rfl) ?_
                    refine J_icF (tgt := 14) (by decide) (dk_X6_isTape 7 _ rfl) (jI_nle (by decide : (6 : Int32).toInt = 6) (by decide : (5 : Int32).toInt = 5) (by omega)) ?_
                    refine J_iconst (v := 1) (by decide) (dk_X6_isTape 10 _ rfl) ?_
                    refine J_goto (tgt := 15) (by decide) (dk_X6_isTape 11 _ rfl) ?_
                    exact J_iret rfl rfl (dk_X6_isTape 15 _ rfl) ⟨rfl, rfl⟩
                  show J _ _ _ _ _ _ _ _ _ [.int 1] _ _
                  refine J_ifT (tgt := 9) (by decide) (dk_X6_judge 4 _ rfl) (jI_ne (by decide : (1 : Int32).toInt = 1) (by decide : (0 : Int32).toInt = 0) (by omega)) ?_
                  refine J_aload_n (i := 0) (a := 0) rfl rfl (dk_X6_judge 9 _ rfl) ?_
                  refine J_getf fl_6_37 rfl rfl (dk_X6_judge 10 _ rfl) ?_
                  refine J_iload_n (i := 1) (a := 1) rfl rfl (dk_X6_judge 13 _ rfl) ?_
                  refine J_aald (by decide) rfl (by decide) rfl (dk_X6_judge 14 _ rfl) ?_
                  refine J_astore_n (i := 3) (a := 3) rfl (by decide) (dk_X6_judge 15 _ rfl) ?_
                  show J _ _ _ _ _ _ _ _ [(3, .ref 92), (0, .ref 0), (1, .int 5), (2, .int i)] _ _ _
                  refine J_aload_n (i := 3) (a := 3) rfl rfl (dk_X6_judge 16 _ rfl) ?_
                  refine J_getf fl_6_223 rfl rfl (dk_X6_judge 17 _ rfl) ?_
                  refine J_iconst (v := (-1)) (by decide) (dk_X6_judge 20 _ rfl) ?_
                  refine J_icT (tgt := 35) (by decide) (dk_X6_judge 21 _ rfl) (jI_eq (by decide : ((-1) : Int32).toInt = (-1)) (by decide : ((-1) : Int32).toInt = (-1)) (by omega)) ?_
                  refine J_iconst (v := 0) (by decide) (dk_X6_judge 35 _ rfl) ?_
                  refine J_istore (i := 4) (by decide) (dk_X6_judge 36 _ rfl) ?_
                  show J _ _ _ _ _ _ _ _ [(4, .int 0), (3, .ref 92), (0, .ref 0), (1, .int 5), (2, .int i)] _ _ _
                  refine J_iload (i := 4) rfl (dk_X6_judge 38 _ rfl) ?_
                  refine J_aload_n (i := 0) (a := 0) rfl rfl (dk_X6_judge 40 _ rfl) ?_
                  refine J_getf fl_6_47 rfl rfl (dk_X6_judge 41 _ rfl) ?_
                  refine J_getf fl_6_71 rfl rfl (dk_X6_judge 44 _ rfl) ?_
                  refine J_icT (tgt := 104) (by decide) (dk_X6_judge 47 _ rfl) (jI_le (by decide : (0 : Int32).toInt = 0) (by decide : (0 : Int32).toInt = 0) (by omega)) ?_
                  refine J_bipush (v := (-5)) (by decide) (dk_X6_judge 104 _ rfl) ?_
                  exact J_iret rfl rfl (dk_X6_judge 106 _ rfl) ⟨rfl, rfl⟩
                · refine jCt_of ok_X7_judge (fun _ _ => Nat.le_of_ble_eq_true rfl) (fun _ _ hq => Nat.le_of_eq (lM.trans hq.2.symm)) ?_
                  show J _ _ _ _ _ _ _ _ [(0, .ref 0), (1, .int 5), (2, .int i)] _ _ _
                  refine J_aload_n (i := 0) (a := 0) rfl rfl (dk_X7_judge 0 _ rfl) ?_
                  refine J_iload_n (i := 1) (a := 1) rfl rfl (dk_X7_judge 1 _ rfl) ?_
                  refine J_cV (rv := some (.int 1)) (h' := hM0) (d' := 11) (As := [.int 5]) ok_X7_isTape vi_X7_isTape cl_7_354 (n := 1) (by decide +kernel) rfl rfl rfl rfl (by decide) (by decide) (dk_X7_judge 2 _ rfl) ?_ ?_
                  · refine jCt_of ok_X7_isTape (fun _ _ => Nat.le_of_ble_eq_true rfl) (fun _ _ hq => by rw [hq.2]; first | exact Nat.le_refl _ | simp) ?_
                    show J _ _ _ _ _ _ _ _ [(0, .ref 0), (1, .int 5)] _ _ _
                    refine J_aload_n (i := 0) (a := 0) rfl rfl (dk_X7_isTape 0 _ rfl) ?_
                    refine J_iload_n (i := 1) (a := 1) rfl rfl (dk_X7_isTape 1 _ rfl) ?_
                    refine J_iconst (v := 0) (by decide) (dk_X7_isTape 2 _ rfl) ?_
                    refine J_iconst (v := 5) (by decide) (dk_X7_isTape 3 _ rfl) ?_
                    refine J_cV (rv := some (.int 1)) (h' := hM0) (d' := 10) (As := [.int 5, .int 0, .int 5]) ok_X7_in vi_X7_in cl_7_194 (n := 3) (by decide +kernel) rfl rfl rfl rfl (by decide) (by decide) (dk_X7_isTape 4 _ rfl) ?_ ?_
                    · refine jCt_of ok_X7_in (fun _ _ => Nat.le_of_ble_eq_true rfl) (fun _ _ hq => by rw [hq.2]; first | exact Nat.le_refl _ | simp) ?_
                      show J _ _ _ _ _ _ _ _ [(0, .ref 0), (1, .int 5), (2, .int 0), (3, .int 5)] _ _ _
                      refine J_iload_n (i := 1) (a := 1) rfl rfl (dk_X7_in 0 _ rfl) ?_
                      refine J_iload_n (i := 2) (a := 2) rfl rfl (dk_X7_in 1 _ rfl) ?_
                      refine J_icF (tgt := 14) (by decide) (dk_X7_in 2 _ rfl) (jI_nlt (by decide : (5 : Int32).toInt = 5) (by decide : (0 : Int32).toInt = 0) (by omega)) ?_
                      refine J_iload_n (i := 1) (a := 1) rfl rfl (dk_X7_in 5 _ rfl) ?_
                      refine J_iload_n (i := 3) (a := 3) rfl rfl (dk_X7_in 6 _ rfl) ?_
                      refine J_icF (tgt := 14) (by decide) (dk_X7_in 7 _ rfl) (jI_nlt (by decide : (5 : Int32).toInt = 5) (by decide : (5 : Int32).toInt = 5) (by omega)) ?_
                      refine J_iconst (v := 1) (by decide) (dk_X7_in 10 _ rfl) ?_
                      refine J_goto (tgt := 15) (by decide) (dk_X7_in 11 _ rfl) ?_
                      exact J_iret rfl rfl (dk_X7_in 15 _ rfl) ⟨rfl, rfl⟩
                    show J _ _ _ _ _ _ _ _ _ [.int 1] _ _
                    exact J_iret rfl rfl (dk_X7_isTape 7 _ rfl) ⟨rfl, rfl⟩
                  show J _ _ _ _ _ _ _ _ _ [.int 1] _ _
                  refine J_ifT (tgt := 10) (by decide) (dk_X7_judge 5 _ rfl) (jI_ne (by decide : (1 : Int32).toInt = 1) (by decide : (0 : Int32).toInt = 0) (by omega)) ?_
                  refine J_aload_n (i := 0) (a := 0) rfl rfl (dk_X7_judge 10 _ rfl) ?_
                  refine J_getf fl_7_181 rfl rfl (dk_X7_judge 11 _ rfl) ?_
                  refine J_iload_n (i := 1) (a := 1) rfl rfl (dk_X7_judge 14 _ rfl) ?_
                  refine J_iald rfl (by decide) rfl (dk_X7_judge 15 _ rfl) ?_
                  refine J_ifT (tgt := 32) (by decide) (dk_X7_judge 16 _ rfl) (jI_lt (by decide : ((-1) : Int32).toInt = (-1)) (by decide : (0 : Int32).toInt = 0) (by omega)) ?_
                  refine J_iconst (v := 0) (by decide) (dk_X7_judge 32 _ rfl) ?_
                  refine J_istore_n (i := 3) (a := 3) rfl (by decide) (dk_X7_judge 33 _ rfl) ?_
                  show J _ _ _ _ _ _ _ _ [(3, .int 0), (0, .ref 0), (1, .int 5), (2, .int i)] _ _ _
                  refine J_iload_n (i := 3) (a := 3) rfl rfl (dk_X7_judge 34 _ rfl) ?_
                  refine J_aload_n (i := 0) (a := 0) rfl rfl (dk_X7_judge 35 _ rfl) ?_
                  refine J_getf fl_7_7 rfl rfl (dk_X7_judge 36 _ rfl) ?_
                  refine J_icT (tgt := 106) (by decide) (dk_X7_judge 39 _ rfl) (jI_le (by decide : (0 : Int32).toInt = 0) (by decide : (0 : Int32).toInt = 0) (by omega)) ?_
                  refine J_bipush (v := (-5)) (by decide) (dk_X7_judge 106 _ rfl) ?_
                  exact J_iret rfl rfl (dk_X7_judge 108 _ rfl) ⟨rfl, rfl⟩
    · refine ⟨(-1), ?_, ?_⟩
      · refine jCt_of ok_X6_judge (fun _ _ => Nat.le_of_ble_eq_true rfl) (fun _ _ hq => Nat.le_of_eq (lX.trans hq.2.symm)) ?_
        show J _ _ _ _ _ _ _ _ [(0, .ref 0), (1, .int t), (2, .int i)] _ _ _
        refine J_iload_n (i := 1) (a := 1) rfl rfl (dk_X6_judge 0 _ rfl) ?_
        refine J_cS (rv := some (.int 0)) (h' := hN0) (d' := 11) (As := [.int t]) ok_X6_isTape st_X6_isTape cl_6_220 rfl (n := 1) (by decide +kernel) rfl (by decide) (by decide) (dk_X6_judge 1 _ rfl) ?_ ?_
        · refine jCt_of ok_X6_isTape (fun _ _ => Nat.le_of_ble_eq_true rfl) (fun _ _ hq => by rw [hq.2]; first | exact Nat.le_refl _ | simp) ?_
          show J _ _ _ _ _ _ _ _ [(0, .int t)] _ _ _
          refine J_iload_n (i := 0) (a := 0) rfl rfl (dk_X6_isTape 0 _ rfl) ?_
          refine J_ifF (tgt := 14) (by decide) (dk_X6_isTape 1 _ rfl) (jI_nlt (rfl : (t : Int32).toInt = (t : Int32).toInt) (by decide : (0 : Int32).toInt = 0) (by omega)) ?_
          refine J_iload_n (i := 0) (a := 0) rfl rfl (dk_X6_isTape 4 _ rfl) ?_
          refine J_bipush (v := 6) (by decide) (dk_X6_isTape 5 _ rfl) ?_
          refine J_icT (tgt := 14) (by decide) (dk_X6_isTape 7 _ rfl) (jI_le (by decide : (6 : Int32).toInt = 6) (rfl : (t : Int32).toInt = (t : Int32).toInt) (by omega)) ?_
          refine J_iconst (v := 0) (by decide) (dk_X6_isTape 14 _ rfl) ?_
          exact J_iret rfl rfl (dk_X6_isTape 15 _ rfl) ⟨rfl, rfl⟩
        show J _ _ _ _ _ _ _ _ _ [.int 0] _ _
        refine J_ifF (tgt := 9) (by decide) (dk_X6_judge 4 _ rfl) (fun z => z (jI_eq (by decide : (0 : Int32).toInt = 0) (by decide : (0 : Int32).toInt = 0) (by omega))) ?_
        refine J_iconst (v := (-1)) (by decide) (dk_X6_judge 7 _ rfl) ?_
        exact J_iret rfl rfl (dk_X6_judge 8 _ rfl) ⟨rfl, rfl⟩
      · refine jCt_of ok_X7_judge (fun _ _ => Nat.le_of_ble_eq_true rfl) (fun _ _ hq => Nat.le_of_eq (lM.trans hq.2.symm)) ?_
        show J _ _ _ _ _ _ _ _ [(0, .ref 0), (1, .int t), (2, .int i)] _ _ _
        refine J_aload_n (i := 0) (a := 0) rfl rfl (dk_X7_judge 0 _ rfl) ?_
        refine J_iload_n (i := 1) (a := 1) rfl rfl (dk_X7_judge 1 _ rfl) ?_
        refine J_cV (rv := some (.int 0)) (h' := hM0) (d' := 11) (As := [.int t]) ok_X7_isTape vi_X7_isTape cl_7_354 (n := 1) (by decide +kernel) rfl rfl rfl rfl (by decide) (by decide) (dk_X7_judge 2 _ rfl) ?_ ?_
        · refine jCt_of ok_X7_isTape (fun _ _ => Nat.le_of_ble_eq_true rfl) (fun _ _ hq => by rw [hq.2]; first | exact Nat.le_refl _ | simp) ?_
          show J _ _ _ _ _ _ _ _ [(0, .ref 0), (1, .int t)] _ _ _
          refine J_aload_n (i := 0) (a := 0) rfl rfl (dk_X7_isTape 0 _ rfl) ?_
          refine J_iload_n (i := 1) (a := 1) rfl rfl (dk_X7_isTape 1 _ rfl) ?_
          refine J_iconst (v := 0) (by decide) (dk_X7_isTape 2 _ rfl) ?_
          refine J_iconst (v := 5) (by decide) (dk_X7_isTape 3 _ rfl) ?_
          refine J_cV (rv := some (.int 0)) (h' := hM0) (d' := 10) (As := [.int t, .int 0, .int 5]) ok_X7_in vi_X7_in cl_7_194 (n := 3) (by decide +kernel) rfl rfl rfl rfl (by decide) (by decide) (dk_X7_isTape 4 _ rfl) ?_ ?_
          · refine jCt_of ok_X7_in (fun _ _ => Nat.le_of_ble_eq_true rfl) (fun _ _ hq => by rw [hq.2]; first | exact Nat.le_refl _ | simp) ?_
            show J _ _ _ _ _ _ _ _ [(0, .ref 0), (1, .int t), (2, .int 0), (3, .int 5)] _ _ _
            refine J_iload_n (i := 1) (a := 1) rfl rfl (dk_X7_in 0 _ rfl) ?_
            refine J_iload_n (i := 2) (a := 2) rfl rfl (dk_X7_in 1 _ rfl) ?_
            refine J_icF (tgt := 14) (by decide) (dk_X7_in 2 _ rfl) (jI_nlt (rfl : (t : Int32).toInt = (t : Int32).toInt) (by decide : (0 : Int32).toInt = 0) (by omega)) ?_
            refine J_iload_n (i := 1) (a := 1) rfl rfl (dk_X7_in 5 _ rfl) ?_
            refine J_iload_n (i := 3) (a := 3) rfl rfl (dk_X7_in 6 _ rfl) ?_
            refine J_icT (tgt := 14) (by decide) (dk_X7_in 7 _ rfl) (jI_lt (by decide : (5 : Int32).toInt = 5) (rfl : (t : Int32).toInt = (t : Int32).toInt) (by omega)) ?_
            refine J_iconst (v := 0) (by decide) (dk_X7_in 14 _ rfl) ?_
            exact J_iret rfl rfl (dk_X7_in 15 _ rfl) ⟨rfl, rfl⟩
          show J _ _ _ _ _ _ _ _ _ [.int 0] _ _
          exact J_iret rfl rfl (dk_X7_isTape 7 _ rfl) ⟨rfl, rfl⟩
        show J _ _ _ _ _ _ _ _ _ [.int 0] _ _
        refine J_ifF (tgt := 10) (by decide) (dk_X7_judge 5 _ rfl) (fun z => z (jI_eq (by decide : (0 : Int32).toInt = 0) (by decide : (0 : Int32).toInt = 0) (by omega))) ?_
        refine J_iconst (v := (-1)) (by decide) (dk_X7_judge 8 _ rfl) ?_
        exact J_iret rfl rfl (dk_X7_judge 9 _ rfl) ⟨rfl, rfl⟩
set_option maxHeartbeats 4000000 in
set_option maxRecDepth 1000000 in
theorem o_item (t : Int32) (i : Int32) (z : Int64) : ∃ rv : Int32, jCt m_X6_item 12 0 0 [.ref 0, .int t, .int i, .long z] hN0 (jA (.int rv) 94) ∧ jCt m_X7_item 12 0 0 [.ref 0, .int t, .int i, .long z] hM0 (jA (.int rv) 37) := by
  have r_t := t.toInt_lt; have q_t := t.le_toInt
  have r_i := i.toInt_lt; have q_i := i.le_toInt
  by_cases c1 : (t : Int32).toInt < 0
  · refine ⟨(-1), ?_, ?_⟩
    · refine jCt_of ok_X6_item (fun _ _ => Nat.le_of_ble_eq_true rfl) (fun _ _ hq => Nat.le_of_eq (lX.trans hq.2.symm)) ?_
      show J _ _ _ _ _ _ _ _ [(0, .ref 0), (1, .int t), (2, .int i), (3, .long z)] _ _ _
      refine J_iload_n (i := 1) (a := 1) rfl rfl (dk_X6_item 0 _ rfl) ?_
      refine J_cS (rv := some (.int 0)) (h' := hN0) (d' := 11) (As := [.int t]) ok_X6_isTape st_X6_isTape cl_6_220 rfl (n := 1) (by decide +kernel) rfl (by decide) (by decide) (dk_X6_item 1 _ rfl) ?_ ?_
      · refine jCt_of ok_X6_isTape (fun _ _ => Nat.le_of_ble_eq_true rfl) (fun _ _ hq => by rw [hq.2]; first | exact Nat.le_refl _ | simp) ?_
        show J _ _ _ _ _ _ _ _ [(0, .int t)] _ _ _
        refine J_iload_n (i := 0) (a := 0) rfl rfl (dk_X6_isTape 0 _ rfl) ?_
        refine J_ifT (tgt := 14) (by decide) (dk_X6_isTape 1 _ rfl) (jI_lt (rfl : (t : Int32).toInt = (t : Int32).toInt) (by decide : (0 : Int32).toInt = 0) (by omega)) ?_
        refine J_iconst (v := 0) (by decide) (dk_X6_isTape 14 _ rfl) ?_
        exact J_iret rfl rfl (dk_X6_isTape 15 _ rfl) ⟨rfl, rfl⟩
      show J _ _ _ _ _ _ _ _ _ [.int 0] _ _
      refine J_ifF (tgt := 9) (by decide) (dk_X6_item 4 _ rfl) (fun z => z (jI_eq (by decide : (0 : Int32).toInt = 0) (by decide : (0 : Int32).toInt = 0) (by omega))) ?_
      refine J_iconst (v := (-1)) (by decide) (dk_X6_item 7 _ rfl) ?_
      exact J_iret rfl rfl (dk_X6_item 8 _ rfl) ⟨rfl, rfl⟩
    · refine jCt_of ok_X7_item (fun _ _ => Nat.le_of_ble_eq_true rfl) (fun _ _ hq => Nat.le_of_eq (lM.trans hq.2.symm)) ?_
      show J _ _ _ _ _ _ _ _ [(0, .ref 0), (1, .int t), (2, .int i), (3, .long z)] _ _ _
      refine J_aload_n (i := 0) (a := 0) rfl rfl (dk_X7_item 0 _ rfl) ?_
      refine J_iload_n (i := 1) (a := 1) rfl rfl (dk_X7_item 1 _ rfl) ?_
      refine J_cV (rv := some (.int 0)) (h' := hM0) (d' := 11) (As := [.int t]) ok_X7_isTape vi_X7_isTape cl_7_354 (n := 1) (by decide +kernel) rfl rfl rfl rfl (by decide) (by decide) (dk_X7_item 2 _ rfl) ?_ ?_
      · refine jCt_of ok_X7_isTape (fun _ _ => Nat.le_of_ble_eq_true rfl) (fun _ _ hq => by rw [hq.2]; first | exact Nat.le_refl _ | simp) ?_
        show J _ _ _ _ _ _ _ _ [(0, .ref 0), (1, .int t)] _ _ _
        refine J_aload_n (i := 0) (a := 0) rfl rfl (dk_X7_isTape 0 _ rfl) ?_
        refine J_iload_n (i := 1) (a := 1) rfl rfl (dk_X7_isTape 1 _ rfl) ?_
        refine J_iconst (v := 0) (by decide) (dk_X7_isTape 2 _ rfl) ?_
        refine J_iconst (v := 5) (by decide) (dk_X7_isTape 3 _ rfl) ?_
        refine J_cV (rv := some (.int 0)) (h' := hM0) (d' := 10) (As := [.int t, .int 0, .int 5]) ok_X7_in vi_X7_in cl_7_194 (n := 3) (by decide +kernel) rfl rfl rfl rfl (by decide) (by decide) (dk_X7_isTape 4 _ rfl) ?_ ?_
        · refine jCt_of ok_X7_in (fun _ _ => Nat.le_of_ble_eq_true rfl) (fun _ _ hq => by rw [hq.2]; first | exact Nat.le_refl _ | simp) ?_
          show J _ _ _ _ _ _ _ _ [(0, .ref 0), (1, .int t), (2, .int 0), (3, .int 5)] _ _ _
          refine J_iload_n (i := 1) (a := 1) rfl rfl (dk_X7_in 0 _ rfl) ?_
          refine J_iload_n (i := 2) (a := 2) rfl rfl (dk_X7_in 1 _ rfl) ?_
          refine J_icT (tgt := 14) (by decide) (dk_X7_in 2 _ rfl) (jI_lt (rfl : (t : Int32).toInt = (t : Int32).toInt) (by decide : (0 : Int32).toInt = 0) (by omega)) ?_
          refine J_iconst (v := 0) (by decide) (dk_X7_in 14 _ rfl) ?_
          exact J_iret rfl rfl (dk_X7_in 15 _ rfl) ⟨rfl, rfl⟩
        show J _ _ _ _ _ _ _ _ _ [.int 0] _ _
        exact J_iret rfl rfl (dk_X7_isTape 7 _ rfl) ⟨rfl, rfl⟩
      show J _ _ _ _ _ _ _ _ _ [.int 0] _ _
      refine J_ifF (tgt := 10) (by decide) (dk_X7_item 5 _ rfl) (fun z => z (jI_eq (by decide : (0 : Int32).toInt = 0) (by decide : (0 : Int32).toInt = 0) (by omega))) ?_
      refine J_iconst (v := (-1)) (by decide) (dk_X7_item 8 _ rfl) ?_
      exact J_iret rfl rfl (dk_X7_item 9 _ rfl) ⟨rfl, rfl⟩
  · by_cases c2 : (t : Int32).toInt < 6
    · by_cases c3 : (t : Int32).toInt = 0
      · obtain rfl : t = 0 := jI_eq rfl (by decide) c3
        refine ⟨(-11), ?_, ?_⟩
        · refine jCt_of ok_X6_item (fun _ _ => Nat.le_of_ble_eq_true rfl) (fun _ _ hq => Nat.le_of_eq (lX.trans hq.2.symm)) ?_
          show J _ _ _ _ _ _ _ _ [(0, .ref 0), (1, .int 0), (2, .int i), (3, .long z)] _ _ _
          refine J_iload_n (i := 1) (a := 1) rfl rfl (dk_X6_item 0 _ rfl) ?_
          refine J_cS (rv := some (.int 1)) (h' := hN0) (d' := 11) (As := [.int 0]) ok_X6_isTape st_X6_isTape cl_6_220 rfl (n := 1) (by decide +kernel) rfl (by decide) (by decide) (dk_X6_item 1 _ rfl) ?_ ?_
          · refine jCt_of ok_X6_isTape (fun _ _ => Nat.le_of_ble_eq_true rfl) (fun _ _ hq => by rw [hq.2]; first | exact Nat.le_refl _ | simp) ?_
            show J _ _ _ _ _ _ _ _ [(0, .int 0)] _ _ _
            refine J_iload_n (i := 0) (a := 0) rfl rfl (dk_X6_isTape 0 _ rfl) ?_
            refine J_ifF (tgt := 14) (by decide) (dk_X6_isTape 1 _ rfl) (jI_nlt (by decide : (0 : Int32).toInt = 0) (by decide : (0 : Int32).toInt = 0) (by omega)) ?_
            refine J_iload_n (i := 0) (a := 0) rfl rfl (dk_X6_isTape 4 _ rfl) ?_
            refine J_bipush (v := 6) (by decide) (dk_X6_isTape 5 _ rfl) ?_
            refine J_icF (tgt := 14) (by decide) (dk_X6_isTape 7 _ rfl) (jI_nle (by decide : (6 : Int32).toInt = 6) (by decide : (0 : Int32).toInt = 0) (by omega)) ?_
            refine J_iconst (v := 1) (by decide) (dk_X6_isTape 10 _ rfl) ?_
            refine J_goto (tgt := 15) (by decide) (dk_X6_isTape 11 _ rfl) ?_
            exact J_iret rfl rfl (dk_X6_isTape 15 _ rfl) ⟨rfl, rfl⟩
          show J _ _ _ _ _ _ _ _ _ [.int 1] _ _
          refine J_ifT (tgt := 9) (by decide) (dk_X6_item 4 _ rfl) (jI_ne (by decide : (1 : Int32).toInt = 1) (by decide : (0 : Int32).toInt = 0) (by omega)) ?_
          refine J_aload_n (i := 0) (a := 0) rfl rfl (dk_X6_item 9 _ rfl) ?_
          refine J_getf fl_6_37 rfl rfl (dk_X6_item 10 _ rfl) ?_
          refine J_iload_n (i := 1) (a := 1) rfl rfl (dk_X6_item 13 _ rfl) ?_
          refine J_aald (by decide) rfl (by decide) rfl (dk_X6_item 14 _ rfl) ?_
          refine J_astore (i := 5) (by decide) (dk_X6_item 15 _ rfl) ?_
          show J _ _ _ _ _ _ _ _ [(5, .ref 82), (0, .ref 0), (1, .int 0), (2, .int i), (3, .long z)] _ _ _
          refine J_aload (i := 5) rfl (dk_X6_item 17 _ rfl) ?_
          refine J_getf fl_6_223 rfl rfl (dk_X6_item 19 _ rfl) ?_
          refine J_iconst (v := (-1)) (by decide) (dk_X6_item 22 _ rfl) ?_
          refine J_icF (tgt := 29) (by decide) (dk_X6_item 23 _ rfl) (fun z => z (jI_eq (by decide : ((-1) : Int32).toInt = (-1)) (by decide : ((-1) : Int32).toInt = (-1)) (by omega))) ?_
          refine J_bipush (v := (-11)) (by decide) (dk_X6_item 26 _ rfl) ?_
          exact J_iret rfl rfl (dk_X6_item 28 _ rfl) ⟨rfl, rfl⟩
        · refine jCt_of ok_X7_item (fun _ _ => Nat.le_of_ble_eq_true rfl) (fun _ _ hq => Nat.le_of_eq (lM.trans hq.2.symm)) ?_
          show J _ _ _ _ _ _ _ _ [(0, .ref 0), (1, .int 0), (2, .int i), (3, .long z)] _ _ _
          refine J_aload_n (i := 0) (a := 0) rfl rfl (dk_X7_item 0 _ rfl) ?_
          refine J_iload_n (i := 1) (a := 1) rfl rfl (dk_X7_item 1 _ rfl) ?_
          refine J_cV (rv := some (.int 1)) (h' := hM0) (d' := 11) (As := [.int 0]) ok_X7_isTape vi_X7_isTape cl_7_354 (n := 1) (by decide +kernel) rfl rfl rfl rfl (by decide) (by decide) (dk_X7_item 2 _ rfl) ?_ ?_
          · refine jCt_of ok_X7_isTape (fun _ _ => Nat.le_of_ble_eq_true rfl) (fun _ _ hq => by rw [hq.2]; first | exact Nat.le_refl _ | simp) ?_
            show J _ _ _ _ _ _ _ _ [(0, .ref 0), (1, .int 0)] _ _ _
            refine J_aload_n (i := 0) (a := 0) rfl rfl (dk_X7_isTape 0 _ rfl) ?_
            refine J_iload_n (i := 1) (a := 1) rfl rfl (dk_X7_isTape 1 _ rfl) ?_
            refine J_iconst (v := 0) (by decide) (dk_X7_isTape 2 _ rfl) ?_
            refine J_iconst (v := 5) (by decide) (dk_X7_isTape 3 _ rfl) ?_
            refine J_cV (rv := some (.int 1)) (h' := hM0) (d' := 10) (As := [.int 0, .int 0, .int 5]) ok_X7_in vi_X7_in cl_7_194 (n := 3) (by decide +kernel) rfl rfl rfl rfl (by decide) (by decide) (dk_X7_isTape 4 _ rfl) ?_ ?_
            · refine jCt_of ok_X7_in (fun _ _ => Nat.le_of_ble_eq_true rfl) (fun _ _ hq => by rw [hq.2]; first | exact Nat.le_refl _ | simp) ?_
              show J _ _ _ _ _ _ _ _ [(0, .ref 0), (1, .int 0), (2, .int 0), (3, .int 5)] _ _ _
              refine J_iload_n (i := 1) (a := 1) rfl rfl (dk_X7_in 0 _ rfl) ?_
              refine J_iload_n (i := 2) (a := 2) rfl rfl (dk_X7_in 1 _ rfl) ?_
              refine J_icF (tgt := 14) (by decide) (dk_X7_in 2 _ rfl) (jI_nlt (by decide : (0 : Int32).toInt = 0) (by decide : (0 : Int32).toInt = 0) (by omega)) ?_
              refine J_iload_n (i := 1) (a := 1) rfl rfl (dk_X7_in 5 _ rfl) ?_
              refine J_iload_n (i := 3) (a := 3) rfl rfl (dk_X7_in 6 _ rfl) ?_
              refine J_icF (tgt := 14) (by decide) (dk_X7_in 7 _ rfl) (jI_nlt (by decide : (5 : Int32).toInt = 5) (by decide : (0 : Int32).toInt = 0) (by omega)) ?_
              refine J_iconst (v := 1) (by decide) (dk_X7_in 10 _ rfl) ?_
              refine J_goto (tgt := 15) (by decide) (dk_X7_in 11 _ rfl) ?_
              exact J_iret rfl rfl (dk_X7_in 15 _ rfl) ⟨rfl, rfl⟩
            show J _ _ _ _ _ _ _ _ _ [.int 1] _ _
            exact J_iret rfl rfl (dk_X7_isTape 7 _ rfl) ⟨rfl, rfl⟩
          show J _ _ _ _ _ _ _ _ _ [.int 1] _ _
          refine J_ifT (tgt := 10) (by decide) (dk_X7_item 5 _ rfl) (jI_ne (by decide : (1 : Int32).toInt = 1) (by decide : (0 : Int32).toInt = 0) (by omega)) ?_
          refine J_aload_n (i := 0) (a := 0) rfl rfl (dk_X7_item 10 _ rfl) ?_
          refine J_getf fl_7_181 rfl rfl (dk_X7_item 11 _ rfl) ?_
          refine J_iload_n (i := 1) (a := 1) rfl rfl (dk_X7_item 14 _ rfl) ?_
          refine J_iald rfl (by decide) rfl (dk_X7_item 15 _ rfl) ?_
          refine J_ifF (tgt := 22) (by decide) (dk_X7_item 16 _ rfl) (jI_nle (by decide : (0 : Int32).toInt = 0) (by decide : ((-1) : Int32).toInt = (-1)) (by omega)) ?_
          refine J_bipush (v := (-11)) (by decide) (dk_X7_item 19 _ rfl) ?_
          exact J_iret rfl rfl (dk_X7_item 21 _ rfl) ⟨rfl, rfl⟩
      · by_cases c4 : (t : Int32).toInt = 1
        · obtain rfl : t = 1 := jI_eq rfl (by decide) c4
          refine ⟨(-11), ?_, ?_⟩
          · refine jCt_of ok_X6_item (fun _ _ => Nat.le_of_ble_eq_true rfl) (fun _ _ hq => Nat.le_of_eq (lX.trans hq.2.symm)) ?_
            show J _ _ _ _ _ _ _ _ [(0, .ref 0), (1, .int 1), (2, .int i), (3, .long z)] _ _ _
            refine J_iload_n (i := 1) (a := 1) rfl rfl (dk_X6_item 0 _ rfl) ?_
            refine J_cS (rv := some (.int 1)) (h' := hN0) (d' := 11) (As := [.int 1]) ok_X6_isTape st_X6_isTape cl_6_220 rfl (n := 1) (by decide +kernel) rfl (by decide) (by decide) (dk_X6_item 1 _ rfl) ?_ ?_
            · refine jCt_of ok_X6_isTape (fun _ _ => Nat.le_of_ble_eq_true rfl) (fun _ _ hq => by rw [hq.2]; first | exact Nat.le_refl _ | simp) ?_
              show J _ _ _ _ _ _ _ _ [(0, .int 1)] _ _ _
              refine J_iload_n (i := 0) (a := 0) rfl rfl (dk_X6_isTape 0 _ rfl) ?_
              refine J_ifF (tgt := 14) (by decide) (dk_X6_isTape 1 _ rfl) (jI_nlt (by decide : (1 : Int32).toInt = 1) (by decide : (0 : Int32).toInt = 0) (by omega)) ?_
              refine J_iload_n (i := 0) (a := 0) rfl rfl (dk_X6_isTape 4 _ rfl) ?_
              refine J_bipush (v := 6) (by decide) (dk_X6_isTape 5 _ rfl) ?_
              refine J_icF (tgt := 14) (by decide) (dk_X6_isTape 7 _ rfl) (jI_nle (by decide : (6 : Int32).toInt = 6) (by decide : (1 : Int32).toInt = 1) (by omega)) ?_
              refine J_iconst (v := 1) (by decide) (dk_X6_isTape 10 _ rfl) ?_
              refine J_goto (tgt := 15) (by decide) (dk_X6_isTape 11 _ rfl) ?_
              exact J_iret rfl rfl (dk_X6_isTape 15 _ rfl) ⟨rfl, rfl⟩
            show J _ _ _ _ _ _ _ _ _ [.int 1] _ _
            refine J_ifT (tgt := 9) (by decide) (dk_X6_item 4 _ rfl) (jI_ne (by decide : (1 : Int32).toInt = 1) (by decide : (0 : Int32).toInt = 0) (by omega)) ?_
            refine J_aload_n (i := 0) (a := 0) rfl rfl (dk_X6_item 9 _ rfl) ?_
            refine J_getf fl_6_37 rfl rfl (dk_X6_item 10 _ rfl) ?_
            refine J_iload_n (i := 1) (a := 1) rfl rfl (dk_X6_item 13 _ rfl) ?_
            refine J_aald (by decide) rfl (by decide) rfl (dk_X6_item 14 _ rfl) ?_
            refine J_astore (i := 5) (by decide) (dk_X6_item 15 _ rfl) ?_
            show J _ _ _ _ _ _ _ _ [(5, .ref 84), (0, .ref 0), (1, .int 1), (2, .int i), (3, .long z)] _ _ _
            refine J_aload (i := 5) rfl (dk_X6_item 17 _ rfl) ?_
            refine J_getf fl_6_223 rfl rfl (dk_X6_item 19 _ rfl) ?_
            refine J_iconst (v := (-1)) (by decide) (dk_X6_item 22 _ rfl) ?_
            refine J_icF (tgt := 29) (by decide) (dk_X6_item 23 _ rfl) (fun z => z (jI_eq (by decide : ((-1) : Int32).toInt = (-1)) (by decide : ((-1) : Int32).toInt = (-1)) (by omega))) ?_
            refine J_bipush (v := (-11)) (by decide) (dk_X6_item 26 _ rfl) ?_
            exact J_iret rfl rfl (dk_X6_item 28 _ rfl) ⟨rfl, rfl⟩
          · refine jCt_of ok_X7_item (fun _ _ => Nat.le_of_ble_eq_true rfl) (fun _ _ hq => Nat.le_of_eq (lM.trans hq.2.symm)) ?_
            show J _ _ _ _ _ _ _ _ [(0, .ref 0), (1, .int 1), (2, .int i), (3, .long z)] _ _ _
            refine J_aload_n (i := 0) (a := 0) rfl rfl (dk_X7_item 0 _ rfl) ?_
            refine J_iload_n (i := 1) (a := 1) rfl rfl (dk_X7_item 1 _ rfl) ?_
            refine J_cV (rv := some (.int 1)) (h' := hM0) (d' := 11) (As := [.int 1]) ok_X7_isTape vi_X7_isTape cl_7_354 (n := 1) (by decide +kernel) rfl rfl rfl rfl (by decide) (by decide) (dk_X7_item 2 _ rfl) ?_ ?_
            · refine jCt_of ok_X7_isTape (fun _ _ => Nat.le_of_ble_eq_true rfl) (fun _ _ hq => by rw [hq.2]; first | exact Nat.le_refl _ | simp) ?_
              show J _ _ _ _ _ _ _ _ [(0, .ref 0), (1, .int 1)] _ _ _
              refine J_aload_n (i := 0) (a := 0) rfl rfl (dk_X7_isTape 0 _ rfl) ?_
              refine J_iload_n (i := 1) (a := 1) rfl rfl (dk_X7_isTape 1 _ rfl) ?_
              refine J_iconst (v := 0) (by decide) (dk_X7_isTape 2 _ rfl) ?_
              refine J_iconst (v := 5) (by decide) (dk_X7_isTape 3 _ rfl) ?_
              refine J_cV (rv := some (.int 1)) (h' := hM0) (d' := 10) (As := [.int 1, .int 0, .int 5]) ok_X7_in vi_X7_in cl_7_194 (n := 3) (by decide +kernel) rfl rfl rfl rfl (by decide) (by decide) (dk_X7_isTape 4 _ rfl) ?_ ?_
              · refine jCt_of ok_X7_in (fun _ _ => Nat.le_of_ble_eq_true rfl) (fun _ _ hq => by rw [hq.2]; first | exact Nat.le_refl _ | simp) ?_
                show J _ _ _ _ _ _ _ _ [(0, .ref 0), (1, .int 1), (2, .int 0), (3, .int 5)] _ _ _
                refine J_iload_n (i := 1) (a := 1) rfl rfl (dk_X7_in 0 _ rfl) ?_
                refine J_iload_n (i := 2) (a := 2) rfl rfl (dk_X7_in 1 _ rfl) ?_
                refine J_icF (tgt := 14) (by decide) (dk_X7_in 2 _ rfl) (jI_nlt (by decide : (1 : Int32).toInt = 1) (by decide : (0 : Int32).toInt = 0) (by omega)) ?_
                refine J_iload_n (i := 1) (a := 1) rfl rfl (dk_X7_in 5 _ rfl) ?_
                refine J_iload_n (i := 3) (a := 3) rfl rfl (dk_X7_in 6 _ rfl) ?_
                refine J_icF (tgt := 14) (by decide) (dk_X7_in 7 _ rfl) (jI_nlt (by decide : (5 : Int32).toInt = 5) (by decide : (1 : Int32).toInt = 1) (by omega)) ?_
                refine J_iconst (v := 1) (by decide) (dk_X7_in 10 _ rfl) ?_
                refine J_goto (tgt := 15) (by decide) (dk_X7_in 11 _ rfl) ?_
                exact J_iret rfl rfl (dk_X7_in 15 _ rfl) ⟨rfl, rfl⟩
              show J _ _ _ _ _ _ _ _ _ [.int 1] _ _
              exact J_iret rfl rfl (dk_X7_isTape 7 _ rfl) ⟨rfl, rfl⟩
            show J _ _ _ _ _ _ _ _ _ [.int 1] _ _
            refine J_ifT (tgt := 10) (by decide) (dk_X7_item 5 _ rfl) (jI_ne (by decide : (1 : Int32).toInt = 1) (by decide : (0 : Int32).toInt = 0) (by omega)) ?_
            refine J_aload_n (i := 0) (a := 0) rfl rfl (dk_X7_item 10 _ rfl) ?_
            refine J_getf fl_7_181 rfl rfl (dk_X7_item 11 _ rfl) ?_
            refine J_iload_n (i := 1) (a := 1) rfl rfl (dk_X7_item 14 _ rfl) ?_
            refine J_iald rfl (by decide) rfl (dk_X7_item 15 _ rfl) ?_
            refine J_ifF (tgt := 22) (by decide) (dk_X7_item 16 _ rfl) (jI_nle (by decide : (0 : Int32).toInt = 0) (by decide : ((-1) : Int32).toInt = (-1)) (by omega)) ?_
            refine J_bipush (v := (-11)) (by decide) (dk_X7_item 19 _ rfl) ?_
            exact J_iret rfl rfl (dk_X7_item 21 _ rfl) ⟨rfl, rfl⟩
        · by_cases c5 : (t : Int32).toInt = 2
          · obtain rfl : t = 2 := jI_eq rfl (by decide) c5
            refine ⟨(-11), ?_, ?_⟩
            · refine jCt_of ok_X6_item (fun _ _ => Nat.le_of_ble_eq_true rfl) (fun _ _ hq => Nat.le_of_eq (lX.trans hq.2.symm)) ?_
              show J _ _ _ _ _ _ _ _ [(0, .ref 0), (1, .int 2), (2, .int i), (3, .long z)] _ _ _
              refine J_iload_n (i := 1) (a := 1) rfl rfl (dk_X6_item 0 _ rfl) ?_
              refine J_cS (rv := some (.int 1)) (h' := hN0) (d' := 11) (As := [.int 2]) ok_X6_isTape st_X6_isTape cl_6_220 rfl (n := 1) (by decide +kernel) rfl (by decide) (by decide) (dk_X6_item 1 _ rfl) ?_ ?_
              · refine jCt_of ok_X6_isTape (fun _ _ => Nat.le_of_ble_eq_true rfl) (fun _ _ hq => by rw [hq.2]; first | exact Nat.le_refl _ | simp) ?_
                show J _ _ _ _ _ _ _ _ [(0, .int 2)] _ _ _
                refine J_iload_n (i := 0) (a := 0) rfl rfl (dk_X6_isTape 0 _ rfl) ?_
                refine J_ifF (tgt := 14) (by decide) (dk_X6_isTape 1 _ rfl) (jI_nlt (by decide : (2 : Int32).toInt = 2) (by decide : (0 : Int32).toInt = 0) (by omega)) ?_
                refine J_iload_n (i := 0) (a := 0) rfl rfl (dk_X6_isTape 4 _ rfl) ?_
                refine J_bipush (v := 6) (by decide) (dk_X6_isTape 5 _ rfl) ?_
                refine J_icF (tgt := 14) (by decide) (dk_X6_isTape 7 _ rfl) (jI_nle (by decide : (6 : Int32).toInt = 6) (by decide : (2 : Int32).toInt = 2) (by omega)) ?_
                refine J_iconst (v := 1) (by decide) (dk_X6_isTape 10 _ rfl) ?_
                refine J_goto (tgt := 15) (by decide) (dk_X6_isTape 11 _ rfl) ?_
                exact J_iret rfl rfl (dk_X6_isTape 15 _ rfl) ⟨rfl, rfl⟩
              show J _ _ _ _ _ _ _ _ _ [.int 1] _ _
              refine J_ifT (tgt := 9) (by decide) (dk_X6_item 4 _ rfl) (jI_ne (by decide : (1 : Int32).toInt = 1) (by decide : (0 : Int32).toInt = 0) (by omega)) ?_
              refine J_aload_n (i := 0) (a := 0) rfl rfl (dk_X6_item 9 _ rfl) ?_
              refine J_getf fl_6_37 rfl rfl (dk_X6_item 10 _ rfl) ?_
              refine J_iload_n (i := 1) (a := 1) rfl rfl (dk_X6_item 13 _ rfl) ?_
              refine J_aald (by decide) rfl (by decide) rfl (dk_X6_item 14 _ rfl) ?_
              refine J_astore (i := 5) (by decide) (dk_X6_item 15 _ rfl) ?_
              show J _ _ _ _ _ _ _ _ [(5, .ref 86), (0, .ref 0), (1, .int 2), (2, .int i), (3, .long z)] _ _ _
              refine J_aload (i := 5) rfl (dk_X6_item 17 _ rfl) ?_
              refine J_getf fl_6_223 rfl rfl (dk_X6_item 19 _ rfl) ?_
              refine J_iconst (v := (-1)) (by decide) (dk_X6_item 22 _ rfl) ?_
              refine J_icF (tgt := 29) (by decide) (dk_X6_item 23 _ rfl) (fun z => z (jI_eq (by decide : ((-1) : Int32).toInt = (-1)) (by decide : ((-1) : Int32).toInt = (-1)) (by omega))) ?_
              refine J_bipush (v := (-11)) (by decide) (dk_X6_item 26 _ rfl) ?_
              exact J_iret rfl rfl (dk_X6_item 28 _ rfl) ⟨rfl, rfl⟩
            · refine jCt_of ok_X7_item (fun _ _ => Nat.le_of_ble_eq_true rfl) (fun _ _ hq => Nat.le_of_eq (lM.trans hq.2.symm)) ?_
              show J _ _ _ _ _ _ _ _ [(0, .ref 0), (1, .int 2), (2, .int i), (3, .long z)] _ _ _
              refine J_aload_n (i := 0) (a := 0) rfl rfl (dk_X7_item 0 _ rfl) ?_
              refine J_iload_n (i := 1) (a := 1) rfl rfl (dk_X7_item 1 _ rfl) ?_
              refine J_cV (rv := some (.int 1)) (h' := hM0) (d' := 11) (As := [.int 2]) ok_X7_isTape vi_X7_isTape cl_7_354 (n := 1) (by decide +kernel) rfl rfl rfl rfl (by decide) (by decide) (dk_X7_item 2 _ rfl) ?_ ?_
              · refine jCt_of ok_X7_isTape (fun _ _ => Nat.le_of_ble_eq_true rfl) (fun _ _ hq => by rw [hq.2]; first | exact Nat.le_refl _ | simp) ?_
                show J _ _ _ _ _ _ _ _ [(0, .ref 0), (1, .int 2)] _ _ _
                refine J_aload_n (i := 0) (a := 0) rfl rfl (dk_X7_isTape 0 _ rfl) ?_
                refine J_iload_n (i := 1) (a := 1) rfl rfl (dk_X7_isTape 1 _ rfl) ?_
                refine J_iconst (v := 0) (by decide) (dk_X7_isTape 2 _ rfl) ?_
                refine J_iconst (v := 5) (by decide) (dk_X7_isTape 3 _ rfl) ?_
                refine J_cV (rv := some (.int 1)) (h' := hM0) (d' := 10) (As := [.int 2, .int 0, .int 5]) ok_X7_in vi_X7_in cl_7_194 (n := 3) (by decide +kernel) rfl rfl rfl rfl (by decide) (by decide) (dk_X7_isTape 4 _ rfl) ?_ ?_
                · refine jCt_of ok_X7_in (fun _ _ => Nat.le_of_ble_eq_true rfl) (fun _ _ hq => by rw [hq.2]; first | exact Nat.le_refl _ | simp) ?_
                  show J _ _ _ _ _ _ _ _ [(0, .ref 0), (1, .int 2), (2, .int 0), (3, .int 5)] _ _ _
                  refine J_iload_n (i := 1) (a := 1) rfl rfl (dk_X7_in 0 _ rfl) ?_
                  refine J_iload_n (i := 2) (a := 2) rfl rfl (dk_X7_in 1 _ rfl) ?_
                  refine J_icF (tgt := 14) (by decide) (dk_X7_in 2 _ rfl) (jI_nlt (by decide : (2 : Int32).toInt = 2) (by decide : (0 : Int32).toInt = 0) (by omega)) ?_
                  refine J_iload_n (i := 1) (a := 1) rfl rfl (dk_X7_in 5 _ rfl) ?_
                  refine J_iload_n (i := 3) (a := 3) rfl rfl (dk_X7_in 6 _ rfl) ?_
                  refine J_icF (tgt := 14) (by decide) (dk_X7_in 7 _ rfl) (jI_nlt (by decide : (5 : Int32).toInt = 5) (by decide : (2 : Int32).toInt = 2) (by omega)) ?_
                  refine J_iconst (v := 1) (by decide) (dk_X7_in 10 _ rfl) ?_
                  refine J_goto (tgt := 15) (by decide) (dk_X7_in 11 _ rfl) ?_
                  exact J_iret rfl rfl (dk_X7_in 15 _ rfl) ⟨rfl, rfl⟩
                show J _ _ _ _ _ _ _ _ _ [.int 1] _ _
                exact J_iret rfl rfl (dk_X7_isTape 7 _ rfl) ⟨rfl, rfl⟩
              show J _ _ _ _ _ _ _ _ _ [.int 1] _ _
              refine J_ifT (tgt := 10) (by decide) (dk_X7_item 5 _ rfl) (jI_ne (by decide : (1 : Int32).toInt = 1) (by decide : (0 : Int32).toInt = 0) (by omega)) ?_
              refine J_aload_n (i := 0) (a := 0) rfl rfl (dk_X7_item 10 _ rfl) ?_
              refine J_getf fl_7_181 rfl rfl (dk_X7_item 11 _ rfl) ?_
              refine J_iload_n (i := 1) (a := 1) rfl rfl (dk_X7_item 14 _ rfl) ?_
              refine J_iald rfl (by decide) rfl (dk_X7_item 15 _ rfl) ?_
              refine J_ifF (tgt := 22) (by decide) (dk_X7_item 16 _ rfl) (jI_nle (by decide : (0 : Int32).toInt = 0) (by decide : ((-1) : Int32).toInt = (-1)) (by omega)) ?_
              refine J_bipush (v := (-11)) (by decide) (dk_X7_item 19 _ rfl) ?_
              exact J_iret rfl rfl (dk_X7_item 21 _ rfl) ⟨rfl, rfl⟩
          · by_cases c6 : (t : Int32).toInt = 3
            · obtain rfl : t = 3 := jI_eq rfl (by decide) c6
              refine ⟨(-11), ?_, ?_⟩
              · refine jCt_of ok_X6_item (fun _ _ => Nat.le_of_ble_eq_true rfl) (fun _ _ hq => Nat.le_of_eq (lX.trans hq.2.symm)) ?_
                show J _ _ _ _ _ _ _ _ [(0, .ref 0), (1, .int 3), (2, .int i), (3, .long z)] _ _ _
                refine J_iload_n (i := 1) (a := 1) rfl rfl (dk_X6_item 0 _ rfl) ?_
                refine J_cS (rv := some (.int 1)) (h' := hN0) (d' := 11) (As := [.int 3]) ok_X6_isTape st_X6_isTape cl_6_220 rfl (n := 1) (by decide +kernel) rfl (by decide) (by decide) (dk_X6_item 1 _ rfl) ?_ ?_
                · refine jCt_of ok_X6_isTape (fun _ _ => Nat.le_of_ble_eq_true rfl) (fun _ _ hq => by rw [hq.2]; first | exact Nat.le_refl _ | simp) ?_
                  show J _ _ _ _ _ _ _ _ [(0, .int 3)] _ _ _
                  refine J_iload_n (i := 0) (a := 0) rfl rfl (dk_X6_isTape 0 _ rfl) ?_
                  refine J_ifF (tgt := 14) (by decide) (dk_X6_isTape 1 _ rfl) (jI_nlt (by decide : (3 : Int32).toInt = 3) (by decide : (0 : Int32).toInt = 0) (by omega)) ?_
                  refine J_iload_n (i := 0) (a := 0) rfl rfl (dk_X6_isTape 4 _ rfl) ?_
                  refine J_bipush (v := 6) (by decide) (dk_X6_isTape 5 _ rfl) ?_
                  refine J_icF (tgt := 14) (by decide) (dk_X6_isTape 7 _ rfl) (jI_nle (by decide : (6 : Int32).toInt = 6) (by decide : (3 : Int32).toInt = 3) (by omega)) ?_
                  refine J_iconst (v := 1) (by decide) (dk_X6_isTape 10 _ rfl) ?_
                  refine J_goto (tgt := 15) (by decide) (dk_X6_isTape 11 _ rfl) ?_
                  exact J_iret rfl rfl (dk_X6_isTape 15 _ rfl) ⟨rfl, rfl⟩
                show J _ _ _ _ _ _ _ _ _ [.int 1] _ _
                refine J_ifT (tgt := 9) (by decide) (dk_X6_item 4 _ rfl) (jI_ne (by decide : (1 : Int32).toInt = 1) (by decide : (0 : Int32).toInt = 0) (by omega)) ?_
                refine J_aload_n (i := 0) (a := 0) rfl rfl (dk_X6_item 9 _ rfl) ?_
                refine J_getf fl_6_37 rfl rfl (dk_X6_item 10 _ rfl) ?_
                refine J_iload_n (i := 1) (a := 1) rfl rfl (dk_X6_item 13 _ rfl) ?_
                refine J_aald (by decide) rfl (by decide) rfl (dk_X6_item 14 _ rfl) ?_
                refine J_astore (i := 5) (by decide) (dk_X6_item 15 _ rfl) ?_
                show J _ _ _ _ _ _ _ _ [(5, .ref 88), (0, .ref 0), (1, .int 3), (2, .int i), (3, .long z)] _ _ _
                refine J_aload (i := 5) rfl (dk_X6_item 17 _ rfl) ?_
                refine J_getf fl_6_223 rfl rfl (dk_X6_item 19 _ rfl) ?_
                refine J_iconst (v := (-1)) (by decide) (dk_X6_item 22 _ rfl) ?_
                refine J_icF (tgt := 29) (by decide) (dk_X6_item 23 _ rfl) (fun z => z (jI_eq (by decide : ((-1) : Int32).toInt = (-1)) (by decide : ((-1) : Int32).toInt = (-1)) (by omega))) ?_
                refine J_bipush (v := (-11)) (by decide) (dk_X6_item 26 _ rfl) ?_
                exact J_iret rfl rfl (dk_X6_item 28 _ rfl) ⟨rfl, rfl⟩
              · refine jCt_of ok_X7_item (fun _ _ => Nat.le_of_ble_eq_true rfl) (fun _ _ hq => Nat.le_of_eq (lM.trans hq.2.symm)) ?_
                show J _ _ _ _ _ _ _ _ [(0, .ref 0), (1, .int 3), (2, .int i), (3, .long z)] _ _ _
                refine J_aload_n (i := 0) (a := 0) rfl rfl (dk_X7_item 0 _ rfl) ?_
                refine J_iload_n (i := 1) (a := 1) rfl rfl (dk_X7_item 1 _ rfl) ?_
                refine J_cV (rv := some (.int 1)) (h' := hM0) (d' := 11) (As := [.int 3]) ok_X7_isTape vi_X7_isTape cl_7_354 (n := 1) (by decide +kernel) rfl rfl rfl rfl (by decide) (by decide) (dk_X7_item 2 _ rfl) ?_ ?_
                · refine jCt_of ok_X7_isTape (fun _ _ => Nat.le_of_ble_eq_true rfl) (fun _ _ hq => by rw [hq.2]; first | exact Nat.le_refl _ | simp) ?_
                  show J _ _ _ _ _ _ _ _ [(0, .ref 0), (1, .int 3)] _ _ _
                  refine J_aload_n (i := 0) (a := 0) rfl rfl (dk_X7_isTape 0 _ rfl) ?_
                  refine J_iload_n (i := 1) (a := 1) rfl rfl (dk_X7_isTape 1 _ rfl) ?_
                  refine J_iconst (v := 0) (by decide) (dk_X7_isTape 2 _ rfl) ?_
                  refine J_iconst (v := 5) (by decide) (dk_X7_isTape 3 _ rfl) ?_
                  refine J_cV (rv := some (.int 1)) (h' := hM0) (d' := 10) (As := [.int 3, .int 0, .int 5]) ok_X7_in vi_X7_in cl_7_194 (n := 3) (by decide +kernel) rfl rfl rfl rfl (by decide) (by decide) (dk_X7_isTape 4 _ rfl) ?_ ?_
                  · refine jCt_of ok_X7_in (fun _ _ => Nat.le_of_ble_eq_true rfl) (fun _ _ hq => by rw [hq.2]; first | exact Nat.le_refl _ | simp) ?_
                    show J _ _ _ _ _ _ _ _ [(0, .ref 0), (1, .int 3), (2, .int 0), (3, .int 5)] _ _ _
                    refine J_iload_n (i := 1) (a := 1) rfl rfl (dk_X7_in 0 _ rfl) ?_
                    refine J_iload_n (i := 2) (a := 2) rfl rfl (dk_X7_in 1 _ rfl) ?_
                    refine J_icF (tgt := 14) (by decide) (dk_X7_in 2 _ rfl) (jI_nlt (by decide : (3 : Int32).toInt = 3) (by decide : (0 : Int32).toInt = 0) (by omega)) ?_
                    refine J_iload_n (i := 1) (a := 1) rfl rfl (dk_X7_in 5 _ rfl) ?_
                    refine J_iload_n (i := 3) (a := 3) rfl rfl (dk_X7_in 6 _ rfl) ?_
                    refine J_icF (tgt := 14) (by decide) (dk_X7_in 7 _ rfl) (jI_nlt (by decide : (5 : Int32).toInt = 5) (by decide : (3 : Int32).toInt = 3) (by omega)) ?_
                    refine J_iconst (v := 1) (by decide) (dk_X7_in 10 _ rfl) ?_
                    refine J_goto (tgt := 15) (by decide) (dk_X7_in 11 _ rfl) ?_
                    exact J_iret rfl rfl (dk_X7_in 15 _ rfl) ⟨rfl, rfl⟩
                  show J _ _ _ _ _ _ _ _ _ [.int 1] _ _
                  exact J_iret rfl rfl (dk_X7_isTape 7 _ rfl) ⟨rfl, rfl⟩
                show J _ _ _ _ _ _ _ _ _ [.int 1] _ _
                refine J_ifT (tgt := 10) (by decide) (dk_X7_item 5 _ rfl) (jI_ne (by decide : (1 : Int32).toInt = 1) (by decide : (0 : Int32).toInt = 0) (by omega)) ?_
                refine J_aload_n (i := 0) (a := 0) rfl rfl (dk_X7_item 10 _ rfl) ?_
                refine J_getf fl_7_181 rfl rfl (dk_X7_item 11 _ rfl) ?_
                refine J_iload_n (i := 1) (a := 1) rfl rfl (dk_X7_item 14 _ rfl) ?_
                refine J_iald rfl (by decide) rfl (dk_X7_item 15 _ rfl) ?_
                refine J_ifF (tgt := 22) (by decide) (dk_X7_item 16 _ rfl) (jI_nle (by decide : (0 : Int32).toInt = 0) (by decide : ((-1) : Int32).toInt = (-1)) (by omega)) ?_
                refine J_bipush (v := (-11)) (by decide) (dk_X7_item 19 _ rfl) ?_
                exact J_iret rfl rfl (dk_X7_item 21 _ rfl) ⟨rfl, rfl⟩
            · by_cases c7 : (t : Int32).toInt = 4
              · obtain rfl : t = 4 := jI_eq rfl (by decide) c7
                refine ⟨(-11), ?_, ?_⟩
                · refine jCt_of ok_X6_item (fun _ _ => Nat.le_of_ble_eq_true rfl) (fun _ _ hq => Nat.le_of_eq (lX.trans hq.2.symm)) ?_
                  show J _ _ _ _ _ _ _ _ [(0, .ref 0), (1, .int 4), (2, .int i), (3, .long z)] _ _ _
                  refine J_iload_n (i := 1) (a := 1) rfl rfl (dk_X6_item 0 _ rfl) ?_
                  refine J_cS (rv := some (.int 1)) (h' := hN0) (d' := 11) (As := [.int 4]) ok_X6_isTape st_X6_isTape cl_6_220 rfl (n := 1) (by decide +kernel) rfl (by decide) (by decide) (dk_X6_item 1 _ rfl) ?_ ?_
                  · refine jCt_of ok_X6_isTape (fun _ _ => Nat.le_of_ble_eq_true rfl) (fun _ _ hq => by rw [hq.2]; first | exact Nat.le_refl _ | simp) ?_
                    show J _ _ _ _ _ _ _ _ [(0, .int 4)] _ _ _
                    refine J_iload_n (i := 0) (a := 0) rfl rfl (dk_X6_isTape 0 _ rfl) ?_
                    refine J_ifF (tgt := 14) (by decide) (dk_X6_isTape 1 _ rfl) (jI_nlt (by decide : (4 : Int32).toInt = 4) (by decide : (0 : Int32).toInt = 0) (by omega)) ?_
                    refine J_iload_n (i := 0) (a := 0) rfl rfl (dk_X6_isTape 4 _ rfl) ?_
                    refine J_bipush (v := 6) (by decide) (dk_X6_isTape 5 _ rfl) ?_
                    refine J_icF (tgt := 14) (by decide) (dk_X6_isTape 7 _ rfl) (jI_nle (by decide : (6 : Int32).toInt = 6) (by decide : (4 : Int32).toInt = 4) (by omega)) ?_
                    refine J_iconst (v := 1) (by decide) (dk_X6_isTape 10 _ rfl) ?_
                    refine J_goto (tgt := 15) (by decide) (dk_X6_isTape 11 _ rfl) ?_
                    exact J_iret rfl rfl (dk_X6_isTape 15 _ rfl) ⟨rfl, rfl⟩
                  show J _ _ _ _ _ _ _ _ _ [.int 1] _ _
                  refine J_ifT (tgt := 9) (by decide) (dk_X6_item 4 _ rfl) (jI_ne (by decide : (1 : Int32).toInt = 1) (by decide : (0 : Int32).toInt = 0) (by omega)) ?_
                  refine J_aload_n (i := 0) (a := 0) rfl rfl (dk_X6_item 9 _ rfl) ?_
                  refine J_getf fl_6_37 rfl rfl (dk_X6_item 10 _ rfl) ?_
                  refine J_iload_n (i := 1) (a := 1) rfl rfl (dk_X6_item 13 _ rfl) ?_
                  refine J_aald (by decide) rfl (by decide) rfl (dk_X6_item 14 _ rfl) ?_
                  refine J_astore (i := 5) (by decide) (dk_X6_item 15 _ rfl) ?_
                  show J _ _ _ _ _ _ _ _ [(5, .ref 90), (0, .ref 0), (1, .int 4), (2, .int i), (3, .long z)] _ _ _
                  refine J_aload (i := 5) rfl (dk_X6_item 17 _ rfl) ?_
                  refine J_getf fl_6_223 rfl rfl (dk_X6_item 19 _ rfl) ?_
                  refine J_iconst (v := (-1)) (by decide) (dk_X6_item 22 _ rfl) ?_
                  refine J_icF (tgt := 29) (by decide) (dk_X6_item 23 _ rfl) (fun z => z (jI_eq (by decide : ((-1) : Int32).toInt = (-1)) (by decide : ((-1) : Int32).toInt = (-1)) (by omega))) ?_
                  refine J_bipush (v := (-11)) (by decide) (dk_X6_item 26 _ rfl) ?_
                  exact J_iret rfl rfl (dk_X6_item 28 _ rfl) ⟨rfl, rfl⟩
                · refine jCt_of ok_X7_item (fun _ _ => Nat.le_of_ble_eq_true rfl) (fun _ _ hq => Nat.le_of_eq (lM.trans hq.2.symm)) ?_
                  show J _ _ _ _ _ _ _ _ [(0, .ref 0), (1, .int 4), (2, .int i), (3, .long z)] _ _ _
                  refine J_aload_n (i := 0) (a := 0) rfl rfl (dk_X7_item 0 _ rfl) ?_
                  refine J_iload_n (i := 1) (a := 1) rfl rfl (dk_X7_item 1 _ rfl) ?_
                  refine J_cV (rv := some (.int 1)) (h' := hM0) (d' := 11) (As := [.int 4]) ok_X7_isTape vi_X7_isTape cl_7_354 (n := 1) (by decide +kernel) rfl rfl rfl rfl (by decide) (by decide) (dk_X7_item 2 _ rfl) ?_ ?_
                  · refine jCt_of ok_X7_isTape (fun _ _ => Nat.le_of_ble_eq_true rfl) (fun _ _ hq => by rw [hq.2]; first | exact Nat.le_refl _ | simp) ?_
                    show J _ _ _ _ _ _ _ _ [(0, .ref 0), (1, .int 4)] _ _ _
                    refine J_aload_n (i := 0) (a := 0) rfl rfl (dk_X7_isTape 0 _ rfl) ?_
                    refine J_iload_n (i := 1) (a := 1) rfl rfl (dk_X7_isTape 1 _ rfl) ?_
                    refine J_iconst (v := 0) (by decide) (dk_X7_isTape 2 _ rfl) ?_
                    refine J_iconst (v := 5) (by decide) (dk_X7_isTape 3 _ rfl) ?_
                    refine J_cV (rv := some (.int 1)) (h' := hM0) (d' := 10) (As := [.int 4, .int 0, .int 5]) ok_X7_in vi_X7_in cl_7_194 (n := 3) (by decide +kernel) rfl rfl rfl rfl (by decide) (by decide) (dk_X7_isTape 4 _ rfl) ?_ ?_
                    · refine jCt_of ok_X7_in (fun _ _ => Nat.le_of_ble_eq_true rfl) (fun _ _ hq => by rw [hq.2]; first | exact Nat.le_refl _ | simp) ?_
                      show J _ _ _ _ _ _ _ _ [(0, .ref 0), (1, .int 4), (2, .int 0), (3, .int 5)] _ _ _
                      refine J_iload_n (i := 1) (a := 1) rfl rfl (dk_X7_in 0 _ rfl) ?_
                      refine J_iload_n (i := 2) (a := 2) rfl rfl (dk_X7_in 1 _ rfl) ?_
                      refine J_icF (tgt := 14) (by decide) (dk_X7_in 2 _ rfl) (jI_nlt (by decide : (4 : Int32).toInt = 4) (by decide : (0 : Int32).toInt = 0) (by omega)) ?_
                      refine J_iload_n (i := 1) (a := 1) rfl rfl (dk_X7_in 5 _ rfl) ?_
                      refine J_iload_n (i := 3) (a := 3) rfl rfl (dk_X7_in 6 _ rfl) ?_
                      refine J_icF (tgt := 14) (by decide) (dk_X7_in 7 _ rfl) (jI_nlt (by decide : (5 : Int32).toInt = 5) (by decide : (4 : Int32).toInt = 4) (by omega)) ?_
                      refine J_iconst (v := 1) (by decide) (dk_X7_in 10 _ rfl) ?_
                      refine J_goto (tgt := 15) (by decide) (dk_X7_in 11 _ rfl) ?_
                      exact J_iret rfl rfl (dk_X7_in 15 _ rfl) ⟨rfl, rfl⟩
                    show J _ _ _ _ _ _ _ _ _ [.int 1] _ _
                    exact J_iret rfl rfl (dk_X7_isTape 7 _ rfl) ⟨rfl, rfl⟩
                  show J _ _ _ _ _ _ _ _ _ [.int 1] _ _
                  refine J_ifT (tgt := 10) (by decide) (dk_X7_item 5 _ rfl) (jI_ne (by decide : (1 : Int32).toInt = 1) (by decide : (0 : Int32).toInt = 0) (by omega)) ?_
                  refine J_aload_n (i := 0) (a := 0) rfl rfl (dk_X7_item 10 _ rfl) ?_
                  refine J_getf fl_7_181 rfl rfl (dk_X7_item 11 _ rfl) ?_
                  refine J_iload_n (i := 1) (a := 1) rfl rfl (dk_X7_item 14 _ rfl) ?_
                  refine J_iald rfl (by decide) rfl (dk_X7_item 15 _ rfl) ?_
                  refine J_ifF (tgt := 22) (by decide) (dk_X7_item 16 _ rfl) (jI_nle (by decide : (0 : Int32).toInt = 0) (by decide : ((-1) : Int32).toInt = (-1)) (by omega)) ?_
                  refine J_bipush (v := (-11)) (by decide) (dk_X7_item 19 _ rfl) ?_
                  exact J_iret rfl rfl (dk_X7_item 21 _ rfl) ⟨rfl, rfl⟩
              · obtain rfl : t = 5 := jI_eq rfl (by decide) (by omega : (t : Int32).toInt = 5)
                refine ⟨(-11), ?_, ?_⟩
                · refine jCt_of ok_X6_item (fun _ _ => Nat.le_of_ble_eq_true rfl) (fun _ _ hq => Nat.le_of_eq (lX.trans hq.2.symm)) ?_
                  show J _ _ _ _ _ _ _ _ [(0, .ref 0), (1, .int 5), (2, .int i), (3, .long z)] _ _ _
                  refine J_iload_n (i := 1) (a := 1) rfl rfl (dk_X6_item 0 _ rfl) ?_
                  refine J_cS (rv := some (.int 1)) (h' := hN0) (d' := 11) (As := [.int 5]) ok_X6_isTape st_X6_isTape cl_6_220 rfl (n := 1) (by decide +kernel) rfl (by decide) (by decide) (dk_X6_item 1 _ rfl) ?_ ?_
                  · refine jCt_of ok_X6_isTape (fun _ _ => Nat.le_of_ble_eq_true rfl) (fun _ _ hq => by rw [hq.2]; first | exact Nat.le_refl _ | simp) ?_
                    show J _ _ _ _ _ _ _ _ [(0, .int 5)] _ _ _
                    refine J_iload_n (i := 0) (a := 0) rfl rfl (dk_X6_isTape 0 _ rfl) ?_
                    refine J_ifF (tgt := 14) (by decide) (dk_X6_isTape 1 _ rfl) (jI_nlt (by decide : (5 : Int32).toInt = 5) (by decide : (0 : Int32).toInt = 0) (by omega)) ?_
                    refine J_iload_n (i := 0) (a := 0) rfl rfl (dk_X6_isTape 4 _ rfl) ?_
                    refine J_bipush (v := 6) (by decide) (dk_X6_isTape 5 _ rfl) ?_
                    refine J_icF (tgt := 14) (by decide) (dk_X6_isTape 7 _ rfl) (jI_nle (by decide : (6 : Int32).toInt = 6) (by decide : (5 : Int32).toInt = 5) (by omega)) ?_
                    refine J_iconst (v := 1) (by decide) (dk_X6_isTape 10 _ rfl) ?_
                    refine J_goto (tgt := 15) (by decide) (dk_X6_isTape 11 _ rfl) ?_
                    exact J_iret rfl rfl (dk_X6_isTape 15 _ rfl) ⟨rfl, rfl⟩
                  show J _ _ _ _ _ _ _ _ _ [.int 1] _ _
                  refine J_ifT (tgt := 9) (by decide) (dk_X6_item 4 _ rfl) (jI_ne (by decide : (1 : Int32).toInt = 1) (by decide : (0 : Int32).toInt = 0) (by omega)) ?_
                  refine J_aload_n (i := 0) (a := 0) rfl rfl (dk_X6_item 9 _ rfl) ?_
                  refine J_getf fl_6_37 rfl rfl (dk_X6_item 10 _ rfl) ?_
                  refine J_iload_n (i := 1) (a := 1) rfl rfl (dk_X6_item 13 _ rfl) ?_
                  refine J_aald (by decide) rfl (by decide) rfl (dk_X6_item 14 _ rfl) ?_
                  refine J_astore (i := 5) (by decide) (dk_X6_item 15 _ rfl) ?_
                  show J _ _ _ _ _ _ _ _ [(5, .ref 92), (0, .ref 0), (1, .int 5), (2, .int i), (3, .long z)] _ _ _
                  refine J_aload (i := 5) rfl (dk_X6_item 17 _ rfl) ?_
                  refine J_getf fl_6_223 rfl rfl (dk_X6_item 19 _ rfl) ?_
                  refine J_iconst (v := (-1)) (by decide) (dk_X6_item 22 _ rfl) ?_
                  refine J_icF (tgt := 29) (by decide) (dk_X6_item 23 _ rfl) (fun z => z (jI_eq (by decide : ((-1) : Int32).toInt = (-1)) (by decide : ((-1) : Int32).toInt = (-1)) (by omega))) ?_
                  refine J_bipush (v := (-11)) (by decide) (dk_X6_item 26 _ rfl) ?_
                  exact J_iret rfl rfl (dk_X6_item 28 _ rfl) ⟨rfl, rfl⟩
                · refine jCt_of ok_X7_item (fun _ _ => Nat.le_of_ble_eq_true rfl) (fun _ _ hq => Nat.le_of_eq (lM.trans hq.2.symm)) ?_
                  show J _ _ _ _ _ _ _ _ [(0, .ref 0), (1, .int 5), (2, .int i), (3, .long z)] _ _ _
                  refine J_aload_n (i := 0) (a := 0) rfl rfl (dk_X7_item 0 _ rfl) ?_
                  refine J_iload_n (i := 1) (a := 1) rfl rfl (dk_X7_item 1 _ rfl) ?_
                  refine J_cV (rv := some (.int 1)) (h' := hM0) (d' := 11) (As := [.int 5]) ok_X7_isTape vi_X7_isTape cl_7_354 (n := 1) (by decide +kernel) rfl rfl rfl rfl (by decide) (by decide) (dk_X7_item 2 _ rfl) ?_ ?_
                  · refine jCt_of ok_X7_isTape (fun _ _ => Nat.le_of_ble_eq_true rfl) (fun _ _ hq => by rw [hq.2]; first | exact Nat.le_refl _ | simp) ?_
                    show J _ _ _ _ _ _ _ _ [(0, .ref 0), (1, .int 5)] _ _ _
                    refine J_aload_n (i := 0) (a := 0) rfl rfl (dk_X7_isTape 0 _ rfl) ?_
                    refine J_iload_n (i := 1) (a := 1) rfl rfl (dk_X7_isTape 1 _ rfl) ?_
                    refine J_iconst (v := 0) (by decide) (dk_X7_isTape 2 _ rfl) ?_
                    refine J_iconst (v := 5) (by decide) (dk_X7_isTape 3 _ rfl) ?_
                    refine J_cV (rv := some (.int 1)) (h' := hM0) (d' := 10) (As := [.int 5, .int 0, .int 5]) ok_X7_in vi_X7_in cl_7_194 (n := 3) (by decide +kernel) rfl rfl rfl rfl (by decide) (by decide) (dk_X7_isTape 4 _ rfl) ?_ ?_
                    · refine jCt_of ok_X7_in (fun _ _ => Nat.le_of_ble_eq_true rfl) (fun _ _ hq => by rw [hq.2]; first | exact Nat.le_refl _ | simp) ?_
                      show J _ _ _ _ _ _ _ _ [(0, .ref 0), (1, .int 5), (2, .int 0), (3, .int 5)] _ _ _
                      refine J_iload_n (i := 1) (a := 1) rfl rfl (dk_X7_in 0 _ rfl) ?_
                      refine J_iload_n (i := 2) (a := 2) rfl rfl (dk_X7_in 1 _ rfl) ?_
                      refine J_icF (tgt := 14) (by decide) (dk_X7_in 2 _ rfl) (jI_nlt (by decide : (5 : Int32).toInt = 5) (by decide : (0 : Int32).toInt = 0) (by omega)) ?_
                      refine J_iload_n (i := 1) (a := 1) rfl rfl (dk_X7_in 5 _ rfl) ?_
                      refine J_iload_n (i := 3) (a := 3) rfl rfl (dk_X7_in 6 _ rfl) ?_
                      refine J_icF (tgt := 14) (by decide) (dk_X7_in 7 _ rfl) (jI_nlt (by decide : (5 : Int32).toInt = 5) (by decide : (5 : Int32).toInt = 5) (by omega)) ?_
                      refine J_iconst (v := 1) (by decide) (dk_X7_in 10 _ rfl) ?_
                      refine J_goto (tgt := 15) (by decide) (dk_X7_in 11 _ rfl) ?_
                      exact J_iret rfl rfl (dk_X7_in 15 _ rfl) ⟨rfl, rfl⟩
                    show J _ _ _ _ _ _ _ _ _ [.int 1] _ _
                    exact J_iret rfl rfl (dk_X7_isTape 7 _ rfl) ⟨rfl, rfl⟩
                  show J _ _ _ _ _ _ _ _ _ [.int 1] _ _
                  refine J_ifT (tgt := 10) (by decide) (dk_X7_item 5 _ rfl) (jI_ne (by decide : (1 : Int32).toInt = 1) (by decide : (0 : Int32).toInt = 0) (by omega)) ?_
                  refine J_aload_n (i := 0) (a := 0) rfl rfl (dk_X7_item 10 _ rfl) ?_
                  refine J_getf fl_7_181 rfl rfl (dk_X7_item 11 _ rfl) ?_
                  refine J_iload_n (i := 1) (a := 1) rfl rfl (dk_X7_item 14 _ rfl) ?_
                  refine J_iald rfl (by decide) rfl (dk_X7_item 15 _ rfl) ?_
                  refine J_ifF (tgt := 22) (by decide) (dk_X7_item 16 _ rfl) (jI_nle (by decide : (0 : Int32).toInt = 0) (by decide : ((-1) : Int32).toInt = (-1)) (by omega)) ?_
                  refine J_bipush (v := (-11)) (by decide) (dk_X7_item 19 _ rfl) ?_
                  exact J_iret rfl rfl (dk_X7_item 21 _ rfl) ⟨rfl, rfl⟩
    · refine ⟨(-1), ?_, ?_⟩
      · refine jCt_of ok_X6_item (fun _ _ => Nat.le_of_ble_eq_true rfl) (fun _ _ hq => Nat.le_of_eq (lX.trans hq.2.symm)) ?_
        show J _ _ _ _ _ _ _ _ [(0, .ref 0), (1, .int t), (2, .int i), (3, .long z)] _ _ _
        refine J_iload_n (i := 1) (a := 1) rfl rfl (dk_X6_item 0 _ rfl) ?_
        refine J_cS (rv := some (.int 0)) (h' := hN0) (d' := 11) (As := [.int t]) ok_X6_isTape st_X6_isTape cl_6_220 rfl (n := 1) (by decide +kernel) rfl (by decide) (by decide) (dk_X6_item 1 _ rfl) ?_ ?_
        · refine jCt_of ok_X6_isTape (fun _ _ => Nat.le_of_ble_eq_true rfl) (fun _ _ hq => by rw [hq.2]; first | exact Nat.le_refl _ | simp) ?_
          show J _ _ _ _ _ _ _ _ [(0, .int t)] _ _ _
          refine J_iload_n (i := 0) (a := 0) rfl rfl (dk_X6_isTape 0 _ rfl) ?_
          refine J_ifF (tgt := 14) (by decide) (dk_X6_isTape 1 _ rfl) (jI_nlt (rfl : (t : Int32).toInt = (t : Int32).toInt) (by decide : (0 : Int32).toInt = 0) (by omega)) ?_
          refine J_iload_n (i := 0) (a := 0) rfl rfl (dk_X6_isTape 4 _ rfl) ?_
          refine J_bipush (v := 6) (by decide) (dk_X6_isTape 5 _ rfl) ?_
          refine J_icT (tgt := 14) (by decide) (dk_X6_isTape 7 _ rfl) (jI_le (by decide : (6 : Int32).toInt = 6) (rfl : (t : Int32).toInt = (t : Int32).toInt) (by omega)) ?_
          refine J_iconst (v := 0) (by decide) (dk_X6_isTape 14 _ rfl) ?_
          exact J_iret rfl rfl (dk_X6_isTape 15 _ rfl) ⟨rfl, rfl⟩
        show J _ _ _ _ _ _ _ _ _ [.int 0] _ _
        refine J_ifF (tgt := 9) (by decide) (dk_X6_item 4 _ rfl) (fun z => z (jI_eq (by decide : (0 : Int32).toInt = 0) (by decide : (0 : Int32).toInt = 0) (by omega))) ?_
        refine J_iconst (v := (-1)) (by decide) (dk_X6_item 7 _ rfl) ?_
        exact J_iret rfl rfl (dk_X6_item 8 _ rfl) ⟨rfl, rfl⟩
      · refine jCt_of ok_X7_item (fun _ _ => Nat.le_of_ble_eq_true rfl) (fun _ _ hq => Nat.le_of_eq (lM.trans hq.2.symm)) ?_
        show J _ _ _ _ _ _ _ _ [(0, .ref 0), (1, .int t), (2, .int i), (3, .long z)] _ _ _
        refine J_aload_n (i := 0) (a := 0) rfl rfl (dk_X7_item 0 _ rfl) ?_
        refine J_iload_n (i := 1) (a := 1) rfl rfl (dk_X7_item 1 _ rfl) ?_
        refine J_cV (rv := some (.int 0)) (h' := hM0) (d' := 11) (As := [.int t]) ok_X7_isTape vi_X7_isTape cl_7_354 (n := 1) (by decide +kernel) rfl rfl rfl rfl (by decide) (by decide) (dk_X7_item 2 _ rfl) ?_ ?_
        · refine jCt_of ok_X7_isTape (fun _ _ => Nat.le_of_ble_eq_true rfl) (fun _ _ hq => by rw [hq.2]; first | exact Nat.le_refl _ | simp) ?_
          show J _ _ _ _ _ _ _ _ [(0, .ref 0), (1, .int t)] _ _ _
          refine J_aload_n (i := 0) (a := 0) rfl rfl (dk_X7_isTape 0 _ rfl) ?_
          refine J_iload_n (i := 1) (a := 1) rfl rfl (dk_X7_isTape 1 _ rfl) ?_
          refine J_iconst (v := 0) (by decide) (dk_X7_isTape 2 _ rfl) ?_
          refine J_iconst (v := 5) (by decide) (dk_X7_isTape 3 _ rfl) ?_
          refine J_cV (rv := some (.int 0)) (h' := hM0) (d' := 10) (As := [.int t, .int 0, .int 5]) ok_X7_in vi_X7_in cl_7_194 (n := 3) (by decide +kernel) rfl rfl rfl rfl (by decide) (by decide) (dk_X7_isTape 4 _ rfl) ?_ ?_
          · refine jCt_of ok_X7_in (fun _ _ => Nat.le_of_ble_eq_true rfl) (fun _ _ hq => by rw [hq.2]; first | exact Nat.le_refl _ | simp) ?_
            show J _ _ _ _ _ _ _ _ [(0, .ref 0), (1, .int t), (2, .int 0), (3, .int 5)] _ _ _
            refine J_iload_n (i := 1) (a := 1) rfl rfl (dk_X7_in 0 _ rfl) ?_
            refine J_iload_n (i := 2) (a := 2) rfl rfl (dk_X7_in 1 _ rfl) ?_
            refine J_icF (tgt := 14) (by decide) (dk_X7_in 2 _ rfl) (jI_nlt (rfl : (t : Int32).toInt = (t : Int32).toInt) (by decide : (0 : Int32).toInt = 0) (by omega)) ?_
            refine J_iload_n (i := 1) (a := 1) rfl rfl (dk_X7_in 5 _ rfl) ?_
            refine J_iload_n (i := 3) (a := 3) rfl rfl (dk_X7_in 6 _ rfl) ?_
            refine J_icT (tgt := 14) (by decide) (dk_X7_in 7 _ rfl) (jI_lt (by decide : (5 : Int32).toInt = 5) (rfl : (t : Int32).toInt = (t : Int32).toInt) (by omega)) ?_
            refine J_iconst (v := 0) (by decide) (dk_X7_in 14 _ rfl) ?_
            exact J_iret rfl rfl (dk_X7_in 15 _ rfl) ⟨rfl, rfl⟩
          show J _ _ _ _ _ _ _ _ _ [.int 0] _ _
          exact J_iret rfl rfl (dk_X7_isTape 7 _ rfl) ⟨rfl, rfl⟩
        show J _ _ _ _ _ _ _ _ _ [.int 0] _ _
        refine J_ifF (tgt := 10) (by decide) (dk_X7_item 5 _ rfl) (fun z => z (jI_eq (by decide : (0 : Int32).toInt = 0) (by decide : (0 : Int32).toInt = 0) (by omega))) ?_
        refine J_iconst (v := (-1)) (by decide) (dk_X7_item 8 _ rfl) ?_
        exact J_iret rfl rfl (dk_X7_item 9 _ rfl) ⟨rfl, rfl⟩
set_option maxHeartbeats 4000000 in
set_option maxRecDepth 1000000 in
theorem o_read (t : Int32) (i : Int32) : ∃ rv : Int64, jCt m_X6_read 12 0 0 [.ref 0, .int t, .int i] hN0 (jA (.long rv) 94) ∧ jCt m_X7_read 12 0 0 [.ref 0, .int t, .int i] hM0 (jA (.long rv) 37) := by
  have r_t := t.toInt_lt; have q_t := t.le_toInt
  have r_i := i.toInt_lt; have q_i := i.le_toInt
  by_cases c1 : (t : Int32).toInt < 0
  · refine ⟨(-9223372036854775808), ?_, ?_⟩
    · refine jCt_of ok_X6_read (fun _ _ => Nat.le_of_ble_eq_true rfl) (fun _ _ hq => Nat.le_of_eq (lX.trans hq.2.symm)) ?_
      show J _ _ _ _ _ _ _ _ [(0, .ref 0), (1, .int t), (2, .int i)] _ _ _
      refine J_iload_n (i := 1) (a := 1) rfl rfl (dk_X6_read 0 _ rfl) ?_
      refine J_cS (rv := some (.int 0)) (h' := hN0) (d' := 11) (As := [.int t]) ok_X6_isTape st_X6_isTape cl_6_220 rfl (n := 1) (by decide +kernel) rfl (by decide) (by decide) (dk_X6_read 1 _ rfl) ?_ ?_
      · refine jCt_of ok_X6_isTape (fun _ _ => Nat.le_of_ble_eq_true rfl) (fun _ _ hq => by rw [hq.2]; first | exact Nat.le_refl _ | simp) ?_
        show J _ _ _ _ _ _ _ _ [(0, .int t)] _ _ _
        refine J_iload_n (i := 0) (a := 0) rfl rfl (dk_X6_isTape 0 _ rfl) ?_
        refine J_ifT (tgt := 14) (by decide) (dk_X6_isTape 1 _ rfl) (jI_lt (rfl : (t : Int32).toInt = (t : Int32).toInt) (by decide : (0 : Int32).toInt = 0) (by omega)) ?_
        refine J_iconst (v := 0) (by decide) (dk_X6_isTape 14 _ rfl) ?_
        exact J_iret rfl rfl (dk_X6_isTape 15 _ rfl) ⟨rfl, rfl⟩
      show J _ _ _ _ _ _ _ _ _ [.int 0] _ _
      refine J_ifF (tgt := 11) (by decide) (dk_X6_read 4 _ rfl) (fun z => z (jI_eq (by decide : (0 : Int32).toInt = 0) (by decide : (0 : Int32).toInt = 0) (by omega))) ?_
      refine J_ldc2 (v := (-9223372036854775808)) ctl_6_203 (dk_X6_read 7 _ rfl) ?_
      exact J_lret rfl (dk_X6_read 10 _ rfl) ⟨rfl, rfl⟩
    · refine jCt_of ok_X7_read (fun _ _ => Nat.le_of_ble_eq_true rfl) (fun _ _ hq => Nat.le_of_eq (lM.trans hq.2.symm)) ?_
      show J _ _ _ _ _ _ _ _ [(0, .ref 0), (1, .int t), (2, .int i)] _ _ _
      refine J_aload_n (i := 0) (a := 0) rfl rfl (dk_X7_read 0 _ rfl) ?_
      refine J_iload_n (i := 1) (a := 1) rfl rfl (dk_X7_read 1 _ rfl) ?_
      refine J_cV (rv := some (.int 0)) (h' := hM0) (d' := 11) (As := [.int t]) ok_X7_isTape vi_X7_isTape cl_7_354 (n := 1) (by decide +kernel) rfl rfl rfl rfl (by decide) (by decide) (dk_X7_read 2 _ rfl) ?_ ?_
      · refine jCt_of ok_X7_isTape (fun _ _ => Nat.le_of_ble_eq_true rfl) (fun _ _ hq => by rw [hq.2]; first | exact Nat.le_refl _ | simp) ?_
        show J _ _ _ _ _ _ _ _ [(0, .ref 0), (1, .int t)] _ _ _
        refine J_aload_n (i := 0) (a := 0) rfl rfl (dk_X7_isTape 0 _ rfl) ?_
        refine J_iload_n (i := 1) (a := 1) rfl rfl (dk_X7_isTape 1 _ rfl) ?_
        refine J_iconst (v := 0) (by decide) (dk_X7_isTape 2 _ rfl) ?_
        refine J_iconst (v := 5) (by decide) (dk_X7_isTape 3 _ rfl) ?_
        refine J_cV (rv := some (.int 0)) (h' := hM0) (d' := 10) (As := [.int t, .int 0, .int 5]) ok_X7_in vi_X7_in cl_7_194 (n := 3) (by decide +kernel) rfl rfl rfl rfl (by decide) (by decide) (dk_X7_isTape 4 _ rfl) ?_ ?_
        · refine jCt_of ok_X7_in (fun _ _ => Nat.le_of_ble_eq_true rfl) (fun _ _ hq => by rw [hq.2]; first | exact Nat.le_refl _ | simp) ?_
          show J _ _ _ _ _ _ _ _ [(0, .ref 0), (1, .int t), (2, .int 0), (3, .int 5)] _ _ _
          refine J_iload_n (i := 1) (a := 1) rfl rfl (dk_X7_in 0 _ rfl) ?_
          refine J_iload_n (i := 2) (a := 2) rfl rfl (dk_X7_in 1 _ rfl) ?_
          refine J_icT (tgt := 14) (by decide) (dk_X7_in 2 _ rfl) (jI_lt (rfl : (t : Int32).toInt = (t : Int32).toInt) (by decide : (0 : Int32).toInt = 0) (by omega)) ?_
          refine J_iconst (v := 0) (by decide) (dk_X7_in 14 _ rfl) ?_
          exact J_iret rfl rfl (dk_X7_in 15 _ rfl) ⟨rfl, rfl⟩
        show J _ _ _ _ _ _ _ _ _ [.int 0] _ _
        exact J_iret rfl rfl (dk_X7_isTape 7 _ rfl) ⟨rfl, rfl⟩
      show J _ _ _ _ _ _ _ _ _ [.int 0] _ _
      refine J_ifT (tgt := 34) (by decide) (dk_X7_read 5 _ rfl) (jI_eq (by decide : (0 : Int32).toInt = 0) (by decide : (0 : Int32).toInt = 0) (by omega)) ?_
      refine J_ldc2 (v := (-9223372036854775808)) ctl_7_345 (dk_X7_read 34 _ rfl) ?_
      refine J_goto (tgt := 51) (by decide) (dk_X7_read 37 _ rfl) ?_
      exact J_lret rfl (dk_X7_read 51 _ rfl) ⟨rfl, rfl⟩
  · by_cases c2 : (t : Int32).toInt < 6
    · by_cases c3 : (t : Int32).toInt = 0
      · obtain rfl : t = 0 := jI_eq rfl (by decide) c3
        by_cases c4 : (i : Int32).toInt < 0
        · refine ⟨(-9223372036854775808), ?_, ?_⟩
          · refine jCt_of ok_X6_read (fun _ _ => Nat.le_of_ble_eq_true rfl) (fun _ _ hq => Nat.le_of_eq (lX.trans hq.2.symm)) ?_
            show J _ _ _ _ _ _ _ _ [(0, .ref 0), (1, .int 0), (2, .int i)] _ _ _
            refine J_iload_n (i := 1) (a := 1) rfl rfl (dk_X6_read 0 _ rfl) ?_
            refine J_cS (rv := some (.int 1)) (h' := hN0) (d' := 11) (As := [.int 0]) ok_X6_isTape st_X6_isTape cl_6_220 rfl (n := 1) (by decide +kernel) rfl (by decide) (by decide) (dk_X6_read 1 _ rfl) ?_ ?_
            · refine jCt_of ok_X6_isTape (fun _ _ => Nat.le_of_ble_eq_true rfl) (fun _ _ hq => by rw [hq.2]; first | exact Nat.le_refl _ | simp) ?_
              show J _ _ _ _ _ _ _ _ [(0, .int 0)] _ _ _
              refine J_iload_n (i := 0) (a := 0) rfl rfl (dk_X6_isTape 0 _ rfl) ?_
              refine J_ifF (tgt := 14) (by decide) (dk_X6_isTape 1 _ rfl) (jI_nlt (by decide : (0 : Int32).toInt = 0) (by decide : (0 : Int32).toInt = 0) (by omega)) ?_
              refine J_iload_n (i := 0) (a := 0) rfl rfl (dk_X6_isTape 4 _ rfl) ?_
              refine J_bipush (v := 6) (by decide) (dk_X6_isTape 5 _ rfl) ?_
              refine J_icF (tgt := 14) (by decide) (dk_X6_isTape 7 _ rfl) (jI_nle (by decide : (6 : Int32).toInt = 6) (by decide : (0 : Int32).toInt = 0) (by omega)) ?_
              refine J_iconst (v := 1) (by decide) (dk_X6_isTape 10 _ rfl) ?_
              refine J_goto (tgt := 15) (by decide) (dk_X6_isTape 11 _ rfl) ?_
              exact J_iret rfl rfl (dk_X6_isTape 15 _ rfl) ⟨rfl, rfl⟩
            show J _ _ _ _ _ _ _ _ _ [.int 1] _ _
            refine J_ifT (tgt := 11) (by decide) (dk_X6_read 4 _ rfl) (jI_ne (by decide : (1 : Int32).toInt = 1) (by decide : (0 : Int32).toInt = 0) (by omega)) ?_
            refine J_aload_n (i := 0) (a := 0) rfl rfl (dk_X6_read 11 _ rfl) ?_
            refine J_getf fl_6_37 rfl rfl (dk_X6_read 12 _ rfl) ?_
            refine J_iload_n (i := 1) (a := 1) rfl rfl (dk_X6_read 15 _ rfl) ?_
            refine J_aald (by decide) rfl (by decide) rfl (dk_X6_read 16 _ rfl) ?_
            refine J_astore_n (i := 3) (a := 3) rfl (by decide) (dk_X6_read 17 _ rfl) ?_
            show J _ _ _ _ _ _ _ _ [(3, .ref 82), (0, .ref 0), (1, .int 0), (2, .int i)] _ _ _
            refine J_iload_n (i := 2) (a := 2) rfl rfl (dk_X6_read 18 _ rfl) ?_
            refine J_ifT (tgt := 30) (by decide) (dk_X6_read 19 _ rfl) (jI_lt (rfl : (i : Int32).toInt = (i : Int32).toInt) (by decide : (0 : Int32).toInt = 0) (by omega)) ?_
            refine J_ldc2 (v := (-9223372036854775808)) ctl_6_203 (dk_X6_read 30 _ rfl) ?_
            refine J_goto (tgt := 42) (by decide) (dk_X6_read 33 _ rfl) ?_
            exact J_lret rfl (dk_X6_read 42 _ rfl) ⟨rfl, rfl⟩
          · refine jCt_of ok_X7_read (fun _ _ => Nat.le_of_ble_eq_true rfl) (fun _ _ hq => Nat.le_of_eq (lM.trans hq.2.symm)) ?_
            show J _ _ _ _ _ _ _ _ [(0, .ref 0), (1, .int 0), (2, .int i)] _ _ _
            refine J_aload_n (i := 0) (a := 0) rfl rfl (dk_X7_read 0 _ rfl) ?_
            refine J_iload_n (i := 1) (a := 1) rfl rfl (dk_X7_read 1 _ rfl) ?_
            refine J_cV (rv := some (.int 1)) (h' := hM0) (d' := 11) (As := [.int 0]) ok_X7_isTape vi_X7_isTape cl_7_354 (n := 1) (by decide +kernel) rfl rfl rfl rfl (by decide) (by decide) (dk_X7_read 2 _ rfl) ?_ ?_
            · refine jCt_of ok_X7_isTape (fun _ _ => Nat.le_of_ble_eq_true rfl) (fun _ _ hq => by rw [hq.2]; first | exact Nat.le_refl _ | simp) ?_
              show J _ _ _ _ _ _ _ _ [(0, .ref 0), (1, .int 0)] _ _ _
              refine J_aload_n (i := 0) (a := 0) rfl rfl (dk_X7_isTape 0 _ rfl) ?_
              refine J_iload_n (i := 1) (a := 1) rfl rfl (dk_X7_isTape 1 _ rfl) ?_
              refine J_iconst (v := 0) (by decide) (dk_X7_isTape 2 _ rfl) ?_
              refine J_iconst (v := 5) (by decide) (dk_X7_isTape 3 _ rfl) ?_
              refine J_cV (rv := some (.int 1)) (h' := hM0) (d' := 10) (As := [.int 0, .int 0, .int 5]) ok_X7_in vi_X7_in cl_7_194 (n := 3) (by decide +kernel) rfl rfl rfl rfl (by decide) (by decide) (dk_X7_isTape 4 _ rfl) ?_ ?_
              · refine jCt_of ok_X7_in (fun _ _ => Nat.le_of_ble_eq_true rfl) (fun _ _ hq => by rw [hq.2]; first | exact Nat.le_refl _ | simp) ?_
                show J _ _ _ _ _ _ _ _ [(0, .ref 0), (1, .int 0), (2, .int 0), (3, .int 5)] _ _ _
                refine J_iload_n (i := 1) (a := 1) rfl rfl (dk_X7_in 0 _ rfl) ?_
                refine J_iload_n (i := 2) (a := 2) rfl rfl (dk_X7_in 1 _ rfl) ?_
                refine J_icF (tgt := 14) (by decide) (dk_X7_in 2 _ rfl) (jI_nlt (by decide : (0 : Int32).toInt = 0) (by decide : (0 : Int32).toInt = 0) (by omega)) ?_
                refine J_iload_n (i := 1) (a := 1) rfl rfl (dk_X7_in 5 _ rfl) ?_
                refine J_iload_n (i := 3) (a := 3) rfl rfl (dk_X7_in 6 _ rfl) ?_
                refine J_icF (tgt := 14) (by decide) (dk_X7_in 7 _ rfl) (jI_nlt (by decide : (5 : Int32).toInt = 5) (by decide : (0 : Int32).toInt = 0) (by omega)) ?_
                refine J_iconst (v := 1) (by decide) (dk_X7_in 10 _ rfl) ?_
                refine J_goto (tgt := 15) (by decide) (dk_X7_in 11 _ rfl) ?_
                exact J_iret rfl rfl (dk_X7_in 15 _ rfl) ⟨rfl, rfl⟩
              show J _ _ _ _ _ _ _ _ _ [.int 1] _ _
              exact J_iret rfl rfl (dk_X7_isTape 7 _ rfl) ⟨rfl, rfl⟩
            show J _ _ _ _ _ _ _ _ _ [.int 1] _ _
            refine J_ifF (tgt := 34) (by decide) (dk_X7_read 5 _ rfl) (jI_ne (by decide : (1 : Int32).toInt = 1) (by decide : (0 : Int32).toInt = 0) (by omega)) ?_
            refine J_aload_n (i := 0) (a := 0) rfl rfl (dk_X7_read 8 _ rfl) ?_
            refine J_getf fl_7_181 rfl rfl (dk_X7_read 9 _ rfl) ?_
            refine J_iload_n (i := 1) (a := 1) rfl rfl (dk_X7_read 12 _ rfl) ?_
            refine J_iald rfl (by decide) rfl (dk_X7_read 13 _ rfl) ?_
            refine J_ifT (tgt := 34) (by decide) (dk_X7_read 14 _ rfl) (jI_lt (by decide : ((-1) : Int32).toInt = (-1)) (by decide : (0 : Int32).toInt = 0) (by omega)) ?_
            refine J_ldc2 (v := (-9223372036854775808)) ctl_7_345 (dk_X7_read 34 _ rfl) ?_
            refine J_goto (tgt := 51) (by decide) (dk_X7_read 37 _ rfl) ?_
            exact J_lret rfl (dk_X7_read 51 _ rfl) ⟨rfl, rfl⟩
        · refine ⟨(-9223372036854775808), ?_, ?_⟩
          · refine jCt_of ok_X6_read (fun _ _ => Nat.le_of_ble_eq_true rfl) (fun _ _ hq => Nat.le_of_eq (lX.trans hq.2.symm)) ?_
            show J _ _ _ _ _ _ _ _ [(0, .ref 0), (1, .int 0), (2, .int i)] _ _ _
            refine J_iload_n (i := 1) (a := 1) rfl rfl (dk_X6_read 0 _ rfl) ?_
            refine J_cS (rv := some (.int 1)) (h' := hN0) (d' := 11) (As := [.int 0]) ok_X6_isTape st_X6_isTape cl_6_220 rfl (n := 1) (by decide +kernel) rfl (by decide) (by decide) (dk_X6_read 1 _ rfl) ?_ ?_
            · refine jCt_of ok_X6_isTape (fun _ _ => Nat.le_of_ble_eq_true rfl) (fun _ _ hq => by rw [hq.2]; first | exact Nat.le_refl _ | simp) ?_
              show J _ _ _ _ _ _ _ _ [(0, .int 0)] _ _ _
              refine J_iload_n (i := 0) (a := 0) rfl rfl (dk_X6_isTape 0 _ rfl) ?_
              refine J_ifF (tgt := 14) (by decide) (dk_X6_isTape 1 _ rfl) (jI_nlt (by decide : (0 : Int32).toInt = 0) (by decide : (0 : Int32).toInt = 0) (by omega)) ?_
              refine J_iload_n (i := 0) (a := 0) rfl rfl (dk_X6_isTape 4 _ rfl) ?_
              refine J_bipush (v := 6) (by decide) (dk_X6_isTape 5 _ rfl) ?_
              refine J_icF (tgt := 14) (by decide) (dk_X6_isTape 7 _ rfl) (jI_nle (by decide : (6 : Int32).toInt = 6) (by decide : (0 : Int32).toInt = 0) (by omega)) ?_
              refine J_iconst (v := 1) (by decide) (dk_X6_isTape 10 _ rfl) ?_
              refine J_goto (tgt := 15) (by decide) (dk_X6_isTape 11 _ rfl) ?_
              exact J_iret rfl rfl (dk_X6_isTape 15 _ rfl) ⟨rfl, rfl⟩
            show J _ _ _ _ _ _ _ _ _ [.int 1] _ _
            refine J_ifT (tgt := 11) (by decide) (dk_X6_read 4 _ rfl) (jI_ne (by decide : (1 : Int32).toInt = 1) (by decide : (0 : Int32).toInt = 0) (by omega)) ?_
            refine J_aload_n (i := 0) (a := 0) rfl rfl (dk_X6_read 11 _ rfl) ?_
            refine J_getf fl_6_37 rfl rfl (dk_X6_read 12 _ rfl) ?_
            refine J_iload_n (i := 1) (a := 1) rfl rfl (dk_X6_read 15 _ rfl) ?_
            refine J_aald (by decide) rfl (by decide) rfl (dk_X6_read 16 _ rfl) ?_
            refine J_astore_n (i := 3) (a := 3) rfl (by decide) (dk_X6_read 17 _ rfl) ?_
            show J _ _ _ _ _ _ _ _ [(3, .ref 82), (0, .ref 0), (1, .int 0), (2, .int i)] _ _ _
            refine J_iload_n (i := 2) (a := 2) rfl rfl (dk_X6_read 18 _ rfl) ?_
            refine J_ifF (tgt := 30) (by decide) (dk_X6_read 19 _ rfl) (jI_nlt (rfl : (i : Int32).toInt = (i : Int32).toInt) (by decide : (0 : Int32).toInt = 0) (by omega)) ?_
            refine J_iload_n (i := 2) (a := 2) rfl rfl (dk_X6_read 22 _ rfl) ?_
            refine J_aload_n (i := 3) (a := 3) rfl rfl (dk_X6_read 23 _ rfl) ?_
            refine J_getf fl_6_226 rfl rfl (dk_X6_read 24 _ rfl) ?_
            refine J_icF (tgt := 36) (by decide) (dk_X6_read 27 _ rfl) (jI_nlt (rfl : (i : Int32).toInt = (i : Int32).toInt) (by decide : (0 : Int32).toInt = 0) (by omega)) ?_
            refine J_ldc2 (v := (-9223372036854775808)) ctl_6_203 (dk_X6_read 30 _ rfl) ?_
            refine J_goto (tgt := 42) (by decide) (dk_X6_read 33 _ rfl) ?_
            exact J_lret rfl (dk_X6_read 42 _ rfl) ⟨rfl, rfl⟩
          · refine jCt_of ok_X7_read (fun _ _ => Nat.le_of_ble_eq_true rfl) (fun _ _ hq => Nat.le_of_eq (lM.trans hq.2.symm)) ?_
            show J _ _ _ _ _ _ _ _ [(0, .ref 0), (1, .int 0), (2, .int i)] _ _ _
            refine J_aload_n (i := 0) (a := 0) rfl rfl (dk_X7_read 0 _ rfl) ?_
            refine J_iload_n (i := 1) (a := 1) rfl rfl (dk_X7_read 1 _ rfl) ?_
            refine J_cV (rv := some (.int 1)) (h' := hM0) (d' := 11) (As := [.int 0]) ok_X7_isTape vi_X7_isTape cl_7_354 (n := 1) (by decide +kernel) rfl rfl rfl rfl (by decide) (by decide) (dk_X7_read 2 _ rfl) ?_ ?_
            · refine jCt_of ok_X7_isTape (fun _ _ => Nat.le_of_ble_eq_true rfl) (fun _ _ hq => by rw [hq.2]; first | exact Nat.le_refl _ | simp) ?_
              show J _ _ _ _ _ _ _ _ [(0, .ref 0), (1, .int 0)] _ _ _
              refine J_aload_n (i := 0) (a := 0) rfl rfl (dk_X7_isTape 0 _ rfl) ?_
              refine J_iload_n (i := 1) (a := 1) rfl rfl (dk_X7_isTape 1 _ rfl) ?_
              refine J_iconst (v := 0) (by decide) (dk_X7_isTape 2 _ rfl) ?_
              refine J_iconst (v := 5) (by decide) (dk_X7_isTape 3 _ rfl) ?_
              refine J_cV (rv := some (.int 1)) (h' := hM0) (d' := 10) (As := [.int 0, .int 0, .int 5]) ok_X7_in vi_X7_in cl_7_194 (n := 3) (by decide +kernel) rfl rfl rfl rfl (by decide) (by decide) (dk_X7_isTape 4 _ rfl) ?_ ?_
              · refine jCt_of ok_X7_in (fun _ _ => Nat.le_of_ble_eq_true rfl) (fun _ _ hq => by rw [hq.2]; first | exact Nat.le_refl _ | simp) ?_
                show J _ _ _ _ _ _ _ _ [(0, .ref 0), (1, .int 0), (2, .int 0), (3, .int 5)] _ _ _
                refine J_iload_n (i := 1) (a := 1) rfl rfl (dk_X7_in 0 _ rfl) ?_
                refine J_iload_n (i := 2) (a := 2) rfl rfl (dk_X7_in 1 _ rfl) ?_
                refine J_icF (tgt := 14) (by decide) (dk_X7_in 2 _ rfl) (jI_nlt (by decide : (0 : Int32).toInt = 0) (by decide : (0 : Int32).toInt = 0) (by omega)) ?_
                refine J_iload_n (i := 1) (a := 1) rfl rfl (dk_X7_in 5 _ rfl) ?_
                refine J_iload_n (i := 3) (a := 3) rfl rfl (dk_X7_in 6 _ rfl) ?_
                refine J_icF (tgt := 14) (by decide) (dk_X7_in 7 _ rfl) (jI_nlt (by decide : (5 : Int32).toInt = 5) (by decide : (0 : Int32).toInt = 0) (by omega)) ?_
                refine J_iconst (v := 1) (by decide) (dk_X7_in 10 _ rfl) ?_
                refine J_goto (tgt := 15) (by decide) (dk_X7_in 11 _ rfl) ?_
                exact J_iret rfl rfl (dk_X7_in 15 _ rfl) ⟨rfl, rfl⟩
              show J _ _ _ _ _ _ _ _ _ [.int 1] _ _
              exact J_iret rfl rfl (dk_X7_isTape 7 _ rfl) ⟨rfl, rfl⟩
            show J _ _ _ _ _ _ _ _ _ [.int 1] _ _
            refine J_ifF (tgt := 34) (by decide) (dk_X7_read 5 _ rfl) (jI_ne (by decide : (1 : Int32).toInt = 1) (by decide : (0 : Int32).toInt = 0) (by omega)) ?_
            refine J_aload_n (i := 0) (a := 0) rfl rfl (dk_X7_read 8 _ rfl) ?_
            refine J_getf fl_7_181 rfl rfl (dk_X7_read 9 _ rfl) ?_
            refine J_iload_n (i := 1) (a := 1) rfl rfl (dk_X7_read 12 _ rfl) ?_
            refine J_iald rfl (by decide) rfl (dk_X7_read 13 _ rfl) ?_
            refine J_ifT (tgt := 34) (by decide) (dk_X7_read 14 _ rfl) (jI_lt (by decide : ((-1) : Int32).toInt = (-1)) (by decide : (0 : Int32).toInt = 0) (by omega)) ?_
            refine J_ldc2 (v := (-9223372036854775808)) ctl_7_345 (dk_X7_read 34 _ rfl) ?_
            refine J_goto (tgt := 51) (by decide) (dk_X7_read 37 _ rfl) ?_
            exact J_lret rfl (dk_X7_read 51 _ rfl) ⟨rfl, rfl⟩
      · by_cases c5 : (t : Int32).toInt = 1
        · obtain rfl : t = 1 := jI_eq rfl (by decide) c5
          by_cases c6 : (i : Int32).toInt < 0
          · refine ⟨(-9223372036854775808), ?_, ?_⟩
            · refine jCt_of ok_X6_read (fun _ _ => Nat.le_of_ble_eq_true rfl) (fun _ _ hq => Nat.le_of_eq (lX.trans hq.2.symm)) ?_
              show J _ _ _ _ _ _ _ _ [(0, .ref 0), (1, .int 1), (2, .int i)] _ _ _
              refine J_iload_n (i := 1) (a := 1) rfl rfl (dk_X6_read 0 _ rfl) ?_
              refine J_cS (rv := some (.int 1)) (h' := hN0) (d' := 11) (As := [.int 1]) ok_X6_isTape st_X6_isTape cl_6_220 rfl (n := 1) (by decide +kernel) rfl (by decide) (by decide) (dk_X6_read 1 _ rfl) ?_ ?_
              · refine jCt_of ok_X6_isTape (fun _ _ => Nat.le_of_ble_eq_true rfl) (fun _ _ hq => by rw [hq.2]; first | exact Nat.le_refl _ | simp) ?_
                show J _ _ _ _ _ _ _ _ [(0, .int 1)] _ _ _
                refine J_iload_n (i := 0) (a := 0) rfl rfl (dk_X6_isTape 0 _ rfl) ?_
                refine J_ifF (tgt := 14) (by decide) (dk_X6_isTape 1 _ rfl) (jI_nlt (by decide : (1 : Int32).toInt = 1) (by decide : (0 : Int32).toInt = 0) (by omega)) ?_
                refine J_iload_n (i := 0) (a := 0) rfl rfl (dk_X6_isTape 4 _ rfl) ?_
                refine J_bipush (v := 6) (by decide) (dk_X6_isTape 5 _ rfl) ?_
                refine J_icF (tgt := 14) (by decide) (dk_X6_isTape 7 _ rfl) (jI_nle (by decide : (6 : Int32).toInt = 6) (by decide : (1 : Int32).toInt = 1) (by omega)) ?_
                refine J_iconst (v := 1) (by decide) (dk_X6_isTape 10 _ rfl) ?_
                refine J_goto (tgt := 15) (by decide) (dk_X6_isTape 11 _ rfl) ?_
                exact J_iret rfl rfl (dk_X6_isTape 15 _ rfl) ⟨rfl, rfl⟩
              show J _ _ _ _ _ _ _ _ _ [.int 1] _ _
              refine J_ifT (tgt := 11) (by decide) (dk_X6_read 4 _ rfl) (jI_ne (by decide : (1 : Int32).toInt = 1) (by decide : (0 : Int32).toInt = 0) (by omega)) ?_
              refine J_aload_n (i := 0) (a := 0) rfl rfl (dk_X6_read 11 _ rfl) ?_
              refine J_getf fl_6_37 rfl rfl (dk_X6_read 12 _ rfl) ?_
              refine J_iload_n (i := 1) (a := 1) rfl rfl (dk_X6_read 15 _ rfl) ?_
              refine J_aald (by decide) rfl (by decide) rfl (dk_X6_read 16 _ rfl) ?_
              refine J_astore_n (i := 3) (a := 3) rfl (by decide) (dk_X6_read 17 _ rfl) ?_
              show J _ _ _ _ _ _ _ _ [(3, .ref 84), (0, .ref 0), (1, .int 1), (2, .int i)] _ _ _
              refine J_iload_n (i := 2) (a := 2) rfl rfl (dk_X6_read 18 _ rfl) ?_
              refine J_ifT (tgt := 30) (by decide) (dk_X6_read 19 _ rfl) (jI_lt (rfl : (i : Int32).toInt = (i : Int32).toInt) (by decide : (0 : Int32).toInt = 0) (by omega)) ?_
              refine J_ldc2 (v := (-9223372036854775808)) ctl_6_203 (dk_X6_read 30 _ rfl) ?_
              refine J_goto (tgt := 42) (by decide) (dk_X6_read 33 _ rfl) ?_
              exact J_lret rfl (dk_X6_read 42 _ rfl) ⟨rfl, rfl⟩
            · refine jCt_of ok_X7_read (fun _ _ => Nat.le_of_ble_eq_true rfl) (fun _ _ hq => Nat.le_of_eq (lM.trans hq.2.symm)) ?_
              show J _ _ _ _ _ _ _ _ [(0, .ref 0), (1, .int 1), (2, .int i)] _ _ _
              refine J_aload_n (i := 0) (a := 0) rfl rfl (dk_X7_read 0 _ rfl) ?_
              refine J_iload_n (i := 1) (a := 1) rfl rfl (dk_X7_read 1 _ rfl) ?_
              refine J_cV (rv := some (.int 1)) (h' := hM0) (d' := 11) (As := [.int 1]) ok_X7_isTape vi_X7_isTape cl_7_354 (n := 1) (by decide +kernel) rfl rfl rfl rfl (by decide) (by decide) (dk_X7_read 2 _ rfl) ?_ ?_
              · refine jCt_of ok_X7_isTape (fun _ _ => Nat.le_of_ble_eq_true rfl) (fun _ _ hq => by rw [hq.2]; first | exact Nat.le_refl _ | simp) ?_
                show J _ _ _ _ _ _ _ _ [(0, .ref 0), (1, .int 1)] _ _ _
                refine J_aload_n (i := 0) (a := 0) rfl rfl (dk_X7_isTape 0 _ rfl) ?_
                refine J_iload_n (i := 1) (a := 1) rfl rfl (dk_X7_isTape 1 _ rfl) ?_
                refine J_iconst (v := 0) (by decide) (dk_X7_isTape 2 _ rfl) ?_
                refine J_iconst (v := 5) (by decide) (dk_X7_isTape 3 _ rfl) ?_
                refine J_cV (rv := some (.int 1)) (h' := hM0) (d' := 10) (As := [.int 1, .int 0, .int 5]) ok_X7_in vi_X7_in cl_7_194 (n := 3) (by decide +kernel) rfl rfl rfl rfl (by decide) (by decide) (dk_X7_isTape 4 _ rfl) ?_ ?_
                · refine jCt_of ok_X7_in (fun _ _ => Nat.le_of_ble_eq_true rfl) (fun _ _ hq => by rw [hq.2]; first | exact Nat.le_refl _ | simp) ?_
                  show J _ _ _ _ _ _ _ _ [(0, .ref 0), (1, .int 1), (2, .int 0), (3, .int 5)] _ _ _
                  refine J_iload_n (i := 1) (a := 1) rfl rfl (dk_X7_in 0 _ rfl) ?_
                  refine J_iload_n (i := 2) (a := 2) rfl rfl (dk_X7_in 1 _ rfl) ?_
                  refine J_icF (tgt := 14) (by decide) (dk_X7_in 2 _ rfl) (jI_nlt (by decide : (1 : Int32).toInt = 1) (by decide : (0 : Int32).toInt = 0) (by omega)) ?_
                  refine J_iload_n (i := 1) (a := 1) rfl rfl (dk_X7_in 5 _ rfl) ?_
                  refine J_iload_n (i := 3) (a := 3) rfl rfl (dk_X7_in 6 _ rfl) ?_
                  refine J_icF (tgt := 14) (by decide) (dk_X7_in 7 _ rfl) (jI_nlt (by decide : (5 : Int32).toInt = 5) (by decide : (1 : Int32).toInt = 1) (by omega)) ?_
                  refine J_iconst (v := 1) (by decide) (dk_X7_in 10 _ rfl) ?_
                  refine J_goto (tgt := 15) (by decide) (dk_X7_in 11 _ rfl) ?_
                  exact J_iret rfl rfl (dk_X7_in 15 _ rfl) ⟨rfl, rfl⟩
                show J _ _ _ _ _ _ _ _ _ [.int 1] _ _
                exact J_iret rfl rfl (dk_X7_isTape 7 _ rfl) ⟨rfl, rfl⟩
              show J _ _ _ _ _ _ _ _ _ [.int 1] _ _
              refine J_ifF (tgt := 34) (by decide) (dk_X7_read 5 _ rfl) (jI_ne (by decide : (1 : Int32).toInt = 1) (by decide : (0 : Int32).toInt = 0) (by omega)) ?_
              refine J_aload_n (i := 0) (a := 0) rfl rfl (dk_X7_read 8 _ rfl) ?_
              refine J_getf fl_7_181 rfl rfl (dk_X7_read 9 _ rfl) ?_
              refine J_iload_n (i := 1) (a := 1) rfl rfl (dk_X7_read 12 _ rfl) ?_
              refine J_iald rfl (by decide) rfl (dk_X7_read 13 _ rfl) ?_
              refine J_ifT (tgt := 34) (by decide) (dk_X7_read 14 _ rfl) (jI_lt (by decide : ((-1) : Int32).toInt = (-1)) (by decide : (0 : Int32).toInt = 0) (by omega)) ?_
              refine J_ldc2 (v := (-9223372036854775808)) ctl_7_345 (dk_X7_read 34 _ rfl) ?_
              refine J_goto (tgt := 51) (by decide) (dk_X7_read 37 _ rfl) ?_
              exact J_lret rfl (dk_X7_read 51 _ rfl) ⟨rfl, rfl⟩
          · refine ⟨(-9223372036854775808), ?_, ?_⟩
            · refine jCt_of ok_X6_read (fun _ _ => Nat.le_of_ble_eq_true rfl) (fun _ _ hq => Nat.le_of_eq (lX.trans hq.2.symm)) ?_
              show J _ _ _ _ _ _ _ _ [(0, .ref 0), (1, .int 1), (2, .int i)] _ _ _
              refine J_iload_n (i := 1) (a := 1) rfl rfl (dk_X6_read 0 _ rfl) ?_
              refine J_cS (rv := some (.int 1)) (h' := hN0) (d' := 11) (As := [.int 1]) ok_X6_isTape st_X6_isTape cl_6_220 rfl (n := 1) (by decide +kernel) rfl (by decide) (by decide) (dk_X6_read 1 _ rfl) ?_ ?_
              · refine jCt_of ok_X6_isTape (fun _ _ => Nat.le_of_ble_eq_true rfl) (fun _ _ hq => by rw [hq.2]; first | exact Nat.le_refl _ | simp) ?_
                show J _ _ _ _ _ _ _ _ [(0, .int 1)] _ _ _
                refine J_iload_n (i := 0) (a := 0) rfl rfl (dk_X6_isTape 0 _ rfl) ?_
                refine J_ifF (tgt := 14) (by decide) (dk_X6_isTape 1 _ rfl) (jI_nlt (by decide : (1 : Int32).toInt = 1) (by decide : (0 : Int32).toInt = 0) (by omega)) ?_
                refine J_iload_n (i := 0) (a := 0) rfl rfl (dk_X6_isTape 4 _ rfl) ?_
                refine J_bipush (v := 6) (by decide) (dk_X6_isTape 5 _ rfl) ?_
                refine J_icF (tgt := 14) (by decide) (dk_X6_isTape 7 _ rfl) (jI_nle (by decide : (6 : Int32).toInt = 6) (by decide : (1 : Int32).toInt = 1) (by omega)) ?_
                refine J_iconst (v := 1) (by decide) (dk_X6_isTape 10 _ rfl) ?_
                refine J_goto (tgt := 15) (by decide) (dk_X6_isTape 11 _ rfl) ?_
                exact J_iret rfl rfl (dk_X6_isTape 15 _ rfl) ⟨rfl, rfl⟩
              show J _ _ _ _ _ _ _ _ _ [.int 1] _ _
              refine J_ifT (tgt := 11) (by decide) (dk_X6_read 4 _ rfl) (jI_ne (by decide : (1 : Int32).toInt = 1) (by decide : (0 : Int32).toInt = 0) (by omega)) ?_
              refine J_aload_n (i := 0) (a := 0) rfl rfl (dk_X6_read 11 _ rfl) ?_
              refine J_getf fl_6_37 rfl rfl (dk_X6_read 12 _ rfl) ?_
              refine J_iload_n (i := 1) (a := 1) rfl rfl (dk_X6_read 15 _ rfl) ?_
              refine J_aald (by decide) rfl (by decide) rfl (dk_X6_read 16 _ rfl) ?_
              refine J_astore_n (i := 3) (a := 3) rfl (by decide) (dk_X6_read 17 _ rfl) ?_
              show J _ _ _ _ _ _ _ _ [(3, .ref 84), (0, .ref 0), (1, .int 1), (2, .int i)] _ _ _
              refine J_iload_n (i := 2) (a := 2) rfl rfl (dk_X6_read 18 _ rfl) ?_
              refine J_ifF (tgt := 30) (by decide) (dk_X6_read 19 _ rfl) (jI_nlt (rfl : (i : Int32).toInt = (i : Int32).toInt) (by decide : (0 : Int32).toInt = 0) (by omega)) ?_
              refine J_iload_n (i := 2) (a := 2) rfl rfl (dk_X6_read 22 _ rfl) ?_
              refine J_aload_n (i := 3) (a := 3) rfl rfl (dk_X6_read 23 _ rfl) ?_
              refine J_getf fl_6_226 rfl rfl (dk_X6_read 24 _ rfl) ?_
              refine J_icF (tgt := 36) (by decide) (dk_X6_read 27 _ rfl) (jI_nlt (rfl : (i : Int32).toInt = (i : Int32).toInt) (by decide : (0 : Int32).toInt = 0) (by omega)) ?_
              refine J_ldc2 (v := (-9223372036854775808)) ctl_6_203 (dk_X6_read 30 _ rfl) ?_
              refine J_goto (tgt := 42) (by decide) (dk_X6_read 33 _ rfl) ?_
              exact J_lret rfl (dk_X6_read 42 _ rfl) ⟨rfl, rfl⟩
            · refine jCt_of ok_X7_read (fun _ _ => Nat.le_of_ble_eq_true rfl) (fun _ _ hq => Nat.le_of_eq (lM.trans hq.2.symm)) ?_
              show J _ _ _ _ _ _ _ _ [(0, .ref 0), (1, .int 1), (2, .int i)] _ _ _
              refine J_aload_n (i := 0) (a := 0) rfl rfl (dk_X7_read 0 _ rfl) ?_
              refine J_iload_n (i := 1) (a := 1) rfl rfl (dk_X7_read 1 _ rfl) ?_
              refine J_cV (rv := some (.int 1)) (h' := hM0) (d' := 11) (As := [.int 1]) ok_X7_isTape vi_X7_isTape cl_7_354 (n := 1) (by decide +kernel) rfl rfl rfl rfl (by decide) (by decide) (dk_X7_read 2 _ rfl) ?_ ?_
              · refine jCt_of ok_X7_isTape (fun _ _ => Nat.le_of_ble_eq_true rfl) (fun _ _ hq => by rw [hq.2]; first | exact Nat.le_refl _ | simp) ?_
                show J _ _ _ _ _ _ _ _ [(0, .ref 0), (1, .int 1)] _ _ _
                refine J_aload_n (i := 0) (a := 0) rfl rfl (dk_X7_isTape 0 _ rfl) ?_
                refine J_iload_n (i := 1) (a := 1) rfl rfl (dk_X7_isTape 1 _ rfl) ?_
                refine J_iconst (v := 0) (by decide) (dk_X7_isTape 2 _ rfl) ?_
                refine J_iconst (v := 5) (by decide) (dk_X7_isTape 3 _ rfl) ?_
                refine J_cV (rv := some (.int 1)) (h' := hM0) (d' := 10) (As := [.int 1, .int 0, .int 5]) ok_X7_in vi_X7_in cl_7_194 (n := 3) (by decide +kernel) rfl rfl rfl rfl (by decide) (by decide) (dk_X7_isTape 4 _ rfl) ?_ ?_
                · refine jCt_of ok_X7_in (fun _ _ => Nat.le_of_ble_eq_true rfl) (fun _ _ hq => by rw [hq.2]; first | exact Nat.le_refl _ | simp) ?_
                  show J _ _ _ _ _ _ _ _ [(0, .ref 0), (1, .int 1), (2, .int 0), (3, .int 5)] _ _ _
                  refine J_iload_n (i := 1) (a := 1) rfl rfl (dk_X7_in 0 _ rfl) ?_
                  refine J_iload_n (i := 2) (a := 2) rfl rfl (dk_X7_in 1 _ rfl) ?_
                  refine J_icF (tgt := 14) (by decide) (dk_X7_in 2 _ rfl) (jI_nlt (by decide : (1 : Int32).toInt = 1) (by decide : (0 : Int32).toInt = 0) (by omega)) ?_
                  refine J_iload_n (i := 1) (a := 1) rfl rfl (dk_X7_in 5 _ rfl) ?_
                  refine J_iload_n (i := 3) (a := 3) rfl rfl (dk_X7_in 6 _ rfl) ?_
                  refine J_icF (tgt := 14) (by decide) (dk_X7_in 7 _ rfl) (jI_nlt (by decide : (5 : Int32).toInt = 5) (by decide : (1 : Int32).toInt = 1) (by omega)) ?_
                  refine J_iconst (v := 1) (by decide) (dk_X7_in 10 _ rfl) ?_
                  refine J_goto (tgt := 15) (by decide) (dk_X7_in 11 _ rfl) ?_
                  exact J_iret rfl rfl (dk_X7_in 15 _ rfl) ⟨rfl, rfl⟩
                show J _ _ _ _ _ _ _ _ _ [.int 1] _ _
                exact J_iret rfl rfl (dk_X7_isTape 7 _ rfl) ⟨rfl, rfl⟩
              show J _ _ _ _ _ _ _ _ _ [.int 1] _ _
              refine J_ifF (tgt := 34) (by decide) (dk_X7_read 5 _ rfl) (jI_ne (by decide : (1 : Int32).toInt = 1) (by decide : (0 : Int32).toInt = 0) (by omega)) ?_
              refine J_aload_n (i := 0) (a := 0) rfl rfl (dk_X7_read 8 _ rfl) ?_
              refine J_getf fl_7_181 rfl rfl (dk_X7_read 9 _ rfl) ?_
              refine J_iload_n (i := 1) (a := 1) rfl rfl (dk_X7_read 12 _ rfl) ?_
              refine J_iald rfl (by decide) rfl (dk_X7_read 13 _ rfl) ?_
              refine J_ifT (tgt := 34) (by decide) (dk_X7_read 14 _ rfl) (jI_lt (by decide : ((-1) : Int32).toInt = (-1)) (by decide : (0 : Int32).toInt = 0) (by omega)) ?_
              refine J_ldc2 (v := (-9223372036854775808)) ctl_7_345 (dk_X7_read 34 _ rfl) ?_
              refine J_goto (tgt := 51) (by decide) (dk_X7_read 37 _ rfl) ?_
              exact J_lret rfl (dk_X7_read 51 _ rfl) ⟨rfl, rfl⟩
        · by_cases c7 : (t : Int32).toInt = 2
          · obtain rfl : t = 2 := jI_eq rfl (by decide) c7
            by_cases c8 : (i : Int32).toInt < 0
            · refine ⟨(-9223372036854775808), ?_, ?_⟩
              · refine jCt_of ok_X6_read (fun _ _ => Nat.le_of_ble_eq_true rfl) (fun _ _ hq => Nat.le_of_eq (lX.trans hq.2.symm)) ?_
                show J _ _ _ _ _ _ _ _ [(0, .ref 0), (1, .int 2), (2, .int i)] _ _ _
                refine J_iload_n (i := 1) (a := 1) rfl rfl (dk_X6_read 0 _ rfl) ?_
                refine J_cS (rv := some (.int 1)) (h' := hN0) (d' := 11) (As := [.int 2]) ok_X6_isTape st_X6_isTape cl_6_220 rfl (n := 1) (by decide +kernel) rfl (by decide) (by decide) (dk_X6_read 1 _ rfl) ?_ ?_
                · refine jCt_of ok_X6_isTape (fun _ _ => Nat.le_of_ble_eq_true rfl) (fun _ _ hq => by rw [hq.2]; first | exact Nat.le_refl _ | simp) ?_
                  show J _ _ _ _ _ _ _ _ [(0, .int 2)] _ _ _
                  refine J_iload_n (i := 0) (a := 0) rfl rfl (dk_X6_isTape 0 _ rfl) ?_
                  refine J_ifF (tgt := 14) (by decide) (dk_X6_isTape 1 _ rfl) (jI_nlt (by decide : (2 : Int32).toInt = 2) (by decide : (0 : Int32).toInt = 0) (by omega)) ?_
                  refine J_iload_n (i := 0) (a := 0) rfl rfl (dk_X6_isTape 4 _ rfl) ?_
                  refine J_bipush (v := 6) (by decide) (dk_X6_isTape 5 _ rfl) ?_
                  refine J_icF (tgt := 14) (by decide) (dk_X6_isTape 7 _ rfl) (jI_nle (by decide : (6 : Int32).toInt = 6) (by decide : (2 : Int32).toInt = 2) (by omega)) ?_
                  refine J_iconst (v := 1) (by decide) (dk_X6_isTape 10 _ rfl) ?_
                  refine J_goto (tgt := 15) (by decide) (dk_X6_isTape 11 _ rfl) ?_
                  exact J_iret rfl rfl (dk_X6_isTape 15 _ rfl) ⟨rfl, rfl⟩
                show J _ _ _ _ _ _ _ _ _ [.int 1] _ _
                refine J_ifT (tgt := 11) (by decide) (dk_X6_read 4 _ rfl) (jI_ne (by decide : (1 : Int32).toInt = 1) (by decide : (0 : Int32).toInt = 0) (by omega)) ?_
                refine J_aload_n (i := 0) (a := 0) rfl rfl (dk_X6_read 11 _ rfl) ?_
                refine J_getf fl_6_37 rfl rfl (dk_X6_read 12 _ rfl) ?_
                refine J_iload_n (i := 1) (a := 1) rfl rfl (dk_X6_read 15 _ rfl) ?_
                refine J_aald (by decide) rfl (by decide) rfl (dk_X6_read 16 _ rfl) ?_
                refine J_astore_n (i := 3) (a := 3) rfl (by decide) (dk_X6_read 17 _ rfl) ?_
                show J _ _ _ _ _ _ _ _ [(3, .ref 86), (0, .ref 0), (1, .int 2), (2, .int i)] _ _ _
                refine J_iload_n (i := 2) (a := 2) rfl rfl (dk_X6_read 18 _ rfl) ?_
                refine J_ifT (tgt := 30) (by decide) (dk_X6_read 19 _ rfl) (jI_lt (rfl : (i : Int32).toInt = (i : Int32).toInt) (by decide : (0 : Int32).toInt = 0) (by omega)) ?_
                refine J_ldc2 (v := (-9223372036854775808)) ctl_6_203 (dk_X6_read 30 _ rfl) ?_
                refine J_goto (tgt := 42) (by decide) (dk_X6_read 33 _ rfl) ?_
                exact J_lret rfl (dk_X6_read 42 _ rfl) ⟨rfl, rfl⟩
              · refine jCt_of ok_X7_read (fun _ _ => Nat.le_of_ble_eq_true rfl) (fun _ _ hq => Nat.le_of_eq (lM.trans hq.2.symm)) ?_
                show J _ _ _ _ _ _ _ _ [(0, .ref 0), (1, .int 2), (2, .int i)] _ _ _
                refine J_aload_n (i := 0) (a := 0) rfl rfl (dk_X7_read 0 _ rfl) ?_
                refine J_iload_n (i := 1) (a := 1) rfl rfl (dk_X7_read 1 _ rfl) ?_
                refine J_cV (rv := some (.int 1)) (h' := hM0) (d' := 11) (As := [.int 2]) ok_X7_isTape vi_X7_isTape cl_7_354 (n := 1) (by decide +kernel) rfl rfl rfl rfl (by decide) (by decide) (dk_X7_read 2 _ rfl) ?_ ?_
                · refine jCt_of ok_X7_isTape (fun _ _ => Nat.le_of_ble_eq_true rfl) (fun _ _ hq => by rw [hq.2]; first | exact Nat.le_refl _ | simp) ?_
                  show J _ _ _ _ _ _ _ _ [(0, .ref 0), (1, .int 2)] _ _ _
                  refine J_aload_n (i := 0) (a := 0) rfl rfl (dk_X7_isTape 0 _ rfl) ?_
                  refine J_iload_n (i := 1) (a := 1) rfl rfl (dk_X7_isTape 1 _ rfl) ?_
                  refine J_iconst (v := 0) (by decide) (dk_X7_isTape 2 _ rfl) ?_
                  refine J_iconst (v := 5) (by decide) (dk_X7_isTape 3 _ rfl) ?_
                  refine J_cV (rv := some (.int 1)) (h' := hM0) (d' := 10) (As := [.int 2, .int 0, .int 5]) ok_X7_in vi_X7_in cl_7_194 (n := 3) (by decide +kernel) rfl rfl rfl rfl (by decide) (by decide) (dk_X7_isTape 4 _ rfl) ?_ ?_
                  · refine jCt_of ok_X7_in (fun _ _ => Nat.le_of_ble_eq_true rfl) (fun _ _ hq => by rw [hq.2]; first | exact Nat.le_refl _ | simp) ?_
                    show J _ _ _ _ _ _ _ _ [(0, .ref 0), (1, .int 2), (2, .int 0), (3, .int 5)] _ _ _
                    refine J_iload_n (i := 1) (a := 1) rfl rfl (dk_X7_in 0 _ rfl) ?_
                    refine J_iload_n (i := 2) (a := 2) rfl rfl (dk_X7_in 1 _ rfl) ?_
                    refine J_icF (tgt := 14) (by decide) (dk_X7_in 2 _ rfl) (jI_nlt (by decide : (2 : Int32).toInt = 2) (by decide : (0 : Int32).toInt = 0) (by omega)) ?_
                    refine J_iload_n (i := 1) (a := 1) rfl rfl (dk_X7_in 5 _ rfl) ?_
                    refine J_iload_n (i := 3) (a := 3) rfl rfl (dk_X7_in 6 _ rfl) ?_
                    refine J_icF (tgt := 14) (by decide) (dk_X7_in 7 _ rfl) (jI_nlt (by decide : (5 : Int32).toInt = 5) (by decide : (2 : Int32).toInt = 2) (by omega)) ?_
                    refine J_iconst (v := 1) (by decide) (dk_X7_in 10 _ rfl) ?_
                    refine J_goto (tgt := 15) (by decide) (dk_X7_in 11 _ rfl) ?_
                    exact J_iret rfl rfl (dk_X7_in 15 _ rfl) ⟨rfl, rfl⟩
                  show J _ _ _ _ _ _ _ _ _ [.int 1] _ _
                  exact J_iret rfl rfl (dk_X7_isTape 7 _ rfl) ⟨rfl, rfl⟩
                show J _ _ _ _ _ _ _ _ _ [.int 1] _ _
                refine J_ifF (tgt := 34) (by decide) (dk_X7_read 5 _ rfl) (jI_ne (by decide : (1 : Int32).toInt = 1) (by decide : (0 : Int32).toInt = 0) (by omega)) ?_
                refine J_aload_n (i := 0) (a := 0) rfl rfl (dk_X7_read 8 _ rfl) ?_
                refine J_getf fl_7_181 rfl rfl (dk_X7_read 9 _ rfl) ?_
                refine J_iload_n (i := 1) (a := 1) rfl rfl (dk_X7_read 12 _ rfl) ?_
                refine J_iald rfl (by decide) rfl (dk_X7_read 13 _ rfl) ?_
                refine J_ifT (tgt := 34) (by decide) (dk_X7_read 14 _ rfl) (jI_lt (by decide : ((-1) : Int32).toInt = (-1)) (by decide : (0 : Int32).toInt = 0) (by omega)) ?_
                refine J_ldc2 (v := (-9223372036854775808)) ctl_7_345 (dk_X7_read 34 _ rfl) ?_
                refine J_goto (tgt := 51) (by decide) (dk_X7_read 37 _ rfl) ?_
                exact J_lret rfl (dk_X7_read 51 _ rfl) ⟨rfl, rfl⟩
            · refine ⟨(-9223372036854775808), ?_, ?_⟩
              · refine jCt_of ok_X6_read (fun _ _ => Nat.le_of_ble_eq_true rfl) (fun _ _ hq => Nat.le_of_eq (lX.trans hq.2.symm)) ?_
                show J _ _ _ _ _ _ _ _ [(0, .ref 0), (1, .int 2), (2, .int i)] _ _ _
                refine J_iload_n (i := 1) (a := 1) rfl rfl (dk_X6_read 0 _ rfl) ?_
                refine J_cS (rv := some (.int 1)) (h' := hN0) (d' := 11) (As := [.int 2]) ok_X6_isTape st_X6_isTape cl_6_220 rfl (n := 1) (by decide +kernel) rfl (by decide) (by decide) (dk_X6_read 1 _ rfl) ?_ ?_
                · refine jCt_of ok_X6_isTape (fun _ _ => Nat.le_of_ble_eq_true rfl) (fun _ _ hq => by rw [hq.2]; first | exact Nat.le_refl _ | simp) ?_
                  show J _ _ _ _ _ _ _ _ [(0, .int 2)] _ _ _
                  refine J_iload_n (i := 0) (a := 0) rfl rfl (dk_X6_isTape 0 _ rfl) ?_
                  refine J_ifF (tgt := 14) (by decide) (dk_X6_isTape 1 _ rfl) (jI_nlt (by decide : (2 : Int32).toInt = 2) (by decide : (0 : Int32).toInt = 0) (by omega)) ?_
                  refine J_iload_n (i := 0) (a := 0) rfl rfl (dk_X6_isTape 4 _ rfl) ?_
                  refine J_bipush (v := 6) (by decide) (dk_X6_isTape 5 _ rfl) ?_
                  refine J_icF (tgt := 14) (by decide) (dk_X6_isTape 7 _ rfl) (jI_nle (by decide : (6 : Int32).toInt = 6) (by decide : (2 : Int32).toInt = 2) (by omega)) ?_
                  refine J_iconst (v := 1) (by decide) (dk_X6_isTape 10 _ rfl) ?_
                  refine J_goto (tgt := 15) (by decide) (dk_X6_isTape 11 _ rfl) ?_
                  exact J_iret rfl rfl (dk_X6_isTape 15 _ rfl) ⟨rfl, rfl⟩
                show J _ _ _ _ _ _ _ _ _ [.int 1] _ _
                refine J_ifT (tgt := 11) (by decide) (dk_X6_read 4 _ rfl) (jI_ne (by decide : (1 : Int32).toInt = 1) (by decide : (0 : Int32).toInt = 0) (by omega)) ?_
                refine J_aload_n (i := 0) (a := 0) rfl rfl (dk_X6_read 11 _ rfl) ?_
                refine J_getf fl_6_37 rfl rfl (dk_X6_read 12 _ rfl) ?_
                refine J_iload_n (i := 1) (a := 1) rfl rfl (dk_X6_read 15 _ rfl) ?_
                refine J_aald (by decide) rfl (by decide) rfl (dk_X6_read 16 _ rfl) ?_
                refine J_astore_n (i := 3) (a := 3) rfl (by decide) (dk_X6_read 17 _ rfl) ?_
                show J _ _ _ _ _ _ _ _ [(3, .ref 86), (0, .ref 0), (1, .int 2), (2, .int i)] _ _ _
                refine J_iload_n (i := 2) (a := 2) rfl rfl (dk_X6_read 18 _ rfl) ?_
                refine J_ifF (tgt := 30) (by decide) (dk_X6_read 19 _ rfl) (jI_nlt (rfl : (i : Int32).toInt = (i : Int32).toInt) (by decide : (0 : Int32).toInt = 0) (by omega)) ?_
                refine J_iload_n (i := 2) (a := 2) rfl rfl (dk_X6_read 22 _ rfl) ?_
                refine J_aload_n (i := 3) (a := 3) rfl rfl (dk_X6_read 23 _ rfl) ?_
                refine J_getf fl_6_226 rfl rfl (dk_X6_read 24 _ rfl) ?_
                refine J_icF (tgt := 36) (by decide) (dk_X6_read 27 _ rfl) (jI_nlt (rfl : (i : Int32).toInt = (i : Int32).toInt) (by decide : (0 : Int32).toInt = 0) (by omega)) ?_
                refine J_ldc2 (v := (-9223372036854775808)) ctl_6_203 (dk_X6_read 30 _ rfl) ?_
                refine J_goto (tgt := 42) (by decide) (dk_X6_read 33 _ rfl) ?_
                exact J_lret rfl (dk_X6_read 42 _ rfl) ⟨rfl, rfl⟩
              · refine jCt_of ok_X7_read (fun _ _ => Nat.le_of_ble_eq_true rfl) (fun _ _ hq => Nat.le_of_eq (lM.trans hq.2.symm)) ?_
                show J _ _ _ _ _ _ _ _ [(0, .ref 0), (1, .int 2), (2, .int i)] _ _ _
                refine J_aload_n (i := 0) (a := 0) rfl rfl (dk_X7_read 0 _ rfl) ?_
                refine J_iload_n (i := 1) (a := 1) rfl rfl (dk_X7_read 1 _ rfl) ?_
                refine J_cV (rv := some (.int 1)) (h' := hM0) (d' := 11) (As := [.int 2]) ok_X7_isTape vi_X7_isTape cl_7_354 (n := 1) (by decide +kernel) rfl rfl rfl rfl (by decide) (by decide) (dk_X7_read 2 _ rfl) ?_ ?_
                · refine jCt_of ok_X7_isTape (fun _ _ => Nat.le_of_ble_eq_true rfl) (fun _ _ hq => by rw [hq.2]; first | exact Nat.le_refl _ | simp) ?_
                  show J _ _ _ _ _ _ _ _ [(0, .ref 0), (1, .int 2)] _ _ _
                  refine J_aload_n (i := 0) (a := 0) rfl rfl (dk_X7_isTape 0 _ rfl) ?_
                  refine J_iload_n (i := 1) (a := 1) rfl rfl (dk_X7_isTape 1 _ rfl) ?_
                  refine J_iconst (v := 0) (by decide) (dk_X7_isTape 2 _ rfl) ?_
                  refine J_iconst (v := 5) (by decide) (dk_X7_isTape 3 _ rfl) ?_
                  refine J_cV (rv := some (.int 1)) (h' := hM0) (d' := 10) (As := [.int 2, .int 0, .int 5]) ok_X7_in vi_X7_in cl_7_194 (n := 3) (by decide +kernel) rfl rfl rfl rfl (by decide) (by decide) (dk_X7_isTape 4 _ rfl) ?_ ?_
                  · refine jCt_of ok_X7_in (fun _ _ => Nat.le_of_ble_eq_true rfl) (fun _ _ hq => by rw [hq.2]; first | exact Nat.le_refl _ | simp) ?_
                    show J _ _ _ _ _ _ _ _ [(0, .ref 0), (1, .int 2), (2, .int 0), (3, .int 5)] _ _ _
                    refine J_iload_n (i := 1) (a := 1) rfl rfl (dk_X7_in 0 _ rfl) ?_
                    refine J_iload_n (i := 2) (a := 2) rfl rfl (dk_X7_in 1 _ rfl) ?_
                    refine J_icF (tgt := 14) (by decide) (dk_X7_in 2 _ rfl) (jI_nlt (by decide : (2 : Int32).toInt = 2) (by decide : (0 : Int32).toInt = 0) (by omega)) ?_
                    refine J_iload_n (i := 1) (a := 1) rfl rfl (dk_X7_in 5 _ rfl) ?_
                    refine J_iload_n (i := 3) (a := 3) rfl rfl (dk_X7_in 6 _ rfl) ?_
                    refine J_icF (tgt := 14) (by decide) (dk_X7_in 7 _ rfl) (jI_nlt (by decide : (5 : Int32).toInt = 5) (by decide : (2 : Int32).toInt = 2) (by omega)) ?_
                    refine J_iconst (v := 1) (by decide) (dk_X7_in 10 _ rfl) ?_
                    refine J_goto (tgt := 15) (by decide) (dk_X7_in 11 _ rfl) ?_
                    exact J_iret rfl rfl (dk_X7_in 15 _ rfl) ⟨rfl, rfl⟩
                  show J _ _ _ _ _ _ _ _ _ [.int 1] _ _
                  exact J_iret rfl rfl (dk_X7_isTape 7 _ rfl) ⟨rfl, rfl⟩
                show J _ _ _ _ _ _ _ _ _ [.int 1] _ _
                refine J_ifF (tgt := 34) (by decide) (dk_X7_read 5 _ rfl) (jI_ne (by decide : (1 : Int32).toInt = 1) (by decide : (0 : Int32).toInt = 0) (by omega)) ?_
                refine J_aload_n (i := 0) (a := 0) rfl rfl (dk_X7_read 8 _ rfl) ?_
                refine J_getf fl_7_181 rfl rfl (dk_X7_read 9 _ rfl) ?_
                refine J_iload_n (i := 1) (a := 1) rfl rfl (dk_X7_read 12 _ rfl) ?_
                refine J_iald rfl (by decide) rfl (dk_X7_read 13 _ rfl) ?_
                refine J_ifT (tgt := 34) (by decide) (dk_X7_read 14 _ rfl) (jI_lt (by decide : ((-1) : Int32).toInt = (-1)) (by decide : (0 : Int32).toInt = 0) (by omega)) ?_
                refine J_ldc2 (v := (-9223372036854775808)) ctl_7_345 (dk_X7_read 34 _ rfl) ?_
                refine J_goto (tgt := 51) (by decide) (dk_X7_read 37 _ rfl) ?_
                exact J_lret rfl (dk_X7_read 51 _ rfl) ⟨rfl, rfl⟩
          · by_cases c9 : (t : Int32).toInt = 3
            · obtain rfl : t = 3 := jI_eq rfl (by decide) c9
              by_cases c10 : (i : Int32).toInt < 0
              · refine ⟨(-9223372036854775808), ?_, ?_⟩
                · refine jCt_of ok_X6_read (fun _ _ => Nat.le_of_ble_eq_true rfl) (fun _ _ hq => Nat.le_of_eq (lX.trans hq.2.symm)) ?_
                  show J _ _ _ _ _ _ _ _ [(0, .ref 0), (1, .int 3), (2, .int i)] _ _ _
                  refine J_iload_n (i := 1) (a := 1) rfl rfl (dk_X6_read 0 _ rfl) ?_
                  refine J_cS (rv := some (.int 1)) (h' := hN0) (d' := 11) (As := [.int 3]) ok_X6_isTape st_X6_isTape cl_6_220 rfl (n := 1) (by decide +kernel) rfl (by decide) (by decide) (dk_X6_read 1 _ rfl) ?_ ?_
                  · refine jCt_of ok_X6_isTape (fun _ _ => Nat.le_of_ble_eq_true rfl) (fun _ _ hq => by rw [hq.2]; first | exact Nat.le_refl _ | simp) ?_
                    show J _ _ _ _ _ _ _ _ [(0, .int 3)] _ _ _
                    refine J_iload_n (i := 0) (a := 0) rfl rfl (dk_X6_isTape 0 _ rfl) ?_
                    refine J_ifF (tgt := 14) (by decide) (dk_X6_isTape 1 _ rfl) (jI_nlt (by decide : (3 : Int32).toInt = 3) (by decide : (0 : Int32).toInt = 0) (by omega)) ?_
                    refine J_iload_n (i := 0) (a := 0) rfl rfl (dk_X6_isTape 4 _ rfl) ?_
                    refine J_bipush (v := 6) (by decide) (dk_X6_isTape 5 _ rfl) ?_
                    refine J_icF (tgt := 14) (by decide) (dk_X6_isTape 7 _ rfl) (jI_nle (by decide : (6 : Int32).toInt = 6) (by decide : (3 : Int32).toInt = 3) (by omega)) ?_
                    refine J_iconst (v := 1) (by decide) (dk_X6_isTape 10 _ rfl) ?_
                    refine J_goto (tgt := 15) (by decide) (dk_X6_isTape 11 _ rfl) ?_
                    exact J_iret rfl rfl (dk_X6_isTape 15 _ rfl) ⟨rfl, rfl⟩
                  show J _ _ _ _ _ _ _ _ _ [.int 1] _ _
                  refine J_ifT (tgt := 11) (by decide) (dk_X6_read 4 _ rfl) (jI_ne (by decide : (1 : Int32).toInt = 1) (by decide : (0 : Int32).toInt = 0) (by omega)) ?_
                  refine J_aload_n (i := 0) (a := 0) rfl rfl (dk_X6_read 11 _ rfl) ?_
                  refine J_getf fl_6_37 rfl rfl (dk_X6_read 12 _ rfl) ?_
                  refine J_iload_n (i := 1) (a := 1) rfl rfl (dk_X6_read 15 _ rfl) ?_
                  refine J_aald (by decide) rfl (by decide) rfl (dk_X6_read 16 _ rfl) ?_
                  refine J_astore_n (i := 3) (a := 3) rfl (by decide) (dk_X6_read 17 _ rfl) ?_
                  show J _ _ _ _ _ _ _ _ [(3, .ref 88), (0, .ref 0), (1, .int 3), (2, .int i)] _ _ _
                  refine J_iload_n (i := 2) (a := 2) rfl rfl (dk_X6_read 18 _ rfl) ?_
                  refine J_ifT (tgt := 30) (by decide) (dk_X6_read 19 _ rfl) (jI_lt (rfl : (i : Int32).toInt = (i : Int32).toInt) (by decide : (0 : Int32).toInt = 0) (by omega)) ?_
                  refine J_ldc2 (v := (-9223372036854775808)) ctl_6_203 (dk_X6_read 30 _ rfl) ?_
                  refine J_goto (tgt := 42) (by decide) (dk_X6_read 33 _ rfl) ?_
                  exact J_lret rfl (dk_X6_read 42 _ rfl) ⟨rfl, rfl⟩
                · refine jCt_of ok_X7_read (fun _ _ => Nat.le_of_ble_eq_true rfl) (fun _ _ hq => Nat.le_of_eq (lM.trans hq.2.symm)) ?_
                  show J _ _ _ _ _ _ _ _ [(0, .ref 0), (1, .int 3), (2, .int i)] _ _ _
                  refine J_aload_n (i := 0) (a := 0) rfl rfl (dk_X7_read 0 _ rfl) ?_
                  refine J_iload_n (i := 1) (a := 1) rfl rfl (dk_X7_read 1 _ rfl) ?_
                  refine J_cV (rv := some (.int 1)) (h' := hM0) (d' := 11) (As := [.int 3]) ok_X7_isTape vi_X7_isTape cl_7_354 (n := 1) (by decide +kernel) rfl rfl rfl rfl (by decide) (by decide) (dk_X7_read 2 _ rfl) ?_ ?_
                  · refine jCt_of ok_X7_isTape (fun _ _ => Nat.le_of_ble_eq_true rfl) (fun _ _ hq => by rw [hq.2]; first | exact Nat.le_refl _ | simp) ?_
                    show J _ _ _ _ _ _ _ _ [(0, .ref 0), (1, .int 3)] _ _ _
                    refine J_aload_n (i := 0) (a := 0) rfl rfl (dk_X7_isTape 0 _ rfl) ?_
                    refine J_iload_n (i := 1) (a := 1) rfl rfl (dk_X7_isTape 1 _ rfl) ?_
                    refine J_iconst (v := 0) (by decide) (dk_X7_isTape 2 _ rfl) ?_
                    refine J_iconst (v := 5) (by decide) (dk_X7_isTape 3 _ rfl) ?_
                    refine J_cV (rv := some (.int 1)) (h' := hM0) (d' := 10) (As := [.int 3, .int 0, .int 5]) ok_X7_in vi_X7_in cl_7_194 (n := 3) (by decide +kernel) rfl rfl rfl rfl (by decide) (by decide) (dk_X7_isTape 4 _ rfl) ?_ ?_
                    · refine jCt_of ok_X7_in (fun _ _ => Nat.le_of_ble_eq_true rfl) (fun _ _ hq => by rw [hq.2]; first | exact Nat.le_refl _ | simp) ?_
                      show J _ _ _ _ _ _ _ _ [(0, .ref 0), (1, .int 3), (2, .int 0), (3, .int 5)] _ _ _
                      refine J_iload_n (i := 1) (a := 1) rfl rfl (dk_X7_in 0 _ rfl) ?_
                      refine J_iload_n (i := 2) (a := 2) rfl rfl (dk_X7_in 1 _ rfl) ?_
                      refine J_icF (tgt := 14) (by decide) (dk_X7_in 2 _ rfl) (jI_nlt (by decide : (3 : Int32).toInt = 3) (by decide : (0 : Int32).toInt = 0) (by omega)) ?_
                      refine J_iload_n (i := 1) (a := 1) rfl rfl (dk_X7_in 5 _ rfl) ?_
                      refine J_iload_n (i := 3) (a := 3) rfl rfl (dk_X7_in 6 _ rfl) ?_
                      refine J_icF (tgt := 14) (by decide) (dk_X7_in 7 _ rfl) (jI_nlt (by decide : (5 : Int32).toInt = 5) (by decide : (3 : Int32).toInt = 3) (by omega)) ?_
                      refine J_iconst (v := 1) (by decide) (dk_X7_in 10 _ rfl) ?_
                      refine J_goto (tgt := 15) (by decide) (dk_X7_in 11 _ rfl) ?_
                      exact J_iret rfl rfl (dk_X7_in 15 _ rfl) ⟨rfl, rfl⟩
                    show J _ _ _ _ _ _ _ _ _ [.int 1] _ _
                    exact J_iret rfl rfl (dk_X7_isTape 7 _ rfl) ⟨rfl, rfl⟩
                  show J _ _ _ _ _ _ _ _ _ [.int 1] _ _
                  refine J_ifF (tgt := 34) (by decide) (dk_X7_read 5 _ rfl) (jI_ne (by decide : (1 : Int32).toInt = 1) (by decide : (0 : Int32).toInt = 0) (by omega)) ?_
                  refine J_aload_n (i := 0) (a := 0) rfl rfl (dk_X7_read 8 _ rfl) ?_
                  refine J_getf fl_7_181 rfl rfl (dk_X7_read 9 _ rfl) ?_
                  refine J_iload_n (i := 1) (a := 1) rfl rfl (dk_X7_read 12 _ rfl) ?_
                  refine J_iald rfl (by decide) rfl (dk_X7_read 13 _ rfl) ?_
                  refine J_ifT (tgt := 34) (by decide) (dk_X7_read 14 _ rfl) (jI_lt (by decide : ((-1) : Int32).toInt = (-1)) (by decide : (0 : Int32).toInt = 0) (by omega)) ?_
                  refine J_ldc2 (v := (-9223372036854775808)) ctl_7_345 (dk_X7_read 34 _ rfl) ?_
                  refine J_goto (tgt := 51) (by decide) (dk_X7_read 37 _ rfl) ?_
                  exact J_lret rfl (dk_X7_read 51 _ rfl) ⟨rfl, rfl⟩
              · refine ⟨(-9223372036854775808), ?_, ?_⟩
                · refine jCt_of ok_X6_read (fun _ _ => Nat.le_of_ble_eq_true rfl) (fun _ _ hq => Nat.le_of_eq (lX.trans hq.2.symm)) ?_
                  show J _ _ _ _ _ _ _ _ [(0, .ref 0), (1, .int 3), (2, .int i)] _ _ _
                  refine J_iload_n (i := 1) (a := 1) rfl rfl (dk_X6_read 0 _ rfl) ?_
                  refine J_cS (rv := some (.int 1)) (h' := hN0) (d' := 11) (As := [.int 3]) ok_X6_isTape st_X6_isTape cl_6_220 rfl (n := 1) (by decide +kernel) rfl (by decide) (by decide) (dk_X6_read 1 _ rfl) ?_ ?_
                  · refine jCt_of ok_X6_isTape (fun _ _ => Nat.le_of_ble_eq_true rfl) (fun _ _ hq => by rw [hq.2]; first | exact Nat.le_refl _ | simp) ?_
                    show J _ _ _ _ _ _ _ _ [(0, .int 3)] _ _ _
                    refine J_iload_n (i := 0) (a := 0) rfl rfl (dk_X6_isTape 0 _ rfl) ?_
                    refine J_ifF (tgt := 14) (by decide) (dk_X6_isTape 1 _ rfl) (jI_nlt (by decide : (3 : Int32).toInt = 3) (by decide : (0 : Int32).toInt = 0) (by omega)) ?_
                    refine J_iload_n (i := 0) (a := 0) rfl rfl (dk_X6_isTape 4 _ rfl) ?_
                    refine J_bipush (v := 6) (by decide) (dk_X6_isTape 5 _ rfl) ?_
                    refine J_icF (tgt := 14) (by decide) (dk_X6_isTape 7 _ rfl) (jI_nle (by decide : (6 : Int32).toInt = 6) (by decide : (3 : Int32).toInt = 3) (by omega)) ?_
                    refine J_iconst (v := 1) (by decide) (dk_X6_isTape 10 _ rfl) ?_
                    refine J_goto (tgt := 15) (by decide) (dk_X6_isTape 11 _ rfl) ?_
                    exact J_iret rfl rfl (dk_X6_isTape 15 _ rfl) ⟨rfl, rfl⟩
                  show J _ _ _ _ _ _ _ _ _ [.int 1] _ _
                  refine J_ifT (tgt := 11) (by decide) (dk_X6_read 4 _ rfl) (jI_ne (by decide : (1 : Int32).toInt = 1) (by decide : (0 : Int32).toInt = 0) (by omega)) ?_
                  refine J_aload_n (i := 0) (a := 0) rfl rfl (dk_X6_read 11 _ rfl) ?_
                  refine J_getf fl_6_37 rfl rfl (dk_X6_read 12 _ rfl) ?_
                  refine J_iload_n (i := 1) (a := 1) rfl rfl (dk_X6_read 15 _ rfl) ?_
                  refine J_aald (by decide) rfl (by decide) rfl (dk_X6_read 16 _ rfl) ?_
                  refine J_astore_n (i := 3) (a := 3) rfl (by decide) (dk_X6_read 17 _ rfl) ?_
                  show J _ _ _ _ _ _ _ _ [(3, .ref 88), (0, .ref 0), (1, .int 3), (2, .int i)] _ _ _
                  refine J_iload_n (i := 2) (a := 2) rfl rfl (dk_X6_read 18 _ rfl) ?_
                  refine J_ifF (tgt := 30) (by decide) (dk_X6_read 19 _ rfl) (jI_nlt (rfl : (i : Int32).toInt = (i : Int32).toInt) (by decide : (0 : Int32).toInt = 0) (by omega)) ?_
                  refine J_iload_n (i := 2) (a := 2) rfl rfl (dk_X6_read 22 _ rfl) ?_
                  refine J_aload_n (i := 3) (a := 3) rfl rfl (dk_X6_read 23 _ rfl) ?_
                  refine J_getf fl_6_226 rfl rfl (dk_X6_read 24 _ rfl) ?_
                  refine J_icF (tgt := 36) (by decide) (dk_X6_read 27 _ rfl) (jI_nlt (rfl : (i : Int32).toInt = (i : Int32).toInt) (by decide : (0 : Int32).toInt = 0) (by omega)) ?_
                  refine J_ldc2 (v := (-9223372036854775808)) ctl_6_203 (dk_X6_read 30 _ rfl) ?_
                  refine J_goto (tgt := 42) (by decide) (dk_X6_read 33 _ rfl) ?_
                  exact J_lret rfl (dk_X6_read 42 _ rfl) ⟨rfl, rfl⟩
                · refine jCt_of ok_X7_read (fun _ _ => Nat.le_of_ble_eq_true rfl) (fun _ _ hq => Nat.le_of_eq (lM.trans hq.2.symm)) ?_
                  show J _ _ _ _ _ _ _ _ [(0, .ref 0), (1, .int 3), (2, .int i)] _ _ _
                  refine J_aload_n (i := 0) (a := 0) rfl rfl (dk_X7_read 0 _ rfl) ?_
                  refine J_iload_n (i := 1) (a := 1) rfl rfl (dk_X7_read 1 _ rfl) ?_
                  refine J_cV (rv := some (.int 1)) (h' := hM0) (d' := 11) (As := [.int 3]) ok_X7_isTape vi_X7_isTape cl_7_354 (n := 1) (by decide +kernel) rfl rfl rfl rfl (by decide) (by decide) (dk_X7_read 2 _ rfl) ?_ ?_
                  · refine jCt_of ok_X7_isTape (fun _ _ => Nat.le_of_ble_eq_true rfl) (fun _ _ hq => by rw [hq.2]; first | exact Nat.le_refl _ | simp) ?_
                    show J _ _ _ _ _ _ _ _ [(0, .ref 0), (1, .int 3)] _ _ _
                    refine J_aload_n (i := 0) (a := 0) rfl rfl (dk_X7_isTape 0 _ rfl) ?_
                    refine J_iload_n (i := 1) (a := 1) rfl rfl (dk_X7_isTape 1 _ rfl) ?_
                    refine J_iconst (v := 0) (by decide) (dk_X7_isTape 2 _ rfl) ?_
                    refine J_iconst (v := 5) (by decide) (dk_X7_isTape 3 _ rfl) ?_
                    refine J_cV (rv := some (.int 1)) (h' := hM0) (d' := 10) (As := [.int 3, .int 0, .int 5]) ok_X7_in vi_X7_in cl_7_194 (n := 3) (by decide +kernel) rfl rfl rfl rfl (by decide) (by decide) (dk_X7_isTape 4 _ rfl) ?_ ?_
                    · refine jCt_of ok_X7_in (fun _ _ => Nat.le_of_ble_eq_true rfl) (fun _ _ hq => by rw [hq.2]; first | exact Nat.le_refl _ | simp) ?_
                      show J _ _ _ _ _ _ _ _ [(0, .ref 0), (1, .int 3), (2, .int 0), (3, .int 5)] _ _ _
                      refine J_iload_n (i := 1) (a := 1) rfl rfl (dk_X7_in 0 _ rfl) ?_
                      refine J_iload_n (i := 2) (a := 2) rfl rfl (dk_X7_in 1 _ rfl) ?_
                      refine J_icF (tgt := 14) (by decide) (dk_X7_in 2 _ rfl) (jI_nlt (by decide : (3 : Int32).toInt = 3) (by decide : (0 : Int32).toInt = 0) (by omega)) ?_
                      refine J_iload_n (i := 1) (a := 1) rfl rfl (dk_X7_in 5 _ rfl) ?_
                      refine J_iload_n (i := 3) (a := 3) rfl rfl (dk_X7_in 6 _ rfl) ?_
                      refine J_icF (tgt := 14) (by decide) (dk_X7_in 7 _ rfl) (jI_nlt (by decide : (5 : Int32).toInt = 5) (by decide : (3 : Int32).toInt = 3) (by omega)) ?_
                      refine J_iconst (v := 1) (by decide) (dk_X7_in 10 _ rfl) ?_
                      refine J_goto (tgt := 15) (by decide) (dk_X7_in 11 _ rfl) ?_
                      exact J_iret rfl rfl (dk_X7_in 15 _ rfl) ⟨rfl, rfl⟩
                    show J _ _ _ _ _ _ _ _ _ [.int 1] _ _
                    exact J_iret rfl rfl (dk_X7_isTape 7 _ rfl) ⟨rfl, rfl⟩
                  show J _ _ _ _ _ _ _ _ _ [.int 1] _ _
                  refine J_ifF (tgt := 34) (by decide) (dk_X7_read 5 _ rfl) (jI_ne (by decide : (1 : Int32).toInt = 1) (by decide : (0 : Int32).toInt = 0) (by omega)) ?_
                  refine J_aload_n (i := 0) (a := 0) rfl rfl (dk_X7_read 8 _ rfl) ?_
                  refine J_getf fl_7_181 rfl rfl (dk_X7_read 9 _ rfl) ?_
                  refine J_iload_n (i := 1) (a := 1) rfl rfl (dk_X7_read 12 _ rfl) ?_
                  refine J_iald rfl (by decide) rfl (dk_X7_read 13 _ rfl) ?_
                  refine J_ifT (tgt := 34) (by decide) (dk_X7_read 14 _ rfl) (jI_lt (by decide : ((-1) : Int32).toInt = (-1)) (by decide : (0 : Int32).toInt = 0) (by omega)) ?_
                  refine J_ldc2 (v := (-9223372036854775808)) ctl_7_345 (dk_X7_read 34 _ rfl) ?_
                  refine J_goto (tgt := 51) (by decide) (dk_X7_read 37 _ rfl) ?_
                  exact J_lret rfl (dk_X7_read 51 _ rfl) ⟨rfl, rfl⟩
            · by_cases c11 : (t : Int32).toInt = 4
              · obtain rfl : t = 4 := jI_eq rfl (by decide) c11
                by_cases c12 : (i : Int32).toInt < 0
                · refine ⟨(-9223372036854775808), ?_, ?_⟩
                  · refine jCt_of ok_X6_read (fun _ _ => Nat.le_of_ble_eq_true rfl) (fun _ _ hq => Nat.le_of_eq (lX.trans hq.2.symm)) ?_
                    show J _ _ _ _ _ _ _ _ [(0, .ref 0), (1, .int 4), (2, .int i)] _ _ _
                    refine J_iload_n (i := 1) (a := 1) rfl rfl (dk_X6_read 0 _ rfl) ?_
                    refine J_cS (rv := some (.int 1)) (h' := hN0) (d' := 11) (As := [.int 4]) ok_X6_isTape st_X6_isTape cl_6_220 rfl (n := 1) (by decide +kernel) rfl (by decide) (by decide) (dk_X6_read 1 _ rfl) ?_ ?_
                    · refine jCt_of ok_X6_isTape (fun _ _ => Nat.le_of_ble_eq_true rfl) (fun _ _ hq => by rw [hq.2]; first | exact Nat.le_refl _ | simp) ?_
                      show J _ _ _ _ _ _ _ _ [(0, .int 4)] _ _ _
                      refine J_iload_n (i := 0) (a := 0) rfl rfl (dk_X6_isTape 0 _ rfl) ?_
                      refine J_ifF (tgt := 14) (by decide) (dk_X6_isTape 1 _ rfl) (jI_nlt (by decide : (4 : Int32).toInt = 4) (by decide : (0 : Int32).toInt = 0) (by omega)) ?_
                      refine J_iload_n (i := 0) (a := 0) rfl rfl (dk_X6_isTape 4 _ rfl) ?_
                      refine J_bipush (v := 6) (by decide) (dk_X6_isTape 5 _ rfl) ?_
                      refine J_icF (tgt := 14) (by decide) (dk_X6_isTape 7 _ rfl) (jI_nle (by decide : (6 : Int32).toInt = 6) (by decide : (4 : Int32).toInt = 4) (by omega)) ?_
                      refine J_iconst (v := 1) (by decide) (dk_X6_isTape 10 _ rfl) ?_
                      refine J_goto (tgt := 15) (by decide) (dk_X6_isTape 11 _ rfl) ?_
                      exact J_iret rfl rfl (dk_X6_isTape 15 _ rfl) ⟨rfl, rfl⟩
                    show J _ _ _ _ _ _ _ _ _ [.int 1] _ _
                    refine J_ifT (tgt := 11) (by decide) (dk_X6_read 4 _ rfl) (jI_ne (by decide : (1 : Int32).toInt = 1) (by decide : (0 : Int32).toInt = 0) (by omega)) ?_
                    refine J_aload_n (i := 0) (a := 0) rfl rfl (dk_X6_read 11 _ rfl) ?_
                    refine J_getf fl_6_37 rfl rfl (dk_X6_read 12 _ rfl) ?_
                    refine J_iload_n (i := 1) (a := 1) rfl rfl (dk_X6_read 15 _ rfl) ?_
                    refine J_aald (by decide) rfl (by decide) rfl (dk_X6_read 16 _ rfl) ?_
                    refine J_astore_n (i := 3) (a := 3) rfl (by decide) (dk_X6_read 17 _ rfl) ?_
                    show J _ _ _ _ _ _ _ _ [(3, .ref 90), (0, .ref 0), (1, .int 4), (2, .int i)] _ _ _
                    refine J_iload_n (i := 2) (a := 2) rfl rfl (dk_X6_read 18 _ rfl) ?_
                    refine J_ifT (tgt := 30) (by decide) (dk_X6_read 19 _ rfl) (jI_lt (rfl : (i : Int32).toInt = (i : Int32).toInt) (by decide : (0 : Int32).toInt = 0) (by omega)) ?_
                    refine J_ldc2 (v := (-9223372036854775808)) ctl_6_203 (dk_X6_read 30 _ rfl) ?_
                    refine J_goto (tgt := 42) (by decide) (dk_X6_read 33 _ rfl) ?_
                    exact J_lret rfl (dk_X6_read 42 _ rfl) ⟨rfl, rfl⟩
                  · refine jCt_of ok_X7_read (fun _ _ => Nat.le_of_ble_eq_true rfl) (fun _ _ hq => Nat.le_of_eq (lM.trans hq.2.symm)) ?_
                    show J _ _ _ _ _ _ _ _ [(0, .ref 0), (1, .int 4), (2, .int i)] _ _ _
                    refine J_aload_n (i := 0) (a := 0) rfl rfl (dk_X7_read 0 _ rfl) ?_
                    refine J_iload_n (i := 1) (a := 1) rfl rfl (dk_X7_read 1 _ rfl) ?_
                    refine J_cV (rv := some (.int 1)) (h' := hM0) (d' := 11) (As := [.int 4]) ok_X7_isTape vi_X7_isTape cl_7_354 (n := 1) (by decide +kernel) rfl rfl rfl rfl (by decide) (by decide) (dk_X7_read 2 _ rfl) ?_ ?_
                    · refine jCt_of ok_X7_isTape (fun _ _ => Nat.le_of_ble_eq_true rfl) (fun _ _ hq => by rw [hq.2]; first | exact Nat.le_refl _ | simp) ?_
                      show J _ _ _ _ _ _ _ _ [(0, .ref 0), (1, .int 4)] _ _ _
                      refine J_aload_n (i := 0) (a := 0) rfl rfl (dk_X7_isTape 0 _ rfl) ?_
                      refine J_iload_n (i := 1) (a := 1) rfl rfl (dk_X7_isTape 1 _ rfl) ?_
                      refine J_iconst (v := 0) (by decide) (dk_X7_isTape 2 _ rfl) ?_
                      refine J_iconst (v := 5) (by decide) (dk_X7_isTape 3 _ rfl) ?_
                      refine J_cV (rv := some (.int 1)) (h' := hM0) (d' := 10) (As := [.int 4, .int 0, .int 5]) ok_X7_in vi_X7_in cl_7_194 (n := 3) (by decide +kernel) rfl rfl rfl rfl (by decide) (by decide) (dk_X7_isTape 4 _ rfl) ?_ ?_
                      · refine jCt_of ok_X7_in (fun _ _ => Nat.le_of_ble_eq_true rfl) (fun _ _ hq => by rw [hq.2]; first | exact Nat.le_refl _ | simp) ?_
                        show J _ _ _ _ _ _ _ _ [(0, .ref 0), (1, .int 4), (2, .int 0), (3, .int 5)] _ _ _
                        refine J_iload_n (i := 1) (a := 1) rfl rfl (dk_X7_in 0 _ rfl) ?_
                        refine J_iload_n (i := 2) (a := 2) rfl rfl (dk_X7_in 1 _ rfl) ?_
                        refine J_icF (tgt := 14) (by decide) (dk_X7_in 2 _ rfl) (jI_nlt (by decide : (4 : Int32).toInt = 4) (by decide : (0 : Int32).toInt = 0) (by omega)) ?_
                        refine J_iload_n (i := 1) (a := 1) rfl rfl (dk_X7_in 5 _ rfl) ?_
                        refine J_iload_n (i := 3) (a := 3) rfl rfl (dk_X7_in 6 _ rfl) ?_
                        refine J_icF (tgt := 14) (by decide) (dk_X7_in 7 _ rfl) (jI_nlt (by decide : (5 : Int32).toInt = 5) (by decide : (4 : Int32).toInt = 4) (by omega)) ?_
                        refine J_iconst (v := 1) (by decide) (dk_X7_in 10 _ rfl) ?_
                        refine J_goto (tgt := 15) (by decide) (dk_X7_in 11 _ rfl) ?_
                        exact J_iret rfl rfl (dk_X7_in 15 _ rfl) ⟨rfl, rfl⟩
                      show J _ _ _ _ _ _ _ _ _ [.int 1] _ _
                      exact J_iret rfl rfl (dk_X7_isTape 7 _ rfl) ⟨rfl, rfl⟩
                    show J _ _ _ _ _ _ _ _ _ [.int 1] _ _
                    refine J_ifF (tgt := 34) (by decide) (dk_X7_read 5 _ rfl) (jI_ne (by decide : (1 : Int32).toInt = 1) (by decide : (0 : Int32).toInt = 0) (by omega)) ?_
                    refine J_aload_n (i := 0) (a := 0) rfl rfl (dk_X7_read 8 _ rfl) ?_
                    refine J_getf fl_7_181 rfl rfl (dk_X7_read 9 _ rfl) ?_
                    refine J_iload_n (i := 1) (a := 1) rfl rfl (dk_X7_read 12 _ rfl) ?_
                    refine J_iald rfl (by decide) rfl (dk_X7_read 13 _ rfl) ?_
                    refine J_ifT (tgt := 34) (by decide) (dk_X7_read 14 _ rfl) (jI_lt (by decide : ((-1) : Int32).toInt = (-1)) (by decide : (0 : Int32).toInt = 0) (by omega)) ?_
                    refine J_ldc2 (v := (-9223372036854775808)) ctl_7_345 (dk_X7_read 34 _ rfl) ?_
                    refine J_goto (tgt := 51) (by decide) (dk_X7_read 37 _ rfl) ?_
                    exact J_lret rfl (dk_X7_read 51 _ rfl) ⟨rfl, rfl⟩
                · refine ⟨(-9223372036854775808), ?_, ?_⟩
                  · refine jCt_of ok_X6_read (fun _ _ => Nat.le_of_ble_eq_true rfl) (fun _ _ hq => Nat.le_of_eq (lX.trans hq.2.symm)) ?_
                    show J _ _ _ _ _ _ _ _ [(0, .ref 0), (1, .int 4), (2, .int i)] _ _ _
                    refine J_iload_n (i := 1) (a := 1) rfl rfl (dk_X6_read 0 _ rfl) ?_
                    refine J_cS (rv := some (.int 1)) (h' := hN0) (d' := 11) (As := [.int 4]) ok_X6_isTape st_X6_isTape cl_6_220 rfl (n := 1) (by decide +kernel) rfl (by decide) (by decide) (dk_X6_read 1 _ rfl) ?_ ?_
                    · refine jCt_of ok_X6_isTape (fun _ _ => Nat.le_of_ble_eq_true rfl) (fun _ _ hq => by rw [hq.2]; first | exact Nat.le_refl _ | simp) ?_
                      show J _ _ _ _ _ _ _ _ [(0, .int 4)] _ _ _
                      refine J_iload_n (i := 0) (a := 0) rfl rfl (dk_X6_isTape 0 _ rfl) ?_
                      refine J_ifF (tgt := 14) (by decide) (dk_X6_isTape 1 _ rfl) (jI_nlt (by decide : (4 : Int32).toInt = 4) (by decide : (0 : Int32).toInt = 0) (by omega)) ?_
                      refine J_iload_n (i := 0) (a := 0) rfl rfl (dk_X6_isTape 4 _ rfl) ?_
                      refine J_bipush (v := 6) (by decide) (dk_X6_isTape 5 _ rfl) ?_
                      refine J_icF (tgt := 14) (by decide) (dk_X6_isTape 7 _ rfl) (jI_nle (by decide : (6 : Int32).toInt = 6) (by decide : (4 : Int32).toInt = 4) (by omega)) ?_
                      refine J_iconst (v := 1) (by decide) (dk_X6_isTape 10 _ rfl) ?_
                      refine J_goto (tgt := 15) (by decide) (dk_X6_isTape 11 _ rfl) ?_
                      exact J_iret rfl rfl (dk_X6_isTape 15 _ rfl) ⟨rfl, rfl⟩
                    show J _ _ _ _ _ _ _ _ _ [.int 1] _ _
                    refine J_ifT (tgt := 11) (by decide) (dk_X6_read 4 _ rfl) (jI_ne (by decide : (1 : Int32).toInt = 1) (by decide : (0 : Int32).toInt = 0) (by omega)) ?_
                    refine J_aload_n (i := 0) (a := 0) rfl rfl (dk_X6_read 11 _ rfl) ?_
                    refine J_getf fl_6_37 rfl rfl (dk_X6_read 12 _ rfl) ?_
                    refine J_iload_n (i := 1) (a := 1) rfl rfl (dk_X6_read 15 _ rfl) ?_
                    refine J_aald (by decide) rfl (by decide) rfl (dk_X6_read 16 _ rfl) ?_
                    refine J_astore_n (i := 3) (a := 3) rfl (by decide) (dk_X6_read 17 _ rfl) ?_
                    show J _ _ _ _ _ _ _ _ [(3, .ref 90), (0, .ref 0), (1, .int 4), (2, .int i)] _ _ _
                    refine J_iload_n (i := 2) (a := 2) rfl rfl (dk_X6_read 18 _ rfl) ?_
                    refine J_ifF (tgt := 30) (by decide) (dk_X6_read 19 _ rfl) (jI_nlt (rfl : (i : Int32).toInt = (i : Int32).toInt) (by decide : (0 : Int32).toInt = 0) (by omega)) ?_
                    refine J_iload_n (i := 2) (a := 2) rfl rfl (dk_X6_read 22 _ rfl) ?_
                    refine J_aload_n (i := 3) (a := 3) rfl rfl (dk_X6_read 23 _ rfl) ?_
                    refine J_getf fl_6_226 rfl rfl (dk_X6_read 24 _ rfl) ?_
                    refine J_icF (tgt := 36) (by decide) (dk_X6_read 27 _ rfl) (jI_nlt (rfl : (i : Int32).toInt = (i : Int32).toInt) (by decide : (0 : Int32).toInt = 0) (by omega)) ?_
                    refine J_ldc2 (v := (-9223372036854775808)) ctl_6_203 (dk_X6_read 30 _ rfl) ?_
                    refine J_goto (tgt := 42) (by decide) (dk_X6_read 33 _ rfl) ?_
                    exact J_lret rfl (dk_X6_read 42 _ rfl) ⟨rfl, rfl⟩
                  · refine jCt_of ok_X7_read (fun _ _ => Nat.le_of_ble_eq_true rfl) (fun _ _ hq => Nat.le_of_eq (lM.trans hq.2.symm)) ?_
                    show J _ _ _ _ _ _ _ _ [(0, .ref 0), (1, .int 4), (2, .int i)] _ _ _
                    refine J_aload_n (i := 0) (a := 0) rfl rfl (dk_X7_read 0 _ rfl) ?_
                    refine J_iload_n (i := 1) (a := 1) rfl rfl (dk_X7_read 1 _ rfl) ?_
                    refine J_cV (rv := some (.int 1)) (h' := hM0) (d' := 11) (As := [.int 4]) ok_X7_isTape vi_X7_isTape cl_7_354 (n := 1) (by decide +kernel) rfl rfl rfl rfl (by decide) (by decide) (dk_X7_read 2 _ rfl) ?_ ?_
                    · refine jCt_of ok_X7_isTape (fun _ _ => Nat.le_of_ble_eq_true rfl) (fun _ _ hq => by rw [hq.2]; first | exact Nat.le_refl _ | simp) ?_
                      show J _ _ _ _ _ _ _ _ [(0, .ref 0), (1, .int 4)] _ _ _
                      refine J_aload_n (i := 0) (a := 0) rfl rfl (dk_X7_isTape 0 _ rfl) ?_
                      refine J_iload_n (i := 1) (a := 1) rfl rfl (dk_X7_isTape 1 _ rfl) ?_
                      refine J_iconst (v := 0) (by decide) (dk_X7_isTape 2 _ rfl) ?_
                      refine J_iconst (v := 5) (by decide) (dk_X7_isTape 3 _ rfl) ?_
                      refine J_cV (rv := some (.int 1)) (h' := hM0) (d' := 10) (As := [.int 4, .int 0, .int 5]) ok_X7_in vi_X7_in cl_7_194 (n := 3) (by decide +kernel) rfl rfl rfl rfl (by decide) (by decide) (dk_X7_isTape 4 _ rfl) ?_ ?_
                      · refine jCt_of ok_X7_in (fun _ _ => Nat.le_of_ble_eq_true rfl) (fun _ _ hq => by rw [hq.2]; first | exact Nat.le_refl _ | simp) ?_
                        show J _ _ _ _ _ _ _ _ [(0, .ref 0), (1, .int 4), (2, .int 0), (3, .int 5)] _ _ _
                        refine J_iload_n (i := 1) (a := 1) rfl rfl (dk_X7_in 0 _ rfl) ?_
                        refine J_iload_n (i := 2) (a := 2) rfl rfl (dk_X7_in 1 _ rfl) ?_
                        refine J_icF (tgt := 14) (by decide) (dk_X7_in 2 _ rfl) (jI_nlt (by decide : (4 : Int32).toInt = 4) (by decide : (0 : Int32).toInt = 0) (by omega)) ?_
                        refine J_iload_n (i := 1) (a := 1) rfl rfl (dk_X7_in 5 _ rfl) ?_
                        refine J_iload_n (i := 3) (a := 3) rfl rfl (dk_X7_in 6 _ rfl) ?_
                        refine J_icF (tgt := 14) (by decide) (dk_X7_in 7 _ rfl) (jI_nlt (by decide : (5 : Int32).toInt = 5) (by decide : (4 : Int32).toInt = 4) (by omega)) ?_
                        refine J_iconst (v := 1) (by decide) (dk_X7_in 10 _ rfl) ?_
                        refine J_goto (tgt := 15) (by decide) (dk_X7_in 11 _ rfl) ?_
                        exact J_iret rfl rfl (dk_X7_in 15 _ rfl) ⟨rfl, rfl⟩
                      show J _ _ _ _ _ _ _ _ _ [.int 1] _ _
                      exact J_iret rfl rfl (dk_X7_isTape 7 _ rfl) ⟨rfl, rfl⟩
                    show J _ _ _ _ _ _ _ _ _ [.int 1] _ _
                    refine J_ifF (tgt := 34) (by decide) (dk_X7_read 5 _ rfl) (jI_ne (by decide : (1 : Int32).toInt = 1) (by decide : (0 : Int32).toInt = 0) (by omega)) ?_
                    refine J_aload_n (i := 0) (a := 0) rfl rfl (dk_X7_read 8 _ rfl) ?_
                    refine J_getf fl_7_181 rfl rfl (dk_X7_read 9 _ rfl) ?_
                    refine J_iload_n (i := 1) (a := 1) rfl rfl (dk_X7_read 12 _ rfl) ?_
                    refine J_iald rfl (by decide) rfl (dk_X7_read 13 _ rfl) ?_
                    refine J_ifT (tgt := 34) (by decide) (dk_X7_read 14 _ rfl) (jI_lt (by decide : ((-1) : Int32).toInt = (-1)) (by decide : (0 : Int32).toInt = 0) (by omega)) ?_
                    refine J_ldc2 (v := (-9223372036854775808)) ctl_7_345 (dk_X7_read 34 _ rfl) ?_
                    refine J_goto (tgt := 51) (by decide) (dk_X7_read 37 _ rfl) ?_
                    exact J_lret rfl (dk_X7_read 51 _ rfl) ⟨rfl, rfl⟩
              · obtain rfl : t = 5 := jI_eq rfl (by decide) (by omega : (t : Int32).toInt = 5)
                by_cases c14 : (i : Int32).toInt < 0
                · refine ⟨(-9223372036854775808), ?_, ?_⟩
                  · refine jCt_of ok_X6_read (fun _ _ => Nat.le_of_ble_eq_true rfl) (fun _ _ hq => Nat.le_of_eq (lX.trans hq.2.symm)) ?_
                    show J _ _ _ _ _ _ _ _ [(0, .ref 0), (1, .int 5), (2, .int i)] _ _ _
                    refine J_iload_n (i := 1) (a := 1) rfl rfl (dk_X6_read 0 _ rfl) ?_
                    refine J_cS (rv := some (.int 1)) (h' := hN0) (d' := 11) (As := [.int 5]) ok_X6_isTape st_X6_isTape cl_6_220 rfl (n := 1) (by decide +kernel) rfl (by decide) (by decide) (dk_X6_read 1 _ rfl) ?_ ?_
                    · refine jCt_of ok_X6_isTape (fun _ _ => Nat.le_of_ble_eq_true rfl) (fun _ _ hq => by rw [hq.2]; first | exact Nat.le_refl _ | simp) ?_
                      show J _ _ _ _ _ _ _ _ [(0, .int 5)] _ _ _
                      refine J_iload_n (i := 0) (a := 0) rfl rfl (dk_X6_isTape 0 _ rfl) ?_
                      refine J_ifF (tgt := 14) (by decide) (dk_X6_isTape 1 _ rfl) (jI_nlt (by decide : (5 : Int32).toInt = 5) (by decide : (0 : Int32).toInt = 0) (by omega)) ?_
                      refine J_iload_n (i := 0) (a := 0) rfl rfl (dk_X6_isTape 4 _ rfl) ?_
                      refine J_bipush (v := 6) (by decide) (dk_X6_isTape 5 _ rfl) ?_
                      refine J_icF (tgt := 14) (by decide) (dk_X6_isTape 7 _ rfl) (jI_nle (by decide : (6 : Int32).toInt = 6) (by decide : (5 : Int32).toInt = 5) (by omega)) ?_
                      refine J_iconst (v := 1) (by decide) (dk_X6_isTape 10 _ rfl) ?_
                      refine J_goto (tgt := 15) (by decide) (dk_X6_isTape 11 _ rfl) ?_
                      exact J_iret rfl rfl (dk_X6_isTape 15 _ rfl) ⟨rfl, rfl⟩
                    show J _ _ _ _ _ _ _ _ _ [.int 1] _ _
                    refine J_ifT (tgt := 11) (by decide) (dk_X6_read 4 _ rfl) (jI_ne (by decide : (1 : Int32).toInt = 1) (by decide : (0 : Int32).toInt = 0) (by omega)) ?_
                    refine J_aload_n (i := 0) (a := 0) rfl rfl (dk_X6_read 11 _ rfl) ?_
                    refine J_getf fl_6_37 rfl rfl (dk_X6_read 12 _ rfl) ?_
                    refine J_iload_n (i := 1) (a := 1) rfl rfl (dk_X6_read 15 _ rfl) ?_
                    refine J_aald (by decide) rfl (by decide) rfl (dk_X6_read 16 _ rfl) ?_
                    refine J_astore_n (i := 3) (a := 3) rfl (by decide) (dk_X6_read 17 _ rfl) ?_
                    show J _ _ _ _ _ _ _ _ [(3, .ref 92), (0, .ref 0), (1, .int 5), (2, .int i)] _ _ _
                    refine J_iload_n (i := 2) (a := 2) rfl rfl (dk_X6_read 18 _ rfl) ?_
                    refine J_ifT (tgt := 30) (by decide) (dk_X6_read 19 _ rfl) (jI_lt (rfl : (i : Int32).toInt = (i : Int32).toInt) (by decide : (0 : Int32).toInt = 0) (by omega)) ?_
                    refine J_ldc2 (v := (-9223372036854775808)) ctl_6_203 (dk_X6_read 30 _ rfl) ?_
                    refine J_goto (tgt := 42) (by decide) (dk_X6_read 33 _ rfl) ?_
                    exact J_lret rfl (dk_X6_read 42 _ rfl) ⟨rfl, rfl⟩
                  · refine jCt_of ok_X7_read (fun _ _ => Nat.le_of_ble_eq_true rfl) (fun _ _ hq => Nat.le_of_eq (lM.trans hq.2.symm)) ?_
                    show J _ _ _ _ _ _ _ _ [(0, .ref 0), (1, .int 5), (2, .int i)] _ _ _
                    refine J_aload_n (i := 0) (a := 0) rfl rfl (dk_X7_read 0 _ rfl) ?_
                    refine J_iload_n (i := 1) (a := 1) rfl rfl (dk_X7_read 1 _ rfl) ?_
                    refine J_cV (rv := some (.int 1)) (h' := hM0) (d' := 11) (As := [.int 5]) ok_X7_isTape vi_X7_isTape cl_7_354 (n := 1) (by decide +kernel) rfl rfl rfl rfl (by decide) (by decide) (dk_X7_read 2 _ rfl) ?_ ?_
                    · refine jCt_of ok_X7_isTape (fun _ _ => Nat.le_of_ble_eq_true rfl) (fun _ _ hq => by rw [hq.2]; first | exact Nat.le_refl _ | simp) ?_
                      show J _ _ _ _ _ _ _ _ [(0, .ref 0), (1, .int 5)] _ _ _
                      refine J_aload_n (i := 0) (a := 0) rfl rfl (dk_X7_isTape 0 _ rfl) ?_
                      refine J_iload_n (i := 1) (a := 1) rfl rfl (dk_X7_isTape 1 _ rfl) ?_
                      refine J_iconst (v := 0) (by decide) (dk_X7_isTape 2 _ rfl) ?_
                      refine J_iconst (v := 5) (by decide) (dk_X7_isTape 3 _ rfl) ?_
                      refine J_cV (rv := some (.int 1)) (h' := hM0) (d' := 10) (As := [.int 5, .int 0, .int 5]) ok_X7_in vi_X7_in cl_7_194 (n := 3) (by decide +kernel) rfl rfl rfl rfl (by decide) (by decide) (dk_X7_isTape 4 _ rfl) ?_ ?_
                      · refine jCt_of ok_X7_in (fun _ _ => Nat.le_of_ble_eq_true rfl) (fun _ _ hq => by rw [hq.2]; first | exact Nat.le_refl _ | simp) ?_
                        show J _ _ _ _ _ _ _ _ [(0, .ref 0), (1, .int 5), (2, .int 0), (3, .int 5)] _ _ _
                        refine J_iload_n (i := 1) (a := 1) rfl rfl (dk_X7_in 0 _ rfl) ?_
                        refine J_iload_n (i := 2) (a := 2) rfl rfl (dk_X7_in 1 _ rfl) ?_
                        refine J_icF (tgt := 14) (by decide) (dk_X7_in 2 _ rfl) (jI_nlt (by decide : (5 : Int32).toInt = 5) (by decide : (0 : Int32).toInt = 0) (by omega)) ?_
                        refine J_iload_n (i := 1) (a := 1) rfl rfl (dk_X7_in 5 _ rfl) ?_
                        refine J_iload_n (i := 3) (a := 3) rfl rfl (dk_X7_in 6 _ rfl) ?_
                        refine J_icF (tgt := 14) (by decide) (dk_X7_in 7 _ rfl) (jI_nlt (by decide : (5 : Int32).toInt = 5) (by decide : (5 : Int32).toInt = 5) (by omega)) ?_
                        refine J_iconst (v := 1) (by decide) (dk_X7_in 10 _ rfl) ?_
                        refine J_goto (tgt := 15) (by decide) (dk_X7_in 11 _ rfl) ?_
                        exact J_iret rfl rfl (dk_X7_in 15 _ rfl) ⟨rfl, rfl⟩
                      show J _ _ _ _ _ _ _ _ _ [.int 1] _ _
                      exact J_iret rfl rfl (dk_X7_isTape 7 _ rfl) ⟨rfl, rfl⟩
                    show J _ _ _ _ _ _ _ _ _ [.int 1] _ _
                    refine J_ifF (tgt := 34) (by decide) (dk_X7_read 5 _ rfl) (jI_ne (by decide : (1 : Int32).toInt = 1) (by decide : (0 : Int32).toInt = 0) (by omega)) ?_
                    refine J_aload_n (i := 0) (a := 0) rfl rfl (dk_X7_read 8 _ rfl) ?_
                    refine J_getf fl_7_181 rfl rfl (dk_X7_read 9 _ rfl) ?_
                    refine J_iload_n (i := 1) (a := 1) rfl rfl (dk_X7_read 12 _ rfl) ?_
                    refine J_iald rfl (by decide) rfl (dk_X7_read 13 _ rfl) ?_
                    refine J_ifT (tgt := 34) (by decide) (dk_X7_read 14 _ rfl) (jI_lt (by decide : ((-1) : Int32).toInt = (-1)) (by decide : (0 : Int32).toInt = 0) (by omega)) ?_
                    refine J_ldc2 (v := (-9223372036854775808)) ctl_7_345 (dk_X7_read 34 _ rfl) ?_
                    refine J_goto (tgt := 51) (by decide) (dk_X7_read 37 _ rfl) ?_
                    exact J_lret rfl (dk_X7_read 51 _ rfl) ⟨rfl, rfl⟩
                · refine ⟨(-9223372036854775808), ?_, ?_⟩
                  · refine jCt_of ok_X6_read (fun _ _ => Nat.le_of_ble_eq_true rfl) (fun _ _ hq => Nat.le_of_eq (lX.trans hq.2.symm)) ?_
                    show J _ _ _ _ _ _ _ _ [(0, .ref 0), (1, .int 5), (2, .int i)] _ _ _
                    refine J_iload_n (i := 1) (a := 1) rfl rfl (dk_X6_read 0 _ rfl) ?_
                    refine J_cS (rv := some (.int 1)) (h' := hN0) (d' := 11) (As := [.int 5]) ok_X6_isTape st_X6_isTape cl_6_220 rfl (n := 1) (by decide +kernel) rfl (by decide) (by decide) (dk_X6_read 1 _ rfl) ?_ ?_
                    · refine jCt_of ok_X6_isTape (fun _ _ => Nat.le_of_ble_eq_true rfl) (fun _ _ hq => by rw [hq.2]; first | exact Nat.le_refl _ | simp) ?_
                      show J _ _ _ _ _ _ _ _ [(0, .int 5)] _ _ _
                      refine J_iload_n (i := 0) (a := 0) rfl rfl (dk_X6_isTape 0 _ rfl) ?_
                      refine J_ifF (tgt := 14) (by decide) (dk_X6_isTape 1 _ rfl) (jI_nlt (by decide : (5 : Int32).toInt = 5) (by decide : (0 : Int32).toInt = 0) (by omega)) ?_
                      refine J_iload_n (i := 0) (a := 0) rfl rfl (dk_X6_isTape 4 _ rfl) ?_
                      refine J_bipush (v := 6) (by decide) (dk_X6_isTape 5 _ rfl) ?_
                      refine J_icF (tgt := 14) (by decide) (dk_X6_isTape 7 _ rfl) (jI_nle (by decide : (6 : Int32).toInt = 6) (by decide : (5 : Int32).toInt = 5) (by omega)) ?_
                      refine J_iconst (v := 1) (by decide) (dk_X6_isTape 10 _ rfl) ?_
                      refine J_goto (tgt := 15) (by decide) (dk_X6_isTape 11 _ rfl) ?_
                      exact J_iret rfl rfl (dk_X6_isTape 15 _ rfl) ⟨rfl, rfl⟩
                    show J _ _ _ _ _ _ _ _ _ [.int 1] _ _
                    refine J_ifT (tgt := 11) (by decide) (dk_X6_read 4 _ rfl) (jI_ne (by decide : (1 : Int32).toInt = 1) (by decide : (0 : Int32).toInt = 0) (by omega)) ?_
                    refine J_aload_n (i := 0) (a := 0) rfl rfl (dk_X6_read 11 _ rfl) ?_
                    refine J_getf fl_6_37 rfl rfl (dk_X6_read 12 _ rfl) ?_
                    refine J_iload_n (i := 1) (a := 1) rfl rfl (dk_X6_read 15 _ rfl) ?_
                    refine J_aald (by decide) rfl (by decide) rfl (dk_X6_read 16 _ rfl) ?_
                    refine J_astore_n (i := 3) (a := 3) rfl (by decide) (dk_X6_read 17 _ rfl) ?_
                    show J _ _ _ _ _ _ _ _ [(3, .ref 92), (0, .ref 0), (1, .int 5), (2, .int i)] _ _ _
                    refine J_iload_n (i := 2) (a := 2) rfl rfl (dk_X6_read 18 _ rfl) ?_
                    refine J_ifF (tgt := 30) (by decide) (dk_X6_read 19 _ rfl) (jI_nlt (rfl : (i : Int32).toInt = (i : Int32).toInt) (by decide : (0 : Int32).toInt = 0) (by omega)) ?_
                    refine J_iload_n (i := 2) (a := 2) rfl rfl (dk_X6_read 22 _ rfl) ?_
                    refine J_aload_n (i := 3) (a := 3) rfl rfl (dk_X6_read 23 _ rfl) ?_
                    refine J_getf fl_6_226 rfl rfl (dk_X6_read 24 _ rfl) ?_
                    refine J_icF (tgt := 36) (by decide) (dk_X6_read 27 _ rfl) (jI_nlt (rfl : (i : Int32).toInt = (i : Int32).toInt) (by decide : (0 : Int32).toInt = 0) (by omega)) ?_
                    refine J_ldc2 (v := (-9223372036854775808)) ctl_6_203 (dk_X6_read 30 _ rfl) ?_
                    refine J_goto (tgt := 42) (by decide) (dk_X6_read 33 _ rfl) ?_
                    exact J_lret rfl (dk_X6_read 42 _ rfl) ⟨rfl, rfl⟩
                  · refine jCt_of ok_X7_read (fun _ _ => Nat.le_of_ble_eq_true rfl) (fun _ _ hq => Nat.le_of_eq (lM.trans hq.2.symm)) ?_
                    show J _ _ _ _ _ _ _ _ [(0, .ref 0), (1, .int 5), (2, .int i)] _ _ _
                    refine J_aload_n (i := 0) (a := 0) rfl rfl (dk_X7_read 0 _ rfl) ?_
                    refine J_iload_n (i := 1) (a := 1) rfl rfl (dk_X7_read 1 _ rfl) ?_
                    refine J_cV (rv := some (.int 1)) (h' := hM0) (d' := 11) (As := [.int 5]) ok_X7_isTape vi_X7_isTape cl_7_354 (n := 1) (by decide +kernel) rfl rfl rfl rfl (by decide) (by decide) (dk_X7_read 2 _ rfl) ?_ ?_
                    · refine jCt_of ok_X7_isTape (fun _ _ => Nat.le_of_ble_eq_true rfl) (fun _ _ hq => by rw [hq.2]; first | exact Nat.le_refl _ | simp) ?_
                      show J _ _ _ _ _ _ _ _ [(0, .ref 0), (1, .int 5)] _ _ _
                      refine J_aload_n (i := 0) (a := 0) rfl rfl (dk_X7_isTape 0 _ rfl) ?_
                      refine J_iload_n (i := 1) (a := 1) rfl rfl (dk_X7_isTape 1 _ rfl) ?_
                      refine J_iconst (v := 0) (by decide) (dk_X7_isTape 2 _ rfl) ?_
                      refine J_iconst (v := 5) (by decide) (dk_X7_isTape 3 _ rfl) ?_
                      refine J_cV (rv := some (.int 1)) (h' := hM0) (d' := 10) (As := [.int 5, .int 0, .int 5]) ok_X7_in vi_X7_in cl_7_194 (n := 3) (by decide +kernel) rfl rfl rfl rfl (by decide) (by decide) (dk_X7_isTape 4 _ rfl) ?_ ?_
                      · refine jCt_of ok_X7_in (fun _ _ => Nat.le_of_ble_eq_true rfl) (fun _ _ hq => by rw [hq.2]; first | exact Nat.le_refl _ | simp) ?_
                        show J _ _ _ _ _ _ _ _ [(0, .ref 0), (1, .int 5), (2, .int 0), (3, .int 5)] _ _ _
                        refine J_iload_n (i := 1) (a := 1) rfl rfl (dk_X7_in 0 _ rfl) ?_
                        refine J_iload_n (i := 2) (a := 2) rfl rfl (dk_X7_in 1 _ rfl) ?_
                        refine J_icF (tgt := 14) (by decide) (dk_X7_in 2 _ rfl) (jI_nlt (by decide : (5 : Int32).toInt = 5) (by decide : (0 : Int32).toInt = 0) (by omega)) ?_
                        refine J_iload_n (i := 1) (a := 1) rfl rfl (dk_X7_in 5 _ rfl) ?_
                        refine J_iload_n (i := 3) (a := 3) rfl rfl (dk_X7_in 6 _ rfl) ?_
                        refine J_icF (tgt := 14) (by decide) (dk_X7_in 7 _ rfl) (jI_nlt (by decide : (5 : Int32).toInt = 5) (by decide : (5 : Int32).toInt = 5) (by omega)) ?_
                        refine J_iconst (v := 1) (by decide) (dk_X7_in 10 _ rfl) ?_
                        refine J_goto (tgt := 15) (by decide) (dk_X7_in 11 _ rfl) ?_
                        exact J_iret rfl rfl (dk_X7_in 15 _ rfl) ⟨rfl, rfl⟩
                      show J _ _ _ _ _ _ _ _ _ [.int 1] _ _
                      exact J_iret rfl rfl (dk_X7_isTape 7 _ rfl) ⟨rfl, rfl⟩
                    show J _ _ _ _ _ _ _ _ _ [.int 1] _ _
                    refine J_ifF (tgt := 34) (by decide) (dk_X7_read 5 _ rfl) (jI_ne (by decide : (1 : Int32).toInt = 1) (by decide : (0 : Int32).toInt = 0) (by omega)) ?_
                    refine J_aload_n (i := 0) (a := 0) rfl rfl (dk_X7_read 8 _ rfl) ?_
                    refine J_getf fl_7_181 rfl rfl (dk_X7_read 9 _ rfl) ?_
                    refine J_iload_n (i := 1) (a := 1) rfl rfl (dk_X7_read 12 _ rfl) ?_
                    refine J_iald rfl (by decide) rfl (dk_X7_read 13 _ rfl) ?_
                    refine J_ifT (tgt := 34) (by decide) (dk_X7_read 14 _ rfl) (jI_lt (by decide : ((-1) : Int32).toInt = (-1)) (by decide : (0 : Int32).toInt = 0) (by omega)) ?_
                    refine J_ldc2 (v := (-9223372036854775808)) ctl_7_345 (dk_X7_read 34 _ rfl) ?_
                    refine J_goto (tgt := 51) (by decide) (dk_X7_read 37 _ rfl) ?_
                    exact J_lret rfl (dk_X7_read 51 _ rfl) ⟨rfl, rfl⟩
    · refine ⟨(-9223372036854775808), ?_, ?_⟩
      · refine jCt_of ok_X6_read (fun _ _ => Nat.le_of_ble_eq_true rfl) (fun _ _ hq => Nat.le_of_eq (lX.trans hq.2.symm)) ?_
        show J _ _ _ _ _ _ _ _ [(0, .ref 0), (1, .int t), (2, .int i)] _ _ _
        refine J_iload_n (i := 1) (a := 1) rfl rfl (dk_X6_read 0 _ rfl) ?_
        refine J_cS (rv := some (.int 0)) (h' := hN0) (d' := 11) (As := [.int t]) ok_X6_isTape st_X6_isTape cl_6_220 rfl (n := 1) (by decide +kernel) rfl (by decide) (by decide) (dk_X6_read 1 _ rfl) ?_ ?_
        · refine jCt_of ok_X6_isTape (fun _ _ => Nat.le_of_ble_eq_true rfl) (fun _ _ hq => by rw [hq.2]; first | exact Nat.le_refl _ | simp) ?_
          show J _ _ _ _ _ _ _ _ [(0, .int t)] _ _ _
          refine J_iload_n (i := 0) (a := 0) rfl rfl (dk_X6_isTape 0 _ rfl) ?_
          refine J_ifF (tgt := 14) (by decide) (dk_X6_isTape 1 _ rfl) (jI_nlt (rfl : (t : Int32).toInt = (t : Int32).toInt) (by decide : (0 : Int32).toInt = 0) (by omega)) ?_
          refine J_iload_n (i := 0) (a := 0) rfl rfl (dk_X6_isTape 4 _ rfl) ?_
          refine J_bipush (v := 6) (by decide) (dk_X6_isTape 5 _ rfl) ?_
          refine J_icT (tgt := 14) (by decide) (dk_X6_isTape 7 _ rfl) (jI_le (by decide : (6 : Int32).toInt = 6) (rfl : (t : Int32).toInt = (t : Int32).toInt) (by omega)) ?_
          refine J_iconst (v := 0) (by decide) (dk_X6_isTape 14 _ rfl) ?_
          exact J_iret rfl rfl (dk_X6_isTape 15 _ rfl) ⟨rfl, rfl⟩
        show J _ _ _ _ _ _ _ _ _ [.int 0] _ _
        refine J_ifF (tgt := 11) (by decide) (dk_X6_read 4 _ rfl) (fun z => z (jI_eq (by decide : (0 : Int32).toInt = 0) (by decide : (0 : Int32).toInt = 0) (by omega))) ?_
        refine J_ldc2 (v := (-9223372036854775808)) ctl_6_203 (dk_X6_read 7 _ rfl) ?_
        exact J_lret rfl (dk_X6_read 10 _ rfl) ⟨rfl, rfl⟩
      · refine jCt_of ok_X7_read (fun _ _ => Nat.le_of_ble_eq_true rfl) (fun _ _ hq => Nat.le_of_eq (lM.trans hq.2.symm)) ?_
        show J _ _ _ _ _ _ _ _ [(0, .ref 0), (1, .int t), (2, .int i)] _ _ _
        refine J_aload_n (i := 0) (a := 0) rfl rfl (dk_X7_read 0 _ rfl) ?_
        refine J_iload_n (i := 1) (a := 1) rfl rfl (dk_X7_read 1 _ rfl) ?_
        refine J_cV (rv := some (.int 0)) (h' := hM0) (d' := 11) (As := [.int t]) ok_X7_isTape vi_X7_isTape cl_7_354 (n := 1) (by decide +kernel) rfl rfl rfl rfl (by decide) (by decide) (dk_X7_read 2 _ rfl) ?_ ?_
        · refine jCt_of ok_X7_isTape (fun _ _ => Nat.le_of_ble_eq_true rfl) (fun _ _ hq => by rw [hq.2]; first | exact Nat.le_refl _ | simp) ?_
          show J _ _ _ _ _ _ _ _ [(0, .ref 0), (1, .int t)] _ _ _
          refine J_aload_n (i := 0) (a := 0) rfl rfl (dk_X7_isTape 0 _ rfl) ?_
          refine J_iload_n (i := 1) (a := 1) rfl rfl (dk_X7_isTape 1 _ rfl) ?_
          refine J_iconst (v := 0) (by decide) (dk_X7_isTape 2 _ rfl) ?_
          refine J_iconst (v := 5) (by decide) (dk_X7_isTape 3 _ rfl) ?_
          refine J_cV (rv := some (.int 0)) (h' := hM0) (d' := 10) (As := [.int t, .int 0, .int 5]) ok_X7_in vi_X7_in cl_7_194 (n := 3) (by decide +kernel) rfl rfl rfl rfl (by decide) (by decide) (dk_X7_isTape 4 _ rfl) ?_ ?_
          · refine jCt_of ok_X7_in (fun _ _ => Nat.le_of_ble_eq_true rfl) (fun _ _ hq => by rw [hq.2]; first | exact Nat.le_refl _ | simp) ?_
            show J _ _ _ _ _ _ _ _ [(0, .ref 0), (1, .int t), (2, .int 0), (3, .int 5)] _ _ _
            refine J_iload_n (i := 1) (a := 1) rfl rfl (dk_X7_in 0 _ rfl) ?_
            refine J_iload_n (i := 2) (a := 2) rfl rfl (dk_X7_in 1 _ rfl) ?_
            refine J_icF (tgt := 14) (by decide) (dk_X7_in 2 _ rfl) (jI_nlt (rfl : (t : Int32).toInt = (t : Int32).toInt) (by decide : (0 : Int32).toInt = 0) (by omega)) ?_
            refine J_iload_n (i := 1) (a := 1) rfl rfl (dk_X7_in 5 _ rfl) ?_
            refine J_iload_n (i := 3) (a := 3) rfl rfl (dk_X7_in 6 _ rfl) ?_
            refine J_icT (tgt := 14) (by decide) (dk_X7_in 7 _ rfl) (jI_lt (by decide : (5 : Int32).toInt = 5) (rfl : (t : Int32).toInt = (t : Int32).toInt) (by omega)) ?_
            refine J_iconst (v := 0) (by decide) (dk_X7_in 14 _ rfl) ?_
            exact J_iret rfl rfl (dk_X7_in 15 _ rfl) ⟨rfl, rfl⟩
          show J _ _ _ _ _ _ _ _ _ [.int 0] _ _
          exact J_iret rfl rfl (dk_X7_isTape 7 _ rfl) ⟨rfl, rfl⟩
        show J _ _ _ _ _ _ _ _ _ [.int 0] _ _
        refine J_ifT (tgt := 34) (by decide) (dk_X7_read 5 _ rfl) (jI_eq (by decide : (0 : Int32).toInt = 0) (by decide : (0 : Int32).toInt = 0) (by omega)) ?_
        refine J_ldc2 (v := (-9223372036854775808)) ctl_7_345 (dk_X7_read 34 _ rfl) ?_
        refine J_goto (tgt := 51) (by decide) (dk_X7_read 37 _ rfl) ?_
        exact J_lret rfl (dk_X7_read 51 _ rfl) ⟨rfl, rfl⟩
set_option maxHeartbeats 4000000 in
set_option maxRecDepth 1000000 in
theorem o_tape (t : Int32) (s : Int32) (n : Int32) : ∃ rv : Int32, jCt m_X6_tape 12 0 0 [.ref 0, .int t, .int s, .int n] hN0 (jA (.int rv) 94) ∧ jCt m_X7_tape 12 0 0 [.ref 0, .int t, .int s, .int n] hM0 (jA (.int rv) 37) := by
  have r_t := t.toInt_lt; have q_t := t.le_toInt
  have r_s := s.toInt_lt; have q_s := s.le_toInt
  have r_n := n.toInt_lt; have q_n := n.le_toInt
  by_cases c1 : (t : Int32).toInt < 0
  · refine ⟨(-1), ?_, ?_⟩
    · refine jCt_of ok_X6_tape (fun _ _ => Nat.le_of_ble_eq_true rfl) (fun _ _ hq => Nat.le_of_eq (lX.trans hq.2.symm)) ?_
      show J _ _ _ _ _ _ _ _ [(0, .ref 0), (1, .int t), (2, .int s), (3, .int n)] _ _ _
      refine J_iload_n (i := 1) (a := 1) rfl rfl (dk_X6_tape 0 _ rfl) ?_
      refine J_cS (rv := some (.int 0)) (h' := hN0) (d' := 11) (As := [.int t]) ok_X6_isTape st_X6_isTape cl_6_220 rfl (n := 1) (by decide +kernel) rfl (by decide) (by decide) (dk_X6_tape 1 _ rfl) ?_ ?_
      · refine jCt_of ok_X6_isTape (fun _ _ => Nat.le_of_ble_eq_true rfl) (fun _ _ hq => by rw [hq.2]; first | exact Nat.le_refl _ | simp) ?_
        show J _ _ _ _ _ _ _ _ [(0, .int t)] _ _ _
        refine J_iload_n (i := 0) (a := 0) rfl rfl (dk_X6_isTape 0 _ rfl) ?_
        refine J_ifT (tgt := 14) (by decide) (dk_X6_isTape 1 _ rfl) (jI_lt (rfl : (t : Int32).toInt = (t : Int32).toInt) (by decide : (0 : Int32).toInt = 0) (by omega)) ?_
        refine J_iconst (v := 0) (by decide) (dk_X6_isTape 14 _ rfl) ?_
        exact J_iret rfl rfl (dk_X6_isTape 15 _ rfl) ⟨rfl, rfl⟩
      show J _ _ _ _ _ _ _ _ _ [.int 0] _ _
      refine J_ifF (tgt := 9) (by decide) (dk_X6_tape 4 _ rfl) (fun z => z (jI_eq (by decide : (0 : Int32).toInt = 0) (by decide : (0 : Int32).toInt = 0) (by omega))) ?_
      refine J_iconst (v := (-1)) (by decide) (dk_X6_tape 7 _ rfl) ?_
      exact J_iret rfl rfl (dk_X6_tape 8 _ rfl) ⟨rfl, rfl⟩
    · refine jCt_of ok_X7_tape (fun _ _ => Nat.le_of_ble_eq_true rfl) (fun _ _ hq => Nat.le_of_eq (lM.trans hq.2.symm)) ?_
      show J _ _ _ _ _ _ _ _ [(0, .ref 0), (1, .int t), (2, .int s), (3, .int n)] _ _ _
      refine J_aload_n (i := 0) (a := 0) rfl rfl (dk_X7_tape 0 _ rfl) ?_
      refine J_iload_n (i := 1) (a := 1) rfl rfl (dk_X7_tape 1 _ rfl) ?_
      refine J_cV (rv := some (.int 0)) (h' := hM0) (d' := 11) (As := [.int t]) ok_X7_isTape vi_X7_isTape cl_7_354 (n := 1) (by decide +kernel) rfl rfl rfl rfl (by decide) (by decide) (dk_X7_tape 2 _ rfl) ?_ ?_
      · refine jCt_of ok_X7_isTape (fun _ _ => Nat.le_of_ble_eq_true rfl) (fun _ _ hq => by rw [hq.2]; first | exact Nat.le_refl _ | simp) ?_
        show J _ _ _ _ _ _ _ _ [(0, .ref 0), (1, .int t)] _ _ _
        refine J_aload_n (i := 0) (a := 0) rfl rfl (dk_X7_isTape 0 _ rfl) ?_
        refine J_iload_n (i := 1) (a := 1) rfl rfl (dk_X7_isTape 1 _ rfl) ?_
        refine J_iconst (v := 0) (by decide) (dk_X7_isTape 2 _ rfl) ?_
        refine J_iconst (v := 5) (by decide) (dk_X7_isTape 3 _ rfl) ?_
        refine J_cV (rv := some (.int 0)) (h' := hM0) (d' := 10) (As := [.int t, .int 0, .int 5]) ok_X7_in vi_X7_in cl_7_194 (n := 3) (by decide +kernel) rfl rfl rfl rfl (by decide) (by decide) (dk_X7_isTape 4 _ rfl) ?_ ?_
        · refine jCt_of ok_X7_in (fun _ _ => Nat.le_of_ble_eq_true rfl) (fun _ _ hq => by rw [hq.2]; first | exact Nat.le_refl _ | simp) ?_
          show J _ _ _ _ _ _ _ _ [(0, .ref 0), (1, .int t), (2, .int 0), (3, .int 5)] _ _ _
          refine J_iload_n (i := 1) (a := 1) rfl rfl (dk_X7_in 0 _ rfl) ?_
          refine J_iload_n (i := 2) (a := 2) rfl rfl (dk_X7_in 1 _ rfl) ?_
          refine J_icT (tgt := 14) (by decide) (dk_X7_in 2 _ rfl) (jI_lt (rfl : (t : Int32).toInt = (t : Int32).toInt) (by decide : (0 : Int32).toInt = 0) (by omega)) ?_
          refine J_iconst (v := 0) (by decide) (dk_X7_in 14 _ rfl) ?_
          exact J_iret rfl rfl (dk_X7_in 15 _ rfl) ⟨rfl, rfl⟩
        show J _ _ _ _ _ _ _ _ _ [.int 0] _ _
        exact J_iret rfl rfl (dk_X7_isTape 7 _ rfl) ⟨rfl, rfl⟩
      show J _ _ _ _ _ _ _ _ _ [.int 0] _ _
      refine J_ifF (tgt := 10) (by decide) (dk_X7_tape 5 _ rfl) (fun z => z (jI_eq (by decide : (0 : Int32).toInt = 0) (by decide : (0 : Int32).toInt = 0) (by omega))) ?_
      refine J_iconst (v := (-1)) (by decide) (dk_X7_tape 8 _ rfl) ?_
      exact J_iret rfl rfl (dk_X7_tape 9 _ rfl) ⟨rfl, rfl⟩
  · by_cases c2 : (t : Int32).toInt < 6
    · by_cases c4 : (s : Int32).toInt < (-1)
      · refine ⟨(-2), ?_, ?_⟩
        · refine jCt_of ok_X6_tape (fun _ _ => Nat.le_of_ble_eq_true rfl) (fun _ _ hq => Nat.le_of_eq (lX.trans hq.2.symm)) ?_
          show J _ _ _ _ _ _ _ _ [(0, .ref 0), (1, .int t), (2, .int s), (3, .int n)] _ _ _
          refine J_iload_n (i := 1) (a := 1) rfl rfl (dk_X6_tape 0 _ rfl) ?_
          refine J_cS (rv := some (.int 1)) (h' := hN0) (d' := 11) (As := [.int t]) ok_X6_isTape st_X6_isTape cl_6_220 rfl (n := 1) (by decide +kernel) rfl (by decide) (by decide) (dk_X6_tape 1 _ rfl) ?_ ?_
          · refine jCt_of ok_X6_isTape (fun _ _ => Nat.le_of_ble_eq_true rfl) (fun _ _ hq => by rw [hq.2]; first | exact Nat.le_refl _ | simp) ?_
            show J _ _ _ _ _ _ _ _ [(0, .int t)] _ _ _
            refine J_iload_n (i := 0) (a := 0) rfl rfl (dk_X6_isTape 0 _ rfl) ?_
            refine J_ifF (tgt := 14) (by decide) (dk_X6_isTape 1 _ rfl) (jI_nlt (rfl : (t : Int32).toInt = (t : Int32).toInt) (by decide : (0 : Int32).toInt = 0) (by omega)) ?_
            refine J_iload_n (i := 0) (a := 0) rfl rfl (dk_X6_isTape 4 _ rfl) ?_
            refine J_bipush (v := 6) (by decide) (dk_X6_isTape 5 _ rfl) ?_
            refine J_icF (tgt := 14) (by decide) (dk_X6_isTape 7 _ rfl) (jI_nle (by decide : (6 : Int32).toInt = 6) (rfl : (t : Int32).toInt = (t : Int32).toInt) (by omega)) ?_
            refine J_iconst (v := 1) (by decide) (dk_X6_isTape 10 _ rfl) ?_
            refine J_goto (tgt := 15) (by decide) (dk_X6_isTape 11 _ rfl) ?_
            exact J_iret rfl rfl (dk_X6_isTape 15 _ rfl) ⟨rfl, rfl⟩
          show J _ _ _ _ _ _ _ _ _ [.int 1] _ _
          refine J_ifT (tgt := 9) (by decide) (dk_X6_tape 4 _ rfl) (jI_ne (by decide : (1 : Int32).toInt = 1) (by decide : (0 : Int32).toInt = 0) (by omega)) ?_
          refine J_iload_n (i := 2) (a := 2) rfl rfl (dk_X6_tape 9 _ rfl) ?_
          refine J_iconst (v := (-1)) (by decide) (dk_X6_tape 10 _ rfl) ?_
          refine J_icT (tgt := 27) (by decide) (dk_X6_tape 11 _ rfl) (jI_ne (rfl : (s : Int32).toInt = (s : Int32).toInt) (by decide : ((-1) : Int32).toInt = (-1)) (by omega)) ?_
          refine J_iload_n (i := 2) (a := 2) rfl rfl (dk_X6_tape 27 _ rfl) ?_
          refine J_ifT (tgt := 42) (by decide) (dk_X6_tape 28 _ rfl) (jI_lt (rfl : (s : Int32).toInt = (s : Int32).toInt) (by decide : (0 : Int32).toInt = 0) (by omega)) ?_
          refine J_bipush (v := (-2)) (by decide) (dk_X6_tape 42 _ rfl) ?_
          exact J_iret rfl rfl (dk_X6_tape 44 _ rfl) ⟨rfl, rfl⟩
        · refine jCt_of ok_X7_tape (fun _ _ => Nat.le_of_ble_eq_true rfl) (fun _ _ hq => Nat.le_of_eq (lM.trans hq.2.symm)) ?_
          show J _ _ _ _ _ _ _ _ [(0, .ref 0), (1, .int t), (2, .int s), (3, .int n)] _ _ _
          refine J_aload_n (i := 0) (a := 0) rfl rfl (dk_X7_tape 0 _ rfl) ?_
          refine J_iload_n (i := 1) (a := 1) rfl rfl (dk_X7_tape 1 _ rfl) ?_
          refine J_cV (rv := some (.int 1)) (h' := hM0) (d' := 11) (As := [.int t]) ok_X7_isTape vi_X7_isTape cl_7_354 (n := 1) (by decide +kernel) rfl rfl rfl rfl (by decide) (by decide) (dk_X7_tape 2 _ rfl) ?_ ?_
          · refine jCt_of ok_X7_isTape (fun _ _ => Nat.le_of_ble_eq_true rfl) (fun _ _ hq => by rw [hq.2]; first | exact Nat.le_refl _ | simp) ?_
            show J _ _ _ _ _ _ _ _ [(0, .ref 0), (1, .int t)] _ _ _
            refine J_aload_n (i := 0) (a := 0) rfl rfl (dk_X7_isTape 0 _ rfl) ?_
            refine J_iload_n (i := 1) (a := 1) rfl rfl (dk_X7_isTape 1 _ rfl) ?_
            refine J_iconst (v := 0) (by decide) (dk_X7_isTape 2 _ rfl) ?_
            refine J_iconst (v := 5) (by decide) (dk_X7_isTape 3 _ rfl) ?_
            refine J_cV (rv := some (.int 1)) (h' := hM0) (d' := 10) (As := [.int t, .int 0, .int 5]) ok_X7_in vi_X7_in cl_7_194 (n := 3) (by decide +kernel) rfl rfl rfl rfl (by decide) (by decide) (dk_X7_isTape 4 _ rfl) ?_ ?_
            · refine jCt_of ok_X7_in (fun _ _ => Nat.le_of_ble_eq_true rfl) (fun _ _ hq => by rw [hq.2]; first | exact Nat.le_refl _ | simp) ?_
              show J _ _ _ _ _ _ _ _ [(0, .ref 0), (1, .int t), (2, .int 0), (3, .int 5)] _ _ _
              refine J_iload_n (i := 1) (a := 1) rfl rfl (dk_X7_in 0 _ rfl) ?_
              refine J_iload_n (i := 2) (a := 2) rfl rfl (dk_X7_in 1 _ rfl) ?_
              refine J_icF (tgt := 14) (by decide) (dk_X7_in 2 _ rfl) (jI_nlt (rfl : (t : Int32).toInt = (t : Int32).toInt) (by decide : (0 : Int32).toInt = 0) (by omega)) ?_
              refine J_iload_n (i := 1) (a := 1) rfl rfl (dk_X7_in 5 _ rfl) ?_
              refine J_iload_n (i := 3) (a := 3) rfl rfl (dk_X7_in 6 _ rfl) ?_
              refine J_icF (tgt := 14) (by decide) (dk_X7_in 7 _ rfl) (jI_nlt (by decide : (5 : Int32).toInt = 5) (rfl : (t : Int32).toInt = (t : Int32).toInt) (by omega)) ?_
              refine J_iconst (v := 1) (by decide) (dk_X7_in 10 _ rfl) ?_
              refine J_goto (tgt := 15) (by decide) (dk_X7_in 11 _ rfl) ?_
              exact J_iret rfl rfl (dk_X7_in 15 _ rfl) ⟨rfl, rfl⟩
            show J _ _ _ _ _ _ _ _ _ [.int 1] _ _
            exact J_iret rfl rfl (dk_X7_isTape 7 _ rfl) ⟨rfl, rfl⟩
          show J _ _ _ _ _ _ _ _ _ [.int 1] _ _
          refine J_ifT (tgt := 10) (by decide) (dk_X7_tape 5 _ rfl) (jI_ne (by decide : (1 : Int32).toInt = 1) (by decide : (0 : Int32).toInt = 0) (by omega)) ?_
          refine J_aload_n (i := 0) (a := 0) rfl rfl (dk_X7_tape 10 _ rfl) ?_
          refine J_iload_n (i := 2) (a := 2) rfl rfl (dk_X7_tape 11 _ rfl) ?_
          refine J_iconst (v := (-1)) (by decide) (dk_X7_tape 12 _ rfl) ?_
          refine J_iconst (v := 4) (by decide) (dk_X7_tape 13 _ rfl) ?_
          refine J_cV (rv := some (.int 0)) (h' := hM0) (d' := 11) (As := [.int s, .int (-1), .int 4]) ok_X7_in vi_X7_in cl_7_194 (n := 3) (by decide +kernel) rfl rfl rfl rfl (by decide) (by decide) (dk_X7_tape 14 _ rfl) ?_ ?_
          · refine jCt_of ok_X7_in (fun _ _ => Nat.le_of_ble_eq_true rfl) (fun _ _ hq => by rw [hq.2]; first | exact Nat.le_refl _ | simp) ?_
            show J _ _ _ _ _ _ _ _ [(0, .ref 0), (1, .int s), (2, .int (-1)), (3, .int 4)] _ _ _
            refine J_iload_n (i := 1) (a := 1) rfl rfl (dk_X7_in 0 _ rfl) ?_
            refine J_iload_n (i := 2) (a := 2) rfl rfl (dk_X7_in 1 _ rfl) ?_
            refine J_icT (tgt := 14) (by decide) (dk_X7_in 2 _ rfl) (jI_lt (rfl : (s : Int32).toInt = (s : Int32).toInt) (by decide : ((-1) : Int32).toInt = (-1)) (by omega)) ?_
            refine J_iconst (v := 0) (by decide) (dk_X7_in 14 _ rfl) ?_
            exact J_iret rfl rfl (dk_X7_in 15 _ rfl) ⟨rfl, rfl⟩
          show J _ _ _ _ _ _ _ _ _ [.int 0] _ _
          refine J_ifT (tgt := 30) (by decide) (dk_X7_tape 17 _ rfl) (jI_eq (by decide : (0 : Int32).toInt = 0) (by decide : (0 : Int32).toInt = 0) (by omega)) ?_
          refine J_bipush (v := (-2)) (by decide) (dk_X7_tape 30 _ rfl) ?_
          exact J_iret rfl rfl (dk_X7_tape 32 _ rfl) ⟨rfl, rfl⟩
      · by_cases c5 : (s : Int32).toInt = (-1)
        · obtain rfl : s = (-1) := jI_eq rfl (by decide) c5
          by_cases c6 : (t : Int32).toInt = 0
          · obtain rfl : t = 0 := jI_eq rfl (by decide) c6
            refine ⟨1, ?_, ?_⟩
            · refine jCt_of ok_X6_tape (fun _ _ => Nat.le_of_ble_eq_true rfl) (fun _ _ hq => Nat.le_of_eq (lX.trans hq.2.symm)) ?_
              show J _ _ _ _ _ _ _ _ [(0, .ref 0), (1, .int 0), (2, .int (-1)), (3, .int n)] _ _ _
              refine J_iload_n (i := 1) (a := 1) rfl rfl (dk_X6_tape 0 _ rfl) ?_
              refine J_cS (rv := some (.int 1)) (h' := hN0) (d' := 11) (As := [.int 0]) ok_X6_isTape st_X6_isTape cl_6_220 rfl (n := 1) (by decide +kernel) rfl (by decide) (by decide) (dk_X6_tape 1 _ rfl) ?_ ?_
              · refine jCt_of ok_X6_isTape (fun _ _ => Nat.le_of_ble_eq_true rfl) (fun _ _ hq => by rw [hq.2]; first | exact Nat.le_refl _ | simp) ?_
                show J _ _ _ _ _ _ _ _ [(0, .int 0)] _ _ _
                refine J_iload_n (i := 0) (a := 0) rfl rfl (dk_X6_isTape 0 _ rfl) ?_
                refine J_ifF (tgt := 14) (by decide) (dk_X6_isTape 1 _ rfl) (jI_nlt (by decide : (0 : Int32).toInt = 0) (by decide : (0 : Int32).toInt = 0) (by omega)) ?_
                refine J_iload_n (i := 0) (a := 0) rfl rfl (dk_X6_isTape 4 _ rfl) ?_
                refine J_bipush (v := 6) (by decide) (dk_X6_isTape 5 _ rfl) ?_
                refine J_icF (tgt := 14) (by decide) (dk_X6_isTape 7 _ rfl) (jI_nle (by decide : (6 : Int32).toInt = 6) (by decide : (0 : Int32).toInt = 0) (by omega)) ?_
                refine J_iconst (v := 1) (by decide) (dk_X6_isTape 10 _ rfl) ?_
                refine J_goto (tgt := 15) (by decide) (dk_X6_isTape 11 _ rfl) ?_
                exact J_iret rfl rfl (dk_X6_isTape 15 _ rfl) ⟨rfl, rfl⟩
              show J _ _ _ _ _ _ _ _ _ [.int 1] _ _
              refine J_ifT (tgt := 9) (by decide) (dk_X6_tape 4 _ rfl) (jI_ne (by decide : (1 : Int32).toInt = 1) (by decide : (0 : Int32).toInt = 0) (by omega)) ?_
              refine J_iload_n (i := 2) (a := 2) rfl rfl (dk_X6_tape 9 _ rfl) ?_
              refine J_iconst (v := (-1)) (by decide) (dk_X6_tape 10 _ rfl) ?_
              refine J_icF (tgt := 27) (by decide) (dk_X6_tape 11 _ rfl) (fun z => z (jI_eq (by decide : ((-1) : Int32).toInt = (-1)) (by decide : ((-1) : Int32).toInt = (-1)) (by omega))) ?_
              refine J_aload_n (i := 0) (a := 0) rfl rfl (dk_X6_tape 14 _ rfl) ?_
              refine J_getf fl_6_37 rfl rfl (dk_X6_tape 15 _ rfl) ?_
              refine J_iload_n (i := 1) (a := 1) rfl rfl (dk_X6_tape 18 _ rfl) ?_
              refine J_aald (by decide) rfl (by decide) rfl (dk_X6_tape 19 _ rfl) ?_
              refine J_iconst (v := (-1)) (by decide) (dk_X6_tape 20 _ rfl) ?_
              refine J_iconst (v := 0) (by decide) (dk_X6_tape 21 _ rfl) ?_
              refine J_cVq (Q' := fun r k => r = none ∧ k.length = 94) (d' := 3) (As := [.int (-1), .int 0]) ok_X3_become vi_X3_become cl_6_251 (n := 2) (by decide +kernel) rfl rfl rfl rfl (by decide) (by decide) (dk_X6_tape 22 _ rfl) (c_become (a := 83) (by decide) rfl rfl rfl rfl) (fun r h' hq => ?_)
              obtain ⟨rfl, hq⟩ := hq
              show J _ _ _ _ _ _ _ _ [(0, .ref 0), (1, .int 0), (2, .int (-1)), (3, .int n)] _ _ _
              refine J_iconst (v := 1) (by decide) (dk_X6_tape 25 _ rfl) ?_
              exact J_iret rfl rfl (dk_X6_tape 26 _ rfl) ⟨rfl, hq⟩
            · refine jCt_of ok_X7_tape (fun _ _ => Nat.le_of_ble_eq_true rfl) (fun _ _ hq => Nat.le_of_eq (lM.trans hq.2.symm)) ?_
              show J _ _ _ _ _ _ _ _ [(0, .ref 0), (1, .int 0), (2, .int (-1)), (3, .int n)] _ _ _
              refine J_aload_n (i := 0) (a := 0) rfl rfl (dk_X7_tape 0 _ rfl) ?_
              refine J_iload_n (i := 1) (a := 1) rfl rfl (dk_X7_tape 1 _ rfl) ?_
              refine J_cV (rv := some (.int 1)) (h' := hM0) (d' := 11) (As := [.int 0]) ok_X7_isTape vi_X7_isTape cl_7_354 (n := 1) (by decide +kernel) rfl rfl rfl rfl (by decide) (by decide) (dk_X7_tape 2 _ rfl) ?_ ?_
              · refine jCt_of ok_X7_isTape (fun _ _ => Nat.le_of_ble_eq_true rfl) (fun _ _ hq => by rw [hq.2]; first | exact Nat.le_refl _ | simp) ?_
                show J _ _ _ _ _ _ _ _ [(0, .ref 0), (1, .int 0)] _ _ _
                refine J_aload_n (i := 0) (a := 0) rfl rfl (dk_X7_isTape 0 _ rfl) ?_
                refine J_iload_n (i := 1) (a := 1) rfl rfl (dk_X7_isTape 1 _ rfl) ?_
                refine J_iconst (v := 0) (by decide) (dk_X7_isTape 2 _ rfl) ?_
                refine J_iconst (v := 5) (by decide) (dk_X7_isTape 3 _ rfl) ?_
                refine J_cV (rv := some (.int 1)) (h' := hM0) (d' := 10) (As := [.int 0, .int 0, .int 5]) ok_X7_in vi_X7_in cl_7_194 (n := 3) (by decide +kernel) rfl rfl rfl rfl (by decide) (by decide) (dk_X7_isTape 4 _ rfl) ?_ ?_
                · refine jCt_of ok_X7_in (fun _ _ => Nat.le_of_ble_eq_true rfl) (fun _ _ hq => by rw [hq.2]; first | exact Nat.le_refl _ | simp) ?_
                  show J _ _ _ _ _ _ _ _ [(0, .ref 0), (1, .int 0), (2, .int 0), (3, .int 5)] _ _ _
                  refine J_iload_n (i := 1) (a := 1) rfl rfl (dk_X7_in 0 _ rfl) ?_
                  refine J_iload_n (i := 2) (a := 2) rfl rfl (dk_X7_in 1 _ rfl) ?_
                  refine J_icF (tgt := 14) (by decide) (dk_X7_in 2 _ rfl) (jI_nlt (by decide : (0 : Int32).toInt = 0) (by decide : (0 : Int32).toInt = 0) (by omega)) ?_
                  refine J_iload_n (i := 1) (a := 1) rfl rfl (dk_X7_in 5 _ rfl) ?_
                  refine J_iload_n (i := 3) (a := 3) rfl rfl (dk_X7_in 6 _ rfl) ?_
                  refine J_icF (tgt := 14) (by decide) (dk_X7_in 7 _ rfl) (jI_nlt (by decide : (5 : Int32).toInt = 5) (by decide : (0 : Int32).toInt = 0) (by omega)) ?_
                  refine J_iconst (v := 1) (by decide) (dk_X7_in 10 _ rfl) ?_
                  refine J_goto (tgt := 15) (by decide) (dk_X7_in 11 _ rfl) ?_
                  exact J_iret rfl rfl (dk_X7_in 15 _ rfl) ⟨rfl, rfl⟩
                show J _ _ _ _ _ _ _ _ _ [.int 1] _ _
                exact J_iret rfl rfl (dk_X7_isTape 7 _ rfl) ⟨rfl, rfl⟩
              show J _ _ _ _ _ _ _ _ _ [.int 1] _ _
              refine J_ifT (tgt := 10) (by decide) (dk_X7_tape 5 _ rfl) (jI_ne (by decide : (1 : Int32).toInt = 1) (by decide : (0 : Int32).toInt = 0) (by omega)) ?_
              refine J_aload_n (i := 0) (a := 0) rfl rfl (dk_X7_tape 10 _ rfl) ?_
              refine J_iload_n (i := 2) (a := 2) rfl rfl (dk_X7_tape 11 _ rfl) ?_
              refine J_iconst (v := (-1)) (by decide) (dk_X7_tape 12 _ rfl) ?_
              refine J_iconst (v := 4) (by decide) (dk_X7_tape 13 _ rfl) ?_
              refine J_cV (rv := some (.int 1)) (h' := hM0) (d' := 11) (As := [.int (-1), .int (-1), .int 4]) ok_X7_in vi_X7_in cl_7_194 (n := 3) (by decide +kernel) rfl rfl rfl rfl (by decide) (by decide) (dk_X7_tape 14 _ rfl) ?_ ?_
              · refine jCt_of ok_X7_in (fun _ _ => Nat.le_of_ble_eq_true rfl) (fun _ _ hq => by rw [hq.2]; first | exact Nat.le_refl _ | simp) ?_
                show J _ _ _ _ _ _ _ _ [(0, .ref 0), (1, .int (-1)), (2, .int (-1)), (3, .int 4)] _ _ _
                refine J_iload_n (i := 1) (a := 1) rfl rfl (dk_X7_in 0 _ rfl) ?_
                refine J_iload_n (i := 2) (a := 2) rfl rfl (dk_X7_in 1 _ rfl) ?_
                refine J_icF (tgt := 14) (by decide) (dk_X7_in 2 _ rfl) (jI_nlt (by decide : ((-1) : Int32).toInt = (-1)) (by decide : ((-1) : Int32).toInt = (-1)) (by omega)) ?_
                refine J_iload_n (i := 1) (a := 1) rfl rfl (dk_X7_in 5 _ rfl) ?_
                refine J_iload_n (i := 3) (a := 3) rfl rfl (dk_X7_in 6 _ rfl) ?_
                refine J_icF (tgt := 14) (by decide) (dk_X7_in 7 _ rfl) (jI_nlt (by decide : (4 : Int32).toInt = 4) (by decide : ((-1) : Int32).toInt = (-1)) (by omega)) ?_
                refine J_iconst (v := 1) (by decide) (dk_X7_in 10 _ rfl) ?_
                refine J_goto (tgt := 15) (by decide) (dk_X7_in 11 _ rfl) ?_
                exact J_iret rfl rfl (dk_X7_in 15 _ rfl) ⟨rfl, rfl⟩
              show J _ _ _ _ _ _ _ _ _ [.int 1] _ _
              refine J_ifF (tgt := 30) (by decide) (dk_X7_tape 17 _ rfl) (jI_ne (by decide : (1 : Int32).toInt = 1) (by decide : (0 : Int32).toInt = 0) (by omega)) ?_
              refine J_iload_n (i := 2) (a := 2) rfl rfl (dk_X7_tape 20 _ rfl) ?_
              refine J_ifT (tgt := 33) (by decide) (dk_X7_tape 21 _ rfl) (jI_lt (by decide : ((-1) : Int32).toInt = (-1)) (by decide : (0 : Int32).toInt = 0) (by omega)) ?_
              refine J_iload_n (i := 2) (a := 2) rfl rfl (dk_X7_tape 33 _ rfl) ?_
              refine J_ifT (tgt := 44) (by decide) (dk_X7_tape 34 _ rfl) (jI_lt (by decide : ((-1) : Int32).toInt = (-1)) (by decide : (0 : Int32).toInt = 0) (by omega)) ?_
              refine J_aload_n (i := 0) (a := 0) rfl rfl (dk_X7_tape 44 _ rfl) ?_
              refine J_getf fl_7_181 rfl rfl (dk_X7_tape 45 _ rfl) ?_
              refine J_iload_n (i := 1) (a := 1) rfl rfl (dk_X7_tape 48 _ rfl) ?_
              refine J_iload_n (i := 2) (a := 2) rfl rfl (dk_X7_tape 49 _ rfl) ?_
              refine J_iast rfl (by decide) (Nat.le_of_ble_eq_true rfl) (dk_X7_tape 50 _ rfl) ?_
              refine J_aload_n (i := 0) (a := 0) rfl rfl (dk_X7_tape 51 _ rfl) ?_
              refine J_getf fl_7_184 rfl rfl (dk_X7_tape 52 _ rfl) ?_
              refine J_iload_n (i := 1) (a := 1) rfl rfl (dk_X7_tape 55 _ rfl) ?_
              refine J_iload_n (i := 2) (a := 2) rfl rfl (dk_X7_tape 56 _ rfl) ?_
              refine J_ifF (tgt := 64) (by decide) (dk_X7_tape 57 _ rfl) (jI_nle (by decide : (0 : Int32).toInt = 0) (by decide : ((-1) : Int32).toInt = (-1)) (by omega)) ?_
              refine J_iconst (v := 0) (by decide) (dk_X7_tape 60 _ rfl) ?_
              refine J_goto (tgt := 65) (by decide) (dk_X7_tape 61 _ rfl) ?_
              refine J_iast rfl (by decide) (Nat.le_of_ble_eq_true rfl) (dk_X7_tape 65 _ rfl) ?_
              refine J_iconst (v := 0) (by decide) (dk_X7_tape 66 _ rfl) ?_
              refine J_istore (i := 4) (by decide) (dk_X7_tape 67 _ rfl) ?_
              show J _ _ _ _ _ _ _ _ [(4, .int 0), (0, .ref 0), (1, .int 0), (2, .int (-1)), (3, .int n)] _ _ _
              exact lp_tapeM (c := 0) (a := 35) (by decide) (by decide) (by decide) 60 0 (by omega) _ _ rfl rfl rfl rfl rfl
          · by_cases c7 : (t : Int32).toInt = 1
            · obtain rfl : t = 1 := jI_eq rfl (by decide) c7
              refine ⟨1, ?_, ?_⟩
              · refine jCt_of ok_X6_tape (fun _ _ => Nat.le_of_ble_eq_true rfl) (fun _ _ hq => Nat.le_of_eq (lX.trans hq.2.symm)) ?_
                show J _ _ _ _ _ _ _ _ [(0, .ref 0), (1, .int 1), (2, .int (-1)), (3, .int n)] _ _ _
                refine J_iload_n (i := 1) (a := 1) rfl rfl (dk_X6_tape 0 _ rfl) ?_
                refine J_cS (rv := some (.int 1)) (h' := hN0) (d' := 11) (As := [.int 1]) ok_X6_isTape st_X6_isTape cl_6_220 rfl (n := 1) (by decide +kernel) rfl (by decide) (by decide) (dk_X6_tape 1 _ rfl) ?_ ?_
                · refine jCt_of ok_X6_isTape (fun _ _ => Nat.le_of_ble_eq_true rfl) (fun _ _ hq => by rw [hq.2]; first | exact Nat.le_refl _ | simp) ?_
                  show J _ _ _ _ _ _ _ _ [(0, .int 1)] _ _ _
                  refine J_iload_n (i := 0) (a := 0) rfl rfl (dk_X6_isTape 0 _ rfl) ?_
                  refine J_ifF (tgt := 14) (by decide) (dk_X6_isTape 1 _ rfl) (jI_nlt (by decide : (1 : Int32).toInt = 1) (by decide : (0 : Int32).toInt = 0) (by omega)) ?_
                  refine J_iload_n (i := 0) (a := 0) rfl rfl (dk_X6_isTape 4 _ rfl) ?_
                  refine J_bipush (v := 6) (by decide) (dk_X6_isTape 5 _ rfl) ?_
                  refine J_icF (tgt := 14) (by decide) (dk_X6_isTape 7 _ rfl) (jI_nle (by decide : (6 : Int32).toInt = 6) (by decide : (1 : Int32).toInt = 1) (by omega)) ?_
                  refine J_iconst (v := 1) (by decide) (dk_X6_isTape 10 _ rfl) ?_
                  refine J_goto (tgt := 15) (by decide) (dk_X6_isTape 11 _ rfl) ?_
                  exact J_iret rfl rfl (dk_X6_isTape 15 _ rfl) ⟨rfl, rfl⟩
                show J _ _ _ _ _ _ _ _ _ [.int 1] _ _
                refine J_ifT (tgt := 9) (by decide) (dk_X6_tape 4 _ rfl) (jI_ne (by decide : (1 : Int32).toInt = 1) (by decide : (0 : Int32).toInt = 0) (by omega)) ?_
                refine J_iload_n (i := 2) (a := 2) rfl rfl (dk_X6_tape 9 _ rfl) ?_
                refine J_iconst (v := (-1)) (by decide) (dk_X6_tape 10 _ rfl) ?_
                refine J_icF (tgt := 27) (by decide) (dk_X6_tape 11 _ rfl) (fun z => z (jI_eq (by decide : ((-1) : Int32).toInt = (-1)) (by decide : ((-1) : Int32).toInt = (-1)) (by omega))) ?_
                refine J_aload_n (i := 0) (a := 0) rfl rfl (dk_X6_tape 14 _ rfl) ?_
                refine J_getf fl_6_37 rfl rfl (dk_X6_tape 15 _ rfl) ?_
                refine J_iload_n (i := 1) (a := 1) rfl rfl (dk_X6_tape 18 _ rfl) ?_
                refine J_aald (by decide) rfl (by decide) rfl (dk_X6_tape 19 _ rfl) ?_
                refine J_iconst (v := (-1)) (by decide) (dk_X6_tape 20 _ rfl) ?_
                refine J_iconst (v := 0) (by decide) (dk_X6_tape 21 _ rfl) ?_
                refine J_cVq (Q' := fun r k => r = none ∧ k.length = 94) (d' := 3) (As := [.int (-1), .int 0]) ok_X3_become vi_X3_become cl_6_251 (n := 2) (by decide +kernel) rfl rfl rfl rfl (by decide) (by decide) (dk_X6_tape 22 _ rfl) (c_become (a := 85) (by decide) rfl rfl rfl rfl) (fun r h' hq => ?_)
                obtain ⟨rfl, hq⟩ := hq
                show J _ _ _ _ _ _ _ _ [(0, .ref 0), (1, .int 1), (2, .int (-1)), (3, .int n)] _ _ _
                refine J_iconst (v := 1) (by decide) (dk_X6_tape 25 _ rfl) ?_
                exact J_iret rfl rfl (dk_X6_tape 26 _ rfl) ⟨rfl, hq⟩
              · refine jCt_of ok_X7_tape (fun _ _ => Nat.le_of_ble_eq_true rfl) (fun _ _ hq => Nat.le_of_eq (lM.trans hq.2.symm)) ?_
                show J _ _ _ _ _ _ _ _ [(0, .ref 0), (1, .int 1), (2, .int (-1)), (3, .int n)] _ _ _
                refine J_aload_n (i := 0) (a := 0) rfl rfl (dk_X7_tape 0 _ rfl) ?_
                refine J_iload_n (i := 1) (a := 1) rfl rfl (dk_X7_tape 1 _ rfl) ?_
                refine J_cV (rv := some (.int 1)) (h' := hM0) (d' := 11) (As := [.int 1]) ok_X7_isTape vi_X7_isTape cl_7_354 (n := 1) (by decide +kernel) rfl rfl rfl rfl (by decide) (by decide) (dk_X7_tape 2 _ rfl) ?_ ?_
                · refine jCt_of ok_X7_isTape (fun _ _ => Nat.le_of_ble_eq_true rfl) (fun _ _ hq => by rw [hq.2]; first | exact Nat.le_refl _ | simp) ?_
                  show J _ _ _ _ _ _ _ _ [(0, .ref 0), (1, .int 1)] _ _ _
                  refine J_aload_n (i := 0) (a := 0) rfl rfl (dk_X7_isTape 0 _ rfl) ?_
                  refine J_iload_n (i := 1) (a := 1) rfl rfl (dk_X7_isTape 1 _ rfl) ?_
                  refine J_iconst (v := 0) (by decide) (dk_X7_isTape 2 _ rfl) ?_
                  refine J_iconst (v := 5) (by decide) (dk_X7_isTape 3 _ rfl) ?_
                  refine J_cV (rv := some (.int 1)) (h' := hM0) (d' := 10) (As := [.int 1, .int 0, .int 5]) ok_X7_in vi_X7_in cl_7_194 (n := 3) (by decide +kernel) rfl rfl rfl rfl (by decide) (by decide) (dk_X7_isTape 4 _ rfl) ?_ ?_
                  · refine jCt_of ok_X7_in (fun _ _ => Nat.le_of_ble_eq_true rfl) (fun _ _ hq => by rw [hq.2]; first | exact Nat.le_refl _ | simp) ?_
                    show J _ _ _ _ _ _ _ _ [(0, .ref 0), (1, .int 1), (2, .int 0), (3, .int 5)] _ _ _
                    refine J_iload_n (i := 1) (a := 1) rfl rfl (dk_X7_in 0 _ rfl) ?_
                    refine J_iload_n (i := 2) (a := 2) rfl rfl (dk_X7_in 1 _ rfl) ?_
                    refine J_icF (tgt := 14) (by decide) (dk_X7_in 2 _ rfl) (jI_nlt (by decide : (1 : Int32).toInt = 1) (by decide : (0 : Int32).toInt = 0) (by omega)) ?_
                    refine J_iload_n (i := 1) (a := 1) rfl rfl (dk_X7_in 5 _ rfl) ?_
                    refine J_iload_n (i := 3) (a := 3) rfl rfl (dk_X7_in 6 _ rfl) ?_
                    refine J_icF (tgt := 14) (by decide) (dk_X7_in 7 _ rfl) (jI_nlt (by decide : (5 : Int32).toInt = 5) (by decide : (1 : Int32).toInt = 1) (by omega)) ?_
                    refine J_iconst (v := 1) (by decide) (dk_X7_in 10 _ rfl) ?_
                    refine J_goto (tgt := 15) (by decide) (dk_X7_in 11 _ rfl) ?_
                    exact J_iret rfl rfl (dk_X7_in 15 _ rfl) ⟨rfl, rfl⟩
                  show J _ _ _ _ _ _ _ _ _ [.int 1] _ _
                  exact J_iret rfl rfl (dk_X7_isTape 7 _ rfl) ⟨rfl, rfl⟩
                show J _ _ _ _ _ _ _ _ _ [.int 1] _ _
                refine J_ifT (tgt := 10) (by decide) (dk_X7_tape 5 _ rfl) (jI_ne (by decide : (1 : Int32).toInt = 1) (by decide : (0 : Int32).toInt = 0) (by omega)) ?_
                refine J_aload_n (i := 0) (a := 0) rfl rfl (dk_X7_tape 10 _ rfl) ?_
                refine J_iload_n (i := 2) (a := 2) rfl rfl (dk_X7_tape 11 _ rfl) ?_
                refine J_iconst (v := (-1)) (by decide) (dk_X7_tape 12 _ rfl) ?_
                refine J_iconst (v := 4) (by decide) (dk_X7_tape 13 _ rfl) ?_
                refine J_cV (rv := some (.int 1)) (h' := hM0) (d' := 11) (As := [.int (-1), .int (-1), .int 4]) ok_X7_in vi_X7_in cl_7_194 (n := 3) (by decide +kernel) rfl rfl rfl rfl (by decide) (by decide) (dk_X7_tape 14 _ rfl) ?_ ?_
                · refine jCt_of ok_X7_in (fun _ _ => Nat.le_of_ble_eq_true rfl) (fun _ _ hq => by rw [hq.2]; first | exact Nat.le_refl _ | simp) ?_
                  show J _ _ _ _ _ _ _ _ [(0, .ref 0), (1, .int (-1)), (2, .int (-1)), (3, .int 4)] _ _ _
                  refine J_iload_n (i := 1) (a := 1) rfl rfl (dk_X7_in 0 _ rfl) ?_
                  refine J_iload_n (i := 2) (a := 2) rfl rfl (dk_X7_in 1 _ rfl) ?_
                  refine J_icF (tgt := 14) (by decide) (dk_X7_in 2 _ rfl) (jI_nlt (by decide : ((-1) : Int32).toInt = (-1)) (by decide : ((-1) : Int32).toInt = (-1)) (by omega)) ?_
                  refine J_iload_n (i := 1) (a := 1) rfl rfl (dk_X7_in 5 _ rfl) ?_
                  refine J_iload_n (i := 3) (a := 3) rfl rfl (dk_X7_in 6 _ rfl) ?_
                  refine J_icF (tgt := 14) (by decide) (dk_X7_in 7 _ rfl) (jI_nlt (by decide : (4 : Int32).toInt = 4) (by decide : ((-1) : Int32).toInt = (-1)) (by omega)) ?_
                  refine J_iconst (v := 1) (by decide) (dk_X7_in 10 _ rfl) ?_
                  refine J_goto (tgt := 15) (by decide) (dk_X7_in 11 _ rfl) ?_
                  exact J_iret rfl rfl (dk_X7_in 15 _ rfl) ⟨rfl, rfl⟩
                show J _ _ _ _ _ _ _ _ _ [.int 1] _ _
                refine J_ifF (tgt := 30) (by decide) (dk_X7_tape 17 _ rfl) (jI_ne (by decide : (1 : Int32).toInt = 1) (by decide : (0 : Int32).toInt = 0) (by omega)) ?_
                refine J_iload_n (i := 2) (a := 2) rfl rfl (dk_X7_tape 20 _ rfl) ?_
                refine J_ifT (tgt := 33) (by decide) (dk_X7_tape 21 _ rfl) (jI_lt (by decide : ((-1) : Int32).toInt = (-1)) (by decide : (0 : Int32).toInt = 0) (by omega)) ?_
                refine J_iload_n (i := 2) (a := 2) rfl rfl (dk_X7_tape 33 _ rfl) ?_
                refine J_ifT (tgt := 44) (by decide) (dk_X7_tape 34 _ rfl) (jI_lt (by decide : ((-1) : Int32).toInt = (-1)) (by decide : (0 : Int32).toInt = 0) (by omega)) ?_
                refine J_aload_n (i := 0) (a := 0) rfl rfl (dk_X7_tape 44 _ rfl) ?_
                refine J_getf fl_7_181 rfl rfl (dk_X7_tape 45 _ rfl) ?_
                refine J_iload_n (i := 1) (a := 1) rfl rfl (dk_X7_tape 48 _ rfl) ?_
                refine J_iload_n (i := 2) (a := 2) rfl rfl (dk_X7_tape 49 _ rfl) ?_
                refine J_iast rfl (by decide) (Nat.le_of_ble_eq_true rfl) (dk_X7_tape 50 _ rfl) ?_
                refine J_aload_n (i := 0) (a := 0) rfl rfl (dk_X7_tape 51 _ rfl) ?_
                refine J_getf fl_7_184 rfl rfl (dk_X7_tape 52 _ rfl) ?_
                refine J_iload_n (i := 1) (a := 1) rfl rfl (dk_X7_tape 55 _ rfl) ?_
                refine J_iload_n (i := 2) (a := 2) rfl rfl (dk_X7_tape 56 _ rfl) ?_
                refine J_ifF (tgt := 64) (by decide) (dk_X7_tape 57 _ rfl) (jI_nle (by decide : (0 : Int32).toInt = 0) (by decide : ((-1) : Int32).toInt = (-1)) (by omega)) ?_
                refine J_iconst (v := 0) (by decide) (dk_X7_tape 60 _ rfl) ?_
                refine J_goto (tgt := 65) (by decide) (dk_X7_tape 61 _ rfl) ?_
                refine J_iast rfl (by decide) (Nat.le_of_ble_eq_true rfl) (dk_X7_tape 65 _ rfl) ?_
                refine J_iconst (v := 0) (by decide) (dk_X7_tape 66 _ rfl) ?_
                refine J_istore (i := 4) (by decide) (dk_X7_tape 67 _ rfl) ?_
                show J _ _ _ _ _ _ _ _ [(4, .int 0), (0, .ref 0), (1, .int 1), (2, .int (-1)), (3, .int n)] _ _ _
                exact lp_tapeM (c := 1) (a := 35) (by decide) (by decide) (by decide) 60 0 (by omega) _ _ rfl rfl rfl rfl rfl
            · by_cases c8 : (t : Int32).toInt = 2
              · obtain rfl : t = 2 := jI_eq rfl (by decide) c8
                refine ⟨1, ?_, ?_⟩
                · refine jCt_of ok_X6_tape (fun _ _ => Nat.le_of_ble_eq_true rfl) (fun _ _ hq => Nat.le_of_eq (lX.trans hq.2.symm)) ?_
                  show J _ _ _ _ _ _ _ _ [(0, .ref 0), (1, .int 2), (2, .int (-1)), (3, .int n)] _ _ _
                  refine J_iload_n (i := 1) (a := 1) rfl rfl (dk_X6_tape 0 _ rfl) ?_
                  refine J_cS (rv := some (.int 1)) (h' := hN0) (d' := 11) (As := [.int 2]) ok_X6_isTape st_X6_isTape cl_6_220 rfl (n := 1) (by decide +kernel) rfl (by decide) (by decide) (dk_X6_tape 1 _ rfl) ?_ ?_
                  · refine jCt_of ok_X6_isTape (fun _ _ => Nat.le_of_ble_eq_true rfl) (fun _ _ hq => by rw [hq.2]; first | exact Nat.le_refl _ | simp) ?_
                    show J _ _ _ _ _ _ _ _ [(0, .int 2)] _ _ _
                    refine J_iload_n (i := 0) (a := 0) rfl rfl (dk_X6_isTape 0 _ rfl) ?_
                    refine J_ifF (tgt := 14) (by decide) (dk_X6_isTape 1 _ rfl) (jI_nlt (by decide : (2 : Int32).toInt = 2) (by decide : (0 : Int32).toInt = 0) (by omega)) ?_
                    refine J_iload_n (i := 0) (a := 0) rfl rfl (dk_X6_isTape 4 _ rfl) ?_
                    refine J_bipush (v := 6) (by decide) (dk_X6_isTape 5 _ rfl) ?_
                    refine J_icF (tgt := 14) (by decide) (dk_X6_isTape 7 _ rfl) (jI_nle (by decide : (6 : Int32).toInt = 6) (by decide : (2 : Int32).toInt = 2) (by omega)) ?_
                    refine J_iconst (v := 1) (by decide) (dk_X6_isTape 10 _ rfl) ?_
                    refine J_goto (tgt := 15) (by decide) (dk_X6_isTape 11 _ rfl) ?_
                    exact J_iret rfl rfl (dk_X6_isTape 15 _ rfl) ⟨rfl, rfl⟩
                  show J _ _ _ _ _ _ _ _ _ [.int 1] _ _
                  refine J_ifT (tgt := 9) (by decide) (dk_X6_tape 4 _ rfl) (jI_ne (by decide : (1 : Int32).toInt = 1) (by decide : (0 : Int32).toInt = 0) (by omega)) ?_
                  refine J_iload_n (i := 2) (a := 2) rfl rfl (dk_X6_tape 9 _ rfl) ?_
                  refine J_iconst (v := (-1)) (by decide) (dk_X6_tape 10 _ rfl) ?_
                  refine J_icF (tgt := 27) (by decide) (dk_X6_tape 11 _ rfl) (fun z => z (jI_eq (by decide : ((-1) : Int32).toInt = (-1)) (by decide : ((-1) : Int32).toInt = (-1)) (by omega))) ?_
                  refine J_aload_n (i := 0) (a := 0) rfl rfl (dk_X6_tape 14 _ rfl) ?_
                  refine J_getf fl_6_37 rfl rfl (dk_X6_tape 15 _ rfl) ?_
                  refine J_iload_n (i := 1) (a := 1) rfl rfl (dk_X6_tape 18 _ rfl) ?_
                  refine J_aald (by decide) rfl (by decide) rfl (dk_X6_tape 19 _ rfl) ?_
                  refine J_iconst (v := (-1)) (by decide) (dk_X6_tape 20 _ rfl) ?_
                  refine J_iconst (v := 0) (by decide) (dk_X6_tape 21 _ rfl) ?_
                  refine J_cVq (Q' := fun r k => r = none ∧ k.length = 94) (d' := 3) (As := [.int (-1), .int 0]) ok_X3_become vi_X3_become cl_6_251 (n := 2) (by decide +kernel) rfl rfl rfl rfl (by decide) (by decide) (dk_X6_tape 22 _ rfl) (c_become (a := 87) (by decide) rfl rfl rfl rfl) (fun r h' hq => ?_)
                  obtain ⟨rfl, hq⟩ := hq
                  show J _ _ _ _ _ _ _ _ [(0, .ref 0), (1, .int 2), (2, .int (-1)), (3, .int n)] _ _ _
                  refine J_iconst (v := 1) (by decide) (dk_X6_tape 25 _ rfl) ?_
                  exact J_iret rfl rfl (dk_X6_tape 26 _ rfl) ⟨rfl, hq⟩
                · refine jCt_of ok_X7_tape (fun _ _ => Nat.le_of_ble_eq_true rfl) (fun _ _ hq => Nat.le_of_eq (lM.trans hq.2.symm)) ?_
                  show J _ _ _ _ _ _ _ _ [(0, .ref 0), (1, .int 2), (2, .int (-1)), (3, .int n)] _ _ _
                  refine J_aload_n (i := 0) (a := 0) rfl rfl (dk_X7_tape 0 _ rfl) ?_
                  refine J_iload_n (i := 1) (a := 1) rfl rfl (dk_X7_tape 1 _ rfl) ?_
                  refine J_cV (rv := some (.int 1)) (h' := hM0) (d' := 11) (As := [.int 2]) ok_X7_isTape vi_X7_isTape cl_7_354 (n := 1) (by decide +kernel) rfl rfl rfl rfl (by decide) (by decide) (dk_X7_tape 2 _ rfl) ?_ ?_
                  · refine jCt_of ok_X7_isTape (fun _ _ => Nat.le_of_ble_eq_true rfl) (fun _ _ hq => by rw [hq.2]; first | exact Nat.le_refl _ | simp) ?_
                    show J _ _ _ _ _ _ _ _ [(0, .ref 0), (1, .int 2)] _ _ _
                    refine J_aload_n (i := 0) (a := 0) rfl rfl (dk_X7_isTape 0 _ rfl) ?_
                    refine J_iload_n (i := 1) (a := 1) rfl rfl (dk_X7_isTape 1 _ rfl) ?_
                    refine J_iconst (v := 0) (by decide) (dk_X7_isTape 2 _ rfl) ?_
                    refine J_iconst (v := 5) (by decide) (dk_X7_isTape 3 _ rfl) ?_
                    refine J_cV (rv := some (.int 1)) (h' := hM0) (d' := 10) (As := [.int 2, .int 0, .int 5]) ok_X7_in vi_X7_in cl_7_194 (n := 3) (by decide +kernel) rfl rfl rfl rfl (by decide) (by decide) (dk_X7_isTape 4 _ rfl) ?_ ?_
                    · refine jCt_of ok_X7_in (fun _ _ => Nat.le_of_ble_eq_true rfl) (fun _ _ hq => by rw [hq.2]; first | exact Nat.le_refl _ | simp) ?_
                      show J _ _ _ _ _ _ _ _ [(0, .ref 0), (1, .int 2), (2, .int 0), (3, .int 5)] _ _ _
                      refine J_iload_n (i := 1) (a := 1) rfl rfl (dk_X7_in 0 _ rfl) ?_
                      refine J_iload_n (i := 2) (a := 2) rfl rfl (dk_X7_in 1 _ rfl) ?_
                      refine J_icF (tgt := 14) (by decide) (dk_X7_in 2 _ rfl) (jI_nlt (by decide : (2 : Int32).toInt = 2) (by decide : (0 : Int32).toInt = 0) (by omega)) ?_
                      refine J_iload_n (i := 1) (a := 1) rfl rfl (dk_X7_in 5 _ rfl) ?_
                      refine J_iload_n (i := 3) (a := 3) rfl rfl (dk_X7_in 6 _ rfl) ?_
                      refine J_icF (tgt := 14) (by decide) (dk_X7_in 7 _ rfl) (jI_nlt (by decide : (5 : Int32).toInt = 5) (by decide : (2 : Int32).toInt = 2) (by omega)) ?_
                      refine J_iconst (v := 1) (by decide) (dk_X7_in 10 _ rfl) ?_
                      refine J_goto (tgt := 15) (by decide) (dk_X7_in 11 _ rfl) ?_
                      exact J_iret rfl rfl (dk_X7_in 15 _ rfl) ⟨rfl, rfl⟩
                    show J _ _ _ _ _ _ _ _ _ [.int 1] _ _
                    exact J_iret rfl rfl (dk_X7_isTape 7 _ rfl) ⟨rfl, rfl⟩
                  show J _ _ _ _ _ _ _ _ _ [.int 1] _ _
                  refine J_ifT (tgt := 10) (by decide) (dk_X7_tape 5 _ rfl) (jI_ne (by decide : (1 : Int32).toInt = 1) (by decide : (0 : Int32).toInt = 0) (by omega)) ?_
                  refine J_aload_n (i := 0) (a := 0) rfl rfl (dk_X7_tape 10 _ rfl) ?_
                  refine J_iload_n (i := 2) (a := 2) rfl rfl (dk_X7_tape 11 _ rfl) ?_
                  refine J_iconst (v := (-1)) (by decide) (dk_X7_tape 12 _ rfl) ?_
                  refine J_iconst (v := 4) (by decide) (dk_X7_tape 13 _ rfl) ?_
                  refine J_cV (rv := some (.int 1)) (h' := hM0) (d' := 11) (As := [.int (-1), .int (-1), .int 4]) ok_X7_in vi_X7_in cl_7_194 (n := 3) (by decide +kernel) rfl rfl rfl rfl (by decide) (by decide) (dk_X7_tape 14 _ rfl) ?_ ?_
                  · refine jCt_of ok_X7_in (fun _ _ => Nat.le_of_ble_eq_true rfl) (fun _ _ hq => by rw [hq.2]; first | exact Nat.le_refl _ | simp) ?_
                    show J _ _ _ _ _ _ _ _ [(0, .ref 0), (1, .int (-1)), (2, .int (-1)), (3, .int 4)] _ _ _
                    refine J_iload_n (i := 1) (a := 1) rfl rfl (dk_X7_in 0 _ rfl) ?_
                    refine J_iload_n (i := 2) (a := 2) rfl rfl (dk_X7_in 1 _ rfl) ?_
                    refine J_icF (tgt := 14) (by decide) (dk_X7_in 2 _ rfl) (jI_nlt (by decide : ((-1) : Int32).toInt = (-1)) (by decide : ((-1) : Int32).toInt = (-1)) (by omega)) ?_
                    refine J_iload_n (i := 1) (a := 1) rfl rfl (dk_X7_in 5 _ rfl) ?_
                    refine J_iload_n (i := 3) (a := 3) rfl rfl (dk_X7_in 6 _ rfl) ?_
                    refine J_icF (tgt := 14) (by decide) (dk_X7_in 7 _ rfl) (jI_nlt (by decide : (4 : Int32).toInt = 4) (by decide : ((-1) : Int32).toInt = (-1)) (by omega)) ?_
                    refine J_iconst (v := 1) (by decide) (dk_X7_in 10 _ rfl) ?_
                    refine J_goto (tgt := 15) (by decide) (dk_X7_in 11 _ rfl) ?_
                    exact J_iret rfl rfl (dk_X7_in 15 _ rfl) ⟨rfl, rfl⟩
                  show J _ _ _ _ _ _ _ _ _ [.int 1] _ _
                  refine J_ifF (tgt := 30) (by decide) (dk_X7_tape 17 _ rfl) (jI_ne (by decide : (1 : Int32).toInt = 1) (by decide : (0 : Int32).toInt = 0) (by omega)) ?_
                  refine J_iload_n (i := 2) (a := 2) rfl rfl (dk_X7_tape 20 _ rfl) ?_
                  refine J_ifT (tgt := 33) (by decide) (dk_X7_tape 21 _ rfl) (jI_lt (by decide : ((-1) : Int32).toInt = (-1)) (by decide : (0 : Int32).toInt = 0) (by omega)) ?_
                  refine J_iload_n (i := 2) (a := 2) rfl rfl (dk_X7_tape 33 _ rfl) ?_
                  refine J_ifT (tgt := 44) (by decide) (dk_X7_tape 34 _ rfl) (jI_lt (by decide : ((-1) : Int32).toInt = (-1)) (by decide : (0 : Int32).toInt = 0) (by omega)) ?_
                  refine J_aload_n (i := 0) (a := 0) rfl rfl (dk_X7_tape 44 _ rfl) ?_
                  refine J_getf fl_7_181 rfl rfl (dk_X7_tape 45 _ rfl) ?_
                  refine J_iload_n (i := 1) (a := 1) rfl rfl (dk_X7_tape 48 _ rfl) ?_
                  refine J_iload_n (i := 2) (a := 2) rfl rfl (dk_X7_tape 49 _ rfl) ?_
                  refine J_iast rfl (by decide) (Nat.le_of_ble_eq_true rfl) (dk_X7_tape 50 _ rfl) ?_
                  refine J_aload_n (i := 0) (a := 0) rfl rfl (dk_X7_tape 51 _ rfl) ?_
                  refine J_getf fl_7_184 rfl rfl (dk_X7_tape 52 _ rfl) ?_
                  refine J_iload_n (i := 1) (a := 1) rfl rfl (dk_X7_tape 55 _ rfl) ?_
                  refine J_iload_n (i := 2) (a := 2) rfl rfl (dk_X7_tape 56 _ rfl) ?_
                  refine J_ifF (tgt := 64) (by decide) (dk_X7_tape 57 _ rfl) (jI_nle (by decide : (0 : Int32).toInt = 0) (by decide : ((-1) : Int32).toInt = (-1)) (by omega)) ?_
                  refine J_iconst (v := 0) (by decide) (dk_X7_tape 60 _ rfl) ?_
                  refine J_goto (tgt := 65) (by decide) (dk_X7_tape 61 _ rfl) ?_
                  refine J_iast rfl (by decide) (Nat.le_of_ble_eq_true rfl) (dk_X7_tape 65 _ rfl) ?_
                  refine J_iconst (v := 0) (by decide) (dk_X7_tape 66 _ rfl) ?_
                  refine J_istore (i := 4) (by decide) (dk_X7_tape 67 _ rfl) ?_
                  show J _ _ _ _ _ _ _ _ [(4, .int 0), (0, .ref 0), (1, .int 2), (2, .int (-1)), (3, .int n)] _ _ _
                  exact lp_tapeM (c := 2) (a := 35) (by decide) (by decide) (by decide) 60 0 (by omega) _ _ rfl rfl rfl rfl rfl
              · by_cases c9 : (t : Int32).toInt = 3
                · obtain rfl : t = 3 := jI_eq rfl (by decide) c9
                  refine ⟨1, ?_, ?_⟩
                  · refine jCt_of ok_X6_tape (fun _ _ => Nat.le_of_ble_eq_true rfl) (fun _ _ hq => Nat.le_of_eq (lX.trans hq.2.symm)) ?_
                    show J _ _ _ _ _ _ _ _ [(0, .ref 0), (1, .int 3), (2, .int (-1)), (3, .int n)] _ _ _
                    refine J_iload_n (i := 1) (a := 1) rfl rfl (dk_X6_tape 0 _ rfl) ?_
                    refine J_cS (rv := some (.int 1)) (h' := hN0) (d' := 11) (As := [.int 3]) ok_X6_isTape st_X6_isTape cl_6_220 rfl (n := 1) (by decide +kernel) rfl (by decide) (by decide) (dk_X6_tape 1 _ rfl) ?_ ?_
                    · refine jCt_of ok_X6_isTape (fun _ _ => Nat.le_of_ble_eq_true rfl) (fun _ _ hq => by rw [hq.2]; first | exact Nat.le_refl _ | simp) ?_
                      show J _ _ _ _ _ _ _ _ [(0, .int 3)] _ _ _
                      refine J_iload_n (i := 0) (a := 0) rfl rfl (dk_X6_isTape 0 _ rfl) ?_
                      refine J_ifF (tgt := 14) (by decide) (dk_X6_isTape 1 _ rfl) (jI_nlt (by decide : (3 : Int32).toInt = 3) (by decide : (0 : Int32).toInt = 0) (by omega)) ?_
                      refine J_iload_n (i := 0) (a := 0) rfl rfl (dk_X6_isTape 4 _ rfl) ?_
                      refine J_bipush (v := 6) (by decide) (dk_X6_isTape 5 _ rfl) ?_
                      refine J_icF (tgt := 14) (by decide) (dk_X6_isTape 7 _ rfl) (jI_nle (by decide : (6 : Int32).toInt = 6) (by decide : (3 : Int32).toInt = 3) (by omega)) ?_
                      refine J_iconst (v := 1) (by decide) (dk_X6_isTape 10 _ rfl) ?_
                      refine J_goto (tgt := 15) (by decide) (dk_X6_isTape 11 _ rfl) ?_
                      exact J_iret rfl rfl (dk_X6_isTape 15 _ rfl) ⟨rfl, rfl⟩
                    show J _ _ _ _ _ _ _ _ _ [.int 1] _ _
                    refine J_ifT (tgt := 9) (by decide) (dk_X6_tape 4 _ rfl) (jI_ne (by decide : (1 : Int32).toInt = 1) (by decide : (0 : Int32).toInt = 0) (by omega)) ?_
                    refine J_iload_n (i := 2) (a := 2) rfl rfl (dk_X6_tape 9 _ rfl) ?_
                    refine J_iconst (v := (-1)) (by decide) (dk_X6_tape 10 _ rfl) ?_
                    refine J_icF (tgt := 27) (by decide) (dk_X6_tape 11 _ rfl) (fun z => z (jI_eq (by decide : ((-1) : Int32).toInt = (-1)) (by decide : ((-1) : Int32).toInt = (-1)) (by omega))) ?_
                    refine J_aload_n (i := 0) (a := 0) rfl rfl (dk_X6_tape 14 _ rfl) ?_
                    refine J_getf fl_6_37 rfl rfl (dk_X6_tape 15 _ rfl) ?_
                    refine J_iload_n (i := 1) (a := 1) rfl rfl (dk_X6_tape 18 _ rfl) ?_
                    refine J_aald (by decide) rfl (by decide) rfl (dk_X6_tape 19 _ rfl) ?_
                    refine J_iconst (v := (-1)) (by decide) (dk_X6_tape 20 _ rfl) ?_
                    refine J_iconst (v := 0) (by decide) (dk_X6_tape 21 _ rfl) ?_
                    refine J_cVq (Q' := fun r k => r = none ∧ k.length = 94) (d' := 3) (As := [.int (-1), .int 0]) ok_X3_become vi_X3_become cl_6_251 (n := 2) (by decide +kernel) rfl rfl rfl rfl (by decide) (by decide) (dk_X6_tape 22 _ rfl) (c_become (a := 89) (by decide) rfl rfl rfl rfl) (fun r h' hq => ?_)
                    obtain ⟨rfl, hq⟩ := hq
                    show J _ _ _ _ _ _ _ _ [(0, .ref 0), (1, .int 3), (2, .int (-1)), (3, .int n)] _ _ _
                    refine J_iconst (v := 1) (by decide) (dk_X6_tape 25 _ rfl) ?_
                    exact J_iret rfl rfl (dk_X6_tape 26 _ rfl) ⟨rfl, hq⟩
                  · refine jCt_of ok_X7_tape (fun _ _ => Nat.le_of_ble_eq_true rfl) (fun _ _ hq => Nat.le_of_eq (lM.trans hq.2.symm)) ?_
                    show J _ _ _ _ _ _ _ _ [(0, .ref 0), (1, .int 3), (2, .int (-1)), (3, .int n)] _ _ _
                    refine J_aload_n (i := 0) (a := 0) rfl rfl (dk_X7_tape 0 _ rfl) ?_
                    refine J_iload_n (i := 1) (a := 1) rfl rfl (dk_X7_tape 1 _ rfl) ?_
                    refine J_cV (rv := some (.int 1)) (h' := hM0) (d' := 11) (As := [.int 3]) ok_X7_isTape vi_X7_isTape cl_7_354 (n := 1) (by decide +kernel) rfl rfl rfl rfl (by decide) (by decide) (dk_X7_tape 2 _ rfl) ?_ ?_
                    · refine jCt_of ok_X7_isTape (fun _ _ => Nat.le_of_ble_eq_true rfl) (fun _ _ hq => by rw [hq.2]; first | exact Nat.le_refl _ | simp) ?_
                      show J _ _ _ _ _ _ _ _ [(0, .ref 0), (1, .int 3)] _ _ _
                      refine J_aload_n (i := 0) (a := 0) rfl rfl (dk_X7_isTape 0 _ rfl) ?_
                      refine J_iload_n (i := 1) (a := 1) rfl rfl (dk_X7_isTape 1 _ rfl) ?_
                      refine J_iconst (v := 0) (by decide) (dk_X7_isTape 2 _ rfl) ?_
                      refine J_iconst (v := 5) (by decide) (dk_X7_isTape 3 _ rfl) ?_
                      refine J_cV (rv := some (.int 1)) (h' := hM0) (d' := 10) (As := [.int 3, .int 0, .int 5]) ok_X7_in vi_X7_in cl_7_194 (n := 3) (by decide +kernel) rfl rfl rfl rfl (by decide) (by decide) (dk_X7_isTape 4 _ rfl) ?_ ?_
                      · refine jCt_of ok_X7_in (fun _ _ => Nat.le_of_ble_eq_true rfl) (fun _ _ hq => by rw [hq.2]; first | exact Nat.le_refl _ | simp) ?_
                        show J _ _ _ _ _ _ _ _ [(0, .ref 0), (1, .int 3), (2, .int 0), (3, .int 5)] _ _ _
                        refine J_iload_n (i := 1) (a := 1) rfl rfl (dk_X7_in 0 _ rfl) ?_
                        refine J_iload_n (i := 2) (a := 2) rfl rfl (dk_X7_in 1 _ rfl) ?_
                        refine J_icF (tgt := 14) (by decide) (dk_X7_in 2 _ rfl) (jI_nlt (by decide : (3 : Int32).toInt = 3) (by decide : (0 : Int32).toInt = 0) (by omega)) ?_
                        refine J_iload_n (i := 1) (a := 1) rfl rfl (dk_X7_in 5 _ rfl) ?_
                        refine J_iload_n (i := 3) (a := 3) rfl rfl (dk_X7_in 6 _ rfl) ?_
                        refine J_icF (tgt := 14) (by decide) (dk_X7_in 7 _ rfl) (jI_nlt (by decide : (5 : Int32).toInt = 5) (by decide : (3 : Int32).toInt = 3) (by omega)) ?_
                        refine J_iconst (v := 1) (by decide) (dk_X7_in 10 _ rfl) ?_
                        refine J_goto (tgt := 15) (by decide) (dk_X7_in 11 _ rfl) ?_
                        exact J_iret rfl rfl (dk_X7_in 15 _ rfl) ⟨rfl, rfl⟩
                      show J _ _ _ _ _ _ _ _ _ [.int 1] _ _
                      exact J_iret rfl rfl (dk_X7_isTape 7 _ rfl) ⟨rfl, rfl⟩
                    show J _ _ _ _ _ _ _ _ _ [.int 1] _ _
                    refine J_ifT (tgt := 10) (by decide) (dk_X7_tape 5 _ rfl) (jI_ne (by decide : (1 : Int32).toInt = 1) (by decide : (0 : Int32).toInt = 0) (by omega)) ?_
                    refine J_aload_n (i := 0) (a := 0) rfl rfl (dk_X7_tape 10 _ rfl) ?_
                    refine J_iload_n (i := 2) (a := 2) rfl rfl (dk_X7_tape 11 _ rfl) ?_
                    refine J_iconst (v := (-1)) (by decide) (dk_X7_tape 12 _ rfl) ?_
                    refine J_iconst (v := 4) (by decide) (dk_X7_tape 13 _ rfl) ?_
                    refine J_cV (rv := some (.int 1)) (h' := hM0) (d' := 11) (As := [.int (-1), .int (-1), .int 4]) ok_X7_in vi_X7_in cl_7_194 (n := 3) (by decide +kernel) rfl rfl rfl rfl (by decide) (by decide) (dk_X7_tape 14 _ rfl) ?_ ?_
                    · refine jCt_of ok_X7_in (fun _ _ => Nat.le_of_ble_eq_true rfl) (fun _ _ hq => by rw [hq.2]; first | exact Nat.le_refl _ | simp) ?_
                      show J _ _ _ _ _ _ _ _ [(0, .ref 0), (1, .int (-1)), (2, .int (-1)), (3, .int 4)] _ _ _
                      refine J_iload_n (i := 1) (a := 1) rfl rfl (dk_X7_in 0 _ rfl) ?_
                      refine J_iload_n (i := 2) (a := 2) rfl rfl (dk_X7_in 1 _ rfl) ?_
                      refine J_icF (tgt := 14) (by decide) (dk_X7_in 2 _ rfl) (jI_nlt (by decide : ((-1) : Int32).toInt = (-1)) (by decide : ((-1) : Int32).toInt = (-1)) (by omega)) ?_
                      refine J_iload_n (i := 1) (a := 1) rfl rfl (dk_X7_in 5 _ rfl) ?_
                      refine J_iload_n (i := 3) (a := 3) rfl rfl (dk_X7_in 6 _ rfl) ?_
                      refine J_icF (tgt := 14) (by decide) (dk_X7_in 7 _ rfl) (jI_nlt (by decide : (4 : Int32).toInt = 4) (by decide : ((-1) : Int32).toInt = (-1)) (by omega)) ?_
                      refine J_iconst (v := 1) (by decide) (dk_X7_in 10 _ rfl) ?_
                      refine J_goto (tgt := 15) (by decide) (dk_X7_in 11 _ rfl) ?_
                      exact J_iret rfl rfl (dk_X7_in 15 _ rfl) ⟨rfl, rfl⟩
                    show J _ _ _ _ _ _ _ _ _ [.int 1] _ _
                    refine J_ifF (tgt := 30) (by decide) (dk_X7_tape 17 _ rfl) (jI_ne (by decide : (1 : Int32).toInt = 1) (by decide : (0 : Int32).toInt = 0) (by omega)) ?_
                    refine J_iload_n (i := 2) (a := 2) rfl rfl (dk_X7_tape 20 _ rfl) ?_
                    refine J_ifT (tgt := 33) (by decide) (dk_X7_tape 21 _ rfl) (jI_lt (by decide : ((-1) : Int32).toInt = (-1)) (by decide : (0 : Int32).toInt = 0) (by omega)) ?_
                    refine J_iload_n (i := 2) (a := 2) rfl rfl (dk_X7_tape 33 _ rfl) ?_
                    refine J_ifT (tgt := 44) (by decide) (dk_X7_tape 34 _ rfl) (jI_lt (by decide : ((-1) : Int32).toInt = (-1)) (by decide : (0 : Int32).toInt = 0) (by omega)) ?_
                    refine J_aload_n (i := 0) (a := 0) rfl rfl (dk_X7_tape 44 _ rfl) ?_
                    refine J_getf fl_7_181 rfl rfl (dk_X7_tape 45 _ rfl) ?_
                    refine J_iload_n (i := 1) (a := 1) rfl rfl (dk_X7_tape 48 _ rfl) ?_
                    refine J_iload_n (i := 2) (a := 2) rfl rfl (dk_X7_tape 49 _ rfl) ?_
                    refine J_iast rfl (by decide) (Nat.le_of_ble_eq_true rfl) (dk_X7_tape 50 _ rfl) ?_
                    refine J_aload_n (i := 0) (a := 0) rfl rfl (dk_X7_tape 51 _ rfl) ?_
                    refine J_getf fl_7_184 rfl rfl (dk_X7_tape 52 _ rfl) ?_
                    refine J_iload_n (i := 1) (a := 1) rfl rfl (dk_X7_tape 55 _ rfl) ?_
                    refine J_iload_n (i := 2) (a := 2) rfl rfl (dk_X7_tape 56 _ rfl) ?_
                    refine J_ifF (tgt := 64) (by decide) (dk_X7_tape 57 _ rfl) (jI_nle (by decide : (0 : Int32).toInt = 0) (by decide : ((-1) : Int32).toInt = (-1)) (by omega)) ?_
                    refine J_iconst (v := 0) (by decide) (dk_X7_tape 60 _ rfl) ?_
                    refine J_goto (tgt := 65) (by decide) (dk_X7_tape 61 _ rfl) ?_
                    refine J_iast rfl (by decide) (Nat.le_of_ble_eq_true rfl) (dk_X7_tape 65 _ rfl) ?_
                    refine J_iconst (v := 0) (by decide) (dk_X7_tape 66 _ rfl) ?_
                    refine J_istore (i := 4) (by decide) (dk_X7_tape 67 _ rfl) ?_
                    show J _ _ _ _ _ _ _ _ [(4, .int 0), (0, .ref 0), (1, .int 3), (2, .int (-1)), (3, .int n)] _ _ _
                    exact lp_tapeM (c := 3) (a := 35) (by decide) (by decide) (by decide) 60 0 (by omega) _ _ rfl rfl rfl rfl rfl
                · by_cases c10 : (t : Int32).toInt = 4
                  · obtain rfl : t = 4 := jI_eq rfl (by decide) c10
                    refine ⟨1, ?_, ?_⟩
                    · refine jCt_of ok_X6_tape (fun _ _ => Nat.le_of_ble_eq_true rfl) (fun _ _ hq => Nat.le_of_eq (lX.trans hq.2.symm)) ?_
                      show J _ _ _ _ _ _ _ _ [(0, .ref 0), (1, .int 4), (2, .int (-1)), (3, .int n)] _ _ _
                      refine J_iload_n (i := 1) (a := 1) rfl rfl (dk_X6_tape 0 _ rfl) ?_
                      refine J_cS (rv := some (.int 1)) (h' := hN0) (d' := 11) (As := [.int 4]) ok_X6_isTape st_X6_isTape cl_6_220 rfl (n := 1) (by decide +kernel) rfl (by decide) (by decide) (dk_X6_tape 1 _ rfl) ?_ ?_
                      · refine jCt_of ok_X6_isTape (fun _ _ => Nat.le_of_ble_eq_true rfl) (fun _ _ hq => by rw [hq.2]; first | exact Nat.le_refl _ | simp) ?_
                        show J _ _ _ _ _ _ _ _ [(0, .int 4)] _ _ _
                        refine J_iload_n (i := 0) (a := 0) rfl rfl (dk_X6_isTape 0 _ rfl) ?_
                        refine J_ifF (tgt := 14) (by decide) (dk_X6_isTape 1 _ rfl) (jI_nlt (by decide : (4 : Int32).toInt = 4) (by decide : (0 : Int32).toInt = 0) (by omega)) ?_
                        refine J_iload_n (i := 0) (a := 0) rfl rfl (dk_X6_isTape 4 _ rfl) ?_
                        refine J_bipush (v := 6) (by decide) (dk_X6_isTape 5 _ rfl) ?_
                        refine J_icF (tgt := 14) (by decide) (dk_X6_isTape 7 _ rfl) (jI_nle (by decide : (6 : Int32).toInt = 6) (by decide : (4 : Int32).toInt = 4) (by omega)) ?_
                        refine J_iconst (v := 1) (by decide) (dk_X6_isTape 10 _ rfl) ?_
                        refine J_goto (tgt := 15) (by decide) (dk_X6_isTape 11 _ rfl) ?_
                        exact J_iret rfl rfl (dk_X6_isTape 15 _ rfl) ⟨rfl, rfl⟩
                      show J _ _ _ _ _ _ _ _ _ [.int 1] _ _
                      refine J_ifT (tgt := 9) (by decide) (dk_X6_tape 4 _ rfl) (jI_ne (by decide : (1 : Int32).toInt = 1) (by decide : (0 : Int32).toInt = 0) (by omega)) ?_
                      refine J_iload_n (i := 2) (a := 2) rfl rfl (dk_X6_tape 9 _ rfl) ?_
                      refine J_iconst (v := (-1)) (by decide) (dk_X6_tape 10 _ rfl) ?_
                      refine J_icF (tgt := 27) (by decide) (dk_X6_tape 11 _ rfl) (fun z => z (jI_eq (by decide : ((-1) : Int32).toInt = (-1)) (by decide : ((-1) : Int32).toInt = (-1)) (by omega))) ?_
                      refine J_aload_n (i := 0) (a := 0) rfl rfl (dk_X6_tape 14 _ rfl) ?_
                      refine J_getf fl_6_37 rfl rfl (dk_X6_tape 15 _ rfl) ?_
                      refine J_iload_n (i := 1) (a := 1) rfl rfl (dk_X6_tape 18 _ rfl) ?_
                      refine J_aald (by decide) rfl (by decide) rfl (dk_X6_tape 19 _ rfl) ?_
                      refine J_iconst (v := (-1)) (by decide) (dk_X6_tape 20 _ rfl) ?_
                      refine J_iconst (v := 0) (by decide) (dk_X6_tape 21 _ rfl) ?_
                      refine J_cVq (Q' := fun r k => r = none ∧ k.length = 94) (d' := 3) (As := [.int (-1), .int 0]) ok_X3_become vi_X3_become cl_6_251 (n := 2) (by decide +kernel) rfl rfl rfl rfl (by decide) (by decide) (dk_X6_tape 22 _ rfl) (c_become (a := 91) (by decide) rfl rfl rfl rfl) (fun r h' hq => ?_)
                      obtain ⟨rfl, hq⟩ := hq
                      show J _ _ _ _ _ _ _ _ [(0, .ref 0), (1, .int 4), (2, .int (-1)), (3, .int n)] _ _ _
                      refine J_iconst (v := 1) (by decide) (dk_X6_tape 25 _ rfl) ?_
                      exact J_iret rfl rfl (dk_X6_tape 26 _ rfl) ⟨rfl, hq⟩
                    · refine jCt_of ok_X7_tape (fun _ _ => Nat.le_of_ble_eq_true rfl) (fun _ _ hq => Nat.le_of_eq (lM.trans hq.2.symm)) ?_
                      show J _ _ _ _ _ _ _ _ [(0, .ref 0), (1, .int 4), (2, .int (-1)), (3, .int n)] _ _ _
                      refine J_aload_n (i := 0) (a := 0) rfl rfl (dk_X7_tape 0 _ rfl) ?_
                      refine J_iload_n (i := 1) (a := 1) rfl rfl (dk_X7_tape 1 _ rfl) ?_
                      refine J_cV (rv := some (.int 1)) (h' := hM0) (d' := 11) (As := [.int 4]) ok_X7_isTape vi_X7_isTape cl_7_354 (n := 1) (by decide +kernel) rfl rfl rfl rfl (by decide) (by decide) (dk_X7_tape 2 _ rfl) ?_ ?_
                      · refine jCt_of ok_X7_isTape (fun _ _ => Nat.le_of_ble_eq_true rfl) (fun _ _ hq => by rw [hq.2]; first | exact Nat.le_refl _ | simp) ?_
                        show J _ _ _ _ _ _ _ _ [(0, .ref 0), (1, .int 4)] _ _ _
                        refine J_aload_n (i := 0) (a := 0) rfl rfl (dk_X7_isTape 0 _ rfl) ?_
                        refine J_iload_n (i := 1) (a := 1) rfl rfl (dk_X7_isTape 1 _ rfl) ?_
                        refine J_iconst (v := 0) (by decide) (dk_X7_isTape 2 _ rfl) ?_
                        refine J_iconst (v := 5) (by decide) (dk_X7_isTape 3 _ rfl) ?_
                        refine J_cV (rv := some (.int 1)) (h' := hM0) (d' := 10) (As := [.int 4, .int 0, .int 5]) ok_X7_in vi_X7_in cl_7_194 (n := 3) (by decide +kernel) rfl rfl rfl rfl (by decide) (by decide) (dk_X7_isTape 4 _ rfl) ?_ ?_
                        · refine jCt_of ok_X7_in (fun _ _ => Nat.le_of_ble_eq_true rfl) (fun _ _ hq => by rw [hq.2]; first | exact Nat.le_refl _ | simp) ?_
                          show J _ _ _ _ _ _ _ _ [(0, .ref 0), (1, .int 4), (2, .int 0), (3, .int 5)] _ _ _
                          refine J_iload_n (i := 1) (a := 1) rfl rfl (dk_X7_in 0 _ rfl) ?_
                          refine J_iload_n (i := 2) (a := 2) rfl rfl (dk_X7_in 1 _ rfl) ?_
                          refine J_icF (tgt := 14) (by decide) (dk_X7_in 2 _ rfl) (jI_nlt (by decide : (4 : Int32).toInt = 4) (by decide : (0 : Int32).toInt = 0) (by omega)) ?_
                          refine J_iload_n (i := 1) (a := 1) rfl rfl (dk_X7_in 5 _ rfl) ?_
                          refine J_iload_n (i := 3) (a := 3) rfl rfl (dk_X7_in 6 _ rfl) ?_
                          refine J_icF (tgt := 14) (by decide) (dk_X7_in 7 _ rfl) (jI_nlt (by decide : (5 : Int32).toInt = 5) (by decide : (4 : Int32).toInt = 4) (by omega)) ?_
                          refine J_iconst (v := 1) (by decide) (dk_X7_in 10 _ rfl) ?_
                          refine J_goto (tgt := 15) (by decide) (dk_X7_in 11 _ rfl) ?_
                          exact J_iret rfl rfl (dk_X7_in 15 _ rfl) ⟨rfl, rfl⟩
                        show J _ _ _ _ _ _ _ _ _ [.int 1] _ _
                        exact J_iret rfl rfl (dk_X7_isTape 7 _ rfl) ⟨rfl, rfl⟩
                      show J _ _ _ _ _ _ _ _ _ [.int 1] _ _
                      refine J_ifT (tgt := 10) (by decide) (dk_X7_tape 5 _ rfl) (jI_ne (by decide : (1 : Int32).toInt = 1) (by decide : (0 : Int32).toInt = 0) (by omega)) ?_
                      refine J_aload_n (i := 0) (a := 0) rfl rfl (dk_X7_tape 10 _ rfl) ?_
                      refine J_iload_n (i := 2) (a := 2) rfl rfl (dk_X7_tape 11 _ rfl) ?_
                      refine J_iconst (v := (-1)) (by decide) (dk_X7_tape 12 _ rfl) ?_
                      refine J_iconst (v := 4) (by decide) (dk_X7_tape 13 _ rfl) ?_
                      refine J_cV (rv := some (.int 1)) (h' := hM0) (d' := 11) (As := [.int (-1), .int (-1), .int 4]) ok_X7_in vi_X7_in cl_7_194 (n := 3) (by decide +kernel) rfl rfl rfl rfl (by decide) (by decide) (dk_X7_tape 14 _ rfl) ?_ ?_
                      · refine jCt_of ok_X7_in (fun _ _ => Nat.le_of_ble_eq_true rfl) (fun _ _ hq => by rw [hq.2]; first | exact Nat.le_refl _ | simp) ?_
                        show J _ _ _ _ _ _ _ _ [(0, .ref 0), (1, .int (-1)), (2, .int (-1)), (3, .int 4)] _ _ _
                        refine J_iload_n (i := 1) (a := 1) rfl rfl (dk_X7_in 0 _ rfl) ?_
                        refine J_iload_n (i := 2) (a := 2) rfl rfl (dk_X7_in 1 _ rfl) ?_
                        refine J_icF (tgt := 14) (by decide) (dk_X7_in 2 _ rfl) (jI_nlt (by decide : ((-1) : Int32).toInt = (-1)) (by decide : ((-1) : Int32).toInt = (-1)) (by omega)) ?_
                        refine J_iload_n (i := 1) (a := 1) rfl rfl (dk_X7_in 5 _ rfl) ?_
                        refine J_iload_n (i := 3) (a := 3) rfl rfl (dk_X7_in 6 _ rfl) ?_
                        refine J_icF (tgt := 14) (by decide) (dk_X7_in 7 _ rfl) (jI_nlt (by decide : (4 : Int32).toInt = 4) (by decide : ((-1) : Int32).toInt = (-1)) (by omega)) ?_
                        refine J_iconst (v := 1) (by decide) (dk_X7_in 10 _ rfl) ?_
                        refine J_goto (tgt := 15) (by decide) (dk_X7_in 11 _ rfl) ?_
                        exact J_iret rfl rfl (dk_X7_in 15 _ rfl) ⟨rfl, rfl⟩
                      show J _ _ _ _ _ _ _ _ _ [.int 1] _ _
                      refine J_ifF (tgt := 30) (by decide) (dk_X7_tape 17 _ rfl) (jI_ne (by decide : (1 : Int32).toInt = 1) (by decide : (0 : Int32).toInt = 0) (by omega)) ?_
                      refine J_iload_n (i := 2) (a := 2) rfl rfl (dk_X7_tape 20 _ rfl) ?_
                      refine J_ifT (tgt := 33) (by decide) (dk_X7_tape 21 _ rfl) (jI_lt (by decide : ((-1) : Int32).toInt = (-1)) (by decide : (0 : Int32).toInt = 0) (by omega)) ?_
                      refine J_iload_n (i := 2) (a := 2) rfl rfl (dk_X7_tape 33 _ rfl) ?_
                      refine J_ifT (tgt := 44) (by decide) (dk_X7_tape 34 _ rfl) (jI_lt (by decide : ((-1) : Int32).toInt = (-1)) (by decide : (0 : Int32).toInt = 0) (by omega)) ?_
                      refine J_aload_n (i := 0) (a := 0) rfl rfl (dk_X7_tape 44 _ rfl) ?_
                      refine J_getf fl_7_181 rfl rfl (dk_X7_tape 45 _ rfl) ?_
                      refine J_iload_n (i := 1) (a := 1) rfl rfl (dk_X7_tape 48 _ rfl) ?_
                      refine J_iload_n (i := 2) (a := 2) rfl rfl (dk_X7_tape 49 _ rfl) ?_
                      refine J_iast rfl (by decide) (Nat.le_of_ble_eq_true rfl) (dk_X7_tape 50 _ rfl) ?_
                      refine J_aload_n (i := 0) (a := 0) rfl rfl (dk_X7_tape 51 _ rfl) ?_
                      refine J_getf fl_7_184 rfl rfl (dk_X7_tape 52 _ rfl) ?_
                      refine J_iload_n (i := 1) (a := 1) rfl rfl (dk_X7_tape 55 _ rfl) ?_
                      refine J_iload_n (i := 2) (a := 2) rfl rfl (dk_X7_tape 56 _ rfl) ?_
                      refine J_ifF (tgt := 64) (by decide) (dk_X7_tape 57 _ rfl) (jI_nle (by decide : (0 : Int32).toInt = 0) (by decide : ((-1) : Int32).toInt = (-1)) (by omega)) ?_
                      refine J_iconst (v := 0) (by decide) (dk_X7_tape 60 _ rfl) ?_
                      refine J_goto (tgt := 65) (by decide) (dk_X7_tape 61 _ rfl) ?_
                      refine J_iast rfl (by decide) (Nat.le_of_ble_eq_true rfl) (dk_X7_tape 65 _ rfl) ?_
                      refine J_iconst (v := 0) (by decide) (dk_X7_tape 66 _ rfl) ?_
                      refine J_istore (i := 4) (by decide) (dk_X7_tape 67 _ rfl) ?_
                      show J _ _ _ _ _ _ _ _ [(4, .int 0), (0, .ref 0), (1, .int 4), (2, .int (-1)), (3, .int n)] _ _ _
                      exact lp_tapeM (c := 4) (a := 35) (by decide) (by decide) (by decide) 60 0 (by omega) _ _ rfl rfl rfl rfl rfl
                  · obtain rfl : t = 5 := jI_eq rfl (by decide) (by omega : (t : Int32).toInt = 5)
                    refine ⟨1, ?_, ?_⟩
                    · refine jCt_of ok_X6_tape (fun _ _ => Nat.le_of_ble_eq_true rfl) (fun _ _ hq => Nat.le_of_eq (lX.trans hq.2.symm)) ?_
                      show J _ _ _ _ _ _ _ _ [(0, .ref 0), (1, .int 5), (2, .int (-1)), (3, .int n)] _ _ _
                      refine J_iload_n (i := 1) (a := 1) rfl rfl (dk_X6_tape 0 _ rfl) ?_
                      refine J_cS (rv := some (.int 1)) (h' := hN0) (d' := 11) (As := [.int 5]) ok_X6_isTape st_X6_isTape cl_6_220 rfl (n := 1) (by decide +kernel) rfl (by decide) (by decide) (dk_X6_tape 1 _ rfl) ?_ ?_
                      · refine jCt_of ok_X6_isTape (fun _ _ => Nat.le_of_ble_eq_true rfl) (fun _ _ hq => by rw [hq.2]; first | exact Nat.le_refl _ | simp) ?_
                        show J _ _ _ _ _ _ _ _ [(0, .int 5)] _ _ _
                        refine J_iload_n (i := 0) (a := 0) rfl rfl (dk_X6_isTape 0 _ rfl) ?_
                        refine J_ifF (tgt := 14) (by decide) (dk_X6_isTape 1 _ rfl) (jI_nlt (by decide : (5 : Int32).toInt = 5) (by decide : (0 : Int32).toInt = 0) (by omega)) ?_
                        refine J_iload_n (i := 0) (a := 0) rfl rfl (dk_X6_isTape 4 _ rfl) ?_
                        refine J_bipush (v := 6) (by decide) (dk_X6_isTape 5 _ rfl) ?_
                        refine J_icF (tgt := 14) (by decide) (dk_X6_isTape 7 _ rfl) (jI_nle (by decide : (6 : Int32).toInt = 6) (by decide : (5 : Int32).toInt = 5) (by omega)) ?_
                        refine J_iconst (v := 1) (by decide) (dk_X6_isTape 10 _ rfl) ?_
                        refine J_goto (tgt := 15) (by decide) (dk_X6_isTape 11 _ rfl) ?_
                        exact J_iret rfl rfl (dk_X6_isTape 15 _ rfl) ⟨rfl, rfl⟩
                      show J _ _ _ _ _ _ _ _ _ [.int 1] _ _
                      refine J_ifT (tgt := 9) (by decide) (dk_X6_tape 4 _ rfl) (jI_ne (by decide : (1 : Int32).toInt = 1) (by decide : (0 : Int32).toInt = 0) (by omega)) ?_
                      refine J_iload_n (i := 2) (a := 2) rfl rfl (dk_X6_tape 9 _ rfl) ?_
                      refine J_iconst (v := (-1)) (by decide) (dk_X6_tape 10 _ rfl) ?_
                      refine J_icF (tgt := 27) (by decide) (dk_X6_tape 11 _ rfl) (fun z => z (jI_eq (by decide : ((-1) : Int32).toInt = (-1)) (by decide : ((-1) : Int32).toInt = (-1)) (by omega))) ?_
                      refine J_aload_n (i := 0) (a := 0) rfl rfl (dk_X6_tape 14 _ rfl) ?_
                      refine J_getf fl_6_37 rfl rfl (dk_X6_tape 15 _ rfl) ?_
                      refine J_iload_n (i := 1) (a := 1) rfl rfl (dk_X6_tape 18 _ rfl) ?_
                      refine J_aald (by decide) rfl (by decide) rfl (dk_X6_tape 19 _ rfl) ?_
                      refine J_iconst (v := (-1)) (by decide) (dk_X6_tape 20 _ rfl) ?_
                      refine J_iconst (v := 0) (by decide) (dk_X6_tape 21 _ rfl) ?_
                      refine J_cVq (Q' := fun r k => r = none ∧ k.length = 94) (d' := 3) (As := [.int (-1), .int 0]) ok_X3_become vi_X3_become cl_6_251 (n := 2) (by decide +kernel) rfl rfl rfl rfl (by decide) (by decide) (dk_X6_tape 22 _ rfl) (c_become (a := 93) (by decide) rfl rfl rfl rfl) (fun r h' hq => ?_)
                      obtain ⟨rfl, hq⟩ := hq
                      show J _ _ _ _ _ _ _ _ [(0, .ref 0), (1, .int 5), (2, .int (-1)), (3, .int n)] _ _ _
                      refine J_iconst (v := 1) (by decide) (dk_X6_tape 25 _ rfl) ?_
                      exact J_iret rfl rfl (dk_X6_tape 26 _ rfl) ⟨rfl, hq⟩
                    · refine jCt_of ok_X7_tape (fun _ _ => Nat.le_of_ble_eq_true rfl) (fun _ _ hq => Nat.le_of_eq (lM.trans hq.2.symm)) ?_
                      show J _ _ _ _ _ _ _ _ [(0, .ref 0), (1, .int 5), (2, .int (-1)), (3, .int n)] _ _ _
                      refine J_aload_n (i := 0) (a := 0) rfl rfl (dk_X7_tape 0 _ rfl) ?_
                      refine J_iload_n (i := 1) (a := 1) rfl rfl (dk_X7_tape 1 _ rfl) ?_
                      refine J_cV (rv := some (.int 1)) (h' := hM0) (d' := 11) (As := [.int 5]) ok_X7_isTape vi_X7_isTape cl_7_354 (n := 1) (by decide +kernel) rfl rfl rfl rfl (by decide) (by decide) (dk_X7_tape 2 _ rfl) ?_ ?_
                      · refine jCt_of ok_X7_isTape (fun _ _ => Nat.le_of_ble_eq_true rfl) (fun _ _ hq => by rw [hq.2]; first | exact Nat.le_refl _ | simp) ?_
                        show J _ _ _ _ _ _ _ _ [(0, .ref 0), (1, .int 5)] _ _ _
                        refine J_aload_n (i := 0) (a := 0) rfl rfl (dk_X7_isTape 0 _ rfl) ?_
                        refine J_iload_n (i := 1) (a := 1) rfl rfl (dk_X7_isTape 1 _ rfl) ?_
                        refine J_iconst (v := 0) (by decide) (dk_X7_isTape 2 _ rfl) ?_
                        refine J_iconst (v := 5) (by decide) (dk_X7_isTape 3 _ rfl) ?_
                        refine J_cV (rv := some (.int 1)) (h' := hM0) (d' := 10) (As := [.int 5, .int 0, .int 5]) ok_X7_in vi_X7_in cl_7_194 (n := 3) (by decide +kernel) rfl rfl rfl rfl (by decide) (by decide) (dk_X7_isTape 4 _ rfl) ?_ ?_
                        · refine jCt_of ok_X7_in (fun _ _ => Nat.le_of_ble_eq_true rfl) (fun _ _ hq => by rw [hq.2]; first | exact Nat.le_refl _ | simp) ?_
                          show J _ _ _ _ _ _ _ _ [(0, .ref 0), (1, .int 5), (2, .int 0), (3, .int 5)] _ _ _
                          refine J_iload_n (i := 1) (a := 1) rfl rfl (dk_X7_in 0 _ rfl) ?_
                          refine J_iload_n (i := 2) (a := 2) rfl rfl (dk_X7_in 1 _ rfl) ?_
                          refine J_icF (tgt := 14) (by decide) (dk_X7_in 2 _ rfl) (jI_nlt (by decide : (5 : Int32).toInt = 5) (by decide : (0 : Int32).toInt = 0) (by omega)) ?_
                          refine J_iload_n (i := 1) (a := 1) rfl rfl (dk_X7_in 5 _ rfl) ?_
                          refine J_iload_n (i := 3) (a := 3) rfl rfl (dk_X7_in 6 _ rfl) ?_
                          refine J_icF (tgt := 14) (by decide) (dk_X7_in 7 _ rfl) (jI_nlt (by decide : (5 : Int32).toInt = 5) (by decide : (5 : Int32).toInt = 5) (by omega)) ?_
                          refine J_iconst (v := 1) (by decide) (dk_X7_in 10 _ rfl) ?_
                          refine J_goto (tgt := 15) (by decide) (dk_X7_in 11 _ rfl) ?_
                          exact J_iret rfl rfl (dk_X7_in 15 _ rfl) ⟨rfl, rfl⟩
                        show J _ _ _ _ _ _ _ _ _ [.int 1] _ _
                        exact J_iret rfl rfl (dk_X7_isTape 7 _ rfl) ⟨rfl, rfl⟩
                      show J _ _ _ _ _ _ _ _ _ [.int 1] _ _
                      refine J_ifT (tgt := 10) (by decide) (dk_X7_tape 5 _ rfl) (jI_ne (by decide : (1 : Int32).toInt = 1) (by decide : (0 : Int32).toInt = 0) (by omega)) ?_
                      refine J_aload_n (i := 0) (a := 0) rfl rfl (dk_X7_tape 10 _ rfl) ?_
                      refine J_iload_n (i := 2) (a := 2) rfl rfl (dk_X7_tape 11 _ rfl) ?_
                      refine J_iconst (v := (-1)) (by decide) (dk_X7_tape 12 _ rfl) ?_
                      refine J_iconst (v := 4) (by decide) (dk_X7_tape 13 _ rfl) ?_
                      refine J_cV (rv := some (.int 1)) (h' := hM0) (d' := 11) (As := [.int (-1), .int (-1), .int 4]) ok_X7_in vi_X7_in cl_7_194 (n := 3) (by decide +kernel) rfl rfl rfl rfl (by decide) (by decide) (dk_X7_tape 14 _ rfl) ?_ ?_
                      · refine jCt_of ok_X7_in (fun _ _ => Nat.le_of_ble_eq_true rfl) (fun _ _ hq => by rw [hq.2]; first | exact Nat.le_refl _ | simp) ?_
                        show J _ _ _ _ _ _ _ _ [(0, .ref 0), (1, .int (-1)), (2, .int (-1)), (3, .int 4)] _ _ _
                        refine J_iload_n (i := 1) (a := 1) rfl rfl (dk_X7_in 0 _ rfl) ?_
                        refine J_iload_n (i := 2) (a := 2) rfl rfl (dk_X7_in 1 _ rfl) ?_
                        refine J_icF (tgt := 14) (by decide) (dk_X7_in 2 _ rfl) (jI_nlt (by decide : ((-1) : Int32).toInt = (-1)) (by decide : ((-1) : Int32).toInt = (-1)) (by omega)) ?_
                        refine J_iload_n (i := 1) (a := 1) rfl rfl (dk_X7_in 5 _ rfl) ?_
                        refine J_iload_n (i := 3) (a := 3) rfl rfl (dk_X7_in 6 _ rfl) ?_
                        refine J_icF (tgt := 14) (by decide) (dk_X7_in 7 _ rfl) (jI_nlt (by decide : (4 : Int32).toInt = 4) (by decide : ((-1) : Int32).toInt = (-1)) (by omega)) ?_
                        refine J_iconst (v := 1) (by decide) (dk_X7_in 10 _ rfl) ?_
                        refine J_goto (tgt := 15) (by decide) (dk_X7_in 11 _ rfl) ?_
                        exact J_iret rfl rfl (dk_X7_in 15 _ rfl) ⟨rfl, rfl⟩
                      show J _ _ _ _ _ _ _ _ _ [.int 1] _ _
                      refine J_ifF (tgt := 30) (by decide) (dk_X7_tape 17 _ rfl) (jI_ne (by decide : (1 : Int32).toInt = 1) (by decide : (0 : Int32).toInt = 0) (by omega)) ?_
                      refine J_iload_n (i := 2) (a := 2) rfl rfl (dk_X7_tape 20 _ rfl) ?_
                      refine J_ifT (tgt := 33) (by decide) (dk_X7_tape 21 _ rfl) (jI_lt (by decide : ((-1) : Int32).toInt = (-1)) (by decide : (0 : Int32).toInt = 0) (by omega)) ?_
                      refine J_iload_n (i := 2) (a := 2) rfl rfl (dk_X7_tape 33 _ rfl) ?_
                      refine J_ifT (tgt := 44) (by decide) (dk_X7_tape 34 _ rfl) (jI_lt (by decide : ((-1) : Int32).toInt = (-1)) (by decide : (0 : Int32).toInt = 0) (by omega)) ?_
                      refine J_aload_n (i := 0) (a := 0) rfl rfl (dk_X7_tape 44 _ rfl) ?_
                      refine J_getf fl_7_181 rfl rfl (dk_X7_tape 45 _ rfl) ?_
                      refine J_iload_n (i := 1) (a := 1) rfl rfl (dk_X7_tape 48 _ rfl) ?_
                      refine J_iload_n (i := 2) (a := 2) rfl rfl (dk_X7_tape 49 _ rfl) ?_
                      refine J_iast rfl (by decide) (Nat.le_of_ble_eq_true rfl) (dk_X7_tape 50 _ rfl) ?_
                      refine J_aload_n (i := 0) (a := 0) rfl rfl (dk_X7_tape 51 _ rfl) ?_
                      refine J_getf fl_7_184 rfl rfl (dk_X7_tape 52 _ rfl) ?_
                      refine J_iload_n (i := 1) (a := 1) rfl rfl (dk_X7_tape 55 _ rfl) ?_
                      refine J_iload_n (i := 2) (a := 2) rfl rfl (dk_X7_tape 56 _ rfl) ?_
                      refine J_ifF (tgt := 64) (by decide) (dk_X7_tape 57 _ rfl) (jI_nle (by decide : (0 : Int32).toInt = 0) (by decide : ((-1) : Int32).toInt = (-1)) (by omega)) ?_
                      refine J_iconst (v := 0) (by decide) (dk_X7_tape 60 _ rfl) ?_
                      refine J_goto (tgt := 65) (by decide) (dk_X7_tape 61 _ rfl) ?_
                      refine J_iast rfl (by decide) (Nat.le_of_ble_eq_true rfl) (dk_X7_tape 65 _ rfl) ?_
                      refine J_iconst (v := 0) (by decide) (dk_X7_tape 66 _ rfl) ?_
                      refine J_istore (i := 4) (by decide) (dk_X7_tape 67 _ rfl) ?_
                      show J _ _ _ _ _ _ _ _ [(4, .int 0), (0, .ref 0), (1, .int 5), (2, .int (-1)), (3, .int n)] _ _ _
                      exact lp_tapeM (c := 5) (a := 35) (by decide) (by decide) (by decide) 60 0 (by omega) _ _ rfl rfl rfl rfl rfl
        · by_cases c12 : (s : Int32).toInt < 5
          · by_cases c13 : (n : Int32).toInt < 61
            · by_cases c14 : (n : Int32).toInt < 0
              · refine ⟨(-14), ?_, ?_⟩
                · refine jCt_of ok_X6_tape (fun _ _ => Nat.le_of_ble_eq_true rfl) (fun _ _ hq => Nat.le_of_eq (lX.trans hq.2.symm)) ?_
                  show J _ _ _ _ _ _ _ _ [(0, .ref 0), (1, .int t), (2, .int s), (3, .int n)] _ _ _
                  refine J_iload_n (i := 1) (a := 1) rfl rfl (dk_X6_tape 0 _ rfl) ?_
                  refine J_cS (rv := some (.int 1)) (h' := hN0) (d' := 11) (As := [.int t]) ok_X6_isTape st_X6_isTape cl_6_220 rfl (n := 1) (by decide +kernel) rfl (by decide) (by decide) (dk_X6_tape 1 _ rfl) ?_ ?_
                  · refine jCt_of ok_X6_isTape (fun _ _ => Nat.le_of_ble_eq_true rfl) (fun _ _ hq => by rw [hq.2]; first | exact Nat.le_refl _ | simp) ?_
                    show J _ _ _ _ _ _ _ _ [(0, .int t)] _ _ _
                    refine J_iload_n (i := 0) (a := 0) rfl rfl (dk_X6_isTape 0 _ rfl) ?_
                    refine J_ifF (tgt := 14) (by decide) (dk_X6_isTape 1 _ rfl) (jI_nlt (rfl : (t : Int32).toInt = (t : Int32).toInt) (by decide : (0 : Int32).toInt = 0) (by omega)) ?_
                    refine J_iload_n (i := 0) (a := 0) rfl rfl (dk_X6_isTape 4 _ rfl) ?_
                    refine J_bipush (v := 6) (by decide) (dk_X6_isTape 5 _ rfl) ?_
                    refine J_icF (tgt := 14) (by decide) (dk_X6_isTape 7 _ rfl) (jI_nle (by decide : (6 : Int32).toInt = 6) (rfl : (t : Int32).toInt = (t : Int32).toInt) (by omega)) ?_
                    refine J_iconst (v := 1) (by decide) (dk_X6_isTape 10 _ rfl) ?_
                    refine J_goto (tgt := 15) (by decide) (dk_X6_isTape 11 _ rfl) ?_
                    exact J_iret rfl rfl (dk_X6_isTape 15 _ rfl) ⟨rfl, rfl⟩
                  show J _ _ _ _ _ _ _ _ _ [.int 1] _ _
                  refine J_ifT (tgt := 9) (by decide) (dk_X6_tape 4 _ rfl) (jI_ne (by decide : (1 : Int32).toInt = 1) (by decide : (0 : Int32).toInt = 0) (by omega)) ?_
                  refine J_iload_n (i := 2) (a := 2) rfl rfl (dk_X6_tape 9 _ rfl) ?_
                  refine J_iconst (v := (-1)) (by decide) (dk_X6_tape 10 _ rfl) ?_
                  refine J_icT (tgt := 27) (by decide) (dk_X6_tape 11 _ rfl) (jI_ne (rfl : (s : Int32).toInt = (s : Int32).toInt) (by decide : ((-1) : Int32).toInt = (-1)) (by omega)) ?_
                  refine J_iload_n (i := 2) (a := 2) rfl rfl (dk_X6_tape 27 _ rfl) ?_
                  refine J_ifF (tgt := 42) (by decide) (dk_X6_tape 28 _ rfl) (jI_nlt (rfl : (s : Int32).toInt = (s : Int32).toInt) (by decide : (0 : Int32).toInt = 0) (by omega)) ?_
                  refine J_iload_n (i := 2) (a := 2) rfl rfl (dk_X6_tape 31 _ rfl) ?_
                  refine J_iconst (v := 4) (by decide) (dk_X6_tape 32 _ rfl) ?_
                  refine J_icF (tgt := 42) (by decide) (dk_X6_tape 33 _ rfl) (jI_nlt (by decide : (4 : Int32).toInt = 4) (rfl : (s : Int32).toInt = (s : Int32).toInt) (by omega)) ?_
                  refine J_iload_n (i := 3) (a := 3) rfl rfl (dk_X6_tape 36 _ rfl) ?_
                  refine J_bipush (v := 60) (by decide) (dk_X6_tape 37 _ rfl) ?_
                  refine J_icT (tgt := 45) (by decide) (dk_X6_tape 39 _ rfl) (jI_le (rfl : (n : Int32).toInt = (n : Int32).toInt) (by decide : (60 : Int32).toInt = 60) (by omega)) ?_
                  refine J_iload_n (i := 3) (a := 3) rfl rfl (dk_X6_tape 45 _ rfl) ?_
                  refine J_ifF (tgt := 52) (by decide) (dk_X6_tape 46 _ rfl) (jI_nle (by decide : (0 : Int32).toInt = 0) (rfl : (n : Int32).toInt = (n : Int32).toInt) (by omega)) ?_
                  refine J_bipush (v := (-14)) (by decide) (dk_X6_tape 49 _ rfl) ?_
                  exact J_iret rfl rfl (dk_X6_tape 51 _ rfl) ⟨rfl, rfl⟩
                · refine jCt_of ok_X7_tape (fun _ _ => Nat.le_of_ble_eq_true rfl) (fun _ _ hq => Nat.le_of_eq (lM.trans hq.2.symm)) ?_
                  show J _ _ _ _ _ _ _ _ [(0, .ref 0), (1, .int t), (2, .int s), (3, .int n)] _ _ _
                  refine J_aload_n (i := 0) (a := 0) rfl rfl (dk_X7_tape 0 _ rfl) ?_
                  refine J_iload_n (i := 1) (a := 1) rfl rfl (dk_X7_tape 1 _ rfl) ?_
                  refine J_cV (rv := some (.int 1)) (h' := hM0) (d' := 11) (As := [.int t]) ok_X7_isTape vi_X7_isTape cl_7_354 (n := 1) (by decide +kernel) rfl rfl rfl rfl (by decide) (by decide) (dk_X7_tape 2 _ rfl) ?_ ?_
                  · refine jCt_of ok_X7_isTape (fun _ _ => Nat.le_of_ble_eq_true rfl) (fun _ _ hq => by rw [hq.2]; first | exact Nat.le_refl _ | simp) ?_
                    show J _ _ _ _ _ _ _ _ [(0, .ref 0), (1, .int t)] _ _ _
                    refine J_aload_n (i := 0) (a := 0) rfl rfl (dk_X7_isTape 0 _ rfl) ?_
                    refine J_iload_n (i := 1) (a := 1) rfl rfl (dk_X7_isTape 1 _ rfl) ?_
                    refine J_iconst (v := 0) (by decide) (dk_X7_isTape 2 _ rfl) ?_
                    refine J_iconst (v := 5) (by decide) (dk_X7_isTape 3 _ rfl) ?_
                    refine J_cV (rv := some (.int 1)) (h' := hM0) (d' := 10) (As := [.int t, .int 0, .int 5]) ok_X7_in vi_X7_in cl_7_194 (n := 3) (by decide +kernel) rfl rfl rfl rfl (by decide) (by decide) (dk_X7_isTape 4 _ rfl) ?_ ?_
                    · refine jCt_of ok_X7_in (fun _ _ => Nat.le_of_ble_eq_true rfl) (fun _ _ hq => by rw [hq.2]; first | exact Nat.le_refl _ | simp) ?_
                      show J _ _ _ _ _ _ _ _ [(0, .ref 0), (1, .int t), (2, .int 0), (3, .int 5)] _ _ _
                      refine J_iload_n (i := 1) (a := 1) rfl rfl (dk_X7_in 0 _ rfl) ?_
                      refine J_iload_n (i := 2) (a := 2) rfl rfl (dk_X7_in 1 _ rfl) ?_
                      refine J_icF (tgt := 14) (by decide) (dk_X7_in 2 _ rfl) (jI_nlt (rfl : (t : Int32).toInt = (t : Int32).toInt) (by decide : (0 : Int32).toInt = 0) (by omega)) ?_
                      refine J_iload_n (i := 1) (a := 1) rfl rfl (dk_X7_in 5 _ rfl) ?_
                      refine J_iload_n (i := 3) (a := 3) rfl rfl (dk_X7_in 6 _ rfl) ?_
                      refine J_icF (tgt := 14) (by decide) (dk_X7_in 7 _ rfl) (jI_nlt (by decide : (5 : Int32).toInt = 5) (rfl : (t : Int32).toInt = (t : Int32).toInt) (by omega)) ?_
                      refine J_iconst (v := 1) (by decide) (dk_X7_in 10 _ rfl) ?_
                      refine J_goto (tgt := 15) (by decide) (dk_X7_in 11 _ rfl) ?_
                      exact J_iret rfl rfl (dk_X7_in 15 _ rfl) ⟨rfl, rfl⟩
                    show J _ _ _ _ _ _ _ _ _ [.int 1] _ _
                    exact J_iret rfl rfl (dk_X7_isTape 7 _ rfl) ⟨rfl, rfl⟩
                  show J _ _ _ _ _ _ _ _ _ [.int 1] _ _
                  refine J_ifT (tgt := 10) (by decide) (dk_X7_tape 5 _ rfl) (jI_ne (by decide : (1 : Int32).toInt = 1) (by decide : (0 : Int32).toInt = 0) (by omega)) ?_
                  refine J_aload_n (i := 0) (a := 0) rfl rfl (dk_X7_tape 10 _ rfl) ?_
                  refine J_iload_n (i := 2) (a := 2) rfl rfl (dk_X7_tape 11 _ rfl) ?_
                  refine J_iconst (v := (-1)) (by decide) (dk_X7_tape 12 _ rfl) ?_
                  refine J_iconst (v := 4) (by decide) (dk_X7_tape 13 _ rfl) ?_
                  refine J_cV (rv := some (.int 1)) (h' := hM0) (d' := 11) (As := [.int s, .int (-1), .int 4]) ok_X7_in vi_X7_in cl_7_194 (n := 3) (by decide +kernel) rfl rfl rfl rfl (by decide) (by decide) (dk_X7_tape 14 _ rfl) ?_ ?_
                  · refine jCt_of ok_X7_in (fun _ _ => Nat.le_of_ble_eq_true rfl) (fun _ _ hq => by rw [hq.2]; first | exact Nat.le_refl _ | simp) ?_
                    show J _ _ _ _ _ _ _ _ [(0, .ref 0), (1, .int s), (2, .int (-1)), (3, .int 4)] _ _ _
                    refine J_iload_n (i := 1) (a := 1) rfl rfl (dk_X7_in 0 _ rfl) ?_
                    refine J_iload_n (i := 2) (a := 2) rfl rfl (dk_X7_in 1 _ rfl) ?_
                    refine J_icF (tgt := 14) (by decide) (dk_X7_in 2 _ rfl) (jI_nlt (rfl : (s : Int32).toInt = (s : Int32).toInt) (by decide : ((-1) : Int32).toInt = (-1)) (by omega)) ?_
                    refine J_iload_n (i := 1) (a := 1) rfl rfl (dk_X7_in 5 _ rfl) ?_
                    refine J_iload_n (i := 3) (a := 3) rfl rfl (dk_X7_in 6 _ rfl) ?_
                    refine J_icF (tgt := 14) (by decide) (dk_X7_in 7 _ rfl) (jI_nlt (by decide : (4 : Int32).toInt = 4) (rfl : (s : Int32).toInt = (s : Int32).toInt) (by omega)) ?_
                    refine J_iconst (v := 1) (by decide) (dk_X7_in 10 _ rfl) ?_
                    refine J_goto (tgt := 15) (by decide) (dk_X7_in 11 _ rfl) ?_
                    exact J_iret rfl rfl (dk_X7_in 15 _ rfl) ⟨rfl, rfl⟩
                  show J _ _ _ _ _ _ _ _ _ [.int 1] _ _
                  refine J_ifF (tgt := 30) (by decide) (dk_X7_tape 17 _ rfl) (jI_ne (by decide : (1 : Int32).toInt = 1) (by decide : (0 : Int32).toInt = 0) (by omega)) ?_
                  refine J_iload_n (i := 2) (a := 2) rfl rfl (dk_X7_tape 20 _ rfl) ?_
                  refine J_ifF (tgt := 33) (by decide) (dk_X7_tape 21 _ rfl) (jI_nlt (rfl : (s : Int32).toInt = (s : Int32).toInt) (by decide : (0 : Int32).toInt = 0) (by omega)) ?_
                  refine J_iload_n (i := 3) (a := 3) rfl rfl (dk_X7_tape 24 _ rfl) ?_
                  refine J_bipush (v := 60) (by decide) (dk_X7_tape 25 _ rfl) ?_
                  refine J_icT (tgt := 33) (by decide) (dk_X7_tape 27 _ rfl) (jI_le (rfl : (n : Int32).toInt = (n : Int32).toInt) (by decide : (60 : Int32).toInt = 60) (by omega)) ?_
                  refine J_iload_n (i := 2) (a := 2) rfl rfl (dk_X7_tape 33 _ rfl) ?_
                  refine J_ifF (tgt := 44) (by decide) (dk_X7_tape 34 _ rfl) (jI_nlt (rfl : (s : Int32).toInt = (s : Int32).toInt) (by decide : (0 : Int32).toInt = 0) (by omega)) ?_
                  refine J_iload_n (i := 3) (a := 3) rfl rfl (dk_X7_tape 37 _ rfl) ?_
                  refine J_ifF (tgt := 44) (by decide) (dk_X7_tape 38 _ rfl) (jI_nle (by decide : (0 : Int32).toInt = 0) (rfl : (n : Int32).toInt = (n : Int32).toInt) (by omega)) ?_
                  refine J_bipush (v := (-14)) (by decide) (dk_X7_tape 41 _ rfl) ?_
                  exact J_iret rfl rfl (dk_X7_tape 43 _ rfl) ⟨rfl, rfl⟩
              · by_cases c15 : (t : Int32).toInt = 0
                · obtain rfl : t = 0 := jI_eq rfl (by decide) c15
                  refine ⟨1, ?_, ?_⟩
                  · refine jCt_of ok_X6_tape (fun _ _ => Nat.le_of_ble_eq_true rfl) (fun _ _ hq => Nat.le_of_eq (lX.trans hq.2.symm)) ?_
                    show J _ _ _ _ _ _ _ _ [(0, .ref 0), (1, .int 0), (2, .int s), (3, .int n)] _ _ _
                    refine J_iload_n (i := 1) (a := 1) rfl rfl (dk_X6_tape 0 _ rfl) ?_
                    refine J_cS (rv := some (.int 1)) (h' := hN0) (d' := 11) (As := [.int 0]) ok_X6_isTape st_X6_isTape cl_6_220 rfl (n := 1) (by decide +kernel) rfl (by decide) (by decide) (dk_X6_tape 1 _ rfl) ?_ ?_
                    · refine jCt_of ok_X6_isTape (fun _ _ => Nat.le_of_ble_eq_true rfl) (fun _ _ hq => by rw [hq.2]; first | exact Nat.le_refl _ | simp) ?_
                      show J _ _ _ _ _ _ _ _ [(0, .int 0)] _ _ _
                      refine J_iload_n (i := 0) (a := 0) rfl rfl (dk_X6_isTape 0 _ rfl) ?_
                      refine J_ifF (tgt := 14) (by decide) (dk_X6_isTape 1 _ rfl) (jI_nlt (by decide : (0 : Int32).toInt = 0) (by decide : (0 : Int32).toInt = 0) (by omega)) ?_
                      refine J_iload_n (i := 0) (a := 0) rfl rfl (dk_X6_isTape 4 _ rfl) ?_
                      refine J_bipush (v := 6) (by decide) (dk_X6_isTape 5 _ rfl) ?_
                      refine J_icF (tgt := 14) (by decide) (dk_X6_isTape 7 _ rfl) (jI_nle (by decide : (6 : Int32).toInt = 6) (by decide : (0 : Int32).toInt = 0) (by omega)) ?_
                      refine J_iconst (v := 1) (by decide) (dk_X6_isTape 10 _ rfl) ?_
                      refine J_goto (tgt := 15) (by decide) (dk_X6_isTape 11 _ rfl) ?_
                      exact J_iret rfl rfl (dk_X6_isTape 15 _ rfl) ⟨rfl, rfl⟩
                    show J _ _ _ _ _ _ _ _ _ [.int 1] _ _
                    refine J_ifT (tgt := 9) (by decide) (dk_X6_tape 4 _ rfl) (jI_ne (by decide : (1 : Int32).toInt = 1) (by decide : (0 : Int32).toInt = 0) (by omega)) ?_
                    refine J_iload_n (i := 2) (a := 2) rfl rfl (dk_X6_tape 9 _ rfl) ?_
                    refine J_iconst (v := (-1)) (by decide) (dk_X6_tape 10 _ rfl) ?_
                    refine J_icT (tgt := 27) (by decide) (dk_X6_tape 11 _ rfl) (jI_ne (rfl : (s : Int32).toInt = (s : Int32).toInt) (by decide : ((-1) : Int32).toInt = (-1)) (by omega)) ?_
                    refine J_iload_n (i := 2) (a := 2) rfl rfl (dk_X6_tape 27 _ rfl) ?_
                    refine J_ifF (tgt := 42) (by decide) (dk_X6_tape 28 _ rfl) (jI_nlt (rfl : (s : Int32).toInt = (s : Int32).toInt) (by decide : (0 : Int32).toInt = 0) (by omega)) ?_
                    refine J_iload_n (i := 2) (a := 2) rfl rfl (dk_X6_tape 31 _ rfl) ?_
                    refine J_iconst (v := 4) (by decide) (dk_X6_tape 32 _ rfl) ?_
                    refine J_icF (tgt := 42) (by decide) (dk_X6_tape 33 _ rfl) (jI_nlt (by decide : (4 : Int32).toInt = 4) (rfl : (s : Int32).toInt = (s : Int32).toInt) (by omega)) ?_
                    refine J_iload_n (i := 3) (a := 3) rfl rfl (dk_X6_tape 36 _ rfl) ?_
                    refine J_bipush (v := 60) (by decide) (dk_X6_tape 37 _ rfl) ?_
                    refine J_icT (tgt := 45) (by decide) (dk_X6_tape 39 _ rfl) (jI_le (rfl : (n : Int32).toInt = (n : Int32).toInt) (by decide : (60 : Int32).toInt = 60) (by omega)) ?_
                    refine J_iload_n (i := 3) (a := 3) rfl rfl (dk_X6_tape 45 _ rfl) ?_
                    refine J_ifT (tgt := 52) (by decide) (dk_X6_tape 46 _ rfl) (jI_le (by decide : (0 : Int32).toInt = 0) (rfl : (n : Int32).toInt = (n : Int32).toInt) (by omega)) ?_
                    refine J_aload_n (i := 0) (a := 0) rfl rfl (dk_X6_tape 52 _ rfl) ?_
                    refine J_getf fl_6_37 rfl rfl (dk_X6_tape 53 _ rfl) ?_
                    refine J_iload_n (i := 1) (a := 1) rfl rfl (dk_X6_tape 56 _ rfl) ?_
                    refine J_aald (by decide) rfl (by decide) rfl (dk_X6_tape 57 _ rfl) ?_
                    refine J_iload_n (i := 2) (a := 2) rfl rfl (dk_X6_tape 58 _ rfl) ?_
                    refine J_iload_n (i := 3) (a := 3) rfl rfl (dk_X6_tape 59 _ rfl) ?_
                    refine J_cVq (Q' := fun r k => r = none ∧ k.length = 94) (d' := 3) (As := [.int s, .int n]) ok_X3_become vi_X3_become cl_6_251 (n := 2) (by decide +kernel) rfl rfl rfl rfl (by decide) (by decide) (dk_X6_tape 60 _ rfl) (c_become (a := 83) (by decide) rfl rfl rfl rfl) (fun r h' hq => ?_)
                    obtain ⟨rfl, hq⟩ := hq
                    show J _ _ _ _ _ _ _ _ [(0, .ref 0), (1, .int 0), (2, .int s), (3, .int n)] _ _ _
                    refine J_iconst (v := 1) (by decide) (dk_X6_tape 63 _ rfl) ?_
                    exact J_iret rfl rfl (dk_X6_tape 64 _ rfl) ⟨rfl, hq⟩
                  · refine jCt_of ok_X7_tape (fun _ _ => Nat.le_of_ble_eq_true rfl) (fun _ _ hq => Nat.le_of_eq (lM.trans hq.2.symm)) ?_
                    show J _ _ _ _ _ _ _ _ [(0, .ref 0), (1, .int 0), (2, .int s), (3, .int n)] _ _ _
                    refine J_aload_n (i := 0) (a := 0) rfl rfl (dk_X7_tape 0 _ rfl) ?_
                    refine J_iload_n (i := 1) (a := 1) rfl rfl (dk_X7_tape 1 _ rfl) ?_
                    refine J_cV (rv := some (.int 1)) (h' := hM0) (d' := 11) (As := [.int 0]) ok_X7_isTape vi_X7_isTape cl_7_354 (n := 1) (by decide +kernel) rfl rfl rfl rfl (by decide) (by decide) (dk_X7_tape 2 _ rfl) ?_ ?_
                    · refine jCt_of ok_X7_isTape (fun _ _ => Nat.le_of_ble_eq_true rfl) (fun _ _ hq => by rw [hq.2]; first | exact Nat.le_refl _ | simp) ?_
                      show J _ _ _ _ _ _ _ _ [(0, .ref 0), (1, .int 0)] _ _ _
                      refine J_aload_n (i := 0) (a := 0) rfl rfl (dk_X7_isTape 0 _ rfl) ?_
                      refine J_iload_n (i := 1) (a := 1) rfl rfl (dk_X7_isTape 1 _ rfl) ?_
                      refine J_iconst (v := 0) (by decide) (dk_X7_isTape 2 _ rfl) ?_
                      refine J_iconst (v := 5) (by decide) (dk_X7_isTape 3 _ rfl) ?_
                      refine J_cV (rv := some (.int 1)) (h' := hM0) (d' := 10) (As := [.int 0, .int 0, .int 5]) ok_X7_in vi_X7_in cl_7_194 (n := 3) (by decide +kernel) rfl rfl rfl rfl (by decide) (by decide) (dk_X7_isTape 4 _ rfl) ?_ ?_
                      · refine jCt_of ok_X7_in (fun _ _ => Nat.le_of_ble_eq_true rfl) (fun _ _ hq => by rw [hq.2]; first | exact Nat.le_refl _ | simp) ?_
                        show J _ _ _ _ _ _ _ _ [(0, .ref 0), (1, .int 0), (2, .int 0), (3, .int 5)] _ _ _
                        refine J_iload_n (i := 1) (a := 1) rfl rfl (dk_X7_in 0 _ rfl) ?_
                        refine J_iload_n (i := 2) (a := 2) rfl rfl (dk_X7_in 1 _ rfl) ?_
                        refine J_icF (tgt := 14) (by decide) (dk_X7_in 2 _ rfl) (jI_nlt (by decide : (0 : Int32).toInt = 0) (by decide : (0 : Int32).toInt = 0) (by omega)) ?_
                        refine J_iload_n (i := 1) (a := 1) rfl rfl (dk_X7_in 5 _ rfl) ?_
                        refine J_iload_n (i := 3) (a := 3) rfl rfl (dk_X7_in 6 _ rfl) ?_
                        refine J_icF (tgt := 14) (by decide) (dk_X7_in 7 _ rfl) (jI_nlt (by decide : (5 : Int32).toInt = 5) (by decide : (0 : Int32).toInt = 0) (by omega)) ?_
                        refine J_iconst (v := 1) (by decide) (dk_X7_in 10 _ rfl) ?_
                        refine J_goto (tgt := 15) (by decide) (dk_X7_in 11 _ rfl) ?_
                        exact J_iret rfl rfl (dk_X7_in 15 _ rfl) ⟨rfl, rfl⟩
                      show J _ _ _ _ _ _ _ _ _ [.int 1] _ _
                      exact J_iret rfl rfl (dk_X7_isTape 7 _ rfl) ⟨rfl, rfl⟩
                    show J _ _ _ _ _ _ _ _ _ [.int 1] _ _
                    refine J_ifT (tgt := 10) (by decide) (dk_X7_tape 5 _ rfl) (jI_ne (by decide : (1 : Int32).toInt = 1) (by decide : (0 : Int32).toInt = 0) (by omega)) ?_
                    refine J_aload_n (i := 0) (a := 0) rfl rfl (dk_X7_tape 10 _ rfl) ?_
                    refine J_iload_n (i := 2) (a := 2) rfl rfl (dk_X7_tape 11 _ rfl) ?_
                    refine J_iconst (v := (-1)) (by decide) (dk_X7_tape 12 _ rfl) ?_
                    refine J_iconst (v := 4) (by decide) (dk_X7_tape 13 _ rfl) ?_
                    refine J_cV (rv := some (.int 1)) (h' := hM0) (d' := 11) (As := [.int s, .int (-1), .int 4]) ok_X7_in vi_X7_in cl_7_194 (n := 3) (by decide +kernel) rfl rfl rfl rfl (by decide) (by decide) (dk_X7_tape 14 _ rfl) ?_ ?_
                    · refine jCt_of ok_X7_in (fun _ _ => Nat.le_of_ble_eq_true rfl) (fun _ _ hq => by rw [hq.2]; first | exact Nat.le_refl _ | simp) ?_
                      show J _ _ _ _ _ _ _ _ [(0, .ref 0), (1, .int s), (2, .int (-1)), (3, .int 4)] _ _ _
                      refine J_iload_n (i := 1) (a := 1) rfl rfl (dk_X7_in 0 _ rfl) ?_
                      refine J_iload_n (i := 2) (a := 2) rfl rfl (dk_X7_in 1 _ rfl) ?_
                      refine J_icF (tgt := 14) (by decide) (dk_X7_in 2 _ rfl) (jI_nlt (rfl : (s : Int32).toInt = (s : Int32).toInt) (by decide : ((-1) : Int32).toInt = (-1)) (by omega)) ?_
                      refine J_iload_n (i := 1) (a := 1) rfl rfl (dk_X7_in 5 _ rfl) ?_
                      refine J_iload_n (i := 3) (a := 3) rfl rfl (dk_X7_in 6 _ rfl) ?_
                      refine J_icF (tgt := 14) (by decide) (dk_X7_in 7 _ rfl) (jI_nlt (by decide : (4 : Int32).toInt = 4) (rfl : (s : Int32).toInt = (s : Int32).toInt) (by omega)) ?_
                      refine J_iconst (v := 1) (by decide) (dk_X7_in 10 _ rfl) ?_
                      refine J_goto (tgt := 15) (by decide) (dk_X7_in 11 _ rfl) ?_
                      exact J_iret rfl rfl (dk_X7_in 15 _ rfl) ⟨rfl, rfl⟩
                    show J _ _ _ _ _ _ _ _ _ [.int 1] _ _
                    refine J_ifF (tgt := 30) (by decide) (dk_X7_tape 17 _ rfl) (jI_ne (by decide : (1 : Int32).toInt = 1) (by decide : (0 : Int32).toInt = 0) (by omega)) ?_
                    refine J_iload_n (i := 2) (a := 2) rfl rfl (dk_X7_tape 20 _ rfl) ?_
                    refine J_ifF (tgt := 33) (by decide) (dk_X7_tape 21 _ rfl) (jI_nlt (rfl : (s : Int32).toInt = (s : Int32).toInt) (by decide : (0 : Int32).toInt = 0) (by omega)) ?_
                    refine J_iload_n (i := 3) (a := 3) rfl rfl (dk_X7_tape 24 _ rfl) ?_
                    refine J_bipush (v := 60) (by decide) (dk_X7_tape 25 _ rfl) ?_
                    refine J_icT (tgt := 33) (by decide) (dk_X7_tape 27 _ rfl) (jI_le (rfl : (n : Int32).toInt = (n : Int32).toInt) (by decide : (60 : Int32).toInt = 60) (by omega)) ?_
                    refine J_iload_n (i := 2) (a := 2) rfl rfl (dk_X7_tape 33 _ rfl) ?_
                    refine J_ifF (tgt := 44) (by decide) (dk_X7_tape 34 _ rfl) (jI_nlt (rfl : (s : Int32).toInt = (s : Int32).toInt) (by decide : (0 : Int32).toInt = 0) (by omega)) ?_
                    refine J_iload_n (i := 3) (a := 3) rfl rfl (dk_X7_tape 37 _ rfl) ?_
                    refine J_ifT (tgt := 44) (by decide) (dk_X7_tape 38 _ rfl) (jI_le (by decide : (0 : Int32).toInt = 0) (rfl : (n : Int32).toInt = (n : Int32).toInt) (by omega)) ?_
                    refine J_aload_n (i := 0) (a := 0) rfl rfl (dk_X7_tape 44 _ rfl) ?_
                    refine J_getf fl_7_181 rfl rfl (dk_X7_tape 45 _ rfl) ?_
                    refine J_iload_n (i := 1) (a := 1) rfl rfl (dk_X7_tape 48 _ rfl) ?_
                    refine J_iload_n (i := 2) (a := 2) rfl rfl (dk_X7_tape 49 _ rfl) ?_
                    refine J_iast rfl (by decide) (Nat.le_of_ble_eq_true rfl) (dk_X7_tape 50 _ rfl) ?_
                    refine J_aload_n (i := 0) (a := 0) rfl rfl (dk_X7_tape 51 _ rfl) ?_
                    refine J_getf fl_7_184 rfl rfl (dk_X7_tape 52 _ rfl) ?_
                    refine J_iload_n (i := 1) (a := 1) rfl rfl (dk_X7_tape 55 _ rfl) ?_
                    refine J_iload_n (i := 2) (a := 2) rfl rfl (dk_X7_tape 56 _ rfl) ?_
                    refine J_ifT (tgt := 64) (by decide) (dk_X7_tape 57 _ rfl) (jI_le (by decide : (0 : Int32).toInt = 0) (rfl : (s : Int32).toInt = (s : Int32).toInt) (by omega)) ?_
                    refine J_iload_n (i := 3) (a := 3) rfl rfl (dk_X7_tape 64 _ rfl) ?_
                    refine J_iast rfl (by decide) (Nat.le_of_ble_eq_true rfl) (dk_X7_tape 65 _ rfl) ?_
                    refine J_iconst (v := 0) (by decide) (dk_X7_tape 66 _ rfl) ?_
                    refine J_istore (i := 4) (by decide) (dk_X7_tape 67 _ rfl) ?_
                    show J _ _ _ _ _ _ _ _ [(4, .int 0), (0, .ref 0), (1, .int 0), (2, .int s), (3, .int n)] _ _ _
                    exact lp_tapeM (c := 0) (a := 35) (by decide) (by decide) (by decide) 60 0 (by omega) _ _ rfl rfl rfl rfl rfl
                · by_cases c16 : (t : Int32).toInt = 1
                  · obtain rfl : t = 1 := jI_eq rfl (by decide) c16
                    refine ⟨1, ?_, ?_⟩
                    · refine jCt_of ok_X6_tape (fun _ _ => Nat.le_of_ble_eq_true rfl) (fun _ _ hq => Nat.le_of_eq (lX.trans hq.2.symm)) ?_
                      show J _ _ _ _ _ _ _ _ [(0, .ref 0), (1, .int 1), (2, .int s), (3, .int n)] _ _ _
                      refine J_iload_n (i := 1) (a := 1) rfl rfl (dk_X6_tape 0 _ rfl) ?_
                      refine J_cS (rv := some (.int 1)) (h' := hN0) (d' := 11) (As := [.int 1]) ok_X6_isTape st_X6_isTape cl_6_220 rfl (n := 1) (by decide +kernel) rfl (by decide) (by decide) (dk_X6_tape 1 _ rfl) ?_ ?_
                      · refine jCt_of ok_X6_isTape (fun _ _ => Nat.le_of_ble_eq_true rfl) (fun _ _ hq => by rw [hq.2]; first | exact Nat.le_refl _ | simp) ?_
                        show J _ _ _ _ _ _ _ _ [(0, .int 1)] _ _ _
                        refine J_iload_n (i := 0) (a := 0) rfl rfl (dk_X6_isTape 0 _ rfl) ?_
                        refine J_ifF (tgt := 14) (by decide) (dk_X6_isTape 1 _ rfl) (jI_nlt (by decide : (1 : Int32).toInt = 1) (by decide : (0 : Int32).toInt = 0) (by omega)) ?_
                        refine J_iload_n (i := 0) (a := 0) rfl rfl (dk_X6_isTape 4 _ rfl) ?_
                        refine J_bipush (v := 6) (by decide) (dk_X6_isTape 5 _ rfl) ?_
                        refine J_icF (tgt := 14) (by decide) (dk_X6_isTape 7 _ rfl) (jI_nle (by decide : (6 : Int32).toInt = 6) (by decide : (1 : Int32).toInt = 1) (by omega)) ?_
                        refine J_iconst (v := 1) (by decide) (dk_X6_isTape 10 _ rfl) ?_
                        refine J_goto (tgt := 15) (by decide) (dk_X6_isTape 11 _ rfl) ?_
                        exact J_iret rfl rfl (dk_X6_isTape 15 _ rfl) ⟨rfl, rfl⟩
                      show J _ _ _ _ _ _ _ _ _ [.int 1] _ _
                      refine J_ifT (tgt := 9) (by decide) (dk_X6_tape 4 _ rfl) (jI_ne (by decide : (1 : Int32).toInt = 1) (by decide : (0 : Int32).toInt = 0) (by omega)) ?_
                      refine J_iload_n (i := 2) (a := 2) rfl rfl (dk_X6_tape 9 _ rfl) ?_
                      refine J_iconst (v := (-1)) (by decide) (dk_X6_tape 10 _ rfl) ?_
                      refine J_icT (tgt := 27) (by decide) (dk_X6_tape 11 _ rfl) (jI_ne (rfl : (s : Int32).toInt = (s : Int32).toInt) (by decide : ((-1) : Int32).toInt = (-1)) (by omega)) ?_
                      refine J_iload_n (i := 2) (a := 2) rfl rfl (dk_X6_tape 27 _ rfl) ?_
                      refine J_ifF (tgt := 42) (by decide) (dk_X6_tape 28 _ rfl) (jI_nlt (rfl : (s : Int32).toInt = (s : Int32).toInt) (by decide : (0 : Int32).toInt = 0) (by omega)) ?_
                      refine J_iload_n (i := 2) (a := 2) rfl rfl (dk_X6_tape 31 _ rfl) ?_
                      refine J_iconst (v := 4) (by decide) (dk_X6_tape 32 _ rfl) ?_
                      refine J_icF (tgt := 42) (by decide) (dk_X6_tape 33 _ rfl) (jI_nlt (by decide : (4 : Int32).toInt = 4) (rfl : (s : Int32).toInt = (s : Int32).toInt) (by omega)) ?_
                      refine J_iload_n (i := 3) (a := 3) rfl rfl (dk_X6_tape 36 _ rfl) ?_
                      refine J_bipush (v := 60) (by decide) (dk_X6_tape 37 _ rfl) ?_
                      refine J_icT (tgt := 45) (by decide) (dk_X6_tape 39 _ rfl) (jI_le (rfl : (n : Int32).toInt = (n : Int32).toInt) (by decide : (60 : Int32).toInt = 60) (by omega)) ?_
                      refine J_iload_n (i := 3) (a := 3) rfl rfl (dk_X6_tape 45 _ rfl) ?_
                      refine J_ifT (tgt := 52) (by decide) (dk_X6_tape 46 _ rfl) (jI_le (by decide : (0 : Int32).toInt = 0) (rfl : (n : Int32).toInt = (n : Int32).toInt) (by omega)) ?_
                      refine J_aload_n (i := 0) (a := 0) rfl rfl (dk_X6_tape 52 _ rfl) ?_
                      refine J_getf fl_6_37 rfl rfl (dk_X6_tape 53 _ rfl) ?_
                      refine J_iload_n (i := 1) (a := 1) rfl rfl (dk_X6_tape 56 _ rfl) ?_
                      refine J_aald (by decide) rfl (by decide) rfl (dk_X6_tape 57 _ rfl) ?_
                      refine J_iload_n (i := 2) (a := 2) rfl rfl (dk_X6_tape 58 _ rfl) ?_
                      refine J_iload_n (i := 3) (a := 3) rfl rfl (dk_X6_tape 59 _ rfl) ?_
                      refine J_cVq (Q' := fun r k => r = none ∧ k.length = 94) (d' := 3) (As := [.int s, .int n]) ok_X3_become vi_X3_become cl_6_251 (n := 2) (by decide +kernel) rfl rfl rfl rfl (by decide) (by decide) (dk_X6_tape 60 _ rfl) (c_become (a := 85) (by decide) rfl rfl rfl rfl) (fun r h' hq => ?_)
                      obtain ⟨rfl, hq⟩ := hq
                      show J _ _ _ _ _ _ _ _ [(0, .ref 0), (1, .int 1), (2, .int s), (3, .int n)] _ _ _
                      refine J_iconst (v := 1) (by decide) (dk_X6_tape 63 _ rfl) ?_
                      exact J_iret rfl rfl (dk_X6_tape 64 _ rfl) ⟨rfl, hq⟩
                    · refine jCt_of ok_X7_tape (fun _ _ => Nat.le_of_ble_eq_true rfl) (fun _ _ hq => Nat.le_of_eq (lM.trans hq.2.symm)) ?_
                      show J _ _ _ _ _ _ _ _ [(0, .ref 0), (1, .int 1), (2, .int s), (3, .int n)] _ _ _
                      refine J_aload_n (i := 0) (a := 0) rfl rfl (dk_X7_tape 0 _ rfl) ?_
                      refine J_iload_n (i := 1) (a := 1) rfl rfl (dk_X7_tape 1 _ rfl) ?_
                      refine J_cV (rv := some (.int 1)) (h' := hM0) (d' := 11) (As := [.int 1]) ok_X7_isTape vi_X7_isTape cl_7_354 (n := 1) (by decide +kernel) rfl rfl rfl rfl (by decide) (by decide) (dk_X7_tape 2 _ rfl) ?_ ?_
                      · refine jCt_of ok_X7_isTape (fun _ _ => Nat.le_of_ble_eq_true rfl) (fun _ _ hq => by rw [hq.2]; first | exact Nat.le_refl _ | simp) ?_
                        show J _ _ _ _ _ _ _ _ [(0, .ref 0), (1, .int 1)] _ _ _
                        refine J_aload_n (i := 0) (a := 0) rfl rfl (dk_X7_isTape 0 _ rfl) ?_
                        refine J_iload_n (i := 1) (a := 1) rfl rfl (dk_X7_isTape 1 _ rfl) ?_
                        refine J_iconst (v := 0) (by decide) (dk_X7_isTape 2 _ rfl) ?_
                        refine J_iconst (v := 5) (by decide) (dk_X7_isTape 3 _ rfl) ?_
                        refine J_cV (rv := some (.int 1)) (h' := hM0) (d' := 10) (As := [.int 1, .int 0, .int 5]) ok_X7_in vi_X7_in cl_7_194 (n := 3) (by decide +kernel) rfl rfl rfl rfl (by decide) (by decide) (dk_X7_isTape 4 _ rfl) ?_ ?_
                        · refine jCt_of ok_X7_in (fun _ _ => Nat.le_of_ble_eq_true rfl) (fun _ _ hq => by rw [hq.2]; first | exact Nat.le_refl _ | simp) ?_
                          show J _ _ _ _ _ _ _ _ [(0, .ref 0), (1, .int 1), (2, .int 0), (3, .int 5)] _ _ _
                          refine J_iload_n (i := 1) (a := 1) rfl rfl (dk_X7_in 0 _ rfl) ?_
                          refine J_iload_n (i := 2) (a := 2) rfl rfl (dk_X7_in 1 _ rfl) ?_
                          refine J_icF (tgt := 14) (by decide) (dk_X7_in 2 _ rfl) (jI_nlt (by decide : (1 : Int32).toInt = 1) (by decide : (0 : Int32).toInt = 0) (by omega)) ?_
                          refine J_iload_n (i := 1) (a := 1) rfl rfl (dk_X7_in 5 _ rfl) ?_
                          refine J_iload_n (i := 3) (a := 3) rfl rfl (dk_X7_in 6 _ rfl) ?_
                          refine J_icF (tgt := 14) (by decide) (dk_X7_in 7 _ rfl) (jI_nlt (by decide : (5 : Int32).toInt = 5) (by decide : (1 : Int32).toInt = 1) (by omega)) ?_
                          refine J_iconst (v := 1) (by decide) (dk_X7_in 10 _ rfl) ?_
                          refine J_goto (tgt := 15) (by decide) (dk_X7_in 11 _ rfl) ?_
                          exact J_iret rfl rfl (dk_X7_in 15 _ rfl) ⟨rfl, rfl⟩
                        show J _ _ _ _ _ _ _ _ _ [.int 1] _ _
                        exact J_iret rfl rfl (dk_X7_isTape 7 _ rfl) ⟨rfl, rfl⟩
                      show J _ _ _ _ _ _ _ _ _ [.int 1] _ _
                      refine J_ifT (tgt := 10) (by decide) (dk_X7_tape 5 _ rfl) (jI_ne (by decide : (1 : Int32).toInt = 1) (by decide : (0 : Int32).toInt = 0) (by omega)) ?_
                      refine J_aload_n (i := 0) (a := 0) rfl rfl (dk_X7_tape 10 _ rfl) ?_
                      refine J_iload_n (i := 2) (a := 2) rfl rfl (dk_X7_tape 11 _ rfl) ?_
                      refine J_iconst (v := (-1)) (by decide) (dk_X7_tape 12 _ rfl) ?_
                      refine J_iconst (v := 4) (by decide) (dk_X7_tape 13 _ rfl) ?_
                      refine J_cV (rv := some (.int 1)) (h' := hM0) (d' := 11) (As := [.int s, .int (-1), .int 4]) ok_X7_in vi_X7_in cl_7_194 (n := 3) (by decide +kernel) rfl rfl rfl rfl (by decide) (by decide) (dk_X7_tape 14 _ rfl) ?_ ?_
                      · refine jCt_of ok_X7_in (fun _ _ => Nat.le_of_ble_eq_true rfl) (fun _ _ hq => by rw [hq.2]; first | exact Nat.le_refl _ | simp) ?_
                        show J _ _ _ _ _ _ _ _ [(0, .ref 0), (1, .int s), (2, .int (-1)), (3, .int 4)] _ _ _
                        refine J_iload_n (i := 1) (a := 1) rfl rfl (dk_X7_in 0 _ rfl) ?_
                        refine J_iload_n (i := 2) (a := 2) rfl rfl (dk_X7_in 1 _ rfl) ?_
                        refine J_icF (tgt := 14) (by decide) (dk_X7_in 2 _ rfl) (jI_nlt (rfl : (s : Int32).toInt = (s : Int32).toInt) (by decide : ((-1) : Int32).toInt = (-1)) (by omega)) ?_
                        refine J_iload_n (i := 1) (a := 1) rfl rfl (dk_X7_in 5 _ rfl) ?_
                        refine J_iload_n (i := 3) (a := 3) rfl rfl (dk_X7_in 6 _ rfl) ?_
                        refine J_icF (tgt := 14) (by decide) (dk_X7_in 7 _ rfl) (jI_nlt (by decide : (4 : Int32).toInt = 4) (rfl : (s : Int32).toInt = (s : Int32).toInt) (by omega)) ?_
                        refine J_iconst (v := 1) (by decide) (dk_X7_in 10 _ rfl) ?_
                        refine J_goto (tgt := 15) (by decide) (dk_X7_in 11 _ rfl) ?_
                        exact J_iret rfl rfl (dk_X7_in 15 _ rfl) ⟨rfl, rfl⟩
                      show J _ _ _ _ _ _ _ _ _ [.int 1] _ _
                      refine J_ifF (tgt := 30) (by decide) (dk_X7_tape 17 _ rfl) (jI_ne (by decide : (1 : Int32).toInt = 1) (by decide : (0 : Int32).toInt = 0) (by omega)) ?_
                      refine J_iload_n (i := 2) (a := 2) rfl rfl (dk_X7_tape 20 _ rfl) ?_
                      refine J_ifF (tgt := 33) (by decide) (dk_X7_tape 21 _ rfl) (jI_nlt (rfl : (s : Int32).toInt = (s : Int32).toInt) (by decide : (0 : Int32).toInt = 0) (by omega)) ?_
                      refine J_iload_n (i := 3) (a := 3) rfl rfl (dk_X7_tape 24 _ rfl) ?_
                      refine J_bipush (v := 60) (by decide) (dk_X7_tape 25 _ rfl) ?_
                      refine J_icT (tgt := 33) (by decide) (dk_X7_tape 27 _ rfl) (jI_le (rfl : (n : Int32).toInt = (n : Int32).toInt) (by decide : (60 : Int32).toInt = 60) (by omega)) ?_
                      refine J_iload_n (i := 2) (a := 2) rfl rfl (dk_X7_tape 33 _ rfl) ?_
                      refine J_ifF (tgt := 44) (by decide) (dk_X7_tape 34 _ rfl) (jI_nlt (rfl : (s : Int32).toInt = (s : Int32).toInt) (by decide : (0 : Int32).toInt = 0) (by omega)) ?_
                      refine J_iload_n (i := 3) (a := 3) rfl rfl (dk_X7_tape 37 _ rfl) ?_
                      refine J_ifT (tgt := 44) (by decide) (dk_X7_tape 38 _ rfl) (jI_le (by decide : (0 : Int32).toInt = 0) (rfl : (n : Int32).toInt = (n : Int32).toInt) (by omega)) ?_
                      refine J_aload_n (i := 0) (a := 0) rfl rfl (dk_X7_tape 44 _ rfl) ?_
                      refine J_getf fl_7_181 rfl rfl (dk_X7_tape 45 _ rfl) ?_
                      refine J_iload_n (i := 1) (a := 1) rfl rfl (dk_X7_tape 48 _ rfl) ?_
                      refine J_iload_n (i := 2) (a := 2) rfl rfl (dk_X7_tape 49 _ rfl) ?_
                      refine J_iast rfl (by decide) (Nat.le_of_ble_eq_true rfl) (dk_X7_tape 50 _ rfl) ?_
                      refine J_aload_n (i := 0) (a := 0) rfl rfl (dk_X7_tape 51 _ rfl) ?_
                      refine J_getf fl_7_184 rfl rfl (dk_X7_tape 52 _ rfl) ?_
                      refine J_iload_n (i := 1) (a := 1) rfl rfl (dk_X7_tape 55 _ rfl) ?_
                      refine J_iload_n (i := 2) (a := 2) rfl rfl (dk_X7_tape 56 _ rfl) ?_
                      refine J_ifT (tgt := 64) (by decide) (dk_X7_tape 57 _ rfl) (jI_le (by decide : (0 : Int32).toInt = 0) (rfl : (s : Int32).toInt = (s : Int32).toInt) (by omega)) ?_
                      refine J_iload_n (i := 3) (a := 3) rfl rfl (dk_X7_tape 64 _ rfl) ?_
                      refine J_iast rfl (by decide) (Nat.le_of_ble_eq_true rfl) (dk_X7_tape 65 _ rfl) ?_
                      refine J_iconst (v := 0) (by decide) (dk_X7_tape 66 _ rfl) ?_
                      refine J_istore (i := 4) (by decide) (dk_X7_tape 67 _ rfl) ?_
                      show J _ _ _ _ _ _ _ _ [(4, .int 0), (0, .ref 0), (1, .int 1), (2, .int s), (3, .int n)] _ _ _
                      exact lp_tapeM (c := 1) (a := 35) (by decide) (by decide) (by decide) 60 0 (by omega) _ _ rfl rfl rfl rfl rfl
                  · by_cases c17 : (t : Int32).toInt = 2
                    · obtain rfl : t = 2 := jI_eq rfl (by decide) c17
                      refine ⟨1, ?_, ?_⟩
                      · refine jCt_of ok_X6_tape (fun _ _ => Nat.le_of_ble_eq_true rfl) (fun _ _ hq => Nat.le_of_eq (lX.trans hq.2.symm)) ?_
                        show J _ _ _ _ _ _ _ _ [(0, .ref 0), (1, .int 2), (2, .int s), (3, .int n)] _ _ _
                        refine J_iload_n (i := 1) (a := 1) rfl rfl (dk_X6_tape 0 _ rfl) ?_
                        refine J_cS (rv := some (.int 1)) (h' := hN0) (d' := 11) (As := [.int 2]) ok_X6_isTape st_X6_isTape cl_6_220 rfl (n := 1) (by decide +kernel) rfl (by decide) (by decide) (dk_X6_tape 1 _ rfl) ?_ ?_
                        · refine jCt_of ok_X6_isTape (fun _ _ => Nat.le_of_ble_eq_true rfl) (fun _ _ hq => by rw [hq.2]; first | exact Nat.le_refl _ | simp) ?_
                          show J _ _ _ _ _ _ _ _ [(0, .int 2)] _ _ _
                          refine J_iload_n (i := 0) (a := 0) rfl rfl (dk_X6_isTape 0 _ rfl) ?_
                          refine J_ifF (tgt := 14) (by decide) (dk_X6_isTape 1 _ rfl) (jI_nlt (by decide : (2 : Int32).toInt = 2) (by decide : (0 : Int32).toInt = 0) (by omega)) ?_
                          refine J_iload_n (i := 0) (a := 0) rfl rfl (dk_X6_isTape 4 _ rfl) ?_
                          refine J_bipush (v := 6) (by decide) (dk_X6_isTape 5 _ rfl) ?_
                          refine J_icF (tgt := 14) (by decide) (dk_X6_isTape 7 _ rfl) (jI_nle (by decide : (6 : Int32).toInt = 6) (by decide : (2 : Int32).toInt = 2) (by omega)) ?_
                          refine J_iconst (v := 1) (by decide) (dk_X6_isTape 10 _ rfl) ?_
                          refine J_goto (tgt := 15) (by decide) (dk_X6_isTape 11 _ rfl) ?_
                          exact J_iret rfl rfl (dk_X6_isTape 15 _ rfl) ⟨rfl, rfl⟩
                        show J _ _ _ _ _ _ _ _ _ [.int 1] _ _
                        refine J_ifT (tgt := 9) (by decide) (dk_X6_tape 4 _ rfl) (jI_ne (by decide : (1 : Int32).toInt = 1) (by decide : (0 : Int32).toInt = 0) (by omega)) ?_
                        refine J_iload_n (i := 2) (a := 2) rfl rfl (dk_X6_tape 9 _ rfl) ?_
                        refine J_iconst (v := (-1)) (by decide) (dk_X6_tape 10 _ rfl) ?_
                        refine J_icT (tgt := 27) (by decide) (dk_X6_tape 11 _ rfl) (jI_ne (rfl : (s : Int32).toInt = (s : Int32).toInt) (by decide : ((-1) : Int32).toInt = (-1)) (by omega)) ?_
                        refine J_iload_n (i := 2) (a := 2) rfl rfl (dk_X6_tape 27 _ rfl) ?_
                        refine J_ifF (tgt := 42) (by decide) (dk_X6_tape 28 _ rfl) (jI_nlt (rfl : (s : Int32).toInt = (s : Int32).toInt) (by decide : (0 : Int32).toInt = 0) (by omega)) ?_
                        refine J_iload_n (i := 2) (a := 2) rfl rfl (dk_X6_tape 31 _ rfl) ?_
                        refine J_iconst (v := 4) (by decide) (dk_X6_tape 32 _ rfl) ?_
                        refine J_icF (tgt := 42) (by decide) (dk_X6_tape 33 _ rfl) (jI_nlt (by decide : (4 : Int32).toInt = 4) (rfl : (s : Int32).toInt = (s : Int32).toInt) (by omega)) ?_
                        refine J_iload_n (i := 3) (a := 3) rfl rfl (dk_X6_tape 36 _ rfl) ?_
                        refine J_bipush (v := 60) (by decide) (dk_X6_tape 37 _ rfl) ?_
                        refine J_icT (tgt := 45) (by decide) (dk_X6_tape 39 _ rfl) (jI_le (rfl : (n : Int32).toInt = (n : Int32).toInt) (by decide : (60 : Int32).toInt = 60) (by omega)) ?_
                        refine J_iload_n (i := 3) (a := 3) rfl rfl (dk_X6_tape 45 _ rfl) ?_
                        refine J_ifT (tgt := 52) (by decide) (dk_X6_tape 46 _ rfl) (jI_le (by decide : (0 : Int32).toInt = 0) (rfl : (n : Int32).toInt = (n : Int32).toInt) (by omega)) ?_
                        refine J_aload_n (i := 0) (a := 0) rfl rfl (dk_X6_tape 52 _ rfl) ?_
                        refine J_getf fl_6_37 rfl rfl (dk_X6_tape 53 _ rfl) ?_
                        refine J_iload_n (i := 1) (a := 1) rfl rfl (dk_X6_tape 56 _ rfl) ?_
                        refine J_aald (by decide) rfl (by decide) rfl (dk_X6_tape 57 _ rfl) ?_
                        refine J_iload_n (i := 2) (a := 2) rfl rfl (dk_X6_tape 58 _ rfl) ?_
                        refine J_iload_n (i := 3) (a := 3) rfl rfl (dk_X6_tape 59 _ rfl) ?_
                        refine J_cVq (Q' := fun r k => r = none ∧ k.length = 94) (d' := 3) (As := [.int s, .int n]) ok_X3_become vi_X3_become cl_6_251 (n := 2) (by decide +kernel) rfl rfl rfl rfl (by decide) (by decide) (dk_X6_tape 60 _ rfl) (c_become (a := 87) (by decide) rfl rfl rfl rfl) (fun r h' hq => ?_)
                        obtain ⟨rfl, hq⟩ := hq
                        show J _ _ _ _ _ _ _ _ [(0, .ref 0), (1, .int 2), (2, .int s), (3, .int n)] _ _ _
                        refine J_iconst (v := 1) (by decide) (dk_X6_tape 63 _ rfl) ?_
                        exact J_iret rfl rfl (dk_X6_tape 64 _ rfl) ⟨rfl, hq⟩
                      · refine jCt_of ok_X7_tape (fun _ _ => Nat.le_of_ble_eq_true rfl) (fun _ _ hq => Nat.le_of_eq (lM.trans hq.2.symm)) ?_
                        show J _ _ _ _ _ _ _ _ [(0, .ref 0), (1, .int 2), (2, .int s), (3, .int n)] _ _ _
                        refine J_aload_n (i := 0) (a := 0) rfl rfl (dk_X7_tape 0 _ rfl) ?_
                        refine J_iload_n (i := 1) (a := 1) rfl rfl (dk_X7_tape 1 _ rfl) ?_
                        refine J_cV (rv := some (.int 1)) (h' := hM0) (d' := 11) (As := [.int 2]) ok_X7_isTape vi_X7_isTape cl_7_354 (n := 1) (by decide +kernel) rfl rfl rfl rfl (by decide) (by decide) (dk_X7_tape 2 _ rfl) ?_ ?_
                        · refine jCt_of ok_X7_isTape (fun _ _ => Nat.le_of_ble_eq_true rfl) (fun _ _ hq => by rw [hq.2]; first | exact Nat.le_refl _ | simp) ?_
                          show J _ _ _ _ _ _ _ _ [(0, .ref 0), (1, .int 2)] _ _ _
                          refine J_aload_n (i := 0) (a := 0) rfl rfl (dk_X7_isTape 0 _ rfl) ?_
                          refine J_iload_n (i := 1) (a := 1) rfl rfl (dk_X7_isTape 1 _ rfl) ?_
                          refine J_iconst (v := 0) (by decide) (dk_X7_isTape 2 _ rfl) ?_
                          refine J_iconst (v := 5) (by decide) (dk_X7_isTape 3 _ rfl) ?_
                          refine J_cV (rv := some (.int 1)) (h' := hM0) (d' := 10) (As := [.int 2, .int 0, .int 5]) ok_X7_in vi_X7_in cl_7_194 (n := 3) (by decide +kernel) rfl rfl rfl rfl (by decide) (by decide) (dk_X7_isTape 4 _ rfl) ?_ ?_
                          · refine jCt_of ok_X7_in (fun _ _ => Nat.le_of_ble_eq_true rfl) (fun _ _ hq => by rw [hq.2]; first | exact Nat.le_refl _ | simp) ?_
                            show J _ _ _ _ _ _ _ _ [(0, .ref 0), (1, .int 2), (2, .int 0), (3, .int 5)] _ _ _
                            refine J_iload_n (i := 1) (a := 1) rfl rfl (dk_X7_in 0 _ rfl) ?_
                            refine J_iload_n (i := 2) (a := 2) rfl rfl (dk_X7_in 1 _ rfl) ?_
                            refine J_icF (tgt := 14) (by decide) (dk_X7_in 2 _ rfl) (jI_nlt (by decide : (2 : Int32).toInt = 2) (by decide : (0 : Int32).toInt = 0) (by omega)) ?_
                            refine J_iload_n (i := 1) (a := 1) rfl rfl (dk_X7_in 5 _ rfl) ?_
                            refine J_iload_n (i := 3) (a := 3) rfl rfl (dk_X7_in 6 _ rfl) ?_
                            refine J_icF (tgt := 14) (by decide) (dk_X7_in 7 _ rfl) (jI_nlt (by decide : (5 : Int32).toInt = 5) (by decide : (2 : Int32).toInt = 2) (by omega)) ?_
                            refine J_iconst (v := 1) (by decide) (dk_X7_in 10 _ rfl) ?_
                            refine J_goto (tgt := 15) (by decide) (dk_X7_in 11 _ rfl) ?_
                            exact J_iret rfl rfl (dk_X7_in 15 _ rfl) ⟨rfl, rfl⟩
                          show J _ _ _ _ _ _ _ _ _ [.int 1] _ _
                          exact J_iret rfl rfl (dk_X7_isTape 7 _ rfl) ⟨rfl, rfl⟩
                        show J _ _ _ _ _ _ _ _ _ [.int 1] _ _
                        refine J_ifT (tgt := 10) (by decide) (dk_X7_tape 5 _ rfl) (jI_ne (by decide : (1 : Int32).toInt = 1) (by decide : (0 : Int32).toInt = 0) (by omega)) ?_
                        refine J_aload_n (i := 0) (a := 0) rfl rfl (dk_X7_tape 10 _ rfl) ?_
                        refine J_iload_n (i := 2) (a := 2) rfl rfl (dk_X7_tape 11 _ rfl) ?_
                        refine J_iconst (v := (-1)) (by decide) (dk_X7_tape 12 _ rfl) ?_
                        refine J_iconst (v := 4) (by decide) (dk_X7_tape 13 _ rfl) ?_
                        refine J_cV (rv := some (.int 1)) (h' := hM0) (d' := 11) (As := [.int s, .int (-1), .int 4]) ok_X7_in vi_X7_in cl_7_194 (n := 3) (by decide +kernel) rfl rfl rfl rfl (by decide) (by decide) (dk_X7_tape 14 _ rfl) ?_ ?_
                        · refine jCt_of ok_X7_in (fun _ _ => Nat.le_of_ble_eq_true rfl) (fun _ _ hq => by rw [hq.2]; first | exact Nat.le_refl _ | simp) ?_
                          show J _ _ _ _ _ _ _ _ [(0, .ref 0), (1, .int s), (2, .int (-1)), (3, .int 4)] _ _ _
                          refine J_iload_n (i := 1) (a := 1) rfl rfl (dk_X7_in 0 _ rfl) ?_
                          refine J_iload_n (i := 2) (a := 2) rfl rfl (dk_X7_in 1 _ rfl) ?_
                          refine J_icF (tgt := 14) (by decide) (dk_X7_in 2 _ rfl) (jI_nlt (rfl : (s : Int32).toInt = (s : Int32).toInt) (by decide : ((-1) : Int32).toInt = (-1)) (by omega)) ?_
                          refine J_iload_n (i := 1) (a := 1) rfl rfl (dk_X7_in 5 _ rfl) ?_
                          refine J_iload_n (i := 3) (a := 3) rfl rfl (dk_X7_in 6 _ rfl) ?_
                          refine J_icF (tgt := 14) (by decide) (dk_X7_in 7 _ rfl) (jI_nlt (by decide : (4 : Int32).toInt = 4) (rfl : (s : Int32).toInt = (s : Int32).toInt) (by omega)) ?_
                          refine J_iconst (v := 1) (by decide) (dk_X7_in 10 _ rfl) ?_
                          refine J_goto (tgt := 15) (by decide) (dk_X7_in 11 _ rfl) ?_
                          exact J_iret rfl rfl (dk_X7_in 15 _ rfl) ⟨rfl, rfl⟩
                        show J _ _ _ _ _ _ _ _ _ [.int 1] _ _
                        refine J_ifF (tgt := 30) (by decide) (dk_X7_tape 17 _ rfl) (jI_ne (by decide : (1 : Int32).toInt = 1) (by decide : (0 : Int32).toInt = 0) (by omega)) ?_
                        refine J_iload_n (i := 2) (a := 2) rfl rfl (dk_X7_tape 20 _ rfl) ?_
                        refine J_ifF (tgt := 33) (by decide) (dk_X7_tape 21 _ rfl) (jI_nlt (rfl : (s : Int32).toInt = (s : Int32).toInt) (by decide : (0 : Int32).toInt = 0) (by omega)) ?_
                        refine J_iload_n (i := 3) (a := 3) rfl rfl (dk_X7_tape 24 _ rfl) ?_
                        refine J_bipush (v := 60) (by decide) (dk_X7_tape 25 _ rfl) ?_
                        refine J_icT (tgt := 33) (by decide) (dk_X7_tape 27 _ rfl) (jI_le (rfl : (n : Int32).toInt = (n : Int32).toInt) (by decide : (60 : Int32).toInt = 60) (by omega)) ?_
                        refine J_iload_n (i := 2) (a := 2) rfl rfl (dk_X7_tape 33 _ rfl) ?_
                        refine J_ifF (tgt := 44) (by decide) (dk_X7_tape 34 _ rfl) (jI_nlt (rfl : (s : Int32).toInt = (s : Int32).toInt) (by decide : (0 : Int32).toInt = 0) (by omega)) ?_
                        refine J_iload_n (i := 3) (a := 3) rfl rfl (dk_X7_tape 37 _ rfl) ?_
                        refine J_ifT (tgt := 44) (by decide) (dk_X7_tape 38 _ rfl) (jI_le (by decide : (0 : Int32).toInt = 0) (rfl : (n : Int32).toInt = (n : Int32).toInt) (by omega)) ?_
                        refine J_aload_n (i := 0) (a := 0) rfl rfl (dk_X7_tape 44 _ rfl) ?_
                        refine J_getf fl_7_181 rfl rfl (dk_X7_tape 45 _ rfl) ?_
                        refine J_iload_n (i := 1) (a := 1) rfl rfl (dk_X7_tape 48 _ rfl) ?_
                        refine J_iload_n (i := 2) (a := 2) rfl rfl (dk_X7_tape 49 _ rfl) ?_
                        refine J_iast rfl (by decide) (Nat.le_of_ble_eq_true rfl) (dk_X7_tape 50 _ rfl) ?_
                        refine J_aload_n (i := 0) (a := 0) rfl rfl (dk_X7_tape 51 _ rfl) ?_
                        refine J_getf fl_7_184 rfl rfl (dk_X7_tape 52 _ rfl) ?_
                        refine J_iload_n (i := 1) (a := 1) rfl rfl (dk_X7_tape 55 _ rfl) ?_
                        refine J_iload_n (i := 2) (a := 2) rfl rfl (dk_X7_tape 56 _ rfl) ?_
                        refine J_ifT (tgt := 64) (by decide) (dk_X7_tape 57 _ rfl) (jI_le (by decide : (0 : Int32).toInt = 0) (rfl : (s : Int32).toInt = (s : Int32).toInt) (by omega)) ?_
                        refine J_iload_n (i := 3) (a := 3) rfl rfl (dk_X7_tape 64 _ rfl) ?_
                        refine J_iast rfl (by decide) (Nat.le_of_ble_eq_true rfl) (dk_X7_tape 65 _ rfl) ?_
                        refine J_iconst (v := 0) (by decide) (dk_X7_tape 66 _ rfl) ?_
                        refine J_istore (i := 4) (by decide) (dk_X7_tape 67 _ rfl) ?_
                        show J _ _ _ _ _ _ _ _ [(4, .int 0), (0, .ref 0), (1, .int 2), (2, .int s), (3, .int n)] _ _ _
                        exact lp_tapeM (c := 2) (a := 35) (by decide) (by decide) (by decide) 60 0 (by omega) _ _ rfl rfl rfl rfl rfl
                    · by_cases c18 : (t : Int32).toInt = 3
                      · obtain rfl : t = 3 := jI_eq rfl (by decide) c18
                        refine ⟨1, ?_, ?_⟩
                        · refine jCt_of ok_X6_tape (fun _ _ => Nat.le_of_ble_eq_true rfl) (fun _ _ hq => Nat.le_of_eq (lX.trans hq.2.symm)) ?_
                          show J _ _ _ _ _ _ _ _ [(0, .ref 0), (1, .int 3), (2, .int s), (3, .int n)] _ _ _
                          refine J_iload_n (i := 1) (a := 1) rfl rfl (dk_X6_tape 0 _ rfl) ?_
                          refine J_cS (rv := some (.int 1)) (h' := hN0) (d' := 11) (As := [.int 3]) ok_X6_isTape st_X6_isTape cl_6_220 rfl (n := 1) (by decide +kernel) rfl (by decide) (by decide) (dk_X6_tape 1 _ rfl) ?_ ?_
                          · refine jCt_of ok_X6_isTape (fun _ _ => Nat.le_of_ble_eq_true rfl) (fun _ _ hq => by rw [hq.2]; first | exact Nat.le_refl _ | simp) ?_
                            show J _ _ _ _ _ _ _ _ [(0, .int 3)] _ _ _
                            refine J_iload_n (i := 0) (a := 0) rfl rfl (dk_X6_isTape 0 _ rfl) ?_
                            refine J_ifF (tgt := 14) (by decide) (dk_X6_isTape 1 _ rfl) (jI_nlt (by decide : (3 : Int32).toInt = 3) (by decide : (0 : Int32).toInt = 0) (by omega)) ?_
                            refine J_iload_n (i := 0) (a := 0) rfl rfl (dk_X6_isTape 4 _ rfl) ?_
                            refine J_bipush (v := 6) (by decide) (dk_X6_isTape 5 _ rfl) ?_
                            refine J_icF (tgt := 14) (by decide) (dk_X6_isTape 7 _ rfl) (jI_nle (by decide : (6 : Int32).toInt = 6) (by decide : (3 : Int32).toInt = 3) (by omega)) ?_
                            refine J_iconst (v := 1) (by decide) (dk_X6_isTape 10 _ rfl) ?_
                            refine J_goto (tgt := 15) (by decide) (dk_X6_isTape 11 _ rfl) ?_
                            exact J_iret rfl rfl (dk_X6_isTape 15 _ rfl) ⟨rfl, rfl⟩
                          show J _ _ _ _ _ _ _ _ _ [.int 1] _ _
                          refine J_ifT (tgt := 9) (by decide) (dk_X6_tape 4 _ rfl) (jI_ne (by decide : (1 : Int32).toInt = 1) (by decide : (0 : Int32).toInt = 0) (by omega)) ?_
                          refine J_iload_n (i := 2) (a := 2) rfl rfl (dk_X6_tape 9 _ rfl) ?_
                          refine J_iconst (v := (-1)) (by decide) (dk_X6_tape 10 _ rfl) ?_
                          refine J_icT (tgt := 27) (by decide) (dk_X6_tape 11 _ rfl) (jI_ne (rfl : (s : Int32).toInt = (s : Int32).toInt) (by decide : ((-1) : Int32).toInt = (-1)) (by omega)) ?_
                          refine J_iload_n (i := 2) (a := 2) rfl rfl (dk_X6_tape 27 _ rfl) ?_
                          refine J_ifF (tgt := 42) (by decide) (dk_X6_tape 28 _ rfl) (jI_nlt (rfl : (s : Int32).toInt = (s : Int32).toInt) (by decide : (0 : Int32).toInt = 0) (by omega)) ?_
                          refine J_iload_n (i := 2) (a := 2) rfl rfl (dk_X6_tape 31 _ rfl) ?_
                          refine J_iconst (v := 4) (by decide) (dk_X6_tape 32 _ rfl) ?_
                          refine J_icF (tgt := 42) (by decide) (dk_X6_tape 33 _ rfl) (jI_nlt (by decide : (4 : Int32).toInt = 4) (rfl : (s : Int32).toInt = (s : Int32).toInt) (by omega)) ?_
                          refine J_iload_n (i := 3) (a := 3) rfl rfl (dk_X6_tape 36 _ rfl) ?_
                          refine J_bipush (v := 60) (by decide) (dk_X6_tape 37 _ rfl) ?_
                          refine J_icT (tgt := 45) (by decide) (dk_X6_tape 39 _ rfl) (jI_le (rfl : (n : Int32).toInt = (n : Int32).toInt) (by decide : (60 : Int32).toInt = 60) (by omega)) ?_
                          refine J_iload_n (i := 3) (a := 3) rfl rfl (dk_X6_tape 45 _ rfl) ?_
                          refine J_ifT (tgt := 52) (by decide) (dk_X6_tape 46 _ rfl) (jI_le (by decide : (0 : Int32).toInt = 0) (rfl : (n : Int32).toInt = (n : Int32).toInt) (by omega)) ?_
                          refine J_aload_n (i := 0) (a := 0) rfl rfl (dk_X6_tape 52 _ rfl) ?_
                          refine J_getf fl_6_37 rfl rfl (dk_X6_tape 53 _ rfl) ?_
                          refine J_iload_n (i := 1) (a := 1) rfl rfl (dk_X6_tape 56 _ rfl) ?_
                          refine J_aald (by decide) rfl (by decide) rfl (dk_X6_tape 57 _ rfl) ?_
                          refine J_iload_n (i := 2) (a := 2) rfl rfl (dk_X6_tape 58 _ rfl) ?_
                          refine J_iload_n (i := 3) (a := 3) rfl rfl (dk_X6_tape 59 _ rfl) ?_
                          refine J_cVq (Q' := fun r k => r = none ∧ k.length = 94) (d' := 3) (As := [.int s, .int n]) ok_X3_become vi_X3_become cl_6_251 (n := 2) (by decide +kernel) rfl rfl rfl rfl (by decide) (by decide) (dk_X6_tape 60 _ rfl) (c_become (a := 89) (by decide) rfl rfl rfl rfl) (fun r h' hq => ?_)
                          obtain ⟨rfl, hq⟩ := hq
                          show J _ _ _ _ _ _ _ _ [(0, .ref 0), (1, .int 3), (2, .int s), (3, .int n)] _ _ _
                          refine J_iconst (v := 1) (by decide) (dk_X6_tape 63 _ rfl) ?_
                          exact J_iret rfl rfl (dk_X6_tape 64 _ rfl) ⟨rfl, hq⟩
                        · refine jCt_of ok_X7_tape (fun _ _ => Nat.le_of_ble_eq_true rfl) (fun _ _ hq => Nat.le_of_eq (lM.trans hq.2.symm)) ?_
                          show J _ _ _ _ _ _ _ _ [(0, .ref 0), (1, .int 3), (2, .int s), (3, .int n)] _ _ _
                          refine J_aload_n (i := 0) (a := 0) rfl rfl (dk_X7_tape 0 _ rfl) ?_
                          refine J_iload_n (i := 1) (a := 1) rfl rfl (dk_X7_tape 1 _ rfl) ?_
                          refine J_cV (rv := some (.int 1)) (h' := hM0) (d' := 11) (As := [.int 3]) ok_X7_isTape vi_X7_isTape cl_7_354 (n := 1) (by decide +kernel) rfl rfl rfl rfl (by decide) (by decide) (dk_X7_tape 2 _ rfl) ?_ ?_
                          · refine jCt_of ok_X7_isTape (fun _ _ => Nat.le_of_ble_eq_true rfl) (fun _ _ hq => by rw [hq.2]; first | exact Nat.le_refl _ | simp) ?_
                            show J _ _ _ _ _ _ _ _ [(0, .ref 0), (1, .int 3)] _ _ _
                            refine J_aload_n (i := 0) (a := 0) rfl rfl (dk_X7_isTape 0 _ rfl) ?_
                            refine J_iload_n (i := 1) (a := 1) rfl rfl (dk_X7_isTape 1 _ rfl) ?_
                            refine J_iconst (v := 0) (by decide) (dk_X7_isTape 2 _ rfl) ?_
                            refine J_iconst (v := 5) (by decide) (dk_X7_isTape 3 _ rfl) ?_
                            refine J_cV (rv := some (.int 1)) (h' := hM0) (d' := 10) (As := [.int 3, .int 0, .int 5]) ok_X7_in vi_X7_in cl_7_194 (n := 3) (by decide +kernel) rfl rfl rfl rfl (by decide) (by decide) (dk_X7_isTape 4 _ rfl) ?_ ?_
                            · refine jCt_of ok_X7_in (fun _ _ => Nat.le_of_ble_eq_true rfl) (fun _ _ hq => by rw [hq.2]; first | exact Nat.le_refl _ | simp) ?_
                              show J _ _ _ _ _ _ _ _ [(0, .ref 0), (1, .int 3), (2, .int 0), (3, .int 5)] _ _ _
                              refine J_iload_n (i := 1) (a := 1) rfl rfl (dk_X7_in 0 _ rfl) ?_
                              refine J_iload_n (i := 2) (a := 2) rfl rfl (dk_X7_in 1 _ rfl) ?_
                              refine J_icF (tgt := 14) (by decide) (dk_X7_in 2 _ rfl) (jI_nlt (by decide : (3 : Int32).toInt = 3) (by decide : (0 : Int32).toInt = 0) (by omega)) ?_
                              refine J_iload_n (i := 1) (a := 1) rfl rfl (dk_X7_in 5 _ rfl) ?_
                              refine J_iload_n (i := 3) (a := 3) rfl rfl (dk_X7_in 6 _ rfl) ?_
                              refine J_icF (tgt := 14) (by decide) (dk_X7_in 7 _ rfl) (jI_nlt (by decide : (5 : Int32).toInt = 5) (by decide : (3 : Int32).toInt = 3) (by omega)) ?_
                              refine J_iconst (v := 1) (by decide) (dk_X7_in 10 _ rfl) ?_
                              refine J_goto (tgt := 15) (by decide) (dk_X7_in 11 _ rfl) ?_
                              exact J_iret rfl rfl (dk_X7_in 15 _ rfl) ⟨rfl, rfl⟩
                            show J _ _ _ _ _ _ _ _ _ [.int 1] _ _
                            exact J_iret rfl rfl (dk_X7_isTape 7 _ rfl) ⟨rfl, rfl⟩
                          show J _ _ _ _ _ _ _ _ _ [.int 1] _ _
                          refine J_ifT (tgt := 10) (by decide) (dk_X7_tape 5 _ rfl) (jI_ne (by decide : (1 : Int32).toInt = 1) (by decide : (0 : Int32).toInt = 0) (by omega)) ?_
                          refine J_aload_n (i := 0) (a := 0) rfl rfl (dk_X7_tape 10 _ rfl) ?_
                          refine J_iload_n (i := 2) (a := 2) rfl rfl (dk_X7_tape 11 _ rfl) ?_
                          refine J_iconst (v := (-1)) (by decide) (dk_X7_tape 12 _ rfl) ?_
                          refine J_iconst (v := 4) (by decide) (dk_X7_tape 13 _ rfl) ?_
                          refine J_cV (rv := some (.int 1)) (h' := hM0) (d' := 11) (As := [.int s, .int (-1), .int 4]) ok_X7_in vi_X7_in cl_7_194 (n := 3) (by decide +kernel) rfl rfl rfl rfl (by decide) (by decide) (dk_X7_tape 14 _ rfl) ?_ ?_
                          · refine jCt_of ok_X7_in (fun _ _ => Nat.le_of_ble_eq_true rfl) (fun _ _ hq => by rw [hq.2]; first | exact Nat.le_refl _ | simp) ?_
                            show J _ _ _ _ _ _ _ _ [(0, .ref 0), (1, .int s), (2, .int (-1)), (3, .int 4)] _ _ _
                            refine J_iload_n (i := 1) (a := 1) rfl rfl (dk_X7_in 0 _ rfl) ?_
                            refine J_iload_n (i := 2) (a := 2) rfl rfl (dk_X7_in 1 _ rfl) ?_
                            refine J_icF (tgt := 14) (by decide) (dk_X7_in 2 _ rfl) (jI_nlt (rfl : (s : Int32).toInt = (s : Int32).toInt) (by decide : ((-1) : Int32).toInt = (-1)) (by omega)) ?_
                            refine J_iload_n (i := 1) (a := 1) rfl rfl (dk_X7_in 5 _ rfl) ?_
                            refine J_iload_n (i := 3) (a := 3) rfl rfl (dk_X7_in 6 _ rfl) ?_
                            refine J_icF (tgt := 14) (by decide) (dk_X7_in 7 _ rfl) (jI_nlt (by decide : (4 : Int32).toInt = 4) (rfl : (s : Int32).toInt = (s : Int32).toInt) (by omega)) ?_
                            refine J_iconst (v := 1) (by decide) (dk_X7_in 10 _ rfl) ?_
                            refine J_goto (tgt := 15) (by decide) (dk_X7_in 11 _ rfl) ?_
                            exact J_iret rfl rfl (dk_X7_in 15 _ rfl) ⟨rfl, rfl⟩
                          show J _ _ _ _ _ _ _ _ _ [.int 1] _ _
                          refine J_ifF (tgt := 30) (by decide) (dk_X7_tape 17 _ rfl) (jI_ne (by decide : (1 : Int32).toInt = 1) (by decide : (0 : Int32).toInt = 0) (by omega)) ?_
                          refine J_iload_n (i := 2) (a := 2) rfl rfl (dk_X7_tape 20 _ rfl) ?_
                          refine J_ifF (tgt := 33) (by decide) (dk_X7_tape 21 _ rfl) (jI_nlt (rfl : (s : Int32).toInt = (s : Int32).toInt) (by decide : (0 : Int32).toInt = 0) (by omega)) ?_
                          refine J_iload_n (i := 3) (a := 3) rfl rfl (dk_X7_tape 24 _ rfl) ?_
                          refine J_bipush (v := 60) (by decide) (dk_X7_tape 25 _ rfl) ?_
                          refine J_icT (tgt := 33) (by decide) (dk_X7_tape 27 _ rfl) (jI_le (rfl : (n : Int32).toInt = (n : Int32).toInt) (by decide : (60 : Int32).toInt = 60) (by omega)) ?_
                          refine J_iload_n (i := 2) (a := 2) rfl rfl (dk_X7_tape 33 _ rfl) ?_
                          refine J_ifF (tgt := 44) (by decide) (dk_X7_tape 34 _ rfl) (jI_nlt (rfl : (s : Int32).toInt = (s : Int32).toInt) (by decide : (0 : Int32).toInt = 0) (by omega)) ?_
                          refine J_iload_n (i := 3) (a := 3) rfl rfl (dk_X7_tape 37 _ rfl) ?_
                          refine J_ifT (tgt := 44) (by decide) (dk_X7_tape 38 _ rfl) (jI_le (by decide : (0 : Int32).toInt = 0) (rfl : (n : Int32).toInt = (n : Int32).toInt) (by omega)) ?_
                          refine J_aload_n (i := 0) (a := 0) rfl rfl (dk_X7_tape 44 _ rfl) ?_
                          refine J_getf fl_7_181 rfl rfl (dk_X7_tape 45 _ rfl) ?_
                          refine J_iload_n (i := 1) (a := 1) rfl rfl (dk_X7_tape 48 _ rfl) ?_
                          refine J_iload_n (i := 2) (a := 2) rfl rfl (dk_X7_tape 49 _ rfl) ?_
                          refine J_iast rfl (by decide) (Nat.le_of_ble_eq_true rfl) (dk_X7_tape 50 _ rfl) ?_
                          refine J_aload_n (i := 0) (a := 0) rfl rfl (dk_X7_tape 51 _ rfl) ?_
                          refine J_getf fl_7_184 rfl rfl (dk_X7_tape 52 _ rfl) ?_
                          refine J_iload_n (i := 1) (a := 1) rfl rfl (dk_X7_tape 55 _ rfl) ?_
                          refine J_iload_n (i := 2) (a := 2) rfl rfl (dk_X7_tape 56 _ rfl) ?_
                          refine J_ifT (tgt := 64) (by decide) (dk_X7_tape 57 _ rfl) (jI_le (by decide : (0 : Int32).toInt = 0) (rfl : (s : Int32).toInt = (s : Int32).toInt) (by omega)) ?_
                          refine J_iload_n (i := 3) (a := 3) rfl rfl (dk_X7_tape 64 _ rfl) ?_
                          refine J_iast rfl (by decide) (Nat.le_of_ble_eq_true rfl) (dk_X7_tape 65 _ rfl) ?_
                          refine J_iconst (v := 0) (by decide) (dk_X7_tape 66 _ rfl) ?_
                          refine J_istore (i := 4) (by decide) (dk_X7_tape 67 _ rfl) ?_
                          show J _ _ _ _ _ _ _ _ [(4, .int 0), (0, .ref 0), (1, .int 3), (2, .int s), (3, .int n)] _ _ _
                          exact lp_tapeM (c := 3) (a := 35) (by decide) (by decide) (by decide) 60 0 (by omega) _ _ rfl rfl rfl rfl rfl
                      · by_cases c19 : (t : Int32).toInt = 4
                        · obtain rfl : t = 4 := jI_eq rfl (by decide) c19
                          refine ⟨1, ?_, ?_⟩
                          · refine jCt_of ok_X6_tape (fun _ _ => Nat.le_of_ble_eq_true rfl) (fun _ _ hq => Nat.le_of_eq (lX.trans hq.2.symm)) ?_
                            show J _ _ _ _ _ _ _ _ [(0, .ref 0), (1, .int 4), (2, .int s), (3, .int n)] _ _ _
                            refine J_iload_n (i := 1) (a := 1) rfl rfl (dk_X6_tape 0 _ rfl) ?_
                            refine J_cS (rv := some (.int 1)) (h' := hN0) (d' := 11) (As := [.int 4]) ok_X6_isTape st_X6_isTape cl_6_220 rfl (n := 1) (by decide +kernel) rfl (by decide) (by decide) (dk_X6_tape 1 _ rfl) ?_ ?_
                            · refine jCt_of ok_X6_isTape (fun _ _ => Nat.le_of_ble_eq_true rfl) (fun _ _ hq => by rw [hq.2]; first | exact Nat.le_refl _ | simp) ?_
                              show J _ _ _ _ _ _ _ _ [(0, .int 4)] _ _ _
                              refine J_iload_n (i := 0) (a := 0) rfl rfl (dk_X6_isTape 0 _ rfl) ?_
                              refine J_ifF (tgt := 14) (by decide) (dk_X6_isTape 1 _ rfl) (jI_nlt (by decide : (4 : Int32).toInt = 4) (by decide : (0 : Int32).toInt = 0) (by omega)) ?_
                              refine J_iload_n (i := 0) (a := 0) rfl rfl (dk_X6_isTape 4 _ rfl) ?_
                              refine J_bipush (v := 6) (by decide) (dk_X6_isTape 5 _ rfl) ?_
                              refine J_icF (tgt := 14) (by decide) (dk_X6_isTape 7 _ rfl) (jI_nle (by decide : (6 : Int32).toInt = 6) (by decide : (4 : Int32).toInt = 4) (by omega)) ?_
                              refine J_iconst (v := 1) (by decide) (dk_X6_isTape 10 _ rfl) ?_
                              refine J_goto (tgt := 15) (by decide) (dk_X6_isTape 11 _ rfl) ?_
                              exact J_iret rfl rfl (dk_X6_isTape 15 _ rfl) ⟨rfl, rfl⟩
                            show J _ _ _ _ _ _ _ _ _ [.int 1] _ _
                            refine J_ifT (tgt := 9) (by decide) (dk_X6_tape 4 _ rfl) (jI_ne (by decide : (1 : Int32).toInt = 1) (by decide : (0 : Int32).toInt = 0) (by omega)) ?_
                            refine J_iload_n (i := 2) (a := 2) rfl rfl (dk_X6_tape 9 _ rfl) ?_
                            refine J_iconst (v := (-1)) (by decide) (dk_X6_tape 10 _ rfl) ?_
                            refine J_icT (tgt := 27) (by decide) (dk_X6_tape 11 _ rfl) (jI_ne (rfl : (s : Int32).toInt = (s : Int32).toInt) (by decide : ((-1) : Int32).toInt = (-1)) (by omega)) ?_
                            refine J_iload_n (i := 2) (a := 2) rfl rfl (dk_X6_tape 27 _ rfl) ?_
                            refine J_ifF (tgt := 42) (by decide) (dk_X6_tape 28 _ rfl) (jI_nlt (rfl : (s : Int32).toInt = (s : Int32).toInt) (by decide : (0 : Int32).toInt = 0) (by omega)) ?_
                            refine J_iload_n (i := 2) (a := 2) rfl rfl (dk_X6_tape 31 _ rfl) ?_
                            refine J_iconst (v := 4) (by decide) (dk_X6_tape 32 _ rfl) ?_
                            refine J_icF (tgt := 42) (by decide) (dk_X6_tape 33 _ rfl) (jI_nlt (by decide : (4 : Int32).toInt = 4) (rfl : (s : Int32).toInt = (s : Int32).toInt) (by omega)) ?_
                            refine J_iload_n (i := 3) (a := 3) rfl rfl (dk_X6_tape 36 _ rfl) ?_
                            refine J_bipush (v := 60) (by decide) (dk_X6_tape 37 _ rfl) ?_
                            refine J_icT (tgt := 45) (by decide) (dk_X6_tape 39 _ rfl) (jI_le (rfl : (n : Int32).toInt = (n : Int32).toInt) (by decide : (60 : Int32).toInt = 60) (by omega)) ?_
                            refine J_iload_n (i := 3) (a := 3) rfl rfl (dk_X6_tape 45 _ rfl) ?_
                            refine J_ifT (tgt := 52) (by decide) (dk_X6_tape 46 _ rfl) (jI_le (by decide : (0 : Int32).toInt = 0) (rfl : (n : Int32).toInt = (n : Int32).toInt) (by omega)) ?_
                            refine J_aload_n (i := 0) (a := 0) rfl rfl (dk_X6_tape 52 _ rfl) ?_
                            refine J_getf fl_6_37 rfl rfl (dk_X6_tape 53 _ rfl) ?_
                            refine J_iload_n (i := 1) (a := 1) rfl rfl (dk_X6_tape 56 _ rfl) ?_
                            refine J_aald (by decide) rfl (by decide) rfl (dk_X6_tape 57 _ rfl) ?_
                            refine J_iload_n (i := 2) (a := 2) rfl rfl (dk_X6_tape 58 _ rfl) ?_
                            refine J_iload_n (i := 3) (a := 3) rfl rfl (dk_X6_tape 59 _ rfl) ?_
                            refine J_cVq (Q' := fun r k => r = none ∧ k.length = 94) (d' := 3) (As := [.int s, .int n]) ok_X3_become vi_X3_become cl_6_251 (n := 2) (by decide +kernel) rfl rfl rfl rfl (by decide) (by decide) (dk_X6_tape 60 _ rfl) (c_become (a := 91) (by decide) rfl rfl rfl rfl) (fun r h' hq => ?_)
                            obtain ⟨rfl, hq⟩ := hq
                            show J _ _ _ _ _ _ _ _ [(0, .ref 0), (1, .int 4), (2, .int s), (3, .int n)] _ _ _
                            refine J_iconst (v := 1) (by decide) (dk_X6_tape 63 _ rfl) ?_
                            exact J_iret rfl rfl (dk_X6_tape 64 _ rfl) ⟨rfl, hq⟩
                          · refine jCt_of ok_X7_tape (fun _ _ => Nat.le_of_ble_eq_true rfl) (fun _ _ hq => Nat.le_of_eq (lM.trans hq.2.symm)) ?_
                            show J _ _ _ _ _ _ _ _ [(0, .ref 0), (1, .int 4), (2, .int s), (3, .int n)] _ _ _
                            refine J_aload_n (i := 0) (a := 0) rfl rfl (dk_X7_tape 0 _ rfl) ?_
                            refine J_iload_n (i := 1) (a := 1) rfl rfl (dk_X7_tape 1 _ rfl) ?_
                            refine J_cV (rv := some (.int 1)) (h' := hM0) (d' := 11) (As := [.int 4]) ok_X7_isTape vi_X7_isTape cl_7_354 (n := 1) (by decide +kernel) rfl rfl rfl rfl (by decide) (by decide) (dk_X7_tape 2 _ rfl) ?_ ?_
                            · refine jCt_of ok_X7_isTape (fun _ _ => Nat.le_of_ble_eq_true rfl) (fun _ _ hq => by rw [hq.2]; first | exact Nat.le_refl _ | simp) ?_
                              show J _ _ _ _ _ _ _ _ [(0, .ref 0), (1, .int 4)] _ _ _
                              refine J_aload_n (i := 0) (a := 0) rfl rfl (dk_X7_isTape 0 _ rfl) ?_
                              refine J_iload_n (i := 1) (a := 1) rfl rfl (dk_X7_isTape 1 _ rfl) ?_
                              refine J_iconst (v := 0) (by decide) (dk_X7_isTape 2 _ rfl) ?_
                              refine J_iconst (v := 5) (by decide) (dk_X7_isTape 3 _ rfl) ?_
                              refine J_cV (rv := some (.int 1)) (h' := hM0) (d' := 10) (As := [.int 4, .int 0, .int 5]) ok_X7_in vi_X7_in cl_7_194 (n := 3) (by decide +kernel) rfl rfl rfl rfl (by decide) (by decide) (dk_X7_isTape 4 _ rfl) ?_ ?_
                              · refine jCt_of ok_X7_in (fun _ _ => Nat.le_of_ble_eq_true rfl) (fun _ _ hq => by rw [hq.2]; first | exact Nat.le_refl _ | simp) ?_
                                show J _ _ _ _ _ _ _ _ [(0, .ref 0), (1, .int 4), (2, .int 0), (3, .int 5)] _ _ _
                                refine J_iload_n (i := 1) (a := 1) rfl rfl (dk_X7_in 0 _ rfl) ?_
                                refine J_iload_n (i := 2) (a := 2) rfl rfl (dk_X7_in 1 _ rfl) ?_
                                refine J_icF (tgt := 14) (by decide) (dk_X7_in 2 _ rfl) (jI_nlt (by decide : (4 : Int32).toInt = 4) (by decide : (0 : Int32).toInt = 0) (by omega)) ?_
                                refine J_iload_n (i := 1) (a := 1) rfl rfl (dk_X7_in 5 _ rfl) ?_
                                refine J_iload_n (i := 3) (a := 3) rfl rfl (dk_X7_in 6 _ rfl) ?_
                                refine J_icF (tgt := 14) (by decide) (dk_X7_in 7 _ rfl) (jI_nlt (by decide : (5 : Int32).toInt = 5) (by decide : (4 : Int32).toInt = 4) (by omega)) ?_
                                refine J_iconst (v := 1) (by decide) (dk_X7_in 10 _ rfl) ?_
                                refine J_goto (tgt := 15) (by decide) (dk_X7_in 11 _ rfl) ?_
                                exact J_iret rfl rfl (dk_X7_in 15 _ rfl) ⟨rfl, rfl⟩
                              show J _ _ _ _ _ _ _ _ _ [.int 1] _ _
                              exact J_iret rfl rfl (dk_X7_isTape 7 _ rfl) ⟨rfl, rfl⟩
                            show J _ _ _ _ _ _ _ _ _ [.int 1] _ _
                            refine J_ifT (tgt := 10) (by decide) (dk_X7_tape 5 _ rfl) (jI_ne (by decide : (1 : Int32).toInt = 1) (by decide : (0 : Int32).toInt = 0) (by omega)) ?_
                            refine J_aload_n (i := 0) (a := 0) rfl rfl (dk_X7_tape 10 _ rfl) ?_
                            refine J_iload_n (i := 2) (a := 2) rfl rfl (dk_X7_tape 11 _ rfl) ?_
                            refine J_iconst (v := (-1)) (by decide) (dk_X7_tape 12 _ rfl) ?_
                            refine J_iconst (v := 4) (by decide) (dk_X7_tape 13 _ rfl) ?_
                            refine J_cV (rv := some (.int 1)) (h' := hM0) (d' := 11) (As := [.int s, .int (-1), .int 4]) ok_X7_in vi_X7_in cl_7_194 (n := 3) (by decide +kernel) rfl rfl rfl rfl (by decide) (by decide) (dk_X7_tape 14 _ rfl) ?_ ?_
                            · refine jCt_of ok_X7_in (fun _ _ => Nat.le_of_ble_eq_true rfl) (fun _ _ hq => by rw [hq.2]; first | exact Nat.le_refl _ | simp) ?_
                              show J _ _ _ _ _ _ _ _ [(0, .ref 0), (1, .int s), (2, .int (-1)), (3, .int 4)] _ _ _
                              refine J_iload_n (i := 1) (a := 1) rfl rfl (dk_X7_in 0 _ rfl) ?_
                              refine J_iload_n (i := 2) (a := 2) rfl rfl (dk_X7_in 1 _ rfl) ?_
                              refine J_icF (tgt := 14) (by decide) (dk_X7_in 2 _ rfl) (jI_nlt (rfl : (s : Int32).toInt = (s : Int32).toInt) (by decide : ((-1) : Int32).toInt = (-1)) (by omega)) ?_
                              refine J_iload_n (i := 1) (a := 1) rfl rfl (dk_X7_in 5 _ rfl) ?_
                              refine J_iload_n (i := 3) (a := 3) rfl rfl (dk_X7_in 6 _ rfl) ?_
                              refine J_icF (tgt := 14) (by decide) (dk_X7_in 7 _ rfl) (jI_nlt (by decide : (4 : Int32).toInt = 4) (rfl : (s : Int32).toInt = (s : Int32).toInt) (by omega)) ?_
                              refine J_iconst (v := 1) (by decide) (dk_X7_in 10 _ rfl) ?_
                              refine J_goto (tgt := 15) (by decide) (dk_X7_in 11 _ rfl) ?_
                              exact J_iret rfl rfl (dk_X7_in 15 _ rfl) ⟨rfl, rfl⟩
                            show J _ _ _ _ _ _ _ _ _ [.int 1] _ _
                            refine J_ifF (tgt := 30) (by decide) (dk_X7_tape 17 _ rfl) (jI_ne (by decide : (1 : Int32).toInt = 1) (by decide : (0 : Int32).toInt = 0) (by omega)) ?_
                            refine J_iload_n (i := 2) (a := 2) rfl rfl (dk_X7_tape 20 _ rfl) ?_
                            refine J_ifF (tgt := 33) (by decide) (dk_X7_tape 21 _ rfl) (jI_nlt (rfl : (s : Int32).toInt = (s : Int32).toInt) (by decide : (0 : Int32).toInt = 0) (by omega)) ?_
                            refine J_iload_n (i := 3) (a := 3) rfl rfl (dk_X7_tape 24 _ rfl) ?_
                            refine J_bipush (v := 60) (by decide) (dk_X7_tape 25 _ rfl) ?_
                            refine J_icT (tgt := 33) (by decide) (dk_X7_tape 27 _ rfl) (jI_le (rfl : (n : Int32).toInt = (n : Int32).toInt) (by decide : (60 : Int32).toInt = 60) (by omega)) ?_
                            refine J_iload_n (i := 2) (a := 2) rfl rfl (dk_X7_tape 33 _ rfl) ?_
                            refine J_ifF (tgt := 44) (by decide) (dk_X7_tape 34 _ rfl) (jI_nlt (rfl : (s : Int32).toInt = (s : Int32).toInt) (by decide : (0 : Int32).toInt = 0) (by omega)) ?_
                            refine J_iload_n (i := 3) (a := 3) rfl rfl (dk_X7_tape 37 _ rfl) ?_
                            refine J_ifT (tgt := 44) (by decide) (dk_X7_tape 38 _ rfl) (jI_le (by decide : (0 : Int32).toInt = 0) (rfl : (n : Int32).toInt = (n : Int32).toInt) (by omega)) ?_
                            refine J_aload_n (i := 0) (a := 0) rfl rfl (dk_X7_tape 44 _ rfl) ?_
                            refine J_getf fl_7_181 rfl rfl (dk_X7_tape 45 _ rfl) ?_
                            refine J_iload_n (i := 1) (a := 1) rfl rfl (dk_X7_tape 48 _ rfl) ?_
                            refine J_iload_n (i := 2) (a := 2) rfl rfl (dk_X7_tape 49 _ rfl) ?_
                            refine J_iast rfl (by decide) (Nat.le_of_ble_eq_true rfl) (dk_X7_tape 50 _ rfl) ?_
                            refine J_aload_n (i := 0) (a := 0) rfl rfl (dk_X7_tape 51 _ rfl) ?_
                            refine J_getf fl_7_184 rfl rfl (dk_X7_tape 52 _ rfl) ?_
                            refine J_iload_n (i := 1) (a := 1) rfl rfl (dk_X7_tape 55 _ rfl) ?_
                            refine J_iload_n (i := 2) (a := 2) rfl rfl (dk_X7_tape 56 _ rfl) ?_
                            refine J_ifT (tgt := 64) (by decide) (dk_X7_tape 57 _ rfl) (jI_le (by decide : (0 : Int32).toInt = 0) (rfl : (s : Int32).toInt = (s : Int32).toInt) (by omega)) ?_
                            refine J_iload_n (i := 3) (a := 3) rfl rfl (dk_X7_tape 64 _ rfl) ?_
                            refine J_iast rfl (by decide) (Nat.le_of_ble_eq_true rfl) (dk_X7_tape 65 _ rfl) ?_
                            refine J_iconst (v := 0) (by decide) (dk_X7_tape 66 _ rfl) ?_
                            refine J_istore (i := 4) (by decide) (dk_X7_tape 67 _ rfl) ?_
                            show J _ _ _ _ _ _ _ _ [(4, .int 0), (0, .ref 0), (1, .int 4), (2, .int s), (3, .int n)] _ _ _
                            exact lp_tapeM (c := 4) (a := 35) (by decide) (by decide) (by decide) 60 0 (by omega) _ _ rfl rfl rfl rfl rfl
                        · obtain rfl : t = 5 := jI_eq rfl (by decide) (by omega : (t : Int32).toInt = 5)
                          refine ⟨1, ?_, ?_⟩
                          · refine jCt_of ok_X6_tape (fun _ _ => Nat.le_of_ble_eq_true rfl) (fun _ _ hq => Nat.le_of_eq (lX.trans hq.2.symm)) ?_
                            show J _ _ _ _ _ _ _ _ [(0, .ref 0), (1, .int 5), (2, .int s), (3, .int n)] _ _ _
                            refine J_iload_n (i := 1) (a := 1) rfl rfl (dk_X6_tape 0 _ rfl) ?_
                            refine J_cS (rv := some (.int 1)) (h' := hN0) (d' := 11) (As := [.int 5]) ok_X6_isTape st_X6_isTape cl_6_220 rfl (n := 1) (by decide +kernel) rfl (by decide) (by decide) (dk_X6_tape 1 _ rfl) ?_ ?_
                            · refine jCt_of ok_X6_isTape (fun _ _ => Nat.le_of_ble_eq_true rfl) (fun _ _ hq => by rw [hq.2]; first | exact Nat.le_refl _ | simp) ?_
                              show J _ _ _ _ _ _ _ _ [(0, .int 5)] _ _ _
                              refine J_iload_n (i := 0) (a := 0) rfl rfl (dk_X6_isTape 0 _ rfl) ?_
                              refine J_ifF (tgt := 14) (by decide) (dk_X6_isTape 1 _ rfl) (jI_nlt (by decide : (5 : Int32).toInt = 5) (by decide : (0 : Int32).toInt = 0) (by omega)) ?_
                              refine J_iload_n (i := 0) (a := 0) rfl rfl (dk_X6_isTape 4 _ rfl) ?_
                              refine J_bipush (v := 6) (by decide) (dk_X6_isTape 5 _ rfl) ?_
                              refine J_icF (tgt := 14) (by decide) (dk_X6_isTape 7 _ rfl) (jI_nle (by decide : (6 : Int32).toInt = 6) (by decide : (5 : Int32).toInt = 5) (by omega)) ?_
                              refine J_iconst (v := 1) (by decide) (dk_X6_isTape 10 _ rfl) ?_
                              refine J_goto (tgt := 15) (by decide) (dk_X6_isTape 11 _ rfl) ?_
                              exact J_iret rfl rfl (dk_X6_isTape 15 _ rfl) ⟨rfl, rfl⟩
                            show J _ _ _ _ _ _ _ _ _ [.int 1] _ _
                            refine J_ifT (tgt := 9) (by decide) (dk_X6_tape 4 _ rfl) (jI_ne (by decide : (1 : Int32).toInt = 1) (by decide : (0 : Int32).toInt = 0) (by omega)) ?_
                            refine J_iload_n (i := 2) (a := 2) rfl rfl (dk_X6_tape 9 _ rfl) ?_
                            refine J_iconst (v := (-1)) (by decide) (dk_X6_tape 10 _ rfl) ?_
                            refine J_icT (tgt := 27) (by decide) (dk_X6_tape 11 _ rfl) (jI_ne (rfl : (s : Int32).toInt = (s : Int32).toInt) (by decide : ((-1) : Int32).toInt = (-1)) (by omega)) ?_
                            refine J_iload_n (i := 2) (a := 2) rfl rfl (dk_X6_tape 27 _ rfl) ?_
                            refine J_ifF (tgt := 42) (by decide) (dk_X6_tape 28 _ rfl) (jI_nlt (rfl : (s : Int32).toInt = (s : Int32).toInt) (by decide : (0 : Int32).toInt = 0) (by omega)) ?_
                            refine J_iload_n (i := 2) (a := 2) rfl rfl (dk_X6_tape 31 _ rfl) ?_
                            refine J_iconst (v := 4) (by decide) (dk_X6_tape 32 _ rfl) ?_
                            refine J_icF (tgt := 42) (by decide) (dk_X6_tape 33 _ rfl) (jI_nlt (by decide : (4 : Int32).toInt = 4) (rfl : (s : Int32).toInt = (s : Int32).toInt) (by omega)) ?_
                            refine J_iload_n (i := 3) (a := 3) rfl rfl (dk_X6_tape 36 _ rfl) ?_
                            refine J_bipush (v := 60) (by decide) (dk_X6_tape 37 _ rfl) ?_
                            refine J_icT (tgt := 45) (by decide) (dk_X6_tape 39 _ rfl) (jI_le (rfl : (n : Int32).toInt = (n : Int32).toInt) (by decide : (60 : Int32).toInt = 60) (by omega)) ?_
                            refine J_iload_n (i := 3) (a := 3) rfl rfl (dk_X6_tape 45 _ rfl) ?_
                            refine J_ifT (tgt := 52) (by decide) (dk_X6_tape 46 _ rfl) (jI_le (by decide : (0 : Int32).toInt = 0) (rfl : (n : Int32).toInt = (n : Int32).toInt) (by omega)) ?_
                            refine J_aload_n (i := 0) (a := 0) rfl rfl (dk_X6_tape 52 _ rfl) ?_
                            refine J_getf fl_6_37 rfl rfl (dk_X6_tape 53 _ rfl) ?_
                            refine J_iload_n (i := 1) (a := 1) rfl rfl (dk_X6_tape 56 _ rfl) ?_
                            refine J_aald (by decide) rfl (by decide) rfl (dk_X6_tape 57 _ rfl) ?_
                            refine J_iload_n (i := 2) (a := 2) rfl rfl (dk_X6_tape 58 _ rfl) ?_
                            refine J_iload_n (i := 3) (a := 3) rfl rfl (dk_X6_tape 59 _ rfl) ?_
                            refine J_cVq (Q' := fun r k => r = none ∧ k.length = 94) (d' := 3) (As := [.int s, .int n]) ok_X3_become vi_X3_become cl_6_251 (n := 2) (by decide +kernel) rfl rfl rfl rfl (by decide) (by decide) (dk_X6_tape 60 _ rfl) (c_become (a := 93) (by decide) rfl rfl rfl rfl) (fun r h' hq => ?_)
                            obtain ⟨rfl, hq⟩ := hq
                            show J _ _ _ _ _ _ _ _ [(0, .ref 0), (1, .int 5), (2, .int s), (3, .int n)] _ _ _
                            refine J_iconst (v := 1) (by decide) (dk_X6_tape 63 _ rfl) ?_
                            exact J_iret rfl rfl (dk_X6_tape 64 _ rfl) ⟨rfl, hq⟩
                          · refine jCt_of ok_X7_tape (fun _ _ => Nat.le_of_ble_eq_true rfl) (fun _ _ hq => Nat.le_of_eq (lM.trans hq.2.symm)) ?_
                            show J _ _ _ _ _ _ _ _ [(0, .ref 0), (1, .int 5), (2, .int s), (3, .int n)] _ _ _
                            refine J_aload_n (i := 0) (a := 0) rfl rfl (dk_X7_tape 0 _ rfl) ?_
                            refine J_iload_n (i := 1) (a := 1) rfl rfl (dk_X7_tape 1 _ rfl) ?_
                            refine J_cV (rv := some (.int 1)) (h' := hM0) (d' := 11) (As := [.int 5]) ok_X7_isTape vi_X7_isTape cl_7_354 (n := 1) (by decide +kernel) rfl rfl rfl rfl (by decide) (by decide) (dk_X7_tape 2 _ rfl) ?_ ?_
                            · refine jCt_of ok_X7_isTape (fun _ _ => Nat.le_of_ble_eq_true rfl) (fun _ _ hq => by rw [hq.2]; first | exact Nat.le_refl _ | simp) ?_
                              show J _ _ _ _ _ _ _ _ [(0, .ref 0), (1, .int 5)] _ _ _
                              refine J_aload_n (i := 0) (a := 0) rfl rfl (dk_X7_isTape 0 _ rfl) ?_
                              refine J_iload_n (i := 1) (a := 1) rfl rfl (dk_X7_isTape 1 _ rfl) ?_
                              refine J_iconst (v := 0) (by decide) (dk_X7_isTape 2 _ rfl) ?_
                              refine J_iconst (v := 5) (by decide) (dk_X7_isTape 3 _ rfl) ?_
                              refine J_cV (rv := some (.int 1)) (h' := hM0) (d' := 10) (As := [.int 5, .int 0, .int 5]) ok_X7_in vi_X7_in cl_7_194 (n := 3) (by decide +kernel) rfl rfl rfl rfl (by decide) (by decide) (dk_X7_isTape 4 _ rfl) ?_ ?_
                              · refine jCt_of ok_X7_in (fun _ _ => Nat.le_of_ble_eq_true rfl) (fun _ _ hq => by rw [hq.2]; first | exact Nat.le_refl _ | simp) ?_
                                show J _ _ _ _ _ _ _ _ [(0, .ref 0), (1, .int 5), (2, .int 0), (3, .int 5)] _ _ _
                                refine J_iload_n (i := 1) (a := 1) rfl rfl (dk_X7_in 0 _ rfl) ?_
                                refine J_iload_n (i := 2) (a := 2) rfl rfl (dk_X7_in 1 _ rfl) ?_
                                refine J_icF (tgt := 14) (by decide) (dk_X7_in 2 _ rfl) (jI_nlt (by decide : (5 : Int32).toInt = 5) (by decide : (0 : Int32).toInt = 0) (by omega)) ?_
                                refine J_iload_n (i := 1) (a := 1) rfl rfl (dk_X7_in 5 _ rfl) ?_
                                refine J_iload_n (i := 3) (a := 3) rfl rfl (dk_X7_in 6 _ rfl) ?_
                                refine J_icF (tgt := 14) (by decide) (dk_X7_in 7 _ rfl) (jI_nlt (by decide : (5 : Int32).toInt = 5) (by decide : (5 : Int32).toInt = 5) (by omega)) ?_
                                refine J_iconst (v := 1) (by decide) (dk_X7_in 10 _ rfl) ?_
                                refine J_goto (tgt := 15) (by decide) (dk_X7_in 11 _ rfl) ?_
                                exact J_iret rfl rfl (dk_X7_in 15 _ rfl) ⟨rfl, rfl⟩
                              show J _ _ _ _ _ _ _ _ _ [.int 1] _ _
                              exact J_iret rfl rfl (dk_X7_isTape 7 _ rfl) ⟨rfl, rfl⟩
                            show J _ _ _ _ _ _ _ _ _ [.int 1] _ _
                            refine J_ifT (tgt := 10) (by decide) (dk_X7_tape 5 _ rfl) (jI_ne (by decide : (1 : Int32).toInt = 1) (by decide : (0 : Int32).toInt = 0) (by omega)) ?_
                            refine J_aload_n (i := 0) (a := 0) rfl rfl (dk_X7_tape 10 _ rfl) ?_
                            refine J_iload_n (i := 2) (a := 2) rfl rfl (dk_X7_tape 11 _ rfl) ?_
                            refine J_iconst (v := (-1)) (by decide) (dk_X7_tape 12 _ rfl) ?_
                            refine J_iconst (v := 4) (by decide) (dk_X7_tape 13 _ rfl) ?_
                            refine J_cV (rv := some (.int 1)) (h' := hM0) (d' := 11) (As := [.int s, .int (-1), .int 4]) ok_X7_in vi_X7_in cl_7_194 (n := 3) (by decide +kernel) rfl rfl rfl rfl (by decide) (by decide) (dk_X7_tape 14 _ rfl) ?_ ?_
                            · refine jCt_of ok_X7_in (fun _ _ => Nat.le_of_ble_eq_true rfl) (fun _ _ hq => by rw [hq.2]; first | exact Nat.le_refl _ | simp) ?_
                              show J _ _ _ _ _ _ _ _ [(0, .ref 0), (1, .int s), (2, .int (-1)), (3, .int 4)] _ _ _
                              refine J_iload_n (i := 1) (a := 1) rfl rfl (dk_X7_in 0 _ rfl) ?_
                              refine J_iload_n (i := 2) (a := 2) rfl rfl (dk_X7_in 1 _ rfl) ?_
                              refine J_icF (tgt := 14) (by decide) (dk_X7_in 2 _ rfl) (jI_nlt (rfl : (s : Int32).toInt = (s : Int32).toInt) (by decide : ((-1) : Int32).toInt = (-1)) (by omega)) ?_
                              refine J_iload_n (i := 1) (a := 1) rfl rfl (dk_X7_in 5 _ rfl) ?_
                              refine J_iload_n (i := 3) (a := 3) rfl rfl (dk_X7_in 6 _ rfl) ?_
                              refine J_icF (tgt := 14) (by decide) (dk_X7_in 7 _ rfl) (jI_nlt (by decide : (4 : Int32).toInt = 4) (rfl : (s : Int32).toInt = (s : Int32).toInt) (by omega)) ?_
                              refine J_iconst (v := 1) (by decide) (dk_X7_in 10 _ rfl) ?_
                              refine J_goto (tgt := 15) (by decide) (dk_X7_in 11 _ rfl) ?_
                              exact J_iret rfl rfl (dk_X7_in 15 _ rfl) ⟨rfl, rfl⟩
                            show J _ _ _ _ _ _ _ _ _ [.int 1] _ _
                            refine J_ifF (tgt := 30) (by decide) (dk_X7_tape 17 _ rfl) (jI_ne (by decide : (1 : Int32).toInt = 1) (by decide : (0 : Int32).toInt = 0) (by omega)) ?_
                            refine J_iload_n (i := 2) (a := 2) rfl rfl (dk_X7_tape 20 _ rfl) ?_
                            refine J_ifF (tgt := 33) (by decide) (dk_X7_tape 21 _ rfl) (jI_nlt (rfl : (s : Int32).toInt = (s : Int32).toInt) (by decide : (0 : Int32).toInt = 0) (by omega)) ?_
                            refine J_iload_n (i := 3) (a := 3) rfl rfl (dk_X7_tape 24 _ rfl) ?_
                            refine J_bipush (v := 60) (by decide) (dk_X7_tape 25 _ rfl) ?_
                            refine J_icT (tgt := 33) (by decide) (dk_X7_tape 27 _ rfl) (jI_le (rfl : (n : Int32).toInt = (n : Int32).toInt) (by decide : (60 : Int32).toInt = 60) (by omega)) ?_
                            refine J_iload_n (i := 2) (a := 2) rfl rfl (dk_X7_tape 33 _ rfl) ?_
                            refine J_ifF (tgt := 44) (by decide) (dk_X7_tape 34 _ rfl) (jI_nlt (rfl : (s : Int32).toInt = (s : Int32).toInt) (by decide : (0 : Int32).toInt = 0) (by omega)) ?_
                            refine J_iload_n (i := 3) (a := 3) rfl rfl (dk_X7_tape 37 _ rfl) ?_
                            refine J_ifT (tgt := 44) (by decide) (dk_X7_tape 38 _ rfl) (jI_le (by decide : (0 : Int32).toInt = 0) (rfl : (n : Int32).toInt = (n : Int32).toInt) (by omega)) ?_
                            refine J_aload_n (i := 0) (a := 0) rfl rfl (dk_X7_tape 44 _ rfl) ?_
                            refine J_getf fl_7_181 rfl rfl (dk_X7_tape 45 _ rfl) ?_
                            refine J_iload_n (i := 1) (a := 1) rfl rfl (dk_X7_tape 48 _ rfl) ?_
                            refine J_iload_n (i := 2) (a := 2) rfl rfl (dk_X7_tape 49 _ rfl) ?_
                            refine J_iast rfl (by decide) (Nat.le_of_ble_eq_true rfl) (dk_X7_tape 50 _ rfl) ?_
                            refine J_aload_n (i := 0) (a := 0) rfl rfl (dk_X7_tape 51 _ rfl) ?_
                            refine J_getf fl_7_184 rfl rfl (dk_X7_tape 52 _ rfl) ?_
                            refine J_iload_n (i := 1) (a := 1) rfl rfl (dk_X7_tape 55 _ rfl) ?_
                            refine J_iload_n (i := 2) (a := 2) rfl rfl (dk_X7_tape 56 _ rfl) ?_
                            refine J_ifT (tgt := 64) (by decide) (dk_X7_tape 57 _ rfl) (jI_le (by decide : (0 : Int32).toInt = 0) (rfl : (s : Int32).toInt = (s : Int32).toInt) (by omega)) ?_
                            refine J_iload_n (i := 3) (a := 3) rfl rfl (dk_X7_tape 64 _ rfl) ?_
                            refine J_iast rfl (by decide) (Nat.le_of_ble_eq_true rfl) (dk_X7_tape 65 _ rfl) ?_
                            refine J_iconst (v := 0) (by decide) (dk_X7_tape 66 _ rfl) ?_
                            refine J_istore (i := 4) (by decide) (dk_X7_tape 67 _ rfl) ?_
                            show J _ _ _ _ _ _ _ _ [(4, .int 0), (0, .ref 0), (1, .int 5), (2, .int s), (3, .int n)] _ _ _
                            exact lp_tapeM (c := 5) (a := 35) (by decide) (by decide) (by decide) 60 0 (by omega) _ _ rfl rfl rfl rfl rfl
            · refine ⟨(-2), ?_, ?_⟩
              · refine jCt_of ok_X6_tape (fun _ _ => Nat.le_of_ble_eq_true rfl) (fun _ _ hq => Nat.le_of_eq (lX.trans hq.2.symm)) ?_
                show J _ _ _ _ _ _ _ _ [(0, .ref 0), (1, .int t), (2, .int s), (3, .int n)] _ _ _
                refine J_iload_n (i := 1) (a := 1) rfl rfl (dk_X6_tape 0 _ rfl) ?_
                refine J_cS (rv := some (.int 1)) (h' := hN0) (d' := 11) (As := [.int t]) ok_X6_isTape st_X6_isTape cl_6_220 rfl (n := 1) (by decide +kernel) rfl (by decide) (by decide) (dk_X6_tape 1 _ rfl) ?_ ?_
                · refine jCt_of ok_X6_isTape (fun _ _ => Nat.le_of_ble_eq_true rfl) (fun _ _ hq => by rw [hq.2]; first | exact Nat.le_refl _ | simp) ?_
                  show J _ _ _ _ _ _ _ _ [(0, .int t)] _ _ _
                  refine J_iload_n (i := 0) (a := 0) rfl rfl (dk_X6_isTape 0 _ rfl) ?_
                  refine J_ifF (tgt := 14) (by decide) (dk_X6_isTape 1 _ rfl) (jI_nlt (rfl : (t : Int32).toInt = (t : Int32).toInt) (by decide : (0 : Int32).toInt = 0) (by omega)) ?_
                  refine J_iload_n (i := 0) (a := 0) rfl rfl (dk_X6_isTape 4 _ rfl) ?_
                  refine J_bipush (v := 6) (by decide) (dk_X6_isTape 5 _ rfl) ?_
                  refine J_icF (tgt := 14) (by decide) (dk_X6_isTape 7 _ rfl) (jI_nle (by decide : (6 : Int32).toInt = 6) (rfl : (t : Int32).toInt = (t : Int32).toInt) (by omega)) ?_
                  refine J_iconst (v := 1) (by decide) (dk_X6_isTape 10 _ rfl) ?_
                  refine J_goto (tgt := 15) (by decide) (dk_X6_isTape 11 _ rfl) ?_
                  exact J_iret rfl rfl (dk_X6_isTape 15 _ rfl) ⟨rfl, rfl⟩
                show J _ _ _ _ _ _ _ _ _ [.int 1] _ _
                refine J_ifT (tgt := 9) (by decide) (dk_X6_tape 4 _ rfl) (jI_ne (by decide : (1 : Int32).toInt = 1) (by decide : (0 : Int32).toInt = 0) (by omega)) ?_
                refine J_iload_n (i := 2) (a := 2) rfl rfl (dk_X6_tape 9 _ rfl) ?_
                refine J_iconst (v := (-1)) (by decide) (dk_X6_tape 10 _ rfl) ?_
                refine J_icT (tgt := 27) (by decide) (dk_X6_tape 11 _ rfl) (jI_ne (rfl : (s : Int32).toInt = (s : Int32).toInt) (by decide : ((-1) : Int32).toInt = (-1)) (by omega)) ?_
                refine J_iload_n (i := 2) (a := 2) rfl rfl (dk_X6_tape 27 _ rfl) ?_
                refine J_ifF (tgt := 42) (by decide) (dk_X6_tape 28 _ rfl) (jI_nlt (rfl : (s : Int32).toInt = (s : Int32).toInt) (by decide : (0 : Int32).toInt = 0) (by omega)) ?_
                refine J_iload_n (i := 2) (a := 2) rfl rfl (dk_X6_tape 31 _ rfl) ?_
                refine J_iconst (v := 4) (by decide) (dk_X6_tape 32 _ rfl) ?_
                refine J_icF (tgt := 42) (by decide) (dk_X6_tape 33 _ rfl) (jI_nlt (by decide : (4 : Int32).toInt = 4) (rfl : (s : Int32).toInt = (s : Int32).toInt) (by omega)) ?_
                refine J_iload_n (i := 3) (a := 3) rfl rfl (dk_X6_tape 36 _ rfl) ?_
                refine J_bipush (v := 60) (by decide) (dk_X6_tape 37 _ rfl) ?_
                refine J_icF (tgt := 45) (by decide) (dk_X6_tape 39 _ rfl) (jI_nle (rfl : (n : Int32).toInt = (n : Int32).toInt) (by decide : (60 : Int32).toInt = 60) (by omega)) ?_
                refine J_bipush (v := (-2)) (by decide) (dk_X6_tape 42 _ rfl) ?_
                exact J_iret rfl rfl (dk_X6_tape 44 _ rfl) ⟨rfl, rfl⟩
              · refine jCt_of ok_X7_tape (fun _ _ => Nat.le_of_ble_eq_true rfl) (fun _ _ hq => Nat.le_of_eq (lM.trans hq.2.symm)) ?_
                show J _ _ _ _ _ _ _ _ [(0, .ref 0), (1, .int t), (2, .int s), (3, .int n)] _ _ _
                refine J_aload_n (i := 0) (a := 0) rfl rfl (dk_X7_tape 0 _ rfl) ?_
                refine J_iload_n (i := 1) (a := 1) rfl rfl (dk_X7_tape 1 _ rfl) ?_
                refine J_cV (rv := some (.int 1)) (h' := hM0) (d' := 11) (As := [.int t]) ok_X7_isTape vi_X7_isTape cl_7_354 (n := 1) (by decide +kernel) rfl rfl rfl rfl (by decide) (by decide) (dk_X7_tape 2 _ rfl) ?_ ?_
                · refine jCt_of ok_X7_isTape (fun _ _ => Nat.le_of_ble_eq_true rfl) (fun _ _ hq => by rw [hq.2]; first | exact Nat.le_refl _ | simp) ?_
                  show J _ _ _ _ _ _ _ _ [(0, .ref 0), (1, .int t)] _ _ _
                  refine J_aload_n (i := 0) (a := 0) rfl rfl (dk_X7_isTape 0 _ rfl) ?_
                  refine J_iload_n (i := 1) (a := 1) rfl rfl (dk_X7_isTape 1 _ rfl) ?_
                  refine J_iconst (v := 0) (by decide) (dk_X7_isTape 2 _ rfl) ?_
                  refine J_iconst (v := 5) (by decide) (dk_X7_isTape 3 _ rfl) ?_
                  refine J_cV (rv := some (.int 1)) (h' := hM0) (d' := 10) (As := [.int t, .int 0, .int 5]) ok_X7_in vi_X7_in cl_7_194 (n := 3) (by decide +kernel) rfl rfl rfl rfl (by decide) (by decide) (dk_X7_isTape 4 _ rfl) ?_ ?_
                  · refine jCt_of ok_X7_in (fun _ _ => Nat.le_of_ble_eq_true rfl) (fun _ _ hq => by rw [hq.2]; first | exact Nat.le_refl _ | simp) ?_
                    show J _ _ _ _ _ _ _ _ [(0, .ref 0), (1, .int t), (2, .int 0), (3, .int 5)] _ _ _
                    refine J_iload_n (i := 1) (a := 1) rfl rfl (dk_X7_in 0 _ rfl) ?_
                    refine J_iload_n (i := 2) (a := 2) rfl rfl (dk_X7_in 1 _ rfl) ?_
                    refine J_icF (tgt := 14) (by decide) (dk_X7_in 2 _ rfl) (jI_nlt (rfl : (t : Int32).toInt = (t : Int32).toInt) (by decide : (0 : Int32).toInt = 0) (by omega)) ?_
                    refine J_iload_n (i := 1) (a := 1) rfl rfl (dk_X7_in 5 _ rfl) ?_
                    refine J_iload_n (i := 3) (a := 3) rfl rfl (dk_X7_in 6 _ rfl) ?_
                    refine J_icF (tgt := 14) (by decide) (dk_X7_in 7 _ rfl) (jI_nlt (by decide : (5 : Int32).toInt = 5) (rfl : (t : Int32).toInt = (t : Int32).toInt) (by omega)) ?_
                    refine J_iconst (v := 1) (by decide) (dk_X7_in 10 _ rfl) ?_
                    refine J_goto (tgt := 15) (by decide) (dk_X7_in 11 _ rfl) ?_
                    exact J_iret rfl rfl (dk_X7_in 15 _ rfl) ⟨rfl, rfl⟩
                  show J _ _ _ _ _ _ _ _ _ [.int 1] _ _
                  exact J_iret rfl rfl (dk_X7_isTape 7 _ rfl) ⟨rfl, rfl⟩
                show J _ _ _ _ _ _ _ _ _ [.int 1] _ _
                refine J_ifT (tgt := 10) (by decide) (dk_X7_tape 5 _ rfl) (jI_ne (by decide : (1 : Int32).toInt = 1) (by decide : (0 : Int32).toInt = 0) (by omega)) ?_
                refine J_aload_n (i := 0) (a := 0) rfl rfl (dk_X7_tape 10 _ rfl) ?_
                refine J_iload_n (i := 2) (a := 2) rfl rfl (dk_X7_tape 11 _ rfl) ?_
                refine J_iconst (v := (-1)) (by decide) (dk_X7_tape 12 _ rfl) ?_
                refine J_iconst (v := 4) (by decide) (dk_X7_tape 13 _ rfl) ?_
                refine J_cV (rv := some (.int 1)) (h' := hM0) (d' := 11) (As := [.int s, .int (-1), .int 4]) ok_X7_in vi_X7_in cl_7_194 (n := 3) (by decide +kernel) rfl rfl rfl rfl (by decide) (by decide) (dk_X7_tape 14 _ rfl) ?_ ?_
                · refine jCt_of ok_X7_in (fun _ _ => Nat.le_of_ble_eq_true rfl) (fun _ _ hq => by rw [hq.2]; first | exact Nat.le_refl _ | simp) ?_
                  show J _ _ _ _ _ _ _ _ [(0, .ref 0), (1, .int s), (2, .int (-1)), (3, .int 4)] _ _ _
                  refine J_iload_n (i := 1) (a := 1) rfl rfl (dk_X7_in 0 _ rfl) ?_
                  refine J_iload_n (i := 2) (a := 2) rfl rfl (dk_X7_in 1 _ rfl) ?_
                  refine J_icF (tgt := 14) (by decide) (dk_X7_in 2 _ rfl) (jI_nlt (rfl : (s : Int32).toInt = (s : Int32).toInt) (by decide : ((-1) : Int32).toInt = (-1)) (by omega)) ?_
                  refine J_iload_n (i := 1) (a := 1) rfl rfl (dk_X7_in 5 _ rfl) ?_
                  refine J_iload_n (i := 3) (a := 3) rfl rfl (dk_X7_in 6 _ rfl) ?_
                  refine J_icF (tgt := 14) (by decide) (dk_X7_in 7 _ rfl) (jI_nlt (by decide : (4 : Int32).toInt = 4) (rfl : (s : Int32).toInt = (s : Int32).toInt) (by omega)) ?_
                  refine J_iconst (v := 1) (by decide) (dk_X7_in 10 _ rfl) ?_
                  refine J_goto (tgt := 15) (by decide) (dk_X7_in 11 _ rfl) ?_
                  exact J_iret rfl rfl (dk_X7_in 15 _ rfl) ⟨rfl, rfl⟩
                show J _ _ _ _ _ _ _ _ _ [.int 1] _ _
                refine J_ifF (tgt := 30) (by decide) (dk_X7_tape 17 _ rfl) (jI_ne (by decide : (1 : Int32).toInt = 1) (by decide : (0 : Int32).toInt = 0) (by omega)) ?_
                refine J_iload_n (i := 2) (a := 2) rfl rfl (dk_X7_tape 20 _ rfl) ?_
                refine J_ifF (tgt := 33) (by decide) (dk_X7_tape 21 _ rfl) (jI_nlt (rfl : (s : Int32).toInt = (s : Int32).toInt) (by decide : (0 : Int32).toInt = 0) (by omega)) ?_
                refine J_iload_n (i := 3) (a := 3) rfl rfl (dk_X7_tape 24 _ rfl) ?_
                refine J_bipush (v := 60) (by decide) (dk_X7_tape 25 _ rfl) ?_
                refine J_icF (tgt := 33) (by decide) (dk_X7_tape 27 _ rfl) (jI_nle (rfl : (n : Int32).toInt = (n : Int32).toInt) (by decide : (60 : Int32).toInt = 60) (by omega)) ?_
                refine J_bipush (v := (-2)) (by decide) (dk_X7_tape 30 _ rfl) ?_
                exact J_iret rfl rfl (dk_X7_tape 32 _ rfl) ⟨rfl, rfl⟩
          · refine ⟨(-2), ?_, ?_⟩
            · refine jCt_of ok_X6_tape (fun _ _ => Nat.le_of_ble_eq_true rfl) (fun _ _ hq => Nat.le_of_eq (lX.trans hq.2.symm)) ?_
              show J _ _ _ _ _ _ _ _ [(0, .ref 0), (1, .int t), (2, .int s), (3, .int n)] _ _ _
              refine J_iload_n (i := 1) (a := 1) rfl rfl (dk_X6_tape 0 _ rfl) ?_
              refine J_cS (rv := some (.int 1)) (h' := hN0) (d' := 11) (As := [.int t]) ok_X6_isTape st_X6_isTape cl_6_220 rfl (n := 1) (by decide +kernel) rfl (by decide) (by decide) (dk_X6_tape 1 _ rfl) ?_ ?_
              · refine jCt_of ok_X6_isTape (fun _ _ => Nat.le_of_ble_eq_true rfl) (fun _ _ hq => by rw [hq.2]; first | exact Nat.le_refl _ | simp) ?_
                show J _ _ _ _ _ _ _ _ [(0, .int t)] _ _ _
                refine J_iload_n (i := 0) (a := 0) rfl rfl (dk_X6_isTape 0 _ rfl) ?_
                refine J_ifF (tgt := 14) (by decide) (dk_X6_isTape 1 _ rfl) (jI_nlt (rfl : (t : Int32).toInt = (t : Int32).toInt) (by decide : (0 : Int32).toInt = 0) (by omega)) ?_
                refine J_iload_n (i := 0) (a := 0) rfl rfl (dk_X6_isTape 4 _ rfl) ?_
                refine J_bipush (v := 6) (by decide) (dk_X6_isTape 5 _ rfl) ?_
                refine J_icF (tgt := 14) (by decide) (dk_X6_isTape 7 _ rfl) (jI_nle (by decide : (6 : Int32).toInt = 6) (rfl : (t : Int32).toInt = (t : Int32).toInt) (by omega)) ?_
                refine J_iconst (v := 1) (by decide) (dk_X6_isTape 10 _ rfl) ?_
                refine J_goto (tgt := 15) (by decide) (dk_X6_isTape 11 _ rfl) ?_
                exact J_iret rfl rfl (dk_X6_isTape 15 _ rfl) ⟨rfl, rfl⟩
              show J _ _ _ _ _ _ _ _ _ [.int 1] _ _
              refine J_ifT (tgt := 9) (by decide) (dk_X6_tape 4 _ rfl) (jI_ne (by decide : (1 : Int32).toInt = 1) (by decide : (0 : Int32).toInt = 0) (by omega)) ?_
              refine J_iload_n (i := 2) (a := 2) rfl rfl (dk_X6_tape 9 _ rfl) ?_
              refine J_iconst (v := (-1)) (by decide) (dk_X6_tape 10 _ rfl) ?_
              refine J_icT (tgt := 27) (by decide) (dk_X6_tape 11 _ rfl) (jI_ne (rfl : (s : Int32).toInt = (s : Int32).toInt) (by decide : ((-1) : Int32).toInt = (-1)) (by omega)) ?_
              refine J_iload_n (i := 2) (a := 2) rfl rfl (dk_X6_tape 27 _ rfl) ?_
              refine J_ifF (tgt := 42) (by decide) (dk_X6_tape 28 _ rfl) (jI_nlt (rfl : (s : Int32).toInt = (s : Int32).toInt) (by decide : (0 : Int32).toInt = 0) (by omega)) ?_
              refine J_iload_n (i := 2) (a := 2) rfl rfl (dk_X6_tape 31 _ rfl) ?_
              refine J_iconst (v := 4) (by decide) (dk_X6_tape 32 _ rfl) ?_
              refine J_icT (tgt := 42) (by decide) (dk_X6_tape 33 _ rfl) (jI_lt (by decide : (4 : Int32).toInt = 4) (rfl : (s : Int32).toInt = (s : Int32).toInt) (by omega)) ?_
              refine J_bipush (v := (-2)) (by decide) (dk_X6_tape 42 _ rfl) ?_
              exact J_iret rfl rfl (dk_X6_tape 44 _ rfl) ⟨rfl, rfl⟩
            · refine jCt_of ok_X7_tape (fun _ _ => Nat.le_of_ble_eq_true rfl) (fun _ _ hq => Nat.le_of_eq (lM.trans hq.2.symm)) ?_
              show J _ _ _ _ _ _ _ _ [(0, .ref 0), (1, .int t), (2, .int s), (3, .int n)] _ _ _
              refine J_aload_n (i := 0) (a := 0) rfl rfl (dk_X7_tape 0 _ rfl) ?_
              refine J_iload_n (i := 1) (a := 1) rfl rfl (dk_X7_tape 1 _ rfl) ?_
              refine J_cV (rv := some (.int 1)) (h' := hM0) (d' := 11) (As := [.int t]) ok_X7_isTape vi_X7_isTape cl_7_354 (n := 1) (by decide +kernel) rfl rfl rfl rfl (by decide) (by decide) (dk_X7_tape 2 _ rfl) ?_ ?_
              · refine jCt_of ok_X7_isTape (fun _ _ => Nat.le_of_ble_eq_true rfl) (fun _ _ hq => by rw [hq.2]; first | exact Nat.le_refl _ | simp) ?_
                show J _ _ _ _ _ _ _ _ [(0, .ref 0), (1, .int t)] _ _ _
                refine J_aload_n (i := 0) (a := 0) rfl rfl (dk_X7_isTape 0 _ rfl) ?_
                refine J_iload_n (i := 1) (a := 1) rfl rfl (dk_X7_isTape 1 _ rfl) ?_
                refine J_iconst (v := 0) (by decide) (dk_X7_isTape 2 _ rfl) ?_
                refine J_iconst (v := 5) (by decide) (dk_X7_isTape 3 _ rfl) ?_
                refine J_cV (rv := some (.int 1)) (h' := hM0) (d' := 10) (As := [.int t, .int 0, .int 5]) ok_X7_in vi_X7_in cl_7_194 (n := 3) (by decide +kernel) rfl rfl rfl rfl (by decide) (by decide) (dk_X7_isTape 4 _ rfl) ?_ ?_
                · refine jCt_of ok_X7_in (fun _ _ => Nat.le_of_ble_eq_true rfl) (fun _ _ hq => by rw [hq.2]; first | exact Nat.le_refl _ | simp) ?_
                  show J _ _ _ _ _ _ _ _ [(0, .ref 0), (1, .int t), (2, .int 0), (3, .int 5)] _ _ _
                  refine J_iload_n (i := 1) (a := 1) rfl rfl (dk_X7_in 0 _ rfl) ?_
                  refine J_iload_n (i := 2) (a := 2) rfl rfl (dk_X7_in 1 _ rfl) ?_
                  refine J_icF (tgt := 14) (by decide) (dk_X7_in 2 _ rfl) (jI_nlt (rfl : (t : Int32).toInt = (t : Int32).toInt) (by decide : (0 : Int32).toInt = 0) (by omega)) ?_
                  refine J_iload_n (i := 1) (a := 1) rfl rfl (dk_X7_in 5 _ rfl) ?_
                  refine J_iload_n (i := 3) (a := 3) rfl rfl (dk_X7_in 6 _ rfl) ?_
                  refine J_icF (tgt := 14) (by decide) (dk_X7_in 7 _ rfl) (jI_nlt (by decide : (5 : Int32).toInt = 5) (rfl : (t : Int32).toInt = (t : Int32).toInt) (by omega)) ?_
                  refine J_iconst (v := 1) (by decide) (dk_X7_in 10 _ rfl) ?_
                  refine J_goto (tgt := 15) (by decide) (dk_X7_in 11 _ rfl) ?_
                  exact J_iret rfl rfl (dk_X7_in 15 _ rfl) ⟨rfl, rfl⟩
                show J _ _ _ _ _ _ _ _ _ [.int 1] _ _
                exact J_iret rfl rfl (dk_X7_isTape 7 _ rfl) ⟨rfl, rfl⟩
              show J _ _ _ _ _ _ _ _ _ [.int 1] _ _
              refine J_ifT (tgt := 10) (by decide) (dk_X7_tape 5 _ rfl) (jI_ne (by decide : (1 : Int32).toInt = 1) (by decide : (0 : Int32).toInt = 0) (by omega)) ?_
              refine J_aload_n (i := 0) (a := 0) rfl rfl (dk_X7_tape 10 _ rfl) ?_
              refine J_iload_n (i := 2) (a := 2) rfl rfl (dk_X7_tape 11 _ rfl) ?_
              refine J_iconst (v := (-1)) (by decide) (dk_X7_tape 12 _ rfl) ?_
              refine J_iconst (v := 4) (by decide) (dk_X7_tape 13 _ rfl) ?_
              refine J_cV (rv := some (.int 0)) (h' := hM0) (d' := 11) (As := [.int s, .int (-1), .int 4]) ok_X7_in vi_X7_in cl_7_194 (n := 3) (by decide +kernel) rfl rfl rfl rfl (by decide) (by decide) (dk_X7_tape 14 _ rfl) ?_ ?_
              · refine jCt_of ok_X7_in (fun _ _ => Nat.le_of_ble_eq_true rfl) (fun _ _ hq => by rw [hq.2]; first | exact Nat.le_refl _ | simp) ?_
                show J _ _ _ _ _ _ _ _ [(0, .ref 0), (1, .int s), (2, .int (-1)), (3, .int 4)] _ _ _
                refine J_iload_n (i := 1) (a := 1) rfl rfl (dk_X7_in 0 _ rfl) ?_
                refine J_iload_n (i := 2) (a := 2) rfl rfl (dk_X7_in 1 _ rfl) ?_
                refine J_icF (tgt := 14) (by decide) (dk_X7_in 2 _ rfl) (jI_nlt (rfl : (s : Int32).toInt = (s : Int32).toInt) (by decide : ((-1) : Int32).toInt = (-1)) (by omega)) ?_
                refine J_iload_n (i := 1) (a := 1) rfl rfl (dk_X7_in 5 _ rfl) ?_
                refine J_iload_n (i := 3) (a := 3) rfl rfl (dk_X7_in 6 _ rfl) ?_
                refine J_icT (tgt := 14) (by decide) (dk_X7_in 7 _ rfl) (jI_lt (by decide : (4 : Int32).toInt = 4) (rfl : (s : Int32).toInt = (s : Int32).toInt) (by omega)) ?_
                refine J_iconst (v := 0) (by decide) (dk_X7_in 14 _ rfl) ?_
                exact J_iret rfl rfl (dk_X7_in 15 _ rfl) ⟨rfl, rfl⟩
              show J _ _ _ _ _ _ _ _ _ [.int 0] _ _
              refine J_ifT (tgt := 30) (by decide) (dk_X7_tape 17 _ rfl) (jI_eq (by decide : (0 : Int32).toInt = 0) (by decide : (0 : Int32).toInt = 0) (by omega)) ?_
              refine J_bipush (v := (-2)) (by decide) (dk_X7_tape 30 _ rfl) ?_
              exact J_iret rfl rfl (dk_X7_tape 32 _ rfl) ⟨rfl, rfl⟩
    · refine ⟨(-1), ?_, ?_⟩
      · refine jCt_of ok_X6_tape (fun _ _ => Nat.le_of_ble_eq_true rfl) (fun _ _ hq => Nat.le_of_eq (lX.trans hq.2.symm)) ?_
        show J _ _ _ _ _ _ _ _ [(0, .ref 0), (1, .int t), (2, .int s), (3, .int n)] _ _ _
        refine J_iload_n (i := 1) (a := 1) rfl rfl (dk_X6_tape 0 _ rfl) ?_
        refine J_cS (rv := some (.int 0)) (h' := hN0) (d' := 11) (As := [.int t]) ok_X6_isTape st_X6_isTape cl_6_220 rfl (n := 1) (by decide +kernel) rfl (by decide) (by decide) (dk_X6_tape 1 _ rfl) ?_ ?_
        · refine jCt_of ok_X6_isTape (fun _ _ => Nat.le_of_ble_eq_true rfl) (fun _ _ hq => by rw [hq.2]; first | exact Nat.le_refl _ | simp) ?_
          show J _ _ _ _ _ _ _ _ [(0, .int t)] _ _ _
          refine J_iload_n (i := 0) (a := 0) rfl rfl (dk_X6_isTape 0 _ rfl) ?_
          refine J_ifF (tgt := 14) (by decide) (dk_X6_isTape 1 _ rfl) (jI_nlt (rfl : (t : Int32).toInt = (t : Int32).toInt) (by decide : (0 : Int32).toInt = 0) (by omega)) ?_
          refine J_iload_n (i := 0) (a := 0) rfl rfl (dk_X6_isTape 4 _ rfl) ?_
          refine J_bipush (v := 6) (by decide) (dk_X6_isTape 5 _ rfl) ?_
          refine J_icT (tgt := 14) (by decide) (dk_X6_isTape 7 _ rfl) (jI_le (by decide : (6 : Int32).toInt = 6) (rfl : (t : Int32).toInt = (t : Int32).toInt) (by omega)) ?_
          refine J_iconst (v := 0) (by decide) (dk_X6_isTape 14 _ rfl) ?_
          exact J_iret rfl rfl (dk_X6_isTape 15 _ rfl) ⟨rfl, rfl⟩
        show J _ _ _ _ _ _ _ _ _ [.int 0] _ _
        refine J_ifF (tgt := 9) (by decide) (dk_X6_tape 4 _ rfl) (fun z => z (jI_eq (by decide : (0 : Int32).toInt = 0) (by decide : (0 : Int32).toInt = 0) (by omega))) ?_
        refine J_iconst (v := (-1)) (by decide) (dk_X6_tape 7 _ rfl) ?_
        exact J_iret rfl rfl (dk_X6_tape 8 _ rfl) ⟨rfl, rfl⟩
      · refine jCt_of ok_X7_tape (fun _ _ => Nat.le_of_ble_eq_true rfl) (fun _ _ hq => Nat.le_of_eq (lM.trans hq.2.symm)) ?_
        show J _ _ _ _ _ _ _ _ [(0, .ref 0), (1, .int t), (2, .int s), (3, .int n)] _ _ _
        refine J_aload_n (i := 0) (a := 0) rfl rfl (dk_X7_tape 0 _ rfl) ?_
        refine J_iload_n (i := 1) (a := 1) rfl rfl (dk_X7_tape 1 _ rfl) ?_
        refine J_cV (rv := some (.int 0)) (h' := hM0) (d' := 11) (As := [.int t]) ok_X7_isTape vi_X7_isTape cl_7_354 (n := 1) (by decide +kernel) rfl rfl rfl rfl (by decide) (by decide) (dk_X7_tape 2 _ rfl) ?_ ?_
        · refine jCt_of ok_X7_isTape (fun _ _ => Nat.le_of_ble_eq_true rfl) (fun _ _ hq => by rw [hq.2]; first | exact Nat.le_refl _ | simp) ?_
          show J _ _ _ _ _ _ _ _ [(0, .ref 0), (1, .int t)] _ _ _
          refine J_aload_n (i := 0) (a := 0) rfl rfl (dk_X7_isTape 0 _ rfl) ?_
          refine J_iload_n (i := 1) (a := 1) rfl rfl (dk_X7_isTape 1 _ rfl) ?_
          refine J_iconst (v := 0) (by decide) (dk_X7_isTape 2 _ rfl) ?_
          refine J_iconst (v := 5) (by decide) (dk_X7_isTape 3 _ rfl) ?_
          refine J_cV (rv := some (.int 0)) (h' := hM0) (d' := 10) (As := [.int t, .int 0, .int 5]) ok_X7_in vi_X7_in cl_7_194 (n := 3) (by decide +kernel) rfl rfl rfl rfl (by decide) (by decide) (dk_X7_isTape 4 _ rfl) ?_ ?_
          · refine jCt_of ok_X7_in (fun _ _ => Nat.le_of_ble_eq_true rfl) (fun _ _ hq => by rw [hq.2]; first | exact Nat.le_refl _ | simp) ?_
            show J _ _ _ _ _ _ _ _ [(0, .ref 0), (1, .int t), (2, .int 0), (3, .int 5)] _ _ _
            refine J_iload_n (i := 1) (a := 1) rfl rfl (dk_X7_in 0 _ rfl) ?_
            refine J_iload_n (i := 2) (a := 2) rfl rfl (dk_X7_in 1 _ rfl) ?_
            refine J_icF (tgt := 14) (by decide) (dk_X7_in 2 _ rfl) (jI_nlt (rfl : (t : Int32).toInt = (t : Int32).toInt) (by decide : (0 : Int32).toInt = 0) (by omega)) ?_
            refine J_iload_n (i := 1) (a := 1) rfl rfl (dk_X7_in 5 _ rfl) ?_
            refine J_iload_n (i := 3) (a := 3) rfl rfl (dk_X7_in 6 _ rfl) ?_
            refine J_icT (tgt := 14) (by decide) (dk_X7_in 7 _ rfl) (jI_lt (by decide : (5 : Int32).toInt = 5) (rfl : (t : Int32).toInt = (t : Int32).toInt) (by omega)) ?_
            refine J_iconst (v := 0) (by decide) (dk_X7_in 14 _ rfl) ?_
            exact J_iret rfl rfl (dk_X7_in 15 _ rfl) ⟨rfl, rfl⟩
          show J _ _ _ _ _ _ _ _ _ [.int 0] _ _
          exact J_iret rfl rfl (dk_X7_isTape 7 _ rfl) ⟨rfl, rfl⟩
        show J _ _ _ _ _ _ _ _ _ [.int 0] _ _
        refine J_ifF (tgt := 10) (by decide) (dk_X7_tape 5 _ rfl) (fun z => z (jI_eq (by decide : (0 : Int32).toInt = 0) (by decide : (0 : Int32).toInt = 0) (by omega))) ?_
        refine J_iconst (v := (-1)) (by decide) (dk_X7_tape 8 _ rfl) ?_
        exact J_iret rfl rfl (dk_X7_tape 9 _ rfl) ⟨rfl, rfl⟩
