set_option maxHeartbeats 4000000 in
set_option maxRecDepth 1000000 in
theorem o_shift (t : Int32) (i : Int32) (o : Int32) (j : Int32) (n : Int32) : ∃ rv : Int32, jCt m_X6_shift 12 0 0 [.ref 0, .int t, .int i, .int o, .int j, .int n] hN0 (jA (.int rv) 94) ∧ jCt m_X7_shift 12 0 0 [.ref 0, .int t, .int i, .int o, .int j, .int n] hM0 (jA (.int rv) 37) := by
  have r_t := t.toInt_lt; have q_t := t.le_toInt
  have r_i := i.toInt_lt; have q_i := i.le_toInt
  have r_o := o.toInt_lt; have q_o := o.le_toInt
  have r_j := j.toInt_lt; have q_j := j.le_toInt
  have r_n := n.toInt_lt; have q_n := n.le_toInt
  by_cases c1 : (t : Int32).toInt < 0
  · refine ⟨(-1), ?_, ?_⟩
    · refine jCt_of ok_X6_shift (fun _ _ => Nat.le_of_ble_eq_true rfl) (fun _ _ hq => Nat.le_of_eq (lX.trans hq.2.symm)) ?_
      show J _ _ _ _ _ _ _ _ [(0, .ref 0), (1, .int t), (2, .int i), (3, .int o), (4, .int j), (5, .int n)] _ _ _
      refine J_iload_n (i := 1) (a := 1) rfl rfl (dk_X6_shift 0 _ rfl) ?_
      refine J_cS (rv := some (.int 0)) (h' := hN0) (d' := 11) (As := [.int t]) ok_X6_isTape st_X6_isTape cl_6_220 rfl (n := 1) (by decide +kernel) rfl (by decide) (by decide) (dk_X6_shift 1 _ rfl) ?_ ?_
      · refine jCt_of ok_X6_isTape (fun _ _ => Nat.le_of_ble_eq_true rfl) (fun _ _ hq => by rw [hq.2]; first | exact Nat.le_refl _ | simp) ?_
        show J _ _ _ _ _ _ _ _ [(0, .int t)] _ _ _
        refine J_iload_n (i := 0) (a := 0) rfl rfl (dk_X6_isTape 0 _ rfl) ?_
        refine J_ifT (tgt := 14) (by decide) (dk_X6_isTape 1 _ rfl) (jI_lt (rfl : (t : Int32).toInt = (t : Int32).toInt) (by decide : (0 : Int32).toInt = 0) (by omega)) ?_
        refine J_iconst (v := 0) (by decide) (dk_X6_isTape 14 _ rfl) ?_
        exact J_iret rfl rfl (dk_X6_isTape 15 _ rfl) ⟨rfl, rfl⟩
      show J _ _ _ _ _ _ _ _ _ [.int 0] _ _
      refine J_ifT (tgt := 14) (by decide) (dk_X6_shift 4 _ rfl) (jI_eq (by decide : (0 : Int32).toInt = 0) (by decide : (0 : Int32).toInt = 0) (by omega)) ?_
      refine J_iconst (v := (-1)) (by decide) (dk_X6_shift 14 _ rfl) ?_
      exact J_iret rfl rfl (dk_X6_shift 15 _ rfl) ⟨rfl, rfl⟩
    · refine jCt_of ok_X7_shift (fun _ _ => Nat.le_of_ble_eq_true rfl) (fun _ _ hq => Nat.le_of_eq (lM.trans hq.2.symm)) ?_
      show J _ _ _ _ _ _ _ _ [(0, .ref 0), (1, .int t), (2, .int i), (3, .int o), (4, .int j), (5, .int n)] _ _ _
      refine J_aload_n (i := 0) (a := 0) rfl rfl (dk_X7_shift 0 _ rfl) ?_
      refine J_iload_n (i := 1) (a := 1) rfl rfl (dk_X7_shift 1 _ rfl) ?_
      refine J_cV (rv := some (.int 0)) (h' := hM0) (d' := 11) (As := [.int t]) ok_X7_isTape vi_X7_isTape cl_7_354 (n := 1) (by decide +kernel) rfl rfl rfl rfl (by decide) (by decide) (dk_X7_shift 2 _ rfl) ?_ ?_
      · refine jCt_of ok_X7_isTape (fun _ _ => Nat.le_of_ble_eq_true rfl) (fun _ _ hq => by rw [hq.2]; first | exact Nat.le_refl _ | simp) ?_
        show J _ _ _ _ _ _ _ _ [(0, .ref 0), (1, .int t)] _ _ _
        refine J_aload_n (i := 0) (a := 0) rfl rfl (dk_X7_isTape 0 _ rfl) ?_
        refine J_iload_n (i := 1) (a := 1) rfl rfl (dk_X7_isTape 1 _ rfl) ?_
        refine J_iconst (v := 0) (by decide) (dk_X7_isTape 2 _ rfl) ?_
        refine J_iconst (v := 5) (by decide) (dk_X7_isTape 3 _ rfl) ?_
        refine J_cV (rv := some (.int 0)) (h' := hM0) (d' := 10) (As := [.int t, .int 0, .int 5]) ok_X7_in vi_X7_in cl_7_194 (n := 3) (by decide +kernel) rfl rfl rfl rfl (by decide) (by decide) (dk_X7_isTape 4 _ rfl) ?_ ?_
        · refine jCt_of ok_X7_in (fun _ _ => Nat.le_of_ble_eq_true rfl) (fun _ _ hq => by rw [hq.2]; first | exact Nat.le_refl _ | simp) ?_
          show J _ _ _ _ _ _ _ _ [(0, .ref 0), (1, .int t), (2, .int 0), (3, .int 5)] _ _ _
          refine J_iload_n (i := 1) (a := 1) rfl rfl (dk_X7_in 0 _ rfl) ?_
          refine J_iload_n (i := 2) (a := 2) rfl rfl (dk_X7_in 1 _ rfl) ?_
          refine J_icT (tgt := 14) (by decide) (dk_X7_in 2 _ rfl) (jI_lt (rfl : (t : Int32).toInt = (t : Int32).toInt) (by decide : (0 : Int32).toInt = 0) (by omega)) ?_
          refine J_iconst (v := 0) (by decide) (dk_X7_in 14 _ rfl) ?_
          exact J_iret rfl rfl (dk_X7_in 15 _ rfl) ⟨rfl, rfl⟩
        show J _ _ _ _ _ _ _ _ _ [.int 0] _ _
        exact J_iret rfl rfl (dk_X7_isTape 7 _ rfl) ⟨rfl, rfl⟩
      show J _ _ _ _ _ _ _ _ _ [.int 0] _ _
      refine J_ifT (tgt := 16) (by decide) (dk_X7_shift 5 _ rfl) (jI_eq (by decide : (0 : Int32).toInt = 0) (by decide : (0 : Int32).toInt = 0) (by omega)) ?_
      refine J_iconst (v := (-1)) (by decide) (dk_X7_shift 16 _ rfl) ?_
      exact J_iret rfl rfl (dk_X7_shift 17 _ rfl) ⟨rfl, rfl⟩
  · by_cases c2 : (t : Int32).toInt < 6
    · by_cases c3 : (o : Int32).toInt < 0
      · refine ⟨(-1), ?_, ?_⟩
        · refine jCt_of ok_X6_shift (fun _ _ => Nat.le_of_ble_eq_true rfl) (fun _ _ hq => Nat.le_of_eq (lX.trans hq.2.symm)) ?_
          show J _ _ _ _ _ _ _ _ [(0, .ref 0), (1, .int t), (2, .int i), (3, .int o), (4, .int j), (5, .int n)] _ _ _
          refine J_iload_n (i := 1) (a := 1) rfl rfl (dk_X6_shift 0 _ rfl) ?_
          refine J_cS (rv := some (.int 1)) (h' := hN0) (d' := 11) (As := [.int t]) ok_X6_isTape st_X6_isTape cl_6_220 rfl (n := 1) (by decide +kernel) rfl (by decide) (by decide) (dk_X6_shift 1 _ rfl) ?_ ?_
          · refine jCt_of ok_X6_isTape (fun _ _ => Nat.le_of_ble_eq_true rfl) (fun _ _ hq => by rw [hq.2]; first | exact Nat.le_refl _ | simp) ?_
            show J _ _ _ _ _ _ _ _ [(0, .int t)] _ _ _
            refine J_iload_n (i := 0) (a := 0) rfl rfl (dk_X6_isTape 0 _ rfl) ?_
            refine J_ifF (tgt := 14) (by decide) (dk_X6_isTape 1 _ rfl) (jI_nlt (rfl : (t : Int32).toInt = (t : Int32).toInt) (by decide : (0 : Int32).toInt = 0) (by omega)) ?_
            refine J_iload_n (i := 0) (a := 0) rfl rfl (dk_X6_isTape 4 _ rfl) ?_
            refine J_bipush (v := 6) (by decide) (dk_X6_isTape 5 _ rfl) ?_
            refine J_icF (tgt := 14) (by decide) (dk_X6_isTape 7 _ rfl) (jI_nle (by decide : (6 : Int32).toInt = 6) (rfl : (t : Int32).toInt = (t : Int32).toInt) (by omega)) ?_
            refine J_iconst (v := 1) (by decide) (dk_X6_isTape 10 _ rfl) ?_
            refine J_goto (tgt := 15) (by decide) (dk_X6_isTape 11 _ rfl) ?_
            exact J_iret rfl rfl (dk_X6_isTape 15 _ rfl) ⟨rfl, rfl⟩
          show J _ _ _ _ _ _ _ _ _ [.int 1] _ _
          refine J_ifF (tgt := 14) (by decide) (dk_X6_shift 4 _ rfl) (jI_ne (by decide : (1 : Int32).toInt = 1) (by decide : (0 : Int32).toInt = 0) (by omega)) ?_
          refine J_iload_n (i := 3) (a := 3) rfl rfl (dk_X6_shift 7 _ rfl) ?_
          refine J_cS (rv := some (.int 0)) (h' := hN0) (d' := 11) (As := [.int o]) ok_X6_isTape st_X6_isTape cl_6_220 rfl (n := 1) (by decide +kernel) rfl (by decide) (by decide) (dk_X6_shift 8 _ rfl) ?_ ?_
          · refine jCt_of ok_X6_isTape (fun _ _ => Nat.le_of_ble_eq_true rfl) (fun _ _ hq => by rw [hq.2]; first | exact Nat.le_refl _ | simp) ?_
            show J _ _ _ _ _ _ _ _ [(0, .int o)] _ _ _
            refine J_iload_n (i := 0) (a := 0) rfl rfl (dk_X6_isTape 0 _ rfl) ?_
            refine J_ifT (tgt := 14) (by decide) (dk_X6_isTape 1 _ rfl) (jI_lt (rfl : (o : Int32).toInt = (o : Int32).toInt) (by decide : (0 : Int32).toInt = 0) (by omega)) ?_
            refine J_iconst (v := 0) (by decide) (dk_X6_isTape 14 _ rfl) ?_
            exact J_iret rfl rfl (dk_X6_isTape 15 _ rfl) ⟨rfl, rfl⟩
          show J _ _ _ _ _ _ _ _ _ [.int 0] _ _
          refine J_ifF (tgt := 16) (by decide) (dk_X6_shift 11 _ rfl) (fun z => z (jI_eq (by decide : (0 : Int32).toInt = 0) (by decide : (0 : Int32).toInt = 0) (by omega))) ?_
          refine J_iconst (v := (-1)) (by decide) (dk_X6_shift 14 _ rfl) ?_
          exact J_iret rfl rfl (dk_X6_shift 15 _ rfl) ⟨rfl, rfl⟩
        · refine jCt_of ok_X7_shift (fun _ _ => Nat.le_of_ble_eq_true rfl) (fun _ _ hq => Nat.le_of_eq (lM.trans hq.2.symm)) ?_
          show J _ _ _ _ _ _ _ _ [(0, .ref 0), (1, .int t), (2, .int i), (3, .int o), (4, .int j), (5, .int n)] _ _ _
          refine J_aload_n (i := 0) (a := 0) rfl rfl (dk_X7_shift 0 _ rfl) ?_
          refine J_iload_n (i := 1) (a := 1) rfl rfl (dk_X7_shift 1 _ rfl) ?_
          refine J_cV (rv := some (.int 1)) (h' := hM0) (d' := 11) (As := [.int t]) ok_X7_isTape vi_X7_isTape cl_7_354 (n := 1) (by decide +kernel) rfl rfl rfl rfl (by decide) (by decide) (dk_X7_shift 2 _ rfl) ?_ ?_
          · refine jCt_of ok_X7_isTape (fun _ _ => Nat.le_of_ble_eq_true rfl) (fun _ _ hq => by rw [hq.2]; first | exact Nat.le_refl _ | simp) ?_
            show J _ _ _ _ _ _ _ _ [(0, .ref 0), (1, .int t)] _ _ _
            refine J_aload_n (i := 0) (a := 0) rfl rfl (dk_X7_isTape 0 _ rfl) ?_
            refine J_iload_n (i := 1) (a := 1) rfl rfl (dk_X7_isTape 1 _ rfl) ?_
            refine J_iconst (v := 0) (by decide) (dk_X7_isTape 2 _ rfl) ?_
            refine J_iconst (v := 5) (by decide) (dk_X7_isTape 3 _ rfl) ?_
            refine J_cV (rv := some (.int 1)) (h' := hM0) (d' := 10) (As := [.int t, .int 0, .int 5]) ok_X7_in vi_X7_in cl_7_194 (n := 3) (by decide +kernel) rfl rfl rfl rfl (by decide) (by decide) (dk_X7_isTape 4 _ rfl) ?_ ?_
            · refine jCt_of ok_X7_in (fun _ _ => Nat.le_of_ble_eq_true rfl) (fun _ _ hq => by rw [hq.2]; first | exact Nat.le_refl _ | simp) ?_
              show J _ _ _ _ _ _ _ _ [(0, .ref 0), (1, .int t), (2, .int 0), (3, .int 5)] _ _ _
              refine J_iload_n (i := 1) (a := 1) rfl rfl (dk_X7_in 0 _ rfl) ?_
              refine J_iload_n (i := 2) (a := 2) rfl rfl (dk_X7_in 1 _ rfl) ?_
              refine J_icF (tgt := 14) (by decide) (dk_X7_in 2 _ rfl) (jI_nlt (rfl : (t : Int32).toInt = (t : Int32).toInt) (by decide : (0 : Int32).toInt = 0) (by omega)) ?_
              refine J_iload_n (i := 1) (a := 1) rfl rfl (dk_X7_in 5 _ rfl) ?_
              refine J_iload_n (i := 3) (a := 3) rfl rfl (dk_X7_in 6 _ rfl) ?_
              refine J_icF (tgt := 14) (by decide) (dk_X7_in 7 _ rfl) (jI_nlt (by decide : (5 : Int32).toInt = 5) (rfl : (t : Int32).toInt = (t : Int32).toInt) (by omega)) ?_
              refine J_iconst (v := 1) (by decide) (dk_X7_in 10 _ rfl) ?_
              refine J_goto (tgt := 15) (by decide) (dk_X7_in 11 _ rfl) ?_
              exact J_iret rfl rfl (dk_X7_in 15 _ rfl) ⟨rfl, rfl⟩
            show J _ _ _ _ _ _ _ _ _ [.int 1] _ _
            exact J_iret rfl rfl (dk_X7_isTape 7 _ rfl) ⟨rfl, rfl⟩
          show J _ _ _ _ _ _ _ _ _ [.int 1] _ _
          refine J_ifF (tgt := 16) (by decide) (dk_X7_shift 5 _ rfl) (jI_ne (by decide : (1 : Int32).toInt = 1) (by decide : (0 : Int32).toInt = 0) (by omega)) ?_
          refine J_aload_n (i := 0) (a := 0) rfl rfl (dk_X7_shift 8 _ rfl) ?_
          refine J_iload_n (i := 3) (a := 3) rfl rfl (dk_X7_shift 9 _ rfl) ?_
          refine J_cV (rv := some (.int 0)) (h' := hM0) (d' := 11) (As := [.int o]) ok_X7_isTape vi_X7_isTape cl_7_354 (n := 1) (by decide +kernel) rfl rfl rfl rfl (by decide) (by decide) (dk_X7_shift 10 _ rfl) ?_ ?_
          · refine jCt_of ok_X7_isTape (fun _ _ => Nat.le_of_ble_eq_true rfl) (fun _ _ hq => by rw [hq.2]; first | exact Nat.le_refl _ | simp) ?_
            show J _ _ _ _ _ _ _ _ [(0, .ref 0), (1, .int o)] _ _ _
            refine J_aload_n (i := 0) (a := 0) rfl rfl (dk_X7_isTape 0 _ rfl) ?_
            refine J_iload_n (i := 1) (a := 1) rfl rfl (dk_X7_isTape 1 _ rfl) ?_
            refine J_iconst (v := 0) (by decide) (dk_X7_isTape 2 _ rfl) ?_
            refine J_iconst (v := 5) (by decide) (dk_X7_isTape 3 _ rfl) ?_
            refine J_cV (rv := some (.int 0)) (h' := hM0) (d' := 10) (As := [.int o, .int 0, .int 5]) ok_X7_in vi_X7_in cl_7_194 (n := 3) (by decide +kernel) rfl rfl rfl rfl (by decide) (by decide) (dk_X7_isTape 4 _ rfl) ?_ ?_
            · refine jCt_of ok_X7_in (fun _ _ => Nat.le_of_ble_eq_true rfl) (fun _ _ hq => by rw [hq.2]; first | exact Nat.le_refl _ | simp) ?_
              show J _ _ _ _ _ _ _ _ [(0, .ref 0), (1, .int o), (2, .int 0), (3, .int 5)] _ _ _
              refine J_iload_n (i := 1) (a := 1) rfl rfl (dk_X7_in 0 _ rfl) ?_
              refine J_iload_n (i := 2) (a := 2) rfl rfl (dk_X7_in 1 _ rfl) ?_
              refine J_icT (tgt := 14) (by decide) (dk_X7_in 2 _ rfl) (jI_lt (rfl : (o : Int32).toInt = (o : Int32).toInt) (by decide : (0 : Int32).toInt = 0) (by omega)) ?_
              refine J_iconst (v := 0) (by decide) (dk_X7_in 14 _ rfl) ?_
              exact J_iret rfl rfl (dk_X7_in 15 _ rfl) ⟨rfl, rfl⟩
            show J _ _ _ _ _ _ _ _ _ [.int 0] _ _
            exact J_iret rfl rfl (dk_X7_isTape 7 _ rfl) ⟨rfl, rfl⟩
          show J _ _ _ _ _ _ _ _ _ [.int 0] _ _
          refine J_ifF (tgt := 18) (by decide) (dk_X7_shift 13 _ rfl) (fun z => z (jI_eq (by decide : (0 : Int32).toInt = 0) (by decide : (0 : Int32).toInt = 0) (by omega))) ?_
          refine J_iconst (v := (-1)) (by decide) (dk_X7_shift 16 _ rfl) ?_
          exact J_iret rfl rfl (dk_X7_shift 17 _ rfl) ⟨rfl, rfl⟩
      · by_cases c4 : (o : Int32).toInt < 6
        · by_cases c5 : (t : Int32).toInt = 0
          · obtain rfl : t = 0 := jI_eq rfl (by decide) c5
            by_cases c6 : (o : Int32).toInt = 0
            · obtain rfl : o = 0 := jI_eq rfl (by decide) c6
              refine ⟨(-11), ?_, ?_⟩
              · refine jCt_of ok_X6_shift (fun _ _ => Nat.le_of_ble_eq_true rfl) (fun _ _ hq => Nat.le_of_eq (lX.trans hq.2.symm)) ?_
                show J _ _ _ _ _ _ _ _ [(0, .ref 0), (1, .int 0), (2, .int i), (3, .int 0), (4, .int j), (5, .int n)] _ _ _
                refine J_iload_n (i := 1) (a := 1) rfl rfl (dk_X6_shift 0 _ rfl) ?_
                refine J_cS (rv := some (.int 1)) (h' := hN0) (d' := 11) (As := [.int 0]) ok_X6_isTape st_X6_isTape cl_6_220 rfl (n := 1) (by decide +kernel) rfl (by decide) (by decide) (dk_X6_shift 1 _ rfl) ?_ ?_
                · refine jCt_of ok_X6_isTape (fun _ _ => Nat.le_of_ble_eq_true rfl) (fun _ _ hq => by rw [hq.2]; first | exact Nat.le_refl _ | simp) ?_
                  show J _ _ _ _ _ _ _ _ [(0, .int 0)] _ _ _
                  refine J_iload_n (i := 0) (a := 0) rfl rfl (dk_X6_isTape 0 _ rfl) ?_
                  refine J_ifF (tgt := 14) (by decide) (dk_X6_isTape 1 _ rfl) (jI_nlt (by decide : (0 : Int32).toInt = 0) (by decide : (0 : Int32).toInt = 0) (by omega)) ?_
                  refine J_iload_n (i := 0) (a := 0) rfl rfl (dk_X6_isTape 4 _ rfl) ?_
                  refine J_bipush (v := 6) (by decide) (dk_X6_isTape 5 _ rfl) ?_
                  refine J_icF (tgt := 14) (by decide) (dk_X6_isTape 7 _ rfl) (jI_nle (by decide : (6 : Int32).toInt = 6) (by decide : (0 : Int32).toInt = 0) (by omega)) ?_
                  refine J_iconst (v := 1) (by decide) (dk_X6_isTape 10 _ rfl) ?_
                  refine J_goto (tgt := 15) (by decide) (dk_X6_isTape 11 _ rfl) ?_
                  exact J_iret rfl rfl (dk_X6_isTape 15 _ rfl) ⟨rfl, rfl⟩
                show J _ _ _ _ _ _ _ _ _ [.int 1] _ _
                refine J_ifF (tgt := 14) (by decide) (dk_X6_shift 4 _ rfl) (jI_ne (by decide : (1 : Int32).toInt = 1) (by decide : (0 : Int32).toInt = 0) (by omega)) ?_
                refine J_iload_n (i := 3) (a := 3) rfl rfl (dk_X6_shift 7 _ rfl) ?_
                refine J_cS (rv := some (.int 1)) (h' := hN0) (d' := 11) (As := [.int 0]) ok_X6_isTape st_X6_isTape cl_6_220 rfl (n := 1) (by decide +kernel) rfl (by decide) (by decide) (dk_X6_shift 8 _ rfl) ?_ ?_
                · refine jCt_of ok_X6_isTape (fun _ _ => Nat.le_of_ble_eq_true rfl) (fun _ _ hq => by rw [hq.2]; first | exact Nat.le_refl _ | simp) ?_
                  show J _ _ _ _ _ _ _ _ [(0, .int 0)] _ _ _
                  refine J_iload_n (i := 0) (a := 0) rfl rfl (dk_X6_isTape 0 _ rfl) ?_
                  refine J_ifF (tgt := 14) (by decide) (dk_X6_isTape 1 _ rfl) (jI_nlt (by decide : (0 : Int32).toInt = 0) (by decide : (0 : Int32).toInt = 0) (by omega)) ?_
                  refine J_iload_n (i := 0) (a := 0) rfl rfl (dk_X6_isTape 4 _ rfl) ?_
                  refine J_bipush (v := 6) (by decide) (dk_X6_isTape 5 _ rfl) ?_
                  refine J_icF (tgt := 14) (by decide) (dk_X6_isTape 7 _ rfl) (jI_nle (by decide : (6 : Int32).toInt = 6) (by decide : (0 : Int32).toInt = 0) (by omega)) ?_
                  refine J_iconst (v := 1) (by decide) (dk_X6_isTape 10 _ rfl) ?_
                  refine J_goto (tgt := 15) (by decide) (dk_X6_isTape 11 _ rfl) ?_
                  exact J_iret rfl rfl (dk_X6_isTape 15 _ rfl) ⟨rfl, rfl⟩
                show J _ _ _ _ _ _ _ _ _ [.int 1] _ _
                refine J_ifT (tgt := 16) (by decide) (dk_X6_shift 11 _ rfl) (jI_ne (by decide : (1 : Int32).toInt = 1) (by decide : (0 : Int32).toInt = 0) (by omega)) ?_
                refine J_aload_n (i := 0) (a := 0) rfl rfl (dk_X6_shift 16 _ rfl) ?_
                refine J_getf fl_6_37 rfl rfl (dk_X6_shift 17 _ rfl) ?_
                refine J_iload_n (i := 1) (a := 1) rfl rfl (dk_X6_shift 20 _ rfl) ?_
                refine J_aald (by decide) rfl (by decide) rfl (dk_X6_shift 21 _ rfl) ?_
                refine J_astore (i := 6) (by decide) (dk_X6_shift 22 _ rfl) ?_
                show J _ _ _ _ _ _ _ _ [(6, .ref 82), (0, .ref 0), (1, .int 0), (2, .int i), (3, .int 0), (4, .int j), (5, .int n)] _ _ _
                refine J_aload_n (i := 0) (a := 0) rfl rfl (dk_X6_shift 24 _ rfl) ?_
                refine J_getf fl_6_37 rfl rfl (dk_X6_shift 25 _ rfl) ?_
                refine J_iload_n (i := 3) (a := 3) rfl rfl (dk_X6_shift 28 _ rfl) ?_
                refine J_aald (by decide) rfl (by decide) rfl (dk_X6_shift 29 _ rfl) ?_
                refine J_astore (i := 7) (by decide) (dk_X6_shift 30 _ rfl) ?_
                show J _ _ _ _ _ _ _ _ [(7, .ref 82), (6, .ref 82), (0, .ref 0), (1, .int 0), (2, .int i), (3, .int 0), (4, .int j), (5, .int n)] _ _ _
                refine J_aload (i := 6) rfl (dk_X6_shift 32 _ rfl) ?_
                refine J_getf fl_6_223 rfl rfl (dk_X6_shift 34 _ rfl) ?_
                refine J_iconst (v := (-1)) (by decide) (dk_X6_shift 37 _ rfl) ?_
                refine J_icT (tgt := 50) (by decide) (dk_X6_shift 38 _ rfl) (jI_eq (by decide : ((-1) : Int32).toInt = (-1)) (by decide : ((-1) : Int32).toInt = (-1)) (by omega)) ?_
                refine J_bipush (v := (-11)) (by decide) (dk_X6_shift 50 _ rfl) ?_
                exact J_iret rfl rfl (dk_X6_shift 52 _ rfl) ⟨rfl, rfl⟩
              · refine jCt_of ok_X7_shift (fun _ _ => Nat.le_of_ble_eq_true rfl) (fun _ _ hq => Nat.le_of_eq (lM.trans hq.2.symm)) ?_
                show J _ _ _ _ _ _ _ _ [(0, .ref 0), (1, .int 0), (2, .int i), (3, .int 0), (4, .int j), (5, .int n)] _ _ _
                refine J_aload_n (i := 0) (a := 0) rfl rfl (dk_X7_shift 0 _ rfl) ?_
                refine J_iload_n (i := 1) (a := 1) rfl rfl (dk_X7_shift 1 _ rfl) ?_
                refine J_cV (rv := some (.int 1)) (h' := hM0) (d' := 11) (As := [.int 0]) ok_X7_isTape vi_X7_isTape cl_7_354 (n := 1) (by decide +kernel) rfl rfl rfl rfl (by decide) (by decide) (dk_X7_shift 2 _ rfl) ?_ ?_
                · refine jCt_of ok_X7_isTape (fun _ _ => Nat.le_of_ble_eq_true rfl) (fun _ _ hq => by rw [hq.2]; first | exact Nat.le_refl _ | simp) ?_
                  show J _ _ _ _ _ _ _ _ [(0, .ref 0), (1, .int 0)] _ _ _
                  refine J_aload_n (i := 0) (a := 0) rfl rfl (dk_X7_isTape 0 _ rfl) ?_
                  refine J_iload_n (i := 1) (a := 1) rfl rfl (dk_X7_isTape 1 _ rfl) ?_
                  refine J_iconst (v := 0) (by decide) (dk_X7_isTape 2 _ rfl) ?_
                  refine J_iconst (v := 5) (by decide) (dk_X7_isTape 3 _ rfl) ?_
                  refine J_cV (rv := some (.int 1)) (h' := hM0) (d' := 10) (As := [.int 0, .int 0, .int 5]) ok_X7_in vi_X7_in cl_7_194 (n := 3) (by decide +kernel) rfl rfl rfl rfl (by decide) (by decide) (dk_X7_isTape 4 _ rfl) ?_ ?_
                  · refine jCt_of ok_X7_in (fun _ _ => Nat.le_of_ble_eq_true rfl) (fun _ _ hq => by rw [hq.2]; first | exact Nat.le_refl _ | simp) ?_
                    show J _ _ _ _ _ _ _ _ [(0, .ref 0), (1, .int 0), (2, .int 0), (3, .int 5)] _ _ _
                    refine J_iload_n (i := 1) (a := 1) rfl rfl (dk_X7_in 0 _ rfl) ?_
                    refine J_iload_n (i := 2) (a := 2) rfl rfl (dk_X7_in 1 _ rfl) ?_
                    refine J_icF (tgt := 14) (by decide) (dk_X7_in 2 _ rfl) (jI_nlt (by decide : (0 : Int32).toInt = 0) (by decide : (0 : Int32).toInt = 0) (by omega)) ?_
                    refine J_iload_n (i := 1) (a := 1) rfl rfl (dk_X7_in 5 _ rfl) ?_
                    refine J_iload_n (i := 3) (a := 3) rfl rfl (dk_X7_in 6 _ rfl) ?_
                    refine J_icF (tgt := 14) (by decide) (dk_X7_in 7 _ rfl) (jI_nlt (by decide : (5 : Int32).toInt = 5) (by decide : (0 : Int32).toInt = 0) (by omega)) ?_
                    refine J_iconst (v := 1) (by decide) (dk_X7_in 10 _ rfl) ?_
                    refine J_goto (tgt := 15) (by decide) (dk_X7_in 11 _ rfl) ?_
                    exact J_iret rfl rfl (dk_X7_in 15 _ rfl) ⟨rfl, rfl⟩
                  show J _ _ _ _ _ _ _ _ _ [.int 1] _ _
                  exact J_iret rfl rfl (dk_X7_isTape 7 _ rfl) ⟨rfl, rfl⟩
                show J _ _ _ _ _ _ _ _ _ [.int 1] _ _
                refine J_ifF (tgt := 16) (by decide) (dk_X7_shift 5 _ rfl) (jI_ne (by decide : (1 : Int32).toInt = 1) (by decide : (0 : Int32).toInt = 0) (by omega)) ?_
                refine J_aload_n (i := 0) (a := 0) rfl rfl (dk_X7_shift 8 _ rfl) ?_
                refine J_iload_n (i := 3) (a := 3) rfl rfl (dk_X7_shift 9 _ rfl) ?_
                refine J_cV (rv := some (.int 1)) (h' := hM0) (d' := 11) (As := [.int 0]) ok_X7_isTape vi_X7_isTape cl_7_354 (n := 1) (by decide +kernel) rfl rfl rfl rfl (by decide) (by decide) (dk_X7_shift 10 _ rfl) ?_ ?_
                · refine jCt_of ok_X7_isTape (fun _ _ => Nat.le_of_ble_eq_true rfl) (fun _ _ hq => by rw [hq.2]; first | exact Nat.le_refl _ | simp) ?_
                  show J _ _ _ _ _ _ _ _ [(0, .ref 0), (1, .int 0)] _ _ _
                  refine J_aload_n (i := 0) (a := 0) rfl rfl (dk_X7_isTape 0 _ rfl) ?_
                  refine J_iload_n (i := 1) (a := 1) rfl rfl (dk_X7_isTape 1 _ rfl) ?_
                  refine J_iconst (v := 0) (by decide) (dk_X7_isTape 2 _ rfl) ?_
                  refine J_iconst (v := 5) (by decide) (dk_X7_isTape 3 _ rfl) ?_
                  refine J_cV (rv := some (.int 1)) (h' := hM0) (d' := 10) (As := [.int 0, .int 0, .int 5]) ok_X7_in vi_X7_in cl_7_194 (n := 3) (by decide +kernel) rfl rfl rfl rfl (by decide) (by decide) (dk_X7_isTape 4 _ rfl) ?_ ?_
                  · refine jCt_of ok_X7_in (fun _ _ => Nat.le_of_ble_eq_true rfl) (fun _ _ hq => by rw [hq.2]; first | exact Nat.le_refl _ | simp) ?_
                    show J _ _ _ _ _ _ _ _ [(0, .ref 0), (1, .int 0), (2, .int 0), (3, .int 5)] _ _ _
                    refine J_iload_n (i := 1) (a := 1) rfl rfl (dk_X7_in 0 _ rfl) ?_
                    refine J_iload_n (i := 2) (a := 2) rfl rfl (dk_X7_in 1 _ rfl) ?_
                    refine J_icF (tgt := 14) (by decide) (dk_X7_in 2 _ rfl) (jI_nlt (by decide : (0 : Int32).toInt = 0) (by decide : (0 : Int32).toInt = 0) (by omega)) ?_
                    refine J_iload_n (i := 1) (a := 1) rfl rfl (dk_X7_in 5 _ rfl) ?_
                    refine J_iload_n (i := 3) (a := 3) rfl rfl (dk_X7_in 6 _ rfl) ?_
                    refine J_icF (tgt := 14) (by decide) (dk_X7_in 7 _ rfl) (jI_nlt (by decide : (5 : Int32).toInt = 5) (by decide : (0 : Int32).toInt = 0) (by omega)) ?_
                    refine J_iconst (v := 1) (by decide) (dk_X7_in 10 _ rfl) ?_
                    refine J_goto (tgt := 15) (by decide) (dk_X7_in 11 _ rfl) ?_
                    exact J_iret rfl rfl (dk_X7_in 15 _ rfl) ⟨rfl, rfl⟩
                  show J _ _ _ _ _ _ _ _ _ [.int 1] _ _
                  exact J_iret rfl rfl (dk_X7_isTape 7 _ rfl) ⟨rfl, rfl⟩
                show J _ _ _ _ _ _ _ _ _ [.int 1] _ _
                refine J_ifT (tgt := 18) (by decide) (dk_X7_shift 13 _ rfl) (jI_ne (by decide : (1 : Int32).toInt = 1) (by decide : (0 : Int32).toInt = 0) (by omega)) ?_
                refine J_aload_n (i := 0) (a := 0) rfl rfl (dk_X7_shift 18 _ rfl) ?_
                refine J_getf fl_7_181 rfl rfl (dk_X7_shift 19 _ rfl) ?_
                refine J_iload_n (i := 1) (a := 1) rfl rfl (dk_X7_shift 22 _ rfl) ?_
                refine J_iald rfl (by decide) rfl (dk_X7_shift 23 _ rfl) ?_
                refine J_ifT (tgt := 36) (by decide) (dk_X7_shift 24 _ rfl) (jI_lt (by decide : ((-1) : Int32).toInt = (-1)) (by decide : (0 : Int32).toInt = 0) (by omega)) ?_
                refine J_bipush (v := (-11)) (by decide) (dk_X7_shift 36 _ rfl) ?_
                exact J_iret rfl rfl (dk_X7_shift 38 _ rfl) ⟨rfl, rfl⟩
            · by_cases c7 : (o : Int32).toInt = 1
              · obtain rfl : o = 1 := jI_eq rfl (by decide) c7
                refine ⟨(-11), ?_, ?_⟩
                · refine jCt_of ok_X6_shift (fun _ _ => Nat.le_of_ble_eq_true rfl) (fun _ _ hq => Nat.le_of_eq (lX.trans hq.2.symm)) ?_
                  show J _ _ _ _ _ _ _ _ [(0, .ref 0), (1, .int 0), (2, .int i), (3, .int 1), (4, .int j), (5, .int n)] _ _ _
                  refine J_iload_n (i := 1) (a := 1) rfl rfl (dk_X6_shift 0 _ rfl) ?_
                  refine J_cS (rv := some (.int 1)) (h' := hN0) (d' := 11) (As := [.int 0]) ok_X6_isTape st_X6_isTape cl_6_220 rfl (n := 1) (by decide +kernel) rfl (by decide) (by decide) (dk_X6_shift 1 _ rfl) ?_ ?_
                  · refine jCt_of ok_X6_isTape (fun _ _ => Nat.le_of_ble_eq_true rfl) (fun _ _ hq => by rw [hq.2]; first | exact Nat.le_refl _ | simp) ?_
                    show J _ _ _ _ _ _ _ _ [(0, .int 0)] _ _ _
                    refine J_iload_n (i := 0) (a := 0) rfl rfl (dk_X6_isTape 0 _ rfl) ?_
                    refine J_ifF (tgt := 14) (by decide) (dk_X6_isTape 1 _ rfl) (jI_nlt (by decide : (0 : Int32).toInt = 0) (by decide : (0 : Int32).toInt = 0) (by omega)) ?_
                    refine J_iload_n (i := 0) (a := 0) rfl rfl (dk_X6_isTape 4 _ rfl) ?_
                    refine J_bipush (v := 6) (by decide) (dk_X6_isTape 5 _ rfl) ?_
                    refine J_icF (tgt := 14) (by decide) (dk_X6_isTape 7 _ rfl) (jI_nle (by decide : (6 : Int32).toInt = 6) (by decide : (0 : Int32).toInt = 0) (by omega)) ?_
                    refine J_iconst (v := 1) (by decide) (dk_X6_isTape 10 _ rfl) ?_
                    refine J_goto (tgt := 15) (by decide) (dk_X6_isTape 11 _ rfl) ?_
                    exact J_iret rfl rfl (dk_X6_isTape 15 _ rfl) ⟨rfl, rfl⟩
                  show J _ _ _ _ _ _ _ _ _ [.int 1] _ _
                  refine J_ifF (tgt := 14) (by decide) (dk_X6_shift 4 _ rfl) (jI_ne (by decide : (1 : Int32).toInt = 1) (by decide : (0 : Int32).toInt = 0) (by omega)) ?_
                  refine J_iload_n (i := 3) (a := 3) rfl rfl (dk_X6_shift 7 _ rfl) ?_
                  refine J_cS (rv := some (.int 1)) (h' := hN0) (d' := 11) (As := [.int 1]) ok_X6_isTape st_X6_isTape cl_6_220 rfl (n := 1) (by decide +kernel) rfl (by decide) (by decide) (dk_X6_shift 8 _ rfl) ?_ ?_
                  · refine jCt_of ok_X6_isTape (fun _ _ => Nat.le_of_ble_eq_true rfl) (fun _ _ hq => by rw [hq.2]; first | exact Nat.le_refl _ | simp) ?_
                    show J _ _ _ _ _ _ _ _ [(0, .int 1)] _ _ _
                    refine J_iload_n (i := 0) (a := 0) rfl rfl (dk_X6_isTape 0 _ rfl) ?_
                    refine J_ifF (tgt := 14) (by decide) (dk_X6_isTape 1 _ rfl) (jI_nlt (by decide : (1 : Int32).toInt = 1) (by decide : (0 : Int32).toInt = 0) (by omega)) ?_
                    refine J_iload_n (i := 0) (a := 0) rfl rfl (dk_X6_isTape 4 _ rfl) ?_
                    refine J_bipush (v := 6) (by decide) (dk_X6_isTape 5 _ rfl) ?_
                    refine J_icF (tgt := 14) (by decide) (dk_X6_isTape 7 _ rfl) (jI_nle (by decide : (6 : Int32).toInt = 6) (by decide : (1 : Int32).toInt = 1) (by omega)) ?_
                    refine J_iconst (v := 1) (by decide) (dk_X6_isTape 10 _ rfl) ?_
                    refine J_goto (tgt := 15) (by decide) (dk_X6_isTape 11 _ rfl) ?_
                    exact J_iret rfl rfl (dk_X6_isTape 15 _ rfl) ⟨rfl, rfl⟩
                  show J _ _ _ _ _ _ _ _ _ [.int 1] _ _
                  refine J_ifT (tgt := 16) (by decide) (dk_X6_shift 11 _ rfl) (jI_ne (by decide : (1 : Int32).toInt = 1) (by decide : (0 : Int32).toInt = 0) (by omega)) ?_
                  refine J_aload_n (i := 0) (a := 0) rfl rfl (dk_X6_shift 16 _ rfl) ?_
                  refine J_getf fl_6_37 rfl rfl (dk_X6_shift 17 _ rfl) ?_
                  refine J_iload_n (i := 1) (a := 1) rfl rfl (dk_X6_shift 20 _ rfl) ?_
                  refine J_aald (by decide) rfl (by decide) rfl (dk_X6_shift 21 _ rfl) ?_
                  refine J_astore (i := 6) (by decide) (dk_X6_shift 22 _ rfl) ?_
                  show J _ _ _ _ _ _ _ _ [(6, .ref 82), (0, .ref 0), (1, .int 0), (2, .int i), (3, .int 1), (4, .int j), (5, .int n)] _ _ _
                  refine J_aload_n (i := 0) (a := 0) rfl rfl (dk_X6_shift 24 _ rfl) ?_
                  refine J_getf fl_6_37 rfl rfl (dk_X6_shift 25 _ rfl) ?_
                  refine J_iload_n (i := 3) (a := 3) rfl rfl (dk_X6_shift 28 _ rfl) ?_
                  refine J_aald (by decide) rfl (by decide) rfl (dk_X6_shift 29 _ rfl) ?_
                  refine J_astore (i := 7) (by decide) (dk_X6_shift 30 _ rfl) ?_
                  show J _ _ _ _ _ _ _ _ [(7, .ref 84), (6, .ref 82), (0, .ref 0), (1, .int 0), (2, .int i), (3, .int 1), (4, .int j), (5, .int n)] _ _ _
                  refine J_aload (i := 6) rfl (dk_X6_shift 32 _ rfl) ?_
                  refine J_getf fl_6_223 rfl rfl (dk_X6_shift 34 _ rfl) ?_
                  refine J_iconst (v := (-1)) (by decide) (dk_X6_shift 37 _ rfl) ?_
                  refine J_icT (tgt := 50) (by decide) (dk_X6_shift 38 _ rfl) (jI_eq (by decide : ((-1) : Int32).toInt = (-1)) (by decide : ((-1) : Int32).toInt = (-1)) (by omega)) ?_
                  refine J_bipush (v := (-11)) (by decide) (dk_X6_shift 50 _ rfl) ?_
                  exact J_iret rfl rfl (dk_X6_shift 52 _ rfl) ⟨rfl, rfl⟩
                · refine jCt_of ok_X7_shift (fun _ _ => Nat.le_of_ble_eq_true rfl) (fun _ _ hq => Nat.le_of_eq (lM.trans hq.2.symm)) ?_
                  show J _ _ _ _ _ _ _ _ [(0, .ref 0), (1, .int 0), (2, .int i), (3, .int 1), (4, .int j), (5, .int n)] _ _ _
                  refine J_aload_n (i := 0) (a := 0) rfl rfl (dk_X7_shift 0 _ rfl) ?_
                  refine J_iload_n (i := 1) (a := 1) rfl rfl (dk_X7_shift 1 _ rfl) ?_
                  refine J_cV (rv := some (.int 1)) (h' := hM0) (d' := 11) (As := [.int 0]) ok_X7_isTape vi_X7_isTape cl_7_354 (n := 1) (by decide +kernel) rfl rfl rfl rfl (by decide) (by decide) (dk_X7_shift 2 _ rfl) ?_ ?_
                  · refine jCt_of ok_X7_isTape (fun _ _ => Nat.le_of_ble_eq_true rfl) (fun _ _ hq => by rw [hq.2]; first | exact Nat.le_refl _ | simp) ?_
                    show J _ _ _ _ _ _ _ _ [(0, .ref 0), (1, .int 0)] _ _ _
                    refine J_aload_n (i := 0) (a := 0) rfl rfl (dk_X7_isTape 0 _ rfl) ?_
                    refine J_iload_n (i := 1) (a := 1) rfl rfl (dk_X7_isTape 1 _ rfl) ?_
                    refine J_iconst (v := 0) (by decide) (dk_X7_isTape 2 _ rfl) ?_
                    refine J_iconst (v := 5) (by decide) (dk_X7_isTape 3 _ rfl) ?_
                    refine J_cV (rv := some (.int 1)) (h' := hM0) (d' := 10) (As := [.int 0, .int 0, .int 5]) ok_X7_in vi_X7_in cl_7_194 (n := 3) (by decide +kernel) rfl rfl rfl rfl (by decide) (by decide) (dk_X7_isTape 4 _ rfl) ?_ ?_
                    · refine jCt_of ok_X7_in (fun _ _ => Nat.le_of_ble_eq_true rfl) (fun _ _ hq => by rw [hq.2]; first | exact Nat.le_refl _ | simp) ?_
                      show J _ _ _ _ _ _ _ _ [(0, .ref 0), (1, .int 0), (2, .int 0), (3, .int 5)] _ _ _
                      refine J_iload_n (i := 1) (a := 1) rfl rfl (dk_X7_in 0 _ rfl) ?_
                      refine J_iload_n (i := 2) (a := 2) rfl rfl (dk_X7_in 1 _ rfl) ?_
                      refine J_icF (tgt := 14) (by decide) (dk_X7_in 2 _ rfl) (jI_nlt (by decide : (0 : Int32).toInt = 0) (by decide : (0 : Int32).toInt = 0) (by omega)) ?_
                      refine J_iload_n (i := 1) (a := 1) rfl rfl (dk_X7_in 5 _ rfl) ?_
                      refine J_iload_n (i := 3) (a := 3) rfl rfl (dk_X7_in 6 _ rfl) ?_
                      refine J_icF (tgt := 14) (by decide) (dk_X7_in 7 _ rfl) (jI_nlt (by decide : (5 : Int32).toInt = 5) (by decide : (0 : Int32).toInt = 0) (by omega)) ?_
                      refine J_iconst (v := 1) (by decide) (dk_X7_in 10 _ rfl) ?_
                      refine J_goto (tgt := 15) (by decide) (dk_X7_in 11 _ rfl) ?_
                      exact J_iret rfl rfl (dk_X7_in 15 _ rfl) ⟨rfl, rfl⟩
                    show J _ _ _ _ _ _ _ _ _ [.int 1] _ _
                    exact J_iret rfl rfl (dk_X7_isTape 7 _ rfl) ⟨rfl, rfl⟩
                  show J _ _ _ _ _ _ _ _ _ [.int 1] _ _
                  refine J_ifF (tgt := 16) (by decide) (dk_X7_shift 5 _ rfl) (jI_ne (by decide : (1 : Int32).toInt = 1) (by decide : (0 : Int32).toInt = 0) (by omega)) ?_
                  refine J_aload_n (i := 0) (a := 0) rfl rfl (dk_X7_shift 8 _ rfl) ?_
                  refine J_iload_n (i := 3) (a := 3) rfl rfl (dk_X7_shift 9 _ rfl) ?_
                  refine J_cV (rv := some (.int 1)) (h' := hM0) (d' := 11) (As := [.int 1]) ok_X7_isTape vi_X7_isTape cl_7_354 (n := 1) (by decide +kernel) rfl rfl rfl rfl (by decide) (by decide) (dk_X7_shift 10 _ rfl) ?_ ?_
                  · refine jCt_of ok_X7_isTape (fun _ _ => Nat.le_of_ble_eq_true rfl) (fun _ _ hq => by rw [hq.2]; first | exact Nat.le_refl _ | simp) ?_
                    show J _ _ _ _ _ _ _ _ [(0, .ref 0), (1, .int 1)] _ _ _
                    refine J_aload_n (i := 0) (a := 0) rfl rfl (dk_X7_isTape 0 _ rfl) ?_
                    refine J_iload_n (i := 1) (a := 1) rfl rfl (dk_X7_isTape 1 _ rfl) ?_
                    refine J_iconst (v := 0) (by decide) (dk_X7_isTape 2 _ rfl) ?_
                    refine J_iconst (v := 5) (by decide) (dk_X7_isTape 3 _ rfl) ?_
                    refine J_cV (rv := some (.int 1)) (h' := hM0) (d' := 10) (As := [.int 1, .int 0, .int 5]) ok_X7_in vi_X7_in cl_7_194 (n := 3) (by decide +kernel) rfl rfl rfl rfl (by decide) (by decide) (dk_X7_isTape 4 _ rfl) ?_ ?_
                    · refine jCt_of ok_X7_in (fun _ _ => Nat.le_of_ble_eq_true rfl) (fun _ _ hq => by rw [hq.2]; first | exact Nat.le_refl _ | simp) ?_
                      show J _ _ _ _ _ _ _ _ [(0, .ref 0), (1, .int 1), (2, .int 0), (3, .int 5)] _ _ _
                      refine J_iload_n (i := 1) (a := 1) rfl rfl (dk_X7_in 0 _ rfl) ?_
                      refine J_iload_n (i := 2) (a := 2) rfl rfl (dk_X7_in 1 _ rfl) ?_
                      refine J_icF (tgt := 14) (by decide) (dk_X7_in 2 _ rfl) (jI_nlt (by decide : (1 : Int32).toInt = 1) (by decide : (0 : Int32).toInt = 0) (by omega)) ?_
                      refine J_iload_n (i := 1) (a := 1) rfl rfl (dk_X7_in 5 _ rfl) ?_
                      refine J_iload_n (i := 3) (a := 3) rfl rfl (dk_X7_in 6 _ rfl) ?_
                      refine J_icF (tgt := 14) (by decide) (dk_X7_in 7 _ rfl) (jI_nlt (by decide : (5 : Int32).toInt = 5) (by decide : (1 : Int32).toInt = 1) (by omega)) ?_
                      refine J_iconst (v := 1) (by decide) (dk_X7_in 10 _ rfl) ?_
                      refine J_goto (tgt := 15) (by decide) (dk_X7_in 11 _ rfl) ?_
                      exact J_iret rfl rfl (dk_X7_in 15 _ rfl) ⟨rfl, rfl⟩
                    show J _ _ _ _ _ _ _ _ _ [.int 1] _ _
                    exact J_iret rfl rfl (dk_X7_isTape 7 _ rfl) ⟨rfl, rfl⟩
                  show J _ _ _ _ _ _ _ _ _ [.int 1] _ _
                  refine J_ifT (tgt := 18) (by decide) (dk_X7_shift 13 _ rfl) (jI_ne (by decide : (1 : Int32).toInt = 1) (by decide : (0 : Int32).toInt = 0) (by omega)) ?_
                  refine J_aload_n (i := 0) (a := 0) rfl rfl (dk_X7_shift 18 _ rfl) ?_
                  refine J_getf fl_7_181 rfl rfl (dk_X7_shift 19 _ rfl) ?_
                  refine J_iload_n (i := 1) (a := 1) rfl rfl (dk_X7_shift 22 _ rfl) ?_
                  refine J_iald rfl (by decide) rfl (dk_X7_shift 23 _ rfl) ?_
                  refine J_ifT (tgt := 36) (by decide) (dk_X7_shift 24 _ rfl) (jI_lt (by decide : ((-1) : Int32).toInt = (-1)) (by decide : (0 : Int32).toInt = 0) (by omega)) ?_
                  refine J_bipush (v := (-11)) (by decide) (dk_X7_shift 36 _ rfl) ?_
                  exact J_iret rfl rfl (dk_X7_shift 38 _ rfl) ⟨rfl, rfl⟩
              · by_cases c8 : (o : Int32).toInt = 2
                · obtain rfl : o = 2 := jI_eq rfl (by decide) c8
                  refine ⟨(-11), ?_, ?_⟩
                  · refine jCt_of ok_X6_shift (fun _ _ => Nat.le_of_ble_eq_true rfl) (fun _ _ hq => Nat.le_of_eq (lX.trans hq.2.symm)) ?_
                    show J _ _ _ _ _ _ _ _ [(0, .ref 0), (1, .int 0), (2, .int i), (3, .int 2), (4, .int j), (5, .int n)] _ _ _
                    refine J_iload_n (i := 1) (a := 1) rfl rfl (dk_X6_shift 0 _ rfl) ?_
                    refine J_cS (rv := some (.int 1)) (h' := hN0) (d' := 11) (As := [.int 0]) ok_X6_isTape st_X6_isTape cl_6_220 rfl (n := 1) (by decide +kernel) rfl (by decide) (by decide) (dk_X6_shift 1 _ rfl) ?_ ?_
                    · refine jCt_of ok_X6_isTape (fun _ _ => Nat.le_of_ble_eq_true rfl) (fun _ _ hq => by rw [hq.2]; first | exact Nat.le_refl _ | simp) ?_
                      show J _ _ _ _ _ _ _ _ [(0, .int 0)] _ _ _
                      refine J_iload_n (i := 0) (a := 0) rfl rfl (dk_X6_isTape 0 _ rfl) ?_
                      refine J_ifF (tgt := 14) (by decide) (dk_X6_isTape 1 _ rfl) (jI_nlt (by decide : (0 : Int32).toInt = 0) (by decide : (0 : Int32).toInt = 0) (by omega)) ?_
                      refine J_iload_n (i := 0) (a := 0) rfl rfl (dk_X6_isTape 4 _ rfl) ?_
                      refine J_bipush (v := 6) (by decide) (dk_X6_isTape 5 _ rfl) ?_
                      refine J_icF (tgt := 14) (by decide) (dk_X6_isTape 7 _ rfl) (jI_nle (by decide : (6 : Int32).toInt = 6) (by decide : (0 : Int32).toInt = 0) (by omega)) ?_
                      refine J_iconst (v := 1) (by decide) (dk_X6_isTape 10 _ rfl) ?_
                      refine J_goto (tgt := 15) (by decide) (dk_X6_isTape 11 _ rfl) ?_
                      exact J_iret rfl rfl (dk_X6_isTape 15 _ rfl) ⟨rfl, rfl⟩
                    show J _ _ _ _ _ _ _ _ _ [.int 1] _ _
                    refine J_ifF (tgt := 14) (by decide) (dk_X6_shift 4 _ rfl) (jI_ne (by decide : (1 : Int32).toInt = 1) (by decide : (0 : Int32).toInt = 0) (by omega)) ?_
                    refine J_iload_n (i := 3) (a := 3) rfl rfl (dk_X6_shift 7 _ rfl) ?_
                    refine J_cS (rv := some (.int 1)) (h' := hN0) (d' := 11) (As := [.int 2]) ok_X6_isTape st_X6_isTape cl_6_220 rfl (n := 1) (by decide +kernel) rfl (by decide) (by decide) (dk_X6_shift 8 _ rfl) ?_ ?_
                    · refine jCt_of ok_X6_isTape (fun _ _ => Nat.le_of_ble_eq_true rfl) (fun _ _ hq => by rw [hq.2]; first | exact Nat.le_refl _ | simp) ?_
                      show J _ _ _ _ _ _ _ _ [(0, .int 2)] _ _ _
                      refine J_iload_n (i := 0) (a := 0) rfl rfl (dk_X6_isTape 0 _ rfl) ?_
                      refine J_ifF (tgt := 14) (by decide) (dk_X6_isTape 1 _ rfl) (jI_nlt (by decide : (2 : Int32).toInt = 2) (by decide : (0 : Int32).toInt = 0) (by omega)) ?_
                      refine J_iload_n (i := 0) (a := 0) rfl rfl (dk_X6_isTape 4 _ rfl) ?_
                      refine J_bipush (v := 6) (by decide) (dk_X6_isTape 5 _ rfl) ?_
                      refine J_icF (tgt := 14) (by decide) (dk_X6_isTape 7 _ rfl) (jI_nle (by decide : (6 : Int32).toInt = 6) (by decide : (2 : Int32).toInt = 2) (by omega)) ?_
                      refine J_iconst (v := 1) (by decide) (dk_X6_isTape 10 _ rfl) ?_
                      refine J_goto (tgt := 15) (by decide) (dk_X6_isTape 11 _ rfl) ?_
                      exact J_iret rfl rfl (dk_X6_isTape 15 _ rfl) ⟨rfl, rfl⟩
                    show J _ _ _ _ _ _ _ _ _ [.int 1] _ _
                    refine J_ifT (tgt := 16) (by decide) (dk_X6_shift 11 _ rfl) (jI_ne (by decide : (1 : Int32).toInt = 1) (by decide : (0 : Int32).toInt = 0) (by omega)) ?_
                    refine J_aload_n (i := 0) (a := 0) rfl rfl (dk_X6_shift 16 _ rfl) ?_
                    refine J_getf fl_6_37 rfl rfl (dk_X6_shift 17 _ rfl) ?_
                    refine J_iload_n (i := 1) (a := 1) rfl rfl (dk_X6_shift 20 _ rfl) ?_
                    refine J_aald (by decide) rfl (by decide) rfl (dk_X6_shift 21 _ rfl) ?_
                    refine J_astore (i := 6) (by decide) (dk_X6_shift 22 _ rfl) ?_
                    show J _ _ _ _ _ _ _ _ [(6, .ref 82), (0, .ref 0), (1, .int 0), (2, .int i), (3, .int 2), (4, .int j), (5, .int n)] _ _ _
                    refine J_aload_n (i := 0) (a := 0) rfl rfl (dk_X6_shift 24 _ rfl) ?_
                    refine J_getf fl_6_37 rfl rfl (dk_X6_shift 25 _ rfl) ?_
                    refine J_iload_n (i := 3) (a := 3) rfl rfl (dk_X6_shift 28 _ rfl) ?_
                    refine J_aald (by decide) rfl (by decide) rfl (dk_X6_shift 29 _ rfl) ?_
                    refine J_astore (i := 7) (by decide) (dk_X6_shift 30 _ rfl) ?_
                    show J _ _ _ _ _ _ _ _ [(7, .ref 86), (6, .ref 82), (0, .ref 0), (1, .int 0), (2, .int i), (3, .int 2), (4, .int j), (5, .int n)] _ _ _
                    refine J_aload (i := 6) rfl (dk_X6_shift 32 _ rfl) ?_
                    refine J_getf fl_6_223 rfl rfl (dk_X6_shift 34 _ rfl) ?_
                    refine J_iconst (v := (-1)) (by decide) (dk_X6_shift 37 _ rfl) ?_
                    refine J_icT (tgt := 50) (by decide) (dk_X6_shift 38 _ rfl) (jI_eq (by decide : ((-1) : Int32).toInt = (-1)) (by decide : ((-1) : Int32).toInt = (-1)) (by omega)) ?_
                    refine J_bipush (v := (-11)) (by decide) (dk_X6_shift 50 _ rfl) ?_
                    exact J_iret rfl rfl (dk_X6_shift 52 _ rfl) ⟨rfl, rfl⟩
                  · refine jCt_of ok_X7_shift (fun _ _ => Nat.le_of_ble_eq_true rfl) (fun _ _ hq => Nat.le_of_eq (lM.trans hq.2.symm)) ?_
                    show J _ _ _ _ _ _ _ _ [(0, .ref 0), (1, .int 0), (2, .int i), (3, .int 2), (4, .int j), (5, .int n)] _ _ _
                    refine J_aload_n (i := 0) (a := 0) rfl rfl (dk_X7_shift 0 _ rfl) ?_
                    refine J_iload_n (i := 1) (a := 1) rfl rfl (dk_X7_shift 1 _ rfl) ?_
                    refine J_cV (rv := some (.int 1)) (h' := hM0) (d' := 11) (As := [.int 0]) ok_X7_isTape vi_X7_isTape cl_7_354 (n := 1) (by decide +kernel) rfl rfl rfl rfl (by decide) (by decide) (dk_X7_shift 2 _ rfl) ?_ ?_
                    · refine jCt_of ok_X7_isTape (fun _ _ => Nat.le_of_ble_eq_true rfl) (fun _ _ hq => by rw [hq.2]; first | exact Nat.le_refl _ | simp) ?_
                      show J _ _ _ _ _ _ _ _ [(0, .ref 0), (1, .int 0)] _ _ _
                      refine J_aload_n (i := 0) (a := 0) rfl rfl (dk_X7_isTape 0 _ rfl) ?_
                      refine J_iload_n (i := 1) (a := 1) rfl rfl (dk_X7_isTape 1 _ rfl) ?_
                      refine J_iconst (v := 0) (by decide) (dk_X7_isTape 2 _ rfl) ?_
                      refine J_iconst (v := 5) (by decide) (dk_X7_isTape 3 _ rfl) ?_
                      refine J_cV (rv := some (.int 1)) (h' := hM0) (d' := 10) (As := [.int 0, .int 0, .int 5]) ok_X7_in vi_X7_in cl_7_194 (n := 3) (by decide +kernel) rfl rfl rfl rfl (by decide) (by decide) (dk_X7_isTape 4 _ rfl) ?_ ?_
                      · refine jCt_of ok_X7_in (fun _ _ => Nat.le_of_ble_eq_true rfl) (fun _ _ hq => by rw [hq.2]; first | exact Nat.le_refl _ | simp) ?_
                        show J _ _ _ _ _ _ _ _ [(0, .ref 0), (1, .int 0), (2, .int 0), (3, .int 5)] _ _ _
                        refine J_iload_n (i := 1) (a := 1) rfl rfl (dk_X7_in 0 _ rfl) ?_
                        refine J_iload_n (i := 2) (a := 2) rfl rfl (dk_X7_in 1 _ rfl) ?_
                        refine J_icF (tgt := 14) (by decide) (dk_X7_in 2 _ rfl) (jI_nlt (by decide : (0 : Int32).toInt = 0) (by decide : (0 : Int32).toInt = 0) (by omega)) ?_
                        refine J_iload_n (i := 1) (a := 1) rfl rfl (dk_X7_in 5 _ rfl) ?_
                        refine J_iload_n (i := 3) (a := 3) rfl rfl (dk_X7_in 6 _ rfl) ?_
                        refine J_icF (tgt := 14) (by decide) (dk_X7_in 7 _ rfl) (jI_nlt (by decide : (5 : Int32).toInt = 5) (by decide : (0 : Int32).toInt = 0) (by omega)) ?_
                        refine J_iconst (v := 1) (by decide) (dk_X7_in 10 _ rfl) ?_
                        refine J_goto (tgt := 15) (by decide) (dk_X7_in 11 _ rfl) ?_
                        exact J_iret rfl rfl (dk_X7_in 15 _ rfl) ⟨rfl, rfl⟩
                      show J _ _ _ _ _ _ _ _ _ [.int 1] _ _
                      exact J_iret rfl rfl (dk_X7_isTape 7 _ rfl) ⟨rfl, rfl⟩
                    show J _ _ _ _ _ _ _ _ _ [.int 1] _ _
                    refine J_ifF (tgt := 16) (by decide) (dk_X7_shift 5 _ rfl) (jI_ne (by decide : (1 : Int32).toInt = 1) (by decide : (0 : Int32).toInt = 0) (by omega)) ?_
                    refine J_aload_n (i := 0) (a := 0) rfl rfl (dk_X7_shift 8 _ rfl) ?_
                    refine J_iload_n (i := 3) (a := 3) rfl rfl (dk_X7_shift 9 _ rfl) ?_
                    refine J_cV (rv := some (.int 1)) (h' := hM0) (d' := 11) (As := [.int 2]) ok_X7_isTape vi_X7_isTape cl_7_354 (n := 1) (by decide +kernel) rfl rfl rfl rfl (by decide) (by decide) (dk_X7_shift 10 _ rfl) ?_ ?_
                    · refine jCt_of ok_X7_isTape (fun _ _ => Nat.le_of_ble_eq_true rfl) (fun _ _ hq => by rw [hq.2]; first | exact Nat.le_refl _ | simp) ?_
                      show J _ _ _ _ _ _ _ _ [(0, .ref 0), (1, .int 2)] _ _ _
                      refine J_aload_n (i := 0) (a := 0) rfl rfl (dk_X7_isTape 0 _ rfl) ?_
                      refine J_iload_n (i := 1) (a := 1) rfl rfl (dk_X7_isTape 1 _ rfl) ?_
                      refine J_iconst (v := 0) (by decide) (dk_X7_isTape 2 _ rfl) ?_
                      refine J_iconst (v := 5) (by decide) (dk_X7_isTape 3 _ rfl) ?_
                      refine J_cV (rv := some (.int 1)) (h' := hM0) (d' := 10) (As := [.int 2, .int 0, .int 5]) ok_X7_in vi_X7_in cl_7_194 (n := 3) (by decide +kernel) rfl rfl rfl rfl (by decide) (by decide) (dk_X7_isTape 4 _ rfl) ?_ ?_
                      · refine jCt_of ok_X7_in (fun _ _ => Nat.le_of_ble_eq_true rfl) (fun _ _ hq => by rw [hq.2]; first | exact Nat.le_refl _ | simp) ?_
                        show J _ _ _ _ _ _ _ _ [(0, .ref 0), (1, .int 2), (2, .int 0), (3, .int 5)] _ _ _
                        refine J_iload_n (i := 1) (a := 1) rfl rfl (dk_X7_in 0 _ rfl) ?_
                        refine J_iload_n (i := 2) (a := 2) rfl rfl (dk_X7_in 1 _ rfl) ?_
                        refine J_icF (tgt := 14) (by decide) (dk_X7_in 2 _ rfl) (jI_nlt (by decide : (2 : Int32).toInt = 2) (by decide : (0 : Int32).toInt = 0) (by omega)) ?_
                        refine J_iload_n (i := 1) (a := 1) rfl rfl (dk_X7_in 5 _ rfl) ?_
                        refine J_iload_n (i := 3) (a := 3) rfl rfl (dk_X7_in 6 _ rfl) ?_
                        refine J_icF (tgt := 14) (by decide) (dk_X7_in 7 _ rfl) (jI_nlt (by decide : (5 : Int32).toInt = 5) (by decide : (2 : Int32).toInt = 2) (by omega)) ?_
                        refine J_iconst (v := 1) (by decide) (dk_X7_in 10 _ rfl) ?_
                        refine J_goto (tgt := 15) (by decide) (dk_X7_in 11 _ rfl) ?_
                        exact J_iret rfl rfl (dk_X7_in 15 _ rfl) ⟨rfl, rfl⟩
                      show J _ _ _ _ _ _ _ _ _ [.int 1] _ _
                      exact J_iret rfl rfl (dk_X7_isTape 7 _ rfl) ⟨rfl, rfl⟩
                    show J _ _ _ _ _ _ _ _ _ [.int 1] _ _
                    refine J_ifT (tgt := 18) (by decide) (dk_X7_shift 13 _ rfl) (jI_ne (by decide : (1 : Int32).toInt = 1) (by decide : (0 : Int32).toInt = 0) (by omega)) ?_
                    refine J_aload_n (i := 0) (a := 0) rfl rfl (dk_X7_shift 18 _ rfl) ?_
                    refine J_getf fl_7_181 rfl rfl (dk_X7_shift 19 _ rfl) ?_
                    refine J_iload_n (i := 1) (a := 1) rfl rfl (dk_X7_shift 22 _ rfl) ?_
                    refine J_iald rfl (by decide) rfl (dk_X7_shift 23 _ rfl) ?_
                    refine J_ifT (tgt := 36) (by decide) (dk_X7_shift 24 _ rfl) (jI_lt (by decide : ((-1) : Int32).toInt = (-1)) (by decide : (0 : Int32).toInt = 0) (by omega)) ?_
                    refine J_bipush (v := (-11)) (by decide) (dk_X7_shift 36 _ rfl) ?_
                    exact J_iret rfl rfl (dk_X7_shift 38 _ rfl) ⟨rfl, rfl⟩
                · by_cases c9 : (o : Int32).toInt = 3
                  · obtain rfl : o = 3 := jI_eq rfl (by decide) c9
                    refine ⟨(-11), ?_, ?_⟩
                    · refine jCt_of ok_X6_shift (fun _ _ => Nat.le_of_ble_eq_true rfl) (fun _ _ hq => Nat.le_of_eq (lX.trans hq.2.symm)) ?_
                      show J _ _ _ _ _ _ _ _ [(0, .ref 0), (1, .int 0), (2, .int i), (3, .int 3), (4, .int j), (5, .int n)] _ _ _
                      refine J_iload_n (i := 1) (a := 1) rfl rfl (dk_X6_shift 0 _ rfl) ?_
                      refine J_cS (rv := some (.int 1)) (h' := hN0) (d' := 11) (As := [.int 0]) ok_X6_isTape st_X6_isTape cl_6_220 rfl (n := 1) (by decide +kernel) rfl (by decide) (by decide) (dk_X6_shift 1 _ rfl) ?_ ?_
                      · refine jCt_of ok_X6_isTape (fun _ _ => Nat.le_of_ble_eq_true rfl) (fun _ _ hq => by rw [hq.2]; first | exact Nat.le_refl _ | simp) ?_
                        show J _ _ _ _ _ _ _ _ [(0, .int 0)] _ _ _
                        refine J_iload_n (i := 0) (a := 0) rfl rfl (dk_X6_isTape 0 _ rfl) ?_
                        refine J_ifF (tgt := 14) (by decide) (dk_X6_isTape 1 _ rfl) (jI_nlt (by decide : (0 : Int32).toInt = 0) (by decide : (0 : Int32).toInt = 0) (by omega)) ?_
                        refine J_iload_n (i := 0) (a := 0) rfl rfl (dk_X6_isTape 4 _ rfl) ?_
                        refine J_bipush (v := 6) (by decide) (dk_X6_isTape 5 _ rfl) ?_
                        refine J_icF (tgt := 14) (by decide) (dk_X6_isTape 7 _ rfl) (jI_nle (by decide : (6 : Int32).toInt = 6) (by decide : (0 : Int32).toInt = 0) (by omega)) ?_
                        refine J_iconst (v := 1) (by decide) (dk_X6_isTape 10 _ rfl) ?_
                        refine J_goto (tgt := 15) (by decide) (dk_X6_isTape 11 _ rfl) ?_
                        exact J_iret rfl rfl (dk_X6_isTape 15 _ rfl) ⟨rfl, rfl⟩
                      show J _ _ _ _ _ _ _ _ _ [.int 1] _ _
                      refine J_ifF (tgt := 14) (by decide) (dk_X6_shift 4 _ rfl) (jI_ne (by decide : (1 : Int32).toInt = 1) (by decide : (0 : Int32).toInt = 0) (by omega)) ?_
                      refine J_iload_n (i := 3) (a := 3) rfl rfl (dk_X6_shift 7 _ rfl) ?_
                      refine J_cS (rv := some (.int 1)) (h' := hN0) (d' := 11) (As := [.int 3]) ok_X6_isTape st_X6_isTape cl_6_220 rfl (n := 1) (by decide +kernel) rfl (by decide) (by decide) (dk_X6_shift 8 _ rfl) ?_ ?_
                      · refine jCt_of ok_X6_isTape (fun _ _ => Nat.le_of_ble_eq_true rfl) (fun _ _ hq => by rw [hq.2]; first | exact Nat.le_refl _ | simp) ?_
                        show J _ _ _ _ _ _ _ _ [(0, .int 3)] _ _ _
                        refine J_iload_n (i := 0) (a := 0) rfl rfl (dk_X6_isTape 0 _ rfl) ?_
                        refine J_ifF (tgt := 14) (by decide) (dk_X6_isTape 1 _ rfl) (jI_nlt (by decide : (3 : Int32).toInt = 3) (by decide : (0 : Int32).toInt = 0) (by omega)) ?_
                        refine J_iload_n (i := 0) (a := 0) rfl rfl (dk_X6_isTape 4 _ rfl) ?_
                        refine J_bipush (v := 6) (by decide) (dk_X6_isTape 5 _ rfl) ?_
                        refine J_icF (tgt := 14) (by decide) (dk_X6_isTape 7 _ rfl) (jI_nle (by decide : (6 : Int32).toInt = 6) (by decide : (3 : Int32).toInt = 3) (by omega)) ?_
                        refine J_iconst (v := 1) (by decide) (dk_X6_isTape 10 _ rfl) ?_
                        refine J_goto (tgt := 15) (by decide) (dk_X6_isTape 11 _ rfl) ?_
                        exact J_iret rfl rfl (dk_X6_isTape 15 _ rfl) ⟨rfl, rfl⟩
                      show J _ _ _ _ _ _ _ _ _ [.int 1] _ _
                      refine J_ifT (tgt := 16) (by decide) (dk_X6_shift 11 _ rfl) (jI_ne (by decide : (1 : Int32).toInt = 1) (by decide : (0 : Int32).toInt = 0) (by omega)) ?_
                      refine J_aload_n (i := 0) (a := 0) rfl rfl (dk_X6_shift 16 _ rfl) ?_
                      refine J_getf fl_6_37 rfl rfl (dk_X6_shift 17 _ rfl) ?_
                      refine J_iload_n (i := 1) (a := 1) rfl rfl (dk_X6_shift 20 _ rfl) ?_
                      refine J_aald (by decide) rfl (by decide) rfl (dk_X6_shift 21 _ rfl) ?_
                      refine J_astore (i := 6) (by decide) (dk_X6_shift 22 _ rfl) ?_
                      show J _ _ _ _ _ _ _ _ [(6, .ref 82), (0, .ref 0), (1, .int 0), (2, .int i), (3, .int 3), (4, .int j), (5, .int n)] _ _ _
                      refine J_aload_n (i := 0) (a := 0) rfl rfl (dk_X6_shift 24 _ rfl) ?_
                      refine J_getf fl_6_37 rfl rfl (dk_X6_shift 25 _ rfl) ?_
                      refine J_iload_n (i := 3) (a := 3) rfl rfl (dk_X6_shift 28 _ rfl) ?_
                      refine J_aald (by decide) rfl (by decide) rfl (dk_X6_shift 29 _ rfl) ?_
                      refine J_astore (i := 7) (by decide) (dk_X6_shift 30 _ rfl) ?_
                      show J _ _ _ _ _ _ _ _ [(7, .ref 88), (6, .ref 82), (0, .ref 0), (1, .int 0), (2, .int i), (3, .int 3), (4, .int j), (5, .int n)] _ _ _
                      refine J_aload (i := 6) rfl (dk_X6_shift 32 _ rfl) ?_
                      refine J_getf fl_6_223 rfl rfl (dk_X6_shift 34 _ rfl) ?_
                      refine J_iconst (v := (-1)) (by decide) (dk_X6_shift 37 _ rfl) ?_
                      refine J_icT (tgt := 50) (by decide) (dk_X6_shift 38 _ rfl) (jI_eq (by decide : ((-1) : Int32).toInt = (-1)) (by decide : ((-1) : Int32).toInt = (-1)) (by omega)) ?_
                      refine J_bipush (v := (-11)) (by decide) (dk_X6_shift 50 _ rfl) ?_
                      exact J_iret rfl rfl (dk_X6_shift 52 _ rfl) ⟨rfl, rfl⟩
                    · refine jCt_of ok_X7_shift (fun _ _ => Nat.le_of_ble_eq_true rfl) (fun _ _ hq => Nat.le_of_eq (lM.trans hq.2.symm)) ?_
                      show J _ _ _ _ _ _ _ _ [(0, .ref 0), (1, .int 0), (2, .int i), (3, .int 3), (4, .int j), (5, .int n)] _ _ _
                      refine J_aload_n (i := 0) (a := 0) rfl rfl (dk_X7_shift 0 _ rfl) ?_
                      refine J_iload_n (i := 1) (a := 1) rfl rfl (dk_X7_shift 1 _ rfl) ?_
                      refine J_cV (rv := some (.int 1)) (h' := hM0) (d' := 11) (As := [.int 0]) ok_X7_isTape vi_X7_isTape cl_7_354 (n := 1) (by decide +kernel) rfl rfl rfl rfl (by decide) (by decide) (dk_X7_shift 2 _ rfl) ?_ ?_
                      · refine jCt_of ok_X7_isTape (fun _ _ => Nat.le_of_ble_eq_true rfl) (fun _ _ hq => by rw [hq.2]; first | exact Nat.le_refl _ | simp) ?_
                        show J _ _ _ _ _ _ _ _ [(0, .ref 0), (1, .int 0)] _ _ _
                        refine J_aload_n (i := 0) (a := 0) rfl rfl (dk_X7_isTape 0 _ rfl) ?_
                        refine J_iload_n (i := 1) (a := 1) rfl rfl (dk_X7_isTape 1 _ rfl) ?_
                        refine J_iconst (v := 0) (by decide) (dk_X7_isTape 2 _ rfl) ?_
                        refine J_iconst (v := 5) (by decide) (dk_X7_isTape 3 _ rfl) ?_
                        refine J_cV (rv := some (.int 1)) (h' := hM0) (d' := 10) (As := [.int 0, .int 0, .int 5]) ok_X7_in vi_X7_in cl_7_194 (n := 3) (by decide +kernel) rfl rfl rfl rfl (by decide) (by decide) (dk_X7_isTape 4 _ rfl) ?_ ?_
                        · refine jCt_of ok_X7_in (fun _ _ => Nat.le_of_ble_eq_true rfl) (fun _ _ hq => by rw [hq.2]; first | exact Nat.le_refl _ | simp) ?_
                          show J _ _ _ _ _ _ _ _ [(0, .ref 0), (1, .int 0), (2, .int 0), (3, .int 5)] _ _ _
                          refine J_iload_n (i := 1) (a := 1) rfl rfl (dk_X7_in 0 _ rfl) ?_
                          refine J_iload_n (i := 2) (a := 2) rfl rfl (dk_X7_in 1 _ rfl) ?_
                          refine J_icF (tgt := 14) (by decide) (dk_X7_in 2 _ rfl) (jI_nlt (by decide : (0 : Int32).toInt = 0) (by decide : (0 : Int32).toInt = 0) (by omega)) ?_
                          refine J_iload_n (i := 1) (a := 1) rfl rfl (dk_X7_in 5 _ rfl) ?_
                          refine J_iload_n (i := 3) (a := 3) rfl rfl (dk_X7_in 6 _ rfl) ?_
                          refine J_icF (tgt := 14) (by decide) (dk_X7_in 7 _ rfl) (jI_nlt (by decide : (5 : Int32).toInt = 5) (by decide : (0 : Int32).toInt = 0) (by omega)) ?_
                          refine J_iconst (v := 1) (by decide) (dk_X7_in 10 _ rfl) ?_
                          refine J_goto (tgt := 15) (by decide) (dk_X7_in 11 _ rfl) ?_
                          exact J_iret rfl rfl (dk_X7_in 15 _ rfl) ⟨rfl, rfl⟩
                        show J _ _ _ _ _ _ _ _ _ [.int 1] _ _
                        exact J_iret rfl rfl (dk_X7_isTape 7 _ rfl) ⟨rfl, rfl⟩
                      show J _ _ _ _ _ _ _ _ _ [.int 1] _ _
                      refine J_ifF (tgt := 16) (by decide) (dk_X7_shift 5 _ rfl) (jI_ne (by decide : (1 : Int32).toInt = 1) (by decide : (0 : Int32).toInt = 0) (by omega)) ?_
                      refine J_aload_n (i := 0) (a := 0) rfl rfl (dk_X7_shift 8 _ rfl) ?_
                      refine J_iload_n (i := 3) (a := 3) rfl rfl (dk_X7_shift 9 _ rfl) ?_
                      refine J_cV (rv := some (.int 1)) (h' := hM0) (d' := 11) (As := [.int 3]) ok_X7_isTape vi_X7_isTape cl_7_354 (n := 1) (by decide +kernel) rfl rfl rfl rfl (by decide) (by decide) (dk_X7_shift 10 _ rfl) ?_ ?_
                      · refine jCt_of ok_X7_isTape (fun _ _ => Nat.le_of_ble_eq_true rfl) (fun _ _ hq => by rw [hq.2]; first | exact Nat.le_refl _ | simp) ?_
                        show J _ _ _ _ _ _ _ _ [(0, .ref 0), (1, .int 3)] _ _ _
                        refine J_aload_n (i := 0) (a := 0) rfl rfl (dk_X7_isTape 0 _ rfl) ?_
                        refine J_iload_n (i := 1) (a := 1) rfl rfl (dk_X7_isTape 1 _ rfl) ?_
                        refine J_iconst (v := 0) (by decide) (dk_X7_isTape 2 _ rfl) ?_
                        refine J_iconst (v := 5) (by decide) (dk_X7_isTape 3 _ rfl) ?_
                        refine J_cV (rv := some (.int 1)) (h' := hM0) (d' := 10) (As := [.int 3, .int 0, .int 5]) ok_X7_in vi_X7_in cl_7_194 (n := 3) (by decide +kernel) rfl rfl rfl rfl (by decide) (by decide) (dk_X7_isTape 4 _ rfl) ?_ ?_
                        · refine jCt_of ok_X7_in (fun _ _ => Nat.le_of_ble_eq_true rfl) (fun _ _ hq => by rw [hq.2]; first | exact Nat.le_refl _ | simp) ?_
                          show J _ _ _ _ _ _ _ _ [(0, .ref 0), (1, .int 3), (2, .int 0), (3, .int 5)] _ _ _
                          refine J_iload_n (i := 1) (a := 1) rfl rfl (dk_X7_in 0 _ rfl) ?_
                          refine J_iload_n (i := 2) (a := 2) rfl rfl (dk_X7_in 1 _ rfl) ?_
                          refine J_icF (tgt := 14) (by decide) (dk_X7_in 2 _ rfl) (jI_nlt (by decide : (3 : Int32).toInt = 3) (by decide : (0 : Int32).toInt = 0) (by omega)) ?_
                          refine J_iload_n (i := 1) (a := 1) rfl rfl (dk_X7_in 5 _ rfl) ?_
                          refine J_iload_n (i := 3) (a := 3) rfl rfl (dk_X7_in 6 _ rfl) ?_
                          refine J_icF (tgt := 14) (by decide) (dk_X7_in 7 _ rfl) (jI_nlt (by decide : (5 : Int32).toInt = 5) (by decide : (3 : Int32).toInt = 3) (by omega)) ?_
                          refine J_iconst (v := 1) (by decide) (dk_X7_in 10 _ rfl) ?_
                          refine J_goto (tgt := 15) (by decide) (dk_X7_in 11 _ rfl) ?_
                          exact J_iret rfl rfl (dk_X7_in 15 _ rfl) ⟨rfl, rfl⟩
                        show J _ _ _ _ _ _ _ _ _ [.int 1] _ _
                        exact J_iret rfl rfl (dk_X7_isTape 7 _ rfl) ⟨rfl, rfl⟩
                      show J _ _ _ _ _ _ _ _ _ [.int 1] _ _
                      refine J_ifT (tgt := 18) (by decide) (dk_X7_shift 13 _ rfl) (jI_ne (by decide : (1 : Int32).toInt = 1) (by decide : (0 : Int32).toInt = 0) (by omega)) ?_
                      refine J_aload_n (i := 0) (a := 0) rfl rfl (dk_X7_shift 18 _ rfl) ?_
                      refine J_getf fl_7_181 rfl rfl (dk_X7_shift 19 _ rfl) ?_
                      refine J_iload_n (i := 1) (a := 1) rfl rfl (dk_X7_shift 22 _ rfl) ?_
                      refine J_iald rfl (by decide) rfl (dk_X7_shift 23 _ rfl) ?_
                      refine J_ifT (tgt := 36) (by decide) (dk_X7_shift 24 _ rfl) (jI_lt (by decide : ((-1) : Int32).toInt = (-1)) (by decide : (0 : Int32).toInt = 0) (by omega)) ?_
                      refine J_bipush (v := (-11)) (by decide) (dk_X7_shift 36 _ rfl) ?_
                      exact J_iret rfl rfl (dk_X7_shift 38 _ rfl) ⟨rfl, rfl⟩
                  · by_cases c10 : (o : Int32).toInt = 4
                    · obtain rfl : o = 4 := jI_eq rfl (by decide) c10
                      refine ⟨(-11), ?_, ?_⟩
                      · refine jCt_of ok_X6_shift (fun _ _ => Nat.le_of_ble_eq_true rfl) (fun _ _ hq => Nat.le_of_eq (lX.trans hq.2.symm)) ?_
                        show J _ _ _ _ _ _ _ _ [(0, .ref 0), (1, .int 0), (2, .int i), (3, .int 4), (4, .int j), (5, .int n)] _ _ _
                        refine J_iload_n (i := 1) (a := 1) rfl rfl (dk_X6_shift 0 _ rfl) ?_
                        refine J_cS (rv := some (.int 1)) (h' := hN0) (d' := 11) (As := [.int 0]) ok_X6_isTape st_X6_isTape cl_6_220 rfl (n := 1) (by decide +kernel) rfl (by decide) (by decide) (dk_X6_shift 1 _ rfl) ?_ ?_
                        · refine jCt_of ok_X6_isTape (fun _ _ => Nat.le_of_ble_eq_true rfl) (fun _ _ hq => by rw [hq.2]; first | exact Nat.le_refl _ | simp) ?_
                          show J _ _ _ _ _ _ _ _ [(0, .int 0)] _ _ _
                          refine J_iload_n (i := 0) (a := 0) rfl rfl (dk_X6_isTape 0 _ rfl) ?_
                          refine J_ifF (tgt := 14) (by decide) (dk_X6_isTape 1 _ rfl) (jI_nlt (by decide : (0 : Int32).toInt = 0) (by decide : (0 : Int32).toInt = 0) (by omega)) ?_
                          refine J_iload_n (i := 0) (a := 0) rfl rfl (dk_X6_isTape 4 _ rfl) ?_
                          refine J_bipush (v := 6) (by decide) (dk_X6_isTape 5 _ rfl) ?_
                          refine J_icF (tgt := 14) (by decide) (dk_X6_isTape 7 _ rfl) (jI_nle (by decide : (6 : Int32).toInt = 6) (by decide : (0 : Int32).toInt = 0) (by omega)) ?_
                          refine J_iconst (v := 1) (by decide) (dk_X6_isTape 10 _ rfl) ?_
                          refine J_goto (tgt := 15) (by decide) (dk_X6_isTape 11 _ rfl) ?_
                          exact J_iret rfl rfl (dk_X6_isTape 15 _ rfl) ⟨rfl, rfl⟩
                        show J _ _ _ _ _ _ _ _ _ [.int 1] _ _
                        refine J_ifF (tgt := 14) (by decide) (dk_X6_shift 4 _ rfl) (jI_ne (by decide : (1 : Int32).toInt = 1) (by decide : (0 : Int32).toInt = 0) (by omega)) ?_
                        refine J_iload_n (i := 3) (a := 3) rfl rfl (dk_X6_shift 7 _ rfl) ?_
                        refine J_cS (rv := some (.int 1)) (h' := hN0) (d' := 11) (As := [.int 4]) ok_X6_isTape st_X6_isTape cl_6_220 rfl (n := 1) (by decide +kernel) rfl (by decide) (by decide) (dk_X6_shift 8 _ rfl) ?_ ?_
                        · refine jCt_of ok_X6_isTape (fun _ _ => Nat.le_of_ble_eq_true rfl) (fun _ _ hq => by rw [hq.2]; first | exact Nat.le_refl _ | simp) ?_
                          show J _ _ _ _ _ _ _ _ [(0, .int 4)] _ _ _
                          refine J_iload_n (i := 0) (a := 0) rfl rfl (dk_X6_isTape 0 _ rfl) ?_
                          refine J_ifF (tgt := 14) (by decide) (dk_X6_isTape 1 _ rfl) (jI_nlt (by decide : (4 : Int32).toInt = 4) (by decide : (0 : Int32).toInt = 0) (by omega)) ?_
                          refine J_iload_n (i := 0) (a := 0) rfl rfl (dk_X6_isTape 4 _ rfl) ?_
                          refine J_bipush (v := 6) (by decide) (dk_X6_isTape 5 _ rfl) ?_
                          refine J_icF (tgt := 14) (by decide) (dk_X6_isTape 7 _ rfl) (jI_nle (by decide : (6 : Int32).toInt = 6) (by decide : (4 : Int32).toInt = 4) (by omega)) ?_
                          refine J_iconst (v := 1) (by decide) (dk_X6_isTape 10 _ rfl) ?_
                          refine J_goto (tgt := 15) (by decide) (dk_X6_isTape 11 _ rfl) ?_
                          exact J_iret rfl rfl (dk_X6_isTape 15 _ rfl) ⟨rfl, rfl⟩
                        show J _ _ _ _ _ _ _ _ _ [.int 1] _ _
                        refine J_ifT (tgt := 16) (by decide) (dk_X6_shift 11 _ rfl) (jI_ne (by decide : (1 : Int32).toInt = 1) (by decide : (0 : Int32).toInt = 0) (by omega)) ?_
                        refine J_aload_n (i := 0) (a := 0) rfl rfl (dk_X6_shift 16 _ rfl) ?_
                        refine J_getf fl_6_37 rfl rfl (dk_X6_shift 17 _ rfl) ?_
                        refine J_iload_n (i := 1) (a := 1) rfl rfl (dk_X6_shift 20 _ rfl) ?_
                        refine J_aald (by decide) rfl (by decide) rfl (dk_X6_shift 21 _ rfl) ?_
                        refine J_astore (i := 6) (by decide) (dk_X6_shift 22 _ rfl) ?_
                        show J _ _ _ _ _ _ _ _ [(6, .ref 82), (0, .ref 0), (1, .int 0), (2, .int i), (3, .int 4), (4, .int j), (5, .int n)] _ _ _
                        refine J_aload_n (i := 0) (a := 0) rfl rfl (dk_X6_shift 24 _ rfl) ?_
                        refine J_getf fl_6_37 rfl rfl (dk_X6_shift 25 _ rfl) ?_
                        refine J_iload_n (i := 3) (a := 3) rfl rfl (dk_X6_shift 28 _ rfl) ?_
                        refine J_aald (by decide) rfl (by decide) rfl (dk_X6_shift 29 _ rfl) ?_
                        refine J_astore (i := 7) (by decide) (dk_X6_shift 30 _ rfl) ?_
                        show J _ _ _ _ _ _ _ _ [(7, .ref 90), (6, .ref 82), (0, .ref 0), (1, .int 0), (2, .int i), (3, .int 4), (4, .int j), (5, .int n)] _ _ _
                        refine J_aload (i := 6) rfl (dk_X6_shift 32 _ rfl) ?_
                        refine J_getf fl_6_223 rfl rfl (dk_X6_shift 34 _ rfl) ?_
                        refine J_iconst (v := (-1)) (by decide) (dk_X6_shift 37 _ rfl) ?_
                        refine J_icT (tgt := 50) (by decide) (dk_X6_shift 38 _ rfl) (jI_eq (by decide : ((-1) : Int32).toInt = (-1)) (by decide : ((-1) : Int32).toInt = (-1)) (by omega)) ?_
                        refine J_bipush (v := (-11)) (by decide) (dk_X6_shift 50 _ rfl) ?_
                        exact J_iret rfl rfl (dk_X6_shift 52 _ rfl) ⟨rfl, rfl⟩
                      · refine jCt_of ok_X7_shift (fun _ _ => Nat.le_of_ble_eq_true rfl) (fun _ _ hq => Nat.le_of_eq (lM.trans hq.2.symm)) ?_
                        show J _ _ _ _ _ _ _ _ [(0, .ref 0), (1, .int 0), (2, .int i), (3, .int 4), (4, .int j), (5, .int n)] _ _ _
                        refine J_aload_n (i := 0) (a := 0) rfl rfl (dk_X7_shift 0 _ rfl) ?_
                        refine J_iload_n (i := 1) (a := 1) rfl rfl (dk_X7_shift 1 _ rfl) ?_
                        refine J_cV (rv := some (.int 1)) (h' := hM0) (d' := 11) (As := [.int 0]) ok_X7_isTape vi_X7_isTape cl_7_354 (n := 1) (by decide +kernel) rfl rfl rfl rfl (by decide) (by decide) (dk_X7_shift 2 _ rfl) ?_ ?_
                        · refine jCt_of ok_X7_isTape (fun _ _ => Nat.le_of_ble_eq_true rfl) (fun _ _ hq => by rw [hq.2]; first | exact Nat.le_refl _ | simp) ?_
                          show J _ _ _ _ _ _ _ _ [(0, .ref 0), (1, .int 0)] _ _ _
                          refine J_aload_n (i := 0) (a := 0) rfl rfl (dk_X7_isTape 0 _ rfl) ?_
                          refine J_iload_n (i := 1) (a := 1) rfl rfl (dk_X7_isTape 1 _ rfl) ?_
                          refine J_iconst (v := 0) (by decide) (dk_X7_isTape 2 _ rfl) ?_
                          refine J_iconst (v := 5) (by decide) (dk_X7_isTape 3 _ rfl) ?_
                          refine J_cV (rv := some (.int 1)) (h' := hM0) (d' := 10) (As := [.int 0, .int 0, .int 5]) ok_X7_in vi_X7_in cl_7_194 (n := 3) (by decide +kernel) rfl rfl rfl rfl (by decide) (by decide) (dk_X7_isTape 4 _ rfl) ?_ ?_
                          · refine jCt_of ok_X7_in (fun _ _ => Nat.le_of_ble_eq_true rfl) (fun _ _ hq => by rw [hq.2]; first | exact Nat.le_refl _ | simp) ?_
                            show J _ _ _ _ _ _ _ _ [(0, .ref 0), (1, .int 0), (2, .int 0), (3, .int 5)] _ _ _
                            refine J_iload_n (i := 1) (a := 1) rfl rfl (dk_X7_in 0 _ rfl) ?_
                            refine J_iload_n (i := 2) (a := 2) rfl rfl (dk_X7_in 1 _ rfl) ?_
                            refine J_icF (tgt := 14) (by decide) (dk_X7_in 2 _ rfl) (jI_nlt (by decide : (0 : Int32).toInt = 0) (by decide : (0 : Int32).toInt = 0) (by omega)) ?_
                            refine J_iload_n (i := 1) (a := 1) rfl rfl (dk_X7_in 5 _ rfl) ?_
                            refine J_iload_n (i := 3) (a := 3) rfl rfl (dk_X7_in 6 _ rfl) ?_
                            refine J_icF (tgt := 14) (by decide) (dk_X7_in 7 _ rfl) (jI_nlt (by decide : (5 : Int32).toInt = 5) (by decide : (0 : Int32).toInt = 0) (by omega)) ?_
                            refine J_iconst (v := 1) (by decide) (dk_X7_in 10 _ rfl) ?_
                            refine J_goto (tgt := 15) (by decide) (dk_X7_in 11 _ rfl) ?_
                            exact J_iret rfl rfl (dk_X7_in 15 _ rfl) ⟨rfl, rfl⟩
                          show J _ _ _ _ _ _ _ _ _ [.int 1] _ _
                          exact J_iret rfl rfl (dk_X7_isTape 7 _ rfl) ⟨rfl, rfl⟩
                        show J _ _ _ _ _ _ _ _ _ [.int 1] _ _
                        refine J_ifF (tgt := 16) (by decide) (dk_X7_shift 5 _ rfl) (jI_ne (by decide : (1 : Int32).toInt = 1) (by decide : (0 : Int32).toInt = 0) (by omega)) ?_
                        refine J_aload_n (i := 0) (a := 0) rfl rfl (dk_X7_shift 8 _ rfl) ?_
                        refine J_iload_n (i := 3) (a := 3) rfl rfl (dk_X7_shift 9 _ rfl) ?_
                        refine J_cV (rv := some (.int 1)) (h' := hM0) (d' := 11) (As := [.int 4]) ok_X7_isTape vi_X7_isTape cl_7_354 (n := 1) (by decide +kernel) rfl rfl rfl rfl (by decide) (by decide) (dk_X7_shift 10 _ rfl) ?_ ?_
                        · refine jCt_of ok_X7_isTape (fun _ _ => Nat.le_of_ble_eq_true rfl) (fun _ _ hq => by rw [hq.2]; first | exact Nat.le_refl _ | simp) ?_
                          show J _ _ _ _ _ _ _ _ [(0, .ref 0), (1, .int 4)] _ _ _
                          refine J_aload_n (i := 0) (a := 0) rfl rfl (dk_X7_isTape 0 _ rfl) ?_
                          refine J_iload_n (i := 1) (a := 1) rfl rfl (dk_X7_isTape 1 _ rfl) ?_
                          refine J_iconst (v := 0) (by decide) (dk_X7_isTape 2 _ rfl) ?_
                          refine J_iconst (v := 5) (by decide) (dk_X7_isTape 3 _ rfl) ?_
                          refine J_cV (rv := some (.int 1)) (h' := hM0) (d' := 10) (As := [.int 4, .int 0, .int 5]) ok_X7_in vi_X7_in cl_7_194 (n := 3) (by decide +kernel) rfl rfl rfl rfl (by decide) (by decide) (dk_X7_isTape 4 _ rfl) ?_ ?_
                          · refine jCt_of ok_X7_in (fun _ _ => Nat.le_of_ble_eq_true rfl) (fun _ _ hq => by rw [hq.2]; first | exact Nat.le_refl _ | simp) ?_
                            show J _ _ _ _ _ _ _ _ [(0, .ref 0), (1, .int 4), (2, .int 0), (3, .int 5)] _ _ _
                            refine J_iload_n (i := 1) (a := 1) rfl rfl (dk_X7_in 0 _ rfl) ?_
                            refine J_iload_n (i := 2) (a := 2) rfl rfl (dk_X7_in 1 _ rfl) ?_
                            refine J_icF (tgt := 14) (by decide) (dk_X7_in 2 _ rfl) (jI_nlt (by decide : (4 : Int32).toInt = 4) (by decide : (0 : Int32).toInt = 0) (by omega)) ?_
                            refine J_iload_n (i := 1) (a := 1) rfl rfl (dk_X7_in 5 _ rfl) ?_
                            refine J_iload_n (i := 3) (a := 3) rfl rfl (dk_X7_in 6 _ rfl) ?_
                            refine J_icF (tgt := 14) (by decide) (dk_X7_in 7 _ rfl) (jI_nlt (by decide : (5 : Int32).toInt = 5) (by decide : (4 : Int32).toInt = 4) (by omega)) ?_
                            refine J_iconst (v := 1) (by decide) (dk_X7_in 10 _ rfl) ?_
                            refine J_goto (tgt := 15) (by decide) (dk_X7_in 11 _ rfl) ?_
                            exact J_iret rfl rfl (dk_X7_in 15 _ rfl) ⟨rfl, rfl⟩
                          show J _ _ _ _ _ _ _ _ _ [.int 1] _ _
                          exact J_iret rfl rfl (dk_X7_isTape 7 _ rfl) ⟨rfl, rfl⟩
                        show J _ _ _ _ _ _ _ _ _ [.int 1] _ _
                        refine J_ifT (tgt := 18) (by decide) (dk_X7_shift 13 _ rfl) (jI_ne (by decide : (1 : Int32).toInt = 1) (by decide : (0 : Int32).toInt = 0) (by omega)) ?_
                        refine J_aload_n (i := 0) (a := 0) rfl rfl (dk_X7_shift 18 _ rfl) ?_
                        refine J_getf fl_7_181 rfl rfl (dk_X7_shift 19 _ rfl) ?_
                        refine J_iload_n (i := 1) (a := 1) rfl rfl (dk_X7_shift 22 _ rfl) ?_
                        refine J_iald rfl (by decide) rfl (dk_X7_shift 23 _ rfl) ?_
                        refine J_ifT (tgt := 36) (by decide) (dk_X7_shift 24 _ rfl) (jI_lt (by decide : ((-1) : Int32).toInt = (-1)) (by decide : (0 : Int32).toInt = 0) (by omega)) ?_
                        refine J_bipush (v := (-11)) (by decide) (dk_X7_shift 36 _ rfl) ?_
                        exact J_iret rfl rfl (dk_X7_shift 38 _ rfl) ⟨rfl, rfl⟩
                    · obtain rfl : o = 5 := jI_eq rfl (by decide) (by omega : (o : Int32).toInt = 5)
                      refine ⟨(-11), ?_, ?_⟩
                      · refine jCt_of ok_X6_shift (fun _ _ => Nat.le_of_ble_eq_true rfl) (fun _ _ hq => Nat.le_of_eq (lX.trans hq.2.symm)) ?_
                        show J _ _ _ _ _ _ _ _ [(0, .ref 0), (1, .int 0), (2, .int i), (3, .int 5), (4, .int j), (5, .int n)] _ _ _
                        refine J_iload_n (i := 1) (a := 1) rfl rfl (dk_X6_shift 0 _ rfl) ?_
                        refine J_cS (rv := some (.int 1)) (h' := hN0) (d' := 11) (As := [.int 0]) ok_X6_isTape st_X6_isTape cl_6_220 rfl (n := 1) (by decide +kernel) rfl (by decide) (by decide) (dk_X6_shift 1 _ rfl) ?_ ?_
                        · refine jCt_of ok_X6_isTape (fun _ _ => Nat.le_of_ble_eq_true rfl) (fun _ _ hq => by rw [hq.2]; first | exact Nat.le_refl _ | simp) ?_
                          show J _ _ _ _ _ _ _ _ [(0, .int 0)] _ _ _
                          refine J_iload_n (i := 0) (a := 0) rfl rfl (dk_X6_isTape 0 _ rfl) ?_
                          refine J_ifF (tgt := 14) (by decide) (dk_X6_isTape 1 _ rfl) (jI_nlt (by decide : (0 : Int32).toInt = 0) (by decide : (0 : Int32).toInt = 0) (by omega)) ?_
                          refine J_iload_n (i := 0) (a := 0) rfl rfl (dk_X6_isTape 4 _ rfl) ?_
                          refine J_bipush (v := 6) (by decide) (dk_X6_isTape 5 _ rfl) ?_
                          refine J_icF (tgt := 14) (by decide) (dk_X6_isTape 7 _ rfl) (jI_nle (by decide : (6 : Int32).toInt = 6) (by decide : (0 : Int32).toInt = 0) (by omega)) ?_
                          refine J_iconst (v := 1) (by decide) (dk_X6_isTape 10 _ rfl) ?_
                          refine J_goto (tgt := 15) (by decide) (dk_X6_isTape 11 _ rfl) ?_
                          exact J_iret rfl rfl (dk_X6_isTape 15 _ rfl) ⟨rfl, rfl⟩
                        show J _ _ _ _ _ _ _ _ _ [.int 1] _ _
                        refine J_ifF (tgt := 14) (by decide) (dk_X6_shift 4 _ rfl) (jI_ne (by decide : (1 : Int32).toInt = 1) (by decide : (0 : Int32).toInt = 0) (by omega)) ?_
                        refine J_iload_n (i := 3) (a := 3) rfl rfl (dk_X6_shift 7 _ rfl) ?_
                        refine J_cS (rv := some (.int 1)) (h' := hN0) (d' := 11) (As := [.int 5]) ok_X6_isTape st_X6_isTape cl_6_220 rfl (n := 1) (by decide +kernel) rfl (by decide) (by decide) (dk_X6_shift 8 _ rfl) ?_ ?_
                        · refine jCt_of ok_X6_isTape (fun _ _ => Nat.le_of_ble_eq_true rfl) (fun _ _ hq => by rw [hq.2]; first | exact Nat.le_refl _ | simp) ?_
                          show J _ _ _ _ _ _ _ _ [(0, .int 5)] _ _ _
                          refine J_iload_n (i := 0) (a := 0) rfl rfl (dk_X6_isTape 0 _ rfl) ?_
                          refine J_ifF (tgt := 14) (by decide) (dk_X6_isTape 1 _ rfl) (jI_nlt (by decide : (5 : Int32).toInt = 5) (by decide : (0 : Int32).toInt = 0) (by omega)) ?_
                          refine J_iload_n (i := 0) (a := 0) rfl rfl (dk_X6_isTape 4 _ rfl) ?_
                          refine J_bipush (v := 6) (by decide) (dk_X6_isTape 5 _ rfl) ?_
                          refine J_icF (tgt := 14) (by decide) (dk_X6_isTape 7 _ rfl) (jI_nle (by decide : (6 : Int32).toInt = 6) (by decide : (5 : Int32).toInt = 5) (by omega)) ?_
                          refine J_iconst (v := 1) (by decide) (dk_X6_isTape 10 _ rfl) ?_
                          refine J_goto (tgt := 15) (by decide) (dk_X6_isTape 11 _ rfl) ?_
                          exact J_iret rfl rfl (dk_X6_isTape 15 _ rfl) ⟨rfl, rfl⟩
                        show J _ _ _ _ _ _ _ _ _ [.int 1] _ _
                        refine J_ifT (tgt := 16) (by decide) (dk_X6_shift 11 _ rfl) (jI_ne (by decide : (1 : Int32).toInt = 1) (by decide : (0 : Int32).toInt = 0) (by omega)) ?_
                        refine J_aload_n (i := 0) (a := 0) rfl rfl (dk_X6_shift 16 _ rfl) ?_
                        refine J_getf fl_6_37 rfl rfl (dk_X6_shift 17 _ rfl) ?_
                        refine J_iload_n (i := 1) (a := 1) rfl rfl (dk_X6_shift 20 _ rfl) ?_
                        refine J_aald (by decide) rfl (by decide) rfl (dk_X6_shift 21 _ rfl) ?_
                        refine J_astore (i := 6) (by decide) (dk_X6_shift 22 _ rfl) ?_
                        show J _ _ _ _ _ _ _ _ [(6, .ref 82), (0, .ref 0), (1, .int 0), (2, .int i), (3, .int 5), (4, .int j), (5, .int n)] _ _ _
                        refine J_aload_n (i := 0) (a := 0) rfl rfl (dk_X6_shift 24 _ rfl) ?_
                        refine J_getf fl_6_37 rfl rfl (dk_X6_shift 25 _ rfl) ?_
                        refine J_iload_n (i := 3) (a := 3) rfl rfl (dk_X6_shift 28 _ rfl) ?_
                        refine J_aald (by decide) rfl (by decide) rfl (dk_X6_shift 29 _ rfl) ?_
                        refine J_astore (i := 7) (by decide) (dk_X6_shift 30 _ rfl) ?_
                        show J _ _ _ _ _ _ _ _ [(7, .ref 92), (6, .ref 82), (0, .ref 0), (1, .int 0), (2, .int i), (3, .int 5), (4, .int j), (5, .int n)] _ _ _
                        refine J_aload (i := 6) rfl (dk_X6_shift 32 _ rfl) ?_
                        refine J_getf fl_6_223 rfl rfl (dk_X6_shift 34 _ rfl) ?_
                        refine J_iconst (v := (-1)) (by decide) (dk_X6_shift 37 _ rfl) ?_
                        refine J_icT (tgt := 50) (by decide) (dk_X6_shift 38 _ rfl) (jI_eq (by decide : ((-1) : Int32).toInt = (-1)) (by decide : ((-1) : Int32).toInt = (-1)) (by omega)) ?_
                        refine J_bipush (v := (-11)) (by decide) (dk_X6_shift 50 _ rfl) ?_
                        exact J_iret rfl rfl (dk_X6_shift 52 _ rfl) ⟨rfl, rfl⟩
                      · refine jCt_of ok_X7_shift (fun _ _ => Nat.le_of_ble_eq_true rfl) (fun _ _ hq => Nat.le_of_eq (lM.trans hq.2.symm)) ?_
                        show J _ _ _ _ _ _ _ _ [(0, .ref 0), (1, .int 0), (2, .int i), (3, .int 5), (4, .int j), (5, .int n)] _ _ _
                        refine J_aload_n (i := 0) (a := 0) rfl rfl (dk_X7_shift 0 _ rfl) ?_
                        refine J_iload_n (i := 1) (a := 1) rfl rfl (dk_X7_shift 1 _ rfl) ?_
                        refine J_cV (rv := some (.int 1)) (h' := hM0) (d' := 11) (As := [.int 0]) ok_X7_isTape vi_X7_isTape cl_7_354 (n := 1) (by decide +kernel) rfl rfl rfl rfl (by decide) (by decide) (dk_X7_shift 2 _ rfl) ?_ ?_
                        · refine jCt_of ok_X7_isTape (fun _ _ => Nat.le_of_ble_eq_true rfl) (fun _ _ hq => by rw [hq.2]; first | exact Nat.le_refl _ | simp) ?_
                          show J _ _ _ _ _ _ _ _ [(0, .ref 0), (1, .int 0)] _ _ _
                          refine J_aload_n (i := 0) (a := 0) rfl rfl (dk_X7_isTape 0 _ rfl) ?_
                          refine J_iload_n (i := 1) (a := 1) rfl rfl (dk_X7_isTape 1 _ rfl) ?_
                          refine J_iconst (v := 0) (by decide) (dk_X7_isTape 2 _ rfl) ?_
                          refine J_iconst (v := 5) (by decide) (dk_X7_isTape 3 _ rfl) ?_
                          refine J_cV (rv := some (.int 1)) (h' := hM0) (d' := 10) (As := [.int 0, .int 0, .int 5]) ok_X7_in vi_X7_in cl_7_194 (n := 3) (by decide +kernel) rfl rfl rfl rfl (by decide) (by decide) (dk_X7_isTape 4 _ rfl) ?_ ?_
                          · refine jCt_of ok_X7_in (fun _ _ => Nat.le_of_ble_eq_true rfl) (fun _ _ hq => by rw [hq.2]; first | exact Nat.le_refl _ | simp) ?_
                            show J _ _ _ _ _ _ _ _ [(0, .ref 0), (1, .int 0), (2, .int 0), (3, .int 5)] _ _ _
                            refine J_iload_n (i := 1) (a := 1) rfl rfl (dk_X7_in 0 _ rfl) ?_
                            refine J_iload_n (i := 2) (a := 2) rfl rfl (dk_X7_in 1 _ rfl) ?_
                            refine J_icF (tgt := 14) (by decide) (dk_X7_in 2 _ rfl) (jI_nlt (by decide : (0 : Int32).toInt = 0) (by decide : (0 : Int32).toInt = 0) (by omega)) ?_
                            refine J_iload_n (i := 1) (a := 1) rfl rfl (dk_X7_in 5 _ rfl) ?_
                            refine J_iload_n (i := 3) (a := 3) rfl rfl (dk_X7_in 6 _ rfl) ?_
                            refine J_icF (tgt := 14) (by decide) (dk_X7_in 7 _ rfl) (jI_nlt (by decide : (5 : Int32).toInt = 5) (by decide : (0 : Int32).toInt = 0) (by omega)) ?_
                            refine J_iconst (v := 1) (by decide) (dk_X7_in 10 _ rfl) ?_
                            refine J_goto (tgt := 15) (by decide) (dk_X7_in 11 _ rfl) ?_
                            exact J_iret rfl rfl (dk_X7_in 15 _ rfl) ⟨rfl, rfl⟩
                          show J _ _ _ _ _ _ _ _ _ [.int 1] _ _
                          exact J_iret rfl rfl (dk_X7_isTape 7 _ rfl) ⟨rfl, rfl⟩
                        show J _ _ _ _ _ _ _ _ _ [.int 1] _ _
                        refine J_ifF (tgt := 16) (by decide) (dk_X7_shift 5 _ rfl) (jI_ne (by decide : (1 : Int32).toInt = 1) (by decide : (0 : Int32).toInt = 0) (by omega)) ?_
                        refine J_aload_n (i := 0) (a := 0) rfl rfl (dk_X7_shift 8 _ rfl) ?_
                        refine J_iload_n (i := 3) (a := 3) rfl rfl (dk_X7_shift 9 _ rfl) ?_
                        refine J_cV (rv := some (.int 1)) (h' := hM0) (d' := 11) (As := [.int 5]) ok_X7_isTape vi_X7_isTape cl_7_354 (n := 1) (by decide +kernel) rfl rfl rfl rfl (by decide) (by decide) (dk_X7_shift 10 _ rfl) ?_ ?_
                        · refine jCt_of ok_X7_isTape (fun _ _ => Nat.le_of_ble_eq_true rfl) (fun _ _ hq => by rw [hq.2]; first | exact Nat.le_refl _ | simp) ?_
                          show J _ _ _ _ _ _ _ _ [(0, .ref 0), (1, .int 5)] _ _ _
                          refine J_aload_n (i := 0) (a := 0) rfl rfl (dk_X7_isTape 0 _ rfl) ?_
                          refine J_iload_n (i := 1) (a := 1) rfl rfl (dk_X7_isTape 1 _ rfl) ?_
                          refine J_iconst (v := 0) (by decide) (dk_X7_isTape 2 _ rfl) ?_
                          refine J_iconst (v := 5) (by decide) (dk_X7_isTape 3 _ rfl) ?_
                          refine J_cV (rv := some (.int 1)) (h' := hM0) (d' := 10) (As := [.int 5, .int 0, .int 5]) ok_X7_in vi_X7_in cl_7_194 (n := 3) (by decide +kernel) rfl rfl rfl rfl (by decide) (by decide) (dk_X7_isTape 4 _ rfl) ?_ ?_
                          · refine jCt_of ok_X7_in (fun _ _ => Nat.le_of_ble_eq_true rfl) (fun _ _ hq => by rw [hq.2]; first | exact Nat.le_refl _ | simp) ?_
                            show J _ _ _ _ _ _ _ _ [(0, .ref 0), (1, .int 5), (2, .int 0), (3, .int 5)] _ _ _
                            refine J_iload_n (i := 1) (a := 1) rfl rfl (dk_X7_in 0 _ rfl) ?_
                            refine J_iload_n (i := 2) (a := 2) rfl rfl (dk_X7_in 1 _ rfl) ?_
                            refine J_icF (tgt := 14) (by decide) (dk_X7_in 2 _ rfl) (jI_nlt (by decide : (5 : Int32).toInt = 5) (by decide : (0 : Int32).toInt = 0) (by omega)) ?_
                            refine J_iload_n (i := 1) (a := 1) rfl rfl (dk_X7_in 5 _ rfl) ?_
                            refine J_iload_n (i := 3) (a := 3) rfl rfl (dk_X7_in 6 _ rfl) ?_
                            refine J_icF (tgt := 14) (by decide) (dk_X7_in 7 _ rfl) (jI_nlt (by decide : (5 : Int32).toInt = 5) (by decide : (5 : Int32).toInt = 5) (by omega)) ?_
                            refine J_iconst (v := 1) (by decide) (dk_X7_in 10 _ rfl) ?_
                            refine J_goto (tgt := 15) (by decide) (dk_X7_in 11 _ rfl) ?_
                            exact J_iret rfl rfl (dk_X7_in 15 _ rfl) ⟨rfl, rfl⟩
                          show J _ _ _ _ _ _ _ _ _ [.int 1] _ _
                          exact J_iret rfl rfl (dk_X7_isTape 7 _ rfl) ⟨rfl, rfl⟩
                        show J _ _ _ _ _ _ _ _ _ [.int 1] _ _
                        refine J_ifT (tgt := 18) (by decide) (dk_X7_shift 13 _ rfl) (jI_ne (by decide : (1 : Int32).toInt = 1) (by decide : (0 : Int32).toInt = 0) (by omega)) ?_
                        refine J_aload_n (i := 0) (a := 0) rfl rfl (dk_X7_shift 18 _ rfl) ?_
                        refine J_getf fl_7_181 rfl rfl (dk_X7_shift 19 _ rfl) ?_
                        refine J_iload_n (i := 1) (a := 1) rfl rfl (dk_X7_shift 22 _ rfl) ?_
                        refine J_iald rfl (by decide) rfl (dk_X7_shift 23 _ rfl) ?_
                        refine J_ifT (tgt := 36) (by decide) (dk_X7_shift 24 _ rfl) (jI_lt (by decide : ((-1) : Int32).toInt = (-1)) (by decide : (0 : Int32).toInt = 0) (by omega)) ?_
                        refine J_bipush (v := (-11)) (by decide) (dk_X7_shift 36 _ rfl) ?_
                        exact J_iret rfl rfl (dk_X7_shift 38 _ rfl) ⟨rfl, rfl⟩
          · by_cases c12 : (t : Int32).toInt = 1
            · obtain rfl : t = 1 := jI_eq rfl (by decide) c12
              by_cases c13 : (o : Int32).toInt = 0
              · obtain rfl : o = 0 := jI_eq rfl (by decide) c13
                refine ⟨(-11), ?_, ?_⟩
                · refine jCt_of ok_X6_shift (fun _ _ => Nat.le_of_ble_eq_true rfl) (fun _ _ hq => Nat.le_of_eq (lX.trans hq.2.symm)) ?_
                  show J _ _ _ _ _ _ _ _ [(0, .ref 0), (1, .int 1), (2, .int i), (3, .int 0), (4, .int j), (5, .int n)] _ _ _
                  refine J_iload_n (i := 1) (a := 1) rfl rfl (dk_X6_shift 0 _ rfl) ?_
                  refine J_cS (rv := some (.int 1)) (h' := hN0) (d' := 11) (As := [.int 1]) ok_X6_isTape st_X6_isTape cl_6_220 rfl (n := 1) (by decide +kernel) rfl (by decide) (by decide) (dk_X6_shift 1 _ rfl) ?_ ?_
                  · refine jCt_of ok_X6_isTape (fun _ _ => Nat.le_of_ble_eq_true rfl) (fun _ _ hq => by rw [hq.2]; first | exact Nat.le_refl _ | simp) ?_
                    show J _ _ _ _ _ _ _ _ [(0, .int 1)] _ _ _
                    refine J_iload_n (i := 0) (a := 0) rfl rfl (dk_X6_isTape 0 _ rfl) ?_
                    refine J_ifF (tgt := 14) (by decide) (dk_X6_isTape 1 _ rfl) (jI_nlt (by decide : (1 : Int32).toInt = 1) (by decide : (0 : Int32).toInt = 0) (by omega)) ?_
                    refine J_iload_n (i := 0) (a := 0) rfl rfl (dk_X6_isTape 4 _ rfl) ?_
                    refine J_bipush (v := 6) (by decide) (dk_X6_isTape 5 _ rfl) ?_
                    refine J_icF (tgt := 14) (by decide) (dk_X6_isTape 7 _ rfl) (jI_nle (by decide : (6 : Int32).toInt = 6) (by decide : (1 : Int32).toInt = 1) (by omega)) ?_
                    refine J_iconst (v := 1) (by decide) (dk_X6_isTape 10 _ rfl) ?_
                    refine J_goto (tgt := 15) (by decide) (dk_X6_isTape 11 _ rfl) ?_
                    exact J_iret rfl rfl (dk_X6_isTape 15 _ rfl) ⟨rfl, rfl⟩
                  show J _ _ _ _ _ _ _ _ _ [.int 1] _ _
                  refine J_ifF (tgt := 14) (by decide) (dk_X6_shift 4 _ rfl) (jI_ne (by decide : (1 : Int32).toInt = 1) (by decide : (0 : Int32).toInt = 0) (by omega)) ?_
                  refine J_iload_n (i := 3) (a := 3) rfl rfl (dk_X6_shift 7 _ rfl) ?_
                  refine J_cS (rv := some (.int 1)) (h' := hN0) (d' := 11) (As := [.int 0]) ok_X6_isTape st_X6_isTape cl_6_220 rfl (n := 1) (by decide +kernel) rfl (by decide) (by decide) (dk_X6_shift 8 _ rfl) ?_ ?_
                  · refine jCt_of ok_X6_isTape (fun _ _ => Nat.le_of_ble_eq_true rfl) (fun _ _ hq => by rw [hq.2]; first | exact Nat.le_refl _ | simp) ?_
                    show J _ _ _ _ _ _ _ _ [(0, .int 0)] _ _ _
                    refine J_iload_n (i := 0) (a := 0) rfl rfl (dk_X6_isTape 0 _ rfl) ?_
                    refine J_ifF (tgt := 14) (by decide) (dk_X6_isTape 1 _ rfl) (jI_nlt (by decide : (0 : Int32).toInt = 0) (by decide : (0 : Int32).toInt = 0) (by omega)) ?_
                    refine J_iload_n (i := 0) (a := 0) rfl rfl (dk_X6_isTape 4 _ rfl) ?_
                    refine J_bipush (v := 6) (by decide) (dk_X6_isTape 5 _ rfl) ?_
                    refine J_icF (tgt := 14) (by decide) (dk_X6_isTape 7 _ rfl) (jI_nle (by decide : (6 : Int32).toInt = 6) (by decide : (0 : Int32).toInt = 0) (by omega)) ?_
                    refine J_iconst (v := 1) (by decide) (dk_X6_isTape 10 _ rfl) ?_
                    refine J_goto (tgt := 15) (by decide) (dk_X6_isTape 11 _ rfl) ?_
                    exact J_iret rfl rfl (dk_X6_isTape 15 _ rfl) ⟨rfl, rfl⟩
                  show J _ _ _ _ _ _ _ _ _ [.int 1] _ _
                  refine J_ifT (tgt := 16) (by decide) (dk_X6_shift 11 _ rfl) (jI_ne (by decide : (1 : Int32).toInt = 1) (by decide : (0 : Int32).toInt = 0) (by omega)) ?_
                  refine J_aload_n (i := 0) (a := 0) rfl rfl (dk_X6_shift 16 _ rfl) ?_
                  refine J_getf fl_6_37 rfl rfl (dk_X6_shift 17 _ rfl) ?_
                  refine J_iload_n (i := 1) (a := 1) rfl rfl (dk_X6_shift 20 _ rfl) ?_
                  refine J_aald (by decide) rfl (by decide) rfl (dk_X6_shift 21 _ rfl) ?_
                  refine J_astore (i := 6) (by decide) (dk_X6_shift 22 _ rfl) ?_
                  show J _ _ _ _ _ _ _ _ [(6, .ref 84), (0, .ref 0), (1, .int 1), (2, .int i), (3, .int 0), (4, .int j), (5, .int n)] _ _ _
                  refine J_aload_n (i := 0) (a := 0) rfl rfl (dk_X6_shift 24 _ rfl) ?_
                  refine J_getf fl_6_37 rfl rfl (dk_X6_shift 25 _ rfl) ?_
                  refine J_iload_n (i := 3) (a := 3) rfl rfl (dk_X6_shift 28 _ rfl) ?_
                  refine J_aald (by decide) rfl (by decide) rfl (dk_X6_shift 29 _ rfl) ?_
                  refine J_astore (i := 7) (by decide) (dk_X6_shift 30 _ rfl) ?_
                  show J _ _ _ _ _ _ _ _ [(7, .ref 82), (6, .ref 84), (0, .ref 0), (1, .int 1), (2, .int i), (3, .int 0), (4, .int j), (5, .int n)] _ _ _
                  refine J_aload (i := 6) rfl (dk_X6_shift 32 _ rfl) ?_
                  refine J_getf fl_6_223 rfl rfl (dk_X6_shift 34 _ rfl) ?_
                  refine J_iconst (v := (-1)) (by decide) (dk_X6_shift 37 _ rfl) ?_
                  refine J_icT (tgt := 50) (by decide) (dk_X6_shift 38 _ rfl) (jI_eq (by decide : ((-1) : Int32).toInt = (-1)) (by decide : ((-1) : Int32).toInt = (-1)) (by omega)) ?_
                  refine J_bipush (v := (-11)) (by decide) (dk_X6_shift 50 _ rfl) ?_
                  exact J_iret rfl rfl (dk_X6_shift 52 _ rfl) ⟨rfl, rfl⟩
                · refine jCt_of ok_X7_shift (fun _ _ => Nat.le_of_ble_eq_true rfl) (fun _ _ hq => Nat.le_of_eq (lM.trans hq.2.symm)) ?_
                  show J _ _ _ _ _ _ _ _ [(0, .ref 0), (1, .int 1), (2, .int i), (3, .int 0), (4, .int j), (5, .int n)] _ _ _
                  refine J_aload_n (i := 0) (a := 0) rfl rfl (dk_X7_shift 0 _ rfl) ?_
                  refine J_iload_n (i := 1) (a := 1) rfl rfl (dk_X7_shift 1 _ rfl) ?_
                  refine J_cV (rv := some (.int 1)) (h' := hM0) (d' := 11) (As := [.int 1]) ok_X7_isTape vi_X7_isTape cl_7_354 (n := 1) (by decide +kernel) rfl rfl rfl rfl (by decide) (by decide) (dk_X7_shift 2 _ rfl) ?_ ?_
                  · refine jCt_of ok_X7_isTape (fun _ _ => Nat.le_of_ble_eq_true rfl) (fun _ _ hq => by rw [hq.2]; first | exact Nat.le_refl _ | simp) ?_
                    show J _ _ _ _ _ _ _ _ [(0, .ref 0), (1, .int 1)] _ _ _
                    refine J_aload_n (i := 0) (a := 0) rfl rfl (dk_X7_isTape 0 _ rfl) ?_
                    refine J_iload_n (i := 1) (a := 1) rfl rfl (dk_X7_isTape 1 _ rfl) ?_
                    refine J_iconst (v := 0) (by decide) (dk_X7_isTape 2 _ rfl) ?_
                    refine J_iconst (v := 5) (by decide) (dk_X7_isTape 3 _ rfl) ?_
                    refine J_cV (rv := some (.int 1)) (h' := hM0) (d' := 10) (As := [.int 1, .int 0, .int 5]) ok_X7_in vi_X7_in cl_7_194 (n := 3) (by decide +kernel) rfl rfl rfl rfl (by decide) (by decide) (dk_X7_isTape 4 _ rfl) ?_ ?_
                    · refine jCt_of ok_X7_in (fun _ _ => Nat.le_of_ble_eq_true rfl) (fun _ _ hq => by rw [hq.2]; first | exact Nat.le_refl _ | simp) ?_
                      show J _ _ _ _ _ _ _ _ [(0, .ref 0), (1, .int 1), (2, .int 0), (3, .int 5)] _ _ _
                      refine J_iload_n (i := 1) (a := 1) rfl rfl (dk_X7_in 0 _ rfl) ?_
                      refine J_iload_n (i := 2) (a := 2) rfl rfl (dk_X7_in 1 _ rfl) ?_
                      refine J_icF (tgt := 14) (by decide) (dk_X7_in 2 _ rfl) (jI_nlt (by decide : (1 : Int32).toInt = 1) (by decide : (0 : Int32).toInt = 0) (by omega)) ?_
                      refine J_iload_n (i := 1) (a := 1) rfl rfl (dk_X7_in 5 _ rfl) ?_
                      refine J_iload_n (i := 3) (a := 3) rfl rfl (dk_X7_in 6 _ rfl) ?_
                      refine J_icF (tgt := 14) (by decide) (dk_X7_in 7 _ rfl) (jI_nlt (by decide : (5 : Int32).toInt = 5) (by decide : (1 : Int32).toInt = 1) (by omega)) ?_
                      refine J_iconst (v := 1) (by decide) (dk_X7_in 10 _ rfl) ?_
                      refine J_goto (tgt := 15) (by decide) (dk_X7_in 11 _ rfl) ?_
                      exact J_iret rfl rfl (dk_X7_in 15 _ rfl) ⟨rfl, rfl⟩
                    show J _ _ _ _ _ _ _ _ _ [.int 1] _ _
                    exact J_iret rfl rfl (dk_X7_isTape 7 _ rfl) ⟨rfl, rfl⟩
                  show J _ _ _ _ _ _ _ _ _ [.int 1] _ _
                  refine J_ifF (tgt := 16) (by decide) (dk_X7_shift 5 _ rfl) (jI_ne (by decide : (1 : Int32).toInt = 1) (by decide : (0 : Int32).toInt = 0) (by omega)) ?_
                  refine J_aload_n (i := 0) (a := 0) rfl rfl (dk_X7_shift 8 _ rfl) ?_
                  refine J_iload_n (i := 3) (a := 3) rfl rfl (dk_X7_shift 9 _ rfl) ?_
                  refine J_cV (rv := some (.int 1)) (h' := hM0) (d' := 11) (As := [.int 0]) ok_X7_isTape vi_X7_isTape cl_7_354 (n := 1) (by decide +kernel) rfl rfl rfl rfl (by decide) (by decide) (dk_X7_shift 10 _ rfl) ?_ ?_
                  · refine jCt_of ok_X7_isTape (fun _ _ => Nat.le_of_ble_eq_true rfl) (fun _ _ hq => by rw [hq.2]; first | exact Nat.le_refl _ | simp) ?_
                    show J _ _ _ _ _ _ _ _ [(0, .ref 0), (1, .int 0)] _ _ _
                    refine J_aload_n (i := 0) (a := 0) rfl rfl (dk_X7_isTape 0 _ rfl) ?_
                    refine J_iload_n (i := 1) (a := 1) rfl rfl (dk_X7_isTape 1 _ rfl) ?_
                    refine J_iconst (v := 0) (by decide) (dk_X7_isTape 2 _ rfl) ?_
                    refine J_iconst (v := 5) (by decide) (dk_X7_isTape 3 _ rfl) ?_
                    refine J_cV (rv := some (.int 1)) (h' := hM0) (d' := 10) (As := [.int 0, .int 0, .int 5]) ok_X7_in vi_X7_in cl_7_194 (n := 3) (by decide +kernel) rfl rfl rfl rfl (by decide) (by decide) (dk_X7_isTape 4 _ rfl) ?_ ?_
                    · refine jCt_of ok_X7_in (fun _ _ => Nat.le_of_ble_eq_true rfl) (fun _ _ hq => by rw [hq.2]; first | exact Nat.le_refl _ | simp) ?_
                      show J _ _ _ _ _ _ _ _ [(0, .ref 0), (1, .int 0), (2, .int 0), (3, .int 5)] _ _ _
                      refine J_iload_n (i := 1) (a := 1) rfl rfl (dk_X7_in 0 _ rfl) ?_
                      refine J_iload_n (i := 2) (a := 2) rfl rfl (dk_X7_in 1 _ rfl) ?_
                      refine J_icF (tgt := 14) (by decide) (dk_X7_in 2 _ rfl) (jI_nlt (by decide : (0 : Int32).toInt = 0) (by decide : (0 : Int32).toInt = 0) (by omega)) ?_
                      refine J_iload_n (i := 1) (a := 1) rfl rfl (dk_X7_in 5 _ rfl) ?_
                      refine J_iload_n (i := 3) (a := 3) rfl rfl (dk_X7_in 6 _ rfl) ?_
                      refine J_icF (tgt := 14) (by decide) (dk_X7_in 7 _ rfl) (jI_nlt (by decide : (5 : Int32).toInt = 5) (by decide : (0 : Int32).toInt = 0) (by omega)) ?_
                      refine J_iconst (v := 1) (by decide) (dk_X7_in 10 _ rfl) ?_
                      refine J_goto (tgt := 15) (by decide) (dk_X7_in 11 _ rfl) ?_
                      exact J_iret rfl rfl (dk_X7_in 15 _ rfl) ⟨rfl, rfl⟩
                    show J _ _ _ _ _ _ _ _ _ [.int 1] _ _
                    exact J_iret rfl rfl (dk_X7_isTape 7 _ rfl) ⟨rfl, rfl⟩
                  show J _ _ _ _ _ _ _ _ _ [.int 1] _ _
                  refine J_ifT (tgt := 18) (by decide) (dk_X7_shift 13 _ rfl) (jI_ne (by decide : (1 : Int32).toInt = 1) (by decide : (0 : Int32).toInt = 0) (by omega)) ?_
                  refine J_aload_n (i := 0) (a := 0) rfl rfl (dk_X7_shift 18 _ rfl) ?_
                  refine J_getf fl_7_181 rfl rfl (dk_X7_shift 19 _ rfl) ?_
                  refine J_iload_n (i := 1) (a := 1) rfl rfl (dk_X7_shift 22 _ rfl) ?_
                  refine J_iald rfl (by decide) rfl (dk_X7_shift 23 _ rfl) ?_
                  refine J_ifT (tgt := 36) (by decide) (dk_X7_shift 24 _ rfl) (jI_lt (by decide : ((-1) : Int32).toInt = (-1)) (by decide : (0 : Int32).toInt = 0) (by omega)) ?_
                  refine J_bipush (v := (-11)) (by decide) (dk_X7_shift 36 _ rfl) ?_
                  exact J_iret rfl rfl (dk_X7_shift 38 _ rfl) ⟨rfl, rfl⟩
              · by_cases c14 : (o : Int32).toInt = 1
                · obtain rfl : o = 1 := jI_eq rfl (by decide) c14
                  refine ⟨(-11), ?_, ?_⟩
                  · refine jCt_of ok_X6_shift (fun _ _ => Nat.le_of_ble_eq_true rfl) (fun _ _ hq => Nat.le_of_eq (lX.trans hq.2.symm)) ?_
                    show J _ _ _ _ _ _ _ _ [(0, .ref 0), (1, .int 1), (2, .int i), (3, .int 1), (4, .int j), (5, .int n)] _ _ _
                    refine J_iload_n (i := 1) (a := 1) rfl rfl (dk_X6_shift 0 _ rfl) ?_
                    refine J_cS (rv := some (.int 1)) (h' := hN0) (d' := 11) (As := [.int 1]) ok_X6_isTape st_X6_isTape cl_6_220 rfl (n := 1) (by decide +kernel) rfl (by decide) (by decide) (dk_X6_shift 1 _ rfl) ?_ ?_
                    · refine jCt_of ok_X6_isTape (fun _ _ => Nat.le_of_ble_eq_true rfl) (fun _ _ hq => by rw [hq.2]; first | exact Nat.le_refl _ | simp) ?_
                      show J _ _ _ _ _ _ _ _ [(0, .int 1)] _ _ _
                      refine J_iload_n (i := 0) (a := 0) rfl rfl (dk_X6_isTape 0 _ rfl) ?_
                      refine J_ifF (tgt := 14) (by decide) (dk_X6_isTape 1 _ rfl) (jI_nlt (by decide : (1 : Int32).toInt = 1) (by decide : (0 : Int32).toInt = 0) (by omega)) ?_
                      refine J_iload_n (i := 0) (a := 0) rfl rfl (dk_X6_isTape 4 _ rfl) ?_
                      refine J_bipush (v := 6) (by decide) (dk_X6_isTape 5 _ rfl) ?_
                      refine J_icF (tgt := 14) (by decide) (dk_X6_isTape 7 _ rfl) (jI_nle (by decide : (6 : Int32).toInt = 6) (by decide : (1 : Int32).toInt = 1) (by omega)) ?_
                      refine J_iconst (v := 1) (by decide) (dk_X6_isTape 10 _ rfl) ?_
                      refine J_goto (tgt := 15) (by decide) (dk_X6_isTape 11 _ rfl) ?_
                      exact J_iret rfl rfl (dk_X6_isTape 15 _ rfl) ⟨rfl, rfl⟩
                    show J _ _ _ _ _ _ _ _ _ [.int 1] _ _
                    refine J_ifF (tgt := 14) (by decide) (dk_X6_shift 4 _ rfl) (jI_ne (by decide : (1 : Int32).toInt = 1) (by decide : (0 : Int32).toInt = 0) (by omega)) ?_
                    refine J_iload_n (i := 3) (a := 3) rfl rfl (dk_X6_shift 7 _ rfl) ?_
                    refine J_cS (rv := some (.int 1)) (h' := hN0) (d' := 11) (As := [.int 1]) ok_X6_isTape st_X6_isTape cl_6_220 rfl (n := 1) (by decide +kernel) rfl (by decide) (by decide) (dk_X6_shift 8 _ rfl) ?_ ?_
                    · refine jCt_of ok_X6_isTape (fun _ _ => Nat.le_of_ble_eq_true rfl) (fun _ _ hq => by rw [hq.2]; first | exact Nat.le_refl _ | simp) ?_
                      show J _ _ _ _ _ _ _ _ [(0, .int 1)] _ _ _
                      refine J_iload_n (i := 0) (a := 0) rfl rfl (dk_X6_isTape 0 _ rfl) ?_
                      refine J_ifF (tgt := 14) (by decide) (dk_X6_isTape 1 _ rfl) (jI_nlt (by decide : (1 : Int32).toInt = 1) (by decide : (0 : Int32).toInt = 0) (by omega)) ?_
                      refine J_iload_n (i := 0) (a := 0) rfl rfl (dk_X6_isTape 4 _ rfl) ?_
                      refine J_bipush (v := 6) (by decide) (dk_X6_isTape 5 _ rfl) ?_
                      refine J_icF (tgt := 14) (by decide) (dk_X6_isTape 7 _ rfl) (jI_nle (by decide : (6 : Int32).toInt = 6) (by decide : (1 : Int32).toInt = 1) (by omega)) ?_
                      refine J_iconst (v := 1) (by decide) (dk_X6_isTape 10 _ rfl) ?_
                      refine J_goto (tgt := 15) (by decide) (dk_X6_isTape 11 _ rfl) ?_
                      exact J_iret rfl rfl (dk_X6_isTape 15 _ rfl) ⟨rfl, rfl⟩
                    show J _ _ _ _ _ _ _ _ _ [.int 1] _ _
                    refine J_ifT (tgt := 16) (by decide) (dk_X6_shift 11 _ rfl) (jI_ne (by decide : (1 : Int32).toInt = 1) (by decide : (0 : Int32).toInt = 0) (by omega)) ?_
                    refine J_aload_n (i := 0) (a := 0) rfl rfl (dk_X6_shift 16 _ rfl) ?_
                    refine J_getf fl_6_37 rfl rfl (dk_X6_shift 17 _ rfl) ?_
                    refine J_iload_n (i := 1) (a := 1) rfl rfl (dk_X6_shift 20 _ rfl) ?_
                    refine J_aald (by decide) rfl (by decide) rfl (dk_X6_shift 21 _ rfl) ?_
                    refine J_astore (i := 6) (by decide) (dk_X6_shift 22 _ rfl) ?_
                    show J _ _ _ _ _ _ _ _ [(6, .ref 84), (0, .ref 0), (1, .int 1), (2, .int i), (3, .int 1), (4, .int j), (5, .int n)] _ _ _
                    refine J_aload_n (i := 0) (a := 0) rfl rfl (dk_X6_shift 24 _ rfl) ?_
                    refine J_getf fl_6_37 rfl rfl (dk_X6_shift 25 _ rfl) ?_
                    refine J_iload_n (i := 3) (a := 3) rfl rfl (dk_X6_shift 28 _ rfl) ?_
                    refine J_aald (by decide) rfl (by decide) rfl (dk_X6_shift 29 _ rfl) ?_
                    refine J_astore (i := 7) (by decide) (dk_X6_shift 30 _ rfl) ?_
                    show J _ _ _ _ _ _ _ _ [(7, .ref 84), (6, .ref 84), (0, .ref 0), (1, .int 1), (2, .int i), (3, .int 1), (4, .int j), (5, .int n)] _ _ _
                    refine J_aload (i := 6) rfl (dk_X6_shift 32 _ rfl) ?_
                    refine J_getf fl_6_223 rfl rfl (dk_X6_shift 34 _ rfl) ?_
                    refine J_iconst (v := (-1)) (by decide) (dk_X6_shift 37 _ rfl) ?_
                    refine J_icT (tgt := 50) (by decide) (dk_X6_shift 38 _ rfl) (jI_eq (by decide : ((-1) : Int32).toInt = (-1)) (by decide : ((-1) : Int32).toInt = (-1)) (by omega)) ?_
                    refine J_bipush (v := (-11)) (by decide) (dk_X6_shift 50 _ rfl) ?_
                    exact J_iret rfl rfl (dk_X6_shift 52 _ rfl) ⟨rfl, rfl⟩
                  · refine jCt_of ok_X7_shift (fun _ _ => Nat.le_of_ble_eq_true rfl) (fun _ _ hq => Nat.le_of_eq (lM.trans hq.2.symm)) ?_
                    show J _ _ _ _ _ _ _ _ [(0, .ref 0), (1, .int 1), (2, .int i), (3, .int 1), (4, .int j), (5, .int n)] _ _ _
                    refine J_aload_n (i := 0) (a := 0) rfl rfl (dk_X7_shift 0 _ rfl) ?_
                    refine J_iload_n (i := 1) (a := 1) rfl rfl (dk_X7_shift 1 _ rfl) ?_
                    refine J_cV (rv := some (.int 1)) (h' := hM0) (d' := 11) (As := [.int 1]) ok_X7_isTape vi_X7_isTape cl_7_354 (n := 1) (by decide +kernel) rfl rfl rfl rfl (by decide) (by decide) (dk_X7_shift 2 _ rfl) ?_ ?_
                    · refine jCt_of ok_X7_isTape (fun _ _ => Nat.le_of_ble_eq_true rfl) (fun _ _ hq => by rw [hq.2]; first | exact Nat.le_refl _ | simp) ?_
                      show J _ _ _ _ _ _ _ _ [(0, .ref 0), (1, .int 1)] _ _ _
                      refine J_aload_n (i := 0) (a := 0) rfl rfl (dk_X7_isTape 0 _ rfl) ?_
                      refine J_iload_n (i := 1) (a := 1) rfl rfl (dk_X7_isTape 1 _ rfl) ?_
                      refine J_iconst (v := 0) (by decide) (dk_X7_isTape 2 _ rfl) ?_
                      refine J_iconst (v := 5) (by decide) (dk_X7_isTape 3 _ rfl) ?_
                      refine J_cV (rv := some (.int 1)) (h' := hM0) (d' := 10) (As := [.int 1, .int 0, .int 5]) ok_X7_in vi_X7_in cl_7_194 (n := 3) (by decide +kernel) rfl rfl rfl rfl (by decide) (by decide) (dk_X7_isTape 4 _ rfl) ?_ ?_
                      · refine jCt_of ok_X7_in (fun _ _ => Nat.le_of_ble_eq_true rfl) (fun _ _ hq => by rw [hq.2]; first | exact Nat.le_refl _ | simp) ?_
                        show J _ _ _ _ _ _ _ _ [(0, .ref 0), (1, .int 1), (2, .int 0), (3, .int 5)] _ _ _
                        refine J_iload_n (i := 1) (a := 1) rfl rfl (dk_X7_in 0 _ rfl) ?_
                        refine J_iload_n (i := 2) (a := 2) rfl rfl (dk_X7_in 1 _ rfl) ?_
                        refine J_icF (tgt := 14) (by decide) (dk_X7_in 2 _ rfl) (jI_nlt (by decide : (1 : Int32).toInt = 1) (by decide : (0 : Int32).toInt = 0) (by omega)) ?_
                        refine J_iload_n (i := 1) (a := 1) rfl rfl (dk_X7_in 5 _ rfl) ?_
                        refine J_iload_n (i := 3) (a := 3) rfl rfl (dk_X7_in 6 _ rfl) ?_
                        refine J_icF (tgt := 14) (by decide) (dk_X7_in 7 _ rfl) (jI_nlt (by decide : (5 : Int32).toInt = 5) (by decide : (1 : Int32).toInt = 1) (by omega)) ?_
                        refine J_iconst (v := 1) (by decide) (dk_X7_in 10 _ rfl) ?_
                        refine J_goto (tgt := 15) (by decide) (dk_X7_in 11 _ rfl) ?_
                        exact J_iret rfl rfl (dk_X7_in 15 _ rfl) ⟨rfl, rfl⟩
                      show J _ _ _ _ _ _ _ _ _ [.int 1] _ _
                      exact J_iret rfl rfl (dk_X7_isTape 7 _ rfl) ⟨rfl, rfl⟩
                    show J _ _ _ _ _ _ _ _ _ [.int 1] _ _
                    refine J_ifF (tgt := 16) (by decide) (dk_X7_shift 5 _ rfl) (jI_ne (by decide : (1 : Int32).toInt = 1) (by decide : (0 : Int32).toInt = 0) (by omega)) ?_
                    refine J_aload_n (i := 0) (a := 0) rfl rfl (dk_X7_shift 8 _ rfl) ?_
                    refine J_iload_n (i := 3) (a := 3) rfl rfl (dk_X7_shift 9 _ rfl) ?_
                    refine J_cV (rv := some (.int 1)) (h' := hM0) (d' := 11) (As := [.int 1]) ok_X7_isTape vi_X7_isTape cl_7_354 (n := 1) (by decide +kernel) rfl rfl rfl rfl (by decide) (by decide) (dk_X7_shift 10 _ rfl) ?_ ?_
                    · refine jCt_of ok_X7_isTape (fun _ _ => Nat.le_of_ble_eq_true rfl) (fun _ _ hq => by rw [hq.2]; first | exact Nat.le_refl _ | simp) ?_
                      show J _ _ _ _ _ _ _ _ [(0, .ref 0), (1, .int 1)] _ _ _
                      refine J_aload_n (i := 0) (a := 0) rfl rfl (dk_X7_isTape 0 _ rfl) ?_
                      refine J_iload_n (i := 1) (a := 1) rfl rfl (dk_X7_isTape 1 _ rfl) ?_
                      refine J_iconst (v := 0) (by decide) (dk_X7_isTape 2 _ rfl) ?_
                      refine J_iconst (v := 5) (by decide) (dk_X7_isTape 3 _ rfl) ?_
                      refine J_cV (rv := some (.int 1)) (h' := hM0) (d' := 10) (As := [.int 1, .int 0, .int 5]) ok_X7_in vi_X7_in cl_7_194 (n := 3) (by decide +kernel) rfl rfl rfl rfl (by decide) (by decide) (dk_X7_isTape 4 _ rfl) ?_ ?_
                      · refine jCt_of ok_X7_in (fun _ _ => Nat.le_of_ble_eq_true rfl) (fun _ _ hq => by rw [hq.2]; first | exact Nat.le_refl _ | simp) ?_
                        show J _ _ _ _ _ _ _ _ [(0, .ref 0), (1, .int 1), (2, .int 0), (3, .int 5)] _ _ _
                        refine J_iload_n (i := 1) (a := 1) rfl rfl (dk_X7_in 0 _ rfl) ?_
                        refine J_iload_n (i := 2) (a := 2) rfl rfl (dk_X7_in 1 _ rfl) ?_
                        refine J_icF (tgt := 14) (by decide) (dk_X7_in 2 _ rfl) (jI_nlt (by decide : (1 : Int32).toInt = 1) (by decide : (0 : Int32).toInt = 0) (by omega)) ?_
                        refine J_iload_n (i := 1) (a := 1) rfl rfl (dk_X7_in 5 _ rfl) ?_
                        refine J_iload_n (i := 3) (a := 3) rfl rfl (dk_X7_in 6 _ rfl) ?_
                        refine J_icF (tgt := 14) (by decide) (dk_X7_in 7 _ rfl) (jI_nlt (by decide : (5 : Int32).toInt = 5) (by decide : (1 : Int32).toInt = 1) (by omega)) ?_
                        refine J_iconst (v := 1) (by decide) (dk_X7_in 10 _ rfl) ?_
                        refine J_goto (tgt := 15) (by decide) (dk_X7_in 11 _ rfl) ?_
                        exact J_iret rfl rfl (dk_X7_in 15 _ rfl) ⟨rfl, rfl⟩
                      show J _ _ _ _ _ _ _ _ _ [.int 1] _ _
                      exact J_iret rfl rfl (dk_X7_isTape 7 _ rfl) ⟨rfl, rfl⟩
                    show J _ _ _ _ _ _ _ _ _ [.int 1] _ _
                    refine J_ifT (tgt := 18) (by decide) (dk_X7_shift 13 _ rfl) (jI_ne (by decide : (1 : Int32).toInt = 1) (by decide : (0 : Int32).toInt = 0) (by omega)) ?_
                    refine J_aload_n (i := 0) (a := 0) rfl rfl (dk_X7_shift 18 _ rfl) ?_
                    refine J_getf fl_7_181 rfl rfl (dk_X7_shift 19 _ rfl) ?_
                    refine J_iload_n (i := 1) (a := 1) rfl rfl (dk_X7_shift 22 _ rfl) ?_
                    refine J_iald rfl (by decide) rfl (dk_X7_shift 23 _ rfl) ?_
                    refine J_ifT (tgt := 36) (by decide) (dk_X7_shift 24 _ rfl) (jI_lt (by decide : ((-1) : Int32).toInt = (-1)) (by decide : (0 : Int32).toInt = 0) (by omega)) ?_
                    refine J_bipush (v := (-11)) (by decide) (dk_X7_shift 36 _ rfl) ?_
                    exact J_iret rfl rfl (dk_X7_shift 38 _ rfl) ⟨rfl, rfl⟩
                · by_cases c15 : (o : Int32).toInt = 2
                  · obtain rfl : o = 2 := jI_eq rfl (by decide) c15
                    refine ⟨(-11), ?_, ?_⟩
                    · refine jCt_of ok_X6_shift (fun _ _ => Nat.le_of_ble_eq_true rfl) (fun _ _ hq => Nat.le_of_eq (lX.trans hq.2.symm)) ?_
                      show J _ _ _ _ _ _ _ _ [(0, .ref 0), (1, .int 1), (2, .int i), (3, .int 2), (4, .int j), (5, .int n)] _ _ _
                      refine J_iload_n (i := 1) (a := 1) rfl rfl (dk_X6_shift 0 _ rfl) ?_
                      refine J_cS (rv := some (.int 1)) (h' := hN0) (d' := 11) (As := [.int 1]) ok_X6_isTape st_X6_isTape cl_6_220 rfl (n := 1) (by decide +kernel) rfl (by decide) (by decide) (dk_X6_shift 1 _ rfl) ?_ ?_
                      · refine jCt_of ok_X6_isTape (fun _ _ => Nat.le_of_ble_eq_true rfl) (fun _ _ hq => by rw [hq.2]; first | exact Nat.le_refl _ | simp) ?_
                        show J _ _ _ _ _ _ _ _ [(0, .int 1)] _ _ _
                        refine J_iload_n (i := 0) (a := 0) rfl rfl (dk_X6_isTape 0 _ rfl) ?_
                        refine J_ifF (tgt := 14) (by decide) (dk_X6_isTape 1 _ rfl) (jI_nlt (by decide : (1 : Int32).toInt = 1) (by decide : (0 : Int32).toInt = 0) (by omega)) ?_
                        refine J_iload_n (i := 0) (a := 0) rfl rfl (dk_X6_isTape 4 _ rfl) ?_
                        refine J_bipush (v := 6) (by decide) (dk_X6_isTape 5 _ rfl) ?_
                        refine J_icF (tgt := 14) (by decide) (dk_X6_isTape 7 _ rfl) (jI_nle (by decide : (6 : Int32).toInt = 6) (by decide : (1 : Int32).toInt = 1) (by omega)) ?_
                        refine J_iconst (v := 1) (by decide) (dk_X6_isTape 10 _ rfl) ?_
                        refine J_goto (tgt := 15) (by decide) (dk_X6_isTape 11 _ rfl) ?_
                        exact J_iret rfl rfl (dk_X6_isTape 15 _ rfl) ⟨rfl, rfl⟩
                      show J _ _ _ _ _ _ _ _ _ [.int 1] _ _
                      refine J_ifF (tgt := 14) (by decide) (dk_X6_shift 4 _ rfl) (jI_ne (by decide : (1 : Int32).toInt = 1) (by decide : (0 : Int32).toInt = 0) (by omega)) ?_
                      refine J_iload_n (i := 3) (a := 3) rfl rfl (dk_X6_shift 7 _ rfl) ?_
                      refine J_cS (rv := some (.int 1)) (h' := hN0) (d' := 11) (As := [.int 2]) ok_X6_isTape st_X6_isTape cl_6_220 rfl (n := 1) (by decide +kernel) rfl (by decide) (by decide) (dk_X6_shift 8 _ rfl) ?_ ?_
                      · refine jCt_of ok_X6_isTape (fun _ _ => Nat.le_of_ble_eq_true rfl) (fun _ _ hq => by rw [hq.2]; first | exact Nat.le_refl _ | simp) ?_
                        show J _ _ _ _ _ _ _ _ [(0, .int 2)] _ _ _
                        refine J_iload_n (i := 0) (a := 0) rfl rfl (dk_X6_isTape 0 _ rfl) ?_
                        refine J_ifF (tgt := 14) (by decide) (dk_X6_isTape 1 _ rfl) (jI_nlt (by decide : (2 : Int32).toInt = 2) (by decide : (0 : Int32).toInt = 0) (by omega)) ?_
                        refine J_iload_n (i := 0) (a := 0) rfl rfl (dk_X6_isTape 4 _ rfl) ?_
                        refine J_bipush (v := 6) (by decide) (dk_X6_isTape 5 _ rfl) ?_
                        refine J_icF (tgt := 14) (by decide) (dk_X6_isTape 7 _ rfl) (jI_nle (by decide : (6 : Int32).toInt = 6) (by decide : (2 : Int32).toInt = 2) (by omega)) ?_
                        refine J_iconst (v := 1) (by decide) (dk_X6_isTape 10 _ rfl) ?_
                        refine J_goto (tgt := 15) (by decide) (dk_X6_isTape 11 _ rfl) ?_
                        exact J_iret rfl rfl (dk_X6_isTape 15 _ rfl) ⟨rfl, rfl⟩
                      show J _ _ _ _ _ _ _ _ _ [.int 1] _ _
                      refine J_ifT (tgt := 16) (by decide) (dk_X6_shift 11 _ rfl) (jI_ne (by decide : (1 : Int32).toInt = 1) (by decide : (0 : Int32).toInt = 0) (by omega)) ?_
                      refine J_aload_n (i := 0) (a := 0) rfl rfl (dk_X6_shift 16 _ rfl) ?_
                      refine J_getf fl_6_37 rfl rfl (dk_X6_shift 17 _ rfl) ?_
                      refine J_iload_n (i := 1) (a := 1) rfl rfl (dk_X6_shift 20 _ rfl) ?_
                      refine J_aald (by decide) rfl (by decide) rfl (dk_X6_shift 21 _ rfl) ?_
                      refine J_astore (i := 6) (by decide) (dk_X6_shift 22 _ rfl) ?_
                      show J _ _ _ _ _ _ _ _ [(6, .ref 84), (0, .ref 0), (1, .int 1), (2, .int i), (3, .int 2), (4, .int j), (5, .int n)] _ _ _
                      refine J_aload_n (i := 0) (a := 0) rfl rfl (dk_X6_shift 24 _ rfl) ?_
                      refine J_getf fl_6_37 rfl rfl (dk_X6_shift 25 _ rfl) ?_
                      refine J_iload_n (i := 3) (a := 3) rfl rfl (dk_X6_shift 28 _ rfl) ?_
                      refine J_aald (by decide) rfl (by decide) rfl (dk_X6_shift 29 _ rfl) ?_
                      refine J_astore (i := 7) (by decide) (dk_X6_shift 30 _ rfl) ?_
                      show J _ _ _ _ _ _ _ _ [(7, .ref 86), (6, .ref 84), (0, .ref 0), (1, .int 1), (2, .int i), (3, .int 2), (4, .int j), (5, .int n)] _ _ _
                      refine J_aload (i := 6) rfl (dk_X6_shift 32 _ rfl) ?_
                      refine J_getf fl_6_223 rfl rfl (dk_X6_shift 34 _ rfl) ?_
                      refine J_iconst (v := (-1)) (by decide) (dk_X6_shift 37 _ rfl) ?_
                      refine J_icT (tgt := 50) (by decide) (dk_X6_shift 38 _ rfl) (jI_eq (by decide : ((-1) : Int32).toInt = (-1)) (by decide : ((-1) : Int32).toInt = (-1)) (by omega)) ?_
                      refine J_bipush (v := (-11)) (by decide) (dk_X6_shift 50 _ rfl) ?_
                      exact J_iret rfl rfl (dk_X6_shift 52 _ rfl) ⟨rfl, rfl⟩
                    · refine jCt_of ok_X7_shift (fun _ _ => Nat.le_of_ble_eq_true rfl) (fun _ _ hq => Nat.le_of_eq (lM.trans hq.2.symm)) ?_
                      show J _ _ _ _ _ _ _ _ [(0, .ref 0), (1, .int 1), (2, .int i), (3, .int 2), (4, .int j), (5, .int n)] _ _ _
                      refine J_aload_n (i := 0) (a := 0) rfl rfl (dk_X7_shift 0 _ rfl) ?_
                      refine J_iload_n (i := 1) (a := 1) rfl rfl (dk_X7_shift 1 _ rfl) ?_
                      refine J_cV (rv := some (.int 1)) (h' := hM0) (d' := 11) (As := [.int 1]) ok_X7_isTape vi_X7_isTape cl_7_354 (n := 1) (by decide +kernel) rfl rfl rfl rfl (by decide) (by decide) (dk_X7_shift 2 _ rfl) ?_ ?_
                      · refine jCt_of ok_X7_isTape (fun _ _ => Nat.le_of_ble_eq_true rfl) (fun _ _ hq => by rw [hq.2]; first | exact Nat.le_refl _ | simp) ?_
                        show J _ _ _ _ _ _ _ _ [(0, .ref 0), (1, .int 1)] _ _ _
                        refine J_aload_n (i := 0) (a := 0) rfl rfl (dk_X7_isTape 0 _ rfl) ?_
                        refine J_iload_n (i := 1) (a := 1) rfl rfl (dk_X7_isTape 1 _ rfl) ?_
                        refine J_iconst (v := 0) (by decide) (dk_X7_isTape 2 _ rfl) ?_
                        refine J_iconst (v := 5) (by decide) (dk_X7_isTape 3 _ rfl) ?_
                        refine J_cV (rv := some (.int 1)) (h' := hM0) (d' := 10) (As := [.int 1, .int 0, .int 5]) ok_X7_in vi_X7_in cl_7_194 (n := 3) (by decide +kernel) rfl rfl rfl rfl (by decide) (by decide) (dk_X7_isTape 4 _ rfl) ?_ ?_
                        · refine jCt_of ok_X7_in (fun _ _ => Nat.le_of_ble_eq_true rfl) (fun _ _ hq => by rw [hq.2]; first | exact Nat.le_refl _ | simp) ?_
                          show J _ _ _ _ _ _ _ _ [(0, .ref 0), (1, .int 1), (2, .int 0), (3, .int 5)] _ _ _
                          refine J_iload_n (i := 1) (a := 1) rfl rfl (dk_X7_in 0 _ rfl) ?_
                          refine J_iload_n (i := 2) (a := 2) rfl rfl (dk_X7_in 1 _ rfl) ?_
                          refine J_icF (tgt := 14) (by decide) (dk_X7_in 2 _ rfl) (jI_nlt (by decide : (1 : Int32).toInt = 1) (by decide : (0 : Int32).toInt = 0) (by omega)) ?_
                          refine J_iload_n (i := 1) (a := 1) rfl rfl (dk_X7_in 5 _ rfl) ?_
                          refine J_iload_n (i := 3) (a := 3) rfl rfl (dk_X7_in 6 _ rfl) ?_
                          refine J_icF (tgt := 14) (by decide) (dk_X7_in 7 _ rfl) (jI_nlt (by decide : (5 : Int32).toInt = 5) (by decide : (1 : Int32).toInt = 1) (by omega)) ?_
                          refine J_iconst (v := 1) (by decide) (dk_X7_in 10 _ rfl) ?_
                          refine J_goto (tgt := 15) (by decide) (dk_X7_in 11 _ rfl) ?_
                          exact J_iret rfl rfl (dk_X7_in 15 _ rfl) ⟨rfl, rfl⟩
                        show J _ _ _ _ _ _ _ _ _ [.int 1] _ _
                        exact J_iret rfl rfl (dk_X7_isTape 7 _ rfl) ⟨rfl, rfl⟩
                      show J _ _ _ _ _ _ _ _ _ [.int 1] _ _
                      refine J_ifF (tgt := 16) (by decide) (dk_X7_shift 5 _ rfl) (jI_ne (by decide : (1 : Int32).toInt = 1) (by decide : (0 : Int32).toInt = 0) (by omega)) ?_
                      refine J_aload_n (i := 0) (a := 0) rfl rfl (dk_X7_shift 8 _ rfl) ?_
                      refine J_iload_n (i := 3) (a := 3) rfl rfl (dk_X7_shift 9 _ rfl) ?_
                      refine J_cV (rv := some (.int 1)) (h' := hM0) (d' := 11) (As := [.int 2]) ok_X7_isTape vi_X7_isTape cl_7_354 (n := 1) (by decide +kernel) rfl rfl rfl rfl (by decide) (by decide) (dk_X7_shift 10 _ rfl) ?_ ?_
                      · refine jCt_of ok_X7_isTape (fun _ _ => Nat.le_of_ble_eq_true rfl) (fun _ _ hq => by rw [hq.2]; first | exact Nat.le_refl _ | simp) ?_
                        show J _ _ _ _ _ _ _ _ [(0, .ref 0), (1, .int 2)] _ _ _
                        refine J_aload_n (i := 0) (a := 0) rfl rfl (dk_X7_isTape 0 _ rfl) ?_
                        refine J_iload_n (i := 1) (a := 1) rfl rfl (dk_X7_isTape 1 _ rfl) ?_
                        refine J_iconst (v := 0) (by decide) (dk_X7_isTape 2 _ rfl) ?_
                        refine J_iconst (v := 5) (by decide) (dk_X7_isTape 3 _ rfl) ?_
                        refine J_cV (rv := some (.int 1)) (h' := hM0) (d' := 10) (As := [.int 2, .int 0, .int 5]) ok_X7_in vi_X7_in cl_7_194 (n := 3) (by decide +kernel) rfl rfl rfl rfl (by decide) (by decide) (dk_X7_isTape 4 _ rfl) ?_ ?_
                        · refine jCt_of ok_X7_in (fun _ _ => Nat.le_of_ble_eq_true rfl) (fun _ _ hq => by rw [hq.2]; first | exact Nat.le_refl _ | simp) ?_
                          show J _ _ _ _ _ _ _ _ [(0, .ref 0), (1, .int 2), (2, .int 0), (3, .int 5)] _ _ _
                          refine J_iload_n (i := 1) (a := 1) rfl rfl (dk_X7_in 0 _ rfl) ?_
                          refine J_iload_n (i := 2) (a := 2) rfl rfl (dk_X7_in 1 _ rfl) ?_
                          refine J_icF (tgt := 14) (by decide) (dk_X7_in 2 _ rfl) (jI_nlt (by decide : (2 : Int32).toInt = 2) (by decide : (0 : Int32).toInt = 0) (by omega)) ?_
                          refine J_iload_n (i := 1) (a := 1) rfl rfl (dk_X7_in 5 _ rfl) ?_
                          refine J_iload_n (i := 3) (a := 3) rfl rfl (dk_X7_in 6 _ rfl) ?_
                          refine J_icF (tgt := 14) (by decide) (dk_X7_in 7 _ rfl) (jI_nlt (by decide : (5 : Int32).toInt = 5) (by decide : (2 : Int32).toInt = 2) (by omega)) ?_
                          refine J_iconst (v := 1) (by decide) (dk_X7_in 10 _ rfl) ?_
                          refine J_goto (tgt := 15) (by decide) (dk_X7_in 11 _ rfl) ?_
                          exact J_iret rfl rfl (dk_X7_in 15 _ rfl) ⟨rfl, rfl⟩
                        show J _ _ _ _ _ _ _ _ _ [.int 1] _ _
                        exact J_iret rfl rfl (dk_X7_isTape 7 _ rfl) ⟨rfl, rfl⟩
                      show J _ _ _ _ _ _ _ _ _ [.int 1] _ _
                      refine J_ifT (tgt := 18) (by decide) (dk_X7_shift 13 _ rfl) (jI_ne (by decide : (1 : Int32).toInt = 1) (by decide : (0 : Int32).toInt = 0) (by omega)) ?_
                      refine J_aload_n (i := 0) (a := 0) rfl rfl (dk_X7_shift 18 _ rfl) ?_
                      refine J_getf fl_7_181 rfl rfl (dk_X7_shift 19 _ rfl) ?_
                      refine J_iload_n (i := 1) (a := 1) rfl rfl (dk_X7_shift 22 _ rfl) ?_
                      refine J_iald rfl (by decide) rfl (dk_X7_shift 23 _ rfl) ?_
                      refine J_ifT (tgt := 36) (by decide) (dk_X7_shift 24 _ rfl) (jI_lt (by decide : ((-1) : Int32).toInt = (-1)) (by decide : (0 : Int32).toInt = 0) (by omega)) ?_
                      refine J_bipush (v := (-11)) (by decide) (dk_X7_shift 36 _ rfl) ?_
                      exact J_iret rfl rfl (dk_X7_shift 38 _ rfl) ⟨rfl, rfl⟩
                  · by_cases c16 : (o : Int32).toInt = 3
                    · obtain rfl : o = 3 := jI_eq rfl (by decide) c16
                      refine ⟨(-11), ?_, ?_⟩
                      · refine jCt_of ok_X6_shift (fun _ _ => Nat.le_of_ble_eq_true rfl) (fun _ _ hq => Nat.le_of_eq (lX.trans hq.2.symm)) ?_
                        show J _ _ _ _ _ _ _ _ [(0, .ref 0), (1, .int 1), (2, .int i), (3, .int 3), (4, .int j), (5, .int n)] _ _ _
                        refine J_iload_n (i := 1) (a := 1) rfl rfl (dk_X6_shift 0 _ rfl) ?_
                        refine J_cS (rv := some (.int 1)) (h' := hN0) (d' := 11) (As := [.int 1]) ok_X6_isTape st_X6_isTape cl_6_220 rfl (n := 1) (by decide +kernel) rfl (by decide) (by decide) (dk_X6_shift 1 _ rfl) ?_ ?_
                        · refine jCt_of ok_X6_isTape (fun _ _ => Nat.le_of_ble_eq_true rfl) (fun _ _ hq => by rw [hq.2]; first | exact Nat.le_refl _ | simp) ?_
                          show J _ _ _ _ _ _ _ _ [(0, .int 1)] _ _ _
                          refine J_iload_n (i := 0) (a := 0) rfl rfl (dk_X6_isTape 0 _ rfl) ?_
                          refine J_ifF (tgt := 14) (by decide) (dk_X6_isTape 1 _ rfl) (jI_nlt (by decide : (1 : Int32).toInt = 1) (by decide : (0 : Int32).toInt = 0) (by omega)) ?_
                          refine J_iload_n (i := 0) (a := 0) rfl rfl (dk_X6_isTape 4 _ rfl) ?_
                          refine J_bipush (v := 6) (by decide) (dk_X6_isTape 5 _ rfl) ?_
                          refine J_icF (tgt := 14) (by decide) (dk_X6_isTape 7 _ rfl) (jI_nle (by decide : (6 : Int32).toInt = 6) (by decide : (1 : Int32).toInt = 1) (by omega)) ?_
                          refine J_iconst (v := 1) (by decide) (dk_X6_isTape 10 _ rfl) ?_
                          refine J_goto (tgt := 15) (by decide) (dk_X6_isTape 11 _ rfl) ?_
                          exact J_iret rfl rfl (dk_X6_isTape 15 _ rfl) ⟨rfl, rfl⟩
                        show J _ _ _ _ _ _ _ _ _ [.int 1] _ _
                        refine J_ifF (tgt := 14) (by decide) (dk_X6_shift 4 _ rfl) (jI_ne (by decide : (1 : Int32).toInt = 1) (by decide : (0 : Int32).toInt = 0) (by omega)) ?_
                        refine J_iload_n (i := 3) (a := 3) rfl rfl (dk_X6_shift 7 _ rfl) ?_
                        refine J_cS (rv := some (.int 1)) (h' := hN0) (d' := 11) (As := [.int 3]) ok_X6_isTape st_X6_isTape cl_6_220 rfl (n := 1) (by decide +kernel) rfl (by decide) (by decide) (dk_X6_shift 8 _ rfl) ?_ ?_
                        · refine jCt_of ok_X6_isTape (fun _ _ => Nat.le_of_ble_eq_true rfl) (fun _ _ hq => by rw [hq.2]; first | exact Nat.le_refl _ | simp) ?_
                          show J _ _ _ _ _ _ _ _ [(0, .int 3)] _ _ _
                          refine J_iload_n (i := 0) (a := 0) rfl rfl (dk_X6_isTape 0 _ rfl) ?_
                          refine J_ifF (tgt := 14) (by decide) (dk_X6_isTape 1 _ rfl) (jI_nlt (by decide : (3 : Int32).toInt = 3) (by decide : (0 : Int32).toInt = 0) (by omega)) ?_
                          refine J_iload_n (i := 0) (a := 0) rfl rfl (dk_X6_isTape 4 _ rfl) ?_
                          refine J_bipush (v := 6) (by decide) (dk_X6_isTape 5 _ rfl) ?_
                          refine J_icF (tgt := 14) (by decide) (dk_X6_isTape 7 _ rfl) (jI_nle (by decide : (6 : Int32).toInt = 6) (by decide : (3 : Int32).toInt = 3) (by omega)) ?_
                          refine J_iconst (v := 1) (by decide) (dk_X6_isTape 10 _ rfl) ?_
                          refine J_goto (tgt := 15) (by decide) (dk_X6_isTape 11 _ rfl) ?_
                          exact J_iret rfl rfl (dk_X6_isTape 15 _ rfl) ⟨rfl, rfl⟩
                        show J _ _ _ _ _ _ _ _ _ [.int 1] _ _
                        refine J_ifT (tgt := 16) (by decide) (dk_X6_shift 11 _ rfl) (jI_ne (by decide : (1 : Int32).toInt = 1) (by decide : (0 : Int32).toInt = 0) (by omega)) ?_
                        refine J_aload_n (i := 0) (a := 0) rfl rfl (dk_X6_shift 16 _ rfl) ?_
                        refine J_getf fl_6_37 rfl rfl (dk_X6_shift 17 _ rfl) ?_
                        refine J_iload_n (i := 1) (a := 1) rfl rfl (dk_X6_shift 20 _ rfl) ?_
                        refine J_aald (by decide) rfl (by decide) rfl (dk_X6_shift 21 _ rfl) ?_
                        refine J_astore (i := 6) (by decide) (dk_X6_shift 22 _ rfl) ?_
                        show J _ _ _ _ _ _ _ _ [(6, .ref 84), (0, .ref 0), (1, .int 1), (2, .int i), (3, .int 3), (4, .int j), (5, .int n)] _ _ _
                        refine J_aload_n (i := 0) (a := 0) rfl rfl (dk_X6_shift 24 _ rfl) ?_
                        refine J_getf fl_6_37 rfl rfl (dk_X6_shift 25 _ rfl) ?_
                        refine J_iload_n (i := 3) (a := 3) rfl rfl (dk_X6_shift 28 _ rfl) ?_
                        refine J_aald (by decide) rfl (by decide) rfl (dk_X6_shift 29 _ rfl) ?_
                        refine J_astore (i := 7) (by decide) (dk_X6_shift 30 _ rfl) ?_
                        show J _ _ _ _ _ _ _ _ [(7, .ref 88), (6, .ref 84), (0, .ref 0), (1, .int 1), (2, .int i), (3, .int 3), (4, .int j), (5, .int n)] _ _ _
                        refine J_aload (i := 6) rfl (dk_X6_shift 32 _ rfl) ?_
                        refine J_getf fl_6_223 rfl rfl (dk_X6_shift 34 _ rfl) ?_
                        refine J_iconst (v := (-1)) (by decide) (dk_X6_shift 37 _ rfl) ?_
                        refine J_icT (tgt := 50) (by decide) (dk_X6_shift 38 _ rfl) (jI_eq (by decide : ((-1) : Int32).toInt = (-1)) (by decide : ((-1) : Int32).toInt = (-1)) (by omega)) ?_
                        refine J_bipush (v := (-11)) (by decide) (dk_X6_shift 50 _ rfl) ?_
                        exact J_iret rfl rfl (dk_X6_shift 52 _ rfl) ⟨rfl, rfl⟩
                      · refine jCt_of ok_X7_shift (fun _ _ => Nat.le_of_ble_eq_true rfl) (fun _ _ hq => Nat.le_of_eq (lM.trans hq.2.symm)) ?_
                        show J _ _ _ _ _ _ _ _ [(0, .ref 0), (1, .int 1), (2, .int i), (3, .int 3), (4, .int j), (5, .int n)] _ _ _
                        refine J_aload_n (i := 0) (a := 0) rfl rfl (dk_X7_shift 0 _ rfl) ?_
                        refine J_iload_n (i := 1) (a := 1) rfl rfl (dk_X7_shift 1 _ rfl) ?_
                        refine J_cV (rv := some (.int 1)) (h' := hM0) (d' := 11) (As := [.int 1]) ok_X7_isTape vi_X7_isTape cl_7_354 (n := 1) (by decide +kernel) rfl rfl rfl rfl (by decide) (by decide) (dk_X7_shift 2 _ rfl) ?_ ?_
                        · refine jCt_of ok_X7_isTape (fun _ _ => Nat.le_of_ble_eq_true rfl) (fun _ _ hq => by rw [hq.2]; first | exact Nat.le_refl _ | simp) ?_
                          show J _ _ _ _ _ _ _ _ [(0, .ref 0), (1, .int 1)] _ _ _
                          refine J_aload_n (i := 0) (a := 0) rfl rfl (dk_X7_isTape 0 _ rfl) ?_
                          refine J_iload_n (i := 1) (a := 1) rfl rfl (dk_X7_isTape 1 _ rfl) ?_
                          refine J_iconst (v := 0) (by decide) (dk_X7_isTape 2 _ rfl) ?_
                          refine J_iconst (v := 5) (by decide) (dk_X7_isTape 3 _ rfl) ?_
                          refine J_cV (rv := some (.int 1)) (h' := hM0) (d' := 10) (As := [.int 1, .int 0, .int 5]) ok_X7_in vi_X7_in cl_7_194 (n := 3) (by decide +kernel) rfl rfl rfl rfl (by decide) (by decide) (dk_X7_isTape 4 _ rfl) ?_ ?_
                          · refine jCt_of ok_X7_in (fun _ _ => Nat.le_of_ble_eq_true rfl) (fun _ _ hq => by rw [hq.2]; first | exact Nat.le_refl _ | simp) ?_
                            show J _ _ _ _ _ _ _ _ [(0, .ref 0), (1, .int 1), (2, .int 0), (3, .int 5)] _ _ _
                            refine J_iload_n (i := 1) (a := 1) rfl rfl (dk_X7_in 0 _ rfl) ?_
                            refine J_iload_n (i := 2) (a := 2) rfl rfl (dk_X7_in 1 _ rfl) ?_
                            refine J_icF (tgt := 14) (by decide) (dk_X7_in 2 _ rfl) (jI_nlt (by decide : (1 : Int32).toInt = 1) (by decide : (0 : Int32).toInt = 0) (by omega)) ?_
                            refine J_iload_n (i := 1) (a := 1) rfl rfl (dk_X7_in 5 _ rfl) ?_
                            refine J_iload_n (i := 3) (a := 3) rfl rfl (dk_X7_in 6 _ rfl) ?_
                            refine J_icF (tgt := 14) (by decide) (dk_X7_in 7 _ rfl) (jI_nlt (by decide : (5 : Int32).toInt = 5) (by decide : (1 : Int32).toInt = 1) (by omega)) ?_
                            refine J_iconst (v := 1) (by decide) (dk_X7_in 10 _ rfl) ?_
                            refine J_goto (tgt := 15) (by decide) (dk_X7_in 11 _ rfl) ?_
                            exact J_iret rfl rfl (dk_X7_in 15 _ rfl) ⟨rfl, rfl⟩
                          show J _ _ _ _ _ _ _ _ _ [.int 1] _ _
                          exact J_iret rfl rfl (dk_X7_isTape 7 _ rfl) ⟨rfl, rfl⟩
                        show J _ _ _ _ _ _ _ _ _ [.int 1] _ _
                        refine J_ifF (tgt := 16) (by decide) (dk_X7_shift 5 _ rfl) (jI_ne (by decide : (1 : Int32).toInt = 1) (by decide : (0 : Int32).toInt = 0) (by omega)) ?_
                        refine J_aload_n (i := 0) (a := 0) rfl rfl (dk_X7_shift 8 _ rfl) ?_
                        refine J_iload_n (i := 3) (a := 3) rfl rfl (dk_X7_shift 9 _ rfl) ?_
                        refine J_cV (rv := some (.int 1)) (h' := hM0) (d' := 11) (As := [.int 3]) ok_X7_isTape vi_X7_isTape cl_7_354 (n := 1) (by decide +kernel) rfl rfl rfl rfl (by decide) (by decide) (dk_X7_shift 10 _ rfl) ?_ ?_
                        · refine jCt_of ok_X7_isTape (fun _ _ => Nat.le_of_ble_eq_true rfl) (fun _ _ hq => by rw [hq.2]; first | exact Nat.le_refl _ | simp) ?_
                          show J _ _ _ _ _ _ _ _ [(0, .ref 0), (1, .int 3)] _ _ _
                          refine J_aload_n (i := 0) (a := 0) rfl rfl (dk_X7_isTape 0 _ rfl) ?_
                          refine J_iload_n (i := 1) (a := 1) rfl rfl (dk_X7_isTape 1 _ rfl) ?_
                          refine J_iconst (v := 0) (by decide) (dk_X7_isTape 2 _ rfl) ?_
                          refine J_iconst (v := 5) (by decide) (dk_X7_isTape 3 _ rfl) ?_
                          refine J_cV (rv := some (.int 1)) (h' := hM0) (d' := 10) (As := [.int 3, .int 0, .int 5]) ok_X7_in vi_X7_in cl_7_194 (n := 3) (by decide +kernel) rfl rfl rfl rfl (by decide) (by decide) (dk_X7_isTape 4 _ rfl) ?_ ?_
                          · refine jCt_of ok_X7_in (fun _ _ => Nat.le_of_ble_eq_true rfl) (fun _ _ hq => by rw [hq.2]; first | exact Nat.le_refl _ | simp) ?_
                            show J _ _ _ _ _ _ _ _ [(0, .ref 0), (1, .int 3), (2, .int 0), (3, .int 5)] _ _ _
                            refine J_iload_n (i := 1) (a := 1) rfl rfl (dk_X7_in 0 _ rfl) ?_
                            refine J_iload_n (i := 2) (a := 2) rfl rfl (dk_X7_in 1 _ rfl) ?_
                            refine J_icF (tgt := 14) (by decide) (dk_X7_in 2 _ rfl) (jI_nlt (by decide : (3 : Int32).toInt = 3) (by decide : (0 : Int32).toInt = 0) (by omega)) ?_
                            refine J_iload_n (i := 1) (a := 1) rfl rfl (dk_X7_in 5 _ rfl) ?_
                            refine J_iload_n (i := 3) (a := 3) rfl rfl (dk_X7_in 6 _ rfl) ?_
                            refine J_icF (tgt := 14) (by decide) (dk_X7_in 7 _ rfl) (jI_nlt (by decide : (5 : Int32).toInt = 5) (by decide : (3 : Int32).toInt = 3) (by omega)) ?_
                            refine J_iconst (v := 1) (by decide) (dk_X7_in 10 _ rfl) ?_
                            refine J_goto (tgt := 15) (by decide) (dk_X7_in 11 _ rfl) ?_
                            exact J_iret rfl rfl (dk_X7_in 15 _ rfl) ⟨rfl, rfl⟩
                          show J _ _ _ _ _ _ _ _ _ [.int 1] _ _
                          exact J_iret rfl rfl (dk_X7_isTape 7 _ rfl) ⟨rfl, rfl⟩
                        show J _ _ _ _ _ _ _ _ _ [.int 1] _ _
                        refine J_ifT (tgt := 18) (by decide) (dk_X7_shift 13 _ rfl) (jI_ne (by decide : (1 : Int32).toInt = 1) (by decide : (0 : Int32).toInt = 0) (by omega)) ?_
                        refine J_aload_n (i := 0) (a := 0) rfl rfl (dk_X7_shift 18 _ rfl) ?_
                        refine J_getf fl_7_181 rfl rfl (dk_X7_shift 19 _ rfl) ?_
                        refine J_iload_n (i := 1) (a := 1) rfl rfl (dk_X7_shift 22 _ rfl) ?_
                        refine J_iald rfl (by decide) rfl (dk_X7_shift 23 _ rfl) ?_
                        refine J_ifT (tgt := 36) (by decide) (dk_X7_shift 24 _ rfl) (jI_lt (by decide : ((-1) : Int32).toInt = (-1)) (by decide : (0 : Int32).toInt = 0) (by omega)) ?_
                        refine J_bipush (v := (-11)) (by decide) (dk_X7_shift 36 _ rfl) ?_
                        exact J_iret rfl rfl (dk_X7_shift 38 _ rfl) ⟨rfl, rfl⟩
                    · by_cases c17 : (o : Int32).toInt = 4
                      · obtain rfl : o = 4 := jI_eq rfl (by decide) c17
                        refine ⟨(-11), ?_, ?_⟩
                        · refine jCt_of ok_X6_shift (fun _ _ => Nat.le_of_ble_eq_true rfl) (fun _ _ hq => Nat.le_of_eq (lX.trans hq.2.symm)) ?_
                          show J _ _ _ _ _ _ _ _ [(0, .ref 0), (1, .int 1), (2, .int i), (3, .int 4), (4, .int j), (5, .int n)] _ _ _
                          refine J_iload_n (i := 1) (a := 1) rfl rfl (dk_X6_shift 0 _ rfl) ?_
                          refine J_cS (rv := some (.int 1)) (h' := hN0) (d' := 11) (As := [.int 1]) ok_X6_isTape st_X6_isTape cl_6_220 rfl (n := 1) (by decide +kernel) rfl (by decide) (by decide) (dk_X6_shift 1 _ rfl) ?_ ?_
                          · refine jCt_of ok_X6_isTape (fun _ _ => Nat.le_of_ble_eq_true rfl) (fun _ _ hq => by rw [hq.2]; first | exact Nat.le_refl _ | simp) ?_
                            show J _ _ _ _ _ _ _ _ [(0, .int 1)] _ _ _
                            refine J_iload_n (i := 0) (a := 0) rfl rfl (dk_X6_isTape 0 _ rfl) ?_
                            refine J_ifF (tgt := 14) (by decide) (dk_X6_isTape 1 _ rfl) (jI_nlt (by decide : (1 : Int32).toInt = 1) (by decide : (0 : Int32).toInt = 0) (by omega)) ?_
                            refine J_iload_n (i := 0) (a := 0) rfl rfl (dk_X6_isTape 4 _ rfl) ?_
                            refine J_bipush (v := 6) (by decide) (dk_X6_isTape 5 _ rfl) ?_
                            refine J_icF (tgt := 14) (by decide) (dk_X6_isTape 7 _ rfl) (jI_nle (by decide : (6 : Int32).toInt = 6) (by decide : (1 : Int32).toInt = 1) (by omega)) ?_
                            refine J_iconst (v := 1) (by decide) (dk_X6_isTape 10 _ rfl) ?_
                            refine J_goto (tgt := 15) (by decide) (dk_X6_isTape 11 _ rfl) ?_
                            exact J_iret rfl rfl (dk_X6_isTape 15 _ rfl) ⟨rfl, rfl⟩
                          show J _ _ _ _ _ _ _ _ _ [.int 1] _ _
                          refine J_ifF (tgt := 14) (by decide) (dk_X6_shift 4 _ rfl) (jI_ne (by decide : (1 : Int32).toInt = 1) (by decide : (0 : Int32).toInt = 0) (by omega)) ?_
                          refine J_iload_n (i := 3) (a := 3) rfl rfl (dk_X6_shift 7 _ rfl) ?_
                          refine J_cS (rv := some (.int 1)) (h' := hN0) (d' := 11) (As := [.int 4]) ok_X6_isTape st_X6_isTape cl_6_220 rfl (n := 1) (by decide +kernel) rfl (by decide) (by decide) (dk_X6_shift 8 _ rfl) ?_ ?_
                          · refine jCt_of ok_X6_isTape (fun _ _ => Nat.le_of_ble_eq_true rfl) (fun _ _ hq => by rw [hq.2]; first | exact Nat.le_refl _ | simp) ?_
                            show J _ _ _ _ _ _ _ _ [(0, .int 4)] _ _ _
                            refine J_iload_n (i := 0) (a := 0) rfl rfl (dk_X6_isTape 0 _ rfl) ?_
                            refine J_ifF (tgt := 14) (by decide) (dk_X6_isTape 1 _ rfl) (jI_nlt (by decide : (4 : Int32).toInt = 4) (by decide : (0 : Int32).toInt = 0) (by omega)) ?_
                            refine J_iload_n (i := 0) (a := 0) rfl rfl (dk_X6_isTape 4 _ rfl) ?_
                            refine J_bipush (v := 6) (by decide) (dk_X6_isTape 5 _ rfl) ?_
                            refine J_icF (tgt := 14) (by decide) (dk_X6_isTape 7 _ rfl) (jI_nle (by decide : (6 : Int32).toInt = 6) (by decide : (4 : Int32).toInt = 4) (by omega)) ?_
                            refine J_iconst (v := 1) (by decide) (dk_X6_isTape 10 _ rfl) ?_
                            refine J_goto (tgt := 15) (by decide) (dk_X6_isTape 11 _ rfl) ?_
                            exact J_iret rfl rfl (dk_X6_isTape 15 _ rfl) ⟨rfl, rfl⟩
                          show J _ _ _ _ _ _ _ _ _ [.int 1] _ _
                          refine J_ifT (tgt := 16) (by decide) (dk_X6_shift 11 _ rfl) (jI_ne (by decide : (1 : Int32).toInt = 1) (by decide : (0 : Int32).toInt = 0) (by omega)) ?_
                          refine J_aload_n (i := 0) (a := 0) rfl rfl (dk_X6_shift 16 _ rfl) ?_
                          refine J_getf fl_6_37 rfl rfl (dk_X6_shift 17 _ rfl) ?_
                          refine J_iload_n (i := 1) (a := 1) rfl rfl (dk_X6_shift 20 _ rfl) ?_
                          refine J_aald (by decide) rfl (by decide) rfl (dk_X6_shift 21 _ rfl) ?_
                          refine J_astore (i := 6) (by decide) (dk_X6_shift 22 _ rfl) ?_
                          show J _ _ _ _ _ _ _ _ [(6, .ref 84), (0, .ref 0), (1, .int 1), (2, .int i), (3, .int 4), (4, .int j), (5, .int n)] _ _ _
                          refine J_aload_n (i := 0) (a := 0) rfl rfl (dk_X6_shift 24 _ rfl) ?_
                          refine J_getf fl_6_37 rfl rfl (dk_X6_shift 25 _ rfl) ?_
                          refine J_iload_n (i := 3) (a := 3) rfl rfl (dk_X6_shift 28 _ rfl) ?_
                          refine J_aald (by decide) rfl (by decide) rfl (dk_X6_shift 29 _ rfl) ?_
                          refine J_astore (i := 7) (by decide) (dk_X6_shift 30 _ rfl) ?_
                          show J _ _ _ _ _ _ _ _ [(7, .ref 90), (6, .ref 84), (0, .ref 0), (1, .int 1), (2, .int i), (3, .int 4), (4, .int j), (5, .int n)] _ _ _
                          refine J_aload (i := 6) rfl (dk_X6_shift 32 _ rfl) ?_
                          refine J_getf fl_6_223 rfl rfl (dk_X6_shift 34 _ rfl) ?_
                          refine J_iconst (v := (-1)) (by decide) (dk_X6_shift 37 _ rfl) ?_
                          refine J_icT (tgt := 50) (by decide) (dk_X6_shift 38 _ rfl) (jI_eq (by decide : ((-1) : Int32).toInt = (-1)) (by decide : ((-1) : Int32).toInt = (-1)) (by omega)) ?_
                          refine J_bipush (v := (-11)) (by decide) (dk_X6_shift 50 _ rfl) ?_
                          exact J_iret rfl rfl (dk_X6_shift 52 _ rfl) ⟨rfl, rfl⟩
                        · refine jCt_of ok_X7_shift (fun _ _ => Nat.le_of_ble_eq_true rfl) (fun _ _ hq => Nat.le_of_eq (lM.trans hq.2.symm)) ?_
                          show J _ _ _ _ _ _ _ _ [(0, .ref 0), (1, .int 1), (2, .int i), (3, .int 4), (4, .int j), (5, .int n)] _ _ _
                          refine J_aload_n (i := 0) (a := 0) rfl rfl (dk_X7_shift 0 _ rfl) ?_
                          refine J_iload_n (i := 1) (a := 1) rfl rfl (dk_X7_shift 1 _ rfl) ?_
                          refine J_cV (rv := some (.int 1)) (h' := hM0) (d' := 11) (As := [.int 1]) ok_X7_isTape vi_X7_isTape cl_7_354 (n := 1) (by decide +kernel) rfl rfl rfl rfl (by decide) (by decide) (dk_X7_shift 2 _ rfl) ?_ ?_
                          · refine jCt_of ok_X7_isTape (fun _ _ => Nat.le_of_ble_eq_true rfl) (fun _ _ hq => by rw [hq.2]; first | exact Nat.le_refl _ | simp) ?_
                            show J _ _ _ _ _ _ _ _ [(0, .ref 0), (1, .int 1)] _ _ _
                            refine J_aload_n (i := 0) (a := 0) rfl rfl (dk_X7_isTape 0 _ rfl) ?_
                            refine J_iload_n (i := 1) (a := 1) rfl rfl (dk_X7_isTape 1 _ rfl) ?_
                            refine J_iconst (v := 0) (by decide) (dk_X7_isTape 2 _ rfl) ?_
                            refine J_iconst (v := 5) (by decide) (dk_X7_isTape 3 _ rfl) ?_
                            refine J_cV (rv := some (.int 1)) (h' := hM0) (d' := 10) (As := [.int 1, .int 0, .int 5]) ok_X7_in vi_X7_in cl_7_194 (n := 3) (by decide +kernel) rfl rfl rfl rfl (by decide) (by decide) (dk_X7_isTape 4 _ rfl) ?_ ?_
                            · refine jCt_of ok_X7_in (fun _ _ => Nat.le_of_ble_eq_true rfl) (fun _ _ hq => by rw [hq.2]; first | exact Nat.le_refl _ | simp) ?_
                              show J _ _ _ _ _ _ _ _ [(0, .ref 0), (1, .int 1), (2, .int 0), (3, .int 5)] _ _ _
                              refine J_iload_n (i := 1) (a := 1) rfl rfl (dk_X7_in 0 _ rfl) ?_
                              refine J_iload_n (i := 2) (a := 2) rfl rfl (dk_X7_in 1 _ rfl) ?_
                              refine J_icF (tgt := 14) (by decide) (dk_X7_in 2 _ rfl) (jI_nlt (by decide : (1 : Int32).toInt = 1) (by decide : (0 : Int32).toInt = 0) (by omega)) ?_
                              refine J_iload_n (i := 1) (a := 1) rfl rfl (dk_X7_in 5 _ rfl) ?_
                              refine J_iload_n (i := 3) (a := 3) rfl rfl (dk_X7_in 6 _ rfl) ?_
                              refine J_icF (tgt := 14) (by decide) (dk_X7_in 7 _ rfl) (jI_nlt (by decide : (5 : Int32).toInt = 5) (by decide : (1 : Int32).toInt = 1) (by omega)) ?_
                              refine J_iconst (v := 1) (by decide) (dk_X7_in 10 _ rfl) ?_
                              refine J_goto (tgt := 15) (by decide) (dk_X7_in 11 _ rfl) ?_
                              exact J_iret rfl rfl (dk_X7_in 15 _ rfl) ⟨rfl, rfl⟩
                            show J _ _ _ _ _ _ _ _ _ [.int 1] _ _
                            exact J_iret rfl rfl (dk_X7_isTape 7 _ rfl) ⟨rfl, rfl⟩
                          show J _ _ _ _ _ _ _ _ _ [.int 1] _ _
                          refine J_ifF (tgt := 16) (by decide) (dk_X7_shift 5 _ rfl) (jI_ne (by decide : (1 : Int32).toInt = 1) (by decide : (0 : Int32).toInt = 0) (by omega)) ?_
                          refine J_aload_n (i := 0) (a := 0) rfl rfl (dk_X7_shift 8 _ rfl) ?_
                          refine J_iload_n (i := 3) (a := 3) rfl rfl (dk_X7_shift 9 _ rfl) ?_
                          refine J_cV (rv := some (.int 1)) (h' := hM0) (d' := 11) (As := [.int 4]) ok_X7_isTape vi_X7_isTape cl_7_354 (n := 1) (by decide +kernel) rfl rfl rfl rfl (by decide) (by decide) (dk_X7_shift 10 _ rfl) ?_ ?_
                          · refine jCt_of ok_X7_isTape (fun _ _ => Nat.le_of_ble_eq_true rfl) (fun _ _ hq => by rw [hq.2]; first | exact Nat.le_refl _ | simp) ?_
                            show J _ _ _ _ _ _ _ _ [(0, .ref 0), (1, .int 4)] _ _ _
                            refine J_aload_n (i := 0) (a := 0) rfl rfl (dk_X7_isTape 0 _ rfl) ?_
                            refine J_iload_n (i := 1) (a := 1) rfl rfl (dk_X7_isTape 1 _ rfl) ?_
                            refine J_iconst (v := 0) (by decide) (dk_X7_isTape 2 _ rfl) ?_
                            refine J_iconst (v := 5) (by decide) (dk_X7_isTape 3 _ rfl) ?_
                            refine J_cV (rv := some (.int 1)) (h' := hM0) (d' := 10) (As := [.int 4, .int 0, .int 5]) ok_X7_in vi_X7_in cl_7_194 (n := 3) (by decide +kernel) rfl rfl rfl rfl (by decide) (by decide) (dk_X7_isTape 4 _ rfl) ?_ ?_
                            · refine jCt_of ok_X7_in (fun _ _ => Nat.le_of_ble_eq_true rfl) (fun _ _ hq => by rw [hq.2]; first | exact Nat.le_refl _ | simp) ?_
                              show J _ _ _ _ _ _ _ _ [(0, .ref 0), (1, .int 4), (2, .int 0), (3, .int 5)] _ _ _
                              refine J_iload_n (i := 1) (a := 1) rfl rfl (dk_X7_in 0 _ rfl) ?_
                              refine J_iload_n (i := 2) (a := 2) rfl rfl (dk_X7_in 1 _ rfl) ?_
                              refine J_icF (tgt := 14) (by decide) (dk_X7_in 2 _ rfl) (jI_nlt (by decide : (4 : Int32).toInt = 4) (by decide : (0 : Int32).toInt = 0) (by omega)) ?_
                              refine J_iload_n (i := 1) (a := 1) rfl rfl (dk_X7_in 5 _ rfl) ?_
                              refine J_iload_n (i := 3) (a := 3) rfl rfl (dk_X7_in 6 _ rfl) ?_
                              refine J_icF (tgt := 14) (by decide) (dk_X7_in 7 _ rfl) (jI_nlt (by decide : (5 : Int32).toInt = 5) (by decide : (4 : Int32).toInt = 4) (by omega)) ?_
                              refine J_iconst (v := 1) (by decide) (dk_X7_in 10 _ rfl) ?_
                              refine J_goto (tgt := 15) (by decide) (dk_X7_in 11 _ rfl) ?_
                              exact J_iret rfl rfl (dk_X7_in 15 _ rfl) ⟨rfl, rfl⟩
                            show J _ _ _ _ _ _ _ _ _ [.int 1] _ _
                            exact J_iret rfl rfl (dk_X7_isTape 7 _ rfl) ⟨rfl, rfl⟩
                          show J _ _ _ _ _ _ _ _ _ [.int 1] _ _
                          refine J_ifT (tgt := 18) (by decide) (dk_X7_shift 13 _ rfl) (jI_ne (by decide : (1 : Int32).toInt = 1) (by decide : (0 : Int32).toInt = 0) (by omega)) ?_
                          refine J_aload_n (i := 0) (a := 0) rfl rfl (dk_X7_shift 18 _ rfl) ?_
                          refine J_getf fl_7_181 rfl rfl (dk_X7_shift 19 _ rfl) ?_
                          refine J_iload_n (i := 1) (a := 1) rfl rfl (dk_X7_shift 22 _ rfl) ?_
                          refine J_iald rfl (by decide) rfl (dk_X7_shift 23 _ rfl) ?_
                          refine J_ifT (tgt := 36) (by decide) (dk_X7_shift 24 _ rfl) (jI_lt (by decide : ((-1) : Int32).toInt = (-1)) (by decide : (0 : Int32).toInt = 0) (by omega)) ?_
                          refine J_bipush (v := (-11)) (by decide) (dk_X7_shift 36 _ rfl) ?_
                          exact J_iret rfl rfl (dk_X7_shift 38 _ rfl) ⟨rfl, rfl⟩
                      · obtain rfl : o = 5 := jI_eq rfl (by decide) (by omega : (o : Int32).toInt = 5)
                        refine ⟨(-11), ?_, ?_⟩
                        · refine jCt_of ok_X6_shift (fun _ _ => Nat.le_of_ble_eq_true rfl) (fun _ _ hq => Nat.le_of_eq (lX.trans hq.2.symm)) ?_
                          show J _ _ _ _ _ _ _ _ [(0, .ref 0), (1, .int 1), (2, .int i), (3, .int 5), (4, .int j), (5, .int n)] _ _ _
                          refine J_iload_n (i := 1) (a := 1) rfl rfl (dk_X6_shift 0 _ rfl) ?_
                          refine J_cS (rv := some (.int 1)) (h' := hN0) (d' := 11) (As := [.int 1]) ok_X6_isTape st_X6_isTape cl_6_220 rfl (n := 1) (by decide +kernel) rfl (by decide) (by decide) (dk_X6_shift 1 _ rfl) ?_ ?_
                          · refine jCt_of ok_X6_isTape (fun _ _ => Nat.le_of_ble_eq_true rfl) (fun _ _ hq => by rw [hq.2]; first | exact Nat.le_refl _ | simp) ?_
                            show J _ _ _ _ _ _ _ _ [(0, .int 1)] _ _ _
                            refine J_iload_n (i := 0) (a := 0) rfl rfl (dk_X6_isTape 0 _ rfl) ?_
                            refine J_ifF (tgt := 14) (by decide) (dk_X6_isTape 1 _ rfl) (jI_nlt (by decide : (1 : Int32).toInt = 1) (by decide : (0 : Int32).toInt = 0) (by omega)) ?_
                            refine J_iload_n (i := 0) (a := 0) rfl rfl (dk_X6_isTape 4 _ rfl) ?_
                            refine J_bipush (v := 6) (by decide) (dk_X6_isTape 5 _ rfl) ?_
                            refine J_icF (tgt := 14) (by decide) (dk_X6_isTape 7 _ rfl) (jI_nle (by decide : (6 : Int32).toInt = 6) (by decide : (1 : Int32).toInt = 1) (by omega)) ?_
                            refine J_iconst (v := 1) (by decide) (dk_X6_isTape 10 _ rfl) ?_
                            refine J_goto (tgt := 15) (by decide) (dk_X6_isTape 11 _ rfl) ?_
                            exact J_iret rfl rfl (dk_X6_isTape 15 _ rfl) ⟨rfl, rfl⟩
                          show J _ _ _ _ _ _ _ _ _ [.int 1] _ _
                          refine J_ifF (tgt := 14) (by decide) (dk_X6_shift 4 _ rfl) (jI_ne (by decide : (1 : Int32).toInt = 1) (by decide : (0 : Int32).toInt = 0) (by omega)) ?_
                          refine J_iload_n (i := 3) (a := 3) rfl rfl (dk_X6_shift 7 _ rfl) ?_
                          refine J_cS (rv := some (.int 1)) (h' := hN0) (d' := 11) (As := [.int 5]) ok_X6_isTape st_X6_isTape cl_6_220 rfl (n := 1) (by decide +kernel) rfl (by decide) (by decide) (dk_X6_shift 8 _ rfl) ?_ ?_
                          · refine jCt_of ok_X6_isTape (fun _ _ => Nat.le_of_ble_eq_true rfl) (fun _ _ hq => by rw [hq.2]; first | exact Nat.le_refl _ | simp) ?_
                            show J _ _ _ _ _ _ _ _ [(0, .int 5)] _ _ _
                            refine J_iload_n (i := 0) (a := 0) rfl rfl (dk_X6_isTape 0 _ rfl) ?_
                            refine J_ifF (tgt := 14) (by decide) (dk_X6_isTape 1 _ rfl) (jI_nlt (by decide : (5 : Int32).toInt = 5) (by decide : (0 : Int32).toInt = 0) (by omega)) ?_
                            refine J_iload_n (i := 0) (a := 0) rfl rfl (dk_X6_isTape 4 _ rfl) ?_
                            refine J_bipush (v := 6) (by decide) (dk_X6_isTape 5 _ rfl) ?_
                            refine J_icF (tgt := 14) (by decide) (dk_X6_isTape 7 _ rfl) (jI_nle (by decide : (6 : Int32).toInt = 6) (by decide : (5 : Int32).toInt = 5) (by omega)) ?_
                            refine J_iconst (v := 1) (by decide) (dk_X6_isTape 10 _ rfl) ?_
                            refine J_goto (tgt := 15) (by decide) (dk_X6_isTape 11 _ rfl) ?_
                            exact J_iret rfl rfl (dk_X6_isTape 15 _ rfl) ⟨rfl, rfl⟩
                          show J _ _ _ _ _ _ _ _ _ [.int 1] _ _
                          refine J_ifT (tgt := 16) (by decide) (dk_X6_shift 11 _ rfl) (jI_ne (by decide : (1 : Int32).toInt = 1) (by decide : (0 : Int32).toInt = 0) (by omega)) ?_
                          refine J_aload_n (i := 0) (a := 0) rfl rfl (dk_X6_shift 16 _ rfl) ?_
                          refine J_getf fl_6_37 rfl rfl (dk_X6_shift 17 _ rfl) ?_
                          refine J_iload_n (i := 1) (a := 1) rfl rfl (dk_X6_shift 20 _ rfl) ?_
                          refine J_aald (by decide) rfl (by decide) rfl (dk_X6_shift 21 _ rfl) ?_
                          refine J_astore (i := 6) (by decide) (dk_X6_shift 22 _ rfl) ?_
                          show J _ _ _ _ _ _ _ _ [(6, .ref 84), (0, .ref 0), (1, .int 1), (2, .int i), (3, .int 5), (4, .int j), (5, .int n)] _ _ _
                          refine J_aload_n (i := 0) (a := 0) rfl rfl (dk_X6_shift 24 _ rfl) ?_
                          refine J_getf fl_6_37 rfl rfl (dk_X6_shift 25 _ rfl) ?_
                          refine J_iload_n (i := 3) (a := 3) rfl rfl (dk_X6_shift 28 _ rfl) ?_
                          refine J_aald (by decide) rfl (by decide) rfl (dk_X6_shift 29 _ rfl) ?_
                          refine J_astore (i := 7) (by decide) (dk_X6_shift 30 _ rfl) ?_
                          show J _ _ _ _ _ _ _ _ [(7, .ref 92), (6, .ref 84), (0, .ref 0), (1, .int 1), (2, .int i), (3, .int 5), (4, .int j), (5, .int n)] _ _ _
                          refine J_aload (i := 6) rfl (dk_X6_shift 32 _ rfl) ?_
                          refine J_getf fl_6_223 rfl rfl (dk_X6_shift 34 _ rfl) ?_
                          refine J_iconst (v := (-1)) (by decide) (dk_X6_shift 37 _ rfl) ?_
                          refine J_icT (tgt := 50) (by decide) (dk_X6_shift 38 _ rfl) (jI_eq (by decide : ((-1) : Int32).toInt = (-1)) (by decide : ((-1) : Int32).toInt = (-1)) (by omega)) ?_
                          refine J_bipush (v := (-11)) (by decide) (dk_X6_shift 50 _ rfl) ?_
                          exact J_iret rfl rfl (dk_X6_shift 52 _ rfl) ⟨rfl, rfl⟩
                        · refine jCt_of ok_X7_shift (fun _ _ => Nat.le_of_ble_eq_true rfl) (fun _ _ hq => Nat.le_of_eq (lM.trans hq.2.symm)) ?_
                          show J _ _ _ _ _ _ _ _ [(0, .ref 0), (1, .int 1), (2, .int i), (3, .int 5), (4, .int j), (5, .int n)] _ _ _
                          refine J_aload_n (i := 0) (a := 0) rfl rfl (dk_X7_shift 0 _ rfl) ?_
                          refine J_iload_n (i := 1) (a := 1) rfl rfl (dk_X7_shift 1 _ rfl) ?_
                          refine J_cV (rv := some (.int 1)) (h' := hM0) (d' := 11) (As := [.int 1]) ok_X7_isTape vi_X7_isTape cl_7_354 (n := 1) (by decide +kernel) rfl rfl rfl rfl (by decide) (by decide) (dk_X7_shift 2 _ rfl) ?_ ?_
                          · refine jCt_of ok_X7_isTape (fun _ _ => Nat.le_of_ble_eq_true rfl) (fun _ _ hq => by rw [hq.2]; first | exact Nat.le_refl _ | simp) ?_
                            show J _ _ _ _ _ _ _ _ [(0, .ref 0), (1, .int 1)] _ _ _
                            refine J_aload_n (i := 0) (a := 0) rfl rfl (dk_X7_isTape 0 _ rfl) ?_
                            refine J_iload_n (i := 1) (a := 1) rfl rfl (dk_X7_isTape 1 _ rfl) ?_
                            refine J_iconst (v := 0) (by decide) (dk_X7_isTape 2 _ rfl) ?_
                            refine J_iconst (v := 5) (by decide) (dk_X7_isTape 3 _ rfl) ?_
                            refine J_cV (rv := some (.int 1)) (h' := hM0) (d' := 10) (As := [.int 1, .int 0, .int 5]) ok_X7_in vi_X7_in cl_7_194 (n := 3) (by decide +kernel) rfl rfl rfl rfl (by decide) (by decide) (dk_X7_isTape 4 _ rfl) ?_ ?_
                            · refine jCt_of ok_X7_in (fun _ _ => Nat.le_of_ble_eq_true rfl) (fun _ _ hq => by rw [hq.2]; first | exact Nat.le_refl _ | simp) ?_
                              show J _ _ _ _ _ _ _ _ [(0, .ref 0), (1, .int 1), (2, .int 0), (3, .int 5)] _ _ _
                              refine J_iload_n (i := 1) (a := 1) rfl rfl (dk_X7_in 0 _ rfl) ?_
                              refine J_iload_n (i := 2) (a := 2) rfl rfl (dk_X7_in 1 _ rfl) ?_
                              refine J_icF (tgt := 14) (by decide) (dk_X7_in 2 _ rfl) (jI_nlt (by decide : (1 : Int32).toInt = 1) (by decide : (0 : Int32).toInt = 0) (by omega)) ?_
                              refine J_iload_n (i := 1) (a := 1) rfl rfl (dk_X7_in 5 _ rfl) ?_
                              refine J_iload_n (i := 3) (a := 3) rfl rfl (dk_X7_in 6 _ rfl) ?_
                              refine J_icF (tgt := 14) (by decide) (dk_X7_in 7 _ rfl) (jI_nlt (by decide : (5 : Int32).toInt = 5) (by decide : (1 : Int32).toInt = 1) (by omega)) ?_
                              refine J_iconst (v := 1) (by decide) (dk_X7_in 10 _ rfl) ?_
                              refine J_goto (tgt := 15) (by decide) (dk_X7_in 11 _ rfl) ?_
                              exact J_iret rfl rfl (dk_X7_in 15 _ rfl) ⟨rfl, rfl⟩
                            show J _ _ _ _ _ _ _ _ _ [.int 1] _ _
                            exact J_iret rfl rfl (dk_X7_isTape 7 _ rfl) ⟨rfl, rfl⟩
                          show J _ _ _ _ _ _ _ _ _ [.int 1] _ _
                          refine J_ifF (tgt := 16) (by decide) (dk_X7_shift 5 _ rfl) (jI_ne (by decide : (1 : Int32).toInt = 1) (by decide : (0 : Int32).toInt = 0) (by omega)) ?_
                          refine J_aload_n (i := 0) (a := 0) rfl rfl (dk_X7_shift 8 _ rfl) ?_
                          refine J_iload_n (i := 3) (a := 3) rfl rfl (dk_X7_shift 9 _ rfl) ?_
                          refine J_cV (rv := some (.int 1)) (h' := hM0) (d' := 11) (As := [.int 5]) ok_X7_isTape vi_X7_isTape cl_7_354 (n := 1) (by decide +kernel) rfl rfl rfl rfl (by decide) (by decide) (dk_X7_shift 10 _ rfl) ?_ ?_
                          · refine jCt_of ok_X7_isTape (fun _ _ => Nat.le_of_ble_eq_true rfl) (fun _ _ hq => by rw [hq.2]; first | exact Nat.le_refl _ | simp) ?_
                            show J _ _ _ _ _ _ _ _ [(0, .ref 0), (1, .int 5)] _ _ _
                            refine J_aload_n (i := 0) (a := 0) rfl rfl (dk_X7_isTape 0 _ rfl) ?_
                            refine J_iload_n (i := 1) (a := 1) rfl rfl (dk_X7_isTape 1 _ rfl) ?_
                            refine J_iconst (v := 0) (by decide) (dk_X7_isTape 2 _ rfl) ?_
                            refine J_iconst (v := 5) (by decide) (dk_X7_isTape 3 _ rfl) ?_
                            refine J_cV (rv := some (.int 1)) (h' := hM0) (d' := 10) (As := [.int 5, .int 0, .int 5]) ok_X7_in vi_X7_in cl_7_194 (n := 3) (by decide +kernel) rfl rfl rfl rfl (by decide) (by decide) (dk_X7_isTape 4 _ rfl) ?_ ?_
                            · refine jCt_of ok_X7_in (fun _ _ => Nat.le_of_ble_eq_true rfl) (fun _ _ hq => by rw [hq.2]; first | exact Nat.le_refl _ | simp) ?_
                              show J _ _ _ _ _ _ _ _ [(0, .ref 0), (1, .int 5), (2, .int 0), (3, .int 5)] _ _ _
                              refine J_iload_n (i := 1) (a := 1) rfl rfl (dk_X7_in 0 _ rfl) ?_
                              refine J_iload_n (i := 2) (a := 2) rfl rfl (dk_X7_in 1 _ rfl) ?_
                              refine J_icF (tgt := 14) (by decide) (dk_X7_in 2 _ rfl) (jI_nlt (by decide : (5 : Int32).toInt = 5) (by decide : (0 : Int32).toInt = 0) (by omega)) ?_
                              refine J_iload_n (i := 1) (a := 1) rfl rfl (dk_X7_in 5 _ rfl) ?_
                              refine J_iload_n (i := 3) (a := 3) rfl rfl (dk_X7_in 6 _ rfl) ?_
                              refine J_icF (tgt := 14) (by decide) (dk_X7_in 7 _ rfl) (jI_nlt (by decide : (5 : Int32).toInt = 5) (by decide : (5 : Int32).toInt = 5) (by omega)) ?_
                              refine J_iconst (v := 1) (by decide) (dk_X7_in 10 _ rfl) ?_
                              refine J_goto (tgt := 15) (by decide) (dk_X7_in 11 _ rfl) ?_
                              exact J_iret rfl rfl (dk_X7_in 15 _ rfl) ⟨rfl, rfl⟩
                            show J _ _ _ _ _ _ _ _ _ [.int 1] _ _
                            exact J_iret rfl rfl (dk_X7_isTape 7 _ rfl) ⟨rfl, rfl⟩
                          show J _ _ _ _ _ _ _ _ _ [.int 1] _ _
                          refine J_ifT (tgt := 18) (by decide) (dk_X7_shift 13 _ rfl) (jI_ne (by decide : (1 : Int32).toInt = 1) (by decide : (0 : Int32).toInt = 0) (by omega)) ?_
                          refine J_aload_n (i := 0) (a := 0) rfl rfl (dk_X7_shift 18 _ rfl) ?_
                          refine J_getf fl_7_181 rfl rfl (dk_X7_shift 19 _ rfl) ?_
                          refine J_iload_n (i := 1) (a := 1) rfl rfl (dk_X7_shift 22 _ rfl) ?_
                          refine J_iald rfl (by decide) rfl (dk_X7_shift 23 _ rfl) ?_
                          refine J_ifT (tgt := 36) (by decide) (dk_X7_shift 24 _ rfl) (jI_lt (by decide : ((-1) : Int32).toInt = (-1)) (by decide : (0 : Int32).toInt = 0) (by omega)) ?_
                          refine J_bipush (v := (-11)) (by decide) (dk_X7_shift 36 _ rfl) ?_
                          exact J_iret rfl rfl (dk_X7_shift 38 _ rfl) ⟨rfl, rfl⟩
            · by_cases c19 : (t : Int32).toInt = 2
              · obtain rfl : t = 2 := jI_eq rfl (by decide) c19
                by_cases c20 : (o : Int32).toInt = 0
                · obtain rfl : o = 0 := jI_eq rfl (by decide) c20
                  refine ⟨(-11), ?_, ?_⟩
                  · refine jCt_of ok_X6_shift (fun _ _ => Nat.le_of_ble_eq_true rfl) (fun _ _ hq => Nat.le_of_eq (lX.trans hq.2.symm)) ?_
                    show J _ _ _ _ _ _ _ _ [(0, .ref 0), (1, .int 2), (2, .int i), (3, .int 0), (4, .int j), (5, .int n)] _ _ _
                    refine J_iload_n (i := 1) (a := 1) rfl rfl (dk_X6_shift 0 _ rfl) ?_
                    refine J_cS (rv := some (.int 1)) (h' := hN0) (d' := 11) (As := [.int 2]) ok_X6_isTape st_X6_isTape cl_6_220 rfl (n := 1) (by decide +kernel) rfl (by decide) (by decide) (dk_X6_shift 1 _ rfl) ?_ ?_
                    · refine jCt_of ok_X6_isTape (fun _ _ => Nat.le_of_ble_eq_true rfl) (fun _ _ hq => by rw [hq.2]; first | exact Nat.le_refl _ | simp) ?_
                      show J _ _ _ _ _ _ _ _ [(0, .int 2)] _ _ _
                      refine J_iload_n (i := 0) (a := 0) rfl rfl (dk_X6_isTape 0 _ rfl) ?_
                      refine J_ifF (tgt := 14) (by decide) (dk_X6_isTape 1 _ rfl) (jI_nlt (by decide : (2 : Int32).toInt = 2) (by decide : (0 : Int32).toInt = 0) (by omega)) ?_
                      refine J_iload_n (i := 0) (a := 0) rfl rfl (dk_X6_isTape 4 _ rfl) ?_
                      refine J_bipush (v := 6) (by decide) (dk_X6_isTape 5 _ rfl) ?_
                      refine J_icF (tgt := 14) (by decide) (dk_X6_isTape 7 _ rfl) (jI_nle (by decide : (6 : Int32).toInt = 6) (by decide : (2 : Int32).toInt = 2) (by omega)) ?_
                      refine J_iconst (v := 1) (by decide) (dk_X6_isTape 10 _ rfl) ?_
                      refine J_goto (tgt := 15) (by decide) (dk_X6_isTape 11 _ rfl) ?_
                      exact J_iret rfl rfl (dk_X6_isTape 15 _ rfl) ⟨rfl, rfl⟩
                    show J _ _ _ _ _ _ _ _ _ [.int 1] _ _
                    refine J_ifF (tgt := 14) (by decide) (dk_X6_shift 4 _ rfl) (jI_ne (by decide : (1 : Int32).toInt = 1) (by decide : (0 : Int32).toInt = 0) (by omega)) ?_
                    refine J_iload_n (i := 3) (a := 3) rfl rfl (dk_X6_shift 7 _ rfl) ?_
                    refine J_cS (rv := some (.int 1)) (h' := hN0) (d' := 11) (As := [.int 0]) ok_X6_isTape st_X6_isTape cl_6_220 rfl (n := 1) (by decide +kernel) rfl (by decide) (by decide) (dk_X6_shift 8 _ rfl) ?_ ?_
                    · refine jCt_of ok_X6_isTape (fun _ _ => Nat.le_of_ble_eq_true rfl) (fun _ _ hq => by rw [hq.2]; first | exact Nat.le_refl _ | simp) ?_
                      show J _ _ _ _ _ _ _ _ [(0, .int 0)] _ _ _
                      refine J_iload_n (i := 0) (a := 0) rfl rfl (dk_X6_isTape 0 _ rfl) ?_
                      refine J_ifF (tgt := 14) (by decide) (dk_X6_isTape 1 _ rfl) (jI_nlt (by decide : (0 : Int32).toInt = 0) (by decide : (0 : Int32).toInt = 0) (by omega)) ?_
                      refine J_iload_n (i := 0) (a := 0) rfl rfl (dk_X6_isTape 4 _ rfl) ?_
                      refine J_bipush (v := 6) (by decide) (dk_X6_isTape 5 _ rfl) ?_
                      refine J_icF (tgt := 14) (by decide) (dk_X6_isTape 7 _ rfl) (jI_nle (by decide : (6 : Int32).toInt = 6) (by decide : (0 : Int32).toInt = 0) (by omega)) ?_
                      refine J_iconst (v := 1) (by decide) (dk_X6_isTape 10 _ rfl) ?_
                      refine J_goto (tgt := 15) (by decide) (dk_X6_isTape 11 _ rfl) ?_
                      exact J_iret rfl rfl (dk_X6_isTape 15 _ rfl) ⟨rfl, rfl⟩
                    show J _ _ _ _ _ _ _ _ _ [.int 1] _ _
                    refine J_ifT (tgt := 16) (by decide) (dk_X6_shift 11 _ rfl) (jI_ne (by decide : (1 : Int32).toInt = 1) (by decide : (0 : Int32).toInt = 0) (by omega)) ?_
                    refine J_aload_n (i := 0) (a := 0) rfl rfl (dk_X6_shift 16 _ rfl) ?_
                    refine J_getf fl_6_37 rfl rfl (dk_X6_shift 17 _ rfl) ?_
                    refine J_iload_n (i := 1) (a := 1) rfl rfl (dk_X6_shift 20 _ rfl) ?_
                    refine J_aald (by decide) rfl (by decide) rfl (dk_X6_shift 21 _ rfl) ?_
                    refine J_astore (i := 6) (by decide) (dk_X6_shift 22 _ rfl) ?_
                    show J _ _ _ _ _ _ _ _ [(6, .ref 86), (0, .ref 0), (1, .int 2), (2, .int i), (3, .int 0), (4, .int j), (5, .int n)] _ _ _
                    refine J_aload_n (i := 0) (a := 0) rfl rfl (dk_X6_shift 24 _ rfl) ?_
                    refine J_getf fl_6_37 rfl rfl (dk_X6_shift 25 _ rfl) ?_
                    refine J_iload_n (i := 3) (a := 3) rfl rfl (dk_X6_shift 28 _ rfl) ?_
                    refine J_aald (by decide) rfl (by decide) rfl (dk_X6_shift 29 _ rfl) ?_
                    refine J_astore (i := 7) (by decide) (dk_X6_shift 30 _ rfl) ?_
                    show J _ _ _ _ _ _ _ _ [(7, .ref 82), (6, .ref 86), (0, .ref 0), (1, .int 2), (2, .int i), (3, .int 0), (4, .int j), (5, .int n)] _ _ _
                    refine J_aload (i := 6) rfl (dk_X6_shift 32 _ rfl) ?_
                    refine J_getf fl_6_223 rfl rfl (dk_X6_shift 34 _ rfl) ?_
                    refine J_iconst (v := (-1)) (by decide) (dk_X6_shift 37 _ rfl) ?_
                    refine J_icT (tgt := 50) (by decide) (dk_X6_shift 38 _ rfl) (jI_eq (by decide : ((-1) : Int32).toInt = (-1)) (by decide : ((-1) : Int32).toInt = (-1)) (by omega)) ?_
                    refine J_bipush (v := (-11)) (by decide) (dk_X6_shift 50 _ rfl) ?_
                    exact J_iret rfl rfl (dk_X6_shift 52 _ rfl) ⟨rfl, rfl⟩
                  · refine jCt_of ok_X7_shift (fun _ _ => Nat.le_of_ble_eq_true rfl) (fun _ _ hq => Nat.le_of_eq (lM.trans hq.2.symm)) ?_
                    show J _ _ _ _ _ _ _ _ [(0, .ref 0), (1, .int 2), (2, .int i), (3, .int 0), (4, .int j), (5, .int n)] _ _ _
                    refine J_aload_n (i := 0) (a := 0) rfl rfl (dk_X7_shift 0 _ rfl) ?_
                    refine J_iload_n (i := 1) (a := 1) rfl rfl (dk_X7_shift 1 _ rfl) ?_
                    refine J_cV (rv := some (.int 1)) (h' := hM0) (d' := 11) (As := [.int 2]) ok_X7_isTape vi_X7_isTape cl_7_354 (n := 1) (by decide +kernel) rfl rfl rfl rfl (by decide) (by decide) (dk_X7_shift 2 _ rfl) ?_ ?_
                    · refine jCt_of ok_X7_isTape (fun _ _ => Nat.le_of_ble_eq_true rfl) (fun _ _ hq => by rw [hq.2]; first | exact Nat.le_refl _ | simp) ?_
                      show J _ _ _ _ _ _ _ _ [(0, .ref 0), (1, .int 2)] _ _ _
                      refine J_aload_n (i := 0) (a := 0) rfl rfl (dk_X7_isTape 0 _ rfl) ?_
                      refine J_iload_n (i := 1) (a := 1) rfl rfl (dk_X7_isTape 1 _ rfl) ?_
                      refine J_iconst (v := 0) (by decide) (dk_X7_isTape 2 _ rfl) ?_
                      refine J_iconst (v := 5) (by decide) (dk_X7_isTape 3 _ rfl) ?_
                      refine J_cV (rv := some (.int 1)) (h' := hM0) (d' := 10) (As := [.int 2, .int 0, .int 5]) ok_X7_in vi_X7_in cl_7_194 (n := 3) (by decide +kernel) rfl rfl rfl rfl (by decide) (by decide) (dk_X7_isTape 4 _ rfl) ?_ ?_
                      · refine jCt_of ok_X7_in (fun _ _ => Nat.le_of_ble_eq_true rfl) (fun _ _ hq => by rw [hq.2]; first | exact Nat.le_refl _ | simp) ?_
                        show J _ _ _ _ _ _ _ _ [(0, .ref 0), (1, .int 2), (2, .int 0), (3, .int 5)] _ _ _
                        refine J_iload_n (i := 1) (a := 1) rfl rfl (dk_X7_in 0 _ rfl) ?_
                        refine J_iload_n (i := 2) (a := 2) rfl rfl (dk_X7_in 1 _ rfl) ?_
                        refine J_icF (tgt := 14) (by decide) (dk_X7_in 2 _ rfl) (jI_nlt (by decide : (2 : Int32).toInt = 2) (by decide : (0 : Int32).toInt = 0) (by omega)) ?_
                        refine J_iload_n (i := 1) (a := 1) rfl rfl (dk_X7_in 5 _ rfl) ?_
                        refine J_iload_n (i := 3) (a := 3) rfl rfl (dk_X7_in 6 _ rfl) ?_
                        refine J_icF (tgt := 14) (by decide) (dk_X7_in 7 _ rfl) (jI_nlt (by decide : (5 : Int32).toInt = 5) (by decide : (2 : Int32).toInt = 2) (by omega)) ?_
                        refine J_iconst (v := 1) (by decide) (dk_X7_in 10 _ rfl) ?_
                        refine J_goto (tgt := 15) (by decide) (dk_X7_in 11 _ rfl) ?_
                        exact J_iret rfl rfl (dk_X7_in 15 _ rfl) ⟨rfl, rfl⟩
                      show J _ _ _ _ _ _ _ _ _ [.int 1] _ _
                      exact J_iret rfl rfl (dk_X7_isTape 7 _ rfl) ⟨rfl, rfl⟩
                    show J _ _ _ _ _ _ _ _ _ [.int 1] _ _
                    refine J_ifF (tgt := 16) (by decide) (dk_X7_shift 5 _ rfl) (jI_ne (by decide : (1 : Int32).toInt = 1) (by decide : (0 : Int32).toInt = 0) (by omega)) ?_
                    refine J_aload_n (i := 0) (a := 0) rfl rfl (dk_X7_shift 8 _ rfl) ?_
                    refine J_iload_n (i := 3) (a := 3) rfl rfl (dk_X7_shift 9 _ rfl) ?_
                    refine J_cV (rv := some (.int 1)) (h' := hM0) (d' := 11) (As := [.int 0]) ok_X7_isTape vi_X7_isTape cl_7_354 (n := 1) (by decide +kernel) rfl rfl rfl rfl (by decide) (by decide) (dk_X7_shift 10 _ rfl) ?_ ?_
                    · refine jCt_of ok_X7_isTape (fun _ _ => Nat.le_of_ble_eq_true rfl) (fun _ _ hq => by rw [hq.2]; first | exact Nat.le_refl _ | simp) ?_
                      show J _ _ _ _ _ _ _ _ [(0, .ref 0), (1, .int 0)] _ _ _
                      refine J_aload_n (i := 0) (a := 0) rfl rfl (dk_X7_isTape 0 _ rfl) ?_
                      refine J_iload_n (i := 1) (a := 1) rfl rfl (dk_X7_isTape 1 _ rfl) ?_
                      refine J_iconst (v := 0) (by decide) (dk_X7_isTape 2 _ rfl) ?_
                      refine J_iconst (v := 5) (by decide) (dk_X7_isTape 3 _ rfl) ?_
                      refine J_cV (rv := some (.int 1)) (h' := hM0) (d' := 10) (As := [.int 0, .int 0, .int 5]) ok_X7_in vi_X7_in cl_7_194 (n := 3) (by decide +kernel) rfl rfl rfl rfl (by decide) (by decide) (dk_X7_isTape 4 _ rfl) ?_ ?_
                      · refine jCt_of ok_X7_in (fun _ _ => Nat.le_of_ble_eq_true rfl) (fun _ _ hq => by rw [hq.2]; first | exact Nat.le_refl _ | simp) ?_
                        show J _ _ _ _ _ _ _ _ [(0, .ref 0), (1, .int 0), (2, .int 0), (3, .int 5)] _ _ _
                        refine J_iload_n (i := 1) (a := 1) rfl rfl (dk_X7_in 0 _ rfl) ?_
                        refine J_iload_n (i := 2) (a := 2) rfl rfl (dk_X7_in 1 _ rfl) ?_
                        refine J_icF (tgt := 14) (by decide) (dk_X7_in 2 _ rfl) (jI_nlt (by decide : (0 : Int32).toInt = 0) (by decide : (0 : Int32).toInt = 0) (by omega)) ?_
                        refine J_iload_n (i := 1) (a := 1) rfl rfl (dk_X7_in 5 _ rfl) ?_
                        refine J_iload_n (i := 3) (a := 3) rfl rfl (dk_X7_in 6 _ rfl) ?_
                        refine J_icF (tgt := 14) (by decide) (dk_X7_in 7 _ rfl) (jI_nlt (by decide : (5 : Int32).toInt = 5) (by decide : (0 : Int32).toInt = 0) (by omega)) ?_
                        refine J_iconst (v := 1) (by decide) (dk_X7_in 10 _ rfl) ?_
                        refine J_goto (tgt := 15) (by decide) (dk_X7_in 11 _ rfl) ?_
                        exact J_iret rfl rfl (dk_X7_in 15 _ rfl) ⟨rfl, rfl⟩
                      show J _ _ _ _ _ _ _ _ _ [.int 1] _ _
                      exact J_iret rfl rfl (dk_X7_isTape 7 _ rfl) ⟨rfl, rfl⟩
                    show J _ _ _ _ _ _ _ _ _ [.int 1] _ _
                    refine J_ifT (tgt := 18) (by decide) (dk_X7_shift 13 _ rfl) (jI_ne (by decide : (1 : Int32).toInt = 1) (by decide : (0 : Int32).toInt = 0) (by omega)) ?_
                    refine J_aload_n (i := 0) (a := 0) rfl rfl (dk_X7_shift 18 _ rfl) ?_
                    refine J_getf fl_7_181 rfl rfl (dk_X7_shift 19 _ rfl) ?_
                    refine J_iload_n (i := 1) (a := 1) rfl rfl (dk_X7_shift 22 _ rfl) ?_
                    refine J_iald rfl (by decide) rfl (dk_X7_shift 23 _ rfl) ?_
                    refine J_ifT (tgt := 36) (by decide) (dk_X7_shift 24 _ rfl) (jI_lt (by decide : ((-1) : Int32).toInt = (-1)) (by decide : (0 : Int32).toInt = 0) (by omega)) ?_
                    refine J_bipush (v := (-11)) (by decide) (dk_X7_shift 36 _ rfl) ?_
                    exact J_iret rfl rfl (dk_X7_shift 38 _ rfl) ⟨rfl, rfl⟩
                · by_cases c21 : (o : Int32).toInt = 1
                  · obtain rfl : o = 1 := jI_eq rfl (by decide) c21
                    refine ⟨(-11), ?_, ?_⟩
                    · refine jCt_of ok_X6_shift (fun _ _ => Nat.le_of_ble_eq_true rfl) (fun _ _ hq => Nat.le_of_eq (lX.trans hq.2.symm)) ?_
                      show J _ _ _ _ _ _ _ _ [(0, .ref 0), (1, .int 2), (2, .int i), (3, .int 1), (4, .int j), (5, .int n)] _ _ _
                      refine J_iload_n (i := 1) (a := 1) rfl rfl (dk_X6_shift 0 _ rfl) ?_
                      refine J_cS (rv := some (.int 1)) (h' := hN0) (d' := 11) (As := [.int 2]) ok_X6_isTape st_X6_isTape cl_6_220 rfl (n := 1) (by decide +kernel) rfl (by decide) (by decide) (dk_X6_shift 1 _ rfl) ?_ ?_
                      · refine jCt_of ok_X6_isTape (fun _ _ => Nat.le_of_ble_eq_true rfl) (fun _ _ hq => by rw [hq.2]; first | exact Nat.le_refl _ | simp) ?_
                        show J _ _ _ _ _ _ _ _ [(0, .int 2)] _ _ _
                        refine J_iload_n (i := 0) (a := 0) rfl rfl (dk_X6_isTape 0 _ rfl) ?_
                        refine J_ifF (tgt := 14) (by decide) (dk_X6_isTape 1 _ rfl) (jI_nlt (by decide : (2 : Int32).toInt = 2) (by decide : (0 : Int32).toInt = 0) (by omega)) ?_
                        refine J_iload_n (i := 0) (a := 0) rfl rfl (dk_X6_isTape 4 _ rfl) ?_
                        refine J_bipush (v := 6) (by decide) (dk_X6_isTape 5 _ rfl) ?_
                        refine J_icF (tgt := 14) (by decide) (dk_X6_isTape 7 _ rfl) (jI_nle (by decide : (6 : Int32).toInt = 6) (by decide : (2 : Int32).toInt = 2) (by omega)) ?_
                        refine J_iconst (v := 1) (by decide) (dk_X6_isTape 10 _ rfl) ?_
                        refine J_goto (tgt := 15) (by decide) (dk_X6_isTape 11 _ rfl) ?_
                        exact J_iret rfl rfl (dk_X6_isTape 15 _ rfl) ⟨rfl, rfl⟩
                      show J _ _ _ _ _ _ _ _ _ [.int 1] _ _
                      refine J_ifF (tgt := 14) (by decide) (dk_X6_shift 4 _ rfl) (jI_ne (by decide : (1 : Int32).toInt = 1) (by decide : (0 : Int32).toInt = 0) (by omega)) ?_
                      refine J_iload_n (i := 3) (a := 3) rfl rfl (dk_X6_shift 7 _ rfl) ?_
                      refine J_cS (rv := some (.int 1)) (h' := hN0) (d' := 11) (As := [.int 1]) ok_X6_isTape st_X6_isTape cl_6_220 rfl (n := 1) (by decide +kernel) rfl (by decide) (by decide) (dk_X6_shift 8 _ rfl) ?_ ?_
                      · refine jCt_of ok_X6_isTape (fun _ _ => Nat.le_of_ble_eq_true rfl) (fun _ _ hq => by rw [hq.2]; first | exact Nat.le_refl _ | simp) ?_
                        show J _ _ _ _ _ _ _ _ [(0, .int 1)] _ _ _
                        refine J_iload_n (i := 0) (a := 0) rfl rfl (dk_X6_isTape 0 _ rfl) ?_
                        refine J_ifF (tgt := 14) (by decide) (dk_X6_isTape 1 _ rfl) (jI_nlt (by decide : (1 : Int32).toInt = 1) (by decide : (0 : Int32).toInt = 0) (by omega)) ?_
                        refine J_iload_n (i := 0) (a := 0) rfl rfl (dk_X6_isTape 4 _ rfl) ?_
                        refine J_bipush (v := 6) (by decide) (dk_X6_isTape 5 _ rfl) ?_
                        refine J_icF (tgt := 14) (by decide) (dk_X6_isTape 7 _ rfl) (jI_nle (by decide : (6 : Int32).toInt = 6) (by decide : (1 : Int32).toInt = 1) (by omega)) ?_
                        refine J_iconst (v := 1) (by decide) (dk_X6_isTape 10 _ rfl) ?_
                        refine J_goto (tgt := 15) (by decide) (dk_X6_isTape 11 _ rfl) ?_
                        exact J_iret rfl rfl (dk_X6_isTape 15 _ rfl) ⟨rfl, rfl⟩
                      show J _ _ _ _ _ _ _ _ _ [.int 1] _ _
                      refine J_ifT (tgt := 16) (by decide) (dk_X6_shift 11 _ rfl) (jI_ne (by decide : (1 : Int32).toInt = 1) (by decide : (0 : Int32).toInt = 0) (by omega)) ?_
                      refine J_aload_n (i := 0) (a := 0) rfl rfl (dk_X6_shift 16 _ rfl) ?_
                      refine J_getf fl_6_37 rfl rfl (dk_X6_shift 17 _ rfl) ?_
                      refine J_iload_n (i := 1) (a := 1) rfl rfl (dk_X6_shift 20 _ rfl) ?_
                      refine J_aald (by decide) rfl (by decide) rfl (dk_X6_shift 21 _ rfl) ?_
                      refine J_astore (i := 6) (by decide) (dk_X6_shift 22 _ rfl) ?_
                      show J _ _ _ _ _ _ _ _ [(6, .ref 86), (0, .ref 0), (1, .int 2), (2, .int i), (3, .int 1), (4, .int j), (5, .int n)] _ _ _
                      refine J_aload_n (i := 0) (a := 0) rfl rfl (dk_X6_shift 24 _ rfl) ?_
                      refine J_getf fl_6_37 rfl rfl (dk_X6_shift 25 _ rfl) ?_
                      refine J_iload_n (i := 3) (a := 3) rfl rfl (dk_X6_shift 28 _ rfl) ?_
                      refine J_aald (by decide) rfl (by decide) rfl (dk_X6_shift 29 _ rfl) ?_
                      refine J_astore (i := 7) (by decide) (dk_X6_shift 30 _ rfl) ?_
                      show J _ _ _ _ _ _ _ _ [(7, .ref 84), (6, .ref 86), (0, .ref 0), (1, .int 2), (2, .int i), (3, .int 1), (4, .int j), (5, .int n)] _ _ _
                      refine J_aload (i := 6) rfl (dk_X6_shift 32 _ rfl) ?_
                      refine J_getf fl_6_223 rfl rfl (dk_X6_shift 34 _ rfl) ?_
                      refine J_iconst (v := (-1)) (by decide) (dk_X6_shift 37 _ rfl) ?_
                      refine J_icT (tgt := 50) (by decide) (dk_X6_shift 38 _ rfl) (jI_eq (by decide : ((-1) : Int32).toInt = (-1)) (by decide : ((-1) : Int32).toInt = (-1)) (by omega)) ?_
                      refine J_bipush (v := (-11)) (by decide) (dk_X6_shift 50 _ rfl) ?_
                      exact J_iret rfl rfl (dk_X6_shift 52 _ rfl) ⟨rfl, rfl⟩
                    · refine jCt_of ok_X7_shift (fun _ _ => Nat.le_of_ble_eq_true rfl) (fun _ _ hq => Nat.le_of_eq (lM.trans hq.2.symm)) ?_
                      show J _ _ _ _ _ _ _ _ [(0, .ref 0), (1, .int 2), (2, .int i), (3, .int 1), (4, .int j), (5, .int n)] _ _ _
                      refine J_aload_n (i := 0) (a := 0) rfl rfl (dk_X7_shift 0 _ rfl) ?_
                      refine J_iload_n (i := 1) (a := 1) rfl rfl (dk_X7_shift 1 _ rfl) ?_
                      refine J_cV (rv := some (.int 1)) (h' := hM0) (d' := 11) (As := [.int 2]) ok_X7_isTape vi_X7_isTape cl_7_354 (n := 1) (by decide +kernel) rfl rfl rfl rfl (by decide) (by decide) (dk_X7_shift 2 _ rfl) ?_ ?_
                      · refine jCt_of ok_X7_isTape (fun _ _ => Nat.le_of_ble_eq_true rfl) (fun _ _ hq => by rw [hq.2]; first | exact Nat.le_refl _ | simp) ?_
                        show J _ _ _ _ _ _ _ _ [(0, .ref 0), (1, .int 2)] _ _ _
                        refine J_aload_n (i := 0) (a := 0) rfl rfl (dk_X7_isTape 0 _ rfl) ?_
                        refine J_iload_n (i := 1) (a := 1) rfl rfl (dk_X7_isTape 1 _ rfl) ?_
                        refine J_iconst (v := 0) (by decide) (dk_X7_isTape 2 _ rfl) ?_
                        refine J_iconst (v := 5) (by decide) (dk_X7_isTape 3 _ rfl) ?_
                        refine J_cV (rv := some (.int 1)) (h' := hM0) (d' := 10) (As := [.int 2, .int 0, .int 5]) ok_X7_in vi_X7_in cl_7_194 (n := 3) (by decide +kernel) rfl rfl rfl rfl (by decide) (by decide) (dk_X7_isTape 4 _ rfl) ?_ ?_
                        · refine jCt_of ok_X7_in (fun _ _ => Nat.le_of_ble_eq_true rfl) (fun _ _ hq => by rw [hq.2]; first | exact Nat.le_refl _ | simp) ?_
                          show J _ _ _ _ _ _ _ _ [(0, .ref 0), (1, .int 2), (2, .int 0), (3, .int 5)] _ _ _
                          refine J_iload_n (i := 1) (a := 1) rfl rfl (dk_X7_in 0 _ rfl) ?_
                          refine J_iload_n (i := 2) (a := 2) rfl rfl (dk_X7_in 1 _ rfl) ?_
                          refine J_icF (tgt := 14) (by decide) (dk_X7_in 2 _ rfl) (jI_nlt (by decide : (2 : Int32).toInt = 2) (by decide : (0 : Int32).toInt = 0) (by omega)) ?_
                          refine J_iload_n (i := 1) (a := 1) rfl rfl (dk_X7_in 5 _ rfl) ?_
                          refine J_iload_n (i := 3) (a := 3) rfl rfl (dk_X7_in 6 _ rfl) ?_
                          refine J_icF (tgt := 14) (by decide) (dk_X7_in 7 _ rfl) (jI_nlt (by decide : (5 : Int32).toInt = 5) (by decide : (2 : Int32).toInt = 2) (by omega)) ?_
                          refine J_iconst (v := 1) (by decide) (dk_X7_in 10 _ rfl) ?_
                          refine J_goto (tgt := 15) (by decide) (dk_X7_in 11 _ rfl) ?_
                          exact J_iret rfl rfl (dk_X7_in 15 _ rfl) ⟨rfl, rfl⟩
                        show J _ _ _ _ _ _ _ _ _ [.int 1] _ _
                        exact J_iret rfl rfl (dk_X7_isTape 7 _ rfl) ⟨rfl, rfl⟩
                      show J _ _ _ _ _ _ _ _ _ [.int 1] _ _
                      refine J_ifF (tgt := 16) (by decide) (dk_X7_shift 5 _ rfl) (jI_ne (by decide : (1 : Int32).toInt = 1) (by decide : (0 : Int32).toInt = 0) (by omega)) ?_
                      refine J_aload_n (i := 0) (a := 0) rfl rfl (dk_X7_shift 8 _ rfl) ?_
                      refine J_iload_n (i := 3) (a := 3) rfl rfl (dk_X7_shift 9 _ rfl) ?_
                      refine J_cV (rv := some (.int 1)) (h' := hM0) (d' := 11) (As := [.int 1]) ok_X7_isTape vi_X7_isTape cl_7_354 (n := 1) (by decide +kernel) rfl rfl rfl rfl (by decide) (by decide) (dk_X7_shift 10 _ rfl) ?_ ?_
                      · refine jCt_of ok_X7_isTape (fun _ _ => Nat.le_of_ble_eq_true rfl) (fun _ _ hq => by rw [hq.2]; first | exact Nat.le_refl _ | simp) ?_
                        show J _ _ _ _ _ _ _ _ [(0, .ref 0), (1, .int 1)] _ _ _
                        refine J_aload_n (i := 0) (a := 0) rfl rfl (dk_X7_isTape 0 _ rfl) ?_
                        refine J_iload_n (i := 1) (a := 1) rfl rfl (dk_X7_isTape 1 _ rfl) ?_
                        refine J_iconst (v := 0) (by decide) (dk_X7_isTape 2 _ rfl) ?_
                        refine J_iconst (v := 5) (by decide) (dk_X7_isTape 3 _ rfl) ?_
                        refine J_cV (rv := some (.int 1)) (h' := hM0) (d' := 10) (As := [.int 1, .int 0, .int 5]) ok_X7_in vi_X7_in cl_7_194 (n := 3) (by decide +kernel) rfl rfl rfl rfl (by decide) (by decide) (dk_X7_isTape 4 _ rfl) ?_ ?_
                        · refine jCt_of ok_X7_in (fun _ _ => Nat.le_of_ble_eq_true rfl) (fun _ _ hq => by rw [hq.2]; first | exact Nat.le_refl _ | simp) ?_
                          show J _ _ _ _ _ _ _ _ [(0, .ref 0), (1, .int 1), (2, .int 0), (3, .int 5)] _ _ _
                          refine J_iload_n (i := 1) (a := 1) rfl rfl (dk_X7_in 0 _ rfl) ?_
                          refine J_iload_n (i := 2) (a := 2) rfl rfl (dk_X7_in 1 _ rfl) ?_
                          refine J_icF (tgt := 14) (by decide) (dk_X7_in 2 _ rfl) (jI_nlt (by decide : (1 : Int32).toInt = 1) (by decide : (0 : Int32).toInt = 0) (by omega)) ?_
                          refine J_iload_n (i := 1) (a := 1) rfl rfl (dk_X7_in 5 _ rfl) ?_
                          refine J_iload_n (i := 3) (a := 3) rfl rfl (dk_X7_in 6 _ rfl) ?_
                          refine J_icF (tgt := 14) (by decide) (dk_X7_in 7 _ rfl) (jI_nlt (by decide : (5 : Int32).toInt = 5) (by decide : (1 : Int32).toInt = 1) (by omega)) ?_
                          refine J_iconst (v := 1) (by decide) (dk_X7_in 10 _ rfl) ?_
                          refine J_goto (tgt := 15) (by decide) (dk_X7_in 11 _ rfl) ?_
                          exact J_iret rfl rfl (dk_X7_in 15 _ rfl) ⟨rfl, rfl⟩
                        show J _ _ _ _ _ _ _ _ _ [.int 1] _ _
                        exact J_iret rfl rfl (dk_X7_isTape 7 _ rfl) ⟨rfl, rfl⟩
                      show J _ _ _ _ _ _ _ _ _ [.int 1] _ _
                      refine J_ifT (tgt := 18) (by decide) (dk_X7_shift 13 _ rfl) (jI_ne (by decide : (1 : Int32).toInt = 1) (by decide : (0 : Int32).toInt = 0) (by omega)) ?_
                      refine J_aload_n (i := 0) (a := 0) rfl rfl (dk_X7_shift 18 _ rfl) ?_
                      refine J_getf fl_7_181 rfl rfl (dk_X7_shift 19 _ rfl) ?_
                      refine J_iload_n (i := 1) (a := 1) rfl rfl (dk_X7_shift 22 _ rfl) ?_
                      refine J_iald rfl (by decide) rfl (dk_X7_shift 23 _ rfl) ?_
                      refine J_ifT (tgt := 36) (by decide) (dk_X7_shift 24 _ rfl) (jI_lt (by decide : ((-1) : Int32).toInt = (-1)) (by decide : (0 : Int32).toInt = 0) (by omega)) ?_
                      refine J_bipush (v := (-11)) (by decide) (dk_X7_shift 36 _ rfl) ?_
                      exact J_iret rfl rfl (dk_X7_shift 38 _ rfl) ⟨rfl, rfl⟩
                  · by_cases c22 : (o : Int32).toInt = 2
                    · obtain rfl : o = 2 := jI_eq rfl (by decide) c22
                      refine ⟨(-11), ?_, ?_⟩
                      · refine jCt_of ok_X6_shift (fun _ _ => Nat.le_of_ble_eq_true rfl) (fun _ _ hq => Nat.le_of_eq (lX.trans hq.2.symm)) ?_
                        show J _ _ _ _ _ _ _ _ [(0, .ref 0), (1, .int 2), (2, .int i), (3, .int 2), (4, .int j), (5, .int n)] _ _ _
                        refine J_iload_n (i := 1) (a := 1) rfl rfl (dk_X6_shift 0 _ rfl) ?_
                        refine J_cS (rv := some (.int 1)) (h' := hN0) (d' := 11) (As := [.int 2]) ok_X6_isTape st_X6_isTape cl_6_220 rfl (n := 1) (by decide +kernel) rfl (by decide) (by decide) (dk_X6_shift 1 _ rfl) ?_ ?_
                        · refine jCt_of ok_X6_isTape (fun _ _ => Nat.le_of_ble_eq_true rfl) (fun _ _ hq => by rw [hq.2]; first | exact Nat.le_refl _ | simp) ?_
                          show J _ _ _ _ _ _ _ _ [(0, .int 2)] _ _ _
                          refine J_iload_n (i := 0) (a := 0) rfl rfl (dk_X6_isTape 0 _ rfl) ?_
                          refine J_ifF (tgt := 14) (by decide) (dk_X6_isTape 1 _ rfl) (jI_nlt (by decide : (2 : Int32).toInt = 2) (by decide : (0 : Int32).toInt = 0) (by omega)) ?_
                          refine J_iload_n (i := 0) (a := 0) rfl rfl (dk_X6_isTape 4 _ rfl) ?_
                          refine J_bipush (v := 6) (by decide) (dk_X6_isTape 5 _ rfl) ?_
                          refine J_icF (tgt := 14) (by decide) (dk_X6_isTape 7 _ rfl) (jI_nle (by decide : (6 : Int32).toInt = 6) (by decide : (2 : Int32).toInt = 2) (by omega)) ?_
                          refine J_iconst (v := 1) (by decide) (dk_X6_isTape 10 _ rfl) ?_
                          refine J_goto (tgt := 15) (by decide) (dk_X6_isTape 11 _ rfl) ?_
                          exact J_iret rfl rfl (dk_X6_isTape 15 _ rfl) ⟨rfl, rfl⟩
                        show J _ _ _ _ _ _ _ _ _ [.int 1] _ _
                        refine J_ifF (tgt := 14) (by decide) (dk_X6_shift 4 _ rfl) (jI_ne (by decide : (1 : Int32).toInt = 1) (by decide : (0 : Int32).toInt = 0) (by omega)) ?_
                        refine J_iload_n (i := 3) (a := 3) rfl rfl (dk_X6_shift 7 _ rfl) ?_
                        refine J_cS (rv := some (.int 1)) (h' := hN0) (d' := 11) (As := [.int 2]) ok_X6_isTape st_X6_isTape cl_6_220 rfl (n := 1) (by decide +kernel) rfl (by decide) (by decide) (dk_X6_shift 8 _ rfl) ?_ ?_
                        · refine jCt_of ok_X6_isTape (fun _ _ => Nat.le_of_ble_eq_true rfl) (fun _ _ hq => by rw [hq.2]; first | exact Nat.le_refl _ | simp) ?_
                          show J _ _ _ _ _ _ _ _ [(0, .int 2)] _ _ _
                          refine J_iload_n (i := 0) (a := 0) rfl rfl (dk_X6_isTape 0 _ rfl) ?_
                          refine J_ifF (tgt := 14) (by decide) (dk_X6_isTape 1 _ rfl) (jI_nlt (by decide : (2 : Int32).toInt = 2) (by decide : (0 : Int32).toInt = 0) (by omega)) ?_
                          refine J_iload_n (i := 0) (a := 0) rfl rfl (dk_X6_isTape 4 _ rfl) ?_
                          refine J_bipush (v := 6) (by decide) (dk_X6_isTape 5 _ rfl) ?_
                          refine J_icF (tgt := 14) (by decide) (dk_X6_isTape 7 _ rfl) (jI_nle (by decide : (6 : Int32).toInt = 6) (by decide : (2 : Int32).toInt = 2) (by omega)) ?_
                          refine J_iconst (v := 1) (by decide) (dk_X6_isTape 10 _ rfl) ?_
                          refine J_goto (tgt := 15) (by decide) (dk_X6_isTape 11 _ rfl) ?_
                          exact J_iret rfl rfl (dk_X6_isTape 15 _ rfl) ⟨rfl, rfl⟩
                        show J _ _ _ _ _ _ _ _ _ [.int 1] _ _
                        refine J_ifT (tgt := 16) (by decide) (dk_X6_shift 11 _ rfl) (jI_ne (by decide : (1 : Int32).toInt = 1) (by decide : (0 : Int32).toInt = 0) (by omega)) ?_
                        refine J_aload_n (i := 0) (a := 0) rfl rfl (dk_X6_shift 16 _ rfl) ?_
                        refine J_getf fl_6_37 rfl rfl (dk_X6_shift 17 _ rfl) ?_
                        refine J_iload_n (i := 1) (a := 1) rfl rfl (dk_X6_shift 20 _ rfl) ?_
                        refine J_aald (by decide) rfl (by decide) rfl (dk_X6_shift 21 _ rfl) ?_
                        refine J_astore (i := 6) (by decide) (dk_X6_shift 22 _ rfl) ?_
                        show J _ _ _ _ _ _ _ _ [(6, .ref 86), (0, .ref 0), (1, .int 2), (2, .int i), (3, .int 2), (4, .int j), (5, .int n)] _ _ _
                        refine J_aload_n (i := 0) (a := 0) rfl rfl (dk_X6_shift 24 _ rfl) ?_
                        refine J_getf fl_6_37 rfl rfl (dk_X6_shift 25 _ rfl) ?_
                        refine J_iload_n (i := 3) (a := 3) rfl rfl (dk_X6_shift 28 _ rfl) ?_
                        refine J_aald (by decide) rfl (by decide) rfl (dk_X6_shift 29 _ rfl) ?_
                        refine J_astore (i := 7) (by decide) (dk_X6_shift 30 _ rfl) ?_
                        show J _ _ _ _ _ _ _ _ [(7, .ref 86), (6, .ref 86), (0, .ref 0), (1, .int 2), (2, .int i), (3, .int 2), (4, .int j), (5, .int n)] _ _ _
                        refine J_aload (i := 6) rfl (dk_X6_shift 32 _ rfl) ?_
                        refine J_getf fl_6_223 rfl rfl (dk_X6_shift 34 _ rfl) ?_
                        refine J_iconst (v := (-1)) (by decide) (dk_X6_shift 37 _ rfl) ?_
                        refine J_icT (tgt := 50) (by decide) (dk_X6_shift 38 _ rfl) (jI_eq (by decide : ((-1) : Int32).toInt = (-1)) (by decide : ((-1) : Int32).toInt = (-1)) (by omega)) ?_
                        refine J_bipush (v := (-11)) (by decide) (dk_X6_shift 50 _ rfl) ?_
                        exact J_iret rfl rfl (dk_X6_shift 52 _ rfl) ⟨rfl, rfl⟩
                      · refine jCt_of ok_X7_shift (fun _ _ => Nat.le_of_ble_eq_true rfl) (fun _ _ hq => Nat.le_of_eq (lM.trans hq.2.symm)) ?_
                        show J _ _ _ _ _ _ _ _ [(0, .ref 0), (1, .int 2), (2, .int i), (3, .int 2), (4, .int j), (5, .int n)] _ _ _
                        refine J_aload_n (i := 0) (a := 0) rfl rfl (dk_X7_shift 0 _ rfl) ?_
                        refine J_iload_n (i := 1) (a := 1) rfl rfl (dk_X7_shift 1 _ rfl) ?_
                        refine J_cV (rv := some (.int 1)) (h' := hM0) (d' := 11) (As := [.int 2]) ok_X7_isTape vi_X7_isTape cl_7_354 (n := 1) (by decide +kernel) rfl rfl rfl rfl (by decide) (by decide) (dk_X7_shift 2 _ rfl) ?_ ?_
                        · refine jCt_of ok_X7_isTape (fun _ _ => Nat.le_of_ble_eq_true rfl) (fun _ _ hq => by rw [hq.2]; first | exact Nat.le_refl _ | simp) ?_
                          show J _ _ _ _ _ _ _ _ [(0, .ref 0), (1, .int 2)] _ _ _
                          refine J_aload_n (i := 0) (a := 0) rfl rfl (dk_X7_isTape 0 _ rfl) ?_
                          refine J_iload_n (i := 1) (a := 1) rfl rfl (dk_X7_isTape 1 _ rfl) ?_
                          refine J_iconst (v := 0) (by decide) (dk_X7_isTape 2 _ rfl) ?_
                          refine J_iconst (v := 5) (by decide) (dk_X7_isTape 3 _ rfl) ?_
                          refine J_cV (rv := some (.int 1)) (h' := hM0) (d' := 10) (As := [.int 2, .int 0, .int 5]) ok_X7_in vi_X7_in cl_7_194 (n := 3) (by decide +kernel) rfl rfl rfl rfl (by decide) (by decide) (dk_X7_isTape 4 _ rfl) ?_ ?_
                          · refine jCt_of ok_X7_in (fun _ _ => Nat.le_of_ble_eq_true rfl) (fun _ _ hq => by rw [hq.2]; first | exact Nat.le_refl _ | simp) ?_
                            show J _ _ _ _ _ _ _ _ [(0, .ref 0), (1, .int 2), (2, .int 0), (3, .int 5)] _ _ _
                            refine J_iload_n (i := 1) (a := 1) rfl rfl (dk_X7_in 0 _ rfl) ?_
                            refine J_iload_n (i := 2) (a := 2) rfl rfl (dk_X7_in 1 _ rfl) ?_
                            refine J_icF (tgt := 14) (by decide) (dk_X7_in 2 _ rfl) (jI_nlt (by decide : (2 : Int32).toInt = 2) (by decide : (0 : Int32).toInt = 0) (by omega)) ?_
                            refine J_iload_n (i := 1) (a := 1) rfl rfl (dk_X7_in 5 _ rfl) ?_
                            refine J_iload_n (i := 3) (a := 3) rfl rfl (dk_X7_in 6 _ rfl) ?_
                            refine J_icF (tgt := 14) (by decide) (dk_X7_in 7 _ rfl) (jI_nlt (by decide : (5 : Int32).toInt = 5) (by decide : (2 : Int32).toInt = 2) (by omega)) ?_
                            refine J_iconst (v := 1) (by decide) (dk_X7_in 10 _ rfl) ?_
                            refine J_goto (tgt := 15) (by decide) (dk_X7_in 11 _ rfl) ?_
                            exact J_iret rfl rfl (dk_X7_in 15 _ rfl) ⟨rfl, rfl⟩
                          show J _ _ _ _ _ _ _ _ _ [.int 1] _ _
                          exact J_iret rfl rfl (dk_X7_isTape 7 _ rfl) ⟨rfl, rfl⟩
                        show J _ _ _ _ _ _ _ _ _ [.int 1] _ _
                        refine J_ifF (tgt := 16) (by decide) (dk_X7_shift 5 _ rfl) (jI_ne (by decide : (1 : Int32).toInt = 1) (by decide : (0 : Int32).toInt = 0) (by omega)) ?_
                        refine J_aload_n (i := 0) (a := 0) rfl rfl (dk_X7_shift 8 _ rfl) ?_
                        refine J_iload_n (i := 3) (a := 3) rfl rfl (dk_X7_shift 9 _ rfl) ?_
                        refine J_cV (rv := some (.int 1)) (h' := hM0) (d' := 11) (As := [.int 2]) ok_X7_isTape vi_X7_isTape cl_7_354 (n := 1) (by decide +kernel) rfl rfl rfl rfl (by decide) (by decide) (dk_X7_shift 10 _ rfl) ?_ ?_
                        · refine jCt_of ok_X7_isTape (fun _ _ => Nat.le_of_ble_eq_true rfl) (fun _ _ hq => by rw [hq.2]; first | exact Nat.le_refl _ | simp) ?_
                          show J _ _ _ _ _ _ _ _ [(0, .ref 0), (1, .int 2)] _ _ _
                          refine J_aload_n (i := 0) (a := 0) rfl rfl (dk_X7_isTape 0 _ rfl) ?_
                          refine J_iload_n (i := 1) (a := 1) rfl rfl (dk_X7_isTape 1 _ rfl) ?_
                          refine J_iconst (v := 0) (by decide) (dk_X7_isTape 2 _ rfl) ?_
                          refine J_iconst (v := 5) (by decide) (dk_X7_isTape 3 _ rfl) ?_
                          refine J_cV (rv := some (.int 1)) (h' := hM0) (d' := 10) (As := [.int 2, .int 0, .int 5]) ok_X7_in vi_X7_in cl_7_194 (n := 3) (by decide +kernel) rfl rfl rfl rfl (by decide) (by decide) (dk_X7_isTape 4 _ rfl) ?_ ?_
                          · refine jCt_of ok_X7_in (fun _ _ => Nat.le_of_ble_eq_true rfl) (fun _ _ hq => by rw [hq.2]; first | exact Nat.le_refl _ | simp) ?_
                            show J _ _ _ _ _ _ _ _ [(0, .ref 0), (1, .int 2), (2, .int 0), (3, .int 5)] _ _ _
                            refine J_iload_n (i := 1) (a := 1) rfl rfl (dk_X7_in 0 _ rfl) ?_
                            refine J_iload_n (i := 2) (a := 2) rfl rfl (dk_X7_in 1 _ rfl) ?_
                            refine J_icF (tgt := 14) (by decide) (dk_X7_in 2 _ rfl) (jI_nlt (by decide : (2 : Int32).toInt = 2) (by decide : (0 : Int32).toInt = 0) (by omega)) ?_
                            refine J_iload_n (i := 1) (a := 1) rfl rfl (dk_X7_in 5 _ rfl) ?_
                            refine J_iload_n (i := 3) (a := 3) rfl rfl (dk_X7_in 6 _ rfl) ?_
                            refine J_icF (tgt := 14) (by decide) (dk_X7_in 7 _ rfl) (jI_nlt (by decide : (5 : Int32).toInt = 5) (by decide : (2 : Int32).toInt = 2) (by omega)) ?_
                            refine J_iconst (v := 1) (by decide) (dk_X7_in 10 _ rfl) ?_
                            refine J_goto (tgt := 15) (by decide) (dk_X7_in 11 _ rfl) ?_
                            exact J_iret rfl rfl (dk_X7_in 15 _ rfl) ⟨rfl, rfl⟩
                          show J _ _ _ _ _ _ _ _ _ [.int 1] _ _
                          exact J_iret rfl rfl (dk_X7_isTape 7 _ rfl) ⟨rfl, rfl⟩
                        show J _ _ _ _ _ _ _ _ _ [.int 1] _ _
                        refine J_ifT (tgt := 18) (by decide) (dk_X7_shift 13 _ rfl) (jI_ne (by decide : (1 : Int32).toInt = 1) (by decide : (0 : Int32).toInt = 0) (by omega)) ?_
                        refine J_aload_n (i := 0) (a := 0) rfl rfl (dk_X7_shift 18 _ rfl) ?_
                        refine J_getf fl_7_181 rfl rfl (dk_X7_shift 19 _ rfl) ?_
                        refine J_iload_n (i := 1) (a := 1) rfl rfl (dk_X7_shift 22 _ rfl) ?_
                        refine J_iald rfl (by decide) rfl (dk_X7_shift 23 _ rfl) ?_
                        refine J_ifT (tgt := 36) (by decide) (dk_X7_shift 24 _ rfl) (jI_lt (by decide : ((-1) : Int32).toInt = (-1)) (by decide : (0 : Int32).toInt = 0) (by omega)) ?_
                        refine J_bipush (v := (-11)) (by decide) (dk_X7_shift 36 _ rfl) ?_
                        exact J_iret rfl rfl (dk_X7_shift 38 _ rfl) ⟨rfl, rfl⟩
                    · by_cases c23 : (o : Int32).toInt = 3
                      · obtain rfl : o = 3 := jI_eq rfl (by decide) c23
                        refine ⟨(-11), ?_, ?_⟩
                        · refine jCt_of ok_X6_shift (fun _ _ => Nat.le_of_ble_eq_true rfl) (fun _ _ hq => Nat.le_of_eq (lX.trans hq.2.symm)) ?_
                          show J _ _ _ _ _ _ _ _ [(0, .ref 0), (1, .int 2), (2, .int i), (3, .int 3), (4, .int j), (5, .int n)] _ _ _
                          refine J_iload_n (i := 1) (a := 1) rfl rfl (dk_X6_shift 0 _ rfl) ?_
                          refine J_cS (rv := some (.int 1)) (h' := hN0) (d' := 11) (As := [.int 2]) ok_X6_isTape st_X6_isTape cl_6_220 rfl (n := 1) (by decide +kernel) rfl (by decide) (by decide) (dk_X6_shift 1 _ rfl) ?_ ?_
                          · refine jCt_of ok_X6_isTape (fun _ _ => Nat.le_of_ble_eq_true rfl) (fun _ _ hq => by rw [hq.2]; first | exact Nat.le_refl _ | simp) ?_
                            show J _ _ _ _ _ _ _ _ [(0, .int 2)] _ _ _
                            refine J_iload_n (i := 0) (a := 0) rfl rfl (dk_X6_isTape 0 _ rfl) ?_
                            refine J_ifF (tgt := 14) (by decide) (dk_X6_isTape 1 _ rfl) (jI_nlt (by decide : (2 : Int32).toInt = 2) (by decide : (0 : Int32).toInt = 0) (by omega)) ?_
                            refine J_iload_n (i := 0) (a := 0) rfl rfl (dk_X6_isTape 4 _ rfl) ?_
                            refine J_bipush (v := 6) (by decide) (dk_X6_isTape 5 _ rfl) ?_
                            refine J_icF (tgt := 14) (by decide) (dk_X6_isTape 7 _ rfl) (jI_nle (by decide : (6 : Int32).toInt = 6) (by decide : (2 : Int32).toInt = 2) (by omega)) ?_
                            refine J_iconst (v := 1) (by decide) (dk_X6_isTape 10 _ rfl) ?_
                            refine J_goto (tgt := 15) (by decide) (dk_X6_isTape 11 _ rfl) ?_
                            exact J_iret rfl rfl (dk_X6_isTape 15 _ rfl) ⟨rfl, rfl⟩
                          show J _ _ _ _ _ _ _ _ _ [.int 1] _ _
                          refine J_ifF (tgt := 14) (by decide) (dk_X6_shift 4 _ rfl) (jI_ne (by decide : (1 : Int32).toInt = 1) (by decide : (0 : Int32).toInt = 0) (by omega)) ?_
                          refine J_iload_n (i := 3) (a := 3) rfl rfl (dk_X6_shift 7 _ rfl) ?_
                          refine J_cS (rv := some (.int 1)) (h' := hN0) (d' := 11) (As := [.int 3]) ok_X6_isTape st_X6_isTape cl_6_220 rfl (n := 1) (by decide +kernel) rfl (by decide) (by decide) (dk_X6_shift 8 _ rfl) ?_ ?_
                          · refine jCt_of ok_X6_isTape (fun _ _ => Nat.le_of_ble_eq_true rfl) (fun _ _ hq => by rw [hq.2]; first | exact Nat.le_refl _ | simp) ?_
                            show J _ _ _ _ _ _ _ _ [(0, .int 3)] _ _ _
                            refine J_iload_n (i := 0) (a := 0) rfl rfl (dk_X6_isTape 0 _ rfl) ?_
                            refine J_ifF (tgt := 14) (by decide) (dk_X6_isTape 1 _ rfl) (jI_nlt (by decide : (3 : Int32).toInt = 3) (by decide : (0 : Int32).toInt = 0) (by omega)) ?_
                            refine J_iload_n (i := 0) (a := 0) rfl rfl (dk_X6_isTape 4 _ rfl) ?_
                            refine J_bipush (v := 6) (by decide) (dk_X6_isTape 5 _ rfl) ?_
                            refine J_icF (tgt := 14) (by decide) (dk_X6_isTape 7 _ rfl) (jI_nle (by decide : (6 : Int32).toInt = 6) (by decide : (3 : Int32).toInt = 3) (by omega)) ?_
                            refine J_iconst (v := 1) (by decide) (dk_X6_isTape 10 _ rfl) ?_
                            refine J_goto (tgt := 15) (by decide) (dk_X6_isTape 11 _ rfl) ?_
                            exact J_iret rfl rfl (dk_X6_isTape 15 _ rfl) ⟨rfl, rfl⟩
                          show J _ _ _ _ _ _ _ _ _ [.int 1] _ _
                          refine J_ifT (tgt := 16) (by decide) (dk_X6_shift 11 _ rfl) (jI_ne (by decide : (1 : Int32).toInt = 1) (by decide : (0 : Int32).toInt = 0) (by omega)) ?_
                          refine J_aload_n (i := 0) (a := 0) rfl rfl (dk_X6_shift 16 _ rfl) ?_
                          refine J_getf fl_6_37 rfl rfl (dk_X6_shift 17 _ rfl) ?_
                          refine J_iload_n (i := 1) (a := 1) rfl rfl (dk_X6_shift 20 _ rfl) ?_
                          refine J_aald (by decide) rfl (by decide) rfl (dk_X6_shift 21 _ rfl) ?_
                          refine J_astore (i := 6) (by decide) (dk_X6_shift 22 _ rfl) ?_
                          show J _ _ _ _ _ _ _ _ [(6, .ref 86), (0, .ref 0), (1, .int 2), (2, .int i), (3, .int 3), (4, .int j), (5, .int n)] _ _ _
                          refine J_aload_n (i := 0) (a := 0) rfl rfl (dk_X6_shift 24 _ rfl) ?_
                          refine J_getf fl_6_37 rfl rfl (dk_X6_shift 25 _ rfl) ?_
                          refine J_iload_n (i := 3) (a := 3) rfl rfl (dk_X6_shift 28 _ rfl) ?_
                          refine J_aald (by decide) rfl (by decide) rfl (dk_X6_shift 29 _ rfl) ?_
                          refine J_astore (i := 7) (by decide) (dk_X6_shift 30 _ rfl) ?_
                          show J _ _ _ _ _ _ _ _ [(7, .ref 88), (6, .ref 86), (0, .ref 0), (1, .int 2), (2, .int i), (3, .int 3), (4, .int j), (5, .int n)] _ _ _
                          refine J_aload (i := 6) rfl (dk_X6_shift 32 _ rfl) ?_
                          refine J_getf fl_6_223 rfl rfl (dk_X6_shift 34 _ rfl) ?_
                          refine J_iconst (v := (-1)) (by decide) (dk_X6_shift 37 _ rfl) ?_
                          refine J_icT (tgt := 50) (by decide) (dk_X6_shift 38 _ rfl) (jI_eq (by decide : ((-1) : Int32).toInt = (-1)) (by decide : ((-1) : Int32).toInt = (-1)) (by omega)) ?_
                          refine J_bipush (v := (-11)) (by decide) (dk_X6_shift 50 _ rfl) ?_
                          exact J_iret rfl rfl (dk_X6_shift 52 _ rfl) ⟨rfl, rfl⟩
                        · refine jCt_of ok_X7_shift (fun _ _ => Nat.le_of_ble_eq_true rfl) (fun _ _ hq => Nat.le_of_eq (lM.trans hq.2.symm)) ?_
                          show J _ _ _ _ _ _ _ _ [(0, .ref 0), (1, .int 2), (2, .int i), (3, .int 3), (4, .int j), (5, .int n)] _ _ _
                          refine J_aload_n (i := 0) (a := 0) rfl rfl (dk_X7_shift 0 _ rfl) ?_
                          refine J_iload_n (i := 1) (a := 1) rfl rfl (dk_X7_shift 1 _ rfl) ?_
                          refine J_cV (rv := some (.int 1)) (h' := hM0) (d' := 11) (As := [.int 2]) ok_X7_isTape vi_X7_isTape cl_7_354 (n := 1) (by decide +kernel) rfl rfl rfl rfl (by decide) (by decide) (dk_X7_shift 2 _ rfl) ?_ ?_
                          · refine jCt_of ok_X7_isTape (fun _ _ => Nat.le_of_ble_eq_true rfl) (fun _ _ hq => by rw [hq.2]; first | exact Nat.le_refl _ | simp) ?_
                            show J _ _ _ _ _ _ _ _ [(0, .ref 0), (1, .int 2)] _ _ _
                            refine J_aload_n (i := 0) (a := 0) rfl rfl (dk_X7_isTape 0 _ rfl) ?_
                            refine J_iload_n (i := 1) (a := 1) rfl rfl (dk_X7_isTape 1 _ rfl) ?_
                            refine J_iconst (v := 0) (by decide) (dk_X7_isTape 2 _ rfl) ?_
                            refine J_iconst (v := 5) (by decide) (dk_X7_isTape 3 _ rfl) ?_
                            refine J_cV (rv := some (.int 1)) (h' := hM0) (d' := 10) (As := [.int 2, .int 0, .int 5]) ok_X7_in vi_X7_in cl_7_194 (n := 3) (by decide +kernel) rfl rfl rfl rfl (by decide) (by decide) (dk_X7_isTape 4 _ rfl) ?_ ?_
                            · refine jCt_of ok_X7_in (fun _ _ => Nat.le_of_ble_eq_true rfl) (fun _ _ hq => by rw [hq.2]; first | exact Nat.le_refl _ | simp) ?_
                              show J _ _ _ _ _ _ _ _ [(0, .ref 0), (1, .int 2), (2, .int 0), (3, .int 5)] _ _ _
                              refine J_iload_n (i := 1) (a := 1) rfl rfl (dk_X7_in 0 _ rfl) ?_
                              refine J_iload_n (i := 2) (a := 2) rfl rfl (dk_X7_in 1 _ rfl) ?_
                              refine J_icF (tgt := 14) (by decide) (dk_X7_in 2 _ rfl) (jI_nlt (by decide : (2 : Int32).toInt = 2) (by decide : (0 : Int32).toInt = 0) (by omega)) ?_
                              refine J_iload_n (i := 1) (a := 1) rfl rfl (dk_X7_in 5 _ rfl) ?_
                              refine J_iload_n (i := 3) (a := 3) rfl rfl (dk_X7_in 6 _ rfl) ?_
                              refine J_icF (tgt := 14) (by decide) (dk_X7_in 7 _ rfl) (jI_nlt (by decide : (5 : Int32).toInt = 5) (by decide : (2 : Int32).toInt = 2) (by omega)) ?_
                              refine J_iconst (v := 1) (by decide) (dk_X7_in 10 _ rfl) ?_
                              refine J_goto (tgt := 15) (by decide) (dk_X7_in 11 _ rfl) ?_
                              exact J_iret rfl rfl (dk_X7_in 15 _ rfl) ⟨rfl, rfl⟩
                            show J _ _ _ _ _ _ _ _ _ [.int 1] _ _
                            exact J_iret rfl rfl (dk_X7_isTape 7 _ rfl) ⟨rfl, rfl⟩
                          show J _ _ _ _ _ _ _ _ _ [.int 1] _ _
                          refine J_ifF (tgt := 16) (by decide) (dk_X7_shift 5 _ rfl) (jI_ne (by decide : (1 : Int32).toInt = 1) (by decide : (0 : Int32).toInt = 0) (by omega)) ?_
                          refine J_aload_n (i := 0) (a := 0) rfl rfl (dk_X7_shift 8 _ rfl) ?_
                          refine J_iload_n (i := 3) (a := 3) rfl rfl (dk_X7_shift 9 _ rfl) ?_
                          refine J_cV (rv := some (.int 1)) (h' := hM0) (d' := 11) (As := [.int 3]) ok_X7_isTape vi_X7_isTape cl_7_354 (n := 1) (by decide +kernel) rfl rfl rfl rfl (by decide) (by decide) (dk_X7_shift 10 _ rfl) ?_ ?_
                          · refine jCt_of ok_X7_isTape (fun _ _ => Nat.le_of_ble_eq_true rfl) (fun _ _ hq => by rw [hq.2]; first | exact Nat.le_refl _ | simp) ?_
                            show J _ _ _ _ _ _ _ _ [(0, .ref 0), (1, .int 3)] _ _ _
                            refine J_aload_n (i := 0) (a := 0) rfl rfl (dk_X7_isTape 0 _ rfl) ?_
                            refine J_iload_n (i := 1) (a := 1) rfl rfl (dk_X7_isTape 1 _ rfl) ?_
                            refine J_iconst (v := 0) (by decide) (dk_X7_isTape 2 _ rfl) ?_
                            refine J_iconst (v := 5) (by decide) (dk_X7_isTape 3 _ rfl) ?_
                            refine J_cV (rv := some (.int 1)) (h' := hM0) (d' := 10) (As := [.int 3, .int 0, .int 5]) ok_X7_in vi_X7_in cl_7_194 (n := 3) (by decide +kernel) rfl rfl rfl rfl (by decide) (by decide) (dk_X7_isTape 4 _ rfl) ?_ ?_
                            · refine jCt_of ok_X7_in (fun _ _ => Nat.le_of_ble_eq_true rfl) (fun _ _ hq => by rw [hq.2]; first | exact Nat.le_refl _ | simp) ?_
                              show J _ _ _ _ _ _ _ _ [(0, .ref 0), (1, .int 3), (2, .int 0), (3, .int 5)] _ _ _
                              refine J_iload_n (i := 1) (a := 1) rfl rfl (dk_X7_in 0 _ rfl) ?_
                              refine J_iload_n (i := 2) (a := 2) rfl rfl (dk_X7_in 1 _ rfl) ?_
                              refine J_icF (tgt := 14) (by decide) (dk_X7_in 2 _ rfl) (jI_nlt (by decide : (3 : Int32).toInt = 3) (by decide : (0 : Int32).toInt = 0) (by omega)) ?_
                              refine J_iload_n (i := 1) (a := 1) rfl rfl (dk_X7_in 5 _ rfl) ?_
                              refine J_iload_n (i := 3) (a := 3) rfl rfl (dk_X7_in 6 _ rfl) ?_
                              refine J_icF (tgt := 14) (by decide) (dk_X7_in 7 _ rfl) (jI_nlt (by decide : (5 : Int32).toInt = 5) (by decide : (3 : Int32).toInt = 3) (by omega)) ?_
                              refine J_iconst (v := 1) (by decide) (dk_X7_in 10 _ rfl) ?_
                              refine J_goto (tgt := 15) (by decide) (dk_X7_in 11 _ rfl) ?_
                              exact J_iret rfl rfl (dk_X7_in 15 _ rfl) ⟨rfl, rfl⟩
                            show J _ _ _ _ _ _ _ _ _ [.int 1] _ _
                            exact J_iret rfl rfl (dk_X7_isTape 7 _ rfl) ⟨rfl, rfl⟩
                          show J _ _ _ _ _ _ _ _ _ [.int 1] _ _
                          refine J_ifT (tgt := 18) (by decide) (dk_X7_shift 13 _ rfl) (jI_ne (by decide : (1 : Int32).toInt = 1) (by decide : (0 : Int32).toInt = 0) (by omega)) ?_
                          refine J_aload_n (i := 0) (a := 0) rfl rfl (dk_X7_shift 18 _ rfl) ?_
                          refine J_getf fl_7_181 rfl rfl (dk_X7_shift 19 _ rfl) ?_
                          refine J_iload_n (i := 1) (a := 1) rfl rfl (dk_X7_shift 22 _ rfl) ?_
                          refine J_iald rfl (by decide) rfl (dk_X7_shift 23 _ rfl) ?_
                          refine J_ifT (tgt := 36) (by decide) (dk_X7_shift 24 _ rfl) (jI_lt (by decide : ((-1) : Int32).toInt = (-1)) (by decide : (0 : Int32).toInt = 0) (by omega)) ?_
                          refine J_bipush (v := (-11)) (by decide) (dk_X7_shift 36 _ rfl) ?_
                          exact J_iret rfl rfl (dk_X7_shift 38 _ rfl) ⟨rfl, rfl⟩
                      · by_cases c24 : (o : Int32).toInt = 4
                        · obtain rfl : o = 4 := jI_eq rfl (by decide) c24
                          refine ⟨(-11), ?_, ?_⟩
                          · refine jCt_of ok_X6_shift (fun _ _ => Nat.le_of_ble_eq_true rfl) (fun _ _ hq => Nat.le_of_eq (lX.trans hq.2.symm)) ?_
                            show J _ _ _ _ _ _ _ _ [(0, .ref 0), (1, .int 2), (2, .int i), (3, .int 4), (4, .int j), (5, .int n)] _ _ _
                            refine J_iload_n (i := 1) (a := 1) rfl rfl (dk_X6_shift 0 _ rfl) ?_
                            refine J_cS (rv := some (.int 1)) (h' := hN0) (d' := 11) (As := [.int 2]) ok_X6_isTape st_X6_isTape cl_6_220 rfl (n := 1) (by decide +kernel) rfl (by decide) (by decide) (dk_X6_shift 1 _ rfl) ?_ ?_
                            · refine jCt_of ok_X6_isTape (fun _ _ => Nat.le_of_ble_eq_true rfl) (fun _ _ hq => by rw [hq.2]; first | exact Nat.le_refl _ | simp) ?_
                              show J _ _ _ _ _ _ _ _ [(0, .int 2)] _ _ _
                              refine J_iload_n (i := 0) (a := 0) rfl rfl (dk_X6_isTape 0 _ rfl) ?_
                              refine J_ifF (tgt := 14) (by decide) (dk_X6_isTape 1 _ rfl) (jI_nlt (by decide : (2 : Int32).toInt = 2) (by decide : (0 : Int32).toInt = 0) (by omega)) ?_
                              refine J_iload_n (i := 0) (a := 0) rfl rfl (dk_X6_isTape 4 _ rfl) ?_
                              refine J_bipush (v := 6) (by decide) (dk_X6_isTape 5 _ rfl) ?_
                              refine J_icF (tgt := 14) (by decide) (dk_X6_isTape 7 _ rfl) (jI_nle (by decide : (6 : Int32).toInt = 6) (by decide : (2 : Int32).toInt = 2) (by omega)) ?_
                              refine J_iconst (v := 1) (by decide) (dk_X6_isTape 10 _ rfl) ?_
                              refine J_goto (tgt := 15) (by decide) (dk_X6_isTape 11 _ rfl) ?_
                              exact J_iret rfl rfl (dk_X6_isTape 15 _ rfl) ⟨rfl, rfl⟩
                            show J _ _ _ _ _ _ _ _ _ [.int 1] _ _
                            refine J_ifF (tgt := 14) (by decide) (dk_X6_shift 4 _ rfl) (jI_ne (by decide : (1 : Int32).toInt = 1) (by decide : (0 : Int32).toInt = 0) (by omega)) ?_
                            refine J_iload_n (i := 3) (a := 3) rfl rfl (dk_X6_shift 7 _ rfl) ?_
                            refine J_cS (rv := some (.int 1)) (h' := hN0) (d' := 11) (As := [.int 4]) ok_X6_isTape st_X6_isTape cl_6_220 rfl (n := 1) (by decide +kernel) rfl (by decide) (by decide) (dk_X6_shift 8 _ rfl) ?_ ?_
                            · refine jCt_of ok_X6_isTape (fun _ _ => Nat.le_of_ble_eq_true rfl) (fun _ _ hq => by rw [hq.2]; first | exact Nat.le_refl _ | simp) ?_
                              show J _ _ _ _ _ _ _ _ [(0, .int 4)] _ _ _
                              refine J_iload_n (i := 0) (a := 0) rfl rfl (dk_X6_isTape 0 _ rfl) ?_
                              refine J_ifF (tgt := 14) (by decide) (dk_X6_isTape 1 _ rfl) (jI_nlt (by decide : (4 : Int32).toInt = 4) (by decide : (0 : Int32).toInt = 0) (by omega)) ?_
                              refine J_iload_n (i := 0) (a := 0) rfl rfl (dk_X6_isTape 4 _ rfl) ?_
                              refine J_bipush (v := 6) (by decide) (dk_X6_isTape 5 _ rfl) ?_
                              refine J_icF (tgt := 14) (by decide) (dk_X6_isTape 7 _ rfl) (jI_nle (by decide : (6 : Int32).toInt = 6) (by decide : (4 : Int32).toInt = 4) (by omega)) ?_
                              refine J_iconst (v := 1) (by decide) (dk_X6_isTape 10 _ rfl) ?_
                              refine J_goto (tgt := 15) (by decide) (dk_X6_isTape 11 _ rfl) ?_
                              exact J_iret rfl rfl (dk_X6_isTape 15 _ rfl) ⟨rfl, rfl⟩
                            show J _ _ _ _ _ _ _ _ _ [.int 1] _ _
                            refine J_ifT (tgt := 16) (by decide) (dk_X6_shift 11 _ rfl) (jI_ne (by decide : (1 : Int32).toInt = 1) (by decide : (0 : Int32).toInt = 0) (by omega)) ?_
                            refine J_aload_n (i := 0) (a := 0) rfl rfl (dk_X6_shift 16 _ rfl) ?_
                            refine J_getf fl_6_37 rfl rfl (dk_X6_shift 17 _ rfl) ?_
                            refine J_iload_n (i := 1) (a := 1) rfl rfl (dk_X6_shift 20 _ rfl) ?_
                            refine J_aald (by decide) rfl (by decide) rfl (dk_X6_shift 21 _ rfl) ?_
                            refine J_astore (i := 6) (by decide) (dk_X6_shift 22 _ rfl) ?_
                            show J _ _ _ _ _ _ _ _ [(6, .ref 86), (0, .ref 0), (1, .int 2), (2, .int i), (3, .int 4), (4, .int j), (5, .int n)] _ _ _
                            refine J_aload_n (i := 0) (a := 0) rfl rfl (dk_X6_shift 24 _ rfl) ?_
                            refine J_getf fl_6_37 rfl rfl (dk_X6_shift 25 _ rfl) ?_
                            refine J_iload_n (i := 3) (a := 3) rfl rfl (dk_X6_shift 28 _ rfl) ?_
                            refine J_aald (by decide) rfl (by decide) rfl (dk_X6_shift 29 _ rfl) ?_
                            refine J_astore (i := 7) (by decide) (dk_X6_shift 30 _ rfl) ?_
                            show J _ _ _ _ _ _ _ _ [(7, .ref 90), (6, .ref 86), (0, .ref 0), (1, .int 2), (2, .int i), (3, .int 4), (4, .int j), (5, .int n)] _ _ _
                            refine J_aload (i := 6) rfl (dk_X6_shift 32 _ rfl) ?_
                            refine J_getf fl_6_223 rfl rfl (dk_X6_shift 34 _ rfl) ?_
                            refine J_iconst (v := (-1)) (by decide) (dk_X6_shift 37 _ rfl) ?_
                            refine J_icT (tgt := 50) (by decide) (dk_X6_shift 38 _ rfl) (jI_eq (by decide : ((-1) : Int32).toInt = (-1)) (by decide : ((-1) : Int32).toInt = (-1)) (by omega)) ?_
                            refine J_bipush (v := (-11)) (by decide) (dk_X6_shift 50 _ rfl) ?_
                            exact J_iret rfl rfl (dk_X6_shift 52 _ rfl) ⟨rfl, rfl⟩
                          · refine jCt_of ok_X7_shift (fun _ _ => Nat.le_of_ble_eq_true rfl) (fun _ _ hq => Nat.le_of_eq (lM.trans hq.2.symm)) ?_
                            show J _ _ _ _ _ _ _ _ [(0, .ref 0), (1, .int 2), (2, .int i), (3, .int 4), (4, .int j), (5, .int n)] _ _ _
                            refine J_aload_n (i := 0) (a := 0) rfl rfl (dk_X7_shift 0 _ rfl) ?_
                            refine J_iload_n (i := 1) (a := 1) rfl rfl (dk_X7_shift 1 _ rfl) ?_
                            refine J_cV (rv := some (.int 1)) (h' := hM0) (d' := 11) (As := [.int 2]) ok_X7_isTape vi_X7_isTape cl_7_354 (n := 1) (by decide +kernel) rfl rfl rfl rfl (by decide) (by decide) (dk_X7_shift 2 _ rfl) ?_ ?_
                            · refine jCt_of ok_X7_isTape (fun _ _ => Nat.le_of_ble_eq_true rfl) (fun _ _ hq => by rw [hq.2]; first | exact Nat.le_refl _ | simp) ?_
                              show J _ _ _ _ _ _ _ _ [(0, .ref 0), (1, .int 2)] _ _ _
                              refine J_aload_n (i := 0) (a := 0) rfl rfl (dk_X7_isTape 0 _ rfl) ?_
                              refine J_iload_n (i := 1) (a := 1) rfl rfl (dk_X7_isTape 1 _ rfl) ?_
                              refine J_iconst (v := 0) (by decide) (dk_X7_isTape 2 _ rfl) ?_
                              refine J_iconst (v := 5) (by decide) (dk_X7_isTape 3 _ rfl) ?_
                              refine J_cV (rv := some (.int 1)) (h' := hM0) (d' := 10) (As := [.int 2, .int 0, .int 5]) ok_X7_in vi_X7_in cl_7_194 (n := 3) (by decide +kernel) rfl rfl rfl rfl (by decide) (by decide) (dk_X7_isTape 4 _ rfl) ?_ ?_
                              · refine jCt_of ok_X7_in (fun _ _ => Nat.le_of_ble_eq_true rfl) (fun _ _ hq => by rw [hq.2]; first | exact Nat.le_refl _ | simp) ?_
                                show J _ _ _ _ _ _ _ _ [(0, .ref 0), (1, .int 2), (2, .int 0), (3, .int 5)] _ _ _
                                refine J_iload_n (i := 1) (a := 1) rfl rfl (dk_X7_in 0 _ rfl) ?_
                                refine J_iload_n (i := 2) (a := 2) rfl rfl (dk_X7_in 1 _ rfl) ?_
                                refine J_icF (tgt := 14) (by decide) (dk_X7_in 2 _ rfl) (jI_nlt (by decide : (2 : Int32).toInt = 2) (by decide : (0 : Int32).toInt = 0) (by omega)) ?_
                                refine J_iload_n (i := 1) (a := 1) rfl rfl (dk_X7_in 5 _ rfl) ?_
                                refine J_iload_n (i := 3) (a := 3) rfl rfl (dk_X7_in 6 _ rfl) ?_
                                refine J_icF (tgt := 14) (by decide) (dk_X7_in 7 _ rfl) (jI_nlt (by decide : (5 : Int32).toInt = 5) (by decide : (2 : Int32).toInt = 2) (by omega)) ?_
                                refine J_iconst (v := 1) (by decide) (dk_X7_in 10 _ rfl) ?_
                                refine J_goto (tgt := 15) (by decide) (dk_X7_in 11 _ rfl) ?_
                                exact J_iret rfl rfl (dk_X7_in 15 _ rfl) ⟨rfl, rfl⟩
                              show J _ _ _ _ _ _ _ _ _ [.int 1] _ _
                              exact J_iret rfl rfl (dk_X7_isTape 7 _ rfl) ⟨rfl, rfl⟩
                            show J _ _ _ _ _ _ _ _ _ [.int 1] _ _
                            refine J_ifF (tgt := 16) (by decide) (dk_X7_shift 5 _ rfl) (jI_ne (by decide : (1 : Int32).toInt = 1) (by decide : (0 : Int32).toInt = 0) (by omega)) ?_
                            refine J_aload_n (i := 0) (a := 0) rfl rfl (dk_X7_shift 8 _ rfl) ?_
                            refine J_iload_n (i := 3) (a := 3) rfl rfl (dk_X7_shift 9 _ rfl) ?_
                            refine J_cV (rv := some (.int 1)) (h' := hM0) (d' := 11) (As := [.int 4]) ok_X7_isTape vi_X7_isTape cl_7_354 (n := 1) (by decide +kernel) rfl rfl rfl rfl (by decide) (by decide) (dk_X7_shift 10 _ rfl) ?_ ?_
                            · refine jCt_of ok_X7_isTape (fun _ _ => Nat.le_of_ble_eq_true rfl) (fun _ _ hq => by rw [hq.2]; first | exact Nat.le_refl _ | simp) ?_
                              show J _ _ _ _ _ _ _ _ [(0, .ref 0), (1, .int 4)] _ _ _
                              refine J_aload_n (i := 0) (a := 0) rfl rfl (dk_X7_isTape 0 _ rfl) ?_
                              refine J_iload_n (i := 1) (a := 1) rfl rfl (dk_X7_isTape 1 _ rfl) ?_
                              refine J_iconst (v := 0) (by decide) (dk_X7_isTape 2 _ rfl) ?_
                              refine J_iconst (v := 5) (by decide) (dk_X7_isTape 3 _ rfl) ?_
                              refine J_cV (rv := some (.int 1)) (h' := hM0) (d' := 10) (As := [.int 4, .int 0, .int 5]) ok_X7_in vi_X7_in cl_7_194 (n := 3) (by decide +kernel) rfl rfl rfl rfl (by decide) (by decide) (dk_X7_isTape 4 _ rfl) ?_ ?_
                              · refine jCt_of ok_X7_in (fun _ _ => Nat.le_of_ble_eq_true rfl) (fun _ _ hq => by rw [hq.2]; first | exact Nat.le_refl _ | simp) ?_
                                show J _ _ _ _ _ _ _ _ [(0, .ref 0), (1, .int 4), (2, .int 0), (3, .int 5)] _ _ _
                                refine J_iload_n (i := 1) (a := 1) rfl rfl (dk_X7_in 0 _ rfl) ?_
                                refine J_iload_n (i := 2) (a := 2) rfl rfl (dk_X7_in 1 _ rfl) ?_
                                refine J_icF (tgt := 14) (by decide) (dk_X7_in 2 _ rfl) (jI_nlt (by decide : (4 : Int32).toInt = 4) (by decide : (0 : Int32).toInt = 0) (by omega)) ?_
                                refine J_iload_n (i := 1) (a := 1) rfl rfl (dk_X7_in 5 _ rfl) ?_
                                refine J_iload_n (i := 3) (a := 3) rfl rfl (dk_X7_in 6 _ rfl) ?_
                                refine J_icF (tgt := 14) (by decide) (dk_X7_in 7 _ rfl) (jI_nlt (by decide : (5 : Int32).toInt = 5) (by decide : (4 : Int32).toInt = 4) (by omega)) ?_
                                refine J_iconst (v := 1) (by decide) (dk_X7_in 10 _ rfl) ?_
                                refine J_goto (tgt := 15) (by decide) (dk_X7_in 11 _ rfl) ?_
                                exact J_iret rfl rfl (dk_X7_in 15 _ rfl) ⟨rfl, rfl⟩
                              show J _ _ _ _ _ _ _ _ _ [.int 1] _ _
                              exact J_iret rfl rfl (dk_X7_isTape 7 _ rfl) ⟨rfl, rfl⟩
                            show J _ _ _ _ _ _ _ _ _ [.int 1] _ _
                            refine J_ifT (tgt := 18) (by decide) (dk_X7_shift 13 _ rfl) (jI_ne (by decide : (1 : Int32).toInt = 1) (by decide : (0 : Int32).toInt = 0) (by omega)) ?_
                            refine J_aload_n (i := 0) (a := 0) rfl rfl (dk_X7_shift 18 _ rfl) ?_
                            refine J_getf fl_7_181 rfl rfl (dk_X7_shift 19 _ rfl) ?_
                            refine J_iload_n (i := 1) (a := 1) rfl rfl (dk_X7_shift 22 _ rfl) ?_
                            refine J_iald rfl (by decide) rfl (dk_X7_shift 23 _ rfl) ?_
                            refine J_ifT (tgt := 36) (by decide) (dk_X7_shift 24 _ rfl) (jI_lt (by decide : ((-1) : Int32).toInt = (-1)) (by decide : (0 : Int32).toInt = 0) (by omega)) ?_
                            refine J_bipush (v := (-11)) (by decide) (dk_X7_shift 36 _ rfl) ?_
                            exact J_iret rfl rfl (dk_X7_shift 38 _ rfl) ⟨rfl, rfl⟩
                        · obtain rfl : o = 5 := jI_eq rfl (by decide) (by omega : (o : Int32).toInt = 5)
                          refine ⟨(-11), ?_, ?_⟩
                          · refine jCt_of ok_X6_shift (fun _ _ => Nat.le_of_ble_eq_true rfl) (fun _ _ hq => Nat.le_of_eq (lX.trans hq.2.symm)) ?_
                            show J _ _ _ _ _ _ _ _ [(0, .ref 0), (1, .int 2), (2, .int i), (3, .int 5), (4, .int j), (5, .int n)] _ _ _
                            refine J_iload_n (i := 1) (a := 1) rfl rfl (dk_X6_shift 0 _ rfl) ?_
                            refine J_cS (rv := some (.int 1)) (h' := hN0) (d' := 11) (As := [.int 2]) ok_X6_isTape st_X6_isTape cl_6_220 rfl (n := 1) (by decide +kernel) rfl (by decide) (by decide) (dk_X6_shift 1 _ rfl) ?_ ?_
                            · refine jCt_of ok_X6_isTape (fun _ _ => Nat.le_of_ble_eq_true rfl) (fun _ _ hq => by rw [hq.2]; first | exact Nat.le_refl _ | simp) ?_
                              show J _ _ _ _ _ _ _ _ [(0, .int 2)] _ _ _
                              refine J_iload_n (i := 0) (a := 0) rfl rfl (dk_X6_isTape 0 _ rfl) ?_
                              refine J_ifF (tgt := 14) (by decide) (dk_X6_isTape 1 _ rfl) (jI_nlt (by decide : (2 : Int32).toInt = 2) (by decide : (0 : Int32).toInt = 0) (by omega)) ?_
                              refine J_iload_n (i := 0) (a := 0) rfl rfl (dk_X6_isTape 4 _ rfl) ?_
                              refine J_bipush (v := 6) (by decide) (dk_X6_isTape 5 _ rfl) ?_
                              refine J_icF (tgt := 14) (by decide) (dk_X6_isTape 7 _ rfl) (jI_nle (by decide : (6 : Int32).toInt = 6) (by decide : (2 : Int32).toInt = 2) (by omega)) ?_
                              refine J_iconst (v := 1) (by decide) (dk_X6_isTape 10 _ rfl) ?_
                              refine J_goto (tgt := 15) (by decide) (dk_X6_isTape 11 _ rfl) ?_
                              exact J_iret rfl rfl (dk_X6_isTape 15 _ rfl) ⟨rfl, rfl⟩
                            show J _ _ _ _ _ _ _ _ _ [.int 1] _ _
                            refine J_ifF (tgt := 14) (by decide) (dk_X6_shift 4 _ rfl) (jI_ne (by decide : (1 : Int32).toInt = 1) (by decide : (0 : Int32).toInt = 0) (by omega)) ?_
                            refine J_iload_n (i := 3) (a := 3) rfl rfl (dk_X6_shift 7 _ rfl) ?_
                            refine J_cS (rv := some (.int 1)) (h' := hN0) (d' := 11) (As := [.int 5]) ok_X6_isTape st_X6_isTape cl_6_220 rfl (n := 1) (by decide +kernel) rfl (by decide) (by decide) (dk_X6_shift 8 _ rfl) ?_ ?_
                            · refine jCt_of ok_X6_isTape (fun _ _ => Nat.le_of_ble_eq_true rfl) (fun _ _ hq => by rw [hq.2]; first | exact Nat.le_refl _ | simp) ?_
                              show J _ _ _ _ _ _ _ _ [(0, .int 5)] _ _ _
                              refine J_iload_n (i := 0) (a := 0) rfl rfl (dk_X6_isTape 0 _ rfl) ?_
                              refine J_ifF (tgt := 14) (by decide) (dk_X6_isTape 1 _ rfl) (jI_nlt (by decide : (5 : Int32).toInt = 5) (by decide : (0 : Int32).toInt = 0) (by omega)) ?_
                              refine J_iload_n (i := 0) (a := 0) rfl rfl (dk_X6_isTape 4 _ rfl) ?_
                              refine J_bipush (v := 6) (by decide) (dk_X6_isTape 5 _ rfl) ?_
                              refine J_icF (tgt := 14) (by decide) (dk_X6_isTape 7 _ rfl) (jI_nle (by decide : (6 : Int32).toInt = 6) (by decide : (5 : Int32).toInt = 5) (by omega)) ?_
                              refine J_iconst (v := 1) (by decide) (dk_X6_isTape 10 _ rfl) ?_
                              refine J_goto (tgt := 15) (by decide) (dk_X6_isTape 11 _ rfl) ?_
                              exact J_iret rfl rfl (dk_X6_isTape 15 _ rfl) ⟨rfl, rfl⟩
                            show J _ _ _ _ _ _ _ _ _ [.int 1] _ _
                            refine J_ifT (tgt := 16) (by decide) (dk_X6_shift 11 _ rfl) (jI_ne (by decide : (1 : Int32).toInt = 1) (by decide : (0 : Int32).toInt = 0) (by omega)) ?_
                            refine J_aload_n (i := 0) (a := 0) rfl rfl (dk_X6_shift 16 _ rfl) ?_
                            refine J_getf fl_6_37 rfl rfl (dk_X6_shift 17 _ rfl) ?_
                            refine J_iload_n (i := 1) (a := 1) rfl rfl (dk_X6_shift 20 _ rfl) ?_
                            refine J_aald (by decide) rfl (by decide) rfl (dk_X6_shift 21 _ rfl) ?_
                            refine J_astore (i := 6) (by decide) (dk_X6_shift 22 _ rfl) ?_
                            show J _ _ _ _ _ _ _ _ [(6, .ref 86), (0, .ref 0), (1, .int 2), (2, .int i), (3, .int 5), (4, .int j), (5, .int n)] _ _ _
                            refine J_aload_n (i := 0) (a := 0) rfl rfl (dk_X6_shift 24 _ rfl) ?_
                            refine J_getf fl_6_37 rfl rfl (dk_X6_shift 25 _ rfl) ?_
                            refine J_iload_n (i := 3) (a := 3) rfl rfl (dk_X6_shift 28 _ rfl) ?_
                            refine J_aald (by decide) rfl (by decide) rfl (dk_X6_shift 29 _ rfl) ?_
                            refine J_astore (i := 7) (by decide) (dk_X6_shift 30 _ rfl) ?_
                            show J _ _ _ _ _ _ _ _ [(7, .ref 92), (6, .ref 86), (0, .ref 0), (1, .int 2), (2, .int i), (3, .int 5), (4, .int j), (5, .int n)] _ _ _
                            refine J_aload (i := 6) rfl (dk_X6_shift 32 _ rfl) ?_
                            refine J_getf fl_6_223 rfl rfl (dk_X6_shift 34 _ rfl) ?_
                            refine J_iconst (v := (-1)) (by decide) (dk_X6_shift 37 _ rfl) ?_
                            refine J_icT (tgt := 50) (by decide) (dk_X6_shift 38 _ rfl) (jI_eq (by decide : ((-1) : Int32).toInt = (-1)) (by decide : ((-1) : Int32).toInt = (-1)) (by omega)) ?_
                            refine J_bipush (v := (-11)) (by decide) (dk_X6_shift 50 _ rfl) ?_
                            exact J_iret rfl rfl (dk_X6_shift 52 _ rfl) ⟨rfl, rfl⟩
                          · refine jCt_of ok_X7_shift (fun _ _ => Nat.le_of_ble_eq_true rfl) (fun _ _ hq => Nat.le_of_eq (lM.trans hq.2.symm)) ?_
                            show J _ _ _ _ _ _ _ _ [(0, .ref 0), (1, .int 2), (2, .int i), (3, .int 5), (4, .int j), (5, .int n)] _ _ _
                            refine J_aload_n (i := 0) (a := 0) rfl rfl (dk_X7_shift 0 _ rfl) ?_
                            refine J_iload_n (i := 1) (a := 1) rfl rfl (dk_X7_shift 1 _ rfl) ?_
                            refine J_cV (rv := some (.int 1)) (h' := hM0) (d' := 11) (As := [.int 2]) ok_X7_isTape vi_X7_isTape cl_7_354 (n := 1) (by decide +kernel) rfl rfl rfl rfl (by decide) (by decide) (dk_X7_shift 2 _ rfl) ?_ ?_
                            · refine jCt_of ok_X7_isTape (fun _ _ => Nat.le_of_ble_eq_true rfl) (fun _ _ hq => by rw [hq.2]; first | exact Nat.le_refl _ | simp) ?_
                              show J _ _ _ _ _ _ _ _ [(0, .ref 0), (1, .int 2)] _ _ _
                              refine J_aload_n (i := 0) (a := 0) rfl rfl (dk_X7_isTape 0 _ rfl) ?_
                              refine J_iload_n (i := 1) (a := 1) rfl rfl (dk_X7_isTape 1 _ rfl) ?_
                              refine J_iconst (v := 0) (by decide) (dk_X7_isTape 2 _ rfl) ?_
                              refine J_iconst (v := 5) (by decide) (dk_X7_isTape 3 _ rfl) ?_
                              refine J_cV (rv := some (.int 1)) (h' := hM0) (d' := 10) (As := [.int 2, .int 0, .int 5]) ok_X7_in vi_X7_in cl_7_194 (n := 3) (by decide +kernel) rfl rfl rfl rfl (by decide) (by decide) (dk_X7_isTape 4 _ rfl) ?_ ?_
                              · refine jCt_of ok_X7_in (fun _ _ => Nat.le_of_ble_eq_true rfl) (fun _ _ hq => by rw [hq.2]; first | exact Nat.le_refl _ | simp) ?_
                                show J _ _ _ _ _ _ _ _ [(0, .ref 0), (1, .int 2), (2, .int 0), (3, .int 5)] _ _ _
                                refine J_iload_n (i := 1) (a := 1) rfl rfl (dk_X7_in 0 _ rfl) ?_
                                refine J_iload_n (i := 2) (a := 2) rfl rfl (dk_X7_in 1 _ rfl) ?_
                                refine J_icF (tgt := 14) (by decide) (dk_X7_in 2 _ rfl) (jI_nlt (by decide : (2 : Int32).toInt = 2) (by decide : (0 : Int32).toInt = 0) (by omega)) ?_
                                refine J_iload_n (i := 1) (a := 1) rfl rfl (dk_X7_in 5 _ rfl) ?_
                                refine J_iload_n (i := 3) (a := 3) rfl rfl (dk_X7_in 6 _ rfl) ?_
                                refine J_icF (tgt := 14) (by decide) (dk_X7_in 7 _ rfl) (jI_nlt (by decide : (5 : Int32).toInt = 5) (by decide : (2 : Int32).toInt = 2) (by omega)) ?_
                                refine J_iconst (v := 1) (by decide) (dk_X7_in 10 _ rfl) ?_
                                refine J_goto (tgt := 15) (by decide) (dk_X7_in 11 _ rfl) ?_
                                exact J_iret rfl rfl (dk_X7_in 15 _ rfl) ⟨rfl, rfl⟩
                              show J _ _ _ _ _ _ _ _ _ [.int 1] _ _
                              exact J_iret rfl rfl (dk_X7_isTape 7 _ rfl) ⟨rfl, rfl⟩
                            show J _ _ _ _ _ _ _ _ _ [.int 1] _ _
                            refine J_ifF (tgt := 16) (by decide) (dk_X7_shift 5 _ rfl) (jI_ne (by decide : (1 : Int32).toInt = 1) (by decide : (0 : Int32).toInt = 0) (by omega)) ?_
                            refine J_aload_n (i := 0) (a := 0) rfl rfl (dk_X7_shift 8 _ rfl) ?_
                            refine J_iload_n (i := 3) (a := 3) rfl rfl (dk_X7_shift 9 _ rfl) ?_
                            refine J_cV (rv := some (.int 1)) (h' := hM0) (d' := 11) (As := [.int 5]) ok_X7_isTape vi_X7_isTape cl_7_354 (n := 1) (by decide +kernel) rfl rfl rfl rfl (by decide) (by decide) (dk_X7_shift 10 _ rfl) ?_ ?_
                            · refine jCt_of ok_X7_isTape (fun _ _ => Nat.le_of_ble_eq_true rfl) (fun _ _ hq => by rw [hq.2]; first | exact Nat.le_refl _ | simp) ?_
                              show J _ _ _ _ _ _ _ _ [(0, .ref 0), (1, .int 5)] _ _ _
                              refine J_aload_n (i := 0) (a := 0) rfl rfl (dk_X7_isTape 0 _ rfl) ?_
                              refine J_iload_n (i := 1) (a := 1) rfl rfl (dk_X7_isTape 1 _ rfl) ?_
                              refine J_iconst (v := 0) (by decide) (dk_X7_isTape 2 _ rfl) ?_
                              refine J_iconst (v := 5) (by decide) (dk_X7_isTape 3 _ rfl) ?_
                              refine J_cV (rv := some (.int 1)) (h' := hM0) (d' := 10) (As := [.int 5, .int 0, .int 5]) ok_X7_in vi_X7_in cl_7_194 (n := 3) (by decide +kernel) rfl rfl rfl rfl (by decide) (by decide) (dk_X7_isTape 4 _ rfl) ?_ ?_
                              · refine jCt_of ok_X7_in (fun _ _ => Nat.le_of_ble_eq_true rfl) (fun _ _ hq => by rw [hq.2]; first | exact Nat.le_refl _ | simp) ?_
                                show J _ _ _ _ _ _ _ _ [(0, .ref 0), (1, .int 5), (2, .int 0), (3, .int 5)] _ _ _
                                refine J_iload_n (i := 1) (a := 1) rfl rfl (dk_X7_in 0 _ rfl) ?_
                                refine J_iload_n (i := 2) (a := 2) rfl rfl (dk_X7_in 1 _ rfl) ?_
                                refine J_icF (tgt := 14) (by decide) (dk_X7_in 2 _ rfl) (jI_nlt (by decide : (5 : Int32).toInt = 5) (by decide : (0 : Int32).toInt = 0) (by omega)) ?_
                                refine J_iload_n (i := 1) (a := 1) rfl rfl (dk_X7_in 5 _ rfl) ?_
                                refine J_iload_n (i := 3) (a := 3) rfl rfl (dk_X7_in 6 _ rfl) ?_
                                refine J_icF (tgt := 14) (by decide) (dk_X7_in 7 _ rfl) (jI_nlt (by decide : (5 : Int32).toInt = 5) (by decide : (5 : Int32).toInt = 5) (by omega)) ?_
                                refine J_iconst (v := 1) (by decide) (dk_X7_in 10 _ rfl) ?_
                                refine J_goto (tgt := 15) (by decide) (dk_X7_in 11 _ rfl) ?_
                                exact J_iret rfl rfl (dk_X7_in 15 _ rfl) ⟨rfl, rfl⟩
                              show J _ _ _ _ _ _ _ _ _ [.int 1] _ _
                              exact J_iret rfl rfl (dk_X7_isTape 7 _ rfl) ⟨rfl, rfl⟩
                            show J _ _ _ _ _ _ _ _ _ [.int 1] _ _
                            refine J_ifT (tgt := 18) (by decide) (dk_X7_shift 13 _ rfl) (jI_ne (by decide : (1 : Int32).toInt = 1) (by decide : (0 : Int32).toInt = 0) (by omega)) ?_
                            refine J_aload_n (i := 0) (a := 0) rfl rfl (dk_X7_shift 18 _ rfl) ?_
                            refine J_getf fl_7_181 rfl rfl (dk_X7_shift 19 _ rfl) ?_
                            refine J_iload_n (i := 1) (a := 1) rfl rfl (dk_X7_shift 22 _ rfl) ?_
                            refine J_iald rfl (by decide) rfl (dk_X7_shift 23 _ rfl) ?_
                            refine J_ifT (tgt := 36) (by decide) (dk_X7_shift 24 _ rfl) (jI_lt (by decide : ((-1) : Int32).toInt = (-1)) (by decide : (0 : Int32).toInt = 0) (by omega)) ?_
                            refine J_bipush (v := (-11)) (by decide) (dk_X7_shift 36 _ rfl) ?_
                            exact J_iret rfl rfl (dk_X7_shift 38 _ rfl) ⟨rfl, rfl⟩
              · by_cases c26 : (t : Int32).toInt = 3
                · obtain rfl : t = 3 := jI_eq rfl (by decide) c26
                  by_cases c27 : (o : Int32).toInt = 0
                  · obtain rfl : o = 0 := jI_eq rfl (by decide) c27
                    refine ⟨(-11), ?_, ?_⟩
                    · refine jCt_of ok_X6_shift (fun _ _ => Nat.le_of_ble_eq_true rfl) (fun _ _ hq => Nat.le_of_eq (lX.trans hq.2.symm)) ?_
                      show J _ _ _ _ _ _ _ _ [(0, .ref 0), (1, .int 3), (2, .int i), (3, .int 0), (4, .int j), (5, .int n)] _ _ _
                      refine J_iload_n (i := 1) (a := 1) rfl rfl (dk_X6_shift 0 _ rfl) ?_
                      refine J_cS (rv := some (.int 1)) (h' := hN0) (d' := 11) (As := [.int 3]) ok_X6_isTape st_X6_isTape cl_6_220 rfl (n := 1) (by decide +kernel) rfl (by decide) (by decide) (dk_X6_shift 1 _ rfl) ?_ ?_
                      · refine jCt_of ok_X6_isTape (fun _ _ => Nat.le_of_ble_eq_true rfl) (fun _ _ hq => by rw [hq.2]; first | exact Nat.le_refl _ | simp) ?_
                        show J _ _ _ _ _ _ _ _ [(0, .int 3)] _ _ _
                        refine J_iload_n (i := 0) (a := 0) rfl rfl (dk_X6_isTape 0 _ rfl) ?_
                        refine J_ifF (tgt := 14) (by decide) (dk_X6_isTape 1 _ rfl) (jI_nlt (by decide : (3 : Int32).toInt = 3) (by decide : (0 : Int32).toInt = 0) (by omega)) ?_
                        refine J_iload_n (i := 0) (a := 0) rfl rfl (dk_X6_isTape 4 _ rfl) ?_
                        refine J_bipush (v := 6) (by decide) (dk_X6_isTape 5 _ rfl) ?_
                        refine J_icF (tgt := 14) (by decide) (dk_X6_isTape 7 _ rfl) (jI_nle (by decide : (6 : Int32).toInt = 6) (by decide : (3 : Int32).toInt = 3) (by omega)) ?_
                        refine J_iconst (v := 1) (by decide) (dk_X6_isTape 10 _ rfl) ?_
                        refine J_goto (tgt := 15) (by decide) (dk_X6_isTape 11 _ rfl) ?_
                        exact J_iret rfl rfl (dk_X6_isTape 15 _ rfl) ⟨rfl, rfl⟩
                      show J _ _ _ _ _ _ _ _ _ [.int 1] _ _
                      refine J_ifF (tgt := 14) (by decide) (dk_X6_shift 4 _ rfl) (jI_ne (by decide : (1 : Int32).toInt = 1) (by decide : (0 : Int32).toInt = 0) (by omega)) ?_
                      refine J_iload_n (i := 3) (a := 3) rfl rfl (dk_X6_shift 7 _ rfl) ?_
                      refine J_cS (rv := some (.int 1)) (h' := hN0) (d' := 11) (As := [.int 0]) ok_X6_isTape st_X6_isTape cl_6_220 rfl (n := 1) (by decide +kernel) rfl (by decide) (by decide) (dk_X6_shift 8 _ rfl) ?_ ?_
                      · refine jCt_of ok_X6_isTape (fun _ _ => Nat.le_of_ble_eq_true rfl) (fun _ _ hq => by rw [hq.2]; first | exact Nat.le_refl _ | simp) ?_
                        show J _ _ _ _ _ _ _ _ [(0, .int 0)] _ _ _
                        refine J_iload_n (i := 0) (a := 0) rfl rfl (dk_X6_isTape 0 _ rfl) ?_
                        refine J_ifF (tgt := 14) (by decide) (dk_X6_isTape 1 _ rfl) (jI_nlt (by decide : (0 : Int32).toInt = 0) (by decide : (0 : Int32).toInt = 0) (by omega)) ?_
                        refine J_iload_n (i := 0) (a := 0) rfl rfl (dk_X6_isTape 4 _ rfl) ?_
                        refine J_bipush (v := 6) (by decide) (dk_X6_isTape 5 _ rfl) ?_
                        refine J_icF (tgt := 14) (by decide) (dk_X6_isTape 7 _ rfl) (jI_nle (by decide : (6 : Int32).toInt = 6) (by decide : (0 : Int32).toInt = 0) (by omega)) ?_
                        refine J_iconst (v := 1) (by decide) (dk_X6_isTape 10 _ rfl) ?_
                        refine J_goto (tgt := 15) (by decide) (dk_X6_isTape 11 _ rfl) ?_
                        exact J_iret rfl rfl (dk_X6_isTape 15 _ rfl) ⟨rfl, rfl⟩
                      show J _ _ _ _ _ _ _ _ _ [.int 1] _ _
                      refine J_ifT (tgt := 16) (by decide) (dk_X6_shift 11 _ rfl) (jI_ne (by decide : (1 : Int32).toInt = 1) (by decide : (0 : Int32).toInt = 0) (by omega)) ?_
                      refine J_aload_n (i := 0) (a := 0) rfl rfl (dk_X6_shift 16 _ rfl) ?_
                      refine J_getf fl_6_37 rfl rfl (dk_X6_shift 17 _ rfl) ?_
                      refine J_iload_n (i := 1) (a := 1) rfl rfl (dk_X6_shift 20 _ rfl) ?_
                      refine J_aald (by decide) rfl (by decide) rfl (dk_X6_shift 21 _ rfl) ?_
                      refine J_astore (i := 6) (by decide) (dk_X6_shift 22 _ rfl) ?_
                      show J _ _ _ _ _ _ _ _ [(6, .ref 88), (0, .ref 0), (1, .int 3), (2, .int i), (3, .int 0), (4, .int j), (5, .int n)] _ _ _
                      refine J_aload_n (i := 0) (a := 0) rfl rfl (dk_X6_shift 24 _ rfl) ?_
                      refine J_getf fl_6_37 rfl rfl (dk_X6_shift 25 _ rfl) ?_
                      refine J_iload_n (i := 3) (a := 3) rfl rfl (dk_X6_shift 28 _ rfl) ?_
                      refine J_aald (by decide) rfl (by decide) rfl (dk_X6_shift 29 _ rfl) ?_
                      refine J_astore (i := 7) (by decide) (dk_X6_shift 30 _ rfl) ?_
                      show J _ _ _ _ _ _ _ _ [(7, .ref 82), (6, .ref 88), (0, .ref 0), (1, .int 3), (2, .int i), (3, .int 0), (4, .int j), (5, .int n)] _ _ _
                      refine J_aload (i := 6) rfl (dk_X6_shift 32 _ rfl) ?_
                      refine J_getf fl_6_223 rfl rfl (dk_X6_shift 34 _ rfl) ?_
                      refine J_iconst (v := (-1)) (by decide) (dk_X6_shift 37 _ rfl) ?_
                      refine J_icT (tgt := 50) (by decide) (dk_X6_shift 38 _ rfl) (jI_eq (by decide : ((-1) : Int32).toInt = (-1)) (by decide : ((-1) : Int32).toInt = (-1)) (by omega)) ?_
                      refine J_bipush (v := (-11)) (by decide) (dk_X6_shift 50 _ rfl) ?_
                      exact J_iret rfl rfl (dk_X6_shift 52 _ rfl) ⟨rfl, rfl⟩
                    · refine jCt_of ok_X7_shift (fun _ _ => Nat.le_of_ble_eq_true rfl) (fun _ _ hq => Nat.le_of_eq (lM.trans hq.2.symm)) ?_
                      show J _ _ _ _ _ _ _ _ [(0, .ref 0), (1, .int 3), (2, .int i), (3, .int 0), (4, .int j), (5, .int n)] _ _ _
                      refine J_aload_n (i := 0) (a := 0) rfl rfl (dk_X7_shift 0 _ rfl) ?_
                      refine J_iload_n (i := 1) (a := 1) rfl rfl (dk_X7_shift 1 _ rfl) ?_
                      refine J_cV (rv := some (.int 1)) (h' := hM0) (d' := 11) (As := [.int 3]) ok_X7_isTape vi_X7_isTape cl_7_354 (n := 1) (by decide +kernel) rfl rfl rfl rfl (by decide) (by decide) (dk_X7_shift 2 _ rfl) ?_ ?_
                      · refine jCt_of ok_X7_isTape (fun _ _ => Nat.le_of_ble_eq_true rfl) (fun _ _ hq => by rw [hq.2]; first | exact Nat.le_refl _ | simp) ?_
                        show J _ _ _ _ _ _ _ _ [(0, .ref 0), (1, .int 3)] _ _ _
                        refine J_aload_n (i := 0) (a := 0) rfl rfl (dk_X7_isTape 0 _ rfl) ?_
                        refine J_iload_n (i := 1) (a := 1) rfl rfl (dk_X7_isTape 1 _ rfl) ?_
                        refine J_iconst (v := 0) (by decide) (dk_X7_isTape 2 _ rfl) ?_
                        refine J_iconst (v := 5) (by decide) (dk_X7_isTape 3 _ rfl) ?_
                        refine J_cV (rv := some (.int 1)) (h' := hM0) (d' := 10) (As := [.int 3, .int 0, .int 5]) ok_X7_in vi_X7_in cl_7_194 (n := 3) (by decide +kernel) rfl rfl rfl rfl (by decide) (by decide) (dk_X7_isTape 4 _ rfl) ?_ ?_
                        · refine jCt_of ok_X7_in (fun _ _ => Nat.le_of_ble_eq_true rfl) (fun _ _ hq => by rw [hq.2]; first | exact Nat.le_refl _ | simp) ?_
                          show J _ _ _ _ _ _ _ _ [(0, .ref 0), (1, .int 3), (2, .int 0), (3, .int 5)] _ _ _
                          refine J_iload_n (i := 1) (a := 1) rfl rfl (dk_X7_in 0 _ rfl) ?_
                          refine J_iload_n (i := 2) (a := 2) rfl rfl (dk_X7_in 1 _ rfl) ?_
                          refine J_icF (tgt := 14) (by decide) (dk_X7_in 2 _ rfl) (jI_nlt (by decide : (3 : Int32).toInt = 3) (by decide : (0 : Int32).toInt = 0) (by omega)) ?_
                          refine J_iload_n (i := 1) (a := 1) rfl rfl (dk_X7_in 5 _ rfl) ?_
                          refine J_iload_n (i := 3) (a := 3) rfl rfl (dk_X7_in 6 _ rfl) ?_
                          refine J_icF (tgt := 14) (by decide) (dk_X7_in 7 _ rfl) (jI_nlt (by decide : (5 : Int32).toInt = 5) (by decide : (3 : Int32).toInt = 3) (by omega)) ?_
                          refine J_iconst (v := 1) (by decide) (dk_X7_in 10 _ rfl) ?_
                          refine J_goto (tgt := 15) (by decide) (dk_X7_in 11 _ rfl) ?_
                          exact J_iret rfl rfl (dk_X7_in 15 _ rfl) ⟨rfl, rfl⟩
                        show J _ _ _ _ _ _ _ _ _ [.int 1] _ _
                        exact J_iret rfl rfl (dk_X7_isTape 7 _ rfl) ⟨rfl, rfl⟩
                      show J _ _ _ _ _ _ _ _ _ [.int 1] _ _
                      refine J_ifF (tgt := 16) (by decide) (dk_X7_shift 5 _ rfl) (jI_ne (by decide : (1 : Int32).toInt = 1) (by decide : (0 : Int32).toInt = 0) (by omega)) ?_
                      refine J_aload_n (i := 0) (a := 0) rfl rfl (dk_X7_shift 8 _ rfl) ?_
                      refine J_iload_n (i := 3) (a := 3) rfl rfl (dk_X7_shift 9 _ rfl) ?_
                      refine J_cV (rv := some (.int 1)) (h' := hM0) (d' := 11) (As := [.int 0]) ok_X7_isTape vi_X7_isTape cl_7_354 (n := 1) (by decide +kernel) rfl rfl rfl rfl (by decide) (by decide) (dk_X7_shift 10 _ rfl) ?_ ?_
                      · refine jCt_of ok_X7_isTape (fun _ _ => Nat.le_of_ble_eq_true rfl) (fun _ _ hq => by rw [hq.2]; first | exact Nat.le_refl _ | simp) ?_
                        show J _ _ _ _ _ _ _ _ [(0, .ref 0), (1, .int 0)] _ _ _
                        refine J_aload_n (i := 0) (a := 0) rfl rfl (dk_X7_isTape 0 _ rfl) ?_
                        refine J_iload_n (i := 1) (a := 1) rfl rfl (dk_X7_isTape 1 _ rfl) ?_
                        refine J_iconst (v := 0) (by decide) (dk_X7_isTape 2 _ rfl) ?_
                        refine J_iconst (v := 5) (by decide) (dk_X7_isTape 3 _ rfl) ?_
                        refine J_cV (rv := some (.int 1)) (h' := hM0) (d' := 10) (As := [.int 0, .int 0, .int 5]) ok_X7_in vi_X7_in cl_7_194 (n := 3) (by decide +kernel) rfl rfl rfl rfl (by decide) (by decide) (dk_X7_isTape 4 _ rfl) ?_ ?_
                        · refine jCt_of ok_X7_in (fun _ _ => Nat.le_of_ble_eq_true rfl) (fun _ _ hq => by rw [hq.2]; first | exact Nat.le_refl _ | simp) ?_
                          show J _ _ _ _ _ _ _ _ [(0, .ref 0), (1, .int 0), (2, .int 0), (3, .int 5)] _ _ _
                          refine J_iload_n (i := 1) (a := 1) rfl rfl (dk_X7_in 0 _ rfl) ?_
                          refine J_iload_n (i := 2) (a := 2) rfl rfl (dk_X7_in 1 _ rfl) ?_
                          refine J_icF (tgt := 14) (by decide) (dk_X7_in 2 _ rfl) (jI_nlt (by decide : (0 : Int32).toInt = 0) (by decide : (0 : Int32).toInt = 0) (by omega)) ?_
                          refine J_iload_n (i := 1) (a := 1) rfl rfl (dk_X7_in 5 _ rfl) ?_
                          refine J_iload_n (i := 3) (a := 3) rfl rfl (dk_X7_in 6 _ rfl) ?_
                          refine J_icF (tgt := 14) (by decide) (dk_X7_in 7 _ rfl) (jI_nlt (by decide : (5 : Int32).toInt = 5) (by decide : (0 : Int32).toInt = 0) (by omega)) ?_
                          refine J_iconst (v := 1) (by decide) (dk_X7_in 10 _ rfl) ?_
                          refine J_goto (tgt := 15) (by decide) (dk_X7_in 11 _ rfl) ?_
                          exact J_iret rfl rfl (dk_X7_in 15 _ rfl) ⟨rfl, rfl⟩
                        show J _ _ _ _ _ _ _ _ _ [.int 1] _ _
                        exact J_iret rfl rfl (dk_X7_isTape 7 _ rfl) ⟨rfl, rfl⟩
                      show J _ _ _ _ _ _ _ _ _ [.int 1] _ _
                      refine J_ifT (tgt := 18) (by decide) (dk_X7_shift 13 _ rfl) (jI_ne (by decide : (1 : Int32).toInt = 1) (by decide : (0 : Int32).toInt = 0) (by omega)) ?_
                      refine J_aload_n (i := 0) (a := 0) rfl rfl (dk_X7_shift 18 _ rfl) ?_
                      refine J_getf fl_7_181 rfl rfl (dk_X7_shift 19 _ rfl) ?_
                      refine J_iload_n (i := 1) (a := 1) rfl rfl (dk_X7_shift 22 _ rfl) ?_
                      refine J_iald rfl (by decide) rfl (dk_X7_shift 23 _ rfl) ?_
                      refine J_ifT (tgt := 36) (by decide) (dk_X7_shift 24 _ rfl) (jI_lt (by decide : ((-1) : Int32).toInt = (-1)) (by decide : (0 : Int32).toInt = 0) (by omega)) ?_
                      refine J_bipush (v := (-11)) (by decide) (dk_X7_shift 36 _ rfl) ?_
                      exact J_iret rfl rfl (dk_X7_shift 38 _ rfl) ⟨rfl, rfl⟩
                  · by_cases c28 : (o : Int32).toInt = 1
                    · obtain rfl : o = 1 := jI_eq rfl (by decide) c28
                      refine ⟨(-11), ?_, ?_⟩
                      · refine jCt_of ok_X6_shift (fun _ _ => Nat.le_of_ble_eq_true rfl) (fun _ _ hq => Nat.le_of_eq (lX.trans hq.2.symm)) ?_
                        show J _ _ _ _ _ _ _ _ [(0, .ref 0), (1, .int 3), (2, .int i), (3, .int 1), (4, .int j), (5, .int n)] _ _ _
                        refine J_iload_n (i := 1) (a := 1) rfl rfl (dk_X6_shift 0 _ rfl) ?_
                        refine J_cS (rv := some (.int 1)) (h' := hN0) (d' := 11) (As := [.int 3]) ok_X6_isTape st_X6_isTape cl_6_220 rfl (n := 1) (by decide +kernel) rfl (by decide) (by decide) (dk_X6_shift 1 _ rfl) ?_ ?_
                        · refine jCt_of ok_X6_isTape (fun _ _ => Nat.le_of_ble_eq_true rfl) (fun _ _ hq => by rw [hq.2]; first | exact Nat.le_refl _ | simp) ?_
                          show J _ _ _ _ _ _ _ _ [(0, .int 3)] _ _ _
                          refine J_iload_n (i := 0) (a := 0) rfl rfl (dk_X6_isTape 0 _ rfl) ?_
                          refine J_ifF (tgt := 14) (by decide) (dk_X6_isTape 1 _ rfl) (jI_nlt (by decide : (3 : Int32).toInt = 3) (by decide : (0 : Int32).toInt = 0) (by omega)) ?_
                          refine J_iload_n (i := 0) (a := 0) rfl rfl (dk_X6_isTape 4 _ rfl) ?_
                          refine J_bipush (v := 6) (by decide) (dk_X6_isTape 5 _ rfl) ?_
                          refine J_icF (tgt := 14) (by decide) (dk_X6_isTape 7 _ rfl) (jI_nle (by decide : (6 : Int32).toInt = 6) (by decide : (3 : Int32).toInt = 3) (by omega)) ?_
                          refine J_iconst (v := 1) (by decide) (dk_X6_isTape 10 _ rfl) ?_
                          refine J_goto (tgt := 15) (by decide) (dk_X6_isTape 11 _ rfl) ?_
                          exact J_iret rfl rfl (dk_X6_isTape 15 _ rfl) ⟨rfl, rfl⟩
                        show J _ _ _ _ _ _ _ _ _ [.int 1] _ _
                        refine J_ifF (tgt := 14) (by decide) (dk_X6_shift 4 _ rfl) (jI_ne (by decide : (1 : Int32).toInt = 1) (by decide : (0 : Int32).toInt = 0) (by omega)) ?_
                        refine J_iload_n (i := 3) (a := 3) rfl rfl (dk_X6_shift 7 _ rfl) ?_
                        refine J_cS (rv := some (.int 1)) (h' := hN0) (d' := 11) (As := [.int 1]) ok_X6_isTape st_X6_isTape cl_6_220 rfl (n := 1) (by decide +kernel) rfl (by decide) (by decide) (dk_X6_shift 8 _ rfl) ?_ ?_
                        · refine jCt_of ok_X6_isTape (fun _ _ => Nat.le_of_ble_eq_true rfl) (fun _ _ hq => by rw [hq.2]; first | exact Nat.le_refl _ | simp) ?_
                          show J _ _ _ _ _ _ _ _ [(0, .int 1)] _ _ _
                          refine J_iload_n (i := 0) (a := 0) rfl rfl (dk_X6_isTape 0 _ rfl) ?_
                          refine J_ifF (tgt := 14) (by decide) (dk_X6_isTape 1 _ rfl) (jI_nlt (by decide : (1 : Int32).toInt = 1) (by decide : (0 : Int32).toInt = 0) (by omega)) ?_
                          refine J_iload_n (i := 0) (a := 0) rfl rfl (dk_X6_isTape 4 _ rfl) ?_
                          refine J_bipush (v := 6) (by decide) (dk_X6_isTape 5 _ rfl) ?_
                          refine J_icF (tgt := 14) (by decide) (dk_X6_isTape 7 _ rfl) (jI_nle (by decide : (6 : Int32).toInt = 6) (by decide : (1 : Int32).toInt = 1) (by omega)) ?_
                          refine J_iconst (v := 1) (by decide) (dk_X6_isTape 10 _ rfl) ?_
                          refine J_goto (tgt := 15) (by decide) (dk_X6_isTape 11 _ rfl) ?_
                          exact J_iret rfl rfl (dk_X6_isTape 15 _ rfl) ⟨rfl, rfl⟩
                        show J _ _ _ _ _ _ _ _ _ [.int 1] _ _
                        refine J_ifT (tgt := 16) (by decide) (dk_X6_shift 11 _ rfl) (jI_ne (by decide : (1 : Int32).toInt = 1) (by decide : (0 : Int32).toInt = 0) (by omega)) ?_
                        refine J_aload_n (i := 0) (a := 0) rfl rfl (dk_X6_shift 16 _ rfl) ?_
                        refine J_getf fl_6_37 rfl rfl (dk_X6_shift 17 _ rfl) ?_
                        refine J_iload_n (i := 1) (a := 1) rfl rfl (dk_X6_shift 20 _ rfl) ?_
                        refine J_aald (by decide) rfl (by decide) rfl (dk_X6_shift 21 _ rfl) ?_
                        refine J_astore (i := 6) (by decide) (dk_X6_shift 22 _ rfl) ?_
                        show J _ _ _ _ _ _ _ _ [(6, .ref 88), (0, .ref 0), (1, .int 3), (2, .int i), (3, .int 1), (4, .int j), (5, .int n)] _ _ _
                        refine J_aload_n (i := 0) (a := 0) rfl rfl (dk_X6_shift 24 _ rfl) ?_
                        refine J_getf fl_6_37 rfl rfl (dk_X6_shift 25 _ rfl) ?_
                        refine J_iload_n (i := 3) (a := 3) rfl rfl (dk_X6_shift 28 _ rfl) ?_
                        refine J_aald (by decide) rfl (by decide) rfl (dk_X6_shift 29 _ rfl) ?_
                        refine J_astore (i := 7) (by decide) (dk_X6_shift 30 _ rfl) ?_
                        show J _ _ _ _ _ _ _ _ [(7, .ref 84), (6, .ref 88), (0, .ref 0), (1, .int 3), (2, .int i), (3, .int 1), (4, .int j), (5, .int n)] _ _ _
                        refine J_aload (i := 6) rfl (dk_X6_shift 32 _ rfl) ?_
                        refine J_getf fl_6_223 rfl rfl (dk_X6_shift 34 _ rfl) ?_
                        refine J_iconst (v := (-1)) (by decide) (dk_X6_shift 37 _ rfl) ?_
                        refine J_icT (tgt := 50) (by decide) (dk_X6_shift 38 _ rfl) (jI_eq (by decide : ((-1) : Int32).toInt = (-1)) (by decide : ((-1) : Int32).toInt = (-1)) (by omega)) ?_
                        refine J_bipush (v := (-11)) (by decide) (dk_X6_shift 50 _ rfl) ?_
                        exact J_iret rfl rfl (dk_X6_shift 52 _ rfl) ⟨rfl, rfl⟩
                      · refine jCt_of ok_X7_shift (fun _ _ => Nat.le_of_ble_eq_true rfl) (fun _ _ hq => Nat.le_of_eq (lM.trans hq.2.symm)) ?_
                        show J _ _ _ _ _ _ _ _ [(0, .ref 0), (1, .int 3), (2, .int i), (3, .int 1), (4, .int j), (5, .int n)] _ _ _
                        refine J_aload_n (i := 0) (a := 0) rfl rfl (dk_X7_shift 0 _ rfl) ?_
                        refine J_iload_n (i := 1) (a := 1) rfl rfl (dk_X7_shift 1 _ rfl) ?_
                        refine J_cV (rv := some (.int 1)) (h' := hM0) (d' := 11) (As := [.int 3]) ok_X7_isTape vi_X7_isTape cl_7_354 (n := 1) (by decide +kernel) rfl rfl rfl rfl (by decide) (by decide) (dk_X7_shift 2 _ rfl) ?_ ?_
                        · refine jCt_of ok_X7_isTape (fun _ _ => Nat.le_of_ble_eq_true rfl) (fun _ _ hq => by rw [hq.2]; first | exact Nat.le_refl _ | simp) ?_
                          show J _ _ _ _ _ _ _ _ [(0, .ref 0), (1, .int 3)] _ _ _
                          refine J_aload_n (i := 0) (a := 0) rfl rfl (dk_X7_isTape 0 _ rfl) ?_
                          refine J_iload_n (i := 1) (a := 1) rfl rfl (dk_X7_isTape 1 _ rfl) ?_
                          refine J_iconst (v := 0) (by decide) (dk_X7_isTape 2 _ rfl) ?_
                          refine J_iconst (v := 5) (by decide) (dk_X7_isTape 3 _ rfl) ?_
                          refine J_cV (rv := some (.int 1)) (h' := hM0) (d' := 10) (As := [.int 3, .int 0, .int 5]) ok_X7_in vi_X7_in cl_7_194 (n := 3) (by decide +kernel) rfl rfl rfl rfl (by decide) (by decide) (dk_X7_isTape 4 _ rfl) ?_ ?_
                          · refine jCt_of ok_X7_in (fun _ _ => Nat.le_of_ble_eq_true rfl) (fun _ _ hq => by rw [hq.2]; first | exact Nat.le_refl _ | simp) ?_
                            show J _ _ _ _ _ _ _ _ [(0, .ref 0), (1, .int 3), (2, .int 0), (3, .int 5)] _ _ _
                            refine J_iload_n (i := 1) (a := 1) rfl rfl (dk_X7_in 0 _ rfl) ?_
                            refine J_iload_n (i := 2) (a := 2) rfl rfl (dk_X7_in 1 _ rfl) ?_
                            refine J_icF (tgt := 14) (by decide) (dk_X7_in 2 _ rfl) (jI_nlt (by decide : (3 : Int32).toInt = 3) (by decide : (0 : Int32).toInt = 0) (by omega)) ?_
                            refine J_iload_n (i := 1) (a := 1) rfl rfl (dk_X7_in 5 _ rfl) ?_
                            refine J_iload_n (i := 3) (a := 3) rfl rfl (dk_X7_in 6 _ rfl) ?_
                            refine J_icF (tgt := 14) (by decide) (dk_X7_in 7 _ rfl) (jI_nlt (by decide : (5 : Int32).toInt = 5) (by decide : (3 : Int32).toInt = 3) (by omega)) ?_
                            refine J_iconst (v := 1) (by decide) (dk_X7_in 10 _ rfl) ?_
                            refine J_goto (tgt := 15) (by decide) (dk_X7_in 11 _ rfl) ?_
                            exact J_iret rfl rfl (dk_X7_in 15 _ rfl) ⟨rfl, rfl⟩
                          show J _ _ _ _ _ _ _ _ _ [.int 1] _ _
                          exact J_iret rfl rfl (dk_X7_isTape 7 _ rfl) ⟨rfl, rfl⟩
                        show J _ _ _ _ _ _ _ _ _ [.int 1] _ _
                        refine J_ifF (tgt := 16) (by decide) (dk_X7_shift 5 _ rfl) (jI_ne (by decide : (1 : Int32).toInt = 1) (by decide : (0 : Int32).toInt = 0) (by omega)) ?_
                        refine J_aload_n (i := 0) (a := 0) rfl rfl (dk_X7_shift 8 _ rfl) ?_
                        refine J_iload_n (i := 3) (a := 3) rfl rfl (dk_X7_shift 9 _ rfl) ?_
                        refine J_cV (rv := some (.int 1)) (h' := hM0) (d' := 11) (As := [.int 1]) ok_X7_isTape vi_X7_isTape cl_7_354 (n := 1) (by decide +kernel) rfl rfl rfl rfl (by decide) (by decide) (dk_X7_shift 10 _ rfl) ?_ ?_
                        · refine jCt_of ok_X7_isTape (fun _ _ => Nat.le_of_ble_eq_true rfl) (fun _ _ hq => by rw [hq.2]; first | exact Nat.le_refl _ | simp) ?_
                          show J _ _ _ _ _ _ _ _ [(0, .ref 0), (1, .int 1)] _ _ _
                          refine J_aload_n (i := 0) (a := 0) rfl rfl (dk_X7_isTape 0 _ rfl) ?_
                          refine J_iload_n (i := 1) (a := 1) rfl rfl (dk_X7_isTape 1 _ rfl) ?_
                          refine J_iconst (v := 0) (by decide) (dk_X7_isTape 2 _ rfl) ?_
                          refine J_iconst (v := 5) (by decide) (dk_X7_isTape 3 _ rfl) ?_
                          refine J_cV (rv := some (.int 1)) (h' := hM0) (d' := 10) (As := [.int 1, .int 0, .int 5]) ok_X7_in vi_X7_in cl_7_194 (n := 3) (by decide +kernel) rfl rfl rfl rfl (by decide) (by decide) (dk_X7_isTape 4 _ rfl) ?_ ?_
                          · refine jCt_of ok_X7_in (fun _ _ => Nat.le_of_ble_eq_true rfl) (fun _ _ hq => by rw [hq.2]; first | exact Nat.le_refl _ | simp) ?_
                            show J _ _ _ _ _ _ _ _ [(0, .ref 0), (1, .int 1), (2, .int 0), (3, .int 5)] _ _ _
                            refine J_iload_n (i := 1) (a := 1) rfl rfl (dk_X7_in 0 _ rfl) ?_
                            refine J_iload_n (i := 2) (a := 2) rfl rfl (dk_X7_in 1 _ rfl) ?_
                            refine J_icF (tgt := 14) (by decide) (dk_X7_in 2 _ rfl) (jI_nlt (by decide : (1 : Int32).toInt = 1) (by decide : (0 : Int32).toInt = 0) (by omega)) ?_
                            refine J_iload_n (i := 1) (a := 1) rfl rfl (dk_X7_in 5 _ rfl) ?_
                            refine J_iload_n (i := 3) (a := 3) rfl rfl (dk_X7_in 6 _ rfl) ?_
                            refine J_icF (tgt := 14) (by decide) (dk_X7_in 7 _ rfl) (jI_nlt (by decide : (5 : Int32).toInt = 5) (by decide : (1 : Int32).toInt = 1) (by omega)) ?_
                            refine J_iconst (v := 1) (by decide) (dk_X7_in 10 _ rfl) ?_
                            refine J_goto (tgt := 15) (by decide) (dk_X7_in 11 _ rfl) ?_
                            exact J_iret rfl rfl (dk_X7_in 15 _ rfl) ⟨rfl, rfl⟩
                          show J _ _ _ _ _ _ _ _ _ [.int 1] _ _
                          exact J_iret rfl rfl (dk_X7_isTape 7 _ rfl) ⟨rfl, rfl⟩
                        show J _ _ _ _ _ _ _ _ _ [.int 1] _ _
                        refine J_ifT (tgt := 18) (by decide) (dk_X7_shift 13 _ rfl) (jI_ne (by decide : (1 : Int32).toInt = 1) (by decide : (0 : Int32).toInt = 0) (by omega)) ?_
                        refine J_aload_n (i := 0) (a := 0) rfl rfl (dk_X7_shift 18 _ rfl) ?_
                        refine J_getf fl_7_181 rfl rfl (dk_X7_shift 19 _ rfl) ?_
                        refine J_iload_n (i := 1) (a := 1) rfl rfl (dk_X7_shift 22 _ rfl) ?_
                        refine J_iald rfl (by decide) rfl (dk_X7_shift 23 _ rfl) ?_
                        refine J_ifT (tgt := 36) (by decide) (dk_X7_shift 24 _ rfl) (jI_lt (by decide : ((-1) : Int32).toInt = (-1)) (by decide : (0 : Int32).toInt = 0) (by omega)) ?_
                        refine J_bipush (v := (-11)) (by decide) (dk_X7_shift 36 _ rfl) ?_
                        exact J_iret rfl rfl (dk_X7_shift 38 _ rfl) ⟨rfl, rfl⟩
                    · by_cases c29 : (o : Int32).toInt = 2
                      · obtain rfl : o = 2 := jI_eq rfl (by decide) c29
                        refine ⟨(-11), ?_, ?_⟩
                        · refine jCt_of ok_X6_shift (fun _ _ => Nat.le_of_ble_eq_true rfl) (fun _ _ hq => Nat.le_of_eq (lX.trans hq.2.symm)) ?_
                          show J _ _ _ _ _ _ _ _ [(0, .ref 0), (1, .int 3), (2, .int i), (3, .int 2), (4, .int j), (5, .int n)] _ _ _
                          refine J_iload_n (i := 1) (a := 1) rfl rfl (dk_X6_shift 0 _ rfl) ?_
                          refine J_cS (rv := some (.int 1)) (h' := hN0) (d' := 11) (As := [.int 3]) ok_X6_isTape st_X6_isTape cl_6_220 rfl (n := 1) (by decide +kernel) rfl (by decide) (by decide) (dk_X6_shift 1 _ rfl) ?_ ?_
                          · refine jCt_of ok_X6_isTape (fun _ _ => Nat.le_of_ble_eq_true rfl) (fun _ _ hq => by rw [hq.2]; first | exact Nat.le_refl _ | simp) ?_
                            show J _ _ _ _ _ _ _ _ [(0, .int 3)] _ _ _
                            refine J_iload_n (i := 0) (a := 0) rfl rfl (dk_X6_isTape 0 _ rfl) ?_
                            refine J_ifF (tgt := 14) (by decide) (dk_X6_isTape 1 _ rfl) (jI_nlt (by decide : (3 : Int32).toInt = 3) (by decide : (0 : Int32).toInt = 0) (by omega)) ?_
                            refine J_iload_n (i := 0) (a := 0) rfl rfl (dk_X6_isTape 4 _ rfl) ?_
                            refine J_bipush (v := 6) (by decide) (dk_X6_isTape 5 _ rfl) ?_
                            refine J_icF (tgt := 14) (by decide) (dk_X6_isTape 7 _ rfl) (jI_nle (by decide : (6 : Int32).toInt = 6) (by decide : (3 : Int32).toInt = 3) (by omega)) ?_
                            refine J_iconst (v := 1) (by decide) (dk_X6_isTape 10 _ rfl) ?_
                            refine J_goto (tgt := 15) (by decide) (dk_X6_isTape 11 _ rfl) ?_
                            exact J_iret rfl rfl (dk_X6_isTape 15 _ rfl) ⟨rfl, rfl⟩
                          show J _ _ _ _ _ _ _ _ _ [.int 1] _ _
                          refine J_ifF (tgt := 14) (by decide) (dk_X6_shift 4 _ rfl) (jI_ne (by decide : (1 : Int32).toInt = 1) (by decide : (0 : Int32).toInt = 0) (by omega)) ?_
                          refine J_iload_n (i := 3) (a := 3) rfl rfl (dk_X6_shift 7 _ rfl) ?_
                          refine J_cS (rv := some (.int 1)) (h' := hN0) (d' := 11) (As := [.int 2]) ok_X6_isTape st_X6_isTape cl_6_220 rfl (n := 1) (by decide +kernel) rfl (by decide) (by decide) (dk_X6_shift 8 _ rfl) ?_ ?_
                          · refine jCt_of ok_X6_isTape (fun _ _ => Nat.le_of_ble_eq_true rfl) (fun _ _ hq => by rw [hq.2]; first | exact Nat.le_refl _ | simp) ?_
                            show J _ _ _ _ _ _ _ _ [(0, .int 2)] _ _ _
                            refine J_iload_n (i := 0) (a := 0) rfl rfl (dk_X6_isTape 0 _ rfl) ?_
                            refine J_ifF (tgt := 14) (by decide) (dk_X6_isTape 1 _ rfl) (jI_nlt (by decide : (2 : Int32).toInt = 2) (by decide : (0 : Int32).toInt = 0) (by omega)) ?_
                            refine J_iload_n (i := 0) (a := 0) rfl rfl (dk_X6_isTape 4 _ rfl) ?_
                            refine J_bipush (v := 6) (by decide) (dk_X6_isTape 5 _ rfl) ?_
                            refine J_icF (tgt := 14) (by decide) (dk_X6_isTape 7 _ rfl) (jI_nle (by decide : (6 : Int32).toInt = 6) (by decide : (2 : Int32).toInt = 2) (by omega)) ?_
                            refine J_iconst (v := 1) (by decide) (dk_X6_isTape 10 _ rfl) ?_
                            refine J_goto (tgt := 15) (by decide) (dk_X6_isTape 11 _ rfl) ?_
                            exact J_iret rfl rfl (dk_X6_isTape 15 _ rfl) ⟨rfl, rfl⟩
                          show J _ _ _ _ _ _ _ _ _ [.int 1] _ _
                          refine J_ifT (tgt := 16) (by decide) (dk_X6_shift 11 _ rfl) (jI_ne (by decide : (1 : Int32).toInt = 1) (by decide : (0 : Int32).toInt = 0) (by omega)) ?_
                          refine J_aload_n (i := 0) (a := 0) rfl rfl (dk_X6_shift 16 _ rfl) ?_
                          refine J_getf fl_6_37 rfl rfl (dk_X6_shift 17 _ rfl) ?_
                          refine J_iload_n (i := 1) (a := 1) rfl rfl (dk_X6_shift 20 _ rfl) ?_
                          refine J_aald (by decide) rfl (by decide) rfl (dk_X6_shift 21 _ rfl) ?_
                          refine J_astore (i := 6) (by decide) (dk_X6_shift 22 _ rfl) ?_
                          show J _ _ _ _ _ _ _ _ [(6, .ref 88), (0, .ref 0), (1, .int 3), (2, .int i), (3, .int 2), (4, .int j), (5, .int n)] _ _ _
                          refine J_aload_n (i := 0) (a := 0) rfl rfl (dk_X6_shift 24 _ rfl) ?_
                          refine J_getf fl_6_37 rfl rfl (dk_X6_shift 25 _ rfl) ?_
                          refine J_iload_n (i := 3) (a := 3) rfl rfl (dk_X6_shift 28 _ rfl) ?_
                          refine J_aald (by decide) rfl (by decide) rfl (dk_X6_shift 29 _ rfl) ?_
                          refine J_astore (i := 7) (by decide) (dk_X6_shift 30 _ rfl) ?_
                          show J _ _ _ _ _ _ _ _ [(7, .ref 86), (6, .ref 88), (0, .ref 0), (1, .int 3), (2, .int i), (3, .int 2), (4, .int j), (5, .int n)] _ _ _
                          refine J_aload (i := 6) rfl (dk_X6_shift 32 _ rfl) ?_
                          refine J_getf fl_6_223 rfl rfl (dk_X6_shift 34 _ rfl) ?_
                          refine J_iconst (v := (-1)) (by decide) (dk_X6_shift 37 _ rfl) ?_
                          refine J_icT (tgt := 50) (by decide) (dk_X6_shift 38 _ rfl) (jI_eq (by decide : ((-1) : Int32).toInt = (-1)) (by decide : ((-1) : Int32).toInt = (-1)) (by omega)) ?_
                          refine J_bipush (v := (-11)) (by decide) (dk_X6_shift 50 _ rfl) ?_
                          exact J_iret rfl rfl (dk_X6_shift 52 _ rfl) ⟨rfl, rfl⟩
                        · refine jCt_of ok_X7_shift (fun _ _ => Nat.le_of_ble_eq_true rfl) (fun _ _ hq => Nat.le_of_eq (lM.trans hq.2.symm)) ?_
                          show J _ _ _ _ _ _ _ _ [(0, .ref 0), (1, .int 3), (2, .int i), (3, .int 2), (4, .int j), (5, .int n)] _ _ _
                          refine J_aload_n (i := 0) (a := 0) rfl rfl (dk_X7_shift 0 _ rfl) ?_
                          refine J_iload_n (i := 1) (a := 1) rfl rfl (dk_X7_shift 1 _ rfl) ?_
                          refine J_cV (rv := some (.int 1)) (h' := hM0) (d' := 11) (As := [.int 3]) ok_X7_isTape vi_X7_isTape cl_7_354 (n := 1) (by decide +kernel) rfl rfl rfl rfl (by decide) (by decide) (dk_X7_shift 2 _ rfl) ?_ ?_
                          · refine jCt_of ok_X7_isTape (fun _ _ => Nat.le_of_ble_eq_true rfl) (fun _ _ hq => by rw [hq.2]; first | exact Nat.le_refl _ | simp) ?_
                            show J _ _ _ _ _ _ _ _ [(0, .ref 0), (1, .int 3)] _ _ _
                            refine J_aload_n (i := 0) (a := 0) rfl rfl (dk_X7_isTape 0 _ rfl) ?_
                            refine J_iload_n (i := 1) (a := 1) rfl rfl (dk_X7_isTape 1 _ rfl) ?_
                            refine J_iconst (v := 0) (by decide) (dk_X7_isTape 2 _ rfl) ?_
                            refine J_iconst (v := 5) (by decide) (dk_X7_isTape 3 _ rfl) ?_
                            refine J_cV (rv := some (.int 1)) (h' := hM0) (d' := 10) (As := [.int 3, .int 0, .int 5]) ok_X7_in vi_X7_in cl_7_194 (n := 3) (by decide +kernel) rfl rfl rfl rfl (by decide) (by decide) (dk_X7_isTape 4 _ rfl) ?_ ?_
                            · refine jCt_of ok_X7_in (fun _ _ => Nat.le_of_ble_eq_true rfl) (fun _ _ hq => by rw [hq.2]; first | exact Nat.le_refl _ | simp) ?_
                              show J _ _ _ _ _ _ _ _ [(0, .ref 0), (1, .int 3), (2, .int 0), (3, .int 5)] _ _ _
                              refine J_iload_n (i := 1) (a := 1) rfl rfl (dk_X7_in 0 _ rfl) ?_
                              refine J_iload_n (i := 2) (a := 2) rfl rfl (dk_X7_in 1 _ rfl) ?_
                              refine J_icF (tgt := 14) (by decide) (dk_X7_in 2 _ rfl) (jI_nlt (by decide : (3 : Int32).toInt = 3) (by decide : (0 : Int32).toInt = 0) (by omega)) ?_
                              refine J_iload_n (i := 1) (a := 1) rfl rfl (dk_X7_in 5 _ rfl) ?_
                              refine J_iload_n (i := 3) (a := 3) rfl rfl (dk_X7_in 6 _ rfl) ?_
                              refine J_icF (tgt := 14) (by decide) (dk_X7_in 7 _ rfl) (jI_nlt (by decide : (5 : Int32).toInt = 5) (by decide : (3 : Int32).toInt = 3) (by omega)) ?_
                              refine J_iconst (v := 1) (by decide) (dk_X7_in 10 _ rfl) ?_
                              refine J_goto (tgt := 15) (by decide) (dk_X7_in 11 _ rfl) ?_
                              exact J_iret rfl rfl (dk_X7_in 15 _ rfl) ⟨rfl, rfl⟩
                            show J _ _ _ _ _ _ _ _ _ [.int 1] _ _
                            exact J_iret rfl rfl (dk_X7_isTape 7 _ rfl) ⟨rfl, rfl⟩
                          show J _ _ _ _ _ _ _ _ _ [.int 1] _ _
                          refine J_ifF (tgt := 16) (by decide) (dk_X7_shift 5 _ rfl) (jI_ne (by decide : (1 : Int32).toInt = 1) (by decide : (0 : Int32).toInt = 0) (by omega)) ?_
                          refine J_aload_n (i := 0) (a := 0) rfl rfl (dk_X7_shift 8 _ rfl) ?_
                          refine J_iload_n (i := 3) (a := 3) rfl rfl (dk_X7_shift 9 _ rfl) ?_
                          refine J_cV (rv := some (.int 1)) (h' := hM0) (d' := 11) (As := [.int 2]) ok_X7_isTape vi_X7_isTape cl_7_354 (n := 1) (by decide +kernel) rfl rfl rfl rfl (by decide) (by decide) (dk_X7_shift 10 _ rfl) ?_ ?_
                          · refine jCt_of ok_X7_isTape (fun _ _ => Nat.le_of_ble_eq_true rfl) (fun _ _ hq => by rw [hq.2]; first | exact Nat.le_refl _ | simp) ?_
                            show J _ _ _ _ _ _ _ _ [(0, .ref 0), (1, .int 2)] _ _ _
                            refine J_aload_n (i := 0) (a := 0) rfl rfl (dk_X7_isTape 0 _ rfl) ?_
                            refine J_iload_n (i := 1) (a := 1) rfl rfl (dk_X7_isTape 1 _ rfl) ?_
                            refine J_iconst (v := 0) (by decide) (dk_X7_isTape 2 _ rfl) ?_
                            refine J_iconst (v := 5) (by decide) (dk_X7_isTape 3 _ rfl) ?_
                            refine J_cV (rv := some (.int 1)) (h' := hM0) (d' := 10) (As := [.int 2, .int 0, .int 5]) ok_X7_in vi_X7_in cl_7_194 (n := 3) (by decide +kernel) rfl rfl rfl rfl (by decide) (by decide) (dk_X7_isTape 4 _ rfl) ?_ ?_
                            · refine jCt_of ok_X7_in (fun _ _ => Nat.le_of_ble_eq_true rfl) (fun _ _ hq => by rw [hq.2]; first | exact Nat.le_refl _ | simp) ?_
                              show J _ _ _ _ _ _ _ _ [(0, .ref 0), (1, .int 2), (2, .int 0), (3, .int 5)] _ _ _
                              refine J_iload_n (i := 1) (a := 1) rfl rfl (dk_X7_in 0 _ rfl) ?_
                              refine J_iload_n (i := 2) (a := 2) rfl rfl (dk_X7_in 1 _ rfl) ?_
                              refine J_icF (tgt := 14) (by decide) (dk_X7_in 2 _ rfl) (jI_nlt (by decide : (2 : Int32).toInt = 2) (by decide : (0 : Int32).toInt = 0) (by omega)) ?_
                              refine J_iload_n (i := 1) (a := 1) rfl rfl (dk_X7_in 5 _ rfl) ?_
                              refine J_iload_n (i := 3) (a := 3) rfl rfl (dk_X7_in 6 _ rfl) ?_
                              refine J_icF (tgt := 14) (by decide) (dk_X7_in 7 _ rfl) (jI_nlt (by decide : (5 : Int32).toInt = 5) (by decide : (2 : Int32).toInt = 2) (by omega)) ?_
                              refine J_iconst (v := 1) (by decide) (dk_X7_in 10 _ rfl) ?_
                              refine J_goto (tgt := 15) (by decide) (dk_X7_in 11 _ rfl) ?_
                              exact J_iret rfl rfl (dk_X7_in 15 _ rfl) ⟨rfl, rfl⟩
                            show J _ _ _ _ _ _ _ _ _ [.int 1] _ _
                            exact J_iret rfl rfl (dk_X7_isTape 7 _ rfl) ⟨rfl, rfl⟩
                          show J _ _ _ _ _ _ _ _ _ [.int 1] _ _
                          refine J_ifT (tgt := 18) (by decide) (dk_X7_shift 13 _ rfl) (jI_ne (by decide : (1 : Int32).toInt = 1) (by decide : (0 : Int32).toInt = 0) (by omega)) ?_
                          refine J_aload_n (i := 0) (a := 0) rfl rfl (dk_X7_shift 18 _ rfl) ?_
                          refine J_getf fl_7_181 rfl rfl (dk_X7_shift 19 _ rfl) ?_
                          refine J_iload_n (i := 1) (a := 1) rfl rfl (dk_X7_shift 22 _ rfl) ?_
                          refine J_iald rfl (by decide) rfl (dk_X7_shift 23 _ rfl) ?_
                          refine J_ifT (tgt := 36) (by decide) (dk_X7_shift 24 _ rfl) (jI_lt (by decide : ((-1) : Int32).toInt = (-1)) (by decide : (0 : Int32).toInt = 0) (by omega)) ?_
                          refine J_bipush (v := (-11)) (by decide) (dk_X7_shift 36 _ rfl) ?_
                          exact J_iret rfl rfl (dk_X7_shift 38 _ rfl) ⟨rfl, rfl⟩
                      · by_cases c30 : (o : Int32).toInt = 3
                        · obtain rfl : o = 3 := jI_eq rfl (by decide) c30
                          refine ⟨(-11), ?_, ?_⟩
                          · refine jCt_of ok_X6_shift (fun _ _ => Nat.le_of_ble_eq_true rfl) (fun _ _ hq => Nat.le_of_eq (lX.trans hq.2.symm)) ?_
                            show J _ _ _ _ _ _ _ _ [(0, .ref 0), (1, .int 3), (2, .int i), (3, .int 3), (4, .int j), (5, .int n)] _ _ _
                            refine J_iload_n (i := 1) (a := 1) rfl rfl (dk_X6_shift 0 _ rfl) ?_
                            refine J_cS (rv := some (.int 1)) (h' := hN0) (d' := 11) (As := [.int 3]) ok_X6_isTape st_X6_isTape cl_6_220 rfl (n := 1) (by decide +kernel) rfl (by decide) (by decide) (dk_X6_shift 1 _ rfl) ?_ ?_
                            · refine jCt_of ok_X6_isTape (fun _ _ => Nat.le_of_ble_eq_true rfl) (fun _ _ hq => by rw [hq.2]; first | exact Nat.le_refl _ | simp) ?_
                              show J _ _ _ _ _ _ _ _ [(0, .int 3)] _ _ _
                              refine J_iload_n (i := 0) (a := 0) rfl rfl (dk_X6_isTape 0 _ rfl) ?_
                              refine J_ifF (tgt := 14) (by decide) (dk_X6_isTape 1 _ rfl) (jI_nlt (by decide : (3 : Int32).toInt = 3) (by decide : (0 : Int32).toInt = 0) (by omega)) ?_
                              refine J_iload_n (i := 0) (a := 0) rfl rfl (dk_X6_isTape 4 _ rfl) ?_
                              refine J_bipush (v := 6) (by decide) (dk_X6_isTape 5 _ rfl) ?_
                              refine J_icF (tgt := 14) (by decide) (dk_X6_isTape 7 _ rfl) (jI_nle (by decide : (6 : Int32).toInt = 6) (by decide : (3 : Int32).toInt = 3) (by omega)) ?_
                              refine J_iconst (v := 1) (by decide) (dk_X6_isTape 10 _ rfl) ?_
                              refine J_goto (tgt := 15) (by decide) (dk_X6_isTape 11 _ rfl) ?_
                              exact J_iret rfl rfl (dk_X6_isTape 15 _ rfl) ⟨rfl, rfl⟩
                            show J _ _ _ _ _ _ _ _ _ [.int 1] _ _
                            refine J_ifF (tgt := 14) (by decide) (dk_X6_shift 4 _ rfl) (jI_ne (by decide : (1 : Int32).toInt = 1) (by decide : (0 : Int32).toInt = 0) (by omega)) ?_
                            refine J_iload_n (i := 3) (a := 3) rfl rfl (dk_X6_shift 7 _ rfl) ?_
                            refine J_cS (rv := some (.int 1)) (h' := hN0) (d' := 11) (As := [.int 3]) ok_X6_isTape st_X6_isTape cl_6_220 rfl (n := 1) (by decide +kernel) rfl (by decide) (by decide) (dk_X6_shift 8 _ rfl) ?_ ?_
                            · refine jCt_of ok_X6_isTape (fun _ _ => Nat.le_of_ble_eq_true rfl) (fun _ _ hq => by rw [hq.2]; first | exact Nat.le_refl _ | simp) ?_
                              show J _ _ _ _ _ _ _ _ [(0, .int 3)] _ _ _
                              refine J_iload_n (i := 0) (a := 0) rfl rfl (dk_X6_isTape 0 _ rfl) ?_
                              refine J_ifF (tgt := 14) (by decide) (dk_X6_isTape 1 _ rfl) (jI_nlt (by decide : (3 : Int32).toInt = 3) (by decide : (0 : Int32).toInt = 0) (by omega)) ?_
                              refine J_iload_n (i := 0) (a := 0) rfl rfl (dk_X6_isTape 4 _ rfl) ?_
                              refine J_bipush (v := 6) (by decide) (dk_X6_isTape 5 _ rfl) ?_
                              refine J_icF (tgt := 14) (by decide) (dk_X6_isTape 7 _ rfl) (jI_nle (by decide : (6 : Int32).toInt = 6) (by decide : (3 : Int32).toInt = 3) (by omega)) ?_
                              refine J_iconst (v := 1) (by decide) (dk_X6_isTape 10 _ rfl) ?_
                              refine J_goto (tgt := 15) (by decide) (dk_X6_isTape 11 _ rfl) ?_
                              exact J_iret rfl rfl (dk_X6_isTape 15 _ rfl) ⟨rfl, rfl⟩
                            show J _ _ _ _ _ _ _ _ _ [.int 1] _ _
                            refine J_ifT (tgt := 16) (by decide) (dk_X6_shift 11 _ rfl) (jI_ne (by decide : (1 : Int32).toInt = 1) (by decide : (0 : Int32).toInt = 0) (by omega)) ?_
                            refine J_aload_n (i := 0) (a := 0) rfl rfl (dk_X6_shift 16 _ rfl) ?_
                            refine J_getf fl_6_37 rfl rfl (dk_X6_shift 17 _ rfl) ?_
                            refine J_iload_n (i := 1) (a := 1) rfl rfl (dk_X6_shift 20 _ rfl) ?_
                            refine J_aald (by decide) rfl (by decide) rfl (dk_X6_shift 21 _ rfl) ?_
                            refine J_astore (i := 6) (by decide) (dk_X6_shift 22 _ rfl) ?_
                            show J _ _ _ _ _ _ _ _ [(6, .ref 88), (0, .ref 0), (1, .int 3), (2, .int i), (3, .int 3), (4, .int j), (5, .int n)] _ _ _
                            refine J_aload_n (i := 0) (a := 0) rfl rfl (dk_X6_shift 24 _ rfl) ?_
                            refine J_getf fl_6_37 rfl rfl (dk_X6_shift 25 _ rfl) ?_
                            refine J_iload_n (i := 3) (a := 3) rfl rfl (dk_X6_shift 28 _ rfl) ?_
                            refine J_aald (by decide) rfl (by decide) rfl (dk_X6_shift 29 _ rfl) ?_
                            refine J_astore (i := 7) (by decide) (dk_X6_shift 30 _ rfl) ?_
                            show J _ _ _ _ _ _ _ _ [(7, .ref 88), (6, .ref 88), (0, .ref 0), (1, .int 3), (2, .int i), (3, .int 3), (4, .int j), (5, .int n)] _ _ _
                            refine J_aload (i := 6) rfl (dk_X6_shift 32 _ rfl) ?_
                            refine J_getf fl_6_223 rfl rfl (dk_X6_shift 34 _ rfl) ?_
                            refine J_iconst (v := (-1)) (by decide) (dk_X6_shift 37 _ rfl) ?_
                            refine J_icT (tgt := 50) (by decide) (dk_X6_shift 38 _ rfl) (jI_eq (by decide : ((-1) : Int32).toInt = (-1)) (by decide : ((-1) : Int32).toInt = (-1)) (by omega)) ?_
                            refine J_bipush (v := (-11)) (by decide) (dk_X6_shift 50 _ rfl) ?_
                            exact J_iret rfl rfl (dk_X6_shift 52 _ rfl) ⟨rfl, rfl⟩
                          · refine jCt_of ok_X7_shift (fun _ _ => Nat.le_of_ble_eq_true rfl) (fun _ _ hq => Nat.le_of_eq (lM.trans hq.2.symm)) ?_
                            show J _ _ _ _ _ _ _ _ [(0, .ref 0), (1, .int 3), (2, .int i), (3, .int 3), (4, .int j), (5, .int n)] _ _ _
                            refine J_aload_n (i := 0) (a := 0) rfl rfl (dk_X7_shift 0 _ rfl) ?_
                            refine J_iload_n (i := 1) (a := 1) rfl rfl (dk_X7_shift 1 _ rfl) ?_
                            refine J_cV (rv := some (.int 1)) (h' := hM0) (d' := 11) (As := [.int 3]) ok_X7_isTape vi_X7_isTape cl_7_354 (n := 1) (by decide +kernel) rfl rfl rfl rfl (by decide) (by decide) (dk_X7_shift 2 _ rfl) ?_ ?_
                            · refine jCt_of ok_X7_isTape (fun _ _ => Nat.le_of_ble_eq_true rfl) (fun _ _ hq => by rw [hq.2]; first | exact Nat.le_refl _ | simp) ?_
                              show J _ _ _ _ _ _ _ _ [(0, .ref 0), (1, .int 3)] _ _ _
                              refine J_aload_n (i := 0) (a := 0) rfl rfl (dk_X7_isTape 0 _ rfl) ?_
                              refine J_iload_n (i := 1) (a := 1) rfl rfl (dk_X7_isTape 1 _ rfl) ?_
                              refine J_iconst (v := 0) (by decide) (dk_X7_isTape 2 _ rfl) ?_
                              refine J_iconst (v := 5) (by decide) (dk_X7_isTape 3 _ rfl) ?_
                              refine J_cV (rv := some (.int 1)) (h' := hM0) (d' := 10) (As := [.int 3, .int 0, .int 5]) ok_X7_in vi_X7_in cl_7_194 (n := 3) (by decide +kernel) rfl rfl rfl rfl (by decide) (by decide) (dk_X7_isTape 4 _ rfl) ?_ ?_
                              · refine jCt_of ok_X7_in (fun _ _ => Nat.le_of_ble_eq_true rfl) (fun _ _ hq => by rw [hq.2]; first | exact Nat.le_refl _ | simp) ?_
                                show J _ _ _ _ _ _ _ _ [(0, .ref 0), (1, .int 3), (2, .int 0), (3, .int 5)] _ _ _
                                refine J_iload_n (i := 1) (a := 1) rfl rfl (dk_X7_in 0 _ rfl) ?_
                                refine J_iload_n (i := 2) (a := 2) rfl rfl (dk_X7_in 1 _ rfl) ?_
                                refine J_icF (tgt := 14) (by decide) (dk_X7_in 2 _ rfl) (jI_nlt (by decide : (3 : Int32).toInt = 3) (by decide : (0 : Int32).toInt = 0) (by omega)) ?_
                                refine J_iload_n (i := 1) (a := 1) rfl rfl (dk_X7_in 5 _ rfl) ?_
                                refine J_iload_n (i := 3) (a := 3) rfl rfl (dk_X7_in 6 _ rfl) ?_
                                refine J_icF (tgt := 14) (by decide) (dk_X7_in 7 _ rfl) (jI_nlt (by decide : (5 : Int32).toInt = 5) (by decide : (3 : Int32).toInt = 3) (by omega)) ?_
                                refine J_iconst (v := 1) (by decide) (dk_X7_in 10 _ rfl) ?_
                                refine J_goto (tgt := 15) (by decide) (dk_X7_in 11 _ rfl) ?_
                                exact J_iret rfl rfl (dk_X7_in 15 _ rfl) ⟨rfl, rfl⟩
                              show J _ _ _ _ _ _ _ _ _ [.int 1] _ _
                              exact J_iret rfl rfl (dk_X7_isTape 7 _ rfl) ⟨rfl, rfl⟩
                            show J _ _ _ _ _ _ _ _ _ [.int 1] _ _
                            refine J_ifF (tgt := 16) (by decide) (dk_X7_shift 5 _ rfl) (jI_ne (by decide : (1 : Int32).toInt = 1) (by decide : (0 : Int32).toInt = 0) (by omega)) ?_
                            refine J_aload_n (i := 0) (a := 0) rfl rfl (dk_X7_shift 8 _ rfl) ?_
                            refine J_iload_n (i := 3) (a := 3) rfl rfl (dk_X7_shift 9 _ rfl) ?_
                            refine J_cV (rv := some (.int 1)) (h' := hM0) (d' := 11) (As := [.int 3]) ok_X7_isTape vi_X7_isTape cl_7_354 (n := 1) (by decide +kernel) rfl rfl rfl rfl (by decide) (by decide) (dk_X7_shift 10 _ rfl) ?_ ?_
                            · refine jCt_of ok_X7_isTape (fun _ _ => Nat.le_of_ble_eq_true rfl) (fun _ _ hq => by rw [hq.2]; first | exact Nat.le_refl _ | simp) ?_
                              show J _ _ _ _ _ _ _ _ [(0, .ref 0), (1, .int 3)] _ _ _
                              refine J_aload_n (i := 0) (a := 0) rfl rfl (dk_X7_isTape 0 _ rfl) ?_
                              refine J_iload_n (i := 1) (a := 1) rfl rfl (dk_X7_isTape 1 _ rfl) ?_
                              refine J_iconst (v := 0) (by decide) (dk_X7_isTape 2 _ rfl) ?_
                              refine J_iconst (v := 5) (by decide) (dk_X7_isTape 3 _ rfl) ?_
                              refine J_cV (rv := some (.int 1)) (h' := hM0) (d' := 10) (As := [.int 3, .int 0, .int 5]) ok_X7_in vi_X7_in cl_7_194 (n := 3) (by decide +kernel) rfl rfl rfl rfl (by decide) (by decide) (dk_X7_isTape 4 _ rfl) ?_ ?_
                              · refine jCt_of ok_X7_in (fun _ _ => Nat.le_of_ble_eq_true rfl) (fun _ _ hq => by rw [hq.2]; first | exact Nat.le_refl _ | simp) ?_
                                show J _ _ _ _ _ _ _ _ [(0, .ref 0), (1, .int 3), (2, .int 0), (3, .int 5)] _ _ _
                                refine J_iload_n (i := 1) (a := 1) rfl rfl (dk_X7_in 0 _ rfl) ?_
                                refine J_iload_n (i := 2) (a := 2) rfl rfl (dk_X7_in 1 _ rfl) ?_
                                refine J_icF (tgt := 14) (by decide) (dk_X7_in 2 _ rfl) (jI_nlt (by decide : (3 : Int32).toInt = 3) (by decide : (0 : Int32).toInt = 0) (by omega)) ?_
                                refine J_iload_n (i := 1) (a := 1) rfl rfl (dk_X7_in 5 _ rfl) ?_
                                refine J_iload_n (i := 3) (a := 3) rfl rfl (dk_X7_in 6 _ rfl) ?_
                                refine J_icF (tgt := 14) (by decide) (dk_X7_in 7 _ rfl) (jI_nlt (by decide : (5 : Int32).toInt = 5) (by decide : (3 : Int32).toInt = 3) (by omega)) ?_
                                refine J_iconst (v := 1) (by decide) (dk_X7_in 10 _ rfl) ?_
                                refine J_goto (tgt := 15) (by decide) (dk_X7_in 11 _ rfl) ?_
                                exact J_iret rfl rfl (dk_X7_in 15 _ rfl) ⟨rfl, rfl⟩
                              show J _ _ _ _ _ _ _ _ _ [.int 1] _ _
                              exact J_iret rfl rfl (dk_X7_isTape 7 _ rfl) ⟨rfl, rfl⟩
                            show J _ _ _ _ _ _ _ _ _ [.int 1] _ _
                            refine J_ifT (tgt := 18) (by decide) (dk_X7_shift 13 _ rfl) (jI_ne (by decide : (1 : Int32).toInt = 1) (by decide : (0 : Int32).toInt = 0) (by omega)) ?_
                            refine J_aload_n (i := 0) (a := 0) rfl rfl (dk_X7_shift 18 _ rfl) ?_
                            refine J_getf fl_7_181 rfl rfl (dk_X7_shift 19 _ rfl) ?_
                            refine J_iload_n (i := 1) (a := 1) rfl rfl (dk_X7_shift 22 _ rfl) ?_
                            refine J_iald rfl (by decide) rfl (dk_X7_shift 23 _ rfl) ?_
                            refine J_ifT (tgt := 36) (by decide) (dk_X7_shift 24 _ rfl) (jI_lt (by decide : ((-1) : Int32).toInt = (-1)) (by decide : (0 : Int32).toInt = 0) (by omega)) ?_
                            refine J_bipush (v := (-11)) (by decide) (dk_X7_shift 36 _ rfl) ?_
                            exact J_iret rfl rfl (dk_X7_shift 38 _ rfl) ⟨rfl, rfl⟩
                        · by_cases c31 : (o : Int32).toInt = 4
                          · obtain rfl : o = 4 := jI_eq rfl (by decide) c31
                            refine ⟨(-11), ?_, ?_⟩
                            · refine jCt_of ok_X6_shift (fun _ _ => Nat.le_of_ble_eq_true rfl) (fun _ _ hq => Nat.le_of_eq (lX.trans hq.2.symm)) ?_
                              show J _ _ _ _ _ _ _ _ [(0, .ref 0), (1, .int 3), (2, .int i), (3, .int 4), (4, .int j), (5, .int n)] _ _ _
                              refine J_iload_n (i := 1) (a := 1) rfl rfl (dk_X6_shift 0 _ rfl) ?_
                              refine J_cS (rv := some (.int 1)) (h' := hN0) (d' := 11) (As := [.int 3]) ok_X6_isTape st_X6_isTape cl_6_220 rfl (n := 1) (by decide +kernel) rfl (by decide) (by decide) (dk_X6_shift 1 _ rfl) ?_ ?_
                              · refine jCt_of ok_X6_isTape (fun _ _ => Nat.le_of_ble_eq_true rfl) (fun _ _ hq => by rw [hq.2]; first | exact Nat.le_refl _ | simp) ?_
                                show J _ _ _ _ _ _ _ _ [(0, .int 3)] _ _ _
                                refine J_iload_n (i := 0) (a := 0) rfl rfl (dk_X6_isTape 0 _ rfl) ?_
                                refine J_ifF (tgt := 14) (by decide) (dk_X6_isTape 1 _ rfl) (jI_nlt (by decide : (3 : Int32).toInt = 3) (by decide : (0 : Int32).toInt = 0) (by omega)) ?_
                                refine J_iload_n (i := 0) (a := 0) rfl rfl (dk_X6_isTape 4 _ rfl) ?_
                                refine J_bipush (v := 6) (by decide) (dk_X6_isTape 5 _ rfl) ?_
                                refine J_icF (tgt := 14) (by decide) (dk_X6_isTape 7 _ rfl) (jI_nle (by decide : (6 : Int32).toInt = 6) (by decide : (3 : Int32).toInt = 3) (by omega)) ?_
                                refine J_iconst (v := 1) (by decide) (dk_X6_isTape 10 _ rfl) ?_
                                refine J_goto (tgt := 15) (by decide) (dk_X6_isTape 11 _ rfl) ?_
                                exact J_iret rfl rfl (dk_X6_isTape 15 _ rfl) ⟨rfl, rfl⟩
                              show J _ _ _ _ _ _ _ _ _ [.int 1] _ _
                              refine J_ifF (tgt := 14) (by decide) (dk_X6_shift 4 _ rfl) (jI_ne (by decide : (1 : Int32).toInt = 1) (by decide : (0 : Int32).toInt = 0) (by omega)) ?_
                              refine J_iload_n (i := 3) (a := 3) rfl rfl (dk_X6_shift 7 _ rfl) ?_
                              refine J_cS (rv := some (.int 1)) (h' := hN0) (d' := 11) (As := [.int 4]) ok_X6_isTape st_X6_isTape cl_6_220 rfl (n := 1) (by decide +kernel) rfl (by decide) (by decide) (dk_X6_shift 8 _ rfl) ?_ ?_
                              · refine jCt_of ok_X6_isTape (fun _ _ => Nat.le_of_ble_eq_true rfl) (fun _ _ hq => by rw [hq.2]; first | exact Nat.le_refl _ | simp) ?_
                                show J _ _ _ _ _ _ _ _ [(0, .int 4)] _ _ _
                                refine J_iload_n (i := 0) (a := 0) rfl rfl (dk_X6_isTape 0 _ rfl) ?_
                                refine J_ifF (tgt := 14) (by decide) (dk_X6_isTape 1 _ rfl) (jI_nlt (by decide : (4 : Int32).toInt = 4) (by decide : (0 : Int32).toInt = 0) (by omega)) ?_
                                refine J_iload_n (i := 0) (a := 0) rfl rfl (dk_X6_isTape 4 _ rfl) ?_
                                refine J_bipush (v := 6) (by decide) (dk_X6_isTape 5 _ rfl) ?_
                                refine J_icF (tgt := 14) (by decide) (dk_X6_isTape 7 _ rfl) (jI_nle (by decide : (6 : Int32).toInt = 6) (by decide : (4 : Int32).toInt = 4) (by omega)) ?_
                                refine J_iconst (v := 1) (by decide) (dk_X6_isTape 10 _ rfl) ?_
                                refine J_goto (tgt := 15) (by decide) (dk_X6_isTape 11 _ rfl) ?_
                                exact J_iret rfl rfl (dk_X6_isTape 15 _ rfl) ⟨rfl, rfl⟩
                              show J _ _ _ _ _ _ _ _ _ [.int 1] _ _
                              refine J_ifT (tgt := 16) (by decide) (dk_X6_shift 11 _ rfl) (jI_ne (by decide : (1 : Int32).toInt = 1) (by decide : (0 : Int32).toInt = 0) (by omega)) ?_
                              refine J_aload_n (i := 0) (a := 0) rfl rfl (dk_X6_shift 16 _ rfl) ?_
                              refine J_getf fl_6_37 rfl rfl (dk_X6_shift 17 _ rfl) ?_
                              refine J_iload_n (i := 1) (a := 1) rfl rfl (dk_X6_shift 20 _ rfl) ?_
                              refine J_aald (by decide) rfl (by decide) rfl (dk_X6_shift 21 _ rfl) ?_
                              refine J_astore (i := 6) (by decide) (dk_X6_shift 22 _ rfl) ?_
                              show J _ _ _ _ _ _ _ _ [(6, .ref 88), (0, .ref 0), (1, .int 3), (2, .int i), (3, .int 4), (4, .int j), (5, .int n)] _ _ _
                              refine J_aload_n (i := 0) (a := 0) rfl rfl (dk_X6_shift 24 _ rfl) ?_
                              refine J_getf fl_6_37 rfl rfl (dk_X6_shift 25 _ rfl) ?_
                              refine J_iload_n (i := 3) (a := 3) rfl rfl (dk_X6_shift 28 _ rfl) ?_
                              refine J_aald (by decide) rfl (by decide) rfl (dk_X6_shift 29 _ rfl) ?_
                              refine J_astore (i := 7) (by decide) (dk_X6_shift 30 _ rfl) ?_
                              show J _ _ _ _ _ _ _ _ [(7, .ref 90), (6, .ref 88), (0, .ref 0), (1, .int 3), (2, .int i), (3, .int 4), (4, .int j), (5, .int n)] _ _ _
                              refine J_aload (i := 6) rfl (dk_X6_shift 32 _ rfl) ?_
                              refine J_getf fl_6_223 rfl rfl (dk_X6_shift 34 _ rfl) ?_
                              refine J_iconst (v := (-1)) (by decide) (dk_X6_shift 37 _ rfl) ?_
                              refine J_icT (tgt := 50) (by decide) (dk_X6_shift 38 _ rfl) (jI_eq (by decide : ((-1) : Int32).toInt = (-1)) (by decide : ((-1) : Int32).toInt = (-1)) (by omega)) ?_
                              refine J_bipush (v := (-11)) (by decide) (dk_X6_shift 50 _ rfl) ?_
                              exact J_iret rfl rfl (dk_X6_shift 52 _ rfl) ⟨rfl, rfl⟩
                            · refine jCt_of ok_X7_shift (fun _ _ => Nat.le_of_ble_eq_true rfl) (fun _ _ hq => Nat.le_of_eq (lM.trans hq.2.symm)) ?_
                              show J _ _ _ _ _ _ _ _ [(0, .ref 0), (1, .int 3), (2, .int i), (3, .int 4), (4, .int j), (5, .int n)] _ _ _
                              refine J_aload_n (i := 0) (a := 0) rfl rfl (dk_X7_shift 0 _ rfl) ?_
                              refine J_iload_n (i := 1) (a := 1) rfl rfl (dk_X7_shift 1 _ rfl) ?_
                              refine J_cV (rv := some (.int 1)) (h' := hM0) (d' := 11) (As := [.int 3]) ok_X7_isTape vi_X7_isTape cl_7_354 (n := 1) (by decide +kernel) rfl rfl rfl rfl (by decide) (by decide) (dk_X7_shift 2 _ rfl) ?_ ?_
                              · refine jCt_of ok_X7_isTape (fun _ _ => Nat.le_of_ble_eq_true rfl) (fun _ _ hq => by rw [hq.2]; first | exact Nat.le_refl _ | simp) ?_
                                show J _ _ _ _ _ _ _ _ [(0, .ref 0), (1, .int 3)] _ _ _
                                refine J_aload_n (i := 0) (a := 0) rfl rfl (dk_X7_isTape 0 _ rfl) ?_
                                refine J_iload_n (i := 1) (a := 1) rfl rfl (dk_X7_isTape 1 _ rfl) ?_
                                refine J_iconst (v := 0) (by decide) (dk_X7_isTape 2 _ rfl) ?_
                                refine J_iconst (v := 5) (by decide) (dk_X7_isTape 3 _ rfl) ?_
                                refine J_cV (rv := some (.int 1)) (h' := hM0) (d' := 10) (As := [.int 3, .int 0, .int 5]) ok_X7_in vi_X7_in cl_7_194 (n := 3) (by decide +kernel) rfl rfl rfl rfl (by decide) (by decide) (dk_X7_isTape 4 _ rfl) ?_ ?_
                                · refine jCt_of ok_X7_in (fun _ _ => Nat.le_of_ble_eq_true rfl) (fun _ _ hq => by rw [hq.2]; first | exact Nat.le_refl _ | simp) ?_
                                  show J _ _ _ _ _ _ _ _ [(0, .ref 0), (1, .int 3), (2, .int 0), (3, .int 5)] _ _ _
                                  refine J_iload_n (i := 1) (a := 1) rfl rfl (dk_X7_in 0 _ rfl) ?_
                                  refine J_iload_n (i := 2) (a := 2) rfl rfl (dk_X7_in 1 _ rfl) ?_
                                  refine J_icF (tgt := 14) (by decide) (dk_X7_in 2 _ rfl) (jI_nlt (by decide : (3 : Int32).toInt = 3) (by decide : (0 : Int32).toInt = 0) (by omega)) ?_
                                  refine J_iload_n (i := 1) (a := 1) rfl rfl (dk_X7_in 5 _ rfl) ?_
                                  refine J_iload_n (i := 3) (a := 3) rfl rfl (dk_X7_in 6 _ rfl) ?_
                                  refine J_icF (tgt := 14) (by decide) (dk_X7_in 7 _ rfl) (jI_nlt (by decide : (5 : Int32).toInt = 5) (by decide : (3 : Int32).toInt = 3) (by omega)) ?_
                                  refine J_iconst (v := 1) (by decide) (dk_X7_in 10 _ rfl) ?_
                                  refine J_goto (tgt := 15) (by decide) (dk_X7_in 11 _ rfl) ?_
                                  exact J_iret rfl rfl (dk_X7_in 15 _ rfl) ⟨rfl, rfl⟩
                                show J _ _ _ _ _ _ _ _ _ [.int 1] _ _
                                exact J_iret rfl rfl (dk_X7_isTape 7 _ rfl) ⟨rfl, rfl⟩
                              show J _ _ _ _ _ _ _ _ _ [.int 1] _ _
                              refine J_ifF (tgt := 16) (by decide) (dk_X7_shift 5 _ rfl) (jI_ne (by decide : (1 : Int32).toInt = 1) (by decide : (0 : Int32).toInt = 0) (by omega)) ?_
                              refine J_aload_n (i := 0) (a := 0) rfl rfl (dk_X7_shift 8 _ rfl) ?_
                              refine J_iload_n (i := 3) (a := 3) rfl rfl (dk_X7_shift 9 _ rfl) ?_
                              refine J_cV (rv := some (.int 1)) (h' := hM0) (d' := 11) (As := [.int 4]) ok_X7_isTape vi_X7_isTape cl_7_354 (n := 1) (by decide +kernel) rfl rfl rfl rfl (by decide) (by decide) (dk_X7_shift 10 _ rfl) ?_ ?_
                              · refine jCt_of ok_X7_isTape (fun _ _ => Nat.le_of_ble_eq_true rfl) (fun _ _ hq => by rw [hq.2]; first | exact Nat.le_refl _ | simp) ?_
                                show J _ _ _ _ _ _ _ _ [(0, .ref 0), (1, .int 4)] _ _ _
                                refine J_aload_n (i := 0) (a := 0) rfl rfl (dk_X7_isTape 0 _ rfl) ?_
                                refine J_iload_n (i := 1) (a := 1) rfl rfl (dk_X7_isTape 1 _ rfl) ?_
                                refine J_iconst (v := 0) (by decide) (dk_X7_isTape 2 _ rfl) ?_
                                refine J_iconst (v := 5) (by decide) (dk_X7_isTape 3 _ rfl) ?_
                                refine J_cV (rv := some (.int 1)) (h' := hM0) (d' := 10) (As := [.int 4, .int 0, .int 5]) ok_X7_in vi_X7_in cl_7_194 (n := 3) (by decide +kernel) rfl rfl rfl rfl (by decide) (by decide) (dk_X7_isTape 4 _ rfl) ?_ ?_
                                · refine jCt_of ok_X7_in (fun _ _ => Nat.le_of_ble_eq_true rfl) (fun _ _ hq => by rw [hq.2]; first | exact Nat.le_refl _ | simp) ?_
                                  show J _ _ _ _ _ _ _ _ [(0, .ref 0), (1, .int 4), (2, .int 0), (3, .int 5)] _ _ _
                                  refine J_iload_n (i := 1) (a := 1) rfl rfl (dk_X7_in 0 _ rfl) ?_
                                  refine J_iload_n (i := 2) (a := 2) rfl rfl (dk_X7_in 1 _ rfl) ?_
                                  refine J_icF (tgt := 14) (by decide) (dk_X7_in 2 _ rfl) (jI_nlt (by decide : (4 : Int32).toInt = 4) (by decide : (0 : Int32).toInt = 0) (by omega)) ?_
                                  refine J_iload_n (i := 1) (a := 1) rfl rfl (dk_X7_in 5 _ rfl) ?_
                                  refine J_iload_n (i := 3) (a := 3) rfl rfl (dk_X7_in 6 _ rfl) ?_
                                  refine J_icF (tgt := 14) (by decide) (dk_X7_in 7 _ rfl) (jI_nlt (by decide : (5 : Int32).toInt = 5) (by decide : (4 : Int32).toInt = 4) (by omega)) ?_
                                  refine J_iconst (v := 1) (by decide) (dk_X7_in 10 _ rfl) ?_
                                  refine J_goto (tgt := 15) (by decide) (dk_X7_in 11 _ rfl) ?_
                                  exact J_iret rfl rfl (dk_X7_in 15 _ rfl) ⟨rfl, rfl⟩
                                show J _ _ _ _ _ _ _ _ _ [.int 1] _ _
                                exact J_iret rfl rfl (dk_X7_isTape 7 _ rfl) ⟨rfl, rfl⟩
                              show J _ _ _ _ _ _ _ _ _ [.int 1] _ _
                              refine J_ifT (tgt := 18) (by decide) (dk_X7_shift 13 _ rfl) (jI_ne (by decide : (1 : Int32).toInt = 1) (by decide : (0 : Int32).toInt = 0) (by omega)) ?_
                              refine J_aload_n (i := 0) (a := 0) rfl rfl (dk_X7_shift 18 _ rfl) ?_
                              refine J_getf fl_7_181 rfl rfl (dk_X7_shift 19 _ rfl) ?_
                              refine J_iload_n (i := 1) (a := 1) rfl rfl (dk_X7_shift 22 _ rfl) ?_
                              refine J_iald rfl (by decide) rfl (dk_X7_shift 23 _ rfl) ?_
                              refine J_ifT (tgt := 36) (by decide) (dk_X7_shift 24 _ rfl) (jI_lt (by decide : ((-1) : Int32).toInt = (-1)) (by decide : (0 : Int32).toInt = 0) (by omega)) ?_
                              refine J_bipush (v := (-11)) (by decide) (dk_X7_shift 36 _ rfl) ?_
                              exact J_iret rfl rfl (dk_X7_shift 38 _ rfl) ⟨rfl, rfl⟩
                          · obtain rfl : o = 5 := jI_eq rfl (by decide) (by omega : (o : Int32).toInt = 5)
                            refine ⟨(-11), ?_, ?_⟩
                            · refine jCt_of ok_X6_shift (fun _ _ => Nat.le_of_ble_eq_true rfl) (fun _ _ hq => Nat.le_of_eq (lX.trans hq.2.symm)) ?_
                              show J _ _ _ _ _ _ _ _ [(0, .ref 0), (1, .int 3), (2, .int i), (3, .int 5), (4, .int j), (5, .int n)] _ _ _
                              refine J_iload_n (i := 1) (a := 1) rfl rfl (dk_X6_shift 0 _ rfl) ?_
                              refine J_cS (rv := some (.int 1)) (h' := hN0) (d' := 11) (As := [.int 3]) ok_X6_isTape st_X6_isTape cl_6_220 rfl (n := 1) (by decide +kernel) rfl (by decide) (by decide) (dk_X6_shift 1 _ rfl) ?_ ?_
                              · refine jCt_of ok_X6_isTape (fun _ _ => Nat.le_of_ble_eq_true rfl) (fun _ _ hq => by rw [hq.2]; first | exact Nat.le_refl _ | simp) ?_
                                show J _ _ _ _ _ _ _ _ [(0, .int 3)] _ _ _
                                refine J_iload_n (i := 0) (a := 0) rfl rfl (dk_X6_isTape 0 _ rfl) ?_
                                refine J_ifF (tgt := 14) (by decide) (dk_X6_isTape 1 _ rfl) (jI_nlt (by decide : (3 : Int32).toInt = 3) (by decide : (0 : Int32).toInt = 0) (by omega)) ?_
                                refine J_iload_n (i := 0) (a := 0) rfl rfl (dk_X6_isTape 4 _ rfl) ?_
                                refine J_bipush (v := 6) (by decide) (dk_X6_isTape 5 _ rfl) ?_
                                refine J_icF (tgt := 14) (by decide) (dk_X6_isTape 7 _ rfl) (jI_nle (by decide : (6 : Int32).toInt = 6) (by decide : (3 : Int32).toInt = 3) (by omega)) ?_
                                refine J_iconst (v := 1) (by decide) (dk_X6_isTape 10 _ rfl) ?_
                                refine J_goto (tgt := 15) (by decide) (dk_X6_isTape 11 _ rfl) ?_
                                exact J_iret rfl rfl (dk_X6_isTape 15 _ rfl) ⟨rfl, rfl⟩
                              show J _ _ _ _ _ _ _ _ _ [.int 1] _ _
                              refine J_ifF (tgt := 14) (by decide) (dk_X6_shift 4 _ rfl) (jI_ne (by decide : (1 : Int32).toInt = 1) (by decide : (0 : Int32).toInt = 0) (by omega)) ?_
                              refine J_iload_n (i := 3) (a := 3) rfl rfl (dk_X6_shift 7 _ rfl) ?_
                              refine J_cS (rv := some (.int 1)) (h' := hN0) (d' := 11) (As := [.int 5]) ok_X6_isTape st_X6_isTape cl_6_220 rfl (n := 1) (by decide +kernel) rfl (by decide) (by decide) (dk_X6_shift 8 _ rfl) ?_ ?_
                              · refine jCt_of ok_X6_isTape (fun _ _ => Nat.le_of_ble_eq_true rfl) (fun _ _ hq => by rw [hq.2]; first | exact Nat.le_refl _ | simp) ?_
                                show J _ _ _ _ _ _ _ _ [(0, .int 5)] _ _ _
                                refine J_iload_n (i := 0) (a := 0) rfl rfl (dk_X6_isTape 0 _ rfl) ?_
                                refine J_ifF (tgt := 14) (by decide) (dk_X6_isTape 1 _ rfl) (jI_nlt (by decide : (5 : Int32).toInt = 5) (by decide : (0 : Int32).toInt = 0) (by omega)) ?_
                                refine J_iload_n (i := 0) (a := 0) rfl rfl (dk_X6_isTape 4 _ rfl) ?_
                                refine J_bipush (v := 6) (by decide) (dk_X6_isTape 5 _ rfl) ?_
                                refine J_icF (tgt := 14) (by decide) (dk_X6_isTape 7 _ rfl) (jI_nle (by decide : (6 : Int32).toInt = 6) (by decide : (5 : Int32).toInt = 5) (by omega)) ?_
                                refine J_iconst (v := 1) (by decide) (dk_X6_isTape 10 _ rfl) ?_
                                refine J_goto (tgt := 15) (by decide) (dk_X6_isTape 11 _ rfl) ?_
                                exact J_iret rfl rfl (dk_X6_isTape 15 _ rfl) ⟨rfl, rfl⟩
                              show J _ _ _ _ _ _ _ _ _ [.int 1] _ _
                              refine J_ifT (tgt := 16) (by decide) (dk_X6_shift 11 _ rfl) (jI_ne (by decide : (1 : Int32).toInt = 1) (by decide : (0 : Int32).toInt = 0) (by omega)) ?_
                              refine J_aload_n (i := 0) (a := 0) rfl rfl (dk_X6_shift 16 _ rfl) ?_
                              refine J_getf fl_6_37 rfl rfl (dk_X6_shift 17 _ rfl) ?_
                              refine J_iload_n (i := 1) (a := 1) rfl rfl (dk_X6_shift 20 _ rfl) ?_
                              refine J_aald (by decide) rfl (by decide) rfl (dk_X6_shift 21 _ rfl) ?_
                              refine J_astore (i := 6) (by decide) (dk_X6_shift 22 _ rfl) ?_
                              show J _ _ _ _ _ _ _ _ [(6, .ref 88), (0, .ref 0), (1, .int 3), (2, .int i), (3, .int 5), (4, .int j), (5, .int n)] _ _ _
                              refine J_aload_n (i := 0) (a := 0) rfl rfl (dk_X6_shift 24 _ rfl) ?_
                              refine J_getf fl_6_37 rfl rfl (dk_X6_shift 25 _ rfl) ?_
                              refine J_iload_n (i := 3) (a := 3) rfl rfl (dk_X6_shift 28 _ rfl) ?_
                              refine J_aald (by decide) rfl (by decide) rfl (dk_X6_shift 29 _ rfl) ?_
                              refine J_astore (i := 7) (by decide) (dk_X6_shift 30 _ rfl) ?_
                              show J _ _ _ _ _ _ _ _ [(7, .ref 92), (6, .ref 88), (0, .ref 0), (1, .int 3), (2, .int i), (3, .int 5), (4, .int j), (5, .int n)] _ _ _
                              refine J_aload (i := 6) rfl (dk_X6_shift 32 _ rfl) ?_
                              refine J_getf fl_6_223 rfl rfl (dk_X6_shift 34 _ rfl) ?_
                              refine J_iconst (v := (-1)) (by decide) (dk_X6_shift 37 _ rfl) ?_
                              refine J_icT (tgt := 50) (by decide) (dk_X6_shift 38 _ rfl) (jI_eq (by decide : ((-1) : Int32).toInt = (-1)) (by decide : ((-1) : Int32).toInt = (-1)) (by omega)) ?_
                              refine J_bipush (v := (-11)) (by decide) (dk_X6_shift 50 _ rfl) ?_
                              exact J_iret rfl rfl (dk_X6_shift 52 _ rfl) ⟨rfl, rfl⟩
                            · refine jCt_of ok_X7_shift (fun _ _ => Nat.le_of_ble_eq_true rfl) (fun _ _ hq => Nat.le_of_eq (lM.trans hq.2.symm)) ?_
                              show J _ _ _ _ _ _ _ _ [(0, .ref 0), (1, .int 3), (2, .int i), (3, .int 5), (4, .int j), (5, .int n)] _ _ _
                              refine J_aload_n (i := 0) (a := 0) rfl rfl (dk_X7_shift 0 _ rfl) ?_
                              refine J_iload_n (i := 1) (a := 1) rfl rfl (dk_X7_shift 1 _ rfl) ?_
                              refine J_cV (rv := some (.int 1)) (h' := hM0) (d' := 11) (As := [.int 3]) ok_X7_isTape vi_X7_isTape cl_7_354 (n := 1) (by decide +kernel) rfl rfl rfl rfl (by decide) (by decide) (dk_X7_shift 2 _ rfl) ?_ ?_
                              · refine jCt_of ok_X7_isTape (fun _ _ => Nat.le_of_ble_eq_true rfl) (fun _ _ hq => by rw [hq.2]; first | exact Nat.le_refl _ | simp) ?_
                                show J _ _ _ _ _ _ _ _ [(0, .ref 0), (1, .int 3)] _ _ _
                                refine J_aload_n (i := 0) (a := 0) rfl rfl (dk_X7_isTape 0 _ rfl) ?_
                                refine J_iload_n (i := 1) (a := 1) rfl rfl (dk_X7_isTape 1 _ rfl) ?_
                                refine J_iconst (v := 0) (by decide) (dk_X7_isTape 2 _ rfl) ?_
                                refine J_iconst (v := 5) (by decide) (dk_X7_isTape 3 _ rfl) ?_
                                refine J_cV (rv := some (.int 1)) (h' := hM0) (d' := 10) (As := [.int 3, .int 0, .int 5]) ok_X7_in vi_X7_in cl_7_194 (n := 3) (by decide +kernel) rfl rfl rfl rfl (by decide) (by decide) (dk_X7_isTape 4 _ rfl) ?_ ?_
                                · refine jCt_of ok_X7_in (fun _ _ => Nat.le_of_ble_eq_true rfl) (fun _ _ hq => by rw [hq.2]; first | exact Nat.le_refl _ | simp) ?_
                                  show J _ _ _ _ _ _ _ _ [(0, .ref 0), (1, .int 3), (2, .int 0), (3, .int 5)] _ _ _
                                  refine J_iload_n (i := 1) (a := 1) rfl rfl (dk_X7_in 0 _ rfl) ?_
                                  refine J_iload_n (i := 2) (a := 2) rfl rfl (dk_X7_in 1 _ rfl) ?_
                                  refine J_icF (tgt := 14) (by decide) (dk_X7_in 2 _ rfl) (jI_nlt (by decide : (3 : Int32).toInt = 3) (by decide : (0 : Int32).toInt = 0) (by omega)) ?_
                                  refine J_iload_n (i := 1) (a := 1) rfl rfl (dk_X7_in 5 _ rfl) ?_
                                  refine J_iload_n (i := 3) (a := 3) rfl rfl (dk_X7_in 6 _ rfl) ?_
                                  refine J_icF (tgt := 14) (by decide) (dk_X7_in 7 _ rfl) (jI_nlt (by decide : (5 : Int32).toInt = 5) (by decide : (3 : Int32).toInt = 3) (by omega)) ?_
                                  refine J_iconst (v := 1) (by decide) (dk_X7_in 10 _ rfl) ?_
                                  refine J_goto (tgt := 15) (by decide) (dk_X7_in 11 _ rfl) ?_
                                  exact J_iret rfl rfl (dk_X7_in 15 _ rfl) ⟨rfl, rfl⟩
                                show J _ _ _ _ _ _ _ _ _ [.int 1] _ _
                                exact J_iret rfl rfl (dk_X7_isTape 7 _ rfl) ⟨rfl, rfl⟩
                              show J _ _ _ _ _ _ _ _ _ [.int 1] _ _
                              refine J_ifF (tgt := 16) (by decide) (dk_X7_shift 5 _ rfl) (jI_ne (by decide : (1 : Int32).toInt = 1) (by decide : (0 : Int32).toInt = 0) (by omega)) ?_
                              refine J_aload_n (i := 0) (a := 0) rfl rfl (dk_X7_shift 8 _ rfl) ?_
                              refine J_iload_n (i := 3) (a := 3) rfl rfl (dk_X7_shift 9 _ rfl) ?_
                              refine J_cV (rv := some (.int 1)) (h' := hM0) (d' := 11) (As := [.int 5]) ok_X7_isTape vi_X7_isTape cl_7_354 (n := 1) (by decide +kernel) rfl rfl rfl rfl (by decide) (by decide) (dk_X7_shift 10 _ rfl) ?_ ?_
                              · refine jCt_of ok_X7_isTape (fun _ _ => Nat.le_of_ble_eq_true rfl) (fun _ _ hq => by rw [hq.2]; first | exact Nat.le_refl _ | simp) ?_
                                show J _ _ _ _ _ _ _ _ [(0, .ref 0), (1, .int 5)] _ _ _
                                refine J_aload_n (i := 0) (a := 0) rfl rfl (dk_X7_isTape 0 _ rfl) ?_
                                refine J_iload_n (i := 1) (a := 1) rfl rfl (dk_X7_isTape 1 _ rfl) ?_
                                refine J_iconst (v := 0) (by decide) (dk_X7_isTape 2 _ rfl) ?_
                                refine J_iconst (v := 5) (by decide) (dk_X7_isTape 3 _ rfl) ?_
                                refine J_cV (rv := some (.int 1)) (h' := hM0) (d' := 10) (As := [.int 5, .int 0, .int 5]) ok_X7_in vi_X7_in cl_7_194 (n := 3) (by decide +kernel) rfl rfl rfl rfl (by decide) (by decide) (dk_X7_isTape 4 _ rfl) ?_ ?_
                                · refine jCt_of ok_X7_in (fun _ _ => Nat.le_of_ble_eq_true rfl) (fun _ _ hq => by rw [hq.2]; first | exact Nat.le_refl _ | simp) ?_
                                  show J _ _ _ _ _ _ _ _ [(0, .ref 0), (1, .int 5), (2, .int 0), (3, .int 5)] _ _ _
                                  refine J_iload_n (i := 1) (a := 1) rfl rfl (dk_X7_in 0 _ rfl) ?_
                                  refine J_iload_n (i := 2) (a := 2) rfl rfl (dk_X7_in 1 _ rfl) ?_
                                  refine J_icF (tgt := 14) (by decide) (dk_X7_in 2 _ rfl) (jI_nlt (by decide : (5 : Int32).toInt = 5) (by decide : (0 : Int32).toInt = 0) (by omega)) ?_
                                  refine J_iload_n (i := 1) (a := 1) rfl rfl (dk_X7_in 5 _ rfl) ?_
                                  refine J_iload_n (i := 3) (a := 3) rfl rfl (dk_X7_in 6 _ rfl) ?_
                                  refine J_icF (tgt := 14) (by decide) (dk_X7_in 7 _ rfl) (jI_nlt (by decide : (5 : Int32).toInt = 5) (by decide : (5 : Int32).toInt = 5) (by omega)) ?_
                                  refine J_iconst (v := 1) (by decide) (dk_X7_in 10 _ rfl) ?_
                                  refine J_goto (tgt := 15) (by decide) (dk_X7_in 11 _ rfl) ?_
                                  exact J_iret rfl rfl (dk_X7_in 15 _ rfl) ⟨rfl, rfl⟩
                                show J _ _ _ _ _ _ _ _ _ [.int 1] _ _
                                exact J_iret rfl rfl (dk_X7_isTape 7 _ rfl) ⟨rfl, rfl⟩
                              show J _ _ _ _ _ _ _ _ _ [.int 1] _ _
                              refine J_ifT (tgt := 18) (by decide) (dk_X7_shift 13 _ rfl) (jI_ne (by decide : (1 : Int32).toInt = 1) (by decide : (0 : Int32).toInt = 0) (by omega)) ?_
                              refine J_aload_n (i := 0) (a := 0) rfl rfl (dk_X7_shift 18 _ rfl) ?_
                              refine J_getf fl_7_181 rfl rfl (dk_X7_shift 19 _ rfl) ?_
                              refine J_iload_n (i := 1) (a := 1) rfl rfl (dk_X7_shift 22 _ rfl) ?_
                              refine J_iald rfl (by decide) rfl (dk_X7_shift 23 _ rfl) ?_
                              refine J_ifT (tgt := 36) (by decide) (dk_X7_shift 24 _ rfl) (jI_lt (by decide : ((-1) : Int32).toInt = (-1)) (by decide : (0 : Int32).toInt = 0) (by omega)) ?_
                              refine J_bipush (v := (-11)) (by decide) (dk_X7_shift 36 _ rfl) ?_
                              exact J_iret rfl rfl (dk_X7_shift 38 _ rfl) ⟨rfl, rfl⟩
                · by_cases c33 : (t : Int32).toInt = 4
                  · obtain rfl : t = 4 := jI_eq rfl (by decide) c33
                    by_cases c34 : (o : Int32).toInt = 0
                    · obtain rfl : o = 0 := jI_eq rfl (by decide) c34
                      refine ⟨(-11), ?_, ?_⟩
                      · refine jCt_of ok_X6_shift (fun _ _ => Nat.le_of_ble_eq_true rfl) (fun _ _ hq => Nat.le_of_eq (lX.trans hq.2.symm)) ?_
                        show J _ _ _ _ _ _ _ _ [(0, .ref 0), (1, .int 4), (2, .int i), (3, .int 0), (4, .int j), (5, .int n)] _ _ _
                        refine J_iload_n (i := 1) (a := 1) rfl rfl (dk_X6_shift 0 _ rfl) ?_
                        refine J_cS (rv := some (.int 1)) (h' := hN0) (d' := 11) (As := [.int 4]) ok_X6_isTape st_X6_isTape cl_6_220 rfl (n := 1) (by decide +kernel) rfl (by decide) (by decide) (dk_X6_shift 1 _ rfl) ?_ ?_
                        · refine jCt_of ok_X6_isTape (fun _ _ => Nat.le_of_ble_eq_true rfl) (fun _ _ hq => by rw [hq.2]; first | exact Nat.le_refl _ | simp) ?_
                          show J _ _ _ _ _ _ _ _ [(0, .int 4)] _ _ _
                          refine J_iload_n (i := 0) (a := 0) rfl rfl (dk_X6_isTape 0 _ rfl) ?_
                          refine J_ifF (tgt := 14) (by decide) (dk_X6_isTape 1 _ rfl) (jI_nlt (by decide : (4 : Int32).toInt = 4) (by decide : (0 : Int32).toInt = 0) (by omega)) ?_
                          refine J_iload_n (i := 0) (a := 0) rfl rfl (dk_X6_isTape 4 _ rfl) ?_
                          refine J_bipush (v := 6) (by decide) (dk_X6_isTape 5 _ rfl) ?_
                          refine J_icF (tgt := 14) (by decide) (dk_X6_isTape 7 _ rfl) (jI_nle (by decide : (6 : Int32).toInt = 6) (by decide : (4 : Int32).toInt = 4) (by omega)) ?_
                          refine J_iconst (v := 1) (by decide) (dk_X6_isTape 10 _ rfl) ?_
                          refine J_goto (tgt := 15) (by decide) (dk_X6_isTape 11 _ rfl) ?_
                          exact J_iret rfl rfl (dk_X6_isTape 15 _ rfl) ⟨rfl, rfl⟩
                        show J _ _ _ _ _ _ _ _ _ [.int 1] _ _
                        refine J_ifF (tgt := 14) (by decide) (dk_X6_shift 4 _ rfl) (jI_ne (by decide : (1 : Int32).toInt = 1) (by decide : (0 : Int32).toInt = 0) (by omega)) ?_
                        refine J_iload_n (i := 3) (a := 3) rfl rfl (dk_X6_shift 7 _ rfl) ?_
                        refine J_cS (rv := some (.int 1)) (h' := hN0) (d' := 11) (As := [.int 0]) ok_X6_isTape st_X6_isTape cl_6_220 rfl (n := 1) (by decide +kernel) rfl (by decide) (by decide) (dk_X6_shift 8 _ rfl) ?_ ?_
                        · refine jCt_of ok_X6_isTape (fun _ _ => Nat.le_of_ble_eq_true rfl) (fun _ _ hq => by rw [hq.2]; first | exact Nat.le_refl _ | simp) ?_
                          show J _ _ _ _ _ _ _ _ [(0, .int 0)] _ _ _
                          refine J_iload_n (i := 0) (a := 0) rfl rfl (dk_X6_isTape 0 _ rfl) ?_
                          refine J_ifF (tgt := 14) (by decide) (dk_X6_isTape 1 _ rfl) (jI_nlt (by decide : (0 : Int32).toInt = 0) (by decide : (0 : Int32).toInt = 0) (by omega)) ?_
                          refine J_iload_n (i := 0) (a := 0) rfl rfl (dk_X6_isTape 4 _ rfl) ?_
                          refine J_bipush (v := 6) (by decide) (dk_X6_isTape 5 _ rfl) ?_
                          refine J_icF (tgt := 14) (by decide) (dk_X6_isTape 7 _ rfl) (jI_nle (by decide : (6 : Int32).toInt = 6) (by decide : (0 : Int32).toInt = 0) (by omega)) ?_
                          refine J_iconst (v := 1) (by decide) (dk_X6_isTape 10 _ rfl) ?_
                          refine J_goto (tgt := 15) (by decide) (dk_X6_isTape 11 _ rfl) ?_
                          exact J_iret rfl rfl (dk_X6_isTape 15 _ rfl) ⟨rfl, rfl⟩
                        show J _ _ _ _ _ _ _ _ _ [.int 1] _ _
                        refine J_ifT (tgt := 16) (by decide) (dk_X6_shift 11 _ rfl) (jI_ne (by decide : (1 : Int32).toInt = 1) (by decide : (0 : Int32).toInt = 0) (by omega)) ?_
                        refine J_aload_n (i := 0) (a := 0) rfl rfl (dk_X6_shift 16 _ rfl) ?_
                        refine J_getf fl_6_37 rfl rfl (dk_X6_shift 17 _ rfl) ?_
                        refine J_iload_n (i := 1) (a := 1) rfl rfl (dk_X6_shift 20 _ rfl) ?_
                        refine J_aald (by decide) rfl (by decide) rfl (dk_X6_shift 21 _ rfl) ?_
                        refine J_astore (i := 6) (by decide) (dk_X6_shift 22 _ rfl) ?_
                        show J _ _ _ _ _ _ _ _ [(6, .ref 90), (0, .ref 0), (1, .int 4), (2, .int i), (3, .int 0), (4, .int j), (5, .int n)] _ _ _
                        refine J_aload_n (i := 0) (a := 0) rfl rfl (dk_X6_shift 24 _ rfl) ?_
                        refine J_getf fl_6_37 rfl rfl (dk_X6_shift 25 _ rfl) ?_
                        refine J_iload_n (i := 3) (a := 3) rfl rfl (dk_X6_shift 28 _ rfl) ?_
                        refine J_aald (by decide) rfl (by decide) rfl (dk_X6_shift 29 _ rfl) ?_
                        refine J_astore (i := 7) (by decide) (dk_X6_shift 30 _ rfl) ?_
                        show J _ _ _ _ _ _ _ _ [(7, .ref 82), (6, .ref 90), (0, .ref 0), (1, .int 4), (2, .int i), (3, .int 0), (4, .int j), (5, .int n)] _ _ _
                        refine J_aload (i := 6) rfl (dk_X6_shift 32 _ rfl) ?_
                        refine J_getf fl_6_223 rfl rfl (dk_X6_shift 34 _ rfl) ?_
                        refine J_iconst (v := (-1)) (by decide) (dk_X6_shift 37 _ rfl) ?_
                        refine J_icT (tgt := 50) (by decide) (dk_X6_shift 38 _ rfl) (jI_eq (by decide : ((-1) : Int32).toInt = (-1)) (by decide : ((-1) : Int32).toInt = (-1)) (by omega)) ?_
                        refine J_bipush (v := (-11)) (by decide) (dk_X6_shift 50 _ rfl) ?_
                        exact J_iret rfl rfl (dk_X6_shift 52 _ rfl) ⟨rfl, rfl⟩
                      · refine jCt_of ok_X7_shift (fun _ _ => Nat.le_of_ble_eq_true rfl) (fun _ _ hq => Nat.le_of_eq (lM.trans hq.2.symm)) ?_
                        show J _ _ _ _ _ _ _ _ [(0, .ref 0), (1, .int 4), (2, .int i), (3, .int 0), (4, .int j), (5, .int n)] _ _ _
                        refine J_aload_n (i := 0) (a := 0) rfl rfl (dk_X7_shift 0 _ rfl) ?_
                        refine J_iload_n (i := 1) (a := 1) rfl rfl (dk_X7_shift 1 _ rfl) ?_
                        refine J_cV (rv := some (.int 1)) (h' := hM0) (d' := 11) (As := [.int 4]) ok_X7_isTape vi_X7_isTape cl_7_354 (n := 1) (by decide +kernel) rfl rfl rfl rfl (by decide) (by decide) (dk_X7_shift 2 _ rfl) ?_ ?_
                        · refine jCt_of ok_X7_isTape (fun _ _ => Nat.le_of_ble_eq_true rfl) (fun _ _ hq => by rw [hq.2]; first | exact Nat.le_refl _ | simp) ?_
                          show J _ _ _ _ _ _ _ _ [(0, .ref 0), (1, .int 4)] _ _ _
                          refine J_aload_n (i := 0) (a := 0) rfl rfl (dk_X7_isTape 0 _ rfl) ?_
                          refine J_iload_n (i := 1) (a := 1) rfl rfl (dk_X7_isTape 1 _ rfl) ?_
                          refine J_iconst (v := 0) (by decide) (dk_X7_isTape 2 _ rfl) ?_
                          refine J_iconst (v := 5) (by decide) (dk_X7_isTape 3 _ rfl) ?_
                          refine J_cV (rv := some (.int 1)) (h' := hM0) (d' := 10) (As := [.int 4, .int 0, .int 5]) ok_X7_in vi_X7_in cl_7_194 (n := 3) (by decide +kernel) rfl rfl rfl rfl (by decide) (by decide) (dk_X7_isTape 4 _ rfl) ?_ ?_
                          · refine jCt_of ok_X7_in (fun _ _ => Nat.le_of_ble_eq_true rfl) (fun _ _ hq => by rw [hq.2]; first | exact Nat.le_refl _ | simp) ?_
                            show J _ _ _ _ _ _ _ _ [(0, .ref 0), (1, .int 4), (2, .int 0), (3, .int 5)] _ _ _
                            refine J_iload_n (i := 1) (a := 1) rfl rfl (dk_X7_in 0 _ rfl) ?_
                            refine J_iload_n (i := 2) (a := 2) rfl rfl (dk_X7_in 1 _ rfl) ?_
                            refine J_icF (tgt := 14) (by decide) (dk_X7_in 2 _ rfl) (jI_nlt (by decide : (4 : Int32).toInt = 4) (by decide : (0 : Int32).toInt = 0) (by omega)) ?_
                            refine J_iload_n (i := 1) (a := 1) rfl rfl (dk_X7_in 5 _ rfl) ?_
                            refine J_iload_n (i := 3) (a := 3) rfl rfl (dk_X7_in 6 _ rfl) ?_
                            refine J_icF (tgt := 14) (by decide) (dk_X7_in 7 _ rfl) (jI_nlt (by decide : (5 : Int32).toInt = 5) (by decide : (4 : Int32).toInt = 4) (by omega)) ?_
                            refine J_iconst (v := 1) (by decide) (dk_X7_in 10 _ rfl) ?_
                            refine J_goto (tgt := 15) (by decide) (dk_X7_in 11 _ rfl) ?_
                            exact J_iret rfl rfl (dk_X7_in 15 _ rfl) ⟨rfl, rfl⟩
                          show J _ _ _ _ _ _ _ _ _ [.int 1] _ _
                          exact J_iret rfl rfl (dk_X7_isTape 7 _ rfl) ⟨rfl, rfl⟩
                        show J _ _ _ _ _ _ _ _ _ [.int 1] _ _
                        refine J_ifF (tgt := 16) (by decide) (dk_X7_shift 5 _ rfl) (jI_ne (by decide : (1 : Int32).toInt = 1) (by decide : (0 : Int32).toInt = 0) (by omega)) ?_
                        refine J_aload_n (i := 0) (a := 0) rfl rfl (dk_X7_shift 8 _ rfl) ?_
                        refine J_iload_n (i := 3) (a := 3) rfl rfl (dk_X7_shift 9 _ rfl) ?_
                        refine J_cV (rv := some (.int 1)) (h' := hM0) (d' := 11) (As := [.int 0]) ok_X7_isTape vi_X7_isTape cl_7_354 (n := 1) (by decide +kernel) rfl rfl rfl rfl (by decide) (by decide) (dk_X7_shift 10 _ rfl) ?_ ?_
                        · refine jCt_of ok_X7_isTape (fun _ _ => Nat.le_of_ble_eq_true rfl) (fun _ _ hq => by rw [hq.2]; first | exact Nat.le_refl _ | simp) ?_
                          show J _ _ _ _ _ _ _ _ [(0, .ref 0), (1, .int 0)] _ _ _
                          refine J_aload_n (i := 0) (a := 0) rfl rfl (dk_X7_isTape 0 _ rfl) ?_
                          refine J_iload_n (i := 1) (a := 1) rfl rfl (dk_X7_isTape 1 _ rfl) ?_
                          refine J_iconst (v := 0) (by decide) (dk_X7_isTape 2 _ rfl) ?_
                          refine J_iconst (v := 5) (by decide) (dk_X7_isTape 3 _ rfl) ?_
                          refine J_cV (rv := some (.int 1)) (h' := hM0) (d' := 10) (As := [.int 0, .int 0, .int 5]) ok_X7_in vi_X7_in cl_7_194 (n := 3) (by decide +kernel) rfl rfl rfl rfl (by decide) (by decide) (dk_X7_isTape 4 _ rfl) ?_ ?_
                          · refine jCt_of ok_X7_in (fun _ _ => Nat.le_of_ble_eq_true rfl) (fun _ _ hq => by rw [hq.2]; first | exact Nat.le_refl _ | simp) ?_
                            show J _ _ _ _ _ _ _ _ [(0, .ref 0), (1, .int 0), (2, .int 0), (3, .int 5)] _ _ _
                            refine J_iload_n (i := 1) (a := 1) rfl rfl (dk_X7_in 0 _ rfl) ?_
                            refine J_iload_n (i := 2) (a := 2) rfl rfl (dk_X7_in 1 _ rfl) ?_
                            refine J_icF (tgt := 14) (by decide) (dk_X7_in 2 _ rfl) (jI_nlt (by decide : (0 : Int32).toInt = 0) (by decide : (0 : Int32).toInt = 0) (by omega)) ?_
                            refine J_iload_n (i := 1) (a := 1) rfl rfl (dk_X7_in 5 _ rfl) ?_
                            refine J_iload_n (i := 3) (a := 3) rfl rfl (dk_X7_in 6 _ rfl) ?_
                            refine J_icF (tgt := 14) (by decide) (dk_X7_in 7 _ rfl) (jI_nlt (by decide : (5 : Int32).toInt = 5) (by decide : (0 : Int32).toInt = 0) (by omega)) ?_
                            refine J_iconst (v := 1) (by decide) (dk_X7_in 10 _ rfl) ?_
                            refine J_goto (tgt := 15) (by decide) (dk_X7_in 11 _ rfl) ?_
                            exact J_iret rfl rfl (dk_X7_in 15 _ rfl) ⟨rfl, rfl⟩
                          show J _ _ _ _ _ _ _ _ _ [.int 1] _ _
                          exact J_iret rfl rfl (dk_X7_isTape 7 _ rfl) ⟨rfl, rfl⟩
                        show J _ _ _ _ _ _ _ _ _ [.int 1] _ _
                        refine J_ifT (tgt := 18) (by decide) (dk_X7_shift 13 _ rfl) (jI_ne (by decide : (1 : Int32).toInt = 1) (by decide : (0 : Int32).toInt = 0) (by omega)) ?_
                        refine J_aload_n (i := 0) (a := 0) rfl rfl (dk_X7_shift 18 _ rfl) ?_
                        refine J_getf fl_7_181 rfl rfl (dk_X7_shift 19 _ rfl) ?_
                        refine J_iload_n (i := 1) (a := 1) rfl rfl (dk_X7_shift 22 _ rfl) ?_
                        refine J_iald rfl (by decide) rfl (dk_X7_shift 23 _ rfl) ?_
                        refine J_ifT (tgt := 36) (by decide) (dk_X7_shift 24 _ rfl) (jI_lt (by decide : ((-1) : Int32).toInt = (-1)) (by decide : (0 : Int32).toInt = 0) (by omega)) ?_
                        refine J_bipush (v := (-11)) (by decide) (dk_X7_shift 36 _ rfl) ?_
                        exact J_iret rfl rfl (dk_X7_shift 38 _ rfl) ⟨rfl, rfl⟩
                    · by_cases c35 : (o : Int32).toInt = 1
                      · obtain rfl : o = 1 := jI_eq rfl (by decide) c35
                        refine ⟨(-11), ?_, ?_⟩
                        · refine jCt_of ok_X6_shift (fun _ _ => Nat.le_of_ble_eq_true rfl) (fun _ _ hq => Nat.le_of_eq (lX.trans hq.2.symm)) ?_
                          show J _ _ _ _ _ _ _ _ [(0, .ref 0), (1, .int 4), (2, .int i), (3, .int 1), (4, .int j), (5, .int n)] _ _ _
                          refine J_iload_n (i := 1) (a := 1) rfl rfl (dk_X6_shift 0 _ rfl) ?_
                          refine J_cS (rv := some (.int 1)) (h' := hN0) (d' := 11) (As := [.int 4]) ok_X6_isTape st_X6_isTape cl_6_220 rfl (n := 1) (by decide +kernel) rfl (by decide) (by decide) (dk_X6_shift 1 _ rfl) ?_ ?_
                          · refine jCt_of ok_X6_isTape (fun _ _ => Nat.le_of_ble_eq_true rfl) (fun _ _ hq => by rw [hq.2]; first | exact Nat.le_refl _ | simp) ?_
                            show J _ _ _ _ _ _ _ _ [(0, .int 4)] _ _ _
                            refine J_iload_n (i := 0) (a := 0) rfl rfl (dk_X6_isTape 0 _ rfl) ?_
                            refine J_ifF (tgt := 14) (by decide) (dk_X6_isTape 1 _ rfl) (jI_nlt (by decide : (4 : Int32).toInt = 4) (by decide : (0 : Int32).toInt = 0) (by omega)) ?_
                            refine J_iload_n (i := 0) (a := 0) rfl rfl (dk_X6_isTape 4 _ rfl) ?_
                            refine J_bipush (v := 6) (by decide) (dk_X6_isTape 5 _ rfl) ?_
                            refine J_icF (tgt := 14) (by decide) (dk_X6_isTape 7 _ rfl) (jI_nle (by decide : (6 : Int32).toInt = 6) (by decide : (4 : Int32).toInt = 4) (by omega)) ?_
                            refine J_iconst (v := 1) (by decide) (dk_X6_isTape 10 _ rfl) ?_
                            refine J_goto (tgt := 15) (by decide) (dk_X6_isTape 11 _ rfl) ?_
                            exact J_iret rfl rfl (dk_X6_isTape 15 _ rfl) ⟨rfl, rfl⟩
                          show J _ _ _ _ _ _ _ _ _ [.int 1] _ _
                          refine J_ifF (tgt := 14) (by decide) (dk_X6_shift 4 _ rfl) (jI_ne (by decide : (1 : Int32).toInt = 1) (by decide : (0 : Int32).toInt = 0) (by omega)) ?_
                          refine J_iload_n (i := 3) (a := 3) rfl rfl (dk_X6_shift 7 _ rfl) ?_
                          refine J_cS (rv := some (.int 1)) (h' := hN0) (d' := 11) (As := [.int 1]) ok_X6_isTape st_X6_isTape cl_6_220 rfl (n := 1) (by decide +kernel) rfl (by decide) (by decide) (dk_X6_shift 8 _ rfl) ?_ ?_
                          · refine jCt_of ok_X6_isTape (fun _ _ => Nat.le_of_ble_eq_true rfl) (fun _ _ hq => by rw [hq.2]; first | exact Nat.le_refl _ | simp) ?_
                            show J _ _ _ _ _ _ _ _ [(0, .int 1)] _ _ _
                            refine J_iload_n (i := 0) (a := 0) rfl rfl (dk_X6_isTape 0 _ rfl) ?_
                            refine J_ifF (tgt := 14) (by decide) (dk_X6_isTape 1 _ rfl) (jI_nlt (by decide : (1 : Int32).toInt = 1) (by decide : (0 : Int32).toInt = 0) (by omega)) ?_
                            refine J_iload_n (i := 0) (a := 0) rfl rfl (dk_X6_isTape 4 _ rfl) ?_
                            refine J_bipush (v := 6) (by decide) (dk_X6_isTape 5 _ rfl) ?_
                            refine J_icF (tgt := 14) (by decide) (dk_X6_isTape 7 _ rfl) (jI_nle (by decide : (6 : Int32).toInt = 6) (by decide : (1 : Int32).toInt = 1) (by omega)) ?_
                            refine J_iconst (v := 1) (by decide) (dk_X6_isTape 10 _ rfl) ?_
                            refine J_goto (tgt := 15) (by decide) (dk_X6_isTape 11 _ rfl) ?_
                            exact J_iret rfl rfl (dk_X6_isTape 15 _ rfl) ⟨rfl, rfl⟩
                          show J _ _ _ _ _ _ _ _ _ [.int 1] _ _
                          refine J_ifT (tgt := 16) (by decide) (dk_X6_shift 11 _ rfl) (jI_ne (by decide : (1 : Int32).toInt = 1) (by decide : (0 : Int32).toInt = 0) (by omega)) ?_
                          refine J_aload_n (i := 0) (a := 0) rfl rfl (dk_X6_shift 16 _ rfl) ?_
                          refine J_getf fl_6_37 rfl rfl (dk_X6_shift 17 _ rfl) ?_
                          refine J_iload_n (i := 1) (a := 1) rfl rfl (dk_X6_shift 20 _ rfl) ?_
                          refine J_aald (by decide) rfl (by decide) rfl (dk_X6_shift 21 _ rfl) ?_
                          refine J_astore (i := 6) (by decide) (dk_X6_shift 22 _ rfl) ?_
                          show J _ _ _ _ _ _ _ _ [(6, .ref 90), (0, .ref 0), (1, .int 4), (2, .int i), (3, .int 1), (4, .int j), (5, .int n)] _ _ _
                          refine J_aload_n (i := 0) (a := 0) rfl rfl (dk_X6_shift 24 _ rfl) ?_
                          refine J_getf fl_6_37 rfl rfl (dk_X6_shift 25 _ rfl) ?_
                          refine J_iload_n (i := 3) (a := 3) rfl rfl (dk_X6_shift 28 _ rfl) ?_
                          refine J_aald (by decide) rfl (by decide) rfl (dk_X6_shift 29 _ rfl) ?_
                          refine J_astore (i := 7) (by decide) (dk_X6_shift 30 _ rfl) ?_
                          show J _ _ _ _ _ _ _ _ [(7, .ref 84), (6, .ref 90), (0, .ref 0), (1, .int 4), (2, .int i), (3, .int 1), (4, .int j), (5, .int n)] _ _ _
                          refine J_aload (i := 6) rfl (dk_X6_shift 32 _ rfl) ?_
                          refine J_getf fl_6_223 rfl rfl (dk_X6_shift 34 _ rfl) ?_
                          refine J_iconst (v := (-1)) (by decide) (dk_X6_shift 37 _ rfl) ?_
                          refine J_icT (tgt := 50) (by decide) (dk_X6_shift 38 _ rfl) (jI_eq (by decide : ((-1) : Int32).toInt = (-1)) (by decide : ((-1) : Int32).toInt = (-1)) (by omega)) ?_
                          refine J_bipush (v := (-11)) (by decide) (dk_X6_shift 50 _ rfl) ?_
                          exact J_iret rfl rfl (dk_X6_shift 52 _ rfl) ⟨rfl, rfl⟩
                        · refine jCt_of ok_X7_shift (fun _ _ => Nat.le_of_ble_eq_true rfl) (fun _ _ hq => Nat.le_of_eq (lM.trans hq.2.symm)) ?_
                          show J _ _ _ _ _ _ _ _ [(0, .ref 0), (1, .int 4), (2, .int i), (3, .int 1), (4, .int j), (5, .int n)] _ _ _
                          refine J_aload_n (i := 0) (a := 0) rfl rfl (dk_X7_shift 0 _ rfl) ?_
                          refine J_iload_n (i := 1) (a := 1) rfl rfl (dk_X7_shift 1 _ rfl) ?_
                          refine J_cV (rv := some (.int 1)) (h' := hM0) (d' := 11) (As := [.int 4]) ok_X7_isTape vi_X7_isTape cl_7_354 (n := 1) (by decide +kernel) rfl rfl rfl rfl (by decide) (by decide) (dk_X7_shift 2 _ rfl) ?_ ?_
                          · refine jCt_of ok_X7_isTape (fun _ _ => Nat.le_of_ble_eq_true rfl) (fun _ _ hq => by rw [hq.2]; first | exact Nat.le_refl _ | simp) ?_
                            show J _ _ _ _ _ _ _ _ [(0, .ref 0), (1, .int 4)] _ _ _
                            refine J_aload_n (i := 0) (a := 0) rfl rfl (dk_X7_isTape 0 _ rfl) ?_
                            refine J_iload_n (i := 1) (a := 1) rfl rfl (dk_X7_isTape 1 _ rfl) ?_
                            refine J_iconst (v := 0) (by decide) (dk_X7_isTape 2 _ rfl) ?_
                            refine J_iconst (v := 5) (by decide) (dk_X7_isTape 3 _ rfl) ?_
                            refine J_cV (rv := some (.int 1)) (h' := hM0) (d' := 10) (As := [.int 4, .int 0, .int 5]) ok_X7_in vi_X7_in cl_7_194 (n := 3) (by decide +kernel) rfl rfl rfl rfl (by decide) (by decide) (dk_X7_isTape 4 _ rfl) ?_ ?_
                            · refine jCt_of ok_X7_in (fun _ _ => Nat.le_of_ble_eq_true rfl) (fun _ _ hq => by rw [hq.2]; first | exact Nat.le_refl _ | simp) ?_
                              show J _ _ _ _ _ _ _ _ [(0, .ref 0), (1, .int 4), (2, .int 0), (3, .int 5)] _ _ _
                              refine J_iload_n (i := 1) (a := 1) rfl rfl (dk_X7_in 0 _ rfl) ?_
                              refine J_iload_n (i := 2) (a := 2) rfl rfl (dk_X7_in 1 _ rfl) ?_
                              refine J_icF (tgt := 14) (by decide) (dk_X7_in 2 _ rfl) (jI_nlt (by decide : (4 : Int32).toInt = 4) (by decide : (0 : Int32).toInt = 0) (by omega)) ?_
                              refine J_iload_n (i := 1) (a := 1) rfl rfl (dk_X7_in 5 _ rfl) ?_
                              refine J_iload_n (i := 3) (a := 3) rfl rfl (dk_X7_in 6 _ rfl) ?_
                              refine J_icF (tgt := 14) (by decide) (dk_X7_in 7 _ rfl) (jI_nlt (by decide : (5 : Int32).toInt = 5) (by decide : (4 : Int32).toInt = 4) (by omega)) ?_
                              refine J_iconst (v := 1) (by decide) (dk_X7_in 10 _ rfl) ?_
                              refine J_goto (tgt := 15) (by decide) (dk_X7_in 11 _ rfl) ?_
                              exact J_iret rfl rfl (dk_X7_in 15 _ rfl) ⟨rfl, rfl⟩
                            show J _ _ _ _ _ _ _ _ _ [.int 1] _ _
                            exact J_iret rfl rfl (dk_X7_isTape 7 _ rfl) ⟨rfl, rfl⟩
                          show J _ _ _ _ _ _ _ _ _ [.int 1] _ _
                          refine J_ifF (tgt := 16) (by decide) (dk_X7_shift 5 _ rfl) (jI_ne (by decide : (1 : Int32).toInt = 1) (by decide : (0 : Int32).toInt = 0) (by omega)) ?_
                          refine J_aload_n (i := 0) (a := 0) rfl rfl (dk_X7_shift 8 _ rfl) ?_
                          refine J_iload_n (i := 3) (a := 3) rfl rfl (dk_X7_shift 9 _ rfl) ?_
                          refine J_cV (rv := some (.int 1)) (h' := hM0) (d' := 11) (As := [.int 1]) ok_X7_isTape vi_X7_isTape cl_7_354 (n := 1) (by decide +kernel) rfl rfl rfl rfl (by decide) (by decide) (dk_X7_shift 10 _ rfl) ?_ ?_
                          · refine jCt_of ok_X7_isTape (fun _ _ => Nat.le_of_ble_eq_true rfl) (fun _ _ hq => by rw [hq.2]; first | exact Nat.le_refl _ | simp) ?_
                            show J _ _ _ _ _ _ _ _ [(0, .ref 0), (1, .int 1)] _ _ _
                            refine J_aload_n (i := 0) (a := 0) rfl rfl (dk_X7_isTape 0 _ rfl) ?_
                            refine J_iload_n (i := 1) (a := 1) rfl rfl (dk_X7_isTape 1 _ rfl) ?_
                            refine J_iconst (v := 0) (by decide) (dk_X7_isTape 2 _ rfl) ?_
                            refine J_iconst (v := 5) (by decide) (dk_X7_isTape 3 _ rfl) ?_
                            refine J_cV (rv := some (.int 1)) (h' := hM0) (d' := 10) (As := [.int 1, .int 0, .int 5]) ok_X7_in vi_X7_in cl_7_194 (n := 3) (by decide +kernel) rfl rfl rfl rfl (by decide) (by decide) (dk_X7_isTape 4 _ rfl) ?_ ?_
                            · refine jCt_of ok_X7_in (fun _ _ => Nat.le_of_ble_eq_true rfl) (fun _ _ hq => by rw [hq.2]; first | exact Nat.le_refl _ | simp) ?_
                              show J _ _ _ _ _ _ _ _ [(0, .ref 0), (1, .int 1), (2, .int 0), (3, .int 5)] _ _ _
                              refine J_iload_n (i := 1) (a := 1) rfl rfl (dk_X7_in 0 _ rfl) ?_
                              refine J_iload_n (i := 2) (a := 2) rfl rfl (dk_X7_in 1 _ rfl) ?_
                              refine J_icF (tgt := 14) (by decide) (dk_X7_in 2 _ rfl) (jI_nlt (by decide : (1 : Int32).toInt = 1) (by decide : (0 : Int32).toInt = 0) (by omega)) ?_
                              refine J_iload_n (i := 1) (a := 1) rfl rfl (dk_X7_in 5 _ rfl) ?_
                              refine J_iload_n (i := 3) (a := 3) rfl rfl (dk_X7_in 6 _ rfl) ?_
                              refine J_icF (tgt := 14) (by decide) (dk_X7_in 7 _ rfl) (jI_nlt (by decide : (5 : Int32).toInt = 5) (by decide : (1 : Int32).toInt = 1) (by omega)) ?_
                              refine J_iconst (v := 1) (by decide) (dk_X7_in 10 _ rfl) ?_
                              refine J_goto (tgt := 15) (by decide) (dk_X7_in 11 _ rfl) ?_
                              exact J_iret rfl rfl (dk_X7_in 15 _ rfl) ⟨rfl, rfl⟩
                            show J _ _ _ _ _ _ _ _ _ [.int 1] _ _
                            exact J_iret rfl rfl (dk_X7_isTape 7 _ rfl) ⟨rfl, rfl⟩
                          show J _ _ _ _ _ _ _ _ _ [.int 1] _ _
                          refine J_ifT (tgt := 18) (by decide) (dk_X7_shift 13 _ rfl) (jI_ne (by decide : (1 : Int32).toInt = 1) (by decide : (0 : Int32).toInt = 0) (by omega)) ?_
                          refine J_aload_n (i := 0) (a := 0) rfl rfl (dk_X7_shift 18 _ rfl) ?_
                          refine J_getf fl_7_181 rfl rfl (dk_X7_shift 19 _ rfl) ?_
                          refine J_iload_n (i := 1) (a := 1) rfl rfl (dk_X7_shift 22 _ rfl) ?_
                          refine J_iald rfl (by decide) rfl (dk_X7_shift 23 _ rfl) ?_
                          refine J_ifT (tgt := 36) (by decide) (dk_X7_shift 24 _ rfl) (jI_lt (by decide : ((-1) : Int32).toInt = (-1)) (by decide : (0 : Int32).toInt = 0) (by omega)) ?_
                          refine J_bipush (v := (-11)) (by decide) (dk_X7_shift 36 _ rfl) ?_
                          exact J_iret rfl rfl (dk_X7_shift 38 _ rfl) ⟨rfl, rfl⟩
                      · by_cases c36 : (o : Int32).toInt = 2
                        · obtain rfl : o = 2 := jI_eq rfl (by decide) c36
                          refine ⟨(-11), ?_, ?_⟩
                          · refine jCt_of ok_X6_shift (fun _ _ => Nat.le_of_ble_eq_true rfl) (fun _ _ hq => Nat.le_of_eq (lX.trans hq.2.symm)) ?_
                            show J _ _ _ _ _ _ _ _ [(0, .ref 0), (1, .int 4), (2, .int i), (3, .int 2), (4, .int j), (5, .int n)] _ _ _
                            refine J_iload_n (i := 1) (a := 1) rfl rfl (dk_X6_shift 0 _ rfl) ?_
                            refine J_cS (rv := some (.int 1)) (h' := hN0) (d' := 11) (As := [.int 4]) ok_X6_isTape st_X6_isTape cl_6_220 rfl (n := 1) (by decide +kernel) rfl (by decide) (by decide) (dk_X6_shift 1 _ rfl) ?_ ?_
                            · refine jCt_of ok_X6_isTape (fun _ _ => Nat.le_of_ble_eq_true rfl) (fun _ _ hq => by rw [hq.2]; first | exact Nat.le_refl _ | simp) ?_
                              show J _ _ _ _ _ _ _ _ [(0, .int 4)] _ _ _
                              refine J_iload_n (i := 0) (a := 0) rfl rfl (dk_X6_isTape 0 _ rfl) ?_
                              refine J_ifF (tgt := 14) (by decide) (dk_X6_isTape 1 _ rfl) (jI_nlt (by decide : (4 : Int32).toInt = 4) (by decide : (0 : Int32).toInt = 0) (by omega)) ?_
                              refine J_iload_n (i := 0) (a := 0) rfl rfl (dk_X6_isTape 4 _ rfl) ?_
                              refine J_bipush (v := 6) (by decide) (dk_X6_isTape 5 _ rfl) ?_
                              refine J_icF (tgt := 14) (by decide) (dk_X6_isTape 7 _ rfl) (jI_nle (by decide : (6 : Int32).toInt = 6) (by decide : (4 : Int32).toInt = 4) (by omega)) ?_
                              refine J_iconst (v := 1) (by decide) (dk_X6_isTape 10 _ rfl) ?_
                              refine J_goto (tgt := 15) (by decide) (dk_X6_isTape 11 _ rfl) ?_
                              exact J_iret rfl rfl (dk_X6_isTape 15 _ rfl) ⟨rfl, rfl⟩
                            show J _ _ _ _ _ _ _ _ _ [.int 1] _ _
                            refine J_ifF (tgt := 14) (by decide) (dk_X6_shift 4 _ rfl) (jI_ne (by decide : (1 : Int32).toInt = 1) (by decide : (0 : Int32).toInt = 0) (by omega)) ?_
                            refine J_iload_n (i := 3) (a := 3) rfl rfl (dk_X6_shift 7 _ rfl) ?_
                            refine J_cS (rv := some (.int 1)) (h' := hN0) (d' := 11) (As := [.int 2]) ok_X6_isTape st_X6_isTape cl_6_220 rfl (n := 1) (by decide +kernel) rfl (by decide) (by decide) (dk_X6_shift 8 _ rfl) ?_ ?_
                            · refine jCt_of ok_X6_isTape (fun _ _ => Nat.le_of_ble_eq_true rfl) (fun _ _ hq => by rw [hq.2]; first | exact Nat.le_refl _ | simp) ?_
                              show J _ _ _ _ _ _ _ _ [(0, .int 2)] _ _ _
                              refine J_iload_n (i := 0) (a := 0) rfl rfl (dk_X6_isTape 0 _ rfl) ?_
                              refine J_ifF (tgt := 14) (by decide) (dk_X6_isTape 1 _ rfl) (jI_nlt (by decide : (2 : Int32).toInt = 2) (by decide : (0 : Int32).toInt = 0) (by omega)) ?_
                              refine J_iload_n (i := 0) (a := 0) rfl rfl (dk_X6_isTape 4 _ rfl) ?_
                              refine J_bipush (v := 6) (by decide) (dk_X6_isTape 5 _ rfl) ?_
                              refine J_icF (tgt := 14) (by decide) (dk_X6_isTape 7 _ rfl) (jI_nle (by decide : (6 : Int32).toInt = 6) (by decide : (2 : Int32).toInt = 2) (by omega)) ?_
                              refine J_iconst (v := 1) (by decide) (dk_X6_isTape 10 _ rfl) ?_
                              refine J_goto (tgt := 15) (by decide) (dk_X6_isTape 11 _ rfl) ?_
                              exact J_iret rfl rfl (dk_X6_isTape 15 _ rfl) ⟨rfl, rfl⟩
                            show J _ _ _ _ _ _ _ _ _ [.int 1] _ _
                            refine J_ifT (tgt := 16) (by decide) (dk_X6_shift 11 _ rfl) (jI_ne (by decide : (1 : Int32).toInt = 1) (by decide : (0 : Int32).toInt = 0) (by omega)) ?_
                            refine J_aload_n (i := 0) (a := 0) rfl rfl (dk_X6_shift 16 _ rfl) ?_
                            refine J_getf fl_6_37 rfl rfl (dk_X6_shift 17 _ rfl) ?_
                            refine J_iload_n (i := 1) (a := 1) rfl rfl (dk_X6_shift 20 _ rfl) ?_
                            refine J_aald (by decide) rfl (by decide) rfl (dk_X6_shift 21 _ rfl) ?_
                            refine J_astore (i := 6) (by decide) (dk_X6_shift 22 _ rfl) ?_
                            show J _ _ _ _ _ _ _ _ [(6, .ref 90), (0, .ref 0), (1, .int 4), (2, .int i), (3, .int 2), (4, .int j), (5, .int n)] _ _ _
                            refine J_aload_n (i := 0) (a := 0) rfl rfl (dk_X6_shift 24 _ rfl) ?_
                            refine J_getf fl_6_37 rfl rfl (dk_X6_shift 25 _ rfl) ?_
                            refine J_iload_n (i := 3) (a := 3) rfl rfl (dk_X6_shift 28 _ rfl) ?_
                            refine J_aald (by decide) rfl (by decide) rfl (dk_X6_shift 29 _ rfl) ?_
                            refine J_astore (i := 7) (by decide) (dk_X6_shift 30 _ rfl) ?_
                            show J _ _ _ _ _ _ _ _ [(7, .ref 86), (6, .ref 90), (0, .ref 0), (1, .int 4), (2, .int i), (3, .int 2), (4, .int j), (5, .int n)] _ _ _
                            refine J_aload (i := 6) rfl (dk_X6_shift 32 _ rfl) ?_
                            refine J_getf fl_6_223 rfl rfl (dk_X6_shift 34 _ rfl) ?_
                            refine J_iconst (v := (-1)) (by decide) (dk_X6_shift 37 _ rfl) ?_
                            refine J_icT (tgt := 50) (by decide) (dk_X6_shift 38 _ rfl) (jI_eq (by decide : ((-1) : Int32).toInt = (-1)) (by decide : ((-1) : Int32).toInt = (-1)) (by omega)) ?_
                            refine J_bipush (v := (-11)) (by decide) (dk_X6_shift 50 _ rfl) ?_
                            exact J_iret rfl rfl (dk_X6_shift 52 _ rfl) ⟨rfl, rfl⟩
                          · refine jCt_of ok_X7_shift (fun _ _ => Nat.le_of_ble_eq_true rfl) (fun _ _ hq => Nat.le_of_eq (lM.trans hq.2.symm)) ?_
                            show J _ _ _ _ _ _ _ _ [(0, .ref 0), (1, .int 4), (2, .int i), (3, .int 2), (4, .int j), (5, .int n)] _ _ _
                            refine J_aload_n (i := 0) (a := 0) rfl rfl (dk_X7_shift 0 _ rfl) ?_
                            refine J_iload_n (i := 1) (a := 1) rfl rfl (dk_X7_shift 1 _ rfl) ?_
                            refine J_cV (rv := some (.int 1)) (h' := hM0) (d' := 11) (As := [.int 4]) ok_X7_isTape vi_X7_isTape cl_7_354 (n := 1) (by decide +kernel) rfl rfl rfl rfl (by decide) (by decide) (dk_X7_shift 2 _ rfl) ?_ ?_
                            · refine jCt_of ok_X7_isTape (fun _ _ => Nat.le_of_ble_eq_true rfl) (fun _ _ hq => by rw [hq.2]; first | exact Nat.le_refl _ | simp) ?_
                              show J _ _ _ _ _ _ _ _ [(0, .ref 0), (1, .int 4)] _ _ _
                              refine J_aload_n (i := 0) (a := 0) rfl rfl (dk_X7_isTape 0 _ rfl) ?_
                              refine J_iload_n (i := 1) (a := 1) rfl rfl (dk_X7_isTape 1 _ rfl) ?_
                              refine J_iconst (v := 0) (by decide) (dk_X7_isTape 2 _ rfl) ?_
                              refine J_iconst (v := 5) (by decide) (dk_X7_isTape 3 _ rfl) ?_
                              refine J_cV (rv := some (.int 1)) (h' := hM0) (d' := 10) (As := [.int 4, .int 0, .int 5]) ok_X7_in vi_X7_in cl_7_194 (n := 3) (by decide +kernel) rfl rfl rfl rfl (by decide) (by decide) (dk_X7_isTape 4 _ rfl) ?_ ?_
                              · refine jCt_of ok_X7_in (fun _ _ => Nat.le_of_ble_eq_true rfl) (fun _ _ hq => by rw [hq.2]; first | exact Nat.le_refl _ | simp) ?_
                                show J _ _ _ _ _ _ _ _ [(0, .ref 0), (1, .int 4), (2, .int 0), (3, .int 5)] _ _ _
                                refine J_iload_n (i := 1) (a := 1) rfl rfl (dk_X7_in 0 _ rfl) ?_
                                refine J_iload_n (i := 2) (a := 2) rfl rfl (dk_X7_in 1 _ rfl) ?_
                                refine J_icF (tgt := 14) (by decide) (dk_X7_in 2 _ rfl) (jI_nlt (by decide : (4 : Int32).toInt = 4) (by decide : (0 : Int32).toInt = 0) (by omega)) ?_
                                refine J_iload_n (i := 1) (a := 1) rfl rfl (dk_X7_in 5 _ rfl) ?_
                                refine J_iload_n (i := 3) (a := 3) rfl rfl (dk_X7_in 6 _ rfl) ?_
                                refine J_icF (tgt := 14) (by decide) (dk_X7_in 7 _ rfl) (jI_nlt (by decide : (5 : Int32).toInt = 5) (by decide : (4 : Int32).toInt = 4) (by omega)) ?_
                                refine J_iconst (v := 1) (by decide) (dk_X7_in 10 _ rfl) ?_
                                refine J_goto (tgt := 15) (by decide) (dk_X7_in 11 _ rfl) ?_
                                exact J_iret rfl rfl (dk_X7_in 15 _ rfl) ⟨rfl, rfl⟩
                              show J _ _ _ _ _ _ _ _ _ [.int 1] _ _
                              exact J_iret rfl rfl (dk_X7_isTape 7 _ rfl) ⟨rfl, rfl⟩
                            show J _ _ _ _ _ _ _ _ _ [.int 1] _ _
                            refine J_ifF (tgt := 16) (by decide) (dk_X7_shift 5 _ rfl) (jI_ne (by decide : (1 : Int32).toInt = 1) (by decide : (0 : Int32).toInt = 0) (by omega)) ?_
                            refine J_aload_n (i := 0) (a := 0) rfl rfl (dk_X7_shift 8 _ rfl) ?_
                            refine J_iload_n (i := 3) (a := 3) rfl rfl (dk_X7_shift 9 _ rfl) ?_
                            refine J_cV (rv := some (.int 1)) (h' := hM0) (d' := 11) (As := [.int 2]) ok_X7_isTape vi_X7_isTape cl_7_354 (n := 1) (by decide +kernel) rfl rfl rfl rfl (by decide) (by decide) (dk_X7_shift 10 _ rfl) ?_ ?_
                            · refine jCt_of ok_X7_isTape (fun _ _ => Nat.le_of_ble_eq_true rfl) (fun _ _ hq => by rw [hq.2]; first | exact Nat.le_refl _ | simp) ?_
                              show J _ _ _ _ _ _ _ _ [(0, .ref 0), (1, .int 2)] _ _ _
                              refine J_aload_n (i := 0) (a := 0) rfl rfl (dk_X7_isTape 0 _ rfl) ?_
                              refine J_iload_n (i := 1) (a := 1) rfl rfl (dk_X7_isTape 1 _ rfl) ?_
                              refine J_iconst (v := 0) (by decide) (dk_X7_isTape 2 _ rfl) ?_
                              refine J_iconst (v := 5) (by decide) (dk_X7_isTape 3 _ rfl) ?_
                              refine J_cV (rv := some (.int 1)) (h' := hM0) (d' := 10) (As := [.int 2, .int 0, .int 5]) ok_X7_in vi_X7_in cl_7_194 (n := 3) (by decide +kernel) rfl rfl rfl rfl (by decide) (by decide) (dk_X7_isTape 4 _ rfl) ?_ ?_
                              · refine jCt_of ok_X7_in (fun _ _ => Nat.le_of_ble_eq_true rfl) (fun _ _ hq => by rw [hq.2]; first | exact Nat.le_refl _ | simp) ?_
                                show J _ _ _ _ _ _ _ _ [(0, .ref 0), (1, .int 2), (2, .int 0), (3, .int 5)] _ _ _
                                refine J_iload_n (i := 1) (a := 1) rfl rfl (dk_X7_in 0 _ rfl) ?_
                                refine J_iload_n (i := 2) (a := 2) rfl rfl (dk_X7_in 1 _ rfl) ?_
                                refine J_icF (tgt := 14) (by decide) (dk_X7_in 2 _ rfl) (jI_nlt (by decide : (2 : Int32).toInt = 2) (by decide : (0 : Int32).toInt = 0) (by omega)) ?_
                                refine J_iload_n (i := 1) (a := 1) rfl rfl (dk_X7_in 5 _ rfl) ?_
                                refine J_iload_n (i := 3) (a := 3) rfl rfl (dk_X7_in 6 _ rfl) ?_
                                refine J_icF (tgt := 14) (by decide) (dk_X7_in 7 _ rfl) (jI_nlt (by decide : (5 : Int32).toInt = 5) (by decide : (2 : Int32).toInt = 2) (by omega)) ?_
                                refine J_iconst (v := 1) (by decide) (dk_X7_in 10 _ rfl) ?_
                                refine J_goto (tgt := 15) (by decide) (dk_X7_in 11 _ rfl) ?_
                                exact J_iret rfl rfl (dk_X7_in 15 _ rfl) ⟨rfl, rfl⟩
                              show J _ _ _ _ _ _ _ _ _ [.int 1] _ _
                              exact J_iret rfl rfl (dk_X7_isTape 7 _ rfl) ⟨rfl, rfl⟩
                            show J _ _ _ _ _ _ _ _ _ [.int 1] _ _
                            refine J_ifT (tgt := 18) (by decide) (dk_X7_shift 13 _ rfl) (jI_ne (by decide : (1 : Int32).toInt = 1) (by decide : (0 : Int32).toInt = 0) (by omega)) ?_
                            refine J_aload_n (i := 0) (a := 0) rfl rfl (dk_X7_shift 18 _ rfl) ?_
                            refine J_getf fl_7_181 rfl rfl (dk_X7_shift 19 _ rfl) ?_
                            refine J_iload_n (i := 1) (a := 1) rfl rfl (dk_X7_shift 22 _ rfl) ?_
                            refine J_iald rfl (by decide) rfl (dk_X7_shift 23 _ rfl) ?_
                            refine J_ifT (tgt := 36) (by decide) (dk_X7_shift 24 _ rfl) (jI_lt (by decide : ((-1) : Int32).toInt = (-1)) (by decide : (0 : Int32).toInt = 0) (by omega)) ?_
                            refine J_bipush (v := (-11)) (by decide) (dk_X7_shift 36 _ rfl) ?_
                            exact J_iret rfl rfl (dk_X7_shift 38 _ rfl) ⟨rfl, rfl⟩
                        · by_cases c37 : (o : Int32).toInt = 3
                          · obtain rfl : o = 3 := jI_eq rfl (by decide) c37
                            refine ⟨(-11), ?_, ?_⟩
                            · refine jCt_of ok_X6_shift (fun _ _ => Nat.le_of_ble_eq_true rfl) (fun _ _ hq => Nat.le_of_eq (lX.trans hq.2.symm)) ?_
                              show J _ _ _ _ _ _ _ _ [(0, .ref 0), (1, .int 4), (2, .int i), (3, .int 3), (4, .int j), (5, .int n)] _ _ _
                              refine J_iload_n (i := 1) (a := 1) rfl rfl (dk_X6_shift 0 _ rfl) ?_
                              refine J_cS (rv := some (.int 1)) (h' := hN0) (d' := 11) (As := [.int 4]) ok_X6_isTape st_X6_isTape cl_6_220 rfl (n := 1) (by decide +kernel) rfl (by decide) (by decide) (dk_X6_shift 1 _ rfl) ?_ ?_
                              · refine jCt_of ok_X6_isTape (fun _ _ => Nat.le_of_ble_eq_true rfl) (fun _ _ hq => by rw [hq.2]; first | exact Nat.le_refl _ | simp) ?_
                                show J _ _ _ _ _ _ _ _ [(0, .int 4)] _ _ _
                                refine J_iload_n (i := 0) (a := 0) rfl rfl (dk_X6_isTape 0 _ rfl) ?_
                                refine J_ifF (tgt := 14) (by decide) (dk_X6_isTape 1 _ rfl) (jI_nlt (by decide : (4 : Int32).toInt = 4) (by decide : (0 : Int32).toInt = 0) (by omega)) ?_
                                refine J_iload_n (i := 0) (a := 0) rfl rfl (dk_X6_isTape 4 _ rfl) ?_
                                refine J_bipush (v := 6) (by decide) (dk_X6_isTape 5 _ rfl) ?_
                                refine J_icF (tgt := 14) (by decide) (dk_X6_isTape 7 _ rfl) (jI_nle (by decide : (6 : Int32).toInt = 6) (by decide : (4 : Int32).toInt = 4) (by omega)) ?_
                                refine J_iconst (v := 1) (by decide) (dk_X6_isTape 10 _ rfl) ?_
                                refine J_goto (tgt := 15) (by decide) (dk_X6_isTape 11 _ rfl) ?_
                                exact J_iret rfl rfl (dk_X6_isTape 15 _ rfl) ⟨rfl, rfl⟩
                              show J _ _ _ _ _ _ _ _ _ [.int 1] _ _
                              refine J_ifF (tgt := 14) (by decide) (dk_X6_shift 4 _ rfl) (jI_ne (by decide : (1 : Int32).toInt = 1) (by decide : (0 : Int32).toInt = 0) (by omega)) ?_
                              refine J_iload_n (i := 3) (a := 3) rfl rfl (dk_X6_shift 7 _ rfl) ?_
                              refine J_cS (rv := some (.int 1)) (h' := hN0) (d' := 11) (As := [.int 3]) ok_X6_isTape st_X6_isTape cl_6_220 rfl (n := 1) (by decide +kernel) rfl (by decide) (by decide) (dk_X6_shift 8 _ rfl) ?_ ?_
                              · refine jCt_of ok_X6_isTape (fun _ _ => Nat.le_of_ble_eq_true rfl) (fun _ _ hq => by rw [hq.2]; first | exact Nat.le_refl _ | simp) ?_
                                show J _ _ _ _ _ _ _ _ [(0, .int 3)] _ _ _
                                refine J_iload_n (i := 0) (a := 0) rfl rfl (dk_X6_isTape 0 _ rfl) ?_
                                refine J_ifF (tgt := 14) (by decide) (dk_X6_isTape 1 _ rfl) (jI_nlt (by decide : (3 : Int32).toInt = 3) (by decide : (0 : Int32).toInt = 0) (by omega)) ?_
                                refine J_iload_n (i := 0) (a := 0) rfl rfl (dk_X6_isTape 4 _ rfl) ?_
                                refine J_bipush (v := 6) (by decide) (dk_X6_isTape 5 _ rfl) ?_
                                refine J_icF (tgt := 14) (by decide) (dk_X6_isTape 7 _ rfl) (jI_nle (by decide : (6 : Int32).toInt = 6) (by decide : (3 : Int32).toInt = 3) (by omega)) ?_
                                refine J_iconst (v := 1) (by decide) (dk_X6_isTape 10 _ rfl) ?_
                                refine J_goto (tgt := 15) (by decide) (dk_X6_isTape 11 _ rfl) ?_
                                exact J_iret rfl rfl (dk_X6_isTape 15 _ rfl) ⟨rfl, rfl⟩
                              show J _ _ _ _ _ _ _ _ _ [.int 1] _ _
                              refine J_ifT (tgt := 16) (by decide) (dk_X6_shift 11 _ rfl) (jI_ne (by decide : (1 : Int32).toInt = 1) (by decide : (0 : Int32).toInt = 0) (by omega)) ?_
                              refine J_aload_n (i := 0) (a := 0) rfl rfl (dk_X6_shift 16 _ rfl) ?_
                              refine J_getf fl_6_37 rfl rfl (dk_X6_shift 17 _ rfl) ?_
                              refine J_iload_n (i := 1) (a := 1) rfl rfl (dk_X6_shift 20 _ rfl) ?_
                              refine J_aald (by decide) rfl (by decide) rfl (dk_X6_shift 21 _ rfl) ?_
                              refine J_astore (i := 6) (by decide) (dk_X6_shift 22 _ rfl) ?_
                              show J _ _ _ _ _ _ _ _ [(6, .ref 90), (0, .ref 0), (1, .int 4), (2, .int i), (3, .int 3), (4, .int j), (5, .int n)] _ _ _
                              refine J_aload_n (i := 0) (a := 0) rfl rfl (dk_X6_shift 24 _ rfl) ?_
                              refine J_getf fl_6_37 rfl rfl (dk_X6_shift 25 _ rfl) ?_
                              refine J_iload_n (i := 3) (a := 3) rfl rfl (dk_X6_shift 28 _ rfl) ?_
                              refine J_aald (by decide) rfl (by decide) rfl (dk_X6_shift 29 _ rfl) ?_
                              refine J_astore (i := 7) (by decide) (dk_X6_shift 30 _ rfl) ?_
                              show J _ _ _ _ _ _ _ _ [(7, .ref 88), (6, .ref 90), (0, .ref 0), (1, .int 4), (2, .int i), (3, .int 3), (4, .int j), (5, .int n)] _ _ _
                              refine J_aload (i := 6) rfl (dk_X6_shift 32 _ rfl) ?_
                              refine J_getf fl_6_223 rfl rfl (dk_X6_shift 34 _ rfl) ?_
                              refine J_iconst (v := (-1)) (by decide) (dk_X6_shift 37 _ rfl) ?_
                              refine J_icT (tgt := 50) (by decide) (dk_X6_shift 38 _ rfl) (jI_eq (by decide : ((-1) : Int32).toInt = (-1)) (by decide : ((-1) : Int32).toInt = (-1)) (by omega)) ?_
                              refine J_bipush (v := (-11)) (by decide) (dk_X6_shift 50 _ rfl) ?_
                              exact J_iret rfl rfl (dk_X6_shift 52 _ rfl) ⟨rfl, rfl⟩
                            · refine jCt_of ok_X7_shift (fun _ _ => Nat.le_of_ble_eq_true rfl) (fun _ _ hq => Nat.le_of_eq (lM.trans hq.2.symm)) ?_
                              show J _ _ _ _ _ _ _ _ [(0, .ref 0), (1, .int 4), (2, .int i), (3, .int 3), (4, .int j), (5, .int n)] _ _ _
                              refine J_aload_n (i := 0) (a := 0) rfl rfl (dk_X7_shift 0 _ rfl) ?_
                              refine J_iload_n (i := 1) (a := 1) rfl rfl (dk_X7_shift 1 _ rfl) ?_
                              refine J_cV (rv := some (.int 1)) (h' := hM0) (d' := 11) (As := [.int 4]) ok_X7_isTape vi_X7_isTape cl_7_354 (n := 1) (by decide +kernel) rfl rfl rfl rfl (by decide) (by decide) (dk_X7_shift 2 _ rfl) ?_ ?_
                              · refine jCt_of ok_X7_isTape (fun _ _ => Nat.le_of_ble_eq_true rfl) (fun _ _ hq => by rw [hq.2]; first | exact Nat.le_refl _ | simp) ?_
                                show J _ _ _ _ _ _ _ _ [(0, .ref 0), (1, .int 4)] _ _ _
                                refine J_aload_n (i := 0) (a := 0) rfl rfl (dk_X7_isTape 0 _ rfl) ?_
                                refine J_iload_n (i := 1) (a := 1) rfl rfl (dk_X7_isTape 1 _ rfl) ?_
                                refine J_iconst (v := 0) (by decide) (dk_X7_isTape 2 _ rfl) ?_
                                refine J_iconst (v := 5) (by decide) (dk_X7_isTape 3 _ rfl) ?_
                                refine J_cV (rv := some (.int 1)) (h' := hM0) (d' := 10) (As := [.int 4, .int 0, .int 5]) ok_X7_in vi_X7_in cl_7_194 (n := 3) (by decide +kernel) rfl rfl rfl rfl (by decide) (by decide) (dk_X7_isTape 4 _ rfl) ?_ ?_
                                · refine jCt_of ok_X7_in (fun _ _ => Nat.le_of_ble_eq_true rfl) (fun _ _ hq => by rw [hq.2]; first | exact Nat.le_refl _ | simp) ?_
                                  show J _ _ _ _ _ _ _ _ [(0, .ref 0), (1, .int 4), (2, .int 0), (3, .int 5)] _ _ _
                                  refine J_iload_n (i := 1) (a := 1) rfl rfl (dk_X7_in 0 _ rfl) ?_
                                  refine J_iload_n (i := 2) (a := 2) rfl rfl (dk_X7_in 1 _ rfl) ?_
                                  refine J_icF (tgt := 14) (by decide) (dk_X7_in 2 _ rfl) (jI_nlt (by decide : (4 : Int32).toInt = 4) (by decide : (0 : Int32).toInt = 0) (by omega)) ?_
                                  refine J_iload_n (i := 1) (a := 1) rfl rfl (dk_X7_in 5 _ rfl) ?_
                                  refine J_iload_n (i := 3) (a := 3) rfl rfl (dk_X7_in 6 _ rfl) ?_
                                  refine J_icF (tgt := 14) (by decide) (dk_X7_in 7 _ rfl) (jI_nlt (by decide : (5 : Int32).toInt = 5) (by decide : (4 : Int32).toInt = 4) (by omega)) ?_
                                  refine J_iconst (v := 1) (by decide) (dk_X7_in 10 _ rfl) ?_
                                  refine J_goto (tgt := 15) (by decide) (dk_X7_in 11 _ rfl) ?_
                                  exact J_iret rfl rfl (dk_X7_in 15 _ rfl) ⟨rfl, rfl⟩
                                show J _ _ _ _ _ _ _ _ _ [.int 1] _ _
                                exact J_iret rfl rfl (dk_X7_isTape 7 _ rfl) ⟨rfl, rfl⟩
                              show J _ _ _ _ _ _ _ _ _ [.int 1] _ _
                              refine J_ifF (tgt := 16) (by decide) (dk_X7_shift 5 _ rfl) (jI_ne (by decide : (1 : Int32).toInt = 1) (by decide : (0 : Int32).toInt = 0) (by omega)) ?_
                              refine J_aload_n (i := 0) (a := 0) rfl rfl (dk_X7_shift 8 _ rfl) ?_
                              refine J_iload_n (i := 3) (a := 3) rfl rfl (dk_X7_shift 9 _ rfl) ?_
                              refine J_cV (rv := some (.int 1)) (h' := hM0) (d' := 11) (As := [.int 3]) ok_X7_isTape vi_X7_isTape cl_7_354 (n := 1) (by decide +kernel) rfl rfl rfl rfl (by decide) (by decide) (dk_X7_shift 10 _ rfl) ?_ ?_
                              · refine jCt_of ok_X7_isTape (fun _ _ => Nat.le_of_ble_eq_true rfl) (fun _ _ hq => by rw [hq.2]; first | exact Nat.le_refl _ | simp) ?_
                                show J _ _ _ _ _ _ _ _ [(0, .ref 0), (1, .int 3)] _ _ _
                                refine J_aload_n (i := 0) (a := 0) rfl rfl (dk_X7_isTape 0 _ rfl) ?_
                                refine J_iload_n (i := 1) (a := 1) rfl rfl (dk_X7_isTape 1 _ rfl) ?_
                                refine J_iconst (v := 0) (by decide) (dk_X7_isTape 2 _ rfl) ?_
                                refine J_iconst (v := 5) (by decide) (dk_X7_isTape 3 _ rfl) ?_
                                refine J_cV (rv := some (.int 1)) (h' := hM0) (d' := 10) (As := [.int 3, .int 0, .int 5]) ok_X7_in vi_X7_in cl_7_194 (n := 3) (by decide +kernel) rfl rfl rfl rfl (by decide) (by decide) (dk_X7_isTape 4 _ rfl) ?_ ?_
                                · refine jCt_of ok_X7_in (fun _ _ => Nat.le_of_ble_eq_true rfl) (fun _ _ hq => by rw [hq.2]; first | exact Nat.le_refl _ | simp) ?_
                                  show J _ _ _ _ _ _ _ _ [(0, .ref 0), (1, .int 3), (2, .int 0), (3, .int 5)] _ _ _
                                  refine J_iload_n (i := 1) (a := 1) rfl rfl (dk_X7_in 0 _ rfl) ?_
                                  refine J_iload_n (i := 2) (a := 2) rfl rfl (dk_X7_in 1 _ rfl) ?_
                                  refine J_icF (tgt := 14) (by decide) (dk_X7_in 2 _ rfl) (jI_nlt (by decide : (3 : Int32).toInt = 3) (by decide : (0 : Int32).toInt = 0) (by omega)) ?_
                                  refine J_iload_n (i := 1) (a := 1) rfl rfl (dk_X7_in 5 _ rfl) ?_
                                  refine J_iload_n (i := 3) (a := 3) rfl rfl (dk_X7_in 6 _ rfl) ?_
                                  refine J_icF (tgt := 14) (by decide) (dk_X7_in 7 _ rfl) (jI_nlt (by decide : (5 : Int32).toInt = 5) (by decide : (3 : Int32).toInt = 3) (by omega)) ?_
                                  refine J_iconst (v := 1) (by decide) (dk_X7_in 10 _ rfl) ?_
                                  refine J_goto (tgt := 15) (by decide) (dk_X7_in 11 _ rfl) ?_
                                  exact J_iret rfl rfl (dk_X7_in 15 _ rfl) ⟨rfl, rfl⟩
                                show J _ _ _ _ _ _ _ _ _ [.int 1] _ _
                                exact J_iret rfl rfl (dk_X7_isTape 7 _ rfl) ⟨rfl, rfl⟩
                              show J _ _ _ _ _ _ _ _ _ [.int 1] _ _
                              refine J_ifT (tgt := 18) (by decide) (dk_X7_shift 13 _ rfl) (jI_ne (by decide : (1 : Int32).toInt = 1) (by decide : (0 : Int32).toInt = 0) (by omega)) ?_
                              refine J_aload_n (i := 0) (a := 0) rfl rfl (dk_X7_shift 18 _ rfl) ?_
                              refine J_getf fl_7_181 rfl rfl (dk_X7_shift 19 _ rfl) ?_
                              refine J_iload_n (i := 1) (a := 1) rfl rfl (dk_X7_shift 22 _ rfl) ?_
                              refine J_iald rfl (by decide) rfl (dk_X7_shift 23 _ rfl) ?_
                              refine J_ifT (tgt := 36) (by decide) (dk_X7_shift 24 _ rfl) (jI_lt (by decide : ((-1) : Int32).toInt = (-1)) (by decide : (0 : Int32).toInt = 0) (by omega)) ?_
                              refine J_bipush (v := (-11)) (by decide) (dk_X7_shift 36 _ rfl) ?_
                              exact J_iret rfl rfl (dk_X7_shift 38 _ rfl) ⟨rfl, rfl⟩
                          · by_cases c38 : (o : Int32).toInt = 4
                            · obtain rfl : o = 4 := jI_eq rfl (by decide) c38
                              refine ⟨(-11), ?_, ?_⟩
                              · refine jCt_of ok_X6_shift (fun _ _ => Nat.le_of_ble_eq_true rfl) (fun _ _ hq => Nat.le_of_eq (lX.trans hq.2.symm)) ?_
                                show J _ _ _ _ _ _ _ _ [(0, .ref 0), (1, .int 4), (2, .int i), (3, .int 4), (4, .int j), (5, .int n)] _ _ _
                                refine J_iload_n (i := 1) (a := 1) rfl rfl (dk_X6_shift 0 _ rfl) ?_
                                refine J_cS (rv := some (.int 1)) (h' := hN0) (d' := 11) (As := [.int 4]) ok_X6_isTape st_X6_isTape cl_6_220 rfl (n := 1) (by decide +kernel) rfl (by decide) (by decide) (dk_X6_shift 1 _ rfl) ?_ ?_
                                · refine jCt_of ok_X6_isTape (fun _ _ => Nat.le_of_ble_eq_true rfl) (fun _ _ hq => by rw [hq.2]; first | exact Nat.le_refl _ | simp) ?_
                                  show J _ _ _ _ _ _ _ _ [(0, .int 4)] _ _ _
                                  refine J_iload_n (i := 0) (a := 0) rfl rfl (dk_X6_isTape 0 _ rfl) ?_
                                  refine J_ifF (tgt := 14) (by decide) (dk_X6_isTape 1 _ rfl) (jI_nlt (by decide : (4 : Int32).toInt = 4) (by decide : (0 : Int32).toInt = 0) (by omega)) ?_
                                  refine J_iload_n (i := 0) (a := 0) rfl rfl (dk_X6_isTape 4 _ rfl) ?_
                                  refine J_bipush (v := 6) (by decide) (dk_X6_isTape 5 _ rfl) ?_
                                  refine J_icF (tgt := 14) (by decide) (dk_X6_isTape 7 _ rfl) (jI_nle (by decide : (6 : Int32).toInt = 6) (by decide : (4 : Int32).toInt = 4) (by omega)) ?_
                                  refine J_iconst (v := 1) (by decide) (dk_X6_isTape 10 _ rfl) ?_
                                  refine J_goto (tgt := 15) (by decide) (dk_X6_isTape 11 _ rfl) ?_
                                  exact J_iret rfl rfl (dk_X6_isTape 15 _ rfl) ⟨rfl, rfl⟩
                                show J _ _ _ _ _ _ _ _ _ [.int 1] _ _
                                refine J_ifF (tgt := 14) (by decide) (dk_X6_shift 4 _ rfl) (jI_ne (by decide : (1 : Int32).toInt = 1) (by decide : (0 : Int32).toInt = 0) (by omega)) ?_
                                refine J_iload_n (i := 3) (a := 3) rfl rfl (dk_X6_shift 7 _ rfl) ?_
                                refine J_cS (rv := some (.int 1)) (h' := hN0) (d' := 11) (As := [.int 4]) ok_X6_isTape st_X6_isTape cl_6_220 rfl (n := 1) (by decide +kernel) rfl (by decide) (by decide) (dk_X6_shift 8 _ rfl) ?_ ?_
                                · refine jCt_of ok_X6_isTape (fun _ _ => Nat.le_of_ble_eq_true rfl) (fun _ _ hq => by rw [hq.2]; first | exact Nat.le_refl _ | simp) ?_
                                  show J _ _ _ _ _ _ _ _ [(0, .int 4)] _ _ _
                                  refine J_iload_n (i := 0) (a := 0) rfl rfl (dk_X6_isTape 0 _ rfl) ?_
                                  refine J_ifF (tgt := 14) (by decide) (dk_X6_isTape 1 _ rfl) (jI_nlt (by decide : (4 : Int32).toInt = 4) (by decide : (0 : Int32).toInt = 0) (by omega)) ?_
                                  refine J_iload_n (i := 0) (a := 0) rfl rfl (dk_X6_isTape 4 _ rfl) ?_
                                  refine J_bipush (v := 6) (by decide) (dk_X6_isTape 5 _ rfl) ?_
                                  refine J_icF (tgt := 14) (by decide) (dk_X6_isTape 7 _ rfl) (jI_nle (by decide : (6 : Int32).toInt = 6) (by decide : (4 : Int32).toInt = 4) (by omega)) ?_
                                  refine J_iconst (v := 1) (by decide) (dk_X6_isTape 10 _ rfl) ?_
                                  refine J_goto (tgt := 15) (by decide) (dk_X6_isTape 11 _ rfl) ?_
                                  exact J_iret rfl rfl (dk_X6_isTape 15 _ rfl) ⟨rfl, rfl⟩
                                show J _ _ _ _ _ _ _ _ _ [.int 1] _ _
                                refine J_ifT (tgt := 16) (by decide) (dk_X6_shift 11 _ rfl) (jI_ne (by decide : (1 : Int32).toInt = 1) (by decide : (0 : Int32).toInt = 0) (by omega)) ?_
                                refine J_aload_n (i := 0) (a := 0) rfl rfl (dk_X6_shift 16 _ rfl) ?_
                                refine J_getf fl_6_37 rfl rfl (dk_X6_shift 17 _ rfl) ?_
                                refine J_iload_n (i := 1) (a := 1) rfl rfl (dk_X6_shift 20 _ rfl) ?_
                                refine J_aald (by decide) rfl (by decide) rfl (dk_X6_shift 21 _ rfl) ?_
                                refine J_astore (i := 6) (by decide) (dk_X6_shift 22 _ rfl) ?_
                                show J _ _ _ _ _ _ _ _ [(6, .ref 90), (0, .ref 0), (1, .int 4), (2, .int i), (3, .int 4), (4, .int j), (5, .int n)] _ _ _
                                refine J_aload_n (i := 0) (a := 0) rfl rfl (dk_X6_shift 24 _ rfl) ?_
                                refine J_getf fl_6_37 rfl rfl (dk_X6_shift 25 _ rfl) ?_
                                refine J_iload_n (i := 3) (a := 3) rfl rfl (dk_X6_shift 28 _ rfl) ?_
                                refine J_aald (by decide) rfl (by decide) rfl (dk_X6_shift 29 _ rfl) ?_
                                refine J_astore (i := 7) (by decide) (dk_X6_shift 30 _ rfl) ?_
                                show J _ _ _ _ _ _ _ _ [(7, .ref 90), (6, .ref 90), (0, .ref 0), (1, .int 4), (2, .int i), (3, .int 4), (4, .int j), (5, .int n)] _ _ _
                                refine J_aload (i := 6) rfl (dk_X6_shift 32 _ rfl) ?_
                                refine J_getf fl_6_223 rfl rfl (dk_X6_shift 34 _ rfl) ?_
                                refine J_iconst (v := (-1)) (by decide) (dk_X6_shift 37 _ rfl) ?_
                                refine J_icT (tgt := 50) (by decide) (dk_X6_shift 38 _ rfl) (jI_eq (by decide : ((-1) : Int32).toInt = (-1)) (by decide : ((-1) : Int32).toInt = (-1)) (by omega)) ?_
                                refine J_bipush (v := (-11)) (by decide) (dk_X6_shift 50 _ rfl) ?_
                                exact J_iret rfl rfl (dk_X6_shift 52 _ rfl) ⟨rfl, rfl⟩
                              · refine jCt_of ok_X7_shift (fun _ _ => Nat.le_of_ble_eq_true rfl) (fun _ _ hq => Nat.le_of_eq (lM.trans hq.2.symm)) ?_
                                show J _ _ _ _ _ _ _ _ [(0, .ref 0), (1, .int 4), (2, .int i), (3, .int 4), (4, .int j), (5, .int n)] _ _ _
                                refine J_aload_n (i := 0) (a := 0) rfl rfl (dk_X7_shift 0 _ rfl) ?_
                                refine J_iload_n (i := 1) (a := 1) rfl rfl (dk_X7_shift 1 _ rfl) ?_
                                refine J_cV (rv := some (.int 1)) (h' := hM0) (d' := 11) (As := [.int 4]) ok_X7_isTape vi_X7_isTape cl_7_354 (n := 1) (by decide +kernel) rfl rfl rfl rfl (by decide) (by decide) (dk_X7_shift 2 _ rfl) ?_ ?_
                                · refine jCt_of ok_X7_isTape (fun _ _ => Nat.le_of_ble_eq_true rfl) (fun _ _ hq => by rw [hq.2]; first | exact Nat.le_refl _ | simp) ?_
                                  show J _ _ _ _ _ _ _ _ [(0, .ref 0), (1, .int 4)] _ _ _
                                  refine J_aload_n (i := 0) (a := 0) rfl rfl (dk_X7_isTape 0 _ rfl) ?_
                                  refine J_iload_n (i := 1) (a := 1) rfl rfl (dk_X7_isTape 1 _ rfl) ?_
                                  refine J_iconst (v := 0) (by decide) (dk_X7_isTape 2 _ rfl) ?_
                                  refine J_iconst (v := 5) (by decide) (dk_X7_isTape 3 _ rfl) ?_
                                  refine J_cV (rv := some (.int 1)) (h' := hM0) (d' := 10) (As := [.int 4, .int 0, .int 5]) ok_X7_in vi_X7_in cl_7_194 (n := 3) (by decide +kernel) rfl rfl rfl rfl (by decide) (by decide) (dk_X7_isTape 4 _ rfl) ?_ ?_
                                  · refine jCt_of ok_X7_in (fun _ _ => Nat.le_of_ble_eq_true rfl) (fun _ _ hq => by rw [hq.2]; first | exact Nat.le_refl _ | simp) ?_
                                    show J _ _ _ _ _ _ _ _ [(0, .ref 0), (1, .int 4), (2, .int 0), (3, .int 5)] _ _ _
                                    refine J_iload_n (i := 1) (a := 1) rfl rfl (dk_X7_in 0 _ rfl) ?_
                                    refine J_iload_n (i := 2) (a := 2) rfl rfl (dk_X7_in 1 _ rfl) ?_
                                    refine J_icF (tgt := 14) (by decide) (dk_X7_in 2 _ rfl) (jI_nlt (by decide : (4 : Int32).toInt = 4) (by decide : (0 : Int32).toInt = 0) (by omega)) ?_
                                    refine J_iload_n (i := 1) (a := 1) rfl rfl (dk_X7_in 5 _ rfl) ?_
                                    refine J_iload_n (i := 3) (a := 3) rfl rfl (dk_X7_in 6 _ rfl) ?_
                                    refine J_icF (tgt := 14) (by decide) (dk_X7_in 7 _ rfl) (jI_nlt (by decide : (5 : Int32).toInt = 5) (by decide : (4 : Int32).toInt = 4) (by omega)) ?_
                                    refine J_iconst (v := 1) (by decide) (dk_X7_in 10 _ rfl) ?_
                                    refine J_goto (tgt := 15) (by decide) (dk_X7_in 11 _ rfl) ?_
                                    exact J_iret rfl rfl (dk_X7_in 15 _ rfl) ⟨rfl, rfl⟩
                                  show J _ _ _ _ _ _ _ _ _ [.int 1] _ _
                                  exact J_iret rfl rfl (dk_X7_isTape 7 _ rfl) ⟨rfl, rfl⟩
                                show J _ _ _ _ _ _ _ _ _ [.int 1] _ _
                                refine J_ifF (tgt := 16) (by decide) (dk_X7_shift 5 _ rfl) (jI_ne (by decide : (1 : Int32).toInt = 1) (by decide : (0 : Int32).toInt = 0) (by omega)) ?_
                                refine J_aload_n (i := 0) (a := 0) rfl rfl (dk_X7_shift 8 _ rfl) ?_
                                refine J_iload_n (i := 3) (a := 3) rfl rfl (dk_X7_shift 9 _ rfl) ?_
                                refine J_cV (rv := some (.int 1)) (h' := hM0) (d' := 11) (As := [.int 4]) ok_X7_isTape vi_X7_isTape cl_7_354 (n := 1) (by decide +kernel) rfl rfl rfl rfl (by decide) (by decide) (dk_X7_shift 10 _ rfl) ?_ ?_
                                · refine jCt_of ok_X7_isTape (fun _ _ => Nat.le_of_ble_eq_true rfl) (fun _ _ hq => by rw [hq.2]; first | exact Nat.le_refl _ | simp) ?_
                                  show J _ _ _ _ _ _ _ _ [(0, .ref 0), (1, .int 4)] _ _ _
                                  refine J_aload_n (i := 0) (a := 0) rfl rfl (dk_X7_isTape 0 _ rfl) ?_
                                  refine J_iload_n (i := 1) (a := 1) rfl rfl (dk_X7_isTape 1 _ rfl) ?_
                                  refine J_iconst (v := 0) (by decide) (dk_X7_isTape 2 _ rfl) ?_
                                  refine J_iconst (v := 5) (by decide) (dk_X7_isTape 3 _ rfl) ?_
                                  refine J_cV (rv := some (.int 1)) (h' := hM0) (d' := 10) (As := [.int 4, .int 0, .int 5]) ok_X7_in vi_X7_in cl_7_194 (n := 3) (by decide +kernel) rfl rfl rfl rfl (by decide) (by decide) (dk_X7_isTape 4 _ rfl) ?_ ?_
                                  · refine jCt_of ok_X7_in (fun _ _ => Nat.le_of_ble_eq_true rfl) (fun _ _ hq => by rw [hq.2]; first | exact Nat.le_refl _ | simp) ?_
                                    show J _ _ _ _ _ _ _ _ [(0, .ref 0), (1, .int 4), (2, .int 0), (3, .int 5)] _ _ _
                                    refine J_iload_n (i := 1) (a := 1) rfl rfl (dk_X7_in 0 _ rfl) ?_
                                    refine J_iload_n (i := 2) (a := 2) rfl rfl (dk_X7_in 1 _ rfl) ?_
                                    refine J_icF (tgt := 14) (by decide) (dk_X7_in 2 _ rfl) (jI_nlt (by decide : (4 : Int32).toInt = 4) (by decide : (0 : Int32).toInt = 0) (by omega)) ?_
                                    refine J_iload_n (i := 1) (a := 1) rfl rfl (dk_X7_in 5 _ rfl) ?_
                                    refine J_iload_n (i := 3) (a := 3) rfl rfl (dk_X7_in 6 _ rfl) ?_
                                    refine J_icF (tgt := 14) (by decide) (dk_X7_in 7 _ rfl) (jI_nlt (by decide : (5 : Int32).toInt = 5) (by decide : (4 : Int32).toInt = 4) (by omega)) ?_
                                    refine J_iconst (v := 1) (by decide) (dk_X7_in 10 _ rfl) ?_
                                    refine J_goto (tgt := 15) (by decide) (dk_X7_in 11 _ rfl) ?_
                                    exact J_iret rfl rfl (dk_X7_in 15 _ rfl) ⟨rfl, rfl⟩
                                  show J _ _ _ _ _ _ _ _ _ [.int 1] _ _
                                  exact J_iret rfl rfl (dk_X7_isTape 7 _ rfl) ⟨rfl, rfl⟩
                                show J _ _ _ _ _ _ _ _ _ [.int 1] _ _
                                refine J_ifT (tgt := 18) (by decide) (dk_X7_shift 13 _ rfl) (jI_ne (by decide : (1 : Int32).toInt = 1) (by decide : (0 : Int32).toInt = 0) (by omega)) ?_
                                refine J_aload_n (i := 0) (a := 0) rfl rfl (dk_X7_shift 18 _ rfl) ?_
                                refine J_getf fl_7_181 rfl rfl (dk_X7_shift 19 _ rfl) ?_
                                refine J_iload_n (i := 1) (a := 1) rfl rfl (dk_X7_shift 22 _ rfl) ?_
                                refine J_iald rfl (by decide) rfl (dk_X7_shift 23 _ rfl) ?_
                                refine J_ifT (tgt := 36) (by decide) (dk_X7_shift 24 _ rfl) (jI_lt (by decide : ((-1) : Int32).toInt = (-1)) (by decide : (0 : Int32).toInt = 0) (by omega)) ?_
                                refine J_bipush (v := (-11)) (by decide) (dk_X7_shift 36 _ rfl) ?_
                                exact J_iret rfl rfl (dk_X7_shift 38 _ rfl) ⟨rfl, rfl⟩
                            · obtain rfl : o = 5 := jI_eq rfl (by decide) (by omega : (o : Int32).toInt = 5)
                              refine ⟨(-11), ?_, ?_⟩
                              · refine jCt_of ok_X6_shift (fun _ _ => Nat.le_of_ble_eq_true rfl) (fun _ _ hq => Nat.le_of_eq (lX.trans hq.2.symm)) ?_
                                show J _ _ _ _ _ _ _ _ [(0, .ref 0), (1, .int 4), (2, .int i), (3, .int 5), (4, .int j), (5, .int n)] _ _ _
                                refine J_iload_n (i := 1) (a := 1) rfl rfl (dk_X6_shift 0 _ rfl) ?_
                                refine J_cS (rv := some (.int 1)) (h' := hN0) (d' := 11) (As := [.int 4]) ok_X6_isTape st_X6_isTape cl_6_220 rfl (n := 1) (by decide +kernel) rfl (by decide) (by decide) (dk_X6_shift 1 _ rfl) ?_ ?_
                                · refine jCt_of ok_X6_isTape (fun _ _ => Nat.le_of_ble_eq_true rfl) (fun _ _ hq => by rw [hq.2]; first | exact Nat.le_refl _ | simp) ?_
                                  show J _ _ _ _ _ _ _ _ [(0, .int 4)] _ _ _
                                  refine J_iload_n (i := 0) (a := 0) rfl rfl (dk_X6_isTape 0 _ rfl) ?_
                                  refine J_ifF (tgt := 14) (by decide) (dk_X6_isTape 1 _ rfl) (jI_nlt (by decide : (4 : Int32).toInt = 4) (by decide : (0 : Int32).toInt = 0) (by omega)) ?_
                                  refine J_iload_n (i := 0) (a := 0) rfl rfl (dk_X6_isTape 4 _ rfl) ?_
                                  refine J_bipush (v := 6) (by decide) (dk_X6_isTape 5 _ rfl) ?_
                                  refine J_icF (tgt := 14) (by decide) (dk_X6_isTape 7 _ rfl) (jI_nle (by decide : (6 : Int32).toInt = 6) (by decide : (4 : Int32).toInt = 4) (by omega)) ?_
                                  refine J_iconst (v := 1) (by decide) (dk_X6_isTape 10 _ rfl) ?_
                                  refine J_goto (tgt := 15) (by decide) (dk_X6_isTape 11 _ rfl) ?_
                                  exact J_iret rfl rfl (dk_X6_isTape 15 _ rfl) ⟨rfl, rfl⟩
                                show J _ _ _ _ _ _ _ _ _ [.int 1] _ _
                                refine J_ifF (tgt := 14) (by decide) (dk_X6_shift 4 _ rfl) (jI_ne (by decide : (1 : Int32).toInt = 1) (by decide : (0 : Int32).toInt = 0) (by omega)) ?_
                                refine J_iload_n (i := 3) (a := 3) rfl rfl (dk_X6_shift 7 _ rfl) ?_
                                refine J_cS (rv := some (.int 1)) (h' := hN0) (d' := 11) (As := [.int 5]) ok_X6_isTape st_X6_isTape cl_6_220 rfl (n := 1) (by decide +kernel) rfl (by decide) (by decide) (dk_X6_shift 8 _ rfl) ?_ ?_
                                · refine jCt_of ok_X6_isTape (fun _ _ => Nat.le_of_ble_eq_true rfl) (fun _ _ hq => by rw [hq.2]; first | exact Nat.le_refl _ | simp) ?_
                                  show J _ _ _ _ _ _ _ _ [(0, .int 5)] _ _ _
                                  refine J_iload_n (i := 0) (a := 0) rfl rfl (dk_X6_isTape 0 _ rfl) ?_
                                  refine J_ifF (tgt := 14) (by decide) (dk_X6_isTape 1 _ rfl) (jI_nlt (by decide : (5 : Int32).toInt = 5) (by decide : (0 : Int32).toInt = 0) (by omega)) ?_
                                  refine J_iload_n (i := 0) (a := 0) rfl rfl (dk_X6_isTape 4 _ rfl) ?_
                                  refine J_bipush (v := 6) (by decide) (dk_X6_isTape 5 _ rfl) ?_
                                  refine J_icF (tgt := 14) (by decide) (dk_X6_isTape 7 _ rfl) (jI_nle (by decide : (6 : Int32).toInt = 6) (by decide : (5 : Int32).toInt = 5) (by omega)) ?_
                                  refine J_iconst (v := 1) (by decide) (dk_X6_isTape 10 _ rfl) ?_
                                  refine J_goto (tgt := 15) (by decide) (dk_X6_isTape 11 _ rfl) ?_
                                  exact J_iret rfl rfl (dk_X6_isTape 15 _ rfl) ⟨rfl, rfl⟩
                                show J _ _ _ _ _ _ _ _ _ [.int 1] _ _
                                refine J_ifT (tgt := 16) (by decide) (dk_X6_shift 11 _ rfl) (jI_ne (by decide : (1 : Int32).toInt = 1) (by decide : (0 : Int32).toInt = 0) (by omega)) ?_
                                refine J_aload_n (i := 0) (a := 0) rfl rfl (dk_X6_shift 16 _ rfl) ?_
                                refine J_getf fl_6_37 rfl rfl (dk_X6_shift 17 _ rfl) ?_
                                refine J_iload_n (i := 1) (a := 1) rfl rfl (dk_X6_shift 20 _ rfl) ?_
                                refine J_aald (by decide) rfl (by decide) rfl (dk_X6_shift 21 _ rfl) ?_
                                refine J_astore (i := 6) (by decide) (dk_X6_shift 22 _ rfl) ?_
                                show J _ _ _ _ _ _ _ _ [(6, .ref 90), (0, .ref 0), (1, .int 4), (2, .int i), (3, .int 5), (4, .int j), (5, .int n)] _ _ _
                                refine J_aload_n (i := 0) (a := 0) rfl rfl (dk_X6_shift 24 _ rfl) ?_
                                refine J_getf fl_6_37 rfl rfl (dk_X6_shift 25 _ rfl) ?_
                                refine J_iload_n (i := 3) (a := 3) rfl rfl (dk_X6_shift 28 _ rfl) ?_
                                refine J_aald (by decide) rfl (by decide) rfl (dk_X6_shift 29 _ rfl) ?_
                                refine J_astore (i := 7) (by decide) (dk_X6_shift 30 _ rfl) ?_
                                show J _ _ _ _ _ _ _ _ [(7, .ref 92), (6, .ref 90), (0, .ref 0), (1, .int 4), (2, .int i), (3, .int 5), (4, .int j), (5, .int n)] _ _ _
                                refine J_aload (i := 6) rfl (dk_X6_shift 32 _ rfl) ?_
                                refine J_getf fl_6_223 rfl rfl (dk_X6_shift 34 _ rfl) ?_
                                refine J_iconst (v := (-1)) (by decide) (dk_X6_shift 37 _ rfl) ?_
                                refine J_icT (tgt := 50) (by decide) (dk_X6_shift 38 _ rfl) (jI_eq (by decide : ((-1) : Int32).toInt = (-1)) (by decide : ((-1) : Int32).toInt = (-1)) (by omega)) ?_
                                refine J_bipush (v := (-11)) (by decide) (dk_X6_shift 50 _ rfl) ?_
                                exact J_iret rfl rfl (dk_X6_shift 52 _ rfl) ⟨rfl, rfl⟩
                              · refine jCt_of ok_X7_shift (fun _ _ => Nat.le_of_ble_eq_true rfl) (fun _ _ hq => Nat.le_of_eq (lM.trans hq.2.symm)) ?_
                                show J _ _ _ _ _ _ _ _ [(0, .ref 0), (1, .int 4), (2, .int i), (3, .int 5), (4, .int j), (5, .int n)] _ _ _
                                refine J_aload_n (i := 0) (a := 0) rfl rfl (dk_X7_shift 0 _ rfl) ?_
                                refine J_iload_n (i := 1) (a := 1) rfl rfl (dk_X7_shift 1 _ rfl) ?_
                                refine J_cV (rv := some (.int 1)) (h' := hM0) (d' := 11) (As := [.int 4]) ok_X7_isTape vi_X7_isTape cl_7_354 (n := 1) (by decide +kernel) rfl rfl rfl rfl (by decide) (by decide) (dk_X7_shift 2 _ rfl) ?_ ?_
                                · refine jCt_of ok_X7_isTape (fun _ _ => Nat.le_of_ble_eq_true rfl) (fun _ _ hq => by rw [hq.2]; first | exact Nat.le_refl _ | simp) ?_
                                  show J _ _ _ _ _ _ _ _ [(0, .ref 0), (1, .int 4)] _ _ _
                                  refine J_aload_n (i := 0) (a := 0) rfl rfl (dk_X7_isTape 0 _ rfl) ?_
                                  refine J_iload_n (i := 1) (a := 1) rfl rfl (dk_X7_isTape 1 _ rfl) ?_
                                  refine J_iconst (v := 0) (by decide) (dk_X7_isTape 2 _ rfl) ?_
                                  refine J_iconst (v := 5) (by decide) (dk_X7_isTape 3 _ rfl) ?_
                                  refine J_cV (rv := some (.int 1)) (h' := hM0) (d' := 10) (As := [.int 4, .int 0, .int 5]) ok_X7_in vi_X7_in cl_7_194 (n := 3) (by decide +kernel) rfl rfl rfl rfl (by decide) (by decide) (dk_X7_isTape 4 _ rfl) ?_ ?_
                                  · refine jCt_of ok_X7_in (fun _ _ => Nat.le_of_ble_eq_true rfl) (fun _ _ hq => by rw [hq.2]; first | exact Nat.le_refl _ | simp) ?_
                                    show J _ _ _ _ _ _ _ _ [(0, .ref 0), (1, .int 4), (2, .int 0), (3, .int 5)] _ _ _
                                    refine J_iload_n (i := 1) (a := 1) rfl rfl (dk_X7_in 0 _ rfl) ?_
                                    refine J_iload_n (i := 2) (a := 2) rfl rfl (dk_X7_in 1 _ rfl) ?_
                                    refine J_icF (tgt := 14) (by decide) (dk_X7_in 2 _ rfl) (jI_nlt (by decide : (4 : Int32).toInt = 4) (by decide : (0 : Int32).toInt = 0) (by omega)) ?_
                                    refine J_iload_n (i := 1) (a := 1) rfl rfl (dk_X7_in 5 _ rfl) ?_
                                    refine J_iload_n (i := 3) (a := 3) rfl rfl (dk_X7_in 6 _ rfl) ?_
                                    refine J_icF (tgt := 14) (by decide) (dk_X7_in 7 _ rfl) (jI_nlt (by decide : (5 : Int32).toInt = 5) (by decide : (4 : Int32).toInt = 4) (by omega)) ?_
                                    refine J_iconst (v := 1) (by decide) (dk_X7_in 10 _ rfl) ?_
                                    refine J_goto (tgt := 15) (by decide) (dk_X7_in 11 _ rfl) ?_
                                    exact J_iret rfl rfl (dk_X7_in 15 _ rfl) ⟨rfl, rfl⟩
                                  show J _ _ _ _ _ _ _ _ _ [.int 1] _ _
                                  exact J_iret rfl rfl (dk_X7_isTape 7 _ rfl) ⟨rfl, rfl⟩
                                show J _ _ _ _ _ _ _ _ _ [.int 1] _ _
                                refine J_ifF (tgt := 16) (by decide) (dk_X7_shift 5 _ rfl) (jI_ne (by decide : (1 : Int32).toInt = 1) (by decide : (0 : Int32).toInt = 0) (by omega)) ?_
                                refine J_aload_n (i := 0) (a := 0) rfl rfl (dk_X7_shift 8 _ rfl) ?_
                                refine J_iload_n (i := 3) (a := 3) rfl rfl (dk_X7_shift 9 _ rfl) ?_
                                refine J_cV (rv := some (.int 1)) (h' := hM0) (d' := 11) (As := [.int 5]) ok_X7_isTape vi_X7_isTape cl_7_354 (n := 1) (by decide +kernel) rfl rfl rfl rfl (by decide) (by decide) (dk_X7_shift 10 _ rfl) ?_ ?_
                                · refine jCt_of ok_X7_isTape (fun _ _ => Nat.le_of_ble_eq_true rfl) (fun _ _ hq => by rw [hq.2]; first | exact Nat.le_refl _ | simp) ?_
                                  show J _ _ _ _ _ _ _ _ [(0, .ref 0), (1, .int 5)] _ _ _
                                  refine J_aload_n (i := 0) (a := 0) rfl rfl (dk_X7_isTape 0 _ rfl) ?_
                                  refine J_iload_n (i := 1) (a := 1) rfl rfl (dk_X7_isTape 1 _ rfl) ?_
                                  refine J_iconst (v := 0) (by decide) (dk_X7_isTape 2 _ rfl) ?_
                                  refine J_iconst (v := 5) (by decide) (dk_X7_isTape 3 _ rfl) ?_
                                  refine J_cV (rv := some (.int 1)) (h' := hM0) (d' := 10) (As := [.int 5, .int 0, .int 5]) ok_X7_in vi_X7_in cl_7_194 (n := 3) (by decide +kernel) rfl rfl rfl rfl (by decide) (by decide) (dk_X7_isTape 4 _ rfl) ?_ ?_
                                  · refine jCt_of ok_X7_in (fun _ _ => Nat.le_of_ble_eq_true rfl) (fun _ _ hq => by rw [hq.2]; first | exact Nat.le_refl _ | simp) ?_
                                    show J _ _ _ _ _ _ _ _ [(0, .ref 0), (1, .int 5), (2, .int 0), (3, .int 5)] _ _ _
                                    refine J_iload_n (i := 1) (a := 1) rfl rfl (dk_X7_in 0 _ rfl) ?_
                                    refine J_iload_n (i := 2) (a := 2) rfl rfl (dk_X7_in 1 _ rfl) ?_
                                    refine J_icF (tgt := 14) (by decide) (dk_X7_in 2 _ rfl) (jI_nlt (by decide : (5 : Int32).toInt = 5) (by decide : (0 : Int32).toInt = 0) (by omega)) ?_
                                    refine J_iload_n (i := 1) (a := 1) rfl rfl (dk_X7_in 5 _ rfl) ?_
                                    refine J_iload_n (i := 3) (a := 3) rfl rfl (dk_X7_in 6 _ rfl) ?_
                                    refine J_icF (tgt := 14) (by decide) (dk_X7_in 7 _ rfl) (jI_nlt (by decide : (5 : Int32).toInt = 5) (by decide : (5 : Int32).toInt = 5) (by omega)) ?_
                                    refine J_iconst (v := 1) (by decide) (dk_X7_in 10 _ rfl) ?_
                                    refine J_goto (tgt := 15) (by decide) (dk_X7_in 11 _ rfl) ?_
                                    exact J_iret rfl rfl (dk_X7_in 15 _ rfl) ⟨rfl, rfl⟩
                                  show J _ _ _ _ _ _ _ _ _ [.int 1] _ _
                                  exact J_iret rfl rfl (dk_X7_isTape 7 _ rfl) ⟨rfl, rfl⟩
                                show J _ _ _ _ _ _ _ _ _ [.int 1] _ _
                                refine J_ifT (tgt := 18) (by decide) (dk_X7_shift 13 _ rfl) (jI_ne (by decide : (1 : Int32).toInt = 1) (by decide : (0 : Int32).toInt = 0) (by omega)) ?_
                                refine J_aload_n (i := 0) (a := 0) rfl rfl (dk_X7_shift 18 _ rfl) ?_
                                refine J_getf fl_7_181 rfl rfl (dk_X7_shift 19 _ rfl) ?_
                                refine J_iload_n (i := 1) (a := 1) rfl rfl (dk_X7_shift 22 _ rfl) ?_
                                refine J_iald rfl (by decide) rfl (dk_X7_shift 23 _ rfl) ?_
                                refine J_ifT (tgt := 36) (by decide) (dk_X7_shift 24 _ rfl) (jI_lt (by decide : ((-1) : Int32).toInt = (-1)) (by decide : (0 : Int32).toInt = 0) (by omega)) ?_
                                refine J_bipush (v := (-11)) (by decide) (dk_X7_shift 36 _ rfl) ?_
                                exact J_iret rfl rfl (dk_X7_shift 38 _ rfl) ⟨rfl, rfl⟩
                  · obtain rfl : t = 5 := jI_eq rfl (by decide) (by omega : (t : Int32).toInt = 5)
                    by_cases c41 : (o : Int32).toInt = 0
                    · obtain rfl : o = 0 := jI_eq rfl (by decide) c41
                      refine ⟨(-11), ?_, ?_⟩
                      · refine jCt_of ok_X6_shift (fun _ _ => Nat.le_of_ble_eq_true rfl) (fun _ _ hq => Nat.le_of_eq (lX.trans hq.2.symm)) ?_
                        show J _ _ _ _ _ _ _ _ [(0, .ref 0), (1, .int 5), (2, .int i), (3, .int 0), (4, .int j), (5, .int n)] _ _ _
                        refine J_iload_n (i := 1) (a := 1) rfl rfl (dk_X6_shift 0 _ rfl) ?_
                        refine J_cS (rv := some (.int 1)) (h' := hN0) (d' := 11) (As := [.int 5]) ok_X6_isTape st_X6_isTape cl_6_220 rfl (n := 1) (by decide +kernel) rfl (by decide) (by decide) (dk_X6_shift 1 _ rfl) ?_ ?_
                        · refine jCt_of ok_X6_isTape (fun _ _ => Nat.le_of_ble_eq_true rfl) (fun _ _ hq => by rw [hq.2]; first | exact Nat.le_refl _ | simp) ?_
                          show J _ _ _ _ _ _ _ _ [(0, .int 5)] _ _ _
                          refine J_iload_n (i := 0) (a := 0) rfl rfl (dk_X6_isTape 0 _ rfl) ?_
                          refine J_ifF (tgt := 14) (by decide) (dk_X6_isTape 1 _ rfl) (jI_nlt (by decide : (5 : Int32).toInt = 5) (by decide : (0 : Int32).toInt = 0) (by omega)) ?_
                          refine J_iload_n (i := 0) (a := 0) rfl rfl (dk_X6_isTape 4 _ rfl) ?_
                          refine J_bipush (v := 6) (by decide) (dk_X6_isTape 5 _ rfl) ?_
                          refine J_icF (tgt := 14) (by decide) (dk_X6_isTape 7 _ rfl) (jI_nle (by decide : (6 : Int32).toInt = 6) (by decide : (5 : Int32).toInt = 5) (by omega)) ?_
                          refine J_iconst (v := 1) (by decide) (dk_X6_isTape 10 _ rfl) ?_
                          refine J_goto (tgt := 15) (by decide) (dk_X6_isTape 11 _ rfl) ?_
                          exact J_iret rfl rfl (dk_X6_isTape 15 _ rfl) ⟨rfl, rfl⟩
                        show J _ _ _ _ _ _ _ _ _ [.int 1] _ _
                        refine J_ifF (tgt := 14) (by decide) (dk_X6_shift 4 _ rfl) (jI_ne (by decide : (1 : Int32).toInt = 1) (by decide : (0 : Int32).toInt = 0) (by omega)) ?_
                        refine J_iload_n (i := 3) (a := 3) rfl rfl (dk_X6_shift 7 _ rfl) ?_
                        refine J_cS (rv := some (.int 1)) (h' := hN0) (d' := 11) (As := [.int 0]) ok_X6_isTape st_X6_isTape cl_6_220 rfl (n := 1) (by decide +kernel) rfl (by decide) (by decide) (dk_X6_shift 8 _ rfl) ?_ ?_
                        · refine jCt_of ok_X6_isTape (fun _ _ => Nat.le_of_ble_eq_true rfl) (fun _ _ hq => by rw [hq.2]; first | exact Nat.le_refl _ | simp) ?_
                          show J _ _ _ _ _ _ _ _ [(0, .int 0)] _ _ _
                          refine J_iload_n (i := 0) (a := 0) rfl rfl (dk_X6_isTape 0 _ rfl) ?_
                          refine J_ifF (tgt := 14) (by decide) (dk_X6_isTape 1 _ rfl) (jI_nlt (by decide : (0 : Int32).toInt = 0) (by decide : (0 : Int32).toInt = 0) (by omega)) ?_
                          refine J_iload_n (i := 0) (a := 0) rfl rfl (dk_X6_isTape 4 _ rfl) ?_
                          refine J_bipush (v := 6) (by decide) (dk_X6_isTape 5 _ rfl) ?_
                          refine J_icF (tgt := 14) (by decide) (dk_X6_isTape 7 _ rfl) (jI_nle (by decide : (6 : Int32).toInt = 6) (by decide : (0 : Int32).toInt = 0) (by omega)) ?_
                          refine J_iconst (v := 1) (by decide) (dk_X6_isTape 10 _ rfl) ?_
                          refine J_goto (tgt := 15) (by decide) (dk_X6_isTape 11 _ rfl) ?_
                          exact J_iret rfl rfl (dk_X6_isTape 15 _ rfl) ⟨rfl, rfl⟩
                        show J _ _ _ _ _ _ _ _ _ [.int 1] _ _
                        refine J_ifT (tgt := 16) (by decide) (dk_X6_shift 11 _ rfl) (jI_ne (by decide : (1 : Int32).toInt = 1) (by decide : (0 : Int32).toInt = 0) (by omega)) ?_
                        refine J_aload_n (i := 0) (a := 0) rfl rfl (dk_X6_shift 16 _ rfl) ?_
                        refine J_getf fl_6_37 rfl rfl (dk_X6_shift 17 _ rfl) ?_
                        refine J_iload_n (i := 1) (a := 1) rfl rfl (dk_X6_shift 20 _ rfl) ?_
                        refine J_aald (by decide) rfl (by decide) rfl (dk_X6_shift 21 _ rfl) ?_
                        refine J_astore (i := 6) (by decide) (dk_X6_shift 22 _ rfl) ?_
                        show J _ _ _ _ _ _ _ _ [(6, .ref 92), (0, .ref 0), (1, .int 5), (2, .int i), (3, .int 0), (4, .int j), (5, .int n)] _ _ _
                        refine J_aload_n (i := 0) (a := 0) rfl rfl (dk_X6_shift 24 _ rfl) ?_
                        refine J_getf fl_6_37 rfl rfl (dk_X6_shift 25 _ rfl) ?_
                        refine J_iload_n (i := 3) (a := 3) rfl rfl (dk_X6_shift 28 _ rfl) ?_
                        refine J_aald (by decide) rfl (by decide) rfl (dk_X6_shift 29 _ rfl) ?_
                        refine J_astore (i := 7) (by decide) (dk_X6_shift 30 _ rfl) ?_
                        show J _ _ _ _ _ _ _ _ [(7, .ref 82), (6, .ref 92), (0, .ref 0), (1, .int 5), (2, .int i), (3, .int 0), (4, .int j), (5, .int n)] _ _ _
                        refine J_aload (i := 6) rfl (dk_X6_shift 32 _ rfl) ?_
                        refine J_getf fl_6_223 rfl rfl (dk_X6_shift 34 _ rfl) ?_
                        refine J_iconst (v := (-1)) (by decide) (dk_X6_shift 37 _ rfl) ?_
                        refine J_icT (tgt := 50) (by decide) (dk_X6_shift 38 _ rfl) (jI_eq (by decide : ((-1) : Int32).toInt = (-1)) (by decide : ((-1) : Int32).toInt = (-1)) (by omega)) ?_
                        refine J_bipush (v := (-11)) (by decide) (dk_X6_shift 50 _ rfl) ?_
                        exact J_iret rfl rfl (dk_X6_shift 52 _ rfl) ⟨rfl, rfl⟩
                      · refine jCt_of ok_X7_shift (fun _ _ => Nat.le_of_ble_eq_true rfl) (fun _ _ hq => Nat.le_of_eq (lM.trans hq.2.symm)) ?_
                        show J _ _ _ _ _ _ _ _ [(0, .ref 0), (1, .int 5), (2, .int i), (3, .int 0), (4, .int j), (5, .int n)] _ _ _
                        refine J_aload_n (i := 0) (a := 0) rfl rfl (dk_X7_shift 0 _ rfl) ?_
                        refine J_iload_n (i := 1) (a := 1) rfl rfl (dk_X7_shift 1 _ rfl) ?_
                        refine J_cV (rv := some (.int 1)) (h' := hM0) (d' := 11) (As := [.int 5]) ok_X7_isTape vi_X7_isTape cl_7_354 (n := 1) (by decide +kernel) rfl rfl rfl rfl (by decide) (by decide) (dk_X7_shift 2 _ rfl) ?_ ?_
                        · refine jCt_of ok_X7_isTape (fun _ _ => Nat.le_of_ble_eq_true rfl) (fun _ _ hq => by rw [hq.2]; first | exact Nat.le_refl _ | simp) ?_
                          show J _ _ _ _ _ _ _ _ [(0, .ref 0), (1, .int 5)] _ _ _
                          refine J_aload_n (i := 0) (a := 0) rfl rfl (dk_X7_isTape 0 _ rfl) ?_
                          refine J_iload_n (i := 1) (a := 1) rfl rfl (dk_X7_isTape 1 _ rfl) ?_
                          refine J_iconst (v := 0) (by decide) (dk_X7_isTape 2 _ rfl) ?_
                          refine J_iconst (v := 5) (by decide) (dk_X7_isTape 3 _ rfl) ?_
                          refine J_cV (rv := some (.int 1)) (h' := hM0) (d' := 10) (As := [.int 5, .int 0, .int 5]) ok_X7_in vi_X7_in cl_7_194 (n := 3) (by decide +kernel) rfl rfl rfl rfl (by decide) (by decide) (dk_X7_isTape 4 _ rfl) ?_ ?_
                          · refine jCt_of ok_X7_in (fun _ _ => Nat.le_of_ble_eq_true rfl) (fun _ _ hq => by rw [hq.2]; first | exact Nat.le_refl _ | simp) ?_
                            show J _ _ _ _ _ _ _ _ [(0, .ref 0), (1, .int 5), (2, .int 0), (3, .int 5)] _ _ _
                            refine J_iload_n (i := 1) (a := 1) rfl rfl (dk_X7_in 0 _ rfl) ?_
                            refine J_iload_n (i := 2) (a := 2) rfl rfl (dk_X7_in 1 _ rfl) ?_
                            refine J_icF (tgt := 14) (by decide) (dk_X7_in 2 _ rfl) (jI_nlt (by decide : (5 : Int32).toInt = 5) (by decide : (0 : Int32).toInt = 0) (by omega)) ?_
                            refine J_iload_n (i := 1) (a := 1) rfl rfl (dk_X7_in 5 _ rfl) ?_
                            refine J_iload_n (i := 3) (a := 3) rfl rfl (dk_X7_in 6 _ rfl) ?_
                            refine J_icF (tgt := 14) (by decide) (dk_X7_in 7 _ rfl) (jI_nlt (by decide : (5 : Int32).toInt = 5) (by decide : (5 : Int32).toInt = 5) (by omega)) ?_
                            refine J_iconst (v := 1) (by decide) (dk_X7_in 10 _ rfl) ?_
                            refine J_goto (tgt := 15) (by decide) (dk_X7_in 11 _ rfl) ?_
                            exact J_iret rfl rfl (dk_X7_in 15 _ rfl) ⟨rfl, rfl⟩
                          show J _ _ _ _ _ _ _ _ _ [.int 1] _ _
                          exact J_iret rfl rfl (dk_X7_isTape 7 _ rfl) ⟨rfl, rfl⟩
                        show J _ _ _ _ _ _ _ _ _ [.int 1] _ _
                        refine J_ifF (tgt := 16) (by decide) (dk_X7_shift 5 _ rfl) (jI_ne (by decide : (1 : Int32).toInt = 1) (by decide : (0 : Int32).toInt = 0) (by omega)) ?_
                        refine J_aload_n (i := 0) (a := 0) rfl rfl (dk_X7_shift 8 _ rfl) ?_
                        refine J_iload_n (i := 3) (a := 3) rfl rfl (dk_X7_shift 9 _ rfl) ?_
                        refine J_cV (rv := some (.int 1)) (h' := hM0) (d' := 11) (As := [.int 0]) ok_X7_isTape vi_X7_isTape cl_7_354 (n := 1) (by decide +kernel) rfl rfl rfl rfl (by decide) (by decide) (dk_X7_shift 10 _ rfl) ?_ ?_
                        · refine jCt_of ok_X7_isTape (fun _ _ => Nat.le_of_ble_eq_true rfl) (fun _ _ hq => by rw [hq.2]; first | exact Nat.le_refl _ | simp) ?_
                          show J _ _ _ _ _ _ _ _ [(0, .ref 0), (1, .int 0)] _ _ _
                          refine J_aload_n (i := 0) (a := 0) rfl rfl (dk_X7_isTape 0 _ rfl) ?_
                          refine J_iload_n (i := 1) (a := 1) rfl rfl (dk_X7_isTape 1 _ rfl) ?_
                          refine J_iconst (v := 0) (by decide) (dk_X7_isTape 2 _ rfl) ?_
                          refine J_iconst (v := 5) (by decide) (dk_X7_isTape 3 _ rfl) ?_
                          refine J_cV (rv := some (.int 1)) (h' := hM0) (d' := 10) (As := [.int 0, .int 0, .int 5]) ok_X7_in vi_X7_in cl_7_194 (n := 3) (by decide +kernel) rfl rfl rfl rfl (by decide) (by decide) (dk_X7_isTape 4 _ rfl) ?_ ?_
                          · refine jCt_of ok_X7_in (fun _ _ => Nat.le_of_ble_eq_true rfl) (fun _ _ hq => by rw [hq.2]; first | exact Nat.le_refl _ | simp) ?_
                            show J _ _ _ _ _ _ _ _ [(0, .ref 0), (1, .int 0), (2, .int 0), (3, .int 5)] _ _ _
                            refine J_iload_n (i := 1) (a := 1) rfl rfl (dk_X7_in 0 _ rfl) ?_
                            refine J_iload_n (i := 2) (a := 2) rfl rfl (dk_X7_in 1 _ rfl) ?_
                            refine J_icF (tgt := 14) (by decide) (dk_X7_in 2 _ rfl) (jI_nlt (by decide : (0 : Int32).toInt = 0) (by decide : (0 : Int32).toInt = 0) (by omega)) ?_
                            refine J_iload_n (i := 1) (a := 1) rfl rfl (dk_X7_in 5 _ rfl) ?_
                            refine J_iload_n (i := 3) (a := 3) rfl rfl (dk_X7_in 6 _ rfl) ?_
                            refine J_icF (tgt := 14) (by decide) (dk_X7_in 7 _ rfl) (jI_nlt (by decide : (5 : Int32).toInt = 5) (by decide : (0 : Int32).toInt = 0) (by omega)) ?_
                            refine J_iconst (v := 1) (by decide) (dk_X7_in 10 _ rfl) ?_
                            refine J_goto (tgt := 15) (by decide) (dk_X7_in 11 _ rfl) ?_
                            exact J_iret rfl rfl (dk_X7_in 15 _ rfl) ⟨rfl, rfl⟩
                          show J _ _ _ _ _ _ _ _ _ [.int 1] _ _
                          exact J_iret rfl rfl (dk_X7_isTape 7 _ rfl) ⟨rfl, rfl⟩
                        show J _ _ _ _ _ _ _ _ _ [.int 1] _ _
                        refine J_ifT (tgt := 18) (by decide) (dk_X7_shift 13 _ rfl) (jI_ne (by decide : (1 : Int32).toInt = 1) (by decide : (0 : Int32).toInt = 0) (by omega)) ?_
                        refine J_aload_n (i := 0) (a := 0) rfl rfl (dk_X7_shift 18 _ rfl) ?_
                        refine J_getf fl_7_181 rfl rfl (dk_X7_shift 19 _ rfl) ?_
                        refine J_iload_n (i := 1) (a := 1) rfl rfl (dk_X7_shift 22 _ rfl) ?_
                        refine J_iald rfl (by decide) rfl (dk_X7_shift 23 _ rfl) ?_
                        refine J_ifT (tgt := 36) (by decide) (dk_X7_shift 24 _ rfl) (jI_lt (by decide : ((-1) : Int32).toInt = (-1)) (by decide : (0 : Int32).toInt = 0) (by omega)) ?_
                        refine J_bipush (v := (-11)) (by decide) (dk_X7_shift 36 _ rfl) ?_
                        exact J_iret rfl rfl (dk_X7_shift 38 _ rfl) ⟨rfl, rfl⟩
                    · by_cases c42 : (o : Int32).toInt = 1
                      · obtain rfl : o = 1 := jI_eq rfl (by decide) c42
                        refine ⟨(-11), ?_, ?_⟩
                        · refine jCt_of ok_X6_shift (fun _ _ => Nat.le_of_ble_eq_true rfl) (fun _ _ hq => Nat.le_of_eq (lX.trans hq.2.symm)) ?_
                          show J _ _ _ _ _ _ _ _ [(0, .ref 0), (1, .int 5), (2, .int i), (3, .int 1), (4, .int j), (5, .int n)] _ _ _
                          refine J_iload_n (i := 1) (a := 1) rfl rfl (dk_X6_shift 0 _ rfl) ?_
                          refine J_cS (rv := some (.int 1)) (h' := hN0) (d' := 11) (As := [.int 5]) ok_X6_isTape st_X6_isTape cl_6_220 rfl (n := 1) (by decide +kernel) rfl (by decide) (by decide) (dk_X6_shift 1 _ rfl) ?_ ?_
                          · refine jCt_of ok_X6_isTape (fun _ _ => Nat.le_of_ble_eq_true rfl) (fun _ _ hq => by rw [hq.2]; first | exact Nat.le_refl _ | simp) ?_
                            show J _ _ _ _ _ _ _ _ [(0, .int 5)] _ _ _
                            refine J_iload_n (i := 0) (a := 0) rfl rfl (dk_X6_isTape 0 _ rfl) ?_
                            refine J_ifF (tgt := 14) (by decide) (dk_X6_isTape 1 _ rfl) (jI_nlt (by decide : (5 : Int32).toInt = 5) (by decide : (0 : Int32).toInt = 0) (by omega)) ?_
                            refine J_iload_n (i := 0) (a := 0) rfl rfl (dk_X6_isTape 4 _ rfl) ?_
                            refine J_bipush (v := 6) (by decide) (dk_X6_isTape 5 _ rfl) ?_
                            refine J_icF (tgt := 14) (by decide) (dk_X6_isTape 7 _ rfl) (jI_nle (by decide : (6 : Int32).toInt = 6) (by decide : (5 : Int32).toInt = 5) (by omega)) ?_
                            refine J_iconst (v := 1) (by decide) (dk_X6_isTape 10 _ rfl) ?_
                            refine J_goto (tgt := 15) (by decide) (dk_X6_isTape 11 _ rfl) ?_
                            exact J_iret rfl rfl (dk_X6_isTape 15 _ rfl) ⟨rfl, rfl⟩
                          show J _ _ _ _ _ _ _ _ _ [.int 1] _ _
                          refine J_ifF (tgt := 14) (by decide) (dk_X6_shift 4 _ rfl) (jI_ne (by decide : (1 : Int32).toInt = 1) (by decide : (0 : Int32).toInt = 0) (by omega)) ?_
                          refine J_iload_n (i := 3) (a := 3) rfl rfl (dk_X6_shift 7 _ rfl) ?_
                          refine J_cS (rv := some (.int 1)) (h' := hN0) (d' := 11) (As := [.int 1]) ok_X6_isTape st_X6_isTape cl_6_220 rfl (n := 1) (by decide +kernel) rfl (by decide) (by decide) (dk_X6_shift 8 _ rfl) ?_ ?_
                          · refine jCt_of ok_X6_isTape (fun _ _ => Nat.le_of_ble_eq_true rfl) (fun _ _ hq => by rw [hq.2]; first | exact Nat.le_refl _ | simp) ?_
                            show J _ _ _ _ _ _ _ _ [(0, .int 1)] _ _ _
                            refine J_iload_n (i := 0) (a := 0) rfl rfl (dk_X6_isTape 0 _ rfl) ?_
                            refine J_ifF (tgt := 14) (by decide) (dk_X6_isTape 1 _ rfl) (jI_nlt (by decide : (1 : Int32).toInt = 1) (by decide : (0 : Int32).toInt = 0) (by omega)) ?_
                            refine J_iload_n (i := 0) (a := 0) rfl rfl (dk_X6_isTape 4 _ rfl) ?_
                            refine J_bipush (v := 6) (by decide) (dk_X6_isTape 5 _ rfl) ?_
                            refine J_icF (tgt := 14) (by decide) (dk_X6_isTape 7 _ rfl) (jI_nle (by decide : (6 : Int32).toInt = 6) (by decide : (1 : Int32).toInt = 1) (by omega)) ?_
                            refine J_iconst (v := 1) (by decide) (dk_X6_isTape 10 _ rfl) ?_
                            refine J_goto (tgt := 15) (by decide) (dk_X6_isTape 11 _ rfl) ?_
                            exact J_iret rfl rfl (dk_X6_isTape 15 _ rfl) ⟨rfl, rfl⟩
                          show J _ _ _ _ _ _ _ _ _ [.int 1] _ _
                          refine J_ifT (tgt := 16) (by decide) (dk_X6_shift 11 _ rfl) (jI_ne (by decide : (1 : Int32).toInt = 1) (by decide : (0 : Int32).toInt = 0) (by omega)) ?_
                          refine J_aload_n (i := 0) (a := 0) rfl rfl (dk_X6_shift 16 _ rfl) ?_
                          refine J_getf fl_6_37 rfl rfl (dk_X6_shift 17 _ rfl) ?_
                          refine J_iload_n (i := 1) (a := 1) rfl rfl (dk_X6_shift 20 _ rfl) ?_
                          refine J_aald (by decide) rfl (by decide) rfl (dk_X6_shift 21 _ rfl) ?_
                          refine J_astore (i := 6) (by decide) (dk_X6_shift 22 _ rfl) ?_
                          show J _ _ _ _ _ _ _ _ [(6, .ref 92), (0, .ref 0), (1, .int 5), (2, .int i), (3, .int 1), (4, .int j), (5, .int n)] _ _ _
                          refine J_aload_n (i := 0) (a := 0) rfl rfl (dk_X6_shift 24 _ rfl) ?_
                          refine J_getf fl_6_37 rfl rfl (dk_X6_shift 25 _ rfl) ?_
                          refine J_iload_n (i := 3) (a := 3) rfl rfl (dk_X6_shift 28 _ rfl) ?_
                          refine J_aald (by decide) rfl (by decide) rfl (dk_X6_shift 29 _ rfl) ?_
                          refine J_astore (i := 7) (by decide) (dk_X6_shift 30 _ rfl) ?_
                          show J _ _ _ _ _ _ _ _ [(7, .ref 84), (6, .ref 92), (0, .ref 0), (1, .int 5), (2, .int i), (3, .int 1), (4, .int j), (5, .int n)] _ _ _
                          refine J_aload (i := 6) rfl (dk_X6_shift 32 _ rfl) ?_
                          refine J_getf fl_6_223 rfl rfl (dk_X6_shift 34 _ rfl) ?_
                          refine J_iconst (v := (-1)) (by decide) (dk_X6_shift 37 _ rfl) ?_
                          refine J_icT (tgt := 50) (by decide) (dk_X6_shift 38 _ rfl) (jI_eq (by decide : ((-1) : Int32).toInt = (-1)) (by decide : ((-1) : Int32).toInt = (-1)) (by omega)) ?_
                          refine J_bipush (v := (-11)) (by decide) (dk_X6_shift 50 _ rfl) ?_
                          exact J_iret rfl rfl (dk_X6_shift 52 _ rfl) ⟨rfl, rfl⟩
                        · refine jCt_of ok_X7_shift (fun _ _ => Nat.le_of_ble_eq_true rfl) (fun _ _ hq => Nat.le_of_eq (lM.trans hq.2.symm)) ?_
                          show J _ _ _ _ _ _ _ _ [(0, .ref 0), (1, .int 5), (2, .int i), (3, .int 1), (4, .int j), (5, .int n)] _ _ _
                          refine J_aload_n (i := 0) (a := 0) rfl rfl (dk_X7_shift 0 _ rfl) ?_
                          refine J_iload_n (i := 1) (a := 1) rfl rfl (dk_X7_shift 1 _ rfl) ?_
                          refine J_cV (rv := some (.int 1)) (h' := hM0) (d' := 11) (As := [.int 5]) ok_X7_isTape vi_X7_isTape cl_7_354 (n := 1) (by decide +kernel) rfl rfl rfl rfl (by decide) (by decide) (dk_X7_shift 2 _ rfl) ?_ ?_
                          · refine jCt_of ok_X7_isTape (fun _ _ => Nat.le_of_ble_eq_true rfl) (fun _ _ hq => by rw [hq.2]; first | exact Nat.le_refl _ | simp) ?_
                            show J _ _ _ _ _ _ _ _ [(0, .ref 0), (1, .int 5)] _ _ _
                            refine J_aload_n (i := 0) (a := 0) rfl rfl (dk_X7_isTape 0 _ rfl) ?_
                            refine J_iload_n (i := 1) (a := 1) rfl rfl (dk_X7_isTape 1 _ rfl) ?_
                            refine J_iconst (v := 0) (by decide) (dk_X7_isTape 2 _ rfl) ?_
                            refine J_iconst (v := 5) (by decide) (dk_X7_isTape 3 _ rfl) ?_
                            refine J_cV (rv := some (.int 1)) (h' := hM0) (d' := 10) (As := [.int 5, .int 0, .int 5]) ok_X7_in vi_X7_in cl_7_194 (n := 3) (by decide +kernel) rfl rfl rfl rfl (by decide) (by decide) (dk_X7_isTape 4 _ rfl) ?_ ?_
                            · refine jCt_of ok_X7_in (fun _ _ => Nat.le_of_ble_eq_true rfl) (fun _ _ hq => by rw [hq.2]; first | exact Nat.le_refl _ | simp) ?_
                              show J _ _ _ _ _ _ _ _ [(0, .ref 0), (1, .int 5), (2, .int 0), (3, .int 5)] _ _ _
                              refine J_iload_n (i := 1) (a := 1) rfl rfl (dk_X7_in 0 _ rfl) ?_
                              refine J_iload_n (i := 2) (a := 2) rfl rfl (dk_X7_in 1 _ rfl) ?_
                              refine J_icF (tgt := 14) (by decide) (dk_X7_in 2 _ rfl) (jI_nlt (by decide : (5 : Int32).toInt = 5) (by decide : (0 : Int32).toInt = 0) (by omega)) ?_
                              refine J_iload_n (i := 1) (a := 1) rfl rfl (dk_X7_in 5 _ rfl) ?_
                              refine J_iload_n (i := 3) (a := 3) rfl rfl (dk_X7_in 6 _ rfl) ?_
                              refine J_icF (tgt := 14) (by decide) (dk_X7_in 7 _ rfl) (jI_nlt (by decide : (5 : Int32).toInt = 5) (by decide : (5 : Int32).toInt = 5) (by omega)) ?_
                              refine J_iconst (v := 1) (by decide) (dk_X7_in 10 _ rfl) ?_
                              refine J_goto (tgt := 15) (by decide) (dk_X7_in 11 _ rfl) ?_
                              exact J_iret rfl rfl (dk_X7_in 15 _ rfl) ⟨rfl, rfl⟩
                            show J _ _ _ _ _ _ _ _ _ [.int 1] _ _
                            exact J_iret rfl rfl (dk_X7_isTape 7 _ rfl) ⟨rfl, rfl⟩
                          show J _ _ _ _ _ _ _ _ _ [.int 1] _ _
                          refine J_ifF (tgt := 16) (by decide) (dk_X7_shift 5 _ rfl) (jI_ne (by decide : (1 : Int32).toInt = 1) (by decide : (0 : Int32).toInt = 0) (by omega)) ?_
                          refine J_aload_n (i := 0) (a := 0) rfl rfl (dk_X7_shift 8 _ rfl) ?_
                          refine J_iload_n (i := 3) (a := 3) rfl rfl (dk_X7_shift 9 _ rfl) ?_
                          refine J_cV (rv := some (.int 1)) (h' := hM0) (d' := 11) (As := [.int 1]) ok_X7_isTape vi_X7_isTape cl_7_354 (n := 1) (by decide +kernel) rfl rfl rfl rfl (by decide) (by decide) (dk_X7_shift 10 _ rfl) ?_ ?_
                          · refine jCt_of ok_X7_isTape (fun _ _ => Nat.le_of_ble_eq_true rfl) (fun _ _ hq => by rw [hq.2]; first | exact Nat.le_refl _ | simp) ?_
                            show J _ _ _ _ _ _ _ _ [(0, .ref 0), (1, .int 1)] _ _ _
                            refine J_aload_n (i := 0) (a := 0) rfl rfl (dk_X7_isTape 0 _ rfl) ?_
                            refine J_iload_n (i := 1) (a := 1) rfl rfl (dk_X7_isTape 1 _ rfl) ?_
                            refine J_iconst (v := 0) (by decide) (dk_X7_isTape 2 _ rfl) ?_
                            refine J_iconst (v := 5) (by decide) (dk_X7_isTape 3 _ rfl) ?_
                            refine J_cV (rv := some (.int 1)) (h' := hM0) (d' := 10) (As := [.int 1, .int 0, .int 5]) ok_X7_in vi_X7_in cl_7_194 (n := 3) (by decide +kernel) rfl rfl rfl rfl (by decide) (by decide) (dk_X7_isTape 4 _ rfl) ?_ ?_
                            · refine jCt_of ok_X7_in (fun _ _ => Nat.le_of_ble_eq_true rfl) (fun _ _ hq => by rw [hq.2]; first | exact Nat.le_refl _ | simp) ?_
                              show J _ _ _ _ _ _ _ _ [(0, .ref 0), (1, .int 1), (2, .int 0), (3, .int 5)] _ _ _
                              refine J_iload_n (i := 1) (a := 1) rfl rfl (dk_X7_in 0 _ rfl) ?_
                              refine J_iload_n (i := 2) (a := 2) rfl rfl (dk_X7_in 1 _ rfl) ?_
                              refine J_icF (tgt := 14) (by decide) (dk_X7_in 2 _ rfl) (jI_nlt (by decide : (1 : Int32).toInt = 1) (by decide : (0 : Int32).toInt = 0) (by omega)) ?_
                              refine J_iload_n (i := 1) (a := 1) rfl rfl (dk_X7_in 5 _ rfl) ?_
                              refine J_iload_n (i := 3) (a := 3) rfl rfl (dk_X7_in 6 _ rfl) ?_
                              refine J_icF (tgt := 14) (by decide) (dk_X7_in 7 _ rfl) (jI_nlt (by decide : (5 : Int32).toInt = 5) (by decide : (1 : Int32).toInt = 1) (by omega)) ?_
                              refine J_iconst (v := 1) (by decide) (dk_X7_in 10 _ rfl) ?_
                              refine J_goto (tgt := 15) (by decide) (dk_X7_in 11 _ rfl) ?_
                              exact J_iret rfl rfl (dk_X7_in 15 _ rfl) ⟨rfl, rfl⟩
                            show J _ _ _ _ _ _ _ _ _ [.int 1] _ _
                            exact J_iret rfl rfl (dk_X7_isTape 7 _ rfl) ⟨rfl, rfl⟩
                          show J _ _ _ _ _ _ _ _ _ [.int 1] _ _
                          refine J_ifT (tgt := 18) (by decide) (dk_X7_shift 13 _ rfl) (jI_ne (by decide : (1 : Int32).toInt = 1) (by decide : (0 : Int32).toInt = 0) (by omega)) ?_
                          refine J_aload_n (i := 0) (a := 0) rfl rfl (dk_X7_shift 18 _ rfl) ?_
                          refine J_getf fl_7_181 rfl rfl (dk_X7_shift 19 _ rfl) ?_
                          refine J_iload_n (i := 1) (a := 1) rfl rfl (dk_X7_shift 22 _ rfl) ?_
                          refine J_iald rfl (by decide) rfl (dk_X7_shift 23 _ rfl) ?_
                          refine J_ifT (tgt := 36) (by decide) (dk_X7_shift 24 _ rfl) (jI_lt (by decide : ((-1) : Int32).toInt = (-1)) (by decide : (0 : Int32).toInt = 0) (by omega)) ?_
                          refine J_bipush (v := (-11)) (by decide) (dk_X7_shift 36 _ rfl) ?_
                          exact J_iret rfl rfl (dk_X7_shift 38 _ rfl) ⟨rfl, rfl⟩
                      · by_cases c43 : (o : Int32).toInt = 2
                        · obtain rfl : o = 2 := jI_eq rfl (by decide) c43
                          refine ⟨(-11), ?_, ?_⟩
                          · refine jCt_of ok_X6_shift (fun _ _ => Nat.le_of_ble_eq_true rfl) (fun _ _ hq => Nat.le_of_eq (lX.trans hq.2.symm)) ?_
                            show J _ _ _ _ _ _ _ _ [(0, .ref 0), (1, .int 5), (2, .int i), (3, .int 2), (4, .int j), (5, .int n)] _ _ _
                            refine J_iload_n (i := 1) (a := 1) rfl rfl (dk_X6_shift 0 _ rfl) ?_
                            refine J_cS (rv := some (.int 1)) (h' := hN0) (d' := 11) (As := [.int 5]) ok_X6_isTape st_X6_isTape cl_6_220 rfl (n := 1) (by decide +kernel) rfl (by decide) (by decide) (dk_X6_shift 1 _ rfl) ?_ ?_
                            · refine jCt_of ok_X6_isTape (fun _ _ => Nat.le_of_ble_eq_true rfl) (fun _ _ hq => by rw [hq.2]; first | exact Nat.le_refl _ | simp) ?_
                              show J _ _ _ _ _ _ _ _ [(0, .int 5)] _ _ _
                              refine J_iload_n (i := 0) (a := 0) rfl rfl (dk_X6_isTape 0 _ rfl) ?_
                              refine J_ifF (tgt := 14) (by decide) (dk_X6_isTape 1 _ rfl) (jI_nlt (by decide : (5 : Int32).toInt = 5) (by decide : (0 : Int32).toInt = 0) (by omega)) ?_
                              refine J_iload_n (i := 0) (a := 0) rfl rfl (dk_X6_isTape 4 _ rfl) ?_
                              refine J_bipush (v := 6) (by decide) (dk_X6_isTape 5 _ rfl) ?_
                              refine J_icF (tgt := 14) (by decide) (dk_X6_isTape 7 _ rfl) (jI_nle (by decide : (6 : Int32).toInt = 6) (by decide : (5 : Int32).toInt = 5) (by omega)) ?_
                              refine J_iconst (v := 1) (by decide) (dk_X6_isTape 10 _ rfl) ?_
                              refine J_goto (tgt := 15) (by decide) (dk_X6_isTape 11 _ rfl) ?_
                              exact J_iret rfl rfl (dk_X6_isTape 15 _ rfl) ⟨rfl, rfl⟩
                            show J _ _ _ _ _ _ _ _ _ [.int 1] _ _
                            refine J_ifF (tgt := 14) (by decide) (dk_X6_shift 4 _ rfl) (jI_ne (by decide : (1 : Int32).toInt = 1) (by decide : (0 : Int32).toInt = 0) (by omega)) ?_
                            refine J_iload_n (i := 3) (a := 3) rfl rfl (dk_X6_shift 7 _ rfl) ?_
                            refine J_cS (rv := some (.int 1)) (h' := hN0) (d' := 11) (As := [.int 2]) ok_X6_isTape st_X6_isTape cl_6_220 rfl (n := 1) (by decide +kernel) rfl (by decide) (by decide) (dk_X6_shift 8 _ rfl) ?_ ?_
                            · refine jCt_of ok_X6_isTape (fun _ _ => Nat.le_of_ble_eq_true rfl) (fun _ _ hq => by rw [hq.2]; first | exact Nat.le_refl _ | simp) ?_
                              show J _ _ _ _ _ _ _ _ [(0, .int 2)] _ _ _
                              refine J_iload_n (i := 0) (a := 0) rfl rfl (dk_X6_isTape 0 _ rfl) ?_
                              refine J_ifF (tgt := 14) (by decide) (dk_X6_isTape 1 _ rfl) (jI_nlt (by decide : (2 : Int32).toInt = 2) (by decide : (0 : Int32).toInt = 0) (by omega)) ?_
                              refine J_iload_n (i := 0) (a := 0) rfl rfl (dk_X6_isTape 4 _ rfl) ?_
                              refine J_bipush (v := 6) (by decide) (dk_X6_isTape 5 _ rfl) ?_
                              refine J_icF (tgt := 14) (by decide) (dk_X6_isTape 7 _ rfl) (jI_nle (by decide : (6 : Int32).toInt = 6) (by decide : (2 : Int32).toInt = 2) (by omega)) ?_
                              refine J_iconst (v := 1) (by decide) (dk_X6_isTape 10 _ rfl) ?_
                              refine J_goto (tgt := 15) (by decide) (dk_X6_isTape 11 _ rfl) ?_
                              exact J_iret rfl rfl (dk_X6_isTape 15 _ rfl) ⟨rfl, rfl⟩
                            show J _ _ _ _ _ _ _ _ _ [.int 1] _ _
                            refine J_ifT (tgt := 16) (by decide) (dk_X6_shift 11 _ rfl) (jI_ne (by decide : (1 : Int32).toInt = 1) (by decide : (0 : Int32).toInt = 0) (by omega)) ?_
                            refine J_aload_n (i := 0) (a := 0) rfl rfl (dk_X6_shift 16 _ rfl) ?_
                            refine J_getf fl_6_37 rfl rfl (dk_X6_shift 17 _ rfl) ?_
                            refine J_iload_n (i := 1) (a := 1) rfl rfl (dk_X6_shift 20 _ rfl) ?_
                            refine J_aald (by decide) rfl (by decide) rfl (dk_X6_shift 21 _ rfl) ?_
                            refine J_astore (i := 6) (by decide) (dk_X6_shift 22 _ rfl) ?_
                            show J _ _ _ _ _ _ _ _ [(6, .ref 92), (0, .ref 0), (1, .int 5), (2, .int i), (3, .int 2), (4, .int j), (5, .int n)] _ _ _
                            refine J_aload_n (i := 0) (a := 0) rfl rfl (dk_X6_shift 24 _ rfl) ?_
                            refine J_getf fl_6_37 rfl rfl (dk_X6_shift 25 _ rfl) ?_
                            refine J_iload_n (i := 3) (a := 3) rfl rfl (dk_X6_shift 28 _ rfl) ?_
                            refine J_aald (by decide) rfl (by decide) rfl (dk_X6_shift 29 _ rfl) ?_
                            refine J_astore (i := 7) (by decide) (dk_X6_shift 30 _ rfl) ?_
                            show J _ _ _ _ _ _ _ _ [(7, .ref 86), (6, .ref 92), (0, .ref 0), (1, .int 5), (2, .int i), (3, .int 2), (4, .int j), (5, .int n)] _ _ _
                            refine J_aload (i := 6) rfl (dk_X6_shift 32 _ rfl) ?_
                            refine J_getf fl_6_223 rfl rfl (dk_X6_shift 34 _ rfl) ?_
                            refine J_iconst (v := (-1)) (by decide) (dk_X6_shift 37 _ rfl) ?_
                            refine J_icT (tgt := 50) (by decide) (dk_X6_shift 38 _ rfl) (jI_eq (by decide : ((-1) : Int32).toInt = (-1)) (by decide : ((-1) : Int32).toInt = (-1)) (by omega)) ?_
                            refine J_bipush (v := (-11)) (by decide) (dk_X6_shift 50 _ rfl) ?_
                            exact J_iret rfl rfl (dk_X6_shift 52 _ rfl) ⟨rfl, rfl⟩
                          · refine jCt_of ok_X7_shift (fun _ _ => Nat.le_of_ble_eq_true rfl) (fun _ _ hq => Nat.le_of_eq (lM.trans hq.2.symm)) ?_
                            show J _ _ _ _ _ _ _ _ [(0, .ref 0), (1, .int 5), (2, .int i), (3, .int 2), (4, .int j), (5, .int n)] _ _ _
                            refine J_aload_n (i := 0) (a := 0) rfl rfl (dk_X7_shift 0 _ rfl) ?_
                            refine J_iload_n (i := 1) (a := 1) rfl rfl (dk_X7_shift 1 _ rfl) ?_
                            refine J_cV (rv := some (.int 1)) (h' := hM0) (d' := 11) (As := [.int 5]) ok_X7_isTape vi_X7_isTape cl_7_354 (n := 1) (by decide +kernel) rfl rfl rfl rfl (by decide) (by decide) (dk_X7_shift 2 _ rfl) ?_ ?_
                            · refine jCt_of ok_X7_isTape (fun _ _ => Nat.le_of_ble_eq_true rfl) (fun _ _ hq => by rw [hq.2]; first | exact Nat.le_refl _ | simp) ?_
                              show J _ _ _ _ _ _ _ _ [(0, .ref 0), (1, .int 5)] _ _ _
                              refine J_aload_n (i := 0) (a := 0) rfl rfl (dk_X7_isTape 0 _ rfl) ?_
                              refine J_iload_n (i := 1) (a := 1) rfl rfl (dk_X7_isTape 1 _ rfl) ?_
                              refine J_iconst (v := 0) (by decide) (dk_X7_isTape 2 _ rfl) ?_
                              refine J_iconst (v := 5) (by decide) (dk_X7_isTape 3 _ rfl) ?_
                              refine J_cV (rv := some (.int 1)) (h' := hM0) (d' := 10) (As := [.int 5, .int 0, .int 5]) ok_X7_in vi_X7_in cl_7_194 (n := 3) (by decide +kernel) rfl rfl rfl rfl (by decide) (by decide) (dk_X7_isTape 4 _ rfl) ?_ ?_
                              · refine jCt_of ok_X7_in (fun _ _ => Nat.le_of_ble_eq_true rfl) (fun _ _ hq => by rw [hq.2]; first | exact Nat.le_refl _ | simp) ?_
                                show J _ _ _ _ _ _ _ _ [(0, .ref 0), (1, .int 5), (2, .int 0), (3, .int 5)] _ _ _
                                refine J_iload_n (i := 1) (a := 1) rfl rfl (dk_X7_in 0 _ rfl) ?_
                                refine J_iload_n (i := 2) (a := 2) rfl rfl (dk_X7_in 1 _ rfl) ?_
                                refine J_icF (tgt := 14) (by decide) (dk_X7_in 2 _ rfl) (jI_nlt (by decide : (5 : Int32).toInt = 5) (by decide : (0 : Int32).toInt = 0) (by omega)) ?_
                                refine J_iload_n (i := 1) (a := 1) rfl rfl (dk_X7_in 5 _ rfl) ?_
                                refine J_iload_n (i := 3) (a := 3) rfl rfl (dk_X7_in 6 _ rfl) ?_
                                refine J_icF (tgt := 14) (by decide) (dk_X7_in 7 _ rfl) (jI_nlt (by decide : (5 : Int32).toInt = 5) (by decide : (5 : Int32).toInt = 5) (by omega)) ?_
                                refine J_iconst (v := 1) (by decide) (dk_X7_in 10 _ rfl) ?_
                                refine J_goto (tgt := 15) (by decide) (dk_X7_in 11 _ rfl) ?_
                                exact J_iret rfl rfl (dk_X7_in 15 _ rfl) ⟨rfl, rfl⟩
                              show J _ _ _ _ _ _ _ _ _ [.int 1] _ _
                              exact J_iret rfl rfl (dk_X7_isTape 7 _ rfl) ⟨rfl, rfl⟩
                            show J _ _ _ _ _ _ _ _ _ [.int 1] _ _
                            refine J_ifF (tgt := 16) (by decide) (dk_X7_shift 5 _ rfl) (jI_ne (by decide : (1 : Int32).toInt = 1) (by decide : (0 : Int32).toInt = 0) (by omega)) ?_
                            refine J_aload_n (i := 0) (a := 0) rfl rfl (dk_X7_shift 8 _ rfl) ?_
                            refine J_iload_n (i := 3) (a := 3) rfl rfl (dk_X7_shift 9 _ rfl) ?_
                            refine J_cV (rv := some (.int 1)) (h' := hM0) (d' := 11) (As := [.int 2]) ok_X7_isTape vi_X7_isTape cl_7_354 (n := 1) (by decide +kernel) rfl rfl rfl rfl (by decide) (by decide) (dk_X7_shift 10 _ rfl) ?_ ?_
                            · refine jCt_of ok_X7_isTape (fun _ _ => Nat.le_of_ble_eq_true rfl) (fun _ _ hq => by rw [hq.2]; first | exact Nat.le_refl _ | simp) ?_
                              show J _ _ _ _ _ _ _ _ [(0, .ref 0), (1, .int 2)] _ _ _
                              refine J_aload_n (i := 0) (a := 0) rfl rfl (dk_X7_isTape 0 _ rfl) ?_
                              refine J_iload_n (i := 1) (a := 1) rfl rfl (dk_X7_isTape 1 _ rfl) ?_
                              refine J_iconst (v := 0) (by decide) (dk_X7_isTape 2 _ rfl) ?_
                              refine J_iconst (v := 5) (by decide) (dk_X7_isTape 3 _ rfl) ?_
                              refine J_cV (rv := some (.int 1)) (h' := hM0) (d' := 10) (As := [.int 2, .int 0, .int 5]) ok_X7_in vi_X7_in cl_7_194 (n := 3) (by decide +kernel) rfl rfl rfl rfl (by decide) (by decide) (dk_X7_isTape 4 _ rfl) ?_ ?_
                              · refine jCt_of ok_X7_in (fun _ _ => Nat.le_of_ble_eq_true rfl) (fun _ _ hq => by rw [hq.2]; first | exact Nat.le_refl _ | simp) ?_
                                show J _ _ _ _ _ _ _ _ [(0, .ref 0), (1, .int 2), (2, .int 0), (3, .int 5)] _ _ _
                                refine J_iload_n (i := 1) (a := 1) rfl rfl (dk_X7_in 0 _ rfl) ?_
                                refine J_iload_n (i := 2) (a := 2) rfl rfl (dk_X7_in 1 _ rfl) ?_
                                refine J_icF (tgt := 14) (by decide) (dk_X7_in 2 _ rfl) (jI_nlt (by decide : (2 : Int32).toInt = 2) (by decide : (0 : Int32).toInt = 0) (by omega)) ?_
                                refine J_iload_n (i := 1) (a := 1) rfl rfl (dk_X7_in 5 _ rfl) ?_
                                refine J_iload_n (i := 3) (a := 3) rfl rfl (dk_X7_in 6 _ rfl) ?_
                                refine J_icF (tgt := 14) (by decide) (dk_X7_in 7 _ rfl) (jI_nlt (by decide : (5 : Int32).toInt = 5) (by decide : (2 : Int32).toInt = 2) (by omega)) ?_
                                refine J_iconst (v := 1) (by decide) (dk_X7_in 10 _ rfl) ?_
                                refine J_goto (tgt := 15) (by decide) (dk_X7_in 11 _ rfl) ?_
                                exact J_iret rfl rfl (dk_X7_in 15 _ rfl) ⟨rfl, rfl⟩
                              show J _ _ _ _ _ _ _ _ _ [.int 1] _ _
                              exact J_iret rfl rfl (dk_X7_isTape 7 _ rfl) ⟨rfl, rfl⟩
                            show J _ _ _ _ _ _ _ _ _ [.int 1] _ _
                            refine J_ifT (tgt := 18) (by decide) (dk_X7_shift 13 _ rfl) (jI_ne (by decide : (1 : Int32).toInt = 1) (by decide : (0 : Int32).toInt = 0) (by omega)) ?_
                            refine J_aload_n (i := 0) (a := 0) rfl rfl (dk_X7_shift 18 _ rfl) ?_
                            refine J_getf fl_7_181 rfl rfl (dk_X7_shift 19 _ rfl) ?_
                            refine J_iload_n (i := 1) (a := 1) rfl rfl (dk_X7_shift 22 _ rfl) ?_
                            refine J_iald rfl (by decide) rfl (dk_X7_shift 23 _ rfl) ?_
                            refine J_ifT (tgt := 36) (by decide) (dk_X7_shift 24 _ rfl) (jI_lt (by decide : ((-1) : Int32).toInt = (-1)) (by decide : (0 : Int32).toInt = 0) (by omega)) ?_
                            refine J_bipush (v := (-11)) (by decide) (dk_X7_shift 36 _ rfl) ?_
                            exact J_iret rfl rfl (dk_X7_shift 38 _ rfl) ⟨rfl, rfl⟩
                        · by_cases c44 : (o : Int32).toInt = 3
                          · obtain rfl : o = 3 := jI_eq rfl (by decide) c44
                            refine ⟨(-11), ?_, ?_⟩
                            · refine jCt_of ok_X6_shift (fun _ _ => Nat.le_of_ble_eq_true rfl) (fun _ _ hq => Nat.le_of_eq (lX.trans hq.2.symm)) ?_
                              show J _ _ _ _ _ _ _ _ [(0, .ref 0), (1, .int 5), (2, .int i), (3, .int 3), (4, .int j), (5, .int n)] _ _ _
                              refine J_iload_n (i := 1) (a := 1) rfl rfl (dk_X6_shift 0 _ rfl) ?_
                              refine J_cS (rv := some (.int 1)) (h' := hN0) (d' := 11) (As := [.int 5]) ok_X6_isTape st_X6_isTape cl_6_220 rfl (n := 1) (by decide +kernel) rfl (by decide) (by decide) (dk_X6_shift 1 _ rfl) ?_ ?_
                              · refine jCt_of ok_X6_isTape (fun _ _ => Nat.le_of_ble_eq_true rfl) (fun _ _ hq => by rw [hq.2]; first | exact Nat.le_refl _ | simp) ?_
                                show J _ _ _ _ _ _ _ _ [(0, .int 5)] _ _ _
                                refine J_iload_n (i := 0) (a := 0) rfl rfl (dk_X6_isTape 0 _ rfl) ?_
                                refine J_ifF (tgt := 14) (by decide) (dk_X6_isTape 1 _ rfl) (jI_nlt (by decide : (5 : Int32).toInt = 5) (by decide : (0 : Int32).toInt = 0) (by omega)) ?_
                                refine J_iload_n (i := 0) (a := 0) rfl rfl (dk_X6_isTape 4 _ rfl) ?_
                                refine J_bipush (v := 6) (by decide) (dk_X6_isTape 5 _ rfl) ?_
                                refine J_icF (tgt := 14) (by decide) (dk_X6_isTape 7 _ rfl) (jI_nle (by decide : (6 : Int32).toInt = 6) (by decide : (5 : Int32).toInt = 5) (by omega)) ?_
                                refine J_iconst (v := 1) (by decide) (dk_X6_isTape 10 _ rfl) ?_
                                refine J_goto (tgt := 15) (by decide) (dk_X6_isTape 11 _ rfl) ?_
                                exact J_iret rfl rfl (dk_X6_isTape 15 _ rfl) ⟨rfl, rfl⟩
                              show J _ _ _ _ _ _ _ _ _ [.int 1] _ _
                              refine J_ifF (tgt := 14) (by decide) (dk_X6_shift 4 _ rfl) (jI_ne (by decide : (1 : Int32).toInt = 1) (by decide : (0 : Int32).toInt = 0) (by omega)) ?_
                              refine J_iload_n (i := 3) (a := 3) rfl rfl (dk_X6_shift 7 _ rfl) ?_
                              refine J_cS (rv := some (.int 1)) (h' := hN0) (d' := 11) (As := [.int 3]) ok_X6_isTape st_X6_isTape cl_6_220 rfl (n := 1) (by decide +kernel) rfl (by decide) (by decide) (dk_X6_shift 8 _ rfl) ?_ ?_
                              · refine jCt_of ok_X6_isTape (fun _ _ => Nat.le_of_ble_eq_true rfl) (fun _ _ hq => by rw [hq.2]; first | exact Nat.le_refl _ | simp) ?_
                                show J _ _ _ _ _ _ _ _ [(0, .int 3)] _ _ _
                                refine J_iload_n (i := 0) (a := 0) rfl rfl (dk_X6_isTape 0 _ rfl) ?_
                                refine J_ifF (tgt := 14) (by decide) (dk_X6_isTape 1 _ rfl) (jI_nlt (by decide : (3 : Int32).toInt = 3) (by decide : (0 : Int32).toInt = 0) (by omega)) ?_
                                refine J_iload_n (i := 0) (a := 0) rfl rfl (dk_X6_isTape 4 _ rfl) ?_
                                refine J_bipush (v := 6) (by decide) (dk_X6_isTape 5 _ rfl) ?_
                                refine J_icF (tgt := 14) (by decide) (dk_X6_isTape 7 _ rfl) (jI_nle (by decide : (6 : Int32).toInt = 6) (by decide : (3 : Int32).toInt = 3) (by omega)) ?_
                                refine J_iconst (v := 1) (by decide) (dk_X6_isTape 10 _ rfl) ?_
                                refine J_goto (tgt := 15) (by decide) (dk_X6_isTape 11 _ rfl) ?_
                                exact J_iret rfl rfl (dk_X6_isTape 15 _ rfl) ⟨rfl, rfl⟩
                              show J _ _ _ _ _ _ _ _ _ [.int 1] _ _
                              refine J_ifT (tgt := 16) (by decide) (dk_X6_shift 11 _ rfl) (jI_ne (by decide : (1 : Int32).toInt = 1) (by decide : (0 : Int32).toInt = 0) (by omega)) ?_
                              refine J_aload_n (i := 0) (a := 0) rfl rfl (dk_X6_shift 16 _ rfl) ?_
                              refine J_getf fl_6_37 rfl rfl (dk_X6_shift 17 _ rfl) ?_
                              refine J_iload_n (i := 1) (a := 1) rfl rfl (dk_X6_shift 20 _ rfl) ?_
                              refine J_aald (by decide) rfl (by decide) rfl (dk_X6_shift 21 _ rfl) ?_
                              refine J_astore (i := 6) (by decide) (dk_X6_shift 22 _ rfl) ?_
                              show J _ _ _ _ _ _ _ _ [(6, .ref 92), (0, .ref 0), (1, .int 5), (2, .int i), (3, .int 3), (4, .int j), (5, .int n)] _ _ _
                              refine J_aload_n (i := 0) (a := 0) rfl rfl (dk_X6_shift 24 _ rfl) ?_
                              refine J_getf fl_6_37 rfl rfl (dk_X6_shift 25 _ rfl) ?_
                              refine J_iload_n (i := 3) (a := 3) rfl rfl (dk_X6_shift 28 _ rfl) ?_
                              refine J_aald (by decide) rfl (by decide) rfl (dk_X6_shift 29 _ rfl) ?_
                              refine J_astore (i := 7) (by decide) (dk_X6_shift 30 _ rfl) ?_
                              show J _ _ _ _ _ _ _ _ [(7, .ref 88), (6, .ref 92), (0, .ref 0), (1, .int 5), (2, .int i), (3, .int 3), (4, .int j), (5, .int n)] _ _ _
                              refine J_aload (i := 6) rfl (dk_X6_shift 32 _ rfl) ?_
                              refine J_getf fl_6_223 rfl rfl (dk_X6_shift 34 _ rfl) ?_
                              refine J_iconst (v := (-1)) (by decide) (dk_X6_shift 37 _ rfl) ?_
                              refine J_icT (tgt := 50) (by decide) (dk_X6_shift 38 _ rfl) (jI_eq (by decide : ((-1) : Int32).toInt = (-1)) (by decide : ((-1) : Int32).toInt = (-1)) (by omega)) ?_
                              refine J_bipush (v := (-11)) (by decide) (dk_X6_shift 50 _ rfl) ?_
                              exact J_iret rfl rfl (dk_X6_shift 52 _ rfl) ⟨rfl, rfl⟩
                            · refine jCt_of ok_X7_shift (fun _ _ => Nat.le_of_ble_eq_true rfl) (fun _ _ hq => Nat.le_of_eq (lM.trans hq.2.symm)) ?_
                              show J _ _ _ _ _ _ _ _ [(0, .ref 0), (1, .int 5), (2, .int i), (3, .int 3), (4, .int j), (5, .int n)] _ _ _
                              refine J_aload_n (i := 0) (a := 0) rfl rfl (dk_X7_shift 0 _ rfl) ?_
                              refine J_iload_n (i := 1) (a := 1) rfl rfl (dk_X7_shift 1 _ rfl) ?_
                              refine J_cV (rv := some (.int 1)) (h' := hM0) (d' := 11) (As := [.int 5]) ok_X7_isTape vi_X7_isTape cl_7_354 (n := 1) (by decide +kernel) rfl rfl rfl rfl (by decide) (by decide) (dk_X7_shift 2 _ rfl) ?_ ?_
                              · refine jCt_of ok_X7_isTape (fun _ _ => Nat.le_of_ble_eq_true rfl) (fun _ _ hq => by rw [hq.2]; first | exact Nat.le_refl _ | simp) ?_
                                show J _ _ _ _ _ _ _ _ [(0, .ref 0), (1, .int 5)] _ _ _
                                refine J_aload_n (i := 0) (a := 0) rfl rfl (dk_X7_isTape 0 _ rfl) ?_
                                refine J_iload_n (i := 1) (a := 1) rfl rfl (dk_X7_isTape 1 _ rfl) ?_
                                refine J_iconst (v := 0) (by decide) (dk_X7_isTape 2 _ rfl) ?_
                                refine J_iconst (v := 5) (by decide) (dk_X7_isTape 3 _ rfl) ?_
                                refine J_cV (rv := some (.int 1)) (h' := hM0) (d' := 10) (As := [.int 5, .int 0, .int 5]) ok_X7_in vi_X7_in cl_7_194 (n := 3) (by decide +kernel) rfl rfl rfl rfl (by decide) (by decide) (dk_X7_isTape 4 _ rfl) ?_ ?_
                                · refine jCt_of ok_X7_in (fun _ _ => Nat.le_of_ble_eq_true rfl) (fun _ _ hq => by rw [hq.2]; first | exact Nat.le_refl _ | simp) ?_
                                  show J _ _ _ _ _ _ _ _ [(0, .ref 0), (1, .int 5), (2, .int 0), (3, .int 5)] _ _ _
                                  refine J_iload_n (i := 1) (a := 1) rfl rfl (dk_X7_in 0 _ rfl) ?_
                                  refine J_iload_n (i := 2) (a := 2) rfl rfl (dk_X7_in 1 _ rfl) ?_
                                  refine J_icF (tgt := 14) (by decide) (dk_X7_in 2 _ rfl) (jI_nlt (by decide : (5 : Int32).toInt = 5) (by decide : (0 : Int32).toInt = 0) (by omega)) ?_
                                  refine J_iload_n (i := 1) (a := 1) rfl rfl (dk_X7_in 5 _ rfl) ?_
                                  refine J_iload_n (i := 3) (a := 3) rfl rfl (dk_X7_in 6 _ rfl) ?_
                                  refine J_icF (tgt := 14) (by decide) (dk_X7_in 7 _ rfl) (jI_nlt (by decide : (5 : Int32).toInt = 5) (by decide : (5 : Int32).toInt = 5) (by omega)) ?_
                                  refine J_iconst (v := 1) (by decide) (dk_X7_in 10 _ rfl) ?_
                                  refine J_goto (tgt := 15) (by decide) (dk_X7_in 11 _ rfl) ?_
                                  exact J_iret rfl rfl (dk_X7_in 15 _ rfl) ⟨rfl, rfl⟩
                                show J _ _ _ _ _ _ _ _ _ [.int 1] _ _
                                exact J_iret rfl rfl (dk_X7_isTape 7 _ rfl) ⟨rfl, rfl⟩
                              show J _ _ _ _ _ _ _ _ _ [.int 1] _ _
                              refine J_ifF (tgt := 16) (by decide) (dk_X7_shift 5 _ rfl) (jI_ne (by decide : (1 : Int32).toInt = 1) (by decide : (0 : Int32).toInt = 0) (by omega)) ?_
                              refine J_aload_n (i := 0) (a := 0) rfl rfl (dk_X7_shift 8 _ rfl) ?_
                              refine J_iload_n (i := 3) (a := 3) rfl rfl (dk_X7_shift 9 _ rfl) ?_
                              refine J_cV (rv := some (.int 1)) (h' := hM0) (d' := 11) (As := [.int 3]) ok_X7_isTape vi_X7_isTape cl_7_354 (n := 1) (by decide +kernel) rfl rfl rfl rfl (by decide) (by decide) (dk_X7_shift 10 _ rfl) ?_ ?_
                              · refine jCt_of ok_X7_isTape (fun _ _ => Nat.le_of_ble_eq_true rfl) (fun _ _ hq => by rw [hq.2]; first | exact Nat.le_refl _ | simp) ?_
                                show J _ _ _ _ _ _ _ _ [(0, .ref 0), (1, .int 3)] _ _ _
                                refine J_aload_n (i := 0) (a := 0) rfl rfl (dk_X7_isTape 0 _ rfl) ?_
                                refine J_iload_n (i := 1) (a := 1) rfl rfl (dk_X7_isTape 1 _ rfl) ?_
                                refine J_iconst (v := 0) (by decide) (dk_X7_isTape 2 _ rfl) ?_
                                refine J_iconst (v := 5) (by decide) (dk_X7_isTape 3 _ rfl) ?_
                                refine J_cV (rv := some (.int 1)) (h' := hM0) (d' := 10) (As := [.int 3, .int 0, .int 5]) ok_X7_in vi_X7_in cl_7_194 (n := 3) (by decide +kernel) rfl rfl rfl rfl (by decide) (by decide) (dk_X7_isTape 4 _ rfl) ?_ ?_
                                · refine jCt_of ok_X7_in (fun _ _ => Nat.le_of_ble_eq_true rfl) (fun _ _ hq => by rw [hq.2]; first | exact Nat.le_refl _ | simp) ?_
                                  show J _ _ _ _ _ _ _ _ [(0, .ref 0), (1, .int 3), (2, .int 0), (3, .int 5)] _ _ _
                                  refine J_iload_n (i := 1) (a := 1) rfl rfl (dk_X7_in 0 _ rfl) ?_
                                  refine J_iload_n (i := 2) (a := 2) rfl rfl (dk_X7_in 1 _ rfl) ?_
                                  refine J_icF (tgt := 14) (by decide) (dk_X7_in 2 _ rfl) (jI_nlt (by decide : (3 : Int32).toInt = 3) (by decide : (0 : Int32).toInt = 0) (by omega)) ?_
                                  refine J_iload_n (i := 1) (a := 1) rfl rfl (dk_X7_in 5 _ rfl) ?_
                                  refine J_iload_n (i := 3) (a := 3) rfl rfl (dk_X7_in 6 _ rfl) ?_
                                  refine J_icF (tgt := 14) (by decide) (dk_X7_in 7 _ rfl) (jI_nlt (by decide : (5 : Int32).toInt = 5) (by decide : (3 : Int32).toInt = 3) (by omega)) ?_
                                  refine J_iconst (v := 1) (by decide) (dk_X7_in 10 _ rfl) ?_
                                  refine J_goto (tgt := 15) (by decide) (dk_X7_in 11 _ rfl) ?_
                                  exact J_iret rfl rfl (dk_X7_in 15 _ rfl) ⟨rfl, rfl⟩
                                show J _ _ _ _ _ _ _ _ _ [.int 1] _ _
                                exact J_iret rfl rfl (dk_X7_isTape 7 _ rfl) ⟨rfl, rfl⟩
                              show J _ _ _ _ _ _ _ _ _ [.int 1] _ _
                              refine J_ifT (tgt := 18) (by decide) (dk_X7_shift 13 _ rfl) (jI_ne (by decide : (1 : Int32).toInt = 1) (by decide : (0 : Int32).toInt = 0) (by omega)) ?_
                              refine J_aload_n (i := 0) (a := 0) rfl rfl (dk_X7_shift 18 _ rfl) ?_
                              refine J_getf fl_7_181 rfl rfl (dk_X7_shift 19 _ rfl) ?_
                              refine J_iload_n (i := 1) (a := 1) rfl rfl (dk_X7_shift 22 _ rfl) ?_
                              refine J_iald rfl (by decide) rfl (dk_X7_shift 23 _ rfl) ?_
                              refine J_ifT (tgt := 36) (by decide) (dk_X7_shift 24 _ rfl) (jI_lt (by decide : ((-1) : Int32).toInt = (-1)) (by decide : (0 : Int32).toInt = 0) (by omega)) ?_
                              refine J_bipush (v := (-11)) (by decide) (dk_X7_shift 36 _ rfl) ?_
                              exact J_iret rfl rfl (dk_X7_shift 38 _ rfl) ⟨rfl, rfl⟩
                          · by_cases c45 : (o : Int32).toInt = 4
                            · obtain rfl : o = 4 := jI_eq rfl (by decide) c45
                              refine ⟨(-11), ?_, ?_⟩
                              · refine jCt_of ok_X6_shift (fun _ _ => Nat.le_of_ble_eq_true rfl) (fun _ _ hq => Nat.le_of_eq (lX.trans hq.2.symm)) ?_
                                show J _ _ _ _ _ _ _ _ [(0, .ref 0), (1, .int 5), (2, .int i), (3, .int 4), (4, .int j), (5, .int n)] _ _ _
                                refine J_iload_n (i := 1) (a := 1) rfl rfl (dk_X6_shift 0 _ rfl) ?_
                                refine J_cS (rv := some (.int 1)) (h' := hN0) (d' := 11) (As := [.int 5]) ok_X6_isTape st_X6_isTape cl_6_220 rfl (n := 1) (by decide +kernel) rfl (by decide) (by decide) (dk_X6_shift 1 _ rfl) ?_ ?_
                                · refine jCt_of ok_X6_isTape (fun _ _ => Nat.le_of_ble_eq_true rfl) (fun _ _ hq => by rw [hq.2]; first | exact Nat.le_refl _ | simp) ?_
                                  show J _ _ _ _ _ _ _ _ [(0, .int 5)] _ _ _
                                  refine J_iload_n (i := 0) (a := 0) rfl rfl (dk_X6_isTape 0 _ rfl) ?_
                                  refine J_ifF (tgt := 14) (by decide) (dk_X6_isTape 1 _ rfl) (jI_nlt (by decide : (5 : Int32).toInt = 5) (by decide : (0 : Int32).toInt = 0) (by omega)) ?_
                                  refine J_iload_n (i := 0) (a := 0) rfl rfl (dk_X6_isTape 4 _ rfl) ?_
                                  refine J_bipush (v := 6) (by decide) (dk_X6_isTape 5 _ rfl) ?_
                                  refine J_icF (tgt := 14) (by decide) (dk_X6_isTape 7 _ rfl) (jI_nle (by decide : (6 : Int32).toInt = 6) (by decide : (5 : Int32).toInt = 5) (by omega)) ?_
                                  refine J_iconst (v := 1) (by decide) (dk_X6_isTape 10 _ rfl) ?_
                                  refine J_goto (tgt := 15) (by decide) (dk_X6_isTape 11 _ rfl) ?_
                                  exact J_iret rfl rfl (dk_X6_isTape 15 _ rfl) ⟨rfl, rfl⟩
                                show J _ _ _ _ _ _ _ _ _ [.int 1] _ _
                                refine J_ifF (tgt := 14) (by decide) (dk_X6_shift 4 _ rfl) (jI_ne (by decide : (1 : Int32).toInt = 1) (by decide : (0 : Int32).toInt = 0) (by omega)) ?_
                                refine J_iload_n (i := 3) (a := 3) rfl rfl (dk_X6_shift 7 _ rfl) ?_
                                refine J_cS (rv := some (.int 1)) (h' := hN0) (d' := 11) (As := [.int 4]) ok_X6_isTape st_X6_isTape cl_6_220 rfl (n := 1) (by decide +kernel) rfl (by decide) (by decide) (dk_X6_shift 8 _ rfl) ?_ ?_
                                · refine jCt_of ok_X6_isTape (fun _ _ => Nat.le_of_ble_eq_true rfl) (fun _ _ hq => by rw [hq.2]; first | exact Nat.le_refl _ | simp) ?_
                                  show J _ _ _ _ _ _ _ _ [(0, .int 4)] _ _ _
                                  refine J_iload_n (i := 0) (a := 0) rfl rfl (dk_X6_isTape 0 _ rfl) ?_
                                  refine J_ifF (tgt := 14) (by decide) (dk_X6_isTape 1 _ rfl) (jI_nlt (by decide : (4 : Int32).toInt = 4) (by decide : (0 : Int32).toInt = 0) (by omega)) ?_
                                  refine J_iload_n (i := 0) (a := 0) rfl rfl (dk_X6_isTape 4 _ rfl) ?_
                                  refine J_bipush (v := 6) (by decide) (dk_X6_isTape 5 _ rfl) ?_
                                  refine J_icF (tgt := 14) (by decide) (dk_X6_isTape 7 _ rfl) (jI_nle (by decide : (6 : Int32).toInt = 6) (by decide : (4 : Int32).toInt = 4) (by omega)) ?_
                                  refine J_iconst (v := 1) (by decide) (dk_X6_isTape 10 _ rfl) ?_
                                  refine J_goto (tgt := 15) (by decide) (dk_X6_isTape 11 _ rfl) ?_
                                  exact J_iret rfl rfl (dk_X6_isTape 15 _ rfl) ⟨rfl, rfl⟩
                                show J _ _ _ _ _ _ _ _ _ [.int 1] _ _
                                refine J_ifT (tgt := 16) (by decide) (dk_X6_shift 11 _ rfl) (jI_ne (by decide : (1 : Int32).toInt = 1) (by decide : (0 : Int32).toInt = 0) (by omega)) ?_
                                refine J_aload_n (i := 0) (a := 0) rfl rfl (dk_X6_shift 16 _ rfl) ?_
                                refine J_getf fl_6_37 rfl rfl (dk_X6_shift 17 _ rfl) ?_
                                refine J_iload_n (i := 1) (a := 1) rfl rfl (dk_X6_shift 20 _ rfl) ?_
                                refine J_aald (by decide) rfl (by decide) rfl (dk_X6_shift 21 _ rfl) ?_
                                refine J_astore (i := 6) (by decide) (dk_X6_shift 22 _ rfl) ?_
                                show J _ _ _ _ _ _ _ _ [(6, .ref 92), (0, .ref 0), (1, .int 5), (2, .int i), (3, .int 4), (4, .int j), (5, .int n)] _ _ _
                                refine J_aload_n (i := 0) (a := 0) rfl rfl (dk_X6_shift 24 _ rfl) ?_
                                refine J_getf fl_6_37 rfl rfl (dk_X6_shift 25 _ rfl) ?_
                                refine J_iload_n (i := 3) (a := 3) rfl rfl (dk_X6_shift 28 _ rfl) ?_
                                refine J_aald (by decide) rfl (by decide) rfl (dk_X6_shift 29 _ rfl) ?_
                                refine J_astore (i := 7) (by decide) (dk_X6_shift 30 _ rfl) ?_
                                show J _ _ _ _ _ _ _ _ [(7, .ref 90), (6, .ref 92), (0, .ref 0), (1, .int 5), (2, .int i), (3, .int 4), (4, .int j), (5, .int n)] _ _ _
                                refine J_aload (i := 6) rfl (dk_X6_shift 32 _ rfl) ?_
                                refine J_getf fl_6_223 rfl rfl (dk_X6_shift 34 _ rfl) ?_
                                refine J_iconst (v := (-1)) (by decide) (dk_X6_shift 37 _ rfl) ?_
                                refine J_icT (tgt := 50) (by decide) (dk_X6_shift 38 _ rfl) (jI_eq (by decide : ((-1) : Int32).toInt = (-1)) (by decide : ((-1) : Int32).toInt = (-1)) (by omega)) ?_
                                refine J_bipush (v := (-11)) (by decide) (dk_X6_shift 50 _ rfl) ?_
                                exact J_iret rfl rfl (dk_X6_shift 52 _ rfl) ⟨rfl, rfl⟩
                              · refine jCt_of ok_X7_shift (fun _ _ => Nat.le_of_ble_eq_true rfl) (fun _ _ hq => Nat.le_of_eq (lM.trans hq.2.symm)) ?_
                                show J _ _ _ _ _ _ _ _ [(0, .ref 0), (1, .int 5), (2, .int i), (3, .int 4), (4, .int j), (5, .int n)] _ _ _
                                refine J_aload_n (i := 0) (a := 0) rfl rfl (dk_X7_shift 0 _ rfl) ?_
                                refine J_iload_n (i := 1) (a := 1) rfl rfl (dk_X7_shift 1 _ rfl) ?_
                                refine J_cV (rv := some (.int 1)) (h' := hM0) (d' := 11) (As := [.int 5]) ok_X7_isTape vi_X7_isTape cl_7_354 (n := 1) (by decide +kernel) rfl rfl rfl rfl (by decide) (by decide) (dk_X7_shift 2 _ rfl) ?_ ?_
                                · refine jCt_of ok_X7_isTape (fun _ _ => Nat.le_of_ble_eq_true rfl) (fun _ _ hq => by rw [hq.2]; first | exact Nat.le_refl _ | simp) ?_
                                  show J _ _ _ _ _ _ _ _ [(0, .ref 0), (1, .int 5)] _ _ _
                                  refine J_aload_n (i := 0) (a := 0) rfl rfl (dk_X7_isTape 0 _ rfl) ?_
                                  refine J_iload_n (i := 1) (a := 1) rfl rfl (dk_X7_isTape 1 _ rfl) ?_
                                  refine J_iconst (v := 0) (by decide) (dk_X7_isTape 2 _ rfl) ?_
                                  refine J_iconst (v := 5) (by decide) (dk_X7_isTape 3 _ rfl) ?_
                                  refine J_cV (rv := some (.int 1)) (h' := hM0) (d' := 10) (As := [.int 5, .int 0, .int 5]) ok_X7_in vi_X7_in cl_7_194 (n := 3) (by decide +kernel) rfl rfl rfl rfl (by decide) (by decide) (dk_X7_isTape 4 _ rfl) ?_ ?_
                                  · refine jCt_of ok_X7_in (fun _ _ => Nat.le_of_ble_eq_true rfl) (fun _ _ hq => by rw [hq.2]; first | exact Nat.le_refl _ | simp) ?_
                                    show J _ _ _ _ _ _ _ _ [(0, .ref 0), (1, .int 5), (2, .int 0), (3, .int 5)] _ _ _
                                    refine J_iload_n (i := 1) (a := 1) rfl rfl (dk_X7_in 0 _ rfl) ?_
                                    refine J_iload_n (i := 2) (a := 2) rfl rfl (dk_X7_in 1 _ rfl) ?_
                                    refine J_icF (tgt := 14) (by decide) (dk_X7_in 2 _ rfl) (jI_nlt (by decide : (5 : Int32).toInt = 5) (by decide : (0 : Int32).toInt = 0) (by omega)) ?_
                                    refine J_iload_n (i := 1) (a := 1) rfl rfl (dk_X7_in 5 _ rfl) ?_
                                    refine J_iload_n (i := 3) (a := 3) rfl rfl (dk_X7_in 6 _ rfl) ?_
                                    refine J_icF (tgt := 14) (by decide) (dk_X7_in 7 _ rfl) (jI_nlt (by decide : (5 : Int32).toInt = 5) (by decide : (5 : Int32).toInt = 5) (by omega)) ?_
                                    refine J_iconst (v := 1) (by decide) (dk_X7_in 10 _ rfl) ?_
                                    refine J_goto (tgt := 15) (by decide) (dk_X7_in 11 _ rfl) ?_
                                    exact J_iret rfl rfl (dk_X7_in 15 _ rfl) ⟨rfl, rfl⟩
                                  show J _ _ _ _ _ _ _ _ _ [.int 1] _ _
                                  exact J_iret rfl rfl (dk_X7_isTape 7 _ rfl) ⟨rfl, rfl⟩
                                show J _ _ _ _ _ _ _ _ _ [.int 1] _ _
                                refine J_ifF (tgt := 16) (by decide) (dk_X7_shift 5 _ rfl) (jI_ne (by decide : (1 : Int32).toInt = 1) (by decide : (0 : Int32).toInt = 0) (by omega)) ?_
                                refine J_aload_n (i := 0) (a := 0) rfl rfl (dk_X7_shift 8 _ rfl) ?_
                                refine J_iload_n (i := 3) (a := 3) rfl rfl (dk_X7_shift 9 _ rfl) ?_
                                refine J_cV (rv := some (.int 1)) (h' := hM0) (d' := 11) (As := [.int 4]) ok_X7_isTape vi_X7_isTape cl_7_354 (n := 1) (by decide +kernel) rfl rfl rfl rfl (by decide) (by decide) (dk_X7_shift 10 _ rfl) ?_ ?_
                                · refine jCt_of ok_X7_isTape (fun _ _ => Nat.le_of_ble_eq_true rfl) (fun _ _ hq => by rw [hq.2]; first | exact Nat.le_refl _ | simp) ?_
                                  show J _ _ _ _ _ _ _ _ [(0, .ref 0), (1, .int 4)] _ _ _
                                  refine J_aload_n (i := 0) (a := 0) rfl rfl (dk_X7_isTape 0 _ rfl) ?_
                                  refine J_iload_n (i := 1) (a := 1) rfl rfl (dk_X7_isTape 1 _ rfl) ?_
                                  refine J_iconst (v := 0) (by decide) (dk_X7_isTape 2 _ rfl) ?_
                                  refine J_iconst (v := 5) (by decide) (dk_X7_isTape 3 _ rfl) ?_
                                  refine J_cV (rv := some (.int 1)) (h' := hM0) (d' := 10) (As := [.int 4, .int 0, .int 5]) ok_X7_in vi_X7_in cl_7_194 (n := 3) (by decide +kernel) rfl rfl rfl rfl (by decide) (by decide) (dk_X7_isTape 4 _ rfl) ?_ ?_
                                  · refine jCt_of ok_X7_in (fun _ _ => Nat.le_of_ble_eq_true rfl) (fun _ _ hq => by rw [hq.2]; first | exact Nat.le_refl _ | simp) ?_
                                    show J _ _ _ _ _ _ _ _ [(0, .ref 0), (1, .int 4), (2, .int 0), (3, .int 5)] _ _ _
                                    refine J_iload_n (i := 1) (a := 1) rfl rfl (dk_X7_in 0 _ rfl) ?_
                                    refine J_iload_n (i := 2) (a := 2) rfl rfl (dk_X7_in 1 _ rfl) ?_
                                    refine J_icF (tgt := 14) (by decide) (dk_X7_in 2 _ rfl) (jI_nlt (by decide : (4 : Int32).toInt = 4) (by decide : (0 : Int32).toInt = 0) (by omega)) ?_
                                    refine J_iload_n (i := 1) (a := 1) rfl rfl (dk_X7_in 5 _ rfl) ?_
                                    refine J_iload_n (i := 3) (a := 3) rfl rfl (dk_X7_in 6 _ rfl) ?_
                                    refine J_icF (tgt := 14) (by decide) (dk_X7_in 7 _ rfl) (jI_nlt (by decide : (5 : Int32).toInt = 5) (by decide : (4 : Int32).toInt = 4) (by omega)) ?_
                                    refine J_iconst (v := 1) (by decide) (dk_X7_in 10 _ rfl) ?_
                                    refine J_goto (tgt := 15) (by decide) (dk_X7_in 11 _ rfl) ?_
                                    exact J_iret rfl rfl (dk_X7_in 15 _ rfl) ⟨rfl, rfl⟩
                                  show J _ _ _ _ _ _ _ _ _ [.int 1] _ _
                                  exact J_iret rfl rfl (dk_X7_isTape 7 _ rfl) ⟨rfl, rfl⟩
                                show J _ _ _ _ _ _ _ _ _ [.int 1] _ _
                                refine J_ifT (tgt := 18) (by decide) (dk_X7_shift 13 _ rfl) (jI_ne (by decide : (1 : Int32).toInt = 1) (by decide : (0 : Int32).toInt = 0) (by omega)) ?_
                                refine J_aload_n (i := 0) (a := 0) rfl rfl (dk_X7_shift 18 _ rfl) ?_
                                refine J_getf fl_7_181 rfl rfl (dk_X7_shift 19 _ rfl) ?_
                                refine J_iload_n (i := 1) (a := 1) rfl rfl (dk_X7_shift 22 _ rfl) ?_
                                refine J_iald rfl (by decide) rfl (dk_X7_shift 23 _ rfl) ?_
                                refine J_ifT (tgt := 36) (by decide) (dk_X7_shift 24 _ rfl) (jI_lt (by decide : ((-1) : Int32).toInt = (-1)) (by decide : (0 : Int32).toInt = 0) (by omega)) ?_
                                refine J_bipush (v := (-11)) (by decide) (dk_X7_shift 36 _ rfl) ?_
                                exact J_iret rfl rfl (dk_X7_shift 38 _ rfl) ⟨rfl, rfl⟩
                            · obtain rfl : o = 5 := jI_eq rfl (by decide) (by omega : (o : Int32).toInt = 5)
                              refine ⟨(-11), ?_, ?_⟩
                              · refine jCt_of ok_X6_shift (fun _ _ => Nat.le_of_ble_eq_true rfl) (fun _ _ hq => Nat.le_of_eq (lX.trans hq.2.symm)) ?_
                                show J _ _ _ _ _ _ _ _ [(0, .ref 0), (1, .int 5), (2, .int i), (3, .int 5), (4, .int j), (5, .int n)] _ _ _
                                refine J_iload_n (i := 1) (a := 1) rfl rfl (dk_X6_shift 0 _ rfl) ?_
                                refine J_cS (rv := some (.int 1)) (h' := hN0) (d' := 11) (As := [.int 5]) ok_X6_isTape st_X6_isTape cl_6_220 rfl (n := 1) (by decide +kernel) rfl (by decide) (by decide) (dk_X6_shift 1 _ rfl) ?_ ?_
                                · refine jCt_of ok_X6_isTape (fun _ _ => Nat.le_of_ble_eq_true rfl) (fun _ _ hq => by rw [hq.2]; first | exact Nat.le_refl _ | simp) ?_
                                  show J _ _ _ _ _ _ _ _ [(0, .int 5)] _ _ _
                                  refine J_iload_n (i := 0) (a := 0) rfl rfl (dk_X6_isTape 0 _ rfl) ?_
                                  refine J_ifF (tgt := 14) (by decide) (dk_X6_isTape 1 _ rfl) (jI_nlt (by decide : (5 : Int32).toInt = 5) (by decide : (0 : Int32).toInt = 0) (by omega)) ?_
                                  refine J_iload_n (i := 0) (a := 0) rfl rfl (dk_X6_isTape 4 _ rfl) ?_
                                  refine J_bipush (v := 6) (by decide) (dk_X6_isTape 5 _ rfl) ?_
                                  refine J_icF (tgt := 14) (by decide) (dk_X6_isTape 7 _ rfl) (jI_nle (by decide : (6 : Int32).toInt = 6) (by decide : (5 : Int32).toInt = 5) (by omega)) ?_
                                  refine J_iconst (v := 1) (by decide) (dk_X6_isTape 10 _ rfl) ?_
                                  refine J_goto (tgt := 15) (by decide) (dk_X6_isTape 11 _ rfl) ?_
                                  exact J_iret rfl rfl (dk_X6_isTape 15 _ rfl) ⟨rfl, rfl⟩
                                show J _ _ _ _ _ _ _ _ _ [.int 1] _ _
                                refine J_ifF (tgt := 14) (by decide) (dk_X6_shift 4 _ rfl) (jI_ne (by decide : (1 : Int32).toInt = 1) (by decide : (0 : Int32).toInt = 0) (by omega)) ?_
                                refine J_iload_n (i := 3) (a := 3) rfl rfl (dk_X6_shift 7 _ rfl) ?_
                                refine J_cS (rv := some (.int 1)) (h' := hN0) (d' := 11) (As := [.int 5]) ok_X6_isTape st_X6_isTape cl_6_220 rfl (n := 1) (by decide +kernel) rfl (by decide) (by decide) (dk_X6_shift 8 _ rfl) ?_ ?_
                                · refine jCt_of ok_X6_isTape (fun _ _ => Nat.le_of_ble_eq_true rfl) (fun _ _ hq => by rw [hq.2]; first | exact Nat.le_refl _ | simp) ?_
                                  show J _ _ _ _ _ _ _ _ [(0, .int 5)] _ _ _
                                  refine J_iload_n (i := 0) (a := 0) rfl rfl (dk_X6_isTape 0 _ rfl) ?_
                                  refine J_ifF (tgt := 14) (by decide) (dk_X6_isTape 1 _ rfl) (jI_nlt (by decide : (5 : Int32).toInt = 5) (by decide : (0 : Int32).toInt = 0) (by omega)) ?_
                                  refine J_iload_n (i := 0) (a := 0) rfl rfl (dk_X6_isTape 4 _ rfl) ?_
                                  refine J_bipush (v := 6) (by decide) (dk_X6_isTape 5 _ rfl) ?_
                                  refine J_icF (tgt := 14) (by decide) (dk_X6_isTape 7 _ rfl) (jI_nle (by decide : (6 : Int32).toInt = 6) (by decide : (5 : Int32).toInt = 5) (by omega)) ?_
                                  refine J_iconst (v := 1) (by decide) (dk_X6_isTape 10 _ rfl) ?_
                                  refine J_goto (tgt := 15) (by decide) (dk_X6_isTape 11 _ rfl) ?_
                                  exact J_iret rfl rfl (dk_X6_isTape 15 _ rfl) ⟨rfl, rfl⟩
                                show J _ _ _ _ _ _ _ _ _ [.int 1] _ _
                                refine J_ifT (tgt := 16) (by decide) (dk_X6_shift 11 _ rfl) (jI_ne (by decide : (1 : Int32).toInt = 1) (by decide : (0 : Int32).toInt = 0) (by omega)) ?_
                                refine J_aload_n (i := 0) (a := 0) rfl rfl (dk_X6_shift 16 _ rfl) ?_
                                refine J_getf fl_6_37 rfl rfl (dk_X6_shift 17 _ rfl) ?_
                                refine J_iload_n (i := 1) (a := 1) rfl rfl (dk_X6_shift 20 _ rfl) ?_
                                refine J_aald (by decide) rfl (by decide) rfl (dk_X6_shift 21 _ rfl) ?_
                                refine J_astore (i := 6) (by decide) (dk_X6_shift 22 _ rfl) ?_
                                show J _ _ _ _ _ _ _ _ [(6, .ref 92), (0, .ref 0), (1, .int 5), (2, .int i), (3, .int 5), (4, .int j), (5, .int n)] _ _ _
                                refine J_aload_n (i := 0) (a := 0) rfl rfl (dk_X6_shift 24 _ rfl) ?_
                                refine J_getf fl_6_37 rfl rfl (dk_X6_shift 25 _ rfl) ?_
                                refine J_iload_n (i := 3) (a := 3) rfl rfl (dk_X6_shift 28 _ rfl) ?_
                                refine J_aald (by decide) rfl (by decide) rfl (dk_X6_shift 29 _ rfl) ?_
                                refine J_astore (i := 7) (by decide) (dk_X6_shift 30 _ rfl) ?_
                                show J _ _ _ _ _ _ _ _ [(7, .ref 92), (6, .ref 92), (0, .ref 0), (1, .int 5), (2, .int i), (3, .int 5), (4, .int j), (5, .int n)] _ _ _
                                refine J_aload (i := 6) rfl (dk_X6_shift 32 _ rfl) ?_
                                refine J_getf fl_6_223 rfl rfl (dk_X6_shift 34 _ rfl) ?_
                                refine J_iconst (v := (-1)) (by decide) (dk_X6_shift 37 _ rfl) ?_
                                refine J_icT (tgt := 50) (by decide) (dk_X6_shift 38 _ rfl) (jI_eq (by decide : ((-1) : Int32).toInt = (-1)) (by decide : ((-1) : Int32).toInt = (-1)) (by omega)) ?_
                                refine J_bipush (v := (-11)) (by decide) (dk_X6_shift 50 _ rfl) ?_
                                exact J_iret rfl rfl (dk_X6_shift 52 _ rfl) ⟨rfl, rfl⟩
                              · refine jCt_of ok_X7_shift (fun _ _ => Nat.le_of_ble_eq_true rfl) (fun _ _ hq => Nat.le_of_eq (lM.trans hq.2.symm)) ?_
                                show J _ _ _ _ _ _ _ _ [(0, .ref 0), (1, .int 5), (2, .int i), (3, .int 5), (4, .int j), (5, .int n)] _ _ _
                                refine J_aload_n (i := 0) (a := 0) rfl rfl (dk_X7_shift 0 _ rfl) ?_
                                refine J_iload_n (i := 1) (a := 1) rfl rfl (dk_X7_shift 1 _ rfl) ?_
                                refine J_cV (rv := some (.int 1)) (h' := hM0) (d' := 11) (As := [.int 5]) ok_X7_isTape vi_X7_isTape cl_7_354 (n := 1) (by decide +kernel) rfl rfl rfl rfl (by decide) (by decide) (dk_X7_shift 2 _ rfl) ?_ ?_
                                · refine jCt_of ok_X7_isTape (fun _ _ => Nat.le_of_ble_eq_true rfl) (fun _ _ hq => by rw [hq.2]; first | exact Nat.le_refl _ | simp) ?_
                                  show J _ _ _ _ _ _ _ _ [(0, .ref 0), (1, .int 5)] _ _ _
                                  refine J_aload_n (i := 0) (a := 0) rfl rfl (dk_X7_isTape 0 _ rfl) ?_
                                  refine J_iload_n (i := 1) (a := 1) rfl rfl (dk_X7_isTape 1 _ rfl) ?_
                                  refine J_iconst (v := 0) (by decide) (dk_X7_isTape 2 _ rfl) ?_
                                  refine J_iconst (v := 5) (by decide) (dk_X7_isTape 3 _ rfl) ?_
                                  refine J_cV (rv := some (.int 1)) (h' := hM0) (d' := 10) (As := [.int 5, .int 0, .int 5]) ok_X7_in vi_X7_in cl_7_194 (n := 3) (by decide +kernel) rfl rfl rfl rfl (by decide) (by decide) (dk_X7_isTape 4 _ rfl) ?_ ?_
                                  · refine jCt_of ok_X7_in (fun _ _ => Nat.le_of_ble_eq_true rfl) (fun _ _ hq => by rw [hq.2]; first | exact Nat.le_refl _ | simp) ?_
                                    show J _ _ _ _ _ _ _ _ [(0, .ref 0), (1, .int 5), (2, .int 0), (3, .int 5)] _ _ _
                                    refine J_iload_n (i := 1) (a := 1) rfl rfl (dk_X7_in 0 _ rfl) ?_
                                    refine J_iload_n (i := 2) (a := 2) rfl rfl (dk_X7_in 1 _ rfl) ?_
                                    refine J_icF (tgt := 14) (by decide) (dk_X7_in 2 _ rfl) (jI_nlt (by decide : (5 : Int32).toInt = 5) (by decide : (0 : Int32).toInt = 0) (by omega)) ?_
                                    refine J_iload_n (i := 1) (a := 1) rfl rfl (dk_X7_in 5 _ rfl) ?_
                                    refine J_iload_n (i := 3) (a := 3) rfl rfl (dk_X7_in 6 _ rfl) ?_
                                    refine J_icF (tgt := 14) (by decide) (dk_X7_in 7 _ rfl) (jI_nlt (by decide : (5 : Int32).toInt = 5) (by decide : (5 : Int32).toInt = 5) (by omega)) ?_
                                    refine J_iconst (v := 1) (by decide) (dk_X7_in 10 _ rfl) ?_
                                    refine J_goto (tgt := 15) (by decide) (dk_X7_in 11 _ rfl) ?_
                                    exact J_iret rfl rfl (dk_X7_in 15 _ rfl) ⟨rfl, rfl⟩
                                  show J _ _ _ _ _ _ _ _ _ [.int 1] _ _
                                  exact J_iret rfl rfl (dk_X7_isTape 7 _ rfl) ⟨rfl, rfl⟩
                                show J _ _ _ _ _ _ _ _ _ [.int 1] _ _
                                refine J_ifF (tgt := 16) (by decide) (dk_X7_shift 5 _ rfl) (jI_ne (by decide : (1 : Int32).toInt = 1) (by decide : (0 : Int32).toInt = 0) (by omega)) ?_
                                refine J_aload_n (i := 0) (a := 0) rfl rfl (dk_X7_shift 8 _ rfl) ?_
                                refine J_iload_n (i := 3) (a := 3) rfl rfl (dk_X7_shift 9 _ rfl) ?_
                                refine J_cV (rv := some (.int 1)) (h' := hM0) (d' := 11) (As := [.int 5]) ok_X7_isTape vi_X7_isTape cl_7_354 (n := 1) (by decide +kernel) rfl rfl rfl rfl (by decide) (by decide) (dk_X7_shift 10 _ rfl) ?_ ?_
                                · refine jCt_of ok_X7_isTape (fun _ _ => Nat.le_of_ble_eq_true rfl) (fun _ _ hq => by rw [hq.2]; first | exact Nat.le_refl _ | simp) ?_
                                  show J _ _ _ _ _ _ _ _ [(0, .ref 0), (1, .int 5)] _ _ _
                                  refine J_aload_n (i := 0) (a := 0) rfl rfl (dk_X7_isTape 0 _ rfl) ?_
                                  refine J_iload_n (i := 1) (a := 1) rfl rfl (dk_X7_isTape 1 _ rfl) ?_
                                  refine J_iconst (v := 0) (by decide) (dk_X7_isTape 2 _ rfl) ?_
                                  refine J_iconst (v := 5) (by decide) (dk_X7_isTape 3 _ rfl) ?_
                                  refine J_cV (rv := some (.int 1)) (h' := hM0) (d' := 10) (As := [.int 5, .int 0, .int 5]) ok_X7_in vi_X7_in cl_7_194 (n := 3) (by decide +kernel) rfl rfl rfl rfl (by decide) (by decide) (dk_X7_isTape 4 _ rfl) ?_ ?_
                                  · refine jCt_of ok_X7_in (fun _ _ => Nat.le_of_ble_eq_true rfl) (fun _ _ hq => by rw [hq.2]; first | exact Nat.le_refl _ | simp) ?_
                                    show J _ _ _ _ _ _ _ _ [(0, .ref 0), (1, .int 5), (2, .int 0), (3, .int 5)] _ _ _
                                    refine J_iload_n (i := 1) (a := 1) rfl rfl (dk_X7_in 0 _ rfl) ?_
                                    refine J_iload_n (i := 2) (a := 2) rfl rfl (dk_X7_in 1 _ rfl) ?_
                                    refine J_icF (tgt := 14) (by decide) (dk_X7_in 2 _ rfl) (jI_nlt (by decide : (5 : Int32).toInt = 5) (by decide : (0 : Int32).toInt = 0) (by omega)) ?_
                                    refine J_iload_n (i := 1) (a := 1) rfl rfl (dk_X7_in 5 _ rfl) ?_
                                    refine J_iload_n (i := 3) (a := 3) rfl rfl (dk_X7_in 6 _ rfl) ?_
                                    refine J_icF (tgt := 14) (by decide) (dk_X7_in 7 _ rfl) (jI_nlt (by decide : (5 : Int32).toInt = 5) (by decide : (5 : Int32).toInt = 5) (by omega)) ?_
                                    refine J_iconst (v := 1) (by decide) (dk_X7_in 10 _ rfl) ?_
                                    refine J_goto (tgt := 15) (by decide) (dk_X7_in 11 _ rfl) ?_
                                    exact J_iret rfl rfl (dk_X7_in 15 _ rfl) ⟨rfl, rfl⟩
                                  show J _ _ _ _ _ _ _ _ _ [.int 1] _ _
                                  exact J_iret rfl rfl (dk_X7_isTape 7 _ rfl) ⟨rfl, rfl⟩
                                show J _ _ _ _ _ _ _ _ _ [.int 1] _ _
                                refine J_ifT (tgt := 18) (by decide) (dk_X7_shift 13 _ rfl) (jI_ne (by decide : (1 : Int32).toInt = 1) (by decide : (0 : Int32).toInt = 0) (by omega)) ?_
                                refine J_aload_n (i := 0) (a := 0) rfl rfl (dk_X7_shift 18 _ rfl) ?_
                                refine J_getf fl_7_181 rfl rfl (dk_X7_shift 19 _ rfl) ?_
                                refine J_iload_n (i := 1) (a := 1) rfl rfl (dk_X7_shift 22 _ rfl) ?_
                                refine J_iald rfl (by decide) rfl (dk_X7_shift 23 _ rfl) ?_
                                refine J_ifT (tgt := 36) (by decide) (dk_X7_shift 24 _ rfl) (jI_lt (by decide : ((-1) : Int32).toInt = (-1)) (by decide : (0 : Int32).toInt = 0) (by omega)) ?_
                                refine J_bipush (v := (-11)) (by decide) (dk_X7_shift 36 _ rfl) ?_
                                exact J_iret rfl rfl (dk_X7_shift 38 _ rfl) ⟨rfl, rfl⟩
        · refine ⟨(-1), ?_, ?_⟩
          · refine jCt_of ok_X6_shift (fun _ _ => Nat.le_of_ble_eq_true rfl) (fun _ _ hq => Nat.le_of_eq (lX.trans hq.2.symm)) ?_
            show J _ _ _ _ _ _ _ _ [(0, .ref 0), (1, .int t), (2, .int i), (3, .int o), (4, .int j), (5, .int n)] _ _ _
            refine J_iload_n (i := 1) (a := 1) rfl rfl (dk_X6_shift 0 _ rfl) ?_
            refine J_cS (rv := some (.int 1)) (h' := hN0) (d' := 11) (As := [.int t]) ok_X6_isTape st_X6_isTape cl_6_220 rfl (n := 1) (by decide +kernel) rfl (by decide) (by decide) (dk_X6_shift 1 _ rfl) ?_ ?_
            · refine jCt_of ok_X6_isTape (fun _ _ => Nat.le_of_ble_eq_true rfl) (fun _ _ hq => by rw [hq.2]; first | exact Nat.le_refl _ | simp) ?_
              show J _ _ _ _ _ _ _ _ [(0, .int t)] _ _ _
              refine J_iload_n (i := 0) (a := 0) rfl rfl (dk_X6_isTape 0 _ rfl) ?_
              refine J_ifF (tgt := 14) (by decide) (dk_X6_isTape 1 _ rfl) (jI_nlt (rfl : (t : Int32).toInt = (t : Int32).toInt) (by decide : (0 : Int32).toInt = 0) (by omega)) ?_
              refine J_iload_n (i := 0) (a := 0) rfl rfl (dk_X6_isTape 4 _ rfl) ?_
              refine J_bipush (v := 6) (by decide) (dk_X6_isTape 5 _ rfl) ?_
              refine J_icF (tgt := 14) (by decide) (dk_X6_isTape 7 _ rfl) (jI_nle (by decide : (6 : Int32).toInt = 6) (rfl : (t : Int32).toInt = (t : Int32).toInt) (by omega)) ?_
              refine J_iconst (v := 1) (by decide) (dk_X6_isTape 10 _ rfl) ?_
              refine J_goto (tgt := 15) (by decide) (dk_X6_isTape 11 _ rfl) ?_
              exact J_iret rfl rfl (dk_X6_isTape 15 _ rfl) ⟨rfl, rfl⟩
            show J _ _ _ _ _ _ _ _ _ [.int 1] _ _
            refine J_ifF (tgt := 14) (by decide) (dk_X6_shift 4 _ rfl) (jI_ne (by decide : (1 : Int32).toInt = 1) (by decide : (0 : Int32).toInt = 0) (by omega)) ?_
            refine J_iload_n (i := 3) (a := 3) rfl rfl (dk_X6_shift 7 _ rfl) ?_
            refine J_cS (rv := some (.int 0)) (h' := hN0) (d' := 11) (As := [.int o]) ok_X6_isTape st_X6_isTape cl_6_220 rfl (n := 1) (by decide +kernel) rfl (by decide) (by decide) (dk_X6_shift 8 _ rfl) ?_ ?_
            · refine jCt_of ok_X6_isTape (fun _ _ => Nat.le_of_ble_eq_true rfl) (fun _ _ hq => by rw [hq.2]; first | exact Nat.le_refl _ | simp) ?_
              show J _ _ _ _ _ _ _ _ [(0, .int o)] _ _ _
              refine J_iload_n (i := 0) (a := 0) rfl rfl (dk_X6_isTape 0 _ rfl) ?_
              refine J_ifF (tgt := 14) (by decide) (dk_X6_isTape 1 _ rfl) (jI_nlt (rfl : (o : Int32).toInt = (o : Int32).toInt) (by decide : (0 : Int32).toInt = 0) (by omega)) ?_
              refine J_iload_n (i := 0) (a := 0) rfl rfl (dk_X6_isTape 4 _ rfl) ?_
              refine J_bipush (v := 6) (by decide) (dk_X6_isTape 5 _ rfl) ?_
              refine J_icT (tgt := 14) (by decide) (dk_X6_isTape 7 _ rfl) (jI_le (by decide : (6 : Int32).toInt = 6) (rfl : (o : Int32).toInt = (o : Int32).toInt) (by omega)) ?_
              refine J_iconst (v := 0) (by decide) (dk_X6_isTape 14 _ rfl) ?_
              exact J_iret rfl rfl (dk_X6_isTape 15 _ rfl) ⟨rfl, rfl⟩
            show J _ _ _ _ _ _ _ _ _ [.int 0] _ _
            refine J_ifF (tgt := 16) (by decide) (dk_X6_shift 11 _ rfl) (fun z => z (jI_eq (by decide : (0 : Int32).toInt = 0) (by decide : (0 : Int32).toInt = 0) (by omega))) ?_
            refine J_iconst (v := (-1)) (by decide) (dk_X6_shift 14 _ rfl) ?_
            exact J_iret rfl rfl (dk_X6_shift 15 _ rfl) ⟨rfl, rfl⟩
          · refine jCt_of ok_X7_shift (fun _ _ => Nat.le_of_ble_eq_true rfl) (fun _ _ hq => Nat.le_of_eq (lM.trans hq.2.symm)) ?_
            show J _ _ _ _ _ _ _ _ [(0, .ref 0), (1, .int t), (2, .int i), (3, .int o), (4, .int j), (5, .int n)] _ _ _
            refine J_aload_n (i := 0) (a := 0) rfl rfl (dk_X7_shift 0 _ rfl) ?_
            refine J_iload_n (i := 1) (a := 1) rfl rfl (dk_X7_shift 1 _ rfl) ?_
            refine J_cV (rv := some (.int 1)) (h' := hM0) (d' := 11) (As := [.int t]) ok_X7_isTape vi_X7_isTape cl_7_354 (n := 1) (by decide +kernel) rfl rfl rfl rfl (by decide) (by decide) (dk_X7_shift 2 _ rfl) ?_ ?_
            · refine jCt_of ok_X7_isTape (fun _ _ => Nat.le_of_ble_eq_true rfl) (fun _ _ hq => by rw [hq.2]; first | exact Nat.le_refl _ | simp) ?_
              show J _ _ _ _ _ _ _ _ [(0, .ref 0), (1, .int t)] _ _ _
              refine J_aload_n (i := 0) (a := 0) rfl rfl (dk_X7_isTape 0 _ rfl) ?_
              refine J_iload_n (i := 1) (a := 1) rfl rfl (dk_X7_isTape 1 _ rfl) ?_
              refine J_iconst (v := 0) (by decide) (dk_X7_isTape 2 _ rfl) ?_
              refine J_iconst (v := 5) (by decide) (dk_X7_isTape 3 _ rfl) ?_
              refine J_cV (rv := some (.int 1)) (h' := hM0) (d' := 10) (As := [.int t, .int 0, .int 5]) ok_X7_in vi_X7_in cl_7_194 (n := 3) (by decide +kernel) rfl rfl rfl rfl (by decide) (by decide) (dk_X7_isTape 4 _ rfl) ?_ ?_
              · refine jCt_of ok_X7_in (fun _ _ => Nat.le_of_ble_eq_true rfl) (fun _ _ hq => by rw [hq.2]; first | exact Nat.le_refl _ | simp) ?_
                show J _ _ _ _ _ _ _ _ [(0, .ref 0), (1, .int t), (2, .int 0), (3, .int 5)] _ _ _
                refine J_iload_n (i := 1) (a := 1) rfl rfl (dk_X7_in 0 _ rfl) ?_
                refine J_iload_n (i := 2) (a := 2) rfl rfl (dk_X7_in 1 _ rfl) ?_
                refine J_icF (tgt := 14) (by decide) (dk_X7_in 2 _ rfl) (jI_nlt (rfl : (t : Int32).toInt = (t : Int32).toInt) (by decide : (0 : Int32).toInt = 0) (by omega)) ?_
                refine J_iload_n (i := 1) (a := 1) rfl rfl (dk_X7_in 5 _ rfl) ?_
                refine J_iload_n (i := 3) (a := 3) rfl rfl (dk_X7_in 6 _ rfl) ?_
                refine J_icF (tgt := 14) (by decide) (dk_X7_in 7 _ rfl) (jI_nlt (by decide : (5 : Int32).toInt = 5) (rfl : (t : Int32).toInt = (t : Int32).toInt) (by omega)) ?_
                refine J_iconst (v := 1) (by decide) (dk_X7_in 10 _ rfl) ?_
                refine J_goto (tgt := 15) (by decide) (dk_X7_in 11 _ rfl) ?_
                exact J_iret rfl rfl (dk_X7_in 15 _ rfl) ⟨rfl, rfl⟩
              show J _ _ _ _ _ _ _ _ _ [.int 1] _ _
              exact J_iret rfl rfl (dk_X7_isTape 7 _ rfl) ⟨rfl, rfl⟩
            show J _ _ _ _ _ _ _ _ _ [.int 1] _ _
            refine J_ifF (tgt := 16) (by decide) (dk_X7_shift 5 _ rfl) (jI_ne (by decide : (1 : Int32).toInt = 1) (by decide : (0 : Int32).toInt = 0) (by omega)) ?_
            refine J_aload_n (i := 0) (a := 0) rfl rfl (dk_X7_shift 8 _ rfl) ?_
            refine J_iload_n (i := 3) (a := 3) rfl rfl (dk_X7_shift 9 _ rfl) ?_
            refine J_cV (rv := some (.int 0)) (h' := hM0) (d' := 11) (As := [.int o]) ok_X7_isTape vi_X7_isTape cl_7_354 (n := 1) (by decide +kernel) rfl rfl rfl rfl (by decide) (by decide) (dk_X7_shift 10 _ rfl) ?_ ?_
            · refine jCt_of ok_X7_isTape (fun _ _ => Nat.le_of_ble_eq_true rfl) (fun _ _ hq => by rw [hq.2]; first | exact Nat.le_refl _ | simp) ?_
              show J _ _ _ _ _ _ _ _ [(0, .ref 0), (1, .int o)] _ _ _
              refine J_aload_n (i := 0) (a := 0) rfl rfl (dk_X7_isTape 0 _ rfl) ?_
              refine J_iload_n (i := 1) (a := 1) rfl rfl (dk_X7_isTape 1 _ rfl) ?_
              refine J_iconst (v := 0) (by decide) (dk_X7_isTape 2 _ rfl) ?_
              refine J_iconst (v := 5) (by decide) (dk_X7_isTape 3 _ rfl) ?_
              refine J_cV (rv := some (.int 0)) (h' := hM0) (d' := 10) (As := [.int o, .int 0, .int 5]) ok_X7_in vi_X7_in cl_7_194 (n := 3) (by decide +kernel) rfl rfl rfl rfl (by decide) (by decide) (dk_X7_isTape 4 _ rfl) ?_ ?_
              · refine jCt_of ok_X7_in (fun _ _ => Nat.le_of_ble_eq_true rfl) (fun _ _ hq => by rw [hq.2]; first | exact Nat.le_refl _ | simp) ?_
                show J _ _ _ _ _ _ _ _ [(0, .ref 0), (1, .int o), (2, .int 0), (3, .int 5)] _ _ _
                refine J_iload_n (i := 1) (a := 1) rfl rfl (dk_X7_in 0 _ rfl) ?_
                refine J_iload_n (i := 2) (a := 2) rfl rfl (dk_X7_in 1 _ rfl) ?_
                refine J_icF (tgt := 14) (by decide) (dk_X7_in 2 _ rfl) (jI_nlt (rfl : (o : Int32).toInt = (o : Int32).toInt) (by decide : (0 : Int32).toInt = 0) (by omega)) ?_
                refine J_iload_n (i := 1) (a := 1) rfl rfl (dk_X7_in 5 _ rfl) ?_
                refine J_iload_n (i := 3) (a := 3) rfl rfl (dk_X7_in 6 _ rfl) ?_
                refine J_icT (tgt := 14) (by decide) (dk_X7_in 7 _ rfl) (jI_lt (by decide : (5 : Int32).toInt = 5) (rfl : (o : Int32).toInt = (o : Int32).toInt) (by omega)) ?_
                refine J_iconst (v := 0) (by decide) (dk_X7_in 14 _ rfl) ?_
                exact J_iret rfl rfl (dk_X7_in 15 _ rfl) ⟨rfl, rfl⟩
              show J _ _ _ _ _ _ _ _ _ [.int 0] _ _
              exact J_iret rfl rfl (dk_X7_isTape 7 _ rfl) ⟨rfl, rfl⟩
            show J _ _ _ _ _ _ _ _ _ [.int 0] _ _
            refine J_ifF (tgt := 18) (by decide) (dk_X7_shift 13 _ rfl) (fun z => z (jI_eq (by decide : (0 : Int32).toInt = 0) (by decide : (0 : Int32).toInt = 0) (by omega))) ?_
            refine J_iconst (v := (-1)) (by decide) (dk_X7_shift 16 _ rfl) ?_
            exact J_iret rfl rfl (dk_X7_shift 17 _ rfl) ⟨rfl, rfl⟩
    · refine ⟨(-1), ?_, ?_⟩
      · refine jCt_of ok_X6_shift (fun _ _ => Nat.le_of_ble_eq_true rfl) (fun _ _ hq => Nat.le_of_eq (lX.trans hq.2.symm)) ?_
        show J _ _ _ _ _ _ _ _ [(0, .ref 0), (1, .int t), (2, .int i), (3, .int o), (4, .int j), (5, .int n)] _ _ _
        refine J_iload_n (i := 1) (a := 1) rfl rfl (dk_X6_shift 0 _ rfl) ?_
        refine J_cS (rv := some (.int 0)) (h' := hN0) (d' := 11) (As := [.int t]) ok_X6_isTape st_X6_isTape cl_6_220 rfl (n := 1) (by decide +kernel) rfl (by decide) (by decide) (dk_X6_shift 1 _ rfl) ?_ ?_
        · refine jCt_of ok_X6_isTape (fun _ _ => Nat.le_of_ble_eq_true rfl) (fun _ _ hq => by rw [hq.2]; first | exact Nat.le_refl _ | simp) ?_
          show J _ _ _ _ _ _ _ _ [(0, .int t)] _ _ _
          refine J_iload_n (i := 0) (a := 0) rfl rfl (dk_X6_isTape 0 _ rfl) ?_
          refine J_ifF (tgt := 14) (by decide) (dk_X6_isTape 1 _ rfl) (jI_nlt (rfl : (t : Int32).toInt = (t : Int32).toInt) (by decide : (0 : Int32).toInt = 0) (by omega)) ?_
          refine J_iload_n (i := 0) (a := 0) rfl rfl (dk_X6_isTape 4 _ rfl) ?_
          refine J_bipush (v := 6) (by decide) (dk_X6_isTape 5 _ rfl) ?_
          refine J_icT (tgt := 14) (by decide) (dk_X6_isTape 7 _ rfl) (jI_le (by decide : (6 : Int32).toInt = 6) (rfl : (t : Int32).toInt = (t : Int32).toInt) (by omega)) ?_
          refine J_iconst (v := 0) (by decide) (dk_X6_isTape 14 _ rfl) ?_
          exact J_iret rfl rfl (dk_X6_isTape 15 _ rfl) ⟨rfl, rfl⟩
        show J _ _ _ _ _ _ _ _ _ [.int 0] _ _
        refine J_ifT (tgt := 14) (by decide) (dk_X6_shift 4 _ rfl) (jI_eq (by decide : (0 : Int32).toInt = 0) (by decide : (0 : Int32).toInt = 0) (by omega)) ?_
        refine J_iconst (v := (-1)) (by decide) (dk_X6_shift 14 _ rfl) ?_
        exact J_iret rfl rfl (dk_X6_shift 15 _ rfl) ⟨rfl, rfl⟩
      · refine jCt_of ok_X7_shift (fun _ _ => Nat.le_of_ble_eq_true rfl) (fun _ _ hq => Nat.le_of_eq (lM.trans hq.2.symm)) ?_
        show J _ _ _ _ _ _ _ _ [(0, .ref 0), (1, .int t), (2, .int i), (3, .int o), (4, .int j), (5, .int n)] _ _ _
        refine J_aload_n (i := 0) (a := 0) rfl rfl (dk_X7_shift 0 _ rfl) ?_
        refine J_iload_n (i := 1) (a := 1) rfl rfl (dk_X7_shift 1 _ rfl) ?_
        refine J_cV (rv := some (.int 0)) (h' := hM0) (d' := 11) (As := [.int t]) ok_X7_isTape vi_X7_isTape cl_7_354 (n := 1) (by decide +kernel) rfl rfl rfl rfl (by decide) (by decide) (dk_X7_shift 2 _ rfl) ?_ ?_
        · refine jCt_of ok_X7_isTape (fun _ _ => Nat.le_of_ble_eq_true rfl) (fun _ _ hq => by rw [hq.2]; first | exact Nat.le_refl _ | simp) ?_
          show J _ _ _ _ _ _ _ _ [(0, .ref 0), (1, .int t)] _ _ _
          refine J_aload_n (i := 0) (a := 0) rfl rfl (dk_X7_isTape 0 _ rfl) ?_
          refine J_iload_n (i := 1) (a := 1) rfl rfl (dk_X7_isTape 1 _ rfl) ?_
          refine J_iconst (v := 0) (by decide) (dk_X7_isTape 2 _ rfl) ?_
          refine J_iconst (v := 5) (by decide) (dk_X7_isTape 3 _ rfl) ?_
          refine J_cV (rv := some (.int 0)) (h' := hM0) (d' := 10) (As := [.int t, .int 0, .int 5]) ok_X7_in vi_X7_in cl_7_194 (n := 3) (by decide +kernel) rfl rfl rfl rfl (by decide) (by decide) (dk_X7_isTape 4 _ rfl) ?_ ?_
          · refine jCt_of ok_X7_in (fun _ _ => Nat.le_of_ble_eq_true rfl) (fun _ _ hq => by rw [hq.2]; first | exact Nat.le_refl _ | simp) ?_
            show J _ _ _ _ _ _ _ _ [(0, .ref 0), (1, .int t), (2, .int 0), (3, .int 5)] _ _ _
            refine J_iload_n (i := 1) (a := 1) rfl rfl (dk_X7_in 0 _ rfl) ?_
            refine J_iload_n (i := 2) (a := 2) rfl rfl (dk_X7_in 1 _ rfl) ?_
            refine J_icF (tgt := 14) (by decide) (dk_X7_in 2 _ rfl) (jI_nlt (rfl : (t : Int32).toInt = (t : Int32).toInt) (by decide : (0 : Int32).toInt = 0) (by omega)) ?_
            refine J_iload_n (i := 1) (a := 1) rfl rfl (dk_X7_in 5 _ rfl) ?_
            refine J_iload_n (i := 3) (a := 3) rfl rfl (dk_X7_in 6 _ rfl) ?_
            refine J_icT (tgt := 14) (by decide) (dk_X7_in 7 _ rfl) (jI_lt (by decide : (5 : Int32).toInt = 5) (rfl : (t : Int32).toInt = (t : Int32).toInt) (by omega)) ?_
            refine J_iconst (v := 0) (by decide) (dk_X7_in 14 _ rfl) ?_
            exact J_iret rfl rfl (dk_X7_in 15 _ rfl) ⟨rfl, rfl⟩
          show J _ _ _ _ _ _ _ _ _ [.int 0] _ _
          exact J_iret rfl rfl (dk_X7_isTape 7 _ rfl) ⟨rfl, rfl⟩
        show J _ _ _ _ _ _ _ _ _ [.int 0] _ _
        refine J_ifT (tgt := 16) (by decide) (dk_X7_shift 5 _ rfl) (jI_eq (by decide : (0 : Int32).toInt = 0) (by decide : (0 : Int32).toInt = 0) (by omega)) ?_
        refine J_iconst (v := (-1)) (by decide) (dk_X7_shift 16 _ rfl) ?_
        exact J_iret rfl rfl (dk_X7_shift 17 _ rfl) ⟨rfl, rfl⟩
