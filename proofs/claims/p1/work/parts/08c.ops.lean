set_option maxHeartbeats 4000000 in
set_option maxRecDepth 1000000 in
theorem o_person (k : Int32) (n : Int32) (b : Int32) (d : Int32) : ∃ rv : Int32, jCt m_X6_person 12 0 0 [.ref 0, .int k, .int n, .int b, .int d] hN0 (jA (.int rv) 94) ∧ jCt m_X7_person 12 0 0 [.ref 0, .int k, .int n, .int b, .int d] hM0 (jA (.int rv) 37) := by
  have r_k := k.toInt_lt; have q_k := k.le_toInt
  have r_n := n.toInt_lt; have q_n := n.le_toInt
  have r_b := b.toInt_lt; have q_b := b.le_toInt
  have r_d := d.toInt_lt; have q_d := d.le_toInt
  by_cases c1 : (k : Int32).toInt < 0
  · refine ⟨(-1), ?_, ?_⟩
    · refine jCt_of ok_X6_person (fun _ _ => Nat.le_of_ble_eq_true rfl) (fun _ _ hq => Nat.le_of_eq (lX.trans hq.2.symm)) ?_
      show J _ _ _ _ _ _ _ _ [(0, .ref 0), (1, .int k), (2, .int n), (3, .int b), (4, .int d)] _ _ _
      refine J_iload_n (i := 1) (a := 1) rfl rfl (dk_X6_person 0 _ rfl) ?_
      refine J_ifT (tgt := 10) (by decide) (dk_X6_person 1 _ rfl) (jI_lt (rfl : (k : Int32).toInt = (k : Int32).toInt) (by decide : (0 : Int32).toInt = 0) (by omega)) ?_
      refine J_iconst (v := (-1)) (by decide) (dk_X6_person 10 _ rfl) ?_
      exact J_iret rfl rfl (dk_X6_person 11 _ rfl) ⟨rfl, rfl⟩
    · refine jCt_of ok_X7_person (fun _ _ => Nat.le_of_ble_eq_true rfl) (fun _ _ hq => Nat.le_of_eq (lM.trans hq.2.symm)) ?_
      show J _ _ _ _ _ _ _ _ [(0, .ref 0), (1, .int k), (2, .int n), (3, .int b), (4, .int d)] _ _ _
      refine J_aload_n (i := 0) (a := 0) rfl rfl (dk_X7_person 0 _ rfl) ?_
      refine J_iload_n (i := 1) (a := 1) rfl rfl (dk_X7_person 1 _ rfl) ?_
      refine J_iconst (v := 0) (by decide) (dk_X7_person 2 _ rfl) ?_
      refine J_bipush (v := 6) (by decide) (dk_X7_person 3 _ rfl) ?_
      refine J_cV (rv := some (.int 0)) (h' := hM0) (d' := 11) (As := [.int k, .int 0, .int 6]) ok_X7_in vi_X7_in cl_7_194 (n := 3) (by decide +kernel) rfl rfl rfl rfl (by decide) (by decide) (dk_X7_person 5 _ rfl) ?_ ?_
      · refine jCt_of ok_X7_in (fun _ _ => Nat.le_of_ble_eq_true rfl) (fun _ _ hq => by rw [hq.2]; first | exact Nat.le_refl _ | simp) ?_
        show J _ _ _ _ _ _ _ _ [(0, .ref 0), (1, .int k), (2, .int 0), (3, .int 6)] _ _ _
        refine J_iload_n (i := 1) (a := 1) rfl rfl (dk_X7_in 0 _ rfl) ?_
        refine J_iload_n (i := 2) (a := 2) rfl rfl (dk_X7_in 1 _ rfl) ?_
        refine J_icT (tgt := 14) (by decide) (dk_X7_in 2 _ rfl) (jI_lt (rfl : (k : Int32).toInt = (k : Int32).toInt) (by decide : (0 : Int32).toInt = 0) (by omega)) ?_
        refine J_iconst (v := 0) (by decide) (dk_X7_in 14 _ rfl) ?_
        exact J_iret rfl rfl (dk_X7_in 15 _ rfl) ⟨rfl, rfl⟩
      show J _ _ _ _ _ _ _ _ _ [.int 0] _ _
      refine J_ifF (tgt := 13) (by decide) (dk_X7_person 8 _ rfl) (fun z => z (jI_eq (by decide : (0 : Int32).toInt = 0) (by decide : (0 : Int32).toInt = 0) (by omega))) ?_
      refine J_iconst (v := (-1)) (by decide) (dk_X7_person 11 _ rfl) ?_
      exact J_iret rfl rfl (dk_X7_person 12 _ rfl) ⟨rfl, rfl⟩
  · by_cases c2 : (k : Int32).toInt < 7
    · by_cases c3 : (n : Int32).toInt < 0
      · refine ⟨(-2), ?_, ?_⟩
        · refine jCt_of ok_X6_person (fun _ _ => Nat.le_of_ble_eq_true rfl) (fun _ _ hq => Nat.le_of_eq (lX.trans hq.2.symm)) ?_
          show J _ _ _ _ _ _ _ _ [(0, .ref 0), (1, .int k), (2, .int n), (3, .int b), (4, .int d)] _ _ _
          refine J_iload_n (i := 1) (a := 1) rfl rfl (dk_X6_person 0 _ rfl) ?_
          refine J_ifF (tgt := 10) (by decide) (dk_X6_person 1 _ rfl) (jI_nlt (rfl : (k : Int32).toInt = (k : Int32).toInt) (by decide : (0 : Int32).toInt = 0) (by omega)) ?_
          refine J_iload_n (i := 1) (a := 1) rfl rfl (dk_X6_person 4 _ rfl) ?_
          refine J_bipush (v := 7) (by decide) (dk_X6_person 5 _ rfl) ?_
          refine J_icT (tgt := 12) (by decide) (dk_X6_person 7 _ rfl) (jI_lt (rfl : (k : Int32).toInt = (k : Int32).toInt) (by decide : (7 : Int32).toInt = 7) (by omega)) ?_
          refine J_iload_n (i := 2) (a := 2) rfl rfl (dk_X6_person 12 _ rfl) ?_
          refine J_ifT (tgt := 37) (by decide) (dk_X6_person 13 _ rfl) (jI_lt (rfl : (n : Int32).toInt = (n : Int32).toInt) (by decide : (0 : Int32).toInt = 0) (by omega)) ?_
          refine J_bipush (v := (-2)) (by decide) (dk_X6_person 37 _ rfl) ?_
          exact J_iret rfl rfl (dk_X6_person 39 _ rfl) ⟨rfl, rfl⟩
        · refine jCt_of ok_X7_person (fun _ _ => Nat.le_of_ble_eq_true rfl) (fun _ _ hq => Nat.le_of_eq (lM.trans hq.2.symm)) ?_
          show J _ _ _ _ _ _ _ _ [(0, .ref 0), (1, .int k), (2, .int n), (3, .int b), (4, .int d)] _ _ _
          refine J_aload_n (i := 0) (a := 0) rfl rfl (dk_X7_person 0 _ rfl) ?_
          refine J_iload_n (i := 1) (a := 1) rfl rfl (dk_X7_person 1 _ rfl) ?_
          refine J_iconst (v := 0) (by decide) (dk_X7_person 2 _ rfl) ?_
          refine J_bipush (v := 6) (by decide) (dk_X7_person 3 _ rfl) ?_
          refine J_cV (rv := some (.int 1)) (h' := hM0) (d' := 11) (As := [.int k, .int 0, .int 6]) ok_X7_in vi_X7_in cl_7_194 (n := 3) (by decide +kernel) rfl rfl rfl rfl (by decide) (by decide) (dk_X7_person 5 _ rfl) ?_ ?_
          · refine jCt_of ok_X7_in (fun _ _ => Nat.le_of_ble_eq_true rfl) (fun _ _ hq => by rw [hq.2]; first | exact Nat.le_refl _ | simp) ?_
            show J _ _ _ _ _ _ _ _ [(0, .ref 0), (1, .int k), (2, .int 0), (3, .int 6)] _ _ _
            refine J_iload_n (i := 1) (a := 1) rfl rfl (dk_X7_in 0 _ rfl) ?_
            refine J_iload_n (i := 2) (a := 2) rfl rfl (dk_X7_in 1 _ rfl) ?_
            refine J_icF (tgt := 14) (by decide) (dk_X7_in 2 _ rfl) (jI_nlt (rfl : (k : Int32).toInt = (k : Int32).toInt) (by decide : (0 : Int32).toInt = 0) (by omega)) ?_
            refine J_iload_n (i := 1) (a := 1) rfl rfl (dk_X7_in 5 _ rfl) ?_
            refine J_iload_n (i := 3) (a := 3) rfl rfl (dk_X7_in 6 _ rfl) ?_
            refine J_icF (tgt := 14) (by decide) (dk_X7_in 7 _ rfl) (jI_nlt (by decide : (6 : Int32).toInt = 6) (rfl : (k : Int32).toInt = (k : Int32).toInt) (by omega)) ?_
            refine J_iconst (v := 1) (by decide) (dk_X7_in 10 _ rfl) ?_
            refine J_goto (tgt := 15) (by decide) (dk_X7_in 11 _ rfl) ?_
            exact J_iret rfl rfl (dk_X7_in 15 _ rfl) ⟨rfl, rfl⟩
          show J _ _ _ _ _ _ _ _ _ [.int 1] _ _
          refine J_ifT (tgt := 13) (by decide) (dk_X7_person 8 _ rfl) (jI_ne (by decide : (1 : Int32).toInt = 1) (by decide : (0 : Int32).toInt = 0) (by omega)) ?_
          refine J_aload_n (i := 0) (a := 0) rfl rfl (dk_X7_person 13 _ rfl) ?_
          refine J_iload_n (i := 2) (a := 2) rfl rfl (dk_X7_person 14 _ rfl) ?_
          refine J_iconst (v := 0) (by decide) (dk_X7_person 15 _ rfl) ?_
          refine J_bipush (v := 9) (by decide) (dk_X7_person 16 _ rfl) ?_
          refine J_cV (rv := some (.int 0)) (h' := hM0) (d' := 11) (As := [.int n, .int 0, .int 9]) ok_X7_in vi_X7_in cl_7_194 (n := 3) (by decide +kernel) rfl rfl rfl rfl (by decide) (by decide) (dk_X7_person 18 _ rfl) ?_ ?_
          · refine jCt_of ok_X7_in (fun _ _ => Nat.le_of_ble_eq_true rfl) (fun _ _ hq => by rw [hq.2]; first | exact Nat.le_refl _ | simp) ?_
            show J _ _ _ _ _ _ _ _ [(0, .ref 0), (1, .int n), (2, .int 0), (3, .int 9)] _ _ _
            refine J_iload_n (i := 1) (a := 1) rfl rfl (dk_X7_in 0 _ rfl) ?_
            refine J_iload_n (i := 2) (a := 2) rfl rfl (dk_X7_in 1 _ rfl) ?_
            refine J_icT (tgt := 14) (by decide) (dk_X7_in 2 _ rfl) (jI_lt (rfl : (n : Int32).toInt = (n : Int32).toInt) (by decide : (0 : Int32).toInt = 0) (by omega)) ?_
            refine J_iconst (v := 0) (by decide) (dk_X7_in 14 _ rfl) ?_
            exact J_iret rfl rfl (dk_X7_in 15 _ rfl) ⟨rfl, rfl⟩
          show J _ _ _ _ _ _ _ _ _ [.int 0] _ _
          refine J_ifT (tgt := 41) (by decide) (dk_X7_person 21 _ rfl) (jI_eq (by decide : (0 : Int32).toInt = 0) (by decide : (0 : Int32).toInt = 0) (by omega)) ?_
          refine J_bipush (v := (-2)) (by decide) (dk_X7_person 41 _ rfl) ?_
          exact J_iret rfl rfl (dk_X7_person 43 _ rfl) ⟨rfl, rfl⟩
      · by_cases c4 : (n : Int32).toInt < 10
        · by_cases c5 : (b : Int32).toInt < 0
          · refine ⟨(-2), ?_, ?_⟩
            · refine jCt_of ok_X6_person (fun _ _ => Nat.le_of_ble_eq_true rfl) (fun _ _ hq => Nat.le_of_eq (lX.trans hq.2.symm)) ?_
              show J _ _ _ _ _ _ _ _ [(0, .ref 0), (1, .int k), (2, .int n), (3, .int b), (4, .int d)] _ _ _
              refine J_iload_n (i := 1) (a := 1) rfl rfl (dk_X6_person 0 _ rfl) ?_
              refine J_ifF (tgt := 10) (by decide) (dk_X6_person 1 _ rfl) (jI_nlt (rfl : (k : Int32).toInt = (k : Int32).toInt) (by decide : (0 : Int32).toInt = 0) (by omega)) ?_
              refine J_iload_n (i := 1) (a := 1) rfl rfl (dk_X6_person 4 _ rfl) ?_
              refine J_bipush (v := 7) (by decide) (dk_X6_person 5 _ rfl) ?_
              refine J_icT (tgt := 12) (by decide) (dk_X6_person 7 _ rfl) (jI_lt (rfl : (k : Int32).toInt = (k : Int32).toInt) (by decide : (7 : Int32).toInt = 7) (by omega)) ?_
              refine J_iload_n (i := 2) (a := 2) rfl rfl (dk_X6_person 12 _ rfl) ?_
              refine J_ifF (tgt := 37) (by decide) (dk_X6_person 13 _ rfl) (jI_nlt (rfl : (n : Int32).toInt = (n : Int32).toInt) (by decide : (0 : Int32).toInt = 0) (by omega)) ?_
              refine J_iload_n (i := 2) (a := 2) rfl rfl (dk_X6_person 16 _ rfl) ?_
              refine J_bipush (v := 10) (by decide) (dk_X6_person 17 _ rfl) ?_
              refine J_icF (tgt := 37) (by decide) (dk_X6_person 19 _ rfl) (jI_nle (by decide : (10 : Int32).toInt = 10) (rfl : (n : Int32).toInt = (n : Int32).toInt) (by omega)) ?_
              refine J_iload_n (i := 3) (a := 3) rfl rfl (dk_X6_person 22 _ rfl) ?_
              refine J_cS (rv := some (.int 0)) (h' := hN0) (d' := 11) (As := [.int b]) ok_X6_isDay st_X6_isDay cl_6_67 rfl (n := 1) (by decide +kernel) rfl (by decide) (by decide) (dk_X6_person 23 _ rfl) ?_ ?_
              · refine jCt_of ok_X6_isDay (fun _ _ => Nat.le_of_ble_eq_true rfl) (fun _ _ hq => by rw [hq.2]; first | exact Nat.le_refl _ | simp) ?_
                show J _ _ _ _ _ _ _ _ [(0, .int b)] _ _ _
                refine J_iload_n (i := 0) (a := 0) rfl rfl (dk_X6_isDay 0 _ rfl) ?_
                refine J_ifT (tgt := 14) (by decide) (dk_X6_isDay 1 _ rfl) (jI_lt (rfl : (b : Int32).toInt = (b : Int32).toInt) (by decide : (0 : Int32).toInt = 0) (by omega)) ?_
                refine J_iconst (v := 0) (by decide) (dk_X6_isDay 14 _ rfl) ?_
                exact J_iret rfl rfl (dk_X6_isDay 15 _ rfl) ⟨rfl, rfl⟩
              show J _ _ _ _ _ _ _ _ _ [.int 0] _ _
              refine J_ifT (tgt := 37) (by decide) (dk_X6_person 26 _ rfl) (jI_eq (by decide : (0 : Int32).toInt = 0) (by decide : (0 : Int32).toInt = 0) (by omega)) ?_
              refine J_bipush (v := (-2)) (by decide) (dk_X6_person 37 _ rfl) ?_
              exact J_iret rfl rfl (dk_X6_person 39 _ rfl) ⟨rfl, rfl⟩
            · refine jCt_of ok_X7_person (fun _ _ => Nat.le_of_ble_eq_true rfl) (fun _ _ hq => Nat.le_of_eq (lM.trans hq.2.symm)) ?_
              show J _ _ _ _ _ _ _ _ [(0, .ref 0), (1, .int k), (2, .int n), (3, .int b), (4, .int d)] _ _ _
              refine J_aload_n (i := 0) (a := 0) rfl rfl (dk_X7_person 0 _ rfl) ?_
              refine J_iload_n (i := 1) (a := 1) rfl rfl (dk_X7_person 1 _ rfl) ?_
              refine J_iconst (v := 0) (by decide) (dk_X7_person 2 _ rfl) ?_
              refine J_bipush (v := 6) (by decide) (dk_X7_person 3 _ rfl) ?_
              refine J_cV (rv := some (.int 1)) (h' := hM0) (d' := 11) (As := [.int k, .int 0, .int 6]) ok_X7_in vi_X7_in cl_7_194 (n := 3) (by decide +kernel) rfl rfl rfl rfl (by decide) (by decide) (dk_X7_person 5 _ rfl) ?_ ?_
              · refine jCt_of ok_X7_in (fun _ _ => Nat.le_of_ble_eq_true rfl) (fun _ _ hq => by rw [hq.2]; first | exact Nat.le_refl _ | simp) ?_
                show J _ _ _ _ _ _ _ _ [(0, .ref 0), (1, .int k), (2, .int 0), (3, .int 6)] _ _ _
                refine J_iload_n (i := 1) (a := 1) rfl rfl (dk_X7_in 0 _ rfl) ?_
                refine J_iload_n (i := 2) (a := 2) rfl rfl (dk_X7_in 1 _ rfl) ?_
                refine J_icF (tgt := 14) (by decide) (dk_X7_in 2 _ rfl) (jI_nlt (rfl : (k : Int32).toInt = (k : Int32).toInt) (by decide : (0 : Int32).toInt = 0) (by omega)) ?_
                refine J_iload_n (i := 1) (a := 1) rfl rfl (dk_X7_in 5 _ rfl) ?_
                refine J_iload_n (i := 3) (a := 3) rfl rfl (dk_X7_in 6 _ rfl) ?_
                refine J_icF (tgt := 14) (by decide) (dk_X7_in 7 _ rfl) (jI_nlt (by decide : (6 : Int32).toInt = 6) (rfl : (k : Int32).toInt = (k : Int32).toInt) (by omega)) ?_
                refine J_iconst (v := 1) (by decide) (dk_X7_in 10 _ rfl) ?_
                refine J_goto (tgt := 15) (by decide) (dk_X7_in 11 _ rfl) ?_
                exact J_iret rfl rfl (dk_X7_in 15 _ rfl) ⟨rfl, rfl⟩
              show J _ _ _ _ _ _ _ _ _ [.int 1] _ _
              refine J_ifT (tgt := 13) (by decide) (dk_X7_person 8 _ rfl) (jI_ne (by decide : (1 : Int32).toInt = 1) (by decide : (0 : Int32).toInt = 0) (by omega)) ?_
              refine J_aload_n (i := 0) (a := 0) rfl rfl (dk_X7_person 13 _ rfl) ?_
              refine J_iload_n (i := 2) (a := 2) rfl rfl (dk_X7_person 14 _ rfl) ?_
              refine J_iconst (v := 0) (by decide) (dk_X7_person 15 _ rfl) ?_
              refine J_bipush (v := 9) (by decide) (dk_X7_person 16 _ rfl) ?_
              refine J_cV (rv := some (.int 1)) (h' := hM0) (d' := 11) (As := [.int n, .int 0, .int 9]) ok_X7_in vi_X7_in cl_7_194 (n := 3) (by decide +kernel) rfl rfl rfl rfl (by decide) (by decide) (dk_X7_person 18 _ rfl) ?_ ?_
              · refine jCt_of ok_X7_in (fun _ _ => Nat.le_of_ble_eq_true rfl) (fun _ _ hq => by rw [hq.2]; first | exact Nat.le_refl _ | simp) ?_
                show J _ _ _ _ _ _ _ _ [(0, .ref 0), (1, .int n), (2, .int 0), (3, .int 9)] _ _ _
                refine J_iload_n (i := 1) (a := 1) rfl rfl (dk_X7_in 0 _ rfl) ?_
                refine J_iload_n (i := 2) (a := 2) rfl rfl (dk_X7_in 1 _ rfl) ?_
                refine J_icF (tgt := 14) (by decide) (dk_X7_in 2 _ rfl) (jI_nlt (rfl : (n : Int32).toInt = (n : Int32).toInt) (by decide : (0 : Int32).toInt = 0) (by omega)) ?_
                refine J_iload_n (i := 1) (a := 1) rfl rfl (dk_X7_in 5 _ rfl) ?_
                refine J_iload_n (i := 3) (a := 3) rfl rfl (dk_X7_in 6 _ rfl) ?_
                refine J_icF (tgt := 14) (by decide) (dk_X7_in 7 _ rfl) (jI_nlt (by decide : (9 : Int32).toInt = 9) (rfl : (n : Int32).toInt = (n : Int32).toInt) (by omega)) ?_
                refine J_iconst (v := 1) (by decide) (dk_X7_in 10 _ rfl) ?_
                refine J_goto (tgt := 15) (by decide) (dk_X7_in 11 _ rfl) ?_
                exact J_iret rfl rfl (dk_X7_in 15 _ rfl) ⟨rfl, rfl⟩
              show J _ _ _ _ _ _ _ _ _ [.int 1] _ _
              refine J_ifF (tgt := 41) (by decide) (dk_X7_person 21 _ rfl) (jI_ne (by decide : (1 : Int32).toInt = 1) (by decide : (0 : Int32).toInt = 0) (by omega)) ?_
              refine J_aload_n (i := 0) (a := 0) rfl rfl (dk_X7_person 24 _ rfl) ?_
              refine J_iload_n (i := 3) (a := 3) rfl rfl (dk_X7_person 25 _ rfl) ?_
              refine J_cV (rv := some (.int 0)) (h' := hM0) (d' := 11) (As := [.int b]) ok_X7_isDay vi_X7_isDay cl_7_198 (n := 1) (by decide +kernel) rfl rfl rfl rfl (by decide) (by decide) (dk_X7_person 26 _ rfl) ?_ ?_
              · refine jCt_of ok_X7_isDay (fun _ _ => Nat.le_of_ble_eq_true rfl) (fun _ _ hq => by rw [hq.2]; first | exact Nat.le_refl _ | simp) ?_
                show J _ _ _ _ _ _ _ _ [(0, .ref 0), (1, .int b)] _ _ _
                refine J_aload_n (i := 0) (a := 0) rfl rfl (dk_X7_isDay 0 _ rfl) ?_
                refine J_iload_n (i := 1) (a := 1) rfl rfl (dk_X7_isDay 1 _ rfl) ?_
                refine J_iconst (v := 0) (by decide) (dk_X7_isDay 2 _ rfl) ?_
                refine J_bipush (v := 11) (by decide) (dk_X7_isDay 3 _ rfl) ?_
                refine J_cV (rv := some (.int 0)) (h' := hM0) (d' := 10) (As := [.int b, .int 0, .int 11]) ok_X7_in vi_X7_in cl_7_194 (n := 3) (by decide +kernel) rfl rfl rfl rfl (by decide) (by decide) (dk_X7_isDay 5 _ rfl) ?_ ?_
                · refine jCt_of ok_X7_in (fun _ _ => Nat.le_of_ble_eq_true rfl) (fun _ _ hq => by rw [hq.2]; first | exact Nat.le_refl _ | simp) ?_
                  show J _ _ _ _ _ _ _ _ [(0, .ref 0), (1, .int b), (2, .int 0), (3, .int 11)] _ _ _
                  refine J_iload_n (i := 1) (a := 1) rfl rfl (dk_X7_in 0 _ rfl) ?_
                  refine J_iload_n (i := 2) (a := 2) rfl rfl (dk_X7_in 1 _ rfl) ?_
                  refine J_icT (tgt := 14) (by decide) (dk_X7_in 2 _ rfl) (jI_lt (rfl : (b : Int32).toInt = (b : Int32).toInt) (by decide : (0 : Int32).toInt = 0) (by omega)) ?_
                  refine J_iconst (v := 0) (by decide) (dk_X7_in 14 _ rfl) ?_
                  exact J_iret rfl rfl (dk_X7_in 15 _ rfl) ⟨rfl, rfl⟩
                show J _ _ _ _ _ _ _ _ _ [.int 0] _ _
                exact J_iret rfl rfl (dk_X7_isDay 8 _ rfl) ⟨rfl, rfl⟩
              show J _ _ _ _ _ _ _ _ _ [.int 0] _ _
              refine J_ifT (tgt := 41) (by decide) (dk_X7_person 29 _ rfl) (jI_eq (by decide : (0 : Int32).toInt = 0) (by decide : (0 : Int32).toInt = 0) (by omega)) ?_
              refine J_bipush (v := (-2)) (by decide) (dk_X7_person 41 _ rfl) ?_
              exact J_iret rfl rfl (dk_X7_person 43 _ rfl) ⟨rfl, rfl⟩
          · by_cases c6 : (b : Int32).toInt < 12
            · by_cases c7 : (d : Int32).toInt < 0
              · refine ⟨(-2), ?_, ?_⟩
                · refine jCt_of ok_X6_person (fun _ _ => Nat.le_of_ble_eq_true rfl) (fun _ _ hq => Nat.le_of_eq (lX.trans hq.2.symm)) ?_
                  show J _ _ _ _ _ _ _ _ [(0, .ref 0), (1, .int k), (2, .int n), (3, .int b), (4, .int d)] _ _ _
                  refine J_iload_n (i := 1) (a := 1) rfl rfl (dk_X6_person 0 _ rfl) ?_
                  refine J_ifF (tgt := 10) (by decide) (dk_X6_person 1 _ rfl) (jI_nlt (rfl : (k : Int32).toInt = (k : Int32).toInt) (by decide : (0 : Int32).toInt = 0) (by omega)) ?_
                  refine J_iload_n (i := 1) (a := 1) rfl rfl (dk_X6_person 4 _ rfl) ?_
                  refine J_bipush (v := 7) (by decide) (dk_X6_person 5 _ rfl) ?_
                  refine J_icT (tgt := 12) (by decide) (dk_X6_person 7 _ rfl) (jI_lt (rfl : (k : Int32).toInt = (k : Int32).toInt) (by decide : (7 : Int32).toInt = 7) (by omega)) ?_
                  refine J_iload_n (i := 2) (a := 2) rfl rfl (dk_X6_person 12 _ rfl) ?_
                  refine J_ifF (tgt := 37) (by decide) (dk_X6_person 13 _ rfl) (jI_nlt (rfl : (n : Int32).toInt = (n : Int32).toInt) (by decide : (0 : Int32).toInt = 0) (by omega)) ?_
                  refine J_iload_n (i := 2) (a := 2) rfl rfl (dk_X6_person 16 _ rfl) ?_
                  refine J_bipush (v := 10) (by decide) (dk_X6_person 17 _ rfl) ?_
                  refine J_icF (tgt := 37) (by decide) (dk_X6_person 19 _ rfl) (jI_nle (by decide : (10 : Int32).toInt = 10) (rfl : (n : Int32).toInt = (n : Int32).toInt) (by omega)) ?_
                  refine J_iload_n (i := 3) (a := 3) rfl rfl (dk_X6_person 22 _ rfl) ?_
                  refine J_cS (rv := some (.int 1)) (h' := hN0) (d' := 11) (As := [.int b]) ok_X6_isDay st_X6_isDay cl_6_67 rfl (n := 1) (by decide +kernel) rfl (by decide) (by decide) (dk_X6_person 23 _ rfl) ?_ ?_
                  · refine jCt_of ok_X6_isDay (fun _ _ => Nat.le_of_ble_eq_true rfl) (fun _ _ hq => by rw [hq.2]; first | exact Nat.le_refl _ | simp) ?_
                    show J _ _ _ _ _ _ _ _ [(0, .int b)] _ _ _
                    refine J_iload_n (i := 0) (a := 0) rfl rfl (dk_X6_isDay 0 _ rfl) ?_
                    refine J_ifF (tgt := 14) (by decide) (dk_X6_isDay 1 _ rfl) (jI_nlt (rfl : (b : Int32).toInt = (b : Int32).toInt) (by decide : (0 : Int32).toInt = 0) (by omega)) ?_
                    refine J_iload_n (i := 0) (a := 0) rfl rfl (dk_X6_isDay 4 _ rfl) ?_
                    refine J_bipush (v := 12) (by decide) (dk_X6_isDay 5 _ rfl) ?_
                    refine J_icF (tgt := 14) (by decide) (dk_X6_isDay 7 _ rfl) (jI_nle (by decide : (12 : Int32).toInt = 12) (rfl : (b : Int32).toInt = (b : Int32).toInt) (by omega)) ?_
                    refine J_iconst (v := 1) (by decide) (dk_X6_isDay 10 _ rfl) ?_
                    refine J_goto (tgt := 15) (by decide) (dk_X6_isDay 11 _ rfl) ?_
                    exact J_iret rfl rfl (dk_X6_isDay 15 _ rfl) ⟨rfl, rfl⟩
                  show J _ _ _ _ _ _ _ _ _ [.int 1] _ _
                  refine J_ifF (tgt := 37) (by decide) (dk_X6_person 26 _ rfl) (jI_ne (by decide : (1 : Int32).toInt = 1) (by decide : (0 : Int32).toInt = 0) (by omega)) ?_
                  refine J_iload (i := 4) rfl (dk_X6_person 29 _ rfl) ?_
                  refine J_cS (rv := some (.int 0)) (h' := hN0) (d' := 11) (As := [.int d]) ok_X6_isDay st_X6_isDay cl_6_67 rfl (n := 1) (by decide +kernel) rfl (by decide) (by decide) (dk_X6_person 31 _ rfl) ?_ ?_
                  · refine jCt_of ok_X6_isDay (fun _ _ => Nat.le_of_ble_eq_true rfl) (fun _ _ hq => by rw [hq.2]; first | exact Nat.le_refl _ | simp) ?_
                    show J _ _ _ _ _ _ _ _ [(0, .int d)] _ _ _
                    refine J_iload_n (i := 0) (a := 0) rfl rfl (dk_X6_isDay 0 _ rfl) ?_
                    refine J_ifT (tgt := 14) (by decide) (dk_X6_isDay 1 _ rfl) (jI_lt (rfl : (d : Int32).toInt = (d : Int32).toInt) (by decide : (0 : Int32).toInt = 0) (by omega)) ?_
                    refine J_iconst (v := 0) (by decide) (dk_X6_isDay 14 _ rfl) ?_
                    exact J_iret rfl rfl (dk_X6_isDay 15 _ rfl) ⟨rfl, rfl⟩
                  show J _ _ _ _ _ _ _ _ _ [.int 0] _ _
                  refine J_ifF (tgt := 40) (by decide) (dk_X6_person 34 _ rfl) (fun z => z (jI_eq (by decide : (0 : Int32).toInt = 0) (by decide : (0 : Int32).toInt = 0) (by omega))) ?_
                  refine J_bipush (v := (-2)) (by decide) (dk_X6_person 37 _ rfl) ?_
                  exact J_iret rfl rfl (dk_X6_person 39 _ rfl) ⟨rfl, rfl⟩
                · refine jCt_of ok_X7_person (fun _ _ => Nat.le_of_ble_eq_true rfl) (fun _ _ hq => Nat.le_of_eq (lM.trans hq.2.symm)) ?_
                  show J _ _ _ _ _ _ _ _ [(0, .ref 0), (1, .int k), (2, .int n), (3, .int b), (4, .int d)] _ _ _
                  refine J_aload_n (i := 0) (a := 0) rfl rfl (dk_X7_person 0 _ rfl) ?_
                  refine J_iload_n (i := 1) (a := 1) rfl rfl (dk_X7_person 1 _ rfl) ?_
                  refine J_iconst (v := 0) (by decide) (dk_X7_person 2 _ rfl) ?_
                  refine J_bipush (v := 6) (by decide) (dk_X7_person 3 _ rfl) ?_
                  refine J_cV (rv := some (.int 1)) (h' := hM0) (d' := 11) (As := [.int k, .int 0, .int 6]) ok_X7_in vi_X7_in cl_7_194 (n := 3) (by decide +kernel) rfl rfl rfl rfl (by decide) (by decide) (dk_X7_person 5 _ rfl) ?_ ?_
                  · refine jCt_of ok_X7_in (fun _ _ => Nat.le_of_ble_eq_true rfl) (fun _ _ hq => by rw [hq.2]; first | exact Nat.le_refl _ | simp) ?_
                    show J _ _ _ _ _ _ _ _ [(0, .ref 0), (1, .int k), (2, .int 0), (3, .int 6)] _ _ _
                    refine J_iload_n (i := 1) (a := 1) rfl rfl (dk_X7_in 0 _ rfl) ?_
                    refine J_iload_n (i := 2) (a := 2) rfl rfl (dk_X7_in 1 _ rfl) ?_
                    refine J_icF (tgt := 14) (by decide) (dk_X7_in 2 _ rfl) (jI_nlt (rfl : (k : Int32).toInt = (k : Int32).toInt) (by decide : (0 : Int32).toInt = 0) (by omega)) ?_
                    refine J_iload_n (i := 1) (a := 1) rfl rfl (dk_X7_in 5 _ rfl) ?_
                    refine J_iload_n (i := 3) (a := 3) rfl rfl (dk_X7_in 6 _ rfl) ?_
                    refine J_icF (tgt := 14) (by decide) (dk_X7_in 7 _ rfl) (jI_nlt (by decide : (6 : Int32).toInt = 6) (rfl : (k : Int32).toInt = (k : Int32).toInt) (by omega)) ?_
                    refine J_iconst (v := 1) (by decide) (dk_X7_in 10 _ rfl) ?_
                    refine J_goto (tgt := 15) (by decide) (dk_X7_in 11 _ rfl) ?_
                    exact J_iret rfl rfl (dk_X7_in 15 _ rfl) ⟨rfl, rfl⟩
                  show J _ _ _ _ _ _ _ _ _ [.int 1] _ _
                  refine J_ifT (tgt := 13) (by decide) (dk_X7_person 8 _ rfl) (jI_ne (by decide : (1 : Int32).toInt = 1) (by decide : (0 : Int32).toInt = 0) (by omega)) ?_
                  refine J_aload_n (i := 0) (a := 0) rfl rfl (dk_X7_person 13 _ rfl) ?_
                  refine J_iload_n (i := 2) (a := 2) rfl rfl (dk_X7_person 14 _ rfl) ?_
                  refine J_iconst (v := 0) (by decide) (dk_X7_person 15 _ rfl) ?_
                  refine J_bipush (v := 9) (by decide) (dk_X7_person 16 _ rfl) ?_
                  refine J_cV (rv := some (.int 1)) (h' := hM0) (d' := 11) (As := [.int n, .int 0, .int 9]) ok_X7_in vi_X7_in cl_7_194 (n := 3) (by decide +kernel) rfl rfl rfl rfl (by decide) (by decide) (dk_X7_person 18 _ rfl) ?_ ?_
                  · refine jCt_of ok_X7_in (fun _ _ => Nat.le_of_ble_eq_true rfl) (fun _ _ hq => by rw [hq.2]; first | exact Nat.le_refl _ | simp) ?_
                    show J _ _ _ _ _ _ _ _ [(0, .ref 0), (1, .int n), (2, .int 0), (3, .int 9)] _ _ _
                    refine J_iload_n (i := 1) (a := 1) rfl rfl (dk_X7_in 0 _ rfl) ?_
                    refine J_iload_n (i := 2) (a := 2) rfl rfl (dk_X7_in 1 _ rfl) ?_
                    refine J_icF (tgt := 14) (by decide) (dk_X7_in 2 _ rfl) (jI_nlt (rfl : (n : Int32).toInt = (n : Int32).toInt) (by decide : (0 : Int32).toInt = 0) (by omega)) ?_
                    refine J_iload_n (i := 1) (a := 1) rfl rfl (dk_X7_in 5 _ rfl) ?_
                    refine J_iload_n (i := 3) (a := 3) rfl rfl (dk_X7_in 6 _ rfl) ?_
                    refine J_icF (tgt := 14) (by decide) (dk_X7_in 7 _ rfl) (jI_nlt (by decide : (9 : Int32).toInt = 9) (rfl : (n : Int32).toInt = (n : Int32).toInt) (by omega)) ?_
                    refine J_iconst (v := 1) (by decide) (dk_X7_in 10 _ rfl) ?_
                    refine J_goto (tgt := 15) (by decide) (dk_X7_in 11 _ rfl) ?_
                    exact J_iret rfl rfl (dk_X7_in 15 _ rfl) ⟨rfl, rfl⟩
                  show J _ _ _ _ _ _ _ _ _ [.int 1] _ _
                  refine J_ifF (tgt := 41) (by decide) (dk_X7_person 21 _ rfl) (jI_ne (by decide : (1 : Int32).toInt = 1) (by decide : (0 : Int32).toInt = 0) (by omega)) ?_
                  refine J_aload_n (i := 0) (a := 0) rfl rfl (dk_X7_person 24 _ rfl) ?_
                  refine J_iload_n (i := 3) (a := 3) rfl rfl (dk_X7_person 25 _ rfl) ?_
                  refine J_cV (rv := some (.int 1)) (h' := hM0) (d' := 11) (As := [.int b]) ok_X7_isDay vi_X7_isDay cl_7_198 (n := 1) (by decide +kernel) rfl rfl rfl rfl (by decide) (by decide) (dk_X7_person 26 _ rfl) ?_ ?_
                  · refine jCt_of ok_X7_isDay (fun _ _ => Nat.le_of_ble_eq_true rfl) (fun _ _ hq => by rw [hq.2]; first | exact Nat.le_refl _ | simp) ?_
                    show J _ _ _ _ _ _ _ _ [(0, .ref 0), (1, .int b)] _ _ _
                    refine J_aload_n (i := 0) (a := 0) rfl rfl (dk_X7_isDay 0 _ rfl) ?_
                    refine J_iload_n (i := 1) (a := 1) rfl rfl (dk_X7_isDay 1 _ rfl) ?_
                    refine J_iconst (v := 0) (by decide) (dk_X7_isDay 2 _ rfl) ?_
                    refine J_bipush (v := 11) (by decide) (dk_X7_isDay 3 _ rfl) ?_
                    refine J_cV (rv := some (.int 1)) (h' := hM0) (d' := 10) (As := [.int b, .int 0, .int 11]) ok_X7_in vi_X7_in cl_7_194 (n := 3) (by decide +kernel) rfl rfl rfl rfl (by decide) (by decide) (dk_X7_isDay 5 _ rfl) ?_ ?_
                    · refine jCt_of ok_X7_in (fun _ _ => Nat.le_of_ble_eq_true rfl) (fun _ _ hq => by rw [hq.2]; first | exact Nat.le_refl _ | simp) ?_
                      show J _ _ _ _ _ _ _ _ [(0, .ref 0), (1, .int b), (2, .int 0), (3, .int 11)] _ _ _
                      refine J_iload_n (i := 1) (a := 1) rfl rfl (dk_X7_in 0 _ rfl) ?_
                      refine J_iload_n (i := 2) (a := 2) rfl rfl (dk_X7_in 1 _ rfl) ?_
                      refine J_icF (tgt := 14) (by decide) (dk_X7_in 2 _ rfl) (jI_nlt (rfl : (b : Int32).toInt = (b : Int32).toInt) (by decide : (0 : Int32).toInt = 0) (by omega)) ?_
                      refine J_iload_n (i := 1) (a := 1) rfl rfl (dk_X7_in 5 _ rfl) ?_
                      refine J_iload_n (i := 3) (a := 3) rfl rfl (dk_X7_in 6 _ rfl) ?_
                      refine J_icF (tgt := 14) (by decide) (dk_X7_in 7 _ rfl) (jI_nlt (by decide : (11 : Int32).toInt = 11) (rfl : (b : Int32).toInt = (b : Int32).toInt) (by omega)) ?_
                      refine J_iconst (v := 1) (by decide) (dk_X7_in 10 _ rfl) ?_
                      refine J_goto (tgt := 15) (by decide) (dk_X7_in 11 _ rfl) ?_
                      exact J_iret rfl rfl (dk_X7_in 15 _ rfl) ⟨rfl, rfl⟩
                    show J _ _ _ _ _ _ _ _ _ [.int 1] _ _
                    exact J_iret rfl rfl (dk_X7_isDay 8 _ rfl) ⟨rfl, rfl⟩
                  show J _ _ _ _ _ _ _ _ _ [.int 1] _ _
                  refine J_ifF (tgt := 41) (by decide) (dk_X7_person 29 _ rfl) (jI_ne (by decide : (1 : Int32).toInt = 1) (by decide : (0 : Int32).toInt = 0) (by omega)) ?_
                  refine J_aload_n (i := 0) (a := 0) rfl rfl (dk_X7_person 32 _ rfl) ?_
                  refine J_iload (i := 4) rfl (dk_X7_person 33 _ rfl) ?_
                  refine J_cV (rv := some (.int 0)) (h' := hM0) (d' := 11) (As := [.int d]) ok_X7_isDay vi_X7_isDay cl_7_198 (n := 1) (by decide +kernel) rfl rfl rfl rfl (by decide) (by decide) (dk_X7_person 35 _ rfl) ?_ ?_
                  · refine jCt_of ok_X7_isDay (fun _ _ => Nat.le_of_ble_eq_true rfl) (fun _ _ hq => by rw [hq.2]; first | exact Nat.le_refl _ | simp) ?_
                    show J _ _ _ _ _ _ _ _ [(0, .ref 0), (1, .int d)] _ _ _
                    refine J_aload_n (i := 0) (a := 0) rfl rfl (dk_X7_isDay 0 _ rfl) ?_
                    refine J_iload_n (i := 1) (a := 1) rfl rfl (dk_X7_isDay 1 _ rfl) ?_
                    refine J_iconst (v := 0) (by decide) (dk_X7_isDay 2 _ rfl) ?_
                    refine J_bipush (v := 11) (by decide) (dk_X7_isDay 3 _ rfl) ?_
                    refine J_cV (rv := some (.int 0)) (h' := hM0) (d' := 10) (As := [.int d, .int 0, .int 11]) ok_X7_in vi_X7_in cl_7_194 (n := 3) (by decide +kernel) rfl rfl rfl rfl (by decide) (by decide) (dk_X7_isDay 5 _ rfl) ?_ ?_
                    · refine jCt_of ok_X7_in (fun _ _ => Nat.le_of_ble_eq_true rfl) (fun _ _ hq => by rw [hq.2]; first | exact Nat.le_refl _ | simp) ?_
                      show J _ _ _ _ _ _ _ _ [(0, .ref 0), (1, .int d), (2, .int 0), (3, .int 11)] _ _ _
                      refine J_iload_n (i := 1) (a := 1) rfl rfl (dk_X7_in 0 _ rfl) ?_
                      refine J_iload_n (i := 2) (a := 2) rfl rfl (dk_X7_in 1 _ rfl) ?_
                      refine J_icT (tgt := 14) (by decide) (dk_X7_in 2 _ rfl) (jI_lt (rfl : (d : Int32).toInt = (d : Int32).toInt) (by decide : (0 : Int32).toInt = 0) (by omega)) ?_
                      refine J_iconst (v := 0) (by decide) (dk_X7_in 14 _ rfl) ?_
                      exact J_iret rfl rfl (dk_X7_in 15 _ rfl) ⟨rfl, rfl⟩
                    show J _ _ _ _ _ _ _ _ _ [.int 0] _ _
                    exact J_iret rfl rfl (dk_X7_isDay 8 _ rfl) ⟨rfl, rfl⟩
                  show J _ _ _ _ _ _ _ _ _ [.int 0] _ _
                  refine J_ifF (tgt := 44) (by decide) (dk_X7_person 38 _ rfl) (fun z => z (jI_eq (by decide : (0 : Int32).toInt = 0) (by decide : (0 : Int32).toInt = 0) (by omega))) ?_
                  refine J_bipush (v := (-2)) (by decide) (dk_X7_person 41 _ rfl) ?_
                  exact J_iret rfl rfl (dk_X7_person 43 _ rfl) ⟨rfl, rfl⟩
              · by_cases c8 : (d : Int32).toInt < 12
                · refine ⟨0, ?_, ?_⟩
                  · refine jCt_of ok_X6_person (fun _ _ => Nat.le_of_ble_eq_true rfl) (fun _ _ hq => Nat.le_of_eq (lX.trans hq.2.symm)) ?_
                    show J _ _ _ _ _ _ _ _ [(0, .ref 0), (1, .int k), (2, .int n), (3, .int b), (4, .int d)] _ _ _
                    refine J_iload_n (i := 1) (a := 1) rfl rfl (dk_X6_person 0 _ rfl) ?_
                    refine J_ifF (tgt := 10) (by decide) (dk_X6_person 1 _ rfl) (jI_nlt (rfl : (k : Int32).toInt = (k : Int32).toInt) (by decide : (0 : Int32).toInt = 0) (by omega)) ?_
                    refine J_iload_n (i := 1) (a := 1) rfl rfl (dk_X6_person 4 _ rfl) ?_
                    refine J_bipush (v := 7) (by decide) (dk_X6_person 5 _ rfl) ?_
                    refine J_icT (tgt := 12) (by decide) (dk_X6_person 7 _ rfl) (jI_lt (rfl : (k : Int32).toInt = (k : Int32).toInt) (by decide : (7 : Int32).toInt = 7) (by omega)) ?_
                    refine J_iload_n (i := 2) (a := 2) rfl rfl (dk_X6_person 12 _ rfl) ?_
                    refine J_ifF (tgt := 37) (by decide) (dk_X6_person 13 _ rfl) (jI_nlt (rfl : (n : Int32).toInt = (n : Int32).toInt) (by decide : (0 : Int32).toInt = 0) (by omega)) ?_
                    refine J_iload_n (i := 2) (a := 2) rfl rfl (dk_X6_person 16 _ rfl) ?_
                    refine J_bipush (v := 10) (by decide) (dk_X6_person 17 _ rfl) ?_
                    refine J_icF (tgt := 37) (by decide) (dk_X6_person 19 _ rfl) (jI_nle (by decide : (10 : Int32).toInt = 10) (rfl : (n : Int32).toInt = (n : Int32).toInt) (by omega)) ?_
                    refine J_iload_n (i := 3) (a := 3) rfl rfl (dk_X6_person 22 _ rfl) ?_
                    refine J_cS (rv := some (.int 1)) (h' := hN0) (d' := 11) (As := [.int b]) ok_X6_isDay st_X6_isDay cl_6_67 rfl (n := 1) (by decide +kernel) rfl (by decide) (by decide) (dk_X6_person 23 _ rfl) ?_ ?_
                    · refine jCt_of ok_X6_isDay (fun _ _ => Nat.le_of_ble_eq_true rfl) (fun _ _ hq => by rw [hq.2]; first | exact Nat.le_refl _ | simp) ?_
                      show J _ _ _ _ _ _ _ _ [(0, .int b)] _ _ _
                      refine J_iload_n (i := 0) (a := 0) rfl rfl (dk_X6_isDay 0 _ rfl) ?_
                      refine J_ifF (tgt := 14) (by decide) (dk_X6_isDay 1 _ rfl) (jI_nlt (rfl : (b : Int32).toInt = (b : Int32).toInt) (by decide : (0 : Int32).toInt = 0) (by omega)) ?_
                      refine J_iload_n (i := 0) (a := 0) rfl rfl (dk_X6_isDay 4 _ rfl) ?_
                      refine J_bipush (v := 12) (by decide) (dk_X6_isDay 5 _ rfl) ?_
                      refine J_icF (tgt := 14) (by decide) (dk_X6_isDay 7 _ rfl) (jI_nle (by decide : (12 : Int32).toInt = 12) (rfl : (b : Int32).toInt = (b : Int32).toInt) (by omega)) ?_
                      refine J_iconst (v := 1) (by decide) (dk_X6_isDay 10 _ rfl) ?_
                      refine J_goto (tgt := 15) (by decide) (dk_X6_isDay 11 _ rfl) ?_
                      exact J_iret rfl rfl (dk_X6_isDay 15 _ rfl) ⟨rfl, rfl⟩
                    show J _ _ _ _ _ _ _ _ _ [.int 1] _ _
                    refine J_ifF (tgt := 37) (by decide) (dk_X6_person 26 _ rfl) (jI_ne (by decide : (1 : Int32).toInt = 1) (by decide : (0 : Int32).toInt = 0) (by omega)) ?_
                    refine J_iload (i := 4) rfl (dk_X6_person 29 _ rfl) ?_
                    refine J_cS (rv := some (.int 1)) (h' := hN0) (d' := 11) (As := [.int d]) ok_X6_isDay st_X6_isDay cl_6_67 rfl (n := 1) (by decide +kernel) rfl (by decide) (by decide) (dk_X6_person 31 _ rfl) ?_ ?_
                    · refine jCt_of ok_X6_isDay (fun _ _ => Nat.le_of_ble_eq_true rfl) (fun _ _ hq => by rw [hq.2]; first | exact Nat.le_refl _ | simp) ?_
                      show J _ _ _ _ _ _ _ _ [(0, .int d)] _ _ _
                      refine J_iload_n (i := 0) (a := 0) rfl rfl (dk_X6_isDay 0 _ rfl) ?_
                      refine J_ifF (tgt := 14) (by decide) (dk_X6_isDay 1 _ rfl) (jI_nlt (rfl : (d : Int32).toInt = (d : Int32).toInt) (by decide : (0 : Int32).toInt = 0) (by omega)) ?_
                      refine J_iload_n (i := 0) (a := 0) rfl rfl (dk_X6_isDay 4 _ rfl) ?_
                      refine J_bipush (v := 12) (by decide) (dk_X6_isDay 5 _ rfl) ?_
                      refine J_icF (tgt := 14) (by decide) (dk_X6_isDay 7 _ rfl) (jI_nle (by decide : (12 : Int32).toInt = 12) (rfl : (d : Int32).toInt = (d : Int32).toInt) (by omega)) ?_
                      refine J_iconst (v := 1) (by decide) (dk_X6_isDay 10 _ rfl) ?_
                      refine J_goto (tgt := 15) (by decide) (dk_X6_isDay 11 _ rfl) ?_
                      exact J_iret rfl rfl (dk_X6_isDay 15 _ rfl) ⟨rfl, rfl⟩
                    show J _ _ _ _ _ _ _ _ _ [.int 1] _ _
                    refine J_ifT (tgt := 40) (by decide) (dk_X6_person 34 _ rfl) (jI_ne (by decide : (1 : Int32).toInt = 1) (by decide : (0 : Int32).toInt = 0) (by omega)) ?_
                    refine J_aload_n (i := 0) (a := 0) rfl rfl (dk_X6_person 40 _ rfl) ?_
                    refine J_getf fl_6_47 rfl rfl (dk_X6_person 41 _ rfl) ?_
                    refine J_getf fl_6_71 rfl rfl (dk_X6_person 44 _ rfl) ?_
                    refine J_bipush (v := 7) (by decide) (dk_X6_person 47 _ rfl) ?_
                    refine J_icT (tgt := 55) (by decide) (dk_X6_person 49 _ rfl) (jI_lt (by decide : (0 : Int32).toInt = 0) (by decide : (7 : Int32).toInt = 7) (by omega)) ?_
                    refine J_aload_n (i := 0) (a := 0) rfl rfl (dk_X6_person 55 _ rfl) ?_
                    refine J_getf fl_6_47 rfl rfl (dk_X6_person 56 _ rfl) ?_
                    refine J_iload_n (i := 1) (a := 1) rfl rfl (dk_X6_person 59 _ rfl) ?_
                    refine J_iload_n (i := 2) (a := 2) rfl rfl (dk_X6_person 60 _ rfl) ?_
                    refine J_iload_n (i := 3) (a := 3) rfl rfl (dk_X6_person 61 _ rfl) ?_
                    refine J_iload (i := 4) rfl (dk_X6_person 62 _ rfl) ?_
                    refine J_cV (rv := none) (h' := (((((((((((hN0.set 15 (.inl (0, .inl [k, 0, 0, 0, 0, 0, 0]))).set 16 (.inl (0, .inl [n, 0, 0, 0, 0, 0, 0]))).set 17 (.inl (0, .inl [b, 0, 0, 0, 0, 0, 0]))).set 18 (.inl (0, .inl [d, 0, 0, 0, 0, 0, 0]))).set 19 (.inl (0, .inl (List.replicate 7 0)))).set 20 (.inl (3, .inl [1, 0, 0, 0, 0, 0, 0]))).set 21 (.inl (0, .inl (List.replicate 28 0)))).set 21 (.inl (0, .inl (List.replicate 28 0)))).set 21 (.inl (0, .inl (List.replicate 28 0)))).set 21 (.inl (0, .inl (List.replicate 28 0)))).set 14 (.inr (2, [.int 1, .int 0, .int 0, .int 0, .ref 8, .ref 15, .ref 16, .ref 17, .ref 18, .ref 19, .ref 20, .ref 21, .ref 22])))) (d' := 11) (As := [.int k, .int n, .int b, .int d]) ok_X2_add vi_X2_add cl_6_75 (n := 4) (by decide +kernel) rfl rfl rfl rfl (by decide) (by decide) (dk_X6_person 64 _ rfl) ?_ ?_
                    · refine jCt_of ok_X2_add (fun _ _ => Nat.le_of_ble_eq_true rfl) (fun _ _ hq => by rw [hq.2]; first | exact Nat.le_refl _ | simp) ?_
                      show J _ _ _ _ _ _ _ _ [(0, .ref 14), (1, .int k), (2, .int n), (3, .int b), (4, .int d)] _ _ _
                      refine J_aload_n (i := 0) (a := 0) rfl rfl (dk_X2_add 0 _ rfl) ?_
                      refine J_getf fl_2_41 rfl rfl (dk_X2_add 1 _ rfl) ?_
                      refine J_bipush (v := 7) (by decide) (dk_X2_add 4 _ rfl) ?_
                      refine J_icT (tgt := 10) (by decide) (dk_X2_add 6 _ rfl) (jI_lt (by decide : (0 : Int32).toInt = 0) (by decide : (7 : Int32).toInt = 7) (by omega)) ?_
                      refine J_aload_n (i := 0) (a := 0) rfl rfl (dk_X2_add 10 _ rfl) ?_
                      refine J_getf fl_2_9 rfl rfl (dk_X2_add 11 _ rfl) ?_
                      refine J_aload_n (i := 0) (a := 0) rfl rfl (dk_X2_add 14 _ rfl) ?_
                      refine J_getf fl_2_41 rfl rfl (dk_X2_add 15 _ rfl) ?_
                      refine J_iload_n (i := 1) (a := 1) rfl rfl (dk_X2_add 18 _ rfl) ?_
                      refine J_iast rfl (by decide) (Nat.le_of_ble_eq_true rfl) (dk_X2_add 19 _ rfl) ?_
                      refine J_aload_n (i := 0) (a := 0) rfl rfl (dk_X2_add 20 _ rfl) ?_
                      refine J_getf fl_2_15 rfl rfl (dk_X2_add 21 _ rfl) ?_
                      refine J_aload_n (i := 0) (a := 0) rfl rfl (dk_X2_add 24 _ rfl) ?_
                      refine J_getf fl_2_41 rfl rfl (dk_X2_add 25 _ rfl) ?_
                      refine J_iload_n (i := 2) (a := 2) rfl rfl (dk_X2_add 28 _ rfl) ?_
                      refine J_iast rfl (by decide) (Nat.le_of_ble_eq_true rfl) (dk_X2_add 29 _ rfl) ?_
                      refine J_aload_n (i := 0) (a := 0) rfl rfl (dk_X2_add 30 _ rfl) ?_
                      refine J_getf fl_2_18 rfl rfl (dk_X2_add 31 _ rfl) ?_
                      refine J_aload_n (i := 0) (a := 0) rfl rfl (dk_X2_add 34 _ rfl) ?_
                      refine J_getf fl_2_41 rfl rfl (dk_X2_add 35 _ rfl) ?_
                      refine J_iload_n (i := 3) (a := 3) rfl rfl (dk_X2_add 38 _ rfl) ?_
                      refine J_iast rfl (by decide) (Nat.le_of_ble_eq_true rfl) (dk_X2_add 39 _ rfl) ?_
                      refine J_aload_n (i := 0) (a := 0) rfl rfl (dk_X2_add 40 _ rfl) ?_
                      refine J_getf fl_2_21 rfl rfl (dk_X2_add 41 _ rfl) ?_
                      refine J_aload_n (i := 0) (a := 0) rfl rfl (dk_X2_add 44 _ rfl) ?_
                      refine J_getf fl_2_41 rfl rfl (dk_X2_add 45 _ rfl) ?_
                      refine J_iload (i := 4) rfl (dk_X2_add 48 _ rfl) ?_
                      refine J_iast rfl (by decide) (Nat.le_of_ble_eq_true rfl) (dk_X2_add 50 _ rfl) ?_
                      refine J_aload_n (i := 0) (a := 0) rfl rfl (dk_X2_add 51 _ rfl) ?_
                      refine J_getf fl_2_24 rfl rfl (dk_X2_add 52 _ rfl) ?_
                      refine J_aload_n (i := 0) (a := 0) rfl rfl (dk_X2_add 55 _ rfl) ?_
                      refine J_getf fl_2_41 rfl rfl (dk_X2_add 56 _ rfl) ?_
                      refine J_iconst (v := 0) (by decide) (dk_X2_add 59 _ rfl) ?_
                      refine J_iast rfl (by decide) (Nat.le_of_ble_eq_true rfl) (dk_X2_add 60 _ rfl) ?_
                      refine J_aload_n (i := 0) (a := 0) rfl rfl (dk_X2_add 61 _ rfl) ?_
                      refine J_getf fl_2_27 rfl rfl (dk_X2_add 62 _ rfl) ?_
                      refine J_aload_n (i := 0) (a := 0) rfl rfl (dk_X2_add 65 _ rfl) ?_
                      refine J_getf fl_2_41 rfl rfl (dk_X2_add 66 _ rfl) ?_
                      refine J_iconst (v := 1) (by decide) (dk_X2_add 69 _ rfl) ?_
                      refine J_zast rfl (by decide) (Nat.le_of_ble_eq_true rfl) (dk_X2_add 70 _ rfl) ?_
                      refine J_iconst (v := 0) (by decide) (dk_X2_add 71 _ rfl) ?_
                      refine J_istore (i := 5) (by decide) (dk_X2_add 72 _ rfl) ?_
                      show J _ _ _ _ _ _ _ _ [(5, .int 0), (0, .ref 14), (1, .int k), (2, .int n), (3, .int b), (4, .int d)] _ _ _
                      refine J_iload (i := 5) rfl (dk_X2_add 74 _ rfl) ?_
                      refine J_iconst (v := 4) (by decide) (dk_X2_add 76 _ rfl) ?_
                      refine J_icF (tgt := 101) (by decide) (dk_X2_add 77 _ rfl) (jI_nle (by decide : (4 : Int32).toInt = 4) (by decide : (0 : Int32).toInt = 0) (by omega)) ?_
                      refine J_aload_n (i := 0) (a := 0) rfl rfl (dk_X2_add 80 _ rfl) ?_
                      refine J_getf fl_2_31 rfl rfl (dk_X2_add 81 _ rfl) ?_
                      refine J_aload_n (i := 0) (a := 0) rfl rfl (dk_X2_add 84 _ rfl) ?_
                      refine J_getf fl_2_41 rfl rfl (dk_X2_add 85 _ rfl) ?_
                      refine J_iconst (v := 4) (by decide) (dk_X2_add 88 _ rfl) ?_
                      refine J_imulC (v := 0) (by decide) (dk_X2_add 89 _ rfl) ?_
                      refine J_iload (i := 5) rfl (dk_X2_add 90 _ rfl) ?_
                      refine J_iaddC (v := 0) (by decide) (dk_X2_add 92 _ rfl) ?_
                      refine J_iconst (v := 0) (by decide) (dk_X2_add 93 _ rfl) ?_
                      refine J_iast rfl (by decide) (Nat.le_of_ble_eq_true rfl) (dk_X2_add 94 _ rfl) ?_
                      refine J_iinc (i := 5) (v := 1) rfl (by first | decide | rfl) (by decide) (dk_X2_add 95 _ rfl) ?_
                      show J _ _ _ _ _ _ _ _ [(5, .int 1), (0, .ref 14), (1, .int k), (2, .int n), (3, .int b), (4, .int d)] _ _ _
                      refine J_goto (tgt := 74) (by decide) (dk_X2_add 98 _ rfl) ?_
                      refine J_iload (i := 5) rfl (dk_X2_add 74 _ rfl) ?_
                      refine J_iconst (v := 4) (by decide) (dk_X2_add 76 _ rfl) ?_
                      refine J_icF (tgt := 101) (by decide) (dk_X2_add 77 _ rfl) (jI_nle (by decide : (4 : Int32).toInt = 4) (by decide : (1 : Int32).toInt = 1) (by omega)) ?_
                      refine J_aload_n (i := 0) (a := 0) rfl rfl (dk_X2_add 80 _ rfl) ?_
                      refine J_getf fl_2_31 rfl rfl (dk_X2_add 81 _ rfl) ?_
                      refine J_aload_n (i := 0) (a := 0) rfl rfl (dk_X2_add 84 _ rfl) ?_
                      refine J_getf fl_2_41 rfl rfl (dk_X2_add 85 _ rfl) ?_
                      refine J_iconst (v := 4) (by decide) (dk_X2_add 88 _ rfl) ?_
                      refine J_imulC (v := 0) (by decide) (dk_X2_add 89 _ rfl) ?_
                      refine J_iload (i := 5) rfl (dk_X2_add 90 _ rfl) ?_
                      refine J_iaddC (v := 1) (by decide) (dk_X2_add 92 _ rfl) ?_
                      refine J_iconst (v := 0) (by decide) (dk_X2_add 93 _ rfl) ?_
                      refine J_iast rfl (by decide) (Nat.le_of_ble_eq_true rfl) (dk_X2_add 94 _ rfl) ?_
                      refine J_iinc (i := 5) (v := 2) rfl (by first | decide | rfl) (by decide) (dk_X2_add 95 _ rfl) ?_
                      show J _ _ _ _ _ _ _ _ [(5, .int 2), (0, .ref 14), (1, .int k), (2, .int n), (3, .int b), (4, .int d)] _ _ _
                      refine J_goto (tgt := 74) (by decide) (dk_X2_add 98 _ rfl) ?_
                      refine J_iload (i := 5) rfl (dk_X2_add 74 _ rfl) ?_
                      refine J_iconst (v := 4) (by decide) (dk_X2_add 76 _ rfl) ?_
                      refine J_icF (tgt := 101) (by decide) (dk_X2_add 77 _ rfl) (jI_nle (by decide : (4 : Int32).toInt = 4) (by decide : (2 : Int32).toInt = 2) (by omega)) ?_
                      refine J_aload_n (i := 0) (a := 0) rfl rfl (dk_X2_add 80 _ rfl) ?_
                      refine J_getf fl_2_31 rfl rfl (dk_X2_add 81 _ rfl) ?_
                      refine J_aload_n (i := 0) (a := 0) rfl rfl (dk_X2_add 84 _ rfl) ?_
                      refine J_getf fl_2_41 rfl rfl (dk_X2_add 85 _ rfl) ?_
                      refine J_iconst (v := 4) (by decide) (dk_X2_add 88 _ rfl) ?_
                      refine J_imulC (v := 0) (by decide) (dk_X2_add 89 _ rfl) ?_
                      refine J_iload (i := 5) rfl (dk_X2_add 90 _ rfl) ?_
                      refine J_iaddC (v := 2) (by decide) (dk_X2_add 92 _ rfl) ?_
                      refine J_iconst (v := 0) (by decide) (dk_X2_add 93 _ rfl) ?_
                      refine J_iast rfl (by decide) (Nat.le_of_ble_eq_true rfl) (dk_X2_add 94 _ rfl) ?_
                      refine J_iinc (i := 5) (v := 3) rfl (by first | decide | rfl) (by decide) (dk_X2_add 95 _ rfl) ?_
                      show J _ _ _ _ _ _ _ _ [(5, .int 3), (0, .ref 14), (1, .int k), (2, .int n), (3, .int b), (4, .int d)] _ _ _
                      refine J_goto (tgt := 74) (by decide) (dk_X2_add 98 _ rfl) ?_
                      refine J_iload (i := 5) rfl (dk_X2_add 74 _ rfl) ?_
                      refine J_iconst (v := 4) (by decide) (dk_X2_add 76 _ rfl) ?_
                      refine J_icF (tgt := 101) (by decide) (dk_X2_add 77 _ rfl) (jI_nle (by decide : (4 : Int32).toInt = 4) (by decide : (3 : Int32).toInt = 3) (by omega)) ?_
                      refine J_aload_n (i := 0) (a := 0) rfl rfl (dk_X2_add 80 _ rfl) ?_
                      refine J_getf fl_2_31 rfl rfl (dk_X2_add 81 _ rfl) ?_
                      refine J_aload_n (i := 0) (a := 0) rfl rfl (dk_X2_add 84 _ rfl) ?_
                      refine J_getf fl_2_41 rfl rfl (dk_X2_add 85 _ rfl) ?_
                      refine J_iconst (v := 4) (by decide) (dk_X2_add 88 _ rfl) ?_
                      refine J_imulC (v := 0) (by decide) (dk_X2_add 89 _ rfl) ?_
                      refine J_iload (i := 5) rfl (dk_X2_add 90 _ rfl) ?_
                      refine J_iaddC (v := 3) (by decide) (dk_X2_add 92 _ rfl) ?_
                      refine J_iconst (v := 0) (by decide) (dk_X2_add 93 _ rfl) ?_
                      refine J_iast rfl (by decide) (Nat.le_of_ble_eq_true rfl) (dk_X2_add 94 _ rfl) ?_
                      refine J_iinc (i := 5) (v := 4) rfl (by first | decide | rfl) (by decide) (dk_X2_add 95 _ rfl) ?_
                      show J _ _ _ _ _ _ _ _ [(5, .int 4), (0, .ref 14), (1, .int k), (2, .int n), (3, .int b), (4, .int d)] _ _ _
                      refine J_goto (tgt := 74) (by decide) (dk_X2_add 98 _ rfl) ?_
                      refine J_iload (i := 5) rfl (dk_X2_add 74 _ rfl) ?_
                      refine J_iconst (v := 4) (by decide) (dk_X2_add 76 _ rfl) ?_
                      refine J_icT (tgt := 101) (by decide) (dk_X2_add 77 _ rfl) (jI_le (by decide : (4 : Int32).toInt = 4) (by decide : (4 : Int32).toInt = 4) (by omega)) ?_
                      refine J_aload_n (i := 0) (a := 0) rfl rfl (dk_X2_add 101 _ rfl) ?_
                      refine J_dup rfl (dk_X2_add 102 _ rfl) ?_
                      refine J_getf fl_2_41 rfl rfl (dk_X2_add 103 _ rfl) ?_
                      refine J_iconst (v := 1) (by decide) (dk_X2_add 106 _ rfl) ?_
                      refine J_iaddC (v := 1) (by decide) (dk_X2_add 107 _ rfl) ?_
                      refine J_putf fl_2_41 rfl (fun q hq => by cases hq; rfl) trivial (Nat.le_of_ble_eq_true rfl) (dk_X2_add 108 _ rfl) ?_
                      exact J_vret rfl (dk_X2_add 111 _ rfl) ⟨rfl, rfl⟩
                    show J _ _ _ _ _ _ _ _ _ [] _ _
                    refine J_aload_n (i := 0) (a := 0) rfl rfl (dk_X6_person 67 _ rfl) ?_
                    refine J_getf fl_6_47 rfl rfl (dk_X6_person 68 _ rfl) ?_
                    refine J_getf fl_6_71 rfl rfl (dk_X6_person 71 _ rfl) ?_
                    refine J_iconst (v := 1) (by decide) (dk_X6_person 74 _ rfl) ?_
                    refine J_isubC (v := 0) (by decide) (dk_X6_person 75 _ rfl) ?_
                    exact J_iret rfl rfl (dk_X6_person 76 _ rfl) ⟨rfl, rfl⟩
                  · refine jCt_of ok_X7_person (fun _ _ => Nat.le_of_ble_eq_true rfl) (fun _ _ hq => Nat.le_of_eq (lM.trans hq.2.symm)) ?_
                    show J _ _ _ _ _ _ _ _ [(0, .ref 0), (1, .int k), (2, .int n), (3, .int b), (4, .int d)] _ _ _
                    refine J_aload_n (i := 0) (a := 0) rfl rfl (dk_X7_person 0 _ rfl) ?_
                    refine J_iload_n (i := 1) (a := 1) rfl rfl (dk_X7_person 1 _ rfl) ?_
                    refine J_iconst (v := 0) (by decide) (dk_X7_person 2 _ rfl) ?_
                    refine J_bipush (v := 6) (by decide) (dk_X7_person 3 _ rfl) ?_
                    refine J_cV (rv := some (.int 1)) (h' := hM0) (d' := 11) (As := [.int k, .int 0, .int 6]) ok_X7_in vi_X7_in cl_7_194 (n := 3) (by decide +kernel) rfl rfl rfl rfl (by decide) (by decide) (dk_X7_person 5 _ rfl) ?_ ?_
                    · refine jCt_of ok_X7_in (fun _ _ => Nat.le_of_ble_eq_true rfl) (fun _ _ hq => by rw [hq.2]; first | exact Nat.le_refl _ | simp) ?_
                      show J _ _ _ _ _ _ _ _ [(0, .ref 0), (1, .int k), (2, .int 0), (3, .int 6)] _ _ _
                      refine J_iload_n (i := 1) (a := 1) rfl rfl (dk_X7_in 0 _ rfl) ?_
                      refine J_iload_n (i := 2) (a := 2) rfl rfl (dk_X7_in 1 _ rfl) ?_
                      refine J_icF (tgt := 14) (by decide) (dk_X7_in 2 _ rfl) (jI_nlt (rfl : (k : Int32).toInt = (k : Int32).toInt) (by decide : (0 : Int32).toInt = 0) (by omega)) ?_
                      refine J_iload_n (i := 1) (a := 1) rfl rfl (dk_X7_in 5 _ rfl) ?_
                      refine J_iload_n (i := 3) (a := 3) rfl rfl (dk_X7_in 6 _ rfl) ?_
                      refine J_icF (tgt := 14) (by decide) (dk_X7_in 7 _ rfl) (jI_nlt (by decide : (6 : Int32).toInt = 6) (rfl : (k : Int32).toInt = (k : Int32).toInt) (by omega)) ?_
                      refine J_iconst (v := 1) (by decide) (dk_X7_in 10 _ rfl) ?_
                      refine J_goto (tgt := 15) (by decide) (dk_X7_in 11 _ rfl) ?_
                      exact J_iret rfl rfl (dk_X7_in 15 _ rfl) ⟨rfl, rfl⟩
                    show J _ _ _ _ _ _ _ _ _ [.int 1] _ _
                    refine J_ifT (tgt := 13) (by decide) (dk_X7_person 8 _ rfl) (jI_ne (by decide : (1 : Int32).toInt = 1) (by decide : (0 : Int32).toInt = 0) (by omega)) ?_
                    refine J_aload_n (i := 0) (a := 0) rfl rfl (dk_X7_person 13 _ rfl) ?_
                    refine J_iload_n (i := 2) (a := 2) rfl rfl (dk_X7_person 14 _ rfl) ?_
                    refine J_iconst (v := 0) (by decide) (dk_X7_person 15 _ rfl) ?_
                    refine J_bipush (v := 9) (by decide) (dk_X7_person 16 _ rfl) ?_
                    refine J_cV (rv := some (.int 1)) (h' := hM0) (d' := 11) (As := [.int n, .int 0, .int 9]) ok_X7_in vi_X7_in cl_7_194 (n := 3) (by decide +kernel) rfl rfl rfl rfl (by decide) (by decide) (dk_X7_person 18 _ rfl) ?_ ?_
                    · refine jCt_of ok_X7_in (fun _ _ => Nat.le_of_ble_eq_true rfl) (fun _ _ hq => by rw [hq.2]; first | exact Nat.le_refl _ | simp) ?_
                      show J _ _ _ _ _ _ _ _ [(0, .ref 0), (1, .int n), (2, .int 0), (3, .int 9)] _ _ _
                      refine J_iload_n (i := 1) (a := 1) rfl rfl (dk_X7_in 0 _ rfl) ?_
                      refine J_iload_n (i := 2) (a := 2) rfl rfl (dk_X7_in 1 _ rfl) ?_
                      refine J_icF (tgt := 14) (by decide) (dk_X7_in 2 _ rfl) (jI_nlt (rfl : (n : Int32).toInt = (n : Int32).toInt) (by decide : (0 : Int32).toInt = 0) (by omega)) ?_
                      refine J_iload_n (i := 1) (a := 1) rfl rfl (dk_X7_in 5 _ rfl) ?_
                      refine J_iload_n (i := 3) (a := 3) rfl rfl (dk_X7_in 6 _ rfl) ?_
                      refine J_icF (tgt := 14) (by decide) (dk_X7_in 7 _ rfl) (jI_nlt (by decide : (9 : Int32).toInt = 9) (rfl : (n : Int32).toInt = (n : Int32).toInt) (by omega)) ?_
                      refine J_iconst (v := 1) (by decide) (dk_X7_in 10 _ rfl) ?_
                      refine J_goto (tgt := 15) (by decide) (dk_X7_in 11 _ rfl) ?_
                      exact J_iret rfl rfl (dk_X7_in 15 _ rfl) ⟨rfl, rfl⟩
                    show J _ _ _ _ _ _ _ _ _ [.int 1] _ _
                    refine J_ifF (tgt := 41) (by decide) (dk_X7_person 21 _ rfl) (jI_ne (by decide : (1 : Int32).toInt = 1) (by decide : (0 : Int32).toInt = 0) (by omega)) ?_
                    refine J_aload_n (i := 0) (a := 0) rfl rfl (dk_X7_person 24 _ rfl) ?_
                    refine J_iload_n (i := 3) (a := 3) rfl rfl (dk_X7_person 25 _ rfl) ?_
                    refine J_cV (rv := some (.int 1)) (h' := hM0) (d' := 11) (As := [.int b]) ok_X7_isDay vi_X7_isDay cl_7_198 (n := 1) (by decide +kernel) rfl rfl rfl rfl (by decide) (by decide) (dk_X7_person 26 _ rfl) ?_ ?_
                    · refine jCt_of ok_X7_isDay (fun _ _ => Nat.le_of_ble_eq_true rfl) (fun _ _ hq => by rw [hq.2]; first | exact Nat.le_refl _ | simp) ?_
                      show J _ _ _ _ _ _ _ _ [(0, .ref 0), (1, .int b)] _ _ _
                      refine J_aload_n (i := 0) (a := 0) rfl rfl (dk_X7_isDay 0 _ rfl) ?_
                      refine J_iload_n (i := 1) (a := 1) rfl rfl (dk_X7_isDay 1 _ rfl) ?_
                      refine J_iconst (v := 0) (by decide) (dk_X7_isDay 2 _ rfl) ?_
                      refine J_bipush (v := 11) (by decide) (dk_X7_isDay 3 _ rfl) ?_
                      refine J_cV (rv := some (.int 1)) (h' := hM0) (d' := 10) (As := [.int b, .int 0, .int 11]) ok_X7_in vi_X7_in cl_7_194 (n := 3) (by decide +kernel) rfl rfl rfl rfl (by decide) (by decide) (dk_X7_isDay 5 _ rfl) ?_ ?_
                      · refine jCt_of ok_X7_in (fun _ _ => Nat.le_of_ble_eq_true rfl) (fun _ _ hq => by rw [hq.2]; first | exact Nat.le_refl _ | simp) ?_
                        show J _ _ _ _ _ _ _ _ [(0, .ref 0), (1, .int b), (2, .int 0), (3, .int 11)] _ _ _
                        refine J_iload_n (i := 1) (a := 1) rfl rfl (dk_X7_in 0 _ rfl) ?_
                        refine J_iload_n (i := 2) (a := 2) rfl rfl (dk_X7_in 1 _ rfl) ?_
                        refine J_icF (tgt := 14) (by decide) (dk_X7_in 2 _ rfl) (jI_nlt (rfl : (b : Int32).toInt = (b : Int32).toInt) (by decide : (0 : Int32).toInt = 0) (by omega)) ?_
                        refine J_iload_n (i := 1) (a := 1) rfl rfl (dk_X7_in 5 _ rfl) ?_
                        refine J_iload_n (i := 3) (a := 3) rfl rfl (dk_X7_in 6 _ rfl) ?_
                        refine J_icF (tgt := 14) (by decide) (dk_X7_in 7 _ rfl) (jI_nlt (by decide : (11 : Int32).toInt = 11) (rfl : (b : Int32).toInt = (b : Int32).toInt) (by omega)) ?_
                        refine J_iconst (v := 1) (by decide) (dk_X7_in 10 _ rfl) ?_
                        refine J_goto (tgt := 15) (by decide) (dk_X7_in 11 _ rfl) ?_
                        exact J_iret rfl rfl (dk_X7_in 15 _ rfl) ⟨rfl, rfl⟩
                      show J _ _ _ _ _ _ _ _ _ [.int 1] _ _
                      exact J_iret rfl rfl (dk_X7_isDay 8 _ rfl) ⟨rfl, rfl⟩
                    show J _ _ _ _ _ _ _ _ _ [.int 1] _ _
                    refine J_ifF (tgt := 41) (by decide) (dk_X7_person 29 _ rfl) (jI_ne (by decide : (1 : Int32).toInt = 1) (by decide : (0 : Int32).toInt = 0) (by omega)) ?_
                    refine J_aload_n (i := 0) (a := 0) rfl rfl (dk_X7_person 32 _ rfl) ?_
                    refine J_iload (i := 4) rfl (dk_X7_person 33 _ rfl) ?_
                    refine J_cV (rv := some (.int 1)) (h' := hM0) (d' := 11) (As := [.int d]) ok_X7_isDay vi_X7_isDay cl_7_198 (n := 1) (by decide +kernel) rfl rfl rfl rfl (by decide) (by decide) (dk_X7_person 35 _ rfl) ?_ ?_
                    · refine jCt_of ok_X7_isDay (fun _ _ => Nat.le_of_ble_eq_true rfl) (fun _ _ hq => by rw [hq.2]; first | exact Nat.le_refl _ | simp) ?_
                      show J _ _ _ _ _ _ _ _ [(0, .ref 0), (1, .int d)] _ _ _
                      refine J_aload_n (i := 0) (a := 0) rfl rfl (dk_X7_isDay 0 _ rfl) ?_
                      refine J_iload_n (i := 1) (a := 1) rfl rfl (dk_X7_isDay 1 _ rfl) ?_
                      refine J_iconst (v := 0) (by decide) (dk_X7_isDay 2 _ rfl) ?_
                      refine J_bipush (v := 11) (by decide) (dk_X7_isDay 3 _ rfl) ?_
                      refine J_cV (rv := some (.int 1)) (h' := hM0) (d' := 10) (As := [.int d, .int 0, .int 11]) ok_X7_in vi_X7_in cl_7_194 (n := 3) (by decide +kernel) rfl rfl rfl rfl (by decide) (by decide) (dk_X7_isDay 5 _ rfl) ?_ ?_
                      · refine jCt_of ok_X7_in (fun _ _ => Nat.le_of_ble_eq_true rfl) (fun _ _ hq => by rw [hq.2]; first | exact Nat.le_refl _ | simp) ?_
                        show J _ _ _ _ _ _ _ _ [(0, .ref 0), (1, .int d), (2, .int 0), (3, .int 11)] _ _ _
                        refine J_iload_n (i := 1) (a := 1) rfl rfl (dk_X7_in 0 _ rfl) ?_
                        refine J_iload_n (i := 2) (a := 2) rfl rfl (dk_X7_in 1 _ rfl) ?_
                        refine J_icF (tgt := 14) (by decide) (dk_X7_in 2 _ rfl) (jI_nlt (rfl : (d : Int32).toInt = (d : Int32).toInt) (by decide : (0 : Int32).toInt = 0) (by omega)) ?_
                        refine J_iload_n (i := 1) (a := 1) rfl rfl (dk_X7_in 5 _ rfl) ?_
                        refine J_iload_n (i := 3) (a := 3) rfl rfl (dk_X7_in 6 _ rfl) ?_
                        refine J_icF (tgt := 14) (by decide) (dk_X7_in 7 _ rfl) (jI_nlt (by decide : (11 : Int32).toInt = 11) (rfl : (d : Int32).toInt = (d : Int32).toInt) (by omega)) ?_
                        refine J_iconst (v := 1) (by decide) (dk_X7_in 10 _ rfl) ?_
                        refine J_goto (tgt := 15) (by decide) (dk_X7_in 11 _ rfl) ?_
                        exact J_iret rfl rfl (dk_X7_in 15 _ rfl) ⟨rfl, rfl⟩
                      show J _ _ _ _ _ _ _ _ _ [.int 1] _ _
                      exact J_iret rfl rfl (dk_X7_isDay 8 _ rfl) ⟨rfl, rfl⟩
                    show J _ _ _ _ _ _ _ _ _ [.int 1] _ _
                    refine J_ifT (tgt := 44) (by decide) (dk_X7_person 38 _ rfl) (jI_ne (by decide : (1 : Int32).toInt = 1) (by decide : (0 : Int32).toInt = 0) (by omega)) ?_
                    refine J_aload_n (i := 0) (a := 0) rfl rfl (dk_X7_person 44 _ rfl) ?_
                    refine J_getf fl_7_7 rfl rfl (dk_X7_person 45 _ rfl) ?_
                    refine J_bipush (v := 7) (by decide) (dk_X7_person 48 _ rfl) ?_
                    refine J_icT (tgt := 56) (by decide) (dk_X7_person 50 _ rfl) (jI_ne (by decide : (0 : Int32).toInt = 0) (by decide : (7 : Int32).toInt = 7) (by omega)) ?_
                    refine J_aload_n (i := 0) (a := 0) rfl rfl (dk_X7_person 56 _ rfl) ?_
                    refine J_aload_n (i := 0) (a := 0) rfl rfl (dk_X7_person 57 _ rfl) ?_
                    refine J_getf fl_7_7 rfl rfl (dk_X7_person 58 _ rfl) ?_
                    refine J_iload_n (i := 1) (a := 1) rfl rfl (dk_X7_person 61 _ rfl) ?_
                    refine J_iload_n (i := 2) (a := 2) rfl rfl (dk_X7_person 62 _ rfl) ?_
                    refine J_iload_n (i := 3) (a := 3) rfl rfl (dk_X7_person 63 _ rfl) ?_
                    refine J_iload (i := 4) rfl (dk_X7_person 64 _ rfl) ?_
                    refine J_cV (rv := none) (h' := ((((((((((hM0.set 1 (.inl (0, .inl [k, 0, 0, 0, 0, 0, 0]))).set 2 (.inl (0, .inl [n, 0, 0, 0, 0, 0, 0]))).set 3 (.inl (0, .inl [b, 0, 0, 0, 0, 0, 0]))).set 4 (.inl (0, .inl [d, 0, 0, 0, 0, 0, 0]))).set 5 (.inl (0, .inl (List.replicate 7 0)))).set 7 (.inl (3, .inl [1, 0, 0, 0, 0, 0, 0]))).set 6 (.inl (0, .inl (List.replicate 28 0)))).set 6 (.inl (0, .inl (List.replicate 28 0)))).set 6 (.inl (0, .inl (List.replicate 28 0)))).set 6 (.inl (0, .inl (List.replicate 28 0))))) (d' := 11) (As := [.int 0, .int k, .int n, .int b, .int d]) ok_X7_lay vi_X7_lay cl_7_202 (n := 5) (by decide +kernel) rfl rfl rfl rfl (by decide) (by decide) (dk_X7_person 66 _ rfl) ?_ ?_
                    · refine jCt_of ok_X7_lay (fun _ _ => Nat.le_of_ble_eq_true rfl) (fun _ _ hq => by rw [hq.2]; first | exact Nat.le_refl _ | simp) ?_
                      show J _ _ _ _ _ _ _ _ [(0, .ref 0), (1, .int 0), (2, .int k), (3, .int n), (4, .int b), (5, .int d)] _ _ _
                      refine J_aload_n (i := 0) (a := 0) rfl rfl (dk_X7_lay 0 _ rfl) ?_
                      refine J_getf fl_7_19 rfl rfl (dk_X7_lay 1 _ rfl) ?_
                      refine J_iload_n (i := 1) (a := 1) rfl rfl (dk_X7_lay 4 _ rfl) ?_
                      refine J_iload_n (i := 2) (a := 2) rfl rfl (dk_X7_lay 5 _ rfl) ?_
                      refine J_iast rfl (by decide) (Nat.le_of_ble_eq_true rfl) (dk_X7_lay 6 _ rfl) ?_
                      refine J_aload_n (i := 0) (a := 0) rfl rfl (dk_X7_lay 7 _ rfl) ?_
                      refine J_getf fl_7_23 rfl rfl (dk_X7_lay 8 _ rfl) ?_
                      refine J_iload_n (i := 1) (a := 1) rfl rfl (dk_X7_lay 11 _ rfl) ?_
                      refine J_iload_n (i := 3) (a := 3) rfl rfl (dk_X7_lay 12 _ rfl) ?_
                      refine J_iast rfl (by decide) (Nat.le_of_ble_eq_true rfl) (dk_X7_lay 13 _ rfl) ?_
                      refine J_aload_n (i := 0) (a := 0) rfl rfl (dk_X7_lay 14 _ rfl) ?_
                      refine J_getf fl_7_26 rfl rfl (dk_X7_lay 15 _ rfl) ?_
                      refine J_iload_n (i := 1) (a := 1) rfl rfl (dk_X7_lay 18 _ rfl) ?_
                      refine J_iload (i := 4) rfl (dk_X7_lay 19 _ rfl) ?_
                      refine J_iast rfl (by decide) (Nat.le_of_ble_eq_true rfl) (dk_X7_lay 21 _ rfl) ?_
                      refine J_aload_n (i := 0) (a := 0) rfl rfl (dk_X7_lay 22 _ rfl) ?_
                      refine J_getf fl_7_29 rfl rfl (dk_X7_lay 23 _ rfl) ?_
                      refine J_iload_n (i := 1) (a := 1) rfl rfl (dk_X7_lay 26 _ rfl) ?_
                      refine J_iload (i := 5) rfl (dk_X7_lay 27 _ rfl) ?_
                      refine J_iast rfl (by decide) (Nat.le_of_ble_eq_true rfl) (dk_X7_lay 29 _ rfl) ?_
                      refine J_aload_n (i := 0) (a := 0) rfl rfl (dk_X7_lay 30 _ rfl) ?_
                      refine J_getf fl_7_32 rfl rfl (dk_X7_lay 31 _ rfl) ?_
                      refine J_iload_n (i := 1) (a := 1) rfl rfl (dk_X7_lay 34 _ rfl) ?_
                      refine J_iconst (v := 0) (by decide) (dk_X7_lay 35 _ rfl) ?_
                      refine J_iast rfl (by decide) (Nat.le_of_ble_eq_true rfl) (dk_X7_lay 36 _ rfl) ?_
                      refine J_aload_n (i := 0) (a := 0) rfl rfl (dk_X7_lay 37 _ rfl) ?_
                      refine J_getf fl_7_38 rfl rfl (dk_X7_lay 38 _ rfl) ?_
                      refine J_iload_n (i := 1) (a := 1) rfl rfl (dk_X7_lay 41 _ rfl) ?_
                      refine J_iconst (v := 1) (by decide) (dk_X7_lay 42 _ rfl) ?_
                      refine J_zast rfl (by decide) (Nat.le_of_ble_eq_true rfl) (dk_X7_lay 43 _ rfl) ?_
                      refine J_iconst (v := 0) (by decide) (dk_X7_lay 44 _ rfl) ?_
                      refine J_istore (i := 6) (by decide) (dk_X7_lay 45 _ rfl) ?_
                      show J _ _ _ _ _ _ _ _ [(6, .int 0), (0, .ref 0), (1, .int 0), (2, .int k), (3, .int n), (4, .int b), (5, .int d)] _ _ _
                      refine J_iload (i := 6) rfl (dk_X7_lay 47 _ rfl) ?_
                      refine J_iconst (v := 4) (by decide) (dk_X7_lay 49 _ rfl) ?_
                      refine J_icF (tgt := 71) (by decide) (dk_X7_lay 50 _ rfl) (jI_nle (by decide : (4 : Int32).toInt = 4) (by decide : (0 : Int32).toInt = 0) (by omega)) ?_
                      refine J_aload_n (i := 0) (a := 0) rfl rfl (dk_X7_lay 53 _ rfl) ?_
                      refine J_getf fl_7_35 rfl rfl (dk_X7_lay 54 _ rfl) ?_
                      refine J_iconst (v := 4) (by decide) (dk_X7_lay 57 _ rfl) ?_
                      refine J_iload_n (i := 1) (a := 1) rfl rfl (dk_X7_lay 58 _ rfl) ?_
                      refine J_imulC (v := 0) (by decide) (dk_X7_lay 59 _ rfl) ?_
                      refine J_iload (i := 6) rfl (dk_X7_lay 60 _ rfl) ?_
                      refine J_iaddC (v := 0) (by decide) (dk_X7_lay 62 _ rfl) ?_
                      refine J_iconst (v := 0) (by decide) (dk_X7_lay 63 _ rfl) ?_
                      refine J_iast rfl (by decide) (Nat.le_of_ble_eq_true rfl) (dk_X7_lay 64 _ rfl) ?_
                      refine J_iinc (i := 6) (v := 1) rfl (by first | decide | rfl) (by decide) (dk_X7_lay 65 _ rfl) ?_
                      show J _ _ _ _ _ _ _ _ [(6, .int 1), (0, .ref 0), (1, .int 0), (2, .int k), (3, .int n), (4, .int b), (5, .int d)] _ _ _
                      refine J_goto (tgt := 47) (by decide) (dk_X7_lay 68 _ rfl) ?_
                      refine J_iload (i := 6) rfl (dk_X7_lay 47 _ rfl) ?_
                      refine J_iconst (v := 4) (by decide) (dk_X7_lay 49 _ rfl) ?_
                      refine J_icF (tgt := 71) (by decide) (dk_X7_lay 50 _ rfl) (jI_nle (by decide : (4 : Int32).toInt = 4) (by decide : (1 : Int32).toInt = 1) (by omega)) ?_
                      refine J_aload_n (i := 0) (a := 0) rfl rfl (dk_X7_lay 53 _ rfl) ?_
                      refine J_getf fl_7_35 rfl rfl (dk_X7_lay 54 _ rfl) ?_
                      refine J_iconst (v := 4) (by decide) (dk_X7_lay 57 _ rfl) ?_
                      refine J_iload_n (i := 1) (a := 1) rfl rfl (dk_X7_lay 58 _ rfl) ?_
                      refine J_imulC (v := 0) (by decide) (dk_X7_lay 59 _ rfl) ?_
                      refine J_iload (i := 6) rfl (dk_X7_lay 60 _ rfl) ?_
                      refine J_iaddC (v := 1) (by decide) (dk_X7_lay 62 _ rfl) ?_
                      refine J_iconst (v := 0) (by decide) (dk_X7_lay 63 _ rfl) ?_
                      refine J_iast rfl (by decide) (Nat.le_of_ble_eq_true rfl) (dk_X7_lay 64 _ rfl) ?_
                      refine J_iinc (i := 6) (v := 2) rfl (by first | decide | rfl) (by decide) (dk_X7_lay 65 _ rfl) ?_
                      show J _ _ _ _ _ _ _ _ [(6, .int 2), (0, .ref 0), (1, .int 0), (2, .int k), (3, .int n), (4, .int b), (5, .int d)] _ _ _
                      refine J_goto (tgt := 47) (by decide) (dk_X7_lay 68 _ rfl) ?_
                      refine J_iload (i := 6) rfl (dk_X7_lay 47 _ rfl) ?_
                      refine J_iconst (v := 4) (by decide) (dk_X7_lay 49 _ rfl) ?_
                      refine J_icF (tgt := 71) (by decide) (dk_X7_lay 50 _ rfl) (jI_nle (by decide : (4 : Int32).toInt = 4) (by decide : (2 : Int32).toInt = 2) (by omega)) ?_
                      refine J_aload_n (i := 0) (a := 0) rfl rfl (dk_X7_lay 53 _ rfl) ?_
                      refine J_getf fl_7_35 rfl rfl (dk_X7_lay 54 _ rfl) ?_
                      refine J_iconst (v := 4) (by decide) (dk_X7_lay 57 _ rfl) ?_
                      refine J_iload_n (i := 1) (a := 1) rfl rfl (dk_X7_lay 58 _ rfl) ?_
                      refine J_imulC (v := 0) (by decide) (dk_X7_lay 59 _ rfl) ?_
                      refine J_iload (i := 6) rfl (dk_X7_lay 60 _ rfl) ?_
                      refine J_iaddC (v := 2) (by decide) (dk_X7_lay 62 _ rfl) ?_
                      refine J_iconst (v := 0) (by decide) (dk_X7_lay 63 _ rfl) ?_
                      refine J_iast rfl (by decide) (Nat.le_of_ble_eq_true rfl) (dk_X7_lay 64 _ rfl) ?_
                      refine J_iinc (i := 6) (v := 3) rfl (by first | decide | rfl) (by decide) (dk_X7_lay 65 _ rfl) ?_
                      show J _ _ _ _ _ _ _ _ [(6, .int 3), (0, .ref 0), (1, .int 0), (2, .int k), (3, .int n), (4, .int b), (5, .int d)] _ _ _
                      refine J_goto (tgt := 47) (by decide) (dk_X7_lay 68 _ rfl) ?_
                      refine J_iload (i := 6) rfl (dk_X7_lay 47 _ rfl) ?_
                      refine J_iconst (v := 4) (by decide) (dk_X7_lay 49 _ rfl) ?_
                      refine J_icF (tgt := 71) (by decide) (dk_X7_lay 50 _ rfl) (jI_nle (by decide : (4 : Int32).toInt = 4) (by decide : (3 : Int32).toInt = 3) (by omega)) ?_
                      refine J_aload_n (i := 0) (a := 0) rfl rfl (dk_X7_lay 53 _ rfl) ?_
                      refine J_getf fl_7_35 rfl rfl (dk_X7_lay 54 _ rfl) ?_
                      refine J_iconst (v := 4) (by decide) (dk_X7_lay 57 _ rfl) ?_
                      refine J_iload_n (i := 1) (a := 1) rfl rfl (dk_X7_lay 58 _ rfl) ?_
                      refine J_imulC (v := 0) (by decide) (dk_X7_lay 59 _ rfl) ?_
                      refine J_iload (i := 6) rfl (dk_X7_lay 60 _ rfl) ?_
                      refine J_iaddC (v := 3) (by decide) (dk_X7_lay 62 _ rfl) ?_
                      refine J_iconst (v := 0) (by decide) (dk_X7_lay 63 _ rfl) ?_
                      refine J_iast rfl (by decide) (Nat.le_of_ble_eq_true rfl) (dk_X7_lay 64 _ rfl) ?_
                      refine J_iinc (i := 6) (v := 4) rfl (by first | decide | rfl) (by decide) (dk_X7_lay 65 _ rfl) ?_
                      show J _ _ _ _ _ _ _ _ [(6, .int 4), (0, .ref 0), (1, .int 0), (2, .int k), (3, .int n), (4, .int b), (5, .int d)] _ _ _
                      refine J_goto (tgt := 47) (by decide) (dk_X7_lay 68 _ rfl) ?_
                      refine J_iload (i := 6) rfl (dk_X7_lay 47 _ rfl) ?_
                      refine J_iconst (v := 4) (by decide) (dk_X7_lay 49 _ rfl) ?_
                      refine J_icT (tgt := 71) (by decide) (dk_X7_lay 50 _ rfl) (jI_le (by decide : (4 : Int32).toInt = 4) (by decide : (4 : Int32).toInt = 4) (by omega)) ?_
                      exact J_vret rfl (dk_X7_lay 71 _ rfl) ⟨rfl, rfl⟩
                    show J _ _ _ _ _ _ _ _ _ [] _ _
                    refine J_aload_n (i := 0) (a := 0) rfl rfl (dk_X7_person 69 _ rfl) ?_
                    refine J_dup rfl (dk_X7_person 70 _ rfl) ?_
                    refine J_getf fl_7_7 rfl rfl (dk_X7_person 71 _ rfl) ?_
                    refine J_iconst (v := 1) (by decide) (dk_X7_person 74 _ rfl) ?_
                    refine J_iaddC (v := 1) (by decide) (dk_X7_person 75 _ rfl) ?_
                    refine J_putf fl_7_7 rfl (fun q hq => by cases hq; rfl) trivial (Nat.le_of_ble_eq_true rfl) (dk_X7_person 76 _ rfl) ?_
                    refine J_aload_n (i := 0) (a := 0) rfl rfl (dk_X7_person 79 _ rfl) ?_
                    refine J_getf fl_7_7 rfl rfl (dk_X7_person 80 _ rfl) ?_
                    refine J_iconst (v := 1) (by decide) (dk_X7_person 83 _ rfl) ?_
                    refine J_isubC (v := 0) (by decide) (dk_X7_person 84 _ rfl) ?_
                    exact J_iret rfl rfl (dk_X7_person 85 _ rfl) ⟨rfl, rfl⟩
                · refine ⟨(-2), ?_, ?_⟩
                  · refine jCt_of ok_X6_person (fun _ _ => Nat.le_of_ble_eq_true rfl) (fun _ _ hq => Nat.le_of_eq (lX.trans hq.2.symm)) ?_
                    show J _ _ _ _ _ _ _ _ [(0, .ref 0), (1, .int k), (2, .int n), (3, .int b), (4, .int d)] _ _ _
                    refine J_iload_n (i := 1) (a := 1) rfl rfl (dk_X6_person 0 _ rfl) ?_
                    refine J_ifF (tgt := 10) (by decide) (dk_X6_person 1 _ rfl) (jI_nlt (rfl : (k : Int32).toInt = (k : Int32).toInt) (by decide : (0 : Int32).toInt = 0) (by omega)) ?_
                    refine J_iload_n (i := 1) (a := 1) rfl rfl (dk_X6_person 4 _ rfl) ?_
                    refine J_bipush (v := 7) (by decide) (dk_X6_person 5 _ rfl) ?_
                    refine J_icT (tgt := 12) (by decide) (dk_X6_person 7 _ rfl) (jI_lt (rfl : (k : Int32).toInt = (k : Int32).toInt) (by decide : (7 : Int32).toInt = 7) (by omega)) ?_
                    refine J_iload_n (i := 2) (a := 2) rfl rfl (dk_X6_person 12 _ rfl) ?_
                    refine J_ifF (tgt := 37) (by decide) (dk_X6_person 13 _ rfl) (jI_nlt (rfl : (n : Int32).toInt = (n : Int32).toInt) (by decide : (0 : Int32).toInt = 0) (by omega)) ?_
                    refine J_iload_n (i := 2) (a := 2) rfl rfl (dk_X6_person 16 _ rfl) ?_
                    refine J_bipush (v := 10) (by decide) (dk_X6_person 17 _ rfl) ?_
                    refine J_icF (tgt := 37) (by decide) (dk_X6_person 19 _ rfl) (jI_nle (by decide : (10 : Int32).toInt = 10) (rfl : (n : Int32).toInt = (n : Int32).toInt) (by omega)) ?_
                    refine J_iload_n (i := 3) (a := 3) rfl rfl (dk_X6_person 22 _ rfl) ?_
                    refine J_cS (rv := some (.int 1)) (h' := hN0) (d' := 11) (As := [.int b]) ok_X6_isDay st_X6_isDay cl_6_67 rfl (n := 1) (by decide +kernel) rfl (by decide) (by decide) (dk_X6_person 23 _ rfl) ?_ ?_
                    · refine jCt_of ok_X6_isDay (fun _ _ => Nat.le_of_ble_eq_true rfl) (fun _ _ hq => by rw [hq.2]; first | exact Nat.le_refl _ | simp) ?_
                      show J _ _ _ _ _ _ _ _ [(0, .int b)] _ _ _
                      refine J_iload_n (i := 0) (a := 0) rfl rfl (dk_X6_isDay 0 _ rfl) ?_
                      refine J_ifF (tgt := 14) (by decide) (dk_X6_isDay 1 _ rfl) (jI_nlt (rfl : (b : Int32).toInt = (b : Int32).toInt) (by decide : (0 : Int32).toInt = 0) (by omega)) ?_
                      refine J_iload_n (i := 0) (a := 0) rfl rfl (dk_X6_isDay 4 _ rfl) ?_
                      refine J_bipush (v := 12) (by decide) (dk_X6_isDay 5 _ rfl) ?_
                      refine J_icF (tgt := 14) (by decide) (dk_X6_isDay 7 _ rfl) (jI_nle (by decide : (12 : Int32).toInt = 12) (rfl : (b : Int32).toInt = (b : Int32).toInt) (by omega)) ?_
                      refine J_iconst (v := 1) (by decide) (dk_X6_isDay 10 _ rfl) ?_
                      refine J_goto (tgt := 15) (by decide) (dk_X6_isDay 11 _ rfl) ?_
                      exact J_iret rfl rfl (dk_X6_isDay 15 _ rfl) ⟨rfl, rfl⟩
                    show J _ _ _ _ _ _ _ _ _ [.int 1] _ _
                    refine J_ifF (tgt := 37) (by decide) (dk_X6_person 26 _ rfl) (jI_ne (by decide : (1 : Int32).toInt = 1) (by decide : (0 : Int32).toInt = 0) (by omega)) ?_
                    refine J_iload (i := 4) rfl (dk_X6_person 29 _ rfl) ?_
                    refine J_cS (rv := some (.int 0)) (h' := hN0) (d' := 11) (As := [.int d]) ok_X6_isDay st_X6_isDay cl_6_67 rfl (n := 1) (by decide +kernel) rfl (by decide) (by decide) (dk_X6_person 31 _ rfl) ?_ ?_
                    · refine jCt_of ok_X6_isDay (fun _ _ => Nat.le_of_ble_eq_true rfl) (fun _ _ hq => by rw [hq.2]; first | exact Nat.le_refl _ | simp) ?_
                      show J _ _ _ _ _ _ _ _ [(0, .int d)] _ _ _
                      refine J_iload_n (i := 0) (a := 0) rfl rfl (dk_X6_isDay 0 _ rfl) ?_
                      refine J_ifF (tgt := 14) (by decide) (dk_X6_isDay 1 _ rfl) (jI_nlt (rfl : (d : Int32).toInt = (d : Int32).toInt) (by decide : (0 : Int32).toInt = 0) (by omega)) ?_
                      refine J_iload_n (i := 0) (a := 0) rfl rfl (dk_X6_isDay 4 _ rfl) ?_
                      refine J_bipush (v := 12) (by decide) (dk_X6_isDay 5 _ rfl) ?_
                      refine J_icT (tgt := 14) (by decide) (dk_X6_isDay 7 _ rfl) (jI_le (by decide : (12 : Int32).toInt = 12) (rfl : (d : Int32).toInt = (d : Int32).toInt) (by omega)) ?_
                      refine J_iconst (v := 0) (by decide) (dk_X6_isDay 14 _ rfl) ?_
                      exact J_iret rfl rfl (dk_X6_isDay 15 _ rfl) ⟨rfl, rfl⟩
                    show J _ _ _ _ _ _ _ _ _ [.int 0] _ _
                    refine J_ifF (tgt := 40) (by decide) (dk_X6_person 34 _ rfl) (fun z => z (jI_eq (by decide : (0 : Int32).toInt = 0) (by decide : (0 : Int32).toInt = 0) (by omega))) ?_
                    refine J_bipush (v := (-2)) (by decide) (dk_X6_person 37 _ rfl) ?_
                    exact J_iret rfl rfl (dk_X6_person 39 _ rfl) ⟨rfl, rfl⟩
                  · refine jCt_of ok_X7_person (fun _ _ => Nat.le_of_ble_eq_true rfl) (fun _ _ hq => Nat.le_of_eq (lM.trans hq.2.symm)) ?_
                    show J _ _ _ _ _ _ _ _ [(0, .ref 0), (1, .int k), (2, .int n), (3, .int b), (4, .int d)] _ _ _
                    refine J_aload_n (i := 0) (a := 0) rfl rfl (dk_X7_person 0 _ rfl) ?_
                    refine J_iload_n (i := 1) (a := 1) rfl rfl (dk_X7_person 1 _ rfl) ?_
                    refine J_iconst (v := 0) (by decide) (dk_X7_person 2 _ rfl) ?_
                    refine J_bipush (v := 6) (by decide) (dk_X7_person 3 _ rfl) ?_
                    refine J_cV (rv := some (.int 1)) (h' := hM0) (d' := 11) (As := [.int k, .int 0, .int 6]) ok_X7_in vi_X7_in cl_7_194 (n := 3) (by decide +kernel) rfl rfl rfl rfl (by decide) (by decide) (dk_X7_person 5 _ rfl) ?_ ?_
                    · refine jCt_of ok_X7_in (fun _ _ => Nat.le_of_ble_eq_true rfl) (fun _ _ hq => by rw [hq.2]; first | exact Nat.le_refl _ | simp) ?_
                      show J _ _ _ _ _ _ _ _ [(0, .ref 0), (1, .int k), (2, .int 0), (3, .int 6)] _ _ _
                      refine J_iload_n (i := 1) (a := 1) rfl rfl (dk_X7_in 0 _ rfl) ?_
                      refine J_iload_n (i := 2) (a := 2) rfl rfl (dk_X7_in 1 _ rfl) ?_
                      refine J_icF (tgt := 14) (by decide) (dk_X7_in 2 _ rfl) (jI_nlt (rfl : (k : Int32).toInt = (k : Int32).toInt) (by decide : (0 : Int32).toInt = 0) (by omega)) ?_
                      refine J_iload_n (i := 1) (a := 1) rfl rfl (dk_X7_in 5 _ rfl) ?_
                      refine J_iload_n (i := 3) (a := 3) rfl rfl (dk_X7_in 6 _ rfl) ?_
                      refine J_icF (tgt := 14) (by decide) (dk_X7_in 7 _ rfl) (jI_nlt (by decide : (6 : Int32).toInt = 6) (rfl : (k : Int32).toInt = (k : Int32).toInt) (by omega)) ?_
                      refine J_iconst (v := 1) (by decide) (dk_X7_in 10 _ rfl) ?_
                      refine J_goto (tgt := 15) (by decide) (dk_X7_in 11 _ rfl) ?_
                      exact J_iret rfl rfl (dk_X7_in 15 _ rfl) ⟨rfl, rfl⟩
                    show J _ _ _ _ _ _ _ _ _ [.int 1] _ _
                    refine J_ifT (tgt := 13) (by decide) (dk_X7_person 8 _ rfl) (jI_ne (by decide : (1 : Int32).toInt = 1) (by decide : (0 : Int32).toInt = 0) (by omega)) ?_
                    refine J_aload_n (i := 0) (a := 0) rfl rfl (dk_X7_person 13 _ rfl) ?_
                    refine J_iload_n (i := 2) (a := 2) rfl rfl (dk_X7_person 14 _ rfl) ?_
                    refine J_iconst (v := 0) (by decide) (dk_X7_person 15 _ rfl) ?_
                    refine J_bipush (v := 9) (by decide) (dk_X7_person 16 _ rfl) ?_
                    refine J_cV (rv := some (.int 1)) (h' := hM0) (d' := 11) (As := [.int n, .int 0, .int 9]) ok_X7_in vi_X7_in cl_7_194 (n := 3) (by decide +kernel) rfl rfl rfl rfl (by decide) (by decide) (dk_X7_person 18 _ rfl) ?_ ?_
                    · refine jCt_of ok_X7_in (fun _ _ => Nat.le_of_ble_eq_true rfl) (fun _ _ hq => by rw [hq.2]; first | exact Nat.le_refl _ | simp) ?_
                      show J _ _ _ _ _ _ _ _ [(0, .ref 0), (1, .int n), (2, .int 0), (3, .int 9)] _ _ _
                      refine J_iload_n (i := 1) (a := 1) rfl rfl (dk_X7_in 0 _ rfl) ?_
                      refine J_iload_n (i := 2) (a := 2) rfl rfl (dk_X7_in 1 _ rfl) ?_
                      refine J_icF (tgt := 14) (by decide) (dk_X7_in 2 _ rfl) (jI_nlt (rfl : (n : Int32).toInt = (n : Int32).toInt) (by decide : (0 : Int32).toInt = 0) (by omega)) ?_
                      refine J_iload_n (i := 1) (a := 1) rfl rfl (dk_X7_in 5 _ rfl) ?_
                      refine J_iload_n (i := 3) (a := 3) rfl rfl (dk_X7_in 6 _ rfl) ?_
                      refine J_icF (tgt := 14) (by decide) (dk_X7_in 7 _ rfl) (jI_nlt (by decide : (9 : Int32).toInt = 9) (rfl : (n : Int32).toInt = (n : Int32).toInt) (by omega)) ?_
                      refine J_iconst (v := 1) (by decide) (dk_X7_in 10 _ rfl) ?_
                      refine J_goto (tgt := 15) (by decide) (dk_X7_in 11 _ rfl) ?_
                      exact J_iret rfl rfl (dk_X7_in 15 _ rfl) ⟨rfl, rfl⟩
                    show J _ _ _ _ _ _ _ _ _ [.int 1] _ _
                    refine J_ifF (tgt := 41) (by decide) (dk_X7_person 21 _ rfl) (jI_ne (by decide : (1 : Int32).toInt = 1) (by decide : (0 : Int32).toInt = 0) (by omega)) ?_
                    refine J_aload_n (i := 0) (a := 0) rfl rfl (dk_X7_person 24 _ rfl) ?_
                    refine J_iload_n (i := 3) (a := 3) rfl rfl (dk_X7_person 25 _ rfl) ?_
                    refine J_cV (rv := some (.int 1)) (h' := hM0) (d' := 11) (As := [.int b]) ok_X7_isDay vi_X7_isDay cl_7_198 (n := 1) (by decide +kernel) rfl rfl rfl rfl (by decide) (by decide) (dk_X7_person 26 _ rfl) ?_ ?_
                    · refine jCt_of ok_X7_isDay (fun _ _ => Nat.le_of_ble_eq_true rfl) (fun _ _ hq => by rw [hq.2]; first | exact Nat.le_refl _ | simp) ?_
                      show J _ _ _ _ _ _ _ _ [(0, .ref 0), (1, .int b)] _ _ _
                      refine J_aload_n (i := 0) (a := 0) rfl rfl (dk_X7_isDay 0 _ rfl) ?_
                      refine J_iload_n (i := 1) (a := 1) rfl rfl (dk_X7_isDay 1 _ rfl) ?_
                      refine J_iconst (v := 0) (by decide) (dk_X7_isDay 2 _ rfl) ?_
                      refine J_bipush (v := 11) (by decide) (dk_X7_isDay 3 _ rfl) ?_
                      refine J_cV (rv := some (.int 1)) (h' := hM0) (d' := 10) (As := [.int b, .int 0, .int 11]) ok_X7_in vi_X7_in cl_7_194 (n := 3) (by decide +kernel) rfl rfl rfl rfl (by decide) (by decide) (dk_X7_isDay 5 _ rfl) ?_ ?_
                      · refine jCt_of ok_X7_in (fun _ _ => Nat.le_of_ble_eq_true rfl) (fun _ _ hq => by rw [hq.2]; first | exact Nat.le_refl _ | simp) ?_
                        show J _ _ _ _ _ _ _ _ [(0, .ref 0), (1, .int b), (2, .int 0), (3, .int 11)] _ _ _
                        refine J_iload_n (i := 1) (a := 1) rfl rfl (dk_X7_in 0 _ rfl) ?_
                        refine J_iload_n (i := 2) (a := 2) rfl rfl (dk_X7_in 1 _ rfl) ?_
                        refine J_icF (tgt := 14) (by decide) (dk_X7_in 2 _ rfl) (jI_nlt (rfl : (b : Int32).toInt = (b : Int32).toInt) (by decide : (0 : Int32).toInt = 0) (by omega)) ?_
                        refine J_iload_n (i := 1) (a := 1) rfl rfl (dk_X7_in 5 _ rfl) ?_
                        refine J_iload_n (i := 3) (a := 3) rfl rfl (dk_X7_in 6 _ rfl) ?_
                        refine J_icF (tgt := 14) (by decide) (dk_X7_in 7 _ rfl) (jI_nlt (by decide : (11 : Int32).toInt = 11) (rfl : (b : Int32).toInt = (b : Int32).toInt) (by omega)) ?_
                        refine J_iconst (v := 1) (by decide) (dk_X7_in 10 _ rfl) ?_
                        refine J_goto (tgt := 15) (by decide) (dk_X7_in 11 _ rfl) ?_
                        exact J_iret rfl rfl (dk_X7_in 15 _ rfl) ⟨rfl, rfl⟩
                      show J _ _ _ _ _ _ _ _ _ [.int 1] _ _
                      exact J_iret rfl rfl (dk_X7_isDay 8 _ rfl) ⟨rfl, rfl⟩
                    show J _ _ _ _ _ _ _ _ _ [.int 1] _ _
                    refine J_ifF (tgt := 41) (by decide) (dk_X7_person 29 _ rfl) (jI_ne (by decide : (1 : Int32).toInt = 1) (by decide : (0 : Int32).toInt = 0) (by omega)) ?_
                    refine J_aload_n (i := 0) (a := 0) rfl rfl (dk_X7_person 32 _ rfl) ?_
                    refine J_iload (i := 4) rfl (dk_X7_person 33 _ rfl) ?_
                    refine J_cV (rv := some (.int 0)) (h' := hM0) (d' := 11) (As := [.int d]) ok_X7_isDay vi_X7_isDay cl_7_198 (n := 1) (by decide +kernel) rfl rfl rfl rfl (by decide) (by decide) (dk_X7_person 35 _ rfl) ?_ ?_
                    · refine jCt_of ok_X7_isDay (fun _ _ => Nat.le_of_ble_eq_true rfl) (fun _ _ hq => by rw [hq.2]; first | exact Nat.le_refl _ | simp) ?_
                      show J _ _ _ _ _ _ _ _ [(0, .ref 0), (1, .int d)] _ _ _
                      refine J_aload_n (i := 0) (a := 0) rfl rfl (dk_X7_isDay 0 _ rfl) ?_
                      refine J_iload_n (i := 1) (a := 1) rfl rfl (dk_X7_isDay 1 _ rfl) ?_
                      refine J_iconst (v := 0) (by decide) (dk_X7_isDay 2 _ rfl) ?_
                      refine J_bipush (v := 11) (by decide) (dk_X7_isDay 3 _ rfl) ?_
                      refine J_cV (rv := some (.int 0)) (h' := hM0) (d' := 10) (As := [.int d, .int 0, .int 11]) ok_X7_in vi_X7_in cl_7_194 (n := 3) (by decide +kernel) rfl rfl rfl rfl (by decide) (by decide) (dk_X7_isDay 5 _ rfl) ?_ ?_
                      · refine jCt_of ok_X7_in (fun _ _ => Nat.le_of_ble_eq_true rfl) (fun _ _ hq => by rw [hq.2]; first | exact Nat.le_refl _ | simp) ?_
                        show J _ _ _ _ _ _ _ _ [(0, .ref 0), (1, .int d), (2, .int 0), (3, .int 11)] _ _ _
                        refine J_iload_n (i := 1) (a := 1) rfl rfl (dk_X7_in 0 _ rfl) ?_
                        refine J_iload_n (i := 2) (a := 2) rfl rfl (dk_X7_in 1 _ rfl) ?_
                        refine J_icF (tgt := 14) (by decide) (dk_X7_in 2 _ rfl) (jI_nlt (rfl : (d : Int32).toInt = (d : Int32).toInt) (by decide : (0 : Int32).toInt = 0) (by omega)) ?_
                        refine J_iload_n (i := 1) (a := 1) rfl rfl (dk_X7_in 5 _ rfl) ?_
                        refine J_iload_n (i := 3) (a := 3) rfl rfl (dk_X7_in 6 _ rfl) ?_
                        refine J_icT (tgt := 14) (by decide) (dk_X7_in 7 _ rfl) (jI_lt (by decide : (11 : Int32).toInt = 11) (rfl : (d : Int32).toInt = (d : Int32).toInt) (by omega)) ?_
                        refine J_iconst (v := 0) (by decide) (dk_X7_in 14 _ rfl) ?_
                        exact J_iret rfl rfl (dk_X7_in 15 _ rfl) ⟨rfl, rfl⟩
                      show J _ _ _ _ _ _ _ _ _ [.int 0] _ _
                      exact J_iret rfl rfl (dk_X7_isDay 8 _ rfl) ⟨rfl, rfl⟩
                    show J _ _ _ _ _ _ _ _ _ [.int 0] _ _
                    refine J_ifF (tgt := 44) (by decide) (dk_X7_person 38 _ rfl) (fun z => z (jI_eq (by decide : (0 : Int32).toInt = 0) (by decide : (0 : Int32).toInt = 0) (by omega))) ?_
                    refine J_bipush (v := (-2)) (by decide) (dk_X7_person 41 _ rfl) ?_
                    exact J_iret rfl rfl (dk_X7_person 43 _ rfl) ⟨rfl, rfl⟩
            · refine ⟨(-2), ?_, ?_⟩
              · refine jCt_of ok_X6_person (fun _ _ => Nat.le_of_ble_eq_true rfl) (fun _ _ hq => Nat.le_of_eq (lX.trans hq.2.symm)) ?_
                show J _ _ _ _ _ _ _ _ [(0, .ref 0), (1, .int k), (2, .int n), (3, .int b), (4, .int d)] _ _ _
                refine J_iload_n (i := 1) (a := 1) rfl rfl (dk_X6_person 0 _ rfl) ?_
                refine J_ifF (tgt := 10) (by decide) (dk_X6_person 1 _ rfl) (jI_nlt (rfl : (k : Int32).toInt = (k : Int32).toInt) (by decide : (0 : Int32).toInt = 0) (by omega)) ?_
                refine J_iload_n (i := 1) (a := 1) rfl rfl (dk_X6_person 4 _ rfl) ?_
                refine J_bipush (v := 7) (by decide) (dk_X6_person 5 _ rfl) ?_
                refine J_icT (tgt := 12) (by decide) (dk_X6_person 7 _ rfl) (jI_lt (rfl : (k : Int32).toInt = (k : Int32).toInt) (by decide : (7 : Int32).toInt = 7) (by omega)) ?_
                refine J_iload_n (i := 2) (a := 2) rfl rfl (dk_X6_person 12 _ rfl) ?_
                refine J_ifF (tgt := 37) (by decide) (dk_X6_person 13 _ rfl) (jI_nlt (rfl : (n : Int32).toInt = (n : Int32).toInt) (by decide : (0 : Int32).toInt = 0) (by omega)) ?_
                refine J_iload_n (i := 2) (a := 2) rfl rfl (dk_X6_person 16 _ rfl) ?_
                refine J_bipush (v := 10) (by decide) (dk_X6_person 17 _ rfl) ?_
                refine J_icF (tgt := 37) (by decide) (dk_X6_person 19 _ rfl) (jI_nle (by decide : (10 : Int32).toInt = 10) (rfl : (n : Int32).toInt = (n : Int32).toInt) (by omega)) ?_
                refine J_iload_n (i := 3) (a := 3) rfl rfl (dk_X6_person 22 _ rfl) ?_
                refine J_cS (rv := some (.int 0)) (h' := hN0) (d' := 11) (As := [.int b]) ok_X6_isDay st_X6_isDay cl_6_67 rfl (n := 1) (by decide +kernel) rfl (by decide) (by decide) (dk_X6_person 23 _ rfl) ?_ ?_
                · refine jCt_of ok_X6_isDay (fun _ _ => Nat.le_of_ble_eq_true rfl) (fun _ _ hq => by rw [hq.2]; first | exact Nat.le_refl _ | simp) ?_
                  show J _ _ _ _ _ _ _ _ [(0, .int b)] _ _ _
                  refine J_iload_n (i := 0) (a := 0) rfl rfl (dk_X6_isDay 0 _ rfl) ?_
                  refine J_ifF (tgt := 14) (by decide) (dk_X6_isDay 1 _ rfl) (jI_nlt (rfl : (b : Int32).toInt = (b : Int32).toInt) (by decide : (0 : Int32).toInt = 0) (by omega)) ?_
                  refine J_iload_n (i := 0) (a := 0) rfl rfl (dk_X6_isDay 4 _ rfl) ?_
                  refine J_bipush (v := 12) (by decide) (dk_X6_isDay 5 _ rfl) ?_
                  refine J_icT (tgt := 14) (by decide) (dk_X6_isDay 7 _ rfl) (jI_le (by decide : (12 : Int32).toInt = 12) (rfl : (b : Int32).toInt = (b : Int32).toInt) (by omega)) ?_
                  refine J_iconst (v := 0) (by decide) (dk_X6_isDay 14 _ rfl) ?_
                  exact J_iret rfl rfl (dk_X6_isDay 15 _ rfl) ⟨rfl, rfl⟩
                show J _ _ _ _ _ _ _ _ _ [.int 0] _ _
                refine J_ifT (tgt := 37) (by decide) (dk_X6_person 26 _ rfl) (jI_eq (by decide : (0 : Int32).toInt = 0) (by decide : (0 : Int32).toInt = 0) (by omega)) ?_
                refine J_bipush (v := (-2)) (by decide) (dk_X6_person 37 _ rfl) ?_
                exact J_iret rfl rfl (dk_X6_person 39 _ rfl) ⟨rfl, rfl⟩
              · refine jCt_of ok_X7_person (fun _ _ => Nat.le_of_ble_eq_true rfl) (fun _ _ hq => Nat.le_of_eq (lM.trans hq.2.symm)) ?_
                show J _ _ _ _ _ _ _ _ [(0, .ref 0), (1, .int k), (2, .int n), (3, .int b), (4, .int d)] _ _ _
                refine J_aload_n (i := 0) (a := 0) rfl rfl (dk_X7_person 0 _ rfl) ?_
                refine J_iload_n (i := 1) (a := 1) rfl rfl (dk_X7_person 1 _ rfl) ?_
                refine J_iconst (v := 0) (by decide) (dk_X7_person 2 _ rfl) ?_
                refine J_bipush (v := 6) (by decide) (dk_X7_person 3 _ rfl) ?_
                refine J_cV (rv := some (.int 1)) (h' := hM0) (d' := 11) (As := [.int k, .int 0, .int 6]) ok_X7_in vi_X7_in cl_7_194 (n := 3) (by decide +kernel) rfl rfl rfl rfl (by decide) (by decide) (dk_X7_person 5 _ rfl) ?_ ?_
                · refine jCt_of ok_X7_in (fun _ _ => Nat.le_of_ble_eq_true rfl) (fun _ _ hq => by rw [hq.2]; first | exact Nat.le_refl _ | simp) ?_
                  show J _ _ _ _ _ _ _ _ [(0, .ref 0), (1, .int k), (2, .int 0), (3, .int 6)] _ _ _
                  refine J_iload_n (i := 1) (a := 1) rfl rfl (dk_X7_in 0 _ rfl) ?_
                  refine J_iload_n (i := 2) (a := 2) rfl rfl (dk_X7_in 1 _ rfl) ?_
                  refine J_icF (tgt := 14) (by decide) (dk_X7_in 2 _ rfl) (jI_nlt (rfl : (k : Int32).toInt = (k : Int32).toInt) (by decide : (0 : Int32).toInt = 0) (by omega)) ?_
                  refine J_iload_n (i := 1) (a := 1) rfl rfl (dk_X7_in 5 _ rfl) ?_
                  refine J_iload_n (i := 3) (a := 3) rfl rfl (dk_X7_in 6 _ rfl) ?_
                  refine J_icF (tgt := 14) (by decide) (dk_X7_in 7 _ rfl) (jI_nlt (by decide : (6 : Int32).toInt = 6) (rfl : (k : Int32).toInt = (k : Int32).toInt) (by omega)) ?_
                  refine J_iconst (v := 1) (by decide) (dk_X7_in 10 _ rfl) ?_
                  refine J_goto (tgt := 15) (by decide) (dk_X7_in 11 _ rfl) ?_
                  exact J_iret rfl rfl (dk_X7_in 15 _ rfl) ⟨rfl, rfl⟩
                show J _ _ _ _ _ _ _ _ _ [.int 1] _ _
                refine J_ifT (tgt := 13) (by decide) (dk_X7_person 8 _ rfl) (jI_ne (by decide : (1 : Int32).toInt = 1) (by decide : (0 : Int32).toInt = 0) (by omega)) ?_
                refine J_aload_n (i := 0) (a := 0) rfl rfl (dk_X7_person 13 _ rfl) ?_
                refine J_iload_n (i := 2) (a := 2) rfl rfl (dk_X7_person 14 _ rfl) ?_
                refine J_iconst (v := 0) (by decide) (dk_X7_person 15 _ rfl) ?_
                refine J_bipush (v := 9) (by decide) (dk_X7_person 16 _ rfl) ?_
                refine J_cV (rv := some (.int 1)) (h' := hM0) (d' := 11) (As := [.int n, .int 0, .int 9]) ok_X7_in vi_X7_in cl_7_194 (n := 3) (by decide +kernel) rfl rfl rfl rfl (by decide) (by decide) (dk_X7_person 18 _ rfl) ?_ ?_
                · refine jCt_of ok_X7_in (fun _ _ => Nat.le_of_ble_eq_true rfl) (fun _ _ hq => by rw [hq.2]; first | exact Nat.le_refl _ | simp) ?_
                  show J _ _ _ _ _ _ _ _ [(0, .ref 0), (1, .int n), (2, .int 0), (3, .int 9)] _ _ _
                  refine J_iload_n (i := 1) (a := 1) rfl rfl (dk_X7_in 0 _ rfl) ?_
                  refine J_iload_n (i := 2) (a := 2) rfl rfl (dk_X7_in 1 _ rfl) ?_
                  refine J_icF (tgt := 14) (by decide) (dk_X7_in 2 _ rfl) (jI_nlt (rfl : (n : Int32).toInt = (n : Int32).toInt) (by decide : (0 : Int32).toInt = 0) (by omega)) ?_
                  refine J_iload_n (i := 1) (a := 1) rfl rfl (dk_X7_in 5 _ rfl) ?_
                  refine J_iload_n (i := 3) (a := 3) rfl rfl (dk_X7_in 6 _ rfl) ?_
                  refine J_icF (tgt := 14) (by decide) (dk_X7_in 7 _ rfl) (jI_nlt (by decide : (9 : Int32).toInt = 9) (rfl : (n : Int32).toInt = (n : Int32).toInt) (by omega)) ?_
                  refine J_iconst (v := 1) (by decide) (dk_X7_in 10 _ rfl) ?_
                  refine J_goto (tgt := 15) (by decide) (dk_X7_in 11 _ rfl) ?_
                  exact J_iret rfl rfl (dk_X7_in 15 _ rfl) ⟨rfl, rfl⟩
                show J _ _ _ _ _ _ _ _ _ [.int 1] _ _
                refine J_ifF (tgt := 41) (by decide) (dk_X7_person 21 _ rfl) (jI_ne (by decide : (1 : Int32).toInt = 1) (by decide : (0 : Int32).toInt = 0) (by omega)) ?_
                refine J_aload_n (i := 0) (a := 0) rfl rfl (dk_X7_person 24 _ rfl) ?_
                refine J_iload_n (i := 3) (a := 3) rfl rfl (dk_X7_person 25 _ rfl) ?_
                refine J_cV (rv := some (.int 0)) (h' := hM0) (d' := 11) (As := [.int b]) ok_X7_isDay vi_X7_isDay cl_7_198 (n := 1) (by decide +kernel) rfl rfl rfl rfl (by decide) (by decide) (dk_X7_person 26 _ rfl) ?_ ?_
                · refine jCt_of ok_X7_isDay (fun _ _ => Nat.le_of_ble_eq_true rfl) (fun _ _ hq => by rw [hq.2]; first | exact Nat.le_refl _ | simp) ?_
                  show J _ _ _ _ _ _ _ _ [(0, .ref 0), (1, .int b)] _ _ _
                  refine J_aload_n (i := 0) (a := 0) rfl rfl (dk_X7_isDay 0 _ rfl) ?_
                  refine J_iload_n (i := 1) (a := 1) rfl rfl (dk_X7_isDay 1 _ rfl) ?_
                  refine J_iconst (v := 0) (by decide) (dk_X7_isDay 2 _ rfl) ?_
                  refine J_bipush (v := 11) (by decide) (dk_X7_isDay 3 _ rfl) ?_
                  refine J_cV (rv := some (.int 0)) (h' := hM0) (d' := 10) (As := [.int b, .int 0, .int 11]) ok_X7_in vi_X7_in cl_7_194 (n := 3) (by decide +kernel) rfl rfl rfl rfl (by decide) (by decide) (dk_X7_isDay 5 _ rfl) ?_ ?_
                  · refine jCt_of ok_X7_in (fun _ _ => Nat.le_of_ble_eq_true rfl) (fun _ _ hq => by rw [hq.2]; first | exact Nat.le_refl _ | simp) ?_
                    show J _ _ _ _ _ _ _ _ [(0, .ref 0), (1, .int b), (2, .int 0), (3, .int 11)] _ _ _
                    refine J_iload_n (i := 1) (a := 1) rfl rfl (dk_X7_in 0 _ rfl) ?_
                    refine J_iload_n (i := 2) (a := 2) rfl rfl (dk_X7_in 1 _ rfl) ?_
                    refine J_icF (tgt := 14) (by decide) (dk_X7_in 2 _ rfl) (jI_nlt (rfl : (b : Int32).toInt = (b : Int32).toInt) (by decide : (0 : Int32).toInt = 0) (by omega)) ?_
                    refine J_iload_n (i := 1) (a := 1) rfl rfl (dk_X7_in 5 _ rfl) ?_
                    refine J_iload_n (i := 3) (a := 3) rfl rfl (dk_X7_in 6 _ rfl) ?_
                    refine J_icT (tgt := 14) (by decide) (dk_X7_in 7 _ rfl) (jI_lt (by decide : (11 : Int32).toInt = 11) (rfl : (b : Int32).toInt = (b : Int32).toInt) (by omega)) ?_
                    refine J_iconst (v := 0) (by decide) (dk_X7_in 14 _ rfl) ?_
                    exact J_iret rfl rfl (dk_X7_in 15 _ rfl) ⟨rfl, rfl⟩
                  show J _ _ _ _ _ _ _ _ _ [.int 0] _ _
                  exact J_iret rfl rfl (dk_X7_isDay 8 _ rfl) ⟨rfl, rfl⟩
                show J _ _ _ _ _ _ _ _ _ [.int 0] _ _
                refine J_ifT (tgt := 41) (by decide) (dk_X7_person 29 _ rfl) (jI_eq (by decide : (0 : Int32).toInt = 0) (by decide : (0 : Int32).toInt = 0) (by omega)) ?_
                refine J_bipush (v := (-2)) (by decide) (dk_X7_person 41 _ rfl) ?_
                exact J_iret rfl rfl (dk_X7_person 43 _ rfl) ⟨rfl, rfl⟩
        · refine ⟨(-2), ?_, ?_⟩
          · refine jCt_of ok_X6_person (fun _ _ => Nat.le_of_ble_eq_true rfl) (fun _ _ hq => Nat.le_of_eq (lX.trans hq.2.symm)) ?_
            show J _ _ _ _ _ _ _ _ [(0, .ref 0), (1, .int k), (2, .int n), (3, .int b), (4, .int d)] _ _ _
            refine J_iload_n (i := 1) (a := 1) rfl rfl (dk_X6_person 0 _ rfl) ?_
            refine J_ifF (tgt := 10) (by decide) (dk_X6_person 1 _ rfl) (jI_nlt (rfl : (k : Int32).toInt = (k : Int32).toInt) (by decide : (0 : Int32).toInt = 0) (by omega)) ?_
            refine J_iload_n (i := 1) (a := 1) rfl rfl (dk_X6_person 4 _ rfl) ?_
            refine J_bipush (v := 7) (by decide) (dk_X6_person 5 _ rfl) ?_
            refine J_icT (tgt := 12) (by decide) (dk_X6_person 7 _ rfl) (jI_lt (rfl : (k : Int32).toInt = (k : Int32).toInt) (by decide : (7 : Int32).toInt = 7) (by omega)) ?_
            refine J_iload_n (i := 2) (a := 2) rfl rfl (dk_X6_person 12 _ rfl) ?_
            refine J_ifF (tgt := 37) (by decide) (dk_X6_person 13 _ rfl) (jI_nlt (rfl : (n : Int32).toInt = (n : Int32).toInt) (by decide : (0 : Int32).toInt = 0) (by omega)) ?_
            refine J_iload_n (i := 2) (a := 2) rfl rfl (dk_X6_person 16 _ rfl) ?_
            refine J_bipush (v := 10) (by decide) (dk_X6_person 17 _ rfl) ?_
            refine J_icT (tgt := 37) (by decide) (dk_X6_person 19 _ rfl) (jI_le (by decide : (10 : Int32).toInt = 10) (rfl : (n : Int32).toInt = (n : Int32).toInt) (by omega)) ?_
            refine J_bipush (v := (-2)) (by decide) (dk_X6_person 37 _ rfl) ?_
            exact J_iret rfl rfl (dk_X6_person 39 _ rfl) ⟨rfl, rfl⟩
          · refine jCt_of ok_X7_person (fun _ _ => Nat.le_of_ble_eq_true rfl) (fun _ _ hq => Nat.le_of_eq (lM.trans hq.2.symm)) ?_
            show J _ _ _ _ _ _ _ _ [(0, .ref 0), (1, .int k), (2, .int n), (3, .int b), (4, .int d)] _ _ _
            refine J_aload_n (i := 0) (a := 0) rfl rfl (dk_X7_person 0 _ rfl) ?_
            refine J_iload_n (i := 1) (a := 1) rfl rfl (dk_X7_person 1 _ rfl) ?_
            refine J_iconst (v := 0) (by decide) (dk_X7_person 2 _ rfl) ?_
            refine J_bipush (v := 6) (by decide) (dk_X7_person 3 _ rfl) ?_
            refine J_cV (rv := some (.int 1)) (h' := hM0) (d' := 11) (As := [.int k, .int 0, .int 6]) ok_X7_in vi_X7_in cl_7_194 (n := 3) (by decide +kernel) rfl rfl rfl rfl (by decide) (by decide) (dk_X7_person 5 _ rfl) ?_ ?_
            · refine jCt_of ok_X7_in (fun _ _ => Nat.le_of_ble_eq_true rfl) (fun _ _ hq => by rw [hq.2]; first | exact Nat.le_refl _ | simp) ?_
              show J _ _ _ _ _ _ _ _ [(0, .ref 0), (1, .int k), (2, .int 0), (3, .int 6)] _ _ _
              refine J_iload_n (i := 1) (a := 1) rfl rfl (dk_X7_in 0 _ rfl) ?_
              refine J_iload_n (i := 2) (a := 2) rfl rfl (dk_X7_in 1 _ rfl) ?_
              refine J_icF (tgt := 14) (by decide) (dk_X7_in 2 _ rfl) (jI_nlt (rfl : (k : Int32).toInt = (k : Int32).toInt) (by decide : (0 : Int32).toInt = 0) (by omega)) ?_
              refine J_iload_n (i := 1) (a := 1) rfl rfl (dk_X7_in 5 _ rfl) ?_
              refine J_iload_n (i := 3) (a := 3) rfl rfl (dk_X7_in 6 _ rfl) ?_
              refine J_icF (tgt := 14) (by decide) (dk_X7_in 7 _ rfl) (jI_nlt (by decide : (6 : Int32).toInt = 6) (rfl : (k : Int32).toInt = (k : Int32).toInt) (by omega)) ?_
              refine J_iconst (v := 1) (by decide) (dk_X7_in 10 _ rfl) ?_
              refine J_goto (tgt := 15) (by decide) (dk_X7_in 11 _ rfl) ?_
              exact J_iret rfl rfl (dk_X7_in 15 _ rfl) ⟨rfl, rfl⟩
            show J _ _ _ _ _ _ _ _ _ [.int 1] _ _
            refine J_ifT (tgt := 13) (by decide) (dk_X7_person 8 _ rfl) (jI_ne (by decide : (1 : Int32).toInt = 1) (by decide : (0 : Int32).toInt = 0) (by omega)) ?_
            refine J_aload_n (i := 0) (a := 0) rfl rfl (dk_X7_person 13 _ rfl) ?_
            refine J_iload_n (i := 2) (a := 2) rfl rfl (dk_X7_person 14 _ rfl) ?_
            refine J_iconst (v := 0) (by decide) (dk_X7_person 15 _ rfl) ?_
            refine J_bipush (v := 9) (by decide) (dk_X7_person 16 _ rfl) ?_
            refine J_cV (rv := some (.int 0)) (h' := hM0) (d' := 11) (As := [.int n, .int 0, .int 9]) ok_X7_in vi_X7_in cl_7_194 (n := 3) (by decide +kernel) rfl rfl rfl rfl (by decide) (by decide) (dk_X7_person 18 _ rfl) ?_ ?_
            · refine jCt_of ok_X7_in (fun _ _ => Nat.le_of_ble_eq_true rfl) (fun _ _ hq => by rw [hq.2]; first | exact Nat.le_refl _ | simp) ?_
              show J _ _ _ _ _ _ _ _ [(0, .ref 0), (1, .int n), (2, .int 0), (3, .int 9)] _ _ _
              refine J_iload_n (i := 1) (a := 1) rfl rfl (dk_X7_in 0 _ rfl) ?_
              refine J_iload_n (i := 2) (a := 2) rfl rfl (dk_X7_in 1 _ rfl) ?_
              refine J_icF (tgt := 14) (by decide) (dk_X7_in 2 _ rfl) (jI_nlt (rfl : (n : Int32).toInt = (n : Int32).toInt) (by decide : (0 : Int32).toInt = 0) (by omega)) ?_
              refine J_iload_n (i := 1) (a := 1) rfl rfl (dk_X7_in 5 _ rfl) ?_
              refine J_iload_n (i := 3) (a := 3) rfl rfl (dk_X7_in 6 _ rfl) ?_
              refine J_icT (tgt := 14) (by decide) (dk_X7_in 7 _ rfl) (jI_lt (by decide : (9 : Int32).toInt = 9) (rfl : (n : Int32).toInt = (n : Int32).toInt) (by omega)) ?_
              refine J_iconst (v := 0) (by decide) (dk_X7_in 14 _ rfl) ?_
              exact J_iret rfl rfl (dk_X7_in 15 _ rfl) ⟨rfl, rfl⟩
            show J _ _ _ _ _ _ _ _ _ [.int 0] _ _
            refine J_ifT (tgt := 41) (by decide) (dk_X7_person 21 _ rfl) (jI_eq (by decide : (0 : Int32).toInt = 0) (by decide : (0 : Int32).toInt = 0) (by omega)) ?_
            refine J_bipush (v := (-2)) (by decide) (dk_X7_person 41 _ rfl) ?_
            exact J_iret rfl rfl (dk_X7_person 43 _ rfl) ⟨rfl, rfl⟩
    · refine ⟨(-1), ?_, ?_⟩
      · refine jCt_of ok_X6_person (fun _ _ => Nat.le_of_ble_eq_true rfl) (fun _ _ hq => Nat.le_of_eq (lX.trans hq.2.symm)) ?_
        show J _ _ _ _ _ _ _ _ [(0, .ref 0), (1, .int k), (2, .int n), (3, .int b), (4, .int d)] _ _ _
        refine J_iload_n (i := 1) (a := 1) rfl rfl (dk_X6_person 0 _ rfl) ?_
        refine J_ifF (tgt := 10) (by decide) (dk_X6_person 1 _ rfl) (jI_nlt (rfl : (k : Int32).toInt = (k : Int32).toInt) (by decide : (0 : Int32).toInt = 0) (by omega)) ?_
        refine J_iload_n (i := 1) (a := 1) rfl rfl (dk_X6_person 4 _ rfl) ?_
        refine J_bipush (v := 7) (by decide) (dk_X6_person 5 _ rfl) ?_
        refine J_icF (tgt := 12) (by decide) (dk_X6_person 7 _ rfl) (jI_nlt (rfl : (k : Int32).toInt = (k : Int32).toInt) (by decide : (7 : Int32).toInt = 7) (by omega)) ?_
        refine J_iconst (v := (-1)) (by decide) (dk_X6_person 10 _ rfl) ?_
        exact J_iret rfl rfl (dk_X6_person 11 _ rfl) ⟨rfl, rfl⟩
      · refine jCt_of ok_X7_person (fun _ _ => Nat.le_of_ble_eq_true rfl) (fun _ _ hq => Nat.le_of_eq (lM.trans hq.2.symm)) ?_
        show J _ _ _ _ _ _ _ _ [(0, .ref 0), (1, .int k), (2, .int n), (3, .int b), (4, .int d)] _ _ _
        refine J_aload_n (i := 0) (a := 0) rfl rfl (dk_X7_person 0 _ rfl) ?_
        refine J_iload_n (i := 1) (a := 1) rfl rfl (dk_X7_person 1 _ rfl) ?_
        refine J_iconst (v := 0) (by decide) (dk_X7_person 2 _ rfl) ?_
        refine J_bipush (v := 6) (by decide) (dk_X7_person 3 _ rfl) ?_
        refine J_cV (rv := some (.int 0)) (h' := hM0) (d' := 11) (As := [.int k, .int 0, .int 6]) ok_X7_in vi_X7_in cl_7_194 (n := 3) (by decide +kernel) rfl rfl rfl rfl (by decide) (by decide) (dk_X7_person 5 _ rfl) ?_ ?_
        · refine jCt_of ok_X7_in (fun _ _ => Nat.le_of_ble_eq_true rfl) (fun _ _ hq => by rw [hq.2]; first | exact Nat.le_refl _ | simp) ?_
          show J _ _ _ _ _ _ _ _ [(0, .ref 0), (1, .int k), (2, .int 0), (3, .int 6)] _ _ _
          refine J_iload_n (i := 1) (a := 1) rfl rfl (dk_X7_in 0 _ rfl) ?_
          refine J_iload_n (i := 2) (a := 2) rfl rfl (dk_X7_in 1 _ rfl) ?_
          refine J_icF (tgt := 14) (by decide) (dk_X7_in 2 _ rfl) (jI_nlt (rfl : (k : Int32).toInt = (k : Int32).toInt) (by decide : (0 : Int32).toInt = 0) (by omega)) ?_
          refine J_iload_n (i := 1) (a := 1) rfl rfl (dk_X7_in 5 _ rfl) ?_
          refine J_iload_n (i := 3) (a := 3) rfl rfl (dk_X7_in 6 _ rfl) ?_
          refine J_icT (tgt := 14) (by decide) (dk_X7_in 7 _ rfl) (jI_lt (by decide : (6 : Int32).toInt = 6) (rfl : (k : Int32).toInt = (k : Int32).toInt) (by omega)) ?_
          refine J_iconst (v := 0) (by decide) (dk_X7_in 14 _ rfl) ?_
          exact J_iret rfl rfl (dk_X7_in 15 _ rfl) ⟨rfl, rfl⟩
        show J _ _ _ _ _ _ _ _ _ [.int 0] _ _
        refine J_ifF (tgt := 13) (by decide) (dk_X7_person 8 _ rfl) (fun z => z (jI_eq (by decide : (0 : Int32).toInt = 0) (by decide : (0 : Int32).toInt = 0) (by omega))) ?_
        refine J_iconst (v := (-1)) (by decide) (dk_X7_person 11 _ rfl) ?_
        exact J_iret rfl rfl (dk_X7_person 12 _ rfl) ⟨rfl, rfl⟩
set_option maxHeartbeats 4000000 in
set_option maxRecDepth 1000000 in
theorem o_feed (s : Int32) : ∃ rv : Int32, jCt m_X6_feed 12 0 0 [.ref 0, .int s] hN0 (jA (.int rv) 94) ∧ jCt m_X7_feed 12 0 0 [.ref 0, .int s] hM0 (jA (.int rv) 37) := by
  have r_s := s.toInt_lt; have q_s := s.le_toInt
  by_cases c1 : (s : Int32).toInt < 0
  · refine ⟨(-2), ?_, ?_⟩
    · refine jCt_of ok_X6_feed (fun _ _ => Nat.le_of_ble_eq_true rfl) (fun _ _ hq => Nat.le_of_eq (lX.trans hq.2.symm)) ?_
      show J _ _ _ _ _ _ _ _ [(0, .ref 0), (1, .int s)] _ _ _
      refine J_iload_n (i := 1) (a := 1) rfl rfl (dk_X6_feed 0 _ rfl) ?_
      refine J_ifT (tgt := 11) (by decide) (dk_X6_feed 1 _ rfl) (jI_lt (rfl : (s : Int32).toInt = (s : Int32).toInt) (by decide : (0 : Int32).toInt = 0) (by omega)) ?_
      refine J_bipush (v := (-2)) (by decide) (dk_X6_feed 11 _ rfl) ?_
      exact J_iret rfl rfl (dk_X6_feed 13 _ rfl) ⟨rfl, rfl⟩
    · refine jCt_of ok_X7_feed (fun _ _ => Nat.le_of_ble_eq_true rfl) (fun _ _ hq => Nat.le_of_eq (lM.trans hq.2.symm)) ?_
      show J _ _ _ _ _ _ _ _ [(0, .ref 0), (1, .int s)] _ _ _
      refine J_aload_n (i := 0) (a := 0) rfl rfl (dk_X7_feed 0 _ rfl) ?_
      refine J_iload_n (i := 1) (a := 1) rfl rfl (dk_X7_feed 1 _ rfl) ?_
      refine J_iconst (v := 0) (by decide) (dk_X7_feed 2 _ rfl) ?_
      refine J_bipush (v := 127) (by decide) (dk_X7_feed 3 _ rfl) ?_
      refine J_cV (rv := some (.int 0)) (h' := hM0) (d' := 11) (As := [.int s, .int 0, .int 127]) ok_X7_in vi_X7_in cl_7_194 (n := 3) (by decide +kernel) rfl rfl rfl rfl (by decide) (by decide) (dk_X7_feed 5 _ rfl) ?_ ?_
      · refine jCt_of ok_X7_in (fun _ _ => Nat.le_of_ble_eq_true rfl) (fun _ _ hq => by rw [hq.2]; first | exact Nat.le_refl _ | simp) ?_
        show J _ _ _ _ _ _ _ _ [(0, .ref 0), (1, .int s), (2, .int 0), (3, .int 127)] _ _ _
        refine J_iload_n (i := 1) (a := 1) rfl rfl (dk_X7_in 0 _ rfl) ?_
        refine J_iload_n (i := 2) (a := 2) rfl rfl (dk_X7_in 1 _ rfl) ?_
        refine J_icT (tgt := 14) (by decide) (dk_X7_in 2 _ rfl) (jI_lt (rfl : (s : Int32).toInt = (s : Int32).toInt) (by decide : (0 : Int32).toInt = 0) (by omega)) ?_
        refine J_iconst (v := 0) (by decide) (dk_X7_in 14 _ rfl) ?_
        exact J_iret rfl rfl (dk_X7_in 15 _ rfl) ⟨rfl, rfl⟩
      show J _ _ _ _ _ _ _ _ _ [.int 0] _ _
      refine J_ifF (tgt := 14) (by decide) (dk_X7_feed 8 _ rfl) (fun z => z (jI_eq (by decide : (0 : Int32).toInt = 0) (by decide : (0 : Int32).toInt = 0) (by omega))) ?_
      refine J_bipush (v := (-2)) (by decide) (dk_X7_feed 11 _ rfl) ?_
      exact J_iret rfl rfl (dk_X7_feed 13 _ rfl) ⟨rfl, rfl⟩
  · by_cases c2 : (s : Int32).toInt < 128
    · refine ⟨1, ?_, ?_⟩
      · refine jCt_of ok_X6_feed (fun _ _ => Nat.le_of_ble_eq_true rfl) (fun _ _ hq => Nat.le_of_eq (lX.trans hq.2.symm)) ?_
        show J _ _ _ _ _ _ _ _ [(0, .ref 0), (1, .int s)] _ _ _
        refine J_iload_n (i := 1) (a := 1) rfl rfl (dk_X6_feed 0 _ rfl) ?_
        refine J_ifF (tgt := 11) (by decide) (dk_X6_feed 1 _ rfl) (jI_nlt (rfl : (s : Int32).toInt = (s : Int32).toInt) (by decide : (0 : Int32).toInt = 0) (by omega)) ?_
        refine J_iload_n (i := 1) (a := 1) rfl rfl (dk_X6_feed 4 _ rfl) ?_
        refine J_sipush (v := 128) (by decide) (dk_X6_feed 5 _ rfl) ?_
        refine J_icT (tgt := 14) (by decide) (dk_X6_feed 8 _ rfl) (jI_lt (rfl : (s : Int32).toInt = (s : Int32).toInt) (by decide : (128 : Int32).toInt = 128) (by omega)) ?_
        refine J_aload_n (i := 0) (a := 0) rfl rfl (dk_X6_feed 14 _ rfl) ?_
        refine J_getf fl_6_18 rfl rfl (dk_X6_feed 15 _ rfl) ?_
        refine J_getf fl_6_127 rfl rfl (dk_X6_feed 18 _ rfl) ?_
        refine J_bipush (v := 100) (by decide) (dk_X6_feed 21 _ rfl) ?_
        refine J_icT (tgt := 29) (by decide) (dk_X6_feed 23 _ rfl) (jI_lt (by decide : (0 : Int32).toInt = 0) (by decide : (100 : Int32).toInt = 100) (by omega)) ?_
        refine J_aload_n (i := 0) (a := 0) rfl rfl (dk_X6_feed 29 _ rfl) ?_
        refine J_getf fl_6_18 rfl rfl (dk_X6_feed 30 _ rfl) ?_
        refine J_getf fl_6_130 rfl rfl (dk_X6_feed 33 _ rfl) ?_
        refine J_aload_n (i := 0) (a := 0) rfl rfl (dk_X6_feed 36 _ rfl) ?_
        refine J_getf fl_6_18 rfl rfl (dk_X6_feed 37 _ rfl) ?_
        refine J_getf fl_6_127 rfl rfl (dk_X6_feed 40 _ rfl) ?_
        refine J_iload_n (i := 1) (a := 1) rfl rfl (dk_X6_feed 43 _ rfl) ?_
        refine J_i2b (dk_X6_feed 44 _ rfl) ?_
        refine J_bast rfl (by decide) (Nat.le_of_ble_eq_true rfl) (dk_X6_feed 45 _ rfl) ?_
        refine J_aload_n (i := 0) (a := 0) rfl rfl (dk_X6_feed 46 _ rfl) ?_
        refine J_getf fl_6_18 rfl rfl (dk_X6_feed 47 _ rfl) ?_
        refine J_dup rfl (dk_X6_feed 50 _ rfl) ?_
        refine J_getf fl_6_127 rfl rfl (dk_X6_feed 51 _ rfl) ?_
        refine J_iconst (v := 1) (by decide) (dk_X6_feed 54 _ rfl) ?_
        refine J_iaddC (v := 1) (by decide) (dk_X6_feed 55 _ rfl) ?_
        refine J_putf fl_6_127 rfl (fun q hq => by cases hq; rfl) trivial (Nat.le_of_ble_eq_true rfl) (dk_X6_feed 56 _ rfl) ?_
        refine J_aload_n (i := 0) (a := 0) rfl rfl (dk_X6_feed 59 _ rfl) ?_
        refine J_getf fl_6_18 rfl rfl (dk_X6_feed 60 _ rfl) ?_
        refine J_getf fl_6_127 rfl rfl (dk_X6_feed 63 _ rfl) ?_
        exact J_iret rfl rfl (dk_X6_feed 66 _ rfl) ⟨rfl, rfl⟩
      · refine jCt_of ok_X7_feed (fun _ _ => Nat.le_of_ble_eq_true rfl) (fun _ _ hq => Nat.le_of_eq (lM.trans hq.2.symm)) ?_
        show J _ _ _ _ _ _ _ _ [(0, .ref 0), (1, .int s)] _ _ _
        refine J_aload_n (i := 0) (a := 0) rfl rfl (dk_X7_feed 0 _ rfl) ?_
        refine J_iload_n (i := 1) (a := 1) rfl rfl (dk_X7_feed 1 _ rfl) ?_
        refine J_iconst (v := 0) (by decide) (dk_X7_feed 2 _ rfl) ?_
        refine J_bipush (v := 127) (by decide) (dk_X7_feed 3 _ rfl) ?_
        refine J_cV (rv := some (.int 1)) (h' := hM0) (d' := 11) (As := [.int s, .int 0, .int 127]) ok_X7_in vi_X7_in cl_7_194 (n := 3) (by decide +kernel) rfl rfl rfl rfl (by decide) (by decide) (dk_X7_feed 5 _ rfl) ?_ ?_
        · refine jCt_of ok_X7_in (fun _ _ => Nat.le_of_ble_eq_true rfl) (fun _ _ hq => by rw [hq.2]; first | exact Nat.le_refl _ | simp) ?_
          show J _ _ _ _ _ _ _ _ [(0, .ref 0), (1, .int s), (2, .int 0), (3, .int 127)] _ _ _
          refine J_iload_n (i := 1) (a := 1) rfl rfl (dk_X7_in 0 _ rfl) ?_
          refine J_iload_n (i := 2) (a := 2) rfl rfl (dk_X7_in 1 _ rfl) ?_
          refine J_icF (tgt := 14) (by decide) (dk_X7_in 2 _ rfl) (jI_nlt (rfl : (s : Int32).toInt = (s : Int32).toInt) (by decide : (0 : Int32).toInt = 0) (by omega)) ?_
          refine J_iload_n (i := 1) (a := 1) rfl rfl (dk_X7_in 5 _ rfl) ?_
          refine J_iload_n (i := 3) (a := 3) rfl rfl (dk_X7_in 6 _ rfl) ?_
          refine J_icF (tgt := 14) (by decide) (dk_X7_in 7 _ rfl) (jI_nlt (by decide : (127 : Int32).toInt = 127) (rfl : (s : Int32).toInt = (s : Int32).toInt) (by omega)) ?_
          refine J_iconst (v := 1) (by decide) (dk_X7_in 10 _ rfl) ?_
          refine J_goto (tgt := 15) (by decide) (dk_X7_in 11 _ rfl) ?_
          exact J_iret rfl rfl (dk_X7_in 15 _ rfl) ⟨rfl, rfl⟩
        show J _ _ _ _ _ _ _ _ _ [.int 1] _ _
        refine J_ifT (tgt := 14) (by decide) (dk_X7_feed 8 _ rfl) (jI_ne (by decide : (1 : Int32).toInt = 1) (by decide : (0 : Int32).toInt = 0) (by omega)) ?_
        refine J_aload_n (i := 0) (a := 0) rfl rfl (dk_X7_feed 14 _ rfl) ?_
        refine J_getf fl_7_48 rfl rfl (dk_X7_feed 15 _ rfl) ?_
        refine J_bipush (v := 100) (by decide) (dk_X7_feed 18 _ rfl) ?_
        refine J_icT (tgt := 26) (by decide) (dk_X7_feed 20 _ rfl) (jI_ne (by decide : (0 : Int32).toInt = 0) (by decide : (100 : Int32).toInt = 100) (by omega)) ?_
        refine J_aload_n (i := 0) (a := 0) rfl rfl (dk_X7_feed 26 _ rfl) ?_
        refine J_getf fl_7_57 rfl rfl (dk_X7_feed 27 _ rfl) ?_
        refine J_aload_n (i := 0) (a := 0) rfl rfl (dk_X7_feed 30 _ rfl) ?_
        refine J_getf fl_7_48 rfl rfl (dk_X7_feed 31 _ rfl) ?_
        refine J_iload_n (i := 1) (a := 1) rfl rfl (dk_X7_feed 34 _ rfl) ?_
        refine J_iast rfl (by decide) (Nat.le_of_ble_eq_true rfl) (dk_X7_feed 35 _ rfl) ?_
        refine J_aload_n (i := 0) (a := 0) rfl rfl (dk_X7_feed 36 _ rfl) ?_
        refine J_dup rfl (dk_X7_feed 37 _ rfl) ?_
        refine J_getf fl_7_48 rfl rfl (dk_X7_feed 38 _ rfl) ?_
        refine J_iconst (v := 1) (by decide) (dk_X7_feed 41 _ rfl) ?_
        refine J_iaddC (v := 1) (by decide) (dk_X7_feed 42 _ rfl) ?_
        refine J_putf fl_7_48 rfl (fun q hq => by cases hq; rfl) trivial (Nat.le_of_ble_eq_true rfl) (dk_X7_feed 43 _ rfl) ?_
        refine J_aload_n (i := 0) (a := 0) rfl rfl (dk_X7_feed 46 _ rfl) ?_
        refine J_getf fl_7_48 rfl rfl (dk_X7_feed 47 _ rfl) ?_
        exact J_iret rfl rfl (dk_X7_feed 50 _ rfl) ⟨rfl, rfl⟩
    · refine ⟨(-2), ?_, ?_⟩
      · refine jCt_of ok_X6_feed (fun _ _ => Nat.le_of_ble_eq_true rfl) (fun _ _ hq => Nat.le_of_eq (lX.trans hq.2.symm)) ?_
        show J _ _ _ _ _ _ _ _ [(0, .ref 0), (1, .int s)] _ _ _
        refine J_iload_n (i := 1) (a := 1) rfl rfl (dk_X6_feed 0 _ rfl) ?_
        refine J_ifF (tgt := 11) (by decide) (dk_X6_feed 1 _ rfl) (jI_nlt (rfl : (s : Int32).toInt = (s : Int32).toInt) (by decide : (0 : Int32).toInt = 0) (by omega)) ?_
        refine J_iload_n (i := 1) (a := 1) rfl rfl (dk_X6_feed 4 _ rfl) ?_
        refine J_sipush (v := 128) (by decide) (dk_X6_feed 5 _ rfl) ?_
        refine J_icF (tgt := 14) (by decide) (dk_X6_feed 8 _ rfl) (jI_nlt (rfl : (s : Int32).toInt = (s : Int32).toInt) (by decide : (128 : Int32).toInt = 128) (by omega)) ?_
        refine J_bipush (v := (-2)) (by decide) (dk_X6_feed 11 _ rfl) ?_
        exact J_iret rfl rfl (dk_X6_feed 13 _ rfl) ⟨rfl, rfl⟩
      · refine jCt_of ok_X7_feed (fun _ _ => Nat.le_of_ble_eq_true rfl) (fun _ _ hq => Nat.le_of_eq (lM.trans hq.2.symm)) ?_
        show J _ _ _ _ _ _ _ _ [(0, .ref 0), (1, .int s)] _ _ _
        refine J_aload_n (i := 0) (a := 0) rfl rfl (dk_X7_feed 0 _ rfl) ?_
        refine J_iload_n (i := 1) (a := 1) rfl rfl (dk_X7_feed 1 _ rfl) ?_
        refine J_iconst (v := 0) (by decide) (dk_X7_feed 2 _ rfl) ?_
        refine J_bipush (v := 127) (by decide) (dk_X7_feed 3 _ rfl) ?_
        refine J_cV (rv := some (.int 0)) (h' := hM0) (d' := 11) (As := [.int s, .int 0, .int 127]) ok_X7_in vi_X7_in cl_7_194 (n := 3) (by decide +kernel) rfl rfl rfl rfl (by decide) (by decide) (dk_X7_feed 5 _ rfl) ?_ ?_
        · refine jCt_of ok_X7_in (fun _ _ => Nat.le_of_ble_eq_true rfl) (fun _ _ hq => by rw [hq.2]; first | exact Nat.le_refl _ | simp) ?_
          show J _ _ _ _ _ _ _ _ [(0, .ref 0), (1, .int s), (2, .int 0), (3, .int 127)] _ _ _
          refine J_iload_n (i := 1) (a := 1) rfl rfl (dk_X7_in 0 _ rfl) ?_
          refine J_iload_n (i := 2) (a := 2) rfl rfl (dk_X7_in 1 _ rfl) ?_
          refine J_icF (tgt := 14) (by decide) (dk_X7_in 2 _ rfl) (jI_nlt (rfl : (s : Int32).toInt = (s : Int32).toInt) (by decide : (0 : Int32).toInt = 0) (by omega)) ?_
          refine J_iload_n (i := 1) (a := 1) rfl rfl (dk_X7_in 5 _ rfl) ?_
          refine J_iload_n (i := 3) (a := 3) rfl rfl (dk_X7_in 6 _ rfl) ?_
          refine J_icT (tgt := 14) (by decide) (dk_X7_in 7 _ rfl) (jI_lt (by decide : (127 : Int32).toInt = 127) (rfl : (s : Int32).toInt = (s : Int32).toInt) (by omega)) ?_
          refine J_iconst (v := 0) (by decide) (dk_X7_in 14 _ rfl) ?_
          exact J_iret rfl rfl (dk_X7_in 15 _ rfl) ⟨rfl, rfl⟩
        show J _ _ _ _ _ _ _ _ _ [.int 0] _ _
        refine J_ifF (tgt := 14) (by decide) (dk_X7_feed 8 _ rfl) (fun z => z (jI_eq (by decide : (0 : Int32).toInt = 0) (by decide : (0 : Int32).toInt = 0) (by omega))) ?_
        refine J_bipush (v := (-2)) (by decide) (dk_X7_feed 11 _ rfl) ?_
        exact J_iret rfl rfl (dk_X7_feed 13 _ rfl) ⟨rfl, rfl⟩
set_option maxHeartbeats 4000000 in
set_option maxRecDepth 1000000 in
theorem o_book (p : Int32) : ∃ rv : Int32, jCt m_X6_book 12 0 0 [.ref 0, .int p] hN0 (jA (.int rv) 94) ∧ jCt m_X7_book 12 0 0 [.ref 0, .int p] hM0 (jA (.int rv) 37) := by
  have r_p := p.toInt_lt; have q_p := p.le_toInt
  by_cases c2 : (p : Int32).toInt < (-10000)
  · refine ⟨(-2), ?_, ?_⟩
    · refine jCt_of ok_X6_book (fun _ _ => Nat.le_of_ble_eq_true rfl) (fun _ _ hq => Nat.le_of_eq (lX.trans hq.2.symm)) ?_
      show J _ _ _ _ _ _ _ _ [(0, .ref 0), (1, .int p)] _ _ _
      refine J_iload_n (i := 1) (a := 1) rfl rfl (dk_X6_book 0 _ rfl) ?_
      refine J_sipush (v := (-10000)) (by decide) (dk_X6_book 1 _ rfl) ?_
      refine J_icT (tgt := 17) (by decide) (dk_X6_book 4 _ rfl) (jI_ne (rfl : (p : Int32).toInt = (p : Int32).toInt) (by decide : ((-10000) : Int32).toInt = (-10000)) (by omega)) ?_
      refine J_iload_n (i := 1) (a := 1) rfl rfl (dk_X6_book 17 _ rfl) ?_
      refine J_sipush (v := (-9999)) (by decide) (dk_X6_book 18 _ rfl) ?_
      refine J_icT (tgt := 31) (by decide) (dk_X6_book 21 _ rfl) (jI_lt (rfl : (p : Int32).toInt = (p : Int32).toInt) (by decide : ((-9999) : Int32).toInt = (-9999)) (by omega)) ?_
      refine J_bipush (v := (-2)) (by decide) (dk_X6_book 31 _ rfl) ?_
      exact J_iret rfl rfl (dk_X6_book 33 _ rfl) ⟨rfl, rfl⟩
    · refine jCt_of ok_X7_book (fun _ _ => Nat.le_of_ble_eq_true rfl) (fun _ _ hq => Nat.le_of_eq (lM.trans hq.2.symm)) ?_
      show J _ _ _ _ _ _ _ _ [(0, .ref 0), (1, .int p)] _ _ _
      refine J_iload_n (i := 1) (a := 1) rfl rfl (dk_X7_book 0 _ rfl) ?_
      refine J_sipush (v := (-10000)) (by decide) (dk_X7_book 1 _ rfl) ?_
      refine J_icT (tgt := 14) (by decide) (dk_X7_book 4 _ rfl) (jI_ne (rfl : (p : Int32).toInt = (p : Int32).toInt) (by decide : ((-10000) : Int32).toInt = (-10000)) (by omega)) ?_
      refine J_aload_n (i := 0) (a := 0) rfl rfl (dk_X7_book 14 _ rfl) ?_
      refine J_iload_n (i := 1) (a := 1) rfl rfl (dk_X7_book 15 _ rfl) ?_
      refine J_sipush (v := (-9999)) (by decide) (dk_X7_book 16 _ rfl) ?_
      refine J_sipush (v := 9999) (by decide) (dk_X7_book 19 _ rfl) ?_
      refine J_cV (rv := some (.int 0)) (h' := hM0) (d' := 11) (As := [.int p, .int (-9999), .int 9999]) ok_X7_in vi_X7_in cl_7_194 (n := 3) (by decide +kernel) rfl rfl rfl rfl (by decide) (by decide) (dk_X7_book 22 _ rfl) ?_ ?_
      · refine jCt_of ok_X7_in (fun _ _ => Nat.le_of_ble_eq_true rfl) (fun _ _ hq => by rw [hq.2]; first | exact Nat.le_refl _ | simp) ?_
        show J _ _ _ _ _ _ _ _ [(0, .ref 0), (1, .int p), (2, .int (-9999)), (3, .int 9999)] _ _ _
        refine J_iload_n (i := 1) (a := 1) rfl rfl (dk_X7_in 0 _ rfl) ?_
        refine J_iload_n (i := 2) (a := 2) rfl rfl (dk_X7_in 1 _ rfl) ?_
        refine J_icT (tgt := 14) (by decide) (dk_X7_in 2 _ rfl) (jI_lt (rfl : (p : Int32).toInt = (p : Int32).toInt) (by decide : ((-9999) : Int32).toInt = (-9999)) (by omega)) ?_
        refine J_iconst (v := 0) (by decide) (dk_X7_in 14 _ rfl) ?_
        exact J_iret rfl rfl (dk_X7_in 15 _ rfl) ⟨rfl, rfl⟩
      show J _ _ _ _ _ _ _ _ _ [.int 0] _ _
      refine J_ifF (tgt := 31) (by decide) (dk_X7_book 25 _ rfl) (fun z => z (jI_eq (by decide : (0 : Int32).toInt = 0) (by decide : (0 : Int32).toInt = 0) (by omega))) ?_
      refine J_bipush (v := (-2)) (by decide) (dk_X7_book 28 _ rfl) ?_
      exact J_iret rfl rfl (dk_X7_book 30 _ rfl) ⟨rfl, rfl⟩
  · by_cases c3 : (p : Int32).toInt = (-10000)
    · obtain rfl : p = (-10000) := jI_eq rfl (by decide) c3
      exact ⟨0, jq2_ct rfl (F := 100000) (d := 12) (mid := 65) (by decide +kernel), jq2_ct rfl (F := 100000) (d := 12) (mid := 163) (by decide +kernel)⟩
    · by_cases c4 : (p : Int32).toInt < 10000
      · refine ⟨1, ?_, ?_⟩
        · refine jCt_of ok_X6_book (fun _ _ => Nat.le_of_ble_eq_true rfl) (fun _ _ hq => Nat.le_of_eq (lX.trans hq.2.symm)) ?_
          show J _ _ _ _ _ _ _ _ [(0, .ref 0), (1, .int p)] _ _ _
          refine J_iload_n (i := 1) (a := 1) rfl rfl (dk_X6_book 0 _ rfl) ?_
          refine J_sipush (v := (-10000)) (by decide) (dk_X6_book 1 _ rfl) ?_
          refine J_icT (tgt := 17) (by decide) (dk_X6_book 4 _ rfl) (jI_ne (rfl : (p : Int32).toInt = (p : Int32).toInt) (by decide : ((-10000) : Int32).toInt = (-10000)) (by omega)) ?_
          refine J_iload_n (i := 1) (a := 1) rfl rfl (dk_X6_book 17 _ rfl) ?_
          refine J_sipush (v := (-9999)) (by decide) (dk_X6_book 18 _ rfl) ?_
          refine J_icF (tgt := 31) (by decide) (dk_X6_book 21 _ rfl) (jI_nlt (rfl : (p : Int32).toInt = (p : Int32).toInt) (by decide : ((-9999) : Int32).toInt = (-9999)) (by omega)) ?_
          refine J_iload_n (i := 1) (a := 1) rfl rfl (dk_X6_book 24 _ rfl) ?_
          refine J_sipush (v := 9999) (by decide) (dk_X6_book 25 _ rfl) ?_
          refine J_icT (tgt := 34) (by decide) (dk_X6_book 28 _ rfl) (jI_le (rfl : (p : Int32).toInt = (p : Int32).toInt) (by decide : (9999 : Int32).toInt = 9999) (by omega)) ?_
          refine J_aload_n (i := 0) (a := 0) rfl rfl (dk_X6_book 34 _ rfl) ?_
          refine J_getf fl_6_47 rfl rfl (dk_X6_book 35 _ rfl) ?_
          refine J_getf fl_6_209 rfl rfl (dk_X6_book 38 _ rfl) ?_
          refine J_bipush (v := 12) (by decide) (dk_X6_book 41 _ rfl) ?_
          refine J_icT (tgt := 49) (by decide) (dk_X6_book 43 _ rfl) (jI_lt (by decide : (0 : Int32).toInt = 0) (by decide : (12 : Int32).toInt = 12) (by omega)) ?_
          refine J_aload_n (i := 0) (a := 0) rfl rfl (dk_X6_book 49 _ rfl) ?_
          refine J_getf fl_6_47 rfl rfl (dk_X6_book 50 _ rfl) ?_
          refine J_getf fl_6_212 rfl rfl (dk_X6_book 53 _ rfl) ?_
          refine J_aload_n (i := 0) (a := 0) rfl rfl (dk_X6_book 56 _ rfl) ?_
          refine J_getf fl_6_47 rfl rfl (dk_X6_book 57 _ rfl) ?_
          refine J_getf fl_6_209 rfl rfl (dk_X6_book 60 _ rfl) ?_
          refine J_iload_n (i := 1) (a := 1) rfl rfl (dk_X6_book 63 _ rfl) ?_
          refine J_iast rfl (by decide) (Nat.le_of_ble_eq_true rfl) (dk_X6_book 64 _ rfl) ?_
          refine J_aload_n (i := 0) (a := 0) rfl rfl (dk_X6_book 65 _ rfl) ?_
          refine J_getf fl_6_47 rfl rfl (dk_X6_book 66 _ rfl) ?_
          refine J_dup rfl (dk_X6_book 69 _ rfl) ?_
          refine J_getf fl_6_209 rfl rfl (dk_X6_book 70 _ rfl) ?_
          refine J_iconst (v := 1) (by decide) (dk_X6_book 73 _ rfl) ?_
          refine J_iaddC (v := 1) (by decide) (dk_X6_book 74 _ rfl) ?_
          refine J_putf fl_6_209 rfl (fun q hq => by cases hq; rfl) trivial (Nat.le_of_ble_eq_true rfl) (dk_X6_book 75 _ rfl) ?_
          refine J_aload_n (i := 0) (a := 0) rfl rfl (dk_X6_book 78 _ rfl) ?_
          refine J_getf fl_6_47 rfl rfl (dk_X6_book 79 _ rfl) ?_
          refine J_getf fl_6_209 rfl rfl (dk_X6_book 82 _ rfl) ?_
          exact J_iret rfl rfl (dk_X6_book 85 _ rfl) ⟨rfl, rfl⟩
        · refine jCt_of ok_X7_book (fun _ _ => Nat.le_of_ble_eq_true rfl) (fun _ _ hq => Nat.le_of_eq (lM.trans hq.2.symm)) ?_
          show J _ _ _ _ _ _ _ _ [(0, .ref 0), (1, .int p)] _ _ _
          refine J_iload_n (i := 1) (a := 1) rfl rfl (dk_X7_book 0 _ rfl) ?_
          refine J_sipush (v := (-10000)) (by decide) (dk_X7_book 1 _ rfl) ?_
          refine J_icT (tgt := 14) (by decide) (dk_X7_book 4 _ rfl) (jI_ne (rfl : (p : Int32).toInt = (p : Int32).toInt) (by decide : ((-10000) : Int32).toInt = (-10000)) (by omega)) ?_
          refine J_aload_n (i := 0) (a := 0) rfl rfl (dk_X7_book 14 _ rfl) ?_
          refine J_iload_n (i := 1) (a := 1) rfl rfl (dk_X7_book 15 _ rfl) ?_
          refine J_sipush (v := (-9999)) (by decide) (dk_X7_book 16 _ rfl) ?_
          refine J_sipush (v := 9999) (by decide) (dk_X7_book 19 _ rfl) ?_
          refine J_cV (rv := some (.int 1)) (h' := hM0) (d' := 11) (As := [.int p, .int (-9999), .int 9999]) ok_X7_in vi_X7_in cl_7_194 (n := 3) (by decide +kernel) rfl rfl rfl rfl (by decide) (by decide) (dk_X7_book 22 _ rfl) ?_ ?_
          · refine jCt_of ok_X7_in (fun _ _ => Nat.le_of_ble_eq_true rfl) (fun _ _ hq => by rw [hq.2]; first | exact Nat.le_refl _ | simp) ?_
            show J _ _ _ _ _ _ _ _ [(0, .ref 0), (1, .int p), (2, .int (-9999)), (3, .int 9999)] _ _ _
            refine J_iload_n (i := 1) (a := 1) rfl rfl (dk_X7_in 0 _ rfl) ?_
            refine J_iload_n (i := 2) (a := 2) rfl rfl (dk_X7_in 1 _ rfl) ?_
            refine J_icF (tgt := 14) (by decide) (dk_X7_in 2 _ rfl) (jI_nlt (rfl : (p : Int32).toInt = (p : Int32).toInt) (by decide : ((-9999) : Int32).toInt = (-9999)) (by omega)) ?_
            refine J_iload_n (i := 1) (a := 1) rfl rfl (dk_X7_in 5 _ rfl) ?_
            refine J_iload_n (i := 3) (a := 3) rfl rfl (dk_X7_in 6 _ rfl) ?_
            refine J_icF (tgt := 14) (by decide) (dk_X7_in 7 _ rfl) (jI_nlt (by decide : (9999 : Int32).toInt = 9999) (rfl : (p : Int32).toInt = (p : Int32).toInt) (by omega)) ?_
            refine J_iconst (v := 1) (by decide) (dk_X7_in 10 _ rfl) ?_
            refine J_goto (tgt := 15) (by decide) (dk_X7_in 11 _ rfl) ?_
            exact J_iret rfl rfl (dk_X7_in 15 _ rfl) ⟨rfl, rfl⟩
          show J _ _ _ _ _ _ _ _ _ [.int 1] _ _
          refine J_ifT (tgt := 31) (by decide) (dk_X7_book 25 _ rfl) (jI_ne (by decide : (1 : Int32).toInt = 1) (by decide : (0 : Int32).toInt = 0) (by omega)) ?_
          refine J_aload_n (i := 0) (a := 0) rfl rfl (dk_X7_book 31 _ rfl) ?_
          refine J_getf fl_7_126 rfl rfl (dk_X7_book 32 _ rfl) ?_
          refine J_bipush (v := 12) (by decide) (dk_X7_book 35 _ rfl) ?_
          refine J_icT (tgt := 43) (by decide) (dk_X7_book 37 _ rfl) (jI_ne (by decide : (0 : Int32).toInt = 0) (by decide : (12 : Int32).toInt = 12) (by omega)) ?_
          refine J_aload_n (i := 0) (a := 0) rfl rfl (dk_X7_book 43 _ rfl) ?_
          refine J_getf fl_7_129 rfl rfl (dk_X7_book 44 _ rfl) ?_
          refine J_aload_n (i := 0) (a := 0) rfl rfl (dk_X7_book 47 _ rfl) ?_
          refine J_getf fl_7_126 rfl rfl (dk_X7_book 48 _ rfl) ?_
          refine J_iload_n (i := 1) (a := 1) rfl rfl (dk_X7_book 51 _ rfl) ?_
          refine J_iast rfl (by decide) (Nat.le_of_ble_eq_true rfl) (dk_X7_book 52 _ rfl) ?_
          refine J_aload_n (i := 0) (a := 0) rfl rfl (dk_X7_book 53 _ rfl) ?_
          refine J_dup rfl (dk_X7_book 54 _ rfl) ?_
          refine J_getf fl_7_126 rfl rfl (dk_X7_book 55 _ rfl) ?_
          refine J_iconst (v := 1) (by decide) (dk_X7_book 58 _ rfl) ?_
          refine J_iaddC (v := 1) (by decide) (dk_X7_book 59 _ rfl) ?_
          refine J_putf fl_7_126 rfl (fun q hq => by cases hq; rfl) trivial (Nat.le_of_ble_eq_true rfl) (dk_X7_book 60 _ rfl) ?_
          refine J_aload_n (i := 0) (a := 0) rfl rfl (dk_X7_book 63 _ rfl) ?_
          refine J_getf fl_7_126 rfl rfl (dk_X7_book 64 _ rfl) ?_
          exact J_iret rfl rfl (dk_X7_book 67 _ rfl) ⟨rfl, rfl⟩
      · refine ⟨(-2), ?_, ?_⟩
        · refine jCt_of ok_X6_book (fun _ _ => Nat.le_of_ble_eq_true rfl) (fun _ _ hq => Nat.le_of_eq (lX.trans hq.2.symm)) ?_
          show J _ _ _ _ _ _ _ _ [(0, .ref 0), (1, .int p)] _ _ _
          refine J_iload_n (i := 1) (a := 1) rfl rfl (dk_X6_book 0 _ rfl) ?_
          refine J_sipush (v := (-10000)) (by decide) (dk_X6_book 1 _ rfl) ?_
          refine J_icT (tgt := 17) (by decide) (dk_X6_book 4 _ rfl) (jI_ne (rfl : (p : Int32).toInt = (p : Int32).toInt) (by decide : ((-10000) : Int32).toInt = (-10000)) (by omega)) ?_
          refine J_iload_n (i := 1) (a := 1) rfl rfl (dk_X6_book 17 _ rfl) ?_
          refine J_sipush (v := (-9999)) (by decide) (dk_X6_book 18 _ rfl) ?_
          refine J_icF (tgt := 31) (by decide) (dk_X6_book 21 _ rfl) (jI_nlt (rfl : (p : Int32).toInt = (p : Int32).toInt) (by decide : ((-9999) : Int32).toInt = (-9999)) (by omega)) ?_
          refine J_iload_n (i := 1) (a := 1) rfl rfl (dk_X6_book 24 _ rfl) ?_
          refine J_sipush (v := 9999) (by decide) (dk_X6_book 25 _ rfl) ?_
          refine J_icF (tgt := 34) (by decide) (dk_X6_book 28 _ rfl) (jI_nle (rfl : (p : Int32).toInt = (p : Int32).toInt) (by decide : (9999 : Int32).toInt = 9999) (by omega)) ?_
          refine J_bipush (v := (-2)) (by decide) (dk_X6_book 31 _ rfl) ?_
          exact J_iret rfl rfl (dk_X6_book 33 _ rfl) ⟨rfl, rfl⟩
        · refine jCt_of ok_X7_book (fun _ _ => Nat.le_of_ble_eq_true rfl) (fun _ _ hq => Nat.le_of_eq (lM.trans hq.2.symm)) ?_
          show J _ _ _ _ _ _ _ _ [(0, .ref 0), (1, .int p)] _ _ _
          refine J_iload_n (i := 1) (a := 1) rfl rfl (dk_X7_book 0 _ rfl) ?_
          refine J_sipush (v := (-10000)) (by decide) (dk_X7_book 1 _ rfl) ?_
          refine J_icT (tgt := 14) (by decide) (dk_X7_book 4 _ rfl) (jI_ne (rfl : (p : Int32).toInt = (p : Int32).toInt) (by decide : ((-10000) : Int32).toInt = (-10000)) (by omega)) ?_
          refine J_aload_n (i := 0) (a := 0) rfl rfl (dk_X7_book 14 _ rfl) ?_
          refine J_iload_n (i := 1) (a := 1) rfl rfl (dk_X7_book 15 _ rfl) ?_
          refine J_sipush (v := (-9999)) (by decide) (dk_X7_book 16 _ rfl) ?_
          refine J_sipush (v := 9999) (by decide) (dk_X7_book 19 _ rfl) ?_
          refine J_cV (rv := some (.int 0)) (h' := hM0) (d' := 11) (As := [.int p, .int (-9999), .int 9999]) ok_X7_in vi_X7_in cl_7_194 (n := 3) (by decide +kernel) rfl rfl rfl rfl (by decide) (by decide) (dk_X7_book 22 _ rfl) ?_ ?_
          · refine jCt_of ok_X7_in (fun _ _ => Nat.le_of_ble_eq_true rfl) (fun _ _ hq => by rw [hq.2]; first | exact Nat.le_refl _ | simp) ?_
            show J _ _ _ _ _ _ _ _ [(0, .ref 0), (1, .int p), (2, .int (-9999)), (3, .int 9999)] _ _ _
            refine J_iload_n (i := 1) (a := 1) rfl rfl (dk_X7_in 0 _ rfl) ?_
            refine J_iload_n (i := 2) (a := 2) rfl rfl (dk_X7_in 1 _ rfl) ?_
            refine J_icF (tgt := 14) (by decide) (dk_X7_in 2 _ rfl) (jI_nlt (rfl : (p : Int32).toInt = (p : Int32).toInt) (by decide : ((-9999) : Int32).toInt = (-9999)) (by omega)) ?_
            refine J_iload_n (i := 1) (a := 1) rfl rfl (dk_X7_in 5 _ rfl) ?_
            refine J_iload_n (i := 3) (a := 3) rfl rfl (dk_X7_in 6 _ rfl) ?_
            refine J_icT (tgt := 14) (by decide) (dk_X7_in 7 _ rfl) (jI_lt (by decide : (9999 : Int32).toInt = 9999) (rfl : (p : Int32).toInt = (p : Int32).toInt) (by omega)) ?_
            refine J_iconst (v := 0) (by decide) (dk_X7_in 14 _ rfl) ?_
            exact J_iret rfl rfl (dk_X7_in 15 _ rfl) ⟨rfl, rfl⟩
          show J _ _ _ _ _ _ _ _ _ [.int 0] _ _
          refine J_ifF (tgt := 31) (by decide) (dk_X7_book 25 _ rfl) (fun z => z (jI_eq (by decide : (0 : Int32).toInt = 0) (by decide : (0 : Int32).toInt = 0) (by omega))) ?_
          refine J_bipush (v := (-2)) (by decide) (dk_X7_book 28 _ rfl) ?_
          exact J_iret rfl rfl (dk_X7_book 30 _ rfl) ⟨rfl, rfl⟩
set_option maxHeartbeats 4000000 in
set_option maxRecDepth 1000000 in
theorem o_town  : ∃ rv : Int32, jCt m_X6_town 12 0 0 [.ref 0] hN0 (jA (.int rv) 94) ∧ jCt m_X7_town 12 0 0 [.ref 0] hM0 (jA (.int rv) 37) := by
  exact ⟨(-10), jq2_ct rfl (F := 100000) (d := 12) (mid := 48) (by decide +kernel), jq2_ct rfl (F := 100000) (d := 12) (mid := 115) (by decide +kernel)⟩
set_option maxHeartbeats 4000000 in
set_option maxRecDepth 1000000 in
theorem o_day  : ∃ rv : Int32, jCt m_X6_day 12 0 0 [.ref 0] hN0 (jA (.int rv) 94) ∧ jCt m_X7_day 12 0 0 [.ref 0] hM0 (jA (.int rv) 37) := by
  exact ⟨0, jq2_ct rfl (F := 100000) (d := 12) (mid := 50) (by decide +kernel), jq2_ct rfl (F := 100000) (d := 12) (mid := 136) (by decide +kernel)⟩
set_option maxHeartbeats 4000000 in
set_option maxRecDepth 1000000 in
theorem o_quiet  : ∃ rv : Int32, jCt m_X6_quiet 12 0 0 [.ref 0] hN0 (jA (.int rv) 94) ∧ jCt m_X7_quiet 12 0 0 [.ref 0] hM0 (jA (.int rv) 37) := by
  exact ⟨4095, jq2_ct rfl (F := 100000) (d := 12) (mid := 55) (by decide +kernel), jq2_ct rfl (F := 100000) (d := 12) (mid := 146) (by decide +kernel)⟩
set_option maxHeartbeats 4000000 in
set_option maxRecDepth 1000000 in
theorem o_image  : ∃ rv : Int32, jCt m_X6_image 12 0 0 [.ref 0] hN0 (jA (.int rv) 94) ∧ jCt m_X7_image 12 0 0 [.ref 0] hM0 (jA (.int rv) 37) := by
  exact ⟨0, jq2_ct rfl (F := 100000) (d := 12) (mid := 68) (by decide +kernel), jq2_ct rfl (F := 100000) (d := 12) (mid := 166) (by decide +kernel)⟩
set_option maxHeartbeats 4000000 in
set_option maxRecDepth 1000000 in
theorem o_undo  : ∃ rv : Int32, jCt m_X6_undo 12 0 0 [.ref 0] hN0 (jA (.int rv) 94) ∧ jCt m_X7_undo 12 0 0 [.ref 0] hM0 (jA (.int rv) 37) := by
  exact ⟨(-3), jq2_ct rfl (F := 100000) (d := 12) (mid := 69) (by decide +kernel), jq2_ct rfl (F := 100000) (d := 12) (mid := 167) (by decide +kernel)⟩
