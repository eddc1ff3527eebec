set_option maxHeartbeats 4000000 in
set_option maxRecDepth 1000000 in
theorem o_of (p : Int32) (w : Int32) : ∃ rv : Int32, jCt m_X6_of 12 0 0 [.ref 0, .int p, .int w] hN0 (jA (.int rv) 94) ∧ jCt m_X7_of 12 0 0 [.ref 0, .int p, .int w] hM0 (jA (.int rv) 37) := by
  have r_p := p.toInt_lt; have q_p := p.le_toInt
  have r_w := w.toInt_lt; have q_w := w.le_toInt
  by_cases c1 : (p : Int32).toInt < 0
  · refine ⟨(-10000001), ?_, ?_⟩
    · refine jCt_of ok_X6_of (fun _ _ => Nat.le_of_ble_eq_true rfl) (fun _ _ hq => Nat.le_of_eq (lX.trans hq.2.symm)) ?_
      show J _ _ _ _ _ _ _ _ [(0, .ref 0), (1, .int p), (2, .int w)] _ _ _
      refine J_aload_n (i := 0) (a := 0) rfl rfl (dk_X6_of 0 _ rfl) ?_
      refine J_iload_n (i := 1) (a := 1) rfl rfl (dk_X6_of 1 _ rfl) ?_
      refine J_cV (rv := some (.int 0)) (h' := hN0) (d' := 11) (As := [.int p]) ok_X6_isPerson vi_X6_isPerson cl_6_79 (n := 1) (by decide +kernel) rfl rfl rfl rfl (by decide) (by decide) (dk_X6_of 2 _ rfl) ?_ ?_
      · refine jCt_of ok_X6_isPerson (fun _ _ => Nat.le_of_ble_eq_true rfl) (fun _ _ hq => by rw [hq.2]; first | exact Nat.le_refl _ | simp) ?_
        show J _ _ _ _ _ _ _ _ [(0, .ref 0), (1, .int p)] _ _ _
        refine J_iload_n (i := 1) (a := 1) rfl rfl (dk_X6_isPerson 0 _ rfl) ?_
        refine J_ifT (tgt := 19) (by decide) (dk_X6_isPerson 1 _ rfl) (jI_lt (rfl : (p : Int32).toInt = (p : Int32).toInt) (by decide : (0 : Int32).toInt = 0) (by omega)) ?_
        refine J_iconst (v := 0) (by decide) (dk_X6_isPerson 19 _ rfl) ?_
        exact J_iret rfl rfl (dk_X6_isPerson 20 _ rfl) ⟨rfl, rfl⟩
      show J _ _ _ _ _ _ _ _ _ [.int 0] _ _
      refine J_ifF (tgt := 11) (by decide) (dk_X6_of 5 _ rfl) (fun z => z (jI_eq (by decide : (0 : Int32).toInt = 0) (by decide : (0 : Int32).toInt = 0) (by omega))) ?_
      refine J_ldc (v := (-10000001)) ct_6_82 (dk_X6_of 8 _ rfl) ?_
      exact J_iret rfl rfl (dk_X6_of 10 _ rfl) ⟨rfl, rfl⟩
    · refine jCt_of ok_X7_of (fun _ _ => Nat.le_of_ble_eq_true rfl) (fun _ _ hq => Nat.le_of_eq (lM.trans hq.2.symm)) ?_
      show J _ _ _ _ _ _ _ _ [(0, .ref 0), (1, .int p), (2, .int w)] _ _ _
      refine J_aload_n (i := 0) (a := 0) rfl rfl (dk_X7_of 0 _ rfl) ?_
      refine J_iload_n (i := 1) (a := 1) rfl rfl (dk_X7_of 1 _ rfl) ?_
      refine J_cV (rv := some (.int 0)) (h' := hM0) (d' := 11) (As := [.int p]) ok_X7_isPerson vi_X7_isPerson cl_7_206 (n := 1) (by decide +kernel) rfl rfl rfl rfl (by decide) (by decide) (dk_X7_of 2 _ rfl) ?_ ?_
      · refine jCt_of ok_X7_isPerson (fun _ _ => Nat.le_of_ble_eq_true rfl) (fun _ _ hq => by rw [hq.2]; first | exact Nat.le_refl _ | simp) ?_
        show J _ _ _ _ _ _ _ _ [(0, .ref 0), (1, .int p)] _ _ _
        refine J_aload_n (i := 0) (a := 0) rfl rfl (dk_X7_isPerson 0 _ rfl) ?_
        refine J_iload_n (i := 1) (a := 1) rfl rfl (dk_X7_isPerson 1 _ rfl) ?_
        refine J_iconst (v := 0) (by decide) (dk_X7_isPerson 2 _ rfl) ?_
        refine J_aload_n (i := 0) (a := 0) rfl rfl (dk_X7_isPerson 3 _ rfl) ?_
        refine J_getf fl_7_7 rfl rfl (dk_X7_isPerson 4 _ rfl) ?_
        refine J_iconst (v := 1) (by decide) (dk_X7_isPerson 7 _ rfl) ?_
        refine J_isubC (v := (-1)) (by decide) (dk_X7_isPerson 8 _ rfl) ?_
        refine J_cV (rv := some (.int 0)) (h' := hM0) (d' := 10) (As := [.int p, .int 0, .int (-1)]) ok_X7_in vi_X7_in cl_7_194 (n := 3) (by decide +kernel) rfl rfl rfl rfl (by decide) (by decide) (dk_X7_isPerson 9 _ rfl) ?_ ?_
        · refine jCt_of ok_X7_in (fun _ _ => Nat.le_of_ble_eq_true rfl) (fun _ _ hq => by rw [hq.2]; first | exact Nat.le_refl _ | simp) ?_
          show J _ _ _ _ _ _ _ _ [(0, .ref 0), (1, .int p), (2, .int 0), (3, .int (-1))] _ _ _
          refine J_iload_n (i := 1) (a := 1) rfl rfl (dk_X7_in 0 _ rfl) ?_
          refine J_iload_n (i := 2) (a := 2) rfl rfl (dk_X7_in 1 _ rfl) ?_
          refine J_icT (tgt := 14) (by decide) (dk_X7_in 2 _ rfl) (jI_lt (rfl : (p : Int32).toInt = (p : Int32).toInt) (by decide : (0 : Int32).toInt = 0) (by omega)) ?_
          refine J_iconst (v := 0) (by decide) (dk_X7_in 14 _ rfl) ?_
          exact J_iret rfl rfl (dk_X7_in 15 _ rfl) ⟨rfl, rfl⟩
        show J _ _ _ _ _ _ _ _ _ [.int 0] _ _
        exact J_iret rfl rfl (dk_X7_isPerson 12 _ rfl) ⟨rfl, rfl⟩
      show J _ _ _ _ _ _ _ _ _ [.int 0] _ _
      refine J_ifF (tgt := 12) (by decide) (dk_X7_of 5 _ rfl) (fun z => z (jI_eq (by decide : (0 : Int32).toInt = 0) (by decide : (0 : Int32).toInt = 0) (by omega))) ?_
      refine J_ldcw (v := (-10000001)) ct_7_291 (dk_X7_of 8 _ rfl) ?_
      exact J_iret rfl rfl (dk_X7_of 11 _ rfl) ⟨rfl, rfl⟩
  · refine ⟨(-10000001), ?_, ?_⟩
    · refine jCt_of ok_X6_of (fun _ _ => Nat.le_of_ble_eq_true rfl) (fun _ _ hq => Nat.le_of_eq (lX.trans hq.2.symm)) ?_
      show J _ _ _ _ _ _ _ _ [(0, .ref 0), (1, .int p), (2, .int w)] _ _ _
      refine J_aload_n (i := 0) (a := 0) rfl rfl (dk_X6_of 0 _ rfl) ?_
      refine J_iload_n (i := 1) (a := 1) rfl rfl (dk_X6_of 1 _ rfl) ?_
      refine J_cV (rv := some (.int 0)) (h' := hN0) (d' := 11) (As := [.int p]) ok_X6_isPerson vi_X6_isPerson cl_6_79 (n := 1) (by decide +kernel) rfl rfl rfl rfl (by decide) (by decide) (dk_X6_of 2 _ rfl) ?_ ?_
      · refine jCt_of ok_X6_isPerson (fun _ _ => Nat.le_of_ble_eq_true rfl) (fun _ _ hq => by rw [hq.2]; first | exact Nat.le_refl _ | simp) ?_
        show J _ _ _ _ _ _ _ _ [(0, .ref 0), (1, .int p)] _ _ _
        refine J_iload_n (i := 1) (a := 1) rfl rfl (dk_X6_isPerson 0 _ rfl) ?_
        refine J_ifF (tgt := 19) (by decide) (dk_X6_isPerson 1 _ rfl) (jI_nlt (rfl : (p : Int32).toInt = (p : Int32).toInt) (by decide : (0 : Int32).toInt = 0) (by omega)) ?_
        refine J_iload_n (i := 1) (a := 1) rfl rfl (dk_X6_isPerson 4 _ rfl) ?_
        refine J_aload_n (i := 0) (a := 0) rfl rfl (dk_X6_isPerson 5 _ rfl) ?_
        refine J_getf fl_6_47 rfl rfl (dk_X6_isPerson 6 _ rfl) ?_
        refine J_getf fl_6_71 rfl rfl (dk_X6_isPerson 9 _ rfl) ?_
        refine J_icT (tgt := 19) (by decide) (dk_X6_isPerson 12 _ rfl) (jI_le (by decide : (0 : Int32).toInt = 0) (rfl : (p : Int32).toInt = (p : Int32).toInt) (by omega)) ?_
        refine J_iconst (v := 0) (by decide) (dk_X6_isPerson 19 _ rfl) ?_
        exact J_iret rfl rfl (dk_X6_isPerson 20 _ rfl) ⟨rfl, rfl⟩
      show J _ _ _ _ _ _ _ _ _ [.int 0] _ _
      refine J_ifF (tgt := 11) (by decide) (dk_X6_of 5 _ rfl) (fun z => z (jI_eq (by decide : (0 : Int32).toInt = 0) (by decide : (0 : Int32).toInt = 0) (by omega))) ?_
      refine J_ldc (v := (-10000001)) ct_6_82 (dk_X6_of 8 _ rfl) ?_
      exact J_iret rfl rfl (dk_X6_of 10 _ rfl) ⟨rfl, rfl⟩
    · refine jCt_of ok_X7_of (fun _ _ => Nat.le_of_ble_eq_true rfl) (fun _ _ hq => Nat.le_of_eq (lM.trans hq.2.symm)) ?_
      show J _ _ _ _ _ _ _ _ [(0, .ref 0), (1, .int p), (2, .int w)] _ _ _
      refine J_aload_n (i := 0) (a := 0) rfl rfl (dk_X7_of 0 _ rfl) ?_
      refine J_iload_n (i := 1) (a := 1) rfl rfl (dk_X7_of 1 _ rfl) ?_
      refine J_cV (rv := some (.int 0)) (h' := hM0) (d' := 11) (As := [.int p]) ok_X7_isPerson vi_X7_isPerson cl_7_206 (n := 1) (by decide +kernel) rfl rfl rfl rfl (by decide) (by decide) (dk_X7_of 2 _ rfl) ?_ ?_
      · refine jCt_of ok_X7_isPerson (fun _ _ => Nat.le_of_ble_eq_true rfl) (fun _ _ hq => by rw [hq.2]; first | exact Nat.le_refl _ | simp) ?_
        show J _ _ _ _ _ _ _ _ [(0, .ref 0), (1, .int p)] _ _ _
        refine J_aload_n (i := 0) (a := 0) rfl rfl (dk_X7_isPerson 0 _ rfl) ?_
        refine J_iload_n (i := 1) (a := 1) rfl rfl (dk_X7_isPerson 1 _ rfl) ?_
        refine J_iconst (v := 0) (by decide) (dk_X7_isPerson 2 _ rfl) ?_
        refine J_aload_n (i := 0) (a := 0) rfl rfl (dk_X7_isPerson 3 _ rfl) ?_
        refine J_getf fl_7_7 rfl rfl (dk_X7_isPerson 4 _ rfl) ?_
        refine J_iconst (v := 1) (by decide) (dk_X7_isPerson 7 _ rfl) ?_
        refine J_isubC (v := (-1)) (by decide) (dk_X7_isPerson 8 _ rfl) ?_
        refine J_cV (rv := some (.int 0)) (h' := hM0) (d' := 10) (As := [.int p, .int 0, .int (-1)]) ok_X7_in vi_X7_in cl_7_194 (n := 3) (by decide +kernel) rfl rfl rfl rfl (by decide) (by decide) (dk_X7_isPerson 9 _ rfl) ?_ ?_
        · refine jCt_of ok_X7_in (fun _ _ => Nat.le_of_ble_eq_true rfl) (fun _ _ hq => by rw [hq.2]; first | exact Nat.le_refl _ | simp) ?_
          show J _ _ _ _ _ _ _ _ [(0, .ref 0), (1, .int p), (2, .int 0), (3, .int (-1))] _ _ _
          refine J_iload_n (i := 1) (a := 1) rfl rfl (dk_X7_in 0 _ rfl) ?_
          refine J_iload_n (i := 2) (a := 2) rfl rfl (dk_X7_in 1 _ rfl) ?_
          refine J_icF (tgt := 14) (by decide) (dk_X7_in 2 _ rfl) (jI_nlt (rfl : (p : Int32).toInt = (p : Int32).toInt) (by decide : (0 : Int32).toInt = 0) (by omega)) ?_
          refine J_iload_n (i := 1) (a := 1) rfl rfl (dk_X7_in 5 _ rfl) ?_
          refine J_iload_n (i := 3) (a := 3) rfl rfl (dk_X7_in 6 _ rfl) ?_
          refine J_icT (tgt := 14) (by decide) (dk_X7_in 7 _ rfl) (jI_lt (by decide : ((-1) : Int32).toInt = (-1)) (rfl : (p : Int32).toInt = (p : Int32).toInt) (by omega)) ?_
          refine J_iconst (v := 0) (by decide) (dk_X7_in 14 _ rfl) ?_
          exact J_iret rfl rfl (dk_X7_in 15 _ rfl) ⟨rfl, rfl⟩
        show J _ _ _ _ _ _ _ _ _ [.int 0] _ _
        exact J_iret rfl rfl (dk_X7_isPerson 12 _ rfl) ⟨rfl, rfl⟩
      show J _ _ _ _ _ _ _ _ _ [.int 0] _ _
      refine J_ifF (tgt := 12) (by decide) (dk_X7_of 5 _ rfl) (fun z => z (jI_eq (by decide : (0 : Int32).toInt = 0) (by decide : (0 : Int32).toInt = 0) (by omega))) ?_
      refine J_ldcw (v := (-10000001)) ct_7_291 (dk_X7_of 8 _ rfl) ?_
      exact J_iret rfl rfl (dk_X7_of 11 _ rfl) ⟨rfl, rfl⟩
set_option maxHeartbeats 4000000 in
set_option maxRecDepth 1000000 in
theorem o_set (p : Int32) (w : Int32) (n : Int32) : ∃ rv : Int32, jCt m_X6_set 12 0 0 [.ref 0, .int p, .int w, .int n] hN0 (jA (.int rv) 94) ∧ jCt m_X7_set 12 0 0 [.ref 0, .int p, .int w, .int n] hM0 (jA (.int rv) 37) := by
  have r_p := p.toInt_lt; have q_p := p.le_toInt
  have r_w := w.toInt_lt; have q_w := w.le_toInt
  have r_n := n.toInt_lt; have q_n := n.le_toInt
  by_cases c1 : (p : Int32).toInt < 0
  · refine ⟨(-1), ?_, ?_⟩
    · refine jCt_of ok_X6_set (fun _ _ => Nat.le_of_ble_eq_true rfl) (fun _ _ hq => Nat.le_of_eq (lX.trans hq.2.symm)) ?_
      show J _ _ _ _ _ _ _ _ [(0, .ref 0), (1, .int p), (2, .int w), (3, .int n)] _ _ _
      refine J_aload_n (i := 0) (a := 0) rfl rfl (dk_X6_set 0 _ rfl) ?_
      refine J_iload_n (i := 1) (a := 1) rfl rfl (dk_X6_set 1 _ rfl) ?_
      refine J_cV (rv := some (.int 0)) (h' := hN0) (d' := 11) (As := [.int p]) ok_X6_isPerson vi_X6_isPerson cl_6_79 (n := 1) (by decide +kernel) rfl rfl rfl rfl (by decide) (by decide) (dk_X6_set 2 _ rfl) ?_ ?_
      · refine jCt_of ok_X6_isPerson (fun _ _ => Nat.le_of_ble_eq_true rfl) (fun _ _ hq => by rw [hq.2]; first | exact Nat.le_refl _ | simp) ?_
        show J _ _ _ _ _ _ _ _ [(0, .ref 0), (1, .int p)] _ _ _
        refine J_iload_n (i := 1) (a := 1) rfl rfl (dk_X6_isPerson 0 _ rfl) ?_
        refine J_ifT (tgt := 19) (by decide) (dk_X6_isPerson 1 _ rfl) (jI_lt (rfl : (p : Int32).toInt = (p : Int32).toInt) (by decide : (0 : Int32).toInt = 0) (by omega)) ?_
        refine J_iconst (v := 0) (by decide) (dk_X6_isPerson 19 _ rfl) ?_
        exact J_iret rfl rfl (dk_X6_isPerson 20 _ rfl) ⟨rfl, rfl⟩
      show J _ _ _ _ _ _ _ _ _ [.int 0] _ _
      refine J_ifT (tgt := 17) (by decide) (dk_X6_set 5 _ rfl) (jI_eq (by decide : (0 : Int32).toInt = 0) (by decide : (0 : Int32).toInt = 0) (by omega)) ?_
      refine J_iconst (v := (-1)) (by decide) (dk_X6_set 17 _ rfl) ?_
      exact J_iret rfl rfl (dk_X6_set 18 _ rfl) ⟨rfl, rfl⟩
    · refine jCt_of ok_X7_set (fun _ _ => Nat.le_of_ble_eq_true rfl) (fun _ _ hq => Nat.le_of_eq (lM.trans hq.2.symm)) ?_
      show J _ _ _ _ _ _ _ _ [(0, .ref 0), (1, .int p), (2, .int w), (3, .int n)] _ _ _
      refine J_aload_n (i := 0) (a := 0) rfl rfl (dk_X7_set 0 _ rfl) ?_
      refine J_iload_n (i := 1) (a := 1) rfl rfl (dk_X7_set 1 _ rfl) ?_
      refine J_cV (rv := some (.int 0)) (h' := hM0) (d' := 11) (As := [.int p]) ok_X7_isPerson vi_X7_isPerson cl_7_206 (n := 1) (by decide +kernel) rfl rfl rfl rfl (by decide) (by decide) (dk_X7_set 2 _ rfl) ?_ ?_
      · refine jCt_of ok_X7_isPerson (fun _ _ => Nat.le_of_ble_eq_true rfl) (fun _ _ hq => by rw [hq.2]; first | exact Nat.le_refl _ | simp) ?_
        show J _ _ _ _ _ _ _ _ [(0, .ref 0), (1, .int p)] _ _ _
        refine J_aload_n (i := 0) (a := 0) rfl rfl (dk_X7_isPerson 0 _ rfl) ?_
        refine J_iload_n (i := 1) (a := 1) rfl rfl (dk_X7_isPerson 1 _ rfl) ?_
        refine J_iconst (v := 0) (by decide) (dk_X7_isPerson 2 _ rfl) ?_
        refine J_aload_n (i := 0) (a := 0) rfl rfl (dk_X7_isPerson 3 _ rfl) ?_
        refine J_getf fl_7_7 rfl rfl (dk_X7_isPerson 4 _ rfl) ?_
        refine J_iconst (v := 1) (by decide) (dk_X7_isPerson 7 _ rfl) ?_
        refine J_isubC (v := (-1)) (by decide) (dk_X7_isPerson 8 _ rfl) ?_
        refine J_cV (rv := some (.int 0)) (h' := hM0) (d' := 10) (As := [.int p, .int 0, .int (-1)]) ok_X7_in vi_X7_in cl_7_194 (n := 3) (by decide +kernel) rfl rfl rfl rfl (by decide) (by decide) (dk_X7_isPerson 9 _ rfl) ?_ ?_
        · refine jCt_of ok_X7_in (fun _ _ => Nat.le_of_ble_eq_true rfl) (fun _ _ hq => by rw [hq.2]; first | exact Nat.le_refl _ | simp) ?_
          show J _ _ _ _ _ _ _ _ [(0, .ref 0), (1, .int p), (2, .int 0), (3, .int (-1))] _ _ _
          refine J_iload_n (i := 1) (a := 1) rfl rfl (dk_X7_in 0 _ rfl) ?_
          refine J_iload_n (i := 2) (a := 2) rfl rfl (dk_X7_in 1 _ rfl) ?_
          refine J_icT (tgt := 14) (by decide) (dk_X7_in 2 _ rfl) (jI_lt (rfl : (p : Int32).toInt = (p : Int32).toInt) (by decide : (0 : Int32).toInt = 0) (by omega)) ?_
          refine J_iconst (v := 0) (by decide) (dk_X7_in 14 _ rfl) ?_
          exact J_iret rfl rfl (dk_X7_in 15 _ rfl) ⟨rfl, rfl⟩
        show J _ _ _ _ _ _ _ _ _ [.int 0] _ _
        exact J_iret rfl rfl (dk_X7_isPerson 12 _ rfl) ⟨rfl, rfl⟩
      show J _ _ _ _ _ _ _ _ _ [.int 0] _ _
      refine J_ifT (tgt := 18) (by decide) (dk_X7_set 5 _ rfl) (jI_eq (by decide : (0 : Int32).toInt = 0) (by decide : (0 : Int32).toInt = 0) (by omega)) ?_
      refine J_iconst (v := (-1)) (by decide) (dk_X7_set 18 _ rfl) ?_
      exact J_iret rfl rfl (dk_X7_set 19 _ rfl) ⟨rfl, rfl⟩
  · refine ⟨(-1), ?_, ?_⟩
    · refine jCt_of ok_X6_set (fun _ _ => Nat.le_of_ble_eq_true rfl) (fun _ _ hq => Nat.le_of_eq (lX.trans hq.2.symm)) ?_
      show J _ _ _ _ _ _ _ _ [(0, .ref 0), (1, .int p), (2, .int w), (3, .int n)] _ _ _
      refine J_aload_n (i := 0) (a := 0) rfl rfl (dk_X6_set 0 _ rfl) ?_
      refine J_iload_n (i := 1) (a := 1) rfl rfl (dk_X6_set 1 _ rfl) ?_
      refine J_cV (rv := some (.int 0)) (h' := hN0) (d' := 11) (As := [.int p]) ok_X6_isPerson vi_X6_isPerson cl_6_79 (n := 1) (by decide +kernel) rfl rfl rfl rfl (by decide) (by decide) (dk_X6_set 2 _ rfl) ?_ ?_
      · refine jCt_of ok_X6_isPerson (fun _ _ => Nat.le_of_ble_eq_true rfl) (fun _ _ hq => by rw [hq.2]; first | exact Nat.le_refl _ | simp) ?_
        show J _ _ _ _ _ _ _ _ [(0, .ref 0), (1, .int p)] _ _ _
        refine J_iload_n (i := 1) (a := 1) rfl rfl (dk_X6_isPerson 0 _ rfl) ?_
        refine J_ifF (tgt := 19) (by decide) (dk_X6_isPerson 1 _ rfl) (jI_nlt (rfl : (p : Int32).toInt = (p : Int32).toInt) (by decide : (0 : Int32).toInt = 0) (by omega)) ?_
        refine J_iload_n (i := 1) (a := 1) rfl rfl (dk_X6_isPerson 4 _ rfl) ?_
        refine J_aload_n (i := 0) (a := 0) rfl rfl (dk_X6_isPerson 5 _ rfl) ?_
        refine J_getf fl_6_47 rfl rfl (dk_X6_isPerson 6 _ rfl) ?_
        refine J_getf fl_6_71 rfl rfl (dk_X6_isPerson 9 _ rfl) ?_
        refine J_icT (tgt := 19) (by decide) (dk_X6_isPerson 12 _ rfl) (jI_le (by decide : (0 : Int32).toInt = 0) (rfl : (p : Int32).toInt = (p : Int32).toInt) (by omega)) ?_
        refine J_iconst (v := 0) (by decide) (dk_X6_isPerson 19 _ rfl) ?_
        exact J_iret rfl rfl (dk_X6_isPerson 20 _ rfl) ⟨rfl, rfl⟩
      show J _ _ _ _ _ _ _ _ _ [.int 0] _ _
      refine J_ifT (tgt := 17) (by decide) (dk_X6_set 5 _ rfl) (jI_eq (by decide : (0 : Int32).toInt = 0) (by decide : (0 : Int32).toInt = 0) (by omega)) ?_
      refine J_iconst (v := (-1)) (by decide) (dk_X6_set 17 _ rfl) ?_
      exact J_iret rfl rfl (dk_X6_set 18 _ rfl) ⟨rfl, rfl⟩
    · refine jCt_of ok_X7_set (fun _ _ => Nat.le_of_ble_eq_true rfl) (fun _ _ hq => Nat.le_of_eq (lM.trans hq.2.symm)) ?_
      show J _ _ _ _ _ _ _ _ [(0, .ref 0), (1, .int p), (2, .int w), (3, .int n)] _ _ _
      refine J_aload_n (i := 0) (a := 0) rfl rfl (dk_X7_set 0 _ rfl) ?_
      refine J_iload_n (i := 1) (a := 1) rfl rfl (dk_X7_set 1 _ rfl) ?_
      refine J_cV (rv := some (.int 0)) (h' := hM0) (d' := 11) (As := [.int p]) ok_X7_isPerson vi_X7_isPerson cl_7_206 (n := 1) (by decide +kernel) rfl rfl rfl rfl (by decide) (by decide) (dk_X7_set 2 _ rfl) ?_ ?_
      · refine jCt_of ok_X7_isPerson (fun _ _ => Nat.le_of_ble_eq_true rfl) (fun _ _ hq => by rw [hq.2]; first | exact Nat.le_refl _ | simp) ?_
        show J _ _ _ _ _ _ _ _ [(0, .ref 0), (1, .int p)] _ _ _
        refine J_aload_n (i := 0) (a := 0) rfl rfl (dk_X7_isPerson 0 _ rfl) ?_
        refine J_iload_n (i := 1) (a := 1) rfl rfl (dk_X7_isPerson 1 _ rfl) ?_
        refine J_iconst (v := 0) (by decide) (dk_X7_isPerson 2 _ rfl) ?_
        refine J_aload_n (i := 0) (a := 0) rfl rfl (dk_X7_isPerson 3 _ rfl) ?_
        refine J_getf fl_7_7 rfl rfl (dk_X7_isPerson 4 _ rfl) ?_
        refine J_iconst (v := 1) (by decide) (dk_X7_isPerson 7 _ rfl) ?_
        refine J_isubC (v := (-1)) (by decide) (dk_X7_isPerson 8 _ rfl) ?_
        refine J_cV (rv := some (.int 0)) (h' := hM0) (d' := 10) (As := [.int p, .int 0, .int (-1)]) ok_X7_in vi_X7_in cl_7_194 (n := 3) (by decide +kernel) rfl rfl rfl rfl (by decide) (by decide) (dk_X7_isPerson 9 _ rfl) ?_ ?_
        · refine jCt_of ok_X7_in (fun _ _ => Nat.le_of_ble_eq_true rfl) (fun _ _ hq => by rw [hq.2]; first | exact Nat.le_refl _ | simp) ?_
          show J _ _ _ _ _ _ _ _ [(0, .ref 0), (1, .int p), (2, .int 0), (3, .int (-1))] _ _ _
          refine J_iload_n (i := 1) (a := 1) rfl rfl (dk_X7_in 0 _ rfl) ?_
          refine J_iload_n (i := 2) (a := 2) rfl rfl (dk_X7_in 1 _ rfl) ?_
          refine J_icF (tgt := 14) (by decide) (dk_X7_in 2 _ rfl) (jI_nlt (rfl : (p : Int32).toInt = (p : Int32).toInt) (by decide : (0 : Int32).toInt = 0) (by omega)) ?_
          refine J_iload_n (i := 1) (a := 1) rfl rfl (dk_X7_in 5 _ rfl) ?_
          refine J_iload_n (i := 3) (a := 3) rfl rfl (dk_X7_in 6 _ rfl) ?_
          refine J_icT (tgt := 14) (by decide) (dk_X7_in 7 _ rfl) (jI_lt (by decide : ((-1) : Int32).toInt = (-1)) (rfl : (p : Int32).toInt = (p : Int32).toInt) (by omega)) ?_
          refine J_iconst (v := 0) (by decide) (dk_X7_in 14 _ rfl) ?_
          exact J_iret rfl rfl (dk_X7_in 15 _ rfl) ⟨rfl, rfl⟩
        show J _ _ _ _ _ _ _ _ _ [.int 0] _ _
        exact J_iret rfl rfl (dk_X7_isPerson 12 _ rfl) ⟨rfl, rfl⟩
      show J _ _ _ _ _ _ _ _ _ [.int 0] _ _
      refine J_ifT (tgt := 18) (by decide) (dk_X7_set 5 _ rfl) (jI_eq (by decide : (0 : Int32).toInt = 0) (by decide : (0 : Int32).toInt = 0) (by omega)) ?_
      refine J_iconst (v := (-1)) (by decide) (dk_X7_set 18 _ rfl) ?_
      exact J_iret rfl rfl (dk_X7_set 19 _ rfl) ⟨rfl, rfl⟩
set_option maxHeartbeats 4000000 in
set_option maxRecDepth 1000000 in
theorem o_there (p : Int32) (w : Int32) : ∃ rv : Int32, jCt m_X6_there 12 0 0 [.ref 0, .int p, .int w] hN0 (jA (.int rv) 94) ∧ jCt m_X7_there 12 0 0 [.ref 0, .int p, .int w] hM0 (jA (.int rv) 37) := by
  have r_p := p.toInt_lt; have q_p := p.le_toInt
  have r_w := w.toInt_lt; have q_w := w.le_toInt
  by_cases c1 : (p : Int32).toInt < 0
  · refine ⟨(-1), ?_, ?_⟩
    · refine jCt_of ok_X6_there (fun _ _ => Nat.le_of_ble_eq_true rfl) (fun _ _ hq => Nat.le_of_eq (lX.trans hq.2.symm)) ?_
      show J _ _ _ _ _ _ _ _ [(0, .ref 0), (1, .int p), (2, .int w)] _ _ _
      refine J_aload_n (i := 0) (a := 0) rfl rfl (dk_X6_there 0 _ rfl) ?_
      refine J_iload_n (i := 1) (a := 1) rfl rfl (dk_X6_there 1 _ rfl) ?_
      refine J_cV (rv := some (.int 0)) (h' := hN0) (d' := 11) (As := [.int p]) ok_X6_isPerson vi_X6_isPerson cl_6_79 (n := 1) (by decide +kernel) rfl rfl rfl rfl (by decide) (by decide) (dk_X6_there 2 _ rfl) ?_ ?_
      · refine jCt_of ok_X6_isPerson (fun _ _ => Nat.le_of_ble_eq_true rfl) (fun _ _ hq => by rw [hq.2]; first | exact Nat.le_refl _ | simp) ?_
        show J _ _ _ _ _ _ _ _ [(0, .ref 0), (1, .int p)] _ _ _
        refine J_iload_n (i := 1) (a := 1) rfl rfl (dk_X6_isPerson 0 _ rfl) ?_
        refine J_ifT (tgt := 19) (by decide) (dk_X6_isPerson 1 _ rfl) (jI_lt (rfl : (p : Int32).toInt = (p : Int32).toInt) (by decide : (0 : Int32).toInt = 0) (by omega)) ?_
        refine J_iconst (v := 0) (by decide) (dk_X6_isPerson 19 _ rfl) ?_
        exact J_iret rfl rfl (dk_X6_isPerson 20 _ rfl) ⟨rfl, rfl⟩
      show J _ _ _ _ _ _ _ _ _ [.int 0] _ _
      refine J_ifF (tgt := 10) (by decide) (dk_X6_there 5 _ rfl) (fun z => z (jI_eq (by decide : (0 : Int32).toInt = 0) (by decide : (0 : Int32).toInt = 0) (by omega))) ?_
      refine J_iconst (v := (-1)) (by decide) (dk_X6_there 8 _ rfl) ?_
      exact J_iret rfl rfl (dk_X6_there 9 _ rfl) ⟨rfl, rfl⟩
    · refine jCt_of ok_X7_there (fun _ _ => Nat.le_of_ble_eq_true rfl) (fun _ _ hq => Nat.le_of_eq (lM.trans hq.2.symm)) ?_
      show J _ _ _ _ _ _ _ _ [(0, .ref 0), (1, .int p), (2, .int w)] _ _ _
      refine J_aload_n (i := 0) (a := 0) rfl rfl (dk_X7_there 0 _ rfl) ?_
      refine J_iload_n (i := 1) (a := 1) rfl rfl (dk_X7_there 1 _ rfl) ?_
      refine J_cV (rv := some (.int 0)) (h' := hM0) (d' := 11) (As := [.int p]) ok_X7_isPerson vi_X7_isPerson cl_7_206 (n := 1) (by decide +kernel) rfl rfl rfl rfl (by decide) (by decide) (dk_X7_there 2 _ rfl) ?_ ?_
      · refine jCt_of ok_X7_isPerson (fun _ _ => Nat.le_of_ble_eq_true rfl) (fun _ _ hq => by rw [hq.2]; first | exact Nat.le_refl _ | simp) ?_
        show J _ _ _ _ _ _ _ _ [(0, .ref 0), (1, .int p)] _ _ _
        refine J_aload_n (i := 0) (a := 0) rfl rfl (dk_X7_isPerson 0 _ rfl) ?_
        refine J_iload_n (i := 1) (a := 1) rfl rfl (dk_X7_isPerson 1 _ rfl) ?_
        refine J_iconst (v := 0) (by decide) (dk_X7_isPerson 2 _ rfl) ?_
        refine J_aload_n (i := 0) (a := 0) rfl rfl (dk_X7_isPerson 3 _ rfl) ?_
        refine J_getf fl_7_7 rfl rfl (dk_X7_isPerson 4 _ rfl) ?_
        refine J_iconst (v := 1) (by decide) (dk_X7_isPerson 7 _ rfl) ?_
        refine J_isubC (v := (-1)) (by decide) (dk_X7_isPerson 8 _ rfl) ?_
        refine J_cV (rv := some (.int 0)) (h' := hM0) (d' := 10) (As := [.int p, .int 0, .int (-1)]) ok_X7_in vi_X7_in cl_7_194 (n := 3) (by decide +kernel) rfl rfl rfl rfl (by decide) (by decide) (dk_X7_isPerson 9 _ rfl) ?_ ?_
        · refine jCt_of ok_X7_in (fun _ _ => Nat.le_of_ble_eq_true rfl) (fun _ _ hq => by rw [hq.2]; first | exact Nat.le_refl _ | simp) ?_
          show J _ _ _ _ _ _ _ _ [(0, .ref 0), (1, .int p), (2, .int 0), (3, .int (-1))] _ _ _
          refine J_iload_n (i := 1) (a := 1) rfl rfl (dk_X7_in 0 _ rfl) ?_
          refine J_iload_n (i := 2) (a := 2) rfl rfl (dk_X7_in 1 _ rfl) ?_
          refine J_icT (tgt := 14) (by decide) (dk_X7_in 2 _ rfl) (jI_lt (rfl : (p : Int32).toInt = (p : Int32).toInt) (by decide : (0 : Int32).toInt = 0) (by omega)) ?_
          refine J_iconst (v := 0) (by decide) (dk_X7_in 14 _ rfl) ?_
          exact J_iret rfl rfl (dk_X7_in 15 _ rfl) ⟨rfl, rfl⟩
        show J _ _ _ _ _ _ _ _ _ [.int 0] _ _
        exact J_iret rfl rfl (dk_X7_isPerson 12 _ rfl) ⟨rfl, rfl⟩
      show J _ _ _ _ _ _ _ _ _ [.int 0] _ _
      refine J_ifF (tgt := 10) (by decide) (dk_X7_there 5 _ rfl) (fun z => z (jI_eq (by decide : (0 : Int32).toInt = 0) (by decide : (0 : Int32).toInt = 0) (by omega))) ?_
      refine J_iconst (v := (-1)) (by decide) (dk_X7_there 8 _ rfl) ?_
      exact J_iret rfl rfl (dk_X7_there 9 _ rfl) ⟨rfl, rfl⟩
  · refine ⟨(-1), ?_, ?_⟩
    · refine jCt_of ok_X6_there (fun _ _ => Nat.le_of_ble_eq_true rfl) (fun _ _ hq => Nat.le_of_eq (lX.trans hq.2.symm)) ?_
      show J _ _ _ _ _ _ _ _ [(0, .ref 0), (1, .int p), (2, .int w)] _ _ _
      refine J_aload_n (i := 0) (a := 0) rfl rfl (dk_X6_there 0 _ rfl) ?_
      refine J_iload_n (i := 1) (a := 1) rfl rfl (dk_X6_there 1 _ rfl) ?_
      refine J_cV (rv := some (.int 0)) (h' := hN0) (d' := 11) (As := [.int p]) ok_X6_isPerson vi_X6_isPerson cl_6_79 (n := 1) (by decide +kernel) rfl rfl rfl rfl (by decide) (by decide) (dk_X6_there 2 _ rfl) ?_ ?_
      · refine jCt_of ok_X6_isPerson (fun _ _ => Nat.le_of_ble_eq_true rfl) (fun _ _ hq => by rw [hq.2]; first | exact Nat.le_refl _ | simp) ?_
        show J _ _ _ _ _ _ _ _ [(0, .ref 0), (1, .int p)] _ _ _
        refine J_iload_n (i := 1) (a := 1) rfl rfl (dk_X6_isPerson 0 _ rfl) ?_
        refine J_ifF (tgt := 19) (by decide) (dk_X6_isPerson 1 _ rfl) (jI_nlt (rfl : (p : Int32).toInt = (p : Int32).toInt) (by decide : (0 : Int32).toInt = 0) (by omega)) ?_
        refine J_iload_n (i := 1) (a := 1) rfl rfl (dk_X6_isPerson 4 _ rfl) ?_
        refine J_aload_n (i := 0) (a := 0) rfl rfl (dk_X6_isPerson 5 _ rfl) ?_
        refine J_getf fl_6_47 rfl rfl (dk_X6_isPerson 6 _ rfl) ?_
        refine J_getf fl_6_71 rfl rfl (dk_X6_isPerson 9 _ rfl) ?_
        refine J_icT (tgt := 19) (by decide) (dk_X6_isPerson 12 _ rfl) (jI_le (by decide : (0 : Int32).toInt = 0) (rfl : (p : Int32).toInt = (p : Int32).toInt) (by omega)) ?_
        refine J_iconst (v := 0) (by decide) (dk_X6_isPerson 19 _ rfl) ?_
        exact J_iret rfl rfl (dk_X6_isPerson 20 _ rfl) ⟨rfl, rfl⟩
      show J _ _ _ _ _ _ _ _ _ [.int 0] _ _
      refine J_ifF (tgt := 10) (by decide) (dk_X6_there 5 _ rfl) (fun z => z (jI_eq (by decide : (0 : Int32).toInt = 0) (by decide : (0 : Int32).toInt = 0) (by omega))) ?_
      refine J_iconst (v := (-1)) (by decide) (dk_X6_there 8 _ rfl) ?_
      exact J_iret rfl rfl (dk_X6_there 9 _ rfl) ⟨rfl, rfl⟩
    · refine jCt_of ok_X7_there (fun _ _ => Nat.le_of_ble_eq_true rfl) (fun _ _ hq => Nat.le_of_eq (lM.trans hq.2.symm)) ?_
      show J _ _ _ _ _ _ _ _ [(0, .ref 0), (1, .int p), (2, .int w)] _ _ _
      refine J_aload_n (i := 0) (a := 0) rfl rfl (dk_X7_there 0 _ rfl) ?_
      refine J_iload_n (i := 1) (a := 1) rfl rfl (dk_X7_there 1 _ rfl) ?_
      refine J_cV (rv := some (.int 0)) (h' := hM0) (d' := 11) (As := [.int p]) ok_X7_isPerson vi_X7_isPerson cl_7_206 (n := 1) (by decide +kernel) rfl rfl rfl rfl (by decide) (by decide) (dk_X7_there 2 _ rfl) ?_ ?_
      · refine jCt_of ok_X7_isPerson (fun _ _ => Nat.le_of_ble_eq_true rfl) (fun _ _ hq => by rw [hq.2]; first | exact Nat.le_refl _ | simp) ?_
        show J _ _ _ _ _ _ _ _ [(0, .ref 0), (1, .int p)] _ _ _
        refine J_aload_n (i := 0) (a := 0) rfl rfl (dk_X7_isPerson 0 _ rfl) ?_
        refine J_iload_n (i := 1) (a := 1) rfl rfl (dk_X7_isPerson 1 _ rfl) ?_
        refine J_iconst (v := 0) (by decide) (dk_X7_isPerson 2 _ rfl) ?_
        refine J_aload_n (i := 0) (a := 0) rfl rfl (dk_X7_isPerson 3 _ rfl) ?_
        refine J_getf fl_7_7 rfl rfl (dk_X7_isPerson 4 _ rfl) ?_
        refine J_iconst (v := 1) (by decide) (dk_X7_isPerson 7 _ rfl) ?_
        refine J_isubC (v := (-1)) (by decide) (dk_X7_isPerson 8 _ rfl) ?_
        refine J_cV (rv := some (.int 0)) (h' := hM0) (d' := 10) (As := [.int p, .int 0, .int (-1)]) ok_X7_in vi_X7_in cl_7_194 (n := 3) (by decide +kernel) rfl rfl rfl rfl (by decide) (by decide) (dk_X7_isPerson 9 _ rfl) ?_ ?_
        · refine jCt_of ok_X7_in (fun _ _ => Nat.le_of_ble_eq_true rfl) (fun _ _ hq => by rw [hq.2]; first | exact Nat.le_refl _ | simp) ?_
          show J _ _ _ _ _ _ _ _ [(0, .ref 0), (1, .int p), (2, .int 0), (3, .int (-1))] _ _ _
          refine J_iload_n (i := 1) (a := 1) rfl rfl (dk_X7_in 0 _ rfl) ?_
          refine J_iload_n (i := 2) (a := 2) rfl rfl (dk_X7_in 1 _ rfl) ?_
          refine J_icF (tgt := 14) (by decide) (dk_X7_in 2 _ rfl) (jI_nlt (rfl : (p : Int32).toInt = (p : Int32).toInt) (by decide : (0 : Int32).toInt = 0) (by omega)) ?_
          refine J_iload_n (i := 1) (a := 1) rfl rfl (dk_X7_in 5 _ rfl) ?_
          refine J_iload_n (i := 3) (a := 3) rfl rfl (dk_X7_in 6 _ rfl) ?_
          refine J_icT (tgt := 14) (by decide) (dk_X7_in 7 _ rfl) (jI_lt (by decide : ((-1) : Int32).toInt = (-1)) (rfl : (p : Int32).toInt = (p : Int32).toInt) (by omega)) ?_
          refine J_iconst (v := 0) (by decide) (dk_X7_in 14 _ rfl) ?_
          exact J_iret rfl rfl (dk_X7_in 15 _ rfl) ⟨rfl, rfl⟩
        show J _ _ _ _ _ _ _ _ _ [.int 0] _ _
        exact J_iret rfl rfl (dk_X7_isPerson 12 _ rfl) ⟨rfl, rfl⟩
      show J _ _ _ _ _ _ _ _ _ [.int 0] _ _
      refine J_ifF (tgt := 10) (by decide) (dk_X7_there 5 _ rfl) (fun z => z (jI_eq (by decide : (0 : Int32).toInt = 0) (by decide : (0 : Int32).toInt = 0) (by omega))) ?_
      refine J_iconst (v := (-1)) (by decide) (dk_X7_there 8 _ rfl) ?_
      exact J_iret rfl rfl (dk_X7_there 9 _ rfl) ⟨rfl, rfl⟩
set_option maxHeartbeats 4000000 in
set_option maxRecDepth 1000000 in
theorem o_row (p : Int32) (w : Int32) (n : Int32) : ∃ rv : Int32, jCt m_X6_row 12 0 0 [.ref 0, .int p, .int w, .int n] hN0 (jA (.int rv) 94) ∧ jCt m_X7_row 12 0 0 [.ref 0, .int p, .int w, .int n] hM0 (jA (.int rv) 37) := by
  have r_p := p.toInt_lt; have q_p := p.le_toInt
  have r_w := w.toInt_lt; have q_w := w.le_toInt
  have r_n := n.toInt_lt; have q_n := n.le_toInt
  by_cases c1 : (p : Int32).toInt < 0
  · refine ⟨(-1), ?_, ?_⟩
    · refine jCt_of ok_X6_row (fun _ _ => Nat.le_of_ble_eq_true rfl) (fun _ _ hq => Nat.le_of_eq (lX.trans hq.2.symm)) ?_
      show J _ _ _ _ _ _ _ _ [(0, .ref 0), (1, .int p), (2, .int w), (3, .int n)] _ _ _
      refine J_aload_n (i := 0) (a := 0) rfl rfl (dk_X6_row 0 _ rfl) ?_
      refine J_iload_n (i := 1) (a := 1) rfl rfl (dk_X6_row 1 _ rfl) ?_
      refine J_cV (rv := some (.int 0)) (h' := hN0) (d' := 11) (As := [.int p]) ok_X6_isPerson vi_X6_isPerson cl_6_79 (n := 1) (by decide +kernel) rfl rfl rfl rfl (by decide) (by decide) (dk_X6_row 2 _ rfl) ?_ ?_
      · refine jCt_of ok_X6_isPerson (fun _ _ => Nat.le_of_ble_eq_true rfl) (fun _ _ hq => by rw [hq.2]; first | exact Nat.le_refl _ | simp) ?_
        show J _ _ _ _ _ _ _ _ [(0, .ref 0), (1, .int p)] _ _ _
        refine J_iload_n (i := 1) (a := 1) rfl rfl (dk_X6_isPerson 0 _ rfl) ?_
        refine J_ifT (tgt := 19) (by decide) (dk_X6_isPerson 1 _ rfl) (jI_lt (rfl : (p : Int32).toInt = (p : Int32).toInt) (by decide : (0 : Int32).toInt = 0) (by omega)) ?_
        refine J_iconst (v := 0) (by decide) (dk_X6_isPerson 19 _ rfl) ?_
        exact J_iret rfl rfl (dk_X6_isPerson 20 _ rfl) ⟨rfl, rfl⟩
      show J _ _ _ _ _ _ _ _ _ [.int 0] _ _
      refine J_ifT (tgt := 17) (by decide) (dk_X6_row 5 _ rfl) (jI_eq (by decide : (0 : Int32).toInt = 0) (by decide : (0 : Int32).toInt = 0) (by omega)) ?_
      refine J_iconst (v := (-1)) (by decide) (dk_X6_row 17 _ rfl) ?_
      exact J_iret rfl rfl (dk_X6_row 18 _ rfl) ⟨rfl, rfl⟩
    · refine jCt_of ok_X7_row (fun _ _ => Nat.le_of_ble_eq_true rfl) (fun _ _ hq => Nat.le_of_eq (lM.trans hq.2.symm)) ?_
      show J _ _ _ _ _ _ _ _ [(0, .ref 0), (1, .int p), (2, .int w), (3, .int n)] _ _ _
      refine J_aload_n (i := 0) (a := 0) rfl rfl (dk_X7_row 0 _ rfl) ?_
      refine J_iload_n (i := 1) (a := 1) rfl rfl (dk_X7_row 1 _ rfl) ?_
      refine J_cV (rv := some (.int 0)) (h' := hM0) (d' := 11) (As := [.int p]) ok_X7_isPerson vi_X7_isPerson cl_7_206 (n := 1) (by decide +kernel) rfl rfl rfl rfl (by decide) (by decide) (dk_X7_row 2 _ rfl) ?_ ?_
      · refine jCt_of ok_X7_isPerson (fun _ _ => Nat.le_of_ble_eq_true rfl) (fun _ _ hq => by rw [hq.2]; first | exact Nat.le_refl _ | simp) ?_
        show J _ _ _ _ _ _ _ _ [(0, .ref 0), (1, .int p)] _ _ _
        refine J_aload_n (i := 0) (a := 0) rfl rfl (dk_X7_isPerson 0 _ rfl) ?_
        refine J_iload_n (i := 1) (a := 1) rfl rfl (dk_X7_isPerson 1 _ rfl) ?_
        refine J_iconst (v := 0) (by decide) (dk_X7_isPerson 2 _ rfl) ?_
        refine J_aload_n (i := 0) (a := 0) rfl rfl (dk_X7_isPerson 3 _ rfl) ?_
        refine J_getf fl_7_7 rfl rfl (dk_X7_isPerson 4 _ rfl) ?_
        refine J_iconst (v := 1) (by decide) (dk_X7_isPerson 7 _ rfl) ?_
        refine J_isubC (v := (-1)) (by decide) (dk_X7_isPerson 8 _ rfl) ?_
        refine J_cV (rv := some (.int 0)) (h' := hM0) (d' := 10) (As := [.int p, .int 0, .int (-1)]) ok_X7_in vi_X7_in cl_7_194 (n := 3) (by decide +kernel) rfl rfl rfl rfl (by decide) (by decide) (dk_X7_isPerson 9 _ rfl) ?_ ?_
        · refine jCt_of ok_X7_in (fun _ _ => Nat.le_of_ble_eq_true rfl) (fun _ _ hq => by rw [hq.2]; first | exact Nat.le_refl _ | simp) ?_
          show J _ _ _ _ _ _ _ _ [(0, .ref 0), (1, .int p), (2, .int 0), (3, .int (-1))] _ _ _
          refine J_iload_n (i := 1) (a := 1) rfl rfl (dk_X7_in 0 _ rfl) ?_
          refine J_iload_n (i := 2) (a := 2) rfl rfl (dk_X7_in 1 _ rfl) ?_
          refine J_icT (tgt := 14) (by decide) (dk_X7_in 2 _ rfl) (jI_lt (rfl : (p : Int32).toInt = (p : Int32).toInt) (by decide : (0 : Int32).toInt = 0) (by omega)) ?_
          refine J_iconst (v := 0) (by decide) (dk_X7_in 14 _ rfl) ?_
          exact J_iret rfl rfl (dk_X7_in 15 _ rfl) ⟨rfl, rfl⟩
        show J _ _ _ _ _ _ _ _ _ [.int 0] _ _
        exact J_iret rfl rfl (dk_X7_isPerson 12 _ rfl) ⟨rfl, rfl⟩
      show J _ _ _ _ _ _ _ _ _ [.int 0] _ _
      refine J_ifT (tgt := 18) (by decide) (dk_X7_row 5 _ rfl) (jI_eq (by decide : (0 : Int32).toInt = 0) (by decide : (0 : Int32).toInt = 0) (by omega)) ?_
      refine J_iconst (v := (-1)) (by decide) (dk_X7_row 18 _ rfl) ?_
      exact J_iret rfl rfl (dk_X7_row 19 _ rfl) ⟨rfl, rfl⟩
  · refine ⟨(-1), ?_, ?_⟩
    · refine jCt_of ok_X6_row (fun _ _ => Nat.le_of_ble_eq_true rfl) (fun _ _ hq => Nat.le_of_eq (lX.trans hq.2.symm)) ?_
      show J _ _ _ _ _ _ _ _ [(0, .ref 0), (1, .int p), (2, .int w), (3, .int n)] _ _ _
      refine J_aload_n (i := 0) (a := 0) rfl rfl (dk_X6_row 0 _ rfl) ?_
      refine J_iload_n (i := 1) (a := 1) rfl rfl (dk_X6_row 1 _ rfl) ?_
      refine J_cV (rv := some (.int 0)) (h' := hN0) (d' := 11) (As := [.int p]) ok_X6_isPerson vi_X6_isPerson cl_6_79 (n := 1) (by decide +kernel) rfl rfl rfl rfl (by decide) (by decide) (dk_X6_row 2 _ rfl) ?_ ?_
      · refine jCt_of ok_X6_isPerson (fun _ _ => Nat.le_of_ble_eq_true rfl) (fun _ _ hq => by rw [hq.2]; first | exact Nat.le_refl _ | simp) ?_
        show J _ _ _ _ _ _ _ _ [(0, .ref 0), (1, .int p)] _ _ _
        refine J_iload_n (i := 1) (a := 1) rfl rfl (dk_X6_isPerson 0 _ rfl) ?_
        refine J_ifF (tgt := 19) (by decide) (dk_X6_isPerson 1 _ rfl) (jI_nlt (rfl : (p : Int32).toInt = (p : Int32).toInt) (by decide : (0 : Int32).toInt = 0) (by omega)) ?_
        refine J_iload_n (i := 1) (a := 1) rfl rfl (dk_X6_isPerson 4 _ rfl) ?_
        refine J_aload_n (i := 0) (a := 0) rfl rfl (dk_X6_isPerson 5 _ rfl) ?_
        refine J_getf fl_6_47 rfl rfl (dk_X6_isPerson 6 _ rfl) ?_
        refine J_getf fl_6_71 rfl rfl (dk_X6_isPerson 9 _ rfl) ?_
        refine J_icT (tgt := 19) (by decide) (dk_X6_isPerson 12 _ rfl) (jI_le (by decide : (0 : Int32).toInt = 0) (rfl : (p : Int32).toInt = (p : Int32).toInt) (by omega)) ?_
        refine J_iconst (v := 0) (by decide) (dk_X6_isPerson 19 _ rfl) ?_
        exact J_iret rfl rfl (dk_X6_isPerson 20 _ rfl) ⟨rfl, rfl⟩
      show J _ _ _ _ _ _ _ _ _ [.int 0] _ _
      refine J_ifT (tgt := 17) (by decide) (dk_X6_row 5 _ rfl) (jI_eq (by decide : (0 : Int32).toInt = 0) (by decide : (0 : Int32).toInt = 0) (by omega)) ?_
      refine J_iconst (v := (-1)) (by decide) (dk_X6_row 17 _ rfl) ?_
      exact J_iret rfl rfl (dk_X6_row 18 _ rfl) ⟨rfl, rfl⟩
    · refine jCt_of ok_X7_row (fun _ _ => Nat.le_of_ble_eq_true rfl) (fun _ _ hq => Nat.le_of_eq (lM.trans hq.2.symm)) ?_
      show J _ _ _ _ _ _ _ _ [(0, .ref 0), (1, .int p), (2, .int w), (3, .int n)] _ _ _
      refine J_aload_n (i := 0) (a := 0) rfl rfl (dk_X7_row 0 _ rfl) ?_
      refine J_iload_n (i := 1) (a := 1) rfl rfl (dk_X7_row 1 _ rfl) ?_
      refine J_cV (rv := some (.int 0)) (h' := hM0) (d' := 11) (As := [.int p]) ok_X7_isPerson vi_X7_isPerson cl_7_206 (n := 1) (by decide +kernel) rfl rfl rfl rfl (by decide) (by decide) (dk_X7_row 2 _ rfl) ?_ ?_
      · refine jCt_of ok_X7_isPerson (fun _ _ => Nat.le_of_ble_eq_true rfl) (fun _ _ hq => by rw [hq.2]; first | exact Nat.le_refl _ | simp) ?_
        show J _ _ _ _ _ _ _ _ [(0, .ref 0), (1, .int p)] _ _ _
        refine J_aload_n (i := 0) (a := 0) rfl rfl (dk_X7_isPerson 0 _ rfl) ?_
        refine J_iload_n (i := 1) (a := 1) rfl rfl (dk_X7_isPerson 1 _ rfl) ?_
        refine J_iconst (v := 0) (by decide) (dk_X7_isPerson 2 _ rfl) ?_
        refine J_aload_n (i := 0) (a := 0) rfl rfl (dk_X7_isPerson 3 _ rfl) ?_
        refine J_getf fl_7_7 rfl rfl (dk_X7_isPerson 4 _ rfl) ?_
        refine J_iconst (v := 1) (by decide) (dk_X7_isPerson 7 _ rfl) ?_
        refine J_isubC (v := (-1)) (by decide) (dk_X7_isPerson 8 _ rfl) ?_
        refine J_cV (rv := some (.int 0)) (h' := hM0) (d' := 10) (As := [.int p, .int 0, .int (-1)]) ok_X7_in vi_X7_in cl_7_194 (n := 3) (by decide +kernel) rfl rfl rfl rfl (by decide) (by decide) (dk_X7_isPerson 9 _ rfl) ?_ ?_
        · refine jCt_of ok_X7_in (fun _ _ => Nat.le_of_ble_eq_true rfl) (fun _ _ hq => by rw [hq.2]; first | exact Nat.le_refl _ | simp) ?_
          show J _ _ _ _ _ _ _ _ [(0, .ref 0), (1, .int p), (2, .int 0), (3, .int (-1))] _ _ _
          refine J_iload_n (i := 1) (a := 1) rfl rfl (dk_X7_in 0 _ rfl) ?_
          refine J_iload_n (i := 2) (a := 2) rfl rfl (dk_X7_in 1 _ rfl) ?_
          refine J_icF (tgt := 14) (by decide) (dk_X7_in 2 _ rfl) (jI_nlt (rfl : (p : Int32).toInt = (p : Int32).toInt) (by decide : (0 : Int32).toInt = 0) (by omega)) ?_
          refine J_iload_n (i := 1) (a := 1) rfl rfl (dk_X7_in 5 _ rfl) ?_
          refine J_iload_n (i := 3) (a := 3) rfl rfl (dk_X7_in 6 _ rfl) ?_
          refine J_icT (tgt := 14) (by decide) (dk_X7_in 7 _ rfl) (jI_lt (by decide : ((-1) : Int32).toInt = (-1)) (rfl : (p : Int32).toInt = (p : Int32).toInt) (by omega)) ?_
          refine J_iconst (v := 0) (by decide) (dk_X7_in 14 _ rfl) ?_
          exact J_iret rfl rfl (dk_X7_in 15 _ rfl) ⟨rfl, rfl⟩
        show J _ _ _ _ _ _ _ _ _ [.int 0] _ _
        exact J_iret rfl rfl (dk_X7_isPerson 12 _ rfl) ⟨rfl, rfl⟩
      show J _ _ _ _ _ _ _ _ _ [.int 0] _ _
      refine J_ifT (tgt := 18) (by decide) (dk_X7_row 5 _ rfl) (jI_eq (by decide : (0 : Int32).toInt = 0) (by decide : (0 : Int32).toInt = 0) (by omega)) ?_
      refine J_iconst (v := (-1)) (by decide) (dk_X7_row 18 _ rfl) ?_
      exact J_iret rfl rfl (dk_X7_row 19 _ rfl) ⟨rfl, rfl⟩
set_option maxHeartbeats 4000000 in
set_option maxRecDepth 1000000 in
theorem o_by (p : Int32) (n : Int32) (w : Int32) : ∃ rv : Int32, jCt m_X6_by 12 0 0 [.ref 0, .int p, .int n, .int w] hN0 (jA (.int rv) 94) ∧ jCt m_X7_by 12 0 0 [.ref 0, .int p, .int n, .int w] hM0 (jA (.int rv) 37) := by
  have r_p := p.toInt_lt; have q_p := p.le_toInt
  have r_n := n.toInt_lt; have q_n := n.le_toInt
  have r_w := w.toInt_lt; have q_w := w.le_toInt
  by_cases c1 : (p : Int32).toInt < 0
  · refine ⟨(-10000001), ?_, ?_⟩
    · refine jCt_of ok_X6_by (fun _ _ => Nat.le_of_ble_eq_true rfl) (fun _ _ hq => Nat.le_of_eq (lX.trans hq.2.symm)) ?_
      show J _ _ _ _ _ _ _ _ [(0, .ref 0), (1, .int p), (2, .int n), (3, .int w)] _ _ _
      refine J_aload_n (i := 0) (a := 0) rfl rfl (dk_X6_by 0 _ rfl) ?_
      refine J_iload_n (i := 1) (a := 1) rfl rfl (dk_X6_by 1 _ rfl) ?_
      refine J_cV (rv := some (.int 0)) (h' := hN0) (d' := 11) (As := [.int p]) ok_X6_isPerson vi_X6_isPerson cl_6_79 (n := 1) (by decide +kernel) rfl rfl rfl rfl (by decide) (by decide) (dk_X6_by 2 _ rfl) ?_ ?_
      · refine jCt_of ok_X6_isPerson (fun _ _ => Nat.le_of_ble_eq_true rfl) (fun _ _ hq => by rw [hq.2]; first | exact Nat.le_refl _ | simp) ?_
        show J _ _ _ _ _ _ _ _ [(0, .ref 0), (1, .int p)] _ _ _
        refine J_iload_n (i := 1) (a := 1) rfl rfl (dk_X6_isPerson 0 _ rfl) ?_
        refine J_ifT (tgt := 19) (by decide) (dk_X6_isPerson 1 _ rfl) (jI_lt (rfl : (p : Int32).toInt = (p : Int32).toInt) (by decide : (0 : Int32).toInt = 0) (by omega)) ?_
        refine J_iconst (v := 0) (by decide) (dk_X6_isPerson 19 _ rfl) ?_
        exact J_iret rfl rfl (dk_X6_isPerson 20 _ rfl) ⟨rfl, rfl⟩
      show J _ _ _ _ _ _ _ _ _ [.int 0] _ _
      refine J_ifT (tgt := 17) (by decide) (dk_X6_by 5 _ rfl) (jI_eq (by decide : (0 : Int32).toInt = 0) (by decide : (0 : Int32).toInt = 0) (by omega)) ?_
      refine J_ldc (v := (-10000001)) ct_6_82 (dk_X6_by 17 _ rfl) ?_
      exact J_iret rfl rfl (dk_X6_by 19 _ rfl) ⟨rfl, rfl⟩
    · refine jCt_of ok_X7_by (fun _ _ => Nat.le_of_ble_eq_true rfl) (fun _ _ hq => Nat.le_of_eq (lM.trans hq.2.symm)) ?_
      show J _ _ _ _ _ _ _ _ [(0, .ref 0), (1, .int p), (2, .int n), (3, .int w)] _ _ _
      refine J_aload_n (i := 0) (a := 0) rfl rfl (dk_X7_by 0 _ rfl) ?_
      refine J_iload_n (i := 1) (a := 1) rfl rfl (dk_X7_by 1 _ rfl) ?_
      refine J_cV (rv := some (.int 0)) (h' := hM0) (d' := 11) (As := [.int p]) ok_X7_isPerson vi_X7_isPerson cl_7_206 (n := 1) (by decide +kernel) rfl rfl rfl rfl (by decide) (by decide) (dk_X7_by 2 _ rfl) ?_ ?_
      · refine jCt_of ok_X7_isPerson (fun _ _ => Nat.le_of_ble_eq_true rfl) (fun _ _ hq => by rw [hq.2]; first | exact Nat.le_refl _ | simp) ?_
        show J _ _ _ _ _ _ _ _ [(0, .ref 0), (1, .int p)] _ _ _
        refine J_aload_n (i := 0) (a := 0) rfl rfl (dk_X7_isPerson 0 _ rfl) ?_
        refine J_iload_n (i := 1) (a := 1) rfl rfl (dk_X7_isPerson 1 _ rfl) ?_
        refine J_iconst (v := 0) (by decide) (dk_X7_isPerson 2 _ rfl) ?_
        refine J_aload_n (i := 0) (a := 0) rfl rfl (dk_X7_isPerson 3 _ rfl) ?_
        refine J_getf fl_7_7 rfl rfl (dk_X7_isPerson 4 _ rfl) ?_
        refine J_iconst (v := 1) (by decide) (dk_X7_isPerson 7 _ rfl) ?_
        refine J_isubC (v := (-1)) (by decide) (dk_X7_isPerson 8 _ rfl) ?_
        refine J_cV (rv := some (.int 0)) (h' := hM0) (d' := 10) (As := [.int p, .int 0, .int (-1)]) ok_X7_in vi_X7_in cl_7_194 (n := 3) (by decide +kernel) rfl rfl rfl rfl (by decide) (by decide) (dk_X7_isPerson 9 _ rfl) ?_ ?_
        · refine jCt_of ok_X7_in (fun _ _ => Nat.le_of_ble_eq_true rfl) (fun _ _ hq => by rw [hq.2]; first | exact Nat.le_refl _ | simp) ?_
          show J _ _ _ _ _ _ _ _ [(0, .ref 0), (1, .int p), (2, .int 0), (3, .int (-1))] _ _ _
          refine J_iload_n (i := 1) (a := 1) rfl rfl (dk_X7_in 0 _ rfl) ?_
          refine J_iload_n (i := 2) (a := 2) rfl rfl (dk_X7_in 1 _ rfl) ?_
          refine J_icT (tgt := 14) (by decide) (dk_X7_in 2 _ rfl) (jI_lt (rfl : (p : Int32).toInt = (p : Int32).toInt) (by decide : (0 : Int32).toInt = 0) (by omega)) ?_
          refine J_iconst (v := 0) (by decide) (dk_X7_in 14 _ rfl) ?_
          exact J_iret rfl rfl (dk_X7_in 15 _ rfl) ⟨rfl, rfl⟩
        show J _ _ _ _ _ _ _ _ _ [.int 0] _ _
        exact J_iret rfl rfl (dk_X7_isPerson 12 _ rfl) ⟨rfl, rfl⟩
      show J _ _ _ _ _ _ _ _ _ [.int 0] _ _
      refine J_ifT (tgt := 18) (by decide) (dk_X7_by 5 _ rfl) (jI_eq (by decide : (0 : Int32).toInt = 0) (by decide : (0 : Int32).toInt = 0) (by omega)) ?_
      refine J_ldcw (v := (-10000001)) ct_7_291 (dk_X7_by 18 _ rfl) ?_
      exact J_iret rfl rfl (dk_X7_by 21 _ rfl) ⟨rfl, rfl⟩
  · refine ⟨(-10000001), ?_, ?_⟩
    · refine jCt_of ok_X6_by (fun _ _ => Nat.le_of_ble_eq_true rfl) (fun _ _ hq => Nat.le_of_eq (lX.trans hq.2.symm)) ?_
      show J _ _ _ _ _ _ _ _ [(0, .ref 0), (1, .int p), (2, .int n), (3, .int w)] _ _ _
      refine J_aload_n (i := 0) (a := 0) rfl rfl (dk_X6_by 0 _ rfl) ?_
      refine J_iload_n (i := 1) (a := 1) rfl rfl (dk_X6_by 1 _ rfl) ?_
      refine J_cV (rv := some (.int 0)) (h' := hN0) (d' := 11) (As := [.int p]) ok_X6_isPerson vi_X6_isPerson cl_6_79 (n := 1) (by decide +kernel) rfl rfl rfl rfl (by decide) (by decide) (dk_X6_by 2 _ rfl) ?_ ?_
      · refine jCt_of ok_X6_isPerson (fun _ _ => Nat.le_of_ble_eq_true rfl) (fun _ _ hq => by rw [hq.2]; first | exact Nat.le_refl _ | simp) ?_
        show J _ _ _ _ _ _ _ _ [(0, .ref 0), (1, .int p)] _ _ _
        refine J_iload_n (i := 1) (a := 1) rfl rfl (dk_X6_isPerson 0 _ rfl) ?_
        refine J_ifF (tgt := 19) (by decide) (dk_X6_isPerson 1 _ rfl) (jI_nlt (rfl : (p : Int32).toInt = (p : Int32).toInt) (by decide : (0 : Int32).toInt = 0) (by omega)) ?_
        refine J_iload_n (i := 1) (a := 1) rfl rfl (dk_X6_isPerson 4 _ rfl) ?_
        refine J_aload_n (i := 0) (a := 0) rfl rfl (dk_X6_isPerson 5 _ rfl) ?_
        refine J_getf fl_6_47 rfl rfl (dk_X6_isPerson 6 _ rfl) ?_
        refine J_getf fl_6_71 rfl rfl (dk_X6_isPerson 9 _ rfl) ?_
        refine J_icT (tgt := 19) (by decide) (dk_X6_isPerson 12 _ rfl) (jI_le (by decide : (0 : Int32).toInt = 0) (rfl : (p : Int32).toInt = (p : Int32).toInt) (by omega)) ?_
        refine J_iconst (v := 0) (by decide) (dk_X6_isPerson 19 _ rfl) ?_
        exact J_iret rfl rfl (dk_X6_isPerson 20 _ rfl) ⟨rfl, rfl⟩
      show J _ _ _ _ _ _ _ _ _ [.int 0] _ _
      refine J_ifT (tgt := 17) (by decide) (dk_X6_by 5 _ rfl) (jI_eq (by decide : (0 : Int32).toInt = 0) (by decide : (0 : Int32).toInt = 0) (by omega)) ?_
      refine J_ldc (v := (-10000001)) ct_6_82 (dk_X6_by 17 _ rfl) ?_
      exact J_iret rfl rfl (dk_X6_by 19 _ rfl) ⟨rfl, rfl⟩
    · refine jCt_of ok_X7_by (fun _ _ => Nat.le_of_ble_eq_true rfl) (fun _ _ hq => Nat.le_of_eq (lM.trans hq.2.symm)) ?_
      show J _ _ _ _ _ _ _ _ [(0, .ref 0), (1, .int p), (2, .int n), (3, .int w)] _ _ _
      refine J_aload_n (i := 0) (a := 0) rfl rfl (dk_X7_by 0 _ rfl) ?_
      refine J_iload_n (i := 1) (a := 1) rfl rfl (dk_X7_by 1 _ rfl) ?_
      refine J_cV (rv := some (.int 0)) (h' := hM0) (d' := 11) (As := [.int p]) ok_X7_isPerson vi_X7_isPerson cl_7_206 (n := 1) (by decide +kernel) rfl rfl rfl rfl (by decide) (by decide) (dk_X7_by 2 _ rfl) ?_ ?_
      · refine jCt_of ok_X7_isPerson (fun _ _ => Nat.le_of_ble_eq_true rfl) (fun _ _ hq => by rw [hq.2]; first | exact Nat.le_refl _ | simp) ?_
        show J _ _ _ _ _ _ _ _ [(0, .ref 0), (1, .int p)] _ _ _
        refine J_aload_n (i := 0) (a := 0) rfl rfl (dk_X7_isPerson 0 _ rfl) ?_
        refine J_iload_n (i := 1) (a := 1) rfl rfl (dk_X7_isPerson 1 _ rfl) ?_
        refine J_iconst (v := 0) (by decide) (dk_X7_isPerson 2 _ rfl) ?_
        refine J_aload_n (i := 0) (a := 0) rfl rfl (dk_X7_isPerson 3 _ rfl) ?_
        refine J_getf fl_7_7 rfl rfl (dk_X7_isPerson 4 _ rfl) ?_
        refine J_iconst (v := 1) (by decide) (dk_X7_isPerson 7 _ rfl) ?_
        refine J_isubC (v := (-1)) (by decide) (dk_X7_isPerson 8 _ rfl) ?_
        refine J_cV (rv := some (.int 0)) (h' := hM0) (d' := 10) (As := [.int p, .int 0, .int (-1)]) ok_X7_in vi_X7_in cl_7_194 (n := 3) (by decide +kernel) rfl rfl rfl rfl (by decide) (by decide) (dk_X7_isPerson 9 _ rfl) ?_ ?_
        · refine jCt_of ok_X7_in (fun _ _ => Nat.le_of_ble_eq_true rfl) (fun _ _ hq => by rw [hq.2]; first | exact Nat.le_refl _ | simp) ?_
          show J _ _ _ _ _ _ _ _ [(0, .ref 0), (1, .int p), (2, .int 0), (3, .int (-1))] _ _ _
          refine J_iload_n (i := 1) (a := 1) rfl rfl (dk_X7_in 0 _ rfl) ?_
          refine J_iload_n (i := 2) (a := 2) rfl rfl (dk_X7_in 1 _ rfl) ?_
          refine J_icF (tgt := 14) (by decide) (dk_X7_in 2 _ rfl) (jI_nlt (rfl : (p : Int32).toInt = (p : Int32).toInt) (by decide : (0 : Int32).toInt = 0) (by omega)) ?_
          refine J_iload_n (i := 1) (a := 1) rfl rfl (dk_X7_in 5 _ rfl) ?_
          refine J_iload_n (i := 3) (a := 3) rfl rfl (dk_X7_in 6 _ rfl) ?_
          refine J_icT (tgt := 14) (by decide) (dk_X7_in 7 _ rfl) (jI_lt (by decide : ((-1) : Int32).toInt = (-1)) (rfl : (p : Int32).toInt = (p : Int32).toInt) (by omega)) ?_
          refine J_iconst (v := 0) (by decide) (dk_X7_in 14 _ rfl) ?_
          exact J_iret rfl rfl (dk_X7_in 15 _ rfl) ⟨rfl, rfl⟩
        show J _ _ _ _ _ _ _ _ _ [.int 0] _ _
        exact J_iret rfl rfl (dk_X7_isPerson 12 _ rfl) ⟨rfl, rfl⟩
      show J _ _ _ _ _ _ _ _ _ [.int 0] _ _
      refine J_ifT (tgt := 18) (by decide) (dk_X7_by 5 _ rfl) (jI_eq (by decide : (0 : Int32).toInt = 0) (by decide : (0 : Int32).toInt = 0) (by omega)) ?_
      refine J_ldcw (v := (-10000001)) ct_7_291 (dk_X7_by 18 _ rfl) ?_
      exact J_iret rfl rfl (dk_X7_by 21 _ rfl) ⟨rfl, rfl⟩
set_option maxHeartbeats 4000000 in
set_option maxRecDepth 1000000 in
theorem o_years (p : Int32) : ∃ rv : Int32, jCt m_X6_years 12 0 0 [.ref 0, .int p] hN0 (jA (.int rv) 94) ∧ jCt m_X7_years 12 0 0 [.ref 0, .int p] hM0 (jA (.int rv) 37) := by
  have r_p := p.toInt_lt; have q_p := p.le_toInt
  by_cases c1 : (p : Int32).toInt < 0
  · refine ⟨(-10000001), ?_, ?_⟩
    · refine jCt_of ok_X6_years (fun _ _ => Nat.le_of_ble_eq_true rfl) (fun _ _ hq => Nat.le_of_eq (lX.trans hq.2.symm)) ?_
      show J _ _ _ _ _ _ _ _ [(0, .ref 0), (1, .int p)] _ _ _
      refine J_aload_n (i := 0) (a := 0) rfl rfl (dk_X6_years 0 _ rfl) ?_
      refine J_iload_n (i := 1) (a := 1) rfl rfl (dk_X6_years 1 _ rfl) ?_
      refine J_cV (rv := some (.int 0)) (h' := hN0) (d' := 11) (As := [.int p]) ok_X6_isPerson vi_X6_isPerson cl_6_79 (n := 1) (by decide +kernel) rfl rfl rfl rfl (by decide) (by decide) (dk_X6_years 2 _ rfl) ?_ ?_
      · refine jCt_of ok_X6_isPerson (fun _ _ => Nat.le_of_ble_eq_true rfl) (fun _ _ hq => by rw [hq.2]; first | exact Nat.le_refl _ | simp) ?_
        show J _ _ _ _ _ _ _ _ [(0, .ref 0), (1, .int p)] _ _ _
        refine J_iload_n (i := 1) (a := 1) rfl rfl (dk_X6_isPerson 0 _ rfl) ?_
        refine J_ifT (tgt := 19) (by decide) (dk_X6_isPerson 1 _ rfl) (jI_lt (rfl : (p : Int32).toInt = (p : Int32).toInt) (by decide : (0 : Int32).toInt = 0) (by omega)) ?_
        refine J_iconst (v := 0) (by decide) (dk_X6_isPerson 19 _ rfl) ?_
        exact J_iret rfl rfl (dk_X6_isPerson 20 _ rfl) ⟨rfl, rfl⟩
      show J _ _ _ _ _ _ _ _ _ [.int 0] _ _
      refine J_ifF (tgt := 11) (by decide) (dk_X6_years 5 _ rfl) (fun z => z (jI_eq (by decide : (0 : Int32).toInt = 0) (by decide : (0 : Int32).toInt = 0) (by omega))) ?_
      refine J_ldc (v := (-10000001)) ct_6_82 (dk_X6_years 8 _ rfl) ?_
      exact J_iret rfl rfl (dk_X6_years 10 _ rfl) ⟨rfl, rfl⟩
    · refine jCt_of ok_X7_years (fun _ _ => Nat.le_of_ble_eq_true rfl) (fun _ _ hq => Nat.le_of_eq (lM.trans hq.2.symm)) ?_
      show J _ _ _ _ _ _ _ _ [(0, .ref 0), (1, .int p)] _ _ _
      refine J_aload_n (i := 0) (a := 0) rfl rfl (dk_X7_years 0 _ rfl) ?_
      refine J_iload_n (i := 1) (a := 1) rfl rfl (dk_X7_years 1 _ rfl) ?_
      refine J_cV (rv := some (.int 0)) (h' := hM0) (d' := 11) (As := [.int p]) ok_X7_isPerson vi_X7_isPerson cl_7_206 (n := 1) (by decide +kernel) rfl rfl rfl rfl (by decide) (by decide) (dk_X7_years 2 _ rfl) ?_ ?_
      · refine jCt_of ok_X7_isPerson (fun _ _ => Nat.le_of_ble_eq_true rfl) (fun _ _ hq => by rw [hq.2]; first | exact Nat.le_refl _ | simp) ?_
        show J _ _ _ _ _ _ _ _ [(0, .ref 0), (1, .int p)] _ _ _
        refine J_aload_n (i := 0) (a := 0) rfl rfl (dk_X7_isPerson 0 _ rfl) ?_
        refine J_iload_n (i := 1) (a := 1) rfl rfl (dk_X7_isPerson 1 _ rfl) ?_
        refine J_iconst (v := 0) (by decide) (dk_X7_isPerson 2 _ rfl) ?_
        refine J_aload_n (i := 0) (a := 0) rfl rfl (dk_X7_isPerson 3 _ rfl) ?_
        refine J_getf fl_7_7 rfl rfl (dk_X7_isPerson 4 _ rfl) ?_
        refine J_iconst (v := 1) (by decide) (dk_X7_isPerson 7 _ rfl) ?_
        refine J_isubC (v := (-1)) (by decide) (dk_X7_isPerson 8 _ rfl) ?_
        refine J_cV (rv := some (.int 0)) (h' := hM0) (d' := 10) (As := [.int p, .int 0, .int (-1)]) ok_X7_in vi_X7_in cl_7_194 (n := 3) (by decide +kernel) rfl rfl rfl rfl (by decide) (by decide) (dk_X7_isPerson 9 _ rfl) ?_ ?_
        · refine jCt_of ok_X7_in (fun _ _ => Nat.le_of_ble_eq_true rfl) (fun _ _ hq => by rw [hq.2]; first | exact Nat.le_refl _ | simp) ?_
          show J _ _ _ _ _ _ _ _ [(0, .ref 0), (1, .int p), (2, .int 0), (3, .int (-1))] _ _ _
          refine J_iload_n (i := 1) (a := 1) rfl rfl (dk_X7_in 0 _ rfl) ?_
          refine J_iload_n (i := 2) (a := 2) rfl rfl (dk_X7_in 1 _ rfl) ?_
          refine J_icT (tgt := 14) (by decide) (dk_X7_in 2 _ rfl) (jI_lt (rfl : (p : Int32).toInt = (p : Int32).toInt) (by decide : (0 : Int32).toInt = 0) (by omega)) ?_
          refine J_iconst (v := 0) (by decide) (dk_X7_in 14 _ rfl) ?_
          exact J_iret rfl rfl (dk_X7_in 15 _ rfl) ⟨rfl, rfl⟩
        show J _ _ _ _ _ _ _ _ _ [.int 0] _ _
        exact J_iret rfl rfl (dk_X7_isPerson 12 _ rfl) ⟨rfl, rfl⟩
      show J _ _ _ _ _ _ _ _ _ [.int 0] _ _
      refine J_ifT (tgt := 16) (by decide) (dk_X7_years 5 _ rfl) (jI_eq (by decide : (0 : Int32).toInt = 0) (by decide : (0 : Int32).toInt = 0) (by omega)) ?_
      refine J_ldcw (v := (-10000001)) ct_7_291 (dk_X7_years 16 _ rfl) ?_
      exact J_iret rfl rfl (dk_X7_years 19 _ rfl) ⟨rfl, rfl⟩
  · refine ⟨(-10000001), ?_, ?_⟩
    · refine jCt_of ok_X6_years (fun _ _ => Nat.le_of_ble_eq_true rfl) (fun _ _ hq => Nat.le_of_eq (lX.trans hq.2.symm)) ?_
      show J _ _ _ _ _ _ _ _ [(0, .ref 0), (1, .int p)] _ _ _
      refine J_aload_n (i := 0) (a := 0) rfl rfl (dk_X6_years 0 _ rfl) ?_
      refine J_iload_n (i := 1) (a := 1) rfl rfl (dk_X6_years 1 _ rfl) ?_
      refine J_cV (rv := some (.int 0)) (h' := hN0) (d' := 11) (As := [.int p]) ok_X6_isPerson vi_X6_isPerson cl_6_79 (n := 1) (by decide +kernel) rfl rfl rfl rfl (by decide) (by decide) (dk_X6_years 2 _ rfl) ?_ ?_
      · refine jCt_of ok_X6_isPerson (fun _ _ => Nat.le_of_ble_eq_true rfl) (fun _ _ hq => by rw [hq.2]; first | exact Nat.le_refl _ | simp) ?_
        show J _ _ _ _ _ _ _ _ [(0, .ref 0), (1, .int p)] _ _ _
        refine J_iload_n (i := 1) (a := 1) rfl rfl (dk_X6_isPerson 0 _ rfl) ?_
        refine J_ifF (tgt := 19) (by decide) (dk_X6_isPerson 1 _ rfl) (jI_nlt (rfl : (p : Int32).toInt = (p : Int32).toInt) (by decide : (0 : Int32).toInt = 0) (by omega)) ?_
        refine J_iload_n (i := 1) (a := 1) rfl rfl (dk_X6_isPerson 4 _ rfl) ?_
        refine J_aload_n (i := 0) (a := 0) rfl rfl (dk_X6_isPerson 5 _ rfl) ?_
        refine J_getf fl_6_47 rfl rfl (dk_X6_isPerson 6 _ rfl) ?_
        refine J_getf fl_6_71 rfl rfl (dk_X6_isPerson 9 _ rfl) ?_
        refine J_icT (tgt := 19) (by decide) (dk_X6_isPerson 12 _ rfl) (jI_le (by decide : (0 : Int32).toInt = 0) (rfl : (p : Int32).toInt = (p : Int32).toInt) (by omega)) ?_
        refine J_iconst (v := 0) (by decide) (dk_X6_isPerson 19 _ rfl) ?_
        exact J_iret rfl rfl (dk_X6_isPerson 20 _ rfl) ⟨rfl, rfl⟩
      show J _ _ _ _ _ _ _ _ _ [.int 0] _ _
      refine J_ifF (tgt := 11) (by decide) (dk_X6_years 5 _ rfl) (fun z => z (jI_eq (by decide : (0 : Int32).toInt = 0) (by decide : (0 : Int32).toInt = 0) (by omega))) ?_
      refine J_ldc (v := (-10000001)) ct_6_82 (dk_X6_years 8 _ rfl) ?_
      exact J_iret rfl rfl (dk_X6_years 10 _ rfl) ⟨rfl, rfl⟩
    · refine jCt_of ok_X7_years (fun _ _ => Nat.le_of_ble_eq_true rfl) (fun _ _ hq => Nat.le_of_eq (lM.trans hq.2.symm)) ?_
      show J _ _ _ _ _ _ _ _ [(0, .ref 0), (1, .int p)] _ _ _
      refine J_aload_n (i := 0) (a := 0) rfl rfl (dk_X7_years 0 _ rfl) ?_
      refine J_iload_n (i := 1) (a := 1) rfl rfl (dk_X7_years 1 _ rfl) ?_
      refine J_cV (rv := some (.int 0)) (h' := hM0) (d' := 11) (As := [.int p]) ok_X7_isPerson vi_X7_isPerson cl_7_206 (n := 1) (by decide +kernel) rfl rfl rfl rfl (by decide) (by decide) (dk_X7_years 2 _ rfl) ?_ ?_
      · refine jCt_of ok_X7_isPerson (fun _ _ => Nat.le_of_ble_eq_true rfl) (fun _ _ hq => by rw [hq.2]; first | exact Nat.le_refl _ | simp) ?_
        show J _ _ _ _ _ _ _ _ [(0, .ref 0), (1, .int p)] _ _ _
        refine J_aload_n (i := 0) (a := 0) rfl rfl (dk_X7_isPerson 0 _ rfl) ?_
        refine J_iload_n (i := 1) (a := 1) rfl rfl (dk_X7_isPerson 1 _ rfl) ?_
        refine J_iconst (v := 0) (by decide) (dk_X7_isPerson 2 _ rfl) ?_
        refine J_aload_n (i := 0) (a := 0) rfl rfl (dk_X7_isPerson 3 _ rfl) ?_
        refine J_getf fl_7_7 rfl rfl (dk_X7_isPerson 4 _ rfl) ?_
        refine J_iconst (v := 1) (by decide) (dk_X7_isPerson 7 _ rfl) ?_
        refine J_isubC (v := (-1)) (by decide) (dk_X7_isPerson 8 _ rfl) ?_
        refine J_cV (rv := some (.int 0)) (h' := hM0) (d' := 10) (As := [.int p, .int 0, .int (-1)]) ok_X7_in vi_X7_in cl_7_194 (n := 3) (by decide +kernel) rfl rfl rfl rfl (by decide) (by decide) (dk_X7_isPerson 9 _ rfl) ?_ ?_
        · refine jCt_of ok_X7_in (fun _ _ => Nat.le_of_ble_eq_true rfl) (fun _ _ hq => by rw [hq.2]; first | exact Nat.le_refl _ | simp) ?_
          show J _ _ _ _ _ _ _ _ [(0, .ref 0), (1, .int p), (2, .int 0), (3, .int (-1))] _ _ _
          refine J_iload_n (i := 1) (a := 1) rfl rfl (dk_X7_in 0 _ rfl) ?_
          refine J_iload_n (i := 2) (a := 2) rfl rfl (dk_X7_in 1 _ rfl) ?_
          refine J_icF (tgt := 14) (by decide) (dk_X7_in 2 _ rfl) (jI_nlt (rfl : (p : Int32).toInt = (p : Int32).toInt) (by decide : (0 : Int32).toInt = 0) (by omega)) ?_
          refine J_iload_n (i := 1) (a := 1) rfl rfl (dk_X7_in 5 _ rfl) ?_
          refine J_iload_n (i := 3) (a := 3) rfl rfl (dk_X7_in 6 _ rfl) ?_
          refine J_icT (tgt := 14) (by decide) (dk_X7_in 7 _ rfl) (jI_lt (by decide : ((-1) : Int32).toInt = (-1)) (rfl : (p : Int32).toInt = (p : Int32).toInt) (by omega)) ?_
          refine J_iconst (v := 0) (by decide) (dk_X7_in 14 _ rfl) ?_
          exact J_iret rfl rfl (dk_X7_in 15 _ rfl) ⟨rfl, rfl⟩
        show J _ _ _ _ _ _ _ _ _ [.int 0] _ _
        exact J_iret rfl rfl (dk_X7_isPerson 12 _ rfl) ⟨rfl, rfl⟩
      show J _ _ _ _ _ _ _ _ _ [.int 0] _ _
      refine J_ifT (tgt := 16) (by decide) (dk_X7_years 5 _ rfl) (jI_eq (by decide : (0 : Int32).toInt = 0) (by decide : (0 : Int32).toInt = 0) (by omega)) ?_
      refine J_ldcw (v := (-10000001)) ct_7_291 (dk_X7_years 16 _ rfl) ?_
      exact J_iret rfl rfl (dk_X7_years 19 _ rfl) ⟨rfl, rfl⟩
set_option maxHeartbeats 4000000 in
set_option maxRecDepth 1000000 in
theorem o_birth (p : Int32) (w : Int32) : ∃ rv : Int32, jCt m_X6_birth 12 0 0 [.ref 0, .int p, .int w] hN0 (jA (.int rv) 94) ∧ jCt m_X7_birth 12 0 0 [.ref 0, .int p, .int w] hM0 (jA (.int rv) 37) := by
  have r_p := p.toInt_lt; have q_p := p.le_toInt
  have r_w := w.toInt_lt; have q_w := w.le_toInt
  by_cases c1 : (p : Int32).toInt < 0
  · refine ⟨(-10000001), ?_, ?_⟩
    · refine jCt_of ok_X6_birth (fun _ _ => Nat.le_of_ble_eq_true rfl) (fun _ _ hq => Nat.le_of_eq (lX.trans hq.2.symm)) ?_
      show J _ _ _ _ _ _ _ _ [(0, .ref 0), (1, .int p), (2, .int w)] _ _ _
      refine J_aload_n (i := 0) (a := 0) rfl rfl (dk_X6_birth 0 _ rfl) ?_
      refine J_iload_n (i := 1) (a := 1) rfl rfl (dk_X6_birth 1 _ rfl) ?_
      refine J_cV (rv := some (.int 0)) (h' := hN0) (d' := 11) (As := [.int p]) ok_X6_isPerson vi_X6_isPerson cl_6_79 (n := 1) (by decide +kernel) rfl rfl rfl rfl (by decide) (by decide) (dk_X6_birth 2 _ rfl) ?_ ?_
      · refine jCt_of ok_X6_isPerson (fun _ _ => Nat.le_of_ble_eq_true rfl) (fun _ _ hq => by rw [hq.2]; first | exact Nat.le_refl _ | simp) ?_
        show J _ _ _ _ _ _ _ _ [(0, .ref 0), (1, .int p)] _ _ _
        refine J_iload_n (i := 1) (a := 1) rfl rfl (dk_X6_isPerson 0 _ rfl) ?_
        refine J_ifT (tgt := 19) (by decide) (dk_X6_isPerson 1 _ rfl) (jI_lt (rfl : (p : Int32).toInt = (p : Int32).toInt) (by decide : (0 : Int32).toInt = 0) (by omega)) ?_
        refine J_iconst (v := 0) (by decide) (dk_X6_isPerson 19 _ rfl) ?_
        exact J_iret rfl rfl (dk_X6_isPerson 20 _ rfl) ⟨rfl, rfl⟩
      show J _ _ _ _ _ _ _ _ _ [.int 0] _ _
      refine J_ifT (tgt := 17) (by decide) (dk_X6_birth 5 _ rfl) (jI_eq (by decide : (0 : Int32).toInt = 0) (by decide : (0 : Int32).toInt = 0) (by omega)) ?_
      refine J_ldc (v := (-10000001)) ct_6_82 (dk_X6_birth 17 _ rfl) ?_
      exact J_iret rfl rfl (dk_X6_birth 19 _ rfl) ⟨rfl, rfl⟩
    · refine jCt_of ok_X7_birth (fun _ _ => Nat.le_of_ble_eq_true rfl) (fun _ _ hq => Nat.le_of_eq (lM.trans hq.2.symm)) ?_
      show J _ _ _ _ _ _ _ _ [(0, .ref 0), (1, .int p), (2, .int w)] _ _ _
      refine J_aload_n (i := 0) (a := 0) rfl rfl (dk_X7_birth 0 _ rfl) ?_
      refine J_iload_n (i := 1) (a := 1) rfl rfl (dk_X7_birth 1 _ rfl) ?_
      refine J_cV (rv := some (.int 0)) (h' := hM0) (d' := 11) (As := [.int p]) ok_X7_isPerson vi_X7_isPerson cl_7_206 (n := 1) (by decide +kernel) rfl rfl rfl rfl (by decide) (by decide) (dk_X7_birth 2 _ rfl) ?_ ?_
      · refine jCt_of ok_X7_isPerson (fun _ _ => Nat.le_of_ble_eq_true rfl) (fun _ _ hq => by rw [hq.2]; first | exact Nat.le_refl _ | simp) ?_
        show J _ _ _ _ _ _ _ _ [(0, .ref 0), (1, .int p)] _ _ _
        refine J_aload_n (i := 0) (a := 0) rfl rfl (dk_X7_isPerson 0 _ rfl) ?_
        refine J_iload_n (i := 1) (a := 1) rfl rfl (dk_X7_isPerson 1 _ rfl) ?_
        refine J_iconst (v := 0) (by decide) (dk_X7_isPerson 2 _ rfl) ?_
        refine J_aload_n (i := 0) (a := 0) rfl rfl (dk_X7_isPerson 3 _ rfl) ?_
        refine J_getf fl_7_7 rfl rfl (dk_X7_isPerson 4 _ rfl) ?_
        refine J_iconst (v := 1) (by decide) (dk_X7_isPerson 7 _ rfl) ?_
        refine J_isubC (v := (-1)) (by decide) (dk_X7_isPerson 8 _ rfl) ?_
        refine J_cV (rv := some (.int 0)) (h' := hM0) (d' := 10) (As := [.int p, .int 0, .int (-1)]) ok_X7_in vi_X7_in cl_7_194 (n := 3) (by decide +kernel) rfl rfl rfl rfl (by decide) (by decide) (dk_X7_isPerson 9 _ rfl) ?_ ?_
        · refine jCt_of ok_X7_in (fun _ _ => Nat.le_of_ble_eq_true rfl) (fun _ _ hq => by rw [hq.2]; first | exact Nat.le_refl _ | simp) ?_
          show J _ _ _ _ _ _ _ _ [(0, .ref 0), (1, .int p), (2, .int 0), (3, .int (-1))] _ _ _
          refine J_iload_n (i := 1) (a := 1) rfl rfl (dk_X7_in 0 _ rfl) ?_
          refine J_iload_n (i := 2) (a := 2) rfl rfl (dk_X7_in 1 _ rfl) ?_
          refine J_icT (tgt := 14) (by decide) (dk_X7_in 2 _ rfl) (jI_lt (rfl : (p : Int32).toInt = (p : Int32).toInt) (by decide : (0 : Int32).toInt = 0) (by omega)) ?_
          refine J_iconst (v := 0) (by decide) (dk_X7_in 14 _ rfl) ?_
          exact J_iret rfl rfl (dk_X7_in 15 _ rfl) ⟨rfl, rfl⟩
        show J _ _ _ _ _ _ _ _ _ [.int 0] _ _
        exact J_iret rfl rfl (dk_X7_isPerson 12 _ rfl) ⟨rfl, rfl⟩
      show J _ _ _ _ _ _ _ _ _ [.int 0] _ _
      refine J_ifT (tgt := 18) (by decide) (dk_X7_birth 5 _ rfl) (jI_eq (by decide : (0 : Int32).toInt = 0) (by decide : (0 : Int32).toInt = 0) (by omega)) ?_
      refine J_ldcw (v := (-10000001)) ct_7_291 (dk_X7_birth 18 _ rfl) ?_
      exact J_iret rfl rfl (dk_X7_birth 21 _ rfl) ⟨rfl, rfl⟩
  · refine ⟨(-10000001), ?_, ?_⟩
    · refine jCt_of ok_X6_birth (fun _ _ => Nat.le_of_ble_eq_true rfl) (fun _ _ hq => Nat.le_of_eq (lX.trans hq.2.symm)) ?_
      show J _ _ _ _ _ _ _ _ [(0, .ref 0), (1, .int p), (2, .int w)] _ _ _
      refine J_aload_n (i := 0) (a := 0) rfl rfl (dk_X6_birth 0 _ rfl) ?_
      refine J_iload_n (i := 1) (a := 1) rfl rfl (dk_X6_birth 1 _ rfl) ?_
      refine J_cV (rv := some (.int 0)) (h' := hN0) (d' := 11) (As := [.int p]) ok_X6_isPerson vi_X6_isPerson cl_6_79 (n := 1) (by decide +kernel) rfl rfl rfl rfl (by decide) (by decide) (dk_X6_birth 2 _ rfl) ?_ ?_
      · refine jCt_of ok_X6_isPerson (fun _ _ => Nat.le_of_ble_eq_true rfl) (fun _ _ hq => by rw [hq.2]; first | exact Nat.le_refl _ | simp) ?_
        show J _ _ _ _ _ _ _ _ [(0, .ref 0), (1, .int p)] _ _ _
        refine J_iload_n (i := 1) (a := 1) rfl rfl (dk_X6_isPerson 0 _ rfl) ?_
        refine J_ifF (tgt := 19) (by decide) (dk_X6_isPerson 1 _ rfl) (jI_nlt (rfl : (p : Int32).toInt = (p : Int32).toInt) (by decide : (0 : Int32).toInt = 0) (by omega)) ?_
        refine J_iload_n (i := 1) (a := 1) rfl rfl (dk_X6_isPerson 4 _ rfl) ?_
        refine J_aload_n (i := 0) (a := 0) rfl rfl (dk_X6_isPerson 5 _ rfl) ?_
        refine J_getf fl_6_47 rfl rfl (dk_X6_isPerson 6 _ rfl) ?_
        refine J_getf fl_6_71 rfl rfl (dk_X6_isPerson 9 _ rfl) ?_
        refine J_icT (tgt := 19) (by decide) (dk_X6_isPerson 12 _ rfl) (jI_le (by decide : (0 : Int32).toInt = 0) (rfl : (p : Int32).toInt = (p : Int32).toInt) (by omega)) ?_
        refine J_iconst (v := 0) (by decide) (dk_X6_isPerson 19 _ rfl) ?_
        exact J_iret rfl rfl (dk_X6_isPerson 20 _ rfl) ⟨rfl, rfl⟩
      show J _ _ _ _ _ _ _ _ _ [.int 0] _ _
      refine J_ifT (tgt := 17) (by decide) (dk_X6_birth 5 _ rfl) (jI_eq (by decide : (0 : Int32).toInt = 0) (by decide : (0 : Int32).toInt = 0) (by omega)) ?_
      refine J_ldc (v := (-10000001)) ct_6_82 (dk_X6_birth 17 _ rfl) ?_
      exact J_iret rfl rfl (dk_X6_birth 19 _ rfl) ⟨rfl, rfl⟩
    · refine jCt_of ok_X7_birth (fun _ _ => Nat.le_of_ble_eq_true rfl) (fun _ _ hq => Nat.le_of_eq (lM.trans hq.2.symm)) ?_
      show J _ _ _ _ _ _ _ _ [(0, .ref 0), (1, .int p), (2, .int w)] _ _ _
      refine J_aload_n (i := 0) (a := 0) rfl rfl (dk_X7_birth 0 _ rfl) ?_
      refine J_iload_n (i := 1) (a := 1) rfl rfl (dk_X7_birth 1 _ rfl) ?_
      refine J_cV (rv := some (.int 0)) (h' := hM0) (d' := 11) (As := [.int p]) ok_X7_isPerson vi_X7_isPerson cl_7_206 (n := 1) (by decide +kernel) rfl rfl rfl rfl (by decide) (by decide) (dk_X7_birth 2 _ rfl) ?_ ?_
      · refine jCt_of ok_X7_isPerson (fun _ _ => Nat.le_of_ble_eq_true rfl) (fun _ _ hq => by rw [hq.2]; first | exact Nat.le_refl _ | simp) ?_
        show J _ _ _ _ _ _ _ _ [(0, .ref 0), (1, .int p)] _ _ _
        refine J_aload_n (i := 0) (a := 0) rfl rfl (dk_X7_isPerson 0 _ rfl) ?_
        refine J_iload_n (i := 1) (a := 1) rfl rfl (dk_X7_isPerson 1 _ rfl) ?_
        refine J_iconst (v := 0) (by decide) (dk_X7_isPerson 2 _ rfl) ?_
        refine J_aload_n (i := 0) (a := 0) rfl rfl (dk_X7_isPerson 3 _ rfl) ?_
        refine J_getf fl_7_7 rfl rfl (dk_X7_isPerson 4 _ rfl) ?_
        refine J_iconst (v := 1) (by decide) (dk_X7_isPerson 7 _ rfl) ?_
        refine J_isubC (v := (-1)) (by decide) (dk_X7_isPerson 8 _ rfl) ?_
        refine J_cV (rv := some (.int 0)) (h' := hM0) (d' := 10) (As := [.int p, .int 0, .int (-1)]) ok_X7_in vi_X7_in cl_7_194 (n := 3) (by decide +kernel) rfl rfl rfl rfl (by decide) (by decide) (dk_X7_isPerson 9 _ rfl) ?_ ?_
        · refine jCt_of ok_X7_in (fun _ _ => Nat.le_of_ble_eq_true rfl) (fun _ _ hq => by rw [hq.2]; first | exact Nat.le_refl _ | simp) ?_
          show J _ _ _ _ _ _ _ _ [(0, .ref 0), (1, .int p), (2, .int 0), (3, .int (-1))] _ _ _
          refine J_iload_n (i := 1) (a := 1) rfl rfl (dk_X7_in 0 _ rfl) ?_
          refine J_iload_n (i := 2) (a := 2) rfl rfl (dk_X7_in 1 _ rfl) ?_
          refine J_icF (tgt := 14) (by decide) (dk_X7_in 2 _ rfl) (jI_nlt (rfl : (p : Int32).toInt = (p : Int32).toInt) (by decide : (0 : Int32).toInt = 0) (by omega)) ?_
          refine J_iload_n (i := 1) (a := 1) rfl rfl (dk_X7_in 5 _ rfl) ?_
          refine J_iload_n (i := 3) (a := 3) rfl rfl (dk_X7_in 6 _ rfl) ?_
          refine J_icT (tgt := 14) (by decide) (dk_X7_in 7 _ rfl) (jI_lt (by decide : ((-1) : Int32).toInt = (-1)) (rfl : (p : Int32).toInt = (p : Int32).toInt) (by omega)) ?_
          refine J_iconst (v := 0) (by decide) (dk_X7_in 14 _ rfl) ?_
          exact J_iret rfl rfl (dk_X7_in 15 _ rfl) ⟨rfl, rfl⟩
        show J _ _ _ _ _ _ _ _ _ [.int 0] _ _
        exact J_iret rfl rfl (dk_X7_isPerson 12 _ rfl) ⟨rfl, rfl⟩
      show J _ _ _ _ _ _ _ _ _ [.int 0] _ _
      refine J_ifT (tgt := 18) (by decide) (dk_X7_birth 5 _ rfl) (jI_eq (by decide : (0 : Int32).toInt = 0) (by decide : (0 : Int32).toInt = 0) (by omega)) ?_
      refine J_ldcw (v := (-10000001)) ct_7_291 (dk_X7_birth 18 _ rfl) ?_
      exact J_iret rfl rfl (dk_X7_birth 21 _ rfl) ⟨rfl, rfl⟩
set_option maxHeartbeats 4000000 in
set_option maxRecDepth 1000000 in
theorem o_plan (p : Int32) (w : Int32) : ∃ rv : Int32, jCt m_X6_plan 12 0 0 [.ref 0, .int p, .int w] hN0 (jA (.int rv) 94) ∧ jCt m_X7_plan 12 0 0 [.ref 0, .int p, .int w] hM0 (jA (.int rv) 37) := by
  have r_p := p.toInt_lt; have q_p := p.le_toInt
  have r_w := w.toInt_lt; have q_w := w.le_toInt
  by_cases c1 : (p : Int32).toInt < 0
  · refine ⟨(-10000001), ?_, ?_⟩
    · refine jCt_of ok_X6_plan (fun _ _ => Nat.le_of_ble_eq_true rfl) (fun _ _ hq => Nat.le_of_eq (lX.trans hq.2.symm)) ?_
      show J _ _ _ _ _ _ _ _ [(0, .ref 0), (1, .int p), (2, .int w)] _ _ _
      refine J_aload_n (i := 0) (a := 0) rfl rfl (dk_X6_plan 0 _ rfl) ?_
      refine J_iload_n (i := 1) (a := 1) rfl rfl (dk_X6_plan 1 _ rfl) ?_
      refine J_cV (rv := some (.int 0)) (h' := hN0) (d' := 11) (As := [.int p]) ok_X6_isPerson vi_X6_isPerson cl_6_79 (n := 1) (by decide +kernel) rfl rfl rfl rfl (by decide) (by decide) (dk_X6_plan 2 _ rfl) ?_ ?_
      · refine jCt_of ok_X6_isPerson (fun _ _ => Nat.le_of_ble_eq_true rfl) (fun _ _ hq => by rw [hq.2]; first | exact Nat.le_refl _ | simp) ?_
        show J _ _ _ _ _ _ _ _ [(0, .ref 0), (1, .int p)] _ _ _
        refine J_iload_n (i := 1) (a := 1) rfl rfl (dk_X6_isPerson 0 _ rfl) ?_
        refine J_ifT (tgt := 19) (by decide) (dk_X6_isPerson 1 _ rfl) (jI_lt (rfl : (p : Int32).toInt = (p : Int32).toInt) (by decide : (0 : Int32).toInt = 0) (by omega)) ?_
        refine J_iconst (v := 0) (by decide) (dk_X6_isPerson 19 _ rfl) ?_
        exact J_iret rfl rfl (dk_X6_isPerson 20 _ rfl) ⟨rfl, rfl⟩
      show J _ _ _ _ _ _ _ _ _ [.int 0] _ _
      refine J_ifT (tgt := 17) (by decide) (dk_X6_plan 5 _ rfl) (jI_eq (by decide : (0 : Int32).toInt = 0) (by decide : (0 : Int32).toInt = 0) (by omega)) ?_
      refine J_ldc (v := (-10000001)) ct_6_82 (dk_X6_plan 17 _ rfl) ?_
      exact J_iret rfl rfl (dk_X6_plan 19 _ rfl) ⟨rfl, rfl⟩
    · refine jCt_of ok_X7_plan (fun _ _ => Nat.le_of_ble_eq_true rfl) (fun _ _ hq => Nat.le_of_eq (lM.trans hq.2.symm)) ?_
      show J _ _ _ _ _ _ _ _ [(0, .ref 0), (1, .int p), (2, .int w)] _ _ _
      refine J_aload_n (i := 0) (a := 0) rfl rfl (dk_X7_plan 0 _ rfl) ?_
      refine J_iload_n (i := 1) (a := 1) rfl rfl (dk_X7_plan 1 _ rfl) ?_
      refine J_cV (rv := some (.int 0)) (h' := hM0) (d' := 11) (As := [.int p]) ok_X7_isPerson vi_X7_isPerson cl_7_206 (n := 1) (by decide +kernel) rfl rfl rfl rfl (by decide) (by decide) (dk_X7_plan 2 _ rfl) ?_ ?_
      · refine jCt_of ok_X7_isPerson (fun _ _ => Nat.le_of_ble_eq_true rfl) (fun _ _ hq => by rw [hq.2]; first | exact Nat.le_refl _ | simp) ?_
        show J _ _ _ _ _ _ _ _ [(0, .ref 0), (1, .int p)] _ _ _
        refine J_aload_n (i := 0) (a := 0) rfl rfl (dk_X7_isPerson 0 _ rfl) ?_
        refine J_iload_n (i := 1) (a := 1) rfl rfl (dk_X7_isPerson 1 _ rfl) ?_
        refine J_iconst (v := 0) (by decide) (dk_X7_isPerson 2 _ rfl) ?_
        refine J_aload_n (i := 0) (a := 0) rfl rfl (dk_X7_isPerson 3 _ rfl) ?_
        refine J_getf fl_7_7 rfl rfl (dk_X7_isPerson 4 _ rfl) ?_
        refine J_iconst (v := 1) (by decide) (dk_X7_isPerson 7 _ rfl) ?_
        refine J_isubC (v := (-1)) (by decide) (dk_X7_isPerson 8 _ rfl) ?_
        refine J_cV (rv := some (.int 0)) (h' := hM0) (d' := 10) (As := [.int p, .int 0, .int (-1)]) ok_X7_in vi_X7_in cl_7_194 (n := 3) (by decide +kernel) rfl rfl rfl rfl (by decide) (by decide) (dk_X7_isPerson 9 _ rfl) ?_ ?_
        · refine jCt_of ok_X7_in (fun _ _ => Nat.le_of_ble_eq_true rfl) (fun _ _ hq => by rw [hq.2]; first | exact Nat.le_refl _ | simp) ?_
          show J _ _ _ _ _ _ _ _ [(0, .ref 0), (1, .int p), (2, .int 0), (3, .int (-1))] _ _ _
          refine J_iload_n (i := 1) (a := 1) rfl rfl (dk_X7_in 0 _ rfl) ?_
          refine J_iload_n (i := 2) (a := 2) rfl rfl (dk_X7_in 1 _ rfl) ?_
          refine J_icT (tgt := 14) (by decide) (dk_X7_in 2 _ rfl) (jI_lt (rfl : (p : Int32).toInt = (p : Int32).toInt) (by decide : (0 : Int32).toInt = 0) (by omega)) ?_
          refine J_iconst (v := 0) (by decide) (dk_X7_in 14 _ rfl) ?_
          exact J_iret rfl rfl (dk_X7_in 15 _ rfl) ⟨rfl, rfl⟩
        show J _ _ _ _ _ _ _ _ _ [.int 0] _ _
        exact J_iret rfl rfl (dk_X7_isPerson 12 _ rfl) ⟨rfl, rfl⟩
      show J _ _ _ _ _ _ _ _ _ [.int 0] _ _
      refine J_ifT (tgt := 18) (by decide) (dk_X7_plan 5 _ rfl) (jI_eq (by decide : (0 : Int32).toInt = 0) (by decide : (0 : Int32).toInt = 0) (by omega)) ?_
      refine J_ldcw (v := (-10000001)) ct_7_291 (dk_X7_plan 18 _ rfl) ?_
      exact J_iret rfl rfl (dk_X7_plan 21 _ rfl) ⟨rfl, rfl⟩
  · refine ⟨(-10000001), ?_, ?_⟩
    · refine jCt_of ok_X6_plan (fun _ _ => Nat.le_of_ble_eq_true rfl) (fun _ _ hq => Nat.le_of_eq (lX.trans hq.2.symm)) ?_
      show J _ _ _ _ _ _ _ _ [(0, .ref 0), (1, .int p), (2, .int w)] _ _ _
      refine J_aload_n (i := 0) (a := 0) rfl rfl (dk_X6_plan 0 _ rfl) ?_
      refine J_iload_n (i := 1) (a := 1) rfl rfl (dk_X6_plan 1 _ rfl) ?_
      refine J_cV (rv := some (.int 0)) (h' := hN0) (d' := 11) (As := [.int p]) ok_X6_isPerson vi_X6_isPerson cl_6_79 (n := 1) (by decide +kernel) rfl rfl rfl rfl (by decide) (by decide) (dk_X6_plan 2 _ rfl) ?_ ?_
      · refine jCt_of ok_X6_isPerson (fun _ _ => Nat.le_of_ble_eq_true rfl) (fun _ _ hq => by rw [hq.2]; first | exact Nat.le_refl _ | simp) ?_
        show J _ _ _ _ _ _ _ _ [(0, .ref 0), (1, .int p)] _ _ _
        refine J_iload_n (i := 1) (a := 1) rfl rfl (dk_X6_isPerson 0 _ rfl) ?_
        refine J_ifF (tgt := 19) (by decide) (dk_X6_isPerson 1 _ rfl) (jI_nlt (rfl : (p : Int32).toInt = (p : Int32).toInt) (by decide : (0 : Int32).toInt = 0) (by omega)) ?_
        refine J_iload_n (i := 1) (a := 1) rfl rfl (dk_X6_isPerson 4 _ rfl) ?_
        refine J_aload_n (i := 0) (a := 0) rfl rfl (dk_X6_isPerson 5 _ rfl) ?_
        refine J_getf fl_6_47 rfl rfl (dk_X6_isPerson 6 _ rfl) ?_
        refine J_getf fl_6_71 rfl rfl (dk_X6_isPerson 9 _ rfl) ?_
        refine J_icT (tgt := 19) (by decide) (dk_X6_isPerson 12 _ rfl) (jI_le (by decide : (0 : Int32).toInt = 0) (rfl : (p : Int32).toInt = (p : Int32).toInt) (by omega)) ?_
        refine J_iconst (v := 0) (by decide) (dk_X6_isPerson 19 _ rfl) ?_
        exact J_iret rfl rfl (dk_X6_isPerson 20 _ rfl) ⟨rfl, rfl⟩
      show J _ _ _ _ _ _ _ _ _ [.int 0] _ _
      refine J_ifT (tgt := 17) (by decide) (dk_X6_plan 5 _ rfl) (jI_eq (by decide : (0 : Int32).toInt = 0) (by decide : (0 : Int32).toInt = 0) (by omega)) ?_
      refine J_ldc (v := (-10000001)) ct_6_82 (dk_X6_plan 17 _ rfl) ?_
      exact J_iret rfl rfl (dk_X6_plan 19 _ rfl) ⟨rfl, rfl⟩
    · refine jCt_of ok_X7_plan (fun _ _ => Nat.le_of_ble_eq_true rfl) (fun _ _ hq => Nat.le_of_eq (lM.trans hq.2.symm)) ?_
      show J _ _ _ _ _ _ _ _ [(0, .ref 0), (1, .int p), (2, .int w)] _ _ _
      refine J_aload_n (i := 0) (a := 0) rfl rfl (dk_X7_plan 0 _ rfl) ?_
      refine J_iload_n (i := 1) (a := 1) rfl rfl (dk_X7_plan 1 _ rfl) ?_
      refine J_cV (rv := some (.int 0)) (h' := hM0) (d' := 11) (As := [.int p]) ok_X7_isPerson vi_X7_isPerson cl_7_206 (n := 1) (by decide +kernel) rfl rfl rfl rfl (by decide) (by decide) (dk_X7_plan 2 _ rfl) ?_ ?_
      · refine jCt_of ok_X7_isPerson (fun _ _ => Nat.le_of_ble_eq_true rfl) (fun _ _ hq => by rw [hq.2]; first | exact Nat.le_refl _ | simp) ?_
        show J _ _ _ _ _ _ _ _ [(0, .ref 0), (1, .int p)] _ _ _
        refine J_aload_n (i := 0) (a := 0) rfl rfl (dk_X7_isPerson 0 _ rfl) ?_
        refine J_iload_n (i := 1) (a := 1) rfl rfl (dk_X7_isPerson 1 _ rfl) ?_
        refine J_iconst (v := 0) (by decide) (dk_X7_isPerson 2 _ rfl) ?_
        refine J_aload_n (i := 0) (a := 0) rfl rfl (dk_X7_isPerson 3 _ rfl) ?_
        refine J_getf fl_7_7 rfl rfl (dk_X7_isPerson 4 _ rfl) ?_
        refine J_iconst (v := 1) (by decide) (dk_X7_isPerson 7 _ rfl) ?_
        refine J_isubC (v := (-1)) (by decide) (dk_X7_isPerson 8 _ rfl) ?_
        refine J_cV (rv := some (.int 0)) (h' := hM0) (d' := 10) (As := [.int p, .int 0, .int (-1)]) ok_X7_in vi_X7_in cl_7_194 (n := 3) (by decide +kernel) rfl rfl rfl rfl (by decide) (by decide) (dk_X7_isPerson 9 _ rfl) ?_ ?_
        · refine jCt_of ok_X7_in (fun _ _ => Nat.le_of_ble_eq_true rfl) (fun _ _ hq => by rw [hq.2]; first | exact Nat.le_refl _ | simp) ?_
          show J _ _ _ _ _ _ _ _ [(0, .ref 0), (1, .int p), (2, .int 0), (3, .int (-1))] _ _ _
          refine J_iload_n (i := 1) (a := 1) rfl rfl (dk_X7_in 0 _ rfl) ?_
          refine J_iload_n (i := 2) (a := 2) rfl rfl (dk_X7_in 1 _ rfl) ?_
          refine J_icF (tgt := 14) (by decide) (dk_X7_in 2 _ rfl) (jI_nlt (rfl : (p : Int32).toInt = (p : Int32).toInt) (by decide : (0 : Int32).toInt = 0) (by omega)) ?_
          refine J_iload_n (i := 1) (a := 1) rfl rfl (dk_X7_in 5 _ rfl) ?_
          refine J_iload_n (i := 3) (a := 3) rfl rfl (dk_X7_in 6 _ rfl) ?_
          refine J_icT (tgt := 14) (by decide) (dk_X7_in 7 _ rfl) (jI_lt (by decide : ((-1) : Int32).toInt = (-1)) (rfl : (p : Int32).toInt = (p : Int32).toInt) (by omega)) ?_
          refine J_iconst (v := 0) (by decide) (dk_X7_in 14 _ rfl) ?_
          exact J_iret rfl rfl (dk_X7_in 15 _ rfl) ⟨rfl, rfl⟩
        show J _ _ _ _ _ _ _ _ _ [.int 0] _ _
        exact J_iret rfl rfl (dk_X7_isPerson 12 _ rfl) ⟨rfl, rfl⟩
      show J _ _ _ _ _ _ _ _ _ [.int 0] _ _
      refine J_ifT (tgt := 18) (by decide) (dk_X7_plan 5 _ rfl) (jI_eq (by decide : (0 : Int32).toInt = 0) (by decide : (0 : Int32).toInt = 0) (by omega)) ?_
      refine J_ldcw (v := (-10000001)) ct_7_291 (dk_X7_plan 18 _ rfl) ?_
      exact J_iret rfl rfl (dk_X7_plan 21 _ rfl) ⟨rfl, rfl⟩
set_option maxHeartbeats 4000000 in
set_option maxRecDepth 1000000 in
theorem o_change (p : Int32) : ∃ rv : Int32, jCt m_X6_change 12 0 0 [.ref 0, .int p] hN0 (jA (.int rv) 94) ∧ jCt m_X7_change 12 0 0 [.ref 0, .int p] hM0 (jA (.int rv) 37) := by
  have r_p := p.toInt_lt; have q_p := p.le_toInt
  by_cases c1 : (p : Int32).toInt < 0
  · refine ⟨(-1), ?_, ?_⟩
    · refine jCt_of ok_X6_change (fun _ _ => Nat.le_of_ble_eq_true rfl) (fun _ _ hq => Nat.le_of_eq (lX.trans hq.2.symm)) ?_
      show J _ _ _ _ _ _ _ _ [(0, .ref 0), (1, .int p)] _ _ _
      refine J_aload_n (i := 0) (a := 0) rfl rfl (dk_X6_change 0 _ rfl) ?_
      refine J_iload_n (i := 1) (a := 1) rfl rfl (dk_X6_change 1 _ rfl) ?_
      refine J_cV (rv := some (.int 0)) (h' := hN0) (d' := 11) (As := [.int p]) ok_X6_isPerson vi_X6_isPerson cl_6_79 (n := 1) (by decide +kernel) rfl rfl rfl rfl (by decide) (by decide) (dk_X6_change 2 _ rfl) ?_ ?_
      · refine jCt_of ok_X6_isPerson (fun _ _ => Nat.le_of_ble_eq_true rfl) (fun _ _ hq => by rw [hq.2]; first | exact Nat.le_refl _ | simp) ?_
        show J _ _ _ _ _ _ _ _ [(0, .ref 0), (1, .int p)] _ _ _
        refine J_iload_n (i := 1) (a := 1) rfl rfl (dk_X6_isPerson 0 _ rfl) ?_
        refine J_ifT (tgt := 19) (by decide) (dk_X6_isPerson 1 _ rfl) (jI_lt (rfl : (p : Int32).toInt = (p : Int32).toInt) (by decide : (0 : Int32).toInt = 0) (by omega)) ?_
        refine J_iconst (v := 0) (by decide) (dk_X6_isPerson 19 _ rfl) ?_
        exact J_iret rfl rfl (dk_X6_isPerson 20 _ rfl) ⟨rfl, rfl⟩
      show J _ _ _ _ _ _ _ _ _ [.int 0] _ _
      refine J_ifF (tgt := 10) (by decide) (dk_X6_change 5 _ rfl) (fun z => z (jI_eq (by decide : (0 : Int32).toInt = 0) (by decide : (0 : Int32).toInt = 0) (by omega))) ?_
      refine J_iconst (v := (-1)) (by decide) (dk_X6_change 8 _ rfl) ?_
      exact J_iret rfl rfl (dk_X6_change 9 _ rfl) ⟨rfl, rfl⟩
    · refine jCt_of ok_X7_change (fun _ _ => Nat.le_of_ble_eq_true rfl) (fun _ _ hq => Nat.le_of_eq (lM.trans hq.2.symm)) ?_
      show J _ _ _ _ _ _ _ _ [(0, .ref 0), (1, .int p)] _ _ _
      refine J_aload_n (i := 0) (a := 0) rfl rfl (dk_X7_change 0 _ rfl) ?_
      refine J_iload_n (i := 1) (a := 1) rfl rfl (dk_X7_change 1 _ rfl) ?_
      refine J_cV (rv := some (.int 0)) (h' := hM0) (d' := 11) (As := [.int p]) ok_X7_isPerson vi_X7_isPerson cl_7_206 (n := 1) (by decide +kernel) rfl rfl rfl rfl (by decide) (by decide) (dk_X7_change 2 _ rfl) ?_ ?_
      · refine jCt_of ok_X7_isPerson (fun _ _ => Nat.le_of_ble_eq_true rfl) (fun _ _ hq => by rw [hq.2]; first | exact Nat.le_refl _ | simp) ?_
        show J _ _ _ _ _ _ _ _ [(0, .ref 0), (1, .int p)] _ _ _
        refine J_aload_n (i := 0) (a := 0) rfl rfl (dk_X7_isPerson 0 _ rfl) ?_
        refine J_iload_n (i := 1) (a := 1) rfl rfl (dk_X7_isPerson 1 _ rfl) ?_
        refine J_iconst (v := 0) (by decide) (dk_X7_isPerson 2 _ rfl) ?_
        refine J_aload_n (i := 0) (a := 0) rfl rfl (dk_X7_isPerson 3 _ rfl) ?_
        refine J_getf fl_7_7 rfl rfl (dk_X7_isPerson 4 _ rfl) ?_
        refine J_iconst (v := 1) (by decide) (dk_X7_isPerson 7 _ rfl) ?_
        refine J_isubC (v := (-1)) (by decide) (dk_X7_isPerson 8 _ rfl) ?_
        refine J_cV (rv := some (.int 0)) (h' := hM0) (d' := 10) (As := [.int p, .int 0, .int (-1)]) ok_X7_in vi_X7_in cl_7_194 (n := 3) (by decide +kernel) rfl rfl rfl rfl (by decide) (by decide) (dk_X7_isPerson 9 _ rfl) ?_ ?_
        · refine jCt_of ok_X7_in (fun _ _ => Nat.le_of_ble_eq_true rfl) (fun _ _ hq => by rw [hq.2]; first | exact Nat.le_refl _ | simp) ?_
          show J _ _ _ _ _ _ _ _ [(0, .ref 0), (1, .int p), (2, .int 0), (3, .int (-1))] _ _ _
          refine J_iload_n (i := 1) (a := 1) rfl rfl (dk_X7_in 0 _ rfl) ?_
          refine J_iload_n (i := 2) (a := 2) rfl rfl (dk_X7_in 1 _ rfl) ?_
          refine J_icT (tgt := 14) (by decide) (dk_X7_in 2 _ rfl) (jI_lt (rfl : (p : Int32).toInt = (p : Int32).toInt) (by decide : (0 : Int32).toInt = 0) (by omega)) ?_
          refine J_iconst (v := 0) (by decide) (dk_X7_in 14 _ rfl) ?_
          exact J_iret rfl rfl (dk_X7_in 15 _ rfl) ⟨rfl, rfl⟩
        show J _ _ _ _ _ _ _ _ _ [.int 0] _ _
        exact J_iret rfl rfl (dk_X7_isPerson 12 _ rfl) ⟨rfl, rfl⟩
      show J _ _ _ _ _ _ _ _ _ [.int 0] _ _
      refine J_ifF (tgt := 12) (by decide) (dk_X7_change 5 _ rfl) (fun z => z (jI_eq (by decide : (0 : Int32).toInt = 0) (by decide : (0 : Int32).toInt = 0) (by omega))) ?_
      refine J_iconst (v := (-1)) (by decide) (dk_X7_change 8 _ rfl) ?_
      refine J_goto (tgt := 25) (by decide) (dk_X7_change 9 _ rfl) ?_
      exact J_iret rfl rfl (dk_X7_change 25 _ rfl) ⟨rfl, rfl⟩
  · refine ⟨(-1), ?_, ?_⟩
    · refine jCt_of ok_X6_change (fun _ _ => Nat.le_of_ble_eq_true rfl) (fun _ _ hq => Nat.le_of_eq (lX.trans hq.2.symm)) ?_
      show J _ _ _ _ _ _ _ _ [(0, .ref 0), (1, .int p)] _ _ _
      refine J_aload_n (i := 0) (a := 0) rfl rfl (dk_X6_change 0 _ rfl) ?_
      refine J_iload_n (i := 1) (a := 1) rfl rfl (dk_X6_change 1 _ rfl) ?_
      refine J_cV (rv := some (.int 0)) (h' := hN0) (d' := 11) (As := [.int p]) ok_X6_isPerson vi_X6_isPerson cl_6_79 (n := 1) (by decide +kernel) rfl rfl rfl rfl (by decide) (by decide) (dk_X6_change 2 _ rfl) ?_ ?_
      · refine jCt_of ok_X6_isPerson (fun _ _ => Nat.le_of_ble_eq_true rfl) (fun _ _ hq => by rw [hq.2]; first | exact Nat.le_refl _ | simp) ?_
        show J _ _ _ _ _ _ _ _ [(0, .ref 0), (1, .int p)] _ _ _
        refine J_iload_n (i := 1) (a := 1) rfl rfl (dk_X6_isPerson 0 _ rfl) ?_
        refine J_ifF (tgt := 19) (by decide) (dk_X6_isPerson 1 _ rfl) (jI_nlt (rfl : (p : Int32).toInt = (p : Int32).toInt) (by decide : (0 : Int32).toInt = 0) (by omega)) ?_
        refine J_iload_n (i := 1) (a := 1) rfl rfl (dk_X6_isPerson 4 _ rfl) ?_
        refine J_aload_n (i := 0) (a := 0) rfl rfl (dk_X6_isPerson 5 _ rfl) ?_
        refine J_getf fl_6_47 rfl rfl (dk_X6_isPerson 6 _ rfl) ?_
        refine J_getf fl_6_71 rfl rfl (dk_X6_isPerson 9 _ rfl) ?_
        refine J_icT (tgt := 19) (by decide) (dk_X6_isPerson 12 _ rfl) (jI_le (by decide : (0 : Int32).toInt = 0) (rfl : (p : Int32).toInt = (p : Int32).toInt) (by omega)) ?_
        refine J_iconst (v := 0) (by decide) (dk_X6_isPerson 19 _ rfl) ?_
        exact J_iret rfl rfl (dk_X6_isPerson 20 _ rfl) ⟨rfl, rfl⟩
      show J _ _ _ _ _ _ _ _ _ [.int 0] _ _
      refine J_ifF (tgt := 10) (by decide) (dk_X6_change 5 _ rfl) (fun z => z (jI_eq (by decide : (0 : Int32).toInt = 0) (by decide : (0 : Int32).toInt = 0) (by omega))) ?_
      refine J_iconst (v := (-1)) (by decide) (dk_X6_change 8 _ rfl) ?_
      exact J_iret rfl rfl (dk_X6_change 9 _ rfl) ⟨rfl, rfl⟩
    · refine jCt_of ok_X7_change (fun _ _ => Nat.le_of_ble_eq_true rfl) (fun _ _ hq => Nat.le_of_eq (lM.trans hq.2.symm)) ?_
      show J _ _ _ _ _ _ _ _ [(0, .ref 0), (1, .int p)] _ _ _
      refine J_aload_n (i := 0) (a := 0) rfl rfl (dk_X7_change 0 _ rfl) ?_
      refine J_iload_n (i := 1) (a := 1) rfl rfl (dk_X7_change 1 _ rfl) ?_
      refine J_cV (rv := some (.int 0)) (h' := hM0) (d' := 11) (As := [.int p]) ok_X7_isPerson vi_X7_isPerson cl_7_206 (n := 1) (by decide +kernel) rfl rfl rfl rfl (by decide) (by decide) (dk_X7_change 2 _ rfl) ?_ ?_
      · refine jCt_of ok_X7_isPerson (fun _ _ => Nat.le_of_ble_eq_true rfl) (fun _ _ hq => by rw [hq.2]; first | exact Nat.le_refl _ | simp) ?_
        show J _ _ _ _ _ _ _ _ [(0, .ref 0), (1, .int p)] _ _ _
        refine J_aload_n (i := 0) (a := 0) rfl rfl (dk_X7_isPerson 0 _ rfl) ?_
        refine J_iload_n (i := 1) (a := 1) rfl rfl (dk_X7_isPerson 1 _ rfl) ?_
        refine J_iconst (v := 0) (by decide) (dk_X7_isPerson 2 _ rfl) ?_
        refine J_aload_n (i := 0) (a := 0) rfl rfl (dk_X7_isPerson 3 _ rfl) ?_
        refine J_getf fl_7_7 rfl rfl (dk_X7_isPerson 4 _ rfl) ?_
        refine J_iconst (v := 1) (by decide) (dk_X7_isPerson 7 _ rfl) ?_
        refine J_isubC (v := (-1)) (by decide) (dk_X7_isPerson 8 _ rfl) ?_
        refine J_cV (rv := some (.int 0)) (h' := hM0) (d' := 10) (As := [.int p, .int 0, .int (-1)]) ok_X7_in vi_X7_in cl_7_194 (n := 3) (by decide +kernel) rfl rfl rfl rfl (by decide) (by decide) (dk_X7_isPerson 9 _ rfl) ?_ ?_
        · refine jCt_of ok_X7_in (fun _ _ => Nat.le_of_ble_eq_true rfl) (fun _ _ hq => by rw [hq.2]; first | exact Nat.le_refl _ | simp) ?_
          show J _ _ _ _ _ _ _ _ [(0, .ref 0), (1, .int p), (2, .int 0), (3, .int (-1))] _ _ _
          refine J_iload_n (i := 1) (a := 1) rfl rfl (dk_X7_in 0 _ rfl) ?_
          refine J_iload_n (i := 2) (a := 2) rfl rfl (dk_X7_in 1 _ rfl) ?_
          refine J_icF (tgt := 14) (by decide) (dk_X7_in 2 _ rfl) (jI_nlt (rfl : (p : Int32).toInt = (p : Int32).toInt) (by decide : (0 : Int32).toInt = 0) (by omega)) ?_
          refine J_iload_n (i := 1) (a := 1) rfl rfl (dk_X7_in 5 _ rfl) ?_
          refine J_iload_n (i := 3) (a := 3) rfl rfl (dk_X7_in 6 _ rfl) ?_
          refine J_icT (tgt := 14) (by decide) (dk_X7_in 7 _ rfl) (jI_lt (by decide : ((-1) : Int32).toInt = (-1)) (rfl : (p : Int32).toInt = (p : Int32).toInt) (by omega)) ?_
          refine J_iconst (v := 0) (by decide) (dk_X7_in 14 _ rfl) ?_
          exact J_iret rfl rfl (dk_X7_in 15 _ rfl) ⟨rfl, rfl⟩
        show J _ _ _ _ _ _ _ _ _ [.int 0] _ _
        exact J_iret rfl rfl (dk_X7_isPerson 12 _ rfl) ⟨rfl, rfl⟩
      show J _ _ _ _ _ _ _ _ _ [.int 0] _ _
      refine J_ifF (tgt := 12) (by decide) (dk_X7_change 5 _ rfl) (fun z => z (jI_eq (by decide : (0 : Int32).toInt = 0) (by decide : (0 : Int32).toInt = 0) (by omega))) ?_
      refine J_iconst (v := (-1)) (by decide) (dk_X7_change 8 _ rfl) ?_
      refine J_goto (tgt := 25) (by decide) (dk_X7_change 9 _ rfl) ?_
      exact J_iret rfl rfl (dk_X7_change 25 _ rfl) ⟨rfl, rfl⟩
set_option maxHeartbeats 4000000 in
set_option maxRecDepth 1000000 in
theorem o_high (p : Int32) : ∃ rv : Int32, jCt m_X6_high 12 0 0 [.ref 0, .int p] hN0 (jA (.int rv) 94) ∧ jCt m_X7_high 12 0 0 [.ref 0, .int p] hM0 (jA (.int rv) 37) := by
  have r_p := p.toInt_lt; have q_p := p.le_toInt
  by_cases c1 : (p : Int32).toInt < 0
  · refine ⟨(-1), ?_, ?_⟩
    · refine jCt_of ok_X6_high (fun _ _ => Nat.le_of_ble_eq_true rfl) (fun _ _ hq => Nat.le_of_eq (lX.trans hq.2.symm)) ?_
      show J _ _ _ _ _ _ _ _ [(0, .ref 0), (1, .int p)] _ _ _
      refine J_aload_n (i := 0) (a := 0) rfl rfl (dk_X6_high 0 _ rfl) ?_
      refine J_iload_n (i := 1) (a := 1) rfl rfl (dk_X6_high 1 _ rfl) ?_
      refine J_cV (rv := some (.int 0)) (h' := hN0) (d' := 11) (As := [.int p]) ok_X6_isPerson vi_X6_isPerson cl_6_79 (n := 1) (by decide +kernel) rfl rfl rfl rfl (by decide) (by decide) (dk_X6_high 2 _ rfl) ?_ ?_
      · refine jCt_of ok_X6_isPerson (fun _ _ => Nat.le_of_ble_eq_true rfl) (fun _ _ hq => by rw [hq.2]; first | exact Nat.le_refl _ | simp) ?_
        show J _ _ _ _ _ _ _ _ [(0, .ref 0), (1, .int p)] _ _ _
        refine J_iload_n (i := 1) (a := 1) rfl rfl (dk_X6_isPerson 0 _ rfl) ?_
        refine J_ifT (tgt := 19) (by decide) (dk_X6_isPerson 1 _ rfl) (jI_lt (rfl : (p : Int32).toInt = (p : Int32).toInt) (by decide : (0 : Int32).toInt = 0) (by omega)) ?_
        refine J_iconst (v := 0) (by decide) (dk_X6_isPerson 19 _ rfl) ?_
        exact J_iret rfl rfl (dk_X6_isPerson 20 _ rfl) ⟨rfl, rfl⟩
      show J _ _ _ _ _ _ _ _ _ [.int 0] _ _
      refine J_ifF (tgt := 10) (by decide) (dk_X6_high 5 _ rfl) (fun z => z (jI_eq (by decide : (0 : Int32).toInt = 0) (by decide : (0 : Int32).toInt = 0) (by omega))) ?_
      refine J_iconst (v := (-1)) (by decide) (dk_X6_high 8 _ rfl) ?_
      exact J_iret rfl rfl (dk_X6_high 9 _ rfl) ⟨rfl, rfl⟩
    · refine jCt_of ok_X7_high (fun _ _ => Nat.le_of_ble_eq_true rfl) (fun _ _ hq => Nat.le_of_eq (lM.trans hq.2.symm)) ?_
      show J _ _ _ _ _ _ _ _ [(0, .ref 0), (1, .int p)] _ _ _
      refine J_aload_n (i := 0) (a := 0) rfl rfl (dk_X7_high 0 _ rfl) ?_
      refine J_iload_n (i := 1) (a := 1) rfl rfl (dk_X7_high 1 _ rfl) ?_
      refine J_cV (rv := some (.int 0)) (h' := hM0) (d' := 11) (As := [.int p]) ok_X7_isPerson vi_X7_isPerson cl_7_206 (n := 1) (by decide +kernel) rfl rfl rfl rfl (by decide) (by decide) (dk_X7_high 2 _ rfl) ?_ ?_
      · refine jCt_of ok_X7_isPerson (fun _ _ => Nat.le_of_ble_eq_true rfl) (fun _ _ hq => by rw [hq.2]; first | exact Nat.le_refl _ | simp) ?_
        show J _ _ _ _ _ _ _ _ [(0, .ref 0), (1, .int p)] _ _ _
        refine J_aload_n (i := 0) (a := 0) rfl rfl (dk_X7_isPerson 0 _ rfl) ?_
        refine J_iload_n (i := 1) (a := 1) rfl rfl (dk_X7_isPerson 1 _ rfl) ?_
        refine J_iconst (v := 0) (by decide) (dk_X7_isPerson 2 _ rfl) ?_
        refine J_aload_n (i := 0) (a := 0) rfl rfl (dk_X7_isPerson 3 _ rfl) ?_
        refine J_getf fl_7_7 rfl rfl (dk_X7_isPerson 4 _ rfl) ?_
        refine J_iconst (v := 1) (by decide) (dk_X7_isPerson 7 _ rfl) ?_
        refine J_isubC (v := (-1)) (by decide) (dk_X7_isPerson 8 _ rfl) ?_
        refine J_cV (rv := some (.int 0)) (h' := hM0) (d' := 10) (As := [.int p, .int 0, .int (-1)]) ok_X7_in vi_X7_in cl_7_194 (n := 3) (by decide +kernel) rfl rfl rfl rfl (by decide) (by decide) (dk_X7_isPerson 9 _ rfl) ?_ ?_
        · refine jCt_of ok_X7_in (fun _ _ => Nat.le_of_ble_eq_true rfl) (fun _ _ hq => by rw [hq.2]; first | exact Nat.le_refl _ | simp) ?_
          show J _ _ _ _ _ _ _ _ [(0, .ref 0), (1, .int p), (2, .int 0), (3, .int (-1))] _ _ _
          refine J_iload_n (i := 1) (a := 1) rfl rfl (dk_X7_in 0 _ rfl) ?_
          refine J_iload_n (i := 2) (a := 2) rfl rfl (dk_X7_in 1 _ rfl) ?_
          refine J_icT (tgt := 14) (by decide) (dk_X7_in 2 _ rfl) (jI_lt (rfl : (p : Int32).toInt = (p : Int32).toInt) (by decide : (0 : Int32).toInt = 0) (by omega)) ?_
          refine J_iconst (v := 0) (by decide) (dk_X7_in 14 _ rfl) ?_
          exact J_iret rfl rfl (dk_X7_in 15 _ rfl) ⟨rfl, rfl⟩
        show J _ _ _ _ _ _ _ _ _ [.int 0] _ _
        exact J_iret rfl rfl (dk_X7_isPerson 12 _ rfl) ⟨rfl, rfl⟩
      show J _ _ _ _ _ _ _ _ _ [.int 0] _ _
      refine J_ifF (tgt := 10) (by decide) (dk_X7_high 5 _ rfl) (fun z => z (jI_eq (by decide : (0 : Int32).toInt = 0) (by decide : (0 : Int32).toInt = 0) (by omega))) ?_
      refine J_iconst (v := (-1)) (by decide) (dk_X7_high 8 _ rfl) ?_
      exact J_iret rfl rfl (dk_X7_high 9 _ rfl) ⟨rfl, rfl⟩
  · refine ⟨(-1), ?_, ?_⟩
    · refine jCt_of ok_X6_high (fun _ _ => Nat.le_of_ble_eq_true rfl) (fun _ _ hq => Nat.le_of_eq (lX.trans hq.2.symm)) ?_
      show J _ _ _ _ _ _ _ _ [(0, .ref 0), (1, .int p)] _ _ _
      refine J_aload_n (i := 0) (a := 0) rfl rfl (dk_X6_high 0 _ rfl) ?_
      refine J_iload_n (i := 1) (a := 1) rfl rfl (dk_X6_high 1 _ rfl) ?_
      refine J_cV (rv := some (.int 0)) (h' := hN0) (d' := 11) (As := [.int p]) ok_X6_isPerson vi_X6_isPerson cl_6_79 (n := 1) (by decide +kernel) rfl rfl rfl rfl (by decide) (by decide) (dk_X6_high 2 _ rfl) ?_ ?_
      · refine jCt_of ok_X6_isPerson (fun _ _ => Nat.le_of_ble_eq_true rfl) (fun _ _ hq => by rw [hq.2]; first | exact Nat.le_refl _ | simp) ?_
        show J _ _ _ _ _ _ _ _ [(0, .ref 0), (1, .int p)] _ _ _
        refine J_iload_n (i := 1) (a := 1) rfl rfl (dk_X6_isPerson 0 _ rfl) ?_
        refine J_ifF (tgt := 19) (by decide) (dk_X6_isPerson 1 _ rfl) (jI_nlt (rfl : (p : Int32).toInt = (p : Int32).toInt) (by decide : (0 : Int32).toInt = 0) (by omega)) ?_
        refine J_iload_n (i := 1) (a := 1) rfl rfl (dk_X6_isPerson 4 _ rfl) ?_
        refine J_aload_n (i := 0) (a := 0) rfl rfl (dk_X6_isPerson 5 _ rfl) ?_
        refine J_getf fl_6_47 rfl rfl (dk_X6_isPerson 6 _ rfl) ?_
        refine J_getf fl_6_71 rfl rfl (dk_X6_isPerson 9 _ rfl) ?_
        refine J_icT (tgt := 19) (by decide) (dk_X6_isPerson 12 _ rfl) (jI_le (by decide : (0 : Int32).toInt = 0) (rfl : (p : Int32).toInt = (p : Int32).toInt) (by omega)) ?_
        refine J_iconst (v := 0) (by decide) (dk_X6_isPerson 19 _ rfl) ?_
        exact J_iret rfl rfl (dk_X6_isPerson 20 _ rfl) ⟨rfl, rfl⟩
      show J _ _ _ _ _ _ _ _ _ [.int 0] _ _
      refine J_ifF (tgt := 10) (by decide) (dk_X6_high 5 _ rfl) (fun z => z (jI_eq (by decide : (0 : Int32).toInt = 0) (by decide : (0 : Int32).toInt = 0) (by omega))) ?_
      refine J_iconst (v := (-1)) (by decide) (dk_X6_high 8 _ rfl) ?_
      exact J_iret rfl rfl (dk_X6_high 9 _ rfl) ⟨rfl, rfl⟩
    · refine jCt_of ok_X7_high (fun _ _ => Nat.le_of_ble_eq_true rfl) (fun _ _ hq => Nat.le_of_eq (lM.trans hq.2.symm)) ?_
      show J _ _ _ _ _ _ _ _ [(0, .ref 0), (1, .int p)] _ _ _
      refine J_aload_n (i := 0) (a := 0) rfl rfl (dk_X7_high 0 _ rfl) ?_
      refine J_iload_n (i := 1) (a := 1) rfl rfl (dk_X7_high 1 _ rfl) ?_
      refine J_cV (rv := some (.int 0)) (h' := hM0) (d' := 11) (As := [.int p]) ok_X7_isPerson vi_X7_isPerson cl_7_206 (n := 1) (by decide +kernel) rfl rfl rfl rfl (by decide) (by decide) (dk_X7_high 2 _ rfl) ?_ ?_
      · refine jCt_of ok_X7_isPerson (fun _ _ => Nat.le_of_ble_eq_true rfl) (fun _ _ hq => by rw [hq.2]; first | exact Nat.le_refl _ | simp) ?_
        show J _ _ _ _ _ _ _ _ [(0, .ref 0), (1, .int p)] _ _ _
        refine J_aload_n (i := 0) (a := 0) rfl rfl (dk_X7_isPerson 0 _ rfl) ?_
        refine J_iload_n (i := 1) (a := 1) rfl rfl (dk_X7_isPerson 1 _ rfl) ?_
        refine J_iconst (v := 0) (by decide) (dk_X7_isPerson 2 _ rfl) ?_
        refine J_aload_n (i := 0) (a := 0) rfl rfl (dk_X7_isPerson 3 _ rfl) ?_
        refine J_getf fl_7_7 rfl rfl (dk_X7_isPerson 4 _ rfl) ?_
        refine J_iconst (v := 1) (by decide) (dk_X7_isPerson 7 _ rfl) ?_
        refine J_isubC (v := (-1)) (by decide) (dk_X7_isPerson 8 _ rfl) ?_
        refine J_cV (rv := some (.int 0)) (h' := hM0) (d' := 10) (As := [.int p, .int 0, .int (-1)]) ok_X7_in vi_X7_in cl_7_194 (n := 3) (by decide +kernel) rfl rfl rfl rfl (by decide) (by decide) (dk_X7_isPerson 9 _ rfl) ?_ ?_
        · refine jCt_of ok_X7_in (fun _ _ => Nat.le_of_ble_eq_true rfl) (fun _ _ hq => by rw [hq.2]; first | exact Nat.le_refl _ | simp) ?_
          show J _ _ _ _ _ _ _ _ [(0, .ref 0), (1, .int p), (2, .int 0), (3, .int (-1))] _ _ _
          refine J_iload_n (i := 1) (a := 1) rfl rfl (dk_X7_in 0 _ rfl) ?_
          refine J_iload_n (i := 2) (a := 2) rfl rfl (dk_X7_in 1 _ rfl) ?_
          refine J_icF (tgt := 14) (by decide) (dk_X7_in 2 _ rfl) (jI_nlt (rfl : (p : Int32).toInt = (p : Int32).toInt) (by decide : (0 : Int32).toInt = 0) (by omega)) ?_
          refine J_iload_n (i := 1) (a := 1) rfl rfl (dk_X7_in 5 _ rfl) ?_
          refine J_iload_n (i := 3) (a := 3) rfl rfl (dk_X7_in 6 _ rfl) ?_
          refine J_icT (tgt := 14) (by decide) (dk_X7_in 7 _ rfl) (jI_lt (by decide : ((-1) : Int32).toInt = (-1)) (rfl : (p : Int32).toInt = (p : Int32).toInt) (by omega)) ?_
          refine J_iconst (v := 0) (by decide) (dk_X7_in 14 _ rfl) ?_
          exact J_iret rfl rfl (dk_X7_in 15 _ rfl) ⟨rfl, rfl⟩
        show J _ _ _ _ _ _ _ _ _ [.int 0] _ _
        exact J_iret rfl rfl (dk_X7_isPerson 12 _ rfl) ⟨rfl, rfl⟩
      show J _ _ _ _ _ _ _ _ _ [.int 0] _ _
      refine J_ifF (tgt := 10) (by decide) (dk_X7_high 5 _ rfl) (fun z => z (jI_eq (by decide : (0 : Int32).toInt = 0) (by decide : (0 : Int32).toInt = 0) (by omega))) ?_
      refine J_iconst (v := (-1)) (by decide) (dk_X7_high 8 _ rfl) ?_
      exact J_iret rfl rfl (dk_X7_high 9 _ rfl) ⟨rfl, rfl⟩
set_option maxHeartbeats 4000000 in
set_option maxRecDepth 1000000 in
theorem o_last (p : Int32) : ∃ rv : Int32, jCt m_X6_last 12 0 0 [.ref 0, .int p] hN0 (jA (.int rv) 94) ∧ jCt m_X7_last 12 0 0 [.ref 0, .int p] hM0 (jA (.int rv) 37) := by
  have r_p := p.toInt_lt; have q_p := p.le_toInt
  by_cases c1 : (p : Int32).toInt < 0
  · refine ⟨(-10000001), ?_, ?_⟩
    · refine jCt_of ok_X6_last (fun _ _ => Nat.le_of_ble_eq_true rfl) (fun _ _ hq => Nat.le_of_eq (lX.trans hq.2.symm)) ?_
      show J _ _ _ _ _ _ _ _ [(0, .ref 0), (1, .int p)] _ _ _
      refine J_aload_n (i := 0) (a := 0) rfl rfl (dk_X6_last 0 _ rfl) ?_
      refine J_iload_n (i := 1) (a := 1) rfl rfl (dk_X6_last 1 _ rfl) ?_
      refine J_cV (rv := some (.int 0)) (h' := hN0) (d' := 11) (As := [.int p]) ok_X6_isPerson vi_X6_isPerson cl_6_79 (n := 1) (by decide +kernel) rfl rfl rfl rfl (by decide) (by decide) (dk_X6_last 2 _ rfl) ?_ ?_
      · refine jCt_of ok_X6_isPerson (fun _ _ => Nat.le_of_ble_eq_true rfl) (fun _ _ hq => by rw [hq.2]; first | exact Nat.le_refl _ | simp) ?_
        show J _ _ _ _ _ _ _ _ [(0, .ref 0), (1, .int p)] _ _ _
        refine J_iload_n (i := 1) (a := 1) rfl rfl (dk_X6_isPerson 0 _ rfl) ?_
        refine J_ifT (tgt := 19) (by decide) (dk_X6_isPerson 1 _ rfl) (jI_lt (rfl : (p : Int32).toInt = (p : Int32).toInt) (by decide : (0 : Int32).toInt = 0) (by omega)) ?_
        refine J_iconst (v := 0) (by decide) (dk_X6_isPerson 19 _ rfl) ?_
        exact J_iret rfl rfl (dk_X6_isPerson 20 _ rfl) ⟨rfl, rfl⟩
      show J _ _ _ _ _ _ _ _ _ [.int 0] _ _
      refine J_ifF (tgt := 11) (by decide) (dk_X6_last 5 _ rfl) (fun z => z (jI_eq (by decide : (0 : Int32).toInt = 0) (by decide : (0 : Int32).toInt = 0) (by omega))) ?_
      refine J_ldc (v := (-10000001)) ct_6_82 (dk_X6_last 8 _ rfl) ?_
      exact J_iret rfl rfl (dk_X6_last 10 _ rfl) ⟨rfl, rfl⟩
    · refine jCt_of ok_X7_last (fun _ _ => Nat.le_of_ble_eq_true rfl) (fun _ _ hq => Nat.le_of_eq (lM.trans hq.2.symm)) ?_
      show J _ _ _ _ _ _ _ _ [(0, .ref 0), (1, .int p)] _ _ _
      refine J_aload_n (i := 0) (a := 0) rfl rfl (dk_X7_last 0 _ rfl) ?_
      refine J_iload_n (i := 1) (a := 1) rfl rfl (dk_X7_last 1 _ rfl) ?_
      refine J_cV (rv := some (.int 0)) (h' := hM0) (d' := 11) (As := [.int p]) ok_X7_isPerson vi_X7_isPerson cl_7_206 (n := 1) (by decide +kernel) rfl rfl rfl rfl (by decide) (by decide) (dk_X7_last 2 _ rfl) ?_ ?_
      · refine jCt_of ok_X7_isPerson (fun _ _ => Nat.le_of_ble_eq_true rfl) (fun _ _ hq => by rw [hq.2]; first | exact Nat.le_refl _ | simp) ?_
        show J _ _ _ _ _ _ _ _ [(0, .ref 0), (1, .int p)] _ _ _
        refine J_aload_n (i := 0) (a := 0) rfl rfl (dk_X7_isPerson 0 _ rfl) ?_
        refine J_iload_n (i := 1) (a := 1) rfl rfl (dk_X7_isPerson 1 _ rfl) ?_
        refine J_iconst (v := 0) (by decide) (dk_X7_isPerson 2 _ rfl) ?_
        refine J_aload_n (i := 0) (a := 0) rfl rfl (dk_X7_isPerson 3 _ rfl) ?_
        refine J_getf fl_7_7 rfl rfl (dk_X7_isPerson 4 _ rfl) ?_
        refine J_iconst (v := 1) (by decide) (dk_X7_isPerson 7 _ rfl) ?_
        refine J_isubC (v := (-1)) (by decide) (dk_X7_isPerson 8 _ rfl) ?_
        refine J_cV (rv := some (.int 0)) (h' := hM0) (d' := 10) (As := [.int p, .int 0, .int (-1)]) ok_X7_in vi_X7_in cl_7_194 (n := 3) (by decide +kernel) rfl rfl rfl rfl (by decide) (by decide) (dk_X7_isPerson 9 _ rfl) ?_ ?_
        · refine jCt_of ok_X7_in (fun _ _ => Nat.le_of_ble_eq_true rfl) (fun _ _ hq => by rw [hq.2]; first | exact Nat.le_refl _ | simp) ?_
          show J _ _ _ _ _ _ _ _ [(0, .ref 0), (1, .int p), (2, .int 0), (3, .int (-1))] _ _ _
          refine J_iload_n (i := 1) (a := 1) rfl rfl (dk_X7_in 0 _ rfl) ?_
          refine J_iload_n (i := 2) (a := 2) rfl rfl (dk_X7_in 1 _ rfl) ?_
          refine J_icT (tgt := 14) (by decide) (dk_X7_in 2 _ rfl) (jI_lt (rfl : (p : Int32).toInt = (p : Int32).toInt) (by decide : (0 : Int32).toInt = 0) (by omega)) ?_
          refine J_iconst (v := 0) (by decide) (dk_X7_in 14 _ rfl) ?_
          exact J_iret rfl rfl (dk_X7_in 15 _ rfl) ⟨rfl, rfl⟩
        show J _ _ _ _ _ _ _ _ _ [.int 0] _ _
        exact J_iret rfl rfl (dk_X7_isPerson 12 _ rfl) ⟨rfl, rfl⟩
      show J _ _ _ _ _ _ _ _ _ [.int 0] _ _
      refine J_ifF (tgt := 12) (by decide) (dk_X7_last 5 _ rfl) (fun z => z (jI_eq (by decide : (0 : Int32).toInt = 0) (by decide : (0 : Int32).toInt = 0) (by omega))) ?_
      refine J_ldcw (v := (-10000001)) ct_7_291 (dk_X7_last 8 _ rfl) ?_
      exact J_iret rfl rfl (dk_X7_last 11 _ rfl) ⟨rfl, rfl⟩
  · refine ⟨(-10000001), ?_, ?_⟩
    · refine jCt_of ok_X6_last (fun _ _ => Nat.le_of_ble_eq_true rfl) (fun _ _ hq => Nat.le_of_eq (lX.trans hq.2.symm)) ?_
      show J _ _ _ _ _ _ _ _ [(0, .ref 0), (1, .int p)] _ _ _
      refine J_aload_n (i := 0) (a := 0) rfl rfl (dk_X6_last 0 _ rfl) ?_
      refine J_iload_n (i := 1) (a := 1) rfl rfl (dk_X6_last 1 _ rfl) ?_
      refine J_cV (rv := some (.int 0)) (h' := hN0) (d' := 11) (As := [.int p]) ok_X6_isPerson vi_X6_isPerson cl_6_79 (n := 1) (by decide +kernel) rfl rfl rfl rfl (by decide) (by decide) (dk_X6_last 2 _ rfl) ?_ ?_
      · refine jCt_of ok_X6_isPerson (fun _ _ => Nat.le_of_ble_eq_true rfl) (fun _ _ hq => by rw [hq.2]; first | exact Nat.le_refl _ | simp) ?_
        show J _ _ _ _ _ _ _ _ [(0, .ref 0), (1, .int p)] _ _ _
        refine J_iload_n (i := 1) (a := 1) rfl rfl (dk_X6_isPerson 0 _ rfl) ?_
        refine J_ifF (tgt := 19) (by decide) (dk_X6_isPerson 1 _ rfl) (jI_nlt (rfl : (p : Int32).toInt = (p : Int32).toInt) (by decide : (0 : Int32).toInt = 0) (by omega)) ?_
        refine J_iload_n (i := 1) (a := 1) rfl rfl (dk_X6_isPerson 4 _ rfl) ?_
        refine J_aload_n (i := 0) (a := 0) rfl rfl (dk_X6_isPerson 5 _ rfl) ?_
        refine J_getf fl_6_47 rfl rfl (dk_X6_isPerson 6 _ rfl) ?_
        refine J_getf fl_6_71 rfl rfl (dk_X6_isPerson 9 _ rfl) ?_
        refine J_icT (tgt := 19) (by decide) (dk_X6_isPerson 12 _ rfl) (jI_le (by decide : (0 : Int32).toInt = 0) (rfl : (p : Int32).toInt = (p : Int32).toInt) (by omega)) ?_
        refine J_iconst (v := 0) (by decide) (dk_X6_isPerson 19 _ rfl) ?_
        exact J_iret rfl rfl (dk_X6_isPerson 20 _ rfl) ⟨rfl, rfl⟩
      show J _ _ _ _ _ _ _ _ _ [.int 0] _ _
      refine J_ifF (tgt := 11) (by decide) (dk_X6_last 5 _ rfl) (fun z => z (jI_eq (by decide : (0 : Int32).toInt = 0) (by decide : (0 : Int32).toInt = 0) (by omega))) ?_
      refine J_ldc (v := (-10000001)) ct_6_82 (dk_X6_last 8 _ rfl) ?_
      exact J_iret rfl rfl (dk_X6_last 10 _ rfl) ⟨rfl, rfl⟩
    · refine jCt_of ok_X7_last (fun _ _ => Nat.le_of_ble_eq_true rfl) (fun _ _ hq => Nat.le_of_eq (lM.trans hq.2.symm)) ?_
      show J _ _ _ _ _ _ _ _ [(0, .ref 0), (1, .int p)] _ _ _
      refine J_aload_n (i := 0) (a := 0) rfl rfl (dk_X7_last 0 _ rfl) ?_
      refine J_iload_n (i := 1) (a := 1) rfl rfl (dk_X7_last 1 _ rfl) ?_
      refine J_cV (rv := some (.int 0)) (h' := hM0) (d' := 11) (As := [.int p]) ok_X7_isPerson vi_X7_isPerson cl_7_206 (n := 1) (by decide +kernel) rfl rfl rfl rfl (by decide) (by decide) (dk_X7_last 2 _ rfl) ?_ ?_
      · refine jCt_of ok_X7_isPerson (fun _ _ => Nat.le_of_ble_eq_true rfl) (fun _ _ hq => by rw [hq.2]; first | exact Nat.le_refl _ | simp) ?_
        show J _ _ _ _ _ _ _ _ [(0, .ref 0), (1, .int p)] _ _ _
        refine J_aload_n (i := 0) (a := 0) rfl rfl (dk_X7_isPerson 0 _ rfl) ?_
        refine J_iload_n (i := 1) (a := 1) rfl rfl (dk_X7_isPerson 1 _ rfl) ?_
        refine J_iconst (v := 0) (by decide) (dk_X7_isPerson 2 _ rfl) ?_
        refine J_aload_n (i := 0) (a := 0) rfl rfl (dk_X7_isPerson 3 _ rfl) ?_
        refine J_getf fl_7_7 rfl rfl (dk_X7_isPerson 4 _ rfl) ?_
        refine J_iconst (v := 1) (by decide) (dk_X7_isPerson 7 _ rfl) ?_
        refine J_isubC (v := (-1)) (by decide) (dk_X7_isPerson 8 _ rfl) ?_
        refine J_cV (rv := some (.int 0)) (h' := hM0) (d' := 10) (As := [.int p, .int 0, .int (-1)]) ok_X7_in vi_X7_in cl_7_194 (n := 3) (by decide +kernel) rfl rfl rfl rfl (by decide) (by decide) (dk_X7_isPerson 9 _ rfl) ?_ ?_
        · refine jCt_of ok_X7_in (fun _ _ => Nat.le_of_ble_eq_true rfl) (fun _ _ hq => by rw [hq.2]; first | exact Nat.le_refl _ | simp) ?_
          show J _ _ _ _ _ _ _ _ [(0, .ref 0), (1, .int p), (2, .int 0), (3, .int (-1))] _ _ _
          refine J_iload_n (i := 1) (a := 1) rfl rfl (dk_X7_in 0 _ rfl) ?_
          refine J_iload_n (i := 2) (a := 2) rfl rfl (dk_X7_in 1 _ rfl) ?_
          refine J_icF (tgt := 14) (by decide) (dk_X7_in 2 _ rfl) (jI_nlt (rfl : (p : Int32).toInt = (p : Int32).toInt) (by decide : (0 : Int32).toInt = 0) (by omega)) ?_
          refine J_iload_n (i := 1) (a := 1) rfl rfl (dk_X7_in 5 _ rfl) ?_
          refine J_iload_n (i := 3) (a := 3) rfl rfl (dk_X7_in 6 _ rfl) ?_
          refine J_icT (tgt := 14) (by decide) (dk_X7_in 7 _ rfl) (jI_lt (by decide : ((-1) : Int32).toInt = (-1)) (rfl : (p : Int32).toInt = (p : Int32).toInt) (by omega)) ?_
          refine J_iconst (v := 0) (by decide) (dk_X7_in 14 _ rfl) ?_
          exact J_iret rfl rfl (dk_X7_in 15 _ rfl) ⟨rfl, rfl⟩
        show J _ _ _ _ _ _ _ _ _ [.int 0] _ _
        exact J_iret rfl rfl (dk_X7_isPerson 12 _ rfl) ⟨rfl, rfl⟩
      show J _ _ _ _ _ _ _ _ _ [.int 0] _ _
      refine J_ifF (tgt := 12) (by decide) (dk_X7_last 5 _ rfl) (fun z => z (jI_eq (by decide : (0 : Int32).toInt = 0) (by decide : (0 : Int32).toInt = 0) (by omega))) ?_
      refine J_ldcw (v := (-10000001)) ct_7_291 (dk_X7_last 8 _ rfl) ?_
      exact J_iret rfl rfl (dk_X7_last 11 _ rfl) ⟨rfl, rfl⟩
set_option maxHeartbeats 4000000 in
set_option maxRecDepth 1000000 in
theorem o_odds (p : Int32) (d : Int32) (w : Int32) : ∃ rv : Int64, jCt m_X6_odds 12 0 0 [.ref 0, .int p, .int d, .int w] hN0 (jA (.long rv) 94) ∧ jCt m_X7_odds 12 0 0 [.ref 0, .int p, .int d, .int w] hM0 (jA (.long rv) 37) := by
  have r_p := p.toInt_lt; have q_p := p.le_toInt
  have r_d := d.toInt_lt; have q_d := d.le_toInt
  have r_w := w.toInt_lt; have q_w := w.le_toInt
  by_cases c1 : (p : Int32).toInt < 0
  · refine ⟨(-9223372036854775808), ?_, ?_⟩
    · refine jCt_of ok_X6_odds (fun _ _ => Nat.le_of_ble_eq_true rfl) (fun _ _ hq => Nat.le_of_eq (lX.trans hq.2.symm)) ?_
      show J _ _ _ _ _ _ _ _ [(0, .ref 0), (1, .int p), (2, .int d), (3, .int w)] _ _ _
      refine J_aload_n (i := 0) (a := 0) rfl rfl (dk_X6_odds 0 _ rfl) ?_
      refine J_iload_n (i := 1) (a := 1) rfl rfl (dk_X6_odds 1 _ rfl) ?_
      refine J_cV (rv := some (.int 0)) (h' := hN0) (d' := 11) (As := [.int p]) ok_X6_isPerson vi_X6_isPerson cl_6_79 (n := 1) (by decide +kernel) rfl rfl rfl rfl (by decide) (by decide) (dk_X6_odds 2 _ rfl) ?_ ?_
      · refine jCt_of ok_X6_isPerson (fun _ _ => Nat.le_of_ble_eq_true rfl) (fun _ _ hq => by rw [hq.2]; first | exact Nat.le_refl _ | simp) ?_
        show J _ _ _ _ _ _ _ _ [(0, .ref 0), (1, .int p)] _ _ _
        refine J_iload_n (i := 1) (a := 1) rfl rfl (dk_X6_isPerson 0 _ rfl) ?_
        refine J_ifT (tgt := 19) (by decide) (dk_X6_isPerson 1 _ rfl) (jI_lt (rfl : (p : Int32).toInt = (p : Int32).toInt) (by decide : (0 : Int32).toInt = 0) (by omega)) ?_
        refine J_iconst (v := 0) (by decide) (dk_X6_isPerson 19 _ rfl) ?_
        exact J_iret rfl rfl (dk_X6_isPerson 20 _ rfl) ⟨rfl, rfl⟩
      show J _ _ _ _ _ _ _ _ _ [.int 0] _ _
      refine J_ifT (tgt := 15) (by decide) (dk_X6_odds 5 _ rfl) (jI_eq (by decide : (0 : Int32).toInt = 0) (by decide : (0 : Int32).toInt = 0) (by omega)) ?_
      refine J_ldc2 (v := (-9223372036854775808)) ctl_6_203 (dk_X6_odds 15 _ rfl) ?_
      exact J_lret rfl (dk_X6_odds 18 _ rfl) ⟨rfl, rfl⟩
    · refine jCt_of ok_X7_odds (fun _ _ => Nat.le_of_ble_eq_true rfl) (fun _ _ hq => Nat.le_of_eq (lM.trans hq.2.symm)) ?_
      show J _ _ _ _ _ _ _ _ [(0, .ref 0), (1, .int p), (2, .int d), (3, .int w)] _ _ _
      refine J_aload_n (i := 0) (a := 0) rfl rfl (dk_X7_odds 0 _ rfl) ?_
      refine J_iload_n (i := 1) (a := 1) rfl rfl (dk_X7_odds 1 _ rfl) ?_
      refine J_cV (rv := some (.int 0)) (h' := hM0) (d' := 11) (As := [.int p]) ok_X7_isPerson vi_X7_isPerson cl_7_206 (n := 1) (by decide +kernel) rfl rfl rfl rfl (by decide) (by decide) (dk_X7_odds 2 _ rfl) ?_ ?_
      · refine jCt_of ok_X7_isPerson (fun _ _ => Nat.le_of_ble_eq_true rfl) (fun _ _ hq => by rw [hq.2]; first | exact Nat.le_refl _ | simp) ?_
        show J _ _ _ _ _ _ _ _ [(0, .ref 0), (1, .int p)] _ _ _
        refine J_aload_n (i := 0) (a := 0) rfl rfl (dk_X7_isPerson 0 _ rfl) ?_
        refine J_iload_n (i := 1) (a := 1) rfl rfl (dk_X7_isPerson 1 _ rfl) ?_
        refine J_iconst (v := 0) (by decide) (dk_X7_isPerson 2 _ rfl) ?_
        refine J_aload_n (i := 0) (a := 0) rfl rfl (dk_X7_isPerson 3 _ rfl) ?_
        refine J_getf fl_7_7 rfl rfl (dk_X7_isPerson 4 _ rfl) ?_
        refine J_iconst (v := 1) (by decide) (dk_X7_isPerson 7 _ rfl) ?_
        refine J_isubC (v := (-1)) (by decide) (dk_X7_isPerson 8 _ rfl) ?_
        refine J_cV (rv := some (.int 0)) (h' := hM0) (d' := 10) (As := [.int p, .int 0, .int (-1)]) ok_X7_in vi_X7_in cl_7_194 (n := 3) (by decide +kernel) rfl rfl rfl rfl (by decide) (by decide) (dk_X7_isPerson 9 _ rfl) ?_ ?_
        · refine jCt_of ok_X7_in (fun _ _ => Nat.le_of_ble_eq_true rfl) (fun _ _ hq => by rw [hq.2]; first | exact Nat.le_refl _ | simp) ?_
          show J _ _ _ _ _ _ _ _ [(0, .ref 0), (1, .int p), (2, .int 0), (3, .int (-1))] _ _ _
          refine J_iload_n (i := 1) (a := 1) rfl rfl (dk_X7_in 0 _ rfl) ?_
          refine J_iload_n (i := 2) (a := 2) rfl rfl (dk_X7_in 1 _ rfl) ?_
          refine J_icT (tgt := 14) (by decide) (dk_X7_in 2 _ rfl) (jI_lt (rfl : (p : Int32).toInt = (p : Int32).toInt) (by decide : (0 : Int32).toInt = 0) (by omega)) ?_
          refine J_iconst (v := 0) (by decide) (dk_X7_in 14 _ rfl) ?_
          exact J_iret rfl rfl (dk_X7_in 15 _ rfl) ⟨rfl, rfl⟩
        show J _ _ _ _ _ _ _ _ _ [.int 0] _ _
        exact J_iret rfl rfl (dk_X7_isPerson 12 _ rfl) ⟨rfl, rfl⟩
      show J _ _ _ _ _ _ _ _ _ [.int 0] _ _
      refine J_ifT (tgt := 26) (by decide) (dk_X7_odds 5 _ rfl) (jI_eq (by decide : (0 : Int32).toInt = 0) (by decide : (0 : Int32).toInt = 0) (by omega)) ?_
      refine J_ldc2 (v := (-9223372036854775808)) ctl_7_345 (dk_X7_odds 26 _ rfl) ?_
      exact J_lret rfl (dk_X7_odds 29 _ rfl) ⟨rfl, rfl⟩
  · refine ⟨(-9223372036854775808), ?_, ?_⟩
    · refine jCt_of ok_X6_odds (fun _ _ => Nat.le_of_ble_eq_true rfl) (fun _ _ hq => Nat.le_of_eq (lX.trans hq.2.symm)) ?_
      show J _ _ _ _ _ _ _ _ [(0, .ref 0), (1, .int p), (2, .int d), (3, .int w)] _ _ _
      refine J_aload_n (i := 0) (a := 0) rfl rfl (dk_X6_odds 0 _ rfl) ?_
      refine J_iload_n (i := 1) (a := 1) rfl rfl (dk_X6_odds 1 _ rfl) ?_
      refine J_cV (rv := some (.int 0)) (h' := hN0) (d' := 11) (As := [.int p]) ok_X6_isPerson vi_X6_isPerson cl_6_79 (n := 1) (by decide +kernel) rfl rfl rfl rfl (by decide) (by decide) (dk_X6_odds 2 _ rfl) ?_ ?_
      · refine jCt_of ok_X6_isPerson (fun _ _ => Nat.le_of_ble_eq_true rfl) (fun _ _ hq => by rw [hq.2]; first | exact Nat.le_refl _ | simp) ?_
        show J _ _ _ _ _ _ _ _ [(0, .ref 0), (1, .int p)] _ _ _
        refine J_iload_n (i := 1) (a := 1) rfl rfl (dk_X6_isPerson 0 _ rfl) ?_
        refine J_ifF (tgt := 19) (by decide) (dk_X6_isPerson 1 _ rfl) (jI_nlt (rfl : (p : Int32).toInt = (p : Int32).toInt) (by decide : (0 : Int32).toInt = 0) (by omega)) ?_
        refine J_iload_n (i := 1) (a := 1) rfl rfl (dk_X6_isPerson 4 _ rfl) ?_
        refine J_aload_n (i := 0) (a := 0) rfl rfl (dk_X6_isPerson 5 _ rfl) ?_
        refine J_getf fl_6_47 rfl rfl (dk_X6_isPerson 6 _ rfl) ?_
        refine J_getf fl_6_71 rfl rfl (dk_X6_isPerson 9 _ rfl) ?_
        refine J_icT (tgt := 19) (by decide) (dk_X6_isPerson 12 _ rfl) (jI_le (by decide : (0 : Int32).toInt = 0) (rfl : (p : Int32).toInt = (p : Int32).toInt) (by omega)) ?_
        refine J_iconst (v := 0) (by decide) (dk_X6_isPerson 19 _ rfl) ?_
        exact J_iret rfl rfl (dk_X6_isPerson 20 _ rfl) ⟨rfl, rfl⟩
      show J _ _ _ _ _ _ _ _ _ [.int 0] _ _
      refine J_ifT (tgt := 15) (by decide) (dk_X6_odds 5 _ rfl) (jI_eq (by decide : (0 : Int32).toInt = 0) (by decide : (0 : Int32).toInt = 0) (by omega)) ?_
      refine J_ldc2 (v := (-9223372036854775808)) ctl_6_203 (dk_X6_odds 15 _ rfl) ?_
      exact J_lret rfl (dk_X6_odds 18 _ rfl) ⟨rfl, rfl⟩
    · refine jCt_of ok_X7_odds (fun _ _ => Nat.le_of_ble_eq_true rfl) (fun _ _ hq => Nat.le_of_eq (lM.trans hq.2.symm)) ?_
      show J _ _ _ _ _ _ _ _ [(0, .ref 0), (1, .int p), (2, .int d), (3, .int w)] _ _ _
      refine J_aload_n (i := 0) (a := 0) rfl rfl (dk_X7_odds 0 _ rfl) ?_
      refine J_iload_n (i := 1) (a := 1) rfl rfl (dk_X7_odds 1 _ rfl) ?_
      refine J_cV (rv := some (.int 0)) (h' := hM0) (d' := 11) (As := [.int p]) ok_X7_isPerson vi_X7_isPerson cl_7_206 (n := 1) (by decide +kernel) rfl rfl rfl rfl (by decide) (by decide) (dk_X7_odds 2 _ rfl) ?_ ?_
      · refine jCt_of ok_X7_isPerson (fun _ _ => Nat.le_of_ble_eq_true rfl) (fun _ _ hq => by rw [hq.2]; first | exact Nat.le_refl _ | simp) ?_
        show J _ _ _ _ _ _ _ _ [(0, .ref 0), (1, .int p)] _ _ _
        refine J_aload_n (i := 0) (a := 0) rfl rfl (dk_X7_isPerson 0 _ rfl) ?_
        refine J_iload_n (i := 1) (a := 1) rfl rfl (dk_X7_isPerson 1 _ rfl) ?_
        refine J_iconst (v := 0) (by decide) (dk_X7_isPerson 2 _ rfl) ?_
        refine J_aload_n (i := 0) (a := 0) rfl rfl (dk_X7_isPerson 3 _ rfl) ?_
        refine J_getf fl_7_7 rfl rfl (dk_X7_isPerson 4 _ rfl) ?_
        refine J_iconst (v := 1) (by decide) (dk_X7_isPerson 7 _ rfl) ?_
        refine J_isubC (v := (-1)) (by decide) (dk_X7_isPerson 8 _ rfl) ?_
        refine J_cV (rv := some (.int 0)) (h' := hM0) (d' := 10) (As := [.int p, .int 0, .int (-1)]) ok_X7_in vi_X7_in cl_7_194 (n := 3) (by decide +kernel) rfl rfl rfl rfl (by decide) (by decide) (dk_X7_isPerson 9 _ rfl) ?_ ?_
        · refine jCt_of ok_X7_in (fun _ _ => Nat.le_of_ble_eq_true rfl) (fun _ _ hq => by rw [hq.2]; first | exact Nat.le_refl _ | simp) ?_
          show J _ _ _ _ _ _ _ _ [(0, .ref 0), (1, .int p), (2, .int 0), (3, .int (-1))] _ _ _
          refine J_iload_n (i := 1) (a := 1) rfl rfl (dk_X7_in 0 _ rfl) ?_
          refine J_iload_n (i := 2) (a := 2) rfl rfl (dk_X7_in 1 _ rfl) ?_
          refine J_icF (tgt := 14) (by decide) (dk_X7_in 2 _ rfl) (jI_nlt (rfl : (p : Int32).toInt = (p : Int32).toInt) (by decide : (0 : Int32).toInt = 0) (by omega)) ?_
          refine J_iload_n (i := 1) (a := 1) rfl rfl (dk_X7_in 5 _ rfl) ?_
          refine J_iload_n (i := 3) (a := 3) rfl rfl (dk_X7_in 6 _ rfl) ?_
          refine J_icT (tgt := 14) (by decide) (dk_X7_in 7 _ rfl) (jI_lt (by decide : ((-1) : Int32).toInt = (-1)) (rfl : (p : Int32).toInt = (p : Int32).toInt) (by omega)) ?_
          refine J_iconst (v := 0) (by decide) (dk_X7_in 14 _ rfl) ?_
          exact J_iret rfl rfl (dk_X7_in 15 _ rfl) ⟨rfl, rfl⟩
        show J _ _ _ _ _ _ _ _ _ [.int 0] _ _
        exact J_iret rfl rfl (dk_X7_isPerson 12 _ rfl) ⟨rfl, rfl⟩
      show J _ _ _ _ _ _ _ _ _ [.int 0] _ _
      refine J_ifT (tgt := 26) (by decide) (dk_X7_odds 5 _ rfl) (jI_eq (by decide : (0 : Int32).toInt = 0) (by decide : (0 : Int32).toInt = 0) (by omega)) ?_
      refine J_ldc2 (v := (-9223372036854775808)) ctl_7_345 (dk_X7_odds 26 _ rfl) ?_
      exact J_lret rfl (dk_X7_odds 29 _ rfl) ⟨rfl, rfl⟩
set_option maxHeartbeats 4000000 in
set_option maxRecDepth 1000000 in
theorem o_act (p : Int32) (a : Int32) (x : Int32) : ∃ rv : Int32, jCt m_X6_act 12 0 0 [.ref 0, .int p, .int a, .int x] hN0 (jA (.int rv) 94) ∧ jCt m_X7_act 12 0 0 [.ref 0, .int p, .int a, .int x] hM0 (jA (.int rv) 37) := by
  have r_p := p.toInt_lt; have q_p := p.le_toInt
  have r_a := a.toInt_lt; have q_a := a.le_toInt
  have r_x := x.toInt_lt; have q_x := x.le_toInt
  by_cases c1 : (p : Int32).toInt < 0
  · refine ⟨0, ?_, ?_⟩
    · refine jCt_of ok_X6_act (fun _ _ => Nat.le_of_ble_eq_true rfl) (fun _ _ hq => Nat.le_of_eq (lX.trans hq.2.symm)) ?_
      show J _ _ _ _ _ _ _ _ [(0, .ref 0), (1, .int p), (2, .int a), (3, .int x)] _ _ _
      refine J_aload_n (i := 0) (a := 0) rfl rfl (dk_X6_act 0 _ rfl) ?_
      refine J_getf fl_6_31 rfl rfl (dk_X6_act 1 _ rfl) ?_
      refine J_iconst (v := 0) (by decide) (dk_X6_act 4 _ rfl) ?_
      refine J_putf fl_6_235 rfl (fun q hq => by cases hq; rfl) trivial (Nat.le_of_ble_eq_true rfl) (dk_X6_act 5 _ rfl) ?_
      refine J_aload_n (i := 0) (a := 0) rfl rfl (dk_X6_act 8 _ rfl) ?_
      refine J_iload_n (i := 1) (a := 1) rfl rfl (dk_X6_act 9 _ rfl) ?_
      refine J_cV (rv := some (.int 0)) (h' := (hN0.set 5 (.inr (0, [.ref 6, .int 0, .int 0, .int 0, .int 0])))) (d' := 11) (As := [.int p]) ok_X6_isPerson vi_X6_isPerson cl_6_79 (n := 1) (by decide +kernel) rfl rfl rfl rfl (by decide) (by decide) (dk_X6_act 10 _ rfl) ?_ ?_
      · refine jCt_of ok_X6_isPerson (fun _ _ => Nat.le_of_ble_eq_true rfl) (fun _ _ hq => by rw [hq.2]; first | exact Nat.le_refl _ | simp) ?_
        show J _ _ _ _ _ _ _ _ [(0, .ref 0), (1, .int p)] _ _ _
        refine J_iload_n (i := 1) (a := 1) rfl rfl (dk_X6_isPerson 0 _ rfl) ?_
        refine J_ifT (tgt := 19) (by decide) (dk_X6_isPerson 1 _ rfl) (jI_lt (rfl : (p : Int32).toInt = (p : Int32).toInt) (by decide : (0 : Int32).toInt = 0) (by omega)) ?_
        refine J_iconst (v := 0) (by decide) (dk_X6_isPerson 19 _ rfl) ?_
        exact J_iret rfl rfl (dk_X6_isPerson 20 _ rfl) ⟨rfl, rfl⟩
      show J _ _ _ _ _ _ _ _ _ [.int 0] _ _
      refine J_ifF (tgt := 18) (by decide) (dk_X6_act 13 _ rfl) (fun z => z (jI_eq (by decide : (0 : Int32).toInt = 0) (by decide : (0 : Int32).toInt = 0) (by omega))) ?_
      refine J_iconst (v := 0) (by decide) (dk_X6_act 16 _ rfl) ?_
      exact J_iret rfl rfl (dk_X6_act 17 _ rfl) ⟨rfl, rfl⟩
    · refine jCt_of ok_X7_act (fun _ _ => Nat.le_of_ble_eq_true rfl) (fun _ _ hq => Nat.le_of_eq (lM.trans hq.2.symm)) ?_
      show J _ _ _ _ _ _ _ _ [(0, .ref 0), (1, .int p), (2, .int a), (3, .int x)] _ _ _
      refine J_aload_n (i := 0) (a := 0) rfl rfl (dk_X7_act 0 _ rfl) ?_
      refine J_iconst (v := 0) (by decide) (dk_X7_act 1 _ rfl) ?_
      refine J_putf fl_7_175 rfl (fun q hq => by cases hq; rfl) trivial (Nat.le_of_ble_eq_true rfl) (dk_X7_act 2 _ rfl) ?_
      refine J_aload_n (i := 0) (a := 0) rfl rfl (dk_X7_act 5 _ rfl) ?_
      refine J_iload_n (i := 1) (a := 1) rfl rfl (dk_X7_act 6 _ rfl) ?_
      refine J_cV (rv := some (.int 0)) (h' := (hM0.set 0 (.inr (7, [.int 0, .int 0, .int 0, .ref 1, .ref 2, .ref 3, .ref 4, .ref 5, .ref 6, .ref 7, .int 0, .int (-1), .int 0, .int 0, .int 0, .ref 8, .ref 9, .ref 10, .ref 11, .ref 12, .ref 13, .ref 14, .ref 15, .int 0, .int 0, .int 0, .ref 16, .int (-1), .ref 17, .ref 18, .ref 19, .int 0, .int 0, .ref 20, .int 0, .int 0, .ref 21, .ref 22, .int 0, .ref 23, .int 0, .int (-1), .int 0, .int 0, .int 0, .int 0, .ref 24, .ref 25, .ref 26, .ref 27, .ref 28, .ref 29, .ref 30, .ref 31, .int 0, .ref 32, .ref 33, .ref 34, .ref 35, .ref 36])))) (d' := 11) (As := [.int p]) ok_X7_isPerson vi_X7_isPerson cl_7_206 (n := 1) (by decide +kernel) rfl rfl rfl rfl (by decide) (by decide) (dk_X7_act 7 _ rfl) ?_ ?_
      · refine jCt_of ok_X7_isPerson (fun _ _ => Nat.le_of_ble_eq_true rfl) (fun _ _ hq => by rw [hq.2]; first | exact Nat.le_refl _ | simp) ?_
        show J _ _ _ _ _ _ _ _ [(0, .ref 0), (1, .int p)] _ _ _
        refine J_aload_n (i := 0) (a := 0) rfl rfl (dk_X7_isPerson 0 _ rfl) ?_
        refine J_iload_n (i := 1) (a := 1) rfl rfl (dk_X7_isPerson 1 _ rfl) ?_
        refine J_iconst (v := 0) (by decide) (dk_X7_isPerson 2 _ rfl) ?_
        refine J_aload_n (i := 0) (a := 0) rfl rfl (dk_X7_isPerson 3 _ rfl) ?_
        refine J_getf fl_7_7 rfl rfl (dk_X7_isPerson 4 _ rfl) ?_
        refine J_iconst (v := 1) (by decide) (dk_X7_isPerson 7 _ rfl) ?_
        refine J_isubC (v := (-1)) (by decide) (dk_X7_isPerson 8 _ rfl) ?_
        refine J_cV (rv := some (.int 0)) (h' := (hM0.set 0 (.inr (7, [.int 0, .int 0, .int 0, .ref 1, .ref 2, .ref 3, .ref 4, .ref 5, .ref 6, .ref 7, .int 0, .int (-1), .int 0, .int 0, .int 0, .ref 8, .ref 9, .ref 10, .ref 11, .ref 12, .ref 13, .ref 14, .ref 15, .int 0, .int 0, .int 0, .ref 16, .int (-1), .ref 17, .ref 18, .ref 19, .int 0, .int 0, .ref 20, .int 0, .int 0, .ref 21, .ref 22, .int 0, .ref 23, .int 0, .int (-1), .int 0, .int 0, .int 0, .int 0, .ref 24, .ref 25, .ref 26, .ref 27, .ref 28, .ref 29, .ref 30, .ref 31, .int 0, .ref 32, .ref 33, .ref 34, .ref 35, .ref 36])))) (d' := 10) (As := [.int p, .int 0, .int (-1)]) ok_X7_in vi_X7_in cl_7_194 (n := 3) (by decide +kernel) rfl rfl rfl rfl (by decide) (by decide) (dk_X7_isPerson 9 _ rfl) ?_ ?_
        · refine jCt_of ok_X7_in (fun _ _ => Nat.le_of_ble_eq_true rfl) (fun _ _ hq => by rw [hq.2]; first | exact Nat.le_refl _ | simp) ?_
          show J _ _ _ _ _ _ _ _ [(0, .ref 0), (1, .int p), (2, .int 0), (3, .int (-1))] _ _ _
          refine J_iload_n (i := 1) (a := 1) rfl rfl (dk_X7_in 0 _ rfl) ?_
          refine J_iload_n (i := 2) (a := 2) rfl rfl (dk_X7_in 1 _ rfl) ?_
          refine J_icT (tgt := 14) (by decide) (dk_X7_in 2 _ rfl) (jI_lt (rfl : (p : Int32).toInt = (p : Int32).toInt) (by decide : (0 : Int32).toInt = 0) (by omega)) ?_
          refine J_iconst (v := 0) (by decide) (dk_X7_in 14 _ rfl) ?_
          exact J_iret rfl rfl (dk_X7_in 15 _ rfl) ⟨rfl, rfl⟩
        show J _ _ _ _ _ _ _ _ _ [.int 0] _ _
        exact J_iret rfl rfl (dk_X7_isPerson 12 _ rfl) ⟨rfl, rfl⟩
      show J _ _ _ _ _ _ _ _ _ [.int 0] _ _
      refine J_ifT (tgt := 23) (by decide) (dk_X7_act 10 _ rfl) (jI_eq (by decide : (0 : Int32).toInt = 0) (by decide : (0 : Int32).toInt = 0) (by omega)) ?_
      refine J_iconst (v := 0) (by decide) (dk_X7_act 23 _ rfl) ?_
      exact J_iret rfl rfl (dk_X7_act 24 _ rfl) ⟨rfl, rfl⟩
  · refine ⟨0, ?_, ?_⟩
    · refine jCt_of ok_X6_act (fun _ _ => Nat.le_of_ble_eq_true rfl) (fun _ _ hq => Nat.le_of_eq (lX.trans hq.2.symm)) ?_
      show J _ _ _ _ _ _ _ _ [(0, .ref 0), (1, .int p), (2, .int a), (3, .int x)] _ _ _
      refine J_aload_n (i := 0) (a := 0) rfl rfl (dk_X6_act 0 _ rfl) ?_
      refine J_getf fl_6_31 rfl rfl (dk_X6_act 1 _ rfl) ?_
      refine J_iconst (v := 0) (by decide) (dk_X6_act 4 _ rfl) ?_
      refine J_putf fl_6_235 rfl (fun q hq => by cases hq; rfl) trivial (Nat.le_of_ble_eq_true rfl) (dk_X6_act 5 _ rfl) ?_
      refine J_aload_n (i := 0) (a := 0) rfl rfl (dk_X6_act 8 _ rfl) ?_
      refine J_iload_n (i := 1) (a := 1) rfl rfl (dk_X6_act 9 _ rfl) ?_
      refine J_cV (rv := some (.int 0)) (h' := (hN0.set 5 (.inr (0, [.ref 6, .int 0, .int 0, .int 0, .int 0])))) (d' := 11) (As := [.int p]) ok_X6_isPerson vi_X6_isPerson cl_6_79 (n := 1) (by decide +kernel) rfl rfl rfl rfl (by decide) (by decide) (dk_X6_act 10 _ rfl) ?_ ?_
      · refine jCt_of ok_X6_isPerson (fun _ _ => Nat.le_of_ble_eq_true rfl) (fun _ _ hq => by rw [hq.2]; first | exact Nat.le_refl _ | simp) ?_
        show J _ _ _ _ _ _ _ _ [(0, .ref 0), (1, .int p)] _ _ _
        refine J_iload_n (i := 1) (a := 1) rfl rfl (dk_X6_isPerson 0 _ rfl) ?_
        refine J_ifF (tgt := 19) (by decide) (dk_X6_isPerson 1 _ rfl) (jI_nlt (rfl : (p : Int32).toInt = (p : Int32).toInt) (by decide : (0 : Int32).toInt = 0) (by omega)) ?_
        refine J_iload_n (i := 1) (a := 1) rfl rfl (dk_X6_isPerson 4 _ rfl) ?_
        refine J_aload_n (i := 0) (a := 0) rfl rfl (dk_X6_isPerson 5 _ rfl) ?_
        refine J_getf fl_6_47 rfl rfl (dk_X6_isPerson 6 _ rfl) ?_
        refine J_getf fl_6_71 rfl rfl (dk_X6_isPerson 9 _ rfl) ?_
        refine J_icT (tgt := 19) (by decide) (dk_X6_isPerson 12 _ rfl) (jI_le (by decide : (0 : Int32).toInt = 0) (rfl : (p : Int32).toInt = (p : Int32).toInt) (by omega)) ?_
        refine J_iconst (v := 0) (by decide) (dk_X6_isPerson 19 _ rfl) ?_
        exact J_iret rfl rfl (dk_X6_isPerson 20 _ rfl) ⟨rfl, rfl⟩
      show J _ _ _ _ _ _ _ _ _ [.int 0] _ _
      refine J_ifF (tgt := 18) (by decide) (dk_X6_act 13 _ rfl) (fun z => z (jI_eq (by decide : (0 : Int32).toInt = 0) (by decide : (0 : Int32).toInt = 0) (by omega))) ?_
      refine J_iconst (v := 0) (by decide) (dk_X6_act 16 _ rfl) ?_
      exact J_iret rfl rfl (dk_X6_act 17 _ rfl) ⟨rfl, rfl⟩
    · refine jCt_of ok_X7_act (fun _ _ => Nat.le_of_ble_eq_true rfl) (fun _ _ hq => Nat.le_of_eq (lM.trans hq.2.symm)) ?_
      show J _ _ _ _ _ _ _ _ [(0, .ref 0), (1, .int p), (2, .int a), (3, .int x)] _ _ _
      refine J_aload_n (i := 0) (a := 0) rfl rfl (dk_X7_act 0 _ rfl) ?_
      refine J_iconst (v := 0) (by decide) (dk_X7_act 1 _ rfl) ?_
      refine J_putf fl_7_175 rfl (fun q hq => by cases hq; rfl) trivial (Nat.le_of_ble_eq_true rfl) (dk_X7_act 2 _ rfl) ?_
      refine J_aload_n (i := 0) (a := 0) rfl rfl (dk_X7_act 5 _ rfl) ?_
      refine J_iload_n (i := 1) (a := 1) rfl rfl (dk_X7_act 6 _ rfl) ?_
      refine J_cV (rv := some (.int 0)) (h' := (hM0.set 0 (.inr (7, [.int 0, .int 0, .int 0, .ref 1, .ref 2, .ref 3, .ref 4, .ref 5, .ref 6, .ref 7, .int 0, .int (-1), .int 0, .int 0, .int 0, .ref 8, .ref 9, .ref 10, .ref 11, .ref 12, .ref 13, .ref 14, .ref 15, .int 0, .int 0, .int 0, .ref 16, .int (-1), .ref 17, .ref 18, .ref 19, .int 0, .int 0, .ref 20, .int 0, .int 0, .ref 21, .ref 22, .int 0, .ref 23, .int 0, .int (-1), .int 0, .int 0, .int 0, .int 0, .ref 24, .ref 25, .ref 26, .ref 27, .ref 28, .ref 29, .ref 30, .ref 31, .int 0, .ref 32, .ref 33, .ref 34, .ref 35, .ref 36])))) (d' := 11) (As := [.int p]) ok_X7_isPerson vi_X7_isPerson cl_7_206 (n := 1) (by decide +kernel) rfl rfl rfl rfl (by decide) (by decide) (dk_X7_act 7 _ rfl) ?_ ?_
      · refine jCt_of ok_X7_isPerson (fun _ _ => Nat.le_of_ble_eq_true rfl) (fun _ _ hq => by rw [hq.2]; first | exact Nat.le_refl _ | simp) ?_
        show J _ _ _ _ _ _ _ _ [(0, .ref 0), (1, .int p)] _ _ _
        refine J_aload_n (i := 0) (a := 0) rfl rfl (dk_X7_isPerson 0 _ rfl) ?_
        refine J_iload_n (i := 1) (a := 1) rfl rfl (dk_X7_isPerson 1 _ rfl) ?_
        refine J_iconst (v := 0) (by decide) (dk_X7_isPerson 2 _ rfl) ?_
        refine J_aload_n (i := 0) (a := 0) rfl rfl (dk_X7_isPerson 3 _ rfl) ?_
        refine J_getf fl_7_7 rfl rfl (dk_X7_isPerson 4 _ rfl) ?_
        refine J_iconst (v := 1) (by decide) (dk_X7_isPerson 7 _ rfl) ?_
        refine J_isubC (v := (-1)) (by decide) (dk_X7_isPerson 8 _ rfl) ?_
        refine J_cV (rv := some (.int 0)) (h' := (hM0.set 0 (.inr (7, [.int 0, .int 0, .int 0, .ref 1, .ref 2, .ref 3, .ref 4, .ref 5, .ref 6, .ref 7, .int 0, .int (-1), .int 0, .int 0, .int 0, .ref 8, .ref 9, .ref 10, .ref 11, .ref 12, .ref 13, .ref 14, .ref 15, .int 0, .int 0, .int 0, .ref 16, .int (-1), .ref 17, .ref 18, .ref 19, .int 0, .int 0, .ref 20, .int 0, .int 0, .ref 21, .ref 22, .int 0, .ref 23, .int 0, .int (-1), .int 0, .int 0, .int 0, .int 0, .ref 24, .ref 25, .ref 26, .ref 27, .ref 28, .ref 29, .ref 30, .ref 31, .int 0, .ref 32, .ref 33, .ref 34, .ref 35, .ref 36])))) (d' := 10) (As := [.int p, .int 0, .int (-1)]) ok_X7_in vi_X7_in cl_7_194 (n := 3) (by decide +kernel) rfl rfl rfl rfl (by decide) (by decide) (dk_X7_isPerson 9 _ rfl) ?_ ?_
        · refine jCt_of ok_X7_in (fun _ _ => Nat.le_of_ble_eq_true rfl) (fun _ _ hq => by rw [hq.2]; first | exact Nat.le_refl _ | simp) ?_
          show J _ _ _ _ _ _ _ _ [(0, .ref 0), (1, .int p), (2, .int 0), (3, .int (-1))] _ _ _
          refine J_iload_n (i := 1) (a := 1) rfl rfl (dk_X7_in 0 _ rfl) ?_
          refine J_iload_n (i := 2) (a := 2) rfl rfl (dk_X7_in 1 _ rfl) ?_
          refine J_icF (tgt := 14) (by decide) (dk_X7_in 2 _ rfl) (jI_nlt (rfl : (p : Int32).toInt = (p : Int32).toInt) (by decide : (0 : Int32).toInt = 0) (by omega)) ?_
          refine J_iload_n (i := 1) (a := 1) rfl rfl (dk_X7_in 5 _ rfl) ?_
          refine J_iload_n (i := 3) (a := 3) rfl rfl (dk_X7_in 6 _ rfl) ?_
          refine J_icT (tgt := 14) (by decide) (dk_X7_in 7 _ rfl) (jI_lt (by decide : ((-1) : Int32).toInt = (-1)) (rfl : (p : Int32).toInt = (p : Int32).toInt) (by omega)) ?_
          refine J_iconst (v := 0) (by decide) (dk_X7_in 14 _ rfl) ?_
          exact J_iret rfl rfl (dk_X7_in 15 _ rfl) ⟨rfl, rfl⟩
        show J _ _ _ _ _ _ _ _ _ [.int 0] _ _
        exact J_iret rfl rfl (dk_X7_isPerson 12 _ rfl) ⟨rfl, rfl⟩
      show J _ _ _ _ _ _ _ _ _ [.int 0] _ _
      refine J_ifT (tgt := 23) (by decide) (dk_X7_act 10 _ rfl) (jI_eq (by decide : (0 : Int32).toInt = 0) (by decide : (0 : Int32).toInt = 0) (by omega)) ?_
      refine J_iconst (v := 0) (by decide) (dk_X7_act 23 _ rfl) ?_
      exact J_iret rfl rfl (dk_X7_act 24 _ rfl) ⟨rfl, rfl⟩
set_option maxHeartbeats 4000000 in
set_option maxRecDepth 1000000 in
theorem o_trace (i : Int32) : ∃ rv : Int32, jCt m_X6_trace 12 0 0 [.ref 0, .int i] hN0 (jA (.int rv) 94) ∧ jCt m_X7_trace 12 0 0 [.ref 0, .int i] hM0 (jA (.int rv) 37) := by
  have r_i := i.toInt_lt; have q_i := i.le_toInt
  by_cases c1 : (i : Int32).toInt < 0
  · refine ⟨(-1), ?_, ?_⟩
    · refine jCt_of ok_X6_trace (fun _ _ => Nat.le_of_ble_eq_true rfl) (fun _ _ hq => Nat.le_of_eq (lX.trans hq.2.symm)) ?_
      show J _ _ _ _ _ _ _ _ [(0, .ref 0), (1, .int i)] _ _ _
      refine J_iload_n (i := 1) (a := 1) rfl rfl (dk_X6_trace 0 _ rfl) ?_
      refine J_ifT (tgt := 21) (by decide) (dk_X6_trace 1 _ rfl) (jI_lt (rfl : (i : Int32).toInt = (i : Int32).toInt) (by decide : (0 : Int32).toInt = 0) (by omega)) ?_
      refine J_iconst (v := (-1)) (by decide) (dk_X6_trace 21 _ rfl) ?_
      refine J_goto (tgt := 34) (by decide) (dk_X6_trace 22 _ rfl) ?_
      exact J_iret rfl rfl (dk_X6_trace 34 _ rfl) ⟨rfl, rfl⟩
    · refine jCt_of ok_X7_trace (fun _ _ => Nat.le_of_ble_eq_true rfl) (fun _ _ hq => Nat.le_of_eq (lM.trans hq.2.symm)) ?_
      show J _ _ _ _ _ _ _ _ [(0, .ref 0), (1, .int i)] _ _ _
      refine J_aload_n (i := 0) (a := 0) rfl rfl (dk_X7_trace 0 _ rfl) ?_
      refine J_iload_n (i := 1) (a := 1) rfl rfl (dk_X7_trace 1 _ rfl) ?_
      refine J_iconst (v := 0) (by decide) (dk_X7_trace 2 _ rfl) ?_
      refine J_bipush (v := 19) (by decide) (dk_X7_trace 3 _ rfl) ?_
      refine J_cV (rv := some (.int 0)) (h' := hM0) (d' := 11) (As := [.int i, .int 0, .int 19]) ok_X7_in vi_X7_in cl_7_194 (n := 3) (by decide +kernel) rfl rfl rfl rfl (by decide) (by decide) (dk_X7_trace 5 _ rfl) ?_ ?_
      · refine jCt_of ok_X7_in (fun _ _ => Nat.le_of_ble_eq_true rfl) (fun _ _ hq => by rw [hq.2]; first | exact Nat.le_refl _ | simp) ?_
        show J _ _ _ _ _ _ _ _ [(0, .ref 0), (1, .int i), (2, .int 0), (3, .int 19)] _ _ _
        refine J_iload_n (i := 1) (a := 1) rfl rfl (dk_X7_in 0 _ rfl) ?_
        refine J_iload_n (i := 2) (a := 2) rfl rfl (dk_X7_in 1 _ rfl) ?_
        refine J_icT (tgt := 14) (by decide) (dk_X7_in 2 _ rfl) (jI_lt (rfl : (i : Int32).toInt = (i : Int32).toInt) (by decide : (0 : Int32).toInt = 0) (by omega)) ?_
        refine J_iconst (v := 0) (by decide) (dk_X7_in 14 _ rfl) ?_
        exact J_iret rfl rfl (dk_X7_in 15 _ rfl) ⟨rfl, rfl⟩
      show J _ _ _ _ _ _ _ _ _ [.int 0] _ _
      refine J_ifT (tgt := 28) (by decide) (dk_X7_trace 8 _ rfl) (jI_eq (by decide : (0 : Int32).toInt = 0) (by decide : (0 : Int32).toInt = 0) (by omega)) ?_
      refine J_iconst (v := (-1)) (by decide) (dk_X7_trace 28 _ rfl) ?_
      exact J_iret rfl rfl (dk_X7_trace 29 _ rfl) ⟨rfl, rfl⟩
  · by_cases c2 : (i : Int32).toInt < 20
    · refine ⟨(-1), ?_, ?_⟩
      · refine jCt_of ok_X6_trace (fun _ _ => Nat.le_of_ble_eq_true rfl) (fun _ _ hq => Nat.le_of_eq (lX.trans hq.2.symm)) ?_
        show J _ _ _ _ _ _ _ _ [(0, .ref 0), (1, .int i)] _ _ _
        refine J_iload_n (i := 1) (a := 1) rfl rfl (dk_X6_trace 0 _ rfl) ?_
        refine J_ifF (tgt := 21) (by decide) (dk_X6_trace 1 _ rfl) (jI_nlt (rfl : (i : Int32).toInt = (i : Int32).toInt) (by decide : (0 : Int32).toInt = 0) (by omega)) ?_
        refine J_iload_n (i := 1) (a := 1) rfl rfl (dk_X6_trace 4 _ rfl) ?_
        refine J_aload_n (i := 0) (a := 0) rfl rfl (dk_X6_trace 5 _ rfl) ?_
        refine J_getf fl_6_31 rfl rfl (dk_X6_trace 6 _ rfl) ?_
        refine J_getf fl_6_235 rfl rfl (dk_X6_trace 9 _ rfl) ?_
        refine J_icT (tgt := 21) (by decide) (dk_X6_trace 12 _ rfl) (jI_le (by decide : (0 : Int32).toInt = 0) (rfl : (i : Int32).toInt = (i : Int32).toInt) (by omega)) ?_
        refine J_iconst (v := (-1)) (by decide) (dk_X6_trace 21 _ rfl) ?_
        refine J_goto (tgt := 34) (by decide) (dk_X6_trace 22 _ rfl) ?_
        exact J_iret rfl rfl (dk_X6_trace 34 _ rfl) ⟨rfl, rfl⟩
      · refine jCt_of ok_X7_trace (fun _ _ => Nat.le_of_ble_eq_true rfl) (fun _ _ hq => Nat.le_of_eq (lM.trans hq.2.symm)) ?_
        show J _ _ _ _ _ _ _ _ [(0, .ref 0), (1, .int i)] _ _ _
        refine J_aload_n (i := 0) (a := 0) rfl rfl (dk_X7_trace 0 _ rfl) ?_
        refine J_iload_n (i := 1) (a := 1) rfl rfl (dk_X7_trace 1 _ rfl) ?_
        refine J_iconst (v := 0) (by decide) (dk_X7_trace 2 _ rfl) ?_
        refine J_bipush (v := 19) (by decide) (dk_X7_trace 3 _ rfl) ?_
        refine J_cV (rv := some (.int 1)) (h' := hM0) (d' := 11) (As := [.int i, .int 0, .int 19]) ok_X7_in vi_X7_in cl_7_194 (n := 3) (by decide +kernel) rfl rfl rfl rfl (by decide) (by decide) (dk_X7_trace 5 _ rfl) ?_ ?_
        · refine jCt_of ok_X7_in (fun _ _ => Nat.le_of_ble_eq_true rfl) (fun _ _ hq => by rw [hq.2]; first | exact Nat.le_refl _ | simp) ?_
          show J _ _ _ _ _ _ _ _ [(0, .ref 0), (1, .int i), (2, .int 0), (3, .int 19)] _ _ _
          refine J_iload_n (i := 1) (a := 1) rfl rfl (dk_X7_in 0 _ rfl) ?_
          refine J_iload_n (i := 2) (a := 2) rfl rfl (dk_X7_in 1 _ rfl) ?_
          refine J_icF (tgt := 14) (by decide) (dk_X7_in 2 _ rfl) (jI_nlt (rfl : (i : Int32).toInt = (i : Int32).toInt) (by decide : (0 : Int32).toInt = 0) (by omega)) ?_
          refine J_iload_n (i := 1) (a := 1) rfl rfl (dk_X7_in 5 _ rfl) ?_
          refine J_iload_n (i := 3) (a := 3) rfl rfl (dk_X7_in 6 _ rfl) ?_
          refine J_icF (tgt := 14) (by decide) (dk_X7_in 7 _ rfl) (jI_nlt (by decide : (19 : Int32).toInt = 19) (rfl : (i : Int32).toInt = (i : Int32).toInt) (by omega)) ?_
          refine J_iconst (v := 1) (by decide) (dk_X7_in 10 _ rfl) ?_
          refine J_goto (tgt := 15) (by decide) (dk_X7_in 11 _ rfl) ?_
          exact J_iret rfl rfl (dk_X7_in 15 _ rfl) ⟨rfl, rfl⟩
        show J _ _ _ _ _ _ _ _ _ [.int 1] _ _
        refine J_ifF (tgt := 28) (by decide) (dk_X7_trace 8 _ rfl) (jI_ne (by decide : (1 : Int32).toInt = 1) (by decide : (0 : Int32).toInt = 0) (by omega)) ?_
        refine J_iload_n (i := 1) (a := 1) rfl rfl (dk_X7_trace 11 _ rfl) ?_
        refine J_aload_n (i := 0) (a := 0) rfl rfl (dk_X7_trace 12 _ rfl) ?_
        refine J_getf fl_7_175 rfl rfl (dk_X7_trace 13 _ rfl) ?_
        refine J_icT (tgt := 28) (by decide) (dk_X7_trace 16 _ rfl) (jI_le (by decide : (0 : Int32).toInt = 0) (rfl : (i : Int32).toInt = (i : Int32).toInt) (by omega)) ?_
        refine J_iconst (v := (-1)) (by decide) (dk_X7_trace 28 _ rfl) ?_
        exact J_iret rfl rfl (dk_X7_trace 29 _ rfl) ⟨rfl, rfl⟩
    · refine ⟨(-1), ?_, ?_⟩
      · refine jCt_of ok_X6_trace (fun _ _ => Nat.le_of_ble_eq_true rfl) (fun _ _ hq => Nat.le_of_eq (lX.trans hq.2.symm)) ?_
        show J _ _ _ _ _ _ _ _ [(0, .ref 0), (1, .int i)] _ _ _
        refine J_iload_n (i := 1) (a := 1) rfl rfl (dk_X6_trace 0 _ rfl) ?_
        refine J_ifF (tgt := 21) (by decide) (dk_X6_trace 1 _ rfl) (jI_nlt (rfl : (i : Int32).toInt = (i : Int32).toInt) (by decide : (0 : Int32).toInt = 0) (by omega)) ?_
        refine J_iload_n (i := 1) (a := 1) rfl rfl (dk_X6_trace 4 _ rfl) ?_
        refine J_aload_n (i := 0) (a := 0) rfl rfl (dk_X6_trace 5 _ rfl) ?_
        refine J_getf fl_6_31 rfl rfl (dk_X6_trace 6 _ rfl) ?_
        refine J_getf fl_6_235 rfl rfl (dk_X6_trace 9 _ rfl) ?_
        refine J_icT (tgt := 21) (by decide) (dk_X6_trace 12 _ rfl) (jI_le (by decide : (0 : Int32).toInt = 0) (rfl : (i : Int32).toInt = (i : Int32).toInt) (by omega)) ?_
        refine J_iconst (v := (-1)) (by decide) (dk_X6_trace 21 _ rfl) ?_
        refine J_goto (tgt := 34) (by decide) (dk_X6_trace 22 _ rfl) ?_
        exact J_iret rfl rfl (dk_X6_trace 34 _ rfl) ⟨rfl, rfl⟩
      · refine jCt_of ok_X7_trace (fun _ _ => Nat.le_of_ble_eq_true rfl) (fun _ _ hq => Nat.le_of_eq (lM.trans hq.2.symm)) ?_
        show J _ _ _ _ _ _ _ _ [(0, .ref 0), (1, .int i)] _ _ _
        refine J_aload_n (i := 0) (a := 0) rfl rfl (dk_X7_trace 0 _ rfl) ?_
        refine J_iload_n (i := 1) (a := 1) rfl rfl (dk_X7_trace 1 _ rfl) ?_
        refine J_iconst (v := 0) (by decide) (dk_X7_trace 2 _ rfl) ?_
        refine J_bipush (v := 19) (by decide) (dk_X7_trace 3 _ rfl) ?_
        refine J_cV (rv := some (.int 0)) (h' := hM0) (d' := 11) (As := [.int i, .int 0, .int 19]) ok_X7_in vi_X7_in cl_7_194 (n := 3) (by decide +kernel) rfl rfl rfl rfl (by decide) (by decide) (dk_X7_trace 5 _ rfl) ?_ ?_
        · refine jCt_of ok_X7_in (fun _ _ => Nat.le_of_ble_eq_true rfl) (fun _ _ hq => by rw [hq.2]; first | exact Nat.le_refl _ | simp) ?_
          show J _ _ _ _ _ _ _ _ [(0, .ref 0), (1, .int i), (2, .int 0), (3, .int 19)] _ _ _
          refine J_iload_n (i := 1) (a := 1) rfl rfl (dk_X7_in 0 _ rfl) ?_
          refine J_iload_n (i := 2) (a := 2) rfl rfl (dk_X7_in 1 _ rfl) ?_
          refine J_icF (tgt := 14) (by decide) (dk_X7_in 2 _ rfl) (jI_nlt (rfl : (i : Int32).toInt = (i : Int32).toInt) (by decide : (0 : Int32).toInt = 0) (by omega)) ?_
          refine J_iload_n (i := 1) (a := 1) rfl rfl (dk_X7_in 5 _ rfl) ?_
          refine J_iload_n (i := 3) (a := 3) rfl rfl (dk_X7_in 6 _ rfl) ?_
          refine J_icT (tgt := 14) (by decide) (dk_X7_in 7 _ rfl) (jI_lt (by decide : (19 : Int32).toInt = 19) (rfl : (i : Int32).toInt = (i : Int32).toInt) (by omega)) ?_
          refine J_iconst (v := 0) (by decide) (dk_X7_in 14 _ rfl) ?_
          exact J_iret rfl rfl (dk_X7_in 15 _ rfl) ⟨rfl, rfl⟩
        show J _ _ _ _ _ _ _ _ _ [.int 0] _ _
        refine J_ifT (tgt := 28) (by decide) (dk_X7_trace 8 _ rfl) (jI_eq (by decide : (0 : Int32).toInt = 0) (by decide : (0 : Int32).toInt = 0) (by omega)) ?_
        refine J_iconst (v := (-1)) (by decide) (dk_X7_trace 28 _ rfl) ?_
        exact J_iret rfl rfl (dk_X7_trace 29 _ rfl) ⟨rfl, rfl⟩
set_option maxHeartbeats 4000000 in
set_option maxRecDepth 1000000 in
theorem o_taken (p : Int32) (k : Int32) : ∃ rv : Int32, jCt m_X6_taken 12 0 0 [.ref 0, .int p, .int k] hN0 (jA (.int rv) 94) ∧ jCt m_X7_taken 12 0 0 [.ref 0, .int p, .int k] hM0 (jA (.int rv) 37) := by
  have r_p := p.toInt_lt; have q_p := p.le_toInt
  have r_k := k.toInt_lt; have q_k := k.le_toInt
  by_cases c1 : (k : Int32).toInt < 0
  · refine ⟨(-2), ?_, ?_⟩
    · refine jCt_of ok_X6_taken (fun _ _ => Nat.le_of_ble_eq_true rfl) (fun _ _ hq => Nat.le_of_eq (lX.trans hq.2.symm)) ?_
      show J _ _ _ _ _ _ _ _ [(0, .ref 0), (1, .int p), (2, .int k)] _ _ _
      refine J_iload_n (i := 2) (a := 2) rfl rfl (dk_X6_taken 0 _ rfl) ?_
      refine J_ifT (tgt := 10) (by decide) (dk_X6_taken 1 _ rfl) (jI_lt (rfl : (k : Int32).toInt = (k : Int32).toInt) (by decide : (0 : Int32).toInt = 0) (by omega)) ?_
      refine J_bipush (v := (-2)) (by decide) (dk_X6_taken 10 _ rfl) ?_
      exact J_iret rfl rfl (dk_X6_taken 12 _ rfl) ⟨rfl, rfl⟩
    · refine jCt_of ok_X7_taken (fun _ _ => Nat.le_of_ble_eq_true rfl) (fun _ _ hq => Nat.le_of_eq (lM.trans hq.2.symm)) ?_
      show J _ _ _ _ _ _ _ _ [(0, .ref 0), (1, .int p), (2, .int k)] _ _ _
      refine J_aload_n (i := 0) (a := 0) rfl rfl (dk_X7_taken 0 _ rfl) ?_
      refine J_iload_n (i := 2) (a := 2) rfl rfl (dk_X7_taken 1 _ rfl) ?_
      refine J_iconst (v := 0) (by decide) (dk_X7_taken 2 _ rfl) ?_
      refine J_bipush (v := 6) (by decide) (dk_X7_taken 3 _ rfl) ?_
      refine J_cV (rv := some (.int 0)) (h' := hM0) (d' := 11) (As := [.int k, .int 0, .int 6]) ok_X7_in vi_X7_in cl_7_194 (n := 3) (by decide +kernel) rfl rfl rfl rfl (by decide) (by decide) (dk_X7_taken 5 _ rfl) ?_ ?_
      · refine jCt_of ok_X7_in (fun _ _ => Nat.le_of_ble_eq_true rfl) (fun _ _ hq => by rw [hq.2]; first | exact Nat.le_refl _ | simp) ?_
        show J _ _ _ _ _ _ _ _ [(0, .ref 0), (1, .int k), (2, .int 0), (3, .int 6)] _ _ _
        refine J_iload_n (i := 1) (a := 1) rfl rfl (dk_X7_in 0 _ rfl) ?_
        refine J_iload_n (i := 2) (a := 2) rfl rfl (dk_X7_in 1 _ rfl) ?_
        refine J_icT (tgt := 14) (by decide) (dk_X7_in 2 _ rfl) (jI_lt (rfl : (k : Int32).toInt = (k : Int32).toInt) (by decide : (0 : Int32).toInt = 0) (by omega)) ?_
        refine J_iconst (v := 0) (by decide) (dk_X7_in 14 _ rfl) ?_
        exact J_iret rfl rfl (dk_X7_in 15 _ rfl) ⟨rfl, rfl⟩
      show J _ _ _ _ _ _ _ _ _ [.int 0] _ _
      refine J_ifF (tgt := 14) (by decide) (dk_X7_taken 8 _ rfl) (fun z => z (jI_eq (by decide : (0 : Int32).toInt = 0) (by decide : (0 : Int32).toInt = 0) (by omega))) ?_
      refine J_bipush (v := (-2)) (by decide) (dk_X7_taken 11 _ rfl) ?_
      exact J_iret rfl rfl (dk_X7_taken 13 _ rfl) ⟨rfl, rfl⟩
  · by_cases c2 : (k : Int32).toInt < 7
    · by_cases c3 : (p : Int32).toInt < 0
      · refine ⟨(-11), ?_, ?_⟩
        · refine jCt_of ok_X6_taken (fun _ _ => Nat.le_of_ble_eq_true rfl) (fun _ _ hq => Nat.le_of_eq (lX.trans hq.2.symm)) ?_
          show J _ _ _ _ _ _ _ _ [(0, .ref 0), (1, .int p), (2, .int k)] _ _ _
          refine J_iload_n (i := 2) (a := 2) rfl rfl (dk_X6_taken 0 _ rfl) ?_
          refine J_ifF (tgt := 10) (by decide) (dk_X6_taken 1 _ rfl) (jI_nlt (rfl : (k : Int32).toInt = (k : Int32).toInt) (by decide : (0 : Int32).toInt = 0) (by omega)) ?_
          refine J_iload_n (i := 2) (a := 2) rfl rfl (dk_X6_taken 4 _ rfl) ?_
          refine J_bipush (v := 7) (by decide) (dk_X6_taken 5 _ rfl) ?_
          refine J_icT (tgt := 13) (by decide) (dk_X6_taken 7 _ rfl) (jI_lt (rfl : (k : Int32).toInt = (k : Int32).toInt) (by decide : (7 : Int32).toInt = 7) (by omega)) ?_
          refine J_aload_n (i := 0) (a := 0) rfl rfl (dk_X6_taken 13 _ rfl) ?_
          refine J_iload_n (i := 1) (a := 1) rfl rfl (dk_X6_taken 14 _ rfl) ?_
          refine J_cV (rv := some (.int 0)) (h' := hN0) (d' := 11) (As := [.int p]) ok_X6_isPerson vi_X6_isPerson cl_6_79 (n := 1) (by decide +kernel) rfl rfl rfl rfl (by decide) (by decide) (dk_X6_taken 15 _ rfl) ?_ ?_
          · refine jCt_of ok_X6_isPerson (fun _ _ => Nat.le_of_ble_eq_true rfl) (fun _ _ hq => by rw [hq.2]; first | exact Nat.le_refl _ | simp) ?_
            show J _ _ _ _ _ _ _ _ [(0, .ref 0), (1, .int p)] _ _ _
            refine J_iload_n (i := 1) (a := 1) rfl rfl (dk_X6_isPerson 0 _ rfl) ?_
            refine J_ifT (tgt := 19) (by decide) (dk_X6_isPerson 1 _ rfl) (jI_lt (rfl : (p : Int32).toInt = (p : Int32).toInt) (by decide : (0 : Int32).toInt = 0) (by omega)) ?_
            refine J_iconst (v := 0) (by decide) (dk_X6_isPerson 19 _ rfl) ?_
            exact J_iret rfl rfl (dk_X6_isPerson 20 _ rfl) ⟨rfl, rfl⟩
          show J _ _ _ _ _ _ _ _ _ [.int 0] _ _
          refine J_ifF (tgt := 24) (by decide) (dk_X6_taken 18 _ rfl) (fun z => z (jI_eq (by decide : (0 : Int32).toInt = 0) (by decide : (0 : Int32).toInt = 0) (by omega))) ?_
          refine J_bipush (v := (-11)) (by decide) (dk_X6_taken 21 _ rfl) ?_
          exact J_iret rfl rfl (dk_X6_taken 23 _ rfl) ⟨rfl, rfl⟩
        · refine jCt_of ok_X7_taken (fun _ _ => Nat.le_of_ble_eq_true rfl) (fun _ _ hq => Nat.le_of_eq (lM.trans hq.2.symm)) ?_
          show J _ _ _ _ _ _ _ _ [(0, .ref 0), (1, .int p), (2, .int k)] _ _ _
          refine J_aload_n (i := 0) (a := 0) rfl rfl (dk_X7_taken 0 _ rfl) ?_
          refine J_iload_n (i := 2) (a := 2) rfl rfl (dk_X7_taken 1 _ rfl) ?_
          refine J_iconst (v := 0) (by decide) (dk_X7_taken 2 _ rfl) ?_
          refine J_bipush (v := 6) (by decide) (dk_X7_taken 3 _ rfl) ?_
          refine J_cV (rv := some (.int 1)) (h' := hM0) (d' := 11) (As := [.int k, .int 0, .int 6]) ok_X7_in vi_X7_in cl_7_194 (n := 3) (by decide +kernel) rfl rfl rfl rfl (by decide) (by decide) (dk_X7_taken 5 _ rfl) ?_ ?_
          · refine jCt_of ok_X7_in (fun _ _ => Nat.le_of_ble_eq_true rfl) (fun _ _ hq => by rw [hq.2]; first | exact Nat.le_refl _ | simp) ?_
            show J _ _ _ _ _ _ _ _ [(0, .ref 0), (1, .int k), (2, .int 0), (3, .int 6)] _ _ _
            refine J_iload_n (i := 1) (a := 1) rfl rfl (dk_X7_in 0 _ rfl) ?_
            refine J_iload_n (i := 2) (a := 2) rfl rfl (dk_X7_in 1 _ rfl) ?_
            refine J_icF (tgt := 14) (by decide) (dk_X7_in 2 _ rfl) (jI_nlt (rfl : (k : Int32).toInt = (k : Int32).toInt) (by decide : (0 : Int32).toInt = 0) (by omega)) ?_
            refine J_iload_n (i := 1) (a := 1) rfl rfl (dk_X7_in 5 _ rfl) ?_
            refine J_iload_n (i := 3) (a := 3) rfl rfl (dk_X7_in 6 _ rfl) ?_
            refine J_icF (tgt := 14) (by decide) (dk_X7_in 7 _ rfl) (jI_nlt (by decide : (6 : Int32).toInt = 6) (rfl : (k : Int32).toInt = (k : Int32).toInt) (by omega)) ?_
            refine J_iconst (v := 1) (by decide) (dk_X7_in 10 _ rfl) ?_
            refine J_goto (tgt := 15) (by decide) (dk_X7_in 11 _ rfl) ?_
            exact J_iret rfl rfl (dk_X7_in 15 _ rfl) ⟨rfl, rfl⟩
          show J _ _ _ _ _ _ _ _ _ [.int 1] _ _
          refine J_ifT (tgt := 14) (by decide) (dk_X7_taken 8 _ rfl) (jI_ne (by decide : (1 : Int32).toInt = 1) (by decide : (0 : Int32).toInt = 0) (by omega)) ?_
          refine J_aload_n (i := 0) (a := 0) rfl rfl (dk_X7_taken 14 _ rfl) ?_
          refine J_iload_n (i := 1) (a := 1) rfl rfl (dk_X7_taken 15 _ rfl) ?_
          refine J_cV (rv := some (.int 0)) (h' := hM0) (d' := 11) (As := [.int p]) ok_X7_isPerson vi_X7_isPerson cl_7_206 (n := 1) (by decide +kernel) rfl rfl rfl rfl (by decide) (by decide) (dk_X7_taken 16 _ rfl) ?_ ?_
          · refine jCt_of ok_X7_isPerson (fun _ _ => Nat.le_of_ble_eq_true rfl) (fun _ _ hq => by rw [hq.2]; first | exact Nat.le_refl _ | simp) ?_
            show J _ _ _ _ _ _ _ _ [(0, .ref 0), (1, .int p)] _ _ _
            refine J_aload_n (i := 0) (a := 0) rfl rfl (dk_X7_isPerson 0 _ rfl) ?_
            refine J_iload_n (i := 1) (a := 1) rfl rfl (dk_X7_isPerson 1 _ rfl) ?_
            refine J_iconst (v := 0) (by decide) (dk_X7_isPerson 2 _ rfl) ?_
            refine J_aload_n (i := 0) (a := 0) rfl rfl (dk_X7_isPerson 3 _ rfl) ?_
            refine J_getf fl_7_7 rfl rfl (dk_X7_isPerson 4 _ rfl) ?_
            refine J_iconst (v := 1) (by decide) (dk_X7_isPerson 7 _ rfl) ?_
            refine J_isubC (v := (-1)) (by decide) (dk_X7_isPerson 8 _ rfl) ?_
            refine J_cV (rv := some (.int 0)) (h' := hM0) (d' := 10) (As := [.int p, .int 0, .int (-1)]) ok_X7_in vi_X7_in cl_7_194 (n := 3) (by decide +kernel) rfl rfl rfl rfl (by decide) (by decide) (dk_X7_isPerson 9 _ rfl) ?_ ?_
            · refine jCt_of ok_X7_in (fun _ _ => Nat.le_of_ble_eq_true rfl) (fun _ _ hq => by rw [hq.2]; first | exact Nat.le_refl _ | simp) ?_
              show J _ _ _ _ _ _ _ _ [(0, .ref 0), (1, .int p), (2, .int 0), (3, .int (-1))] _ _ _
              refine J_iload_n (i := 1) (a := 1) rfl rfl (dk_X7_in 0 _ rfl) ?_
              refine J_iload_n (i := 2) (a := 2) rfl rfl (dk_X7_in 1 _ rfl) ?_
              refine J_icT (tgt := 14) (by decide) (dk_X7_in 2 _ rfl) (jI_lt (rfl : (p : Int32).toInt = (p : Int32).toInt) (by decide : (0 : Int32).toInt = 0) (by omega)) ?_
              refine J_iconst (v := 0) (by decide) (dk_X7_in 14 _ rfl) ?_
              exact J_iret rfl rfl (dk_X7_in 15 _ rfl) ⟨rfl, rfl⟩
            show J _ _ _ _ _ _ _ _ _ [.int 0] _ _
            exact J_iret rfl rfl (dk_X7_isPerson 12 _ rfl) ⟨rfl, rfl⟩
          show J _ _ _ _ _ _ _ _ _ [.int 0] _ _
          refine J_ifF (tgt := 25) (by decide) (dk_X7_taken 19 _ rfl) (fun z => z (jI_eq (by decide : (0 : Int32).toInt = 0) (by decide : (0 : Int32).toInt = 0) (by omega))) ?_
          refine J_bipush (v := (-11)) (by decide) (dk_X7_taken 22 _ rfl) ?_
          exact J_iret rfl rfl (dk_X7_taken 24 _ rfl) ⟨rfl, rfl⟩
      · refine ⟨(-11), ?_, ?_⟩
        · refine jCt_of ok_X6_taken (fun _ _ => Nat.le_of_ble_eq_true rfl) (fun _ _ hq => Nat.le_of_eq (lX.trans hq.2.symm)) ?_
          show J _ _ _ _ _ _ _ _ [(0, .ref 0), (1, .int p), (2, .int k)] _ _ _
          refine J_iload_n (i := 2) (a := 2) rfl rfl (dk_X6_taken 0 _ rfl) ?_
          refine J_ifF (tgt := 10) (by decide) (dk_X6_taken 1 _ rfl) (jI_nlt (rfl : (k : Int32).toInt = (k : Int32).toInt) (by decide : (0 : Int32).toInt = 0) (by omega)) ?_
          refine J_iload_n (i := 2) (a := 2) rfl rfl (dk_X6_taken 4 _ rfl) ?_
          refine J_bipush (v := 7) (by decide) (dk_X6_taken 5 _ rfl) ?_
          refine J_icT (tgt := 13) (by decide) (dk_X6_taken 7 _ rfl) (jI_lt (rfl : (k : Int32).toInt = (k : Int32).toInt) (by decide : (7 : Int32).toInt = 7) (by omega)) ?_
          refine J_aload_n (i := 0) (a := 0) rfl rfl (dk_X6_taken 13 _ rfl) ?_
          refine J_iload_n (i := 1) (a := 1) rfl rfl (dk_X6_taken 14 _ rfl) ?_
          refine J_cV (rv := some (.int 0)) (h' := hN0) (d' := 11) (As := [.int p]) ok_X6_isPerson vi_X6_isPerson cl_6_79 (n := 1) (by decide +kernel) rfl rfl rfl rfl (by decide) (by decide) (dk_X6_taken 15 _ rfl) ?_ ?_
          · refine jCt_of ok_X6_isPerson (fun _ _ => Nat.le_of_ble_eq_true rfl) (fun _ _ hq => by rw [hq.2]; first | exact Nat.le_refl _ | simp) ?_
            show J _ _ _ _ _ _ _ _ [(0, .ref 0), (1, .int p)] _ _ _
            refine J_iload_n (i := 1) (a := 1) rfl rfl (dk_X6_isPerson 0 _ rfl) ?_
            refine J_ifF (tgt := 19) (by decide) (dk_X6_isPerson 1 _ rfl) (jI_nlt (rfl : (p : Int32).toInt = (p : Int32).toInt) (by decide : (0 : Int32).toInt = 0) (by omega)) ?_
            refine J_iload_n (i := 1) (a := 1) rfl rfl (dk_X6_isPerson 4 _ rfl) ?_
            refine J_aload_n (i := 0) (a := 0) rfl rfl (dk_X6_isPerson 5 _ rfl) ?_
            refine J_getf fl_6_47 rfl rfl (dk_X6_isPerson 6 _ rfl) ?_
            refine J_getf fl_6_71 rfl rfl (dk_X6_isPerson 9 _ rfl) ?_
            refine J_icT (tgt := 19) (by decide) (dk_X6_isPerson 12 _ rfl) (jI_le (by decide : (0 : Int32).toInt = 0) (rfl : (p : Int32).toInt = (p : Int32).toInt) (by omega)) ?_
            refine J_iconst (v := 0) (by decide) (dk_X6_isPerson 19 _ rfl) ?_
            exact J_iret rfl rfl (dk_X6_isPerson 20 _ rfl) ⟨rfl, rfl⟩
          show J _ _ _ _ _ _ _ _ _ [.int 0] _ _
          refine J_ifF (tgt := 24) (by decide) (dk_X6_taken 18 _ rfl) (fun z => z (jI_eq (by decide : (0 : Int32).toInt = 0) (by decide : (0 : Int32).toInt = 0) (by omega))) ?_
          refine J_bipush (v := (-11)) (by decide) (dk_X6_taken 21 _ rfl) ?_
          exact J_iret rfl rfl (dk_X6_taken 23 _ rfl) ⟨rfl, rfl⟩
        · refine jCt_of ok_X7_taken (fun _ _ => Nat.le_of_ble_eq_true rfl) (fun _ _ hq => Nat.le_of_eq (lM.trans hq.2.symm)) ?_
          show J _ _ _ _ _ _ _ _ [(0, .ref 0), (1, .int p), (2, .int k)] _ _ _
          refine J_aload_n (i := 0) (a := 0) rfl rfl (dk_X7_taken 0 _ rfl) ?_
          refine J_iload_n (i := 2) (a := 2) rfl rfl (dk_X7_taken 1 _ rfl) ?_
          refine J_iconst (v := 0) (by decide) (dk_X7_taken 2 _ rfl) ?_
          refine J_bipush (v := 6) (by decide) (dk_X7_taken 3 _ rfl) ?_
          refine J_cV (rv := some (.int 1)) (h' := hM0) (d' := 11) (As := [.int k, .int 0, .int 6]) ok_X7_in vi_X7_in cl_7_194 (n := 3) (by decide +kernel) rfl rfl rfl rfl (by decide) (by decide) (dk_X7_taken 5 _ rfl) ?_ ?_
          · refine jCt_of ok_X7_in (fun _ _ => Nat.le_of_ble_eq_true rfl) (fun _ _ hq => by rw [hq.2]; first | exact Nat.le_refl _ | simp) ?_
            show J _ _ _ _ _ _ _ _ [(0, .ref 0), (1, .int k), (2, .int 0), (3, .int 6)] _ _ _
            refine J_iload_n (i := 1) (a := 1) rfl rfl (dk_X7_in 0 _ rfl) ?_
            refine J_iload_n (i := 2) (a := 2) rfl rfl (dk_X7_in 1 _ rfl) ?_
            refine J_icF (tgt := 14) (by decide) (dk_X7_in 2 _ rfl) (jI_nlt (rfl : (k : Int32).toInt = (k : Int32).toInt) (by decide : (0 : Int32).toInt = 0) (by omega)) ?_
            refine J_iload_n (i := 1) (a := 1) rfl rfl (dk_X7_in 5 _ rfl) ?_
            refine J_iload_n (i := 3) (a := 3) rfl rfl (dk_X7_in 6 _ rfl) ?_
            refine J_icF (tgt := 14) (by decide) (dk_X7_in 7 _ rfl) (jI_nlt (by decide : (6 : Int32).toInt = 6) (rfl : (k : Int32).toInt = (k : Int32).toInt) (by omega)) ?_
            refine J_iconst (v := 1) (by decide) (dk_X7_in 10 _ rfl) ?_
            refine J_goto (tgt := 15) (by decide) (dk_X7_in 11 _ rfl) ?_
            exact J_iret rfl rfl (dk_X7_in 15 _ rfl) ⟨rfl, rfl⟩
          show J _ _ _ _ _ _ _ _ _ [.int 1] _ _
          refine J_ifT (tgt := 14) (by decide) (dk_X7_taken 8 _ rfl) (jI_ne (by decide : (1 : Int32).toInt = 1) (by decide : (0 : Int32).toInt = 0) (by omega)) ?_
          refine J_aload_n (i := 0) (a := 0) rfl rfl (dk_X7_taken 14 _ rfl) ?_
          refine J_iload_n (i := 1) (a := 1) rfl rfl (dk_X7_taken 15 _ rfl) ?_
          refine J_cV (rv := some (.int 0)) (h' := hM0) (d' := 11) (As := [.int p]) ok_X7_isPerson vi_X7_isPerson cl_7_206 (n := 1) (by decide +kernel) rfl rfl rfl rfl (by decide) (by decide) (dk_X7_taken 16 _ rfl) ?_ ?_
          · refine jCt_of ok_X7_isPerson (fun _ _ => Nat.le_of_ble_eq_true rfl) (fun _ _ hq => by rw [hq.2]; first | exact Nat.le_refl _ | simp) ?_
            show J _ _ _ _ _ _ _ _ [(0, .ref 0), (1, .int p)] _ _ _
            refine J_aload_n (i := 0) (a := 0) rfl rfl (dk_X7_isPerson 0 _ rfl) ?_
            refine J_iload_n (i := 1) (a := 1) rfl rfl (dk_X7_isPerson 1 _ rfl) ?_
            refine J_iconst (v := 0) (by decide) (dk_X7_isPerson 2 _ rfl) ?_
            refine J_aload_n (i := 0) (a := 0) rfl rfl (dk_X7_isPerson 3 _ rfl) ?_
            refine J_getf fl_7_7 rfl rfl (dk_X7_isPerson 4 _ rfl) ?_
            refine J_iconst (v := 1) (by decide) (dk_X7_isPerson 7 _ rfl) ?_
            refine J_isubC (v := (-1)) (by decide) (dk_X7_isPerson 8 _ rfl) ?_
            refine J_cV (rv := some (.int 0)) (h' := hM0) (d' := 10) (As := [.int p, .int 0, .int (-1)]) ok_X7_in vi_X7_in cl_7_194 (n := 3) (by decide +kernel) rfl rfl rfl rfl (by decide) (by decide) (dk_X7_isPerson 9 _ rfl) ?_ ?_
            · refine jCt_of ok_X7_in (fun _ _ => Nat.le_of_ble_eq_true rfl) (fun _ _ hq => by rw [hq.2]; first | exact Nat.le_refl _ | simp) ?_
              show J _ _ _ _ _ _ _ _ [(0, .ref 0), (1, .int p), (2, .int 0), (3, .int (-1))] _ _ _
              refine J_iload_n (i := 1) (a := 1) rfl rfl (dk_X7_in 0 _ rfl) ?_
              refine J_iload_n (i := 2) (a := 2) rfl rfl (dk_X7_in 1 _ rfl) ?_
              refine J_icF (tgt := 14) (by decide) (dk_X7_in 2 _ rfl) (jI_nlt (rfl : (p : Int32).toInt = (p : Int32).toInt) (by decide : (0 : Int32).toInt = 0) (by omega)) ?_
              refine J_iload_n (i := 1) (a := 1) rfl rfl (dk_X7_in 5 _ rfl) ?_
              refine J_iload_n (i := 3) (a := 3) rfl rfl (dk_X7_in 6 _ rfl) ?_
              refine J_icT (tgt := 14) (by decide) (dk_X7_in 7 _ rfl) (jI_lt (by decide : ((-1) : Int32).toInt = (-1)) (rfl : (p : Int32).toInt = (p : Int32).toInt) (by omega)) ?_
              refine J_iconst (v := 0) (by decide) (dk_X7_in 14 _ rfl) ?_
              exact J_iret rfl rfl (dk_X7_in 15 _ rfl) ⟨rfl, rfl⟩
            show J _ _ _ _ _ _ _ _ _ [.int 0] _ _
            exact J_iret rfl rfl (dk_X7_isPerson 12 _ rfl) ⟨rfl, rfl⟩
          show J _ _ _ _ _ _ _ _ _ [.int 0] _ _
          refine J_ifF (tgt := 25) (by decide) (dk_X7_taken 19 _ rfl) (fun z => z (jI_eq (by decide : (0 : Int32).toInt = 0) (by decide : (0 : Int32).toInt = 0) (by omega))) ?_
          refine J_bipush (v := (-11)) (by decide) (dk_X7_taken 22 _ rfl) ?_
          exact J_iret rfl rfl (dk_X7_taken 24 _ rfl) ⟨rfl, rfl⟩
    · refine ⟨(-2), ?_, ?_⟩
      · refine jCt_of ok_X6_taken (fun _ _ => Nat.le_of_ble_eq_true rfl) (fun _ _ hq => Nat.le_of_eq (lX.trans hq.2.symm)) ?_
        show J _ _ _ _ _ _ _ _ [(0, .ref 0), (1, .int p), (2, .int k)] _ _ _
        refine J_iload_n (i := 2) (a := 2) rfl rfl (dk_X6_taken 0 _ rfl) ?_
        refine J_ifF (tgt := 10) (by decide) (dk_X6_taken 1 _ rfl) (jI_nlt (rfl : (k : Int32).toInt = (k : Int32).toInt) (by decide : (0 : Int32).toInt = 0) (by omega)) ?_
        refine J_iload_n (i := 2) (a := 2) rfl rfl (dk_X6_taken 4 _ rfl) ?_
        refine J_bipush (v := 7) (by decide) (dk_X6_taken 5 _ rfl) ?_
        refine J_icF (tgt := 13) (by decide) (dk_X6_taken 7 _ rfl) (jI_nlt (rfl : (k : Int32).toInt = (k : Int32).toInt) (by decide : (7 : Int32).toInt = 7) (by omega)) ?_
        refine J_bipush (v := (-2)) (by decide) (dk_X6_taken 10 _ rfl) ?_
        exact J_iret rfl rfl (dk_X6_taken 12 _ rfl) ⟨rfl, rfl⟩
      · refine jCt_of ok_X7_taken (fun _ _ => Nat.le_of_ble_eq_true rfl) (fun _ _ hq => Nat.le_of_eq (lM.trans hq.2.symm)) ?_
        show J _ _ _ _ _ _ _ _ [(0, .ref 0), (1, .int p), (2, .int k)] _ _ _
        refine J_aload_n (i := 0) (a := 0) rfl rfl (dk_X7_taken 0 _ rfl) ?_
        refine J_iload_n (i := 2) (a := 2) rfl rfl (dk_X7_taken 1 _ rfl) ?_
        refine J_iconst (v := 0) (by decide) (dk_X7_taken 2 _ rfl) ?_
        refine J_bipush (v := 6) (by decide) (dk_X7_taken 3 _ rfl) ?_
        refine J_cV (rv := some (.int 0)) (h' := hM0) (d' := 11) (As := [.int k, .int 0, .int 6]) ok_X7_in vi_X7_in cl_7_194 (n := 3) (by decide +kernel) rfl rfl rfl rfl (by decide) (by decide) (dk_X7_taken 5 _ rfl) ?_ ?_
        · refine jCt_of ok_X7_in (fun _ _ => Nat.le_of_ble_eq_true rfl) (fun _ _ hq => by rw [hq.2]; first | exact Nat.le_refl _ | simp) ?_
          show J _ _ _ _ _ _ _ _ [(0, .ref 0), (1, .int k), (2, .int 0), (3, .int 6)] _ _ _
          refine J_iload_n (i := 1) (a := 1) rfl rfl (dk_X7_in 0 _ rfl) ?_
          refine J_iload_n (i := 2) (a := 2) rfl rfl (dk_X7_in 1 _ rfl) ?_
          refine J_icF (tgt := 14) (by decide) (dk_X7_in 2 _ rfl) (jI_nlt (rfl : (k : Int32).toInt = (k : Int32).toInt) (by decide : (0 : Int32).toInt = 0) (by omega)) ?_
          refine J_iload_n (i := 1) (a := 1) rfl rfl (dk_X7_in 5 _ rfl) ?_
          refine J_iload_n (i := 3) (a := 3) rfl rfl (dk_X7_in 6 _ rfl) ?_
          refine J_icT (tgt := 14) (by decide) (dk_X7_in 7 _ rfl) (jI_lt (by decide : (6 : Int32).toInt = 6) (rfl : (k : Int32).toInt = (k : Int32).toInt) (by omega)) ?_
          refine J_iconst (v := 0) (by decide) (dk_X7_in 14 _ rfl) ?_
          exact J_iret rfl rfl (dk_X7_in 15 _ rfl) ⟨rfl, rfl⟩
        show J _ _ _ _ _ _ _ _ _ [.int 0] _ _
        refine J_ifF (tgt := 14) (by decide) (dk_X7_taken 8 _ rfl) (fun z => z (jI_eq (by decide : (0 : Int32).toInt = 0) (by decide : (0 : Int32).toInt = 0) (by omega))) ?_
        refine J_bipush (v := (-2)) (by decide) (dk_X7_taken 11 _ rfl) ?_
        exact J_iret rfl rfl (dk_X7_taken 13 _ rfl) ⟨rfl, rfl⟩
set_option maxHeartbeats 4000000 in
set_option maxRecDepth 1000000 in
theorem o_count (w : Int32) : ∃ rv : Int32, jCt m_X6_count 12 0 0 [.ref 0, .int w] hN0 (jA (.int rv) 94) ∧ jCt m_X7_count 12 0 0 [.ref 0, .int w] hM0 (jA (.int rv) 37) := by
  have r_w := w.toInt_lt; have q_w := w.le_toInt
  by_cases c1 : (w : Int32).toInt < 0
  · refine ⟨(-2), ?_, ?_⟩
    · refine jCt_of ok_X6_count (fun _ _ => Nat.le_of_ble_eq_true rfl) (fun _ _ hq => Nat.le_of_eq (lX.trans hq.2.symm)) ?_
      show J _ _ _ _ _ _ _ _ [(0, .ref 0), (1, .int w)] _ _ _
      refine J_iload_n (i := 1) (a := 1) rfl rfl (dk_X6_count 0 _ rfl) ?_
      refine J_tout (tgt := 73) (by omega) (by decide) (dk_X6_count 1 _ rfl) ?_
      refine J_bipush (v := (-2)) (by decide) (dk_X6_count 73 _ rfl) ?_
      exact J_iret rfl rfl (dk_X6_count 75 _ rfl) ⟨rfl, rfl⟩
    · refine jCt_of ok_X7_count (fun _ _ => Nat.le_of_ble_eq_true rfl) (fun _ _ hq => Nat.le_of_eq (lM.trans hq.2.symm)) ?_
      show J _ _ _ _ _ _ _ _ [(0, .ref 0), (1, .int w)] _ _ _
      refine J_iload_n (i := 1) (a := 1) rfl rfl (dk_X7_count 0 _ rfl) ?_
      refine J_tout (tgt := 61) (by omega) (by decide) (dk_X7_count 1 _ rfl) ?_
      refine J_bipush (v := (-2)) (by decide) (dk_X7_count 61 _ rfl) ?_
      exact J_iret rfl rfl (dk_X7_count 63 _ rfl) ⟨rfl, rfl⟩
  · by_cases c2 : (w : Int32).toInt < 5
    · by_cases c3 : (w : Int32).toInt = 0
      · obtain rfl : w = 0 := jI_eq rfl (by decide) c3
        exact ⟨0, jq2_ct rfl (F := 100000) (d := 12) (mid := 73) (by decide +kernel), jq2_ct rfl (F := 100000) (d := 12) (mid := 179) (by decide +kernel)⟩
      · by_cases c4 : (w : Int32).toInt = 1
        · obtain rfl : w = 1 := jI_eq rfl (by decide) c4
          exact ⟨0, jq2_ct rfl (F := 100000) (d := 12) (mid := 73) (by decide +kernel), jq2_ct rfl (F := 100000) (d := 12) (mid := 179) (by decide +kernel)⟩
        · by_cases c5 : (w : Int32).toInt = 2
          · obtain rfl : w = 2 := jI_eq rfl (by decide) c5
            exact ⟨0, jq2_ct rfl (F := 100000) (d := 12) (mid := 73) (by decide +kernel), jq2_ct rfl (F := 100000) (d := 12) (mid := 179) (by decide +kernel)⟩
          · by_cases c6 : (w : Int32).toInt = 3
            · obtain rfl : w = 3 := jI_eq rfl (by decide) c6
              exact ⟨0, jq2_ct rfl (F := 100000) (d := 12) (mid := 73) (by decide +kernel), jq2_ct rfl (F := 100000) (d := 12) (mid := 179) (by decide +kernel)⟩
            · obtain rfl : w = 4 := jI_eq rfl (by decide) (by omega : (w : Int32).toInt = 4)
              exact ⟨0, jq2_ct rfl (F := 100000) (d := 12) (mid := 73) (by decide +kernel), jq2_ct rfl (F := 100000) (d := 12) (mid := 179) (by decide +kernel)⟩
    · refine ⟨(-2), ?_, ?_⟩
      · refine jCt_of ok_X6_count (fun _ _ => Nat.le_of_ble_eq_true rfl) (fun _ _ hq => Nat.le_of_eq (lX.trans hq.2.symm)) ?_
        show J _ _ _ _ _ _ _ _ [(0, .ref 0), (1, .int w)] _ _ _
        refine J_iload_n (i := 1) (a := 1) rfl rfl (dk_X6_count 0 _ rfl) ?_
        refine J_tout (tgt := 73) (by omega) (by decide) (dk_X6_count 1 _ rfl) ?_
        refine J_bipush (v := (-2)) (by decide) (dk_X6_count 73 _ rfl) ?_
        exact J_iret rfl rfl (dk_X6_count 75 _ rfl) ⟨rfl, rfl⟩
      · refine jCt_of ok_X7_count (fun _ _ => Nat.le_of_ble_eq_true rfl) (fun _ _ hq => Nat.le_of_eq (lM.trans hq.2.symm)) ?_
        show J _ _ _ _ _ _ _ _ [(0, .ref 0), (1, .int w)] _ _ _
        refine J_iload_n (i := 1) (a := 1) rfl rfl (dk_X7_count 0 _ rfl) ?_
        refine J_tout (tgt := 61) (by omega) (by decide) (dk_X7_count 1 _ rfl) ?_
        refine J_bipush (v := (-2)) (by decide) (dk_X7_count 61 _ rfl) ?_
        exact J_iret rfl rfl (dk_X7_count 63 _ rfl) ⟨rfl, rfl⟩
set_option maxHeartbeats 4000000 in
set_option maxRecDepth 1000000 in
theorem o_looked (n : Int32) : ∃ rv : Int32, jCt m_X6_looked 12 0 0 [.ref 0, .int n] hN0 (jA (.int rv) 94) ∧ jCt m_X7_looked 12 0 0 [.ref 0, .int n] hM0 (jA (.int rv) 37) := by
  have r_n := n.toInt_lt; have q_n := n.le_toInt
  by_cases c1 : (n : Int32).toInt < 0
  · refine ⟨(-2), ?_, ?_⟩
    · refine jCt_of ok_X6_looked (fun _ _ => Nat.le_of_ble_eq_true rfl) (fun _ _ hq => Nat.le_of_eq (lX.trans hq.2.symm)) ?_
      show J _ _ _ _ _ _ _ _ [(0, .ref 0), (1, .int n)] _ _ _
      refine J_iload_n (i := 1) (a := 1) rfl rfl (dk_X6_looked 0 _ rfl) ?_
      refine J_ifT (tgt := 10) (by decide) (dk_X6_looked 1 _ rfl) (jI_lt (rfl : (n : Int32).toInt = (n : Int32).toInt) (by decide : (0 : Int32).toInt = 0) (by omega)) ?_
      refine J_bipush (v := (-2)) (by decide) (dk_X6_looked 10 _ rfl) ?_
      exact J_iret rfl rfl (dk_X6_looked 12 _ rfl) ⟨rfl, rfl⟩
    · refine jCt_of ok_X7_looked (fun _ _ => Nat.le_of_ble_eq_true rfl) (fun _ _ hq => Nat.le_of_eq (lM.trans hq.2.symm)) ?_
      show J _ _ _ _ _ _ _ _ [(0, .ref 0), (1, .int n)] _ _ _
      refine J_aload_n (i := 0) (a := 0) rfl rfl (dk_X7_looked 0 _ rfl) ?_
      refine J_iload_n (i := 1) (a := 1) rfl rfl (dk_X7_looked 1 _ rfl) ?_
      refine J_iconst (v := 0) (by decide) (dk_X7_looked 2 _ rfl) ?_
      refine J_bipush (v := 99) (by decide) (dk_X7_looked 3 _ rfl) ?_
      refine J_cV (rv := some (.int 0)) (h' := hM0) (d' := 11) (As := [.int n, .int 0, .int 99]) ok_X7_in vi_X7_in cl_7_194 (n := 3) (by decide +kernel) rfl rfl rfl rfl (by decide) (by decide) (dk_X7_looked 5 _ rfl) ?_ ?_
      · refine jCt_of ok_X7_in (fun _ _ => Nat.le_of_ble_eq_true rfl) (fun _ _ hq => by rw [hq.2]; first | exact Nat.le_refl _ | simp) ?_
        show J _ _ _ _ _ _ _ _ [(0, .ref 0), (1, .int n), (2, .int 0), (3, .int 99)] _ _ _
        refine J_iload_n (i := 1) (a := 1) rfl rfl (dk_X7_in 0 _ rfl) ?_
        refine J_iload_n (i := 2) (a := 2) rfl rfl (dk_X7_in 1 _ rfl) ?_
        refine J_icT (tgt := 14) (by decide) (dk_X7_in 2 _ rfl) (jI_lt (rfl : (n : Int32).toInt = (n : Int32).toInt) (by decide : (0 : Int32).toInt = 0) (by omega)) ?_
        refine J_iconst (v := 0) (by decide) (dk_X7_in 14 _ rfl) ?_
        exact J_iret rfl rfl (dk_X7_in 15 _ rfl) ⟨rfl, rfl⟩
      show J _ _ _ _ _ _ _ _ _ [.int 0] _ _
      refine J_ifF (tgt := 14) (by decide) (dk_X7_looked 8 _ rfl) (fun z => z (jI_eq (by decide : (0 : Int32).toInt = 0) (by decide : (0 : Int32).toInt = 0) (by omega))) ?_
      refine J_bipush (v := (-2)) (by decide) (dk_X7_looked 11 _ rfl) ?_
      exact J_iret rfl rfl (dk_X7_looked 13 _ rfl) ⟨rfl, rfl⟩
  · by_cases c2 : (n : Int32).toInt < 100
    · refine ⟨(-3), ?_, ?_⟩
      · refine jCt_of ok_X6_looked (fun _ _ => Nat.le_of_ble_eq_true rfl) (fun _ _ hq => Nat.le_of_eq (lX.trans hq.2.symm)) ?_
        show J _ _ _ _ _ _ _ _ [(0, .ref 0), (1, .int n)] _ _ _
        refine J_iload_n (i := 1) (a := 1) rfl rfl (dk_X6_looked 0 _ rfl) ?_
        refine J_ifF (tgt := 10) (by decide) (dk_X6_looked 1 _ rfl) (jI_nlt (rfl : (n : Int32).toInt = (n : Int32).toInt) (by decide : (0 : Int32).toInt = 0) (by omega)) ?_
        refine J_iload_n (i := 1) (a := 1) rfl rfl (dk_X6_looked 4 _ rfl) ?_
        refine J_bipush (v := 99) (by decide) (dk_X6_looked 5 _ rfl) ?_
        refine J_icT (tgt := 13) (by decide) (dk_X6_looked 7 _ rfl) (jI_le (rfl : (n : Int32).toInt = (n : Int32).toInt) (by decide : (99 : Int32).toInt = 99) (by omega)) ?_
        refine J_aload_n (i := 0) (a := 0) rfl rfl (dk_X6_looked 13 _ rfl) ?_
        refine J_getf fl_6_47 rfl rfl (dk_X6_looked 14 _ rfl) ?_
        refine J_getf fl_6_71 rfl rfl (dk_X6_looked 17 _ rfl) ?_
        refine J_ifF (tgt := 26) (by decide) (dk_X6_looked 20 _ rfl) (fun z => z (jI_eq (by decide : (0 : Int32).toInt = 0) (by decide : (0 : Int32).toInt = 0) (by omega))) ?_
        refine J_bipush (v := (-3)) (by decide) (dk_X6_looked 23 _ rfl) ?_
        exact J_iret rfl rfl (dk_X6_looked 25 _ rfl) ⟨rfl, rfl⟩
      · refine jCt_of ok_X7_looked (fun _ _ => Nat.le_of_ble_eq_true rfl) (fun _ _ hq => Nat.le_of_eq (lM.trans hq.2.symm)) ?_
        show J _ _ _ _ _ _ _ _ [(0, .ref 0), (1, .int n)] _ _ _
        refine J_aload_n (i := 0) (a := 0) rfl rfl (dk_X7_looked 0 _ rfl) ?_
        refine J_iload_n (i := 1) (a := 1) rfl rfl (dk_X7_looked 1 _ rfl) ?_
        refine J_iconst (v := 0) (by decide) (dk_X7_looked 2 _ rfl) ?_
        refine J_bipush (v := 99) (by decide) (dk_X7_looked 3 _ rfl) ?_
        refine J_cV (rv := some (.int 1)) (h' := hM0) (d' := 11) (As := [.int n, .int 0, .int 99]) ok_X7_in vi_X7_in cl_7_194 (n := 3) (by decide +kernel) rfl rfl rfl rfl (by decide) (by decide) (dk_X7_looked 5 _ rfl) ?_ ?_
        · refine jCt_of ok_X7_in (fun _ _ => Nat.le_of_ble_eq_true rfl) (fun _ _ hq => by rw [hq.2]; first | exact Nat.le_refl _ | simp) ?_
          show J _ _ _ _ _ _ _ _ [(0, .ref 0), (1, .int n), (2, .int 0), (3, .int 99)] _ _ _
          refine J_iload_n (i := 1) (a := 1) rfl rfl (dk_X7_in 0 _ rfl) ?_
          refine J_iload_n (i := 2) (a := 2) rfl rfl (dk_X7_in 1 _ rfl) ?_
          refine J_icF (tgt := 14) (by decide) (dk_X7_in 2 _ rfl) (jI_nlt (rfl : (n : Int32).toInt = (n : Int32).toInt) (by decide : (0 : Int32).toInt = 0) (by omega)) ?_
          refine J_iload_n (i := 1) (a := 1) rfl rfl (dk_X7_in 5 _ rfl) ?_
          refine J_iload_n (i := 3) (a := 3) rfl rfl (dk_X7_in 6 _ rfl) ?_
          refine J_icF (tgt := 14) (by decide) (dk_X7_in 7 _ rfl) (jI_nlt (by decide : (99 : Int32).toInt = 99) (rfl : (n : Int32).toInt = (n : Int32).toInt) (by omega)) ?_
          refine J_iconst (v := 1) (by decide) (dk_X7_in 10 _ rfl) ?_
          refine J_goto (tgt := 15) (by decide) (dk_X7_in 11 _ rfl) ?_
          exact J_iret rfl rfl (dk_X7_in 15 _ rfl) ⟨rfl, rfl⟩
        show J _ _ _ _ _ _ _ _ _ [.int 1] _ _
        refine J_ifT (tgt := 14) (by decide) (dk_X7_looked 8 _ rfl) (jI_ne (by decide : (1 : Int32).toInt = 1) (by decide : (0 : Int32).toInt = 0) (by omega)) ?_
        refine J_aload_n (i := 0) (a := 0) rfl rfl (dk_X7_looked 14 _ rfl) ?_
        refine J_getf fl_7_7 rfl rfl (dk_X7_looked 15 _ rfl) ?_
        refine J_ifF (tgt := 24) (by decide) (dk_X7_looked 18 _ rfl) (fun z => z (jI_eq (by decide : (0 : Int32).toInt = 0) (by decide : (0 : Int32).toInt = 0) (by omega))) ?_
        refine J_bipush (v := (-3)) (by decide) (dk_X7_looked 21 _ rfl) ?_
        exact J_iret rfl rfl (dk_X7_looked 23 _ rfl) ⟨rfl, rfl⟩
    · refine ⟨(-2), ?_, ?_⟩
      · refine jCt_of ok_X6_looked (fun _ _ => Nat.le_of_ble_eq_true rfl) (fun _ _ hq => Nat.le_of_eq (lX.trans hq.2.symm)) ?_
        show J _ _ _ _ _ _ _ _ [(0, .ref 0), (1, .int n)] _ _ _
        refine J_iload_n (i := 1) (a := 1) rfl rfl (dk_X6_looked 0 _ rfl) ?_
        refine J_ifF (tgt := 10) (by decide) (dk_X6_looked 1 _ rfl) (jI_nlt (rfl : (n : Int32).toInt = (n : Int32).toInt) (by decide : (0 : Int32).toInt = 0) (by omega)) ?_
        refine J_iload_n (i := 1) (a := 1) rfl rfl (dk_X6_looked 4 _ rfl) ?_
        refine J_bipush (v := 99) (by decide) (dk_X6_looked 5 _ rfl) ?_
        refine J_icF (tgt := 13) (by decide) (dk_X6_looked 7 _ rfl) (jI_nle (rfl : (n : Int32).toInt = (n : Int32).toInt) (by decide : (99 : Int32).toInt = 99) (by omega)) ?_
        refine J_bipush (v := (-2)) (by decide) (dk_X6_looked 10 _ rfl) ?_
        exact J_iret rfl rfl (dk_X6_looked 12 _ rfl) ⟨rfl, rfl⟩
      · refine jCt_of ok_X7_looked (fun _ _ => Nat.le_of_ble_eq_true rfl) (fun _ _ hq => Nat.le_of_eq (lM.trans hq.2.symm)) ?_
        show J _ _ _ _ _ _ _ _ [(0, .ref 0), (1, .int n)] _ _ _
        refine J_aload_n (i := 0) (a := 0) rfl rfl (dk_X7_looked 0 _ rfl) ?_
        refine J_iload_n (i := 1) (a := 1) rfl rfl (dk_X7_looked 1 _ rfl) ?_
        refine J_iconst (v := 0) (by decide) (dk_X7_looked 2 _ rfl) ?_
        refine J_bipush (v := 99) (by decide) (dk_X7_looked 3 _ rfl) ?_
        refine J_cV (rv := some (.int 0)) (h' := hM0) (d' := 11) (As := [.int n, .int 0, .int 99]) ok_X7_in vi_X7_in cl_7_194 (n := 3) (by decide +kernel) rfl rfl rfl rfl (by decide) (by decide) (dk_X7_looked 5 _ rfl) ?_ ?_
        · refine jCt_of ok_X7_in (fun _ _ => Nat.le_of_ble_eq_true rfl) (fun _ _ hq => by rw [hq.2]; first | exact Nat.le_refl _ | simp) ?_
          show J _ _ _ _ _ _ _ _ [(0, .ref 0), (1, .int n), (2, .int 0), (3, .int 99)] _ _ _
          refine J_iload_n (i := 1) (a := 1) rfl rfl (dk_X7_in 0 _ rfl) ?_
          refine J_iload_n (i := 2) (a := 2) rfl rfl (dk_X7_in 1 _ rfl) ?_
          refine J_icF (tgt := 14) (by decide) (dk_X7_in 2 _ rfl) (jI_nlt (rfl : (n : Int32).toInt = (n : Int32).toInt) (by decide : (0 : Int32).toInt = 0) (by omega)) ?_
          refine J_iload_n (i := 1) (a := 1) rfl rfl (dk_X7_in 5 _ rfl) ?_
          refine J_iload_n (i := 3) (a := 3) rfl rfl (dk_X7_in 6 _ rfl) ?_
          refine J_icT (tgt := 14) (by decide) (dk_X7_in 7 _ rfl) (jI_lt (by decide : (99 : Int32).toInt = 99) (rfl : (n : Int32).toInt = (n : Int32).toInt) (by omega)) ?_
          refine J_iconst (v := 0) (by decide) (dk_X7_in 14 _ rfl) ?_
          exact J_iret rfl rfl (dk_X7_in 15 _ rfl) ⟨rfl, rfl⟩
        show J _ _ _ _ _ _ _ _ _ [.int 0] _ _
        refine J_ifF (tgt := 14) (by decide) (dk_X7_looked 8 _ rfl) (fun z => z (jI_eq (by decide : (0 : Int32).toInt = 0) (by decide : (0 : Int32).toInt = 0) (by omega))) ?_
        refine J_bipush (v := (-2)) (by decide) (dk_X7_looked 11 _ rfl) ?_
        exact J_iret rfl rfl (dk_X7_looked 13 _ rfl) ⟨rfl, rfl⟩
