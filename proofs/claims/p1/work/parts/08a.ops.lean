theorem lX : hN0.length = 94 := rfl
theorem lM : hM0.length = 37 := rfl
set_option maxHeartbeats 4000000 in
set_option maxRecDepth 1000000 in
theorem o_of (p : Int32) (w : Int32) : ∃ v : Value, jCt m_X6_of 12 0 0 [.ref 0, .int p, .int w] hN0 (jA v 94) ∧ jCt m_X7_of 12 0 0 [.ref 0, .int p, .int w] hM0 (jA v 37) := by
  have r_p := p.toInt_lt; have q_p := p.le_toInt
  have r_w := w.toInt_lt; have q_w := w.le_toInt
  by_cases c1 : (p : Int32).toInt < 0
  · refine ⟨.int (-10000001), ?_, ?_⟩
    · refine jCt_of ok_X6_of (fun _ _ => Nat.le_of_ble_eq_true rfl) (fun _ _ hq => Nat.le_of_eq (lX.trans hq.2.symm)) ?_
      show J _ _ _ _ _ _ _ _ [(0, .ref 0), (1, .int p), (2, .int w)] _ _ _
      refine J_aload_n (i := 0) (a := 0) rfl rfl (dk_X6_of 0 _ rfl) ?_
      refine J_iload_n (i := 1) (a := 1) rfl rfl (dk_X6_of 1 _ rfl) ?_
      refine J_cV (rv := some (.int 0)) (h' := hN0) (d' := 11) (As := [.int p]) ok_X6_isPerson vi_X6_isPerson cl_6_79 (n := 1) (by decide +kernel) rfl rfl rfl rfl (by decide) (by decide) (dk_X6_of 2 _ rfl) ?_ ?_
      · refine jCt_of ok_X6_isPerson (fun _ _ => Nat.le_of_ble_eq_true rfl) (fun _ _ hq => by rw [hq.2]; first | exact Nat.le_refl _ | simp) ?_
        show J _ _ _ _ _ _ _ _ [(0, .ref 0), (1, .int p)] _ _ _
        refine J_iload_n (i := 1) (a := 1) rfl rfl (dk_X6_isPerson 0 _ rfl) ?_
        refine J_ifT (tgt := 19) (by decide) (dk_X6_isPerson 1 _ rfl) (jI_lt (rfl : (p : Int32).toInt = (p : Int32).toInt) (by decide : (0 : Int32).toInt = 0) (by omega)) ?_
        refine J_iconst (v := 0) (by decide) (dk_X6_isPerson 19 _ rfl) ?_
        exact J_iret rfl rfl (dk_X6_isPerson 20 _ rfl) ⟨rfl, rfl⟩
      show J _ _ _ _ _ _ _ _ _ [.int 0] _ _
      refine J_ifF (tgt := 11) (by decide) (dk_X6_of 5 _ rfl) (fun z => z (jI_eq (by decide : (0 : Int32).toInt = 0) (by decide : (0 : Int32).toInt = 0) (by omega))) ?_
      refine J_ldc (v := (-10000001)) ct_6_82 (dk_X6_of 8 _ rfl) ?_
      exact J_iret rfl rfl (dk_X6_of 10 _ rfl) ⟨rfl, rfl⟩
    · refine jCt_of ok_X7_of (fun _ _ => Nat.le_of_ble_eq_true rfl) (fun _ _ hq => Nat.le_of_eq (lM.trans hq.2.symm)) ?_
      show J _ _ _ _ _ _ _ _ [(0, .ref 0), (1, .int p), (2, .int w)] _ _ _
      refine J_aload_n (i := 0) (a := 0) rfl rfl (dk_X7_of 0 _ rfl) ?_
      refine J_iload_n (i := 1) (a := 1) rfl rfl (dk_X7_of 1 _ rfl) ?_
      refine J_cV (rv := some (.int 0)) (h' := hM0) (d' := 11) (As := [.int p]) ok_X7_isPerson vi_X7_isPerson cl_7_206 (n := 1) (by decide +kernel) rfl rfl rfl rfl (by decide) (by decide) (dk_X7_of 2 _ rfl) ?_ ?_
      · refine jCt_of ok_X7_isPerson (fun _ _ => Nat.le_of_ble_eq_true rfl) (fun _ _ hq => by rw [hq.2]; first | exact Nat.le_refl _ | simp) ?_
        show J _ _ _ _ _ _ _ _ [(0, .ref 0), (1, .int p)] _ _ _
        refine J_aload_n (i := 0) (a := 0) rfl rfl (dk_X7_isPerson 0 _ rfl) ?_
        refine J_iload_n (i := 1) (a := 1) rfl rfl (dk_X7_isPerson 1 _ rfl) ?_
        refine J_iconst (v := 0) (by decide) (dk_X7_isPerson 2 _ rfl) ?_
        refine J_aload_n (i := 0) (a := 0) rfl rfl (dk_X7_isPerson 3 _ rfl) ?_
        refine J_getf fl_7_7 rfl rfl (dk_X7_isPerson 4 _ rfl) ?_
        refine J_iconst (v := 1) (by decide) (dk_X7_isPerson 7 _ rfl) ?_
        refine J_isubC (v := (-1)) (by decide) (dk_X7_isPerson 8 _ rfl) ?_
        refine J_cV (rv := some (.int 0)) (h' := hM0) (d' := 10) (As := [.int p, .int 0, .int (-1)]) ok_X7_in vi_X7_in cl_7_194 (n := 3) (by decide +kernel) rfl rfl rfl rfl (by decide) (by decide) (dk_X7_isPerson 9 _ rfl) ?_ ?_
        · refine jCt_of ok_X7_in (fun _ _ => Nat.le_of_ble_eq_true rfl) (fun _ _ hq => by rw [hq.2]; first | exact Nat.le_refl _ | simp) ?_
          show J _ _ _ _ _ _ _ _ [(0, .ref 0), (1, .int p), (2, .int 0), (3, .int (-1))] _ _ _
          refine J_iload_n (i := 1) (a := 1) rfl rfl (dk_X7_in 0 _ rfl) ?_
          refine J_iload_n (i := 2) (a := 2) rfl rfl (dk_X7_in 1 _ rfl) ?_
          refine J_icT (tgt := 14) (by decide) (dk_X7_in 2 _ rfl) (jI_lt (rfl : (p : Int32).toInt = (p : Int32).toInt) (by decide : (0 : Int32).toInt = 0) (by omega)) ?_
          refine J_iconst (v := 0) (by decide) (dk_X7_in 14 _ rfl) ?_
          exact J_iret rfl rfl (dk_X7_in 15 _ rfl) ⟨rfl, rfl⟩
        show J _ _ _ _ _ _ _ _ _ [.int 0] _ _
        exact J_iret rfl rfl (dk_X7_isPerson 12 _ rfl) ⟨rfl, rfl⟩
      show J _ _ _ _ _ _ _ _ _ [.int 0] _ _
      refine J_ifF (tgt := 12) (by decide) (dk_X7_of 5 _ rfl) (fun z => z (jI_eq (by decide : (0 : Int32).toInt = 0) (by decide : (0 : Int32).toInt = 0) (by omega))) ?_
      refine J_ldcw (v := (-10000001)) ct_7_291 (dk_X7_of 8 _ rfl) ?_
      exact J_iret rfl rfl (dk_X7_of 11 _ rfl) ⟨rfl, rfl⟩
  · refine ⟨.int (-10000001), ?_, ?_⟩
    · refine jCt_of ok_X6_of (fun _ _ => Nat.le_of_ble_eq_true rfl) (fun _ _ hq => Nat.le_of_eq (lX.trans hq.2.symm)) ?_
      show J _ _ _ _ _ _ _ _ [(0, .ref 0), (1, .int p), (2, .int w)] _ _ _
      refine J_aload_n (i := 0) (a := 0) rfl rfl (dk_X6_of 0 _ rfl) ?_
      refine J_iload_n (i := 1) (a := 1) rfl rfl (dk_X6_of 1 _ rfl) ?_
      refine J_cV (rv := some (.int 0)) (h' := hN0) (d' := 11) (As := [.int p]) ok_X6_isPerson vi_X6_isPerson cl_6_79 (n := 1) (by decide +kernel) rfl rfl rfl rfl (by decide) (by decide) (dk_X6_of 2 _ rfl) ?_ ?_
      · refine jCt_of ok_X6_isPerson (fun _ _ => Nat.le_of_ble_eq_true rfl) (fun _ _ hq => by rw [hq.2]; first | exact Nat.le_refl _ | simp) ?_
        show J _ _ _ _ _ _ _ _ [(0, .ref 0), (1, .int p)] _ _ _
        refine J_iload_n (i := 1) (a := 1) rfl rfl (dk_X6_isPerson 0 _ rfl) ?_
        refine J_ifF (tgt := 19) (by decide) (dk_X6_isPerson 1 _ rfl) (jI_nlt (rfl : (p : Int32).toInt = (p : Int32).toInt) (by decide : (0 : Int32).toInt = 0) (by omega)) ?_
        refine J_iload_n (i := 1) (a := 1) rfl rfl (dk_X6_isPerson 4 _ rfl) ?_
        refine J_aload_n (i := 0) (a := 0) rfl rfl (dk_X6_isPerson 5 _ rfl) ?_
        refine J_getf fl_6_47 rfl rfl (dk_X6_isPerson 6 _ rfl) ?_
        refine J_getf fl_6_71 rfl rfl (dk_X6_isPerson 9 _ rfl) ?_
        refine J_icT (tgt := 19) (by decide) (dk_X6_isPerson 12 _ rfl) (jI_le (by decide : (0 : Int32).toInt = 0) (rfl : (p : Int32).toInt = (p : Int32).toInt) (by omega)) ?_
        refine J_iconst (v := 0) (by decide) (dk_X6_isPerson 19 _ rfl) ?_
        exact J_iret rfl rfl (dk_X6_isPerson 20 _ rfl) ⟨rfl, rfl⟩
      show J _ _ _ _ _ _ _ _ _ [.int 0] _ _
      refine J_ifF (tgt := 11) (by decide) (dk_X6_of 5 _ rfl) (fun z => z (jI_eq (by decide : (0 : Int32).toInt = 0) (by decide : (0 : Int32).toInt = 0) (by omega))) ?_
      refine J_ldc (v := (-10000001)) ct_6_82 (dk_X6_of 8 _ rfl) ?_
      exact J_iret rfl rfl (dk_X6_of 10 _ rfl) ⟨rfl, rfl⟩
    · refine jCt_of ok_X7_of (fun _ _ => Nat.le_of_ble_eq_true rfl) (fun _ _ hq => Nat.le_of_eq (lM.trans hq.2.symm)) ?_
      show J _ _ _ _ _ _ _ _ [(0, .ref 0), (1, .int p), (2, .int w)] _ _ _
      refine J_aload_n (i := 0) (a := 0) rfl rfl (dk_X7_of 0 _ rfl) ?_
      refine J_iload_n (i := 1) (a := 1) rfl rfl (dk_X7_of 1 _ rfl) ?_
      refine J_cV (rv := some (.int 0)) (h' := hM0) (d' := 11) (As := [.int p]) ok_X7_isPerson vi_X7_isPerson cl_7_206 (n := 1) (by decide +kernel) rfl rfl rfl rfl (by decide) (by decide) (dk_X7_of 2 _ rfl) ?_ ?_
      · refine jCt_of ok_X7_isPerson (fun _ _ => Nat.le_of_ble_eq_true rfl) (fun _ _ hq => by rw [hq.2]; first | exact Nat.le_refl _ | simp) ?_
        show J _ _ _ _ _ _ _ _ [(0, .ref 0), (1, .int p)] _ _ _
        refine J_aload_n (i := 0) (a := 0) rfl rfl (dk_X7_isPerson 0 _ rfl) ?_
        refine J_iload_n (i := 1) (a := 1) rfl rfl (dk_X7_isPerson 1 _ rfl) ?_
        refine J_iconst (v := 0) (by decide) (dk_X7_isPerson 2 _ rfl) ?_
        refine J_aload_n (i := 0) (a := 0) rfl rfl (dk_X7_isPerson 3 _ rfl) ?_
        refine J_getf fl_7_7 rfl rfl (dk_X7_isPerson 4 _ rfl) ?_
        refine J_iconst (v := 1) (by decide) (dk_X7_isPerson 7 _ rfl) ?_
        refine J_isubC (v := (-1)) (by decide) (dk_X7_isPerson 8 _ rfl) ?_
        refine J_cV (rv := some (.int 0)) (h' := hM0) (d' := 10) (As := [.int p, .int 0, .int (-1)]) ok_X7_in vi_X7_in cl_7_194 (n := 3) (by decide +kernel) rfl rfl rfl rfl (by decide) (by decide) (dk_X7_isPerson 9 _ rfl) ?_ ?_
        · refine jCt_of ok_X7_in (fun _ _ => Nat.le_of_ble_eq_true rfl) (fun _ _ hq => by rw [hq.2]; first | exact Nat.le_refl _ | simp) ?_
          show J _ _ _ _ _ _ _ _ [(0, .ref 0), (1, .int p), (2, .int 0), (3, .int (-1))] _ _ _
          refine J_iload_n (i := 1) (a := 1) rfl rfl (dk_X7_in 0 _ rfl) ?_
          refine J_iload_n (i := 2) (a := 2) rfl rfl (dk_X7_in 1 _ rfl) ?_
          refine J_icF (tgt := 14) (by decide) (dk_X7_in 2 _ rfl) (jI_nlt (rfl : (p : Int32).toInt = (p : Int32).toInt) (by decide : (0 : Int32).toInt = 0) (by omega)) ?_
          refine J_iload_n (i := 1) (a := 1) rfl rfl (dk_X7_in 5 _ rfl) ?_
          refine J_iload_n (i := 3) (a := 3) rfl rfl (dk_X7_in 6 _ rfl) ?_
          refine J_icT (tgt := 14) (by decide) (dk_X7_in 7 _ rfl) (jI_lt (by decide : ((-1) : Int32).toInt = (-1)) (rfl : (p : Int32).toInt = (p : Int32).toInt) (by omega)) ?_
          refine J_iconst (v := 0) (by decide) (dk_X7_in 14 _ rfl) ?_
          exact J_iret rfl rfl (dk_X7_in 15 _ rfl) ⟨rfl, rfl⟩
        show J _ _ _ _ _ _ _ _ _ [.int 0] _ _
        exact J_iret rfl rfl (dk_X7_isPerson 12 _ rfl) ⟨rfl, rfl⟩
      show J _ _ _ _ _ _ _ _ _ [.int 0] _ _
      refine J_ifF (tgt := 12) (by decide) (dk_X7_of 5 _ rfl) (fun z => z (jI_eq (by decide : (0 : Int32).toInt = 0) (by decide : (0 : Int32).toInt = 0) (by omega))) ?_
      refine J_ldcw (v := (-10000001)) ct_7_291 (dk_X7_of 8 _ rfl) ?_
      exact J_iret rfl rfl (dk_X7_of 11 _ rfl) ⟨rfl, rfl⟩
set_option maxHeartbeats 4000000 in
set_option maxRecDepth 1000000 in
theorem o_set (p : Int32) (w : Int32) (n : Int32) : ∃ v : Value, jCt m_X6_set 12 0 0 [.ref 0, .int p, .int w, .int n] hN0 (jA v 94) ∧ jCt m_X7_set 12 0 0 [.ref 0, .int p, .int w, .int n] hM0 (jA v 37) := by
  have r_p := p.toInt_lt; have q_p := p.le_toInt
  have r_w := w.toInt_lt; have q_w := w.le_toInt
  have r_n := n.toInt_lt; have q_n := n.le_toInt
  by_cases c1 : (p : Int32).toInt < 0
  · refine ⟨.int (-1), ?_, ?_⟩
    · refine jCt_of ok_X6_set (fun _ _ => Nat.le_of_ble_eq_true rfl) (fun _ _ hq => Nat.le_of_eq (lX.trans hq.2.symm)) ?_
      show J _ _ _ _ _ _ _ _ [(0, .ref 0), (1, .int p), (2, .int w), (3, .int n)] _ _ _
      refine J_aload_n (i := 0) (a := 0) rfl rfl (dk_X6_set 0 _ rfl) ?_
      refine J_iload_n (i := 1) (a := 1) rfl rfl (dk_X6_set 1 _ rfl) ?_
      refine J_cV (rv := some (.int 0)) (h' := hN0) (d' := 11) (As := [.int p]) ok_X6_isPerson vi_X6_isPerson cl_6_79 (n := 1) (by decide +kernel) rfl rfl rfl rfl (by decide) (by decide) (dk_X6_set 2 _ rfl) ?_ ?_
      · refine jCt_of ok_X6_isPerson (fun _ _ => Nat.le_of_ble_eq_true rfl) (fun _ _ hq => by rw [hq.2]; first | exact Nat.le_refl _ | simp) ?_
        show J _ _ _ _ _ _ _ _ [(0, .ref 0), (1, .int p)] _ _ _
        refine J_iload_n (i := 1) (a := 1) rfl rfl (dk_X6_isPerson 0 _ rfl) ?_
        refine J_ifT (tgt := 19) (by decide) (dk_X6_isPerson 1 _ rfl) (jI_lt (rfl : (p : Int32).toInt = (p : Int32).toInt) (by decide : (0 : Int32).toInt = 0) (by omega)) ?_
        refine J_iconst (v := 0) (by decide) (dk_X6_isPerson 19 _ rfl) ?_
        exact J_iret rfl rfl (dk_X6_isPerson 20 _ rfl) ⟨rfl, rfl⟩
      show J _ _ _ _ _ _ _ _ _ [.int 0] _ _
      refine J_ifT (tgt := 17) (by decide) (dk_X6_set 5 _ rfl) (jI_eq (by decide : (0 : Int32).toInt = 0) (by decide : (0 : Int32).toInt = 0) (by omega)) ?_
      refine J_iconst (v := (-1)) (by decide) (dk_X6_set 17 _ rfl) ?_
      exact J_iret rfl rfl (dk_X6_set 18 _ rfl) ⟨rfl, rfl⟩
    · refine jCt_of ok_X7_set (fun _ _ => Nat.le_of_ble_eq_true rfl) (fun _ _ hq => Nat.le_of_eq (lM.trans hq.2.symm)) ?_
      show J _ _ _ _ _ _ _ _ [(0, .ref 0), (1, .int p), (2, .int w), (3, .int n)] _ _ _
      refine J_aload_n (i := 0) (a := 0) rfl rfl (dk_X7_set 0 _ rfl) ?_
      refine J_iload_n (i := 1) (a := 1) rfl rfl (dk_X7_set 1 _ rfl) ?_
      refine J_cV (rv := some (.int 0)) (h' := hM0) (d' := 11) (As := [.int p]) ok_X7_isPerson vi_X7_isPerson cl_7_206 (n := 1) (by decide +kernel) rfl rfl rfl rfl (by decide) (by decide) (dk_X7_set 2 _ rfl) ?_ ?_
      · refine jCt_of ok_X7_isPerson (fun _ _ => Nat.le_of_ble_eq_true rfl) (fun _ _ hq => by rw [hq.2]; first | exact Nat.le_refl _ | simp) ?_
        show J _ _ _ _ _ _ _ _ [(0, .ref 0), (1, .int p)] _ _ _
        refine J_aload_n (i := 0) (a := 0) rfl rfl (dk_X7_isPerson 0 _ rfl) ?_
        refine J_iload_n (i := 1) (a := 1) rfl rfl (dk_X7_isPerson 1 _ rfl) ?_
        refine J_iconst (v := 0) (by decide) (dk_X7_isPerson 2 _ rfl) ?_
        refine J_aload_n (i := 0) (a := 0) rfl rfl (dk_X7_isPerson 3 _ rfl) ?_
        refine J_getf fl_7_7 rfl rfl (dk_X7_isPerson 4 _ rfl) ?_
        refine J_iconst (v := 1) (by decide) (dk_X7_isPerson 7 _ rfl) ?_
        refine J_isubC (v := (-1)) (by decide) (dk_X7_isPerson 8 _ rfl) ?_
        refine J_cV (rv := some (.int 0)) (h' := hM0) (d' := 10) (As := [.int p, .int 0, .int (-1)]) ok_X7_in vi_X7_in cl_7_194 (n := 3) (by decide +kernel) rfl rfl rfl rfl (by decide) (by decide) (dk_X7_isPerson 9 _ rfl) ?_ ?_
        · refine jCt_of ok_X7_in (fun _ _ => Nat.le_of_ble_eq_true rfl) (fun _ _ hq => by rw [hq.2]; first | exact Nat.le_refl _ | simp) ?_
          show J _ _ _ _ _ _ _ _ [(0, .ref 0), (1, .int p), (2, .int 0), (3, .int (-1))] _ _ _
          refine J_iload_n (i := 1) (a := 1) rfl rfl (dk_X7_in 0 _ rfl) ?_
          refine J_iload_n (i := 2) (a := 2) rfl rfl (dk_X7_in 1 _ rfl) ?_
          refine J_icT (tgt := 14) (by decide) (dk_X7_in 2 _ rfl) (jI_lt (rfl : (p : Int32).toInt = (p : Int32).toInt) (by decide : (0 : Int32).toInt = 0) (by omega)) ?_
          refine J_iconst (v := 0) (by decide) (dk_X7_in 14 _ rfl) ?_
          exact J_iret rfl rfl (dk_X7_in 15 _ rfl) ⟨rfl, rfl⟩
        show J _ _ _ _ _ _ _ _ _ [.int 0] _ _
        exact J_iret rfl rfl (dk_X7_isPerson 12 _ rfl) ⟨rfl, rfl⟩
      show J _ _ _ _ _ _ _ _ _ [.int 0] _ _
      refine J_ifT (tgt := 18) (by decide) (dk_X7_set 5 _ rfl) (jI_eq (by decide : (0 : Int32).toInt = 0) (by decide : (0 : Int32).toInt = 0) (by omega)) ?_
      refine J_iconst (v := (-1)) (by decide) (dk_X7_set 18 _ rfl) ?_
      exact J_iret rfl rfl (dk_X7_set 19 _ rfl) ⟨rfl, rfl⟩
  · refine ⟨.int (-1), ?_, ?_⟩
    · refine jCt_of ok_X6_set (fun _ _ => Nat.le_of_ble_eq_true rfl) (fun _ _ hq => Nat.le_of_eq (lX.trans hq.2.symm)) ?_
      show J _ _ _ _ _ _ _ _ [(0, .ref 0), (1, .int p), (2, .int w), (3, .int n)] _ _ _
      refine J_aload_n (i := 0) (a := 0) rfl rfl (dk_X6_set 0 _ rfl) ?_
      refine J_iload_n (i := 1) (a := 1) rfl rfl (dk_X6_set 1 _ rfl) ?_
      refine J_cV (rv := some (.int 0)) (h' := hN0) (d' := 11) (As := [.int p]) ok_X6_isPerson vi_X6_isPerson cl_6_79 (n := 1) (by decide +kernel) rfl rfl rfl rfl (by decide) (by decide) (dk_X6_set 2 _ rfl) ?_ ?_
      · refine jCt_of ok_X6_isPerson (fun _ _ => Nat.le_of_ble_eq_true rfl) (fun _ _ hq => by rw [hq.2]; first | exact Nat.le_refl _ | simp) ?_
        show J _ _ _ _ _ _ _ _ [(0, .ref 0), (1, .int p)] _ _ _
        refine J_iload_n (i := 1) (a := 1) rfl rfl (dk_X6_isPerson 0 _ rfl) ?_
        refine J_ifF (tgt := 19) (by decide) (dk_X6_isPerson 1 _ rfl) (jI_nlt (rfl : (p : Int32).toInt = (p : Int32).toInt) (by decide : (0 : Int32).toInt = 0) (by omega)) ?_
        refine J_iload_n (i := 1) (a := 1) rfl rfl (dk_X6_isPerson 4 _ rfl) ?_
        refine J_aload_n (i := 0) (a := 0) rfl rfl (dk_X6_isPerson 5 _ rfl) ?_
        refine J_getf fl_6_47 rfl rfl (dk_X6_isPerson 6 _ rfl) ?_
        refine J_getf fl_6_71 rfl rfl (dk_X6_isPerson 9 _ rfl) ?_
        refine J_icT (tgt := 19) (by decide) (dk_X6_isPerson 12 _ rfl) (jI_le (by decide : (0 : Int32).toInt = 0) (rfl : (p : Int32).toInt = (p : Int32).toInt) (by omega)) ?_
        refine J_iconst (v := 0) (by decide) (dk_X6_isPerson 19 _ rfl) ?_
        exact J_iret rfl rfl (dk_X6_isPerson 20 _ rfl) ⟨rfl, rfl⟩
      show J _ _ _ _ _ _ _ _ _ [.int 0] _ _
      refine J_ifT (tgt := 17) (by decide) (dk_X6_set 5 _ rfl) (jI_eq (by decide : (0 : Int32).toInt = 0) (by decide : (0 : Int32).toInt = 0) (by omega)) ?_
      refine J_iconst (v := (-1)) (by decide) (dk_X6_set 17 _ rfl) ?_
      exact J_iret rfl rfl (dk_X6_set 18 _ rfl) ⟨rfl, rfl⟩
    · refine jCt_of ok_X7_set (fun _ _ => Nat.le_of_ble_eq_true rfl) (fun _ _ hq => Nat.le_of_eq (lM.trans hq.2.symm)) ?_
      show J _ _ _ _ _ _ _ _ [(0, .ref 0), (1, .int p), (2, .int w), (3, .int n)] _ _ _
      refine J_aload_n (i := 0) (a := 0) rfl rfl (dk_X7_set 0 _ rfl) ?_
      refine J_iload_n (i := 1) (a := 1) rfl rfl (dk_X7_set 1 _ rfl) ?_
      refine J_cV (rv := some (.int 0)) (h' := hM0) (d' := 11) (As := [.int p]) ok_X7_isPerson vi_X7_isPerson cl_7_206 (n := 1) (by decide +kernel) rfl rfl rfl rfl (by decide) (by decide) (dk_X7_set 2 _ rfl) ?_ ?_
      · refine jCt_of ok_X7_isPerson (fun _ _ => Nat.le_of_ble_eq_true rfl) (fun _ _ hq => by rw [hq.2]; first | exact Nat.le_refl _ | simp) ?_
        show J _ _ _ _ _ _ _ _ [(0, .ref 0), (1, .int p)] _ _ _
        refine J_aload_n (i := 0) (a := 0) rfl rfl (dk_X7_isPerson 0 _ rfl) ?_
        refine J_iload_n (i := 1) (a := 1) rfl rfl (dk_X7_isPerson 1 _ rfl) ?_
        refine J_iconst (v := 0) (by decide) (dk_X7_isPerson 2 _ rfl) ?_
        refine J_aload_n (i := 0) (a := 0) rfl rfl (dk_X7_isPerson 3 _ rfl) ?_
        refine J_getf fl_7_7 rfl rfl (dk_X7_isPerson 4 _ rfl) ?_
        refine J_iconst (v := 1) (by decide) (dk_X7_isPerson 7 _ rfl) ?_
        refine J_isubC (v := (-1)) (by decide) (dk_X7_isPerson 8 _ rfl) ?_
        refine J_cV (rv := some (.int 0)) (h' := hM0) (d' := 10) (As := [.int p, .int 0, .int (-1)]) ok_X7_in vi_X7_in cl_7_194 (n := 3) (by decide +kernel) rfl rfl rfl rfl (by decide) (by decide) (dk_X7_isPerson 9 _ rfl) ?_ ?_
        · refine jCt_of ok_X7_in (fun _ _ => Nat.le_of_ble_eq_true rfl) (fun _ _ hq => by rw [hq.2]; first | exact Nat.le_refl _ | simp) ?_
          show J _ _ _ _ _ _ _ _ [(0, .ref 0), (1, .int p), (2, .int 0), (3, .int (-1))] _ _ _
          refine J_iload_n (i := 1) (a := 1) rfl rfl (dk_X7_in 0 _ rfl) ?_
          refine J_iload_n (i := 2) (a := 2) rfl rfl (dk_X7_in 1 _ rfl) ?_
          refine J_icF (tgt := 14) (by decide) (dk_X7_in 2 _ rfl) (jI_nlt (rfl : (p : Int32).toInt = (p : Int32).toInt) (by decide : (0 : Int32).toInt = 0) (by omega)) ?_
          refine J_iload_n (i := 1) (a := 1) rfl rfl (dk_X7_in 5 _ rfl) ?_
          refine J_iload_n (i := 3) (a := 3) rfl rfl (dk_X7_in 6 _ rfl) ?_
          refine J_icT (tgt := 14) (by decide) (dk_X7_in 7 _ rfl) (jI_lt (by decide : ((-1) : Int32).toInt = (-1)) (rfl : (p : Int32).toInt = (p : Int32).toInt) (by omega)) ?_
          refine J_iconst (v := 0) (by decide) (dk_X7_in 14 _ rfl) ?_
          exact J_iret rfl rfl (dk_X7_in 15 _ rfl) ⟨rfl, rfl⟩
        show J _ _ _ _ _ _ _ _ _ [.int 0] _ _
        exact J_iret rfl rfl (dk_X7_isPerson 12 _ rfl) ⟨rfl, rfl⟩
      show J _ _ _ _ _ _ _ _ _ [.int 0] _ _
      refine J_ifT (tgt := 18) (by decide) (dk_X7_set 5 _ rfl) (jI_eq (by decide : (0 : Int32).toInt = 0) (by decide : (0 : Int32).toInt = 0) (by omega)) ?_
      refine J_iconst (v := (-1)) (by decide) (dk_X7_set 18 _ rfl) ?_
      exact J_iret rfl rfl (dk_X7_set 19 _ rfl) ⟨rfl, rfl⟩
set_option maxHeartbeats 4000000 in
set_option maxRecDepth 1000000 in
theorem o_years (p : Int32) : ∃ v : Value, jCt m_X6_years 12 0 0 [.ref 0, .int p] hN0 (jA v 94) ∧ jCt m_X7_years 12 0 0 [.ref 0, .int p] hM0 (jA v 37) := by
  have r_p := p.toInt_lt; have q_p := p.le_toInt
  by_cases c1 : (p : Int32).toInt < 0
  · refine ⟨.int (-10000001), ?_, ?_⟩
    · refine jCt_of ok_X6_years (fun _ _ => Nat.le_of_ble_eq_true rfl) (fun _ _ hq => Nat.le_of_eq (lX.trans hq.2.symm)) ?_
      show J _ _ _ _ _ _ _ _ [(0, .ref 0), (1, .int p)] _ _ _
      refine J_aload_n (i := 0) (a := 0) rfl rfl (dk_X6_years 0 _ rfl) ?_
      refine J_iload_n (i := 1) (a := 1) rfl rfl (dk_X6_years 1 _ rfl) ?_
      refine J_cV (rv := some (.int 0)) (h' := hN0) (d' := 11) (As := [.int p]) ok_X6_isPerson vi_X6_isPerson cl_6_79 (n := 1) (by decide +kernel) rfl rfl rfl rfl (by decide) (by decide) (dk_X6_years 2 _ rfl) ?_ ?_
      · refine jCt_of ok_X6_isPerson (fun _ _ => Nat.le_of_ble_eq_true rfl) (fun _ _ hq => by rw [hq.2]; first | exact Nat.le_refl _ | simp) ?_
        show J _ _ _ _ _ _ _ _ [(0, .ref 0), (1, .int p)] _ _ _
        refine J_iload_n (i := 1) (a := 1) rfl rfl (dk_X6_isPerson 0 _ rfl) ?_
        refine J_ifT (tgt := 19) (by decide) (dk_X6_isPerson 1 _ rfl) (jI_lt (rfl : (p : Int32).toInt = (p : Int32).toInt) (by decide : (0 : Int32).toInt = 0) (by omega)) ?_
        refine J_iconst (v := 0) (by decide) (dk_X6_isPerson 19 _ rfl) ?_
        exact J_iret rfl rfl (dk_X6_isPerson 20 _ rfl) ⟨rfl, rfl⟩
      show J _ _ _ _ _ _ _ _ _ [.int 0] _ _
      refine J_ifF (tgt := 11) (by decide) (dk_X6_years 5 _ rfl) (fun z => z (jI_eq (by decide : (0 : Int32).toInt = 0) (by decide : (0 : Int32).toInt = 0) (by omega))) ?_
      refine J_ldc (v := (-10000001)) ct_6_82 (dk_X6_years 8 _ rfl) ?_
      exact J_iret rfl rfl (dk_X6_years 10 _ rfl) ⟨rfl, rfl⟩
    · refine jCt_of ok_X7_years (fun _ _ => Nat.le_of_ble_eq_true rfl) (fun _ _ hq => Nat.le_of_eq (lM.trans hq.2.symm)) ?_
      show J _ _ _ _ _ _ _ _ [(0, .ref 0), (1, .int p)] _ _ _
      refine J_aload_n (i := 0) (a := 0) rfl rfl (dk_X7_years 0 _ rfl) ?_
      refine J_iload_n (i := 1) (a := 1) rfl rfl (dk_X7_years 1 _ rfl) ?_
      refine J_cV (rv := some (.int 0)) (h' := hM0) (d' := 11) (As := [.int p]) ok_X7_isPerson vi_X7_isPerson cl_7_206 (n := 1) (by decide +kernel) rfl rfl rfl rfl (by decide) (by decide) (dk_X7_years 2 _ rfl) ?_ ?_
      · refine jCt_of ok_X7_isPerson (fun _ _ => Nat.le_of_ble_eq_true rfl) (fun _ _ hq => by rw [hq.2]; first | exact Nat.le_refl _ | simp) ?_
        show J _ _ _ _ _ _ _ _ [(0, .ref 0), (1, .int p)] _ _ _
        refine J_aload_n (i := 0) (a := 0) rfl rfl (dk_X7_isPerson 0 _ rfl) ?_
        refine J_iload_n (i := 1) (a := 1) rfl rfl (dk_X7_isPerson 1 _ rfl) ?_
        refine J_iconst (v := 0) (by decide) (dk_X7_isPerson 2 _ rfl) ?_
        refine J_aload_n (i := 0) (a := 0) rfl rfl (dk_X7_isPerson 3 _ rfl) ?_
        refine J_getf fl_7_7 rfl rfl (dk_X7_isPerson 4 _ rfl) ?_
        refine J_iconst (v := 1) (by decide) (dk_X7_isPerson 7 _ rfl) ?_
        refine J_isubC (v := (-1)) (by decide) (dk_X7_isPerson 8 _ rfl) ?_
        refine J_cV (rv := some (.int 0)) (h' := hM0) (d' := 10) (As := [.int p, .int 0, .int (-1)]) ok_X7_in vi_X7_in cl_7_194 (n := 3) (by decide +kernel) rfl rfl rfl rfl (by decide) (by decide) (dk_X7_isPerson 9 _ rfl) ?_ ?_
        · refine jCt_of ok_X7_in (fun _ _ => Nat.le_of_ble_eq_true rfl) (fun _ _ hq => by rw [hq.2]; first | exact Nat.le_refl _ | simp) ?_
          show J _ _ _ _ _ _ _ _ [(0, .ref 0), (1, .int p), (2, .int 0), (3, .int (-1))] _ _ _
          refine J_iload_n (i := 1) (a := 1) rfl rfl (dk_X7_in 0 _ rfl) ?_
          refine J_iload_n (i := 2) (a := 2) rfl rfl (dk_X7_in 1 _ rfl) ?_
          refine J_icT (tgt := 14) (by decide) (dk_X7_in 2 _ rfl) (jI_lt (rfl : (p : Int32).toInt = (p : Int32).toInt) (by decide : (0 : Int32).toInt = 0) (by omega)) ?_
          refine J_iconst (v := 0) (by decide) (dk_X7_in 14 _ rfl) ?_
          exact J_iret rfl rfl (dk_X7_in 15 _ rfl) ⟨rfl, rfl⟩
        show J _ _ _ _ _ _ _ _ _ [.int 0] _ _
        exact J_iret rfl rfl (dk_X7_isPerson 12 _ rfl) ⟨rfl, rfl⟩
      show J _ _ _ _ _ _ _ _ _ [.int 0] _ _
      refine J_ifT (tgt := 16) (by decide) (dk_X7_years 5 _ rfl) (jI_eq (by decide : (0 : Int32).toInt = 0) (by decide : (0 : Int32).toInt = 0) (by omega)) ?_
      refine J_ldcw (v := (-10000001)) ct_7_291 (dk_X7_years 16 _ rfl) ?_
      exact J_iret rfl rfl (dk_X7_years 19 _ rfl) ⟨rfl, rfl⟩
  · refine ⟨.int (-10000001), ?_, ?_⟩
    · refine jCt_of ok_X6_years (fun _ _ => Nat.le_of_ble_eq_true rfl) (fun _ _ hq => Nat.le_of_eq (lX.trans hq.2.symm)) ?_
      show J _ _ _ _ _ _ _ _ [(0, .ref 0), (1, .int p)] _ _ _
      refine J_aload_n (i := 0) (a := 0) rfl rfl (dk_X6_years 0 _ rfl) ?_
      refine J_iload_n (i := 1) (a := 1) rfl rfl (dk_X6_years 1 _ rfl) ?_
      refine J_cV (rv := some (.int 0)) (h' := hN0) (d' := 11) (As := [.int p]) ok_X6_isPerson vi_X6_isPerson cl_6_79 (n := 1) (by decide +kernel) rfl rfl rfl rfl (by decide) (by decide) (dk_X6_years 2 _ rfl) ?_ ?_
      · refine jCt_of ok_X6_isPerson (fun _ _ => Nat.le_of_ble_eq_true rfl) (fun _ _ hq => by rw [hq.2]; first | exact Nat.le_refl _ | simp) ?_
        show J _ _ _ _ _ _ _ _ [(0, .ref 0), (1, .int p)] _ _ _
        refine J_iload_n (i := 1) (a := 1) rfl rfl (dk_X6_isPerson 0 _ rfl) ?_
        refine J_ifF (tgt := 19) (by decide) (dk_X6_isPerson 1 _ rfl) (jI_nlt (rfl : (p : Int32).toInt = (p : Int32).toInt) (by decide : (0 : Int32).toInt = 0) (by omega)) ?_
        refine J_iload_n (i := 1) (a := 1) rfl rfl (dk_X6_isPerson 4 _ rfl) ?_
        refine J_aload_n (i := 0) (a := 0) rfl rfl (dk_X6_isPerson 5 _ rfl) ?_
        refine J_getf fl_6_47 rfl rfl (dk_X6_isPerson 6 _ rfl) ?_
        refine J_getf fl_6_71 rfl rfl (dk_X6_isPerson 9 _ rfl) ?_
        refine J_icT (tgt := 19) (by decide) (dk_X6_isPerson 12 _ rfl) (jI_le (by decide : (0 : Int32).toInt = 0) (rfl : (p : Int32).toInt = (p : Int32).toInt) (by omega)) ?_
        refine J_iconst (v := 0) (by decide) (dk_X6_isPerson 19 _ rfl) ?_
        exact J_iret rfl rfl (dk_X6_isPerson 20 _ rfl) ⟨rfl, rfl⟩
      show J _ _ _ _ _ _ _ _ _ [.int 0] _ _
      refine J_ifF (tgt := 11) (by decide) (dk_X6_years 5 _ rfl) (fun z => z (jI_eq (by decide : (0 : Int32).toInt = 0) (by decide : (0 : Int32).toInt = 0) (by omega))) ?_
      refine J_ldc (v := (-10000001)) ct_6_82 (dk_X6_years 8 _ rfl) ?_
      exact J_iret rfl rfl (dk_X6_years 10 _ rfl) ⟨rfl, rfl⟩
    · refine jCt_of ok_X7_years (fun _ _ => Nat.le_of_ble_eq_true rfl) (fun _ _ hq => Nat.le_of_eq (lM.trans hq.2.symm)) ?_
      show J _ _ _ _ _ _ _ _ [(0, .ref 0), (1, .int p)] _ _ _
      refine J_aload_n (i := 0) (a := 0) rfl rfl (dk_X7_years 0 _ rfl) ?_
      refine J_iload_n (i := 1) (a := 1) rfl rfl (dk_X7_years 1 _ rfl) ?_
      refine J_cV (rv := some (.int 0)) (h' := hM0) (d' := 11) (As := [.int p]) ok_X7_isPerson vi_X7_isPerson cl_7_206 (n := 1) (by decide +kernel) rfl rfl rfl rfl (by decide) (by decide) (dk_X7_years 2 _ rfl) ?_ ?_
      · refine jCt_of ok_X7_isPerson (fun _ _ => Nat.le_of_ble_eq_true rfl) (fun _ _ hq => by rw [hq.2]; first | exact Nat.le_refl _ | simp) ?_
        show J _ _ _ _ _ _ _ _ [(0, .ref 0), (1, .int p)] _ _ _
        refine J_aload_n (i := 0) (a := 0) rfl rfl (dk_X7_isPerson 0 _ rfl) ?_
        refine J_iload_n (i := 1) (a := 1) rfl rfl (dk_X7_isPerson 1 _ rfl) ?_
        refine J_iconst (v := 0) (by decide) (dk_X7_isPerson 2 _ rfl) ?_
        refine J_aload_n (i := 0) (a := 0) rfl rfl (dk_X7_isPerson 3 _ rfl) ?_
        refine J_getf fl_7_7 rfl rfl (dk_X7_isPerson 4 _ rfl) ?_
        refine J_iconst (v := 1) (by decide) (dk_X7_isPerson 7 _ rfl) ?_
        refine J_isubC (v := (-1)) (by decide) (dk_X7_isPerson 8 _ rfl) ?_
        refine J_cV (rv := some (.int 0)) (h' := hM0) (d' := 10) (As := [.int p, .int 0, .int (-1)]) ok_X7_in vi_X7_in cl_7_194 (n := 3) (by decide +kernel) rfl rfl rfl rfl (by decide) (by decide) (dk_X7_isPerson 9 _ rfl) ?_ ?_
        · refine jCt_of ok_X7_in (fun _ _ => Nat.le_of_ble_eq_true rfl) (fun _ _ hq => by rw [hq.2]; first | exact Nat.le_refl _ | simp) ?_
          show J _ _ _ _ _ _ _ _ [(0, .ref 0), (1, .int p), (2, .int 0), (3, .int (-1))] _ _ _
          refine J_iload_n (i := 1) (a := 1) rfl rfl (dk_X7_in 0 _ rfl) ?_
          refine J_iload_n (i := 2) (a := 2) rfl rfl (dk_X7_in 1 _ rfl) ?_
          refine J_icF (tgt := 14) (by decide) (dk_X7_in 2 _ rfl) (jI_nlt (rfl : (p : Int32).toInt = (p : Int32).toInt) (by decide : (0 : Int32).toInt = 0) (by omega)) ?_
          refine J_iload_n (i := 1) (a := 1) rfl rfl (dk_X7_in 5 _ rfl) ?_
          refine J_iload_n (i := 3) (a := 3) rfl rfl (dk_X7_in 6 _ rfl) ?_
          refine J_icT (tgt := 14) (by decide) (dk_X7_in 7 _ rfl) (jI_lt (by decide : ((-1) : Int32).toInt = (-1)) (rfl : (p : Int32).toInt = (p : Int32).toInt) (by omega)) ?_
          refine J_iconst (v := 0) (by decide) (dk_X7_in 14 _ rfl) ?_
          exact J_iret rfl rfl (dk_X7_in 15 _ rfl) ⟨rfl, rfl⟩
        show J _ _ _ _ _ _ _ _ _ [.int 0] _ _
        exact J_iret rfl rfl (dk_X7_isPerson 12 _ rfl) ⟨rfl, rfl⟩
      show J _ _ _ _ _ _ _ _ _ [.int 0] _ _
      refine J_ifT (tgt := 16) (by decide) (dk_X7_years 5 _ rfl) (jI_eq (by decide : (0 : Int32).toInt = 0) (by decide : (0 : Int32).toInt = 0) (by omega)) ?_
      refine J_ldcw (v := (-10000001)) ct_7_291 (dk_X7_years 16 _ rfl) ?_
      exact J_iret rfl rfl (dk_X7_years 19 _ rfl) ⟨rfl, rfl⟩
set_option maxHeartbeats 4000000 in
set_option maxRecDepth 1000000 in
theorem o_trace (i : Int32) : ∃ v : Value, jCt m_X6_trace 12 0 0 [.ref 0, .int i] hN0 (jA v 94) ∧ jCt m_X7_trace 12 0 0 [.ref 0, .int i] hM0 (jA v 37) := by
  have r_i := i.toInt_lt; have q_i := i.le_toInt
  by_cases c1 : (i : Int32).toInt < 0
  · refine ⟨.int (-1), ?_, ?_⟩
    · refine jCt_of ok_X6_trace (fun _ _ => Nat.le_of_ble_eq_true rfl) (fun _ _ hq => Nat.le_of_eq (lX.trans hq.2.symm)) ?_
      show J _ _ _ _ _ _ _ _ [(0, .ref 0), (1, .int i)] _ _ _
      refine J_iload_n (i := 1) (a := 1) rfl rfl (dk_X6_trace 0 _ rfl) ?_
      refine J_ifT (tgt := 21) (by decide) (dk_X6_trace 1 _ rfl) (jI_lt (rfl : (i : Int32).toInt = (i : Int32).toInt) (by decide : (0 : Int32).toInt = 0) (by omega)) ?_
      refine J_iconst (v := (-1)) (by decide) (dk_X6_trace 21 _ rfl) ?_
      refine J_goto (tgt := 34) (by decide) (dk_X6_trace 22 _ rfl) ?_
      exact J_iret rfl rfl (dk_X6_trace 34 _ rfl) ⟨rfl, rfl⟩
    · refine jCt_of ok_X7_trace (fun _ _ => Nat.le_of_ble_eq_true rfl) (fun _ _ hq => Nat.le_of_eq (lM.trans hq.2.symm)) ?_
      show J _ _ _ _ _ _ _ _ [(0, .ref 0), (1, .int i)] _ _ _
      refine J_aload_n (i := 0) (a := 0) rfl rfl (dk_X7_trace 0 _ rfl) ?_
      refine J_iload_n (i := 1) (a := 1) rfl rfl (dk_X7_trace 1 _ rfl) ?_
      refine J_iconst (v := 0) (by decide) (dk_X7_trace 2 _ rfl) ?_
      refine J_bipush (v := 19) (by decide) (dk_X7_trace 3 _ rfl) ?_
      refine J_cV (rv := some (.int 0)) (h' := hM0) (d' := 11) (As := [.int i, .int 0, .int 19]) ok_X7_in vi_X7_in cl_7_194 (n := 3) (by decide +kernel) rfl rfl rfl rfl (by decide) (by decide) (dk_X7_trace 5 _ rfl) ?_ ?_
      · refine jCt_of ok_X7_in (fun _ _ => Nat.le_of_ble_eq_true rfl) (fun _ _ hq => by rw [hq.2]; first | exact Nat.le_refl _ | simp) ?_
        show J _ _ _ _ _ _ _ _ [(0, .ref 0), (1, .int i), (2, .int 0), (3, .int 19)] _ _ _
        refine J_iload_n (i := 1) (a := 1) rfl rfl (dk_X7_in 0 _ rfl) ?_
        refine J_iload_n (i := 2) (a := 2) rfl rfl (dk_X7_in 1 _ rfl) ?_
        refine J_icT (tgt := 14) (by decide) (dk_X7_in 2 _ rfl) (jI_lt (rfl : (i : Int32).toInt = (i : Int32).toInt) (by decide : (0 : Int32).toInt = 0) (by omega)) ?_
        refine J_iconst (v := 0) (by decide) (dk_X7_in 14 _ rfl) ?_
        exact J_iret rfl rfl (dk_X7_in 15 _ rfl) ⟨rfl, rfl⟩
      show J _ _ _ _ _ _ _ _ _ [.int 0] _ _
      refine J_ifT (tgt := 28) (by decide) (dk_X7_trace 8 _ rfl) (jI_eq (by decide : (0 : Int32).toInt = 0) (by decide : (0 : Int32).toInt = 0) (by omega)) ?_
      refine J_iconst (v := (-1)) (by decide) (dk_X7_trace 28 _ rfl) ?_
      exact J_iret rfl rfl (dk_X7_trace 29 _ rfl) ⟨rfl, rfl⟩
  · by_cases c2 : (i : Int32).toInt < 20
    · refine ⟨.int (-1), ?_, ?_⟩
      · refine jCt_of ok_X6_trace (fun _ _ => Nat.le_of_ble_eq_true rfl) (fun _ _ hq => Nat.le_of_eq (lX.trans hq.2.symm)) ?_
        show J _ _ _ _ _ _ _ _ [(0, .ref 0), (1, .int i)] _ _ _
        refine J_iload_n (i := 1) (a := 1) rfl rfl (dk_X6_trace 0 _ rfl) ?_
        refine J_ifF (tgt := 21) (by decide) (dk_X6_trace 1 _ rfl) (jI_nlt (rfl : (i : Int32).toInt = (i : Int32).toInt) (by decide : (0 : Int32).toInt = 0) (by omega)) ?_
        refine J_iload_n (i := 1) (a := 1) rfl rfl (dk_X6_trace 4 _ rfl) ?_
        refine J_aload_n (i := 0) (a := 0) rfl rfl (dk_X6_trace 5 _ rfl) ?_
        refine J_getf fl_6_31 rfl rfl (dk_X6_trace 6 _ rfl) ?_
        refine J_getf fl_6_235 rfl rfl (dk_X6_trace 9 _ rfl) ?_
        refine J_icT (tgt := 21) (by decide) (dk_X6_trace 12 _ rfl) (jI_le (by decide : (0 : Int32).toInt = 0) (rfl : (i : Int32).toInt = (i : Int32).toInt) (by omega)) ?_
        refine J_iconst (v := (-1)) (by decide) (dk_X6_trace 21 _ rfl) ?_
        refine J_goto (tgt := 34) (by decide) (dk_X6_trace 22 _ rfl) ?_
        exact J_iret rfl rfl (dk_X6_trace 34 _ rfl) ⟨rfl, rfl⟩
      · refine jCt_of ok_X7_trace (fun _ _ => Nat.le_of_ble_eq_true rfl) (fun _ _ hq => Nat.le_of_eq (lM.trans hq.2.symm)) ?_
        show J _ _ _ _ _ _ _ _ [(0, .ref 0), (1, .int i)] _ _ _
        refine J_aload_n (i := 0) (a := 0) rfl rfl (dk_X7_trace 0 _ rfl) ?_
        refine J_iload_n (i := 1) (a := 1) rfl rfl (dk_X7_trace 1 _ rfl) ?_
        refine J_iconst (v := 0) (by decide) (dk_X7_trace 2 _ rfl) ?_
        refine J_bipush (v := 19) (by decide) (dk_X7_trace 3 _ rfl) ?_
        refine J_cV (rv := some (.int 1)) (h' := hM0) (d' := 11) (As := [.int i, .int 0, .int 19]) ok_X7_in vi_X7_in cl_7_194 (n := 3) (by decide +kernel) rfl rfl rfl rfl (by decide) (by decide) (dk_X7_trace 5 _ rfl) ?_ ?_
        · refine jCt_of ok_X7_in (fun _ _ => Nat.le_of_ble_eq_true rfl) (fun _ _ hq => by rw [hq.2]; first | exact Nat.le_refl _ | simp) ?_
          show J _ _ _ _ _ _ _ _ [(0, .ref 0), (1, .int i), (2, .int 0), (3, .int 19)] _ _ _
          refine J_iload_n (i := 1) (a := 1) rfl rfl (dk_X7_in 0 _ rfl) ?_
          refine J_iload_n (i := 2) (a := 2) rfl rfl (dk_X7_in 1 _ rfl) ?_
          refine J_icF (tgt := 14) (by decide) (dk_X7_in 2 _ rfl) (jI_nlt (rfl : (i : Int32).toInt = (i : Int32).toInt) (by decide : (0 : Int32).toInt = 0) (by omega)) ?_
          refine J_iload_n (i := 1) (a := 1) rfl rfl (dk_X7_in 5 _ rfl) ?_
          refine J_iload_n (i := 3) (a := 3) rfl rfl (dk_X7_in 6 _ rfl) ?_
          refine J_icF (tgt := 14) (by decide) (dk_X7_in 7 _ rfl) (jI_nlt (by decide : (19 : Int32).toInt = 19) (rfl : (i : Int32).toInt = (i : Int32).toInt) (by omega)) ?_
          refine J_iconst (v := 1) (by decide) (dk_X7_in 10 _ rfl) ?_
          refine J_goto (tgt := 15) (by decide) (dk_X7_in 11 _ rfl) ?_
          exact J_iret rfl rfl (dk_X7_in 15 _ rfl) ⟨rfl, rfl⟩
        show J _ _ _ _ _ _ _ _ _ [.int 1] _ _
        refine J_ifF (tgt := 28) (by decide) (dk_X7_trace 8 _ rfl) (jI_ne (by decide : (1 : Int32).toInt = 1) (by decide : (0 : Int32).toInt = 0) (by omega)) ?_
        refine J_iload_n (i := 1) (a := 1) rfl rfl (dk_X7_trace 11 _ rfl) ?_
        refine J_aload_n (i := 0) (a := 0) rfl rfl (dk_X7_trace 12 _ rfl) ?_
        refine J_getf fl_7_175 rfl rfl (dk_X7_trace 13 _ rfl) ?_
        refine J_icT (tgt := 28) (by decide) (dk_X7_trace 16 _ rfl) (jI_le (by decide : (0 : Int32).toInt = 0) (rfl : (i : Int32).toInt = (i : Int32).toInt) (by omega)) ?_
        refine J_iconst (v := (-1)) (by decide) (dk_X7_trace 28 _ rfl) ?_
        exact J_iret rfl rfl (dk_X7_trace 29 _ rfl) ⟨rfl, rfl⟩
    · refine ⟨.int (-1), ?_, ?_⟩
      · refine jCt_of ok_X6_trace (fun _ _ => Nat.le_of_ble_eq_true rfl) (fun _ _ hq => Nat.le_of_eq (lX.trans hq.2.symm)) ?_
        show J _ _ _ _ _ _ _ _ [(0, .ref 0), (1, .int i)] _ _ _
        refine J_iload_n (i := 1) (a := 1) rfl rfl (dk_X6_trace 0 _ rfl) ?_
        refine J_ifF (tgt := 21) (by decide) (dk_X6_trace 1 _ rfl) (jI_nlt (rfl : (i : Int32).toInt = (i : Int32).toInt) (by decide : (0 : Int32).toInt = 0) (by omega)) ?_
        refine J_iload_n (i := 1) (a := 1) rfl rfl (dk_X6_trace 4 _ rfl) ?_
        refine J_aload_n (i := 0) (a := 0) rfl rfl (dk_X6_trace 5 _ rfl) ?_
        refine J_getf fl_6_31 rfl rfl (dk_X6_trace 6 _ rfl) ?_
        refine J_getf fl_6_235 rfl rfl (dk_X6_trace 9 _ rfl) ?_
        refine J_icT (tgt := 21) (by decide) (dk_X6_trace 12 _ rfl) (jI_le (by decide : (0 : Int32).toInt = 0) (rfl : (i : Int32).toInt = (i : Int32).toInt) (by omega)) ?_
        refine J_iconst (v := (-1)) (by decide) (dk_X6_trace 21 _ rfl) ?_
        refine J_goto (tgt := 34) (by decide) (dk_X6_trace 22 _ rfl) ?_
        exact J_iret rfl rfl (dk_X6_trace 34 _ rfl) ⟨rfl, rfl⟩
      · refine jCt_of ok_X7_trace (fun _ _ => Nat.le_of_ble_eq_true rfl) (fun _ _ hq => Nat.le_of_eq (lM.trans hq.2.symm)) ?_
        show J _ _ _ _ _ _ _ _ [(0, .ref 0), (1, .int i)] _ _ _
        refine J_aload_n (i := 0) (a := 0) rfl rfl (dk_X7_trace 0 _ rfl) ?_
        refine J_iload_n (i := 1) (a := 1) rfl rfl (dk_X7_trace 1 _ rfl) ?_
        refine J_iconst (v := 0) (by decide) (dk_X7_trace 2 _ rfl) ?_
        refine J_bipush (v := 19) (by decide) (dk_X7_trace 3 _ rfl) ?_
        refine J_cV (rv := some (.int 0)) (h' := hM0) (d' := 11) (As := [.int i, .int 0, .int 19]) ok_X7_in vi_X7_in cl_7_194 (n := 3) (by decide +kernel) rfl rfl rfl rfl (by decide) (by decide) (dk_X7_trace 5 _ rfl) ?_ ?_
        · refine jCt_of ok_X7_in (fun _ _ => Nat.le_of_ble_eq_true rfl) (fun _ _ hq => by rw [hq.2]; first | exact Nat.le_refl _ | simp) ?_
          show J _ _ _ _ _ _ _ _ [(0, .ref 0), (1, .int i), (2, .int 0), (3, .int 19)] _ _ _
          refine J_iload_n (i := 1) (a := 1) rfl rfl (dk_X7_in 0 _ rfl) ?_
          refine J_iload_n (i := 2) (a := 2) rfl rfl (dk_X7_in 1 _ rfl) ?_
          refine J_icF (tgt := 14) (by decide) (dk_X7_in 2 _ rfl) (jI_nlt (rfl : (i : Int32).toInt = (i : Int32).toInt) (by decide : (0 : Int32).toInt = 0) (by omega)) ?_
          refine J_iload_n (i := 1) (a := 1) rfl rfl (dk_X7_in 5 _ rfl) ?_
          refine J_iload_n (i := 3) (a := 3) rfl rfl (dk_X7_in 6 _ rfl) ?_
          refine J_icT (tgt := 14) (by decide) (dk_X7_in 7 _ rfl) (jI_lt (by decide : (19 : Int32).toInt = 19) (rfl : (i : Int32).toInt = (i : Int32).toInt) (by omega)) ?_
          refine J_iconst (v := 0) (by decide) (dk_X7_in 14 _ rfl) ?_
          exact J_iret rfl rfl (dk_X7_in 15 _ rfl) ⟨rfl, rfl⟩
        show J _ _ _ _ _ _ _ _ _ [.int 0] _ _
        refine J_ifT (tgt := 28) (by decide) (dk_X7_trace 8 _ rfl) (jI_eq (by decide : (0 : Int32).toInt = 0) (by decide : (0 : Int32).toInt = 0) (by omega)) ?_
        refine J_iconst (v := (-1)) (by decide) (dk_X7_trace 28 _ rfl) ?_
        exact J_iret rfl rfl (dk_X7_trace 29 _ rfl) ⟨rfl, rfl⟩
