section
set_option maxRecDepth 100000
def f_X7_tellsAct (m : mM) (p1 : Int32) (p2 : Int32) : fR Int32 :=
  (gA (mA m 1) p1).bind fun x1 => (if x1 = 3 then bnd (f_X7_body m 40) fun (x3 : Unit) (m4 : mM) => bnd (f_X7_sellerTells m4 p1 p2) fun (x6 : Int32) (m7 : mM) => bnd (f_X7_givesAct m7 p1 1) fun (x9 : Int32) (m10 : mM) => some ((x6 + x9), m10) else if x1 = 5 then bnd (f_X7_body m 60) fun (x12 : Unit) (m13 : mM) => bnd (f_X7_sellerTells m13 p1 (p2 - p1)) fun (x15 : Int32) (m16 : mM) => some (x15, m16) else if x1 = 6 then bnd (f_X7_body m 40) fun (x18 : Unit) (m19 : mM) => bnd (f_X7_sellerTells m19 p1 p2) fun (x21 : Int32) (m22 : mM) => bnd (f_X7_givesAct m22 p1 1) fun (x24 : Int32) (m25 : mM) => some ((x21 + x24), m25) else if x1 = 4 then bnd (f_X7_sellerTells m p1 p2) fun (x27 : Int32) (m28 : mM) => some (x27, m28) else bnd (f_X7_sellerTells m p1 p2) fun (x30 : Int32) (m31 : mM) => some (x30, m31))
theorem c_X7_tellsAct (m : mM) (p1 : Int32) (p2 : Int32)  : cF false uI m_X7_tellsAct 9 [.ref 0, .int p1, .int p2] m (f_X7_tellsAct m p1 p2) := by
  refine cF_of ok_X7_tellsAct (fun _ _ => Nat.le_of_ble_eq_true rfl) ?_
  unfold f_X7_tellsAct
  show JF _ _ _ _ _ [(0, .ref 0), (1, .int p1), (2, .int p2)] _ _ _
  refine F_aload_n (i := 0) (a := 0) rfl rfl (dk_X7_tellsAct 0 _ rfl) ?_
  refine F_gR (b := 1) fxM_7_3_0 fl_7_19 (dk_X7_tellsAct 1 _ rfl) ?_
  refine F_iload_n (i := 1) (a := 1) rfl rfl (dk_X7_tellsAct 4 _ rfl) ?_
  refine F_iald (axM_0_1) (dk_X7_tellsAct 5 _ rfl) (fun x1 => ?_)
  refine F_case (fun c2_0 => ?_) (fun c2_0 => ?_)
  · rw [c2_0]; refine F_tin (off := 30) (tgt := 36) (by decide) (by decide) rfl (by decide) (dk_X7_tellsAct 6 _ rfl) ?_
    refine F_aload_n (i := 0) (a := 0) rfl rfl (dk_X7_tellsAct 36 _ rfl) ?_
    refine F_bipush (v := 40) (by decide) (dk_X7_tellsAct 37 _ rfl) ?_
    refine F_callV (ι' := uU) (ci := 7) (b := 0) (As := [.int 40]) (d' := 2) (rfl) ok_X7_body vi_X7_body cl_7_357 (n := 1) (by decide +kernel) rfl rfl rfl (Nat.le_of_ble_eq_true rfl) (by omega) (dk_X7_tellsAct 39 _ rfl) (c_X7_body _ _ ) (fun x3 m4 => ?_)
    show JF _ _ _ _ _ _ [] _ _
    refine F_aload_n (i := 0) (a := 0) rfl rfl (dk_X7_tellsAct 42 _ rfl) ?_
    refine F_iload_n (i := 1) (a := 1) rfl rfl (dk_X7_tellsAct 43 _ rfl) ?_
    refine F_iload_n (i := 2) (a := 2) rfl rfl (dk_X7_tellsAct 44 _ rfl) ?_
    refine F_callV (ι' := uI) (ci := 7) (b := 0) (As := [.int p1, .int p2]) (d' := 8) (rfl) ok_X7_sellerTells vi_X7_sellerTells cl_7_375 (n := 2) (by decide +kernel) rfl rfl rfl (Nat.le_of_ble_eq_true rfl) (by omega) (dk_X7_tellsAct 45 _ rfl) (c_X7_sellerTells _ _ _ ) (fun x6 m7 => ?_)
    show JF _ _ _ _ _ _ [.int x6] _ _
    refine F_istore_n (lv' := [(3, .int x6), (0, .ref 0), (1, .int p1), (2, .int p2)]) (i := 3) (a := 3) rfl (by decide) rfl (dk_X7_tellsAct 48 _ rfl) ?_
    refine F_iload_n (i := 3) (a := 3) rfl rfl (dk_X7_tellsAct 49 _ rfl) ?_
    refine F_aload_n (i := 0) (a := 0) rfl rfl (dk_X7_tellsAct 50 _ rfl) ?_
    refine F_iload_n (i := 1) (a := 1) rfl rfl (dk_X7_tellsAct 51 _ rfl) ?_
    refine F_iconst (v := 1) (by decide) (dk_X7_tellsAct 52 _ rfl) ?_
    refine F_callV (ι' := uI) (ci := 7) (b := 0) (As := [.int p1, .int 1]) (d' := 7) (rfl) ok_X7_givesAct vi_X7_givesAct cl_7_372 (n := 2) (by decide +kernel) rfl rfl rfl (Nat.le_of_ble_eq_true rfl) (by omega) (dk_X7_tellsAct 53 _ rfl) (c_X7_givesAct _ _ _ ) (fun x9 m10 => ?_)
    show JF _ _ _ _ _ _ [.int x9, .int x6] _ _
    refine F_iadd (dk_X7_tellsAct 56 _ rfl) ?_
    exact F_ret rfl (dk_X7_tellsAct 57 _ rfl)
  refine F_case (fun c2_1 => ?_) (fun c2_1 => ?_)
  · rw [c2_1]; refine F_tin (off := 52) (tgt := 58) (by decide) (by decide) rfl (by decide) (dk_X7_tellsAct 6 _ rfl) ?_
    refine F_aload_n (i := 0) (a := 0) rfl rfl (dk_X7_tellsAct 58 _ rfl) ?_
    refine F_bipush (v := 60) (by decide) (dk_X7_tellsAct 59 _ rfl) ?_
    refine F_callV (ι' := uU) (ci := 7) (b := 0) (As := [.int 60]) (d' := 2) (rfl) ok_X7_body vi_X7_body cl_7_357 (n := 1) (by decide +kernel) rfl rfl rfl (Nat.le_of_ble_eq_true rfl) (by omega) (dk_X7_tellsAct 61 _ rfl) (c_X7_body _ _ ) (fun x12 m13 => ?_)
    show JF _ _ _ _ _ _ [] _ _
    refine F_aload_n (i := 0) (a := 0) rfl rfl (dk_X7_tellsAct 64 _ rfl) ?_
    refine F_iload_n (i := 1) (a := 1) rfl rfl (dk_X7_tellsAct 65 _ rfl) ?_
    refine F_iload_n (i := 2) (a := 2) rfl rfl (dk_X7_tellsAct 66 _ rfl) ?_
    refine F_iload_n (i := 1) (a := 1) rfl rfl (dk_X7_tellsAct 67 _ rfl) ?_
    refine F_isub (dk_X7_tellsAct 68 _ rfl) ?_
    refine F_callV (ι' := uI) (ci := 7) (b := 0) (As := [.int p1, .int (p2 - p1)]) (d' := 8) (rfl) ok_X7_sellerTells vi_X7_sellerTells cl_7_375 (n := 2) (by decide +kernel) rfl rfl rfl (Nat.le_of_ble_eq_true rfl) (by omega) (dk_X7_tellsAct 69 _ rfl) (c_X7_sellerTells _ _ _ ) (fun x15 m16 => ?_)
    show JF _ _ _ _ _ _ [.int x15] _ _
    exact F_ret rfl (dk_X7_tellsAct 72 _ rfl)
  refine F_case (fun c2_2 => ?_) (fun c2_2 => ?_)
  · rw [c2_2]; refine F_tin (off := 30) (tgt := 36) (by decide) (by decide) rfl (by decide) (dk_X7_tellsAct 6 _ rfl) ?_
    refine F_aload_n (i := 0) (a := 0) rfl rfl (dk_X7_tellsAct 36 _ rfl) ?_
    refine F_bipush (v := 40) (by decide) (dk_X7_tellsAct 37 _ rfl) ?_
    refine F_callV (ι' := uU) (ci := 7) (b := 0) (As := [.int 40]) (d' := 2) (rfl) ok_X7_body vi_X7_body cl_7_357 (n := 1) (by decide +kernel) rfl rfl rfl (Nat.le_of_ble_eq_true rfl) (by omega) (dk_X7_tellsAct 39 _ rfl) (c_X7_body _ _ ) (fun x18 m19 => ?_)
    show JF _ _ _ _ _ _ [] _ _
    refine F_aload_n (i := 0) (a := 0) rfl rfl (dk_X7_tellsAct 42 _ rfl) ?_
    refine F_iload_n (i := 1) (a := 1) rfl rfl (dk_X7_tellsAct 43 _ rfl) ?_
    refine F_iload_n (i := 2) (a := 2) rfl rfl (dk_X7_tellsAct 44 _ rfl) ?_
    refine F_callV (ι' := uI) (ci := 7) (b := 0) (As := [.int p1, .int p2]) (d' := 8) (rfl) ok_X7_sellerTells vi_X7_sellerTells cl_7_375 (n := 2) (by decide +kernel) rfl rfl rfl (Nat.le_of_ble_eq_true rfl) (by omega) (dk_X7_tellsAct 45 _ rfl) (c_X7_sellerTells _ _ _ ) (fun x21 m22 => ?_)
    show JF _ _ _ _ _ _ [.int x21] _ _
    refine F_istore_n (lv' := [(3, .int x21), (0, .ref 0), (1, .int p1), (2, .int p2)]) (i := 3) (a := 3) rfl (by decide) rfl (dk_X7_tellsAct 48 _ rfl) ?_
    refine F_iload_n (i := 3) (a := 3) rfl rfl (dk_X7_tellsAct 49 _ rfl) ?_
    refine F_aload_n (i := 0) (a := 0) rfl rfl (dk_X7_tellsAct 50 _ rfl) ?_
    refine F_iload_n (i := 1) (a := 1) rfl rfl (dk_X7_tellsAct 51 _ rfl) ?_
    refine F_iconst (v := 1) (by decide) (dk_X7_tellsAct 52 _ rfl) ?_
    refine F_callV (ι' := uI) (ci := 7) (b := 0) (As := [.int p1, .int 1]) (d' := 7) (rfl) ok_X7_givesAct vi_X7_givesAct cl_7_372 (n := 2) (by decide +kernel) rfl rfl rfl (Nat.le_of_ble_eq_true rfl) (by omega) (dk_X7_tellsAct 53 _ rfl) (c_X7_givesAct _ _ _ ) (fun x24 m25 => ?_)
    show JF _ _ _ _ _ _ [.int x24, .int x21] _ _
    refine F_iadd (dk_X7_tellsAct 56 _ rfl) ?_
    exact F_ret rfl (dk_X7_tellsAct 57 _ rfl)
  refine F_case (fun c2_3 => ?_) (fun c2_3 => ?_)
  · rw [c2_3]; refine F_tin (off := 67) (tgt := 73) (by decide) (by decide) rfl (by decide) (dk_X7_tellsAct 6 _ rfl) ?_
    refine F_aload_n (i := 0) (a := 0) rfl rfl (dk_X7_tellsAct 73 _ rfl) ?_
    refine F_iload_n (i := 1) (a := 1) rfl rfl (dk_X7_tellsAct 74 _ rfl) ?_
    refine F_iload_n (i := 2) (a := 2) rfl rfl (dk_X7_tellsAct 75 _ rfl) ?_
    refine F_callV (ι' := uI) (ci := 7) (b := 0) (As := [.int p1, .int p2]) (d' := 8) (rfl) ok_X7_sellerTells vi_X7_sellerTells cl_7_375 (n := 2) (by decide +kernel) rfl rfl rfl (Nat.le_of_ble_eq_true rfl) (by omega) (dk_X7_tellsAct 76 _ rfl) (c_X7_sellerTells _ _ _ ) (fun x27 m28 => ?_)
    show JF _ _ _ _ _ _ [.int x27] _ _
    exact F_ret rfl (dk_X7_tellsAct 79 _ rfl)
  refine F_tout (tgt := 73) (by have q0 := fI_ne c2_0; rw [show (3 : Int32).toInt = 3 from by decide] at q0; have q1 := fI_ne c2_1; rw [show (5 : Int32).toInt = 5 from by decide] at q1; have q2 := fI_ne c2_2; rw [show (6 : Int32).toInt = 6 from by decide] at q2; have q3 := fI_ne c2_3; rw [show (4 : Int32).toInt = 4 from by decide] at q3; omega) (by decide) (dk_X7_tellsAct 6 _ rfl) ?_
  refine F_aload_n (i := 0) (a := 0) rfl rfl (dk_X7_tellsAct 73 _ rfl) ?_
  refine F_iload_n (i := 1) (a := 1) rfl rfl (dk_X7_tellsAct 74 _ rfl) ?_
  refine F_iload_n (i := 2) (a := 2) rfl rfl (dk_X7_tellsAct 75 _ rfl) ?_
  refine F_callV (ι' := uI) (ci := 7) (b := 0) (As := [.int p1, .int p2]) (d' := 8) (rfl) ok_X7_sellerTells vi_X7_sellerTells cl_7_375 (n := 2) (by decide +kernel) rfl rfl rfl (Nat.le_of_ble_eq_true rfl) (by omega) (dk_X7_tellsAct 76 _ rfl) (c_X7_sellerTells _ _ _ ) (fun x30 m31 => ?_)
  show JF _ _ _ _ _ _ [.int x30] _ _
  exact F_ret rfl (dk_X7_tellsAct 79 _ rfl)
def f_X7_act (m : mM) (p1 : Int32) (p2 : Int32) (p3 : Int32) : fR Int32 :=
  nmM (wI m 54 0) fun m1 => bnd (f_X7_isPerson m1 p1) fun (x2 : Int32) (m3 : mM) => (if x2 = 0 then some (0, m3) else bnd (f_X7_in m3 p2 0 2) fun (x5 : Int32) (m6 : mM) => (if x5 = 0 then some (0, m6) else (if p2 = 0 then bnd (f_X7_sellsAct m6 p1 p3) fun (x14 : Int32) (m15 : mM) => some (x14, m15) else (if p2 = 1 then bnd (f_X7_givesAct m6 p1 p3) fun (x11 : Int32) (m12 : mM) => some (x11, m12) else bnd (f_X7_tellsAct m6 p1 p3) fun (x8 : Int32) (m9 : mM) => some (x8, m9)))))
theorem c_X7_act (m : mM) (p1 : Int32) (p2 : Int32) (p3 : Int32)  : cF false uI m_X7_act 10 [.ref 0, .int p1, .int p2, .int p3] m (f_X7_act m p1 p2 p3) := by
  refine cF_of ok_X7_act (fun _ _ => Nat.le_of_ble_eq_true rfl) ?_
  unfold f_X7_act
  show JF _ _ _ _ _ [(0, .ref 0), (1, .int p1), (2, .int p2), (3, .int p3)] _ _ _
  refine F_aload_n (i := 0) (a := 0) rfl rfl (dk_X7_act 0 _ rfl) ?_
  refine F_iconst (v := 0) (by decide) (dk_X7_act 1 _ rfl) ?_
  refine F_pI (n := 54) fxM_7_54_0 rfl fl_7_175 (fun q hq => by cases hq; rfl) trivial (dk_X7_act 2 _ rfl) (fun m1 => ?_)
  refine F_aload_n (i := 0) (a := 0) rfl rfl (dk_X7_act 5 _ rfl) ?_
  refine F_iload_n (i := 1) (a := 1) rfl rfl (dk_X7_act 6 _ rfl) ?_
  refine F_callV (ι' := uI) (ci := 7) (b := 0) (As := [.int p1]) (d' := 3) (rfl) ok_X7_isPerson vi_X7_isPerson cl_7_206 (n := 1) (by decide +kernel) rfl rfl rfl (Nat.le_of_ble_eq_true rfl) (by omega) (dk_X7_act 7 _ rfl) (c_X7_isPerson _ _ ) (fun x2 m3 => ?_)
  show JF _ _ _ _ _ _ [.int x2] _ _
  refine F_if_eq (tgt := 23) (by decide) (dk_X7_act 10 _ rfl) ?_ ?_
  · refine F_iconst (v := 0) (by decide) (dk_X7_act 23 _ rfl) ?_
    exact F_ret rfl (dk_X7_act 24 _ rfl)
  · refine F_aload_n (i := 0) (a := 0) rfl rfl (dk_X7_act 13 _ rfl) ?_
    refine F_iload_n (i := 2) (a := 2) rfl rfl (dk_X7_act 14 _ rfl) ?_
    refine F_iconst (v := 0) (by decide) (dk_X7_act 15 _ rfl) ?_
    refine F_iconst (v := 2) (by decide) (dk_X7_act 16 _ rfl) ?_
    refine F_callV (ι' := uI) (ci := 7) (b := 0) (As := [.int p2, .int 0, .int 2]) (d' := 2) (rfl) ok_X7_in vi_X7_in cl_7_194 (n := 3) (by decide +kernel) rfl rfl rfl (Nat.le_of_ble_eq_true rfl) (by omega) (dk_X7_act 17 _ rfl) (c_X7_in _ _ _ _ ) (fun x5 m6 => ?_)
    show JF _ _ _ _ _ _ [.int x5] _ _
    refine F_if_ne (tgt := 25) (by decide) (dk_X7_act 20 _ rfl) ?_ ?_
    · refine F_iload_n (i := 2) (a := 2) rfl rfl (dk_X7_act 25 _ rfl) ?_
      refine F_if_ne (tgt := 38) (by decide) (dk_X7_act 26 _ rfl) ?_ ?_
      · refine F_iload_n (i := 2) (a := 2) rfl rfl (dk_X7_act 38 _ rfl) ?_
        refine F_iconst (v := 1) (by decide) (dk_X7_act 39 _ rfl) ?_
        refine F_icmp_ne (tgt := 52) (by decide) (dk_X7_act 40 _ rfl) ?_ ?_
        · refine F_aload_n (i := 0) (a := 0) rfl rfl (dk_X7_act 52 _ rfl) ?_
          refine F_iload_n (i := 1) (a := 1) rfl rfl (dk_X7_act 53 _ rfl) ?_
          refine F_iload_n (i := 3) (a := 3) rfl rfl (dk_X7_act 54 _ rfl) ?_
          refine F_callV (ι' := uI) (ci := 7) (b := 0) (As := [.int p1, .int p3]) (d' := 9) (rfl) ok_X7_tellsAct vi_X7_tellsAct cl_7_378 (n := 2) (by decide +kernel) rfl rfl rfl (Nat.le_of_ble_eq_true rfl) (by omega) (dk_X7_act 55 _ rfl) (c_X7_tellsAct _ _ _ ) (fun x8 m9 => ?_)
          show JF _ _ _ _ _ _ [.int x8] _ _
          exact F_ret rfl (dk_X7_act 58 _ rfl)
        · refine F_aload_n (i := 0) (a := 0) rfl rfl (dk_X7_act 43 _ rfl) ?_
          refine F_iload_n (i := 1) (a := 1) rfl rfl (dk_X7_act 44 _ rfl) ?_
          refine F_iload_n (i := 3) (a := 3) rfl rfl (dk_X7_act 45 _ rfl) ?_
          refine F_callV (ι' := uI) (ci := 7) (b := 0) (As := [.int p1, .int p3]) (d' := 7) (rfl) ok_X7_givesAct vi_X7_givesAct cl_7_372 (n := 2) (by decide +kernel) rfl rfl rfl (Nat.le_of_ble_eq_true rfl) (by omega) (dk_X7_act 46 _ rfl) (c_X7_givesAct _ _ _ ) (fun x11 m12 => ?_)
          show JF _ _ _ _ _ _ [.int x11] _ _
          refine F_goto (tgt := 58) (by decide) (dk_X7_act 49 _ rfl) ?_
          exact F_ret rfl (dk_X7_act 58 _ rfl)
      · refine F_aload_n (i := 0) (a := 0) rfl rfl (dk_X7_act 29 _ rfl) ?_
        refine F_iload_n (i := 1) (a := 1) rfl rfl (dk_X7_act 30 _ rfl) ?_
        refine F_iload_n (i := 3) (a := 3) rfl rfl (dk_X7_act 31 _ rfl) ?_
        refine F_callV (ι' := uI) (ci := 7) (b := 0) (As := [.int p1, .int p3]) (d' := 4) (rfl) ok_X7_sellsAct vi_X7_sellsAct cl_7_363 (n := 2) (by decide +kernel) rfl rfl rfl (Nat.le_of_ble_eq_true rfl) (by omega) (dk_X7_act 32 _ rfl) (c_X7_sellsAct _ _ _ ) (fun x14 m15 => ?_)
        show JF _ _ _ _ _ _ [.int x14] _ _
        refine F_goto (tgt := 58) (by decide) (dk_X7_act 35 _ rfl) ?_
        exact F_ret rfl (dk_X7_act 58 _ rfl)
    · refine F_iconst (v := 0) (by decide) (dk_X7_act 23 _ rfl) ?_
      exact F_ret rfl (dk_X7_act 24 _ rfl)
def f_X7_trace (m : mM) (p1 : Int32) : fR Int32 :=
  bnd (f_X7_in m p1 0 19) fun (x1 : Int32) (m2 : mM) => (if x1 = 0 then some ((-1), m2) else (if (mI m2 54) ≤ p1 then some ((-1), m2) else (gA (mA m2 32) p1).bind fun x4 => some (x4, m2)))
theorem c_X7_trace (m : mM) (p1 : Int32)  : cF false uI m_X7_trace 3 [.ref 0, .int p1] m (f_X7_trace m p1) := by
  refine cF_of ok_X7_trace (fun _ _ => Nat.le_of_ble_eq_true rfl) ?_
  unfold f_X7_trace
  show JF _ _ _ _ _ [(0, .ref 0), (1, .int p1)] _ _ _
  refine F_aload_n (i := 0) (a := 0) rfl rfl (dk_X7_trace 0 _ rfl) ?_
  refine F_iload_n (i := 1) (a := 1) rfl rfl (dk_X7_trace 1 _ rfl) ?_
  refine F_iconst (v := 0) (by decide) (dk_X7_trace 2 _ rfl) ?_
  refine F_bipush (v := 19) (by decide) (dk_X7_trace 3 _ rfl) ?_
  refine F_callV (ι' := uI) (ci := 7) (b := 0) (As := [.int p1, .int 0, .int 19]) (d' := 2) (rfl) ok_X7_in vi_X7_in cl_7_194 (n := 3) (by decide +kernel) rfl rfl rfl (Nat.le_of_ble_eq_true rfl) (by omega) (dk_X7_trace 5 _ rfl) (c_X7_in _ _ _ _ ) (fun x1 m2 => ?_)
  show JF _ _ _ _ _ _ [.int x1] _ _
  refine F_if_eq (tgt := 28) (by decide) (dk_X7_trace 8 _ rfl) ?_ ?_
  · refine F_iconst (v := (-1)) (by decide) (dk_X7_trace 28 _ rfl) ?_
    exact F_ret rfl (dk_X7_trace 29 _ rfl)
  · refine F_iload_n (i := 1) (a := 1) rfl rfl (dk_X7_trace 11 _ rfl) ?_
    refine F_aload_n (i := 0) (a := 0) rfl rfl (dk_X7_trace 12 _ rfl) ?_
    refine F_gI (n := 54) fxM_7_54_0 rfl fl_7_175 (dk_X7_trace 13 _ rfl) ?_
    refine F_icmp_ge (tgt := 28) (by decide) (dk_X7_trace 16 _ rfl) ?_ ?_
    · refine F_iconst (v := (-1)) (by decide) (dk_X7_trace 28 _ rfl) ?_
      exact F_ret rfl (dk_X7_trace 29 _ rfl)
    · refine F_aload_n (i := 0) (a := 0) rfl rfl (dk_X7_trace 19 _ rfl) ?_
      refine F_gR (b := 32) fxM_7_55_0 fl_7_178 (dk_X7_trace 20 _ rfl) ?_
      refine F_iload_n (i := 1) (a := 1) rfl rfl (dk_X7_trace 23 _ rfl) ?_
      refine F_iald (axM_0_32) (dk_X7_trace 24 _ rfl) (fun x4 => ?_)
      refine F_goto (tgt := 29) (by decide) (dk_X7_trace 25 _ rfl) ?_
      exact F_ret rfl (dk_X7_trace 29 _ rfl)
def f_X7_taken_61  (m : mM) (y2 : Int32) (y3 : Int32) : fR Int32 :=
  (if y2 = 3 then (if y3 = 6 then some (y3, m) else some ((-12), m)) else some ((-12), m))
theorem j_X7_taken_61   (m : mM) (y2 : Int32) (y3 : Int32)  : JF false uI m_X7_taken 4 61 [(2, .int y2), (3, .int y3)] [] m (f_X7_taken_61  m y2 y3) := by
  unfold f_X7_taken_61
  refine F_iload_n (i := 2) (a := 2) rfl rfl (dk_X7_taken 61 _ rfl) ?_
  refine F_iconst (v := 3) (by decide) (dk_X7_taken 62 _ rfl) ?_
  refine F_icmp_ne (tgt := 76) (by decide) (dk_X7_taken 63 _ rfl) ?_ ?_
  · refine F_bipush (v := (-12)) (by decide) (dk_X7_taken 76 _ rfl) ?_
    exact F_ret rfl (dk_X7_taken 78 _ rfl)
  · refine F_iload_n (i := 3) (a := 3) rfl rfl (dk_X7_taken 66 _ rfl) ?_
    refine F_bipush (v := 6) (by decide) (dk_X7_taken 67 _ rfl) ?_
    refine F_icmp_ne (tgt := 76) (by decide) (dk_X7_taken 69 _ rfl) ?_ ?_
    · refine F_bipush (v := (-12)) (by decide) (dk_X7_taken 76 _ rfl) ?_
      exact F_ret rfl (dk_X7_taken 78 _ rfl)
    · refine F_iload_n (i := 3) (a := 3) rfl rfl (dk_X7_taken 72 _ rfl) ?_
      refine F_goto (tgt := 78) (by decide) (dk_X7_taken 73 _ rfl) ?_
      exact F_ret rfl (dk_X7_taken 78 _ rfl)
def f_X7_taken_51  (m : mM) (y2 : Int32) (y3 : Int32) : fR Int32 :=
  (if y2 = 2 then (if y3 = 5 then some (y3, m) else (f_X7_taken_61  m y2 y3)) else (f_X7_taken_61  m y2 y3))
theorem j_X7_taken_51   (m : mM) (y2 : Int32) (y3 : Int32)  : JF false uI m_X7_taken 4 51 [(2, .int y2), (3, .int y3)] [] m (f_X7_taken_51  m y2 y3) := by
  unfold f_X7_taken_51
  refine F_iload_n (i := 2) (a := 2) rfl rfl (dk_X7_taken 51 _ rfl) ?_
  refine F_iconst (v := 2) (by decide) (dk_X7_taken 52 _ rfl) ?_
  refine F_icmp_ne (tgt := 61) (by decide) (dk_X7_taken 53 _ rfl) ?_ ?_
  · exact F_loc (fun _ z => z) (j_X7_taken_61   _ _ _ )
  · refine F_iload_n (i := 3) (a := 3) rfl rfl (dk_X7_taken 56 _ rfl) ?_
    refine F_iconst (v := 5) (by decide) (dk_X7_taken 57 _ rfl) ?_
    refine F_icmp_eq (tgt := 72) (by decide) (dk_X7_taken 58 _ rfl) ?_ ?_
    · refine F_iload_n (i := 3) (a := 3) rfl rfl (dk_X7_taken 72 _ rfl) ?_
      refine F_goto (tgt := 78) (by decide) (dk_X7_taken 73 _ rfl) ?_
      exact F_ret rfl (dk_X7_taken 78 _ rfl)
    · exact F_loc (fun _ z => z) (j_X7_taken_61   _ _ _ )
def f_X7_taken (m : mM) (p1 : Int32) (p2 : Int32) : fR Int32 :=
  bnd (f_X7_in m p2 0 6) fun (x1 : Int32) (m2 : mM) => (if x1 = 0 then some ((-2), m2) else bnd (f_X7_isPerson m2 p1) fun (x4 : Int32) (m5 : mM) => (if x4 = 0 then some ((-11), m5) else (gA (mA m5 1) p1).bind fun x7 => (if p2 = 0 then some (x7, m5) else (if x7 = p2 then some (x7, m5) else (if p2 = 1 then (if x7 = 4 then some (x7, m5) else (f_X7_taken_51  m5 p2 x7)) else (f_X7_taken_51  m5 p2 x7))))))
theorem c_X7_taken (m : mM) (p1 : Int32) (p2 : Int32)  : cF false uI m_X7_taken 4 [.ref 0, .int p1, .int p2] m (f_X7_taken m p1 p2) := by
  refine cF_of ok_X7_taken (fun _ _ => Nat.le_of_ble_eq_true rfl) ?_
  unfold f_X7_taken
  show JF _ _ _ _ _ [(0, .ref 0), (1, .int p1), (2, .int p2)] _ _ _
  refine F_aload_n (i := 0) (a := 0) rfl rfl (dk_X7_taken 0 _ rfl) ?_
  refine F_iload_n (i := 2) (a := 2) rfl rfl (dk_X7_taken 1 _ rfl) ?_
  refine F_iconst (v := 0) (by decide) (dk_X7_taken 2 _ rfl) ?_
  refine F_bipush (v := 6) (by decide) (dk_X7_taken 3 _ rfl) ?_
  refine F_callV (ι' := uI) (ci := 7) (b := 0) (As := [.int p2, .int 0, .int 6]) (d' := 2) (rfl) ok_X7_in vi_X7_in cl_7_194 (n := 3) (by decide +kernel) rfl rfl rfl (Nat.le_of_ble_eq_true rfl) (by omega) (dk_X7_taken 5 _ rfl) (c_X7_in _ _ _ _ ) (fun x1 m2 => ?_)
  show JF _ _ _ _ _ _ [.int x1] _ _
  refine F_if_ne (tgt := 14) (by decide) (dk_X7_taken 8 _ rfl) ?_ ?_
  · refine F_aload_n (i := 0) (a := 0) rfl rfl (dk_X7_taken 14 _ rfl) ?_
    refine F_iload_n (i := 1) (a := 1) rfl rfl (dk_X7_taken 15 _ rfl) ?_
    refine F_callV (ι' := uI) (ci := 7) (b := 0) (As := [.int p1]) (d' := 3) (rfl) ok_X7_isPerson vi_X7_isPerson cl_7_206 (n := 1) (by decide +kernel) rfl rfl rfl (Nat.le_of_ble_eq_true rfl) (by omega) (dk_X7_taken 16 _ rfl) (c_X7_isPerson _ _ ) (fun x4 m5 => ?_)
    show JF _ _ _ _ _ _ [.int x4] _ _
    refine F_if_ne (tgt := 25) (by decide) (dk_X7_taken 19 _ rfl) ?_ ?_
    · refine F_aload_n (i := 0) (a := 0) rfl rfl (dk_X7_taken 25 _ rfl) ?_
      refine F_gR (b := 1) fxM_7_3_0 fl_7_19 (dk_X7_taken 26 _ rfl) ?_
      refine F_iload_n (i := 1) (a := 1) rfl rfl (dk_X7_taken 29 _ rfl) ?_
      refine F_iald (axM_0_1) (dk_X7_taken 30 _ rfl) (fun x7 => ?_)
      refine F_istore_n (lv' := [(3, .int x7), (0, .ref 0), (1, .int p1), (2, .int p2)]) (i := 3) (a := 3) rfl (by decide) rfl (dk_X7_taken 31 _ rfl) ?_
      refine F_iload_n (i := 2) (a := 2) rfl rfl (dk_X7_taken 32 _ rfl) ?_
      refine F_if_eq (tgt := 72) (by decide) (dk_X7_taken 33 _ rfl) ?_ ?_
      · refine F_iload_n (i := 3) (a := 3) rfl rfl (dk_X7_taken 72 _ rfl) ?_
        refine F_goto (tgt := 78) (by decide) (dk_X7_taken 73 _ rfl) ?_
        exact F_ret rfl (dk_X7_taken 78 _ rfl)
      · refine F_iload_n (i := 3) (a := 3) rfl rfl (dk_X7_taken 36 _ rfl) ?_
        refine F_iload_n (i := 2) (a := 2) rfl rfl (dk_X7_taken 37 _ rfl) ?_
        refine F_icmp_eq (tgt := 72) (by decide) (dk_X7_taken 38 _ rfl) ?_ ?_
        · refine F_iload_n (i := 3) (a := 3) rfl rfl (dk_X7_taken 72 _ rfl) ?_
          refine F_goto (tgt := 78) (by decide) (dk_X7_taken 73 _ rfl) ?_
          exact F_ret rfl (dk_X7_taken 78 _ rfl)
        · refine F_iload_n (i := 2) (a := 2) rfl rfl (dk_X7_taken 41 _ rfl) ?_
          refine F_iconst (v := 1) (by decide) (dk_X7_taken 42 _ rfl) ?_
          refine F_icmp_ne (tgt := 51) (by decide) (dk_X7_taken 43 _ rfl) ?_ ?_
          · exact F_loc (List.forall_mem_cons.mpr ⟨(.tail _ (.tail _ (.tail _ (.head _)))), (List.forall_mem_cons.mpr ⟨(.head _), (fun _ z => absurd z List.not_mem_nil)⟩)⟩) (j_X7_taken_51   _ _ _ )
          · refine F_iload_n (i := 3) (a := 3) rfl rfl (dk_X7_taken 46 _ rfl) ?_
            refine F_iconst (v := 4) (by decide) (dk_X7_taken 47 _ rfl) ?_
            refine F_icmp_eq (tgt := 72) (by decide) (dk_X7_taken 48 _ rfl) ?_ ?_
            · refine F_iload_n (i := 3) (a := 3) rfl rfl (dk_X7_taken 72 _ rfl) ?_
              refine F_goto (tgt := 78) (by decide) (dk_X7_taken 73 _ rfl) ?_
              exact F_ret rfl (dk_X7_taken 78 _ rfl)
            · exact F_loc (List.forall_mem_cons.mpr ⟨(.tail _ (.tail _ (.tail _ (.head _)))), (List.forall_mem_cons.mpr ⟨(.head _), (fun _ z => absurd z List.not_mem_nil)⟩)⟩) (j_X7_taken_51   _ _ _ )
    · refine F_bipush (v := (-11)) (by decide) (dk_X7_taken 22 _ rfl) ?_
      exact F_ret rfl (dk_X7_taken 24 _ rfl)
  · refine F_bipush (v := (-2)) (by decide) (dk_X7_taken 11 _ rfl) ?_
    exact F_ret rfl (dk_X7_taken 13 _ rfl)
def f_X7_count (m : mM) (p1 : Int32) : fR Int32 :=
  (if p1 = 0 then some ((mI m 0), m) else if p1 = 1 then some ((mI m 10), m) else if p1 = 2 then some ((mI m 38), m) else if p1 = 3 then some ((mI m 12), m) else if p1 = 4 then some ((mI m 54), m) else some ((-2), m))
theorem c_X7_count (m : mM) (p1 : Int32)  : cF false uI m_X7_count 2 [.ref 0, .int p1] m (f_X7_count m p1) := by
  refine cF_of ok_X7_count (fun _ _ => Nat.le_of_ble_eq_true rfl) ?_
  unfold f_X7_count
  show JF _ _ _ _ _ [(0, .ref 0), (1, .int p1)] _ _ _
  refine F_iload_n (i := 1) (a := 1) rfl rfl (dk_X7_count 0 _ rfl) ?_
  refine F_case (fun c1_0 => ?_) (fun c1_0 => ?_)
  · rw [c1_0]; refine F_tin (off := 35) (tgt := 36) (by decide) (by decide) rfl (by decide) (dk_X7_count 1 _ rfl) ?_
    refine F_aload_n (i := 0) (a := 0) rfl rfl (dk_X7_count 36 _ rfl) ?_
    refine F_gI (n := 0) fxM_7_0_0 rfl fl_7_7 (dk_X7_count 37 _ rfl) ?_
    exact F_ret rfl (dk_X7_count 40 _ rfl)
  refine F_case (fun c1_1 => ?_) (fun c1_1 => ?_)
  · rw [c1_1]; refine F_tin (off := 40) (tgt := 41) (by decide) (by decide) rfl (by decide) (dk_X7_count 1 _ rfl) ?_
    refine F_aload_n (i := 0) (a := 0) rfl rfl (dk_X7_count 41 _ rfl) ?_
    refine F_gI (n := 10) fxM_7_10_0 rfl fl_7_42 (dk_X7_count 42 _ rfl) ?_
    exact F_ret rfl (dk_X7_count 45 _ rfl)
  refine F_case (fun c1_2 => ?_) (fun c1_2 => ?_)
  · rw [c1_2]; refine F_tin (off := 45) (tgt := 46) (by decide) (by decide) rfl (by decide) (dk_X7_count 1 _ rfl) ?_
    refine F_aload_n (i := 0) (a := 0) rfl rfl (dk_X7_count 46 _ rfl) ?_
    refine F_gI (n := 38) fxM_7_38_0 rfl fl_7_126 (dk_X7_count 47 _ rfl) ?_
    exact F_ret rfl (dk_X7_count 50 _ rfl)
  refine F_case (fun c1_3 => ?_) (fun c1_3 => ?_)
  · rw [c1_3]; refine F_tin (off := 50) (tgt := 51) (by decide) (by decide) rfl (by decide) (dk_X7_count 1 _ rfl) ?_
    refine F_aload_n (i := 0) (a := 0) rfl rfl (dk_X7_count 51 _ rfl) ?_
    refine F_gI (n := 12) fxM_7_12_0 rfl fl_7_48 (dk_X7_count 52 _ rfl) ?_
    exact F_ret rfl (dk_X7_count 55 _ rfl)
  refine F_case (fun c1_4 => ?_) (fun c1_4 => ?_)
  · rw [c1_4]; refine F_tin (off := 55) (tgt := 56) (by decide) (by decide) rfl (by decide) (dk_X7_count 1 _ rfl) ?_
    refine F_aload_n (i := 0) (a := 0) rfl rfl (dk_X7_count 56 _ rfl) ?_
    refine F_gI (n := 54) fxM_7_54_0 rfl fl_7_175 (dk_X7_count 57 _ rfl) ?_
    exact F_ret rfl (dk_X7_count 60 _ rfl)
  refine F_tout (tgt := 61) (by have q0 := fI_ne c1_0; rw [show (0 : Int32).toInt = 0 from by decide] at q0; have q1 := fI_ne c1_1; rw [show (1 : Int32).toInt = 1 from by decide] at q1; have q2 := fI_ne c1_2; rw [show (2 : Int32).toInt = 2 from by decide] at q2; have q3 := fI_ne c1_3; rw [show (3 : Int32).toInt = 3 from by decide] at q3; have q4 := fI_ne c1_4; rw [show (4 : Int32).toInt = 4 from by decide] at q4; omega) (by decide) (dk_X7_count 1 _ rfl) ?_
  refine F_bipush (v := (-2)) (by decide) (dk_X7_count 61 _ rfl) ?_
  exact F_ret rfl (dk_X7_count 63 _ rfl)
def fb_X7_tape_69 (K69 : mM → Int32 → Int32 → fR Int32) (m : mM) (y1 : Int32) (y4 : Int32) : fR Int32 :=
  (if 60 ≤ y4 then some (1, m) else (sL m 35 (((60 * y1) + y4)) 0).bind fun m9 => (K69 m9 y1 (y4 + 1)))
def f_X7_tape_69  : Nat → mM → Int32 → Int32 → fR Int32
  | 0, _, _, _ => none
  | F + 1, m, y1, y4 => fb_X7_tape_69  (f_X7_tape_69  F) m y1 y4
theorem jb_X7_tape_69 (K69 : mM → Int32 → Int32 → fR Int32) (hK69 : ∀ (m : mM) (y1 : Int32) (y4 : Int32) , JF false uI m_X7_tape 4 69 [(0, .ref 0), (1, .int y1), (4, .int y4)] [] m (K69 m y1 y4)) (m : mM) (y1 : Int32) (y4 : Int32)  : JF false uI m_X7_tape 4 69 [(0, .ref 0), (1, .int y1), (4, .int y4)] [] m (fb_X7_tape_69 K69 m y1 y4) := by
  unfold fb_X7_tape_69
  refine F_iload (i := 4) rfl (dk_X7_tape 69 _ rfl) ?_
  refine F_bipush (v := 60) (by decide) (dk_X7_tape 71 _ rfl) ?_
  refine F_icmp_ge (tgt := 95) (by decide) (dk_X7_tape 73 _ rfl) ?_ ?_
  · refine F_iconst (v := 1) (by decide) (dk_X7_tape 95 _ rfl) ?_
    exact F_ret rfl (dk_X7_tape 96 _ rfl)
  · refine F_aload_n (i := 0) (a := 0) rfl rfl (dk_X7_tape 76 _ rfl) ?_
    refine F_gR (b := 35) fxM_7_58_0 fl_7_187 (dk_X7_tape 77 _ rfl) ?_
    refine F_bipush (v := 60) (by decide) (dk_X7_tape 80 _ rfl) ?_
    refine F_iload_n (i := 1) (a := 1) rfl rfl (dk_X7_tape 82 _ rfl) ?_
    refine F_imul (dk_X7_tape 83 _ rfl) ?_
    refine F_iload (i := 4) rfl (dk_X7_tape 84 _ rfl) ?_
    refine F_iadd (dk_X7_tape 86 _ rfl) ?_
    refine F_lconst (v := 0) (by decide) (dk_X7_tape 87 _ rfl) ?_
    refine F_last (axM_1_35) (dk_X7_tape 88 _ rfl) (fun m9 => ?_)
    refine F_iinc (i := 4) (n := 1) (v := (y4 + 1)) (lv' := [(4, .int (y4 + 1)), (0, .ref 0), (1, .int y1)]) rfl (by first | rfl | decide) (by decide) rfl (dk_X7_tape 89 _ rfl) ?_
    refine F_goto (tgt := 69) (by decide) (dk_X7_tape 92 _ rfl) ?_
    exact F_loc (List.forall_mem_cons.mpr ⟨(.tail _ (.head _)), (List.forall_mem_cons.mpr ⟨(.tail _ (.tail _ (.head _))), (List.forall_mem_cons.mpr ⟨(.head _), (fun _ z => absurd z List.not_mem_nil)⟩)⟩)⟩) (hK69 _ _ _ )
theorem j_X7_tape_69   : ∀ (F : Nat) (m : mM) (y1 : Int32) (y4 : Int32) , JF false uI m_X7_tape 4 69 [(0, .ref 0), (1, .int y1), (4, .int y4)] [] m (f_X7_tape_69  F m y1 y4) := by
  intro F
  induction F with
  | zero => intro m y1 y4 ; exact F_no
  | succ F ih => intro m y1 y4 ; exact jb_X7_tape_69  (f_X7_tape_69  F)  ih m y1 y4 
def f_X7_tape_44  (m : mM) (y1 : Int32) (y2 : Int32) (y3 : Int32) : fR Int32 :=
  (sA 0 m 33 y1 y2).bind fun m7 => (if 0 ≤ y2 then (sA 0 m7 34 y1 y3).bind fun m8 => (f_X7_tape_69  1000 m8 y1 0) else (sA 0 m7 34 y1 0).bind fun m10 => (f_X7_tape_69  1000 m10 y1 0))
theorem j_X7_tape_44   (m : mM) (y1 : Int32) (y2 : Int32) (y3 : Int32)  : JF false uI m_X7_tape 4 44 [(0, .ref 0), (1, .int y1), (2, .int y2), (3, .int y3)] [] m (f_X7_tape_44  m y1 y2 y3) := by
  unfold f_X7_tape_44
  refine F_aload_n (i := 0) (a := 0) rfl rfl (dk_X7_tape 44 _ rfl) ?_
  refine F_gR (b := 33) fxM_7_56_0 fl_7_181 (dk_X7_tape 45 _ rfl) ?_
  refine F_iload_n (i := 1) (a := 1) rfl rfl (dk_X7_tape 48 _ rfl) ?_
  refine F_iload_n (i := 2) (a := 2) rfl rfl (dk_X7_tape 49 _ rfl) ?_
  refine F_iast (axM_0_33) (dk_X7_tape 50 _ rfl) (fun m7 => ?_)
  refine F_aload_n (i := 0) (a := 0) rfl rfl (dk_X7_tape 51 _ rfl) ?_
  refine F_gR (b := 34) fxM_7_57_0 fl_7_184 (dk_X7_tape 52 _ rfl) ?_
  refine F_iload_n (i := 1) (a := 1) rfl rfl (dk_X7_tape 55 _ rfl) ?_
  refine F_iload_n (i := 2) (a := 2) rfl rfl (dk_X7_tape 56 _ rfl) ?_
  refine F_if_ge (tgt := 64) (by decide) (dk_X7_tape 57 _ rfl) ?_ ?_
  · refine F_iload_n (i := 3) (a := 3) rfl rfl (dk_X7_tape 64 _ rfl) ?_
    refine F_iast (axM_0_34) (dk_X7_tape 65 _ rfl) (fun m8 => ?_)
    refine F_iconst (v := 0) (by decide) (dk_X7_tape 66 _ rfl) ?_
    refine F_istore (lv' := [(4, .int 0), (0, .ref 0), (1, .int y1), (2, .int y2), (3, .int y3)]) (i := 4) (by decide) rfl (dk_X7_tape 67 _ rfl) ?_
    exact F_loc (List.forall_mem_cons.mpr ⟨(.tail _ (.head _)), (List.forall_mem_cons.mpr ⟨(.tail _ (.tail _ (.head _))), (List.forall_mem_cons.mpr ⟨(.head _), (fun _ z => absurd z List.not_mem_nil)⟩)⟩)⟩) (j_X7_tape_69   1000 _ _ _ )
  · refine F_iconst (v := 0) (by decide) (dk_X7_tape 60 _ rfl) ?_
    refine F_goto (tgt := 65) (by decide) (dk_X7_tape 61 _ rfl) ?_
    refine F_iast (axM_0_34) (dk_X7_tape 65 _ rfl) (fun m10 => ?_)
    refine F_iconst (v := 0) (by decide) (dk_X7_tape 66 _ rfl) ?_
    refine F_istore (lv' := [(4, .int 0), (0, .ref 0), (1, .int y1), (2, .int y2), (3, .int y3)]) (i := 4) (by decide) rfl (dk_X7_tape 67 _ rfl) ?_
    exact F_loc (List.forall_mem_cons.mpr ⟨(.tail _ (.head _)), (List.forall_mem_cons.mpr ⟨(.tail _ (.tail _ (.head _))), (List.forall_mem_cons.mpr ⟨(.head _), (fun _ z => absurd z List.not_mem_nil)⟩)⟩)⟩) (j_X7_tape_69   1000 _ _ _ )
def f_X7_tape_33  (m : mM) (y1 : Int32) (y2 : Int32) (y3 : Int32) : fR Int32 :=
  (if y2 < 0 then (f_X7_tape_44  m y1 y2 y3) else (if 0 ≤ y3 then (f_X7_tape_44  m y1 y2 y3) else some ((-14), m)))
theorem j_X7_tape_33   (m : mM) (y1 : Int32) (y2 : Int32) (y3 : Int32)  : JF false uI m_X7_tape 4 33 [(0, .ref 0), (1, .int y1), (2, .int y2), (3, .int y3)] [] m (f_X7_tape_33  m y1 y2 y3) := by
  unfold f_X7_tape_33
  refine F_iload_n (i := 2) (a := 2) rfl rfl (dk_X7_tape 33 _ rfl) ?_
  refine F_if_lt (tgt := 44) (by decide) (dk_X7_tape 34 _ rfl) ?_ ?_
  · exact F_loc (fun _ z => z) (j_X7_tape_44   _ _ _ _ )
  · refine F_iload_n (i := 3) (a := 3) rfl rfl (dk_X7_tape 37 _ rfl) ?_
    refine F_if_ge (tgt := 44) (by decide) (dk_X7_tape 38 _ rfl) ?_ ?_
    · exact F_loc (fun _ z => z) (j_X7_tape_44   _ _ _ _ )
    · refine F_bipush (v := (-14)) (by decide) (dk_X7_tape 41 _ rfl) ?_
      exact F_ret rfl (dk_X7_tape 43 _ rfl)
def f_X7_tape (m : mM) (p1 : Int32) (p2 : Int32) (p3 : Int32) : fR Int32 :=
  bnd (f_X7_isTape m p1) fun (x1 : Int32) (m2 : mM) => (if x1 = 0 then some ((-1), m2) else bnd (f_X7_in m2 p2 (-1) 4) fun (x4 : Int32) (m5 : mM) => (if x4 = 0 then some ((-2), m5) else (if p2 < 0 then (f_X7_tape_33  m5 p1 p2 p3) else (if p3 ≤ 60 then (f_X7_tape_33  m5 p1 p2 p3) else some ((-2), m5)))))
theorem c_X7_tape (m : mM) (p1 : Int32) (p2 : Int32) (p3 : Int32)  : cF false uI m_X7_tape 4 [.ref 0, .int p1, .int p2, .int p3] m (f_X7_tape m p1 p2 p3) := by
  refine cF_of ok_X7_tape (fun _ _ => Nat.le_of_ble_eq_true rfl) ?_
  unfold f_X7_tape
  show JF _ _ _ _ _ [(0, .ref 0), (1, .int p1), (2, .int p2), (3, .int p3)] _ _ _
  refine F_aload_n (i := 0) (a := 0) rfl rfl (dk_X7_tape 0 _ rfl) ?_
  refine F_iload_n (i := 1) (a := 1) rfl rfl (dk_X7_tape 1 _ rfl) ?_
  refine F_callV (ι' := uI) (ci := 7) (b := 0) (As := [.int p1]) (d' := 3) (rfl) ok_X7_isTape vi_X7_isTape cl_7_354 (n := 1) (by decide +kernel) rfl rfl rfl (Nat.le_of_ble_eq_true rfl) (by omega) (dk_X7_tape 2 _ rfl) (c_X7_isTape _ _ ) (fun x1 m2 => ?_)
  show JF _ _ _ _ _ _ [.int x1] _ _
  refine F_if_ne (tgt := 10) (by decide) (dk_X7_tape 5 _ rfl) ?_ ?_
  · refine F_aload_n (i := 0) (a := 0) rfl rfl (dk_X7_tape 10 _ rfl) ?_
    refine F_iload_n (i := 2) (a := 2) rfl rfl (dk_X7_tape 11 _ rfl) ?_
    refine F_iconst (v := (-1)) (by decide) (dk_X7_tape 12 _ rfl) ?_
    refine F_iconst (v := 4) (by decide) (dk_X7_tape 13 _ rfl) ?_
    refine F_callV (ι' := uI) (ci := 7) (b := 0) (As := [.int p2, .int (-1), .int 4]) (d' := 2) (rfl) ok_X7_in vi_X7_in cl_7_194 (n := 3) (by decide +kernel) rfl rfl rfl (Nat.le_of_ble_eq_true rfl) (by omega) (dk_X7_tape 14 _ rfl) (c_X7_in _ _ _ _ ) (fun x4 m5 => ?_)
    show JF _ _ _ _ _ _ [.int x4] _ _
    refine F_if_eq (tgt := 30) (by decide) (dk_X7_tape 17 _ rfl) ?_ ?_
    · refine F_bipush (v := (-2)) (by decide) (dk_X7_tape 30 _ rfl) ?_
      exact F_ret rfl (dk_X7_tape 32 _ rfl)
    · refine F_iload_n (i := 2) (a := 2) rfl rfl (dk_X7_tape 20 _ rfl) ?_
      refine F_if_lt (tgt := 33) (by decide) (dk_X7_tape 21 _ rfl) ?_ ?_
      · exact F_loc (fun _ z => z) (j_X7_tape_33   _ _ _ _ )
      · refine F_iload_n (i := 3) (a := 3) rfl rfl (dk_X7_tape 24 _ rfl) ?_
        refine F_bipush (v := 60) (by decide) (dk_X7_tape 25 _ rfl) ?_
        refine F_icmp_le (tgt := 33) (by decide) (dk_X7_tape 27 _ rfl) ?_ ?_
        · exact F_loc (fun _ z => z) (j_X7_tape_33   _ _ _ _ )
        · refine F_bipush (v := (-2)) (by decide) (dk_X7_tape 30 _ rfl) ?_
          exact F_ret rfl (dk_X7_tape 32 _ rfl)
  · refine F_iconst (v := (-1)) (by decide) (dk_X7_tape 8 _ rfl) ?_
    exact F_ret rfl (dk_X7_tape 9 _ rfl)
def f_X7_narrow (m : mM) (p1 : Int32) (p2 : Int64) : fR Int64 :=
  (if p1 = 0 then some ((((p2 : Int64).toInt32 : Int32).toInt8.toInt32 : Int32).toInt64, m) else (if p1 = 1 then some ((((p2 : Int64).toInt32 : Int32).toInt16.toInt32 : Int32).toInt64, m) else (if p1 = 2 then some (((p2 : Int64).toInt32 : Int32).toInt64, m) else (if p1 = 4 then (if (lg_cmp p2 0) = 0 then some (0, m) else some (1, m)) else some (p2, m)))))
theorem c_X7_narrow (m : mM) (p1 : Int32) (p2 : Int64)  : cF false uL m_X7_narrow 2 [.ref 0, .int p1, .long p2] m (f_X7_narrow m p1 p2) := by
  refine cF_of ok_X7_narrow (fun _ _ => Nat.le_of_ble_eq_true rfl) ?_
  unfold f_X7_narrow
  show JF _ _ _ _ _ [(0, .ref 0), (1, .int p1), (2, .long p2)] _ _ _
  refine F_iload_n (i := 1) (a := 1) rfl rfl (dk_X7_narrow 0 _ rfl) ?_
  refine F_if_ne (tgt := 11) (by decide) (dk_X7_narrow 1 _ rfl) ?_ ?_
  · refine F_iload_n (i := 1) (a := 1) rfl rfl (dk_X7_narrow 11 _ rfl) ?_
    refine F_iconst (v := 1) (by decide) (dk_X7_narrow 12 _ rfl) ?_
    refine F_icmp_ne (tgt := 23) (by decide) (dk_X7_narrow 13 _ rfl) ?_ ?_
    · refine F_iload_n (i := 1) (a := 1) rfl rfl (dk_X7_narrow 23 _ rfl) ?_
      refine F_iconst (v := 2) (by decide) (dk_X7_narrow 24 _ rfl) ?_
      refine F_icmp_ne (tgt := 34) (by decide) (dk_X7_narrow 25 _ rfl) ?_ ?_
      · refine F_iload_n (i := 1) (a := 1) rfl rfl (dk_X7_narrow 34 _ rfl) ?_
        refine F_iconst (v := 4) (by decide) (dk_X7_narrow 35 _ rfl) ?_
        refine F_icmp_ne (tgt := 53) (by decide) (dk_X7_narrow 36 _ rfl) ?_ ?_
        · refine F_lload_n (i := 2) (a := 2) rfl rfl (dk_X7_narrow 53 _ rfl) ?_
          exact F_retL rfl (dk_X7_narrow 54 _ rfl)
        · refine F_lload_n (i := 2) (a := 2) rfl rfl (dk_X7_narrow 39 _ rfl) ?_
          refine F_lconst (v := 0) (by decide) (dk_X7_narrow 40 _ rfl) ?_
          refine F_lcmp (dk_X7_narrow 41 _ rfl) ?_
          refine F_if_eq (tgt := 49) (by decide) (dk_X7_narrow 42 _ rfl) ?_ ?_
          · refine F_lconst (v := 0) (by decide) (dk_X7_narrow 49 _ rfl) ?_
            refine F_goto (tgt := 54) (by decide) (dk_X7_narrow 50 _ rfl) ?_
            exact F_retL rfl (dk_X7_narrow 54 _ rfl)
          · refine F_lconst (v := 1) (by decide) (dk_X7_narrow 45 _ rfl) ?_
            refine F_goto (tgt := 54) (by decide) (dk_X7_narrow 46 _ rfl) ?_
            exact F_retL rfl (dk_X7_narrow 54 _ rfl)
      · refine F_lload_n (i := 2) (a := 2) rfl rfl (dk_X7_narrow 28 _ rfl) ?_
        refine F_l2i (dk_X7_narrow 29 _ rfl) ?_
        refine F_i2l (dk_X7_narrow 30 _ rfl) ?_
        refine F_goto (tgt := 54) (by decide) (dk_X7_narrow 31 _ rfl) ?_
        exact F_retL rfl (dk_X7_narrow 54 _ rfl)
    · refine F_lload_n (i := 2) (a := 2) rfl rfl (dk_X7_narrow 16 _ rfl) ?_
      refine F_l2i (dk_X7_narrow 17 _ rfl) ?_
      refine F_i2s (dk_X7_narrow 18 _ rfl) ?_
      refine F_i2l (dk_X7_narrow 19 _ rfl) ?_
      refine F_goto (tgt := 54) (by decide) (dk_X7_narrow 20 _ rfl) ?_
      exact F_retL rfl (dk_X7_narrow 54 _ rfl)
  · refine F_lload_n (i := 2) (a := 2) rfl rfl (dk_X7_narrow 4 _ rfl) ?_
    refine F_l2i (dk_X7_narrow 5 _ rfl) ?_
    refine F_i2b (dk_X7_narrow 6 _ rfl) ?_
    refine F_i2l (dk_X7_narrow 7 _ rfl) ?_
    refine F_goto (tgt := 54) (by decide) (dk_X7_narrow 8 _ rfl) ?_
    exact F_retL rfl (dk_X7_narrow 54 _ rfl)
def f_X7_item (m : mM) (p1 : Int32) (p2 : Int32) (p3 : Int64) : fR Int32 :=
  bnd (f_X7_isTape m p1) fun (x1 : Int32) (m2 : mM) => (if x1 = 0 then some ((-1), m2) else (gA (mA m2 33) p1).bind fun x4 => (if 0 ≤ x4 then (gA (mA m2 34) p1).bind fun x5 => bnd (f_X7_in m2 p2 0 (x5 - 1)) fun (x6 : Int32) (m7 : mM) => (if x6 = 0 then some ((-13), m7) else (gA (mA m7 33) p1).bind fun x9 => bnd (f_X7_narrow m7 x9 p3) fun (x10 : Int64) (m11 : mM) => (sL m11 35 (((60 * p1) + p2)) x10).bind fun m13 => some (1, m13)) else some ((-11), m2)))
theorem c_X7_item (m : mM) (p1 : Int32) (p2 : Int32) (p3 : Int64)  : cF false uI m_X7_item 4 [.ref 0, .int p1, .int p2, .long p3] m (f_X7_item m p1 p2 p3) := by
  refine cF_of ok_X7_item (fun _ _ => Nat.le_of_ble_eq_true rfl) ?_
  unfold f_X7_item
  show JF _ _ _ _ _ [(0, .ref 0), (1, .int p1), (2, .int p2), (3, .long p3)] _ _ _
  refine F_aload_n (i := 0) (a := 0) rfl rfl (dk_X7_item 0 _ rfl) ?_
  refine F_iload_n (i := 1) (a := 1) rfl rfl (dk_X7_item 1 _ rfl) ?_
  refine F_callV (ι' := uI) (ci := 7) (b := 0) (As := [.int p1]) (d' := 3) (rfl) ok_X7_isTape vi_X7_isTape cl_7_354 (n := 1) (by decide +kernel) rfl rfl rfl (Nat.le_of_ble_eq_true rfl) (by omega) (dk_X7_item 2 _ rfl) (c_X7_isTape _ _ ) (fun x1 m2 => ?_)
  show JF _ _ _ _ _ _ [.int x1] _ _
  refine F_if_ne (tgt := 10) (by decide) (dk_X7_item 5 _ rfl) ?_ ?_
  · refine F_aload_n (i := 0) (a := 0) rfl rfl (dk_X7_item 10 _ rfl) ?_
    refine F_gR (b := 33) fxM_7_56_0 fl_7_181 (dk_X7_item 11 _ rfl) ?_
    refine F_iload_n (i := 1) (a := 1) rfl rfl (dk_X7_item 14 _ rfl) ?_
    refine F_iald (axM_0_33) (dk_X7_item 15 _ rfl) (fun x4 => ?_)
    refine F_if_ge (tgt := 22) (by decide) (dk_X7_item 16 _ rfl) ?_ ?_
    · refine F_aload_n (i := 0) (a := 0) rfl rfl (dk_X7_item 22 _ rfl) ?_
      refine F_iload_n (i := 2) (a := 2) rfl rfl (dk_X7_item 23 _ rfl) ?_
      refine F_iconst (v := 0) (by decide) (dk_X7_item 24 _ rfl) ?_
      refine F_aload_n (i := 0) (a := 0) rfl rfl (dk_X7_item 25 _ rfl) ?_
      refine F_gR (b := 34) fxM_7_57_0 fl_7_184 (dk_X7_item 26 _ rfl) ?_
      refine F_iload_n (i := 1) (a := 1) rfl rfl (dk_X7_item 29 _ rfl) ?_
      refine F_iald (axM_0_34) (dk_X7_item 30 _ rfl) (fun x5 => ?_)
      refine F_iconst (v := 1) (by decide) (dk_X7_item 31 _ rfl) ?_
      refine F_isub (dk_X7_item 32 _ rfl) ?_
      refine F_callV (ι' := uI) (ci := 7) (b := 0) (As := [.int p2, .int 0, .int (x5 - 1)]) (d' := 2) (rfl) ok_X7_in vi_X7_in cl_7_194 (n := 3) (by decide +kernel) rfl rfl rfl (Nat.le_of_ble_eq_true rfl) (by omega) (dk_X7_item 33 _ rfl) (c_X7_in _ _ _ _ ) (fun x6 m7 => ?_)
      show JF _ _ _ _ _ _ [.int x6] _ _
      refine F_if_ne (tgt := 42) (by decide) (dk_X7_item 36 _ rfl) ?_ ?_
      · refine F_aload_n (i := 0) (a := 0) rfl rfl (dk_X7_item 42 _ rfl) ?_
        refine F_gR (b := 35) fxM_7_58_0 fl_7_187 (dk_X7_item 43 _ rfl) ?_
        refine F_bipush (v := 60) (by decide) (dk_X7_item 46 _ rfl) ?_
        refine F_iload_n (i := 1) (a := 1) rfl rfl (dk_X7_item 48 _ rfl) ?_
        refine F_imul (dk_X7_item 49 _ rfl) ?_
        refine F_iload_n (i := 2) (a := 2) rfl rfl (dk_X7_item 50 _ rfl) ?_
        refine F_iadd (dk_X7_item 51 _ rfl) ?_
        refine F_aload_n (i := 0) (a := 0) rfl rfl (dk_X7_item 52 _ rfl) ?_
        refine F_aload_n (i := 0) (a := 0) rfl rfl (dk_X7_item 53 _ rfl) ?_
        refine F_gR (b := 33) fxM_7_56_0 fl_7_181 (dk_X7_item 54 _ rfl) ?_
        refine F_iload_n (i := 1) (a := 1) rfl rfl (dk_X7_item 57 _ rfl) ?_
        refine F_iald (axM_0_33) (dk_X7_item 58 _ rfl) (fun x9 => ?_)
        refine F_lload_n (i := 3) (a := 3) rfl rfl (dk_X7_item 59 _ rfl) ?_
        refine F_callV (ι' := uL) (ci := 7) (b := 0) (As := [.int x9, .long p3]) (d' := 2) (rfl) ok_X7_narrow vi_X7_narrow cl_7_381 (n := 2) (by decide +kernel) rfl rfl rfl (Nat.le_of_ble_eq_true rfl) (by omega) (dk_X7_item 60 _ rfl) (c_X7_narrow _ _ _ ) (fun x10 m11 => ?_)
        show JF _ _ _ _ _ _ [.long x10, .int ((60 * p1) + p2), .ref 35] _ _
        refine F_last (axM_1_35) (dk_X7_item 63 _ rfl) (fun m13 => ?_)
        refine F_iconst (v := 1) (by decide) (dk_X7_item 64 _ rfl) ?_
        exact F_ret rfl (dk_X7_item 65 _ rfl)
      · refine F_bipush (v := (-13)) (by decide) (dk_X7_item 39 _ rfl) ?_
        exact F_ret rfl (dk_X7_item 41 _ rfl)
    · refine F_bipush (v := (-11)) (by decide) (dk_X7_item 19 _ rfl) ?_
      exact F_ret rfl (dk_X7_item 21 _ rfl)
  · refine F_iconst (v := (-1)) (by decide) (dk_X7_item 8 _ rfl) ?_
    exact F_ret rfl (dk_X7_item 9 _ rfl)
def f_X7_read (m : mM) (p1 : Int32) (p2 : Int32) : fR Int64 :=
  bnd (f_X7_isTape m p1) fun (x1 : Int32) (m2 : mM) => (if x1 = 0 then some ((-9223372036854775808), m2) else (gA (mA m2 33) p1).bind fun x4 => (if x4 < 0 then some ((-9223372036854775808), m2) else (gA (mA m2 34) p1).bind fun x5 => bnd (f_X7_in m2 p2 0 (x5 - 1)) fun (x6 : Int32) (m7 : mM) => (if x6 = 0 then some ((-9223372036854775808), m7) else (gL (mL m7 35) (((60 * p1) + p2))).bind fun x9 => some (x9, m7))))
theorem c_X7_read (m : mM) (p1 : Int32) (p2 : Int32)  : cF false uL m_X7_read 4 [.ref 0, .int p1, .int p2] m (f_X7_read m p1 p2) := by
  refine cF_of ok_X7_read (fun _ _ => Nat.le_of_ble_eq_true rfl) ?_
  unfold f_X7_read
  show JF _ _ _ _ _ [(0, .ref 0), (1, .int p1), (2, .int p2)] _ _ _
  refine F_aload_n (i := 0) (a := 0) rfl rfl (dk_X7_read 0 _ rfl) ?_
  refine F_iload_n (i := 1) (a := 1) rfl rfl (dk_X7_read 1 _ rfl) ?_
  refine F_callV (ι' := uI) (ci := 7) (b := 0) (As := [.int p1]) (d' := 3) (rfl) ok_X7_isTape vi_X7_isTape cl_7_354 (n := 1) (by decide +kernel) rfl rfl rfl (Nat.le_of_ble_eq_true rfl) (by omega) (dk_X7_read 2 _ rfl) (c_X7_isTape _ _ ) (fun x1 m2 => ?_)
  show JF _ _ _ _ _ _ [.int x1] _ _
  refine F_if_eq (tgt := 34) (by decide) (dk_X7_read 5 _ rfl) ?_ ?_
  · refine F_ldc2 (v := (-9223372036854775808)) ctl_7_345 (dk_X7_read 34 _ rfl) ?_
    refine F_goto (tgt := 51) (by decide) (dk_X7_read 37 _ rfl) ?_
    exact F_retL rfl (dk_X7_read 51 _ rfl)
  · refine F_aload_n (i := 0) (a := 0) rfl rfl (dk_X7_read 8 _ rfl) ?_
    refine F_gR (b := 33) fxM_7_56_0 fl_7_181 (dk_X7_read 9 _ rfl) ?_
    refine F_iload_n (i := 1) (a := 1) rfl rfl (dk_X7_read 12 _ rfl) ?_
    refine F_iald (axM_0_33) (dk_X7_read 13 _ rfl) (fun x4 => ?_)
    refine F_if_lt (tgt := 34) (by decide) (dk_X7_read 14 _ rfl) ?_ ?_
    · refine F_ldc2 (v := (-9223372036854775808)) ctl_7_345 (dk_X7_read 34 _ rfl) ?_
      refine F_goto (tgt := 51) (by decide) (dk_X7_read 37 _ rfl) ?_
      exact F_retL rfl (dk_X7_read 51 _ rfl)
    · refine F_aload_n (i := 0) (a := 0) rfl rfl (dk_X7_read 17 _ rfl) ?_
      refine F_iload_n (i := 2) (a := 2) rfl rfl (dk_X7_read 18 _ rfl) ?_
      refine F_iconst (v := 0) (by decide) (dk_X7_read 19 _ rfl) ?_
      refine F_aload_n (i := 0) (a := 0) rfl rfl (dk_X7_read 20 _ rfl) ?_
      refine F_gR (b := 34) fxM_7_57_0 fl_7_184 (dk_X7_read 21 _ rfl) ?_
      refine F_iload_n (i := 1) (a := 1) rfl rfl (dk_X7_read 24 _ rfl) ?_
      refine F_iald (axM_0_34) (dk_X7_read 25 _ rfl) (fun x5 => ?_)
      refine F_iconst (v := 1) (by decide) (dk_X7_read 26 _ rfl) ?_
      refine F_isub (dk_X7_read 27 _ rfl) ?_
      refine F_callV (ι' := uI) (ci := 7) (b := 0) (As := [.int p2, .int 0, .int (x5 - 1)]) (d' := 2) (rfl) ok_X7_in vi_X7_in cl_7_194 (n := 3) (by decide +kernel) rfl rfl rfl (Nat.le_of_ble_eq_true rfl) (by omega) (dk_X7_read 28 _ rfl) (c_X7_in _ _ _ _ ) (fun x6 m7 => ?_)
      show JF _ _ _ _ _ _ [.int x6] _ _
      refine F_if_ne (tgt := 40) (by decide) (dk_X7_read 31 _ rfl) ?_ ?_
      · refine F_aload_n (i := 0) (a := 0) rfl rfl (dk_X7_read 40 _ rfl) ?_
        refine F_gR (b := 35) fxM_7_58_0 fl_7_187 (dk_X7_read 41 _ rfl) ?_
        refine F_bipush (v := 60) (by decide) (dk_X7_read 44 _ rfl) ?_
        refine F_iload_n (i := 1) (a := 1) rfl rfl (dk_X7_read 46 _ rfl) ?_
        refine F_imul (dk_X7_read 47 _ rfl) ?_
        refine F_iload_n (i := 2) (a := 2) rfl rfl (dk_X7_read 48 _ rfl) ?_
        refine F_iadd (dk_X7_read 49 _ rfl) ?_
        refine F_lald (axM_1_35) (dk_X7_read 50 _ rfl) (fun x9 => ?_)
        exact F_retL rfl (dk_X7_read 51 _ rfl)
      · refine F_ldc2 (v := (-9223372036854775808)) ctl_7_345 (dk_X7_read 34 _ rfl) ?_
        refine F_goto (tgt := 51) (by decide) (dk_X7_read 37 _ rfl) ?_
        exact F_retL rfl (dk_X7_read 51 _ rfl)
def fb_X7_shift_141 (K141 : mM → Int32 → Int32 → Int32 → Int32 → fR Int32) (m : mM) (y3 : Int32) (y4 : Int32) (y5 : Int32) (y6 : Int32) : fR Int32 :=
  (if y5 ≤ y6 then some (y5, m) else (gL (mL m 36) y6).bind fun x13 => (sL m 35 ((((60 * y3) + y4) + y6)) x13).bind fun m14 => (K141 m14 y3 y4 y5 (y6 + 1)))
def f_X7_shift_141  : Nat → mM → Int32 → Int32 → Int32 → Int32 → fR Int32
  | 0, _, _, _, _, _ => none
  | F + 1, m, y3, y4, y5, y6 => fb_X7_shift_141  (f_X7_shift_141  F) m y3 y4 y5 y6
theorem jb_X7_shift_141 (K141 : mM → Int32 → Int32 → Int32 → Int32 → fR Int32) (hK141 : ∀ (m : mM) (y3 : Int32) (y4 : Int32) (y5 : Int32) (y6 : Int32) , JF false uI m_X7_shift 4 141 [(0, .ref 0), (3, .int y3), (4, .int y4), (5, .int y5), (6, .int y6)] [] m (K141 m y3 y4 y5 y6)) (m : mM) (y3 : Int32) (y4 : Int32) (y5 : Int32) (y6 : Int32)  : JF false uI m_X7_shift 4 141 [(0, .ref 0), (3, .int y3), (4, .int y4), (5, .int y5), (6, .int y6)] [] m (fb_X7_shift_141 K141 m y3 y4 y5 y6) := by
  unfold fb_X7_shift_141
  refine F_iload (i := 6) rfl (dk_X7_shift 141 _ rfl) ?_
  refine F_iload (i := 5) rfl (dk_X7_shift 143 _ rfl) ?_
  refine F_icmp_ge (tgt := 176) (by decide) (dk_X7_shift 145 _ rfl) ?_ ?_
  · refine F_iload (i := 5) rfl (dk_X7_shift 176 _ rfl) ?_
    exact F_ret rfl (dk_X7_shift 178 _ rfl)
  · refine F_aload_n (i := 0) (a := 0) rfl rfl (dk_X7_shift 148 _ rfl) ?_
    refine F_gR (b := 35) fxM_7_58_0 fl_7_187 (dk_X7_shift 149 _ rfl) ?_
    refine F_bipush (v := 60) (by decide) (dk_X7_shift 152 _ rfl) ?_
    refine F_iload_n (i := 3) (a := 3) rfl rfl (dk_X7_shift 154 _ rfl) ?_
    refine F_imul (dk_X7_shift 155 _ rfl) ?_
    refine F_iload (i := 4) rfl (dk_X7_shift 156 _ rfl) ?_
    refine F_iadd (dk_X7_shift 158 _ rfl) ?_
    refine F_iload (i := 6) rfl (dk_X7_shift 159 _ rfl) ?_
    refine F_iadd (dk_X7_shift 161 _ rfl) ?_
    refine F_aload_n (i := 0) (a := 0) rfl rfl (dk_X7_shift 162 _ rfl) ?_
    refine F_gR (b := 36) fxM_7_59_0 fl_7_191 (dk_X7_shift 163 _ rfl) ?_
    refine F_iload (i := 6) rfl (dk_X7_shift 166 _ rfl) ?_
    refine F_lald (axM_1_36) (dk_X7_shift 168 _ rfl) (fun x13 => ?_)
    refine F_last (axM_1_35) (dk_X7_shift 169 _ rfl) (fun m14 => ?_)
    refine F_iinc (i := 6) (n := 1) (v := (y6 + 1)) (lv' := [(6, .int (y6 + 1)), (0, .ref 0), (3, .int y3), (4, .int y4), (5, .int y5)]) rfl (by first | rfl | decide) (by decide) rfl (dk_X7_shift 170 _ rfl) ?_
    refine F_goto (tgt := 141) (by decide) (dk_X7_shift 173 _ rfl) ?_
    exact F_loc (List.forall_mem_cons.mpr ⟨(.tail _ (.head _)), (List.forall_mem_cons.mpr ⟨(.tail _ (.tail _ (.head _))), (List.forall_mem_cons.mpr ⟨(.tail _ (.tail _ (.tail _ (.head _)))), (List.forall_mem_cons.mpr ⟨(.tail _ (.tail _ (.tail _ (.tail _ (.head _))))), (List.forall_mem_cons.mpr ⟨(.head _), (fun _ z => absurd z List.not_mem_nil)⟩)⟩)⟩)⟩)⟩) (hK141 _ _ _ _ _ )
theorem j_X7_shift_141   : ∀ (F : Nat) (m : mM) (y3 : Int32) (y4 : Int32) (y5 : Int32) (y6 : Int32) , JF false uI m_X7_shift 4 141 [(0, .ref 0), (3, .int y3), (4, .int y4), (5, .int y5), (6, .int y6)] [] m (f_X7_shift_141  F m y3 y4 y5 y6) := by
  intro F
  induction F with
  | zero => intro m y3 y4 y5 y6 ; exact F_no
  | succ F ih => intro m y3 y4 y5 y6 ; exact jb_X7_shift_141  (f_X7_shift_141  F)  ih m y3 y4 y5 y6 
def fb_X7_shift_104 (K104 : mM → Int32 → Int32 → Int32 → Int32 → Int32 → Int32 → fR Int32) (m : mM) (y1 : Int32) (y2 : Int32) (y3 : Int32) (y4 : Int32) (y5 : Int32) (y6 : Int32) : fR Int32 :=
  (if y5 ≤ y6 then (f_X7_shift_141  1000 m y3 y4 y5 0) else (gL (mL m 35) ((((60 * y1) + y2) + y6))).bind fun x15 => (sL m 36 y6 x15).bind fun m16 => (K104 m16 y1 y2 y3 y4 y5 (y6 + 1)))
def f_X7_shift_104  : Nat → mM → Int32 → Int32 → Int32 → Int32 → Int32 → Int32 → fR Int32
  | 0, _, _, _, _, _, _, _ => none
  | F + 1, m, y1, y2, y3, y4, y5, y6 => fb_X7_shift_104  (f_X7_shift_104  F) m y1 y2 y3 y4 y5 y6
theorem jb_X7_shift_104 (K104 : mM → Int32 → Int32 → Int32 → Int32 → Int32 → Int32 → fR Int32) (hK104 : ∀ (m : mM) (y1 : Int32) (y2 : Int32) (y3 : Int32) (y4 : Int32) (y5 : Int32) (y6 : Int32) , JF false uI m_X7_shift 4 104 [(0, .ref 0), (1, .int y1), (2, .int y2), (3, .int y3), (4, .int y4), (5, .int y5), (6, .int y6)] [] m (K104 m y1 y2 y3 y4 y5 y6)) (m : mM) (y1 : Int32) (y2 : Int32) (y3 : Int32) (y4 : Int32) (y5 : Int32) (y6 : Int32)  : JF false uI m_X7_shift 4 104 [(0, .ref 0), (1, .int y1), (2, .int y2), (3, .int y3), (4, .int y4), (5, .int y5), (6, .int y6)] [] m (fb_X7_shift_104 K104 m y1 y2 y3 y4 y5 y6) := by
  unfold fb_X7_shift_104
  refine F_iload (i := 6) rfl (dk_X7_shift 104 _ rfl) ?_
  refine F_iload (i := 5) rfl (dk_X7_shift 106 _ rfl) ?_
  refine F_icmp_ge (tgt := 138) (by decide) (dk_X7_shift 108 _ rfl) ?_ ?_
  · refine F_iconst (v := 0) (by decide) (dk_X7_shift 138 _ rfl) ?_
    refine F_istore (lv' := [(6, .int 0), (0, .ref 0), (1, .int y1), (2, .int y2), (3, .int y3), (4, .int y4), (5, .int y5)]) (i := 6) (by decide) rfl (dk_X7_shift 139 _ rfl) ?_
    exact F_loc (List.forall_mem_cons.mpr ⟨(.tail _ (.head _)), (List.forall_mem_cons.mpr ⟨(.tail _ (.tail _ (.tail _ (.tail _ (.head _))))), (List.forall_mem_cons.mpr ⟨(.tail _ (.tail _ (.tail _ (.tail _ (.tail _ (.head _)))))), (List.forall_mem_cons.mpr ⟨(.tail _ (.tail _ (.tail _ (.tail _ (.tail _ (.tail _ (.head _))))))), (List.forall_mem_cons.mpr ⟨(.head _), (fun _ z => absurd z List.not_mem_nil)⟩)⟩)⟩)⟩)⟩) (j_X7_shift_141   1000 _ _ _ _ _ )
  · refine F_aload_n (i := 0) (a := 0) rfl rfl (dk_X7_shift 111 _ rfl) ?_
    refine F_gR (b := 36) fxM_7_59_0 fl_7_191 (dk_X7_shift 112 _ rfl) ?_
    refine F_iload (i := 6) rfl (dk_X7_shift 115 _ rfl) ?_
    refine F_aload_n (i := 0) (a := 0) rfl rfl (dk_X7_shift 117 _ rfl) ?_
    refine F_gR (b := 35) fxM_7_58_0 fl_7_187 (dk_X7_shift 118 _ rfl) ?_
    refine F_bipush (v := 60) (by decide) (dk_X7_shift 121 _ rfl) ?_
    refine F_iload_n (i := 1) (a := 1) rfl rfl (dk_X7_shift 123 _ rfl) ?_
    refine F_imul (dk_X7_shift 124 _ rfl) ?_
    refine F_iload_n (i := 2) (a := 2) rfl rfl (dk_X7_shift 125 _ rfl) ?_
    refine F_iadd (dk_X7_shift 126 _ rfl) ?_
    refine F_iload (i := 6) rfl (dk_X7_shift 127 _ rfl) ?_
    refine F_iadd (dk_X7_shift 129 _ rfl) ?_
    refine F_lald (axM_1_35) (dk_X7_shift 130 _ rfl) (fun x15 => ?_)
    refine F_last (axM_1_36) (dk_X7_shift 131 _ rfl) (fun m16 => ?_)
    refine F_iinc (i := 6) (n := 1) (v := (y6 + 1)) (lv' := [(6, .int (y6 + 1)), (0, .ref 0), (1, .int y1), (2, .int y2), (3, .int y3), (4, .int y4), (5, .int y5)]) rfl (by first | rfl | decide) (by decide) rfl (dk_X7_shift 132 _ rfl) ?_
    refine F_goto (tgt := 104) (by decide) (dk_X7_shift 135 _ rfl) ?_
    exact F_loc (List.forall_mem_cons.mpr ⟨(.tail _ (.head _)), (List.forall_mem_cons.mpr ⟨(.tail _ (.tail _ (.head _))), (List.forall_mem_cons.mpr ⟨(.tail _ (.tail _ (.tail _ (.head _)))), (List.forall_mem_cons.mpr ⟨(.tail _ (.tail _ (.tail _ (.tail _ (.head _))))), (List.forall_mem_cons.mpr ⟨(.tail _ (.tail _ (.tail _ (.tail _ (.tail _ (.head _)))))), (List.forall_mem_cons.mpr ⟨(.tail _ (.tail _ (.tail _ (.tail _ (.tail _ (.tail _ (.head _))))))), (List.forall_mem_cons.mpr ⟨(.head _), (fun _ z => absurd z List.not_mem_nil)⟩)⟩)⟩)⟩)⟩)⟩)⟩) (hK104 _ _ _ _ _ _ _ )
theorem j_X7_shift_104   : ∀ (F : Nat) (m : mM) (y1 : Int32) (y2 : Int32) (y3 : Int32) (y4 : Int32) (y5 : Int32) (y6 : Int32) , JF false uI m_X7_shift 4 104 [(0, .ref 0), (1, .int y1), (2, .int y2), (3, .int y3), (4, .int y4), (5, .int y5), (6, .int y6)] [] m (f_X7_shift_104  F m y1 y2 y3 y4 y5 y6) := by
  intro F
  induction F with
  | zero => intro m y1 y2 y3 y4 y5 y6 ; exact F_no
  | succ F ih => intro m y1 y2 y3 y4 y5 y6 ; exact jb_X7_shift_104  (f_X7_shift_104  F)  ih m y1 y2 y3 y4 y5 y6 
def f_X7_shift (m : mM) (p1 : Int32) (p2 : Int32) (p3 : Int32) (p4 : Int32) (p5 : Int32) : fR Int32 :=
  bnd (f_X7_isTape m p1) fun (x1 : Int32) (m2 : mM) => (if x1 = 0 then some ((-1), m2) else bnd (f_X7_isTape m2 p3) fun (x4 : Int32) (m5 : mM) => (if x4 = 0 then some ((-1), m5) else (gA (mA m5 33) p1).bind fun x7 => (if x7 < 0 then some ((-11), m5) else (gA (mA m5 33) p3).bind fun x8 => (if 0 ≤ x8 then (gA (mA m5 33) p1).bind fun x9 => (gA (mA m5 33) p3).bind fun x10 => (if x9 = x10 then (if p5 < 0 then some ((-13), m5) else (if p2 < 0 then some ((-13), m5) else (if p4 < 0 then some ((-13), m5) else (gA (mA m5 34) p1).bind fun x11 => (if (x11 - p5) < p2 then some ((-13), m5) else (gA (mA m5 34) p3).bind fun x12 => (if p4 ≤ (x12 - p5) then (f_X7_shift_104  1000 m5 p1 p2 p3 p4 p5 0) else some ((-13), m5)))))) else some ((-12), m5)) else some ((-11), m5)))))
theorem c_X7_shift (m : mM) (p1 : Int32) (p2 : Int32) (p3 : Int32) (p4 : Int32) (p5 : Int32)  : cF false uI m_X7_shift 4 [.ref 0, .int p1, .int p2, .int p3, .int p4, .int p5] m (f_X7_shift m p1 p2 p3 p4 p5) := by
  refine cF_of ok_X7_shift (fun _ _ => Nat.le_of_ble_eq_true rfl) ?_
  unfold f_X7_shift
  show JF _ _ _ _ _ [(0, .ref 0), (1, .int p1), (2, .int p2), (3, .int p3), (4, .int p4), (5, .int p5)] _ _ _
  refine F_aload_n (i := 0) (a := 0) rfl rfl (dk_X7_shift 0 _ rfl) ?_
  refine F_iload_n (i := 1) (a := 1) rfl rfl (dk_X7_shift 1 _ rfl) ?_
  refine F_callV (ι' := uI) (ci := 7) (b := 0) (As := [.int p1]) (d' := 3) (rfl) ok_X7_isTape vi_X7_isTape cl_7_354 (n := 1) (by decide +kernel) rfl rfl rfl (Nat.le_of_ble_eq_true rfl) (by omega) (dk_X7_shift 2 _ rfl) (c_X7_isTape _ _ ) (fun x1 m2 => ?_)
  show JF _ _ _ _ _ _ [.int x1] _ _
  refine F_if_eq (tgt := 16) (by decide) (dk_X7_shift 5 _ rfl) ?_ ?_
  · refine F_iconst (v := (-1)) (by decide) (dk_X7_shift 16 _ rfl) ?_
    exact F_ret rfl (dk_X7_shift 17 _ rfl)
  · refine F_aload_n (i := 0) (a := 0) rfl rfl (dk_X7_shift 8 _ rfl) ?_
    refine F_iload_n (i := 3) (a := 3) rfl rfl (dk_X7_shift 9 _ rfl) ?_
    refine F_callV (ι' := uI) (ci := 7) (b := 0) (As := [.int p3]) (d' := 3) (rfl) ok_X7_isTape vi_X7_isTape cl_7_354 (n := 1) (by decide +kernel) rfl rfl rfl (Nat.le_of_ble_eq_true rfl) (by omega) (dk_X7_shift 10 _ rfl) (c_X7_isTape _ _ ) (fun x4 m5 => ?_)
    show JF _ _ _ _ _ _ [.int x4] _ _
    refine F_if_ne (tgt := 18) (by decide) (dk_X7_shift 13 _ rfl) ?_ ?_
    · refine F_aload_n (i := 0) (a := 0) rfl rfl (dk_X7_shift 18 _ rfl) ?_
      refine F_gR (b := 33) fxM_7_56_0 fl_7_181 (dk_X7_shift 19 _ rfl) ?_
      refine F_iload_n (i := 1) (a := 1) rfl rfl (dk_X7_shift 22 _ rfl) ?_
      refine F_iald (axM_0_33) (dk_X7_shift 23 _ rfl) (fun x7 => ?_)
      refine F_if_lt (tgt := 36) (by decide) (dk_X7_shift 24 _ rfl) ?_ ?_
      · refine F_bipush (v := (-11)) (by decide) (dk_X7_shift 36 _ rfl) ?_
        exact F_ret rfl (dk_X7_shift 38 _ rfl)
      · refine F_aload_n (i := 0) (a := 0) rfl rfl (dk_X7_shift 27 _ rfl) ?_
        refine F_gR (b := 33) fxM_7_56_0 fl_7_181 (dk_X7_shift 28 _ rfl) ?_
        refine F_iload_n (i := 3) (a := 3) rfl rfl (dk_X7_shift 31 _ rfl) ?_
        refine F_iald (axM_0_33) (dk_X7_shift 32 _ rfl) (fun x8 => ?_)
        refine F_if_ge (tgt := 39) (by decide) (dk_X7_shift 33 _ rfl) ?_ ?_
        · refine F_aload_n (i := 0) (a := 0) rfl rfl (dk_X7_shift 39 _ rfl) ?_
          refine F_gR (b := 33) fxM_7_56_0 fl_7_181 (dk_X7_shift 40 _ rfl) ?_
          refine F_iload_n (i := 1) (a := 1) rfl rfl (dk_X7_shift 43 _ rfl) ?_
          refine F_iald (axM_0_33) (dk_X7_shift 44 _ rfl) (fun x9 => ?_)
          refine F_aload_n (i := 0) (a := 0) rfl rfl (dk_X7_shift 45 _ rfl) ?_
          refine F_gR (b := 33) fxM_7_56_0 fl_7_181 (dk_X7_shift 46 _ rfl) ?_
          refine F_iload_n (i := 3) (a := 3) rfl rfl (dk_X7_shift 49 _ rfl) ?_
          refine F_iald (axM_0_33) (dk_X7_shift 50 _ rfl) (fun x10 => ?_)
          refine F_icmp_eq (tgt := 57) (by decide) (dk_X7_shift 51 _ rfl) ?_ ?_
          · refine F_iload (i := 5) rfl (dk_X7_shift 57 _ rfl) ?_
            refine F_if_lt (tgt := 98) (by decide) (dk_X7_shift 59 _ rfl) ?_ ?_
            · refine F_bipush (v := (-13)) (by decide) (dk_X7_shift 98 _ rfl) ?_
              exact F_ret rfl (dk_X7_shift 100 _ rfl)
            · refine F_iload_n (i := 2) (a := 2) rfl rfl (dk_X7_shift 62 _ rfl) ?_
              refine F_if_lt (tgt := 98) (by decide) (dk_X7_shift 63 _ rfl) ?_ ?_
              · refine F_bipush (v := (-13)) (by decide) (dk_X7_shift 98 _ rfl) ?_
                exact F_ret rfl (dk_X7_shift 100 _ rfl)
              · refine F_iload (i := 4) rfl (dk_X7_shift 66 _ rfl) ?_
                refine F_if_lt (tgt := 98) (by decide) (dk_X7_shift 68 _ rfl) ?_ ?_
                · refine F_bipush (v := (-13)) (by decide) (dk_X7_shift 98 _ rfl) ?_
                  exact F_ret rfl (dk_X7_shift 100 _ rfl)
                · refine F_iload_n (i := 2) (a := 2) rfl rfl (dk_X7_shift 71 _ rfl) ?_
                  refine F_aload_n (i := 0) (a := 0) rfl rfl (dk_X7_shift 72 _ rfl) ?_
                  refine F_gR (b := 34) fxM_7_57_0 fl_7_184 (dk_X7_shift 73 _ rfl) ?_
                  refine F_iload_n (i := 1) (a := 1) rfl rfl (dk_X7_shift 76 _ rfl) ?_
                  refine F_iald (axM_0_34) (dk_X7_shift 77 _ rfl) (fun x11 => ?_)
                  refine F_iload (i := 5) rfl (dk_X7_shift 78 _ rfl) ?_
                  refine F_isub (dk_X7_shift 80 _ rfl) ?_
                  refine F_icmp_gt (tgt := 98) (by decide) (dk_X7_shift 81 _ rfl) ?_ ?_
                  · refine F_bipush (v := (-13)) (by decide) (dk_X7_shift 98 _ rfl) ?_
                    exact F_ret rfl (dk_X7_shift 100 _ rfl)
                  · refine F_iload (i := 4) rfl (dk_X7_shift 84 _ rfl) ?_
                    refine F_aload_n (i := 0) (a := 0) rfl rfl (dk_X7_shift 86 _ rfl) ?_
                    refine F_gR (b := 34) fxM_7_57_0 fl_7_184 (dk_X7_shift 87 _ rfl) ?_
                    refine F_iload_n (i := 3) (a := 3) rfl rfl (dk_X7_shift 90 _ rfl) ?_
                    refine F_iald (axM_0_34) (dk_X7_shift 91 _ rfl) (fun x12 => ?_)
                    refine F_iload (i := 5) rfl (dk_X7_shift 92 _ rfl) ?_
                    refine F_isub (dk_X7_shift 94 _ rfl) ?_
                    refine F_icmp_le (tgt := 101) (by decide) (dk_X7_shift 95 _ rfl) ?_ ?_
                    · refine F_iconst (v := 0) (by decide) (dk_X7_shift 101 _ rfl) ?_
                      refine F_istore (lv' := [(6, .int 0), (0, .ref 0), (1, .int p1), (2, .int p2), (3, .int p3), (4, .int p4), (5, .int p5)]) (i := 6) (by decide) rfl (dk_X7_shift 102 _ rfl) ?_
                      exact F_loc (List.forall_mem_cons.mpr ⟨(.tail _ (.head _)), (List.forall_mem_cons.mpr ⟨(.tail _ (.tail _ (.head _))), (List.forall_mem_cons.mpr ⟨(.tail _ (.tail _ (.tail _ (.head _)))), (List.forall_mem_cons.mpr ⟨(.tail _ (.tail _ (.tail _ (.tail _ (.head _))))), (List.forall_mem_cons.mpr ⟨(.tail _ (.tail _ (.tail _ (.tail _ (.tail _ (.head _)))))), (List.forall_mem_cons.mpr ⟨(.tail _ (.tail _ (.tail _ (.tail _ (.tail _ (.tail _ (.head _))))))), (List.forall_mem_cons.mpr ⟨(.head _), (fun _ z => absurd z List.not_mem_nil)⟩)⟩)⟩)⟩)⟩)⟩)⟩) (j_X7_shift_104   1000 _ _ _ _ _ _ _ )
                    · refine F_bipush (v := (-13)) (by decide) (dk_X7_shift 98 _ rfl) ?_
                      exact F_ret rfl (dk_X7_shift 100 _ rfl)
          · refine F_bipush (v := (-12)) (by decide) (dk_X7_shift 54 _ rfl) ?_
            exact F_ret rfl (dk_X7_shift 56 _ rfl)
        · refine F_bipush (v := (-11)) (by decide) (dk_X7_shift 36 _ rfl) ?_
          exact F_ret rfl (dk_X7_shift 38 _ rfl)
    · refine F_iconst (v := (-1)) (by decide) (dk_X7_shift 16 _ rfl) ?_
      exact F_ret rfl (dk_X7_shift 17 _ rfl)
end
