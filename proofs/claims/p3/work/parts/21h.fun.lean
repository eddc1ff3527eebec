section
set_option maxRecDepth 100000
def f_X6_image (m : mM)  : fR Int32 :=
  bnd (f_X2_copy m 23 14) fun (x1 : Unit) (m2 : mM) => nmM (wI m2 3 1) fun m4 => some ((mI m4 1472), m4)
theorem c_X6_image (m : mM)   : cF true uI m_X6_image 3 [.ref 0] m (f_X6_image m ) := by
  refine cF_of ok_X6_image (fun _ _ => Nat.le_of_ble_eq_true rfl) ?_
  unfold f_X6_image
  show JF _ _ _ _ _ [(0, .ref 0)] _ _ _
  refine F_aload_n (i := 0) (a := 0) rfl rfl (dk_X6_image 0 _ rfl) ?_
  refine F_gR (b := 23) fxX_6_1_0 fl_6_51 (dk_X6_image 1 _ rfl) ?_
  refine F_aload_n (i := 0) (a := 0) rfl rfl (dk_X6_image 4 _ rfl) ?_
  refine F_gR (b := 14) fxX_6_0_0 fl_6_47 (dk_X6_image 5 _ rfl) ?_
  refine F_callV (ι' := uU) (ci := 2) (b := 23) (As := [.ref 14]) (d' := 2) (rfl) ok_X2_copy vi_X2_copy cl_6_185 (n := 1) (by decide +kernel) rfl rfl rfl (Nat.le_of_ble_eq_true rfl) (by omega) (dk_X6_image 8 _ rfl) (c_X2_copy _ _ _ (rfl) (rfl)) (fun x1 m2 => ?_)
  show JF _ _ _ _ _ _ [] _ _
  refine F_aload_n (i := 0) (a := 0) rfl rfl (dk_X6_image 11 _ rfl) ?_
  refine F_iconst (v := 1) (by decide) (dk_X6_image 12 _ rfl) ?_
  refine F_pI (n := 3) fxX_6_3_0 rfl fl_6_231 (fun q hq => by cases hq; rfl) (Or.inr rfl) (dk_X6_image 13 _ rfl) (fun m4 => ?_)
  refine F_aload_n (i := 0) (a := 0) rfl rfl (dk_X6_image 16 _ rfl) ?_
  refine F_gR (b := 23) fxX_6_1_0 fl_6_51 (dk_X6_image 17 _ rfl) ?_
  refine F_gI (n := 1472) fxX_2_0_23 rfl fl_6_71 (dk_X6_image 20 _ rfl) ?_
  exact F_ret rfl (dk_X6_image 23 _ rfl)
def f_X6_undo (m : mM)  : fR Int32 :=
  (if (mI m 3) = 0 then some ((-3), m) else bnd (f_X2_copy m 14 23) fun (x1 : Unit) (m2 : mM) => some ((mI m2 896), m2))
theorem c_X6_undo (m : mM)   : cF true uI m_X6_undo 3 [.ref 0] m (f_X6_undo m ) := by
  refine cF_of ok_X6_undo (fun _ _ => Nat.le_of_ble_eq_true rfl) ?_
  unfold f_X6_undo
  show JF _ _ _ _ _ [(0, .ref 0)] _ _ _
  refine F_aload_n (i := 0) (a := 0) rfl rfl (dk_X6_undo 0 _ rfl) ?_
  refine F_gI (n := 3) fxX_6_3_0 rfl fl_6_231 (dk_X6_undo 1 _ rfl) ?_
  refine F_if_ne (tgt := 10) (by decide) (dk_X6_undo 4 _ rfl) ?_ ?_
  · refine F_aload_n (i := 0) (a := 0) rfl rfl (dk_X6_undo 10 _ rfl) ?_
    refine F_gR (b := 14) fxX_6_0_0 fl_6_47 (dk_X6_undo 11 _ rfl) ?_
    refine F_aload_n (i := 0) (a := 0) rfl rfl (dk_X6_undo 14 _ rfl) ?_
    refine F_gR (b := 23) fxX_6_1_0 fl_6_51 (dk_X6_undo 15 _ rfl) ?_
    refine F_callV (ι' := uU) (ci := 2) (b := 14) (As := [.ref 23]) (d' := 2) (rfl) ok_X2_copy vi_X2_copy cl_6_185 (n := 1) (by decide +kernel) rfl rfl rfl (Nat.le_of_ble_eq_true rfl) (by omega) (dk_X6_undo 18 _ rfl) (c_X2_copy _ _ _ (rfl) (rfl)) (fun x1 m2 => ?_)
    show JF _ _ _ _ _ _ [] _ _
    refine F_aload_n (i := 0) (a := 0) rfl rfl (dk_X6_undo 21 _ rfl) ?_
    refine F_gR (b := 14) fxX_6_0_0 fl_6_47 (dk_X6_undo 22 _ rfl) ?_
    refine F_gI (n := 896) fxX_2_0_14 rfl fl_6_71 (dk_X6_undo 25 _ rfl) ?_
    exact F_ret rfl (dk_X6_undo 28 _ rfl)
  · refine F_bipush (v := (-3)) (by decide) (dk_X6_undo 7 _ rfl) ?_
    exact F_ret rfl (dk_X6_undo 9 _ rfl)
def f_X6_act (m : mM) (p1 : Int32) (p2 : Int32) (p3 : Int32) : fR Int32 :=
  nmM (wI m 321 0) fun m1 => bnd (f_X6_isPerson m1 p1) fun (x2 : Int32) (m3 : mM) => (if x2 = 0 then some (0, m3) else (gA (mA m3 15) p1).bind fun x5 => (gA (mA m3 16) p1).bind fun x6 => bnd (f_X0_becomes m3 p1 x5 x6) fun (x7 : Unit) (m8 : mM) => bnd (f_X0_answer m8 p2 p3) fun (x10 : Int32) (m11 : mM) => some (x10, m11))
theorem c_X6_act (m : mM) (p1 : Int32) (p2 : Int32) (p3 : Int32)  : cF true uI m_X6_act 13 [.ref 0, .int p1, .int p2, .int p3] m (f_X6_act m p1 p2 p3) := by
  refine cF_of ok_X6_act (fun _ _ => Nat.le_of_ble_eq_true rfl) ?_
  unfold f_X6_act
  show JF _ _ _ _ _ [(0, .ref 0), (1, .int p1), (2, .int p2), (3, .int p3)] _ _ _
  refine F_aload_n (i := 0) (a := 0) rfl rfl (dk_X6_act 0 _ rfl) ?_
  refine F_gR (b := 5) fxX_6_9_0 fl_6_31 (dk_X6_act 1 _ rfl) ?_
  refine F_iconst (v := 0) (by decide) (dk_X6_act 4 _ rfl) ?_
  refine F_pI (n := 321) fxX_0_1_5 rfl fl_6_235 (fun q hq => by cases hq; rfl) trivial (dk_X6_act 5 _ rfl) (fun m1 => ?_)
  refine F_aload_n (i := 0) (a := 0) rfl rfl (dk_X6_act 8 _ rfl) ?_
  refine F_iload_n (i := 1) (a := 1) rfl rfl (dk_X6_act 9 _ rfl) ?_
  refine F_callV (ι' := uI) (ci := 6) (b := 0) (As := [.int p1]) (d' := 2) (rfl) ok_X6_isPerson vi_X6_isPerson cl_6_79 (n := 1) (by decide +kernel) rfl rfl rfl (Nat.le_of_ble_eq_true rfl) (by omega) (dk_X6_act 10 _ rfl) (c_X6_isPerson _ _ ) (fun x2 m3 => ?_)
  show JF _ _ _ _ _ _ [.int x2] _ _
  refine F_if_ne (tgt := 18) (by decide) (dk_X6_act 13 _ rfl) ?_ ?_
  · refine F_aload_n (i := 0) (a := 0) rfl rfl (dk_X6_act 18 _ rfl) ?_
    refine F_gR (b := 5) fxX_6_9_0 fl_6_31 (dk_X6_act 19 _ rfl) ?_
    refine F_iload_n (i := 1) (a := 1) rfl rfl (dk_X6_act 22 _ rfl) ?_
    refine F_aload_n (i := 0) (a := 0) rfl rfl (dk_X6_act 23 _ rfl) ?_
    refine F_gR (b := 14) fxX_6_0_0 fl_6_47 (dk_X6_act 24 _ rfl) ?_
    refine F_gR (b := 15) fxX_2_5_14 fl_6_97 (dk_X6_act 27 _ rfl) ?_
    refine F_iload_n (i := 1) (a := 1) rfl rfl (dk_X6_act 30 _ rfl) ?_
    refine F_iald (axX_0_15) (dk_X6_act 31 _ rfl) (fun x5 => ?_)
    refine F_aload_n (i := 0) (a := 0) rfl rfl (dk_X6_act 32 _ rfl) ?_
    refine F_gR (b := 14) fxX_6_0_0 fl_6_47 (dk_X6_act 33 _ rfl) ?_
    refine F_gR (b := 16) fxX_2_6_14 fl_6_100 (dk_X6_act 36 _ rfl) ?_
    refine F_iload_n (i := 1) (a := 1) rfl rfl (dk_X6_act 39 _ rfl) ?_
    refine F_iald (axX_0_16) (dk_X6_act 40 _ rfl) (fun x6 => ?_)
    refine F_callV (ι' := uU) (ci := 0) (b := 5) (As := [.int p1, .int x5, .int x6]) (d' := 2) (rfl) ok_X0_becomes vi_X0_becomes cl_6_238 (n := 3) (by decide +kernel) rfl rfl rfl (Nat.le_of_ble_eq_true rfl) (by omega) (dk_X6_act 41 _ rfl) (c_X0_becomes _ _ _ _ ) (fun x7 m8 => ?_)
    show JF _ _ _ _ _ _ [] _ _
    refine F_aload_n (i := 0) (a := 0) rfl rfl (dk_X6_act 44 _ rfl) ?_
    refine F_gR (b := 5) fxX_6_9_0 fl_6_31 (dk_X6_act 45 _ rfl) ?_
    refine F_iload_n (i := 2) (a := 2) rfl rfl (dk_X6_act 48 _ rfl) ?_
    refine F_iload_n (i := 3) (a := 3) rfl rfl (dk_X6_act 49 _ rfl) ?_
    refine F_callV (ι' := uI) (ci := 0) (b := 5) (As := [.int p2, .int p3]) (d' := 12) (rfl) ok_X0_answer vi_X0_answer cl_6_242 (n := 2) (by decide +kernel) rfl rfl rfl (Nat.le_of_ble_eq_true rfl) (by omega) (dk_X6_act 50 _ rfl) (c_X0_answer _ _ _ ) (fun x10 m11 => ?_)
    show JF _ _ _ _ _ _ [.int x10] _ _
    exact F_ret rfl (dk_X6_act 53 _ rfl)
  · refine F_iconst (v := 0) (by decide) (dk_X6_act 16 _ rfl) ?_
    exact F_ret rfl (dk_X6_act 17 _ rfl)
def f_X6_trace (m : mM) (p1 : Int32) : fR Int32 :=
  (if p1 < 0 then some ((-1), m) else (if (mI m 321) ≤ p1 then some ((-1), m) else (if p1 < 20 then (gA (mA m 6) p1).bind fun x1 => some (x1, m) else some ((-1), m))))
theorem c_X6_trace (m : mM) (p1 : Int32)  : cF true uI m_X6_trace 2 [.ref 0, .int p1] m (f_X6_trace m p1) := by
  refine cF_of ok_X6_trace (fun _ _ => Nat.le_of_ble_eq_true rfl) ?_
  unfold f_X6_trace
  show JF _ _ _ _ _ [(0, .ref 0), (1, .int p1)] _ _ _
  refine F_iload_n (i := 1) (a := 1) rfl rfl (dk_X6_trace 0 _ rfl) ?_
  refine F_if_lt (tgt := 21) (by decide) (dk_X6_trace 1 _ rfl) ?_ ?_
  · refine F_iconst (v := (-1)) (by decide) (dk_X6_trace 21 _ rfl) ?_
    refine F_goto (tgt := 34) (by decide) (dk_X6_trace 22 _ rfl) ?_
    exact F_ret rfl (dk_X6_trace 34 _ rfl)
  · refine F_iload_n (i := 1) (a := 1) rfl rfl (dk_X6_trace 4 _ rfl) ?_
    refine F_aload_n (i := 0) (a := 0) rfl rfl (dk_X6_trace 5 _ rfl) ?_
    refine F_gR (b := 5) fxX_6_9_0 fl_6_31 (dk_X6_trace 6 _ rfl) ?_
    refine F_gI (n := 321) fxX_0_1_5 rfl fl_6_235 (dk_X6_trace 9 _ rfl) ?_
    refine F_icmp_ge (tgt := 21) (by decide) (dk_X6_trace 12 _ rfl) ?_ ?_
    · refine F_iconst (v := (-1)) (by decide) (dk_X6_trace 21 _ rfl) ?_
      refine F_goto (tgt := 34) (by decide) (dk_X6_trace 22 _ rfl) ?_
      exact F_ret rfl (dk_X6_trace 34 _ rfl)
    · refine F_iload_n (i := 1) (a := 1) rfl rfl (dk_X6_trace 15 _ rfl) ?_
      refine F_bipush (v := 20) (by decide) (dk_X6_trace 16 _ rfl) ?_
      refine F_icmp_lt (tgt := 25) (by decide) (dk_X6_trace 18 _ rfl) ?_ ?_
      · refine F_aload_n (i := 0) (a := 0) rfl rfl (dk_X6_trace 25 _ rfl) ?_
        refine F_gR (b := 5) fxX_6_9_0 fl_6_31 (dk_X6_trace 26 _ rfl) ?_
        refine F_gR (b := 6) fxX_0_0_5 fl_6_245 (dk_X6_trace 29 _ rfl) ?_
        refine F_iload_n (i := 1) (a := 1) rfl rfl (dk_X6_trace 32 _ rfl) ?_
        refine F_iald (axX_0_6) (dk_X6_trace 33 _ rfl) (fun x1 => ?_)
        exact F_ret rfl (dk_X6_trace 34 _ rfl)
      · refine F_iconst (v := (-1)) (by decide) (dk_X6_trace 21 _ rfl) ?_
        refine F_goto (tgt := 34) (by decide) (dk_X6_trace 22 _ rfl) ?_
        exact F_ret rfl (dk_X6_trace 34 _ rfl)
def f_X6_taken_57  (m : mM) (y3 : Int32) (y100 : Int32) : fR Int32 :=
  (if y100 = 0 then some ((-12), m) else some (y3, m))
theorem j_X6_taken_57   (m : mM) (y3 : Int32) (y100 : Int32)  : JF true uI m_X6_taken 3 57 [(3, .int y3)] [.int y100] m (f_X6_taken_57  m y3 y100) := by
  unfold f_X6_taken_57
  refine F_istore (lv' := [(4, .int y100), (3, .int y3)]) (i := 4) (by decide) rfl (dk_X6_taken 57 _ rfl) ?_
  refine F_iload (i := 4) rfl (dk_X6_taken 59 _ rfl) ?_
  refine F_if_eq (tgt := 68) (by decide) (dk_X6_taken 61 _ rfl) ?_ ?_
  · refine F_bipush (v := (-12)) (by decide) (dk_X6_taken 68 _ rfl) ?_
    exact F_ret rfl (dk_X6_taken 70 _ rfl)
  · refine F_iload_n (i := 3) (a := 3) rfl rfl (dk_X6_taken 64 _ rfl) ?_
    refine F_goto (tgt := 70) (by decide) (dk_X6_taken 65 _ rfl) ?_
    exact F_ret rfl (dk_X6_taken 70 _ rfl)
def f_X6_taken (m : mM) (p1 : Int32) (p2 : Int32) : fR Int32 :=
  (if p2 < 0 then some ((-2), m) else (if p2 < 7 then bnd (f_X6_isPerson m p1) fun (x1 : Int32) (m2 : mM) => (if x1 = 0 then some ((-11), m2) else (gA (mA m2 15) p1).bind fun x4 => (if x4 = p2 then (f_X6_taken_57  m2 x4 1) else (gA oxA x4).bind fun x5 => (if x5 = p2 then (f_X6_taken_57  m2 x4 1) else (if p2 = 0 then (f_X6_taken_57  m2 x4 1) else (f_X6_taken_57  m2 x4 0))))) else some ((-2), m)))
theorem c_X6_taken (m : mM) (p1 : Int32) (p2 : Int32)  : cF true uI m_X6_taken 3 [.ref 0, .int p1, .int p2] m (f_X6_taken m p1 p2) := by
  refine cF_of ok_X6_taken (fun _ _ => Nat.le_of_ble_eq_true rfl) ?_
  unfold f_X6_taken
  show JF _ _ _ _ _ [(0, .ref 0), (1, .int p1), (2, .int p2)] _ _ _
  refine F_iload_n (i := 2) (a := 2) rfl rfl (dk_X6_taken 0 _ rfl) ?_
  refine F_if_lt (tgt := 10) (by decide) (dk_X6_taken 1 _ rfl) ?_ ?_
  · refine F_bipush (v := (-2)) (by decide) (dk_X6_taken 10 _ rfl) ?_
    exact F_ret rfl (dk_X6_taken 12 _ rfl)
  · refine F_iload_n (i := 2) (a := 2) rfl rfl (dk_X6_taken 4 _ rfl) ?_
    refine F_bipush (v := 7) (by decide) (dk_X6_taken 5 _ rfl) ?_
    refine F_icmp_lt (tgt := 13) (by decide) (dk_X6_taken 7 _ rfl) ?_ ?_
    · refine F_aload_n (i := 0) (a := 0) rfl rfl (dk_X6_taken 13 _ rfl) ?_
      refine F_iload_n (i := 1) (a := 1) rfl rfl (dk_X6_taken 14 _ rfl) ?_
      refine F_callV (ι' := uI) (ci := 6) (b := 0) (As := [.int p1]) (d' := 2) (rfl) ok_X6_isPerson vi_X6_isPerson cl_6_79 (n := 1) (by decide +kernel) rfl rfl rfl (Nat.le_of_ble_eq_true rfl) (by omega) (dk_X6_taken 15 _ rfl) (c_X6_isPerson _ _ ) (fun x1 m2 => ?_)
      show JF _ _ _ _ _ _ [.int x1] _ _
      refine F_if_ne (tgt := 24) (by decide) (dk_X6_taken 18 _ rfl) ?_ ?_
      · refine F_aload_n (i := 0) (a := 0) rfl rfl (dk_X6_taken 24 _ rfl) ?_
        refine F_gR (b := 14) fxX_6_0_0 fl_6_47 (dk_X6_taken 25 _ rfl) ?_
        refine F_gR (b := 15) fxX_2_5_14 fl_6_97 (dk_X6_taken 28 _ rfl) ?_
        refine F_iload_n (i := 1) (a := 1) rfl rfl (dk_X6_taken 31 _ rfl) ?_
        refine F_iald (axX_0_15) (dk_X6_taken 32 _ rfl) (fun x4 => ?_)
        refine F_istore_n (lv' := [(3, .int x4), (0, .ref 0), (1, .int p1), (2, .int p2)]) (i := 3) (a := 3) rfl (by decide) rfl (dk_X6_taken 33 _ rfl) ?_
        refine F_iload_n (i := 3) (a := 3) rfl rfl (dk_X6_taken 34 _ rfl) ?_
        refine F_iload_n (i := 2) (a := 2) rfl rfl (dk_X6_taken 35 _ rfl) ?_
        refine F_icmp_eq (tgt := 52) (by decide) (dk_X6_taken 36 _ rfl) ?_ ?_
        · refine F_iconst (v := 1) (by decide) (dk_X6_taken 52 _ rfl) ?_
          refine F_goto (tgt := 57) (by decide) (dk_X6_taken 53 _ rfl) ?_
          exact F_loc (List.forall_mem_cons.mpr ⟨(.head _), (fun _ z => absurd z List.not_mem_nil)⟩) (j_X6_taken_57   _ _ _ )
        · refine F_gets og_6_248 (dk_X6_taken 39 _ rfl) ?_
          refine F_iload_n (i := 3) (a := 3) rfl rfl (dk_X6_taken 42 _ rfl) ?_
          refine F_abld (dk_X6_taken 43 _ rfl) (fun x5 => ?_)
          refine F_iload_n (i := 2) (a := 2) rfl rfl (dk_X6_taken 44 _ rfl) ?_
          refine F_icmp_eq (tgt := 52) (by decide) (dk_X6_taken 45 _ rfl) ?_ ?_
          · refine F_iconst (v := 1) (by decide) (dk_X6_taken 52 _ rfl) ?_
            refine F_goto (tgt := 57) (by decide) (dk_X6_taken 53 _ rfl) ?_
            exact F_loc (List.forall_mem_cons.mpr ⟨(.head _), (fun _ z => absurd z List.not_mem_nil)⟩) (j_X6_taken_57   _ _ _ )
          · refine F_iload_n (i := 2) (a := 2) rfl rfl (dk_X6_taken 48 _ rfl) ?_
            refine F_if_ne (tgt := 56) (by decide) (dk_X6_taken 49 _ rfl) ?_ ?_
            · refine F_iconst (v := 0) (by decide) (dk_X6_taken 56 _ rfl) ?_
              exact F_loc (List.forall_mem_cons.mpr ⟨(.head _), (fun _ z => absurd z List.not_mem_nil)⟩) (j_X6_taken_57   _ _ _ )
            · refine F_iconst (v := 1) (by decide) (dk_X6_taken 52 _ rfl) ?_
              refine F_goto (tgt := 57) (by decide) (dk_X6_taken 53 _ rfl) ?_
              exact F_loc (List.forall_mem_cons.mpr ⟨(.head _), (fun _ z => absurd z List.not_mem_nil)⟩) (j_X6_taken_57   _ _ _ )
      · refine F_bipush (v := (-11)) (by decide) (dk_X6_taken 21 _ rfl) ?_
        exact F_ret rfl (dk_X6_taken 23 _ rfl)
    · refine F_bipush (v := (-2)) (by decide) (dk_X6_taken 10 _ rfl) ?_
      exact F_ret rfl (dk_X6_taken 12 _ rfl)
def f_X6_count (m : mM) (p1 : Int32) : fR Int32 :=
  (if p1 = 0 then some ((mI m 896), m) else if p1 = 1 then some ((mI m 8), m) else if p1 = 2 then some ((mI m 899), m) else if p1 = 3 then some ((mI m 129), m) else if p1 = 4 then some ((mI m 321), m) else some ((-2), m))
theorem c_X6_count (m : mM) (p1 : Int32)  : cF true uI m_X6_count 2 [.ref 0, .int p1] m (f_X6_count m p1) := by
  refine cF_of ok_X6_count (fun _ _ => Nat.le_of_ble_eq_true rfl) ?_
  unfold f_X6_count
  show JF _ _ _ _ _ [(0, .ref 0), (1, .int p1)] _ _ _
  refine F_iload_n (i := 1) (a := 1) rfl rfl (dk_X6_count 0 _ rfl) ?_
  refine F_case (fun c1_0 => ?_) (fun c1_0 => ?_)
  · rw [c1_0]; refine F_tin (off := 35) (tgt := 36) (by decide) (by decide) rfl (by decide) (dk_X6_count 1 _ rfl) ?_
    refine F_aload_n (i := 0) (a := 0) rfl rfl (dk_X6_count 36 _ rfl) ?_
    refine F_gR (b := 14) fxX_6_0_0 fl_6_47 (dk_X6_count 37 _ rfl) ?_
    refine F_gI (n := 896) fxX_2_0_14 rfl fl_6_71 (dk_X6_count 40 _ rfl) ?_
    exact F_ret rfl (dk_X6_count 43 _ rfl)
  refine F_case (fun c1_1 => ?_) (fun c1_1 => ?_)
  · rw [c1_1]; refine F_tin (off := 43) (tgt := 44) (by decide) (by decide) rfl (by decide) (dk_X6_count 1 _ rfl) ?_
    refine F_aload_n (i := 0) (a := 0) rfl rfl (dk_X6_count 44 _ rfl) ?_
    refine F_gI (n := 8) fxX_6_8_0 rfl fl_6_134 (dk_X6_count 45 _ rfl) ?_
    exact F_ret rfl (dk_X6_count 48 _ rfl)
  refine F_case (fun c1_2 => ?_) (fun c1_2 => ?_)
  · rw [c1_2]; refine F_tin (off := 48) (tgt := 49) (by decide) (by decide) rfl (by decide) (dk_X6_count 1 _ rfl) ?_
    refine F_aload_n (i := 0) (a := 0) rfl rfl (dk_X6_count 49 _ rfl) ?_
    refine F_gR (b := 14) fxX_6_0_0 fl_6_47 (dk_X6_count 50 _ rfl) ?_
    refine F_gI (n := 899) fxX_2_3_14 rfl fl_6_209 (dk_X6_count 53 _ rfl) ?_
    exact F_ret rfl (dk_X6_count 56 _ rfl)
  refine F_case (fun c1_3 => ?_) (fun c1_3 => ?_)
  · rw [c1_3]; refine F_tin (off := 56) (tgt := 57) (by decide) (by decide) rfl (by decide) (dk_X6_count 1 _ rfl) ?_
    refine F_aload_n (i := 0) (a := 0) rfl rfl (dk_X6_count 57 _ rfl) ?_
    refine F_gR (b := 2) fxX_6_6_0 fl_6_18 (dk_X6_count 58 _ rfl) ?_
    refine F_gI (n := 129) fxX_4_1_2 rfl fl_6_127 (dk_X6_count 61 _ rfl) ?_
    exact F_ret rfl (dk_X6_count 64 _ rfl)
  refine F_case (fun c1_4 => ?_) (fun c1_4 => ?_)
  · rw [c1_4]; refine F_tin (off := 64) (tgt := 65) (by decide) (by decide) rfl (by decide) (dk_X6_count 1 _ rfl) ?_
    refine F_aload_n (i := 0) (a := 0) rfl rfl (dk_X6_count 65 _ rfl) ?_
    refine F_gR (b := 5) fxX_6_9_0 fl_6_31 (dk_X6_count 66 _ rfl) ?_
    refine F_gI (n := 321) fxX_0_1_5 rfl fl_6_235 (dk_X6_count 69 _ rfl) ?_
    exact F_ret rfl (dk_X6_count 72 _ rfl)
  refine F_tout (tgt := 73) (by have q0 := fI_ne c1_0; rw [show (0 : Int32).toInt = 0 from by decide] at q0; have q1 := fI_ne c1_1; rw [show (1 : Int32).toInt = 1 from by decide] at q1; have q2 := fI_ne c1_2; rw [show (2 : Int32).toInt = 2 from by decide] at q2; have q3 := fI_ne c1_3; rw [show (3 : Int32).toInt = 3 from by decide] at q3; have q4 := fI_ne c1_4; rw [show (4 : Int32).toInt = 4 from by decide] at q4; omega) (by decide) (dk_X6_count 1 _ rfl) ?_
  refine F_bipush (v := (-2)) (by decide) (dk_X6_count 73 _ rfl) ?_
  exact F_ret rfl (dk_X6_count 75 _ rfl)
def f_X6_tape (m : mM) (p1 : Int32) (p2 : Int32) (p3 : Int32) : fR Int32 :=
  bnd (f_X6_isTape m p1) fun (x1 : Int32) (m2 : mM) => (if x1 = 0 then some ((-1), m2) else (if p2 = (-1) then (gT [82, 84, 86, 88, 90, 92] p1).bind fun r9 => chR true 3 r9 fun r10 => bnd (f_X3_become m2 r10 (-1) 0) fun (x11 : Unit) (m12 : mM) => some (1, m12) else (if p2 < 0 then some ((-2), m2) else (if 4 < p2 then some ((-2), m2) else (if p3 ≤ 60 then (if 0 ≤ p3 then (gT [82, 84, 86, 88, 90, 92] p1).bind fun r4 => chR true 3 r4 fun r5 => bnd (f_X3_become m2 r5 p2 p3) fun (x6 : Unit) (m7 : mM) => some (1, m7) else some ((-14), m2)) else some ((-2), m2))))))
theorem c_X6_tape (m : mM) (p1 : Int32) (p2 : Int32) (p3 : Int32)  : cF true uI m_X6_tape 3 [.ref 0, .int p1, .int p2, .int p3] m (f_X6_tape m p1 p2 p3) := by
  refine cF_of ok_X6_tape (fun _ _ => Nat.le_of_ble_eq_true rfl) ?_
  unfold f_X6_tape
  show JF _ _ _ _ _ [(0, .ref 0), (1, .int p1), (2, .int p2), (3, .int p3)] _ _ _
  refine F_iload_n (i := 1) (a := 1) rfl rfl (dk_X6_tape 0 _ rfl) ?_
  refine F_callS (ι' := uI) (As := [.int p1]) (d' := 2) ok_X6_isTape st_X6_isTape cl_6_220 rfl (n := 1) (by decide +kernel) rfl (Nat.le_of_ble_eq_true rfl) (by omega) (dk_X6_tape 1 _ rfl) (c_X6_isTape _ _ ) (fun x1 m2 => ?_)
  show JF _ _ _ _ _ _ [.int x1] _ _
  refine F_if_ne (tgt := 9) (by decide) (dk_X6_tape 4 _ rfl) ?_ ?_
  · refine F_iload_n (i := 2) (a := 2) rfl rfl (dk_X6_tape 9 _ rfl) ?_
    refine F_iconst (v := (-1)) (by decide) (dk_X6_tape 10 _ rfl) ?_
    refine F_icmp_ne (tgt := 27) (by decide) (dk_X6_tape 11 _ rfl) ?_ ?_
    · refine F_iload_n (i := 2) (a := 2) rfl rfl (dk_X6_tape 27 _ rfl) ?_
      refine F_if_lt (tgt := 42) (by decide) (dk_X6_tape 28 _ rfl) ?_ ?_
      · refine F_bipush (v := (-2)) (by decide) (dk_X6_tape 42 _ rfl) ?_
        exact F_ret rfl (dk_X6_tape 44 _ rfl)
      · refine F_iload_n (i := 2) (a := 2) rfl rfl (dk_X6_tape 31 _ rfl) ?_
        refine F_iconst (v := 4) (by decide) (dk_X6_tape 32 _ rfl) ?_
        refine F_icmp_gt (tgt := 42) (by decide) (dk_X6_tape 33 _ rfl) ?_ ?_
        · refine F_bipush (v := (-2)) (by decide) (dk_X6_tape 42 _ rfl) ?_
          exact F_ret rfl (dk_X6_tape 44 _ rfl)
        · refine F_iload_n (i := 3) (a := 3) rfl rfl (dk_X6_tape 36 _ rfl) ?_
          refine F_bipush (v := 60) (by decide) (dk_X6_tape 37 _ rfl) ?_
          refine F_icmp_le (tgt := 45) (by decide) (dk_X6_tape 39 _ rfl) ?_ ?_
          · refine F_iload_n (i := 3) (a := 3) rfl rfl (dk_X6_tape 45 _ rfl) ?_
            refine F_if_ge (tgt := 52) (by decide) (dk_X6_tape 46 _ rfl) ?_ ?_
            · refine F_aload_n (i := 0) (a := 0) rfl rfl (dk_X6_tape 52 _ rfl) ?_
              refine F_gR (b := 7) fxX_6_10_0 fl_6_37 (dk_X6_tape 53 _ rfl) ?_
              refine F_iload_n (i := 1) (a := 1) rfl rfl (dk_X6_tape 56 _ rfl) ?_
              refine F_aald (rs := [82, 84, 86, 88, 90, 92]) (t := 5) rfl (by decide) (dk_X6_tape 57 _ rfl) (fun r4 => ?_)
              refine F_ch (fun r5 hr5 => ?_)
              refine F_iload_n (i := 2) (a := 2) rfl rfl (dk_X6_tape 58 _ rfl) ?_
              refine F_iload_n (i := 3) (a := 3) rfl rfl (dk_X6_tape 59 _ rfl) ?_
              refine F_callV (ι' := uU) (ci := 3) (b := r5) (As := [.int p2, .int p3]) (d' := 2) (hr5) ok_X3_become vi_X3_become cl_6_251 (n := 2) (by decide +kernel) rfl rfl rfl (Nat.le_of_ble_eq_true rfl) (by omega) (dk_X6_tape 60 _ rfl) (c_X3_become _ _ _ _ (hr5)) (fun x6 m7 => ?_)
              show JF _ _ _ _ _ _ [] _ _
              refine F_iconst (v := 1) (by decide) (dk_X6_tape 63 _ rfl) ?_
              exact F_ret rfl (dk_X6_tape 64 _ rfl)
            · refine F_bipush (v := (-14)) (by decide) (dk_X6_tape 49 _ rfl) ?_
              exact F_ret rfl (dk_X6_tape 51 _ rfl)
          · refine F_bipush (v := (-2)) (by decide) (dk_X6_tape 42 _ rfl) ?_
            exact F_ret rfl (dk_X6_tape 44 _ rfl)
    · refine F_aload_n (i := 0) (a := 0) rfl rfl (dk_X6_tape 14 _ rfl) ?_
      refine F_gR (b := 7) fxX_6_10_0 fl_6_37 (dk_X6_tape 15 _ rfl) ?_
      refine F_iload_n (i := 1) (a := 1) rfl rfl (dk_X6_tape 18 _ rfl) ?_
      refine F_aald (rs := [82, 84, 86, 88, 90, 92]) (t := 5) rfl (by decide) (dk_X6_tape 19 _ rfl) (fun r9 => ?_)
      refine F_ch (fun r10 hr10 => ?_)
      refine F_iconst (v := (-1)) (by decide) (dk_X6_tape 20 _ rfl) ?_
      refine F_iconst (v := 0) (by decide) (dk_X6_tape 21 _ rfl) ?_
      refine F_callV (ι' := uU) (ci := 3) (b := r10) (As := [.int (-1), .int 0]) (d' := 2) (hr10) ok_X3_become vi_X3_become cl_6_251 (n := 2) (by decide +kernel) rfl rfl rfl (Nat.le_of_ble_eq_true rfl) (by omega) (dk_X6_tape 22 _ rfl) (c_X3_become _ _ _ _ (hr10)) (fun x11 m12 => ?_)
      show JF _ _ _ _ _ _ [] _ _
      refine F_iconst (v := 1) (by decide) (dk_X6_tape 25 _ rfl) ?_
      exact F_ret rfl (dk_X6_tape 26 _ rfl)
  · refine F_iconst (v := (-1)) (by decide) (dk_X6_tape 7 _ rfl) ?_
    exact F_ret rfl (dk_X6_tape 8 _ rfl)
def f_X6_item (m : mM) (p1 : Int32) (p2 : Int32) (p3 : Int64) : fR Int32 :=
  bnd (f_X6_isTape m p1) fun (x1 : Int32) (m2 : mM) => (if x1 = 0 then some ((-1), m2) else (gT [82, 84, 86, 88, 90, 92] p1).bind fun r4 => chR true 3 r4 fun r5 => (if (mI m2 (64 * r5 + 0)) = (-1) then some ((-11), m2) else (if p2 < 0 then some ((-13), m2) else (if p2 < (mI m2 (64 * r5 + 1)) then bnd (f_X3_fitted m2 r5 p3) fun (x6 : Int64) (m7 : mM) => (sL m7 (r5 + 1) p2 x6).bind fun m9 => some (1, m9) else some ((-13), m2)))))
theorem c_X6_item (m : mM) (p1 : Int32) (p2 : Int32) (p3 : Int64)  : cF true uI m_X6_item 3 [.ref 0, .int p1, .int p2, .long p3] m (f_X6_item m p1 p2 p3) := by
  refine cF_of ok_X6_item (fun _ _ => Nat.le_of_ble_eq_true rfl) ?_
  unfold f_X6_item
  show JF _ _ _ _ _ [(0, .ref 0), (1, .int p1), (2, .int p2), (3, .long p3)] _ _ _
  refine F_iload_n (i := 1) (a := 1) rfl rfl (dk_X6_item 0 _ rfl) ?_
  refine F_callS (ι' := uI) (As := [.int p1]) (d' := 2) ok_X6_isTape st_X6_isTape cl_6_220 rfl (n := 1) (by decide +kernel) rfl (Nat.le_of_ble_eq_true rfl) (by omega) (dk_X6_item 1 _ rfl) (c_X6_isTape _ _ ) (fun x1 m2 => ?_)
  show JF _ _ _ _ _ _ [.int x1] _ _
  refine F_if_ne (tgt := 9) (by decide) (dk_X6_item 4 _ rfl) ?_ ?_
  · refine F_aload_n (i := 0) (a := 0) rfl rfl (dk_X6_item 9 _ rfl) ?_
    refine F_gR (b := 7) fxX_6_10_0 fl_6_37 (dk_X6_item 10 _ rfl) ?_
    refine F_iload_n (i := 1) (a := 1) rfl rfl (dk_X6_item 13 _ rfl) ?_
    refine F_aald (rs := [82, 84, 86, 88, 90, 92]) (t := 5) rfl (by decide) (dk_X6_item 14 _ rfl) (fun r4 => ?_)
    refine F_ch (fun r5 hr5 => ?_)
    refine F_astore (lv' := [(5, .ref r5), (0, .ref 0), (1, .int p1), (2, .int p2), (3, .long p3)]) (i := 5) (by decide) rfl (dk_X6_item 15 _ rfl) ?_
    refine F_aload (i := 5) rfl (dk_X6_item 17 _ rfl) ?_
    refine F_gI (n := (64 * r5 + 0)) (lyP_0 hr5) rfl fl_6_223 (dk_X6_item 19 _ rfl) ?_
    refine F_iconst (v := (-1)) (by decide) (dk_X6_item 22 _ rfl) ?_
    refine F_icmp_ne (tgt := 29) (by decide) (dk_X6_item 23 _ rfl) ?_ ?_
    · refine F_iload_n (i := 2) (a := 2) rfl rfl (dk_X6_item 29 _ rfl) ?_
      refine F_if_lt (tgt := 42) (by decide) (dk_X6_item 30 _ rfl) ?_ ?_
      · refine F_bipush (v := (-13)) (by decide) (dk_X6_item 42 _ rfl) ?_
        exact F_ret rfl (dk_X6_item 44 _ rfl)
      · refine F_iload_n (i := 2) (a := 2) rfl rfl (dk_X6_item 33 _ rfl) ?_
        refine F_aload (i := 5) rfl (dk_X6_item 34 _ rfl) ?_
        refine F_gI (n := (64 * r5 + 1)) (lyP_1 hr5) rfl fl_6_226 (dk_X6_item 36 _ rfl) ?_
        refine F_icmp_lt (tgt := 45) (by decide) (dk_X6_item 39 _ rfl) ?_ ?_
        · refine F_aload (i := 5) rfl (dk_X6_item 45 _ rfl) ?_
          refine F_gR (b := (r5 + 1)) (lyP_2 hr5).1 fl_6_227 (dk_X6_item 47 _ rfl) ?_
          refine F_iload_n (i := 2) (a := 2) rfl rfl (dk_X6_item 50 _ rfl) ?_
          refine F_aload (i := 5) rfl (dk_X6_item 51 _ rfl) ?_
          refine F_lload_n (i := 3) (a := 3) rfl rfl (dk_X6_item 53 _ rfl) ?_
          refine F_callV (ι' := uL) (ci := 3) (b := r5) (As := [.long p3]) (d' := 2) (hr5) ok_X3_fitted vi_X3_fitted cl_6_255 (n := 1) (by decide +kernel) rfl rfl rfl (Nat.le_of_ble_eq_true rfl) (by omega) (dk_X6_item 54 _ rfl) (c_X3_fitted _ _ _ (hr5)) (fun x6 m7 => ?_)
          show JF _ _ _ _ _ _ [.long x6, .int p2, .ref (r5 + 1)] _ _
          refine F_last ((lyP_2 hr5).2) (dk_X6_item 57 _ rfl) (fun m9 => ?_)
          refine F_iconst (v := 1) (by decide) (dk_X6_item 58 _ rfl) ?_
          exact F_ret rfl (dk_X6_item 59 _ rfl)
        · refine F_bipush (v := (-13)) (by decide) (dk_X6_item 42 _ rfl) ?_
          exact F_ret rfl (dk_X6_item 44 _ rfl)
    · refine F_bipush (v := (-11)) (by decide) (dk_X6_item 26 _ rfl) ?_
      exact F_ret rfl (dk_X6_item 28 _ rfl)
  · refine F_iconst (v := (-1)) (by decide) (dk_X6_item 7 _ rfl) ?_
    exact F_ret rfl (dk_X6_item 8 _ rfl)
def f_X6_read (m : mM) (p1 : Int32) (p2 : Int32) : fR Int64 :=
  bnd (f_X6_isTape m p1) fun (x1 : Int32) (m2 : mM) => (if x1 = 0 then some ((-9223372036854775808), m2) else (gT [82, 84, 86, 88, 90, 92] p1).bind fun r4 => chR true 3 r4 fun r5 => (if p2 < 0 then some ((-9223372036854775808), m2) else (if p2 < (mI m2 (64 * r5 + 1)) then (gL (mL m2 (r5 + 1)) p2).bind fun x6 => some (x6, m2) else some ((-9223372036854775808), m2))))
theorem c_X6_read (m : mM) (p1 : Int32) (p2 : Int32)  : cF true uL m_X6_read 3 [.ref 0, .int p1, .int p2] m (f_X6_read m p1 p2) := by
  refine cF_of ok_X6_read (fun _ _ => Nat.le_of_ble_eq_true rfl) ?_
  unfold f_X6_read
  show JF _ _ _ _ _ [(0, .ref 0), (1, .int p1), (2, .int p2)] _ _ _
  refine F_iload_n (i := 1) (a := 1) rfl rfl (dk_X6_read 0 _ rfl) ?_
  refine F_callS (ι' := uI) (As := [.int p1]) (d' := 2) ok_X6_isTape st_X6_isTape cl_6_220 rfl (n := 1) (by decide +kernel) rfl (Nat.le_of_ble_eq_true rfl) (by omega) (dk_X6_read 1 _ rfl) (c_X6_isTape _ _ ) (fun x1 m2 => ?_)
  show JF _ _ _ _ _ _ [.int x1] _ _
  refine F_if_ne (tgt := 11) (by decide) (dk_X6_read 4 _ rfl) ?_ ?_
  · refine F_aload_n (i := 0) (a := 0) rfl rfl (dk_X6_read 11 _ rfl) ?_
    refine F_gR (b := 7) fxX_6_10_0 fl_6_37 (dk_X6_read 12 _ rfl) ?_
    refine F_iload_n (i := 1) (a := 1) rfl rfl (dk_X6_read 15 _ rfl) ?_
    refine F_aald (rs := [82, 84, 86, 88, 90, 92]) (t := 5) rfl (by decide) (dk_X6_read 16 _ rfl) (fun r4 => ?_)
    refine F_ch (fun r5 hr5 => ?_)
    refine F_astore_n (lv' := [(3, .ref r5), (0, .ref 0), (1, .int p1), (2, .int p2)]) (i := 3) (a := 3) rfl (by decide) rfl (dk_X6_read 17 _ rfl) ?_
    refine F_iload_n (i := 2) (a := 2) rfl rfl (dk_X6_read 18 _ rfl) ?_
    refine F_if_lt (tgt := 30) (by decide) (dk_X6_read 19 _ rfl) ?_ ?_
    · refine F_ldc2 (v := (-9223372036854775808)) ctl_6_203 (dk_X6_read 30 _ rfl) ?_
      refine F_goto (tgt := 42) (by decide) (dk_X6_read 33 _ rfl) ?_
      exact F_retL rfl (dk_X6_read 42 _ rfl)
    · refine F_iload_n (i := 2) (a := 2) rfl rfl (dk_X6_read 22 _ rfl) ?_
      refine F_aload_n (i := 3) (a := 3) rfl rfl (dk_X6_read 23 _ rfl) ?_
      refine F_gI (n := (64 * r5 + 1)) (lyP_1 hr5) rfl fl_6_226 (dk_X6_read 24 _ rfl) ?_
      refine F_icmp_lt (tgt := 36) (by decide) (dk_X6_read 27 _ rfl) ?_ ?_
      · refine F_aload_n (i := 3) (a := 3) rfl rfl (dk_X6_read 36 _ rfl) ?_
        refine F_gR (b := (r5 + 1)) (lyP_2 hr5).1 fl_6_227 (dk_X6_read 37 _ rfl) ?_
        refine F_iload_n (i := 2) (a := 2) rfl rfl (dk_X6_read 40 _ rfl) ?_
        refine F_lald ((lyP_2 hr5).2) (dk_X6_read 41 _ rfl) (fun x6 => ?_)
        exact F_retL rfl (dk_X6_read 42 _ rfl)
      · refine F_ldc2 (v := (-9223372036854775808)) ctl_6_203 (dk_X6_read 30 _ rfl) ?_
        refine F_goto (tgt := 42) (by decide) (dk_X6_read 33 _ rfl) ?_
        exact F_retL rfl (dk_X6_read 42 _ rfl)
  · refine F_ldc2 (v := (-9223372036854775808)) ctl_6_203 (dk_X6_read 7 _ rfl) ?_
    exact F_retL rfl (dk_X6_read 10 _ rfl)
def f_X6_shift (m : mM) (p1 : Int32) (p2 : Int32) (p3 : Int32) (p4 : Int32) (p5 : Int32) : fR Int32 :=
  bnd (f_X6_isTape m p1) fun (x1 : Int32) (m2 : mM) => (if x1 = 0 then some ((-1), m2) else bnd (f_X6_isTape m2 p3) fun (x4 : Int32) (m5 : mM) => (if x4 = 0 then some ((-1), m5) else (gT [82, 84, 86, 88, 90, 92] p1).bind fun r7 => chR true 3 r7 fun r8 => (gT [82, 84, 86, 88, 90, 92] p3).bind fun r9 => chR true 3 r9 fun r10 => (if (mI m5 (64 * r8 + 0)) = (-1) then some ((-11), m5) else (if (mI m5 (64 * r10 + 0)) = (-1) then some ((-11), m5) else (if (mI m5 (64 * r8 + 0)) = (mI m5 (64 * r10 + 0)) then bnd (f_X3_holds m5 r8 p2 p5) fun (x11 : Int32) (m12 : mM) => (if x11 = 0 then some ((-13), m12) else bnd (f_X3_holds m12 r10 p4 p5) fun (x14 : Int32) (m15 : mM) => (if x14 = 0 then some ((-13), m15) else (cpL m15 (r8 + 1) p2 (r10 + 1) p4 p5).bind fun m17 => some (p5, m17))) else some ((-12), m5))))))
theorem c_X6_shift (m : mM) (p1 : Int32) (p2 : Int32) (p3 : Int32) (p4 : Int32) (p5 : Int32)  : cF true uI m_X6_shift 3 [.ref 0, .int p1, .int p2, .int p3, .int p4, .int p5] m (f_X6_shift m p1 p2 p3 p4 p5) := by
  refine cF_of ok_X6_shift (fun _ _ => Nat.le_of_ble_eq_true rfl) ?_
  unfold f_X6_shift
  show JF _ _ _ _ _ [(0, .ref 0), (1, .int p1), (2, .int p2), (3, .int p3), (4, .int p4), (5, .int p5)] _ _ _
  refine F_iload_n (i := 1) (a := 1) rfl rfl (dk_X6_shift 0 _ rfl) ?_
  refine F_callS (ι' := uI) (As := [.int p1]) (d' := 2) ok_X6_isTape st_X6_isTape cl_6_220 rfl (n := 1) (by decide +kernel) rfl (Nat.le_of_ble_eq_true rfl) (by omega) (dk_X6_shift 1 _ rfl) (c_X6_isTape _ _ ) (fun x1 m2 => ?_)
  show JF _ _ _ _ _ _ [.int x1] _ _
  refine F_if_eq (tgt := 14) (by decide) (dk_X6_shift 4 _ rfl) ?_ ?_
  · refine F_iconst (v := (-1)) (by decide) (dk_X6_shift 14 _ rfl) ?_
    exact F_ret rfl (dk_X6_shift 15 _ rfl)
  · refine F_iload_n (i := 3) (a := 3) rfl rfl (dk_X6_shift 7 _ rfl) ?_
    refine F_callS (ι' := uI) (As := [.int p3]) (d' := 2) ok_X6_isTape st_X6_isTape cl_6_220 rfl (n := 1) (by decide +kernel) rfl (Nat.le_of_ble_eq_true rfl) (by omega) (dk_X6_shift 8 _ rfl) (c_X6_isTape _ _ ) (fun x4 m5 => ?_)
    show JF _ _ _ _ _ _ [.int x4] _ _
    refine F_if_ne (tgt := 16) (by decide) (dk_X6_shift 11 _ rfl) ?_ ?_
    · refine F_aload_n (i := 0) (a := 0) rfl rfl (dk_X6_shift 16 _ rfl) ?_
      refine F_gR (b := 7) fxX_6_10_0 fl_6_37 (dk_X6_shift 17 _ rfl) ?_
      refine F_iload_n (i := 1) (a := 1) rfl rfl (dk_X6_shift 20 _ rfl) ?_
      refine F_aald (rs := [82, 84, 86, 88, 90, 92]) (t := 5) rfl (by decide) (dk_X6_shift 21 _ rfl) (fun r7 => ?_)
      refine F_ch (fun r8 hr8 => ?_)
      refine F_astore (lv' := [(6, .ref r8), (0, .ref 0), (1, .int p1), (2, .int p2), (3, .int p3), (4, .int p4), (5, .int p5)]) (i := 6) (by decide) rfl (dk_X6_shift 22 _ rfl) ?_
      refine F_aload_n (i := 0) (a := 0) rfl rfl (dk_X6_shift 24 _ rfl) ?_
      refine F_gR (b := 7) fxX_6_10_0 fl_6_37 (dk_X6_shift 25 _ rfl) ?_
      refine F_iload_n (i := 3) (a := 3) rfl rfl (dk_X6_shift 28 _ rfl) ?_
      refine F_aald (rs := [82, 84, 86, 88, 90, 92]) (t := 5) rfl (by decide) (dk_X6_shift 29 _ rfl) (fun r9 => ?_)
      refine F_ch (fun r10 hr10 => ?_)
      refine F_astore (lv' := [(7, .ref r10), (6, .ref r8), (0, .ref 0), (1, .int p1), (2, .int p2), (3, .int p3), (4, .int p4), (5, .int p5)]) (i := 7) (by decide) rfl (dk_X6_shift 30 _ rfl) ?_
      refine F_aload (i := 6) rfl (dk_X6_shift 32 _ rfl) ?_
      refine F_gI (n := (64 * r8 + 0)) (lyP_0 hr8) rfl fl_6_223 (dk_X6_shift 34 _ rfl) ?_
      refine F_iconst (v := (-1)) (by decide) (dk_X6_shift 37 _ rfl) ?_
      refine F_icmp_eq (tgt := 50) (by decide) (dk_X6_shift 38 _ rfl) ?_ ?_
      · refine F_bipush (v := (-11)) (by decide) (dk_X6_shift 50 _ rfl) ?_
        exact F_ret rfl (dk_X6_shift 52 _ rfl)
      · refine F_aload (i := 7) rfl (dk_X6_shift 41 _ rfl) ?_
        refine F_gI (n := (64 * r10 + 0)) (lyP_0 hr10) rfl fl_6_223 (dk_X6_shift 43 _ rfl) ?_
        refine F_iconst (v := (-1)) (by decide) (dk_X6_shift 46 _ rfl) ?_
        refine F_icmp_ne (tgt := 53) (by decide) (dk_X6_shift 47 _ rfl) ?_ ?_
        · refine F_aload (i := 6) rfl (dk_X6_shift 53 _ rfl) ?_
          refine F_gI (n := (64 * r8 + 0)) (lyP_0 hr8) rfl fl_6_223 (dk_X6_shift 55 _ rfl) ?_
          refine F_aload (i := 7) rfl (dk_X6_shift 58 _ rfl) ?_
          refine F_gI (n := (64 * r10 + 0)) (lyP_0 hr10) rfl fl_6_223 (dk_X6_shift 60 _ rfl) ?_
          refine F_icmp_eq (tgt := 69) (by decide) (dk_X6_shift 63 _ rfl) ?_ ?_
          · refine F_aload (i := 6) rfl (dk_X6_shift 69 _ rfl) ?_
            refine F_iload_n (i := 2) (a := 2) rfl rfl (dk_X6_shift 71 _ rfl) ?_
            refine F_iload (i := 5) rfl (dk_X6_shift 72 _ rfl) ?_
            refine F_callV (ι' := uI) (ci := 3) (b := r8) (As := [.int p2, .int p5]) (d' := 2) (hr8) ok_X3_holds vi_X3_holds cl_6_259 (n := 2) (by decide +kernel) rfl rfl rfl (Nat.le_of_ble_eq_true rfl) (by omega) (dk_X6_shift 74 _ rfl) (c_X3_holds _ _ _ _ (hr8)) (fun x11 m12 => ?_)
            show JF _ _ _ _ _ _ [.int x11] _ _
            refine F_if_eq (tgt := 92) (by decide) (dk_X6_shift 77 _ rfl) ?_ ?_
            · refine F_bipush (v := (-13)) (by decide) (dk_X6_shift 92 _ rfl) ?_
              exact F_ret rfl (dk_X6_shift 94 _ rfl)
            · refine F_aload (i := 7) rfl (dk_X6_shift 80 _ rfl) ?_
              refine F_iload (i := 4) rfl (dk_X6_shift 82 _ rfl) ?_
              refine F_iload (i := 5) rfl (dk_X6_shift 84 _ rfl) ?_
              refine F_callV (ι' := uI) (ci := 3) (b := r10) (As := [.int p4, .int p5]) (d' := 2) (hr10) ok_X3_holds vi_X3_holds cl_6_259 (n := 2) (by decide +kernel) rfl rfl rfl (Nat.le_of_ble_eq_true rfl) (by omega) (dk_X6_shift 86 _ rfl) (c_X3_holds _ _ _ _ (hr10)) (fun x14 m15 => ?_)
              show JF _ _ _ _ _ _ [.int x14] _ _
              refine F_if_ne (tgt := 95) (by decide) (dk_X6_shift 89 _ rfl) ?_ ?_
              · refine F_aload (i := 6) rfl (dk_X6_shift 95 _ rfl) ?_
                refine F_gR (b := (r8 + 1)) (lyP_2 hr8).1 fl_6_227 (dk_X6_shift 97 _ rfl) ?_
                refine F_iload_n (i := 2) (a := 2) rfl rfl (dk_X6_shift 100 _ rfl) ?_
                refine F_aload (i := 7) rfl (dk_X6_shift 101 _ rfl) ?_
                refine F_gR (b := (r10 + 1)) (lyP_2 hr10).1 fl_6_227 (dk_X6_shift 103 _ rfl) ?_
                refine F_iload (i := 4) rfl (dk_X6_shift 106 _ rfl) ?_
                refine F_iload (i := 5) rfl (dk_X6_shift 108 _ rfl) ?_
                refine F_copyl ((lyP_2 hr8).2) ((lyP_2 hr10).2) ac_6 (Nat.le_of_ble_eq_true rfl) (by omega) (dk_X6_shift 110 _ rfl) (fun m17 => ?_)
                refine F_iload (i := 5) rfl (dk_X6_shift 113 _ rfl) ?_
                exact F_ret rfl (dk_X6_shift 115 _ rfl)
              · refine F_bipush (v := (-13)) (by decide) (dk_X6_shift 92 _ rfl) ?_
                exact F_ret rfl (dk_X6_shift 94 _ rfl)
          · refine F_bipush (v := (-12)) (by decide) (dk_X6_shift 66 _ rfl) ?_
            exact F_ret rfl (dk_X6_shift 68 _ rfl)
        · refine F_bipush (v := (-11)) (by decide) (dk_X6_shift 50 _ rfl) ?_
          exact F_ret rfl (dk_X6_shift 52 _ rfl)
    · refine F_iconst (v := (-1)) (by decide) (dk_X6_shift 14 _ rfl) ?_
      exact F_ret rfl (dk_X6_shift 15 _ rfl)
def f_X7_in (m : mM) (p1 : Int32) (p2 : Int32) (p3 : Int32) : fR Int32 :=
  (if p1 < p2 then some (0, m) else (if p3 < p1 then some (0, m) else some (1, m)))
theorem c_X7_in (m : mM) (p1 : Int32) (p2 : Int32) (p3 : Int32)  : cF false uI m_X7_in 2 [.ref 0, .int p1, .int p2, .int p3] m (f_X7_in m p1 p2 p3) := by
  refine cF_of ok_X7_in (fun _ _ => Nat.le_of_ble_eq_true rfl) ?_
  unfold f_X7_in
  show JF _ _ _ _ _ [(0, .ref 0), (1, .int p1), (2, .int p2), (3, .int p3)] _ _ _
  refine F_iload_n (i := 1) (a := 1) rfl rfl (dk_X7_in 0 _ rfl) ?_
  refine F_iload_n (i := 2) (a := 2) rfl rfl (dk_X7_in 1 _ rfl) ?_
  refine F_icmp_lt (tgt := 14) (by decide) (dk_X7_in 2 _ rfl) ?_ ?_
  · refine F_iconst (v := 0) (by decide) (dk_X7_in 14 _ rfl) ?_
    exact F_retB rfl (Or.inl rfl) (dk_X7_in 15 _ rfl)
  · refine F_iload_n (i := 1) (a := 1) rfl rfl (dk_X7_in 5 _ rfl) ?_
    refine F_iload_n (i := 3) (a := 3) rfl rfl (dk_X7_in 6 _ rfl) ?_
    refine F_icmp_gt (tgt := 14) (by decide) (dk_X7_in 7 _ rfl) ?_ ?_
    · refine F_iconst (v := 0) (by decide) (dk_X7_in 14 _ rfl) ?_
      exact F_retB rfl (Or.inl rfl) (dk_X7_in 15 _ rfl)
    · refine F_iconst (v := 1) (by decide) (dk_X7_in 10 _ rfl) ?_
      refine F_goto (tgt := 15) (by decide) (dk_X7_in 11 _ rfl) ?_
      exact F_retB rfl (Or.inr rfl) (dk_X7_in 15 _ rfl)
def f_X7_isPerson (m : mM) (p1 : Int32) : fR Int32 :=
  bnd (f_X7_in m p1 0 (((mI m 0) - 1))) fun (x1 : Int32) (m2 : mM) => chZ x1 (some (x1, m2))
theorem c_X7_isPerson (m : mM) (p1 : Int32)  : cF false uI m_X7_isPerson 3 [.ref 0, .int p1] m (f_X7_isPerson m p1) := by
  refine cF_of ok_X7_isPerson (fun _ _ => Nat.le_of_ble_eq_true rfl) ?_
  unfold f_X7_isPerson
  show JF _ _ _ _ _ [(0, .ref 0), (1, .int p1)] _ _ _
  refine F_aload_n (i := 0) (a := 0) rfl rfl (dk_X7_isPerson 0 _ rfl) ?_
  refine F_iload_n (i := 1) (a := 1) rfl rfl (dk_X7_isPerson 1 _ rfl) ?_
  refine F_iconst (v := 0) (by decide) (dk_X7_isPerson 2 _ rfl) ?_
  refine F_aload_n (i := 0) (a := 0) rfl rfl (dk_X7_isPerson 3 _ rfl) ?_
  refine F_gI (n := 0) fxM_7_0_0 rfl fl_7_7 (dk_X7_isPerson 4 _ rfl) ?_
  refine F_iconst (v := 1) (by decide) (dk_X7_isPerson 7 _ rfl) ?_
  refine F_isub (dk_X7_isPerson 8 _ rfl) ?_
  refine F_callV (ι' := uI) (ci := 7) (b := 0) (As := [.int p1, .int 0, .int ((mI m 0) - 1)]) (d' := 2) (rfl) ok_X7_in vi_X7_in cl_7_194 (n := 3) (by decide +kernel) rfl rfl rfl (Nat.le_of_ble_eq_true rfl) (by omega) (dk_X7_isPerson 9 _ rfl) (c_X7_in _ _ _ _ ) (fun x1 m2 => ?_)
  show JF _ _ _ _ _ _ [.int x1] _ _
  exact F_retZ rfl (dk_X7_isPerson 12 _ rfl)
def f_X7_isDay (m : mM) (p1 : Int32) : fR Int32 :=
  bnd (f_X7_in m p1 0 11) fun (x1 : Int32) (m2 : mM) => chZ x1 (some (x1, m2))
theorem c_X7_isDay (m : mM) (p1 : Int32)  : cF false uI m_X7_isDay 3 [.ref 0, .int p1] m (f_X7_isDay m p1) := by
  refine cF_of ok_X7_isDay (fun _ _ => Nat.le_of_ble_eq_true rfl) ?_
  unfold f_X7_isDay
  show JF _ _ _ _ _ [(0, .ref 0), (1, .int p1)] _ _ _
  refine F_aload_n (i := 0) (a := 0) rfl rfl (dk_X7_isDay 0 _ rfl) ?_
  refine F_iload_n (i := 1) (a := 1) rfl rfl (dk_X7_isDay 1 _ rfl) ?_
  refine F_iconst (v := 0) (by decide) (dk_X7_isDay 2 _ rfl) ?_
  refine F_bipush (v := 11) (by decide) (dk_X7_isDay 3 _ rfl) ?_
  refine F_callV (ι' := uI) (ci := 7) (b := 0) (As := [.int p1, .int 0, .int 11]) (d' := 2) (rfl) ok_X7_in vi_X7_in cl_7_194 (n := 3) (by decide +kernel) rfl rfl rfl (Nat.le_of_ble_eq_true rfl) (by omega) (dk_X7_isDay 5 _ rfl) (c_X7_in _ _ _ _ ) (fun x1 m2 => ?_)
  show JF _ _ _ _ _ _ [.int x1] _ _
  exact F_retZ rfl (dk_X7_isDay 8 _ rfl)
def fb_X7_lay_47 (K47 : mM → Int32 → Int32 → fR Unit) (m : mM) (y1 : Int32) (y6 : Int32) : fR Unit :=
  (if 4 ≤ y6 then some ((), m) else (sA 0 m 6 (((4 * y1) + y6)) 0).bind fun m7 => (K47 m7 y1 (y6 + 1)))
def f_X7_lay_47  : Nat → mM → Int32 → Int32 → fR Unit
  | 0, _, _, _ => none
  | F + 1, m, y1, y6 => fb_X7_lay_47  (f_X7_lay_47  F) m y1 y6
theorem jb_X7_lay_47 (K47 : mM → Int32 → Int32 → fR Unit) (hK47 : ∀ (m : mM) (y1 : Int32) (y6 : Int32) , JF false uU m_X7_lay 2 47 [(0, .ref 0), (1, .int y1), (6, .int y6)] [] m (K47 m y1 y6)) (m : mM) (y1 : Int32) (y6 : Int32)  : JF false uU m_X7_lay 2 47 [(0, .ref 0), (1, .int y1), (6, .int y6)] [] m (fb_X7_lay_47 K47 m y1 y6) := by
  unfold fb_X7_lay_47
  refine F_iload (i := 6) rfl (dk_X7_lay 47 _ rfl) ?_
  refine F_iconst (v := 4) (by decide) (dk_X7_lay 49 _ rfl) ?_
  refine F_icmp_ge (tgt := 71) (by decide) (dk_X7_lay 50 _ rfl) ?_ ?_
  · exact F_retV rfl (dk_X7_lay 71 _ rfl)
  · refine F_aload_n (i := 0) (a := 0) rfl rfl (dk_X7_lay 53 _ rfl) ?_
    refine F_gR (b := 6) fxM_7_8_0 fl_7_35 (dk_X7_lay 54 _ rfl) ?_
    refine F_iconst (v := 4) (by decide) (dk_X7_lay 57 _ rfl) ?_
    refine F_iload_n (i := 1) (a := 1) rfl rfl (dk_X7_lay 58 _ rfl) ?_
    refine F_imul (dk_X7_lay 59 _ rfl) ?_
    refine F_iload (i := 6) rfl (dk_X7_lay 60 _ rfl) ?_
    refine F_iadd (dk_X7_lay 62 _ rfl) ?_
    refine F_iconst (v := 0) (by decide) (dk_X7_lay 63 _ rfl) ?_
    refine F_iast (axM_0_6) (dk_X7_lay 64 _ rfl) (fun m7 => ?_)
    refine F_iinc (i := 6) (n := 1) (v := (y6 + 1)) (lv' := [(6, .int (y6 + 1)), (0, .ref 0), (1, .int y1)]) rfl (by first | rfl | decide) (by decide) rfl (dk_X7_lay 65 _ rfl) ?_
    refine F_goto (tgt := 47) (by decide) (dk_X7_lay 68 _ rfl) ?_
    exact F_loc (List.forall_mem_cons.mpr ⟨(.tail _ (.head _)), (List.forall_mem_cons.mpr ⟨(.tail _ (.tail _ (.head _))), (List.forall_mem_cons.mpr ⟨(.head _), (fun _ z => absurd z List.not_mem_nil)⟩)⟩)⟩) (hK47 _ _ _ )
theorem j_X7_lay_47   : ∀ (F : Nat) (m : mM) (y1 : Int32) (y6 : Int32) , JF false uU m_X7_lay 2 47 [(0, .ref 0), (1, .int y1), (6, .int y6)] [] m (f_X7_lay_47  F m y1 y6) := by
  intro F
  induction F with
  | zero => intro m y1 y6 ; exact F_no
  | succ F ih => intro m y1 y6 ; exact jb_X7_lay_47  (f_X7_lay_47  F)  ih m y1 y6 
def f_X7_lay (m : mM) (p1 : Int32) (p2 : Int32) (p3 : Int32) (p4 : Int32) (p5 : Int32) : fR Unit :=
  (sA 0 m 1 p1 p2).bind fun m1 => (sA 0 m1 2 p1 p3).bind fun m2 => (sA 0 m2 3 p1 p4).bind fun m3 => (sA 0 m3 4 p1 p5).bind fun m4 => (sA 0 m4 5 p1 0).bind fun m5 => (sA 3 m5 7 p1 1).bind fun m6 => (f_X7_lay_47  1000 m6 p1 0)
theorem c_X7_lay (m : mM) (p1 : Int32) (p2 : Int32) (p3 : Int32) (p4 : Int32) (p5 : Int32)  : cF false uU m_X7_lay 2 [.ref 0, .int p1, .int p2, .int p3, .int p4, .int p5] m (f_X7_lay m p1 p2 p3 p4 p5) := by
  refine cF_of ok_X7_lay (fun _ _ => Nat.le_of_ble_eq_true rfl) ?_
  unfold f_X7_lay
  show JF _ _ _ _ _ [(0, .ref 0), (1, .int p1), (2, .int p2), (3, .int p3), (4, .int p4), (5, .int p5)] _ _ _
  refine F_aload_n (i := 0) (a := 0) rfl rfl (dk_X7_lay 0 _ rfl) ?_
  refine F_gR (b := 1) fxM_7_3_0 fl_7_19 (dk_X7_lay 1 _ rfl) ?_
  refine F_iload_n (i := 1) (a := 1) rfl rfl (dk_X7_lay 4 _ rfl) ?_
  refine F_iload_n (i := 2) (a := 2) rfl rfl (dk_X7_lay 5 _ rfl) ?_
  refine F_iast (axM_0_1) (dk_X7_lay 6 _ rfl) (fun m1 => ?_)
  refine F_aload_n (i := 0) (a := 0) rfl rfl (dk_X7_lay 7 _ rfl) ?_
  refine F_gR (b := 2) fxM_7_4_0 fl_7_23 (dk_X7_lay 8 _ rfl) ?_
  refine F_iload_n (i := 1) (a := 1) rfl rfl (dk_X7_lay 11 _ rfl) ?_
  refine F_iload_n (i := 3) (a := 3) rfl rfl (dk_X7_lay 12 _ rfl) ?_
  refine F_iast (axM_0_2) (dk_X7_lay 13 _ rfl) (fun m2 => ?_)
  refine F_aload_n (i := 0) (a := 0) rfl rfl (dk_X7_lay 14 _ rfl) ?_
  refine F_gR (b := 3) fxM_7_5_0 fl_7_26 (dk_X7_lay 15 _ rfl) ?_
  refine F_iload_n (i := 1) (a := 1) rfl rfl (dk_X7_lay 18 _ rfl) ?_
  refine F_iload (i := 4) rfl (dk_X7_lay 19 _ rfl) ?_
  refine F_iast (axM_0_3) (dk_X7_lay 21 _ rfl) (fun m3 => ?_)
  refine F_aload_n (i := 0) (a := 0) rfl rfl (dk_X7_lay 22 _ rfl) ?_
  refine F_gR (b := 4) fxM_7_6_0 fl_7_29 (dk_X7_lay 23 _ rfl) ?_
  refine F_iload_n (i := 1) (a := 1) rfl rfl (dk_X7_lay 26 _ rfl) ?_
  refine F_iload (i := 5) rfl (dk_X7_lay 27 _ rfl) ?_
  refine F_iast (axM_0_4) (dk_X7_lay 29 _ rfl) (fun m4 => ?_)
  refine F_aload_n (i := 0) (a := 0) rfl rfl (dk_X7_lay 30 _ rfl) ?_
  refine F_gR (b := 5) fxM_7_7_0 fl_7_32 (dk_X7_lay 31 _ rfl) ?_
  refine F_iload_n (i := 1) (a := 1) rfl rfl (dk_X7_lay 34 _ rfl) ?_
  refine F_iconst (v := 0) (by decide) (dk_X7_lay 35 _ rfl) ?_
  refine F_iast (axM_0_5) (dk_X7_lay 36 _ rfl) (fun m5 => ?_)
  refine F_aload_n (i := 0) (a := 0) rfl rfl (dk_X7_lay 37 _ rfl) ?_
  refine F_gR (b := 7) fxM_7_9_0 fl_7_38 (dk_X7_lay 38 _ rfl) ?_
  refine F_iload_n (i := 1) (a := 1) rfl rfl (dk_X7_lay 41 _ rfl) ?_
  refine F_iconst (v := 1) (by decide) (dk_X7_lay 42 _ rfl) ?_
  refine F_zast (axM_3_7) (dk_X7_lay 43 _ rfl) (fun m6 => ?_)
  refine F_iconst (v := 0) (by decide) (dk_X7_lay 44 _ rfl) ?_
  refine F_istore (lv' := [(6, .int 0), (0, .ref 0), (1, .int p1), (2, .int p2), (3, .int p3), (4, .int p4), (5, .int p5)]) (i := 6) (by decide) rfl (dk_X7_lay 45 _ rfl) ?_
  exact F_loc (List.forall_mem_cons.mpr ⟨(.tail _ (.head _)), (List.forall_mem_cons.mpr ⟨(.tail _ (.tail _ (.head _))), (List.forall_mem_cons.mpr ⟨(.head _), (fun _ z => absurd z List.not_mem_nil)⟩)⟩)⟩) (j_X7_lay_47   1000 _ _ _ )
def f_X7_person (m : mM) (p1 : Int32) (p2 : Int32) (p3 : Int32) (p4 : Int32) : fR Int32 :=
  bnd (f_X7_in m p1 0 6) fun (x1 : Int32) (m2 : mM) => (if x1 = 0 then some ((-1), m2) else bnd (f_X7_in m2 p2 0 9) fun (x4 : Int32) (m5 : mM) => (if x4 = 0 then some ((-2), m5) else bnd (f_X7_isDay m5 p3) fun (x7 : Int32) (m8 : mM) => (if x7 = 0 then some ((-2), m8) else bnd (f_X7_isDay m8 p4) fun (x10 : Int32) (m11 : mM) => (if x10 = 0 then some ((-2), m11) else (if (mI m11 0) = 7 then some ((-4), m11) else bnd (f_X7_lay m11 (mI m11 0) p1 p2 p3 p4) fun (x13 : Unit) (m14 : mM) => nmM (wI m14 0 (((mI m14 0) + 1))) fun m16 => some (((mI m16 0) - 1), m16))))))
theorem c_X7_person (m : mM) (p1 : Int32) (p2 : Int32) (p3 : Int32) (p4 : Int32)  : cF false uI m_X7_person 4 [.ref 0, .int p1, .int p2, .int p3, .int p4] m (f_X7_person m p1 p2 p3 p4) := by
  refine cF_of ok_X7_person (fun _ _ => Nat.le_of_ble_eq_true rfl) ?_
  unfold f_X7_person
  show JF _ _ _ _ _ [(0, .ref 0), (1, .int p1), (2, .int p2), (3, .int p3), (4, .int p4)] _ _ _
  refine F_aload_n (i := 0) (a := 0) rfl rfl (dk_X7_person 0 _ rfl) ?_
  refine F_iload_n (i := 1) (a := 1) rfl rfl (dk_X7_person 1 _ rfl) ?_
  refine F_iconst (v := 0) (by decide) (dk_X7_person 2 _ rfl) ?_
  refine F_bipush (v := 6) (by decide) (dk_X7_person 3 _ rfl) ?_
  refine F_callV (ι' := uI) (ci := 7) (b := 0) (As := [.int p1, .int 0, .int 6]) (d' := 2) (rfl) ok_X7_in vi_X7_in cl_7_194 (n := 3) (by decide +kernel) rfl rfl rfl (Nat.le_of_ble_eq_true rfl) (by omega) (dk_X7_person 5 _ rfl) (c_X7_in _ _ _ _ ) (fun x1 m2 => ?_)
  show JF _ _ _ _ _ _ [.int x1] _ _
  refine F_if_ne (tgt := 13) (by decide) (dk_X7_person 8 _ rfl) ?_ ?_
  · refine F_aload_n (i := 0) (a := 0) rfl rfl (dk_X7_person 13 _ rfl) ?_
    refine F_iload_n (i := 2) (a := 2) rfl rfl (dk_X7_person 14 _ rfl) ?_
    refine F_iconst (v := 0) (by decide) (dk_X7_person 15 _ rfl) ?_
    refine F_bipush (v := 9) (by decide) (dk_X7_person 16 _ rfl) ?_
    refine F_callV (ι' := uI) (ci := 7) (b := 0) (As := [.int p2, .int 0, .int 9]) (d' := 2) (rfl) ok_X7_in vi_X7_in cl_7_194 (n := 3) (by decide +kernel) rfl rfl rfl (Nat.le_of_ble_eq_true rfl) (by omega) (dk_X7_person 18 _ rfl) (c_X7_in _ _ _ _ ) (fun x4 m5 => ?_)
    show JF _ _ _ _ _ _ [.int x4] _ _
    refine F_if_eq (tgt := 41) (by decide) (dk_X7_person 21 _ rfl) ?_ ?_
    · refine F_bipush (v := (-2)) (by decide) (dk_X7_person 41 _ rfl) ?_
      exact F_ret rfl (dk_X7_person 43 _ rfl)
    · refine F_aload_n (i := 0) (a := 0) rfl rfl (dk_X7_person 24 _ rfl) ?_
      refine F_iload_n (i := 3) (a := 3) rfl rfl (dk_X7_person 25 _ rfl) ?_
      refine F_callV (ι' := uI) (ci := 7) (b := 0) (As := [.int p3]) (d' := 3) (rfl) ok_X7_isDay vi_X7_isDay cl_7_198 (n := 1) (by decide +kernel) rfl rfl rfl (Nat.le_of_ble_eq_true rfl) (by omega) (dk_X7_person 26 _ rfl) (c_X7_isDay _ _ ) (fun x7 m8 => ?_)
      show JF _ _ _ _ _ _ [.int x7] _ _
      refine F_if_eq (tgt := 41) (by decide) (dk_X7_person 29 _ rfl) ?_ ?_
      · refine F_bipush (v := (-2)) (by decide) (dk_X7_person 41 _ rfl) ?_
        exact F_ret rfl (dk_X7_person 43 _ rfl)
      · refine F_aload_n (i := 0) (a := 0) rfl rfl (dk_X7_person 32 _ rfl) ?_
        refine F_iload (i := 4) rfl (dk_X7_person 33 _ rfl) ?_
        refine F_callV (ι' := uI) (ci := 7) (b := 0) (As := [.int p4]) (d' := 3) (rfl) ok_X7_isDay vi_X7_isDay cl_7_198 (n := 1) (by decide +kernel) rfl rfl rfl (Nat.le_of_ble_eq_true rfl) (by omega) (dk_X7_person 35 _ rfl) (c_X7_isDay _ _ ) (fun x10 m11 => ?_)
        show JF _ _ _ _ _ _ [.int x10] _ _
        refine F_if_ne (tgt := 44) (by decide) (dk_X7_person 38 _ rfl) ?_ ?_
        · refine F_aload_n (i := 0) (a := 0) rfl rfl (dk_X7_person 44 _ rfl) ?_
          refine F_gI (n := 0) fxM_7_0_0 rfl fl_7_7 (dk_X7_person 45 _ rfl) ?_
          refine F_bipush (v := 7) (by decide) (dk_X7_person 48 _ rfl) ?_
          refine F_icmp_ne (tgt := 56) (by decide) (dk_X7_person 50 _ rfl) ?_ ?_
          · refine F_aload_n (i := 0) (a := 0) rfl rfl (dk_X7_person 56 _ rfl) ?_
            refine F_aload_n (i := 0) (a := 0) rfl rfl (dk_X7_person 57 _ rfl) ?_
            refine F_gI (n := 0) fxM_7_0_0 rfl fl_7_7 (dk_X7_person 58 _ rfl) ?_
            refine F_iload_n (i := 1) (a := 1) rfl rfl (dk_X7_person 61 _ rfl) ?_
            refine F_iload_n (i := 2) (a := 2) rfl rfl (dk_X7_person 62 _ rfl) ?_
            refine F_iload_n (i := 3) (a := 3) rfl rfl (dk_X7_person 63 _ rfl) ?_
            refine F_iload (i := 4) rfl (dk_X7_person 64 _ rfl) ?_
            refine F_callV (ι' := uU) (ci := 7) (b := 0) (As := [.int (mI m11 0), .int p1, .int p2, .int p3, .int p4]) (d' := 2) (rfl) ok_X7_lay vi_X7_lay cl_7_202 (n := 5) (by decide +kernel) rfl rfl rfl (Nat.le_of_ble_eq_true rfl) (by omega) (dk_X7_person 66 _ rfl) (c_X7_lay _ _ _ _ _ _ ) (fun x13 m14 => ?_)
            show JF _ _ _ _ _ _ [] _ _
            refine F_aload_n (i := 0) (a := 0) rfl rfl (dk_X7_person 69 _ rfl) ?_
            refine F_dup rfl (dk_X7_person 70 _ rfl) ?_
            refine F_gI (n := 0) fxM_7_0_0 rfl fl_7_7 (dk_X7_person 71 _ rfl) ?_
            refine F_iconst (v := 1) (by decide) (dk_X7_person 74 _ rfl) ?_
            refine F_iadd (dk_X7_person 75 _ rfl) ?_
            refine F_pI (n := 0) fxM_7_0_0 rfl fl_7_7 (fun q hq => by cases hq; rfl) trivial (dk_X7_person 76 _ rfl) (fun m16 => ?_)
            refine F_aload_n (i := 0) (a := 0) rfl rfl (dk_X7_person 79 _ rfl) ?_
            refine F_gI (n := 0) fxM_7_0_0 rfl fl_7_7 (dk_X7_person 80 _ rfl) ?_
            refine F_iconst (v := 1) (by decide) (dk_X7_person 83 _ rfl) ?_
            refine F_isub (dk_X7_person 84 _ rfl) ?_
            exact F_ret rfl (dk_X7_person 85 _ rfl)
          · refine F_bipush (v := (-4)) (by decide) (dk_X7_person 53 _ rfl) ?_
            exact F_ret rfl (dk_X7_person 55 _ rfl)
        · refine F_bipush (v := (-2)) (by decide) (dk_X7_person 41 _ rfl) ?_
          exact F_ret rfl (dk_X7_person 43 _ rfl)
  · refine F_iconst (v := (-1)) (by decide) (dk_X7_person 11 _ rfl) ?_
    exact F_ret rfl (dk_X7_person 12 _ rfl)
def f_X7_set_50  (m : mM) (y1 : Int32) (y2 : Int32) (y3 : Int32) (y100 : Int32) : fR Int32 :=
  (if y2 = 0 then (sA 0 m 3 y1 y3).bind fun m12 => some (y100, m12) else (sA 0 m 4 y1 y3).bind fun m11 => some (y100, m11))
theorem j_X7_set_50   (m : mM) (y1 : Int32) (y2 : Int32) (y3 : Int32) (y100 : Int32)  : JF false uI m_X7_set 4 50 [(0, .ref 0), (1, .int y1), (2, .int y2), (3, .int y3)] [.int y100] m (f_X7_set_50  m y1 y2 y3 y100) := by
  unfold f_X7_set_50
  refine F_istore (lv' := [(4, .int y100), (0, .ref 0), (1, .int y1), (2, .int y2), (3, .int y3)]) (i := 4) (by decide) rfl (dk_X7_set 50 _ rfl) ?_
  refine F_iload_n (i := 2) (a := 2) rfl rfl (dk_X7_set 52 _ rfl) ?_
  refine F_if_ne (tgt := 66) (by decide) (dk_X7_set 53 _ rfl) ?_ ?_
  · refine F_aload_n (i := 0) (a := 0) rfl rfl (dk_X7_set 66 _ rfl) ?_
    refine F_gR (b := 4) fxM_7_6_0 fl_7_29 (dk_X7_set 67 _ rfl) ?_
    refine F_iload_n (i := 1) (a := 1) rfl rfl (dk_X7_set 70 _ rfl) ?_
    refine F_iload_n (i := 3) (a := 3) rfl rfl (dk_X7_set 71 _ rfl) ?_
    refine F_iast (axM_0_4) (dk_X7_set 72 _ rfl) (fun m11 => ?_)
    refine F_iload (i := 4) rfl (dk_X7_set 73 _ rfl) ?_
    exact F_ret rfl (dk_X7_set 75 _ rfl)
  · refine F_aload_n (i := 0) (a := 0) rfl rfl (dk_X7_set 56 _ rfl) ?_
    refine F_gR (b := 3) fxM_7_5_0 fl_7_26 (dk_X7_set 57 _ rfl) ?_
    refine F_iload_n (i := 1) (a := 1) rfl rfl (dk_X7_set 60 _ rfl) ?_
    refine F_iload_n (i := 3) (a := 3) rfl rfl (dk_X7_set 61 _ rfl) ?_
    refine F_iast (axM_0_3) (dk_X7_set 62 _ rfl) (fun m12 => ?_)
    refine F_goto (tgt := 73) (by decide) (dk_X7_set 63 _ rfl) ?_
    refine F_iload (i := 4) rfl (dk_X7_set 73 _ rfl) ?_
    exact F_ret rfl (dk_X7_set 75 _ rfl)
def f_X7_set (m : mM) (p1 : Int32) (p2 : Int32) (p3 : Int32) : fR Int32 :=
  bnd (f_X7_isPerson m p1) fun (x1 : Int32) (m2 : mM) => (if x1 = 0 then some ((-1), m2) else bnd (f_X7_in m2 p2 0 1) fun (x4 : Int32) (m5 : mM) => (if x4 = 0 then some ((-1), m5) else bnd (f_X7_isDay m5 p3) fun (x7 : Int32) (m8 : mM) => (if x7 = 0 then some ((-2), m8) else (if p2 = 0 then (gA (mA m8 3) p1).bind fun x13 => (f_X7_set_50  m8 p1 p2 p3 x13) else (gA (mA m8 4) p1).bind fun x10 => (f_X7_set_50  m8 p1 p2 p3 x10)))))
theorem c_X7_set (m : mM) (p1 : Int32) (p2 : Int32) (p3 : Int32)  : cF false uI m_X7_set 4 [.ref 0, .int p1, .int p2, .int p3] m (f_X7_set m p1 p2 p3) := by
  refine cF_of ok_X7_set (fun _ _ => Nat.le_of_ble_eq_true rfl) ?_
  unfold f_X7_set
  show JF _ _ _ _ _ [(0, .ref 0), (1, .int p1), (2, .int p2), (3, .int p3)] _ _ _
  refine F_aload_n (i := 0) (a := 0) rfl rfl (dk_X7_set 0 _ rfl) ?_
  refine F_iload_n (i := 1) (a := 1) rfl rfl (dk_X7_set 1 _ rfl) ?_
  refine F_callV (ι' := uI) (ci := 7) (b := 0) (As := [.int p1]) (d' := 3) (rfl) ok_X7_isPerson vi_X7_isPerson cl_7_206 (n := 1) (by decide +kernel) rfl rfl rfl (Nat.le_of_ble_eq_true rfl) (by omega) (dk_X7_set 2 _ rfl) (c_X7_isPerson _ _ ) (fun x1 m2 => ?_)
  show JF _ _ _ _ _ _ [.int x1] _ _
  refine F_if_eq (tgt := 18) (by decide) (dk_X7_set 5 _ rfl) ?_ ?_
  · refine F_iconst (v := (-1)) (by decide) (dk_X7_set 18 _ rfl) ?_
    exact F_ret rfl (dk_X7_set 19 _ rfl)
  · refine F_aload_n (i := 0) (a := 0) rfl rfl (dk_X7_set 8 _ rfl) ?_
    refine F_iload_n (i := 2) (a := 2) rfl rfl (dk_X7_set 9 _ rfl) ?_
    refine F_iconst (v := 0) (by decide) (dk_X7_set 10 _ rfl) ?_
    refine F_iconst (v := 1) (by decide) (dk_X7_set 11 _ rfl) ?_
    refine F_callV (ι' := uI) (ci := 7) (b := 0) (As := [.int p2, .int 0, .int 1]) (d' := 2) (rfl) ok_X7_in vi_X7_in cl_7_194 (n := 3) (by decide +kernel) rfl rfl rfl (Nat.le_of_ble_eq_true rfl) (by omega) (dk_X7_set 12 _ rfl) (c_X7_in _ _ _ _ ) (fun x4 m5 => ?_)
    show JF _ _ _ _ _ _ [.int x4] _ _
    refine F_if_ne (tgt := 20) (by decide) (dk_X7_set 15 _ rfl) ?_ ?_
    · refine F_aload_n (i := 0) (a := 0) rfl rfl (dk_X7_set 20 _ rfl) ?_
      refine F_iload_n (i := 3) (a := 3) rfl rfl (dk_X7_set 21 _ rfl) ?_
      refine F_callV (ι' := uI) (ci := 7) (b := 0) (As := [.int p3]) (d' := 3) (rfl) ok_X7_isDay vi_X7_isDay cl_7_198 (n := 1) (by decide +kernel) rfl rfl rfl (Nat.le_of_ble_eq_true rfl) (by omega) (dk_X7_set 22 _ rfl) (c_X7_isDay _ _ ) (fun x7 m8 => ?_)
      show JF _ _ _ _ _ _ [.int x7] _ _
      refine F_if_ne (tgt := 31) (by decide) (dk_X7_set 25 _ rfl) ?_ ?_
      · refine F_iload_n (i := 2) (a := 2) rfl rfl (dk_X7_set 31 _ rfl) ?_
        refine F_if_ne (tgt := 44) (by decide) (dk_X7_set 32 _ rfl) ?_ ?_
        · refine F_aload_n (i := 0) (a := 0) rfl rfl (dk_X7_set 44 _ rfl) ?_
          refine F_gR (b := 4) fxM_7_6_0 fl_7_29 (dk_X7_set 45 _ rfl) ?_
          refine F_iload_n (i := 1) (a := 1) rfl rfl (dk_X7_set 48 _ rfl) ?_
          refine F_iald (axM_0_4) (dk_X7_set 49 _ rfl) (fun x10 => ?_)
          exact F_loc (fun _ z => z) (j_X7_set_50   _ _ _ _ _ )
        · refine F_aload_n (i := 0) (a := 0) rfl rfl (dk_X7_set 35 _ rfl) ?_
          refine F_gR (b := 3) fxM_7_5_0 fl_7_26 (dk_X7_set 36 _ rfl) ?_
          refine F_iload_n (i := 1) (a := 1) rfl rfl (dk_X7_set 39 _ rfl) ?_
          refine F_iald (axM_0_3) (dk_X7_set 40 _ rfl) (fun x13 => ?_)
          refine F_goto (tgt := 50) (by decide) (dk_X7_set 41 _ rfl) ?_
          exact F_loc (fun _ z => z) (j_X7_set_50   _ _ _ _ _ )
      · refine F_bipush (v := (-2)) (by decide) (dk_X7_set 28 _ rfl) ?_
        exact F_ret rfl (dk_X7_set 30 _ rfl)
    · refine F_iconst (v := (-1)) (by decide) (dk_X7_set 18 _ rfl) ?_
      exact F_ret rfl (dk_X7_set 19 _ rfl)
def f_X7_there_24  (m : mM) (y1 : Int32) (y2 : Int32) (y100 : Int32) : fR Int32 :=
  (sA 3 m 7 y1 y2).bind fun m5 => some (y100, m5)
theorem j_X7_there_24   (m : mM) (y1 : Int32) (y2 : Int32) (y100 : Int32)  : JF false uI m_X7_there 4 24 [(0, .ref 0), (1, .int y1), (2, .int y2)] [.int y100] m (f_X7_there_24  m y1 y2 y100) := by
  unfold f_X7_there_24
  refine F_istore_n (lv' := [(3, .int y100), (0, .ref 0), (1, .int y1), (2, .int y2)]) (i := 3) (a := 3) rfl (by decide) rfl (dk_X7_there 24 _ rfl) ?_
  refine F_aload_n (i := 0) (a := 0) rfl rfl (dk_X7_there 25 _ rfl) ?_
  refine F_gR (b := 7) fxM_7_9_0 fl_7_38 (dk_X7_there 26 _ rfl) ?_
  refine F_iload_n (i := 1) (a := 1) rfl rfl (dk_X7_there 29 _ rfl) ?_
  refine F_iload_n (i := 2) (a := 2) rfl rfl (dk_X7_there 30 _ rfl) ?_
  refine F_zast (axM_3_7) (dk_X7_there 31 _ rfl) (fun m5 => ?_)
  refine F_iload_n (i := 3) (a := 3) rfl rfl (dk_X7_there 32 _ rfl) ?_
  exact F_ret rfl (dk_X7_there 33 _ rfl)
def f_X7_there (m : mM) (p1 : Int32) (p2 : Int32) : fR Int32 :=
  bnd (f_X7_isPerson m p1) fun (x1 : Int32) (m2 : mM) => (if x1 = 0 then some ((-1), m2) else (gA (mA m2 7) p1).bind fun x4 => (if x4 = 0 then (f_X7_there_24  m2 p1 p2 0) else (f_X7_there_24  m2 p1 p2 1)))
theorem c_X7_there (m : mM) (p1 : Int32) (p2 : Int32)  : cF false uI m_X7_there 4 [.ref 0, .int p1, .int p2] m (f_X7_there m p1 p2) := by
  refine cF_of ok_X7_there (fun _ _ => Nat.le_of_ble_eq_true rfl) ?_
  unfold f_X7_there
  show JF _ _ _ _ _ [(0, .ref 0), (1, .int p1), (2, .int p2)] _ _ _
  refine F_aload_n (i := 0) (a := 0) rfl rfl (dk_X7_there 0 _ rfl) ?_
  refine F_iload_n (i := 1) (a := 1) rfl rfl (dk_X7_there 1 _ rfl) ?_
  refine F_callV (ι' := uI) (ci := 7) (b := 0) (As := [.int p1]) (d' := 3) (rfl) ok_X7_isPerson vi_X7_isPerson cl_7_206 (n := 1) (by decide +kernel) rfl rfl rfl (Nat.le_of_ble_eq_true rfl) (by omega) (dk_X7_there 2 _ rfl) (c_X7_isPerson _ _ ) (fun x1 m2 => ?_)
  show JF _ _ _ _ _ _ [.int x1] _ _
  refine F_if_ne (tgt := 10) (by decide) (dk_X7_there 5 _ rfl) ?_ ?_
  · refine F_aload_n (i := 0) (a := 0) rfl rfl (dk_X7_there 10 _ rfl) ?_
    refine F_gR (b := 7) fxM_7_9_0 fl_7_38 (dk_X7_there 11 _ rfl) ?_
    refine F_iload_n (i := 1) (a := 1) rfl rfl (dk_X7_there 14 _ rfl) ?_
    refine F_zald (axM_3_7) (dk_X7_there 15 _ rfl) (fun x4 => ?_)
    refine F_if_eq (tgt := 23) (by decide) (dk_X7_there 16 _ rfl) ?_ ?_
    · refine F_iconst (v := 0) (by decide) (dk_X7_there 23 _ rfl) ?_
      exact F_loc (fun _ z => z) (j_X7_there_24   _ _ _ _ )
    · refine F_iconst (v := 1) (by decide) (dk_X7_there 19 _ rfl) ?_
      refine F_goto (tgt := 24) (by decide) (dk_X7_there 20 _ rfl) ?_
      exact F_loc (fun _ z => z) (j_X7_there_24   _ _ _ _ )
  · refine F_iconst (v := (-1)) (by decide) (dk_X7_there 8 _ rfl) ?_
    exact F_ret rfl (dk_X7_there 9 _ rfl)
def f_X7_row (m : mM) (p1 : Int32) (p2 : Int32) (p3 : Int32) : fR Int32 :=
  bnd (f_X7_isPerson m p1) fun (x1 : Int32) (m2 : mM) => (if x1 = 0 then some ((-1), m2) else bnd (f_X7_in m2 p2 0 3) fun (x4 : Int32) (m5 : mM) => (if x4 = 0 then some ((-1), m5) else bnd (f_X7_isDay m5 p3) fun (x7 : Int32) (m8 : mM) => (if x7 = 0 then some ((-2), m8) else (gA (mA m8 1) p1).bind fun x10 => (if x10 = 6 then (gA (mA m8 6) (((4 * p1) + p2))).bind fun x11 => (sA 0 m8 6 (((4 * p1) + p2)) p3).bind fun m12 => some (x11, m12) else some ((-3), m8)))))
theorem c_X7_row (m : mM) (p1 : Int32) (p2 : Int32) (p3 : Int32)  : cF false uI m_X7_row 4 [.ref 0, .int p1, .int p2, .int p3] m (f_X7_row m p1 p2 p3) := by
  refine cF_of ok_X7_row (fun _ _ => Nat.le_of_ble_eq_true rfl) ?_
  unfold f_X7_row
  show JF _ _ _ _ _ [(0, .ref 0), (1, .int p1), (2, .int p2), (3, .int p3)] _ _ _
  refine F_aload_n (i := 0) (a := 0) rfl rfl (dk_X7_row 0 _ rfl) ?_
  refine F_iload_n (i := 1) (a := 1) rfl rfl (dk_X7_row 1 _ rfl) ?_
  refine F_callV (ι' := uI) (ci := 7) (b := 0) (As := [.int p1]) (d' := 3) (rfl) ok_X7_isPerson vi_X7_isPerson cl_7_206 (n := 1) (by decide +kernel) rfl rfl rfl (Nat.le_of_ble_eq_true rfl) (by omega) (dk_X7_row 2 _ rfl) (c_X7_isPerson _ _ ) (fun x1 m2 => ?_)
  show JF _ _ _ _ _ _ [.int x1] _ _
  refine F_if_eq (tgt := 18) (by decide) (dk_X7_row 5 _ rfl) ?_ ?_
  · refine F_iconst (v := (-1)) (by decide) (dk_X7_row 18 _ rfl) ?_
    exact F_ret rfl (dk_X7_row 19 _ rfl)
  · refine F_aload_n (i := 0) (a := 0) rfl rfl (dk_X7_row 8 _ rfl) ?_
    refine F_iload_n (i := 2) (a := 2) rfl rfl (dk_X7_row 9 _ rfl) ?_
    refine F_iconst (v := 0) (by decide) (dk_X7_row 10 _ rfl) ?_
    refine F_iconst (v := 3) (by decide) (dk_X7_row 11 _ rfl) ?_
    refine F_callV (ι' := uI) (ci := 7) (b := 0) (As := [.int p2, .int 0, .int 3]) (d' := 2) (rfl) ok_X7_in vi_X7_in cl_7_194 (n := 3) (by decide +kernel) rfl rfl rfl (Nat.le_of_ble_eq_true rfl) (by omega) (dk_X7_row 12 _ rfl) (c_X7_in _ _ _ _ ) (fun x4 m5 => ?_)
    show JF _ _ _ _ _ _ [.int x4] _ _
    refine F_if_ne (tgt := 20) (by decide) (dk_X7_row 15 _ rfl) ?_ ?_
    · refine F_aload_n (i := 0) (a := 0) rfl rfl (dk_X7_row 20 _ rfl) ?_
      refine F_iload_n (i := 3) (a := 3) rfl rfl (dk_X7_row 21 _ rfl) ?_
      refine F_callV (ι' := uI) (ci := 7) (b := 0) (As := [.int p3]) (d' := 3) (rfl) ok_X7_isDay vi_X7_isDay cl_7_198 (n := 1) (by decide +kernel) rfl rfl rfl (Nat.le_of_ble_eq_true rfl) (by omega) (dk_X7_row 22 _ rfl) (c_X7_isDay _ _ ) (fun x7 m8 => ?_)
      show JF _ _ _ _ _ _ [.int x7] _ _
      refine F_if_ne (tgt := 31) (by decide) (dk_X7_row 25 _ rfl) ?_ ?_
      · refine F_aload_n (i := 0) (a := 0) rfl rfl (dk_X7_row 31 _ rfl) ?_
        refine F_gR (b := 1) fxM_7_3_0 fl_7_19 (dk_X7_row 32 _ rfl) ?_
        refine F_iload_n (i := 1) (a := 1) rfl rfl (dk_X7_row 35 _ rfl) ?_
        refine F_iald (axM_0_1) (dk_X7_row 36 _ rfl) (fun x10 => ?_)
        refine F_bipush (v := 6) (by decide) (dk_X7_row 37 _ rfl) ?_
        refine F_icmp_eq (tgt := 45) (by decide) (dk_X7_row 39 _ rfl) ?_ ?_
        · refine F_aload_n (i := 0) (a := 0) rfl rfl (dk_X7_row 45 _ rfl) ?_
          refine F_gR (b := 6) fxM_7_8_0 fl_7_35 (dk_X7_row 46 _ rfl) ?_
          refine F_iconst (v := 4) (by decide) (dk_X7_row 49 _ rfl) ?_
          refine F_iload_n (i := 1) (a := 1) rfl rfl (dk_X7_row 50 _ rfl) ?_
          refine F_imul (dk_X7_row 51 _ rfl) ?_
          refine F_iload_n (i := 2) (a := 2) rfl rfl (dk_X7_row 52 _ rfl) ?_
          refine F_iadd (dk_X7_row 53 _ rfl) ?_
          refine F_iald (axM_0_6) (dk_X7_row 54 _ rfl) (fun x11 => ?_)
          refine F_istore (lv' := [(4, .int x11), (0, .ref 0), (1, .int p1), (2, .int p2), (3, .int p3)]) (i := 4) (by decide) rfl (dk_X7_row 55 _ rfl) ?_
          refine F_aload_n (i := 0) (a := 0) rfl rfl (dk_X7_row 57 _ rfl) ?_
          refine F_gR (b := 6) fxM_7_8_0 fl_7_35 (dk_X7_row 58 _ rfl) ?_
          refine F_iconst (v := 4) (by decide) (dk_X7_row 61 _ rfl) ?_
          refine F_iload_n (i := 1) (a := 1) rfl rfl (dk_X7_row 62 _ rfl) ?_
          refine F_imul (dk_X7_row 63 _ rfl) ?_
          refine F_iload_n (i := 2) (a := 2) rfl rfl (dk_X7_row 64 _ rfl) ?_
          refine F_iadd (dk_X7_row 65 _ rfl) ?_
          refine F_iload_n (i := 3) (a := 3) rfl rfl (dk_X7_row 66 _ rfl) ?_
          refine F_iast (axM_0_6) (dk_X7_row 67 _ rfl) (fun m12 => ?_)
          refine F_iload (i := 4) rfl (dk_X7_row 68 _ rfl) ?_
          exact F_ret rfl (dk_X7_row 70 _ rfl)
        · refine F_bipush (v := (-3)) (by decide) (dk_X7_row 42 _ rfl) ?_
          exact F_ret rfl (dk_X7_row 44 _ rfl)
      · refine F_bipush (v := (-2)) (by decide) (dk_X7_row 28 _ rfl) ?_
        exact F_ret rfl (dk_X7_row 30 _ rfl)
    · refine F_iconst (v := (-1)) (by decide) (dk_X7_row 18 _ rfl) ?_
      exact F_ret rfl (dk_X7_row 19 _ rfl)
end
