section
set_option maxRecDepth 100000
def fb_X6_firstMost_4 (K4 : mM → Int32 → Int32 → fR Int32) (m : mM) (y1 : Int32) (y2 : Int32) : fR Int32 :=
  (if 12 ≤ y2 then some (y1, m) else (gA (mA m 1) y2).bind fun x1 => (gA (mA m 1) y1).bind fun x2 => (if x1 ≤ x2 then (K4 m y1 (y2 + 1)) else (K4 m y2 (y2 + 1))))
def f_X6_firstMost_4  : Nat → mM → Int32 → Int32 → fR Int32
  | 0, _, _, _ => none
  | F + 1, m, y1, y2 => fb_X6_firstMost_4  (f_X6_firstMost_4  F) m y1 y2
theorem jb_X6_firstMost_4 (K4 : mM → Int32 → Int32 → fR Int32) (hK4 : ∀ (m : mM) (y1 : Int32) (y2 : Int32) , JF true uI m_X6_firstMost 2 4 [(0, .ref 0), (1, .int y1), (2, .int y2)] [] m (K4 m y1 y2)) (m : mM) (y1 : Int32) (y2 : Int32)  : JF true uI m_X6_firstMost 2 4 [(0, .ref 0), (1, .int y1), (2, .int y2)] [] m (fb_X6_firstMost_4 K4 m y1 y2) := by
  unfold fb_X6_firstMost_4
  refine F_iload_n (i := 2) (a := 2) rfl rfl (dk_X6_firstMost 4 _ rfl) ?_
  refine F_bipush (v := 12) (by decide) (dk_X6_firstMost 5 _ rfl) ?_
  refine F_icmp_ge (tgt := 33) (by decide) (dk_X6_firstMost 7 _ rfl) ?_ ?_
  · refine F_iload_n (i := 1) (a := 1) rfl rfl (dk_X6_firstMost 33 _ rfl) ?_
    exact F_ret rfl (dk_X6_firstMost 34 _ rfl)
  · refine F_aload_n (i := 0) (a := 0) rfl rfl (dk_X6_firstMost 10 _ rfl) ?_
    refine F_gR (b := 1) fxX_6_5_0 fl_6_11 (dk_X6_firstMost 11 _ rfl) ?_
    refine F_iload_n (i := 2) (a := 2) rfl rfl (dk_X6_firstMost 14 _ rfl) ?_
    refine F_iald (axX_0_1) (dk_X6_firstMost 15 _ rfl) (fun x1 => ?_)
    refine F_aload_n (i := 0) (a := 0) rfl rfl (dk_X6_firstMost 16 _ rfl) ?_
    refine F_gR (b := 1) fxX_6_5_0 fl_6_11 (dk_X6_firstMost 17 _ rfl) ?_
    refine F_iload_n (i := 1) (a := 1) rfl rfl (dk_X6_firstMost 20 _ rfl) ?_
    refine F_iald (axX_0_1) (dk_X6_firstMost 21 _ rfl) (fun x2 => ?_)
    refine F_icmp_le (tgt := 27) (by decide) (dk_X6_firstMost 22 _ rfl) ?_ ?_
    · refine F_iinc (i := 2) (n := 1) (v := (y2 + 1)) (lv' := [(2, .int (y2 + 1)), (0, .ref 0), (1, .int y1)]) rfl (by first | rfl | decide) (by decide) rfl (dk_X6_firstMost 27 _ rfl) ?_
      refine F_goto (tgt := 4) (by decide) (dk_X6_firstMost 30 _ rfl) ?_
      exact F_loc (List.forall_mem_cons.mpr ⟨(.tail _ (.head _)), (List.forall_mem_cons.mpr ⟨(.tail _ (.tail _ (.head _))), (List.forall_mem_cons.mpr ⟨(.head _), (fun _ z => absurd z List.not_mem_nil)⟩)⟩)⟩) (hK4 _ _ _ )
    · refine F_iload_n (i := 2) (a := 2) rfl rfl (dk_X6_firstMost 25 _ rfl) ?_
      refine F_istore_n (lv' := [(1, .int y2), (0, .ref 0), (2, .int y2)]) (i := 1) (a := 1) rfl (by decide) rfl (dk_X6_firstMost 26 _ rfl) ?_
      refine F_iinc (i := 2) (n := 1) (v := (y2 + 1)) (lv' := [(2, .int (y2 + 1)), (1, .int y2), (0, .ref 0)]) rfl (by first | rfl | decide) (by decide) rfl (dk_X6_firstMost 27 _ rfl) ?_
      refine F_goto (tgt := 4) (by decide) (dk_X6_firstMost 30 _ rfl) ?_
      exact F_loc (List.forall_mem_cons.mpr ⟨(.tail _ (.tail _ (.head _))), (List.forall_mem_cons.mpr ⟨(.tail _ (.head _)), (List.forall_mem_cons.mpr ⟨(.head _), (fun _ z => absurd z List.not_mem_nil)⟩)⟩)⟩) (hK4 _ _ _ )
theorem j_X6_firstMost_4   : ∀ (F : Nat) (m : mM) (y1 : Int32) (y2 : Int32) , JF true uI m_X6_firstMost 2 4 [(0, .ref 0), (1, .int y1), (2, .int y2)] [] m (f_X6_firstMost_4  F m y1 y2) := by
  intro F
  induction F with
  | zero => intro m y1 y2 ; exact F_no
  | succ F ih => intro m y1 y2 ; exact jb_X6_firstMost_4  (f_X6_firstMost_4  F)  ih m y1 y2 
def f_X6_firstMost (m : mM)  : fR Int32 :=
  (f_X6_firstMost_4  1000 m 0 1)
theorem c_X6_firstMost (m : mM)   : cF true uI m_X6_firstMost 2 [.ref 0] m (f_X6_firstMost m ) := by
  refine cF_of ok_X6_firstMost (fun _ _ => Nat.le_of_ble_eq_true rfl) ?_
  unfold f_X6_firstMost
  show JF _ _ _ _ _ [(0, .ref 0)] _ _ _
  refine F_iconst (v := 0) (by decide) (dk_X6_firstMost 0 _ rfl) ?_
  refine F_istore_n (lv' := [(1, .int 0), (0, .ref 0)]) (i := 1) (a := 1) rfl (by decide) rfl (dk_X6_firstMost 1 _ rfl) ?_
  refine F_iconst (v := 1) (by decide) (dk_X6_firstMost 2 _ rfl) ?_
  refine F_istore_n (lv' := [(2, .int 1), (1, .int 0), (0, .ref 0)]) (i := 2) (a := 2) rfl (by decide) rfl (dk_X6_firstMost 3 _ rfl) ?_
  exact F_loc (List.forall_mem_cons.mpr ⟨(.tail _ (.tail _ (.head _))), (List.forall_mem_cons.mpr ⟨(.tail _ (.head _)), (List.forall_mem_cons.mpr ⟨(.head _), (fun _ z => absurd z List.not_mem_nil)⟩)⟩)⟩) (j_X6_firstMost_4   1000 _ _ _ )
def f_X6_bestOf (m : mM) (a1 : Nat) (p2 : Int32) (p3 : Int32) : fR Int32 :=
  chR true 5 (mR m 2052) fun r1 => bnd (f_X6_tryDays m a1 p2 ((mI m (64 * r1 + 0)))) fun (x2 : Unit) (m3 : mM) => bnd (f_X6_firstMost m3 ) fun (x5 : Int32) (m6 : mM) => (if p3 = 0 then some (x5, m6) else (gA (mA m6 1) x5).bind fun x8 => some (x8, m6))
theorem c_X6_bestOf (m : mM) (a1 : Nat) (p2 : Int32) (p3 : Int32) (ha1 : isA true 0 a1 = true) : cF true uI m_X6_bestOf 8 [.ref 0, .ref a1, .int p2, .int p3] m (f_X6_bestOf m a1 p2 p3) := by
  refine cF_of ok_X6_bestOf (fun _ _ => Nat.le_of_ble_eq_true rfl) ?_
  unfold f_X6_bestOf
  show JF _ _ _ _ _ [(0, .ref 0), (1, .ref a1), (2, .int p2), (3, .int p3)] _ _ _
  refine F_aload_n (i := 0) (a := 0) rfl rfl (dk_X6_bestOf 0 _ rfl) ?_
  refine F_aload_n (i := 1) (a := 1) rfl rfl (dk_X6_bestOf 1 _ rfl) ?_
  refine F_iload_n (i := 2) (a := 2) rfl rfl (dk_X6_bestOf 2 _ rfl) ?_
  refine F_aload_n (i := 0) (a := 0) rfl rfl (dk_X6_bestOf 3 _ rfl) ?_
  refine F_gR (b := 32) fxX_6_2_0 fl_6_54 (dk_X6_bestOf 4 _ rfl) ?_
  refine F_gV (n := 2052) fxX_2_4_32 rfl fl_6_83 (dk_X6_bestOf 7 _ rfl) ?_
  refine F_ch (fun r1 hr1 => ?_)
  refine F_gI (n := (64 * r1 + 0)) (lyT_0 hr1) rfl fl_6_87 (dk_X6_bestOf 10 _ rfl) ?_
  refine F_callV (ι' := uU) (ci := 6) (b := 0) (As := [.ref a1, .int p2, .int (mI m (64 * r1 + 0))]) (d' := 7) (rfl) ok_X6_tryDays vi_X6_tryDays cl_6_192 (n := 3) (by decide +kernel) rfl rfl rfl (Nat.le_of_ble_eq_true rfl) (by omega) (dk_X6_bestOf 13 _ rfl) (c_X6_tryDays _ _ _ _ (ha1)) (fun x2 m3 => ?_)
  show JF _ _ _ _ _ _ [] _ _
  refine F_aload_n (i := 0) (a := 0) rfl rfl (dk_X6_bestOf 16 _ rfl) ?_
  refine F_callV (ι' := uI) (ci := 6) (b := 0) (As := []) (d' := 2) (rfl) ok_X6_firstMost vi_X6_firstMost cl_6_269 (n := 0) (by decide +kernel) rfl rfl rfl (Nat.le_of_ble_eq_true rfl) (by omega) (dk_X6_bestOf 17 _ rfl) (c_X6_firstMost _  ) (fun x5 m6 => ?_)
  show JF _ _ _ _ _ _ [.int x5] _ _
  refine F_istore (lv' := [(4, .int x5), (0, .ref 0), (1, .ref a1), (2, .int p2), (3, .int p3)]) (i := 4) (by decide) rfl (dk_X6_bestOf 20 _ rfl) ?_
  refine F_iload_n (i := 3) (a := 3) rfl rfl (dk_X6_bestOf 22 _ rfl) ?_
  refine F_if_ne (tgt := 31) (by decide) (dk_X6_bestOf 23 _ rfl) ?_ ?_
  · refine F_aload_n (i := 0) (a := 0) rfl rfl (dk_X6_bestOf 31 _ rfl) ?_
    refine F_gR (b := 1) fxX_6_5_0 fl_6_11 (dk_X6_bestOf 32 _ rfl) ?_
    refine F_iload (i := 4) rfl (dk_X6_bestOf 35 _ rfl) ?_
    refine F_iald (axX_0_1) (dk_X6_bestOf 37 _ rfl) (fun x8 => ?_)
    exact F_ret rfl (dk_X6_bestOf 38 _ rfl)
  · refine F_iload (i := 4) rfl (dk_X6_bestOf 26 _ rfl) ?_
    refine F_goto (tgt := 38) (by decide) (dk_X6_bestOf 28 _ rfl) ?_
    exact F_ret rfl (dk_X6_bestOf 38 _ rfl)
def f_X6_birth (m : mM) (p1 : Int32) (p2 : Int32) : fR Int32 :=
  bnd (f_X6_isPerson m p1) fun (x1 : Int32) (m2 : mM) => (if x1 = 0 then some ((-10000001), m2) else (if p2 < 0 then some ((-10000001), m2) else (if p2 ≤ 1 then bnd (f_X2_copy m2 32 14) fun (x4 : Unit) (m5 : mM) => bnd (f_X6_bestOf m5 35 p1 p2) fun (x7 : Int32) (m8 : mM) => some (x7, m8) else some ((-10000001), m2))))
theorem c_X6_birth (m : mM) (p1 : Int32) (p2 : Int32)  : cF true uI m_X6_birth 9 [.ref 0, .int p1, .int p2] m (f_X6_birth m p1 p2) := by
  refine cF_of ok_X6_birth (fun _ _ => Nat.le_of_ble_eq_true rfl) ?_
  unfold f_X6_birth
  show JF _ _ _ _ _ [(0, .ref 0), (1, .int p1), (2, .int p2)] _ _ _
  refine F_aload_n (i := 0) (a := 0) rfl rfl (dk_X6_birth 0 _ rfl) ?_
  refine F_iload_n (i := 1) (a := 1) rfl rfl (dk_X6_birth 1 _ rfl) ?_
  refine F_callV (ι' := uI) (ci := 6) (b := 0) (As := [.int p1]) (d' := 2) (rfl) ok_X6_isPerson vi_X6_isPerson cl_6_79 (n := 1) (by decide +kernel) rfl rfl rfl (Nat.le_of_ble_eq_true rfl) (by omega) (dk_X6_birth 2 _ rfl) (c_X6_isPerson _ _ ) (fun x1 m2 => ?_)
  show JF _ _ _ _ _ _ [.int x1] _ _
  refine F_if_eq (tgt := 17) (by decide) (dk_X6_birth 5 _ rfl) ?_ ?_
  · refine F_ldc (v := (-10000001)) ct_6_82 (dk_X6_birth 17 _ rfl) ?_
    exact F_ret rfl (dk_X6_birth 19 _ rfl)
  · refine F_iload_n (i := 2) (a := 2) rfl rfl (dk_X6_birth 8 _ rfl) ?_
    refine F_if_lt (tgt := 17) (by decide) (dk_X6_birth 9 _ rfl) ?_ ?_
    · refine F_ldc (v := (-10000001)) ct_6_82 (dk_X6_birth 17 _ rfl) ?_
      exact F_ret rfl (dk_X6_birth 19 _ rfl)
    · refine F_iload_n (i := 2) (a := 2) rfl rfl (dk_X6_birth 12 _ rfl) ?_
      refine F_iconst (v := 1) (by decide) (dk_X6_birth 13 _ rfl) ?_
      refine F_icmp_le (tgt := 20) (by decide) (dk_X6_birth 14 _ rfl) ?_ ?_
      · refine F_aload_n (i := 0) (a := 0) rfl rfl (dk_X6_birth 20 _ rfl) ?_
        refine F_gR (b := 32) fxX_6_2_0 fl_6_54 (dk_X6_birth 21 _ rfl) ?_
        refine F_aload_n (i := 0) (a := 0) rfl rfl (dk_X6_birth 24 _ rfl) ?_
        refine F_gR (b := 14) fxX_6_0_0 fl_6_47 (dk_X6_birth 25 _ rfl) ?_
        refine F_callV (ι' := uU) (ci := 2) (b := 32) (As := [.ref 14]) (d' := 2) (rfl) ok_X2_copy vi_X2_copy cl_6_185 (n := 1) (by decide +kernel) rfl rfl rfl (Nat.le_of_ble_eq_true rfl) (by omega) (dk_X6_birth 28 _ rfl) (c_X2_copy _ _ _ (rfl) (rfl)) (fun x4 m5 => ?_)
        show JF _ _ _ _ _ _ [] _ _
        refine F_aload_n (i := 0) (a := 0) rfl rfl (dk_X6_birth 31 _ rfl) ?_
        refine F_aload_n (i := 0) (a := 0) rfl rfl (dk_X6_birth 32 _ rfl) ?_
        refine F_gR (b := 32) fxX_6_2_0 fl_6_54 (dk_X6_birth 33 _ rfl) ?_
        refine F_gR (b := 35) fxX_2_7_32 fl_6_103 (dk_X6_birth 36 _ rfl) ?_
        refine F_iload_n (i := 1) (a := 1) rfl rfl (dk_X6_birth 39 _ rfl) ?_
        refine F_iload_n (i := 2) (a := 2) rfl rfl (dk_X6_birth 40 _ rfl) ?_
        refine F_callV (ι' := uI) (ci := 6) (b := 0) (As := [.ref 35, .int p1, .int p2]) (d' := 8) (rfl) ok_X6_bestOf vi_X6_bestOf cl_6_188 (n := 3) (by decide +kernel) rfl rfl rfl (Nat.le_of_ble_eq_true rfl) (by omega) (dk_X6_birth 41 _ rfl) (c_X6_bestOf _ _ _ _ (axX_0_35)) (fun x7 m8 => ?_)
        show JF _ _ _ _ _ _ [.int x7] _ _
        exact F_ret rfl (dk_X6_birth 44 _ rfl)
      · refine F_ldc (v := (-10000001)) ct_6_82 (dk_X6_birth 17 _ rfl) ?_
        exact F_ret rfl (dk_X6_birth 19 _ rfl)
def f_X6_plan (m : mM) (p1 : Int32) (p2 : Int32) : fR Int32 :=
  bnd (f_X6_isPerson m p1) fun (x1 : Int32) (m2 : mM) => (if x1 = 0 then some ((-10000001), m2) else (if p2 < 0 then some ((-10000001), m2) else (if p2 ≤ 1 then bnd (f_X2_copy m2 32 14) fun (x4 : Unit) (m5 : mM) => bnd (f_X6_bestOf m5 36 p1 p2) fun (x7 : Int32) (m8 : mM) => some (x7, m8) else some ((-10000001), m2))))
theorem c_X6_plan (m : mM) (p1 : Int32) (p2 : Int32)  : cF true uI m_X6_plan 9 [.ref 0, .int p1, .int p2] m (f_X6_plan m p1 p2) := by
  refine cF_of ok_X6_plan (fun _ _ => Nat.le_of_ble_eq_true rfl) ?_
  unfold f_X6_plan
  show JF _ _ _ _ _ [(0, .ref 0), (1, .int p1), (2, .int p2)] _ _ _
  refine F_aload_n (i := 0) (a := 0) rfl rfl (dk_X6_plan 0 _ rfl) ?_
  refine F_iload_n (i := 1) (a := 1) rfl rfl (dk_X6_plan 1 _ rfl) ?_
  refine F_callV (ι' := uI) (ci := 6) (b := 0) (As := [.int p1]) (d' := 2) (rfl) ok_X6_isPerson vi_X6_isPerson cl_6_79 (n := 1) (by decide +kernel) rfl rfl rfl (Nat.le_of_ble_eq_true rfl) (by omega) (dk_X6_plan 2 _ rfl) (c_X6_isPerson _ _ ) (fun x1 m2 => ?_)
  show JF _ _ _ _ _ _ [.int x1] _ _
  refine F_if_eq (tgt := 17) (by decide) (dk_X6_plan 5 _ rfl) ?_ ?_
  · refine F_ldc (v := (-10000001)) ct_6_82 (dk_X6_plan 17 _ rfl) ?_
    exact F_ret rfl (dk_X6_plan 19 _ rfl)
  · refine F_iload_n (i := 2) (a := 2) rfl rfl (dk_X6_plan 8 _ rfl) ?_
    refine F_if_lt (tgt := 17) (by decide) (dk_X6_plan 9 _ rfl) ?_ ?_
    · refine F_ldc (v := (-10000001)) ct_6_82 (dk_X6_plan 17 _ rfl) ?_
      exact F_ret rfl (dk_X6_plan 19 _ rfl)
    · refine F_iload_n (i := 2) (a := 2) rfl rfl (dk_X6_plan 12 _ rfl) ?_
      refine F_iconst (v := 1) (by decide) (dk_X6_plan 13 _ rfl) ?_
      refine F_icmp_le (tgt := 20) (by decide) (dk_X6_plan 14 _ rfl) ?_ ?_
      · refine F_aload_n (i := 0) (a := 0) rfl rfl (dk_X6_plan 20 _ rfl) ?_
        refine F_gR (b := 32) fxX_6_2_0 fl_6_54 (dk_X6_plan 21 _ rfl) ?_
        refine F_aload_n (i := 0) (a := 0) rfl rfl (dk_X6_plan 24 _ rfl) ?_
        refine F_gR (b := 14) fxX_6_0_0 fl_6_47 (dk_X6_plan 25 _ rfl) ?_
        refine F_callV (ι' := uU) (ci := 2) (b := 32) (As := [.ref 14]) (d' := 2) (rfl) ok_X2_copy vi_X2_copy cl_6_185 (n := 1) (by decide +kernel) rfl rfl rfl (Nat.le_of_ble_eq_true rfl) (by omega) (dk_X6_plan 28 _ rfl) (c_X2_copy _ _ _ (rfl) (rfl)) (fun x4 m5 => ?_)
        show JF _ _ _ _ _ _ [] _ _
        refine F_aload_n (i := 0) (a := 0) rfl rfl (dk_X6_plan 31 _ rfl) ?_
        refine F_aload_n (i := 0) (a := 0) rfl rfl (dk_X6_plan 32 _ rfl) ?_
        refine F_gR (b := 32) fxX_6_2_0 fl_6_54 (dk_X6_plan 33 _ rfl) ?_
        refine F_gR (b := 36) fxX_2_8_32 fl_6_106 (dk_X6_plan 36 _ rfl) ?_
        refine F_iload_n (i := 1) (a := 1) rfl rfl (dk_X6_plan 39 _ rfl) ?_
        refine F_iload_n (i := 2) (a := 2) rfl rfl (dk_X6_plan 40 _ rfl) ?_
        refine F_callV (ι' := uI) (ci := 6) (b := 0) (As := [.ref 36, .int p1, .int p2]) (d' := 8) (rfl) ok_X6_bestOf vi_X6_bestOf cl_6_188 (n := 3) (by decide +kernel) rfl rfl rfl (Nat.le_of_ble_eq_true rfl) (by omega) (dk_X6_plan 41 _ rfl) (c_X6_bestOf _ _ _ _ (axX_0_36)) (fun x7 m8 => ?_)
        show JF _ _ _ _ _ _ [.int x7] _ _
        exact F_ret rfl (dk_X6_plan 44 _ rfl)
      · refine F_ldc (v := (-10000001)) ct_6_82 (dk_X6_plan 17 _ rfl) ?_
        exact F_ret rfl (dk_X6_plan 19 _ rfl)
def fb_X6_quiet_27 (K27 : mM → Int32 → Int32 → fR Int32) (m : mM) (y1 : Int32) (y2 : Int32) : fR Int32 :=
  (if (mI m 896) ≤ y2 then some (y1, m) else (gA (mA m 20) y2).bind fun x5 => (if x5 = 0 then (K27 m y1 (y2 + 1)) else (gA (mA m 44) y2).bind fun x6 => nmI ((y1 &&& ((1 <<< (x6 &&& 31)) ^^^ (-1)))) fun v7 => (K27 m v7 (y2 + 1))))
def f_X6_quiet_27  : Nat → mM → Int32 → Int32 → fR Int32
  | 0, _, _, _ => none
  | F + 1, m, y1, y2 => fb_X6_quiet_27  (f_X6_quiet_27  F) m y1 y2
theorem jb_X6_quiet_27 (K27 : mM → Int32 → Int32 → fR Int32) (hK27 : ∀ (m : mM) (y1 : Int32) (y2 : Int32) , JF true uI m_X6_quiet 6 27 [(0, .ref 0), (1, .int y1), (2, .int y2)] [] m (K27 m y1 y2)) (m : mM) (y1 : Int32) (y2 : Int32)  : JF true uI m_X6_quiet 6 27 [(0, .ref 0), (1, .int y1), (2, .int y2)] [] m (fb_X6_quiet_27 K27 m y1 y2) := by
  unfold fb_X6_quiet_27
  refine F_iload_n (i := 2) (a := 2) rfl rfl (dk_X6_quiet 27 _ rfl) ?_
  refine F_aload_n (i := 0) (a := 0) rfl rfl (dk_X6_quiet 28 _ rfl) ?_
  refine F_gR (b := 14) fxX_6_0_0 fl_6_47 (dk_X6_quiet 29 _ rfl) ?_
  refine F_gI (n := 896) fxX_2_0_14 rfl fl_6_71 (dk_X6_quiet 32 _ rfl) ?_
  refine F_icmp_ge (tgt := 72) (by decide) (dk_X6_quiet 35 _ rfl) ?_ ?_
  · refine F_iload_n (i := 1) (a := 1) rfl rfl (dk_X6_quiet 72 _ rfl) ?_
    exact F_ret rfl (dk_X6_quiet 73 _ rfl)
  · refine F_aload_n (i := 0) (a := 0) rfl rfl (dk_X6_quiet 38 _ rfl) ?_
    refine F_gR (b := 14) fxX_6_0_0 fl_6_47 (dk_X6_quiet 39 _ rfl) ?_
    refine F_gR (b := 20) fxX_2_10_14 fl_6_109 (dk_X6_quiet 42 _ rfl) ?_
    refine F_iload_n (i := 2) (a := 2) rfl rfl (dk_X6_quiet 45 _ rfl) ?_
    refine F_zald (axX_3_20) (dk_X6_quiet 46 _ rfl) (fun x5 => ?_)
    refine F_if_eq (tgt := 66) (by decide) (dk_X6_quiet 47 _ rfl) ?_ ?_
    · refine F_iinc (i := 2) (n := 1) (v := (y2 + 1)) (lv' := [(2, .int (y2 + 1)), (0, .ref 0), (1, .int y1)]) rfl (by first | rfl | decide) (by decide) rfl (dk_X6_quiet 66 _ rfl) ?_
      refine F_goto (tgt := 27) (by decide) (dk_X6_quiet 69 _ rfl) ?_
      exact F_loc (List.forall_mem_cons.mpr ⟨(.tail _ (.head _)), (List.forall_mem_cons.mpr ⟨(.tail _ (.tail _ (.head _))), (List.forall_mem_cons.mpr ⟨(.head _), (fun _ z => absurd z List.not_mem_nil)⟩)⟩)⟩) (hK27 _ _ _ )
    · refine F_iload_n (i := 1) (a := 1) rfl rfl (dk_X6_quiet 50 _ rfl) ?_
      refine F_iconst (v := 1) (by decide) (dk_X6_quiet 51 _ rfl) ?_
      refine F_aload_n (i := 0) (a := 0) rfl rfl (dk_X6_quiet 52 _ rfl) ?_
      refine F_gR (b := 41) fxX_6_4_0 fl_6_62 (dk_X6_quiet 53 _ rfl) ?_
      refine F_gR (b := 44) fxX_1_7_41 fl_6_94 (dk_X6_quiet 56 _ rfl) ?_
      refine F_iload_n (i := 2) (a := 2) rfl rfl (dk_X6_quiet 59 _ rfl) ?_
      refine F_iald (axX_0_44) (dk_X6_quiet 60 _ rfl) (fun x6 => ?_)
      refine F_ishl (dk_X6_quiet 61 _ rfl) ?_
      refine F_iconst (v := (-1)) (by decide) (dk_X6_quiet 62 _ rfl) ?_
      refine F_ixor (dk_X6_quiet 63 _ rfl) ?_
      refine F_iand (dk_X6_quiet 64 _ rfl) ?_
      refine F_nm (fun v7 => ?_)
      refine F_istore_n (lv' := [(1, .int v7), (0, .ref 0), (2, .int y2)]) (i := 1) (a := 1) rfl (by decide) rfl (dk_X6_quiet 65 _ rfl) ?_
      refine F_iinc (i := 2) (n := 1) (v := (y2 + 1)) (lv' := [(2, .int (y2 + 1)), (1, .int v7), (0, .ref 0)]) rfl (by first | rfl | decide) (by decide) rfl (dk_X6_quiet 66 _ rfl) ?_
      refine F_goto (tgt := 27) (by decide) (dk_X6_quiet 69 _ rfl) ?_
      exact F_loc (List.forall_mem_cons.mpr ⟨(.tail _ (.tail _ (.head _))), (List.forall_mem_cons.mpr ⟨(.tail _ (.head _)), (List.forall_mem_cons.mpr ⟨(.head _), (fun _ z => absurd z List.not_mem_nil)⟩)⟩)⟩) (hK27 _ _ _ )
theorem j_X6_quiet_27   : ∀ (F : Nat) (m : mM) (y1 : Int32) (y2 : Int32) , JF true uI m_X6_quiet 6 27 [(0, .ref 0), (1, .int y1), (2, .int y2)] [] m (f_X6_quiet_27  F m y1 y2) := by
  intro F
  induction F with
  | zero => intro m y1 y2 ; exact F_no
  | succ F ih => intro m y1 y2 ; exact jb_X6_quiet_27  (f_X6_quiet_27  F)  ih m y1 y2 
def f_X6_quiet (m : mM)  : fR Int32 :=
  chR true 5 (mR m 900) fun r1 => bnd (f_X1_start m 14 ((mI m (64 * r1 + 0)))) fun (x2 : Unit) (m3 : mM) => (f_X6_quiet_27  1000 m3 4095 0)
theorem c_X6_quiet (m : mM)   : cF true uI m_X6_quiet 6 [.ref 0] m (f_X6_quiet m ) := by
  refine cF_of ok_X6_quiet (fun _ _ => Nat.le_of_ble_eq_true rfl) ?_
  unfold f_X6_quiet
  show JF _ _ _ _ _ [(0, .ref 0)] _ _ _
  refine F_aload_n (i := 0) (a := 0) rfl rfl (dk_X6_quiet 0 _ rfl) ?_
  refine F_gR (b := 41) fxX_6_4_0 fl_6_62 (dk_X6_quiet 1 _ rfl) ?_
  refine F_aload_n (i := 0) (a := 0) rfl rfl (dk_X6_quiet 4 _ rfl) ?_
  refine F_gR (b := 14) fxX_6_0_0 fl_6_47 (dk_X6_quiet 5 _ rfl) ?_
  refine F_aload_n (i := 0) (a := 0) rfl rfl (dk_X6_quiet 8 _ rfl) ?_
  refine F_gR (b := 14) fxX_6_0_0 fl_6_47 (dk_X6_quiet 9 _ rfl) ?_
  refine F_gV (n := 900) fxX_2_4_14 rfl fl_6_83 (dk_X6_quiet 12 _ rfl) ?_
  refine F_ch (fun r1 hr1 => ?_)
  refine F_gI (n := (64 * r1 + 0)) (lyT_0 hr1) rfl fl_6_87 (dk_X6_quiet 15 _ rfl) ?_
  refine F_callV (ι' := uU) (ci := 1) (b := 41) (As := [.ref 14, .int (mI m (64 * r1 + 0))]) (d' := 5) (rfl) ok_X1_start vi_X1_start cl_6_90 (n := 2) (by decide +kernel) rfl rfl rfl (Nat.le_of_ble_eq_true rfl) (by omega) (dk_X6_quiet 18 _ rfl) (c_X1_start _ _ _ (rfl)) (fun x2 m3 => ?_)
  show JF _ _ _ _ _ _ [] _ _
  refine F_sipush (v := 4095) (by decide) (dk_X6_quiet 21 _ rfl) ?_
  refine F_istore_n (lv' := [(1, .int 4095), (0, .ref 0)]) (i := 1) (a := 1) rfl (by decide) rfl (dk_X6_quiet 24 _ rfl) ?_
  refine F_iconst (v := 0) (by decide) (dk_X6_quiet 25 _ rfl) ?_
  refine F_istore_n (lv' := [(2, .int 0), (1, .int 4095), (0, .ref 0)]) (i := 2) (a := 2) rfl (by decide) rfl (dk_X6_quiet 26 _ rfl) ?_
  exact F_loc (List.forall_mem_cons.mpr ⟨(.tail _ (.tail _ (.head _))), (List.forall_mem_cons.mpr ⟨(.tail _ (.head _)), (List.forall_mem_cons.mpr ⟨(.head _), (fun _ z => absurd z List.not_mem_nil)⟩)⟩)⟩) (j_X6_quiet_27   1000 _ _ _ )
def f_X6_foundling (m : mM) (p1 : Int32) (p2 : Int32) : fR Int32 :=
  (if p2 < 0 then some ((-10000001), m) else (if p2 ≤ 1 then bnd (f_X6_isDay m p1) fun (x1 : Int32) (m2 : mM) => (if x1 = 0 then some ((-10000002), m2) else (if (mI m2 896) < 7 then bnd (f_X2_copy m2 32 14) fun (x4 : Unit) (m5 : mM) => bnd (f_X2_add m5 32 0 0 0 p1) fun (x7 : Unit) (m8 : mM) => bnd (f_X6_bestOf m8 35 (((mI m8 2048) - 1)) p2) fun (x10 : Int32) (m11 : mM) => some (x10, m11) else some ((-9), m2))) else some ((-10000001), m)))
theorem c_X6_foundling (m : mM) (p1 : Int32) (p2 : Int32)  : cF true uI m_X6_foundling 9 [.ref 0, .int p1, .int p2] m (f_X6_foundling m p1 p2) := by
  refine cF_of ok_X6_foundling (fun _ _ => Nat.le_of_ble_eq_true rfl) ?_
  unfold f_X6_foundling
  show JF _ _ _ _ _ [(0, .ref 0), (1, .int p1), (2, .int p2)] _ _ _
  refine F_iload_n (i := 2) (a := 2) rfl rfl (dk_X6_foundling 0 _ rfl) ?_
  refine F_if_lt (tgt := 9) (by decide) (dk_X6_foundling 1 _ rfl) ?_ ?_
  · refine F_ldc (v := (-10000001)) ct_6_82 (dk_X6_foundling 9 _ rfl) ?_
    exact F_ret rfl (dk_X6_foundling 11 _ rfl)
  · refine F_iload_n (i := 2) (a := 2) rfl rfl (dk_X6_foundling 4 _ rfl) ?_
    refine F_iconst (v := 1) (by decide) (dk_X6_foundling 5 _ rfl) ?_
    refine F_icmp_le (tgt := 12) (by decide) (dk_X6_foundling 6 _ rfl) ?_ ?_
    · refine F_iload_n (i := 1) (a := 1) rfl rfl (dk_X6_foundling 12 _ rfl) ?_
      refine F_callS (ι' := uI) (As := [.int p1]) (d' := 2) ok_X6_isDay st_X6_isDay cl_6_67 rfl (n := 1) (by decide +kernel) rfl (Nat.le_of_ble_eq_true rfl) (by omega) (dk_X6_foundling 13 _ rfl) (c_X6_isDay _ _ ) (fun x1 m2 => ?_)
      show JF _ _ _ _ _ _ [.int x1] _ _
      refine F_if_ne (tgt := 22) (by decide) (dk_X6_foundling 16 _ rfl) ?_ ?_
      · refine F_aload_n (i := 0) (a := 0) rfl rfl (dk_X6_foundling 22 _ rfl) ?_
        refine F_gR (b := 14) fxX_6_0_0 fl_6_47 (dk_X6_foundling 23 _ rfl) ?_
        refine F_gI (n := 896) fxX_2_0_14 rfl fl_6_71 (dk_X6_foundling 26 _ rfl) ?_
        refine F_bipush (v := 7) (by decide) (dk_X6_foundling 29 _ rfl) ?_
        refine F_icmp_lt (tgt := 37) (by decide) (dk_X6_foundling 31 _ rfl) ?_ ?_
        · refine F_aload_n (i := 0) (a := 0) rfl rfl (dk_X6_foundling 37 _ rfl) ?_
          refine F_gR (b := 32) fxX_6_2_0 fl_6_54 (dk_X6_foundling 38 _ rfl) ?_
          refine F_aload_n (i := 0) (a := 0) rfl rfl (dk_X6_foundling 41 _ rfl) ?_
          refine F_gR (b := 14) fxX_6_0_0 fl_6_47 (dk_X6_foundling 42 _ rfl) ?_
          refine F_callV (ι' := uU) (ci := 2) (b := 32) (As := [.ref 14]) (d' := 2) (rfl) ok_X2_copy vi_X2_copy cl_6_185 (n := 1) (by decide +kernel) rfl rfl rfl (Nat.le_of_ble_eq_true rfl) (by omega) (dk_X6_foundling 45 _ rfl) (c_X2_copy _ _ _ (rfl) (rfl)) (fun x4 m5 => ?_)
          show JF _ _ _ _ _ _ [] _ _
          refine F_aload_n (i := 0) (a := 0) rfl rfl (dk_X6_foundling 48 _ rfl) ?_
          refine F_gR (b := 32) fxX_6_2_0 fl_6_54 (dk_X6_foundling 49 _ rfl) ?_
          refine F_iconst (v := 0) (by decide) (dk_X6_foundling 52 _ rfl) ?_
          refine F_iconst (v := 0) (by decide) (dk_X6_foundling 53 _ rfl) ?_
          refine F_iconst (v := 0) (by decide) (dk_X6_foundling 54 _ rfl) ?_
          refine F_iload_n (i := 1) (a := 1) rfl rfl (dk_X6_foundling 55 _ rfl) ?_
          refine F_callV (ι' := uU) (ci := 2) (b := 32) (As := [.int 0, .int 0, .int 0, .int p1]) (d' := 2) (rfl) ok_X2_add vi_X2_add cl_6_75 (n := 4) (by decide +kernel) rfl rfl rfl (Nat.le_of_ble_eq_true rfl) (by omega) (dk_X6_foundling 56 _ rfl) (c_X2_add _ _ _ _ _ _ (rfl)) (fun x7 m8 => ?_)
          show JF _ _ _ _ _ _ [] _ _
          refine F_aload_n (i := 0) (a := 0) rfl rfl (dk_X6_foundling 59 _ rfl) ?_
          refine F_aload_n (i := 0) (a := 0) rfl rfl (dk_X6_foundling 60 _ rfl) ?_
          refine F_gR (b := 32) fxX_6_2_0 fl_6_54 (dk_X6_foundling 61 _ rfl) ?_
          refine F_gR (b := 35) fxX_2_7_32 fl_6_103 (dk_X6_foundling 64 _ rfl) ?_
          refine F_aload_n (i := 0) (a := 0) rfl rfl (dk_X6_foundling 67 _ rfl) ?_
          refine F_gR (b := 32) fxX_6_2_0 fl_6_54 (dk_X6_foundling 68 _ rfl) ?_
          refine F_gI (n := 2048) fxX_2_0_32 rfl fl_6_71 (dk_X6_foundling 71 _ rfl) ?_
          refine F_iconst (v := 1) (by decide) (dk_X6_foundling 74 _ rfl) ?_
          refine F_isub (dk_X6_foundling 75 _ rfl) ?_
          refine F_iload_n (i := 2) (a := 2) rfl rfl (dk_X6_foundling 76 _ rfl) ?_
          refine F_callV (ι' := uI) (ci := 6) (b := 0) (As := [.ref 35, .int ((mI m8 2048) - 1), .int p2]) (d' := 8) (rfl) ok_X6_bestOf vi_X6_bestOf cl_6_188 (n := 3) (by decide +kernel) rfl rfl rfl (Nat.le_of_ble_eq_true rfl) (by omega) (dk_X6_foundling 77 _ rfl) (c_X6_bestOf _ _ _ _ (axX_0_35)) (fun x10 m11 => ?_)
          show JF _ _ _ _ _ _ [.int x10] _ _
          exact F_ret rfl (dk_X6_foundling 80 _ rfl)
        · refine F_bipush (v := (-9)) (by decide) (dk_X6_foundling 34 _ rfl) ?_
          exact F_ret rfl (dk_X6_foundling 36 _ rfl)
      · refine F_ldc (v := (-10000002)) ct_6_178 (dk_X6_foundling 19 _ rfl) ?_
        exact F_ret rfl (dk_X6_foundling 21 _ rfl)
    · refine F_ldc (v := (-10000001)) ct_6_82 (dk_X6_foundling 9 _ rfl) ?_
      exact F_ret rfl (dk_X6_foundling 11 _ rfl)
def fb_X6_forged_62 (K27 : mM → Int32 → Int32 → fR Int32) (K62 : mM → Int32 → Int32 → Int32 → fR Int32) (m : mM) (y1 : Int32) (y2 : Int32) (y3 : Int32) : fR Int32 :=
  (if 12 ≤ y3 then (K27 m y1 (y2 + 1)) else (gA (mA m 17) y2).bind fun x8 => (if y3 = x8 then (K62 m y1 y2 (y3 + 1)) else (gA (mA m 1) y3).bind fun x9 => (if x9 = y1 then some (((100 * y2) + y3), m) else (K62 m y1 y2 (y3 + 1)))))
def f_X6_forged_62 (K27 : mM → Int32 → Int32 → fR Int32) : Nat → mM → Int32 → Int32 → Int32 → fR Int32
  | 0, _, _, _, _ => none
  | F + 1, m, y1, y2, y3 => fb_X6_forged_62 K27 (f_X6_forged_62 K27 F) m y1 y2 y3
theorem jb_X6_forged_62 (K27 : mM → Int32 → Int32 → fR Int32) (K62 : mM → Int32 → Int32 → Int32 → fR Int32) (hK27 : ∀ (m : mM) (y1 : Int32) (y2 : Int32) , JF true uI m_X6_forged 8 27 [(0, .ref 0), (1, .int y1), (2, .int y2)] [] m (K27 m y1 y2)) (hK62 : ∀ (m : mM) (y1 : Int32) (y2 : Int32) (y3 : Int32) , JF true uI m_X6_forged 8 62 [(0, .ref 0), (1, .int y1), (2, .int y2), (3, .int y3)] [] m (K62 m y1 y2 y3)) (m : mM) (y1 : Int32) (y2 : Int32) (y3 : Int32)  : JF true uI m_X6_forged 8 62 [(0, .ref 0), (1, .int y1), (2, .int y2), (3, .int y3)] [] m (fb_X6_forged_62 K27 K62 m y1 y2 y3) := by
  unfold fb_X6_forged_62
  refine F_iload_n (i := 3) (a := 3) rfl rfl (dk_X6_forged 62 _ rfl) ?_
  refine F_bipush (v := 12) (by decide) (dk_X6_forged 63 _ rfl) ?_
  refine F_icmp_ge (tgt := 104) (by decide) (dk_X6_forged 65 _ rfl) ?_ ?_
  · refine F_iinc (i := 2) (n := 1) (v := (y2 + 1)) (lv' := [(2, .int (y2 + 1)), (0, .ref 0), (1, .int y1), (3, .int y3)]) rfl (by first | rfl | decide) (by decide) rfl (dk_X6_forged 104 _ rfl) ?_
    refine F_goto (tgt := 27) (by decide) (dk_X6_forged 107 _ rfl) ?_
    exact F_loc (List.forall_mem_cons.mpr ⟨(.tail _ (.head _)), (List.forall_mem_cons.mpr ⟨(.tail _ (.tail _ (.head _))), (List.forall_mem_cons.mpr ⟨(.head _), (fun _ z => absurd z List.not_mem_nil)⟩)⟩)⟩) (hK27 _ _ _ )
  · refine F_iload_n (i := 3) (a := 3) rfl rfl (dk_X6_forged 68 _ rfl) ?_
    refine F_aload_n (i := 0) (a := 0) rfl rfl (dk_X6_forged 69 _ rfl) ?_
    refine F_gR (b := 14) fxX_6_0_0 fl_6_47 (dk_X6_forged 70 _ rfl) ?_
    refine F_gR (b := 17) fxX_2_7_14 fl_6_103 (dk_X6_forged 73 _ rfl) ?_
    refine F_iload_n (i := 2) (a := 2) rfl rfl (dk_X6_forged 76 _ rfl) ?_
    refine F_iald (axX_0_17) (dk_X6_forged 77 _ rfl) (fun x8 => ?_)
    refine F_icmp_eq (tgt := 98) (by decide) (dk_X6_forged 78 _ rfl) ?_ ?_
    · refine F_iinc (i := 3) (n := 1) (v := (y3 + 1)) (lv' := [(3, .int (y3 + 1)), (0, .ref 0), (1, .int y1), (2, .int y2)]) rfl (by first | rfl | decide) (by decide) rfl (dk_X6_forged 98 _ rfl) ?_
      refine F_goto (tgt := 62) (by decide) (dk_X6_forged 101 _ rfl) ?_
      exact F_loc (List.forall_mem_cons.mpr ⟨(.tail _ (.head _)), (List.forall_mem_cons.mpr ⟨(.tail _ (.tail _ (.head _))), (List.forall_mem_cons.mpr ⟨(.tail _ (.tail _ (.tail _ (.head _)))), (List.forall_mem_cons.mpr ⟨(.head _), (fun _ z => absurd z List.not_mem_nil)⟩)⟩)⟩)⟩) (hK62 _ _ _ _ )
    · refine F_aload_n (i := 0) (a := 0) rfl rfl (dk_X6_forged 81 _ rfl) ?_
      refine F_gR (b := 1) fxX_6_5_0 fl_6_11 (dk_X6_forged 82 _ rfl) ?_
      refine F_iload_n (i := 3) (a := 3) rfl rfl (dk_X6_forged 85 _ rfl) ?_
      refine F_iald (axX_0_1) (dk_X6_forged 86 _ rfl) (fun x9 => ?_)
      refine F_iload_n (i := 1) (a := 1) rfl rfl (dk_X6_forged 87 _ rfl) ?_
      refine F_icmp_ne (tgt := 98) (by decide) (dk_X6_forged 88 _ rfl) ?_ ?_
      · refine F_iinc (i := 3) (n := 1) (v := (y3 + 1)) (lv' := [(3, .int (y3 + 1)), (0, .ref 0), (1, .int y1), (2, .int y2)]) rfl (by first | rfl | decide) (by decide) rfl (dk_X6_forged 98 _ rfl) ?_
        refine F_goto (tgt := 62) (by decide) (dk_X6_forged 101 _ rfl) ?_
        exact F_loc (List.forall_mem_cons.mpr ⟨(.tail _ (.head _)), (List.forall_mem_cons.mpr ⟨(.tail _ (.tail _ (.head _))), (List.forall_mem_cons.mpr ⟨(.tail _ (.tail _ (.tail _ (.head _)))), (List.forall_mem_cons.mpr ⟨(.head _), (fun _ z => absurd z List.not_mem_nil)⟩)⟩)⟩)⟩) (hK62 _ _ _ _ )
      · refine F_bipush (v := 100) (by decide) (dk_X6_forged 91 _ rfl) ?_
        refine F_iload_n (i := 2) (a := 2) rfl rfl (dk_X6_forged 93 _ rfl) ?_
        refine F_imul (dk_X6_forged 94 _ rfl) ?_
        refine F_iload_n (i := 3) (a := 3) rfl rfl (dk_X6_forged 95 _ rfl) ?_
        refine F_iadd (dk_X6_forged 96 _ rfl) ?_
        exact F_ret rfl (dk_X6_forged 97 _ rfl)
theorem j_X6_forged_62 (K27 : mM → Int32 → Int32 → fR Int32) (hK27 : ∀ (m : mM) (y1 : Int32) (y2 : Int32) , JF true uI m_X6_forged 8 27 [(0, .ref 0), (1, .int y1), (2, .int y2)] [] m (K27 m y1 y2)) : ∀ (F : Nat) (m : mM) (y1 : Int32) (y2 : Int32) (y3 : Int32) , JF true uI m_X6_forged 8 62 [(0, .ref 0), (1, .int y1), (2, .int y2), (3, .int y3)] [] m (f_X6_forged_62 K27 F m y1 y2 y3) := by
  intro F
  induction F with
  | zero => intro m y1 y2 y3 ; exact F_no
  | succ F ih => intro m y1 y2 y3 ; exact jb_X6_forged_62 K27 (f_X6_forged_62 K27 F) hK27 ih m y1 y2 y3 
def fb_X6_forged_27 (K27 : mM → Int32 → Int32 → fR Int32) (m : mM) (y1 : Int32) (y2 : Int32) : fR Int32 :=
  (if (mI m 896) ≤ y2 then some ((-5), m) else chR true 5 (mR m 900) fun r4 => bnd (f_X6_tryDays m 35 y2 ((mI m (64 * r4 + 0)))) fun (x5 : Unit) (m6 : mM) => (f_X6_forged_62 K27 1000 m6 y1 y2 0))
def f_X6_forged_27  : Nat → mM → Int32 → Int32 → fR Int32
  | 0, _, _, _ => none
  | F + 1, m, y1, y2 => fb_X6_forged_27  (f_X6_forged_27  F) m y1 y2
theorem jb_X6_forged_27 (K27 : mM → Int32 → Int32 → fR Int32) (hK27 : ∀ (m : mM) (y1 : Int32) (y2 : Int32) , JF true uI m_X6_forged 8 27 [(0, .ref 0), (1, .int y1), (2, .int y2)] [] m (K27 m y1 y2)) (m : mM) (y1 : Int32) (y2 : Int32)  : JF true uI m_X6_forged 8 27 [(0, .ref 0), (1, .int y1), (2, .int y2)] [] m (fb_X6_forged_27 K27 m y1 y2) := by
  unfold fb_X6_forged_27
  refine F_iload_n (i := 2) (a := 2) rfl rfl (dk_X6_forged 27 _ rfl) ?_
  refine F_aload_n (i := 0) (a := 0) rfl rfl (dk_X6_forged 28 _ rfl) ?_
  refine F_gR (b := 14) fxX_6_0_0 fl_6_47 (dk_X6_forged 29 _ rfl) ?_
  refine F_gI (n := 896) fxX_2_0_14 rfl fl_6_71 (dk_X6_forged 32 _ rfl) ?_
  refine F_icmp_ge (tgt := 110) (by decide) (dk_X6_forged 35 _ rfl) ?_ ?_
  · refine F_bipush (v := (-5)) (by decide) (dk_X6_forged 110 _ rfl) ?_
    exact F_ret rfl (dk_X6_forged 112 _ rfl)
  · refine F_aload_n (i := 0) (a := 0) rfl rfl (dk_X6_forged 38 _ rfl) ?_
    refine F_aload_n (i := 0) (a := 0) rfl rfl (dk_X6_forged 39 _ rfl) ?_
    refine F_gR (b := 32) fxX_6_2_0 fl_6_54 (dk_X6_forged 40 _ rfl) ?_
    refine F_gR (b := 35) fxX_2_7_32 fl_6_103 (dk_X6_forged 43 _ rfl) ?_
    refine F_iload_n (i := 2) (a := 2) rfl rfl (dk_X6_forged 46 _ rfl) ?_
    refine F_aload_n (i := 0) (a := 0) rfl rfl (dk_X6_forged 47 _ rfl) ?_
    refine F_gR (b := 14) fxX_6_0_0 fl_6_47 (dk_X6_forged 48 _ rfl) ?_
    refine F_gV (n := 900) fxX_2_4_14 rfl fl_6_83 (dk_X6_forged 51 _ rfl) ?_
    refine F_ch (fun r4 hr4 => ?_)
    refine F_gI (n := (64 * r4 + 0)) (lyT_0 hr4) rfl fl_6_87 (dk_X6_forged 54 _ rfl) ?_
    refine F_callV (ι' := uU) (ci := 6) (b := 0) (As := [.ref 35, .int y2, .int (mI m (64 * r4 + 0))]) (d' := 7) (rfl) ok_X6_tryDays vi_X6_tryDays cl_6_192 (n := 3) (by decide +kernel) rfl rfl rfl (Nat.le_of_ble_eq_true rfl) (by omega) (dk_X6_forged 57 _ rfl) (c_X6_tryDays _ _ _ _ (axX_0_35)) (fun x5 m6 => ?_)
    show JF _ _ _ _ _ _ [] _ _
    refine F_iconst (v := 0) (by decide) (dk_X6_forged 60 _ rfl) ?_
    refine F_istore_n (lv' := [(3, .int 0), (0, .ref 0), (1, .int y1), (2, .int y2)]) (i := 3) (a := 3) rfl (by decide) rfl (dk_X6_forged 61 _ rfl) ?_
    exact F_loc (List.forall_mem_cons.mpr ⟨(.tail _ (.head _)), (List.forall_mem_cons.mpr ⟨(.tail _ (.tail _ (.head _))), (List.forall_mem_cons.mpr ⟨(.tail _ (.tail _ (.tail _ (.head _)))), (List.forall_mem_cons.mpr ⟨(.head _), (fun _ z => absurd z List.not_mem_nil)⟩)⟩)⟩)⟩) (j_X6_forged_62 K27 hK27 1000 _ _ _ _ )
theorem j_X6_forged_27   : ∀ (F : Nat) (m : mM) (y1 : Int32) (y2 : Int32) , JF true uI m_X6_forged 8 27 [(0, .ref 0), (1, .int y1), (2, .int y2)] [] m (f_X6_forged_27  F m y1 y2) := by
  intro F
  induction F with
  | zero => intro m y1 y2 ; exact F_no
  | succ F ih => intro m y1 y2 ; exact jb_X6_forged_27  (f_X6_forged_27  F)  ih m y1 y2 
def f_X6_forged (m : mM) (p1 : Int32) : fR Int32 :=
  (if p1 < 0 then some ((-2), m) else (if p1 ≤ 10000 then bnd (f_X2_copy m 32 14) fun (x1 : Unit) (m2 : mM) => (f_X6_forged_27  1000 m2 p1 0) else some ((-2), m)))
theorem c_X6_forged (m : mM) (p1 : Int32)  : cF true uI m_X6_forged 8 [.ref 0, .int p1] m (f_X6_forged m p1) := by
  refine cF_of ok_X6_forged (fun _ _ => Nat.le_of_ble_eq_true rfl) ?_
  unfold f_X6_forged
  show JF _ _ _ _ _ [(0, .ref 0), (1, .int p1)] _ _ _
  refine F_iload_n (i := 1) (a := 1) rfl rfl (dk_X6_forged 0 _ rfl) ?_
  refine F_if_lt (tgt := 11) (by decide) (dk_X6_forged 1 _ rfl) ?_ ?_
  · refine F_bipush (v := (-2)) (by decide) (dk_X6_forged 11 _ rfl) ?_
    exact F_ret rfl (dk_X6_forged 13 _ rfl)
  · refine F_iload_n (i := 1) (a := 1) rfl rfl (dk_X6_forged 4 _ rfl) ?_
    refine F_sipush (v := 10000) (by decide) (dk_X6_forged 5 _ rfl) ?_
    refine F_icmp_le (tgt := 14) (by decide) (dk_X6_forged 8 _ rfl) ?_ ?_
    · refine F_aload_n (i := 0) (a := 0) rfl rfl (dk_X6_forged 14 _ rfl) ?_
      refine F_gR (b := 32) fxX_6_2_0 fl_6_54 (dk_X6_forged 15 _ rfl) ?_
      refine F_aload_n (i := 0) (a := 0) rfl rfl (dk_X6_forged 18 _ rfl) ?_
      refine F_gR (b := 14) fxX_6_0_0 fl_6_47 (dk_X6_forged 19 _ rfl) ?_
      refine F_callV (ι' := uU) (ci := 2) (b := 32) (As := [.ref 14]) (d' := 2) (rfl) ok_X2_copy vi_X2_copy cl_6_185 (n := 1) (by decide +kernel) rfl rfl rfl (Nat.le_of_ble_eq_true rfl) (by omega) (dk_X6_forged 22 _ rfl) (c_X2_copy _ _ _ (rfl) (rfl)) (fun x1 m2 => ?_)
      show JF _ _ _ _ _ _ [] _ _
      refine F_iconst (v := 0) (by decide) (dk_X6_forged 25 _ rfl) ?_
      refine F_istore_n (lv' := [(2, .int 0), (0, .ref 0), (1, .int p1)]) (i := 2) (a := 2) rfl (by decide) rfl (dk_X6_forged 26 _ rfl) ?_
      exact F_loc (List.forall_mem_cons.mpr ⟨(.tail _ (.head _)), (List.forall_mem_cons.mpr ⟨(.tail _ (.tail _ (.head _))), (List.forall_mem_cons.mpr ⟨(.head _), (fun _ z => absurd z List.not_mem_nil)⟩)⟩)⟩) (j_X6_forged_27   1000 _ _ _ )
    · refine F_bipush (v := (-2)) (by decide) (dk_X6_forged 11 _ rfl) ?_
      exact F_ret rfl (dk_X6_forged 13 _ rfl)
def f_X6_betterPlan (m : mM) (p1 : Int32) (p2 : Int32) : fR Int32 :=
  bnd (f_X6_tryDays m 36 p1 p2) fun (x1 : Unit) (m2 : mM) => bnd (f_X6_firstMost m2 ) fun (x4 : Int32) (m5 : mM) => (gA (mA m5 36) p1).bind fun x7 => (gA (mA m5 1) x4).bind fun x8 => (gA (mA m5 1) x7).bind fun x9 => (if x8 ≤ x9 then some (x7, m5) else some (x4, m5))
theorem c_X6_betterPlan (m : mM) (p1 : Int32) (p2 : Int32)  : cF true uI m_X6_betterPlan 8 [.ref 0, .int p1, .int p2] m (f_X6_betterPlan m p1 p2) := by
  refine cF_of ok_X6_betterPlan (fun _ _ => Nat.le_of_ble_eq_true rfl) ?_
  unfold f_X6_betterPlan
  show JF _ _ _ _ _ [(0, .ref 0), (1, .int p1), (2, .int p2)] _ _ _
  refine F_aload_n (i := 0) (a := 0) rfl rfl (dk_X6_betterPlan 0 _ rfl) ?_
  refine F_aload_n (i := 0) (a := 0) rfl rfl (dk_X6_betterPlan 1 _ rfl) ?_
  refine F_gR (b := 32) fxX_6_2_0 fl_6_54 (dk_X6_betterPlan 2 _ rfl) ?_
  refine F_gR (b := 36) fxX_2_8_32 fl_6_106 (dk_X6_betterPlan 5 _ rfl) ?_
  refine F_iload_n (i := 1) (a := 1) rfl rfl (dk_X6_betterPlan 8 _ rfl) ?_
  refine F_iload_n (i := 2) (a := 2) rfl rfl (dk_X6_betterPlan 9 _ rfl) ?_
  refine F_callV (ι' := uU) (ci := 6) (b := 0) (As := [.ref 36, .int p1, .int p2]) (d' := 7) (rfl) ok_X6_tryDays vi_X6_tryDays cl_6_192 (n := 3) (by decide +kernel) rfl rfl rfl (Nat.le_of_ble_eq_true rfl) (by omega) (dk_X6_betterPlan 10 _ rfl) (c_X6_tryDays _ _ _ _ (axX_0_36)) (fun x1 m2 => ?_)
  show JF _ _ _ _ _ _ [] _ _
  refine F_aload_n (i := 0) (a := 0) rfl rfl (dk_X6_betterPlan 13 _ rfl) ?_
  refine F_callV (ι' := uI) (ci := 6) (b := 0) (As := []) (d' := 2) (rfl) ok_X6_firstMost vi_X6_firstMost cl_6_269 (n := 0) (by decide +kernel) rfl rfl rfl (Nat.le_of_ble_eq_true rfl) (by omega) (dk_X6_betterPlan 14 _ rfl) (c_X6_firstMost _  ) (fun x4 m5 => ?_)
  show JF _ _ _ _ _ _ [.int x4] _ _
  refine F_istore_n (lv' := [(3, .int x4), (0, .ref 0), (1, .int p1), (2, .int p2)]) (i := 3) (a := 3) rfl (by decide) rfl (dk_X6_betterPlan 17 _ rfl) ?_
  refine F_aload_n (i := 0) (a := 0) rfl rfl (dk_X6_betterPlan 18 _ rfl) ?_
  refine F_gR (b := 32) fxX_6_2_0 fl_6_54 (dk_X6_betterPlan 19 _ rfl) ?_
  refine F_gR (b := 36) fxX_2_8_32 fl_6_106 (dk_X6_betterPlan 22 _ rfl) ?_
  refine F_iload_n (i := 1) (a := 1) rfl rfl (dk_X6_betterPlan 25 _ rfl) ?_
  refine F_iald (axX_0_36) (dk_X6_betterPlan 26 _ rfl) (fun x7 => ?_)
  refine F_istore (lv' := [(4, .int x7), (3, .int x4), (0, .ref 0), (1, .int p1), (2, .int p2)]) (i := 4) (by decide) rfl (dk_X6_betterPlan 27 _ rfl) ?_
  refine F_aload_n (i := 0) (a := 0) rfl rfl (dk_X6_betterPlan 29 _ rfl) ?_
  refine F_gR (b := 1) fxX_6_5_0 fl_6_11 (dk_X6_betterPlan 30 _ rfl) ?_
  refine F_iload_n (i := 3) (a := 3) rfl rfl (dk_X6_betterPlan 33 _ rfl) ?_
  refine F_iald (axX_0_1) (dk_X6_betterPlan 34 _ rfl) (fun x8 => ?_)
  refine F_aload_n (i := 0) (a := 0) rfl rfl (dk_X6_betterPlan 35 _ rfl) ?_
  refine F_gR (b := 1) fxX_6_5_0 fl_6_11 (dk_X6_betterPlan 36 _ rfl) ?_
  refine F_iload (i := 4) rfl (dk_X6_betterPlan 39 _ rfl) ?_
  refine F_iald (axX_0_1) (dk_X6_betterPlan 41 _ rfl) (fun x9 => ?_)
  refine F_icmp_le (tgt := 49) (by decide) (dk_X6_betterPlan 42 _ rfl) ?_ ?_
  · refine F_iload (i := 4) rfl (dk_X6_betterPlan 49 _ rfl) ?_
    exact F_ret rfl (dk_X6_betterPlan 51 _ rfl)
  · refine F_iload_n (i := 3) (a := 3) rfl rfl (dk_X6_betterPlan 45 _ rfl) ?_
    refine F_goto (tgt := 51) (by decide) (dk_X6_betterPlan 46 _ rfl) ?_
    exact F_ret rfl (dk_X6_betterPlan 51 _ rfl)
def f_X6_change (m : mM) (p1 : Int32) : fR Int32 :=
  bnd (f_X6_isPerson m p1) fun (x1 : Int32) (m2 : mM) => (if x1 = 0 then some ((-1), m2) else bnd (f_X2_copy m2 32 14) fun (x4 : Unit) (m5 : mM) => chR true 5 (mR m5 900) fun r7 => bnd (f_X6_betterPlan m5 p1 ((mI m5 (64 * r7 + 0)))) fun (x8 : Int32) (m9 : mM) => (gA (mA m9 18) p1).bind fun x11 => (if x8 = x11 then some (0, m9) else some (1, m9)))
theorem c_X6_change (m : mM) (p1 : Int32)  : cF true uI m_X6_change 9 [.ref 0, .int p1] m (f_X6_change m p1) := by
  refine cF_of ok_X6_change (fun _ _ => Nat.le_of_ble_eq_true rfl) ?_
  unfold f_X6_change
  show JF _ _ _ _ _ [(0, .ref 0), (1, .int p1)] _ _ _
  refine F_aload_n (i := 0) (a := 0) rfl rfl (dk_X6_change 0 _ rfl) ?_
  refine F_iload_n (i := 1) (a := 1) rfl rfl (dk_X6_change 1 _ rfl) ?_
  refine F_callV (ι' := uI) (ci := 6) (b := 0) (As := [.int p1]) (d' := 2) (rfl) ok_X6_isPerson vi_X6_isPerson cl_6_79 (n := 1) (by decide +kernel) rfl rfl rfl (Nat.le_of_ble_eq_true rfl) (by omega) (dk_X6_change 2 _ rfl) (c_X6_isPerson _ _ ) (fun x1 m2 => ?_)
  show JF _ _ _ _ _ _ [.int x1] _ _
  refine F_if_ne (tgt := 10) (by decide) (dk_X6_change 5 _ rfl) ?_ ?_
  · refine F_aload_n (i := 0) (a := 0) rfl rfl (dk_X6_change 10 _ rfl) ?_
    refine F_gR (b := 32) fxX_6_2_0 fl_6_54 (dk_X6_change 11 _ rfl) ?_
    refine F_aload_n (i := 0) (a := 0) rfl rfl (dk_X6_change 14 _ rfl) ?_
    refine F_gR (b := 14) fxX_6_0_0 fl_6_47 (dk_X6_change 15 _ rfl) ?_
    refine F_callV (ι' := uU) (ci := 2) (b := 32) (As := [.ref 14]) (d' := 2) (rfl) ok_X2_copy vi_X2_copy cl_6_185 (n := 1) (by decide +kernel) rfl rfl rfl (Nat.le_of_ble_eq_true rfl) (by omega) (dk_X6_change 18 _ rfl) (c_X2_copy _ _ _ (rfl) (rfl)) (fun x4 m5 => ?_)
    show JF _ _ _ _ _ _ [] _ _
    refine F_aload_n (i := 0) (a := 0) rfl rfl (dk_X6_change 21 _ rfl) ?_
    refine F_iload_n (i := 1) (a := 1) rfl rfl (dk_X6_change 22 _ rfl) ?_
    refine F_aload_n (i := 0) (a := 0) rfl rfl (dk_X6_change 23 _ rfl) ?_
    refine F_gR (b := 14) fxX_6_0_0 fl_6_47 (dk_X6_change 24 _ rfl) ?_
    refine F_gV (n := 900) fxX_2_4_14 rfl fl_6_83 (dk_X6_change 27 _ rfl) ?_
    refine F_ch (fun r7 hr7 => ?_)
    refine F_gI (n := (64 * r7 + 0)) (lyT_0 hr7) rfl fl_6_87 (dk_X6_change 30 _ rfl) ?_
    refine F_callV (ι' := uI) (ci := 6) (b := 0) (As := [.int p1, .int (mI m5 (64 * r7 + 0))]) (d' := 8) (rfl) ok_X6_betterPlan vi_X6_betterPlan cl_6_196 (n := 2) (by decide +kernel) rfl rfl rfl (Nat.le_of_ble_eq_true rfl) (by omega) (dk_X6_change 33 _ rfl) (c_X6_betterPlan _ _ _ ) (fun x8 m9 => ?_)
    show JF _ _ _ _ _ _ [.int x8] _ _
    refine F_aload_n (i := 0) (a := 0) rfl rfl (dk_X6_change 36 _ rfl) ?_
    refine F_gR (b := 14) fxX_6_0_0 fl_6_47 (dk_X6_change 37 _ rfl) ?_
    refine F_gR (b := 18) fxX_2_8_14 fl_6_106 (dk_X6_change 40 _ rfl) ?_
    refine F_iload_n (i := 1) (a := 1) rfl rfl (dk_X6_change 43 _ rfl) ?_
    refine F_iald (axX_0_18) (dk_X6_change 44 _ rfl) (fun x11 => ?_)
    refine F_icmp_eq (tgt := 52) (by decide) (dk_X6_change 45 _ rfl) ?_ ?_
    · refine F_iconst (v := 0) (by decide) (dk_X6_change 52 _ rfl) ?_
      exact F_ret rfl (dk_X6_change 53 _ rfl)
    · refine F_iconst (v := 1) (by decide) (dk_X6_change 48 _ rfl) ?_
      refine F_goto (tgt := 53) (by decide) (dk_X6_change 49 _ rfl) ?_
      exact F_ret rfl (dk_X6_change 53 _ rfl)
  · refine F_iconst (v := (-1)) (by decide) (dk_X6_change 8 _ rfl) ?_
    exact F_ret rfl (dk_X6_change 9 _ rfl)
def f_X6_rest_160  (m : mM) (y1 : Int32) (y2 : Int32) : fR Int32 :=
  (if y2 ≤ 8 then (if y1 = 0 then some (y2, m) else (gA (mA m 36) (y1 - 10)).bind fun x4 => some (x4, m)) else some ((-5), m))
theorem j_X6_rest_160   (m : mM) (y1 : Int32) (y2 : Int32)  : JF true uI m_X6_rest 9 160 [(0, .ref 0), (1, .int y1), (2, .int y2)] [] m (f_X6_rest_160  m y1 y2) := by
  unfold f_X6_rest_160
  refine F_iload_n (i := 2) (a := 2) rfl rfl (dk_X6_rest 160 _ rfl) ?_
  refine F_bipush (v := 8) (by decide) (dk_X6_rest 161 _ rfl) ?_
  refine F_icmp_le (tgt := 169) (by decide) (dk_X6_rest 163 _ rfl) ?_ ?_
  · refine F_iload_n (i := 1) (a := 1) rfl rfl (dk_X6_rest 169 _ rfl) ?_
    refine F_if_ne (tgt := 177) (by decide) (dk_X6_rest 170 _ rfl) ?_ ?_
    · refine F_aload_n (i := 0) (a := 0) rfl rfl (dk_X6_rest 177 _ rfl) ?_
      refine F_gR (b := 32) fxX_6_2_0 fl_6_54 (dk_X6_rest 178 _ rfl) ?_
      refine F_gR (b := 36) fxX_2_8_32 fl_6_106 (dk_X6_rest 181 _ rfl) ?_
      refine F_iload_n (i := 1) (a := 1) rfl rfl (dk_X6_rest 184 _ rfl) ?_
      refine F_bipush (v := 10) (by decide) (dk_X6_rest 185 _ rfl) ?_
      refine F_isub (dk_X6_rest 187 _ rfl) ?_
      refine F_iald (axX_0_36) (dk_X6_rest 188 _ rfl) (fun x4 => ?_)
      exact F_ret rfl (dk_X6_rest 189 _ rfl)
    · refine F_iload_n (i := 2) (a := 2) rfl rfl (dk_X6_rest 173 _ rfl) ?_
      refine F_goto (tgt := 189) (by decide) (dk_X6_rest 174 _ rfl) ?_
      exact F_ret rfl (dk_X6_rest 189 _ rfl)
  · refine F_bipush (v := (-5)) (by decide) (dk_X6_rest 166 _ rfl) ?_
    exact F_ret rfl (dk_X6_rest 168 _ rfl)
def f_X6_rest_114 (K44 : mM → Int32 → Int32 → Int32 → Int32 → fR Int32) (K60 : mM → Int32 → Int32 → Int32 → Int32 → Int32 → fR Int32) (m : mM) (y1 : Int32) (y2 : Int32) (y3 : Int32) (y4 : Int32) (y5 : Int32) (y100 : Int32) : fR Int32 :=
  (gA (mA m 36) y5).bind fun x7 => (if y100 = x7 then (K60 m y1 y2 y3 y4 (y5 + 1)) else (sA 0 m 36 y5 y100).bind fun m8 => (K60 m8 y1 (y2 + 1) 0 y4 (y5 + 1)))
theorem j_X6_rest_114 (K44 : mM → Int32 → Int32 → Int32 → Int32 → fR Int32) (K60 : mM → Int32 → Int32 → Int32 → Int32 → Int32 → fR Int32) (hK44 : ∀ (m : mM) (y1 : Int32) (y2 : Int32) (y3 : Int32) (y4 : Int32) , JF true uI m_X6_rest 9 44 [(0, .ref 0), (1, .int y1), (2, .int y2), (3, .int y3), (4, .int y4)] [] m (K44 m y1 y2 y3 y4)) (hK60 : ∀ (m : mM) (y1 : Int32) (y2 : Int32) (y3 : Int32) (y4 : Int32) (y5 : Int32) , JF true uI m_X6_rest 9 60 [(0, .ref 0), (1, .int y1), (2, .int y2), (3, .int y3), (4, .int y4), (5, .int y5)] [] m (K60 m y1 y2 y3 y4 y5)) (m : mM) (y1 : Int32) (y2 : Int32) (y3 : Int32) (y4 : Int32) (y5 : Int32) (y100 : Int32)  : JF true uI m_X6_rest 9 114 [(0, .ref 0), (1, .int y1), (2, .int y2), (3, .int y3), (4, .int y4), (5, .int y5)] [.int y100] m (f_X6_rest_114 K44 K60 m y1 y2 y3 y4 y5 y100) := by
  unfold f_X6_rest_114
  refine F_istore (lv' := [(6, .int y100), (0, .ref 0), (1, .int y1), (2, .int y2), (3, .int y3), (4, .int y4), (5, .int y5)]) (i := 6) (by decide) rfl (dk_X6_rest 114 _ rfl) ?_
  refine F_iload (i := 6) rfl (dk_X6_rest 116 _ rfl) ?_
  refine F_aload_n (i := 0) (a := 0) rfl rfl (dk_X6_rest 118 _ rfl) ?_
  refine F_gR (b := 32) fxX_6_2_0 fl_6_54 (dk_X6_rest 119 _ rfl) ?_
  refine F_gR (b := 36) fxX_2_8_32 fl_6_106 (dk_X6_rest 122 _ rfl) ?_
  refine F_iload (i := 5) rfl (dk_X6_rest 125 _ rfl) ?_
  refine F_iald (axX_0_36) (dk_X6_rest 127 _ rfl) (fun x7 => ?_)
  refine F_icmp_eq (tgt := 148) (by decide) (dk_X6_rest 128 _ rfl) ?_ ?_
  · refine F_iinc (i := 5) (n := 1) (v := (y5 + 1)) (lv' := [(5, .int (y5 + 1)), (6, .int y100), (0, .ref 0), (1, .int y1), (2, .int y2), (3, .int y3), (4, .int y4)]) rfl (by first | rfl | decide) (by decide) rfl (dk_X6_rest 148 _ rfl) ?_
    refine F_goto (tgt := 60) (by decide) (dk_X6_rest 151 _ rfl) ?_
    exact F_loc (List.forall_mem_cons.mpr ⟨(.tail _ (.tail _ (.head _))), (List.forall_mem_cons.mpr ⟨(.tail _ (.tail _ (.tail _ (.head _)))), (List.forall_mem_cons.mpr ⟨(.tail _ (.tail _ (.tail _ (.tail _ (.head _))))), (List.forall_mem_cons.mpr ⟨(.tail _ (.tail _ (.tail _ (.tail _ (.tail _ (.head _)))))), (List.forall_mem_cons.mpr ⟨(.tail _ (.tail _ (.tail _ (.tail _ (.tail _ (.tail _ (.head _))))))), (List.forall_mem_cons.mpr ⟨(.head _), (fun _ z => absurd z List.not_mem_nil)⟩)⟩)⟩)⟩)⟩)⟩) (hK60 _ _ _ _ _ _ )
  · refine F_aload_n (i := 0) (a := 0) rfl rfl (dk_X6_rest 131 _ rfl) ?_
    refine F_gR (b := 32) fxX_6_2_0 fl_6_54 (dk_X6_rest 132 _ rfl) ?_
    refine F_gR (b := 36) fxX_2_8_32 fl_6_106 (dk_X6_rest 135 _ rfl) ?_
    refine F_iload (i := 5) rfl (dk_X6_rest 138 _ rfl) ?_
    refine F_iload (i := 6) rfl (dk_X6_rest 140 _ rfl) ?_
    refine F_iast (axX_0_36) (dk_X6_rest 142 _ rfl) (fun m8 => ?_)
    refine F_iinc (i := 2) (n := 1) (v := (y2 + 1)) (lv' := [(2, .int (y2 + 1)), (6, .int y100), (0, .ref 0), (1, .int y1), (3, .int y3), (4, .int y4), (5, .int y5)]) rfl (by first | rfl | decide) (by decide) rfl (dk_X6_rest 143 _ rfl) ?_
    refine F_iconst (v := 0) (by decide) (dk_X6_rest 146 _ rfl) ?_
    refine F_istore_n (lv' := [(3, .int 0), (2, .int (y2 + 1)), (6, .int y100), (0, .ref 0), (1, .int y1), (4, .int y4), (5, .int y5)]) (i := 3) (a := 3) rfl (by decide) rfl (dk_X6_rest 147 _ rfl) ?_
    refine F_iinc (i := 5) (n := 1) (v := (y5 + 1)) (lv' := [(5, .int (y5 + 1)), (3, .int 0), (2, .int (y2 + 1)), (6, .int y100), (0, .ref 0), (1, .int y1), (4, .int y4)]) rfl (by first | rfl | decide) (by decide) rfl (dk_X6_rest 148 _ rfl) ?_
    refine F_goto (tgt := 60) (by decide) (dk_X6_rest 151 _ rfl) ?_
    exact F_loc (List.forall_mem_cons.mpr ⟨(.tail _ (.tail _ (.tail _ (.tail _ (.head _))))), (List.forall_mem_cons.mpr ⟨(.tail _ (.tail _ (.tail _ (.tail _ (.tail _ (.head _)))))), (List.forall_mem_cons.mpr ⟨(.tail _ (.tail _ (.head _))), (List.forall_mem_cons.mpr ⟨(.tail _ (.head _)), (List.forall_mem_cons.mpr ⟨(.tail _ (.tail _ (.tail _ (.tail _ (.tail _ (.tail _ (.head _))))))), (List.forall_mem_cons.mpr ⟨(.head _), (fun _ z => absurd z List.not_mem_nil)⟩)⟩)⟩)⟩)⟩)⟩) (hK60 _ _ _ _ _ _ )
def fb_X6_rest_60 (K44 : mM → Int32 → Int32 → Int32 → Int32 → fR Int32) (K60 : mM → Int32 → Int32 → Int32 → Int32 → Int32 → fR Int32) (m : mM) (y1 : Int32) (y2 : Int32) (y3 : Int32) (y4 : Int32) (y5 : Int32) : fR Int32 :=
  (if (mI m 2048) ≤ y5 then (K44 m y1 y2 y3 (y4 + 1)) else (gA (mA m 38) y5).bind fun x5 => (if x5 = 0 then (gA (mA m 36) y5).bind fun x6 => (f_X6_rest_114 K44 K60 m y1 y2 y3 y4 y5 x6) else chR true 5 (mR m 2052) fun r9 => bnd (f_X6_betterPlan m y5 ((mI m (64 * r9 + 0)))) fun (x10 : Int32) (m11 : mM) => (f_X6_rest_114 K44 K60 m11 y1 y2 y3 y4 y5 x10)))
def f_X6_rest_60 (K44 : mM → Int32 → Int32 → Int32 → Int32 → fR Int32) : Nat → mM → Int32 → Int32 → Int32 → Int32 → Int32 → fR Int32
  | 0, _, _, _, _, _, _ => none
  | F + 1, m, y1, y2, y3, y4, y5 => fb_X6_rest_60 K44 (f_X6_rest_60 K44 F) m y1 y2 y3 y4 y5
theorem jb_X6_rest_60 (K44 : mM → Int32 → Int32 → Int32 → Int32 → fR Int32) (K60 : mM → Int32 → Int32 → Int32 → Int32 → Int32 → fR Int32) (hK44 : ∀ (m : mM) (y1 : Int32) (y2 : Int32) (y3 : Int32) (y4 : Int32) , JF true uI m_X6_rest 9 44 [(0, .ref 0), (1, .int y1), (2, .int y2), (3, .int y3), (4, .int y4)] [] m (K44 m y1 y2 y3 y4)) (hK60 : ∀ (m : mM) (y1 : Int32) (y2 : Int32) (y3 : Int32) (y4 : Int32) (y5 : Int32) , JF true uI m_X6_rest 9 60 [(0, .ref 0), (1, .int y1), (2, .int y2), (3, .int y3), (4, .int y4), (5, .int y5)] [] m (K60 m y1 y2 y3 y4 y5)) (m : mM) (y1 : Int32) (y2 : Int32) (y3 : Int32) (y4 : Int32) (y5 : Int32)  : JF true uI m_X6_rest 9 60 [(0, .ref 0), (1, .int y1), (2, .int y2), (3, .int y3), (4, .int y4), (5, .int y5)] [] m (fb_X6_rest_60 K44 K60 m y1 y2 y3 y4 y5) := by
  unfold fb_X6_rest_60
  refine F_iload (i := 5) rfl (dk_X6_rest 60 _ rfl) ?_
  refine F_aload_n (i := 0) (a := 0) rfl rfl (dk_X6_rest 62 _ rfl) ?_
  refine F_gR (b := 32) fxX_6_2_0 fl_6_54 (dk_X6_rest 63 _ rfl) ?_
  refine F_gI (n := 2048) fxX_2_0_32 rfl fl_6_71 (dk_X6_rest 66 _ rfl) ?_
  refine F_icmp_ge (tgt := 154) (by decide) (dk_X6_rest 69 _ rfl) ?_ ?_
  · refine F_iinc (i := 4) (n := 1) (v := (y4 + 1)) (lv' := [(4, .int (y4 + 1)), (0, .ref 0), (1, .int y1), (2, .int y2), (3, .int y3), (5, .int y5)]) rfl (by first | rfl | decide) (by decide) rfl (dk_X6_rest 154 _ rfl) ?_
    refine F_goto (tgt := 44) (by decide) (dk_X6_rest 157 _ rfl) ?_
    exact F_loc (List.forall_mem_cons.mpr ⟨(.tail _ (.head _)), (List.forall_mem_cons.mpr ⟨(.tail _ (.tail _ (.head _))), (List.forall_mem_cons.mpr ⟨(.tail _ (.tail _ (.tail _ (.head _)))), (List.forall_mem_cons.mpr ⟨(.tail _ (.tail _ (.tail _ (.tail _ (.head _))))), (List.forall_mem_cons.mpr ⟨(.head _), (fun _ z => absurd z List.not_mem_nil)⟩)⟩)⟩)⟩)⟩) (hK44 _ _ _ _ _ )
  · refine F_aload_n (i := 0) (a := 0) rfl rfl (dk_X6_rest 72 _ rfl) ?_
    refine F_gR (b := 32) fxX_6_2_0 fl_6_54 (dk_X6_rest 73 _ rfl) ?_
    refine F_gR (b := 38) fxX_2_10_32 fl_6_109 (dk_X6_rest 76 _ rfl) ?_
    refine F_iload (i := 5) rfl (dk_X6_rest 79 _ rfl) ?_
    refine F_zald (axX_3_38) (dk_X6_rest 81 _ rfl) (fun x5 => ?_)
    refine F_if_eq (tgt := 104) (by decide) (dk_X6_rest 82 _ rfl) ?_ ?_
    · refine F_aload_n (i := 0) (a := 0) rfl rfl (dk_X6_rest 104 _ rfl) ?_
      refine F_gR (b := 32) fxX_6_2_0 fl_6_54 (dk_X6_rest 105 _ rfl) ?_
      refine F_gR (b := 36) fxX_2_8_32 fl_6_106 (dk_X6_rest 108 _ rfl) ?_
      refine F_iload (i := 5) rfl (dk_X6_rest 111 _ rfl) ?_
      refine F_iald (axX_0_36) (dk_X6_rest 113 _ rfl) (fun x6 => ?_)
      exact F_loc (fun _ z => z) (j_X6_rest_114 K44 K60 hK44 hK60 _ _ _ _ _ _ _ )
    · refine F_aload_n (i := 0) (a := 0) rfl rfl (dk_X6_rest 85 _ rfl) ?_
      refine F_iload (i := 5) rfl (dk_X6_rest 86 _ rfl) ?_
      refine F_aload_n (i := 0) (a := 0) rfl rfl (dk_X6_rest 88 _ rfl) ?_
      refine F_gR (b := 32) fxX_6_2_0 fl_6_54 (dk_X6_rest 89 _ rfl) ?_
      refine F_gV (n := 2052) fxX_2_4_32 rfl fl_6_83 (dk_X6_rest 92 _ rfl) ?_
      refine F_ch (fun r9 hr9 => ?_)
      refine F_gI (n := (64 * r9 + 0)) (lyT_0 hr9) rfl fl_6_87 (dk_X6_rest 95 _ rfl) ?_
      refine F_callV (ι' := uI) (ci := 6) (b := 0) (As := [.int y5, .int (mI m (64 * r9 + 0))]) (d' := 8) (rfl) ok_X6_betterPlan vi_X6_betterPlan cl_6_196 (n := 2) (by decide +kernel) rfl rfl rfl (Nat.le_of_ble_eq_true rfl) (by omega) (dk_X6_rest 98 _ rfl) (c_X6_betterPlan _ _ _ ) (fun x10 m11 => ?_)
      show JF _ _ _ _ _ _ [.int x10] _ _
      refine F_goto (tgt := 114) (by decide) (dk_X6_rest 101 _ rfl) ?_
      exact F_loc (fun _ z => z) (j_X6_rest_114 K44 K60 hK44 hK60 _ _ _ _ _ _ _ )
theorem j_X6_rest_60 (K44 : mM → Int32 → Int32 → Int32 → Int32 → fR Int32) (hK44 : ∀ (m : mM) (y1 : Int32) (y2 : Int32) (y3 : Int32) (y4 : Int32) , JF true uI m_X6_rest 9 44 [(0, .ref 0), (1, .int y1), (2, .int y2), (3, .int y3), (4, .int y4)] [] m (K44 m y1 y2 y3 y4)) : ∀ (F : Nat) (m : mM) (y1 : Int32) (y2 : Int32) (y3 : Int32) (y4 : Int32) (y5 : Int32) , JF true uI m_X6_rest 9 60 [(0, .ref 0), (1, .int y1), (2, .int y2), (3, .int y3), (4, .int y4), (5, .int y5)] [] m (f_X6_rest_60 K44 F m y1 y2 y3 y4 y5) := by
  intro F
  induction F with
  | zero => intro m y1 y2 y3 y4 y5 ; exact F_no
  | succ F ih => intro m y1 y2 y3 y4 y5 ; exact jb_X6_rest_60 K44 (f_X6_rest_60 K44 F) hK44 ih m y1 y2 y3 y4 y5 
def fb_X6_rest_44 (K44 : mM → Int32 → Int32 → Int32 → Int32 → fR Int32) (m : mM) (y1 : Int32) (y2 : Int32) (y3 : Int32) (y4 : Int32) : fR Int32 :=
  (if 8 < y4 then (f_X6_rest_160  m y1 y2) else (if y3 = 0 then (f_X6_rest_60 K44 1000 m y1 y2 1 y4 0) else (f_X6_rest_160  m y1 y2)))
def f_X6_rest_44  : Nat → mM → Int32 → Int32 → Int32 → Int32 → fR Int32
  | 0, _, _, _, _, _ => none
  | F + 1, m, y1, y2, y3, y4 => fb_X6_rest_44  (f_X6_rest_44  F) m y1 y2 y3 y4
theorem jb_X6_rest_44 (K44 : mM → Int32 → Int32 → Int32 → Int32 → fR Int32) (hK44 : ∀ (m : mM) (y1 : Int32) (y2 : Int32) (y3 : Int32) (y4 : Int32) , JF true uI m_X6_rest 9 44 [(0, .ref 0), (1, .int y1), (2, .int y2), (3, .int y3), (4, .int y4)] [] m (K44 m y1 y2 y3 y4)) (m : mM) (y1 : Int32) (y2 : Int32) (y3 : Int32) (y4 : Int32)  : JF true uI m_X6_rest 9 44 [(0, .ref 0), (1, .int y1), (2, .int y2), (3, .int y3), (4, .int y4)] [] m (fb_X6_rest_44 K44 m y1 y2 y3 y4) := by
  unfold fb_X6_rest_44
  refine F_iload (i := 4) rfl (dk_X6_rest 44 _ rfl) ?_
  refine F_bipush (v := 8) (by decide) (dk_X6_rest 46 _ rfl) ?_
  refine F_icmp_gt (tgt := 160) (by decide) (dk_X6_rest 48 _ rfl) ?_ ?_
  · exact F_loc (List.forall_mem_cons.mpr ⟨(.head _), (List.forall_mem_cons.mpr ⟨(.tail _ (.head _)), (List.forall_mem_cons.mpr ⟨(.tail _ (.tail _ (.head _))), (fun _ z => absurd z List.not_mem_nil)⟩)⟩)⟩) (j_X6_rest_160   _ _ _ )
  · refine F_iload_n (i := 3) (a := 3) rfl rfl (dk_X6_rest 51 _ rfl) ?_
    refine F_if_ne (tgt := 160) (by decide) (dk_X6_rest 52 _ rfl) ?_ ?_
    · exact F_loc (List.forall_mem_cons.mpr ⟨(.head _), (List.forall_mem_cons.mpr ⟨(.tail _ (.head _)), (List.forall_mem_cons.mpr ⟨(.tail _ (.tail _ (.head _))), (fun _ z => absurd z List.not_mem_nil)⟩)⟩)⟩) (j_X6_rest_160   _ _ _ )
    · refine F_iconst (v := 1) (by decide) (dk_X6_rest 55 _ rfl) ?_
      refine F_istore_n (lv' := [(3, .int 1), (0, .ref 0), (1, .int y1), (2, .int y2), (4, .int y4)]) (i := 3) (a := 3) rfl (by decide) rfl (dk_X6_rest 56 _ rfl) ?_
      refine F_iconst (v := 0) (by decide) (dk_X6_rest 57 _ rfl) ?_
      refine F_istore (lv' := [(5, .int 0), (3, .int 1), (0, .ref 0), (1, .int y1), (2, .int y2), (4, .int y4)]) (i := 5) (by decide) rfl (dk_X6_rest 58 _ rfl) ?_
      exact F_loc (List.forall_mem_cons.mpr ⟨(.tail _ (.tail _ (.head _))), (List.forall_mem_cons.mpr ⟨(.tail _ (.tail _ (.tail _ (.head _)))), (List.forall_mem_cons.mpr ⟨(.tail _ (.tail _ (.tail _ (.tail _ (.head _))))), (List.forall_mem_cons.mpr ⟨(.tail _ (.head _)), (List.forall_mem_cons.mpr ⟨(.tail _ (.tail _ (.tail _ (.tail _ (.tail _ (.head _)))))), (List.forall_mem_cons.mpr ⟨(.head _), (fun _ z => absurd z List.not_mem_nil)⟩)⟩)⟩)⟩)⟩)⟩) (j_X6_rest_60 K44 hK44 1000 _ _ _ _ _ _ )
theorem j_X6_rest_44   : ∀ (F : Nat) (m : mM) (y1 : Int32) (y2 : Int32) (y3 : Int32) (y4 : Int32) , JF true uI m_X6_rest 9 44 [(0, .ref 0), (1, .int y1), (2, .int y2), (3, .int y3), (4, .int y4)] [] m (f_X6_rest_44  F m y1 y2 y3 y4) := by
  intro F
  induction F with
  | zero => intro m y1 y2 y3 y4 ; exact F_no
  | succ F ih => intro m y1 y2 y3 y4 ; exact jb_X6_rest_44  (f_X6_rest_44  F)  ih m y1 y2 y3 y4 
def f_X6_rest_26  (m : mM) (y1 : Int32) : fR Int32 :=
  bnd (f_X2_copy m 32 14) fun (x1 : Unit) (m2 : mM) => (f_X6_rest_44  1000 m2 y1 0 0 0)
theorem j_X6_rest_26   (m : mM) (y1 : Int32)  : JF true uI m_X6_rest 9 26 [(0, .ref 0), (1, .int y1)] [] m (f_X6_rest_26  m y1) := by
  unfold f_X6_rest_26
  refine F_iconst (v := 0) (by decide) (dk_X6_rest 26 _ rfl) ?_
  refine F_istore_n (lv' := [(2, .int 0), (0, .ref 0), (1, .int y1)]) (i := 2) (a := 2) rfl (by decide) rfl (dk_X6_rest 27 _ rfl) ?_
  refine F_iconst (v := 0) (by decide) (dk_X6_rest 28 _ rfl) ?_
  refine F_istore_n (lv' := [(3, .int 0), (2, .int 0), (0, .ref 0), (1, .int y1)]) (i := 3) (a := 3) rfl (by decide) rfl (dk_X6_rest 29 _ rfl) ?_
  refine F_aload_n (i := 0) (a := 0) rfl rfl (dk_X6_rest 30 _ rfl) ?_
  refine F_gR (b := 32) fxX_6_2_0 fl_6_54 (dk_X6_rest 31 _ rfl) ?_
  refine F_aload_n (i := 0) (a := 0) rfl rfl (dk_X6_rest 34 _ rfl) ?_
  refine F_gR (b := 14) fxX_6_0_0 fl_6_47 (dk_X6_rest 35 _ rfl) ?_
  refine F_callV (ι' := uU) (ci := 2) (b := 32) (As := [.ref 14]) (d' := 2) (rfl) ok_X2_copy vi_X2_copy cl_6_185 (n := 1) (by decide +kernel) rfl rfl rfl (Nat.le_of_ble_eq_true rfl) (by omega) (dk_X6_rest 38 _ rfl) (c_X2_copy _ _ _ (rfl) (rfl)) (fun x1 m2 => ?_)
  show JF _ _ _ _ _ _ [] _ _
  refine F_iconst (v := 0) (by decide) (dk_X6_rest 41 _ rfl) ?_
  refine F_istore (lv' := [(4, .int 0), (3, .int 0), (2, .int 0), (0, .ref 0), (1, .int y1)]) (i := 4) (by decide) rfl (dk_X6_rest 42 _ rfl) ?_
  exact F_loc (List.forall_mem_cons.mpr ⟨(.tail _ (.tail _ (.tail _ (.head _)))), (List.forall_mem_cons.mpr ⟨(.tail _ (.tail _ (.tail _ (.tail _ (.head _))))), (List.forall_mem_cons.mpr ⟨(.tail _ (.tail _ (.head _))), (List.forall_mem_cons.mpr ⟨(.tail _ (.head _)), (List.forall_mem_cons.mpr ⟨(.head _), (fun _ z => absurd z List.not_mem_nil)⟩)⟩)⟩)⟩)⟩) (j_X6_rest_44   1000 _ _ _ _ _ )
def f_X6_rest (m : mM) (p1 : Int32) : fR Int32 :=
  (if p1 = 0 then (f_X6_rest_26  m p1) else (if p1 < 10 then some ((-1), m) else (if (p1 - 10) < (mI m 896) then (f_X6_rest_26  m p1) else some ((-1), m))))
theorem c_X6_rest (m : mM) (p1 : Int32)  : cF true uI m_X6_rest 9 [.ref 0, .int p1] m (f_X6_rest m p1) := by
  refine cF_of ok_X6_rest (fun _ _ => Nat.le_of_ble_eq_true rfl) ?_
  unfold f_X6_rest
  show JF _ _ _ _ _ [(0, .ref 0), (1, .int p1)] _ _ _
  refine F_iload_n (i := 1) (a := 1) rfl rfl (dk_X6_rest 0 _ rfl) ?_
  refine F_if_eq (tgt := 26) (by decide) (dk_X6_rest 1 _ rfl) ?_ ?_
  · exact F_loc (fun _ z => z) (j_X6_rest_26   _ _ )
  · refine F_iload_n (i := 1) (a := 1) rfl rfl (dk_X6_rest 4 _ rfl) ?_
    refine F_bipush (v := 10) (by decide) (dk_X6_rest 5 _ rfl) ?_
    refine F_icmp_lt (tgt := 24) (by decide) (dk_X6_rest 7 _ rfl) ?_ ?_
    · refine F_iconst (v := (-1)) (by decide) (dk_X6_rest 24 _ rfl) ?_
      exact F_ret rfl (dk_X6_rest 25 _ rfl)
    · refine F_iload_n (i := 1) (a := 1) rfl rfl (dk_X6_rest 10 _ rfl) ?_
      refine F_bipush (v := 10) (by decide) (dk_X6_rest 11 _ rfl) ?_
      refine F_isub (dk_X6_rest 13 _ rfl) ?_
      refine F_aload_n (i := 0) (a := 0) rfl rfl (dk_X6_rest 14 _ rfl) ?_
      refine F_gR (b := 14) fxX_6_0_0 fl_6_47 (dk_X6_rest 15 _ rfl) ?_
      refine F_gI (n := 896) fxX_2_0_14 rfl fl_6_71 (dk_X6_rest 18 _ rfl) ?_
      refine F_icmp_lt (tgt := 26) (by decide) (dk_X6_rest 21 _ rfl) ?_ ?_
      · exact F_loc (fun _ z => z) (j_X6_rest_26   _ _ )
      · refine F_iconst (v := (-1)) (by decide) (dk_X6_rest 24 _ rfl) ?_
        exact F_ret rfl (dk_X6_rest 25 _ rfl)
def fb_X6_gainOfOthers_5 (K5 : mM → Nat → Int32 → Int32 → Int32 → fR Int32) (m : mM) (y1 : Nat) (y2 : Int32) (y3 : Int32) (y4 : Int32) : fR Int32 :=
  (if (mI m (64 * y1 + 0)) ≤ y4 then some (y3, m) else (if y4 = y2 then (K5 m y1 y2 y3 (y4 + 1)) else (gA (mA m (y1 + 6)) y4).bind fun x1 => (if x1 = 0 then (K5 m y1 y2 y3 (y4 + 1)) else (gA (mA m 42) y4).bind fun x2 => nmI (y3 + x2) fun v3 => (K5 m y1 y2 v3 (y4 + 1)))))
def f_X6_gainOfOthers_5  : Nat → mM → Nat → Int32 → Int32 → Int32 → fR Int32
  | 0, _, _, _, _, _ => none
  | F + 1, m, y1, y2, y3, y4 => fb_X6_gainOfOthers_5  (f_X6_gainOfOthers_5  F) m y1 y2 y3 y4
theorem jb_X6_gainOfOthers_5 (K5 : mM → Nat → Int32 → Int32 → Int32 → fR Int32) (hK5 : ∀ (m : mM) (y1 : Nat) (y2 : Int32) (y3 : Int32) (y4 : Int32) (hy1 : isC true 2 y1 = true), JF true uI m_X6_gainOfOthers 2 5 [(0, .ref 0), (1, .ref y1), (2, .int y2), (3, .int y3), (4, .int y4)] [] m (K5 m y1 y2 y3 y4)) (m : mM) (y1 : Nat) (y2 : Int32) (y3 : Int32) (y4 : Int32) (hy1 : isC true 2 y1 = true) : JF true uI m_X6_gainOfOthers 2 5 [(0, .ref 0), (1, .ref y1), (2, .int y2), (3, .int y3), (4, .int y4)] [] m (fb_X6_gainOfOthers_5 K5 m y1 y2 y3 y4) := by
  unfold fb_X6_gainOfOthers_5
  refine F_iload (i := 4) rfl (dk_X6_gainOfOthers 5 _ rfl) ?_
  refine F_aload_n (i := 1) (a := 1) rfl rfl (dk_X6_gainOfOthers 7 _ rfl) ?_
  refine F_gI (n := (64 * y1 + 0)) (lyS_0 hy1) rfl fl_6_71 (dk_X6_gainOfOthers 8 _ rfl) ?_
  refine F_icmp_ge (tgt := 49) (by decide) (dk_X6_gainOfOthers 11 _ rfl) ?_ ?_
  · refine F_iload_n (i := 3) (a := 3) rfl rfl (dk_X6_gainOfOthers 49 _ rfl) ?_
    exact F_ret rfl (dk_X6_gainOfOthers 50 _ rfl)
  · refine F_iload (i := 4) rfl (dk_X6_gainOfOthers 14 _ rfl) ?_
    refine F_iload_n (i := 2) (a := 2) rfl rfl (dk_X6_gainOfOthers 16 _ rfl) ?_
    refine F_icmp_eq (tgt := 43) (by decide) (dk_X6_gainOfOthers 17 _ rfl) ?_ ?_
    · refine F_iinc (i := 4) (n := 1) (v := (y4 + 1)) (lv' := [(4, .int (y4 + 1)), (0, .ref 0), (1, .ref y1), (2, .int y2), (3, .int y3)]) rfl (by first | rfl | decide) (by decide) rfl (dk_X6_gainOfOthers 43 _ rfl) ?_
      refine F_goto (tgt := 5) (by decide) (dk_X6_gainOfOthers 46 _ rfl) ?_
      exact F_loc (List.forall_mem_cons.mpr ⟨(.tail _ (.head _)), (List.forall_mem_cons.mpr ⟨(.tail _ (.tail _ (.head _))), (List.forall_mem_cons.mpr ⟨(.tail _ (.tail _ (.tail _ (.head _)))), (List.forall_mem_cons.mpr ⟨(.tail _ (.tail _ (.tail _ (.tail _ (.head _))))), (List.forall_mem_cons.mpr ⟨(.head _), (fun _ z => absurd z List.not_mem_nil)⟩)⟩)⟩)⟩)⟩) (hK5 _ _ _ _ _ (hy1))
    · refine F_aload_n (i := 1) (a := 1) rfl rfl (dk_X6_gainOfOthers 20 _ rfl) ?_
      refine F_gR (b := (y1 + 6)) (lyS_10 hy1).1 fl_6_109 (dk_X6_gainOfOthers 21 _ rfl) ?_
      refine F_iload (i := 4) rfl (dk_X6_gainOfOthers 24 _ rfl) ?_
      refine F_zald ((lyS_10 hy1).2) (dk_X6_gainOfOthers 26 _ rfl) (fun x1 => ?_)
      refine F_if_eq (tgt := 43) (by decide) (dk_X6_gainOfOthers 27 _ rfl) ?_ ?_
      · refine F_iinc (i := 4) (n := 1) (v := (y4 + 1)) (lv' := [(4, .int (y4 + 1)), (0, .ref 0), (1, .ref y1), (2, .int y2), (3, .int y3)]) rfl (by first | rfl | decide) (by decide) rfl (dk_X6_gainOfOthers 43 _ rfl) ?_
        refine F_goto (tgt := 5) (by decide) (dk_X6_gainOfOthers 46 _ rfl) ?_
        exact F_loc (List.forall_mem_cons.mpr ⟨(.tail _ (.head _)), (List.forall_mem_cons.mpr ⟨(.tail _ (.tail _ (.head _))), (List.forall_mem_cons.mpr ⟨(.tail _ (.tail _ (.tail _ (.head _)))), (List.forall_mem_cons.mpr ⟨(.tail _ (.tail _ (.tail _ (.tail _ (.head _))))), (List.forall_mem_cons.mpr ⟨(.head _), (fun _ z => absurd z List.not_mem_nil)⟩)⟩)⟩)⟩)⟩) (hK5 _ _ _ _ _ (hy1))
      · refine F_iload_n (i := 3) (a := 3) rfl rfl (dk_X6_gainOfOthers 30 _ rfl) ?_
        refine F_aload_n (i := 0) (a := 0) rfl rfl (dk_X6_gainOfOthers 31 _ rfl) ?_
        refine F_gR (b := 41) fxX_6_4_0 fl_6_62 (dk_X6_gainOfOthers 32 _ rfl) ?_
        refine F_gR (b := 42) fxX_1_5_41 fl_6_170 (dk_X6_gainOfOthers 35 _ rfl) ?_
        refine F_iload (i := 4) rfl (dk_X6_gainOfOthers 38 _ rfl) ?_
        refine F_iald (axX_0_42) (dk_X6_gainOfOthers 40 _ rfl) (fun x2 => ?_)
        refine F_iadd (dk_X6_gainOfOthers 41 _ rfl) ?_
        refine F_nm (fun v3 => ?_)
        refine F_istore_n (lv' := [(3, .int v3), (0, .ref 0), (1, .ref y1), (2, .int y2), (4, .int y4)]) (i := 3) (a := 3) rfl (by decide) rfl (dk_X6_gainOfOthers 42 _ rfl) ?_
        refine F_iinc (i := 4) (n := 1) (v := (y4 + 1)) (lv' := [(4, .int (y4 + 1)), (3, .int v3), (0, .ref 0), (1, .ref y1), (2, .int y2)]) rfl (by first | rfl | decide) (by decide) rfl (dk_X6_gainOfOthers 43 _ rfl) ?_
        refine F_goto (tgt := 5) (by decide) (dk_X6_gainOfOthers 46 _ rfl) ?_
        exact F_loc (List.forall_mem_cons.mpr ⟨(.tail _ (.tail _ (.head _))), (List.forall_mem_cons.mpr ⟨(.tail _ (.tail _ (.tail _ (.head _)))), (List.forall_mem_cons.mpr ⟨(.tail _ (.tail _ (.tail _ (.tail _ (.head _))))), (List.forall_mem_cons.mpr ⟨(.tail _ (.head _)), (List.forall_mem_cons.mpr ⟨(.head _), (fun _ z => absurd z List.not_mem_nil)⟩)⟩)⟩)⟩)⟩) (hK5 _ _ _ _ _ (hy1))
theorem j_X6_gainOfOthers_5   : ∀ (F : Nat) (m : mM) (y1 : Nat) (y2 : Int32) (y3 : Int32) (y4 : Int32) (hy1 : isC true 2 y1 = true), JF true uI m_X6_gainOfOthers 2 5 [(0, .ref 0), (1, .ref y1), (2, .int y2), (3, .int y3), (4, .int y4)] [] m (f_X6_gainOfOthers_5  F m y1 y2 y3 y4) := by
  intro F
  induction F with
  | zero => intro m y1 y2 y3 y4 hy1; exact F_no
  | succ F ih => intro m y1 y2 y3 y4 hy1; exact jb_X6_gainOfOthers_5  (f_X6_gainOfOthers_5  F)  ih m y1 y2 y3 y4 hy1
def f_X6_gainOfOthers (m : mM) (a1 : Nat) (p2 : Int32) : fR Int32 :=
  (f_X6_gainOfOthers_5  1000 m a1 p2 0 0)
theorem c_X6_gainOfOthers (m : mM) (a1 : Nat) (p2 : Int32) (ha1 : isC true 2 a1 = true) : cF true uI m_X6_gainOfOthers 2 [.ref 0, .ref a1, .int p2] m (f_X6_gainOfOthers m a1 p2) := by
  refine cF_of ok_X6_gainOfOthers (fun _ _ => Nat.le_of_ble_eq_true rfl) ?_
  unfold f_X6_gainOfOthers
  show JF _ _ _ _ _ [(0, .ref 0), (1, .ref a1), (2, .int p2)] _ _ _
  refine F_iconst (v := 0) (by decide) (dk_X6_gainOfOthers 0 _ rfl) ?_
  refine F_istore_n (lv' := [(3, .int 0), (0, .ref 0), (1, .ref a1), (2, .int p2)]) (i := 3) (a := 3) rfl (by decide) rfl (dk_X6_gainOfOthers 1 _ rfl) ?_
  refine F_iconst (v := 0) (by decide) (dk_X6_gainOfOthers 2 _ rfl) ?_
  refine F_istore (lv' := [(4, .int 0), (3, .int 0), (0, .ref 0), (1, .ref a1), (2, .int p2)]) (i := 4) (by decide) rfl (dk_X6_gainOfOthers 3 _ rfl) ?_
  exact F_loc (List.forall_mem_cons.mpr ⟨(.tail _ (.tail _ (.head _))), (List.forall_mem_cons.mpr ⟨(.tail _ (.tail _ (.tail _ (.head _)))), (List.forall_mem_cons.mpr ⟨(.tail _ (.tail _ (.tail _ (.tail _ (.head _))))), (List.forall_mem_cons.mpr ⟨(.tail _ (.head _)), (List.forall_mem_cons.mpr ⟨(.head _), (fun _ z => absurd z List.not_mem_nil)⟩)⟩)⟩)⟩)⟩) (j_X6_gainOfOthers_5   1000 _ _ _ _ _ (ha1))
end
