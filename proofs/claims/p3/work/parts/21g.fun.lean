section
set_option maxRecDepth 100000
def fb_X6_reckoning_51 (K51 : mM → Int32 → Int32 → Int32 → fR Int32) (m : mM) (y1 : Int32) (y2 : Int32) (y3 : Int32) : fR Int32 :=
  (if (mI m 2048) ≤ y3 then chR true 5 (mR m 2052) fun r14 => bnd (f_X6_goYear m 32 ((mI m (64 * r14 + 0)))) fun (x15 : Unit) (m16 : mM) => bnd (f_X6_gainOfOthers m16 32 (-1)) fun (x18 : Int32) (m19 : mM) => some ((x18 - y2), m19) else (gA (mA m 36) y3).bind fun x21 => (rmI (x21 + y1) 12).bind fun x22 => (sA 0 m 36 y3 x22).bind fun m23 => (K51 m23 y1 y2 (y3 + 1)))
def f_X6_reckoning_51  : Nat → mM → Int32 → Int32 → Int32 → fR Int32
  | 0, _, _, _, _ => none
  | F + 1, m, y1, y2, y3 => fb_X6_reckoning_51  (f_X6_reckoning_51  F) m y1 y2 y3
theorem jb_X6_reckoning_51 (K51 : mM → Int32 → Int32 → Int32 → fR Int32) (hK51 : ∀ (m : mM) (y1 : Int32) (y2 : Int32) (y3 : Int32) , JF true uI m_X6_reckoning 8 51 [(0, .ref 0), (1, .int y1), (2, .int y2), (3, .int y3)] [] m (K51 m y1 y2 y3)) (m : mM) (y1 : Int32) (y2 : Int32) (y3 : Int32)  : JF true uI m_X6_reckoning 8 51 [(0, .ref 0), (1, .int y1), (2, .int y2), (3, .int y3)] [] m (fb_X6_reckoning_51 K51 m y1 y2 y3) := by
  unfold fb_X6_reckoning_51
  refine F_iload_n (i := 3) (a := 3) rfl rfl (dk_X6_reckoning 51 _ rfl) ?_
  refine F_aload_n (i := 0) (a := 0) rfl rfl (dk_X6_reckoning 52 _ rfl) ?_
  refine F_gR (b := 32) fxX_6_2_0 fl_6_54 (dk_X6_reckoning 53 _ rfl) ?_
  refine F_gI (n := 2048) fxX_2_0_32 rfl fl_6_71 (dk_X6_reckoning 56 _ rfl) ?_
  refine F_icmp_ge (tgt := 91) (by decide) (dk_X6_reckoning 59 _ rfl) ?_ ?_
  · refine F_aload_n (i := 0) (a := 0) rfl rfl (dk_X6_reckoning 91 _ rfl) ?_
    refine F_aload_n (i := 0) (a := 0) rfl rfl (dk_X6_reckoning 92 _ rfl) ?_
    refine F_gR (b := 32) fxX_6_2_0 fl_6_54 (dk_X6_reckoning 93 _ rfl) ?_
    refine F_aload_n (i := 0) (a := 0) rfl rfl (dk_X6_reckoning 96 _ rfl) ?_
    refine F_gR (b := 32) fxX_6_2_0 fl_6_54 (dk_X6_reckoning 97 _ rfl) ?_
    refine F_gV (n := 2052) fxX_2_4_32 rfl fl_6_83 (dk_X6_reckoning 100 _ rfl) ?_
    refine F_ch (fun r14 hr14 => ?_)
    refine F_gI (n := (64 * r14 + 0)) (lyT_0 hr14) rfl fl_6_87 (dk_X6_reckoning 103 _ rfl) ?_
    refine F_callV (ι' := uU) (ci := 6) (b := 0) (As := [.ref 32, .int (mI m (64 * r14 + 0))]) (d' := 7) (rfl) ok_X6_goYear vi_X6_goYear cl_6_182 (n := 2) (by decide +kernel) rfl rfl rfl (Nat.le_of_ble_eq_true rfl) (by omega) (dk_X6_reckoning 106 _ rfl) (c_X6_goYear _ _ _ (rfl)) (fun x15 m16 => ?_)
    show JF _ _ _ _ _ _ [] _ _
    refine F_aload_n (i := 0) (a := 0) rfl rfl (dk_X6_reckoning 109 _ rfl) ?_
    refine F_aload_n (i := 0) (a := 0) rfl rfl (dk_X6_reckoning 110 _ rfl) ?_
    refine F_gR (b := 32) fxX_6_2_0 fl_6_54 (dk_X6_reckoning 111 _ rfl) ?_
    refine F_iconst (v := (-1)) (by decide) (dk_X6_reckoning 114 _ rfl) ?_
    refine F_callV (ι' := uI) (ci := 6) (b := 0) (As := [.ref 32, .int (-1)]) (d' := 2) (rfl) ok_X6_gainOfOthers vi_X6_gainOfOthers cl_6_199 (n := 2) (by decide +kernel) rfl rfl rfl (Nat.le_of_ble_eq_true rfl) (by omega) (dk_X6_reckoning 115 _ rfl) (c_X6_gainOfOthers _ _ _ (rfl)) (fun x18 m19 => ?_)
    show JF _ _ _ _ _ _ [.int x18] _ _
    refine F_iload_n (i := 2) (a := 2) rfl rfl (dk_X6_reckoning 118 _ rfl) ?_
    refine F_isub (dk_X6_reckoning 119 _ rfl) ?_
    exact F_ret rfl (dk_X6_reckoning 120 _ rfl)
  · refine F_aload_n (i := 0) (a := 0) rfl rfl (dk_X6_reckoning 62 _ rfl) ?_
    refine F_gR (b := 32) fxX_6_2_0 fl_6_54 (dk_X6_reckoning 63 _ rfl) ?_
    refine F_gR (b := 36) fxX_2_8_32 fl_6_106 (dk_X6_reckoning 66 _ rfl) ?_
    refine F_iload_n (i := 3) (a := 3) rfl rfl (dk_X6_reckoning 69 _ rfl) ?_
    refine F_aload_n (i := 0) (a := 0) rfl rfl (dk_X6_reckoning 70 _ rfl) ?_
    refine F_gR (b := 32) fxX_6_2_0 fl_6_54 (dk_X6_reckoning 71 _ rfl) ?_
    refine F_gR (b := 36) fxX_2_8_32 fl_6_106 (dk_X6_reckoning 74 _ rfl) ?_
    refine F_iload_n (i := 3) (a := 3) rfl rfl (dk_X6_reckoning 77 _ rfl) ?_
    refine F_iald (axX_0_36) (dk_X6_reckoning 78 _ rfl) (fun x21 => ?_)
    refine F_iload_n (i := 1) (a := 1) rfl rfl (dk_X6_reckoning 79 _ rfl) ?_
    refine F_iadd (dk_X6_reckoning 80 _ rfl) ?_
    refine F_bipush (v := 12) (by decide) (dk_X6_reckoning 81 _ rfl) ?_
    refine F_irem (dk_X6_reckoning 83 _ rfl) (fun x22 => ?_)
    refine F_iast (axX_0_36) (dk_X6_reckoning 84 _ rfl) (fun m23 => ?_)
    refine F_iinc (i := 3) (n := 1) (v := (y3 + 1)) (lv' := [(3, .int (y3 + 1)), (0, .ref 0), (1, .int y1), (2, .int y2)]) rfl (by first | rfl | decide) (by decide) rfl (dk_X6_reckoning 85 _ rfl) ?_
    refine F_goto (tgt := 51) (by decide) (dk_X6_reckoning 88 _ rfl) ?_
    exact F_loc (List.forall_mem_cons.mpr ⟨(.tail _ (.head _)), (List.forall_mem_cons.mpr ⟨(.tail _ (.tail _ (.head _))), (List.forall_mem_cons.mpr ⟨(.tail _ (.tail _ (.tail _ (.head _)))), (List.forall_mem_cons.mpr ⟨(.head _), (fun _ z => absurd z List.not_mem_nil)⟩)⟩)⟩)⟩) (hK51 _ _ _ _ )
theorem j_X6_reckoning_51   : ∀ (F : Nat) (m : mM) (y1 : Int32) (y2 : Int32) (y3 : Int32) , JF true uI m_X6_reckoning 8 51 [(0, .ref 0), (1, .int y1), (2, .int y2), (3, .int y3)] [] m (f_X6_reckoning_51  F m y1 y2 y3) := by
  intro F
  induction F with
  | zero => intro m y1 y2 y3 ; exact F_no
  | succ F ih => intro m y1 y2 y3 ; exact jb_X6_reckoning_51  (f_X6_reckoning_51  F)  ih m y1 y2 y3 
def f_X6_reckoning (m : mM) (p1 : Int32) : fR Int32 :=
  bnd (f_X6_isDay m p1) fun (x1 : Int32) (m2 : mM) => (if x1 = 0 then some ((-10000002), m2) else chR true 5 (mR m2 900) fun r4 => bnd (f_X6_goYear m2 14 ((mI m2 (64 * r4 + 0)))) fun (x5 : Unit) (m6 : mM) => bnd (f_X6_gainOfOthers m6 14 (-1)) fun (x8 : Int32) (m9 : mM) => bnd (f_X2_copy m9 32 14) fun (x11 : Unit) (m12 : mM) => (f_X6_reckoning_51  1000 m12 p1 x8 0))
theorem c_X6_reckoning (m : mM) (p1 : Int32)  : cF true uI m_X6_reckoning 8 [.ref 0, .int p1] m (f_X6_reckoning m p1) := by
  refine cF_of ok_X6_reckoning (fun _ _ => Nat.le_of_ble_eq_true rfl) ?_
  unfold f_X6_reckoning
  show JF _ _ _ _ _ [(0, .ref 0), (1, .int p1)] _ _ _
  refine F_iload_n (i := 1) (a := 1) rfl rfl (dk_X6_reckoning 0 _ rfl) ?_
  refine F_callS (ι' := uI) (As := [.int p1]) (d' := 2) ok_X6_isDay st_X6_isDay cl_6_67 rfl (n := 1) (by decide +kernel) rfl (Nat.le_of_ble_eq_true rfl) (by omega) (dk_X6_reckoning 1 _ rfl) (c_X6_isDay _ _ ) (fun x1 m2 => ?_)
  show JF _ _ _ _ _ _ [.int x1] _ _
  refine F_if_ne (tgt := 10) (by decide) (dk_X6_reckoning 4 _ rfl) ?_ ?_
  · refine F_aload_n (i := 0) (a := 0) rfl rfl (dk_X6_reckoning 10 _ rfl) ?_
    refine F_aload_n (i := 0) (a := 0) rfl rfl (dk_X6_reckoning 11 _ rfl) ?_
    refine F_gR (b := 14) fxX_6_0_0 fl_6_47 (dk_X6_reckoning 12 _ rfl) ?_
    refine F_aload_n (i := 0) (a := 0) rfl rfl (dk_X6_reckoning 15 _ rfl) ?_
    refine F_gR (b := 14) fxX_6_0_0 fl_6_47 (dk_X6_reckoning 16 _ rfl) ?_
    refine F_gV (n := 900) fxX_2_4_14 rfl fl_6_83 (dk_X6_reckoning 19 _ rfl) ?_
    refine F_ch (fun r4 hr4 => ?_)
    refine F_gI (n := (64 * r4 + 0)) (lyT_0 hr4) rfl fl_6_87 (dk_X6_reckoning 22 _ rfl) ?_
    refine F_callV (ι' := uU) (ci := 6) (b := 0) (As := [.ref 14, .int (mI m2 (64 * r4 + 0))]) (d' := 7) (rfl) ok_X6_goYear vi_X6_goYear cl_6_182 (n := 2) (by decide +kernel) rfl rfl rfl (Nat.le_of_ble_eq_true rfl) (by omega) (dk_X6_reckoning 25 _ rfl) (c_X6_goYear _ _ _ (rfl)) (fun x5 m6 => ?_)
    show JF _ _ _ _ _ _ [] _ _
    refine F_aload_n (i := 0) (a := 0) rfl rfl (dk_X6_reckoning 28 _ rfl) ?_
    refine F_aload_n (i := 0) (a := 0) rfl rfl (dk_X6_reckoning 29 _ rfl) ?_
    refine F_gR (b := 14) fxX_6_0_0 fl_6_47 (dk_X6_reckoning 30 _ rfl) ?_
    refine F_iconst (v := (-1)) (by decide) (dk_X6_reckoning 33 _ rfl) ?_
    refine F_callV (ι' := uI) (ci := 6) (b := 0) (As := [.ref 14, .int (-1)]) (d' := 2) (rfl) ok_X6_gainOfOthers vi_X6_gainOfOthers cl_6_199 (n := 2) (by decide +kernel) rfl rfl rfl (Nat.le_of_ble_eq_true rfl) (by omega) (dk_X6_reckoning 34 _ rfl) (c_X6_gainOfOthers _ _ _ (rfl)) (fun x8 m9 => ?_)
    show JF _ _ _ _ _ _ [.int x8] _ _
    refine F_istore_n (lv' := [(2, .int x8), (0, .ref 0), (1, .int p1)]) (i := 2) (a := 2) rfl (by decide) rfl (dk_X6_reckoning 37 _ rfl) ?_
    refine F_aload_n (i := 0) (a := 0) rfl rfl (dk_X6_reckoning 38 _ rfl) ?_
    refine F_gR (b := 32) fxX_6_2_0 fl_6_54 (dk_X6_reckoning 39 _ rfl) ?_
    refine F_aload_n (i := 0) (a := 0) rfl rfl (dk_X6_reckoning 42 _ rfl) ?_
    refine F_gR (b := 14) fxX_6_0_0 fl_6_47 (dk_X6_reckoning 43 _ rfl) ?_
    refine F_callV (ι' := uU) (ci := 2) (b := 32) (As := [.ref 14]) (d' := 2) (rfl) ok_X2_copy vi_X2_copy cl_6_185 (n := 1) (by decide +kernel) rfl rfl rfl (Nat.le_of_ble_eq_true rfl) (by omega) (dk_X6_reckoning 46 _ rfl) (c_X2_copy _ _ _ (rfl) (rfl)) (fun x11 m12 => ?_)
    show JF _ _ _ _ _ _ [] _ _
    refine F_iconst (v := 0) (by decide) (dk_X6_reckoning 49 _ rfl) ?_
    refine F_istore_n (lv' := [(3, .int 0), (2, .int x8), (0, .ref 0), (1, .int p1)]) (i := 3) (a := 3) rfl (by decide) rfl (dk_X6_reckoning 50 _ rfl) ?_
    exact F_loc (List.forall_mem_cons.mpr ⟨(.tail _ (.tail _ (.head _))), (List.forall_mem_cons.mpr ⟨(.tail _ (.tail _ (.tail _ (.head _)))), (List.forall_mem_cons.mpr ⟨(.tail _ (.head _)), (List.forall_mem_cons.mpr ⟨(.head _), (fun _ z => absurd z List.not_mem_nil)⟩)⟩)⟩)⟩) (j_X6_reckoning_51   1000 _ _ _ _ )
  · refine F_ldc (v := (-10000002)) ct_6_178 (dk_X6_reckoning 7 _ rfl) ?_
    exact F_ret rfl (dk_X6_reckoning 9 _ rfl)
def fb_X6_high_23 (K23 : mM → Int32 → Int32 → fR Int32) (m : mM) (y1 : Int32) (y2 : Int32) : fR Int32 :=
  (if 100 ≤ y2 then some ((-5), m) else bnd (f_X6_betterPlan m y1 y2) fun (x7 : Int32) (m8 : mM) => (gA (mA m8 18) y1).bind fun x10 => (if x7 = x10 then (K23 m8 y1 (y2 + 5)) else some (y2, m8)))
def f_X6_high_23  : Nat → mM → Int32 → Int32 → fR Int32
  | 0, _, _, _ => none
  | F + 1, m, y1, y2 => fb_X6_high_23  (f_X6_high_23  F) m y1 y2
theorem jb_X6_high_23 (K23 : mM → Int32 → Int32 → fR Int32) (hK23 : ∀ (m : mM) (y1 : Int32) (y2 : Int32) , JF true uI m_X6_high 9 23 [(0, .ref 0), (1, .int y1), (2, .int y2)] [] m (K23 m y1 y2)) (m : mM) (y1 : Int32) (y2 : Int32)  : JF true uI m_X6_high 9 23 [(0, .ref 0), (1, .int y1), (2, .int y2)] [] m (fb_X6_high_23 K23 m y1 y2) := by
  unfold fb_X6_high_23
  refine F_iload_n (i := 2) (a := 2) rfl rfl (dk_X6_high 23 _ rfl) ?_
  refine F_bipush (v := 100) (by decide) (dk_X6_high 24 _ rfl) ?_
  refine F_icmp_ge (tgt := 55) (by decide) (dk_X6_high 26 _ rfl) ?_ ?_
  · refine F_bipush (v := (-5)) (by decide) (dk_X6_high 55 _ rfl) ?_
    exact F_ret rfl (dk_X6_high 57 _ rfl)
  · refine F_aload_n (i := 0) (a := 0) rfl rfl (dk_X6_high 29 _ rfl) ?_
    refine F_iload_n (i := 1) (a := 1) rfl rfl (dk_X6_high 30 _ rfl) ?_
    refine F_iload_n (i := 2) (a := 2) rfl rfl (dk_X6_high 31 _ rfl) ?_
    refine F_callV (ι' := uI) (ci := 6) (b := 0) (As := [.int y1, .int y2]) (d' := 8) (rfl) ok_X6_betterPlan vi_X6_betterPlan cl_6_196 (n := 2) (by decide +kernel) rfl rfl rfl (Nat.le_of_ble_eq_true rfl) (by omega) (dk_X6_high 32 _ rfl) (c_X6_betterPlan _ _ _ ) (fun x7 m8 => ?_)
    show JF _ _ _ _ _ _ [.int x7] _ _
    refine F_aload_n (i := 0) (a := 0) rfl rfl (dk_X6_high 35 _ rfl) ?_
    refine F_gR (b := 14) fxX_6_0_0 fl_6_47 (dk_X6_high 36 _ rfl) ?_
    refine F_gR (b := 18) fxX_2_8_14 fl_6_106 (dk_X6_high 39 _ rfl) ?_
    refine F_iload_n (i := 1) (a := 1) rfl rfl (dk_X6_high 42 _ rfl) ?_
    refine F_iald (axX_0_18) (dk_X6_high 43 _ rfl) (fun x10 => ?_)
    refine F_icmp_eq (tgt := 49) (by decide) (dk_X6_high 44 _ rfl) ?_ ?_
    · refine F_iinc (i := 2) (n := 5) (v := (y2 + 5)) (lv' := [(2, .int (y2 + 5)), (0, .ref 0), (1, .int y1)]) rfl (by first | rfl | decide) (by decide) rfl (dk_X6_high 49 _ rfl) ?_
      refine F_goto (tgt := 23) (by decide) (dk_X6_high 52 _ rfl) ?_
      exact F_loc (List.forall_mem_cons.mpr ⟨(.tail _ (.head _)), (List.forall_mem_cons.mpr ⟨(.tail _ (.tail _ (.head _))), (List.forall_mem_cons.mpr ⟨(.head _), (fun _ z => absurd z List.not_mem_nil)⟩)⟩)⟩) (hK23 _ _ _ )
    · refine F_iload_n (i := 2) (a := 2) rfl rfl (dk_X6_high 47 _ rfl) ?_
      exact F_ret rfl (dk_X6_high 48 _ rfl)
theorem j_X6_high_23   : ∀ (F : Nat) (m : mM) (y1 : Int32) (y2 : Int32) , JF true uI m_X6_high 9 23 [(0, .ref 0), (1, .int y1), (2, .int y2)] [] m (f_X6_high_23  F m y1 y2) := by
  intro F
  induction F with
  | zero => intro m y1 y2 ; exact F_no
  | succ F ih => intro m y1 y2 ; exact jb_X6_high_23  (f_X6_high_23  F)  ih m y1 y2 
def f_X6_high (m : mM) (p1 : Int32) : fR Int32 :=
  bnd (f_X6_isPerson m p1) fun (x1 : Int32) (m2 : mM) => (if x1 = 0 then some ((-1), m2) else bnd (f_X2_copy m2 32 14) fun (x4 : Unit) (m5 : mM) => (f_X6_high_23  1000 m5 p1 0))
theorem c_X6_high (m : mM) (p1 : Int32)  : cF true uI m_X6_high 9 [.ref 0, .int p1] m (f_X6_high m p1) := by
  refine cF_of ok_X6_high (fun _ _ => Nat.le_of_ble_eq_true rfl) ?_
  unfold f_X6_high
  show JF _ _ _ _ _ [(0, .ref 0), (1, .int p1)] _ _ _
  refine F_aload_n (i := 0) (a := 0) rfl rfl (dk_X6_high 0 _ rfl) ?_
  refine F_iload_n (i := 1) (a := 1) rfl rfl (dk_X6_high 1 _ rfl) ?_
  refine F_callV (ι' := uI) (ci := 6) (b := 0) (As := [.int p1]) (d' := 2) (rfl) ok_X6_isPerson vi_X6_isPerson cl_6_79 (n := 1) (by decide +kernel) rfl rfl rfl (Nat.le_of_ble_eq_true rfl) (by omega) (dk_X6_high 2 _ rfl) (c_X6_isPerson _ _ ) (fun x1 m2 => ?_)
  show JF _ _ _ _ _ _ [.int x1] _ _
  refine F_if_ne (tgt := 10) (by decide) (dk_X6_high 5 _ rfl) ?_ ?_
  · refine F_aload_n (i := 0) (a := 0) rfl rfl (dk_X6_high 10 _ rfl) ?_
    refine F_gR (b := 32) fxX_6_2_0 fl_6_54 (dk_X6_high 11 _ rfl) ?_
    refine F_aload_n (i := 0) (a := 0) rfl rfl (dk_X6_high 14 _ rfl) ?_
    refine F_gR (b := 14) fxX_6_0_0 fl_6_47 (dk_X6_high 15 _ rfl) ?_
    refine F_callV (ι' := uU) (ci := 2) (b := 32) (As := [.ref 14]) (d' := 2) (rfl) ok_X2_copy vi_X2_copy cl_6_185 (n := 1) (by decide +kernel) rfl rfl rfl (Nat.le_of_ble_eq_true rfl) (by omega) (dk_X6_high 18 _ rfl) (c_X2_copy _ _ _ (rfl) (rfl)) (fun x4 m5 => ?_)
    show JF _ _ _ _ _ _ [] _ _
    refine F_iconst (v := 0) (by decide) (dk_X6_high 21 _ rfl) ?_
    refine F_istore_n (lv' := [(2, .int 0), (0, .ref 0), (1, .int p1)]) (i := 2) (a := 2) rfl (by decide) rfl (dk_X6_high 22 _ rfl) ?_
    exact F_loc (List.forall_mem_cons.mpr ⟨(.tail _ (.head _)), (List.forall_mem_cons.mpr ⟨(.tail _ (.tail _ (.head _))), (List.forall_mem_cons.mpr ⟨(.head _), (fun _ z => absurd z List.not_mem_nil)⟩)⟩)⟩) (j_X6_high_23   1000 _ _ _ )
  · refine F_iconst (v := (-1)) (by decide) (dk_X6_high 8 _ rfl) ?_
    exact F_ret rfl (dk_X6_high 9 _ rfl)
def f_X6_last (m : mM) (p1 : Int32) : fR Int32 :=
  bnd (f_X6_isPerson m p1) fun (x1 : Int32) (m2 : mM) => (if x1 = 0 then some ((-10000001), m2) else chR true 5 (mR m2 900) fun r4 => bnd (f_X6_goYear m2 14 ((mI m2 (64 * r4 + 0)))) fun (x5 : Unit) (m6 : mM) => bnd (f_X6_gainOfOthers m6 14 p1) fun (x8 : Int32) (m9 : mM) => bnd (f_X2_copy m9 32 14) fun (x11 : Unit) (m12 : mM) => (sA 3 m12 38 p1 0).bind fun m14 => chR true 5 (mR m14 2052) fun r15 => bnd (f_X6_goYear m14 32 ((mI m14 (64 * r15 + 0)))) fun (x16 : Unit) (m17 : mM) => bnd (f_X6_gainOfOthers m17 32 p1) fun (x19 : Int32) (m20 : mM) => some ((x8 - x19), m20))
theorem c_X6_last (m : mM) (p1 : Int32)  : cF true uI m_X6_last 8 [.ref 0, .int p1] m (f_X6_last m p1) := by
  refine cF_of ok_X6_last (fun _ _ => Nat.le_of_ble_eq_true rfl) ?_
  unfold f_X6_last
  show JF _ _ _ _ _ [(0, .ref 0), (1, .int p1)] _ _ _
  refine F_aload_n (i := 0) (a := 0) rfl rfl (dk_X6_last 0 _ rfl) ?_
  refine F_iload_n (i := 1) (a := 1) rfl rfl (dk_X6_last 1 _ rfl) ?_
  refine F_callV (ι' := uI) (ci := 6) (b := 0) (As := [.int p1]) (d' := 2) (rfl) ok_X6_isPerson vi_X6_isPerson cl_6_79 (n := 1) (by decide +kernel) rfl rfl rfl (Nat.le_of_ble_eq_true rfl) (by omega) (dk_X6_last 2 _ rfl) (c_X6_isPerson _ _ ) (fun x1 m2 => ?_)
  show JF _ _ _ _ _ _ [.int x1] _ _
  refine F_if_ne (tgt := 11) (by decide) (dk_X6_last 5 _ rfl) ?_ ?_
  · refine F_aload_n (i := 0) (a := 0) rfl rfl (dk_X6_last 11 _ rfl) ?_
    refine F_aload_n (i := 0) (a := 0) rfl rfl (dk_X6_last 12 _ rfl) ?_
    refine F_gR (b := 14) fxX_6_0_0 fl_6_47 (dk_X6_last 13 _ rfl) ?_
    refine F_aload_n (i := 0) (a := 0) rfl rfl (dk_X6_last 16 _ rfl) ?_
    refine F_gR (b := 14) fxX_6_0_0 fl_6_47 (dk_X6_last 17 _ rfl) ?_
    refine F_gV (n := 900) fxX_2_4_14 rfl fl_6_83 (dk_X6_last 20 _ rfl) ?_
    refine F_ch (fun r4 hr4 => ?_)
    refine F_gI (n := (64 * r4 + 0)) (lyT_0 hr4) rfl fl_6_87 (dk_X6_last 23 _ rfl) ?_
    refine F_callV (ι' := uU) (ci := 6) (b := 0) (As := [.ref 14, .int (mI m2 (64 * r4 + 0))]) (d' := 7) (rfl) ok_X6_goYear vi_X6_goYear cl_6_182 (n := 2) (by decide +kernel) rfl rfl rfl (Nat.le_of_ble_eq_true rfl) (by omega) (dk_X6_last 26 _ rfl) (c_X6_goYear _ _ _ (rfl)) (fun x5 m6 => ?_)
    show JF _ _ _ _ _ _ [] _ _
    refine F_aload_n (i := 0) (a := 0) rfl rfl (dk_X6_last 29 _ rfl) ?_
    refine F_aload_n (i := 0) (a := 0) rfl rfl (dk_X6_last 30 _ rfl) ?_
    refine F_gR (b := 14) fxX_6_0_0 fl_6_47 (dk_X6_last 31 _ rfl) ?_
    refine F_iload_n (i := 1) (a := 1) rfl rfl (dk_X6_last 34 _ rfl) ?_
    refine F_callV (ι' := uI) (ci := 6) (b := 0) (As := [.ref 14, .int p1]) (d' := 2) (rfl) ok_X6_gainOfOthers vi_X6_gainOfOthers cl_6_199 (n := 2) (by decide +kernel) rfl rfl rfl (Nat.le_of_ble_eq_true rfl) (by omega) (dk_X6_last 35 _ rfl) (c_X6_gainOfOthers _ _ _ (rfl)) (fun x8 m9 => ?_)
    show JF _ _ _ _ _ _ [.int x8] _ _
    refine F_istore_n (lv' := [(2, .int x8), (0, .ref 0), (1, .int p1)]) (i := 2) (a := 2) rfl (by decide) rfl (dk_X6_last 38 _ rfl) ?_
    refine F_aload_n (i := 0) (a := 0) rfl rfl (dk_X6_last 39 _ rfl) ?_
    refine F_gR (b := 32) fxX_6_2_0 fl_6_54 (dk_X6_last 40 _ rfl) ?_
    refine F_aload_n (i := 0) (a := 0) rfl rfl (dk_X6_last 43 _ rfl) ?_
    refine F_gR (b := 14) fxX_6_0_0 fl_6_47 (dk_X6_last 44 _ rfl) ?_
    refine F_callV (ι' := uU) (ci := 2) (b := 32) (As := [.ref 14]) (d' := 2) (rfl) ok_X2_copy vi_X2_copy cl_6_185 (n := 1) (by decide +kernel) rfl rfl rfl (Nat.le_of_ble_eq_true rfl) (by omega) (dk_X6_last 47 _ rfl) (c_X2_copy _ _ _ (rfl) (rfl)) (fun x11 m12 => ?_)
    show JF _ _ _ _ _ _ [] _ _
    refine F_aload_n (i := 0) (a := 0) rfl rfl (dk_X6_last 50 _ rfl) ?_
    refine F_gR (b := 32) fxX_6_2_0 fl_6_54 (dk_X6_last 51 _ rfl) ?_
    refine F_gR (b := 38) fxX_2_10_32 fl_6_109 (dk_X6_last 54 _ rfl) ?_
    refine F_iload_n (i := 1) (a := 1) rfl rfl (dk_X6_last 57 _ rfl) ?_
    refine F_iconst (v := 0) (by decide) (dk_X6_last 58 _ rfl) ?_
    refine F_zast (axX_3_38) (dk_X6_last 59 _ rfl) (fun m14 => ?_)
    refine F_aload_n (i := 0) (a := 0) rfl rfl (dk_X6_last 60 _ rfl) ?_
    refine F_aload_n (i := 0) (a := 0) rfl rfl (dk_X6_last 61 _ rfl) ?_
    refine F_gR (b := 32) fxX_6_2_0 fl_6_54 (dk_X6_last 62 _ rfl) ?_
    refine F_aload_n (i := 0) (a := 0) rfl rfl (dk_X6_last 65 _ rfl) ?_
    refine F_gR (b := 32) fxX_6_2_0 fl_6_54 (dk_X6_last 66 _ rfl) ?_
    refine F_gV (n := 2052) fxX_2_4_32 rfl fl_6_83 (dk_X6_last 69 _ rfl) ?_
    refine F_ch (fun r15 hr15 => ?_)
    refine F_gI (n := (64 * r15 + 0)) (lyT_0 hr15) rfl fl_6_87 (dk_X6_last 72 _ rfl) ?_
    refine F_callV (ι' := uU) (ci := 6) (b := 0) (As := [.ref 32, .int (mI m14 (64 * r15 + 0))]) (d' := 7) (rfl) ok_X6_goYear vi_X6_goYear cl_6_182 (n := 2) (by decide +kernel) rfl rfl rfl (Nat.le_of_ble_eq_true rfl) (by omega) (dk_X6_last 75 _ rfl) (c_X6_goYear _ _ _ (rfl)) (fun x16 m17 => ?_)
    show JF _ _ _ _ _ _ [] _ _
    refine F_iload_n (i := 2) (a := 2) rfl rfl (dk_X6_last 78 _ rfl) ?_
    refine F_aload_n (i := 0) (a := 0) rfl rfl (dk_X6_last 79 _ rfl) ?_
    refine F_aload_n (i := 0) (a := 0) rfl rfl (dk_X6_last 80 _ rfl) ?_
    refine F_gR (b := 32) fxX_6_2_0 fl_6_54 (dk_X6_last 81 _ rfl) ?_
    refine F_iload_n (i := 1) (a := 1) rfl rfl (dk_X6_last 84 _ rfl) ?_
    refine F_callV (ι' := uI) (ci := 6) (b := 0) (As := [.ref 32, .int p1]) (d' := 2) (rfl) ok_X6_gainOfOthers vi_X6_gainOfOthers cl_6_199 (n := 2) (by decide +kernel) rfl rfl rfl (Nat.le_of_ble_eq_true rfl) (by omega) (dk_X6_last 85 _ rfl) (c_X6_gainOfOthers _ _ _ (rfl)) (fun x19 m20 => ?_)
    show JF _ _ _ _ _ _ [.int x19, .int x8] _ _
    refine F_isub (dk_X6_last 88 _ rfl) ?_
    exact F_ret rfl (dk_X6_last 89 _ rfl)
  · refine F_ldc (v := (-10000001)) ct_6_82 (dk_X6_last 8 _ rfl) ?_
    exact F_ret rfl (dk_X6_last 10 _ rfl)
def f_X6_fraction_42  (m : mM) (y0 : Int32) (y1 : Int32) (y2 : Int32) (y3 : Int32) : fR Int64 :=
  (if y2 = 0 then (dvI y0 y3).bind fun x2 => some ((x2 : Int32).toInt64, m) else (dvI y1 y3).bind fun x1 => some ((x1 : Int32).toInt64, m))
theorem j_X6_fraction_42   (m : mM) (y0 : Int32) (y1 : Int32) (y2 : Int32) (y3 : Int32)  : JF true uL m_X6_fraction 2 42 [(0, .int y0), (1, .int y1), (2, .int y2), (3, .int y3)] [] m (f_X6_fraction_42  m y0 y1 y2 y3) := by
  unfold f_X6_fraction_42
  refine F_iload_n (i := 2) (a := 2) rfl rfl (dk_X6_fraction 42 _ rfl) ?_
  refine F_if_ne (tgt := 50) (by decide) (dk_X6_fraction 43 _ rfl) ?_ ?_
  · refine F_iload_n (i := 1) (a := 1) rfl rfl (dk_X6_fraction 50 _ rfl) ?_
    refine F_iload_n (i := 3) (a := 3) rfl rfl (dk_X6_fraction 51 _ rfl) ?_
    refine F_idiv (dk_X6_fraction 52 _ rfl) (fun x1 => ?_)
    refine F_i2l (dk_X6_fraction 53 _ rfl) ?_
    exact F_retL rfl (dk_X6_fraction 54 _ rfl)
  · refine F_iload_n (i := 0) (a := 0) rfl rfl (dk_X6_fraction 46 _ rfl) ?_
    refine F_goto (tgt := 51) (by decide) (dk_X6_fraction 47 _ rfl) ?_
    refine F_iload_n (i := 3) (a := 3) rfl rfl (dk_X6_fraction 51 _ rfl) ?_
    refine F_idiv (dk_X6_fraction 52 _ rfl) (fun x2 => ?_)
    refine F_i2l (dk_X6_fraction 53 _ rfl) ?_
    exact F_retL rfl (dk_X6_fraction 54 _ rfl)
def fb_X6_fraction_19 (K19 : mM → Int32 → Int32 → Int32 → Int32 → fR Int64) (m : mM) (y0 : Int32) (y1 : Int32) (y2 : Int32) (y3 : Int32) : fR Int64 :=
  (if y3 ≤ 1 then (f_X6_fraction_42  m y0 y1 y2 y3) else (rmI y0 y3).bind fun x3 => (if x3 = 0 then (rmI y1 y3).bind fun x4 => (if x4 = 0 then (f_X6_fraction_42  m y0 y1 y2 y3) else (K19 m y0 y1 y2 (y3 + (-1)))) else (K19 m y0 y1 y2 (y3 + (-1)))))
def f_X6_fraction_19  : Nat → mM → Int32 → Int32 → Int32 → Int32 → fR Int64
  | 0, _, _, _, _, _ => none
  | F + 1, m, y0, y1, y2, y3 => fb_X6_fraction_19  (f_X6_fraction_19  F) m y0 y1 y2 y3
theorem jb_X6_fraction_19 (K19 : mM → Int32 → Int32 → Int32 → Int32 → fR Int64) (hK19 : ∀ (m : mM) (y0 : Int32) (y1 : Int32) (y2 : Int32) (y3 : Int32) , JF true uL m_X6_fraction 2 19 [(0, .int y0), (1, .int y1), (2, .int y2), (3, .int y3)] [] m (K19 m y0 y1 y2 y3)) (m : mM) (y0 : Int32) (y1 : Int32) (y2 : Int32) (y3 : Int32)  : JF true uL m_X6_fraction 2 19 [(0, .int y0), (1, .int y1), (2, .int y2), (3, .int y3)] [] m (fb_X6_fraction_19 K19 m y0 y1 y2 y3) := by
  unfold fb_X6_fraction_19
  refine F_iload_n (i := 3) (a := 3) rfl rfl (dk_X6_fraction 19 _ rfl) ?_
  refine F_iconst (v := 1) (by decide) (dk_X6_fraction 20 _ rfl) ?_
  refine F_icmp_le (tgt := 42) (by decide) (dk_X6_fraction 21 _ rfl) ?_ ?_
  · exact F_loc (fun _ z => z) (j_X6_fraction_42   _ _ _ _ _ )
  · refine F_iload_n (i := 0) (a := 0) rfl rfl (dk_X6_fraction 24 _ rfl) ?_
    refine F_iload_n (i := 3) (a := 3) rfl rfl (dk_X6_fraction 25 _ rfl) ?_
    refine F_irem (dk_X6_fraction 26 _ rfl) (fun x3 => ?_)
    refine F_if_ne (tgt := 36) (by decide) (dk_X6_fraction 27 _ rfl) ?_ ?_
    · refine F_iinc (i := 3) (n := (-1)) (v := (y3 + (-1))) (lv' := [(3, .int (y3 + (-1))), (0, .int y0), (1, .int y1), (2, .int y2)]) rfl (by first | rfl | decide) (by decide) rfl (dk_X6_fraction 36 _ rfl) ?_
      refine F_goto (tgt := 19) (by decide) (dk_X6_fraction 39 _ rfl) ?_
      exact F_loc (List.forall_mem_cons.mpr ⟨(.tail _ (.head _)), (List.forall_mem_cons.mpr ⟨(.tail _ (.tail _ (.head _))), (List.forall_mem_cons.mpr ⟨(.tail _ (.tail _ (.tail _ (.head _)))), (List.forall_mem_cons.mpr ⟨(.head _), (fun _ z => absurd z List.not_mem_nil)⟩)⟩)⟩)⟩) (hK19 _ _ _ _ _ )
    · refine F_iload_n (i := 1) (a := 1) rfl rfl (dk_X6_fraction 30 _ rfl) ?_
      refine F_iload_n (i := 3) (a := 3) rfl rfl (dk_X6_fraction 31 _ rfl) ?_
      refine F_irem (dk_X6_fraction 32 _ rfl) (fun x4 => ?_)
      refine F_if_eq (tgt := 42) (by decide) (dk_X6_fraction 33 _ rfl) ?_ ?_
      · exact F_loc (fun _ z => z) (j_X6_fraction_42   _ _ _ _ _ )
      · refine F_iinc (i := 3) (n := (-1)) (v := (y3 + (-1))) (lv' := [(3, .int (y3 + (-1))), (0, .int y0), (1, .int y1), (2, .int y2)]) rfl (by first | rfl | decide) (by decide) rfl (dk_X6_fraction 36 _ rfl) ?_
        refine F_goto (tgt := 19) (by decide) (dk_X6_fraction 39 _ rfl) ?_
        exact F_loc (List.forall_mem_cons.mpr ⟨(.tail _ (.head _)), (List.forall_mem_cons.mpr ⟨(.tail _ (.tail _ (.head _))), (List.forall_mem_cons.mpr ⟨(.tail _ (.tail _ (.tail _ (.head _)))), (List.forall_mem_cons.mpr ⟨(.head _), (fun _ z => absurd z List.not_mem_nil)⟩)⟩)⟩)⟩) (hK19 _ _ _ _ _ )
theorem j_X6_fraction_19   : ∀ (F : Nat) (m : mM) (y0 : Int32) (y1 : Int32) (y2 : Int32) (y3 : Int32) , JF true uL m_X6_fraction 2 19 [(0, .int y0), (1, .int y1), (2, .int y2), (3, .int y3)] [] m (f_X6_fraction_19  F m y0 y1 y2 y3) := by
  intro F
  induction F with
  | zero => intro m y0 y1 y2 y3 ; exact F_no
  | succ F ih => intro m y0 y1 y2 y3 ; exact jb_X6_fraction_19  (f_X6_fraction_19  F)  ih m y0 y1 y2 y3 
def f_X6_fraction (m : mM) (p0 : Int32) (p1 : Int32) (p2 : Int32) : fR Int64 :=
  (if p1 ≤ 0 then some ((-9223372036854775808), m) else (if p2 < 0 then some ((-9223372036854775808), m) else (if p2 ≤ 1 then (f_X6_fraction_19  1000 m p0 p1 p2 p1) else some ((-9223372036854775808), m))))
theorem c_X6_fraction (m : mM) (p0 : Int32) (p1 : Int32) (p2 : Int32)  : cF true uL m_X6_fraction 2 [.int p0, .int p1, .int p2] m (f_X6_fraction m p0 p1 p2) := by
  refine cF_of ok_X6_fraction (fun _ _ => Nat.le_of_ble_eq_true rfl) ?_
  unfold f_X6_fraction
  show JF _ _ _ _ _ [(0, .int p0), (1, .int p1), (2, .int p2)] _ _ _
  refine F_iload_n (i := 1) (a := 1) rfl rfl (dk_X6_fraction 0 _ rfl) ?_
  refine F_if_le (tgt := 13) (by decide) (dk_X6_fraction 1 _ rfl) ?_ ?_
  · refine F_ldc2 (v := (-9223372036854775808)) ctl_6_203 (dk_X6_fraction 13 _ rfl) ?_
    exact F_retL rfl (dk_X6_fraction 16 _ rfl)
  · refine F_iload_n (i := 2) (a := 2) rfl rfl (dk_X6_fraction 4 _ rfl) ?_
    refine F_if_lt (tgt := 13) (by decide) (dk_X6_fraction 5 _ rfl) ?_ ?_
    · refine F_ldc2 (v := (-9223372036854775808)) ctl_6_203 (dk_X6_fraction 13 _ rfl) ?_
      exact F_retL rfl (dk_X6_fraction 16 _ rfl)
    · refine F_iload_n (i := 2) (a := 2) rfl rfl (dk_X6_fraction 8 _ rfl) ?_
      refine F_iconst (v := 1) (by decide) (dk_X6_fraction 9 _ rfl) ?_
      refine F_icmp_le (tgt := 17) (by decide) (dk_X6_fraction 10 _ rfl) ?_ ?_
      · refine F_iload_n (i := 1) (a := 1) rfl rfl (dk_X6_fraction 17 _ rfl) ?_
        refine F_istore_n (lv' := [(3, .int p1), (0, .int p0), (1, .int p1), (2, .int p2)]) (i := 3) (a := 3) rfl (by decide) rfl (dk_X6_fraction 18 _ rfl) ?_
        exact F_loc (List.forall_mem_cons.mpr ⟨(.tail _ (.head _)), (List.forall_mem_cons.mpr ⟨(.tail _ (.tail _ (.head _))), (List.forall_mem_cons.mpr ⟨(.tail _ (.tail _ (.tail _ (.head _)))), (List.forall_mem_cons.mpr ⟨(.head _), (fun _ z => absurd z List.not_mem_nil)⟩)⟩)⟩)⟩) (j_X6_fraction_19   1000 _ _ _ _ _ )
      · refine F_ldc2 (v := (-9223372036854775808)) ctl_6_203 (dk_X6_fraction 13 _ rfl) ?_
        exact F_retL rfl (dk_X6_fraction 16 _ rfl)
def fb_X6_odds_58 (K58 : mM → Int32 → Int32 → Int32 → Int32 → fR Int64) (m : mM) (y2 : Int32) (y3 : Int32) (y4 : Int32) (y5 : Int32) : fR Int64 :=
  (if 12 ≤ y5 then bnd (f_X6_fraction m y4 12 y3) fun (x14 : Int64) (m15 : mM) => some (x14, m15) else (gA (mA m 1) y5).bind fun x17 => (gA (mA m 1) y2).bind fun x18 => (if x17 < x18 then (K58 m y2 y3 y4 (y5 + 1)) else (K58 m y2 y3 (y4 + 1) (y5 + 1))))
def f_X6_odds_58  : Nat → mM → Int32 → Int32 → Int32 → Int32 → fR Int64
  | 0, _, _, _, _, _ => none
  | F + 1, m, y2, y3, y4, y5 => fb_X6_odds_58  (f_X6_odds_58  F) m y2 y3 y4 y5
theorem jb_X6_odds_58 (K58 : mM → Int32 → Int32 → Int32 → Int32 → fR Int64) (hK58 : ∀ (m : mM) (y2 : Int32) (y3 : Int32) (y4 : Int32) (y5 : Int32) , JF true uL m_X6_odds 8 58 [(0, .ref 0), (2, .int y2), (3, .int y3), (4, .int y4), (5, .int y5)] [] m (K58 m y2 y3 y4 y5)) (m : mM) (y2 : Int32) (y3 : Int32) (y4 : Int32) (y5 : Int32)  : JF true uL m_X6_odds 8 58 [(0, .ref 0), (2, .int y2), (3, .int y3), (4, .int y4), (5, .int y5)] [] m (fb_X6_odds_58 K58 m y2 y3 y4 y5) := by
  unfold fb_X6_odds_58
  refine F_iload (i := 5) rfl (dk_X6_odds 58 _ rfl) ?_
  refine F_bipush (v := 12) (by decide) (dk_X6_odds 60 _ rfl) ?_
  refine F_icmp_ge (tgt := 90) (by decide) (dk_X6_odds 62 _ rfl) ?_ ?_
  · refine F_iload (i := 4) rfl (dk_X6_odds 90 _ rfl) ?_
    refine F_bipush (v := 12) (by decide) (dk_X6_odds 92 _ rfl) ?_
    refine F_iload_n (i := 3) (a := 3) rfl rfl (dk_X6_odds 94 _ rfl) ?_
    refine F_callS (ι' := uL) (As := [.int y4, .int 12, .int y3]) (d' := 2) ok_X6_fraction st_X6_fraction cl_6_205 rfl (n := 3) (by decide +kernel) rfl (Nat.le_of_ble_eq_true rfl) (by omega) (dk_X6_odds 95 _ rfl) (c_X6_fraction _ _ _ _ ) (fun x14 m15 => ?_)
    show JF _ _ _ _ _ _ [.long x14] _ _
    exact F_retL rfl (dk_X6_odds 98 _ rfl)
  · refine F_aload_n (i := 0) (a := 0) rfl rfl (dk_X6_odds 65 _ rfl) ?_
    refine F_gR (b := 1) fxX_6_5_0 fl_6_11 (dk_X6_odds 66 _ rfl) ?_
    refine F_iload (i := 5) rfl (dk_X6_odds 69 _ rfl) ?_
    refine F_iald (axX_0_1) (dk_X6_odds 71 _ rfl) (fun x17 => ?_)
    refine F_aload_n (i := 0) (a := 0) rfl rfl (dk_X6_odds 72 _ rfl) ?_
    refine F_gR (b := 1) fxX_6_5_0 fl_6_11 (dk_X6_odds 73 _ rfl) ?_
    refine F_iload_n (i := 2) (a := 2) rfl rfl (dk_X6_odds 76 _ rfl) ?_
    refine F_iald (axX_0_1) (dk_X6_odds 77 _ rfl) (fun x18 => ?_)
    refine F_icmp_lt (tgt := 84) (by decide) (dk_X6_odds 78 _ rfl) ?_ ?_
    · refine F_iinc (i := 5) (n := 1) (v := (y5 + 1)) (lv' := [(5, .int (y5 + 1)), (0, .ref 0), (2, .int y2), (3, .int y3), (4, .int y4)]) rfl (by first | rfl | decide) (by decide) rfl (dk_X6_odds 84 _ rfl) ?_
      refine F_goto (tgt := 58) (by decide) (dk_X6_odds 87 _ rfl) ?_
      exact F_loc (List.forall_mem_cons.mpr ⟨(.tail _ (.head _)), (List.forall_mem_cons.mpr ⟨(.tail _ (.tail _ (.head _))), (List.forall_mem_cons.mpr ⟨(.tail _ (.tail _ (.tail _ (.head _)))), (List.forall_mem_cons.mpr ⟨(.tail _ (.tail _ (.tail _ (.tail _ (.head _))))), (List.forall_mem_cons.mpr ⟨(.head _), (fun _ z => absurd z List.not_mem_nil)⟩)⟩)⟩)⟩)⟩) (hK58 _ _ _ _ _ )
    · refine F_iinc (i := 4) (n := 1) (v := (y4 + 1)) (lv' := [(4, .int (y4 + 1)), (0, .ref 0), (2, .int y2), (3, .int y3), (5, .int y5)]) rfl (by first | rfl | decide) (by decide) rfl (dk_X6_odds 81 _ rfl) ?_
      refine F_iinc (i := 5) (n := 1) (v := (y5 + 1)) (lv' := [(5, .int (y5 + 1)), (4, .int (y4 + 1)), (0, .ref 0), (2, .int y2), (3, .int y3)]) rfl (by first | rfl | decide) (by decide) rfl (dk_X6_odds 84 _ rfl) ?_
      refine F_goto (tgt := 58) (by decide) (dk_X6_odds 87 _ rfl) ?_
      exact F_loc (List.forall_mem_cons.mpr ⟨(.tail _ (.tail _ (.head _))), (List.forall_mem_cons.mpr ⟨(.tail _ (.tail _ (.tail _ (.head _)))), (List.forall_mem_cons.mpr ⟨(.tail _ (.tail _ (.tail _ (.tail _ (.head _))))), (List.forall_mem_cons.mpr ⟨(.tail _ (.head _)), (List.forall_mem_cons.mpr ⟨(.head _), (fun _ z => absurd z List.not_mem_nil)⟩)⟩)⟩)⟩)⟩) (hK58 _ _ _ _ _ )
theorem j_X6_odds_58   : ∀ (F : Nat) (m : mM) (y2 : Int32) (y3 : Int32) (y4 : Int32) (y5 : Int32) , JF true uL m_X6_odds 8 58 [(0, .ref 0), (2, .int y2), (3, .int y3), (4, .int y4), (5, .int y5)] [] m (f_X6_odds_58  F m y2 y3 y4 y5) := by
  intro F
  induction F with
  | zero => intro m y2 y3 y4 y5 ; exact F_no
  | succ F ih => intro m y2 y3 y4 y5 ; exact jb_X6_odds_58  (f_X6_odds_58  F)  ih m y2 y3 y4 y5 
def f_X6_odds (m : mM) (p1 : Int32) (p2 : Int32) (p3 : Int32) : fR Int64 :=
  bnd (f_X6_isPerson m p1) fun (x1 : Int32) (m2 : mM) => (if x1 = 0 then some ((-9223372036854775808), m2) else bnd (f_X6_isDay m2 p2) fun (x4 : Int32) (m5 : mM) => (if x4 = 0 then some ((-9223372036854775808), m5) else bnd (f_X2_copy m5 32 14) fun (x7 : Unit) (m8 : mM) => chR true 5 (mR m8 900) fun r10 => bnd (f_X6_tryDays m8 35 p1 ((mI m8 (64 * r10 + 0)))) fun (x11 : Unit) (m12 : mM) => (f_X6_odds_58  1000 m12 p2 p3 0 0)))
theorem c_X6_odds (m : mM) (p1 : Int32) (p2 : Int32) (p3 : Int32)  : cF true uL m_X6_odds 8 [.ref 0, .int p1, .int p2, .int p3] m (f_X6_odds m p1 p2 p3) := by
  refine cF_of ok_X6_odds (fun _ _ => Nat.le_of_ble_eq_true rfl) ?_
  unfold f_X6_odds
  show JF _ _ _ _ _ [(0, .ref 0), (1, .int p1), (2, .int p2), (3, .int p3)] _ _ _
  refine F_aload_n (i := 0) (a := 0) rfl rfl (dk_X6_odds 0 _ rfl) ?_
  refine F_iload_n (i := 1) (a := 1) rfl rfl (dk_X6_odds 1 _ rfl) ?_
  refine F_callV (ι' := uI) (ci := 6) (b := 0) (As := [.int p1]) (d' := 2) (rfl) ok_X6_isPerson vi_X6_isPerson cl_6_79 (n := 1) (by decide +kernel) rfl rfl rfl (Nat.le_of_ble_eq_true rfl) (by omega) (dk_X6_odds 2 _ rfl) (c_X6_isPerson _ _ ) (fun x1 m2 => ?_)
  show JF _ _ _ _ _ _ [.int x1] _ _
  refine F_if_eq (tgt := 15) (by decide) (dk_X6_odds 5 _ rfl) ?_ ?_
  · refine F_ldc2 (v := (-9223372036854775808)) ctl_6_203 (dk_X6_odds 15 _ rfl) ?_
    exact F_retL rfl (dk_X6_odds 18 _ rfl)
  · refine F_iload_n (i := 2) (a := 2) rfl rfl (dk_X6_odds 8 _ rfl) ?_
    refine F_callS (ι' := uI) (As := [.int p2]) (d' := 2) ok_X6_isDay st_X6_isDay cl_6_67 rfl (n := 1) (by decide +kernel) rfl (Nat.le_of_ble_eq_true rfl) (by omega) (dk_X6_odds 9 _ rfl) (c_X6_isDay _ _ ) (fun x4 m5 => ?_)
    show JF _ _ _ _ _ _ [.int x4] _ _
    refine F_if_ne (tgt := 19) (by decide) (dk_X6_odds 12 _ rfl) ?_ ?_
    · refine F_aload_n (i := 0) (a := 0) rfl rfl (dk_X6_odds 19 _ rfl) ?_
      refine F_gR (b := 32) fxX_6_2_0 fl_6_54 (dk_X6_odds 20 _ rfl) ?_
      refine F_aload_n (i := 0) (a := 0) rfl rfl (dk_X6_odds 23 _ rfl) ?_
      refine F_gR (b := 14) fxX_6_0_0 fl_6_47 (dk_X6_odds 24 _ rfl) ?_
      refine F_callV (ι' := uU) (ci := 2) (b := 32) (As := [.ref 14]) (d' := 2) (rfl) ok_X2_copy vi_X2_copy cl_6_185 (n := 1) (by decide +kernel) rfl rfl rfl (Nat.le_of_ble_eq_true rfl) (by omega) (dk_X6_odds 27 _ rfl) (c_X2_copy _ _ _ (rfl) (rfl)) (fun x7 m8 => ?_)
      show JF _ _ _ _ _ _ [] _ _
      refine F_aload_n (i := 0) (a := 0) rfl rfl (dk_X6_odds 30 _ rfl) ?_
      refine F_aload_n (i := 0) (a := 0) rfl rfl (dk_X6_odds 31 _ rfl) ?_
      refine F_gR (b := 32) fxX_6_2_0 fl_6_54 (dk_X6_odds 32 _ rfl) ?_
      refine F_gR (b := 35) fxX_2_7_32 fl_6_103 (dk_X6_odds 35 _ rfl) ?_
      refine F_iload_n (i := 1) (a := 1) rfl rfl (dk_X6_odds 38 _ rfl) ?_
      refine F_aload_n (i := 0) (a := 0) rfl rfl (dk_X6_odds 39 _ rfl) ?_
      refine F_gR (b := 14) fxX_6_0_0 fl_6_47 (dk_X6_odds 40 _ rfl) ?_
      refine F_gV (n := 900) fxX_2_4_14 rfl fl_6_83 (dk_X6_odds 43 _ rfl) ?_
      refine F_ch (fun r10 hr10 => ?_)
      refine F_gI (n := (64 * r10 + 0)) (lyT_0 hr10) rfl fl_6_87 (dk_X6_odds 46 _ rfl) ?_
      refine F_callV (ι' := uU) (ci := 6) (b := 0) (As := [.ref 35, .int p1, .int (mI m8 (64 * r10 + 0))]) (d' := 7) (rfl) ok_X6_tryDays vi_X6_tryDays cl_6_192 (n := 3) (by decide +kernel) rfl rfl rfl (Nat.le_of_ble_eq_true rfl) (by omega) (dk_X6_odds 49 _ rfl) (c_X6_tryDays _ _ _ _ (axX_0_35)) (fun x11 m12 => ?_)
      show JF _ _ _ _ _ _ [] _ _
      refine F_iconst (v := 0) (by decide) (dk_X6_odds 52 _ rfl) ?_
      refine F_istore (lv' := [(4, .int 0), (0, .ref 0), (1, .int p1), (2, .int p2), (3, .int p3)]) (i := 4) (by decide) rfl (dk_X6_odds 53 _ rfl) ?_
      refine F_iconst (v := 0) (by decide) (dk_X6_odds 55 _ rfl) ?_
      refine F_istore (lv' := [(5, .int 0), (4, .int 0), (0, .ref 0), (1, .int p1), (2, .int p2), (3, .int p3)]) (i := 5) (by decide) rfl (dk_X6_odds 56 _ rfl) ?_
      exact F_loc (List.forall_mem_cons.mpr ⟨(.tail _ (.tail _ (.head _))), (List.forall_mem_cons.mpr ⟨(.tail _ (.tail _ (.tail _ (.tail _ (.head _))))), (List.forall_mem_cons.mpr ⟨(.tail _ (.tail _ (.tail _ (.tail _ (.tail _ (.head _)))))), (List.forall_mem_cons.mpr ⟨(.tail _ (.head _)), (List.forall_mem_cons.mpr ⟨(.head _), (fun _ z => absurd z List.not_mem_nil)⟩)⟩)⟩)⟩)⟩) (j_X6_odds_58   1000 _ _ _ _ _ )
    · refine F_ldc2 (v := (-9223372036854775808)) ctl_6_203 (dk_X6_odds 15 _ rfl) ?_
      exact F_retL rfl (dk_X6_odds 18 _ rfl)
def fb_X6_mean_4 (K4 : mM → Int32 → Int32 → Int32 → fR Int64) (m : mM) (y1 : Int32) (y2 : Int32) (y3 : Int32) : fR Int64 :=
  (if (mI m 896) ≤ y3 then chR true 5 (mR m 900) fun r1 => bnd (f_X6_goYear m 14 ((mI m (64 * r1 + 0)))) fun (x2 : Unit) (m3 : mM) => bnd (f_X6_gainOfOthers m3 14 (-1)) fun (x5 : Int32) (m6 : mM) => bnd (f_X6_fraction m6 x5 y2 y1) fun (x8 : Int64) (m9 : mM) => some (x8, m9) else (gA (mA m 20) y3).bind fun x11 => (if x11 = 0 then (K4 m y1 y2 (y3 + 1)) else (K4 m y1 (y2 + 1) (y3 + 1))))
def f_X6_mean_4  : Nat → mM → Int32 → Int32 → Int32 → fR Int64
  | 0, _, _, _, _ => none
  | F + 1, m, y1, y2, y3 => fb_X6_mean_4  (f_X6_mean_4  F) m y1 y2 y3
theorem jb_X6_mean_4 (K4 : mM → Int32 → Int32 → Int32 → fR Int64) (hK4 : ∀ (m : mM) (y1 : Int32) (y2 : Int32) (y3 : Int32) , JF true uL m_X6_mean 8 4 [(0, .ref 0), (1, .int y1), (2, .int y2), (3, .int y3)] [] m (K4 m y1 y2 y3)) (m : mM) (y1 : Int32) (y2 : Int32) (y3 : Int32)  : JF true uL m_X6_mean 8 4 [(0, .ref 0), (1, .int y1), (2, .int y2), (3, .int y3)] [] m (fb_X6_mean_4 K4 m y1 y2 y3) := by
  unfold fb_X6_mean_4
  refine F_iload_n (i := 3) (a := 3) rfl rfl (dk_X6_mean 4 _ rfl) ?_
  refine F_aload_n (i := 0) (a := 0) rfl rfl (dk_X6_mean 5 _ rfl) ?_
  refine F_gR (b := 14) fxX_6_0_0 fl_6_47 (dk_X6_mean 6 _ rfl) ?_
  refine F_gI (n := 896) fxX_2_0_14 rfl fl_6_71 (dk_X6_mean 9 _ rfl) ?_
  refine F_icmp_ge (tgt := 36) (by decide) (dk_X6_mean 12 _ rfl) ?_ ?_
  · refine F_aload_n (i := 0) (a := 0) rfl rfl (dk_X6_mean 36 _ rfl) ?_
    refine F_aload_n (i := 0) (a := 0) rfl rfl (dk_X6_mean 37 _ rfl) ?_
    refine F_gR (b := 14) fxX_6_0_0 fl_6_47 (dk_X6_mean 38 _ rfl) ?_
    refine F_aload_n (i := 0) (a := 0) rfl rfl (dk_X6_mean 41 _ rfl) ?_
    refine F_gR (b := 14) fxX_6_0_0 fl_6_47 (dk_X6_mean 42 _ rfl) ?_
    refine F_gV (n := 900) fxX_2_4_14 rfl fl_6_83 (dk_X6_mean 45 _ rfl) ?_
    refine F_ch (fun r1 hr1 => ?_)
    refine F_gI (n := (64 * r1 + 0)) (lyT_0 hr1) rfl fl_6_87 (dk_X6_mean 48 _ rfl) ?_
    refine F_callV (ι' := uU) (ci := 6) (b := 0) (As := [.ref 14, .int (mI m (64 * r1 + 0))]) (d' := 7) (rfl) ok_X6_goYear vi_X6_goYear cl_6_182 (n := 2) (by decide +kernel) rfl rfl rfl (Nat.le_of_ble_eq_true rfl) (by omega) (dk_X6_mean 51 _ rfl) (c_X6_goYear _ _ _ (rfl)) (fun x2 m3 => ?_)
    show JF _ _ _ _ _ _ [] _ _
    refine F_aload_n (i := 0) (a := 0) rfl rfl (dk_X6_mean 54 _ rfl) ?_
    refine F_aload_n (i := 0) (a := 0) rfl rfl (dk_X6_mean 55 _ rfl) ?_
    refine F_gR (b := 14) fxX_6_0_0 fl_6_47 (dk_X6_mean 56 _ rfl) ?_
    refine F_iconst (v := (-1)) (by decide) (dk_X6_mean 59 _ rfl) ?_
    refine F_callV (ι' := uI) (ci := 6) (b := 0) (As := [.ref 14, .int (-1)]) (d' := 2) (rfl) ok_X6_gainOfOthers vi_X6_gainOfOthers cl_6_199 (n := 2) (by decide +kernel) rfl rfl rfl (Nat.le_of_ble_eq_true rfl) (by omega) (dk_X6_mean 60 _ rfl) (c_X6_gainOfOthers _ _ _ (rfl)) (fun x5 m6 => ?_)
    show JF _ _ _ _ _ _ [.int x5] _ _
    refine F_iload_n (i := 2) (a := 2) rfl rfl (dk_X6_mean 63 _ rfl) ?_
    refine F_iload_n (i := 1) (a := 1) rfl rfl (dk_X6_mean 64 _ rfl) ?_
    refine F_callS (ι' := uL) (As := [.int x5, .int y2, .int y1]) (d' := 2) ok_X6_fraction st_X6_fraction cl_6_205 rfl (n := 3) (by decide +kernel) rfl (Nat.le_of_ble_eq_true rfl) (by omega) (dk_X6_mean 65 _ rfl) (c_X6_fraction _ _ _ _ ) (fun x8 m9 => ?_)
    show JF _ _ _ _ _ _ [.long x8] _ _
    exact F_retL rfl (dk_X6_mean 68 _ rfl)
  · refine F_aload_n (i := 0) (a := 0) rfl rfl (dk_X6_mean 15 _ rfl) ?_
    refine F_gR (b := 14) fxX_6_0_0 fl_6_47 (dk_X6_mean 16 _ rfl) ?_
    refine F_gR (b := 20) fxX_2_10_14 fl_6_109 (dk_X6_mean 19 _ rfl) ?_
    refine F_iload_n (i := 3) (a := 3) rfl rfl (dk_X6_mean 22 _ rfl) ?_
    refine F_zald (axX_3_20) (dk_X6_mean 23 _ rfl) (fun x11 => ?_)
    refine F_if_eq (tgt := 30) (by decide) (dk_X6_mean 24 _ rfl) ?_ ?_
    · refine F_iinc (i := 3) (n := 1) (v := (y3 + 1)) (lv' := [(3, .int (y3 + 1)), (0, .ref 0), (1, .int y1), (2, .int y2)]) rfl (by first | rfl | decide) (by decide) rfl (dk_X6_mean 30 _ rfl) ?_
      refine F_goto (tgt := 4) (by decide) (dk_X6_mean 33 _ rfl) ?_
      exact F_loc (List.forall_mem_cons.mpr ⟨(.tail _ (.head _)), (List.forall_mem_cons.mpr ⟨(.tail _ (.tail _ (.head _))), (List.forall_mem_cons.mpr ⟨(.tail _ (.tail _ (.tail _ (.head _)))), (List.forall_mem_cons.mpr ⟨(.head _), (fun _ z => absurd z List.not_mem_nil)⟩)⟩)⟩)⟩) (hK4 _ _ _ _ )
    · refine F_iinc (i := 2) (n := 1) (v := (y2 + 1)) (lv' := [(2, .int (y2 + 1)), (0, .ref 0), (1, .int y1), (3, .int y3)]) rfl (by first | rfl | decide) (by decide) rfl (dk_X6_mean 27 _ rfl) ?_
      refine F_iinc (i := 3) (n := 1) (v := (y3 + 1)) (lv' := [(3, .int (y3 + 1)), (2, .int (y2 + 1)), (0, .ref 0), (1, .int y1)]) rfl (by first | rfl | decide) (by decide) rfl (dk_X6_mean 30 _ rfl) ?_
      refine F_goto (tgt := 4) (by decide) (dk_X6_mean 33 _ rfl) ?_
      exact F_loc (List.forall_mem_cons.mpr ⟨(.tail _ (.tail _ (.head _))), (List.forall_mem_cons.mpr ⟨(.tail _ (.tail _ (.tail _ (.head _)))), (List.forall_mem_cons.mpr ⟨(.tail _ (.head _)), (List.forall_mem_cons.mpr ⟨(.head _), (fun _ z => absurd z List.not_mem_nil)⟩)⟩)⟩)⟩) (hK4 _ _ _ _ )
theorem j_X6_mean_4   : ∀ (F : Nat) (m : mM) (y1 : Int32) (y2 : Int32) (y3 : Int32) , JF true uL m_X6_mean 8 4 [(0, .ref 0), (1, .int y1), (2, .int y2), (3, .int y3)] [] m (f_X6_mean_4  F m y1 y2 y3) := by
  intro F
  induction F with
  | zero => intro m y1 y2 y3 ; exact F_no
  | succ F ih => intro m y1 y2 y3 ; exact jb_X6_mean_4  (f_X6_mean_4  F)  ih m y1 y2 y3 
def f_X6_mean (m : mM) (p1 : Int32) : fR Int64 :=
  (f_X6_mean_4  1000 m p1 0 0)
theorem c_X6_mean (m : mM) (p1 : Int32)  : cF true uL m_X6_mean 8 [.ref 0, .int p1] m (f_X6_mean m p1) := by
  refine cF_of ok_X6_mean (fun _ _ => Nat.le_of_ble_eq_true rfl) ?_
  unfold f_X6_mean
  show JF _ _ _ _ _ [(0, .ref 0), (1, .int p1)] _ _ _
  refine F_iconst (v := 0) (by decide) (dk_X6_mean 0 _ rfl) ?_
  refine F_istore_n (lv' := [(2, .int 0), (0, .ref 0), (1, .int p1)]) (i := 2) (a := 2) rfl (by decide) rfl (dk_X6_mean 1 _ rfl) ?_
  refine F_iconst (v := 0) (by decide) (dk_X6_mean 2 _ rfl) ?_
  refine F_istore_n (lv' := [(3, .int 0), (2, .int 0), (0, .ref 0), (1, .int p1)]) (i := 3) (a := 3) rfl (by decide) rfl (dk_X6_mean 3 _ rfl) ?_
  exact F_loc (List.forall_mem_cons.mpr ⟨(.tail _ (.tail _ (.head _))), (List.forall_mem_cons.mpr ⟨(.tail _ (.tail _ (.tail _ (.head _)))), (List.forall_mem_cons.mpr ⟨(.tail _ (.head _)), (List.forall_mem_cons.mpr ⟨(.head _), (fun _ z => absurd z List.not_mem_nil)⟩)⟩)⟩)⟩) (j_X6_mean_4   1000 _ _ _ _ )
def f_X6_book (m : mM) (p1 : Int32) : fR Int32 :=
  (if p1 = (-10000) then nmM (wI m 899 0) fun m3 => some (0, m3) else (if p1 < (-9999) then some ((-2), m) else (if p1 ≤ 9999 then (if (mI m 899) < 12 then (sA 0 m 22 (mI m 899) p1).bind fun m1 => nmM (wI m1 899 (((mI m1 899) + 1))) fun m2 => some ((mI m2 899), m2) else some ((-4), m)) else some ((-2), m))))
theorem c_X6_book (m : mM) (p1 : Int32)  : cF true uI m_X6_book 2 [.ref 0, .int p1] m (f_X6_book m p1) := by
  refine cF_of ok_X6_book (fun _ _ => Nat.le_of_ble_eq_true rfl) ?_
  unfold f_X6_book
  show JF _ _ _ _ _ [(0, .ref 0), (1, .int p1)] _ _ _
  refine F_iload_n (i := 1) (a := 1) rfl rfl (dk_X6_book 0 _ rfl) ?_
  refine F_sipush (v := (-10000)) (by decide) (dk_X6_book 1 _ rfl) ?_
  refine F_icmp_ne (tgt := 17) (by decide) (dk_X6_book 4 _ rfl) ?_ ?_
  · refine F_iload_n (i := 1) (a := 1) rfl rfl (dk_X6_book 17 _ rfl) ?_
    refine F_sipush (v := (-9999)) (by decide) (dk_X6_book 18 _ rfl) ?_
    refine F_icmp_lt (tgt := 31) (by decide) (dk_X6_book 21 _ rfl) ?_ ?_
    · refine F_bipush (v := (-2)) (by decide) (dk_X6_book 31 _ rfl) ?_
      exact F_ret rfl (dk_X6_book 33 _ rfl)
    · refine F_iload_n (i := 1) (a := 1) rfl rfl (dk_X6_book 24 _ rfl) ?_
      refine F_sipush (v := 9999) (by decide) (dk_X6_book 25 _ rfl) ?_
      refine F_icmp_le (tgt := 34) (by decide) (dk_X6_book 28 _ rfl) ?_ ?_
      · refine F_aload_n (i := 0) (a := 0) rfl rfl (dk_X6_book 34 _ rfl) ?_
        refine F_gR (b := 14) fxX_6_0_0 fl_6_47 (dk_X6_book 35 _ rfl) ?_
        refine F_gI (n := 899) fxX_2_3_14 rfl fl_6_209 (dk_X6_book 38 _ rfl) ?_
        refine F_bipush (v := 12) (by decide) (dk_X6_book 41 _ rfl) ?_
        refine F_icmp_lt (tgt := 49) (by decide) (dk_X6_book 43 _ rfl) ?_ ?_
        · refine F_aload_n (i := 0) (a := 0) rfl rfl (dk_X6_book 49 _ rfl) ?_
          refine F_gR (b := 14) fxX_6_0_0 fl_6_47 (dk_X6_book 50 _ rfl) ?_
          refine F_gR (b := 22) fxX_2_12_14 fl_6_212 (dk_X6_book 53 _ rfl) ?_
          refine F_aload_n (i := 0) (a := 0) rfl rfl (dk_X6_book 56 _ rfl) ?_
          refine F_gR (b := 14) fxX_6_0_0 fl_6_47 (dk_X6_book 57 _ rfl) ?_
          refine F_gI (n := 899) fxX_2_3_14 rfl fl_6_209 (dk_X6_book 60 _ rfl) ?_
          refine F_iload_n (i := 1) (a := 1) rfl rfl (dk_X6_book 63 _ rfl) ?_
          refine F_iast (axX_0_22) (dk_X6_book 64 _ rfl) (fun m1 => ?_)
          refine F_aload_n (i := 0) (a := 0) rfl rfl (dk_X6_book 65 _ rfl) ?_
          refine F_gR (b := 14) fxX_6_0_0 fl_6_47 (dk_X6_book 66 _ rfl) ?_
          refine F_dup rfl (dk_X6_book 69 _ rfl) ?_
          refine F_gI (n := 899) fxX_2_3_14 rfl fl_6_209 (dk_X6_book 70 _ rfl) ?_
          refine F_iconst (v := 1) (by decide) (dk_X6_book 73 _ rfl) ?_
          refine F_iadd (dk_X6_book 74 _ rfl) ?_
          refine F_pI (n := 899) fxX_2_3_14 rfl fl_6_209 (fun q hq => by cases hq; rfl) trivial (dk_X6_book 75 _ rfl) (fun m2 => ?_)
          refine F_aload_n (i := 0) (a := 0) rfl rfl (dk_X6_book 78 _ rfl) ?_
          refine F_gR (b := 14) fxX_6_0_0 fl_6_47 (dk_X6_book 79 _ rfl) ?_
          refine F_gI (n := 899) fxX_2_3_14 rfl fl_6_209 (dk_X6_book 82 _ rfl) ?_
          exact F_ret rfl (dk_X6_book 85 _ rfl)
        · refine F_bipush (v := (-4)) (by decide) (dk_X6_book 46 _ rfl) ?_
          exact F_ret rfl (dk_X6_book 48 _ rfl)
      · refine F_bipush (v := (-2)) (by decide) (dk_X6_book 31 _ rfl) ?_
        exact F_ret rfl (dk_X6_book 33 _ rfl)
  · refine F_aload_n (i := 0) (a := 0) rfl rfl (dk_X6_book 7 _ rfl) ?_
    refine F_gR (b := 14) fxX_6_0_0 fl_6_47 (dk_X6_book 8 _ rfl) ?_
    refine F_iconst (v := 0) (by decide) (dk_X6_book 11 _ rfl) ?_
    refine F_pI (n := 899) fxX_2_3_14 rfl fl_6_209 (fun q hq => by cases hq; rfl) trivial (dk_X6_book 12 _ rfl) (fun m3 => ?_)
    refine F_iconst (v := 0) (by decide) (dk_X6_book 15 _ rfl) ?_
    exact F_ret rfl (dk_X6_book 16 _ rfl)
def fb_X6_looked_49 (K49 : mM → Int32 → Int32 → fR Int32) (m : mM) (y1 : Int32) (y2 : Int32) : fR Int32 :=
  (if (mI m 899) ≤ y2 then some ((-5), m) else bnd (f_X1_go m 1) fun (x5 : Unit) (m6 : mM) => (gA (mA m6 22) y2).bind fun x8 => (gA (mA m6 19) 0).bind fun x9 => (gA (mA m6 42) 0).bind fun x10 => (if (abI (((x8 - x9) - x10))) ≤ y1 then (K49 m6 y1 (y2 + 1)) else some (y2, m6)))
def f_X6_looked_49  : Nat → mM → Int32 → Int32 → fR Int32
  | 0, _, _, _ => none
  | F + 1, m, y1, y2 => fb_X6_looked_49  (f_X6_looked_49  F) m y1 y2
theorem jb_X6_looked_49 (K49 : mM → Int32 → Int32 → fR Int32) (hK49 : ∀ (m : mM) (y1 : Int32) (y2 : Int32) , JF true uI m_X6_looked 7 49 [(0, .ref 0), (1, .int y1), (2, .int y2)] [] m (K49 m y1 y2)) (m : mM) (y1 : Int32) (y2 : Int32)  : JF true uI m_X6_looked 7 49 [(0, .ref 0), (1, .int y1), (2, .int y2)] [] m (fb_X6_looked_49 K49 m y1 y2) := by
  unfold fb_X6_looked_49
  refine F_iload_n (i := 2) (a := 2) rfl rfl (dk_X6_looked 49 _ rfl) ?_
  refine F_aload_n (i := 0) (a := 0) rfl rfl (dk_X6_looked 50 _ rfl) ?_
  refine F_gR (b := 14) fxX_6_0_0 fl_6_47 (dk_X6_looked 51 _ rfl) ?_
  refine F_gI (n := 899) fxX_2_3_14 rfl fl_6_209 (dk_X6_looked 54 _ rfl) ?_
  refine F_icmp_ge (tgt := 112) (by decide) (dk_X6_looked 57 _ rfl) ?_ ?_
  · refine F_bipush (v := (-5)) (by decide) (dk_X6_looked 112 _ rfl) ?_
    exact F_ret rfl (dk_X6_looked 114 _ rfl)
  · refine F_aload_n (i := 0) (a := 0) rfl rfl (dk_X6_looked 60 _ rfl) ?_
    refine F_gR (b := 41) fxX_6_4_0 fl_6_62 (dk_X6_looked 61 _ rfl) ?_
    refine F_iconst (v := 1) (by decide) (dk_X6_looked 64 _ rfl) ?_
    refine F_callV (ι' := uU) (ci := 1) (b := 41) (As := [.int 1]) (d' := 6) (rfl) ok_X1_go vi_X1_go cl_6_166 (n := 1) (by decide +kernel) rfl rfl rfl (Nat.le_of_ble_eq_true rfl) (by omega) (dk_X6_looked 65 _ rfl) (c_X1_go _ _ ) (fun x5 m6 => ?_)
    show JF _ _ _ _ _ _ [] _ _
    refine F_aload_n (i := 0) (a := 0) rfl rfl (dk_X6_looked 68 _ rfl) ?_
    refine F_gR (b := 14) fxX_6_0_0 fl_6_47 (dk_X6_looked 69 _ rfl) ?_
    refine F_gR (b := 22) fxX_2_12_14 fl_6_212 (dk_X6_looked 72 _ rfl) ?_
    refine F_iload_n (i := 2) (a := 2) rfl rfl (dk_X6_looked 75 _ rfl) ?_
    refine F_iald (axX_0_22) (dk_X6_looked 76 _ rfl) (fun x8 => ?_)
    refine F_aload_n (i := 0) (a := 0) rfl rfl (dk_X6_looked 77 _ rfl) ?_
    refine F_gR (b := 14) fxX_6_0_0 fl_6_47 (dk_X6_looked 78 _ rfl) ?_
    refine F_gR (b := 19) fxX_2_9_14 fl_6_121 (dk_X6_looked 81 _ rfl) ?_
    refine F_iconst (v := 0) (by decide) (dk_X6_looked 84 _ rfl) ?_
    refine F_iald (axX_0_19) (dk_X6_looked 85 _ rfl) (fun x9 => ?_)
    refine F_isub (dk_X6_looked 86 _ rfl) ?_
    refine F_aload_n (i := 0) (a := 0) rfl rfl (dk_X6_looked 87 _ rfl) ?_
    refine F_gR (b := 41) fxX_6_4_0 fl_6_62 (dk_X6_looked 88 _ rfl) ?_
    refine F_gR (b := 42) fxX_1_5_41 fl_6_170 (dk_X6_looked 91 _ rfl) ?_
    refine F_iconst (v := 0) (by decide) (dk_X6_looked 94 _ rfl) ?_
    refine F_iald (axX_0_42) (dk_X6_looked 95 _ rfl) (fun x10 => ?_)
    refine F_isub (dk_X6_looked 96 _ rfl) ?_
    refine F_abs ol_6_215 (Nat.le_of_ble_eq_true rfl) (by omega) (dk_X6_looked 97 _ rfl) ?_
    refine F_iload_n (i := 1) (a := 1) rfl rfl (dk_X6_looked 100 _ rfl) ?_
    refine F_icmp_le (tgt := 106) (by decide) (dk_X6_looked 101 _ rfl) ?_ ?_
    · refine F_iinc (i := 2) (n := 1) (v := (y2 + 1)) (lv' := [(2, .int (y2 + 1)), (0, .ref 0), (1, .int y1)]) rfl (by first | rfl | decide) (by decide) rfl (dk_X6_looked 106 _ rfl) ?_
      refine F_goto (tgt := 49) (by decide) (dk_X6_looked 109 _ rfl) ?_
      exact F_loc (List.forall_mem_cons.mpr ⟨(.tail _ (.head _)), (List.forall_mem_cons.mpr ⟨(.tail _ (.tail _ (.head _))), (List.forall_mem_cons.mpr ⟨(.head _), (fun _ z => absurd z List.not_mem_nil)⟩)⟩)⟩) (hK49 _ _ _ )
    · refine F_iload_n (i := 2) (a := 2) rfl rfl (dk_X6_looked 104 _ rfl) ?_
      exact F_ret rfl (dk_X6_looked 105 _ rfl)
theorem j_X6_looked_49   : ∀ (F : Nat) (m : mM) (y1 : Int32) (y2 : Int32) , JF true uI m_X6_looked 7 49 [(0, .ref 0), (1, .int y1), (2, .int y2)] [] m (f_X6_looked_49  F m y1 y2) := by
  intro F
  induction F with
  | zero => intro m y1 y2 ; exact F_no
  | succ F ih => intro m y1 y2 ; exact jb_X6_looked_49  (f_X6_looked_49  F)  ih m y1 y2 
def f_X6_looked (m : mM) (p1 : Int32) : fR Int32 :=
  (if p1 < 0 then some ((-2), m) else (if p1 ≤ 99 then (if (mI m 896) = 0 then some ((-3), m) else chR true 5 (mR m 900) fun r1 => bnd (f_X1_start m 14 ((mI m (64 * r1 + 0)))) fun (x2 : Unit) (m3 : mM) => (f_X6_looked_49  1000 m3 p1 0)) else some ((-2), m)))
theorem c_X6_looked (m : mM) (p1 : Int32)  : cF true uI m_X6_looked 7 [.ref 0, .int p1] m (f_X6_looked m p1) := by
  refine cF_of ok_X6_looked (fun _ _ => Nat.le_of_ble_eq_true rfl) ?_
  unfold f_X6_looked
  show JF _ _ _ _ _ [(0, .ref 0), (1, .int p1)] _ _ _
  refine F_iload_n (i := 1) (a := 1) rfl rfl (dk_X6_looked 0 _ rfl) ?_
  refine F_if_lt (tgt := 10) (by decide) (dk_X6_looked 1 _ rfl) ?_ ?_
  · refine F_bipush (v := (-2)) (by decide) (dk_X6_looked 10 _ rfl) ?_
    exact F_ret rfl (dk_X6_looked 12 _ rfl)
  · refine F_iload_n (i := 1) (a := 1) rfl rfl (dk_X6_looked 4 _ rfl) ?_
    refine F_bipush (v := 99) (by decide) (dk_X6_looked 5 _ rfl) ?_
    refine F_icmp_le (tgt := 13) (by decide) (dk_X6_looked 7 _ rfl) ?_ ?_
    · refine F_aload_n (i := 0) (a := 0) rfl rfl (dk_X6_looked 13 _ rfl) ?_
      refine F_gR (b := 14) fxX_6_0_0 fl_6_47 (dk_X6_looked 14 _ rfl) ?_
      refine F_gI (n := 896) fxX_2_0_14 rfl fl_6_71 (dk_X6_looked 17 _ rfl) ?_
      refine F_if_ne (tgt := 26) (by decide) (dk_X6_looked 20 _ rfl) ?_ ?_
      · refine F_aload_n (i := 0) (a := 0) rfl rfl (dk_X6_looked 26 _ rfl) ?_
        refine F_gR (b := 41) fxX_6_4_0 fl_6_62 (dk_X6_looked 27 _ rfl) ?_
        refine F_aload_n (i := 0) (a := 0) rfl rfl (dk_X6_looked 30 _ rfl) ?_
        refine F_gR (b := 14) fxX_6_0_0 fl_6_47 (dk_X6_looked 31 _ rfl) ?_
        refine F_aload_n (i := 0) (a := 0) rfl rfl (dk_X6_looked 34 _ rfl) ?_
        refine F_gR (b := 14) fxX_6_0_0 fl_6_47 (dk_X6_looked 35 _ rfl) ?_
        refine F_gV (n := 900) fxX_2_4_14 rfl fl_6_83 (dk_X6_looked 38 _ rfl) ?_
        refine F_ch (fun r1 hr1 => ?_)
        refine F_gI (n := (64 * r1 + 0)) (lyT_0 hr1) rfl fl_6_87 (dk_X6_looked 41 _ rfl) ?_
        refine F_callV (ι' := uU) (ci := 1) (b := 41) (As := [.ref 14, .int (mI m (64 * r1 + 0))]) (d' := 5) (rfl) ok_X1_start vi_X1_start cl_6_90 (n := 2) (by decide +kernel) rfl rfl rfl (Nat.le_of_ble_eq_true rfl) (by omega) (dk_X6_looked 44 _ rfl) (c_X1_start _ _ _ (rfl)) (fun x2 m3 => ?_)
        show JF _ _ _ _ _ _ [] _ _
        refine F_iconst (v := 0) (by decide) (dk_X6_looked 47 _ rfl) ?_
        refine F_istore_n (lv' := [(2, .int 0), (0, .ref 0), (1, .int p1)]) (i := 2) (a := 2) rfl (by decide) rfl (dk_X6_looked 48 _ rfl) ?_
        exact F_loc (List.forall_mem_cons.mpr ⟨(.tail _ (.head _)), (List.forall_mem_cons.mpr ⟨(.tail _ (.tail _ (.head _))), (List.forall_mem_cons.mpr ⟨(.head _), (fun _ z => absurd z List.not_mem_nil)⟩)⟩)⟩) (j_X6_looked_49   1000 _ _ _ )
      · refine F_bipush (v := (-3)) (by decide) (dk_X6_looked 23 _ rfl) ?_
        exact F_ret rfl (dk_X6_looked 25 _ rfl)
    · refine F_bipush (v := (-2)) (by decide) (dk_X6_looked 10 _ rfl) ?_
      exact F_ret rfl (dk_X6_looked 12 _ rfl)
def f_X6_isTape (m : mM) (p0 : Int32) : fR Int32 :=
  (if p0 < 0 then some (0, m) else (if 6 ≤ p0 then some (0, m) else some (1, m)))
theorem c_X6_isTape (m : mM) (p0 : Int32)  : cF true uI m_X6_isTape 2 [.int p0] m (f_X6_isTape m p0) := by
  refine cF_of ok_X6_isTape (fun _ _ => Nat.le_of_ble_eq_true rfl) ?_
  unfold f_X6_isTape
  show JF _ _ _ _ _ [(0, .int p0)] _ _ _
  refine F_iload_n (i := 0) (a := 0) rfl rfl (dk_X6_isTape 0 _ rfl) ?_
  refine F_if_lt (tgt := 14) (by decide) (dk_X6_isTape 1 _ rfl) ?_ ?_
  · refine F_iconst (v := 0) (by decide) (dk_X6_isTape 14 _ rfl) ?_
    exact F_retB rfl (Or.inl rfl) (dk_X6_isTape 15 _ rfl)
  · refine F_iload_n (i := 0) (a := 0) rfl rfl (dk_X6_isTape 4 _ rfl) ?_
    refine F_bipush (v := 6) (by decide) (dk_X6_isTape 5 _ rfl) ?_
    refine F_icmp_ge (tgt := 14) (by decide) (dk_X6_isTape 7 _ rfl) ?_ ?_
    · refine F_iconst (v := 0) (by decide) (dk_X6_isTape 14 _ rfl) ?_
      exact F_retB rfl (Or.inl rfl) (dk_X6_isTape 15 _ rfl)
    · refine F_iconst (v := 1) (by decide) (dk_X6_isTape 10 _ rfl) ?_
      refine F_goto (tgt := 15) (by decide) (dk_X6_isTape 11 _ rfl) ?_
      exact F_retB rfl (Or.inr rfl) (dk_X6_isTape 15 _ rfl)
def fb_X6_judge_38 (K38 : mM → Int32 → Nat → Int32 → fR Int32) (m : mM) (y2 : Int32) (y3 : Nat) (y4 : Int32) : fR Int32 :=
  (if (mI m 896) ≤ y4 then some ((-5), m) else (if y2 < 0 then some ((100 + y4), m) else (if y2 < ((mI m (64 * y3 + 1)) - y4) then (gL (mL m (y3 + 1)) (y2 + y4)).bind fun x6 => (gA (mA m 19) y4).bind fun x7 => (if (lg_cmp x6 (x7 : Int32).toInt64) = 0 then (K38 m y2 y3 (y4 + 1)) else some (y4, m)) else some ((100 + y4), m))))
def f_X6_judge_38  : Nat → mM → Int32 → Nat → Int32 → fR Int32
  | 0, _, _, _, _ => none
  | F + 1, m, y2, y3, y4 => fb_X6_judge_38  (f_X6_judge_38  F) m y2 y3 y4
theorem jb_X6_judge_38 (K38 : mM → Int32 → Nat → Int32 → fR Int32) (hK38 : ∀ (m : mM) (y2 : Int32) (y3 : Nat) (y4 : Int32) (hy3 : isC true 3 y3 = true), JF true uI m_X6_judge 3 38 [(0, .ref 0), (2, .int y2), (3, .ref y3), (4, .int y4)] [] m (K38 m y2 y3 y4)) (m : mM) (y2 : Int32) (y3 : Nat) (y4 : Int32) (hy3 : isC true 3 y3 = true) : JF true uI m_X6_judge 3 38 [(0, .ref 0), (2, .int y2), (3, .ref y3), (4, .int y4)] [] m (fb_X6_judge_38 K38 m y2 y3 y4) := by
  unfold fb_X6_judge_38
  refine F_iload (i := 4) rfl (dk_X6_judge 38 _ rfl) ?_
  refine F_aload_n (i := 0) (a := 0) rfl rfl (dk_X6_judge 40 _ rfl) ?_
  refine F_gR (b := 14) fxX_6_0_0 fl_6_47 (dk_X6_judge 41 _ rfl) ?_
  refine F_gI (n := 896) fxX_2_0_14 rfl fl_6_71 (dk_X6_judge 44 _ rfl) ?_
  refine F_icmp_ge (tgt := 104) (by decide) (dk_X6_judge 47 _ rfl) ?_ ?_
  · refine F_bipush (v := (-5)) (by decide) (dk_X6_judge 104 _ rfl) ?_
    exact F_ret rfl (dk_X6_judge 106 _ rfl)
  · refine F_iload_n (i := 2) (a := 2) rfl rfl (dk_X6_judge 50 _ rfl) ?_
    refine F_if_lt (tgt := 65) (by decide) (dk_X6_judge 51 _ rfl) ?_ ?_
    · refine F_bipush (v := 100) (by decide) (dk_X6_judge 65 _ rfl) ?_
      refine F_iload (i := 4) rfl (dk_X6_judge 67 _ rfl) ?_
      refine F_iadd (dk_X6_judge 69 _ rfl) ?_
      exact F_ret rfl (dk_X6_judge 70 _ rfl)
    · refine F_iload_n (i := 2) (a := 2) rfl rfl (dk_X6_judge 54 _ rfl) ?_
      refine F_aload_n (i := 3) (a := 3) rfl rfl (dk_X6_judge 55 _ rfl) ?_
      refine F_gI (n := (64 * y3 + 1)) (lyP_1 hy3) rfl fl_6_226 (dk_X6_judge 56 _ rfl) ?_
      refine F_iload (i := 4) rfl (dk_X6_judge 59 _ rfl) ?_
      refine F_isub (dk_X6_judge 61 _ rfl) ?_
      refine F_icmp_lt (tgt := 71) (by decide) (dk_X6_judge 62 _ rfl) ?_ ?_
      · refine F_aload_n (i := 3) (a := 3) rfl rfl (dk_X6_judge 71 _ rfl) ?_
        refine F_gR (b := (y3 + 1)) (lyP_2 hy3).1 fl_6_227 (dk_X6_judge 72 _ rfl) ?_
        refine F_iload_n (i := 2) (a := 2) rfl rfl (dk_X6_judge 75 _ rfl) ?_
        refine F_iload (i := 4) rfl (dk_X6_judge 76 _ rfl) ?_
        refine F_iadd (dk_X6_judge 78 _ rfl) ?_
        refine F_lald ((lyP_2 hy3).2) (dk_X6_judge 79 _ rfl) (fun x6 => ?_)
        refine F_aload_n (i := 0) (a := 0) rfl rfl (dk_X6_judge 80 _ rfl) ?_
        refine F_gR (b := 14) fxX_6_0_0 fl_6_47 (dk_X6_judge 81 _ rfl) ?_
        refine F_gR (b := 19) fxX_2_9_14 fl_6_121 (dk_X6_judge 84 _ rfl) ?_
        refine F_iload (i := 4) rfl (dk_X6_judge 87 _ rfl) ?_
        refine F_iald (axX_0_19) (dk_X6_judge 89 _ rfl) (fun x7 => ?_)
        refine F_i2l (dk_X6_judge 90 _ rfl) ?_
        refine F_lcmp (dk_X6_judge 91 _ rfl) ?_
        refine F_if_eq (tgt := 98) (by decide) (dk_X6_judge 92 _ rfl) ?_ ?_
        · refine F_iinc (i := 4) (n := 1) (v := (y4 + 1)) (lv' := [(4, .int (y4 + 1)), (0, .ref 0), (2, .int y2), (3, .ref y3)]) rfl (by first | rfl | decide) (by decide) rfl (dk_X6_judge 98 _ rfl) ?_
          refine F_goto (tgt := 38) (by decide) (dk_X6_judge 101 _ rfl) ?_
          exact F_loc (List.forall_mem_cons.mpr ⟨(.tail _ (.head _)), (List.forall_mem_cons.mpr ⟨(.tail _ (.tail _ (.head _))), (List.forall_mem_cons.mpr ⟨(.tail _ (.tail _ (.tail _ (.head _)))), (List.forall_mem_cons.mpr ⟨(.head _), (fun _ z => absurd z List.not_mem_nil)⟩)⟩)⟩)⟩) (hK38 _ _ _ _ (hy3))
        · refine F_iload (i := 4) rfl (dk_X6_judge 95 _ rfl) ?_
          exact F_ret rfl (dk_X6_judge 97 _ rfl)
      · refine F_bipush (v := 100) (by decide) (dk_X6_judge 65 _ rfl) ?_
        refine F_iload (i := 4) rfl (dk_X6_judge 67 _ rfl) ?_
        refine F_iadd (dk_X6_judge 69 _ rfl) ?_
        exact F_ret rfl (dk_X6_judge 70 _ rfl)
theorem j_X6_judge_38   : ∀ (F : Nat) (m : mM) (y2 : Int32) (y3 : Nat) (y4 : Int32) (hy3 : isC true 3 y3 = true), JF true uI m_X6_judge 3 38 [(0, .ref 0), (2, .int y2), (3, .ref y3), (4, .int y4)] [] m (f_X6_judge_38  F m y2 y3 y4) := by
  intro F
  induction F with
  | zero => intro m y2 y3 y4 hy3; exact F_no
  | succ F ih => intro m y2 y3 y4 hy3; exact jb_X6_judge_38  (f_X6_judge_38  F)  ih m y2 y3 y4 hy3
def f_X6_judge (m : mM) (p1 : Int32) (p2 : Int32) : fR Int32 :=
  bnd (f_X6_isTape m p1) fun (x1 : Int32) (m2 : mM) => (if x1 = 0 then some ((-1), m2) else (gT [82, 84, 86, 88, 90, 92] p1).bind fun r4 => chR true 3 r4 fun r5 => (if (mI m2 (64 * r5 + 0)) = (-1) then (f_X6_judge_38  1000 m2 p2 r5 0) else (if (mI m2 (64 * r5 + 0)) = 3 then (f_X6_judge_38  1000 m2 p2 r5 0) else some ((-12), m2))))
theorem c_X6_judge (m : mM) (p1 : Int32) (p2 : Int32)  : cF true uI m_X6_judge 3 [.ref 0, .int p1, .int p2] m (f_X6_judge m p1 p2) := by
  refine cF_of ok_X6_judge (fun _ _ => Nat.le_of_ble_eq_true rfl) ?_
  unfold f_X6_judge
  show JF _ _ _ _ _ [(0, .ref 0), (1, .int p1), (2, .int p2)] _ _ _
  refine F_iload_n (i := 1) (a := 1) rfl rfl (dk_X6_judge 0 _ rfl) ?_
  refine F_callS (ι' := uI) (As := [.int p1]) (d' := 2) ok_X6_isTape st_X6_isTape cl_6_220 rfl (n := 1) (by decide +kernel) rfl (Nat.le_of_ble_eq_true rfl) (by omega) (dk_X6_judge 1 _ rfl) (c_X6_isTape _ _ ) (fun x1 m2 => ?_)
  show JF _ _ _ _ _ _ [.int x1] _ _
  refine F_if_ne (tgt := 9) (by decide) (dk_X6_judge 4 _ rfl) ?_ ?_
  · refine F_aload_n (i := 0) (a := 0) rfl rfl (dk_X6_judge 9 _ rfl) ?_
    refine F_gR (b := 7) fxX_6_10_0 fl_6_37 (dk_X6_judge 10 _ rfl) ?_
    refine F_iload_n (i := 1) (a := 1) rfl rfl (dk_X6_judge 13 _ rfl) ?_
    refine F_aald (rs := [82, 84, 86, 88, 90, 92]) (t := 5) rfl (by decide) (dk_X6_judge 14 _ rfl) (fun r4 => ?_)
    refine F_ch (fun r5 hr5 => ?_)
    refine F_astore_n (lv' := [(3, .ref r5), (0, .ref 0), (1, .int p1), (2, .int p2)]) (i := 3) (a := 3) rfl (by decide) rfl (dk_X6_judge 15 _ rfl) ?_
    refine F_aload_n (i := 3) (a := 3) rfl rfl (dk_X6_judge 16 _ rfl) ?_
    refine F_gI (n := (64 * r5 + 0)) (lyP_0 hr5) rfl fl_6_223 (dk_X6_judge 17 _ rfl) ?_
    refine F_iconst (v := (-1)) (by decide) (dk_X6_judge 20 _ rfl) ?_
    refine F_icmp_eq (tgt := 35) (by decide) (dk_X6_judge 21 _ rfl) ?_ ?_
    · refine F_iconst (v := 0) (by decide) (dk_X6_judge 35 _ rfl) ?_
      refine F_istore (lv' := [(4, .int 0), (3, .ref r5), (0, .ref 0), (1, .int p1), (2, .int p2)]) (i := 4) (by decide) rfl (dk_X6_judge 36 _ rfl) ?_
      exact F_loc (List.forall_mem_cons.mpr ⟨(.tail _ (.tail _ (.head _))), (List.forall_mem_cons.mpr ⟨(.tail _ (.tail _ (.tail _ (.tail _ (.head _))))), (List.forall_mem_cons.mpr ⟨(.tail _ (.head _)), (List.forall_mem_cons.mpr ⟨(.head _), (fun _ z => absurd z List.not_mem_nil)⟩)⟩)⟩)⟩) (j_X6_judge_38   1000 _ _ _ _ (hr5))
    · refine F_aload_n (i := 3) (a := 3) rfl rfl (dk_X6_judge 24 _ rfl) ?_
      refine F_gI (n := (64 * r5 + 0)) (lyP_0 hr5) rfl fl_6_223 (dk_X6_judge 25 _ rfl) ?_
      refine F_iconst (v := 3) (by decide) (dk_X6_judge 28 _ rfl) ?_
      refine F_icmp_eq (tgt := 35) (by decide) (dk_X6_judge 29 _ rfl) ?_ ?_
      · refine F_iconst (v := 0) (by decide) (dk_X6_judge 35 _ rfl) ?_
        refine F_istore (lv' := [(4, .int 0), (3, .ref r5), (0, .ref 0), (1, .int p1), (2, .int p2)]) (i := 4) (by decide) rfl (dk_X6_judge 36 _ rfl) ?_
        exact F_loc (List.forall_mem_cons.mpr ⟨(.tail _ (.tail _ (.head _))), (List.forall_mem_cons.mpr ⟨(.tail _ (.tail _ (.tail _ (.tail _ (.head _))))), (List.forall_mem_cons.mpr ⟨(.tail _ (.head _)), (List.forall_mem_cons.mpr ⟨(.head _), (fun _ z => absurd z List.not_mem_nil)⟩)⟩)⟩)⟩) (j_X6_judge_38   1000 _ _ _ _ (hr5))
      · refine F_bipush (v := (-12)) (by decide) (dk_X6_judge 32 _ rfl) ?_
        exact F_ret rfl (dk_X6_judge 34 _ rfl)
  · refine F_iconst (v := (-1)) (by decide) (dk_X6_judge 7 _ rfl) ?_
    exact F_ret rfl (dk_X6_judge 8 _ rfl)
end
