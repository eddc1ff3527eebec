section
set_option maxRecDepth 100000
def f_X7_birth (m : mM) (p1 : Int32) (p2 : Int32) : fR Int32 :=
  bnd (f_X7_isPerson m p1) fun (x1 : Int32) (m2 : mM) => (if x1 = 0 then some ((-10000001), m2) else bnd (f_X7_in m2 p2 0 1) fun (x4 : Int32) (m5 : mM) => (if x4 = 0 then some ((-10000001), m5) else bnd (f_X7_layBest m5 p1 1) fun (x7 : Unit) (m8 : mM) => (if p2 = 0 then some ((mI m8 34), m8) else some ((mI m8 35), m8))))
theorem c_X7_birth (m : mM) (p1 : Int32) (p2 : Int32)  : cF false uI m_X7_birth 12 [.ref 0, .int p1, .int p2] m (f_X7_birth m p1 p2) := by
  refine cF_of ok_X7_birth (fun _ _ => Nat.le_of_ble_eq_true rfl) ?_
  unfold f_X7_birth
  show JF _ _ _ _ _ [(0, .ref 0), (1, .int p1), (2, .int p2)] _ _ _
  refine F_aload_n (i := 0) (a := 0) rfl rfl (dk_X7_birth 0 _ rfl) ?_
  refine F_iload_n (i := 1) (a := 1) rfl rfl (dk_X7_birth 1 _ rfl) ?_
  refine F_callV (ι' := uI) (ci := 7) (b := 0) (As := [.int p1]) (d' := 3) (rfl) ok_X7_isPerson vi_X7_isPerson cl_7_206 (n := 1) (by decide +kernel) rfl rfl rfl (Nat.le_of_ble_eq_true rfl) (by omega) (dk_X7_birth 2 _ rfl) (c_X7_isPerson _ _ ) (fun x1 m2 => ?_)
  show JF _ _ _ _ _ _ [.int x1] _ _
  refine F_if_eq (tgt := 18) (by decide) (dk_X7_birth 5 _ rfl) ?_ ?_
  · refine F_ldcw (v := (-10000001)) ct_7_291 (dk_X7_birth 18 _ rfl) ?_
    exact F_ret rfl (dk_X7_birth 21 _ rfl)
  · refine F_aload_n (i := 0) (a := 0) rfl rfl (dk_X7_birth 8 _ rfl) ?_
    refine F_iload_n (i := 2) (a := 2) rfl rfl (dk_X7_birth 9 _ rfl) ?_
    refine F_iconst (v := 0) (by decide) (dk_X7_birth 10 _ rfl) ?_
    refine F_iconst (v := 1) (by decide) (dk_X7_birth 11 _ rfl) ?_
    refine F_callV (ι' := uI) (ci := 7) (b := 0) (As := [.int p2, .int 0, .int 1]) (d' := 2) (rfl) ok_X7_in vi_X7_in cl_7_194 (n := 3) (by decide +kernel) rfl rfl rfl (Nat.le_of_ble_eq_true rfl) (by omega) (dk_X7_birth 12 _ rfl) (c_X7_in _ _ _ _ ) (fun x4 m5 => ?_)
    show JF _ _ _ _ _ _ [.int x4] _ _
    refine F_if_ne (tgt := 22) (by decide) (dk_X7_birth 15 _ rfl) ?_ ?_
    · refine F_aload_n (i := 0) (a := 0) rfl rfl (dk_X7_birth 22 _ rfl) ?_
      refine F_iload_n (i := 1) (a := 1) rfl rfl (dk_X7_birth 23 _ rfl) ?_
      refine F_iconst (v := 1) (by decide) (dk_X7_birth 24 _ rfl) ?_
      refine F_callV (ι' := uU) (ci := 7) (b := 0) (As := [.int p1, .int 1]) (d' := 11) (rfl) ok_X7_layBest vi_X7_layBest cl_7_326 (n := 2) (by decide +kernel) rfl rfl rfl (Nat.le_of_ble_eq_true rfl) (by omega) (dk_X7_birth 25 _ rfl) (c_X7_layBest _ _ _ ) (fun x7 m8 => ?_)
      show JF _ _ _ _ _ _ [] _ _
      refine F_iload_n (i := 2) (a := 2) rfl rfl (dk_X7_birth 28 _ rfl) ?_
      refine F_if_ne (tgt := 39) (by decide) (dk_X7_birth 29 _ rfl) ?_ ?_
      · refine F_aload_n (i := 0) (a := 0) rfl rfl (dk_X7_birth 39 _ rfl) ?_
        refine F_gI (n := 35) fxM_7_35_0 rfl fl_7_117 (dk_X7_birth 40 _ rfl) ?_
        exact F_ret rfl (dk_X7_birth 43 _ rfl)
      · refine F_aload_n (i := 0) (a := 0) rfl rfl (dk_X7_birth 32 _ rfl) ?_
        refine F_gI (n := 34) fxM_7_34_0 rfl fl_7_114 (dk_X7_birth 33 _ rfl) ?_
        refine F_goto (tgt := 43) (by decide) (dk_X7_birth 36 _ rfl) ?_
        exact F_ret rfl (dk_X7_birth 43 _ rfl)
    · refine F_ldcw (v := (-10000001)) ct_7_291 (dk_X7_birth 18 _ rfl) ?_
      exact F_ret rfl (dk_X7_birth 21 _ rfl)
def f_X7_plan (m : mM) (p1 : Int32) (p2 : Int32) : fR Int32 :=
  bnd (f_X7_isPerson m p1) fun (x1 : Int32) (m2 : mM) => (if x1 = 0 then some ((-10000001), m2) else bnd (f_X7_in m2 p2 0 1) fun (x4 : Int32) (m5 : mM) => (if x4 = 0 then some ((-10000001), m5) else bnd (f_X7_layBest m5 p1 0) fun (x7 : Unit) (m8 : mM) => (if p2 = 0 then some ((mI m8 34), m8) else some ((mI m8 35), m8))))
theorem c_X7_plan (m : mM) (p1 : Int32) (p2 : Int32)  : cF false uI m_X7_plan 12 [.ref 0, .int p1, .int p2] m (f_X7_plan m p1 p2) := by
  refine cF_of ok_X7_plan (fun _ _ => Nat.le_of_ble_eq_true rfl) ?_
  unfold f_X7_plan
  show JF _ _ _ _ _ [(0, .ref 0), (1, .int p1), (2, .int p2)] _ _ _
  refine F_aload_n (i := 0) (a := 0) rfl rfl (dk_X7_plan 0 _ rfl) ?_
  refine F_iload_n (i := 1) (a := 1) rfl rfl (dk_X7_plan 1 _ rfl) ?_
  refine F_callV (ι' := uI) (ci := 7) (b := 0) (As := [.int p1]) (d' := 3) (rfl) ok_X7_isPerson vi_X7_isPerson cl_7_206 (n := 1) (by decide +kernel) rfl rfl rfl (Nat.le_of_ble_eq_true rfl) (by omega) (dk_X7_plan 2 _ rfl) (c_X7_isPerson _ _ ) (fun x1 m2 => ?_)
  show JF _ _ _ _ _ _ [.int x1] _ _
  refine F_if_eq (tgt := 18) (by decide) (dk_X7_plan 5 _ rfl) ?_ ?_
  · refine F_ldcw (v := (-10000001)) ct_7_291 (dk_X7_plan 18 _ rfl) ?_
    exact F_ret rfl (dk_X7_plan 21 _ rfl)
  · refine F_aload_n (i := 0) (a := 0) rfl rfl (dk_X7_plan 8 _ rfl) ?_
    refine F_iload_n (i := 2) (a := 2) rfl rfl (dk_X7_plan 9 _ rfl) ?_
    refine F_iconst (v := 0) (by decide) (dk_X7_plan 10 _ rfl) ?_
    refine F_iconst (v := 1) (by decide) (dk_X7_plan 11 _ rfl) ?_
    refine F_callV (ι' := uI) (ci := 7) (b := 0) (As := [.int p2, .int 0, .int 1]) (d' := 2) (rfl) ok_X7_in vi_X7_in cl_7_194 (n := 3) (by decide +kernel) rfl rfl rfl (Nat.le_of_ble_eq_true rfl) (by omega) (dk_X7_plan 12 _ rfl) (c_X7_in _ _ _ _ ) (fun x4 m5 => ?_)
    show JF _ _ _ _ _ _ [.int x4] _ _
    refine F_if_ne (tgt := 22) (by decide) (dk_X7_plan 15 _ rfl) ?_ ?_
    · refine F_aload_n (i := 0) (a := 0) rfl rfl (dk_X7_plan 22 _ rfl) ?_
      refine F_iload_n (i := 1) (a := 1) rfl rfl (dk_X7_plan 23 _ rfl) ?_
      refine F_iconst (v := 0) (by decide) (dk_X7_plan 24 _ rfl) ?_
      refine F_callV (ι' := uU) (ci := 7) (b := 0) (As := [.int p1, .int 0]) (d' := 11) (rfl) ok_X7_layBest vi_X7_layBest cl_7_326 (n := 2) (by decide +kernel) rfl rfl rfl (Nat.le_of_ble_eq_true rfl) (by omega) (dk_X7_plan 25 _ rfl) (c_X7_layBest _ _ _ ) (fun x7 m8 => ?_)
      show JF _ _ _ _ _ _ [] _ _
      refine F_iload_n (i := 2) (a := 2) rfl rfl (dk_X7_plan 28 _ rfl) ?_
      refine F_if_ne (tgt := 39) (by decide) (dk_X7_plan 29 _ rfl) ?_ ?_
      · refine F_aload_n (i := 0) (a := 0) rfl rfl (dk_X7_plan 39 _ rfl) ?_
        refine F_gI (n := 35) fxM_7_35_0 rfl fl_7_117 (dk_X7_plan 40 _ rfl) ?_
        exact F_ret rfl (dk_X7_plan 43 _ rfl)
      · refine F_aload_n (i := 0) (a := 0) rfl rfl (dk_X7_plan 32 _ rfl) ?_
        refine F_gI (n := 34) fxM_7_34_0 rfl fl_7_114 (dk_X7_plan 33 _ rfl) ?_
        refine F_goto (tgt := 43) (by decide) (dk_X7_plan 36 _ rfl) ?_
        exact F_ret rfl (dk_X7_plan 43 _ rfl)
    · refine F_ldcw (v := (-10000001)) ct_7_291 (dk_X7_plan 18 _ rfl) ?_
      exact F_ret rfl (dk_X7_plan 21 _ rfl)
def fb_X7_quiet_4 (K4 : mM → Int32 → Int32 → fR Int32) (m : mM) (y1 : Int32) (y2 : Int32) : fR Int32 :=
  (if 12 ≤ y2 then some (y1, m) else bnd (f_X7_sellOn m y2) fun (x1 : Int32) (m2 : mM) => (if x1 = 0 then nmI ((y1 ||| (1 <<< (y2 &&& 31)))) fun v5 => (K4 m2 v5 (y2 + 1)) else nmI (y1 ||| 0) fun v4 => (K4 m2 v4 (y2 + 1))))
def f_X7_quiet_4  : Nat → mM → Int32 → Int32 → fR Int32
  | 0, _, _, _ => none
  | F + 1, m, y1, y2 => fb_X7_quiet_4  (f_X7_quiet_4  F) m y1 y2
theorem jb_X7_quiet_4 (K4 : mM → Int32 → Int32 → fR Int32) (hK4 : ∀ (m : mM) (y1 : Int32) (y2 : Int32) , JF false uI m_X7_quiet 8 4 [(0, .ref 0), (1, .int y1), (2, .int y2)] [] m (K4 m y1 y2)) (m : mM) (y1 : Int32) (y2 : Int32)  : JF false uI m_X7_quiet 8 4 [(0, .ref 0), (1, .int y1), (2, .int y2)] [] m (fb_X7_quiet_4 K4 m y1 y2) := by
  unfold fb_X7_quiet_4
  refine F_iload_n (i := 2) (a := 2) rfl rfl (dk_X7_quiet 4 _ rfl) ?_
  refine F_bipush (v := 12) (by decide) (dk_X7_quiet 5 _ rfl) ?_
  refine F_icmp_ge (tgt := 34) (by decide) (dk_X7_quiet 7 _ rfl) ?_ ?_
  · refine F_iload_n (i := 1) (a := 1) rfl rfl (dk_X7_quiet 34 _ rfl) ?_
    exact F_ret rfl (dk_X7_quiet 35 _ rfl)
  · refine F_iload_n (i := 1) (a := 1) rfl rfl (dk_X7_quiet 10 _ rfl) ?_
    refine F_aload_n (i := 0) (a := 0) rfl rfl (dk_X7_quiet 11 _ rfl) ?_
    refine F_iload_n (i := 2) (a := 2) rfl rfl (dk_X7_quiet 12 _ rfl) ?_
    refine F_callV (ι' := uI) (ci := 7) (b := 0) (As := [.int y2]) (d' := 7) (rfl) ok_X7_sellOn vi_X7_sellOn cl_7_301 (n := 1) (by decide +kernel) rfl rfl rfl (Nat.le_of_ble_eq_true rfl) (by omega) (dk_X7_quiet 13 _ rfl) (c_X7_sellOn _ _ ) (fun x1 m2 => ?_)
    show JF _ _ _ _ _ _ [.int x1, .int y1] _ _
    refine F_if_ne (tgt := 25) (by decide) (dk_X7_quiet 16 _ rfl) ?_ ?_
    · refine F_iconst (v := 0) (by decide) (dk_X7_quiet 25 _ rfl) ?_
      refine F_ior (dk_X7_quiet 26 _ rfl) ?_
      refine F_nm (fun v4 => ?_)
      refine F_istore_n (lv' := [(1, .int v4), (0, .ref 0), (2, .int y2)]) (i := 1) (a := 1) rfl (by decide) rfl (dk_X7_quiet 27 _ rfl) ?_
      refine F_iinc (i := 2) (n := 1) (v := (y2 + 1)) (lv' := [(2, .int (y2 + 1)), (1, .int v4), (0, .ref 0)]) rfl (by first | rfl | decide) (by decide) rfl (dk_X7_quiet 28 _ rfl) ?_
      refine F_goto (tgt := 4) (by decide) (dk_X7_quiet 31 _ rfl) ?_
      exact F_loc (List.forall_mem_cons.mpr ⟨(.tail _ (.tail _ (.head _))), (List.forall_mem_cons.mpr ⟨(.tail _ (.head _)), (List.forall_mem_cons.mpr ⟨(.head _), (fun _ z => absurd z List.not_mem_nil)⟩)⟩)⟩) (hK4 _ _ _ )
    · refine F_iconst (v := 1) (by decide) (dk_X7_quiet 19 _ rfl) ?_
      refine F_iload_n (i := 2) (a := 2) rfl rfl (dk_X7_quiet 20 _ rfl) ?_
      refine F_ishl (dk_X7_quiet 21 _ rfl) ?_
      refine F_goto (tgt := 26) (by decide) (dk_X7_quiet 22 _ rfl) ?_
      refine F_ior (dk_X7_quiet 26 _ rfl) ?_
      refine F_nm (fun v5 => ?_)
      refine F_istore_n (lv' := [(1, .int v5), (0, .ref 0), (2, .int y2)]) (i := 1) (a := 1) rfl (by decide) rfl (dk_X7_quiet 27 _ rfl) ?_
      refine F_iinc (i := 2) (n := 1) (v := (y2 + 1)) (lv' := [(2, .int (y2 + 1)), (1, .int v5), (0, .ref 0)]) rfl (by first | rfl | decide) (by decide) rfl (dk_X7_quiet 28 _ rfl) ?_
      refine F_goto (tgt := 4) (by decide) (dk_X7_quiet 31 _ rfl) ?_
      exact F_loc (List.forall_mem_cons.mpr ⟨(.tail _ (.tail _ (.head _))), (List.forall_mem_cons.mpr ⟨(.tail _ (.head _)), (List.forall_mem_cons.mpr ⟨(.head _), (fun _ z => absurd z List.not_mem_nil)⟩)⟩)⟩) (hK4 _ _ _ )
theorem j_X7_quiet_4   : ∀ (F : Nat) (m : mM) (y1 : Int32) (y2 : Int32) , JF false uI m_X7_quiet 8 4 [(0, .ref 0), (1, .int y1), (2, .int y2)] [] m (f_X7_quiet_4  F m y1 y2) := by
  intro F
  induction F with
  | zero => intro m y1 y2 ; exact F_no
  | succ F ih => intro m y1 y2 ; exact jb_X7_quiet_4  (f_X7_quiet_4  F)  ih m y1 y2 
def f_X7_quiet (m : mM)  : fR Int32 :=
  (f_X7_quiet_4  1000 m 0 0)
theorem c_X7_quiet (m : mM)   : cF false uI m_X7_quiet 8 [.ref 0] m (f_X7_quiet m ) := by
  refine cF_of ok_X7_quiet (fun _ _ => Nat.le_of_ble_eq_true rfl) ?_
  unfold f_X7_quiet
  show JF _ _ _ _ _ [(0, .ref 0)] _ _ _
  refine F_iconst (v := 0) (by decide) (dk_X7_quiet 0 _ rfl) ?_
  refine F_istore_n (lv' := [(1, .int 0), (0, .ref 0)]) (i := 1) (a := 1) rfl (by decide) rfl (dk_X7_quiet 1 _ rfl) ?_
  refine F_iconst (v := 0) (by decide) (dk_X7_quiet 2 _ rfl) ?_
  refine F_istore_n (lv' := [(2, .int 0), (1, .int 0), (0, .ref 0)]) (i := 2) (a := 2) rfl (by decide) rfl (dk_X7_quiet 3 _ rfl) ?_
  exact F_loc (List.forall_mem_cons.mpr ⟨(.tail _ (.tail _ (.head _))), (List.forall_mem_cons.mpr ⟨(.tail _ (.head _)), (List.forall_mem_cons.mpr ⟨(.head _), (fun _ z => absurd z List.not_mem_nil)⟩)⟩)⟩) (j_X7_quiet_4   1000 _ _ _ )
def f_X7_foundling (m : mM) (p1 : Int32) (p2 : Int32) : fR Int32 :=
  bnd (f_X7_in m p2 0 1) fun (x1 : Int32) (m2 : mM) => (if x1 = 0 then some ((-10000001), m2) else bnd (f_X7_isDay m2 p1) fun (x4 : Int32) (m5 : mM) => (if x4 = 0 then some ((-10000002), m5) else (if (mI m5 0) = 7 then some ((-9), m5) else bnd (f_X7_lay m5 (mI m5 0) 0 0 0 p1) fun (x7 : Unit) (m8 : mM) => nmM (wI m8 0 (((mI m8 0) + 1))) fun m10 => bnd (f_X7_layBest m10 (((mI m10 0) - 1)) 1) fun (x11 : Unit) (m12 : mM) => nmM (wI m12 0 (((mI m12 0) - 1))) fun m14 => (if p2 = 0 then some ((mI m14 34), m14) else some ((mI m14 35), m14)))))
theorem c_X7_foundling (m : mM) (p1 : Int32) (p2 : Int32)  : cF false uI m_X7_foundling 12 [.ref 0, .int p1, .int p2] m (f_X7_foundling m p1 p2) := by
  refine cF_of ok_X7_foundling (fun _ _ => Nat.le_of_ble_eq_true rfl) ?_
  unfold f_X7_foundling
  show JF _ _ _ _ _ [(0, .ref 0), (1, .int p1), (2, .int p2)] _ _ _
  refine F_aload_n (i := 0) (a := 0) rfl rfl (dk_X7_foundling 0 _ rfl) ?_
  refine F_iload_n (i := 2) (a := 2) rfl rfl (dk_X7_foundling 1 _ rfl) ?_
  refine F_iconst (v := 0) (by decide) (dk_X7_foundling 2 _ rfl) ?_
  refine F_iconst (v := 1) (by decide) (dk_X7_foundling 3 _ rfl) ?_
  refine F_callV (ι' := uI) (ci := 7) (b := 0) (As := [.int p2, .int 0, .int 1]) (d' := 2) (rfl) ok_X7_in vi_X7_in cl_7_194 (n := 3) (by decide +kernel) rfl rfl rfl (Nat.le_of_ble_eq_true rfl) (by omega) (dk_X7_foundling 4 _ rfl) (c_X7_in _ _ _ _ ) (fun x1 m2 => ?_)
  show JF _ _ _ _ _ _ [.int x1] _ _
  refine F_if_ne (tgt := 14) (by decide) (dk_X7_foundling 7 _ rfl) ?_ ?_
  · refine F_aload_n (i := 0) (a := 0) rfl rfl (dk_X7_foundling 14 _ rfl) ?_
    refine F_iload_n (i := 1) (a := 1) rfl rfl (dk_X7_foundling 15 _ rfl) ?_
    refine F_callV (ι' := uI) (ci := 7) (b := 0) (As := [.int p1]) (d' := 3) (rfl) ok_X7_isDay vi_X7_isDay cl_7_198 (n := 1) (by decide +kernel) rfl rfl rfl (Nat.le_of_ble_eq_true rfl) (by omega) (dk_X7_foundling 16 _ rfl) (c_X7_isDay _ _ ) (fun x4 m5 => ?_)
    show JF _ _ _ _ _ _ [.int x4] _ _
    refine F_if_ne (tgt := 26) (by decide) (dk_X7_foundling 19 _ rfl) ?_ ?_
    · refine F_aload_n (i := 0) (a := 0) rfl rfl (dk_X7_foundling 26 _ rfl) ?_
      refine F_gI (n := 0) fxM_7_0_0 rfl fl_7_7 (dk_X7_foundling 27 _ rfl) ?_
      refine F_bipush (v := 7) (by decide) (dk_X7_foundling 30 _ rfl) ?_
      refine F_icmp_ne (tgt := 38) (by decide) (dk_X7_foundling 32 _ rfl) ?_ ?_
      · refine F_aload_n (i := 0) (a := 0) rfl rfl (dk_X7_foundling 38 _ rfl) ?_
        refine F_aload_n (i := 0) (a := 0) rfl rfl (dk_X7_foundling 39 _ rfl) ?_
        refine F_gI (n := 0) fxM_7_0_0 rfl fl_7_7 (dk_X7_foundling 40 _ rfl) ?_
        refine F_iconst (v := 0) (by decide) (dk_X7_foundling 43 _ rfl) ?_
        refine F_iconst (v := 0) (by decide) (dk_X7_foundling 44 _ rfl) ?_
        refine F_iconst (v := 0) (by decide) (dk_X7_foundling 45 _ rfl) ?_
        refine F_iload_n (i := 1) (a := 1) rfl rfl (dk_X7_foundling 46 _ rfl) ?_
        refine F_callV (ι' := uU) (ci := 7) (b := 0) (As := [.int (mI m5 0), .int 0, .int 0, .int 0, .int p1]) (d' := 2) (rfl) ok_X7_lay vi_X7_lay cl_7_202 (n := 5) (by decide +kernel) rfl rfl rfl (Nat.le_of_ble_eq_true rfl) (by omega) (dk_X7_foundling 47 _ rfl) (c_X7_lay _ _ _ _ _ _ ) (fun x7 m8 => ?_)
        show JF _ _ _ _ _ _ [] _ _
        refine F_aload_n (i := 0) (a := 0) rfl rfl (dk_X7_foundling 50 _ rfl) ?_
        refine F_dup rfl (dk_X7_foundling 51 _ rfl) ?_
        refine F_gI (n := 0) fxM_7_0_0 rfl fl_7_7 (dk_X7_foundling 52 _ rfl) ?_
        refine F_iconst (v := 1) (by decide) (dk_X7_foundling 55 _ rfl) ?_
        refine F_iadd (dk_X7_foundling 56 _ rfl) ?_
        refine F_pI (n := 0) fxM_7_0_0 rfl fl_7_7 (fun q hq => by cases hq; rfl) trivial (dk_X7_foundling 57 _ rfl) (fun m10 => ?_)
        refine F_aload_n (i := 0) (a := 0) rfl rfl (dk_X7_foundling 60 _ rfl) ?_
        refine F_aload_n (i := 0) (a := 0) rfl rfl (dk_X7_foundling 61 _ rfl) ?_
        refine F_gI (n := 0) fxM_7_0_0 rfl fl_7_7 (dk_X7_foundling 62 _ rfl) ?_
        refine F_iconst (v := 1) (by decide) (dk_X7_foundling 65 _ rfl) ?_
        refine F_isub (dk_X7_foundling 66 _ rfl) ?_
        refine F_iconst (v := 1) (by decide) (dk_X7_foundling 67 _ rfl) ?_
        refine F_callV (ι' := uU) (ci := 7) (b := 0) (As := [.int ((mI m10 0) - 1), .int 1]) (d' := 11) (rfl) ok_X7_layBest vi_X7_layBest cl_7_326 (n := 2) (by decide +kernel) rfl rfl rfl (Nat.le_of_ble_eq_true rfl) (by omega) (dk_X7_foundling 68 _ rfl) (c_X7_layBest _ _ _ ) (fun x11 m12 => ?_)
        show JF _ _ _ _ _ _ [] _ _
        refine F_aload_n (i := 0) (a := 0) rfl rfl (dk_X7_foundling 71 _ rfl) ?_
        refine F_dup rfl (dk_X7_foundling 72 _ rfl) ?_
        refine F_gI (n := 0) fxM_7_0_0 rfl fl_7_7 (dk_X7_foundling 73 _ rfl) ?_
        refine F_iconst (v := 1) (by decide) (dk_X7_foundling 76 _ rfl) ?_
        refine F_isub (dk_X7_foundling 77 _ rfl) ?_
        refine F_pI (n := 0) fxM_7_0_0 rfl fl_7_7 (fun q hq => by cases hq; rfl) trivial (dk_X7_foundling 78 _ rfl) (fun m14 => ?_)
        refine F_iload_n (i := 2) (a := 2) rfl rfl (dk_X7_foundling 81 _ rfl) ?_
        refine F_if_ne (tgt := 92) (by decide) (dk_X7_foundling 82 _ rfl) ?_ ?_
        · refine F_aload_n (i := 0) (a := 0) rfl rfl (dk_X7_foundling 92 _ rfl) ?_
          refine F_gI (n := 35) fxM_7_35_0 rfl fl_7_117 (dk_X7_foundling 93 _ rfl) ?_
          exact F_ret rfl (dk_X7_foundling 96 _ rfl)
        · refine F_aload_n (i := 0) (a := 0) rfl rfl (dk_X7_foundling 85 _ rfl) ?_
          refine F_gI (n := 34) fxM_7_34_0 rfl fl_7_114 (dk_X7_foundling 86 _ rfl) ?_
          refine F_goto (tgt := 96) (by decide) (dk_X7_foundling 89 _ rfl) ?_
          exact F_ret rfl (dk_X7_foundling 96 _ rfl)
      · refine F_bipush (v := (-9)) (by decide) (dk_X7_foundling 35 _ rfl) ?_
        exact F_ret rfl (dk_X7_foundling 37 _ rfl)
    · refine F_ldcw (v := (-10000002)) ct_7_313 (dk_X7_foundling 22 _ rfl) ?_
      exact F_ret rfl (dk_X7_foundling 25 _ rfl)
  · refine F_ldcw (v := (-10000001)) ct_7_291 (dk_X7_foundling 10 _ rfl) ?_
    exact F_ret rfl (dk_X7_foundling 13 _ rfl)
def f_X7_forged_97 (K20 : mM → Int32 → Int32 → Int32 → fR Int32) (m : mM) (y1 : Int32) (y2 : Int32) (y3 : Int32) (y4 : Int32) : fR Int32 :=
  (sA 0 m 3 y3 y4).bind fun m5 => (K20 m5 y1 y2 (y3 + 1))
theorem j_X7_forged_97 (K20 : mM → Int32 → Int32 → Int32 → fR Int32) (hK20 : ∀ (m : mM) (y1 : Int32) (y2 : Int32) (y3 : Int32) , JF false uI m_X7_forged 11 20 [(0, .ref 0), (1, .int y1), (2, .int y2), (3, .int y3)] [] m (K20 m y1 y2 y3)) (m : mM) (y1 : Int32) (y2 : Int32) (y3 : Int32) (y4 : Int32)  : JF false uI m_X7_forged 11 97 [(0, .ref 0), (1, .int y1), (2, .int y2), (3, .int y3), (4, .int y4)] [] m (f_X7_forged_97 K20 m y1 y2 y3 y4) := by
  unfold f_X7_forged_97
  refine F_aload_n (i := 0) (a := 0) rfl rfl (dk_X7_forged 97 _ rfl) ?_
  refine F_gR (b := 3) fxM_7_5_0 fl_7_26 (dk_X7_forged 98 _ rfl) ?_
  refine F_iload_n (i := 3) (a := 3) rfl rfl (dk_X7_forged 101 _ rfl) ?_
  refine F_iload (i := 4) rfl (dk_X7_forged 102 _ rfl) ?_
  refine F_iast (axM_0_3) (dk_X7_forged 104 _ rfl) (fun m5 => ?_)
  refine F_iinc (i := 3) (n := 1) (v := (y3 + 1)) (lv' := [(3, .int (y3 + 1)), (0, .ref 0), (1, .int y1), (2, .int y2), (4, .int y4)]) rfl (by first | rfl | decide) (by decide) rfl (dk_X7_forged 105 _ rfl) ?_
  refine F_goto (tgt := 20) (by decide) (dk_X7_forged 108 _ rfl) ?_
  exact F_loc (List.forall_mem_cons.mpr ⟨(.tail _ (.head _)), (List.forall_mem_cons.mpr ⟨(.tail _ (.tail _ (.head _))), (List.forall_mem_cons.mpr ⟨(.tail _ (.tail _ (.tail _ (.head _)))), (List.forall_mem_cons.mpr ⟨(.head _), (fun _ z => absurd z List.not_mem_nil)⟩)⟩)⟩)⟩) (hK20 _ _ _ _ )
def fb_X7_forged_43 (K20 : mM → Int32 → Int32 → Int32 → fR Int32) (K43 : mM → Int32 → Int32 → Int32 → Int32 → Int32 → fR Int32) (m : mM) (y1 : Int32) (y2 : Int32) (y3 : Int32) (y4 : Int32) (y5 : Int32) : fR Int32 :=
  (if 12 ≤ y5 then (f_X7_forged_97 K20 m y1 y2 y3 y4) else (if 0 ≤ y2 then (f_X7_forged_97 K20 m y1 y2 y3 y4) else (sA 0 m 3 y3 y5).bind fun m6 => (if y5 = y4 then (K43 m6 y1 (-5) y3 y4 (y5 + 1)) else bnd (f_X7_yearOf m6 y3) fun (x7 : Int32) (m8 : mM) => (if x7 = y1 then nmI (((100 * y3) + y5)) fun v10 => (K43 m8 y1 v10 y3 y4 (y5 + 1)) else (K43 m8 y1 (-5) y3 y4 (y5 + 1))))))
def f_X7_forged_43 (K20 : mM → Int32 → Int32 → Int32 → fR Int32) : Nat → mM → Int32 → Int32 → Int32 → Int32 → Int32 → fR Int32
  | 0, _, _, _, _, _, _ => none
  | F + 1, m, y1, y2, y3, y4, y5 => fb_X7_forged_43 K20 (f_X7_forged_43 K20 F) m y1 y2 y3 y4 y5
theorem jb_X7_forged_43 (K20 : mM → Int32 → Int32 → Int32 → fR Int32) (K43 : mM → Int32 → Int32 → Int32 → Int32 → Int32 → fR Int32) (hK20 : ∀ (m : mM) (y1 : Int32) (y2 : Int32) (y3 : Int32) , JF false uI m_X7_forged 11 20 [(0, .ref 0), (1, .int y1), (2, .int y2), (3, .int y3)] [] m (K20 m y1 y2 y3)) (hK43 : ∀ (m : mM) (y1 : Int32) (y2 : Int32) (y3 : Int32) (y4 : Int32) (y5 : Int32) , JF false uI m_X7_forged 11 43 [(0, .ref 0), (1, .int y1), (2, .int y2), (3, .int y3), (4, .int y4), (5, .int y5)] [] m (K43 m y1 y2 y3 y4 y5)) (m : mM) (y1 : Int32) (y2 : Int32) (y3 : Int32) (y4 : Int32) (y5 : Int32)  : JF false uI m_X7_forged 11 43 [(0, .ref 0), (1, .int y1), (2, .int y2), (3, .int y3), (4, .int y4), (5, .int y5)] [] m (fb_X7_forged_43 K20 K43 m y1 y2 y3 y4 y5) := by
  unfold fb_X7_forged_43
  refine F_iload (i := 5) rfl (dk_X7_forged 43 _ rfl) ?_
  refine F_bipush (v := 12) (by decide) (dk_X7_forged 45 _ rfl) ?_
  refine F_icmp_ge (tgt := 97) (by decide) (dk_X7_forged 47 _ rfl) ?_ ?_
  · exact F_loc (List.forall_mem_cons.mpr ⟨(.head _), (List.forall_mem_cons.mpr ⟨(.tail _ (.head _)), (List.forall_mem_cons.mpr ⟨(.tail _ (.tail _ (.head _))), (List.forall_mem_cons.mpr ⟨(.tail _ (.tail _ (.tail _ (.head _)))), (List.forall_mem_cons.mpr ⟨(.tail _ (.tail _ (.tail _ (.tail _ (.head _))))), (fun _ z => absurd z List.not_mem_nil)⟩)⟩)⟩)⟩)⟩) (j_X7_forged_97 K20 hK20 _ _ _ _ _ )
  · refine F_iload_n (i := 2) (a := 2) rfl rfl (dk_X7_forged 50 _ rfl) ?_
    refine F_if_ge (tgt := 97) (by decide) (dk_X7_forged 51 _ rfl) ?_ ?_
    · exact F_loc (List.forall_mem_cons.mpr ⟨(.head _), (List.forall_mem_cons.mpr ⟨(.tail _ (.head _)), (List.forall_mem_cons.mpr ⟨(.tail _ (.tail _ (.head _))), (List.forall_mem_cons.mpr ⟨(.tail _ (.tail _ (.tail _ (.head _)))), (List.forall_mem_cons.mpr ⟨(.tail _ (.tail _ (.tail _ (.tail _ (.head _))))), (fun _ z => absurd z List.not_mem_nil)⟩)⟩)⟩)⟩)⟩) (j_X7_forged_97 K20 hK20 _ _ _ _ _ )
    · refine F_aload_n (i := 0) (a := 0) rfl rfl (dk_X7_forged 54 _ rfl) ?_
      refine F_gR (b := 3) fxM_7_5_0 fl_7_26 (dk_X7_forged 55 _ rfl) ?_
      refine F_iload_n (i := 3) (a := 3) rfl rfl (dk_X7_forged 58 _ rfl) ?_
      refine F_iload (i := 5) rfl (dk_X7_forged 59 _ rfl) ?_
      refine F_iast (axM_0_3) (dk_X7_forged 61 _ rfl) (fun m6 => ?_)
      refine F_iload (i := 5) rfl (dk_X7_forged 62 _ rfl) ?_
      refine F_iload (i := 4) rfl (dk_X7_forged 64 _ rfl) ?_
      refine F_icmp_eq (tgt := 88) (by decide) (dk_X7_forged 66 _ rfl) ?_ ?_
      · refine F_bipush (v := (-5)) (by decide) (dk_X7_forged 88 _ rfl) ?_
        refine F_istore_n (lv' := [(2, .int (-5)), (0, .ref 0), (1, .int y1), (3, .int y3), (4, .int y4), (5, .int y5)]) (i := 2) (a := 2) rfl (by decide) rfl (dk_X7_forged 90 _ rfl) ?_
        refine F_iinc (i := 5) (n := 1) (v := (y5 + 1)) (lv' := [(5, .int (y5 + 1)), (2, .int (-5)), (0, .ref 0), (1, .int y1), (3, .int y3), (4, .int y4)]) rfl (by first | rfl | decide) (by decide) rfl (dk_X7_forged 91 _ rfl) ?_
        refine F_goto (tgt := 43) (by decide) (dk_X7_forged 94 _ rfl) ?_
        exact F_loc (List.forall_mem_cons.mpr ⟨(.tail _ (.tail _ (.head _))), (List.forall_mem_cons.mpr ⟨(.tail _ (.tail _ (.tail _ (.head _)))), (List.forall_mem_cons.mpr ⟨(.tail _ (.head _)), (List.forall_mem_cons.mpr ⟨(.tail _ (.tail _ (.tail _ (.tail _ (.head _))))), (List.forall_mem_cons.mpr ⟨(.tail _ (.tail _ (.tail _ (.tail _ (.tail _ (.head _)))))), (List.forall_mem_cons.mpr ⟨(.head _), (fun _ z => absurd z List.not_mem_nil)⟩)⟩)⟩)⟩)⟩)⟩) (hK43 _ _ _ _ _ _ )
      · refine F_aload_n (i := 0) (a := 0) rfl rfl (dk_X7_forged 69 _ rfl) ?_
        refine F_iload_n (i := 3) (a := 3) rfl rfl (dk_X7_forged 70 _ rfl) ?_
        refine F_callV (ι' := uI) (ci := 7) (b := 0) (As := [.int y3]) (d' := 10) (rfl) ok_X7_yearOf vi_X7_yearOf cl_7_323 (n := 1) (by decide +kernel) rfl rfl rfl (Nat.le_of_ble_eq_true rfl) (by omega) (dk_X7_forged 71 _ rfl) (c_X7_yearOf _ _ ) (fun x7 m8 => ?_)
        show JF _ _ _ _ _ _ [.int x7] _ _
        refine F_iload_n (i := 1) (a := 1) rfl rfl (dk_X7_forged 74 _ rfl) ?_
        refine F_icmp_ne (tgt := 88) (by decide) (dk_X7_forged 75 _ rfl) ?_ ?_
        · refine F_bipush (v := (-5)) (by decide) (dk_X7_forged 88 _ rfl) ?_
          refine F_istore_n (lv' := [(2, .int (-5)), (0, .ref 0), (1, .int y1), (3, .int y3), (4, .int y4), (5, .int y5)]) (i := 2) (a := 2) rfl (by decide) rfl (dk_X7_forged 90 _ rfl) ?_
          refine F_iinc (i := 5) (n := 1) (v := (y5 + 1)) (lv' := [(5, .int (y5 + 1)), (2, .int (-5)), (0, .ref 0), (1, .int y1), (3, .int y3), (4, .int y4)]) rfl (by first | rfl | decide) (by decide) rfl (dk_X7_forged 91 _ rfl) ?_
          refine F_goto (tgt := 43) (by decide) (dk_X7_forged 94 _ rfl) ?_
          exact F_loc (List.forall_mem_cons.mpr ⟨(.tail _ (.tail _ (.head _))), (List.forall_mem_cons.mpr ⟨(.tail _ (.tail _ (.tail _ (.head _)))), (List.forall_mem_cons.mpr ⟨(.tail _ (.head _)), (List.forall_mem_cons.mpr ⟨(.tail _ (.tail _ (.tail _ (.tail _ (.head _))))), (List.forall_mem_cons.mpr ⟨(.tail _ (.tail _ (.tail _ (.tail _ (.tail _ (.head _)))))), (List.forall_mem_cons.mpr ⟨(.head _), (fun _ z => absurd z List.not_mem_nil)⟩)⟩)⟩)⟩)⟩)⟩) (hK43 _ _ _ _ _ _ )
        · refine F_bipush (v := 100) (by decide) (dk_X7_forged 78 _ rfl) ?_
          refine F_iload_n (i := 3) (a := 3) rfl rfl (dk_X7_forged 80 _ rfl) ?_
          refine F_imul (dk_X7_forged 81 _ rfl) ?_
          refine F_iload (i := 5) rfl (dk_X7_forged 82 _ rfl) ?_
          refine F_iadd (dk_X7_forged 84 _ rfl) ?_
          refine F_goto (tgt := 90) (by decide) (dk_X7_forged 85 _ rfl) ?_
          refine F_nm (fun v10 => ?_)
          refine F_istore_n (lv' := [(2, .int v10), (0, .ref 0), (1, .int y1), (3, .int y3), (4, .int y4), (5, .int y5)]) (i := 2) (a := 2) rfl (by decide) rfl (dk_X7_forged 90 _ rfl) ?_
          refine F_iinc (i := 5) (n := 1) (v := (y5 + 1)) (lv' := [(5, .int (y5 + 1)), (2, .int v10), (0, .ref 0), (1, .int y1), (3, .int y3), (4, .int y4)]) rfl (by first | rfl | decide) (by decide) rfl (dk_X7_forged 91 _ rfl) ?_
          refine F_goto (tgt := 43) (by decide) (dk_X7_forged 94 _ rfl) ?_
          exact F_loc (List.forall_mem_cons.mpr ⟨(.tail _ (.tail _ (.head _))), (List.forall_mem_cons.mpr ⟨(.tail _ (.tail _ (.tail _ (.head _)))), (List.forall_mem_cons.mpr ⟨(.tail _ (.head _)), (List.forall_mem_cons.mpr ⟨(.tail _ (.tail _ (.tail _ (.tail _ (.head _))))), (List.forall_mem_cons.mpr ⟨(.tail _ (.tail _ (.tail _ (.tail _ (.tail _ (.head _)))))), (List.forall_mem_cons.mpr ⟨(.head _), (fun _ z => absurd z List.not_mem_nil)⟩)⟩)⟩)⟩)⟩)⟩) (hK43 _ _ _ _ _ _ )
theorem j_X7_forged_43 (K20 : mM → Int32 → Int32 → Int32 → fR Int32) (hK20 : ∀ (m : mM) (y1 : Int32) (y2 : Int32) (y3 : Int32) , JF false uI m_X7_forged 11 20 [(0, .ref 0), (1, .int y1), (2, .int y2), (3, .int y3)] [] m (K20 m y1 y2 y3)) : ∀ (F : Nat) (m : mM) (y1 : Int32) (y2 : Int32) (y3 : Int32) (y4 : Int32) (y5 : Int32) , JF false uI m_X7_forged 11 43 [(0, .ref 0), (1, .int y1), (2, .int y2), (3, .int y3), (4, .int y4), (5, .int y5)] [] m (f_X7_forged_43 K20 F m y1 y2 y3 y4 y5) := by
  intro F
  induction F with
  | zero => intro m y1 y2 y3 y4 y5 ; exact F_no
  | succ F ih => intro m y1 y2 y3 y4 y5 ; exact jb_X7_forged_43 K20 (f_X7_forged_43 K20 F) hK20 ih m y1 y2 y3 y4 y5 
def fb_X7_forged_20 (K20 : mM → Int32 → Int32 → Int32 → fR Int32) (m : mM) (y1 : Int32) (y2 : Int32) (y3 : Int32) : fR Int32 :=
  (if (mI m 0) ≤ y3 then some (y2, m) else (if 0 ≤ y2 then some (y2, m) else (gA (mA m 3) y3).bind fun x4 => (f_X7_forged_43 K20 1000 m y1 y2 y3 x4 0)))
def f_X7_forged_20  : Nat → mM → Int32 → Int32 → Int32 → fR Int32
  | 0, _, _, _, _ => none
  | F + 1, m, y1, y2, y3 => fb_X7_forged_20  (f_X7_forged_20  F) m y1 y2 y3
theorem jb_X7_forged_20 (K20 : mM → Int32 → Int32 → Int32 → fR Int32) (hK20 : ∀ (m : mM) (y1 : Int32) (y2 : Int32) (y3 : Int32) , JF false uI m_X7_forged 11 20 [(0, .ref 0), (1, .int y1), (2, .int y2), (3, .int y3)] [] m (K20 m y1 y2 y3)) (m : mM) (y1 : Int32) (y2 : Int32) (y3 : Int32)  : JF false uI m_X7_forged 11 20 [(0, .ref 0), (1, .int y1), (2, .int y2), (3, .int y3)] [] m (fb_X7_forged_20 K20 m y1 y2 y3) := by
  unfold fb_X7_forged_20
  refine F_iload_n (i := 3) (a := 3) rfl rfl (dk_X7_forged 20 _ rfl) ?_
  refine F_aload_n (i := 0) (a := 0) rfl rfl (dk_X7_forged 21 _ rfl) ?_
  refine F_gI (n := 0) fxM_7_0_0 rfl fl_7_7 (dk_X7_forged 22 _ rfl) ?_
  refine F_icmp_ge (tgt := 111) (by decide) (dk_X7_forged 25 _ rfl) ?_ ?_
  · refine F_iload_n (i := 2) (a := 2) rfl rfl (dk_X7_forged 111 _ rfl) ?_
    exact F_ret rfl (dk_X7_forged 112 _ rfl)
  · refine F_iload_n (i := 2) (a := 2) rfl rfl (dk_X7_forged 28 _ rfl) ?_
    refine F_if_ge (tgt := 111) (by decide) (dk_X7_forged 29 _ rfl) ?_ ?_
    · refine F_iload_n (i := 2) (a := 2) rfl rfl (dk_X7_forged 111 _ rfl) ?_
      exact F_ret rfl (dk_X7_forged 112 _ rfl)
    · refine F_aload_n (i := 0) (a := 0) rfl rfl (dk_X7_forged 32 _ rfl) ?_
      refine F_gR (b := 3) fxM_7_5_0 fl_7_26 (dk_X7_forged 33 _ rfl) ?_
      refine F_iload_n (i := 3) (a := 3) rfl rfl (dk_X7_forged 36 _ rfl) ?_
      refine F_iald (axM_0_3) (dk_X7_forged 37 _ rfl) (fun x4 => ?_)
      refine F_istore (lv' := [(4, .int x4), (0, .ref 0), (1, .int y1), (2, .int y2), (3, .int y3)]) (i := 4) (by decide) rfl (dk_X7_forged 38 _ rfl) ?_
      refine F_iconst (v := 0) (by decide) (dk_X7_forged 40 _ rfl) ?_
      refine F_istore (lv' := [(5, .int 0), (4, .int x4), (0, .ref 0), (1, .int y1), (2, .int y2), (3, .int y3)]) (i := 5) (by decide) rfl (dk_X7_forged 41 _ rfl) ?_
      exact F_loc (List.forall_mem_cons.mpr ⟨(.tail _ (.tail _ (.head _))), (List.forall_mem_cons.mpr ⟨(.tail _ (.tail _ (.tail _ (.head _)))), (List.forall_mem_cons.mpr ⟨(.tail _ (.tail _ (.tail _ (.tail _ (.head _))))), (List.forall_mem_cons.mpr ⟨(.tail _ (.tail _ (.tail _ (.tail _ (.tail _ (.head _)))))), (List.forall_mem_cons.mpr ⟨(.tail _ (.head _)), (List.forall_mem_cons.mpr ⟨(.head _), (fun _ z => absurd z List.not_mem_nil)⟩)⟩)⟩)⟩)⟩)⟩) (j_X7_forged_43 K20 hK20 1000 _ _ _ _ _ _ )
theorem j_X7_forged_20   : ∀ (F : Nat) (m : mM) (y1 : Int32) (y2 : Int32) (y3 : Int32) , JF false uI m_X7_forged 11 20 [(0, .ref 0), (1, .int y1), (2, .int y2), (3, .int y3)] [] m (f_X7_forged_20  F m y1 y2 y3) := by
  intro F
  induction F with
  | zero => intro m y1 y2 y3 ; exact F_no
  | succ F ih => intro m y1 y2 y3 ; exact jb_X7_forged_20  (f_X7_forged_20  F)  ih m y1 y2 y3 
def f_X7_forged (m : mM) (p1 : Int32) : fR Int32 :=
  bnd (f_X7_in m p1 0 10000) fun (x1 : Int32) (m2 : mM) => (if x1 = 0 then some ((-2), m2) else (f_X7_forged_20  1000 m2 p1 (-5) 0))
theorem c_X7_forged (m : mM) (p1 : Int32)  : cF false uI m_X7_forged 11 [.ref 0, .int p1] m (f_X7_forged m p1) := by
  refine cF_of ok_X7_forged (fun _ _ => Nat.le_of_ble_eq_true rfl) ?_
  unfold f_X7_forged
  show JF _ _ _ _ _ [(0, .ref 0), (1, .int p1)] _ _ _
  refine F_aload_n (i := 0) (a := 0) rfl rfl (dk_X7_forged 0 _ rfl) ?_
  refine F_iload_n (i := 1) (a := 1) rfl rfl (dk_X7_forged 1 _ rfl) ?_
  refine F_iconst (v := 0) (by decide) (dk_X7_forged 2 _ rfl) ?_
  refine F_sipush (v := 10000) (by decide) (dk_X7_forged 3 _ rfl) ?_
  refine F_callV (ι' := uI) (ci := 7) (b := 0) (As := [.int p1, .int 0, .int 10000]) (d' := 2) (rfl) ok_X7_in vi_X7_in cl_7_194 (n := 3) (by decide +kernel) rfl rfl rfl (Nat.le_of_ble_eq_true rfl) (by omega) (dk_X7_forged 6 _ rfl) (c_X7_in _ _ _ _ ) (fun x1 m2 => ?_)
  show JF _ _ _ _ _ _ [.int x1] _ _
  refine F_if_ne (tgt := 15) (by decide) (dk_X7_forged 9 _ rfl) ?_ ?_
  · refine F_bipush (v := (-5)) (by decide) (dk_X7_forged 15 _ rfl) ?_
    refine F_istore_n (lv' := [(2, .int (-5)), (0, .ref 0), (1, .int p1)]) (i := 2) (a := 2) rfl (by decide) rfl (dk_X7_forged 17 _ rfl) ?_
    refine F_iconst (v := 0) (by decide) (dk_X7_forged 18 _ rfl) ?_
    refine F_istore_n (lv' := [(3, .int 0), (2, .int (-5)), (0, .ref 0), (1, .int p1)]) (i := 3) (a := 3) rfl (by decide) rfl (dk_X7_forged 19 _ rfl) ?_
    exact F_loc (List.forall_mem_cons.mpr ⟨(.tail _ (.tail _ (.head _))), (List.forall_mem_cons.mpr ⟨(.tail _ (.tail _ (.tail _ (.head _)))), (List.forall_mem_cons.mpr ⟨(.tail _ (.head _)), (List.forall_mem_cons.mpr ⟨(.head _), (fun _ z => absurd z List.not_mem_nil)⟩)⟩)⟩)⟩) (j_X7_forged_20   1000 _ _ _ _ )
  · refine F_bipush (v := (-2)) (by decide) (dk_X7_forged 12 _ rfl) ?_
    exact F_ret rfl (dk_X7_forged 14 _ rfl)
def f_X7_wouldChange (m : mM) (p1 : Int32) : fR Int32 :=
  bnd (f_X7_yearOf m p1) fun (x1 : Int32) (m2 : mM) => bnd (f_X7_layBest m2 p1 0) fun (x4 : Unit) (m5 : mM) => (if (mI m5 35) ≤ x1 then some (0, m5) else some (1, m5))
theorem c_X7_wouldChange (m : mM) (p1 : Int32)  : cF false uI m_X7_wouldChange 12 [.ref 0, .int p1] m (f_X7_wouldChange m p1) := by
  refine cF_of ok_X7_wouldChange (fun _ _ => Nat.le_of_ble_eq_true rfl) ?_
  unfold f_X7_wouldChange
  show JF _ _ _ _ _ [(0, .ref 0), (1, .int p1)] _ _ _
  refine F_aload_n (i := 0) (a := 0) rfl rfl (dk_X7_wouldChange 0 _ rfl) ?_
  refine F_iload_n (i := 1) (a := 1) rfl rfl (dk_X7_wouldChange 1 _ rfl) ?_
  refine F_callV (ι' := uI) (ci := 7) (b := 0) (As := [.int p1]) (d' := 10) (rfl) ok_X7_yearOf vi_X7_yearOf cl_7_323 (n := 1) (by decide +kernel) rfl rfl rfl (Nat.le_of_ble_eq_true rfl) (by omega) (dk_X7_wouldChange 2 _ rfl) (c_X7_yearOf _ _ ) (fun x1 m2 => ?_)
  show JF _ _ _ _ _ _ [.int x1] _ _
  refine F_istore_n (lv' := [(2, .int x1), (0, .ref 0), (1, .int p1)]) (i := 2) (a := 2) rfl (by decide) rfl (dk_X7_wouldChange 5 _ rfl) ?_
  refine F_aload_n (i := 0) (a := 0) rfl rfl (dk_X7_wouldChange 6 _ rfl) ?_
  refine F_iload_n (i := 1) (a := 1) rfl rfl (dk_X7_wouldChange 7 _ rfl) ?_
  refine F_iconst (v := 0) (by decide) (dk_X7_wouldChange 8 _ rfl) ?_
  refine F_callV (ι' := uU) (ci := 7) (b := 0) (As := [.int p1, .int 0]) (d' := 11) (rfl) ok_X7_layBest vi_X7_layBest cl_7_326 (n := 2) (by decide +kernel) rfl rfl rfl (Nat.le_of_ble_eq_true rfl) (by omega) (dk_X7_wouldChange 9 _ rfl) (c_X7_layBest _ _ _ ) (fun x4 m5 => ?_)
  show JF _ _ _ _ _ _ [] _ _
  refine F_aload_n (i := 0) (a := 0) rfl rfl (dk_X7_wouldChange 12 _ rfl) ?_
  refine F_gI (n := 35) fxM_7_35_0 rfl fl_7_117 (dk_X7_wouldChange 13 _ rfl) ?_
  refine F_iload_n (i := 2) (a := 2) rfl rfl (dk_X7_wouldChange 16 _ rfl) ?_
  refine F_icmp_le (tgt := 24) (by decide) (dk_X7_wouldChange 17 _ rfl) ?_ ?_
  · refine F_iconst (v := 0) (by decide) (dk_X7_wouldChange 24 _ rfl) ?_
    exact F_retB rfl (Or.inl rfl) (dk_X7_wouldChange 25 _ rfl)
  · refine F_iconst (v := 1) (by decide) (dk_X7_wouldChange 20 _ rfl) ?_
    refine F_goto (tgt := 25) (by decide) (dk_X7_wouldChange 21 _ rfl) ?_
    exact F_retB rfl (Or.inr rfl) (dk_X7_wouldChange 25 _ rfl)
def f_X7_change (m : mM) (p1 : Int32) : fR Int32 :=
  bnd (f_X7_isPerson m p1) fun (x1 : Int32) (m2 : mM) => (if x1 = 0 then some ((-1), m2) else bnd (f_X7_wouldChange m2 p1) fun (x4 : Int32) (m5 : mM) => (if x4 = 0 then some (0, m5) else some (1, m5)))
theorem c_X7_change (m : mM) (p1 : Int32)  : cF false uI m_X7_change 13 [.ref 0, .int p1] m (f_X7_change m p1) := by
  refine cF_of ok_X7_change (fun _ _ => Nat.le_of_ble_eq_true rfl) ?_
  unfold f_X7_change
  show JF _ _ _ _ _ [(0, .ref 0), (1, .int p1)] _ _ _
  refine F_aload_n (i := 0) (a := 0) rfl rfl (dk_X7_change 0 _ rfl) ?_
  refine F_iload_n (i := 1) (a := 1) rfl rfl (dk_X7_change 1 _ rfl) ?_
  refine F_callV (ι' := uI) (ci := 7) (b := 0) (As := [.int p1]) (d' := 3) (rfl) ok_X7_isPerson vi_X7_isPerson cl_7_206 (n := 1) (by decide +kernel) rfl rfl rfl (Nat.le_of_ble_eq_true rfl) (by omega) (dk_X7_change 2 _ rfl) (c_X7_isPerson _ _ ) (fun x1 m2 => ?_)
  show JF _ _ _ _ _ _ [.int x1] _ _
  refine F_if_ne (tgt := 12) (by decide) (dk_X7_change 5 _ rfl) ?_ ?_
  · refine F_aload_n (i := 0) (a := 0) rfl rfl (dk_X7_change 12 _ rfl) ?_
    refine F_iload_n (i := 1) (a := 1) rfl rfl (dk_X7_change 13 _ rfl) ?_
    refine F_callV (ι' := uI) (ci := 7) (b := 0) (As := [.int p1]) (d' := 12) (rfl) ok_X7_wouldChange vi_X7_wouldChange cl_7_330 (n := 1) (by decide +kernel) rfl rfl rfl (Nat.le_of_ble_eq_true rfl) (by omega) (dk_X7_change 14 _ rfl) (c_X7_wouldChange _ _ ) (fun x4 m5 => ?_)
    show JF _ _ _ _ _ _ [.int x4] _ _
    refine F_if_eq (tgt := 24) (by decide) (dk_X7_change 17 _ rfl) ?_ ?_
    · refine F_iconst (v := 0) (by decide) (dk_X7_change 24 _ rfl) ?_
      exact F_ret rfl (dk_X7_change 25 _ rfl)
    · refine F_iconst (v := 1) (by decide) (dk_X7_change 20 _ rfl) ?_
      refine F_goto (tgt := 25) (by decide) (dk_X7_change 21 _ rfl) ?_
      exact F_ret rfl (dk_X7_change 25 _ rfl)
  · refine F_iconst (v := (-1)) (by decide) (dk_X7_change 8 _ rfl) ?_
    refine F_goto (tgt := 25) (by decide) (dk_X7_change 9 _ rfl) ?_
    exact F_ret rfl (dk_X7_change 25 _ rfl)
def fb_X7_layRest_126 (K126 : mM → Int32 → Int32 → fR Int32) (m : mM) (y1 : Int32) (y4 : Int32) : fR Int32 :=
  (if 7 ≤ y4 then (if y1 ≤ 8 then some (y1, m) else some ((-5), m)) else (gA (mA m 4) y4).bind fun x1 => (sA 0 m 22 y4 x1).bind fun m2 => (gA (mA m2 21) y4).bind fun x3 => (sA 0 m2 4 y4 x3).bind fun m4 => (K126 m4 y1 (y4 + 1)))
def f_X7_layRest_126  : Nat → mM → Int32 → Int32 → fR Int32
  | 0, _, _, _ => none
  | F + 1, m, y1, y4 => fb_X7_layRest_126  (f_X7_layRest_126  F) m y1 y4
theorem jb_X7_layRest_126 (K126 : mM → Int32 → Int32 → fR Int32) (hK126 : ∀ (m : mM) (y1 : Int32) (y4 : Int32) , JF false uI m_X7_layRest 13 126 [(0, .ref 0), (1, .int y1), (4, .int y4)] [] m (K126 m y1 y4)) (m : mM) (y1 : Int32) (y4 : Int32)  : JF false uI m_X7_layRest 13 126 [(0, .ref 0), (1, .int y1), (4, .int y4)] [] m (fb_X7_layRest_126 K126 m y1 y4) := by
  unfold fb_X7_layRest_126
  refine F_iload (i := 4) rfl (dk_X7_layRest 126 _ rfl) ?_
  refine F_bipush (v := 7) (by decide) (dk_X7_layRest 128 _ rfl) ?_
  refine F_icmp_ge (tgt := 167) (by decide) (dk_X7_layRest 130 _ rfl) ?_ ?_
  · refine F_iload_n (i := 1) (a := 1) rfl rfl (dk_X7_layRest 167 _ rfl) ?_
    refine F_bipush (v := 8) (by decide) (dk_X7_layRest 168 _ rfl) ?_
    refine F_icmp_le (tgt := 178) (by decide) (dk_X7_layRest 170 _ rfl) ?_ ?_
    · refine F_iload_n (i := 1) (a := 1) rfl rfl (dk_X7_layRest 178 _ rfl) ?_
      exact F_ret rfl (dk_X7_layRest 179 _ rfl)
    · refine F_bipush (v := (-5)) (by decide) (dk_X7_layRest 173 _ rfl) ?_
      refine F_goto (tgt := 179) (by decide) (dk_X7_layRest 175 _ rfl) ?_
      exact F_ret rfl (dk_X7_layRest 179 _ rfl)
  · refine F_aload_n (i := 0) (a := 0) rfl rfl (dk_X7_layRest 133 _ rfl) ?_
    refine F_gR (b := 22) fxM_7_37_0 fl_7_123 (dk_X7_layRest 134 _ rfl) ?_
    refine F_iload (i := 4) rfl (dk_X7_layRest 137 _ rfl) ?_
    refine F_aload_n (i := 0) (a := 0) rfl rfl (dk_X7_layRest 139 _ rfl) ?_
    refine F_gR (b := 4) fxM_7_6_0 fl_7_29 (dk_X7_layRest 140 _ rfl) ?_
    refine F_iload (i := 4) rfl (dk_X7_layRest 143 _ rfl) ?_
    refine F_iald (axM_0_4) (dk_X7_layRest 145 _ rfl) (fun x1 => ?_)
    refine F_iast (axM_0_22) (dk_X7_layRest 146 _ rfl) (fun m2 => ?_)
    refine F_aload_n (i := 0) (a := 0) rfl rfl (dk_X7_layRest 147 _ rfl) ?_
    refine F_gR (b := 4) fxM_7_6_0 fl_7_29 (dk_X7_layRest 148 _ rfl) ?_
    refine F_iload (i := 4) rfl (dk_X7_layRest 151 _ rfl) ?_
    refine F_aload_n (i := 0) (a := 0) rfl rfl (dk_X7_layRest 153 _ rfl) ?_
    refine F_gR (b := 21) fxM_7_36_0 fl_7_120 (dk_X7_layRest 154 _ rfl) ?_
    refine F_iload (i := 4) rfl (dk_X7_layRest 157 _ rfl) ?_
    refine F_iald (axM_0_21) (dk_X7_layRest 159 _ rfl) (fun x3 => ?_)
    refine F_iast (axM_0_4) (dk_X7_layRest 160 _ rfl) (fun m4 => ?_)
    refine F_iinc (i := 4) (n := 1) (v := (y4 + 1)) (lv' := [(4, .int (y4 + 1)), (0, .ref 0), (1, .int y1)]) rfl (by first | rfl | decide) (by decide) rfl (dk_X7_layRest 161 _ rfl) ?_
    refine F_goto (tgt := 126) (by decide) (dk_X7_layRest 164 _ rfl) ?_
    exact F_loc (List.forall_mem_cons.mpr ⟨(.tail _ (.head _)), (List.forall_mem_cons.mpr ⟨(.tail _ (.tail _ (.head _))), (List.forall_mem_cons.mpr ⟨(.head _), (fun _ z => absurd z List.not_mem_nil)⟩)⟩)⟩) (hK126 _ _ _ )
theorem j_X7_layRest_126   : ∀ (F : Nat) (m : mM) (y1 : Int32) (y4 : Int32) , JF false uI m_X7_layRest 13 126 [(0, .ref 0), (1, .int y1), (4, .int y4)] [] m (f_X7_layRest_126  F m y1 y4) := by
  intro F
  induction F with
  | zero => intro m y1 y4 ; exact F_no
  | succ F ih => intro m y1 y4 ; exact jb_X7_layRest_126  (f_X7_layRest_126  F)  ih m y1 y4 
def f_X7_layRest_110 (K32 : mM → Int32 → Int32 → Int32 → fR Int32) (m : mM) (y1 : Int32) (y3 : Int32) (y100 : Int32) : fR Int32 :=
  (rmI (y3 + 1) (mI m 0)).bind fun x7 => (K32 m y1 y100 x7)
theorem j_X7_layRest_110 (K32 : mM → Int32 → Int32 → Int32 → fR Int32) (hK32 : ∀ (m : mM) (y1 : Int32) (y2 : Int32) (y3 : Int32) , JF false uI m_X7_layRest 13 32 [(0, .ref 0), (1, .int y1), (2, .int y2), (3, .int y3)] [] m (K32 m y1 y2 y3)) (m : mM) (y1 : Int32) (y3 : Int32) (y100 : Int32)  : JF false uI m_X7_layRest 13 110 [(0, .ref 0), (1, .int y1), (3, .int y3)] [.int y100] m (f_X7_layRest_110 K32 m y1 y3 y100) := by
  unfold f_X7_layRest_110
  refine F_istore_n (lv' := [(2, .int y100), (0, .ref 0), (1, .int y1), (3, .int y3)]) (i := 2) (a := 2) rfl (by decide) rfl (dk_X7_layRest 110 _ rfl) ?_
  refine F_iload_n (i := 3) (a := 3) rfl rfl (dk_X7_layRest 111 _ rfl) ?_
  refine F_iconst (v := 1) (by decide) (dk_X7_layRest 112 _ rfl) ?_
  refine F_iadd (dk_X7_layRest 113 _ rfl) ?_
  refine F_aload_n (i := 0) (a := 0) rfl rfl (dk_X7_layRest 114 _ rfl) ?_
  refine F_gI (n := 0) fxM_7_0_0 rfl fl_7_7 (dk_X7_layRest 115 _ rfl) ?_
  refine F_irem (dk_X7_layRest 118 _ rfl) (fun x7 => ?_)
  refine F_istore_n (lv' := [(3, .int x7), (2, .int y100), (0, .ref 0), (1, .int y1)]) (i := 3) (a := 3) rfl (by decide) rfl (dk_X7_layRest 119 _ rfl) ?_
  refine F_goto (tgt := 32) (by decide) (dk_X7_layRest 120 _ rfl) ?_
  exact F_loc (List.forall_mem_cons.mpr ⟨(.tail _ (.tail _ (.head _))), (List.forall_mem_cons.mpr ⟨(.tail _ (.tail _ (.tail _ (.head _)))), (List.forall_mem_cons.mpr ⟨(.tail _ (.head _)), (List.forall_mem_cons.mpr ⟨(.head _), (fun _ z => absurd z List.not_mem_nil)⟩)⟩)⟩)⟩) (hK32 _ _ _ _ )
def f_X7_layRest_96 (K32 : mM → Int32 → Int32 → Int32 → fR Int32) (m : mM) (y2 : Int32) (y3 : Int32) (y4 : Int32) (y100 : Int32) (y101 : Int32) : fR Int32 :=
  nmI (y101 + y100) fun v6 => (if y4 = 0 then (f_X7_layRest_110 K32 m v6 y3 (y2 + 1)) else (f_X7_layRest_110 K32 m v6 y3 0))
theorem j_X7_layRest_96 (K32 : mM → Int32 → Int32 → Int32 → fR Int32) (hK32 : ∀ (m : mM) (y1 : Int32) (y2 : Int32) (y3 : Int32) , JF false uI m_X7_layRest 13 32 [(0, .ref 0), (1, .int y1), (2, .int y2), (3, .int y3)] [] m (K32 m y1 y2 y3)) (m : mM) (y2 : Int32) (y3 : Int32) (y4 : Int32) (y100 : Int32) (y101 : Int32)  : JF false uI m_X7_layRest 13 96 [(0, .ref 0), (2, .int y2), (3, .int y3), (4, .int y4)] [.int y100, .int y101] m (f_X7_layRest_96 K32 m y2 y3 y4 y100 y101) := by
  unfold f_X7_layRest_96
  refine F_iadd (dk_X7_layRest 96 _ rfl) ?_
  refine F_nm (fun v6 => ?_)
  refine F_istore_n (lv' := [(1, .int v6), (0, .ref 0), (2, .int y2), (3, .int y3), (4, .int y4)]) (i := 1) (a := 1) rfl (by decide) rfl (dk_X7_layRest 97 _ rfl) ?_
  refine F_iload (i := 4) rfl (dk_X7_layRest 98 _ rfl) ?_
  refine F_if_eq (tgt := 107) (by decide) (dk_X7_layRest 100 _ rfl) ?_ ?_
  · refine F_iload_n (i := 2) (a := 2) rfl rfl (dk_X7_layRest 107 _ rfl) ?_
    refine F_iconst (v := 1) (by decide) (dk_X7_layRest 108 _ rfl) ?_
    refine F_iadd (dk_X7_layRest 109 _ rfl) ?_
    exact F_loc (List.forall_mem_cons.mpr ⟨(.tail _ (.head _)), (List.forall_mem_cons.mpr ⟨(.head _), (List.forall_mem_cons.mpr ⟨(.tail _ (.tail _ (.tail _ (.head _)))), (fun _ z => absurd z List.not_mem_nil)⟩)⟩)⟩) (j_X7_layRest_110 K32 hK32 _ _ _ _ )
  · refine F_iconst (v := 0) (by decide) (dk_X7_layRest 103 _ rfl) ?_
    refine F_goto (tgt := 110) (by decide) (dk_X7_layRest 104 _ rfl) ?_
    exact F_loc (List.forall_mem_cons.mpr ⟨(.tail _ (.head _)), (List.forall_mem_cons.mpr ⟨(.head _), (List.forall_mem_cons.mpr ⟨(.tail _ (.tail _ (.tail _ (.head _)))), (fun _ z => absurd z List.not_mem_nil)⟩)⟩)⟩) (j_X7_layRest_110 K32 hK32 _ _ _ _ )
def f_X7_layRest_85 (K32 : mM → Int32 → Int32 → Int32 → fR Int32) (m : mM) (y1 : Int32) (y2 : Int32) (y3 : Int32) (y4 : Int32) : fR Int32 :=
  (if y4 = 0 then (f_X7_layRest_96 K32 m y2 y3 y4 0 y1) else (f_X7_layRest_96 K32 m y2 y3 y4 1 y1))
theorem j_X7_layRest_85 (K32 : mM → Int32 → Int32 → Int32 → fR Int32) (hK32 : ∀ (m : mM) (y1 : Int32) (y2 : Int32) (y3 : Int32) , JF false uI m_X7_layRest 13 32 [(0, .ref 0), (1, .int y1), (2, .int y2), (3, .int y3)] [] m (K32 m y1 y2 y3)) (m : mM) (y1 : Int32) (y2 : Int32) (y3 : Int32) (y4 : Int32)  : JF false uI m_X7_layRest 13 85 [(0, .ref 0), (1, .int y1), (2, .int y2), (3, .int y3), (4, .int y4)] [] m (f_X7_layRest_85 K32 m y1 y2 y3 y4) := by
  unfold f_X7_layRest_85
  refine F_iload_n (i := 1) (a := 1) rfl rfl (dk_X7_layRest 85 _ rfl) ?_
  refine F_iload (i := 4) rfl (dk_X7_layRest 86 _ rfl) ?_
  refine F_if_eq (tgt := 95) (by decide) (dk_X7_layRest 88 _ rfl) ?_ ?_
  · refine F_iconst (v := 0) (by decide) (dk_X7_layRest 95 _ rfl) ?_
    exact F_loc (List.forall_mem_cons.mpr ⟨(.head _), (List.forall_mem_cons.mpr ⟨(.tail _ (.tail _ (.head _))), (List.forall_mem_cons.mpr ⟨(.tail _ (.tail _ (.tail _ (.head _)))), (List.forall_mem_cons.mpr ⟨(.tail _ (.tail _ (.tail _ (.tail _ (.head _))))), (fun _ z => absurd z List.not_mem_nil)⟩)⟩)⟩)⟩) (j_X7_layRest_96 K32 hK32 _ _ _ _ _ _ )
  · refine F_iconst (v := 1) (by decide) (dk_X7_layRest 91 _ rfl) ?_
    refine F_goto (tgt := 96) (by decide) (dk_X7_layRest 92 _ rfl) ?_
    exact F_loc (List.forall_mem_cons.mpr ⟨(.head _), (List.forall_mem_cons.mpr ⟨(.tail _ (.tail _ (.head _))), (List.forall_mem_cons.mpr ⟨(.tail _ (.tail _ (.tail _ (.head _)))), (List.forall_mem_cons.mpr ⟨(.tail _ (.tail _ (.tail _ (.tail _ (.head _))))), (fun _ z => absurd z List.not_mem_nil)⟩)⟩)⟩)⟩) (j_X7_layRest_96 K32 hK32 _ _ _ _ _ _ )
def f_X7_layRest_68 (K32 : mM → Int32 → Int32 → Int32 → fR Int32) (m : mM) (y1 : Int32) (y2 : Int32) (y3 : Int32) (y100 : Int32) : fR Int32 :=
  (if y100 = 0 then (f_X7_layRest_85 K32 m y1 y2 y3 y100) else (sA 0 m 4 y3 (mI m 34)).bind fun m8 => (f_X7_layRest_85 K32 m8 y1 y2 y3 y100))
theorem j_X7_layRest_68 (K32 : mM → Int32 → Int32 → Int32 → fR Int32) (hK32 : ∀ (m : mM) (y1 : Int32) (y2 : Int32) (y3 : Int32) , JF false uI m_X7_layRest 13 32 [(0, .ref 0), (1, .int y1), (2, .int y2), (3, .int y3)] [] m (K32 m y1 y2 y3)) (m : mM) (y1 : Int32) (y2 : Int32) (y3 : Int32) (y100 : Int32)  : JF false uI m_X7_layRest 13 68 [(0, .ref 0), (1, .int y1), (2, .int y2), (3, .int y3)] [.int y100] m (f_X7_layRest_68 K32 m y1 y2 y3 y100) := by
  unfold f_X7_layRest_68
  refine F_istore (lv' := [(4, .int y100), (0, .ref 0), (1, .int y1), (2, .int y2), (3, .int y3)]) (i := 4) (by decide) rfl (dk_X7_layRest 68 _ rfl) ?_
  refine F_iload (i := 4) rfl (dk_X7_layRest 70 _ rfl) ?_
  refine F_if_eq (tgt := 85) (by decide) (dk_X7_layRest 72 _ rfl) ?_ ?_
  · exact F_loc (List.forall_mem_cons.mpr ⟨(.tail _ (.head _)), (List.forall_mem_cons.mpr ⟨(.tail _ (.tail _ (.head _))), (List.forall_mem_cons.mpr ⟨(.tail _ (.tail _ (.tail _ (.head _)))), (List.forall_mem_cons.mpr ⟨(.tail _ (.tail _ (.tail _ (.tail _ (.head _))))), (List.forall_mem_cons.mpr ⟨(.head _), (fun _ z => absurd z List.not_mem_nil)⟩)⟩)⟩)⟩)⟩) (j_X7_layRest_85 K32 hK32 _ _ _ _ _ )
  · refine F_aload_n (i := 0) (a := 0) rfl rfl (dk_X7_layRest 75 _ rfl) ?_
    refine F_gR (b := 4) fxM_7_6_0 fl_7_29 (dk_X7_layRest 76 _ rfl) ?_
    refine F_iload_n (i := 3) (a := 3) rfl rfl (dk_X7_layRest 79 _ rfl) ?_
    refine F_aload_n (i := 0) (a := 0) rfl rfl (dk_X7_layRest 80 _ rfl) ?_
    refine F_gI (n := 34) fxM_7_34_0 rfl fl_7_114 (dk_X7_layRest 81 _ rfl) ?_
    refine F_iast (axM_0_4) (dk_X7_layRest 84 _ rfl) (fun m8 => ?_)
    exact F_loc (List.forall_mem_cons.mpr ⟨(.tail _ (.head _)), (List.forall_mem_cons.mpr ⟨(.tail _ (.tail _ (.head _))), (List.forall_mem_cons.mpr ⟨(.tail _ (.tail _ (.tail _ (.head _)))), (List.forall_mem_cons.mpr ⟨(.tail _ (.tail _ (.tail _ (.tail _ (.head _))))), (List.forall_mem_cons.mpr ⟨(.head _), (fun _ z => absurd z List.not_mem_nil)⟩)⟩)⟩)⟩)⟩) (j_X7_layRest_85 K32 hK32 _ _ _ _ _ )
def f_X7_layRest_67 (K32 : mM → Int32 → Int32 → Int32 → fR Int32) (m : mM) (y1 : Int32) (y2 : Int32) (y3 : Int32) : fR Int32 :=
  (f_X7_layRest_68 K32 m y1 y2 y3 0)
theorem j_X7_layRest_67 (K32 : mM → Int32 → Int32 → Int32 → fR Int32) (hK32 : ∀ (m : mM) (y1 : Int32) (y2 : Int32) (y3 : Int32) , JF false uI m_X7_layRest 13 32 [(0, .ref 0), (1, .int y1), (2, .int y2), (3, .int y3)] [] m (K32 m y1 y2 y3)) (m : mM) (y1 : Int32) (y2 : Int32) (y3 : Int32)  : JF false uI m_X7_layRest 13 67 [(0, .ref 0), (1, .int y1), (2, .int y2), (3, .int y3)] [] m (f_X7_layRest_67 K32 m y1 y2 y3) := by
  unfold f_X7_layRest_67
  refine F_iconst (v := 0) (by decide) (dk_X7_layRest 67 _ rfl) ?_
  exact F_loc (fun _ z => z) (j_X7_layRest_68 K32 hK32 _ _ _ _ _ )
def fb_X7_layRest_32 (K32 : mM → Int32 → Int32 → Int32 → fR Int32) (m : mM) (y1 : Int32) (y2 : Int32) (y3 : Int32) : fR Int32 :=
  (if (mI m 0) ≤ y2 then (f_X7_layRest_126  1000 m y1 0) else (if 9 ≤ y1 then (f_X7_layRest_126  1000 m y1 0) else (gA (mA m 7) y3).bind fun x5 => (if x5 = 0 then (f_X7_layRest_67 K32 m y1 y2 y3) else bnd (f_X7_wouldChange m y3) fun (x9 : Int32) (m10 : mM) => (if x9 = 0 then (f_X7_layRest_67 K32 m10 y1 y2 y3) else (f_X7_layRest_68 K32 m10 y1 y2 y3 1)))))
def f_X7_layRest_32  : Nat → mM → Int32 → Int32 → Int32 → fR Int32
  | 0, _, _, _, _ => none
  | F + 1, m, y1, y2, y3 => fb_X7_layRest_32  (f_X7_layRest_32  F) m y1 y2 y3
theorem jb_X7_layRest_32 (K32 : mM → Int32 → Int32 → Int32 → fR Int32) (hK32 : ∀ (m : mM) (y1 : Int32) (y2 : Int32) (y3 : Int32) , JF false uI m_X7_layRest 13 32 [(0, .ref 0), (1, .int y1), (2, .int y2), (3, .int y3)] [] m (K32 m y1 y2 y3)) (m : mM) (y1 : Int32) (y2 : Int32) (y3 : Int32)  : JF false uI m_X7_layRest 13 32 [(0, .ref 0), (1, .int y1), (2, .int y2), (3, .int y3)] [] m (fb_X7_layRest_32 K32 m y1 y2 y3) := by
  unfold fb_X7_layRest_32
  refine F_iload_n (i := 2) (a := 2) rfl rfl (dk_X7_layRest 32 _ rfl) ?_
  refine F_aload_n (i := 0) (a := 0) rfl rfl (dk_X7_layRest 33 _ rfl) ?_
  refine F_gI (n := 0) fxM_7_0_0 rfl fl_7_7 (dk_X7_layRest 34 _ rfl) ?_
  refine F_icmp_ge (tgt := 123) (by decide) (dk_X7_layRest 37 _ rfl) ?_ ?_
  · refine F_iconst (v := 0) (by decide) (dk_X7_layRest 123 _ rfl) ?_
    refine F_istore (lv' := [(4, .int 0), (0, .ref 0), (1, .int y1), (2, .int y2), (3, .int y3)]) (i := 4) (by decide) rfl (dk_X7_layRest 124 _ rfl) ?_
    exact F_loc (List.forall_mem_cons.mpr ⟨(.tail _ (.head _)), (List.forall_mem_cons.mpr ⟨(.tail _ (.tail _ (.head _))), (List.forall_mem_cons.mpr ⟨(.head _), (fun _ z => absurd z List.not_mem_nil)⟩)⟩)⟩) (j_X7_layRest_126   1000 _ _ _ )
  · refine F_iload_n (i := 1) (a := 1) rfl rfl (dk_X7_layRest 40 _ rfl) ?_
    refine F_bipush (v := 9) (by decide) (dk_X7_layRest 41 _ rfl) ?_
    refine F_icmp_ge (tgt := 123) (by decide) (dk_X7_layRest 43 _ rfl) ?_ ?_
    · refine F_iconst (v := 0) (by decide) (dk_X7_layRest 123 _ rfl) ?_
      refine F_istore (lv' := [(4, .int 0), (0, .ref 0), (1, .int y1), (2, .int y2), (3, .int y3)]) (i := 4) (by decide) rfl (dk_X7_layRest 124 _ rfl) ?_
      exact F_loc (List.forall_mem_cons.mpr ⟨(.tail _ (.head _)), (List.forall_mem_cons.mpr ⟨(.tail _ (.tail _ (.head _))), (List.forall_mem_cons.mpr ⟨(.head _), (fun _ z => absurd z List.not_mem_nil)⟩)⟩)⟩) (j_X7_layRest_126   1000 _ _ _ )
    · refine F_aload_n (i := 0) (a := 0) rfl rfl (dk_X7_layRest 46 _ rfl) ?_
      refine F_gR (b := 7) fxM_7_9_0 fl_7_38 (dk_X7_layRest 47 _ rfl) ?_
      refine F_iload_n (i := 3) (a := 3) rfl rfl (dk_X7_layRest 50 _ rfl) ?_
      refine F_zald (axM_3_7) (dk_X7_layRest 51 _ rfl) (fun x5 => ?_)
      refine F_if_eq (tgt := 67) (by decide) (dk_X7_layRest 52 _ rfl) ?_ ?_
      · exact F_loc (fun _ z => z) (j_X7_layRest_67 K32 hK32 _ _ _ _ )
      · refine F_aload_n (i := 0) (a := 0) rfl rfl (dk_X7_layRest 55 _ rfl) ?_
        refine F_iload_n (i := 3) (a := 3) rfl rfl (dk_X7_layRest 56 _ rfl) ?_
        refine F_callV (ι' := uI) (ci := 7) (b := 0) (As := [.int y3]) (d' := 12) (rfl) ok_X7_wouldChange vi_X7_wouldChange cl_7_330 (n := 1) (by decide +kernel) rfl rfl rfl (Nat.le_of_ble_eq_true rfl) (by omega) (dk_X7_layRest 57 _ rfl) (c_X7_wouldChange _ _ ) (fun x9 m10 => ?_)
        show JF _ _ _ _ _ _ [.int x9] _ _
        refine F_if_eq (tgt := 67) (by decide) (dk_X7_layRest 60 _ rfl) ?_ ?_
        · exact F_loc (fun _ z => z) (j_X7_layRest_67 K32 hK32 _ _ _ _ )
        · refine F_iconst (v := 1) (by decide) (dk_X7_layRest 63 _ rfl) ?_
          refine F_goto (tgt := 68) (by decide) (dk_X7_layRest 64 _ rfl) ?_
          exact F_loc (fun _ z => z) (j_X7_layRest_68 K32 hK32 _ _ _ _ _ )
theorem j_X7_layRest_32   : ∀ (F : Nat) (m : mM) (y1 : Int32) (y2 : Int32) (y3 : Int32) , JF false uI m_X7_layRest 13 32 [(0, .ref 0), (1, .int y1), (2, .int y2), (3, .int y3)] [] m (f_X7_layRest_32  F m y1 y2 y3) := by
  intro F
  induction F with
  | zero => intro m y1 y2 y3 ; exact F_no
  | succ F ih => intro m y1 y2 y3 ; exact jb_X7_layRest_32  (f_X7_layRest_32  F)  ih m y1 y2 y3 
def fb_X7_layRest_2 (K2 : mM → Int32 → fR Int32) (m : mM) (y1 : Int32) : fR Int32 :=
  (if 7 ≤ y1 then (f_X7_layRest_32  1000 m 0 0 0) else (gA (mA m 4) y1).bind fun x12 => (sA 0 m 21 y1 x12).bind fun m13 => (K2 m13 (y1 + 1)))
def f_X7_layRest_2  : Nat → mM → Int32 → fR Int32
  | 0, _, _ => none
  | F + 1, m, y1 => fb_X7_layRest_2  (f_X7_layRest_2  F) m y1
theorem jb_X7_layRest_2 (K2 : mM → Int32 → fR Int32) (hK2 : ∀ (m : mM) (y1 : Int32) , JF false uI m_X7_layRest 13 2 [(0, .ref 0), (1, .int y1)] [] m (K2 m y1)) (m : mM) (y1 : Int32)  : JF false uI m_X7_layRest 13 2 [(0, .ref 0), (1, .int y1)] [] m (fb_X7_layRest_2 K2 m y1) := by
  unfold fb_X7_layRest_2
  refine F_iload_n (i := 1) (a := 1) rfl rfl (dk_X7_layRest 2 _ rfl) ?_
  refine F_bipush (v := 7) (by decide) (dk_X7_layRest 3 _ rfl) ?_
  refine F_icmp_ge (tgt := 26) (by decide) (dk_X7_layRest 5 _ rfl) ?_ ?_
  · refine F_iconst (v := 0) (by decide) (dk_X7_layRest 26 _ rfl) ?_
    refine F_istore_n (lv' := [(1, .int 0), (0, .ref 0)]) (i := 1) (a := 1) rfl (by decide) rfl (dk_X7_layRest 27 _ rfl) ?_
    refine F_iconst (v := 0) (by decide) (dk_X7_layRest 28 _ rfl) ?_
    refine F_istore_n (lv' := [(2, .int 0), (1, .int 0), (0, .ref 0)]) (i := 2) (a := 2) rfl (by decide) rfl (dk_X7_layRest 29 _ rfl) ?_
    refine F_iconst (v := 0) (by decide) (dk_X7_layRest 30 _ rfl) ?_
    refine F_istore_n (lv' := [(3, .int 0), (2, .int 0), (1, .int 0), (0, .ref 0)]) (i := 3) (a := 3) rfl (by decide) rfl (dk_X7_layRest 31 _ rfl) ?_
    exact F_loc (List.forall_mem_cons.mpr ⟨(.tail _ (.tail _ (.tail _ (.head _)))), (List.forall_mem_cons.mpr ⟨(.tail _ (.tail _ (.head _))), (List.forall_mem_cons.mpr ⟨(.tail _ (.head _)), (List.forall_mem_cons.mpr ⟨(.head _), (fun _ z => absurd z List.not_mem_nil)⟩)⟩)⟩)⟩) (j_X7_layRest_32   1000 _ _ _ _ )
  · refine F_aload_n (i := 0) (a := 0) rfl rfl (dk_X7_layRest 8 _ rfl) ?_
    refine F_gR (b := 21) fxM_7_36_0 fl_7_120 (dk_X7_layRest 9 _ rfl) ?_
    refine F_iload_n (i := 1) (a := 1) rfl rfl (dk_X7_layRest 12 _ rfl) ?_
    refine F_aload_n (i := 0) (a := 0) rfl rfl (dk_X7_layRest 13 _ rfl) ?_
    refine F_gR (b := 4) fxM_7_6_0 fl_7_29 (dk_X7_layRest 14 _ rfl) ?_
    refine F_iload_n (i := 1) (a := 1) rfl rfl (dk_X7_layRest 17 _ rfl) ?_
    refine F_iald (axM_0_4) (dk_X7_layRest 18 _ rfl) (fun x12 => ?_)
    refine F_iast (axM_0_21) (dk_X7_layRest 19 _ rfl) (fun m13 => ?_)
    refine F_iinc (i := 1) (n := 1) (v := (y1 + 1)) (lv' := [(1, .int (y1 + 1)), (0, .ref 0)]) rfl (by first | rfl | decide) (by decide) rfl (dk_X7_layRest 20 _ rfl) ?_
    refine F_goto (tgt := 2) (by decide) (dk_X7_layRest 23 _ rfl) ?_
    exact F_loc (List.forall_mem_cons.mpr ⟨(.tail _ (.head _)), (List.forall_mem_cons.mpr ⟨(.head _), (fun _ z => absurd z List.not_mem_nil)⟩)⟩) (hK2 _ _ )
theorem j_X7_layRest_2   : ∀ (F : Nat) (m : mM) (y1 : Int32) , JF false uI m_X7_layRest 13 2 [(0, .ref 0), (1, .int y1)] [] m (f_X7_layRest_2  F m y1) := by
  intro F
  induction F with
  | zero => intro m y1 ; exact F_no
  | succ F ih => intro m y1 ; exact jb_X7_layRest_2  (f_X7_layRest_2  F)  ih m y1 
def f_X7_layRest (m : mM)  : fR Int32 :=
  (f_X7_layRest_2  1000 m 0)
theorem c_X7_layRest (m : mM)   : cF false uI m_X7_layRest 13 [.ref 0] m (f_X7_layRest m ) := by
  refine cF_of ok_X7_layRest (fun _ _ => Nat.le_of_ble_eq_true rfl) ?_
  unfold f_X7_layRest
  show JF _ _ _ _ _ [(0, .ref 0)] _ _ _
  refine F_iconst (v := 0) (by decide) (dk_X7_layRest 0 _ rfl) ?_
  refine F_istore_n (lv' := [(1, .int 0), (0, .ref 0)]) (i := 1) (a := 1) rfl (by decide) rfl (dk_X7_layRest 1 _ rfl) ?_
  exact F_loc (List.forall_mem_cons.mpr ⟨(.tail _ (.head _)), (List.forall_mem_cons.mpr ⟨(.head _), (fun _ z => absurd z List.not_mem_nil)⟩)⟩) (j_X7_layRest_2   1000 _ _ )
def f_X7_rest_23  (m : mM) (y1 : Int32) : fR Int32 :=
  bnd (f_X7_layRest m ) fun (x1 : Int32) (m2 : mM) => (if y1 = 0 then some (x1, m2) else (if 0 ≤ x1 then (gA (mA m2 22) (y1 - 10)).bind fun x4 => some (x4, m2) else some (x1, m2)))
theorem j_X7_rest_23   (m : mM) (y1 : Int32)  : JF false uI m_X7_rest 14 23 [(0, .ref 0), (1, .int y1)] [] m (f_X7_rest_23  m y1) := by
  unfold f_X7_rest_23
  refine F_aload_n (i := 0) (a := 0) rfl rfl (dk_X7_rest 23 _ rfl) ?_
  refine F_callV (ι' := uI) (ci := 7) (b := 0) (As := []) (d' := 13) (rfl) ok_X7_layRest vi_X7_layRest cl_7_333 (n := 0) (by decide +kernel) rfl rfl rfl (Nat.le_of_ble_eq_true rfl) (by omega) (dk_X7_rest 24 _ rfl) (c_X7_layRest _  ) (fun x1 m2 => ?_)
  show JF _ _ _ _ _ _ [.int x1] _ _
  refine F_istore_n (lv' := [(2, .int x1), (0, .ref 0), (1, .int y1)]) (i := 2) (a := 2) rfl (by decide) rfl (dk_X7_rest 27 _ rfl) ?_
  refine F_iload_n (i := 1) (a := 1) rfl rfl (dk_X7_rest 28 _ rfl) ?_
  refine F_if_eq (tgt := 36) (by decide) (dk_X7_rest 29 _ rfl) ?_ ?_
  · refine F_iload_n (i := 2) (a := 2) rfl rfl (dk_X7_rest 36 _ rfl) ?_
    refine F_goto (tgt := 49) (by decide) (dk_X7_rest 37 _ rfl) ?_
    exact F_ret rfl (dk_X7_rest 49 _ rfl)
  · refine F_iload_n (i := 2) (a := 2) rfl rfl (dk_X7_rest 32 _ rfl) ?_
    refine F_if_ge (tgt := 40) (by decide) (dk_X7_rest 33 _ rfl) ?_ ?_
    · refine F_aload_n (i := 0) (a := 0) rfl rfl (dk_X7_rest 40 _ rfl) ?_
      refine F_gR (b := 22) fxM_7_37_0 fl_7_123 (dk_X7_rest 41 _ rfl) ?_
      refine F_iload_n (i := 1) (a := 1) rfl rfl (dk_X7_rest 44 _ rfl) ?_
      refine F_bipush (v := 10) (by decide) (dk_X7_rest 45 _ rfl) ?_
      refine F_isub (dk_X7_rest 47 _ rfl) ?_
      refine F_iald (axM_0_22) (dk_X7_rest 48 _ rfl) (fun x4 => ?_)
      exact F_ret rfl (dk_X7_rest 49 _ rfl)
    · refine F_iload_n (i := 2) (a := 2) rfl rfl (dk_X7_rest 36 _ rfl) ?_
      refine F_goto (tgt := 49) (by decide) (dk_X7_rest 37 _ rfl) ?_
      exact F_ret rfl (dk_X7_rest 49 _ rfl)
def f_X7_rest (m : mM) (p1 : Int32) : fR Int32 :=
  (if p1 = 0 then (f_X7_rest_23  m p1) else bnd (f_X7_in m p1 10 ((9 + (mI m 0)))) fun (x5 : Int32) (m6 : mM) => (if x5 = 0 then some ((-1), m6) else (f_X7_rest_23  m6 p1)))
theorem c_X7_rest (m : mM) (p1 : Int32)  : cF false uI m_X7_rest 14 [.ref 0, .int p1] m (f_X7_rest m p1) := by
  refine cF_of ok_X7_rest (fun _ _ => Nat.le_of_ble_eq_true rfl) ?_
  unfold f_X7_rest
  show JF _ _ _ _ _ [(0, .ref 0), (1, .int p1)] _ _ _
  refine F_iload_n (i := 1) (a := 1) rfl rfl (dk_X7_rest 0 _ rfl) ?_
  refine F_if_eq (tgt := 23) (by decide) (dk_X7_rest 1 _ rfl) ?_ ?_
  · exact F_loc (fun _ z => z) (j_X7_rest_23   _ _ )
  · refine F_aload_n (i := 0) (a := 0) rfl rfl (dk_X7_rest 4 _ rfl) ?_
    refine F_iload_n (i := 1) (a := 1) rfl rfl (dk_X7_rest 5 _ rfl) ?_
    refine F_bipush (v := 10) (by decide) (dk_X7_rest 6 _ rfl) ?_
    refine F_bipush (v := 9) (by decide) (dk_X7_rest 8 _ rfl) ?_
    refine F_aload_n (i := 0) (a := 0) rfl rfl (dk_X7_rest 10 _ rfl) ?_
    refine F_gI (n := 0) fxM_7_0_0 rfl fl_7_7 (dk_X7_rest 11 _ rfl) ?_
    refine F_iadd (dk_X7_rest 14 _ rfl) ?_
    refine F_callV (ι' := uI) (ci := 7) (b := 0) (As := [.int p1, .int 10, .int (9 + (mI m 0))]) (d' := 2) (rfl) ok_X7_in vi_X7_in cl_7_194 (n := 3) (by decide +kernel) rfl rfl rfl (Nat.le_of_ble_eq_true rfl) (by omega) (dk_X7_rest 15 _ rfl) (c_X7_in _ _ _ _ ) (fun x5 m6 => ?_)
    show JF _ _ _ _ _ _ [.int x5] _ _
    refine F_if_ne (tgt := 23) (by decide) (dk_X7_rest 18 _ rfl) ?_ ?_
    · exact F_loc (fun _ z => z) (j_X7_rest_23   _ _ )
    · refine F_iconst (v := (-1)) (by decide) (dk_X7_rest 21 _ rfl) ?_
      exact F_ret rfl (dk_X7_rest 22 _ rfl)
end
