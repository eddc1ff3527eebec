-- 21m.fun.lean.txt
section
section
set_option maxRecDepth 100000
def f_X7_birth (m : mM) (p1 : Int32) (p2 : Int32) : fR Int32 :=
  bnd (f_X7_isPerson m p1) fun (x1 : Int32) (m2 : mM) => (if x1 = 0 then some ((-10000001), m2) else bnd (f_X7_in m2 p2 0 1) fun (x4 : Int32) (m5 : mM) => (if x4 = 0 then some ((-10000001), m5) else bnd (f_X7_layBest m5 p1 1) fun (x7 : Unit) (m8 : mM) => (if p2 = 0 then some ((mI m8 34), m8) else some ((mI m8 35), m8))))
theorem c_X7_birth (m : mM) (p1 : Int32) (p2 : Int32)  : cF false uI m_X7_birth 12 [.ref 0, .int p1, .int p2] m (f_X7_birth m p1 p2) := by
  refine cF_of ok_X7_birth (fun _ _ => Nat.le_of_ble_eq_true rfl) ?_
  unfold f_X7_birth
  show JF _ _ _ _ _ [(0, .ref 0), (1, .int p1), (2, .int p2)] _ _ _
  refine F_aload_n (i := 0) (a := 0) rfl rfl (dk_X7_birth 0 _ rfl) ?_
  refine F_iload_n (i := 1) (a := 1) rfl rfl (dk_X7_birth 1 _ rfl) ?_
  refine F_callV (ι' := uI) (ci := 7) (b := 0) (As := [.int p1]) (d' := 3) (rfl) ok_X7_isPerson vi_X7_isPerson cl_7_206 (n := 1) (by decide +kernel) rfl rfl rfl (Nat.le_of_ble_eq_true rfl) (by omega) (dk_X7_birth 2 _ rfl) (c_X7_isPerson _ _ ) (fun x1 m2 => ?_)
  show JF _ _ _ _ _ _ [.int x1] _ _
  refine F_if_eq (tgt := 18) (by decide) (dk_X7_birth 5 _ rfl) ?_ ?_
  · refine F_ldcw (v := (-10000001)) ct_7_291 (dk_X7_birth 18 _ rfl) ?_
    exact F_ret rfl (dk_X7_birth 21 _ rfl)
  · refine F_aload_n (i := 0) (a := 0) rfl rfl (dk_X7_birth 8 _ rfl) ?_
    refine F_iload_n (i := 2) (a := 2) rfl rfl (dk_X7_birth 9 _ rfl) ?_
    refine F_iconst (v := 0) (by decide) (dk_X7_birth 10 _ rfl) ?_
    refine F_iconst (v := 1) (by decide) (dk_X7_birth 11 _ rfl) ?_
    refine F_callV (ι' := uI) (ci := 7) (b := 0) (As := [.int p2, .int 0, .int 1]) (d' := 2) (rfl) ok_X7_in vi_X7_in cl_7_194 (n := 3) (by decide +kernel) rfl rfl rfl (Nat.le_of_ble_eq_true rfl) (by omega) (dk_X7_birth 12 _ rfl) (c_X7_in _ _ _ _ ) (fun x4 m5 => ?_)
    show JF _ _ _ _ _ _ [.int x4] _ _
    refine F_if_ne (tgt := 22) (by decide) (dk_X7_birth 15 _ rfl) ?_ ?_
    · refine F_aload_n (i := 0) (a := 0) rfl rfl (dk_X7_birth 22 _ rfl) ?_
      refine F_iload_n (i := 1) (a := 1) rfl rfl (dk_X7_birth 23 _ rfl) ?_
      refine F_iconst (v := 1) (by decide) (dk_X7_birth 24 _ rfl) ?_
      refine F_callV (ι' := uU) (ci := 7) (b := 0) (As := [.int p1, .int 1]) (d' := 11) (rfl) ok_X7_layBest vi_X7_layBest cl_7_326 (n := 2) (by decide +kernel) rfl rfl rfl (Nat.le_of_ble_eq_true rfl) (by omega) (dk_X7_birth 25 _ rfl) (c_X7_layBest _ _ _ ) (fun x7 m8 => ?_)
      show JF _ _ _ _ _ _ [] _ _
      refine F_iload_n (i := 2) (a := 2) rfl rfl (dk_X7_birth 28 _ rfl) ?_
      refine F_if_ne (tgt := 39) (by decide) (dk_X7_birth 29 _ rfl) ?_ ?_
      · refine F_aload_n (i := 0) (a := 0) rfl rfl (dk_X7_birth 39 _ rfl) ?_
        refine F_gI (n := 35) fxM_7_35_0 rfl fl_7_117 (dk_X7_birth 40 _ rfl) ?_
        exact F_ret rfl (dk_X7_birth 43 _ rfl)
      · refine F_aload_n (i := 0) (a := 0) rfl rfl (dk_X7_birth 32 _ rfl) ?_
        refine F_gI (n := 34) fxM_7_34_0 rfl fl_7_114 (dk_X7_birth 33 _ rfl) ?_
        refine F_goto (tgt := 43) (by decide) (dk_X7_birth 36 _ rfl) ?_
        exact F_ret rfl (dk_X7_birth 43 _ rfl)
    · refine F_ldcw (v := (-10000001)) ct_7_291 (dk_X7_birth 18 _ rfl) ?_
      exact F_ret rfl (dk_X7_birth 21 _ rfl)
def f_X7_plan (m : mM) (p1 : Int32) (p2 : Int32) : fR Int32 :=
  bnd (f_X7_isPerson m p1) fun (x1 : Int32) (m2 : mM) => (if x1 = 0 then some ((-10000001), m2) else bnd (f_X7_in m2 p2 0 1) fun (x4 : Int32) (m5 : mM) => (if x4 = 0 then some ((-10000001), m5) else bnd (f_X7_layBest m5 p1 0) fun (x7 : Unit) (m8 : mM) => (if p2 = 0 then some ((mI m8 34), m8) else some ((mI m8 35), m8))))
theorem c_X7_plan (m : mM) (p1 : Int32) (p2 : Int32)  : cF false uI m_X7_plan 12 [.ref 0, .int p1, .int p2] m (f_X7_plan m p1 p2) := by
  refine cF_of ok_X7_plan (fun _ _ => Nat.le_of_ble_eq_true rfl) ?_
  unfold f_X7_plan
  show JF _ _ _ _ _ [(0, .ref 0), (1, .int p1), (2, .int p2)] _ _ _
  refine F_aload_n (i := 0) (a := 0) rfl rfl (dk_X7_plan 0 _ rfl) ?_
  refine F_iload_n (i := 1) (a := 1) rfl rfl (dk_X7_plan 1 _ rfl) ?_
  refine F_callV (ι' := uI) (ci := 7) (b := 0) (As := [.int p1]) (d' := 3) (rfl) ok_X7_isPerson vi_X7_isPerson cl_7_206 (n := 1) (by decide +kernel) rfl rfl rfl (Nat.le_of_ble_eq_true rfl) (by omega) (dk_X7_plan 2 _ rfl) (c_X7_isPerson _ _ ) (fun x1 m2 => ?_)
  show JF _ _ _ _ _ _ [.int x1] _ _
  refine F_if_eq (tgt := 18) (by decide) (dk_X7_plan 5 _ rfl) ?_ ?_
  · refine F_ldcw (v := (-10000001)) ct_7_291 (dk_X7_plan 18 _ rfl) ?_
    exact F_ret rfl (dk_X7_plan 21 _ rfl)
  · refine F_aload_n (i := 0) (a := 0) rfl rfl (dk_X7_plan 8 _ rfl) ?_
    refine F_iload_n (i := 2) (a := 2) rfl rfl (dk_X7_plan 9 _ rfl) ?_
    refine F_iconst (v := 0) (by decide) (dk_X7_plan 10 _ rfl) ?_
    refine F_iconst (v := 1) (by decide) (dk_X7_plan 11 _ rfl) ?_
    refine F_callV (ι' := uI) (ci := 7) (b := 0) (As := [.int p2, .int 0, .int 1]) (d' := 2) (rfl) ok_X7_in vi_X7_in cl_7_194 (n := 3) (by decide +kernel) rfl rfl rfl (Nat.le_of_ble_eq_true rfl) (by omega) (dk_X7_plan 12 _ rfl) (c_X7_in _ _ _ _ ) (fun x4 m5 => ?_)
    show JF _ _ _ _ _ _ [.int x4] _ _
    refine F_if_ne (tgt := 22) (by decide) (dk_X7_plan 15 _ rfl) ?_ ?_
    · refine F_aload_n (i := 0) (a := 0) rfl rfl (dk_X7_plan 22 _ rfl) ?_
      refine F_iload_n (i := 1) (a := 1) rfl rfl (dk_X7_plan 23 _ rfl) ?_
      refine F_iconst (v := 0) (by decide) (dk_X7_plan 24 _ rfl) ?_
      refine F_callV (ι' := uU) (ci := 7) (b := 0) (As := [.int p1, .int 0]) (d' := 11) (rfl) ok_X7_layBest vi_X7_layBest cl_7_326 (n := 2) (by decide +kernel) rfl rfl rfl (Nat.le_of_ble_eq_true rfl) (by omega) (dk_X7_plan 25 _ rfl) (c_X7_layBest _ _ _ ) (fun x7 m8 => ?_)
      show JF _ _ _ _ _ _ [] _ _
      refine F_iload_n (i := 2) (a := 2) rfl rfl (dk_X7_plan 28 _ rfl) ?_
      refine F_if_ne (tgt := 39) (by decide) (dk_X7_plan 29 _ rfl) ?_ ?_
      · refine F_aload_n (i := 0) (a := 0) rfl rfl (dk_X7_plan 39 _ rfl) ?_
        refine F_gI (n := 35) fxM_7_35_0 rfl fl_7_117 (dk_X7_plan 40 _ rfl) ?_
        exact F_ret rfl (dk_X7_plan 43 _ rfl)
      · refine F_aload_n (i := 0) (a := 0) rfl rfl (dk_X7_plan 32 _ rfl) ?_
        refine F_gI (n := 34) fxM_7_34_0 rfl fl_7_114 (dk_X7_plan 33 _ rfl) ?_
        refine F_goto (tgt := 43) (by decide) (dk_X7_plan 36 _ rfl) ?_
        exact F_ret rfl (dk_X7_plan 43 _ rfl)
    · refine F_ldcw (v := (-10000001)) ct_7_291 (dk_X7_plan 18 _ rfl) ?_
      exact F_ret rfl (dk_X7_plan 21 _ rfl)
def fb_X7_quiet_4 (K4 : mM → Int32 → Int32 → fR Int32) (m : mM) (y1 : Int32) (y2 : Int32) : fR Int32 :=
  (if 12 ≤ y2 then some (y1, m) else bnd (f_X7_sellOn m y2) fun (x1 : Int32) (m2 : mM) => (if x1 = 0 then nmI ((y1 ||| (1 <<< (y2 &&& 31)))) fun v5 => (K4 m2 v5 (y2 + 1)) else nmI (y1 ||| 0) fun v4 => (K4 m2 v4 (y2 + 1))))
def f_X7_quiet_4  : Nat → mM → Int32 → Int32 → fR Int32
  | 0, _, _, _ => none
  | F + 1, m, y1, y2 => fb_X7_quiet_4  (f_X7_quiet_4  F) m y1 y2
theorem jb_X7_quiet_4 (K4 : mM → Int32 → Int32 → fR Int32) (hK4 : ∀ (m : mM) (y1 : Int32) (y2 : Int32) , JF false uI m_X7_quiet 8 4 [(0, .ref 0), (1, .int y1), (2, .int y2)] [] m (K4 m y1 y2)) (m : mM) (y1 : Int32) (y2 : Int32)  : JF false uI m_X7_quiet 8 4 [(0, .ref 0), (1, .int y1), (2, .int y2)] [] m (fb_X7_quiet_4 K4 m y1 y2) := by
  unfold fb_X7_quiet_4
  refine F_iload_n (i := 2) (a := 2) rfl rfl (dk_X7_quiet 4 _ rfl) ?_
  refine F_bipush (v := 12) (by decide) (dk_X7_quiet 5 _ rfl) ?_
  refine F_icmp_ge (tgt := 34) (by decide) (dk_X7_quiet 7 _ rfl) ?_ ?_
  · refine F_iload_n (i := 1) (a := 1) rfl rfl (dk_X7_quiet 34 _ rfl) ?_
    exact F_ret rfl (dk_X7_quiet 35 _ rfl)
  · refine F_iload_n (i := 1) (a := 1) rfl rfl (dk_X7_quiet 10 _ rfl) ?_
    refine F_aload_n (i := 0) (a := 0) rfl rfl (dk_X7_quiet 11 _ rfl) ?_
    refine F_iload_n (i := 2) (a := 2) rfl rfl (dk_X7_quiet 12 _ rfl) ?_
    refine F_callV (ι' := uI) (ci := 7) (b := 0) (As := [.int y2]) (d' := 7) (rfl) ok_X7_sellOn vi_X7_sellOn cl_7_301 (n := 1) (by decide +kernel) rfl rfl rfl (Nat.le_of_ble_eq_true rfl) (by omega) (dk_X7_quiet 13 _ rfl) (c_X7_sellOn _ _ ) (fun x1 m2 => ?_)
    show JF _ _ _ _ _ _ [.int x1, .int y1] _ _
    refine F_if_ne (tgt := 25) (by decide) (dk_X7_quiet 16 _ rfl) ?_ ?_
    · refine F_iconst (v := 0) (by decide) (dk_X7_quiet 25 _ rfl) ?_
      refine F_ior (dk_X7_quiet 26 _ rfl) ?_
      refine F_nm (fun v4 => ?_)
      refine F_istore_n (lv' := [(1, .int v4), (0, .ref 0), (2, .int y2)]) (i := 1) (a := 1) rfl (by decide) rfl (dk_X7_quiet 27 _ rfl) ?_
      refine F_iinc (i := 2) (n := 1) (v := (y2 + 1)) (lv' := [(2, .int (y2 + 1)), (1, .int v4), (0, .ref 0)]) rfl (by first | rfl | decide) (by decide) rfl (dk_X7_quiet 28 _ rfl) ?_
      refine F_goto (tgt := 4) (by decide) (dk_X7_quiet 31 _ rfl) ?_
      exact F_loc (List.forall_mem_cons.mpr ⟨(.tail _ (.tail _ (.head _))), (List.forall_mem_cons.mpr ⟨(.tail _ (.head _)), (List.forall_mem_cons.mpr ⟨(.head _), (fun _ z => absurd z List.not_mem_nil)⟩)⟩)⟩) (hK4 _ _ _ )
    · refine F_iconst (v := 1) (by decide) (dk_X7_quiet 19 _ rfl) ?_
      refine F_iload_n (i := 2) (a := 2) rfl rfl (dk_X7_quiet 20 _ rfl) ?_
      refine F_ishl (dk_X7_quiet 21 _ rfl) ?_
      refine F_goto (tgt := 26) (by decide) (dk_X7_quiet 22 _ rfl) ?_
      refine F_ior (dk_X7_quiet 26 _ rfl) ?_
      refine F_nm (fun v5 => ?_)
      refine F_istore_n (lv' := [(1, .int v5), (0, .ref 0), (2, .int y2)]) (i := 1) (a := 1) rfl (by decide) rfl (dk_X7_quiet 27 _ rfl) ?_
      refine F_iinc (i := 2) (n := 1) (v := (y2 + 1)) (lv' := [(2, .int (y2 + 1)), (1, .int v5), (0, .ref 0)]) rfl (by first | rfl | decide) (by decide) rfl (dk_X7_quiet 28 _ rfl) ?_
      refine F_goto (tgt := 4) (by decide) (dk_X7_quiet 31 _ rfl) ?_
      exact F_loc (List.forall_mem_cons.mpr ⟨(.tail _ (.tail _ (.head _))), (List.forall_mem_cons.mpr ⟨(.tail _ (.head _)), (List.forall_mem_cons.mpr ⟨(.head _), (fun _ z => absurd z List.not_mem_nil)⟩)⟩)⟩) (hK4 _ _ _ )
theorem j_X7_quiet_4   : ∀ (F : Nat) (m : mM) (y1 : Int32) (y2 : Int32) , JF false uI m_X7_quiet 8 4 [(0, .ref 0), (1, .int y1), (2, .int y2)] [] m (f_X7_quiet_4  F m y1 y2) := by
  intro F
  induction F with
  | zero => intro m y1 y2 ; exact F_no
  | succ F ih => intro m y1 y2 ; exact jb_X7_quiet_4  (f_X7_quiet_4  F)  ih m y1 y2 
def f_X7_quiet (m : mM)  : fR Int32 :=
  (f_X7_quiet_4  1000 m 0 0)
theorem c_X7_quiet (m : mM)   : cF false uI m_X7_quiet 8 [.ref 0] m (f_X7_quiet m ) := by
  refine cF_of ok_X7_quiet (fun _ _ => Nat.le_of_ble_eq_true rfl) ?_
  unfold f_X7_quiet
  show JF _ _ _ _ _ [(0, .ref 0)] _ _ _
  refine F_iconst (v := 0) (by decide) (dk_X7_quiet 0 _ rfl) ?_
  refine F_istore_n (lv' := [(1, .int 0), (0, .ref 0)]) (i := 1) (a := 1) rfl (by decide) rfl (dk_X7_quiet 1 _ rfl) ?_
  refine F_iconst (v := 0) (by decide) (dk_X7_quiet 2 _ rfl) ?_
  refine F_istore_n (lv' := [(2, .int 0), (1, .int 0), (0, .ref 0)]) (i := 2) (a := 2) rfl (by decide) rfl (dk_X7_quiet 3 _ rfl) ?_
  exact F_loc (List.forall_mem_cons.mpr ⟨(.tail _ (.tail _ (.head _))), (List.forall_mem_cons.mpr ⟨(.tail _ (.head _)), (List.forall_mem_cons.mpr ⟨(.head _), (fun _ z => absurd z List.not_mem_nil)⟩)⟩)⟩) (j_X7_quiet_4   1000 _ _ _ )
def f_X7_foundling (m : mM) (p1 : Int32) (p2 : Int32) : fR Int32 :=
  bnd (f_X7_in m p2 0 1) fun (x1 : Int32) (m2 : mM) => (if x1 = 0 then some ((-10000001), m2) else bnd (f_X7_isDay m2 p1) fun (x4 : Int32) (m5 : mM) => (if x4 = 0 then some ((-10000002), m5) else (if (mI m5 0) = 7 then some ((-9), m5) else bnd (f_X7_lay m5 (mI m5 0) 0 0 0 p1) fun (x7 : Unit) (m8 : mM) => nmM (wI m8 0 (((mI m8 0) + 1))) fun m10 => bnd (f_X7_layBest m10 (((mI m10 0) - 1)) 1) fun (x11 : Unit) (m12 : mM) => nmM (wI m12 0 (((mI m12 0) - 1))) fun m14 => (if p2 = 0 then some ((mI m14 34), m14) else some ((mI m14 35), m14)))))
theorem c_X7_foundling (m : mM) (p1 : Int32) (p2 : Int32)  : cF false uI m_X7_foundling 12 [.ref 0, .int p1, .int p2] m (f_X7_foundling m p1 p2) := by
  refine cF_of ok_X7_foundling (fun _ _ => Nat.le_of_ble_eq_true rfl) ?_
  unfold f_X7_foundling
  show JF _ _ _ _ _ [(0, .ref 0), (1, .int p1), (2, .int p2)] _ _ _
  refine F_aload_n (i := 0) (a := 0) rfl rfl (dk_X7_foundling 0 _ rfl) ?_
  refine F_iload_n (i := 2) (a := 2) rfl rfl (dk_X7_foundling 1 _ rfl) ?_
  refine F_iconst (v := 0) (by decide) (dk_X7_foundling 2 _ rfl) ?_
  refine F_iconst (v := 1) (by decide) (dk_X7_foundling 3 _ rfl) ?_
  refine F_callV (ι' := uI) (ci := 7) (b := 0) (As := [.int p2, .int 0, .int 1]) (d' := 2) (rfl) ok_X7_in vi_X7_in cl_7_194 (n := 3) (by decide +kernel) rfl rfl rfl (Nat.le_of_ble_eq_true rfl) (by omega) (dk_X7_foundling 4 _ rfl) (c_X7_in _ _ _ _ ) (fun x1 m2 => ?_)
  show JF _ _ _ _ _ _ [.int x1] _ _
  refine F_if_ne (tgt := 14) (by decide) (dk_X7_foundling 7 _ rfl) ?_ ?_
  · refine F_aload_n (i := 0) (a := 0) rfl rfl (dk_X7_foundling 14 _ rfl) ?_
    refine F_iload_n (i := 1) (a := 1) rfl rfl (dk_X7_foundling 15 _ rfl) ?_
    refine F_callV (ι' := uI) (ci := 7) (b := 0) (As := [.int p1]) (d' := 3) (rfl) ok_X7_isDay vi_X7_isDay cl_7_198 (n := 1) (by decide +kernel) rfl rfl rfl (Nat.le_of_ble_eq_true rfl) (by omega) (dk_X7_foundling 16 _ rfl) (c_X7_isDay _ _ ) (fun x4 m5 => ?_)
    show JF _ _ _ _ _ _ [.int x4] _ _
    refine F_if_ne (tgt := 26) (by decide) (dk_X7_foundling 19 _ rfl) ?_ ?_
    · refine F_aload_n (i := 0) (a := 0) rfl rfl (dk_X7_foundling 26 _ rfl) ?_
      refine F_gI (n := 0) fxM_7_0_0 rfl fl_7_7 (dk_X7_foundling 27 _ rfl) ?_
      refine F_bipush (v := 7) (by decide) (dk_X7_foundling 30 _ rfl) ?_
      refine F_icmp_ne (tgt := 38) (by decide) (dk_X7_foundling 32 _ rfl) ?_ ?_
      · refine F_aload_n (i := 0) (a := 0) rfl rfl (dk_X7_foundling 38 _ rfl) ?_
        refine F_aload_n (i := 0) (a := 0) rfl rfl (dk_X7_foundling 39 _ rfl) ?_
        refine F_gI (n := 0) fxM_7_0_0 rfl fl_7_7 (dk_X7_foundling 40 _ rfl) ?_
        refine F_iconst (v := 0) (by decide) (dk_X7_foundling 43 _ rfl) ?_
        refine F_iconst (v := 0) (by decide) (dk_X7_foundling 44 _ rfl) ?_
        refine F_iconst (v := 0) (by decide) (dk_X7_foundling 45 _ rfl) ?_
        refine F_iload_n (i := 1) (a := 1) rfl rfl (dk_X7_foundling 46 _ rfl) ?_
        refine F_callV (ι' := uU) (ci := 7) (b := 0) (As := [.int (mI m5 0), .int 0, .int 0, .int 0, .int p1]) (d' := 2) (rfl) ok_X7_lay vi_X7_lay cl_7_202 (n := 5) (by decide +kernel) rfl rfl rfl (Nat.le_of_ble_eq_true rfl) (by omega) (dk_X7_foundling 47 _ rfl) (c_X7_lay _ _ _ _ _ _ ) (fun x7 m8 => ?_)
        show JF _ _ _ _ _ _ [] _ _
        refine F_aload_n (i := 0) (a := 0) rfl rfl (dk_X7_foundling 50 _ rfl) ?_
        refine F_dup rfl (dk_X7_foundling 51 _ rfl) ?_
        refine F_gI (n := 0) fxM_7_0_0 rfl fl_7_7 (dk_X7_foundling 52 _ rfl) ?_
        refine F_iconst (v := 1) (by decide) (dk_X7_foundling 55 _ rfl) ?_
        refine F_iadd (dk_X7_foundling 56 _ rfl) ?_
        refine F_pI (n := 0) fxM_7_0_0 rfl fl_7_7 (fun q hq => by cases hq; rfl) trivial (dk_X7_foundling 57 _ rfl) (fun m10 => ?_)
        refine F_aload_n (i := 0) (a := 0) rfl rfl (dk_X7_foundling 60 _ rfl) ?_
        refine F_aload_n (i := 0) (a := 0) rfl rfl (dk_X7_foundling 61 _ rfl) ?_
        refine F_gI (n := 0) fxM_7_0_0 rfl fl_7_7 (dk_X7_foundling 62 _ rfl) ?_
        refine F_iconst (v := 1) (by decide) (dk_X7_foundling 65 _ rfl) ?_
        refine F_isub (dk_X7_foundling 66 _ rfl) ?_
        refine F_iconst (v := 1) (by decide) (dk_X7_foundling 67 _ rfl) ?_
        refine F_callV (ι' := uU) (ci := 7) (b := 0) (As := [.int ((mI m10 0) - 1), .int 1]) (d' := 11) (rfl) ok_X7_layBest vi_X7_layBest cl_7_326 (n := 2) (by decide +kernel) rfl rfl rfl (Nat.le_of_ble_eq_true rfl) (by omega) (dk_X7_foundling 68 _ rfl) (c_X7_layBest _ _ _ ) (fun x11 m12 => ?_)
        show JF _ _ _ _ _ _ [] _ _
        refine F_aload_n (i := 0) (a := 0) rfl rfl (dk_X7_foundling 71 _ rfl) ?_
        refine F_dup rfl (dk_X7_foundling 72 _ rfl) ?_
        refine F_gI (n := 0) fxM_7_0_0 rfl fl_7_7 (dk_X7_foundling 73 _ rfl) ?_
        refine F_iconst (v := 1) (by decide) (dk_X7_foundling 76 _ rfl) ?_
        refine F_isub (dk_X7_foundling 77 _ rfl) ?_
        refine F_pI (n := 0) fxM_7_0_0 rfl fl_7_7 (fun q hq => by cases hq; rfl) trivial (dk_X7_foundling 78 _ rfl) (fun m14 => ?_)
        refine F_iload_n (i := 2) (a := 2) rfl rfl (dk_X7_foundling 81 _ rfl) ?_
        refine F_if_ne (tgt := 92) (by decide) (dk_X7_foundling 82 _ rfl) ?_ ?_
        · refine F_aload_n (i := 0) (a := 0) rfl rfl (dk_X7_foundling 92 _ rfl) ?_
          refine F_gI (n := 35) fxM_7_35_0 rfl fl_7_117 (dk_X7_foundling 93 _ rfl) ?_
          exact F_ret rfl (dk_X7_foundling 96 _ rfl)
        · refine F_aload_n (i := 0) (a := 0) rfl rfl (dk_X7_foundling 85 _ rfl) ?_
          refine F_gI (n := 34) fxM_7_34_0 rfl fl_7_114 (dk_X7_foundling 86 _ rfl) ?_
          refine F_goto (tgt := 96) (by decide) (dk_X7_foundling 89 _ rfl) ?_
          exact F_ret rfl (dk_X7_foundling 96 _ rfl)
      · refine F_bipush (v := (-9)) (by decide) (dk_X7_foundling 35 _ rfl) ?_
        exact F_ret rfl (dk_X7_foundling 37 _ rfl)
    · refine F_ldcw (v := (-10000002)) ct_7_313 (dk_X7_foundling 22 _ rfl) ?_
      exact F_ret rfl (dk_X7_foundling 25 _ rfl)
  · refine F_ldcw (v := (-10000001)) ct_7_291 (dk_X7_foundling 10 _ rfl) ?_
    exact F_ret rfl (dk_X7_foundling 13 _ rfl)
def f_X7_forged_97 (K20 : mM → Int32 → Int32 → Int32 → fR Int32) (m : mM) (y1 : Int32) (y2 : Int32) (y3 : Int32) (y4 : Int32) : fR Int32 :=
  (sA 0 m 3 y3 y4).bind fun m5 => (K20 m5 y1 y2 (y3 + 1))
theorem j_X7_forged_97 (K20 : mM → Int32 → Int32 → Int32 → fR Int32) (hK20 : ∀ (m : mM) (y1 : Int32) (y2 : Int32) (y3 : Int32) , JF false uI m_X7_forged 11 20 [(0, .ref 0), (1, .int y1), (2, .int y2), (3, .int y3)] [] m (K20 m y1 y2 y3)) (m : mM) (y1 : Int32) (y2 : Int32) (y3 : Int32) (y4 : Int32)  : JF false uI m_X7_forged 11 97 [(0, .ref 0), (1, .int y1), (2, .int y2), (3, .int y3), (4, .int y4)] [] m (f_X7_forged_97 K20 m y1 y2 y3 y4) := by
  unfold f_X7_forged_97
  refine F_aload_n (i := 0) (a := 0) rfl rfl (dk_X7_forged 97 _ rfl) ?_
  refine F_gR (b := 3) fxM_7_5_0 fl_7_26 (dk_X7_forged 98 _ rfl) ?_
  refine F_iload_n (i := 3) (a := 3) rfl rfl (dk_X7_forged 101 _ rfl) ?_
  refine F_iload (i := 4) rfl (dk_X7_forged 102 _ rfl) ?_
  refine F_iast (axM_0_3) (dk_X7_forged 104 _ rfl) (fun m5 => ?_)
  refine F_iinc (i := 3) (n := 1) (v := (y3 + 1)) (lv' := [(3, .int (y3 + 1)), (0, .ref 0), (1, .int y1), (2, .int y2), (4, .int y4)]) rfl (by first | rfl | decide) (by decide) rfl (dk_X7_forged 105 _ rfl) ?_
  refine F_goto (tgt := 20) (by decide) (dk_X7_forged 108 _ rfl) ?_
  exact F_loc (List.forall_mem_cons.mpr ⟨(.tail _ (.head _)), (List.forall_mem_cons.mpr ⟨(.tail _ (.tail _ (.head _))), (List.forall_mem_cons.mpr ⟨(.tail _ (.tail _ (.tail _ (.head _)))), (List.forall_mem_cons.mpr ⟨(.head _), (fun _ z => absurd z List.not_mem_nil)⟩)⟩)⟩)⟩) (hK20 _ _ _ _ )
def fb_X7_forged_43 (K20 : mM → Int32 → Int32 → Int32 → fR Int32) (K43 : mM → Int32 → Int32 → Int32 → Int32 → Int32 → fR Int32) (m : mM) (y1 : Int32) (y2 : Int32) (y3 : Int32) (y4 : Int32) (y5 : Int32) : fR Int32 :=
  (if 12 ≤ y5 then (f_X7_forged_97 K20 m y1 y2 y3 y4) else (if 0 ≤ y2 then (f_X7_forged_97 K20 m y1 y2 y3 y4) else (sA 0 m 3 y3 y5).bind fun m6 => (if y5 = y4 then (K43 m6 y1 (-5) y3 y4 (y5 + 1)) else bnd (f_X7_yearOf m6 y3) fun (x7 : Int32) (m8 : mM) => (if x7 = y1 then nmI (((100 * y3) + y5)) fun v10 => (K43 m8 y1 v10 y3 y4 (y5 + 1)) else (K43 m8 y1 (-5) y3 y4 (y5 + 1))))))
def f_X7_forged_43 (K20 : mM → Int32 → Int32 → Int32 → fR Int32) : Nat → mM → Int32 → Int32 → Int32 → Int32 → Int32 → fR Int32
  | 0, _, _, _, _, _, _ => none
  | F + 1, m, y1, y2, y3, y4, y5 => fb_X7_forged_43 K20 (f_X7_forged_43 K20 F) m y1 y2 y3 y4 y5
theorem jb_X7_forged_43 (K20 : mM → Int32 → Int32 → Int32 → fR Int32) (K43 : mM → Int32 → Int32 → Int32 → Int32 → Int32 → fR Int32) (hK20 : ∀ (m : mM) (y1 : Int32) (y2 : Int32) (y3 : Int32) , JF false uI m_X7_forged 11 20 [(0, .ref 0), (1, .int y1), (2, .int y2), (3, .int y3)] [] m (K20 m y1 y2 y3)) (hK43 : ∀ (m : mM) (y1 : Int32) (y2 : Int32) (y3 : Int32) (y4 : Int32) (y5 : Int32) , JF false uI m_X7_forged 11 43 [(0, .ref 0), (1, .int y1), (2, .int y2), (3, .int y3), (4, .int y4), (5, .int y5)] [] m (K43 m y1 y2 y3 y4 y5)) (m : mM) (y1 : Int32) (y2 : Int32) (y3 : Int32) (y4 : Int32) (y5 : Int32)  : JF false uI m_X7_forged 11 43 [(0, .ref 0), (1, .int y1), (2, .int y2), (3, .int y3), (4, .int y4), (5, .int y5)] [] m (fb_X7_forged_43 K20 K43 m y1 y2 y3 y4 y5) := by
  unfold fb_X7_forged_43
  refine F_iload (i := 5) rfl (dk_X7_forged 43 _ rfl) ?_
  refine F_bipush (v := 12) (by decide) (dk_X7_forged 45 _ rfl) ?_
  refine F_icmp_ge (tgt := 97) (by decide) (dk_X7_forged 47 _ rfl) ?_ ?_
  · exact F_loc (List.forall_mem_cons.mpr ⟨(.head _), (List.forall_mem_cons.mpr ⟨(.tail _ (.head _)), (List.forall_mem_cons.mpr ⟨(.tail _ (.tail _ (.head _))), (List.forall_mem_cons.mpr ⟨(.tail _ (.tail _ (.tail _ (.head _)))), (List.forall_mem_cons.mpr ⟨(.tail _ (.tail _ (.tail _ (.tail _ (.head _))))), (fun _ z => absurd z List.not_mem_nil)⟩)⟩)⟩)⟩)⟩) (j_X7_forged_97 K20 hK20 _ _ _ _ _ )
  · refine F_iload_n (i := 2) (a := 2) rfl rfl (dk_X7_forged 50 _ rfl) ?_
    refine F_if_ge (tgt := 97) (by decide) (dk_X7_forged 51 _ rfl) ?_ ?_
    · exact F_loc (List.forall_mem_cons.mpr ⟨(.head _), (List.forall_mem_cons.mpr ⟨(.tail _ (.head _)), (List.forall_mem_cons.mpr ⟨(.tail _ (.tail _ (.head _))), (List.forall_mem_cons.mpr ⟨(.tail _ (.tail _ (.tail _ (.head _)))), (List.forall_mem_cons.mpr ⟨(.tail _ (.tail _ (.tail _ (.tail _ (.head _))))), (fun _ z => absurd z List.not_mem_nil)⟩)⟩)⟩)⟩)⟩) (j_X7_forged_97 K20 hK20 _ _ _ _ _ )
    · refine F_aload_n (i := 0) (a := 0) rfl rfl (dk_X7_forged 54 _ rfl) ?_
      refine F_gR (b := 3) fxM_7_5_0 fl_7_26 (dk_X7_forged 55 _ rfl) ?_
      refine F_iload_n (i := 3) (a := 3) rfl rfl (dk_X7_forged 58 _ rfl) ?_
      refine F_iload (i := 5) rfl (dk_X7_forged 59 _ rfl) ?_
      refine F_iast (axM_0_3) (dk_X7_forged 61 _ rfl) (fun m6 => ?_)
      refine F_iload (i := 5) rfl (dk_X7_forged 62 _ rfl) ?_
      refine F_iload (i := 4) rfl (dk_X7_forged 64 _ rfl) ?_
      refine F_icmp_eq (tgt := 88) (by decide) (dk_X7_forged 66 _ rfl) ?_ ?_
      · refine F_bipush (v := (-5)) (by decide) (dk_X7_forged 88 _ rfl) ?_
        refine F_istore_n (lv' := [(2, .int (-5)), (0, .ref 0), (1, .int y1), (3, .int y3), (4, .int y4), (5, .int y5)]) (i := 2) (a := 2) rfl (by decide) rfl (dk_X7_forged 90 _ rfl) ?_
        refine F_iinc (i := 5) (n := 1) (v := (y5 + 1)) (lv' := [(5, .int (y5 + 1)), (2, .int (-5)), (0, .ref 0), (1, .int y1), (3, .int y3), (4, .int y4)]) rfl (by first | rfl | decide) (by decide) rfl (dk_X7_forged 91 _ rfl) ?_
        refine F_goto (tgt := 43) (by decide) (dk_X7_forged 94 _ rfl) ?_
        exact F_loc (List.forall_mem_cons.mpr ⟨(.tail _ (.tail _ (.head _))), (List.forall_mem_cons.mpr ⟨(.tail _ (.tail _ (.tail _ (.head _)))), (List.forall_mem_cons.mpr ⟨(.tail _ (.head _)), (List.forall_mem_cons.mpr ⟨(.tail _ (.tail _ (.tail _ (.tail _ (.head _))))), (List.forall_mem_cons.mpr ⟨(.tail _ (.tail _ (.tail _ (.tail _ (.tail _ (.head _)))))), (List.forall_mem_cons.mpr ⟨(.head _), (fun _ z => absurd z List.not_mem_nil)⟩)⟩)⟩)⟩)⟩)⟩) (hK43 _ _ _ _ _ _ )
      · refine F_aload_n (i := 0) (a := 0) rfl rfl (dk_X7_forged 69 _ rfl) ?_
        refine F_iload_n (i := 3) (a := 3) rfl rfl (dk_X7_forged 70 _ rfl) ?_
        refine F_callV (ι' := uI) (ci := 7) (b := 0) (As := [.int y3]) (d' := 10) (rfl) ok_X7_yearOf vi_X7_yearOf cl_7_323 (n := 1) (by decide +kernel) rfl rfl rfl (Nat.le_of_ble_eq_true rfl) (by omega) (dk_X7_forged 71 _ rfl) (c_X7_yearOf _ _ ) (fun x7 m8 => ?_)
        show JF _ _ _ _ _ _ [.int x7] _ _
        refine F_iload_n (i := 1) (a := 1) rfl rfl (dk_X7_forged 74 _ rfl) ?_
        refine F_icmp_ne (tgt := 88) (by decide) (dk_X7_forged 75 _ rfl) ?_ ?_
        · refine F_bipush (v := (-5)) (by decide) (dk_X7_forged 88 _ rfl) ?_
          refine F_istore_n (lv' := [(2, .int (-5)), (0, .ref 0), (1, .int y1), (3, .int y3), (4, .int y4), (5, .int y5)]) (i := 2) (a := 2) rfl (by decide) rfl (dk_X7_forged 90 _ rfl) ?_
          refine F_iinc (i := 5) (n := 1) (v := (y5 + 1)) (lv' := [(5, .int (y5 + 1)), (2, .int (-5)), (0, .ref 0), (1, .int y1), (3, .int y3), (4, .int y4)]) rfl (by first | rfl | decide) (by decide) rfl (dk_X7_forged 91 _ rfl) ?_
          refine F_goto (tgt := 43) (by decide) (dk_X7_forged 94 _ rfl) ?_
          exact F_loc (List.forall_mem_cons.mpr ⟨(.tail _ (.tail _ (.head _))), (List.forall_mem_cons.mpr ⟨(.tail _ (.tail _ (.tail _ (.head _)))), (List.forall_mem_cons.mpr ⟨(.tail _ (.head _)), (List.forall_mem_cons.mpr ⟨(.tail _ (.tail _ (.tail _ (.tail _ (.head _))))), (List.forall_mem_cons.mpr ⟨(.tail _ (.tail _ (.tail _ (.tail _ (.tail _ (.head _)))))), (List.forall_mem_cons.mpr ⟨(.head _), (fun _ z => absurd z List.not_mem_nil)⟩)⟩)⟩)⟩)⟩)⟩) (hK43 _ _ _ _ _ _ )
        · refine F_bipush (v := 100) (by decide) (dk_X7_forged 78 _ rfl) ?_
          refine F_iload_n (i := 3) (a := 3) rfl rfl (dk_X7_forged 80 _ rfl) ?_
          refine F_imul (dk_X7_forged 81 _ rfl) ?_
          refine F_iload (i := 5) rfl (dk_X7_forged 82 _ rfl) ?_
          refine F_iadd (dk_X7_forged 84 _ rfl) ?_
          refine F_goto (tgt := 90) (by decide) (dk_X7_forged 85 _ rfl) ?_
          refine F_nm (fun v10 => ?_)
          refine F_istore_n (lv' := [(2, .int v10), (0, .ref 0), (1, .int y1), (3, .int y3), (4, .int y4), (5, .int y5)]) (i := 2) (a := 2) rfl (by decide) rfl (dk_X7_forged 90 _ rfl) ?_
          refine F_iinc (i := 5) (n := 1) (v := (y5 + 1)) (lv' := [(5, .int (y5 + 1)), (2, .int v10), (0, .ref 0), (1, .int y1), (3, .int y3), (4, .int y4)]) rfl (by first | rfl | decide) (by decide) rfl (dk_X7_forged 91 _ rfl) ?_
          refine F_goto (tgt := 43) (by decide) (dk_X7_forged 94 _ rfl) ?_
          exact F_loc (List.forall_mem_cons.mpr ⟨(.tail _ (.tail _ (.head _))), (List.forall_mem_cons.mpr ⟨(.tail _ (.tail _ (.tail _ (.head _)))), (List.forall_mem_cons.mpr ⟨(.tail _ (.head _)), (List.forall_mem_cons.mpr ⟨(.tail _ (.tail _ (.tail _ (.tail _ (.head _))))), (List.forall_mem_cons.mpr ⟨(.tail _ (.tail _ (.tail _ (.tail _ (.tail _ (.head _)))))), (List.forall_mem_cons.mpr ⟨(.head _), (fun _ z => absurd z List.not_mem_nil)⟩)⟩)⟩)⟩)⟩)⟩) (hK43 _ _ _ _ _ _ )
theorem j_X7_forged_43 (K20 : mM → Int32 → Int32 → Int32 → fR Int32) (hK20 : ∀ (m : mM) (y1 : Int32) (y2 : Int32) (y3 : Int32) , JF false uI m_X7_forged 11 20 [(0, .ref 0), (1, .int y1), (2, .int y2), (3, .int y3)] [] m (K20 m y1 y2 y3)) : ∀ (F : Nat) (m : mM) (y1 : Int32) (y2 : Int32) (y3 : Int32) (y4 : Int32) (y5 : Int32) , JF false uI m_X7_forged 11 43 [(0, .ref 0), (1, .int y1), (2, .int y2), (3, .int y3), (4, .int y4), (5, .int y5)] [] m (f_X7_forged_43 K20 F m y1 y2 y3 y4 y5) := by
  intro F
  induction F with
  | zero => intro m y1 y2 y3 y4 y5 ; exact F_no
  | succ F ih => intro m y1 y2 y3 y4 y5 ; exact jb_X7_forged_43 K20 (f_X7_forged_43 K20 F) hK20 ih m y1 y2 y3 y4 y5 
def fb_X7_forged_20 (K20 : mM → Int32 → Int32 → Int32 → fR Int32) (m : mM) (y1 : Int32) (y2 : Int32) (y3 : Int32) : fR Int32 :=
  (if (mI m 0) ≤ y3 then some (y2, m) else (if 0 ≤ y2 then some (y2, m) else (gA (mA m 3) y3).bind fun x4 => (f_X7_forged_43 K20 1000 m y1 y2 y3 x4 0)))
def f_X7_forged_20  : Nat → mM → Int32 → Int32 → Int32 → fR Int32
  | 0, _, _, _, _ => none
  | F + 1, m, y1, y2, y3 => fb_X7_forged_20  (f_X7_forged_20  F) m y1 y2 y3
theorem jb_X7_forged_20 (K20 : mM → Int32 → Int32 → Int32 → fR Int32) (hK20 : ∀ (m : mM) (y1 : Int32) (y2 : Int32) (y3 : Int32) , JF false uI m_X7_forged 11 20 [(0, .ref 0), (1, .int y1), (2, .int y2), (3, .int y3)] [] m (K20 m y1 y2 y3)) (m : mM) (y1 : Int32) (y2 : Int32) (y3 : Int32)  : JF false uI m_X7_forged 11 20 [(0, .ref 0), (1, .int y1), (2, .int y2), (3, .int y3)] [] m (fb_X7_forged_20 K20 m y1 y2 y3) := by
  unfold fb_X7_forged_20
  refine F_iload_n (i := 3) (a := 3) rfl rfl (dk_X7_forged 20 _ rfl) ?_
  refine F_aload_n (i := 0) (a := 0) rfl rfl (dk_X7_forged 21 _ rfl) ?_
  refine F_gI (n := 0) fxM_7_0_0 rfl fl_7_7 (dk_X7_forged 22 _ rfl) ?_
  refine F_icmp_ge (tgt := 111) (by decide) (dk_X7_forged 25 _ rfl) ?_ ?_
  · refine F_iload_n (i := 2) (a := 2) rfl rfl (dk_X7_forged 111 _ rfl) ?_
    exact F_ret rfl (dk_X7_forged 112 _ rfl)
  · refine F_iload_n (i := 2) (a := 2) rfl rfl (dk_X7_forged 28 _ rfl) ?_
    refine F_if_ge (tgt := 111) (by decide) (dk_X7_forged 29 _ rfl) ?_ ?_
    · refine F_iload_n (i := 2) (a := 2) rfl rfl (dk_X7_forged 111 _ rfl) ?_
      exact F_ret rfl (dk_X7_forged 112 _ rfl)
    · refine F_aload_n (i := 0) (a := 0) rfl rfl (dk_X7_forged 32 _ rfl) ?_
      refine F_gR (b := 3) fxM_7_5_0 fl_7_26 (dk_X7_forged 33 _ rfl) ?_
      refine F_iload_n (i := 3) (a := 3) rfl rfl (dk_X7_forged 36 _ rfl) ?_
      refine F_iald (axM_0_3) (dk_X7_forged 37 _ rfl) (fun x4 => ?_)
      refine F_istore (lv' := [(4, .int x4), (0, .ref 0), (1, .int y1), (2, .int y2), (3, .int y3)]) (i := 4) (by decide) rfl (dk_X7_forged 38 _ rfl) ?_
      refine F_iconst (v := 0) (by decide) (dk_X7_forged 40 _ rfl) ?_
      refine F_istore (lv' := [(5, .int 0), (4, .int x4), (0, .ref 0), (1, .int y1), (2, .int y2), (3, .int y3)]) (i := 5) (by decide) rfl (dk_X7_forged 41 _ rfl) ?_
      exact F_loc (List.forall_mem_cons.mpr ⟨(.tail _ (.tail _ (.head _))), (List.forall_mem_cons.mpr ⟨(.tail _ (.tail _ (.tail _ (.head _)))), (List.forall_mem_cons.mpr ⟨(.tail _ (.tail _ (.tail _ (.tail _ (.head _))))), (List.forall_mem_cons.mpr ⟨(.tail _ (.tail _ (.tail _ (.tail _ (.tail _ (.head _)))))), (List.forall_mem_cons.mpr ⟨(.tail _ (.head _)), (List.forall_mem_cons.mpr ⟨(.head _), (fun _ z => absurd z List.not_mem_nil)⟩)⟩)⟩)⟩)⟩)⟩) (j_X7_forged_43 K20 hK20 1000 _ _ _ _ _ _ )
theorem j_X7_forged_20   : ∀ (F : Nat) (m : mM) (y1 : Int32) (y2 : Int32) (y3 : Int32) , JF false uI m_X7_forged 11 20 [(0, .ref 0), (1, .int y1), (2, .int y2), (3, .int y3)] [] m (f_X7_forged_20  F m y1 y2 y3) := by
  intro F
  induction F with
  | zero => intro m y1 y2 y3 ; exact F_no
  | succ F ih => intro m y1 y2 y3 ; exact jb_X7_forged_20  (f_X7_forged_20  F)  ih m y1 y2 y3 
def f_X7_forged (m : mM) (p1 : Int32) : fR Int32 :=
  bnd (f_X7_in m p1 0 10000) fun (x1 : Int32) (m2 : mM) => (if x1 = 0 then some ((-2), m2) else (f_X7_forged_20  1000 m2 p1 (-5) 0))
theorem c_X7_forged (m : mM) (p1 : Int32)  : cF false uI m_X7_forged 11 [.ref 0, .int p1] m (f_X7_forged m p1) := by
  refine cF_of ok_X7_forged (fun _ _ => Nat.le_of_ble_eq_true rfl) ?_
  unfold f_X7_forged
  show JF _ _ _ _ _ [(0, .ref 0), (1, .int p1)] _ _ _
  refine F_aload_n (i := 0) (a := 0) rfl rfl (dk_X7_forged 0 _ rfl) ?_
  refine F_iload_n (i := 1) (a := 1) rfl rfl (dk_X7_forged 1 _ rfl) ?_
  refine F_iconst (v := 0) (by decide) (dk_X7_forged 2 _ rfl) ?_
  refine F_sipush (v := 10000) (by decide) (dk_X7_forged 3 _ rfl) ?_
  refine F_callV (ι' := uI) (ci := 7) (b := 0) (As := [.int p1, .int 0, .int 10000]) (d' := 2) (rfl) ok_X7_in vi_X7_in cl_7_194 (n := 3) (by decide +kernel) rfl rfl rfl (Nat.le_of_ble_eq_true rfl) (by omega) (dk_X7_forged 6 _ rfl) (c_X7_in _ _ _ _ ) (fun x1 m2 => ?_)
  show JF _ _ _ _ _ _ [.int x1] _ _
  refine F_if_ne (tgt := 15) (by decide) (dk_X7_forged 9 _ rfl) ?_ ?_
  · refine F_bipush (v := (-5)) (by decide) (dk_X7_forged 15 _ rfl) ?_
    refine F_istore_n (lv' := [(2, .int (-5)), (0, .ref 0), (1, .int p1)]) (i := 2) (a := 2) rfl (by decide) rfl (dk_X7_forged 17 _ rfl) ?_
    refine F_iconst (v := 0) (by decide) (dk_X7_forged 18 _ rfl) ?_
    refine F_istore_n (lv' := [(3, .int 0), (2, .int (-5)), (0, .ref 0), (1, .int p1)]) (i := 3) (a := 3) rfl (by decide) rfl (dk_X7_forged 19 _ rfl) ?_
    exact F_loc (List.forall_mem_cons.mpr ⟨(.tail _ (.tail _ (.head _))), (List.forall_mem_cons.mpr ⟨(.tail _ (.tail _ (.tail _ (.head _)))), (List.forall_mem_cons.mpr ⟨(.tail _ (.head _)), (List.forall_mem_cons.mpr ⟨(.head _), (fun _ z => absurd z List.not_mem_nil)⟩)⟩)⟩)⟩) (j_X7_forged_20   1000 _ _ _ _ )
  · refine F_bipush (v := (-2)) (by decide) (dk_X7_forged 12 _ rfl) ?_
    exact F_ret rfl (dk_X7_forged 14 _ rfl)
def f_X7_wouldChange (m : mM) (p1 : Int32) : fR Int32 :=
  bnd (f_X7_yearOf m p1) fun (x1 : Int32) (m2 : mM) => bnd (f_X7_layBest m2 p1 0) fun (x4 : Unit) (m5 : mM) => (if (mI m5 35) ≤ x1 then some (0, m5) else some (1, m5))
theorem c_X7_wouldChange (m : mM) (p1 : Int32)  : cF false uI m_X7_wouldChange 12 [.ref 0, .int p1] m (f_X7_wouldChange m p1) := by
  refine cF_of ok_X7_wouldChange (fun _ _ => Nat.le_of_ble_eq_true rfl) ?_
  unfold f_X7_wouldChange
  show JF _ _ _ _ _ [(0, .ref 0), (1, .int p1)] _ _ _
  refine F_aload_n (i := 0) (a := 0) rfl rfl (dk_X7_wouldChange 0 _ rfl) ?_
  refine F_iload_n (i := 1) (a := 1) rfl rfl (dk_X7_wouldChange 1 _ rfl) ?_
  refine F_callV (ι' := uI) (ci := 7) (b := 0) (As := [.int p1]) (d' := 10) (rfl) ok_X7_yearOf vi_X7_yearOf cl_7_323 (n := 1) (by decide +kernel) rfl rfl rfl (Nat.le_of_ble_eq_true rfl) (by omega) (dk_X7_wouldChange 2 _ rfl) (c_X7_yearOf _ _ ) (fun x1 m2 => ?_)
  show JF _ _ _ _ _ _ [.int x1] _ _
  refine F_istore_n (lv' := [(2, .int x1), (0, .ref 0), (1, .int p1)]) (i := 2) (a := 2) rfl (by decide) rfl (dk_X7_wouldChange 5 _ rfl) ?_
  refine F_aload_n (i := 0) (a := 0) rfl rfl (dk_X7_wouldChange 6 _ rfl) ?_
  refine F_iload_n (i := 1) (a := 1) rfl rfl (dk_X7_wouldChange 7 _ rfl) ?_
  refine F_iconst (v := 0) (by decide) (dk_X7_wouldChange 8 _ rfl) ?_
  refine F_callV (ι' := uU) (ci := 7) (b := 0) (As := [.int p1, .int 0]) (d' := 11) (rfl) ok_X7_layBest vi_X7_layBest cl_7_326 (n := 2) (by decide +kernel) rfl rfl rfl (Nat.le_of_ble_eq_true rfl) (by omega) (dk_X7_wouldChange 9 _ rfl) (c_X7_layBest _ _ _ ) (fun x4 m5 => ?_)
  show JF _ _ _ _ _ _ [] _ _
  refine F_aload_n (i := 0) (a := 0) rfl rfl (dk_X7_wouldChange 12 _ rfl) ?_
  refine F_gI (n := 35) fxM_7_35_0 rfl fl_7_117 (dk_X7_wouldChange 13 _ rfl) ?_
  refine F_iload_n (i := 2) (a := 2) rfl rfl (dk_X7_wouldChange 16 _ rfl) ?_
  refine F_icmp_le (tgt := 24) (by decide) (dk_X7_wouldChange 17 _ rfl) ?_ ?_
  · refine F_iconst (v := 0) (by decide) (dk_X7_wouldChange 24 _ rfl) ?_
    exact F_retB rfl (Or.inl rfl) (dk_X7_wouldChange 25 _ rfl)
  · refine F_iconst (v := 1) (by decide) (dk_X7_wouldChange 20 _ rfl) ?_
    refine F_goto (tgt := 25) (by decide) (dk_X7_wouldChange 21 _ rfl) ?_
    exact F_retB rfl (Or.inr rfl) (dk_X7_wouldChange 25 _ rfl)
def f_X7_change (m : mM) (p1 : Int32) : fR Int32 :=
  bnd (f_X7_isPerson m p1) fun (x1 : Int32) (m2 : mM) => (if x1 = 0 then some ((-1), m2) else bnd (f_X7_wouldChange m2 p1) fun (x4 : Int32) (m5 : mM) => (if x4 = 0 then some (0, m5) else some (1, m5)))
theorem c_X7_change (m : mM) (p1 : Int32)  : cF false uI m_X7_change 13 [.ref 0, .int p1] m (f_X7_change m p1) := by
  refine cF_of ok_X7_change (fun _ _ => Nat.le_of_ble_eq_true rfl) ?_
  unfold f_X7_change
  show JF _ _ _ _ _ [(0, .ref 0), (1, .int p1)] _ _ _
  refine F_aload_n (i := 0) (a := 0) rfl rfl (dk_X7_change 0 _ rfl) ?_
  refine F_iload_n (i := 1) (a := 1) rfl rfl (dk_X7_change 1 _ rfl) ?_
  refine F_callV (ι' := uI) (ci := 7) (b := 0) (As := [.int p1]) (d' := 3) (rfl) ok_X7_isPerson vi_X7_isPerson cl_7_206 (n := 1) (by decide +kernel) rfl rfl rfl (Nat.le_of_ble_eq_true rfl) (by omega) (dk_X7_change 2 _ rfl) (c_X7_isPerson _ _ ) (fun x1 m2 => ?_)
  show JF _ _ _ _ _ _ [.int x1] _ _
  refine F_if_ne (tgt := 12) (by decide) (dk_X7_change 5 _ rfl) ?_ ?_
  · refine F_aload_n (i := 0) (a := 0) rfl rfl (dk_X7_change 12 _ rfl) ?_
    refine F_iload_n (i := 1) (a := 1) rfl rfl (dk_X7_change 13 _ rfl) ?_
    refine F_callV (ι' := uI) (ci := 7) (b := 0) (As := [.int p1]) (d' := 12) (rfl) ok_X7_wouldChange vi_X7_wouldChange cl_7_330 (n := 1) (by decide +kernel) rfl rfl rfl (Nat.le_of_ble_eq_true rfl) (by omega) (dk_X7_change 14 _ rfl) (c_X7_wouldChange _ _ ) (fun x4 m5 => ?_)
    show JF _ _ _ _ _ _ [.int x4] _ _
    refine F_if_eq (tgt := 24) (by decide) (dk_X7_change 17 _ rfl) ?_ ?_
    · refine F_iconst (v := 0) (by decide) (dk_X7_change 24 _ rfl) ?_
      exact F_ret rfl (dk_X7_change 25 _ rfl)
    · refine F_iconst (v := 1) (by decide) (dk_X7_change 20 _ rfl) ?_
      refine F_goto (tgt := 25) (by decide) (dk_X7_change 21 _ rfl) ?_
      exact F_ret rfl (dk_X7_change 25 _ rfl)
  · refine F_iconst (v := (-1)) (by decide) (dk_X7_change 8 _ rfl) ?_
    refine F_goto (tgt := 25) (by decide) (dk_X7_change 9 _ rfl) ?_
    exact F_ret rfl (dk_X7_change 25 _ rfl)
def fb_X7_layRest_126 (K126 : mM → Int32 → Int32 → fR Int32) (m : mM) (y1 : Int32) (y4 : Int32) : fR Int32 :=
  (if 7 ≤ y4 then (if y1 ≤ 8 then some (y1, m) else some ((-5), m)) else (gA (mA m 4) y4).bind fun x1 => (sA 0 m 22 y4 x1).bind fun m2 => (gA (mA m2 21) y4).bind fun x3 => (sA 0 m2 4 y4 x3).bind fun m4 => (K126 m4 y1 (y4 + 1)))
def f_X7_layRest_126  : Nat → mM → Int32 → Int32 → fR Int32
  | 0, _, _, _ => none
  | F + 1, m, y1, y4 => fb_X7_layRest_126  (f_X7_layRest_126  F) m y1 y4
theorem jb_X7_layRest_126 (K126 : mM → Int32 → Int32 → fR Int32) (hK126 : ∀ (m : mM) (y1 : Int32) (y4 : Int32) , JF false uI m_X7_layRest 13 126 [(0, .ref 0), (1, .int y1), (4, .int y4)] [] m (K126 m y1 y4)) (m : mM) (y1 : Int32) (y4 : Int32)  : JF false uI m_X7_layRest 13 126 [(0, .ref 0), (1, .int y1), (4, .int y4)] [] m (fb_X7_layRest_126 K126 m y1 y4) := by
  unfold fb_X7_layRest_126
  refine F_iload (i := 4) rfl (dk_X7_layRest 126 _ rfl) ?_
  refine F_bipush (v := 7) (by decide) (dk_X7_layRest 128 _ rfl) ?_
  refine F_icmp_ge (tgt := 167) (by decide) (dk_X7_layRest 130 _ rfl) ?_ ?_
  · refine F_iload_n (i := 1) (a := 1) rfl rfl (dk_X7_layRest 167 _ rfl) ?_
    refine F_bipush (v := 8) (by decide) (dk_X7_layRest 168 _ rfl) ?_
    refine F_icmp_le (tgt := 178) (by decide) (dk_X7_layRest 170 _ rfl) ?_ ?_
    · refine F_iload_n (i := 1) (a := 1) rfl rfl (dk_X7_layRest 178 _ rfl) ?_
      exact F_ret rfl (dk_X7_layRest 179 _ rfl)
    · refine F_bipush (v := (-5)) (by decide) (dk_X7_layRest 173 _ rfl) ?_
      refine F_goto (tgt := 179) (by decide) (dk_X7_layRest 175 _ rfl) ?_
      exact F_ret rfl (dk_X7_layRest 179 _ rfl)
  · refine F_aload_n (i := 0) (a := 0) rfl rfl (dk_X7_layRest 133 _ rfl) ?_
    refine F_gR (b := 22) fxM_7_37_0 fl_7_123 (dk_X7_layRest 134 _ rfl) ?_
    refine F_iload (i := 4) rfl (dk_X7_layRest 137 _ rfl) ?_
    refine F_aload_n (i := 0) (a := 0) rfl rfl (dk_X7_layRest 139 _ rfl) ?_
    refine F_gR (b := 4) fxM_7_6_0 fl_7_29 (dk_X7_layRest 140 _ rfl) ?_
    refine F_iload (i := 4) rfl (dk_X7_layRest 143 _ rfl) ?_
    refine F_iald (axM_0_4) (dk_X7_layRest 145 _ rfl) (fun x1 => ?_)
    refine F_iast (axM_0_22) (dk_X7_layRest 146 _ rfl) (fun m2 => ?_)
    refine F_aload_n (i := 0) (a := 0) rfl rfl (dk_X7_layRest 147 _ rfl) ?_
    refine F_gR (b := 4) fxM_7_6_0 fl_7_29 (dk_X7_layRest 148 _ rfl) ?_
    refine F_iload (i := 4) rfl (dk_X7_layRest 151 _ rfl) ?_
    refine F_aload_n (i := 0) (a := 0) rfl rfl (dk_X7_layRest 153 _ rfl) ?_
    refine F_gR (b := 21) fxM_7_36_0 fl_7_120 (dk_X7_layRest 154 _ rfl) ?_
    refine F_iload (i := 4) rfl (dk_X7_layRest 157 _ rfl) ?_
    refine F_iald (axM_0_21) (dk_X7_layRest 159 _ rfl) (fun x3 => ?_)
    refine F_iast (axM_0_4) (dk_X7_layRest 160 _ rfl) (fun m4 => ?_)
    refine F_iinc (i := 4) (n := 1) (v := (y4 + 1)) (lv' := [(4, .int (y4 + 1)), (0, .ref 0), (1, .int y1)]) rfl (by first | rfl | decide) (by decide) rfl (dk_X7_layRest 161 _ rfl) ?_
    refine F_goto (tgt := 126) (by decide) (dk_X7_layRest 164 _ rfl) ?_
    exact F_loc (List.forall_mem_cons.mpr ⟨(.tail _ (.head _)), (List.forall_mem_cons.mpr ⟨(.tail _ (.tail _ (.head _))), (List.forall_mem_cons.mpr ⟨(.head _), (fun _ z => absurd z List.not_mem_nil)⟩)⟩)⟩) (hK126 _ _ _ )
theorem j_X7_layRest_126   : ∀ (F : Nat) (m : mM) (y1 : Int32) (y4 : Int32) , JF false uI m_X7_layRest 13 126 [(0, .ref 0), (1, .int y1), (4, .int y4)] [] m (f_X7_layRest_126  F m y1 y4) := by
  intro F
  induction F with
  | zero => intro m y1 y4 ; exact F_no
  | succ F ih => intro m y1 y4 ; exact jb_X7_layRest_126  (f_X7_layRest_126  F)  ih m y1 y4 
def f_X7_layRest_110 (K32 : mM → Int32 → Int32 → Int32 → fR Int32) (m : mM) (y1 : Int32) (y3 : Int32) (y100 : Int32) : fR Int32 :=
  (rmI (y3 + 1) (mI m 0)).bind fun x7 => (K32 m y1 y100 x7)
theorem j_X7_layRest_110 (K32 : mM → Int32 → Int32 → Int32 → fR Int32) (hK32 : ∀ (m : mM) (y1 : Int32) (y2 : Int32) (y3 : Int32) , JF false uI m_X7_layRest 13 32 [(0, .ref 0), (1, .int y1), (2, .int y2), (3, .int y3)] [] m (K32 m y1 y2 y3)) (m : mM) (y1 : Int32) (y3 : Int32) (y100 : Int32)  : JF false uI m_X7_layRest 13 110 [(0, .ref 0), (1, .int y1), (3, .int y3)] [.int y100] m (f_X7_layRest_110 K32 m y1 y3 y100) := by
  unfold f_X7_layRest_110
  refine F_istore_n (lv' := [(2, .int y100), (0, .ref 0), (1, .int y1), (3, .int y3)]) (i := 2) (a := 2) rfl (by decide) rfl (dk_X7_layRest 110 _ rfl) ?_
  refine F_iload_n (i := 3) (a := 3) rfl rfl (dk_X7_layRest 111 _ rfl) ?_
  refine F_iconst (v := 1) (by decide) (dk_X7_layRest 112 _ rfl) ?_
  refine F_iadd (dk_X7_layRest 113 _ rfl) ?_
  refine F_aload_n (i := 0) (a := 0) rfl rfl (dk_X7_layRest 114 _ rfl) ?_
  refine F_gI (n := 0) fxM_7_0_0 rfl fl_7_7 (dk_X7_layRest 115 _ rfl) ?_
  refine F_irem (dk_X7_layRest 118 _ rfl) (fun x7 => ?_)
  refine F_istore_n (lv' := [(3, .int x7), (2, .int y100), (0, .ref 0), (1, .int y1)]) (i := 3) (a := 3) rfl (by decide) rfl (dk_X7_layRest 119 _ rfl) ?_
  refine F_goto (tgt := 32) (by decide) (dk_X7_layRest 120 _ rfl) ?_
  exact F_loc (List.forall_mem_cons.mpr ⟨(.tail _ (.tail _ (.head _))), (List.forall_mem_cons.mpr ⟨(.tail _ (.tail _ (.tail _ (.head _)))), (List.forall_mem_cons.mpr ⟨(.tail _ (.head _)), (List.forall_mem_cons.mpr ⟨(.head _), (fun _ z => absurd z List.not_mem_nil)⟩)⟩)⟩)⟩) (hK32 _ _ _ _ )
def f_X7_layRest_96 (K32 : mM → Int32 → Int32 → Int32 → fR Int32) (m : mM) (y2 : Int32) (y3 : Int32) (y4 : Int32) (y100 : Int32) (y101 : Int32) : fR Int32 :=
  nmI (y101 + y100) fun v6 => (if y4 = 0 then (f_X7_layRest_110 K32 m v6 y3 (y2 + 1)) else (f_X7_layRest_110 K32 m v6 y3 0))
theorem j_X7_layRest_96 (K32 : mM → Int32 → Int32 → Int32 → fR Int32) (hK32 : ∀ (m : mM) (y1 : Int32) (y2 : Int32) (y3 : Int32) , JF false uI m_X7_layRest 13 32 [(0, .ref 0), (1, .int y1), (2, .int y2), (3, .int y3)] [] m (K32 m y1 y2 y3)) (m : mM) (y2 : Int32) (y3 : Int32) (y4 : Int32) (y100 : Int32) (y101 : Int32)  : JF false uI m_X7_layRest 13 96 [(0, .ref 0), (2, .int y2), (3, .int y3), (4, .int y4)] [.int y100, .int y101] m (f_X7_layRest_96 K32 m y2 y3 y4 y100 y101) := by
  unfold f_X7_layRest_96
  refine F_iadd (dk_X7_layRest 96 _ rfl) ?_
  refine F_nm (fun v6 => ?_)
  refine F_istore_n (lv' := [(1, .int v6), (0, .ref 0), (2, .int y2), (3, .int y3), (4, .int y4)]) (i := 1) (a := 1) rfl (by decide) rfl (dk_X7_layRest 97 _ rfl) ?_
  refine F_iload (i := 4) rfl (dk_X7_layRest 98 _ rfl) ?_
  refine F_if_eq (tgt := 107) (by decide) (dk_X7_layRest 100 _ rfl) ?_ ?_
  · refine F_iload_n (i := 2) (a := 2) rfl rfl (dk_X7_layRest 107 _ rfl) ?_
    refine F_iconst (v := 1) (by decide) (dk_X7_layRest 108 _ rfl) ?_
    refine F_iadd (dk_X7_layRest 109 _ rfl) ?_
    exact F_loc (List.forall_mem_cons.mpr ⟨(.tail _ (.head _)), (List.forall_mem_cons.mpr ⟨(.head _), (List.forall_mem_cons.mpr ⟨(.tail _ (.tail _ (.tail _ (.head _)))), (fun _ z => absurd z List.not_mem_nil)⟩)⟩)⟩) (j_X7_layRest_110 K32 hK32 _ _ _ _ )
  · refine F_iconst (v := 0) (by decide) (dk_X7_layRest 103 _ rfl) ?_
    refine F_goto (tgt := 110) (by decide) (dk_X7_layRest 104 _ rfl) ?_
    exact F_loc (List.forall_mem_cons.mpr ⟨(.tail _ (.head _)), (List.forall_mem_cons.mpr ⟨(.head _), (List.forall_mem_cons.mpr ⟨(.tail _ (.tail _ (.tail _ (.head _)))), (fun _ z => absurd z List.not_mem_nil)⟩)⟩)⟩) (j_X7_layRest_110 K32 hK32 _ _ _ _ )
def f_X7_layRest_85 (K32 : mM → Int32 → Int32 → Int32 → fR Int32) (m : mM) (y1 : Int32) (y2 : Int32) (y3 : Int32) (y4 : Int32) : fR Int32 :=
  (if y4 = 0 then (f_X7_layRest_96 K32 m y2 y3 y4 0 y1) else (f_X7_layRest_96 K32 m y2 y3 y4 1 y1))
theorem j_X7_layRest_85 (K32 : mM → Int32 → Int32 → Int32 → fR Int32) (hK32 : ∀ (m : mM) (y1 : Int32) (y2 : Int32) (y3 : Int32) , JF false uI m_X7_layRest 13 32 [(0, .ref 0), (1, .int y1), (2, .int y2), (3, .int y3)] [] m (K32 m y1 y2 y3)) (m : mM) (y1 : Int32) (y2 : Int32) (y3 : Int32) (y4 : Int32)  : JF false uI m_X7_layRest 13 85 [(0, .ref 0), (1, .int y1), (2, .int y2), (3, .int y3), (4, .int y4)] [] m (f_X7_layRest_85 K32 m y1 y2 y3 y4) := by
  unfold f_X7_layRest_85
  refine F_iload_n (i := 1) (a := 1) rfl rfl (dk_X7_layRest 85 _ rfl) ?_
  refine F_iload (i := 4) rfl (dk_X7_layRest 86 _ rfl) ?_
  refine F_if_eq (tgt := 95) (by decide) (dk_X7_layRest 88 _ rfl) ?_ ?_
  · refine F_iconst (v := 0) (by decide) (dk_X7_layRest 95 _ rfl) ?_
    exact F_loc (List.forall_mem_cons.mpr ⟨(.head _), (List.forall_mem_cons.mpr ⟨(.tail _ (.tail _ (.head _))), (List.forall_mem_cons.mpr ⟨(.tail _ (.tail _ (.tail _ (.head _)))), (List.forall_mem_cons.mpr ⟨(.tail _ (.tail _ (.tail _ (.tail _ (.head _))))), (fun _ z => absurd z List.not_mem_nil)⟩)⟩)⟩)⟩) (j_X7_layRest_96 K32 hK32 _ _ _ _ _ _ )
  · refine F_iconst (v := 1) (by decide) (dk_X7_layRest 91 _ rfl) ?_
    refine F_goto (tgt := 96) (by decide) (dk_X7_layRest 92 _ rfl) ?_
    exact F_loc (List.forall_mem_cons.mpr ⟨(.head _), (List.forall_mem_cons.mpr ⟨(.tail _ (.tail _ (.head _))), (List.forall_mem_cons.mpr ⟨(.tail _ (.tail _ (.tail _ (.head _)))), (List.forall_mem_cons.mpr ⟨(.tail _ (.tail _ (.tail _ (.tail _ (.head _))))), (fun _ z => absurd z List.not_mem_nil)⟩)⟩)⟩)⟩) (j_X7_layRest_96 K32 hK32 _ _ _ _ _ _ )
def f_X7_layRest_68 (K32 : mM → Int32 → Int32 → Int32 → fR Int32) (m : mM) (y1 : Int32) (y2 : Int32) (y3 : Int32) (y100 : Int32) : fR Int32 :=
  (if y100 = 0 then (f_X7_layRest_85 K32 m y1 y2 y3 y100) else (sA 0 m 4 y3 (mI m 34)).bind fun m8 => (f_X7_layRest_85 K32 m8 y1 y2 y3 y100))
theorem j_X7_layRest_68 (K32 : mM → Int32 → Int32 → Int32 → fR Int32) (hK32 : ∀ (m : mM) (y1 : Int32) (y2 : Int32) (y3 : Int32) , JF false uI m_X7_layRest 13 32 [(0, .ref 0), (1, .int y1), (2, .int y2), (3, .int y3)] [] m (K32 m y1 y2 y3)) (m : mM) (y1 : Int32) (y2 : Int32) (y3 : Int32) (y100 : Int32)  : JF false uI m_X7_layRest 13 68 [(0, .ref 0), (1, .int y1), (2, .int y2), (3, .int y3)] [.int y100] m (f_X7_layRest_68 K32 m y1 y2 y3 y100) := by
  unfold f_X7_layRest_68
  refine F_istore (lv' := [(4, .int y100), (0, .ref 0), (1, .int y1), (2, .int y2), (3, .int y3)]) (i := 4) (by decide) rfl (dk_X7_layRest 68 _ rfl) ?_
  refine F_iload (i := 4) rfl (dk_X7_layRest 70 _ rfl) ?_
  refine F_if_eq (tgt := 85) (by decide) (dk_X7_layRest 72 _ rfl) ?_ ?_
  · exact F_loc (List.forall_mem_cons.mpr ⟨(.tail _ (.head _)), (List.forall_mem_cons.mpr ⟨(.tail _ (.tail _ (.head _))), (List.forall_mem_cons.mpr ⟨(.tail _ (.tail _ (.tail _ (.head _)))), (List.forall_mem_cons.mpr ⟨(.tail _ (.tail _ (.tail _ (.tail _ (.head _))))), (List.forall_mem_cons.mpr ⟨(.head _), (fun _ z => absurd z List.not_mem_nil)⟩)⟩)⟩)⟩)⟩) (j_X7_layRest_85 K32 hK32 _ _ _ _ _ )
  · refine F_aload_n (i := 0) (a := 0) rfl rfl (dk_X7_layRest 75 _ rfl) ?_
    refine F_gR (b := 4) fxM_7_6_0 fl_7_29 (dk_X7_layRest 76 _ rfl) ?_
    refine F_iload_n (i := 3) (a := 3) rfl rfl (dk_X7_layRest 79 _ rfl) ?_
    refine F_aload_n (i := 0) (a := 0) rfl rfl (dk_X7_layRest 80 _ rfl) ?_
    refine F_gI (n := 34) fxM_7_34_0 rfl fl_7_114 (dk_X7_layRest 81 _ rfl) ?_
    refine F_iast (axM_0_4) (dk_X7_layRest 84 _ rfl) (fun m8 => ?_)
    exact F_loc (List.forall_mem_cons.mpr ⟨(.tail _ (.head _)), (List.forall_mem_cons.mpr ⟨(.tail _ (.tail _ (.head _))), (List.forall_mem_cons.mpr ⟨(.tail _ (.tail _ (.tail _ (.head _)))), (List.forall_mem_cons.mpr ⟨(.tail _ (.tail _ (.tail _ (.tail _ (.head _))))), (List.forall_mem_cons.mpr ⟨(.head _), (fun _ z => absurd z List.not_mem_nil)⟩)⟩)⟩)⟩)⟩) (j_X7_layRest_85 K32 hK32 _ _ _ _ _ )
def f_X7_layRest_67 (K32 : mM → Int32 → Int32 → Int32 → fR Int32) (m : mM) (y1 : Int32) (y2 : Int32) (y3 : Int32) : fR Int32 :=
  (f_X7_layRest_68 K32 m y1 y2 y3 0)
theorem j_X7_layRest_67 (K32 : mM → Int32 → Int32 → Int32 → fR Int32) (hK32 : ∀ (m : mM) (y1 : Int32) (y2 : Int32) (y3 : Int32) , JF false uI m_X7_layRest 13 32 [(0, .ref 0), (1, .int y1), (2, .int y2), (3, .int y3)] [] m (K32 m y1 y2 y3)) (m : mM) (y1 : Int32) (y2 : Int32) (y3 : Int32)  : JF false uI m_X7_layRest 13 67 [(0, .ref 0), (1, .int y1), (2, .int y2), (3, .int y3)] [] m (f_X7_layRest_67 K32 m y1 y2 y3) := by
  unfold f_X7_layRest_67
  refine F_iconst (v := 0) (by decide) (dk_X7_layRest 67 _ rfl) ?_
  exact F_loc (fun _ z => z) (j_X7_layRest_68 K32 hK32 _ _ _ _ _ )
def fb_X7_layRest_32 (K32 : mM → Int32 → Int32 → Int32 → fR Int32) (m : mM) (y1 : Int32) (y2 : Int32) (y3 : Int32) : fR Int32 :=
  (if (mI m 0) ≤ y2 then (f_X7_layRest_126  1000 m y1 0) else (if 9 ≤ y1 then (f_X7_layRest_126  1000 m y1 0) else (gA (mA m 7) y3).bind fun x5 => (if x5 = 0 then (f_X7_layRest_67 K32 m y1 y2 y3) else bnd (f_X7_wouldChange m y3) fun (x9 : Int32) (m10 : mM) => (if x9 = 0 then (f_X7_layRest_67 K32 m10 y1 y2 y3) else (f_X7_layRest_68 K32 m10 y1 y2 y3 1)))))
def f_X7_layRest_32  : Nat → mM → Int32 → Int32 → Int32 → fR Int32
  | 0, _, _, _, _ => none
  | F + 1, m, y1, y2, y3 => fb_X7_layRest_32  (f_X7_layRest_32  F) m y1 y2 y3
theorem jb_X7_layRest_32 (K32 : mM → Int32 → Int32 → Int32 → fR Int32) (hK32 : ∀ (m : mM) (y1 : Int32) (y2 : Int32) (y3 : Int32) , JF false uI m_X7_layRest 13 32 [(0, .ref 0), (1, .int y1), (2, .int y2), (3, .int y3)] [] m (K32 m y1 y2 y3)) (m : mM) (y1 : Int32) (y2 : Int32) (y3 : Int32)  : JF false uI m_X7_layRest 13 32 [(0, .ref 0), (1, .int y1), (2, .int y2), (3, .int y3)] [] m (fb_X7_layRest_32 K32 m y1 y2 y3) := by
  unfold fb_X7_layRest_32
  refine F_iload_n (i := 2) (a := 2) rfl rfl (dk_X7_layRest 32 _ rfl) ?_
  refine F_aload_n (i := 0) (a := 0) rfl rfl (dk_X7_layRest 33 _ rfl) ?_
  refine F_gI (n := 0) fxM_7_0_0 rfl fl_7_7 (dk_X7_layRest 34 _ rfl) ?_
  refine F_icmp_ge (tgt := 123) (by decide) (dk_X7_layRest 37 _ rfl) ?_ ?_
  · refine F_iconst (v := 0) (by decide) (dk_X7_layRest 123 _ rfl) ?_
    refine F_istore (lv' := [(4, .int 0), (0, .ref 0), (1, .int y1), (2, .int y2), (3, .int y3)]) (i := 4) (by decide) rfl (dk_X7_layRest 124 _ rfl) ?_
    exact F_loc (List.forall_mem_cons.mpr ⟨(.tail _ (.head _)), (List.forall_mem_cons.mpr ⟨(.tail _ (.tail _ (.head _))), (List.forall_mem_cons.mpr ⟨(.head _), (fun _ z => absurd z List.not_mem_nil)⟩)⟩)⟩) (j_X7_layRest_126   1000 _ _ _ )
  · refine F_iload_n (i := 1) (a := 1) rfl rfl (dk_X7_layRest 40 _ rfl) ?_
    refine F_bipush (v := 9) (by decide) (dk_X7_layRest 41 _ rfl) ?_
    refine F_icmp_ge (tgt := 123) (by decide) (dk_X7_layRest 43 _ rfl) ?_ ?_
    · refine F_iconst (v := 0) (by decide) (dk_X7_layRest 123 _ rfl) ?_
      refine F_istore (lv' := [(4, .int 0), (0, .ref 0), (1, .int y1), (2, .int y2), (3, .int y3)]) (i := 4) (by decide) rfl (dk_X7_layRest 124 _ rfl) ?_
      exact F_loc (List.forall_mem_cons.mpr ⟨(.tail _ (.head _)), (List.forall_mem_cons.mpr ⟨(.tail _ (.tail _ (.head _))), (List.forall_mem_cons.mpr ⟨(.head _), (fun _ z => absurd z List.not_mem_nil)⟩)⟩)⟩) (j_X7_layRest_126   1000 _ _ _ )
    · refine F_aload_n (i := 0) (a := 0) rfl rfl (dk_X7_layRest 46 _ rfl) ?_
      refine F_gR (b := 7) fxM_7_9_0 fl_7_38 (dk_X7_layRest 47 _ rfl) ?_
      refine F_iload_n (i := 3) (a := 3) rfl rfl (dk_X7_layRest 50 _ rfl) ?_
      refine F_zald (axM_3_7) (dk_X7_layRest 51 _ rfl) (fun x5 => ?_)
      refine F_if_eq (tgt := 67) (by decide) (dk_X7_layRest 52 _ rfl) ?_ ?_
      · exact F_loc (fun _ z => z) (j_X7_layRest_67 K32 hK32 _ _ _ _ )
      · refine F_aload_n (i := 0) (a := 0) rfl rfl (dk_X7_layRest 55 _ rfl) ?_
        refine F_iload_n (i := 3) (a := 3) rfl rfl (dk_X7_layRest 56 _ rfl) ?_
        refine F_callV (ι' := uI) (ci := 7) (b := 0) (As := [.int y3]) (d' := 12) (rfl) ok_X7_wouldChange vi_X7_wouldChange cl_7_330 (n := 1) (by decide +kernel) rfl rfl rfl (Nat.le_of_ble_eq_true rfl) (by omega) (dk_X7_layRest 57 _ rfl) (c_X7_wouldChange _ _ ) (fun x9 m10 => ?_)
        show JF _ _ _ _ _ _ [.int x9] _ _
        refine F_if_eq (tgt := 67) (by decide) (dk_X7_layRest 60 _ rfl) ?_ ?_
        · exact F_loc (fun _ z => z) (j_X7_layRest_67 K32 hK32 _ _ _ _ )
        · refine F_iconst (v := 1) (by decide) (dk_X7_layRest 63 _ rfl) ?_
          refine F_goto (tgt := 68) (by decide) (dk_X7_layRest 64 _ rfl) ?_
          exact F_loc (fun _ z => z) (j_X7_layRest_68 K32 hK32 _ _ _ _ _ )
theorem j_X7_layRest_32   : ∀ (F : Nat) (m : mM) (y1 : Int32) (y2 : Int32) (y3 : Int32) , JF false uI m_X7_layRest 13 32 [(0, .ref 0), (1, .int y1), (2, .int y2), (3, .int y3)] [] m (f_X7_layRest_32  F m y1 y2 y3) := by
  intro F
  induction F with
  | zero => intro m y1 y2 y3 ; exact F_no
  | succ F ih => intro m y1 y2 y3 ; exact jb_X7_layRest_32  (f_X7_layRest_32  F)  ih m y1 y2 y3 
def fb_X7_layRest_2 (K2 : mM → Int32 → fR Int32) (m : mM) (y1 : Int32) : fR Int32 :=
  (if 7 ≤ y1 then (f_X7_layRest_32  1000 m 0 0 0) else (gA (mA m 4) y1).bind fun x12 => (sA 0 m 21 y1 x12).bind fun m13 => (K2 m13 (y1 + 1)))
def f_X7_layRest_2  : Nat → mM → Int32 → fR Int32
  | 0, _, _ => none
  | F + 1, m, y1 => fb_X7_layRest_2  (f_X7_layRest_2  F) m y1
theorem jb_X7_layRest_2 (K2 : mM → Int32 → fR Int32) (hK2 : ∀ (m : mM) (y1 : Int32) , JF false uI m_X7_layRest 13 2 [(0, .ref 0), (1, .int y1)] [] m (K2 m y1)) (m : mM) (y1 : Int32)  : JF false uI m_X7_layRest 13 2 [(0, .ref 0), (1, .int y1)] [] m (fb_X7_layRest_2 K2 m y1) := by
  unfold fb_X7_layRest_2
  refine F_iload_n (i := 1) (a := 1) rfl rfl (dk_X7_layRest 2 _ rfl) ?_
  refine F_bipush (v := 7) (by decide) (dk_X7_layRest 3 _ rfl) ?_
  refine F_icmp_ge (tgt := 26) (by decide) (dk_X7_layRest 5 _ rfl) ?_ ?_
  · refine F_iconst (v := 0) (by decide) (dk_X7_layRest 26 _ rfl) ?_
    refine F_istore_n (lv' := [(1, .int 0), (0, .ref 0)]) (i := 1) (a := 1) rfl (by decide) rfl (dk_X7_layRest 27 _ rfl) ?_
    refine F_iconst (v := 0) (by decide) (dk_X7_layRest 28 _ rfl) ?_
    refine F_istore_n (lv' := [(2, .int 0), (1, .int 0), (0, .ref 0)]) (i := 2) (a := 2) rfl (by decide) rfl (dk_X7_layRest 29 _ rfl) ?_
    refine F_iconst (v := 0) (by decide) (dk_X7_layRest 30 _ rfl) ?_
    refine F_istore_n (lv' := [(3, .int 0), (2, .int 0), (1, .int 0), (0, .ref 0)]) (i := 3) (a := 3) rfl (by decide) rfl (dk_X7_layRest 31 _ rfl) ?_
    exact F_loc (List.forall_mem_cons.mpr ⟨(.tail _ (.tail _ (.tail _ (.head _)))), (List.forall_mem_cons.mpr ⟨(.tail _ (.tail _ (.head _))), (List.forall_mem_cons.mpr ⟨(.tail _ (.head _)), (List.forall_mem_cons.mpr ⟨(.head _), (fun _ z => absurd z List.not_mem_nil)⟩)⟩)⟩)⟩) (j_X7_layRest_32   1000 _ _ _ _ )
  · refine F_aload_n (i := 0) (a := 0) rfl rfl (dk_X7_layRest 8 _ rfl) ?_
    refine F_gR (b := 21) fxM_7_36_0 fl_7_120 (dk_X7_layRest 9 _ rfl) ?_
    refine F_iload_n (i := 1) (a := 1) rfl rfl (dk_X7_layRest 12 _ rfl) ?_
    refine F_aload_n (i := 0) (a := 0) rfl rfl (dk_X7_layRest 13 _ rfl) ?_
    refine F_gR (b := 4) fxM_7_6_0 fl_7_29 (dk_X7_layRest 14 _ rfl) ?_
    refine F_iload_n (i := 1) (a := 1) rfl rfl (dk_X7_layRest 17 _ rfl) ?_
    refine F_iald (axM_0_4) (dk_X7_layRest 18 _ rfl) (fun x12 => ?_)
    refine F_iast (axM_0_21) (dk_X7_layRest 19 _ rfl) (fun m13 => ?_)
    refine F_iinc (i := 1) (n := 1) (v := (y1 + 1)) (lv' := [(1, .int (y1 + 1)), (0, .ref 0)]) rfl (by first | rfl | decide) (by decide) rfl (dk_X7_layRest 20 _ rfl) ?_
    refine F_goto (tgt := 2) (by decide) (dk_X7_layRest 23 _ rfl) ?_
    exact F_loc (List.forall_mem_cons.mpr ⟨(.tail _ (.head _)), (List.forall_mem_cons.mpr ⟨(.head _), (fun _ z => absurd z List.not_mem_nil)⟩)⟩) (hK2 _ _ )
theorem j_X7_layRest_2   : ∀ (F : Nat) (m : mM) (y1 : Int32) , JF false uI m_X7_layRest 13 2 [(0, .ref 0), (1, .int y1)] [] m (f_X7_layRest_2  F m y1) := by
  intro F
  induction F with
  | zero => intro m y1 ; exact F_no
  | succ F ih => intro m y1 ; exact jb_X7_layRest_2  (f_X7_layRest_2  F)  ih m y1 
def f_X7_layRest (m : mM)  : fR Int32 :=
  (f_X7_layRest_2  1000 m 0)
theorem c_X7_layRest (m : mM)   : cF false uI m_X7_layRest 13 [.ref 0] m (f_X7_layRest m ) := by
  refine cF_of ok_X7_layRest (fun _ _ => Nat.le_of_ble_eq_true rfl) ?_
  unfold f_X7_layRest
  show JF _ _ _ _ _ [(0, .ref 0)] _ _ _
  refine F_iconst (v := 0) (by decide) (dk_X7_layRest 0 _ rfl) ?_
  refine F_istore_n (lv' := [(1, .int 0), (0, .ref 0)]) (i := 1) (a := 1) rfl (by decide) rfl (dk_X7_layRest 1 _ rfl) ?_
  exact F_loc (List.forall_mem_cons.mpr ⟨(.tail _ (.head _)), (List.forall_mem_cons.mpr ⟨(.head _), (fun _ z => absurd z List.not_mem_nil)⟩)⟩) (j_X7_layRest_2   1000 _ _ )
def f_X7_rest_23  (m : mM) (y1 : Int32) : fR Int32 :=
  bnd (f_X7_layRest m ) fun (x1 : Int32) (m2 : mM) => (if y1 = 0 then some (x1, m2) else (if 0 ≤ x1 then (gA (mA m2 22) (y1 - 10)).bind fun x4 => some (x4, m2) else some (x1, m2)))
theorem j_X7_rest_23   (m : mM) (y1 : Int32)  : JF false uI m_X7_rest 14 23 [(0, .ref 0), (1, .int y1)] [] m (f_X7_rest_23  m y1) := by
  unfold f_X7_rest_23
  refine F_aload_n (i := 0) (a := 0) rfl rfl (dk_X7_rest 23 _ rfl) ?_
  refine F_callV (ι' := uI) (ci := 7) (b := 0) (As := []) (d' := 13) (rfl) ok_X7_layRest vi_X7_layRest cl_7_333 (n := 0) (by decide +kernel) rfl rfl rfl (Nat.le_of_ble_eq_true rfl) (by omega) (dk_X7_rest 24 _ rfl) (c_X7_layRest _  ) (fun x1 m2 => ?_)
  show JF _ _ _ _ _ _ [.int x1] _ _
  refine F_istore_n (lv' := [(2, .int x1), (0, .ref 0), (1, .int y1)]) (i := 2) (a := 2) rfl (by decide) rfl (dk_X7_rest 27 _ rfl) ?_
  refine F_iload_n (i := 1) (a := 1) rfl rfl (dk_X7_rest 28 _ rfl) ?_
  refine F_if_eq (tgt := 36) (by decide) (dk_X7_rest 29 _ rfl) ?_ ?_
  · refine F_iload_n (i := 2) (a := 2) rfl rfl (dk_X7_rest 36 _ rfl) ?_
    refine F_goto (tgt := 49) (by decide) (dk_X7_rest 37 _ rfl) ?_
    exact F_ret rfl (dk_X7_rest 49 _ rfl)
  · refine F_iload_n (i := 2) (a := 2) rfl rfl (dk_X7_rest 32 _ rfl) ?_
    refine F_if_ge (tgt := 40) (by decide) (dk_X7_rest 33 _ rfl) ?_ ?_
    · refine F_aload_n (i := 0) (a := 0) rfl rfl (dk_X7_rest 40 _ rfl) ?_
      refine F_gR (b := 22) fxM_7_37_0 fl_7_123 (dk_X7_rest 41 _ rfl) ?_
      refine F_iload_n (i := 1) (a := 1) rfl rfl (dk_X7_rest 44 _ rfl) ?_
      refine F_bipush (v := 10) (by decide) (dk_X7_rest 45 _ rfl) ?_
      refine F_isub (dk_X7_rest 47 _ rfl) ?_
      refine F_iald (axM_0_22) (dk_X7_rest 48 _ rfl) (fun x4 => ?_)
      exact F_ret rfl (dk_X7_rest 49 _ rfl)
    · refine F_iload_n (i := 2) (a := 2) rfl rfl (dk_X7_rest 36 _ rfl) ?_
      refine F_goto (tgt := 49) (by decide) (dk_X7_rest 37 _ rfl) ?_
      exact F_ret rfl (dk_X7_rest 49 _ rfl)
def f_X7_rest (m : mM) (p1 : Int32) : fR Int32 :=
  (if p1 = 0 then (f_X7_rest_23  m p1) else bnd (f_X7_in m p1 10 ((9 + (mI m 0)))) fun (x5 : Int32) (m6 : mM) => (if x5 = 0 then some ((-1), m6) else (f_X7_rest_23  m6 p1)))
theorem c_X7_rest (m : mM) (p1 : Int32)  : cF false uI m_X7_rest 14 [.ref 0, .int p1] m (f_X7_rest m p1) := by
  refine cF_of ok_X7_rest (fun _ _ => Nat.le_of_ble_eq_true rfl) ?_
  unfold f_X7_rest
  show JF _ _ _ _ _ [(0, .ref 0), (1, .int p1)] _ _ _
  refine F_iload_n (i := 1) (a := 1) rfl rfl (dk_X7_rest 0 _ rfl) ?_
  refine F_if_eq (tgt := 23) (by decide) (dk_X7_rest 1 _ rfl) ?_ ?_
  · exact F_loc (fun _ z => z) (j_X7_rest_23   _ _ )
  · refine F_aload_n (i := 0) (a := 0) rfl rfl (dk_X7_rest 4 _ rfl) ?_
    refine F_iload_n (i := 1) (a := 1) rfl rfl (dk_X7_rest 5 _ rfl) ?_
    refine F_bipush (v := 10) (by decide) (dk_X7_rest 6 _ rfl) ?_
    refine F_bipush (v := 9) (by decide) (dk_X7_rest 8 _ rfl) ?_
    refine F_aload_n (i := 0) (a := 0) rfl rfl (dk_X7_rest 10 _ rfl) ?_
    refine F_gI (n := 0) fxM_7_0_0 rfl fl_7_7 (dk_X7_rest 11 _ rfl) ?_
    refine F_iadd (dk_X7_rest 14 _ rfl) ?_
    refine F_callV (ι' := uI) (ci := 7) (b := 0) (As := [.int p1, .int 10, .int (9 + (mI m 0))]) (d' := 2) (rfl) ok_X7_in vi_X7_in cl_7_194 (n := 3) (by decide +kernel) rfl rfl rfl (Nat.le_of_ble_eq_true rfl) (by omega) (dk_X7_rest 15 _ rfl) (c_X7_in _ _ _ _ ) (fun x5 m6 => ?_)
    show JF _ _ _ _ _ _ [.int x5] _ _
    refine F_if_ne (tgt := 23) (by decide) (dk_X7_rest 18 _ rfl) ?_ ?_
    · exact F_loc (fun _ z => z) (j_X7_rest_23   _ _ )
    · refine F_iconst (v := (-1)) (by decide) (dk_X7_rest 21 _ rfl) ?_
      exact F_ret rfl (dk_X7_rest 22 _ rfl)
end
end
-- 21n.fun.lean.txt
section
section
set_option maxRecDepth 100000
def fb_X7_allMore_8 (K8 : mM → Int32 → Int32 → fR Int32) (m : mM) (y1 : Int32) (y2 : Int32) : fR Int32 :=
  (if (mI m 0) ≤ y2 then some (y1, m) else (gA (mA m 7) y2).bind fun x4 => (if x4 = 0 then nmI (y1 + 0) fun v5 => (K8 m v5 (y2 + 1)) else (gA (mA m 20) y2).bind fun x6 => nmI (y1 + x6) fun v7 => (K8 m v7 (y2 + 1))))
def f_X7_allMore_8  : Nat → mM → Int32 → Int32 → fR Int32
  | 0, _, _, _ => none
  | F + 1, m, y1, y2 => fb_X7_allMore_8  (f_X7_allMore_8  F) m y1 y2
theorem jb_X7_allMore_8 (K8 : mM → Int32 → Int32 → fR Int32) (hK8 : ∀ (m : mM) (y1 : Int32) (y2 : Int32) , JF false uI m_X7_allMore 10 8 [(0, .ref 0), (1, .int y1), (2, .int y2)] [] m (K8 m y1 y2)) (m : mM) (y1 : Int32) (y2 : Int32)  : JF false uI m_X7_allMore 10 8 [(0, .ref 0), (1, .int y1), (2, .int y2)] [] m (fb_X7_allMore_8 K8 m y1 y2) := by
  unfold fb_X7_allMore_8
  refine F_iload_n (i := 2) (a := 2) rfl rfl (dk_X7_allMore 8 _ rfl) ?_
  refine F_aload_n (i := 0) (a := 0) rfl rfl (dk_X7_allMore 9 _ rfl) ?_
  refine F_gI (n := 0) fxM_7_0_0 rfl fl_7_7 (dk_X7_allMore 10 _ rfl) ?_
  refine F_icmp_ge (tgt := 44) (by decide) (dk_X7_allMore 13 _ rfl) ?_ ?_
  · refine F_iload_n (i := 1) (a := 1) rfl rfl (dk_X7_allMore 44 _ rfl) ?_
    exact F_ret rfl (dk_X7_allMore 45 _ rfl)
  · refine F_iload_n (i := 1) (a := 1) rfl rfl (dk_X7_allMore 16 _ rfl) ?_
    refine F_aload_n (i := 0) (a := 0) rfl rfl (dk_X7_allMore 17 _ rfl) ?_
    refine F_gR (b := 7) fxM_7_9_0 fl_7_38 (dk_X7_allMore 18 _ rfl) ?_
    refine F_iload_n (i := 2) (a := 2) rfl rfl (dk_X7_allMore 21 _ rfl) ?_
    refine F_zald (axM_3_7) (dk_X7_allMore 22 _ rfl) (fun x4 => ?_)
    refine F_if_eq (tgt := 35) (by decide) (dk_X7_allMore 23 _ rfl) ?_ ?_
    · refine F_iconst (v := 0) (by decide) (dk_X7_allMore 35 _ rfl) ?_
      refine F_iadd (dk_X7_allMore 36 _ rfl) ?_
      refine F_nm (fun v5 => ?_)
      refine F_istore_n (lv' := [(1, .int v5), (0, .ref 0), (2, .int y2)]) (i := 1) (a := 1) rfl (by decide) rfl (dk_X7_allMore 37 _ rfl) ?_
      refine F_iinc (i := 2) (n := 1) (v := (y2 + 1)) (lv' := [(2, .int (y2 + 1)), (1, .int v5), (0, .ref 0)]) rfl (by first | rfl | decide) (by decide) rfl (dk_X7_allMore 38 _ rfl) ?_
      refine F_goto (tgt := 8) (by decide) (dk_X7_allMore 41 _ rfl) ?_
      exact F_loc (List.forall_mem_cons.mpr ⟨(.tail _ (.tail _ (.head _))), (List.forall_mem_cons.mpr ⟨(.tail _ (.head _)), (List.forall_mem_cons.mpr ⟨(.head _), (fun _ z => absurd z List.not_mem_nil)⟩)⟩)⟩) (hK8 _ _ _ )
    · refine F_aload_n (i := 0) (a := 0) rfl rfl (dk_X7_allMore 26 _ rfl) ?_
      refine F_gR (b := 20) fxM_7_33_0 fl_7_111 (dk_X7_allMore 27 _ rfl) ?_
      refine F_iload_n (i := 2) (a := 2) rfl rfl (dk_X7_allMore 30 _ rfl) ?_
      refine F_iald (axM_0_20) (dk_X7_allMore 31 _ rfl) (fun x6 => ?_)
      refine F_goto (tgt := 36) (by decide) (dk_X7_allMore 32 _ rfl) ?_
      refine F_iadd (dk_X7_allMore 36 _ rfl) ?_
      refine F_nm (fun v7 => ?_)
      refine F_istore_n (lv' := [(1, .int v7), (0, .ref 0), (2, .int y2)]) (i := 1) (a := 1) rfl (by decide) rfl (dk_X7_allMore 37 _ rfl) ?_
      refine F_iinc (i := 2) (n := 1) (v := (y2 + 1)) (lv' := [(2, .int (y2 + 1)), (1, .int v7), (0, .ref 0)]) rfl (by first | rfl | decide) (by decide) rfl (dk_X7_allMore 38 _ rfl) ?_
      refine F_goto (tgt := 8) (by decide) (dk_X7_allMore 41 _ rfl) ?_
      exact F_loc (List.forall_mem_cons.mpr ⟨(.tail _ (.tail _ (.head _))), (List.forall_mem_cons.mpr ⟨(.tail _ (.head _)), (List.forall_mem_cons.mpr ⟨(.head _), (fun _ z => absurd z List.not_mem_nil)⟩)⟩)⟩) (hK8 _ _ _ )
theorem j_X7_allMore_8   : ∀ (F : Nat) (m : mM) (y1 : Int32) (y2 : Int32) , JF false uI m_X7_allMore 10 8 [(0, .ref 0), (1, .int y1), (2, .int y2)] [] m (f_X7_allMore_8  F m y1 y2) := by
  intro F
  induction F with
  | zero => intro m y1 y2 ; exact F_no
  | succ F ih => intro m y1 y2 ; exact jb_X7_allMore_8  (f_X7_allMore_8  F)  ih m y1 y2 
def f_X7_allMore (m : mM)  : fR Int32 :=
  bnd (f_X7_layYear m ) fun (x1 : Unit) (m2 : mM) => (f_X7_allMore_8  1000 m2 0 0)
theorem c_X7_allMore (m : mM)   : cF false uI m_X7_allMore 10 [.ref 0] m (f_X7_allMore m ) := by
  refine cF_of ok_X7_allMore (fun _ _ => Nat.le_of_ble_eq_true rfl) ?_
  unfold f_X7_allMore
  show JF _ _ _ _ _ [(0, .ref 0)] _ _ _
  refine F_aload_n (i := 0) (a := 0) rfl rfl (dk_X7_allMore 0 _ rfl) ?_
  refine F_callV (ι' := uU) (ci := 7) (b := 0) (As := []) (d' := 9) (rfl) ok_X7_layYear vi_X7_layYear cl_7_320 (n := 0) (by decide +kernel) rfl rfl rfl (Nat.le_of_ble_eq_true rfl) (by omega) (dk_X7_allMore 1 _ rfl) (c_X7_layYear _  ) (fun x1 m2 => ?_)
  show JF _ _ _ _ _ _ [] _ _
  refine F_iconst (v := 0) (by decide) (dk_X7_allMore 4 _ rfl) ?_
  refine F_istore_n (lv' := [(1, .int 0), (0, .ref 0)]) (i := 1) (a := 1) rfl (by decide) rfl (dk_X7_allMore 5 _ rfl) ?_
  refine F_iconst (v := 0) (by decide) (dk_X7_allMore 6 _ rfl) ?_
  refine F_istore_n (lv' := [(2, .int 0), (1, .int 0), (0, .ref 0)]) (i := 2) (a := 2) rfl (by decide) rfl (dk_X7_allMore 7 _ rfl) ?_
  exact F_loc (List.forall_mem_cons.mpr ⟨(.tail _ (.tail _ (.head _))), (List.forall_mem_cons.mpr ⟨(.tail _ (.head _)), (List.forall_mem_cons.mpr ⟨(.head _), (fun _ z => absurd z List.not_mem_nil)⟩)⟩)⟩) (j_X7_allMore_8   1000 _ _ _ )
def fb_X7_reckoning_61 (K61 : mM → Int32 → Int32 → Int32 → Int32 → fR Int32) (m : mM) (y1 : Int32) (y2 : Int32) (y3 : Int32) (y4 : Int32) : fR Int32 :=
  (if (mI m 0) ≤ y4 then some ((y3 - y2), m) else (gA (mA m 4) y4).bind fun x10 => (rmI (((x10 + 12) - y1)) 12).bind fun x11 => (sA 0 m 4 y4 x11).bind fun m12 => (K61 m12 y1 y2 y3 (y4 + 1)))
def f_X7_reckoning_61  : Nat → mM → Int32 → Int32 → Int32 → Int32 → fR Int32
  | 0, _, _, _, _, _ => none
  | F + 1, m, y1, y2, y3, y4 => fb_X7_reckoning_61  (f_X7_reckoning_61  F) m y1 y2 y3 y4
theorem jb_X7_reckoning_61 (K61 : mM → Int32 → Int32 → Int32 → Int32 → fR Int32) (hK61 : ∀ (m : mM) (y1 : Int32) (y2 : Int32) (y3 : Int32) (y4 : Int32) , JF false uI m_X7_reckoning 11 61 [(0, .ref 0), (1, .int y1), (2, .int y2), (3, .int y3), (4, .int y4)] [] m (K61 m y1 y2 y3 y4)) (m : mM) (y1 : Int32) (y2 : Int32) (y3 : Int32) (y4 : Int32)  : JF false uI m_X7_reckoning 11 61 [(0, .ref 0), (1, .int y1), (2, .int y2), (3, .int y3), (4, .int y4)] [] m (fb_X7_reckoning_61 K61 m y1 y2 y3 y4) := by
  unfold fb_X7_reckoning_61
  refine F_iload (i := 4) rfl (dk_X7_reckoning 61 _ rfl) ?_
  refine F_aload_n (i := 0) (a := 0) rfl rfl (dk_X7_reckoning 63 _ rfl) ?_
  refine F_gI (n := 0) fxM_7_0_0 rfl fl_7_7 (dk_X7_reckoning 64 _ rfl) ?_
  refine F_icmp_ge (tgt := 98) (by decide) (dk_X7_reckoning 67 _ rfl) ?_ ?_
  · refine F_iload_n (i := 3) (a := 3) rfl rfl (dk_X7_reckoning 98 _ rfl) ?_
    refine F_iload_n (i := 2) (a := 2) rfl rfl (dk_X7_reckoning 99 _ rfl) ?_
    refine F_isub (dk_X7_reckoning 100 _ rfl) ?_
    exact F_ret rfl (dk_X7_reckoning 101 _ rfl)
  · refine F_aload_n (i := 0) (a := 0) rfl rfl (dk_X7_reckoning 70 _ rfl) ?_
    refine F_gR (b := 4) fxM_7_6_0 fl_7_29 (dk_X7_reckoning 71 _ rfl) ?_
    refine F_iload (i := 4) rfl (dk_X7_reckoning 74 _ rfl) ?_
    refine F_aload_n (i := 0) (a := 0) rfl rfl (dk_X7_reckoning 76 _ rfl) ?_
    refine F_gR (b := 4) fxM_7_6_0 fl_7_29 (dk_X7_reckoning 77 _ rfl) ?_
    refine F_iload (i := 4) rfl (dk_X7_reckoning 80 _ rfl) ?_
    refine F_iald (axM_0_4) (dk_X7_reckoning 82 _ rfl) (fun x10 => ?_)
    refine F_bipush (v := 12) (by decide) (dk_X7_reckoning 83 _ rfl) ?_
    refine F_iadd (dk_X7_reckoning 85 _ rfl) ?_
    refine F_iload_n (i := 1) (a := 1) rfl rfl (dk_X7_reckoning 86 _ rfl) ?_
    refine F_isub (dk_X7_reckoning 87 _ rfl) ?_
    refine F_bipush (v := 12) (by decide) (dk_X7_reckoning 88 _ rfl) ?_
    refine F_irem (dk_X7_reckoning 90 _ rfl) (fun x11 => ?_)
    refine F_iast (axM_0_4) (dk_X7_reckoning 91 _ rfl) (fun m12 => ?_)
    refine F_iinc (i := 4) (n := 1) (v := (y4 + 1)) (lv' := [(4, .int (y4 + 1)), (0, .ref 0), (1, .int y1), (2, .int y2), (3, .int y3)]) rfl (by first | rfl | decide) (by decide) rfl (dk_X7_reckoning 92 _ rfl) ?_
    refine F_goto (tgt := 61) (by decide) (dk_X7_reckoning 95 _ rfl) ?_
    exact F_loc (List.forall_mem_cons.mpr ⟨(.tail _ (.head _)), (List.forall_mem_cons.mpr ⟨(.tail _ (.tail _ (.head _))), (List.forall_mem_cons.mpr ⟨(.tail _ (.tail _ (.tail _ (.head _)))), (List.forall_mem_cons.mpr ⟨(.tail _ (.tail _ (.tail _ (.tail _ (.head _))))), (List.forall_mem_cons.mpr ⟨(.head _), (fun _ z => absurd z List.not_mem_nil)⟩)⟩)⟩)⟩)⟩) (hK61 _ _ _ _ _ )
theorem j_X7_reckoning_61   : ∀ (F : Nat) (m : mM) (y1 : Int32) (y2 : Int32) (y3 : Int32) (y4 : Int32) , JF false uI m_X7_reckoning 11 61 [(0, .ref 0), (1, .int y1), (2, .int y2), (3, .int y3), (4, .int y4)] [] m (f_X7_reckoning_61  F m y1 y2 y3 y4) := by
  intro F
  induction F with
  | zero => intro m y1 y2 y3 y4 ; exact F_no
  | succ F ih => intro m y1 y2 y3 y4 ; exact jb_X7_reckoning_61  (f_X7_reckoning_61  F)  ih m y1 y2 y3 y4 
def fb_X7_reckoning_22 (K22 : mM → Int32 → Int32 → Int32 → fR Int32) (m : mM) (y1 : Int32) (y2 : Int32) (y3 : Int32) : fR Int32 :=
  (if (mI m 0) ≤ y3 then bnd (f_X7_allMore m ) fun (x7 : Int32) (m8 : mM) => (f_X7_reckoning_61  1000 m8 y1 y2 x7 0) else (gA (mA m 4) y3).bind fun x13 => (rmI (x13 + y1) 12).bind fun x14 => (sA 0 m 4 y3 x14).bind fun m15 => (K22 m15 y1 y2 (y3 + 1)))
def f_X7_reckoning_22  : Nat → mM → Int32 → Int32 → Int32 → fR Int32
  | 0, _, _, _, _ => none
  | F + 1, m, y1, y2, y3 => fb_X7_reckoning_22  (f_X7_reckoning_22  F) m y1 y2 y3
theorem jb_X7_reckoning_22 (K22 : mM → Int32 → Int32 → Int32 → fR Int32) (hK22 : ∀ (m : mM) (y1 : Int32) (y2 : Int32) (y3 : Int32) , JF false uI m_X7_reckoning 11 22 [(0, .ref 0), (1, .int y1), (2, .int y2), (3, .int y3)] [] m (K22 m y1 y2 y3)) (m : mM) (y1 : Int32) (y2 : Int32) (y3 : Int32)  : JF false uI m_X7_reckoning 11 22 [(0, .ref 0), (1, .int y1), (2, .int y2), (3, .int y3)] [] m (fb_X7_reckoning_22 K22 m y1 y2 y3) := by
  unfold fb_X7_reckoning_22
  refine F_iload_n (i := 3) (a := 3) rfl rfl (dk_X7_reckoning 22 _ rfl) ?_
  refine F_aload_n (i := 0) (a := 0) rfl rfl (dk_X7_reckoning 23 _ rfl) ?_
  refine F_gI (n := 0) fxM_7_0_0 rfl fl_7_7 (dk_X7_reckoning 24 _ rfl) ?_
  refine F_icmp_ge (tgt := 53) (by decide) (dk_X7_reckoning 27 _ rfl) ?_ ?_
  · refine F_aload_n (i := 0) (a := 0) rfl rfl (dk_X7_reckoning 53 _ rfl) ?_
    refine F_callV (ι' := uI) (ci := 7) (b := 0) (As := []) (d' := 10) (rfl) ok_X7_allMore vi_X7_allMore cl_7_336 (n := 0) (by decide +kernel) rfl rfl rfl (Nat.le_of_ble_eq_true rfl) (by omega) (dk_X7_reckoning 54 _ rfl) (c_X7_allMore _  ) (fun x7 m8 => ?_)
    show JF _ _ _ _ _ _ [.int x7] _ _
    refine F_istore_n (lv' := [(3, .int x7), (0, .ref 0), (1, .int y1), (2, .int y2)]) (i := 3) (a := 3) rfl (by decide) rfl (dk_X7_reckoning 57 _ rfl) ?_
    refine F_iconst (v := 0) (by decide) (dk_X7_reckoning 58 _ rfl) ?_
    refine F_istore (lv' := [(4, .int 0), (3, .int x7), (0, .ref 0), (1, .int y1), (2, .int y2)]) (i := 4) (by decide) rfl (dk_X7_reckoning 59 _ rfl) ?_
    exact F_loc (List.forall_mem_cons.mpr ⟨(.tail _ (.tail _ (.head _))), (List.forall_mem_cons.mpr ⟨(.tail _ (.tail _ (.tail _ (.head _)))), (List.forall_mem_cons.mpr ⟨(.tail _ (.tail _ (.tail _ (.tail _ (.head _))))), (List.forall_mem_cons.mpr ⟨(.tail _ (.head _)), (List.forall_mem_cons.mpr ⟨(.head _), (fun _ z => absurd z List.not_mem_nil)⟩)⟩)⟩)⟩)⟩) (j_X7_reckoning_61   1000 _ _ _ _ _ )
  · refine F_aload_n (i := 0) (a := 0) rfl rfl (dk_X7_reckoning 30 _ rfl) ?_
    refine F_gR (b := 4) fxM_7_6_0 fl_7_29 (dk_X7_reckoning 31 _ rfl) ?_
    refine F_iload_n (i := 3) (a := 3) rfl rfl (dk_X7_reckoning 34 _ rfl) ?_
    refine F_aload_n (i := 0) (a := 0) rfl rfl (dk_X7_reckoning 35 _ rfl) ?_
    refine F_gR (b := 4) fxM_7_6_0 fl_7_29 (dk_X7_reckoning 36 _ rfl) ?_
    refine F_iload_n (i := 3) (a := 3) rfl rfl (dk_X7_reckoning 39 _ rfl) ?_
    refine F_iald (axM_0_4) (dk_X7_reckoning 40 _ rfl) (fun x13 => ?_)
    refine F_iload_n (i := 1) (a := 1) rfl rfl (dk_X7_reckoning 41 _ rfl) ?_
    refine F_iadd (dk_X7_reckoning 42 _ rfl) ?_
    refine F_bipush (v := 12) (by decide) (dk_X7_reckoning 43 _ rfl) ?_
    refine F_irem (dk_X7_reckoning 45 _ rfl) (fun x14 => ?_)
    refine F_iast (axM_0_4) (dk_X7_reckoning 46 _ rfl) (fun m15 => ?_)
    refine F_iinc (i := 3) (n := 1) (v := (y3 + 1)) (lv' := [(3, .int (y3 + 1)), (0, .ref 0), (1, .int y1), (2, .int y2)]) rfl (by first | rfl | decide) (by decide) rfl (dk_X7_reckoning 47 _ rfl) ?_
    refine F_goto (tgt := 22) (by decide) (dk_X7_reckoning 50 _ rfl) ?_
    exact F_loc (List.forall_mem_cons.mpr ⟨(.tail _ (.head _)), (List.forall_mem_cons.mpr ⟨(.tail _ (.tail _ (.head _))), (List.forall_mem_cons.mpr ⟨(.tail _ (.tail _ (.tail _ (.head _)))), (List.forall_mem_cons.mpr ⟨(.head _), (fun _ z => absurd z List.not_mem_nil)⟩)⟩)⟩)⟩) (hK22 _ _ _ _ )
theorem j_X7_reckoning_22   : ∀ (F : Nat) (m : mM) (y1 : Int32) (y2 : Int32) (y3 : Int32) , JF false uI m_X7_reckoning 11 22 [(0, .ref 0), (1, .int y1), (2, .int y2), (3, .int y3)] [] m (f_X7_reckoning_22  F m y1 y2 y3) := by
  intro F
  induction F with
  | zero => intro m y1 y2 y3 ; exact F_no
  | succ F ih => intro m y1 y2 y3 ; exact jb_X7_reckoning_22  (f_X7_reckoning_22  F)  ih m y1 y2 y3 
def f_X7_reckoning (m : mM) (p1 : Int32) : fR Int32 :=
  bnd (f_X7_in m p1 0 11) fun (x1 : Int32) (m2 : mM) => (if x1 = 0 then some ((-10000002), m2) else bnd (f_X7_allMore m2 ) fun (x4 : Int32) (m5 : mM) => (f_X7_reckoning_22  1000 m5 p1 x4 0))
theorem c_X7_reckoning (m : mM) (p1 : Int32)  : cF false uI m_X7_reckoning 11 [.ref 0, .int p1] m (f_X7_reckoning m p1) := by
  refine cF_of ok_X7_reckoning (fun _ _ => Nat.le_of_ble_eq_true rfl) ?_
  unfold f_X7_reckoning
  show JF _ _ _ _ _ [(0, .ref 0), (1, .int p1)] _ _ _
  refine F_aload_n (i := 0) (a := 0) rfl rfl (dk_X7_reckoning 0 _ rfl) ?_
  refine F_iload_n (i := 1) (a := 1) rfl rfl (dk_X7_reckoning 1 _ rfl) ?_
  refine F_iconst (v := 0) (by decide) (dk_X7_reckoning 2 _ rfl) ?_
  refine F_bipush (v := 11) (by decide) (dk_X7_reckoning 3 _ rfl) ?_
  refine F_callV (ι' := uI) (ci := 7) (b := 0) (As := [.int p1, .int 0, .int 11]) (d' := 2) (rfl) ok_X7_in vi_X7_in cl_7_194 (n := 3) (by decide +kernel) rfl rfl rfl (Nat.le_of_ble_eq_true rfl) (by omega) (dk_X7_reckoning 5 _ rfl) (c_X7_in _ _ _ _ ) (fun x1 m2 => ?_)
  show JF _ _ _ _ _ _ [.int x1] _ _
  refine F_if_ne (tgt := 15) (by decide) (dk_X7_reckoning 8 _ rfl) ?_ ?_
  · refine F_aload_n (i := 0) (a := 0) rfl rfl (dk_X7_reckoning 15 _ rfl) ?_
    refine F_callV (ι' := uI) (ci := 7) (b := 0) (As := []) (d' := 10) (rfl) ok_X7_allMore vi_X7_allMore cl_7_336 (n := 0) (by decide +kernel) rfl rfl rfl (Nat.le_of_ble_eq_true rfl) (by omega) (dk_X7_reckoning 16 _ rfl) (c_X7_allMore _  ) (fun x4 m5 => ?_)
    show JF _ _ _ _ _ _ [.int x4] _ _
    refine F_istore_n (lv' := [(2, .int x4), (0, .ref 0), (1, .int p1)]) (i := 2) (a := 2) rfl (by decide) rfl (dk_X7_reckoning 19 _ rfl) ?_
    refine F_iconst (v := 0) (by decide) (dk_X7_reckoning 20 _ rfl) ?_
    refine F_istore_n (lv' := [(3, .int 0), (2, .int x4), (0, .ref 0), (1, .int p1)]) (i := 3) (a := 3) rfl (by decide) rfl (dk_X7_reckoning 21 _ rfl) ?_
    exact F_loc (List.forall_mem_cons.mpr ⟨(.tail _ (.tail _ (.head _))), (List.forall_mem_cons.mpr ⟨(.tail _ (.tail _ (.tail _ (.head _)))), (List.forall_mem_cons.mpr ⟨(.tail _ (.head _)), (List.forall_mem_cons.mpr ⟨(.head _), (fun _ z => absurd z List.not_mem_nil)⟩)⟩)⟩)⟩) (j_X7_reckoning_22   1000 _ _ _ _ )
  · refine F_ldcw (v := (-10000002)) ct_7_313 (dk_X7_reckoning 11 _ rfl) ?_
    exact F_ret rfl (dk_X7_reckoning 14 _ rfl)
def fb_X7_high_15 (K15 : mM → Int32 → Int32 → Int32 → fR Int32) (m : mM) (y1 : Int32) (y2 : Int32) (y3 : Int32) : fR Int32 :=
  (if 100 ≤ y3 then nmM (wI m 27 (-1)) fun m4 => some (y2, m4) else (if 0 ≤ y2 then nmM (wI m 27 (-1)) fun m5 => some (y2, m5) else nmM (wI m 27 y3) fun m6 => bnd (f_X7_wouldChange m6 y1) fun (x7 : Int32) (m8 : mM) => (if x7 = 0 then (K15 m8 y1 (-5) (y3 + 5)) else (K15 m8 y1 y3 (y3 + 5)))))
def f_X7_high_15  : Nat → mM → Int32 → Int32 → Int32 → fR Int32
  | 0, _, _, _, _ => none
  | F + 1, m, y1, y2, y3 => fb_X7_high_15  (f_X7_high_15  F) m y1 y2 y3
theorem jb_X7_high_15 (K15 : mM → Int32 → Int32 → Int32 → fR Int32) (hK15 : ∀ (m : mM) (y1 : Int32) (y2 : Int32) (y3 : Int32) , JF false uI m_X7_high 13 15 [(0, .ref 0), (1, .int y1), (2, .int y2), (3, .int y3)] [] m (K15 m y1 y2 y3)) (m : mM) (y1 : Int32) (y2 : Int32) (y3 : Int32)  : JF false uI m_X7_high 13 15 [(0, .ref 0), (1, .int y1), (2, .int y2), (3, .int y3)] [] m (fb_X7_high_15 K15 m y1 y2 y3) := by
  unfold fb_X7_high_15
  refine F_iload_n (i := 3) (a := 3) rfl rfl (dk_X7_high 15 _ rfl) ?_
  refine F_bipush (v := 100) (by decide) (dk_X7_high 16 _ rfl) ?_
  refine F_icmp_ge (tgt := 51) (by decide) (dk_X7_high 18 _ rfl) ?_ ?_
  · refine F_aload_n (i := 0) (a := 0) rfl rfl (dk_X7_high 51 _ rfl) ?_
    refine F_iconst (v := (-1)) (by decide) (dk_X7_high 52 _ rfl) ?_
    refine F_pI (n := 27) fxM_7_27_0 rfl fl_7_93 (fun q hq => by cases hq; rfl) trivial (dk_X7_high 53 _ rfl) (fun m4 => ?_)
    refine F_iload_n (i := 2) (a := 2) rfl rfl (dk_X7_high 56 _ rfl) ?_
    exact F_ret rfl (dk_X7_high 57 _ rfl)
  · refine F_iload_n (i := 2) (a := 2) rfl rfl (dk_X7_high 21 _ rfl) ?_
    refine F_if_ge (tgt := 51) (by decide) (dk_X7_high 22 _ rfl) ?_ ?_
    · refine F_aload_n (i := 0) (a := 0) rfl rfl (dk_X7_high 51 _ rfl) ?_
      refine F_iconst (v := (-1)) (by decide) (dk_X7_high 52 _ rfl) ?_
      refine F_pI (n := 27) fxM_7_27_0 rfl fl_7_93 (fun q hq => by cases hq; rfl) trivial (dk_X7_high 53 _ rfl) (fun m5 => ?_)
      refine F_iload_n (i := 2) (a := 2) rfl rfl (dk_X7_high 56 _ rfl) ?_
      exact F_ret rfl (dk_X7_high 57 _ rfl)
    · refine F_aload_n (i := 0) (a := 0) rfl rfl (dk_X7_high 25 _ rfl) ?_
      refine F_iload_n (i := 3) (a := 3) rfl rfl (dk_X7_high 26 _ rfl) ?_
      refine F_pI (n := 27) fxM_7_27_0 rfl fl_7_93 (fun q hq => by cases hq; rfl) trivial (dk_X7_high 27 _ rfl) (fun m6 => ?_)
      refine F_aload_n (i := 0) (a := 0) rfl rfl (dk_X7_high 30 _ rfl) ?_
      refine F_iload_n (i := 1) (a := 1) rfl rfl (dk_X7_high 31 _ rfl) ?_
      refine F_callV (ι' := uI) (ci := 7) (b := 0) (As := [.int y1]) (d' := 12) (rfl) ok_X7_wouldChange vi_X7_wouldChange cl_7_330 (n := 1) (by decide +kernel) rfl rfl rfl (Nat.le_of_ble_eq_true rfl) (by omega) (dk_X7_high 32 _ rfl) (c_X7_wouldChange _ _ ) (fun x7 m8 => ?_)
      show JF _ _ _ _ _ _ [.int x7] _ _
      refine F_if_eq (tgt := 42) (by decide) (dk_X7_high 35 _ rfl) ?_ ?_
      · refine F_bipush (v := (-5)) (by decide) (dk_X7_high 42 _ rfl) ?_
        refine F_istore_n (lv' := [(2, .int (-5)), (0, .ref 0), (1, .int y1), (3, .int y3)]) (i := 2) (a := 2) rfl (by decide) rfl (dk_X7_high 44 _ rfl) ?_
        refine F_iinc (i := 3) (n := 5) (v := (y3 + 5)) (lv' := [(3, .int (y3 + 5)), (2, .int (-5)), (0, .ref 0), (1, .int y1)]) rfl (by first | rfl | decide) (by decide) rfl (dk_X7_high 45 _ rfl) ?_
        refine F_goto (tgt := 15) (by decide) (dk_X7_high 48 _ rfl) ?_
        exact F_loc (List.forall_mem_cons.mpr ⟨(.tail _ (.tail _ (.head _))), (List.forall_mem_cons.mpr ⟨(.tail _ (.tail _ (.tail _ (.head _)))), (List.forall_mem_cons.mpr ⟨(.tail _ (.head _)), (List.forall_mem_cons.mpr ⟨(.head _), (fun _ z => absurd z List.not_mem_nil)⟩)⟩)⟩)⟩) (hK15 _ _ _ _ )
      · refine F_iload_n (i := 3) (a := 3) rfl rfl (dk_X7_high 38 _ rfl) ?_
        refine F_goto (tgt := 44) (by decide) (dk_X7_high 39 _ rfl) ?_
        refine F_istore_n (lv' := [(2, .int y3), (0, .ref 0), (1, .int y1), (3, .int y3)]) (i := 2) (a := 2) rfl (by decide) rfl (dk_X7_high 44 _ rfl) ?_
        refine F_iinc (i := 3) (n := 5) (v := (y3 + 5)) (lv' := [(3, .int (y3 + 5)), (2, .int y3), (0, .ref 0), (1, .int y1)]) rfl (by first | rfl | decide) (by decide) rfl (dk_X7_high 45 _ rfl) ?_
        refine F_goto (tgt := 15) (by decide) (dk_X7_high 48 _ rfl) ?_
        exact F_loc (List.forall_mem_cons.mpr ⟨(.tail _ (.tail _ (.head _))), (List.forall_mem_cons.mpr ⟨(.tail _ (.tail _ (.tail _ (.head _)))), (List.forall_mem_cons.mpr ⟨(.tail _ (.head _)), (List.forall_mem_cons.mpr ⟨(.head _), (fun _ z => absurd z List.not_mem_nil)⟩)⟩)⟩)⟩) (hK15 _ _ _ _ )
theorem j_X7_high_15   : ∀ (F : Nat) (m : mM) (y1 : Int32) (y2 : Int32) (y3 : Int32) , JF false uI m_X7_high 13 15 [(0, .ref 0), (1, .int y1), (2, .int y2), (3, .int y3)] [] m (f_X7_high_15  F m y1 y2 y3) := by
  intro F
  induction F with
  | zero => intro m y1 y2 y3 ; exact F_no
  | succ F ih => intro m y1 y2 y3 ; exact jb_X7_high_15  (f_X7_high_15  F)  ih m y1 y2 y3 
def f_X7_high (m : mM) (p1 : Int32) : fR Int32 :=
  bnd (f_X7_isPerson m p1) fun (x1 : Int32) (m2 : mM) => (if x1 = 0 then some ((-1), m2) else (f_X7_high_15  1000 m2 p1 (-5) 0))
theorem c_X7_high (m : mM) (p1 : Int32)  : cF false uI m_X7_high 13 [.ref 0, .int p1] m (f_X7_high m p1) := by
  refine cF_of ok_X7_high (fun _ _ => Nat.le_of_ble_eq_true rfl) ?_
  unfold f_X7_high
  show JF _ _ _ _ _ [(0, .ref 0), (1, .int p1)] _ _ _
  refine F_aload_n (i := 0) (a := 0) rfl rfl (dk_X7_high 0 _ rfl) ?_
  refine F_iload_n (i := 1) (a := 1) rfl rfl (dk_X7_high 1 _ rfl) ?_
  refine F_callV (ι' := uI) (ci := 7) (b := 0) (As := [.int p1]) (d' := 3) (rfl) ok_X7_isPerson vi_X7_isPerson cl_7_206 (n := 1) (by decide +kernel) rfl rfl rfl (Nat.le_of_ble_eq_true rfl) (by omega) (dk_X7_high 2 _ rfl) (c_X7_isPerson _ _ ) (fun x1 m2 => ?_)
  show JF _ _ _ _ _ _ [.int x1] _ _
  refine F_if_ne (tgt := 10) (by decide) (dk_X7_high 5 _ rfl) ?_ ?_
  · refine F_bipush (v := (-5)) (by decide) (dk_X7_high 10 _ rfl) ?_
    refine F_istore_n (lv' := [(2, .int (-5)), (0, .ref 0), (1, .int p1)]) (i := 2) (a := 2) rfl (by decide) rfl (dk_X7_high 12 _ rfl) ?_
    refine F_iconst (v := 0) (by decide) (dk_X7_high 13 _ rfl) ?_
    refine F_istore_n (lv' := [(3, .int 0), (2, .int (-5)), (0, .ref 0), (1, .int p1)]) (i := 3) (a := 3) rfl (by decide) rfl (dk_X7_high 14 _ rfl) ?_
    exact F_loc (List.forall_mem_cons.mpr ⟨(.tail _ (.tail _ (.head _))), (List.forall_mem_cons.mpr ⟨(.tail _ (.tail _ (.tail _ (.head _)))), (List.forall_mem_cons.mpr ⟨(.tail _ (.head _)), (List.forall_mem_cons.mpr ⟨(.head _), (fun _ z => absurd z List.not_mem_nil)⟩)⟩)⟩)⟩) (j_X7_high_15   1000 _ _ _ _ )
  · refine F_iconst (v := (-1)) (by decide) (dk_X7_high 8 _ rfl) ?_
    exact F_ret rfl (dk_X7_high 9 _ rfl)
def f_X7_othersMore (m : mM) (p1 : Int32) : fR Int32 :=
  bnd (f_X7_allMore m ) fun (x1 : Int32) (m2 : mM) => (gA (mA m2 7) p1).bind fun x4 => (if x4 = 0 then some (x1, m2) else (gA (mA m2 20) p1).bind fun x5 => some ((x1 - x5), m2))
theorem c_X7_othersMore (m : mM) (p1 : Int32)  : cF false uI m_X7_othersMore 11 [.ref 0, .int p1] m (f_X7_othersMore m p1) := by
  refine cF_of ok_X7_othersMore (fun _ _ => Nat.le_of_ble_eq_true rfl) ?_
  unfold f_X7_othersMore
  show JF _ _ _ _ _ [(0, .ref 0), (1, .int p1)] _ _ _
  refine F_aload_n (i := 0) (a := 0) rfl rfl (dk_X7_othersMore 0 _ rfl) ?_
  refine F_callV (ι' := uI) (ci := 7) (b := 0) (As := []) (d' := 10) (rfl) ok_X7_allMore vi_X7_allMore cl_7_336 (n := 0) (by decide +kernel) rfl rfl rfl (Nat.le_of_ble_eq_true rfl) (by omega) (dk_X7_othersMore 1 _ rfl) (c_X7_allMore _  ) (fun x1 m2 => ?_)
  show JF _ _ _ _ _ _ [.int x1] _ _
  refine F_istore_n (lv' := [(2, .int x1), (0, .ref 0), (1, .int p1)]) (i := 2) (a := 2) rfl (by decide) rfl (dk_X7_othersMore 4 _ rfl) ?_
  refine F_aload_n (i := 0) (a := 0) rfl rfl (dk_X7_othersMore 5 _ rfl) ?_
  refine F_gR (b := 7) fxM_7_9_0 fl_7_38 (dk_X7_othersMore 6 _ rfl) ?_
  refine F_iload_n (i := 1) (a := 1) rfl rfl (dk_X7_othersMore 9 _ rfl) ?_
  refine F_zald (axM_3_7) (dk_X7_othersMore 10 _ rfl) (fun x4 => ?_)
  refine F_if_eq (tgt := 25) (by decide) (dk_X7_othersMore 11 _ rfl) ?_ ?_
  · refine F_iload_n (i := 2) (a := 2) rfl rfl (dk_X7_othersMore 25 _ rfl) ?_
    exact F_ret rfl (dk_X7_othersMore 26 _ rfl)
  · refine F_iload_n (i := 2) (a := 2) rfl rfl (dk_X7_othersMore 14 _ rfl) ?_
    refine F_aload_n (i := 0) (a := 0) rfl rfl (dk_X7_othersMore 15 _ rfl) ?_
    refine F_gR (b := 20) fxM_7_33_0 fl_7_111 (dk_X7_othersMore 16 _ rfl) ?_
    refine F_iload_n (i := 1) (a := 1) rfl rfl (dk_X7_othersMore 19 _ rfl) ?_
    refine F_iald (axM_0_20) (dk_X7_othersMore 20 _ rfl) (fun x5 => ?_)
    refine F_isub (dk_X7_othersMore 21 _ rfl) ?_
    refine F_goto (tgt := 26) (by decide) (dk_X7_othersMore 22 _ rfl) ?_
    exact F_ret rfl (dk_X7_othersMore 26 _ rfl)
def f_X7_last (m : mM) (p1 : Int32) : fR Int32 :=
  bnd (f_X7_isPerson m p1) fun (x1 : Int32) (m2 : mM) => (if x1 = 0 then some ((-10000001), m2) else bnd (f_X7_othersMore m2 p1) fun (x4 : Int32) (m5 : mM) => (gA (mA m5 7) p1).bind fun x7 => (sA 3 m5 7 p1 0).bind fun m8 => bnd (f_X7_othersMore m8 p1) fun (x9 : Int32) (m10 : mM) => (sA 3 m10 7 p1 x7).bind fun m12 => some ((x4 - x9), m12))
theorem c_X7_last (m : mM) (p1 : Int32)  : cF false uI m_X7_last 12 [.ref 0, .int p1] m (f_X7_last m p1) := by
  refine cF_of ok_X7_last (fun _ _ => Nat.le_of_ble_eq_true rfl) ?_
  unfold f_X7_last
  show JF _ _ _ _ _ [(0, .ref 0), (1, .int p1)] _ _ _
  refine F_aload_n (i := 0) (a := 0) rfl rfl (dk_X7_last 0 _ rfl) ?_
  refine F_iload_n (i := 1) (a := 1) rfl rfl (dk_X7_last 1 _ rfl) ?_
  refine F_callV (ι' := uI) (ci := 7) (b := 0) (As := [.int p1]) (d' := 3) (rfl) ok_X7_isPerson vi_X7_isPerson cl_7_206 (n := 1) (by decide +kernel) rfl rfl rfl (Nat.le_of_ble_eq_true rfl) (by omega) (dk_X7_last 2 _ rfl) (c_X7_isPerson _ _ ) (fun x1 m2 => ?_)
  show JF _ _ _ _ _ _ [.int x1] _ _
  refine F_if_ne (tgt := 12) (by decide) (dk_X7_last 5 _ rfl) ?_ ?_
  · refine F_aload_n (i := 0) (a := 0) rfl rfl (dk_X7_last 12 _ rfl) ?_
    refine F_iload_n (i := 1) (a := 1) rfl rfl (dk_X7_last 13 _ rfl) ?_
    refine F_callV (ι' := uI) (ci := 7) (b := 0) (As := [.int p1]) (d' := 11) (rfl) ok_X7_othersMore vi_X7_othersMore cl_7_339 (n := 1) (by decide +kernel) rfl rfl rfl (Nat.le_of_ble_eq_true rfl) (by omega) (dk_X7_last 14 _ rfl) (c_X7_othersMore _ _ ) (fun x4 m5 => ?_)
    show JF _ _ _ _ _ _ [.int x4] _ _
    refine F_istore_n (lv' := [(2, .int x4), (0, .ref 0), (1, .int p1)]) (i := 2) (a := 2) rfl (by decide) rfl (dk_X7_last 17 _ rfl) ?_
    refine F_aload_n (i := 0) (a := 0) rfl rfl (dk_X7_last 18 _ rfl) ?_
    refine F_gR (b := 7) fxM_7_9_0 fl_7_38 (dk_X7_last 19 _ rfl) ?_
    refine F_iload_n (i := 1) (a := 1) rfl rfl (dk_X7_last 22 _ rfl) ?_
    refine F_zald (axM_3_7) (dk_X7_last 23 _ rfl) (fun x7 => ?_)
    refine F_istore_n (lv' := [(3, .int x7), (2, .int x4), (0, .ref 0), (1, .int p1)]) (i := 3) (a := 3) rfl (by decide) rfl (dk_X7_last 24 _ rfl) ?_
    refine F_aload_n (i := 0) (a := 0) rfl rfl (dk_X7_last 25 _ rfl) ?_
    refine F_gR (b := 7) fxM_7_9_0 fl_7_38 (dk_X7_last 26 _ rfl) ?_
    refine F_iload_n (i := 1) (a := 1) rfl rfl (dk_X7_last 29 _ rfl) ?_
    refine F_iconst (v := 0) (by decide) (dk_X7_last 30 _ rfl) ?_
    refine F_zast (axM_3_7) (dk_X7_last 31 _ rfl) (fun m8 => ?_)
    refine F_aload_n (i := 0) (a := 0) rfl rfl (dk_X7_last 32 _ rfl) ?_
    refine F_iload_n (i := 1) (a := 1) rfl rfl (dk_X7_last 33 _ rfl) ?_
    refine F_callV (ι' := uI) (ci := 7) (b := 0) (As := [.int p1]) (d' := 11) (rfl) ok_X7_othersMore vi_X7_othersMore cl_7_339 (n := 1) (by decide +kernel) rfl rfl rfl (Nat.le_of_ble_eq_true rfl) (by omega) (dk_X7_last 34 _ rfl) (c_X7_othersMore _ _ ) (fun x9 m10 => ?_)
    show JF _ _ _ _ _ _ [.int x9] _ _
    refine F_istore (lv' := [(4, .int x9), (3, .int x7), (2, .int x4), (0, .ref 0), (1, .int p1)]) (i := 4) (by decide) rfl (dk_X7_last 37 _ rfl) ?_
    refine F_aload_n (i := 0) (a := 0) rfl rfl (dk_X7_last 39 _ rfl) ?_
    refine F_gR (b := 7) fxM_7_9_0 fl_7_38 (dk_X7_last 40 _ rfl) ?_
    refine F_iload_n (i := 1) (a := 1) rfl rfl (dk_X7_last 43 _ rfl) ?_
    refine F_iload_n (i := 3) (a := 3) rfl rfl (dk_X7_last 44 _ rfl) ?_
    refine F_zast (axM_3_7) (dk_X7_last 45 _ rfl) (fun m12 => ?_)
    refine F_iload_n (i := 2) (a := 2) rfl rfl (dk_X7_last 46 _ rfl) ?_
    refine F_iload (i := 4) rfl (dk_X7_last 47 _ rfl) ?_
    refine F_isub (dk_X7_last 49 _ rfl) ?_
    exact F_ret rfl (dk_X7_last 50 _ rfl)
  · refine F_ldcw (v := (-10000001)) ct_7_291 (dk_X7_last 8 _ rfl) ?_
    exact F_ret rfl (dk_X7_last 11 _ rfl)
def fb_X7_divisor_14 (K14 : mM → Int32 → Int32 → fR Int32) (m : mM) (y3 : Int32) (y4 : Int32) : fR Int32 :=
  (if y4 = 0 then some (y3, m) else (rmI y3 y4).bind fun x1 => (K14 m y4 x1))
def f_X7_divisor_14  : Nat → mM → Int32 → Int32 → fR Int32
  | 0, _, _, _ => none
  | F + 1, m, y3, y4 => fb_X7_divisor_14  (f_X7_divisor_14  F) m y3 y4
theorem jb_X7_divisor_14 (K14 : mM → Int32 → Int32 → fR Int32) (hK14 : ∀ (m : mM) (y3 : Int32) (y4 : Int32) , JF false uI m_X7_divisor 2 14 [(3, .int y3), (4, .int y4)] [] m (K14 m y3 y4)) (m : mM) (y3 : Int32) (y4 : Int32)  : JF false uI m_X7_divisor 2 14 [(3, .int y3), (4, .int y4)] [] m (fb_X7_divisor_14 K14 m y3 y4) := by
  unfold fb_X7_divisor_14
  refine F_iload (i := 4) rfl (dk_X7_divisor 14 _ rfl) ?_
  refine F_if_eq (tgt := 35) (by decide) (dk_X7_divisor 16 _ rfl) ?_ ?_
  · refine F_iload_n (i := 3) (a := 3) rfl rfl (dk_X7_divisor 35 _ rfl) ?_
    exact F_ret rfl (dk_X7_divisor 36 _ rfl)
  · refine F_iload_n (i := 3) (a := 3) rfl rfl (dk_X7_divisor 19 _ rfl) ?_
    refine F_iload (i := 4) rfl (dk_X7_divisor 20 _ rfl) ?_
    refine F_irem (dk_X7_divisor 22 _ rfl) (fun x1 => ?_)
    refine F_istore (lv' := [(5, .int x1), (3, .int y3), (4, .int y4)]) (i := 5) (by decide) rfl (dk_X7_divisor 23 _ rfl) ?_
    refine F_iload (i := 4) rfl (dk_X7_divisor 25 _ rfl) ?_
    refine F_istore_n (lv' := [(3, .int y4), (5, .int x1), (4, .int y4)]) (i := 3) (a := 3) rfl (by decide) rfl (dk_X7_divisor 27 _ rfl) ?_
    refine F_iload (i := 5) rfl (dk_X7_divisor 28 _ rfl) ?_
    refine F_istore (lv' := [(4, .int x1), (3, .int y4), (5, .int x1)]) (i := 4) (by decide) rfl (dk_X7_divisor 30 _ rfl) ?_
    refine F_goto (tgt := 14) (by decide) (dk_X7_divisor 32 _ rfl) ?_
    exact F_loc (List.forall_mem_cons.mpr ⟨(.tail _ (.head _)), (List.forall_mem_cons.mpr ⟨(.head _), (fun _ z => absurd z List.not_mem_nil)⟩)⟩) (hK14 _ _ _ )
theorem j_X7_divisor_14   : ∀ (F : Nat) (m : mM) (y3 : Int32) (y4 : Int32) , JF false uI m_X7_divisor 2 14 [(3, .int y3), (4, .int y4)] [] m (f_X7_divisor_14  F m y3 y4) := by
  intro F
  induction F with
  | zero => intro m y3 y4 ; exact F_no
  | succ F ih => intro m y3 y4 ; exact jb_X7_divisor_14  (f_X7_divisor_14  F)  ih m y3 y4 
def f_X7_divisor (m : mM) (p1 : Int32) (p2 : Int32) : fR Int32 :=
  (if 0 ≤ p1 then (f_X7_divisor_14  1000 m p1 p2) else nmI (-p1) fun v2 => (f_X7_divisor_14  1000 m v2 p2))
theorem c_X7_divisor (m : mM) (p1 : Int32) (p2 : Int32)  : cF false uI m_X7_divisor 2 [.ref 0, .int p1, .int p2] m (f_X7_divisor m p1 p2) := by
  refine cF_of ok_X7_divisor (fun _ _ => Nat.le_of_ble_eq_true rfl) ?_
  unfold f_X7_divisor
  show JF _ _ _ _ _ [(0, .ref 0), (1, .int p1), (2, .int p2)] _ _ _
  refine F_iload_n (i := 1) (a := 1) rfl rfl (dk_X7_divisor 0 _ rfl) ?_
  refine F_if_ge (tgt := 9) (by decide) (dk_X7_divisor 1 _ rfl) ?_ ?_
  · refine F_iload_n (i := 1) (a := 1) rfl rfl (dk_X7_divisor 9 _ rfl) ?_
    refine F_istore_n (lv' := [(3, .int p1), (0, .ref 0), (1, .int p1), (2, .int p2)]) (i := 3) (a := 3) rfl (by decide) rfl (dk_X7_divisor 10 _ rfl) ?_
    refine F_iload_n (i := 2) (a := 2) rfl rfl (dk_X7_divisor 11 _ rfl) ?_
    refine F_istore (lv' := [(4, .int p2), (3, .int p1), (0, .ref 0), (1, .int p1), (2, .int p2)]) (i := 4) (by decide) rfl (dk_X7_divisor 12 _ rfl) ?_
    exact F_loc (List.forall_mem_cons.mpr ⟨(.tail _ (.head _)), (List.forall_mem_cons.mpr ⟨(.head _), (fun _ z => absurd z List.not_mem_nil)⟩)⟩) (j_X7_divisor_14   1000 _ _ _ )
  · refine F_iload_n (i := 1) (a := 1) rfl rfl (dk_X7_divisor 4 _ rfl) ?_
    refine F_ineg (dk_X7_divisor 5 _ rfl) ?_
    refine F_goto (tgt := 10) (by decide) (dk_X7_divisor 6 _ rfl) ?_
    refine F_nm (fun v2 => ?_)
    refine F_istore_n (lv' := [(3, .int v2), (0, .ref 0), (1, .int p1), (2, .int p2)]) (i := 3) (a := 3) rfl (by decide) rfl (dk_X7_divisor 10 _ rfl) ?_
    refine F_iload_n (i := 2) (a := 2) rfl rfl (dk_X7_divisor 11 _ rfl) ?_
    refine F_istore (lv' := [(4, .int p2), (3, .int v2), (0, .ref 0), (1, .int p1), (2, .int p2)]) (i := 4) (by decide) rfl (dk_X7_divisor 12 _ rfl) ?_
    exact F_loc (List.forall_mem_cons.mpr ⟨(.tail _ (.head _)), (List.forall_mem_cons.mpr ⟨(.head _), (fun _ z => absurd z List.not_mem_nil)⟩)⟩) (j_X7_divisor_14   1000 _ _ _ )
def f_X7_lowest (m : mM) (p1 : Int32) (p2 : Int32) (p3 : Int32) : fR Int64 :=
  bnd (f_X7_divisor m p1 p2) fun (x1 : Int32) (m2 : mM) => (if p3 = 0 then (dvI p1 x1).bind fun x5 => some ((x5 : Int32).toInt64, m2) else (dvI p2 x1).bind fun x4 => some ((x4 : Int32).toInt64, m2))
theorem c_X7_lowest (m : mM) (p1 : Int32) (p2 : Int32) (p3 : Int32)  : cF false uL m_X7_lowest 3 [.ref 0, .int p1, .int p2, .int p3] m (f_X7_lowest m p1 p2 p3) := by
  refine cF_of ok_X7_lowest (fun _ _ => Nat.le_of_ble_eq_true rfl) ?_
  unfold f_X7_lowest
  show JF _ _ _ _ _ [(0, .ref 0), (1, .int p1), (2, .int p2), (3, .int p3)] _ _ _
  refine F_aload_n (i := 0) (a := 0) rfl rfl (dk_X7_lowest 0 _ rfl) ?_
  refine F_iload_n (i := 1) (a := 1) rfl rfl (dk_X7_lowest 1 _ rfl) ?_
  refine F_iload_n (i := 2) (a := 2) rfl rfl (dk_X7_lowest 2 _ rfl) ?_
  refine F_callV (ι' := uI) (ci := 7) (b := 0) (As := [.int p1, .int p2]) (d' := 2) (rfl) ok_X7_divisor vi_X7_divisor cl_7_342 (n := 2) (by decide +kernel) rfl rfl rfl (Nat.le_of_ble_eq_true rfl) (by omega) (dk_X7_lowest 3 _ rfl) (c_X7_divisor _ _ _ ) (fun x1 m2 => ?_)
  show JF _ _ _ _ _ _ [.int x1] _ _
  refine F_istore (lv' := [(4, .int x1), (0, .ref 0), (1, .int p1), (2, .int p2), (3, .int p3)]) (i := 4) (by decide) rfl (dk_X7_lowest 6 _ rfl) ?_
  refine F_iload_n (i := 3) (a := 3) rfl rfl (dk_X7_lowest 8 _ rfl) ?_
  refine F_if_ne (tgt := 20) (by decide) (dk_X7_lowest 9 _ rfl) ?_ ?_
  · refine F_iload_n (i := 2) (a := 2) rfl rfl (dk_X7_lowest 20 _ rfl) ?_
    refine F_iload (i := 4) rfl (dk_X7_lowest 21 _ rfl) ?_
    refine F_idiv (dk_X7_lowest 23 _ rfl) (fun x4 => ?_)
    refine F_i2l (dk_X7_lowest 24 _ rfl) ?_
    exact F_retL rfl (dk_X7_lowest 25 _ rfl)
  · refine F_iload_n (i := 1) (a := 1) rfl rfl (dk_X7_lowest 12 _ rfl) ?_
    refine F_iload (i := 4) rfl (dk_X7_lowest 13 _ rfl) ?_
    refine F_idiv (dk_X7_lowest 15 _ rfl) (fun x5 => ?_)
    refine F_i2l (dk_X7_lowest 16 _ rfl) ?_
    refine F_goto (tgt := 25) (by decide) (dk_X7_lowest 17 _ rfl) ?_
    exact F_retL rfl (dk_X7_lowest 25 _ rfl)
def f_X7_yearIf (m : mM) (p1 : Int32) (p2 : Int32) : fR Int32 :=
  (gA (mA m 3) p1).bind fun x1 => (sA 0 m 3 p1 p2).bind fun m2 => bnd (f_X7_yearOf m2 p1) fun (x3 : Int32) (m4 : mM) => (sA 0 m4 3 p1 x1).bind fun m6 => some (x3, m6)
theorem c_X7_yearIf (m : mM) (p1 : Int32) (p2 : Int32)  : cF false uI m_X7_yearIf 11 [.ref 0, .int p1, .int p2] m (f_X7_yearIf m p1 p2) := by
  refine cF_of ok_X7_yearIf (fun _ _ => Nat.le_of_ble_eq_true rfl) ?_
  unfold f_X7_yearIf
  show JF _ _ _ _ _ [(0, .ref 0), (1, .int p1), (2, .int p2)] _ _ _
  refine F_aload_n (i := 0) (a := 0) rfl rfl (dk_X7_yearIf 0 _ rfl) ?_
  refine F_gR (b := 3) fxM_7_5_0 fl_7_26 (dk_X7_yearIf 1 _ rfl) ?_
  refine F_iload_n (i := 1) (a := 1) rfl rfl (dk_X7_yearIf 4 _ rfl) ?_
  refine F_iald (axM_0_3) (dk_X7_yearIf 5 _ rfl) (fun x1 => ?_)
  refine F_istore_n (lv' := [(3, .int x1), (0, .ref 0), (1, .int p1), (2, .int p2)]) (i := 3) (a := 3) rfl (by decide) rfl (dk_X7_yearIf 6 _ rfl) ?_
  refine F_aload_n (i := 0) (a := 0) rfl rfl (dk_X7_yearIf 7 _ rfl) ?_
  refine F_gR (b := 3) fxM_7_5_0 fl_7_26 (dk_X7_yearIf 8 _ rfl) ?_
  refine F_iload_n (i := 1) (a := 1) rfl rfl (dk_X7_yearIf 11 _ rfl) ?_
  refine F_iload_n (i := 2) (a := 2) rfl rfl (dk_X7_yearIf 12 _ rfl) ?_
  refine F_iast (axM_0_3) (dk_X7_yearIf 13 _ rfl) (fun m2 => ?_)
  refine F_aload_n (i := 0) (a := 0) rfl rfl (dk_X7_yearIf 14 _ rfl) ?_
  refine F_iload_n (i := 1) (a := 1) rfl rfl (dk_X7_yearIf 15 _ rfl) ?_
  refine F_callV (ι' := uI) (ci := 7) (b := 0) (As := [.int p1]) (d' := 10) (rfl) ok_X7_yearOf vi_X7_yearOf cl_7_323 (n := 1) (by decide +kernel) rfl rfl rfl (Nat.le_of_ble_eq_true rfl) (by omega) (dk_X7_yearIf 16 _ rfl) (c_X7_yearOf _ _ ) (fun x3 m4 => ?_)
  show JF _ _ _ _ _ _ [.int x3] _ _
  refine F_istore (lv' := [(4, .int x3), (3, .int x1), (0, .ref 0), (1, .int p1), (2, .int p2)]) (i := 4) (by decide) rfl (dk_X7_yearIf 19 _ rfl) ?_
  refine F_aload_n (i := 0) (a := 0) rfl rfl (dk_X7_yearIf 21 _ rfl) ?_
  refine F_gR (b := 3) fxM_7_5_0 fl_7_26 (dk_X7_yearIf 22 _ rfl) ?_
  refine F_iload_n (i := 1) (a := 1) rfl rfl (dk_X7_yearIf 25 _ rfl) ?_
  refine F_iload_n (i := 3) (a := 3) rfl rfl (dk_X7_yearIf 26 _ rfl) ?_
  refine F_iast (axM_0_3) (dk_X7_yearIf 27 _ rfl) (fun m6 => ?_)
  refine F_iload (i := 4) rfl (dk_X7_yearIf 28 _ rfl) ?_
  exact F_ret rfl (dk_X7_yearIf 30 _ rfl)
def fb_X7_odds_44 (K44 : mM → Int32 → Int32 → Int32 → Int32 → Int32 → fR Int64) (m : mM) (y1 : Int32) (y3 : Int32) (y4 : Int32) (y5 : Int32) (y6 : Int32) : fR Int64 :=
  (if 12 ≤ y6 then bnd (f_X7_lowest m y5 12 y3) fun (x13 : Int64) (m14 : mM) => some (x13, m14) else bnd (f_X7_yearIf m y1 y6) fun (x16 : Int32) (m17 : mM) => (if x16 < y4 then nmI (y5 + 0) fun v19 => (K44 m17 y1 y3 y4 v19 (y6 + 1)) else nmI (y5 + 1) fun v20 => (K44 m17 y1 y3 y4 v20 (y6 + 1))))
def f_X7_odds_44  : Nat → mM → Int32 → Int32 → Int32 → Int32 → Int32 → fR Int64
  | 0, _, _, _, _, _, _ => none
  | F + 1, m, y1, y3, y4, y5, y6 => fb_X7_odds_44  (f_X7_odds_44  F) m y1 y3 y4 y5 y6
theorem jb_X7_odds_44 (K44 : mM → Int32 → Int32 → Int32 → Int32 → Int32 → fR Int64) (hK44 : ∀ (m : mM) (y1 : Int32) (y3 : Int32) (y4 : Int32) (y5 : Int32) (y6 : Int32) , JF false uL m_X7_odds 12 44 [(0, .ref 0), (1, .int y1), (3, .int y3), (4, .int y4), (5, .int y5), (6, .int y6)] [] m (K44 m y1 y3 y4 y5 y6)) (m : mM) (y1 : Int32) (y3 : Int32) (y4 : Int32) (y5 : Int32) (y6 : Int32)  : JF false uL m_X7_odds 12 44 [(0, .ref 0), (1, .int y1), (3, .int y3), (4, .int y4), (5, .int y5), (6, .int y6)] [] m (fb_X7_odds_44 K44 m y1 y3 y4 y5 y6) := by
  unfold fb_X7_odds_44
  refine F_iload (i := 6) rfl (dk_X7_odds 44 _ rfl) ?_
  refine F_bipush (v := 12) (by decide) (dk_X7_odds 46 _ rfl) ?_
  refine F_icmp_ge (tgt := 79) (by decide) (dk_X7_odds 48 _ rfl) ?_ ?_
  · refine F_aload_n (i := 0) (a := 0) rfl rfl (dk_X7_odds 79 _ rfl) ?_
    refine F_iload (i := 5) rfl (dk_X7_odds 80 _ rfl) ?_
    refine F_bipush (v := 12) (by decide) (dk_X7_odds 82 _ rfl) ?_
    refine F_iload_n (i := 3) (a := 3) rfl rfl (dk_X7_odds 84 _ rfl) ?_
    refine F_callV (ι' := uL) (ci := 7) (b := 0) (As := [.int y5, .int 12, .int y3]) (d' := 3) (rfl) ok_X7_lowest vi_X7_lowest cl_7_350 (n := 3) (by decide +kernel) rfl rfl rfl (Nat.le_of_ble_eq_true rfl) (by omega) (dk_X7_odds 85 _ rfl) (c_X7_lowest _ _ _ _ ) (fun x13 m14 => ?_)
    show JF _ _ _ _ _ _ [.long x13] _ _
    exact F_retL rfl (dk_X7_odds 88 _ rfl)
  · refine F_iload (i := 5) rfl (dk_X7_odds 51 _ rfl) ?_
    refine F_aload_n (i := 0) (a := 0) rfl rfl (dk_X7_odds 53 _ rfl) ?_
    refine F_iload_n (i := 1) (a := 1) rfl rfl (dk_X7_odds 54 _ rfl) ?_
    refine F_iload (i := 6) rfl (dk_X7_odds 55 _ rfl) ?_
    refine F_callV (ι' := uI) (ci := 7) (b := 0) (As := [.int y1, .int y6]) (d' := 11) (rfl) ok_X7_yearIf vi_X7_yearIf cl_7_347 (n := 2) (by decide +kernel) rfl rfl rfl (Nat.le_of_ble_eq_true rfl) (by omega) (dk_X7_odds 57 _ rfl) (c_X7_yearIf _ _ _ ) (fun x16 m17 => ?_)
    show JF _ _ _ _ _ _ [.int x16, .int y5] _ _
    refine F_iload (i := 4) rfl (dk_X7_odds 60 _ rfl) ?_
    refine F_icmp_lt (tgt := 69) (by decide) (dk_X7_odds 62 _ rfl) ?_ ?_
    · refine F_iconst (v := 0) (by decide) (dk_X7_odds 69 _ rfl) ?_
      refine F_iadd (dk_X7_odds 70 _ rfl) ?_
      refine F_nm (fun v19 => ?_)
      refine F_istore (lv' := [(5, .int v19), (0, .ref 0), (1, .int y1), (3, .int y3), (4, .int y4), (6, .int y6)]) (i := 5) (by decide) rfl (dk_X7_odds 71 _ rfl) ?_
      refine F_iinc (i := 6) (n := 1) (v := (y6 + 1)) (lv' := [(6, .int (y6 + 1)), (5, .int v19), (0, .ref 0), (1, .int y1), (3, .int y3), (4, .int y4)]) rfl (by first | rfl | decide) (by decide) rfl (dk_X7_odds 73 _ rfl) ?_
      refine F_goto (tgt := 44) (by decide) (dk_X7_odds 76 _ rfl) ?_
      exact F_loc (List.forall_mem_cons.mpr ⟨(.tail _ (.tail _ (.head _))), (List.forall_mem_cons.mpr ⟨(.tail _ (.tail _ (.tail _ (.head _)))), (List.forall_mem_cons.mpr ⟨(.tail _ (.tail _ (.tail _ (.tail _ (.head _))))), (List.forall_mem_cons.mpr ⟨(.tail _ (.tail _ (.tail _ (.tail _ (.tail _ (.head _)))))), (List.forall_mem_cons.mpr ⟨(.tail _ (.head _)), (List.forall_mem_cons.mpr ⟨(.head _), (fun _ z => absurd z List.not_mem_nil)⟩)⟩)⟩)⟩)⟩)⟩) (hK44 _ _ _ _ _ _ )
    · refine F_iconst (v := 1) (by decide) (dk_X7_odds 65 _ rfl) ?_
      refine F_goto (tgt := 70) (by decide) (dk_X7_odds 66 _ rfl) ?_
      refine F_iadd (dk_X7_odds 70 _ rfl) ?_
      refine F_nm (fun v20 => ?_)
      refine F_istore (lv' := [(5, .int v20), (0, .ref 0), (1, .int y1), (3, .int y3), (4, .int y4), (6, .int y6)]) (i := 5) (by decide) rfl (dk_X7_odds 71 _ rfl) ?_
      refine F_iinc (i := 6) (n := 1) (v := (y6 + 1)) (lv' := [(6, .int (y6 + 1)), (5, .int v20), (0, .ref 0), (1, .int y1), (3, .int y3), (4, .int y4)]) rfl (by first | rfl | decide) (by decide) rfl (dk_X7_odds 73 _ rfl) ?_
      refine F_goto (tgt := 44) (by decide) (dk_X7_odds 76 _ rfl) ?_
      exact F_loc (List.forall_mem_cons.mpr ⟨(.tail _ (.tail _ (.head _))), (List.forall_mem_cons.mpr ⟨(.tail _ (.tail _ (.tail _ (.head _)))), (List.forall_mem_cons.mpr ⟨(.tail _ (.tail _ (.tail _ (.tail _ (.head _))))), (List.forall_mem_cons.mpr ⟨(.tail _ (.tail _ (.tail _ (.tail _ (.tail _ (.head _)))))), (List.forall_mem_cons.mpr ⟨(.tail _ (.head _)), (List.forall_mem_cons.mpr ⟨(.head _), (fun _ z => absurd z List.not_mem_nil)⟩)⟩)⟩)⟩)⟩)⟩) (hK44 _ _ _ _ _ _ )
theorem j_X7_odds_44   : ∀ (F : Nat) (m : mM) (y1 : Int32) (y3 : Int32) (y4 : Int32) (y5 : Int32) (y6 : Int32) , JF false uL m_X7_odds 12 44 [(0, .ref 0), (1, .int y1), (3, .int y3), (4, .int y4), (5, .int y5), (6, .int y6)] [] m (f_X7_odds_44  F m y1 y3 y4 y5 y6) := by
  intro F
  induction F with
  | zero => intro m y1 y3 y4 y5 y6 ; exact F_no
  | succ F ih => intro m y1 y3 y4 y5 y6 ; exact jb_X7_odds_44  (f_X7_odds_44  F)  ih m y1 y3 y4 y5 y6 
def f_X7_odds (m : mM) (p1 : Int32) (p2 : Int32) (p3 : Int32) : fR Int64 :=
  bnd (f_X7_isPerson m p1) fun (x1 : Int32) (m2 : mM) => (if x1 = 0 then some ((-9223372036854775808), m2) else bnd (f_X7_isDay m2 p2) fun (x4 : Int32) (m5 : mM) => (if x4 = 0 then some ((-9223372036854775808), m5) else bnd (f_X7_in m5 p3 0 1) fun (x7 : Int32) (m8 : mM) => (if x7 = 0 then some ((-9223372036854775808), m8) else bnd (f_X7_yearIf m8 p1 p2) fun (x10 : Int32) (m11 : mM) => (f_X7_odds_44  1000 m11 p1 p3 x10 0 0))))
theorem c_X7_odds (m : mM) (p1 : Int32) (p2 : Int32) (p3 : Int32)  : cF false uL m_X7_odds 12 [.ref 0, .int p1, .int p2, .int p3] m (f_X7_odds m p1 p2 p3) := by
  refine cF_of ok_X7_odds (fun _ _ => Nat.le_of_ble_eq_true rfl) ?_
  unfold f_X7_odds
  show JF _ _ _ _ _ [(0, .ref 0), (1, .int p1), (2, .int p2), (3, .int p3)] _ _ _
  refine F_aload_n (i := 0) (a := 0) rfl rfl (dk_X7_odds 0 _ rfl) ?_
  refine F_iload_n (i := 1) (a := 1) rfl rfl (dk_X7_odds 1 _ rfl) ?_
  refine F_callV (ι' := uI) (ci := 7) (b := 0) (As := [.int p1]) (d' := 3) (rfl) ok_X7_isPerson vi_X7_isPerson cl_7_206 (n := 1) (by decide +kernel) rfl rfl rfl (Nat.le_of_ble_eq_true rfl) (by omega) (dk_X7_odds 2 _ rfl) (c_X7_isPerson _ _ ) (fun x1 m2 => ?_)
  show JF _ _ _ _ _ _ [.int x1] _ _
  refine F_if_eq (tgt := 26) (by decide) (dk_X7_odds 5 _ rfl) ?_ ?_
  · refine F_ldc2 (v := (-9223372036854775808)) ctl_7_345 (dk_X7_odds 26 _ rfl) ?_
    exact F_retL rfl (dk_X7_odds 29 _ rfl)
  · refine F_aload_n (i := 0) (a := 0) rfl rfl (dk_X7_odds 8 _ rfl) ?_
    refine F_iload_n (i := 2) (a := 2) rfl rfl (dk_X7_odds 9 _ rfl) ?_
    refine F_callV (ι' := uI) (ci := 7) (b := 0) (As := [.int p2]) (d' := 3) (rfl) ok_X7_isDay vi_X7_isDay cl_7_198 (n := 1) (by decide +kernel) rfl rfl rfl (Nat.le_of_ble_eq_true rfl) (by omega) (dk_X7_odds 10 _ rfl) (c_X7_isDay _ _ ) (fun x4 m5 => ?_)
    show JF _ _ _ _ _ _ [.int x4] _ _
    refine F_if_eq (tgt := 26) (by decide) (dk_X7_odds 13 _ rfl) ?_ ?_
    · refine F_ldc2 (v := (-9223372036854775808)) ctl_7_345 (dk_X7_odds 26 _ rfl) ?_
      exact F_retL rfl (dk_X7_odds 29 _ rfl)
    · refine F_aload_n (i := 0) (a := 0) rfl rfl (dk_X7_odds 16 _ rfl) ?_
      refine F_iload_n (i := 3) (a := 3) rfl rfl (dk_X7_odds 17 _ rfl) ?_
      refine F_iconst (v := 0) (by decide) (dk_X7_odds 18 _ rfl) ?_
      refine F_iconst (v := 1) (by decide) (dk_X7_odds 19 _ rfl) ?_
      refine F_callV (ι' := uI) (ci := 7) (b := 0) (As := [.int p3, .int 0, .int 1]) (d' := 2) (rfl) ok_X7_in vi_X7_in cl_7_194 (n := 3) (by decide +kernel) rfl rfl rfl (Nat.le_of_ble_eq_true rfl) (by omega) (dk_X7_odds 20 _ rfl) (c_X7_in _ _ _ _ ) (fun x7 m8 => ?_)
      show JF _ _ _ _ _ _ [.int x7] _ _
      refine F_if_ne (tgt := 30) (by decide) (dk_X7_odds 23 _ rfl) ?_ ?_
      · refine F_aload_n (i := 0) (a := 0) rfl rfl (dk_X7_odds 30 _ rfl) ?_
        refine F_iload_n (i := 1) (a := 1) rfl rfl (dk_X7_odds 31 _ rfl) ?_
        refine F_iload_n (i := 2) (a := 2) rfl rfl (dk_X7_odds 32 _ rfl) ?_
        refine F_callV (ι' := uI) (ci := 7) (b := 0) (As := [.int p1, .int p2]) (d' := 11) (rfl) ok_X7_yearIf vi_X7_yearIf cl_7_347 (n := 2) (by decide +kernel) rfl rfl rfl (Nat.le_of_ble_eq_true rfl) (by omega) (dk_X7_odds 33 _ rfl) (c_X7_yearIf _ _ _ ) (fun x10 m11 => ?_)
        show JF _ _ _ _ _ _ [.int x10] _ _
        refine F_istore (lv' := [(4, .int x10), (0, .ref 0), (1, .int p1), (2, .int p2), (3, .int p3)]) (i := 4) (by decide) rfl (dk_X7_odds 36 _ rfl) ?_
        refine F_iconst (v := 0) (by decide) (dk_X7_odds 38 _ rfl) ?_
        refine F_istore (lv' := [(5, .int 0), (4, .int x10), (0, .ref 0), (1, .int p1), (2, .int p2), (3, .int p3)]) (i := 5) (by decide) rfl (dk_X7_odds 39 _ rfl) ?_
        refine F_iconst (v := 0) (by decide) (dk_X7_odds 41 _ rfl) ?_
        refine F_istore (lv' := [(6, .int 0), (5, .int 0), (4, .int x10), (0, .ref 0), (1, .int p1), (2, .int p2), (3, .int p3)]) (i := 6) (by decide) rfl (dk_X7_odds 42 _ rfl) ?_
        exact F_loc (List.forall_mem_cons.mpr ⟨(.tail _ (.tail _ (.tail _ (.head _)))), (List.forall_mem_cons.mpr ⟨(.tail _ (.tail _ (.tail _ (.tail _ (.head _))))), (List.forall_mem_cons.mpr ⟨(.tail _ (.tail _ (.tail _ (.tail _ (.tail _ (.tail _ (.head _))))))), (List.forall_mem_cons.mpr ⟨(.tail _ (.tail _ (.head _))), (List.forall_mem_cons.mpr ⟨(.tail _ (.head _)), (List.forall_mem_cons.mpr ⟨(.head _), (fun _ z => absurd z List.not_mem_nil)⟩)⟩)⟩)⟩)⟩)⟩) (j_X7_odds_44   1000 _ _ _ _ _ _ )
      · refine F_ldc2 (v := (-9223372036854775808)) ctl_7_345 (dk_X7_odds 26 _ rfl) ?_
        exact F_retL rfl (dk_X7_odds 29 _ rfl)
def fb_X7_mean_18 (K18 : mM → Int32 → Int32 → Int32 → fR Int64) (m : mM) (y1 : Int32) (y2 : Int32) (y3 : Int32) : fR Int64 :=
  (if (mI m 0) ≤ y3 then (if y2 = 0 then some ((-9223372036854775808), m) else bnd (f_X7_allMore m ) fun (x4 : Int32) (m5 : mM) => bnd (f_X7_lowest m5 x4 y2 y1) fun (x7 : Int64) (m8 : mM) => some (x7, m8)) else (gA (mA m 7) y3).bind fun x10 => (if x10 = 0 then nmI (y2 + 0) fun v11 => (K18 m y1 v11 (y3 + 1)) else nmI (y2 + 1) fun v12 => (K18 m y1 v12 (y3 + 1))))
def f_X7_mean_18  : Nat → mM → Int32 → Int32 → Int32 → fR Int64
  | 0, _, _, _, _ => none
  | F + 1, m, y1, y2, y3 => fb_X7_mean_18  (f_X7_mean_18  F) m y1 y2 y3
theorem jb_X7_mean_18 (K18 : mM → Int32 → Int32 → Int32 → fR Int64) (hK18 : ∀ (m : mM) (y1 : Int32) (y2 : Int32) (y3 : Int32) , JF false uL m_X7_mean 11 18 [(0, .ref 0), (1, .int y1), (2, .int y2), (3, .int y3)] [] m (K18 m y1 y2 y3)) (m : mM) (y1 : Int32) (y2 : Int32) (y3 : Int32)  : JF false uL m_X7_mean 11 18 [(0, .ref 0), (1, .int y1), (2, .int y2), (3, .int y3)] [] m (fb_X7_mean_18 K18 m y1 y2 y3) := by
  unfold fb_X7_mean_18
  refine F_iload_n (i := 3) (a := 3) rfl rfl (dk_X7_mean 18 _ rfl) ?_
  refine F_aload_n (i := 0) (a := 0) rfl rfl (dk_X7_mean 19 _ rfl) ?_
  refine F_gI (n := 0) fxM_7_0_0 rfl fl_7_7 (dk_X7_mean 20 _ rfl) ?_
  refine F_icmp_ge (tgt := 49) (by decide) (dk_X7_mean 23 _ rfl) ?_ ?_
  · refine F_iload_n (i := 2) (a := 2) rfl rfl (dk_X7_mean 49 _ rfl) ?_
    refine F_if_ne (tgt := 59) (by decide) (dk_X7_mean 50 _ rfl) ?_ ?_
    · refine F_aload_n (i := 0) (a := 0) rfl rfl (dk_X7_mean 59 _ rfl) ?_
      refine F_aload_n (i := 0) (a := 0) rfl rfl (dk_X7_mean 60 _ rfl) ?_
      refine F_callV (ι' := uI) (ci := 7) (b := 0) (As := []) (d' := 10) (rfl) ok_X7_allMore vi_X7_allMore cl_7_336 (n := 0) (by decide +kernel) rfl rfl rfl (Nat.le_of_ble_eq_true rfl) (by omega) (dk_X7_mean 61 _ rfl) (c_X7_allMore _  ) (fun x4 m5 => ?_)
      show JF _ _ _ _ _ _ [.int x4, .ref 0] _ _
      refine F_iload_n (i := 2) (a := 2) rfl rfl (dk_X7_mean 64 _ rfl) ?_
      refine F_iload_n (i := 1) (a := 1) rfl rfl (dk_X7_mean 65 _ rfl) ?_
      refine F_callV (ι' := uL) (ci := 7) (b := 0) (As := [.int x4, .int y2, .int y1]) (d' := 3) (rfl) ok_X7_lowest vi_X7_lowest cl_7_350 (n := 3) (by decide +kernel) rfl rfl rfl (Nat.le_of_ble_eq_true rfl) (by omega) (dk_X7_mean 66 _ rfl) (c_X7_lowest _ _ _ _ ) (fun x7 m8 => ?_)
      show JF _ _ _ _ _ _ [.long x7] _ _
      exact F_retL rfl (dk_X7_mean 69 _ rfl)
    · refine F_ldc2 (v := (-9223372036854775808)) ctl_7_345 (dk_X7_mean 53 _ rfl) ?_
      refine F_goto (tgt := 69) (by decide) (dk_X7_mean 56 _ rfl) ?_
      exact F_retL rfl (dk_X7_mean 69 _ rfl)
  · refine F_iload_n (i := 2) (a := 2) rfl rfl (dk_X7_mean 26 _ rfl) ?_
    refine F_aload_n (i := 0) (a := 0) rfl rfl (dk_X7_mean 27 _ rfl) ?_
    refine F_gR (b := 7) fxM_7_9_0 fl_7_38 (dk_X7_mean 28 _ rfl) ?_
    refine F_iload_n (i := 3) (a := 3) rfl rfl (dk_X7_mean 31 _ rfl) ?_
    refine F_zald (axM_3_7) (dk_X7_mean 32 _ rfl) (fun x10 => ?_)
    refine F_if_eq (tgt := 40) (by decide) (dk_X7_mean 33 _ rfl) ?_ ?_
    · refine F_iconst (v := 0) (by decide) (dk_X7_mean 40 _ rfl) ?_
      refine F_iadd (dk_X7_mean 41 _ rfl) ?_
      refine F_nm (fun v11 => ?_)
      refine F_istore_n (lv' := [(2, .int v11), (0, .ref 0), (1, .int y1), (3, .int y3)]) (i := 2) (a := 2) rfl (by decide) rfl (dk_X7_mean 42 _ rfl) ?_
      refine F_iinc (i := 3) (n := 1) (v := (y3 + 1)) (lv' := [(3, .int (y3 + 1)), (2, .int v11), (0, .ref 0), (1, .int y1)]) rfl (by first | rfl | decide) (by decide) rfl (dk_X7_mean 43 _ rfl) ?_
      refine F_goto (tgt := 18) (by decide) (dk_X7_mean 46 _ rfl) ?_
      exact F_loc (List.forall_mem_cons.mpr ⟨(.tail _ (.tail _ (.head _))), (List.forall_mem_cons.mpr ⟨(.tail _ (.tail _ (.tail _ (.head _)))), (List.forall_mem_cons.mpr ⟨(.tail _ (.head _)), (List.forall_mem_cons.mpr ⟨(.head _), (fun _ z => absurd z List.not_mem_nil)⟩)⟩)⟩)⟩) (hK18 _ _ _ _ )
    · refine F_iconst (v := 1) (by decide) (dk_X7_mean 36 _ rfl) ?_
      refine F_goto (tgt := 41) (by decide) (dk_X7_mean 37 _ rfl) ?_
      refine F_iadd (dk_X7_mean 41 _ rfl) ?_
      refine F_nm (fun v12 => ?_)
      refine F_istore_n (lv' := [(2, .int v12), (0, .ref 0), (1, .int y1), (3, .int y3)]) (i := 2) (a := 2) rfl (by decide) rfl (dk_X7_mean 42 _ rfl) ?_
      refine F_iinc (i := 3) (n := 1) (v := (y3 + 1)) (lv' := [(3, .int (y3 + 1)), (2, .int v12), (0, .ref 0), (1, .int y1)]) rfl (by first | rfl | decide) (by decide) rfl (dk_X7_mean 43 _ rfl) ?_
      refine F_goto (tgt := 18) (by decide) (dk_X7_mean 46 _ rfl) ?_
      exact F_loc (List.forall_mem_cons.mpr ⟨(.tail _ (.tail _ (.head _))), (List.forall_mem_cons.mpr ⟨(.tail _ (.tail _ (.tail _ (.head _)))), (List.forall_mem_cons.mpr ⟨(.tail _ (.head _)), (List.forall_mem_cons.mpr ⟨(.head _), (fun _ z => absurd z List.not_mem_nil)⟩)⟩)⟩)⟩) (hK18 _ _ _ _ )
theorem j_X7_mean_18   : ∀ (F : Nat) (m : mM) (y1 : Int32) (y2 : Int32) (y3 : Int32) , JF false uL m_X7_mean 11 18 [(0, .ref 0), (1, .int y1), (2, .int y2), (3, .int y3)] [] m (f_X7_mean_18  F m y1 y2 y3) := by
  intro F
  induction F with
  | zero => intro m y1 y2 y3 ; exact F_no
  | succ F ih => intro m y1 y2 y3 ; exact jb_X7_mean_18  (f_X7_mean_18  F)  ih m y1 y2 y3 
def f_X7_mean (m : mM) (p1 : Int32) : fR Int64 :=
  bnd (f_X7_in m p1 0 1) fun (x1 : Int32) (m2 : mM) => (if x1 = 0 then some ((-9223372036854775808), m2) else (f_X7_mean_18  1000 m2 p1 0 0))
theorem c_X7_mean (m : mM) (p1 : Int32)  : cF false uL m_X7_mean 11 [.ref 0, .int p1] m (f_X7_mean m p1) := by
  refine cF_of ok_X7_mean (fun _ _ => Nat.le_of_ble_eq_true rfl) ?_
  unfold f_X7_mean
  show JF _ _ _ _ _ [(0, .ref 0), (1, .int p1)] _ _ _
  refine F_aload_n (i := 0) (a := 0) rfl rfl (dk_X7_mean 0 _ rfl) ?_
  refine F_iload_n (i := 1) (a := 1) rfl rfl (dk_X7_mean 1 _ rfl) ?_
  refine F_iconst (v := 0) (by decide) (dk_X7_mean 2 _ rfl) ?_
  refine F_iconst (v := 1) (by decide) (dk_X7_mean 3 _ rfl) ?_
  refine F_callV (ι' := uI) (ci := 7) (b := 0) (As := [.int p1, .int 0, .int 1]) (d' := 2) (rfl) ok_X7_in vi_X7_in cl_7_194 (n := 3) (by decide +kernel) rfl rfl rfl (Nat.le_of_ble_eq_true rfl) (by omega) (dk_X7_mean 4 _ rfl) (c_X7_in _ _ _ _ ) (fun x1 m2 => ?_)
  show JF _ _ _ _ _ _ [.int x1] _ _
  refine F_if_ne (tgt := 14) (by decide) (dk_X7_mean 7 _ rfl) ?_ ?_
  · refine F_iconst (v := 0) (by decide) (dk_X7_mean 14 _ rfl) ?_
    refine F_istore_n (lv' := [(2, .int 0), (0, .ref 0), (1, .int p1)]) (i := 2) (a := 2) rfl (by decide) rfl (dk_X7_mean 15 _ rfl) ?_
    refine F_iconst (v := 0) (by decide) (dk_X7_mean 16 _ rfl) ?_
    refine F_istore_n (lv' := [(3, .int 0), (2, .int 0), (0, .ref 0), (1, .int p1)]) (i := 3) (a := 3) rfl (by decide) rfl (dk_X7_mean 17 _ rfl) ?_
    exact F_loc (List.forall_mem_cons.mpr ⟨(.tail _ (.tail _ (.head _))), (List.forall_mem_cons.mpr ⟨(.tail _ (.tail _ (.tail _ (.head _)))), (List.forall_mem_cons.mpr ⟨(.tail _ (.head _)), (List.forall_mem_cons.mpr ⟨(.head _), (fun _ z => absurd z List.not_mem_nil)⟩)⟩)⟩)⟩) (j_X7_mean_18   1000 _ _ _ _ )
  · refine F_ldc2 (v := (-9223372036854775808)) ctl_7_345 (dk_X7_mean 10 _ rfl) ?_
    exact F_retL rfl (dk_X7_mean 13 _ rfl)
def f_X7_book (m : mM) (p1 : Int32) : fR Int32 :=
  (if p1 = (-10000) then nmM (wI m 38 0) fun m6 => some (0, m6) else bnd (f_X7_in m p1 (-9999) 9999) fun (x1 : Int32) (m2 : mM) => (if x1 = 0 then some ((-2), m2) else (if (mI m2 38) = 12 then some ((-4), m2) else (sA 0 m2 23 (mI m2 38) p1).bind fun m4 => nmM (wI m4 38 (((mI m4 38) + 1))) fun m5 => some ((mI m5 38), m5))))
theorem c_X7_book (m : mM) (p1 : Int32)  : cF false uI m_X7_book 3 [.ref 0, .int p1] m (f_X7_book m p1) := by
  refine cF_of ok_X7_book (fun _ _ => Nat.le_of_ble_eq_true rfl) ?_
  unfold f_X7_book
  show JF _ _ _ _ _ [(0, .ref 0), (1, .int p1)] _ _ _
  refine F_iload_n (i := 1) (a := 1) rfl rfl (dk_X7_book 0 _ rfl) ?_
  refine F_sipush (v := (-10000)) (by decide) (dk_X7_book 1 _ rfl) ?_
  refine F_icmp_ne (tgt := 14) (by decide) (dk_X7_book 4 _ rfl) ?_ ?_
  · refine F_aload_n (i := 0) (a := 0) rfl rfl (dk_X7_book 14 _ rfl) ?_
    refine F_iload_n (i := 1) (a := 1) rfl rfl (dk_X7_book 15 _ rfl) ?_
    refine F_sipush (v := (-9999)) (by decide) (dk_X7_book 16 _ rfl) ?_
    refine F_sipush (v := 9999) (by decide) (dk_X7_book 19 _ rfl) ?_
    refine F_callV (ι' := uI) (ci := 7) (b := 0) (As := [.int p1, .int (-9999), .int 9999]) (d' := 2) (rfl) ok_X7_in vi_X7_in cl_7_194 (n := 3) (by decide +kernel) rfl rfl rfl (Nat.le_of_ble_eq_true rfl) (by omega) (dk_X7_book 22 _ rfl) (c_X7_in _ _ _ _ ) (fun x1 m2 => ?_)
    show JF _ _ _ _ _ _ [.int x1] _ _
    refine F_if_ne (tgt := 31) (by decide) (dk_X7_book 25 _ rfl) ?_ ?_
    · refine F_aload_n (i := 0) (a := 0) rfl rfl (dk_X7_book 31 _ rfl) ?_
      refine F_gI (n := 38) fxM_7_38_0 rfl fl_7_126 (dk_X7_book 32 _ rfl) ?_
      refine F_bipush (v := 12) (by decide) (dk_X7_book 35 _ rfl) ?_
      refine F_icmp_ne (tgt := 43) (by decide) (dk_X7_book 37 _ rfl) ?_ ?_
      · refine F_aload_n (i := 0) (a := 0) rfl rfl (dk_X7_book 43 _ rfl) ?_
        refine F_gR (b := 23) fxM_7_39_0 fl_7_129 (dk_X7_book 44 _ rfl) ?_
        refine F_aload_n (i := 0) (a := 0) rfl rfl (dk_X7_book 47 _ rfl) ?_
        refine F_gI (n := 38) fxM_7_38_0 rfl fl_7_126 (dk_X7_book 48 _ rfl) ?_
        refine F_iload_n (i := 1) (a := 1) rfl rfl (dk_X7_book 51 _ rfl) ?_
        refine F_iast (axM_0_23) (dk_X7_book 52 _ rfl) (fun m4 => ?_)
        refine F_aload_n (i := 0) (a := 0) rfl rfl (dk_X7_book 53 _ rfl) ?_
        refine F_dup rfl (dk_X7_book 54 _ rfl) ?_
        refine F_gI (n := 38) fxM_7_38_0 rfl fl_7_126 (dk_X7_book 55 _ rfl) ?_
        refine F_iconst (v := 1) (by decide) (dk_X7_book 58 _ rfl) ?_
        refine F_iadd (dk_X7_book 59 _ rfl) ?_
        refine F_pI (n := 38) fxM_7_38_0 rfl fl_7_126 (fun q hq => by cases hq; rfl) trivial (dk_X7_book 60 _ rfl) (fun m5 => ?_)
        refine F_aload_n (i := 0) (a := 0) rfl rfl (dk_X7_book 63 _ rfl) ?_
        refine F_gI (n := 38) fxM_7_38_0 rfl fl_7_126 (dk_X7_book 64 _ rfl) ?_
        exact F_ret rfl (dk_X7_book 67 _ rfl)
      · refine F_bipush (v := (-4)) (by decide) (dk_X7_book 40 _ rfl) ?_
        exact F_ret rfl (dk_X7_book 42 _ rfl)
    · refine F_bipush (v := (-2)) (by decide) (dk_X7_book 28 _ rfl) ?_
      exact F_ret rfl (dk_X7_book 30 _ rfl)
  · refine F_aload_n (i := 0) (a := 0) rfl rfl (dk_X7_book 7 _ rfl) ?_
    refine F_iconst (v := 0) (by decide) (dk_X7_book 8 _ rfl) ?_
    refine F_pI (n := 38) fxM_7_38_0 rfl fl_7_126 (fun q hq => by cases hq; rfl) trivial (dk_X7_book 9 _ rfl) (fun m6 => ?_)
    refine F_iconst (v := 0) (by decide) (dk_X7_book 12 _ rfl) ?_
    exact F_ret rfl (dk_X7_book 13 _ rfl)
def f_X7_looked_87  (m : mM) (y2 : Int32) : fR Int32 :=
  bnd (f_X7_putBack m ) fun (x7 : Unit) (m8 : mM) => some (y2, m8)
theorem j_X7_looked_87   (m : mM) (y2 : Int32)  : JF false uI m_X7_looked 9 87 [(0, .ref 0), (2, .int y2)] [] m (f_X7_looked_87  m y2) := by
  unfold f_X7_looked_87
  refine F_aload_n (i := 0) (a := 0) rfl rfl (dk_X7_looked 87 _ rfl) ?_
  refine F_callV (ι' := uU) (ci := 7) (b := 0) (As := []) (d' := 2) (rfl) ok_X7_putBack vi_X7_putBack cl_7_317 (n := 0) (by decide +kernel) rfl rfl rfl (Nat.le_of_ble_eq_true rfl) (by omega) (dk_X7_looked 88 _ rfl) (c_X7_putBack _  ) (fun x7 m8 => ?_)
  show JF _ _ _ _ _ _ [] _ _
  refine F_iload_n (i := 2) (a := 2) rfl rfl (dk_X7_looked 91 _ rfl) ?_
  exact F_ret rfl (dk_X7_looked 92 _ rfl)
def fb_X7_looked_33 (K33 : mM → Int32 → Int32 → Int32 → fR Int32) (m : mM) (y1 : Int32) (y2 : Int32) (y3 : Int32) : fR Int32 :=
  (if (mI m 38) ≤ y3 then (f_X7_looked_87  m y2) else (if 0 ≤ y2 then (f_X7_looked_87  m y2) else bnd (f_X7_goDay m ) fun (x10 : Int32) (m11 : mM) => (gA (mA m11 5) 0).bind fun x13 => (gA (mA m11 23) y3).bind fun x14 => bnd (f_X7_in m11 (x13 - x14) (-y1) y1) fun (x15 : Int32) (m16 : mM) => (if x15 = 0 then (K33 m16 y1 y3 (y3 + 1)) else (K33 m16 y1 (-5) (y3 + 1)))))
def f_X7_looked_33  : Nat → mM → Int32 → Int32 → Int32 → fR Int32
  | 0, _, _, _, _ => none
  | F + 1, m, y1, y2, y3 => fb_X7_looked_33  (f_X7_looked_33  F) m y1 y2 y3
theorem jb_X7_looked_33 (K33 : mM → Int32 → Int32 → Int32 → fR Int32) (hK33 : ∀ (m : mM) (y1 : Int32) (y2 : Int32) (y3 : Int32) , JF false uI m_X7_looked 9 33 [(0, .ref 0), (1, .int y1), (2, .int y2), (3, .int y3)] [] m (K33 m y1 y2 y3)) (m : mM) (y1 : Int32) (y2 : Int32) (y3 : Int32)  : JF false uI m_X7_looked 9 33 [(0, .ref 0), (1, .int y1), (2, .int y2), (3, .int y3)] [] m (fb_X7_looked_33 K33 m y1 y2 y3) := by
  unfold fb_X7_looked_33
  refine F_iload_n (i := 3) (a := 3) rfl rfl (dk_X7_looked 33 _ rfl) ?_
  refine F_aload_n (i := 0) (a := 0) rfl rfl (dk_X7_looked 34 _ rfl) ?_
  refine F_gI (n := 38) fxM_7_38_0 rfl fl_7_126 (dk_X7_looked 35 _ rfl) ?_
  refine F_icmp_ge (tgt := 87) (by decide) (dk_X7_looked 38 _ rfl) ?_ ?_
  · exact F_loc (List.forall_mem_cons.mpr ⟨(.head _), (List.forall_mem_cons.mpr ⟨(.tail _ (.tail _ (.head _))), (fun _ z => absurd z List.not_mem_nil)⟩)⟩) (j_X7_looked_87   _ _ )
  · refine F_iload_n (i := 2) (a := 2) rfl rfl (dk_X7_looked 41 _ rfl) ?_
    refine F_if_ge (tgt := 87) (by decide) (dk_X7_looked 42 _ rfl) ?_ ?_
    · exact F_loc (List.forall_mem_cons.mpr ⟨(.head _), (List.forall_mem_cons.mpr ⟨(.tail _ (.tail _ (.head _))), (fun _ z => absurd z List.not_mem_nil)⟩)⟩) (j_X7_looked_87   _ _ )
    · refine F_aload_n (i := 0) (a := 0) rfl rfl (dk_X7_looked 45 _ rfl) ?_
      refine F_callV (ι' := uI) (ci := 7) (b := 0) (As := []) (d' := 8) (rfl) ok_X7_goDay vi_X7_goDay cl_7_310 (n := 0) (by decide +kernel) rfl rfl rfl (Nat.le_of_ble_eq_true rfl) (by omega) (dk_X7_looked 46 _ rfl) (c_X7_goDay _  ) (fun x10 m11 => ?_)
      show JF _ _ _ _ _ _ [.int x10] _ _
      refine F_istore (lv' := [(4, .int x10), (0, .ref 0), (1, .int y1), (2, .int y2), (3, .int y3)]) (i := 4) (by decide) rfl (dk_X7_looked 49 _ rfl) ?_
      refine F_aload_n (i := 0) (a := 0) rfl rfl (dk_X7_looked 51 _ rfl) ?_
      refine F_aload_n (i := 0) (a := 0) rfl rfl (dk_X7_looked 52 _ rfl) ?_
      refine F_gR (b := 5) fxM_7_7_0 fl_7_32 (dk_X7_looked 53 _ rfl) ?_
      refine F_iconst (v := 0) (by decide) (dk_X7_looked 56 _ rfl) ?_
      refine F_iald (axM_0_5) (dk_X7_looked 57 _ rfl) (fun x13 => ?_)
      refine F_aload_n (i := 0) (a := 0) rfl rfl (dk_X7_looked 58 _ rfl) ?_
      refine F_gR (b := 23) fxM_7_39_0 fl_7_129 (dk_X7_looked 59 _ rfl) ?_
      refine F_iload_n (i := 3) (a := 3) rfl rfl (dk_X7_looked 62 _ rfl) ?_
      refine F_iald (axM_0_23) (dk_X7_looked 63 _ rfl) (fun x14 => ?_)
      refine F_isub (dk_X7_looked 64 _ rfl) ?_
      refine F_iload_n (i := 1) (a := 1) rfl rfl (dk_X7_looked 65 _ rfl) ?_
      refine F_ineg (dk_X7_looked 66 _ rfl) ?_
      refine F_iload_n (i := 1) (a := 1) rfl rfl (dk_X7_looked 67 _ rfl) ?_
      refine F_callV (ι' := uI) (ci := 7) (b := 0) (As := [.int (x13 - x14), .int (-y1), .int y1]) (d' := 2) (rfl) ok_X7_in vi_X7_in cl_7_194 (n := 3) (by decide +kernel) rfl rfl rfl (Nat.le_of_ble_eq_true rfl) (by omega) (dk_X7_looked 68 _ rfl) (c_X7_in _ _ _ _ ) (fun x15 m16 => ?_)
      show JF _ _ _ _ _ _ [.int x15] _ _
      refine F_if_eq (tgt := 79) (by decide) (dk_X7_looked 71 _ rfl) ?_ ?_
      · refine F_iload_n (i := 3) (a := 3) rfl rfl (dk_X7_looked 79 _ rfl) ?_
        refine F_istore_n (lv' := [(2, .int y3), (4, .int x10), (0, .ref 0), (1, .int y1), (3, .int y3)]) (i := 2) (a := 2) rfl (by decide) rfl (dk_X7_looked 80 _ rfl) ?_
        refine F_iinc (i := 3) (n := 1) (v := (y3 + 1)) (lv' := [(3, .int (y3 + 1)), (2, .int y3), (4, .int x10), (0, .ref 0), (1, .int y1)]) rfl (by first | rfl | decide) (by decide) rfl (dk_X7_looked 81 _ rfl) ?_
        refine F_goto (tgt := 33) (by decide) (dk_X7_looked 84 _ rfl) ?_
        exact F_loc (List.forall_mem_cons.mpr ⟨(.tail _ (.tail _ (.tail _ (.head _)))), (List.forall_mem_cons.mpr ⟨(.tail _ (.tail _ (.tail _ (.tail _ (.head _))))), (List.forall_mem_cons.mpr ⟨(.tail _ (.head _)), (List.forall_mem_cons.mpr ⟨(.head _), (fun _ z => absurd z List.not_mem_nil)⟩)⟩)⟩)⟩) (hK33 _ _ _ _ )
      · refine F_bipush (v := (-5)) (by decide) (dk_X7_looked 74 _ rfl) ?_
        refine F_goto (tgt := 80) (by decide) (dk_X7_looked 76 _ rfl) ?_
        refine F_istore_n (lv' := [(2, .int (-5)), (4, .int x10), (0, .ref 0), (1, .int y1), (3, .int y3)]) (i := 2) (a := 2) rfl (by decide) rfl (dk_X7_looked 80 _ rfl) ?_
        refine F_iinc (i := 3) (n := 1) (v := (y3 + 1)) (lv' := [(3, .int (y3 + 1)), (2, .int (-5)), (4, .int x10), (0, .ref 0), (1, .int y1)]) rfl (by first | rfl | decide) (by decide) rfl (dk_X7_looked 81 _ rfl) ?_
        refine F_goto (tgt := 33) (by decide) (dk_X7_looked 84 _ rfl) ?_
        exact F_loc (List.forall_mem_cons.mpr ⟨(.tail _ (.tail _ (.tail _ (.head _)))), (List.forall_mem_cons.mpr ⟨(.tail _ (.tail _ (.tail _ (.tail _ (.head _))))), (List.forall_mem_cons.mpr ⟨(.tail _ (.head _)), (List.forall_mem_cons.mpr ⟨(.head _), (fun _ z => absurd z List.not_mem_nil)⟩)⟩)⟩)⟩) (hK33 _ _ _ _ )
theorem j_X7_looked_33   : ∀ (F : Nat) (m : mM) (y1 : Int32) (y2 : Int32) (y3 : Int32) , JF false uI m_X7_looked 9 33 [(0, .ref 0), (1, .int y1), (2, .int y2), (3, .int y3)] [] m (f_X7_looked_33  F m y1 y2 y3) := by
  intro F
  induction F with
  | zero => intro m y1 y2 y3 ; exact F_no
  | succ F ih => intro m y1 y2 y3 ; exact jb_X7_looked_33  (f_X7_looked_33  F)  ih m y1 y2 y3 
def f_X7_looked (m : mM) (p1 : Int32) : fR Int32 :=
  bnd (f_X7_in m p1 0 99) fun (x1 : Int32) (m2 : mM) => (if x1 = 0 then some ((-2), m2) else (if (mI m2 0) = 0 then some ((-3), m2) else bnd (f_X7_keep m2 ) fun (x4 : Unit) (m5 : mM) => (f_X7_looked_33  1000 m5 p1 (-5) 0)))
theorem c_X7_looked (m : mM) (p1 : Int32)  : cF false uI m_X7_looked 9 [.ref 0, .int p1] m (f_X7_looked m p1) := by
  refine cF_of ok_X7_looked (fun _ _ => Nat.le_of_ble_eq_true rfl) ?_
  unfold f_X7_looked
  show JF _ _ _ _ _ [(0, .ref 0), (1, .int p1)] _ _ _
  refine F_aload_n (i := 0) (a := 0) rfl rfl (dk_X7_looked 0 _ rfl) ?_
  refine F_iload_n (i := 1) (a := 1) rfl rfl (dk_X7_looked 1 _ rfl) ?_
  refine F_iconst (v := 0) (by decide) (dk_X7_looked 2 _ rfl) ?_
  refine F_bipush (v := 99) (by decide) (dk_X7_looked 3 _ rfl) ?_
  refine F_callV (ι' := uI) (ci := 7) (b := 0) (As := [.int p1, .int 0, .int 99]) (d' := 2) (rfl) ok_X7_in vi_X7_in cl_7_194 (n := 3) (by decide +kernel) rfl rfl rfl (Nat.le_of_ble_eq_true rfl) (by omega) (dk_X7_looked 5 _ rfl) (c_X7_in _ _ _ _ ) (fun x1 m2 => ?_)
  show JF _ _ _ _ _ _ [.int x1] _ _
  refine F_if_ne (tgt := 14) (by decide) (dk_X7_looked 8 _ rfl) ?_ ?_
  · refine F_aload_n (i := 0) (a := 0) rfl rfl (dk_X7_looked 14 _ rfl) ?_
    refine F_gI (n := 0) fxM_7_0_0 rfl fl_7_7 (dk_X7_looked 15 _ rfl) ?_
    refine F_if_ne (tgt := 24) (by decide) (dk_X7_looked 18 _ rfl) ?_ ?_
    · refine F_aload_n (i := 0) (a := 0) rfl rfl (dk_X7_looked 24 _ rfl) ?_
      refine F_callV (ι' := uU) (ci := 7) (b := 0) (As := []) (d' := 2) (rfl) ok_X7_keep vi_X7_keep cl_7_314 (n := 0) (by decide +kernel) rfl rfl rfl (Nat.le_of_ble_eq_true rfl) (by omega) (dk_X7_looked 25 _ rfl) (c_X7_keep _  ) (fun x4 m5 => ?_)
      show JF _ _ _ _ _ _ [] _ _
      refine F_bipush (v := (-5)) (by decide) (dk_X7_looked 28 _ rfl) ?_
      refine F_istore_n (lv' := [(2, .int (-5)), (0, .ref 0), (1, .int p1)]) (i := 2) (a := 2) rfl (by decide) rfl (dk_X7_looked 30 _ rfl) ?_
      refine F_iconst (v := 0) (by decide) (dk_X7_looked 31 _ rfl) ?_
      refine F_istore_n (lv' := [(3, .int 0), (2, .int (-5)), (0, .ref 0), (1, .int p1)]) (i := 3) (a := 3) rfl (by decide) rfl (dk_X7_looked 32 _ rfl) ?_
      exact F_loc (List.forall_mem_cons.mpr ⟨(.tail _ (.tail _ (.head _))), (List.forall_mem_cons.mpr ⟨(.tail _ (.tail _ (.tail _ (.head _)))), (List.forall_mem_cons.mpr ⟨(.tail _ (.head _)), (List.forall_mem_cons.mpr ⟨(.head _), (fun _ z => absurd z List.not_mem_nil)⟩)⟩)⟩)⟩) (j_X7_looked_33   1000 _ _ _ _ )
    · refine F_bipush (v := (-3)) (by decide) (dk_X7_looked 21 _ rfl) ?_
      exact F_ret rfl (dk_X7_looked 23 _ rfl)
  · refine F_bipush (v := (-2)) (by decide) (dk_X7_looked 11 _ rfl) ?_
    exact F_ret rfl (dk_X7_looked 13 _ rfl)
end
end
-- 21o.fun.lean.txt
section
section
set_option maxRecDepth 100000
def f_X7_isTape (m : mM) (p1 : Int32) : fR Int32 :=
  bnd (f_X7_in m p1 0 5) fun (x1 : Int32) (m2 : mM) => chZ x1 (some (x1, m2))
theorem c_X7_isTape (m : mM) (p1 : Int32)  : cF false uI m_X7_isTape 3 [.ref 0, .int p1] m (f_X7_isTape m p1) := by
  refine cF_of ok_X7_isTape (fun _ _ => Nat.le_of_ble_eq_true rfl) ?_
  unfold f_X7_isTape
  show JF _ _ _ _ _ [(0, .ref 0), (1, .int p1)] _ _ _
  refine F_aload_n (i := 0) (a := 0) rfl rfl (dk_X7_isTape 0 _ rfl) ?_
  refine F_iload_n (i := 1) (a := 1) rfl rfl (dk_X7_isTape 1 _ rfl) ?_
  refine F_iconst (v := 0) (by decide) (dk_X7_isTape 2 _ rfl) ?_
  refine F_iconst (v := 5) (by decide) (dk_X7_isTape 3 _ rfl) ?_
  refine F_callV (ι' := uI) (ci := 7) (b := 0) (As := [.int p1, .int 0, .int 5]) (d' := 2) (rfl) ok_X7_in vi_X7_in cl_7_194 (n := 3) (by decide +kernel) rfl rfl rfl (Nat.le_of_ble_eq_true rfl) (by omega) (dk_X7_isTape 4 _ rfl) (c_X7_in _ _ _ _ ) (fun x1 m2 => ?_)
  show JF _ _ _ _ _ _ [.int x1] _ _
  exact F_retZ rfl (dk_X7_isTape 7 _ rfl)
def fb_X7_judge_34 (K34 : mM → Int32 → Int32 → Int32 → fR Int32) (m : mM) (y1 : Int32) (y2 : Int32) (y3 : Int32) : fR Int32 :=
  (if (mI m 0) ≤ y3 then some ((-5), m) else (gA (mA m 33) y1).bind fun x5 => (if x5 < 0 then some ((100 + y3), m) else (if y2 < 0 then some ((100 + y3), m) else (gA (mA m 34) y1).bind fun x6 => (if y2 ≤ ((x6 - y3) - 1) then (gL (mL m 35) ((((60 * y1) + y2) + y3))).bind fun x7 => (gA (mA m 5) y3).bind fun x8 => (if (lg_cmp x7 (x8 : Int32).toInt64) = 0 then (K34 m y1 y2 (y3 + 1)) else some (y3, m)) else some ((100 + y3), m)))))
def f_X7_judge_34  : Nat → mM → Int32 → Int32 → Int32 → fR Int32
  | 0, _, _, _, _ => none
  | F + 1, m, y1, y2, y3 => fb_X7_judge_34  (f_X7_judge_34  F) m y1 y2 y3
theorem jb_X7_judge_34 (K34 : mM → Int32 → Int32 → Int32 → fR Int32) (hK34 : ∀ (m : mM) (y1 : Int32) (y2 : Int32) (y3 : Int32) , JF false uI m_X7_judge 4 34 [(0, .ref 0), (1, .int y1), (2, .int y2), (3, .int y3)] [] m (K34 m y1 y2 y3)) (m : mM) (y1 : Int32) (y2 : Int32) (y3 : Int32)  : JF false uI m_X7_judge 4 34 [(0, .ref 0), (1, .int y1), (2, .int y2), (3, .int y3)] [] m (fb_X7_judge_34 K34 m y1 y2 y3) := by
  unfold fb_X7_judge_34
  refine F_iload_n (i := 3) (a := 3) rfl rfl (dk_X7_judge 34 _ rfl) ?_
  refine F_aload_n (i := 0) (a := 0) rfl rfl (dk_X7_judge 35 _ rfl) ?_
  refine F_gI (n := 0) fxM_7_0_0 rfl fl_7_7 (dk_X7_judge 36 _ rfl) ?_
  refine F_icmp_ge (tgt := 106) (by decide) (dk_X7_judge 39 _ rfl) ?_ ?_
  · refine F_bipush (v := (-5)) (by decide) (dk_X7_judge 106 _ rfl) ?_
    exact F_ret rfl (dk_X7_judge 108 _ rfl)
  · refine F_aload_n (i := 0) (a := 0) rfl rfl (dk_X7_judge 42 _ rfl) ?_
    refine F_gR (b := 33) fxM_7_56_0 fl_7_181 (dk_X7_judge 43 _ rfl) ?_
    refine F_iload_n (i := 1) (a := 1) rfl rfl (dk_X7_judge 46 _ rfl) ?_
    refine F_iald (axM_0_33) (dk_X7_judge 47 _ rfl) (fun x5 => ?_)
    refine F_if_lt (tgt := 69) (by decide) (dk_X7_judge 48 _ rfl) ?_ ?_
    · refine F_bipush (v := 100) (by decide) (dk_X7_judge 69 _ rfl) ?_
      refine F_iload_n (i := 3) (a := 3) rfl rfl (dk_X7_judge 71 _ rfl) ?_
      refine F_iadd (dk_X7_judge 72 _ rfl) ?_
      exact F_ret rfl (dk_X7_judge 73 _ rfl)
    · refine F_iload_n (i := 2) (a := 2) rfl rfl (dk_X7_judge 51 _ rfl) ?_
      refine F_if_lt (tgt := 69) (by decide) (dk_X7_judge 52 _ rfl) ?_ ?_
      · refine F_bipush (v := 100) (by decide) (dk_X7_judge 69 _ rfl) ?_
        refine F_iload_n (i := 3) (a := 3) rfl rfl (dk_X7_judge 71 _ rfl) ?_
        refine F_iadd (dk_X7_judge 72 _ rfl) ?_
        exact F_ret rfl (dk_X7_judge 73 _ rfl)
      · refine F_iload_n (i := 2) (a := 2) rfl rfl (dk_X7_judge 55 _ rfl) ?_
        refine F_aload_n (i := 0) (a := 0) rfl rfl (dk_X7_judge 56 _ rfl) ?_
        refine F_gR (b := 34) fxM_7_57_0 fl_7_184 (dk_X7_judge 57 _ rfl) ?_
        refine F_iload_n (i := 1) (a := 1) rfl rfl (dk_X7_judge 60 _ rfl) ?_
        refine F_iald (axM_0_34) (dk_X7_judge 61 _ rfl) (fun x6 => ?_)
        refine F_iload_n (i := 3) (a := 3) rfl rfl (dk_X7_judge 62 _ rfl) ?_
        refine F_isub (dk_X7_judge 63 _ rfl) ?_
        refine F_iconst (v := 1) (by decide) (dk_X7_judge 64 _ rfl) ?_
        refine F_isub (dk_X7_judge 65 _ rfl) ?_
        refine F_icmp_le (tgt := 74) (by decide) (dk_X7_judge 66 _ rfl) ?_ ?_
        · refine F_aload_n (i := 0) (a := 0) rfl rfl (dk_X7_judge 74 _ rfl) ?_
          refine F_gR (b := 35) fxM_7_58_0 fl_7_187 (dk_X7_judge 75 _ rfl) ?_
          refine F_bipush (v := 60) (by decide) (dk_X7_judge 78 _ rfl) ?_
          refine F_iload_n (i := 1) (a := 1) rfl rfl (dk_X7_judge 80 _ rfl) ?_
          refine F_imul (dk_X7_judge 81 _ rfl) ?_
          refine F_iload_n (i := 2) (a := 2) rfl rfl (dk_X7_judge 82 _ rfl) ?_
          refine F_iadd (dk_X7_judge 83 _ rfl) ?_
          refine F_iload_n (i := 3) (a := 3) rfl rfl (dk_X7_judge 84 _ rfl) ?_
          refine F_iadd (dk_X7_judge 85 _ rfl) ?_
          refine F_lald (axM_1_35) (dk_X7_judge 86 _ rfl) (fun x7 => ?_)
          refine F_aload_n (i := 0) (a := 0) rfl rfl (dk_X7_judge 87 _ rfl) ?_
          refine F_gR (b := 5) fxM_7_7_0 fl_7_32 (dk_X7_judge 88 _ rfl) ?_
          refine F_iload_n (i := 3) (a := 3) rfl rfl (dk_X7_judge 91 _ rfl) ?_
          refine F_iald (axM_0_5) (dk_X7_judge 92 _ rfl) (fun x8 => ?_)
          refine F_i2l (dk_X7_judge 93 _ rfl) ?_
          refine F_lcmp (dk_X7_judge 94 _ rfl) ?_
          refine F_if_eq (tgt := 100) (by decide) (dk_X7_judge 95 _ rfl) ?_ ?_
          · refine F_iinc (i := 3) (n := 1) (v := (y3 + 1)) (lv' := [(3, .int (y3 + 1)), (0, .ref 0), (1, .int y1), (2, .int y2)]) rfl (by first | rfl | decide) (by decide) rfl (dk_X7_judge 100 _ rfl) ?_
            refine F_goto (tgt := 34) (by decide) (dk_X7_judge 103 _ rfl) ?_
            exact F_loc (List.forall_mem_cons.mpr ⟨(.tail _ (.head _)), (List.forall_mem_cons.mpr ⟨(.tail _ (.tail _ (.head _))), (List.forall_mem_cons.mpr ⟨(.tail _ (.tail _ (.tail _ (.head _)))), (List.forall_mem_cons.mpr ⟨(.head _), (fun _ z => absurd z List.not_mem_nil)⟩)⟩)⟩)⟩) (hK34 _ _ _ _ )
          · refine F_iload_n (i := 3) (a := 3) rfl rfl (dk_X7_judge 98 _ rfl) ?_
            exact F_ret rfl (dk_X7_judge 99 _ rfl)
        · refine F_bipush (v := 100) (by decide) (dk_X7_judge 69 _ rfl) ?_
          refine F_iload_n (i := 3) (a := 3) rfl rfl (dk_X7_judge 71 _ rfl) ?_
          refine F_iadd (dk_X7_judge 72 _ rfl) ?_
          exact F_ret rfl (dk_X7_judge 73 _ rfl)
theorem j_X7_judge_34   : ∀ (F : Nat) (m : mM) (y1 : Int32) (y2 : Int32) (y3 : Int32) , JF false uI m_X7_judge 4 34 [(0, .ref 0), (1, .int y1), (2, .int y2), (3, .int y3)] [] m (f_X7_judge_34  F m y1 y2 y3) := by
  intro F
  induction F with
  | zero => intro m y1 y2 y3 ; exact F_no
  | succ F ih => intro m y1 y2 y3 ; exact jb_X7_judge_34  (f_X7_judge_34  F)  ih m y1 y2 y3 
def f_X7_judge (m : mM) (p1 : Int32) (p2 : Int32) : fR Int32 :=
  bnd (f_X7_isTape m p1) fun (x1 : Int32) (m2 : mM) => (if x1 = 0 then some ((-1), m2) else (gA (mA m2 33) p1).bind fun x4 => (if x4 < 0 then (f_X7_judge_34  1000 m2 p1 p2 0) else (gA (mA m2 33) p1).bind fun x9 => (if x9 = 3 then (f_X7_judge_34  1000 m2 p1 p2 0) else some ((-12), m2))))
theorem c_X7_judge (m : mM) (p1 : Int32) (p2 : Int32)  : cF false uI m_X7_judge 4 [.ref 0, .int p1, .int p2] m (f_X7_judge m p1 p2) := by
  refine cF_of ok_X7_judge (fun _ _ => Nat.le_of_ble_eq_true rfl) ?_
  unfold f_X7_judge
  show JF _ _ _ _ _ [(0, .ref 0), (1, .int p1), (2, .int p2)] _ _ _
  refine F_aload_n (i := 0) (a := 0) rfl rfl (dk_X7_judge 0 _ rfl) ?_
  refine F_iload_n (i := 1) (a := 1) rfl rfl (dk_X7_judge 1 _ rfl) ?_
  refine F_callV (ι' := uI) (ci := 7) (b := 0) (As := [.int p1]) (d' := 3) (rfl) ok_X7_isTape vi_X7_isTape cl_7_354 (n := 1) (by decide +kernel) rfl rfl rfl (Nat.le_of_ble_eq_true rfl) (by omega) (dk_X7_judge 2 _ rfl) (c_X7_isTape _ _ ) (fun x1 m2 => ?_)
  show JF _ _ _ _ _ _ [.int x1] _ _
  refine F_if_ne (tgt := 10) (by decide) (dk_X7_judge 5 _ rfl) ?_ ?_
  · refine F_aload_n (i := 0) (a := 0) rfl rfl (dk_X7_judge 10 _ rfl) ?_
    refine F_gR (b := 33) fxM_7_56_0 fl_7_181 (dk_X7_judge 11 _ rfl) ?_
    refine F_iload_n (i := 1) (a := 1) rfl rfl (dk_X7_judge 14 _ rfl) ?_
    refine F_iald (axM_0_33) (dk_X7_judge 15 _ rfl) (fun x4 => ?_)
    refine F_if_lt (tgt := 32) (by decide) (dk_X7_judge 16 _ rfl) ?_ ?_
    · refine F_iconst (v := 0) (by decide) (dk_X7_judge 32 _ rfl) ?_
      refine F_istore_n (lv' := [(3, .int 0), (0, .ref 0), (1, .int p1), (2, .int p2)]) (i := 3) (a := 3) rfl (by decide) rfl (dk_X7_judge 33 _ rfl) ?_
      exact F_loc (List.forall_mem_cons.mpr ⟨(.tail _ (.head _)), (List.forall_mem_cons.mpr ⟨(.tail _ (.tail _ (.head _))), (List.forall_mem_cons.mpr ⟨(.tail _ (.tail _ (.tail _ (.head _)))), (List.forall_mem_cons.mpr ⟨(.head _), (fun _ z => absurd z List.not_mem_nil)⟩)⟩)⟩)⟩) (j_X7_judge_34   1000 _ _ _ _ )
    · refine F_aload_n (i := 0) (a := 0) rfl rfl (dk_X7_judge 19 _ rfl) ?_
      refine F_gR (b := 33) fxM_7_56_0 fl_7_181 (dk_X7_judge 20 _ rfl) ?_
      refine F_iload_n (i := 1) (a := 1) rfl rfl (dk_X7_judge 23 _ rfl) ?_
      refine F_iald (axM_0_33) (dk_X7_judge 24 _ rfl) (fun x9 => ?_)
      refine F_iconst (v := 3) (by decide) (dk_X7_judge 25 _ rfl) ?_
      refine F_icmp_eq (tgt := 32) (by decide) (dk_X7_judge 26 _ rfl) ?_ ?_
      · refine F_iconst (v := 0) (by decide) (dk_X7_judge 32 _ rfl) ?_
        refine F_istore_n (lv' := [(3, .int 0), (0, .ref 0), (1, .int p1), (2, .int p2)]) (i := 3) (a := 3) rfl (by decide) rfl (dk_X7_judge 33 _ rfl) ?_
        exact F_loc (List.forall_mem_cons.mpr ⟨(.tail _ (.head _)), (List.forall_mem_cons.mpr ⟨(.tail _ (.tail _ (.head _))), (List.forall_mem_cons.mpr ⟨(.tail _ (.tail _ (.tail _ (.head _)))), (List.forall_mem_cons.mpr ⟨(.head _), (fun _ z => absurd z List.not_mem_nil)⟩)⟩)⟩)⟩) (j_X7_judge_34   1000 _ _ _ _ )
      · refine F_bipush (v := (-12)) (by decide) (dk_X7_judge 29 _ rfl) ?_
        exact F_ret rfl (dk_X7_judge 31 _ rfl)
  · refine F_iconst (v := (-1)) (by decide) (dk_X7_judge 8 _ rfl) ?_
    exact F_ret rfl (dk_X7_judge 9 _ rfl)
def fb_X7_image_159 (K159 : mM → Int32 → fR Int32) (m : mM) (y1 : Int32) : fR Int32 :=
  (if 12 ≤ y1 then some ((mI m 0), m) else (gA (mA m 23) y1).bind fun x7 => (sA 0 m 30 y1 x7).bind fun m8 => (K159 m8 (y1 + 1)))
def f_X7_image_159  : Nat → mM → Int32 → fR Int32
  | 0, _, _ => none
  | F + 1, m, y1 => fb_X7_image_159  (f_X7_image_159  F) m y1
theorem jb_X7_image_159 (K159 : mM → Int32 → fR Int32) (hK159 : ∀ (m : mM) (y1 : Int32) , JF false uI m_X7_image 2 159 [(0, .ref 0), (1, .int y1)] [] m (K159 m y1)) (m : mM) (y1 : Int32)  : JF false uI m_X7_image 2 159 [(0, .ref 0), (1, .int y1)] [] m (fb_X7_image_159 K159 m y1) := by
  unfold fb_X7_image_159
  refine F_iload_n (i := 1) (a := 1) rfl rfl (dk_X7_image 159 _ rfl) ?_
  refine F_bipush (v := 12) (by decide) (dk_X7_image 160 _ rfl) ?_
  refine F_icmp_ge (tgt := 183) (by decide) (dk_X7_image 162 _ rfl) ?_ ?_
  · refine F_aload_n (i := 0) (a := 0) rfl rfl (dk_X7_image 183 _ rfl) ?_
    refine F_gI (n := 0) fxM_7_0_0 rfl fl_7_7 (dk_X7_image 184 _ rfl) ?_
    exact F_ret rfl (dk_X7_image 187 _ rfl)
  · refine F_aload_n (i := 0) (a := 0) rfl rfl (dk_X7_image 165 _ rfl) ?_
    refine F_gR (b := 30) fxM_7_52_0 fl_7_169 (dk_X7_image 166 _ rfl) ?_
    refine F_iload_n (i := 1) (a := 1) rfl rfl (dk_X7_image 169 _ rfl) ?_
    refine F_aload_n (i := 0) (a := 0) rfl rfl (dk_X7_image 170 _ rfl) ?_
    refine F_gR (b := 23) fxM_7_39_0 fl_7_129 (dk_X7_image 171 _ rfl) ?_
    refine F_iload_n (i := 1) (a := 1) rfl rfl (dk_X7_image 174 _ rfl) ?_
    refine F_iald (axM_0_23) (dk_X7_image 175 _ rfl) (fun x7 => ?_)
    refine F_iast (axM_0_30) (dk_X7_image 176 _ rfl) (fun m8 => ?_)
    refine F_iinc (i := 1) (n := 1) (v := (y1 + 1)) (lv' := [(1, .int (y1 + 1)), (0, .ref 0)]) rfl (by first | rfl | decide) (by decide) rfl (dk_X7_image 177 _ rfl) ?_
    refine F_goto (tgt := 159) (by decide) (dk_X7_image 180 _ rfl) ?_
    exact F_loc (List.forall_mem_cons.mpr ⟨(.tail _ (.head _)), (List.forall_mem_cons.mpr ⟨(.head _), (fun _ z => absurd z List.not_mem_nil)⟩)⟩) (hK159 _ _ )
theorem j_X7_image_159   : ∀ (F : Nat) (m : mM) (y1 : Int32) , JF false uI m_X7_image 2 159 [(0, .ref 0), (1, .int y1)] [] m (f_X7_image_159  F m y1) := by
  intro F
  induction F with
  | zero => intro m y1 ; exact F_no
  | succ F ih => intro m y1 ; exact jb_X7_image_159  (f_X7_image_159  F)  ih m y1 
def fb_X7_image_133 (K133 : mM → Int32 → fR Int32) (m : mM) (y1 : Int32) : fR Int32 :=
  (if 28 ≤ y1 then (f_X7_image_159  1000 m 0) else (gA (mA m 6) y1).bind fun x9 => (sA 0 m 29 y1 x9).bind fun m10 => (K133 m10 (y1 + 1)))
def f_X7_image_133  : Nat → mM → Int32 → fR Int32
  | 0, _, _ => none
  | F + 1, m, y1 => fb_X7_image_133  (f_X7_image_133  F) m y1
theorem jb_X7_image_133 (K133 : mM → Int32 → fR Int32) (hK133 : ∀ (m : mM) (y1 : Int32) , JF false uI m_X7_image 2 133 [(0, .ref 0), (1, .int y1)] [] m (K133 m y1)) (m : mM) (y1 : Int32)  : JF false uI m_X7_image 2 133 [(0, .ref 0), (1, .int y1)] [] m (fb_X7_image_133 K133 m y1) := by
  unfold fb_X7_image_133
  refine F_iload_n (i := 1) (a := 1) rfl rfl (dk_X7_image 133 _ rfl) ?_
  refine F_bipush (v := 28) (by decide) (dk_X7_image 134 _ rfl) ?_
  refine F_icmp_ge (tgt := 157) (by decide) (dk_X7_image 136 _ rfl) ?_ ?_
  · refine F_iconst (v := 0) (by decide) (dk_X7_image 157 _ rfl) ?_
    refine F_istore_n (lv' := [(1, .int 0), (0, .ref 0)]) (i := 1) (a := 1) rfl (by decide) rfl (dk_X7_image 158 _ rfl) ?_
    exact F_loc (List.forall_mem_cons.mpr ⟨(.tail _ (.head _)), (List.forall_mem_cons.mpr ⟨(.head _), (fun _ z => absurd z List.not_mem_nil)⟩)⟩) (j_X7_image_159   1000 _ _ )
  · refine F_aload_n (i := 0) (a := 0) rfl rfl (dk_X7_image 139 _ rfl) ?_
    refine F_gR (b := 29) fxM_7_51_0 fl_7_166 (dk_X7_image 140 _ rfl) ?_
    refine F_iload_n (i := 1) (a := 1) rfl rfl (dk_X7_image 143 _ rfl) ?_
    refine F_aload_n (i := 0) (a := 0) rfl rfl (dk_X7_image 144 _ rfl) ?_
    refine F_gR (b := 6) fxM_7_8_0 fl_7_35 (dk_X7_image 145 _ rfl) ?_
    refine F_iload_n (i := 1) (a := 1) rfl rfl (dk_X7_image 148 _ rfl) ?_
    refine F_iald (axM_0_6) (dk_X7_image 149 _ rfl) (fun x9 => ?_)
    refine F_iast (axM_0_29) (dk_X7_image 150 _ rfl) (fun m10 => ?_)
    refine F_iinc (i := 1) (n := 1) (v := (y1 + 1)) (lv' := [(1, .int (y1 + 1)), (0, .ref 0)]) rfl (by first | rfl | decide) (by decide) rfl (dk_X7_image 151 _ rfl) ?_
    refine F_goto (tgt := 133) (by decide) (dk_X7_image 154 _ rfl) ?_
    exact F_loc (List.forall_mem_cons.mpr ⟨(.tail _ (.head _)), (List.forall_mem_cons.mpr ⟨(.head _), (fun _ z => absurd z List.not_mem_nil)⟩)⟩) (hK133 _ _ )
theorem j_X7_image_133   : ∀ (F : Nat) (m : mM) (y1 : Int32) , JF false uI m_X7_image 2 133 [(0, .ref 0), (1, .int y1)] [] m (f_X7_image_133  F m y1) := by
  intro F
  induction F with
  | zero => intro m y1 ; exact F_no
  | succ F ih => intro m y1 ; exact jb_X7_image_133  (f_X7_image_133  F)  ih m y1 
def fb_X7_image_47 (K47 : mM → Int32 → fR Int32) (m : mM) (y1 : Int32) : fR Int32 :=
  (if 7 ≤ y1 then (f_X7_image_133  1000 m 0) else (gA (mA m 1) y1).bind fun x11 => (sA 0 m 24 y1 x11).bind fun m12 => (gA (mA m12 2) y1).bind fun x13 => (sA 0 m12 25 y1 x13).bind fun m14 => (gA (mA m14 3) y1).bind fun x15 => (sA 0 m14 26 y1 x15).bind fun m16 => (gA (mA m16 4) y1).bind fun x17 => (sA 0 m16 27 y1 x17).bind fun m18 => (gA (mA m18 5) y1).bind fun x19 => (sA 0 m18 28 y1 x19).bind fun m20 => (gA (mA m20 7) y1).bind fun x21 => (sA 3 m20 31 y1 x21).bind fun m22 => (K47 m22 (y1 + 1)))
def f_X7_image_47  : Nat → mM → Int32 → fR Int32
  | 0, _, _ => none
  | F + 1, m, y1 => fb_X7_image_47  (f_X7_image_47  F) m y1
theorem jb_X7_image_47 (K47 : mM → Int32 → fR Int32) (hK47 : ∀ (m : mM) (y1 : Int32) , JF false uI m_X7_image 2 47 [(0, .ref 0), (1, .int y1)] [] m (K47 m y1)) (m : mM) (y1 : Int32)  : JF false uI m_X7_image 2 47 [(0, .ref 0), (1, .int y1)] [] m (fb_X7_image_47 K47 m y1) := by
  unfold fb_X7_image_47
  refine F_iload_n (i := 1) (a := 1) rfl rfl (dk_X7_image 47 _ rfl) ?_
  refine F_bipush (v := 7) (by decide) (dk_X7_image 48 _ rfl) ?_
  refine F_icmp_ge (tgt := 131) (by decide) (dk_X7_image 50 _ rfl) ?_ ?_
  · refine F_iconst (v := 0) (by decide) (dk_X7_image 131 _ rfl) ?_
    refine F_istore_n (lv' := [(1, .int 0), (0, .ref 0)]) (i := 1) (a := 1) rfl (by decide) rfl (dk_X7_image 132 _ rfl) ?_
    exact F_loc (List.forall_mem_cons.mpr ⟨(.tail _ (.head _)), (List.forall_mem_cons.mpr ⟨(.head _), (fun _ z => absurd z List.not_mem_nil)⟩)⟩) (j_X7_image_133   1000 _ _ )
  · refine F_aload_n (i := 0) (a := 0) rfl rfl (dk_X7_image 53 _ rfl) ?_
    refine F_gR (b := 24) fxM_7_46_0 fl_7_151 (dk_X7_image 54 _ rfl) ?_
    refine F_iload_n (i := 1) (a := 1) rfl rfl (dk_X7_image 57 _ rfl) ?_
    refine F_aload_n (i := 0) (a := 0) rfl rfl (dk_X7_image 58 _ rfl) ?_
    refine F_gR (b := 1) fxM_7_3_0 fl_7_19 (dk_X7_image 59 _ rfl) ?_
    refine F_iload_n (i := 1) (a := 1) rfl rfl (dk_X7_image 62 _ rfl) ?_
    refine F_iald (axM_0_1) (dk_X7_image 63 _ rfl) (fun x11 => ?_)
    refine F_iast (axM_0_24) (dk_X7_image 64 _ rfl) (fun m12 => ?_)
    refine F_aload_n (i := 0) (a := 0) rfl rfl (dk_X7_image 65 _ rfl) ?_
    refine F_gR (b := 25) fxM_7_47_0 fl_7_154 (dk_X7_image 66 _ rfl) ?_
    refine F_iload_n (i := 1) (a := 1) rfl rfl (dk_X7_image 69 _ rfl) ?_
    refine F_aload_n (i := 0) (a := 0) rfl rfl (dk_X7_image 70 _ rfl) ?_
    refine F_gR (b := 2) fxM_7_4_0 fl_7_23 (dk_X7_image 71 _ rfl) ?_
    refine F_iload_n (i := 1) (a := 1) rfl rfl (dk_X7_image 74 _ rfl) ?_
    refine F_iald (axM_0_2) (dk_X7_image 75 _ rfl) (fun x13 => ?_)
    refine F_iast (axM_0_25) (dk_X7_image 76 _ rfl) (fun m14 => ?_)
    refine F_aload_n (i := 0) (a := 0) rfl rfl (dk_X7_image 77 _ rfl) ?_
    refine F_gR (b := 26) fxM_7_48_0 fl_7_157 (dk_X7_image 78 _ rfl) ?_
    refine F_iload_n (i := 1) (a := 1) rfl rfl (dk_X7_image 81 _ rfl) ?_
    refine F_aload_n (i := 0) (a := 0) rfl rfl (dk_X7_image 82 _ rfl) ?_
    refine F_gR (b := 3) fxM_7_5_0 fl_7_26 (dk_X7_image 83 _ rfl) ?_
    refine F_iload_n (i := 1) (a := 1) rfl rfl (dk_X7_image 86 _ rfl) ?_
    refine F_iald (axM_0_3) (dk_X7_image 87 _ rfl) (fun x15 => ?_)
    refine F_iast (axM_0_26) (dk_X7_image 88 _ rfl) (fun m16 => ?_)
    refine F_aload_n (i := 0) (a := 0) rfl rfl (dk_X7_image 89 _ rfl) ?_
    refine F_gR (b := 27) fxM_7_49_0 fl_7_160 (dk_X7_image 90 _ rfl) ?_
    refine F_iload_n (i := 1) (a := 1) rfl rfl (dk_X7_image 93 _ rfl) ?_
    refine F_aload_n (i := 0) (a := 0) rfl rfl (dk_X7_image 94 _ rfl) ?_
    refine F_gR (b := 4) fxM_7_6_0 fl_7_29 (dk_X7_image 95 _ rfl) ?_
    refine F_iload_n (i := 1) (a := 1) rfl rfl (dk_X7_image 98 _ rfl) ?_
    refine F_iald (axM_0_4) (dk_X7_image 99 _ rfl) (fun x17 => ?_)
    refine F_iast (axM_0_27) (dk_X7_image 100 _ rfl) (fun m18 => ?_)
    refine F_aload_n (i := 0) (a := 0) rfl rfl (dk_X7_image 101 _ rfl) ?_
    refine F_gR (b := 28) fxM_7_50_0 fl_7_163 (dk_X7_image 102 _ rfl) ?_
    refine F_iload_n (i := 1) (a := 1) rfl rfl (dk_X7_image 105 _ rfl) ?_
    refine F_aload_n (i := 0) (a := 0) rfl rfl (dk_X7_image 106 _ rfl) ?_
    refine F_gR (b := 5) fxM_7_7_0 fl_7_32 (dk_X7_image 107 _ rfl) ?_
    refine F_iload_n (i := 1) (a := 1) rfl rfl (dk_X7_image 110 _ rfl) ?_
    refine F_iald (axM_0_5) (dk_X7_image 111 _ rfl) (fun x19 => ?_)
    refine F_iast (axM_0_28) (dk_X7_image 112 _ rfl) (fun m20 => ?_)
    refine F_aload_n (i := 0) (a := 0) rfl rfl (dk_X7_image 113 _ rfl) ?_
    refine F_gR (b := 31) fxM_7_53_0 fl_7_172 (dk_X7_image 114 _ rfl) ?_
    refine F_iload_n (i := 1) (a := 1) rfl rfl (dk_X7_image 117 _ rfl) ?_
    refine F_aload_n (i := 0) (a := 0) rfl rfl (dk_X7_image 118 _ rfl) ?_
    refine F_gR (b := 7) fxM_7_9_0 fl_7_38 (dk_X7_image 119 _ rfl) ?_
    refine F_iload_n (i := 1) (a := 1) rfl rfl (dk_X7_image 122 _ rfl) ?_
    refine F_zald (axM_3_7) (dk_X7_image 123 _ rfl) (fun x21 => ?_)
    refine F_zast (axM_3_31) (dk_X7_image 124 _ rfl) (fun m22 => ?_)
    refine F_iinc (i := 1) (n := 1) (v := (y1 + 1)) (lv' := [(1, .int (y1 + 1)), (0, .ref 0)]) rfl (by first | rfl | decide) (by decide) rfl (dk_X7_image 125 _ rfl) ?_
    refine F_goto (tgt := 47) (by decide) (dk_X7_image 128 _ rfl) ?_
    exact F_loc (List.forall_mem_cons.mpr ⟨(.tail _ (.head _)), (List.forall_mem_cons.mpr ⟨(.head _), (fun _ z => absurd z List.not_mem_nil)⟩)⟩) (hK47 _ _ )
theorem j_X7_image_47   : ∀ (F : Nat) (m : mM) (y1 : Int32) , JF false uI m_X7_image 2 47 [(0, .ref 0), (1, .int y1)] [] m (f_X7_image_47  F m y1) := by
  intro F
  induction F with
  | zero => intro m y1 ; exact F_no
  | succ F ih => intro m y1 ; exact jb_X7_image_47  (f_X7_image_47  F)  ih m y1 
def f_X7_image (m : mM)  : fR Int32 :=
  nmM (wI m 40 1) fun m1 => nmM (wI m1 41 (mI m1 11)) fun m2 => nmM (wI m2 42 (mI m2 0)) fun m3 => nmM (wI m3 43 (mI m3 1)) fun m4 => nmM (wI m4 44 (mI m4 2)) fun m5 => nmM (wI m5 45 (mI m5 38)) fun m6 => (f_X7_image_47  1000 m6 0)
theorem c_X7_image (m : mM)   : cF false uI m_X7_image 2 [.ref 0] m (f_X7_image m ) := by
  refine cF_of ok_X7_image (fun _ _ => Nat.le_of_ble_eq_true rfl) ?_
  unfold f_X7_image
  show JF _ _ _ _ _ [(0, .ref 0)] _ _ _
  refine F_aload_n (i := 0) (a := 0) rfl rfl (dk_X7_image 0 _ rfl) ?_
  refine F_iconst (v := 1) (by decide) (dk_X7_image 1 _ rfl) ?_
  refine F_pI (n := 40) fxM_7_40_0 rfl fl_7_132 (fun q hq => by cases hq; rfl) (Or.inr rfl) (dk_X7_image 2 _ rfl) (fun m1 => ?_)
  refine F_aload_n (i := 0) (a := 0) rfl rfl (dk_X7_image 5 _ rfl) ?_
  refine F_aload_n (i := 0) (a := 0) rfl rfl (dk_X7_image 6 _ rfl) ?_
  refine F_gI (n := 11) fxM_7_11_0 rfl fl_7_45 (dk_X7_image 7 _ rfl) ?_
  refine F_pI (n := 41) fxM_7_41_0 rfl fl_7_136 (fun q hq => by cases hq; rfl) trivial (dk_X7_image 10 _ rfl) (fun m2 => ?_)
  refine F_aload_n (i := 0) (a := 0) rfl rfl (dk_X7_image 13 _ rfl) ?_
  refine F_aload_n (i := 0) (a := 0) rfl rfl (dk_X7_image 14 _ rfl) ?_
  refine F_gI (n := 0) fxM_7_0_0 rfl fl_7_7 (dk_X7_image 15 _ rfl) ?_
  refine F_pI (n := 42) fxM_7_42_0 rfl fl_7_139 (fun q hq => by cases hq; rfl) trivial (dk_X7_image 18 _ rfl) (fun m3 => ?_)
  refine F_aload_n (i := 0) (a := 0) rfl rfl (dk_X7_image 21 _ rfl) ?_
  refine F_aload_n (i := 0) (a := 0) rfl rfl (dk_X7_image 22 _ rfl) ?_
  refine F_gI (n := 1) fxM_7_1_0 rfl fl_7_13 (dk_X7_image 23 _ rfl) ?_
  refine F_pI (n := 43) fxM_7_43_0 rfl fl_7_142 (fun q hq => by cases hq; rfl) trivial (dk_X7_image 26 _ rfl) (fun m4 => ?_)
  refine F_aload_n (i := 0) (a := 0) rfl rfl (dk_X7_image 29 _ rfl) ?_
  refine F_aload_n (i := 0) (a := 0) rfl rfl (dk_X7_image 30 _ rfl) ?_
  refine F_gI (n := 2) fxM_7_2_0 rfl fl_7_16 (dk_X7_image 31 _ rfl) ?_
  refine F_pI (n := 44) fxM_7_44_0 rfl fl_7_145 (fun q hq => by cases hq; rfl) trivial (dk_X7_image 34 _ rfl) (fun m5 => ?_)
  refine F_aload_n (i := 0) (a := 0) rfl rfl (dk_X7_image 37 _ rfl) ?_
  refine F_aload_n (i := 0) (a := 0) rfl rfl (dk_X7_image 38 _ rfl) ?_
  refine F_gI (n := 38) fxM_7_38_0 rfl fl_7_126 (dk_X7_image 39 _ rfl) ?_
  refine F_pI (n := 45) fxM_7_45_0 rfl fl_7_148 (fun q hq => by cases hq; rfl) trivial (dk_X7_image 42 _ rfl) (fun m6 => ?_)
  refine F_iconst (v := 0) (by decide) (dk_X7_image 45 _ rfl) ?_
  refine F_istore_n (lv' := [(1, .int 0), (0, .ref 0)]) (i := 1) (a := 1) rfl (by decide) rfl (dk_X7_image 46 _ rfl) ?_
  exact F_loc (List.forall_mem_cons.mpr ⟨(.tail _ (.head _)), (List.forall_mem_cons.mpr ⟨(.head _), (fun _ z => absurd z List.not_mem_nil)⟩)⟩) (j_X7_image_47   1000 _ _ )
def fb_X7_undo_164 (K164 : mM → Int32 → fR Int32) (m : mM) (y1 : Int32) : fR Int32 :=
  (if 12 ≤ y1 then some ((mI m 0), m) else (gA (mA m 30) y1).bind fun x6 => (sA 0 m 23 y1 x6).bind fun m7 => (K164 m7 (y1 + 1)))
def f_X7_undo_164  : Nat → mM → Int32 → fR Int32
  | 0, _, _ => none
  | F + 1, m, y1 => fb_X7_undo_164  (f_X7_undo_164  F) m y1
theorem jb_X7_undo_164 (K164 : mM → Int32 → fR Int32) (hK164 : ∀ (m : mM) (y1 : Int32) , JF false uI m_X7_undo 2 164 [(0, .ref 0), (1, .int y1)] [] m (K164 m y1)) (m : mM) (y1 : Int32)  : JF false uI m_X7_undo 2 164 [(0, .ref 0), (1, .int y1)] [] m (fb_X7_undo_164 K164 m y1) := by
  unfold fb_X7_undo_164
  refine F_iload_n (i := 1) (a := 1) rfl rfl (dk_X7_undo 164 _ rfl) ?_
  refine F_bipush (v := 12) (by decide) (dk_X7_undo 165 _ rfl) ?_
  refine F_icmp_ge (tgt := 188) (by decide) (dk_X7_undo 167 _ rfl) ?_ ?_
  · refine F_aload_n (i := 0) (a := 0) rfl rfl (dk_X7_undo 188 _ rfl) ?_
    refine F_gI (n := 0) fxM_7_0_0 rfl fl_7_7 (dk_X7_undo 189 _ rfl) ?_
    exact F_ret rfl (dk_X7_undo 192 _ rfl)
  · refine F_aload_n (i := 0) (a := 0) rfl rfl (dk_X7_undo 170 _ rfl) ?_
    refine F_gR (b := 23) fxM_7_39_0 fl_7_129 (dk_X7_undo 171 _ rfl) ?_
    refine F_iload_n (i := 1) (a := 1) rfl rfl (dk_X7_undo 174 _ rfl) ?_
    refine F_aload_n (i := 0) (a := 0) rfl rfl (dk_X7_undo 175 _ rfl) ?_
    refine F_gR (b := 30) fxM_7_52_0 fl_7_169 (dk_X7_undo 176 _ rfl) ?_
    refine F_iload_n (i := 1) (a := 1) rfl rfl (dk_X7_undo 179 _ rfl) ?_
    refine F_iald (axM_0_30) (dk_X7_undo 180 _ rfl) (fun x6 => ?_)
    refine F_iast (axM_0_23) (dk_X7_undo 181 _ rfl) (fun m7 => ?_)
    refine F_iinc (i := 1) (n := 1) (v := (y1 + 1)) (lv' := [(1, .int (y1 + 1)), (0, .ref 0)]) rfl (by first | rfl | decide) (by decide) rfl (dk_X7_undo 182 _ rfl) ?_
    refine F_goto (tgt := 164) (by decide) (dk_X7_undo 185 _ rfl) ?_
    exact F_loc (List.forall_mem_cons.mpr ⟨(.tail _ (.head _)), (List.forall_mem_cons.mpr ⟨(.head _), (fun _ z => absurd z List.not_mem_nil)⟩)⟩) (hK164 _ _ )
theorem j_X7_undo_164   : ∀ (F : Nat) (m : mM) (y1 : Int32) , JF false uI m_X7_undo 2 164 [(0, .ref 0), (1, .int y1)] [] m (f_X7_undo_164  F m y1) := by
  intro F
  induction F with
  | zero => intro m y1 ; exact F_no
  | succ F ih => intro m y1 ; exact jb_X7_undo_164  (f_X7_undo_164  F)  ih m y1 
def fb_X7_undo_138 (K138 : mM → Int32 → fR Int32) (m : mM) (y1 : Int32) : fR Int32 :=
  (if 28 ≤ y1 then (f_X7_undo_164  1000 m 0) else (gA (mA m 29) y1).bind fun x8 => (sA 0 m 6 y1 x8).bind fun m9 => (K138 m9 (y1 + 1)))
def f_X7_undo_138  : Nat → mM → Int32 → fR Int32
  | 0, _, _ => none
  | F + 1, m, y1 => fb_X7_undo_138  (f_X7_undo_138  F) m y1
theorem jb_X7_undo_138 (K138 : mM → Int32 → fR Int32) (hK138 : ∀ (m : mM) (y1 : Int32) , JF false uI m_X7_undo 2 138 [(0, .ref 0), (1, .int y1)] [] m (K138 m y1)) (m : mM) (y1 : Int32)  : JF false uI m_X7_undo 2 138 [(0, .ref 0), (1, .int y1)] [] m (fb_X7_undo_138 K138 m y1) := by
  unfold fb_X7_undo_138
  refine F_iload_n (i := 1) (a := 1) rfl rfl (dk_X7_undo 138 _ rfl) ?_
  refine F_bipush (v := 28) (by decide) (dk_X7_undo 139 _ rfl) ?_
  refine F_icmp_ge (tgt := 162) (by decide) (dk_X7_undo 141 _ rfl) ?_ ?_
  · refine F_iconst (v := 0) (by decide) (dk_X7_undo 162 _ rfl) ?_
    refine F_istore_n (lv' := [(1, .int 0), (0, .ref 0)]) (i := 1) (a := 1) rfl (by decide) rfl (dk_X7_undo 163 _ rfl) ?_
    exact F_loc (List.forall_mem_cons.mpr ⟨(.tail _ (.head _)), (List.forall_mem_cons.mpr ⟨(.head _), (fun _ z => absurd z List.not_mem_nil)⟩)⟩) (j_X7_undo_164   1000 _ _ )
  · refine F_aload_n (i := 0) (a := 0) rfl rfl (dk_X7_undo 144 _ rfl) ?_
    refine F_gR (b := 6) fxM_7_8_0 fl_7_35 (dk_X7_undo 145 _ rfl) ?_
    refine F_iload_n (i := 1) (a := 1) rfl rfl (dk_X7_undo 148 _ rfl) ?_
    refine F_aload_n (i := 0) (a := 0) rfl rfl (dk_X7_undo 149 _ rfl) ?_
    refine F_gR (b := 29) fxM_7_51_0 fl_7_166 (dk_X7_undo 150 _ rfl) ?_
    refine F_iload_n (i := 1) (a := 1) rfl rfl (dk_X7_undo 153 _ rfl) ?_
    refine F_iald (axM_0_29) (dk_X7_undo 154 _ rfl) (fun x8 => ?_)
    refine F_iast (axM_0_6) (dk_X7_undo 155 _ rfl) (fun m9 => ?_)
    refine F_iinc (i := 1) (n := 1) (v := (y1 + 1)) (lv' := [(1, .int (y1 + 1)), (0, .ref 0)]) rfl (by first | rfl | decide) (by decide) rfl (dk_X7_undo 156 _ rfl) ?_
    refine F_goto (tgt := 138) (by decide) (dk_X7_undo 159 _ rfl) ?_
    exact F_loc (List.forall_mem_cons.mpr ⟨(.tail _ (.head _)), (List.forall_mem_cons.mpr ⟨(.head _), (fun _ z => absurd z List.not_mem_nil)⟩)⟩) (hK138 _ _ )
theorem j_X7_undo_138   : ∀ (F : Nat) (m : mM) (y1 : Int32) , JF false uI m_X7_undo 2 138 [(0, .ref 0), (1, .int y1)] [] m (f_X7_undo_138  F m y1) := by
  intro F
  induction F with
  | zero => intro m y1 ; exact F_no
  | succ F ih => intro m y1 ; exact jb_X7_undo_138  (f_X7_undo_138  F)  ih m y1 
def fb_X7_undo_52 (K52 : mM → Int32 → fR Int32) (m : mM) (y1 : Int32) : fR Int32 :=
  (if 7 ≤ y1 then (f_X7_undo_138  1000 m 0) else (gA (mA m 24) y1).bind fun x10 => (sA 0 m 1 y1 x10).bind fun m11 => (gA (mA m11 25) y1).bind fun x12 => (sA 0 m11 2 y1 x12).bind fun m13 => (gA (mA m13 26) y1).bind fun x14 => (sA 0 m13 3 y1 x14).bind fun m15 => (gA (mA m15 27) y1).bind fun x16 => (sA 0 m15 4 y1 x16).bind fun m17 => (gA (mA m17 28) y1).bind fun x18 => (sA 0 m17 5 y1 x18).bind fun m19 => (gA (mA m19 31) y1).bind fun x20 => (sA 3 m19 7 y1 x20).bind fun m21 => (K52 m21 (y1 + 1)))
def f_X7_undo_52  : Nat → mM → Int32 → fR Int32
  | 0, _, _ => none
  | F + 1, m, y1 => fb_X7_undo_52  (f_X7_undo_52  F) m y1
theorem jb_X7_undo_52 (K52 : mM → Int32 → fR Int32) (hK52 : ∀ (m : mM) (y1 : Int32) , JF false uI m_X7_undo 2 52 [(0, .ref 0), (1, .int y1)] [] m (K52 m y1)) (m : mM) (y1 : Int32)  : JF false uI m_X7_undo 2 52 [(0, .ref 0), (1, .int y1)] [] m (fb_X7_undo_52 K52 m y1) := by
  unfold fb_X7_undo_52
  refine F_iload_n (i := 1) (a := 1) rfl rfl (dk_X7_undo 52 _ rfl) ?_
  refine F_bipush (v := 7) (by decide) (dk_X7_undo 53 _ rfl) ?_
  refine F_icmp_ge (tgt := 136) (by decide) (dk_X7_undo 55 _ rfl) ?_ ?_
  · refine F_iconst (v := 0) (by decide) (dk_X7_undo 136 _ rfl) ?_
    refine F_istore_n (lv' := [(1, .int 0), (0, .ref 0)]) (i := 1) (a := 1) rfl (by decide) rfl (dk_X7_undo 137 _ rfl) ?_
    exact F_loc (List.forall_mem_cons.mpr ⟨(.tail _ (.head _)), (List.forall_mem_cons.mpr ⟨(.head _), (fun _ z => absurd z List.not_mem_nil)⟩)⟩) (j_X7_undo_138   1000 _ _ )
  · refine F_aload_n (i := 0) (a := 0) rfl rfl (dk_X7_undo 58 _ rfl) ?_
    refine F_gR (b := 1) fxM_7_3_0 fl_7_19 (dk_X7_undo 59 _ rfl) ?_
    refine F_iload_n (i := 1) (a := 1) rfl rfl (dk_X7_undo 62 _ rfl) ?_
    refine F_aload_n (i := 0) (a := 0) rfl rfl (dk_X7_undo 63 _ rfl) ?_
    refine F_gR (b := 24) fxM_7_46_0 fl_7_151 (dk_X7_undo 64 _ rfl) ?_
    refine F_iload_n (i := 1) (a := 1) rfl rfl (dk_X7_undo 67 _ rfl) ?_
    refine F_iald (axM_0_24) (dk_X7_undo 68 _ rfl) (fun x10 => ?_)
    refine F_iast (axM_0_1) (dk_X7_undo 69 _ rfl) (fun m11 => ?_)
    refine F_aload_n (i := 0) (a := 0) rfl rfl (dk_X7_undo 70 _ rfl) ?_
    refine F_gR (b := 2) fxM_7_4_0 fl_7_23 (dk_X7_undo 71 _ rfl) ?_
    refine F_iload_n (i := 1) (a := 1) rfl rfl (dk_X7_undo 74 _ rfl) ?_
    refine F_aload_n (i := 0) (a := 0) rfl rfl (dk_X7_undo 75 _ rfl) ?_
    refine F_gR (b := 25) fxM_7_47_0 fl_7_154 (dk_X7_undo 76 _ rfl) ?_
    refine F_iload_n (i := 1) (a := 1) rfl rfl (dk_X7_undo 79 _ rfl) ?_
    refine F_iald (axM_0_25) (dk_X7_undo 80 _ rfl) (fun x12 => ?_)
    refine F_iast (axM_0_2) (dk_X7_undo 81 _ rfl) (fun m13 => ?_)
    refine F_aload_n (i := 0) (a := 0) rfl rfl (dk_X7_undo 82 _ rfl) ?_
    refine F_gR (b := 3) fxM_7_5_0 fl_7_26 (dk_X7_undo 83 _ rfl) ?_
    refine F_iload_n (i := 1) (a := 1) rfl rfl (dk_X7_undo 86 _ rfl) ?_
    refine F_aload_n (i := 0) (a := 0) rfl rfl (dk_X7_undo 87 _ rfl) ?_
    refine F_gR (b := 26) fxM_7_48_0 fl_7_157 (dk_X7_undo 88 _ rfl) ?_
    refine F_iload_n (i := 1) (a := 1) rfl rfl (dk_X7_undo 91 _ rfl) ?_
    refine F_iald (axM_0_26) (dk_X7_undo 92 _ rfl) (fun x14 => ?_)
    refine F_iast (axM_0_3) (dk_X7_undo 93 _ rfl) (fun m15 => ?_)
    refine F_aload_n (i := 0) (a := 0) rfl rfl (dk_X7_undo 94 _ rfl) ?_
    refine F_gR (b := 4) fxM_7_6_0 fl_7_29 (dk_X7_undo 95 _ rfl) ?_
    refine F_iload_n (i := 1) (a := 1) rfl rfl (dk_X7_undo 98 _ rfl) ?_
    refine F_aload_n (i := 0) (a := 0) rfl rfl (dk_X7_undo 99 _ rfl) ?_
    refine F_gR (b := 27) fxM_7_49_0 fl_7_160 (dk_X7_undo 100 _ rfl) ?_
    refine F_iload_n (i := 1) (a := 1) rfl rfl (dk_X7_undo 103 _ rfl) ?_
    refine F_iald (axM_0_27) (dk_X7_undo 104 _ rfl) (fun x16 => ?_)
    refine F_iast (axM_0_4) (dk_X7_undo 105 _ rfl) (fun m17 => ?_)
    refine F_aload_n (i := 0) (a := 0) rfl rfl (dk_X7_undo 106 _ rfl) ?_
    refine F_gR (b := 5) fxM_7_7_0 fl_7_32 (dk_X7_undo 107 _ rfl) ?_
    refine F_iload_n (i := 1) (a := 1) rfl rfl (dk_X7_undo 110 _ rfl) ?_
    refine F_aload_n (i := 0) (a := 0) rfl rfl (dk_X7_undo 111 _ rfl) ?_
    refine F_gR (b := 28) fxM_7_50_0 fl_7_163 (dk_X7_undo 112 _ rfl) ?_
    refine F_iload_n (i := 1) (a := 1) rfl rfl (dk_X7_undo 115 _ rfl) ?_
    refine F_iald (axM_0_28) (dk_X7_undo 116 _ rfl) (fun x18 => ?_)
    refine F_iast (axM_0_5) (dk_X7_undo 117 _ rfl) (fun m19 => ?_)
    refine F_aload_n (i := 0) (a := 0) rfl rfl (dk_X7_undo 118 _ rfl) ?_
    refine F_gR (b := 7) fxM_7_9_0 fl_7_38 (dk_X7_undo 119 _ rfl) ?_
    refine F_iload_n (i := 1) (a := 1) rfl rfl (dk_X7_undo 122 _ rfl) ?_
    refine F_aload_n (i := 0) (a := 0) rfl rfl (dk_X7_undo 123 _ rfl) ?_
    refine F_gR (b := 31) fxM_7_53_0 fl_7_172 (dk_X7_undo 124 _ rfl) ?_
    refine F_iload_n (i := 1) (a := 1) rfl rfl (dk_X7_undo 127 _ rfl) ?_
    refine F_zald (axM_3_31) (dk_X7_undo 128 _ rfl) (fun x20 => ?_)
    refine F_zast (axM_3_7) (dk_X7_undo 129 _ rfl) (fun m21 => ?_)
    refine F_iinc (i := 1) (n := 1) (v := (y1 + 1)) (lv' := [(1, .int (y1 + 1)), (0, .ref 0)]) rfl (by first | rfl | decide) (by decide) rfl (dk_X7_undo 130 _ rfl) ?_
    refine F_goto (tgt := 52) (by decide) (dk_X7_undo 133 _ rfl) ?_
    exact F_loc (List.forall_mem_cons.mpr ⟨(.tail _ (.head _)), (List.forall_mem_cons.mpr ⟨(.head _), (fun _ z => absurd z List.not_mem_nil)⟩)⟩) (hK52 _ _ )
theorem j_X7_undo_52   : ∀ (F : Nat) (m : mM) (y1 : Int32) , JF false uI m_X7_undo 2 52 [(0, .ref 0), (1, .int y1)] [] m (f_X7_undo_52  F m y1) := by
  intro F
  induction F with
  | zero => intro m y1 ; exact F_no
  | succ F ih => intro m y1 ; exact jb_X7_undo_52  (f_X7_undo_52  F)  ih m y1 
def f_X7_undo (m : mM)  : fR Int32 :=
  (if (mI m 40) = 0 then some ((-3), m) else nmM (wI m 11 (mI m 41)) fun m1 => nmM (wI m1 0 (mI m1 42)) fun m2 => nmM (wI m2 1 (mI m2 43)) fun m3 => nmM (wI m3 2 (mI m3 44)) fun m4 => nmM (wI m4 38 (mI m4 45)) fun m5 => (f_X7_undo_52  1000 m5 0))
theorem c_X7_undo (m : mM)   : cF false uI m_X7_undo 2 [.ref 0] m (f_X7_undo m ) := by
  refine cF_of ok_X7_undo (fun _ _ => Nat.le_of_ble_eq_true rfl) ?_
  unfold f_X7_undo
  show JF _ _ _ _ _ [(0, .ref 0)] _ _ _
  refine F_aload_n (i := 0) (a := 0) rfl rfl (dk_X7_undo 0 _ rfl) ?_
  refine F_gI (n := 40) fxM_7_40_0 rfl fl_7_132 (dk_X7_undo 1 _ rfl) ?_
  refine F_if_ne (tgt := 10) (by decide) (dk_X7_undo 4 _ rfl) ?_ ?_
  · refine F_aload_n (i := 0) (a := 0) rfl rfl (dk_X7_undo 10 _ rfl) ?_
    refine F_aload_n (i := 0) (a := 0) rfl rfl (dk_X7_undo 11 _ rfl) ?_
    refine F_gI (n := 41) fxM_7_41_0 rfl fl_7_136 (dk_X7_undo 12 _ rfl) ?_
    refine F_pI (n := 11) fxM_7_11_0 rfl fl_7_45 (fun q hq => by cases hq; rfl) trivial (dk_X7_undo 15 _ rfl) (fun m1 => ?_)
    refine F_aload_n (i := 0) (a := 0) rfl rfl (dk_X7_undo 18 _ rfl) ?_
    refine F_aload_n (i := 0) (a := 0) rfl rfl (dk_X7_undo 19 _ rfl) ?_
    refine F_gI (n := 42) fxM_7_42_0 rfl fl_7_139 (dk_X7_undo 20 _ rfl) ?_
    refine F_pI (n := 0) fxM_7_0_0 rfl fl_7_7 (fun q hq => by cases hq; rfl) trivial (dk_X7_undo 23 _ rfl) (fun m2 => ?_)
    refine F_aload_n (i := 0) (a := 0) rfl rfl (dk_X7_undo 26 _ rfl) ?_
    refine F_aload_n (i := 0) (a := 0) rfl rfl (dk_X7_undo 27 _ rfl) ?_
    refine F_gI (n := 43) fxM_7_43_0 rfl fl_7_142 (dk_X7_undo 28 _ rfl) ?_
    refine F_pI (n := 1) fxM_7_1_0 rfl fl_7_13 (fun q hq => by cases hq; rfl) trivial (dk_X7_undo 31 _ rfl) (fun m3 => ?_)
    refine F_aload_n (i := 0) (a := 0) rfl rfl (dk_X7_undo 34 _ rfl) ?_
    refine F_aload_n (i := 0) (a := 0) rfl rfl (dk_X7_undo 35 _ rfl) ?_
    refine F_gI (n := 44) fxM_7_44_0 rfl fl_7_145 (dk_X7_undo 36 _ rfl) ?_
    refine F_pI (n := 2) fxM_7_2_0 rfl fl_7_16 (fun q hq => by cases hq; rfl) trivial (dk_X7_undo 39 _ rfl) (fun m4 => ?_)
    refine F_aload_n (i := 0) (a := 0) rfl rfl (dk_X7_undo 42 _ rfl) ?_
    refine F_aload_n (i := 0) (a := 0) rfl rfl (dk_X7_undo 43 _ rfl) ?_
    refine F_gI (n := 45) fxM_7_45_0 rfl fl_7_148 (dk_X7_undo 44 _ rfl) ?_
    refine F_pI (n := 38) fxM_7_38_0 rfl fl_7_126 (fun q hq => by cases hq; rfl) trivial (dk_X7_undo 47 _ rfl) (fun m5 => ?_)
    refine F_iconst (v := 0) (by decide) (dk_X7_undo 50 _ rfl) ?_
    refine F_istore_n (lv' := [(1, .int 0), (0, .ref 0)]) (i := 1) (a := 1) rfl (by decide) rfl (dk_X7_undo 51 _ rfl) ?_
    exact F_loc (List.forall_mem_cons.mpr ⟨(.tail _ (.head _)), (List.forall_mem_cons.mpr ⟨(.head _), (fun _ z => absurd z List.not_mem_nil)⟩)⟩) (j_X7_undo_52   1000 _ _ )
  · refine F_bipush (v := (-3)) (by decide) (dk_X7_undo 7 _ rfl) ?_
    exact F_ret rfl (dk_X7_undo 9 _ rfl)
def f_X7_body_19  (m : mM)  : fR Unit :=
  nmM (wI m 54 (((mI m 54) + 1))) fun m1 => some ((), m1)
theorem j_X7_body_19   (m : mM)   : JF false uU m_X7_body 2 19 [(0, .ref 0)] [] m (f_X7_body_19  m ) := by
  unfold f_X7_body_19
  refine F_aload_n (i := 0) (a := 0) rfl rfl (dk_X7_body 19 _ rfl) ?_
  refine F_dup rfl (dk_X7_body 20 _ rfl) ?_
  refine F_gI (n := 54) fxM_7_54_0 rfl fl_7_175 (dk_X7_body 21 _ rfl) ?_
  refine F_iconst (v := 1) (by decide) (dk_X7_body 24 _ rfl) ?_
  refine F_iadd (dk_X7_body 25 _ rfl) ?_
  refine F_pI (n := 54) fxM_7_54_0 rfl fl_7_175 (fun q hq => by cases hq; rfl) trivial (dk_X7_body 26 _ rfl) (fun m1 => ?_)
  exact F_retV rfl (dk_X7_body 29 _ rfl)
def f_X7_body (m : mM) (p1 : Int32) : fR Unit :=
  (if 20 ≤ (mI m 54) then (f_X7_body_19  m ) else (sA 0 m 32 (mI m 54) p1).bind fun m2 => (f_X7_body_19  m2 ))
theorem c_X7_body (m : mM) (p1 : Int32)  : cF false uU m_X7_body 2 [.ref 0, .int p1] m (f_X7_body m p1) := by
  refine cF_of ok_X7_body (fun _ _ => Nat.le_of_ble_eq_true rfl) ?_
  unfold f_X7_body
  show JF _ _ _ _ _ [(0, .ref 0), (1, .int p1)] _ _ _
  refine F_aload_n (i := 0) (a := 0) rfl rfl (dk_X7_body 0 _ rfl) ?_
  refine F_gI (n := 54) fxM_7_54_0 rfl fl_7_175 (dk_X7_body 1 _ rfl) ?_
  refine F_bipush (v := 20) (by decide) (dk_X7_body 4 _ rfl) ?_
  refine F_icmp_ge (tgt := 19) (by decide) (dk_X7_body 6 _ rfl) ?_ ?_
  · exact F_loc (List.forall_mem_cons.mpr ⟨(.head _), (fun _ z => absurd z List.not_mem_nil)⟩) (j_X7_body_19   _  )
  · refine F_aload_n (i := 0) (a := 0) rfl rfl (dk_X7_body 9 _ rfl) ?_
    refine F_gR (b := 32) fxM_7_55_0 fl_7_178 (dk_X7_body 10 _ rfl) ?_
    refine F_aload_n (i := 0) (a := 0) rfl rfl (dk_X7_body 13 _ rfl) ?_
    refine F_gI (n := 54) fxM_7_54_0 rfl fl_7_175 (dk_X7_body 14 _ rfl) ?_
    refine F_iload_n (i := 1) (a := 1) rfl rfl (dk_X7_body 17 _ rfl) ?_
    refine F_iast (axM_0_32) (dk_X7_body 18 _ rfl) (fun m2 => ?_)
    exact F_loc (List.forall_mem_cons.mpr ⟨(.head _), (fun _ z => absurd z List.not_mem_nil)⟩) (j_X7_body_19   _  )
def f_X7_sellerSells (m : mM) (p1 : Int32) (p2 : Int32) : fR Int32 :=
  bnd (f_X7_body m 10) fun (x1 : Unit) (m2 : mM) => some ((p2 + p1), m2)
theorem c_X7_sellerSells (m : mM) (p1 : Int32) (p2 : Int32)  : cF false uI m_X7_sellerSells 3 [.ref 0, .int p1, .int p2] m (f_X7_sellerSells m p1 p2) := by
  refine cF_of ok_X7_sellerSells (fun _ _ => Nat.le_of_ble_eq_true rfl) ?_
  unfold f_X7_sellerSells
  show JF _ _ _ _ _ [(0, .ref 0), (1, .int p1), (2, .int p2)] _ _ _
  refine F_aload_n (i := 0) (a := 0) rfl rfl (dk_X7_sellerSells 0 _ rfl) ?_
  refine F_bipush (v := 10) (by decide) (dk_X7_sellerSells 1 _ rfl) ?_
  refine F_callV (ι' := uU) (ci := 7) (b := 0) (As := [.int 10]) (d' := 2) (rfl) ok_X7_body vi_X7_body cl_7_357 (n := 1) (by decide +kernel) rfl rfl rfl (Nat.le_of_ble_eq_true rfl) (by omega) (dk_X7_sellerSells 3 _ rfl) (c_X7_body _ _ ) (fun x1 m2 => ?_)
  show JF _ _ _ _ _ _ [] _ _
  refine F_iload_n (i := 2) (a := 2) rfl rfl (dk_X7_sellerSells 6 _ rfl) ?_
  refine F_iload_n (i := 1) (a := 1) rfl rfl (dk_X7_sellerSells 7 _ rfl) ?_
  refine F_iadd (dk_X7_sellerSells 8 _ rfl) ?_
  exact F_ret rfl (dk_X7_sellerSells 9 _ rfl)
def f_X7_sellsAct (m : mM) (p1 : Int32) (p2 : Int32) : fR Int32 :=
  (gA (mA m 1) p1).bind fun x1 => (if x1 = 2 then bnd (f_X7_body m 30) fun (x3 : Unit) (m4 : mM) => bnd (f_X7_sellerSells m4 p1 (p2 * 3)) fun (x6 : Int32) (m7 : mM) => some (x6, m7) else if x1 = 4 then bnd (f_X7_body m 50) fun (x9 : Unit) (m10 : mM) => bnd (f_X7_sellerSells m10 p1 p2) fun (x12 : Int32) (m13 : mM) => some ((-x12), m13) else if x1 = 5 then bnd (f_X7_body m 30) fun (x15 : Unit) (m16 : mM) => bnd (f_X7_sellerSells m16 p1 (p2 * 3)) fun (x18 : Int32) (m19 : mM) => some (x18, m19) else if x1 = 6 then bnd (f_X7_body m 71) fun (x21 : Unit) (m22 : mM) => bnd (f_X7_sellerSells m22 p1 p2) fun (x24 : Int32) (m25 : mM) => (gA (mA m25 2) p1).bind fun x27 => some ((x24 ^^^ x27), m25) else if x1 = 3 then bnd (f_X7_sellerSells m p1 p2) fun (x28 : Int32) (m29 : mM) => some (x28, m29) else bnd (f_X7_sellerSells m p1 p2) fun (x31 : Int32) (m32 : mM) => some (x31, m32))
theorem c_X7_sellsAct (m : mM) (p1 : Int32) (p2 : Int32)  : cF false uI m_X7_sellsAct 4 [.ref 0, .int p1, .int p2] m (f_X7_sellsAct m p1 p2) := by
  refine cF_of ok_X7_sellsAct (fun _ _ => Nat.le_of_ble_eq_true rfl) ?_
  unfold f_X7_sellsAct
  show JF _ _ _ _ _ [(0, .ref 0), (1, .int p1), (2, .int p2)] _ _ _
  refine F_aload_n (i := 0) (a := 0) rfl rfl (dk_X7_sellsAct 0 _ rfl) ?_
  refine F_gR (b := 1) fxM_7_3_0 fl_7_19 (dk_X7_sellsAct 1 _ rfl) ?_
  refine F_iload_n (i := 1) (a := 1) rfl rfl (dk_X7_sellsAct 4 _ rfl) ?_
  refine F_iald (axM_0_1) (dk_X7_sellsAct 5 _ rfl) (fun x1 => ?_)
  refine F_case (fun c2_0 => ?_) (fun c2_0 => ?_)
  · rw [c2_0]; refine F_tin (off := 34) (tgt := 40) (by decide) (by decide) rfl (by decide) (dk_X7_sellsAct 6 _ rfl) ?_
    refine F_aload_n (i := 0) (a := 0) rfl rfl (dk_X7_sellsAct 40 _ rfl) ?_
    refine F_bipush (v := 30) (by decide) (dk_X7_sellsAct 41 _ rfl) ?_
    refine F_callV (ι' := uU) (ci := 7) (b := 0) (As := [.int 30]) (d' := 2) (rfl) ok_X7_body vi_X7_body cl_7_357 (n := 1) (by decide +kernel) rfl rfl rfl (Nat.le_of_ble_eq_true rfl) (by omega) (dk_X7_sellsAct 43 _ rfl) (c_X7_body _ _ ) (fun x3 m4 => ?_)
    show JF _ _ _ _ _ _ [] _ _
    refine F_aload_n (i := 0) (a := 0) rfl rfl (dk_X7_sellsAct 46 _ rfl) ?_
    refine F_iload_n (i := 1) (a := 1) rfl rfl (dk_X7_sellsAct 47 _ rfl) ?_
    refine F_iload_n (i := 2) (a := 2) rfl rfl (dk_X7_sellsAct 48 _ rfl) ?_
    refine F_iconst (v := 3) (by decide) (dk_X7_sellsAct 49 _ rfl) ?_
    refine F_imul (dk_X7_sellsAct 50 _ rfl) ?_
    refine F_callV (ι' := uI) (ci := 7) (b := 0) (As := [.int p1, .int (p2 * 3)]) (d' := 3) (rfl) ok_X7_sellerSells vi_X7_sellerSells cl_7_360 (n := 2) (by decide +kernel) rfl rfl rfl (Nat.le_of_ble_eq_true rfl) (by omega) (dk_X7_sellsAct 51 _ rfl) (c_X7_sellerSells _ _ _ ) (fun x6 m7 => ?_)
    show JF _ _ _ _ _ _ [.int x6] _ _
    exact F_ret rfl (dk_X7_sellsAct 54 _ rfl)
  refine F_case (fun c2_1 => ?_) (fun c2_1 => ?_)
  · rw [c2_1]; refine F_tin (off := 49) (tgt := 55) (by decide) (by decide) rfl (by decide) (dk_X7_sellsAct 6 _ rfl) ?_
    refine F_aload_n (i := 0) (a := 0) rfl rfl (dk_X7_sellsAct 55 _ rfl) ?_
    refine F_bipush (v := 50) (by decide) (dk_X7_sellsAct 56 _ rfl) ?_
    refine F_callV (ι' := uU) (ci := 7) (b := 0) (As := [.int 50]) (d' := 2) (rfl) ok_X7_body vi_X7_body cl_7_357 (n := 1) (by decide +kernel) rfl rfl rfl (Nat.le_of_ble_eq_true rfl) (by omega) (dk_X7_sellsAct 58 _ rfl) (c_X7_body _ _ ) (fun x9 m10 => ?_)
    show JF _ _ _ _ _ _ [] _ _
    refine F_aload_n (i := 0) (a := 0) rfl rfl (dk_X7_sellsAct 61 _ rfl) ?_
    refine F_iload_n (i := 1) (a := 1) rfl rfl (dk_X7_sellsAct 62 _ rfl) ?_
    refine F_iload_n (i := 2) (a := 2) rfl rfl (dk_X7_sellsAct 63 _ rfl) ?_
    refine F_callV (ι' := uI) (ci := 7) (b := 0) (As := [.int p1, .int p2]) (d' := 3) (rfl) ok_X7_sellerSells vi_X7_sellerSells cl_7_360 (n := 2) (by decide +kernel) rfl rfl rfl (Nat.le_of_ble_eq_true rfl) (by omega) (dk_X7_sellsAct 64 _ rfl) (c_X7_sellerSells _ _ _ ) (fun x12 m13 => ?_)
    show JF _ _ _ _ _ _ [.int x12] _ _
    refine F_ineg (dk_X7_sellsAct 67 _ rfl) ?_
    exact F_ret rfl (dk_X7_sellsAct 68 _ rfl)
  refine F_case (fun c2_2 => ?_) (fun c2_2 => ?_)
  · rw [c2_2]; refine F_tin (off := 34) (tgt := 40) (by decide) (by decide) rfl (by decide) (dk_X7_sellsAct 6 _ rfl) ?_
    refine F_aload_n (i := 0) (a := 0) rfl rfl (dk_X7_sellsAct 40 _ rfl) ?_
    refine F_bipush (v := 30) (by decide) (dk_X7_sellsAct 41 _ rfl) ?_
    refine F_callV (ι' := uU) (ci := 7) (b := 0) (As := [.int 30]) (d' := 2) (rfl) ok_X7_body vi_X7_body cl_7_357 (n := 1) (by decide +kernel) rfl rfl rfl (Nat.le_of_ble_eq_true rfl) (by omega) (dk_X7_sellsAct 43 _ rfl) (c_X7_body _ _ ) (fun x15 m16 => ?_)
    show JF _ _ _ _ _ _ [] _ _
    refine F_aload_n (i := 0) (a := 0) rfl rfl (dk_X7_sellsAct 46 _ rfl) ?_
    refine F_iload_n (i := 1) (a := 1) rfl rfl (dk_X7_sellsAct 47 _ rfl) ?_
    refine F_iload_n (i := 2) (a := 2) rfl rfl (dk_X7_sellsAct 48 _ rfl) ?_
    refine F_iconst (v := 3) (by decide) (dk_X7_sellsAct 49 _ rfl) ?_
    refine F_imul (dk_X7_sellsAct 50 _ rfl) ?_
    refine F_callV (ι' := uI) (ci := 7) (b := 0) (As := [.int p1, .int (p2 * 3)]) (d' := 3) (rfl) ok_X7_sellerSells vi_X7_sellerSells cl_7_360 (n := 2) (by decide +kernel) rfl rfl rfl (Nat.le_of_ble_eq_true rfl) (by omega) (dk_X7_sellsAct 51 _ rfl) (c_X7_sellerSells _ _ _ ) (fun x18 m19 => ?_)
    show JF _ _ _ _ _ _ [.int x18] _ _
    exact F_ret rfl (dk_X7_sellsAct 54 _ rfl)
  refine F_case (fun c2_3 => ?_) (fun c2_3 => ?_)
  · rw [c2_3]; refine F_tin (off := 63) (tgt := 69) (by decide) (by decide) rfl (by decide) (dk_X7_sellsAct 6 _ rfl) ?_
    refine F_aload_n (i := 0) (a := 0) rfl rfl (dk_X7_sellsAct 69 _ rfl) ?_
    refine F_bipush (v := 71) (by decide) (dk_X7_sellsAct 70 _ rfl) ?_
    refine F_callV (ι' := uU) (ci := 7) (b := 0) (As := [.int 71]) (d' := 2) (rfl) ok_X7_body vi_X7_body cl_7_357 (n := 1) (by decide +kernel) rfl rfl rfl (Nat.le_of_ble_eq_true rfl) (by omega) (dk_X7_sellsAct 72 _ rfl) (c_X7_body _ _ ) (fun x21 m22 => ?_)
    show JF _ _ _ _ _ _ [] _ _
    refine F_aload_n (i := 0) (a := 0) rfl rfl (dk_X7_sellsAct 75 _ rfl) ?_
    refine F_iload_n (i := 1) (a := 1) rfl rfl (dk_X7_sellsAct 76 _ rfl) ?_
    refine F_iload_n (i := 2) (a := 2) rfl rfl (dk_X7_sellsAct 77 _ rfl) ?_
    refine F_callV (ι' := uI) (ci := 7) (b := 0) (As := [.int p1, .int p2]) (d' := 3) (rfl) ok_X7_sellerSells vi_X7_sellerSells cl_7_360 (n := 2) (by decide +kernel) rfl rfl rfl (Nat.le_of_ble_eq_true rfl) (by omega) (dk_X7_sellsAct 78 _ rfl) (c_X7_sellerSells _ _ _ ) (fun x24 m25 => ?_)
    show JF _ _ _ _ _ _ [.int x24] _ _
    refine F_aload_n (i := 0) (a := 0) rfl rfl (dk_X7_sellsAct 81 _ rfl) ?_
    refine F_gR (b := 2) fxM_7_4_0 fl_7_23 (dk_X7_sellsAct 82 _ rfl) ?_
    refine F_iload_n (i := 1) (a := 1) rfl rfl (dk_X7_sellsAct 85 _ rfl) ?_
    refine F_iald (axM_0_2) (dk_X7_sellsAct 86 _ rfl) (fun x27 => ?_)
    refine F_ixor (dk_X7_sellsAct 87 _ rfl) ?_
    exact F_ret rfl (dk_X7_sellsAct 88 _ rfl)
  refine F_case (fun c2_4 => ?_) (fun c2_4 => ?_)
  · rw [c2_4]; refine F_tin (off := 83) (tgt := 89) (by decide) (by decide) rfl (by decide) (dk_X7_sellsAct 6 _ rfl) ?_
    refine F_aload_n (i := 0) (a := 0) rfl rfl (dk_X7_sellsAct 89 _ rfl) ?_
    refine F_iload_n (i := 1) (a := 1) rfl rfl (dk_X7_sellsAct 90 _ rfl) ?_
    refine F_iload_n (i := 2) (a := 2) rfl rfl (dk_X7_sellsAct 91 _ rfl) ?_
    refine F_callV (ι' := uI) (ci := 7) (b := 0) (As := [.int p1, .int p2]) (d' := 3) (rfl) ok_X7_sellerSells vi_X7_sellerSells cl_7_360 (n := 2) (by decide +kernel) rfl rfl rfl (Nat.le_of_ble_eq_true rfl) (by omega) (dk_X7_sellsAct 92 _ rfl) (c_X7_sellerSells _ _ _ ) (fun x28 m29 => ?_)
    show JF _ _ _ _ _ _ [.int x28] _ _
    exact F_ret rfl (dk_X7_sellsAct 95 _ rfl)
  refine F_tout (tgt := 89) (by have q0 := fI_ne c2_0; rw [show (2 : Int32).toInt = 2 from by decide] at q0; have q1 := fI_ne c2_1; rw [show (4 : Int32).toInt = 4 from by decide] at q1; have q2 := fI_ne c2_2; rw [show (5 : Int32).toInt = 5 from by decide] at q2; have q3 := fI_ne c2_3; rw [show (6 : Int32).toInt = 6 from by decide] at q3; have q4 := fI_ne c2_4; rw [show (3 : Int32).toInt = 3 from by decide] at q4; omega) (by decide) (dk_X7_sellsAct 6 _ rfl) ?_
  refine F_aload_n (i := 0) (a := 0) rfl rfl (dk_X7_sellsAct 89 _ rfl) ?_
  refine F_iload_n (i := 1) (a := 1) rfl rfl (dk_X7_sellsAct 90 _ rfl) ?_
  refine F_iload_n (i := 2) (a := 2) rfl rfl (dk_X7_sellsAct 91 _ rfl) ?_
  refine F_callV (ι' := uI) (ci := 7) (b := 0) (As := [.int p1, .int p2]) (d' := 3) (rfl) ok_X7_sellerSells vi_X7_sellerSells cl_7_360 (n := 2) (by decide +kernel) rfl rfl rfl (Nat.le_of_ble_eq_true rfl) (by omega) (dk_X7_sellsAct 92 _ rfl) (c_X7_sellerSells _ _ _ ) (fun x31 m32 => ?_)
  show JF _ _ _ _ _ _ [.int x31] _ _
  exact F_ret rfl (dk_X7_sellsAct 95 _ rfl)
def f_X7_sellerGives (m : mM) (p1 : Int32) (p2 : Int32) : fR Int32 :=
  bnd (f_X7_body m 11) fun (x1 : Unit) (m2 : mM) => bnd (f_X7_sellsAct m2 p1 p2) fun (x4 : Int32) (m5 : mM) => (gA (mA m5 2) p1).bind fun x7 => some ((x4 - x7), m5)
theorem c_X7_sellerGives (m : mM) (p1 : Int32) (p2 : Int32)  : cF false uI m_X7_sellerGives 5 [.ref 0, .int p1, .int p2] m (f_X7_sellerGives m p1 p2) := by
  refine cF_of ok_X7_sellerGives (fun _ _ => Nat.le_of_ble_eq_true rfl) ?_
  unfold f_X7_sellerGives
  show JF _ _ _ _ _ [(0, .ref 0), (1, .int p1), (2, .int p2)] _ _ _
  refine F_aload_n (i := 0) (a := 0) rfl rfl (dk_X7_sellerGives 0 _ rfl) ?_
  refine F_bipush (v := 11) (by decide) (dk_X7_sellerGives 1 _ rfl) ?_
  refine F_callV (ι' := uU) (ci := 7) (b := 0) (As := [.int 11]) (d' := 2) (rfl) ok_X7_body vi_X7_body cl_7_357 (n := 1) (by decide +kernel) rfl rfl rfl (Nat.le_of_ble_eq_true rfl) (by omega) (dk_X7_sellerGives 3 _ rfl) (c_X7_body _ _ ) (fun x1 m2 => ?_)
  show JF _ _ _ _ _ _ [] _ _
  refine F_aload_n (i := 0) (a := 0) rfl rfl (dk_X7_sellerGives 6 _ rfl) ?_
  refine F_iload_n (i := 1) (a := 1) rfl rfl (dk_X7_sellerGives 7 _ rfl) ?_
  refine F_iload_n (i := 2) (a := 2) rfl rfl (dk_X7_sellerGives 8 _ rfl) ?_
  refine F_callV (ι' := uI) (ci := 7) (b := 0) (As := [.int p1, .int p2]) (d' := 4) (rfl) ok_X7_sellsAct vi_X7_sellsAct cl_7_363 (n := 2) (by decide +kernel) rfl rfl rfl (Nat.le_of_ble_eq_true rfl) (by omega) (dk_X7_sellerGives 9 _ rfl) (c_X7_sellsAct _ _ _ ) (fun x4 m5 => ?_)
  show JF _ _ _ _ _ _ [.int x4] _ _
  refine F_aload_n (i := 0) (a := 0) rfl rfl (dk_X7_sellerGives 12 _ rfl) ?_
  refine F_gR (b := 2) fxM_7_4_0 fl_7_23 (dk_X7_sellerGives 13 _ rfl) ?_
  refine F_iload_n (i := 1) (a := 1) rfl rfl (dk_X7_sellerGives 16 _ rfl) ?_
  refine F_iald (axM_0_2) (dk_X7_sellerGives 17 _ rfl) (fun x7 => ?_)
  refine F_isub (dk_X7_sellerGives 18 _ rfl) ?_
  exact F_ret rfl (dk_X7_sellerGives 19 _ rfl)
def f_X7_haterGives (m : mM) (p1 : Int32) (p2 : Int32) : fR Int32 :=
  bnd (f_X7_body m 20) fun (x1 : Unit) (m2 : mM) => bnd (f_X7_sellerGives m2 p1 p2) fun (x4 : Int32) (m5 : mM) => some ((x4 ^^^ 6), m5)
theorem c_X7_haterGives (m : mM) (p1 : Int32) (p2 : Int32)  : cF false uI m_X7_haterGives 6 [.ref 0, .int p1, .int p2] m (f_X7_haterGives m p1 p2) := by
  refine cF_of ok_X7_haterGives (fun _ _ => Nat.le_of_ble_eq_true rfl) ?_
  unfold f_X7_haterGives
  show JF _ _ _ _ _ [(0, .ref 0), (1, .int p1), (2, .int p2)] _ _ _
  refine F_aload_n (i := 0) (a := 0) rfl rfl (dk_X7_haterGives 0 _ rfl) ?_
  refine F_bipush (v := 20) (by decide) (dk_X7_haterGives 1 _ rfl) ?_
  refine F_callV (ι' := uU) (ci := 7) (b := 0) (As := [.int 20]) (d' := 2) (rfl) ok_X7_body vi_X7_body cl_7_357 (n := 1) (by decide +kernel) rfl rfl rfl (Nat.le_of_ble_eq_true rfl) (by omega) (dk_X7_haterGives 3 _ rfl) (c_X7_body _ _ ) (fun x1 m2 => ?_)
  show JF _ _ _ _ _ _ [] _ _
  refine F_aload_n (i := 0) (a := 0) rfl rfl (dk_X7_haterGives 6 _ rfl) ?_
  refine F_iload_n (i := 1) (a := 1) rfl rfl (dk_X7_haterGives 7 _ rfl) ?_
  refine F_iload_n (i := 2) (a := 2) rfl rfl (dk_X7_haterGives 8 _ rfl) ?_
  refine F_callV (ι' := uI) (ci := 7) (b := 0) (As := [.int p1, .int p2]) (d' := 5) (rfl) ok_X7_sellerGives vi_X7_sellerGives cl_7_366 (n := 2) (by decide +kernel) rfl rfl rfl (Nat.le_of_ble_eq_true rfl) (by omega) (dk_X7_haterGives 9 _ rfl) (c_X7_sellerGives _ _ _ ) (fun x4 m5 => ?_)
  show JF _ _ _ _ _ _ [.int x4] _ _
  refine F_bipush (v := 6) (by decide) (dk_X7_haterGives 12 _ rfl) ?_
  refine F_ixor (dk_X7_haterGives 14 _ rfl) ?_
  exact F_ret rfl (dk_X7_haterGives 15 _ rfl)
def f_X7_givesAct (m : mM) (p1 : Int32) (p2 : Int32) : fR Int32 :=
  (gA (mA m 1) p1).bind fun x1 => (if x1 = 1 then bnd (f_X7_haterGives m p1 p2) fun (x3 : Int32) (m4 : mM) => some (x3, m4) else if x1 = 4 then bnd (f_X7_body m 51) fun (x6 : Unit) (m7 : mM) => bnd (f_X7_haterGives m7 p1 (p2 + 1)) fun (x9 : Int32) (m10 : mM) => some (x9, m10) else if x1 = 6 then bnd (f_X7_body m 70) fun (x12 : Unit) (m13 : mM) => bnd (f_X7_sellerGives m13 p1 p2) fun (x15 : Int32) (m16 : mM) => bnd (f_X7_sellerSells m16 p1 2) fun (x18 : Int32) (m19 : mM) => some ((x15 + x18), m19) else bnd (f_X7_sellerGives m p1 p2) fun (x21 : Int32) (m22 : mM) => some (x21, m22))
theorem c_X7_givesAct (m : mM) (p1 : Int32) (p2 : Int32)  : cF false uI m_X7_givesAct 7 [.ref 0, .int p1, .int p2] m (f_X7_givesAct m p1 p2) := by
  refine cF_of ok_X7_givesAct (fun _ _ => Nat.le_of_ble_eq_true rfl) ?_
  unfold f_X7_givesAct
  show JF _ _ _ _ _ [(0, .ref 0), (1, .int p1), (2, .int p2)] _ _ _
  refine F_aload_n (i := 0) (a := 0) rfl rfl (dk_X7_givesAct 0 _ rfl) ?_
  refine F_gR (b := 1) fxM_7_3_0 fl_7_19 (dk_X7_givesAct 1 _ rfl) ?_
  refine F_iload_n (i := 1) (a := 1) rfl rfl (dk_X7_givesAct 4 _ rfl) ?_
  refine F_iald (axM_0_1) (dk_X7_givesAct 5 _ rfl) (fun x1 => ?_)
  refine F_case (fun c2_0 => ?_) (fun c2_0 => ?_)
  · rw [c2_0]; refine F_look (off := 34) (tgt := 40) (by decide) (by decide) (by decide) (dk_X7_givesAct 6 _ rfl) ?_
    refine F_aload_n (i := 0) (a := 0) rfl rfl (dk_X7_givesAct 40 _ rfl) ?_
    refine F_iload_n (i := 1) (a := 1) rfl rfl (dk_X7_givesAct 41 _ rfl) ?_
    refine F_iload_n (i := 2) (a := 2) rfl rfl (dk_X7_givesAct 42 _ rfl) ?_
    refine F_callV (ι' := uI) (ci := 7) (b := 0) (As := [.int p1, .int p2]) (d' := 6) (rfl) ok_X7_haterGives vi_X7_haterGives cl_7_369 (n := 2) (by decide +kernel) rfl rfl rfl (Nat.le_of_ble_eq_true rfl) (by omega) (dk_X7_givesAct 43 _ rfl) (c_X7_haterGives _ _ _ ) (fun x3 m4 => ?_)
    show JF _ _ _ _ _ _ [.int x3] _ _
    exact F_ret rfl (dk_X7_givesAct 46 _ rfl)
  refine F_case (fun c2_1 => ?_) (fun c2_1 => ?_)
  · rw [c2_1]; refine F_look (off := 41) (tgt := 47) (by decide) (by decide) (by decide) (dk_X7_givesAct 6 _ rfl) ?_
    refine F_aload_n (i := 0) (a := 0) rfl rfl (dk_X7_givesAct 47 _ rfl) ?_
    refine F_bipush (v := 51) (by decide) (dk_X7_givesAct 48 _ rfl) ?_
    refine F_callV (ι' := uU) (ci := 7) (b := 0) (As := [.int 51]) (d' := 2) (rfl) ok_X7_body vi_X7_body cl_7_357 (n := 1) (by decide +kernel) rfl rfl rfl (Nat.le_of_ble_eq_true rfl) (by omega) (dk_X7_givesAct 50 _ rfl) (c_X7_body _ _ ) (fun x6 m7 => ?_)
    show JF _ _ _ _ _ _ [] _ _
    refine F_aload_n (i := 0) (a := 0) rfl rfl (dk_X7_givesAct 53 _ rfl) ?_
    refine F_iload_n (i := 1) (a := 1) rfl rfl (dk_X7_givesAct 54 _ rfl) ?_
    refine F_iload_n (i := 2) (a := 2) rfl rfl (dk_X7_givesAct 55 _ rfl) ?_
    refine F_iconst (v := 1) (by decide) (dk_X7_givesAct 56 _ rfl) ?_
    refine F_iadd (dk_X7_givesAct 57 _ rfl) ?_
    refine F_callV (ι' := uI) (ci := 7) (b := 0) (As := [.int p1, .int (p2 + 1)]) (d' := 6) (rfl) ok_X7_haterGives vi_X7_haterGives cl_7_369 (n := 2) (by decide +kernel) rfl rfl rfl (Nat.le_of_ble_eq_true rfl) (by omega) (dk_X7_givesAct 58 _ rfl) (c_X7_haterGives _ _ _ ) (fun x9 m10 => ?_)
    show JF _ _ _ _ _ _ [.int x9] _ _
    exact F_ret rfl (dk_X7_givesAct 61 _ rfl)
  refine F_case (fun c2_2 => ?_) (fun c2_2 => ?_)
  · rw [c2_2]; refine F_look (off := 56) (tgt := 62) (by decide) (by decide) (by decide) (dk_X7_givesAct 6 _ rfl) ?_
    refine F_aload_n (i := 0) (a := 0) rfl rfl (dk_X7_givesAct 62 _ rfl) ?_
    refine F_bipush (v := 70) (by decide) (dk_X7_givesAct 63 _ rfl) ?_
    refine F_callV (ι' := uU) (ci := 7) (b := 0) (As := [.int 70]) (d' := 2) (rfl) ok_X7_body vi_X7_body cl_7_357 (n := 1) (by decide +kernel) rfl rfl rfl (Nat.le_of_ble_eq_true rfl) (by omega) (dk_X7_givesAct 65 _ rfl) (c_X7_body _ _ ) (fun x12 m13 => ?_)
    show JF _ _ _ _ _ _ [] _ _
    refine F_aload_n (i := 0) (a := 0) rfl rfl (dk_X7_givesAct 68 _ rfl) ?_
    refine F_iload_n (i := 1) (a := 1) rfl rfl (dk_X7_givesAct 69 _ rfl) ?_
    refine F_iload_n (i := 2) (a := 2) rfl rfl (dk_X7_givesAct 70 _ rfl) ?_
    refine F_callV (ι' := uI) (ci := 7) (b := 0) (As := [.int p1, .int p2]) (d' := 5) (rfl) ok_X7_sellerGives vi_X7_sellerGives cl_7_366 (n := 2) (by decide +kernel) rfl rfl rfl (Nat.le_of_ble_eq_true rfl) (by omega) (dk_X7_givesAct 71 _ rfl) (c_X7_sellerGives _ _ _ ) (fun x15 m16 => ?_)
    show JF _ _ _ _ _ _ [.int x15] _ _
    refine F_istore_n (lv' := [(3, .int x15), (0, .ref 0), (1, .int p1), (2, .int p2)]) (i := 3) (a := 3) rfl (by decide) rfl (dk_X7_givesAct 74 _ rfl) ?_
    refine F_iload_n (i := 3) (a := 3) rfl rfl (dk_X7_givesAct 75 _ rfl) ?_
    refine F_aload_n (i := 0) (a := 0) rfl rfl (dk_X7_givesAct 76 _ rfl) ?_
    refine F_iload_n (i := 1) (a := 1) rfl rfl (dk_X7_givesAct 77 _ rfl) ?_
    refine F_iconst (v := 2) (by decide) (dk_X7_givesAct 78 _ rfl) ?_
    refine F_callV (ι' := uI) (ci := 7) (b := 0) (As := [.int p1, .int 2]) (d' := 3) (rfl) ok_X7_sellerSells vi_X7_sellerSells cl_7_360 (n := 2) (by decide +kernel) rfl rfl rfl (Nat.le_of_ble_eq_true rfl) (by omega) (dk_X7_givesAct 79 _ rfl) (c_X7_sellerSells _ _ _ ) (fun x18 m19 => ?_)
    show JF _ _ _ _ _ _ [.int x18, .int x15] _ _
    refine F_iadd (dk_X7_givesAct 82 _ rfl) ?_
    exact F_ret rfl (dk_X7_givesAct 83 _ rfl)
  refine F_look (off := 78) (tgt := 84) (by decide) (by have q0 := fI_ne c2_0; rw [show (1 : Int32).toInt = 1 from by decide] at q0; have q1 := fI_ne c2_1; rw [show (4 : Int32).toInt = 4 from by decide] at q1; have q2 := fI_ne c2_2; rw [show (6 : Int32).toInt = 6 from by decide] at q2; simp [Op.lookupswitch.offset, q0, Ne.symm q0, q1, Ne.symm q1, q2, Ne.symm q2]) (by decide) (dk_X7_givesAct 6 _ rfl) ?_
  refine F_aload_n (i := 0) (a := 0) rfl rfl (dk_X7_givesAct 84 _ rfl) ?_
  refine F_iload_n (i := 1) (a := 1) rfl rfl (dk_X7_givesAct 85 _ rfl) ?_
  refine F_iload_n (i := 2) (a := 2) rfl rfl (dk_X7_givesAct 86 _ rfl) ?_
  refine F_callV (ι' := uI) (ci := 7) (b := 0) (As := [.int p1, .int p2]) (d' := 5) (rfl) ok_X7_sellerGives vi_X7_sellerGives cl_7_366 (n := 2) (by decide +kernel) rfl rfl rfl (Nat.le_of_ble_eq_true rfl) (by omega) (dk_X7_givesAct 87 _ rfl) (c_X7_sellerGives _ _ _ ) (fun x21 m22 => ?_)
  show JF _ _ _ _ _ _ [.int x21] _ _
  exact F_ret rfl (dk_X7_givesAct 90 _ rfl)
def f_X7_sellerTells (m : mM) (p1 : Int32) (p2 : Int32) : fR Int32 :=
  bnd (f_X7_body m 12) fun (x1 : Unit) (m2 : mM) => bnd (f_X7_givesAct m2 p1 p2) fun (x4 : Int32) (m5 : mM) => some ((x4 * 2), m5)
theorem c_X7_sellerTells (m : mM) (p1 : Int32) (p2 : Int32)  : cF false uI m_X7_sellerTells 8 [.ref 0, .int p1, .int p2] m (f_X7_sellerTells m p1 p2) := by
  refine cF_of ok_X7_sellerTells (fun _ _ => Nat.le_of_ble_eq_true rfl) ?_
  unfold f_X7_sellerTells
  show JF _ _ _ _ _ [(0, .ref 0), (1, .int p1), (2, .int p2)] _ _ _
  refine F_aload_n (i := 0) (a := 0) rfl rfl (dk_X7_sellerTells 0 _ rfl) ?_
  refine F_bipush (v := 12) (by decide) (dk_X7_sellerTells 1 _ rfl) ?_
  refine F_callV (ι' := uU) (ci := 7) (b := 0) (As := [.int 12]) (d' := 2) (rfl) ok_X7_body vi_X7_body cl_7_357 (n := 1) (by decide +kernel) rfl rfl rfl (Nat.le_of_ble_eq_true rfl) (by omega) (dk_X7_sellerTells 3 _ rfl) (c_X7_body _ _ ) (fun x1 m2 => ?_)
  show JF _ _ _ _ _ _ [] _ _
  refine F_aload_n (i := 0) (a := 0) rfl rfl (dk_X7_sellerTells 6 _ rfl) ?_
  refine F_iload_n (i := 1) (a := 1) rfl rfl (dk_X7_sellerTells 7 _ rfl) ?_
  refine F_iload_n (i := 2) (a := 2) rfl rfl (dk_X7_sellerTells 8 _ rfl) ?_
  refine F_callV (ι' := uI) (ci := 7) (b := 0) (As := [.int p1, .int p2]) (d' := 7) (rfl) ok_X7_givesAct vi_X7_givesAct cl_7_372 (n := 2) (by decide +kernel) rfl rfl rfl (Nat.le_of_ble_eq_true rfl) (by omega) (dk_X7_sellerTells 9 _ rfl) (c_X7_givesAct _ _ _ ) (fun x4 m5 => ?_)
  show JF _ _ _ _ _ _ [.int x4] _ _
  refine F_iconst (v := 2) (by decide) (dk_X7_sellerTells 12 _ rfl) ?_
  refine F_imul (dk_X7_sellerTells 13 _ rfl) ?_
  exact F_ret rfl (dk_X7_sellerTells 14 _ rfl)
end
end
-- 21p.fun.lean.txt
section
section
set_option maxRecDepth 100000
def f_X7_tellsAct (m : mM) (p1 : Int32) (p2 : Int32) : fR Int32 :=
  (gA (mA m 1) p1).bind fun x1 => (if x1 = 3 then bnd (f_X7_body m 40) fun (x3 : Unit) (m4 : mM) => bnd (f_X7_sellerTells m4 p1 p2) fun (x6 : Int32) (m7 : mM) => bnd (f_X7_givesAct m7 p1 1) fun (x9 : Int32) (m10 : mM) => some ((x6 + x9), m10) else if x1 = 5 then bnd (f_X7_body m 60) fun (x12 : Unit) (m13 : mM) => bnd (f_X7_sellerTells m13 p1 (p2 - p1)) fun (x15 : Int32) (m16 : mM) => some (x15, m16) else if x1 = 6 then bnd (f_X7_body m 40) fun (x18 : Unit) (m19 : mM) => bnd (f_X7_sellerTells m19 p1 p2) fun (x21 : Int32) (m22 : mM) => bnd (f_X7_givesAct m22 p1 1) fun (x24 : Int32) (m25 : mM) => some ((x21 + x24), m25) else if x1 = 4 then bnd (f_X7_sellerTells m p1 p2) fun (x27 : Int32) (m28 : mM) => some (x27, m28) else bnd (f_X7_sellerTells m p1 p2) fun (x30 : Int32) (m31 : mM) => some (x30, m31))
theorem c_X7_tellsAct (m : mM) (p1 : Int32) (p2 : Int32)  : cF false uI m_X7_tellsAct 9 [.ref 0, .int p1, .int p2] m (f_X7_tellsAct m p1 p2) := by
  refine cF_of ok_X7_tellsAct (fun _ _ => Nat.le_of_ble_eq_true rfl) ?_
  unfold f_X7_tellsAct
  show JF _ _ _ _ _ [(0, .ref 0), (1, .int p1), (2, .int p2)] _ _ _
  refine F_aload_n (i := 0) (a := 0) rfl rfl (dk_X7_tellsAct 0 _ rfl) ?_
  refine F_gR (b := 1) fxM_7_3_0 fl_7_19 (dk_X7_tellsAct 1 _ rfl) ?_
  refine F_iload_n (i := 1) (a := 1) rfl rfl (dk_X7_tellsAct 4 _ rfl) ?_
  refine F_iald (axM_0_1) (dk_X7_tellsAct 5 _ rfl) (fun x1 => ?_)
  refine F_case (fun c2_0 => ?_) (fun c2_0 => ?_)
  · rw [c2_0]; refine F_tin (off := 30) (tgt := 36) (by decide) (by decide) rfl (by decide) (dk_X7_tellsAct 6 _ rfl) ?_
    refine F_aload_n (i := 0) (a := 0) rfl rfl (dk_X7_tellsAct 36 _ rfl) ?_
    refine F_bipush (v := 40) (by decide) (dk_X7_tellsAct 37 _ rfl) ?_
    refine F_callV (ι' := uU) (ci := 7) (b := 0) (As := [.int 40]) (d' := 2) (rfl) ok_X7_body vi_X7_body cl_7_357 (n := 1) (by decide +kernel) rfl rfl rfl (Nat.le_of_ble_eq_true rfl) (by omega) (dk_X7_tellsAct 39 _ rfl) (c_X7_body _ _ ) (fun x3 m4 => ?_)
    show JF _ _ _ _ _ _ [] _ _
    refine F_aload_n (i := 0) (a := 0) rfl rfl (dk_X7_tellsAct 42 _ rfl) ?_
    refine F_iload_n (i := 1) (a := 1) rfl rfl (dk_X7_tellsAct 43 _ rfl) ?_
    refine F_iload_n (i := 2) (a := 2) rfl rfl (dk_X7_tellsAct 44 _ rfl) ?_
    refine F_callV (ι' := uI) (ci := 7) (b := 0) (As := [.int p1, .int p2]) (d' := 8) (rfl) ok_X7_sellerTells vi_X7_sellerTells cl_7_375 (n := 2) (by decide +kernel) rfl rfl rfl (Nat.le_of_ble_eq_true rfl) (by omega) (dk_X7_tellsAct 45 _ rfl) (c_X7_sellerTells _ _ _ ) (fun x6 m7 => ?_)
    show JF _ _ _ _ _ _ [.int x6] _ _
    refine F_istore_n (lv' := [(3, .int x6), (0, .ref 0), (1, .int p1), (2, .int p2)]) (i := 3) (a := 3) rfl (by decide) rfl (dk_X7_tellsAct 48 _ rfl) ?_
    refine F_iload_n (i := 3) (a := 3) rfl rfl (dk_X7_tellsAct 49 _ rfl) ?_
    refine F_aload_n (i := 0) (a := 0) rfl rfl (dk_X7_tellsAct 50 _ rfl) ?_
    refine F_iload_n (i := 1) (a := 1) rfl rfl (dk_X7_tellsAct 51 _ rfl) ?_
    refine F_iconst (v := 1) (by decide) (dk_X7_tellsAct 52 _ rfl) ?_
    refine F_callV (ι' := uI) (ci := 7) (b := 0) (As := [.int p1, .int 1]) (d' := 7) (rfl) ok_X7_givesAct vi_X7_givesAct cl_7_372 (n := 2) (by decide +kernel) rfl rfl rfl (Nat.le_of_ble_eq_true rfl) (by omega) (dk_X7_tellsAct 53 _ rfl) (c_X7_givesAct _ _ _ ) (fun x9 m10 => ?_)
    show JF _ _ _ _ _ _ [.int x9, .int x6] _ _
    refine F_iadd (dk_X7_tellsAct 56 _ rfl) ?_
    exact F_ret rfl (dk_X7_tellsAct 57 _ rfl)
  refine F_case (fun c2_1 => ?_) (fun c2_1 => ?_)
  · rw [c2_1]; refine F_tin (off := 52) (tgt := 58) (by decide) (by decide) rfl (by decide) (dk_X7_tellsAct 6 _ rfl) ?_
    refine F_aload_n (i := 0) (a := 0) rfl rfl (dk_X7_tellsAct 58 _ rfl) ?_
    refine F_bipush (v := 60) (by decide) (dk_X7_tellsAct 59 _ rfl) ?_
    refine F_callV (ι' := uU) (ci := 7) (b := 0) (As := [.int 60]) (d' := 2) (rfl) ok_X7_body vi_X7_body cl_7_357 (n := 1) (by decide +kernel) rfl rfl rfl (Nat.le_of_ble_eq_true rfl) (by omega) (dk_X7_tellsAct 61 _ rfl) (c_X7_body _ _ ) (fun x12 m13 => ?_)
    show JF _ _ _ _ _ _ [] _ _
    refine F_aload_n (i := 0) (a := 0) rfl rfl (dk_X7_tellsAct 64 _ rfl) ?_
    refine F_iload_n (i := 1) (a := 1) rfl rfl (dk_X7_tellsAct 65 _ rfl) ?_
    refine F_iload_n (i := 2) (a := 2) rfl rfl (dk_X7_tellsAct 66 _ rfl) ?_
    refine F_iload_n (i := 1) (a := 1) rfl rfl (dk_X7_tellsAct 67 _ rfl) ?_
    refine F_isub (dk_X7_tellsAct 68 _ rfl) ?_
    refine F_callV (ι' := uI) (ci := 7) (b := 0) (As := [.int p1, .int (p2 - p1)]) (d' := 8) (rfl) ok_X7_sellerTells vi_X7_sellerTells cl_7_375 (n := 2) (by decide +kernel) rfl rfl rfl (Nat.le_of_ble_eq_true rfl) (by omega) (dk_X7_tellsAct 69 _ rfl) (c_X7_sellerTells _ _ _ ) (fun x15 m16 => ?_)
    show JF _ _ _ _ _ _ [.int x15] _ _
    exact F_ret rfl (dk_X7_tellsAct 72 _ rfl)
  refine F_case (fun c2_2 => ?_) (fun c2_2 => ?_)
  · rw [c2_2]; refine F_tin (off := 30) (tgt := 36) (by decide) (by decide) rfl (by decide) (dk_X7_tellsAct 6 _ rfl) ?_
    refine F_aload_n (i := 0) (a := 0) rfl rfl (dk_X7_tellsAct 36 _ rfl) ?_
    refine F_bipush (v := 40) (by decide) (dk_X7_tellsAct 37 _ rfl) ?_
    refine F_callV (ι' := uU) (ci := 7) (b := 0) (As := [.int 40]) (d' := 2) (rfl) ok_X7_body vi_X7_body cl_7_357 (n := 1) (by decide +kernel) rfl rfl rfl (Nat.le_of_ble_eq_true rfl) (by omega) (dk_X7_tellsAct 39 _ rfl) (c_X7_body _ _ ) (fun x18 m19 => ?_)
    show JF _ _ _ _ _ _ [] _ _
    refine F_aload_n (i := 0) (a := 0) rfl rfl (dk_X7_tellsAct 42 _ rfl) ?_
    refine F_iload_n (i := 1) (a := 1) rfl rfl (dk_X7_tellsAct 43 _ rfl) ?_
    refine F_iload_n (i := 2) (a := 2) rfl rfl (dk_X7_tellsAct 44 _ rfl) ?_
    refine F_callV (ι' := uI) (ci := 7) (b := 0) (As := [.int p1, .int p2]) (d' := 8) (rfl) ok_X7_sellerTells vi_X7_sellerTells cl_7_375 (n := 2) (by decide +kernel) rfl rfl rfl (Nat.le_of_ble_eq_true rfl) (by omega) (dk_X7_tellsAct 45 _ rfl) (c_X7_sellerTells _ _ _ ) (fun x21 m22 => ?_)
    show JF _ _ _ _ _ _ [.int x21] _ _
    refine F_istore_n (lv' := [(3, .int x21), (0, .ref 0), (1, .int p1), (2, .int p2)]) (i := 3) (a := 3) rfl (by decide) rfl (dk_X7_tellsAct 48 _ rfl) ?_
    refine F_iload_n (i := 3) (a := 3) rfl rfl (dk_X7_tellsAct 49 _ rfl) ?_
    refine F_aload_n (i := 0) (a := 0) rfl rfl (dk_X7_tellsAct 50 _ rfl) ?_
    refine F_iload_n (i := 1) (a := 1) rfl rfl (dk_X7_tellsAct 51 _ rfl) ?_
    refine F_iconst (v := 1) (by decide) (dk_X7_tellsAct 52 _ rfl) ?_
    refine F_callV (ι' := uI) (ci := 7) (b := 0) (As := [.int p1, .int 1]) (d' := 7) (rfl) ok_X7_givesAct vi_X7_givesAct cl_7_372 (n := 2) (by decide +kernel) rfl rfl rfl (Nat.le_of_ble_eq_true rfl) (by omega) (dk_X7_tellsAct 53 _ rfl) (c_X7_givesAct _ _ _ ) (fun x24 m25 => ?_)
    show JF _ _ _ _ _ _ [.int x24, .int x21] _ _
    refine F_iadd (dk_X7_tellsAct 56 _ rfl) ?_
    exact F_ret rfl (dk_X7_tellsAct 57 _ rfl)
  refine F_case (fun c2_3 => ?_) (fun c2_3 => ?_)
  · rw [c2_3]; refine F_tin (off := 67) (tgt := 73) (by decide) (by decide) rfl (by decide) (dk_X7_tellsAct 6 _ rfl) ?_
    refine F_aload_n (i := 0) (a := 0) rfl rfl (dk_X7_tellsAct 73 _ rfl) ?_
    refine F_iload_n (i := 1) (a := 1) rfl rfl (dk_X7_tellsAct 74 _ rfl) ?_
    refine F_iload_n (i := 2) (a := 2) rfl rfl (dk_X7_tellsAct 75 _ rfl) ?_
    refine F_callV (ι' := uI) (ci := 7) (b := 0) (As := [.int p1, .int p2]) (d' := 8) (rfl) ok_X7_sellerTells vi_X7_sellerTells cl_7_375 (n := 2) (by decide +kernel) rfl rfl rfl (Nat.le_of_ble_eq_true rfl) (by omega) (dk_X7_tellsAct 76 _ rfl) (c_X7_sellerTells _ _ _ ) (fun x27 m28 => ?_)
    show JF _ _ _ _ _ _ [.int x27] _ _
    exact F_ret rfl (dk_X7_tellsAct 79 _ rfl)
  refine F_tout (tgt := 73) (by have q0 := fI_ne c2_0; rw [show (3 : Int32).toInt = 3 from by decide] at q0; have q1 := fI_ne c2_1; rw [show (5 : Int32).toInt = 5 from by decide] at q1; have q2 := fI_ne c2_2; rw [show (6 : Int32).toInt = 6 from by decide] at q2; have q3 := fI_ne c2_3; rw [show (4 : Int32).toInt = 4 from by decide] at q3; omega) (by decide) (dk_X7_tellsAct 6 _ rfl) ?_
  refine F_aload_n (i := 0) (a := 0) rfl rfl (dk_X7_tellsAct 73 _ rfl) ?_
  refine F_iload_n (i := 1) (a := 1) rfl rfl (dk_X7_tellsAct 74 _ rfl) ?_
  refine F_iload_n (i := 2) (a := 2) rfl rfl (dk_X7_tellsAct 75 _ rfl) ?_
  refine F_callV (ι' := uI) (ci := 7) (b := 0) (As := [.int p1, .int p2]) (d' := 8) (rfl) ok_X7_sellerTells vi_X7_sellerTells cl_7_375 (n := 2) (by decide +kernel) rfl rfl rfl (Nat.le_of_ble_eq_true rfl) (by omega) (dk_X7_tellsAct 76 _ rfl) (c_X7_sellerTells _ _ _ ) (fun x30 m31 => ?_)
  show JF _ _ _ _ _ _ [.int x30] _ _
  exact F_ret rfl (dk_X7_tellsAct 79 _ rfl)
def f_X7_act (m : mM) (p1 : Int32) (p2 : Int32) (p3 : Int32) : fR Int32 :=
  nmM (wI m 54 0) fun m1 => bnd (f_X7_isPerson m1 p1) fun (x2 : Int32) (m3 : mM) => (if x2 = 0 then some (0, m3) else bnd (f_X7_in m3 p2 0 2) fun (x5 : Int32) (m6 : mM) => (if x5 = 0 then some (0, m6) else (if p2 = 0 then bnd (f_X7_sellsAct m6 p1 p3) fun (x14 : Int32) (m15 : mM) => some (x14, m15) else (if p2 = 1 then bnd (f_X7_givesAct m6 p1 p3) fun (x11 : Int32) (m12 : mM) => some (x11, m12) else bnd (f_X7_tellsAct m6 p1 p3) fun (x8 : Int32) (m9 : mM) => some (x8, m9)))))
theorem c_X7_act (m : mM) (p1 : Int32) (p2 : Int32) (p3 : Int32)  : cF false uI m_X7_act 10 [.ref 0, .int p1, .int p2, .int p3] m (f_X7_act m p1 p2 p3) := by
  refine cF_of ok_X7_act (fun _ _ => Nat.le_of_ble_eq_true rfl) ?_
  unfold f_X7_act
  show JF _ _ _ _ _ [(0, .ref 0), (1, .int p1), (2, .int p2), (3, .int p3)] _ _ _
  refine F_aload_n (i := 0) (a := 0) rfl rfl (dk_X7_act 0 _ rfl) ?_
  refine F_iconst (v := 0) (by decide) (dk_X7_act 1 _ rfl) ?_
  refine F_pI (n := 54) fxM_7_54_0 rfl fl_7_175 (fun q hq => by cases hq; rfl) trivial (dk_X7_act 2 _ rfl) (fun m1 => ?_)
  refine F_aload_n (i := 0) (a := 0) rfl rfl (dk_X7_act 5 _ rfl) ?_
  refine F_iload_n (i := 1) (a := 1) rfl rfl (dk_X7_act 6 _ rfl) ?_
  refine F_callV (ι' := uI) (ci := 7) (b := 0) (As := [.int p1]) (d' := 3) (rfl) ok_X7_isPerson vi_X7_isPerson cl_7_206 (n := 1) (by decide +kernel) rfl rfl rfl (Nat.le_of_ble_eq_true rfl) (by omega) (dk_X7_act 7 _ rfl) (c_X7_isPerson _ _ ) (fun x2 m3 => ?_)
  show JF _ _ _ _ _ _ [.int x2] _ _
  refine F_if_eq (tgt := 23) (by decide) (dk_X7_act 10 _ rfl) ?_ ?_
  · refine F_iconst (v := 0) (by decide) (dk_X7_act 23 _ rfl) ?_
    exact F_ret rfl (dk_X7_act 24 _ rfl)
  · refine F_aload_n (i := 0) (a := 0) rfl rfl (dk_X7_act 13 _ rfl) ?_
    refine F_iload_n (i := 2) (a := 2) rfl rfl (dk_X7_act 14 _ rfl) ?_
    refine F_iconst (v := 0) (by decide) (dk_X7_act 15 _ rfl) ?_
    refine F_iconst (v := 2) (by decide) (dk_X7_act 16 _ rfl) ?_
    refine F_callV (ι' := uI) (ci := 7) (b := 0) (As := [.int p2, .int 0, .int 2]) (d' := 2) (rfl) ok_X7_in vi_X7_in cl_7_194 (n := 3) (by decide +kernel) rfl rfl rfl (Nat.le_of_ble_eq_true rfl) (by omega) (dk_X7_act 17 _ rfl) (c_X7_in _ _ _ _ ) (fun x5 m6 => ?_)
    show JF _ _ _ _ _ _ [.int x5] _ _
    refine F_if_ne (tgt := 25) (by decide) (dk_X7_act 20 _ rfl) ?_ ?_
    · refine F_iload_n (i := 2) (a := 2) rfl rfl (dk_X7_act 25 _ rfl) ?_
      refine F_if_ne (tgt := 38) (by decide) (dk_X7_act 26 _ rfl) ?_ ?_
      · refine F_iload_n (i := 2) (a := 2) rfl rfl (dk_X7_act 38 _ rfl) ?_
        refine F_iconst (v := 1) (by decide) (dk_X7_act 39 _ rfl) ?_
        refine F_icmp_ne (tgt := 52) (by decide) (dk_X7_act 40 _ rfl) ?_ ?_
        · refine F_aload_n (i := 0) (a := 0) rfl rfl (dk_X7_act 52 _ rfl) ?_
          refine F_iload_n (i := 1) (a := 1) rfl rfl (dk_X7_act 53 _ rfl) ?_
          refine F_iload_n (i := 3) (a := 3) rfl rfl (dk_X7_act 54 _ rfl) ?_
          refine F_callV (ι' := uI) (ci := 7) (b := 0) (As := [.int p1, .int p3]) (d' := 9) (rfl) ok_X7_tellsAct vi_X7_tellsAct cl_7_378 (n := 2) (by decide +kernel) rfl rfl rfl (Nat.le_of_ble_eq_true rfl) (by omega) (dk_X7_act 55 _ rfl) (c_X7_tellsAct _ _ _ ) (fun x8 m9 => ?_)
          show JF _ _ _ _ _ _ [.int x8] _ _
          exact F_ret rfl (dk_X7_act 58 _ rfl)
        · refine F_aload_n (i := 0) (a := 0) rfl rfl (dk_X7_act 43 _ rfl) ?_
          refine F_iload_n (i := 1) (a := 1) rfl rfl (dk_X7_act 44 _ rfl) ?_
          refine F_iload_n (i := 3) (a := 3) rfl rfl (dk_X7_act 45 _ rfl) ?_
          refine F_callV (ι' := uI) (ci := 7) (b := 0) (As := [.int p1, .int p3]) (d' := 7) (rfl) ok_X7_givesAct vi_X7_givesAct cl_7_372 (n := 2) (by decide +kernel) rfl rfl rfl (Nat.le_of_ble_eq_true rfl) (by omega) (dk_X7_act 46 _ rfl) (c_X7_givesAct _ _ _ ) (fun x11 m12 => ?_)
          show JF _ _ _ _ _ _ [.int x11] _ _
          refine F_goto (tgt := 58) (by decide) (dk_X7_act 49 _ rfl) ?_
          exact F_ret rfl (dk_X7_act 58 _ rfl)
      · refine F_aload_n (i := 0) (a := 0) rfl rfl (dk_X7_act 29 _ rfl) ?_
        refine F_iload_n (i := 1) (a := 1) rfl rfl (dk_X7_act 30 _ rfl) ?_
        refine F_iload_n (i := 3) (a := 3) rfl rfl (dk_X7_act 31 _ rfl) ?_
        refine F_callV (ι' := uI) (ci := 7) (b := 0) (As := [.int p1, .int p3]) (d' := 4) (rfl) ok_X7_sellsAct vi_X7_sellsAct cl_7_363 (n := 2) (by decide +kernel) rfl rfl rfl (Nat.le_of_ble_eq_true rfl) (by omega) (dk_X7_act 32 _ rfl) (c_X7_sellsAct _ _ _ ) (fun x14 m15 => ?_)
        show JF _ _ _ _ _ _ [.int x14] _ _
        refine F_goto (tgt := 58) (by decide) (dk_X7_act 35 _ rfl) ?_
        exact F_ret rfl (dk_X7_act 58 _ rfl)
    · refine F_iconst (v := 0) (by decide) (dk_X7_act 23 _ rfl) ?_
      exact F_ret rfl (dk_X7_act 24 _ rfl)
def f_X7_trace (m : mM) (p1 : Int32) : fR Int32 :=
  bnd (f_X7_in m p1 0 19) fun (x1 : Int32) (m2 : mM) => (if x1 = 0 then some ((-1), m2) else (if (mI m2 54) ≤ p1 then some ((-1), m2) else (gA (mA m2 32) p1).bind fun x4 => some (x4, m2)))
theorem c_X7_trace (m : mM) (p1 : Int32)  : cF false uI m_X7_trace 3 [.ref 0, .int p1] m (f_X7_trace m p1) := by
  refine cF_of ok_X7_trace (fun _ _ => Nat.le_of_ble_eq_true rfl) ?_
  unfold f_X7_trace
  show JF _ _ _ _ _ [(0, .ref 0), (1, .int p1)] _ _ _
  refine F_aload_n (i := 0) (a := 0) rfl rfl (dk_X7_trace 0 _ rfl) ?_
  refine F_iload_n (i := 1) (a := 1) rfl rfl (dk_X7_trace 1 _ rfl) ?_
  refine F_iconst (v := 0) (by decide) (dk_X7_trace 2 _ rfl) ?_
  refine F_bipush (v := 19) (by decide) (dk_X7_trace 3 _ rfl) ?_
  refine F_callV (ι' := uI) (ci := 7) (b := 0) (As := [.int p1, .int 0, .int 19]) (d' := 2) (rfl) ok_X7_in vi_X7_in cl_7_194 (n := 3) (by decide +kernel) rfl rfl rfl (Nat.le_of_ble_eq_true rfl) (by omega) (dk_X7_trace 5 _ rfl) (c_X7_in _ _ _ _ ) (fun x1 m2 => ?_)
  show JF _ _ _ _ _ _ [.int x1] _ _
  refine F_if_eq (tgt := 28) (by decide) (dk_X7_trace 8 _ rfl) ?_ ?_
  · refine F_iconst (v := (-1)) (by decide) (dk_X7_trace 28 _ rfl) ?_
    exact F_ret rfl (dk_X7_trace 29 _ rfl)
  · refine F_iload_n (i := 1) (a := 1) rfl rfl (dk_X7_trace 11 _ rfl) ?_
    refine F_aload_n (i := 0) (a := 0) rfl rfl (dk_X7_trace 12 _ rfl) ?_
    refine F_gI (n := 54) fxM_7_54_0 rfl fl_7_175 (dk_X7_trace 13 _ rfl) ?_
    refine F_icmp_ge (tgt := 28) (by decide) (dk_X7_trace 16 _ rfl) ?_ ?_
    · refine F_iconst (v := (-1)) (by decide) (dk_X7_trace 28 _ rfl) ?_
      exact F_ret rfl (dk_X7_trace 29 _ rfl)
    · refine F_aload_n (i := 0) (a := 0) rfl rfl (dk_X7_trace 19 _ rfl) ?_
      refine F_gR (b := 32) fxM_7_55_0 fl_7_178 (dk_X7_trace 20 _ rfl) ?_
      refine F_iload_n (i := 1) (a := 1) rfl rfl (dk_X7_trace 23 _ rfl) ?_
      refine F_iald (axM_0_32) (dk_X7_trace 24 _ rfl) (fun x4 => ?_)
      refine F_goto (tgt := 29) (by decide) (dk_X7_trace 25 _ rfl) ?_
      exact F_ret rfl (dk_X7_trace 29 _ rfl)
def f_X7_taken_61  (m : mM) (y2 : Int32) (y3 : Int32) : fR Int32 :=
  (if y2 = 3 then (if y3 = 6 then some (y3, m) else some ((-12), m)) else some ((-12), m))
theorem j_X7_taken_61   (m : mM) (y2 : Int32) (y3 : Int32)  : JF false uI m_X7_taken 4 61 [(2, .int y2), (3, .int y3)] [] m (f_X7_taken_61  m y2 y3) := by
  unfold f_X7_taken_61
  refine F_iload_n (i := 2) (a := 2) rfl rfl (dk_X7_taken 61 _ rfl) ?_
  refine F_iconst (v := 3) (by decide) (dk_X7_taken 62 _ rfl) ?_
  refine F_icmp_ne (tgt := 76) (by decide) (dk_X7_taken 63 _ rfl) ?_ ?_
  · refine F_bipush (v := (-12)) (by decide) (dk_X7_taken 76 _ rfl) ?_
    exact F_ret rfl (dk_X7_taken 78 _ rfl)
  · refine F_iload_n (i := 3) (a := 3) rfl rfl (dk_X7_taken 66 _ rfl) ?_
    refine F_bipush (v := 6) (by decide) (dk_X7_taken 67 _ rfl) ?_
    refine F_icmp_ne (tgt := 76) (by decide) (dk_X7_taken 69 _ rfl) ?_ ?_
    · refine F_bipush (v := (-12)) (by decide) (dk_X7_taken 76 _ rfl) ?_
      exact F_ret rfl (dk_X7_taken 78 _ rfl)
    · refine F_iload_n (i := 3) (a := 3) rfl rfl (dk_X7_taken 72 _ rfl) ?_
      refine F_goto (tgt := 78) (by decide) (dk_X7_taken 73 _ rfl) ?_
      exact F_ret rfl (dk_X7_taken 78 _ rfl)
def f_X7_taken_51  (m : mM) (y2 : Int32) (y3 : Int32) : fR Int32 :=
  (if y2 = 2 then (if y3 = 5 then some (y3, m) else (f_X7_taken_61  m y2 y3)) else (f_X7_taken_61  m y2 y3))
theorem j_X7_taken_51   (m : mM) (y2 : Int32) (y3 : Int32)  : JF false uI m_X7_taken 4 51 [(2, .int y2), (3, .int y3)] [] m (f_X7_taken_51  m y2 y3) := by
  unfold f_X7_taken_51
  refine F_iload_n (i := 2) (a := 2) rfl rfl (dk_X7_taken 51 _ rfl) ?_
  refine F_iconst (v := 2) (by decide) (dk_X7_taken 52 _ rfl) ?_
  refine F_icmp_ne (tgt := 61) (by decide) (dk_X7_taken 53 _ rfl) ?_ ?_
  · exact F_loc (fun _ z => z) (j_X7_taken_61   _ _ _ )
  · refine F_iload_n (i := 3) (a := 3) rfl rfl (dk_X7_taken 56 _ rfl) ?_
    refine F_iconst (v := 5) (by decide) (dk_X7_taken 57 _ rfl) ?_
    refine F_icmp_eq (tgt := 72) (by decide) (dk_X7_taken 58 _ rfl) ?_ ?_
    · refine F_iload_n (i := 3) (a := 3) rfl rfl (dk_X7_taken 72 _ rfl) ?_
      refine F_goto (tgt := 78) (by decide) (dk_X7_taken 73 _ rfl) ?_
      exact F_ret rfl (dk_X7_taken 78 _ rfl)
    · exact F_loc (fun _ z => z) (j_X7_taken_61   _ _ _ )
def f_X7_taken (m : mM) (p1 : Int32) (p2 : Int32) : fR Int32 :=
  bnd (f_X7_in m p2 0 6) fun (x1 : Int32) (m2 : mM) => (if x1 = 0 then some ((-2), m2) else bnd (f_X7_isPerson m2 p1) fun (x4 : Int32) (m5 : mM) => (if x4 = 0 then some ((-11), m5) else (gA (mA m5 1) p1).bind fun x7 => (if p2 = 0 then some (x7, m5) else (if x7 = p2 then some (x7, m5) else (if p2 = 1 then (if x7 = 4 then some (x7, m5) else (f_X7_taken_51  m5 p2 x7)) else (f_X7_taken_51  m5 p2 x7))))))
theorem c_X7_taken (m : mM) (p1 : Int32) (p2 : Int32)  : cF false uI m_X7_taken 4 [.ref 0, .int p1, .int p2] m (f_X7_taken m p1 p2) := by
  refine cF_of ok_X7_taken (fun _ _ => Nat.le_of_ble_eq_true rfl) ?_
  unfold f_X7_taken
  show JF _ _ _ _ _ [(0, .ref 0), (1, .int p1), (2, .int p2)] _ _ _
  refine F_aload_n (i := 0) (a := 0) rfl rfl (dk_X7_taken 0 _ rfl) ?_
  refine F_iload_n (i := 2) (a := 2) rfl rfl (dk_X7_taken 1 _ rfl) ?_
  refine F_iconst (v := 0) (by decide) (dk_X7_taken 2 _ rfl) ?_
  refine F_bipush (v := 6) (by decide) (dk_X7_taken 3 _ rfl) ?_
  refine F_callV (ι' := uI) (ci := 7) (b := 0) (As := [.int p2, .int 0, .int 6]) (d' := 2) (rfl) ok_X7_in vi_X7_in cl_7_194 (n := 3) (by decide +kernel) rfl rfl rfl (Nat.le_of_ble_eq_true rfl) (by omega) (dk_X7_taken 5 _ rfl) (c_X7_in _ _ _ _ ) (fun x1 m2 => ?_)
  show JF _ _ _ _ _ _ [.int x1] _ _
  refine F_if_ne (tgt := 14) (by decide) (dk_X7_taken 8 _ rfl) ?_ ?_
  · refine F_aload_n (i := 0) (a := 0) rfl rfl (dk_X7_taken 14 _ rfl) ?_
    refine F_iload_n (i := 1) (a := 1) rfl rfl (dk_X7_taken 15 _ rfl) ?_
    refine F_callV (ι' := uI) (ci := 7) (b := 0) (As := [.int p1]) (d' := 3) (rfl) ok_X7_isPerson vi_X7_isPerson cl_7_206 (n := 1) (by decide +kernel) rfl rfl rfl (Nat.le_of_ble_eq_true rfl) (by omega) (dk_X7_taken 16 _ rfl) (c_X7_isPerson _ _ ) (fun x4 m5 => ?_)
    show JF _ _ _ _ _ _ [.int x4] _ _
    refine F_if_ne (tgt := 25) (by decide) (dk_X7_taken 19 _ rfl) ?_ ?_
    · refine F_aload_n (i := 0) (a := 0) rfl rfl (dk_X7_taken 25 _ rfl) ?_
      refine F_gR (b := 1) fxM_7_3_0 fl_7_19 (dk_X7_taken 26 _ rfl) ?_
      refine F_iload_n (i := 1) (a := 1) rfl rfl (dk_X7_taken 29 _ rfl) ?_
      refine F_iald (axM_0_1) (dk_X7_taken 30 _ rfl) (fun x7 => ?_)
      refine F_istore_n (lv' := [(3, .int x7), (0, .ref 0), (1, .int p1), (2, .int p2)]) (i := 3) (a := 3) rfl (by decide) rfl (dk_X7_taken 31 _ rfl) ?_
      refine F_iload_n (i := 2) (a := 2) rfl rfl (dk_X7_taken 32 _ rfl) ?_
      refine F_if_eq (tgt := 72) (by decide) (dk_X7_taken 33 _ rfl) ?_ ?_
      · refine F_iload_n (i := 3) (a := 3) rfl rfl (dk_X7_taken 72 _ rfl) ?_
        refine F_goto (tgt := 78) (by decide) (dk_X7_taken 73 _ rfl) ?_
        exact F_ret rfl (dk_X7_taken 78 _ rfl)
      · refine F_iload_n (i := 3) (a := 3) rfl rfl (dk_X7_taken 36 _ rfl) ?_
        refine F_iload_n (i := 2) (a := 2) rfl rfl (dk_X7_taken 37 _ rfl) ?_
        refine F_icmp_eq (tgt := 72) (by decide) (dk_X7_taken 38 _ rfl) ?_ ?_
        · refine F_iload_n (i := 3) (a := 3) rfl rfl (dk_X7_taken 72 _ rfl) ?_
          refine F_goto (tgt := 78) (by decide) (dk_X7_taken 73 _ rfl) ?_
          exact F_ret rfl (dk_X7_taken 78 _ rfl)
        · refine F_iload_n (i := 2) (a := 2) rfl rfl (dk_X7_taken 41 _ rfl) ?_
          refine F_iconst (v := 1) (by decide) (dk_X7_taken 42 _ rfl) ?_
          refine F_icmp_ne (tgt := 51) (by decide) (dk_X7_taken 43 _ rfl) ?_ ?_
          · exact F_loc (List.forall_mem_cons.mpr ⟨(.tail _ (.tail _ (.tail _ (.head _)))), (List.forall_mem_cons.mpr ⟨(.head _), (fun _ z => absurd z List.not_mem_nil)⟩)⟩) (j_X7_taken_51   _ _ _ )
          · refine F_iload_n (i := 3) (a := 3) rfl rfl (dk_X7_taken 46 _ rfl) ?_
            refine F_iconst (v := 4) (by decide) (dk_X7_taken 47 _ rfl) ?_
            refine F_icmp_eq (tgt := 72) (by decide) (dk_X7_taken 48 _ rfl) ?_ ?_
            · refine F_iload_n (i := 3) (a := 3) rfl rfl (dk_X7_taken 72 _ rfl) ?_
              refine F_goto (tgt := 78) (by decide) (dk_X7_taken 73 _ rfl) ?_
              exact F_ret rfl (dk_X7_taken 78 _ rfl)
            · exact F_loc (List.forall_mem_cons.mpr ⟨(.tail _ (.tail _ (.tail _ (.head _)))), (List.forall_mem_cons.mpr ⟨(.head _), (fun _ z => absurd z List.not_mem_nil)⟩)⟩) (j_X7_taken_51   _ _ _ )
    · refine F_bipush (v := (-11)) (by decide) (dk_X7_taken 22 _ rfl) ?_
      exact F_ret rfl (dk_X7_taken 24 _ rfl)
  · refine F_bipush (v := (-2)) (by decide) (dk_X7_taken 11 _ rfl) ?_
    exact F_ret rfl (dk_X7_taken 13 _ rfl)
def f_X7_count (m : mM) (p1 : Int32) : fR Int32 :=
  (if p1 = 0 then some ((mI m 0), m) else if p1 = 1 then some ((mI m 10), m) else if p1 = 2 then some ((mI m 38), m) else if p1 = 3 then some ((mI m 12), m) else if p1 = 4 then some ((mI m 54), m) else some ((-2), m))
theorem c_X7_count (m : mM) (p1 : Int32)  : cF false uI m_X7_count 2 [.ref 0, .int p1] m (f_X7_count m p1) := by
  refine cF_of ok_X7_count (fun _ _ => Nat.le_of_ble_eq_true rfl) ?_
  unfold f_X7_count
  show JF _ _ _ _ _ [(0, .ref 0), (1, .int p1)] _ _ _
  refine F_iload_n (i := 1) (a := 1) rfl rfl (dk_X7_count 0 _ rfl) ?_
  refine F_case (fun c1_0 => ?_) (fun c1_0 => ?_)
  · rw [c1_0]; refine F_tin (off := 35) (tgt := 36) (by decide) (by decide) rfl (by decide) (dk_X7_count 1 _ rfl) ?_
    refine F_aload_n (i := 0) (a := 0) rfl rfl (dk_X7_count 36 _ rfl) ?_
    refine F_gI (n := 0) fxM_7_0_0 rfl fl_7_7 (dk_X7_count 37 _ rfl) ?_
    exact F_ret rfl (dk_X7_count 40 _ rfl)
  refine F_case (fun c1_1 => ?_) (fun c1_1 => ?_)
  · rw [c1_1]; refine F_tin (off := 40) (tgt := 41) (by decide) (by decide) rfl (by decide) (dk_X7_count 1 _ rfl) ?_
    refine F_aload_n (i := 0) (a := 0) rfl rfl (dk_X7_count 41 _ rfl) ?_
    refine F_gI (n := 10) fxM_7_10_0 rfl fl_7_42 (dk_X7_count 42 _ rfl) ?_
    exact F_ret rfl (dk_X7_count 45 _ rfl)
  refine F_case (fun c1_2 => ?_) (fun c1_2 => ?_)
  · rw [c1_2]; refine F_tin (off := 45) (tgt := 46) (by decide) (by decide) rfl (by decide) (dk_X7_count 1 _ rfl) ?_
    refine F_aload_n (i := 0) (a := 0) rfl rfl (dk_X7_count 46 _ rfl) ?_
    refine F_gI (n := 38) fxM_7_38_0 rfl fl_7_126 (dk_X7_count 47 _ rfl) ?_
    exact F_ret rfl (dk_X7_count 50 _ rfl)
  refine F_case (fun c1_3 => ?_) (fun c1_3 => ?_)
  · rw [c1_3]; refine F_tin (off := 50) (tgt := 51) (by decide) (by decide) rfl (by decide) (dk_X7_count 1 _ rfl) ?_
    refine F_aload_n (i := 0) (a := 0) rfl rfl (dk_X7_count 51 _ rfl) ?_
    refine F_gI (n := 12) fxM_7_12_0 rfl fl_7_48 (dk_X7_count 52 _ rfl) ?_
    exact F_ret rfl (dk_X7_count 55 _ rfl)
  refine F_case (fun c1_4 => ?_) (fun c1_4 => ?_)
  · rw [c1_4]; refine F_tin (off := 55) (tgt := 56) (by decide) (by decide) rfl (by decide) (dk_X7_count 1 _ rfl) ?_
    refine F_aload_n (i := 0) (a := 0) rfl rfl (dk_X7_count 56 _ rfl) ?_
    refine F_gI (n := 54) fxM_7_54_0 rfl fl_7_175 (dk_X7_count 57 _ rfl) ?_
    exact F_ret rfl (dk_X7_count 60 _ rfl)
  refine F_tout (tgt := 61) (by have q0 := fI_ne c1_0; rw [show (0 : Int32).toInt = 0 from by decide] at q0; have q1 := fI_ne c1_1; rw [show (1 : Int32).toInt = 1 from by decide] at q1; have q2 := fI_ne c1_2; rw [show (2 : Int32).toInt = 2 from by decide] at q2; have q3 := fI_ne c1_3; rw [show (3 : Int32).toInt = 3 from by decide] at q3; have q4 := fI_ne c1_4; rw [show (4 : Int32).toInt = 4 from by decide] at q4; omega) (by decide) (dk_X7_count 1 _ rfl) ?_
  refine F_bipush (v := (-2)) (by decide) (dk_X7_count 61 _ rfl) ?_
  exact F_ret rfl (dk_X7_count 63 _ rfl)
def fb_X7_tape_69 (K69 : mM → Int32 → Int32 → fR Int32) (m : mM) (y1 : Int32) (y4 : Int32) : fR Int32 :=
  (if 60 ≤ y4 then some (1, m) else (sL m 35 (((60 * y1) + y4)) 0).bind fun m9 => (K69 m9 y1 (y4 + 1)))
def f_X7_tape_69  : Nat → mM → Int32 → Int32 → fR Int32
  | 0, _, _, _ => none
  | F + 1, m, y1, y4 => fb_X7_tape_69  (f_X7_tape_69  F) m y1 y4
theorem jb_X7_tape_69 (K69 : mM → Int32 → Int32 → fR Int32) (hK69 : ∀ (m : mM) (y1 : Int32) (y4 : Int32) , JF false uI m_X7_tape 4 69 [(0, .ref 0), (1, .int y1), (4, .int y4)] [] m (K69 m y1 y4)) (m : mM) (y1 : Int32) (y4 : Int32)  : JF false uI m_X7_tape 4 69 [(0, .ref 0), (1, .int y1), (4, .int y4)] [] m (fb_X7_tape_69 K69 m y1 y4) := by
  unfold fb_X7_tape_69
  refine F_iload (i := 4) rfl (dk_X7_tape 69 _ rfl) ?_
  refine F_bipush (v := 60) (by decide) (dk_X7_tape 71 _ rfl) ?_
  refine F_icmp_ge (tgt := 95) (by decide) (dk_X7_tape 73 _ rfl) ?_ ?_
  · refine F_iconst (v := 1) (by decide) (dk_X7_tape 95 _ rfl) ?_
    exact F_ret rfl (dk_X7_tape 96 _ rfl)
  · refine F_aload_n (i := 0) (a := 0) rfl rfl (dk_X7_tape 76 _ rfl) ?_
    refine F_gR (b := 35) fxM_7_58_0 fl_7_187 (dk_X7_tape 77 _ rfl) ?_
    refine F_bipush (v := 60) (by decide) (dk_X7_tape 80 _ rfl) ?_
    refine F_iload_n (i := 1) (a := 1) rfl rfl (dk_X7_tape 82 _ rfl) ?_
    refine F_imul (dk_X7_tape 83 _ rfl) ?_
    refine F_iload (i := 4) rfl (dk_X7_tape 84 _ rfl) ?_
    refine F_iadd (dk_X7_tape 86 _ rfl) ?_
    refine F_lconst (v := 0) (by decide) (dk_X7_tape 87 _ rfl) ?_
    refine F_last (axM_1_35) (dk_X7_tape 88 _ rfl) (fun m9 => ?_)
    refine F_iinc (i := 4) (n := 1) (v := (y4 + 1)) (lv' := [(4, .int (y4 + 1)), (0, .ref 0), (1, .int y1)]) rfl (by first | rfl | decide) (by decide) rfl (dk_X7_tape 89 _ rfl) ?_
    refine F_goto (tgt := 69) (by decide) (dk_X7_tape 92 _ rfl) ?_
    exact F_loc (List.forall_mem_cons.mpr ⟨(.tail _ (.head _)), (List.forall_mem_cons.mpr ⟨(.tail _ (.tail _ (.head _))), (List.forall_mem_cons.mpr ⟨(.head _), (fun _ z => absurd z List.not_mem_nil)⟩)⟩)⟩) (hK69 _ _ _ )
theorem j_X7_tape_69   : ∀ (F : Nat) (m : mM) (y1 : Int32) (y4 : Int32) , JF false uI m_X7_tape 4 69 [(0, .ref 0), (1, .int y1), (4, .int y4)] [] m (f_X7_tape_69  F m y1 y4) := by
  intro F
  induction F with
  | zero => intro m y1 y4 ; exact F_no
  | succ F ih => intro m y1 y4 ; exact jb_X7_tape_69  (f_X7_tape_69  F)  ih m y1 y4 
def f_X7_tape_44  (m : mM) (y1 : Int32) (y2 : Int32) (y3 : Int32) : fR Int32 :=
  (sA 0 m 33 y1 y2).bind fun m7 => (if 0 ≤ y2 then (sA 0 m7 34 y1 y3).bind fun m8 => (f_X7_tape_69  1000 m8 y1 0) else (sA 0 m7 34 y1 0).bind fun m10 => (f_X7_tape_69  1000 m10 y1 0))
theorem j_X7_tape_44   (m : mM) (y1 : Int32) (y2 : Int32) (y3 : Int32)  : JF false uI m_X7_tape 4 44 [(0, .ref 0), (1, .int y1), (2, .int y2), (3, .int y3)] [] m (f_X7_tape_44  m y1 y2 y3) := by
  unfold f_X7_tape_44
  refine F_aload_n (i := 0) (a := 0) rfl rfl (dk_X7_tape 44 _ rfl) ?_
  refine F_gR (b := 33) fxM_7_56_0 fl_7_181 (dk_X7_tape 45 _ rfl) ?_
  refine F_iload_n (i := 1) (a := 1) rfl rfl (dk_X7_tape 48 _ rfl) ?_
  refine F_iload_n (i := 2) (a := 2) rfl rfl (dk_X7_tape 49 _ rfl) ?_
  refine F_iast (axM_0_33) (dk_X7_tape 50 _ rfl) (fun m7 => ?_)
  refine F_aload_n (i := 0) (a := 0) rfl rfl (dk_X7_tape 51 _ rfl) ?_
  refine F_gR (b := 34) fxM_7_57_0 fl_7_184 (dk_X7_tape 52 _ rfl) ?_
  refine F_iload_n (i := 1) (a := 1) rfl rfl (dk_X7_tape 55 _ rfl) ?_
  refine F_iload_n (i := 2) (a := 2) rfl rfl (dk_X7_tape 56 _ rfl) ?_
  refine F_if_ge (tgt := 64) (by decide) (dk_X7_tape 57 _ rfl) ?_ ?_
  · refine F_iload_n (i := 3) (a := 3) rfl rfl (dk_X7_tape 64 _ rfl) ?_
    refine F_iast (axM_0_34) (dk_X7_tape 65 _ rfl) (fun m8 => ?_)
    refine F_iconst (v := 0) (by decide) (dk_X7_tape 66 _ rfl) ?_
    refine F_istore (lv' := [(4, .int 0), (0, .ref 0), (1, .int y1), (2, .int y2), (3, .int y3)]) (i := 4) (by decide) rfl (dk_X7_tape 67 _ rfl) ?_
    exact F_loc (List.forall_mem_cons.mpr ⟨(.tail _ (.head _)), (List.forall_mem_cons.mpr ⟨(.tail _ (.tail _ (.head _))), (List.forall_mem_cons.mpr ⟨(.head _), (fun _ z => absurd z List.not_mem_nil)⟩)⟩)⟩) (j_X7_tape_69   1000 _ _ _ )
  · refine F_iconst (v := 0) (by decide) (dk_X7_tape 60 _ rfl) ?_
    refine F_goto (tgt := 65) (by decide) (dk_X7_tape 61 _ rfl) ?_
    refine F_iast (axM_0_34) (dk_X7_tape 65 _ rfl) (fun m10 => ?_)
    refine F_iconst (v := 0) (by decide) (dk_X7_tape 66 _ rfl) ?_
    refine F_istore (lv' := [(4, .int 0), (0, .ref 0), (1, .int y1), (2, .int y2), (3, .int y3)]) (i := 4) (by decide) rfl (dk_X7_tape 67 _ rfl) ?_
    exact F_loc (List.forall_mem_cons.mpr ⟨(.tail _ (.head _)), (List.forall_mem_cons.mpr ⟨(.tail _ (.tail _ (.head _))), (List.forall_mem_cons.mpr ⟨(.head _), (fun _ z => absurd z List.not_mem_nil)⟩)⟩)⟩) (j_X7_tape_69   1000 _ _ _ )
def f_X7_tape_33  (m : mM) (y1 : Int32) (y2 : Int32) (y3 : Int32) : fR Int32 :=
  (if y2 < 0 then (f_X7_tape_44  m y1 y2 y3) else (if 0 ≤ y3 then (f_X7_tape_44  m y1 y2 y3) else some ((-14), m)))
theorem j_X7_tape_33   (m : mM) (y1 : Int32) (y2 : Int32) (y3 : Int32)  : JF false uI m_X7_tape 4 33 [(0, .ref 0), (1, .int y1), (2, .int y2), (3, .int y3)] [] m (f_X7_tape_33  m y1 y2 y3) := by
  unfold f_X7_tape_33
  refine F_iload_n (i := 2) (a := 2) rfl rfl (dk_X7_tape 33 _ rfl) ?_
  refine F_if_lt (tgt := 44) (by decide) (dk_X7_tape 34 _ rfl) ?_ ?_
  · exact F_loc (fun _ z => z) (j_X7_tape_44   _ _ _ _ )
  · refine F_iload_n (i := 3) (a := 3) rfl rfl (dk_X7_tape 37 _ rfl) ?_
    refine F_if_ge (tgt := 44) (by decide) (dk_X7_tape 38 _ rfl) ?_ ?_
    · exact F_loc (fun _ z => z) (j_X7_tape_44   _ _ _ _ )
    · refine F_bipush (v := (-14)) (by decide) (dk_X7_tape 41 _ rfl) ?_
      exact F_ret rfl (dk_X7_tape 43 _ rfl)
def f_X7_tape (m : mM) (p1 : Int32) (p2 : Int32) (p3 : Int32) : fR Int32 :=
  bnd (f_X7_isTape m p1) fun (x1 : Int32) (m2 : mM) => (if x1 = 0 then some ((-1), m2) else bnd (f_X7_in m2 p2 (-1) 4) fun (x4 : Int32) (m5 : mM) => (if x4 = 0 then some ((-2), m5) else (if p2 < 0 then (f_X7_tape_33  m5 p1 p2 p3) else (if p3 ≤ 60 then (f_X7_tape_33  m5 p1 p2 p3) else some ((-2), m5)))))
theorem c_X7_tape (m : mM) (p1 : Int32) (p2 : Int32) (p3 : Int32)  : cF false uI m_X7_tape 4 [.ref 0, .int p1, .int p2, .int p3] m (f_X7_tape m p1 p2 p3) := by
  refine cF_of ok_X7_tape (fun _ _ => Nat.le_of_ble_eq_true rfl) ?_
  unfold f_X7_tape
  show JF _ _ _ _ _ [(0, .ref 0), (1, .int p1), (2, .int p2), (3, .int p3)] _ _ _
  refine F_aload_n (i := 0) (a := 0) rfl rfl (dk_X7_tape 0 _ rfl) ?_
  refine F_iload_n (i := 1) (a := 1) rfl rfl (dk_X7_tape 1 _ rfl) ?_
  refine F_callV (ι' := uI) (ci := 7) (b := 0) (As := [.int p1]) (d' := 3) (rfl) ok_X7_isTape vi_X7_isTape cl_7_354 (n := 1) (by decide +kernel) rfl rfl rfl (Nat.le_of_ble_eq_true rfl) (by omega) (dk_X7_tape 2 _ rfl) (c_X7_isTape _ _ ) (fun x1 m2 => ?_)
  show JF _ _ _ _ _ _ [.int x1] _ _
  refine F_if_ne (tgt := 10) (by decide) (dk_X7_tape 5 _ rfl) ?_ ?_
  · refine F_aload_n (i := 0) (a := 0) rfl rfl (dk_X7_tape 10 _ rfl) ?_
    refine F_iload_n (i := 2) (a := 2) rfl rfl (dk_X7_tape 11 _ rfl) ?_
    refine F_iconst (v := (-1)) (by decide) (dk_X7_tape 12 _ rfl) ?_
    refine F_iconst (v := 4) (by decide) (dk_X7_tape 13 _ rfl) ?_
    refine F_callV (ι' := uI) (ci := 7) (b := 0) (As := [.int p2, .int (-1), .int 4]) (d' := 2) (rfl) ok_X7_in vi_X7_in cl_7_194 (n := 3) (by decide +kernel) rfl rfl rfl (Nat.le_of_ble_eq_true rfl) (by omega) (dk_X7_tape 14 _ rfl) (c_X7_in _ _ _ _ ) (fun x4 m5 => ?_)
    show JF _ _ _ _ _ _ [.int x4] _ _
    refine F_if_eq (tgt := 30) (by decide) (dk_X7_tape 17 _ rfl) ?_ ?_
    · refine F_bipush (v := (-2)) (by decide) (dk_X7_tape 30 _ rfl) ?_
      exact F_ret rfl (dk_X7_tape 32 _ rfl)
    · refine F_iload_n (i := 2) (a := 2) rfl rfl (dk_X7_tape 20 _ rfl) ?_
      refine F_if_lt (tgt := 33) (by decide) (dk_X7_tape 21 _ rfl) ?_ ?_
      · exact F_loc (fun _ z => z) (j_X7_tape_33   _ _ _ _ )
      · refine F_iload_n (i := 3) (a := 3) rfl rfl (dk_X7_tape 24 _ rfl) ?_
        refine F_bipush (v := 60) (by decide) (dk_X7_tape 25 _ rfl) ?_
        refine F_icmp_le (tgt := 33) (by decide) (dk_X7_tape 27 _ rfl) ?_ ?_
        · exact F_loc (fun _ z => z) (j_X7_tape_33   _ _ _ _ )
        · refine F_bipush (v := (-2)) (by decide) (dk_X7_tape 30 _ rfl) ?_
          exact F_ret rfl (dk_X7_tape 32 _ rfl)
  · refine F_iconst (v := (-1)) (by decide) (dk_X7_tape 8 _ rfl) ?_
    exact F_ret rfl (dk_X7_tape 9 _ rfl)
def f_X7_narrow (m : mM) (p1 : Int32) (p2 : Int64) : fR Int64 :=
  (if p1 = 0 then some ((((p2 : Int64).toInt32 : Int32).toInt8.toInt32 : Int32).toInt64, m) else (if p1 = 1 then some ((((p2 : Int64).toInt32 : Int32).toInt16.toInt32 : Int32).toInt64, m) else (if p1 = 2 then some (((p2 : Int64).toInt32 : Int32).toInt64, m) else (if p1 = 4 then (if (lg_cmp p2 0) = 0 then some (0, m) else some (1, m)) else some (p2, m)))))
theorem c_X7_narrow (m : mM) (p1 : Int32) (p2 : Int64)  : cF false uL m_X7_narrow 2 [.ref 0, .int p1, .long p2] m (f_X7_narrow m p1 p2) := by
  refine cF_of ok_X7_narrow (fun _ _ => Nat.le_of_ble_eq_true rfl) ?_
  unfold f_X7_narrow
  show JF _ _ _ _ _ [(0, .ref 0), (1, .int p1), (2, .long p2)] _ _ _
  refine F_iload_n (i := 1) (a := 1) rfl rfl (dk_X7_narrow 0 _ rfl) ?_
  refine F_if_ne (tgt := 11) (by decide) (dk_X7_narrow 1 _ rfl) ?_ ?_
  · refine F_iload_n (i := 1) (a := 1) rfl rfl (dk_X7_narrow 11 _ rfl) ?_
    refine F_iconst (v := 1) (by decide) (dk_X7_narrow 12 _ rfl) ?_
    refine F_icmp_ne (tgt := 23) (by decide) (dk_X7_narrow 13 _ rfl) ?_ ?_
    · refine F_iload_n (i := 1) (a := 1) rfl rfl (dk_X7_narrow 23 _ rfl) ?_
      refine F_iconst (v := 2) (by decide) (dk_X7_narrow 24 _ rfl) ?_
      refine F_icmp_ne (tgt := 34) (by decide) (dk_X7_narrow 25 _ rfl) ?_ ?_
      · refine F_iload_n (i := 1) (a := 1) rfl rfl (dk_X7_narrow 34 _ rfl) ?_
        refine F_iconst (v := 4) (by decide) (dk_X7_narrow 35 _ rfl) ?_
        refine F_icmp_ne (tgt := 53) (by decide) (dk_X7_narrow 36 _ rfl) ?_ ?_
        · refine F_lload_n (i := 2) (a := 2) rfl rfl (dk_X7_narrow 53 _ rfl) ?_
          exact F_retL rfl (dk_X7_narrow 54 _ rfl)
        · refine F_lload_n (i := 2) (a := 2) rfl rfl (dk_X7_narrow 39 _ rfl) ?_
          refine F_lconst (v := 0) (by decide) (dk_X7_narrow 40 _ rfl) ?_
          refine F_lcmp (dk_X7_narrow 41 _ rfl) ?_
          refine F_if_eq (tgt := 49) (by decide) (dk_X7_narrow 42 _ rfl) ?_ ?_
          · refine F_lconst (v := 0) (by decide) (dk_X7_narrow 49 _ rfl) ?_
            refine F_goto (tgt := 54) (by decide) (dk_X7_narrow 50 _ rfl) ?_
            exact F_retL rfl (dk_X7_narrow 54 _ rfl)
          · refine F_lconst (v := 1) (by decide) (dk_X7_narrow 45 _ rfl) ?_
            refine F_goto (tgt := 54) (by decide) (dk_X7_narrow 46 _ rfl) ?_
            exact F_retL rfl (dk_X7_narrow 54 _ rfl)
      · refine F_lload_n (i := 2) (a := 2) rfl rfl (dk_X7_narrow 28 _ rfl) ?_
        refine F_l2i (dk_X7_narrow 29 _ rfl) ?_
        refine F_i2l (dk_X7_narrow 30 _ rfl) ?_
        refine F_goto (tgt := 54) (by decide) (dk_X7_narrow 31 _ rfl) ?_
        exact F_retL rfl (dk_X7_narrow 54 _ rfl)
    · refine F_lload_n (i := 2) (a := 2) rfl rfl (dk_X7_narrow 16 _ rfl) ?_
      refine F_l2i (dk_X7_narrow 17 _ rfl) ?_
      refine F_i2s (dk_X7_narrow 18 _ rfl) ?_
      refine F_i2l (dk_X7_narrow 19 _ rfl) ?_
      refine F_goto (tgt := 54) (by decide) (dk_X7_narrow 20 _ rfl) ?_
      exact F_retL rfl (dk_X7_narrow 54 _ rfl)
  · refine F_lload_n (i := 2) (a := 2) rfl rfl (dk_X7_narrow 4 _ rfl) ?_
    refine F_l2i (dk_X7_narrow 5 _ rfl) ?_
    refine F_i2b (dk_X7_narrow 6 _ rfl) ?_
    refine F_i2l (dk_X7_narrow 7 _ rfl) ?_
    refine F_goto (tgt := 54) (by decide) (dk_X7_narrow 8 _ rfl) ?_
    exact F_retL rfl (dk_X7_narrow 54 _ rfl)
def f_X7_item (m : mM) (p1 : Int32) (p2 : Int32) (p3 : Int64) : fR Int32 :=
  bnd (f_X7_isTape m p1) fun (x1 : Int32) (m2 : mM) => (if x1 = 0 then some ((-1), m2) else (gA (mA m2 33) p1).bind fun x4 => (if 0 ≤ x4 then (gA (mA m2 34) p1).bind fun x5 => bnd (f_X7_in m2 p2 0 (x5 - 1)) fun (x6 : Int32) (m7 : mM) => (if x6 = 0 then some ((-13), m7) else (gA (mA m7 33) p1).bind fun x9 => bnd (f_X7_narrow m7 x9 p3) fun (x10 : Int64) (m11 : mM) => (sL m11 35 (((60 * p1) + p2)) x10).bind fun m13 => some (1, m13)) else some ((-11), m2)))
theorem c_X7_item (m : mM) (p1 : Int32) (p2 : Int32) (p3 : Int64)  : cF false uI m_X7_item 4 [.ref 0, .int p1, .int p2, .long p3] m (f_X7_item m p1 p2 p3) := by
  refine cF_of ok_X7_item (fun _ _ => Nat.le_of_ble_eq_true rfl) ?_
  unfold f_X7_item
  show JF _ _ _ _ _ [(0, .ref 0), (1, .int p1), (2, .int p2), (3, .long p3)] _ _ _
  refine F_aload_n (i := 0) (a := 0) rfl rfl (dk_X7_item 0 _ rfl) ?_
  refine F_iload_n (i := 1) (a := 1) rfl rfl (dk_X7_item 1 _ rfl) ?_
  refine F_callV (ι' := uI) (ci := 7) (b := 0) (As := [.int p1]) (d' := 3) (rfl) ok_X7_isTape vi_X7_isTape cl_7_354 (n := 1) (by decide +kernel) rfl rfl rfl (Nat.le_of_ble_eq_true rfl) (by omega) (dk_X7_item 2 _ rfl) (c_X7_isTape _ _ ) (fun x1 m2 => ?_)
  show JF _ _ _ _ _ _ [.int x1] _ _
  refine F_if_ne (tgt := 10) (by decide) (dk_X7_item 5 _ rfl) ?_ ?_
  · refine F_aload_n (i := 0) (a := 0) rfl rfl (dk_X7_item 10 _ rfl) ?_
    refine F_gR (b := 33) fxM_7_56_0 fl_7_181 (dk_X7_item 11 _ rfl) ?_
    refine F_iload_n (i := 1) (a := 1) rfl rfl (dk_X7_item 14 _ rfl) ?_
    refine F_iald (axM_0_33) (dk_X7_item 15 _ rfl) (fun x4 => ?_)
    refine F_if_ge (tgt := 22) (by decide) (dk_X7_item 16 _ rfl) ?_ ?_
    · refine F_aload_n (i := 0) (a := 0) rfl rfl (dk_X7_item 22 _ rfl) ?_
      refine F_iload_n (i := 2) (a := 2) rfl rfl (dk_X7_item 23 _ rfl) ?_
      refine F_iconst (v := 0) (by decide) (dk_X7_item 24 _ rfl) ?_
      refine F_aload_n (i := 0) (a := 0) rfl rfl (dk_X7_item 25 _ rfl) ?_
      refine F_gR (b := 34) fxM_7_57_0 fl_7_184 (dk_X7_item 26 _ rfl) ?_
      refine F_iload_n (i := 1) (a := 1) rfl rfl (dk_X7_item 29 _ rfl) ?_
      refine F_iald (axM_0_34) (dk_X7_item 30 _ rfl) (fun x5 => ?_)
      refine F_iconst (v := 1) (by decide) (dk_X7_item 31 _ rfl) ?_
      refine F_isub (dk_X7_item 32 _ rfl) ?_
      refine F_callV (ι' := uI) (ci := 7) (b := 0) (As := [.int p2, .int 0, .int (x5 - 1)]) (d' := 2) (rfl) ok_X7_in vi_X7_in cl_7_194 (n := 3) (by decide +kernel) rfl rfl rfl (Nat.le_of_ble_eq_true rfl) (by omega) (dk_X7_item 33 _ rfl) (c_X7_in _ _ _ _ ) (fun x6 m7 => ?_)
      show JF _ _ _ _ _ _ [.int x6] _ _
      refine F_if_ne (tgt := 42) (by decide) (dk_X7_item 36 _ rfl) ?_ ?_
      · refine F_aload_n (i := 0) (a := 0) rfl rfl (dk_X7_item 42 _ rfl) ?_
        refine F_gR (b := 35) fxM_7_58_0 fl_7_187 (dk_X7_item 43 _ rfl) ?_
        refine F_bipush (v := 60) (by decide) (dk_X7_item 46 _ rfl) ?_
        refine F_iload_n (i := 1) (a := 1) rfl rfl (dk_X7_item 48 _ rfl) ?_
        refine F_imul (dk_X7_item 49 _ rfl) ?_
        refine F_iload_n (i := 2) (a := 2) rfl rfl (dk_X7_item 50 _ rfl) ?_
        refine F_iadd (dk_X7_item 51 _ rfl) ?_
        refine F_aload_n (i := 0) (a := 0) rfl rfl (dk_X7_item 52 _ rfl) ?_
        refine F_aload_n (i := 0) (a := 0) rfl rfl (dk_X7_item 53 _ rfl) ?_
        refine F_gR (b := 33) fxM_7_56_0 fl_7_181 (dk_X7_item 54 _ rfl) ?_
        refine F_iload_n (i := 1) (a := 1) rfl rfl (dk_X7_item 57 _ rfl) ?_
        refine F_iald (axM_0_33) (dk_X7_item 58 _ rfl) (fun x9 => ?_)
        refine F_lload_n (i := 3) (a := 3) rfl rfl (dk_X7_item 59 _ rfl) ?_
        refine F_callV (ι' := uL) (ci := 7) (b := 0) (As := [.int x9, .long p3]) (d' := 2) (rfl) ok_X7_narrow vi_X7_narrow cl_7_381 (n := 2) (by decide +kernel) rfl rfl rfl (Nat.le_of_ble_eq_true rfl) (by omega) (dk_X7_item 60 _ rfl) (c_X7_narrow _ _ _ ) (fun x10 m11 => ?_)
        show JF _ _ _ _ _ _ [.long x10, .int ((60 * p1) + p2), .ref 35] _ _
        refine F_last (axM_1_35) (dk_X7_item 63 _ rfl) (fun m13 => ?_)
        refine F_iconst (v := 1) (by decide) (dk_X7_item 64 _ rfl) ?_
        exact F_ret rfl (dk_X7_item 65 _ rfl)
      · refine F_bipush (v := (-13)) (by decide) (dk_X7_item 39 _ rfl) ?_
        exact F_ret rfl (dk_X7_item 41 _ rfl)
    · refine F_bipush (v := (-11)) (by decide) (dk_X7_item 19 _ rfl) ?_
      exact F_ret rfl (dk_X7_item 21 _ rfl)
  · refine F_iconst (v := (-1)) (by decide) (dk_X7_item 8 _ rfl) ?_
    exact F_ret rfl (dk_X7_item 9 _ rfl)
def f_X7_read (m : mM) (p1 : Int32) (p2 : Int32) : fR Int64 :=
  bnd (f_X7_isTape m p1) fun (x1 : Int32) (m2 : mM) => (if x1 = 0 then some ((-9223372036854775808), m2) else (gA (mA m2 33) p1).bind fun x4 => (if x4 < 0 then some ((-9223372036854775808), m2) else (gA (mA m2 34) p1).bind fun x5 => bnd (f_X7_in m2 p2 0 (x5 - 1)) fun (x6 : Int32) (m7 : mM) => (if x6 = 0 then some ((-9223372036854775808), m7) else (gL (mL m7 35) (((60 * p1) + p2))).bind fun x9 => some (x9, m7))))
theorem c_X7_read (m : mM) (p1 : Int32) (p2 : Int32)  : cF false uL m_X7_read 4 [.ref 0, .int p1, .int p2] m (f_X7_read m p1 p2) := by
  refine cF_of ok_X7_read (fun _ _ => Nat.le_of_ble_eq_true rfl) ?_
  unfold f_X7_read
  show JF _ _ _ _ _ [(0, .ref 0), (1, .int p1), (2, .int p2)] _ _ _
  refine F_aload_n (i := 0) (a := 0) rfl rfl (dk_X7_read 0 _ rfl) ?_
  refine F_iload_n (i := 1) (a := 1) rfl rfl (dk_X7_read 1 _ rfl) ?_
  refine F_callV (ι' := uI) (ci := 7) (b := 0) (As := [.int p1]) (d' := 3) (rfl) ok_X7_isTape vi_X7_isTape cl_7_354 (n := 1) (by decide +kernel) rfl rfl rfl (Nat.le_of_ble_eq_true rfl) (by omega) (dk_X7_read 2 _ rfl) (c_X7_isTape _ _ ) (fun x1 m2 => ?_)
  show JF _ _ _ _ _ _ [.int x1] _ _
  refine F_if_eq (tgt := 34) (by decide) (dk_X7_read 5 _ rfl) ?_ ?_
  · refine F_ldc2 (v := (-9223372036854775808)) ctl_7_345 (dk_X7_read 34 _ rfl) ?_
    refine F_goto (tgt := 51) (by decide) (dk_X7_read 37 _ rfl) ?_
    exact F_retL rfl (dk_X7_read 51 _ rfl)
  · refine F_aload_n (i := 0) (a := 0) rfl rfl (dk_X7_read 8 _ rfl) ?_
    refine F_gR (b := 33) fxM_7_56_0 fl_7_181 (dk_X7_read 9 _ rfl) ?_
    refine F_iload_n (i := 1) (a := 1) rfl rfl (dk_X7_read 12 _ rfl) ?_
    refine F_iald (axM_0_33) (dk_X7_read 13 _ rfl) (fun x4 => ?_)
    refine F_if_lt (tgt := 34) (by decide) (dk_X7_read 14 _ rfl) ?_ ?_
    · refine F_ldc2 (v := (-9223372036854775808)) ctl_7_345 (dk_X7_read 34 _ rfl) ?_
      refine F_goto (tgt := 51) (by decide) (dk_X7_read 37 _ rfl) ?_
      exact F_retL rfl (dk_X7_read 51 _ rfl)
    · refine F_aload_n (i := 0) (a := 0) rfl rfl (dk_X7_read 17 _ rfl) ?_
      refine F_iload_n (i := 2) (a := 2) rfl rfl (dk_X7_read 18 _ rfl) ?_
      refine F_iconst (v := 0) (by decide) (dk_X7_read 19 _ rfl) ?_
      refine F_aload_n (i := 0) (a := 0) rfl rfl (dk_X7_read 20 _ rfl) ?_
      refine F_gR (b := 34) fxM_7_57_0 fl_7_184 (dk_X7_read 21 _ rfl) ?_
      refine F_iload_n (i := 1) (a := 1) rfl rfl (dk_X7_read 24 _ rfl) ?_
      refine F_iald (axM_0_34) (dk_X7_read 25 _ rfl) (fun x5 => ?_)
      refine F_iconst (v := 1) (by decide) (dk_X7_read 26 _ rfl) ?_
      refine F_isub (dk_X7_read 27 _ rfl) ?_
      refine F_callV (ι' := uI) (ci := 7) (b := 0) (As := [.int p2, .int 0, .int (x5 - 1)]) (d' := 2) (rfl) ok_X7_in vi_X7_in cl_7_194 (n := 3) (by decide +kernel) rfl rfl rfl (Nat.le_of_ble_eq_true rfl) (by omega) (dk_X7_read 28 _ rfl) (c_X7_in _ _ _ _ ) (fun x6 m7 => ?_)
      show JF _ _ _ _ _ _ [.int x6] _ _
      refine F_if_ne (tgt := 40) (by decide) (dk_X7_read 31 _ rfl) ?_ ?_
      · refine F_aload_n (i := 0) (a := 0) rfl rfl (dk_X7_read 40 _ rfl) ?_
        refine F_gR (b := 35) fxM_7_58_0 fl_7_187 (dk_X7_read 41 _ rfl) ?_
        refine F_bipush (v := 60) (by decide) (dk_X7_read 44 _ rfl) ?_
        refine F_iload_n (i := 1) (a := 1) rfl rfl (dk_X7_read 46 _ rfl) ?_
        refine F_imul (dk_X7_read 47 _ rfl) ?_
        refine F_iload_n (i := 2) (a := 2) rfl rfl (dk_X7_read 48 _ rfl) ?_
        refine F_iadd (dk_X7_read 49 _ rfl) ?_
        refine F_lald (axM_1_35) (dk_X7_read 50 _ rfl) (fun x9 => ?_)
        exact F_retL rfl (dk_X7_read 51 _ rfl)
      · refine F_ldc2 (v := (-9223372036854775808)) ctl_7_345 (dk_X7_read 34 _ rfl) ?_
        refine F_goto (tgt := 51) (by decide) (dk_X7_read 37 _ rfl) ?_
        exact F_retL rfl (dk_X7_read 51 _ rfl)
def fb_X7_shift_141 (K141 : mM → Int32 → Int32 → Int32 → Int32 → fR Int32) (m : mM) (y3 : Int32) (y4 : Int32) (y5 : Int32) (y6 : Int32) : fR Int32 :=
  (if y5 ≤ y6 then some (y5, m) else (gL (mL m 36) y6).bind fun x13 => (sL m 35 ((((60 * y3) + y4) + y6)) x13).bind fun m14 => (K141 m14 y3 y4 y5 (y6 + 1)))
def f_X7_shift_141  : Nat → mM → Int32 → Int32 → Int32 → Int32 → fR Int32
  | 0, _, _, _, _, _ => none
  | F + 1, m, y3, y4, y5, y6 => fb_X7_shift_141  (f_X7_shift_141  F) m y3 y4 y5 y6
theorem jb_X7_shift_141 (K141 : mM → Int32 → Int32 → Int32 → Int32 → fR Int32) (hK141 : ∀ (m : mM) (y3 : Int32) (y4 : Int32) (y5 : Int32) (y6 : Int32) , JF false uI m_X7_shift 4 141 [(0, .ref 0), (3, .int y3), (4, .int y4), (5, .int y5), (6, .int y6)] [] m (K141 m y3 y4 y5 y6)) (m : mM) (y3 : Int32) (y4 : Int32) (y5 : Int32) (y6 : Int32)  : JF false uI m_X7_shift 4 141 [(0, .ref 0), (3, .int y3), (4, .int y4), (5, .int y5), (6, .int y6)] [] m (fb_X7_shift_141 K141 m y3 y4 y5 y6) := by
  unfold fb_X7_shift_141
  refine F_iload (i := 6) rfl (dk_X7_shift 141 _ rfl) ?_
  refine F_iload (i := 5) rfl (dk_X7_shift 143 _ rfl) ?_
  refine F_icmp_ge (tgt := 176) (by decide) (dk_X7_shift 145 _ rfl) ?_ ?_
  · refine F_iload (i := 5) rfl (dk_X7_shift 176 _ rfl) ?_
    exact F_ret rfl (dk_X7_shift 178 _ rfl)
  · refine F_aload_n (i := 0) (a := 0) rfl rfl (dk_X7_shift 148 _ rfl) ?_
    refine F_gR (b := 35) fxM_7_58_0 fl_7_187 (dk_X7_shift 149 _ rfl) ?_
    refine F_bipush (v := 60) (by decide) (dk_X7_shift 152 _ rfl) ?_
    refine F_iload_n (i := 3) (a := 3) rfl rfl (dk_X7_shift 154 _ rfl) ?_
    refine F_imul (dk_X7_shift 155 _ rfl) ?_
    refine F_iload (i := 4) rfl (dk_X7_shift 156 _ rfl) ?_
    refine F_iadd (dk_X7_shift 158 _ rfl) ?_
    refine F_iload (i := 6) rfl (dk_X7_shift 159 _ rfl) ?_
    refine F_iadd (dk_X7_shift 161 _ rfl) ?_
    refine F_aload_n (i := 0) (a := 0) rfl rfl (dk_X7_shift 162 _ rfl) ?_
    refine F_gR (b := 36) fxM_7_59_0 fl_7_191 (dk_X7_shift 163 _ rfl) ?_
    refine F_iload (i := 6) rfl (dk_X7_shift 166 _ rfl) ?_
    refine F_lald (axM_1_36) (dk_X7_shift 168 _ rfl) (fun x13 => ?_)
    refine F_last (axM_1_35) (dk_X7_shift 169 _ rfl) (fun m14 => ?_)
    refine F_iinc (i := 6) (n := 1) (v := (y6 + 1)) (lv' := [(6, .int (y6 + 1)), (0, .ref 0), (3, .int y3), (4, .int y4), (5, .int y5)]) rfl (by first | rfl | decide) (by decide) rfl (dk_X7_shift 170 _ rfl) ?_
    refine F_goto (tgt := 141) (by decide) (dk_X7_shift 173 _ rfl) ?_
    exact F_loc (List.forall_mem_cons.mpr ⟨(.tail _ (.head _)), (List.forall_mem_cons.mpr ⟨(.tail _ (.tail _ (.head _))), (List.forall_mem_cons.mpr ⟨(.tail _ (.tail _ (.tail _ (.head _)))), (List.forall_mem_cons.mpr ⟨(.tail _ (.tail _ (.tail _ (.tail _ (.head _))))), (List.forall_mem_cons.mpr ⟨(.head _), (fun _ z => absurd z List.not_mem_nil)⟩)⟩)⟩)⟩)⟩) (hK141 _ _ _ _ _ )
theorem j_X7_shift_141   : ∀ (F : Nat) (m : mM) (y3 : Int32) (y4 : Int32) (y5 : Int32) (y6 : Int32) , JF false uI m_X7_shift 4 141 [(0, .ref 0), (3, .int y3), (4, .int y4), (5, .int y5), (6, .int y6)] [] m (f_X7_shift_141  F m y3 y4 y5 y6) := by
  intro F
  induction F with
  | zero => intro m y3 y4 y5 y6 ; exact F_no
  | succ F ih => intro m y3 y4 y5 y6 ; exact jb_X7_shift_141  (f_X7_shift_141  F)  ih m y3 y4 y5 y6 
def fb_X7_shift_104 (K104 : mM → Int32 → Int32 → Int32 → Int32 → Int32 → Int32 → fR Int32) (m : mM) (y1 : Int32) (y2 : Int32) (y3 : Int32) (y4 : Int32) (y5 : Int32) (y6 : Int32) : fR Int32 :=
  (if y5 ≤ y6 then (f_X7_shift_141  1000 m y3 y4 y5 0) else (gL (mL m 35) ((((60 * y1) + y2) + y6))).bind fun x15 => (sL m 36 y6 x15).bind fun m16 => (K104 m16 y1 y2 y3 y4 y5 (y6 + 1)))
def f_X7_shift_104  : Nat → mM → Int32 → Int32 → Int32 → Int32 → Int32 → Int32 → fR Int32
  | 0, _, _, _, _, _, _, _ => none
  | F + 1, m, y1, y2, y3, y4, y5, y6 => fb_X7_shift_104  (f_X7_shift_104  F) m y1 y2 y3 y4 y5 y6
theorem jb_X7_shift_104 (K104 : mM → Int32 → Int32 → Int32 → Int32 → Int32 → Int32 → fR Int32) (hK104 : ∀ (m : mM) (y1 : Int32) (y2 : Int32) (y3 : Int32) (y4 : Int32) (y5 : Int32) (y6 : Int32) , JF false uI m_X7_shift 4 104 [(0, .ref 0), (1, .int y1), (2, .int y2), (3, .int y3), (4, .int y4), (5, .int y5), (6, .int y6)] [] m (K104 m y1 y2 y3 y4 y5 y6)) (m : mM) (y1 : Int32) (y2 : Int32) (y3 : Int32) (y4 : Int32) (y5 : Int32) (y6 : Int32)  : JF false uI m_X7_shift 4 104 [(0, .ref 0), (1, .int y1), (2, .int y2), (3, .int y3), (4, .int y4), (5, .int y5), (6, .int y6)] [] m (fb_X7_shift_104 K104 m y1 y2 y3 y4 y5 y6) := by
  unfold fb_X7_shift_104
  refine F_iload (i := 6) rfl (dk_X7_shift 104 _ rfl) ?_
  refine F_iload (i := 5) rfl (dk_X7_shift 106 _ rfl) ?_
  refine F_icmp_ge (tgt := 138) (by decide) (dk_X7_shift 108 _ rfl) ?_ ?_
  · refine F_iconst (v := 0) (by decide) (dk_X7_shift 138 _ rfl) ?_
    refine F_istore (lv' := [(6, .int 0), (0, .ref 0), (1, .int y1), (2, .int y2), (3, .int y3), (4, .int y4), (5, .int y5)]) (i := 6) (by decide) rfl (dk_X7_shift 139 _ rfl) ?_
    exact F_loc (List.forall_mem_cons.mpr ⟨(.tail _ (.head _)), (List.forall_mem_cons.mpr ⟨(.tail _ (.tail _ (.tail _ (.tail _ (.head _))))), (List.forall_mem_cons.mpr ⟨(.tail _ (.tail _ (.tail _ (.tail _ (.tail _ (.head _)))))), (List.forall_mem_cons.mpr ⟨(.tail _ (.tail _ (.tail _ (.tail _ (.tail _ (.tail _ (.head _))))))), (List.forall_mem_cons.mpr ⟨(.head _), (fun _ z => absurd z List.not_mem_nil)⟩)⟩)⟩)⟩)⟩) (j_X7_shift_141   1000 _ _ _ _ _ )
  · refine F_aload_n (i := 0) (a := 0) rfl rfl (dk_X7_shift 111 _ rfl) ?_
    refine F_gR (b := 36) fxM_7_59_0 fl_7_191 (dk_X7_shift 112 _ rfl) ?_
    refine F_iload (i := 6) rfl (dk_X7_shift 115 _ rfl) ?_
    refine F_aload_n (i := 0) (a := 0) rfl rfl (dk_X7_shift 117 _ rfl) ?_
    refine F_gR (b := 35) fxM_7_58_0 fl_7_187 (dk_X7_shift 118 _ rfl) ?_
    refine F_bipush (v := 60) (by decide) (dk_X7_shift 121 _ rfl) ?_
    refine F_iload_n (i := 1) (a := 1) rfl rfl (dk_X7_shift 123 _ rfl) ?_
    refine F_imul (dk_X7_shift 124 _ rfl) ?_
    refine F_iload_n (i := 2) (a := 2) rfl rfl (dk_X7_shift 125 _ rfl) ?_
    refine F_iadd (dk_X7_shift 126 _ rfl) ?_
    refine F_iload (i := 6) rfl (dk_X7_shift 127 _ rfl) ?_
    refine F_iadd (dk_X7_shift 129 _ rfl) ?_
    refine F_lald (axM_1_35) (dk_X7_shift 130 _ rfl) (fun x15 => ?_)
    refine F_last (axM_1_36) (dk_X7_shift 131 _ rfl) (fun m16 => ?_)
    refine F_iinc (i := 6) (n := 1) (v := (y6 + 1)) (lv' := [(6, .int (y6 + 1)), (0, .ref 0), (1, .int y1), (2, .int y2), (3, .int y3), (4, .int y4), (5, .int y5)]) rfl (by first | rfl | decide) (by decide) rfl (dk_X7_shift 132 _ rfl) ?_
    refine F_goto (tgt := 104) (by decide) (dk_X7_shift 135 _ rfl) ?_
    exact F_loc (List.forall_mem_cons.mpr ⟨(.tail _ (.head _)), (List.forall_mem_cons.mpr ⟨(.tail _ (.tail _ (.head _))), (List.forall_mem_cons.mpr ⟨(.tail _ (.tail _ (.tail _ (.head _)))), (List.forall_mem_cons.mpr ⟨(.tail _ (.tail _ (.tail _ (.tail _ (.head _))))), (List.forall_mem_cons.mpr ⟨(.tail _ (.tail _ (.tail _ (.tail _ (.tail _ (.head _)))))), (List.forall_mem_cons.mpr ⟨(.tail _ (.tail _ (.tail _ (.tail _ (.tail _ (.tail _ (.head _))))))), (List.forall_mem_cons.mpr ⟨(.head _), (fun _ z => absurd z List.not_mem_nil)⟩)⟩)⟩)⟩)⟩)⟩)⟩) (hK104 _ _ _ _ _ _ _ )
theorem j_X7_shift_104   : ∀ (F : Nat) (m : mM) (y1 : Int32) (y2 : Int32) (y3 : Int32) (y4 : Int32) (y5 : Int32) (y6 : Int32) , JF false uI m_X7_shift 4 104 [(0, .ref 0), (1, .int y1), (2, .int y2), (3, .int y3), (4, .int y4), (5, .int y5), (6, .int y6)] [] m (f_X7_shift_104  F m y1 y2 y3 y4 y5 y6) := by
  intro F
  induction F with
  | zero => intro m y1 y2 y3 y4 y5 y6 ; exact F_no
  | succ F ih => intro m y1 y2 y3 y4 y5 y6 ; exact jb_X7_shift_104  (f_X7_shift_104  F)  ih m y1 y2 y3 y4 y5 y6 
def f_X7_shift (m : mM) (p1 : Int32) (p2 : Int32) (p3 : Int32) (p4 : Int32) (p5 : Int32) : fR Int32 :=
  bnd (f_X7_isTape m p1) fun (x1 : Int32) (m2 : mM) => (if x1 = 0 then some ((-1), m2) else bnd (f_X7_isTape m2 p3) fun (x4 : Int32) (m5 : mM) => (if x4 = 0 then some ((-1), m5) else (gA (mA m5 33) p1).bind fun x7 => (if x7 < 0 then some ((-11), m5) else (gA (mA m5 33) p3).bind fun x8 => (if 0 ≤ x8 then (gA (mA m5 33) p1).bind fun x9 => (gA (mA m5 33) p3).bind fun x10 => (if x9 = x10 then (if p5 < 0 then some ((-13), m5) else (if p2 < 0 then some ((-13), m5) else (if p4 < 0 then some ((-13), m5) else (gA (mA m5 34) p1).bind fun x11 => (if (x11 - p5) < p2 then some ((-13), m5) else (gA (mA m5 34) p3).bind fun x12 => (if p4 ≤ (x12 - p5) then (f_X7_shift_104  1000 m5 p1 p2 p3 p4 p5 0) else some ((-13), m5)))))) else some ((-12), m5)) else some ((-11), m5)))))
theorem c_X7_shift (m : mM) (p1 : Int32) (p2 : Int32) (p3 : Int32) (p4 : Int32) (p5 : Int32)  : cF false uI m_X7_shift 4 [.ref 0, .int p1, .int p2, .int p3, .int p4, .int p5] m (f_X7_shift m p1 p2 p3 p4 p5) := by
  refine cF_of ok_X7_shift (fun _ _ => Nat.le_of_ble_eq_true rfl) ?_
  unfold f_X7_shift
  show JF _ _ _ _ _ [(0, .ref 0), (1, .int p1), (2, .int p2), (3, .int p3), (4, .int p4), (5, .int p5)] _ _ _
  refine F_aload_n (i := 0) (a := 0) rfl rfl (dk_X7_shift 0 _ rfl) ?_
  refine F_iload_n (i := 1) (a := 1) rfl rfl (dk_X7_shift 1 _ rfl) ?_
  refine F_callV (ι' := uI) (ci := 7) (b := 0) (As := [.int p1]) (d' := 3) (rfl) ok_X7_isTape vi_X7_isTape cl_7_354 (n := 1) (by decide +kernel) rfl rfl rfl (Nat.le_of_ble_eq_true rfl) (by omega) (dk_X7_shift 2 _ rfl) (c_X7_isTape _ _ ) (fun x1 m2 => ?_)
  show JF _ _ _ _ _ _ [.int x1] _ _
  refine F_if_eq (tgt := 16) (by decide) (dk_X7_shift 5 _ rfl) ?_ ?_
  · refine F_iconst (v := (-1)) (by decide) (dk_X7_shift 16 _ rfl) ?_
    exact F_ret rfl (dk_X7_shift 17 _ rfl)
  · refine F_aload_n (i := 0) (a := 0) rfl rfl (dk_X7_shift 8 _ rfl) ?_
    refine F_iload_n (i := 3) (a := 3) rfl rfl (dk_X7_shift 9 _ rfl) ?_
    refine F_callV (ι' := uI) (ci := 7) (b := 0) (As := [.int p3]) (d' := 3) (rfl) ok_X7_isTape vi_X7_isTape cl_7_354 (n := 1) (by decide +kernel) rfl rfl rfl (Nat.le_of_ble_eq_true rfl) (by omega) (dk_X7_shift 10 _ rfl) (c_X7_isTape _ _ ) (fun x4 m5 => ?_)
    show JF _ _ _ _ _ _ [.int x4] _ _
    refine F_if_ne (tgt := 18) (by decide) (dk_X7_shift 13 _ rfl) ?_ ?_
    · refine F_aload_n (i := 0) (a := 0) rfl rfl (dk_X7_shift 18 _ rfl) ?_
      refine F_gR (b := 33) fxM_7_56_0 fl_7_181 (dk_X7_shift 19 _ rfl) ?_
      refine F_iload_n (i := 1) (a := 1) rfl rfl (dk_X7_shift 22 _ rfl) ?_
      refine F_iald (axM_0_33) (dk_X7_shift 23 _ rfl) (fun x7 => ?_)
      refine F_if_lt (tgt := 36) (by decide) (dk_X7_shift 24 _ rfl) ?_ ?_
      · refine F_bipush (v := (-11)) (by decide) (dk_X7_shift 36 _ rfl) ?_
        exact F_ret rfl (dk_X7_shift 38 _ rfl)
      · refine F_aload_n (i := 0) (a := 0) rfl rfl (dk_X7_shift 27 _ rfl) ?_
        refine F_gR (b := 33) fxM_7_56_0 fl_7_181 (dk_X7_shift 28 _ rfl) ?_
        refine F_iload_n (i := 3) (a := 3) rfl rfl (dk_X7_shift 31 _ rfl) ?_
        refine F_iald (axM_0_33) (dk_X7_shift 32 _ rfl) (fun x8 => ?_)
        refine F_if_ge (tgt := 39) (by decide) (dk_X7_shift 33 _ rfl) ?_ ?_
        · refine F_aload_n (i := 0) (a := 0) rfl rfl (dk_X7_shift 39 _ rfl) ?_
          refine F_gR (b := 33) fxM_7_56_0 fl_7_181 (dk_X7_shift 40 _ rfl) ?_
          refine F_iload_n (i := 1) (a := 1) rfl rfl (dk_X7_shift 43 _ rfl) ?_
          refine F_iald (axM_0_33) (dk_X7_shift 44 _ rfl) (fun x9 => ?_)
          refine F_aload_n (i := 0) (a := 0) rfl rfl (dk_X7_shift 45 _ rfl) ?_
          refine F_gR (b := 33) fxM_7_56_0 fl_7_181 (dk_X7_shift 46 _ rfl) ?_
          refine F_iload_n (i := 3) (a := 3) rfl rfl (dk_X7_shift 49 _ rfl) ?_
          refine F_iald (axM_0_33) (dk_X7_shift 50 _ rfl) (fun x10 => ?_)
          refine F_icmp_eq (tgt := 57) (by decide) (dk_X7_shift 51 _ rfl) ?_ ?_
          · refine F_iload (i := 5) rfl (dk_X7_shift 57 _ rfl) ?_
            refine F_if_lt (tgt := 98) (by decide) (dk_X7_shift 59 _ rfl) ?_ ?_
            · refine F_bipush (v := (-13)) (by decide) (dk_X7_shift 98 _ rfl) ?_
              exact F_ret rfl (dk_X7_shift 100 _ rfl)
            · refine F_iload_n (i := 2) (a := 2) rfl rfl (dk_X7_shift 62 _ rfl) ?_
              refine F_if_lt (tgt := 98) (by decide) (dk_X7_shift 63 _ rfl) ?_ ?_
              · refine F_bipush (v := (-13)) (by decide) (dk_X7_shift 98 _ rfl) ?_
                exact F_ret rfl (dk_X7_shift 100 _ rfl)
              · refine F_iload (i := 4) rfl (dk_X7_shift 66 _ rfl) ?_
                refine F_if_lt (tgt := 98) (by decide) (dk_X7_shift 68 _ rfl) ?_ ?_
                · refine F_bipush (v := (-13)) (by decide) (dk_X7_shift 98 _ rfl) ?_
                  exact F_ret rfl (dk_X7_shift 100 _ rfl)
                · refine F_iload_n (i := 2) (a := 2) rfl rfl (dk_X7_shift 71 _ rfl) ?_
                  refine F_aload_n (i := 0) (a := 0) rfl rfl (dk_X7_shift 72 _ rfl) ?_
                  refine F_gR (b := 34) fxM_7_57_0 fl_7_184 (dk_X7_shift 73 _ rfl) ?_
                  refine F_iload_n (i := 1) (a := 1) rfl rfl (dk_X7_shift 76 _ rfl) ?_
                  refine F_iald (axM_0_34) (dk_X7_shift 77 _ rfl) (fun x11 => ?_)
                  refine F_iload (i := 5) rfl (dk_X7_shift 78 _ rfl) ?_
                  refine F_isub (dk_X7_shift 80 _ rfl) ?_
                  refine F_icmp_gt (tgt := 98) (by decide) (dk_X7_shift 81 _ rfl) ?_ ?_
                  · refine F_bipush (v := (-13)) (by decide) (dk_X7_shift 98 _ rfl) ?_
                    exact F_ret rfl (dk_X7_shift 100 _ rfl)
                  · refine F_iload (i := 4) rfl (dk_X7_shift 84 _ rfl) ?_
                    refine F_aload_n (i := 0) (a := 0) rfl rfl (dk_X7_shift 86 _ rfl) ?_
                    refine F_gR (b := 34) fxM_7_57_0 fl_7_184 (dk_X7_shift 87 _ rfl) ?_
                    refine F_iload_n (i := 3) (a := 3) rfl rfl (dk_X7_shift 90 _ rfl) ?_
                    refine F_iald (axM_0_34) (dk_X7_shift 91 _ rfl) (fun x12 => ?_)
                    refine F_iload (i := 5) rfl (dk_X7_shift 92 _ rfl) ?_
                    refine F_isub (dk_X7_shift 94 _ rfl) ?_
                    refine F_icmp_le (tgt := 101) (by decide) (dk_X7_shift 95 _ rfl) ?_ ?_
                    · refine F_iconst (v := 0) (by decide) (dk_X7_shift 101 _ rfl) ?_
                      refine F_istore (lv' := [(6, .int 0), (0, .ref 0), (1, .int p1), (2, .int p2), (3, .int p3), (4, .int p4), (5, .int p5)]) (i := 6) (by decide) rfl (dk_X7_shift 102 _ rfl) ?_
                      exact F_loc (List.forall_mem_cons.mpr ⟨(.tail _ (.head _)), (List.forall_mem_cons.mpr ⟨(.tail _ (.tail _ (.head _))), (List.forall_mem_cons.mpr ⟨(.tail _ (.tail _ (.tail _ (.head _)))), (List.forall_mem_cons.mpr ⟨(.tail _ (.tail _ (.tail _ (.tail _ (.head _))))), (List.forall_mem_cons.mpr ⟨(.tail _ (.tail _ (.tail _ (.tail _ (.tail _ (.head _)))))), (List.forall_mem_cons.mpr ⟨(.tail _ (.tail _ (.tail _ (.tail _ (.tail _ (.tail _ (.head _))))))), (List.forall_mem_cons.mpr ⟨(.head _), (fun _ z => absurd z List.not_mem_nil)⟩)⟩)⟩)⟩)⟩)⟩)⟩) (j_X7_shift_104   1000 _ _ _ _ _ _ _ )
                    · refine F_bipush (v := (-13)) (by decide) (dk_X7_shift 98 _ rfl) ?_
                      exact F_ret rfl (dk_X7_shift 100 _ rfl)
          · refine F_bipush (v := (-12)) (by decide) (dk_X7_shift 54 _ rfl) ?_
            exact F_ret rfl (dk_X7_shift 56 _ rfl)
        · refine F_bipush (v := (-11)) (by decide) (dk_X7_shift 36 _ rfl) ?_
          exact F_ret rfl (dk_X7_shift 38 _ rfl)
    · refine F_iconst (v := (-1)) (by decide) (dk_X7_shift 16 _ rfl) ?_
      exact F_ret rfl (dk_X7_shift 17 _ rfl)
end
end
