section
set_option maxRecDepth 100000
def fb_X7_allMore_8 (K8 : mM → Int32 → Int32 → fR Int32) (m : mM) (y1 : Int32) (y2 : Int32) : fR Int32 :=
  (if (mI m 0) ≤ y2 then some (y1, m) else (gA (mA m 7) y2).bind fun x4 => (if x4 = 0 then nmI (y1 + 0) fun v5 => (K8 m v5 (y2 + 1)) else (gA (mA m 20) y2).bind fun x6 => nmI (y1 + x6) fun v7 => (K8 m v7 (y2 + 1))))
def f_X7_allMore_8  : Nat → mM → Int32 → Int32 → fR Int32
  | 0, _, _, _ => none
  | F + 1, m, y1, y2 => fb_X7_allMore_8  (f_X7_allMore_8  F) m y1 y2
theorem jb_X7_allMore_8 (K8 : mM → Int32 → Int32 → fR Int32) (hK8 : ∀ (m : mM) (y1 : Int32) (y2 : Int32) , JF false uI m_X7_allMore 10 8 [(0, .ref 0), (1, .int y1), (2, .int y2)] [] m (K8 m y1 y2)) (m : mM) (y1 : Int32) (y2 : Int32)  : JF false uI m_X7_allMore 10 8 [(0, .ref 0), (1, .int y1), (2, .int y2)] [] m (fb_X7_allMore_8 K8 m y1 y2) := by
  unfold fb_X7_allMore_8
  refine F_iload_n (i := 2) (a := 2) rfl rfl (dk_X7_allMore 8 _ rfl) ?_
  refine F_aload_n (i := 0) (a := 0) rfl rfl (dk_X7_allMore 9 _ rfl) ?_
  refine F_gI (n := 0) fxM_7_0_0 rfl fl_7_7 (dk_X7_allMore 10 _ rfl) ?_
  refine F_icmp_ge (tgt := 44) (by decide) (dk_X7_allMore 13 _ rfl) ?_ ?_
  · refine F_iload_n (i := 1) (a := 1) rfl rfl (dk_X7_allMore 44 _ rfl) ?_
    exact F_ret rfl (dk_X7_allMore 45 _ rfl)
  · refine F_iload_n (i := 1) (a := 1) rfl rfl (dk_X7_allMore 16 _ rfl) ?_
    refine F_aload_n (i := 0) (a := 0) rfl rfl (dk_X7_allMore 17 _ rfl) ?_
    refine F_gR (b := 7) fxM_7_9_0 fl_7_38 (dk_X7_allMore 18 _ rfl) ?_
    refine F_iload_n (i := 2) (a := 2) rfl rfl (dk_X7_allMore 21 _ rfl) ?_
    refine F_zald (axM_3_7) (dk_X7_allMore 22 _ rfl) (fun x4 => ?_)
    refine F_if_eq (tgt := 35) (by decide) (dk_X7_allMore 23 _ rfl) ?_ ?_
    · refine F_iconst (v := 0) (by decide) (dk_X7_allMore 35 _ rfl) ?_
      refine F_iadd (dk_X7_allMore 36 _ rfl) ?_
      refine F_nm (fun v5 => ?_)
      refine F_istore_n (lv' := [(1, .int v5), (0, .ref 0), (2, .int y2)]) (i := 1) (a := 1) rfl (by decide) rfl (dk_X7_allMore 37 _ rfl) ?_
      refine F_iinc (i := 2) (n := 1) (v := (y2 + 1)) (lv' := [(2, .int (y2 + 1)), (1, .int v5), (0, .ref 0)]) rfl (by first | rfl | decide) (by decide) rfl (dk_X7_allMore 38 _ rfl) ?_
      refine F_goto (tgt := 8) (by decide) (dk_X7_allMore 41 _ rfl) ?_
      exact F_loc (List.forall_mem_cons.mpr ⟨(.tail _ (.tail _ (.head _))), (List.forall_mem_cons.mpr ⟨(.tail _ (.head _)), (List.forall_mem_cons.mpr ⟨(.head _), (fun _ z => absurd z List.not_mem_nil)⟩)⟩)⟩) (hK8 _ _ _ )
    · refine F_aload_n (i := 0) (a := 0) rfl rfl (dk_X7_allMore 26 _ rfl) ?_
      refine F_gR (b := 20) fxM_7_33_0 fl_7_111 (dk_X7_allMore 27 _ rfl) ?_
      refine F_iload_n (i := 2) (a := 2) rfl rfl (dk_X7_allMore 30 _ rfl) ?_
      refine F_iald (axM_0_20) (dk_X7_allMore 31 _ rfl) (fun x6 => ?_)
      refine F_goto (tgt := 36) (by decide) (dk_X7_allMore 32 _ rfl) ?_
      refine F_iadd (dk_X7_allMore 36 _ rfl) ?_
      refine F_nm (fun v7 => ?_)
      refine F_istore_n (lv' := [(1, .int v7), (0, .ref 0), (2, .int y2)]) (i := 1) (a := 1) rfl (by decide) rfl (dk_X7_allMore 37 _ rfl) ?_
      refine F_iinc (i := 2) (n := 1) (v := (y2 + 1)) (lv' := [(2, .int (y2 + 1)), (1, .int v7), (0, .ref 0)]) rfl (by first | rfl | decide) (by decide) rfl (dk_X7_allMore 38 _ rfl) ?_
      refine F_goto (tgt := 8) (by decide) (dk_X7_allMore 41 _ rfl) ?_
      exact F_loc (List.forall_mem_cons.mpr ⟨(.tail _ (.tail _ (.head _))), (List.forall_mem_cons.mpr ⟨(.tail _ (.head _)), (List.forall_mem_cons.mpr ⟨(.head _), (fun _ z => absurd z List.not_mem_nil)⟩)⟩)⟩) (hK8 _ _ _ )
theorem j_X7_allMore_8   : ∀ (F : Nat) (m : mM) (y1 : Int32) (y2 : Int32) , JF false uI m_X7_allMore 10 8 [(0, .ref 0), (1, .int y1), (2, .int y2)] [] m (f_X7_allMore_8  F m y1 y2) := by
  intro F
  induction F with
  | zero => intro m y1 y2 ; exact F_no
  | succ F ih => intro m y1 y2 ; exact jb_X7_allMore_8  (f_X7_allMore_8  F)  ih m y1 y2 
def f_X7_allMore (m : mM)  : fR Int32 :=
  bnd (f_X7_layYear m ) fun (x1 : Unit) (m2 : mM) => (f_X7_allMore_8  1000 m2 0 0)
theorem c_X7_allMore (m : mM)   : cF false uI m_X7_allMore 10 [.ref 0] m (f_X7_allMore m ) := by
  refine cF_of ok_X7_allMore (fun _ _ => Nat.le_of_ble_eq_true rfl) ?_
  unfold f_X7_allMore
  show JF _ _ _ _ _ [(0, .ref 0)] _ _ _
  refine F_aload_n (i := 0) (a := 0) rfl rfl (dk_X7_allMore 0 _ rfl) ?_
  refine F_callV (ι' := uU) (ci := 7) (b := 0) (As := []) (d' := 9) (rfl) ok_X7_layYear vi_X7_layYear cl_7_320 (n := 0) (by decide +kernel) rfl rfl rfl (Nat.le_of_ble_eq_true rfl) (by omega) (dk_X7_allMore 1 _ rfl) (c_X7_layYear _  ) (fun x1 m2 => ?_)
  show JF _ _ _ _ _ _ [] _ _
  refine F_iconst (v := 0) (by decide) (dk_X7_allMore 4 _ rfl) ?_
  refine F_istore_n (lv' := [(1, .int 0), (0, .ref 0)]) (i := 1) (a := 1) rfl (by decide) rfl (dk_X7_allMore 5 _ rfl) ?_
  refine F_iconst (v := 0) (by decide) (dk_X7_allMore 6 _ rfl) ?_
  refine F_istore_n (lv' := [(2, .int 0), (1, .int 0), (0, .ref 0)]) (i := 2) (a := 2) rfl (by decide) rfl (dk_X7_allMore 7 _ rfl) ?_
  exact F_loc (List.forall_mem_cons.mpr ⟨(.tail _ (.tail _ (.head _))), (List.forall_mem_cons.mpr ⟨(.tail _ (.head _)), (List.forall_mem_cons.mpr ⟨(.head _), (fun _ z => absurd z List.not_mem_nil)⟩)⟩)⟩) (j_X7_allMore_8   1000 _ _ _ )
def fb_X7_reckoning_61 (K61 : mM → Int32 → Int32 → Int32 → Int32 → fR Int32) (m : mM) (y1 : Int32) (y2 : Int32) (y3 : Int32) (y4 : Int32) : fR Int32 :=
  (if (mI m 0) ≤ y4 then some ((y3 - y2), m) else (gA (mA m 4) y4).bind fun x10 => (rmI (((x10 + 12) - y1)) 12).bind fun x11 => (sA 0 m 4 y4 x11).bind fun m12 => (K61 m12 y1 y2 y3 (y4 + 1)))
def f_X7_reckoning_61  : Nat → mM → Int32 → Int32 → Int32 → Int32 → fR Int32
  | 0, _, _, _, _, _ => none
  | F + 1, m, y1, y2, y3, y4 => fb_X7_reckoning_61  (f_X7_reckoning_61  F) m y1 y2 y3 y4
theorem jb_X7_reckoning_61 (K61 : mM → Int32 → Int32 → Int32 → Int32 → fR Int32) (hK61 : ∀ (m : mM) (y1 : Int32) (y2 : Int32) (y3 : Int32) (y4 : Int32) , JF false uI m_X7_reckoning 11 61 [(0, .ref 0), (1, .int y1), (2, .int y2), (3, .int y3), (4, .int y4)] [] m (K61 m y1 y2 y3 y4)) (m : mM) (y1 : Int32) (y2 : Int32) (y3 : Int32) (y4 : Int32)  : JF false uI m_X7_reckoning 11 61 [(0, .ref 0), (1, .int y1), (2, .int y2), (3, .int y3), (4, .int y4)] [] m (fb_X7_reckoning_61 K61 m y1 y2 y3 y4) := by
  unfold fb_X7_reckoning_61
  refine F_iload (i := 4) rfl (dk_X7_reckoning 61 _ rfl) ?_
  refine F_aload_n (i := 0) (a := 0) rfl rfl (dk_X7_reckoning 63 _ rfl) ?_
  refine F_gI (n := 0) fxM_7_0_0 rfl fl_7_7 (dk_X7_reckoning 64 _ rfl) ?_
  refine F_icmp_ge (tgt := 98) (by decide) (dk_X7_reckoning 67 _ rfl) ?_ ?_
  · refine F_iload_n (i := 3) (a := 3) rfl rfl (dk_X7_reckoning 98 _ rfl) ?_
    refine F_iload_n (i := 2) (a := 2) rfl rfl (dk_X7_reckoning 99 _ rfl) ?_
    refine F_isub (dk_X7_reckoning 100 _ rfl) ?_
    exact F_ret rfl (dk_X7_reckoning 101 _ rfl)
  · refine F_aload_n (i := 0) (a := 0) rfl rfl (dk_X7_reckoning 70 _ rfl) ?_
    refine F_gR (b := 4) fxM_7_6_0 fl_7_29 (dk_X7_reckoning 71 _ rfl) ?_
    refine F_iload (i := 4) rfl (dk_X7_reckoning 74 _ rfl) ?_
    refine F_aload_n (i := 0) (a := 0) rfl rfl (dk_X7_reckoning 76 _ rfl) ?_
    refine F_gR (b := 4) fxM_7_6_0 fl_7_29 (dk_X7_reckoning 77 _ rfl) ?_
    refine F_iload (i := 4) rfl (dk_X7_reckoning 80 _ rfl) ?_
    refine F_iald (axM_0_4) (dk_X7_reckoning 82 _ rfl) (fun x10 => ?_)
    refine F_bipush (v := 12) (by decide) (dk_X7_reckoning 83 _ rfl) ?_
    refine F_iadd (dk_X7_reckoning 85 _ rfl) ?_
    refine F_iload_n (i := 1) (a := 1) rfl rfl (dk_X7_reckoning 86 _ rfl) ?_
    refine F_isub (dk_X7_reckoning 87 _ rfl) ?_
    refine F_bipush (v := 12) (by decide) (dk_X7_reckoning 88 _ rfl) ?_
    refine F_irem (dk_X7_reckoning 90 _ rfl) (fun x11 => ?_)
    refine F_iast (axM_0_4) (dk_X7_reckoning 91 _ rfl) (fun m12 => ?_)
    refine F_iinc (i := 4) (n := 1) (v := (y4 + 1)) (lv' := [(4, .int (y4 + 1)), (0, .ref 0), (1, .int y1), (2, .int y2), (3, .int y3)]) rfl (by first | rfl | decide) (by decide) rfl (dk_X7_reckoning 92 _ rfl) ?_
    refine F_goto (tgt := 61) (by decide) (dk_X7_reckoning 95 _ rfl) ?_
    exact F_loc (List.forall_mem_cons.mpr ⟨(.tail _ (.head _)), (List.forall_mem_cons.mpr ⟨(.tail _ (.tail _ (.head _))), (List.forall_mem_cons.mpr ⟨(.tail _ (.tail _ (.tail _ (.head _)))), (List.forall_mem_cons.mpr ⟨(.tail _ (.tail _ (.tail _ (.tail _ (.head _))))), (List.forall_mem_cons.mpr ⟨(.head _), (fun _ z => absurd z List.not_mem_nil)⟩)⟩)⟩)⟩)⟩) (hK61 _ _ _ _ _ )
theorem j_X7_reckoning_61   : ∀ (F : Nat) (m : mM) (y1 : Int32) (y2 : Int32) (y3 : Int32) (y4 : Int32) , JF false uI m_X7_reckoning 11 61 [(0, .ref 0), (1, .int y1), (2, .int y2), (3, .int y3), (4, .int y4)] [] m (f_X7_reckoning_61  F m y1 y2 y3 y4) := by
  intro F
  induction F with
  | zero => intro m y1 y2 y3 y4 ; exact F_no
  | succ F ih => intro m y1 y2 y3 y4 ; exact jb_X7_reckoning_61  (f_X7_reckoning_61  F)  ih m y1 y2 y3 y4 
def fb_X7_reckoning_22 (K22 : mM → Int32 → Int32 → Int32 → fR Int32) (m : mM) (y1 : Int32) (y2 : Int32) (y3 : Int32) : fR Int32 :=
  (if (mI m 0) ≤ y3 then bnd (f_X7_allMore m ) fun (x7 : Int32) (m8 : mM) => (f_X7_reckoning_61  1000 m8 y1 y2 x7 0) else (gA (mA m 4) y3).bind fun x13 => (rmI (x13 + y1) 12).bind fun x14 => (sA 0 m 4 y3 x14).bind fun m15 => (K22 m15 y1 y2 (y3 + 1)))
def f_X7_reckoning_22  : Nat → mM → Int32 → Int32 → Int32 → fR Int32
  | 0, _, _, _, _ => none
  | F + 1, m, y1, y2, y3 => fb_X7_reckoning_22  (f_X7_reckoning_22  F) m y1 y2 y3
theorem jb_X7_reckoning_22 (K22 : mM → Int32 → Int32 → Int32 → fR Int32) (hK22 : ∀ (m : mM) (y1 : Int32) (y2 : Int32) (y3 : Int32) , JF false uI m_X7_reckoning 11 22 [(0, .ref 0), (1, .int y1), (2, .int y2), (3, .int y3)] [] m (K22 m y1 y2 y3)) (m : mM) (y1 : Int32) (y2 : Int32) (y3 : Int32)  : JF false uI m_X7_reckoning 11 22 [(0, .ref 0), (1, .int y1), (2, .int y2), (3, .int y3)] [] m (fb_X7_reckoning_22 K22 m y1 y2 y3) := by
  unfold fb_X7_reckoning_22
  refine F_iload_n (i := 3) (a := 3) rfl rfl (dk_X7_reckoning 22 _ rfl) ?_
  refine F_aload_n (i := 0) (a := 0) rfl rfl (dk_X7_reckoning 23 _ rfl) ?_
  refine F_gI (n := 0) fxM_7_0_0 rfl fl_7_7 (dk_X7_reckoning 24 _ rfl) ?_
  refine F_icmp_ge (tgt := 53) (by decide) (dk_X7_reckoning 27 _ rfl) ?_ ?_
  · refine F_aload_n (i := 0) (a := 0) rfl rfl (dk_X7_reckoning 53 _ rfl) ?_
    refine F_callV (ι' := uI) (ci := 7) (b := 0) (As := []) (d' := 10) (rfl) ok_X7_allMore vi_X7_allMore cl_7_336 (n := 0) (by decide +kernel) rfl rfl rfl (Nat.le_of_ble_eq_true rfl) (by omega) (dk_X7_reckoning 54 _ rfl) (c_X7_allMore _  ) (fun x7 m8 => ?_)
    show JF _ _ _ _ _ _ [.int x7] _ _
    refine F_istore_n (lv' := [(3, .int x7), (0, .ref 0), (1, .int y1), (2, .int y2)]) (i := 3) (a := 3) rfl (by decide) rfl (dk_X7_reckoning 57 _ rfl) ?_
    refine F_iconst (v := 0) (by decide) (dk_X7_reckoning 58 _ rfl) ?_
    refine F_istore (lv' := [(4, .int 0), (3, .int x7), (0, .ref 0), (1, .int y1), (2, .int y2)]) (i := 4) (by decide) rfl (dk_X7_reckoning 59 _ rfl) ?_
    exact F_loc (List.forall_mem_cons.mpr ⟨(.tail _ (.tail _ (.head _))), (List.forall_mem_cons.mpr ⟨(.tail _ (.tail _ (.tail _ (.head _)))), (List.forall_mem_cons.mpr ⟨(.tail _ (.tail _ (.tail _ (.tail _ (.head _))))), (List.forall_mem_cons.mpr ⟨(.tail _ (.head _)), (List.forall_mem_cons.mpr ⟨(.head _), (fun _ z => absurd z List.not_mem_nil)⟩)⟩)⟩)⟩)⟩) (j_X7_reckoning_61   1000 _ _ _ _ _ )
  · refine F_aload_n (i := 0) (a := 0) rfl rfl (dk_X7_reckoning 30 _ rfl) ?_
    refine F_gR (b := 4) fxM_7_6_0 fl_7_29 (dk_X7_reckoning 31 _ rfl) ?_
    refine F_iload_n (i := 3) (a := 3) rfl rfl (dk_X7_reckoning 34 _ rfl) ?_
    refine F_aload_n (i := 0) (a := 0) rfl rfl (dk_X7_reckoning 35 _ rfl) ?_
    refine F_gR (b := 4) fxM_7_6_0 fl_7_29 (dk_X7_reckoning 36 _ rfl) ?_
    refine F_iload_n (i := 3) (a := 3) rfl rfl (dk_X7_reckoning 39 _ rfl) ?_
    refine F_iald (axM_0_4) (dk_X7_reckoning 40 _ rfl) (fun x13 => ?_)
    refine F_iload_n (i := 1) (a := 1) rfl rfl (dk_X7_reckoning 41 _ rfl) ?_
    refine F_iadd (dk_X7_reckoning 42 _ rfl) ?_
    refine F_bipush (v := 12) (by decide) (dk_X7_reckoning 43 _ rfl) ?_
    refine F_irem (dk_X7_reckoning 45 _ rfl) (fun x14 => ?_)
    refine F_iast (axM_0_4) (dk_X7_reckoning 46 _ rfl) (fun m15 => ?_)
    refine F_iinc (i := 3) (n := 1) (v := (y3 + 1)) (lv' := [(3, .int (y3 + 1)), (0, .ref 0), (1, .int y1), (2, .int y2)]) rfl (by first | rfl | decide) (by decide) rfl (dk_X7_reckoning 47 _ rfl) ?_
    refine F_goto (tgt := 22) (by decide) (dk_X7_reckoning 50 _ rfl) ?_
    exact F_loc (List.forall_mem_cons.mpr ⟨(.tail _ (.head _)), (List.forall_mem_cons.mpr ⟨(.tail _ (.tail _ (.head _))), (List.forall_mem_cons.mpr ⟨(.tail _ (.tail _ (.tail _ (.head _)))), (List.forall_mem_cons.mpr ⟨(.head _), (fun _ z => absurd z List.not_mem_nil)⟩)⟩)⟩)⟩) (hK22 _ _ _ _ )
theorem j_X7_reckoning_22   : ∀ (F : Nat) (m : mM) (y1 : Int32) (y2 : Int32) (y3 : Int32) , JF false uI m_X7_reckoning 11 22 [(0, .ref 0), (1, .int y1), (2, .int y2), (3, .int y3)] [] m (f_X7_reckoning_22  F m y1 y2 y3) := by
  intro F
  induction F with
  | zero => intro m y1 y2 y3 ; exact F_no
  | succ F ih => intro m y1 y2 y3 ; exact jb_X7_reckoning_22  (f_X7_reckoning_22  F)  ih m y1 y2 y3 
def f_X7_reckoning (m : mM) (p1 : Int32) : fR Int32 :=
  bnd (f_X7_in m p1 0 11) fun (x1 : Int32) (m2 : mM) => (if x1 = 0 then some ((-10000002), m2) else bnd (f_X7_allMore m2 ) fun (x4 : Int32) (m5 : mM) => (f_X7_reckoning_22  1000 m5 p1 x4 0))
theorem c_X7_reckoning (m : mM) (p1 : Int32)  : cF false uI m_X7_reckoning 11 [.ref 0, .int p1] m (f_X7_reckoning m p1) := by
  refine cF_of ok_X7_reckoning (fun _ _ => Nat.le_of_ble_eq_true rfl) ?_
  unfold f_X7_reckoning
  show JF _ _ _ _ _ [(0, .ref 0), (1, .int p1)] _ _ _
  refine F_aload_n (i := 0) (a := 0) rfl rfl (dk_X7_reckoning 0 _ rfl) ?_
  refine F_iload_n (i := 1) (a := 1) rfl rfl (dk_X7_reckoning 1 _ rfl) ?_
  refine F_iconst (v := 0) (by decide) (dk_X7_reckoning 2 _ rfl) ?_
  refine F_bipush (v := 11) (by decide) (dk_X7_reckoning 3 _ rfl) ?_
  refine F_callV (ι' := uI) (ci := 7) (b := 0) (As := [.int p1, .int 0, .int 11]) (d' := 2) (rfl) ok_X7_in vi_X7_in cl_7_194 (n := 3) (by decide +kernel) rfl rfl rfl (Nat.le_of_ble_eq_true rfl) (by omega) (dk_X7_reckoning 5 _ rfl) (c_X7_in _ _ _ _ ) (fun x1 m2 => ?_)
  show JF _ _ _ _ _ _ [.int x1] _ _
  refine F_if_ne (tgt := 15) (by decide) (dk_X7_reckoning 8 _ rfl) ?_ ?_
  · refine F_aload_n (i := 0) (a := 0) rfl rfl (dk_X7_reckoning 15 _ rfl) ?_
    refine F_callV (ι' := uI) (ci := 7) (b := 0) (As := []) (d' := 10) (rfl) ok_X7_allMore vi_X7_allMore cl_7_336 (n := 0) (by decide +kernel) rfl rfl rfl (Nat.le_of_ble_eq_true rfl) (by omega) (dk_X7_reckoning 16 _ rfl) (c_X7_allMore _  ) (fun x4 m5 => ?_)
    show JF _ _ _ _ _ _ [.int x4] _ _
    refine F_istore_n (lv' := [(2, .int x4), (0, .ref 0), (1, .int p1)]) (i := 2) (a := 2) rfl (by decide) rfl (dk_X7_reckoning 19 _ rfl) ?_
    refine F_iconst (v := 0) (by decide) (dk_X7_reckoning 20 _ rfl) ?_
    refine F_istore_n (lv' := [(3, .int 0), (2, .int x4), (0, .ref 0), (1, .int p1)]) (i := 3) (a := 3) rfl (by decide) rfl (dk_X7_reckoning 21 _ rfl) ?_
    exact F_loc (List.forall_mem_cons.mpr ⟨(.tail _ (.tail _ (.head _))), (List.forall_mem_cons.mpr ⟨(.tail _ (.tail _ (.tail _ (.head _)))), (List.forall_mem_cons.mpr ⟨(.tail _ (.head _)), (List.forall_mem_cons.mpr ⟨(.head _), (fun _ z => absurd z List.not_mem_nil)⟩)⟩)⟩)⟩) (j_X7_reckoning_22   1000 _ _ _ _ )
  · refine F_ldcw (v := (-10000002)) ct_7_313 (dk_X7_reckoning 11 _ rfl) ?_
    exact F_ret rfl (dk_X7_reckoning 14 _ rfl)
def fb_X7_high_15 (K15 : mM → Int32 → Int32 → Int32 → fR Int32) (m : mM) (y1 : Int32) (y2 : Int32) (y3 : Int32) : fR Int32 :=
  (if 100 ≤ y3 then nmM (wI m 27 (-1)) fun m4 => some (y2, m4) else (if 0 ≤ y2 then nmM (wI m 27 (-1)) fun m5 => some (y2, m5) else nmM (wI m 27 y3) fun m6 => bnd (f_X7_wouldChange m6 y1) fun (x7 : Int32) (m8 : mM) => (if x7 = 0 then (K15 m8 y1 (-5) (y3 + 5)) else (K15 m8 y1 y3 (y3 + 5)))))
def f_X7_high_15  : Nat → mM → Int32 → Int32 → Int32 → fR Int32
  | 0, _, _, _, _ => none
  | F + 1, m, y1, y2, y3 => fb_X7_high_15  (f_X7_high_15  F) m y1 y2 y3
theorem jb_X7_high_15 (K15 : mM → Int32 → Int32 → Int32 → fR Int32) (hK15 : ∀ (m : mM) (y1 : Int32) (y2 : Int32) (y3 : Int32) , JF false uI m_X7_high 13 15 [(0, .ref 0), (1, .int y1), (2, .int y2), (3, .int y3)] [] m (K15 m y1 y2 y3)) (m : mM) (y1 : Int32) (y2 : Int32) (y3 : Int32)  : JF false uI m_X7_high 13 15 [(0, .ref 0), (1, .int y1), (2, .int y2), (3, .int y3)] [] m (fb_X7_high_15 K15 m y1 y2 y3) := by
  unfold fb_X7_high_15
  refine F_iload_n (i := 3) (a := 3) rfl rfl (dk_X7_high 15 _ rfl) ?_
  refine F_bipush (v := 100) (by decide) (dk_X7_high 16 _ rfl) ?_
  refine F_icmp_ge (tgt := 51) (by decide) (dk_X7_high 18 _ rfl) ?_ ?_
  · refine F_aload_n (i := 0) (a := 0) rfl rfl (dk_X7_high 51 _ rfl) ?_
    refine F_iconst (v := (-1)) (by decide) (dk_X7_high 52 _ rfl) ?_
    refine F_pI (n := 27) fxM_7_27_0 rfl fl_7_93 (fun q hq => by cases hq; rfl) trivial (dk_X7_high 53 _ rfl) (fun m4 => ?_)
    refine F_iload_n (i := 2) (a := 2) rfl rfl (dk_X7_high 56 _ rfl) ?_
    exact F_ret rfl (dk_X7_high 57 _ rfl)
  · refine F_iload_n (i := 2) (a := 2) rfl rfl (dk_X7_high 21 _ rfl) ?_
    refine F_if_ge (tgt := 51) (by decide) (dk_X7_high 22 _ rfl) ?_ ?_
    · refine F_aload_n (i := 0) (a := 0) rfl rfl (dk_X7_high 51 _ rfl) ?_
      refine F_iconst (v := (-1)) (by decide) (dk_X7_high 52 _ rfl) ?_
      refine F_pI (n := 27) fxM_7_27_0 rfl fl_7_93 (fun q hq => by cases hq; rfl) trivial (dk_X7_high 53 _ rfl) (fun m5 => ?_)
      refine F_iload_n (i := 2) (a := 2) rfl rfl (dk_X7_high 56 _ rfl) ?_
      exact F_ret rfl (dk_X7_high 57 _ rfl)
    · refine F_aload_n (i := 0) (a := 0) rfl rfl (dk_X7_high 25 _ rfl) ?_
      refine F_iload_n (i := 3) (a := 3) rfl rfl (dk_X7_high 26 _ rfl) ?_
      refine F_pI (n := 27) fxM_7_27_0 rfl fl_7_93 (fun q hq => by cases hq; rfl) trivial (dk_X7_high 27 _ rfl) (fun m6 => ?_)
      refine F_aload_n (i := 0) (a := 0) rfl rfl (dk_X7_high 30 _ rfl) ?_
      refine F_iload_n (i := 1) (a := 1) rfl rfl (dk_X7_high 31 _ rfl) ?_
      refine F_callV (ι' := uI) (ci := 7) (b := 0) (As := [.int y1]) (d' := 12) (rfl) ok_X7_wouldChange vi_X7_wouldChange cl_7_330 (n := 1) (by decide +kernel) rfl rfl rfl (Nat.le_of_ble_eq_true rfl) (by omega) (dk_X7_high 32 _ rfl) (c_X7_wouldChange _ _ ) (fun x7 m8 => ?_)
      show JF _ _ _ _ _ _ [.int x7] _ _
      refine F_if_eq (tgt := 42) (by decide) (dk_X7_high 35 _ rfl) ?_ ?_
      · refine F_bipush (v := (-5)) (by decide) (dk_X7_high 42 _ rfl) ?_
        refine F_istore_n (lv' := [(2, .int (-5)), (0, .ref 0), (1, .int y1), (3, .int y3)]) (i := 2) (a := 2) rfl (by decide) rfl (dk_X7_high 44 _ rfl) ?_
        refine F_iinc (i := 3) (n := 5) (v := (y3 + 5)) (lv' := [(3, .int (y3 + 5)), (2, .int (-5)), (0, .ref 0), (1, .int y1)]) rfl (by first | rfl | decide) (by decide) rfl (dk_X7_high 45 _ rfl) ?_
        refine F_goto (tgt := 15) (by decide) (dk_X7_high 48 _ rfl) ?_
        exact F_loc (List.forall_mem_cons.mpr ⟨(.tail _ (.tail _ (.head _))), (List.forall_mem_cons.mpr ⟨(.tail _ (.tail _ (.tail _ (.head _)))), (List.forall_mem_cons.mpr ⟨(.tail _ (.head _)), (List.forall_mem_cons.mpr ⟨(.head _), (fun _ z => absurd z List.not_mem_nil)⟩)⟩)⟩)⟩) (hK15 _ _ _ _ )
      · refine F_iload_n (i := 3) (a := 3) rfl rfl (dk_X7_high 38 _ rfl) ?_
        refine F_goto (tgt := 44) (by decide) (dk_X7_high 39 _ rfl) ?_
        refine F_istore_n (lv' := [(2, .int y3), (0, .ref 0), (1, .int y1), (3, .int y3)]) (i := 2) (a := 2) rfl (by decide) rfl (dk_X7_high 44 _ rfl) ?_
        refine F_iinc (i := 3) (n := 5) (v := (y3 + 5)) (lv' := [(3, .int (y3 + 5)), (2, .int y3), (0, .ref 0), (1, .int y1)]) rfl (by first | rfl | decide) (by decide) rfl (dk_X7_high 45 _ rfl) ?_
        refine F_goto (tgt := 15) (by decide) (dk_X7_high 48 _ rfl) ?_
        exact F_loc (List.forall_mem_cons.mpr ⟨(.tail _ (.tail _ (.head _))), (List.forall_mem_cons.mpr ⟨(.tail _ (.tail _ (.tail _ (.head _)))), (List.forall_mem_cons.mpr ⟨(.tail _ (.head _)), (List.forall_mem_cons.mpr ⟨(.head _), (fun _ z => absurd z List.not_mem_nil)⟩)⟩)⟩)⟩) (hK15 _ _ _ _ )
theorem j_X7_high_15   : ∀ (F : Nat) (m : mM) (y1 : Int32) (y2 : Int32) (y3 : Int32) , JF false uI m_X7_high 13 15 [(0, .ref 0), (1, .int y1), (2, .int y2), (3, .int y3)] [] m (f_X7_high_15  F m y1 y2 y3) := by
  intro F
  induction F with
  | zero => intro m y1 y2 y3 ; exact F_no
  | succ F ih => intro m y1 y2 y3 ; exact jb_X7_high_15  (f_X7_high_15  F)  ih m y1 y2 y3 
def f_X7_high (m : mM) (p1 : Int32) : fR Int32 :=
  bnd (f_X7_isPerson m p1) fun (x1 : Int32) (m2 : mM) => (if x1 = 0 then some ((-1), m2) else (f_X7_high_15  1000 m2 p1 (-5) 0))
theorem c_X7_high (m : mM) (p1 : Int32)  : cF false uI m_X7_high 13 [.ref 0, .int p1] m (f_X7_high m p1) := by
  refine cF_of ok_X7_high (fun _ _ => Nat.le_of_ble_eq_true rfl) ?_
  unfold f_X7_high
  show JF _ _ _ _ _ [(0, .ref 0), (1, .int p1)] _ _ _
  refine F_aload_n (i := 0) (a := 0) rfl rfl (dk_X7_high 0 _ rfl) ?_
  refine F_iload_n (i := 1) (a := 1) rfl rfl (dk_X7_high 1 _ rfl) ?_
  refine F_callV (ι' := uI) (ci := 7) (b := 0) (As := [.int p1]) (d' := 3) (rfl) ok_X7_isPerson vi_X7_isPerson cl_7_206 (n := 1) (by decide +kernel) rfl rfl rfl (Nat.le_of_ble_eq_true rfl) (by omega) (dk_X7_high 2 _ rfl) (c_X7_isPerson _ _ ) (fun x1 m2 => ?_)
  show JF _ _ _ _ _ _ [.int x1] _ _
  refine F_if_ne (tgt := 10) (by decide) (dk_X7_high 5 _ rfl) ?_ ?_
  · refine F_bipush (v := (-5)) (by decide) (dk_X7_high 10 _ rfl) ?_
    refine F_istore_n (lv' := [(2, .int (-5)), (0, .ref 0), (1, .int p1)]) (i := 2) (a := 2) rfl (by decide) rfl (dk_X7_high 12 _ rfl) ?_
    refine F_iconst (v := 0) (by decide) (dk_X7_high 13 _ rfl) ?_
    refine F_istore_n (lv' := [(3, .int 0), (2, .int (-5)), (0, .ref 0), (1, .int p1)]) (i := 3) (a := 3) rfl (by decide) rfl (dk_X7_high 14 _ rfl) ?_
    exact F_loc (List.forall_mem_cons.mpr ⟨(.tail _ (.tail _ (.head _))), (List.forall_mem_cons.mpr ⟨(.tail _ (.tail _ (.tail _ (.head _)))), (List.forall_mem_cons.mpr ⟨(.tail _ (.head _)), (List.forall_mem_cons.mpr ⟨(.head _), (fun _ z => absurd z List.not_mem_nil)⟩)⟩)⟩)⟩) (j_X7_high_15   1000 _ _ _ _ )
  · refine F_iconst (v := (-1)) (by decide) (dk_X7_high 8 _ rfl) ?_
    exact F_ret rfl (dk_X7_high 9 _ rfl)
def f_X7_othersMore (m : mM) (p1 : Int32) : fR Int32 :=
  bnd (f_X7_allMore m ) fun (x1 : Int32) (m2 : mM) => (gA (mA m2 7) p1).bind fun x4 => (if x4 = 0 then some (x1, m2) else (gA (mA m2 20) p1).bind fun x5 => some ((x1 - x5), m2))
theorem c_X7_othersMore (m : mM) (p1 : Int32)  : cF false uI m_X7_othersMore 11 [.ref 0, .int p1] m (f_X7_othersMore m p1) := by
  refine cF_of ok_X7_othersMore (fun _ _ => Nat.le_of_ble_eq_true rfl) ?_
  unfold f_X7_othersMore
  show JF _ _ _ _ _ [(0, .ref 0), (1, .int p1)] _ _ _
  refine F_aload_n (i := 0) (a := 0) rfl rfl (dk_X7_othersMore 0 _ rfl) ?_
  refine F_callV (ι' := uI) (ci := 7) (b := 0) (As := []) (d' := 10) (rfl) ok_X7_allMore vi_X7_allMore cl_7_336 (n := 0) (by decide +kernel) rfl rfl rfl (Nat.le_of_ble_eq_true rfl) (by omega) (dk_X7_othersMore 1 _ rfl) (c_X7_allMore _  ) (fun x1 m2 => ?_)
  show JF _ _ _ _ _ _ [.int x1] _ _
  refine F_istore_n (lv' := [(2, .int x1), (0, .ref 0), (1, .int p1)]) (i := 2) (a := 2) rfl (by decide) rfl (dk_X7_othersMore 4 _ rfl) ?_
  refine F_aload_n (i := 0) (a := 0) rfl rfl (dk_X7_othersMore 5 _ rfl) ?_
  refine F_gR (b := 7) fxM_7_9_0 fl_7_38 (dk_X7_othersMore 6 _ rfl) ?_
  refine F_iload_n (i := 1) (a := 1) rfl rfl (dk_X7_othersMore 9 _ rfl) ?_
  refine F_zald (axM_3_7) (dk_X7_othersMore 10 _ rfl) (fun x4 => ?_)
  refine F_if_eq (tgt := 25) (by decide) (dk_X7_othersMore 11 _ rfl) ?_ ?_
  · refine F_iload_n (i := 2) (a := 2) rfl rfl (dk_X7_othersMore 25 _ rfl) ?_
    exact F_ret rfl (dk_X7_othersMore 26 _ rfl)
  · refine F_iload_n (i := 2) (a := 2) rfl rfl (dk_X7_othersMore 14 _ rfl) ?_
    refine F_aload_n (i := 0) (a := 0) rfl rfl (dk_X7_othersMore 15 _ rfl) ?_
    refine F_gR (b := 20) fxM_7_33_0 fl_7_111 (dk_X7_othersMore 16 _ rfl) ?_
    refine F_iload_n (i := 1) (a := 1) rfl rfl (dk_X7_othersMore 19 _ rfl) ?_
    refine F_iald (axM_0_20) (dk_X7_othersMore 20 _ rfl) (fun x5 => ?_)
    refine F_isub (dk_X7_othersMore 21 _ rfl) ?_
    refine F_goto (tgt := 26) (by decide) (dk_X7_othersMore 22 _ rfl) ?_
    exact F_ret rfl (dk_X7_othersMore 26 _ rfl)
def f_X7_last (m : mM) (p1 : Int32) : fR Int32 :=
  bnd (f_X7_isPerson m p1) fun (x1 : Int32) (m2 : mM) => (if x1 = 0 then some ((-10000001), m2) else bnd (f_X7_othersMore m2 p1) fun (x4 : Int32) (m5 : mM) => (gA (mA m5 7) p1).bind fun x7 => (sA 3 m5 7 p1 0).bind fun m8 => bnd (f_X7_othersMore m8 p1) fun (x9 : Int32) (m10 : mM) => (sA 3 m10 7 p1 x7).bind fun m12 => some ((x4 - x9), m12))
theorem c_X7_last (m : mM) (p1 : Int32)  : cF false uI m_X7_last 12 [.ref 0, .int p1] m (f_X7_last m p1) := by
  refine cF_of ok_X7_last (fun _ _ => Nat.le_of_ble_eq_true rfl) ?_
  unfold f_X7_last
  show JF _ _ _ _ _ [(0, .ref 0), (1, .int p1)] _ _ _
  refine F_aload_n (i := 0) (a := 0) rfl rfl (dk_X7_last 0 _ rfl) ?_
  refine F_iload_n (i := 1) (a := 1) rfl rfl (dk_X7_last 1 _ rfl) ?_
  refine F_callV (ι' := uI) (ci := 7) (b := 0) (As := [.int p1]) (d' := 3) (rfl) ok_X7_isPerson vi_X7_isPerson cl_7_206 (n := 1) (by decide +kernel) rfl rfl rfl (Nat.le_of_ble_eq_true rfl) (by omega) (dk_X7_last 2 _ rfl) (c_X7_isPerson _ _ ) (fun x1 m2 => ?_)
  show JF _ _ _ _ _ _ [.int x1] _ _
  refine F_if_ne (tgt := 12) (by decide) (dk_X7_last 5 _ rfl) ?_ ?_
  · refine F_aload_n (i := 0) (a := 0) rfl rfl (dk_X7_last 12 _ rfl) ?_
    refine F_iload_n (i := 1) (a := 1) rfl rfl (dk_X7_last 13 _ rfl) ?_
    refine F_callV (ι' := uI) (ci := 7) (b := 0) (As := [.int p1]) (d' := 11) (rfl) ok_X7_othersMore vi_X7_othersMore cl_7_339 (n := 1) (by decide +kernel) rfl rfl rfl (Nat.le_of_ble_eq_true rfl) (by omega) (dk_X7_last 14 _ rfl) (c_X7_othersMore _ _ ) (fun x4 m5 => ?_)
    show JF _ _ _ _ _ _ [.int x4] _ _
    refine F_istore_n (lv' := [(2, .int x4), (0, .ref 0), (1, .int p1)]) (i := 2) (a := 2) rfl (by decide) rfl (dk_X7_last 17 _ rfl) ?_
    refine F_aload_n (i := 0) (a := 0) rfl rfl (dk_X7_last 18 _ rfl) ?_
    refine F_gR (b := 7) fxM_7_9_0 fl_7_38 (dk_X7_last 19 _ rfl) ?_
    refine F_iload_n (i := 1) (a := 1) rfl rfl (dk_X7_last 22 _ rfl) ?_
    refine F_zald (axM_3_7) (dk_X7_last 23 _ rfl) (fun x7 => ?_)
    refine F_istore_n (lv' := [(3, .int x7), (2, .int x4), (0, .ref 0), (1, .int p1)]) (i := 3) (a := 3) rfl (by decide) rfl (dk_X7_last 24 _ rfl) ?_
    refine F_aload_n (i := 0) (a := 0) rfl rfl (dk_X7_last 25 _ rfl) ?_
    refine F_gR (b := 7) fxM_7_9_0 fl_7_38 (dk_X7_last 26 _ rfl) ?_
    refine F_iload_n (i := 1) (a := 1) rfl rfl (dk_X7_last 29 _ rfl) ?_
    refine F_iconst (v := 0) (by decide) (dk_X7_last 30 _ rfl) ?_
    refine F_zast (axM_3_7) (dk_X7_last 31 _ rfl) (fun m8 => ?_)
    refine F_aload_n (i := 0) (a := 0) rfl rfl (dk_X7_last 32 _ rfl) ?_
    refine F_iload_n (i := 1) (a := 1) rfl rfl (dk_X7_last 33 _ rfl) ?_
    refine F_callV (ι' := uI) (ci := 7) (b := 0) (As := [.int p1]) (d' := 11) (rfl) ok_X7_othersMore vi_X7_othersMore cl_7_339 (n := 1) (by decide +kernel) rfl rfl rfl (Nat.le_of_ble_eq_true rfl) (by omega) (dk_X7_last 34 _ rfl) (c_X7_othersMore _ _ ) (fun x9 m10 => ?_)
    show JF _ _ _ _ _ _ [.int x9] _ _
    refine F_istore (lv' := [(4, .int x9), (3, .int x7), (2, .int x4), (0, .ref 0), (1, .int p1)]) (i := 4) (by decide) rfl (dk_X7_last 37 _ rfl) ?_
    refine F_aload_n (i := 0) (a := 0) rfl rfl (dk_X7_last 39 _ rfl) ?_
    refine F_gR (b := 7) fxM_7_9_0 fl_7_38 (dk_X7_last 40 _ rfl) ?_
    refine F_iload_n (i := 1) (a := 1) rfl rfl (dk_X7_last 43 _ rfl) ?_
    refine F_iload_n (i := 3) (a := 3) rfl rfl (dk_X7_last 44 _ rfl) ?_
    refine F_zast (axM_3_7) (dk_X7_last 45 _ rfl) (fun m12 => ?_)
    refine F_iload_n (i := 2) (a := 2) rfl rfl (dk_X7_last 46 _ rfl) ?_
    refine F_iload (i := 4) rfl (dk_X7_last 47 _ rfl) ?_
    refine F_isub (dk_X7_last 49 _ rfl) ?_
    exact F_ret rfl (dk_X7_last 50 _ rfl)
  · refine F_ldcw (v := (-10000001)) ct_7_291 (dk_X7_last 8 _ rfl) ?_
    exact F_ret rfl (dk_X7_last 11 _ rfl)
def fb_X7_divisor_14 (K14 : mM → Int32 → Int32 → fR Int32) (m : mM) (y3 : Int32) (y4 : Int32) : fR Int32 :=
  (if y4 = 0 then some (y3, m) else (rmI y3 y4).bind fun x1 => (K14 m y4 x1))
def f_X7_divisor_14  : Nat → mM → Int32 → Int32 → fR Int32
  | 0, _, _, _ => none
  | F + 1, m, y3, y4 => fb_X7_divisor_14  (f_X7_divisor_14  F) m y3 y4
theorem jb_X7_divisor_14 (K14 : mM → Int32 → Int32 → fR Int32) (hK14 : ∀ (m : mM) (y3 : Int32) (y4 : Int32) , JF false uI m_X7_divisor 2 14 [(3, .int y3), (4, .int y4)] [] m (K14 m y3 y4)) (m : mM) (y3 : Int32) (y4 : Int32)  : JF false uI m_X7_divisor 2 14 [(3, .int y3), (4, .int y4)] [] m (fb_X7_divisor_14 K14 m y3 y4) := by
  unfold fb_X7_divisor_14
  refine F_iload (i := 4) rfl (dk_X7_divisor 14 _ rfl) ?_
  refine F_if_eq (tgt := 35) (by decide) (dk_X7_divisor 16 _ rfl) ?_ ?_
  · refine F_iload_n (i := 3) (a := 3) rfl rfl (dk_X7_divisor 35 _ rfl) ?_
    exact F_ret rfl (dk_X7_divisor 36 _ rfl)
  · refine F_iload_n (i := 3) (a := 3) rfl rfl (dk_X7_divisor 19 _ rfl) ?_
    refine F_iload (i := 4) rfl (dk_X7_divisor 20 _ rfl) ?_
    refine F_irem (dk_X7_divisor 22 _ rfl) (fun x1 => ?_)
    refine F_istore (lv' := [(5, .int x1), (3, .int y3), (4, .int y4)]) (i := 5) (by decide) rfl (dk_X7_divisor 23 _ rfl) ?_
    refine F_iload (i := 4) rfl (dk_X7_divisor 25 _ rfl) ?_
    refine F_istore_n (lv' := [(3, .int y4), (5, .int x1), (4, .int y4)]) (i := 3) (a := 3) rfl (by decide) rfl (dk_X7_divisor 27 _ rfl) ?_
    refine F_iload (i := 5) rfl (dk_X7_divisor 28 _ rfl) ?_
    refine F_istore (lv' := [(4, .int x1), (3, .int y4), (5, .int x1)]) (i := 4) (by decide) rfl (dk_X7_divisor 30 _ rfl) ?_
    refine F_goto (tgt := 14) (by decide) (dk_X7_divisor 32 _ rfl) ?_
    exact F_loc (List.forall_mem_cons.mpr ⟨(.tail _ (.head _)), (List.forall_mem_cons.mpr ⟨(.head _), (fun _ z => absurd z List.not_mem_nil)⟩)⟩) (hK14 _ _ _ )
theorem j_X7_divisor_14   : ∀ (F : Nat) (m : mM) (y3 : Int32) (y4 : Int32) , JF false uI m_X7_divisor 2 14 [(3, .int y3), (4, .int y4)] [] m (f_X7_divisor_14  F m y3 y4) := by
  intro F
  induction F with
  | zero => intro m y3 y4 ; exact F_no
  | succ F ih => intro m y3 y4 ; exact jb_X7_divisor_14  (f_X7_divisor_14  F)  ih m y3 y4 
def f_X7_divisor (m : mM) (p1 : Int32) (p2 : Int32) : fR Int32 :=
  (if 0 ≤ p1 then (f_X7_divisor_14  1000 m p1 p2) else nmI (-p1) fun v2 => (f_X7_divisor_14  1000 m v2 p2))
theorem c_X7_divisor (m : mM) (p1 : Int32) (p2 : Int32)  : cF false uI m_X7_divisor 2 [.ref 0, .int p1, .int p2] m (f_X7_divisor m p1 p2) := by
  refine cF_of ok_X7_divisor (fun _ _ => Nat.le_of_ble_eq_true rfl) ?_
  unfold f_X7_divisor
  show JF _ _ _ _ _ [(0, .ref 0), (1, .int p1), (2, .int p2)] _ _ _
  refine F_iload_n (i := 1) (a := 1) rfl rfl (dk_X7_divisor 0 _ rfl) ?_
  refine F_if_ge (tgt := 9) (by decide) (dk_X7_divisor 1 _ rfl) ?_ ?_
  · refine F_iload_n (i := 1) (a := 1) rfl rfl (dk_X7_divisor 9 _ rfl) ?_
    refine F_istore_n (lv' := [(3, .int p1), (0, .ref 0), (1, .int p1), (2, .int p2)]) (i := 3) (a := 3) rfl (by decide) rfl (dk_X7_divisor 10 _ rfl) ?_
    refine F_iload_n (i := 2) (a := 2) rfl rfl (dk_X7_divisor 11 _ rfl) ?_
    refine F_istore (lv' := [(4, .int p2), (3, .int p1), (0, .ref 0), (1, .int p1), (2, .int p2)]) (i := 4) (by decide) rfl (dk_X7_divisor 12 _ rfl) ?_
    exact F_loc (List.forall_mem_cons.mpr ⟨(.tail _ (.head _)), (List.forall_mem_cons.mpr ⟨(.head _), (fun _ z => absurd z List.not_mem_nil)⟩)⟩) (j_X7_divisor_14   1000 _ _ _ )
  · refine F_iload_n (i := 1) (a := 1) rfl rfl (dk_X7_divisor 4 _ rfl) ?_
    refine F_ineg (dk_X7_divisor 5 _ rfl) ?_
    refine F_goto (tgt := 10) (by decide) (dk_X7_divisor 6 _ rfl) ?_
    refine F_nm (fun v2 => ?_)
    refine F_istore_n (lv' := [(3, .int v2), (0, .ref 0), (1, .int p1), (2, .int p2)]) (i := 3) (a := 3) rfl (by decide) rfl (dk_X7_divisor 10 _ rfl) ?_
    refine F_iload_n (i := 2) (a := 2) rfl rfl (dk_X7_divisor 11 _ rfl) ?_
    refine F_istore (lv' := [(4, .int p2), (3, .int v2), (0, .ref 0), (1, .int p1), (2, .int p2)]) (i := 4) (by decide) rfl (dk_X7_divisor 12 _ rfl) ?_
    exact F_loc (List.forall_mem_cons.mpr ⟨(.tail _ (.head _)), (List.forall_mem_cons.mpr ⟨(.head _), (fun _ z => absurd z List.not_mem_nil)⟩)⟩) (j_X7_divisor_14   1000 _ _ _ )
def f_X7_lowest (m : mM) (p1 : Int32) (p2 : Int32) (p3 : Int32) : fR Int64 :=
  bnd (f_X7_divisor m p1 p2) fun (x1 : Int32) (m2 : mM) => (if p3 = 0 then (dvI p1 x1).bind fun x5 => some ((x5 : Int32).toInt64, m2) else (dvI p2 x1).bind fun x4 => some ((x4 : Int32).toInt64, m2))
theorem c_X7_lowest (m : mM) (p1 : Int32) (p2 : Int32) (p3 : Int32)  : cF false uL m_X7_lowest 3 [.ref 0, .int p1, .int p2, .int p3] m (f_X7_lowest m p1 p2 p3) := by
  refine cF_of ok_X7_lowest (fun _ _ => Nat.le_of_ble_eq_true rfl) ?_
  unfold f_X7_lowest
  show JF _ _ _ _ _ [(0, .ref 0), (1, .int p1), (2, .int p2), (3, .int p3)] _ _ _
  refine F_aload_n (i := 0) (a := 0) rfl rfl (dk_X7_lowest 0 _ rfl) ?_
  refine F_iload_n (i := 1) (a := 1) rfl rfl (dk_X7_lowest 1 _ rfl) ?_
  refine F_iload_n (i := 2) (a := 2) rfl rfl (dk_X7_lowest 2 _ rfl) ?_
  refine F_callV (ι' := uI) (ci := 7) (b := 0) (As := [.int p1, .int p2]) (d' := 2) (rfl) ok_X7_divisor vi_X7_divisor cl_7_342 (n := 2) (by decide +kernel) rfl rfl rfl (Nat.le_of_ble_eq_true rfl) (by omega) (dk_X7_lowest 3 _ rfl) (c_X7_divisor _ _ _ ) (fun x1 m2 => ?_)
  show JF _ _ _ _ _ _ [.int x1] _ _
  refine F_istore (lv' := [(4, .int x1), (0, .ref 0), (1, .int p1), (2, .int p2), (3, .int p3)]) (i := 4) (by decide) rfl (dk_X7_lowest 6 _ rfl) ?_
  refine F_iload_n (i := 3) (a := 3) rfl rfl (dk_X7_lowest 8 _ rfl) ?_
  refine F_if_ne (tgt := 20) (by decide) (dk_X7_lowest 9 _ rfl) ?_ ?_
  · refine F_iload_n (i := 2) (a := 2) rfl rfl (dk_X7_lowest 20 _ rfl) ?_
    refine F_iload (i := 4) rfl (dk_X7_lowest 21 _ rfl) ?_
    refine F_idiv (dk_X7_lowest 23 _ rfl) (fun x4 => ?_)
    refine F_i2l (dk_X7_lowest 24 _ rfl) ?_
    exact F_retL rfl (dk_X7_lowest 25 _ rfl)
  · refine F_iload_n (i := 1) (a := 1) rfl rfl (dk_X7_lowest 12 _ rfl) ?_
    refine F_iload (i := 4) rfl (dk_X7_lowest 13 _ rfl) ?_
    refine F_idiv (dk_X7_lowest 15 _ rfl) (fun x5 => ?_)
    refine F_i2l (dk_X7_lowest 16 _ rfl) ?_
    refine F_goto (tgt := 25) (by decide) (dk_X7_lowest 17 _ rfl) ?_
    exact F_retL rfl (dk_X7_lowest 25 _ rfl)
def f_X7_yearIf (m : mM) (p1 : Int32) (p2 : Int32) : fR Int32 :=
  (gA (mA m 3) p1).bind fun x1 => (sA 0 m 3 p1 p2).bind fun m2 => bnd (f_X7_yearOf m2 p1) fun (x3 : Int32) (m4 : mM) => (sA 0 m4 3 p1 x1).bind fun m6 => some (x3, m6)
theorem c_X7_yearIf (m : mM) (p1 : Int32) (p2 : Int32)  : cF false uI m_X7_yearIf 11 [.ref 0, .int p1, .int p2] m (f_X7_yearIf m p1 p2) := by
  refine cF_of ok_X7_yearIf (fun _ _ => Nat.le_of_ble_eq_true rfl) ?_
  unfold f_X7_yearIf
  show JF _ _ _ _ _ [(0, .ref 0), (1, .int p1), (2, .int p2)] _ _ _
  refine F_aload_n (i := 0) (a := 0) rfl rfl (dk_X7_yearIf 0 _ rfl) ?_
  refine F_gR (b := 3) fxM_7_5_0 fl_7_26 (dk_X7_yearIf 1 _ rfl) ?_
  refine F_iload_n (i := 1) (a := 1) rfl rfl (dk_X7_yearIf 4 _ rfl) ?_
  refine F_iald (axM_0_3) (dk_X7_yearIf 5 _ rfl) (fun x1 => ?_)
  refine F_istore_n (lv' := [(3, .int x1), (0, .ref 0), (1, .int p1), (2, .int p2)]) (i := 3) (a := 3) rfl (by decide) rfl (dk_X7_yearIf 6 _ rfl) ?_
  refine F_aload_n (i := 0) (a := 0) rfl rfl (dk_X7_yearIf 7 _ rfl) ?_
  refine F_gR (b := 3) fxM_7_5_0 fl_7_26 (dk_X7_yearIf 8 _ rfl) ?_
  refine F_iload_n (i := 1) (a := 1) rfl rfl (dk_X7_yearIf 11 _ rfl) ?_
  refine F_iload_n (i := 2) (a := 2) rfl rfl (dk_X7_yearIf 12 _ rfl) ?_
  refine F_iast (axM_0_3) (dk_X7_yearIf 13 _ rfl) (fun m2 => ?_)
  refine F_aload_n (i := 0) (a := 0) rfl rfl (dk_X7_yearIf 14 _ rfl) ?_
  refine F_iload_n (i := 1) (a := 1) rfl rfl (dk_X7_yearIf 15 _ rfl) ?_
  refine F_callV (ι' := uI) (ci := 7) (b := 0) (As := [.int p1]) (d' := 10) (rfl) ok_X7_yearOf vi_X7_yearOf cl_7_323 (n := 1) (by decide +kernel) rfl rfl rfl (Nat.le_of_ble_eq_true rfl) (by omega) (dk_X7_yearIf 16 _ rfl) (c_X7_yearOf _ _ ) (fun x3 m4 => ?_)
  show JF _ _ _ _ _ _ [.int x3] _ _
  refine F_istore (lv' := [(4, .int x3), (3, .int x1), (0, .ref 0), (1, .int p1), (2, .int p2)]) (i := 4) (by decide) rfl (dk_X7_yearIf 19 _ rfl) ?_
  refine F_aload_n (i := 0) (a := 0) rfl rfl (dk_X7_yearIf 21 _ rfl) ?_
  refine F_gR (b := 3) fxM_7_5_0 fl_7_26 (dk_X7_yearIf 22 _ rfl) ?_
  refine F_iload_n (i := 1) (a := 1) rfl rfl (dk_X7_yearIf 25 _ rfl) ?_
  refine F_iload_n (i := 3) (a := 3) rfl rfl (dk_X7_yearIf 26 _ rfl) ?_
  refine F_iast (axM_0_3) (dk_X7_yearIf 27 _ rfl) (fun m6 => ?_)
  refine F_iload (i := 4) rfl (dk_X7_yearIf 28 _ rfl) ?_
  exact F_ret rfl (dk_X7_yearIf 30 _ rfl)
def fb_X7_odds_44 (K44 : mM → Int32 → Int32 → Int32 → Int32 → Int32 → fR Int64) (m : mM) (y1 : Int32) (y3 : Int32) (y4 : Int32) (y5 : Int32) (y6 : Int32) : fR Int64 :=
  (if 12 ≤ y6 then bnd (f_X7_lowest m y5 12 y3) fun (x13 : Int64) (m14 : mM) => some (x13, m14) else bnd (f_X7_yearIf m y1 y6) fun (x16 : Int32) (m17 : mM) => (if x16 < y4 then nmI (y5 + 0) fun v19 => (K44 m17 y1 y3 y4 v19 (y6 + 1)) else nmI (y5 + 1) fun v20 => (K44 m17 y1 y3 y4 v20 (y6 + 1))))
def f_X7_odds_44  : Nat → mM → Int32 → Int32 → Int32 → Int32 → Int32 → fR Int64
  | 0, _, _, _, _, _, _ => none
  | F + 1, m, y1, y3, y4, y5, y6 => fb_X7_odds_44  (f_X7_odds_44  F) m y1 y3 y4 y5 y6
theorem jb_X7_odds_44 (K44 : mM → Int32 → Int32 → Int32 → Int32 → Int32 → fR Int64) (hK44 : ∀ (m : mM) (y1 : Int32) (y3 : Int32) (y4 : Int32) (y5 : Int32) (y6 : Int32) , JF false uL m_X7_odds 12 44 [(0, .ref 0), (1, .int y1), (3, .int y3), (4, .int y4), (5, .int y5), (6, .int y6)] [] m (K44 m y1 y3 y4 y5 y6)) (m : mM) (y1 : Int32) (y3 : Int32) (y4 : Int32) (y5 : Int32) (y6 : Int32)  : JF false uL m_X7_odds 12 44 [(0, .ref 0), (1, .int y1), (3, .int y3), (4, .int y4), (5, .int y5), (6, .int y6)] [] m (fb_X7_odds_44 K44 m y1 y3 y4 y5 y6) := by
  unfold fb_X7_odds_44
  refine F_iload (i := 6) rfl (dk_X7_odds 44 _ rfl) ?_
  refine F_bipush (v := 12) (by decide) (dk_X7_odds 46 _ rfl) ?_
  refine F_icmp_ge (tgt := 79) (by decide) (dk_X7_odds 48 _ rfl) ?_ ?_
  · refine F_aload_n (i := 0) (a := 0) rfl rfl (dk_X7_odds 79 _ rfl) ?_
    refine F_iload (i := 5) rfl (dk_X7_odds 80 _ rfl) ?_
    refine F_bipush (v := 12) (by decide) (dk_X7_odds 82 _ rfl) ?_
    refine F_iload_n (i := 3) (a := 3) rfl rfl (dk_X7_odds 84 _ rfl) ?_
    refine F_callV (ι' := uL) (ci := 7) (b := 0) (As := [.int y5, .int 12, .int y3]) (d' := 3) (rfl) ok_X7_lowest vi_X7_lowest cl_7_350 (n := 3) (by decide +kernel) rfl rfl rfl (Nat.le_of_ble_eq_true rfl) (by omega) (dk_X7_odds 85 _ rfl) (c_X7_lowest _ _ _ _ ) (fun x13 m14 => ?_)
    show JF _ _ _ _ _ _ [.long x13] _ _
    exact F_retL rfl (dk_X7_odds 88 _ rfl)
  · refine F_iload (i := 5) rfl (dk_X7_odds 51 _ rfl) ?_
    refine F_aload_n (i := 0) (a := 0) rfl rfl (dk_X7_odds 53 _ rfl) ?_
    refine F_iload_n (i := 1) (a := 1) rfl rfl (dk_X7_odds 54 _ rfl) ?_
    refine F_iload (i := 6) rfl (dk_X7_odds 55 _ rfl) ?_
    refine F_callV (ι' := uI) (ci := 7) (b := 0) (As := [.int y1, .int y6]) (d' := 11) (rfl) ok_X7_yearIf vi_X7_yearIf cl_7_347 (n := 2) (by decide +kernel) rfl rfl rfl (Nat.le_of_ble_eq_true rfl) (by omega) (dk_X7_odds 57 _ rfl) (c_X7_yearIf _ _ _ ) (fun x16 m17 => ?_)
    show JF _ _ _ _ _ _ [.int x16, .int y5] _ _
    refine F_iload (i := 4) rfl (dk_X7_odds 60 _ rfl) ?_
    refine F_icmp_lt (tgt := 69) (by decide) (dk_X7_odds 62 _ rfl) ?_ ?_
    · refine F_iconst (v := 0) (by decide) (dk_X7_odds 69 _ rfl) ?_
      refine F_iadd (dk_X7_odds 70 _ rfl) ?_
      refine F_nm (fun v19 => ?_)
      refine F_istore (lv' := [(5, .int v19), (0, .ref 0), (1, .int y1), (3, .int y3), (4, .int y4), (6, .int y6)]) (i := 5) (by decide) rfl (dk_X7_odds 71 _ rfl) ?_
      refine F_iinc (i := 6) (n := 1) (v := (y6 + 1)) (lv' := [(6, .int (y6 + 1)), (5, .int v19), (0, .ref 0), (1, .int y1), (3, .int y3), (4, .int y4)]) rfl (by first | rfl | decide) (by decide) rfl (dk_X7_odds 73 _ rfl) ?_
      refine F_goto (tgt := 44) (by decide) (dk_X7_odds 76 _ rfl) ?_
      exact F_loc (List.forall_mem_cons.mpr ⟨(.tail _ (.tail _ (.head _))), (List.forall_mem_cons.mpr ⟨(.tail _ (.tail _ (.tail _ (.head _)))), (List.forall_mem_cons.mpr ⟨(.tail _ (.tail _ (.tail _ (.tail _ (.head _))))), (List.forall_mem_cons.mpr ⟨(.tail _ (.tail _ (.tail _ (.tail _ (.tail _ (.head _)))))), (List.forall_mem_cons.mpr ⟨(.tail _ (.head _)), (List.forall_mem_cons.mpr ⟨(.head _), (fun _ z => absurd z List.not_mem_nil)⟩)⟩)⟩)⟩)⟩)⟩) (hK44 _ _ _ _ _ _ )
    · refine F_iconst (v := 1) (by decide) (dk_X7_odds 65 _ rfl) ?_
      refine F_goto (tgt := 70) (by decide) (dk_X7_odds 66 _ rfl) ?_
      refine F_iadd (dk_X7_odds 70 _ rfl) ?_
      refine F_nm (fun v20 => ?_)
      refine F_istore (lv' := [(5, .int v20), (0, .ref 0), (1, .int y1), (3, .int y3), (4, .int y4), (6, .int y6)]) (i := 5) (by decide) rfl (dk_X7_odds 71 _ rfl) ?_
      refine F_iinc (i := 6) (n := 1) (v := (y6 + 1)) (lv' := [(6, .int (y6 + 1)), (5, .int v20), (0, .ref 0), (1, .int y1), (3, .int y3), (4, .int y4)]) rfl (by first | rfl | decide) (by decide) rfl (dk_X7_odds 73 _ rfl) ?_
      refine F_goto (tgt := 44) (by decide) (dk_X7_odds 76 _ rfl) ?_
      exact F_loc (List.forall_mem_cons.mpr ⟨(.tail _ (.tail _ (.head _))), (List.forall_mem_cons.mpr ⟨(.tail _ (.tail _ (.tail _ (.head _)))), (List.forall_mem_cons.mpr ⟨(.tail _ (.tail _ (.tail _ (.tail _ (.head _))))), (List.forall_mem_cons.mpr ⟨(.tail _ (.tail _ (.tail _ (.tail _ (.tail _ (.head _)))))), (List.forall_mem_cons.mpr ⟨(.tail _ (.head _)), (List.forall_mem_cons.mpr ⟨(.head _), (fun _ z => absurd z List.not_mem_nil)⟩)⟩)⟩)⟩)⟩)⟩) (hK44 _ _ _ _ _ _ )
theorem j_X7_odds_44   : ∀ (F : Nat) (m : mM) (y1 : Int32) (y3 : Int32) (y4 : Int32) (y5 : Int32) (y6 : Int32) , JF false uL m_X7_odds 12 44 [(0, .ref 0), (1, .int y1), (3, .int y3), (4, .int y4), (5, .int y5), (6, .int y6)] [] m (f_X7_odds_44  F m y1 y3 y4 y5 y6) := by
  intro F
  induction F with
  | zero => intro m y1 y3 y4 y5 y6 ; exact F_no
  | succ F ih => intro m y1 y3 y4 y5 y6 ; exact jb_X7_odds_44  (f_X7_odds_44  F)  ih m y1 y3 y4 y5 y6 
def f_X7_odds (m : mM) (p1 : Int32) (p2 : Int32) (p3 : Int32) : fR Int64 :=
  bnd (f_X7_isPerson m p1) fun (x1 : Int32) (m2 : mM) => (if x1 = 0 then some ((-9223372036854775808), m2) else bnd (f_X7_isDay m2 p2) fun (x4 : Int32) (m5 : mM) => (if x4 = 0 then some ((-9223372036854775808), m5) else bnd (f_X7_in m5 p3 0 1) fun (x7 : Int32) (m8 : mM) => (if x7 = 0 then some ((-9223372036854775808), m8) else bnd (f_X7_yearIf m8 p1 p2) fun (x10 : Int32) (m11 : mM) => (f_X7_odds_44  1000 m11 p1 p3 x10 0 0))))
theorem c_X7_odds (m : mM) (p1 : Int32) (p2 : Int32) (p3 : Int32)  : cF false uL m_X7_odds 12 [.ref 0, .int p1, .int p2, .int p3] m (f_X7_odds m p1 p2 p3) := by
  refine cF_of ok_X7_odds (fun _ _ => Nat.le_of_ble_eq_true rfl) ?_
  unfold f_X7_odds
  show JF _ _ _ _ _ [(0, .ref 0), (1, .int p1), (2, .int p2), (3, .int p3)] _ _ _
  refine F_aload_n (i := 0) (a := 0) rfl rfl (dk_X7_odds 0 _ rfl) ?_
  refine F_iload_n (i := 1) (a := 1) rfl rfl (dk_X7_odds 1 _ rfl) ?_
  refine F_callV (ι' := uI) (ci := 7) (b := 0) (As := [.int p1]) (d' := 3) (rfl) ok_X7_isPerson vi_X7_isPerson cl_7_206 (n := 1) (by decide +kernel) rfl rfl rfl (Nat.le_of_ble_eq_true rfl) (by omega) (dk_X7_odds 2 _ rfl) (c_X7_isPerson _ _ ) (fun x1 m2 => ?_)
  show JF _ _ _ _ _ _ [.int x1] _ _
  refine F_if_eq (tgt := 26) (by decide) (dk_X7_odds 5 _ rfl) ?_ ?_
  · refine F_ldc2 (v := (-9223372036854775808)) ctl_7_345 (dk_X7_odds 26 _ rfl) ?_
    exact F_retL rfl (dk_X7_odds 29 _ rfl)
  · refine F_aload_n (i := 0) (a := 0) rfl rfl (dk_X7_odds 8 _ rfl) ?_
    refine F_iload_n (i := 2) (a := 2) rfl rfl (dk_X7_odds 9 _ rfl) ?_
    refine F_callV (ι' := uI) (ci := 7) (b := 0) (As := [.int p2]) (d' := 3) (rfl) ok_X7_isDay vi_X7_isDay cl_7_198 (n := 1) (by decide +kernel) rfl rfl rfl (Nat.le_of_ble_eq_true rfl) (by omega) (dk_X7_odds 10 _ rfl) (c_X7_isDay _ _ ) (fun x4 m5 => ?_)
    show JF _ _ _ _ _ _ [.int x4] _ _
    refine F_if_eq (tgt := 26) (by decide) (dk_X7_odds 13 _ rfl) ?_ ?_
    · refine F_ldc2 (v := (-9223372036854775808)) ctl_7_345 (dk_X7_odds 26 _ rfl) ?_
      exact F_retL rfl (dk_X7_odds 29 _ rfl)
    · refine F_aload_n (i := 0) (a := 0) rfl rfl (dk_X7_odds 16 _ rfl) ?_
      refine F_iload_n (i := 3) (a := 3) rfl rfl (dk_X7_odds 17 _ rfl) ?_
      refine F_iconst (v := 0) (by decide) (dk_X7_odds 18 _ rfl) ?_
      refine F_iconst (v := 1) (by decide) (dk_X7_odds 19 _ rfl) ?_
      refine F_callV (ι' := uI) (ci := 7) (b := 0) (As := [.int p3, .int 0, .int 1]) (d' := 2) (rfl) ok_X7_in vi_X7_in cl_7_194 (n := 3) (by decide +kernel) rfl rfl rfl (Nat.le_of_ble_eq_true rfl) (by omega) (dk_X7_odds 20 _ rfl) (c_X7_in _ _ _ _ ) (fun x7 m8 => ?_)
      show JF _ _ _ _ _ _ [.int x7] _ _
      refine F_if_ne (tgt := 30) (by decide) (dk_X7_odds 23 _ rfl) ?_ ?_
      · refine F_aload_n (i := 0) (a := 0) rfl rfl (dk_X7_odds 30 _ rfl) ?_
        refine F_iload_n (i := 1) (a := 1) rfl rfl (dk_X7_odds 31 _ rfl) ?_
        refine F_iload_n (i := 2) (a := 2) rfl rfl (dk_X7_odds 32 _ rfl) ?_
        refine F_callV (ι' := uI) (ci := 7) (b := 0) (As := [.int p1, .int p2]) (d' := 11) (rfl) ok_X7_yearIf vi_X7_yearIf cl_7_347 (n := 2) (by decide +kernel) rfl rfl rfl (Nat.le_of_ble_eq_true rfl) (by omega) (dk_X7_odds 33 _ rfl) (c_X7_yearIf _ _ _ ) (fun x10 m11 => ?_)
        show JF _ _ _ _ _ _ [.int x10] _ _
        refine F_istore (lv' := [(4, .int x10), (0, .ref 0), (1, .int p1), (2, .int p2), (3, .int p3)]) (i := 4) (by decide) rfl (dk_X7_odds 36 _ rfl) ?_
        refine F_iconst (v := 0) (by decide) (dk_X7_odds 38 _ rfl) ?_
        refine F_istore (lv' := [(5, .int 0), (4, .int x10), (0, .ref 0), (1, .int p1), (2, .int p2), (3, .int p3)]) (i := 5) (by decide) rfl (dk_X7_odds 39 _ rfl) ?_
        refine F_iconst (v := 0) (by decide) (dk_X7_odds 41 _ rfl) ?_
        refine F_istore (lv' := [(6, .int 0), (5, .int 0), (4, .int x10), (0, .ref 0), (1, .int p1), (2, .int p2), (3, .int p3)]) (i := 6) (by decide) rfl (dk_X7_odds 42 _ rfl) ?_
        exact F_loc (List.forall_mem_cons.mpr ⟨(.tail _ (.tail _ (.tail _ (.head _)))), (List.forall_mem_cons.mpr ⟨(.tail _ (.tail _ (.tail _ (.tail _ (.head _))))), (List.forall_mem_cons.mpr ⟨(.tail _ (.tail _ (.tail _ (.tail _ (.tail _ (.tail _ (.head _))))))), (List.forall_mem_cons.mpr ⟨(.tail _ (.tail _ (.head _))), (List.forall_mem_cons.mpr ⟨(.tail _ (.head _)), (List.forall_mem_cons.mpr ⟨(.head _), (fun _ z => absurd z List.not_mem_nil)⟩)⟩)⟩)⟩)⟩)⟩) (j_X7_odds_44   1000 _ _ _ _ _ _ )
      · refine F_ldc2 (v := (-9223372036854775808)) ctl_7_345 (dk_X7_odds 26 _ rfl) ?_
        exact F_retL rfl (dk_X7_odds 29 _ rfl)
def fb_X7_mean_18 (K18 : mM → Int32 → Int32 → Int32 → fR Int64) (m : mM) (y1 : Int32) (y2 : Int32) (y3 : Int32) : fR Int64 :=
  (if (mI m 0) ≤ y3 then (if y2 = 0 then some ((-9223372036854775808), m) else bnd (f_X7_allMore m ) fun (x4 : Int32) (m5 : mM) => bnd (f_X7_lowest m5 x4 y2 y1) fun (x7 : Int64) (m8 : mM) => some (x7, m8)) else (gA (mA m 7) y3).bind fun x10 => (if x10 = 0 then nmI (y2 + 0) fun v11 => (K18 m y1 v11 (y3 + 1)) else nmI (y2 + 1) fun v12 => (K18 m y1 v12 (y3 + 1))))
def f_X7_mean_18  : Nat → mM → Int32 → Int32 → Int32 → fR Int64
  | 0, _, _, _, _ => none
  | F + 1, m, y1, y2, y3 => fb_X7_mean_18  (f_X7_mean_18  F) m y1 y2 y3
theorem jb_X7_mean_18 (K18 : mM → Int32 → Int32 → Int32 → fR Int64) (hK18 : ∀ (m : mM) (y1 : Int32) (y2 : Int32) (y3 : Int32) , JF false uL m_X7_mean 11 18 [(0, .ref 0), (1, .int y1), (2, .int y2), (3, .int y3)] [] m (K18 m y1 y2 y3)) (m : mM) (y1 : Int32) (y2 : Int32) (y3 : Int32)  : JF false uL m_X7_mean 11 18 [(0, .ref 0), (1, .int y1), (2, .int y2), (3, .int y3)] [] m (fb_X7_mean_18 K18 m y1 y2 y3) := by
  unfold fb_X7_mean_18
  refine F_iload_n (i := 3) (a := 3) rfl rfl (dk_X7_mean 18 _ rfl) ?_
  refine F_aload_n (i := 0) (a := 0) rfl rfl (dk_X7_mean 19 _ rfl) ?_
  refine F_gI (n := 0) fxM_7_0_0 rfl fl_7_7 (dk_X7_mean 20 _ rfl) ?_
  refine F_icmp_ge (tgt := 49) (by decide) (dk_X7_mean 23 _ rfl) ?_ ?_
  · refine F_iload_n (i := 2) (a := 2) rfl rfl (dk_X7_mean 49 _ rfl) ?_
    refine F_if_ne (tgt := 59) (by decide) (dk_X7_mean 50 _ rfl) ?_ ?_
    · refine F_aload_n (i := 0) (a := 0) rfl rfl (dk_X7_mean 59 _ rfl) ?_
      refine F_aload_n (i := 0) (a := 0) rfl rfl (dk_X7_mean 60 _ rfl) ?_
      refine F_callV (ι' := uI) (ci := 7) (b := 0) (As := []) (d' := 10) (rfl) ok_X7_allMore vi_X7_allMore cl_7_336 (n := 0) (by decide +kernel) rfl rfl rfl (Nat.le_of_ble_eq_true rfl) (by omega) (dk_X7_mean 61 _ rfl) (c_X7_allMore _  ) (fun x4 m5 => ?_)
      show JF _ _ _ _ _ _ [.int x4, .ref 0] _ _
      refine F_iload_n (i := 2) (a := 2) rfl rfl (dk_X7_mean 64 _ rfl) ?_
      refine F_iload_n (i := 1) (a := 1) rfl rfl (dk_X7_mean 65 _ rfl) ?_
      refine F_callV (ι' := uL) (ci := 7) (b := 0) (As := [.int x4, .int y2, .int y1]) (d' := 3) (rfl) ok_X7_lowest vi_X7_lowest cl_7_350 (n := 3) (by decide +kernel) rfl rfl rfl (Nat.le_of_ble_eq_true rfl) (by omega) (dk_X7_mean 66 _ rfl) (c_X7_lowest _ _ _ _ ) (fun x7 m8 => ?_)
      show JF _ _ _ _ _ _ [.long x7] _ _
      exact F_retL rfl (dk_X7_mean 69 _ rfl)
    · refine F_ldc2 (v := (-9223372036854775808)) ctl_7_345 (dk_X7_mean 53 _ rfl) ?_
      refine F_goto (tgt := 69) (by decide) (dk_X7_mean 56 _ rfl) ?_
      exact F_retL rfl (dk_X7_mean 69 _ rfl)
  · refine F_iload_n (i := 2) (a := 2) rfl rfl (dk_X7_mean 26 _ rfl) ?_
    refine F_aload_n (i := 0) (a := 0) rfl rfl (dk_X7_mean 27 _ rfl) ?_
    refine F_gR (b := 7) fxM_7_9_0 fl_7_38 (dk_X7_mean 28 _ rfl) ?_
    refine F_iload_n (i := 3) (a := 3) rfl rfl (dk_X7_mean 31 _ rfl) ?_
    refine F_zald (axM_3_7) (dk_X7_mean 32 _ rfl) (fun x10 => ?_)
    refine F_if_eq (tgt := 40) (by decide) (dk_X7_mean 33 _ rfl) ?_ ?_
    · refine F_iconst (v := 0) (by decide) (dk_X7_mean 40 _ rfl) ?_
      refine F_iadd (dk_X7_mean 41 _ rfl) ?_
      refine F_nm (fun v11 => ?_)
      refine F_istore_n (lv' := [(2, .int v11), (0, .ref 0), (1, .int y1), (3, .int y3)]) (i := 2) (a := 2) rfl (by decide) rfl (dk_X7_mean 42 _ rfl) ?_
      refine F_iinc (i := 3) (n := 1) (v := (y3 + 1)) (lv' := [(3, .int (y3 + 1)), (2, .int v11), (0, .ref 0), (1, .int y1)]) rfl (by first | rfl | decide) (by decide) rfl (dk_X7_mean 43 _ rfl) ?_
      refine F_goto (tgt := 18) (by decide) (dk_X7_mean 46 _ rfl) ?_
      exact F_loc (List.forall_mem_cons.mpr ⟨(.tail _ (.tail _ (.head _))), (List.forall_mem_cons.mpr ⟨(.tail _ (.tail _ (.tail _ (.head _)))), (List.forall_mem_cons.mpr ⟨(.tail _ (.head _)), (List.forall_mem_cons.mpr ⟨(.head _), (fun _ z => absurd z List.not_mem_nil)⟩)⟩)⟩)⟩) (hK18 _ _ _ _ )
    · refine F_iconst (v := 1) (by decide) (dk_X7_mean 36 _ rfl) ?_
      refine F_goto (tgt := 41) (by decide) (dk_X7_mean 37 _ rfl) ?_
      refine F_iadd (dk_X7_mean 41 _ rfl) ?_
      refine F_nm (fun v12 => ?_)
      refine F_istore_n (lv' := [(2, .int v12), (0, .ref 0), (1, .int y1), (3, .int y3)]) (i := 2) (a := 2) rfl (by decide) rfl (dk_X7_mean 42 _ rfl) ?_
      refine F_iinc (i := 3) (n := 1) (v := (y3 + 1)) (lv' := [(3, .int (y3 + 1)), (2, .int v12), (0, .ref 0), (1, .int y1)]) rfl (by first | rfl | decide) (by decide) rfl (dk_X7_mean 43 _ rfl) ?_
      refine F_goto (tgt := 18) (by decide) (dk_X7_mean 46 _ rfl) ?_
      exact F_loc (List.forall_mem_cons.mpr ⟨(.tail _ (.tail _ (.head _))), (List.forall_mem_cons.mpr ⟨(.tail _ (.tail _ (.tail _ (.head _)))), (List.forall_mem_cons.mpr ⟨(.tail _ (.head _)), (List.forall_mem_cons.mpr ⟨(.head _), (fun _ z => absurd z List.not_mem_nil)⟩)⟩)⟩)⟩) (hK18 _ _ _ _ )
theorem j_X7_mean_18   : ∀ (F : Nat) (m : mM) (y1 : Int32) (y2 : Int32) (y3 : Int32) , JF false uL m_X7_mean 11 18 [(0, .ref 0), (1, .int y1), (2, .int y2), (3, .int y3)] [] m (f_X7_mean_18  F m y1 y2 y3) := by
  intro F
  induction F with
  | zero => intro m y1 y2 y3 ; exact F_no
  | succ F ih => intro m y1 y2 y3 ; exact jb_X7_mean_18  (f_X7_mean_18  F)  ih m y1 y2 y3 
def f_X7_mean (m : mM) (p1 : Int32) : fR Int64 :=
  bnd (f_X7_in m p1 0 1) fun (x1 : Int32) (m2 : mM) => (if x1 = 0 then some ((-9223372036854775808), m2) else (f_X7_mean_18  1000 m2 p1 0 0))
theorem c_X7_mean (m : mM) (p1 : Int32)  : cF false uL m_X7_mean 11 [.ref 0, .int p1] m (f_X7_mean m p1) := by
  refine cF_of ok_X7_mean (fun _ _ => Nat.le_of_ble_eq_true rfl) ?_
  unfold f_X7_mean
  show JF _ _ _ _ _ [(0, .ref 0), (1, .int p1)] _ _ _
  refine F_aload_n (i := 0) (a := 0) rfl rfl (dk_X7_mean 0 _ rfl) ?_
  refine F_iload_n (i := 1) (a := 1) rfl rfl (dk_X7_mean 1 _ rfl) ?_
  refine F_iconst (v := 0) (by decide) (dk_X7_mean 2 _ rfl) ?_
  refine F_iconst (v := 1) (by decide) (dk_X7_mean 3 _ rfl) ?_
  refine F_callV (ι' := uI) (ci := 7) (b := 0) (As := [.int p1, .int 0, .int 1]) (d' := 2) (rfl) ok_X7_in vi_X7_in cl_7_194 (n := 3) (by decide +kernel) rfl rfl rfl (Nat.le_of_ble_eq_true rfl) (by omega) (dk_X7_mean 4 _ rfl) (c_X7_in _ _ _ _ ) (fun x1 m2 => ?_)
  show JF _ _ _ _ _ _ [.int x1] _ _
  refine F_if_ne (tgt := 14) (by decide) (dk_X7_mean 7 _ rfl) ?_ ?_
  · refine F_iconst (v := 0) (by decide) (dk_X7_mean 14 _ rfl) ?_
    refine F_istore_n (lv' := [(2, .int 0), (0, .ref 0), (1, .int p1)]) (i := 2) (a := 2) rfl (by decide) rfl (dk_X7_mean 15 _ rfl) ?_
    refine F_iconst (v := 0) (by decide) (dk_X7_mean 16 _ rfl) ?_
    refine F_istore_n (lv' := [(3, .int 0), (2, .int 0), (0, .ref 0), (1, .int p1)]) (i := 3) (a := 3) rfl (by decide) rfl (dk_X7_mean 17 _ rfl) ?_
    exact F_loc (List.forall_mem_cons.mpr ⟨(.tail _ (.tail _ (.head _))), (List.forall_mem_cons.mpr ⟨(.tail _ (.tail _ (.tail _ (.head _)))), (List.forall_mem_cons.mpr ⟨(.tail _ (.head _)), (List.forall_mem_cons.mpr ⟨(.head _), (fun _ z => absurd z List.not_mem_nil)⟩)⟩)⟩)⟩) (j_X7_mean_18   1000 _ _ _ _ )
  · refine F_ldc2 (v := (-9223372036854775808)) ctl_7_345 (dk_X7_mean 10 _ rfl) ?_
    exact F_retL rfl (dk_X7_mean 13 _ rfl)
def f_X7_book (m : mM) (p1 : Int32) : fR Int32 :=
  (if p1 = (-10000) then nmM (wI m 38 0) fun m6 => some (0, m6) else bnd (f_X7_in m p1 (-9999) 9999) fun (x1 : Int32) (m2 : mM) => (if x1 = 0 then some ((-2), m2) else (if (mI m2 38) = 12 then some ((-4), m2) else (sA 0 m2 23 (mI m2 38) p1).bind fun m4 => nmM (wI m4 38 (((mI m4 38) + 1))) fun m5 => some ((mI m5 38), m5))))
theorem c_X7_book (m : mM) (p1 : Int32)  : cF false uI m_X7_book 3 [.ref 0, .int p1] m (f_X7_book m p1) := by
  refine cF_of ok_X7_book (fun _ _ => Nat.le_of_ble_eq_true rfl) ?_
  unfold f_X7_book
  show JF _ _ _ _ _ [(0, .ref 0), (1, .int p1)] _ _ _
  refine F_iload_n (i := 1) (a := 1) rfl rfl (dk_X7_book 0 _ rfl) ?_
  refine F_sipush (v := (-10000)) (by decide) (dk_X7_book 1 _ rfl) ?_
  refine F_icmp_ne (tgt := 14) (by decide) (dk_X7_book 4 _ rfl) ?_ ?_
  · refine F_aload_n (i := 0) (a := 0) rfl rfl (dk_X7_book 14 _ rfl) ?_
    refine F_iload_n (i := 1) (a := 1) rfl rfl (dk_X7_book 15 _ rfl) ?_
    refine F_sipush (v := (-9999)) (by decide) (dk_X7_book 16 _ rfl) ?_
    refine F_sipush (v := 9999) (by decide) (dk_X7_book 19 _ rfl) ?_
    refine F_callV (ι' := uI) (ci := 7) (b := 0) (As := [.int p1, .int (-9999), .int 9999]) (d' := 2) (rfl) ok_X7_in vi_X7_in cl_7_194 (n := 3) (by decide +kernel) rfl rfl rfl (Nat.le_of_ble_eq_true rfl) (by omega) (dk_X7_book 22 _ rfl) (c_X7_in _ _ _ _ ) (fun x1 m2 => ?_)
    show JF _ _ _ _ _ _ [.int x1] _ _
    refine F_if_ne (tgt := 31) (by decide) (dk_X7_book 25 _ rfl) ?_ ?_
    · refine F_aload_n (i := 0) (a := 0) rfl rfl (dk_X7_book 31 _ rfl) ?_
      refine F_gI (n := 38) fxM_7_38_0 rfl fl_7_126 (dk_X7_book 32 _ rfl) ?_
      refine F_bipush (v := 12) (by decide) (dk_X7_book 35 _ rfl) ?_
      refine F_icmp_ne (tgt := 43) (by decide) (dk_X7_book 37 _ rfl) ?_ ?_
      · refine F_aload_n (i := 0) (a := 0) rfl rfl (dk_X7_book 43 _ rfl) ?_
        refine F_gR (b := 23) fxM_7_39_0 fl_7_129 (dk_X7_book 44 _ rfl) ?_
        refine F_aload_n (i := 0) (a := 0) rfl rfl (dk_X7_book 47 _ rfl) ?_
        refine F_gI (n := 38) fxM_7_38_0 rfl fl_7_126 (dk_X7_book 48 _ rfl) ?_
        refine F_iload_n (i := 1) (a := 1) rfl rfl (dk_X7_book 51 _ rfl) ?_
        refine F_iast (axM_0_23) (dk_X7_book 52 _ rfl) (fun m4 => ?_)
        refine F_aload_n (i := 0) (a := 0) rfl rfl (dk_X7_book 53 _ rfl) ?_
        refine F_dup rfl (dk_X7_book 54 _ rfl) ?_
        refine F_gI (n := 38) fxM_7_38_0 rfl fl_7_126 (dk_X7_book 55 _ rfl) ?_
        refine F_iconst (v := 1) (by decide) (dk_X7_book 58 _ rfl) ?_
        refine F_iadd (dk_X7_book 59 _ rfl) ?_
        refine F_pI (n := 38) fxM_7_38_0 rfl fl_7_126 (fun q hq => by cases hq; rfl) trivial (dk_X7_book 60 _ rfl) (fun m5 => ?_)
        refine F_aload_n (i := 0) (a := 0) rfl rfl (dk_X7_book 63 _ rfl) ?_
        refine F_gI (n := 38) fxM_7_38_0 rfl fl_7_126 (dk_X7_book 64 _ rfl) ?_
        exact F_ret rfl (dk_X7_book 67 _ rfl)
      · refine F_bipush (v := (-4)) (by decide) (dk_X7_book 40 _ rfl) ?_
        exact F_ret rfl (dk_X7_book 42 _ rfl)
    · refine F_bipush (v := (-2)) (by decide) (dk_X7_book 28 _ rfl) ?_
      exact F_ret rfl (dk_X7_book 30 _ rfl)
  · refine F_aload_n (i := 0) (a := 0) rfl rfl (dk_X7_book 7 _ rfl) ?_
    refine F_iconst (v := 0) (by decide) (dk_X7_book 8 _ rfl) ?_
    refine F_pI (n := 38) fxM_7_38_0 rfl fl_7_126 (fun q hq => by cases hq; rfl) trivial (dk_X7_book 9 _ rfl) (fun m6 => ?_)
    refine F_iconst (v := 0) (by decide) (dk_X7_book 12 _ rfl) ?_
    exact F_ret rfl (dk_X7_book 13 _ rfl)
def f_X7_looked_87  (m : mM) (y2 : Int32) : fR Int32 :=
  bnd (f_X7_putBack m ) fun (x7 : Unit) (m8 : mM) => some (y2, m8)
theorem j_X7_looked_87   (m : mM) (y2 : Int32)  : JF false uI m_X7_looked 9 87 [(0, .ref 0), (2, .int y2)] [] m (f_X7_looked_87  m y2) := by
  unfold f_X7_looked_87
  refine F_aload_n (i := 0) (a := 0) rfl rfl (dk_X7_looked 87 _ rfl) ?_
  refine F_callV (ι' := uU) (ci := 7) (b := 0) (As := []) (d' := 2) (rfl) ok_X7_putBack vi_X7_putBack cl_7_317 (n := 0) (by decide +kernel) rfl rfl rfl (Nat.le_of_ble_eq_true rfl) (by omega) (dk_X7_looked 88 _ rfl) (c_X7_putBack _  ) (fun x7 m8 => ?_)
  show JF _ _ _ _ _ _ [] _ _
  refine F_iload_n (i := 2) (a := 2) rfl rfl (dk_X7_looked 91 _ rfl) ?_
  exact F_ret rfl (dk_X7_looked 92 _ rfl)
def fb_X7_looked_33 (K33 : mM → Int32 → Int32 → Int32 → fR Int32) (m : mM) (y1 : Int32) (y2 : Int32) (y3 : Int32) : fR Int32 :=
  (if (mI m 38) ≤ y3 then (f_X7_looked_87  m y2) else (if 0 ≤ y2 then (f_X7_looked_87  m y2) else bnd (f_X7_goDay m ) fun (x10 : Int32) (m11 : mM) => (gA (mA m11 5) 0).bind fun x13 => (gA (mA m11 23) y3).bind fun x14 => bnd (f_X7_in m11 (x13 - x14) (-y1) y1) fun (x15 : Int32) (m16 : mM) => (if x15 = 0 then (K33 m16 y1 y3 (y3 + 1)) else (K33 m16 y1 (-5) (y3 + 1)))))
def f_X7_looked_33  : Nat → mM → Int32 → Int32 → Int32 → fR Int32
  | 0, _, _, _, _ => none
  | F + 1, m, y1, y2, y3 => fb_X7_looked_33  (f_X7_looked_33  F) m y1 y2 y3
theorem jb_X7_looked_33 (K33 : mM → Int32 → Int32 → Int32 → fR Int32) (hK33 : ∀ (m : mM) (y1 : Int32) (y2 : Int32) (y3 : Int32) , JF false uI m_X7_looked 9 33 [(0, .ref 0), (1, .int y1), (2, .int y2), (3, .int y3)] [] m (K33 m y1 y2 y3)) (m : mM) (y1 : Int32) (y2 : Int32) (y3 : Int32)  : JF false uI m_X7_looked 9 33 [(0, .ref 0), (1, .int y1), (2, .int y2), (3, .int y3)] [] m (fb_X7_looked_33 K33 m y1 y2 y3) := by
  unfold fb_X7_looked_33
  refine F_iload_n (i := 3) (a := 3) rfl rfl (dk_X7_looked 33 _ rfl) ?_
  refine F_aload_n (i := 0) (a := 0) rfl rfl (dk_X7_looked 34 _ rfl) ?_
  refine F_gI (n := 38) fxM_7_38_0 rfl fl_7_126 (dk_X7_looked 35 _ rfl) ?_
  refine F_icmp_ge (tgt := 87) (by decide) (dk_X7_looked 38 _ rfl) ?_ ?_
  · exact F_loc (List.forall_mem_cons.mpr ⟨(.head _), (List.forall_mem_cons.mpr ⟨(.tail _ (.tail _ (.head _))), (fun _ z => absurd z List.not_mem_nil)⟩)⟩) (j_X7_looked_87   _ _ )
  · refine F_iload_n (i := 2) (a := 2) rfl rfl (dk_X7_looked 41 _ rfl) ?_
    refine F_if_ge (tgt := 87) (by decide) (dk_X7_looked 42 _ rfl) ?_ ?_
    · exact F_loc (List.forall_mem_cons.mpr ⟨(.head _), (List.forall_mem_cons.mpr ⟨(.tail _ (.tail _ (.head _))), (fun _ z => absurd z List.not_mem_nil)⟩)⟩) (j_X7_looked_87   _ _ )
    · refine F_aload_n (i := 0) (a := 0) rfl rfl (dk_X7_looked 45 _ rfl) ?_
      refine F_callV (ι' := uI) (ci := 7) (b := 0) (As := []) (d' := 8) (rfl) ok_X7_goDay vi_X7_goDay cl_7_310 (n := 0) (by decide +kernel) rfl rfl rfl (Nat.le_of_ble_eq_true rfl) (by omega) (dk_X7_looked 46 _ rfl) (c_X7_goDay _  ) (fun x10 m11 => ?_)
      show JF _ _ _ _ _ _ [.int x10] _ _
      refine F_istore (lv' := [(4, .int x10), (0, .ref 0), (1, .int y1), (2, .int y2), (3, .int y3)]) (i := 4) (by decide) rfl (dk_X7_looked 49 _ rfl) ?_
      refine F_aload_n (i := 0) (a := 0) rfl rfl (dk_X7_looked 51 _ rfl) ?_
      refine F_aload_n (i := 0) (a := 0) rfl rfl (dk_X7_looked 52 _ rfl) ?_
      refine F_gR (b := 5) fxM_7_7_0 fl_7_32 (dk_X7_looked 53 _ rfl) ?_
      refine F_iconst (v := 0) (by decide) (dk_X7_looked 56 _ rfl) ?_
      refine F_iald (axM_0_5) (dk_X7_looked 57 _ rfl) (fun x13 => ?_)
      refine F_aload_n (i := 0) (a := 0) rfl rfl (dk_X7_looked 58 _ rfl) ?_
      refine F_gR (b := 23) fxM_7_39_0 fl_7_129 (dk_X7_looked 59 _ rfl) ?_
      refine F_iload_n (i := 3) (a := 3) rfl rfl (dk_X7_looked 62 _ rfl) ?_
      refine F_iald (axM_0_23) (dk_X7_looked 63 _ rfl) (fun x14 => ?_)
      refine F_isub (dk_X7_looked 64 _ rfl) ?_
      refine F_iload_n (i := 1) (a := 1) rfl rfl (dk_X7_looked 65 _ rfl) ?_
      refine F_ineg (dk_X7_looked 66 _ rfl) ?_
      refine F_iload_n (i := 1) (a := 1) rfl rfl (dk_X7_looked 67 _ rfl) ?_
      refine F_callV (ι' := uI) (ci := 7) (b := 0) (As := [.int (x13 - x14), .int (-y1), .int y1]) (d' := 2) (rfl) ok_X7_in vi_X7_in cl_7_194 (n := 3) (by decide +kernel) rfl rfl rfl (Nat.le_of_ble_eq_true rfl) (by omega) (dk_X7_looked 68 _ rfl) (c_X7_in _ _ _ _ ) (fun x15 m16 => ?_)
      show JF _ _ _ _ _ _ [.int x15] _ _
      refine F_if_eq (tgt := 79) (by decide) (dk_X7_looked 71 _ rfl) ?_ ?_
      · refine F_iload_n (i := 3) (a := 3) rfl rfl (dk_X7_looked 79 _ rfl) ?_
        refine F_istore_n (lv' := [(2, .int y3), (4, .int x10), (0, .ref 0), (1, .int y1), (3, .int y3)]) (i := 2) (a := 2) rfl (by decide) rfl (dk_X7_looked 80 _ rfl) ?_
        refine F_iinc (i := 3) (n := 1) (v := (y3 + 1)) (lv' := [(3, .int (y3 + 1)), (2, .int y3), (4, .int x10), (0, .ref 0), (1, .int y1)]) rfl (by first | rfl | decide) (by decide) rfl (dk_X7_looked 81 _ rfl) ?_
        refine F_goto (tgt := 33) (by decide) (dk_X7_looked 84 _ rfl) ?_
        exact F_loc (List.forall_mem_cons.mpr ⟨(.tail _ (.tail _ (.tail _ (.head _)))), (List.forall_mem_cons.mpr ⟨(.tail _ (.tail _ (.tail _ (.tail _ (.head _))))), (List.forall_mem_cons.mpr ⟨(.tail _ (.head _)), (List.forall_mem_cons.mpr ⟨(.head _), (fun _ z => absurd z List.not_mem_nil)⟩)⟩)⟩)⟩) (hK33 _ _ _ _ )
      · refine F_bipush (v := (-5)) (by decide) (dk_X7_looked 74 _ rfl) ?_
        refine F_goto (tgt := 80) (by decide) (dk_X7_looked 76 _ rfl) ?_
        refine F_istore_n (lv' := [(2, .int (-5)), (4, .int x10), (0, .ref 0), (1, .int y1), (3, .int y3)]) (i := 2) (a := 2) rfl (by decide) rfl (dk_X7_looked 80 _ rfl) ?_
        refine F_iinc (i := 3) (n := 1) (v := (y3 + 1)) (lv' := [(3, .int (y3 + 1)), (2, .int (-5)), (4, .int x10), (0, .ref 0), (1, .int y1)]) rfl (by first | rfl | decide) (by decide) rfl (dk_X7_looked 81 _ rfl) ?_
        refine F_goto (tgt := 33) (by decide) (dk_X7_looked 84 _ rfl) ?_
        exact F_loc (List.forall_mem_cons.mpr ⟨(.tail _ (.tail _ (.tail _ (.head _)))), (List.forall_mem_cons.mpr ⟨(.tail _ (.tail _ (.tail _ (.tail _ (.head _))))), (List.forall_mem_cons.mpr ⟨(.tail _ (.head _)), (List.forall_mem_cons.mpr ⟨(.head _), (fun _ z => absurd z List.not_mem_nil)⟩)⟩)⟩)⟩) (hK33 _ _ _ _ )
theorem j_X7_looked_33   : ∀ (F : Nat) (m : mM) (y1 : Int32) (y2 : Int32) (y3 : Int32) , JF false uI m_X7_looked 9 33 [(0, .ref 0), (1, .int y1), (2, .int y2), (3, .int y3)] [] m (f_X7_looked_33  F m y1 y2 y3) := by
  intro F
  induction F with
  | zero => intro m y1 y2 y3 ; exact F_no
  | succ F ih => intro m y1 y2 y3 ; exact jb_X7_looked_33  (f_X7_looked_33  F)  ih m y1 y2 y3 
def f_X7_looked (m : mM) (p1 : Int32) : fR Int32 :=
  bnd (f_X7_in m p1 0 99) fun (x1 : Int32) (m2 : mM) => (if x1 = 0 then some ((-2), m2) else (if (mI m2 0) = 0 then some ((-3), m2) else bnd (f_X7_keep m2 ) fun (x4 : Unit) (m5 : mM) => (f_X7_looked_33  1000 m5 p1 (-5) 0)))
theorem c_X7_looked (m : mM) (p1 : Int32)  : cF false uI m_X7_looked 9 [.ref 0, .int p1] m (f_X7_looked m p1) := by
  refine cF_of ok_X7_looked (fun _ _ => Nat.le_of_ble_eq_true rfl) ?_
  unfold f_X7_looked
  show JF _ _ _ _ _ [(0, .ref 0), (1, .int p1)] _ _ _
  refine F_aload_n (i := 0) (a := 0) rfl rfl (dk_X7_looked 0 _ rfl) ?_
  refine F_iload_n (i := 1) (a := 1) rfl rfl (dk_X7_looked 1 _ rfl) ?_
  refine F_iconst (v := 0) (by decide) (dk_X7_looked 2 _ rfl) ?_
  refine F_bipush (v := 99) (by decide) (dk_X7_looked 3 _ rfl) ?_
  refine F_callV (ι' := uI) (ci := 7) (b := 0) (As := [.int p1, .int 0, .int 99]) (d' := 2) (rfl) ok_X7_in vi_X7_in cl_7_194 (n := 3) (by decide +kernel) rfl rfl rfl (Nat.le_of_ble_eq_true rfl) (by omega) (dk_X7_looked 5 _ rfl) (c_X7_in _ _ _ _ ) (fun x1 m2 => ?_)
  show JF _ _ _ _ _ _ [.int x1] _ _
  refine F_if_ne (tgt := 14) (by decide) (dk_X7_looked 8 _ rfl) ?_ ?_
  · refine F_aload_n (i := 0) (a := 0) rfl rfl (dk_X7_looked 14 _ rfl) ?_
    refine F_gI (n := 0) fxM_7_0_0 rfl fl_7_7 (dk_X7_looked 15 _ rfl) ?_
    refine F_if_ne (tgt := 24) (by decide) (dk_X7_looked 18 _ rfl) ?_ ?_
    · refine F_aload_n (i := 0) (a := 0) rfl rfl (dk_X7_looked 24 _ rfl) ?_
      refine F_callV (ι' := uU) (ci := 7) (b := 0) (As := []) (d' := 2) (rfl) ok_X7_keep vi_X7_keep cl_7_314 (n := 0) (by decide +kernel) rfl rfl rfl (Nat.le_of_ble_eq_true rfl) (by omega) (dk_X7_looked 25 _ rfl) (c_X7_keep _  ) (fun x4 m5 => ?_)
      show JF _ _ _ _ _ _ [] _ _
      refine F_bipush (v := (-5)) (by decide) (dk_X7_looked 28 _ rfl) ?_
      refine F_istore_n (lv' := [(2, .int (-5)), (0, .ref 0), (1, .int p1)]) (i := 2) (a := 2) rfl (by decide) rfl (dk_X7_looked 30 _ rfl) ?_
      refine F_iconst (v := 0) (by decide) (dk_X7_looked 31 _ rfl) ?_
      refine F_istore_n (lv' := [(3, .int 0), (2, .int (-5)), (0, .ref 0), (1, .int p1)]) (i := 3) (a := 3) rfl (by decide) rfl (dk_X7_looked 32 _ rfl) ?_
      exact F_loc (List.forall_mem_cons.mpr ⟨(.tail _ (.tail _ (.head _))), (List.forall_mem_cons.mpr ⟨(.tail _ (.tail _ (.tail _ (.head _)))), (List.forall_mem_cons.mpr ⟨(.tail _ (.head _)), (List.forall_mem_cons.mpr ⟨(.head _), (fun _ z => absurd z List.not_mem_nil)⟩)⟩)⟩)⟩) (j_X7_looked_33   1000 _ _ _ _ )
    · refine F_bipush (v := (-3)) (by decide) (dk_X7_looked 21 _ rfl) ?_
      exact F_ret rfl (dk_X7_looked 23 _ rfl)
  · refine F_bipush (v := (-2)) (by decide) (dk_X7_looked 11 _ rfl) ?_
    exact F_ret rfl (dk_X7_looked 13 _ rfl)
end
