section
set_option maxRecDepth 100000
def fb_X7_takesOf_11 (K11 : mM → Int32 → Int32 → Int32 → Int32 → Int32 → fR Int32) (m : mM) (y1 : Int32) (y2 : Int32) (y3 : Int32) (y4 : Int32) (y5 : Int32) : fR Int32 :=
  bnd (f_X7_clauseTo m ) fun (x4 : Int32) (m5 : mM) => (if x4 ≤ y5 then (if y4 = 0 then some (100, m5) else some ((10 * y3), m5)) else (gA (mA m5 10) y5).bind fun x7 => (if x7 = 0 then bnd (f_X7_holds m5 y5 y1 y2) fun (x8 : Int32) (m9 : mM) => (if x8 = 0 then nmI (y3 + 0) fun v11 => (K11 m9 y1 y2 v11 1 (y5 + 1)) else (gA (mA m9 11) y5).bind fun x12 => nmI (y3 + x12) fun v13 => (K11 m9 y1 y2 v13 1 (y5 + 1))) else (K11 m5 y1 y2 y3 y4 (y5 + 1))))
def f_X7_takesOf_11  : Nat → mM → Int32 → Int32 → Int32 → Int32 → Int32 → fR Int32
  | 0, _, _, _, _, _, _ => none
  | F + 1, m, y1, y2, y3, y4, y5 => fb_X7_takesOf_11  (f_X7_takesOf_11  F) m y1 y2 y3 y4 y5
theorem jb_X7_takesOf_11 (K11 : mM → Int32 → Int32 → Int32 → Int32 → Int32 → fR Int32) (hK11 : ∀ (m : mM) (y1 : Int32) (y2 : Int32) (y3 : Int32) (y4 : Int32) (y5 : Int32) , JF false uI m_X7_takesOf 5 11 [(0, .ref 0), (1, .int y1), (2, .int y2), (3, .int y3), (4, .int y4), (5, .int y5)] [] m (K11 m y1 y2 y3 y4 y5)) (m : mM) (y1 : Int32) (y2 : Int32) (y3 : Int32) (y4 : Int32) (y5 : Int32)  : JF false uI m_X7_takesOf 5 11 [(0, .ref 0), (1, .int y1), (2, .int y2), (3, .int y3), (4, .int y4), (5, .int y5)] [] m (fb_X7_takesOf_11 K11 m y1 y2 y3 y4 y5) := by
  unfold fb_X7_takesOf_11
  refine F_iload (i := 5) rfl (dk_X7_takesOf 11 _ rfl) ?_
  refine F_aload_n (i := 0) (a := 0) rfl rfl (dk_X7_takesOf 13 _ rfl) ?_
  refine F_callV (ι' := uI) (ci := 7) (b := 0) (As := []) (d' := 2) (rfl) ok_X7_clauseTo vi_X7_clauseTo cl_7_259 (n := 0) (by decide +kernel) rfl rfl rfl (Nat.le_of_ble_eq_true rfl) (by omega) (dk_X7_takesOf 14 _ rfl) (c_X7_clauseTo _  ) (fun x4 m5 => ?_)
  show JF _ _ _ _ _ _ [.int x4, .int y5] _ _
  refine F_icmp_ge (tgt := 67) (by decide) (dk_X7_takesOf 17 _ rfl) ?_ ?_
  · refine F_iload (i := 4) rfl (dk_X7_takesOf 67 _ rfl) ?_
    refine F_if_eq (tgt := 79) (by decide) (dk_X7_takesOf 69 _ rfl) ?_ ?_
    · refine F_bipush (v := 100) (by decide) (dk_X7_takesOf 79 _ rfl) ?_
      exact F_ret rfl (dk_X7_takesOf 81 _ rfl)
    · refine F_bipush (v := 10) (by decide) (dk_X7_takesOf 72 _ rfl) ?_
      refine F_iload_n (i := 3) (a := 3) rfl rfl (dk_X7_takesOf 74 _ rfl) ?_
      refine F_imul (dk_X7_takesOf 75 _ rfl) ?_
      refine F_goto (tgt := 81) (by decide) (dk_X7_takesOf 76 _ rfl) ?_
      exact F_ret rfl (dk_X7_takesOf 81 _ rfl)
  · refine F_aload_n (i := 0) (a := 0) rfl rfl (dk_X7_takesOf 20 _ rfl) ?_
    refine F_gR (b := 10) fxM_7_17_0 fl_7_63 (dk_X7_takesOf 21 _ rfl) ?_
    refine F_iload (i := 5) rfl (dk_X7_takesOf 24 _ rfl) ?_
    refine F_iald (axM_0_10) (dk_X7_takesOf 26 _ rfl) (fun x7 => ?_)
    refine F_if_eq (tgt := 33) (by decide) (dk_X7_takesOf 27 _ rfl) ?_ ?_
    · refine F_iconst (v := 1) (by decide) (dk_X7_takesOf 33 _ rfl) ?_
      refine F_istore (lv' := [(4, .int 1), (0, .ref 0), (1, .int y1), (2, .int y2), (3, .int y3), (5, .int y5)]) (i := 4) (by decide) rfl (dk_X7_takesOf 34 _ rfl) ?_
      refine F_iload_n (i := 3) (a := 3) rfl rfl (dk_X7_takesOf 36 _ rfl) ?_
      refine F_aload_n (i := 0) (a := 0) rfl rfl (dk_X7_takesOf 37 _ rfl) ?_
      refine F_iload (i := 5) rfl (dk_X7_takesOf 38 _ rfl) ?_
      refine F_iload_n (i := 1) (a := 1) rfl rfl (dk_X7_takesOf 40 _ rfl) ?_
      refine F_iload_n (i := 2) (a := 2) rfl rfl (dk_X7_takesOf 41 _ rfl) ?_
      refine F_callV (ι' := uI) (ci := 7) (b := 0) (As := [.int y5, .int y1, .int y2]) (d' := 4) (rfl) ok_X7_holds vi_X7_holds cl_7_273 (n := 3) (by decide +kernel) rfl rfl rfl (Nat.le_of_ble_eq_true rfl) (by omega) (dk_X7_takesOf 42 _ rfl) (c_X7_holds _ _ _ _ ) (fun x8 m9 => ?_)
      show JF _ _ _ _ _ _ [.int x8, .int y3] _ _
      refine F_if_eq (tgt := 58) (by decide) (dk_X7_takesOf 45 _ rfl) ?_ ?_
      · refine F_iconst (v := 0) (by decide) (dk_X7_takesOf 58 _ rfl) ?_
        refine F_iadd (dk_X7_takesOf 59 _ rfl) ?_
        refine F_nm (fun v11 => ?_)
        refine F_istore_n (lv' := [(3, .int v11), (4, .int 1), (0, .ref 0), (1, .int y1), (2, .int y2), (5, .int y5)]) (i := 3) (a := 3) rfl (by decide) rfl (dk_X7_takesOf 60 _ rfl) ?_
        refine F_iinc (i := 5) (n := 1) (v := (y5 + 1)) (lv' := [(5, .int (y5 + 1)), (3, .int v11), (4, .int 1), (0, .ref 0), (1, .int y1), (2, .int y2)]) rfl (by first | rfl | decide) (by decide) rfl (dk_X7_takesOf 61 _ rfl) ?_
        refine F_goto (tgt := 11) (by decide) (dk_X7_takesOf 64 _ rfl) ?_
        exact F_loc (List.forall_mem_cons.mpr ⟨(.tail _ (.tail _ (.tail _ (.head _)))), (List.forall_mem_cons.mpr ⟨(.tail _ (.tail _ (.tail _ (.tail _ (.head _))))), (List.forall_mem_cons.mpr ⟨(.tail _ (.tail _ (.tail _ (.tail _ (.tail _ (.head _)))))), (List.forall_mem_cons.mpr ⟨(.tail _ (.head _)), (List.forall_mem_cons.mpr ⟨(.tail _ (.tail _ (.head _))), (List.forall_mem_cons.mpr ⟨(.head _), (fun _ z => absurd z List.not_mem_nil)⟩)⟩)⟩)⟩)⟩)⟩) (hK11 _ _ _ _ _ _ )
      · refine F_aload_n (i := 0) (a := 0) rfl rfl (dk_X7_takesOf 48 _ rfl) ?_
        refine F_gR (b := 11) fxM_7_18_0 fl_7_66 (dk_X7_takesOf 49 _ rfl) ?_
        refine F_iload (i := 5) rfl (dk_X7_takesOf 52 _ rfl) ?_
        refine F_iald (axM_0_11) (dk_X7_takesOf 54 _ rfl) (fun x12 => ?_)
        refine F_goto (tgt := 59) (by decide) (dk_X7_takesOf 55 _ rfl) ?_
        refine F_iadd (dk_X7_takesOf 59 _ rfl) ?_
        refine F_nm (fun v13 => ?_)
        refine F_istore_n (lv' := [(3, .int v13), (4, .int 1), (0, .ref 0), (1, .int y1), (2, .int y2), (5, .int y5)]) (i := 3) (a := 3) rfl (by decide) rfl (dk_X7_takesOf 60 _ rfl) ?_
        refine F_iinc (i := 5) (n := 1) (v := (y5 + 1)) (lv' := [(5, .int (y5 + 1)), (3, .int v13), (4, .int 1), (0, .ref 0), (1, .int y1), (2, .int y2)]) rfl (by first | rfl | decide) (by decide) rfl (dk_X7_takesOf 61 _ rfl) ?_
        refine F_goto (tgt := 11) (by decide) (dk_X7_takesOf 64 _ rfl) ?_
        exact F_loc (List.forall_mem_cons.mpr ⟨(.tail _ (.tail _ (.tail _ (.head _)))), (List.forall_mem_cons.mpr ⟨(.tail _ (.tail _ (.tail _ (.tail _ (.head _))))), (List.forall_mem_cons.mpr ⟨(.tail _ (.tail _ (.tail _ (.tail _ (.tail _ (.head _)))))), (List.forall_mem_cons.mpr ⟨(.tail _ (.head _)), (List.forall_mem_cons.mpr ⟨(.tail _ (.tail _ (.head _))), (List.forall_mem_cons.mpr ⟨(.head _), (fun _ z => absurd z List.not_mem_nil)⟩)⟩)⟩)⟩)⟩)⟩) (hK11 _ _ _ _ _ _ )
    · refine F_goto (tgt := 61) (by decide) (dk_X7_takesOf 30 _ rfl) ?_
      refine F_iinc (i := 5) (n := 1) (v := (y5 + 1)) (lv' := [(5, .int (y5 + 1)), (0, .ref 0), (1, .int y1), (2, .int y2), (3, .int y3), (4, .int y4)]) rfl (by first | rfl | decide) (by decide) rfl (dk_X7_takesOf 61 _ rfl) ?_
      refine F_goto (tgt := 11) (by decide) (dk_X7_takesOf 64 _ rfl) ?_
      exact F_loc (List.forall_mem_cons.mpr ⟨(.tail _ (.head _)), (List.forall_mem_cons.mpr ⟨(.tail _ (.tail _ (.head _))), (List.forall_mem_cons.mpr ⟨(.tail _ (.tail _ (.tail _ (.head _)))), (List.forall_mem_cons.mpr ⟨(.tail _ (.tail _ (.tail _ (.tail _ (.head _))))), (List.forall_mem_cons.mpr ⟨(.tail _ (.tail _ (.tail _ (.tail _ (.tail _ (.head _)))))), (List.forall_mem_cons.mpr ⟨(.head _), (fun _ z => absurd z List.not_mem_nil)⟩)⟩)⟩)⟩)⟩)⟩) (hK11 _ _ _ _ _ _ )
theorem j_X7_takesOf_11   : ∀ (F : Nat) (m : mM) (y1 : Int32) (y2 : Int32) (y3 : Int32) (y4 : Int32) (y5 : Int32) , JF false uI m_X7_takesOf 5 11 [(0, .ref 0), (1, .int y1), (2, .int y2), (3, .int y3), (4, .int y4), (5, .int y5)] [] m (f_X7_takesOf_11  F m y1 y2 y3 y4 y5) := by
  intro F
  induction F with
  | zero => intro m y1 y2 y3 y4 y5 ; exact F_no
  | succ F ih => intro m y1 y2 y3 y4 y5 ; exact jb_X7_takesOf_11  (f_X7_takesOf_11  F)  ih m y1 y2 y3 y4 y5 
def f_X7_takesOf (m : mM) (p1 : Int32) (p2 : Int32) : fR Int32 :=
  bnd (f_X7_clauseFrom m ) fun (x1 : Int32) (m2 : mM) => (f_X7_takesOf_11  1000 m2 p1 p2 0 0 x1)
theorem c_X7_takesOf (m : mM) (p1 : Int32) (p2 : Int32)  : cF false uI m_X7_takesOf 5 [.ref 0, .int p1, .int p2] m (f_X7_takesOf m p1 p2) := by
  refine cF_of ok_X7_takesOf (fun _ _ => Nat.le_of_ble_eq_true rfl) ?_
  unfold f_X7_takesOf
  show JF _ _ _ _ _ [(0, .ref 0), (1, .int p1), (2, .int p2)] _ _ _
  refine F_iconst (v := 0) (by decide) (dk_X7_takesOf 0 _ rfl) ?_
  refine F_istore_n (lv' := [(3, .int 0), (0, .ref 0), (1, .int p1), (2, .int p2)]) (i := 3) (a := 3) rfl (by decide) rfl (dk_X7_takesOf 1 _ rfl) ?_
  refine F_iconst (v := 0) (by decide) (dk_X7_takesOf 2 _ rfl) ?_
  refine F_istore (lv' := [(4, .int 0), (3, .int 0), (0, .ref 0), (1, .int p1), (2, .int p2)]) (i := 4) (by decide) rfl (dk_X7_takesOf 3 _ rfl) ?_
  refine F_aload_n (i := 0) (a := 0) rfl rfl (dk_X7_takesOf 5 _ rfl) ?_
  refine F_callV (ι' := uI) (ci := 7) (b := 0) (As := []) (d' := 2) (rfl) ok_X7_clauseFrom vi_X7_clauseFrom cl_7_256 (n := 0) (by decide +kernel) rfl rfl rfl (Nat.le_of_ble_eq_true rfl) (by omega) (dk_X7_takesOf 6 _ rfl) (c_X7_clauseFrom _  ) (fun x1 m2 => ?_)
  show JF _ _ _ _ _ _ [.int x1] _ _
  refine F_istore (lv' := [(5, .int x1), (4, .int 0), (3, .int 0), (0, .ref 0), (1, .int p1), (2, .int p2)]) (i := 5) (by decide) rfl (dk_X7_takesOf 9 _ rfl) ?_
  exact F_loc (List.forall_mem_cons.mpr ⟨(.tail _ (.tail _ (.tail _ (.head _)))), (List.forall_mem_cons.mpr ⟨(.tail _ (.tail _ (.tail _ (.tail _ (.head _))))), (List.forall_mem_cons.mpr ⟨(.tail _ (.tail _ (.tail _ (.tail _ (.tail _ (.head _)))))), (List.forall_mem_cons.mpr ⟨(.tail _ (.tail _ (.head _))), (List.forall_mem_cons.mpr ⟨(.tail _ (.head _)), (List.forall_mem_cons.mpr ⟨(.head _), (fun _ z => absurd z List.not_mem_nil)⟩)⟩)⟩)⟩)⟩)⟩) (j_X7_takesOf_11   1000 _ _ _ _ _ _ )
def f_X7_thatOne (m : mM) (p1 : Int32) : fR Int32 :=
  (gA (mA m 2) p1).bind fun x1 => (rmI x1 (mI m 0)).bind fun x2 => some (x2, m)
theorem c_X7_thatOne (m : mM) (p1 : Int32)  : cF false uI m_X7_thatOne 2 [.ref 0, .int p1] m (f_X7_thatOne m p1) := by
  refine cF_of ok_X7_thatOne (fun _ _ => Nat.le_of_ble_eq_true rfl) ?_
  unfold f_X7_thatOne
  show JF _ _ _ _ _ [(0, .ref 0), (1, .int p1)] _ _ _
  refine F_aload_n (i := 0) (a := 0) rfl rfl (dk_X7_thatOne 0 _ rfl) ?_
  refine F_gR (b := 2) fxM_7_4_0 fl_7_23 (dk_X7_thatOne 1 _ rfl) ?_
  refine F_iload_n (i := 1) (a := 1) rfl rfl (dk_X7_thatOne 4 _ rfl) ?_
  refine F_iald (axM_0_2) (dk_X7_thatOne 5 _ rfl) (fun x1 => ?_)
  refine F_aload_n (i := 0) (a := 0) rfl rfl (dk_X7_thatOne 6 _ rfl) ?_
  refine F_gI (n := 0) fxM_7_0_0 rfl fl_7_7 (dk_X7_thatOne 7 _ rfl) ?_
  refine F_irem (dk_X7_thatOne 10 _ rfl) (fun x2 => ?_)
  exact F_ret rfl (dk_X7_thatOne 11 _ rfl)
def f_X7_behindHated (m : mM) (p1 : Int32) : fR Int32 :=
  bnd (f_X7_thatOne m p1) fun (x1 : Int32) (m2 : mM) => (gA (mA m2 3) x1).bind fun x4 => (gA (mA m2 4) p1).bind fun x5 => (if x4 = x5 then (gA (mA m2 4) p1).bind fun x7 => (rmI (x7 + 1) 12).bind fun x8 => some (x8, m2) else (gA (mA m2 4) p1).bind fun x6 => some (x6, m2))
theorem c_X7_behindHated (m : mM) (p1 : Int32)  : cF false uI m_X7_behindHated 3 [.ref 0, .int p1] m (f_X7_behindHated m p1) := by
  refine cF_of ok_X7_behindHated (fun _ _ => Nat.le_of_ble_eq_true rfl) ?_
  unfold f_X7_behindHated
  show JF _ _ _ _ _ [(0, .ref 0), (1, .int p1)] _ _ _
  refine F_aload_n (i := 0) (a := 0) rfl rfl (dk_X7_behindHated 0 _ rfl) ?_
  refine F_gR (b := 3) fxM_7_5_0 fl_7_26 (dk_X7_behindHated 1 _ rfl) ?_
  refine F_aload_n (i := 0) (a := 0) rfl rfl (dk_X7_behindHated 4 _ rfl) ?_
  refine F_iload_n (i := 1) (a := 1) rfl rfl (dk_X7_behindHated 5 _ rfl) ?_
  refine F_callV (ι' := uI) (ci := 7) (b := 0) (As := [.int p1]) (d' := 2) (rfl) ok_X7_thatOne vi_X7_thatOne cl_7_276 (n := 1) (by decide +kernel) rfl rfl rfl (Nat.le_of_ble_eq_true rfl) (by omega) (dk_X7_behindHated 6 _ rfl) (c_X7_thatOne _ _ ) (fun x1 m2 => ?_)
  show JF _ _ _ _ _ _ [.int x1, .ref 3] _ _
  refine F_iald (axM_0_3) (dk_X7_behindHated 9 _ rfl) (fun x4 => ?_)
  refine F_aload_n (i := 0) (a := 0) rfl rfl (dk_X7_behindHated 10 _ rfl) ?_
  refine F_gR (b := 4) fxM_7_6_0 fl_7_29 (dk_X7_behindHated 11 _ rfl) ?_
  refine F_iload_n (i := 1) (a := 1) rfl rfl (dk_X7_behindHated 14 _ rfl) ?_
  refine F_iald (axM_0_4) (dk_X7_behindHated 15 _ rfl) (fun x5 => ?_)
  refine F_icmp_ne (tgt := 33) (by decide) (dk_X7_behindHated 16 _ rfl) ?_ ?_
  · refine F_aload_n (i := 0) (a := 0) rfl rfl (dk_X7_behindHated 33 _ rfl) ?_
    refine F_gR (b := 4) fxM_7_6_0 fl_7_29 (dk_X7_behindHated 34 _ rfl) ?_
    refine F_iload_n (i := 1) (a := 1) rfl rfl (dk_X7_behindHated 37 _ rfl) ?_
    refine F_iald (axM_0_4) (dk_X7_behindHated 38 _ rfl) (fun x6 => ?_)
    exact F_ret rfl (dk_X7_behindHated 39 _ rfl)
  · refine F_aload_n (i := 0) (a := 0) rfl rfl (dk_X7_behindHated 19 _ rfl) ?_
    refine F_gR (b := 4) fxM_7_6_0 fl_7_29 (dk_X7_behindHated 20 _ rfl) ?_
    refine F_iload_n (i := 1) (a := 1) rfl rfl (dk_X7_behindHated 23 _ rfl) ?_
    refine F_iald (axM_0_4) (dk_X7_behindHated 24 _ rfl) (fun x7 => ?_)
    refine F_iconst (v := 1) (by decide) (dk_X7_behindHated 25 _ rfl) ?_
    refine F_iadd (dk_X7_behindHated 26 _ rfl) ?_
    refine F_bipush (v := 12) (by decide) (dk_X7_behindHated 27 _ rfl) ?_
    refine F_irem (dk_X7_behindHated 29 _ rfl) (fun x8 => ?_)
    refine F_goto (tgt := 39) (by decide) (dk_X7_behindHated 30 _ rfl) ?_
    exact F_ret rfl (dk_X7_behindHated 39 _ rfl)
def fb_X7_shunned_2 (K2 : mM → Int32 → Int32 → fR Int32) (m : mM) (y1 : Int32) (y2 : Int32) : fR Int32 :=
  (if 12 ≤ y2 then bnd (f_X7_behindHated m y1) fun (x1 : Int32) (m2 : mM) => some (x1, m2) else (gA (mA m 4) y1).bind fun x4 => (rmI (x4 + y2) 12).bind fun x5 => bnd (f_X7_thatOne m y1) fun (x6 : Int32) (m7 : mM) => (gA (mA m7 3) x6).bind fun x9 => (if x9 = x5 then (K2 m7 y1 (y2 + 1)) else bnd (f_X7_manyBorn m7 x5) fun (x10 : Int32) (m11 : mM) => (if 2 ≤ x10 then (K2 m11 y1 (y2 + 1)) else some (x5, m11))))
def f_X7_shunned_2  : Nat → mM → Int32 → Int32 → fR Int32
  | 0, _, _, _ => none
  | F + 1, m, y1, y2 => fb_X7_shunned_2  (f_X7_shunned_2  F) m y1 y2
theorem jb_X7_shunned_2 (K2 : mM → Int32 → Int32 → fR Int32) (hK2 : ∀ (m : mM) (y1 : Int32) (y2 : Int32) , JF false uI m_X7_shunned 4 2 [(0, .ref 0), (1, .int y1), (2, .int y2)] [] m (K2 m y1 y2)) (m : mM) (y1 : Int32) (y2 : Int32)  : JF false uI m_X7_shunned 4 2 [(0, .ref 0), (1, .int y1), (2, .int y2)] [] m (fb_X7_shunned_2 K2 m y1 y2) := by
  unfold fb_X7_shunned_2
  refine F_iload_n (i := 2) (a := 2) rfl rfl (dk_X7_shunned 2 _ rfl) ?_
  refine F_bipush (v := 12) (by decide) (dk_X7_shunned 3 _ rfl) ?_
  refine F_icmp_ge (tgt := 51) (by decide) (dk_X7_shunned 5 _ rfl) ?_ ?_
  · refine F_aload_n (i := 0) (a := 0) rfl rfl (dk_X7_shunned 51 _ rfl) ?_
    refine F_iload_n (i := 1) (a := 1) rfl rfl (dk_X7_shunned 52 _ rfl) ?_
    refine F_callV (ι' := uI) (ci := 7) (b := 0) (As := [.int y1]) (d' := 3) (rfl) ok_X7_behindHated vi_X7_behindHated cl_7_279 (n := 1) (by decide +kernel) rfl rfl rfl (Nat.le_of_ble_eq_true rfl) (by omega) (dk_X7_shunned 53 _ rfl) (c_X7_behindHated _ _ ) (fun x1 m2 => ?_)
    show JF _ _ _ _ _ _ [.int x1] _ _
    exact F_ret rfl (dk_X7_shunned 56 _ rfl)
  · refine F_aload_n (i := 0) (a := 0) rfl rfl (dk_X7_shunned 8 _ rfl) ?_
    refine F_gR (b := 4) fxM_7_6_0 fl_7_29 (dk_X7_shunned 9 _ rfl) ?_
    refine F_iload_n (i := 1) (a := 1) rfl rfl (dk_X7_shunned 12 _ rfl) ?_
    refine F_iald (axM_0_4) (dk_X7_shunned 13 _ rfl) (fun x4 => ?_)
    refine F_iload_n (i := 2) (a := 2) rfl rfl (dk_X7_shunned 14 _ rfl) ?_
    refine F_iadd (dk_X7_shunned 15 _ rfl) ?_
    refine F_bipush (v := 12) (by decide) (dk_X7_shunned 16 _ rfl) ?_
    refine F_irem (dk_X7_shunned 18 _ rfl) (fun x5 => ?_)
    refine F_istore_n (lv' := [(3, .int x5), (0, .ref 0), (1, .int y1), (2, .int y2)]) (i := 3) (a := 3) rfl (by decide) rfl (dk_X7_shunned 19 _ rfl) ?_
    refine F_aload_n (i := 0) (a := 0) rfl rfl (dk_X7_shunned 20 _ rfl) ?_
    refine F_gR (b := 3) fxM_7_5_0 fl_7_26 (dk_X7_shunned 21 _ rfl) ?_
    refine F_aload_n (i := 0) (a := 0) rfl rfl (dk_X7_shunned 24 _ rfl) ?_
    refine F_iload_n (i := 1) (a := 1) rfl rfl (dk_X7_shunned 25 _ rfl) ?_
    refine F_callV (ι' := uI) (ci := 7) (b := 0) (As := [.int y1]) (d' := 2) (rfl) ok_X7_thatOne vi_X7_thatOne cl_7_276 (n := 1) (by decide +kernel) rfl rfl rfl (Nat.le_of_ble_eq_true rfl) (by omega) (dk_X7_shunned 26 _ rfl) (c_X7_thatOne _ _ ) (fun x6 m7 => ?_)
    show JF _ _ _ _ _ _ [.int x6, .ref 3] _ _
    refine F_iald (axM_0_3) (dk_X7_shunned 29 _ rfl) (fun x9 => ?_)
    refine F_iload_n (i := 3) (a := 3) rfl rfl (dk_X7_shunned 30 _ rfl) ?_
    refine F_icmp_eq (tgt := 45) (by decide) (dk_X7_shunned 31 _ rfl) ?_ ?_
    · refine F_iinc (i := 2) (n := 1) (v := (y2 + 1)) (lv' := [(2, .int (y2 + 1)), (3, .int x5), (0, .ref 0), (1, .int y1)]) rfl (by first | rfl | decide) (by decide) rfl (dk_X7_shunned 45 _ rfl) ?_
      refine F_goto (tgt := 2) (by decide) (dk_X7_shunned 48 _ rfl) ?_
      exact F_loc (List.forall_mem_cons.mpr ⟨(.tail _ (.tail _ (.head _))), (List.forall_mem_cons.mpr ⟨(.tail _ (.tail _ (.tail _ (.head _)))), (List.forall_mem_cons.mpr ⟨(.head _), (fun _ z => absurd z List.not_mem_nil)⟩)⟩)⟩) (hK2 _ _ _ )
    · refine F_aload_n (i := 0) (a := 0) rfl rfl (dk_X7_shunned 34 _ rfl) ?_
      refine F_iload_n (i := 3) (a := 3) rfl rfl (dk_X7_shunned 35 _ rfl) ?_
      refine F_callV (ι' := uI) (ci := 7) (b := 0) (As := [.int x5]) (d' := 2) (rfl) ok_X7_manyBorn vi_X7_manyBorn cl_7_266 (n := 1) (by decide +kernel) rfl rfl rfl (Nat.le_of_ble_eq_true rfl) (by omega) (dk_X7_shunned 36 _ rfl) (c_X7_manyBorn _ _ ) (fun x10 m11 => ?_)
      show JF _ _ _ _ _ _ [.int x10] _ _
      refine F_iconst (v := 2) (by decide) (dk_X7_shunned 39 _ rfl) ?_
      refine F_icmp_ge (tgt := 45) (by decide) (dk_X7_shunned 40 _ rfl) ?_ ?_
      · refine F_iinc (i := 2) (n := 1) (v := (y2 + 1)) (lv' := [(2, .int (y2 + 1)), (3, .int x5), (0, .ref 0), (1, .int y1)]) rfl (by first | rfl | decide) (by decide) rfl (dk_X7_shunned 45 _ rfl) ?_
        refine F_goto (tgt := 2) (by decide) (dk_X7_shunned 48 _ rfl) ?_
        exact F_loc (List.forall_mem_cons.mpr ⟨(.tail _ (.tail _ (.head _))), (List.forall_mem_cons.mpr ⟨(.tail _ (.tail _ (.tail _ (.head _)))), (List.forall_mem_cons.mpr ⟨(.head _), (fun _ z => absurd z List.not_mem_nil)⟩)⟩)⟩) (hK2 _ _ _ )
      · refine F_iload_n (i := 3) (a := 3) rfl rfl (dk_X7_shunned 43 _ rfl) ?_
        exact F_ret rfl (dk_X7_shunned 44 _ rfl)
theorem j_X7_shunned_2   : ∀ (F : Nat) (m : mM) (y1 : Int32) (y2 : Int32) , JF false uI m_X7_shunned 4 2 [(0, .ref 0), (1, .int y1), (2, .int y2)] [] m (f_X7_shunned_2  F m y1 y2) := by
  intro F
  induction F with
  | zero => intro m y1 y2 ; exact F_no
  | succ F ih => intro m y1 y2 ; exact jb_X7_shunned_2  (f_X7_shunned_2  F)  ih m y1 y2 
def f_X7_shunned (m : mM) (p1 : Int32) : fR Int32 :=
  (f_X7_shunned_2  1000 m p1 0)
theorem c_X7_shunned (m : mM) (p1 : Int32)  : cF false uI m_X7_shunned 4 [.ref 0, .int p1] m (f_X7_shunned m p1) := by
  refine cF_of ok_X7_shunned (fun _ _ => Nat.le_of_ble_eq_true rfl) ?_
  unfold f_X7_shunned
  show JF _ _ _ _ _ [(0, .ref 0), (1, .int p1)] _ _ _
  refine F_iconst (v := 0) (by decide) (dk_X7_shunned 0 _ rfl) ?_
  refine F_istore_n (lv' := [(2, .int 0), (0, .ref 0), (1, .int p1)]) (i := 2) (a := 2) rfl (by decide) rfl (dk_X7_shunned 1 _ rfl) ?_
  exact F_loc (List.forall_mem_cons.mpr ⟨(.tail _ (.head _)), (List.forall_mem_cons.mpr ⟨(.tail _ (.tail _ (.head _))), (List.forall_mem_cons.mpr ⟨(.head _), (fun _ z => absurd z List.not_mem_nil)⟩)⟩)⟩) (j_X7_shunned_2   1000 _ _ _ )
def f_X7_wishedDay (m : mM) (p1 : Int32) : fR Int32 :=
  (gA (mA m 1) p1).bind fun x1 => (if x1 = 1 then bnd (f_X7_behindHated m p1) fun (x3 : Int32) (m4 : mM) => some (x3, m4) else if x1 = 2 then bnd (f_X7_thatOne m p1) fun (x6 : Int32) (m7 : mM) => (gA (mA m7 3) x6).bind fun x9 => some (x9, m7) else if x1 = 3 then (gA (mA m 4) p1).bind fun x10 => (gA (mA m 2) p1).bind fun x11 => (rmI (x10 + x11) 12).bind fun x12 => some (x12, m) else if x1 = 4 then bnd (f_X7_shunned m p1) fun (x13 : Int32) (m14 : mM) => some (x13, m14) else if x1 = 5 then bnd (f_X7_thatOne m p1) fun (x16 : Int32) (m17 : mM) => (gA (mA m17 7) x16).bind fun x19 => (if x19 = 0 then (gA (mA m17 4) p1).bind fun x20 => some (x20, m17) else bnd (f_X7_thatOne m17 p1) fun (x21 : Int32) (m22 : mM) => (gA (mA m22 3) x21).bind fun x24 => some (x24, m22)) else if x1 = 6 then (rmI (mI m 2) 4).bind fun x25 => (gA (mA m 6) (((4 * p1) + x25))).bind fun x26 => some (x26, m) else (gA (mA m 4) p1).bind fun x27 => some (x27, m))
theorem c_X7_wishedDay (m : mM) (p1 : Int32)  : cF false uI m_X7_wishedDay 5 [.ref 0, .int p1] m (f_X7_wishedDay m p1) := by
  refine cF_of ok_X7_wishedDay (fun _ _ => Nat.le_of_ble_eq_true rfl) ?_
  unfold f_X7_wishedDay
  show JF _ _ _ _ _ [(0, .ref 0), (1, .int p1)] _ _ _
  refine F_aload_n (i := 0) (a := 0) rfl rfl (dk_X7_wishedDay 0 _ rfl) ?_
  refine F_gR (b := 1) fxM_7_3_0 fl_7_19 (dk_X7_wishedDay 1 _ rfl) ?_
  refine F_iload_n (i := 1) (a := 1) rfl rfl (dk_X7_wishedDay 4 _ rfl) ?_
  refine F_iald (axM_0_1) (dk_X7_wishedDay 5 _ rfl) (fun x1 => ?_)
  refine F_case (fun c2_0 => ?_) (fun c2_0 => ?_)
  · rw [c2_0]; refine F_tin (off := 38) (tgt := 44) (by decide) (by decide) rfl (by decide) (dk_X7_wishedDay 6 _ rfl) ?_
    refine F_aload_n (i := 0) (a := 0) rfl rfl (dk_X7_wishedDay 44 _ rfl) ?_
    refine F_iload_n (i := 1) (a := 1) rfl rfl (dk_X7_wishedDay 45 _ rfl) ?_
    refine F_callV (ι' := uI) (ci := 7) (b := 0) (As := [.int p1]) (d' := 3) (rfl) ok_X7_behindHated vi_X7_behindHated cl_7_279 (n := 1) (by decide +kernel) rfl rfl rfl (Nat.le_of_ble_eq_true rfl) (by omega) (dk_X7_wishedDay 46 _ rfl) (c_X7_behindHated _ _ ) (fun x3 m4 => ?_)
    show JF _ _ _ _ _ _ [.int x3] _ _
    exact F_ret rfl (dk_X7_wishedDay 49 _ rfl)
  refine F_case (fun c2_1 => ?_) (fun c2_1 => ?_)
  · rw [c2_1]; refine F_tin (off := 44) (tgt := 50) (by decide) (by decide) rfl (by decide) (dk_X7_wishedDay 6 _ rfl) ?_
    refine F_aload_n (i := 0) (a := 0) rfl rfl (dk_X7_wishedDay 50 _ rfl) ?_
    refine F_gR (b := 3) fxM_7_5_0 fl_7_26 (dk_X7_wishedDay 51 _ rfl) ?_
    refine F_aload_n (i := 0) (a := 0) rfl rfl (dk_X7_wishedDay 54 _ rfl) ?_
    refine F_iload_n (i := 1) (a := 1) rfl rfl (dk_X7_wishedDay 55 _ rfl) ?_
    refine F_callV (ι' := uI) (ci := 7) (b := 0) (As := [.int p1]) (d' := 2) (rfl) ok_X7_thatOne vi_X7_thatOne cl_7_276 (n := 1) (by decide +kernel) rfl rfl rfl (Nat.le_of_ble_eq_true rfl) (by omega) (dk_X7_wishedDay 56 _ rfl) (c_X7_thatOne _ _ ) (fun x6 m7 => ?_)
    show JF _ _ _ _ _ _ [.int x6, .ref 3] _ _
    refine F_iald (axM_0_3) (dk_X7_wishedDay 59 _ rfl) (fun x9 => ?_)
    exact F_ret rfl (dk_X7_wishedDay 60 _ rfl)
  refine F_case (fun c2_2 => ?_) (fun c2_2 => ?_)
  · rw [c2_2]; refine F_tin (off := 55) (tgt := 61) (by decide) (by decide) rfl (by decide) (dk_X7_wishedDay 6 _ rfl) ?_
    refine F_aload_n (i := 0) (a := 0) rfl rfl (dk_X7_wishedDay 61 _ rfl) ?_
    refine F_gR (b := 4) fxM_7_6_0 fl_7_29 (dk_X7_wishedDay 62 _ rfl) ?_
    refine F_iload_n (i := 1) (a := 1) rfl rfl (dk_X7_wishedDay 65 _ rfl) ?_
    refine F_iald (axM_0_4) (dk_X7_wishedDay 66 _ rfl) (fun x10 => ?_)
    refine F_aload_n (i := 0) (a := 0) rfl rfl (dk_X7_wishedDay 67 _ rfl) ?_
    refine F_gR (b := 2) fxM_7_4_0 fl_7_23 (dk_X7_wishedDay 68 _ rfl) ?_
    refine F_iload_n (i := 1) (a := 1) rfl rfl (dk_X7_wishedDay 71 _ rfl) ?_
    refine F_iald (axM_0_2) (dk_X7_wishedDay 72 _ rfl) (fun x11 => ?_)
    refine F_iadd (dk_X7_wishedDay 73 _ rfl) ?_
    refine F_bipush (v := 12) (by decide) (dk_X7_wishedDay 74 _ rfl) ?_
    refine F_irem (dk_X7_wishedDay 76 _ rfl) (fun x12 => ?_)
    exact F_ret rfl (dk_X7_wishedDay 77 _ rfl)
  refine F_case (fun c2_3 => ?_) (fun c2_3 => ?_)
  · rw [c2_3]; refine F_tin (off := 72) (tgt := 78) (by decide) (by decide) rfl (by decide) (dk_X7_wishedDay 6 _ rfl) ?_
    refine F_aload_n (i := 0) (a := 0) rfl rfl (dk_X7_wishedDay 78 _ rfl) ?_
    refine F_iload_n (i := 1) (a := 1) rfl rfl (dk_X7_wishedDay 79 _ rfl) ?_
    refine F_callV (ι' := uI) (ci := 7) (b := 0) (As := [.int p1]) (d' := 4) (rfl) ok_X7_shunned vi_X7_shunned cl_7_282 (n := 1) (by decide +kernel) rfl rfl rfl (Nat.le_of_ble_eq_true rfl) (by omega) (dk_X7_wishedDay 80 _ rfl) (c_X7_shunned _ _ ) (fun x13 m14 => ?_)
    show JF _ _ _ _ _ _ [.int x13] _ _
    exact F_ret rfl (dk_X7_wishedDay 83 _ rfl)
  refine F_case (fun c2_4 => ?_) (fun c2_4 => ?_)
  · rw [c2_4]; refine F_tin (off := 78) (tgt := 84) (by decide) (by decide) rfl (by decide) (dk_X7_wishedDay 6 _ rfl) ?_
    refine F_aload_n (i := 0) (a := 0) rfl rfl (dk_X7_wishedDay 84 _ rfl) ?_
    refine F_gR (b := 7) fxM_7_9_0 fl_7_38 (dk_X7_wishedDay 85 _ rfl) ?_
    refine F_aload_n (i := 0) (a := 0) rfl rfl (dk_X7_wishedDay 88 _ rfl) ?_
    refine F_iload_n (i := 1) (a := 1) rfl rfl (dk_X7_wishedDay 89 _ rfl) ?_
    refine F_callV (ι' := uI) (ci := 7) (b := 0) (As := [.int p1]) (d' := 2) (rfl) ok_X7_thatOne vi_X7_thatOne cl_7_276 (n := 1) (by decide +kernel) rfl rfl rfl (Nat.le_of_ble_eq_true rfl) (by omega) (dk_X7_wishedDay 90 _ rfl) (c_X7_thatOne _ _ ) (fun x16 m17 => ?_)
    show JF _ _ _ _ _ _ [.int x16, .ref 7] _ _
    refine F_zald (axM_3_7) (dk_X7_wishedDay 93 _ rfl) (fun x19 => ?_)
    refine F_if_eq (tgt := 110) (by decide) (dk_X7_wishedDay 94 _ rfl) ?_ ?_
    · refine F_aload_n (i := 0) (a := 0) rfl rfl (dk_X7_wishedDay 110 _ rfl) ?_
      refine F_gR (b := 4) fxM_7_6_0 fl_7_29 (dk_X7_wishedDay 111 _ rfl) ?_
      refine F_iload_n (i := 1) (a := 1) rfl rfl (dk_X7_wishedDay 114 _ rfl) ?_
      refine F_iald (axM_0_4) (dk_X7_wishedDay 115 _ rfl) (fun x20 => ?_)
      exact F_ret rfl (dk_X7_wishedDay 116 _ rfl)
    · refine F_aload_n (i := 0) (a := 0) rfl rfl (dk_X7_wishedDay 97 _ rfl) ?_
      refine F_gR (b := 3) fxM_7_5_0 fl_7_26 (dk_X7_wishedDay 98 _ rfl) ?_
      refine F_aload_n (i := 0) (a := 0) rfl rfl (dk_X7_wishedDay 101 _ rfl) ?_
      refine F_iload_n (i := 1) (a := 1) rfl rfl (dk_X7_wishedDay 102 _ rfl) ?_
      refine F_callV (ι' := uI) (ci := 7) (b := 0) (As := [.int p1]) (d' := 2) (rfl) ok_X7_thatOne vi_X7_thatOne cl_7_276 (n := 1) (by decide +kernel) rfl rfl rfl (Nat.le_of_ble_eq_true rfl) (by omega) (dk_X7_wishedDay 103 _ rfl) (c_X7_thatOne _ _ ) (fun x21 m22 => ?_)
      show JF _ _ _ _ _ _ [.int x21, .ref 3] _ _
      refine F_iald (axM_0_3) (dk_X7_wishedDay 106 _ rfl) (fun x24 => ?_)
      refine F_goto (tgt := 116) (by decide) (dk_X7_wishedDay 107 _ rfl) ?_
      exact F_ret rfl (dk_X7_wishedDay 116 _ rfl)
  refine F_case (fun c2_5 => ?_) (fun c2_5 => ?_)
  · rw [c2_5]; refine F_tin (off := 111) (tgt := 117) (by decide) (by decide) rfl (by decide) (dk_X7_wishedDay 6 _ rfl) ?_
    refine F_aload_n (i := 0) (a := 0) rfl rfl (dk_X7_wishedDay 117 _ rfl) ?_
    refine F_gR (b := 6) fxM_7_8_0 fl_7_35 (dk_X7_wishedDay 118 _ rfl) ?_
    refine F_iconst (v := 4) (by decide) (dk_X7_wishedDay 121 _ rfl) ?_
    refine F_iload_n (i := 1) (a := 1) rfl rfl (dk_X7_wishedDay 122 _ rfl) ?_
    refine F_imul (dk_X7_wishedDay 123 _ rfl) ?_
    refine F_aload_n (i := 0) (a := 0) rfl rfl (dk_X7_wishedDay 124 _ rfl) ?_
    refine F_gI (n := 2) fxM_7_2_0 rfl fl_7_16 (dk_X7_wishedDay 125 _ rfl) ?_
    refine F_iconst (v := 4) (by decide) (dk_X7_wishedDay 128 _ rfl) ?_
    refine F_irem (dk_X7_wishedDay 129 _ rfl) (fun x25 => ?_)
    refine F_iadd (dk_X7_wishedDay 130 _ rfl) ?_
    refine F_iald (axM_0_6) (dk_X7_wishedDay 131 _ rfl) (fun x26 => ?_)
    exact F_ret rfl (dk_X7_wishedDay 132 _ rfl)
  refine F_tout (tgt := 133) (by have q0 := fI_ne c2_0; rw [show (1 : Int32).toInt = 1 from by decide] at q0; have q1 := fI_ne c2_1; rw [show (2 : Int32).toInt = 2 from by decide] at q1; have q2 := fI_ne c2_2; rw [show (3 : Int32).toInt = 3 from by decide] at q2; have q3 := fI_ne c2_3; rw [show (4 : Int32).toInt = 4 from by decide] at q3; have q4 := fI_ne c2_4; rw [show (5 : Int32).toInt = 5 from by decide] at q4; have q5 := fI_ne c2_5; rw [show (6 : Int32).toInt = 6 from by decide] at q5; omega) (by decide) (dk_X7_wishedDay 6 _ rfl) ?_
  refine F_aload_n (i := 0) (a := 0) rfl rfl (dk_X7_wishedDay 133 _ rfl) ?_
  refine F_gR (b := 4) fxM_7_6_0 fl_7_29 (dk_X7_wishedDay 134 _ rfl) ?_
  refine F_iload_n (i := 1) (a := 1) rfl rfl (dk_X7_wishedDay 137 _ rfl) ?_
  refine F_iald (axM_0_4) (dk_X7_wishedDay 138 _ rfl) (fun x27 => ?_)
  exact F_ret rfl (dk_X7_wishedDay 139 _ rfl)
def f_X7_sells (m : mM) (p1 : Int32) : fR Int32 :=
  bnd (f_X7_wishedDay m p1) fun (x1 : Int32) (m2 : mM) => bnd (f_X7_lastOf m2 3 99) fun (x4 : Int32) (m5 : mM) => (if x1 = x4 then (rmI (x1 + 1) 12).bind fun x7 => some (x7, m5) else some (x1, m5))
theorem c_X7_sells (m : mM) (p1 : Int32)  : cF false uI m_X7_sells 6 [.ref 0, .int p1] m (f_X7_sells m p1) := by
  refine cF_of ok_X7_sells (fun _ _ => Nat.le_of_ble_eq_true rfl) ?_
  unfold f_X7_sells
  show JF _ _ _ _ _ [(0, .ref 0), (1, .int p1)] _ _ _
  refine F_aload_n (i := 0) (a := 0) rfl rfl (dk_X7_sells 0 _ rfl) ?_
  refine F_iload_n (i := 1) (a := 1) rfl rfl (dk_X7_sells 1 _ rfl) ?_
  refine F_callV (ι' := uI) (ci := 7) (b := 0) (As := [.int p1]) (d' := 5) (rfl) ok_X7_wishedDay vi_X7_wishedDay cl_7_285 (n := 1) (by decide +kernel) rfl rfl rfl (Nat.le_of_ble_eq_true rfl) (by omega) (dk_X7_sells 2 _ rfl) (c_X7_wishedDay _ _ ) (fun x1 m2 => ?_)
  show JF _ _ _ _ _ _ [.int x1] _ _
  refine F_istore_n (lv' := [(2, .int x1), (0, .ref 0), (1, .int p1)]) (i := 2) (a := 2) rfl (by decide) rfl (dk_X7_sells 5 _ rfl) ?_
  refine F_iload_n (i := 2) (a := 2) rfl rfl (dk_X7_sells 6 _ rfl) ?_
  refine F_aload_n (i := 0) (a := 0) rfl rfl (dk_X7_sells 7 _ rfl) ?_
  refine F_iconst (v := 3) (by decide) (dk_X7_sells 8 _ rfl) ?_
  refine F_bipush (v := 99) (by decide) (dk_X7_sells 9 _ rfl) ?_
  refine F_callV (ι' := uI) (ci := 7) (b := 0) (As := [.int 3, .int 99]) (d' := 3) (rfl) ok_X7_lastOf vi_X7_lastOf cl_7_262 (n := 2) (by decide +kernel) rfl rfl rfl (Nat.le_of_ble_eq_true rfl) (by omega) (dk_X7_sells 11 _ rfl) (c_X7_lastOf _ _ _ ) (fun x4 m5 => ?_)
  show JF _ _ _ _ _ _ [.int x4, .int x1] _ _
  refine F_icmp_ne (tgt := 26) (by decide) (dk_X7_sells 14 _ rfl) ?_ ?_
  · refine F_iload_n (i := 2) (a := 2) rfl rfl (dk_X7_sells 26 _ rfl) ?_
    exact F_ret rfl (dk_X7_sells 27 _ rfl)
  · refine F_iload_n (i := 2) (a := 2) rfl rfl (dk_X7_sells 17 _ rfl) ?_
    refine F_iconst (v := 1) (by decide) (dk_X7_sells 18 _ rfl) ?_
    refine F_iadd (dk_X7_sells 19 _ rfl) ?_
    refine F_bipush (v := 12) (by decide) (dk_X7_sells 20 _ rfl) ?_
    refine F_irem (dk_X7_sells 22 _ rfl) (fun x7 => ?_)
    refine F_goto (tgt := 27) (by decide) (dk_X7_sells 23 _ rfl) ?_
    exact F_ret rfl (dk_X7_sells 27 _ rfl)
def f_X7_putOff (m : mM) (p1 : Int32) : fR Int32 :=
  bnd (f_X7_sells m p1) fun (x1 : Int32) (m2 : mM) => (gA (mA m2 4) p1).bind fun x4 => (rmI (((x1 - x4) + 12)) 12).bind fun x5 => some (x5, m2)
theorem c_X7_putOff (m : mM) (p1 : Int32)  : cF false uI m_X7_putOff 7 [.ref 0, .int p1] m (f_X7_putOff m p1) := by
  refine cF_of ok_X7_putOff (fun _ _ => Nat.le_of_ble_eq_true rfl) ?_
  unfold f_X7_putOff
  show JF _ _ _ _ _ [(0, .ref 0), (1, .int p1)] _ _ _
  refine F_aload_n (i := 0) (a := 0) rfl rfl (dk_X7_putOff 0 _ rfl) ?_
  refine F_iload_n (i := 1) (a := 1) rfl rfl (dk_X7_putOff 1 _ rfl) ?_
  refine F_callV (ι' := uI) (ci := 7) (b := 0) (As := [.int p1]) (d' := 6) (rfl) ok_X7_sells vi_X7_sells cl_7_288 (n := 1) (by decide +kernel) rfl rfl rfl (Nat.le_of_ble_eq_true rfl) (by omega) (dk_X7_putOff 2 _ rfl) (c_X7_sells _ _ ) (fun x1 m2 => ?_)
  show JF _ _ _ _ _ _ [.int x1] _ _
  refine F_aload_n (i := 0) (a := 0) rfl rfl (dk_X7_putOff 5 _ rfl) ?_
  refine F_gR (b := 4) fxM_7_6_0 fl_7_29 (dk_X7_putOff 6 _ rfl) ?_
  refine F_iload_n (i := 1) (a := 1) rfl rfl (dk_X7_putOff 9 _ rfl) ?_
  refine F_iald (axM_0_4) (dk_X7_putOff 10 _ rfl) (fun x4 => ?_)
  refine F_isub (dk_X7_putOff 11 _ rfl) ?_
  refine F_bipush (v := 12) (by decide) (dk_X7_putOff 12 _ rfl) ?_
  refine F_iadd (dk_X7_putOff 14 _ rfl) ?_
  refine F_bipush (v := 12) (by decide) (dk_X7_putOff 15 _ rfl) ?_
  refine F_irem (dk_X7_putOff 17 _ rfl) (fun x5 => ?_)
  exact F_ret rfl (dk_X7_putOff 18 _ rfl)
def f_X7_of (m : mM) (p1 : Int32) (p2 : Int32) : fR Int32 :=
  bnd (f_X7_isPerson m p1) fun (x1 : Int32) (m2 : mM) => (if x1 = 0 then some ((-10000001), m2) else (if p2 = 0 then (gA (mA m2 1) p1).bind fun x5 => some (x5, m2) else if p2 = 1 then (gA (mA m2 2) p1).bind fun x6 => some (x6, m2) else if p2 = 2 then (gA (mA m2 3) p1).bind fun x7 => some (x7, m2) else if p2 = 3 then (gA (mA m2 4) p1).bind fun x8 => some (x8, m2) else if p2 = 4 then (gA (mA m2 7) p1).bind fun x9 => (if x9 = 0 then some (0, m2) else some (1, m2)) else if p2 = 5 then bnd (f_X7_sells m2 p1) fun (x10 : Int32) (m11 : mM) => some (x10, m11) else if p2 = 6 then bnd (f_X7_putOff m2 p1) fun (x13 : Int32) (m14 : mM) => some (x13, m14) else if p2 = 7 then bnd (f_X7_sells m2 p1) fun (x16 : Int32) (m17 : mM) => bnd (f_X7_takesOf m17 p1 x16) fun (x19 : Int32) (m20 : mM) => some (x19, m20) else if p2 = 8 then (gA (mA m2 5) p1).bind fun x22 => some (x22, m2) else some ((-10000001), m2)))
theorem c_X7_of (m : mM) (p1 : Int32) (p2 : Int32)  : cF false uI m_X7_of 8 [.ref 0, .int p1, .int p2] m (f_X7_of m p1 p2) := by
  refine cF_of ok_X7_of (fun _ _ => Nat.le_of_ble_eq_true rfl) ?_
  unfold f_X7_of
  show JF _ _ _ _ _ [(0, .ref 0), (1, .int p1), (2, .int p2)] _ _ _
  refine F_aload_n (i := 0) (a := 0) rfl rfl (dk_X7_of 0 _ rfl) ?_
  refine F_iload_n (i := 1) (a := 1) rfl rfl (dk_X7_of 1 _ rfl) ?_
  refine F_callV (ι' := uI) (ci := 7) (b := 0) (As := [.int p1]) (d' := 3) (rfl) ok_X7_isPerson vi_X7_isPerson cl_7_206 (n := 1) (by decide +kernel) rfl rfl rfl (Nat.le_of_ble_eq_true rfl) (by omega) (dk_X7_of 2 _ rfl) (c_X7_isPerson _ _ ) (fun x1 m2 => ?_)
  show JF _ _ _ _ _ _ [.int x1] _ _
  refine F_if_ne (tgt := 12) (by decide) (dk_X7_of 5 _ rfl) ?_ ?_
  · refine F_iload_n (i := 2) (a := 2) rfl rfl (dk_X7_of 12 _ rfl) ?_
    refine F_case (fun c4_0 => ?_) (fun c4_0 => ?_)
    · rw [c4_0]; refine F_tin (off := 51) (tgt := 64) (by decide) (by decide) rfl (by decide) (dk_X7_of 13 _ rfl) ?_
      refine F_aload_n (i := 0) (a := 0) rfl rfl (dk_X7_of 64 _ rfl) ?_
      refine F_gR (b := 1) fxM_7_3_0 fl_7_19 (dk_X7_of 65 _ rfl) ?_
      refine F_iload_n (i := 1) (a := 1) rfl rfl (dk_X7_of 68 _ rfl) ?_
      refine F_iald (axM_0_1) (dk_X7_of 69 _ rfl) (fun x5 => ?_)
      exact F_ret rfl (dk_X7_of 70 _ rfl)
    refine F_case (fun c4_1 => ?_) (fun c4_1 => ?_)
    · rw [c4_1]; refine F_tin (off := 58) (tgt := 71) (by decide) (by decide) rfl (by decide) (dk_X7_of 13 _ rfl) ?_
      refine F_aload_n (i := 0) (a := 0) rfl rfl (dk_X7_of 71 _ rfl) ?_
      refine F_gR (b := 2) fxM_7_4_0 fl_7_23 (dk_X7_of 72 _ rfl) ?_
      refine F_iload_n (i := 1) (a := 1) rfl rfl (dk_X7_of 75 _ rfl) ?_
      refine F_iald (axM_0_2) (dk_X7_of 76 _ rfl) (fun x6 => ?_)
      exact F_ret rfl (dk_X7_of 77 _ rfl)
    refine F_case (fun c4_2 => ?_) (fun c4_2 => ?_)
    · rw [c4_2]; refine F_tin (off := 65) (tgt := 78) (by decide) (by decide) rfl (by decide) (dk_X7_of 13 _ rfl) ?_
      refine F_aload_n (i := 0) (a := 0) rfl rfl (dk_X7_of 78 _ rfl) ?_
      refine F_gR (b := 3) fxM_7_5_0 fl_7_26 (dk_X7_of 79 _ rfl) ?_
      refine F_iload_n (i := 1) (a := 1) rfl rfl (dk_X7_of 82 _ rfl) ?_
      refine F_iald (axM_0_3) (dk_X7_of 83 _ rfl) (fun x7 => ?_)
      exact F_ret rfl (dk_X7_of 84 _ rfl)
    refine F_case (fun c4_3 => ?_) (fun c4_3 => ?_)
    · rw [c4_3]; refine F_tin (off := 72) (tgt := 85) (by decide) (by decide) rfl (by decide) (dk_X7_of 13 _ rfl) ?_
      refine F_aload_n (i := 0) (a := 0) rfl rfl (dk_X7_of 85 _ rfl) ?_
      refine F_gR (b := 4) fxM_7_6_0 fl_7_29 (dk_X7_of 86 _ rfl) ?_
      refine F_iload_n (i := 1) (a := 1) rfl rfl (dk_X7_of 89 _ rfl) ?_
      refine F_iald (axM_0_4) (dk_X7_of 90 _ rfl) (fun x8 => ?_)
      exact F_ret rfl (dk_X7_of 91 _ rfl)
    refine F_case (fun c4_4 => ?_) (fun c4_4 => ?_)
    · rw [c4_4]; refine F_tin (off := 79) (tgt := 92) (by decide) (by decide) rfl (by decide) (dk_X7_of 13 _ rfl) ?_
      refine F_aload_n (i := 0) (a := 0) rfl rfl (dk_X7_of 92 _ rfl) ?_
      refine F_gR (b := 7) fxM_7_9_0 fl_7_38 (dk_X7_of 93 _ rfl) ?_
      refine F_iload_n (i := 1) (a := 1) rfl rfl (dk_X7_of 96 _ rfl) ?_
      refine F_zald (axM_3_7) (dk_X7_of 97 _ rfl) (fun x9 => ?_)
      refine F_if_eq (tgt := 105) (by decide) (dk_X7_of 98 _ rfl) ?_ ?_
      · refine F_iconst (v := 0) (by decide) (dk_X7_of 105 _ rfl) ?_
        exact F_ret rfl (dk_X7_of 106 _ rfl)
      · refine F_iconst (v := 1) (by decide) (dk_X7_of 101 _ rfl) ?_
        refine F_goto (tgt := 106) (by decide) (dk_X7_of 102 _ rfl) ?_
        exact F_ret rfl (dk_X7_of 106 _ rfl)
    refine F_case (fun c4_5 => ?_) (fun c4_5 => ?_)
    · rw [c4_5]; refine F_tin (off := 94) (tgt := 107) (by decide) (by decide) rfl (by decide) (dk_X7_of 13 _ rfl) ?_
      refine F_aload_n (i := 0) (a := 0) rfl rfl (dk_X7_of 107 _ rfl) ?_
      refine F_iload_n (i := 1) (a := 1) rfl rfl (dk_X7_of 108 _ rfl) ?_
      refine F_callV (ι' := uI) (ci := 7) (b := 0) (As := [.int p1]) (d' := 6) (rfl) ok_X7_sells vi_X7_sells cl_7_288 (n := 1) (by decide +kernel) rfl rfl rfl (Nat.le_of_ble_eq_true rfl) (by omega) (dk_X7_of 109 _ rfl) (c_X7_sells _ _ ) (fun x10 m11 => ?_)
      show JF _ _ _ _ _ _ [.int x10] _ _
      exact F_ret rfl (dk_X7_of 112 _ rfl)
    refine F_case (fun c4_6 => ?_) (fun c4_6 => ?_)
    · rw [c4_6]; refine F_tin (off := 100) (tgt := 113) (by decide) (by decide) rfl (by decide) (dk_X7_of 13 _ rfl) ?_
      refine F_aload_n (i := 0) (a := 0) rfl rfl (dk_X7_of 113 _ rfl) ?_
      refine F_iload_n (i := 1) (a := 1) rfl rfl (dk_X7_of 114 _ rfl) ?_
      refine F_callV (ι' := uI) (ci := 7) (b := 0) (As := [.int p1]) (d' := 7) (rfl) ok_X7_putOff vi_X7_putOff cl_7_292 (n := 1) (by decide +kernel) rfl rfl rfl (Nat.le_of_ble_eq_true rfl) (by omega) (dk_X7_of 115 _ rfl) (c_X7_putOff _ _ ) (fun x13 m14 => ?_)
      show JF _ _ _ _ _ _ [.int x13] _ _
      exact F_ret rfl (dk_X7_of 118 _ rfl)
    refine F_case (fun c4_7 => ?_) (fun c4_7 => ?_)
    · rw [c4_7]; refine F_tin (off := 106) (tgt := 119) (by decide) (by decide) rfl (by decide) (dk_X7_of 13 _ rfl) ?_
      refine F_aload_n (i := 0) (a := 0) rfl rfl (dk_X7_of 119 _ rfl) ?_
      refine F_iload_n (i := 1) (a := 1) rfl rfl (dk_X7_of 120 _ rfl) ?_
      refine F_aload_n (i := 0) (a := 0) rfl rfl (dk_X7_of 121 _ rfl) ?_
      refine F_iload_n (i := 1) (a := 1) rfl rfl (dk_X7_of 122 _ rfl) ?_
      refine F_callV (ι' := uI) (ci := 7) (b := 0) (As := [.int p1]) (d' := 6) (rfl) ok_X7_sells vi_X7_sells cl_7_288 (n := 1) (by decide +kernel) rfl rfl rfl (Nat.le_of_ble_eq_true rfl) (by omega) (dk_X7_of 123 _ rfl) (c_X7_sells _ _ ) (fun x16 m17 => ?_)
      show JF _ _ _ _ _ _ [.int x16, .int p1, .ref 0] _ _
      refine F_callV (ι' := uI) (ci := 7) (b := 0) (As := [.int p1, .int x16]) (d' := 5) (rfl) ok_X7_takesOf vi_X7_takesOf cl_7_295 (n := 2) (by decide +kernel) rfl rfl rfl (Nat.le_of_ble_eq_true rfl) (by omega) (dk_X7_of 126 _ rfl) (c_X7_takesOf _ _ _ ) (fun x19 m20 => ?_)
      show JF _ _ _ _ _ _ [.int x19] _ _
      exact F_ret rfl (dk_X7_of 129 _ rfl)
    refine F_case (fun c4_8 => ?_) (fun c4_8 => ?_)
    · rw [c4_8]; refine F_tin (off := 117) (tgt := 130) (by decide) (by decide) rfl (by decide) (dk_X7_of 13 _ rfl) ?_
      refine F_aload_n (i := 0) (a := 0) rfl rfl (dk_X7_of 130 _ rfl) ?_
      refine F_gR (b := 5) fxM_7_7_0 fl_7_32 (dk_X7_of 131 _ rfl) ?_
      refine F_iload_n (i := 1) (a := 1) rfl rfl (dk_X7_of 134 _ rfl) ?_
      refine F_iald (axM_0_5) (dk_X7_of 135 _ rfl) (fun x22 => ?_)
      exact F_ret rfl (dk_X7_of 136 _ rfl)
    refine F_tout (tgt := 137) (by have q0 := fI_ne c4_0; rw [show (0 : Int32).toInt = 0 from by decide] at q0; have q1 := fI_ne c4_1; rw [show (1 : Int32).toInt = 1 from by decide] at q1; have q2 := fI_ne c4_2; rw [show (2 : Int32).toInt = 2 from by decide] at q2; have q3 := fI_ne c4_3; rw [show (3 : Int32).toInt = 3 from by decide] at q3; have q4 := fI_ne c4_4; rw [show (4 : Int32).toInt = 4 from by decide] at q4; have q5 := fI_ne c4_5; rw [show (5 : Int32).toInt = 5 from by decide] at q5; have q6 := fI_ne c4_6; rw [show (6 : Int32).toInt = 6 from by decide] at q6; have q7 := fI_ne c4_7; rw [show (7 : Int32).toInt = 7 from by decide] at q7; have q8 := fI_ne c4_8; rw [show (8 : Int32).toInt = 8 from by decide] at q8; omega) (by decide) (dk_X7_of 13 _ rfl) ?_
    refine F_ldcw (v := (-10000001)) ct_7_291 (dk_X7_of 137 _ rfl) ?_
    exact F_ret rfl (dk_X7_of 140 _ rfl)
  · refine F_ldcw (v := (-10000001)) ct_7_291 (dk_X7_of 8 _ rfl) ?_
    exact F_ret rfl (dk_X7_of 11 _ rfl)
def fb_X7_allPurses_4 (K4 : mM → Int32 → Int32 → fR Int32) (m : mM) (y1 : Int32) (y2 : Int32) : fR Int32 :=
  (if (mI m 0) ≤ y2 then some (y1, m) else (gA (mA m 5) y2).bind fun x1 => nmI (y1 + x1) fun v2 => (K4 m v2 (y2 + 1)))
def f_X7_allPurses_4  : Nat → mM → Int32 → Int32 → fR Int32
  | 0, _, _, _ => none
  | F + 1, m, y1, y2 => fb_X7_allPurses_4  (f_X7_allPurses_4  F) m y1 y2
theorem jb_X7_allPurses_4 (K4 : mM → Int32 → Int32 → fR Int32) (hK4 : ∀ (m : mM) (y1 : Int32) (y2 : Int32) , JF false uI m_X7_allPurses 2 4 [(0, .ref 0), (1, .int y1), (2, .int y2)] [] m (K4 m y1 y2)) (m : mM) (y1 : Int32) (y2 : Int32)  : JF false uI m_X7_allPurses 2 4 [(0, .ref 0), (1, .int y1), (2, .int y2)] [] m (fb_X7_allPurses_4 K4 m y1 y2) := by
  unfold fb_X7_allPurses_4
  refine F_iload_n (i := 2) (a := 2) rfl rfl (dk_X7_allPurses 4 _ rfl) ?_
  refine F_aload_n (i := 0) (a := 0) rfl rfl (dk_X7_allPurses 5 _ rfl) ?_
  refine F_gI (n := 0) fxM_7_0_0 rfl fl_7_7 (dk_X7_allPurses 6 _ rfl) ?_
  refine F_icmp_ge (tgt := 27) (by decide) (dk_X7_allPurses 9 _ rfl) ?_ ?_
  · refine F_iload_n (i := 1) (a := 1) rfl rfl (dk_X7_allPurses 27 _ rfl) ?_
    exact F_ret rfl (dk_X7_allPurses 28 _ rfl)
  · refine F_iload_n (i := 1) (a := 1) rfl rfl (dk_X7_allPurses 12 _ rfl) ?_
    refine F_aload_n (i := 0) (a := 0) rfl rfl (dk_X7_allPurses 13 _ rfl) ?_
    refine F_gR (b := 5) fxM_7_7_0 fl_7_32 (dk_X7_allPurses 14 _ rfl) ?_
    refine F_iload_n (i := 2) (a := 2) rfl rfl (dk_X7_allPurses 17 _ rfl) ?_
    refine F_iald (axM_0_5) (dk_X7_allPurses 18 _ rfl) (fun x1 => ?_)
    refine F_iadd (dk_X7_allPurses 19 _ rfl) ?_
    refine F_nm (fun v2 => ?_)
    refine F_istore_n (lv' := [(1, .int v2), (0, .ref 0), (2, .int y2)]) (i := 1) (a := 1) rfl (by decide) rfl (dk_X7_allPurses 20 _ rfl) ?_
    refine F_iinc (i := 2) (n := 1) (v := (y2 + 1)) (lv' := [(2, .int (y2 + 1)), (1, .int v2), (0, .ref 0)]) rfl (by first | rfl | decide) (by decide) rfl (dk_X7_allPurses 21 _ rfl) ?_
    refine F_goto (tgt := 4) (by decide) (dk_X7_allPurses 24 _ rfl) ?_
    exact F_loc (List.forall_mem_cons.mpr ⟨(.tail _ (.tail _ (.head _))), (List.forall_mem_cons.mpr ⟨(.tail _ (.head _)), (List.forall_mem_cons.mpr ⟨(.head _), (fun _ z => absurd z List.not_mem_nil)⟩)⟩)⟩) (hK4 _ _ _ )
theorem j_X7_allPurses_4   : ∀ (F : Nat) (m : mM) (y1 : Int32) (y2 : Int32) , JF false uI m_X7_allPurses 2 4 [(0, .ref 0), (1, .int y1), (2, .int y2)] [] m (f_X7_allPurses_4  F m y1 y2) := by
  intro F
  induction F with
  | zero => intro m y1 y2 ; exact F_no
  | succ F ih => intro m y1 y2 ; exact jb_X7_allPurses_4  (f_X7_allPurses_4  F)  ih m y1 y2 
def f_X7_allPurses (m : mM)  : fR Int32 :=
  (f_X7_allPurses_4  1000 m 0 0)
theorem c_X7_allPurses (m : mM)   : cF false uI m_X7_allPurses 2 [.ref 0] m (f_X7_allPurses m ) := by
  refine cF_of ok_X7_allPurses (fun _ _ => Nat.le_of_ble_eq_true rfl) ?_
  unfold f_X7_allPurses
  show JF _ _ _ _ _ [(0, .ref 0)] _ _ _
  refine F_iconst (v := 0) (by decide) (dk_X7_allPurses 0 _ rfl) ?_
  refine F_istore_n (lv' := [(1, .int 0), (0, .ref 0)]) (i := 1) (a := 1) rfl (by decide) rfl (dk_X7_allPurses 1 _ rfl) ?_
  refine F_iconst (v := 0) (by decide) (dk_X7_allPurses 2 _ rfl) ?_
  refine F_istore_n (lv' := [(2, .int 0), (1, .int 0), (0, .ref 0)]) (i := 2) (a := 2) rfl (by decide) rfl (dk_X7_allPurses 3 _ rfl) ?_
  exact F_loc (List.forall_mem_cons.mpr ⟨(.tail _ (.tail _ (.head _))), (List.forall_mem_cons.mpr ⟨(.tail _ (.head _)), (List.forall_mem_cons.mpr ⟨(.head _), (fun _ z => absurd z List.not_mem_nil)⟩)⟩)⟩) (j_X7_allPurses_4   1000 _ _ _ )
def fb_X7_bornOn_4 (K4 : mM → Int32 → Int32 → Int32 → fR Int32) (m : mM) (y1 : Int32) (y2 : Int32) (y3 : Int32) : fR Int32 :=
  (if (mI m 0) ≤ y3 then some (y2, m) else (gA (mA m 7) y3).bind fun x1 => (if x1 = 0 then nmI (y2 ||| 0) fun v2 => (K4 m y1 v2 (y3 + 1)) else (gA (mA m 3) y3).bind fun x3 => (if x3 = y1 then nmI ((y2 ||| (1 <<< (y3 &&& 31)))) fun v5 => (K4 m y1 v5 (y3 + 1)) else nmI (y2 ||| 0) fun v4 => (K4 m y1 v4 (y3 + 1)))))
def f_X7_bornOn_4  : Nat → mM → Int32 → Int32 → Int32 → fR Int32
  | 0, _, _, _, _ => none
  | F + 1, m, y1, y2, y3 => fb_X7_bornOn_4  (f_X7_bornOn_4  F) m y1 y2 y3
theorem jb_X7_bornOn_4 (K4 : mM → Int32 → Int32 → Int32 → fR Int32) (hK4 : ∀ (m : mM) (y1 : Int32) (y2 : Int32) (y3 : Int32) , JF false uI m_X7_bornOn 2 4 [(0, .ref 0), (1, .int y1), (2, .int y2), (3, .int y3)] [] m (K4 m y1 y2 y3)) (m : mM) (y1 : Int32) (y2 : Int32) (y3 : Int32)  : JF false uI m_X7_bornOn 2 4 [(0, .ref 0), (1, .int y1), (2, .int y2), (3, .int y3)] [] m (fb_X7_bornOn_4 K4 m y1 y2 y3) := by
  unfold fb_X7_bornOn_4
  refine F_iload_n (i := 3) (a := 3) rfl rfl (dk_X7_bornOn 4 _ rfl) ?_
  refine F_aload_n (i := 0) (a := 0) rfl rfl (dk_X7_bornOn 5 _ rfl) ?_
  refine F_gI (n := 0) fxM_7_0_0 rfl fl_7_7 (dk_X7_bornOn 6 _ rfl) ?_
  refine F_icmp_ge (tgt := 47) (by decide) (dk_X7_bornOn 9 _ rfl) ?_ ?_
  · refine F_iload_n (i := 2) (a := 2) rfl rfl (dk_X7_bornOn 47 _ rfl) ?_
    exact F_ret rfl (dk_X7_bornOn 48 _ rfl)
  · refine F_iload_n (i := 2) (a := 2) rfl rfl (dk_X7_bornOn 12 _ rfl) ?_
    refine F_aload_n (i := 0) (a := 0) rfl rfl (dk_X7_bornOn 13 _ rfl) ?_
    refine F_gR (b := 7) fxM_7_9_0 fl_7_38 (dk_X7_bornOn 14 _ rfl) ?_
    refine F_iload_n (i := 3) (a := 3) rfl rfl (dk_X7_bornOn 17 _ rfl) ?_
    refine F_zald (axM_3_7) (dk_X7_bornOn 18 _ rfl) (fun x1 => ?_)
    refine F_if_eq (tgt := 38) (by decide) (dk_X7_bornOn 19 _ rfl) ?_ ?_
    · refine F_iconst (v := 0) (by decide) (dk_X7_bornOn 38 _ rfl) ?_
      refine F_ior (dk_X7_bornOn 39 _ rfl) ?_
      refine F_nm (fun v2 => ?_)
      refine F_istore_n (lv' := [(2, .int v2), (0, .ref 0), (1, .int y1), (3, .int y3)]) (i := 2) (a := 2) rfl (by decide) rfl (dk_X7_bornOn 40 _ rfl) ?_
      refine F_iinc (i := 3) (n := 1) (v := (y3 + 1)) (lv' := [(3, .int (y3 + 1)), (2, .int v2), (0, .ref 0), (1, .int y1)]) rfl (by first | rfl | decide) (by decide) rfl (dk_X7_bornOn 41 _ rfl) ?_
      refine F_goto (tgt := 4) (by decide) (dk_X7_bornOn 44 _ rfl) ?_
      exact F_loc (List.forall_mem_cons.mpr ⟨(.tail _ (.tail _ (.head _))), (List.forall_mem_cons.mpr ⟨(.tail _ (.tail _ (.tail _ (.head _)))), (List.forall_mem_cons.mpr ⟨(.tail _ (.head _)), (List.forall_mem_cons.mpr ⟨(.head _), (fun _ z => absurd z List.not_mem_nil)⟩)⟩)⟩)⟩) (hK4 _ _ _ _ )
    · refine F_aload_n (i := 0) (a := 0) rfl rfl (dk_X7_bornOn 22 _ rfl) ?_
      refine F_gR (b := 3) fxM_7_5_0 fl_7_26 (dk_X7_bornOn 23 _ rfl) ?_
      refine F_iload_n (i := 3) (a := 3) rfl rfl (dk_X7_bornOn 26 _ rfl) ?_
      refine F_iald (axM_0_3) (dk_X7_bornOn 27 _ rfl) (fun x3 => ?_)
      refine F_iload_n (i := 1) (a := 1) rfl rfl (dk_X7_bornOn 28 _ rfl) ?_
      refine F_icmp_ne (tgt := 38) (by decide) (dk_X7_bornOn 29 _ rfl) ?_ ?_
      · refine F_iconst (v := 0) (by decide) (dk_X7_bornOn 38 _ rfl) ?_
        refine F_ior (dk_X7_bornOn 39 _ rfl) ?_
        refine F_nm (fun v4 => ?_)
        refine F_istore_n (lv' := [(2, .int v4), (0, .ref 0), (1, .int y1), (3, .int y3)]) (i := 2) (a := 2) rfl (by decide) rfl (dk_X7_bornOn 40 _ rfl) ?_
        refine F_iinc (i := 3) (n := 1) (v := (y3 + 1)) (lv' := [(3, .int (y3 + 1)), (2, .int v4), (0, .ref 0), (1, .int y1)]) rfl (by first | rfl | decide) (by decide) rfl (dk_X7_bornOn 41 _ rfl) ?_
        refine F_goto (tgt := 4) (by decide) (dk_X7_bornOn 44 _ rfl) ?_
        exact F_loc (List.forall_mem_cons.mpr ⟨(.tail _ (.tail _ (.head _))), (List.forall_mem_cons.mpr ⟨(.tail _ (.tail _ (.tail _ (.head _)))), (List.forall_mem_cons.mpr ⟨(.tail _ (.head _)), (List.forall_mem_cons.mpr ⟨(.head _), (fun _ z => absurd z List.not_mem_nil)⟩)⟩)⟩)⟩) (hK4 _ _ _ _ )
      · refine F_iconst (v := 1) (by decide) (dk_X7_bornOn 32 _ rfl) ?_
        refine F_iload_n (i := 3) (a := 3) rfl rfl (dk_X7_bornOn 33 _ rfl) ?_
        refine F_ishl (dk_X7_bornOn 34 _ rfl) ?_
        refine F_goto (tgt := 39) (by decide) (dk_X7_bornOn 35 _ rfl) ?_
        refine F_ior (dk_X7_bornOn 39 _ rfl) ?_
        refine F_nm (fun v5 => ?_)
        refine F_istore_n (lv' := [(2, .int v5), (0, .ref 0), (1, .int y1), (3, .int y3)]) (i := 2) (a := 2) rfl (by decide) rfl (dk_X7_bornOn 40 _ rfl) ?_
        refine F_iinc (i := 3) (n := 1) (v := (y3 + 1)) (lv' := [(3, .int (y3 + 1)), (2, .int v5), (0, .ref 0), (1, .int y1)]) rfl (by first | rfl | decide) (by decide) rfl (dk_X7_bornOn 41 _ rfl) ?_
        refine F_goto (tgt := 4) (by decide) (dk_X7_bornOn 44 _ rfl) ?_
        exact F_loc (List.forall_mem_cons.mpr ⟨(.tail _ (.tail _ (.head _))), (List.forall_mem_cons.mpr ⟨(.tail _ (.tail _ (.tail _ (.head _)))), (List.forall_mem_cons.mpr ⟨(.tail _ (.head _)), (List.forall_mem_cons.mpr ⟨(.head _), (fun _ z => absurd z List.not_mem_nil)⟩)⟩)⟩)⟩) (hK4 _ _ _ _ )
theorem j_X7_bornOn_4   : ∀ (F : Nat) (m : mM) (y1 : Int32) (y2 : Int32) (y3 : Int32) , JF false uI m_X7_bornOn 2 4 [(0, .ref 0), (1, .int y1), (2, .int y2), (3, .int y3)] [] m (f_X7_bornOn_4  F m y1 y2 y3) := by
  intro F
  induction F with
  | zero => intro m y1 y2 y3 ; exact F_no
  | succ F ih => intro m y1 y2 y3 ; exact jb_X7_bornOn_4  (f_X7_bornOn_4  F)  ih m y1 y2 y3 
def f_X7_bornOn (m : mM) (p1 : Int32) : fR Int32 :=
  (f_X7_bornOn_4  1000 m p1 0 0)
theorem c_X7_bornOn (m : mM) (p1 : Int32)  : cF false uI m_X7_bornOn 2 [.ref 0, .int p1] m (f_X7_bornOn m p1) := by
  refine cF_of ok_X7_bornOn (fun _ _ => Nat.le_of_ble_eq_true rfl) ?_
  unfold f_X7_bornOn
  show JF _ _ _ _ _ [(0, .ref 0), (1, .int p1)] _ _ _
  refine F_iconst (v := 0) (by decide) (dk_X7_bornOn 0 _ rfl) ?_
  refine F_istore_n (lv' := [(2, .int 0), (0, .ref 0), (1, .int p1)]) (i := 2) (a := 2) rfl (by decide) rfl (dk_X7_bornOn 1 _ rfl) ?_
  refine F_iconst (v := 0) (by decide) (dk_X7_bornOn 2 _ rfl) ?_
  refine F_istore_n (lv' := [(3, .int 0), (2, .int 0), (0, .ref 0), (1, .int p1)]) (i := 3) (a := 3) rfl (by decide) rfl (dk_X7_bornOn 3 _ rfl) ?_
  exact F_loc (List.forall_mem_cons.mpr ⟨(.tail _ (.tail _ (.head _))), (List.forall_mem_cons.mpr ⟨(.tail _ (.tail _ (.tail _ (.head _)))), (List.forall_mem_cons.mpr ⟨(.tail _ (.head _)), (List.forall_mem_cons.mpr ⟨(.head _), (fun _ z => absurd z List.not_mem_nil)⟩)⟩)⟩)⟩) (j_X7_bornOn_4   1000 _ _ _ _ )
def fb_X7_sellOn_4 (K4 : mM → Int32 → Int32 → Int32 → fR Int32) (m : mM) (y1 : Int32) (y2 : Int32) (y3 : Int32) : fR Int32 :=
  (if (mI m 0) ≤ y3 then some (y2, m) else (gA (mA m 7) y3).bind fun x1 => (if x1 = 0 then nmI (y2 ||| 0) fun v2 => (K4 m y1 v2 (y3 + 1)) else bnd (f_X7_sells m y3) fun (x3 : Int32) (m4 : mM) => (if x3 = y1 then nmI ((y2 ||| (1 <<< (y3 &&& 31)))) fun v7 => (K4 m4 y1 v7 (y3 + 1)) else nmI (y2 ||| 0) fun v6 => (K4 m4 y1 v6 (y3 + 1)))))
def f_X7_sellOn_4  : Nat → mM → Int32 → Int32 → Int32 → fR Int32
  | 0, _, _, _, _ => none
  | F + 1, m, y1, y2, y3 => fb_X7_sellOn_4  (f_X7_sellOn_4  F) m y1 y2 y3
theorem jb_X7_sellOn_4 (K4 : mM → Int32 → Int32 → Int32 → fR Int32) (hK4 : ∀ (m : mM) (y1 : Int32) (y2 : Int32) (y3 : Int32) , JF false uI m_X7_sellOn 7 4 [(0, .ref 0), (1, .int y1), (2, .int y2), (3, .int y3)] [] m (K4 m y1 y2 y3)) (m : mM) (y1 : Int32) (y2 : Int32) (y3 : Int32)  : JF false uI m_X7_sellOn 7 4 [(0, .ref 0), (1, .int y1), (2, .int y2), (3, .int y3)] [] m (fb_X7_sellOn_4 K4 m y1 y2 y3) := by
  unfold fb_X7_sellOn_4
  refine F_iload_n (i := 3) (a := 3) rfl rfl (dk_X7_sellOn 4 _ rfl) ?_
  refine F_aload_n (i := 0) (a := 0) rfl rfl (dk_X7_sellOn 5 _ rfl) ?_
  refine F_gI (n := 0) fxM_7_0_0 rfl fl_7_7 (dk_X7_sellOn 6 _ rfl) ?_
  refine F_icmp_ge (tgt := 46) (by decide) (dk_X7_sellOn 9 _ rfl) ?_ ?_
  · refine F_iload_n (i := 2) (a := 2) rfl rfl (dk_X7_sellOn 46 _ rfl) ?_
    exact F_ret rfl (dk_X7_sellOn 47 _ rfl)
  · refine F_iload_n (i := 2) (a := 2) rfl rfl (dk_X7_sellOn 12 _ rfl) ?_
    refine F_aload_n (i := 0) (a := 0) rfl rfl (dk_X7_sellOn 13 _ rfl) ?_
    refine F_gR (b := 7) fxM_7_9_0 fl_7_38 (dk_X7_sellOn 14 _ rfl) ?_
    refine F_iload_n (i := 3) (a := 3) rfl rfl (dk_X7_sellOn 17 _ rfl) ?_
    refine F_zald (axM_3_7) (dk_X7_sellOn 18 _ rfl) (fun x1 => ?_)
    refine F_if_eq (tgt := 37) (by decide) (dk_X7_sellOn 19 _ rfl) ?_ ?_
    · refine F_iconst (v := 0) (by decide) (dk_X7_sellOn 37 _ rfl) ?_
      refine F_ior (dk_X7_sellOn 38 _ rfl) ?_
      refine F_nm (fun v2 => ?_)
      refine F_istore_n (lv' := [(2, .int v2), (0, .ref 0), (1, .int y1), (3, .int y3)]) (i := 2) (a := 2) rfl (by decide) rfl (dk_X7_sellOn 39 _ rfl) ?_
      refine F_iinc (i := 3) (n := 1) (v := (y3 + 1)) (lv' := [(3, .int (y3 + 1)), (2, .int v2), (0, .ref 0), (1, .int y1)]) rfl (by first | rfl | decide) (by decide) rfl (dk_X7_sellOn 40 _ rfl) ?_
      refine F_goto (tgt := 4) (by decide) (dk_X7_sellOn 43 _ rfl) ?_
      exact F_loc (List.forall_mem_cons.mpr ⟨(.tail _ (.tail _ (.head _))), (List.forall_mem_cons.mpr ⟨(.tail _ (.tail _ (.tail _ (.head _)))), (List.forall_mem_cons.mpr ⟨(.tail _ (.head _)), (List.forall_mem_cons.mpr ⟨(.head _), (fun _ z => absurd z List.not_mem_nil)⟩)⟩)⟩)⟩) (hK4 _ _ _ _ )
    · refine F_aload_n (i := 0) (a := 0) rfl rfl (dk_X7_sellOn 22 _ rfl) ?_
      refine F_iload_n (i := 3) (a := 3) rfl rfl (dk_X7_sellOn 23 _ rfl) ?_
      refine F_callV (ι' := uI) (ci := 7) (b := 0) (As := [.int y3]) (d' := 6) (rfl) ok_X7_sells vi_X7_sells cl_7_288 (n := 1) (by decide +kernel) rfl rfl rfl (Nat.le_of_ble_eq_true rfl) (by omega) (dk_X7_sellOn 24 _ rfl) (c_X7_sells _ _ ) (fun x3 m4 => ?_)
      show JF _ _ _ _ _ _ [.int x3, .int y2] _ _
      refine F_iload_n (i := 1) (a := 1) rfl rfl (dk_X7_sellOn 27 _ rfl) ?_
      refine F_icmp_ne (tgt := 37) (by decide) (dk_X7_sellOn 28 _ rfl) ?_ ?_
      · refine F_iconst (v := 0) (by decide) (dk_X7_sellOn 37 _ rfl) ?_
        refine F_ior (dk_X7_sellOn 38 _ rfl) ?_
        refine F_nm (fun v6 => ?_)
        refine F_istore_n (lv' := [(2, .int v6), (0, .ref 0), (1, .int y1), (3, .int y3)]) (i := 2) (a := 2) rfl (by decide) rfl (dk_X7_sellOn 39 _ rfl) ?_
        refine F_iinc (i := 3) (n := 1) (v := (y3 + 1)) (lv' := [(3, .int (y3 + 1)), (2, .int v6), (0, .ref 0), (1, .int y1)]) rfl (by first | rfl | decide) (by decide) rfl (dk_X7_sellOn 40 _ rfl) ?_
        refine F_goto (tgt := 4) (by decide) (dk_X7_sellOn 43 _ rfl) ?_
        exact F_loc (List.forall_mem_cons.mpr ⟨(.tail _ (.tail _ (.head _))), (List.forall_mem_cons.mpr ⟨(.tail _ (.tail _ (.tail _ (.head _)))), (List.forall_mem_cons.mpr ⟨(.tail _ (.head _)), (List.forall_mem_cons.mpr ⟨(.head _), (fun _ z => absurd z List.not_mem_nil)⟩)⟩)⟩)⟩) (hK4 _ _ _ _ )
      · refine F_iconst (v := 1) (by decide) (dk_X7_sellOn 31 _ rfl) ?_
        refine F_iload_n (i := 3) (a := 3) rfl rfl (dk_X7_sellOn 32 _ rfl) ?_
        refine F_ishl (dk_X7_sellOn 33 _ rfl) ?_
        refine F_goto (tgt := 38) (by decide) (dk_X7_sellOn 34 _ rfl) ?_
        refine F_ior (dk_X7_sellOn 38 _ rfl) ?_
        refine F_nm (fun v7 => ?_)
        refine F_istore_n (lv' := [(2, .int v7), (0, .ref 0), (1, .int y1), (3, .int y3)]) (i := 2) (a := 2) rfl (by decide) rfl (dk_X7_sellOn 39 _ rfl) ?_
        refine F_iinc (i := 3) (n := 1) (v := (y3 + 1)) (lv' := [(3, .int (y3 + 1)), (2, .int v7), (0, .ref 0), (1, .int y1)]) rfl (by first | rfl | decide) (by decide) rfl (dk_X7_sellOn 40 _ rfl) ?_
        refine F_goto (tgt := 4) (by decide) (dk_X7_sellOn 43 _ rfl) ?_
        exact F_loc (List.forall_mem_cons.mpr ⟨(.tail _ (.tail _ (.head _))), (List.forall_mem_cons.mpr ⟨(.tail _ (.tail _ (.tail _ (.head _)))), (List.forall_mem_cons.mpr ⟨(.tail _ (.head _)), (List.forall_mem_cons.mpr ⟨(.head _), (fun _ z => absurd z List.not_mem_nil)⟩)⟩)⟩)⟩) (hK4 _ _ _ _ )
theorem j_X7_sellOn_4   : ∀ (F : Nat) (m : mM) (y1 : Int32) (y2 : Int32) (y3 : Int32) , JF false uI m_X7_sellOn 7 4 [(0, .ref 0), (1, .int y1), (2, .int y2), (3, .int y3)] [] m (f_X7_sellOn_4  F m y1 y2 y3) := by
  intro F
  induction F with
  | zero => intro m y1 y2 y3 ; exact F_no
  | succ F ih => intro m y1 y2 y3 ; exact jb_X7_sellOn_4  (f_X7_sellOn_4  F)  ih m y1 y2 y3 
def f_X7_sellOn (m : mM) (p1 : Int32) : fR Int32 :=
  (f_X7_sellOn_4  1000 m p1 0 0)
theorem c_X7_sellOn (m : mM) (p1 : Int32)  : cF false uI m_X7_sellOn 7 [.ref 0, .int p1] m (f_X7_sellOn m p1) := by
  refine cF_of ok_X7_sellOn (fun _ _ => Nat.le_of_ble_eq_true rfl) ?_
  unfold f_X7_sellOn
  show JF _ _ _ _ _ [(0, .ref 0), (1, .int p1)] _ _ _
  refine F_iconst (v := 0) (by decide) (dk_X7_sellOn 0 _ rfl) ?_
  refine F_istore_n (lv' := [(2, .int 0), (0, .ref 0), (1, .int p1)]) (i := 2) (a := 2) rfl (by decide) rfl (dk_X7_sellOn 1 _ rfl) ?_
  refine F_iconst (v := 0) (by decide) (dk_X7_sellOn 2 _ rfl) ?_
  refine F_istore_n (lv' := [(3, .int 0), (2, .int 0), (0, .ref 0), (1, .int p1)]) (i := 3) (a := 3) rfl (by decide) rfl (dk_X7_sellOn 3 _ rfl) ?_
  exact F_loc (List.forall_mem_cons.mpr ⟨(.tail _ (.tail _ (.head _))), (List.forall_mem_cons.mpr ⟨(.tail _ (.tail _ (.tail _ (.head _)))), (List.forall_mem_cons.mpr ⟨(.tail _ (.head _)), (List.forall_mem_cons.mpr ⟨(.head _), (fun _ z => absurd z List.not_mem_nil)⟩)⟩)⟩)⟩) (j_X7_sellOn_4   1000 _ _ _ _ )
def f_X7_told (m : mM) (p1 : Int32) : fR Int32 :=
  bnd (f_X7_in m p1 10 21) fun (x1 : Int32) (m2 : mM) => (if x1 = 0 then bnd (f_X7_in m2 p1 30 41) fun (x4 : Int32) (m5 : mM) => (if x4 = 0 then (if p1 = 0 then bnd (f_X7_dueNow m5 ) fun (x8 : Int32) (m9 : mM) => some (x8, m9) else if p1 = 1 then bnd (f_X7_lastOf m5 2 1) fun (x11 : Int32) (m12 : mM) => some (x11, m12) else if p1 = 2 then bnd (f_X7_lastOf m5 3 99) fun (x14 : Int32) (m15 : mM) => some (x14, m15) else if p1 = 3 then some ((mI m5 1), m5) else if p1 = 4 then some ((mI m5 2), m5) else if p1 = 5 then bnd (f_X7_allPurses m5 ) fun (x17 : Int32) (m18 : mM) => some (x17, m18) else some ((-10000001), m5)) else bnd (f_X7_sellOn m5 (p1 - 30)) fun (x20 : Int32) (m21 : mM) => some (x20, m21)) else bnd (f_X7_bornOn m2 (p1 - 10)) fun (x23 : Int32) (m24 : mM) => some (x23, m24))
theorem c_X7_told (m : mM) (p1 : Int32)  : cF false uI m_X7_told 8 [.ref 0, .int p1] m (f_X7_told m p1) := by
  refine cF_of ok_X7_told (fun _ _ => Nat.le_of_ble_eq_true rfl) ?_
  unfold f_X7_told
  show JF _ _ _ _ _ [(0, .ref 0), (1, .int p1)] _ _ _
  refine F_aload_n (i := 0) (a := 0) rfl rfl (dk_X7_told 0 _ rfl) ?_
  refine F_iload_n (i := 1) (a := 1) rfl rfl (dk_X7_told 1 _ rfl) ?_
  refine F_bipush (v := 10) (by decide) (dk_X7_told 2 _ rfl) ?_
  refine F_bipush (v := 21) (by decide) (dk_X7_told 4 _ rfl) ?_
  refine F_callV (ι' := uI) (ci := 7) (b := 0) (As := [.int p1, .int 10, .int 21]) (d' := 2) (rfl) ok_X7_in vi_X7_in cl_7_194 (n := 3) (by decide +kernel) rfl rfl rfl (Nat.le_of_ble_eq_true rfl) (by omega) (dk_X7_told 6 _ rfl) (c_X7_in _ _ _ _ ) (fun x1 m2 => ?_)
  show JF _ _ _ _ _ _ [.int x1] _ _
  refine F_if_eq (tgt := 21) (by decide) (dk_X7_told 9 _ rfl) ?_ ?_
  · refine F_aload_n (i := 0) (a := 0) rfl rfl (dk_X7_told 21 _ rfl) ?_
    refine F_iload_n (i := 1) (a := 1) rfl rfl (dk_X7_told 22 _ rfl) ?_
    refine F_bipush (v := 30) (by decide) (dk_X7_told 23 _ rfl) ?_
    refine F_bipush (v := 41) (by decide) (dk_X7_told 25 _ rfl) ?_
    refine F_callV (ι' := uI) (ci := 7) (b := 0) (As := [.int p1, .int 30, .int 41]) (d' := 2) (rfl) ok_X7_in vi_X7_in cl_7_194 (n := 3) (by decide +kernel) rfl rfl rfl (Nat.le_of_ble_eq_true rfl) (by omega) (dk_X7_told 27 _ rfl) (c_X7_in _ _ _ _ ) (fun x4 m5 => ?_)
    show JF _ _ _ _ _ _ [.int x4] _ _
    refine F_if_eq (tgt := 42) (by decide) (dk_X7_told 30 _ rfl) ?_ ?_
    · refine F_iload_n (i := 1) (a := 1) rfl rfl (dk_X7_told 42 _ rfl) ?_
      refine F_case (fun c7_0 => ?_) (fun c7_0 => ?_)
      · rw [c7_0]; refine F_tin (off := 37) (tgt := 80) (by decide) (by decide) rfl (by decide) (dk_X7_told 43 _ rfl) ?_
        refine F_aload_n (i := 0) (a := 0) rfl rfl (dk_X7_told 80 _ rfl) ?_
        refine F_callV (ι' := uI) (ci := 7) (b := 0) (As := []) (d' := 4) (rfl) ok_X7_dueNow vi_X7_dueNow cl_7_304 (n := 0) (by decide +kernel) rfl rfl rfl (Nat.le_of_ble_eq_true rfl) (by omega) (dk_X7_told 81 _ rfl) (c_X7_dueNow _  ) (fun x8 m9 => ?_)
        show JF _ _ _ _ _ _ [.int x8] _ _
        exact F_ret rfl (dk_X7_told 84 _ rfl)
      refine F_case (fun c7_1 => ?_) (fun c7_1 => ?_)
      · rw [c7_1]; refine F_tin (off := 42) (tgt := 85) (by decide) (by decide) rfl (by decide) (dk_X7_told 43 _ rfl) ?_
        refine F_aload_n (i := 0) (a := 0) rfl rfl (dk_X7_told 85 _ rfl) ?_
        refine F_iconst (v := 2) (by decide) (dk_X7_told 86 _ rfl) ?_
        refine F_iconst (v := 1) (by decide) (dk_X7_told 87 _ rfl) ?_
        refine F_callV (ι' := uI) (ci := 7) (b := 0) (As := [.int 2, .int 1]) (d' := 3) (rfl) ok_X7_lastOf vi_X7_lastOf cl_7_262 (n := 2) (by decide +kernel) rfl rfl rfl (Nat.le_of_ble_eq_true rfl) (by omega) (dk_X7_told 88 _ rfl) (c_X7_lastOf _ _ _ ) (fun x11 m12 => ?_)
        show JF _ _ _ _ _ _ [.int x11] _ _
        exact F_ret rfl (dk_X7_told 91 _ rfl)
      refine F_case (fun c7_2 => ?_) (fun c7_2 => ?_)
      · rw [c7_2]; refine F_tin (off := 49) (tgt := 92) (by decide) (by decide) rfl (by decide) (dk_X7_told 43 _ rfl) ?_
        refine F_aload_n (i := 0) (a := 0) rfl rfl (dk_X7_told 92 _ rfl) ?_
        refine F_iconst (v := 3) (by decide) (dk_X7_told 93 _ rfl) ?_
        refine F_bipush (v := 99) (by decide) (dk_X7_told 94 _ rfl) ?_
        refine F_callV (ι' := uI) (ci := 7) (b := 0) (As := [.int 3, .int 99]) (d' := 3) (rfl) ok_X7_lastOf vi_X7_lastOf cl_7_262 (n := 2) (by decide +kernel) rfl rfl rfl (Nat.le_of_ble_eq_true rfl) (by omega) (dk_X7_told 96 _ rfl) (c_X7_lastOf _ _ _ ) (fun x14 m15 => ?_)
        show JF _ _ _ _ _ _ [.int x14] _ _
        exact F_ret rfl (dk_X7_told 99 _ rfl)
      refine F_case (fun c7_3 => ?_) (fun c7_3 => ?_)
      · rw [c7_3]; refine F_tin (off := 57) (tgt := 100) (by decide) (by decide) rfl (by decide) (dk_X7_told 43 _ rfl) ?_
        refine F_aload_n (i := 0) (a := 0) rfl rfl (dk_X7_told 100 _ rfl) ?_
        refine F_gI (n := 1) fxM_7_1_0 rfl fl_7_13 (dk_X7_told 101 _ rfl) ?_
        exact F_ret rfl (dk_X7_told 104 _ rfl)
      refine F_case (fun c7_4 => ?_) (fun c7_4 => ?_)
      · rw [c7_4]; refine F_tin (off := 62) (tgt := 105) (by decide) (by decide) rfl (by decide) (dk_X7_told 43 _ rfl) ?_
        refine F_aload_n (i := 0) (a := 0) rfl rfl (dk_X7_told 105 _ rfl) ?_
        refine F_gI (n := 2) fxM_7_2_0 rfl fl_7_16 (dk_X7_told 106 _ rfl) ?_
        exact F_ret rfl (dk_X7_told 109 _ rfl)
      refine F_case (fun c7_5 => ?_) (fun c7_5 => ?_)
      · rw [c7_5]; refine F_tin (off := 67) (tgt := 110) (by decide) (by decide) rfl (by decide) (dk_X7_told 43 _ rfl) ?_
        refine F_aload_n (i := 0) (a := 0) rfl rfl (dk_X7_told 110 _ rfl) ?_
        refine F_callV (ι' := uI) (ci := 7) (b := 0) (As := []) (d' := 2) (rfl) ok_X7_allPurses vi_X7_allPurses cl_7_307 (n := 0) (by decide +kernel) rfl rfl rfl (Nat.le_of_ble_eq_true rfl) (by omega) (dk_X7_told 111 _ rfl) (c_X7_allPurses _  ) (fun x17 m18 => ?_)
        show JF _ _ _ _ _ _ [.int x17] _ _
        exact F_ret rfl (dk_X7_told 114 _ rfl)
      refine F_tout (tgt := 115) (by have q0 := fI_ne c7_0; rw [show (0 : Int32).toInt = 0 from by decide] at q0; have q1 := fI_ne c7_1; rw [show (1 : Int32).toInt = 1 from by decide] at q1; have q2 := fI_ne c7_2; rw [show (2 : Int32).toInt = 2 from by decide] at q2; have q3 := fI_ne c7_3; rw [show (3 : Int32).toInt = 3 from by decide] at q3; have q4 := fI_ne c7_4; rw [show (4 : Int32).toInt = 4 from by decide] at q4; have q5 := fI_ne c7_5; rw [show (5 : Int32).toInt = 5 from by decide] at q5; omega) (by decide) (dk_X7_told 43 _ rfl) ?_
      refine F_ldcw (v := (-10000001)) ct_7_291 (dk_X7_told 115 _ rfl) ?_
      exact F_ret rfl (dk_X7_told 118 _ rfl)
    · refine F_aload_n (i := 0) (a := 0) rfl rfl (dk_X7_told 33 _ rfl) ?_
      refine F_iload_n (i := 1) (a := 1) rfl rfl (dk_X7_told 34 _ rfl) ?_
      refine F_bipush (v := 30) (by decide) (dk_X7_told 35 _ rfl) ?_
      refine F_isub (dk_X7_told 37 _ rfl) ?_
      refine F_callV (ι' := uI) (ci := 7) (b := 0) (As := [.int (p1 - 30)]) (d' := 7) (rfl) ok_X7_sellOn vi_X7_sellOn cl_7_301 (n := 1) (by decide +kernel) rfl rfl rfl (Nat.le_of_ble_eq_true rfl) (by omega) (dk_X7_told 38 _ rfl) (c_X7_sellOn _ _ ) (fun x20 m21 => ?_)
      show JF _ _ _ _ _ _ [.int x20] _ _
      exact F_ret rfl (dk_X7_told 41 _ rfl)
  · refine F_aload_n (i := 0) (a := 0) rfl rfl (dk_X7_told 12 _ rfl) ?_
    refine F_iload_n (i := 1) (a := 1) rfl rfl (dk_X7_told 13 _ rfl) ?_
    refine F_bipush (v := 10) (by decide) (dk_X7_told 14 _ rfl) ?_
    refine F_isub (dk_X7_told 16 _ rfl) ?_
    refine F_callV (ι' := uI) (ci := 7) (b := 0) (As := [.int (p1 - 10)]) (d' := 2) (rfl) ok_X7_bornOn vi_X7_bornOn cl_7_298 (n := 1) (by decide +kernel) rfl rfl rfl (Nat.le_of_ble_eq_true rfl) (by omega) (dk_X7_told 17 _ rfl) (c_X7_bornOn _ _ ) (fun x23 m24 => ?_)
    show JF _ _ _ _ _ _ [.int x23] _ _
    exact F_ret rfl (dk_X7_told 20 _ rfl)
end
