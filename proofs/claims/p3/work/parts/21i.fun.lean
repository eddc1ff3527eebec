section
set_option maxRecDepth 100000
def f_X7_feed (m : mM) (p1 : Int32) : fR Int32 :=
  bnd (f_X7_in m p1 0 127) fun (x1 : Int32) (m2 : mM) => (if x1 = 0 then some ((-2), m2) else (if (mI m2 12) = 100 then some ((-4), m2) else (sA 0 m2 8 (mI m2 12) p1).bind fun m4 => nmM (wI m4 12 (((mI m4 12) + 1))) fun m5 => some ((mI m5 12), m5)))
theorem c_X7_feed (m : mM) (p1 : Int32)  : cF false uI m_X7_feed 3 [.ref 0, .int p1] m (f_X7_feed m p1) := by
  refine cF_of ok_X7_feed (fun _ _ => Nat.le_of_ble_eq_true rfl) ?_
  unfold f_X7_feed
  show JF _ _ _ _ _ [(0, .ref 0), (1, .int p1)] _ _ _
  refine F_aload_n (i := 0) (a := 0) rfl rfl (dk_X7_feed 0 _ rfl) ?_
  refine F_iload_n (i := 1) (a := 1) rfl rfl (dk_X7_feed 1 _ rfl) ?_
  refine F_iconst (v := 0) (by decide) (dk_X7_feed 2 _ rfl) ?_
  refine F_bipush (v := 127) (by decide) (dk_X7_feed 3 _ rfl) ?_
  refine F_callV (ι' := uI) (ci := 7) (b := 0) (As := [.int p1, .int 0, .int 127]) (d' := 2) (rfl) ok_X7_in vi_X7_in cl_7_194 (n := 3) (by decide +kernel) rfl rfl rfl (Nat.le_of_ble_eq_true rfl) (by omega) (dk_X7_feed 5 _ rfl) (c_X7_in _ _ _ _ ) (fun x1 m2 => ?_)
  show JF _ _ _ _ _ _ [.int x1] _ _
  refine F_if_ne (tgt := 14) (by decide) (dk_X7_feed 8 _ rfl) ?_ ?_
  · refine F_aload_n (i := 0) (a := 0) rfl rfl (dk_X7_feed 14 _ rfl) ?_
    refine F_gI (n := 12) fxM_7_12_0 rfl fl_7_48 (dk_X7_feed 15 _ rfl) ?_
    refine F_bipush (v := 100) (by decide) (dk_X7_feed 18 _ rfl) ?_
    refine F_icmp_ne (tgt := 26) (by decide) (dk_X7_feed 20 _ rfl) ?_ ?_
    · refine F_aload_n (i := 0) (a := 0) rfl rfl (dk_X7_feed 26 _ rfl) ?_
      refine F_gR (b := 8) fxM_7_15_0 fl_7_57 (dk_X7_feed 27 _ rfl) ?_
      refine F_aload_n (i := 0) (a := 0) rfl rfl (dk_X7_feed 30 _ rfl) ?_
      refine F_gI (n := 12) fxM_7_12_0 rfl fl_7_48 (dk_X7_feed 31 _ rfl) ?_
      refine F_iload_n (i := 1) (a := 1) rfl rfl (dk_X7_feed 34 _ rfl) ?_
      refine F_iast (axM_0_8) (dk_X7_feed 35 _ rfl) (fun m4 => ?_)
      refine F_aload_n (i := 0) (a := 0) rfl rfl (dk_X7_feed 36 _ rfl) ?_
      refine F_dup rfl (dk_X7_feed 37 _ rfl) ?_
      refine F_gI (n := 12) fxM_7_12_0 rfl fl_7_48 (dk_X7_feed 38 _ rfl) ?_
      refine F_iconst (v := 1) (by decide) (dk_X7_feed 41 _ rfl) ?_
      refine F_iadd (dk_X7_feed 42 _ rfl) ?_
      refine F_pI (n := 12) fxM_7_12_0 rfl fl_7_48 (fun q hq => by cases hq; rfl) trivial (dk_X7_feed 43 _ rfl) (fun m5 => ?_)
      refine F_aload_n (i := 0) (a := 0) rfl rfl (dk_X7_feed 46 _ rfl) ?_
      refine F_gI (n := 12) fxM_7_12_0 rfl fl_7_48 (dk_X7_feed 47 _ rfl) ?_
      exact F_ret rfl (dk_X7_feed 50 _ rfl)
    · refine F_bipush (v := (-4)) (by decide) (dk_X7_feed 23 _ rfl) ?_
      exact F_ret rfl (dk_X7_feed 25 _ rfl)
  · refine F_bipush (v := (-2)) (by decide) (dk_X7_feed 11 _ rfl) ?_
    exact F_ret rfl (dk_X7_feed 13 _ rfl)
def f_X7_next (m : mM)  : fR Int32 :=
  (if (mI m 12) ≤ (mI m 13) then some ((-1), m) else (gA (mA m 8) (mI m 13)).bind fun x1 => some (x1, m))
theorem c_X7_next (m : mM)   : cF false uI m_X7_next 2 [.ref 0] m (f_X7_next m ) := by
  refine cF_of ok_X7_next (fun _ _ => Nat.le_of_ble_eq_true rfl) ?_
  unfold f_X7_next
  show JF _ _ _ _ _ [(0, .ref 0)] _ _ _
  refine F_aload_n (i := 0) (a := 0) rfl rfl (dk_X7_next 0 _ rfl) ?_
  refine F_gI (n := 13) fxM_7_13_0 rfl fl_7_51 (dk_X7_next 1 _ rfl) ?_
  refine F_aload_n (i := 0) (a := 0) rfl rfl (dk_X7_next 4 _ rfl) ?_
  refine F_gI (n := 12) fxM_7_12_0 rfl fl_7_48 (dk_X7_next 5 _ rfl) ?_
  refine F_icmp_ge (tgt := 23) (by decide) (dk_X7_next 8 _ rfl) ?_ ?_
  · refine F_iconst (v := (-1)) (by decide) (dk_X7_next 23 _ rfl) ?_
    exact F_ret rfl (dk_X7_next 24 _ rfl)
  · refine F_aload_n (i := 0) (a := 0) rfl rfl (dk_X7_next 11 _ rfl) ?_
    refine F_gR (b := 8) fxM_7_15_0 fl_7_57 (dk_X7_next 12 _ rfl) ?_
    refine F_aload_n (i := 0) (a := 0) rfl rfl (dk_X7_next 15 _ rfl) ?_
    refine F_gI (n := 13) fxM_7_13_0 rfl fl_7_51 (dk_X7_next 16 _ rfl) ?_
    refine F_iald (axM_0_8) (dk_X7_next 19 _ rfl) (fun x1 => ?_)
    refine F_goto (tgt := 24) (by decide) (dk_X7_next 20 _ rfl) ?_
    exact F_ret rfl (dk_X7_next 24 _ rfl)
def f_X7_takes (m : mM) (p1 : Int32) : fR Int32 :=
  bnd (f_X7_next m ) fun (x1 : Int32) (m2 : mM) => (if x1 = p1 then nmM (wI m2 13 (((mI m2 13) + 1))) fun m4 => some (1, m4) else some (0, m2))
theorem c_X7_takes (m : mM) (p1 : Int32)  : cF false uI m_X7_takes 3 [.ref 0, .int p1] m (f_X7_takes m p1) := by
  refine cF_of ok_X7_takes (fun _ _ => Nat.le_of_ble_eq_true rfl) ?_
  unfold f_X7_takes
  show JF _ _ _ _ _ [(0, .ref 0), (1, .int p1)] _ _ _
  refine F_aload_n (i := 0) (a := 0) rfl rfl (dk_X7_takes 0 _ rfl) ?_
  refine F_callV (ι' := uI) (ci := 7) (b := 0) (As := []) (d' := 2) (rfl) ok_X7_next vi_X7_next cl_7_209 (n := 0) (by decide +kernel) rfl rfl rfl (Nat.le_of_ble_eq_true rfl) (by omega) (dk_X7_takes 1 _ rfl) (c_X7_next _  ) (fun x1 m2 => ?_)
  show JF _ _ _ _ _ _ [.int x1] _ _
  refine F_iload_n (i := 1) (a := 1) rfl rfl (dk_X7_takes 4 _ rfl) ?_
  refine F_icmp_eq (tgt := 10) (by decide) (dk_X7_takes 5 _ rfl) ?_ ?_
  · refine F_aload_n (i := 0) (a := 0) rfl rfl (dk_X7_takes 10 _ rfl) ?_
    refine F_dup rfl (dk_X7_takes 11 _ rfl) ?_
    refine F_gI (n := 13) fxM_7_13_0 rfl fl_7_51 (dk_X7_takes 12 _ rfl) ?_
    refine F_iconst (v := 1) (by decide) (dk_X7_takes 15 _ rfl) ?_
    refine F_iadd (dk_X7_takes 16 _ rfl) ?_
    refine F_pI (n := 13) fxM_7_13_0 rfl fl_7_51 (fun q hq => by cases hq; rfl) trivial (dk_X7_takes 17 _ rfl) (fun m4 => ?_)
    refine F_iconst (v := 1) (by decide) (dk_X7_takes 20 _ rfl) ?_
    exact F_retB rfl (Or.inr rfl) (dk_X7_takes 21 _ rfl)
  · refine F_iconst (v := 0) (by decide) (dk_X7_takes 8 _ rfl) ?_
    exact F_retB rfl (Or.inl rfl) (dk_X7_takes 9 _ rfl)
def fb_X7_takesWord_2 (K2 : mM → Int32 → Int32 → Int32 → fR Int32) (m : mM) (y1 : Int32) (y2 : Int32) (y3 : Int32) : fR Int32 :=
  (if y2 ≤ y3 then bnd (f_X7_takes m 32) fun (x1 : Int32) (m2 : mM) => chZ x1 (some (x1, m2)) else (gA (mA m 16) (y1 + y3)).bind fun x4 => bnd (f_X7_takes m x4) fun (x5 : Int32) (m6 : mM) => (if x5 = 0 then some (0, m6) else (K2 m6 y1 y2 (y3 + 1))))
def f_X7_takesWord_2  : Nat → mM → Int32 → Int32 → Int32 → fR Int32
  | 0, _, _, _, _ => none
  | F + 1, m, y1, y2, y3 => fb_X7_takesWord_2  (f_X7_takesWord_2  F) m y1 y2 y3
theorem jb_X7_takesWord_2 (K2 : mM → Int32 → Int32 → Int32 → fR Int32) (hK2 : ∀ (m : mM) (y1 : Int32) (y2 : Int32) (y3 : Int32) , JF false uI m_X7_takesWord 4 2 [(0, .ref 0), (1, .int y1), (2, .int y2), (3, .int y3)] [] m (K2 m y1 y2 y3)) (m : mM) (y1 : Int32) (y2 : Int32) (y3 : Int32)  : JF false uI m_X7_takesWord 4 2 [(0, .ref 0), (1, .int y1), (2, .int y2), (3, .int y3)] [] m (fb_X7_takesWord_2 K2 m y1 y2 y3) := by
  unfold fb_X7_takesWord_2
  refine F_iload_n (i := 3) (a := 3) rfl rfl (dk_X7_takesWord 2 _ rfl) ?_
  refine F_iload_n (i := 2) (a := 2) rfl rfl (dk_X7_takesWord 3 _ rfl) ?_
  refine F_icmp_ge (tgt := 30) (by decide) (dk_X7_takesWord 4 _ rfl) ?_ ?_
  · refine F_aload_n (i := 0) (a := 0) rfl rfl (dk_X7_takesWord 30 _ rfl) ?_
    refine F_bipush (v := 32) (by decide) (dk_X7_takesWord 31 _ rfl) ?_
    refine F_callV (ι' := uI) (ci := 7) (b := 0) (As := [.int 32]) (d' := 3) (rfl) ok_X7_takes vi_X7_takes cl_7_213 (n := 1) (by decide +kernel) rfl rfl rfl (Nat.le_of_ble_eq_true rfl) (by omega) (dk_X7_takesWord 33 _ rfl) (c_X7_takes _ _ ) (fun x1 m2 => ?_)
    show JF _ _ _ _ _ _ [.int x1] _ _
    exact F_retZ rfl (dk_X7_takesWord 36 _ rfl)
  · refine F_aload_n (i := 0) (a := 0) rfl rfl (dk_X7_takesWord 7 _ rfl) ?_
    refine F_aload_n (i := 0) (a := 0) rfl rfl (dk_X7_takesWord 8 _ rfl) ?_
    refine F_gR (b := 16) fxM_7_26_0 fl_7_90 (dk_X7_takesWord 9 _ rfl) ?_
    refine F_iload_n (i := 1) (a := 1) rfl rfl (dk_X7_takesWord 12 _ rfl) ?_
    refine F_iload_n (i := 3) (a := 3) rfl rfl (dk_X7_takesWord 13 _ rfl) ?_
    refine F_iadd (dk_X7_takesWord 14 _ rfl) ?_
    refine F_iald (axM_0_16) (dk_X7_takesWord 15 _ rfl) (fun x4 => ?_)
    refine F_callV (ι' := uI) (ci := 7) (b := 0) (As := [.int x4]) (d' := 3) (rfl) ok_X7_takes vi_X7_takes cl_7_213 (n := 1) (by decide +kernel) rfl rfl rfl (Nat.le_of_ble_eq_true rfl) (by omega) (dk_X7_takesWord 16 _ rfl) (c_X7_takes _ _ ) (fun x5 m6 => ?_)
    show JF _ _ _ _ _ _ [.int x5] _ _
    refine F_if_ne (tgt := 24) (by decide) (dk_X7_takesWord 19 _ rfl) ?_ ?_
    · refine F_iinc (i := 3) (n := 1) (v := (y3 + 1)) (lv' := [(3, .int (y3 + 1)), (0, .ref 0), (1, .int y1), (2, .int y2)]) rfl (by first | rfl | decide) (by decide) rfl (dk_X7_takesWord 24 _ rfl) ?_
      refine F_goto (tgt := 2) (by decide) (dk_X7_takesWord 27 _ rfl) ?_
      exact F_loc (List.forall_mem_cons.mpr ⟨(.tail _ (.head _)), (List.forall_mem_cons.mpr ⟨(.tail _ (.tail _ (.head _))), (List.forall_mem_cons.mpr ⟨(.tail _ (.tail _ (.tail _ (.head _)))), (List.forall_mem_cons.mpr ⟨(.head _), (fun _ z => absurd z List.not_mem_nil)⟩)⟩)⟩)⟩) (hK2 _ _ _ _ )
    · refine F_iconst (v := 0) (by decide) (dk_X7_takesWord 22 _ rfl) ?_
      exact F_retB rfl (Or.inl rfl) (dk_X7_takesWord 23 _ rfl)
theorem j_X7_takesWord_2   : ∀ (F : Nat) (m : mM) (y1 : Int32) (y2 : Int32) (y3 : Int32) , JF false uI m_X7_takesWord 4 2 [(0, .ref 0), (1, .int y1), (2, .int y2), (3, .int y3)] [] m (f_X7_takesWord_2  F m y1 y2 y3) := by
  intro F
  induction F with
  | zero => intro m y1 y2 y3 ; exact F_no
  | succ F ih => intro m y1 y2 y3 ; exact jb_X7_takesWord_2  (f_X7_takesWord_2  F)  ih m y1 y2 y3 
def f_X7_takesWord (m : mM) (p1 : Int32) (p2 : Int32) : fR Int32 :=
  (f_X7_takesWord_2  1000 m p1 p2 0)
theorem c_X7_takesWord (m : mM) (p1 : Int32) (p2 : Int32)  : cF false uI m_X7_takesWord 4 [.ref 0, .int p1, .int p2] m (f_X7_takesWord m p1 p2) := by
  refine cF_of ok_X7_takesWord (fun _ _ => Nat.le_of_ble_eq_true rfl) ?_
  unfold f_X7_takesWord
  show JF _ _ _ _ _ [(0, .ref 0), (1, .int p1), (2, .int p2)] _ _ _
  refine F_iconst (v := 0) (by decide) (dk_X7_takesWord 0 _ rfl) ?_
  refine F_istore_n (lv' := [(3, .int 0), (0, .ref 0), (1, .int p1), (2, .int p2)]) (i := 3) (a := 3) rfl (by decide) rfl (dk_X7_takesWord 1 _ rfl) ?_
  exact F_loc (List.forall_mem_cons.mpr ⟨(.tail _ (.head _)), (List.forall_mem_cons.mpr ⟨(.tail _ (.tail _ (.head _))), (List.forall_mem_cons.mpr ⟨(.tail _ (.tail _ (.tail _ (.head _)))), (List.forall_mem_cons.mpr ⟨(.head _), (fun _ z => absurd z List.not_mem_nil)⟩)⟩)⟩)⟩) (j_X7_takesWord_2   1000 _ _ _ _ )
def f_X7_isDigit (m : mM)  : fR Int32 :=
  bnd (f_X7_next m ) fun (x1 : Int32) (m2 : mM) => bnd (f_X7_in m2 x1 48 57) fun (x4 : Int32) (m5 : mM) => chZ x4 (some (x4, m5))
theorem c_X7_isDigit (m : mM)   : cF false uI m_X7_isDigit 3 [.ref 0] m (f_X7_isDigit m ) := by
  refine cF_of ok_X7_isDigit (fun _ _ => Nat.le_of_ble_eq_true rfl) ?_
  unfold f_X7_isDigit
  show JF _ _ _ _ _ [(0, .ref 0)] _ _ _
  refine F_aload_n (i := 0) (a := 0) rfl rfl (dk_X7_isDigit 0 _ rfl) ?_
  refine F_aload_n (i := 0) (a := 0) rfl rfl (dk_X7_isDigit 1 _ rfl) ?_
  refine F_callV (ι' := uI) (ci := 7) (b := 0) (As := []) (d' := 2) (rfl) ok_X7_next vi_X7_next cl_7_209 (n := 0) (by decide +kernel) rfl rfl rfl (Nat.le_of_ble_eq_true rfl) (by omega) (dk_X7_isDigit 2 _ rfl) (c_X7_next _  ) (fun x1 m2 => ?_)
  show JF _ _ _ _ _ _ [.int x1, .ref 0] _ _
  refine F_bipush (v := 48) (by decide) (dk_X7_isDigit 5 _ rfl) ?_
  refine F_bipush (v := 57) (by decide) (dk_X7_isDigit 7 _ rfl) ?_
  refine F_callV (ι' := uI) (ci := 7) (b := 0) (As := [.int x1, .int 48, .int 57]) (d' := 2) (rfl) ok_X7_in vi_X7_in cl_7_194 (n := 3) (by decide +kernel) rfl rfl rfl (Nat.le_of_ble_eq_true rfl) (by omega) (dk_X7_isDigit 9 _ rfl) (c_X7_in _ _ _ _ ) (fun x4 m5 => ?_)
  show JF _ _ _ _ _ _ [.int x4] _ _
  exact F_retZ rfl (dk_X7_isDigit 12 _ rfl)
def fb_X7_takesNumber_16 (K16 : mM → Int32 → fR Int32) (m : mM) (y1 : Int32) : fR Int32 :=
  (if 2 ≤ y1 then some (1, m) else bnd (f_X7_isDigit m ) fun (x5 : Int32) (m6 : mM) => (if x5 = 0 then some (1, m6) else bnd (f_X7_next m6 ) fun (x8 : Int32) (m9 : mM) => nmM (wI m9 14 ((((10 * (mI m6 14)) + x8) - 48))) fun m11 => nmM (wI m11 13 (((mI m11 13) + 1))) fun m12 => (K16 m12 (y1 + 1))))
def f_X7_takesNumber_16  : Nat → mM → Int32 → fR Int32
  | 0, _, _ => none
  | F + 1, m, y1 => fb_X7_takesNumber_16  (f_X7_takesNumber_16  F) m y1
theorem jb_X7_takesNumber_16 (K16 : mM → Int32 → fR Int32) (hK16 : ∀ (m : mM) (y1 : Int32) , JF false uI m_X7_takesNumber 4 16 [(0, .ref 0), (1, .int y1)] [] m (K16 m y1)) (m : mM) (y1 : Int32)  : JF false uI m_X7_takesNumber 4 16 [(0, .ref 0), (1, .int y1)] [] m (fb_X7_takesNumber_16 K16 m y1) := by
  unfold fb_X7_takesNumber_16
  refine F_iload_n (i := 1) (a := 1) rfl rfl (dk_X7_takesNumber 16 _ rfl) ?_
  refine F_iconst (v := 2) (by decide) (dk_X7_takesNumber 17 _ rfl) ?_
  refine F_icmp_ge (tgt := 63) (by decide) (dk_X7_takesNumber 18 _ rfl) ?_ ?_
  · refine F_iconst (v := 1) (by decide) (dk_X7_takesNumber 63 _ rfl) ?_
    exact F_retB rfl (Or.inr rfl) (dk_X7_takesNumber 64 _ rfl)
  · refine F_aload_n (i := 0) (a := 0) rfl rfl (dk_X7_takesNumber 21 _ rfl) ?_
    refine F_callV (ι' := uI) (ci := 7) (b := 0) (As := []) (d' := 3) (rfl) ok_X7_isDigit vi_X7_isDigit cl_7_216 (n := 0) (by decide +kernel) rfl rfl rfl (Nat.le_of_ble_eq_true rfl) (by omega) (dk_X7_takesNumber 22 _ rfl) (c_X7_isDigit _  ) (fun x5 m6 => ?_)
    show JF _ _ _ _ _ _ [.int x5] _ _
    refine F_if_eq (tgt := 63) (by decide) (dk_X7_takesNumber 25 _ rfl) ?_ ?_
    · refine F_iconst (v := 1) (by decide) (dk_X7_takesNumber 63 _ rfl) ?_
      exact F_retB rfl (Or.inr rfl) (dk_X7_takesNumber 64 _ rfl)
    · refine F_aload_n (i := 0) (a := 0) rfl rfl (dk_X7_takesNumber 28 _ rfl) ?_
      refine F_bipush (v := 10) (by decide) (dk_X7_takesNumber 29 _ rfl) ?_
      refine F_aload_n (i := 0) (a := 0) rfl rfl (dk_X7_takesNumber 31 _ rfl) ?_
      refine F_gI (n := 14) fxM_7_14_0 rfl fl_7_54 (dk_X7_takesNumber 32 _ rfl) ?_
      refine F_imul (dk_X7_takesNumber 35 _ rfl) ?_
      refine F_aload_n (i := 0) (a := 0) rfl rfl (dk_X7_takesNumber 36 _ rfl) ?_
      refine F_callV (ι' := uI) (ci := 7) (b := 0) (As := []) (d' := 2) (rfl) ok_X7_next vi_X7_next cl_7_209 (n := 0) (by decide +kernel) rfl rfl rfl (Nat.le_of_ble_eq_true rfl) (by omega) (dk_X7_takesNumber 37 _ rfl) (c_X7_next _  ) (fun x8 m9 => ?_)
      show JF _ _ _ _ _ _ [.int x8, .int (10 * (mI m6 14)), .ref 0] _ _
      refine F_iadd (dk_X7_takesNumber 40 _ rfl) ?_
      refine F_bipush (v := 48) (by decide) (dk_X7_takesNumber 41 _ rfl) ?_
      refine F_isub (dk_X7_takesNumber 43 _ rfl) ?_
      refine F_pI (n := 14) fxM_7_14_0 rfl fl_7_54 (fun q hq => by cases hq; rfl) trivial (dk_X7_takesNumber 44 _ rfl) (fun m11 => ?_)
      refine F_aload_n (i := 0) (a := 0) rfl rfl (dk_X7_takesNumber 47 _ rfl) ?_
      refine F_dup rfl (dk_X7_takesNumber 48 _ rfl) ?_
      refine F_gI (n := 13) fxM_7_13_0 rfl fl_7_51 (dk_X7_takesNumber 49 _ rfl) ?_
      refine F_iconst (v := 1) (by decide) (dk_X7_takesNumber 52 _ rfl) ?_
      refine F_iadd (dk_X7_takesNumber 53 _ rfl) ?_
      refine F_pI (n := 13) fxM_7_13_0 rfl fl_7_51 (fun q hq => by cases hq; rfl) trivial (dk_X7_takesNumber 54 _ rfl) (fun m12 => ?_)
      refine F_iinc (i := 1) (n := 1) (v := (y1 + 1)) (lv' := [(1, .int (y1 + 1)), (0, .ref 0)]) rfl (by first | rfl | decide) (by decide) rfl (dk_X7_takesNumber 57 _ rfl) ?_
      refine F_goto (tgt := 16) (by decide) (dk_X7_takesNumber 60 _ rfl) ?_
      exact F_loc (List.forall_mem_cons.mpr ⟨(.tail _ (.head _)), (List.forall_mem_cons.mpr ⟨(.head _), (fun _ z => absurd z List.not_mem_nil)⟩)⟩) (hK16 _ _ )
theorem j_X7_takesNumber_16   : ∀ (F : Nat) (m : mM) (y1 : Int32) , JF false uI m_X7_takesNumber 4 16 [(0, .ref 0), (1, .int y1)] [] m (f_X7_takesNumber_16  F m y1) := by
  intro F
  induction F with
  | zero => intro m y1 ; exact F_no
  | succ F ih => intro m y1 ; exact jb_X7_takesNumber_16  (f_X7_takesNumber_16  F)  ih m y1 
def f_X7_takesNumber (m : mM)  : fR Int32 :=
  bnd (f_X7_isDigit m ) fun (x1 : Int32) (m2 : mM) => (if x1 = 0 then some (0, m2) else nmM (wI m2 14 0) fun m4 => (f_X7_takesNumber_16  1000 m4 0))
theorem c_X7_takesNumber (m : mM)   : cF false uI m_X7_takesNumber 4 [.ref 0] m (f_X7_takesNumber m ) := by
  refine cF_of ok_X7_takesNumber (fun _ _ => Nat.le_of_ble_eq_true rfl) ?_
  unfold f_X7_takesNumber
  show JF _ _ _ _ _ [(0, .ref 0)] _ _ _
  refine F_aload_n (i := 0) (a := 0) rfl rfl (dk_X7_takesNumber 0 _ rfl) ?_
  refine F_callV (ι' := uI) (ci := 7) (b := 0) (As := []) (d' := 3) (rfl) ok_X7_isDigit vi_X7_isDigit cl_7_216 (n := 0) (by decide +kernel) rfl rfl rfl (Nat.le_of_ble_eq_true rfl) (by omega) (dk_X7_takesNumber 1 _ rfl) (c_X7_isDigit _  ) (fun x1 m2 => ?_)
  show JF _ _ _ _ _ _ [.int x1] _ _
  refine F_if_ne (tgt := 9) (by decide) (dk_X7_takesNumber 4 _ rfl) ?_ ?_
  · refine F_aload_n (i := 0) (a := 0) rfl rfl (dk_X7_takesNumber 9 _ rfl) ?_
    refine F_iconst (v := 0) (by decide) (dk_X7_takesNumber 10 _ rfl) ?_
    refine F_pI (n := 14) fxM_7_14_0 rfl fl_7_54 (fun q hq => by cases hq; rfl) trivial (dk_X7_takesNumber 11 _ rfl) (fun m4 => ?_)
    refine F_iconst (v := 0) (by decide) (dk_X7_takesNumber 14 _ rfl) ?_
    refine F_istore_n (lv' := [(1, .int 0), (0, .ref 0)]) (i := 1) (a := 1) rfl (by decide) rfl (dk_X7_takesNumber 15 _ rfl) ?_
    exact F_loc (List.forall_mem_cons.mpr ⟨(.tail _ (.head _)), (List.forall_mem_cons.mpr ⟨(.head _), (fun _ z => absurd z List.not_mem_nil)⟩)⟩) (j_X7_takesNumber_16   1000 _ _ )
  · refine F_iconst (v := 0) (by decide) (dk_X7_takesNumber 7 _ rfl) ?_
    exact F_retB rfl (Or.inl rfl) (dk_X7_takesNumber 8 _ rfl)
def f_X7_emits (m : mM) (p1 : Int32) : fR Unit :=
  (sA 0 m 14 (mI m 23) p1).bind fun m1 => nmM (wI m1 23 (((mI m1 23) + 1))) fun m2 => some ((), m2)
theorem c_X7_emits (m : mM) (p1 : Int32)  : cF false uU m_X7_emits 2 [.ref 0, .int p1] m (f_X7_emits m p1) := by
  refine cF_of ok_X7_emits (fun _ _ => Nat.le_of_ble_eq_true rfl) ?_
  unfold f_X7_emits
  show JF _ _ _ _ _ [(0, .ref 0), (1, .int p1)] _ _ _
  refine F_aload_n (i := 0) (a := 0) rfl rfl (dk_X7_emits 0 _ rfl) ?_
  refine F_gR (b := 14) fxM_7_21_0 fl_7_75 (dk_X7_emits 1 _ rfl) ?_
  refine F_aload_n (i := 0) (a := 0) rfl rfl (dk_X7_emits 4 _ rfl) ?_
  refine F_gI (n := 23) fxM_7_23_0 rfl fl_7_81 (dk_X7_emits 5 _ rfl) ?_
  refine F_iload_n (i := 1) (a := 1) rfl rfl (dk_X7_emits 8 _ rfl) ?_
  refine F_iast (axM_0_14) (dk_X7_emits 9 _ rfl) (fun m1 => ?_)
  refine F_aload_n (i := 0) (a := 0) rfl rfl (dk_X7_emits 10 _ rfl) ?_
  refine F_dup rfl (dk_X7_emits 11 _ rfl) ?_
  refine F_gI (n := 23) fxM_7_23_0 rfl fl_7_81 (dk_X7_emits 12 _ rfl) ?_
  refine F_iconst (v := 1) (by decide) (dk_X7_emits 15 _ rfl) ?_
  refine F_iadd (dk_X7_emits 16 _ rfl) ?_
  refine F_pI (n := 23) fxM_7_23_0 rfl fl_7_81 (fun q hq => by cases hq; rfl) trivial (dk_X7_emits 17 _ rfl) (fun m2 => ?_)
  exact F_retV rfl (dk_X7_emits 20 _ rfl)
def fb_X7_whole_0 (K0 : mM → fR Unit) (m : mM)  : fR Unit :=
  (if (mI m 24) ≤ 0 then some ((), m) else (gA (mA m 15) (((mI m 24) - 1))).bind fun x1 => (if x1 = 33 then bnd (f_X7_emits m (-33)) fun (x2 : Unit) (m3 : mM) => nmM (wI m3 24 (((mI m3 24) - 1))) fun m5 => nmM (wI m5 25 (((mI m5 25) - 1))) fun m6 => (K0 m6 ) else some ((), m)))
def f_X7_whole_0  : Nat → mM → fR Unit
  | 0, _ => none
  | F + 1, m => fb_X7_whole_0  (f_X7_whole_0  F) m 
theorem jb_X7_whole_0 (K0 : mM → fR Unit) (hK0 : ∀ (m : mM)  , JF false uU m_X7_whole 3 0 [(0, .ref 0)] [] m (K0 m )) (m : mM)   : JF false uU m_X7_whole 3 0 [(0, .ref 0)] [] m (fb_X7_whole_0 K0 m ) := by
  unfold fb_X7_whole_0
  refine F_aload_n (i := 0) (a := 0) rfl rfl (dk_X7_whole 0 _ rfl) ?_
  refine F_gI (n := 24) fxM_7_24_0 rfl fl_7_84 (dk_X7_whole 1 _ rfl) ?_
  refine F_if_le (tgt := 52) (by decide) (dk_X7_whole 4 _ rfl) ?_ ?_
  · exact F_retV rfl (dk_X7_whole 52 _ rfl)
  · refine F_aload_n (i := 0) (a := 0) rfl rfl (dk_X7_whole 7 _ rfl) ?_
    refine F_gR (b := 15) fxM_7_22_0 fl_7_78 (dk_X7_whole 8 _ rfl) ?_
    refine F_aload_n (i := 0) (a := 0) rfl rfl (dk_X7_whole 11 _ rfl) ?_
    refine F_gI (n := 24) fxM_7_24_0 rfl fl_7_84 (dk_X7_whole 12 _ rfl) ?_
    refine F_iconst (v := 1) (by decide) (dk_X7_whole 15 _ rfl) ?_
    refine F_isub (dk_X7_whole 16 _ rfl) ?_
    refine F_iald (axM_0_15) (dk_X7_whole 17 _ rfl) (fun x1 => ?_)
    refine F_bipush (v := 33) (by decide) (dk_X7_whole 18 _ rfl) ?_
    refine F_icmp_ne (tgt := 52) (by decide) (dk_X7_whole 20 _ rfl) ?_ ?_
    · exact F_retV rfl (dk_X7_whole 52 _ rfl)
    · refine F_aload_n (i := 0) (a := 0) rfl rfl (dk_X7_whole 23 _ rfl) ?_
      refine F_bipush (v := (-33)) (by decide) (dk_X7_whole 24 _ rfl) ?_
      refine F_callV (ι' := uU) (ci := 7) (b := 0) (As := [.int (-33)]) (d' := 2) (rfl) ok_X7_emits vi_X7_emits cl_7_220 (n := 1) (by decide +kernel) rfl rfl rfl (Nat.le_of_ble_eq_true rfl) (by omega) (dk_X7_whole 26 _ rfl) (c_X7_emits _ _ ) (fun x2 m3 => ?_)
      show JF _ _ _ _ _ _ [] _ _
      refine F_aload_n (i := 0) (a := 0) rfl rfl (dk_X7_whole 29 _ rfl) ?_
      refine F_dup rfl (dk_X7_whole 30 _ rfl) ?_
      refine F_gI (n := 24) fxM_7_24_0 rfl fl_7_84 (dk_X7_whole 31 _ rfl) ?_
      refine F_iconst (v := 1) (by decide) (dk_X7_whole 34 _ rfl) ?_
      refine F_isub (dk_X7_whole 35 _ rfl) ?_
      refine F_pI (n := 24) fxM_7_24_0 rfl fl_7_84 (fun q hq => by cases hq; rfl) trivial (dk_X7_whole 36 _ rfl) (fun m5 => ?_)
      refine F_aload_n (i := 0) (a := 0) rfl rfl (dk_X7_whole 39 _ rfl) ?_
      refine F_dup rfl (dk_X7_whole 40 _ rfl) ?_
      refine F_gI (n := 25) fxM_7_25_0 rfl fl_7_87 (dk_X7_whole 41 _ rfl) ?_
      refine F_iconst (v := 1) (by decide) (dk_X7_whole 44 _ rfl) ?_
      refine F_isub (dk_X7_whole 45 _ rfl) ?_
      refine F_pI (n := 25) fxM_7_25_0 rfl fl_7_87 (fun q hq => by cases hq; rfl) trivial (dk_X7_whole 46 _ rfl) (fun m6 => ?_)
      refine F_goto (tgt := 0) (by decide) (dk_X7_whole 49 _ rfl) ?_
      exact F_loc (fun _ z => z) (hK0 _  )
theorem j_X7_whole_0   : ∀ (F : Nat) (m : mM)  , JF false uU m_X7_whole 3 0 [(0, .ref 0)] [] m (f_X7_whole_0  F m ) := by
  intro F
  induction F with
  | zero => intro m  ; exact F_no
  | succ F ih => intro m  ; exact jb_X7_whole_0  (f_X7_whole_0  F)  ih m  
def f_X7_whole (m : mM)  : fR Unit :=
  (f_X7_whole_0  1000 m )
theorem c_X7_whole (m : mM)   : cF false uU m_X7_whole 3 [.ref 0] m (f_X7_whole m ) := by
  refine cF_of ok_X7_whole (fun _ _ => Nat.le_of_ble_eq_true rfl) ?_
  unfold f_X7_whole
  show JF _ _ _ _ _ [(0, .ref 0)] _ _ _
  exact F_loc (fun _ z => z) (j_X7_whole_0   1000 _  )
def f_X7_settle_45 (K0 : mM → Int32 → fR Unit) (m : mM) (y1 : Int32) : fR Unit :=
  nmM (wI m 24 (((mI m 24) - 1))) fun m2 => (gA (mA m2 15) (mI m2 24)).bind fun x3 => bnd (f_X7_emits m2 (-x3)) fun (x4 : Unit) (m5 : mM) => (K0 m5 y1)
theorem j_X7_settle_45 (K0 : mM → Int32 → fR Unit) (hK0 : ∀ (m : mM) (y1 : Int32) , JF false uU m_X7_settle 3 0 [(0, .ref 0), (1, .int y1)] [] m (K0 m y1)) (m : mM) (y1 : Int32)  : JF false uU m_X7_settle 3 45 [(0, .ref 0), (1, .int y1)] [] m (f_X7_settle_45 K0 m y1) := by
  unfold f_X7_settle_45
  refine F_aload_n (i := 0) (a := 0) rfl rfl (dk_X7_settle 45 _ rfl) ?_
  refine F_dup rfl (dk_X7_settle 46 _ rfl) ?_
  refine F_gI (n := 24) fxM_7_24_0 rfl fl_7_84 (dk_X7_settle 47 _ rfl) ?_
  refine F_iconst (v := 1) (by decide) (dk_X7_settle 50 _ rfl) ?_
  refine F_isub (dk_X7_settle 51 _ rfl) ?_
  refine F_pI (n := 24) fxM_7_24_0 rfl fl_7_84 (fun q hq => by cases hq; rfl) trivial (dk_X7_settle 52 _ rfl) (fun m2 => ?_)
  refine F_aload_n (i := 0) (a := 0) rfl rfl (dk_X7_settle 55 _ rfl) ?_
  refine F_aload_n (i := 0) (a := 0) rfl rfl (dk_X7_settle 56 _ rfl) ?_
  refine F_gR (b := 15) fxM_7_22_0 fl_7_78 (dk_X7_settle 57 _ rfl) ?_
  refine F_aload_n (i := 0) (a := 0) rfl rfl (dk_X7_settle 60 _ rfl) ?_
  refine F_gI (n := 24) fxM_7_24_0 rfl fl_7_84 (dk_X7_settle 61 _ rfl) ?_
  refine F_iald (axM_0_15) (dk_X7_settle 64 _ rfl) (fun x3 => ?_)
  refine F_ineg (dk_X7_settle 65 _ rfl) ?_
  refine F_callV (ι' := uU) (ci := 7) (b := 0) (As := [.int (-x3)]) (d' := 2) (rfl) ok_X7_emits vi_X7_emits cl_7_220 (n := 1) (by decide +kernel) rfl rfl rfl (Nat.le_of_ble_eq_true rfl) (by omega) (dk_X7_settle 66 _ rfl) (c_X7_emits _ _ ) (fun x4 m5 => ?_)
  show JF _ _ _ _ _ _ [] _ _
  refine F_goto (tgt := 0) (by decide) (dk_X7_settle 69 _ rfl) ?_
  exact F_loc (fun _ z => z) (hK0 _ _ )
def fb_X7_settle_0 (K0 : mM → Int32 → fR Unit) (m : mM) (y1 : Int32) : fR Unit :=
  (if (mI m 24) ≤ 0 then some ((), m) else (gA (mA m 15) (((mI m 24) - 1))).bind fun x1 => (if x1 = 38 then (f_X7_settle_45 K0 m y1) else (gA (mA m 15) (((mI m 24) - 1))).bind fun x7 => (if x7 = 124 then (if y1 = 38 then some ((), m) else (f_X7_settle_45 K0 m y1)) else some ((), m))))
def f_X7_settle_0  : Nat → mM → Int32 → fR Unit
  | 0, _, _ => none
  | F + 1, m, y1 => fb_X7_settle_0  (f_X7_settle_0  F) m y1
theorem jb_X7_settle_0 (K0 : mM → Int32 → fR Unit) (hK0 : ∀ (m : mM) (y1 : Int32) , JF false uU m_X7_settle 3 0 [(0, .ref 0), (1, .int y1)] [] m (K0 m y1)) (m : mM) (y1 : Int32)  : JF false uU m_X7_settle 3 0 [(0, .ref 0), (1, .int y1)] [] m (fb_X7_settle_0 K0 m y1) := by
  unfold fb_X7_settle_0
  refine F_aload_n (i := 0) (a := 0) rfl rfl (dk_X7_settle 0 _ rfl) ?_
  refine F_gI (n := 24) fxM_7_24_0 rfl fl_7_84 (dk_X7_settle 1 _ rfl) ?_
  refine F_if_le (tgt := 72) (by decide) (dk_X7_settle 4 _ rfl) ?_ ?_
  · exact F_retV rfl (dk_X7_settle 72 _ rfl)
  · refine F_aload_n (i := 0) (a := 0) rfl rfl (dk_X7_settle 7 _ rfl) ?_
    refine F_gR (b := 15) fxM_7_22_0 fl_7_78 (dk_X7_settle 8 _ rfl) ?_
    refine F_aload_n (i := 0) (a := 0) rfl rfl (dk_X7_settle 11 _ rfl) ?_
    refine F_gI (n := 24) fxM_7_24_0 rfl fl_7_84 (dk_X7_settle 12 _ rfl) ?_
    refine F_iconst (v := 1) (by decide) (dk_X7_settle 15 _ rfl) ?_
    refine F_isub (dk_X7_settle 16 _ rfl) ?_
    refine F_iald (axM_0_15) (dk_X7_settle 17 _ rfl) (fun x1 => ?_)
    refine F_bipush (v := 38) (by decide) (dk_X7_settle 18 _ rfl) ?_
    refine F_icmp_eq (tgt := 45) (by decide) (dk_X7_settle 20 _ rfl) ?_ ?_
    · exact F_loc (fun _ z => z) (j_X7_settle_45 K0 hK0 _ _ )
    · refine F_aload_n (i := 0) (a := 0) rfl rfl (dk_X7_settle 23 _ rfl) ?_
      refine F_gR (b := 15) fxM_7_22_0 fl_7_78 (dk_X7_settle 24 _ rfl) ?_
      refine F_aload_n (i := 0) (a := 0) rfl rfl (dk_X7_settle 27 _ rfl) ?_
      refine F_gI (n := 24) fxM_7_24_0 rfl fl_7_84 (dk_X7_settle 28 _ rfl) ?_
      refine F_iconst (v := 1) (by decide) (dk_X7_settle 31 _ rfl) ?_
      refine F_isub (dk_X7_settle 32 _ rfl) ?_
      refine F_iald (axM_0_15) (dk_X7_settle 33 _ rfl) (fun x7 => ?_)
      refine F_bipush (v := 124) (by decide) (dk_X7_settle 34 _ rfl) ?_
      refine F_icmp_ne (tgt := 72) (by decide) (dk_X7_settle 36 _ rfl) ?_ ?_
      · exact F_retV rfl (dk_X7_settle 72 _ rfl)
      · refine F_iload_n (i := 1) (a := 1) rfl rfl (dk_X7_settle 39 _ rfl) ?_
        refine F_bipush (v := 38) (by decide) (dk_X7_settle 40 _ rfl) ?_
        refine F_icmp_eq (tgt := 72) (by decide) (dk_X7_settle 42 _ rfl) ?_ ?_
        · exact F_retV rfl (dk_X7_settle 72 _ rfl)
        · exact F_loc (fun _ z => z) (j_X7_settle_45 K0 hK0 _ _ )
theorem j_X7_settle_0   : ∀ (F : Nat) (m : mM) (y1 : Int32) , JF false uU m_X7_settle 3 0 [(0, .ref 0), (1, .int y1)] [] m (f_X7_settle_0  F m y1) := by
  intro F
  induction F with
  | zero => intro m y1 ; exact F_no
  | succ F ih => intro m y1 ; exact jb_X7_settle_0  (f_X7_settle_0  F)  ih m y1 
def f_X7_settle (m : mM) (p1 : Int32) : fR Unit :=
  (f_X7_settle_0  1000 m p1)
theorem c_X7_settle (m : mM) (p1 : Int32)  : cF false uU m_X7_settle 3 [.ref 0, .int p1] m (f_X7_settle m p1) := by
  refine cF_of ok_X7_settle (fun _ _ => Nat.le_of_ble_eq_true rfl) ?_
  unfold f_X7_settle
  show JF _ _ _ _ _ [(0, .ref 0), (1, .int p1)] _ _ _
  exact F_loc (fun _ z => z) (j_X7_settle_0   1000 _ _ )
def f_X7_place (m : mM) (p1 : Int32) : fR Int32 :=
  (if p1 = 98 then some (5, m) else if p1 = 99 then some (3, m) else if p1 = 100 then some (2, m) else if p1 = 107 then some (1, m) else if p1 = 112 then some (0, m) else if p1 = 121 then some (4, m) else some ((-1), m))
theorem c_X7_place (m : mM) (p1 : Int32)  : cF false uI m_X7_place 2 [.ref 0, .int p1] m (f_X7_place m p1) := by
  refine cF_of ok_X7_place (fun _ _ => Nat.le_of_ble_eq_true rfl) ?_
  unfold f_X7_place
  show JF _ _ _ _ _ [(0, .ref 0), (1, .int p1)] _ _ _
  refine F_iload_n (i := 1) (a := 1) rfl rfl (dk_X7_place 0 _ rfl) ?_
  refine F_case (fun c1_0 => ?_) (fun c1_0 => ?_)
  · rw [c1_0]; refine F_look (off := 69) (tgt := 70) (by decide) (by decide) (by decide) (dk_X7_place 1 _ rfl) ?_
    refine F_iconst (v := 5) (by decide) (dk_X7_place 70 _ rfl) ?_
    exact F_ret rfl (dk_X7_place 71 _ rfl)
  refine F_case (fun c1_1 => ?_) (fun c1_1 => ?_)
  · rw [c1_1]; refine F_look (off := 65) (tgt := 66) (by decide) (by decide) (by decide) (dk_X7_place 1 _ rfl) ?_
    refine F_iconst (v := 3) (by decide) (dk_X7_place 66 _ rfl) ?_
    exact F_ret rfl (dk_X7_place 67 _ rfl)
  refine F_case (fun c1_2 => ?_) (fun c1_2 => ?_)
  · rw [c1_2]; refine F_look (off := 63) (tgt := 64) (by decide) (by decide) (by decide) (dk_X7_place 1 _ rfl) ?_
    refine F_iconst (v := 2) (by decide) (dk_X7_place 64 _ rfl) ?_
    exact F_ret rfl (dk_X7_place 65 _ rfl)
  refine F_case (fun c1_3 => ?_) (fun c1_3 => ?_)
  · rw [c1_3]; refine F_look (off := 61) (tgt := 62) (by decide) (by decide) (by decide) (dk_X7_place 1 _ rfl) ?_
    refine F_iconst (v := 1) (by decide) (dk_X7_place 62 _ rfl) ?_
    exact F_ret rfl (dk_X7_place 63 _ rfl)
  refine F_case (fun c1_4 => ?_) (fun c1_4 => ?_)
  · rw [c1_4]; refine F_look (off := 59) (tgt := 60) (by decide) (by decide) (by decide) (dk_X7_place 1 _ rfl) ?_
    refine F_iconst (v := 0) (by decide) (dk_X7_place 60 _ rfl) ?_
    exact F_ret rfl (dk_X7_place 61 _ rfl)
  refine F_case (fun c1_5 => ?_) (fun c1_5 => ?_)
  · rw [c1_5]; refine F_look (off := 67) (tgt := 68) (by decide) (by decide) (by decide) (dk_X7_place 1 _ rfl) ?_
    refine F_iconst (v := 4) (by decide) (dk_X7_place 68 _ rfl) ?_
    exact F_ret rfl (dk_X7_place 69 _ rfl)
  refine F_look (off := 71) (tgt := 72) (by decide) (by have q0 := fI_ne c1_0; rw [show (98 : Int32).toInt = 98 from by decide] at q0; have q1 := fI_ne c1_1; rw [show (99 : Int32).toInt = 99 from by decide] at q1; have q2 := fI_ne c1_2; rw [show (100 : Int32).toInt = 100 from by decide] at q2; have q3 := fI_ne c1_3; rw [show (107 : Int32).toInt = 107 from by decide] at q3; have q4 := fI_ne c1_4; rw [show (112 : Int32).toInt = 112 from by decide] at q4; have q5 := fI_ne c1_5; rw [show (121 : Int32).toInt = 121 from by decide] at q5; simp [Op.lookupswitch.offset, q0, Ne.symm q0, q1, Ne.symm q1, q2, Ne.symm q2, q3, Ne.symm q3, q4, Ne.symm q4, q5, Ne.symm q5]) (by decide) (dk_X7_place 1 _ rfl) ?_
  refine F_iconst (v := (-1)) (by decide) (dk_X7_place 72 _ rfl) ?_
  exact F_ret rfl (dk_X7_place 73 _ rfl)
def f_X7_takesTest (m : mM)  : fR Int32 :=
  bnd (f_X7_next m ) fun (x1 : Int32) (m2 : mM) => bnd (f_X7_place m2 x1) fun (x4 : Int32) (m5 : mM) => (if 0 ≤ x4 then nmM (wI m5 13 (((mI m5 13) + 1))) fun m7 => bnd (f_X7_next m7 ) fun (x8 : Int32) (m9 : mM) => bnd (f_X7_in m9 x8 60 62) fun (x11 : Int32) (m12 : mM) => (if x11 = 0 then some (0, m12) else nmM (wI m12 13 (((mI m12 13) + 1))) fun m14 => bnd (f_X7_takesNumber m14 ) fun (x15 : Int32) (m16 : mM) => (if x15 = 0 then some (0, m16) else bnd (f_X7_emits m16 ((((1000 * x4) + (100 * (x8 - 60))) + (mI m16 14)))) fun (x18 : Unit) (m19 : mM) => bnd (f_X7_whole m19 ) fun (x21 : Unit) (m22 : mM) => some (1, m22))) else some (0, m5))
theorem c_X7_takesTest (m : mM)   : cF false uI m_X7_takesTest 5 [.ref 0] m (f_X7_takesTest m ) := by
  refine cF_of ok_X7_takesTest (fun _ _ => Nat.le_of_ble_eq_true rfl) ?_
  unfold f_X7_takesTest
  show JF _ _ _ _ _ [(0, .ref 0)] _ _ _
  refine F_aload_n (i := 0) (a := 0) rfl rfl (dk_X7_takesTest 0 _ rfl) ?_
  refine F_aload_n (i := 0) (a := 0) rfl rfl (dk_X7_takesTest 1 _ rfl) ?_
  refine F_callV (ι' := uI) (ci := 7) (b := 0) (As := []) (d' := 2) (rfl) ok_X7_next vi_X7_next cl_7_209 (n := 0) (by decide +kernel) rfl rfl rfl (Nat.le_of_ble_eq_true rfl) (by omega) (dk_X7_takesTest 2 _ rfl) (c_X7_next _  ) (fun x1 m2 => ?_)
  show JF _ _ _ _ _ _ [.int x1, .ref 0] _ _
  refine F_callV (ι' := uI) (ci := 7) (b := 0) (As := [.int x1]) (d' := 2) (rfl) ok_X7_place vi_X7_place cl_7_224 (n := 1) (by decide +kernel) rfl rfl rfl (Nat.le_of_ble_eq_true rfl) (by omega) (dk_X7_takesTest 5 _ rfl) (c_X7_place _ _ ) (fun x4 m5 => ?_)
  show JF _ _ _ _ _ _ [.int x4] _ _
  refine F_istore_n (lv' := [(1, .int x4), (0, .ref 0)]) (i := 1) (a := 1) rfl (by decide) rfl (dk_X7_takesTest 8 _ rfl) ?_
  refine F_iload_n (i := 1) (a := 1) rfl rfl (dk_X7_takesTest 9 _ rfl) ?_
  refine F_if_ge (tgt := 15) (by decide) (dk_X7_takesTest 10 _ rfl) ?_ ?_
  · refine F_aload_n (i := 0) (a := 0) rfl rfl (dk_X7_takesTest 15 _ rfl) ?_
    refine F_dup rfl (dk_X7_takesTest 16 _ rfl) ?_
    refine F_gI (n := 13) fxM_7_13_0 rfl fl_7_51 (dk_X7_takesTest 17 _ rfl) ?_
    refine F_iconst (v := 1) (by decide) (dk_X7_takesTest 20 _ rfl) ?_
    refine F_iadd (dk_X7_takesTest 21 _ rfl) ?_
    refine F_pI (n := 13) fxM_7_13_0 rfl fl_7_51 (fun q hq => by cases hq; rfl) trivial (dk_X7_takesTest 22 _ rfl) (fun m7 => ?_)
    refine F_aload_n (i := 0) (a := 0) rfl rfl (dk_X7_takesTest 25 _ rfl) ?_
    refine F_callV (ι' := uI) (ci := 7) (b := 0) (As := []) (d' := 2) (rfl) ok_X7_next vi_X7_next cl_7_209 (n := 0) (by decide +kernel) rfl rfl rfl (Nat.le_of_ble_eq_true rfl) (by omega) (dk_X7_takesTest 26 _ rfl) (c_X7_next _  ) (fun x8 m9 => ?_)
    show JF _ _ _ _ _ _ [.int x8] _ _
    refine F_istore_n (lv' := [(2, .int x8), (1, .int x4), (0, .ref 0)]) (i := 2) (a := 2) rfl (by decide) rfl (dk_X7_takesTest 29 _ rfl) ?_
    refine F_aload_n (i := 0) (a := 0) rfl rfl (dk_X7_takesTest 30 _ rfl) ?_
    refine F_iload_n (i := 2) (a := 2) rfl rfl (dk_X7_takesTest 31 _ rfl) ?_
    refine F_bipush (v := 60) (by decide) (dk_X7_takesTest 32 _ rfl) ?_
    refine F_bipush (v := 62) (by decide) (dk_X7_takesTest 34 _ rfl) ?_
    refine F_callV (ι' := uI) (ci := 7) (b := 0) (As := [.int x8, .int 60, .int 62]) (d' := 2) (rfl) ok_X7_in vi_X7_in cl_7_194 (n := 3) (by decide +kernel) rfl rfl rfl (Nat.le_of_ble_eq_true rfl) (by omega) (dk_X7_takesTest 36 _ rfl) (c_X7_in _ _ _ _ ) (fun x11 m12 => ?_)
    show JF _ _ _ _ _ _ [.int x11] _ _
    refine F_if_ne (tgt := 44) (by decide) (dk_X7_takesTest 39 _ rfl) ?_ ?_
    · refine F_aload_n (i := 0) (a := 0) rfl rfl (dk_X7_takesTest 44 _ rfl) ?_
      refine F_dup rfl (dk_X7_takesTest 45 _ rfl) ?_
      refine F_gI (n := 13) fxM_7_13_0 rfl fl_7_51 (dk_X7_takesTest 46 _ rfl) ?_
      refine F_iconst (v := 1) (by decide) (dk_X7_takesTest 49 _ rfl) ?_
      refine F_iadd (dk_X7_takesTest 50 _ rfl) ?_
      refine F_pI (n := 13) fxM_7_13_0 rfl fl_7_51 (fun q hq => by cases hq; rfl) trivial (dk_X7_takesTest 51 _ rfl) (fun m14 => ?_)
      refine F_aload_n (i := 0) (a := 0) rfl rfl (dk_X7_takesTest 54 _ rfl) ?_
      refine F_callV (ι' := uI) (ci := 7) (b := 0) (As := []) (d' := 4) (rfl) ok_X7_takesNumber vi_X7_takesNumber cl_7_228 (n := 0) (by decide +kernel) rfl rfl rfl (Nat.le_of_ble_eq_true rfl) (by omega) (dk_X7_takesTest 55 _ rfl) (c_X7_takesNumber _  ) (fun x15 m16 => ?_)
      show JF _ _ _ _ _ _ [.int x15] _ _
      refine F_if_ne (tgt := 63) (by decide) (dk_X7_takesTest 58 _ rfl) ?_ ?_
      · refine F_aload_n (i := 0) (a := 0) rfl rfl (dk_X7_takesTest 63 _ rfl) ?_
        refine F_sipush (v := 1000) (by decide) (dk_X7_takesTest 64 _ rfl) ?_
        refine F_iload_n (i := 1) (a := 1) rfl rfl (dk_X7_takesTest 67 _ rfl) ?_
        refine F_imul (dk_X7_takesTest 68 _ rfl) ?_
        refine F_bipush (v := 100) (by decide) (dk_X7_takesTest 69 _ rfl) ?_
        refine F_iload_n (i := 2) (a := 2) rfl rfl (dk_X7_takesTest 71 _ rfl) ?_
        refine F_bipush (v := 60) (by decide) (dk_X7_takesTest 72 _ rfl) ?_
        refine F_isub (dk_X7_takesTest 74 _ rfl) ?_
        refine F_imul (dk_X7_takesTest 75 _ rfl) ?_
        refine F_iadd (dk_X7_takesTest 76 _ rfl) ?_
        refine F_aload_n (i := 0) (a := 0) rfl rfl (dk_X7_takesTest 77 _ rfl) ?_
        refine F_gI (n := 14) fxM_7_14_0 rfl fl_7_54 (dk_X7_takesTest 78 _ rfl) ?_
        refine F_iadd (dk_X7_takesTest 81 _ rfl) ?_
        refine F_callV (ι' := uU) (ci := 7) (b := 0) (As := [.int (((1000 * x4) + (100 * (x8 - 60))) + (mI m16 14))]) (d' := 2) (rfl) ok_X7_emits vi_X7_emits cl_7_220 (n := 1) (by decide +kernel) rfl rfl rfl (Nat.le_of_ble_eq_true rfl) (by omega) (dk_X7_takesTest 82 _ rfl) (c_X7_emits _ _ ) (fun x18 m19 => ?_)
        show JF _ _ _ _ _ _ [] _ _
        refine F_aload_n (i := 0) (a := 0) rfl rfl (dk_X7_takesTest 85 _ rfl) ?_
        refine F_callV (ι' := uU) (ci := 7) (b := 0) (As := []) (d' := 3) (rfl) ok_X7_whole vi_X7_whole cl_7_231 (n := 0) (by decide +kernel) rfl rfl rfl (Nat.le_of_ble_eq_true rfl) (by omega) (dk_X7_takesTest 86 _ rfl) (c_X7_whole _  ) (fun x21 m22 => ?_)
        show JF _ _ _ _ _ _ [] _ _
        refine F_iconst (v := 1) (by decide) (dk_X7_takesTest 89 _ rfl) ?_
        exact F_retB rfl (Or.inr rfl) (dk_X7_takesTest 90 _ rfl)
      · refine F_iconst (v := 0) (by decide) (dk_X7_takesTest 61 _ rfl) ?_
        exact F_retB rfl (Or.inl rfl) (dk_X7_takesTest 62 _ rfl)
    · refine F_iconst (v := 0) (by decide) (dk_X7_takesTest 42 _ rfl) ?_
      exact F_retB rfl (Or.inl rfl) (dk_X7_takesTest 43 _ rfl)
  · refine F_iconst (v := 0) (by decide) (dk_X7_takesTest 13 _ rfl) ?_
    exact F_retB rfl (Or.inl rfl) (dk_X7_takesTest 14 _ rfl)
def f_X7_takesE_122 (K22 : mM → Int32 → Int32 → fR Int32) (m : mM) (y1 : Int32) (y3 : Int32) : fR Int32 :=
  bnd (f_X7_settle m y3) fun (x7 : Unit) (m8 : mM) => (sA 0 m8 15 (mI m8 24) y3).bind fun m10 => nmM (wI m10 24 (((mI m10 24) + 1))) fun m11 => nmM (wI m11 13 (((mI m11 13) + 1))) fun m12 => (K22 m12 y1 1)
theorem j_X7_takesE_122 (K22 : mM → Int32 → Int32 → fR Int32) (hK22 : ∀ (m : mM) (y1 : Int32) (y2 : Int32) , JF false uI m_X7_takesE 6 22 [(0, .ref 0), (1, .int y1), (2, .int y2)] [] m (K22 m y1 y2)) (m : mM) (y1 : Int32) (y3 : Int32)  : JF false uI m_X7_takesE 6 122 [(0, .ref 0), (1, .int y1), (3, .int y3)] [] m (f_X7_takesE_122 K22 m y1 y3) := by
  unfold f_X7_takesE_122
  refine F_aload_n (i := 0) (a := 0) rfl rfl (dk_X7_takesE 122 _ rfl) ?_
  refine F_iload_n (i := 3) (a := 3) rfl rfl (dk_X7_takesE 123 _ rfl) ?_
  refine F_callV (ι' := uU) (ci := 7) (b := 0) (As := [.int y3]) (d' := 3) (rfl) ok_X7_settle vi_X7_settle cl_7_237 (n := 1) (by decide +kernel) rfl rfl rfl (Nat.le_of_ble_eq_true rfl) (by omega) (dk_X7_takesE 124 _ rfl) (c_X7_settle _ _ ) (fun x7 m8 => ?_)
  show JF _ _ _ _ _ _ [] _ _
  refine F_aload_n (i := 0) (a := 0) rfl rfl (dk_X7_takesE 127 _ rfl) ?_
  refine F_gR (b := 15) fxM_7_22_0 fl_7_78 (dk_X7_takesE 128 _ rfl) ?_
  refine F_aload_n (i := 0) (a := 0) rfl rfl (dk_X7_takesE 131 _ rfl) ?_
  refine F_gI (n := 24) fxM_7_24_0 rfl fl_7_84 (dk_X7_takesE 132 _ rfl) ?_
  refine F_iload_n (i := 3) (a := 3) rfl rfl (dk_X7_takesE 135 _ rfl) ?_
  refine F_iast (axM_0_15) (dk_X7_takesE 136 _ rfl) (fun m10 => ?_)
  refine F_aload_n (i := 0) (a := 0) rfl rfl (dk_X7_takesE 137 _ rfl) ?_
  refine F_dup rfl (dk_X7_takesE 138 _ rfl) ?_
  refine F_gI (n := 24) fxM_7_24_0 rfl fl_7_84 (dk_X7_takesE 139 _ rfl) ?_
  refine F_iconst (v := 1) (by decide) (dk_X7_takesE 142 _ rfl) ?_
  refine F_iadd (dk_X7_takesE 143 _ rfl) ?_
  refine F_pI (n := 24) fxM_7_24_0 rfl fl_7_84 (fun q hq => by cases hq; rfl) trivial (dk_X7_takesE 144 _ rfl) (fun m11 => ?_)
  refine F_iconst (v := 1) (by decide) (dk_X7_takesE 147 _ rfl) ?_
  refine F_istore_n (lv' := [(2, .int 1), (0, .ref 0), (1, .int y1), (3, .int y3)]) (i := 2) (a := 2) rfl (by decide) rfl (dk_X7_takesE 148 _ rfl) ?_
  refine F_aload_n (i := 0) (a := 0) rfl rfl (dk_X7_takesE 149 _ rfl) ?_
  refine F_dup rfl (dk_X7_takesE 150 _ rfl) ?_
  refine F_gI (n := 13) fxM_7_13_0 rfl fl_7_51 (dk_X7_takesE 151 _ rfl) ?_
  refine F_iconst (v := 1) (by decide) (dk_X7_takesE 154 _ rfl) ?_
  refine F_iadd (dk_X7_takesE 155 _ rfl) ?_
  refine F_pI (n := 13) fxM_7_13_0 rfl fl_7_51 (fun q hq => by cases hq; rfl) trivial (dk_X7_takesE 156 _ rfl) (fun m12 => ?_)
  refine F_goto (tgt := 22) (by decide) (dk_X7_takesE 159 _ rfl) ?_
  exact F_loc (List.forall_mem_cons.mpr ⟨(.tail _ (.head _)), (List.forall_mem_cons.mpr ⟨(.tail _ (.tail _ (.head _))), (List.forall_mem_cons.mpr ⟨(.head _), (fun _ z => absurd z List.not_mem_nil)⟩)⟩)⟩) (hK22 _ _ _ )
def f_X7_takesE_43 (K22 : mM → Int32 → Int32 → fR Int32) (m : mM) (y1 : Int32) (y2 : Int32) (y3 : Int32) : fR Int32 :=
  (if (mI m 25) = 4 then some (0, m) else nmM (wI m 25 (((mI m 25) + 1))) fun m23 => (sA 0 m23 15 (mI m23 24) y3).bind fun m24 => nmM (wI m24 24 (((mI m24 24) + 1))) fun m25 => nmM (wI m25 13 (((mI m25 13) + 1))) fun m26 => (K22 m26 y1 y2))
theorem j_X7_takesE_43 (K22 : mM → Int32 → Int32 → fR Int32) (hK22 : ∀ (m : mM) (y1 : Int32) (y2 : Int32) , JF false uI m_X7_takesE 6 22 [(0, .ref 0), (1, .int y1), (2, .int y2)] [] m (K22 m y1 y2)) (m : mM) (y1 : Int32) (y2 : Int32) (y3 : Int32)  : JF false uI m_X7_takesE 6 43 [(0, .ref 0), (1, .int y1), (2, .int y2), (3, .int y3)] [] m (f_X7_takesE_43 K22 m y1 y2 y3) := by
  unfold f_X7_takesE_43
  refine F_aload_n (i := 0) (a := 0) rfl rfl (dk_X7_takesE 43 _ rfl) ?_
  refine F_gI (n := 25) fxM_7_25_0 rfl fl_7_87 (dk_X7_takesE 44 _ rfl) ?_
  refine F_iconst (v := 4) (by decide) (dk_X7_takesE 47 _ rfl) ?_
  refine F_icmp_ne (tgt := 53) (by decide) (dk_X7_takesE 48 _ rfl) ?_ ?_
  · refine F_aload_n (i := 0) (a := 0) rfl rfl (dk_X7_takesE 53 _ rfl) ?_
    refine F_dup rfl (dk_X7_takesE 54 _ rfl) ?_
    refine F_gI (n := 25) fxM_7_25_0 rfl fl_7_87 (dk_X7_takesE 55 _ rfl) ?_
    refine F_iconst (v := 1) (by decide) (dk_X7_takesE 58 _ rfl) ?_
    refine F_iadd (dk_X7_takesE 59 _ rfl) ?_
    refine F_pI (n := 25) fxM_7_25_0 rfl fl_7_87 (fun q hq => by cases hq; rfl) trivial (dk_X7_takesE 60 _ rfl) (fun m23 => ?_)
    refine F_aload_n (i := 0) (a := 0) rfl rfl (dk_X7_takesE 63 _ rfl) ?_
    refine F_gR (b := 15) fxM_7_22_0 fl_7_78 (dk_X7_takesE 64 _ rfl) ?_
    refine F_aload_n (i := 0) (a := 0) rfl rfl (dk_X7_takesE 67 _ rfl) ?_
    refine F_gI (n := 24) fxM_7_24_0 rfl fl_7_84 (dk_X7_takesE 68 _ rfl) ?_
    refine F_iload_n (i := 3) (a := 3) rfl rfl (dk_X7_takesE 71 _ rfl) ?_
    refine F_iast (axM_0_15) (dk_X7_takesE 72 _ rfl) (fun m24 => ?_)
    refine F_aload_n (i := 0) (a := 0) rfl rfl (dk_X7_takesE 73 _ rfl) ?_
    refine F_dup rfl (dk_X7_takesE 74 _ rfl) ?_
    refine F_gI (n := 24) fxM_7_24_0 rfl fl_7_84 (dk_X7_takesE 75 _ rfl) ?_
    refine F_iconst (v := 1) (by decide) (dk_X7_takesE 78 _ rfl) ?_
    refine F_iadd (dk_X7_takesE 79 _ rfl) ?_
    refine F_pI (n := 24) fxM_7_24_0 rfl fl_7_84 (fun q hq => by cases hq; rfl) trivial (dk_X7_takesE 80 _ rfl) (fun m25 => ?_)
    refine F_aload_n (i := 0) (a := 0) rfl rfl (dk_X7_takesE 83 _ rfl) ?_
    refine F_dup rfl (dk_X7_takesE 84 _ rfl) ?_
    refine F_gI (n := 13) fxM_7_13_0 rfl fl_7_51 (dk_X7_takesE 85 _ rfl) ?_
    refine F_iconst (v := 1) (by decide) (dk_X7_takesE 88 _ rfl) ?_
    refine F_iadd (dk_X7_takesE 89 _ rfl) ?_
    refine F_pI (n := 13) fxM_7_13_0 rfl fl_7_51 (fun q hq => by cases hq; rfl) trivial (dk_X7_takesE 90 _ rfl) (fun m26 => ?_)
    refine F_goto (tgt := 22) (by decide) (dk_X7_takesE 93 _ rfl) ?_
    exact F_loc (List.forall_mem_cons.mpr ⟨(.head _), (List.forall_mem_cons.mpr ⟨(.tail _ (.head _)), (List.forall_mem_cons.mpr ⟨(.tail _ (.tail _ (.head _))), (fun _ z => absurd z List.not_mem_nil)⟩)⟩)⟩) (hK22 _ _ _ )
  · refine F_iconst (v := 0) (by decide) (dk_X7_takesE 51 _ rfl) ?_
    exact F_retB rfl (Or.inl rfl) (dk_X7_takesE 52 _ rfl)
def fb_X7_takesE_22 (K22 : mM → Int32 → Int32 → fR Int32) (m : mM) (y1 : Int32) (y2 : Int32) : fR Int32 :=
  bnd (f_X7_next m ) fun (x4 : Int32) (m5 : mM) => (if y2 = 0 then (if x4 = 38 then (f_X7_takesE_122 K22 m5 y1 x4) else (if x4 = 124 then (f_X7_takesE_122 K22 m5 y1 x4) else bnd (f_X7_settle m5 124) fun (x13 : Unit) (m14 : mM) => (sA 0 m14 13 y1 (mI m14 23)).bind fun m16 => (if (mI m16 24) = 0 then some (1, m16) else (if x4 = 41 then nmM (wI m16 24 (((mI m16 24) - 1))) fun m17 => nmM (wI m17 25 (((mI m17 25) - 1))) fun m18 => nmM (wI m18 13 (((mI m18 13) + 1))) fun m19 => bnd (f_X7_whole m19 ) fun (x20 : Unit) (m21 : mM) => (K22 m21 y1 y2) else some (0, m16))))) else (if x4 = 33 then (f_X7_takesE_43 K22 m5 y1 y2 x4) else (if x4 = 40 then (f_X7_takesE_43 K22 m5 y1 y2 x4) else bnd (f_X7_takesTest m5 ) fun (x27 : Int32) (m28 : mM) => (if x27 = 0 then some (0, m28) else (K22 m28 y1 0)))))
def f_X7_takesE_22  : Nat → mM → Int32 → Int32 → fR Int32
  | 0, _, _, _ => none
  | F + 1, m, y1, y2 => fb_X7_takesE_22  (f_X7_takesE_22  F) m y1 y2
theorem jb_X7_takesE_22 (K22 : mM → Int32 → Int32 → fR Int32) (hK22 : ∀ (m : mM) (y1 : Int32) (y2 : Int32) , JF false uI m_X7_takesE 6 22 [(0, .ref 0), (1, .int y1), (2, .int y2)] [] m (K22 m y1 y2)) (m : mM) (y1 : Int32) (y2 : Int32)  : JF false uI m_X7_takesE 6 22 [(0, .ref 0), (1, .int y1), (2, .int y2)] [] m (fb_X7_takesE_22 K22 m y1 y2) := by
  unfold fb_X7_takesE_22
  refine F_aload_n (i := 0) (a := 0) rfl rfl (dk_X7_takesE 22 _ rfl) ?_
  refine F_callV (ι' := uI) (ci := 7) (b := 0) (As := []) (d' := 2) (rfl) ok_X7_next vi_X7_next cl_7_209 (n := 0) (by decide +kernel) rfl rfl rfl (Nat.le_of_ble_eq_true rfl) (by omega) (dk_X7_takesE 23 _ rfl) (c_X7_next _  ) (fun x4 m5 => ?_)
  show JF _ _ _ _ _ _ [.int x4] _ _
  refine F_istore_n (lv' := [(3, .int x4), (0, .ref 0), (1, .int y1), (2, .int y2)]) (i := 3) (a := 3) rfl (by decide) rfl (dk_X7_takesE 26 _ rfl) ?_
  refine F_iload_n (i := 2) (a := 2) rfl rfl (dk_X7_takesE 27 _ rfl) ?_
  refine F_if_eq (tgt := 110) (by decide) (dk_X7_takesE 28 _ rfl) ?_ ?_
  · refine F_iload_n (i := 3) (a := 3) rfl rfl (dk_X7_takesE 110 _ rfl) ?_
    refine F_bipush (v := 38) (by decide) (dk_X7_takesE 111 _ rfl) ?_
    refine F_icmp_eq (tgt := 122) (by decide) (dk_X7_takesE 113 _ rfl) ?_ ?_
    · exact F_loc (List.forall_mem_cons.mpr ⟨(.tail _ (.head _)), (List.forall_mem_cons.mpr ⟨(.tail _ (.tail _ (.head _))), (List.forall_mem_cons.mpr ⟨(.head _), (fun _ z => absurd z List.not_mem_nil)⟩)⟩)⟩) (j_X7_takesE_122 K22 hK22 _ _ _ )
    · refine F_iload_n (i := 3) (a := 3) rfl rfl (dk_X7_takesE 116 _ rfl) ?_
      refine F_bipush (v := 124) (by decide) (dk_X7_takesE 117 _ rfl) ?_
      refine F_icmp_ne (tgt := 162) (by decide) (dk_X7_takesE 119 _ rfl) ?_ ?_
      · refine F_aload_n (i := 0) (a := 0) rfl rfl (dk_X7_takesE 162 _ rfl) ?_
        refine F_bipush (v := 124) (by decide) (dk_X7_takesE 163 _ rfl) ?_
        refine F_callV (ι' := uU) (ci := 7) (b := 0) (As := [.int 124]) (d' := 3) (rfl) ok_X7_settle vi_X7_settle cl_7_237 (n := 1) (by decide +kernel) rfl rfl rfl (Nat.le_of_ble_eq_true rfl) (by omega) (dk_X7_takesE 165 _ rfl) (c_X7_settle _ _ ) (fun x13 m14 => ?_)
        show JF _ _ _ _ _ _ [] _ _
        refine F_aload_n (i := 0) (a := 0) rfl rfl (dk_X7_takesE 168 _ rfl) ?_
        refine F_gR (b := 13) fxM_7_20_0 fl_7_72 (dk_X7_takesE 169 _ rfl) ?_
        refine F_iload_n (i := 1) (a := 1) rfl rfl (dk_X7_takesE 172 _ rfl) ?_
        refine F_aload_n (i := 0) (a := 0) rfl rfl (dk_X7_takesE 173 _ rfl) ?_
        refine F_gI (n := 23) fxM_7_23_0 rfl fl_7_81 (dk_X7_takesE 174 _ rfl) ?_
        refine F_iast (axM_0_13) (dk_X7_takesE 177 _ rfl) (fun m16 => ?_)
        refine F_aload_n (i := 0) (a := 0) rfl rfl (dk_X7_takesE 178 _ rfl) ?_
        refine F_gI (n := 24) fxM_7_24_0 rfl fl_7_84 (dk_X7_takesE 179 _ rfl) ?_
        refine F_if_ne (tgt := 187) (by decide) (dk_X7_takesE 182 _ rfl) ?_ ?_
        · refine F_iload_n (i := 3) (a := 3) rfl rfl (dk_X7_takesE 187 _ rfl) ?_
          refine F_bipush (v := 41) (by decide) (dk_X7_takesE 188 _ rfl) ?_
          refine F_icmp_eq (tgt := 195) (by decide) (dk_X7_takesE 190 _ rfl) ?_ ?_
          · refine F_aload_n (i := 0) (a := 0) rfl rfl (dk_X7_takesE 195 _ rfl) ?_
            refine F_dup rfl (dk_X7_takesE 196 _ rfl) ?_
            refine F_gI (n := 24) fxM_7_24_0 rfl fl_7_84 (dk_X7_takesE 197 _ rfl) ?_
            refine F_iconst (v := 1) (by decide) (dk_X7_takesE 200 _ rfl) ?_
            refine F_isub (dk_X7_takesE 201 _ rfl) ?_
            refine F_pI (n := 24) fxM_7_24_0 rfl fl_7_84 (fun q hq => by cases hq; rfl) trivial (dk_X7_takesE 202 _ rfl) (fun m17 => ?_)
            refine F_aload_n (i := 0) (a := 0) rfl rfl (dk_X7_takesE 205 _ rfl) ?_
            refine F_dup rfl (dk_X7_takesE 206 _ rfl) ?_
            refine F_gI (n := 25) fxM_7_25_0 rfl fl_7_87 (dk_X7_takesE 207 _ rfl) ?_
            refine F_iconst (v := 1) (by decide) (dk_X7_takesE 210 _ rfl) ?_
            refine F_isub (dk_X7_takesE 211 _ rfl) ?_
            refine F_pI (n := 25) fxM_7_25_0 rfl fl_7_87 (fun q hq => by cases hq; rfl) trivial (dk_X7_takesE 212 _ rfl) (fun m18 => ?_)
            refine F_aload_n (i := 0) (a := 0) rfl rfl (dk_X7_takesE 215 _ rfl) ?_
            refine F_dup rfl (dk_X7_takesE 216 _ rfl) ?_
            refine F_gI (n := 13) fxM_7_13_0 rfl fl_7_51 (dk_X7_takesE 217 _ rfl) ?_
            refine F_iconst (v := 1) (by decide) (dk_X7_takesE 220 _ rfl) ?_
            refine F_iadd (dk_X7_takesE 221 _ rfl) ?_
            refine F_pI (n := 13) fxM_7_13_0 rfl fl_7_51 (fun q hq => by cases hq; rfl) trivial (dk_X7_takesE 222 _ rfl) (fun m19 => ?_)
            refine F_aload_n (i := 0) (a := 0) rfl rfl (dk_X7_takesE 225 _ rfl) ?_
            refine F_callV (ι' := uU) (ci := 7) (b := 0) (As := []) (d' := 3) (rfl) ok_X7_whole vi_X7_whole cl_7_231 (n := 0) (by decide +kernel) rfl rfl rfl (Nat.le_of_ble_eq_true rfl) (by omega) (dk_X7_takesE 226 _ rfl) (c_X7_whole _  ) (fun x20 m21 => ?_)
            show JF _ _ _ _ _ _ [] _ _
            refine F_goto (tgt := 22) (by decide) (dk_X7_takesE 229 _ rfl) ?_
            exact F_loc (List.forall_mem_cons.mpr ⟨(.tail _ (.head _)), (List.forall_mem_cons.mpr ⟨(.tail _ (.tail _ (.head _))), (List.forall_mem_cons.mpr ⟨(.tail _ (.tail _ (.tail _ (.head _)))), (fun _ z => absurd z List.not_mem_nil)⟩)⟩)⟩) (hK22 _ _ _ )
          · refine F_iconst (v := 0) (by decide) (dk_X7_takesE 193 _ rfl) ?_
            exact F_retB rfl (Or.inl rfl) (dk_X7_takesE 194 _ rfl)
        · refine F_iconst (v := 1) (by decide) (dk_X7_takesE 185 _ rfl) ?_
          exact F_retB rfl (Or.inr rfl) (dk_X7_takesE 186 _ rfl)
      · exact F_loc (List.forall_mem_cons.mpr ⟨(.tail _ (.head _)), (List.forall_mem_cons.mpr ⟨(.tail _ (.tail _ (.head _))), (List.forall_mem_cons.mpr ⟨(.head _), (fun _ z => absurd z List.not_mem_nil)⟩)⟩)⟩) (j_X7_takesE_122 K22 hK22 _ _ _ )
  · refine F_iload_n (i := 3) (a := 3) rfl rfl (dk_X7_takesE 31 _ rfl) ?_
    refine F_bipush (v := 33) (by decide) (dk_X7_takesE 32 _ rfl) ?_
    refine F_icmp_eq (tgt := 43) (by decide) (dk_X7_takesE 34 _ rfl) ?_ ?_
    · exact F_loc (List.forall_mem_cons.mpr ⟨(.tail _ (.head _)), (List.forall_mem_cons.mpr ⟨(.tail _ (.tail _ (.head _))), (List.forall_mem_cons.mpr ⟨(.tail _ (.tail _ (.tail _ (.head _)))), (List.forall_mem_cons.mpr ⟨(.head _), (fun _ z => absurd z List.not_mem_nil)⟩)⟩)⟩)⟩) (j_X7_takesE_43 K22 hK22 _ _ _ _ )
    · refine F_iload_n (i := 3) (a := 3) rfl rfl (dk_X7_takesE 37 _ rfl) ?_
      refine F_bipush (v := 40) (by decide) (dk_X7_takesE 38 _ rfl) ?_
      refine F_icmp_ne (tgt := 96) (by decide) (dk_X7_takesE 40 _ rfl) ?_ ?_
      · refine F_aload_n (i := 0) (a := 0) rfl rfl (dk_X7_takesE 96 _ rfl) ?_
        refine F_callV (ι' := uI) (ci := 7) (b := 0) (As := []) (d' := 5) (rfl) ok_X7_takesTest vi_X7_takesTest cl_7_234 (n := 0) (by decide +kernel) rfl rfl rfl (Nat.le_of_ble_eq_true rfl) (by omega) (dk_X7_takesE 97 _ rfl) (c_X7_takesTest _  ) (fun x27 m28 => ?_)
        show JF _ _ _ _ _ _ [.int x27] _ _
        refine F_if_eq (tgt := 108) (by decide) (dk_X7_takesE 100 _ rfl) ?_ ?_
        · refine F_iconst (v := 0) (by decide) (dk_X7_takesE 108 _ rfl) ?_
          exact F_retB rfl (Or.inl rfl) (dk_X7_takesE 109 _ rfl)
        · refine F_iconst (v := 0) (by decide) (dk_X7_takesE 103 _ rfl) ?_
          refine F_istore_n (lv' := [(2, .int 0), (3, .int x4), (0, .ref 0), (1, .int y1)]) (i := 2) (a := 2) rfl (by decide) rfl (dk_X7_takesE 104 _ rfl) ?_
          refine F_goto (tgt := 22) (by decide) (dk_X7_takesE 105 _ rfl) ?_
          exact F_loc (List.forall_mem_cons.mpr ⟨(.tail _ (.tail _ (.head _))), (List.forall_mem_cons.mpr ⟨(.tail _ (.tail _ (.tail _ (.head _)))), (List.forall_mem_cons.mpr ⟨(.head _), (fun _ z => absurd z List.not_mem_nil)⟩)⟩)⟩) (hK22 _ _ _ )
      · exact F_loc (List.forall_mem_cons.mpr ⟨(.tail _ (.head _)), (List.forall_mem_cons.mpr ⟨(.tail _ (.tail _ (.head _))), (List.forall_mem_cons.mpr ⟨(.tail _ (.tail _ (.tail _ (.head _)))), (List.forall_mem_cons.mpr ⟨(.head _), (fun _ z => absurd z List.not_mem_nil)⟩)⟩)⟩)⟩) (j_X7_takesE_43 K22 hK22 _ _ _ _ )
theorem j_X7_takesE_22   : ∀ (F : Nat) (m : mM) (y1 : Int32) (y2 : Int32) , JF false uI m_X7_takesE 6 22 [(0, .ref 0), (1, .int y1), (2, .int y2)] [] m (f_X7_takesE_22  F m y1 y2) := by
  intro F
  induction F with
  | zero => intro m y1 y2 ; exact F_no
  | succ F ih => intro m y1 y2 ; exact jb_X7_takesE_22  (f_X7_takesE_22  F)  ih m y1 y2 
def f_X7_takesE (m : mM) (p1 : Int32) : fR Int32 :=
  nmM (wI m 24 0) fun m1 => nmM (wI m1 25 0) fun m2 => (sA 0 m2 12 p1 (mI m2 23)).bind fun m3 => (f_X7_takesE_22  1000 m3 p1 1)
theorem c_X7_takesE (m : mM) (p1 : Int32)  : cF false uI m_X7_takesE 6 [.ref 0, .int p1] m (f_X7_takesE m p1) := by
  refine cF_of ok_X7_takesE (fun _ _ => Nat.le_of_ble_eq_true rfl) ?_
  unfold f_X7_takesE
  show JF _ _ _ _ _ [(0, .ref 0), (1, .int p1)] _ _ _
  refine F_aload_n (i := 0) (a := 0) rfl rfl (dk_X7_takesE 0 _ rfl) ?_
  refine F_iconst (v := 0) (by decide) (dk_X7_takesE 1 _ rfl) ?_
  refine F_pI (n := 24) fxM_7_24_0 rfl fl_7_84 (fun q hq => by cases hq; rfl) trivial (dk_X7_takesE 2 _ rfl) (fun m1 => ?_)
  refine F_aload_n (i := 0) (a := 0) rfl rfl (dk_X7_takesE 5 _ rfl) ?_
  refine F_iconst (v := 0) (by decide) (dk_X7_takesE 6 _ rfl) ?_
  refine F_pI (n := 25) fxM_7_25_0 rfl fl_7_87 (fun q hq => by cases hq; rfl) trivial (dk_X7_takesE 7 _ rfl) (fun m2 => ?_)
  refine F_aload_n (i := 0) (a := 0) rfl rfl (dk_X7_takesE 10 _ rfl) ?_
  refine F_gR (b := 12) fxM_7_19_0 fl_7_69 (dk_X7_takesE 11 _ rfl) ?_
  refine F_iload_n (i := 1) (a := 1) rfl rfl (dk_X7_takesE 14 _ rfl) ?_
  refine F_aload_n (i := 0) (a := 0) rfl rfl (dk_X7_takesE 15 _ rfl) ?_
  refine F_gI (n := 23) fxM_7_23_0 rfl fl_7_81 (dk_X7_takesE 16 _ rfl) ?_
  refine F_iast (axM_0_12) (dk_X7_takesE 19 _ rfl) (fun m3 => ?_)
  refine F_iconst (v := 1) (by decide) (dk_X7_takesE 20 _ rfl) ?_
  refine F_istore_n (lv' := [(2, .int 1), (0, .ref 0), (1, .int p1)]) (i := 2) (a := 2) rfl (by decide) rfl (dk_X7_takesE 21 _ rfl) ?_
  exact F_loc (List.forall_mem_cons.mpr ⟨(.tail _ (.head _)), (List.forall_mem_cons.mpr ⟨(.tail _ (.tail _ (.head _))), (List.forall_mem_cons.mpr ⟨(.head _), (fun _ z => absurd z List.not_mem_nil)⟩)⟩)⟩) (j_X7_takesE_22   1000 _ _ _ )
def f_X7_takesHead (m : mM) (p1 : Int32) : fR Int32 :=
  bnd (f_X7_next m ) fun (x1 : Int32) (m2 : mM) => (if x1 = 99 then (sA 0 m2 10 p1 2).bind fun m5 => bnd (f_X7_takesWord m5 7 4) fun (x6 : Int32) (m7 : mM) => chZ x6 (some (x6, m7)) else if x1 = 100 then (sA 0 m2 10 p1 1).bind fun m9 => bnd (f_X7_takesWord m9 4 3) fun (x10 : Int32) (m11 : mM) => chZ x10 (some (x10, m11)) else if x1 = 116 then (sA 0 m2 10 p1 0).bind fun m13 => bnd (f_X7_takesWord m13 0 4) fun (x14 : Int32) (m15 : mM) => chZ x14 (some (x14, m15)) else (sA 0 m2 10 p1 3).bind fun m17 => bnd (f_X7_takesWord m17 11 5) fun (x18 : Int32) (m19 : mM) => chZ x18 (some (x18, m19)))
theorem c_X7_takesHead (m : mM) (p1 : Int32)  : cF false uI m_X7_takesHead 5 [.ref 0, .int p1] m (f_X7_takesHead m p1) := by
  refine cF_of ok_X7_takesHead (fun _ _ => Nat.le_of_ble_eq_true rfl) ?_
  unfold f_X7_takesHead
  show JF _ _ _ _ _ [(0, .ref 0), (1, .int p1)] _ _ _
  refine F_aload_n (i := 0) (a := 0) rfl rfl (dk_X7_takesHead 0 _ rfl) ?_
  refine F_callV (ι' := uI) (ci := 7) (b := 0) (As := []) (d' := 2) (rfl) ok_X7_next vi_X7_next cl_7_209 (n := 0) (by decide +kernel) rfl rfl rfl (Nat.le_of_ble_eq_true rfl) (by omega) (dk_X7_takesHead 1 _ rfl) (c_X7_next _  ) (fun x1 m2 => ?_)
  show JF _ _ _ _ _ _ [.int x1] _ _
  refine F_case (fun c4_0 => ?_) (fun c4_0 => ?_)
  · rw [c4_0]; refine F_look (off := 64) (tgt := 68) (by decide) (by decide) (by decide) (dk_X7_takesHead 4 _ rfl) ?_
    refine F_aload_n (i := 0) (a := 0) rfl rfl (dk_X7_takesHead 68 _ rfl) ?_
    refine F_gR (b := 10) fxM_7_17_0 fl_7_63 (dk_X7_takesHead 69 _ rfl) ?_
    refine F_iload_n (i := 1) (a := 1) rfl rfl (dk_X7_takesHead 72 _ rfl) ?_
    refine F_iconst (v := 2) (by decide) (dk_X7_takesHead 73 _ rfl) ?_
    refine F_iast (axM_0_10) (dk_X7_takesHead 74 _ rfl) (fun m5 => ?_)
    refine F_aload_n (i := 0) (a := 0) rfl rfl (dk_X7_takesHead 75 _ rfl) ?_
    refine F_bipush (v := 7) (by decide) (dk_X7_takesHead 76 _ rfl) ?_
    refine F_iconst (v := 4) (by decide) (dk_X7_takesHead 78 _ rfl) ?_
    refine F_callV (ι' := uI) (ci := 7) (b := 0) (As := [.int 7, .int 4]) (d' := 4) (rfl) ok_X7_takesWord vi_X7_takesWord cl_7_240 (n := 2) (by decide +kernel) rfl rfl rfl (Nat.le_of_ble_eq_true rfl) (by omega) (dk_X7_takesHead 79 _ rfl) (c_X7_takesWord _ _ _ ) (fun x6 m7 => ?_)
    show JF _ _ _ _ _ _ [.int x6] _ _
    exact F_retZ rfl (dk_X7_takesHead 82 _ rfl)
  refine F_case (fun c4_1 => ?_) (fun c4_1 => ?_)
  · rw [c4_1]; refine F_look (off := 50) (tgt := 54) (by decide) (by decide) (by decide) (dk_X7_takesHead 4 _ rfl) ?_
    refine F_aload_n (i := 0) (a := 0) rfl rfl (dk_X7_takesHead 54 _ rfl) ?_
    refine F_gR (b := 10) fxM_7_17_0 fl_7_63 (dk_X7_takesHead 55 _ rfl) ?_
    refine F_iload_n (i := 1) (a := 1) rfl rfl (dk_X7_takesHead 58 _ rfl) ?_
    refine F_iconst (v := 1) (by decide) (dk_X7_takesHead 59 _ rfl) ?_
    refine F_iast (axM_0_10) (dk_X7_takesHead 60 _ rfl) (fun m9 => ?_)
    refine F_aload_n (i := 0) (a := 0) rfl rfl (dk_X7_takesHead 61 _ rfl) ?_
    refine F_iconst (v := 4) (by decide) (dk_X7_takesHead 62 _ rfl) ?_
    refine F_iconst (v := 3) (by decide) (dk_X7_takesHead 63 _ rfl) ?_
    refine F_callV (ι' := uI) (ci := 7) (b := 0) (As := [.int 4, .int 3]) (d' := 4) (rfl) ok_X7_takesWord vi_X7_takesWord cl_7_240 (n := 2) (by decide +kernel) rfl rfl rfl (Nat.le_of_ble_eq_true rfl) (by omega) (dk_X7_takesHead 64 _ rfl) (c_X7_takesWord _ _ _ ) (fun x10 m11 => ?_)
    show JF _ _ _ _ _ _ [.int x10] _ _
    exact F_retZ rfl (dk_X7_takesHead 67 _ rfl)
  refine F_case (fun c4_2 => ?_) (fun c4_2 => ?_)
  · rw [c4_2]; refine F_look (off := 36) (tgt := 40) (by decide) (by decide) (by decide) (dk_X7_takesHead 4 _ rfl) ?_
    refine F_aload_n (i := 0) (a := 0) rfl rfl (dk_X7_takesHead 40 _ rfl) ?_
    refine F_gR (b := 10) fxM_7_17_0 fl_7_63 (dk_X7_takesHead 41 _ rfl) ?_
    refine F_iload_n (i := 1) (a := 1) rfl rfl (dk_X7_takesHead 44 _ rfl) ?_
    refine F_iconst (v := 0) (by decide) (dk_X7_takesHead 45 _ rfl) ?_
    refine F_iast (axM_0_10) (dk_X7_takesHead 46 _ rfl) (fun m13 => ?_)
    refine F_aload_n (i := 0) (a := 0) rfl rfl (dk_X7_takesHead 47 _ rfl) ?_
    refine F_iconst (v := 0) (by decide) (dk_X7_takesHead 48 _ rfl) ?_
    refine F_iconst (v := 4) (by decide) (dk_X7_takesHead 49 _ rfl) ?_
    refine F_callV (ι' := uI) (ci := 7) (b := 0) (As := [.int 0, .int 4]) (d' := 4) (rfl) ok_X7_takesWord vi_X7_takesWord cl_7_240 (n := 2) (by decide +kernel) rfl rfl rfl (Nat.le_of_ble_eq_true rfl) (by omega) (dk_X7_takesHead 50 _ rfl) (c_X7_takesWord _ _ _ ) (fun x14 m15 => ?_)
    show JF _ _ _ _ _ _ [.int x14] _ _
    exact F_retZ rfl (dk_X7_takesHead 53 _ rfl)
  refine F_look (off := 79) (tgt := 83) (by decide) (by have q0 := fI_ne c4_0; rw [show (99 : Int32).toInt = 99 from by decide] at q0; have q1 := fI_ne c4_1; rw [show (100 : Int32).toInt = 100 from by decide] at q1; have q2 := fI_ne c4_2; rw [show (116 : Int32).toInt = 116 from by decide] at q2; simp [Op.lookupswitch.offset, q0, Ne.symm q0, q1, Ne.symm q1, q2, Ne.symm q2]) (by decide) (dk_X7_takesHead 4 _ rfl) ?_
  refine F_aload_n (i := 0) (a := 0) rfl rfl (dk_X7_takesHead 83 _ rfl) ?_
  refine F_gR (b := 10) fxM_7_17_0 fl_7_63 (dk_X7_takesHead 84 _ rfl) ?_
  refine F_iload_n (i := 1) (a := 1) rfl rfl (dk_X7_takesHead 87 _ rfl) ?_
  refine F_iconst (v := 3) (by decide) (dk_X7_takesHead 88 _ rfl) ?_
  refine F_iast (axM_0_10) (dk_X7_takesHead 89 _ rfl) (fun m17 => ?_)
  refine F_aload_n (i := 0) (a := 0) rfl rfl (dk_X7_takesHead 90 _ rfl) ?_
  refine F_bipush (v := 11) (by decide) (dk_X7_takesHead 91 _ rfl) ?_
  refine F_iconst (v := 5) (by decide) (dk_X7_takesHead 93 _ rfl) ?_
  refine F_callV (ι' := uI) (ci := 7) (b := 0) (As := [.int 11, .int 5]) (d' := 4) (rfl) ok_X7_takesWord vi_X7_takesWord cl_7_240 (n := 2) (by decide +kernel) rfl rfl rfl (Nat.le_of_ble_eq_true rfl) (by omega) (dk_X7_takesHead 94 _ rfl) (c_X7_takesWord _ _ _ ) (fun x18 m19 => ?_)
  show JF _ _ _ _ _ _ [.int x18] _ _
  exact F_retZ rfl (dk_X7_takesHead 97 _ rfl)
end
