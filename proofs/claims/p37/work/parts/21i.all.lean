-- 21i.fun.lean.txt
section
section
set_option maxRecDepth 100000
def f_X7_feed (m : mM) (p1 : Int32) : fR Int32 :=
  bnd (f_X7_in m p1 0 127) fun (x1 : Int32) (m2 : mM) => (if x1 = 0 then some ((-2), m2) else (if (mI m2 12) = 100 then some ((-4), m2) else (sA 0 m2 8 (mI m2 12) p1).bind fun m4 => nmM (wI m4 12 (((mI m4 12) + 1))) fun m5 => some ((mI m5 12), m5)))
theorem c_X7_feed (m : mM) (p1 : Int32)  : cF false uI m_X7_feed 3 [.ref 0, .int p1] m (f_X7_feed m p1) := by
  refine cF_of ok_X7_feed (fun _ _ => Nat.le_of_ble_eq_true rfl) ?_
  unfold f_X7_feed
  show JF _ _ _ _ _ [(0, .ref 0), (1, .int p1)] _ _ _
  refine F_aload_n (i := 0) (a := 0) rfl rfl (dk_X7_feed 0 _ rfl) ?_
  refine F_iload_n (i := 1) (a := 1) rfl rfl (dk_X7_feed 1 _ rfl) ?_
  refine F_iconst (v := 0) (by decide) (dk_X7_feed 2 _ rfl) ?_
  refine F_bipush (v := 127) (by decide) (dk_X7_feed 3 _ rfl) ?_
  refine F_callV (ι' := uI) (ci := 7) (b := 0) (As := [.int p1, .int 0, .int 127]) (d' := 2) (rfl) ok_X7_in vi_X7_in cl_7_194 (n := 3) (by decide +kernel) rfl rfl rfl (Nat.le_of_ble_eq_true rfl) (by omega) (dk_X7_feed 5 _ rfl) (c_X7_in _ _ _ _ ) (fun x1 m2 => ?_)
  show JF _ _ _ _ _ _ [.int x1] _ _
  refine F_if_ne (tgt := 14) (by decide) (dk_X7_feed 8 _ rfl) ?_ ?_
  · refine F_aload_n (i := 0) (a := 0) rfl rfl (dk_X7_feed 14 _ rfl) ?_
    refine F_gI (n := 12) fxM_7_12_0 rfl fl_7_48 (dk_X7_feed 15 _ rfl) ?_
    refine F_bipush (v := 100) (by decide) (dk_X7_feed 18 _ rfl) ?_
    refine F_icmp_ne (tgt := 26) (by decide) (dk_X7_feed 20 _ rfl) ?_ ?_
    · refine F_aload_n (i := 0) (a := 0) rfl rfl (dk_X7_feed 26 _ rfl) ?_
      refine F_gR (b := 8) fxM_7_15_0 fl_7_57 (dk_X7_feed 27 _ rfl) ?_
      refine F_aload_n (i := 0) (a := 0) rfl rfl (dk_X7_feed 30 _ rfl) ?_
      refine F_gI (n := 12) fxM_7_12_0 rfl fl_7_48 (dk_X7_feed 31 _ rfl) ?_
      refine F_iload_n (i := 1) (a := 1) rfl rfl (dk_X7_feed 34 _ rfl) ?_
      refine F_iast (axM_0_8) (dk_X7_feed 35 _ rfl) (fun m4 => ?_)
      refine F_aload_n (i := 0) (a := 0) rfl rfl (dk_X7_feed 36 _ rfl) ?_
      refine F_dup rfl (dk_X7_feed 37 _ rfl) ?_
      refine F_gI (n := 12) fxM_7_12_0 rfl fl_7_48 (dk_X7_feed 38 _ rfl) ?_
      refine F_iconst (v := 1) (by decide) (dk_X7_feed 41 _ rfl) ?_
      refine F_iadd (dk_X7_feed 42 _ rfl) ?_
      refine F_pI (n := 12) fxM_7_12_0 rfl fl_7_48 (fun q hq => by cases hq; rfl) trivial (dk_X7_feed 43 _ rfl) (fun m5 => ?_)
      refine F_aload_n (i := 0) (a := 0) rfl rfl (dk_X7_feed 46 _ rfl) ?_
      refine F_gI (n := 12) fxM_7_12_0 rfl fl_7_48 (dk_X7_feed 47 _ rfl) ?_
      exact F_ret rfl (dk_X7_feed 50 _ rfl)
    · refine F_bipush (v := (-4)) (by decide) (dk_X7_feed 23 _ rfl) ?_
      exact F_ret rfl (dk_X7_feed 25 _ rfl)
  · refine F_bipush (v := (-2)) (by decide) (dk_X7_feed 11 _ rfl) ?_
    exact F_ret rfl (dk_X7_feed 13 _ rfl)
def f_X7_next (m : mM)  : fR Int32 :=
  (if (mI m 12) ≤ (mI m 13) then some ((-1), m) else (gA (mA m 8) (mI m 13)).bind fun x1 => some (x1, m))
theorem c_X7_next (m : mM)   : cF false uI m_X7_next 2 [.ref 0] m (f_X7_next m ) := by
  refine cF_of ok_X7_next (fun _ _ => Nat.le_of_ble_eq_true rfl) ?_
  unfold f_X7_next
  show JF _ _ _ _ _ [(0, .ref 0)] _ _ _
  refine F_aload_n (i := 0) (a := 0) rfl rfl (dk_X7_next 0 _ rfl) ?_
  refine F_gI (n := 13) fxM_7_13_0 rfl fl_7_51 (dk_X7_next 1 _ rfl) ?_
  refine F_aload_n (i := 0) (a := 0) rfl rfl (dk_X7_next 4 _ rfl) ?_
  refine F_gI (n := 12) fxM_7_12_0 rfl fl_7_48 (dk_X7_next 5 _ rfl) ?_
  refine F_icmp_ge (tgt := 23) (by decide) (dk_X7_next 8 _ rfl) ?_ ?_
  · refine F_iconst (v := (-1)) (by decide) (dk_X7_next 23 _ rfl) ?_
    exact F_ret rfl (dk_X7_next 24 _ rfl)
  · refine F_aload_n (i := 0) (a := 0) rfl rfl (dk_X7_next 11 _ rfl) ?_
    refine F_gR (b := 8) fxM_7_15_0 fl_7_57 (dk_X7_next 12 _ rfl) ?_
    refine F_aload_n (i := 0) (a := 0) rfl rfl (dk_X7_next 15 _ rfl) ?_
    refine F_gI (n := 13) fxM_7_13_0 rfl fl_7_51 (dk_X7_next 16 _ rfl) ?_
    refine F_iald (axM_0_8) (dk_X7_next 19 _ rfl) (fun x1 => ?_)
    refine F_goto (tgt := 24) (by decide) (dk_X7_next 20 _ rfl) ?_
    exact F_ret rfl (dk_X7_next 24 _ rfl)
def f_X7_takes (m : mM) (p1 : Int32) : fR Int32 :=
  bnd (f_X7_next m ) fun (x1 : Int32) (m2 : mM) => (if x1 = p1 then nmM (wI m2 13 (((mI m2 13) + 1))) fun m4 => some (1, m4) else some (0, m2))
theorem c_X7_takes (m : mM) (p1 : Int32)  : cF false uI m_X7_takes 3 [.ref 0, .int p1] m (f_X7_takes m p1) := by
  refine cF_of ok_X7_takes (fun _ _ => Nat.le_of_ble_eq_true rfl) ?_
  unfold f_X7_takes
  show JF _ _ _ _ _ [(0, .ref 0), (1, .int p1)] _ _ _
  refine F_aload_n (i := 0) (a := 0) rfl rfl (dk_X7_takes 0 _ rfl) ?_
  refine F_callV (ι' := uI) (ci := 7) (b := 0) (As := []) (d' := 2) (rfl) ok_X7_next vi_X7_next cl_7_209 (n := 0) (by decide +kernel) rfl rfl rfl (Nat.le_of_ble_eq_true rfl) (by omega) (dk_X7_takes 1 _ rfl) (c_X7_next _  ) (fun x1 m2 => ?_)
  show JF _ _ _ _ _ _ [.int x1] _ _
  refine F_iload_n (i := 1) (a := 1) rfl rfl (dk_X7_takes 4 _ rfl) ?_
  refine F_icmp_eq (tgt := 10) (by decide) (dk_X7_takes 5 _ rfl) ?_ ?_
  · refine F_aload_n (i := 0) (a := 0) rfl rfl (dk_X7_takes 10 _ rfl) ?_
    refine F_dup rfl (dk_X7_takes 11 _ rfl) ?_
    refine F_gI (n := 13) fxM_7_13_0 rfl fl_7_51 (dk_X7_takes 12 _ rfl) ?_
    refine F_iconst (v := 1) (by decide) (dk_X7_takes 15 _ rfl) ?_
    refine F_iadd (dk_X7_takes 16 _ rfl) ?_
    refine F_pI (n := 13) fxM_7_13_0 rfl fl_7_51 (fun q hq => by cases hq; rfl) trivial (dk_X7_takes 17 _ rfl) (fun m4 => ?_)
    refine F_iconst (v := 1) (by decide) (dk_X7_takes 20 _ rfl) ?_
    exact F_retB rfl (Or.inr rfl) (dk_X7_takes 21 _ rfl)
  · refine F_iconst (v := 0) (by decide) (dk_X7_takes 8 _ rfl) ?_
    exact F_retB rfl (Or.inl rfl) (dk_X7_takes 9 _ rfl)
def fb_X7_takesWord_2 (K2 : mM → Int32 → Int32 → Int32 → fR Int32) (m : mM) (y1 : Int32) (y2 : Int32) (y3 : Int32) : fR Int32 :=
  (if y2 ≤ y3 then bnd (f_X7_takes m 32) fun (x1 : Int32) (m2 : mM) => chZ x1 (some (x1, m2)) else (gA (mA m 16) (y1 + y3)).bind fun x4 => bnd (f_X7_takes m x4) fun (x5 : Int32) (m6 : mM) => (if x5 = 0 then some (0, m6) else (K2 m6 y1 y2 (y3 + 1))))
def f_X7_takesWord_2  : Nat → mM → Int32 → Int32 → Int32 → fR Int32
  | 0, _, _, _, _ => none
  | F + 1, m, y1, y2, y3 => fb_X7_takesWord_2  (f_X7_takesWord_2  F) m y1 y2 y3
theorem jb_X7_takesWord_2 (K2 : mM → Int32 → Int32 → Int32 → fR Int32) (hK2 : ∀ (m : mM) (y1 : Int32) (y2 : Int32) (y3 : Int32) , JF false uI m_X7_takesWord 4 2 [(0, .ref 0), (1, .int y1), (2, .int y2), (3, .int y3)] [] m (K2 m y1 y2 y3)) (m : mM) (y1 : Int32) (y2 : Int32) (y3 : Int32)  : JF false uI m_X7_takesWord 4 2 [(0, .ref 0), (1, .int y1), (2, .int y2), (3, .int y3)] [] m (fb_X7_takesWord_2 K2 m y1 y2 y3) := by
  unfold fb_X7_takesWord_2
  refine F_iload_n (i := 3) (a := 3) rfl rfl (dk_X7_takesWord 2 _ rfl) ?_
  refine F_iload_n (i := 2) (a := 2) rfl rfl (dk_X7_takesWord 3 _ rfl) ?_
  refine F_icmp_ge (tgt := 30) (by decide) (dk_X7_takesWord 4 _ rfl) ?_ ?_
  · refine F_aload_n (i := 0) (a := 0) rfl rfl (dk_X7_takesWord 30 _ rfl) ?_
    refine F_bipush (v := 32) (by decide) (dk_X7_takesWord 31 _ rfl) ?_
    refine F_callV (ι' := uI) (ci := 7) (b := 0) (As := [.int 32]) (d' := 3) (rfl) ok_X7_takes vi_X7_takes cl_7_213 (n := 1) (by decide +kernel) rfl rfl rfl (Nat.le_of_ble_eq_true rfl) (by omega) (dk_X7_takesWord 33 _ rfl) (c_X7_takes _ _ ) (fun x1 m2 => ?_)
    show JF _ _ _ _ _ _ [.int x1] _ _
    exact F_retZ rfl (dk_X7_takesWord 36 _ rfl)
  · refine F_aload_n (i := 0) (a := 0) rfl rfl (dk_X7_takesWord 7 _ rfl) ?_
    refine F_aload_n (i := 0) (a := 0) rfl rfl (dk_X7_takesWord 8 _ rfl) ?_
    refine F_gR (b := 16) fxM_7_26_0 fl_7_90 (dk_X7_takesWord 9 _ rfl) ?_
    refine F_iload_n (i := 1) (a := 1) rfl rfl (dk_X7_takesWord 12 _ rfl) ?_
    refine F_iload_n (i := 3) (a := 3) rfl rfl (dk_X7_takesWord 13 _ rfl) ?_
    refine F_iadd (dk_X7_takesWord 14 _ rfl) ?_
    refine F_iald (axM_0_16) (dk_X7_takesWord 15 _ rfl) (fun x4 => ?_)
    refine F_callV (ι' := uI) (ci := 7) (b := 0) (As := [.int x4]) (d' := 3) (rfl) ok_X7_takes vi_X7_takes cl_7_213 (n := 1) (by decide +kernel) rfl rfl rfl (Nat.le_of_ble_eq_true rfl) (by omega) (dk_X7_takesWord 16 _ rfl) (c_X7_takes _ _ ) (fun x5 m6 => ?_)
    show JF _ _ _ _ _ _ [.int x5] _ _
    refine F_if_ne (tgt := 24) (by decide) (dk_X7_takesWord 19 _ rfl) ?_ ?_
    · refine F_iinc (i := 3) (n := 1) (v := (y3 + 1)) (lv' := [(3, .int (y3 + 1)), (0, .ref 0), (1, .int y1), (2, .int y2)]) rfl (by first | rfl | decide) (by decide) rfl (dk_X7_takesWord 24 _ rfl) ?_
      refine F_goto (tgt := 2) (by decide) (dk_X7_takesWord 27 _ rfl) ?_
      exact F_loc (List.forall_mem_cons.mpr ⟨(.tail _ (.head _)), (List.forall_mem_cons.mpr ⟨(.tail _ (.tail _ (.head _))), (List.forall_mem_cons.mpr ⟨(.tail _ (.tail _ (.tail _ (.head _)))), (List.forall_mem_cons.mpr ⟨(.head _), (fun _ z => absurd z List.not_mem_nil)⟩)⟩)⟩)⟩) (hK2 _ _ _ _ )
    · refine F_iconst (v := 0) (by decide) (dk_X7_takesWord 22 _ rfl) ?_
      exact F_retB rfl (Or.inl rfl) (dk_X7_takesWord 23 _ rfl)
theorem j_X7_takesWord_2   : ∀ (F : Nat) (m : mM) (y1 : Int32) (y2 : Int32) (y3 : Int32) , JF false uI m_X7_takesWord 4 2 [(0, .ref 0), (1, .int y1), (2, .int y2), (3, .int y3)] [] m (f_X7_takesWord_2  F m y1 y2 y3) := by
  intro F
  induction F with
  | zero => intro m y1 y2 y3 ; exact F_no
  | succ F ih => intro m y1 y2 y3 ; exact jb_X7_takesWord_2  (f_X7_takesWord_2  F)  ih m y1 y2 y3 
def f_X7_takesWord (m : mM) (p1 : Int32) (p2 : Int32) : fR Int32 :=
  (f_X7_takesWord_2  1000 m p1 p2 0)
theorem c_X7_takesWord (m : mM) (p1 : Int32) (p2 : Int32)  : cF false uI m_X7_takesWord 4 [.ref 0, .int p1, .int p2] m (f_X7_takesWord m p1 p2) := by
  refine cF_of ok_X7_takesWord (fun _ _ => Nat.le_of_ble_eq_true rfl) ?_
  unfold f_X7_takesWord
  show JF _ _ _ _ _ [(0, .ref 0), (1, .int p1), (2, .int p2)] _ _ _
  refine F_iconst (v := 0) (by decide) (dk_X7_takesWord 0 _ rfl) ?_
  refine F_istore_n (lv' := [(3, .int 0), (0, .ref 0), (1, .int p1), (2, .int p2)]) (i := 3) (a := 3) rfl (by decide) rfl (dk_X7_takesWord 1 _ rfl) ?_
  exact F_loc (List.forall_mem_cons.mpr ⟨(.tail _ (.head _)), (List.forall_mem_cons.mpr ⟨(.tail _ (.tail _ (.head _))), (List.forall_mem_cons.mpr ⟨(.tail _ (.tail _ (.tail _ (.head _)))), (List.forall_mem_cons.mpr ⟨(.head _), (fun _ z => absurd z List.not_mem_nil)⟩)⟩)⟩)⟩) (j_X7_takesWord_2   1000 _ _ _ _ )
def f_X7_isDigit (m : mM)  : fR Int32 :=
  bnd (f_X7_next m ) fun (x1 : Int32) (m2 : mM) => bnd (f_X7_in m2 x1 48 57) fun (x4 : Int32) (m5 : mM) => chZ x4 (some (x4, m5))
theorem c_X7_isDigit (m : mM)   : cF false uI m_X7_isDigit 3 [.ref 0] m (f_X7_isDigit m ) := by
  refine cF_of ok_X7_isDigit (fun _ _ => Nat.le_of_ble_eq_true rfl) ?_
  unfold f_X7_isDigit
  show JF _ _ _ _ _ [(0, .ref 0)] _ _ _
  refine F_aload_n (i := 0) (a := 0) rfl rfl (dk_X7_isDigit 0 _ rfl) ?_
  refine F_aload_n (i := 0) (a := 0) rfl rfl (dk_X7_isDigit 1 _ rfl) ?_
  refine F_callV (ι' := uI) (ci := 7) (b := 0) (As := []) (d' := 2) (rfl) ok_X7_next vi_X7_next cl_7_209 (n := 0) (by decide +kernel) rfl rfl rfl (Nat.le_of_ble_eq_true rfl) (by omega) (dk_X7_isDigit 2 _ rfl) (c_X7_next _  ) (fun x1 m2 => ?_)
  show JF _ _ _ _ _ _ [.int x1, .ref 0] _ _
  refine F_bipush (v := 48) (by decide) (dk_X7_isDigit 5 _ rfl) ?_
  refine F_bipush (v := 57) (by decide) (dk_X7_isDigit 7 _ rfl) ?_
  refine F_callV (ι' := uI) (ci := 7) (b := 0) (As := [.int x1, .int 48, .int 57]) (d' := 2) (rfl) ok_X7_in vi_X7_in cl_7_194 (n := 3) (by decide +kernel) rfl rfl rfl (Nat.le_of_ble_eq_true rfl) (by omega) (dk_X7_isDigit 9 _ rfl) (c_X7_in _ _ _ _ ) (fun x4 m5 => ?_)
  show JF _ _ _ _ _ _ [.int x4] _ _
  exact F_retZ rfl (dk_X7_isDigit 12 _ rfl)
def fb_X7_takesNumber_16 (K16 : mM → Int32 → fR Int32) (m : mM) (y1 : Int32) : fR Int32 :=
  (if 2 ≤ y1 then some (1, m) else bnd (f_X7_isDigit m ) fun (x5 : Int32) (m6 : mM) => (if x5 = 0 then some (1, m6) else bnd (f_X7_next m6 ) fun (x8 : Int32) (m9 : mM) => nmM (wI m9 14 ((((10 * (mI m6 14)) + x8) - 48))) fun m11 => nmM (wI m11 13 (((mI m11 13) + 1))) fun m12 => (K16 m12 (y1 + 1))))
def f_X7_takesNumber_16  : Nat → mM → Int32 → fR Int32
  | 0, _, _ => none
  | F + 1, m, y1 => fb_X7_takesNumber_16  (f_X7_takesNumber_16  F) m y1
theorem jb_X7_takesNumber_16 (K16 : mM → Int32 → fR Int32) (hK16 : ∀ (m : mM) (y1 : Int32) , JF false uI m_X7_takesNumber 4 16 [(0, .ref 0), (1, .int y1)] [] m (K16 m y1)) (m : mM) (y1 : Int32)  : JF false uI m_X7_takesNumber 4 16 [(0, .ref 0), (1, .int y1)] [] m (fb_X7_takesNumber_16 K16 m y1) := by
  unfold fb_X7_takesNumber_16
  refine F_iload_n (i := 1) (a := 1) rfl rfl (dk_X7_takesNumber 16 _ rfl) ?_
  refine F_iconst (v := 2) (by decide) (dk_X7_takesNumber 17 _ rfl) ?_
  refine F_icmp_ge (tgt := 63) (by decide) (dk_X7_takesNumber 18 _ rfl) ?_ ?_
  · refine F_iconst (v := 1) (by decide) (dk_X7_takesNumber 63 _ rfl) ?_
    exact F_retB rfl (Or.inr rfl) (dk_X7_takesNumber 64 _ rfl)
  · refine F_aload_n (i := 0) (a := 0) rfl rfl (dk_X7_takesNumber 21 _ rfl) ?_
    refine F_callV (ι' := uI) (ci := 7) (b := 0) (As := []) (d' := 3) (rfl) ok_X7_isDigit vi_X7_isDigit cl_7_216 (n := 0) (by decide +kernel) rfl rfl rfl (Nat.le_of_ble_eq_true rfl) (by omega) (dk_X7_takesNumber 22 _ rfl) (c_X7_isDigit _  ) (fun x5 m6 => ?_)
    show JF _ _ _ _ _ _ [.int x5] _ _
    refine F_if_eq (tgt := 63) (by decide) (dk_X7_takesNumber 25 _ rfl) ?_ ?_
    · refine F_iconst (v := 1) (by decide) (dk_X7_takesNumber 63 _ rfl) ?_
      exact F_retB rfl (Or.inr rfl) (dk_X7_takesNumber 64 _ rfl)
    · refine F_aload_n (i := 0) (a := 0) rfl rfl (dk_X7_takesNumber 28 _ rfl) ?_
      refine F_bipush (v := 10) (by decide) (dk_X7_takesNumber 29 _ rfl) ?_
      refine F_aload_n (i := 0) (a := 0) rfl rfl (dk_X7_takesNumber 31 _ rfl) ?_
      refine F_gI (n := 14) fxM_7_14_0 rfl fl_7_54 (dk_X7_takesNumber 32 _ rfl) ?_
      refine F_imul (dk_X7_takesNumber 35 _ rfl) ?_
      refine F_aload_n (i := 0) (a := 0) rfl rfl (dk_X7_takesNumber 36 _ rfl) ?_
      refine F_callV (ι' := uI) (ci := 7) (b := 0) (As := []) (d' := 2) (rfl) ok_X7_next vi_X7_next cl_7_209 (n := 0) (by decide +kernel) rfl rfl rfl (Nat.le_of_ble_eq_true rfl) (by omega) (dk_X7_takesNumber 37 _ rfl) (c_X7_next _  ) (fun x8 m9 => ?_)
      show JF _ _ _ _ _ _ [.int x8, .int (10 * (mI m6 14)), .ref 0] _ _
      refine F_iadd (dk_X7_takesNumber 40 _ rfl) ?_
      refine F_bipush (v := 48) (by decide) (dk_X7_takesNumber 41 _ rfl) ?_
      refine F_isub (dk_X7_takesNumber 43 _ rfl) ?_
      refine F_pI (n := 14) fxM_7_14_0 rfl fl_7_54 (fun q hq => by cases hq; rfl) trivial (dk_X7_takesNumber 44 _ rfl) (fun m11 => ?_)
      refine F_aload_n (i := 0) (a := 0) rfl rfl (dk_X7_takesNumber 47 _ rfl) ?_
      refine F_dup rfl (dk_X7_takesNumber 48 _ rfl) ?_
      refine F_gI (n := 13) fxM_7_13_0 rfl fl_7_51 (dk_X7_takesNumber 49 _ rfl) ?_
      refine F_iconst (v := 1) (by decide) (dk_X7_takesNumber 52 _ rfl) ?_
      refine F_iadd (dk_X7_takesNumber 53 _ rfl) ?_
      refine F_pI (n := 13) fxM_7_13_0 rfl fl_7_51 (fun q hq => by cases hq; rfl) trivial (dk_X7_takesNumber 54 _ rfl) (fun m12 => ?_)
      refine F_iinc (i := 1) (n := 1) (v := (y1 + 1)) (lv' := [(1, .int (y1 + 1)), (0, .ref 0)]) rfl (by first | rfl | decide) (by decide) rfl (dk_X7_takesNumber 57 _ rfl) ?_
      refine F_goto (tgt := 16) (by decide) (dk_X7_takesNumber 60 _ rfl) ?_
      exact F_loc (List.forall_mem_cons.mpr ⟨(.tail _ (.head _)), (List.forall_mem_cons.mpr ⟨(.head _), (fun _ z => absurd z List.not_mem_nil)⟩)⟩) (hK16 _ _ )
theorem j_X7_takesNumber_16   : ∀ (F : Nat) (m : mM) (y1 : Int32) , JF false uI m_X7_takesNumber 4 16 [(0, .ref 0), (1, .int y1)] [] m (f_X7_takesNumber_16  F m y1) := by
  intro F
  induction F with
  | zero => intro m y1 ; exact F_no
  | succ F ih => intro m y1 ; exact jb_X7_takesNumber_16  (f_X7_takesNumber_16  F)  ih m y1 
def f_X7_takesNumber (m : mM)  : fR Int32 :=
  bnd (f_X7_isDigit m ) fun (x1 : Int32) (m2 : mM) => (if x1 = 0 then some (0, m2) else nmM (wI m2 14 0) fun m4 => (f_X7_takesNumber_16  1000 m4 0))
theorem c_X7_takesNumber (m : mM)   : cF false uI m_X7_takesNumber 4 [.ref 0] m (f_X7_takesNumber m ) := by
  refine cF_of ok_X7_takesNumber (fun _ _ => Nat.le_of_ble_eq_true rfl) ?_
  unfold f_X7_takesNumber
  show JF _ _ _ _ _ [(0, .ref 0)] _ _ _
  refine F_aload_n (i := 0) (a := 0) rfl rfl (dk_X7_takesNumber 0 _ rfl) ?_
  refine F_callV (ι' := uI) (ci := 7) (b := 0) (As := []) (d' := 3) (rfl) ok_X7_isDigit vi_X7_isDigit cl_7_216 (n := 0) (by decide +kernel) rfl rfl rfl (Nat.le_of_ble_eq_true rfl) (by omega) (dk_X7_takesNumber 1 _ rfl) (c_X7_isDigit _  ) (fun x1 m2 => ?_)
  show JF _ _ _ _ _ _ [.int x1] _ _
  refine F_if_ne (tgt := 9) (by decide) (dk_X7_takesNumber 4 _ rfl) ?_ ?_
  · refine F_aload_n (i := 0) (a := 0) rfl rfl (dk_X7_takesNumber 9 _ rfl) ?_
    refine F_iconst (v := 0) (by decide) (dk_X7_takesNumber 10 _ rfl) ?_
    refine F_pI (n := 14) fxM_7_14_0 rfl fl_7_54 (fun q hq => by cases hq; rfl) trivial (dk_X7_takesNumber 11 _ rfl) (fun m4 => ?_)
    refine F_iconst (v := 0) (by decide) (dk_X7_takesNumber 14 _ rfl) ?_
    refine F_istore_n (lv' := [(1, .int 0), (0, .ref 0)]) (i := 1) (a := 1) rfl (by decide) rfl (dk_X7_takesNumber 15 _ rfl) ?_
    exact F_loc (List.forall_mem_cons.mpr ⟨(.tail _ (.head _)), (List.forall_mem_cons.mpr ⟨(.head _), (fun _ z => absurd z List.not_mem_nil)⟩)⟩) (j_X7_takesNumber_16   1000 _ _ )
  · refine F_iconst (v := 0) (by decide) (dk_X7_takesNumber 7 _ rfl) ?_
    exact F_retB rfl (Or.inl rfl) (dk_X7_takesNumber 8 _ rfl)
def f_X7_emits (m : mM) (p1 : Int32) : fR Unit :=
  (sA 0 m 14 (mI m 23) p1).bind fun m1 => nmM (wI m1 23 (((mI m1 23) + 1))) fun m2 => some ((), m2)
theorem c_X7_emits (m : mM) (p1 : Int32)  : cF false uU m_X7_emits 2 [.ref 0, .int p1] m (f_X7_emits m p1) := by
  refine cF_of ok_X7_emits (fun _ _ => Nat.le_of_ble_eq_true rfl) ?_
  unfold f_X7_emits
  show JF _ _ _ _ _ [(0, .ref 0), (1, .int p1)] _ _ _
  refine F_aload_n (i := 0) (a := 0) rfl rfl (dk_X7_emits 0 _ rfl) ?_
  refine F_gR (b := 14) fxM_7_21_0 fl_7_75 (dk_X7_emits 1 _ rfl) ?_
  refine F_aload_n (i := 0) (a := 0) rfl rfl (dk_X7_emits 4 _ rfl) ?_
  refine F_gI (n := 23) fxM_7_23_0 rfl fl_7_81 (dk_X7_emits 5 _ rfl) ?_
  refine F_iload_n (i := 1) (a := 1) rfl rfl (dk_X7_emits 8 _ rfl) ?_
  refine F_iast (axM_0_14) (dk_X7_emits 9 _ rfl) (fun m1 => ?_)
  refine F_aload_n (i := 0) (a := 0) rfl rfl (dk_X7_emits 10 _ rfl) ?_
  refine F_dup rfl (dk_X7_emits 11 _ rfl) ?_
  refine F_gI (n := 23) fxM_7_23_0 rfl fl_7_81 (dk_X7_emits 12 _ rfl) ?_
  refine F_iconst (v := 1) (by decide) (dk_X7_emits 15 _ rfl) ?_
  refine F_iadd (dk_X7_emits 16 _ rfl) ?_
  refine F_pI (n := 23) fxM_7_23_0 rfl fl_7_81 (fun q hq => by cases hq; rfl) trivial (dk_X7_emits 17 _ rfl) (fun m2 => ?_)
  exact F_retV rfl (dk_X7_emits 20 _ rfl)
def fb_X7_whole_0 (K0 : mM → fR Unit) (m : mM)  : fR Unit :=
  (if (mI m 24) ≤ 0 then some ((), m) else (gA (mA m 15) (((mI m 24) - 1))).bind fun x1 => (if x1 = 33 then bnd (f_X7_emits m (-33)) fun (x2 : Unit) (m3 : mM) => nmM (wI m3 24 (((mI m3 24) - 1))) fun m5 => nmM (wI m5 25 (((mI m5 25) - 1))) fun m6 => (K0 m6 ) else some ((), m)))
def f_X7_whole_0  : Nat → mM → fR Unit
  | 0, _ => none
  | F + 1, m => fb_X7_whole_0  (f_X7_whole_0  F) m 
theorem jb_X7_whole_0 (K0 : mM → fR Unit) (hK0 : ∀ (m : mM)  , JF false uU m_X7_whole 3 0 [(0, .ref 0)] [] m (K0 m )) (m : mM)   : JF false uU m_X7_whole 3 0 [(0, .ref 0)] [] m (fb_X7_whole_0 K0 m ) := by
  unfold fb_X7_whole_0
  refine F_aload_n (i := 0) (a := 0) rfl rfl (dk_X7_whole 0 _ rfl) ?_
  refine F_gI (n := 24) fxM_7_24_0 rfl fl_7_84 (dk_X7_whole 1 _ rfl) ?_
  refine F_if_le (tgt := 52) (by decide) (dk_X7_whole 4 _ rfl) ?_ ?_
  · exact F_retV rfl (dk_X7_whole 52 _ rfl)
  · refine F_aload_n (i := 0) (a := 0) rfl rfl (dk_X7_whole 7 _ rfl) ?_
    refine F_gR (b := 15) fxM_7_22_0 fl_7_78 (dk_X7_whole 8 _ rfl) ?_
    refine F_aload_n (i := 0) (a := 0) rfl rfl (dk_X7_whole 11 _ rfl) ?_
    refine F_gI (n := 24) fxM_7_24_0 rfl fl_7_84 (dk_X7_whole 12 _ rfl) ?_
    refine F_iconst (v := 1) (by decide) (dk_X7_whole 15 _ rfl) ?_
    refine F_isub (dk_X7_whole 16 _ rfl) ?_
    refine F_iald (axM_0_15) (dk_X7_whole 17 _ rfl) (fun x1 => ?_)
    refine F_bipush (v := 33) (by decide) (dk_X7_whole 18 _ rfl) ?_
    refine F_icmp_ne (tgt := 52) (by decide) (dk_X7_whole 20 _ rfl) ?_ ?_
    · exact F_retV rfl (dk_X7_whole 52 _ rfl)
    · refine F_aload_n (i := 0) (a := 0) rfl rfl (dk_X7_whole 23 _ rfl) ?_
      refine F_bipush (v := (-33)) (by decide) (dk_X7_whole 24 _ rfl) ?_
      refine F_callV (ι' := uU) (ci := 7) (b := 0) (As := [.int (-33)]) (d' := 2) (rfl) ok_X7_emits vi_X7_emits cl_7_220 (n := 1) (by decide +kernel) rfl rfl rfl (Nat.le_of_ble_eq_true rfl) (by omega) (dk_X7_whole 26 _ rfl) (c_X7_emits _ _ ) (fun x2 m3 => ?_)
      show JF _ _ _ _ _ _ [] _ _
      refine F_aload_n (i := 0) (a := 0) rfl rfl (dk_X7_whole 29 _ rfl) ?_
      refine F_dup rfl (dk_X7_whole 30 _ rfl) ?_
      refine F_gI (n := 24) fxM_7_24_0 rfl fl_7_84 (dk_X7_whole 31 _ rfl) ?_
      refine F_iconst (v := 1) (by decide) (dk_X7_whole 34 _ rfl) ?_
      refine F_isub (dk_X7_whole 35 _ rfl) ?_
      refine F_pI (n := 24) fxM_7_24_0 rfl fl_7_84 (fun q hq => by cases hq; rfl) trivial (dk_X7_whole 36 _ rfl) (fun m5 => ?_)
      refine F_aload_n (i := 0) (a := 0) rfl rfl (dk_X7_whole 39 _ rfl) ?_
      refine F_dup rfl (dk_X7_whole 40 _ rfl) ?_
      refine F_gI (n := 25) fxM_7_25_0 rfl fl_7_87 (dk_X7_whole 41 _ rfl) ?_
      refine F_iconst (v := 1) (by decide) (dk_X7_whole 44 _ rfl) ?_
      refine F_isub (dk_X7_whole 45 _ rfl) ?_
      refine F_pI (n := 25) fxM_7_25_0 rfl fl_7_87 (fun q hq => by cases hq; rfl) trivial (dk_X7_whole 46 _ rfl) (fun m6 => ?_)
      refine F_goto (tgt := 0) (by decide) (dk_X7_whole 49 _ rfl) ?_
      exact F_loc (fun _ z => z) (hK0 _  )
theorem j_X7_whole_0   : ∀ (F : Nat) (m : mM)  , JF false uU m_X7_whole 3 0 [(0, .ref 0)] [] m (f_X7_whole_0  F m ) := by
  intro F
  induction F with
  | zero => intro m  ; exact F_no
  | succ F ih => intro m  ; exact jb_X7_whole_0  (f_X7_whole_0  F)  ih m  
def f_X7_whole (m : mM)  : fR Unit :=
  (f_X7_whole_0  1000 m )
theorem c_X7_whole (m : mM)   : cF false uU m_X7_whole 3 [.ref 0] m (f_X7_whole m ) := by
  refine cF_of ok_X7_whole (fun _ _ => Nat.le_of_ble_eq_true rfl) ?_
  unfold f_X7_whole
  show JF _ _ _ _ _ [(0, .ref 0)] _ _ _
  exact F_loc (fun _ z => z) (j_X7_whole_0   1000 _  )
def f_X7_settle_45 (K0 : mM → Int32 → fR Unit) (m : mM) (y1 : Int32) : fR Unit :=
  nmM (wI m 24 (((mI m 24) - 1))) fun m2 => (gA (mA m2 15) (mI m2 24)).bind fun x3 => bnd (f_X7_emits m2 (-x3)) fun (x4 : Unit) (m5 : mM) => (K0 m5 y1)
theorem j_X7_settle_45 (K0 : mM → Int32 → fR Unit) (hK0 : ∀ (m : mM) (y1 : Int32) , JF false uU m_X7_settle 3 0 [(0, .ref 0), (1, .int y1)] [] m (K0 m y1)) (m : mM) (y1 : Int32)  : JF false uU m_X7_settle 3 45 [(0, .ref 0), (1, .int y1)] [] m (f_X7_settle_45 K0 m y1) := by
  unfold f_X7_settle_45
  refine F_aload_n (i := 0) (a := 0) rfl rfl (dk_X7_settle 45 _ rfl) ?_
  refine F_dup rfl (dk_X7_settle 46 _ rfl) ?_
  refine F_gI (n := 24) fxM_7_24_0 rfl fl_7_84 (dk_X7_settle 47 _ rfl) ?_
  refine F_iconst (v := 1) (by decide) (dk_X7_settle 50 _ rfl) ?_
  refine F_isub (dk_X7_settle 51 _ rfl) ?_
  refine F_pI (n := 24) fxM_7_24_0 rfl fl_7_84 (fun q hq => by cases hq; rfl) trivial (dk_X7_settle 52 _ rfl) (fun m2 => ?_)
  refine F_aload_n (i := 0) (a := 0) rfl rfl (dk_X7_settle 55 _ rfl) ?_
  refine F_aload_n (i := 0) (a := 0) rfl rfl (dk_X7_settle 56 _ rfl) ?_
  refine F_gR (b := 15) fxM_7_22_0 fl_7_78 (dk_X7_settle 57 _ rfl) ?_
  refine F_aload_n (i := 0) (a := 0) rfl rfl (dk_X7_settle 60 _ rfl) ?_
  refine F_gI (n := 24) fxM_7_24_0 rfl fl_7_84 (dk_X7_settle 61 _ rfl) ?_
  refine F_iald (axM_0_15) (dk_X7_settle 64 _ rfl) (fun x3 => ?_)
  refine F_ineg (dk_X7_settle 65 _ rfl) ?_
  refine F_callV (ι' := uU) (ci := 7) (b := 0) (As := [.int (-x3)]) (d' := 2) (rfl) ok_X7_emits vi_X7_emits cl_7_220 (n := 1) (by decide +kernel) rfl rfl rfl (Nat.le_of_ble_eq_true rfl) (by omega) (dk_X7_settle 66 _ rfl) (c_X7_emits _ _ ) (fun x4 m5 => ?_)
  show JF _ _ _ _ _ _ [] _ _
  refine F_goto (tgt := 0) (by decide) (dk_X7_settle 69 _ rfl) ?_
  exact F_loc (fun _ z => z) (hK0 _ _ )
def fb_X7_settle_0 (K0 : mM → Int32 → fR Unit) (m : mM) (y1 : Int32) : fR Unit :=
  (if (mI m 24) ≤ 0 then some ((), m) else (gA (mA m 15) (((mI m 24) - 1))).bind fun x1 => (if x1 = 38 then (f_X7_settle_45 K0 m y1) else (gA (mA m 15) (((mI m 24) - 1))).bind fun x7 => (if x7 = 124 then (if y1 = 38 then some ((), m) else (f_X7_settle_45 K0 m y1)) else some ((), m))))
def f_X7_settle_0  : Nat → mM → Int32 → fR Unit
  | 0, _, _ => none
  | F + 1, m, y1 => fb_X7_settle_0  (f_X7_settle_0  F) m y1
theorem jb_X7_settle_0 (K0 : mM → Int32 → fR Unit) (hK0 : ∀ (m : mM) (y1 : Int32) , JF false uU m_X7_settle 3 0 [(0, .ref 0), (1, .int y1)] [] m (K0 m y1)) (m : mM) (y1 : Int32)  : JF false uU m_X7_settle 3 0 [(0, .ref 0), (1, .int y1)] [] m (fb_X7_settle_0 K0 m y1) := by
  unfold fb_X7_settle_0
  refine F_aload_n (i := 0) (a := 0) rfl rfl (dk_X7_settle 0 _ rfl) ?_
  refine F_gI (n := 24) fxM_7_24_0 rfl fl_7_84 (dk_X7_settle 1 _ rfl) ?_
  refine F_if_le (tgt := 72) (by decide) (dk_X7_settle 4 _ rfl) ?_ ?_
  · exact F_retV rfl (dk_X7_settle 72 _ rfl)
  · refine F_aload_n (i := 0) (a := 0) rfl rfl (dk_X7_settle 7 _ rfl) ?_
    refine F_gR (b := 15) fxM_7_22_0 fl_7_78 (dk_X7_settle 8 _ rfl) ?_
    refine F_aload_n (i := 0) (a := 0) rfl rfl (dk_X7_settle 11 _ rfl) ?_
    refine F_gI (n := 24) fxM_7_24_0 rfl fl_7_84 (dk_X7_settle 12 _ rfl) ?_
    refine F_iconst (v := 1) (by decide) (dk_X7_settle 15 _ rfl) ?_
    refine F_isub (dk_X7_settle 16 _ rfl) ?_
    refine F_iald (axM_0_15) (dk_X7_settle 17 _ rfl) (fun x1 => ?_)
    refine F_bipush (v := 38) (by decide) (dk_X7_settle 18 _ rfl) ?_
    refine F_icmp_eq (tgt := 45) (by decide) (dk_X7_settle 20 _ rfl) ?_ ?_
    · exact F_loc (fun _ z => z) (j_X7_settle_45 K0 hK0 _ _ )
    · refine F_aload_n (i := 0) (a := 0) rfl rfl (dk_X7_settle 23 _ rfl) ?_
      refine F_gR (b := 15) fxM_7_22_0 fl_7_78 (dk_X7_settle 24 _ rfl) ?_
      refine F_aload_n (i := 0) (a := 0) rfl rfl (dk_X7_settle 27 _ rfl) ?_
      refine F_gI (n := 24) fxM_7_24_0 rfl fl_7_84 (dk_X7_settle 28 _ rfl) ?_
      refine F_iconst (v := 1) (by decide) (dk_X7_settle 31 _ rfl) ?_
      refine F_isub (dk_X7_settle 32 _ rfl) ?_
      refine F_iald (axM_0_15) (dk_X7_settle 33 _ rfl) (fun x7 => ?_)
      refine F_bipush (v := 124) (by decide) (dk_X7_settle 34 _ rfl) ?_
      refine F_icmp_ne (tgt := 72) (by decide) (dk_X7_settle 36 _ rfl) ?_ ?_
      · exact F_retV rfl (dk_X7_settle 72 _ rfl)
      · refine F_iload_n (i := 1) (a := 1) rfl rfl (dk_X7_settle 39 _ rfl) ?_
        refine F_bipush (v := 38) (by decide) (dk_X7_settle 40 _ rfl) ?_
        refine F_icmp_eq (tgt := 72) (by decide) (dk_X7_settle 42 _ rfl) ?_ ?_
        · exact F_retV rfl (dk_X7_settle 72 _ rfl)
        · exact F_loc (fun _ z => z) (j_X7_settle_45 K0 hK0 _ _ )
theorem j_X7_settle_0   : ∀ (F : Nat) (m : mM) (y1 : Int32) , JF false uU m_X7_settle 3 0 [(0, .ref 0), (1, .int y1)] [] m (f_X7_settle_0  F m y1) := by
  intro F
  induction F with
  | zero => intro m y1 ; exact F_no
  | succ F ih => intro m y1 ; exact jb_X7_settle_0  (f_X7_settle_0  F)  ih m y1 
def f_X7_settle (m : mM) (p1 : Int32) : fR Unit :=
  (f_X7_settle_0  1000 m p1)
theorem c_X7_settle (m : mM) (p1 : Int32)  : cF false uU m_X7_settle 3 [.ref 0, .int p1] m (f_X7_settle m p1) := by
  refine cF_of ok_X7_settle (fun _ _ => Nat.le_of_ble_eq_true rfl) ?_
  unfold f_X7_settle
  show JF _ _ _ _ _ [(0, .ref 0), (1, .int p1)] _ _ _
  exact F_loc (fun _ z => z) (j_X7_settle_0   1000 _ _ )
def f_X7_place (m : mM) (p1 : Int32) : fR Int32 :=
  (if p1 = 98 then some (5, m) else if p1 = 99 then some (3, m) else if p1 = 100 then some (2, m) else if p1 = 107 then some (1, m) else if p1 = 112 then some (0, m) else if p1 = 121 then some (4, m) else some ((-1), m))
theorem c_X7_place (m : mM) (p1 : Int32)  : cF false uI m_X7_place 2 [.ref 0, .int p1] m (f_X7_place m p1) := by
  refine cF_of ok_X7_place (fun _ _ => Nat.le_of_ble_eq_true rfl) ?_
  unfold f_X7_place
  show JF _ _ _ _ _ [(0, .ref 0), (1, .int p1)] _ _ _
  refine F_iload_n (i := 1) (a := 1) rfl rfl (dk_X7_place 0 _ rfl) ?_
  refine F_case (fun c1_0 => ?_) (fun c1_0 => ?_)
  · rw [c1_0]; refine F_look (off := 69) (tgt := 70) (by decide) (by decide) (by decide) (dk_X7_place 1 _ rfl) ?_
    refine F_iconst (v := 5) (by decide) (dk_X7_place 70 _ rfl) ?_
    exact F_ret rfl (dk_X7_place 71 _ rfl)
  refine F_case (fun c1_1 => ?_) (fun c1_1 => ?_)
  · rw [c1_1]; refine F_look (off := 65) (tgt := 66) (by decide) (by decide) (by decide) (dk_X7_place 1 _ rfl) ?_
    refine F_iconst (v := 3) (by decide) (dk_X7_place 66 _ rfl) ?_
    exact F_ret rfl (dk_X7_place 67 _ rfl)
  refine F_case (fun c1_2 => ?_) (fun c1_2 => ?_)
  · rw [c1_2]; refine F_look (off := 63) (tgt := 64) (by decide) (by decide) (by decide) (dk_X7_place 1 _ rfl) ?_
    refine F_iconst (v := 2) (by decide) (dk_X7_place 64 _ rfl) ?_
    exact F_ret rfl (dk_X7_place 65 _ rfl)
  refine F_case (fun c1_3 => ?_) (fun c1_3 => ?_)
  · rw [c1_3]; refine F_look (off := 61) (tgt := 62) (by decide) (by decide) (by decide) (dk_X7_place 1 _ rfl) ?_
    refine F_iconst (v := 1) (by decide) (dk_X7_place 62 _ rfl) ?_
    exact F_ret rfl (dk_X7_place 63 _ rfl)
  refine F_case (fun c1_4 => ?_) (fun c1_4 => ?_)
  · rw [c1_4]; refine F_look (off := 59) (tgt := 60) (by decide) (by decide) (by decide) (dk_X7_place 1 _ rfl) ?_
    refine F_iconst (v := 0) (by decide) (dk_X7_place 60 _ rfl) ?_
    exact F_ret rfl (dk_X7_place 61 _ rfl)
  refine F_case (fun c1_5 => ?_) (fun c1_5 => ?_)
  · rw [c1_5]; refine F_look (off := 67) (tgt := 68) (by decide) (by decide) (by decide) (dk_X7_place 1 _ rfl) ?_
    refine F_iconst (v := 4) (by decide) (dk_X7_place 68 _ rfl) ?_
    exact F_ret rfl (dk_X7_place 69 _ rfl)
  refine F_look (off := 71) (tgt := 72) (by decide) (by have q0 := fI_ne c1_0; rw [show (98 : Int32).toInt = 98 from by decide] at q0; have q1 := fI_ne c1_1; rw [show (99 : Int32).toInt = 99 from by decide] at q1; have q2 := fI_ne c1_2; rw [show (100 : Int32).toInt = 100 from by decide] at q2; have q3 := fI_ne c1_3; rw [show (107 : Int32).toInt = 107 from by decide] at q3; have q4 := fI_ne c1_4; rw [show (112 : Int32).toInt = 112 from by decide] at q4; have q5 := fI_ne c1_5; rw [show (121 : Int32).toInt = 121 from by decide] at q5; simp [Op.lookupswitch.offset, q0, Ne.symm q0, q1, Ne.symm q1, q2, Ne.symm q2, q3, Ne.symm q3, q4, Ne.symm q4, q5, Ne.symm q5]) (by decide) (dk_X7_place 1 _ rfl) ?_
  refine F_iconst (v := (-1)) (by decide) (dk_X7_place 72 _ rfl) ?_
  exact F_ret rfl (dk_X7_place 73 _ rfl)
def f_X7_takesTest (m : mM)  : fR Int32 :=
  bnd (f_X7_next m ) fun (x1 : Int32) (m2 : mM) => bnd (f_X7_place m2 x1) fun (x4 : Int32) (m5 : mM) => (if 0 ≤ x4 then nmM (wI m5 13 (((mI m5 13) + 1))) fun m7 => bnd (f_X7_next m7 ) fun (x8 : Int32) (m9 : mM) => bnd (f_X7_in m9 x8 60 62) fun (x11 : Int32) (m12 : mM) => (if x11 = 0 then some (0, m12) else nmM (wI m12 13 (((mI m12 13) + 1))) fun m14 => bnd (f_X7_takesNumber m14 ) fun (x15 : Int32) (m16 : mM) => (if x15 = 0 then some (0, m16) else bnd (f_X7_emits m16 ((((1000 * x4) + (100 * (x8 - 60))) + (mI m16 14)))) fun (x18 : Unit) (m19 : mM) => bnd (f_X7_whole m19 ) fun (x21 : Unit) (m22 : mM) => some (1, m22))) else some (0, m5))
theorem c_X7_takesTest (m : mM)   : cF false uI m_X7_takesTest 5 [.ref 0] m (f_X7_takesTest m ) := by
  refine cF_of ok_X7_takesTest (fun _ _ => Nat.le_of_ble_eq_true rfl) ?_
  unfold f_X7_takesTest
  show JF _ _ _ _ _ [(0, .ref 0)] _ _ _
  refine F_aload_n (i := 0) (a := 0) rfl rfl (dk_X7_takesTest 0 _ rfl) ?_
  refine F_aload_n (i := 0) (a := 0) rfl rfl (dk_X7_takesTest 1 _ rfl) ?_
  refine F_callV (ι' := uI) (ci := 7) (b := 0) (As := []) (d' := 2) (rfl) ok_X7_next vi_X7_next cl_7_209 (n := 0) (by decide +kernel) rfl rfl rfl (Nat.le_of_ble_eq_true rfl) (by omega) (dk_X7_takesTest 2 _ rfl) (c_X7_next _  ) (fun x1 m2 => ?_)
  show JF _ _ _ _ _ _ [.int x1, .ref 0] _ _
  refine F_callV (ι' := uI) (ci := 7) (b := 0) (As := [.int x1]) (d' := 2) (rfl) ok_X7_place vi_X7_place cl_7_224 (n := 1) (by decide +kernel) rfl rfl rfl (Nat.le_of_ble_eq_true rfl) (by omega) (dk_X7_takesTest 5 _ rfl) (c_X7_place _ _ ) (fun x4 m5 => ?_)
  show JF _ _ _ _ _ _ [.int x4] _ _
  refine F_istore_n (lv' := [(1, .int x4), (0, .ref 0)]) (i := 1) (a := 1) rfl (by decide) rfl (dk_X7_takesTest 8 _ rfl) ?_
  refine F_iload_n (i := 1) (a := 1) rfl rfl (dk_X7_takesTest 9 _ rfl) ?_
  refine F_if_ge (tgt := 15) (by decide) (dk_X7_takesTest 10 _ rfl) ?_ ?_
  · refine F_aload_n (i := 0) (a := 0) rfl rfl (dk_X7_takesTest 15 _ rfl) ?_
    refine F_dup rfl (dk_X7_takesTest 16 _ rfl) ?_
    refine F_gI (n := 13) fxM_7_13_0 rfl fl_7_51 (dk_X7_takesTest 17 _ rfl) ?_
    refine F_iconst (v := 1) (by decide) (dk_X7_takesTest 20 _ rfl) ?_
    refine F_iadd (dk_X7_takesTest 21 _ rfl) ?_
    refine F_pI (n := 13) fxM_7_13_0 rfl fl_7_51 (fun q hq => by cases hq; rfl) trivial (dk_X7_takesTest 22 _ rfl) (fun m7 => ?_)
    refine F_aload_n (i := 0) (a := 0) rfl rfl (dk_X7_takesTest 25 _ rfl) ?_
    refine F_callV (ι' := uI) (ci := 7) (b := 0) (As := []) (d' := 2) (rfl) ok_X7_next vi_X7_next cl_7_209 (n := 0) (by decide +kernel) rfl rfl rfl (Nat.le_of_ble_eq_true rfl) (by omega) (dk_X7_takesTest 26 _ rfl) (c_X7_next _  ) (fun x8 m9 => ?_)
    show JF _ _ _ _ _ _ [.int x8] _ _
    refine F_istore_n (lv' := [(2, .int x8), (1, .int x4), (0, .ref 0)]) (i := 2) (a := 2) rfl (by decide) rfl (dk_X7_takesTest 29 _ rfl) ?_
    refine F_aload_n (i := 0) (a := 0) rfl rfl (dk_X7_takesTest 30 _ rfl) ?_
    refine F_iload_n (i := 2) (a := 2) rfl rfl (dk_X7_takesTest 31 _ rfl) ?_
    refine F_bipush (v := 60) (by decide) (dk_X7_takesTest 32 _ rfl) ?_
    refine F_bipush (v := 62) (by decide) (dk_X7_takesTest 34 _ rfl) ?_
    refine F_callV (ι' := uI) (ci := 7) (b := 0) (As := [.int x8, .int 60, .int 62]) (d' := 2) (rfl) ok_X7_in vi_X7_in cl_7_194 (n := 3) (by decide +kernel) rfl rfl rfl (Nat.le_of_ble_eq_true rfl) (by omega) (dk_X7_takesTest 36 _ rfl) (c_X7_in _ _ _ _ ) (fun x11 m12 => ?_)
    show JF _ _ _ _ _ _ [.int x11] _ _
    refine F_if_ne (tgt := 44) (by decide) (dk_X7_takesTest 39 _ rfl) ?_ ?_
    · refine F_aload_n (i := 0) (a := 0) rfl rfl (dk_X7_takesTest 44 _ rfl) ?_
      refine F_dup rfl (dk_X7_takesTest 45 _ rfl) ?_
      refine F_gI (n := 13) fxM_7_13_0 rfl fl_7_51 (dk_X7_takesTest 46 _ rfl) ?_
      refine F_iconst (v := 1) (by decide) (dk_X7_takesTest 49 _ rfl) ?_
      refine F_iadd (dk_X7_takesTest 50 _ rfl) ?_
      refine F_pI (n := 13) fxM_7_13_0 rfl fl_7_51 (fun q hq => by cases hq; rfl) trivial (dk_X7_takesTest 51 _ rfl) (fun m14 => ?_)
      refine F_aload_n (i := 0) (a := 0) rfl rfl (dk_X7_takesTest 54 _ rfl) ?_
      refine F_callV (ι' := uI) (ci := 7) (b := 0) (As := []) (d' := 4) (rfl) ok_X7_takesNumber vi_X7_takesNumber cl_7_228 (n := 0) (by decide +kernel) rfl rfl rfl (Nat.le_of_ble_eq_true rfl) (by omega) (dk_X7_takesTest 55 _ rfl) (c_X7_takesNumber _  ) (fun x15 m16 => ?_)
      show JF _ _ _ _ _ _ [.int x15] _ _
      refine F_if_ne (tgt := 63) (by decide) (dk_X7_takesTest 58 _ rfl) ?_ ?_
      · refine F_aload_n (i := 0) (a := 0) rfl rfl (dk_X7_takesTest 63 _ rfl) ?_
        refine F_sipush (v := 1000) (by decide) (dk_X7_takesTest 64 _ rfl) ?_
        refine F_iload_n (i := 1) (a := 1) rfl rfl (dk_X7_takesTest 67 _ rfl) ?_
        refine F_imul (dk_X7_takesTest 68 _ rfl) ?_
        refine F_bipush (v := 100) (by decide) (dk_X7_takesTest 69 _ rfl) ?_
        refine F_iload_n (i := 2) (a := 2) rfl rfl (dk_X7_takesTest 71 _ rfl) ?_
        refine F_bipush (v := 60) (by decide) (dk_X7_takesTest 72 _ rfl) ?_
        refine F_isub (dk_X7_takesTest 74 _ rfl) ?_
        refine F_imul (dk_X7_takesTest 75 _ rfl) ?_
        refine F_iadd (dk_X7_takesTest 76 _ rfl) ?_
        refine F_aload_n (i := 0) (a := 0) rfl rfl (dk_X7_takesTest 77 _ rfl) ?_
        refine F_gI (n := 14) fxM_7_14_0 rfl fl_7_54 (dk_X7_takesTest 78 _ rfl) ?_
        refine F_iadd (dk_X7_takesTest 81 _ rfl) ?_
        refine F_callV (ι' := uU) (ci := 7) (b := 0) (As := [.int (((1000 * x4) + (100 * (x8 - 60))) + (mI m16 14))]) (d' := 2) (rfl) ok_X7_emits vi_X7_emits cl_7_220 (n := 1) (by decide +kernel) rfl rfl rfl (Nat.le_of_ble_eq_true rfl) (by omega) (dk_X7_takesTest 82 _ rfl) (c_X7_emits _ _ ) (fun x18 m19 => ?_)
        show JF _ _ _ _ _ _ [] _ _
        refine F_aload_n (i := 0) (a := 0) rfl rfl (dk_X7_takesTest 85 _ rfl) ?_
        refine F_callV (ι' := uU) (ci := 7) (b := 0) (As := []) (d' := 3) (rfl) ok_X7_whole vi_X7_whole cl_7_231 (n := 0) (by decide +kernel) rfl rfl rfl (Nat.le_of_ble_eq_true rfl) (by omega) (dk_X7_takesTest 86 _ rfl) (c_X7_whole _  ) (fun x21 m22 => ?_)
        show JF _ _ _ _ _ _ [] _ _
        refine F_iconst (v := 1) (by decide) (dk_X7_takesTest 89 _ rfl) ?_
        exact F_retB rfl (Or.inr rfl) (dk_X7_takesTest 90 _ rfl)
      · refine F_iconst (v := 0) (by decide) (dk_X7_takesTest 61 _ rfl) ?_
        exact F_retB rfl (Or.inl rfl) (dk_X7_takesTest 62 _ rfl)
    · refine F_iconst (v := 0) (by decide) (dk_X7_takesTest 42 _ rfl) ?_
      exact F_retB rfl (Or.inl rfl) (dk_X7_takesTest 43 _ rfl)
  · refine F_iconst (v := 0) (by decide) (dk_X7_takesTest 13 _ rfl) ?_
    exact F_retB rfl (Or.inl rfl) (dk_X7_takesTest 14 _ rfl)
def f_X7_takesE_122 (K22 : mM → Int32 → Int32 → fR Int32) (m : mM) (y1 : Int32) (y3 : Int32) : fR Int32 :=
  bnd (f_X7_settle m y3) fun (x7 : Unit) (m8 : mM) => (sA 0 m8 15 (mI m8 24) y3).bind fun m10 => nmM (wI m10 24 (((mI m10 24) + 1))) fun m11 => nmM (wI m11 13 (((mI m11 13) + 1))) fun m12 => (K22 m12 y1 1)
theorem j_X7_takesE_122 (K22 : mM → Int32 → Int32 → fR Int32) (hK22 : ∀ (m : mM) (y1 : Int32) (y2 : Int32) , JF false uI m_X7_takesE 6 22 [(0, .ref 0), (1, .int y1), (2, .int y2)] [] m (K22 m y1 y2)) (m : mM) (y1 : Int32) (y3 : Int32)  : JF false uI m_X7_takesE 6 122 [(0, .ref 0), (1, .int y1), (3, .int y3)] [] m (f_X7_takesE_122 K22 m y1 y3) := by
  unfold f_X7_takesE_122
  refine F_aload_n (i := 0) (a := 0) rfl rfl (dk_X7_takesE 122 _ rfl) ?_
  refine F_iload_n (i := 3) (a := 3) rfl rfl (dk_X7_takesE 123 _ rfl) ?_
  refine F_callV (ι' := uU) (ci := 7) (b := 0) (As := [.int y3]) (d' := 3) (rfl) ok_X7_settle vi_X7_settle cl_7_237 (n := 1) (by decide +kernel) rfl rfl rfl (Nat.le_of_ble_eq_true rfl) (by omega) (dk_X7_takesE 124 _ rfl) (c_X7_settle _ _ ) (fun x7 m8 => ?_)
  show JF _ _ _ _ _ _ [] _ _
  refine F_aload_n (i := 0) (a := 0) rfl rfl (dk_X7_takesE 127 _ rfl) ?_
  refine F_gR (b := 15) fxM_7_22_0 fl_7_78 (dk_X7_takesE 128 _ rfl) ?_
  refine F_aload_n (i := 0) (a := 0) rfl rfl (dk_X7_takesE 131 _ rfl) ?_
  refine F_gI (n := 24) fxM_7_24_0 rfl fl_7_84 (dk_X7_takesE 132 _ rfl) ?_
  refine F_iload_n (i := 3) (a := 3) rfl rfl (dk_X7_takesE 135 _ rfl) ?_
  refine F_iast (axM_0_15) (dk_X7_takesE 136 _ rfl) (fun m10 => ?_)
  refine F_aload_n (i := 0) (a := 0) rfl rfl (dk_X7_takesE 137 _ rfl) ?_
  refine F_dup rfl (dk_X7_takesE 138 _ rfl) ?_
  refine F_gI (n := 24) fxM_7_24_0 rfl fl_7_84 (dk_X7_takesE 139 _ rfl) ?_
  refine F_iconst (v := 1) (by decide) (dk_X7_takesE 142 _ rfl) ?_
  refine F_iadd (dk_X7_takesE 143 _ rfl) ?_
  refine F_pI (n := 24) fxM_7_24_0 rfl fl_7_84 (fun q hq => by cases hq; rfl) trivial (dk_X7_takesE 144 _ rfl) (fun m11 => ?_)
  refine F_iconst (v := 1) (by decide) (dk_X7_takesE 147 _ rfl) ?_
  refine F_istore_n (lv' := [(2, .int 1), (0, .ref 0), (1, .int y1), (3, .int y3)]) (i := 2) (a := 2) rfl (by decide) rfl (dk_X7_takesE 148 _ rfl) ?_
  refine F_aload_n (i := 0) (a := 0) rfl rfl (dk_X7_takesE 149 _ rfl) ?_
  refine F_dup rfl (dk_X7_takesE 150 _ rfl) ?_
  refine F_gI (n := 13) fxM_7_13_0 rfl fl_7_51 (dk_X7_takesE 151 _ rfl) ?_
  refine F_iconst (v := 1) (by decide) (dk_X7_takesE 154 _ rfl) ?_
  refine F_iadd (dk_X7_takesE 155 _ rfl) ?_
  refine F_pI (n := 13) fxM_7_13_0 rfl fl_7_51 (fun q hq => by cases hq; rfl) trivial (dk_X7_takesE 156 _ rfl) (fun m12 => ?_)
  refine F_goto (tgt := 22) (by decide) (dk_X7_takesE 159 _ rfl) ?_
  exact F_loc (List.forall_mem_cons.mpr ⟨(.tail _ (.head _)), (List.forall_mem_cons.mpr ⟨(.tail _ (.tail _ (.head _))), (List.forall_mem_cons.mpr ⟨(.head _), (fun _ z => absurd z List.not_mem_nil)⟩)⟩)⟩) (hK22 _ _ _ )
def f_X7_takesE_43 (K22 : mM → Int32 → Int32 → fR Int32) (m : mM) (y1 : Int32) (y2 : Int32) (y3 : Int32) : fR Int32 :=
  (if (mI m 25) = 4 then some (0, m) else nmM (wI m 25 (((mI m 25) + 1))) fun m23 => (sA 0 m23 15 (mI m23 24) y3).bind fun m24 => nmM (wI m24 24 (((mI m24 24) + 1))) fun m25 => nmM (wI m25 13 (((mI m25 13) + 1))) fun m26 => (K22 m26 y1 y2))
theorem j_X7_takesE_43 (K22 : mM → Int32 → Int32 → fR Int32) (hK22 : ∀ (m : mM) (y1 : Int32) (y2 : Int32) , JF false uI m_X7_takesE 6 22 [(0, .ref 0), (1, .int y1), (2, .int y2)] [] m (K22 m y1 y2)) (m : mM) (y1 : Int32) (y2 : Int32) (y3 : Int32)  : JF false uI m_X7_takesE 6 43 [(0, .ref 0), (1, .int y1), (2, .int y2), (3, .int y3)] [] m (f_X7_takesE_43 K22 m y1 y2 y3) := by
  unfold f_X7_takesE_43
  refine F_aload_n (i := 0) (a := 0) rfl rfl (dk_X7_takesE 43 _ rfl) ?_
  refine F_gI (n := 25) fxM_7_25_0 rfl fl_7_87 (dk_X7_takesE 44 _ rfl) ?_
  refine F_iconst (v := 4) (by decide) (dk_X7_takesE 47 _ rfl) ?_
  refine F_icmp_ne (tgt := 53) (by decide) (dk_X7_takesE 48 _ rfl) ?_ ?_
  · refine F_aload_n (i := 0) (a := 0) rfl rfl (dk_X7_takesE 53 _ rfl) ?_
    refine F_dup rfl (dk_X7_takesE 54 _ rfl) ?_
    refine F_gI (n := 25) fxM_7_25_0 rfl fl_7_87 (dk_X7_takesE 55 _ rfl) ?_
    refine F_iconst (v := 1) (by decide) (dk_X7_takesE 58 _ rfl) ?_
    refine F_iadd (dk_X7_takesE 59 _ rfl) ?_
    refine F_pI (n := 25) fxM_7_25_0 rfl fl_7_87 (fun q hq => by cases hq; rfl) trivial (dk_X7_takesE 60 _ rfl) (fun m23 => ?_)
    refine F_aload_n (i := 0) (a := 0) rfl rfl (dk_X7_takesE 63 _ rfl) ?_
    refine F_gR (b := 15) fxM_7_22_0 fl_7_78 (dk_X7_takesE 64 _ rfl) ?_
    refine F_aload_n (i := 0) (a := 0) rfl rfl (dk_X7_takesE 67 _ rfl) ?_
    refine F_gI (n := 24) fxM_7_24_0 rfl fl_7_84 (dk_X7_takesE 68 _ rfl) ?_
    refine F_iload_n (i := 3) (a := 3) rfl rfl (dk_X7_takesE 71 _ rfl) ?_
    refine F_iast (axM_0_15) (dk_X7_takesE 72 _ rfl) (fun m24 => ?_)
    refine F_aload_n (i := 0) (a := 0) rfl rfl (dk_X7_takesE 73 _ rfl) ?_
    refine F_dup rfl (dk_X7_takesE 74 _ rfl) ?_
    refine F_gI (n := 24) fxM_7_24_0 rfl fl_7_84 (dk_X7_takesE 75 _ rfl) ?_
    refine F_iconst (v := 1) (by decide) (dk_X7_takesE 78 _ rfl) ?_
    refine F_iadd (dk_X7_takesE 79 _ rfl) ?_
    refine F_pI (n := 24) fxM_7_24_0 rfl fl_7_84 (fun q hq => by cases hq; rfl) trivial (dk_X7_takesE 80 _ rfl) (fun m25 => ?_)
    refine F_aload_n (i := 0) (a := 0) rfl rfl (dk_X7_takesE 83 _ rfl) ?_
    refine F_dup rfl (dk_X7_takesE 84 _ rfl) ?_
    refine F_gI (n := 13) fxM_7_13_0 rfl fl_7_51 (dk_X7_takesE 85 _ rfl) ?_
    refine F_iconst (v := 1) (by decide) (dk_X7_takesE 88 _ rfl) ?_
    refine F_iadd (dk_X7_takesE 89 _ rfl) ?_
    refine F_pI (n := 13) fxM_7_13_0 rfl fl_7_51 (fun q hq => by cases hq; rfl) trivial (dk_X7_takesE 90 _ rfl) (fun m26 => ?_)
    refine F_goto (tgt := 22) (by decide) (dk_X7_takesE 93 _ rfl) ?_
    exact F_loc (List.forall_mem_cons.mpr ⟨(.head _), (List.forall_mem_cons.mpr ⟨(.tail _ (.head _)), (List.forall_mem_cons.mpr ⟨(.tail _ (.tail _ (.head _))), (fun _ z => absurd z List.not_mem_nil)⟩)⟩)⟩) (hK22 _ _ _ )
  · refine F_iconst (v := 0) (by decide) (dk_X7_takesE 51 _ rfl) ?_
    exact F_retB rfl (Or.inl rfl) (dk_X7_takesE 52 _ rfl)
def fb_X7_takesE_22 (K22 : mM → Int32 → Int32 → fR Int32) (m : mM) (y1 : Int32) (y2 : Int32) : fR Int32 :=
  bnd (f_X7_next m ) fun (x4 : Int32) (m5 : mM) => (if y2 = 0 then (if x4 = 38 then (f_X7_takesE_122 K22 m5 y1 x4) else (if x4 = 124 then (f_X7_takesE_122 K22 m5 y1 x4) else bnd (f_X7_settle m5 124) fun (x13 : Unit) (m14 : mM) => (sA 0 m14 13 y1 (mI m14 23)).bind fun m16 => (if (mI m16 24) = 0 then some (1, m16) else (if x4 = 41 then nmM (wI m16 24 (((mI m16 24) - 1))) fun m17 => nmM (wI m17 25 (((mI m17 25) - 1))) fun m18 => nmM (wI m18 13 (((mI m18 13) + 1))) fun m19 => bnd (f_X7_whole m19 ) fun (x20 : Unit) (m21 : mM) => (K22 m21 y1 y2) else some (0, m16))))) else (if x4 = 33 then (f_X7_takesE_43 K22 m5 y1 y2 x4) else (if x4 = 40 then (f_X7_takesE_43 K22 m5 y1 y2 x4) else bnd (f_X7_takesTest m5 ) fun (x27 : Int32) (m28 : mM) => (if x27 = 0 then some (0, m28) else (K22 m28 y1 0)))))
def f_X7_takesE_22  : Nat → mM → Int32 → Int32 → fR Int32
  | 0, _, _, _ => none
  | F + 1, m, y1, y2 => fb_X7_takesE_22  (f_X7_takesE_22  F) m y1 y2
theorem jb_X7_takesE_22 (K22 : mM → Int32 → Int32 → fR Int32) (hK22 : ∀ (m : mM) (y1 : Int32) (y2 : Int32) , JF false uI m_X7_takesE 6 22 [(0, .ref 0), (1, .int y1), (2, .int y2)] [] m (K22 m y1 y2)) (m : mM) (y1 : Int32) (y2 : Int32)  : JF false uI m_X7_takesE 6 22 [(0, .ref 0), (1, .int y1), (2, .int y2)] [] m (fb_X7_takesE_22 K22 m y1 y2) := by
  unfold fb_X7_takesE_22
  refine F_aload_n (i := 0) (a := 0) rfl rfl (dk_X7_takesE 22 _ rfl) ?_
  refine F_callV (ι' := uI) (ci := 7) (b := 0) (As := []) (d' := 2) (rfl) ok_X7_next vi_X7_next cl_7_209 (n := 0) (by decide +kernel) rfl rfl rfl (Nat.le_of_ble_eq_true rfl) (by omega) (dk_X7_takesE 23 _ rfl) (c_X7_next _  ) (fun x4 m5 => ?_)
  show JF _ _ _ _ _ _ [.int x4] _ _
  refine F_istore_n (lv' := [(3, .int x4), (0, .ref 0), (1, .int y1), (2, .int y2)]) (i := 3) (a := 3) rfl (by decide) rfl (dk_X7_takesE 26 _ rfl) ?_
  refine F_iload_n (i := 2) (a := 2) rfl rfl (dk_X7_takesE 27 _ rfl) ?_
  refine F_if_eq (tgt := 110) (by decide) (dk_X7_takesE 28 _ rfl) ?_ ?_
  · refine F_iload_n (i := 3) (a := 3) rfl rfl (dk_X7_takesE 110 _ rfl) ?_
    refine F_bipush (v := 38) (by decide) (dk_X7_takesE 111 _ rfl) ?_
    refine F_icmp_eq (tgt := 122) (by decide) (dk_X7_takesE 113 _ rfl) ?_ ?_
    · exact F_loc (List.forall_mem_cons.mpr ⟨(.tail _ (.head _)), (List.forall_mem_cons.mpr ⟨(.tail _ (.tail _ (.head _))), (List.forall_mem_cons.mpr ⟨(.head _), (fun _ z => absurd z List.not_mem_nil)⟩)⟩)⟩) (j_X7_takesE_122 K22 hK22 _ _ _ )
    · refine F_iload_n (i := 3) (a := 3) rfl rfl (dk_X7_takesE 116 _ rfl) ?_
      refine F_bipush (v := 124) (by decide) (dk_X7_takesE 117 _ rfl) ?_
      refine F_icmp_ne (tgt := 162) (by decide) (dk_X7_takesE 119 _ rfl) ?_ ?_
      · refine F_aload_n (i := 0) (a := 0) rfl rfl (dk_X7_takesE 162 _ rfl) ?_
        refine F_bipush (v := 124) (by decide) (dk_X7_takesE 163 _ rfl) ?_
        refine F_callV (ι' := uU) (ci := 7) (b := 0) (As := [.int 124]) (d' := 3) (rfl) ok_X7_settle vi_X7_settle cl_7_237 (n := 1) (by decide +kernel) rfl rfl rfl (Nat.le_of_ble_eq_true rfl) (by omega) (dk_X7_takesE 165 _ rfl) (c_X7_settle _ _ ) (fun x13 m14 => ?_)
        show JF _ _ _ _ _ _ [] _ _
        refine F_aload_n (i := 0) (a := 0) rfl rfl (dk_X7_takesE 168 _ rfl) ?_
        refine F_gR (b := 13) fxM_7_20_0 fl_7_72 (dk_X7_takesE 169 _ rfl) ?_
        refine F_iload_n (i := 1) (a := 1) rfl rfl (dk_X7_takesE 172 _ rfl) ?_
        refine F_aload_n (i := 0) (a := 0) rfl rfl (dk_X7_takesE 173 _ rfl) ?_
        refine F_gI (n := 23) fxM_7_23_0 rfl fl_7_81 (dk_X7_takesE 174 _ rfl) ?_
        refine F_iast (axM_0_13) (dk_X7_takesE 177 _ rfl) (fun m16 => ?_)
        refine F_aload_n (i := 0) (a := 0) rfl rfl (dk_X7_takesE 178 _ rfl) ?_
        refine F_gI (n := 24) fxM_7_24_0 rfl fl_7_84 (dk_X7_takesE 179 _ rfl) ?_
        refine F_if_ne (tgt := 187) (by decide) (dk_X7_takesE 182 _ rfl) ?_ ?_
        · refine F_iload_n (i := 3) (a := 3) rfl rfl (dk_X7_takesE 187 _ rfl) ?_
          refine F_bipush (v := 41) (by decide) (dk_X7_takesE 188 _ rfl) ?_
          refine F_icmp_eq (tgt := 195) (by decide) (dk_X7_takesE 190 _ rfl) ?_ ?_
          · refine F_aload_n (i := 0) (a := 0) rfl rfl (dk_X7_takesE 195 _ rfl) ?_
            refine F_dup rfl (dk_X7_takesE 196 _ rfl) ?_
            refine F_gI (n := 24) fxM_7_24_0 rfl fl_7_84 (dk_X7_takesE 197 _ rfl) ?_
            refine F_iconst (v := 1) (by decide) (dk_X7_takesE 200 _ rfl) ?_
            refine F_isub (dk_X7_takesE 201 _ rfl) ?_
            refine F_pI (n := 24) fxM_7_24_0 rfl fl_7_84 (fun q hq => by cases hq; rfl) trivial (dk_X7_takesE 202 _ rfl) (fun m17 => ?_)
            refine F_aload_n (i := 0) (a := 0) rfl rfl (dk_X7_takesE 205 _ rfl) ?_
            refine F_dup rfl (dk_X7_takesE 206 _ rfl) ?_
            refine F_gI (n := 25) fxM_7_25_0 rfl fl_7_87 (dk_X7_takesE 207 _ rfl) ?_
            refine F_iconst (v := 1) (by decide) (dk_X7_takesE 210 _ rfl) ?_
            refine F_isub (dk_X7_takesE 211 _ rfl) ?_
            refine F_pI (n := 25) fxM_7_25_0 rfl fl_7_87 (fun q hq => by cases hq; rfl) trivial (dk_X7_takesE 212 _ rfl) (fun m18 => ?_)
            refine F_aload_n (i := 0) (a := 0) rfl rfl (dk_X7_takesE 215 _ rfl) ?_
            refine F_dup rfl (dk_X7_takesE 216 _ rfl) ?_
            refine F_gI (n := 13) fxM_7_13_0 rfl fl_7_51 (dk_X7_takesE 217 _ rfl) ?_
            refine F_iconst (v := 1) (by decide) (dk_X7_takesE 220 _ rfl) ?_
            refine F_iadd (dk_X7_takesE 221 _ rfl) ?_
            refine F_pI (n := 13) fxM_7_13_0 rfl fl_7_51 (fun q hq => by cases hq; rfl) trivial (dk_X7_takesE 222 _ rfl) (fun m19 => ?_)
            refine F_aload_n (i := 0) (a := 0) rfl rfl (dk_X7_takesE 225 _ rfl) ?_
            refine F_callV (ι' := uU) (ci := 7) (b := 0) (As := []) (d' := 3) (rfl) ok_X7_whole vi_X7_whole cl_7_231 (n := 0) (by decide +kernel) rfl rfl rfl (Nat.le_of_ble_eq_true rfl) (by omega) (dk_X7_takesE 226 _ rfl) (c_X7_whole _  ) (fun x20 m21 => ?_)
            show JF _ _ _ _ _ _ [] _ _
            refine F_goto (tgt := 22) (by decide) (dk_X7_takesE 229 _ rfl) ?_
            exact F_loc (List.forall_mem_cons.mpr ⟨(.tail _ (.head _)), (List.forall_mem_cons.mpr ⟨(.tail _ (.tail _ (.head _))), (List.forall_mem_cons.mpr ⟨(.tail _ (.tail _ (.tail _ (.head _)))), (fun _ z => absurd z List.not_mem_nil)⟩)⟩)⟩) (hK22 _ _ _ )
          · refine F_iconst (v := 0) (by decide) (dk_X7_takesE 193 _ rfl) ?_
            exact F_retB rfl (Or.inl rfl) (dk_X7_takesE 194 _ rfl)
        · refine F_iconst (v := 1) (by decide) (dk_X7_takesE 185 _ rfl) ?_
          exact F_retB rfl (Or.inr rfl) (dk_X7_takesE 186 _ rfl)
      · exact F_loc (List.forall_mem_cons.mpr ⟨(.tail _ (.head _)), (List.forall_mem_cons.mpr ⟨(.tail _ (.tail _ (.head _))), (List.forall_mem_cons.mpr ⟨(.head _), (fun _ z => absurd z List.not_mem_nil)⟩)⟩)⟩) (j_X7_takesE_122 K22 hK22 _ _ _ )
  · refine F_iload_n (i := 3) (a := 3) rfl rfl (dk_X7_takesE 31 _ rfl) ?_
    refine F_bipush (v := 33) (by decide) (dk_X7_takesE 32 _ rfl) ?_
    refine F_icmp_eq (tgt := 43) (by decide) (dk_X7_takesE 34 _ rfl) ?_ ?_
    · exact F_loc (List.forall_mem_cons.mpr ⟨(.tail _ (.head _)), (List.forall_mem_cons.mpr ⟨(.tail _ (.tail _ (.head _))), (List.forall_mem_cons.mpr ⟨(.tail _ (.tail _ (.tail _ (.head _)))), (List.forall_mem_cons.mpr ⟨(.head _), (fun _ z => absurd z List.not_mem_nil)⟩)⟩)⟩)⟩) (j_X7_takesE_43 K22 hK22 _ _ _ _ )
    · refine F_iload_n (i := 3) (a := 3) rfl rfl (dk_X7_takesE 37 _ rfl) ?_
      refine F_bipush (v := 40) (by decide) (dk_X7_takesE 38 _ rfl) ?_
      refine F_icmp_ne (tgt := 96) (by decide) (dk_X7_takesE 40 _ rfl) ?_ ?_
      · refine F_aload_n (i := 0) (a := 0) rfl rfl (dk_X7_takesE 96 _ rfl) ?_
        refine F_callV (ι' := uI) (ci := 7) (b := 0) (As := []) (d' := 5) (rfl) ok_X7_takesTest vi_X7_takesTest cl_7_234 (n := 0) (by decide +kernel) rfl rfl rfl (Nat.le_of_ble_eq_true rfl) (by omega) (dk_X7_takesE 97 _ rfl) (c_X7_takesTest _  ) (fun x27 m28 => ?_)
        show JF _ _ _ _ _ _ [.int x27] _ _
        refine F_if_eq (tgt := 108) (by decide) (dk_X7_takesE 100 _ rfl) ?_ ?_
        · refine F_iconst (v := 0) (by decide) (dk_X7_takesE 108 _ rfl) ?_
          exact F_retB rfl (Or.inl rfl) (dk_X7_takesE 109 _ rfl)
        · refine F_iconst (v := 0) (by decide) (dk_X7_takesE 103 _ rfl) ?_
          refine F_istore_n (lv' := [(2, .int 0), (3, .int x4), (0, .ref 0), (1, .int y1)]) (i := 2) (a := 2) rfl (by decide) rfl (dk_X7_takesE 104 _ rfl) ?_
          refine F_goto (tgt := 22) (by decide) (dk_X7_takesE 105 _ rfl) ?_
          exact F_loc (List.forall_mem_cons.mpr ⟨(.tail _ (.tail _ (.head _))), (List.forall_mem_cons.mpr ⟨(.tail _ (.tail _ (.tail _ (.head _)))), (List.forall_mem_cons.mpr ⟨(.head _), (fun _ z => absurd z List.not_mem_nil)⟩)⟩)⟩) (hK22 _ _ _ )
      · exact F_loc (List.forall_mem_cons.mpr ⟨(.tail _ (.head _)), (List.forall_mem_cons.mpr ⟨(.tail _ (.tail _ (.head _))), (List.forall_mem_cons.mpr ⟨(.tail _ (.tail _ (.tail _ (.head _)))), (List.forall_mem_cons.mpr ⟨(.head _), (fun _ z => absurd z List.not_mem_nil)⟩)⟩)⟩)⟩) (j_X7_takesE_43 K22 hK22 _ _ _ _ )
theorem j_X7_takesE_22   : ∀ (F : Nat) (m : mM) (y1 : Int32) (y2 : Int32) , JF false uI m_X7_takesE 6 22 [(0, .ref 0), (1, .int y1), (2, .int y2)] [] m (f_X7_takesE_22  F m y1 y2) := by
  intro F
  induction F with
  | zero => intro m y1 y2 ; exact F_no
  | succ F ih => intro m y1 y2 ; exact jb_X7_takesE_22  (f_X7_takesE_22  F)  ih m y1 y2 
def f_X7_takesE (m : mM) (p1 : Int32) : fR Int32 :=
  nmM (wI m 24 0) fun m1 => nmM (wI m1 25 0) fun m2 => (sA 0 m2 12 p1 (mI m2 23)).bind fun m3 => (f_X7_takesE_22  1000 m3 p1 1)
theorem c_X7_takesE (m : mM) (p1 : Int32)  : cF false uI m_X7_takesE 6 [.ref 0, .int p1] m (f_X7_takesE m p1) := by
  refine cF_of ok_X7_takesE (fun _ _ => Nat.le_of_ble_eq_true rfl) ?_
  unfold f_X7_takesE
  show JF _ _ _ _ _ [(0, .ref 0), (1, .int p1)] _ _ _
  refine F_aload_n (i := 0) (a := 0) rfl rfl (dk_X7_takesE 0 _ rfl) ?_
  refine F_iconst (v := 0) (by decide) (dk_X7_takesE 1 _ rfl) ?_
  refine F_pI (n := 24) fxM_7_24_0 rfl fl_7_84 (fun q hq => by cases hq; rfl) trivial (dk_X7_takesE 2 _ rfl) (fun m1 => ?_)
  refine F_aload_n (i := 0) (a := 0) rfl rfl (dk_X7_takesE 5 _ rfl) ?_
  refine F_iconst (v := 0) (by decide) (dk_X7_takesE 6 _ rfl) ?_
  refine F_pI (n := 25) fxM_7_25_0 rfl fl_7_87 (fun q hq => by cases hq; rfl) trivial (dk_X7_takesE 7 _ rfl) (fun m2 => ?_)
  refine F_aload_n (i := 0) (a := 0) rfl rfl (dk_X7_takesE 10 _ rfl) ?_
  refine F_gR (b := 12) fxM_7_19_0 fl_7_69 (dk_X7_takesE 11 _ rfl) ?_
  refine F_iload_n (i := 1) (a := 1) rfl rfl (dk_X7_takesE 14 _ rfl) ?_
  refine F_aload_n (i := 0) (a := 0) rfl rfl (dk_X7_takesE 15 _ rfl) ?_
  refine F_gI (n := 23) fxM_7_23_0 rfl fl_7_81 (dk_X7_takesE 16 _ rfl) ?_
  refine F_iast (axM_0_12) (dk_X7_takesE 19 _ rfl) (fun m3 => ?_)
  refine F_iconst (v := 1) (by decide) (dk_X7_takesE 20 _ rfl) ?_
  refine F_istore_n (lv' := [(2, .int 1), (0, .ref 0), (1, .int p1)]) (i := 2) (a := 2) rfl (by decide) rfl (dk_X7_takesE 21 _ rfl) ?_
  exact F_loc (List.forall_mem_cons.mpr ⟨(.tail _ (.head _)), (List.forall_mem_cons.mpr ⟨(.tail _ (.tail _ (.head _))), (List.forall_mem_cons.mpr ⟨(.head _), (fun _ z => absurd z List.not_mem_nil)⟩)⟩)⟩) (j_X7_takesE_22   1000 _ _ _ )
def f_X7_takesHead (m : mM) (p1 : Int32) : fR Int32 :=
  bnd (f_X7_next m ) fun (x1 : Int32) (m2 : mM) => (if x1 = 99 then (sA 0 m2 10 p1 2).bind fun m5 => bnd (f_X7_takesWord m5 7 4) fun (x6 : Int32) (m7 : mM) => chZ x6 (some (x6, m7)) else if x1 = 100 then (sA 0 m2 10 p1 1).bind fun m9 => bnd (f_X7_takesWord m9 4 3) fun (x10 : Int32) (m11 : mM) => chZ x10 (some (x10, m11)) else if x1 = 116 then (sA 0 m2 10 p1 0).bind fun m13 => bnd (f_X7_takesWord m13 0 4) fun (x14 : Int32) (m15 : mM) => chZ x14 (some (x14, m15)) else (sA 0 m2 10 p1 3).bind fun m17 => bnd (f_X7_takesWord m17 11 5) fun (x18 : Int32) (m19 : mM) => chZ x18 (some (x18, m19)))
theorem c_X7_takesHead (m : mM) (p1 : Int32)  : cF false uI m_X7_takesHead 5 [.ref 0, .int p1] m (f_X7_takesHead m p1) := by
  refine cF_of ok_X7_takesHead (fun _ _ => Nat.le_of_ble_eq_true rfl) ?_
  unfold f_X7_takesHead
  show JF _ _ _ _ _ [(0, .ref 0), (1, .int p1)] _ _ _
  refine F_aload_n (i := 0) (a := 0) rfl rfl (dk_X7_takesHead 0 _ rfl) ?_
  refine F_callV (ι' := uI) (ci := 7) (b := 0) (As := []) (d' := 2) (rfl) ok_X7_next vi_X7_next cl_7_209 (n := 0) (by decide +kernel) rfl rfl rfl (Nat.le_of_ble_eq_true rfl) (by omega) (dk_X7_takesHead 1 _ rfl) (c_X7_next _  ) (fun x1 m2 => ?_)
  show JF _ _ _ _ _ _ [.int x1] _ _
  refine F_case (fun c4_0 => ?_) (fun c4_0 => ?_)
  · rw [c4_0]; refine F_look (off := 64) (tgt := 68) (by decide) (by decide) (by decide) (dk_X7_takesHead 4 _ rfl) ?_
    refine F_aload_n (i := 0) (a := 0) rfl rfl (dk_X7_takesHead 68 _ rfl) ?_
    refine F_gR (b := 10) fxM_7_17_0 fl_7_63 (dk_X7_takesHead 69 _ rfl) ?_
    refine F_iload_n (i := 1) (a := 1) rfl rfl (dk_X7_takesHead 72 _ rfl) ?_
    refine F_iconst (v := 2) (by decide) (dk_X7_takesHead 73 _ rfl) ?_
    refine F_iast (axM_0_10) (dk_X7_takesHead 74 _ rfl) (fun m5 => ?_)
    refine F_aload_n (i := 0) (a := 0) rfl rfl (dk_X7_takesHead 75 _ rfl) ?_
    refine F_bipush (v := 7) (by decide) (dk_X7_takesHead 76 _ rfl) ?_
    refine F_iconst (v := 4) (by decide) (dk_X7_takesHead 78 _ rfl) ?_
    refine F_callV (ι' := uI) (ci := 7) (b := 0) (As := [.int 7, .int 4]) (d' := 4) (rfl) ok_X7_takesWord vi_X7_takesWord cl_7_240 (n := 2) (by decide +kernel) rfl rfl rfl (Nat.le_of_ble_eq_true rfl) (by omega) (dk_X7_takesHead 79 _ rfl) (c_X7_takesWord _ _ _ ) (fun x6 m7 => ?_)
    show JF _ _ _ _ _ _ [.int x6] _ _
    exact F_retZ rfl (dk_X7_takesHead 82 _ rfl)
  refine F_case (fun c4_1 => ?_) (fun c4_1 => ?_)
  · rw [c4_1]; refine F_look (off := 50) (tgt := 54) (by decide) (by decide) (by decide) (dk_X7_takesHead 4 _ rfl) ?_
    refine F_aload_n (i := 0) (a := 0) rfl rfl (dk_X7_takesHead 54 _ rfl) ?_
    refine F_gR (b := 10) fxM_7_17_0 fl_7_63 (dk_X7_takesHead 55 _ rfl) ?_
    refine F_iload_n (i := 1) (a := 1) rfl rfl (dk_X7_takesHead 58 _ rfl) ?_
    refine F_iconst (v := 1) (by decide) (dk_X7_takesHead 59 _ rfl) ?_
    refine F_iast (axM_0_10) (dk_X7_takesHead 60 _ rfl) (fun m9 => ?_)
    refine F_aload_n (i := 0) (a := 0) rfl rfl (dk_X7_takesHead 61 _ rfl) ?_
    refine F_iconst (v := 4) (by decide) (dk_X7_takesHead 62 _ rfl) ?_
    refine F_iconst (v := 3) (by decide) (dk_X7_takesHead 63 _ rfl) ?_
    refine F_callV (ι' := uI) (ci := 7) (b := 0) (As := [.int 4, .int 3]) (d' := 4) (rfl) ok_X7_takesWord vi_X7_takesWord cl_7_240 (n := 2) (by decide +kernel) rfl rfl rfl (Nat.le_of_ble_eq_true rfl) (by omega) (dk_X7_takesHead 64 _ rfl) (c_X7_takesWord _ _ _ ) (fun x10 m11 => ?_)
    show JF _ _ _ _ _ _ [.int x10] _ _
    exact F_retZ rfl (dk_X7_takesHead 67 _ rfl)
  refine F_case (fun c4_2 => ?_) (fun c4_2 => ?_)
  · rw [c4_2]; refine F_look (off := 36) (tgt := 40) (by decide) (by decide) (by decide) (dk_X7_takesHead 4 _ rfl) ?_
    refine F_aload_n (i := 0) (a := 0) rfl rfl (dk_X7_takesHead 40 _ rfl) ?_
    refine F_gR (b := 10) fxM_7_17_0 fl_7_63 (dk_X7_takesHead 41 _ rfl) ?_
    refine F_iload_n (i := 1) (a := 1) rfl rfl (dk_X7_takesHead 44 _ rfl) ?_
    refine F_iconst (v := 0) (by decide) (dk_X7_takesHead 45 _ rfl) ?_
    refine F_iast (axM_0_10) (dk_X7_takesHead 46 _ rfl) (fun m13 => ?_)
    refine F_aload_n (i := 0) (a := 0) rfl rfl (dk_X7_takesHead 47 _ rfl) ?_
    refine F_iconst (v := 0) (by decide) (dk_X7_takesHead 48 _ rfl) ?_
    refine F_iconst (v := 4) (by decide) (dk_X7_takesHead 49 _ rfl) ?_
    refine F_callV (ι' := uI) (ci := 7) (b := 0) (As := [.int 0, .int 4]) (d' := 4) (rfl) ok_X7_takesWord vi_X7_takesWord cl_7_240 (n := 2) (by decide +kernel) rfl rfl rfl (Nat.le_of_ble_eq_true rfl) (by omega) (dk_X7_takesHead 50 _ rfl) (c_X7_takesWord _ _ _ ) (fun x14 m15 => ?_)
    show JF _ _ _ _ _ _ [.int x14] _ _
    exact F_retZ rfl (dk_X7_takesHead 53 _ rfl)
  refine F_look (off := 79) (tgt := 83) (by decide) (by have q0 := fI_ne c4_0; rw [show (99 : Int32).toInt = 99 from by decide] at q0; have q1 := fI_ne c4_1; rw [show (100 : Int32).toInt = 100 from by decide] at q1; have q2 := fI_ne c4_2; rw [show (116 : Int32).toInt = 116 from by decide] at q2; simp [Op.lookupswitch.offset, q0, Ne.symm q0, q1, Ne.symm q1, q2, Ne.symm q2]) (by decide) (dk_X7_takesHead 4 _ rfl) ?_
  refine F_aload_n (i := 0) (a := 0) rfl rfl (dk_X7_takesHead 83 _ rfl) ?_
  refine F_gR (b := 10) fxM_7_17_0 fl_7_63 (dk_X7_takesHead 84 _ rfl) ?_
  refine F_iload_n (i := 1) (a := 1) rfl rfl (dk_X7_takesHead 87 _ rfl) ?_
  refine F_iconst (v := 3) (by decide) (dk_X7_takesHead 88 _ rfl) ?_
  refine F_iast (axM_0_10) (dk_X7_takesHead 89 _ rfl) (fun m17 => ?_)
  refine F_aload_n (i := 0) (a := 0) rfl rfl (dk_X7_takesHead 90 _ rfl) ?_
  refine F_bipush (v := 11) (by decide) (dk_X7_takesHead 91 _ rfl) ?_
  refine F_iconst (v := 5) (by decide) (dk_X7_takesHead 93 _ rfl) ?_
  refine F_callV (ι' := uI) (ci := 7) (b := 0) (As := [.int 11, .int 5]) (d' := 4) (rfl) ok_X7_takesWord vi_X7_takesWord cl_7_240 (n := 2) (by decide +kernel) rfl rfl rfl (Nat.le_of_ble_eq_true rfl) (by omega) (dk_X7_takesHead 94 _ rfl) (c_X7_takesWord _ _ _ ) (fun x18 m19 => ?_)
  show JF _ _ _ _ _ _ [.int x18] _ _
  exact F_retZ rfl (dk_X7_takesHead 97 _ rfl)
end
end
-- 21j.fun.lean.txt
section
section
set_option maxRecDepth 100000
def f_X7_takesClause (m : mM) (p1 : Int32) : fR Int32 :=
  bnd (f_X7_takesHead m p1) fun (x1 : Int32) (m2 : mM) => (if x1 = 0 then some (0, m2) else bnd (f_X7_takesNumber m2 ) fun (x4 : Int32) (m5 : mM) => (if x4 = 0 then some (0, m5) else (sA 0 m5 11 p1 (mI m5 14)).bind fun m7 => (gA (mA m7 10) p1).bind fun x8 => (if 0 < x8 then some (1, m7) else bnd (f_X7_takes m7 32) fun (x9 : Int32) (m10 : mM) => (if x9 = 0 then some (0, m10) else bnd (f_X7_takesE m10 p1) fun (x12 : Int32) (m13 : mM) => (if x12 = 0 then some (0, m13) else some (1, m13))))))
theorem c_X7_takesClause (m : mM) (p1 : Int32)  : cF false uI m_X7_takesClause 7 [.ref 0, .int p1] m (f_X7_takesClause m p1) := by
  refine cF_of ok_X7_takesClause (fun _ _ => Nat.le_of_ble_eq_true rfl) ?_
  unfold f_X7_takesClause
  show JF _ _ _ _ _ [(0, .ref 0), (1, .int p1)] _ _ _
  refine F_aload_n (i := 0) (a := 0) rfl rfl (dk_X7_takesClause 0 _ rfl) ?_
  refine F_iload_n (i := 1) (a := 1) rfl rfl (dk_X7_takesClause 1 _ rfl) ?_
  refine F_callV (ι' := uI) (ci := 7) (b := 0) (As := [.int p1]) (d' := 5) (rfl) ok_X7_takesHead vi_X7_takesHead cl_7_244 (n := 1) (by decide +kernel) rfl rfl rfl (Nat.le_of_ble_eq_true rfl) (by omega) (dk_X7_takesClause 2 _ rfl) (c_X7_takesHead _ _ ) (fun x1 m2 => ?_)
  show JF _ _ _ _ _ _ [.int x1] _ _
  refine F_if_eq (tgt := 15) (by decide) (dk_X7_takesClause 5 _ rfl) ?_ ?_
  · refine F_iconst (v := 0) (by decide) (dk_X7_takesClause 15 _ rfl) ?_
    exact F_retB rfl (Or.inl rfl) (dk_X7_takesClause 16 _ rfl)
  · refine F_aload_n (i := 0) (a := 0) rfl rfl (dk_X7_takesClause 8 _ rfl) ?_
    refine F_callV (ι' := uI) (ci := 7) (b := 0) (As := []) (d' := 4) (rfl) ok_X7_takesNumber vi_X7_takesNumber cl_7_228 (n := 0) (by decide +kernel) rfl rfl rfl (Nat.le_of_ble_eq_true rfl) (by omega) (dk_X7_takesClause 9 _ rfl) (c_X7_takesNumber _  ) (fun x4 m5 => ?_)
    show JF _ _ _ _ _ _ [.int x4] _ _
    refine F_if_ne (tgt := 17) (by decide) (dk_X7_takesClause 12 _ rfl) ?_ ?_
    · refine F_aload_n (i := 0) (a := 0) rfl rfl (dk_X7_takesClause 17 _ rfl) ?_
      refine F_gR (b := 11) fxM_7_18_0 fl_7_66 (dk_X7_takesClause 18 _ rfl) ?_
      refine F_iload_n (i := 1) (a := 1) rfl rfl (dk_X7_takesClause 21 _ rfl) ?_
      refine F_aload_n (i := 0) (a := 0) rfl rfl (dk_X7_takesClause 22 _ rfl) ?_
      refine F_gI (n := 14) fxM_7_14_0 rfl fl_7_54 (dk_X7_takesClause 23 _ rfl) ?_
      refine F_iast (axM_0_11) (dk_X7_takesClause 26 _ rfl) (fun m7 => ?_)
      refine F_aload_n (i := 0) (a := 0) rfl rfl (dk_X7_takesClause 27 _ rfl) ?_
      refine F_gR (b := 10) fxM_7_17_0 fl_7_63 (dk_X7_takesClause 28 _ rfl) ?_
      refine F_iload_n (i := 1) (a := 1) rfl rfl (dk_X7_takesClause 31 _ rfl) ?_
      refine F_iald (axM_0_10) (dk_X7_takesClause 32 _ rfl) (fun x8 => ?_)
      refine F_if_gt (tgt := 53) (by decide) (dk_X7_takesClause 33 _ rfl) ?_ ?_
      · refine F_iconst (v := 1) (by decide) (dk_X7_takesClause 53 _ rfl) ?_
        refine F_goto (tgt := 58) (by decide) (dk_X7_takesClause 54 _ rfl) ?_
        exact F_retB rfl (Or.inr rfl) (dk_X7_takesClause 58 _ rfl)
      · refine F_aload_n (i := 0) (a := 0) rfl rfl (dk_X7_takesClause 36 _ rfl) ?_
        refine F_bipush (v := 32) (by decide) (dk_X7_takesClause 37 _ rfl) ?_
        refine F_callV (ι' := uI) (ci := 7) (b := 0) (As := [.int 32]) (d' := 3) (rfl) ok_X7_takes vi_X7_takes cl_7_213 (n := 1) (by decide +kernel) rfl rfl rfl (Nat.le_of_ble_eq_true rfl) (by omega) (dk_X7_takesClause 39 _ rfl) (c_X7_takes _ _ ) (fun x9 m10 => ?_)
        show JF _ _ _ _ _ _ [.int x9] _ _
        refine F_if_eq (tgt := 57) (by decide) (dk_X7_takesClause 42 _ rfl) ?_ ?_
        · refine F_iconst (v := 0) (by decide) (dk_X7_takesClause 57 _ rfl) ?_
          exact F_retB rfl (Or.inl rfl) (dk_X7_takesClause 58 _ rfl)
        · refine F_aload_n (i := 0) (a := 0) rfl rfl (dk_X7_takesClause 45 _ rfl) ?_
          refine F_iload_n (i := 1) (a := 1) rfl rfl (dk_X7_takesClause 46 _ rfl) ?_
          refine F_callV (ι' := uI) (ci := 7) (b := 0) (As := [.int p1]) (d' := 6) (rfl) ok_X7_takesE vi_X7_takesE cl_7_247 (n := 1) (by decide +kernel) rfl rfl rfl (Nat.le_of_ble_eq_true rfl) (by omega) (dk_X7_takesClause 47 _ rfl) (c_X7_takesE _ _ ) (fun x12 m13 => ?_)
          show JF _ _ _ _ _ _ [.int x12] _ _
          refine F_if_eq (tgt := 57) (by decide) (dk_X7_takesClause 50 _ rfl) ?_ ?_
          · refine F_iconst (v := 0) (by decide) (dk_X7_takesClause 57 _ rfl) ?_
            exact F_retB rfl (Or.inl rfl) (dk_X7_takesClause 58 _ rfl)
          · refine F_iconst (v := 1) (by decide) (dk_X7_takesClause 53 _ rfl) ?_
            refine F_goto (tgt := 58) (by decide) (dk_X7_takesClause 54 _ rfl) ?_
            exact F_retB rfl (Or.inr rfl) (dk_X7_takesClause 58 _ rfl)
    · refine F_iconst (v := 0) (by decide) (dk_X7_takesClause 15 _ rfl) ?_
      exact F_retB rfl (Or.inl rfl) (dk_X7_takesClause 16 _ rfl)
def fb_X7_goesText_15 (K15 : mM → Int32 → Int32 → fR Int32) (m : mM) (y1 : Int32) (y2 : Int32) : fR Int32 :=
  bnd (f_X7_takesClause m (((10 * y1) + y2))) fun (x3 : Int32) (m4 : mM) => (if x3 = 0 then some (0, m4) else (sA 0 m4 9 y1 (y2 + 1)).bind fun m6 => (if (mI m6 13) = (mI m6 12) then some (1, m6) else (if (y2 + 1) = 10 then some (0, m6) else bnd (f_X7_takes m6 59) fun (x7 : Int32) (m8 : mM) => (if x7 = 0 then some (0, m8) else (K15 m8 y1 (y2 + 1))))))
def f_X7_goesText_15  : Nat → mM → Int32 → Int32 → fR Int32
  | 0, _, _, _ => none
  | F + 1, m, y1, y2 => fb_X7_goesText_15  (f_X7_goesText_15  F) m y1 y2
theorem jb_X7_goesText_15 (K15 : mM → Int32 → Int32 → fR Int32) (hK15 : ∀ (m : mM) (y1 : Int32) (y2 : Int32) , JF false uI m_X7_goesText 8 15 [(0, .ref 0), (1, .int y1), (2, .int y2)] [] m (K15 m y1 y2)) (m : mM) (y1 : Int32) (y2 : Int32)  : JF false uI m_X7_goesText 8 15 [(0, .ref 0), (1, .int y1), (2, .int y2)] [] m (fb_X7_goesText_15 K15 m y1 y2) := by
  unfold fb_X7_goesText_15
  refine F_aload_n (i := 0) (a := 0) rfl rfl (dk_X7_goesText 15 _ rfl) ?_
  refine F_bipush (v := 10) (by decide) (dk_X7_goesText 16 _ rfl) ?_
  refine F_iload_n (i := 1) (a := 1) rfl rfl (dk_X7_goesText 18 _ rfl) ?_
  refine F_imul (dk_X7_goesText 19 _ rfl) ?_
  refine F_iload_n (i := 2) (a := 2) rfl rfl (dk_X7_goesText 20 _ rfl) ?_
  refine F_iadd (dk_X7_goesText 21 _ rfl) ?_
  refine F_callV (ι' := uI) (ci := 7) (b := 0) (As := [.int ((10 * y1) + y2)]) (d' := 7) (rfl) ok_X7_takesClause vi_X7_takesClause cl_7_250 (n := 1) (by decide +kernel) rfl rfl rfl (Nat.le_of_ble_eq_true rfl) (by omega) (dk_X7_goesText 22 _ rfl) (c_X7_takesClause _ _ ) (fun x3 m4 => ?_)
  show JF _ _ _ _ _ _ [.int x3] _ _
  refine F_if_ne (tgt := 30) (by decide) (dk_X7_goesText 25 _ rfl) ?_ ?_
  · refine F_iinc (i := 2) (n := 1) (v := (y2 + 1)) (lv' := [(2, .int (y2 + 1)), (0, .ref 0), (1, .int y1)]) rfl (by first | rfl | decide) (by decide) rfl (dk_X7_goesText 30 _ rfl) ?_
    refine F_aload_n (i := 0) (a := 0) rfl rfl (dk_X7_goesText 33 _ rfl) ?_
    refine F_gR (b := 9) fxM_7_16_0 fl_7_60 (dk_X7_goesText 34 _ rfl) ?_
    refine F_iload_n (i := 1) (a := 1) rfl rfl (dk_X7_goesText 37 _ rfl) ?_
    refine F_iload_n (i := 2) (a := 2) rfl rfl (dk_X7_goesText 38 _ rfl) ?_
    refine F_iast (axM_0_9) (dk_X7_goesText 39 _ rfl) (fun m6 => ?_)
    refine F_aload_n (i := 0) (a := 0) rfl rfl (dk_X7_goesText 40 _ rfl) ?_
    refine F_gI (n := 13) fxM_7_13_0 rfl fl_7_51 (dk_X7_goesText 41 _ rfl) ?_
    refine F_aload_n (i := 0) (a := 0) rfl rfl (dk_X7_goesText 44 _ rfl) ?_
    refine F_gI (n := 12) fxM_7_12_0 rfl fl_7_48 (dk_X7_goesText 45 _ rfl) ?_
    refine F_icmp_ne (tgt := 53) (by decide) (dk_X7_goesText 48 _ rfl) ?_ ?_
    · refine F_iload_n (i := 2) (a := 2) rfl rfl (dk_X7_goesText 53 _ rfl) ?_
      refine F_bipush (v := 10) (by decide) (dk_X7_goesText 54 _ rfl) ?_
      refine F_icmp_eq (tgt := 68) (by decide) (dk_X7_goesText 56 _ rfl) ?_ ?_
      · refine F_iconst (v := 0) (by decide) (dk_X7_goesText 68 _ rfl) ?_
        exact F_retB rfl (Or.inl rfl) (dk_X7_goesText 69 _ rfl)
      · refine F_aload_n (i := 0) (a := 0) rfl rfl (dk_X7_goesText 59 _ rfl) ?_
        refine F_bipush (v := 59) (by decide) (dk_X7_goesText 60 _ rfl) ?_
        refine F_callV (ι' := uI) (ci := 7) (b := 0) (As := [.int 59]) (d' := 3) (rfl) ok_X7_takes vi_X7_takes cl_7_213 (n := 1) (by decide +kernel) rfl rfl rfl (Nat.le_of_ble_eq_true rfl) (by omega) (dk_X7_goesText 62 _ rfl) (c_X7_takes _ _ ) (fun x7 m8 => ?_)
        show JF _ _ _ _ _ _ [.int x7] _ _
        refine F_if_ne (tgt := 15) (by decide) (dk_X7_goesText 65 _ rfl) ?_ ?_
        · exact F_loc (List.forall_mem_cons.mpr ⟨(.tail _ (.head _)), (List.forall_mem_cons.mpr ⟨(.tail _ (.tail _ (.head _))), (List.forall_mem_cons.mpr ⟨(.head _), (fun _ z => absurd z List.not_mem_nil)⟩)⟩)⟩) (hK15 _ _ _ )
        · refine F_iconst (v := 0) (by decide) (dk_X7_goesText 68 _ rfl) ?_
          exact F_retB rfl (Or.inl rfl) (dk_X7_goesText 69 _ rfl)
    · refine F_iconst (v := 1) (by decide) (dk_X7_goesText 51 _ rfl) ?_
      exact F_retB rfl (Or.inr rfl) (dk_X7_goesText 52 _ rfl)
  · refine F_iconst (v := 0) (by decide) (dk_X7_goesText 28 _ rfl) ?_
    exact F_retB rfl (Or.inl rfl) (dk_X7_goesText 29 _ rfl)
theorem j_X7_goesText_15   : ∀ (F : Nat) (m : mM) (y1 : Int32) (y2 : Int32) , JF false uI m_X7_goesText 8 15 [(0, .ref 0), (1, .int y1), (2, .int y2)] [] m (f_X7_goesText_15  F m y1 y2) := by
  intro F
  induction F with
  | zero => intro m y1 y2 ; exact F_no
  | succ F ih => intro m y1 y2 ; exact jb_X7_goesText_15  (f_X7_goesText_15  F)  ih m y1 y2 
def f_X7_goesText (m : mM) (p1 : Int32) : fR Int32 :=
  nmM (wI m 13 0) fun m1 => nmM (wI m1 23 (100 * p1)) fun m2 => (f_X7_goesText_15  1000 m2 p1 0)
theorem c_X7_goesText (m : mM) (p1 : Int32)  : cF false uI m_X7_goesText 8 [.ref 0, .int p1] m (f_X7_goesText m p1) := by
  refine cF_of ok_X7_goesText (fun _ _ => Nat.le_of_ble_eq_true rfl) ?_
  unfold f_X7_goesText
  show JF _ _ _ _ _ [(0, .ref 0), (1, .int p1)] _ _ _
  refine F_aload_n (i := 0) (a := 0) rfl rfl (dk_X7_goesText 0 _ rfl) ?_
  refine F_iconst (v := 0) (by decide) (dk_X7_goesText 1 _ rfl) ?_
  refine F_pI (n := 13) fxM_7_13_0 rfl fl_7_51 (fun q hq => by cases hq; rfl) trivial (dk_X7_goesText 2 _ rfl) (fun m1 => ?_)
  refine F_aload_n (i := 0) (a := 0) rfl rfl (dk_X7_goesText 5 _ rfl) ?_
  refine F_bipush (v := 100) (by decide) (dk_X7_goesText 6 _ rfl) ?_
  refine F_iload_n (i := 1) (a := 1) rfl rfl (dk_X7_goesText 8 _ rfl) ?_
  refine F_imul (dk_X7_goesText 9 _ rfl) ?_
  refine F_pI (n := 23) fxM_7_23_0 rfl fl_7_81 (fun q hq => by cases hq; rfl) trivial (dk_X7_goesText 10 _ rfl) (fun m2 => ?_)
  refine F_iconst (v := 0) (by decide) (dk_X7_goesText 13 _ rfl) ?_
  refine F_istore_n (lv' := [(2, .int 0), (0, .ref 0), (1, .int p1)]) (i := 2) (a := 2) rfl (by decide) rfl (dk_X7_goesText 14 _ rfl) ?_
  exact F_loc (List.forall_mem_cons.mpr ⟨(.tail _ (.head _)), (List.forall_mem_cons.mpr ⟨(.tail _ (.tail _ (.head _))), (List.forall_mem_cons.mpr ⟨(.head _), (fun _ z => absurd z List.not_mem_nil)⟩)⟩)⟩) (j_X7_goesText_15   1000 _ _ _ )
def f_X7_town (m : mM)  : fR Int32 :=
  (if (mI m 10) = 6 then some ((-4), m) else bnd (f_X7_goesText m (mI m 10)) fun (x1 : Int32) (m2 : mM) => nmM (wI m2 12 0) fun m4 => (if x1 = 0 then some (((-10) - (mI m4 13)), m4) else nmM (wI m4 11 (mI m4 10)) fun m5 => nmM (wI m5 10 (((mI m5 10) + 1))) fun m6 => some ((mI m6 11), m6)))
theorem c_X7_town (m : mM)   : cF false uI m_X7_town 9 [.ref 0] m (f_X7_town m ) := by
  refine cF_of ok_X7_town (fun _ _ => Nat.le_of_ble_eq_true rfl) ?_
  unfold f_X7_town
  show JF _ _ _ _ _ [(0, .ref 0)] _ _ _
  refine F_aload_n (i := 0) (a := 0) rfl rfl (dk_X7_town 0 _ rfl) ?_
  refine F_gI (n := 10) fxM_7_10_0 rfl fl_7_42 (dk_X7_town 1 _ rfl) ?_
  refine F_bipush (v := 6) (by decide) (dk_X7_town 4 _ rfl) ?_
  refine F_icmp_ne (tgt := 12) (by decide) (dk_X7_town 6 _ rfl) ?_ ?_
  · refine F_aload_n (i := 0) (a := 0) rfl rfl (dk_X7_town 12 _ rfl) ?_
    refine F_aload_n (i := 0) (a := 0) rfl rfl (dk_X7_town 13 _ rfl) ?_
    refine F_gI (n := 10) fxM_7_10_0 rfl fl_7_42 (dk_X7_town 14 _ rfl) ?_
    refine F_callV (ι' := uI) (ci := 7) (b := 0) (As := [.int (mI m 10)]) (d' := 8) (rfl) ok_X7_goesText vi_X7_goesText cl_7_253 (n := 1) (by decide +kernel) rfl rfl rfl (Nat.le_of_ble_eq_true rfl) (by omega) (dk_X7_town 17 _ rfl) (c_X7_goesText _ _ ) (fun x1 m2 => ?_)
    show JF _ _ _ _ _ _ [.int x1] _ _
    refine F_istore_n (lv' := [(1, .int x1), (0, .ref 0)]) (i := 1) (a := 1) rfl (by decide) rfl (dk_X7_town 20 _ rfl) ?_
    refine F_aload_n (i := 0) (a := 0) rfl rfl (dk_X7_town 21 _ rfl) ?_
    refine F_iconst (v := 0) (by decide) (dk_X7_town 22 _ rfl) ?_
    refine F_pI (n := 12) fxM_7_12_0 rfl fl_7_48 (fun q hq => by cases hq; rfl) trivial (dk_X7_town 23 _ rfl) (fun m4 => ?_)
    refine F_iload_n (i := 1) (a := 1) rfl rfl (dk_X7_town 26 _ rfl) ?_
    refine F_if_ne (tgt := 38) (by decide) (dk_X7_town 27 _ rfl) ?_ ?_
    · refine F_aload_n (i := 0) (a := 0) rfl rfl (dk_X7_town 38 _ rfl) ?_
      refine F_aload_n (i := 0) (a := 0) rfl rfl (dk_X7_town 39 _ rfl) ?_
      refine F_gI (n := 10) fxM_7_10_0 rfl fl_7_42 (dk_X7_town 40 _ rfl) ?_
      refine F_pI (n := 11) fxM_7_11_0 rfl fl_7_45 (fun q hq => by cases hq; rfl) trivial (dk_X7_town 43 _ rfl) (fun m5 => ?_)
      refine F_aload_n (i := 0) (a := 0) rfl rfl (dk_X7_town 46 _ rfl) ?_
      refine F_dup rfl (dk_X7_town 47 _ rfl) ?_
      refine F_gI (n := 10) fxM_7_10_0 rfl fl_7_42 (dk_X7_town 48 _ rfl) ?_
      refine F_iconst (v := 1) (by decide) (dk_X7_town 51 _ rfl) ?_
      refine F_iadd (dk_X7_town 52 _ rfl) ?_
      refine F_pI (n := 10) fxM_7_10_0 rfl fl_7_42 (fun q hq => by cases hq; rfl) trivial (dk_X7_town 53 _ rfl) (fun m6 => ?_)
      refine F_aload_n (i := 0) (a := 0) rfl rfl (dk_X7_town 56 _ rfl) ?_
      refine F_gI (n := 11) fxM_7_11_0 rfl fl_7_45 (dk_X7_town 57 _ rfl) ?_
      exact F_ret rfl (dk_X7_town 60 _ rfl)
    · refine F_bipush (v := (-10)) (by decide) (dk_X7_town 30 _ rfl) ?_
      refine F_aload_n (i := 0) (a := 0) rfl rfl (dk_X7_town 32 _ rfl) ?_
      refine F_gI (n := 13) fxM_7_13_0 rfl fl_7_51 (dk_X7_town 33 _ rfl) ?_
      refine F_isub (dk_X7_town 36 _ rfl) ?_
      exact F_ret rfl (dk_X7_town 37 _ rfl)
  · refine F_bipush (v := (-4)) (by decide) (dk_X7_town 9 _ rfl) ?_
    exact F_ret rfl (dk_X7_town 11 _ rfl)
def f_X7_clauseFrom (m : mM)  : fR Int32 :=
  (if 0 ≤ (mI m 11) then some ((10 * (mI m 11)), m) else some (0, m))
theorem c_X7_clauseFrom (m : mM)   : cF false uI m_X7_clauseFrom 2 [.ref 0] m (f_X7_clauseFrom m ) := by
  refine cF_of ok_X7_clauseFrom (fun _ _ => Nat.le_of_ble_eq_true rfl) ?_
  unfold f_X7_clauseFrom
  show JF _ _ _ _ _ [(0, .ref 0)] _ _ _
  refine F_aload_n (i := 0) (a := 0) rfl rfl (dk_X7_clauseFrom 0 _ rfl) ?_
  refine F_gI (n := 11) fxM_7_11_0 rfl fl_7_45 (dk_X7_clauseFrom 1 _ rfl) ?_
  refine F_if_ge (tgt := 11) (by decide) (dk_X7_clauseFrom 4 _ rfl) ?_ ?_
  · refine F_bipush (v := 10) (by decide) (dk_X7_clauseFrom 11 _ rfl) ?_
    refine F_aload_n (i := 0) (a := 0) rfl rfl (dk_X7_clauseFrom 13 _ rfl) ?_
    refine F_gI (n := 11) fxM_7_11_0 rfl fl_7_45 (dk_X7_clauseFrom 14 _ rfl) ?_
    refine F_imul (dk_X7_clauseFrom 17 _ rfl) ?_
    exact F_ret rfl (dk_X7_clauseFrom 18 _ rfl)
  · refine F_iconst (v := 0) (by decide) (dk_X7_clauseFrom 7 _ rfl) ?_
    refine F_goto (tgt := 18) (by decide) (dk_X7_clauseFrom 8 _ rfl) ?_
    exact F_ret rfl (dk_X7_clauseFrom 18 _ rfl)
def f_X7_clauseTo (m : mM)  : fR Int32 :=
  (if 0 ≤ (mI m 11) then (gA (mA m 9) (mI m 11)).bind fun x1 => some (((10 * (mI m 11)) + x1), m) else some (0, m))
theorem c_X7_clauseTo (m : mM)   : cF false uI m_X7_clauseTo 2 [.ref 0] m (f_X7_clauseTo m ) := by
  refine cF_of ok_X7_clauseTo (fun _ _ => Nat.le_of_ble_eq_true rfl) ?_
  unfold f_X7_clauseTo
  show JF _ _ _ _ _ [(0, .ref 0)] _ _ _
  refine F_aload_n (i := 0) (a := 0) rfl rfl (dk_X7_clauseTo 0 _ rfl) ?_
  refine F_gI (n := 11) fxM_7_11_0 rfl fl_7_45 (dk_X7_clauseTo 1 _ rfl) ?_
  refine F_if_ge (tgt := 11) (by decide) (dk_X7_clauseTo 4 _ rfl) ?_ ?_
  · refine F_bipush (v := 10) (by decide) (dk_X7_clauseTo 11 _ rfl) ?_
    refine F_aload_n (i := 0) (a := 0) rfl rfl (dk_X7_clauseTo 13 _ rfl) ?_
    refine F_gI (n := 11) fxM_7_11_0 rfl fl_7_45 (dk_X7_clauseTo 14 _ rfl) ?_
    refine F_imul (dk_X7_clauseTo 17 _ rfl) ?_
    refine F_aload_n (i := 0) (a := 0) rfl rfl (dk_X7_clauseTo 18 _ rfl) ?_
    refine F_gR (b := 9) fxM_7_16_0 fl_7_60 (dk_X7_clauseTo 19 _ rfl) ?_
    refine F_aload_n (i := 0) (a := 0) rfl rfl (dk_X7_clauseTo 22 _ rfl) ?_
    refine F_gI (n := 11) fxM_7_11_0 rfl fl_7_45 (dk_X7_clauseTo 23 _ rfl) ?_
    refine F_iald (axM_0_9) (dk_X7_clauseTo 26 _ rfl) (fun x1 => ?_)
    refine F_iadd (dk_X7_clauseTo 27 _ rfl) ?_
    exact F_ret rfl (dk_X7_clauseTo 28 _ rfl)
  · refine F_iconst (v := 0) (by decide) (dk_X7_clauseTo 7 _ rfl) ?_
    refine F_goto (tgt := 28) (by decide) (dk_X7_clauseTo 8 _ rfl) ?_
    exact F_ret rfl (dk_X7_clauseTo 28 _ rfl)
def fb_X7_lastOf_8 (K8 : mM → Int32 → Int32 → Int32 → fR Int32) (m : mM) (y1 : Int32) (y3 : Int32) (y4 : Int32) : fR Int32 :=
  bnd (f_X7_clauseTo m ) fun (x4 : Int32) (m5 : mM) => (if x4 ≤ y4 then some (y3, m5) else (gA (mA m5 10) y4).bind fun x7 => (if x7 = y1 then (gA (mA m5 11) y4).bind fun x8 => (K8 m5 y1 x8 (y4 + 1)) else (K8 m5 y1 y3 (y4 + 1))))
def f_X7_lastOf_8  : Nat → mM → Int32 → Int32 → Int32 → fR Int32
  | 0, _, _, _, _ => none
  | F + 1, m, y1, y3, y4 => fb_X7_lastOf_8  (f_X7_lastOf_8  F) m y1 y3 y4
theorem jb_X7_lastOf_8 (K8 : mM → Int32 → Int32 → Int32 → fR Int32) (hK8 : ∀ (m : mM) (y1 : Int32) (y3 : Int32) (y4 : Int32) , JF false uI m_X7_lastOf 3 8 [(0, .ref 0), (1, .int y1), (3, .int y3), (4, .int y4)] [] m (K8 m y1 y3 y4)) (m : mM) (y1 : Int32) (y3 : Int32) (y4 : Int32)  : JF false uI m_X7_lastOf 3 8 [(0, .ref 0), (1, .int y1), (3, .int y3), (4, .int y4)] [] m (fb_X7_lastOf_8 K8 m y1 y3 y4) := by
  unfold fb_X7_lastOf_8
  refine F_iload (i := 4) rfl (dk_X7_lastOf 8 _ rfl) ?_
  refine F_aload_n (i := 0) (a := 0) rfl rfl (dk_X7_lastOf 10 _ rfl) ?_
  refine F_callV (ι' := uI) (ci := 7) (b := 0) (As := []) (d' := 2) (rfl) ok_X7_clauseTo vi_X7_clauseTo cl_7_259 (n := 0) (by decide +kernel) rfl rfl rfl (Nat.le_of_ble_eq_true rfl) (by omega) (dk_X7_lastOf 11 _ rfl) (c_X7_clauseTo _  ) (fun x4 m5 => ?_)
  show JF _ _ _ _ _ _ [.int x4, .int y4] _ _
  refine F_icmp_ge (tgt := 46) (by decide) (dk_X7_lastOf 14 _ rfl) ?_ ?_
  · refine F_iload_n (i := 3) (a := 3) rfl rfl (dk_X7_lastOf 46 _ rfl) ?_
    exact F_ret rfl (dk_X7_lastOf 47 _ rfl)
  · refine F_aload_n (i := 0) (a := 0) rfl rfl (dk_X7_lastOf 17 _ rfl) ?_
    refine F_gR (b := 10) fxM_7_17_0 fl_7_63 (dk_X7_lastOf 18 _ rfl) ?_
    refine F_iload (i := 4) rfl (dk_X7_lastOf 21 _ rfl) ?_
    refine F_iald (axM_0_10) (dk_X7_lastOf 23 _ rfl) (fun x7 => ?_)
    refine F_iload_n (i := 1) (a := 1) rfl rfl (dk_X7_lastOf 24 _ rfl) ?_
    refine F_icmp_ne (tgt := 38) (by decide) (dk_X7_lastOf 25 _ rfl) ?_ ?_
    · refine F_iload_n (i := 3) (a := 3) rfl rfl (dk_X7_lastOf 38 _ rfl) ?_
      refine F_istore_n (lv' := [(3, .int y3), (0, .ref 0), (1, .int y1), (4, .int y4)]) (i := 3) (a := 3) rfl (by decide) rfl (dk_X7_lastOf 39 _ rfl) ?_
      refine F_iinc (i := 4) (n := 1) (v := (y4 + 1)) (lv' := [(4, .int (y4 + 1)), (3, .int y3), (0, .ref 0), (1, .int y1)]) rfl (by first | rfl | decide) (by decide) rfl (dk_X7_lastOf 40 _ rfl) ?_
      refine F_goto (tgt := 8) (by decide) (dk_X7_lastOf 43 _ rfl) ?_
      exact F_loc (List.forall_mem_cons.mpr ⟨(.tail _ (.tail _ (.head _))), (List.forall_mem_cons.mpr ⟨(.tail _ (.tail _ (.tail _ (.head _)))), (List.forall_mem_cons.mpr ⟨(.tail _ (.head _)), (List.forall_mem_cons.mpr ⟨(.head _), (fun _ z => absurd z List.not_mem_nil)⟩)⟩)⟩)⟩) (hK8 _ _ _ _ )
    · refine F_aload_n (i := 0) (a := 0) rfl rfl (dk_X7_lastOf 28 _ rfl) ?_
      refine F_gR (b := 11) fxM_7_18_0 fl_7_66 (dk_X7_lastOf 29 _ rfl) ?_
      refine F_iload (i := 4) rfl (dk_X7_lastOf 32 _ rfl) ?_
      refine F_iald (axM_0_11) (dk_X7_lastOf 34 _ rfl) (fun x8 => ?_)
      refine F_goto (tgt := 39) (by decide) (dk_X7_lastOf 35 _ rfl) ?_
      refine F_istore_n (lv' := [(3, .int x8), (0, .ref 0), (1, .int y1), (4, .int y4)]) (i := 3) (a := 3) rfl (by decide) rfl (dk_X7_lastOf 39 _ rfl) ?_
      refine F_iinc (i := 4) (n := 1) (v := (y4 + 1)) (lv' := [(4, .int (y4 + 1)), (3, .int x8), (0, .ref 0), (1, .int y1)]) rfl (by first | rfl | decide) (by decide) rfl (dk_X7_lastOf 40 _ rfl) ?_
      refine F_goto (tgt := 8) (by decide) (dk_X7_lastOf 43 _ rfl) ?_
      exact F_loc (List.forall_mem_cons.mpr ⟨(.tail _ (.tail _ (.head _))), (List.forall_mem_cons.mpr ⟨(.tail _ (.tail _ (.tail _ (.head _)))), (List.forall_mem_cons.mpr ⟨(.tail _ (.head _)), (List.forall_mem_cons.mpr ⟨(.head _), (fun _ z => absurd z List.not_mem_nil)⟩)⟩)⟩)⟩) (hK8 _ _ _ _ )
theorem j_X7_lastOf_8   : ∀ (F : Nat) (m : mM) (y1 : Int32) (y3 : Int32) (y4 : Int32) , JF false uI m_X7_lastOf 3 8 [(0, .ref 0), (1, .int y1), (3, .int y3), (4, .int y4)] [] m (f_X7_lastOf_8  F m y1 y3 y4) := by
  intro F
  induction F with
  | zero => intro m y1 y3 y4 ; exact F_no
  | succ F ih => intro m y1 y3 y4 ; exact jb_X7_lastOf_8  (f_X7_lastOf_8  F)  ih m y1 y3 y4 
def f_X7_lastOf (m : mM) (p1 : Int32) (p2 : Int32) : fR Int32 :=
  bnd (f_X7_clauseFrom m ) fun (x1 : Int32) (m2 : mM) => (f_X7_lastOf_8  1000 m2 p1 p2 x1)
theorem c_X7_lastOf (m : mM) (p1 : Int32) (p2 : Int32)  : cF false uI m_X7_lastOf 3 [.ref 0, .int p1, .int p2] m (f_X7_lastOf m p1 p2) := by
  refine cF_of ok_X7_lastOf (fun _ _ => Nat.le_of_ble_eq_true rfl) ?_
  unfold f_X7_lastOf
  show JF _ _ _ _ _ [(0, .ref 0), (1, .int p1), (2, .int p2)] _ _ _
  refine F_iload_n (i := 2) (a := 2) rfl rfl (dk_X7_lastOf 0 _ rfl) ?_
  refine F_istore_n (lv' := [(3, .int p2), (0, .ref 0), (1, .int p1), (2, .int p2)]) (i := 3) (a := 3) rfl (by decide) rfl (dk_X7_lastOf 1 _ rfl) ?_
  refine F_aload_n (i := 0) (a := 0) rfl rfl (dk_X7_lastOf 2 _ rfl) ?_
  refine F_callV (ι' := uI) (ci := 7) (b := 0) (As := []) (d' := 2) (rfl) ok_X7_clauseFrom vi_X7_clauseFrom cl_7_256 (n := 0) (by decide +kernel) rfl rfl rfl (Nat.le_of_ble_eq_true rfl) (by omega) (dk_X7_lastOf 3 _ rfl) (c_X7_clauseFrom _  ) (fun x1 m2 => ?_)
  show JF _ _ _ _ _ _ [.int x1] _ _
  refine F_istore (lv' := [(4, .int x1), (3, .int p2), (0, .ref 0), (1, .int p1), (2, .int p2)]) (i := 4) (by decide) rfl (dk_X7_lastOf 6 _ rfl) ?_
  exact F_loc (List.forall_mem_cons.mpr ⟨(.tail _ (.tail _ (.head _))), (List.forall_mem_cons.mpr ⟨(.tail _ (.tail _ (.tail _ (.head _)))), (List.forall_mem_cons.mpr ⟨(.tail _ (.head _)), (List.forall_mem_cons.mpr ⟨(.head _), (fun _ z => absurd z List.not_mem_nil)⟩)⟩)⟩)⟩) (j_X7_lastOf_8   1000 _ _ _ _ )
def f_X7_dueNow (m : mM)  : fR Int32 :=
  (if 0 ≤ (mI m 27) then some ((mI m 27), m) else bnd (f_X7_lastOf m 1 10) fun (x1 : Int32) (m2 : mM) => some (x1, m2))
theorem c_X7_dueNow (m : mM)   : cF false uI m_X7_dueNow 4 [.ref 0] m (f_X7_dueNow m ) := by
  refine cF_of ok_X7_dueNow (fun _ _ => Nat.le_of_ble_eq_true rfl) ?_
  unfold f_X7_dueNow
  show JF _ _ _ _ _ [(0, .ref 0)] _ _ _
  refine F_aload_n (i := 0) (a := 0) rfl rfl (dk_X7_dueNow 0 _ rfl) ?_
  refine F_gI (n := 27) fxM_7_27_0 rfl fl_7_93 (dk_X7_dueNow 1 _ rfl) ?_
  refine F_if_ge (tgt := 17) (by decide) (dk_X7_dueNow 4 _ rfl) ?_ ?_
  · refine F_aload_n (i := 0) (a := 0) rfl rfl (dk_X7_dueNow 17 _ rfl) ?_
    refine F_gI (n := 27) fxM_7_27_0 rfl fl_7_93 (dk_X7_dueNow 18 _ rfl) ?_
    exact F_ret rfl (dk_X7_dueNow 21 _ rfl)
  · refine F_aload_n (i := 0) (a := 0) rfl rfl (dk_X7_dueNow 7 _ rfl) ?_
    refine F_iconst (v := 1) (by decide) (dk_X7_dueNow 8 _ rfl) ?_
    refine F_bipush (v := 10) (by decide) (dk_X7_dueNow 9 _ rfl) ?_
    refine F_callV (ι' := uI) (ci := 7) (b := 0) (As := [.int 1, .int 10]) (d' := 3) (rfl) ok_X7_lastOf vi_X7_lastOf cl_7_262 (n := 2) (by decide +kernel) rfl rfl rfl (Nat.le_of_ble_eq_true rfl) (by omega) (dk_X7_dueNow 11 _ rfl) (c_X7_lastOf _ _ _ ) (fun x1 m2 => ?_)
    show JF _ _ _ _ _ _ [.int x1] _ _
    refine F_goto (tgt := 21) (by decide) (dk_X7_dueNow 14 _ rfl) ?_
    exact F_ret rfl (dk_X7_dueNow 21 _ rfl)
def fb_X7_manyBorn_4 (K4 : mM → Int32 → Int32 → Int32 → fR Int32) (m : mM) (y1 : Int32) (y2 : Int32) (y3 : Int32) : fR Int32 :=
  (if (mI m 0) ≤ y3 then some (y2, m) else (gA (mA m 7) y3).bind fun x1 => (if x1 = 0 then nmI (y2 + 0) fun v2 => (K4 m y1 v2 (y3 + 1)) else (gA (mA m 3) y3).bind fun x3 => (if x3 = y1 then nmI (y2 + 1) fun v5 => (K4 m y1 v5 (y3 + 1)) else nmI (y2 + 0) fun v4 => (K4 m y1 v4 (y3 + 1)))))
def f_X7_manyBorn_4  : Nat → mM → Int32 → Int32 → Int32 → fR Int32
  | 0, _, _, _, _ => none
  | F + 1, m, y1, y2, y3 => fb_X7_manyBorn_4  (f_X7_manyBorn_4  F) m y1 y2 y3
theorem jb_X7_manyBorn_4 (K4 : mM → Int32 → Int32 → Int32 → fR Int32) (hK4 : ∀ (m : mM) (y1 : Int32) (y2 : Int32) (y3 : Int32) , JF false uI m_X7_manyBorn 2 4 [(0, .ref 0), (1, .int y1), (2, .int y2), (3, .int y3)] [] m (K4 m y1 y2 y3)) (m : mM) (y1 : Int32) (y2 : Int32) (y3 : Int32)  : JF false uI m_X7_manyBorn 2 4 [(0, .ref 0), (1, .int y1), (2, .int y2), (3, .int y3)] [] m (fb_X7_manyBorn_4 K4 m y1 y2 y3) := by
  unfold fb_X7_manyBorn_4
  refine F_iload_n (i := 3) (a := 3) rfl rfl (dk_X7_manyBorn 4 _ rfl) ?_
  refine F_aload_n (i := 0) (a := 0) rfl rfl (dk_X7_manyBorn 5 _ rfl) ?_
  refine F_gI (n := 0) fxM_7_0_0 rfl fl_7_7 (dk_X7_manyBorn 6 _ rfl) ?_
  refine F_icmp_ge (tgt := 45) (by decide) (dk_X7_manyBorn 9 _ rfl) ?_ ?_
  · refine F_iload_n (i := 2) (a := 2) rfl rfl (dk_X7_manyBorn 45 _ rfl) ?_
    exact F_ret rfl (dk_X7_manyBorn 46 _ rfl)
  · refine F_iload_n (i := 2) (a := 2) rfl rfl (dk_X7_manyBorn 12 _ rfl) ?_
    refine F_aload_n (i := 0) (a := 0) rfl rfl (dk_X7_manyBorn 13 _ rfl) ?_
    refine F_gR (b := 7) fxM_7_9_0 fl_7_38 (dk_X7_manyBorn 14 _ rfl) ?_
    refine F_iload_n (i := 3) (a := 3) rfl rfl (dk_X7_manyBorn 17 _ rfl) ?_
    refine F_zald (axM_3_7) (dk_X7_manyBorn 18 _ rfl) (fun x1 => ?_)
    refine F_if_eq (tgt := 36) (by decide) (dk_X7_manyBorn 19 _ rfl) ?_ ?_
    · refine F_iconst (v := 0) (by decide) (dk_X7_manyBorn 36 _ rfl) ?_
      refine F_iadd (dk_X7_manyBorn 37 _ rfl) ?_
      refine F_nm (fun v2 => ?_)
      refine F_istore_n (lv' := [(2, .int v2), (0, .ref 0), (1, .int y1), (3, .int y3)]) (i := 2) (a := 2) rfl (by decide) rfl (dk_X7_manyBorn 38 _ rfl) ?_
      refine F_iinc (i := 3) (n := 1) (v := (y3 + 1)) (lv' := [(3, .int (y3 + 1)), (2, .int v2), (0, .ref 0), (1, .int y1)]) rfl (by first | rfl | decide) (by decide) rfl (dk_X7_manyBorn 39 _ rfl) ?_
      refine F_goto (tgt := 4) (by decide) (dk_X7_manyBorn 42 _ rfl) ?_
      exact F_loc (List.forall_mem_cons.mpr ⟨(.tail _ (.tail _ (.head _))), (List.forall_mem_cons.mpr ⟨(.tail _ (.tail _ (.tail _ (.head _)))), (List.forall_mem_cons.mpr ⟨(.tail _ (.head _)), (List.forall_mem_cons.mpr ⟨(.head _), (fun _ z => absurd z List.not_mem_nil)⟩)⟩)⟩)⟩) (hK4 _ _ _ _ )
    · refine F_aload_n (i := 0) (a := 0) rfl rfl (dk_X7_manyBorn 22 _ rfl) ?_
      refine F_gR (b := 3) fxM_7_5_0 fl_7_26 (dk_X7_manyBorn 23 _ rfl) ?_
      refine F_iload_n (i := 3) (a := 3) rfl rfl (dk_X7_manyBorn 26 _ rfl) ?_
      refine F_iald (axM_0_3) (dk_X7_manyBorn 27 _ rfl) (fun x3 => ?_)
      refine F_iload_n (i := 1) (a := 1) rfl rfl (dk_X7_manyBorn 28 _ rfl) ?_
      refine F_icmp_ne (tgt := 36) (by decide) (dk_X7_manyBorn 29 _ rfl) ?_ ?_
      · refine F_iconst (v := 0) (by decide) (dk_X7_manyBorn 36 _ rfl) ?_
        refine F_iadd (dk_X7_manyBorn 37 _ rfl) ?_
        refine F_nm (fun v4 => ?_)
        refine F_istore_n (lv' := [(2, .int v4), (0, .ref 0), (1, .int y1), (3, .int y3)]) (i := 2) (a := 2) rfl (by decide) rfl (dk_X7_manyBorn 38 _ rfl) ?_
        refine F_iinc (i := 3) (n := 1) (v := (y3 + 1)) (lv' := [(3, .int (y3 + 1)), (2, .int v4), (0, .ref 0), (1, .int y1)]) rfl (by first | rfl | decide) (by decide) rfl (dk_X7_manyBorn 39 _ rfl) ?_
        refine F_goto (tgt := 4) (by decide) (dk_X7_manyBorn 42 _ rfl) ?_
        exact F_loc (List.forall_mem_cons.mpr ⟨(.tail _ (.tail _ (.head _))), (List.forall_mem_cons.mpr ⟨(.tail _ (.tail _ (.tail _ (.head _)))), (List.forall_mem_cons.mpr ⟨(.tail _ (.head _)), (List.forall_mem_cons.mpr ⟨(.head _), (fun _ z => absurd z List.not_mem_nil)⟩)⟩)⟩)⟩) (hK4 _ _ _ _ )
      · refine F_iconst (v := 1) (by decide) (dk_X7_manyBorn 32 _ rfl) ?_
        refine F_goto (tgt := 37) (by decide) (dk_X7_manyBorn 33 _ rfl) ?_
        refine F_iadd (dk_X7_manyBorn 37 _ rfl) ?_
        refine F_nm (fun v5 => ?_)
        refine F_istore_n (lv' := [(2, .int v5), (0, .ref 0), (1, .int y1), (3, .int y3)]) (i := 2) (a := 2) rfl (by decide) rfl (dk_X7_manyBorn 38 _ rfl) ?_
        refine F_iinc (i := 3) (n := 1) (v := (y3 + 1)) (lv' := [(3, .int (y3 + 1)), (2, .int v5), (0, .ref 0), (1, .int y1)]) rfl (by first | rfl | decide) (by decide) rfl (dk_X7_manyBorn 39 _ rfl) ?_
        refine F_goto (tgt := 4) (by decide) (dk_X7_manyBorn 42 _ rfl) ?_
        exact F_loc (List.forall_mem_cons.mpr ⟨(.tail _ (.tail _ (.head _))), (List.forall_mem_cons.mpr ⟨(.tail _ (.tail _ (.tail _ (.head _)))), (List.forall_mem_cons.mpr ⟨(.tail _ (.head _)), (List.forall_mem_cons.mpr ⟨(.head _), (fun _ z => absurd z List.not_mem_nil)⟩)⟩)⟩)⟩) (hK4 _ _ _ _ )
theorem j_X7_manyBorn_4   : ∀ (F : Nat) (m : mM) (y1 : Int32) (y2 : Int32) (y3 : Int32) , JF false uI m_X7_manyBorn 2 4 [(0, .ref 0), (1, .int y1), (2, .int y2), (3, .int y3)] [] m (f_X7_manyBorn_4  F m y1 y2 y3) := by
  intro F
  induction F with
  | zero => intro m y1 y2 y3 ; exact F_no
  | succ F ih => intro m y1 y2 y3 ; exact jb_X7_manyBorn_4  (f_X7_manyBorn_4  F)  ih m y1 y2 y3 
def f_X7_manyBorn (m : mM) (p1 : Int32) : fR Int32 :=
  (f_X7_manyBorn_4  1000 m p1 0 0)
theorem c_X7_manyBorn (m : mM) (p1 : Int32)  : cF false uI m_X7_manyBorn 2 [.ref 0, .int p1] m (f_X7_manyBorn m p1) := by
  refine cF_of ok_X7_manyBorn (fun _ _ => Nat.le_of_ble_eq_true rfl) ?_
  unfold f_X7_manyBorn
  show JF _ _ _ _ _ [(0, .ref 0), (1, .int p1)] _ _ _
  refine F_iconst (v := 0) (by decide) (dk_X7_manyBorn 0 _ rfl) ?_
  refine F_istore_n (lv' := [(2, .int 0), (0, .ref 0), (1, .int p1)]) (i := 2) (a := 2) rfl (by decide) rfl (dk_X7_manyBorn 1 _ rfl) ?_
  refine F_iconst (v := 0) (by decide) (dk_X7_manyBorn 2 _ rfl) ?_
  refine F_istore_n (lv' := [(3, .int 0), (2, .int 0), (0, .ref 0), (1, .int p1)]) (i := 3) (a := 3) rfl (by decide) rfl (dk_X7_manyBorn 3 _ rfl) ?_
  exact F_loc (List.forall_mem_cons.mpr ⟨(.tail _ (.tail _ (.head _))), (List.forall_mem_cons.mpr ⟨(.tail _ (.tail _ (.tail _ (.head _)))), (List.forall_mem_cons.mpr ⟨(.tail _ (.head _)), (List.forall_mem_cons.mpr ⟨(.head _), (fun _ z => absurd z List.not_mem_nil)⟩)⟩)⟩)⟩) (j_X7_manyBorn_4   1000 _ _ _ _ )
def f_X7_factOf (m : mM) (p1 : Int32) (p2 : Int32) (p3 : Int32) : fR Int32 :=
  (if p1 = 0 then some (p2, m) else if p1 = 1 then (gA (mA m 1) p2).bind fun x2 => some (x2, m) else if p1 = 2 then some (p3, m) else if p1 = 3 then bnd (f_X7_manyBorn m p3) fun (x3 : Int32) (m4 : mM) => some (x3, m4) else if p1 = 4 then (rmI (mI m 2) 10).bind fun x6 => some (x6, m) else (gA (mA m 3) p2).bind fun x7 => some (x7, m))
theorem c_X7_factOf (m : mM) (p1 : Int32) (p2 : Int32) (p3 : Int32)  : cF false uI m_X7_factOf 3 [.ref 0, .int p1, .int p2, .int p3] m (f_X7_factOf m p1 p2 p3) := by
  refine cF_of ok_X7_factOf (fun _ _ => Nat.le_of_ble_eq_true rfl) ?_
  unfold f_X7_factOf
  show JF _ _ _ _ _ [(0, .ref 0), (1, .int p1), (2, .int p2), (3, .int p3)] _ _ _
  refine F_iload_n (i := 1) (a := 1) rfl rfl (dk_X7_factOf 0 _ rfl) ?_
  refine F_case (fun c1_0 => ?_) (fun c1_0 => ?_)
  · rw [c1_0]; refine F_tin (off := 35) (tgt := 36) (by decide) (by decide) rfl (by decide) (dk_X7_factOf 1 _ rfl) ?_
    refine F_iload_n (i := 2) (a := 2) rfl rfl (dk_X7_factOf 36 _ rfl) ?_
    exact F_ret rfl (dk_X7_factOf 37 _ rfl)
  refine F_case (fun c1_1 => ?_) (fun c1_1 => ?_)
  · rw [c1_1]; refine F_tin (off := 37) (tgt := 38) (by decide) (by decide) rfl (by decide) (dk_X7_factOf 1 _ rfl) ?_
    refine F_aload_n (i := 0) (a := 0) rfl rfl (dk_X7_factOf 38 _ rfl) ?_
    refine F_gR (b := 1) fxM_7_3_0 fl_7_19 (dk_X7_factOf 39 _ rfl) ?_
    refine F_iload_n (i := 2) (a := 2) rfl rfl (dk_X7_factOf 42 _ rfl) ?_
    refine F_iald (axM_0_1) (dk_X7_factOf 43 _ rfl) (fun x2 => ?_)
    exact F_ret rfl (dk_X7_factOf 44 _ rfl)
  refine F_case (fun c1_2 => ?_) (fun c1_2 => ?_)
  · rw [c1_2]; refine F_tin (off := 44) (tgt := 45) (by decide) (by decide) rfl (by decide) (dk_X7_factOf 1 _ rfl) ?_
    refine F_iload_n (i := 3) (a := 3) rfl rfl (dk_X7_factOf 45 _ rfl) ?_
    exact F_ret rfl (dk_X7_factOf 46 _ rfl)
  refine F_case (fun c1_3 => ?_) (fun c1_3 => ?_)
  · rw [c1_3]; refine F_tin (off := 46) (tgt := 47) (by decide) (by decide) rfl (by decide) (dk_X7_factOf 1 _ rfl) ?_
    refine F_aload_n (i := 0) (a := 0) rfl rfl (dk_X7_factOf 47 _ rfl) ?_
    refine F_iload_n (i := 3) (a := 3) rfl rfl (dk_X7_factOf 48 _ rfl) ?_
    refine F_callV (ι' := uI) (ci := 7) (b := 0) (As := [.int p3]) (d' := 2) (rfl) ok_X7_manyBorn vi_X7_manyBorn cl_7_266 (n := 1) (by decide +kernel) rfl rfl rfl (Nat.le_of_ble_eq_true rfl) (by omega) (dk_X7_factOf 49 _ rfl) (c_X7_manyBorn _ _ ) (fun x3 m4 => ?_)
    show JF _ _ _ _ _ _ [.int x3] _ _
    exact F_ret rfl (dk_X7_factOf 52 _ rfl)
  refine F_case (fun c1_4 => ?_) (fun c1_4 => ?_)
  · rw [c1_4]; refine F_tin (off := 52) (tgt := 53) (by decide) (by decide) rfl (by decide) (dk_X7_factOf 1 _ rfl) ?_
    refine F_aload_n (i := 0) (a := 0) rfl rfl (dk_X7_factOf 53 _ rfl) ?_
    refine F_gI (n := 2) fxM_7_2_0 rfl fl_7_16 (dk_X7_factOf 54 _ rfl) ?_
    refine F_bipush (v := 10) (by decide) (dk_X7_factOf 57 _ rfl) ?_
    refine F_irem (dk_X7_factOf 59 _ rfl) (fun x6 => ?_)
    exact F_ret rfl (dk_X7_factOf 60 _ rfl)
  refine F_tout (tgt := 61) (by have q0 := fI_ne c1_0; rw [show (0 : Int32).toInt = 0 from by decide] at q0; have q1 := fI_ne c1_1; rw [show (1 : Int32).toInt = 1 from by decide] at q1; have q2 := fI_ne c1_2; rw [show (2 : Int32).toInt = 2 from by decide] at q2; have q3 := fI_ne c1_3; rw [show (3 : Int32).toInt = 3 from by decide] at q3; have q4 := fI_ne c1_4; rw [show (4 : Int32).toInt = 4 from by decide] at q4; omega) (by decide) (dk_X7_factOf 1 _ rfl) ?_
  refine F_aload_n (i := 0) (a := 0) rfl rfl (dk_X7_factOf 61 _ rfl) ?_
  refine F_gR (b := 3) fxM_7_5_0 fl_7_26 (dk_X7_factOf 62 _ rfl) ?_
  refine F_iload_n (i := 2) (a := 2) rfl rfl (dk_X7_factOf 65 _ rfl) ?_
  refine F_iald (axM_0_3) (dk_X7_factOf 66 _ rfl) (fun x7 => ?_)
  exact F_ret rfl (dk_X7_factOf 67 _ rfl)
def fb_X7_holds_11 (K11 : mM → Int32 → Int32 → Int32 → Int32 → Int32 → fR Int32) (m : mM) (y1 : Int32) (y2 : Int32) (y3 : Int32) (y4 : Int32) (y5 : Int32) : fR Int32 :=
  (gA (mA m 13) y1).bind fun x2 => (if x2 ≤ y5 then (gA (mA m 17) 0).bind fun x3 => chZ x3 (some (x3, m)) else (gA (mA m 14) y5).bind fun x4 => (if x4 = (-33) then (gA (mA m 17) (y4 - 1)).bind fun x30 => (if x30 = 0 then (sA 3 m 17 (y4 - 1) 1).bind fun m32 => (K11 m32 y1 y2 y3 y4 (y5 + 1)) else (sA 3 m 17 (y4 - 1) 0).bind fun m31 => (K11 m31 y1 y2 y3 y4 (y5 + 1))) else (if 0 ≤ x4 then (dvI x4 1000).bind fun x5 => bnd (f_X7_factOf m x5 y2 y3) fun (x6 : Int32) (m7 : mM) => (dvI x4 100).bind fun x9 => (rmI x9 10).bind fun x10 => (if x10 = 0 then (rmI x4 100).bind fun x17 => (if x17 ≤ x6 then (sA 3 m7 17 y4 0).bind fun m18 => (K11 m18 y1 y2 y3 (y4 + 1) (y5 + 1)) else (sA 3 m7 17 y4 1).bind fun m19 => (K11 m19 y1 y2 y3 (y4 + 1) (y5 + 1))) else (if x10 = 1 then (rmI x4 100).bind fun x14 => (if x6 = x14 then (sA 3 m7 17 y4 1).bind fun m16 => (K11 m16 y1 y2 y3 (y4 + 1) (y5 + 1)) else (sA 3 m7 17 y4 0).bind fun m15 => (K11 m15 y1 y2 y3 (y4 + 1) (y5 + 1))) else (rmI x4 100).bind fun x11 => (if x6 ≤ x11 then (sA 3 m7 17 y4 0).bind fun m12 => (K11 m12 y1 y2 y3 (y4 + 1) (y5 + 1)) else (sA 3 m7 17 y4 1).bind fun m13 => (K11 m13 y1 y2 y3 (y4 + 1) (y5 + 1))))) else (if x4 = (-38) then (gA (mA m 17) (((y4 + (-1)) - 1))).bind fun x25 => (if x25 = 0 then (sA 3 m 17 (((y4 + (-1)) - 1)) 0).bind fun m26 => (K11 m26 y1 y2 y3 (y4 + (-1)) (y5 + 1)) else (gA (mA m 17) ((y4 + (-1)))).bind fun x27 => (if x27 = 0 then (sA 3 m 17 (((y4 + (-1)) - 1)) 0).bind fun m28 => (K11 m28 y1 y2 y3 (y4 + (-1)) (y5 + 1)) else (sA 3 m 17 (((y4 + (-1)) - 1)) 1).bind fun m29 => (K11 m29 y1 y2 y3 (y4 + (-1)) (y5 + 1)))) else (gA (mA m 17) (((y4 + (-1)) - 1))).bind fun x20 => (if x20 = 0 then (gA (mA m 17) ((y4 + (-1)))).bind fun x22 => (if x22 = 0 then (sA 3 m 17 (((y4 + (-1)) - 1)) 0).bind fun m23 => (K11 m23 y1 y2 y3 (y4 + (-1)) (y5 + 1)) else (sA 3 m 17 (((y4 + (-1)) - 1)) 1).bind fun m24 => (K11 m24 y1 y2 y3 (y4 + (-1)) (y5 + 1))) else (sA 3 m 17 (((y4 + (-1)) - 1)) 1).bind fun m21 => (K11 m21 y1 y2 y3 (y4 + (-1)) (y5 + 1)))))))
def f_X7_holds_11  : Nat → mM → Int32 → Int32 → Int32 → Int32 → Int32 → fR Int32
  | 0, _, _, _, _, _, _ => none
  | F + 1, m, y1, y2, y3, y4, y5 => fb_X7_holds_11  (f_X7_holds_11  F) m y1 y2 y3 y4 y5
theorem jb_X7_holds_11 (K11 : mM → Int32 → Int32 → Int32 → Int32 → Int32 → fR Int32) (hK11 : ∀ (m : mM) (y1 : Int32) (y2 : Int32) (y3 : Int32) (y4 : Int32) (y5 : Int32) , JF false uI m_X7_holds 4 11 [(0, .ref 0), (1, .int y1), (2, .int y2), (3, .int y3), (4, .int y4), (5, .int y5)] [] m (K11 m y1 y2 y3 y4 y5)) (m : mM) (y1 : Int32) (y2 : Int32) (y3 : Int32) (y4 : Int32) (y5 : Int32)  : JF false uI m_X7_holds 4 11 [(0, .ref 0), (1, .int y1), (2, .int y2), (3, .int y3), (4, .int y4), (5, .int y5)] [] m (fb_X7_holds_11 K11 m y1 y2 y3 y4 y5) := by
  unfold fb_X7_holds_11
  refine F_iload (i := 5) rfl (dk_X7_holds 11 _ rfl) ?_
  refine F_aload_n (i := 0) (a := 0) rfl rfl (dk_X7_holds 13 _ rfl) ?_
  refine F_gR (b := 13) fxM_7_20_0 fl_7_72 (dk_X7_holds 14 _ rfl) ?_
  refine F_iload_n (i := 1) (a := 1) rfl rfl (dk_X7_holds 17 _ rfl) ?_
  refine F_iald (axM_0_13) (dk_X7_holds 18 _ rfl) (fun x2 => ?_)
  refine F_icmp_ge (tgt := 253) (by decide) (dk_X7_holds 19 _ rfl) ?_ ?_
  · refine F_aload_n (i := 0) (a := 0) rfl rfl (dk_X7_holds 253 _ rfl) ?_
    refine F_gR (b := 17) fxM_7_28_0 fl_7_96 (dk_X7_holds 254 _ rfl) ?_
    refine F_iconst (v := 0) (by decide) (dk_X7_holds 257 _ rfl) ?_
    refine F_zald (axM_3_17) (dk_X7_holds 258 _ rfl) (fun x3 => ?_)
    exact F_retZ rfl (dk_X7_holds 259 _ rfl)
  · refine F_aload_n (i := 0) (a := 0) rfl rfl (dk_X7_holds 22 _ rfl) ?_
    refine F_gR (b := 14) fxM_7_21_0 fl_7_75 (dk_X7_holds 23 _ rfl) ?_
    refine F_iload (i := 5) rfl (dk_X7_holds 26 _ rfl) ?_
    refine F_iald (axM_0_14) (dk_X7_holds 28 _ rfl) (fun x4 => ?_)
    refine F_istore (lv' := [(6, .int x4), (0, .ref 0), (1, .int y1), (2, .int y2), (3, .int y3), (4, .int y4), (5, .int y5)]) (i := 6) (by decide) rfl (dk_X7_holds 29 _ rfl) ?_
    refine F_iload (i := 6) rfl (dk_X7_holds 31 _ rfl) ?_
    refine F_bipush (v := (-33)) (by decide) (dk_X7_holds 33 _ rfl) ?_
    refine F_icmp_ne (tgt := 67) (by decide) (dk_X7_holds 35 _ rfl) ?_ ?_
    · refine F_iload (i := 6) rfl (dk_X7_holds 67 _ rfl) ?_
      refine F_if_ge (tgt := 151) (by decide) (dk_X7_holds 69 _ rfl) ?_ ?_
      · refine F_aload_n (i := 0) (a := 0) rfl rfl (dk_X7_holds 151 _ rfl) ?_
        refine F_iload (i := 6) rfl (dk_X7_holds 152 _ rfl) ?_
        refine F_sipush (v := 1000) (by decide) (dk_X7_holds 154 _ rfl) ?_
        refine F_idiv (dk_X7_holds 157 _ rfl) (fun x5 => ?_)
        refine F_iload_n (i := 2) (a := 2) rfl rfl (dk_X7_holds 158 _ rfl) ?_
        refine F_iload_n (i := 3) (a := 3) rfl rfl (dk_X7_holds 159 _ rfl) ?_
        refine F_callV (ι' := uI) (ci := 7) (b := 0) (As := [.int x5, .int y2, .int y3]) (d' := 3) (rfl) ok_X7_factOf vi_X7_factOf cl_7_269 (n := 3) (by decide +kernel) rfl rfl rfl (Nat.le_of_ble_eq_true rfl) (by omega) (dk_X7_holds 160 _ rfl) (c_X7_factOf _ _ _ _ ) (fun x6 m7 => ?_)
        show JF _ _ _ _ _ _ [.int x6] _ _
        refine F_istore (lv' := [(7, .int x6), (6, .int x4), (0, .ref 0), (1, .int y1), (2, .int y2), (3, .int y3), (4, .int y4), (5, .int y5)]) (i := 7) (by decide) rfl (dk_X7_holds 163 _ rfl) ?_
        refine F_iload (i := 6) rfl (dk_X7_holds 165 _ rfl) ?_
        refine F_bipush (v := 100) (by decide) (dk_X7_holds 167 _ rfl) ?_
        refine F_idiv (dk_X7_holds 169 _ rfl) (fun x9 => ?_)
        refine F_bipush (v := 10) (by decide) (dk_X7_holds 170 _ rfl) ?_
        refine F_irem (dk_X7_holds 172 _ rfl) (fun x10 => ?_)
        refine F_istore (lv' := [(8, .int x10), (7, .int x6), (6, .int x4), (0, .ref 0), (1, .int y1), (2, .int y2), (3, .int y3), (4, .int y4), (5, .int y5)]) (i := 8) (by decide) rfl (dk_X7_holds 173 _ rfl) ?_
        refine F_aload_n (i := 0) (a := 0) rfl rfl (dk_X7_holds 175 _ rfl) ?_
        refine F_gR (b := 17) fxM_7_28_0 fl_7_96 (dk_X7_holds 176 _ rfl) ?_
        refine F_iload (i := 4) rfl (dk_X7_holds 179 _ rfl) ?_
        refine F_iload (i := 8) rfl (dk_X7_holds 181 _ rfl) ?_
        refine F_if_ne (tgt := 204) (by decide) (dk_X7_holds 183 _ rfl) ?_ ?_
        · refine F_iload (i := 8) rfl (dk_X7_holds 204 _ rfl) ?_
          refine F_iconst (v := 1) (by decide) (dk_X7_holds 206 _ rfl) ?_
          refine F_icmp_ne (tgt := 228) (by decide) (dk_X7_holds 207 _ rfl) ?_ ?_
          · refine F_iload (i := 7) rfl (dk_X7_holds 228 _ rfl) ?_
            refine F_iload (i := 6) rfl (dk_X7_holds 230 _ rfl) ?_
            refine F_bipush (v := 100) (by decide) (dk_X7_holds 232 _ rfl) ?_
            refine F_irem (dk_X7_holds 234 _ rfl) (fun x11 => ?_)
            refine F_icmp_le (tgt := 242) (by decide) (dk_X7_holds 235 _ rfl) ?_ ?_
            · refine F_iconst (v := 0) (by decide) (dk_X7_holds 242 _ rfl) ?_
              refine F_zast (axM_3_17) (dk_X7_holds 243 _ rfl) (fun m12 => ?_)
              refine F_iinc (i := 4) (n := 1) (v := (y4 + 1)) (lv' := [(4, .int (y4 + 1)), (8, .int x10), (7, .int x6), (6, .int x4), (0, .ref 0), (1, .int y1), (2, .int y2), (3, .int y3), (5, .int y5)]) rfl (by first | rfl | decide) (by decide) rfl (dk_X7_holds 244 _ rfl) ?_
              refine F_iinc (i := 5) (n := 1) (v := (y5 + 1)) (lv' := [(5, .int (y5 + 1)), (4, .int (y4 + 1)), (8, .int x10), (7, .int x6), (6, .int x4), (0, .ref 0), (1, .int y1), (2, .int y2), (3, .int y3)]) rfl (by first | rfl | decide) (by decide) rfl (dk_X7_holds 247 _ rfl) ?_
              refine F_goto (tgt := 11) (by decide) (dk_X7_holds 250 _ rfl) ?_
              exact F_loc (List.forall_mem_cons.mpr ⟨(.tail _ (.tail _ (.tail _ (.tail _ (.tail _ (.head _)))))), (List.forall_mem_cons.mpr ⟨(.tail _ (.tail _ (.tail _ (.tail _ (.tail _ (.tail _ (.head _))))))), (List.forall_mem_cons.mpr ⟨(.tail _ (.tail _ (.tail _ (.tail _ (.tail _ (.tail _ (.tail _ (.head _)))))))), (List.forall_mem_cons.mpr ⟨(.tail _ (.tail _ (.tail _ (.tail _ (.tail _ (.tail _ (.tail _ (.tail _ (.head _))))))))), (List.forall_mem_cons.mpr ⟨(.tail _ (.head _)), (List.forall_mem_cons.mpr ⟨(.head _), (fun _ z => absurd z List.not_mem_nil)⟩)⟩)⟩)⟩)⟩)⟩) (hK11 _ _ _ _ _ _ )
            · refine F_iconst (v := 1) (by decide) (dk_X7_holds 238 _ rfl) ?_
              refine F_goto (tgt := 243) (by decide) (dk_X7_holds 239 _ rfl) ?_
              refine F_zast (axM_3_17) (dk_X7_holds 243 _ rfl) (fun m13 => ?_)
              refine F_iinc (i := 4) (n := 1) (v := (y4 + 1)) (lv' := [(4, .int (y4 + 1)), (8, .int x10), (7, .int x6), (6, .int x4), (0, .ref 0), (1, .int y1), (2, .int y2), (3, .int y3), (5, .int y5)]) rfl (by first | rfl | decide) (by decide) rfl (dk_X7_holds 244 _ rfl) ?_
              refine F_iinc (i := 5) (n := 1) (v := (y5 + 1)) (lv' := [(5, .int (y5 + 1)), (4, .int (y4 + 1)), (8, .int x10), (7, .int x6), (6, .int x4), (0, .ref 0), (1, .int y1), (2, .int y2), (3, .int y3)]) rfl (by first | rfl | decide) (by decide) rfl (dk_X7_holds 247 _ rfl) ?_
              refine F_goto (tgt := 11) (by decide) (dk_X7_holds 250 _ rfl) ?_
              exact F_loc (List.forall_mem_cons.mpr ⟨(.tail _ (.tail _ (.tail _ (.tail _ (.tail _ (.head _)))))), (List.forall_mem_cons.mpr ⟨(.tail _ (.tail _ (.tail _ (.tail _ (.tail _ (.tail _ (.head _))))))), (List.forall_mem_cons.mpr ⟨(.tail _ (.tail _ (.tail _ (.tail _ (.tail _ (.tail _ (.tail _ (.head _)))))))), (List.forall_mem_cons.mpr ⟨(.tail _ (.tail _ (.tail _ (.tail _ (.tail _ (.tail _ (.tail _ (.tail _ (.head _))))))))), (List.forall_mem_cons.mpr ⟨(.tail _ (.head _)), (List.forall_mem_cons.mpr ⟨(.head _), (fun _ z => absurd z List.not_mem_nil)⟩)⟩)⟩)⟩)⟩)⟩) (hK11 _ _ _ _ _ _ )
          · refine F_iload (i := 7) rfl (dk_X7_holds 210 _ rfl) ?_
            refine F_iload (i := 6) rfl (dk_X7_holds 212 _ rfl) ?_
            refine F_bipush (v := 100) (by decide) (dk_X7_holds 214 _ rfl) ?_
            refine F_irem (dk_X7_holds 216 _ rfl) (fun x14 => ?_)
            refine F_icmp_ne (tgt := 224) (by decide) (dk_X7_holds 217 _ rfl) ?_ ?_
            · refine F_iconst (v := 0) (by decide) (dk_X7_holds 224 _ rfl) ?_
              refine F_goto (tgt := 243) (by decide) (dk_X7_holds 225 _ rfl) ?_
              refine F_zast (axM_3_17) (dk_X7_holds 243 _ rfl) (fun m15 => ?_)
              refine F_iinc (i := 4) (n := 1) (v := (y4 + 1)) (lv' := [(4, .int (y4 + 1)), (8, .int x10), (7, .int x6), (6, .int x4), (0, .ref 0), (1, .int y1), (2, .int y2), (3, .int y3), (5, .int y5)]) rfl (by first | rfl | decide) (by decide) rfl (dk_X7_holds 244 _ rfl) ?_
              refine F_iinc (i := 5) (n := 1) (v := (y5 + 1)) (lv' := [(5, .int (y5 + 1)), (4, .int (y4 + 1)), (8, .int x10), (7, .int x6), (6, .int x4), (0, .ref 0), (1, .int y1), (2, .int y2), (3, .int y3)]) rfl (by first | rfl | decide) (by decide) rfl (dk_X7_holds 247 _ rfl) ?_
              refine F_goto (tgt := 11) (by decide) (dk_X7_holds 250 _ rfl) ?_
              exact F_loc (List.forall_mem_cons.mpr ⟨(.tail _ (.tail _ (.tail _ (.tail _ (.tail _ (.head _)))))), (List.forall_mem_cons.mpr ⟨(.tail _ (.tail _ (.tail _ (.tail _ (.tail _ (.tail _ (.head _))))))), (List.forall_mem_cons.mpr ⟨(.tail _ (.tail _ (.tail _ (.tail _ (.tail _ (.tail _ (.tail _ (.head _)))))))), (List.forall_mem_cons.mpr ⟨(.tail _ (.tail _ (.tail _ (.tail _ (.tail _ (.tail _ (.tail _ (.tail _ (.head _))))))))), (List.forall_mem_cons.mpr ⟨(.tail _ (.head _)), (List.forall_mem_cons.mpr ⟨(.head _), (fun _ z => absurd z List.not_mem_nil)⟩)⟩)⟩)⟩)⟩)⟩) (hK11 _ _ _ _ _ _ )
            · refine F_iconst (v := 1) (by decide) (dk_X7_holds 220 _ rfl) ?_
              refine F_goto (tgt := 243) (by decide) (dk_X7_holds 221 _ rfl) ?_
              refine F_zast (axM_3_17) (dk_X7_holds 243 _ rfl) (fun m16 => ?_)
              refine F_iinc (i := 4) (n := 1) (v := (y4 + 1)) (lv' := [(4, .int (y4 + 1)), (8, .int x10), (7, .int x6), (6, .int x4), (0, .ref 0), (1, .int y1), (2, .int y2), (3, .int y3), (5, .int y5)]) rfl (by first | rfl | decide) (by decide) rfl (dk_X7_holds 244 _ rfl) ?_
              refine F_iinc (i := 5) (n := 1) (v := (y5 + 1)) (lv' := [(5, .int (y5 + 1)), (4, .int (y4 + 1)), (8, .int x10), (7, .int x6), (6, .int x4), (0, .ref 0), (1, .int y1), (2, .int y2), (3, .int y3)]) rfl (by first | rfl | decide) (by decide) rfl (dk_X7_holds 247 _ rfl) ?_
              refine F_goto (tgt := 11) (by decide) (dk_X7_holds 250 _ rfl) ?_
              exact F_loc (List.forall_mem_cons.mpr ⟨(.tail _ (.tail _ (.tail _ (.tail _ (.tail _ (.head _)))))), (List.forall_mem_cons.mpr ⟨(.tail _ (.tail _ (.tail _ (.tail _ (.tail _ (.tail _ (.head _))))))), (List.forall_mem_cons.mpr ⟨(.tail _ (.tail _ (.tail _ (.tail _ (.tail _ (.tail _ (.tail _ (.head _)))))))), (List.forall_mem_cons.mpr ⟨(.tail _ (.tail _ (.tail _ (.tail _ (.tail _ (.tail _ (.tail _ (.tail _ (.head _))))))))), (List.forall_mem_cons.mpr ⟨(.tail _ (.head _)), (List.forall_mem_cons.mpr ⟨(.head _), (fun _ z => absurd z List.not_mem_nil)⟩)⟩)⟩)⟩)⟩)⟩) (hK11 _ _ _ _ _ _ )
        · refine F_iload (i := 7) rfl (dk_X7_holds 186 _ rfl) ?_
          refine F_iload (i := 6) rfl (dk_X7_holds 188 _ rfl) ?_
          refine F_bipush (v := 100) (by decide) (dk_X7_holds 190 _ rfl) ?_
          refine F_irem (dk_X7_holds 192 _ rfl) (fun x17 => ?_)
          refine F_icmp_ge (tgt := 200) (by decide) (dk_X7_holds 193 _ rfl) ?_ ?_
          · refine F_iconst (v := 0) (by decide) (dk_X7_holds 200 _ rfl) ?_
            refine F_goto (tgt := 243) (by decide) (dk_X7_holds 201 _ rfl) ?_
            refine F_zast (axM_3_17) (dk_X7_holds 243 _ rfl) (fun m18 => ?_)
            refine F_iinc (i := 4) (n := 1) (v := (y4 + 1)) (lv' := [(4, .int (y4 + 1)), (8, .int x10), (7, .int x6), (6, .int x4), (0, .ref 0), (1, .int y1), (2, .int y2), (3, .int y3), (5, .int y5)]) rfl (by first | rfl | decide) (by decide) rfl (dk_X7_holds 244 _ rfl) ?_
            refine F_iinc (i := 5) (n := 1) (v := (y5 + 1)) (lv' := [(5, .int (y5 + 1)), (4, .int (y4 + 1)), (8, .int x10), (7, .int x6), (6, .int x4), (0, .ref 0), (1, .int y1), (2, .int y2), (3, .int y3)]) rfl (by first | rfl | decide) (by decide) rfl (dk_X7_holds 247 _ rfl) ?_
            refine F_goto (tgt := 11) (by decide) (dk_X7_holds 250 _ rfl) ?_
            exact F_loc (List.forall_mem_cons.mpr ⟨(.tail _ (.tail _ (.tail _ (.tail _ (.tail _ (.head _)))))), (List.forall_mem_cons.mpr ⟨(.tail _ (.tail _ (.tail _ (.tail _ (.tail _ (.tail _ (.head _))))))), (List.forall_mem_cons.mpr ⟨(.tail _ (.tail _ (.tail _ (.tail _ (.tail _ (.tail _ (.tail _ (.head _)))))))), (List.forall_mem_cons.mpr ⟨(.tail _ (.tail _ (.tail _ (.tail _ (.tail _ (.tail _ (.tail _ (.tail _ (.head _))))))))), (List.forall_mem_cons.mpr ⟨(.tail _ (.head _)), (List.forall_mem_cons.mpr ⟨(.head _), (fun _ z => absurd z List.not_mem_nil)⟩)⟩)⟩)⟩)⟩)⟩) (hK11 _ _ _ _ _ _ )
          · refine F_iconst (v := 1) (by decide) (dk_X7_holds 196 _ rfl) ?_
            refine F_goto (tgt := 243) (by decide) (dk_X7_holds 197 _ rfl) ?_
            refine F_zast (axM_3_17) (dk_X7_holds 243 _ rfl) (fun m19 => ?_)
            refine F_iinc (i := 4) (n := 1) (v := (y4 + 1)) (lv' := [(4, .int (y4 + 1)), (8, .int x10), (7, .int x6), (6, .int x4), (0, .ref 0), (1, .int y1), (2, .int y2), (3, .int y3), (5, .int y5)]) rfl (by first | rfl | decide) (by decide) rfl (dk_X7_holds 244 _ rfl) ?_
            refine F_iinc (i := 5) (n := 1) (v := (y5 + 1)) (lv' := [(5, .int (y5 + 1)), (4, .int (y4 + 1)), (8, .int x10), (7, .int x6), (6, .int x4), (0, .ref 0), (1, .int y1), (2, .int y2), (3, .int y3)]) rfl (by first | rfl | decide) (by decide) rfl (dk_X7_holds 247 _ rfl) ?_
            refine F_goto (tgt := 11) (by decide) (dk_X7_holds 250 _ rfl) ?_
            exact F_loc (List.forall_mem_cons.mpr ⟨(.tail _ (.tail _ (.tail _ (.tail _ (.tail _ (.head _)))))), (List.forall_mem_cons.mpr ⟨(.tail _ (.tail _ (.tail _ (.tail _ (.tail _ (.tail _ (.head _))))))), (List.forall_mem_cons.mpr ⟨(.tail _ (.tail _ (.tail _ (.tail _ (.tail _ (.tail _ (.tail _ (.head _)))))))), (List.forall_mem_cons.mpr ⟨(.tail _ (.tail _ (.tail _ (.tail _ (.tail _ (.tail _ (.tail _ (.tail _ (.head _))))))))), (List.forall_mem_cons.mpr ⟨(.tail _ (.head _)), (List.forall_mem_cons.mpr ⟨(.head _), (fun _ z => absurd z List.not_mem_nil)⟩)⟩)⟩)⟩)⟩)⟩) (hK11 _ _ _ _ _ _ )
      · refine F_iinc (i := 4) (n := (-1)) (v := (y4 + (-1))) (lv' := [(4, .int (y4 + (-1))), (6, .int x4), (0, .ref 0), (1, .int y1), (2, .int y2), (3, .int y3), (5, .int y5)]) rfl (by first | rfl | decide) (by decide) rfl (dk_X7_holds 72 _ rfl) ?_
        refine F_aload_n (i := 0) (a := 0) rfl rfl (dk_X7_holds 75 _ rfl) ?_
        refine F_gR (b := 17) fxM_7_28_0 fl_7_96 (dk_X7_holds 76 _ rfl) ?_
        refine F_iload (i := 4) rfl (dk_X7_holds 79 _ rfl) ?_
        refine F_iconst (v := 1) (by decide) (dk_X7_holds 81 _ rfl) ?_
        refine F_isub (dk_X7_holds 82 _ rfl) ?_
        refine F_iload (i := 6) rfl (dk_X7_holds 83 _ rfl) ?_
        refine F_bipush (v := (-38)) (by decide) (dk_X7_holds 85 _ rfl) ?_
        refine F_icmp_ne (tgt := 120) (by decide) (dk_X7_holds 87 _ rfl) ?_ ?_
        · refine F_aload_n (i := 0) (a := 0) rfl rfl (dk_X7_holds 120 _ rfl) ?_
          refine F_gR (b := 17) fxM_7_28_0 fl_7_96 (dk_X7_holds 121 _ rfl) ?_
          refine F_iload (i := 4) rfl (dk_X7_holds 124 _ rfl) ?_
          refine F_iconst (v := 1) (by decide) (dk_X7_holds 126 _ rfl) ?_
          refine F_isub (dk_X7_holds 127 _ rfl) ?_
          refine F_zald (axM_3_17) (dk_X7_holds 128 _ rfl) (fun x20 => ?_)
          refine F_if_ne (tgt := 142) (by decide) (dk_X7_holds 129 _ rfl) ?_ ?_
          · refine F_iconst (v := 1) (by decide) (dk_X7_holds 142 _ rfl) ?_
            refine F_goto (tgt := 147) (by decide) (dk_X7_holds 143 _ rfl) ?_
            refine F_zast (axM_3_17) (dk_X7_holds 147 _ rfl) (fun m21 => ?_)
            refine F_goto (tgt := 247) (by decide) (dk_X7_holds 148 _ rfl) ?_
            refine F_iinc (i := 5) (n := 1) (v := (y5 + 1)) (lv' := [(5, .int (y5 + 1)), (4, .int (y4 + (-1))), (6, .int x4), (0, .ref 0), (1, .int y1), (2, .int y2), (3, .int y3)]) rfl (by first | rfl | decide) (by decide) rfl (dk_X7_holds 247 _ rfl) ?_
            refine F_goto (tgt := 11) (by decide) (dk_X7_holds 250 _ rfl) ?_
            exact F_loc (List.forall_mem_cons.mpr ⟨(.tail _ (.tail _ (.tail _ (.head _)))), (List.forall_mem_cons.mpr ⟨(.tail _ (.tail _ (.tail _ (.tail _ (.head _))))), (List.forall_mem_cons.mpr ⟨(.tail _ (.tail _ (.tail _ (.tail _ (.tail _ (.head _)))))), (List.forall_mem_cons.mpr ⟨(.tail _ (.tail _ (.tail _ (.tail _ (.tail _ (.tail _ (.head _))))))), (List.forall_mem_cons.mpr ⟨(.tail _ (.head _)), (List.forall_mem_cons.mpr ⟨(.head _), (fun _ z => absurd z List.not_mem_nil)⟩)⟩)⟩)⟩)⟩)⟩) (hK11 _ _ _ _ _ _ )
          · refine F_aload_n (i := 0) (a := 0) rfl rfl (dk_X7_holds 132 _ rfl) ?_
            refine F_gR (b := 17) fxM_7_28_0 fl_7_96 (dk_X7_holds 133 _ rfl) ?_
            refine F_iload (i := 4) rfl (dk_X7_holds 136 _ rfl) ?_
            refine F_zald (axM_3_17) (dk_X7_holds 138 _ rfl) (fun x22 => ?_)
            refine F_if_eq (tgt := 146) (by decide) (dk_X7_holds 139 _ rfl) ?_ ?_
            · refine F_iconst (v := 0) (by decide) (dk_X7_holds 146 _ rfl) ?_
              refine F_zast (axM_3_17) (dk_X7_holds 147 _ rfl) (fun m23 => ?_)
              refine F_goto (tgt := 247) (by decide) (dk_X7_holds 148 _ rfl) ?_
              refine F_iinc (i := 5) (n := 1) (v := (y5 + 1)) (lv' := [(5, .int (y5 + 1)), (4, .int (y4 + (-1))), (6, .int x4), (0, .ref 0), (1, .int y1), (2, .int y2), (3, .int y3)]) rfl (by first | rfl | decide) (by decide) rfl (dk_X7_holds 247 _ rfl) ?_
              refine F_goto (tgt := 11) (by decide) (dk_X7_holds 250 _ rfl) ?_
              exact F_loc (List.forall_mem_cons.mpr ⟨(.tail _ (.tail _ (.tail _ (.head _)))), (List.forall_mem_cons.mpr ⟨(.tail _ (.tail _ (.tail _ (.tail _ (.head _))))), (List.forall_mem_cons.mpr ⟨(.tail _ (.tail _ (.tail _ (.tail _ (.tail _ (.head _)))))), (List.forall_mem_cons.mpr ⟨(.tail _ (.tail _ (.tail _ (.tail _ (.tail _ (.tail _ (.head _))))))), (List.forall_mem_cons.mpr ⟨(.tail _ (.head _)), (List.forall_mem_cons.mpr ⟨(.head _), (fun _ z => absurd z List.not_mem_nil)⟩)⟩)⟩)⟩)⟩)⟩) (hK11 _ _ _ _ _ _ )
            · refine F_iconst (v := 1) (by decide) (dk_X7_holds 142 _ rfl) ?_
              refine F_goto (tgt := 147) (by decide) (dk_X7_holds 143 _ rfl) ?_
              refine F_zast (axM_3_17) (dk_X7_holds 147 _ rfl) (fun m24 => ?_)
              refine F_goto (tgt := 247) (by decide) (dk_X7_holds 148 _ rfl) ?_
              refine F_iinc (i := 5) (n := 1) (v := (y5 + 1)) (lv' := [(5, .int (y5 + 1)), (4, .int (y4 + (-1))), (6, .int x4), (0, .ref 0), (1, .int y1), (2, .int y2), (3, .int y3)]) rfl (by first | rfl | decide) (by decide) rfl (dk_X7_holds 247 _ rfl) ?_
              refine F_goto (tgt := 11) (by decide) (dk_X7_holds 250 _ rfl) ?_
              exact F_loc (List.forall_mem_cons.mpr ⟨(.tail _ (.tail _ (.tail _ (.head _)))), (List.forall_mem_cons.mpr ⟨(.tail _ (.tail _ (.tail _ (.tail _ (.head _))))), (List.forall_mem_cons.mpr ⟨(.tail _ (.tail _ (.tail _ (.tail _ (.tail _ (.head _)))))), (List.forall_mem_cons.mpr ⟨(.tail _ (.tail _ (.tail _ (.tail _ (.tail _ (.tail _ (.head _))))))), (List.forall_mem_cons.mpr ⟨(.tail _ (.head _)), (List.forall_mem_cons.mpr ⟨(.head _), (fun _ z => absurd z List.not_mem_nil)⟩)⟩)⟩)⟩)⟩)⟩) (hK11 _ _ _ _ _ _ )
        · refine F_aload_n (i := 0) (a := 0) rfl rfl (dk_X7_holds 90 _ rfl) ?_
          refine F_gR (b := 17) fxM_7_28_0 fl_7_96 (dk_X7_holds 91 _ rfl) ?_
          refine F_iload (i := 4) rfl (dk_X7_holds 94 _ rfl) ?_
          refine F_iconst (v := 1) (by decide) (dk_X7_holds 96 _ rfl) ?_
          refine F_isub (dk_X7_holds 97 _ rfl) ?_
          refine F_zald (axM_3_17) (dk_X7_holds 98 _ rfl) (fun x25 => ?_)
          refine F_if_eq (tgt := 116) (by decide) (dk_X7_holds 99 _ rfl) ?_ ?_
          · refine F_iconst (v := 0) (by decide) (dk_X7_holds 116 _ rfl) ?_
            refine F_goto (tgt := 147) (by decide) (dk_X7_holds 117 _ rfl) ?_
            refine F_zast (axM_3_17) (dk_X7_holds 147 _ rfl) (fun m26 => ?_)
            refine F_goto (tgt := 247) (by decide) (dk_X7_holds 148 _ rfl) ?_
            refine F_iinc (i := 5) (n := 1) (v := (y5 + 1)) (lv' := [(5, .int (y5 + 1)), (4, .int (y4 + (-1))), (6, .int x4), (0, .ref 0), (1, .int y1), (2, .int y2), (3, .int y3)]) rfl (by first | rfl | decide) (by decide) rfl (dk_X7_holds 247 _ rfl) ?_
            refine F_goto (tgt := 11) (by decide) (dk_X7_holds 250 _ rfl) ?_
            exact F_loc (List.forall_mem_cons.mpr ⟨(.tail _ (.tail _ (.tail _ (.head _)))), (List.forall_mem_cons.mpr ⟨(.tail _ (.tail _ (.tail _ (.tail _ (.head _))))), (List.forall_mem_cons.mpr ⟨(.tail _ (.tail _ (.tail _ (.tail _ (.tail _ (.head _)))))), (List.forall_mem_cons.mpr ⟨(.tail _ (.tail _ (.tail _ (.tail _ (.tail _ (.tail _ (.head _))))))), (List.forall_mem_cons.mpr ⟨(.tail _ (.head _)), (List.forall_mem_cons.mpr ⟨(.head _), (fun _ z => absurd z List.not_mem_nil)⟩)⟩)⟩)⟩)⟩)⟩) (hK11 _ _ _ _ _ _ )
          · refine F_aload_n (i := 0) (a := 0) rfl rfl (dk_X7_holds 102 _ rfl) ?_
            refine F_gR (b := 17) fxM_7_28_0 fl_7_96 (dk_X7_holds 103 _ rfl) ?_
            refine F_iload (i := 4) rfl (dk_X7_holds 106 _ rfl) ?_
            refine F_zald (axM_3_17) (dk_X7_holds 108 _ rfl) (fun x27 => ?_)
            refine F_if_eq (tgt := 116) (by decide) (dk_X7_holds 109 _ rfl) ?_ ?_
            · refine F_iconst (v := 0) (by decide) (dk_X7_holds 116 _ rfl) ?_
              refine F_goto (tgt := 147) (by decide) (dk_X7_holds 117 _ rfl) ?_
              refine F_zast (axM_3_17) (dk_X7_holds 147 _ rfl) (fun m28 => ?_)
              refine F_goto (tgt := 247) (by decide) (dk_X7_holds 148 _ rfl) ?_
              refine F_iinc (i := 5) (n := 1) (v := (y5 + 1)) (lv' := [(5, .int (y5 + 1)), (4, .int (y4 + (-1))), (6, .int x4), (0, .ref 0), (1, .int y1), (2, .int y2), (3, .int y3)]) rfl (by first | rfl | decide) (by decide) rfl (dk_X7_holds 247 _ rfl) ?_
              refine F_goto (tgt := 11) (by decide) (dk_X7_holds 250 _ rfl) ?_
              exact F_loc (List.forall_mem_cons.mpr ⟨(.tail _ (.tail _ (.tail _ (.head _)))), (List.forall_mem_cons.mpr ⟨(.tail _ (.tail _ (.tail _ (.tail _ (.head _))))), (List.forall_mem_cons.mpr ⟨(.tail _ (.tail _ (.tail _ (.tail _ (.tail _ (.head _)))))), (List.forall_mem_cons.mpr ⟨(.tail _ (.tail _ (.tail _ (.tail _ (.tail _ (.tail _ (.head _))))))), (List.forall_mem_cons.mpr ⟨(.tail _ (.head _)), (List.forall_mem_cons.mpr ⟨(.head _), (fun _ z => absurd z List.not_mem_nil)⟩)⟩)⟩)⟩)⟩)⟩) (hK11 _ _ _ _ _ _ )
            · refine F_iconst (v := 1) (by decide) (dk_X7_holds 112 _ rfl) ?_
              refine F_goto (tgt := 147) (by decide) (dk_X7_holds 113 _ rfl) ?_
              refine F_zast (axM_3_17) (dk_X7_holds 147 _ rfl) (fun m29 => ?_)
              refine F_goto (tgt := 247) (by decide) (dk_X7_holds 148 _ rfl) ?_
              refine F_iinc (i := 5) (n := 1) (v := (y5 + 1)) (lv' := [(5, .int (y5 + 1)), (4, .int (y4 + (-1))), (6, .int x4), (0, .ref 0), (1, .int y1), (2, .int y2), (3, .int y3)]) rfl (by first | rfl | decide) (by decide) rfl (dk_X7_holds 247 _ rfl) ?_
              refine F_goto (tgt := 11) (by decide) (dk_X7_holds 250 _ rfl) ?_
              exact F_loc (List.forall_mem_cons.mpr ⟨(.tail _ (.tail _ (.tail _ (.head _)))), (List.forall_mem_cons.mpr ⟨(.tail _ (.tail _ (.tail _ (.tail _ (.head _))))), (List.forall_mem_cons.mpr ⟨(.tail _ (.tail _ (.tail _ (.tail _ (.tail _ (.head _)))))), (List.forall_mem_cons.mpr ⟨(.tail _ (.tail _ (.tail _ (.tail _ (.tail _ (.tail _ (.head _))))))), (List.forall_mem_cons.mpr ⟨(.tail _ (.head _)), (List.forall_mem_cons.mpr ⟨(.head _), (fun _ z => absurd z List.not_mem_nil)⟩)⟩)⟩)⟩)⟩)⟩) (hK11 _ _ _ _ _ _ )
    · refine F_aload_n (i := 0) (a := 0) rfl rfl (dk_X7_holds 38 _ rfl) ?_
      refine F_gR (b := 17) fxM_7_28_0 fl_7_96 (dk_X7_holds 39 _ rfl) ?_
      refine F_iload (i := 4) rfl (dk_X7_holds 42 _ rfl) ?_
      refine F_iconst (v := 1) (by decide) (dk_X7_holds 44 _ rfl) ?_
      refine F_isub (dk_X7_holds 45 _ rfl) ?_
      refine F_aload_n (i := 0) (a := 0) rfl rfl (dk_X7_holds 46 _ rfl) ?_
      refine F_gR (b := 17) fxM_7_28_0 fl_7_96 (dk_X7_holds 47 _ rfl) ?_
      refine F_iload (i := 4) rfl (dk_X7_holds 50 _ rfl) ?_
      refine F_iconst (v := 1) (by decide) (dk_X7_holds 52 _ rfl) ?_
      refine F_isub (dk_X7_holds 53 _ rfl) ?_
      refine F_zald (axM_3_17) (dk_X7_holds 54 _ rfl) (fun x30 => ?_)
      refine F_if_ne (tgt := 62) (by decide) (dk_X7_holds 55 _ rfl) ?_ ?_
      · refine F_iconst (v := 0) (by decide) (dk_X7_holds 62 _ rfl) ?_
        refine F_zast (axM_3_17) (dk_X7_holds 63 _ rfl) (fun m31 => ?_)
        refine F_goto (tgt := 247) (by decide) (dk_X7_holds 64 _ rfl) ?_
        refine F_iinc (i := 5) (n := 1) (v := (y5 + 1)) (lv' := [(5, .int (y5 + 1)), (6, .int x4), (0, .ref 0), (1, .int y1), (2, .int y2), (3, .int y3), (4, .int y4)]) rfl (by first | rfl | decide) (by decide) rfl (dk_X7_holds 247 _ rfl) ?_
        refine F_goto (tgt := 11) (by decide) (dk_X7_holds 250 _ rfl) ?_
        exact F_loc (List.forall_mem_cons.mpr ⟨(.tail _ (.tail _ (.head _))), (List.forall_mem_cons.mpr ⟨(.tail _ (.tail _ (.tail _ (.head _)))), (List.forall_mem_cons.mpr ⟨(.tail _ (.tail _ (.tail _ (.tail _ (.head _))))), (List.forall_mem_cons.mpr ⟨(.tail _ (.tail _ (.tail _ (.tail _ (.tail _ (.head _)))))), (List.forall_mem_cons.mpr ⟨(.tail _ (.tail _ (.tail _ (.tail _ (.tail _ (.tail _ (.head _))))))), (List.forall_mem_cons.mpr ⟨(.head _), (fun _ z => absurd z List.not_mem_nil)⟩)⟩)⟩)⟩)⟩)⟩) (hK11 _ _ _ _ _ _ )
      · refine F_iconst (v := 1) (by decide) (dk_X7_holds 58 _ rfl) ?_
        refine F_goto (tgt := 63) (by decide) (dk_X7_holds 59 _ rfl) ?_
        refine F_zast (axM_3_17) (dk_X7_holds 63 _ rfl) (fun m32 => ?_)
        refine F_goto (tgt := 247) (by decide) (dk_X7_holds 64 _ rfl) ?_
        refine F_iinc (i := 5) (n := 1) (v := (y5 + 1)) (lv' := [(5, .int (y5 + 1)), (6, .int x4), (0, .ref 0), (1, .int y1), (2, .int y2), (3, .int y3), (4, .int y4)]) rfl (by first | rfl | decide) (by decide) rfl (dk_X7_holds 247 _ rfl) ?_
        refine F_goto (tgt := 11) (by decide) (dk_X7_holds 250 _ rfl) ?_
        exact F_loc (List.forall_mem_cons.mpr ⟨(.tail _ (.tail _ (.head _))), (List.forall_mem_cons.mpr ⟨(.tail _ (.tail _ (.tail _ (.head _)))), (List.forall_mem_cons.mpr ⟨(.tail _ (.tail _ (.tail _ (.tail _ (.head _))))), (List.forall_mem_cons.mpr ⟨(.tail _ (.tail _ (.tail _ (.tail _ (.tail _ (.head _)))))), (List.forall_mem_cons.mpr ⟨(.tail _ (.tail _ (.tail _ (.tail _ (.tail _ (.tail _ (.head _))))))), (List.forall_mem_cons.mpr ⟨(.head _), (fun _ z => absurd z List.not_mem_nil)⟩)⟩)⟩)⟩)⟩)⟩) (hK11 _ _ _ _ _ _ )
theorem j_X7_holds_11   : ∀ (F : Nat) (m : mM) (y1 : Int32) (y2 : Int32) (y3 : Int32) (y4 : Int32) (y5 : Int32) , JF false uI m_X7_holds 4 11 [(0, .ref 0), (1, .int y1), (2, .int y2), (3, .int y3), (4, .int y4), (5, .int y5)] [] m (f_X7_holds_11  F m y1 y2 y3 y4 y5) := by
  intro F
  induction F with
  | zero => intro m y1 y2 y3 y4 y5 ; exact F_no
  | succ F ih => intro m y1 y2 y3 y4 y5 ; exact jb_X7_holds_11  (f_X7_holds_11  F)  ih m y1 y2 y3 y4 y5 
def f_X7_holds (m : mM) (p1 : Int32) (p2 : Int32) (p3 : Int32) : fR Int32 :=
  (gA (mA m 12) p1).bind fun x1 => (f_X7_holds_11  1000 m p1 p2 p3 0 x1)
theorem c_X7_holds (m : mM) (p1 : Int32) (p2 : Int32) (p3 : Int32)  : cF false uI m_X7_holds 4 [.ref 0, .int p1, .int p2, .int p3] m (f_X7_holds m p1 p2 p3) := by
  refine cF_of ok_X7_holds (fun _ _ => Nat.le_of_ble_eq_true rfl) ?_
  unfold f_X7_holds
  show JF _ _ _ _ _ [(0, .ref 0), (1, .int p1), (2, .int p2), (3, .int p3)] _ _ _
  refine F_iconst (v := 0) (by decide) (dk_X7_holds 0 _ rfl) ?_
  refine F_istore (lv' := [(4, .int 0), (0, .ref 0), (1, .int p1), (2, .int p2), (3, .int p3)]) (i := 4) (by decide) rfl (dk_X7_holds 1 _ rfl) ?_
  refine F_aload_n (i := 0) (a := 0) rfl rfl (dk_X7_holds 3 _ rfl) ?_
  refine F_gR (b := 12) fxM_7_19_0 fl_7_69 (dk_X7_holds 4 _ rfl) ?_
  refine F_iload_n (i := 1) (a := 1) rfl rfl (dk_X7_holds 7 _ rfl) ?_
  refine F_iald (axM_0_12) (dk_X7_holds 8 _ rfl) (fun x1 => ?_)
  refine F_istore (lv' := [(5, .int x1), (4, .int 0), (0, .ref 0), (1, .int p1), (2, .int p2), (3, .int p3)]) (i := 5) (by decide) rfl (dk_X7_holds 9 _ rfl) ?_
  exact F_loc (List.forall_mem_cons.mpr ⟨(.tail _ (.tail _ (.head _))), (List.forall_mem_cons.mpr ⟨(.tail _ (.tail _ (.tail _ (.head _)))), (List.forall_mem_cons.mpr ⟨(.tail _ (.tail _ (.tail _ (.tail _ (.head _))))), (List.forall_mem_cons.mpr ⟨(.tail _ (.tail _ (.tail _ (.tail _ (.tail _ (.head _)))))), (List.forall_mem_cons.mpr ⟨(.tail _ (.head _)), (List.forall_mem_cons.mpr ⟨(.head _), (fun _ z => absurd z List.not_mem_nil)⟩)⟩)⟩)⟩)⟩)⟩) (j_X7_holds_11   1000 _ _ _ _ _ _ )
end
end
-- 21k.fun.lean.txt
section
section
set_option maxRecDepth 100000
def fb_X7_takesOf_11 (K11 : mM → Int32 → Int32 → Int32 → Int32 → Int32 → fR Int32) (m : mM) (y1 : Int32) (y2 : Int32) (y3 : Int32) (y4 : Int32) (y5 : Int32) : fR Int32 :=
  bnd (f_X7_clauseTo m ) fun (x4 : Int32) (m5 : mM) => (if x4 ≤ y5 then (if y4 = 0 then some (100, m5) else some ((10 * y3), m5)) else (gA (mA m5 10) y5).bind fun x7 => (if x7 = 0 then bnd (f_X7_holds m5 y5 y1 y2) fun (x8 : Int32) (m9 : mM) => (if x8 = 0 then nmI (y3 + 0) fun v11 => (K11 m9 y1 y2 v11 1 (y5 + 1)) else (gA (mA m9 11) y5).bind fun x12 => nmI (y3 + x12) fun v13 => (K11 m9 y1 y2 v13 1 (y5 + 1))) else (K11 m5 y1 y2 y3 y4 (y5 + 1))))
def f_X7_takesOf_11  : Nat → mM → Int32 → Int32 → Int32 → Int32 → Int32 → fR Int32
  | 0, _, _, _, _, _, _ => none
  | F + 1, m, y1, y2, y3, y4, y5 => fb_X7_takesOf_11  (f_X7_takesOf_11  F) m y1 y2 y3 y4 y5
theorem jb_X7_takesOf_11 (K11 : mM → Int32 → Int32 → Int32 → Int32 → Int32 → fR Int32) (hK11 : ∀ (m : mM) (y1 : Int32) (y2 : Int32) (y3 : Int32) (y4 : Int32) (y5 : Int32) , JF false uI m_X7_takesOf 5 11 [(0, .ref 0), (1, .int y1), (2, .int y2), (3, .int y3), (4, .int y4), (5, .int y5)] [] m (K11 m y1 y2 y3 y4 y5)) (m : mM) (y1 : Int32) (y2 : Int32) (y3 : Int32) (y4 : Int32) (y5 : Int32)  : JF false uI m_X7_takesOf 5 11 [(0, .ref 0), (1, .int y1), (2, .int y2), (3, .int y3), (4, .int y4), (5, .int y5)] [] m (fb_X7_takesOf_11 K11 m y1 y2 y3 y4 y5) := by
  unfold fb_X7_takesOf_11
  refine F_iload (i := 5) rfl (dk_X7_takesOf 11 _ rfl) ?_
  refine F_aload_n (i := 0) (a := 0) rfl rfl (dk_X7_takesOf 13 _ rfl) ?_
  refine F_callV (ι' := uI) (ci := 7) (b := 0) (As := []) (d' := 2) (rfl) ok_X7_clauseTo vi_X7_clauseTo cl_7_259 (n := 0) (by decide +kernel) rfl rfl rfl (Nat.le_of_ble_eq_true rfl) (by omega) (dk_X7_takesOf 14 _ rfl) (c_X7_clauseTo _  ) (fun x4 m5 => ?_)
  show JF _ _ _ _ _ _ [.int x4, .int y5] _ _
  refine F_icmp_ge (tgt := 67) (by decide) (dk_X7_takesOf 17 _ rfl) ?_ ?_
  · refine F_iload (i := 4) rfl (dk_X7_takesOf 67 _ rfl) ?_
    refine F_if_eq (tgt := 79) (by decide) (dk_X7_takesOf 69 _ rfl) ?_ ?_
    · refine F_bipush (v := 100) (by decide) (dk_X7_takesOf 79 _ rfl) ?_
      exact F_ret rfl (dk_X7_takesOf 81 _ rfl)
    · refine F_bipush (v := 10) (by decide) (dk_X7_takesOf 72 _ rfl) ?_
      refine F_iload_n (i := 3) (a := 3) rfl rfl (dk_X7_takesOf 74 _ rfl) ?_
      refine F_imul (dk_X7_takesOf 75 _ rfl) ?_
      refine F_goto (tgt := 81) (by decide) (dk_X7_takesOf 76 _ rfl) ?_
      exact F_ret rfl (dk_X7_takesOf 81 _ rfl)
  · refine F_aload_n (i := 0) (a := 0) rfl rfl (dk_X7_takesOf 20 _ rfl) ?_
    refine F_gR (b := 10) fxM_7_17_0 fl_7_63 (dk_X7_takesOf 21 _ rfl) ?_
    refine F_iload (i := 5) rfl (dk_X7_takesOf 24 _ rfl) ?_
    refine F_iald (axM_0_10) (dk_X7_takesOf 26 _ rfl) (fun x7 => ?_)
    refine F_if_eq (tgt := 33) (by decide) (dk_X7_takesOf 27 _ rfl) ?_ ?_
    · refine F_iconst (v := 1) (by decide) (dk_X7_takesOf 33 _ rfl) ?_
      refine F_istore (lv' := [(4, .int 1), (0, .ref 0), (1, .int y1), (2, .int y2), (3, .int y3), (5, .int y5)]) (i := 4) (by decide) rfl (dk_X7_takesOf 34 _ rfl) ?_
      refine F_iload_n (i := 3) (a := 3) rfl rfl (dk_X7_takesOf 36 _ rfl) ?_
      refine F_aload_n (i := 0) (a := 0) rfl rfl (dk_X7_takesOf 37 _ rfl) ?_
      refine F_iload (i := 5) rfl (dk_X7_takesOf 38 _ rfl) ?_
      refine F_iload_n (i := 1) (a := 1) rfl rfl (dk_X7_takesOf 40 _ rfl) ?_
      refine F_iload_n (i := 2) (a := 2) rfl rfl (dk_X7_takesOf 41 _ rfl) ?_
      refine F_callV (ι' := uI) (ci := 7) (b := 0) (As := [.int y5, .int y1, .int y2]) (d' := 4) (rfl) ok_X7_holds vi_X7_holds cl_7_273 (n := 3) (by decide +kernel) rfl rfl rfl (Nat.le_of_ble_eq_true rfl) (by omega) (dk_X7_takesOf 42 _ rfl) (c_X7_holds _ _ _ _ ) (fun x8 m9 => ?_)
      show JF _ _ _ _ _ _ [.int x8, .int y3] _ _
      refine F_if_eq (tgt := 58) (by decide) (dk_X7_takesOf 45 _ rfl) ?_ ?_
      · refine F_iconst (v := 0) (by decide) (dk_X7_takesOf 58 _ rfl) ?_
        refine F_iadd (dk_X7_takesOf 59 _ rfl) ?_
        refine F_nm (fun v11 => ?_)
        refine F_istore_n (lv' := [(3, .int v11), (4, .int 1), (0, .ref 0), (1, .int y1), (2, .int y2), (5, .int y5)]) (i := 3) (a := 3) rfl (by decide) rfl (dk_X7_takesOf 60 _ rfl) ?_
        refine F_iinc (i := 5) (n := 1) (v := (y5 + 1)) (lv' := [(5, .int (y5 + 1)), (3, .int v11), (4, .int 1), (0, .ref 0), (1, .int y1), (2, .int y2)]) rfl (by first | rfl | decide) (by decide) rfl (dk_X7_takesOf 61 _ rfl) ?_
        refine F_goto (tgt := 11) (by decide) (dk_X7_takesOf 64 _ rfl) ?_
        exact F_loc (List.forall_mem_cons.mpr ⟨(.tail _ (.tail _ (.tail _ (.head _)))), (List.forall_mem_cons.mpr ⟨(.tail _ (.tail _ (.tail _ (.tail _ (.head _))))), (List.forall_mem_cons.mpr ⟨(.tail _ (.tail _ (.tail _ (.tail _ (.tail _ (.head _)))))), (List.forall_mem_cons.mpr ⟨(.tail _ (.head _)), (List.forall_mem_cons.mpr ⟨(.tail _ (.tail _ (.head _))), (List.forall_mem_cons.mpr ⟨(.head _), (fun _ z => absurd z List.not_mem_nil)⟩)⟩)⟩)⟩)⟩)⟩) (hK11 _ _ _ _ _ _ )
      · refine F_aload_n (i := 0) (a := 0) rfl rfl (dk_X7_takesOf 48 _ rfl) ?_
        refine F_gR (b := 11) fxM_7_18_0 fl_7_66 (dk_X7_takesOf 49 _ rfl) ?_
        refine F_iload (i := 5) rfl (dk_X7_takesOf 52 _ rfl) ?_
        refine F_iald (axM_0_11) (dk_X7_takesOf 54 _ rfl) (fun x12 => ?_)
        refine F_goto (tgt := 59) (by decide) (dk_X7_takesOf 55 _ rfl) ?_
        refine F_iadd (dk_X7_takesOf 59 _ rfl) ?_
        refine F_nm (fun v13 => ?_)
        refine F_istore_n (lv' := [(3, .int v13), (4, .int 1), (0, .ref 0), (1, .int y1), (2, .int y2), (5, .int y5)]) (i := 3) (a := 3) rfl (by decide) rfl (dk_X7_takesOf 60 _ rfl) ?_
        refine F_iinc (i := 5) (n := 1) (v := (y5 + 1)) (lv' := [(5, .int (y5 + 1)), (3, .int v13), (4, .int 1), (0, .ref 0), (1, .int y1), (2, .int y2)]) rfl (by first | rfl | decide) (by decide) rfl (dk_X7_takesOf 61 _ rfl) ?_
        refine F_goto (tgt := 11) (by decide) (dk_X7_takesOf 64 _ rfl) ?_
        exact F_loc (List.forall_mem_cons.mpr ⟨(.tail _ (.tail _ (.tail _ (.head _)))), (List.forall_mem_cons.mpr ⟨(.tail _ (.tail _ (.tail _ (.tail _ (.head _))))), (List.forall_mem_cons.mpr ⟨(.tail _ (.tail _ (.tail _ (.tail _ (.tail _ (.head _)))))), (List.forall_mem_cons.mpr ⟨(.tail _ (.head _)), (List.forall_mem_cons.mpr ⟨(.tail _ (.tail _ (.head _))), (List.forall_mem_cons.mpr ⟨(.head _), (fun _ z => absurd z List.not_mem_nil)⟩)⟩)⟩)⟩)⟩)⟩) (hK11 _ _ _ _ _ _ )
    · refine F_goto (tgt := 61) (by decide) (dk_X7_takesOf 30 _ rfl) ?_
      refine F_iinc (i := 5) (n := 1) (v := (y5 + 1)) (lv' := [(5, .int (y5 + 1)), (0, .ref 0), (1, .int y1), (2, .int y2), (3, .int y3), (4, .int y4)]) rfl (by first | rfl | decide) (by decide) rfl (dk_X7_takesOf 61 _ rfl) ?_
      refine F_goto (tgt := 11) (by decide) (dk_X7_takesOf 64 _ rfl) ?_
      exact F_loc (List.forall_mem_cons.mpr ⟨(.tail _ (.head _)), (List.forall_mem_cons.mpr ⟨(.tail _ (.tail _ (.head _))), (List.forall_mem_cons.mpr ⟨(.tail _ (.tail _ (.tail _ (.head _)))), (List.forall_mem_cons.mpr ⟨(.tail _ (.tail _ (.tail _ (.tail _ (.head _))))), (List.forall_mem_cons.mpr ⟨(.tail _ (.tail _ (.tail _ (.tail _ (.tail _ (.head _)))))), (List.forall_mem_cons.mpr ⟨(.head _), (fun _ z => absurd z List.not_mem_nil)⟩)⟩)⟩)⟩)⟩)⟩) (hK11 _ _ _ _ _ _ )
theorem j_X7_takesOf_11   : ∀ (F : Nat) (m : mM) (y1 : Int32) (y2 : Int32) (y3 : Int32) (y4 : Int32) (y5 : Int32) , JF false uI m_X7_takesOf 5 11 [(0, .ref 0), (1, .int y1), (2, .int y2), (3, .int y3), (4, .int y4), (5, .int y5)] [] m (f_X7_takesOf_11  F m y1 y2 y3 y4 y5) := by
  intro F
  induction F with
  | zero => intro m y1 y2 y3 y4 y5 ; exact F_no
  | succ F ih => intro m y1 y2 y3 y4 y5 ; exact jb_X7_takesOf_11  (f_X7_takesOf_11  F)  ih m y1 y2 y3 y4 y5 
def f_X7_takesOf (m : mM) (p1 : Int32) (p2 : Int32) : fR Int32 :=
  bnd (f_X7_clauseFrom m ) fun (x1 : Int32) (m2 : mM) => (f_X7_takesOf_11  1000 m2 p1 p2 0 0 x1)
theorem c_X7_takesOf (m : mM) (p1 : Int32) (p2 : Int32)  : cF false uI m_X7_takesOf 5 [.ref 0, .int p1, .int p2] m (f_X7_takesOf m p1 p2) := by
  refine cF_of ok_X7_takesOf (fun _ _ => Nat.le_of_ble_eq_true rfl) ?_
  unfold f_X7_takesOf
  show JF _ _ _ _ _ [(0, .ref 0), (1, .int p1), (2, .int p2)] _ _ _
  refine F_iconst (v := 0) (by decide) (dk_X7_takesOf 0 _ rfl) ?_
  refine F_istore_n (lv' := [(3, .int 0), (0, .ref 0), (1, .int p1), (2, .int p2)]) (i := 3) (a := 3) rfl (by decide) rfl (dk_X7_takesOf 1 _ rfl) ?_
  refine F_iconst (v := 0) (by decide) (dk_X7_takesOf 2 _ rfl) ?_
  refine F_istore (lv' := [(4, .int 0), (3, .int 0), (0, .ref 0), (1, .int p1), (2, .int p2)]) (i := 4) (by decide) rfl (dk_X7_takesOf 3 _ rfl) ?_
  refine F_aload_n (i := 0) (a := 0) rfl rfl (dk_X7_takesOf 5 _ rfl) ?_
  refine F_callV (ι' := uI) (ci := 7) (b := 0) (As := []) (d' := 2) (rfl) ok_X7_clauseFrom vi_X7_clauseFrom cl_7_256 (n := 0) (by decide +kernel) rfl rfl rfl (Nat.le_of_ble_eq_true rfl) (by omega) (dk_X7_takesOf 6 _ rfl) (c_X7_clauseFrom _  ) (fun x1 m2 => ?_)
  show JF _ _ _ _ _ _ [.int x1] _ _
  refine F_istore (lv' := [(5, .int x1), (4, .int 0), (3, .int 0), (0, .ref 0), (1, .int p1), (2, .int p2)]) (i := 5) (by decide) rfl (dk_X7_takesOf 9 _ rfl) ?_
  exact F_loc (List.forall_mem_cons.mpr ⟨(.tail _ (.tail _ (.tail _ (.head _)))), (List.forall_mem_cons.mpr ⟨(.tail _ (.tail _ (.tail _ (.tail _ (.head _))))), (List.forall_mem_cons.mpr ⟨(.tail _ (.tail _ (.tail _ (.tail _ (.tail _ (.head _)))))), (List.forall_mem_cons.mpr ⟨(.tail _ (.tail _ (.head _))), (List.forall_mem_cons.mpr ⟨(.tail _ (.head _)), (List.forall_mem_cons.mpr ⟨(.head _), (fun _ z => absurd z List.not_mem_nil)⟩)⟩)⟩)⟩)⟩)⟩) (j_X7_takesOf_11   1000 _ _ _ _ _ _ )
def f_X7_thatOne (m : mM) (p1 : Int32) : fR Int32 :=
  (gA (mA m 2) p1).bind fun x1 => (rmI x1 (mI m 0)).bind fun x2 => some (x2, m)
theorem c_X7_thatOne (m : mM) (p1 : Int32)  : cF false uI m_X7_thatOne 2 [.ref 0, .int p1] m (f_X7_thatOne m p1) := by
  refine cF_of ok_X7_thatOne (fun _ _ => Nat.le_of_ble_eq_true rfl) ?_
  unfold f_X7_thatOne
  show JF _ _ _ _ _ [(0, .ref 0), (1, .int p1)] _ _ _
  refine F_aload_n (i := 0) (a := 0) rfl rfl (dk_X7_thatOne 0 _ rfl) ?_
  refine F_gR (b := 2) fxM_7_4_0 fl_7_23 (dk_X7_thatOne 1 _ rfl) ?_
  refine F_iload_n (i := 1) (a := 1) rfl rfl (dk_X7_thatOne 4 _ rfl) ?_
  refine F_iald (axM_0_2) (dk_X7_thatOne 5 _ rfl) (fun x1 => ?_)
  refine F_aload_n (i := 0) (a := 0) rfl rfl (dk_X7_thatOne 6 _ rfl) ?_
  refine F_gI (n := 0) fxM_7_0_0 rfl fl_7_7 (dk_X7_thatOne 7 _ rfl) ?_
  refine F_irem (dk_X7_thatOne 10 _ rfl) (fun x2 => ?_)
  exact F_ret rfl (dk_X7_thatOne 11 _ rfl)
def f_X7_behindHated (m : mM) (p1 : Int32) : fR Int32 :=
  bnd (f_X7_thatOne m p1) fun (x1 : Int32) (m2 : mM) => (gA (mA m2 3) x1).bind fun x4 => (gA (mA m2 4) p1).bind fun x5 => (if x4 = x5 then (gA (mA m2 4) p1).bind fun x7 => (rmI (x7 + 1) 12).bind fun x8 => some (x8, m2) else (gA (mA m2 4) p1).bind fun x6 => some (x6, m2))
theorem c_X7_behindHated (m : mM) (p1 : Int32)  : cF false uI m_X7_behindHated 3 [.ref 0, .int p1] m (f_X7_behindHated m p1) := by
  refine cF_of ok_X7_behindHated (fun _ _ => Nat.le_of_ble_eq_true rfl) ?_
  unfold f_X7_behindHated
  show JF _ _ _ _ _ [(0, .ref 0), (1, .int p1)] _ _ _
  refine F_aload_n (i := 0) (a := 0) rfl rfl (dk_X7_behindHated 0 _ rfl) ?_
  refine F_gR (b := 3) fxM_7_5_0 fl_7_26 (dk_X7_behindHated 1 _ rfl) ?_
  refine F_aload_n (i := 0) (a := 0) rfl rfl (dk_X7_behindHated 4 _ rfl) ?_
  refine F_iload_n (i := 1) (a := 1) rfl rfl (dk_X7_behindHated 5 _ rfl) ?_
  refine F_callV (ι' := uI) (ci := 7) (b := 0) (As := [.int p1]) (d' := 2) (rfl) ok_X7_thatOne vi_X7_thatOne cl_7_276 (n := 1) (by decide +kernel) rfl rfl rfl (Nat.le_of_ble_eq_true rfl) (by omega) (dk_X7_behindHated 6 _ rfl) (c_X7_thatOne _ _ ) (fun x1 m2 => ?_)
  show JF _ _ _ _ _ _ [.int x1, .ref 3] _ _
  refine F_iald (axM_0_3) (dk_X7_behindHated 9 _ rfl) (fun x4 => ?_)
  refine F_aload_n (i := 0) (a := 0) rfl rfl (dk_X7_behindHated 10 _ rfl) ?_
  refine F_gR (b := 4) fxM_7_6_0 fl_7_29 (dk_X7_behindHated 11 _ rfl) ?_
  refine F_iload_n (i := 1) (a := 1) rfl rfl (dk_X7_behindHated 14 _ rfl) ?_
  refine F_iald (axM_0_4) (dk_X7_behindHated 15 _ rfl) (fun x5 => ?_)
  refine F_icmp_ne (tgt := 33) (by decide) (dk_X7_behindHated 16 _ rfl) ?_ ?_
  · refine F_aload_n (i := 0) (a := 0) rfl rfl (dk_X7_behindHated 33 _ rfl) ?_
    refine F_gR (b := 4) fxM_7_6_0 fl_7_29 (dk_X7_behindHated 34 _ rfl) ?_
    refine F_iload_n (i := 1) (a := 1) rfl rfl (dk_X7_behindHated 37 _ rfl) ?_
    refine F_iald (axM_0_4) (dk_X7_behindHated 38 _ rfl) (fun x6 => ?_)
    exact F_ret rfl (dk_X7_behindHated 39 _ rfl)
  · refine F_aload_n (i := 0) (a := 0) rfl rfl (dk_X7_behindHated 19 _ rfl) ?_
    refine F_gR (b := 4) fxM_7_6_0 fl_7_29 (dk_X7_behindHated 20 _ rfl) ?_
    refine F_iload_n (i := 1) (a := 1) rfl rfl (dk_X7_behindHated 23 _ rfl) ?_
    refine F_iald (axM_0_4) (dk_X7_behindHated 24 _ rfl) (fun x7 => ?_)
    refine F_iconst (v := 1) (by decide) (dk_X7_behindHated 25 _ rfl) ?_
    refine F_iadd (dk_X7_behindHated 26 _ rfl) ?_
    refine F_bipush (v := 12) (by decide) (dk_X7_behindHated 27 _ rfl) ?_
    refine F_irem (dk_X7_behindHated 29 _ rfl) (fun x8 => ?_)
    refine F_goto (tgt := 39) (by decide) (dk_X7_behindHated 30 _ rfl) ?_
    exact F_ret rfl (dk_X7_behindHated 39 _ rfl)
def fb_X7_shunned_2 (K2 : mM → Int32 → Int32 → fR Int32) (m : mM) (y1 : Int32) (y2 : Int32) : fR Int32 :=
  (if 12 ≤ y2 then bnd (f_X7_behindHated m y1) fun (x1 : Int32) (m2 : mM) => some (x1, m2) else (gA (mA m 4) y1).bind fun x4 => (rmI (x4 + y2) 12).bind fun x5 => bnd (f_X7_thatOne m y1) fun (x6 : Int32) (m7 : mM) => (gA (mA m7 3) x6).bind fun x9 => (if x9 = x5 then (K2 m7 y1 (y2 + 1)) else bnd (f_X7_manyBorn m7 x5) fun (x10 : Int32) (m11 : mM) => (if 2 ≤ x10 then (K2 m11 y1 (y2 + 1)) else some (x5, m11))))
def f_X7_shunned_2  : Nat → mM → Int32 → Int32 → fR Int32
  | 0, _, _, _ => none
  | F + 1, m, y1, y2 => fb_X7_shunned_2  (f_X7_shunned_2  F) m y1 y2
theorem jb_X7_shunned_2 (K2 : mM → Int32 → Int32 → fR Int32) (hK2 : ∀ (m : mM) (y1 : Int32) (y2 : Int32) , JF false uI m_X7_shunned 4 2 [(0, .ref 0), (1, .int y1), (2, .int y2)] [] m (K2 m y1 y2)) (m : mM) (y1 : Int32) (y2 : Int32)  : JF false uI m_X7_shunned 4 2 [(0, .ref 0), (1, .int y1), (2, .int y2)] [] m (fb_X7_shunned_2 K2 m y1 y2) := by
  unfold fb_X7_shunned_2
  refine F_iload_n (i := 2) (a := 2) rfl rfl (dk_X7_shunned 2 _ rfl) ?_
  refine F_bipush (v := 12) (by decide) (dk_X7_shunned 3 _ rfl) ?_
  refine F_icmp_ge (tgt := 51) (by decide) (dk_X7_shunned 5 _ rfl) ?_ ?_
  · refine F_aload_n (i := 0) (a := 0) rfl rfl (dk_X7_shunned 51 _ rfl) ?_
    refine F_iload_n (i := 1) (a := 1) rfl rfl (dk_X7_shunned 52 _ rfl) ?_
    refine F_callV (ι' := uI) (ci := 7) (b := 0) (As := [.int y1]) (d' := 3) (rfl) ok_X7_behindHated vi_X7_behindHated cl_7_279 (n := 1) (by decide +kernel) rfl rfl rfl (Nat.le_of_ble_eq_true rfl) (by omega) (dk_X7_shunned 53 _ rfl) (c_X7_behindHated _ _ ) (fun x1 m2 => ?_)
    show JF _ _ _ _ _ _ [.int x1] _ _
    exact F_ret rfl (dk_X7_shunned 56 _ rfl)
  · refine F_aload_n (i := 0) (a := 0) rfl rfl (dk_X7_shunned 8 _ rfl) ?_
    refine F_gR (b := 4) fxM_7_6_0 fl_7_29 (dk_X7_shunned 9 _ rfl) ?_
    refine F_iload_n (i := 1) (a := 1) rfl rfl (dk_X7_shunned 12 _ rfl) ?_
    refine F_iald (axM_0_4) (dk_X7_shunned 13 _ rfl) (fun x4 => ?_)
    refine F_iload_n (i := 2) (a := 2) rfl rfl (dk_X7_shunned 14 _ rfl) ?_
    refine F_iadd (dk_X7_shunned 15 _ rfl) ?_
    refine F_bipush (v := 12) (by decide) (dk_X7_shunned 16 _ rfl) ?_
    refine F_irem (dk_X7_shunned 18 _ rfl) (fun x5 => ?_)
    refine F_istore_n (lv' := [(3, .int x5), (0, .ref 0), (1, .int y1), (2, .int y2)]) (i := 3) (a := 3) rfl (by decide) rfl (dk_X7_shunned 19 _ rfl) ?_
    refine F_aload_n (i := 0) (a := 0) rfl rfl (dk_X7_shunned 20 _ rfl) ?_
    refine F_gR (b := 3) fxM_7_5_0 fl_7_26 (dk_X7_shunned 21 _ rfl) ?_
    refine F_aload_n (i := 0) (a := 0) rfl rfl (dk_X7_shunned 24 _ rfl) ?_
    refine F_iload_n (i := 1) (a := 1) rfl rfl (dk_X7_shunned 25 _ rfl) ?_
    refine F_callV (ι' := uI) (ci := 7) (b := 0) (As := [.int y1]) (d' := 2) (rfl) ok_X7_thatOne vi_X7_thatOne cl_7_276 (n := 1) (by decide +kernel) rfl rfl rfl (Nat.le_of_ble_eq_true rfl) (by omega) (dk_X7_shunned 26 _ rfl) (c_X7_thatOne _ _ ) (fun x6 m7 => ?_)
    show JF _ _ _ _ _ _ [.int x6, .ref 3] _ _
    refine F_iald (axM_0_3) (dk_X7_shunned 29 _ rfl) (fun x9 => ?_)
    refine F_iload_n (i := 3) (a := 3) rfl rfl (dk_X7_shunned 30 _ rfl) ?_
    refine F_icmp_eq (tgt := 45) (by decide) (dk_X7_shunned 31 _ rfl) ?_ ?_
    · refine F_iinc (i := 2) (n := 1) (v := (y2 + 1)) (lv' := [(2, .int (y2 + 1)), (3, .int x5), (0, .ref 0), (1, .int y1)]) rfl (by first | rfl | decide) (by decide) rfl (dk_X7_shunned 45 _ rfl) ?_
      refine F_goto (tgt := 2) (by decide) (dk_X7_shunned 48 _ rfl) ?_
      exact F_loc (List.forall_mem_cons.mpr ⟨(.tail _ (.tail _ (.head _))), (List.forall_mem_cons.mpr ⟨(.tail _ (.tail _ (.tail _ (.head _)))), (List.forall_mem_cons.mpr ⟨(.head _), (fun _ z => absurd z List.not_mem_nil)⟩)⟩)⟩) (hK2 _ _ _ )
    · refine F_aload_n (i := 0) (a := 0) rfl rfl (dk_X7_shunned 34 _ rfl) ?_
      refine F_iload_n (i := 3) (a := 3) rfl rfl (dk_X7_shunned 35 _ rfl) ?_
      refine F_callV (ι' := uI) (ci := 7) (b := 0) (As := [.int x5]) (d' := 2) (rfl) ok_X7_manyBorn vi_X7_manyBorn cl_7_266 (n := 1) (by decide +kernel) rfl rfl rfl (Nat.le_of_ble_eq_true rfl) (by omega) (dk_X7_shunned 36 _ rfl) (c_X7_manyBorn _ _ ) (fun x10 m11 => ?_)
      show JF _ _ _ _ _ _ [.int x10] _ _
      refine F_iconst (v := 2) (by decide) (dk_X7_shunned 39 _ rfl) ?_
      refine F_icmp_ge (tgt := 45) (by decide) (dk_X7_shunned 40 _ rfl) ?_ ?_
      · refine F_iinc (i := 2) (n := 1) (v := (y2 + 1)) (lv' := [(2, .int (y2 + 1)), (3, .int x5), (0, .ref 0), (1, .int y1)]) rfl (by first | rfl | decide) (by decide) rfl (dk_X7_shunned 45 _ rfl) ?_
        refine F_goto (tgt := 2) (by decide) (dk_X7_shunned 48 _ rfl) ?_
        exact F_loc (List.forall_mem_cons.mpr ⟨(.tail _ (.tail _ (.head _))), (List.forall_mem_cons.mpr ⟨(.tail _ (.tail _ (.tail _ (.head _)))), (List.forall_mem_cons.mpr ⟨(.head _), (fun _ z => absurd z List.not_mem_nil)⟩)⟩)⟩) (hK2 _ _ _ )
      · refine F_iload_n (i := 3) (a := 3) rfl rfl (dk_X7_shunned 43 _ rfl) ?_
        exact F_ret rfl (dk_X7_shunned 44 _ rfl)
theorem j_X7_shunned_2   : ∀ (F : Nat) (m : mM) (y1 : Int32) (y2 : Int32) , JF false uI m_X7_shunned 4 2 [(0, .ref 0), (1, .int y1), (2, .int y2)] [] m (f_X7_shunned_2  F m y1 y2) := by
  intro F
  induction F with
  | zero => intro m y1 y2 ; exact F_no
  | succ F ih => intro m y1 y2 ; exact jb_X7_shunned_2  (f_X7_shunned_2  F)  ih m y1 y2 
def f_X7_shunned (m : mM) (p1 : Int32) : fR Int32 :=
  (f_X7_shunned_2  1000 m p1 0)
theorem c_X7_shunned (m : mM) (p1 : Int32)  : cF false uI m_X7_shunned 4 [.ref 0, .int p1] m (f_X7_shunned m p1) := by
  refine cF_of ok_X7_shunned (fun _ _ => Nat.le_of_ble_eq_true rfl) ?_
  unfold f_X7_shunned
  show JF _ _ _ _ _ [(0, .ref 0), (1, .int p1)] _ _ _
  refine F_iconst (v := 0) (by decide) (dk_X7_shunned 0 _ rfl) ?_
  refine F_istore_n (lv' := [(2, .int 0), (0, .ref 0), (1, .int p1)]) (i := 2) (a := 2) rfl (by decide) rfl (dk_X7_shunned 1 _ rfl) ?_
  exact F_loc (List.forall_mem_cons.mpr ⟨(.tail _ (.head _)), (List.forall_mem_cons.mpr ⟨(.tail _ (.tail _ (.head _))), (List.forall_mem_cons.mpr ⟨(.head _), (fun _ z => absurd z List.not_mem_nil)⟩)⟩)⟩) (j_X7_shunned_2   1000 _ _ _ )
def f_X7_wishedDay (m : mM) (p1 : Int32) : fR Int32 :=
  (gA (mA m 1) p1).bind fun x1 => (if x1 = 1 then bnd (f_X7_behindHated m p1) fun (x3 : Int32) (m4 : mM) => some (x3, m4) else if x1 = 2 then bnd (f_X7_thatOne m p1) fun (x6 : Int32) (m7 : mM) => (gA (mA m7 3) x6).bind fun x9 => some (x9, m7) else if x1 = 3 then (gA (mA m 4) p1).bind fun x10 => (gA (mA m 2) p1).bind fun x11 => (rmI (x10 + x11) 12).bind fun x12 => some (x12, m) else if x1 = 4 then bnd (f_X7_shunned m p1) fun (x13 : Int32) (m14 : mM) => some (x13, m14) else if x1 = 5 then bnd (f_X7_thatOne m p1) fun (x16 : Int32) (m17 : mM) => (gA (mA m17 7) x16).bind fun x19 => (if x19 = 0 then (gA (mA m17 4) p1).bind fun x20 => some (x20, m17) else bnd (f_X7_thatOne m17 p1) fun (x21 : Int32) (m22 : mM) => (gA (mA m22 3) x21).bind fun x24 => some (x24, m22)) else if x1 = 6 then (rmI (mI m 2) 4).bind fun x25 => (gA (mA m 6) (((4 * p1) + x25))).bind fun x26 => some (x26, m) else (gA (mA m 4) p1).bind fun x27 => some (x27, m))
theorem c_X7_wishedDay (m : mM) (p1 : Int32)  : cF false uI m_X7_wishedDay 5 [.ref 0, .int p1] m (f_X7_wishedDay m p1) := by
  refine cF_of ok_X7_wishedDay (fun _ _ => Nat.le_of_ble_eq_true rfl) ?_
  unfold f_X7_wishedDay
  show JF _ _ _ _ _ [(0, .ref 0), (1, .int p1)] _ _ _
  refine F_aload_n (i := 0) (a := 0) rfl rfl (dk_X7_wishedDay 0 _ rfl) ?_
  refine F_gR (b := 1) fxM_7_3_0 fl_7_19 (dk_X7_wishedDay 1 _ rfl) ?_
  refine F_iload_n (i := 1) (a := 1) rfl rfl (dk_X7_wishedDay 4 _ rfl) ?_
  refine F_iald (axM_0_1) (dk_X7_wishedDay 5 _ rfl) (fun x1 => ?_)
  refine F_case (fun c2_0 => ?_) (fun c2_0 => ?_)
  · rw [c2_0]; refine F_tin (off := 38) (tgt := 44) (by decide) (by decide) rfl (by decide) (dk_X7_wishedDay 6 _ rfl) ?_
    refine F_aload_n (i := 0) (a := 0) rfl rfl (dk_X7_wishedDay 44 _ rfl) ?_
    refine F_iload_n (i := 1) (a := 1) rfl rfl (dk_X7_wishedDay 45 _ rfl) ?_
    refine F_callV (ι' := uI) (ci := 7) (b := 0) (As := [.int p1]) (d' := 3) (rfl) ok_X7_behindHated vi_X7_behindHated cl_7_279 (n := 1) (by decide +kernel) rfl rfl rfl (Nat.le_of_ble_eq_true rfl) (by omega) (dk_X7_wishedDay 46 _ rfl) (c_X7_behindHated _ _ ) (fun x3 m4 => ?_)
    show JF _ _ _ _ _ _ [.int x3] _ _
    exact F_ret rfl (dk_X7_wishedDay 49 _ rfl)
  refine F_case (fun c2_1 => ?_) (fun c2_1 => ?_)
  · rw [c2_1]; refine F_tin (off := 44) (tgt := 50) (by decide) (by decide) rfl (by decide) (dk_X7_wishedDay 6 _ rfl) ?_
    refine F_aload_n (i := 0) (a := 0) rfl rfl (dk_X7_wishedDay 50 _ rfl) ?_
    refine F_gR (b := 3) fxM_7_5_0 fl_7_26 (dk_X7_wishedDay 51 _ rfl) ?_
    refine F_aload_n (i := 0) (a := 0) rfl rfl (dk_X7_wishedDay 54 _ rfl) ?_
    refine F_iload_n (i := 1) (a := 1) rfl rfl (dk_X7_wishedDay 55 _ rfl) ?_
    refine F_callV (ι' := uI) (ci := 7) (b := 0) (As := [.int p1]) (d' := 2) (rfl) ok_X7_thatOne vi_X7_thatOne cl_7_276 (n := 1) (by decide +kernel) rfl rfl rfl (Nat.le_of_ble_eq_true rfl) (by omega) (dk_X7_wishedDay 56 _ rfl) (c_X7_thatOne _ _ ) (fun x6 m7 => ?_)
    show JF _ _ _ _ _ _ [.int x6, .ref 3] _ _
    refine F_iald (axM_0_3) (dk_X7_wishedDay 59 _ rfl) (fun x9 => ?_)
    exact F_ret rfl (dk_X7_wishedDay 60 _ rfl)
  refine F_case (fun c2_2 => ?_) (fun c2_2 => ?_)
  · rw [c2_2]; refine F_tin (off := 55) (tgt := 61) (by decide) (by decide) rfl (by decide) (dk_X7_wishedDay 6 _ rfl) ?_
    refine F_aload_n (i := 0) (a := 0) rfl rfl (dk_X7_wishedDay 61 _ rfl) ?_
    refine F_gR (b := 4) fxM_7_6_0 fl_7_29 (dk_X7_wishedDay 62 _ rfl) ?_
    refine F_iload_n (i := 1) (a := 1) rfl rfl (dk_X7_wishedDay 65 _ rfl) ?_
    refine F_iald (axM_0_4) (dk_X7_wishedDay 66 _ rfl) (fun x10 => ?_)
    refine F_aload_n (i := 0) (a := 0) rfl rfl (dk_X7_wishedDay 67 _ rfl) ?_
    refine F_gR (b := 2) fxM_7_4_0 fl_7_23 (dk_X7_wishedDay 68 _ rfl) ?_
    refine F_iload_n (i := 1) (a := 1) rfl rfl (dk_X7_wishedDay 71 _ rfl) ?_
    refine F_iald (axM_0_2) (dk_X7_wishedDay 72 _ rfl) (fun x11 => ?_)
    refine F_iadd (dk_X7_wishedDay 73 _ rfl) ?_
    refine F_bipush (v := 12) (by decide) (dk_X7_wishedDay 74 _ rfl) ?_
    refine F_irem (dk_X7_wishedDay 76 _ rfl) (fun x12 => ?_)
    exact F_ret rfl (dk_X7_wishedDay 77 _ rfl)
  refine F_case (fun c2_3 => ?_) (fun c2_3 => ?_)
  · rw [c2_3]; refine F_tin (off := 72) (tgt := 78) (by decide) (by decide) rfl (by decide) (dk_X7_wishedDay 6 _ rfl) ?_
    refine F_aload_n (i := 0) (a := 0) rfl rfl (dk_X7_wishedDay 78 _ rfl) ?_
    refine F_iload_n (i := 1) (a := 1) rfl rfl (dk_X7_wishedDay 79 _ rfl) ?_
    refine F_callV (ι' := uI) (ci := 7) (b := 0) (As := [.int p1]) (d' := 4) (rfl) ok_X7_shunned vi_X7_shunned cl_7_282 (n := 1) (by decide +kernel) rfl rfl rfl (Nat.le_of_ble_eq_true rfl) (by omega) (dk_X7_wishedDay 80 _ rfl) (c_X7_shunned _ _ ) (fun x13 m14 => ?_)
    show JF _ _ _ _ _ _ [.int x13] _ _
    exact F_ret rfl (dk_X7_wishedDay 83 _ rfl)
  refine F_case (fun c2_4 => ?_) (fun c2_4 => ?_)
  · rw [c2_4]; refine F_tin (off := 78) (tgt := 84) (by decide) (by decide) rfl (by decide) (dk_X7_wishedDay 6 _ rfl) ?_
    refine F_aload_n (i := 0) (a := 0) rfl rfl (dk_X7_wishedDay 84 _ rfl) ?_
    refine F_gR (b := 7) fxM_7_9_0 fl_7_38 (dk_X7_wishedDay 85 _ rfl) ?_
    refine F_aload_n (i := 0) (a := 0) rfl rfl (dk_X7_wishedDay 88 _ rfl) ?_
    refine F_iload_n (i := 1) (a := 1) rfl rfl (dk_X7_wishedDay 89 _ rfl) ?_
    refine F_callV (ι' := uI) (ci := 7) (b := 0) (As := [.int p1]) (d' := 2) (rfl) ok_X7_thatOne vi_X7_thatOne cl_7_276 (n := 1) (by decide +kernel) rfl rfl rfl (Nat.le_of_ble_eq_true rfl) (by omega) (dk_X7_wishedDay 90 _ rfl) (c_X7_thatOne _ _ ) (fun x16 m17 => ?_)
    show JF _ _ _ _ _ _ [.int x16, .ref 7] _ _
    refine F_zald (axM_3_7) (dk_X7_wishedDay 93 _ rfl) (fun x19 => ?_)
    refine F_if_eq (tgt := 110) (by decide) (dk_X7_wishedDay 94 _ rfl) ?_ ?_
    · refine F_aload_n (i := 0) (a := 0) rfl rfl (dk_X7_wishedDay 110 _ rfl) ?_
      refine F_gR (b := 4) fxM_7_6_0 fl_7_29 (dk_X7_wishedDay 111 _ rfl) ?_
      refine F_iload_n (i := 1) (a := 1) rfl rfl (dk_X7_wishedDay 114 _ rfl) ?_
      refine F_iald (axM_0_4) (dk_X7_wishedDay 115 _ rfl) (fun x20 => ?_)
      exact F_ret rfl (dk_X7_wishedDay 116 _ rfl)
    · refine F_aload_n (i := 0) (a := 0) rfl rfl (dk_X7_wishedDay 97 _ rfl) ?_
      refine F_gR (b := 3) fxM_7_5_0 fl_7_26 (dk_X7_wishedDay 98 _ rfl) ?_
      refine F_aload_n (i := 0) (a := 0) rfl rfl (dk_X7_wishedDay 101 _ rfl) ?_
      refine F_iload_n (i := 1) (a := 1) rfl rfl (dk_X7_wishedDay 102 _ rfl) ?_
      refine F_callV (ι' := uI) (ci := 7) (b := 0) (As := [.int p1]) (d' := 2) (rfl) ok_X7_thatOne vi_X7_thatOne cl_7_276 (n := 1) (by decide +kernel) rfl rfl rfl (Nat.le_of_ble_eq_true rfl) (by omega) (dk_X7_wishedDay 103 _ rfl) (c_X7_thatOne _ _ ) (fun x21 m22 => ?_)
      show JF _ _ _ _ _ _ [.int x21, .ref 3] _ _
      refine F_iald (axM_0_3) (dk_X7_wishedDay 106 _ rfl) (fun x24 => ?_)
      refine F_goto (tgt := 116) (by decide) (dk_X7_wishedDay 107 _ rfl) ?_
      exact F_ret rfl (dk_X7_wishedDay 116 _ rfl)
  refine F_case (fun c2_5 => ?_) (fun c2_5 => ?_)
  · rw [c2_5]; refine F_tin (off := 111) (tgt := 117) (by decide) (by decide) rfl (by decide) (dk_X7_wishedDay 6 _ rfl) ?_
    refine F_aload_n (i := 0) (a := 0) rfl rfl (dk_X7_wishedDay 117 _ rfl) ?_
    refine F_gR (b := 6) fxM_7_8_0 fl_7_35 (dk_X7_wishedDay 118 _ rfl) ?_
    refine F_iconst (v := 4) (by decide) (dk_X7_wishedDay 121 _ rfl) ?_
    refine F_iload_n (i := 1) (a := 1) rfl rfl (dk_X7_wishedDay 122 _ rfl) ?_
    refine F_imul (dk_X7_wishedDay 123 _ rfl) ?_
    refine F_aload_n (i := 0) (a := 0) rfl rfl (dk_X7_wishedDay 124 _ rfl) ?_
    refine F_gI (n := 2) fxM_7_2_0 rfl fl_7_16 (dk_X7_wishedDay 125 _ rfl) ?_
    refine F_iconst (v := 4) (by decide) (dk_X7_wishedDay 128 _ rfl) ?_
    refine F_irem (dk_X7_wishedDay 129 _ rfl) (fun x25 => ?_)
    refine F_iadd (dk_X7_wishedDay 130 _ rfl) ?_
    refine F_iald (axM_0_6) (dk_X7_wishedDay 131 _ rfl) (fun x26 => ?_)
    exact F_ret rfl (dk_X7_wishedDay 132 _ rfl)
  refine F_tout (tgt := 133) (by have q0 := fI_ne c2_0; rw [show (1 : Int32).toInt = 1 from by decide] at q0; have q1 := fI_ne c2_1; rw [show (2 : Int32).toInt = 2 from by decide] at q1; have q2 := fI_ne c2_2; rw [show (3 : Int32).toInt = 3 from by decide] at q2; have q3 := fI_ne c2_3; rw [show (4 : Int32).toInt = 4 from by decide] at q3; have q4 := fI_ne c2_4; rw [show (5 : Int32).toInt = 5 from by decide] at q4; have q5 := fI_ne c2_5; rw [show (6 : Int32).toInt = 6 from by decide] at q5; omega) (by decide) (dk_X7_wishedDay 6 _ rfl) ?_
  refine F_aload_n (i := 0) (a := 0) rfl rfl (dk_X7_wishedDay 133 _ rfl) ?_
  refine F_gR (b := 4) fxM_7_6_0 fl_7_29 (dk_X7_wishedDay 134 _ rfl) ?_
  refine F_iload_n (i := 1) (a := 1) rfl rfl (dk_X7_wishedDay 137 _ rfl) ?_
  refine F_iald (axM_0_4) (dk_X7_wishedDay 138 _ rfl) (fun x27 => ?_)
  exact F_ret rfl (dk_X7_wishedDay 139 _ rfl)
def f_X7_sells (m : mM) (p1 : Int32) : fR Int32 :=
  bnd (f_X7_wishedDay m p1) fun (x1 : Int32) (m2 : mM) => bnd (f_X7_lastOf m2 3 99) fun (x4 : Int32) (m5 : mM) => (if x1 = x4 then (rmI (x1 + 1) 12).bind fun x7 => some (x7, m5) else some (x1, m5))
theorem c_X7_sells (m : mM) (p1 : Int32)  : cF false uI m_X7_sells 6 [.ref 0, .int p1] m (f_X7_sells m p1) := by
  refine cF_of ok_X7_sells (fun _ _ => Nat.le_of_ble_eq_true rfl) ?_
  unfold f_X7_sells
  show JF _ _ _ _ _ [(0, .ref 0), (1, .int p1)] _ _ _
  refine F_aload_n (i := 0) (a := 0) rfl rfl (dk_X7_sells 0 _ rfl) ?_
  refine F_iload_n (i := 1) (a := 1) rfl rfl (dk_X7_sells 1 _ rfl) ?_
  refine F_callV (ι' := uI) (ci := 7) (b := 0) (As := [.int p1]) (d' := 5) (rfl) ok_X7_wishedDay vi_X7_wishedDay cl_7_285 (n := 1) (by decide +kernel) rfl rfl rfl (Nat.le_of_ble_eq_true rfl) (by omega) (dk_X7_sells 2 _ rfl) (c_X7_wishedDay _ _ ) (fun x1 m2 => ?_)
  show JF _ _ _ _ _ _ [.int x1] _ _
  refine F_istore_n (lv' := [(2, .int x1), (0, .ref 0), (1, .int p1)]) (i := 2) (a := 2) rfl (by decide) rfl (dk_X7_sells 5 _ rfl) ?_
  refine F_iload_n (i := 2) (a := 2) rfl rfl (dk_X7_sells 6 _ rfl) ?_
  refine F_aload_n (i := 0) (a := 0) rfl rfl (dk_X7_sells 7 _ rfl) ?_
  refine F_iconst (v := 3) (by decide) (dk_X7_sells 8 _ rfl) ?_
  refine F_bipush (v := 99) (by decide) (dk_X7_sells 9 _ rfl) ?_
  refine F_callV (ι' := uI) (ci := 7) (b := 0) (As := [.int 3, .int 99]) (d' := 3) (rfl) ok_X7_lastOf vi_X7_lastOf cl_7_262 (n := 2) (by decide +kernel) rfl rfl rfl (Nat.le_of_ble_eq_true rfl) (by omega) (dk_X7_sells 11 _ rfl) (c_X7_lastOf _ _ _ ) (fun x4 m5 => ?_)
  show JF _ _ _ _ _ _ [.int x4, .int x1] _ _
  refine F_icmp_ne (tgt := 26) (by decide) (dk_X7_sells 14 _ rfl) ?_ ?_
  · refine F_iload_n (i := 2) (a := 2) rfl rfl (dk_X7_sells 26 _ rfl) ?_
    exact F_ret rfl (dk_X7_sells 27 _ rfl)
  · refine F_iload_n (i := 2) (a := 2) rfl rfl (dk_X7_sells 17 _ rfl) ?_
    refine F_iconst (v := 1) (by decide) (dk_X7_sells 18 _ rfl) ?_
    refine F_iadd (dk_X7_sells 19 _ rfl) ?_
    refine F_bipush (v := 12) (by decide) (dk_X7_sells 20 _ rfl) ?_
    refine F_irem (dk_X7_sells 22 _ rfl) (fun x7 => ?_)
    refine F_goto (tgt := 27) (by decide) (dk_X7_sells 23 _ rfl) ?_
    exact F_ret rfl (dk_X7_sells 27 _ rfl)
def f_X7_putOff (m : mM) (p1 : Int32) : fR Int32 :=
  bnd (f_X7_sells m p1) fun (x1 : Int32) (m2 : mM) => (gA (mA m2 4) p1).bind fun x4 => (rmI (((x1 - x4) + 12)) 12).bind fun x5 => some (x5, m2)
theorem c_X7_putOff (m : mM) (p1 : Int32)  : cF false uI m_X7_putOff 7 [.ref 0, .int p1] m (f_X7_putOff m p1) := by
  refine cF_of ok_X7_putOff (fun _ _ => Nat.le_of_ble_eq_true rfl) ?_
  unfold f_X7_putOff
  show JF _ _ _ _ _ [(0, .ref 0), (1, .int p1)] _ _ _
  refine F_aload_n (i := 0) (a := 0) rfl rfl (dk_X7_putOff 0 _ rfl) ?_
  refine F_iload_n (i := 1) (a := 1) rfl rfl (dk_X7_putOff 1 _ rfl) ?_
  refine F_callV (ι' := uI) (ci := 7) (b := 0) (As := [.int p1]) (d' := 6) (rfl) ok_X7_sells vi_X7_sells cl_7_288 (n := 1) (by decide +kernel) rfl rfl rfl (Nat.le_of_ble_eq_true rfl) (by omega) (dk_X7_putOff 2 _ rfl) (c_X7_sells _ _ ) (fun x1 m2 => ?_)
  show JF _ _ _ _ _ _ [.int x1] _ _
  refine F_aload_n (i := 0) (a := 0) rfl rfl (dk_X7_putOff 5 _ rfl) ?_
  refine F_gR (b := 4) fxM_7_6_0 fl_7_29 (dk_X7_putOff 6 _ rfl) ?_
  refine F_iload_n (i := 1) (a := 1) rfl rfl (dk_X7_putOff 9 _ rfl) ?_
  refine F_iald (axM_0_4) (dk_X7_putOff 10 _ rfl) (fun x4 => ?_)
  refine F_isub (dk_X7_putOff 11 _ rfl) ?_
  refine F_bipush (v := 12) (by decide) (dk_X7_putOff 12 _ rfl) ?_
  refine F_iadd (dk_X7_putOff 14 _ rfl) ?_
  refine F_bipush (v := 12) (by decide) (dk_X7_putOff 15 _ rfl) ?_
  refine F_irem (dk_X7_putOff 17 _ rfl) (fun x5 => ?_)
  exact F_ret rfl (dk_X7_putOff 18 _ rfl)
def f_X7_of (m : mM) (p1 : Int32) (p2 : Int32) : fR Int32 :=
  bnd (f_X7_isPerson m p1) fun (x1 : Int32) (m2 : mM) => (if x1 = 0 then some ((-10000001), m2) else (if p2 = 0 then (gA (mA m2 1) p1).bind fun x5 => some (x5, m2) else if p2 = 1 then (gA (mA m2 2) p1).bind fun x6 => some (x6, m2) else if p2 = 2 then (gA (mA m2 3) p1).bind fun x7 => some (x7, m2) else if p2 = 3 then (gA (mA m2 4) p1).bind fun x8 => some (x8, m2) else if p2 = 4 then (gA (mA m2 7) p1).bind fun x9 => (if x9 = 0 then some (0, m2) else some (1, m2)) else if p2 = 5 then bnd (f_X7_sells m2 p1) fun (x10 : Int32) (m11 : mM) => some (x10, m11) else if p2 = 6 then bnd (f_X7_putOff m2 p1) fun (x13 : Int32) (m14 : mM) => some (x13, m14) else if p2 = 7 then bnd (f_X7_sells m2 p1) fun (x16 : Int32) (m17 : mM) => bnd (f_X7_takesOf m17 p1 x16) fun (x19 : Int32) (m20 : mM) => some (x19, m20) else if p2 = 8 then (gA (mA m2 5) p1).bind fun x22 => some (x22, m2) else some ((-10000001), m2)))
theorem c_X7_of (m : mM) (p1 : Int32) (p2 : Int32)  : cF false uI m_X7_of 8 [.ref 0, .int p1, .int p2] m (f_X7_of m p1 p2) := by
  refine cF_of ok_X7_of (fun _ _ => Nat.le_of_ble_eq_true rfl) ?_
  unfold f_X7_of
  show JF _ _ _ _ _ [(0, .ref 0), (1, .int p1), (2, .int p2)] _ _ _
  refine F_aload_n (i := 0) (a := 0) rfl rfl (dk_X7_of 0 _ rfl) ?_
  refine F_iload_n (i := 1) (a := 1) rfl rfl (dk_X7_of 1 _ rfl) ?_
  refine F_callV (ι' := uI) (ci := 7) (b := 0) (As := [.int p1]) (d' := 3) (rfl) ok_X7_isPerson vi_X7_isPerson cl_7_206 (n := 1) (by decide +kernel) rfl rfl rfl (Nat.le_of_ble_eq_true rfl) (by omega) (dk_X7_of 2 _ rfl) (c_X7_isPerson _ _ ) (fun x1 m2 => ?_)
  show JF _ _ _ _ _ _ [.int x1] _ _
  refine F_if_ne (tgt := 12) (by decide) (dk_X7_of 5 _ rfl) ?_ ?_
  · refine F_iload_n (i := 2) (a := 2) rfl rfl (dk_X7_of 12 _ rfl) ?_
    refine F_case (fun c4_0 => ?_) (fun c4_0 => ?_)
    · rw [c4_0]; refine F_tin (off := 51) (tgt := 64) (by decide) (by decide) rfl (by decide) (dk_X7_of 13 _ rfl) ?_
      refine F_aload_n (i := 0) (a := 0) rfl rfl (dk_X7_of 64 _ rfl) ?_
      refine F_gR (b := 1) fxM_7_3_0 fl_7_19 (dk_X7_of 65 _ rfl) ?_
      refine F_iload_n (i := 1) (a := 1) rfl rfl (dk_X7_of 68 _ rfl) ?_
      refine F_iald (axM_0_1) (dk_X7_of 69 _ rfl) (fun x5 => ?_)
      exact F_ret rfl (dk_X7_of 70 _ rfl)
    refine F_case (fun c4_1 => ?_) (fun c4_1 => ?_)
    · rw [c4_1]; refine F_tin (off := 58) (tgt := 71) (by decide) (by decide) rfl (by decide) (dk_X7_of 13 _ rfl) ?_
      refine F_aload_n (i := 0) (a := 0) rfl rfl (dk_X7_of 71 _ rfl) ?_
      refine F_gR (b := 2) fxM_7_4_0 fl_7_23 (dk_X7_of 72 _ rfl) ?_
      refine F_iload_n (i := 1) (a := 1) rfl rfl (dk_X7_of 75 _ rfl) ?_
      refine F_iald (axM_0_2) (dk_X7_of 76 _ rfl) (fun x6 => ?_)
      exact F_ret rfl (dk_X7_of 77 _ rfl)
    refine F_case (fun c4_2 => ?_) (fun c4_2 => ?_)
    · rw [c4_2]; refine F_tin (off := 65) (tgt := 78) (by decide) (by decide) rfl (by decide) (dk_X7_of 13 _ rfl) ?_
      refine F_aload_n (i := 0) (a := 0) rfl rfl (dk_X7_of 78 _ rfl) ?_
      refine F_gR (b := 3) fxM_7_5_0 fl_7_26 (dk_X7_of 79 _ rfl) ?_
      refine F_iload_n (i := 1) (a := 1) rfl rfl (dk_X7_of 82 _ rfl) ?_
      refine F_iald (axM_0_3) (dk_X7_of 83 _ rfl) (fun x7 => ?_)
      exact F_ret rfl (dk_X7_of 84 _ rfl)
    refine F_case (fun c4_3 => ?_) (fun c4_3 => ?_)
    · rw [c4_3]; refine F_tin (off := 72) (tgt := 85) (by decide) (by decide) rfl (by decide) (dk_X7_of 13 _ rfl) ?_
      refine F_aload_n (i := 0) (a := 0) rfl rfl (dk_X7_of 85 _ rfl) ?_
      refine F_gR (b := 4) fxM_7_6_0 fl_7_29 (dk_X7_of 86 _ rfl) ?_
      refine F_iload_n (i := 1) (a := 1) rfl rfl (dk_X7_of 89 _ rfl) ?_
      refine F_iald (axM_0_4) (dk_X7_of 90 _ rfl) (fun x8 => ?_)
      exact F_ret rfl (dk_X7_of 91 _ rfl)
    refine F_case (fun c4_4 => ?_) (fun c4_4 => ?_)
    · rw [c4_4]; refine F_tin (off := 79) (tgt := 92) (by decide) (by decide) rfl (by decide) (dk_X7_of 13 _ rfl) ?_
      refine F_aload_n (i := 0) (a := 0) rfl rfl (dk_X7_of 92 _ rfl) ?_
      refine F_gR (b := 7) fxM_7_9_0 fl_7_38 (dk_X7_of 93 _ rfl) ?_
      refine F_iload_n (i := 1) (a := 1) rfl rfl (dk_X7_of 96 _ rfl) ?_
      refine F_zald (axM_3_7) (dk_X7_of 97 _ rfl) (fun x9 => ?_)
      refine F_if_eq (tgt := 105) (by decide) (dk_X7_of 98 _ rfl) ?_ ?_
      · refine F_iconst (v := 0) (by decide) (dk_X7_of 105 _ rfl) ?_
        exact F_ret rfl (dk_X7_of 106 _ rfl)
      · refine F_iconst (v := 1) (by decide) (dk_X7_of 101 _ rfl) ?_
        refine F_goto (tgt := 106) (by decide) (dk_X7_of 102 _ rfl) ?_
        exact F_ret rfl (dk_X7_of 106 _ rfl)
    refine F_case (fun c4_5 => ?_) (fun c4_5 => ?_)
    · rw [c4_5]; refine F_tin (off := 94) (tgt := 107) (by decide) (by decide) rfl (by decide) (dk_X7_of 13 _ rfl) ?_
      refine F_aload_n (i := 0) (a := 0) rfl rfl (dk_X7_of 107 _ rfl) ?_
      refine F_iload_n (i := 1) (a := 1) rfl rfl (dk_X7_of 108 _ rfl) ?_
      refine F_callV (ι' := uI) (ci := 7) (b := 0) (As := [.int p1]) (d' := 6) (rfl) ok_X7_sells vi_X7_sells cl_7_288 (n := 1) (by decide +kernel) rfl rfl rfl (Nat.le_of_ble_eq_true rfl) (by omega) (dk_X7_of 109 _ rfl) (c_X7_sells _ _ ) (fun x10 m11 => ?_)
      show JF _ _ _ _ _ _ [.int x10] _ _
      exact F_ret rfl (dk_X7_of 112 _ rfl)
    refine F_case (fun c4_6 => ?_) (fun c4_6 => ?_)
    · rw [c4_6]; refine F_tin (off := 100) (tgt := 113) (by decide) (by decide) rfl (by decide) (dk_X7_of 13 _ rfl) ?_
      refine F_aload_n (i := 0) (a := 0) rfl rfl (dk_X7_of 113 _ rfl) ?_
      refine F_iload_n (i := 1) (a := 1) rfl rfl (dk_X7_of 114 _ rfl) ?_
      refine F_callV (ι' := uI) (ci := 7) (b := 0) (As := [.int p1]) (d' := 7) (rfl) ok_X7_putOff vi_X7_putOff cl_7_292 (n := 1) (by decide +kernel) rfl rfl rfl (Nat.le_of_ble_eq_true rfl) (by omega) (dk_X7_of 115 _ rfl) (c_X7_putOff _ _ ) (fun x13 m14 => ?_)
      show JF _ _ _ _ _ _ [.int x13] _ _
      exact F_ret rfl (dk_X7_of 118 _ rfl)
    refine F_case (fun c4_7 => ?_) (fun c4_7 => ?_)
    · rw [c4_7]; refine F_tin (off := 106) (tgt := 119) (by decide) (by decide) rfl (by decide) (dk_X7_of 13 _ rfl) ?_
      refine F_aload_n (i := 0) (a := 0) rfl rfl (dk_X7_of 119 _ rfl) ?_
      refine F_iload_n (i := 1) (a := 1) rfl rfl (dk_X7_of 120 _ rfl) ?_
      refine F_aload_n (i := 0) (a := 0) rfl rfl (dk_X7_of 121 _ rfl) ?_
      refine F_iload_n (i := 1) (a := 1) rfl rfl (dk_X7_of 122 _ rfl) ?_
      refine F_callV (ι' := uI) (ci := 7) (b := 0) (As := [.int p1]) (d' := 6) (rfl) ok_X7_sells vi_X7_sells cl_7_288 (n := 1) (by decide +kernel) rfl rfl rfl (Nat.le_of_ble_eq_true rfl) (by omega) (dk_X7_of 123 _ rfl) (c_X7_sells _ _ ) (fun x16 m17 => ?_)
      show JF _ _ _ _ _ _ [.int x16, .int p1, .ref 0] _ _
      refine F_callV (ι' := uI) (ci := 7) (b := 0) (As := [.int p1, .int x16]) (d' := 5) (rfl) ok_X7_takesOf vi_X7_takesOf cl_7_295 (n := 2) (by decide +kernel) rfl rfl rfl (Nat.le_of_ble_eq_true rfl) (by omega) (dk_X7_of 126 _ rfl) (c_X7_takesOf _ _ _ ) (fun x19 m20 => ?_)
      show JF _ _ _ _ _ _ [.int x19] _ _
      exact F_ret rfl (dk_X7_of 129 _ rfl)
    refine F_case (fun c4_8 => ?_) (fun c4_8 => ?_)
    · rw [c4_8]; refine F_tin (off := 117) (tgt := 130) (by decide) (by decide) rfl (by decide) (dk_X7_of 13 _ rfl) ?_
      refine F_aload_n (i := 0) (a := 0) rfl rfl (dk_X7_of 130 _ rfl) ?_
      refine F_gR (b := 5) fxM_7_7_0 fl_7_32 (dk_X7_of 131 _ rfl) ?_
      refine F_iload_n (i := 1) (a := 1) rfl rfl (dk_X7_of 134 _ rfl) ?_
      refine F_iald (axM_0_5) (dk_X7_of 135 _ rfl) (fun x22 => ?_)
      exact F_ret rfl (dk_X7_of 136 _ rfl)
    refine F_tout (tgt := 137) (by have q0 := fI_ne c4_0; rw [show (0 : Int32).toInt = 0 from by decide] at q0; have q1 := fI_ne c4_1; rw [show (1 : Int32).toInt = 1 from by decide] at q1; have q2 := fI_ne c4_2; rw [show (2 : Int32).toInt = 2 from by decide] at q2; have q3 := fI_ne c4_3; rw [show (3 : Int32).toInt = 3 from by decide] at q3; have q4 := fI_ne c4_4; rw [show (4 : Int32).toInt = 4 from by decide] at q4; have q5 := fI_ne c4_5; rw [show (5 : Int32).toInt = 5 from by decide] at q5; have q6 := fI_ne c4_6; rw [show (6 : Int32).toInt = 6 from by decide] at q6; have q7 := fI_ne c4_7; rw [show (7 : Int32).toInt = 7 from by decide] at q7; have q8 := fI_ne c4_8; rw [show (8 : Int32).toInt = 8 from by decide] at q8; omega) (by decide) (dk_X7_of 13 _ rfl) ?_
    refine F_ldcw (v := (-10000001)) ct_7_291 (dk_X7_of 137 _ rfl) ?_
    exact F_ret rfl (dk_X7_of 140 _ rfl)
  · refine F_ldcw (v := (-10000001)) ct_7_291 (dk_X7_of 8 _ rfl) ?_
    exact F_ret rfl (dk_X7_of 11 _ rfl)
def fb_X7_allPurses_4 (K4 : mM → Int32 → Int32 → fR Int32) (m : mM) (y1 : Int32) (y2 : Int32) : fR Int32 :=
  (if (mI m 0) ≤ y2 then some (y1, m) else (gA (mA m 5) y2).bind fun x1 => nmI (y1 + x1) fun v2 => (K4 m v2 (y2 + 1)))
def f_X7_allPurses_4  : Nat → mM → Int32 → Int32 → fR Int32
  | 0, _, _, _ => none
  | F + 1, m, y1, y2 => fb_X7_allPurses_4  (f_X7_allPurses_4  F) m y1 y2
theorem jb_X7_allPurses_4 (K4 : mM → Int32 → Int32 → fR Int32) (hK4 : ∀ (m : mM) (y1 : Int32) (y2 : Int32) , JF false uI m_X7_allPurses 2 4 [(0, .ref 0), (1, .int y1), (2, .int y2)] [] m (K4 m y1 y2)) (m : mM) (y1 : Int32) (y2 : Int32)  : JF false uI m_X7_allPurses 2 4 [(0, .ref 0), (1, .int y1), (2, .int y2)] [] m (fb_X7_allPurses_4 K4 m y1 y2) := by
  unfold fb_X7_allPurses_4
  refine F_iload_n (i := 2) (a := 2) rfl rfl (dk_X7_allPurses 4 _ rfl) ?_
  refine F_aload_n (i := 0) (a := 0) rfl rfl (dk_X7_allPurses 5 _ rfl) ?_
  refine F_gI (n := 0) fxM_7_0_0 rfl fl_7_7 (dk_X7_allPurses 6 _ rfl) ?_
  refine F_icmp_ge (tgt := 27) (by decide) (dk_X7_allPurses 9 _ rfl) ?_ ?_
  · refine F_iload_n (i := 1) (a := 1) rfl rfl (dk_X7_allPurses 27 _ rfl) ?_
    exact F_ret rfl (dk_X7_allPurses 28 _ rfl)
  · refine F_iload_n (i := 1) (a := 1) rfl rfl (dk_X7_allPurses 12 _ rfl) ?_
    refine F_aload_n (i := 0) (a := 0) rfl rfl (dk_X7_allPurses 13 _ rfl) ?_
    refine F_gR (b := 5) fxM_7_7_0 fl_7_32 (dk_X7_allPurses 14 _ rfl) ?_
    refine F_iload_n (i := 2) (a := 2) rfl rfl (dk_X7_allPurses 17 _ rfl) ?_
    refine F_iald (axM_0_5) (dk_X7_allPurses 18 _ rfl) (fun x1 => ?_)
    refine F_iadd (dk_X7_allPurses 19 _ rfl) ?_
    refine F_nm (fun v2 => ?_)
    refine F_istore_n (lv' := [(1, .int v2), (0, .ref 0), (2, .int y2)]) (i := 1) (a := 1) rfl (by decide) rfl (dk_X7_allPurses 20 _ rfl) ?_
    refine F_iinc (i := 2) (n := 1) (v := (y2 + 1)) (lv' := [(2, .int (y2 + 1)), (1, .int v2), (0, .ref 0)]) rfl (by first | rfl | decide) (by decide) rfl (dk_X7_allPurses 21 _ rfl) ?_
    refine F_goto (tgt := 4) (by decide) (dk_X7_allPurses 24 _ rfl) ?_
    exact F_loc (List.forall_mem_cons.mpr ⟨(.tail _ (.tail _ (.head _))), (List.forall_mem_cons.mpr ⟨(.tail _ (.head _)), (List.forall_mem_cons.mpr ⟨(.head _), (fun _ z => absurd z List.not_mem_nil)⟩)⟩)⟩) (hK4 _ _ _ )
theorem j_X7_allPurses_4   : ∀ (F : Nat) (m : mM) (y1 : Int32) (y2 : Int32) , JF false uI m_X7_allPurses 2 4 [(0, .ref 0), (1, .int y1), (2, .int y2)] [] m (f_X7_allPurses_4  F m y1 y2) := by
  intro F
  induction F with
  | zero => intro m y1 y2 ; exact F_no
  | succ F ih => intro m y1 y2 ; exact jb_X7_allPurses_4  (f_X7_allPurses_4  F)  ih m y1 y2 
def f_X7_allPurses (m : mM)  : fR Int32 :=
  (f_X7_allPurses_4  1000 m 0 0)
theorem c_X7_allPurses (m : mM)   : cF false uI m_X7_allPurses 2 [.ref 0] m (f_X7_allPurses m ) := by
  refine cF_of ok_X7_allPurses (fun _ _ => Nat.le_of_ble_eq_true rfl) ?_
  unfold f_X7_allPurses
  show JF _ _ _ _ _ [(0, .ref 0)] _ _ _
  refine F_iconst (v := 0) (by decide) (dk_X7_allPurses 0 _ rfl) ?_
  refine F_istore_n (lv' := [(1, .int 0), (0, .ref 0)]) (i := 1) (a := 1) rfl (by decide) rfl (dk_X7_allPurses 1 _ rfl) ?_
  refine F_iconst (v := 0) (by decide) (dk_X7_allPurses 2 _ rfl) ?_
  refine F_istore_n (lv' := [(2, .int 0), (1, .int 0), (0, .ref 0)]) (i := 2) (a := 2) rfl (by decide) rfl (dk_X7_allPurses 3 _ rfl) ?_
  exact F_loc (List.forall_mem_cons.mpr ⟨(.tail _ (.tail _ (.head _))), (List.forall_mem_cons.mpr ⟨(.tail _ (.head _)), (List.forall_mem_cons.mpr ⟨(.head _), (fun _ z => absurd z List.not_mem_nil)⟩)⟩)⟩) (j_X7_allPurses_4   1000 _ _ _ )
def fb_X7_bornOn_4 (K4 : mM → Int32 → Int32 → Int32 → fR Int32) (m : mM) (y1 : Int32) (y2 : Int32) (y3 : Int32) : fR Int32 :=
  (if (mI m 0) ≤ y3 then some (y2, m) else (gA (mA m 7) y3).bind fun x1 => (if x1 = 0 then nmI (y2 ||| 0) fun v2 => (K4 m y1 v2 (y3 + 1)) else (gA (mA m 3) y3).bind fun x3 => (if x3 = y1 then nmI ((y2 ||| (1 <<< (y3 &&& 31)))) fun v5 => (K4 m y1 v5 (y3 + 1)) else nmI (y2 ||| 0) fun v4 => (K4 m y1 v4 (y3 + 1)))))
def f_X7_bornOn_4  : Nat → mM → Int32 → Int32 → Int32 → fR Int32
  | 0, _, _, _, _ => none
  | F + 1, m, y1, y2, y3 => fb_X7_bornOn_4  (f_X7_bornOn_4  F) m y1 y2 y3
theorem jb_X7_bornOn_4 (K4 : mM → Int32 → Int32 → Int32 → fR Int32) (hK4 : ∀ (m : mM) (y1 : Int32) (y2 : Int32) (y3 : Int32) , JF false uI m_X7_bornOn 2 4 [(0, .ref 0), (1, .int y1), (2, .int y2), (3, .int y3)] [] m (K4 m y1 y2 y3)) (m : mM) (y1 : Int32) (y2 : Int32) (y3 : Int32)  : JF false uI m_X7_bornOn 2 4 [(0, .ref 0), (1, .int y1), (2, .int y2), (3, .int y3)] [] m (fb_X7_bornOn_4 K4 m y1 y2 y3) := by
  unfold fb_X7_bornOn_4
  refine F_iload_n (i := 3) (a := 3) rfl rfl (dk_X7_bornOn 4 _ rfl) ?_
  refine F_aload_n (i := 0) (a := 0) rfl rfl (dk_X7_bornOn 5 _ rfl) ?_
  refine F_gI (n := 0) fxM_7_0_0 rfl fl_7_7 (dk_X7_bornOn 6 _ rfl) ?_
  refine F_icmp_ge (tgt := 47) (by decide) (dk_X7_bornOn 9 _ rfl) ?_ ?_
  · refine F_iload_n (i := 2) (a := 2) rfl rfl (dk_X7_bornOn 47 _ rfl) ?_
    exact F_ret rfl (dk_X7_bornOn 48 _ rfl)
  · refine F_iload_n (i := 2) (a := 2) rfl rfl (dk_X7_bornOn 12 _ rfl) ?_
    refine F_aload_n (i := 0) (a := 0) rfl rfl (dk_X7_bornOn 13 _ rfl) ?_
    refine F_gR (b := 7) fxM_7_9_0 fl_7_38 (dk_X7_bornOn 14 _ rfl) ?_
    refine F_iload_n (i := 3) (a := 3) rfl rfl (dk_X7_bornOn 17 _ rfl) ?_
    refine F_zald (axM_3_7) (dk_X7_bornOn 18 _ rfl) (fun x1 => ?_)
    refine F_if_eq (tgt := 38) (by decide) (dk_X7_bornOn 19 _ rfl) ?_ ?_
    · refine F_iconst (v := 0) (by decide) (dk_X7_bornOn 38 _ rfl) ?_
      refine F_ior (dk_X7_bornOn 39 _ rfl) ?_
      refine F_nm (fun v2 => ?_)
      refine F_istore_n (lv' := [(2, .int v2), (0, .ref 0), (1, .int y1), (3, .int y3)]) (i := 2) (a := 2) rfl (by decide) rfl (dk_X7_bornOn 40 _ rfl) ?_
      refine F_iinc (i := 3) (n := 1) (v := (y3 + 1)) (lv' := [(3, .int (y3 + 1)), (2, .int v2), (0, .ref 0), (1, .int y1)]) rfl (by first | rfl | decide) (by decide) rfl (dk_X7_bornOn 41 _ rfl) ?_
      refine F_goto (tgt := 4) (by decide) (dk_X7_bornOn 44 _ rfl) ?_
      exact F_loc (List.forall_mem_cons.mpr ⟨(.tail _ (.tail _ (.head _))), (List.forall_mem_cons.mpr ⟨(.tail _ (.tail _ (.tail _ (.head _)))), (List.forall_mem_cons.mpr ⟨(.tail _ (.head _)), (List.forall_mem_cons.mpr ⟨(.head _), (fun _ z => absurd z List.not_mem_nil)⟩)⟩)⟩)⟩) (hK4 _ _ _ _ )
    · refine F_aload_n (i := 0) (a := 0) rfl rfl (dk_X7_bornOn 22 _ rfl) ?_
      refine F_gR (b := 3) fxM_7_5_0 fl_7_26 (dk_X7_bornOn 23 _ rfl) ?_
      refine F_iload_n (i := 3) (a := 3) rfl rfl (dk_X7_bornOn 26 _ rfl) ?_
      refine F_iald (axM_0_3) (dk_X7_bornOn 27 _ rfl) (fun x3 => ?_)
      refine F_iload_n (i := 1) (a := 1) rfl rfl (dk_X7_bornOn 28 _ rfl) ?_
      refine F_icmp_ne (tgt := 38) (by decide) (dk_X7_bornOn 29 _ rfl) ?_ ?_
      · refine F_iconst (v := 0) (by decide) (dk_X7_bornOn 38 _ rfl) ?_
        refine F_ior (dk_X7_bornOn 39 _ rfl) ?_
        refine F_nm (fun v4 => ?_)
        refine F_istore_n (lv' := [(2, .int v4), (0, .ref 0), (1, .int y1), (3, .int y3)]) (i := 2) (a := 2) rfl (by decide) rfl (dk_X7_bornOn 40 _ rfl) ?_
        refine F_iinc (i := 3) (n := 1) (v := (y3 + 1)) (lv' := [(3, .int (y3 + 1)), (2, .int v4), (0, .ref 0), (1, .int y1)]) rfl (by first | rfl | decide) (by decide) rfl (dk_X7_bornOn 41 _ rfl) ?_
        refine F_goto (tgt := 4) (by decide) (dk_X7_bornOn 44 _ rfl) ?_
        exact F_loc (List.forall_mem_cons.mpr ⟨(.tail _ (.tail _ (.head _))), (List.forall_mem_cons.mpr ⟨(.tail _ (.tail _ (.tail _ (.head _)))), (List.forall_mem_cons.mpr ⟨(.tail _ (.head _)), (List.forall_mem_cons.mpr ⟨(.head _), (fun _ z => absurd z List.not_mem_nil)⟩)⟩)⟩)⟩) (hK4 _ _ _ _ )
      · refine F_iconst (v := 1) (by decide) (dk_X7_bornOn 32 _ rfl) ?_
        refine F_iload_n (i := 3) (a := 3) rfl rfl (dk_X7_bornOn 33 _ rfl) ?_
        refine F_ishl (dk_X7_bornOn 34 _ rfl) ?_
        refine F_goto (tgt := 39) (by decide) (dk_X7_bornOn 35 _ rfl) ?_
        refine F_ior (dk_X7_bornOn 39 _ rfl) ?_
        refine F_nm (fun v5 => ?_)
        refine F_istore_n (lv' := [(2, .int v5), (0, .ref 0), (1, .int y1), (3, .int y3)]) (i := 2) (a := 2) rfl (by decide) rfl (dk_X7_bornOn 40 _ rfl) ?_
        refine F_iinc (i := 3) (n := 1) (v := (y3 + 1)) (lv' := [(3, .int (y3 + 1)), (2, .int v5), (0, .ref 0), (1, .int y1)]) rfl (by first | rfl | decide) (by decide) rfl (dk_X7_bornOn 41 _ rfl) ?_
        refine F_goto (tgt := 4) (by decide) (dk_X7_bornOn 44 _ rfl) ?_
        exact F_loc (List.forall_mem_cons.mpr ⟨(.tail _ (.tail _ (.head _))), (List.forall_mem_cons.mpr ⟨(.tail _ (.tail _ (.tail _ (.head _)))), (List.forall_mem_cons.mpr ⟨(.tail _ (.head _)), (List.forall_mem_cons.mpr ⟨(.head _), (fun _ z => absurd z List.not_mem_nil)⟩)⟩)⟩)⟩) (hK4 _ _ _ _ )
theorem j_X7_bornOn_4   : ∀ (F : Nat) (m : mM) (y1 : Int32) (y2 : Int32) (y3 : Int32) , JF false uI m_X7_bornOn 2 4 [(0, .ref 0), (1, .int y1), (2, .int y2), (3, .int y3)] [] m (f_X7_bornOn_4  F m y1 y2 y3) := by
  intro F
  induction F with
  | zero => intro m y1 y2 y3 ; exact F_no
  | succ F ih => intro m y1 y2 y3 ; exact jb_X7_bornOn_4  (f_X7_bornOn_4  F)  ih m y1 y2 y3 
def f_X7_bornOn (m : mM) (p1 : Int32) : fR Int32 :=
  (f_X7_bornOn_4  1000 m p1 0 0)
theorem c_X7_bornOn (m : mM) (p1 : Int32)  : cF false uI m_X7_bornOn 2 [.ref 0, .int p1] m (f_X7_bornOn m p1) := by
  refine cF_of ok_X7_bornOn (fun _ _ => Nat.le_of_ble_eq_true rfl) ?_
  unfold f_X7_bornOn
  show JF _ _ _ _ _ [(0, .ref 0), (1, .int p1)] _ _ _
  refine F_iconst (v := 0) (by decide) (dk_X7_bornOn 0 _ rfl) ?_
  refine F_istore_n (lv' := [(2, .int 0), (0, .ref 0), (1, .int p1)]) (i := 2) (a := 2) rfl (by decide) rfl (dk_X7_bornOn 1 _ rfl) ?_
  refine F_iconst (v := 0) (by decide) (dk_X7_bornOn 2 _ rfl) ?_
  refine F_istore_n (lv' := [(3, .int 0), (2, .int 0), (0, .ref 0), (1, .int p1)]) (i := 3) (a := 3) rfl (by decide) rfl (dk_X7_bornOn 3 _ rfl) ?_
  exact F_loc (List.forall_mem_cons.mpr ⟨(.tail _ (.tail _ (.head _))), (List.forall_mem_cons.mpr ⟨(.tail _ (.tail _ (.tail _ (.head _)))), (List.forall_mem_cons.mpr ⟨(.tail _ (.head _)), (List.forall_mem_cons.mpr ⟨(.head _), (fun _ z => absurd z List.not_mem_nil)⟩)⟩)⟩)⟩) (j_X7_bornOn_4   1000 _ _ _ _ )
def fb_X7_sellOn_4 (K4 : mM → Int32 → Int32 → Int32 → fR Int32) (m : mM) (y1 : Int32) (y2 : Int32) (y3 : Int32) : fR Int32 :=
  (if (mI m 0) ≤ y3 then some (y2, m) else (gA (mA m 7) y3).bind fun x1 => (if x1 = 0 then nmI (y2 ||| 0) fun v2 => (K4 m y1 v2 (y3 + 1)) else bnd (f_X7_sells m y3) fun (x3 : Int32) (m4 : mM) => (if x3 = y1 then nmI ((y2 ||| (1 <<< (y3 &&& 31)))) fun v7 => (K4 m4 y1 v7 (y3 + 1)) else nmI (y2 ||| 0) fun v6 => (K4 m4 y1 v6 (y3 + 1)))))
def f_X7_sellOn_4  : Nat → mM → Int32 → Int32 → Int32 → fR Int32
  | 0, _, _, _, _ => none
  | F + 1, m, y1, y2, y3 => fb_X7_sellOn_4  (f_X7_sellOn_4  F) m y1 y2 y3
theorem jb_X7_sellOn_4 (K4 : mM → Int32 → Int32 → Int32 → fR Int32) (hK4 : ∀ (m : mM) (y1 : Int32) (y2 : Int32) (y3 : Int32) , JF false uI m_X7_sellOn 7 4 [(0, .ref 0), (1, .int y1), (2, .int y2), (3, .int y3)] [] m (K4 m y1 y2 y3)) (m : mM) (y1 : Int32) (y2 : Int32) (y3 : Int32)  : JF false uI m_X7_sellOn 7 4 [(0, .ref 0), (1, .int y1), (2, .int y2), (3, .int y3)] [] m (fb_X7_sellOn_4 K4 m y1 y2 y3) := by
  unfold fb_X7_sellOn_4
  refine F_iload_n (i := 3) (a := 3) rfl rfl (dk_X7_sellOn 4 _ rfl) ?_
  refine F_aload_n (i := 0) (a := 0) rfl rfl (dk_X7_sellOn 5 _ rfl) ?_
  refine F_gI (n := 0) fxM_7_0_0 rfl fl_7_7 (dk_X7_sellOn 6 _ rfl) ?_
  refine F_icmp_ge (tgt := 46) (by decide) (dk_X7_sellOn 9 _ rfl) ?_ ?_
  · refine F_iload_n (i := 2) (a := 2) rfl rfl (dk_X7_sellOn 46 _ rfl) ?_
    exact F_ret rfl (dk_X7_sellOn 47 _ rfl)
  · refine F_iload_n (i := 2) (a := 2) rfl rfl (dk_X7_sellOn 12 _ rfl) ?_
    refine F_aload_n (i := 0) (a := 0) rfl rfl (dk_X7_sellOn 13 _ rfl) ?_
    refine F_gR (b := 7) fxM_7_9_0 fl_7_38 (dk_X7_sellOn 14 _ rfl) ?_
    refine F_iload_n (i := 3) (a := 3) rfl rfl (dk_X7_sellOn 17 _ rfl) ?_
    refine F_zald (axM_3_7) (dk_X7_sellOn 18 _ rfl) (fun x1 => ?_)
    refine F_if_eq (tgt := 37) (by decide) (dk_X7_sellOn 19 _ rfl) ?_ ?_
    · refine F_iconst (v := 0) (by decide) (dk_X7_sellOn 37 _ rfl) ?_
      refine F_ior (dk_X7_sellOn 38 _ rfl) ?_
      refine F_nm (fun v2 => ?_)
      refine F_istore_n (lv' := [(2, .int v2), (0, .ref 0), (1, .int y1), (3, .int y3)]) (i := 2) (a := 2) rfl (by decide) rfl (dk_X7_sellOn 39 _ rfl) ?_
      refine F_iinc (i := 3) (n := 1) (v := (y3 + 1)) (lv' := [(3, .int (y3 + 1)), (2, .int v2), (0, .ref 0), (1, .int y1)]) rfl (by first | rfl | decide) (by decide) rfl (dk_X7_sellOn 40 _ rfl) ?_
      refine F_goto (tgt := 4) (by decide) (dk_X7_sellOn 43 _ rfl) ?_
      exact F_loc (List.forall_mem_cons.mpr ⟨(.tail _ (.tail _ (.head _))), (List.forall_mem_cons.mpr ⟨(.tail _ (.tail _ (.tail _ (.head _)))), (List.forall_mem_cons.mpr ⟨(.tail _ (.head _)), (List.forall_mem_cons.mpr ⟨(.head _), (fun _ z => absurd z List.not_mem_nil)⟩)⟩)⟩)⟩) (hK4 _ _ _ _ )
    · refine F_aload_n (i := 0) (a := 0) rfl rfl (dk_X7_sellOn 22 _ rfl) ?_
      refine F_iload_n (i := 3) (a := 3) rfl rfl (dk_X7_sellOn 23 _ rfl) ?_
      refine F_callV (ι' := uI) (ci := 7) (b := 0) (As := [.int y3]) (d' := 6) (rfl) ok_X7_sells vi_X7_sells cl_7_288 (n := 1) (by decide +kernel) rfl rfl rfl (Nat.le_of_ble_eq_true rfl) (by omega) (dk_X7_sellOn 24 _ rfl) (c_X7_sells _ _ ) (fun x3 m4 => ?_)
      show JF _ _ _ _ _ _ [.int x3, .int y2] _ _
      refine F_iload_n (i := 1) (a := 1) rfl rfl (dk_X7_sellOn 27 _ rfl) ?_
      refine F_icmp_ne (tgt := 37) (by decide) (dk_X7_sellOn 28 _ rfl) ?_ ?_
      · refine F_iconst (v := 0) (by decide) (dk_X7_sellOn 37 _ rfl) ?_
        refine F_ior (dk_X7_sellOn 38 _ rfl) ?_
        refine F_nm (fun v6 => ?_)
        refine F_istore_n (lv' := [(2, .int v6), (0, .ref 0), (1, .int y1), (3, .int y3)]) (i := 2) (a := 2) rfl (by decide) rfl (dk_X7_sellOn 39 _ rfl) ?_
        refine F_iinc (i := 3) (n := 1) (v := (y3 + 1)) (lv' := [(3, .int (y3 + 1)), (2, .int v6), (0, .ref 0), (1, .int y1)]) rfl (by first | rfl | decide) (by decide) rfl (dk_X7_sellOn 40 _ rfl) ?_
        refine F_goto (tgt := 4) (by decide) (dk_X7_sellOn 43 _ rfl) ?_
        exact F_loc (List.forall_mem_cons.mpr ⟨(.tail _ (.tail _ (.head _))), (List.forall_mem_cons.mpr ⟨(.tail _ (.tail _ (.tail _ (.head _)))), (List.forall_mem_cons.mpr ⟨(.tail _ (.head _)), (List.forall_mem_cons.mpr ⟨(.head _), (fun _ z => absurd z List.not_mem_nil)⟩)⟩)⟩)⟩) (hK4 _ _ _ _ )
      · refine F_iconst (v := 1) (by decide) (dk_X7_sellOn 31 _ rfl) ?_
        refine F_iload_n (i := 3) (a := 3) rfl rfl (dk_X7_sellOn 32 _ rfl) ?_
        refine F_ishl (dk_X7_sellOn 33 _ rfl) ?_
        refine F_goto (tgt := 38) (by decide) (dk_X7_sellOn 34 _ rfl) ?_
        refine F_ior (dk_X7_sellOn 38 _ rfl) ?_
        refine F_nm (fun v7 => ?_)
        refine F_istore_n (lv' := [(2, .int v7), (0, .ref 0), (1, .int y1), (3, .int y3)]) (i := 2) (a := 2) rfl (by decide) rfl (dk_X7_sellOn 39 _ rfl) ?_
        refine F_iinc (i := 3) (n := 1) (v := (y3 + 1)) (lv' := [(3, .int (y3 + 1)), (2, .int v7), (0, .ref 0), (1, .int y1)]) rfl (by first | rfl | decide) (by decide) rfl (dk_X7_sellOn 40 _ rfl) ?_
        refine F_goto (tgt := 4) (by decide) (dk_X7_sellOn 43 _ rfl) ?_
        exact F_loc (List.forall_mem_cons.mpr ⟨(.tail _ (.tail _ (.head _))), (List.forall_mem_cons.mpr ⟨(.tail _ (.tail _ (.tail _ (.head _)))), (List.forall_mem_cons.mpr ⟨(.tail _ (.head _)), (List.forall_mem_cons.mpr ⟨(.head _), (fun _ z => absurd z List.not_mem_nil)⟩)⟩)⟩)⟩) (hK4 _ _ _ _ )
theorem j_X7_sellOn_4   : ∀ (F : Nat) (m : mM) (y1 : Int32) (y2 : Int32) (y3 : Int32) , JF false uI m_X7_sellOn 7 4 [(0, .ref 0), (1, .int y1), (2, .int y2), (3, .int y3)] [] m (f_X7_sellOn_4  F m y1 y2 y3) := by
  intro F
  induction F with
  | zero => intro m y1 y2 y3 ; exact F_no
  | succ F ih => intro m y1 y2 y3 ; exact jb_X7_sellOn_4  (f_X7_sellOn_4  F)  ih m y1 y2 y3 
def f_X7_sellOn (m : mM) (p1 : Int32) : fR Int32 :=
  (f_X7_sellOn_4  1000 m p1 0 0)
theorem c_X7_sellOn (m : mM) (p1 : Int32)  : cF false uI m_X7_sellOn 7 [.ref 0, .int p1] m (f_X7_sellOn m p1) := by
  refine cF_of ok_X7_sellOn (fun _ _ => Nat.le_of_ble_eq_true rfl) ?_
  unfold f_X7_sellOn
  show JF _ _ _ _ _ [(0, .ref 0), (1, .int p1)] _ _ _
  refine F_iconst (v := 0) (by decide) (dk_X7_sellOn 0 _ rfl) ?_
  refine F_istore_n (lv' := [(2, .int 0), (0, .ref 0), (1, .int p1)]) (i := 2) (a := 2) rfl (by decide) rfl (dk_X7_sellOn 1 _ rfl) ?_
  refine F_iconst (v := 0) (by decide) (dk_X7_sellOn 2 _ rfl) ?_
  refine F_istore_n (lv' := [(3, .int 0), (2, .int 0), (0, .ref 0), (1, .int p1)]) (i := 3) (a := 3) rfl (by decide) rfl (dk_X7_sellOn 3 _ rfl) ?_
  exact F_loc (List.forall_mem_cons.mpr ⟨(.tail _ (.tail _ (.head _))), (List.forall_mem_cons.mpr ⟨(.tail _ (.tail _ (.tail _ (.head _)))), (List.forall_mem_cons.mpr ⟨(.tail _ (.head _)), (List.forall_mem_cons.mpr ⟨(.head _), (fun _ z => absurd z List.not_mem_nil)⟩)⟩)⟩)⟩) (j_X7_sellOn_4   1000 _ _ _ _ )
def f_X7_told (m : mM) (p1 : Int32) : fR Int32 :=
  bnd (f_X7_in m p1 10 21) fun (x1 : Int32) (m2 : mM) => (if x1 = 0 then bnd (f_X7_in m2 p1 30 41) fun (x4 : Int32) (m5 : mM) => (if x4 = 0 then (if p1 = 0 then bnd (f_X7_dueNow m5 ) fun (x8 : Int32) (m9 : mM) => some (x8, m9) else if p1 = 1 then bnd (f_X7_lastOf m5 2 1) fun (x11 : Int32) (m12 : mM) => some (x11, m12) else if p1 = 2 then bnd (f_X7_lastOf m5 3 99) fun (x14 : Int32) (m15 : mM) => some (x14, m15) else if p1 = 3 then some ((mI m5 1), m5) else if p1 = 4 then some ((mI m5 2), m5) else if p1 = 5 then bnd (f_X7_allPurses m5 ) fun (x17 : Int32) (m18 : mM) => some (x17, m18) else some ((-10000001), m5)) else bnd (f_X7_sellOn m5 (p1 - 30)) fun (x20 : Int32) (m21 : mM) => some (x20, m21)) else bnd (f_X7_bornOn m2 (p1 - 10)) fun (x23 : Int32) (m24 : mM) => some (x23, m24))
theorem c_X7_told (m : mM) (p1 : Int32)  : cF false uI m_X7_told 8 [.ref 0, .int p1] m (f_X7_told m p1) := by
  refine cF_of ok_X7_told (fun _ _ => Nat.le_of_ble_eq_true rfl) ?_
  unfold f_X7_told
  show JF _ _ _ _ _ [(0, .ref 0), (1, .int p1)] _ _ _
  refine F_aload_n (i := 0) (a := 0) rfl rfl (dk_X7_told 0 _ rfl) ?_
  refine F_iload_n (i := 1) (a := 1) rfl rfl (dk_X7_told 1 _ rfl) ?_
  refine F_bipush (v := 10) (by decide) (dk_X7_told 2 _ rfl) ?_
  refine F_bipush (v := 21) (by decide) (dk_X7_told 4 _ rfl) ?_
  refine F_callV (ι' := uI) (ci := 7) (b := 0) (As := [.int p1, .int 10, .int 21]) (d' := 2) (rfl) ok_X7_in vi_X7_in cl_7_194 (n := 3) (by decide +kernel) rfl rfl rfl (Nat.le_of_ble_eq_true rfl) (by omega) (dk_X7_told 6 _ rfl) (c_X7_in _ _ _ _ ) (fun x1 m2 => ?_)
  show JF _ _ _ _ _ _ [.int x1] _ _
  refine F_if_eq (tgt := 21) (by decide) (dk_X7_told 9 _ rfl) ?_ ?_
  · refine F_aload_n (i := 0) (a := 0) rfl rfl (dk_X7_told 21 _ rfl) ?_
    refine F_iload_n (i := 1) (a := 1) rfl rfl (dk_X7_told 22 _ rfl) ?_
    refine F_bipush (v := 30) (by decide) (dk_X7_told 23 _ rfl) ?_
    refine F_bipush (v := 41) (by decide) (dk_X7_told 25 _ rfl) ?_
    refine F_callV (ι' := uI) (ci := 7) (b := 0) (As := [.int p1, .int 30, .int 41]) (d' := 2) (rfl) ok_X7_in vi_X7_in cl_7_194 (n := 3) (by decide +kernel) rfl rfl rfl (Nat.le_of_ble_eq_true rfl) (by omega) (dk_X7_told 27 _ rfl) (c_X7_in _ _ _ _ ) (fun x4 m5 => ?_)
    show JF _ _ _ _ _ _ [.int x4] _ _
    refine F_if_eq (tgt := 42) (by decide) (dk_X7_told 30 _ rfl) ?_ ?_
    · refine F_iload_n (i := 1) (a := 1) rfl rfl (dk_X7_told 42 _ rfl) ?_
      refine F_case (fun c7_0 => ?_) (fun c7_0 => ?_)
      · rw [c7_0]; refine F_tin (off := 37) (tgt := 80) (by decide) (by decide) rfl (by decide) (dk_X7_told 43 _ rfl) ?_
        refine F_aload_n (i := 0) (a := 0) rfl rfl (dk_X7_told 80 _ rfl) ?_
        refine F_callV (ι' := uI) (ci := 7) (b := 0) (As := []) (d' := 4) (rfl) ok_X7_dueNow vi_X7_dueNow cl_7_304 (n := 0) (by decide +kernel) rfl rfl rfl (Nat.le_of_ble_eq_true rfl) (by omega) (dk_X7_told 81 _ rfl) (c_X7_dueNow _  ) (fun x8 m9 => ?_)
        show JF _ _ _ _ _ _ [.int x8] _ _
        exact F_ret rfl (dk_X7_told 84 _ rfl)
      refine F_case (fun c7_1 => ?_) (fun c7_1 => ?_)
      · rw [c7_1]; refine F_tin (off := 42) (tgt := 85) (by decide) (by decide) rfl (by decide) (dk_X7_told 43 _ rfl) ?_
        refine F_aload_n (i := 0) (a := 0) rfl rfl (dk_X7_told 85 _ rfl) ?_
        refine F_iconst (v := 2) (by decide) (dk_X7_told 86 _ rfl) ?_
        refine F_iconst (v := 1) (by decide) (dk_X7_told 87 _ rfl) ?_
        refine F_callV (ι' := uI) (ci := 7) (b := 0) (As := [.int 2, .int 1]) (d' := 3) (rfl) ok_X7_lastOf vi_X7_lastOf cl_7_262 (n := 2) (by decide +kernel) rfl rfl rfl (Nat.le_of_ble_eq_true rfl) (by omega) (dk_X7_told 88 _ rfl) (c_X7_lastOf _ _ _ ) (fun x11 m12 => ?_)
        show JF _ _ _ _ _ _ [.int x11] _ _
        exact F_ret rfl (dk_X7_told 91 _ rfl)
      refine F_case (fun c7_2 => ?_) (fun c7_2 => ?_)
      · rw [c7_2]; refine F_tin (off := 49) (tgt := 92) (by decide) (by decide) rfl (by decide) (dk_X7_told 43 _ rfl) ?_
        refine F_aload_n (i := 0) (a := 0) rfl rfl (dk_X7_told 92 _ rfl) ?_
        refine F_iconst (v := 3) (by decide) (dk_X7_told 93 _ rfl) ?_
        refine F_bipush (v := 99) (by decide) (dk_X7_told 94 _ rfl) ?_
        refine F_callV (ι' := uI) (ci := 7) (b := 0) (As := [.int 3, .int 99]) (d' := 3) (rfl) ok_X7_lastOf vi_X7_lastOf cl_7_262 (n := 2) (by decide +kernel) rfl rfl rfl (Nat.le_of_ble_eq_true rfl) (by omega) (dk_X7_told 96 _ rfl) (c_X7_lastOf _ _ _ ) (fun x14 m15 => ?_)
        show JF _ _ _ _ _ _ [.int x14] _ _
        exact F_ret rfl (dk_X7_told 99 _ rfl)
      refine F_case (fun c7_3 => ?_) (fun c7_3 => ?_)
      · rw [c7_3]; refine F_tin (off := 57) (tgt := 100) (by decide) (by decide) rfl (by decide) (dk_X7_told 43 _ rfl) ?_
        refine F_aload_n (i := 0) (a := 0) rfl rfl (dk_X7_told 100 _ rfl) ?_
        refine F_gI (n := 1) fxM_7_1_0 rfl fl_7_13 (dk_X7_told 101 _ rfl) ?_
        exact F_ret rfl (dk_X7_told 104 _ rfl)
      refine F_case (fun c7_4 => ?_) (fun c7_4 => ?_)
      · rw [c7_4]; refine F_tin (off := 62) (tgt := 105) (by decide) (by decide) rfl (by decide) (dk_X7_told 43 _ rfl) ?_
        refine F_aload_n (i := 0) (a := 0) rfl rfl (dk_X7_told 105 _ rfl) ?_
        refine F_gI (n := 2) fxM_7_2_0 rfl fl_7_16 (dk_X7_told 106 _ rfl) ?_
        exact F_ret rfl (dk_X7_told 109 _ rfl)
      refine F_case (fun c7_5 => ?_) (fun c7_5 => ?_)
      · rw [c7_5]; refine F_tin (off := 67) (tgt := 110) (by decide) (by decide) rfl (by decide) (dk_X7_told 43 _ rfl) ?_
        refine F_aload_n (i := 0) (a := 0) rfl rfl (dk_X7_told 110 _ rfl) ?_
        refine F_callV (ι' := uI) (ci := 7) (b := 0) (As := []) (d' := 2) (rfl) ok_X7_allPurses vi_X7_allPurses cl_7_307 (n := 0) (by decide +kernel) rfl rfl rfl (Nat.le_of_ble_eq_true rfl) (by omega) (dk_X7_told 111 _ rfl) (c_X7_allPurses _  ) (fun x17 m18 => ?_)
        show JF _ _ _ _ _ _ [.int x17] _ _
        exact F_ret rfl (dk_X7_told 114 _ rfl)
      refine F_tout (tgt := 115) (by have q0 := fI_ne c7_0; rw [show (0 : Int32).toInt = 0 from by decide] at q0; have q1 := fI_ne c7_1; rw [show (1 : Int32).toInt = 1 from by decide] at q1; have q2 := fI_ne c7_2; rw [show (2 : Int32).toInt = 2 from by decide] at q2; have q3 := fI_ne c7_3; rw [show (3 : Int32).toInt = 3 from by decide] at q3; have q4 := fI_ne c7_4; rw [show (4 : Int32).toInt = 4 from by decide] at q4; have q5 := fI_ne c7_5; rw [show (5 : Int32).toInt = 5 from by decide] at q5; omega) (by decide) (dk_X7_told 43 _ rfl) ?_
      refine F_ldcw (v := (-10000001)) ct_7_291 (dk_X7_told 115 _ rfl) ?_
      exact F_ret rfl (dk_X7_told 118 _ rfl)
    · refine F_aload_n (i := 0) (a := 0) rfl rfl (dk_X7_told 33 _ rfl) ?_
      refine F_iload_n (i := 1) (a := 1) rfl rfl (dk_X7_told 34 _ rfl) ?_
      refine F_bipush (v := 30) (by decide) (dk_X7_told 35 _ rfl) ?_
      refine F_isub (dk_X7_told 37 _ rfl) ?_
      refine F_callV (ι' := uI) (ci := 7) (b := 0) (As := [.int (p1 - 30)]) (d' := 7) (rfl) ok_X7_sellOn vi_X7_sellOn cl_7_301 (n := 1) (by decide +kernel) rfl rfl rfl (Nat.le_of_ble_eq_true rfl) (by omega) (dk_X7_told 38 _ rfl) (c_X7_sellOn _ _ ) (fun x20 m21 => ?_)
      show JF _ _ _ _ _ _ [.int x20] _ _
      exact F_ret rfl (dk_X7_told 41 _ rfl)
  · refine F_aload_n (i := 0) (a := 0) rfl rfl (dk_X7_told 12 _ rfl) ?_
    refine F_iload_n (i := 1) (a := 1) rfl rfl (dk_X7_told 13 _ rfl) ?_
    refine F_bipush (v := 10) (by decide) (dk_X7_told 14 _ rfl) ?_
    refine F_isub (dk_X7_told 16 _ rfl) ?_
    refine F_callV (ι' := uI) (ci := 7) (b := 0) (As := [.int (p1 - 10)]) (d' := 2) (rfl) ok_X7_bornOn vi_X7_bornOn cl_7_298 (n := 1) (by decide +kernel) rfl rfl rfl (Nat.le_of_ble_eq_true rfl) (by omega) (dk_X7_told 17 _ rfl) (c_X7_bornOn _ _ ) (fun x23 m24 => ?_)
    show JF _ _ _ _ _ _ [.int x23] _ _
    exact F_ret rfl (dk_X7_told 20 _ rfl)
end
end
-- 21l.fun.lean.txt
section
section
set_option maxRecDepth 100000
def f_X7_goDay_222  (m : mM) (y2 : Int32) (y100 : Int32) (y101 : Int32) : fR Int32 :=
  nmM (wI m 2 (y101 + y100)) fun m5 => (rmI (((mI m5 1) + 1)) 12).bind fun x6 => nmM (wI m5 1 x6) fun m7 => some (y2, m7)
theorem j_X7_goDay_222   (m : mM) (y2 : Int32) (y100 : Int32) (y101 : Int32)  : JF false uI m_X7_goDay 8 222 [(0, .ref 0), (2, .int y2)] [.int y100, .int y101, .ref 0] m (f_X7_goDay_222  m y2 y100 y101) := by
  unfold f_X7_goDay_222
  refine F_iadd (dk_X7_goDay 222 _ rfl) ?_
  refine F_pI (n := 2) fxM_7_2_0 rfl fl_7_16 (fun q hq => by cases hq; rfl) trivial (dk_X7_goDay 223 _ rfl) (fun m5 => ?_)
  refine F_aload_n (i := 0) (a := 0) rfl rfl (dk_X7_goDay 226 _ rfl) ?_
  refine F_aload_n (i := 0) (a := 0) rfl rfl (dk_X7_goDay 227 _ rfl) ?_
  refine F_gI (n := 1) fxM_7_1_0 rfl fl_7_13 (dk_X7_goDay 228 _ rfl) ?_
  refine F_iconst (v := 1) (by decide) (dk_X7_goDay 231 _ rfl) ?_
  refine F_iadd (dk_X7_goDay 232 _ rfl) ?_
  refine F_bipush (v := 12) (by decide) (dk_X7_goDay 233 _ rfl) ?_
  refine F_irem (dk_X7_goDay 235 _ rfl) (fun x6 => ?_)
  refine F_pI (n := 1) fxM_7_1_0 rfl fl_7_13 (fun q hq => by cases hq; rfl) trivial (dk_X7_goDay 236 _ rfl) (fun m7 => ?_)
  refine F_iload_n (i := 2) (a := 2) rfl rfl (dk_X7_goDay 239 _ rfl) ?_
  exact F_ret rfl (dk_X7_goDay 240 _ rfl)
def fb_X7_goDay_129 (K129 : mM → Int32 → Int32 → Int32 → Int32 → fR Int32) (m : mM) (y1 : Int32) (y2 : Int32) (y3 : Int32) (y4 : Int32) : fR Int32 :=
  (if (mI m 0) ≤ y4 then (if (mI m 1) = 11 then (f_X7_goDay_222  m y2 1 (mI m 2)) else (f_X7_goDay_222  m y2 0 (mI m 2))) else (gA (mA m 7) y4).bind fun x8 => (if x8 = 0 then (K129 m y1 y2 y3 (y4 + 1)) else (gA (mA m 3) y4).bind fun x9 => (if x9 = (mI m 1) then (gA (mA m 5) y4).bind fun x10 => (dvI y2 y1).bind fun x11 => (sA 0 m 5 y4 ((x10 + (x11 + y3)))).bind fun m12 => (gA (mA m12 18) y4).bind fun x13 => (dvI y2 y1).bind fun x14 => (sA 0 m12 18 y4 ((x13 + (x14 + y3)))).bind fun m15 => (K129 m15 y1 y2 0 (y4 + 1)) else (K129 m y1 y2 y3 (y4 + 1)))))
def f_X7_goDay_129  : Nat → mM → Int32 → Int32 → Int32 → Int32 → fR Int32
  | 0, _, _, _, _, _ => none
  | F + 1, m, y1, y2, y3, y4 => fb_X7_goDay_129  (f_X7_goDay_129  F) m y1 y2 y3 y4
theorem jb_X7_goDay_129 (K129 : mM → Int32 → Int32 → Int32 → Int32 → fR Int32) (hK129 : ∀ (m : mM) (y1 : Int32) (y2 : Int32) (y3 : Int32) (y4 : Int32) , JF false uI m_X7_goDay 8 129 [(0, .ref 0), (1, .int y1), (2, .int y2), (3, .int y3), (4, .int y4)] [] m (K129 m y1 y2 y3 y4)) (m : mM) (y1 : Int32) (y2 : Int32) (y3 : Int32) (y4 : Int32)  : JF false uI m_X7_goDay 8 129 [(0, .ref 0), (1, .int y1), (2, .int y2), (3, .int y3), (4, .int y4)] [] m (fb_X7_goDay_129 K129 m y1 y2 y3 y4) := by
  unfold fb_X7_goDay_129
  refine F_iload (i := 4) rfl (dk_X7_goDay 129 _ rfl) ?_
  refine F_aload_n (i := 0) (a := 0) rfl rfl (dk_X7_goDay 131 _ rfl) ?_
  refine F_gI (n := 0) fxM_7_0_0 rfl fl_7_7 (dk_X7_goDay 132 _ rfl) ?_
  refine F_icmp_ge (tgt := 203) (by decide) (dk_X7_goDay 135 _ rfl) ?_ ?_
  · refine F_aload_n (i := 0) (a := 0) rfl rfl (dk_X7_goDay 203 _ rfl) ?_
    refine F_dup rfl (dk_X7_goDay 204 _ rfl) ?_
    refine F_gI (n := 2) fxM_7_2_0 rfl fl_7_16 (dk_X7_goDay 205 _ rfl) ?_
    refine F_aload_n (i := 0) (a := 0) rfl rfl (dk_X7_goDay 208 _ rfl) ?_
    refine F_gI (n := 1) fxM_7_1_0 rfl fl_7_13 (dk_X7_goDay 209 _ rfl) ?_
    refine F_bipush (v := 11) (by decide) (dk_X7_goDay 212 _ rfl) ?_
    refine F_icmp_ne (tgt := 221) (by decide) (dk_X7_goDay 214 _ rfl) ?_ ?_
    · refine F_iconst (v := 0) (by decide) (dk_X7_goDay 221 _ rfl) ?_
      exact F_loc (List.forall_mem_cons.mpr ⟨(.head _), (List.forall_mem_cons.mpr ⟨(.tail _ (.tail _ (.head _))), (fun _ z => absurd z List.not_mem_nil)⟩)⟩) (j_X7_goDay_222   _ _ _ _ )
    · refine F_iconst (v := 1) (by decide) (dk_X7_goDay 217 _ rfl) ?_
      refine F_goto (tgt := 222) (by decide) (dk_X7_goDay 218 _ rfl) ?_
      exact F_loc (List.forall_mem_cons.mpr ⟨(.head _), (List.forall_mem_cons.mpr ⟨(.tail _ (.tail _ (.head _))), (fun _ z => absurd z List.not_mem_nil)⟩)⟩) (j_X7_goDay_222   _ _ _ _ )
  · refine F_aload_n (i := 0) (a := 0) rfl rfl (dk_X7_goDay 138 _ rfl) ?_
    refine F_gR (b := 7) fxM_7_9_0 fl_7_38 (dk_X7_goDay 139 _ rfl) ?_
    refine F_iload (i := 4) rfl (dk_X7_goDay 142 _ rfl) ?_
    refine F_zald (axM_3_7) (dk_X7_goDay 144 _ rfl) (fun x8 => ?_)
    refine F_if_eq (tgt := 197) (by decide) (dk_X7_goDay 145 _ rfl) ?_ ?_
    · refine F_iinc (i := 4) (n := 1) (v := (y4 + 1)) (lv' := [(4, .int (y4 + 1)), (0, .ref 0), (1, .int y1), (2, .int y2), (3, .int y3)]) rfl (by first | rfl | decide) (by decide) rfl (dk_X7_goDay 197 _ rfl) ?_
      refine F_goto (tgt := 129) (by decide) (dk_X7_goDay 200 _ rfl) ?_
      exact F_loc (List.forall_mem_cons.mpr ⟨(.tail _ (.head _)), (List.forall_mem_cons.mpr ⟨(.tail _ (.tail _ (.head _))), (List.forall_mem_cons.mpr ⟨(.tail _ (.tail _ (.tail _ (.head _)))), (List.forall_mem_cons.mpr ⟨(.tail _ (.tail _ (.tail _ (.tail _ (.head _))))), (List.forall_mem_cons.mpr ⟨(.head _), (fun _ z => absurd z List.not_mem_nil)⟩)⟩)⟩)⟩)⟩) (hK129 _ _ _ _ _ )
    · refine F_aload_n (i := 0) (a := 0) rfl rfl (dk_X7_goDay 148 _ rfl) ?_
      refine F_gR (b := 3) fxM_7_5_0 fl_7_26 (dk_X7_goDay 149 _ rfl) ?_
      refine F_iload (i := 4) rfl (dk_X7_goDay 152 _ rfl) ?_
      refine F_iald (axM_0_3) (dk_X7_goDay 154 _ rfl) (fun x9 => ?_)
      refine F_aload_n (i := 0) (a := 0) rfl rfl (dk_X7_goDay 155 _ rfl) ?_
      refine F_gI (n := 1) fxM_7_1_0 rfl fl_7_13 (dk_X7_goDay 156 _ rfl) ?_
      refine F_icmp_eq (tgt := 165) (by decide) (dk_X7_goDay 159 _ rfl) ?_ ?_
      · refine F_aload_n (i := 0) (a := 0) rfl rfl (dk_X7_goDay 165 _ rfl) ?_
        refine F_gR (b := 5) fxM_7_7_0 fl_7_32 (dk_X7_goDay 166 _ rfl) ?_
        refine F_iload (i := 4) rfl (dk_X7_goDay 169 _ rfl) ?_
        refine F_dup2 rfl rfl (dk_X7_goDay 171 _ rfl) ?_
        refine F_iald (axM_0_5) (dk_X7_goDay 172 _ rfl) (fun x10 => ?_)
        refine F_iload_n (i := 2) (a := 2) rfl rfl (dk_X7_goDay 173 _ rfl) ?_
        refine F_iload_n (i := 1) (a := 1) rfl rfl (dk_X7_goDay 174 _ rfl) ?_
        refine F_idiv (dk_X7_goDay 175 _ rfl) (fun x11 => ?_)
        refine F_iload_n (i := 3) (a := 3) rfl rfl (dk_X7_goDay 176 _ rfl) ?_
        refine F_iadd (dk_X7_goDay 177 _ rfl) ?_
        refine F_iadd (dk_X7_goDay 178 _ rfl) ?_
        refine F_iast (axM_0_5) (dk_X7_goDay 179 _ rfl) (fun m12 => ?_)
        refine F_aload_n (i := 0) (a := 0) rfl rfl (dk_X7_goDay 180 _ rfl) ?_
        refine F_gR (b := 18) fxM_7_29_0 fl_7_99 (dk_X7_goDay 181 _ rfl) ?_
        refine F_iload (i := 4) rfl (dk_X7_goDay 184 _ rfl) ?_
        refine F_dup2 rfl rfl (dk_X7_goDay 186 _ rfl) ?_
        refine F_iald (axM_0_18) (dk_X7_goDay 187 _ rfl) (fun x13 => ?_)
        refine F_iload_n (i := 2) (a := 2) rfl rfl (dk_X7_goDay 188 _ rfl) ?_
        refine F_iload_n (i := 1) (a := 1) rfl rfl (dk_X7_goDay 189 _ rfl) ?_
        refine F_idiv (dk_X7_goDay 190 _ rfl) (fun x14 => ?_)
        refine F_iload_n (i := 3) (a := 3) rfl rfl (dk_X7_goDay 191 _ rfl) ?_
        refine F_iadd (dk_X7_goDay 192 _ rfl) ?_
        refine F_iadd (dk_X7_goDay 193 _ rfl) ?_
        refine F_iast (axM_0_18) (dk_X7_goDay 194 _ rfl) (fun m15 => ?_)
        refine F_iconst (v := 0) (by decide) (dk_X7_goDay 195 _ rfl) ?_
        refine F_istore_n (lv' := [(3, .int 0), (0, .ref 0), (1, .int y1), (2, .int y2), (4, .int y4)]) (i := 3) (a := 3) rfl (by decide) rfl (dk_X7_goDay 196 _ rfl) ?_
        refine F_iinc (i := 4) (n := 1) (v := (y4 + 1)) (lv' := [(4, .int (y4 + 1)), (3, .int 0), (0, .ref 0), (1, .int y1), (2, .int y2)]) rfl (by first | rfl | decide) (by decide) rfl (dk_X7_goDay 197 _ rfl) ?_
        refine F_goto (tgt := 129) (by decide) (dk_X7_goDay 200 _ rfl) ?_
        exact F_loc (List.forall_mem_cons.mpr ⟨(.tail _ (.tail _ (.head _))), (List.forall_mem_cons.mpr ⟨(.tail _ (.tail _ (.tail _ (.head _)))), (List.forall_mem_cons.mpr ⟨(.tail _ (.tail _ (.tail _ (.tail _ (.head _))))), (List.forall_mem_cons.mpr ⟨(.tail _ (.head _)), (List.forall_mem_cons.mpr ⟨(.head _), (fun _ z => absurd z List.not_mem_nil)⟩)⟩)⟩)⟩)⟩) (hK129 _ _ _ _ _ )
      · refine F_goto (tgt := 197) (by decide) (dk_X7_goDay 162 _ rfl) ?_
        refine F_iinc (i := 4) (n := 1) (v := (y4 + 1)) (lv' := [(4, .int (y4 + 1)), (0, .ref 0), (1, .int y1), (2, .int y2), (3, .int y3)]) rfl (by first | rfl | decide) (by decide) rfl (dk_X7_goDay 197 _ rfl) ?_
        refine F_goto (tgt := 129) (by decide) (dk_X7_goDay 200 _ rfl) ?_
        exact F_loc (List.forall_mem_cons.mpr ⟨(.tail _ (.head _)), (List.forall_mem_cons.mpr ⟨(.tail _ (.tail _ (.head _))), (List.forall_mem_cons.mpr ⟨(.tail _ (.tail _ (.tail _ (.head _)))), (List.forall_mem_cons.mpr ⟨(.tail _ (.tail _ (.tail _ (.tail _ (.head _))))), (List.forall_mem_cons.mpr ⟨(.head _), (fun _ z => absurd z List.not_mem_nil)⟩)⟩)⟩)⟩)⟩) (hK129 _ _ _ _ _ )
theorem j_X7_goDay_129   : ∀ (F : Nat) (m : mM) (y1 : Int32) (y2 : Int32) (y3 : Int32) (y4 : Int32) , JF false uI m_X7_goDay 8 129 [(0, .ref 0), (1, .int y1), (2, .int y2), (3, .int y3), (4, .int y4)] [] m (f_X7_goDay_129  F m y1 y2 y3 y4) := by
  intro F
  induction F with
  | zero => intro m y1 y2 y3 y4 ; exact F_no
  | succ F ih => intro m y1 y2 y3 y4 ; exact jb_X7_goDay_129  (f_X7_goDay_129  F)  ih m y1 y2 y3 y4 
def f_X7_goDay_74 (K13 : mM → Int32 → Int32 → Int32 → fR Int32) (m : mM) (y1 : Int32) (y2 : Int32) (y3 : Int32) (y4 : Int32) (y100 : Int32) : fR Int32 :=
  (gA (mA m 5) y3).bind fun x27 => bnd (f_X7_lastOf m 2 1) fun (x28 : Int32) (m29 : mM) => bnd (f_X7_putOff m29 y3) fun (x31 : Int32) (m32 : mM) => (sA 0 m32 5 y3 ((x27 + ((y4 - (x28 * x31)) - y100)))).bind fun m34 => nmI (y2 + y100) fun v35 => (K13 m34 y1 v35 (y3 + 1))
theorem j_X7_goDay_74 (K13 : mM → Int32 → Int32 → Int32 → fR Int32) (hK13 : ∀ (m : mM) (y1 : Int32) (y2 : Int32) (y3 : Int32) , JF false uI m_X7_goDay 8 13 [(0, .ref 0), (1, .int y1), (2, .int y2), (3, .int y3)] [] m (K13 m y1 y2 y3)) (m : mM) (y1 : Int32) (y2 : Int32) (y3 : Int32) (y4 : Int32) (y100 : Int32)  : JF false uI m_X7_goDay 8 74 [(0, .ref 0), (1, .int y1), (2, .int y2), (3, .int y3), (4, .int y4)] [.int y100] m (f_X7_goDay_74 K13 m y1 y2 y3 y4 y100) := by
  unfold f_X7_goDay_74
  refine F_istore (lv' := [(5, .int y100), (0, .ref 0), (1, .int y1), (2, .int y2), (3, .int y3), (4, .int y4)]) (i := 5) (by decide) rfl (dk_X7_goDay 74 _ rfl) ?_
  refine F_aload_n (i := 0) (a := 0) rfl rfl (dk_X7_goDay 76 _ rfl) ?_
  refine F_gR (b := 5) fxM_7_7_0 fl_7_32 (dk_X7_goDay 77 _ rfl) ?_
  refine F_iload_n (i := 3) (a := 3) rfl rfl (dk_X7_goDay 80 _ rfl) ?_
  refine F_dup2 rfl rfl (dk_X7_goDay 81 _ rfl) ?_
  refine F_iald (axM_0_5) (dk_X7_goDay 82 _ rfl) (fun x27 => ?_)
  refine F_iload (i := 4) rfl (dk_X7_goDay 83 _ rfl) ?_
  refine F_aload_n (i := 0) (a := 0) rfl rfl (dk_X7_goDay 85 _ rfl) ?_
  refine F_iconst (v := 2) (by decide) (dk_X7_goDay 86 _ rfl) ?_
  refine F_iconst (v := 1) (by decide) (dk_X7_goDay 87 _ rfl) ?_
  refine F_callV (ι' := uI) (ci := 7) (b := 0) (As := [.int 2, .int 1]) (d' := 3) (rfl) ok_X7_lastOf vi_X7_lastOf cl_7_262 (n := 2) (by decide +kernel) rfl rfl rfl (Nat.le_of_ble_eq_true rfl) (by omega) (dk_X7_goDay 88 _ rfl) (c_X7_lastOf _ _ _ ) (fun x28 m29 => ?_)
  show JF _ _ _ _ _ _ [.int x28, .int y4, .int x27, .int y3, .ref 5] _ _
  refine F_aload_n (i := 0) (a := 0) rfl rfl (dk_X7_goDay 91 _ rfl) ?_
  refine F_iload_n (i := 3) (a := 3) rfl rfl (dk_X7_goDay 92 _ rfl) ?_
  refine F_callV (ι' := uI) (ci := 7) (b := 0) (As := [.int y3]) (d' := 7) (rfl) ok_X7_putOff vi_X7_putOff cl_7_292 (n := 1) (by decide +kernel) rfl rfl rfl (Nat.le_of_ble_eq_true rfl) (by omega) (dk_X7_goDay 93 _ rfl) (c_X7_putOff _ _ ) (fun x31 m32 => ?_)
  show JF _ _ _ _ _ _ [.int x31, .int x28, .int y4, .int x27, .int y3, .ref 5] _ _
  refine F_imul (dk_X7_goDay 96 _ rfl) ?_
  refine F_isub (dk_X7_goDay 97 _ rfl) ?_
  refine F_iload (i := 5) rfl (dk_X7_goDay 98 _ rfl) ?_
  refine F_isub (dk_X7_goDay 100 _ rfl) ?_
  refine F_iadd (dk_X7_goDay 101 _ rfl) ?_
  refine F_iast (axM_0_5) (dk_X7_goDay 102 _ rfl) (fun m34 => ?_)
  refine F_iload_n (i := 2) (a := 2) rfl rfl (dk_X7_goDay 103 _ rfl) ?_
  refine F_iload (i := 5) rfl (dk_X7_goDay 104 _ rfl) ?_
  refine F_iadd (dk_X7_goDay 106 _ rfl) ?_
  refine F_nm (fun v35 => ?_)
  refine F_istore_n (lv' := [(2, .int v35), (5, .int y100), (0, .ref 0), (1, .int y1), (3, .int y3), (4, .int y4)]) (i := 2) (a := 2) rfl (by decide) rfl (dk_X7_goDay 107 _ rfl) ?_
  refine F_iinc (i := 3) (n := 1) (v := (y3 + 1)) (lv' := [(3, .int (y3 + 1)), (2, .int v35), (5, .int y100), (0, .ref 0), (1, .int y1), (4, .int y4)]) rfl (by first | rfl | decide) (by decide) rfl (dk_X7_goDay 108 _ rfl) ?_
  refine F_goto (tgt := 13) (by decide) (dk_X7_goDay 111 _ rfl) ?_
  exact F_loc (List.forall_mem_cons.mpr ⟨(.tail _ (.tail _ (.tail _ (.head _)))), (List.forall_mem_cons.mpr ⟨(.tail _ (.tail _ (.tail _ (.tail _ (.head _))))), (List.forall_mem_cons.mpr ⟨(.tail _ (.head _)), (List.forall_mem_cons.mpr ⟨(.head _), (fun _ z => absurd z List.not_mem_nil)⟩)⟩)⟩)⟩) (hK13 _ _ _ _ )
def fb_X7_goDay_13 (K13 : mM → Int32 → Int32 → Int32 → fR Int32) (m : mM) (y1 : Int32) (y2 : Int32) (y3 : Int32) : fR Int32 :=
  (if (mI m 0) ≤ y3 then (if y1 = 0 then (f_X7_goDay_129  1000 m y1 y2 0 0) else (rmI y2 y1).bind fun x4 => (f_X7_goDay_129  1000 m y1 y2 x4 0)) else (gA (mA m 7) y3).bind fun x16 => (if x16 = 0 then (K13 m y1 y2 (y3 + 1)) else bnd (f_X7_sells m y3) fun (x17 : Int32) (m18 : mM) => (if x17 = (mI m18 1) then bnd (f_X7_takesOf m18 y3 (mI m18 1)) fun (x20 : Int32) (m21 : mM) => (if y1 = 0 then (f_X7_goDay_74 K13 m21 y1 y2 y3 x20 0) else bnd (f_X7_dueNow m21 ) fun (x23 : Int32) (m24 : mM) => (dvI (x23 * x20) 100).bind fun x26 => (f_X7_goDay_74 K13 m24 y1 y2 y3 x20 x26)) else (K13 m18 y1 y2 (y3 + 1)))))
def f_X7_goDay_13  : Nat → mM → Int32 → Int32 → Int32 → fR Int32
  | 0, _, _, _, _ => none
  | F + 1, m, y1, y2, y3 => fb_X7_goDay_13  (f_X7_goDay_13  F) m y1 y2 y3
theorem jb_X7_goDay_13 (K13 : mM → Int32 → Int32 → Int32 → fR Int32) (hK13 : ∀ (m : mM) (y1 : Int32) (y2 : Int32) (y3 : Int32) , JF false uI m_X7_goDay 8 13 [(0, .ref 0), (1, .int y1), (2, .int y2), (3, .int y3)] [] m (K13 m y1 y2 y3)) (m : mM) (y1 : Int32) (y2 : Int32) (y3 : Int32)  : JF false uI m_X7_goDay 8 13 [(0, .ref 0), (1, .int y1), (2, .int y2), (3, .int y3)] [] m (fb_X7_goDay_13 K13 m y1 y2 y3) := by
  unfold fb_X7_goDay_13
  refine F_iload_n (i := 3) (a := 3) rfl rfl (dk_X7_goDay 13 _ rfl) ?_
  refine F_aload_n (i := 0) (a := 0) rfl rfl (dk_X7_goDay 14 _ rfl) ?_
  refine F_gI (n := 0) fxM_7_0_0 rfl fl_7_7 (dk_X7_goDay 15 _ rfl) ?_
  refine F_icmp_ge (tgt := 114) (by decide) (dk_X7_goDay 18 _ rfl) ?_ ?_
  · refine F_iload_n (i := 1) (a := 1) rfl rfl (dk_X7_goDay 114 _ rfl) ?_
    refine F_if_ne (tgt := 122) (by decide) (dk_X7_goDay 115 _ rfl) ?_ ?_
    · refine F_iload_n (i := 2) (a := 2) rfl rfl (dk_X7_goDay 122 _ rfl) ?_
      refine F_iload_n (i := 1) (a := 1) rfl rfl (dk_X7_goDay 123 _ rfl) ?_
      refine F_irem (dk_X7_goDay 124 _ rfl) (fun x4 => ?_)
      refine F_istore_n (lv' := [(3, .int x4), (0, .ref 0), (1, .int y1), (2, .int y2)]) (i := 3) (a := 3) rfl (by decide) rfl (dk_X7_goDay 125 _ rfl) ?_
      refine F_iconst (v := 0) (by decide) (dk_X7_goDay 126 _ rfl) ?_
      refine F_istore (lv' := [(4, .int 0), (3, .int x4), (0, .ref 0), (1, .int y1), (2, .int y2)]) (i := 4) (by decide) rfl (dk_X7_goDay 127 _ rfl) ?_
      exact F_loc (List.forall_mem_cons.mpr ⟨(.tail _ (.tail _ (.head _))), (List.forall_mem_cons.mpr ⟨(.tail _ (.tail _ (.tail _ (.head _)))), (List.forall_mem_cons.mpr ⟨(.tail _ (.tail _ (.tail _ (.tail _ (.head _))))), (List.forall_mem_cons.mpr ⟨(.tail _ (.head _)), (List.forall_mem_cons.mpr ⟨(.head _), (fun _ z => absurd z List.not_mem_nil)⟩)⟩)⟩)⟩)⟩) (j_X7_goDay_129   1000 _ _ _ _ _ )
    · refine F_iconst (v := 0) (by decide) (dk_X7_goDay 118 _ rfl) ?_
      refine F_goto (tgt := 125) (by decide) (dk_X7_goDay 119 _ rfl) ?_
      refine F_istore_n (lv' := [(3, .int 0), (0, .ref 0), (1, .int y1), (2, .int y2)]) (i := 3) (a := 3) rfl (by decide) rfl (dk_X7_goDay 125 _ rfl) ?_
      refine F_iconst (v := 0) (by decide) (dk_X7_goDay 126 _ rfl) ?_
      refine F_istore (lv' := [(4, .int 0), (3, .int 0), (0, .ref 0), (1, .int y1), (2, .int y2)]) (i := 4) (by decide) rfl (dk_X7_goDay 127 _ rfl) ?_
      exact F_loc (List.forall_mem_cons.mpr ⟨(.tail _ (.tail _ (.head _))), (List.forall_mem_cons.mpr ⟨(.tail _ (.tail _ (.tail _ (.head _)))), (List.forall_mem_cons.mpr ⟨(.tail _ (.tail _ (.tail _ (.tail _ (.head _))))), (List.forall_mem_cons.mpr ⟨(.tail _ (.head _)), (List.forall_mem_cons.mpr ⟨(.head _), (fun _ z => absurd z List.not_mem_nil)⟩)⟩)⟩)⟩)⟩) (j_X7_goDay_129   1000 _ _ _ _ _ )
  · refine F_aload_n (i := 0) (a := 0) rfl rfl (dk_X7_goDay 21 _ rfl) ?_
    refine F_gR (b := 7) fxM_7_9_0 fl_7_38 (dk_X7_goDay 22 _ rfl) ?_
    refine F_iload_n (i := 3) (a := 3) rfl rfl (dk_X7_goDay 25 _ rfl) ?_
    refine F_zald (axM_3_7) (dk_X7_goDay 26 _ rfl) (fun x16 => ?_)
    refine F_if_eq (tgt := 108) (by decide) (dk_X7_goDay 27 _ rfl) ?_ ?_
    · refine F_iinc (i := 3) (n := 1) (v := (y3 + 1)) (lv' := [(3, .int (y3 + 1)), (0, .ref 0), (1, .int y1), (2, .int y2)]) rfl (by first | rfl | decide) (by decide) rfl (dk_X7_goDay 108 _ rfl) ?_
      refine F_goto (tgt := 13) (by decide) (dk_X7_goDay 111 _ rfl) ?_
      exact F_loc (List.forall_mem_cons.mpr ⟨(.tail _ (.head _)), (List.forall_mem_cons.mpr ⟨(.tail _ (.tail _ (.head _))), (List.forall_mem_cons.mpr ⟨(.tail _ (.tail _ (.tail _ (.head _)))), (List.forall_mem_cons.mpr ⟨(.head _), (fun _ z => absurd z List.not_mem_nil)⟩)⟩)⟩)⟩) (hK13 _ _ _ _ )
    · refine F_aload_n (i := 0) (a := 0) rfl rfl (dk_X7_goDay 30 _ rfl) ?_
      refine F_iload_n (i := 3) (a := 3) rfl rfl (dk_X7_goDay 31 _ rfl) ?_
      refine F_callV (ι' := uI) (ci := 7) (b := 0) (As := [.int y3]) (d' := 6) (rfl) ok_X7_sells vi_X7_sells cl_7_288 (n := 1) (by decide +kernel) rfl rfl rfl (Nat.le_of_ble_eq_true rfl) (by omega) (dk_X7_goDay 32 _ rfl) (c_X7_sells _ _ ) (fun x17 m18 => ?_)
      show JF _ _ _ _ _ _ [.int x17] _ _
      refine F_aload_n (i := 0) (a := 0) rfl rfl (dk_X7_goDay 35 _ rfl) ?_
      refine F_gI (n := 1) fxM_7_1_0 rfl fl_7_13 (dk_X7_goDay 36 _ rfl) ?_
      refine F_icmp_eq (tgt := 45) (by decide) (dk_X7_goDay 39 _ rfl) ?_ ?_
      · refine F_aload_n (i := 0) (a := 0) rfl rfl (dk_X7_goDay 45 _ rfl) ?_
        refine F_iload_n (i := 3) (a := 3) rfl rfl (dk_X7_goDay 46 _ rfl) ?_
        refine F_aload_n (i := 0) (a := 0) rfl rfl (dk_X7_goDay 47 _ rfl) ?_
        refine F_gI (n := 1) fxM_7_1_0 rfl fl_7_13 (dk_X7_goDay 48 _ rfl) ?_
        refine F_callV (ι' := uI) (ci := 7) (b := 0) (As := [.int y3, .int (mI m18 1)]) (d' := 5) (rfl) ok_X7_takesOf vi_X7_takesOf cl_7_295 (n := 2) (by decide +kernel) rfl rfl rfl (Nat.le_of_ble_eq_true rfl) (by omega) (dk_X7_goDay 51 _ rfl) (c_X7_takesOf _ _ _ ) (fun x20 m21 => ?_)
        show JF _ _ _ _ _ _ [.int x20] _ _
        refine F_istore (lv' := [(4, .int x20), (0, .ref 0), (1, .int y1), (2, .int y2), (3, .int y3)]) (i := 4) (by decide) rfl (dk_X7_goDay 54 _ rfl) ?_
        refine F_iload_n (i := 1) (a := 1) rfl rfl (dk_X7_goDay 56 _ rfl) ?_
        refine F_if_ne (tgt := 64) (by decide) (dk_X7_goDay 57 _ rfl) ?_ ?_
        · refine F_aload_n (i := 0) (a := 0) rfl rfl (dk_X7_goDay 64 _ rfl) ?_
          refine F_callV (ι' := uI) (ci := 7) (b := 0) (As := []) (d' := 4) (rfl) ok_X7_dueNow vi_X7_dueNow cl_7_304 (n := 0) (by decide +kernel) rfl rfl rfl (Nat.le_of_ble_eq_true rfl) (by omega) (dk_X7_goDay 65 _ rfl) (c_X7_dueNow _  ) (fun x23 m24 => ?_)
          show JF _ _ _ _ _ _ [.int x23] _ _
          refine F_iload (i := 4) rfl (dk_X7_goDay 68 _ rfl) ?_
          refine F_imul (dk_X7_goDay 70 _ rfl) ?_
          refine F_bipush (v := 100) (by decide) (dk_X7_goDay 71 _ rfl) ?_
          refine F_idiv (dk_X7_goDay 73 _ rfl) (fun x26 => ?_)
          exact F_loc (List.forall_mem_cons.mpr ⟨(.tail _ (.head _)), (List.forall_mem_cons.mpr ⟨(.tail _ (.tail _ (.head _))), (List.forall_mem_cons.mpr ⟨(.tail _ (.tail _ (.tail _ (.head _)))), (List.forall_mem_cons.mpr ⟨(.tail _ (.tail _ (.tail _ (.tail _ (.head _))))), (List.forall_mem_cons.mpr ⟨(.head _), (fun _ z => absurd z List.not_mem_nil)⟩)⟩)⟩)⟩)⟩) (j_X7_goDay_74 K13 hK13 _ _ _ _ _ _ )
        · refine F_iconst (v := 0) (by decide) (dk_X7_goDay 60 _ rfl) ?_
          refine F_goto (tgt := 74) (by decide) (dk_X7_goDay 61 _ rfl) ?_
          exact F_loc (List.forall_mem_cons.mpr ⟨(.tail _ (.head _)), (List.forall_mem_cons.mpr ⟨(.tail _ (.tail _ (.head _))), (List.forall_mem_cons.mpr ⟨(.tail _ (.tail _ (.tail _ (.head _)))), (List.forall_mem_cons.mpr ⟨(.tail _ (.tail _ (.tail _ (.tail _ (.head _))))), (List.forall_mem_cons.mpr ⟨(.head _), (fun _ z => absurd z List.not_mem_nil)⟩)⟩)⟩)⟩)⟩) (j_X7_goDay_74 K13 hK13 _ _ _ _ _ _ )
      · refine F_goto (tgt := 108) (by decide) (dk_X7_goDay 42 _ rfl) ?_
        refine F_iinc (i := 3) (n := 1) (v := (y3 + 1)) (lv' := [(3, .int (y3 + 1)), (0, .ref 0), (1, .int y1), (2, .int y2)]) rfl (by first | rfl | decide) (by decide) rfl (dk_X7_goDay 108 _ rfl) ?_
        refine F_goto (tgt := 13) (by decide) (dk_X7_goDay 111 _ rfl) ?_
        exact F_loc (List.forall_mem_cons.mpr ⟨(.tail _ (.head _)), (List.forall_mem_cons.mpr ⟨(.tail _ (.tail _ (.head _))), (List.forall_mem_cons.mpr ⟨(.tail _ (.tail _ (.tail _ (.head _)))), (List.forall_mem_cons.mpr ⟨(.head _), (fun _ z => absurd z List.not_mem_nil)⟩)⟩)⟩)⟩) (hK13 _ _ _ _ )
theorem j_X7_goDay_13   : ∀ (F : Nat) (m : mM) (y1 : Int32) (y2 : Int32) (y3 : Int32) , JF false uI m_X7_goDay 8 13 [(0, .ref 0), (1, .int y1), (2, .int y2), (3, .int y3)] [] m (f_X7_goDay_13  F m y1 y2 y3) := by
  intro F
  induction F with
  | zero => intro m y1 y2 y3 ; exact F_no
  | succ F ih => intro m y1 y2 y3 ; exact jb_X7_goDay_13  (f_X7_goDay_13  F)  ih m y1 y2 y3 
def f_X7_goDay (m : mM)  : fR Int32 :=
  bnd (f_X7_manyBorn m (mI m 1)) fun (x1 : Int32) (m2 : mM) => (f_X7_goDay_13  1000 m2 x1 0 0)
theorem c_X7_goDay (m : mM)   : cF false uI m_X7_goDay 8 [.ref 0] m (f_X7_goDay m ) := by
  refine cF_of ok_X7_goDay (fun _ _ => Nat.le_of_ble_eq_true rfl) ?_
  unfold f_X7_goDay
  show JF _ _ _ _ _ [(0, .ref 0)] _ _ _
  refine F_aload_n (i := 0) (a := 0) rfl rfl (dk_X7_goDay 0 _ rfl) ?_
  refine F_aload_n (i := 0) (a := 0) rfl rfl (dk_X7_goDay 1 _ rfl) ?_
  refine F_gI (n := 1) fxM_7_1_0 rfl fl_7_13 (dk_X7_goDay 2 _ rfl) ?_
  refine F_callV (ι' := uI) (ci := 7) (b := 0) (As := [.int (mI m 1)]) (d' := 2) (rfl) ok_X7_manyBorn vi_X7_manyBorn cl_7_266 (n := 1) (by decide +kernel) rfl rfl rfl (Nat.le_of_ble_eq_true rfl) (by omega) (dk_X7_goDay 5 _ rfl) (c_X7_manyBorn _ _ ) (fun x1 m2 => ?_)
  show JF _ _ _ _ _ _ [.int x1] _ _
  refine F_istore_n (lv' := [(1, .int x1), (0, .ref 0)]) (i := 1) (a := 1) rfl (by decide) rfl (dk_X7_goDay 8 _ rfl) ?_
  refine F_iconst (v := 0) (by decide) (dk_X7_goDay 9 _ rfl) ?_
  refine F_istore_n (lv' := [(2, .int 0), (1, .int x1), (0, .ref 0)]) (i := 2) (a := 2) rfl (by decide) rfl (dk_X7_goDay 10 _ rfl) ?_
  refine F_iconst (v := 0) (by decide) (dk_X7_goDay 11 _ rfl) ?_
  refine F_istore_n (lv' := [(3, .int 0), (2, .int 0), (1, .int x1), (0, .ref 0)]) (i := 3) (a := 3) rfl (by decide) rfl (dk_X7_goDay 12 _ rfl) ?_
  exact F_loc (List.forall_mem_cons.mpr ⟨(.tail _ (.tail _ (.tail _ (.head _)))), (List.forall_mem_cons.mpr ⟨(.tail _ (.tail _ (.head _))), (List.forall_mem_cons.mpr ⟨(.tail _ (.head _)), (List.forall_mem_cons.mpr ⟨(.head _), (fun _ z => absurd z List.not_mem_nil)⟩)⟩)⟩)⟩) (j_X7_goDay_13   1000 _ _ _ _ )
def f_X7_day_24  (m : mM)  : fR Int32 :=
  bnd (f_X7_goDay m ) fun (x1 : Int32) (m2 : mM) => some (x1, m2)
theorem j_X7_day_24   (m : mM)   : JF false uI m_X7_day 9 24 [(0, .ref 0)] [] m (f_X7_day_24  m ) := by
  unfold f_X7_day_24
  refine F_aload_n (i := 0) (a := 0) rfl rfl (dk_X7_day 24 _ rfl) ?_
  refine F_callV (ι' := uI) (ci := 7) (b := 0) (As := []) (d' := 8) (rfl) ok_X7_goDay vi_X7_goDay cl_7_310 (n := 0) (by decide +kernel) rfl rfl rfl (Nat.le_of_ble_eq_true rfl) (by omega) (dk_X7_day 25 _ rfl) (c_X7_goDay _  ) (fun x1 m2 => ?_)
  show JF _ _ _ _ _ _ [.int x1] _ _
  exact F_ret rfl (dk_X7_day 28 _ rfl)
def f_X7_day (m : mM)  : fR Int32 :=
  (if (mI m 1) = 11 then (if (mI m 2) = 999 then some ((-3), m) else (f_X7_day_24  m )) else (f_X7_day_24  m ))
theorem c_X7_day (m : mM)   : cF false uI m_X7_day 9 [.ref 0] m (f_X7_day m ) := by
  refine cF_of ok_X7_day (fun _ _ => Nat.le_of_ble_eq_true rfl) ?_
  unfold f_X7_day
  show JF _ _ _ _ _ [(0, .ref 0)] _ _ _
  refine F_aload_n (i := 0) (a := 0) rfl rfl (dk_X7_day 0 _ rfl) ?_
  refine F_gI (n := 1) fxM_7_1_0 rfl fl_7_13 (dk_X7_day 1 _ rfl) ?_
  refine F_bipush (v := 11) (by decide) (dk_X7_day 4 _ rfl) ?_
  refine F_icmp_ne (tgt := 24) (by decide) (dk_X7_day 6 _ rfl) ?_ ?_
  · exact F_loc (fun _ z => z) (j_X7_day_24   _  )
  · refine F_aload_n (i := 0) (a := 0) rfl rfl (dk_X7_day 9 _ rfl) ?_
    refine F_gI (n := 2) fxM_7_2_0 rfl fl_7_16 (dk_X7_day 10 _ rfl) ?_
    refine F_sipush (v := 999) (by decide) (dk_X7_day 13 _ rfl) ?_
    refine F_icmp_ne (tgt := 24) (by decide) (dk_X7_day 16 _ rfl) ?_ ?_
    · exact F_loc (fun _ z => z) (j_X7_day_24   _  )
    · refine F_bipush (v := (-3)) (by decide) (dk_X7_day 19 _ rfl) ?_
      refine F_goto (tgt := 28) (by decide) (dk_X7_day 21 _ rfl) ?_
      exact F_ret rfl (dk_X7_day 28 _ rfl)
def fb_X7_keep_2 (K2 : mM → Int32 → fR Unit) (m : mM) (y1 : Int32) : fR Unit :=
  (if 7 ≤ y1 then nmM (wI m 31 (mI m 1)) fun m1 => nmM (wI m1 32 (mI m1 2)) fun m2 => some ((), m2) else (gA (mA m 5) y1).bind fun x3 => (sA 0 m 19 y1 x3).bind fun m4 => (sA 0 m4 18 y1 0).bind fun m5 => (K2 m5 (y1 + 1)))
def f_X7_keep_2  : Nat → mM → Int32 → fR Unit
  | 0, _, _ => none
  | F + 1, m, y1 => fb_X7_keep_2  (f_X7_keep_2  F) m y1
theorem jb_X7_keep_2 (K2 : mM → Int32 → fR Unit) (hK2 : ∀ (m : mM) (y1 : Int32) , JF false uU m_X7_keep 2 2 [(0, .ref 0), (1, .int y1)] [] m (K2 m y1)) (m : mM) (y1 : Int32)  : JF false uU m_X7_keep 2 2 [(0, .ref 0), (1, .int y1)] [] m (fb_X7_keep_2 K2 m y1) := by
  unfold fb_X7_keep_2
  refine F_iload_n (i := 1) (a := 1) rfl rfl (dk_X7_keep 2 _ rfl) ?_
  refine F_bipush (v := 7) (by decide) (dk_X7_keep 3 _ rfl) ?_
  refine F_icmp_ge (tgt := 33) (by decide) (dk_X7_keep 5 _ rfl) ?_ ?_
  · refine F_aload_n (i := 0) (a := 0) rfl rfl (dk_X7_keep 33 _ rfl) ?_
    refine F_aload_n (i := 0) (a := 0) rfl rfl (dk_X7_keep 34 _ rfl) ?_
    refine F_gI (n := 1) fxM_7_1_0 rfl fl_7_13 (dk_X7_keep 35 _ rfl) ?_
    refine F_pI (n := 31) fxM_7_31_0 rfl fl_7_105 (fun q hq => by cases hq; rfl) trivial (dk_X7_keep 38 _ rfl) (fun m1 => ?_)
    refine F_aload_n (i := 0) (a := 0) rfl rfl (dk_X7_keep 41 _ rfl) ?_
    refine F_aload_n (i := 0) (a := 0) rfl rfl (dk_X7_keep 42 _ rfl) ?_
    refine F_gI (n := 2) fxM_7_2_0 rfl fl_7_16 (dk_X7_keep 43 _ rfl) ?_
    refine F_pI (n := 32) fxM_7_32_0 rfl fl_7_108 (fun q hq => by cases hq; rfl) trivial (dk_X7_keep 46 _ rfl) (fun m2 => ?_)
    exact F_retV rfl (dk_X7_keep 49 _ rfl)
  · refine F_aload_n (i := 0) (a := 0) rfl rfl (dk_X7_keep 8 _ rfl) ?_
    refine F_gR (b := 19) fxM_7_30_0 fl_7_102 (dk_X7_keep 9 _ rfl) ?_
    refine F_iload_n (i := 1) (a := 1) rfl rfl (dk_X7_keep 12 _ rfl) ?_
    refine F_aload_n (i := 0) (a := 0) rfl rfl (dk_X7_keep 13 _ rfl) ?_
    refine F_gR (b := 5) fxM_7_7_0 fl_7_32 (dk_X7_keep 14 _ rfl) ?_
    refine F_iload_n (i := 1) (a := 1) rfl rfl (dk_X7_keep 17 _ rfl) ?_
    refine F_iald (axM_0_5) (dk_X7_keep 18 _ rfl) (fun x3 => ?_)
    refine F_iast (axM_0_19) (dk_X7_keep 19 _ rfl) (fun m4 => ?_)
    refine F_aload_n (i := 0) (a := 0) rfl rfl (dk_X7_keep 20 _ rfl) ?_
    refine F_gR (b := 18) fxM_7_29_0 fl_7_99 (dk_X7_keep 21 _ rfl) ?_
    refine F_iload_n (i := 1) (a := 1) rfl rfl (dk_X7_keep 24 _ rfl) ?_
    refine F_iconst (v := 0) (by decide) (dk_X7_keep 25 _ rfl) ?_
    refine F_iast (axM_0_18) (dk_X7_keep 26 _ rfl) (fun m5 => ?_)
    refine F_iinc (i := 1) (n := 1) (v := (y1 + 1)) (lv' := [(1, .int (y1 + 1)), (0, .ref 0)]) rfl (by first | rfl | decide) (by decide) rfl (dk_X7_keep 27 _ rfl) ?_
    refine F_goto (tgt := 2) (by decide) (dk_X7_keep 30 _ rfl) ?_
    exact F_loc (List.forall_mem_cons.mpr ⟨(.tail _ (.head _)), (List.forall_mem_cons.mpr ⟨(.head _), (fun _ z => absurd z List.not_mem_nil)⟩)⟩) (hK2 _ _ )
theorem j_X7_keep_2   : ∀ (F : Nat) (m : mM) (y1 : Int32) , JF false uU m_X7_keep 2 2 [(0, .ref 0), (1, .int y1)] [] m (f_X7_keep_2  F m y1) := by
  intro F
  induction F with
  | zero => intro m y1 ; exact F_no
  | succ F ih => intro m y1 ; exact jb_X7_keep_2  (f_X7_keep_2  F)  ih m y1 
def f_X7_keep (m : mM)  : fR Unit :=
  (f_X7_keep_2  1000 m 0)
theorem c_X7_keep (m : mM)   : cF false uU m_X7_keep 2 [.ref 0] m (f_X7_keep m ) := by
  refine cF_of ok_X7_keep (fun _ _ => Nat.le_of_ble_eq_true rfl) ?_
  unfold f_X7_keep
  show JF _ _ _ _ _ [(0, .ref 0)] _ _ _
  refine F_iconst (v := 0) (by decide) (dk_X7_keep 0 _ rfl) ?_
  refine F_istore_n (lv' := [(1, .int 0), (0, .ref 0)]) (i := 1) (a := 1) rfl (by decide) rfl (dk_X7_keep 1 _ rfl) ?_
  exact F_loc (List.forall_mem_cons.mpr ⟨(.tail _ (.head _)), (List.forall_mem_cons.mpr ⟨(.head _), (fun _ z => absurd z List.not_mem_nil)⟩)⟩) (j_X7_keep_2   1000 _ _ )
def fb_X7_putBack_2 (K2 : mM → Int32 → fR Unit) (m : mM) (y1 : Int32) : fR Unit :=
  (if 7 ≤ y1 then nmM (wI m 1 (mI m 31)) fun m1 => nmM (wI m1 2 (mI m1 32)) fun m2 => some ((), m2) else (gA (mA m 19) y1).bind fun x3 => (sA 0 m 5 y1 x3).bind fun m4 => (K2 m4 (y1 + 1)))
def f_X7_putBack_2  : Nat → mM → Int32 → fR Unit
  | 0, _, _ => none
  | F + 1, m, y1 => fb_X7_putBack_2  (f_X7_putBack_2  F) m y1
theorem jb_X7_putBack_2 (K2 : mM → Int32 → fR Unit) (hK2 : ∀ (m : mM) (y1 : Int32) , JF false uU m_X7_putBack 2 2 [(0, .ref 0), (1, .int y1)] [] m (K2 m y1)) (m : mM) (y1 : Int32)  : JF false uU m_X7_putBack 2 2 [(0, .ref 0), (1, .int y1)] [] m (fb_X7_putBack_2 K2 m y1) := by
  unfold fb_X7_putBack_2
  refine F_iload_n (i := 1) (a := 1) rfl rfl (dk_X7_putBack 2 _ rfl) ?_
  refine F_bipush (v := 7) (by decide) (dk_X7_putBack 3 _ rfl) ?_
  refine F_icmp_ge (tgt := 26) (by decide) (dk_X7_putBack 5 _ rfl) ?_ ?_
  · refine F_aload_n (i := 0) (a := 0) rfl rfl (dk_X7_putBack 26 _ rfl) ?_
    refine F_aload_n (i := 0) (a := 0) rfl rfl (dk_X7_putBack 27 _ rfl) ?_
    refine F_gI (n := 31) fxM_7_31_0 rfl fl_7_105 (dk_X7_putBack 28 _ rfl) ?_
    refine F_pI (n := 1) fxM_7_1_0 rfl fl_7_13 (fun q hq => by cases hq; rfl) trivial (dk_X7_putBack 31 _ rfl) (fun m1 => ?_)
    refine F_aload_n (i := 0) (a := 0) rfl rfl (dk_X7_putBack 34 _ rfl) ?_
    refine F_aload_n (i := 0) (a := 0) rfl rfl (dk_X7_putBack 35 _ rfl) ?_
    refine F_gI (n := 32) fxM_7_32_0 rfl fl_7_108 (dk_X7_putBack 36 _ rfl) ?_
    refine F_pI (n := 2) fxM_7_2_0 rfl fl_7_16 (fun q hq => by cases hq; rfl) trivial (dk_X7_putBack 39 _ rfl) (fun m2 => ?_)
    exact F_retV rfl (dk_X7_putBack 42 _ rfl)
  · refine F_aload_n (i := 0) (a := 0) rfl rfl (dk_X7_putBack 8 _ rfl) ?_
    refine F_gR (b := 5) fxM_7_7_0 fl_7_32 (dk_X7_putBack 9 _ rfl) ?_
    refine F_iload_n (i := 1) (a := 1) rfl rfl (dk_X7_putBack 12 _ rfl) ?_
    refine F_aload_n (i := 0) (a := 0) rfl rfl (dk_X7_putBack 13 _ rfl) ?_
    refine F_gR (b := 19) fxM_7_30_0 fl_7_102 (dk_X7_putBack 14 _ rfl) ?_
    refine F_iload_n (i := 1) (a := 1) rfl rfl (dk_X7_putBack 17 _ rfl) ?_
    refine F_iald (axM_0_19) (dk_X7_putBack 18 _ rfl) (fun x3 => ?_)
    refine F_iast (axM_0_5) (dk_X7_putBack 19 _ rfl) (fun m4 => ?_)
    refine F_iinc (i := 1) (n := 1) (v := (y1 + 1)) (lv' := [(1, .int (y1 + 1)), (0, .ref 0)]) rfl (by first | rfl | decide) (by decide) rfl (dk_X7_putBack 20 _ rfl) ?_
    refine F_goto (tgt := 2) (by decide) (dk_X7_putBack 23 _ rfl) ?_
    exact F_loc (List.forall_mem_cons.mpr ⟨(.tail _ (.head _)), (List.forall_mem_cons.mpr ⟨(.head _), (fun _ z => absurd z List.not_mem_nil)⟩)⟩) (hK2 _ _ )
theorem j_X7_putBack_2   : ∀ (F : Nat) (m : mM) (y1 : Int32) , JF false uU m_X7_putBack 2 2 [(0, .ref 0), (1, .int y1)] [] m (f_X7_putBack_2  F m y1) := by
  intro F
  induction F with
  | zero => intro m y1 ; exact F_no
  | succ F ih => intro m y1 ; exact jb_X7_putBack_2  (f_X7_putBack_2  F)  ih m y1 
def f_X7_putBack (m : mM)  : fR Unit :=
  (f_X7_putBack_2  1000 m 0)
theorem c_X7_putBack (m : mM)   : cF false uU m_X7_putBack 2 [.ref 0] m (f_X7_putBack m ) := by
  refine cF_of ok_X7_putBack (fun _ _ => Nat.le_of_ble_eq_true rfl) ?_
  unfold f_X7_putBack
  show JF _ _ _ _ _ [(0, .ref 0)] _ _ _
  refine F_iconst (v := 0) (by decide) (dk_X7_putBack 0 _ rfl) ?_
  refine F_istore_n (lv' := [(1, .int 0), (0, .ref 0)]) (i := 1) (a := 1) rfl (by decide) rfl (dk_X7_putBack 1 _ rfl) ?_
  exact F_loc (List.forall_mem_cons.mpr ⟨(.tail _ (.head _)), (List.forall_mem_cons.mpr ⟨(.head _), (fun _ z => absurd z List.not_mem_nil)⟩)⟩) (j_X7_putBack_2   1000 _ _ )
def f_X7_by_81  (m : mM) (y100 : Int32) : fR Int32 :=
  bnd (f_X7_putBack m ) fun (x14 : Unit) (m15 : mM) => some (y100, m15)
theorem j_X7_by_81   (m : mM) (y100 : Int32)  : JF false uI m_X7_by 9 81 [(0, .ref 0)] [.int y100] m (f_X7_by_81  m y100) := by
  unfold f_X7_by_81
  refine F_istore (lv' := [(4, .int y100), (0, .ref 0)]) (i := 4) (by decide) rfl (dk_X7_by 81 _ rfl) ?_
  refine F_aload_n (i := 0) (a := 0) rfl rfl (dk_X7_by 83 _ rfl) ?_
  refine F_callV (ι' := uU) (ci := 7) (b := 0) (As := []) (d' := 2) (rfl) ok_X7_putBack vi_X7_putBack cl_7_317 (n := 0) (by decide +kernel) rfl rfl rfl (Nat.le_of_ble_eq_true rfl) (by omega) (dk_X7_by 84 _ rfl) (c_X7_putBack _  ) (fun x14 m15 => ?_)
  show JF _ _ _ _ _ _ [] _ _
  refine F_iload (i := 4) rfl (dk_X7_by 87 _ rfl) ?_
  exact F_ret rfl (dk_X7_by 89 _ rfl)
def fb_X7_by_44 (K44 : mM → Int32 → Int32 → Int32 → Int32 → fR Int32) (m : mM) (y1 : Int32) (y2 : Int32) (y3 : Int32) (y4 : Int32) : fR Int32 :=
  (if y2 ≤ y4 then (if y3 = 0 then (gA (mA m 5) y1).bind fun x17 => (f_X7_by_81  m x17) else (gA (mA m 18) y1).bind fun x13 => (f_X7_by_81  m x13)) else bnd (f_X7_goDay m ) fun (x18 : Int32) (m19 : mM) => (K44 m19 y1 y2 y3 (y4 + 1)))
def f_X7_by_44  : Nat → mM → Int32 → Int32 → Int32 → Int32 → fR Int32
  | 0, _, _, _, _, _ => none
  | F + 1, m, y1, y2, y3, y4 => fb_X7_by_44  (f_X7_by_44  F) m y1 y2 y3 y4
theorem jb_X7_by_44 (K44 : mM → Int32 → Int32 → Int32 → Int32 → fR Int32) (hK44 : ∀ (m : mM) (y1 : Int32) (y2 : Int32) (y3 : Int32) (y4 : Int32) , JF false uI m_X7_by 9 44 [(0, .ref 0), (1, .int y1), (2, .int y2), (3, .int y3), (4, .int y4)] [] m (K44 m y1 y2 y3 y4)) (m : mM) (y1 : Int32) (y2 : Int32) (y3 : Int32) (y4 : Int32)  : JF false uI m_X7_by 9 44 [(0, .ref 0), (1, .int y1), (2, .int y2), (3, .int y3), (4, .int y4)] [] m (fb_X7_by_44 K44 m y1 y2 y3 y4) := by
  unfold fb_X7_by_44
  refine F_iload (i := 4) rfl (dk_X7_by 44 _ rfl) ?_
  refine F_iload_n (i := 2) (a := 2) rfl rfl (dk_X7_by 46 _ rfl) ?_
  refine F_icmp_ge (tgt := 62) (by decide) (dk_X7_by 47 _ rfl) ?_ ?_
  · refine F_iload_n (i := 3) (a := 3) rfl rfl (dk_X7_by 62 _ rfl) ?_
    refine F_if_ne (tgt := 75) (by decide) (dk_X7_by 63 _ rfl) ?_ ?_
    · refine F_aload_n (i := 0) (a := 0) rfl rfl (dk_X7_by 75 _ rfl) ?_
      refine F_gR (b := 18) fxM_7_29_0 fl_7_99 (dk_X7_by 76 _ rfl) ?_
      refine F_iload_n (i := 1) (a := 1) rfl rfl (dk_X7_by 79 _ rfl) ?_
      refine F_iald (axM_0_18) (dk_X7_by 80 _ rfl) (fun x13 => ?_)
      exact F_loc (List.forall_mem_cons.mpr ⟨(.head _), (fun _ z => absurd z List.not_mem_nil)⟩) (j_X7_by_81   _ _ )
    · refine F_aload_n (i := 0) (a := 0) rfl rfl (dk_X7_by 66 _ rfl) ?_
      refine F_gR (b := 5) fxM_7_7_0 fl_7_32 (dk_X7_by 67 _ rfl) ?_
      refine F_iload_n (i := 1) (a := 1) rfl rfl (dk_X7_by 70 _ rfl) ?_
      refine F_iald (axM_0_5) (dk_X7_by 71 _ rfl) (fun x17 => ?_)
      refine F_goto (tgt := 81) (by decide) (dk_X7_by 72 _ rfl) ?_
      exact F_loc (List.forall_mem_cons.mpr ⟨(.head _), (fun _ z => absurd z List.not_mem_nil)⟩) (j_X7_by_81   _ _ )
  · refine F_aload_n (i := 0) (a := 0) rfl rfl (dk_X7_by 50 _ rfl) ?_
    refine F_callV (ι' := uI) (ci := 7) (b := 0) (As := []) (d' := 8) (rfl) ok_X7_goDay vi_X7_goDay cl_7_310 (n := 0) (by decide +kernel) rfl rfl rfl (Nat.le_of_ble_eq_true rfl) (by omega) (dk_X7_by 51 _ rfl) (c_X7_goDay _  ) (fun x18 m19 => ?_)
    show JF _ _ _ _ _ _ [.int x18] _ _
    refine F_istore (lv' := [(5, .int x18), (0, .ref 0), (1, .int y1), (2, .int y2), (3, .int y3), (4, .int y4)]) (i := 5) (by decide) rfl (dk_X7_by 54 _ rfl) ?_
    refine F_iinc (i := 4) (n := 1) (v := (y4 + 1)) (lv' := [(4, .int (y4 + 1)), (5, .int x18), (0, .ref 0), (1, .int y1), (2, .int y2), (3, .int y3)]) rfl (by first | rfl | decide) (by decide) rfl (dk_X7_by 56 _ rfl) ?_
    refine F_goto (tgt := 44) (by decide) (dk_X7_by 59 _ rfl) ?_
    exact F_loc (List.forall_mem_cons.mpr ⟨(.tail _ (.tail _ (.head _))), (List.forall_mem_cons.mpr ⟨(.tail _ (.tail _ (.tail _ (.head _)))), (List.forall_mem_cons.mpr ⟨(.tail _ (.tail _ (.tail _ (.tail _ (.head _))))), (List.forall_mem_cons.mpr ⟨(.tail _ (.tail _ (.tail _ (.tail _ (.tail _ (.head _)))))), (List.forall_mem_cons.mpr ⟨(.head _), (fun _ z => absurd z List.not_mem_nil)⟩)⟩)⟩)⟩)⟩) (hK44 _ _ _ _ _ )
theorem j_X7_by_44   : ∀ (F : Nat) (m : mM) (y1 : Int32) (y2 : Int32) (y3 : Int32) (y4 : Int32) , JF false uI m_X7_by 9 44 [(0, .ref 0), (1, .int y1), (2, .int y2), (3, .int y3), (4, .int y4)] [] m (f_X7_by_44  F m y1 y2 y3 y4) := by
  intro F
  induction F with
  | zero => intro m y1 y2 y3 y4 ; exact F_no
  | succ F ih => intro m y1 y2 y3 y4 ; exact jb_X7_by_44  (f_X7_by_44  F)  ih m y1 y2 y3 y4 
def f_X7_by (m : mM) (p1 : Int32) (p2 : Int32) (p3 : Int32) : fR Int32 :=
  bnd (f_X7_isPerson m p1) fun (x1 : Int32) (m2 : mM) => (if x1 = 0 then some ((-10000001), m2) else bnd (f_X7_in m2 p3 0 1) fun (x4 : Int32) (m5 : mM) => (if x4 = 0 then some ((-10000001), m5) else bnd (f_X7_in m5 p2 0 60) fun (x7 : Int32) (m8 : mM) => (if x7 = 0 then some ((-10000002), m8) else bnd (f_X7_keep m8 ) fun (x10 : Unit) (m11 : mM) => (f_X7_by_44  1000 m11 p1 p2 p3 0))))
theorem c_X7_by (m : mM) (p1 : Int32) (p2 : Int32) (p3 : Int32)  : cF false uI m_X7_by 9 [.ref 0, .int p1, .int p2, .int p3] m (f_X7_by m p1 p2 p3) := by
  refine cF_of ok_X7_by (fun _ _ => Nat.le_of_ble_eq_true rfl) ?_
  unfold f_X7_by
  show JF _ _ _ _ _ [(0, .ref 0), (1, .int p1), (2, .int p2), (3, .int p3)] _ _ _
  refine F_aload_n (i := 0) (a := 0) rfl rfl (dk_X7_by 0 _ rfl) ?_
  refine F_iload_n (i := 1) (a := 1) rfl rfl (dk_X7_by 1 _ rfl) ?_
  refine F_callV (ι' := uI) (ci := 7) (b := 0) (As := [.int p1]) (d' := 3) (rfl) ok_X7_isPerson vi_X7_isPerson cl_7_206 (n := 1) (by decide +kernel) rfl rfl rfl (Nat.le_of_ble_eq_true rfl) (by omega) (dk_X7_by 2 _ rfl) (c_X7_isPerson _ _ ) (fun x1 m2 => ?_)
  show JF _ _ _ _ _ _ [.int x1] _ _
  refine F_if_eq (tgt := 18) (by decide) (dk_X7_by 5 _ rfl) ?_ ?_
  · refine F_ldcw (v := (-10000001)) ct_7_291 (dk_X7_by 18 _ rfl) ?_
    exact F_ret rfl (dk_X7_by 21 _ rfl)
  · refine F_aload_n (i := 0) (a := 0) rfl rfl (dk_X7_by 8 _ rfl) ?_
    refine F_iload_n (i := 3) (a := 3) rfl rfl (dk_X7_by 9 _ rfl) ?_
    refine F_iconst (v := 0) (by decide) (dk_X7_by 10 _ rfl) ?_
    refine F_iconst (v := 1) (by decide) (dk_X7_by 11 _ rfl) ?_
    refine F_callV (ι' := uI) (ci := 7) (b := 0) (As := [.int p3, .int 0, .int 1]) (d' := 2) (rfl) ok_X7_in vi_X7_in cl_7_194 (n := 3) (by decide +kernel) rfl rfl rfl (Nat.le_of_ble_eq_true rfl) (by omega) (dk_X7_by 12 _ rfl) (c_X7_in _ _ _ _ ) (fun x4 m5 => ?_)
    show JF _ _ _ _ _ _ [.int x4] _ _
    refine F_if_ne (tgt := 22) (by decide) (dk_X7_by 15 _ rfl) ?_ ?_
    · refine F_aload_n (i := 0) (a := 0) rfl rfl (dk_X7_by 22 _ rfl) ?_
      refine F_iload_n (i := 2) (a := 2) rfl rfl (dk_X7_by 23 _ rfl) ?_
      refine F_iconst (v := 0) (by decide) (dk_X7_by 24 _ rfl) ?_
      refine F_bipush (v := 60) (by decide) (dk_X7_by 25 _ rfl) ?_
      refine F_callV (ι' := uI) (ci := 7) (b := 0) (As := [.int p2, .int 0, .int 60]) (d' := 2) (rfl) ok_X7_in vi_X7_in cl_7_194 (n := 3) (by decide +kernel) rfl rfl rfl (Nat.le_of_ble_eq_true rfl) (by omega) (dk_X7_by 27 _ rfl) (c_X7_in _ _ _ _ ) (fun x7 m8 => ?_)
      show JF _ _ _ _ _ _ [.int x7] _ _
      refine F_if_ne (tgt := 37) (by decide) (dk_X7_by 30 _ rfl) ?_ ?_
      · refine F_aload_n (i := 0) (a := 0) rfl rfl (dk_X7_by 37 _ rfl) ?_
        refine F_callV (ι' := uU) (ci := 7) (b := 0) (As := []) (d' := 2) (rfl) ok_X7_keep vi_X7_keep cl_7_314 (n := 0) (by decide +kernel) rfl rfl rfl (Nat.le_of_ble_eq_true rfl) (by omega) (dk_X7_by 38 _ rfl) (c_X7_keep _  ) (fun x10 m11 => ?_)
        show JF _ _ _ _ _ _ [] _ _
        refine F_iconst (v := 0) (by decide) (dk_X7_by 41 _ rfl) ?_
        refine F_istore (lv' := [(4, .int 0), (0, .ref 0), (1, .int p1), (2, .int p2), (3, .int p3)]) (i := 4) (by decide) rfl (dk_X7_by 42 _ rfl) ?_
        exact F_loc (List.forall_mem_cons.mpr ⟨(.tail _ (.head _)), (List.forall_mem_cons.mpr ⟨(.tail _ (.tail _ (.head _))), (List.forall_mem_cons.mpr ⟨(.tail _ (.tail _ (.tail _ (.head _)))), (List.forall_mem_cons.mpr ⟨(.tail _ (.tail _ (.tail _ (.tail _ (.head _))))), (List.forall_mem_cons.mpr ⟨(.head _), (fun _ z => absurd z List.not_mem_nil)⟩)⟩)⟩)⟩)⟩) (j_X7_by_44   1000 _ _ _ _ _ )
      · refine F_ldcw (v := (-10000002)) ct_7_313 (dk_X7_by 33 _ rfl) ?_
        exact F_ret rfl (dk_X7_by 36 _ rfl)
    · refine F_ldcw (v := (-10000001)) ct_7_291 (dk_X7_by 18 _ rfl) ?_
      exact F_ret rfl (dk_X7_by 21 _ rfl)
def fb_X7_layYear_25 (K25 : mM → Int32 → fR Unit) (m : mM) (y1 : Int32) : fR Unit :=
  (if (mI m 0) ≤ y1 then bnd (f_X7_putBack m ) fun (x4 : Unit) (m5 : mM) => some ((), m5) else (gA (mA m 5) y1).bind fun x7 => (gA (mA m 19) y1).bind fun x8 => (sA 0 m 20 y1 (x7 - x8)).bind fun m9 => (K25 m9 (y1 + 1)))
def f_X7_layYear_25  : Nat → mM → Int32 → fR Unit
  | 0, _, _ => none
  | F + 1, m, y1 => fb_X7_layYear_25  (f_X7_layYear_25  F) m y1
theorem jb_X7_layYear_25 (K25 : mM → Int32 → fR Unit) (hK25 : ∀ (m : mM) (y1 : Int32) , JF false uU m_X7_layYear 9 25 [(0, .ref 0), (1, .int y1)] [] m (K25 m y1)) (m : mM) (y1 : Int32)  : JF false uU m_X7_layYear 9 25 [(0, .ref 0), (1, .int y1)] [] m (fb_X7_layYear_25 K25 m y1) := by
  unfold fb_X7_layYear_25
  refine F_iload_n (i := 1) (a := 1) rfl rfl (dk_X7_layYear 25 _ rfl) ?_
  refine F_aload_n (i := 0) (a := 0) rfl rfl (dk_X7_layYear 26 _ rfl) ?_
  refine F_gI (n := 0) fxM_7_0_0 rfl fl_7_7 (dk_X7_layYear 27 _ rfl) ?_
  refine F_icmp_ge (tgt := 58) (by decide) (dk_X7_layYear 30 _ rfl) ?_ ?_
  · refine F_aload_n (i := 0) (a := 0) rfl rfl (dk_X7_layYear 58 _ rfl) ?_
    refine F_callV (ι' := uU) (ci := 7) (b := 0) (As := []) (d' := 2) (rfl) ok_X7_putBack vi_X7_putBack cl_7_317 (n := 0) (by decide +kernel) rfl rfl rfl (Nat.le_of_ble_eq_true rfl) (by omega) (dk_X7_layYear 59 _ rfl) (c_X7_putBack _  ) (fun x4 m5 => ?_)
    show JF _ _ _ _ _ _ [] _ _
    exact F_retV rfl (dk_X7_layYear 62 _ rfl)
  · refine F_aload_n (i := 0) (a := 0) rfl rfl (dk_X7_layYear 33 _ rfl) ?_
    refine F_gR (b := 20) fxM_7_33_0 fl_7_111 (dk_X7_layYear 34 _ rfl) ?_
    refine F_iload_n (i := 1) (a := 1) rfl rfl (dk_X7_layYear 37 _ rfl) ?_
    refine F_aload_n (i := 0) (a := 0) rfl rfl (dk_X7_layYear 38 _ rfl) ?_
    refine F_gR (b := 5) fxM_7_7_0 fl_7_32 (dk_X7_layYear 39 _ rfl) ?_
    refine F_iload_n (i := 1) (a := 1) rfl rfl (dk_X7_layYear 42 _ rfl) ?_
    refine F_iald (axM_0_5) (dk_X7_layYear 43 _ rfl) (fun x7 => ?_)
    refine F_aload_n (i := 0) (a := 0) rfl rfl (dk_X7_layYear 44 _ rfl) ?_
    refine F_gR (b := 19) fxM_7_30_0 fl_7_102 (dk_X7_layYear 45 _ rfl) ?_
    refine F_iload_n (i := 1) (a := 1) rfl rfl (dk_X7_layYear 48 _ rfl) ?_
    refine F_iald (axM_0_19) (dk_X7_layYear 49 _ rfl) (fun x8 => ?_)
    refine F_isub (dk_X7_layYear 50 _ rfl) ?_
    refine F_iast (axM_0_20) (dk_X7_layYear 51 _ rfl) (fun m9 => ?_)
    refine F_iinc (i := 1) (n := 1) (v := (y1 + 1)) (lv' := [(1, .int (y1 + 1)), (0, .ref 0)]) rfl (by first | rfl | decide) (by decide) rfl (dk_X7_layYear 52 _ rfl) ?_
    refine F_goto (tgt := 25) (by decide) (dk_X7_layYear 55 _ rfl) ?_
    exact F_loc (List.forall_mem_cons.mpr ⟨(.tail _ (.head _)), (List.forall_mem_cons.mpr ⟨(.head _), (fun _ z => absurd z List.not_mem_nil)⟩)⟩) (hK25 _ _ )
theorem j_X7_layYear_25   : ∀ (F : Nat) (m : mM) (y1 : Int32) , JF false uU m_X7_layYear 9 25 [(0, .ref 0), (1, .int y1)] [] m (f_X7_layYear_25  F m y1) := by
  intro F
  induction F with
  | zero => intro m y1 ; exact F_no
  | succ F ih => intro m y1 ; exact jb_X7_layYear_25  (f_X7_layYear_25  F)  ih m y1 
def fb_X7_layYear_6 (K6 : mM → Int32 → fR Unit) (m : mM) (y1 : Int32) : fR Unit :=
  (if 12 ≤ y1 then (f_X7_layYear_25  1000 m 0) else bnd (f_X7_goDay m ) fun (x10 : Int32) (m11 : mM) => (K6 m11 (y1 + 1)))
def f_X7_layYear_6  : Nat → mM → Int32 → fR Unit
  | 0, _, _ => none
  | F + 1, m, y1 => fb_X7_layYear_6  (f_X7_layYear_6  F) m y1
theorem jb_X7_layYear_6 (K6 : mM → Int32 → fR Unit) (hK6 : ∀ (m : mM) (y1 : Int32) , JF false uU m_X7_layYear 9 6 [(0, .ref 0), (1, .int y1)] [] m (K6 m y1)) (m : mM) (y1 : Int32)  : JF false uU m_X7_layYear 9 6 [(0, .ref 0), (1, .int y1)] [] m (fb_X7_layYear_6 K6 m y1) := by
  unfold fb_X7_layYear_6
  refine F_iload_n (i := 1) (a := 1) rfl rfl (dk_X7_layYear 6 _ rfl) ?_
  refine F_bipush (v := 12) (by decide) (dk_X7_layYear 7 _ rfl) ?_
  refine F_icmp_ge (tgt := 23) (by decide) (dk_X7_layYear 9 _ rfl) ?_ ?_
  · refine F_iconst (v := 0) (by decide) (dk_X7_layYear 23 _ rfl) ?_
    refine F_istore_n (lv' := [(1, .int 0), (0, .ref 0)]) (i := 1) (a := 1) rfl (by decide) rfl (dk_X7_layYear 24 _ rfl) ?_
    exact F_loc (List.forall_mem_cons.mpr ⟨(.tail _ (.head _)), (List.forall_mem_cons.mpr ⟨(.head _), (fun _ z => absurd z List.not_mem_nil)⟩)⟩) (j_X7_layYear_25   1000 _ _ )
  · refine F_aload_n (i := 0) (a := 0) rfl rfl (dk_X7_layYear 12 _ rfl) ?_
    refine F_callV (ι' := uI) (ci := 7) (b := 0) (As := []) (d' := 8) (rfl) ok_X7_goDay vi_X7_goDay cl_7_310 (n := 0) (by decide +kernel) rfl rfl rfl (Nat.le_of_ble_eq_true rfl) (by omega) (dk_X7_layYear 13 _ rfl) (c_X7_goDay _  ) (fun x10 m11 => ?_)
    show JF _ _ _ _ _ _ [.int x10] _ _
    refine F_istore_n (lv' := [(2, .int x10), (0, .ref 0), (1, .int y1)]) (i := 2) (a := 2) rfl (by decide) rfl (dk_X7_layYear 16 _ rfl) ?_
    refine F_iinc (i := 1) (n := 1) (v := (y1 + 1)) (lv' := [(1, .int (y1 + 1)), (2, .int x10), (0, .ref 0)]) rfl (by first | rfl | decide) (by decide) rfl (dk_X7_layYear 17 _ rfl) ?_
    refine F_goto (tgt := 6) (by decide) (dk_X7_layYear 20 _ rfl) ?_
    exact F_loc (List.forall_mem_cons.mpr ⟨(.tail _ (.tail _ (.head _))), (List.forall_mem_cons.mpr ⟨(.head _), (fun _ z => absurd z List.not_mem_nil)⟩)⟩) (hK6 _ _ )
theorem j_X7_layYear_6   : ∀ (F : Nat) (m : mM) (y1 : Int32) , JF false uU m_X7_layYear 9 6 [(0, .ref 0), (1, .int y1)] [] m (f_X7_layYear_6  F m y1) := by
  intro F
  induction F with
  | zero => intro m y1 ; exact F_no
  | succ F ih => intro m y1 ; exact jb_X7_layYear_6  (f_X7_layYear_6  F)  ih m y1 
def f_X7_layYear (m : mM)  : fR Unit :=
  bnd (f_X7_keep m ) fun (x1 : Unit) (m2 : mM) => (f_X7_layYear_6  1000 m2 0)
theorem c_X7_layYear (m : mM)   : cF false uU m_X7_layYear 9 [.ref 0] m (f_X7_layYear m ) := by
  refine cF_of ok_X7_layYear (fun _ _ => Nat.le_of_ble_eq_true rfl) ?_
  unfold f_X7_layYear
  show JF _ _ _ _ _ [(0, .ref 0)] _ _ _
  refine F_aload_n (i := 0) (a := 0) rfl rfl (dk_X7_layYear 0 _ rfl) ?_
  refine F_callV (ι' := uU) (ci := 7) (b := 0) (As := []) (d' := 2) (rfl) ok_X7_keep vi_X7_keep cl_7_314 (n := 0) (by decide +kernel) rfl rfl rfl (Nat.le_of_ble_eq_true rfl) (by omega) (dk_X7_layYear 1 _ rfl) (c_X7_keep _  ) (fun x1 m2 => ?_)
  show JF _ _ _ _ _ _ [] _ _
  refine F_iconst (v := 0) (by decide) (dk_X7_layYear 4 _ rfl) ?_
  refine F_istore_n (lv' := [(1, .int 0), (0, .ref 0)]) (i := 1) (a := 1) rfl (by decide) rfl (dk_X7_layYear 5 _ rfl) ?_
  exact F_loc (List.forall_mem_cons.mpr ⟨(.tail _ (.head _)), (List.forall_mem_cons.mpr ⟨(.head _), (fun _ z => absurd z List.not_mem_nil)⟩)⟩) (j_X7_layYear_6   1000 _ _ )
def f_X7_yearOf (m : mM) (p1 : Int32) : fR Int32 :=
  bnd (f_X7_layYear m ) fun (x1 : Unit) (m2 : mM) => (gA (mA m2 20) p1).bind fun x4 => some (x4, m2)
theorem c_X7_yearOf (m : mM) (p1 : Int32)  : cF false uI m_X7_yearOf 10 [.ref 0, .int p1] m (f_X7_yearOf m p1) := by
  refine cF_of ok_X7_yearOf (fun _ _ => Nat.le_of_ble_eq_true rfl) ?_
  unfold f_X7_yearOf
  show JF _ _ _ _ _ [(0, .ref 0), (1, .int p1)] _ _ _
  refine F_aload_n (i := 0) (a := 0) rfl rfl (dk_X7_yearOf 0 _ rfl) ?_
  refine F_callV (ι' := uU) (ci := 7) (b := 0) (As := []) (d' := 9) (rfl) ok_X7_layYear vi_X7_layYear cl_7_320 (n := 0) (by decide +kernel) rfl rfl rfl (Nat.le_of_ble_eq_true rfl) (by omega) (dk_X7_yearOf 1 _ rfl) (c_X7_layYear _  ) (fun x1 m2 => ?_)
  show JF _ _ _ _ _ _ [] _ _
  refine F_aload_n (i := 0) (a := 0) rfl rfl (dk_X7_yearOf 4 _ rfl) ?_
  refine F_gR (b := 20) fxM_7_33_0 fl_7_111 (dk_X7_yearOf 5 _ rfl) ?_
  refine F_iload_n (i := 1) (a := 1) rfl rfl (dk_X7_yearOf 8 _ rfl) ?_
  refine F_iald (axM_0_20) (dk_X7_yearOf 9 _ rfl) (fun x4 => ?_)
  exact F_ret rfl (dk_X7_yearOf 10 _ rfl)
def f_X7_years (m : mM) (p1 : Int32) : fR Int32 :=
  bnd (f_X7_isPerson m p1) fun (x1 : Int32) (m2 : mM) => (if x1 = 0 then some ((-10000001), m2) else bnd (f_X7_yearOf m2 p1) fun (x4 : Int32) (m5 : mM) => some (x4, m5))
theorem c_X7_years (m : mM) (p1 : Int32)  : cF false uI m_X7_years 11 [.ref 0, .int p1] m (f_X7_years m p1) := by
  refine cF_of ok_X7_years (fun _ _ => Nat.le_of_ble_eq_true rfl) ?_
  unfold f_X7_years
  show JF _ _ _ _ _ [(0, .ref 0), (1, .int p1)] _ _ _
  refine F_aload_n (i := 0) (a := 0) rfl rfl (dk_X7_years 0 _ rfl) ?_
  refine F_iload_n (i := 1) (a := 1) rfl rfl (dk_X7_years 1 _ rfl) ?_
  refine F_callV (ι' := uI) (ci := 7) (b := 0) (As := [.int p1]) (d' := 3) (rfl) ok_X7_isPerson vi_X7_isPerson cl_7_206 (n := 1) (by decide +kernel) rfl rfl rfl (Nat.le_of_ble_eq_true rfl) (by omega) (dk_X7_years 2 _ rfl) (c_X7_isPerson _ _ ) (fun x1 m2 => ?_)
  show JF _ _ _ _ _ _ [.int x1] _ _
  refine F_if_eq (tgt := 16) (by decide) (dk_X7_years 5 _ rfl) ?_ ?_
  · refine F_ldcw (v := (-10000001)) ct_7_291 (dk_X7_years 16 _ rfl) ?_
    exact F_ret rfl (dk_X7_years 19 _ rfl)
  · refine F_aload_n (i := 0) (a := 0) rfl rfl (dk_X7_years 8 _ rfl) ?_
    refine F_iload_n (i := 1) (a := 1) rfl rfl (dk_X7_years 9 _ rfl) ?_
    refine F_callV (ι' := uI) (ci := 7) (b := 0) (As := [.int p1]) (d' := 10) (rfl) ok_X7_yearOf vi_X7_yearOf cl_7_323 (n := 1) (by decide +kernel) rfl rfl rfl (Nat.le_of_ble_eq_true rfl) (by omega) (dk_X7_years 10 _ rfl) (c_X7_yearOf _ _ ) (fun x4 m5 => ?_)
    show JF _ _ _ _ _ _ [.int x4] _ _
    refine F_goto (tgt := 19) (by decide) (dk_X7_years 13 _ rfl) ?_
    exact F_ret rfl (dk_X7_years 19 _ rfl)
def f_X7_layBest_77 (K23 : mM → Int32 → Int32 → Int32 → Int32 → fR Unit) (m : mM) (y1 : Int32) (y2 : Int32) (y3 : Int32) (y4 : Int32) (y5 : Int32) : fR Unit :=
  nmM (wI m 34 y4) fun m8 => nmM (wI m8 35 y5) fun m9 => (K23 m9 y1 y2 y3 (y4 + 1))
theorem j_X7_layBest_77 (K23 : mM → Int32 → Int32 → Int32 → Int32 → fR Unit) (hK23 : ∀ (m : mM) (y1 : Int32) (y2 : Int32) (y3 : Int32) (y4 : Int32) , JF false uU m_X7_layBest 11 23 [(0, .ref 0), (1, .int y1), (2, .int y2), (3, .int y3), (4, .int y4)] [] m (K23 m y1 y2 y3 y4)) (m : mM) (y1 : Int32) (y2 : Int32) (y3 : Int32) (y4 : Int32) (y5 : Int32)  : JF false uU m_X7_layBest 11 77 [(0, .ref 0), (1, .int y1), (2, .int y2), (3, .int y3), (4, .int y4), (5, .int y5)] [] m (f_X7_layBest_77 K23 m y1 y2 y3 y4 y5) := by
  unfold f_X7_layBest_77
  refine F_aload_n (i := 0) (a := 0) rfl rfl (dk_X7_layBest 77 _ rfl) ?_
  refine F_iload (i := 4) rfl (dk_X7_layBest 78 _ rfl) ?_
  refine F_pI (n := 34) fxM_7_34_0 rfl fl_7_114 (fun q hq => by cases hq; rfl) trivial (dk_X7_layBest 80 _ rfl) (fun m8 => ?_)
  refine F_aload_n (i := 0) (a := 0) rfl rfl (dk_X7_layBest 83 _ rfl) ?_
  refine F_iload (i := 5) rfl (dk_X7_layBest 84 _ rfl) ?_
  refine F_pI (n := 35) fxM_7_35_0 rfl fl_7_117 (fun q hq => by cases hq; rfl) trivial (dk_X7_layBest 86 _ rfl) (fun m9 => ?_)
  refine F_iinc (i := 4) (n := 1) (v := (y4 + 1)) (lv' := [(4, .int (y4 + 1)), (0, .ref 0), (1, .int y1), (2, .int y2), (3, .int y3), (5, .int y5)]) rfl (by first | rfl | decide) (by decide) rfl (dk_X7_layBest 89 _ rfl) ?_
  refine F_goto (tgt := 23) (by decide) (dk_X7_layBest 92 _ rfl) ?_
  exact F_loc (List.forall_mem_cons.mpr ⟨(.tail _ (.head _)), (List.forall_mem_cons.mpr ⟨(.tail _ (.tail _ (.head _))), (List.forall_mem_cons.mpr ⟨(.tail _ (.tail _ (.tail _ (.head _)))), (List.forall_mem_cons.mpr ⟨(.tail _ (.tail _ (.tail _ (.tail _ (.head _))))), (List.forall_mem_cons.mpr ⟨(.head _), (fun _ z => absurd z List.not_mem_nil)⟩)⟩)⟩)⟩)⟩) (hK23 _ _ _ _ _ )
def f_X7_layBest_53 (K23 : mM → Int32 → Int32 → Int32 → Int32 → fR Unit) (m : mM) (y1 : Int32) (y2 : Int32) (y3 : Int32) (y4 : Int32) : fR Unit :=
  bnd (f_X7_yearOf m y1) fun (x5 : Int32) (m6 : mM) => (if y4 ≤ 0 then (f_X7_layBest_77 K23 m6 y1 y2 y3 y4 x5) else (if (mI m6 35) < x5 then (f_X7_layBest_77 K23 m6 y1 y2 y3 y4 x5) else (K23 m6 y1 y2 y3 (y4 + 1))))
theorem j_X7_layBest_53 (K23 : mM → Int32 → Int32 → Int32 → Int32 → fR Unit) (hK23 : ∀ (m : mM) (y1 : Int32) (y2 : Int32) (y3 : Int32) (y4 : Int32) , JF false uU m_X7_layBest 11 23 [(0, .ref 0), (1, .int y1), (2, .int y2), (3, .int y3), (4, .int y4)] [] m (K23 m y1 y2 y3 y4)) (m : mM) (y1 : Int32) (y2 : Int32) (y3 : Int32) (y4 : Int32)  : JF false uU m_X7_layBest 11 53 [(0, .ref 0), (1, .int y1), (2, .int y2), (3, .int y3), (4, .int y4)] [] m (f_X7_layBest_53 K23 m y1 y2 y3 y4) := by
  unfold f_X7_layBest_53
  refine F_aload_n (i := 0) (a := 0) rfl rfl (dk_X7_layBest 53 _ rfl) ?_
  refine F_iload_n (i := 1) (a := 1) rfl rfl (dk_X7_layBest 54 _ rfl) ?_
  refine F_callV (ι' := uI) (ci := 7) (b := 0) (As := [.int y1]) (d' := 10) (rfl) ok_X7_yearOf vi_X7_yearOf cl_7_323 (n := 1) (by decide +kernel) rfl rfl rfl (Nat.le_of_ble_eq_true rfl) (by omega) (dk_X7_layBest 55 _ rfl) (c_X7_yearOf _ _ ) (fun x5 m6 => ?_)
  show JF _ _ _ _ _ _ [.int x5] _ _
  refine F_istore (lv' := [(5, .int x5), (0, .ref 0), (1, .int y1), (2, .int y2), (3, .int y3), (4, .int y4)]) (i := 5) (by decide) rfl (dk_X7_layBest 58 _ rfl) ?_
  refine F_iload (i := 4) rfl (dk_X7_layBest 60 _ rfl) ?_
  refine F_if_le (tgt := 77) (by decide) (dk_X7_layBest 62 _ rfl) ?_ ?_
  · exact F_loc (List.forall_mem_cons.mpr ⟨(.tail _ (.head _)), (List.forall_mem_cons.mpr ⟨(.tail _ (.tail _ (.head _))), (List.forall_mem_cons.mpr ⟨(.tail _ (.tail _ (.tail _ (.head _)))), (List.forall_mem_cons.mpr ⟨(.tail _ (.tail _ (.tail _ (.tail _ (.head _))))), (List.forall_mem_cons.mpr ⟨(.tail _ (.tail _ (.tail _ (.tail _ (.tail _ (.head _)))))), (List.forall_mem_cons.mpr ⟨(.head _), (fun _ z => absurd z List.not_mem_nil)⟩)⟩)⟩)⟩)⟩)⟩) (j_X7_layBest_77 K23 hK23 _ _ _ _ _ _ )
  · refine F_iload (i := 5) rfl (dk_X7_layBest 65 _ rfl) ?_
    refine F_aload_n (i := 0) (a := 0) rfl rfl (dk_X7_layBest 67 _ rfl) ?_
    refine F_gI (n := 35) fxM_7_35_0 rfl fl_7_117 (dk_X7_layBest 68 _ rfl) ?_
    refine F_icmp_gt (tgt := 77) (by decide) (dk_X7_layBest 71 _ rfl) ?_ ?_
    · exact F_loc (List.forall_mem_cons.mpr ⟨(.tail _ (.head _)), (List.forall_mem_cons.mpr ⟨(.tail _ (.tail _ (.head _))), (List.forall_mem_cons.mpr ⟨(.tail _ (.tail _ (.tail _ (.head _)))), (List.forall_mem_cons.mpr ⟨(.tail _ (.tail _ (.tail _ (.tail _ (.head _))))), (List.forall_mem_cons.mpr ⟨(.tail _ (.tail _ (.tail _ (.tail _ (.tail _ (.head _)))))), (List.forall_mem_cons.mpr ⟨(.head _), (fun _ z => absurd z List.not_mem_nil)⟩)⟩)⟩)⟩)⟩)⟩) (j_X7_layBest_77 K23 hK23 _ _ _ _ _ _ )
    · refine F_goto (tgt := 89) (by decide) (dk_X7_layBest 74 _ rfl) ?_
      refine F_iinc (i := 4) (n := 1) (v := (y4 + 1)) (lv' := [(4, .int (y4 + 1)), (5, .int x5), (0, .ref 0), (1, .int y1), (2, .int y2), (3, .int y3)]) rfl (by first | rfl | decide) (by decide) rfl (dk_X7_layBest 89 _ rfl) ?_
      refine F_goto (tgt := 23) (by decide) (dk_X7_layBest 92 _ rfl) ?_
      exact F_loc (List.forall_mem_cons.mpr ⟨(.tail _ (.tail _ (.head _))), (List.forall_mem_cons.mpr ⟨(.tail _ (.tail _ (.tail _ (.head _)))), (List.forall_mem_cons.mpr ⟨(.tail _ (.tail _ (.tail _ (.tail _ (.head _))))), (List.forall_mem_cons.mpr ⟨(.tail _ (.tail _ (.tail _ (.tail _ (.tail _ (.head _)))))), (List.forall_mem_cons.mpr ⟨(.head _), (fun _ z => absurd z List.not_mem_nil)⟩)⟩)⟩)⟩)⟩) (hK23 _ _ _ _ _ )
def fb_X7_layBest_23 (K23 : mM → Int32 → Int32 → Int32 → Int32 → fR Unit) (m : mM) (y1 : Int32) (y2 : Int32) (y3 : Int32) (y4 : Int32) : fR Unit :=
  (if 12 ≤ y4 then (if y2 = 0 then (sA 0 m 4 y1 y3).bind fun m2 => some ((), m2) else (sA 0 m 3 y1 y3).bind fun m3 => some ((), m3)) else (if y2 = 0 then (sA 0 m 4 y1 y4).bind fun m4 => (f_X7_layBest_53 K23 m4 y1 y2 y3 y4) else (sA 0 m 3 y1 y4).bind fun m10 => (f_X7_layBest_53 K23 m10 y1 y2 y3 y4)))
def f_X7_layBest_23  : Nat → mM → Int32 → Int32 → Int32 → Int32 → fR Unit
  | 0, _, _, _, _, _ => none
  | F + 1, m, y1, y2, y3, y4 => fb_X7_layBest_23  (f_X7_layBest_23  F) m y1 y2 y3 y4
theorem jb_X7_layBest_23 (K23 : mM → Int32 → Int32 → Int32 → Int32 → fR Unit) (hK23 : ∀ (m : mM) (y1 : Int32) (y2 : Int32) (y3 : Int32) (y4 : Int32) , JF false uU m_X7_layBest 11 23 [(0, .ref 0), (1, .int y1), (2, .int y2), (3, .int y3), (4, .int y4)] [] m (K23 m y1 y2 y3 y4)) (m : mM) (y1 : Int32) (y2 : Int32) (y3 : Int32) (y4 : Int32)  : JF false uU m_X7_layBest 11 23 [(0, .ref 0), (1, .int y1), (2, .int y2), (3, .int y3), (4, .int y4)] [] m (fb_X7_layBest_23 K23 m y1 y2 y3 y4) := by
  unfold fb_X7_layBest_23
  refine F_iload (i := 4) rfl (dk_X7_layBest 23 _ rfl) ?_
  refine F_bipush (v := 12) (by decide) (dk_X7_layBest 25 _ rfl) ?_
  refine F_icmp_ge (tgt := 95) (by decide) (dk_X7_layBest 27 _ rfl) ?_ ?_
  · refine F_iload_n (i := 2) (a := 2) rfl rfl (dk_X7_layBest 95 _ rfl) ?_
    refine F_if_eq (tgt := 109) (by decide) (dk_X7_layBest 96 _ rfl) ?_ ?_
    · refine F_aload_n (i := 0) (a := 0) rfl rfl (dk_X7_layBest 109 _ rfl) ?_
      refine F_gR (b := 4) fxM_7_6_0 fl_7_29 (dk_X7_layBest 110 _ rfl) ?_
      refine F_iload_n (i := 1) (a := 1) rfl rfl (dk_X7_layBest 113 _ rfl) ?_
      refine F_iload_n (i := 3) (a := 3) rfl rfl (dk_X7_layBest 114 _ rfl) ?_
      refine F_iast (axM_0_4) (dk_X7_layBest 115 _ rfl) (fun m2 => ?_)
      exact F_retV rfl (dk_X7_layBest 116 _ rfl)
    · refine F_aload_n (i := 0) (a := 0) rfl rfl (dk_X7_layBest 99 _ rfl) ?_
      refine F_gR (b := 3) fxM_7_5_0 fl_7_26 (dk_X7_layBest 100 _ rfl) ?_
      refine F_iload_n (i := 1) (a := 1) rfl rfl (dk_X7_layBest 103 _ rfl) ?_
      refine F_iload_n (i := 3) (a := 3) rfl rfl (dk_X7_layBest 104 _ rfl) ?_
      refine F_iast (axM_0_3) (dk_X7_layBest 105 _ rfl) (fun m3 => ?_)
      refine F_goto (tgt := 116) (by decide) (dk_X7_layBest 106 _ rfl) ?_
      exact F_retV rfl (dk_X7_layBest 116 _ rfl)
  · refine F_iload_n (i := 2) (a := 2) rfl rfl (dk_X7_layBest 30 _ rfl) ?_
    refine F_if_eq (tgt := 45) (by decide) (dk_X7_layBest 31 _ rfl) ?_ ?_
    · refine F_aload_n (i := 0) (a := 0) rfl rfl (dk_X7_layBest 45 _ rfl) ?_
      refine F_gR (b := 4) fxM_7_6_0 fl_7_29 (dk_X7_layBest 46 _ rfl) ?_
      refine F_iload_n (i := 1) (a := 1) rfl rfl (dk_X7_layBest 49 _ rfl) ?_
      refine F_iload (i := 4) rfl (dk_X7_layBest 50 _ rfl) ?_
      refine F_iast (axM_0_4) (dk_X7_layBest 52 _ rfl) (fun m4 => ?_)
      exact F_loc (fun _ z => z) (j_X7_layBest_53 K23 hK23 _ _ _ _ _ )
    · refine F_aload_n (i := 0) (a := 0) rfl rfl (dk_X7_layBest 34 _ rfl) ?_
      refine F_gR (b := 3) fxM_7_5_0 fl_7_26 (dk_X7_layBest 35 _ rfl) ?_
      refine F_iload_n (i := 1) (a := 1) rfl rfl (dk_X7_layBest 38 _ rfl) ?_
      refine F_iload (i := 4) rfl (dk_X7_layBest 39 _ rfl) ?_
      refine F_iast (axM_0_3) (dk_X7_layBest 41 _ rfl) (fun m10 => ?_)
      refine F_goto (tgt := 53) (by decide) (dk_X7_layBest 42 _ rfl) ?_
      exact F_loc (fun _ z => z) (j_X7_layBest_53 K23 hK23 _ _ _ _ _ )
theorem j_X7_layBest_23   : ∀ (F : Nat) (m : mM) (y1 : Int32) (y2 : Int32) (y3 : Int32) (y4 : Int32) , JF false uU m_X7_layBest 11 23 [(0, .ref 0), (1, .int y1), (2, .int y2), (3, .int y3), (4, .int y4)] [] m (f_X7_layBest_23  F m y1 y2 y3 y4) := by
  intro F
  induction F with
  | zero => intro m y1 y2 y3 y4 ; exact F_no
  | succ F ih => intro m y1 y2 y3 y4 ; exact jb_X7_layBest_23  (f_X7_layBest_23  F)  ih m y1 y2 y3 y4 
def f_X7_layBest (m : mM) (p1 : Int32) (p2 : Int32) : fR Unit :=
  (if p2 = 0 then (gA (mA m 4) p1).bind fun x1 => (f_X7_layBest_23  1000 m p1 p2 x1 0) else (gA (mA m 3) p1).bind fun x11 => (f_X7_layBest_23  1000 m p1 p2 x11 0))
theorem c_X7_layBest (m : mM) (p1 : Int32) (p2 : Int32)  : cF false uU m_X7_layBest 11 [.ref 0, .int p1, .int p2] m (f_X7_layBest m p1 p2) := by
  refine cF_of ok_X7_layBest (fun _ _ => Nat.le_of_ble_eq_true rfl) ?_
  unfold f_X7_layBest
  show JF _ _ _ _ _ [(0, .ref 0), (1, .int p1), (2, .int p2)] _ _ _
  refine F_iload_n (i := 2) (a := 2) rfl rfl (dk_X7_layBest 0 _ rfl) ?_
  refine F_if_eq (tgt := 13) (by decide) (dk_X7_layBest 1 _ rfl) ?_ ?_
  · refine F_aload_n (i := 0) (a := 0) rfl rfl (dk_X7_layBest 13 _ rfl) ?_
    refine F_gR (b := 4) fxM_7_6_0 fl_7_29 (dk_X7_layBest 14 _ rfl) ?_
    refine F_iload_n (i := 1) (a := 1) rfl rfl (dk_X7_layBest 17 _ rfl) ?_
    refine F_iald (axM_0_4) (dk_X7_layBest 18 _ rfl) (fun x1 => ?_)
    refine F_istore_n (lv' := [(3, .int x1), (0, .ref 0), (1, .int p1), (2, .int p2)]) (i := 3) (a := 3) rfl (by decide) rfl (dk_X7_layBest 19 _ rfl) ?_
    refine F_iconst (v := 0) (by decide) (dk_X7_layBest 20 _ rfl) ?_
    refine F_istore (lv' := [(4, .int 0), (3, .int x1), (0, .ref 0), (1, .int p1), (2, .int p2)]) (i := 4) (by decide) rfl (dk_X7_layBest 21 _ rfl) ?_
    exact F_loc (List.forall_mem_cons.mpr ⟨(.tail _ (.tail _ (.head _))), (List.forall_mem_cons.mpr ⟨(.tail _ (.tail _ (.tail _ (.head _)))), (List.forall_mem_cons.mpr ⟨(.tail _ (.tail _ (.tail _ (.tail _ (.head _))))), (List.forall_mem_cons.mpr ⟨(.tail _ (.head _)), (List.forall_mem_cons.mpr ⟨(.head _), (fun _ z => absurd z List.not_mem_nil)⟩)⟩)⟩)⟩)⟩) (j_X7_layBest_23   1000 _ _ _ _ _ )
  · refine F_aload_n (i := 0) (a := 0) rfl rfl (dk_X7_layBest 4 _ rfl) ?_
    refine F_gR (b := 3) fxM_7_5_0 fl_7_26 (dk_X7_layBest 5 _ rfl) ?_
    refine F_iload_n (i := 1) (a := 1) rfl rfl (dk_X7_layBest 8 _ rfl) ?_
    refine F_iald (axM_0_3) (dk_X7_layBest 9 _ rfl) (fun x11 => ?_)
    refine F_goto (tgt := 19) (by decide) (dk_X7_layBest 10 _ rfl) ?_
    refine F_istore_n (lv' := [(3, .int x11), (0, .ref 0), (1, .int p1), (2, .int p2)]) (i := 3) (a := 3) rfl (by decide) rfl (dk_X7_layBest 19 _ rfl) ?_
    refine F_iconst (v := 0) (by decide) (dk_X7_layBest 20 _ rfl) ?_
    refine F_istore (lv' := [(4, .int 0), (3, .int x11), (0, .ref 0), (1, .int p1), (2, .int p2)]) (i := 4) (by decide) rfl (dk_X7_layBest 21 _ rfl) ?_
    exact F_loc (List.forall_mem_cons.mpr ⟨(.tail _ (.tail _ (.head _))), (List.forall_mem_cons.mpr ⟨(.tail _ (.tail _ (.tail _ (.head _)))), (List.forall_mem_cons.mpr ⟨(.tail _ (.tail _ (.tail _ (.tail _ (.head _))))), (List.forall_mem_cons.mpr ⟨(.tail _ (.head _)), (List.forall_mem_cons.mpr ⟨(.head _), (fun _ z => absurd z List.not_mem_nil)⟩)⟩)⟩)⟩)⟩) (j_X7_layBest_23   1000 _ _ _ _ _ )
end
end
