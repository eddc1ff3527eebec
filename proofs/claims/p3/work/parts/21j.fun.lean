section
set_option maxRecDepth 100000
def f_X7_takesClause (m : mM) (p1 : Int32) : fR Int32 :=
  bnd (f_X7_takesHead m p1) fun (x1 : Int32) (m2 : mM) => (if x1 = 0 then some (0, m2) else bnd (f_X7_takesNumber m2 ) fun (x4 : Int32) (m5 : mM) => (if x4 = 0 then some (0, m5) else (sA 0 m5 11 p1 (mI m5 14)).bind fun m7 => (gA (mA m7 10) p1).bind fun x8 => (if 0 < x8 then some (1, m7) else bnd (f_X7_takes m7 32) fun (x9 : Int32) (m10 : mM) => (if x9 = 0 then some (0, m10) else bnd (f_X7_takesE m10 p1) fun (x12 : Int32) (m13 : mM) => (if x12 = 0 then some (0, m13) else some (1, m13))))))
theorem c_X7_takesClause (m : mM) (p1 : Int32)  : cF false uI m_X7_takesClause 7 [.ref 0, .int p1] m (f_X7_takesClause m p1) := by
  refine cF_of ok_X7_takesClause (fun _ _ => Nat.le_of_ble_eq_true rfl) ?_
  unfold f_X7_takesClause
  show JF _ _ _ _ _ [(0, .ref 0), (1, .int p1)] _ _ _
  refine F_aload_n (i := 0) (a := 0) rfl rfl (dk_X7_takesClause 0 _ rfl) ?_
  refine F_iload_n (i := 1) (a := 1) rfl rfl (dk_X7_takesClause 1 _ rfl) ?_
  refine F_callV (ι' := uI) (ci := 7) (b := 0) (As := [.int p1]) (d' := 5) (rfl) ok_X7_takesHead vi_X7_takesHead cl_7_244 (n := 1) (by decide +kernel) rfl rfl rfl (Nat.le_of_ble_eq_true rfl) (by omega) (dk_X7_takesClause 2 _ rfl) (c_X7_takesHead _ _ ) (fun x1 m2 => ?_)
  show JF _ _ _ _ _ _ [.int x1] _ _
  refine F_if_eq (tgt := 15) (by decide) (dk_X7_takesClause 5 _ rfl) ?_ ?_
  · refine F_iconst (v := 0) (by decide) (dk_X7_takesClause 15 _ rfl) ?_
    exact F_retB rfl (Or.inl rfl) (dk_X7_takesClause 16 _ rfl)
  · refine F_aload_n (i := 0) (a := 0) rfl rfl (dk_X7_takesClause 8 _ rfl) ?_
    refine F_callV (ι' := uI) (ci := 7) (b := 0) (As := []) (d' := 4) (rfl) ok_X7_takesNumber vi_X7_takesNumber cl_7_228 (n := 0) (by decide +kernel) rfl rfl rfl (Nat.le_of_ble_eq_true rfl) (by omega) (dk_X7_takesClause 9 _ rfl) (c_X7_takesNumber _  ) (fun x4 m5 => ?_)
    show JF _ _ _ _ _ _ [.int x4] _ _
    refine F_if_ne (tgt := 17) (by decide) (dk_X7_takesClause 12 _ rfl) ?_ ?_
    · refine F_aload_n (i := 0) (a := 0) rfl rfl (dk_X7_takesClause 17 _ rfl) ?_
      refine F_gR (b := 11) fxM_7_18_0 fl_7_66 (dk_X7_takesClause 18 _ rfl) ?_
      refine F_iload_n (i := 1) (a := 1) rfl rfl (dk_X7_takesClause 21 _ rfl) ?_
      refine F_aload_n (i := 0) (a := 0) rfl rfl (dk_X7_takesClause 22 _ rfl) ?_
      refine F_gI (n := 14) fxM_7_14_0 rfl fl_7_54 (dk_X7_takesClause 23 _ rfl) ?_
      refine F_iast (axM_0_11) (dk_X7_takesClause 26 _ rfl) (fun m7 => ?_)
      refine F_aload_n (i := 0) (a := 0) rfl rfl (dk_X7_takesClause 27 _ rfl) ?_
      refine F_gR (b := 10) fxM_7_17_0 fl_7_63 (dk_X7_takesClause 28 _ rfl) ?_
      refine F_iload_n (i := 1) (a := 1) rfl rfl (dk_X7_takesClause 31 _ rfl) ?_
      refine F_iald (axM_0_10) (dk_X7_takesClause 32 _ rfl) (fun x8 => ?_)
      refine F_if_gt (tgt := 53) (by decide) (dk_X7_takesClause 33 _ rfl) ?_ ?_
      · refine F_iconst (v := 1) (by decide) (dk_X7_takesClause 53 _ rfl) ?_
        refine F_goto (tgt := 58) (by decide) (dk_X7_takesClause 54 _ rfl) ?_
        exact F_retB rfl (Or.inr rfl) (dk_X7_takesClause 58 _ rfl)
      · refine F_aload_n (i := 0) (a := 0) rfl rfl (dk_X7_takesClause 36 _ rfl) ?_
        refine F_bipush (v := 32) (by decide) (dk_X7_takesClause 37 _ rfl) ?_
        refine F_callV (ι' := uI) (ci := 7) (b := 0) (As := [.int 32]) (d' := 3) (rfl) ok_X7_takes vi_X7_takes cl_7_213 (n := 1) (by decide +kernel) rfl rfl rfl (Nat.le_of_ble_eq_true rfl) (by omega) (dk_X7_takesClause 39 _ rfl) (c_X7_takes _ _ ) (fun x9 m10 => ?_)
        show JF _ _ _ _ _ _ [.int x9] _ _
        refine F_if_eq (tgt := 57) (by decide) (dk_X7_takesClause 42 _ rfl) ?_ ?_
        · refine F_iconst (v := 0) (by decide) (dk_X7_takesClause 57 _ rfl) ?_
          exact F_retB rfl (Or.inl rfl) (dk_X7_takesClause 58 _ rfl)
        · refine F_aload_n (i := 0) (a := 0) rfl rfl (dk_X7_takesClause 45 _ rfl) ?_
          refine F_iload_n (i := 1) (a := 1) rfl rfl (dk_X7_takesClause 46 _ rfl) ?_
          refine F_callV (ι' := uI) (ci := 7) (b := 0) (As := [.int p1]) (d' := 6) (rfl) ok_X7_takesE vi_X7_takesE cl_7_247 (n := 1) (by decide +kernel) rfl rfl rfl (Nat.le_of_ble_eq_true rfl) (by omega) (dk_X7_takesClause 47 _ rfl) (c_X7_takesE _ _ ) (fun x12 m13 => ?_)
          show JF _ _ _ _ _ _ [.int x12] _ _
          refine F_if_eq (tgt := 57) (by decide) (dk_X7_takesClause 50 _ rfl) ?_ ?_
          · refine F_iconst (v := 0) (by decide) (dk_X7_takesClause 57 _ rfl) ?_
            exact F_retB rfl (Or.inl rfl) (dk_X7_takesClause 58 _ rfl)
          · refine F_iconst (v := 1) (by decide) (dk_X7_takesClause 53 _ rfl) ?_
            refine F_goto (tgt := 58) (by decide) (dk_X7_takesClause 54 _ rfl) ?_
            exact F_retB rfl (Or.inr rfl) (dk_X7_takesClause 58 _ rfl)
    · refine F_iconst (v := 0) (by decide) (dk_X7_takesClause 15 _ rfl) ?_
      exact F_retB rfl (Or.inl rfl) (dk_X7_takesClause 16 _ rfl)
def fb_X7_goesText_15 (K15 : mM → Int32 → Int32 → fR Int32) (m : mM) (y1 : Int32) (y2 : Int32) : fR Int32 :=
  bnd (f_X7_takesClause m (((10 * y1) + y2))) fun (x3 : Int32) (m4 : mM) => (if x3 = 0 then some (0, m4) else (sA 0 m4 9 y1 (y2 + 1)).bind fun m6 => (if (mI m6 13) = (mI m6 12) then some (1, m6) else (if (y2 + 1) = 10 then some (0, m6) else bnd (f_X7_takes m6 59) fun (x7 : Int32) (m8 : mM) => (if x7 = 0 then some (0, m8) else (K15 m8 y1 (y2 + 1))))))
def f_X7_goesText_15  : Nat → mM → Int32 → Int32 → fR Int32
  | 0, _, _, _ => none
  | F + 1, m, y1, y2 => fb_X7_goesText_15  (f_X7_goesText_15  F) m y1 y2
theorem jb_X7_goesText_15 (K15 : mM → Int32 → Int32 → fR Int32) (hK15 : ∀ (m : mM) (y1 : Int32) (y2 : Int32) , JF false uI m_X7_goesText 8 15 [(0, .ref 0), (1, .int y1), (2, .int y2)] [] m (K15 m y1 y2)) (m : mM) (y1 : Int32) (y2 : Int32)  : JF false uI m_X7_goesText 8 15 [(0, .ref 0), (1, .int y1), (2, .int y2)] [] m (fb_X7_goesText_15 K15 m y1 y2) := by
  unfold fb_X7_goesText_15
  refine F_aload_n (i := 0) (a := 0) rfl rfl (dk_X7_goesText 15 _ rfl) ?_
  refine F_bipush (v := 10) (by decide) (dk_X7_goesText 16 _ rfl) ?_
  refine F_iload_n (i := 1) (a := 1) rfl rfl (dk_X7_goesText 18 _ rfl) ?_
  refine F_imul (dk_X7_goesText 19 _ rfl) ?_
  refine F_iload_n (i := 2) (a := 2) rfl rfl (dk_X7_goesText 20 _ rfl) ?_
  refine F_iadd (dk_X7_goesText 21 _ rfl) ?_
  refine F_callV (ι' := uI) (ci := 7) (b := 0) (As := [.int ((10 * y1) + y2)]) (d' := 7) (rfl) ok_X7_takesClause vi_X7_takesClause cl_7_250 (n := 1) (by decide +kernel) rfl rfl rfl (Nat.le_of_ble_eq_true rfl) (by omega) (dk_X7_goesText 22 _ rfl) (c_X7_takesClause _ _ ) (fun x3 m4 => ?_)
  show JF _ _ _ _ _ _ [.int x3] _ _
  refine F_if_ne (tgt := 30) (by decide) (dk_X7_goesText 25 _ rfl) ?_ ?_
  · refine F_iinc (i := 2) (n := 1) (v := (y2 + 1)) (lv' := [(2, .int (y2 + 1)), (0, .ref 0), (1, .int y1)]) rfl (by first | rfl | decide) (by decide) rfl (dk_X7_goesText 30 _ rfl) ?_
    refine F_aload_n (i := 0) (a := 0) rfl rfl (dk_X7_goesText 33 _ rfl) ?_
    refine F_gR (b := 9) fxM_7_16_0 fl_7_60 (dk_X7_goesText 34 _ rfl) ?_
    refine F_iload_n (i := 1) (a := 1) rfl rfl (dk_X7_goesText 37 _ rfl) ?_
    refine F_iload_n (i := 2) (a := 2) rfl rfl (dk_X7_goesText 38 _ rfl) ?_
    refine F_iast (axM_0_9) (dk_X7_goesText 39 _ rfl) (fun m6 => ?_)
    refine F_aload_n (i := 0) (a := 0) rfl rfl (dk_X7_goesText 40 _ rfl) ?_
    refine F_gI (n := 13) fxM_7_13_0 rfl fl_7_51 (dk_X7_goesText 41 _ rfl) ?_
    refine F_aload_n (i := 0) (a := 0) rfl rfl (dk_X7_goesText 44 _ rfl) ?_
    refine F_gI (n := 12) fxM_7_12_0 rfl fl_7_48 (dk_X7_goesText 45 _ rfl) ?_
    refine F_icmp_ne (tgt := 53) (by decide) (dk_X7_goesText 48 _ rfl) ?_ ?_
    · refine F_iload_n (i := 2) (a := 2) rfl rfl (dk_X7_goesText 53 _ rfl) ?_
      refine F_bipush (v := 10) (by decide) (dk_X7_goesText 54 _ rfl) ?_
      refine F_icmp_eq (tgt := 68) (by decide) (dk_X7_goesText 56 _ rfl) ?_ ?_
      · refine F_iconst (v := 0) (by decide) (dk_X7_goesText 68 _ rfl) ?_
        exact F_retB rfl (Or.inl rfl) (dk_X7_goesText 69 _ rfl)
      · refine F_aload_n (i := 0) (a := 0) rfl rfl (dk_X7_goesText 59 _ rfl) ?_
        refine F_bipush (v := 59) (by decide) (dk_X7_goesText 60 _ rfl) ?_
        refine F_callV (ι' := uI) (ci := 7) (b := 0) (As := [.int 59]) (d' := 3) (rfl) ok_X7_takes vi_X7_takes cl_7_213 (n := 1) (by decide +kernel) rfl rfl rfl (Nat.le_of_ble_eq_true rfl) (by omega) (dk_X7_goesText 62 _ rfl) (c_X7_takes _ _ ) (fun x7 m8 => ?_)
        show JF _ _ _ _ _ _ [.int x7] _ _
        refine F_if_ne (tgt := 15) (by decide) (dk_X7_goesText 65 _ rfl) ?_ ?_
        · exact F_loc (List.forall_mem_cons.mpr ⟨(.tail _ (.head _)), (List.forall_mem_cons.mpr ⟨(.tail _ (.tail _ (.head _))), (List.forall_mem_cons.mpr ⟨(.head _), (fun _ z => absurd z List.not_mem_nil)⟩)⟩)⟩) (hK15 _ _ _ )
        · refine F_iconst (v := 0) (by decide) (dk_X7_goesText 68 _ rfl) ?_
          exact F_retB rfl (Or.inl rfl) (dk_X7_goesText 69 _ rfl)
    · refine F_iconst (v := 1) (by decide) (dk_X7_goesText 51 _ rfl) ?_
      exact F_retB rfl (Or.inr rfl) (dk_X7_goesText 52 _ rfl)
  · refine F_iconst (v := 0) (by decide) (dk_X7_goesText 28 _ rfl) ?_
    exact F_retB rfl (Or.inl rfl) (dk_X7_goesText 29 _ rfl)
theorem j_X7_goesText_15   : ∀ (F : Nat) (m : mM) (y1 : Int32) (y2 : Int32) , JF false uI m_X7_goesText 8 15 [(0, .ref 0), (1, .int y1), (2, .int y2)] [] m (f_X7_goesText_15  F m y1 y2) := by
  intro F
  induction F with
  | zero => intro m y1 y2 ; exact F_no
  | succ F ih => intro m y1 y2 ; exact jb_X7_goesText_15  (f_X7_goesText_15  F)  ih m y1 y2 
def f_X7_goesText (m : mM) (p1 : Int32) : fR Int32 :=
  nmM (wI m 13 0) fun m1 => nmM (wI m1 23 (100 * p1)) fun m2 => (f_X7_goesText_15  1000 m2 p1 0)
theorem c_X7_goesText (m : mM) (p1 : Int32)  : cF false uI m_X7_goesText 8 [.ref 0, .int p1] m (f_X7_goesText m p1) := by
  refine cF_of ok_X7_goesText (fun _ _ => Nat.le_of_ble_eq_true rfl) ?_
  unfold f_X7_goesText
  show JF _ _ _ _ _ [(0, .ref 0), (1, .int p1)] _ _ _
  refine F_aload_n (i := 0) (a := 0) rfl rfl (dk_X7_goesText 0 _ rfl) ?_
  refine F_iconst (v := 0) (by decide) (dk_X7_goesText 1 _ rfl) ?_
  refine F_pI (n := 13) fxM_7_13_0 rfl fl_7_51 (fun q hq => by cases hq; rfl) trivial (dk_X7_goesText 2 _ rfl) (fun m1 => ?_)
  refine F_aload_n (i := 0) (a := 0) rfl rfl (dk_X7_goesText 5 _ rfl) ?_
  refine F_bipush (v := 100) (by decide) (dk_X7_goesText 6 _ rfl) ?_
  refine F_iload_n (i := 1) (a := 1) rfl rfl (dk_X7_goesText 8 _ rfl) ?_
  refine F_imul (dk_X7_goesText 9 _ rfl) ?_
  refine F_pI (n := 23) fxM_7_23_0 rfl fl_7_81 (fun q hq => by cases hq; rfl) trivial (dk_X7_goesText 10 _ rfl) (fun m2 => ?_)
  refine F_iconst (v := 0) (by decide) (dk_X7_goesText 13 _ rfl) ?_
  refine F_istore_n (lv' := [(2, .int 0), (0, .ref 0), (1, .int p1)]) (i := 2) (a := 2) rfl (by decide) rfl (dk_X7_goesText 14 _ rfl) ?_
  exact F_loc (List.forall_mem_cons.mpr ⟨(.tail _ (.head _)), (List.forall_mem_cons.mpr ⟨(.tail _ (.tail _ (.head _))), (List.forall_mem_cons.mpr ⟨(.head _), (fun _ z => absurd z List.not_mem_nil)⟩)⟩)⟩) (j_X7_goesText_15   1000 _ _ _ )
def f_X7_town (m : mM)  : fR Int32 :=
  (if (mI m 10) = 6 then some ((-4), m) else bnd (f_X7_goesText m (mI m 10)) fun (x1 : Int32) (m2 : mM) => nmM (wI m2 12 0) fun m4 => (if x1 = 0 then some (((-10) - (mI m4 13)), m4) else nmM (wI m4 11 (mI m4 10)) fun m5 => nmM (wI m5 10 (((mI m5 10) + 1))) fun m6 => some ((mI m6 11), m6)))
theorem c_X7_town (m : mM)   : cF false uI m_X7_town 9 [.ref 0] m (f_X7_town m ) := by
  refine cF_of ok_X7_town (fun _ _ => Nat.le_of_ble_eq_true rfl) ?_
  unfold f_X7_town
  show JF _ _ _ _ _ [(0, .ref 0)] _ _ _
  refine F_aload_n (i := 0) (a := 0) rfl rfl (dk_X7_town 0 _ rfl) ?_
  refine F_gI (n := 10) fxM_7_10_0 rfl fl_7_42 (dk_X7_town 1 _ rfl) ?_
  refine F_bipush (v := 6) (by decide) (dk_X7_town 4 _ rfl) ?_
  refine F_icmp_ne (tgt := 12) (by decide) (dk_X7_town 6 _ rfl) ?_ ?_
  · refine F_aload_n (i := 0) (a := 0) rfl rfl (dk_X7_town 12 _ rfl) ?_
    refine F_aload_n (i := 0) (a := 0) rfl rfl (dk_X7_town 13 _ rfl) ?_
    refine F_gI (n := 10) fxM_7_10_0 rfl fl_7_42 (dk_X7_town 14 _ rfl) ?_
    refine F_callV (ι' := uI) (ci := 7) (b := 0) (As := [.int (mI m 10)]) (d' := 8) (rfl) ok_X7_goesText vi_X7_goesText cl_7_253 (n := 1) (by decide +kernel) rfl rfl rfl (Nat.le_of_ble_eq_true rfl) (by omega) (dk_X7_town 17 _ rfl) (c_X7_goesText _ _ ) (fun x1 m2 => ?_)
    show JF _ _ _ _ _ _ [.int x1] _ _
    refine F_istore_n (lv' := [(1, .int x1), (0, .ref 0)]) (i := 1) (a := 1) rfl (by decide) rfl (dk_X7_town 20 _ rfl) ?_
    refine F_aload_n (i := 0) (a := 0) rfl rfl (dk_X7_town 21 _ rfl) ?_
    refine F_iconst (v := 0) (by decide) (dk_X7_town 22 _ rfl) ?_
    refine F_pI (n := 12) fxM_7_12_0 rfl fl_7_48 (fun q hq => by cases hq; rfl) trivial (dk_X7_town 23 _ rfl) (fun m4 => ?_)
    refine F_iload_n (i := 1) (a := 1) rfl rfl (dk_X7_town 26 _ rfl) ?_
    refine F_if_ne (tgt := 38) (by decide) (dk_X7_town 27 _ rfl) ?_ ?_
    · refine F_aload_n (i := 0) (a := 0) rfl rfl (dk_X7_town 38 _ rfl) ?_
      refine F_aload_n (i := 0) (a := 0) rfl rfl (dk_X7_town 39 _ rfl) ?_
      refine F_gI (n := 10) fxM_7_10_0 rfl fl_7_42 (dk_X7_town 40 _ rfl) ?_
      refine F_pI (n := 11) fxM_7_11_0 rfl fl_7_45 (fun q hq => by cases hq; rfl) trivial (dk_X7_town 43 _ rfl) (fun m5 => ?_)
      refine F_aload_n (i := 0) (a := 0) rfl rfl (dk_X7_town 46 _ rfl) ?_
      refine F_dup rfl (dk_X7_town 47 _ rfl) ?_
      refine F_gI (n := 10) fxM_7_10_0 rfl fl_7_42 (dk_X7_town 48 _ rfl) ?_
      refine F_iconst (v := 1) (by decide) (dk_X7_town 51 _ rfl) ?_
      refine F_iadd (dk_X7_town 52 _ rfl) ?_
      refine F_pI (n := 10) fxM_7_10_0 rfl fl_7_42 (fun q hq => by cases hq; rfl) trivial (dk_X7_town 53 _ rfl) (fun m6 => ?_)
      refine F_aload_n (i := 0) (a := 0) rfl rfl (dk_X7_town 56 _ rfl) ?_
      refine F_gI (n := 11) fxM_7_11_0 rfl fl_7_45 (dk_X7_town 57 _ rfl) ?_
      exact F_ret rfl (dk_X7_town 60 _ rfl)
    · refine F_bipush (v := (-10)) (by decide) (dk_X7_town 30 _ rfl) ?_
      refine F_aload_n (i := 0) (a := 0) rfl rfl (dk_X7_town 32 _ rfl) ?_
      refine F_gI (n := 13) fxM_7_13_0 rfl fl_7_51 (dk_X7_town 33 _ rfl) ?_
      refine F_isub (dk_X7_town 36 _ rfl) ?_
      exact F_ret rfl (dk_X7_town 37 _ rfl)
  · refine F_bipush (v := (-4)) (by decide) (dk_X7_town 9 _ rfl) ?_
    exact F_ret rfl (dk_X7_town 11 _ rfl)
def f_X7_clauseFrom (m : mM)  : fR Int32 :=
  (if 0 ≤ (mI m 11) then some ((10 * (mI m 11)), m) else some (0, m))
theorem c_X7_clauseFrom (m : mM)   : cF false uI m_X7_clauseFrom 2 [.ref 0] m (f_X7_clauseFrom m ) := by
  refine cF_of ok_X7_clauseFrom (fun _ _ => Nat.le_of_ble_eq_true rfl) ?_
  unfold f_X7_clauseFrom
  show JF _ _ _ _ _ [(0, .ref 0)] _ _ _
  refine F_aload_n (i := 0) (a := 0) rfl rfl (dk_X7_clauseFrom 0 _ rfl) ?_
  refine F_gI (n := 11) fxM_7_11_0 rfl fl_7_45 (dk_X7_clauseFrom 1 _ rfl) ?_
  refine F_if_ge (tgt := 11) (by decide) (dk_X7_clauseFrom 4 _ rfl) ?_ ?_
  · refine F_bipush (v := 10) (by decide) (dk_X7_clauseFrom 11 _ rfl) ?_
    refine F_aload_n (i := 0) (a := 0) rfl rfl (dk_X7_clauseFrom 13 _ rfl) ?_
    refine F_gI (n := 11) fxM_7_11_0 rfl fl_7_45 (dk_X7_clauseFrom 14 _ rfl) ?_
    refine F_imul (dk_X7_clauseFrom 17 _ rfl) ?_
    exact F_ret rfl (dk_X7_clauseFrom 18 _ rfl)
  · refine F_iconst (v := 0) (by decide) (dk_X7_clauseFrom 7 _ rfl) ?_
    refine F_goto (tgt := 18) (by decide) (dk_X7_clauseFrom 8 _ rfl) ?_
    exact F_ret rfl (dk_X7_clauseFrom 18 _ rfl)
def f_X7_clauseTo (m : mM)  : fR Int32 :=
  (if 0 ≤ (mI m 11) then (gA (mA m 9) (mI m 11)).bind fun x1 => some (((10 * (mI m 11)) + x1), m) else some (0, m))
theorem c_X7_clauseTo (m : mM)   : cF false uI m_X7_clauseTo 2 [.ref 0] m (f_X7_clauseTo m ) := by
  refine cF_of ok_X7_clauseTo (fun _ _ => Nat.le_of_ble_eq_true rfl) ?_
  unfold f_X7_clauseTo
  show JF _ _ _ _ _ [(0, .ref 0)] _ _ _
  refine F_aload_n (i := 0) (a := 0) rfl rfl (dk_X7_clauseTo 0 _ rfl) ?_
  refine F_gI (n := 11) fxM_7_11_0 rfl fl_7_45 (dk_X7_clauseTo 1 _ rfl) ?_
  refine F_if_ge (tgt := 11) (by decide) (dk_X7_clauseTo 4 _ rfl) ?_ ?_
  · refine F_bipush (v := 10) (by decide) (dk_X7_clauseTo 11 _ rfl) ?_
    refine F_aload_n (i := 0) (a := 0) rfl rfl (dk_X7_clauseTo 13 _ rfl) ?_
    refine F_gI (n := 11) fxM_7_11_0 rfl fl_7_45 (dk_X7_clauseTo 14 _ rfl) ?_
    refine F_imul (dk_X7_clauseTo 17 _ rfl) ?_
    refine F_aload_n (i := 0) (a := 0) rfl rfl (dk_X7_clauseTo 18 _ rfl) ?_
    refine F_gR (b := 9) fxM_7_16_0 fl_7_60 (dk_X7_clauseTo 19 _ rfl) ?_
    refine F_aload_n (i := 0) (a := 0) rfl rfl (dk_X7_clauseTo 22 _ rfl) ?_
    refine F_gI (n := 11) fxM_7_11_0 rfl fl_7_45 (dk_X7_clauseTo 23 _ rfl) ?_
    refine F_iald (axM_0_9) (dk_X7_clauseTo 26 _ rfl) (fun x1 => ?_)
    refine F_iadd (dk_X7_clauseTo 27 _ rfl) ?_
    exact F_ret rfl (dk_X7_clauseTo 28 _ rfl)
  · refine F_iconst (v := 0) (by decide) (dk_X7_clauseTo 7 _ rfl) ?_
    refine F_goto (tgt := 28) (by decide) (dk_X7_clauseTo 8 _ rfl) ?_
    exact F_ret rfl (dk_X7_clauseTo 28 _ rfl)
def fb_X7_lastOf_8 (K8 : mM → Int32 → Int32 → Int32 → fR Int32) (m : mM) (y1 : Int32) (y3 : Int32) (y4 : Int32) : fR Int32 :=
  bnd (f_X7_clauseTo m ) fun (x4 : Int32) (m5 : mM) => (if x4 ≤ y4 then some (y3, m5) else (gA (mA m5 10) y4).bind fun x7 => (if x7 = y1 then (gA (mA m5 11) y4).bind fun x8 => (K8 m5 y1 x8 (y4 + 1)) else (K8 m5 y1 y3 (y4 + 1))))
def f_X7_lastOf_8  : Nat → mM → Int32 → Int32 → Int32 → fR Int32
  | 0, _, _, _, _ => none
  | F + 1, m, y1, y3, y4 => fb_X7_lastOf_8  (f_X7_lastOf_8  F) m y1 y3 y4
theorem jb_X7_lastOf_8 (K8 : mM → Int32 → Int32 → Int32 → fR Int32) (hK8 : ∀ (m : mM) (y1 : Int32) (y3 : Int32) (y4 : Int32) , JF false uI m_X7_lastOf 3 8 [(0, .ref 0), (1, .int y1), (3, .int y3), (4, .int y4)] [] m (K8 m y1 y3 y4)) (m : mM) (y1 : Int32) (y3 : Int32) (y4 : Int32)  : JF false uI m_X7_lastOf 3 8 [(0, .ref 0), (1, .int y1), (3, .int y3), (4, .int y4)] [] m (fb_X7_lastOf_8 K8 m y1 y3 y4) := by
  unfold fb_X7_lastOf_8
  refine F_iload (i := 4) rfl (dk_X7_lastOf 8 _ rfl) ?_
  refine F_aload_n (i := 0) (a := 0) rfl rfl (dk_X7_lastOf 10 _ rfl) ?_
  refine F_callV (ι' := uI) (ci := 7) (b := 0) (As := []) (d' := 2) (rfl) ok_X7_clauseTo vi_X7_clauseTo cl_7_259 (n := 0) (by decide +kernel) rfl rfl rfl (Nat.le_of_ble_eq_true rfl) (by omega) (dk_X7_lastOf 11 _ rfl) (c_X7_clauseTo _  ) (fun x4 m5 => ?_)
  show JF _ _ _ _ _ _ [.int x4, .int y4] _ _
  refine F_icmp_ge (tgt := 46) (by decide) (dk_X7_lastOf 14 _ rfl) ?_ ?_
  · refine F_iload_n (i := 3) (a := 3) rfl rfl (dk_X7_lastOf 46 _ rfl) ?_
    exact F_ret rfl (dk_X7_lastOf 47 _ rfl)
  · refine F_aload_n (i := 0) (a := 0) rfl rfl (dk_X7_lastOf 17 _ rfl) ?_
    refine F_gR (b := 10) fxM_7_17_0 fl_7_63 (dk_X7_lastOf 18 _ rfl) ?_
    refine F_iload (i := 4) rfl (dk_X7_lastOf 21 _ rfl) ?_
    refine F_iald (axM_0_10) (dk_X7_lastOf 23 _ rfl) (fun x7 => ?_)
    refine F_iload_n (i := 1) (a := 1) rfl rfl (dk_X7_lastOf 24 _ rfl) ?_
    refine F_icmp_ne (tgt := 38) (by decide) (dk_X7_lastOf 25 _ rfl) ?_ ?_
    · refine F_iload_n (i := 3) (a := 3) rfl rfl (dk_X7_lastOf 38 _ rfl) ?_
      refine F_istore_n (lv' := [(3, .int y3), (0, .ref 0), (1, .int y1), (4, .int y4)]) (i := 3) (a := 3) rfl (by decide) rfl (dk_X7_lastOf 39 _ rfl) ?_
      refine F_iinc (i := 4) (n := 1) (v := (y4 + 1)) (lv' := [(4, .int (y4 + 1)), (3, .int y3), (0, .ref 0), (1, .int y1)]) rfl (by first | rfl | decide) (by decide) rfl (dk_X7_lastOf 40 _ rfl) ?_
      refine F_goto (tgt := 8) (by decide) (dk_X7_lastOf 43 _ rfl) ?_
      exact F_loc (List.forall_mem_cons.mpr ⟨(.tail _ (.tail _ (.head _))), (List.forall_mem_cons.mpr ⟨(.tail _ (.tail _ (.tail _ (.head _)))), (List.forall_mem_cons.mpr ⟨(.tail _ (.head _)), (List.forall_mem_cons.mpr ⟨(.head _), (fun _ z => absurd z List.not_mem_nil)⟩)⟩)⟩)⟩) (hK8 _ _ _ _ )
    · refine F_aload_n (i := 0) (a := 0) rfl rfl (dk_X7_lastOf 28 _ rfl) ?_
      refine F_gR (b := 11) fxM_7_18_0 fl_7_66 (dk_X7_lastOf 29 _ rfl) ?_
      refine F_iload (i := 4) rfl (dk_X7_lastOf 32 _ rfl) ?_
      refine F_iald (axM_0_11) (dk_X7_lastOf 34 _ rfl) (fun x8 => ?_)
      refine F_goto (tgt := 39) (by decide) (dk_X7_lastOf 35 _ rfl) ?_
      refine F_istore_n (lv' := [(3, .int x8), (0, .ref 0), (1, .int y1), (4, .int y4)]) (i := 3) (a := 3) rfl (by decide) rfl (dk_X7_lastOf 39 _ rfl) ?_
      refine F_iinc (i := 4) (n := 1) (v := (y4 + 1)) (lv' := [(4, .int (y4 + 1)), (3, .int x8), (0, .ref 0), (1, .int y1)]) rfl (by first | rfl | decide) (by decide) rfl (dk_X7_lastOf 40 _ rfl) ?_
      refine F_goto (tgt := 8) (by decide) (dk_X7_lastOf 43 _ rfl) ?_
      exact F_loc (List.forall_mem_cons.mpr ⟨(.tail _ (.tail _ (.head _))), (List.forall_mem_cons.mpr ⟨(.tail _ (.tail _ (.tail _ (.head _)))), (List.forall_mem_cons.mpr ⟨(.tail _ (.head _)), (List.forall_mem_cons.mpr ⟨(.head _), (fun _ z => absurd z List.not_mem_nil)⟩)⟩)⟩)⟩) (hK8 _ _ _ _ )
theorem j_X7_lastOf_8   : ∀ (F : Nat) (m : mM) (y1 : Int32) (y3 : Int32) (y4 : Int32) , JF false uI m_X7_lastOf 3 8 [(0, .ref 0), (1, .int y1), (3, .int y3), (4, .int y4)] [] m (f_X7_lastOf_8  F m y1 y3 y4) := by
  intro F
  induction F with
  | zero => intro m y1 y3 y4 ; exact F_no
  | succ F ih => intro m y1 y3 y4 ; exact jb_X7_lastOf_8  (f_X7_lastOf_8  F)  ih m y1 y3 y4 
def f_X7_lastOf (m : mM) (p1 : Int32) (p2 : Int32) : fR Int32 :=
  bnd (f_X7_clauseFrom m ) fun (x1 : Int32) (m2 : mM) => (f_X7_lastOf_8  1000 m2 p1 p2 x1)
theorem c_X7_lastOf (m : mM) (p1 : Int32) (p2 : Int32)  : cF false uI m_X7_lastOf 3 [.ref 0, .int p1, .int p2] m (f_X7_lastOf m p1 p2) := by
  refine cF_of ok_X7_lastOf (fun _ _ => Nat.le_of_ble_eq_true rfl) ?_
  unfold f_X7_lastOf
  show JF _ _ _ _ _ [(0, .ref 0), (1, .int p1), (2, .int p2)] _ _ _
  refine F_iload_n (i := 2) (a := 2) rfl rfl (dk_X7_lastOf 0 _ rfl) ?_
  refine F_istore_n (lv' := [(3, .int p2), (0, .ref 0), (1, .int p1), (2, .int p2)]) (i := 3) (a := 3) rfl (by decide) rfl (dk_X7_lastOf 1 _ rfl) ?_
  refine F_aload_n (i := 0) (a := 0) rfl rfl (dk_X7_lastOf 2 _ rfl) ?_
  refine F_callV (ι' := uI) (ci := 7) (b := 0) (As := []) (d' := 2) (rfl) ok_X7_clauseFrom vi_X7_clauseFrom cl_7_256 (n := 0) (by decide +kernel) rfl rfl rfl (Nat.le_of_ble_eq_true rfl) (by omega) (dk_X7_lastOf 3 _ rfl) (c_X7_clauseFrom _  ) (fun x1 m2 => ?_)
  show JF _ _ _ _ _ _ [.int x1] _ _
  refine F_istore (lv' := [(4, .int x1), (3, .int p2), (0, .ref 0), (1, .int p1), (2, .int p2)]) (i := 4) (by decide) rfl (dk_X7_lastOf 6 _ rfl) ?_
  exact F_loc (List.forall_mem_cons.mpr ⟨(.tail _ (.tail _ (.head _))), (List.forall_mem_cons.mpr ⟨(.tail _ (.tail _ (.tail _ (.head _)))), (List.forall_mem_cons.mpr ⟨(.tail _ (.head _)), (List.forall_mem_cons.mpr ⟨(.head _), (fun _ z => absurd z List.not_mem_nil)⟩)⟩)⟩)⟩) (j_X7_lastOf_8   1000 _ _ _ _ )
def f_X7_dueNow (m : mM)  : fR Int32 :=
  (if 0 ≤ (mI m 27) then some ((mI m 27), m) else bnd (f_X7_lastOf m 1 10) fun (x1 : Int32) (m2 : mM) => some (x1, m2))
theorem c_X7_dueNow (m : mM)   : cF false uI m_X7_dueNow 4 [.ref 0] m (f_X7_dueNow m ) := by
  refine cF_of ok_X7_dueNow (fun _ _ => Nat.le_of_ble_eq_true rfl) ?_
  unfold f_X7_dueNow
  show JF _ _ _ _ _ [(0, .ref 0)] _ _ _
  refine F_aload_n (i := 0) (a := 0) rfl rfl (dk_X7_dueNow 0 _ rfl) ?_
  refine F_gI (n := 27) fxM_7_27_0 rfl fl_7_93 (dk_X7_dueNow 1 _ rfl) ?_
  refine F_if_ge (tgt := 17) (by decide) (dk_X7_dueNow 4 _ rfl) ?_ ?_
  · refine F_aload_n (i := 0) (a := 0) rfl rfl (dk_X7_dueNow 17 _ rfl) ?_
    refine F_gI (n := 27) fxM_7_27_0 rfl fl_7_93 (dk_X7_dueNow 18 _ rfl) ?_
    exact F_ret rfl (dk_X7_dueNow 21 _ rfl)
  · refine F_aload_n (i := 0) (a := 0) rfl rfl (dk_X7_dueNow 7 _ rfl) ?_
    refine F_iconst (v := 1) (by decide) (dk_X7_dueNow 8 _ rfl) ?_
    refine F_bipush (v := 10) (by decide) (dk_X7_dueNow 9 _ rfl) ?_
    refine F_callV (ι' := uI) (ci := 7) (b := 0) (As := [.int 1, .int 10]) (d' := 3) (rfl) ok_X7_lastOf vi_X7_lastOf cl_7_262 (n := 2) (by decide +kernel) rfl rfl rfl (Nat.le_of_ble_eq_true rfl) (by omega) (dk_X7_dueNow 11 _ rfl) (c_X7_lastOf _ _ _ ) (fun x1 m2 => ?_)
    show JF _ _ _ _ _ _ [.int x1] _ _
    refine F_goto (tgt := 21) (by decide) (dk_X7_dueNow 14 _ rfl) ?_
    exact F_ret rfl (dk_X7_dueNow 21 _ rfl)
def fb_X7_manyBorn_4 (K4 : mM → Int32 → Int32 → Int32 → fR Int32) (m : mM) (y1 : Int32) (y2 : Int32) (y3 : Int32) : fR Int32 :=
  (if (mI m 0) ≤ y3 then some (y2, m) else (gA (mA m 7) y3).bind fun x1 => (if x1 = 0 then nmI (y2 + 0) fun v2 => (K4 m y1 v2 (y3 + 1)) else (gA (mA m 3) y3).bind fun x3 => (if x3 = y1 then nmI (y2 + 1) fun v5 => (K4 m y1 v5 (y3 + 1)) else nmI (y2 + 0) fun v4 => (K4 m y1 v4 (y3 + 1)))))
def f_X7_manyBorn_4  : Nat → mM → Int32 → Int32 → Int32 → fR Int32
  | 0, _, _, _, _ => none
  | F + 1, m, y1, y2, y3 => fb_X7_manyBorn_4  (f_X7_manyBorn_4  F) m y1 y2 y3
theorem jb_X7_manyBorn_4 (K4 : mM → Int32 → Int32 → Int32 → fR Int32) (hK4 : ∀ (m : mM) (y1 : Int32) (y2 : Int32) (y3 : Int32) , JF false uI m_X7_manyBorn 2 4 [(0, .ref 0), (1, .int y1), (2, .int y2), (3, .int y3)] [] m (K4 m y1 y2 y3)) (m : mM) (y1 : Int32) (y2 : Int32) (y3 : Int32)  : JF false uI m_X7_manyBorn 2 4 [(0, .ref 0), (1, .int y1), (2, .int y2), (3, .int y3)] [] m (fb_X7_manyBorn_4 K4 m y1 y2 y3) := by
  unfold fb_X7_manyBorn_4
  refine F_iload_n (i := 3) (a := 3) rfl rfl (dk_X7_manyBorn 4 _ rfl) ?_
  refine F_aload_n (i := 0) (a := 0) rfl rfl (dk_X7_manyBorn 5 _ rfl) ?_
  refine F_gI (n := 0) fxM_7_0_0 rfl fl_7_7 (dk_X7_manyBorn 6 _ rfl) ?_
  refine F_icmp_ge (tgt := 45) (by decide) (dk_X7_manyBorn 9 _ rfl) ?_ ?_
  · refine F_iload_n (i := 2) (a := 2) rfl rfl (dk_X7_manyBorn 45 _ rfl) ?_
    exact F_ret rfl (dk_X7_manyBorn 46 _ rfl)
  · refine F_iload_n (i := 2) (a := 2) rfl rfl (dk_X7_manyBorn 12 _ rfl) ?_
    refine F_aload_n (i := 0) (a := 0) rfl rfl (dk_X7_manyBorn 13 _ rfl) ?_
    refine F_gR (b := 7) fxM_7_9_0 fl_7_38 (dk_X7_manyBorn 14 _ rfl) ?_
    refine F_iload_n (i := 3) (a := 3) rfl rfl (dk_X7_manyBorn 17 _ rfl) ?_
    refine F_zald (axM_3_7) (dk_X7_manyBorn 18 _ rfl) (fun x1 => ?_)
    refine F_if_eq (tgt := 36) (by decide) (dk_X7_manyBorn 19 _ rfl) ?_ ?_
    · refine F_iconst (v := 0) (by decide) (dk_X7_manyBorn 36 _ rfl) ?_
      refine F_iadd (dk_X7_manyBorn 37 _ rfl) ?_
      refine F_nm (fun v2 => ?_)
      refine F_istore_n (lv' := [(2, .int v2), (0, .ref 0), (1, .int y1), (3, .int y3)]) (i := 2) (a := 2) rfl (by decide) rfl (dk_X7_manyBorn 38 _ rfl) ?_
      refine F_iinc (i := 3) (n := 1) (v := (y3 + 1)) (lv' := [(3, .int (y3 + 1)), (2, .int v2), (0, .ref 0), (1, .int y1)]) rfl (by first | rfl | decide) (by decide) rfl (dk_X7_manyBorn 39 _ rfl) ?_
      refine F_goto (tgt := 4) (by decide) (dk_X7_manyBorn 42 _ rfl) ?_
      exact F_loc (List.forall_mem_cons.mpr ⟨(.tail _ (.tail _ (.head _))), (List.forall_mem_cons.mpr ⟨(.tail _ (.tail _ (.tail _ (.head _)))), (List.forall_mem_cons.mpr ⟨(.tail _ (.head _)), (List.forall_mem_cons.mpr ⟨(.head _), (fun _ z => absurd z List.not_mem_nil)⟩)⟩)⟩)⟩) (hK4 _ _ _ _ )
    · refine F_aload_n (i := 0) (a := 0) rfl rfl (dk_X7_manyBorn 22 _ rfl) ?_
      refine F_gR (b := 3) fxM_7_5_0 fl_7_26 (dk_X7_manyBorn 23 _ rfl) ?_
      refine F_iload_n (i := 3) (a := 3) rfl rfl (dk_X7_manyBorn 26 _ rfl) ?_
      refine F_iald (axM_0_3) (dk_X7_manyBorn 27 _ rfl) (fun x3 => ?_)
      refine F_iload_n (i := 1) (a := 1) rfl rfl (dk_X7_manyBorn 28 _ rfl) ?_
      refine F_icmp_ne (tgt := 36) (by decide) (dk_X7_manyBorn 29 _ rfl) ?_ ?_
      · refine F_iconst (v := 0) (by decide) (dk_X7_manyBorn 36 _ rfl) ?_
        refine F_iadd (dk_X7_manyBorn 37 _ rfl) ?_
        refine F_nm (fun v4 => ?_)
        refine F_istore_n (lv' := [(2, .int v4), (0, .ref 0), (1, .int y1), (3, .int y3)]) (i := 2) (a := 2) rfl (by decide) rfl (dk_X7_manyBorn 38 _ rfl) ?_
        refine F_iinc (i := 3) (n := 1) (v := (y3 + 1)) (lv' := [(3, .int (y3 + 1)), (2, .int v4), (0, .ref 0), (1, .int y1)]) rfl (by first | rfl | decide) (by decide) rfl (dk_X7_manyBorn 39 _ rfl) ?_
        refine F_goto (tgt := 4) (by decide) (dk_X7_manyBorn 42 _ rfl) ?_
        exact F_loc (List.forall_mem_cons.mpr ⟨(.tail _ (.tail _ (.head _))), (List.forall_mem_cons.mpr ⟨(.tail _ (.tail _ (.tail _ (.head _)))), (List.forall_mem_cons.mpr ⟨(.tail _ (.head _)), (List.forall_mem_cons.mpr ⟨(.head _), (fun _ z => absurd z List.not_mem_nil)⟩)⟩)⟩)⟩) (hK4 _ _ _ _ )
      · refine F_iconst (v := 1) (by decide) (dk_X7_manyBorn 32 _ rfl) ?_
        refine F_goto (tgt := 37) (by decide) (dk_X7_manyBorn 33 _ rfl) ?_
        refine F_iadd (dk_X7_manyBorn 37 _ rfl) ?_
        refine F_nm (fun v5 => ?_)
        refine F_istore_n (lv' := [(2, .int v5), (0, .ref 0), (1, .int y1), (3, .int y3)]) (i := 2) (a := 2) rfl (by decide) rfl (dk_X7_manyBorn 38 _ rfl) ?_
        refine F_iinc (i := 3) (n := 1) (v := (y3 + 1)) (lv' := [(3, .int (y3 + 1)), (2, .int v5), (0, .ref 0), (1, .int y1)]) rfl (by first | rfl | decide) (by decide) rfl (dk_X7_manyBorn 39 _ rfl) ?_
        refine F_goto (tgt := 4) (by decide) (dk_X7_manyBorn 42 _ rfl) ?_
        exact F_loc (List.forall_mem_cons.mpr ⟨(.tail _ (.tail _ (.head _))), (List.forall_mem_cons.mpr ⟨(.tail _ (.tail _ (.tail _ (.head _)))), (List.forall_mem_cons.mpr ⟨(.tail _ (.head _)), (List.forall_mem_cons.mpr ⟨(.head _), (fun _ z => absurd z List.not_mem_nil)⟩)⟩)⟩)⟩) (hK4 _ _ _ _ )
theorem j_X7_manyBorn_4   : ∀ (F : Nat) (m : mM) (y1 : Int32) (y2 : Int32) (y3 : Int32) , JF false uI m_X7_manyBorn 2 4 [(0, .ref 0), (1, .int y1), (2, .int y2), (3, .int y3)] [] m (f_X7_manyBorn_4  F m y1 y2 y3) := by
  intro F
  induction F with
  | zero => intro m y1 y2 y3 ; exact F_no
  | succ F ih => intro m y1 y2 y3 ; exact jb_X7_manyBorn_4  (f_X7_manyBorn_4  F)  ih m y1 y2 y3 
def f_X7_manyBorn (m : mM) (p1 : Int32) : fR Int32 :=
  (f_X7_manyBorn_4  1000 m p1 0 0)
theorem c_X7_manyBorn (m : mM) (p1 : Int32)  : cF false uI m_X7_manyBorn 2 [.ref 0, .int p1] m (f_X7_manyBorn m p1) := by
  refine cF_of ok_X7_manyBorn (fun _ _ => Nat.le_of_ble_eq_true rfl) ?_
  unfold f_X7_manyBorn
  show JF _ _ _ _ _ [(0, .ref 0), (1, .int p1)] _ _ _
  refine F_iconst (v := 0) (by decide) (dk_X7_manyBorn 0 _ rfl) ?_
  refine F_istore_n (lv' := [(2, .int 0), (0, .ref 0), (1, .int p1)]) (i := 2) (a := 2) rfl (by decide) rfl (dk_X7_manyBorn 1 _ rfl) ?_
  refine F_iconst (v := 0) (by decide) (dk_X7_manyBorn 2 _ rfl) ?_
  refine F_istore_n (lv' := [(3, .int 0), (2, .int 0), (0, .ref 0), (1, .int p1)]) (i := 3) (a := 3) rfl (by decide) rfl (dk_X7_manyBorn 3 _ rfl) ?_
  exact F_loc (List.forall_mem_cons.mpr ⟨(.tail _ (.tail _ (.head _))), (List.forall_mem_cons.mpr ⟨(.tail _ (.tail _ (.tail _ (.head _)))), (List.forall_mem_cons.mpr ⟨(.tail _ (.head _)), (List.forall_mem_cons.mpr ⟨(.head _), (fun _ z => absurd z List.not_mem_nil)⟩)⟩)⟩)⟩) (j_X7_manyBorn_4   1000 _ _ _ _ )
def f_X7_factOf (m : mM) (p1 : Int32) (p2 : Int32) (p3 : Int32) : fR Int32 :=
  (if p1 = 0 then some (p2, m) else if p1 = 1 then (gA (mA m 1) p2).bind fun x2 => some (x2, m) else if p1 = 2 then some (p3, m) else if p1 = 3 then bnd (f_X7_manyBorn m p3) fun (x3 : Int32) (m4 : mM) => some (x3, m4) else if p1 = 4 then (rmI (mI m 2) 10).bind fun x6 => some (x6, m) else (gA (mA m 3) p2).bind fun x7 => some (x7, m))
theorem c_X7_factOf (m : mM) (p1 : Int32) (p2 : Int32) (p3 : Int32)  : cF false uI m_X7_factOf 3 [.ref 0, .int p1, .int p2, .int p3] m (f_X7_factOf m p1 p2 p3) := by
  refine cF_of ok_X7_factOf (fun _ _ => Nat.le_of_ble_eq_true rfl) ?_
  unfold f_X7_factOf
  show JF _ _ _ _ _ [(0, .ref 0), (1, .int p1), (2, .int p2), (3, .int p3)] _ _ _
  refine F_iload_n (i := 1) (a := 1) rfl rfl (dk_X7_factOf 0 _ rfl) ?_
  refine F_case (fun c1_0 => ?_) (fun c1_0 => ?_)
  · rw [c1_0]; refine F_tin (off := 35) (tgt := 36) (by decide) (by decide) rfl (by decide) (dk_X7_factOf 1 _ rfl) ?_
    refine F_iload_n (i := 2) (a := 2) rfl rfl (dk_X7_factOf 36 _ rfl) ?_
    exact F_ret rfl (dk_X7_factOf 37 _ rfl)
  refine F_case (fun c1_1 => ?_) (fun c1_1 => ?_)
  · rw [c1_1]; refine F_tin (off := 37) (tgt := 38) (by decide) (by decide) rfl (by decide) (dk_X7_factOf 1 _ rfl) ?_
    refine F_aload_n (i := 0) (a := 0) rfl rfl (dk_X7_factOf 38 _ rfl) ?_
    refine F_gR (b := 1) fxM_7_3_0 fl_7_19 (dk_X7_factOf 39 _ rfl) ?_
    refine F_iload_n (i := 2) (a := 2) rfl rfl (dk_X7_factOf 42 _ rfl) ?_
    refine F_iald (axM_0_1) (dk_X7_factOf 43 _ rfl) (fun x2 => ?_)
    exact F_ret rfl (dk_X7_factOf 44 _ rfl)
  refine F_case (fun c1_2 => ?_) (fun c1_2 => ?_)
  · rw [c1_2]; refine F_tin (off := 44) (tgt := 45) (by decide) (by decide) rfl (by decide) (dk_X7_factOf 1 _ rfl) ?_
    refine F_iload_n (i := 3) (a := 3) rfl rfl (dk_X7_factOf 45 _ rfl) ?_
    exact F_ret rfl (dk_X7_factOf 46 _ rfl)
  refine F_case (fun c1_3 => ?_) (fun c1_3 => ?_)
  · rw [c1_3]; refine F_tin (off := 46) (tgt := 47) (by decide) (by decide) rfl (by decide) (dk_X7_factOf 1 _ rfl) ?_
    refine F_aload_n (i := 0) (a := 0) rfl rfl (dk_X7_factOf 47 _ rfl) ?_
    refine F_iload_n (i := 3) (a := 3) rfl rfl (dk_X7_factOf 48 _ rfl) ?_
    refine F_callV (ι' := uI) (ci := 7) (b := 0) (As := [.int p3]) (d' := 2) (rfl) ok_X7_manyBorn vi_X7_manyBorn cl_7_266 (n := 1) (by decide +kernel) rfl rfl rfl (Nat.le_of_ble_eq_true rfl) (by omega) (dk_X7_factOf 49 _ rfl) (c_X7_manyBorn _ _ ) (fun x3 m4 => ?_)
    show JF _ _ _ _ _ _ [.int x3] _ _
    exact F_ret rfl (dk_X7_factOf 52 _ rfl)
  refine F_case (fun c1_4 => ?_) (fun c1_4 => ?_)
  · rw [c1_4]; refine F_tin (off := 52) (tgt := 53) (by decide) (by decide) rfl (by decide) (dk_X7_factOf 1 _ rfl) ?_
    refine F_aload_n (i := 0) (a := 0) rfl rfl (dk_X7_factOf 53 _ rfl) ?_
    refine F_gI (n := 2) fxM_7_2_0 rfl fl_7_16 (dk_X7_factOf 54 _ rfl) ?_
    refine F_bipush (v := 10) (by decide) (dk_X7_factOf 57 _ rfl) ?_
    refine F_irem (dk_X7_factOf 59 _ rfl) (fun x6 => ?_)
    exact F_ret rfl (dk_X7_factOf 60 _ rfl)
  refine F_tout (tgt := 61) (by have q0 := fI_ne c1_0; rw [show (0 : Int32).toInt = 0 from by decide] at q0; have q1 := fI_ne c1_1; rw [show (1 : Int32).toInt = 1 from by decide] at q1; have q2 := fI_ne c1_2; rw [show (2 : Int32).toInt = 2 from by decide] at q2; have q3 := fI_ne c1_3; rw [show (3 : Int32).toInt = 3 from by decide] at q3; have q4 := fI_ne c1_4; rw [show (4 : Int32).toInt = 4 from by decide] at q4; omega) (by decide) (dk_X7_factOf 1 _ rfl) ?_
  refine F_aload_n (i := 0) (a := 0) rfl rfl (dk_X7_factOf 61 _ rfl) ?_
  refine F_gR (b := 3) fxM_7_5_0 fl_7_26 (dk_X7_factOf 62 _ rfl) ?_
  refine F_iload_n (i := 2) (a := 2) rfl rfl (dk_X7_factOf 65 _ rfl) ?_
  refine F_iald (axM_0_3) (dk_X7_factOf 66 _ rfl) (fun x7 => ?_)
  exact F_ret rfl (dk_X7_factOf 67 _ rfl)
def fb_X7_holds_11 (K11 : mM → Int32 → Int32 → Int32 → Int32 → Int32 → fR Int32) (m : mM) (y1 : Int32) (y2 : Int32) (y3 : Int32) (y4 : Int32) (y5 : Int32) : fR Int32 :=
  (gA (mA m 13) y1).bind fun x2 => (if x2 ≤ y5 then (gA (mA m 17) 0).bind fun x3 => chZ x3 (some (x3, m)) else (gA (mA m 14) y5).bind fun x4 => (if x4 = (-33) then (gA (mA m 17) (y4 - 1)).bind fun x30 => (if x30 = 0 then (sA 3 m 17 (y4 - 1) 1).bind fun m32 => (K11 m32 y1 y2 y3 y4 (y5 + 1)) else (sA 3 m 17 (y4 - 1) 0).bind fun m31 => (K11 m31 y1 y2 y3 y4 (y5 + 1))) else (if 0 ≤ x4 then (dvI x4 1000).bind fun x5 => bnd (f_X7_factOf m x5 y2 y3) fun (x6 : Int32) (m7 : mM) => (dvI x4 100).bind fun x9 => (rmI x9 10).bind fun x10 => (if x10 = 0 then (rmI x4 100).bind fun x17 => (if x17 ≤ x6 then (sA 3 m7 17 y4 0).bind fun m18 => (K11 m18 y1 y2 y3 (y4 + 1) (y5 + 1)) else (sA 3 m7 17 y4 1).bind fun m19 => (K11 m19 y1 y2 y3 (y4 + 1) (y5 + 1))) else (if x10 = 1 then (rmI x4 100).bind fun x14 => (if x6 = x14 then (sA 3 m7 17 y4 1).bind fun m16 => (K11 m16 y1 y2 y3 (y4 + 1) (y5 + 1)) else (sA 3 m7 17 y4 0).bind fun m15 => (K11 m15 y1 y2 y3 (y4 + 1) (y5 + 1))) else (rmI x4 100).bind fun x11 => (if x6 ≤ x11 then (sA 3 m7 17 y4 0).bind fun m12 => (K11 m12 y1 y2 y3 (y4 + 1) (y5 + 1)) else (sA 3 m7 17 y4 1).bind fun m13 => (K11 m13 y1 y2 y3 (y4 + 1) (y5 + 1))))) else (if x4 = (-38) then (gA (mA m 17) (((y4 + (-1)) - 1))).bind fun x25 => (if x25 = 0 then (sA 3 m 17 (((y4 + (-1)) - 1)) 0).bind fun m26 => (K11 m26 y1 y2 y3 (y4 + (-1)) (y5 + 1)) else (gA (mA m 17) ((y4 + (-1)))).bind fun x27 => (if x27 = 0 then (sA 3 m 17 (((y4 + (-1)) - 1)) 0).bind fun m28 => (K11 m28 y1 y2 y3 (y4 + (-1)) (y5 + 1)) else (sA 3 m 17 (((y4 + (-1)) - 1)) 1).bind fun m29 => (K11 m29 y1 y2 y3 (y4 + (-1)) (y5 + 1)))) else (gA (mA m 17) (((y4 + (-1)) - 1))).bind fun x20 => (if x20 = 0 then (gA (mA m 17) ((y4 + (-1)))).bind fun x22 => (if x22 = 0 then (sA 3 m 17 (((y4 + (-1)) - 1)) 0).bind fun m23 => (K11 m23 y1 y2 y3 (y4 + (-1)) (y5 + 1)) else (sA 3 m 17 (((y4 + (-1)) - 1)) 1).bind fun m24 => (K11 m24 y1 y2 y3 (y4 + (-1)) (y5 + 1))) else (sA 3 m 17 (((y4 + (-1)) - 1)) 1).bind fun m21 => (K11 m21 y1 y2 y3 (y4 + (-1)) (y5 + 1)))))))
def f_X7_holds_11  : Nat → mM → Int32 → Int32 → Int32 → Int32 → Int32 → fR Int32
  | 0, _, _, _, _, _, _ => none
  | F + 1, m, y1, y2, y3, y4, y5 => fb_X7_holds_11  (f_X7_holds_11  F) m y1 y2 y3 y4 y5
theorem jb_X7_holds_11 (K11 : mM → Int32 → Int32 → Int32 → Int32 → Int32 → fR Int32) (hK11 : ∀ (m : mM) (y1 : Int32) (y2 : Int32) (y3 : Int32) (y4 : Int32) (y5 : Int32) , JF false uI m_X7_holds 4 11 [(0, .ref 0), (1, .int y1), (2, .int y2), (3, .int y3), (4, .int y4), (5, .int y5)] [] m (K11 m y1 y2 y3 y4 y5)) (m : mM) (y1 : Int32) (y2 : Int32) (y3 : Int32) (y4 : Int32) (y5 : Int32)  : JF false uI m_X7_holds 4 11 [(0, .ref 0), (1, .int y1), (2, .int y2), (3, .int y3), (4, .int y4), (5, .int y5)] [] m (fb_X7_holds_11 K11 m y1 y2 y3 y4 y5) := by
  unfold fb_X7_holds_11
  refine F_iload (i := 5) rfl (dk_X7_holds 11 _ rfl) ?_
  refine F_aload_n (i := 0) (a := 0) rfl rfl (dk_X7_holds 13 _ rfl) ?_
  refine F_gR (b := 13) fxM_7_20_0 fl_7_72 (dk_X7_holds 14 _ rfl) ?_
  refine F_iload_n (i := 1) (a := 1) rfl rfl (dk_X7_holds 17 _ rfl) ?_
  refine F_iald (axM_0_13) (dk_X7_holds 18 _ rfl) (fun x2 => ?_)
  refine F_icmp_ge (tgt := 253) (by decide) (dk_X7_holds 19 _ rfl) ?_ ?_
  · refine F_aload_n (i := 0) (a := 0) rfl rfl (dk_X7_holds 253 _ rfl) ?_
    refine F_gR (b := 17) fxM_7_28_0 fl_7_96 (dk_X7_holds 254 _ rfl) ?_
    refine F_iconst (v := 0) (by decide) (dk_X7_holds 257 _ rfl) ?_
    refine F_zald (axM_3_17) (dk_X7_holds 258 _ rfl) (fun x3 => ?_)
    exact F_retZ rfl (dk_X7_holds 259 _ rfl)
  · refine F_aload_n (i := 0) (a := 0) rfl rfl (dk_X7_holds 22 _ rfl) ?_
    refine F_gR (b := 14) fxM_7_21_0 fl_7_75 (dk_X7_holds 23 _ rfl) ?_
    refine F_iload (i := 5) rfl (dk_X7_holds 26 _ rfl) ?_
    refine F_iald (axM_0_14) (dk_X7_holds 28 _ rfl) (fun x4 => ?_)
    refine F_istore (lv' := [(6, .int x4), (0, .ref 0), (1, .int y1), (2, .int y2), (3, .int y3), (4, .int y4), (5, .int y5)]) (i := 6) (by decide) rfl (dk_X7_holds 29 _ rfl) ?_
    refine F_iload (i := 6) rfl (dk_X7_holds 31 _ rfl) ?_
    refine F_bipush (v := (-33)) (by decide) (dk_X7_holds 33 _ rfl) ?_
    refine F_icmp_ne (tgt := 67) (by decide) (dk_X7_holds 35 _ rfl) ?_ ?_
    · refine F_iload (i := 6) rfl (dk_X7_holds 67 _ rfl) ?_
      refine F_if_ge (tgt := 151) (by decide) (dk_X7_holds 69 _ rfl) ?_ ?_
      · refine F_aload_n (i := 0) (a := 0) rfl rfl (dk_X7_holds 151 _ rfl) ?_
        refine F_iload (i := 6) rfl (dk_X7_holds 152 _ rfl) ?_
        refine F_sipush (v := 1000) (by decide) (dk_X7_holds 154 _ rfl) ?_
        refine F_idiv (dk_X7_holds 157 _ rfl) (fun x5 => ?_)
        refine F_iload_n (i := 2) (a := 2) rfl rfl (dk_X7_holds 158 _ rfl) ?_
        refine F_iload_n (i := 3) (a := 3) rfl rfl (dk_X7_holds 159 _ rfl) ?_
        refine F_callV (ι' := uI) (ci := 7) (b := 0) (As := [.int x5, .int y2, .int y3]) (d' := 3) (rfl) ok_X7_factOf vi_X7_factOf cl_7_269 (n := 3) (by decide +kernel) rfl rfl rfl (Nat.le_of_ble_eq_true rfl) (by omega) (dk_X7_holds 160 _ rfl) (c_X7_factOf _ _ _ _ ) (fun x6 m7 => ?_)
        show JF _ _ _ _ _ _ [.int x6] _ _
        refine F_istore (lv' := [(7, .int x6), (6, .int x4), (0, .ref 0), (1, .int y1), (2, .int y2), (3, .int y3), (4, .int y4), (5, .int y5)]) (i := 7) (by decide) rfl (dk_X7_holds 163 _ rfl) ?_
        refine F_iload (i := 6) rfl (dk_X7_holds 165 _ rfl) ?_
        refine F_bipush (v := 100) (by decide) (dk_X7_holds 167 _ rfl) ?_
        refine F_idiv (dk_X7_holds 169 _ rfl) (fun x9 => ?_)
        refine F_bipush (v := 10) (by decide) (dk_X7_holds 170 _ rfl) ?_
        refine F_irem (dk_X7_holds 172 _ rfl) (fun x10 => ?_)
        refine F_istore (lv' := [(8, .int x10), (7, .int x6), (6, .int x4), (0, .ref 0), (1, .int y1), (2, .int y2), (3, .int y3), (4, .int y4), (5, .int y5)]) (i := 8) (by decide) rfl (dk_X7_holds 173 _ rfl) ?_
        refine F_aload_n (i := 0) (a := 0) rfl rfl (dk_X7_holds 175 _ rfl) ?_
        refine F_gR (b := 17) fxM_7_28_0 fl_7_96 (dk_X7_holds 176 _ rfl) ?_
        refine F_iload (i := 4) rfl (dk_X7_holds 179 _ rfl) ?_
        refine F_iload (i := 8) rfl (dk_X7_holds 181 _ rfl) ?_
        refine F_if_ne (tgt := 204) (by decide) (dk_X7_holds 183 _ rfl) ?_ ?_
        · refine F_iload (i := 8) rfl (dk_X7_holds 204 _ rfl) ?_
          refine F_iconst (v := 1) (by decide) (dk_X7_holds 206 _ rfl) ?_
          refine F_icmp_ne (tgt := 228) (by decide) (dk_X7_holds 207 _ rfl) ?_ ?_
          · refine F_iload (i := 7) rfl (dk_X7_holds 228 _ rfl) ?_
            refine F_iload (i := 6) rfl (dk_X7_holds 230 _ rfl) ?_
            refine F_bipush (v := 100) (by decide) (dk_X7_holds 232 _ rfl) ?_
            refine F_irem (dk_X7_holds 234 _ rfl) (fun x11 => ?_)
            refine F_icmp_le (tgt := 242) (by decide) (dk_X7_holds 235 _ rfl) ?_ ?_
            · refine F_iconst (v := 0) (by decide) (dk_X7_holds 242 _ rfl) ?_
              refine F_zast (axM_3_17) (dk_X7_holds 243 _ rfl) (fun m12 => ?_)
              refine F_iinc (i := 4) (n := 1) (v := (y4 + 1)) (lv' := [(4, .int (y4 + 1)), (8, .int x10), (7, .int x6), (6, .int x4), (0, .ref 0), (1, .int y1), (2, .int y2), (3, .int y3), (5, .int y5)]) rfl (by first | rfl | decide) (by decide) rfl (dk_X7_holds 244 _ rfl) ?_
              refine F_iinc (i := 5) (n := 1) (v := (y5 + 1)) (lv' := [(5, .int (y5 + 1)), (4, .int (y4 + 1)), (8, .int x10), (7, .int x6), (6, .int x4), (0, .ref 0), (1, .int y1), (2, .int y2), (3, .int y3)]) rfl (by first | rfl | decide) (by decide) rfl (dk_X7_holds 247 _ rfl) ?_
              refine F_goto (tgt := 11) (by decide) (dk_X7_holds 250 _ rfl) ?_
              exact F_loc (List.forall_mem_cons.mpr ⟨(.tail _ (.tail _ (.tail _ (.tail _ (.tail _ (.head _)))))), (List.forall_mem_cons.mpr ⟨(.tail _ (.tail _ (.tail _ (.tail _ (.tail _ (.tail _ (.head _))))))), (List.forall_mem_cons.mpr ⟨(.tail _ (.tail _ (.tail _ (.tail _ (.tail _ (.tail _ (.tail _ (.head _)))))))), (List.forall_mem_cons.mpr ⟨(.tail _ (.tail _ (.tail _ (.tail _ (.tail _ (.tail _ (.tail _ (.tail _ (.head _))))))))), (List.forall_mem_cons.mpr ⟨(.tail _ (.head _)), (List.forall_mem_cons.mpr ⟨(.head _), (fun _ z => absurd z List.not_mem_nil)⟩)⟩)⟩)⟩)⟩)⟩) (hK11 _ _ _ _ _ _ )
            · refine F_iconst (v := 1) (by decide) (dk_X7_holds 238 _ rfl) ?_
              refine F_goto (tgt := 243) (by decide) (dk_X7_holds 239 _ rfl) ?_
              refine F_zast (axM_3_17) (dk_X7_holds 243 _ rfl) (fun m13 => ?_)
              refine F_iinc (i := 4) (n := 1) (v := (y4 + 1)) (lv' := [(4, .int (y4 + 1)), (8, .int x10), (7, .int x6), (6, .int x4), (0, .ref 0), (1, .int y1), (2, .int y2), (3, .int y3), (5, .int y5)]) rfl (by first | rfl | decide) (by decide) rfl (dk_X7_holds 244 _ rfl) ?_
              refine F_iinc (i := 5) (n := 1) (v := (y5 + 1)) (lv' := [(5, .int (y5 + 1)), (4, .int (y4 + 1)), (8, .int x10), (7, .int x6), (6, .int x4), (0, .ref 0), (1, .int y1), (2, .int y2), (3, .int y3)]) rfl (by first | rfl | decide) (by decide) rfl (dk_X7_holds 247 _ rfl) ?_
              refine F_goto (tgt := 11) (by decide) (dk_X7_holds 250 _ rfl) ?_
              exact F_loc (List.forall_mem_cons.mpr ⟨(.tail _ (.tail _ (.tail _ (.tail _ (.tail _ (.head _)))))), (List.forall_mem_cons.mpr ⟨(.tail _ (.tail _ (.tail _ (.tail _ (.tail _ (.tail _ (.head _))))))), (List.forall_mem_cons.mpr ⟨(.tail _ (.tail _ (.tail _ (.tail _ (.tail _ (.tail _ (.tail _ (.head _)))))))), (List.forall_mem_cons.mpr ⟨(.tail _ (.tail _ (.tail _ (.tail _ (.tail _ (.tail _ (.tail _ (.tail _ (.head _))))))))), (List.forall_mem_cons.mpr ⟨(.tail _ (.head _)), (List.forall_mem_cons.mpr ⟨(.head _), (fun _ z => absurd z List.not_mem_nil)⟩)⟩)⟩)⟩)⟩)⟩) (hK11 _ _ _ _ _ _ )
          · refine F_iload (i := 7) rfl (dk_X7_holds 210 _ rfl) ?_
            refine F_iload (i := 6) rfl (dk_X7_holds 212 _ rfl) ?_
            refine F_bipush (v := 100) (by decide) (dk_X7_holds 214 _ rfl) ?_
            refine F_irem (dk_X7_holds 216 _ rfl) (fun x14 => ?_)
            refine F_icmp_ne (tgt := 224) (by decide) (dk_X7_holds 217 _ rfl) ?_ ?_
            · refine F_iconst (v := 0) (by decide) (dk_X7_holds 224 _ rfl) ?_
              refine F_goto (tgt := 243) (by decide) (dk_X7_holds 225 _ rfl) ?_
              refine F_zast (axM_3_17) (dk_X7_holds 243 _ rfl) (fun m15 => ?_)
              refine F_iinc (i := 4) (n := 1) (v := (y4 + 1)) (lv' := [(4, .int (y4 + 1)), (8, .int x10), (7, .int x6), (6, .int x4), (0, .ref 0), (1, .int y1), (2, .int y2), (3, .int y3), (5, .int y5)]) rfl (by first | rfl | decide) (by decide) rfl (dk_X7_holds 244 _ rfl) ?_
              refine F_iinc (i := 5) (n := 1) (v := (y5 + 1)) (lv' := [(5, .int (y5 + 1)), (4, .int (y4 + 1)), (8, .int x10), (7, .int x6), (6, .int x4), (0, .ref 0), (1, .int y1), (2, .int y2), (3, .int y3)]) rfl (by first | rfl | decide) (by decide) rfl (dk_X7_holds 247 _ rfl) ?_
              refine F_goto (tgt := 11) (by decide) (dk_X7_holds 250 _ rfl) ?_
              exact F_loc (List.forall_mem_cons.mpr ⟨(.tail _ (.tail _ (.tail _ (.tail _ (.tail _ (.head _)))))), (List.forall_mem_cons.mpr ⟨(.tail _ (.tail _ (.tail _ (.tail _ (.tail _ (.tail _ (.head _))))))), (List.forall_mem_cons.mpr ⟨(.tail _ (.tail _ (.tail _ (.tail _ (.tail _ (.tail _ (.tail _ (.head _)))))))), (List.forall_mem_cons.mpr ⟨(.tail _ (.tail _ (.tail _ (.tail _ (.tail _ (.tail _ (.tail _ (.tail _ (.head _))))))))), (List.forall_mem_cons.mpr ⟨(.tail _ (.head _)), (List.forall_mem_cons.mpr ⟨(.head _), (fun _ z => absurd z List.not_mem_nil)⟩)⟩)⟩)⟩)⟩)⟩) (hK11 _ _ _ _ _ _ )
            · refine F_iconst (v := 1) (by decide) (dk_X7_holds 220 _ rfl) ?_
              refine F_goto (tgt := 243) (by decide) (dk_X7_holds 221 _ rfl) ?_
              refine F_zast (axM_3_17) (dk_X7_holds 243 _ rfl) (fun m16 => ?_)
              refine F_iinc (i := 4) (n := 1) (v := (y4 + 1)) (lv' := [(4, .int (y4 + 1)), (8, .int x10), (7, .int x6), (6, .int x4), (0, .ref 0), (1, .int y1), (2, .int y2), (3, .int y3), (5, .int y5)]) rfl (by first | rfl | decide) (by decide) rfl (dk_X7_holds 244 _ rfl) ?_
              refine F_iinc (i := 5) (n := 1) (v := (y5 + 1)) (lv' := [(5, .int (y5 + 1)), (4, .int (y4 + 1)), (8, .int x10), (7, .int x6), (6, .int x4), (0, .ref 0), (1, .int y1), (2, .int y2), (3, .int y3)]) rfl (by first | rfl | decide) (by decide) rfl (dk_X7_holds 247 _ rfl) ?_
              refine F_goto (tgt := 11) (by decide) (dk_X7_holds 250 _ rfl) ?_
              exact F_loc (List.forall_mem_cons.mpr ⟨(.tail _ (.tail _ (.tail _ (.tail _ (.tail _ (.head _)))))), (List.forall_mem_cons.mpr ⟨(.tail _ (.tail _ (.tail _ (.tail _ (.tail _ (.tail _ (.head _))))))), (List.forall_mem_cons.mpr ⟨(.tail _ (.tail _ (.tail _ (.tail _ (.tail _ (.tail _ (.tail _ (.head _)))))))), (List.forall_mem_cons.mpr ⟨(.tail _ (.tail _ (.tail _ (.tail _ (.tail _ (.tail _ (.tail _ (.tail _ (.head _))))))))), (List.forall_mem_cons.mpr ⟨(.tail _ (.head _)), (List.forall_mem_cons.mpr ⟨(.head _), (fun _ z => absurd z List.not_mem_nil)⟩)⟩)⟩)⟩)⟩)⟩) (hK11 _ _ _ _ _ _ )
        · refine F_iload (i := 7) rfl (dk_X7_holds 186 _ rfl) ?_
          refine F_iload (i := 6) rfl (dk_X7_holds 188 _ rfl) ?_
          refine F_bipush (v := 100) (by decide) (dk_X7_holds 190 _ rfl) ?_
          refine F_irem (dk_X7_holds 192 _ rfl) (fun x17 => ?_)
          refine F_icmp_ge (tgt := 200) (by decide) (dk_X7_holds 193 _ rfl) ?_ ?_
          · refine F_iconst (v := 0) (by decide) (dk_X7_holds 200 _ rfl) ?_
            refine F_goto (tgt := 243) (by decide) (dk_X7_holds 201 _ rfl) ?_
            refine F_zast (axM_3_17) (dk_X7_holds 243 _ rfl) (fun m18 => ?_)
            refine F_iinc (i := 4) (n := 1) (v := (y4 + 1)) (lv' := [(4, .int (y4 + 1)), (8, .int x10), (7, .int x6), (6, .int x4), (0, .ref 0), (1, .int y1), (2, .int y2), (3, .int y3), (5, .int y5)]) rfl (by first | rfl | decide) (by decide) rfl (dk_X7_holds 244 _ rfl) ?_
            refine F_iinc (i := 5) (n := 1) (v := (y5 + 1)) (lv' := [(5, .int (y5 + 1)), (4, .int (y4 + 1)), (8, .int x10), (7, .int x6), (6, .int x4), (0, .ref 0), (1, .int y1), (2, .int y2), (3, .int y3)]) rfl (by first | rfl | decide) (by decide) rfl (dk_X7_holds 247 _ rfl) ?_
            refine F_goto (tgt := 11) (by decide) (dk_X7_holds 250 _ rfl) ?_
            exact F_loc (List.forall_mem_cons.mpr ⟨(.tail _ (.tail _ (.tail _ (.tail _ (.tail _ (.head _)))))), (List.forall_mem_cons.mpr ⟨(.tail _ (.tail _ (.tail _ (.tail _ (.tail _ (.tail _ (.head _))))))), (List.forall_mem_cons.mpr ⟨(.tail _ (.tail _ (.tail _ (.tail _ (.tail _ (.tail _ (.tail _ (.head _)))))))), (List.forall_mem_cons.mpr ⟨(.tail _ (.tail _ (.tail _ (.tail _ (.tail _ (.tail _ (.tail _ (.tail _ (.head _))))))))), (List.forall_mem_cons.mpr ⟨(.tail _ (.head _)), (List.forall_mem_cons.mpr ⟨(.head _), (fun _ z => absurd z List.not_mem_nil)⟩)⟩)⟩)⟩)⟩)⟩) (hK11 _ _ _ _ _ _ )
          · refine F_iconst (v := 1) (by decide) (dk_X7_holds 196 _ rfl) ?_
            refine F_goto (tgt := 243) (by decide) (dk_X7_holds 197 _ rfl) ?_
            refine F_zast (axM_3_17) (dk_X7_holds 243 _ rfl) (fun m19 => ?_)
            refine F_iinc (i := 4) (n := 1) (v := (y4 + 1)) (lv' := [(4, .int (y4 + 1)), (8, .int x10), (7, .int x6), (6, .int x4), (0, .ref 0), (1, .int y1), (2, .int y2), (3, .int y3), (5, .int y5)]) rfl (by first | rfl | decide) (by decide) rfl (dk_X7_holds 244 _ rfl) ?_
            refine F_iinc (i := 5) (n := 1) (v := (y5 + 1)) (lv' := [(5, .int (y5 + 1)), (4, .int (y4 + 1)), (8, .int x10), (7, .int x6), (6, .int x4), (0, .ref 0), (1, .int y1), (2, .int y2), (3, .int y3)]) rfl (by first | rfl | decide) (by decide) rfl (dk_X7_holds 247 _ rfl) ?_
            refine F_goto (tgt := 11) (by decide) (dk_X7_holds 250 _ rfl) ?_
            exact F_loc (List.forall_mem_cons.mpr ⟨(.tail _ (.tail _ (.tail _ (.tail _ (.tail _ (.head _)))))), (List.forall_mem_cons.mpr ⟨(.tail _ (.tail _ (.tail _ (.tail _ (.tail _ (.tail _ (.head _))))))), (List.forall_mem_cons.mpr ⟨(.tail _ (.tail _ (.tail _ (.tail _ (.tail _ (.tail _ (.tail _ (.head _)))))))), (List.forall_mem_cons.mpr ⟨(.tail _ (.tail _ (.tail _ (.tail _ (.tail _ (.tail _ (.tail _ (.tail _ (.head _))))))))), (List.forall_mem_cons.mpr ⟨(.tail _ (.head _)), (List.forall_mem_cons.mpr ⟨(.head _), (fun _ z => absurd z List.not_mem_nil)⟩)⟩)⟩)⟩)⟩)⟩) (hK11 _ _ _ _ _ _ )
      · refine F_iinc (i := 4) (n := (-1)) (v := (y4 + (-1))) (lv' := [(4, .int (y4 + (-1))), (6, .int x4), (0, .ref 0), (1, .int y1), (2, .int y2), (3, .int y3), (5, .int y5)]) rfl (by first | rfl | decide) (by decide) rfl (dk_X7_holds 72 _ rfl) ?_
        refine F_aload_n (i := 0) (a := 0) rfl rfl (dk_X7_holds 75 _ rfl) ?_
        refine F_gR (b := 17) fxM_7_28_0 fl_7_96 (dk_X7_holds 76 _ rfl) ?_
        refine F_iload (i := 4) rfl (dk_X7_holds 79 _ rfl) ?_
        refine F_iconst (v := 1) (by decide) (dk_X7_holds 81 _ rfl) ?_
        refine F_isub (dk_X7_holds 82 _ rfl) ?_
        refine F_iload (i := 6) rfl (dk_X7_holds 83 _ rfl) ?_
        refine F_bipush (v := (-38)) (by decide) (dk_X7_holds 85 _ rfl) ?_
        refine F_icmp_ne (tgt := 120) (by decide) (dk_X7_holds 87 _ rfl) ?_ ?_
        · refine F_aload_n (i := 0) (a := 0) rfl rfl (dk_X7_holds 120 _ rfl) ?_
          refine F_gR (b := 17) fxM_7_28_0 fl_7_96 (dk_X7_holds 121 _ rfl) ?_
          refine F_iload (i := 4) rfl (dk_X7_holds 124 _ rfl) ?_
          refine F_iconst (v := 1) (by decide) (dk_X7_holds 126 _ rfl) ?_
          refine F_isub (dk_X7_holds 127 _ rfl) ?_
          refine F_zald (axM_3_17) (dk_X7_holds 128 _ rfl) (fun x20 => ?_)
          refine F_if_ne (tgt := 142) (by decide) (dk_X7_holds 129 _ rfl) ?_ ?_
          · refine F_iconst (v := 1) (by decide) (dk_X7_holds 142 _ rfl) ?_
            refine F_goto (tgt := 147) (by decide) (dk_X7_holds 143 _ rfl) ?_
            refine F_zast (axM_3_17) (dk_X7_holds 147 _ rfl) (fun m21 => ?_)
            refine F_goto (tgt := 247) (by decide) (dk_X7_holds 148 _ rfl) ?_
            refine F_iinc (i := 5) (n := 1) (v := (y5 + 1)) (lv' := [(5, .int (y5 + 1)), (4, .int (y4 + (-1))), (6, .int x4), (0, .ref 0), (1, .int y1), (2, .int y2), (3, .int y3)]) rfl (by first | rfl | decide) (by decide) rfl (dk_X7_holds 247 _ rfl) ?_
            refine F_goto (tgt := 11) (by decide) (dk_X7_holds 250 _ rfl) ?_
            exact F_loc (List.forall_mem_cons.mpr ⟨(.tail _ (.tail _ (.tail _ (.head _)))), (List.forall_mem_cons.mpr ⟨(.tail _ (.tail _ (.tail _ (.tail _ (.head _))))), (List.forall_mem_cons.mpr ⟨(.tail _ (.tail _ (.tail _ (.tail _ (.tail _ (.head _)))))), (List.forall_mem_cons.mpr ⟨(.tail _ (.tail _ (.tail _ (.tail _ (.tail _ (.tail _ (.head _))))))), (List.forall_mem_cons.mpr ⟨(.tail _ (.head _)), (List.forall_mem_cons.mpr ⟨(.head _), (fun _ z => absurd z List.not_mem_nil)⟩)⟩)⟩)⟩)⟩)⟩) (hK11 _ _ _ _ _ _ )
          · refine F_aload_n (i := 0) (a := 0) rfl rfl (dk_X7_holds 132 _ rfl) ?_
            refine F_gR (b := 17) fxM_7_28_0 fl_7_96 (dk_X7_holds 133 _ rfl) ?_
            refine F_iload (i := 4) rfl (dk_X7_holds 136 _ rfl) ?_
            refine F_zald (axM_3_17) (dk_X7_holds 138 _ rfl) (fun x22 => ?_)
            refine F_if_eq (tgt := 146) (by decide) (dk_X7_holds 139 _ rfl) ?_ ?_
            · refine F_iconst (v := 0) (by decide) (dk_X7_holds 146 _ rfl) ?_
              refine F_zast (axM_3_17) (dk_X7_holds 147 _ rfl) (fun m23 => ?_)
              refine F_goto (tgt := 247) (by decide) (dk_X7_holds 148 _ rfl) ?_
              refine F_iinc (i := 5) (n := 1) (v := (y5 + 1)) (lv' := [(5, .int (y5 + 1)), (4, .int (y4 + (-1))), (6, .int x4), (0, .ref 0), (1, .int y1), (2, .int y2), (3, .int y3)]) rfl (by first | rfl | decide) (by decide) rfl (dk_X7_holds 247 _ rfl) ?_
              refine F_goto (tgt := 11) (by decide) (dk_X7_holds 250 _ rfl) ?_
              exact F_loc (List.forall_mem_cons.mpr ⟨(.tail _ (.tail _ (.tail _ (.head _)))), (List.forall_mem_cons.mpr ⟨(.tail _ (.tail _ (.tail _ (.tail _ (.head _))))), (List.forall_mem_cons.mpr ⟨(.tail _ (.tail _ (.tail _ (.tail _ (.tail _ (.head _)))))), (List.forall_mem_cons.mpr ⟨(.tail _ (.tail _ (.tail _ (.tail _ (.tail _ (.tail _ (.head _))))))), (List.forall_mem_cons.mpr ⟨(.tail _ (.head _)), (List.forall_mem_cons.mpr ⟨(.head _), (fun _ z => absurd z List.not_mem_nil)⟩)⟩)⟩)⟩)⟩)⟩) (hK11 _ _ _ _ _ _ )
            · refine F_iconst (v := 1) (by decide) (dk_X7_holds 142 _ rfl) ?_
              refine F_goto (tgt := 147) (by decide) (dk_X7_holds 143 _ rfl) ?_
              refine F_zast (axM_3_17) (dk_X7_holds 147 _ rfl) (fun m24 => ?_)
              refine F_goto (tgt := 247) (by decide) (dk_X7_holds 148 _ rfl) ?_
              refine F_iinc (i := 5) (n := 1) (v := (y5 + 1)) (lv' := [(5, .int (y5 + 1)), (4, .int (y4 + (-1))), (6, .int x4), (0, .ref 0), (1, .int y1), (2, .int y2), (3, .int y3)]) rfl (by first | rfl | decide) (by decide) rfl (dk_X7_holds 247 _ rfl) ?_
              refine F_goto (tgt := 11) (by decide) (dk_X7_holds 250 _ rfl) ?_
              exact F_loc (List.forall_mem_cons.mpr ⟨(.tail _ (.tail _ (.tail _ (.head _)))), (List.forall_mem_cons.mpr ⟨(.tail _ (.tail _ (.tail _ (.tail _ (.head _))))), (List.forall_mem_cons.mpr ⟨(.tail _ (.tail _ (.tail _ (.tail _ (.tail _ (.head _)))))), (List.forall_mem_cons.mpr ⟨(.tail _ (.tail _ (.tail _ (.tail _ (.tail _ (.tail _ (.head _))))))), (List.forall_mem_cons.mpr ⟨(.tail _ (.head _)), (List.forall_mem_cons.mpr ⟨(.head _), (fun _ z => absurd z List.not_mem_nil)⟩)⟩)⟩)⟩)⟩)⟩) (hK11 _ _ _ _ _ _ )
        · refine F_aload_n (i := 0) (a := 0) rfl rfl (dk_X7_holds 90 _ rfl) ?_
          refine F_gR (b := 17) fxM_7_28_0 fl_7_96 (dk_X7_holds 91 _ rfl) ?_
          refine F_iload (i := 4) rfl (dk_X7_holds 94 _ rfl) ?_
          refine F_iconst (v := 1) (by decide) (dk_X7_holds 96 _ rfl) ?_
          refine F_isub (dk_X7_holds 97 _ rfl) ?_
          refine F_zald (axM_3_17) (dk_X7_holds 98 _ rfl) (fun x25 => ?_)
          refine F_if_eq (tgt := 116) (by decide) (dk_X7_holds 99 _ rfl) ?_ ?_
          · refine F_iconst (v := 0) (by decide) (dk_X7_holds 116 _ rfl) ?_
            refine F_goto (tgt := 147) (by decide) (dk_X7_holds 117 _ rfl) ?_
            refine F_zast (axM_3_17) (dk_X7_holds 147 _ rfl) (fun m26 => ?_)
            refine F_goto (tgt := 247) (by decide) (dk_X7_holds 148 _ rfl) ?_
            refine F_iinc (i := 5) (n := 1) (v := (y5 + 1)) (lv' := [(5, .int (y5 + 1)), (4, .int (y4 + (-1))), (6, .int x4), (0, .ref 0), (1, .int y1), (2, .int y2), (3, .int y3)]) rfl (by first | rfl | decide) (by decide) rfl (dk_X7_holds 247 _ rfl) ?_
            refine F_goto (tgt := 11) (by decide) (dk_X7_holds 250 _ rfl) ?_
            exact F_loc (List.forall_mem_cons.mpr ⟨(.tail _ (.tail _ (.tail _ (.head _)))), (List.forall_mem_cons.mpr ⟨(.tail _ (.tail _ (.tail _ (.tail _ (.head _))))), (List.forall_mem_cons.mpr ⟨(.tail _ (.tail _ (.tail _ (.tail _ (.tail _ (.head _)))))), (List.forall_mem_cons.mpr ⟨(.tail _ (.tail _ (.tail _ (.tail _ (.tail _ (.tail _ (.head _))))))), (List.forall_mem_cons.mpr ⟨(.tail _ (.head _)), (List.forall_mem_cons.mpr ⟨(.head _), (fun _ z => absurd z List.not_mem_nil)⟩)⟩)⟩)⟩)⟩)⟩) (hK11 _ _ _ _ _ _ )
          · refine F_aload_n (i := 0) (a := 0) rfl rfl (dk_X7_holds 102 _ rfl) ?_
            refine F_gR (b := 17) fxM_7_28_0 fl_7_96 (dk_X7_holds 103 _ rfl) ?_
            refine F_iload (i := 4) rfl (dk_X7_holds 106 _ rfl) ?_
            refine F_zald (axM_3_17) (dk_X7_holds 108 _ rfl) (fun x27 => ?_)
            refine F_if_eq (tgt := 116) (by decide) (dk_X7_holds 109 _ rfl) ?_ ?_
            · refine F_iconst (v := 0) (by decide) (dk_X7_holds 116 _ rfl) ?_
              refine F_goto (tgt := 147) (by decide) (dk_X7_holds 117 _ rfl) ?_
              refine F_zast (axM_3_17) (dk_X7_holds 147 _ rfl) (fun m28 => ?_)
              refine F_goto (tgt := 247) (by decide) (dk_X7_holds 148 _ rfl) ?_
              refine F_iinc (i := 5) (n := 1) (v := (y5 + 1)) (lv' := [(5, .int (y5 + 1)), (4, .int (y4 + (-1))), (6, .int x4), (0, .ref 0), (1, .int y1), (2, .int y2), (3, .int y3)]) rfl (by first | rfl | decide) (by decide) rfl (dk_X7_holds 247 _ rfl) ?_
              refine F_goto (tgt := 11) (by decide) (dk_X7_holds 250 _ rfl) ?_
              exact F_loc (List.forall_mem_cons.mpr ⟨(.tail _ (.tail _ (.tail _ (.head _)))), (List.forall_mem_cons.mpr ⟨(.tail _ (.tail _ (.tail _ (.tail _ (.head _))))), (List.forall_mem_cons.mpr ⟨(.tail _ (.tail _ (.tail _ (.tail _ (.tail _ (.head _)))))), (List.forall_mem_cons.mpr ⟨(.tail _ (.tail _ (.tail _ (.tail _ (.tail _ (.tail _ (.head _))))))), (List.forall_mem_cons.mpr ⟨(.tail _ (.head _)), (List.forall_mem_cons.mpr ⟨(.head _), (fun _ z => absurd z List.not_mem_nil)⟩)⟩)⟩)⟩)⟩)⟩) (hK11 _ _ _ _ _ _ )
            · refine F_iconst (v := 1) (by decide) (dk_X7_holds 112 _ rfl) ?_
              refine F_goto (tgt := 147) (by decide) (dk_X7_holds 113 _ rfl) ?_
              refine F_zast (axM_3_17) (dk_X7_holds 147 _ rfl) (fun m29 => ?_)
              refine F_goto (tgt := 247) (by decide) (dk_X7_holds 148 _ rfl) ?_
              refine F_iinc (i := 5) (n := 1) (v := (y5 + 1)) (lv' := [(5, .int (y5 + 1)), (4, .int (y4 + (-1))), (6, .int x4), (0, .ref 0), (1, .int y1), (2, .int y2), (3, .int y3)]) rfl (by first | rfl | decide) (by decide) rfl (dk_X7_holds 247 _ rfl) ?_
              refine F_goto (tgt := 11) (by decide) (dk_X7_holds 250 _ rfl) ?_
              exact F_loc (List.forall_mem_cons.mpr ⟨(.tail _ (.tail _ (.tail _ (.head _)))), (List.forall_mem_cons.mpr ⟨(.tail _ (.tail _ (.tail _ (.tail _ (.head _))))), (List.forall_mem_cons.mpr ⟨(.tail _ (.tail _ (.tail _ (.tail _ (.tail _ (.head _)))))), (List.forall_mem_cons.mpr ⟨(.tail _ (.tail _ (.tail _ (.tail _ (.tail _ (.tail _ (.head _))))))), (List.forall_mem_cons.mpr ⟨(.tail _ (.head _)), (List.forall_mem_cons.mpr ⟨(.head _), (fun _ z => absurd z List.not_mem_nil)⟩)⟩)⟩)⟩)⟩)⟩) (hK11 _ _ _ _ _ _ )
    · refine F_aload_n (i := 0) (a := 0) rfl rfl (dk_X7_holds 38 _ rfl) ?_
      refine F_gR (b := 17) fxM_7_28_0 fl_7_96 (dk_X7_holds 39 _ rfl) ?_
      refine F_iload (i := 4) rfl (dk_X7_holds 42 _ rfl) ?_
      refine F_iconst (v := 1) (by decide) (dk_X7_holds 44 _ rfl) ?_
      refine F_isub (dk_X7_holds 45 _ rfl) ?_
      refine F_aload_n (i := 0) (a := 0) rfl rfl (dk_X7_holds 46 _ rfl) ?_
      refine F_gR (b := 17) fxM_7_28_0 fl_7_96 (dk_X7_holds 47 _ rfl) ?_
      refine F_iload (i := 4) rfl (dk_X7_holds 50 _ rfl) ?_
      refine F_iconst (v := 1) (by decide) (dk_X7_holds 52 _ rfl) ?_
      refine F_isub (dk_X7_holds 53 _ rfl) ?_
      refine F_zald (axM_3_17) (dk_X7_holds 54 _ rfl) (fun x30 => ?_)
      refine F_if_ne (tgt := 62) (by decide) (dk_X7_holds 55 _ rfl) ?_ ?_
      · refine F_iconst (v := 0) (by decide) (dk_X7_holds 62 _ rfl) ?_
        refine F_zast (axM_3_17) (dk_X7_holds 63 _ rfl) (fun m31 => ?_)
        refine F_goto (tgt := 247) (by decide) (dk_X7_holds 64 _ rfl) ?_
        refine F_iinc (i := 5) (n := 1) (v := (y5 + 1)) (lv' := [(5, .int (y5 + 1)), (6, .int x4), (0, .ref 0), (1, .int y1), (2, .int y2), (3, .int y3), (4, .int y4)]) rfl (by first | rfl | decide) (by decide) rfl (dk_X7_holds 247 _ rfl) ?_
        refine F_goto (tgt := 11) (by decide) (dk_X7_holds 250 _ rfl) ?_
        exact F_loc (List.forall_mem_cons.mpr ⟨(.tail _ (.tail _ (.head _))), (List.forall_mem_cons.mpr ⟨(.tail _ (.tail _ (.tail _ (.head _)))), (List.forall_mem_cons.mpr ⟨(.tail _ (.tail _ (.tail _ (.tail _ (.head _))))), (List.forall_mem_cons.mpr ⟨(.tail _ (.tail _ (.tail _ (.tail _ (.tail _ (.head _)))))), (List.forall_mem_cons.mpr ⟨(.tail _ (.tail _ (.tail _ (.tail _ (.tail _ (.tail _ (.head _))))))), (List.forall_mem_cons.mpr ⟨(.head _), (fun _ z => absurd z List.not_mem_nil)⟩)⟩)⟩)⟩)⟩)⟩) (hK11 _ _ _ _ _ _ )
      · refine F_iconst (v := 1) (by decide) (dk_X7_holds 58 _ rfl) ?_
        refine F_goto (tgt := 63) (by decide) (dk_X7_holds 59 _ rfl) ?_
        refine F_zast (axM_3_17) (dk_X7_holds 63 _ rfl) (fun m32 => ?_)
        refine F_goto (tgt := 247) (by decide) (dk_X7_holds 64 _ rfl) ?_
        refine F_iinc (i := 5) (n := 1) (v := (y5 + 1)) (lv' := [(5, .int (y5 + 1)), (6, .int x4), (0, .ref 0), (1, .int y1), (2, .int y2), (3, .int y3), (4, .int y4)]) rfl (by first | rfl | decide) (by decide) rfl (dk_X7_holds 247 _ rfl) ?_
        refine F_goto (tgt := 11) (by decide) (dk_X7_holds 250 _ rfl) ?_
        exact F_loc (List.forall_mem_cons.mpr ⟨(.tail _ (.tail _ (.head _))), (List.forall_mem_cons.mpr ⟨(.tail _ (.tail _ (.tail _ (.head _)))), (List.forall_mem_cons.mpr ⟨(.tail _ (.tail _ (.tail _ (.tail _ (.head _))))), (List.forall_mem_cons.mpr ⟨(.tail _ (.tail _ (.tail _ (.tail _ (.tail _ (.head _)))))), (List.forall_mem_cons.mpr ⟨(.tail _ (.tail _ (.tail _ (.tail _ (.tail _ (.tail _ (.head _))))))), (List.forall_mem_cons.mpr ⟨(.head _), (fun _ z => absurd z List.not_mem_nil)⟩)⟩)⟩)⟩)⟩)⟩) (hK11 _ _ _ _ _ _ )
theorem j_X7_holds_11   : ∀ (F : Nat) (m : mM) (y1 : Int32) (y2 : Int32) (y3 : Int32) (y4 : Int32) (y5 : Int32) , JF false uI m_X7_holds 4 11 [(0, .ref 0), (1, .int y1), (2, .int y2), (3, .int y3), (4, .int y4), (5, .int y5)] [] m (f_X7_holds_11  F m y1 y2 y3 y4 y5) := by
  intro F
  induction F with
  | zero => intro m y1 y2 y3 y4 y5 ; exact F_no
  | succ F ih => intro m y1 y2 y3 y4 y5 ; exact jb_X7_holds_11  (f_X7_holds_11  F)  ih m y1 y2 y3 y4 y5 
def f_X7_holds (m : mM) (p1 : Int32) (p2 : Int32) (p3 : Int32) : fR Int32 :=
  (gA (mA m 12) p1).bind fun x1 => (f_X7_holds_11  1000 m p1 p2 p3 0 x1)
theorem c_X7_holds (m : mM) (p1 : Int32) (p2 : Int32) (p3 : Int32)  : cF false uI m_X7_holds 4 [.ref 0, .int p1, .int p2, .int p3] m (f_X7_holds m p1 p2 p3) := by
  refine cF_of ok_X7_holds (fun _ _ => Nat.le_of_ble_eq_true rfl) ?_
  unfold f_X7_holds
  show JF _ _ _ _ _ [(0, .ref 0), (1, .int p1), (2, .int p2), (3, .int p3)] _ _ _
  refine F_iconst (v := 0) (by decide) (dk_X7_holds 0 _ rfl) ?_
  refine F_istore (lv' := [(4, .int 0), (0, .ref 0), (1, .int p1), (2, .int p2), (3, .int p3)]) (i := 4) (by decide) rfl (dk_X7_holds 1 _ rfl) ?_
  refine F_aload_n (i := 0) (a := 0) rfl rfl (dk_X7_holds 3 _ rfl) ?_
  refine F_gR (b := 12) fxM_7_19_0 fl_7_69 (dk_X7_holds 4 _ rfl) ?_
  refine F_iload_n (i := 1) (a := 1) rfl rfl (dk_X7_holds 7 _ rfl) ?_
  refine F_iald (axM_0_12) (dk_X7_holds 8 _ rfl) (fun x1 => ?_)
  refine F_istore (lv' := [(5, .int x1), (4, .int 0), (0, .ref 0), (1, .int p1), (2, .int p2), (3, .int p3)]) (i := 5) (by decide) rfl (dk_X7_holds 9 _ rfl) ?_
  exact F_loc (List.forall_mem_cons.mpr ⟨(.tail _ (.tail _ (.head _))), (List.forall_mem_cons.mpr ⟨(.tail _ (.tail _ (.tail _ (.head _)))), (List.forall_mem_cons.mpr ⟨(.tail _ (.tail _ (.tail _ (.tail _ (.head _))))), (List.forall_mem_cons.mpr ⟨(.tail _ (.tail _ (.tail _ (.tail _ (.tail _ (.head _)))))), (List.forall_mem_cons.mpr ⟨(.tail _ (.head _)), (List.forall_mem_cons.mpr ⟨(.head _), (fun _ z => absurd z List.not_mem_nil)⟩)⟩)⟩)⟩)⟩)⟩) (j_X7_holds_11   1000 _ _ _ _ _ _ )
end
