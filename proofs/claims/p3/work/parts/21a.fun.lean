section
set_option maxRecDepth 100000
def f_X0_becomes (m : mM) (p1 : Int32) (p2 : Int32) (p3 : Int32) : fR Unit :=
  nmM (wI m 323 p1) fun m1 => nmM (wI m1 322 p2) fun m2 => nmM (wI m2 324 p3) fun m3 => some ((), m3)
theorem c_X0_becomes (m : mM) (p1 : Int32) (p2 : Int32) (p3 : Int32)  : cF true uU m_X0_becomes 2 [.ref 5, .int p1, .int p2, .int p3] m (f_X0_becomes m p1 p2 p3) := by
  refine cF_of ok_X0_becomes (fun _ _ => Nat.le_of_ble_eq_true rfl) ?_
  unfold f_X0_becomes
  show JF _ _ _ _ _ [(0, .ref 5), (1, .int p1), (2, .int p2), (3, .int p3)] _ _ _
  refine F_aload_n (i := 0) (a := 0) rfl rfl (dk_X0_becomes 0 _ rfl) ?_
  refine F_iload_n (i := 1) (a := 1) rfl rfl (dk_X0_becomes 1 _ rfl) ?_
  refine F_pI (n := 323) fxX_0_3_5 rfl fl_0_15 (fun q hq => by cases hq; rfl) trivial (dk_X0_becomes 2 _ rfl) (fun m1 => ?_)
  refine F_aload_n (i := 0) (a := 0) rfl rfl (dk_X0_becomes 5 _ rfl) ?_
  refine F_iload_n (i := 2) (a := 2) rfl rfl (dk_X0_becomes 6 _ rfl) ?_
  refine F_pI (n := 322) fxX_0_2_5 rfl fl_0_19 (fun q hq => by cases hq; rfl) trivial (dk_X0_becomes 7 _ rfl) (fun m2 => ?_)
  refine F_aload_n (i := 0) (a := 0) rfl rfl (dk_X0_becomes 10 _ rfl) ?_
  refine F_iload_n (i := 3) (a := 3) rfl rfl (dk_X0_becomes 11 _ rfl) ?_
  refine F_pI (n := 324) fxX_0_4_5 rfl fl_0_22 (fun q hq => by cases hq; rfl) trivial (dk_X0_becomes 12 _ rfl) (fun m3 => ?_)
  exact F_retV rfl (dk_X0_becomes 15 _ rfl)
def f_X0_runs_19  (m : mM)  : fR Unit :=
  nmM (wI m 321 (((mI m 321) + 1))) fun m1 => some ((), m1)
theorem j_X0_runs_19   (m : mM)   : JF true uU m_X0_runs 2 19 [(0, .ref 5)] [] m (f_X0_runs_19  m ) := by
  unfold f_X0_runs_19
  refine F_aload_n (i := 0) (a := 0) rfl rfl (dk_X0_runs 19 _ rfl) ?_
  refine F_dup rfl (dk_X0_runs 20 _ rfl) ?_
  refine F_gI (n := 321) fxX_0_1_5 rfl fl_0_35 (dk_X0_runs 21 _ rfl) ?_
  refine F_iconst (v := 1) (by decide) (dk_X0_runs 24 _ rfl) ?_
  refine F_iadd (dk_X0_runs 25 _ rfl) ?_
  refine F_pI (n := 321) fxX_0_1_5 rfl fl_0_35 (fun q hq => by cases hq; rfl) trivial (dk_X0_runs 26 _ rfl) (fun m1 => ?_)
  exact F_retV rfl (dk_X0_runs 29 _ rfl)
def f_X0_runs (m : mM) (p1 : Int32) : fR Unit :=
  (if 20 ≤ (mI m 321) then (f_X0_runs_19  m ) else (sA 0 m 6 (mI m 321) p1).bind fun m2 => (f_X0_runs_19  m2 ))
theorem c_X0_runs (m : mM) (p1 : Int32)  : cF true uU m_X0_runs 2 [.ref 5, .int p1] m (f_X0_runs m p1) := by
  refine cF_of ok_X0_runs (fun _ _ => Nat.le_of_ble_eq_true rfl) ?_
  unfold f_X0_runs
  show JF _ _ _ _ _ [(0, .ref 5), (1, .int p1)] _ _ _
  refine F_aload_n (i := 0) (a := 0) rfl rfl (dk_X0_runs 0 _ rfl) ?_
  refine F_gI (n := 321) fxX_0_1_5 rfl fl_0_35 (dk_X0_runs 1 _ rfl) ?_
  refine F_bipush (v := 20) (by decide) (dk_X0_runs 4 _ rfl) ?_
  refine F_icmp_ge (tgt := 19) (by decide) (dk_X0_runs 6 _ rfl) ?_ ?_
  · exact F_loc (List.forall_mem_cons.mpr ⟨(.head _), (fun _ z => absurd z List.not_mem_nil)⟩) (j_X0_runs_19   _  )
  · refine F_aload_n (i := 0) (a := 0) rfl rfl (dk_X0_runs 9 _ rfl) ?_
    refine F_gR (b := 6) fxX_0_0_5 fl_0_9 (dk_X0_runs 10 _ rfl) ?_
    refine F_aload_n (i := 0) (a := 0) rfl rfl (dk_X0_runs 13 _ rfl) ?_
    refine F_gI (n := 321) fxX_0_1_5 rfl fl_0_35 (dk_X0_runs 14 _ rfl) ?_
    refine F_iload_n (i := 1) (a := 1) rfl rfl (dk_X0_runs 17 _ rfl) ?_
    refine F_iast (axX_0_6) (dk_X0_runs 18 _ rfl) (fun m2 => ?_)
    exact F_loc (List.forall_mem_cons.mpr ⟨(.head _), (fun _ z => absurd z List.not_mem_nil)⟩) (j_X0_runs_19   _  )
def fb_X0_sells (rc : mM → Int32 → Int32 → fR Int32) (m : mM) (p1 : Int32) (p2 : Int32) : fR Int32 :=
  (if p1 = 2 then bnd (f_X0_runs m 30) fun (x2 : Unit) (m3 : mM) => bnd (rc m3 0 (p2 * 3)) fun (x5 : Int32) (m6 : mM) => some (x5, m6) else if p1 = 4 then bnd (f_X0_runs m 50) fun (x8 : Unit) (m9 : mM) => bnd (rc m9 1 p2) fun (x11 : Int32) (m12 : mM) => some ((-x11), m12) else if p1 = 5 then bnd (f_X0_runs m 30) fun (x14 : Unit) (m15 : mM) => bnd (rc m15 0 (p2 * 3)) fun (x17 : Int32) (m18 : mM) => some (x17, m18) else if p1 = 6 then bnd (f_X0_runs m 71) fun (x20 : Unit) (m21 : mM) => bnd (rc m21 3 p2) fun (x23 : Int32) (m24 : mM) => some ((x23 ^^^ (mI m24 324)), m24) else if p1 = 3 then bnd (f_X0_runs m 10) fun (x26 : Unit) (m27 : mM) => some ((p2 + (mI m27 323)), m27) else bnd (f_X0_runs m 10) fun (x29 : Unit) (m30 : mM) => some ((p2 + (mI m30 323)), m30))
theorem jb_X0_sells (rc : mM → Int32 → Int32 → fR Int32) (dr : Nat) (hdr : 2 ≤ dr) (hrc : ∀ (m : mM) (x y : Int32), cF true uI m_X0_sells dr [.ref 5, .int x, .int y] m (rc m x y)) (m : mM) (p1 : Int32) (p2 : Int32)  : JF true uI m_X0_sells (dr + 1) 0 [(0, .ref 5), (1, .int p1), (2, .int p2)] [] m (fb_X0_sells rc m p1 p2) := by
  unfold fb_X0_sells
  refine F_iload_n (i := 1) (a := 1) rfl rfl (dk_X0_sells 0 _ rfl) ?_
  refine F_case (fun c1_0 => ?_) (fun c1_0 => ?_)
  · rw [c1_0]; refine F_tin (off := 67) (tgt := 68) (by decide) (by decide) rfl (by decide) (dk_X0_sells 1 _ rfl) ?_
    refine F_aload_n (i := 0) (a := 0) rfl rfl (dk_X0_sells 68 _ rfl) ?_
    refine F_bipush (v := 30) (by decide) (dk_X0_sells 69 _ rfl) ?_
    refine F_callV (ι' := uU) (ci := 0) (b := 5) (As := [.int 30]) (d' := 2) (rfl) ok_X0_runs vi_X0_runs cl_0_38 (n := 1) (by decide +kernel) rfl rfl rfl (Nat.le_of_ble_eq_true rfl) (by omega) (dk_X0_sells 71 _ rfl) (c_X0_runs _ _ ) (fun x2 m3 => ?_)
    show JF _ _ _ _ _ _ [] _ _
    refine F_aload_n (i := 0) (a := 0) rfl rfl (dk_X0_sells 74 _ rfl) ?_
    refine F_iconst (v := 0) (by decide) (dk_X0_sells 75 _ rfl) ?_
    refine F_iload_n (i := 2) (a := 2) rfl rfl (dk_X0_sells 76 _ rfl) ?_
    refine F_iconst (v := 3) (by decide) (dk_X0_sells 77 _ rfl) ?_
    refine F_imul (dk_X0_sells 78 _ rfl) ?_
    refine F_callV (ι' := uI) (ci := 0) (b := 5) (As := [.int 0, .int (p2 * 3)]) (d' := dr) (rfl) ok_X0_sells vi_X0_sells cl_0_25 (n := 2) (by decide +kernel) rfl rfl rfl (Nat.le_of_ble_eq_true rfl) (by omega) (dk_X0_sells 79 _ rfl) (hrc _ _ _ ) (fun x5 m6 => ?_)
    show JF _ _ _ _ _ _ [.int x5] _ _
    exact F_ret rfl (dk_X0_sells 82 _ rfl)
  refine F_case (fun c1_1 => ?_) (fun c1_1 => ?_)
  · rw [c1_1]; refine F_tin (off := 53) (tgt := 54) (by decide) (by decide) rfl (by decide) (dk_X0_sells 1 _ rfl) ?_
    refine F_aload_n (i := 0) (a := 0) rfl rfl (dk_X0_sells 54 _ rfl) ?_
    refine F_bipush (v := 50) (by decide) (dk_X0_sells 55 _ rfl) ?_
    refine F_callV (ι' := uU) (ci := 0) (b := 5) (As := [.int 50]) (d' := 2) (rfl) ok_X0_runs vi_X0_runs cl_0_38 (n := 1) (by decide +kernel) rfl rfl rfl (Nat.le_of_ble_eq_true rfl) (by omega) (dk_X0_sells 57 _ rfl) (c_X0_runs _ _ ) (fun x8 m9 => ?_)
    show JF _ _ _ _ _ _ [] _ _
    refine F_aload_n (i := 0) (a := 0) rfl rfl (dk_X0_sells 60 _ rfl) ?_
    refine F_iconst (v := 1) (by decide) (dk_X0_sells 61 _ rfl) ?_
    refine F_iload_n (i := 2) (a := 2) rfl rfl (dk_X0_sells 62 _ rfl) ?_
    refine F_callV (ι' := uI) (ci := 0) (b := 5) (As := [.int 1, .int p2]) (d' := dr) (rfl) ok_X0_sells vi_X0_sells cl_0_25 (n := 2) (by decide +kernel) rfl rfl rfl (Nat.le_of_ble_eq_true rfl) (by omega) (dk_X0_sells 63 _ rfl) (hrc _ _ _ ) (fun x11 m12 => ?_)
    show JF _ _ _ _ _ _ [.int x11] _ _
    refine F_ineg (dk_X0_sells 66 _ rfl) ?_
    exact F_ret rfl (dk_X0_sells 67 _ rfl)
  refine F_case (fun c1_2 => ?_) (fun c1_2 => ?_)
  · rw [c1_2]; refine F_tin (off := 67) (tgt := 68) (by decide) (by decide) rfl (by decide) (dk_X0_sells 1 _ rfl) ?_
    refine F_aload_n (i := 0) (a := 0) rfl rfl (dk_X0_sells 68 _ rfl) ?_
    refine F_bipush (v := 30) (by decide) (dk_X0_sells 69 _ rfl) ?_
    refine F_callV (ι' := uU) (ci := 0) (b := 5) (As := [.int 30]) (d' := 2) (rfl) ok_X0_runs vi_X0_runs cl_0_38 (n := 1) (by decide +kernel) rfl rfl rfl (Nat.le_of_ble_eq_true rfl) (by omega) (dk_X0_sells 71 _ rfl) (c_X0_runs _ _ ) (fun x14 m15 => ?_)
    show JF _ _ _ _ _ _ [] _ _
    refine F_aload_n (i := 0) (a := 0) rfl rfl (dk_X0_sells 74 _ rfl) ?_
    refine F_iconst (v := 0) (by decide) (dk_X0_sells 75 _ rfl) ?_
    refine F_iload_n (i := 2) (a := 2) rfl rfl (dk_X0_sells 76 _ rfl) ?_
    refine F_iconst (v := 3) (by decide) (dk_X0_sells 77 _ rfl) ?_
    refine F_imul (dk_X0_sells 78 _ rfl) ?_
    refine F_callV (ι' := uI) (ci := 0) (b := 5) (As := [.int 0, .int (p2 * 3)]) (d' := dr) (rfl) ok_X0_sells vi_X0_sells cl_0_25 (n := 2) (by decide +kernel) rfl rfl rfl (Nat.le_of_ble_eq_true rfl) (by omega) (dk_X0_sells 79 _ rfl) (hrc _ _ _ ) (fun x17 m18 => ?_)
    show JF _ _ _ _ _ _ [.int x17] _ _
    exact F_ret rfl (dk_X0_sells 82 _ rfl)
  refine F_case (fun c1_3 => ?_) (fun c1_3 => ?_)
  · rw [c1_3]; refine F_tin (off := 35) (tgt := 36) (by decide) (by decide) rfl (by decide) (dk_X0_sells 1 _ rfl) ?_
    refine F_aload_n (i := 0) (a := 0) rfl rfl (dk_X0_sells 36 _ rfl) ?_
    refine F_bipush (v := 71) (by decide) (dk_X0_sells 37 _ rfl) ?_
    refine F_callV (ι' := uU) (ci := 0) (b := 5) (As := [.int 71]) (d' := 2) (rfl) ok_X0_runs vi_X0_runs cl_0_38 (n := 1) (by decide +kernel) rfl rfl rfl (Nat.le_of_ble_eq_true rfl) (by omega) (dk_X0_sells 39 _ rfl) (c_X0_runs _ _ ) (fun x20 m21 => ?_)
    show JF _ _ _ _ _ _ [] _ _
    refine F_aload_n (i := 0) (a := 0) rfl rfl (dk_X0_sells 42 _ rfl) ?_
    refine F_iconst (v := 3) (by decide) (dk_X0_sells 43 _ rfl) ?_
    refine F_iload_n (i := 2) (a := 2) rfl rfl (dk_X0_sells 44 _ rfl) ?_
    refine F_callV (ι' := uI) (ci := 0) (b := 5) (As := [.int 3, .int p2]) (d' := dr) (rfl) ok_X0_sells vi_X0_sells cl_0_25 (n := 2) (by decide +kernel) rfl rfl rfl (Nat.le_of_ble_eq_true rfl) (by omega) (dk_X0_sells 45 _ rfl) (hrc _ _ _ ) (fun x23 m24 => ?_)
    show JF _ _ _ _ _ _ [.int x23] _ _
    refine F_aload_n (i := 0) (a := 0) rfl rfl (dk_X0_sells 48 _ rfl) ?_
    refine F_gI (n := 324) fxX_0_4_5 rfl fl_0_22 (dk_X0_sells 49 _ rfl) ?_
    refine F_ixor (dk_X0_sells 52 _ rfl) ?_
    exact F_ret rfl (dk_X0_sells 53 _ rfl)
  refine F_case (fun c1_4 => ?_) (fun c1_4 => ?_)
  · rw [c1_4]; refine F_tin (off := 82) (tgt := 83) (by decide) (by decide) rfl (by decide) (dk_X0_sells 1 _ rfl) ?_
    refine F_aload_n (i := 0) (a := 0) rfl rfl (dk_X0_sells 83 _ rfl) ?_
    refine F_bipush (v := 10) (by decide) (dk_X0_sells 84 _ rfl) ?_
    refine F_callV (ι' := uU) (ci := 0) (b := 5) (As := [.int 10]) (d' := 2) (rfl) ok_X0_runs vi_X0_runs cl_0_38 (n := 1) (by decide +kernel) rfl rfl rfl (Nat.le_of_ble_eq_true rfl) (by omega) (dk_X0_sells 86 _ rfl) (c_X0_runs _ _ ) (fun x26 m27 => ?_)
    show JF _ _ _ _ _ _ [] _ _
    refine F_iload_n (i := 2) (a := 2) rfl rfl (dk_X0_sells 89 _ rfl) ?_
    refine F_aload_n (i := 0) (a := 0) rfl rfl (dk_X0_sells 90 _ rfl) ?_
    refine F_gI (n := 323) fxX_0_3_5 rfl fl_0_15 (dk_X0_sells 91 _ rfl) ?_
    refine F_iadd (dk_X0_sells 94 _ rfl) ?_
    exact F_ret rfl (dk_X0_sells 95 _ rfl)
  refine F_tout (tgt := 83) (by have q0 := fI_ne c1_0; rw [show (2 : Int32).toInt = 2 from by decide] at q0; have q1 := fI_ne c1_1; rw [show (4 : Int32).toInt = 4 from by decide] at q1; have q2 := fI_ne c1_2; rw [show (5 : Int32).toInt = 5 from by decide] at q2; have q3 := fI_ne c1_3; rw [show (6 : Int32).toInt = 6 from by decide] at q3; have q4 := fI_ne c1_4; rw [show (3 : Int32).toInt = 3 from by decide] at q4; omega) (by decide) (dk_X0_sells 1 _ rfl) ?_
  refine F_aload_n (i := 0) (a := 0) rfl rfl (dk_X0_sells 83 _ rfl) ?_
  refine F_bipush (v := 10) (by decide) (dk_X0_sells 84 _ rfl) ?_
  refine F_callV (ι' := uU) (ci := 0) (b := 5) (As := [.int 10]) (d' := 2) (rfl) ok_X0_runs vi_X0_runs cl_0_38 (n := 1) (by decide +kernel) rfl rfl rfl (Nat.le_of_ble_eq_true rfl) (by omega) (dk_X0_sells 86 _ rfl) (c_X0_runs _ _ ) (fun x29 m30 => ?_)
  show JF _ _ _ _ _ _ [] _ _
  refine F_iload_n (i := 2) (a := 2) rfl rfl (dk_X0_sells 89 _ rfl) ?_
  refine F_aload_n (i := 0) (a := 0) rfl rfl (dk_X0_sells 90 _ rfl) ?_
  refine F_gI (n := 323) fxX_0_3_5 rfl fl_0_15 (dk_X0_sells 91 _ rfl) ?_
  refine F_iadd (dk_X0_sells 94 _ rfl) ?_
  exact F_ret rfl (dk_X0_sells 95 _ rfl)
def f_X0_sells : Nat → mM → Int32 → Int32 → fR Int32
  | 0, _, _, _ => none
  | D + 1, m, p1, p2 => fb_X0_sells (f_X0_sells D) m p1 p2
theorem c_X0_sells : ∀ (D : Nat) (m : mM) (p1 : Int32) (p2 : Int32) , cF true uI m_X0_sells (2 + 1 * D) [.ref 5, .int p1, .int p2] m (f_X0_sells D m p1 p2) := by
  intro D
  induction D with
  | zero => intro m p1 p2  r h1 he; cases he
  | succ D ih =>
    intro m p1 p2 
    refine cF_of ok_X0_sells (fun _ _ => Nat.le_of_ble_eq_true rfl) ?_
    show JF _ _ _ ((2 + 1 * D) + 1) _ _ _ _ _
    exact jb_X0_sells (f_X0_sells D) (2 + 1 * D) (by omega) ih m p1 p2 
def fb_X0_gives (rc : mM → Int32 → Int32 → fR Int32) (m : mM) (p1 : Int32) (p2 : Int32) : fR Int32 :=
  (if p1 = 1 then bnd (f_X0_runs m 20) fun (x2 : Unit) (m3 : mM) => bnd (rc m3 0 p2) fun (x5 : Int32) (m6 : mM) => some ((x5 ^^^ 6), m6) else if p1 = 4 then bnd (f_X0_runs m 51) fun (x8 : Unit) (m9 : mM) => bnd (rc m9 1 (p2 + 1)) fun (x11 : Int32) (m12 : mM) => some (x11, m12) else if p1 = 6 then bnd (f_X0_runs m 70) fun (x14 : Unit) (m15 : mM) => bnd (rc m15 3 p2) fun (x17 : Int32) (m18 : mM) => bnd (f_X0_sells 3 m18 3 2) fun (x20 : Int32) (m21 : mM) => some ((x17 + x20), m21) else bnd (f_X0_runs m 11) fun (x23 : Unit) (m24 : mM) => bnd (f_X0_sells 3 m24 (mI m24 322) p2) fun (x26 : Int32) (m27 : mM) => some ((x26 - (mI m27 324)), m27))
theorem jb_X0_gives (rc : mM → Int32 → Int32 → fR Int32) (dr : Nat) (hdr : 5 ≤ dr) (hrc : ∀ (m : mM) (x y : Int32), cF true uI m_X0_gives dr [.ref 5, .int x, .int y] m (rc m x y)) (m : mM) (p1 : Int32) (p2 : Int32)  : JF true uI m_X0_gives (dr + 1) 0 [(0, .ref 5), (1, .int p1), (2, .int p2)] [] m (fb_X0_gives rc m p1 p2) := by
  unfold fb_X0_gives
  refine F_iload_n (i := 1) (a := 1) rfl rfl (dk_X0_gives 0 _ rfl) ?_
  refine F_case (fun c1_0 => ?_) (fun c1_0 => ?_)
  · rw [c1_0]; refine F_look (off := 70) (tgt := 71) (by decide) (by decide) (by decide) (dk_X0_gives 1 _ rfl) ?_
    refine F_aload_n (i := 0) (a := 0) rfl rfl (dk_X0_gives 71 _ rfl) ?_
    refine F_bipush (v := 20) (by decide) (dk_X0_gives 72 _ rfl) ?_
    refine F_callV (ι' := uU) (ci := 0) (b := 5) (As := [.int 20]) (d' := 2) (rfl) ok_X0_runs vi_X0_runs cl_0_38 (n := 1) (by decide +kernel) rfl rfl rfl (Nat.le_of_ble_eq_true rfl) (by omega) (dk_X0_gives 74 _ rfl) (c_X0_runs _ _ ) (fun x2 m3 => ?_)
    show JF _ _ _ _ _ _ [] _ _
    refine F_aload_n (i := 0) (a := 0) rfl rfl (dk_X0_gives 77 _ rfl) ?_
    refine F_iconst (v := 0) (by decide) (dk_X0_gives 78 _ rfl) ?_
    refine F_iload_n (i := 2) (a := 2) rfl rfl (dk_X0_gives 79 _ rfl) ?_
    refine F_callV (ι' := uI) (ci := 0) (b := 5) (As := [.int 0, .int p2]) (d' := dr) (rfl) ok_X0_gives vi_X0_gives cl_0_29 (n := 2) (by decide +kernel) rfl rfl rfl (Nat.le_of_ble_eq_true rfl) (by omega) (dk_X0_gives 80 _ rfl) (hrc _ _ _ ) (fun x5 m6 => ?_)
    show JF _ _ _ _ _ _ [.int x5] _ _
    refine F_bipush (v := 6) (by decide) (dk_X0_gives 83 _ rfl) ?_
    refine F_ixor (dk_X0_gives 85 _ rfl) ?_
    exact F_ret rfl (dk_X0_gives 86 _ rfl)
  refine F_case (fun c1_1 => ?_) (fun c1_1 => ?_)
  · rw [c1_1]; refine F_look (off := 55) (tgt := 56) (by decide) (by decide) (by decide) (dk_X0_gives 1 _ rfl) ?_
    refine F_aload_n (i := 0) (a := 0) rfl rfl (dk_X0_gives 56 _ rfl) ?_
    refine F_bipush (v := 51) (by decide) (dk_X0_gives 57 _ rfl) ?_
    refine F_callV (ι' := uU) (ci := 0) (b := 5) (As := [.int 51]) (d' := 2) (rfl) ok_X0_runs vi_X0_runs cl_0_38 (n := 1) (by decide +kernel) rfl rfl rfl (Nat.le_of_ble_eq_true rfl) (by omega) (dk_X0_gives 59 _ rfl) (c_X0_runs _ _ ) (fun x8 m9 => ?_)
    show JF _ _ _ _ _ _ [] _ _
    refine F_aload_n (i := 0) (a := 0) rfl rfl (dk_X0_gives 62 _ rfl) ?_
    refine F_iconst (v := 1) (by decide) (dk_X0_gives 63 _ rfl) ?_
    refine F_iload_n (i := 2) (a := 2) rfl rfl (dk_X0_gives 64 _ rfl) ?_
    refine F_iconst (v := 1) (by decide) (dk_X0_gives 65 _ rfl) ?_
    refine F_iadd (dk_X0_gives 66 _ rfl) ?_
    refine F_callV (ι' := uI) (ci := 0) (b := 5) (As := [.int 1, .int (p2 + 1)]) (d' := dr) (rfl) ok_X0_gives vi_X0_gives cl_0_29 (n := 2) (by decide +kernel) rfl rfl rfl (Nat.le_of_ble_eq_true rfl) (by omega) (dk_X0_gives 67 _ rfl) (hrc _ _ _ ) (fun x11 m12 => ?_)
    show JF _ _ _ _ _ _ [.int x11] _ _
    exact F_ret rfl (dk_X0_gives 70 _ rfl)
  refine F_case (fun c1_2 => ?_) (fun c1_2 => ?_)
  · rw [c1_2]; refine F_look (off := 35) (tgt := 36) (by decide) (by decide) (by decide) (dk_X0_gives 1 _ rfl) ?_
    refine F_aload_n (i := 0) (a := 0) rfl rfl (dk_X0_gives 36 _ rfl) ?_
    refine F_bipush (v := 70) (by decide) (dk_X0_gives 37 _ rfl) ?_
    refine F_callV (ι' := uU) (ci := 0) (b := 5) (As := [.int 70]) (d' := 2) (rfl) ok_X0_runs vi_X0_runs cl_0_38 (n := 1) (by decide +kernel) rfl rfl rfl (Nat.le_of_ble_eq_true rfl) (by omega) (dk_X0_gives 39 _ rfl) (c_X0_runs _ _ ) (fun x14 m15 => ?_)
    show JF _ _ _ _ _ _ [] _ _
    refine F_aload_n (i := 0) (a := 0) rfl rfl (dk_X0_gives 42 _ rfl) ?_
    refine F_iconst (v := 3) (by decide) (dk_X0_gives 43 _ rfl) ?_
    refine F_iload_n (i := 2) (a := 2) rfl rfl (dk_X0_gives 44 _ rfl) ?_
    refine F_callV (ι' := uI) (ci := 0) (b := 5) (As := [.int 3, .int p2]) (d' := dr) (rfl) ok_X0_gives vi_X0_gives cl_0_29 (n := 2) (by decide +kernel) rfl rfl rfl (Nat.le_of_ble_eq_true rfl) (by omega) (dk_X0_gives 45 _ rfl) (hrc _ _ _ ) (fun x17 m18 => ?_)
    show JF _ _ _ _ _ _ [.int x17] _ _
    refine F_aload_n (i := 0) (a := 0) rfl rfl (dk_X0_gives 48 _ rfl) ?_
    refine F_iconst (v := 3) (by decide) (dk_X0_gives 49 _ rfl) ?_
    refine F_iconst (v := 2) (by decide) (dk_X0_gives 50 _ rfl) ?_
    refine F_callV (ι' := uI) (ci := 0) (b := 5) (As := [.int 3, .int 2]) (d' := 5) (rfl) ok_X0_sells vi_X0_sells cl_0_25 (n := 2) (by decide +kernel) rfl rfl rfl (Nat.le_of_ble_eq_true rfl) (by omega) (dk_X0_gives 51 _ rfl) (c_X0_sells 3 _ _ _ ) (fun x20 m21 => ?_)
    show JF _ _ _ _ _ _ [.int x20, .int x17] _ _
    refine F_iadd (dk_X0_gives 54 _ rfl) ?_
    exact F_ret rfl (dk_X0_gives 55 _ rfl)
  refine F_look (off := 86) (tgt := 87) (by decide) (by have q0 := fI_ne c1_0; rw [show (1 : Int32).toInt = 1 from by decide] at q0; have q1 := fI_ne c1_1; rw [show (4 : Int32).toInt = 4 from by decide] at q1; have q2 := fI_ne c1_2; rw [show (6 : Int32).toInt = 6 from by decide] at q2; simp [Op.lookupswitch.offset, q0, Ne.symm q0, q1, Ne.symm q1, q2, Ne.symm q2]) (by decide) (dk_X0_gives 1 _ rfl) ?_
  refine F_aload_n (i := 0) (a := 0) rfl rfl (dk_X0_gives 87 _ rfl) ?_
  refine F_bipush (v := 11) (by decide) (dk_X0_gives 88 _ rfl) ?_
  refine F_callV (ι' := uU) (ci := 0) (b := 5) (As := [.int 11]) (d' := 2) (rfl) ok_X0_runs vi_X0_runs cl_0_38 (n := 1) (by decide +kernel) rfl rfl rfl (Nat.le_of_ble_eq_true rfl) (by omega) (dk_X0_gives 90 _ rfl) (c_X0_runs _ _ ) (fun x23 m24 => ?_)
  show JF _ _ _ _ _ _ [] _ _
  refine F_aload_n (i := 0) (a := 0) rfl rfl (dk_X0_gives 93 _ rfl) ?_
  refine F_aload_n (i := 0) (a := 0) rfl rfl (dk_X0_gives 94 _ rfl) ?_
  refine F_gI (n := 322) fxX_0_2_5 rfl fl_0_19 (dk_X0_gives 95 _ rfl) ?_
  refine F_iload_n (i := 2) (a := 2) rfl rfl (dk_X0_gives 98 _ rfl) ?_
  refine F_callV (ι' := uI) (ci := 0) (b := 5) (As := [.int (mI m24 322), .int p2]) (d' := 5) (rfl) ok_X0_sells vi_X0_sells cl_0_25 (n := 2) (by decide +kernel) rfl rfl rfl (Nat.le_of_ble_eq_true rfl) (by omega) (dk_X0_gives 99 _ rfl) (c_X0_sells 3 _ _ _ ) (fun x26 m27 => ?_)
  show JF _ _ _ _ _ _ [.int x26] _ _
  refine F_aload_n (i := 0) (a := 0) rfl rfl (dk_X0_gives 102 _ rfl) ?_
  refine F_gI (n := 324) fxX_0_4_5 rfl fl_0_22 (dk_X0_gives 103 _ rfl) ?_
  refine F_isub (dk_X0_gives 106 _ rfl) ?_
  exact F_ret rfl (dk_X0_gives 107 _ rfl)
def f_X0_gives : Nat → mM → Int32 → Int32 → fR Int32
  | 0, _, _, _ => none
  | D + 1, m, p1, p2 => fb_X0_gives (f_X0_gives D) m p1 p2
theorem c_X0_gives : ∀ (D : Nat) (m : mM) (p1 : Int32) (p2 : Int32) , cF true uI m_X0_gives (5 + 1 * D) [.ref 5, .int p1, .int p2] m (f_X0_gives D m p1 p2) := by
  intro D
  induction D with
  | zero => intro m p1 p2  r h1 he; cases he
  | succ D ih =>
    intro m p1 p2 
    refine cF_of ok_X0_gives (fun _ _ => Nat.le_of_ble_eq_true rfl) ?_
    show JF _ _ _ ((5 + 1 * D) + 1) _ _ _ _ _
    exact jb_X0_gives (f_X0_gives D) (5 + 1 * D) (by omega) ih m p1 p2 
def fb_X0_tells (rc : mM → Int32 → Int32 → fR Int32) (m : mM) (p1 : Int32) (p2 : Int32) : fR Int32 :=
  (if p1 = 3 then bnd (f_X0_runs m 40) fun (x2 : Unit) (m3 : mM) => bnd (rc m3 0 p2) fun (x5 : Int32) (m6 : mM) => bnd (f_X0_gives 3 m6 (mI m6 322) 1) fun (x8 : Int32) (m9 : mM) => some ((x5 + x8), m9) else if p1 = 5 then bnd (f_X0_runs m 60) fun (x11 : Unit) (m12 : mM) => bnd (rc m12 2 ((p2 - (mI m12 323)))) fun (x14 : Int32) (m15 : mM) => some (x14, m15) else if p1 = 6 then bnd (f_X0_runs m 40) fun (x17 : Unit) (m18 : mM) => bnd (rc m18 0 p2) fun (x20 : Int32) (m21 : mM) => bnd (f_X0_gives 3 m21 (mI m21 322) 1) fun (x23 : Int32) (m24 : mM) => some ((x20 + x23), m24) else if p1 = 4 then bnd (f_X0_runs m 12) fun (x26 : Unit) (m27 : mM) => bnd (f_X0_gives 3 m27 (mI m27 322) p2) fun (x29 : Int32) (m30 : mM) => some ((x29 * 2), m30) else bnd (f_X0_runs m 12) fun (x32 : Unit) (m33 : mM) => bnd (f_X0_gives 3 m33 (mI m33 322) p2) fun (x35 : Int32) (m36 : mM) => some ((x35 * 2), m36))
theorem jb_X0_tells (rc : mM → Int32 → Int32 → fR Int32) (dr : Nat) (hdr : 8 ≤ dr) (hrc : ∀ (m : mM) (x y : Int32), cF true uI m_X0_tells dr [.ref 5, .int x, .int y] m (rc m x y)) (m : mM) (p1 : Int32) (p2 : Int32)  : JF true uI m_X0_tells (dr + 1) 0 [(0, .ref 5), (1, .int p1), (2, .int p2)] [] m (fb_X0_tells rc m p1 p2) := by
  unfold fb_X0_tells
  refine F_iload_n (i := 1) (a := 1) rfl rfl (dk_X0_tells 0 _ rfl) ?_
  refine F_case (fun c1_0 => ?_) (fun c1_0 => ?_)
  · rw [c1_0]; refine F_tin (off := 31) (tgt := 32) (by decide) (by decide) rfl (by decide) (dk_X0_tells 1 _ rfl) ?_
    refine F_aload_n (i := 0) (a := 0) rfl rfl (dk_X0_tells 32 _ rfl) ?_
    refine F_bipush (v := 40) (by decide) (dk_X0_tells 33 _ rfl) ?_
    refine F_callV (ι' := uU) (ci := 0) (b := 5) (As := [.int 40]) (d' := 2) (rfl) ok_X0_runs vi_X0_runs cl_0_38 (n := 1) (by decide +kernel) rfl rfl rfl (Nat.le_of_ble_eq_true rfl) (by omega) (dk_X0_tells 35 _ rfl) (c_X0_runs _ _ ) (fun x2 m3 => ?_)
    show JF _ _ _ _ _ _ [] _ _
    refine F_aload_n (i := 0) (a := 0) rfl rfl (dk_X0_tells 38 _ rfl) ?_
    refine F_iconst (v := 0) (by decide) (dk_X0_tells 39 _ rfl) ?_
    refine F_iload_n (i := 2) (a := 2) rfl rfl (dk_X0_tells 40 _ rfl) ?_
    refine F_callV (ι' := uI) (ci := 0) (b := 5) (As := [.int 0, .int p2]) (d' := dr) (rfl) ok_X0_tells vi_X0_tells cl_0_32 (n := 2) (by decide +kernel) rfl rfl rfl (Nat.le_of_ble_eq_true rfl) (by omega) (dk_X0_tells 41 _ rfl) (hrc _ _ _ ) (fun x5 m6 => ?_)
    show JF _ _ _ _ _ _ [.int x5] _ _
    refine F_aload_n (i := 0) (a := 0) rfl rfl (dk_X0_tells 44 _ rfl) ?_
    refine F_aload_n (i := 0) (a := 0) rfl rfl (dk_X0_tells 45 _ rfl) ?_
    refine F_gI (n := 322) fxX_0_2_5 rfl fl_0_19 (dk_X0_tells 46 _ rfl) ?_
    refine F_iconst (v := 1) (by decide) (dk_X0_tells 49 _ rfl) ?_
    refine F_callV (ι' := uI) (ci := 0) (b := 5) (As := [.int (mI m6 322), .int 1]) (d' := 8) (rfl) ok_X0_gives vi_X0_gives cl_0_29 (n := 2) (by decide +kernel) rfl rfl rfl (Nat.le_of_ble_eq_true rfl) (by omega) (dk_X0_tells 50 _ rfl) (c_X0_gives 3 _ _ _ ) (fun x8 m9 => ?_)
    show JF _ _ _ _ _ _ [.int x8, .int x5] _ _
    refine F_iadd (dk_X0_tells 53 _ rfl) ?_
    exact F_ret rfl (dk_X0_tells 54 _ rfl)
  refine F_case (fun c1_1 => ?_) (fun c1_1 => ?_)
  · rw [c1_1]; refine F_tin (off := 54) (tgt := 55) (by decide) (by decide) rfl (by decide) (dk_X0_tells 1 _ rfl) ?_
    refine F_aload_n (i := 0) (a := 0) rfl rfl (dk_X0_tells 55 _ rfl) ?_
    refine F_bipush (v := 60) (by decide) (dk_X0_tells 56 _ rfl) ?_
    refine F_callV (ι' := uU) (ci := 0) (b := 5) (As := [.int 60]) (d' := 2) (rfl) ok_X0_runs vi_X0_runs cl_0_38 (n := 1) (by decide +kernel) rfl rfl rfl (Nat.le_of_ble_eq_true rfl) (by omega) (dk_X0_tells 58 _ rfl) (c_X0_runs _ _ ) (fun x11 m12 => ?_)
    show JF _ _ _ _ _ _ [] _ _
    refine F_aload_n (i := 0) (a := 0) rfl rfl (dk_X0_tells 61 _ rfl) ?_
    refine F_iconst (v := 2) (by decide) (dk_X0_tells 62 _ rfl) ?_
    refine F_iload_n (i := 2) (a := 2) rfl rfl (dk_X0_tells 63 _ rfl) ?_
    refine F_aload_n (i := 0) (a := 0) rfl rfl (dk_X0_tells 64 _ rfl) ?_
    refine F_gI (n := 323) fxX_0_3_5 rfl fl_0_15 (dk_X0_tells 65 _ rfl) ?_
    refine F_isub (dk_X0_tells 68 _ rfl) ?_
    refine F_callV (ι' := uI) (ci := 0) (b := 5) (As := [.int 2, .int (p2 - (mI m12 323))]) (d' := dr) (rfl) ok_X0_tells vi_X0_tells cl_0_32 (n := 2) (by decide +kernel) rfl rfl rfl (Nat.le_of_ble_eq_true rfl) (by omega) (dk_X0_tells 69 _ rfl) (hrc _ _ _ ) (fun x14 m15 => ?_)
    show JF _ _ _ _ _ _ [.int x14] _ _
    exact F_ret rfl (dk_X0_tells 72 _ rfl)
  refine F_case (fun c1_2 => ?_) (fun c1_2 => ?_)
  · rw [c1_2]; refine F_tin (off := 31) (tgt := 32) (by decide) (by decide) rfl (by decide) (dk_X0_tells 1 _ rfl) ?_
    refine F_aload_n (i := 0) (a := 0) rfl rfl (dk_X0_tells 32 _ rfl) ?_
    refine F_bipush (v := 40) (by decide) (dk_X0_tells 33 _ rfl) ?_
    refine F_callV (ι' := uU) (ci := 0) (b := 5) (As := [.int 40]) (d' := 2) (rfl) ok_X0_runs vi_X0_runs cl_0_38 (n := 1) (by decide +kernel) rfl rfl rfl (Nat.le_of_ble_eq_true rfl) (by omega) (dk_X0_tells 35 _ rfl) (c_X0_runs _ _ ) (fun x17 m18 => ?_)
    show JF _ _ _ _ _ _ [] _ _
    refine F_aload_n (i := 0) (a := 0) rfl rfl (dk_X0_tells 38 _ rfl) ?_
    refine F_iconst (v := 0) (by decide) (dk_X0_tells 39 _ rfl) ?_
    refine F_iload_n (i := 2) (a := 2) rfl rfl (dk_X0_tells 40 _ rfl) ?_
    refine F_callV (ι' := uI) (ci := 0) (b := 5) (As := [.int 0, .int p2]) (d' := dr) (rfl) ok_X0_tells vi_X0_tells cl_0_32 (n := 2) (by decide +kernel) rfl rfl rfl (Nat.le_of_ble_eq_true rfl) (by omega) (dk_X0_tells 41 _ rfl) (hrc _ _ _ ) (fun x20 m21 => ?_)
    show JF _ _ _ _ _ _ [.int x20] _ _
    refine F_aload_n (i := 0) (a := 0) rfl rfl (dk_X0_tells 44 _ rfl) ?_
    refine F_aload_n (i := 0) (a := 0) rfl rfl (dk_X0_tells 45 _ rfl) ?_
    refine F_gI (n := 322) fxX_0_2_5 rfl fl_0_19 (dk_X0_tells 46 _ rfl) ?_
    refine F_iconst (v := 1) (by decide) (dk_X0_tells 49 _ rfl) ?_
    refine F_callV (ι' := uI) (ci := 0) (b := 5) (As := [.int (mI m21 322), .int 1]) (d' := 8) (rfl) ok_X0_gives vi_X0_gives cl_0_29 (n := 2) (by decide +kernel) rfl rfl rfl (Nat.le_of_ble_eq_true rfl) (by omega) (dk_X0_tells 50 _ rfl) (c_X0_gives 3 _ _ _ ) (fun x23 m24 => ?_)
    show JF _ _ _ _ _ _ [.int x23, .int x20] _ _
    refine F_iadd (dk_X0_tells 53 _ rfl) ?_
    exact F_ret rfl (dk_X0_tells 54 _ rfl)
  refine F_case (fun c1_3 => ?_) (fun c1_3 => ?_)
  · rw [c1_3]; refine F_tin (off := 72) (tgt := 73) (by decide) (by decide) rfl (by decide) (dk_X0_tells 1 _ rfl) ?_
    refine F_aload_n (i := 0) (a := 0) rfl rfl (dk_X0_tells 73 _ rfl) ?_
    refine F_bipush (v := 12) (by decide) (dk_X0_tells 74 _ rfl) ?_
    refine F_callV (ι' := uU) (ci := 0) (b := 5) (As := [.int 12]) (d' := 2) (rfl) ok_X0_runs vi_X0_runs cl_0_38 (n := 1) (by decide +kernel) rfl rfl rfl (Nat.le_of_ble_eq_true rfl) (by omega) (dk_X0_tells 76 _ rfl) (c_X0_runs _ _ ) (fun x26 m27 => ?_)
    show JF _ _ _ _ _ _ [] _ _
    refine F_aload_n (i := 0) (a := 0) rfl rfl (dk_X0_tells 79 _ rfl) ?_
    refine F_aload_n (i := 0) (a := 0) rfl rfl (dk_X0_tells 80 _ rfl) ?_
    refine F_gI (n := 322) fxX_0_2_5 rfl fl_0_19 (dk_X0_tells 81 _ rfl) ?_
    refine F_iload_n (i := 2) (a := 2) rfl rfl (dk_X0_tells 84 _ rfl) ?_
    refine F_callV (ι' := uI) (ci := 0) (b := 5) (As := [.int (mI m27 322), .int p2]) (d' := 8) (rfl) ok_X0_gives vi_X0_gives cl_0_29 (n := 2) (by decide +kernel) rfl rfl rfl (Nat.le_of_ble_eq_true rfl) (by omega) (dk_X0_tells 85 _ rfl) (c_X0_gives 3 _ _ _ ) (fun x29 m30 => ?_)
    show JF _ _ _ _ _ _ [.int x29] _ _
    refine F_iconst (v := 2) (by decide) (dk_X0_tells 88 _ rfl) ?_
    refine F_imul (dk_X0_tells 89 _ rfl) ?_
    exact F_ret rfl (dk_X0_tells 90 _ rfl)
  refine F_tout (tgt := 73) (by have q0 := fI_ne c1_0; rw [show (3 : Int32).toInt = 3 from by decide] at q0; have q1 := fI_ne c1_1; rw [show (5 : Int32).toInt = 5 from by decide] at q1; have q2 := fI_ne c1_2; rw [show (6 : Int32).toInt = 6 from by decide] at q2; have q3 := fI_ne c1_3; rw [show (4 : Int32).toInt = 4 from by decide] at q3; omega) (by decide) (dk_X0_tells 1 _ rfl) ?_
  refine F_aload_n (i := 0) (a := 0) rfl rfl (dk_X0_tells 73 _ rfl) ?_
  refine F_bipush (v := 12) (by decide) (dk_X0_tells 74 _ rfl) ?_
  refine F_callV (ι' := uU) (ci := 0) (b := 5) (As := [.int 12]) (d' := 2) (rfl) ok_X0_runs vi_X0_runs cl_0_38 (n := 1) (by decide +kernel) rfl rfl rfl (Nat.le_of_ble_eq_true rfl) (by omega) (dk_X0_tells 76 _ rfl) (c_X0_runs _ _ ) (fun x32 m33 => ?_)
  show JF _ _ _ _ _ _ [] _ _
  refine F_aload_n (i := 0) (a := 0) rfl rfl (dk_X0_tells 79 _ rfl) ?_
  refine F_aload_n (i := 0) (a := 0) rfl rfl (dk_X0_tells 80 _ rfl) ?_
  refine F_gI (n := 322) fxX_0_2_5 rfl fl_0_19 (dk_X0_tells 81 _ rfl) ?_
  refine F_iload_n (i := 2) (a := 2) rfl rfl (dk_X0_tells 84 _ rfl) ?_
  refine F_callV (ι' := uI) (ci := 0) (b := 5) (As := [.int (mI m33 322), .int p2]) (d' := 8) (rfl) ok_X0_gives vi_X0_gives cl_0_29 (n := 2) (by decide +kernel) rfl rfl rfl (Nat.le_of_ble_eq_true rfl) (by omega) (dk_X0_tells 85 _ rfl) (c_X0_gives 3 _ _ _ ) (fun x35 m36 => ?_)
  show JF _ _ _ _ _ _ [.int x35] _ _
  refine F_iconst (v := 2) (by decide) (dk_X0_tells 88 _ rfl) ?_
  refine F_imul (dk_X0_tells 89 _ rfl) ?_
  exact F_ret rfl (dk_X0_tells 90 _ rfl)
def f_X0_tells : Nat → mM → Int32 → Int32 → fR Int32
  | 0, _, _, _ => none
  | D + 1, m, p1, p2 => fb_X0_tells (f_X0_tells D) m p1 p2
theorem c_X0_tells : ∀ (D : Nat) (m : mM) (p1 : Int32) (p2 : Int32) , cF true uI m_X0_tells (8 + 1 * D) [.ref 5, .int p1, .int p2] m (f_X0_tells D m p1 p2) := by
  intro D
  induction D with
  | zero => intro m p1 p2  r h1 he; cases he
  | succ D ih =>
    intro m p1 p2 
    refine cF_of ok_X0_tells (fun _ _ => Nat.le_of_ble_eq_true rfl) ?_
    show JF _ _ _ ((8 + 1 * D) + 1) _ _ _ _ _
    exact jb_X0_tells (f_X0_tells D) (8 + 1 * D) (by omega) ih m p1 p2 
def f_X0_answer (m : mM) (p1 : Int32) (p2 : Int32) : fR Int32 :=
  (if p1 = 0 then bnd (f_X0_sells 3 m (mI m 322) p2) fun (x2 : Int32) (m3 : mM) => some (x2, m3) else if p1 = 1 then bnd (f_X0_gives 3 m (mI m 322) p2) fun (x5 : Int32) (m6 : mM) => some (x5, m6) else if p1 = 2 then bnd (f_X0_tells 3 m (mI m 322) p2) fun (x8 : Int32) (m9 : mM) => some (x8, m9) else some (0, m))
theorem c_X0_answer (m : mM) (p1 : Int32) (p2 : Int32)  : cF true uI m_X0_answer 12 [.ref 5, .int p1, .int p2] m (f_X0_answer m p1 p2) := by
  refine cF_of ok_X0_answer (fun _ _ => Nat.le_of_ble_eq_true rfl) ?_
  unfold f_X0_answer
  show JF _ _ _ _ _ [(0, .ref 5), (1, .int p1), (2, .int p2)] _ _ _
  refine F_iload_n (i := 1) (a := 1) rfl rfl (dk_X0_answer 0 _ rfl) ?_
  refine F_case (fun c1_0 => ?_) (fun c1_0 => ?_)
  · rw [c1_0]; refine F_tin (off := 27) (tgt := 28) (by decide) (by decide) rfl (by decide) (dk_X0_answer 1 _ rfl) ?_
    refine F_aload_n (i := 0) (a := 0) rfl rfl (dk_X0_answer 28 _ rfl) ?_
    refine F_aload_n (i := 0) (a := 0) rfl rfl (dk_X0_answer 29 _ rfl) ?_
    refine F_gI (n := 322) fxX_0_2_5 rfl fl_0_19 (dk_X0_answer 30 _ rfl) ?_
    refine F_iload_n (i := 2) (a := 2) rfl rfl (dk_X0_answer 33 _ rfl) ?_
    refine F_callV (ι' := uI) (ci := 0) (b := 5) (As := [.int (mI m 322), .int p2]) (d' := 5) (rfl) ok_X0_sells vi_X0_sells cl_0_25 (n := 2) (by decide +kernel) rfl rfl rfl (Nat.le_of_ble_eq_true rfl) (by omega) (dk_X0_answer 34 _ rfl) (c_X0_sells 3 _ _ _ ) (fun x2 m3 => ?_)
    show JF _ _ _ _ _ _ [.int x2] _ _
    exact F_ret rfl (dk_X0_answer 37 _ rfl)
  refine F_case (fun c1_1 => ?_) (fun c1_1 => ?_)
  · rw [c1_1]; refine F_tin (off := 37) (tgt := 38) (by decide) (by decide) rfl (by decide) (dk_X0_answer 1 _ rfl) ?_
    refine F_aload_n (i := 0) (a := 0) rfl rfl (dk_X0_answer 38 _ rfl) ?_
    refine F_aload_n (i := 0) (a := 0) rfl rfl (dk_X0_answer 39 _ rfl) ?_
    refine F_gI (n := 322) fxX_0_2_5 rfl fl_0_19 (dk_X0_answer 40 _ rfl) ?_
    refine F_iload_n (i := 2) (a := 2) rfl rfl (dk_X0_answer 43 _ rfl) ?_
    refine F_callV (ι' := uI) (ci := 0) (b := 5) (As := [.int (mI m 322), .int p2]) (d' := 8) (rfl) ok_X0_gives vi_X0_gives cl_0_29 (n := 2) (by decide +kernel) rfl rfl rfl (Nat.le_of_ble_eq_true rfl) (by omega) (dk_X0_answer 44 _ rfl) (c_X0_gives 3 _ _ _ ) (fun x5 m6 => ?_)
    show JF _ _ _ _ _ _ [.int x5] _ _
    exact F_ret rfl (dk_X0_answer 47 _ rfl)
  refine F_case (fun c1_2 => ?_) (fun c1_2 => ?_)
  · rw [c1_2]; refine F_tin (off := 47) (tgt := 48) (by decide) (by decide) rfl (by decide) (dk_X0_answer 1 _ rfl) ?_
    refine F_aload_n (i := 0) (a := 0) rfl rfl (dk_X0_answer 48 _ rfl) ?_
    refine F_aload_n (i := 0) (a := 0) rfl rfl (dk_X0_answer 49 _ rfl) ?_
    refine F_gI (n := 322) fxX_0_2_5 rfl fl_0_19 (dk_X0_answer 50 _ rfl) ?_
    refine F_iload_n (i := 2) (a := 2) rfl rfl (dk_X0_answer 53 _ rfl) ?_
    refine F_callV (ι' := uI) (ci := 0) (b := 5) (As := [.int (mI m 322), .int p2]) (d' := 11) (rfl) ok_X0_tells vi_X0_tells cl_0_32 (n := 2) (by decide +kernel) rfl rfl rfl (Nat.le_of_ble_eq_true rfl) (by omega) (dk_X0_answer 54 _ rfl) (c_X0_tells 3 _ _ _ ) (fun x8 m9 => ?_)
    show JF _ _ _ _ _ _ [.int x8] _ _
    exact F_ret rfl (dk_X0_answer 57 _ rfl)
  refine F_tout (tgt := 58) (by have q0 := fI_ne c1_0; rw [show (0 : Int32).toInt = 0 from by decide] at q0; have q1 := fI_ne c1_1; rw [show (1 : Int32).toInt = 1 from by decide] at q1; have q2 := fI_ne c1_2; rw [show (2 : Int32).toInt = 2 from by decide] at q2; omega) (by decide) (dk_X0_answer 1 _ rfl) ?_
  refine F_iconst (v := 0) (by decide) (dk_X0_answer 58 _ rfl) ?_
  exact F_ret rfl (dk_X0_answer 59 _ rfl)
def fb_X1_freeDay_3 (K3 : mM → Int32 → Int32 → Int32 → Int32 → fR Int32) (m : mM) (y1 : Int32) (y2 : Int32) (y3 : Int32) (y4 : Int32) : fR Int32 :=
  (if 12 ≤ y4 then some ((-1), m) else (rmI (y1 + y4) 12).bind fun x1 => (if x1 = y2 then (K3 m y1 y2 y3 (y4 + 1)) else (gA (mA m 45) x1).bind fun x2 => (if y3 ≤ x2 then (K3 m y1 y2 y3 (y4 + 1)) else some (x1, m))))
def f_X1_freeDay_3  : Nat → mM → Int32 → Int32 → Int32 → Int32 → fR Int32
  | 0, _, _, _, _, _ => none
  | F + 1, m, y1, y2, y3, y4 => fb_X1_freeDay_3  (f_X1_freeDay_3  F) m y1 y2 y3 y4
theorem jb_X1_freeDay_3 (K3 : mM → Int32 → Int32 → Int32 → Int32 → fR Int32) (hK3 : ∀ (m : mM) (y1 : Int32) (y2 : Int32) (y3 : Int32) (y4 : Int32) , JF true uI m_X1_freeDay 2 3 [(0, .ref 41), (1, .int y1), (2, .int y2), (3, .int y3), (4, .int y4)] [] m (K3 m y1 y2 y3 y4)) (m : mM) (y1 : Int32) (y2 : Int32) (y3 : Int32) (y4 : Int32)  : JF true uI m_X1_freeDay 2 3 [(0, .ref 41), (1, .int y1), (2, .int y2), (3, .int y3), (4, .int y4)] [] m (fb_X1_freeDay_3 K3 m y1 y2 y3 y4) := by
  unfold fb_X1_freeDay_3
  refine F_iload (i := 4) rfl (dk_X1_freeDay 3 _ rfl) ?_
  refine F_bipush (v := 12) (by decide) (dk_X1_freeDay 5 _ rfl) ?_
  refine F_icmp_ge (tgt := 45) (by decide) (dk_X1_freeDay 7 _ rfl) ?_ ?_
  · refine F_iconst (v := (-1)) (by decide) (dk_X1_freeDay 45 _ rfl) ?_
    exact F_ret rfl (dk_X1_freeDay 46 _ rfl)
  · refine F_iload_n (i := 1) (a := 1) rfl rfl (dk_X1_freeDay 10 _ rfl) ?_
    refine F_iload (i := 4) rfl (dk_X1_freeDay 11 _ rfl) ?_
    refine F_iadd (dk_X1_freeDay 13 _ rfl) ?_
    refine F_bipush (v := 12) (by decide) (dk_X1_freeDay 14 _ rfl) ?_
    refine F_irem (dk_X1_freeDay 16 _ rfl) (fun x1 => ?_)
    refine F_istore (lv' := [(5, .int x1), (0, .ref 41), (1, .int y1), (2, .int y2), (3, .int y3), (4, .int y4)]) (i := 5) (by decide) rfl (dk_X1_freeDay 17 _ rfl) ?_
    refine F_iload (i := 5) rfl (dk_X1_freeDay 19 _ rfl) ?_
    refine F_iload_n (i := 2) (a := 2) rfl rfl (dk_X1_freeDay 21 _ rfl) ?_
    refine F_icmp_eq (tgt := 39) (by decide) (dk_X1_freeDay 22 _ rfl) ?_ ?_
    · refine F_iinc (i := 4) (n := 1) (v := (y4 + 1)) (lv' := [(4, .int (y4 + 1)), (5, .int x1), (0, .ref 41), (1, .int y1), (2, .int y2), (3, .int y3)]) rfl (by first | rfl | decide) (by decide) rfl (dk_X1_freeDay 39 _ rfl) ?_
      refine F_goto (tgt := 3) (by decide) (dk_X1_freeDay 42 _ rfl) ?_
      exact F_loc (List.forall_mem_cons.mpr ⟨(.tail _ (.tail _ (.head _))), (List.forall_mem_cons.mpr ⟨(.tail _ (.tail _ (.tail _ (.head _)))), (List.forall_mem_cons.mpr ⟨(.tail _ (.tail _ (.tail _ (.tail _ (.head _))))), (List.forall_mem_cons.mpr ⟨(.tail _ (.tail _ (.tail _ (.tail _ (.tail _ (.head _)))))), (List.forall_mem_cons.mpr ⟨(.head _), (fun _ z => absurd z List.not_mem_nil)⟩)⟩)⟩)⟩)⟩) (hK3 _ _ _ _ _ )
    · refine F_aload_n (i := 0) (a := 0) rfl rfl (dk_X1_freeDay 25 _ rfl) ?_
      refine F_gR (b := 45) fxX_1_8_41 fl_1_21 (dk_X1_freeDay 26 _ rfl) ?_
      refine F_iload (i := 5) rfl (dk_X1_freeDay 29 _ rfl) ?_
      refine F_iald (axX_0_45) (dk_X1_freeDay 31 _ rfl) (fun x2 => ?_)
      refine F_iload_n (i := 3) (a := 3) rfl rfl (dk_X1_freeDay 32 _ rfl) ?_
      refine F_icmp_ge (tgt := 39) (by decide) (dk_X1_freeDay 33 _ rfl) ?_ ?_
      · refine F_iinc (i := 4) (n := 1) (v := (y4 + 1)) (lv' := [(4, .int (y4 + 1)), (5, .int x1), (0, .ref 41), (1, .int y1), (2, .int y2), (3, .int y3)]) rfl (by first | rfl | decide) (by decide) rfl (dk_X1_freeDay 39 _ rfl) ?_
        refine F_goto (tgt := 3) (by decide) (dk_X1_freeDay 42 _ rfl) ?_
        exact F_loc (List.forall_mem_cons.mpr ⟨(.tail _ (.tail _ (.head _))), (List.forall_mem_cons.mpr ⟨(.tail _ (.tail _ (.tail _ (.head _)))), (List.forall_mem_cons.mpr ⟨(.tail _ (.tail _ (.tail _ (.tail _ (.head _))))), (List.forall_mem_cons.mpr ⟨(.tail _ (.tail _ (.tail _ (.tail _ (.tail _ (.head _)))))), (List.forall_mem_cons.mpr ⟨(.head _), (fun _ z => absurd z List.not_mem_nil)⟩)⟩)⟩)⟩)⟩) (hK3 _ _ _ _ _ )
      · refine F_iload (i := 5) rfl (dk_X1_freeDay 36 _ rfl) ?_
        exact F_ret rfl (dk_X1_freeDay 38 _ rfl)
theorem j_X1_freeDay_3   : ∀ (F : Nat) (m : mM) (y1 : Int32) (y2 : Int32) (y3 : Int32) (y4 : Int32) , JF true uI m_X1_freeDay 2 3 [(0, .ref 41), (1, .int y1), (2, .int y2), (3, .int y3), (4, .int y4)] [] m (f_X1_freeDay_3  F m y1 y2 y3 y4) := by
  intro F
  induction F with
  | zero => intro m y1 y2 y3 y4 ; exact F_no
  | succ F ih => intro m y1 y2 y3 y4 ; exact jb_X1_freeDay_3  (f_X1_freeDay_3  F)  ih m y1 y2 y3 y4 
def f_X1_freeDay (m : mM) (p1 : Int32) (p2 : Int32) (p3 : Int32) : fR Int32 :=
  (f_X1_freeDay_3  1000 m p1 p2 p3 0)
theorem c_X1_freeDay (m : mM) (p1 : Int32) (p2 : Int32) (p3 : Int32)  : cF true uI m_X1_freeDay 2 [.ref 41, .int p1, .int p2, .int p3] m (f_X1_freeDay m p1 p2 p3) := by
  refine cF_of ok_X1_freeDay (fun _ _ => Nat.le_of_ble_eq_true rfl) ?_
  unfold f_X1_freeDay
  show JF _ _ _ _ _ [(0, .ref 41), (1, .int p1), (2, .int p2), (3, .int p3)] _ _ _
  refine F_iconst (v := 0) (by decide) (dk_X1_freeDay 0 _ rfl) ?_
  refine F_istore (lv' := [(4, .int 0), (0, .ref 41), (1, .int p1), (2, .int p2), (3, .int p3)]) (i := 4) (by decide) rfl (dk_X1_freeDay 1 _ rfl) ?_
  exact F_loc (List.forall_mem_cons.mpr ⟨(.tail _ (.head _)), (List.forall_mem_cons.mpr ⟨(.tail _ (.tail _ (.head _))), (List.forall_mem_cons.mpr ⟨(.tail _ (.tail _ (.tail _ (.head _)))), (List.forall_mem_cons.mpr ⟨(.tail _ (.tail _ (.tail _ (.tail _ (.head _))))), (List.forall_mem_cons.mpr ⟨(.head _), (fun _ z => absurd z List.not_mem_nil)⟩)⟩)⟩)⟩)⟩) (j_X1_freeDay_3   1000 _ _ _ _ _ )
def f_X1_wanted_41  (m : mM) (y1 : Int32) (y2 : Int32) (y100 : Int32) : fR Int32 :=
  chR true 2 (mR m 2624) fun r4 => (gA (mA m (r4 + 3)) y100).bind fun x5 => chR true 2 (mR m 2624) fun r6 => (gA (mA m (r6 + 1)) y1).bind fun x7 => (if x7 = 1 then bnd (f_X1_freeDay m y2 x5 8) fun (x9 : Int32) (m10 : mM) => some (x9, m10) else if x7 = 2 then some (x5, m) else if x7 = 3 then chR true 2 (mR m 2624) fun r12 => (gA (mA m (r12 + 2)) y1).bind fun x13 => (rmI (y2 + x13) 12).bind fun x14 => some (x14, m) else if x7 = 4 then bnd (f_X1_freeDay m y2 x5 2) fun (x15 : Int32) (m16 : mM) => (if x15 = (-1) then bnd (f_X1_freeDay m16 y2 x5 8) fun (x18 : Int32) (m19 : mM) => some (x18, m19) else some (x15, m16)) else if x7 = 5 then chR true 2 (mR m 2624) fun r21 => (gA (mA m (r21 + 6)) y100).bind fun x22 => (if x22 = 0 then some (y2, m) else some (x5, m)) else if x7 = 6 then chR true 2 (mR m 2624) fun r23 => (rmI (mI m 2627) 4).bind fun x24 => (gA (mA m (r23 + 7)) (((y1 * 4) + x24))).bind fun x25 => some (x25, m) else some (y2, m))
theorem j_X1_wanted_41   (m : mM) (y1 : Int32) (y2 : Int32) (y100 : Int32)  : JF true uI m_X1_wanted 3 41 [(0, .ref 41), (1, .int y1), (2, .int y2)] [.int y100] m (f_X1_wanted_41  m y1 y2 y100) := by
  unfold f_X1_wanted_41
  refine F_istore_n (lv' := [(3, .int y100), (0, .ref 41), (1, .int y1), (2, .int y2)]) (i := 3) (a := 3) rfl (by decide) rfl (dk_X1_wanted 41 _ rfl) ?_
  refine F_aload_n (i := 0) (a := 0) rfl rfl (dk_X1_wanted 42 _ rfl) ?_
  refine F_gV (n := 2624) fxX_1_0_41 rfl fl_1_24 (dk_X1_wanted 43 _ rfl) ?_
  refine F_ch (fun r4 hr4 => ?_)
  refine F_gR (b := (r4 + 3)) (lyS_7 hr4).1 fl_1_49 (dk_X1_wanted 46 _ rfl) ?_
  refine F_iload_n (i := 3) (a := 3) rfl rfl (dk_X1_wanted 49 _ rfl) ?_
  refine F_iald ((lyS_7 hr4).2) (dk_X1_wanted 50 _ rfl) (fun x5 => ?_)
  refine F_istore (lv' := [(4, .int x5), (3, .int y100), (0, .ref 41), (1, .int y1), (2, .int y2)]) (i := 4) (by decide) rfl (dk_X1_wanted 51 _ rfl) ?_
  refine F_aload_n (i := 0) (a := 0) rfl rfl (dk_X1_wanted 53 _ rfl) ?_
  refine F_gV (n := 2624) fxX_1_0_41 rfl fl_1_24 (dk_X1_wanted 54 _ rfl) ?_
  refine F_ch (fun r6 hr6 => ?_)
  refine F_gR (b := (r6 + 1)) (lyS_5 hr6).1 fl_1_93 (dk_X1_wanted 57 _ rfl) ?_
  refine F_iload_n (i := 1) (a := 1) rfl rfl (dk_X1_wanted 60 _ rfl) ?_
  refine F_iald ((lyS_5 hr6).2) (dk_X1_wanted 61 _ rfl) (fun x7 => ?_)
  refine F_case (fun c8_0 => ?_) (fun c8_0 => ?_)
  · rw [c8_0]; refine F_tin (off := 38) (tgt := 100) (by decide) (by decide) rfl (by decide) (dk_X1_wanted 62 _ rfl) ?_
    refine F_aload_n (i := 0) (a := 0) rfl rfl (dk_X1_wanted 100 _ rfl) ?_
    refine F_iload_n (i := 2) (a := 2) rfl rfl (dk_X1_wanted 101 _ rfl) ?_
    refine F_iload (i := 4) rfl (dk_X1_wanted 102 _ rfl) ?_
    refine F_bipush (v := 8) (by decide) (dk_X1_wanted 104 _ rfl) ?_
    refine F_callV (ι' := uI) (ci := 1) (b := 41) (As := [.int y2, .int x5, .int 8]) (d' := 2) (rfl) ok_X1_freeDay vi_X1_freeDay cl_1_96 (n := 3) (by decide +kernel) rfl rfl rfl (Nat.le_of_ble_eq_true rfl) (by omega) (dk_X1_wanted 106 _ rfl) (c_X1_freeDay _ _ _ _ ) (fun x9 m10 => ?_)
    show JF _ _ _ _ _ _ [.int x9] _ _
    exact F_ret rfl (dk_X1_wanted 109 _ rfl)
  refine F_case (fun c8_1 => ?_) (fun c8_1 => ?_)
  · rw [c8_1]; refine F_tin (off := 48) (tgt := 110) (by decide) (by decide) rfl (by decide) (dk_X1_wanted 62 _ rfl) ?_
    refine F_iload (i := 4) rfl (dk_X1_wanted 110 _ rfl) ?_
    exact F_ret rfl (dk_X1_wanted 112 _ rfl)
  refine F_case (fun c8_2 => ?_) (fun c8_2 => ?_)
  · rw [c8_2]; refine F_tin (off := 51) (tgt := 113) (by decide) (by decide) rfl (by decide) (dk_X1_wanted 62 _ rfl) ?_
    refine F_iload_n (i := 2) (a := 2) rfl rfl (dk_X1_wanted 113 _ rfl) ?_
    refine F_aload_n (i := 0) (a := 0) rfl rfl (dk_X1_wanted 114 _ rfl) ?_
    refine F_gV (n := 2624) fxX_1_0_41 rfl fl_1_24 (dk_X1_wanted 115 _ rfl) ?_
    refine F_ch (fun r12 hr12 => ?_)
    refine F_gR (b := (r12 + 2)) (lyS_6 hr12).1 fl_1_90 (dk_X1_wanted 118 _ rfl) ?_
    refine F_iload_n (i := 1) (a := 1) rfl rfl (dk_X1_wanted 121 _ rfl) ?_
    refine F_iald ((lyS_6 hr12).2) (dk_X1_wanted 122 _ rfl) (fun x13 => ?_)
    refine F_iadd (dk_X1_wanted 123 _ rfl) ?_
    refine F_bipush (v := 12) (by decide) (dk_X1_wanted 124 _ rfl) ?_
    refine F_irem (dk_X1_wanted 126 _ rfl) (fun x14 => ?_)
    exact F_ret rfl (dk_X1_wanted 127 _ rfl)
  refine F_case (fun c8_3 => ?_) (fun c8_3 => ?_)
  · rw [c8_3]; refine F_tin (off := 66) (tgt := 128) (by decide) (by decide) rfl (by decide) (dk_X1_wanted 62 _ rfl) ?_
    refine F_aload_n (i := 0) (a := 0) rfl rfl (dk_X1_wanted 128 _ rfl) ?_
    refine F_iload_n (i := 2) (a := 2) rfl rfl (dk_X1_wanted 129 _ rfl) ?_
    refine F_iload (i := 4) rfl (dk_X1_wanted 130 _ rfl) ?_
    refine F_iconst (v := 2) (by decide) (dk_X1_wanted 132 _ rfl) ?_
    refine F_callV (ι' := uI) (ci := 1) (b := 41) (As := [.int y2, .int x5, .int 2]) (d' := 2) (rfl) ok_X1_freeDay vi_X1_freeDay cl_1_96 (n := 3) (by decide +kernel) rfl rfl rfl (Nat.le_of_ble_eq_true rfl) (by omega) (dk_X1_wanted 133 _ rfl) (c_X1_freeDay _ _ _ _ ) (fun x15 m16 => ?_)
    show JF _ _ _ _ _ _ [.int x15] _ _
    refine F_istore (lv' := [(5, .int x15), (4, .int x5), (3, .int y100), (0, .ref 41), (1, .int y1), (2, .int y2)]) (i := 5) (by decide) rfl (dk_X1_wanted 136 _ rfl) ?_
    refine F_iload (i := 5) rfl (dk_X1_wanted 138 _ rfl) ?_
    refine F_iconst (v := (-1)) (by decide) (dk_X1_wanted 140 _ rfl) ?_
    refine F_icmp_eq (tgt := 149) (by decide) (dk_X1_wanted 141 _ rfl) ?_ ?_
    · refine F_aload_n (i := 0) (a := 0) rfl rfl (dk_X1_wanted 149 _ rfl) ?_
      refine F_iload_n (i := 2) (a := 2) rfl rfl (dk_X1_wanted 150 _ rfl) ?_
      refine F_iload (i := 4) rfl (dk_X1_wanted 151 _ rfl) ?_
      refine F_bipush (v := 8) (by decide) (dk_X1_wanted 153 _ rfl) ?_
      refine F_callV (ι' := uI) (ci := 1) (b := 41) (As := [.int y2, .int x5, .int 8]) (d' := 2) (rfl) ok_X1_freeDay vi_X1_freeDay cl_1_96 (n := 3) (by decide +kernel) rfl rfl rfl (Nat.le_of_ble_eq_true rfl) (by omega) (dk_X1_wanted 155 _ rfl) (c_X1_freeDay _ _ _ _ ) (fun x18 m19 => ?_)
      show JF _ _ _ _ _ _ [.int x18] _ _
      exact F_ret rfl (dk_X1_wanted 158 _ rfl)
    · refine F_iload (i := 5) rfl (dk_X1_wanted 144 _ rfl) ?_
      refine F_goto (tgt := 158) (by decide) (dk_X1_wanted 146 _ rfl) ?_
      exact F_ret rfl (dk_X1_wanted 158 _ rfl)
  refine F_case (fun c8_4 => ?_) (fun c8_4 => ?_)
  · rw [c8_4]; refine F_tin (off := 97) (tgt := 159) (by decide) (by decide) rfl (by decide) (dk_X1_wanted 62 _ rfl) ?_
    refine F_aload_n (i := 0) (a := 0) rfl rfl (dk_X1_wanted 159 _ rfl) ?_
    refine F_gV (n := 2624) fxX_1_0_41 rfl fl_1_24 (dk_X1_wanted 160 _ rfl) ?_
    refine F_ch (fun r21 hr21 => ?_)
    refine F_gR (b := (r21 + 6)) (lyS_10 hr21).1 fl_1_45 (dk_X1_wanted 163 _ rfl) ?_
    refine F_iload_n (i := 3) (a := 3) rfl rfl (dk_X1_wanted 166 _ rfl) ?_
    refine F_zald ((lyS_10 hr21).2) (dk_X1_wanted 167 _ rfl) (fun x22 => ?_)
    refine F_if_eq (tgt := 176) (by decide) (dk_X1_wanted 168 _ rfl) ?_ ?_
    · refine F_iload_n (i := 2) (a := 2) rfl rfl (dk_X1_wanted 176 _ rfl) ?_
      exact F_ret rfl (dk_X1_wanted 177 _ rfl)
    · refine F_iload (i := 4) rfl (dk_X1_wanted 171 _ rfl) ?_
      refine F_goto (tgt := 177) (by decide) (dk_X1_wanted 173 _ rfl) ?_
      exact F_ret rfl (dk_X1_wanted 177 _ rfl)
  refine F_case (fun c8_5 => ?_) (fun c8_5 => ?_)
  · rw [c8_5]; refine F_tin (off := 116) (tgt := 178) (by decide) (by decide) rfl (by decide) (dk_X1_wanted 62 _ rfl) ?_
    refine F_aload_n (i := 0) (a := 0) rfl rfl (dk_X1_wanted 178 _ rfl) ?_
    refine F_gV (n := 2624) fxX_1_0_41 rfl fl_1_24 (dk_X1_wanted 179 _ rfl) ?_
    refine F_ch (fun r23 hr23 => ?_)
    refine F_gR (b := (r23 + 7)) (lyS_11 hr23).1 fl_1_100 (dk_X1_wanted 182 _ rfl) ?_
    refine F_iload_n (i := 1) (a := 1) rfl rfl (dk_X1_wanted 185 _ rfl) ?_
    refine F_iconst (v := 4) (by decide) (dk_X1_wanted 186 _ rfl) ?_
    refine F_imul (dk_X1_wanted 187 _ rfl) ?_
    refine F_aload_n (i := 0) (a := 0) rfl rfl (dk_X1_wanted 188 _ rfl) ?_
    refine F_gI (n := 2627) fxX_1_3_41 rfl fl_1_41 (dk_X1_wanted 189 _ rfl) ?_
    refine F_iconst (v := 4) (by decide) (dk_X1_wanted 192 _ rfl) ?_
    refine F_irem (dk_X1_wanted 193 _ rfl) (fun x24 => ?_)
    refine F_iadd (dk_X1_wanted 194 _ rfl) ?_
    refine F_iald ((lyS_11 hr23).2) (dk_X1_wanted 195 _ rfl) (fun x25 => ?_)
    exact F_ret rfl (dk_X1_wanted 196 _ rfl)
  refine F_tout (tgt := 197) (by have q0 := fI_ne c8_0; rw [show (1 : Int32).toInt = 1 from by decide] at q0; have q1 := fI_ne c8_1; rw [show (2 : Int32).toInt = 2 from by decide] at q1; have q2 := fI_ne c8_2; rw [show (3 : Int32).toInt = 3 from by decide] at q2; have q3 := fI_ne c8_3; rw [show (4 : Int32).toInt = 4 from by decide] at q3; have q4 := fI_ne c8_4; rw [show (5 : Int32).toInt = 5 from by decide] at q4; have q5 := fI_ne c8_5; rw [show (6 : Int32).toInt = 6 from by decide] at q5; omega) (by decide) (dk_X1_wanted 62 _ rfl) ?_
  refine F_iload_n (i := 2) (a := 2) rfl rfl (dk_X1_wanted 197 _ rfl) ?_
  exact F_ret rfl (dk_X1_wanted 198 _ rfl)
def f_X1_wanted (m : mM) (p1 : Int32) : fR Int32 :=
  chR true 2 (mR m 2624) fun r1 => (gA (mA m (r1 + 4)) p1).bind fun x2 => chR true 2 (mR m 2624) fun r3 => (if (mI m (64 * r3 + 0)) ≤ 0 then (f_X1_wanted_41  m p1 x2 0) else chR true 2 (mR m 2624) fun r26 => (gA (mA m (r26 + 2)) p1).bind fun x27 => chR true 2 (mR m 2624) fun r28 => (rmI x27 ((mI m (64 * r28 + 0)))).bind fun x29 => (f_X1_wanted_41  m p1 x2 x29))
theorem c_X1_wanted (m : mM) (p1 : Int32)  : cF true uI m_X1_wanted 3 [.ref 41, .int p1] m (f_X1_wanted m p1) := by
  refine cF_of ok_X1_wanted (fun _ _ => Nat.le_of_ble_eq_true rfl) ?_
  unfold f_X1_wanted
  show JF _ _ _ _ _ [(0, .ref 41), (1, .int p1)] _ _ _
  refine F_aload_n (i := 0) (a := 0) rfl rfl (dk_X1_wanted 0 _ rfl) ?_
  refine F_gV (n := 2624) fxX_1_0_41 rfl fl_1_24 (dk_X1_wanted 1 _ rfl) ?_
  refine F_ch (fun r1 hr1 => ?_)
  refine F_gR (b := (r1 + 4)) (lyS_8 hr1).1 fl_1_87 (dk_X1_wanted 4 _ rfl) ?_
  refine F_iload_n (i := 1) (a := 1) rfl rfl (dk_X1_wanted 7 _ rfl) ?_
  refine F_iald ((lyS_8 hr1).2) (dk_X1_wanted 8 _ rfl) (fun x2 => ?_)
  refine F_istore_n (lv' := [(2, .int x2), (0, .ref 41), (1, .int p1)]) (i := 2) (a := 2) rfl (by decide) rfl (dk_X1_wanted 9 _ rfl) ?_
  refine F_aload_n (i := 0) (a := 0) rfl rfl (dk_X1_wanted 10 _ rfl) ?_
  refine F_gV (n := 2624) fxX_1_0_41 rfl fl_1_24 (dk_X1_wanted 11 _ rfl) ?_
  refine F_ch (fun r3 hr3 => ?_)
  refine F_gI (n := (64 * r3 + 0)) (lyS_0 hr3) rfl fl_1_42 (dk_X1_wanted 14 _ rfl) ?_
  refine F_if_le (tgt := 40) (by decide) (dk_X1_wanted 17 _ rfl) ?_ ?_
  · refine F_iconst (v := 0) (by decide) (dk_X1_wanted 40 _ rfl) ?_
    exact F_loc (List.forall_mem_cons.mpr ⟨(.tail _ (.head _)), (List.forall_mem_cons.mpr ⟨(.tail _ (.tail _ (.head _))), (List.forall_mem_cons.mpr ⟨(.head _), (fun _ z => absurd z List.not_mem_nil)⟩)⟩)⟩) (j_X1_wanted_41   _ _ _ _ )
  · refine F_aload_n (i := 0) (a := 0) rfl rfl (dk_X1_wanted 20 _ rfl) ?_
    refine F_gV (n := 2624) fxX_1_0_41 rfl fl_1_24 (dk_X1_wanted 21 _ rfl) ?_
    refine F_ch (fun r26 hr26 => ?_)
    refine F_gR (b := (r26 + 2)) (lyS_6 hr26).1 fl_1_90 (dk_X1_wanted 24 _ rfl) ?_
    refine F_iload_n (i := 1) (a := 1) rfl rfl (dk_X1_wanted 27 _ rfl) ?_
    refine F_iald ((lyS_6 hr26).2) (dk_X1_wanted 28 _ rfl) (fun x27 => ?_)
    refine F_aload_n (i := 0) (a := 0) rfl rfl (dk_X1_wanted 29 _ rfl) ?_
    refine F_gV (n := 2624) fxX_1_0_41 rfl fl_1_24 (dk_X1_wanted 30 _ rfl) ?_
    refine F_ch (fun r28 hr28 => ?_)
    refine F_gI (n := (64 * r28 + 0)) (lyS_0 hr28) rfl fl_1_42 (dk_X1_wanted 33 _ rfl) ?_
    refine F_irem (dk_X1_wanted 36 _ rfl) (fun x29 => ?_)
    refine F_goto (tgt := 41) (by decide) (dk_X1_wanted 37 _ rfl) ?_
    exact F_loc (List.forall_mem_cons.mpr ⟨(.tail _ (.head _)), (List.forall_mem_cons.mpr ⟨(.tail _ (.tail _ (.head _))), (List.forall_mem_cons.mpr ⟨(.head _), (fun _ z => absurd z List.not_mem_nil)⟩)⟩)⟩) (j_X1_wanted_41   _ _ _ _ )
def fb_X1_beginYear_2 (K2 : mM → Int32 → fR Unit) (m : mM) (y1 : Int32) : fR Unit :=
  chR true 2 (mR m 2624) fun r1 => (if (mI m (64 * r1 + 0)) ≤ y1 then some ((), m) else bnd (f_X1_wanted m y1) fun (x2 : Int32) (m3 : mM) => chR true 2 (mR m3 2624) fun r5 => chR true 5 (mR m3 (64 * r5 + 4)) fun r6 => (if x2 = (mI m3 (64 * r6 + 2)) then (rmI (x2 + 1) 12).bind fun x8 => (sA 0 m3 44 y1 x8).bind fun m9 => (K2 m9 (y1 + 1)) else (sA 0 m3 44 y1 x2).bind fun m7 => (K2 m7 (y1 + 1))))
def f_X1_beginYear_2  : Nat → mM → Int32 → fR Unit
  | 0, _, _ => none
  | F + 1, m, y1 => fb_X1_beginYear_2  (f_X1_beginYear_2  F) m y1
theorem jb_X1_beginYear_2 (K2 : mM → Int32 → fR Unit) (hK2 : ∀ (m : mM) (y1 : Int32) , JF true uU m_X1_beginYear 4 2 [(0, .ref 41), (1, .int y1)] [] m (K2 m y1)) (m : mM) (y1 : Int32)  : JF true uU m_X1_beginYear 4 2 [(0, .ref 41), (1, .int y1)] [] m (fb_X1_beginYear_2 K2 m y1) := by
  unfold fb_X1_beginYear_2
  refine F_iload_n (i := 1) (a := 1) rfl rfl (dk_X1_beginYear 2 _ rfl) ?_
  refine F_aload_n (i := 0) (a := 0) rfl rfl (dk_X1_beginYear 3 _ rfl) ?_
  refine F_gV (n := 2624) fxX_1_0_41 rfl fl_1_24 (dk_X1_beginYear 4 _ rfl) ?_
  refine F_ch (fun r1 hr1 => ?_)
  refine F_gI (n := (64 * r1 + 0)) (lyS_0 hr1) rfl fl_1_42 (dk_X1_beginYear 7 _ rfl) ?_
  refine F_icmp_ge (tgt := 55) (by decide) (dk_X1_beginYear 10 _ rfl) ?_ ?_
  · exact F_retV rfl (dk_X1_beginYear 55 _ rfl)
  · refine F_aload_n (i := 0) (a := 0) rfl rfl (dk_X1_beginYear 13 _ rfl) ?_
    refine F_iload_n (i := 1) (a := 1) rfl rfl (dk_X1_beginYear 14 _ rfl) ?_
    refine F_callV (ι' := uI) (ci := 1) (b := 41) (As := [.int y1]) (d' := 3) (rfl) ok_X1_wanted vi_X1_wanted cl_1_81 (n := 1) (by decide +kernel) rfl rfl rfl (Nat.le_of_ble_eq_true rfl) (by omega) (dk_X1_beginYear 15 _ rfl) (c_X1_wanted _ _ ) (fun x2 m3 => ?_)
    show JF _ _ _ _ _ _ [.int x2] _ _
    refine F_istore_n (lv' := [(2, .int x2), (0, .ref 41), (1, .int y1)]) (i := 2) (a := 2) rfl (by decide) rfl (dk_X1_beginYear 18 _ rfl) ?_
    refine F_aload_n (i := 0) (a := 0) rfl rfl (dk_X1_beginYear 19 _ rfl) ?_
    refine F_gR (b := 44) fxX_1_7_41 fl_1_18 (dk_X1_beginYear 20 _ rfl) ?_
    refine F_iload_n (i := 1) (a := 1) rfl rfl (dk_X1_beginYear 23 _ rfl) ?_
    refine F_iload_n (i := 2) (a := 2) rfl rfl (dk_X1_beginYear 24 _ rfl) ?_
    refine F_aload_n (i := 0) (a := 0) rfl rfl (dk_X1_beginYear 25 _ rfl) ?_
    refine F_gV (n := 2624) fxX_1_0_41 rfl fl_1_24 (dk_X1_beginYear 26 _ rfl) ?_
    refine F_ch (fun r5 hr5 => ?_)
    refine F_gV (n := (64 * r5 + 4)) (lyS_4 hr5) rfl fl_1_68 (dk_X1_beginYear 29 _ rfl) ?_
    refine F_ch (fun r6 hr6 => ?_)
    refine F_gI (n := (64 * r6 + 2)) (lyT_2 hr6) rfl fl_1_84 (dk_X1_beginYear 32 _ rfl) ?_
    refine F_icmp_ne (tgt := 47) (by decide) (dk_X1_beginYear 35 _ rfl) ?_ ?_
    · refine F_iload_n (i := 2) (a := 2) rfl rfl (dk_X1_beginYear 47 _ rfl) ?_
      refine F_iast (axX_0_44) (dk_X1_beginYear 48 _ rfl) (fun m7 => ?_)
      refine F_iinc (i := 1) (n := 1) (v := (y1 + 1)) (lv' := [(1, .int (y1 + 1)), (2, .int x2), (0, .ref 41)]) rfl (by first | rfl | decide) (by decide) rfl (dk_X1_beginYear 49 _ rfl) ?_
      refine F_goto (tgt := 2) (by decide) (dk_X1_beginYear 52 _ rfl) ?_
      exact F_loc (List.forall_mem_cons.mpr ⟨(.tail _ (.tail _ (.head _))), (List.forall_mem_cons.mpr ⟨(.head _), (fun _ z => absurd z List.not_mem_nil)⟩)⟩) (hK2 _ _ )
    · refine F_iload_n (i := 2) (a := 2) rfl rfl (dk_X1_beginYear 38 _ rfl) ?_
      refine F_iconst (v := 1) (by decide) (dk_X1_beginYear 39 _ rfl) ?_
      refine F_iadd (dk_X1_beginYear 40 _ rfl) ?_
      refine F_bipush (v := 12) (by decide) (dk_X1_beginYear 41 _ rfl) ?_
      refine F_irem (dk_X1_beginYear 43 _ rfl) (fun x8 => ?_)
      refine F_goto (tgt := 48) (by decide) (dk_X1_beginYear 44 _ rfl) ?_
      refine F_iast (axX_0_44) (dk_X1_beginYear 48 _ rfl) (fun m9 => ?_)
      refine F_iinc (i := 1) (n := 1) (v := (y1 + 1)) (lv' := [(1, .int (y1 + 1)), (2, .int x2), (0, .ref 41)]) rfl (by first | rfl | decide) (by decide) rfl (dk_X1_beginYear 49 _ rfl) ?_
      refine F_goto (tgt := 2) (by decide) (dk_X1_beginYear 52 _ rfl) ?_
      exact F_loc (List.forall_mem_cons.mpr ⟨(.tail _ (.tail _ (.head _))), (List.forall_mem_cons.mpr ⟨(.head _), (fun _ z => absurd z List.not_mem_nil)⟩)⟩) (hK2 _ _ )
theorem j_X1_beginYear_2   : ∀ (F : Nat) (m : mM) (y1 : Int32) , JF true uU m_X1_beginYear 4 2 [(0, .ref 41), (1, .int y1)] [] m (f_X1_beginYear_2  F m y1) := by
  intro F
  induction F with
  | zero => intro m y1 ; exact F_no
  | succ F ih => intro m y1 ; exact jb_X1_beginYear_2  (f_X1_beginYear_2  F)  ih m y1 
def f_X1_beginYear (m : mM)  : fR Unit :=
  (f_X1_beginYear_2  1000 m 0)
theorem c_X1_beginYear (m : mM)   : cF true uU m_X1_beginYear 4 [.ref 41] m (f_X1_beginYear m ) := by
  refine cF_of ok_X1_beginYear (fun _ _ => Nat.le_of_ble_eq_true rfl) ?_
  unfold f_X1_beginYear
  show JF _ _ _ _ _ [(0, .ref 41)] _ _ _
  refine F_iconst (v := 0) (by decide) (dk_X1_beginYear 0 _ rfl) ?_
  refine F_istore_n (lv' := [(1, .int 0), (0, .ref 41)]) (i := 1) (a := 1) rfl (by decide) rfl (dk_X1_beginYear 1 _ rfl) ?_
  exact F_loc (List.forall_mem_cons.mpr ⟨(.tail _ (.head _)), (List.forall_mem_cons.mpr ⟨(.head _), (fun _ z => absurd z List.not_mem_nil)⟩)⟩) (j_X1_beginYear_2   1000 _ _ )
def fb_X1_start_49 (K49 : mM → Nat → Int32 → fR Unit) (m : mM) (y1 : Nat) (y3 : Int32) : fR Unit :=
  (if (mI m (64 * y1 + 0)) ≤ y3 then bnd (f_X1_beginYear m ) fun (x5 : Unit) (m6 : mM) => some ((), m6) else (sA 0 m 42 y3 0).bind fun m8 => (sA 0 m8 43 y3 0).bind fun m9 => (gA (mA m9 (y1 + 6)) y3).bind fun x10 => (if x10 = 0 then (K49 m9 y1 (y3 + 1)) else (gA (mA m9 (y1 + 3)) y3).bind fun x11 => (gA (mA m9 45) x11).bind fun x12 => (sA 0 m9 45 x11 (x12 + 1)).bind fun m13 => (K49 m13 y1 (y3 + 1))))
def f_X1_start_49  : Nat → mM → Nat → Int32 → fR Unit
  | 0, _, _, _ => none
  | F + 1, m, y1, y3 => fb_X1_start_49  (f_X1_start_49  F) m y1 y3
theorem jb_X1_start_49 (K49 : mM → Nat → Int32 → fR Unit) (hK49 : ∀ (m : mM) (y1 : Nat) (y3 : Int32) (hy1 : isC true 2 y1 = true), JF true uU m_X1_start 5 49 [(0, .ref 41), (1, .ref y1), (3, .int y3)] [] m (K49 m y1 y3)) (m : mM) (y1 : Nat) (y3 : Int32) (hy1 : isC true 2 y1 = true) : JF true uU m_X1_start 5 49 [(0, .ref 41), (1, .ref y1), (3, .int y3)] [] m (fb_X1_start_49 K49 m y1 y3) := by
  unfold fb_X1_start_49
  refine F_iload_n (i := 3) (a := 3) rfl rfl (dk_X1_start 49 _ rfl) ?_
  refine F_aload_n (i := 1) (a := 1) rfl rfl (dk_X1_start 50 _ rfl) ?_
  refine F_gI (n := (64 * y1 + 0)) (lyS_0 hy1) rfl fl_1_42 (dk_X1_start 51 _ rfl) ?_
  refine F_icmp_ge (tgt := 101) (by decide) (dk_X1_start 54 _ rfl) ?_ ?_
  · refine F_aload_n (i := 0) (a := 0) rfl rfl (dk_X1_start 101 _ rfl) ?_
    refine F_callV (ι' := uU) (ci := 1) (b := 41) (As := []) (d' := 4) (rfl) ok_X1_beginYear vi_X1_beginYear cl_1_52 (n := 0) (by decide +kernel) rfl rfl rfl (Nat.le_of_ble_eq_true rfl) (by omega) (dk_X1_start 102 _ rfl) (c_X1_beginYear _  ) (fun x5 m6 => ?_)
    show JF _ _ _ _ _ _ [] _ _
    exact F_retV rfl (dk_X1_start 105 _ rfl)
  · refine F_aload_n (i := 0) (a := 0) rfl rfl (dk_X1_start 57 _ rfl) ?_
    refine F_gR (b := 42) fxX_1_5_41 fl_1_9 (dk_X1_start 58 _ rfl) ?_
    refine F_iload_n (i := 3) (a := 3) rfl rfl (dk_X1_start 61 _ rfl) ?_
    refine F_iconst (v := 0) (by decide) (dk_X1_start 62 _ rfl) ?_
    refine F_iast (axX_0_42) (dk_X1_start 63 _ rfl) (fun m8 => ?_)
    refine F_aload_n (i := 0) (a := 0) rfl rfl (dk_X1_start 64 _ rfl) ?_
    refine F_gR (b := 43) fxX_1_6_41 fl_1_15 (dk_X1_start 65 _ rfl) ?_
    refine F_iload_n (i := 3) (a := 3) rfl rfl (dk_X1_start 68 _ rfl) ?_
    refine F_iconst (v := 0) (by decide) (dk_X1_start 69 _ rfl) ?_
    refine F_iast (axX_0_43) (dk_X1_start 70 _ rfl) (fun m9 => ?_)
    refine F_aload_n (i := 1) (a := 1) rfl rfl (dk_X1_start 71 _ rfl) ?_
    refine F_gR (b := (y1 + 6)) (lyS_10 hy1).1 fl_1_45 (dk_X1_start 72 _ rfl) ?_
    refine F_iload_n (i := 3) (a := 3) rfl rfl (dk_X1_start 75 _ rfl) ?_
    refine F_zald ((lyS_10 hy1).2) (dk_X1_start 76 _ rfl) (fun x10 => ?_)
    refine F_if_eq (tgt := 95) (by decide) (dk_X1_start 77 _ rfl) ?_ ?_
    · refine F_iinc (i := 3) (n := 1) (v := (y3 + 1)) (lv' := [(3, .int (y3 + 1)), (0, .ref 41), (1, .ref y1)]) rfl (by first | rfl | decide) (by decide) rfl (dk_X1_start 95 _ rfl) ?_
      refine F_goto (tgt := 49) (by decide) (dk_X1_start 98 _ rfl) ?_
      exact F_loc (List.forall_mem_cons.mpr ⟨(.tail _ (.head _)), (List.forall_mem_cons.mpr ⟨(.tail _ (.tail _ (.head _))), (List.forall_mem_cons.mpr ⟨(.head _), (fun _ z => absurd z List.not_mem_nil)⟩)⟩)⟩) (hK49 _ _ _ (hy1))
    · refine F_aload_n (i := 0) (a := 0) rfl rfl (dk_X1_start 80 _ rfl) ?_
      refine F_gR (b := 45) fxX_1_8_41 fl_1_21 (dk_X1_start 81 _ rfl) ?_
      refine F_aload_n (i := 1) (a := 1) rfl rfl (dk_X1_start 84 _ rfl) ?_
      refine F_gR (b := (y1 + 3)) (lyS_7 hy1).1 fl_1_49 (dk_X1_start 85 _ rfl) ?_
      refine F_iload_n (i := 3) (a := 3) rfl rfl (dk_X1_start 88 _ rfl) ?_
      refine F_iald ((lyS_7 hy1).2) (dk_X1_start 89 _ rfl) (fun x11 => ?_)
      refine F_dup2 rfl rfl (dk_X1_start 90 _ rfl) ?_
      refine F_iald (axX_0_45) (dk_X1_start 91 _ rfl) (fun x12 => ?_)
      refine F_iconst (v := 1) (by decide) (dk_X1_start 92 _ rfl) ?_
      refine F_iadd (dk_X1_start 93 _ rfl) ?_
      refine F_iast (axX_0_45) (dk_X1_start 94 _ rfl) (fun m13 => ?_)
      refine F_iinc (i := 3) (n := 1) (v := (y3 + 1)) (lv' := [(3, .int (y3 + 1)), (0, .ref 41), (1, .ref y1)]) rfl (by first | rfl | decide) (by decide) rfl (dk_X1_start 95 _ rfl) ?_
      refine F_goto (tgt := 49) (by decide) (dk_X1_start 98 _ rfl) ?_
      exact F_loc (List.forall_mem_cons.mpr ⟨(.tail _ (.head _)), (List.forall_mem_cons.mpr ⟨(.tail _ (.tail _ (.head _))), (List.forall_mem_cons.mpr ⟨(.head _), (fun _ z => absurd z List.not_mem_nil)⟩)⟩)⟩) (hK49 _ _ _ (hy1))
theorem j_X1_start_49   : ∀ (F : Nat) (m : mM) (y1 : Nat) (y3 : Int32) (hy1 : isC true 2 y1 = true), JF true uU m_X1_start 5 49 [(0, .ref 41), (1, .ref y1), (3, .int y3)] [] m (f_X1_start_49  F m y1 y3) := by
  intro F
  induction F with
  | zero => intro m y1 y3 hy1; exact F_no
  | succ F ih => intro m y1 y3 hy1; exact jb_X1_start_49  (f_X1_start_49  F)  ih m y1 y3 hy1
def fb_X1_start_28 (K28 : mM → Nat → Int32 → fR Unit) (m : mM) (y1 : Nat) (y3 : Int32) : fR Unit :=
  (if 12 ≤ y3 then (f_X1_start_49  1000 m y1 0) else (sA 0 m 45 y3 0).bind fun m14 => (K28 m14 y1 (y3 + 1)))
def f_X1_start_28  : Nat → mM → Nat → Int32 → fR Unit
  | 0, _, _, _ => none
  | F + 1, m, y1, y3 => fb_X1_start_28  (f_X1_start_28  F) m y1 y3
theorem jb_X1_start_28 (K28 : mM → Nat → Int32 → fR Unit) (hK28 : ∀ (m : mM) (y1 : Nat) (y3 : Int32) (hy1 : isC true 2 y1 = true), JF true uU m_X1_start 5 28 [(0, .ref 41), (1, .ref y1), (3, .int y3)] [] m (K28 m y1 y3)) (m : mM) (y1 : Nat) (y3 : Int32) (hy1 : isC true 2 y1 = true) : JF true uU m_X1_start 5 28 [(0, .ref 41), (1, .ref y1), (3, .int y3)] [] m (fb_X1_start_28 K28 m y1 y3) := by
  unfold fb_X1_start_28
  refine F_iload_n (i := 3) (a := 3) rfl rfl (dk_X1_start 28 _ rfl) ?_
  refine F_bipush (v := 12) (by decide) (dk_X1_start 29 _ rfl) ?_
  refine F_icmp_ge (tgt := 47) (by decide) (dk_X1_start 31 _ rfl) ?_ ?_
  · refine F_iconst (v := 0) (by decide) (dk_X1_start 47 _ rfl) ?_
    refine F_istore_n (lv' := [(3, .int 0), (0, .ref 41), (1, .ref y1)]) (i := 3) (a := 3) rfl (by decide) rfl (dk_X1_start 48 _ rfl) ?_
    exact F_loc (List.forall_mem_cons.mpr ⟨(.tail _ (.head _)), (List.forall_mem_cons.mpr ⟨(.tail _ (.tail _ (.head _))), (List.forall_mem_cons.mpr ⟨(.head _), (fun _ z => absurd z List.not_mem_nil)⟩)⟩)⟩) (j_X1_start_49   1000 _ _ _ (hy1))
  · refine F_aload_n (i := 0) (a := 0) rfl rfl (dk_X1_start 34 _ rfl) ?_
    refine F_gR (b := 45) fxX_1_8_41 fl_1_21 (dk_X1_start 35 _ rfl) ?_
    refine F_iload_n (i := 3) (a := 3) rfl rfl (dk_X1_start 38 _ rfl) ?_
    refine F_iconst (v := 0) (by decide) (dk_X1_start 39 _ rfl) ?_
    refine F_iast (axX_0_45) (dk_X1_start 40 _ rfl) (fun m14 => ?_)
    refine F_iinc (i := 3) (n := 1) (v := (y3 + 1)) (lv' := [(3, .int (y3 + 1)), (0, .ref 41), (1, .ref y1)]) rfl (by first | rfl | decide) (by decide) rfl (dk_X1_start 41 _ rfl) ?_
    refine F_goto (tgt := 28) (by decide) (dk_X1_start 44 _ rfl) ?_
    exact F_loc (List.forall_mem_cons.mpr ⟨(.tail _ (.head _)), (List.forall_mem_cons.mpr ⟨(.tail _ (.tail _ (.head _))), (List.forall_mem_cons.mpr ⟨(.head _), (fun _ z => absurd z List.not_mem_nil)⟩)⟩)⟩) (hK28 _ _ _ (hy1))
theorem j_X1_start_28   : ∀ (F : Nat) (m : mM) (y1 : Nat) (y3 : Int32) (hy1 : isC true 2 y1 = true), JF true uU m_X1_start 5 28 [(0, .ref 41), (1, .ref y1), (3, .int y3)] [] m (f_X1_start_28  F m y1 y3) := by
  intro F
  induction F with
  | zero => intro m y1 y3 hy1; exact F_no
  | succ F ih => intro m y1 y3 hy1; exact jb_X1_start_28  (f_X1_start_28  F)  ih m y1 y3 hy1
def f_X1_start (m : mM) (a1 : Nat) (p2 : Int32) : fR Unit :=
  nmM (wR m 2624 a1) fun m1 => nmM (wI m1 2625 p2) fun m2 => nmM (wI m2 2626 ((mI m2 (64 * a1 + 1)))) fun m3 => nmM (wI m3 2627 ((mI m3 (64 * a1 + 2)))) fun m4 => (f_X1_start_28  1000 m4 a1 0)
theorem c_X1_start (m : mM) (a1 : Nat) (p2 : Int32) (ha1 : isC true 2 a1 = true) : cF true uU m_X1_start 5 [.ref 41, .ref a1, .int p2] m (f_X1_start m a1 p2) := by
  refine cF_of ok_X1_start (fun _ _ => Nat.le_of_ble_eq_true rfl) ?_
  unfold f_X1_start
  show JF _ _ _ _ _ [(0, .ref 41), (1, .ref a1), (2, .int p2)] _ _ _
  refine F_aload_n (i := 0) (a := 0) rfl rfl (dk_X1_start 0 _ rfl) ?_
  refine F_aload_n (i := 1) (a := 1) rfl rfl (dk_X1_start 1 _ rfl) ?_
  refine F_pV (n := 2624) fxX_1_0_41 rfl fl_1_24 (fun q hq => by cases hq; rfl) trivial (dk_X1_start 2 _ rfl) (fun m1 => ?_)
  refine F_aload_n (i := 0) (a := 0) rfl rfl (dk_X1_start 5 _ rfl) ?_
  refine F_iload_n (i := 2) (a := 2) rfl rfl (dk_X1_start 6 _ rfl) ?_
  refine F_pI (n := 2625) fxX_1_1_41 rfl fl_1_28 (fun q hq => by cases hq; rfl) trivial (dk_X1_start 7 _ rfl) (fun m2 => ?_)
  refine F_aload_n (i := 0) (a := 0) rfl rfl (dk_X1_start 10 _ rfl) ?_
  refine F_aload_n (i := 1) (a := 1) rfl rfl (dk_X1_start 11 _ rfl) ?_
  refine F_gI (n := (64 * a1 + 1)) (lyS_1 ha1) rfl fl_1_32 (dk_X1_start 12 _ rfl) ?_
  refine F_pI (n := 2626) fxX_1_2_41 rfl fl_1_37 (fun q hq => by cases hq; rfl) trivial (dk_X1_start 15 _ rfl) (fun m3 => ?_)
  refine F_aload_n (i := 0) (a := 0) rfl rfl (dk_X1_start 18 _ rfl) ?_
  refine F_aload_n (i := 1) (a := 1) rfl rfl (dk_X1_start 19 _ rfl) ?_
  refine F_gI (n := (64 * a1 + 2)) (lyS_2 ha1) rfl fl_1_38 (dk_X1_start 20 _ rfl) ?_
  refine F_pI (n := 2627) fxX_1_3_41 rfl fl_1_41 (fun q hq => by cases hq; rfl) trivial (dk_X1_start 23 _ rfl) (fun m4 => ?_)
  refine F_iconst (v := 0) (by decide) (dk_X1_start 26 _ rfl) ?_
  refine F_istore_n (lv' := [(3, .int 0), (0, .ref 41), (1, .ref a1), (2, .int p2)]) (i := 3) (a := 3) rfl (by decide) rfl (dk_X1_start 27 _ rfl) ?_
  exact F_loc (List.forall_mem_cons.mpr ⟨(.tail _ (.head _)), (List.forall_mem_cons.mpr ⟨(.tail _ (.tail _ (.head _))), (List.forall_mem_cons.mpr ⟨(.head _), (fun _ z => absurd z List.not_mem_nil)⟩)⟩)⟩) (j_X1_start_28   1000 _ _ _ (ha1))
end
