-- 21a.fun.lean.txt
section
section
set_option maxRecDepth 100000
def f_X0_becomes (m : mM) (p1 : Int32) (p2 : Int32) (p3 : Int32) : fR Unit :=
  nmM (wI m 323 p1) fun m1 => nmM (wI m1 322 p2) fun m2 => nmM (wI m2 324 p3) fun m3 => some ((), m3)
theorem c_X0_becomes (m : mM) (p1 : Int32) (p2 : Int32) (p3 : Int32)  : cF true uU m_X0_becomes 2 [.ref 5, .int p1, .int p2, .int p3] m (f_X0_becomes m p1 p2 p3) := by
  refine cF_of ok_X0_becomes (fun _ _ => Nat.le_of_ble_eq_true rfl) ?_
  unfold f_X0_becomes
  show JF _ _ _ _ _ [(0, .ref 5), (1, .int p1), (2, .int p2), (3, .int p3)] _ _ _
  refine F_aload_n (i := 0) (a := 0) rfl rfl (dk_X0_becomes 0 _ rfl) ?_
  refine F_iload_n (i := 1) (a := 1) rfl rfl (dk_X0_becomes 1 _ rfl) ?_
  refine F_pI (n := 323) fxX_0_3_5 rfl fl_0_15 (fun q hq => by cases hq; rfl) trivial (dk_X0_becomes 2 _ rfl) (fun m1 => ?_)
  refine F_aload_n (i := 0) (a := 0) rfl rfl (dk_X0_becomes 5 _ rfl) ?_
  refine F_iload_n (i := 2) (a := 2) rfl rfl (dk_X0_becomes 6 _ rfl) ?_
  refine F_pI (n := 322) fxX_0_2_5 rfl fl_0_19 (fun q hq => by cases hq; rfl) trivial (dk_X0_becomes 7 _ rfl) (fun m2 => ?_)
  refine F_aload_n (i := 0) (a := 0) rfl rfl (dk_X0_becomes 10 _ rfl) ?_
  refine F_iload_n (i := 3) (a := 3) rfl rfl (dk_X0_becomes 11 _ rfl) ?_
  refine F_pI (n := 324) fxX_0_4_5 rfl fl_0_22 (fun q hq => by cases hq; rfl) trivial (dk_X0_becomes 12 _ rfl) (fun m3 => ?_)
  exact F_retV rfl (dk_X0_becomes 15 _ rfl)
def f_X0_runs_19  (m : mM)  : fR Unit :=
  nmM (wI m 321 (((mI m 321) + 1))) fun m1 => some ((), m1)
theorem j_X0_runs_19   (m : mM)   : JF true uU m_X0_runs 2 19 [(0, .ref 5)] [] m (f_X0_runs_19  m ) := by
  unfold f_X0_runs_19
  refine F_aload_n (i := 0) (a := 0) rfl rfl (dk_X0_runs 19 _ rfl) ?_
  refine F_dup rfl (dk_X0_runs 20 _ rfl) ?_
  refine F_gI (n := 321) fxX_0_1_5 rfl fl_0_35 (dk_X0_runs 21 _ rfl) ?_
  refine F_iconst (v := 1) (by decide) (dk_X0_runs 24 _ rfl) ?_
  refine F_iadd (dk_X0_runs 25 _ rfl) ?_
  refine F_pI (n := 321) fxX_0_1_5 rfl fl_0_35 (fun q hq => by cases hq; rfl) trivial (dk_X0_runs 26 _ rfl) (fun m1 => ?_)
  exact F_retV rfl (dk_X0_runs 29 _ rfl)
def f_X0_runs (m : mM) (p1 : Int32) : fR Unit :=
  (if 20 ≤ (mI m 321) then (f_X0_runs_19  m ) else (sA 0 m 6 (mI m 321) p1).bind fun m2 => (f_X0_runs_19  m2 ))
theorem c_X0_runs (m : mM) (p1 : Int32)  : cF true uU m_X0_runs 2 [.ref 5, .int p1] m (f_X0_runs m p1) := by
  refine cF_of ok_X0_runs (fun _ _ => Nat.le_of_ble_eq_true rfl) ?_
  unfold f_X0_runs
  show JF _ _ _ _ _ [(0, .ref 5), (1, .int p1)] _ _ _
  refine F_aload_n (i := 0) (a := 0) rfl rfl (dk_X0_runs 0 _ rfl) ?_
  refine F_gI (n := 321) fxX_0_1_5 rfl fl_0_35 (dk_X0_runs 1 _ rfl) ?_
  refine F_bipush (v := 20) (by decide) (dk_X0_runs 4 _ rfl) ?_
  refine F_icmp_ge (tgt := 19) (by decide) (dk_X0_runs 6 _ rfl) ?_ ?_
  · exact F_loc (List.forall_mem_cons.mpr ⟨(.head _), (fun _ z => absurd z List.not_mem_nil)⟩) (j_X0_runs_19   _  )
  · refine F_aload_n (i := 0) (a := 0) rfl rfl (dk_X0_runs 9 _ rfl) ?_
    refine F_gR (b := 6) fxX_0_0_5 fl_0_9 (dk_X0_runs 10 _ rfl) ?_
    refine F_aload_n (i := 0) (a := 0) rfl rfl (dk_X0_runs 13 _ rfl) ?_
    refine F_gI (n := 321) fxX_0_1_5 rfl fl_0_35 (dk_X0_runs 14 _ rfl) ?_
    refine F_iload_n (i := 1) (a := 1) rfl rfl (dk_X0_runs 17 _ rfl) ?_
    refine F_iast (axX_0_6) (dk_X0_runs 18 _ rfl) (fun m2 => ?_)
    exact F_loc (List.forall_mem_cons.mpr ⟨(.head _), (fun _ z => absurd z List.not_mem_nil)⟩) (j_X0_runs_19   _  )
def fb_X0_sells (rc : mM → Int32 → Int32 → fR Int32) (m : mM) (p1 : Int32) (p2 : Int32) : fR Int32 :=
  (if p1 = 2 then bnd (f_X0_runs m 30) fun (x2 : Unit) (m3 : mM) => bnd (rc m3 0 (p2 * 3)) fun (x5 : Int32) (m6 : mM) => some (x5, m6) else if p1 = 4 then bnd (f_X0_runs m 50) fun (x8 : Unit) (m9 : mM) => bnd (rc m9 1 p2) fun (x11 : Int32) (m12 : mM) => some ((-x11), m12) else if p1 = 5 then bnd (f_X0_runs m 30) fun (x14 : Unit) (m15 : mM) => bnd (rc m15 0 (p2 * 3)) fun (x17 : Int32) (m18 : mM) => some (x17, m18) else if p1 = 6 then bnd (f_X0_runs m 71) fun (x20 : Unit) (m21 : mM) => bnd (rc m21 3 p2) fun (x23 : Int32) (m24 : mM) => some ((x23 ^^^ (mI m24 324)), m24) else if p1 = 3 then bnd (f_X0_runs m 10) fun (x26 : Unit) (m27 : mM) => some ((p2 + (mI m27 323)), m27) else bnd (f_X0_runs m 10) fun (x29 : Unit) (m30 : mM) => some ((p2 + (mI m30 323)), m30))
theorem jb_X0_sells (rc : mM → Int32 → Int32 → fR Int32) (dr : Nat) (hdr : 2 ≤ dr) (hrc : ∀ (m : mM) (x y : Int32), cF true uI m_X0_sells dr [.ref 5, .int x, .int y] m (rc m x y)) (m : mM) (p1 : Int32) (p2 : Int32)  : JF true uI m_X0_sells (dr + 1) 0 [(0, .ref 5), (1, .int p1), (2, .int p2)] [] m (fb_X0_sells rc m p1 p2) := by
  unfold fb_X0_sells
  refine F_iload_n (i := 1) (a := 1) rfl rfl (dk_X0_sells 0 _ rfl) ?_
  refine F_case (fun c1_0 => ?_) (fun c1_0 => ?_)
  · rw [c1_0]; refine F_tin (off := 67) (tgt := 68) (by decide) (by decide) rfl (by decide) (dk_X0_sells 1 _ rfl) ?_
    refine F_aload_n (i := 0) (a := 0) rfl rfl (dk_X0_sells 68 _ rfl) ?_
    refine F_bipush (v := 30) (by decide) (dk_X0_sells 69 _ rfl) ?_
    refine F_callV (ι' := uU) (ci := 0) (b := 5) (As := [.int 30]) (d' := 2) (rfl) ok_X0_runs vi_X0_runs cl_0_38 (n := 1) (by decide +kernel) rfl rfl rfl (Nat.le_of_ble_eq_true rfl) (by omega) (dk_X0_sells 71 _ rfl) (c_X0_runs _ _ ) (fun x2 m3 => ?_)
    show JF _ _ _ _ _ _ [] _ _
    refine F_aload_n (i := 0) (a := 0) rfl rfl (dk_X0_sells 74 _ rfl) ?_
    refine F_iconst (v := 0) (by decide) (dk_X0_sells 75 _ rfl) ?_
    refine F_iload_n (i := 2) (a := 2) rfl rfl (dk_X0_sells 76 _ rfl) ?_
    refine F_iconst (v := 3) (by decide) (dk_X0_sells 77 _ rfl) ?_
    refine F_imul (dk_X0_sells 78 _ rfl) ?_
    refine F_callV (ι' := uI) (ci := 0) (b := 5) (As := [.int 0, .int (p2 * 3)]) (d' := dr) (rfl) ok_X0_sells vi_X0_sells cl_0_25 (n := 2) (by decide +kernel) rfl rfl rfl (Nat.le_of_ble_eq_true rfl) (by omega) (dk_X0_sells 79 _ rfl) (hrc _ _ _ ) (fun x5 m6 => ?_)
    show JF _ _ _ _ _ _ [.int x5] _ _
    exact F_ret rfl (dk_X0_sells 82 _ rfl)
  refine F_case (fun c1_1 => ?_) (fun c1_1 => ?_)
  · rw [c1_1]; refine F_tin (off := 53) (tgt := 54) (by decide) (by decide) rfl (by decide) (dk_X0_sells 1 _ rfl) ?_
    refine F_aload_n (i := 0) (a := 0) rfl rfl (dk_X0_sells 54 _ rfl) ?_
    refine F_bipush (v := 50) (by decide) (dk_X0_sells 55 _ rfl) ?_
    refine F_callV (ι' := uU) (ci := 0) (b := 5) (As := [.int 50]) (d' := 2) (rfl) ok_X0_runs vi_X0_runs cl_0_38 (n := 1) (by decide +kernel) rfl rfl rfl (Nat.le_of_ble_eq_true rfl) (by omega) (dk_X0_sells 57 _ rfl) (c_X0_runs _ _ ) (fun x8 m9 => ?_)
    show JF _ _ _ _ _ _ [] _ _
    refine F_aload_n (i := 0) (a := 0) rfl rfl (dk_X0_sells 60 _ rfl) ?_
    refine F_iconst (v := 1) (by decide) (dk_X0_sells 61 _ rfl) ?_
    refine F_iload_n (i := 2) (a := 2) rfl rfl (dk_X0_sells 62 _ rfl) ?_
    refine F_callV (ι' := uI) (ci := 0) (b := 5) (As := [.int 1, .int p2]) (d' := dr) (rfl) ok_X0_sells vi_X0_sells cl_0_25 (n := 2) (by decide +kernel) rfl rfl rfl (Nat.le_of_ble_eq_true rfl) (by omega) (dk_X0_sells 63 _ rfl) (hrc _ _ _ ) (fun x11 m12 => ?_)
    show JF _ _ _ _ _ _ [.int x11] _ _
    refine F_ineg (dk_X0_sells 66 _ rfl) ?_
    exact F_ret rfl (dk_X0_sells 67 _ rfl)
  refine F_case (fun c1_2 => ?_) (fun c1_2 => ?_)
  · rw [c1_2]; refine F_tin (off := 67) (tgt := 68) (by decide) (by decide) rfl (by decide) (dk_X0_sells 1 _ rfl) ?_
    refine F_aload_n (i := 0) (a := 0) rfl rfl (dk_X0_sells 68 _ rfl) ?_
    refine F_bipush (v := 30) (by decide) (dk_X0_sells 69 _ rfl) ?_
    refine F_callV (ι' := uU) (ci := 0) (b := 5) (As := [.int 30]) (d' := 2) (rfl) ok_X0_runs vi_X0_runs cl_0_38 (n := 1) (by decide +kernel) rfl rfl rfl (Nat.le_of_ble_eq_true rfl) (by omega) (dk_X0_sells 71 _ rfl) (c_X0_runs _ _ ) (fun x14 m15 => ?_)
    show JF _ _ _ _ _ _ [] _ _
    refine F_aload_n (i := 0) (a := 0) rfl rfl (dk_X0_sells 74 _ rfl) ?_
    refine F_iconst (v := 0) (by decide) (dk_X0_sells 75 _ rfl) ?_
    refine F_iload_n (i := 2) (a := 2) rfl rfl (dk_X0_sells 76 _ rfl) ?_
    refine F_iconst (v := 3) (by decide) (dk_X0_sells 77 _ rfl) ?_
    refine F_imul (dk_X0_sells 78 _ rfl) ?_
    refine F_callV (ι' := uI) (ci := 0) (b := 5) (As := [.int 0, .int (p2 * 3)]) (d' := dr) (rfl) ok_X0_sells vi_X0_sells cl_0_25 (n := 2) (by decide +kernel) rfl rfl rfl (Nat.le_of_ble_eq_true rfl) (by omega) (dk_X0_sells 79 _ rfl) (hrc _ _ _ ) (fun x17 m18 => ?_)
    show JF _ _ _ _ _ _ [.int x17] _ _
    exact F_ret rfl (dk_X0_sells 82 _ rfl)
  refine F_case (fun c1_3 => ?_) (fun c1_3 => ?_)
  · rw [c1_3]; refine F_tin (off := 35) (tgt := 36) (by decide) (by decide) rfl (by decide) (dk_X0_sells 1 _ rfl) ?_
    refine F_aload_n (i := 0) (a := 0) rfl rfl (dk_X0_sells 36 _ rfl) ?_
    refine F_bipush (v := 71) (by decide) (dk_X0_sells 37 _ rfl) ?_
    refine F_callV (ι' := uU) (ci := 0) (b := 5) (As := [.int 71]) (d' := 2) (rfl) ok_X0_runs vi_X0_runs cl_0_38 (n := 1) (by decide +kernel) rfl rfl rfl (Nat.le_of_ble_eq_true rfl) (by omega) (dk_X0_sells 39 _ rfl) (c_X0_runs _ _ ) (fun x20 m21 => ?_)
    show JF _ _ _ _ _ _ [] _ _
    refine F_aload_n (i := 0) (a := 0) rfl rfl (dk_X0_sells 42 _ rfl) ?_
    refine F_iconst (v := 3) (by decide) (dk_X0_sells 43 _ rfl) ?_
    refine F_iload_n (i := 2) (a := 2) rfl rfl (dk_X0_sells 44 _ rfl) ?_
    refine F_callV (ι' := uI) (ci := 0) (b := 5) (As := [.int 3, .int p2]) (d' := dr) (rfl) ok_X0_sells vi_X0_sells cl_0_25 (n := 2) (by decide +kernel) rfl rfl rfl (Nat.le_of_ble_eq_true rfl) (by omega) (dk_X0_sells 45 _ rfl) (hrc _ _ _ ) (fun x23 m24 => ?_)
    show JF _ _ _ _ _ _ [.int x23] _ _
    refine F_aload_n (i := 0) (a := 0) rfl rfl (dk_X0_sells 48 _ rfl) ?_
    refine F_gI (n := 324) fxX_0_4_5 rfl fl_0_22 (dk_X0_sells 49 _ rfl) ?_
    refine F_ixor (dk_X0_sells 52 _ rfl) ?_
    exact F_ret rfl (dk_X0_sells 53 _ rfl)
  refine F_case (fun c1_4 => ?_) (fun c1_4 => ?_)
  · rw [c1_4]; refine F_tin (off := 82) (tgt := 83) (by decide) (by decide) rfl (by decide) (dk_X0_sells 1 _ rfl) ?_
    refine F_aload_n (i := 0) (a := 0) rfl rfl (dk_X0_sells 83 _ rfl) ?_
    refine F_bipush (v := 10) (by decide) (dk_X0_sells 84 _ rfl) ?_
    refine F_callV (ι' := uU) (ci := 0) (b := 5) (As := [.int 10]) (d' := 2) (rfl) ok_X0_runs vi_X0_runs cl_0_38 (n := 1) (by decide +kernel) rfl rfl rfl (Nat.le_of_ble_eq_true rfl) (by omega) (dk_X0_sells 86 _ rfl) (c_X0_runs _ _ ) (fun x26 m27 => ?_)
    show JF _ _ _ _ _ _ [] _ _
    refine F_iload_n (i := 2) (a := 2) rfl rfl (dk_X0_sells 89 _ rfl) ?_
    refine F_aload_n (i := 0) (a := 0) rfl rfl (dk_X0_sells 90 _ rfl) ?_
    refine F_gI (n := 323) fxX_0_3_5 rfl fl_0_15 (dk_X0_sells 91 _ rfl) ?_
    refine F_iadd (dk_X0_sells 94 _ rfl) ?_
    exact F_ret rfl (dk_X0_sells 95 _ rfl)
  refine F_tout (tgt := 83) (by have q0 := fI_ne c1_0; rw [show (2 : Int32).toInt = 2 from by decide] at q0; have q1 := fI_ne c1_1; rw [show (4 : Int32).toInt = 4 from by decide] at q1; have q2 := fI_ne c1_2; rw [show (5 : Int32).toInt = 5 from by decide] at q2; have q3 := fI_ne c1_3; rw [show (6 : Int32).toInt = 6 from by decide] at q3; have q4 := fI_ne c1_4; rw [show (3 : Int32).toInt = 3 from by decide] at q4; omega) (by decide) (dk_X0_sells 1 _ rfl) ?_
  refine F_aload_n (i := 0) (a := 0) rfl rfl (dk_X0_sells 83 _ rfl) ?_
  refine F_bipush (v := 10) (by decide) (dk_X0_sells 84 _ rfl) ?_
  refine F_callV (ι' := uU) (ci := 0) (b := 5) (As := [.int 10]) (d' := 2) (rfl) ok_X0_runs vi_X0_runs cl_0_38 (n := 1) (by decide +kernel) rfl rfl rfl (Nat.le_of_ble_eq_true rfl) (by omega) (dk_X0_sells 86 _ rfl) (c_X0_runs _ _ ) (fun x29 m30 => ?_)
  show JF _ _ _ _ _ _ [] _ _
  refine F_iload_n (i := 2) (a := 2) rfl rfl (dk_X0_sells 89 _ rfl) ?_
  refine F_aload_n (i := 0) (a := 0) rfl rfl (dk_X0_sells 90 _ rfl) ?_
  refine F_gI (n := 323) fxX_0_3_5 rfl fl_0_15 (dk_X0_sells 91 _ rfl) ?_
  refine F_iadd (dk_X0_sells 94 _ rfl) ?_
  exact F_ret rfl (dk_X0_sells 95 _ rfl)
def f_X0_sells : Nat → mM → Int32 → Int32 → fR Int32
  | 0, _, _, _ => none
  | D + 1, m, p1, p2 => fb_X0_sells (f_X0_sells D) m p1 p2
theorem c_X0_sells : ∀ (D : Nat) (m : mM) (p1 : Int32) (p2 : Int32) , cF true uI m_X0_sells (2 + 1 * D) [.ref 5, .int p1, .int p2] m (f_X0_sells D m p1 p2) := by
  intro D
  induction D with
  | zero => intro m p1 p2  r h1 he; cases he
  | succ D ih =>
    intro m p1 p2 
    refine cF_of ok_X0_sells (fun _ _ => Nat.le_of_ble_eq_true rfl) ?_
    show JF _ _ _ ((2 + 1 * D) + 1) _ _ _ _ _
    exact jb_X0_sells (f_X0_sells D) (2 + 1 * D) (by omega) ih m p1 p2 
def fb_X0_gives (rc : mM → Int32 → Int32 → fR Int32) (m : mM) (p1 : Int32) (p2 : Int32) : fR Int32 :=
  (if p1 = 1 then bnd (f_X0_runs m 20) fun (x2 : Unit) (m3 : mM) => bnd (rc m3 0 p2) fun (x5 : Int32) (m6 : mM) => some ((x5 ^^^ 6), m6) else if p1 = 4 then bnd (f_X0_runs m 51) fun (x8 : Unit) (m9 : mM) => bnd (rc m9 1 (p2 + 1)) fun (x11 : Int32) (m12 : mM) => some (x11, m12) else if p1 = 6 then bnd (f_X0_runs m 70) fun (x14 : Unit) (m15 : mM) => bnd (rc m15 3 p2) fun (x17 : Int32) (m18 : mM) => bnd (f_X0_sells 3 m18 3 2) fun (x20 : Int32) (m21 : mM) => some ((x17 + x20), m21) else bnd (f_X0_runs m 11) fun (x23 : Unit) (m24 : mM) => bnd (f_X0_sells 3 m24 (mI m24 322) p2) fun (x26 : Int32) (m27 : mM) => some ((x26 - (mI m27 324)), m27))
theorem jb_X0_gives (rc : mM → Int32 → Int32 → fR Int32) (dr : Nat) (hdr : 5 ≤ dr) (hrc : ∀ (m : mM) (x y : Int32), cF true uI m_X0_gives dr [.ref 5, .int x, .int y] m (rc m x y)) (m : mM) (p1 : Int32) (p2 : Int32)  : JF true uI m_X0_gives (dr + 1) 0 [(0, .ref 5), (1, .int p1), (2, .int p2)] [] m (fb_X0_gives rc m p1 p2) := by
  unfold fb_X0_gives
  refine F_iload_n (i := 1) (a := 1) rfl rfl (dk_X0_gives 0 _ rfl) ?_
  refine F_case (fun c1_0 => ?_) (fun c1_0 => ?_)
  · rw [c1_0]; refine F_look (off := 70) (tgt := 71) (by decide) (by decide) (by decide) (dk_X0_gives 1 _ rfl) ?_
    refine F_aload_n (i := 0) (a := 0) rfl rfl (dk_X0_gives 71 _ rfl) ?_
    refine F_bipush (v := 20) (by decide) (dk_X0_gives 72 _ rfl) ?_
    refine F_callV (ι' := uU) (ci := 0) (b := 5) (As := [.int 20]) (d' := 2) (rfl) ok_X0_runs vi_X0_runs cl_0_38 (n := 1) (by decide +kernel) rfl rfl rfl (Nat.le_of_ble_eq_true rfl) (by omega) (dk_X0_gives 74 _ rfl) (c_X0_runs _ _ ) (fun x2 m3 => ?_)
    show JF _ _ _ _ _ _ [] _ _
    refine F_aload_n (i := 0) (a := 0) rfl rfl (dk_X0_gives 77 _ rfl) ?_
    refine F_iconst (v := 0) (by decide) (dk_X0_gives 78 _ rfl) ?_
    refine F_iload_n (i := 2) (a := 2) rfl rfl (dk_X0_gives 79 _ rfl) ?_
    refine F_callV (ι' := uI) (ci := 0) (b := 5) (As := [.int 0, .int p2]) (d' := dr) (rfl) ok_X0_gives vi_X0_gives cl_0_29 (n := 2) (by decide +kernel) rfl rfl rfl (Nat.le_of_ble_eq_true rfl) (by omega) (dk_X0_gives 80 _ rfl) (hrc _ _ _ ) (fun x5 m6 => ?_)
    show JF _ _ _ _ _ _ [.int x5] _ _
    refine F_bipush (v := 6) (by decide) (dk_X0_gives 83 _ rfl) ?_
    refine F_ixor (dk_X0_gives 85 _ rfl) ?_
    exact F_ret rfl (dk_X0_gives 86 _ rfl)
  refine F_case (fun c1_1 => ?_) (fun c1_1 => ?_)
  · rw [c1_1]; refine F_look (off := 55) (tgt := 56) (by decide) (by decide) (by decide) (dk_X0_gives 1 _ rfl) ?_
    refine F_aload_n (i := 0) (a := 0) rfl rfl (dk_X0_gives 56 _ rfl) ?_
    refine F_bipush (v := 51) (by decide) (dk_X0_gives 57 _ rfl) ?_
    refine F_callV (ι' := uU) (ci := 0) (b := 5) (As := [.int 51]) (d' := 2) (rfl) ok_X0_runs vi_X0_runs cl_0_38 (n := 1) (by decide +kernel) rfl rfl rfl (Nat.le_of_ble_eq_true rfl) (by omega) (dk_X0_gives 59 _ rfl) (c_X0_runs _ _ ) (fun x8 m9 => ?_)
    show JF _ _ _ _ _ _ [] _ _
    refine F_aload_n (i := 0) (a := 0) rfl rfl (dk_X0_gives 62 _ rfl) ?_
    refine F_iconst (v := 1) (by decide) (dk_X0_gives 63 _ rfl) ?_
    refine F_iload_n (i := 2) (a := 2) rfl rfl (dk_X0_gives 64 _ rfl) ?_
    refine F_iconst (v := 1) (by decide) (dk_X0_gives 65 _ rfl) ?_
    refine F_iadd (dk_X0_gives 66 _ rfl) ?_
    refine F_callV (ι' := uI) (ci := 0) (b := 5) (As := [.int 1, .int (p2 + 1)]) (d' := dr) (rfl) ok_X0_gives vi_X0_gives cl_0_29 (n := 2) (by decide +kernel) rfl rfl rfl (Nat.le_of_ble_eq_true rfl) (by omega) (dk_X0_gives 67 _ rfl) (hrc _ _ _ ) (fun x11 m12 => ?_)
    show JF _ _ _ _ _ _ [.int x11] _ _
    exact F_ret rfl (dk_X0_gives 70 _ rfl)
  refine F_case (fun c1_2 => ?_) (fun c1_2 => ?_)
  · rw [c1_2]; refine F_look (off := 35) (tgt := 36) (by decide) (by decide) (by decide) (dk_X0_gives 1 _ rfl) ?_
    refine F_aload_n (i := 0) (a := 0) rfl rfl (dk_X0_gives 36 _ rfl) ?_
    refine F_bipush (v := 70) (by decide) (dk_X0_gives 37 _ rfl) ?_
    refine F_callV (ι' := uU) (ci := 0) (b := 5) (As := [.int 70]) (d' := 2) (rfl) ok_X0_runs vi_X0_runs cl_0_38 (n := 1) (by decide +kernel) rfl rfl rfl (Nat.le_of_ble_eq_true rfl) (by omega) (dk_X0_gives 39 _ rfl) (c_X0_runs _ _ ) (fun x14 m15 => ?_)
    show JF _ _ _ _ _ _ [] _ _
    refine F_aload_n (i := 0) (a := 0) rfl rfl (dk_X0_gives 42 _ rfl) ?_
    refine F_iconst (v := 3) (by decide) (dk_X0_gives 43 _ rfl) ?_
    refine F_iload_n (i := 2) (a := 2) rfl rfl (dk_X0_gives 44 _ rfl) ?_
    refine F_callV (ι' := uI) (ci := 0) (b := 5) (As := [.int 3, .int p2]) (d' := dr) (rfl) ok_X0_gives vi_X0_gives cl_0_29 (n := 2) (by decide +kernel) rfl rfl rfl (Nat.le_of_ble_eq_true rfl) (by omega) (dk_X0_gives 45 _ rfl) (hrc _ _ _ ) (fun x17 m18 => ?_)
    show JF _ _ _ _ _ _ [.int x17] _ _
    refine F_aload_n (i := 0) (a := 0) rfl rfl (dk_X0_gives 48 _ rfl) ?_
    refine F_iconst (v := 3) (by decide) (dk_X0_gives 49 _ rfl) ?_
    refine F_iconst (v := 2) (by decide) (dk_X0_gives 50 _ rfl) ?_
    refine F_callV (ι' := uI) (ci := 0) (b := 5) (As := [.int 3, .int 2]) (d' := 5) (rfl) ok_X0_sells vi_X0_sells cl_0_25 (n := 2) (by decide +kernel) rfl rfl rfl (Nat.le_of_ble_eq_true rfl) (by omega) (dk_X0_gives 51 _ rfl) (c_X0_sells 3 _ _ _ ) (fun x20 m21 => ?_)
    show JF _ _ _ _ _ _ [.int x20, .int x17] _ _
    refine F_iadd (dk_X0_gives 54 _ rfl) ?_
    exact F_ret rfl (dk_X0_gives 55 _ rfl)
  refine F_look (off := 86) (tgt := 87) (by decide) (by have q0 := fI_ne c1_0; rw [show (1 : Int32).toInt = 1 from by decide] at q0; have q1 := fI_ne c1_1; rw [show (4 : Int32).toInt = 4 from by decide] at q1; have q2 := fI_ne c1_2; rw [show (6 : Int32).toInt = 6 from by decide] at q2; simp [Op.lookupswitch.offset, q0, Ne.symm q0, q1, Ne.symm q1, q2, Ne.symm q2]) (by decide) (dk_X0_gives 1 _ rfl) ?_
  refine F_aload_n (i := 0) (a := 0) rfl rfl (dk_X0_gives 87 _ rfl) ?_
  refine F_bipush (v := 11) (by decide) (dk_X0_gives 88 _ rfl) ?_
  refine F_callV (ι' := uU) (ci := 0) (b := 5) (As := [.int 11]) (d' := 2) (rfl) ok_X0_runs vi_X0_runs cl_0_38 (n := 1) (by decide +kernel) rfl rfl rfl (Nat.le_of_ble_eq_true rfl) (by omega) (dk_X0_gives 90 _ rfl) (c_X0_runs _ _ ) (fun x23 m24 => ?_)
  show JF _ _ _ _ _ _ [] _ _
  refine F_aload_n (i := 0) (a := 0) rfl rfl (dk_X0_gives 93 _ rfl) ?_
  refine F_aload_n (i := 0) (a := 0) rfl rfl (dk_X0_gives 94 _ rfl) ?_
  refine F_gI (n := 322) fxX_0_2_5 rfl fl_0_19 (dk_X0_gives 95 _ rfl) ?_
  refine F_iload_n (i := 2) (a := 2) rfl rfl (dk_X0_gives 98 _ rfl) ?_
  refine F_callV (ι' := uI) (ci := 0) (b := 5) (As := [.int (mI m24 322), .int p2]) (d' := 5) (rfl) ok_X0_sells vi_X0_sells cl_0_25 (n := 2) (by decide +kernel) rfl rfl rfl (Nat.le_of_ble_eq_true rfl) (by omega) (dk_X0_gives 99 _ rfl) (c_X0_sells 3 _ _ _ ) (fun x26 m27 => ?_)
  show JF _ _ _ _ _ _ [.int x26] _ _
  refine F_aload_n (i := 0) (a := 0) rfl rfl (dk_X0_gives 102 _ rfl) ?_
  refine F_gI (n := 324) fxX_0_4_5 rfl fl_0_22 (dk_X0_gives 103 _ rfl) ?_
  refine F_isub (dk_X0_gives 106 _ rfl) ?_
  exact F_ret rfl (dk_X0_gives 107 _ rfl)
def f_X0_gives : Nat → mM → Int32 → Int32 → fR Int32
  | 0, _, _, _ => none
  | D + 1, m, p1, p2 => fb_X0_gives (f_X0_gives D) m p1 p2
theorem c_X0_gives : ∀ (D : Nat) (m : mM) (p1 : Int32) (p2 : Int32) , cF true uI m_X0_gives (5 + 1 * D) [.ref 5, .int p1, .int p2] m (f_X0_gives D m p1 p2) := by
  intro D
  induction D with
  | zero => intro m p1 p2  r h1 he; cases he
  | succ D ih =>
    intro m p1 p2 
    refine cF_of ok_X0_gives (fun _ _ => Nat.le_of_ble_eq_true rfl) ?_
    show JF _ _ _ ((5 + 1 * D) + 1) _ _ _ _ _
    exact jb_X0_gives (f_X0_gives D) (5 + 1 * D) (by omega) ih m p1 p2 
def fb_X0_tells (rc : mM → Int32 → Int32 → fR Int32) (m : mM) (p1 : Int32) (p2 : Int32) : fR Int32 :=
  (if p1 = 3 then bnd (f_X0_runs m 40) fun (x2 : Unit) (m3 : mM) => bnd (rc m3 0 p2) fun (x5 : Int32) (m6 : mM) => bnd (f_X0_gives 3 m6 (mI m6 322) 1) fun (x8 : Int32) (m9 : mM) => some ((x5 + x8), m9) else if p1 = 5 then bnd (f_X0_runs m 60) fun (x11 : Unit) (m12 : mM) => bnd (rc m12 2 ((p2 - (mI m12 323)))) fun (x14 : Int32) (m15 : mM) => some (x14, m15) else if p1 = 6 then bnd (f_X0_runs m 40) fun (x17 : Unit) (m18 : mM) => bnd (rc m18 0 p2) fun (x20 : Int32) (m21 : mM) => bnd (f_X0_gives 3 m21 (mI m21 322) 1) fun (x23 : Int32) (m24 : mM) => some ((x20 + x23), m24) else if p1 = 4 then bnd (f_X0_runs m 12) fun (x26 : Unit) (m27 : mM) => bnd (f_X0_gives 3 m27 (mI m27 322) p2) fun (x29 : Int32) (m30 : mM) => some ((x29 * 2), m30) else bnd (f_X0_runs m 12) fun (x32 : Unit) (m33 : mM) => bnd (f_X0_gives 3 m33 (mI m33 322) p2) fun (x35 : Int32) (m36 : mM) => some ((x35 * 2), m36))
theorem jb_X0_tells (rc : mM → Int32 → Int32 → fR Int32) (dr : Nat) (hdr : 8 ≤ dr) (hrc : ∀ (m : mM) (x y : Int32), cF true uI m_X0_tells dr [.ref 5, .int x, .int y] m (rc m x y)) (m : mM) (p1 : Int32) (p2 : Int32)  : JF true uI m_X0_tells (dr + 1) 0 [(0, .ref 5), (1, .int p1), (2, .int p2)] [] m (fb_X0_tells rc m p1 p2) := by
  unfold fb_X0_tells
  refine F_iload_n (i := 1) (a := 1) rfl rfl (dk_X0_tells 0 _ rfl) ?_
  refine F_case (fun c1_0 => ?_) (fun c1_0 => ?_)
  · rw [c1_0]; refine F_tin (off := 31) (tgt := 32) (by decide) (by decide) rfl (by decide) (dk_X0_tells 1 _ rfl) ?_
    refine F_aload_n (i := 0) (a := 0) rfl rfl (dk_X0_tells 32 _ rfl) ?_
    refine F_bipush (v := 40) (by decide) (dk_X0_tells 33 _ rfl) ?_
    refine F_callV (ι' := uU) (ci := 0) (b := 5) (As := [.int 40]) (d' := 2) (rfl) ok_X0_runs vi_X0_runs cl_0_38 (n := 1) (by decide +kernel) rfl rfl rfl (Nat.le_of_ble_eq_true rfl) (by omega) (dk_X0_tells 35 _ rfl) (c_X0_runs _ _ ) (fun x2 m3 => ?_)
    show JF _ _ _ _ _ _ [] _ _
    refine F_aload_n (i := 0) (a := 0) rfl rfl (dk_X0_tells 38 _ rfl) ?_
    refine F_iconst (v := 0) (by decide) (dk_X0_tells 39 _ rfl) ?_
    refine F_iload_n (i := 2) (a := 2) rfl rfl (dk_X0_tells 40 _ rfl) ?_
    refine F_callV (ι' := uI) (ci := 0) (b := 5) (As := [.int 0, .int p2]) (d' := dr) (rfl) ok_X0_tells vi_X0_tells cl_0_32 (n := 2) (by decide +kernel) rfl rfl rfl (Nat.le_of_ble_eq_true rfl) (by omega) (dk_X0_tells 41 _ rfl) (hrc _ _ _ ) (fun x5 m6 => ?_)
    show JF _ _ _ _ _ _ [.int x5] _ _
    refine F_aload_n (i := 0) (a := 0) rfl rfl (dk_X0_tells 44 _ rfl) ?_
    refine F_aload_n (i := 0) (a := 0) rfl rfl (dk_X0_tells 45 _ rfl) ?_
    refine F_gI (n := 322) fxX_0_2_5 rfl fl_0_19 (dk_X0_tells 46 _ rfl) ?_
    refine F_iconst (v := 1) (by decide) (dk_X0_tells 49 _ rfl) ?_
    refine F_callV (ι' := uI) (ci := 0) (b := 5) (As := [.int (mI m6 322), .int 1]) (d' := 8) (rfl) ok_X0_gives vi_X0_gives cl_0_29 (n := 2) (by decide +kernel) rfl rfl rfl (Nat.le_of_ble_eq_true rfl) (by omega) (dk_X0_tells 50 _ rfl) (c_X0_gives 3 _ _ _ ) (fun x8 m9 => ?_)
    show JF _ _ _ _ _ _ [.int x8, .int x5] _ _
    refine F_iadd (dk_X0_tells 53 _ rfl) ?_
    exact F_ret rfl (dk_X0_tells 54 _ rfl)
  refine F_case (fun c1_1 => ?_) (fun c1_1 => ?_)
  · rw [c1_1]; refine F_tin (off := 54) (tgt := 55) (by decide) (by decide) rfl (by decide) (dk_X0_tells 1 _ rfl) ?_
    refine F_aload_n (i := 0) (a := 0) rfl rfl (dk_X0_tells 55 _ rfl) ?_
    refine F_bipush (v := 60) (by decide) (dk_X0_tells 56 _ rfl) ?_
    refine F_callV (ι' := uU) (ci := 0) (b := 5) (As := [.int 60]) (d' := 2) (rfl) ok_X0_runs vi_X0_runs cl_0_38 (n := 1) (by decide +kernel) rfl rfl rfl (Nat.le_of_ble_eq_true rfl) (by omega) (dk_X0_tells 58 _ rfl) (c_X0_runs _ _ ) (fun x11 m12 => ?_)
    show JF _ _ _ _ _ _ [] _ _
    refine F_aload_n (i := 0) (a := 0) rfl rfl (dk_X0_tells 61 _ rfl) ?_
    refine F_iconst (v := 2) (by decide) (dk_X0_tells 62 _ rfl) ?_
    refine F_iload_n (i := 2) (a := 2) rfl rfl (dk_X0_tells 63 _ rfl) ?_
    refine F_aload_n (i := 0) (a := 0) rfl rfl (dk_X0_tells 64 _ rfl) ?_
    refine F_gI (n := 323) fxX_0_3_5 rfl fl_0_15 (dk_X0_tells 65 _ rfl) ?_
    refine F_isub (dk_X0_tells 68 _ rfl) ?_
    refine F_callV (ι' := uI) (ci := 0) (b := 5) (As := [.int 2, .int (p2 - (mI m12 323))]) (d' := dr) (rfl) ok_X0_tells vi_X0_tells cl_0_32 (n := 2) (by decide +kernel) rfl rfl rfl (Nat.le_of_ble_eq_true rfl) (by omega) (dk_X0_tells 69 _ rfl) (hrc _ _ _ ) (fun x14 m15 => ?_)
    show JF _ _ _ _ _ _ [.int x14] _ _
    exact F_ret rfl (dk_X0_tells 72 _ rfl)
  refine F_case (fun c1_2 => ?_) (fun c1_2 => ?_)
  · rw [c1_2]; refine F_tin (off := 31) (tgt := 32) (by decide) (by decide) rfl (by decide) (dk_X0_tells 1 _ rfl) ?_
    refine F_aload_n (i := 0) (a := 0) rfl rfl (dk_X0_tells 32 _ rfl) ?_
    refine F_bipush (v := 40) (by decide) (dk_X0_tells 33 _ rfl) ?_
    refine F_callV (ι' := uU) (ci := 0) (b := 5) (As := [.int 40]) (d' := 2) (rfl) ok_X0_runs vi_X0_runs cl_0_38 (n := 1) (by decide +kernel) rfl rfl rfl (Nat.le_of_ble_eq_true rfl) (by omega) (dk_X0_tells 35 _ rfl) (c_X0_runs _ _ ) (fun x17 m18 => ?_)
    show JF _ _ _ _ _ _ [] _ _
    refine F_aload_n (i := 0) (a := 0) rfl rfl (dk_X0_tells 38 _ rfl) ?_
    refine F_iconst (v := 0) (by decide) (dk_X0_tells 39 _ rfl) ?_
    refine F_iload_n (i := 2) (a := 2) rfl rfl (dk_X0_tells 40 _ rfl) ?_
    refine F_callV (ι' := uI) (ci := 0) (b := 5) (As := [.int 0, .int p2]) (d' := dr) (rfl) ok_X0_tells vi_X0_tells cl_0_32 (n := 2) (by decide +kernel) rfl rfl rfl (Nat.le_of_ble_eq_true rfl) (by omega) (dk_X0_tells 41 _ rfl) (hrc _ _ _ ) (fun x20 m21 => ?_)
    show JF _ _ _ _ _ _ [.int x20] _ _
    refine F_aload_n (i := 0) (a := 0) rfl rfl (dk_X0_tells 44 _ rfl) ?_
    refine F_aload_n (i := 0) (a := 0) rfl rfl (dk_X0_tells 45 _ rfl) ?_
    refine F_gI (n := 322) fxX_0_2_5 rfl fl_0_19 (dk_X0_tells 46 _ rfl) ?_
    refine F_iconst (v := 1) (by decide) (dk_X0_tells 49 _ rfl) ?_
    refine F_callV (ι' := uI) (ci := 0) (b := 5) (As := [.int (mI m21 322), .int 1]) (d' := 8) (rfl) ok_X0_gives vi_X0_gives cl_0_29 (n := 2) (by decide +kernel) rfl rfl rfl (Nat.le_of_ble_eq_true rfl) (by omega) (dk_X0_tells 50 _ rfl) (c_X0_gives 3 _ _ _ ) (fun x23 m24 => ?_)
    show JF _ _ _ _ _ _ [.int x23, .int x20] _ _
    refine F_iadd (dk_X0_tells 53 _ rfl) ?_
    exact F_ret rfl (dk_X0_tells 54 _ rfl)
  refine F_case (fun c1_3 => ?_) (fun c1_3 => ?_)
  · rw [c1_3]; refine F_tin (off := 72) (tgt := 73) (by decide) (by decide) rfl (by decide) (dk_X0_tells 1 _ rfl) ?_
    refine F_aload_n (i := 0) (a := 0) rfl rfl (dk_X0_tells 73 _ rfl) ?_
    refine F_bipush (v := 12) (by decide) (dk_X0_tells 74 _ rfl) ?_
    refine F_callV (ι' := uU) (ci := 0) (b := 5) (As := [.int 12]) (d' := 2) (rfl) ok_X0_runs vi_X0_runs cl_0_38 (n := 1) (by decide +kernel) rfl rfl rfl (Nat.le_of_ble_eq_true rfl) (by omega) (dk_X0_tells 76 _ rfl) (c_X0_runs _ _ ) (fun x26 m27 => ?_)
    show JF _ _ _ _ _ _ [] _ _
    refine F_aload_n (i := 0) (a := 0) rfl rfl (dk_X0_tells 79 _ rfl) ?_
    refine F_aload_n (i := 0) (a := 0) rfl rfl (dk_X0_tells 80 _ rfl) ?_
    refine F_gI (n := 322) fxX_0_2_5 rfl fl_0_19 (dk_X0_tells 81 _ rfl) ?_
    refine F_iload_n (i := 2) (a := 2) rfl rfl (dk_X0_tells 84 _ rfl) ?_
    refine F_callV (ι' := uI) (ci := 0) (b := 5) (As := [.int (mI m27 322), .int p2]) (d' := 8) (rfl) ok_X0_gives vi_X0_gives cl_0_29 (n := 2) (by decide +kernel) rfl rfl rfl (Nat.le_of_ble_eq_true rfl) (by omega) (dk_X0_tells 85 _ rfl) (c_X0_gives 3 _ _ _ ) (fun x29 m30 => ?_)
    show JF _ _ _ _ _ _ [.int x29] _ _
    refine F_iconst (v := 2) (by decide) (dk_X0_tells 88 _ rfl) ?_
    refine F_imul (dk_X0_tells 89 _ rfl) ?_
    exact F_ret rfl (dk_X0_tells 90 _ rfl)
  refine F_tout (tgt := 73) (by have q0 := fI_ne c1_0; rw [show (3 : Int32).toInt = 3 from by decide] at q0; have q1 := fI_ne c1_1; rw [show (5 : Int32).toInt = 5 from by decide] at q1; have q2 := fI_ne c1_2; rw [show (6 : Int32).toInt = 6 from by decide] at q2; have q3 := fI_ne c1_3; rw [show (4 : Int32).toInt = 4 from by decide] at q3; omega) (by decide) (dk_X0_tells 1 _ rfl) ?_
  refine F_aload_n (i := 0) (a := 0) rfl rfl (dk_X0_tells 73 _ rfl) ?_
  refine F_bipush (v := 12) (by decide) (dk_X0_tells 74 _ rfl) ?_
  refine F_callV (ι' := uU) (ci := 0) (b := 5) (As := [.int 12]) (d' := 2) (rfl) ok_X0_runs vi_X0_runs cl_0_38 (n := 1) (by decide +kernel) rfl rfl rfl (Nat.le_of_ble_eq_true rfl) (by omega) (dk_X0_tells 76 _ rfl) (c_X0_runs _ _ ) (fun x32 m33 => ?_)
  show JF _ _ _ _ _ _ [] _ _
  refine F_aload_n (i := 0) (a := 0) rfl rfl (dk_X0_tells 79 _ rfl) ?_
  refine F_aload_n (i := 0) (a := 0) rfl rfl (dk_X0_tells 80 _ rfl) ?_
  refine F_gI (n := 322) fxX_0_2_5 rfl fl_0_19 (dk_X0_tells 81 _ rfl) ?_
  refine F_iload_n (i := 2) (a := 2) rfl rfl (dk_X0_tells 84 _ rfl) ?_
  refine F_callV (ι' := uI) (ci := 0) (b := 5) (As := [.int (mI m33 322), .int p2]) (d' := 8) (rfl) ok_X0_gives vi_X0_gives cl_0_29 (n := 2) (by decide +kernel) rfl rfl rfl (Nat.le_of_ble_eq_true rfl) (by omega) (dk_X0_tells 85 _ rfl) (c_X0_gives 3 _ _ _ ) (fun x35 m36 => ?_)
  show JF _ _ _ _ _ _ [.int x35] _ _
  refine F_iconst (v := 2) (by decide) (dk_X0_tells 88 _ rfl) ?_
  refine F_imul (dk_X0_tells 89 _ rfl) ?_
  exact F_ret rfl (dk_X0_tells 90 _ rfl)
def f_X0_tells : Nat → mM → Int32 → Int32 → fR Int32
  | 0, _, _, _ => none
  | D + 1, m, p1, p2 => fb_X0_tells (f_X0_tells D) m p1 p2
theorem c_X0_tells : ∀ (D : Nat) (m : mM) (p1 : Int32) (p2 : Int32) , cF true uI m_X0_tells (8 + 1 * D) [.ref 5, .int p1, .int p2] m (f_X0_tells D m p1 p2) := by
  intro D
  induction D with
  | zero => intro m p1 p2  r h1 he; cases he
  | succ D ih =>
    intro m p1 p2 
    refine cF_of ok_X0_tells (fun _ _ => Nat.le_of_ble_eq_true rfl) ?_
    show JF _ _ _ ((8 + 1 * D) + 1) _ _ _ _ _
    exact jb_X0_tells (f_X0_tells D) (8 + 1 * D) (by omega) ih m p1 p2 
def f_X0_answer (m : mM) (p1 : Int32) (p2 : Int32) : fR Int32 :=
  (if p1 = 0 then bnd (f_X0_sells 3 m (mI m 322) p2) fun (x2 : Int32) (m3 : mM) => some (x2, m3) else if p1 = 1 then bnd (f_X0_gives 3 m (mI m 322) p2) fun (x5 : Int32) (m6 : mM) => some (x5, m6) else if p1 = 2 then bnd (f_X0_tells 3 m (mI m 322) p2) fun (x8 : Int32) (m9 : mM) => some (x8, m9) else some (0, m))
theorem c_X0_answer (m : mM) (p1 : Int32) (p2 : Int32)  : cF true uI m_X0_answer 12 [.ref 5, .int p1, .int p2] m (f_X0_answer m p1 p2) := by
  refine cF_of ok_X0_answer (fun _ _ => Nat.le_of_ble_eq_true rfl) ?_
  unfold f_X0_answer
  show JF _ _ _ _ _ [(0, .ref 5), (1, .int p1), (2, .int p2)] _ _ _
  refine F_iload_n (i := 1) (a := 1) rfl rfl (dk_X0_answer 0 _ rfl) ?_
  refine F_case (fun c1_0 => ?_) (fun c1_0 => ?_)
  · rw [c1_0]; refine F_tin (off := 27) (tgt := 28) (by decide) (by decide) rfl (by decide) (dk_X0_answer 1 _ rfl) ?_
    refine F_aload_n (i := 0) (a := 0) rfl rfl (dk_X0_answer 28 _ rfl) ?_
    refine F_aload_n (i := 0) (a := 0) rfl rfl (dk_X0_answer 29 _ rfl) ?_
    refine F_gI (n := 322) fxX_0_2_5 rfl fl_0_19 (dk_X0_answer 30 _ rfl) ?_
    refine F_iload_n (i := 2) (a := 2) rfl rfl (dk_X0_answer 33 _ rfl) ?_
    refine F_callV (ι' := uI) (ci := 0) (b := 5) (As := [.int (mI m 322), .int p2]) (d' := 5) (rfl) ok_X0_sells vi_X0_sells cl_0_25 (n := 2) (by decide +kernel) rfl rfl rfl (Nat.le_of_ble_eq_true rfl) (by omega) (dk_X0_answer 34 _ rfl) (c_X0_sells 3 _ _ _ ) (fun x2 m3 => ?_)
    show JF _ _ _ _ _ _ [.int x2] _ _
    exact F_ret rfl (dk_X0_answer 37 _ rfl)
  refine F_case (fun c1_1 => ?_) (fun c1_1 => ?_)
  · rw [c1_1]; refine F_tin (off := 37) (tgt := 38) (by decide) (by decide) rfl (by decide) (dk_X0_answer 1 _ rfl) ?_
    refine F_aload_n (i := 0) (a := 0) rfl rfl (dk_X0_answer 38 _ rfl) ?_
    refine F_aload_n (i := 0) (a := 0) rfl rfl (dk_X0_answer 39 _ rfl) ?_
    refine F_gI (n := 322) fxX_0_2_5 rfl fl_0_19 (dk_X0_answer 40 _ rfl) ?_
    refine F_iload_n (i := 2) (a := 2) rfl rfl (dk_X0_answer 43 _ rfl) ?_
    refine F_callV (ι' := uI) (ci := 0) (b := 5) (As := [.int (mI m 322), .int p2]) (d' := 8) (rfl) ok_X0_gives vi_X0_gives cl_0_29 (n := 2) (by decide +kernel) rfl rfl rfl (Nat.le_of_ble_eq_true rfl) (by omega) (dk_X0_answer 44 _ rfl) (c_X0_gives 3 _ _ _ ) (fun x5 m6 => ?_)
    show JF _ _ _ _ _ _ [.int x5] _ _
    exact F_ret rfl (dk_X0_answer 47 _ rfl)
  refine F_case (fun c1_2 => ?_) (fun c1_2 => ?_)
  · rw [c1_2]; refine F_tin (off := 47) (tgt := 48) (by decide) (by decide) rfl (by decide) (dk_X0_answer 1 _ rfl) ?_
    refine F_aload_n (i := 0) (a := 0) rfl rfl (dk_X0_answer 48 _ rfl) ?_
    refine F_aload_n (i := 0) (a := 0) rfl rfl (dk_X0_answer 49 _ rfl) ?_
    refine F_gI (n := 322) fxX_0_2_5 rfl fl_0_19 (dk_X0_answer 50 _ rfl) ?_
    refine F_iload_n (i := 2) (a := 2) rfl rfl (dk_X0_answer 53 _ rfl) ?_
    refine F_callV (ι' := uI) (ci := 0) (b := 5) (As := [.int (mI m 322), .int p2]) (d' := 11) (rfl) ok_X0_tells vi_X0_tells cl_0_32 (n := 2) (by decide +kernel) rfl rfl rfl (Nat.le_of_ble_eq_true rfl) (by omega) (dk_X0_answer 54 _ rfl) (c_X0_tells 3 _ _ _ ) (fun x8 m9 => ?_)
    show JF _ _ _ _ _ _ [.int x8] _ _
    exact F_ret rfl (dk_X0_answer 57 _ rfl)
  refine F_tout (tgt := 58) (by have q0 := fI_ne c1_0; rw [show (0 : Int32).toInt = 0 from by decide] at q0; have q1 := fI_ne c1_1; rw [show (1 : Int32).toInt = 1 from by decide] at q1; have q2 := fI_ne c1_2; rw [show (2 : Int32).toInt = 2 from by decide] at q2; omega) (by decide) (dk_X0_answer 1 _ rfl) ?_
  refine F_iconst (v := 0) (by decide) (dk_X0_answer 58 _ rfl) ?_
  exact F_ret rfl (dk_X0_answer 59 _ rfl)
def fb_X1_freeDay_3 (K3 : mM → Int32 → Int32 → Int32 → Int32 → fR Int32) (m : mM) (y1 : Int32) (y2 : Int32) (y3 : Int32) (y4 : Int32) : fR Int32 :=
  (if 12 ≤ y4 then some ((-1), m) else (rmI (y1 + y4) 12).bind fun x1 => (if x1 = y2 then (K3 m y1 y2 y3 (y4 + 1)) else (gA (mA m 45) x1).bind fun x2 => (if y3 ≤ x2 then (K3 m y1 y2 y3 (y4 + 1)) else some (x1, m))))
def f_X1_freeDay_3  : Nat → mM → Int32 → Int32 → Int32 → Int32 → fR Int32
  | 0, _, _, _, _, _ => none
  | F + 1, m, y1, y2, y3, y4 => fb_X1_freeDay_3  (f_X1_freeDay_3  F) m y1 y2 y3 y4
theorem jb_X1_freeDay_3 (K3 : mM → Int32 → Int32 → Int32 → Int32 → fR Int32) (hK3 : ∀ (m : mM) (y1 : Int32) (y2 : Int32) (y3 : Int32) (y4 : Int32) , JF true uI m_X1_freeDay 2 3 [(0, .ref 41), (1, .int y1), (2, .int y2), (3, .int y3), (4, .int y4)] [] m (K3 m y1 y2 y3 y4)) (m : mM) (y1 : Int32) (y2 : Int32) (y3 : Int32) (y4 : Int32)  : JF true uI m_X1_freeDay 2 3 [(0, .ref 41), (1, .int y1), (2, .int y2), (3, .int y3), (4, .int y4)] [] m (fb_X1_freeDay_3 K3 m y1 y2 y3 y4) := by
  unfold fb_X1_freeDay_3
  refine F_iload (i := 4) rfl (dk_X1_freeDay 3 _ rfl) ?_
  refine F_bipush (v := 12) (by decide) (dk_X1_freeDay 5 _ rfl) ?_
  refine F_icmp_ge (tgt := 45) (by decide) (dk_X1_freeDay 7 _ rfl) ?_ ?_
  · refine F_iconst (v := (-1)) (by decide) (dk_X1_freeDay 45 _ rfl) ?_
    exact F_ret rfl (dk_X1_freeDay 46 _ rfl)
  · refine F_iload_n (i := 1) (a := 1) rfl rfl (dk_X1_freeDay 10 _ rfl) ?_
    refine F_iload (i := 4) rfl (dk_X1_freeDay 11 _ rfl) ?_
    refine F_iadd (dk_X1_freeDay 13 _ rfl) ?_
    refine F_bipush (v := 12) (by decide) (dk_X1_freeDay 14 _ rfl) ?_
    refine F_irem (dk_X1_freeDay 16 _ rfl) (fun x1 => ?_)
    refine F_istore (lv' := [(5, .int x1), (0, .ref 41), (1, .int y1), (2, .int y2), (3, .int y3), (4, .int y4)]) (i := 5) (by decide) rfl (dk_X1_freeDay 17 _ rfl) ?_
    refine F_iload (i := 5) rfl (dk_X1_freeDay 19 _ rfl) ?_
    refine F_iload_n (i := 2) (a := 2) rfl rfl (dk_X1_freeDay 21 _ rfl) ?_
    refine F_icmp_eq (tgt := 39) (by decide) (dk_X1_freeDay 22 _ rfl) ?_ ?_
    · refine F_iinc (i := 4) (n := 1) (v := (y4 + 1)) (lv' := [(4, .int (y4 + 1)), (5, .int x1), (0, .ref 41), (1, .int y1), (2, .int y2), (3, .int y3)]) rfl (by first | rfl | decide) (by decide) rfl (dk_X1_freeDay 39 _ rfl) ?_
      refine F_goto (tgt := 3) (by decide) (dk_X1_freeDay 42 _ rfl) ?_
      exact F_loc (List.forall_mem_cons.mpr ⟨(.tail _ (.tail _ (.head _))), (List.forall_mem_cons.mpr ⟨(.tail _ (.tail _ (.tail _ (.head _)))), (List.forall_mem_cons.mpr ⟨(.tail _ (.tail _ (.tail _ (.tail _ (.head _))))), (List.forall_mem_cons.mpr ⟨(.tail _ (.tail _ (.tail _ (.tail _ (.tail _ (.head _)))))), (List.forall_mem_cons.mpr ⟨(.head _), (fun _ z => absurd z List.not_mem_nil)⟩)⟩)⟩)⟩)⟩) (hK3 _ _ _ _ _ )
    · refine F_aload_n (i := 0) (a := 0) rfl rfl (dk_X1_freeDay 25 _ rfl) ?_
      refine F_gR (b := 45) fxX_1_8_41 fl_1_21 (dk_X1_freeDay 26 _ rfl) ?_
      refine F_iload (i := 5) rfl (dk_X1_freeDay 29 _ rfl) ?_
      refine F_iald (axX_0_45) (dk_X1_freeDay 31 _ rfl) (fun x2 => ?_)
      refine F_iload_n (i := 3) (a := 3) rfl rfl (dk_X1_freeDay 32 _ rfl) ?_
      refine F_icmp_ge (tgt := 39) (by decide) (dk_X1_freeDay 33 _ rfl) ?_ ?_
      · refine F_iinc (i := 4) (n := 1) (v := (y4 + 1)) (lv' := [(4, .int (y4 + 1)), (5, .int x1), (0, .ref 41), (1, .int y1), (2, .int y2), (3, .int y3)]) rfl (by first | rfl | decide) (by decide) rfl (dk_X1_freeDay 39 _ rfl) ?_
        refine F_goto (tgt := 3) (by decide) (dk_X1_freeDay 42 _ rfl) ?_
        exact F_loc (List.forall_mem_cons.mpr ⟨(.tail _ (.tail _ (.head _))), (List.forall_mem_cons.mpr ⟨(.tail _ (.tail _ (.tail _ (.head _)))), (List.forall_mem_cons.mpr ⟨(.tail _ (.tail _ (.tail _ (.tail _ (.head _))))), (List.forall_mem_cons.mpr ⟨(.tail _ (.tail _ (.tail _ (.tail _ (.tail _ (.head _)))))), (List.forall_mem_cons.mpr ⟨(.head _), (fun _ z => absurd z List.not_mem_nil)⟩)⟩)⟩)⟩)⟩) (hK3 _ _ _ _ _ )
      · refine F_iload (i := 5) rfl (dk_X1_freeDay 36 _ rfl) ?_
        exact F_ret rfl (dk_X1_freeDay 38 _ rfl)
theorem j_X1_freeDay_3   : ∀ (F : Nat) (m : mM) (y1 : Int32) (y2 : Int32) (y3 : Int32) (y4 : Int32) , JF true uI m_X1_freeDay 2 3 [(0, .ref 41), (1, .int y1), (2, .int y2), (3, .int y3), (4, .int y4)] [] m (f_X1_freeDay_3  F m y1 y2 y3 y4) := by
  intro F
  induction F with
  | zero => intro m y1 y2 y3 y4 ; exact F_no
  | succ F ih => intro m y1 y2 y3 y4 ; exact jb_X1_freeDay_3  (f_X1_freeDay_3  F)  ih m y1 y2 y3 y4 
def f_X1_freeDay (m : mM) (p1 : Int32) (p2 : Int32) (p3 : Int32) : fR Int32 :=
  (f_X1_freeDay_3  1000 m p1 p2 p3 0)
theorem c_X1_freeDay (m : mM) (p1 : Int32) (p2 : Int32) (p3 : Int32)  : cF true uI m_X1_freeDay 2 [.ref 41, .int p1, .int p2, .int p3] m (f_X1_freeDay m p1 p2 p3) := by
  refine cF_of ok_X1_freeDay (fun _ _ => Nat.le_of_ble_eq_true rfl) ?_
  unfold f_X1_freeDay
  show JF _ _ _ _ _ [(0, .ref 41), (1, .int p1), (2, .int p2), (3, .int p3)] _ _ _
  refine F_iconst (v := 0) (by decide) (dk_X1_freeDay 0 _ rfl) ?_
  refine F_istore (lv' := [(4, .int 0), (0, .ref 41), (1, .int p1), (2, .int p2), (3, .int p3)]) (i := 4) (by decide) rfl (dk_X1_freeDay 1 _ rfl) ?_
  exact F_loc (List.forall_mem_cons.mpr ⟨(.tail _ (.head _)), (List.forall_mem_cons.mpr ⟨(.tail _ (.tail _ (.head _))), (List.forall_mem_cons.mpr ⟨(.tail _ (.tail _ (.tail _ (.head _)))), (List.forall_mem_cons.mpr ⟨(.tail _ (.tail _ (.tail _ (.tail _ (.head _))))), (List.forall_mem_cons.mpr ⟨(.head _), (fun _ z => absurd z List.not_mem_nil)⟩)⟩)⟩)⟩)⟩) (j_X1_freeDay_3   1000 _ _ _ _ _ )
def f_X1_wanted_41  (m : mM) (y1 : Int32) (y2 : Int32) (y100 : Int32) : fR Int32 :=
  chR true 2 (mR m 2624) fun r4 => (gA (mA m (r4 + 3)) y100).bind fun x5 => chR true 2 (mR m 2624) fun r6 => (gA (mA m (r6 + 1)) y1).bind fun x7 => (if x7 = 1 then bnd (f_X1_freeDay m y2 x5 8) fun (x9 : Int32) (m10 : mM) => some (x9, m10) else if x7 = 2 then some (x5, m) else if x7 = 3 then chR true 2 (mR m 2624) fun r12 => (gA (mA m (r12 + 2)) y1).bind fun x13 => (rmI (y2 + x13) 12).bind fun x14 => some (x14, m) else if x7 = 4 then bnd (f_X1_freeDay m y2 x5 2) fun (x15 : Int32) (m16 : mM) => (if x15 = (-1) then bnd (f_X1_freeDay m16 y2 x5 8) fun (x18 : Int32) (m19 : mM) => some (x18, m19) else some (x15, m16)) else if x7 = 5 then chR true 2 (mR m 2624) fun r21 => (gA (mA m (r21 + 6)) y100).bind fun x22 => (if x22 = 0 then some (y2, m) else some (x5, m)) else if x7 = 6 then chR true 2 (mR m 2624) fun r23 => (rmI (mI m 2627) 4).bind fun x24 => (gA (mA m (r23 + 7)) (((y1 * 4) + x24))).bind fun x25 => some (x25, m) else some (y2, m))
theorem j_X1_wanted_41   (m : mM) (y1 : Int32) (y2 : Int32) (y100 : Int32)  : JF true uI m_X1_wanted 3 41 [(0, .ref 41), (1, .int y1), (2, .int y2)] [.int y100] m (f_X1_wanted_41  m y1 y2 y100) := by
  unfold f_X1_wanted_41
  refine F_istore_n (lv' := [(3, .int y100), (0, .ref 41), (1, .int y1), (2, .int y2)]) (i := 3) (a := 3) rfl (by decide) rfl (dk_X1_wanted 41 _ rfl) ?_
  refine F_aload_n (i := 0) (a := 0) rfl rfl (dk_X1_wanted 42 _ rfl) ?_
  refine F_gV (n := 2624) fxX_1_0_41 rfl fl_1_24 (dk_X1_wanted 43 _ rfl) ?_
  refine F_ch (fun r4 hr4 => ?_)
  refine F_gR (b := (r4 + 3)) (lyS_7 hr4).1 fl_1_49 (dk_X1_wanted 46 _ rfl) ?_
  refine F_iload_n (i := 3) (a := 3) rfl rfl (dk_X1_wanted 49 _ rfl) ?_
  refine F_iald ((lyS_7 hr4).2) (dk_X1_wanted 50 _ rfl) (fun x5 => ?_)
  refine F_istore (lv' := [(4, .int x5), (3, .int y100), (0, .ref 41), (1, .int y1), (2, .int y2)]) (i := 4) (by decide) rfl (dk_X1_wanted 51 _ rfl) ?_
  refine F_aload_n (i := 0) (a := 0) rfl rfl (dk_X1_wanted 53 _ rfl) ?_
  refine F_gV (n := 2624) fxX_1_0_41 rfl fl_1_24 (dk_X1_wanted 54 _ rfl) ?_
  refine F_ch (fun r6 hr6 => ?_)
  refine F_gR (b := (r6 + 1)) (lyS_5 hr6).1 fl_1_93 (dk_X1_wanted 57 _ rfl) ?_
  refine F_iload_n (i := 1) (a := 1) rfl rfl (dk_X1_wanted 60 _ rfl) ?_
  refine F_iald ((lyS_5 hr6).2) (dk_X1_wanted 61 _ rfl) (fun x7 => ?_)
  refine F_case (fun c8_0 => ?_) (fun c8_0 => ?_)
  · rw [c8_0]; refine F_tin (off := 38) (tgt := 100) (by decide) (by decide) rfl (by decide) (dk_X1_wanted 62 _ rfl) ?_
    refine F_aload_n (i := 0) (a := 0) rfl rfl (dk_X1_wanted 100 _ rfl) ?_
    refine F_iload_n (i := 2) (a := 2) rfl rfl (dk_X1_wanted 101 _ rfl) ?_
    refine F_iload (i := 4) rfl (dk_X1_wanted 102 _ rfl) ?_
    refine F_bipush (v := 8) (by decide) (dk_X1_wanted 104 _ rfl) ?_
    refine F_callV (ι' := uI) (ci := 1) (b := 41) (As := [.int y2, .int x5, .int 8]) (d' := 2) (rfl) ok_X1_freeDay vi_X1_freeDay cl_1_96 (n := 3) (by decide +kernel) rfl rfl rfl (Nat.le_of_ble_eq_true rfl) (by omega) (dk_X1_wanted 106 _ rfl) (c_X1_freeDay _ _ _ _ ) (fun x9 m10 => ?_)
    show JF _ _ _ _ _ _ [.int x9] _ _
    exact F_ret rfl (dk_X1_wanted 109 _ rfl)
  refine F_case (fun c8_1 => ?_) (fun c8_1 => ?_)
  · rw [c8_1]; refine F_tin (off := 48) (tgt := 110) (by decide) (by decide) rfl (by decide) (dk_X1_wanted 62 _ rfl) ?_
    refine F_iload (i := 4) rfl (dk_X1_wanted 110 _ rfl) ?_
    exact F_ret rfl (dk_X1_wanted 112 _ rfl)
  refine F_case (fun c8_2 => ?_) (fun c8_2 => ?_)
  · rw [c8_2]; refine F_tin (off := 51) (tgt := 113) (by decide) (by decide) rfl (by decide) (dk_X1_wanted 62 _ rfl) ?_
    refine F_iload_n (i := 2) (a := 2) rfl rfl (dk_X1_wanted 113 _ rfl) ?_
    refine F_aload_n (i := 0) (a := 0) rfl rfl (dk_X1_wanted 114 _ rfl) ?_
    refine F_gV (n := 2624) fxX_1_0_41 rfl fl_1_24 (dk_X1_wanted 115 _ rfl) ?_
    refine F_ch (fun r12 hr12 => ?_)
    refine F_gR (b := (r12 + 2)) (lyS_6 hr12).1 fl_1_90 (dk_X1_wanted 118 _ rfl) ?_
    refine F_iload_n (i := 1) (a := 1) rfl rfl (dk_X1_wanted 121 _ rfl) ?_
    refine F_iald ((lyS_6 hr12).2) (dk_X1_wanted 122 _ rfl) (fun x13 => ?_)
    refine F_iadd (dk_X1_wanted 123 _ rfl) ?_
    refine F_bipush (v := 12) (by decide) (dk_X1_wanted 124 _ rfl) ?_
    refine F_irem (dk_X1_wanted 126 _ rfl) (fun x14 => ?_)
    exact F_ret rfl (dk_X1_wanted 127 _ rfl)
  refine F_case (fun c8_3 => ?_) (fun c8_3 => ?_)
  · rw [c8_3]; refine F_tin (off := 66) (tgt := 128) (by decide) (by decide) rfl (by decide) (dk_X1_wanted 62 _ rfl) ?_
    refine F_aload_n (i := 0) (a := 0) rfl rfl (dk_X1_wanted 128 _ rfl) ?_
    refine F_iload_n (i := 2) (a := 2) rfl rfl (dk_X1_wanted 129 _ rfl) ?_
    refine F_iload (i := 4) rfl (dk_X1_wanted 130 _ rfl) ?_
    refine F_iconst (v := 2) (by decide) (dk_X1_wanted 132 _ rfl) ?_
    refine F_callV (ι' := uI) (ci := 1) (b := 41) (As := [.int y2, .int x5, .int 2]) (d' := 2) (rfl) ok_X1_freeDay vi_X1_freeDay cl_1_96 (n := 3) (by decide +kernel) rfl rfl rfl (Nat.le_of_ble_eq_true rfl) (by omega) (dk_X1_wanted 133 _ rfl) (c_X1_freeDay _ _ _ _ ) (fun x15 m16 => ?_)
    show JF _ _ _ _ _ _ [.int x15] _ _
    refine F_istore (lv' := [(5, .int x15), (4, .int x5), (3, .int y100), (0, .ref 41), (1, .int y1), (2, .int y2)]) (i := 5) (by decide) rfl (dk_X1_wanted 136 _ rfl) ?_
    refine F_iload (i := 5) rfl (dk_X1_wanted 138 _ rfl) ?_
    refine F_iconst (v := (-1)) (by decide) (dk_X1_wanted 140 _ rfl) ?_
    refine F_icmp_eq (tgt := 149) (by decide) (dk_X1_wanted 141 _ rfl) ?_ ?_
    · refine F_aload_n (i := 0) (a := 0) rfl rfl (dk_X1_wanted 149 _ rfl) ?_
      refine F_iload_n (i := 2) (a := 2) rfl rfl (dk_X1_wanted 150 _ rfl) ?_
      refine F_iload (i := 4) rfl (dk_X1_wanted 151 _ rfl) ?_
      refine F_bipush (v := 8) (by decide) (dk_X1_wanted 153 _ rfl) ?_
      refine F_callV (ι' := uI) (ci := 1) (b := 41) (As := [.int y2, .int x5, .int 8]) (d' := 2) (rfl) ok_X1_freeDay vi_X1_freeDay cl_1_96 (n := 3) (by decide +kernel) rfl rfl rfl (Nat.le_of_ble_eq_true rfl) (by omega) (dk_X1_wanted 155 _ rfl) (c_X1_freeDay _ _ _ _ ) (fun x18 m19 => ?_)
      show JF _ _ _ _ _ _ [.int x18] _ _
      exact F_ret rfl (dk_X1_wanted 158 _ rfl)
    · refine F_iload (i := 5) rfl (dk_X1_wanted 144 _ rfl) ?_
      refine F_goto (tgt := 158) (by decide) (dk_X1_wanted 146 _ rfl) ?_
      exact F_ret rfl (dk_X1_wanted 158 _ rfl)
  refine F_case (fun c8_4 => ?_) (fun c8_4 => ?_)
  · rw [c8_4]; refine F_tin (off := 97) (tgt := 159) (by decide) (by decide) rfl (by decide) (dk_X1_wanted 62 _ rfl) ?_
    refine F_aload_n (i := 0) (a := 0) rfl rfl (dk_X1_wanted 159 _ rfl) ?_
    refine F_gV (n := 2624) fxX_1_0_41 rfl fl_1_24 (dk_X1_wanted 160 _ rfl) ?_
    refine F_ch (fun r21 hr21 => ?_)
    refine F_gR (b := (r21 + 6)) (lyS_10 hr21).1 fl_1_45 (dk_X1_wanted 163 _ rfl) ?_
    refine F_iload_n (i := 3) (a := 3) rfl rfl (dk_X1_wanted 166 _ rfl) ?_
    refine F_zald ((lyS_10 hr21).2) (dk_X1_wanted 167 _ rfl) (fun x22 => ?_)
    refine F_if_eq (tgt := 176) (by decide) (dk_X1_wanted 168 _ rfl) ?_ ?_
    · refine F_iload_n (i := 2) (a := 2) rfl rfl (dk_X1_wanted 176 _ rfl) ?_
      exact F_ret rfl (dk_X1_wanted 177 _ rfl)
    · refine F_iload (i := 4) rfl (dk_X1_wanted 171 _ rfl) ?_
      refine F_goto (tgt := 177) (by decide) (dk_X1_wanted 173 _ rfl) ?_
      exact F_ret rfl (dk_X1_wanted 177 _ rfl)
  refine F_case (fun c8_5 => ?_) (fun c8_5 => ?_)
  · rw [c8_5]; refine F_tin (off := 116) (tgt := 178) (by decide) (by decide) rfl (by decide) (dk_X1_wanted 62 _ rfl) ?_
    refine F_aload_n (i := 0) (a := 0) rfl rfl (dk_X1_wanted 178 _ rfl) ?_
    refine F_gV (n := 2624) fxX_1_0_41 rfl fl_1_24 (dk_X1_wanted 179 _ rfl) ?_
    refine F_ch (fun r23 hr23 => ?_)
    refine F_gR (b := (r23 + 7)) (lyS_11 hr23).1 fl_1_100 (dk_X1_wanted 182 _ rfl) ?_
    refine F_iload_n (i := 1) (a := 1) rfl rfl (dk_X1_wanted 185 _ rfl) ?_
    refine F_iconst (v := 4) (by decide) (dk_X1_wanted 186 _ rfl) ?_
    refine F_imul (dk_X1_wanted 187 _ rfl) ?_
    refine F_aload_n (i := 0) (a := 0) rfl rfl (dk_X1_wanted 188 _ rfl) ?_
    refine F_gI (n := 2627) fxX_1_3_41 rfl fl_1_41 (dk_X1_wanted 189 _ rfl) ?_
    refine F_iconst (v := 4) (by decide) (dk_X1_wanted 192 _ rfl) ?_
    refine F_irem (dk_X1_wanted 193 _ rfl) (fun x24 => ?_)
    refine F_iadd (dk_X1_wanted 194 _ rfl) ?_
    refine F_iald ((lyS_11 hr23).2) (dk_X1_wanted 195 _ rfl) (fun x25 => ?_)
    exact F_ret rfl (dk_X1_wanted 196 _ rfl)
  refine F_tout (tgt := 197) (by have q0 := fI_ne c8_0; rw [show (1 : Int32).toInt = 1 from by decide] at q0; have q1 := fI_ne c8_1; rw [show (2 : Int32).toInt = 2 from by decide] at q1; have q2 := fI_ne c8_2; rw [show (3 : Int32).toInt = 3 from by decide] at q2; have q3 := fI_ne c8_3; rw [show (4 : Int32).toInt = 4 from by decide] at q3; have q4 := fI_ne c8_4; rw [show (5 : Int32).toInt = 5 from by decide] at q4; have q5 := fI_ne c8_5; rw [show (6 : Int32).toInt = 6 from by decide] at q5; omega) (by decide) (dk_X1_wanted 62 _ rfl) ?_
  refine F_iload_n (i := 2) (a := 2) rfl rfl (dk_X1_wanted 197 _ rfl) ?_
  exact F_ret rfl (dk_X1_wanted 198 _ rfl)
def f_X1_wanted (m : mM) (p1 : Int32) : fR Int32 :=
  chR true 2 (mR m 2624) fun r1 => (gA (mA m (r1 + 4)) p1).bind fun x2 => chR true 2 (mR m 2624) fun r3 => (if (mI m (64 * r3 + 0)) ≤ 0 then (f_X1_wanted_41  m p1 x2 0) else chR true 2 (mR m 2624) fun r26 => (gA (mA m (r26 + 2)) p1).bind fun x27 => chR true 2 (mR m 2624) fun r28 => (rmI x27 ((mI m (64 * r28 + 0)))).bind fun x29 => (f_X1_wanted_41  m p1 x2 x29))
theorem c_X1_wanted (m : mM) (p1 : Int32)  : cF true uI m_X1_wanted 3 [.ref 41, .int p1] m (f_X1_wanted m p1) := by
  refine cF_of ok_X1_wanted (fun _ _ => Nat.le_of_ble_eq_true rfl) ?_
  unfold f_X1_wanted
  show JF _ _ _ _ _ [(0, .ref 41), (1, .int p1)] _ _ _
  refine F_aload_n (i := 0) (a := 0) rfl rfl (dk_X1_wanted 0 _ rfl) ?_
  refine F_gV (n := 2624) fxX_1_0_41 rfl fl_1_24 (dk_X1_wanted 1 _ rfl) ?_
  refine F_ch (fun r1 hr1 => ?_)
  refine F_gR (b := (r1 + 4)) (lyS_8 hr1).1 fl_1_87 (dk_X1_wanted 4 _ rfl) ?_
  refine F_iload_n (i := 1) (a := 1) rfl rfl (dk_X1_wanted 7 _ rfl) ?_
  refine F_iald ((lyS_8 hr1).2) (dk_X1_wanted 8 _ rfl) (fun x2 => ?_)
  refine F_istore_n (lv' := [(2, .int x2), (0, .ref 41), (1, .int p1)]) (i := 2) (a := 2) rfl (by decide) rfl (dk_X1_wanted 9 _ rfl) ?_
  refine F_aload_n (i := 0) (a := 0) rfl rfl (dk_X1_wanted 10 _ rfl) ?_
  refine F_gV (n := 2624) fxX_1_0_41 rfl fl_1_24 (dk_X1_wanted 11 _ rfl) ?_
  refine F_ch (fun r3 hr3 => ?_)
  refine F_gI (n := (64 * r3 + 0)) (lyS_0 hr3) rfl fl_1_42 (dk_X1_wanted 14 _ rfl) ?_
  refine F_if_le (tgt := 40) (by decide) (dk_X1_wanted 17 _ rfl) ?_ ?_
  · refine F_iconst (v := 0) (by decide) (dk_X1_wanted 40 _ rfl) ?_
    exact F_loc (List.forall_mem_cons.mpr ⟨(.tail _ (.head _)), (List.forall_mem_cons.mpr ⟨(.tail _ (.tail _ (.head _))), (List.forall_mem_cons.mpr ⟨(.head _), (fun _ z => absurd z List.not_mem_nil)⟩)⟩)⟩) (j_X1_wanted_41   _ _ _ _ )
  · refine F_aload_n (i := 0) (a := 0) rfl rfl (dk_X1_wanted 20 _ rfl) ?_
    refine F_gV (n := 2624) fxX_1_0_41 rfl fl_1_24 (dk_X1_wanted 21 _ rfl) ?_
    refine F_ch (fun r26 hr26 => ?_)
    refine F_gR (b := (r26 + 2)) (lyS_6 hr26).1 fl_1_90 (dk_X1_wanted 24 _ rfl) ?_
    refine F_iload_n (i := 1) (a := 1) rfl rfl (dk_X1_wanted 27 _ rfl) ?_
    refine F_iald ((lyS_6 hr26).2) (dk_X1_wanted 28 _ rfl) (fun x27 => ?_)
    refine F_aload_n (i := 0) (a := 0) rfl rfl (dk_X1_wanted 29 _ rfl) ?_
    refine F_gV (n := 2624) fxX_1_0_41 rfl fl_1_24 (dk_X1_wanted 30 _ rfl) ?_
    refine F_ch (fun r28 hr28 => ?_)
    refine F_gI (n := (64 * r28 + 0)) (lyS_0 hr28) rfl fl_1_42 (dk_X1_wanted 33 _ rfl) ?_
    refine F_irem (dk_X1_wanted 36 _ rfl) (fun x29 => ?_)
    refine F_goto (tgt := 41) (by decide) (dk_X1_wanted 37 _ rfl) ?_
    exact F_loc (List.forall_mem_cons.mpr ⟨(.tail _ (.head _)), (List.forall_mem_cons.mpr ⟨(.tail _ (.tail _ (.head _))), (List.forall_mem_cons.mpr ⟨(.head _), (fun _ z => absurd z List.not_mem_nil)⟩)⟩)⟩) (j_X1_wanted_41   _ _ _ _ )
def fb_X1_beginYear_2 (K2 : mM → Int32 → fR Unit) (m : mM) (y1 : Int32) : fR Unit :=
  chR true 2 (mR m 2624) fun r1 => (if (mI m (64 * r1 + 0)) ≤ y1 then some ((), m) else bnd (f_X1_wanted m y1) fun (x2 : Int32) (m3 : mM) => chR true 2 (mR m3 2624) fun r5 => chR true 5 (mR m3 (64 * r5 + 4)) fun r6 => (if x2 = (mI m3 (64 * r6 + 2)) then (rmI (x2 + 1) 12).bind fun x8 => (sA 0 m3 44 y1 x8).bind fun m9 => (K2 m9 (y1 + 1)) else (sA 0 m3 44 y1 x2).bind fun m7 => (K2 m7 (y1 + 1))))
def f_X1_beginYear_2  : Nat → mM → Int32 → fR Unit
  | 0, _, _ => none
  | F + 1, m, y1 => fb_X1_beginYear_2  (f_X1_beginYear_2  F) m y1
theorem jb_X1_beginYear_2 (K2 : mM → Int32 → fR Unit) (hK2 : ∀ (m : mM) (y1 : Int32) , JF true uU m_X1_beginYear 4 2 [(0, .ref 41), (1, .int y1)] [] m (K2 m y1)) (m : mM) (y1 : Int32)  : JF true uU m_X1_beginYear 4 2 [(0, .ref 41), (1, .int y1)] [] m (fb_X1_beginYear_2 K2 m y1) := by
  unfold fb_X1_beginYear_2
  refine F_iload_n (i := 1) (a := 1) rfl rfl (dk_X1_beginYear 2 _ rfl) ?_
  refine F_aload_n (i := 0) (a := 0) rfl rfl (dk_X1_beginYear 3 _ rfl) ?_
  refine F_gV (n := 2624) fxX_1_0_41 rfl fl_1_24 (dk_X1_beginYear 4 _ rfl) ?_
  refine F_ch (fun r1 hr1 => ?_)
  refine F_gI (n := (64 * r1 + 0)) (lyS_0 hr1) rfl fl_1_42 (dk_X1_beginYear 7 _ rfl) ?_
  refine F_icmp_ge (tgt := 55) (by decide) (dk_X1_beginYear 10 _ rfl) ?_ ?_
  · exact F_retV rfl (dk_X1_beginYear 55 _ rfl)
  · refine F_aload_n (i := 0) (a := 0) rfl rfl (dk_X1_beginYear 13 _ rfl) ?_
    refine F_iload_n (i := 1) (a := 1) rfl rfl (dk_X1_beginYear 14 _ rfl) ?_
    refine F_callV (ι' := uI) (ci := 1) (b := 41) (As := [.int y1]) (d' := 3) (rfl) ok_X1_wanted vi_X1_wanted cl_1_81 (n := 1) (by decide +kernel) rfl rfl rfl (Nat.le_of_ble_eq_true rfl) (by omega) (dk_X1_beginYear 15 _ rfl) (c_X1_wanted _ _ ) (fun x2 m3 => ?_)
    show JF _ _ _ _ _ _ [.int x2] _ _
    refine F_istore_n (lv' := [(2, .int x2), (0, .ref 41), (1, .int y1)]) (i := 2) (a := 2) rfl (by decide) rfl (dk_X1_beginYear 18 _ rfl) ?_
    refine F_aload_n (i := 0) (a := 0) rfl rfl (dk_X1_beginYear 19 _ rfl) ?_
    refine F_gR (b := 44) fxX_1_7_41 fl_1_18 (dk_X1_beginYear 20 _ rfl) ?_
    refine F_iload_n (i := 1) (a := 1) rfl rfl (dk_X1_beginYear 23 _ rfl) ?_
    refine F_iload_n (i := 2) (a := 2) rfl rfl (dk_X1_beginYear 24 _ rfl) ?_
    refine F_aload_n (i := 0) (a := 0) rfl rfl (dk_X1_beginYear 25 _ rfl) ?_
    refine F_gV (n := 2624) fxX_1_0_41 rfl fl_1_24 (dk_X1_beginYear 26 _ rfl) ?_
    refine F_ch (fun r5 hr5 => ?_)
    refine F_gV (n := (64 * r5 + 4)) (lyS_4 hr5) rfl fl_1_68 (dk_X1_beginYear 29 _ rfl) ?_
    refine F_ch (fun r6 hr6 => ?_)
    refine F_gI (n := (64 * r6 + 2)) (lyT_2 hr6) rfl fl_1_84 (dk_X1_beginYear 32 _ rfl) ?_
    refine F_icmp_ne (tgt := 47) (by decide) (dk_X1_beginYear 35 _ rfl) ?_ ?_
    · refine F_iload_n (i := 2) (a := 2) rfl rfl (dk_X1_beginYear 47 _ rfl) ?_
      refine F_iast (axX_0_44) (dk_X1_beginYear 48 _ rfl) (fun m7 => ?_)
      refine F_iinc (i := 1) (n := 1) (v := (y1 + 1)) (lv' := [(1, .int (y1 + 1)), (2, .int x2), (0, .ref 41)]) rfl (by first | rfl | decide) (by decide) rfl (dk_X1_beginYear 49 _ rfl) ?_
      refine F_goto (tgt := 2) (by decide) (dk_X1_beginYear 52 _ rfl) ?_
      exact F_loc (List.forall_mem_cons.mpr ⟨(.tail _ (.tail _ (.head _))), (List.forall_mem_cons.mpr ⟨(.head _), (fun _ z => absurd z List.not_mem_nil)⟩)⟩) (hK2 _ _ )
    · refine F_iload_n (i := 2) (a := 2) rfl rfl (dk_X1_beginYear 38 _ rfl) ?_
      refine F_iconst (v := 1) (by decide) (dk_X1_beginYear 39 _ rfl) ?_
      refine F_iadd (dk_X1_beginYear 40 _ rfl) ?_
      refine F_bipush (v := 12) (by decide) (dk_X1_beginYear 41 _ rfl) ?_
      refine F_irem (dk_X1_beginYear 43 _ rfl) (fun x8 => ?_)
      refine F_goto (tgt := 48) (by decide) (dk_X1_beginYear 44 _ rfl) ?_
      refine F_iast (axX_0_44) (dk_X1_beginYear 48 _ rfl) (fun m9 => ?_)
      refine F_iinc (i := 1) (n := 1) (v := (y1 + 1)) (lv' := [(1, .int (y1 + 1)), (2, .int x2), (0, .ref 41)]) rfl (by first | rfl | decide) (by decide) rfl (dk_X1_beginYear 49 _ rfl) ?_
      refine F_goto (tgt := 2) (by decide) (dk_X1_beginYear 52 _ rfl) ?_
      exact F_loc (List.forall_mem_cons.mpr ⟨(.tail _ (.tail _ (.head _))), (List.forall_mem_cons.mpr ⟨(.head _), (fun _ z => absurd z List.not_mem_nil)⟩)⟩) (hK2 _ _ )
theorem j_X1_beginYear_2   : ∀ (F : Nat) (m : mM) (y1 : Int32) , JF true uU m_X1_beginYear 4 2 [(0, .ref 41), (1, .int y1)] [] m (f_X1_beginYear_2  F m y1) := by
  intro F
  induction F with
  | zero => intro m y1 ; exact F_no
  | succ F ih => intro m y1 ; exact jb_X1_beginYear_2  (f_X1_beginYear_2  F)  ih m y1 
def f_X1_beginYear (m : mM)  : fR Unit :=
  (f_X1_beginYear_2  1000 m 0)
theorem c_X1_beginYear (m : mM)   : cF true uU m_X1_beginYear 4 [.ref 41] m (f_X1_beginYear m ) := by
  refine cF_of ok_X1_beginYear (fun _ _ => Nat.le_of_ble_eq_true rfl) ?_
  unfold f_X1_beginYear
  show JF _ _ _ _ _ [(0, .ref 41)] _ _ _
  refine F_iconst (v := 0) (by decide) (dk_X1_beginYear 0 _ rfl) ?_
  refine F_istore_n (lv' := [(1, .int 0), (0, .ref 41)]) (i := 1) (a := 1) rfl (by decide) rfl (dk_X1_beginYear 1 _ rfl) ?_
  exact F_loc (List.forall_mem_cons.mpr ⟨(.tail _ (.head _)), (List.forall_mem_cons.mpr ⟨(.head _), (fun _ z => absurd z List.not_mem_nil)⟩)⟩) (j_X1_beginYear_2   1000 _ _ )
def fb_X1_start_49 (K49 : mM → Nat → Int32 → fR Unit) (m : mM) (y1 : Nat) (y3 : Int32) : fR Unit :=
  (if (mI m (64 * y1 + 0)) ≤ y3 then bnd (f_X1_beginYear m ) fun (x5 : Unit) (m6 : mM) => some ((), m6) else (sA 0 m 42 y3 0).bind fun m8 => (sA 0 m8 43 y3 0).bind fun m9 => (gA (mA m9 (y1 + 6)) y3).bind fun x10 => (if x10 = 0 then (K49 m9 y1 (y3 + 1)) else (gA (mA m9 (y1 + 3)) y3).bind fun x11 => (gA (mA m9 45) x11).bind fun x12 => (sA 0 m9 45 x11 (x12 + 1)).bind fun m13 => (K49 m13 y1 (y3 + 1))))
def f_X1_start_49  : Nat → mM → Nat → Int32 → fR Unit
  | 0, _, _, _ => none
  | F + 1, m, y1, y3 => fb_X1_start_49  (f_X1_start_49  F) m y1 y3
theorem jb_X1_start_49 (K49 : mM → Nat → Int32 → fR Unit) (hK49 : ∀ (m : mM) (y1 : Nat) (y3 : Int32) (hy1 : isC true 2 y1 = true), JF true uU m_X1_start 5 49 [(0, .ref 41), (1, .ref y1), (3, .int y3)] [] m (K49 m y1 y3)) (m : mM) (y1 : Nat) (y3 : Int32) (hy1 : isC true 2 y1 = true) : JF true uU m_X1_start 5 49 [(0, .ref 41), (1, .ref y1), (3, .int y3)] [] m (fb_X1_start_49 K49 m y1 y3) := by
  unfold fb_X1_start_49
  refine F_iload_n (i := 3) (a := 3) rfl rfl (dk_X1_start 49 _ rfl) ?_
  refine F_aload_n (i := 1) (a := 1) rfl rfl (dk_X1_start 50 _ rfl) ?_
  refine F_gI (n := (64 * y1 + 0)) (lyS_0 hy1) rfl fl_1_42 (dk_X1_start 51 _ rfl) ?_
  refine F_icmp_ge (tgt := 101) (by decide) (dk_X1_start 54 _ rfl) ?_ ?_
  · refine F_aload_n (i := 0) (a := 0) rfl rfl (dk_X1_start 101 _ rfl) ?_
    refine F_callV (ι' := uU) (ci := 1) (b := 41) (As := []) (d' := 4) (rfl) ok_X1_beginYear vi_X1_beginYear cl_1_52 (n := 0) (by decide +kernel) rfl rfl rfl (Nat.le_of_ble_eq_true rfl) (by omega) (dk_X1_start 102 _ rfl) (c_X1_beginYear _  ) (fun x5 m6 => ?_)
    show JF _ _ _ _ _ _ [] _ _
    exact F_retV rfl (dk_X1_start 105 _ rfl)
  · refine F_aload_n (i := 0) (a := 0) rfl rfl (dk_X1_start 57 _ rfl) ?_
    refine F_gR (b := 42) fxX_1_5_41 fl_1_9 (dk_X1_start 58 _ rfl) ?_
    refine F_iload_n (i := 3) (a := 3) rfl rfl (dk_X1_start 61 _ rfl) ?_
    refine F_iconst (v := 0) (by decide) (dk_X1_start 62 _ rfl) ?_
    refine F_iast (axX_0_42) (dk_X1_start 63 _ rfl) (fun m8 => ?_)
    refine F_aload_n (i := 0) (a := 0) rfl rfl (dk_X1_start 64 _ rfl) ?_
    refine F_gR (b := 43) fxX_1_6_41 fl_1_15 (dk_X1_start 65 _ rfl) ?_
    refine F_iload_n (i := 3) (a := 3) rfl rfl (dk_X1_start 68 _ rfl) ?_
    refine F_iconst (v := 0) (by decide) (dk_X1_start 69 _ rfl) ?_
    refine F_iast (axX_0_43) (dk_X1_start 70 _ rfl) (fun m9 => ?_)
    refine F_aload_n (i := 1) (a := 1) rfl rfl (dk_X1_start 71 _ rfl) ?_
    refine F_gR (b := (y1 + 6)) (lyS_10 hy1).1 fl_1_45 (dk_X1_start 72 _ rfl) ?_
    refine F_iload_n (i := 3) (a := 3) rfl rfl (dk_X1_start 75 _ rfl) ?_
    refine F_zald ((lyS_10 hy1).2) (dk_X1_start 76 _ rfl) (fun x10 => ?_)
    refine F_if_eq (tgt := 95) (by decide) (dk_X1_start 77 _ rfl) ?_ ?_
    · refine F_iinc (i := 3) (n := 1) (v := (y3 + 1)) (lv' := [(3, .int (y3 + 1)), (0, .ref 41), (1, .ref y1)]) rfl (by first | rfl | decide) (by decide) rfl (dk_X1_start 95 _ rfl) ?_
      refine F_goto (tgt := 49) (by decide) (dk_X1_start 98 _ rfl) ?_
      exact F_loc (List.forall_mem_cons.mpr ⟨(.tail _ (.head _)), (List.forall_mem_cons.mpr ⟨(.tail _ (.tail _ (.head _))), (List.forall_mem_cons.mpr ⟨(.head _), (fun _ z => absurd z List.not_mem_nil)⟩)⟩)⟩) (hK49 _ _ _ (hy1))
    · refine F_aload_n (i := 0) (a := 0) rfl rfl (dk_X1_start 80 _ rfl) ?_
      refine F_gR (b := 45) fxX_1_8_41 fl_1_21 (dk_X1_start 81 _ rfl) ?_
      refine F_aload_n (i := 1) (a := 1) rfl rfl (dk_X1_start 84 _ rfl) ?_
      refine F_gR (b := (y1 + 3)) (lyS_7 hy1).1 fl_1_49 (dk_X1_start 85 _ rfl) ?_
      refine F_iload_n (i := 3) (a := 3) rfl rfl (dk_X1_start 88 _ rfl) ?_
      refine F_iald ((lyS_7 hy1).2) (dk_X1_start 89 _ rfl) (fun x11 => ?_)
      refine F_dup2 rfl rfl (dk_X1_start 90 _ rfl) ?_
      refine F_iald (axX_0_45) (dk_X1_start 91 _ rfl) (fun x12 => ?_)
      refine F_iconst (v := 1) (by decide) (dk_X1_start 92 _ rfl) ?_
      refine F_iadd (dk_X1_start 93 _ rfl) ?_
      refine F_iast (axX_0_45) (dk_X1_start 94 _ rfl) (fun m13 => ?_)
      refine F_iinc (i := 3) (n := 1) (v := (y3 + 1)) (lv' := [(3, .int (y3 + 1)), (0, .ref 41), (1, .ref y1)]) rfl (by first | rfl | decide) (by decide) rfl (dk_X1_start 95 _ rfl) ?_
      refine F_goto (tgt := 49) (by decide) (dk_X1_start 98 _ rfl) ?_
      exact F_loc (List.forall_mem_cons.mpr ⟨(.tail _ (.head _)), (List.forall_mem_cons.mpr ⟨(.tail _ (.tail _ (.head _))), (List.forall_mem_cons.mpr ⟨(.head _), (fun _ z => absurd z List.not_mem_nil)⟩)⟩)⟩) (hK49 _ _ _ (hy1))
theorem j_X1_start_49   : ∀ (F : Nat) (m : mM) (y1 : Nat) (y3 : Int32) (hy1 : isC true 2 y1 = true), JF true uU m_X1_start 5 49 [(0, .ref 41), (1, .ref y1), (3, .int y3)] [] m (f_X1_start_49  F m y1 y3) := by
  intro F
  induction F with
  | zero => intro m y1 y3 hy1; exact F_no
  | succ F ih => intro m y1 y3 hy1; exact jb_X1_start_49  (f_X1_start_49  F)  ih m y1 y3 hy1
def fb_X1_start_28 (K28 : mM → Nat → Int32 → fR Unit) (m : mM) (y1 : Nat) (y3 : Int32) : fR Unit :=
  (if 12 ≤ y3 then (f_X1_start_49  1000 m y1 0) else (sA 0 m 45 y3 0).bind fun m14 => (K28 m14 y1 (y3 + 1)))
def f_X1_start_28  : Nat → mM → Nat → Int32 → fR Unit
  | 0, _, _, _ => none
  | F + 1, m, y1, y3 => fb_X1_start_28  (f_X1_start_28  F) m y1 y3
theorem jb_X1_start_28 (K28 : mM → Nat → Int32 → fR Unit) (hK28 : ∀ (m : mM) (y1 : Nat) (y3 : Int32) (hy1 : isC true 2 y1 = true), JF true uU m_X1_start 5 28 [(0, .ref 41), (1, .ref y1), (3, .int y3)] [] m (K28 m y1 y3)) (m : mM) (y1 : Nat) (y3 : Int32) (hy1 : isC true 2 y1 = true) : JF true uU m_X1_start 5 28 [(0, .ref 41), (1, .ref y1), (3, .int y3)] [] m (fb_X1_start_28 K28 m y1 y3) := by
  unfold fb_X1_start_28
  refine F_iload_n (i := 3) (a := 3) rfl rfl (dk_X1_start 28 _ rfl) ?_
  refine F_bipush (v := 12) (by decide) (dk_X1_start 29 _ rfl) ?_
  refine F_icmp_ge (tgt := 47) (by decide) (dk_X1_start 31 _ rfl) ?_ ?_
  · refine F_iconst (v := 0) (by decide) (dk_X1_start 47 _ rfl) ?_
    refine F_istore_n (lv' := [(3, .int 0), (0, .ref 41), (1, .ref y1)]) (i := 3) (a := 3) rfl (by decide) rfl (dk_X1_start 48 _ rfl) ?_
    exact F_loc (List.forall_mem_cons.mpr ⟨(.tail _ (.head _)), (List.forall_mem_cons.mpr ⟨(.tail _ (.tail _ (.head _))), (List.forall_mem_cons.mpr ⟨(.head _), (fun _ z => absurd z List.not_mem_nil)⟩)⟩)⟩) (j_X1_start_49   1000 _ _ _ (hy1))
  · refine F_aload_n (i := 0) (a := 0) rfl rfl (dk_X1_start 34 _ rfl) ?_
    refine F_gR (b := 45) fxX_1_8_41 fl_1_21 (dk_X1_start 35 _ rfl) ?_
    refine F_iload_n (i := 3) (a := 3) rfl rfl (dk_X1_start 38 _ rfl) ?_
    refine F_iconst (v := 0) (by decide) (dk_X1_start 39 _ rfl) ?_
    refine F_iast (axX_0_45) (dk_X1_start 40 _ rfl) (fun m14 => ?_)
    refine F_iinc (i := 3) (n := 1) (v := (y3 + 1)) (lv' := [(3, .int (y3 + 1)), (0, .ref 41), (1, .ref y1)]) rfl (by first | rfl | decide) (by decide) rfl (dk_X1_start 41 _ rfl) ?_
    refine F_goto (tgt := 28) (by decide) (dk_X1_start 44 _ rfl) ?_
    exact F_loc (List.forall_mem_cons.mpr ⟨(.tail _ (.head _)), (List.forall_mem_cons.mpr ⟨(.tail _ (.tail _ (.head _))), (List.forall_mem_cons.mpr ⟨(.head _), (fun _ z => absurd z List.not_mem_nil)⟩)⟩)⟩) (hK28 _ _ _ (hy1))
theorem j_X1_start_28   : ∀ (F : Nat) (m : mM) (y1 : Nat) (y3 : Int32) (hy1 : isC true 2 y1 = true), JF true uU m_X1_start 5 28 [(0, .ref 41), (1, .ref y1), (3, .int y3)] [] m (f_X1_start_28  F m y1 y3) := by
  intro F
  induction F with
  | zero => intro m y1 y3 hy1; exact F_no
  | succ F ih => intro m y1 y3 hy1; exact jb_X1_start_28  (f_X1_start_28  F)  ih m y1 y3 hy1
def f_X1_start (m : mM) (a1 : Nat) (p2 : Int32) : fR Unit :=
  nmM (wR m 2624 a1) fun m1 => nmM (wI m1 2625 p2) fun m2 => nmM (wI m2 2626 ((mI m2 (64 * a1 + 1)))) fun m3 => nmM (wI m3 2627 ((mI m3 (64 * a1 + 2)))) fun m4 => (f_X1_start_28  1000 m4 a1 0)
theorem c_X1_start (m : mM) (a1 : Nat) (p2 : Int32) (ha1 : isC true 2 a1 = true) : cF true uU m_X1_start 5 [.ref 41, .ref a1, .int p2] m (f_X1_start m a1 p2) := by
  refine cF_of ok_X1_start (fun _ _ => Nat.le_of_ble_eq_true rfl) ?_
  unfold f_X1_start
  show JF _ _ _ _ _ [(0, .ref 41), (1, .ref a1), (2, .int p2)] _ _ _
  refine F_aload_n (i := 0) (a := 0) rfl rfl (dk_X1_start 0 _ rfl) ?_
  refine F_aload_n (i := 1) (a := 1) rfl rfl (dk_X1_start 1 _ rfl) ?_
  refine F_pV (n := 2624) fxX_1_0_41 rfl fl_1_24 (fun q hq => by cases hq; rfl) trivial (dk_X1_start 2 _ rfl) (fun m1 => ?_)
  refine F_aload_n (i := 0) (a := 0) rfl rfl (dk_X1_start 5 _ rfl) ?_
  refine F_iload_n (i := 2) (a := 2) rfl rfl (dk_X1_start 6 _ rfl) ?_
  refine F_pI (n := 2625) fxX_1_1_41 rfl fl_1_28 (fun q hq => by cases hq; rfl) trivial (dk_X1_start 7 _ rfl) (fun m2 => ?_)
  refine F_aload_n (i := 0) (a := 0) rfl rfl (dk_X1_start 10 _ rfl) ?_
  refine F_aload_n (i := 1) (a := 1) rfl rfl (dk_X1_start 11 _ rfl) ?_
  refine F_gI (n := (64 * a1 + 1)) (lyS_1 ha1) rfl fl_1_32 (dk_X1_start 12 _ rfl) ?_
  refine F_pI (n := 2626) fxX_1_2_41 rfl fl_1_37 (fun q hq => by cases hq; rfl) trivial (dk_X1_start 15 _ rfl) (fun m3 => ?_)
  refine F_aload_n (i := 0) (a := 0) rfl rfl (dk_X1_start 18 _ rfl) ?_
  refine F_aload_n (i := 1) (a := 1) rfl rfl (dk_X1_start 19 _ rfl) ?_
  refine F_gI (n := (64 * a1 + 2)) (lyS_2 ha1) rfl fl_1_38 (dk_X1_start 20 _ rfl) ?_
  refine F_pI (n := 2627) fxX_1_3_41 rfl fl_1_41 (fun q hq => by cases hq; rfl) trivial (dk_X1_start 23 _ rfl) (fun m4 => ?_)
  refine F_iconst (v := 0) (by decide) (dk_X1_start 26 _ rfl) ?_
  refine F_istore_n (lv' := [(3, .int 0), (0, .ref 41), (1, .ref a1), (2, .int p2)]) (i := 3) (a := 3) rfl (by decide) rfl (dk_X1_start 27 _ rfl) ?_
  exact F_loc (List.forall_mem_cons.mpr ⟨(.tail _ (.head _)), (List.forall_mem_cons.mpr ⟨(.tail _ (.tail _ (.head _))), (List.forall_mem_cons.mpr ⟨(.head _), (fun _ z => absurd z List.not_mem_nil)⟩)⟩)⟩) (j_X1_start_28   1000 _ _ _ (ha1))
end
end
-- 21b.fun.lean.txt
section
section
set_option maxRecDepth 100000
def f_X1_putOff (m : mM) (p1 : Int32) : fR Int32 :=
  (gA (mA m 44) p1).bind fun x1 => chR true 2 (mR m 2624) fun r2 => (gA (mA m (r2 + 4)) p1).bind fun x3 => (rmI (((x1 - x3) + 12)) 12).bind fun x4 => some (x4, m)
theorem c_X1_putOff (m : mM) (p1 : Int32)  : cF true uI m_X1_putOff 2 [.ref 41, .int p1] m (f_X1_putOff m p1) := by
  refine cF_of ok_X1_putOff (fun _ _ => Nat.le_of_ble_eq_true rfl) ?_
  unfold f_X1_putOff
  show JF _ _ _ _ _ [(0, .ref 41), (1, .int p1)] _ _ _
  refine F_aload_n (i := 0) (a := 0) rfl rfl (dk_X1_putOff 0 _ rfl) ?_
  refine F_gR (b := 44) fxX_1_7_41 fl_1_18 (dk_X1_putOff 1 _ rfl) ?_
  refine F_iload_n (i := 1) (a := 1) rfl rfl (dk_X1_putOff 4 _ rfl) ?_
  refine F_iald (axX_0_44) (dk_X1_putOff 5 _ rfl) (fun x1 => ?_)
  refine F_aload_n (i := 0) (a := 0) rfl rfl (dk_X1_putOff 6 _ rfl) ?_
  refine F_gV (n := 2624) fxX_1_0_41 rfl fl_1_24 (dk_X1_putOff 7 _ rfl) ?_
  refine F_ch (fun r2 hr2 => ?_)
  refine F_gR (b := (r2 + 4)) (lyS_8 hr2).1 fl_1_87 (dk_X1_putOff 10 _ rfl) ?_
  refine F_iload_n (i := 1) (a := 1) rfl rfl (dk_X1_putOff 13 _ rfl) ?_
  refine F_iald ((lyS_8 hr2).2) (dk_X1_putOff 14 _ rfl) (fun x3 => ?_)
  refine F_isub (dk_X1_putOff 15 _ rfl) ?_
  refine F_bipush (v := 12) (by decide) (dk_X1_putOff 16 _ rfl) ?_
  refine F_iadd (dk_X1_putOff 18 _ rfl) ?_
  refine F_bipush (v := 12) (by decide) (dk_X1_putOff 19 _ rfl) ?_
  refine F_irem (dk_X1_putOff 21 _ rfl) (fun x4 => ?_)
  exact F_ret rfl (dk_X1_putOff 22 _ rfl)
def f_X1_valueOf (m : mM) (p1 : Int32) (p2 : Int32) (p3 : Int32) : fR Int32 :=
  (if p1 = 99 then (gA (mA m 45) p3).bind fun x2 => some (x2, m) else if p1 = 100 then some (p3, m) else if p1 = 107 then chR true 2 (mR m 2624) fun r3 => (gA (mA m (r3 + 1)) p2).bind fun x4 => some (x4, m) else if p1 = 112 then some (p2, m) else if p1 = 121 then (rmI (mI m 2627) 10).bind fun x5 => some (x5, m) else chR true 2 (mR m 2624) fun r6 => (gA (mA m (r6 + 3)) p2).bind fun x7 => some (x7, m))
theorem c_X1_valueOf (m : mM) (p1 : Int32) (p2 : Int32) (p3 : Int32)  : cF true uI m_X1_valueOf 2 [.ref 41, .int p1, .int p2, .int p3] m (f_X1_valueOf m p1 p2 p3) := by
  refine cF_of ok_X1_valueOf (fun _ _ => Nat.le_of_ble_eq_true rfl) ?_
  unfold f_X1_valueOf
  show JF _ _ _ _ _ [(0, .ref 41), (1, .int p1), (2, .int p2), (3, .int p3)] _ _ _
  refine F_iload_n (i := 1) (a := 1) rfl rfl (dk_X1_valueOf 0 _ rfl) ?_
  refine F_case (fun c1_0 => ?_) (fun c1_0 => ?_)
  · rw [c1_0]; refine F_look (off := 65) (tgt := 66) (by decide) (by decide) (by decide) (dk_X1_valueOf 1 _ rfl) ?_
    refine F_aload_n (i := 0) (a := 0) rfl rfl (dk_X1_valueOf 66 _ rfl) ?_
    refine F_gR (b := 45) fxX_1_8_41 fl_1_21 (dk_X1_valueOf 67 _ rfl) ?_
    refine F_iload_n (i := 3) (a := 3) rfl rfl (dk_X1_valueOf 70 _ rfl) ?_
    refine F_iald (axX_0_45) (dk_X1_valueOf 71 _ rfl) (fun x2 => ?_)
    exact F_ret rfl (dk_X1_valueOf 72 _ rfl)
  refine F_case (fun c1_1 => ?_) (fun c1_1 => ?_)
  · rw [c1_1]; refine F_look (off := 63) (tgt := 64) (by decide) (by decide) (by decide) (dk_X1_valueOf 1 _ rfl) ?_
    refine F_iload_n (i := 3) (a := 3) rfl rfl (dk_X1_valueOf 64 _ rfl) ?_
    exact F_ret rfl (dk_X1_valueOf 65 _ rfl)
  refine F_case (fun c1_2 => ?_) (fun c1_2 => ?_)
  · rw [c1_2]; refine F_look (off := 53) (tgt := 54) (by decide) (by decide) (by decide) (dk_X1_valueOf 1 _ rfl) ?_
    refine F_aload_n (i := 0) (a := 0) rfl rfl (dk_X1_valueOf 54 _ rfl) ?_
    refine F_gV (n := 2624) fxX_1_0_41 rfl fl_1_24 (dk_X1_valueOf 55 _ rfl) ?_
    refine F_ch (fun r3 hr3 => ?_)
    refine F_gR (b := (r3 + 1)) (lyS_5 hr3).1 fl_1_93 (dk_X1_valueOf 58 _ rfl) ?_
    refine F_iload_n (i := 2) (a := 2) rfl rfl (dk_X1_valueOf 61 _ rfl) ?_
    refine F_iald ((lyS_5 hr3).2) (dk_X1_valueOf 62 _ rfl) (fun x4 => ?_)
    exact F_ret rfl (dk_X1_valueOf 63 _ rfl)
  refine F_case (fun c1_3 => ?_) (fun c1_3 => ?_)
  · rw [c1_3]; refine F_look (off := 51) (tgt := 52) (by decide) (by decide) (by decide) (dk_X1_valueOf 1 _ rfl) ?_
    refine F_iload_n (i := 2) (a := 2) rfl rfl (dk_X1_valueOf 52 _ rfl) ?_
    exact F_ret rfl (dk_X1_valueOf 53 _ rfl)
  refine F_case (fun c1_4 => ?_) (fun c1_4 => ?_)
  · rw [c1_4]; refine F_look (off := 72) (tgt := 73) (by decide) (by decide) (by decide) (dk_X1_valueOf 1 _ rfl) ?_
    refine F_aload_n (i := 0) (a := 0) rfl rfl (dk_X1_valueOf 73 _ rfl) ?_
    refine F_gI (n := 2627) fxX_1_3_41 rfl fl_1_41 (dk_X1_valueOf 74 _ rfl) ?_
    refine F_bipush (v := 10) (by decide) (dk_X1_valueOf 77 _ rfl) ?_
    refine F_irem (dk_X1_valueOf 79 _ rfl) (fun x5 => ?_)
    exact F_ret rfl (dk_X1_valueOf 80 _ rfl)
  refine F_look (off := 80) (tgt := 81) (by decide) (by have q0 := fI_ne c1_0; rw [show (99 : Int32).toInt = 99 from by decide] at q0; have q1 := fI_ne c1_1; rw [show (100 : Int32).toInt = 100 from by decide] at q1; have q2 := fI_ne c1_2; rw [show (107 : Int32).toInt = 107 from by decide] at q2; have q3 := fI_ne c1_3; rw [show (112 : Int32).toInt = 112 from by decide] at q3; have q4 := fI_ne c1_4; rw [show (121 : Int32).toInt = 121 from by decide] at q4; simp [Op.lookupswitch.offset, q0, Ne.symm q0, q1, Ne.symm q1, q2, Ne.symm q2, q3, Ne.symm q3, q4, Ne.symm q4]) (by decide) (dk_X1_valueOf 1 _ rfl) ?_
  refine F_aload_n (i := 0) (a := 0) rfl rfl (dk_X1_valueOf 81 _ rfl) ?_
  refine F_gV (n := 2624) fxX_1_0_41 rfl fl_1_24 (dk_X1_valueOf 82 _ rfl) ?_
  refine F_ch (fun r6 hr6 => ?_)
  refine F_gR (b := (r6 + 3)) (lyS_7 hr6).1 fl_1_49 (dk_X1_valueOf 85 _ rfl) ?_
  refine F_iload_n (i := 2) (a := 2) rfl rfl (dk_X1_valueOf 88 _ rfl) ?_
  refine F_iald ((lyS_7 hr6).2) (dk_X1_valueOf 89 _ rfl) (fun x7 => ?_)
  exact F_ret rfl (dk_X1_valueOf 90 _ rfl)
def f_X1_allows_127 (K6 : mM → Nat → Int32 → Int32 → Int32 → Int32 → Int32 → fR Int32) (m : mM) (y1 : Nat) (y3 : Int32) (y4 : Int32) (y5 : Int32) (y6 : Int32) (y7 : Int32) (y100 : Int32) : fR Int32 :=
  (gA (mA m (y1 + 2)) y7).bind fun x6 => (if y100 = x6 then nmI (((y6 <<< (1 &&& 31)) ||| 1)) fun v8 => (K6 m y1 y3 y4 y5 v8 (y7 + 1)) else nmI (((y6 <<< (1 &&& 31)) ||| 0)) fun v7 => (K6 m y1 y3 y4 y5 v7 (y7 + 1)))
theorem j_X1_allows_127 (K6 : mM → Nat → Int32 → Int32 → Int32 → Int32 → Int32 → fR Int32) (hK6 : ∀ (m : mM) (y1 : Nat) (y3 : Int32) (y4 : Int32) (y5 : Int32) (y6 : Int32) (y7 : Int32) (hy1 : isC true 5 y1 = true), JF true uI m_X1_allows 3 6 [(0, .ref 41), (1, .ref y1), (3, .int y3), (4, .int y4), (5, .int y5), (6, .int y6), (7, .int y7)] [] m (K6 m y1 y3 y4 y5 y6 y7)) (m : mM) (y1 : Nat) (y3 : Int32) (y4 : Int32) (y5 : Int32) (y6 : Int32) (y7 : Int32) (y100 : Int32) (hy1 : isC true 5 y1 = true) : JF true uI m_X1_allows 3 127 [(0, .ref 41), (1, .ref y1), (3, .int y3), (4, .int y4), (5, .int y5), (6, .int y6), (7, .int y7)] [.int y100] m (f_X1_allows_127 K6 m y1 y3 y4 y5 y6 y7 y100) := by
  unfold f_X1_allows_127
  refine F_istore (lv' := [(11, .int y100), (0, .ref 41), (1, .ref y1), (3, .int y3), (4, .int y4), (5, .int y5), (6, .int y6), (7, .int y7)]) (i := 11) (by decide) rfl (dk_X1_allows 127 _ rfl) ?_
  refine F_iload (i := 6) rfl (dk_X1_allows 129 _ rfl) ?_
  refine F_iconst (v := 1) (by decide) (dk_X1_allows 131 _ rfl) ?_
  refine F_ishl (dk_X1_allows 132 _ rfl) ?_
  refine F_iload (i := 11) rfl (dk_X1_allows 133 _ rfl) ?_
  refine F_aload_n (i := 1) (a := 1) rfl rfl (dk_X1_allows 135 _ rfl) ?_
  refine F_gR (b := (y1 + 2)) (lyT_6 hy1).1 fl_1_124 (dk_X1_allows 136 _ rfl) ?_
  refine F_iload (i := 7) rfl (dk_X1_allows 139 _ rfl) ?_
  refine F_iald ((lyT_6 hy1).2) (dk_X1_allows 141 _ rfl) (fun x6 => ?_)
  refine F_icmp_ne (tgt := 149) (by decide) (dk_X1_allows 142 _ rfl) ?_ ?_
  · refine F_iconst (v := 0) (by decide) (dk_X1_allows 149 _ rfl) ?_
    refine F_ior (dk_X1_allows 150 _ rfl) ?_
    refine F_nm (fun v7 => ?_)
    refine F_istore (lv' := [(6, .int v7), (11, .int y100), (0, .ref 41), (1, .ref y1), (3, .int y3), (4, .int y4), (5, .int y5), (7, .int y7)]) (i := 6) (by decide) rfl (dk_X1_allows 151 _ rfl) ?_
    refine F_iinc (i := 7) (n := 1) (v := (y7 + 1)) (lv' := [(7, .int (y7 + 1)), (6, .int v7), (11, .int y100), (0, .ref 41), (1, .ref y1), (3, .int y3), (4, .int y4), (5, .int y5)]) rfl (by first | rfl | decide) (by decide) rfl (dk_X1_allows 153 _ rfl) ?_
    refine F_goto (tgt := 6) (by decide) (dk_X1_allows 156 _ rfl) ?_
    exact F_loc (List.forall_mem_cons.mpr ⟨(.tail _ (.tail _ (.tail _ (.head _)))), (List.forall_mem_cons.mpr ⟨(.tail _ (.tail _ (.tail _ (.tail _ (.head _))))), (List.forall_mem_cons.mpr ⟨(.tail _ (.tail _ (.tail _ (.tail _ (.tail _ (.head _)))))), (List.forall_mem_cons.mpr ⟨(.tail _ (.tail _ (.tail _ (.tail _ (.tail _ (.tail _ (.head _))))))), (List.forall_mem_cons.mpr ⟨(.tail _ (.tail _ (.tail _ (.tail _ (.tail _ (.tail _ (.tail _ (.head _)))))))), (List.forall_mem_cons.mpr ⟨(.tail _ (.head _)), (List.forall_mem_cons.mpr ⟨(.head _), (fun _ z => absurd z List.not_mem_nil)⟩)⟩)⟩)⟩)⟩)⟩)⟩) (hK6 _ _ _ _ _ _ _ (hy1))
  · refine F_iconst (v := 1) (by decide) (dk_X1_allows 145 _ rfl) ?_
    refine F_goto (tgt := 150) (by decide) (dk_X1_allows 146 _ rfl) ?_
    refine F_ior (dk_X1_allows 150 _ rfl) ?_
    refine F_nm (fun v8 => ?_)
    refine F_istore (lv' := [(6, .int v8), (11, .int y100), (0, .ref 41), (1, .ref y1), (3, .int y3), (4, .int y4), (5, .int y5), (7, .int y7)]) (i := 6) (by decide) rfl (dk_X1_allows 151 _ rfl) ?_
    refine F_iinc (i := 7) (n := 1) (v := (y7 + 1)) (lv' := [(7, .int (y7 + 1)), (6, .int v8), (11, .int y100), (0, .ref 41), (1, .ref y1), (3, .int y3), (4, .int y4), (5, .int y5)]) rfl (by first | rfl | decide) (by decide) rfl (dk_X1_allows 153 _ rfl) ?_
    refine F_goto (tgt := 6) (by decide) (dk_X1_allows 156 _ rfl) ?_
    exact F_loc (List.forall_mem_cons.mpr ⟨(.tail _ (.tail _ (.tail _ (.head _)))), (List.forall_mem_cons.mpr ⟨(.tail _ (.tail _ (.tail _ (.tail _ (.head _))))), (List.forall_mem_cons.mpr ⟨(.tail _ (.tail _ (.tail _ (.tail _ (.tail _ (.head _)))))), (List.forall_mem_cons.mpr ⟨(.tail _ (.tail _ (.tail _ (.tail _ (.tail _ (.tail _ (.head _))))))), (List.forall_mem_cons.mpr ⟨(.tail _ (.tail _ (.tail _ (.tail _ (.tail _ (.tail _ (.tail _ (.head _)))))))), (List.forall_mem_cons.mpr ⟨(.tail _ (.head _)), (List.forall_mem_cons.mpr ⟨(.head _), (fun _ z => absurd z List.not_mem_nil)⟩)⟩)⟩)⟩)⟩)⟩)⟩) (hK6 _ _ _ _ _ _ _ (hy1))
def fb_X1_allows_6 (K6 : mM → Nat → Int32 → Int32 → Int32 → Int32 → Int32 → fR Int32) (m : mM) (y1 : Nat) (y3 : Int32) (y4 : Int32) (y5 : Int32) (y6 : Int32) (y7 : Int32) : fR Int32 :=
  (if y3 ≤ y7 then (if (y6 &&& 1) = 1 then some (1, m) else some (0, m)) else (gA (mA m (y1 + 1)) y7).bind fun x1 => (if x1 = 33 then nmI (y6 ^^^ 1) fun v11 => (K6 m y1 y3 y4 y5 v11 (y7 + 1)) else (if x1 = 38 then nmI (((((y6 : Int32).toUInt32 >>> ((1 : Int32).toUInt32 &&& Int32.toUInt32 31)).toInt32) &&& (y6 ||| (-2)))) fun v10 => (K6 m y1 y3 y4 y5 v10 (y7 + 1)) else (if x1 = 124 then nmI (((((y6 : Int32).toUInt32 >>> ((1 : Int32).toUInt32 &&& Int32.toUInt32 31)).toInt32) ||| (y6 &&& 1))) fun v9 => (K6 m y1 y3 y4 y5 v9 (y7 + 1)) else bnd (f_X1_valueOf m x1 y4 y5) fun (x2 : Int32) (m3 : mM) => (gA (mA m3 (y1 + 3)) y7).bind fun x5 => (if x5 ≤ x2 then (if x2 = x5 then (f_X1_allows_127 K6 m3 y1 y3 y4 y5 y6 y7 61) else (f_X1_allows_127 K6 m3 y1 y3 y4 y5 y6 y7 62)) else (f_X1_allows_127 K6 m3 y1 y3 y4 y5 y6 y7 60))))))
def f_X1_allows_6  : Nat → mM → Nat → Int32 → Int32 → Int32 → Int32 → Int32 → fR Int32
  | 0, _, _, _, _, _, _, _ => none
  | F + 1, m, y1, y3, y4, y5, y6, y7 => fb_X1_allows_6  (f_X1_allows_6  F) m y1 y3 y4 y5 y6 y7
theorem jb_X1_allows_6 (K6 : mM → Nat → Int32 → Int32 → Int32 → Int32 → Int32 → fR Int32) (hK6 : ∀ (m : mM) (y1 : Nat) (y3 : Int32) (y4 : Int32) (y5 : Int32) (y6 : Int32) (y7 : Int32) (hy1 : isC true 5 y1 = true), JF true uI m_X1_allows 3 6 [(0, .ref 41), (1, .ref y1), (3, .int y3), (4, .int y4), (5, .int y5), (6, .int y6), (7, .int y7)] [] m (K6 m y1 y3 y4 y5 y6 y7)) (m : mM) (y1 : Nat) (y3 : Int32) (y4 : Int32) (y5 : Int32) (y6 : Int32) (y7 : Int32) (hy1 : isC true 5 y1 = true) : JF true uI m_X1_allows 3 6 [(0, .ref 41), (1, .ref y1), (3, .int y3), (4, .int y4), (5, .int y5), (6, .int y6), (7, .int y7)] [] m (fb_X1_allows_6 K6 m y1 y3 y4 y5 y6 y7) := by
  unfold fb_X1_allows_6
  refine F_iload (i := 7) rfl (dk_X1_allows 6 _ rfl) ?_
  refine F_iload_n (i := 3) (a := 3) rfl rfl (dk_X1_allows 8 _ rfl) ?_
  refine F_icmp_ge (tgt := 159) (by decide) (dk_X1_allows 9 _ rfl) ?_ ?_
  · refine F_iload (i := 6) rfl (dk_X1_allows 159 _ rfl) ?_
    refine F_iconst (v := 1) (by decide) (dk_X1_allows 161 _ rfl) ?_
    refine F_iand (dk_X1_allows 162 _ rfl) ?_
    refine F_iconst (v := 1) (by decide) (dk_X1_allows 163 _ rfl) ?_
    refine F_icmp_ne (tgt := 171) (by decide) (dk_X1_allows 164 _ rfl) ?_ ?_
    · refine F_iconst (v := 0) (by decide) (dk_X1_allows 171 _ rfl) ?_
      exact F_retB rfl (Or.inl rfl) (dk_X1_allows 172 _ rfl)
    · refine F_iconst (v := 1) (by decide) (dk_X1_allows 167 _ rfl) ?_
      refine F_goto (tgt := 172) (by decide) (dk_X1_allows 168 _ rfl) ?_
      exact F_retB rfl (Or.inr rfl) (dk_X1_allows 172 _ rfl)
  · refine F_aload_n (i := 1) (a := 1) rfl rfl (dk_X1_allows 12 _ rfl) ?_
    refine F_gR (b := (y1 + 1)) (lyT_5 hy1).1 fl_1_115 (dk_X1_allows 13 _ rfl) ?_
    refine F_iload (i := 7) rfl (dk_X1_allows 16 _ rfl) ?_
    refine F_iald ((lyT_5 hy1).2) (dk_X1_allows 18 _ rfl) (fun x1 => ?_)
    refine F_istore (lv' := [(8, .int x1), (0, .ref 41), (1, .ref y1), (3, .int y3), (4, .int y4), (5, .int y5), (6, .int y6), (7, .int y7)]) (i := 8) (by decide) rfl (dk_X1_allows 19 _ rfl) ?_
    refine F_iload (i := 8) rfl (dk_X1_allows 21 _ rfl) ?_
    refine F_bipush (v := 33) (by decide) (dk_X1_allows 23 _ rfl) ?_
    refine F_icmp_ne (tgt := 37) (by decide) (dk_X1_allows 25 _ rfl) ?_ ?_
    · refine F_iload (i := 8) rfl (dk_X1_allows 37 _ rfl) ?_
      refine F_bipush (v := 38) (by decide) (dk_X1_allows 39 _ rfl) ?_
      refine F_icmp_ne (tgt := 59) (by decide) (dk_X1_allows 41 _ rfl) ?_ ?_
      · refine F_iload (i := 8) rfl (dk_X1_allows 59 _ rfl) ?_
        refine F_bipush (v := 124) (by decide) (dk_X1_allows 61 _ rfl) ?_
        refine F_icmp_ne (tgt := 80) (by decide) (dk_X1_allows 63 _ rfl) ?_ ?_
        · refine F_aload_n (i := 0) (a := 0) rfl rfl (dk_X1_allows 80 _ rfl) ?_
          refine F_iload (i := 8) rfl (dk_X1_allows 81 _ rfl) ?_
          refine F_iload (i := 4) rfl (dk_X1_allows 83 _ rfl) ?_
          refine F_iload (i := 5) rfl (dk_X1_allows 85 _ rfl) ?_
          refine F_callV (ι' := uI) (ci := 1) (b := 41) (As := [.int x1, .int y4, .int y5]) (d' := 2) (rfl) ok_X1_valueOf vi_X1_valueOf cl_1_118 (n := 3) (by decide +kernel) rfl rfl rfl (Nat.le_of_ble_eq_true rfl) (by omega) (dk_X1_allows 87 _ rfl) (c_X1_valueOf _ _ _ _ ) (fun x2 m3 => ?_)
          show JF _ _ _ _ _ _ [.int x2] _ _
          refine F_istore (lv' := [(9, .int x2), (8, .int x1), (0, .ref 41), (1, .ref y1), (3, .int y3), (4, .int y4), (5, .int y5), (6, .int y6), (7, .int y7)]) (i := 9) (by decide) rfl (dk_X1_allows 90 _ rfl) ?_
          refine F_aload_n (i := 1) (a := 1) rfl rfl (dk_X1_allows 92 _ rfl) ?_
          refine F_gR (b := (y1 + 3)) (lyT_7 hy1).1 fl_1_121 (dk_X1_allows 93 _ rfl) ?_
          refine F_iload (i := 7) rfl (dk_X1_allows 96 _ rfl) ?_
          refine F_iald ((lyT_7 hy1).2) (dk_X1_allows 98 _ rfl) (fun x5 => ?_)
          refine F_istore (lv' := [(10, .int x5), (9, .int x2), (8, .int x1), (0, .ref 41), (1, .ref y1), (3, .int y3), (4, .int y4), (5, .int y5), (6, .int y6), (7, .int y7)]) (i := 10) (by decide) rfl (dk_X1_allows 99 _ rfl) ?_
          refine F_iload (i := 9) rfl (dk_X1_allows 101 _ rfl) ?_
          refine F_iload (i := 10) rfl (dk_X1_allows 103 _ rfl) ?_
          refine F_icmp_ge (tgt := 113) (by decide) (dk_X1_allows 105 _ rfl) ?_ ?_
          · refine F_iload (i := 9) rfl (dk_X1_allows 113 _ rfl) ?_
            refine F_iload (i := 10) rfl (dk_X1_allows 115 _ rfl) ?_
            refine F_icmp_ne (tgt := 125) (by decide) (dk_X1_allows 117 _ rfl) ?_ ?_
            · refine F_bipush (v := 62) (by decide) (dk_X1_allows 125 _ rfl) ?_
              exact F_loc (List.forall_mem_cons.mpr ⟨(.tail _ (.tail _ (.tail _ (.head _)))), (List.forall_mem_cons.mpr ⟨(.tail _ (.tail _ (.tail _ (.tail _ (.head _))))), (List.forall_mem_cons.mpr ⟨(.tail _ (.tail _ (.tail _ (.tail _ (.tail _ (.head _)))))), (List.forall_mem_cons.mpr ⟨(.tail _ (.tail _ (.tail _ (.tail _ (.tail _ (.tail _ (.head _))))))), (List.forall_mem_cons.mpr ⟨(.tail _ (.tail _ (.tail _ (.tail _ (.tail _ (.tail _ (.tail _ (.head _)))))))), (List.forall_mem_cons.mpr ⟨(.tail _ (.tail _ (.tail _ (.tail _ (.tail _ (.tail _ (.tail _ (.tail _ (.head _))))))))), (List.forall_mem_cons.mpr ⟨(.tail _ (.tail _ (.tail _ (.tail _ (.tail _ (.tail _ (.tail _ (.tail _ (.tail _ (.head _)))))))))), (fun _ z => absurd z List.not_mem_nil)⟩)⟩)⟩)⟩)⟩)⟩)⟩) (j_X1_allows_127 K6 hK6 _ _ _ _ _ _ _ _ (hy1))
            · refine F_bipush (v := 61) (by decide) (dk_X1_allows 120 _ rfl) ?_
              refine F_goto (tgt := 127) (by decide) (dk_X1_allows 122 _ rfl) ?_
              exact F_loc (List.forall_mem_cons.mpr ⟨(.tail _ (.tail _ (.tail _ (.head _)))), (List.forall_mem_cons.mpr ⟨(.tail _ (.tail _ (.tail _ (.tail _ (.head _))))), (List.forall_mem_cons.mpr ⟨(.tail _ (.tail _ (.tail _ (.tail _ (.tail _ (.head _)))))), (List.forall_mem_cons.mpr ⟨(.tail _ (.tail _ (.tail _ (.tail _ (.tail _ (.tail _ (.head _))))))), (List.forall_mem_cons.mpr ⟨(.tail _ (.tail _ (.tail _ (.tail _ (.tail _ (.tail _ (.tail _ (.head _)))))))), (List.forall_mem_cons.mpr ⟨(.tail _ (.tail _ (.tail _ (.tail _ (.tail _ (.tail _ (.tail _ (.tail _ (.head _))))))))), (List.forall_mem_cons.mpr ⟨(.tail _ (.tail _ (.tail _ (.tail _ (.tail _ (.tail _ (.tail _ (.tail _ (.tail _ (.head _)))))))))), (fun _ z => absurd z List.not_mem_nil)⟩)⟩)⟩)⟩)⟩)⟩)⟩) (j_X1_allows_127 K6 hK6 _ _ _ _ _ _ _ _ (hy1))
          · refine F_bipush (v := 60) (by decide) (dk_X1_allows 108 _ rfl) ?_
            refine F_goto (tgt := 127) (by decide) (dk_X1_allows 110 _ rfl) ?_
            exact F_loc (List.forall_mem_cons.mpr ⟨(.tail _ (.tail _ (.tail _ (.head _)))), (List.forall_mem_cons.mpr ⟨(.tail _ (.tail _ (.tail _ (.tail _ (.head _))))), (List.forall_mem_cons.mpr ⟨(.tail _ (.tail _ (.tail _ (.tail _ (.tail _ (.head _)))))), (List.forall_mem_cons.mpr ⟨(.tail _ (.tail _ (.tail _ (.tail _ (.tail _ (.tail _ (.head _))))))), (List.forall_mem_cons.mpr ⟨(.tail _ (.tail _ (.tail _ (.tail _ (.tail _ (.tail _ (.tail _ (.head _)))))))), (List.forall_mem_cons.mpr ⟨(.tail _ (.tail _ (.tail _ (.tail _ (.tail _ (.tail _ (.tail _ (.tail _ (.head _))))))))), (List.forall_mem_cons.mpr ⟨(.tail _ (.tail _ (.tail _ (.tail _ (.tail _ (.tail _ (.tail _ (.tail _ (.tail _ (.head _)))))))))), (fun _ z => absurd z List.not_mem_nil)⟩)⟩)⟩)⟩)⟩)⟩)⟩) (j_X1_allows_127 K6 hK6 _ _ _ _ _ _ _ _ (hy1))
        · refine F_iload (i := 6) rfl (dk_X1_allows 66 _ rfl) ?_
          refine F_iconst (v := 1) (by decide) (dk_X1_allows 68 _ rfl) ?_
          refine F_iushr (dk_X1_allows 69 _ rfl) ?_
          refine F_iload (i := 6) rfl (dk_X1_allows 70 _ rfl) ?_
          refine F_iconst (v := 1) (by decide) (dk_X1_allows 72 _ rfl) ?_
          refine F_iand (dk_X1_allows 73 _ rfl) ?_
          refine F_ior (dk_X1_allows 74 _ rfl) ?_
          refine F_nm (fun v9 => ?_)
          refine F_istore (lv' := [(6, .int v9), (8, .int x1), (0, .ref 41), (1, .ref y1), (3, .int y3), (4, .int y4), (5, .int y5), (7, .int y7)]) (i := 6) (by decide) rfl (dk_X1_allows 75 _ rfl) ?_
          refine F_goto (tgt := 153) (by decide) (dk_X1_allows 77 _ rfl) ?_
          refine F_iinc (i := 7) (n := 1) (v := (y7 + 1)) (lv' := [(7, .int (y7 + 1)), (6, .int v9), (8, .int x1), (0, .ref 41), (1, .ref y1), (3, .int y3), (4, .int y4), (5, .int y5)]) rfl (by first | rfl | decide) (by decide) rfl (dk_X1_allows 153 _ rfl) ?_
          refine F_goto (tgt := 6) (by decide) (dk_X1_allows 156 _ rfl) ?_
          exact F_loc (List.forall_mem_cons.mpr ⟨(.tail _ (.tail _ (.tail _ (.head _)))), (List.forall_mem_cons.mpr ⟨(.tail _ (.tail _ (.tail _ (.tail _ (.head _))))), (List.forall_mem_cons.mpr ⟨(.tail _ (.tail _ (.tail _ (.tail _ (.tail _ (.head _)))))), (List.forall_mem_cons.mpr ⟨(.tail _ (.tail _ (.tail _ (.tail _ (.tail _ (.tail _ (.head _))))))), (List.forall_mem_cons.mpr ⟨(.tail _ (.tail _ (.tail _ (.tail _ (.tail _ (.tail _ (.tail _ (.head _)))))))), (List.forall_mem_cons.mpr ⟨(.tail _ (.head _)), (List.forall_mem_cons.mpr ⟨(.head _), (fun _ z => absurd z List.not_mem_nil)⟩)⟩)⟩)⟩)⟩)⟩)⟩) (hK6 _ _ _ _ _ _ _ (hy1))
      · refine F_iload (i := 6) rfl (dk_X1_allows 44 _ rfl) ?_
        refine F_iconst (v := 1) (by decide) (dk_X1_allows 46 _ rfl) ?_
        refine F_iushr (dk_X1_allows 47 _ rfl) ?_
        refine F_iload (i := 6) rfl (dk_X1_allows 48 _ rfl) ?_
        refine F_bipush (v := (-2)) (by decide) (dk_X1_allows 50 _ rfl) ?_
        refine F_ior (dk_X1_allows 52 _ rfl) ?_
        refine F_iand (dk_X1_allows 53 _ rfl) ?_
        refine F_nm (fun v10 => ?_)
        refine F_istore (lv' := [(6, .int v10), (8, .int x1), (0, .ref 41), (1, .ref y1), (3, .int y3), (4, .int y4), (5, .int y5), (7, .int y7)]) (i := 6) (by decide) rfl (dk_X1_allows 54 _ rfl) ?_
        refine F_goto (tgt := 153) (by decide) (dk_X1_allows 56 _ rfl) ?_
        refine F_iinc (i := 7) (n := 1) (v := (y7 + 1)) (lv' := [(7, .int (y7 + 1)), (6, .int v10), (8, .int x1), (0, .ref 41), (1, .ref y1), (3, .int y3), (4, .int y4), (5, .int y5)]) rfl (by first | rfl | decide) (by decide) rfl (dk_X1_allows 153 _ rfl) ?_
        refine F_goto (tgt := 6) (by decide) (dk_X1_allows 156 _ rfl) ?_
        exact F_loc (List.forall_mem_cons.mpr ⟨(.tail _ (.tail _ (.tail _ (.head _)))), (List.forall_mem_cons.mpr ⟨(.tail _ (.tail _ (.tail _ (.tail _ (.head _))))), (List.forall_mem_cons.mpr ⟨(.tail _ (.tail _ (.tail _ (.tail _ (.tail _ (.head _)))))), (List.forall_mem_cons.mpr ⟨(.tail _ (.tail _ (.tail _ (.tail _ (.tail _ (.tail _ (.head _))))))), (List.forall_mem_cons.mpr ⟨(.tail _ (.tail _ (.tail _ (.tail _ (.tail _ (.tail _ (.tail _ (.head _)))))))), (List.forall_mem_cons.mpr ⟨(.tail _ (.head _)), (List.forall_mem_cons.mpr ⟨(.head _), (fun _ z => absurd z List.not_mem_nil)⟩)⟩)⟩)⟩)⟩)⟩)⟩) (hK6 _ _ _ _ _ _ _ (hy1))
    · refine F_iload (i := 6) rfl (dk_X1_allows 28 _ rfl) ?_
      refine F_iconst (v := 1) (by decide) (dk_X1_allows 30 _ rfl) ?_
      refine F_ixor (dk_X1_allows 31 _ rfl) ?_
      refine F_nm (fun v11 => ?_)
      refine F_istore (lv' := [(6, .int v11), (8, .int x1), (0, .ref 41), (1, .ref y1), (3, .int y3), (4, .int y4), (5, .int y5), (7, .int y7)]) (i := 6) (by decide) rfl (dk_X1_allows 32 _ rfl) ?_
      refine F_goto (tgt := 153) (by decide) (dk_X1_allows 34 _ rfl) ?_
      refine F_iinc (i := 7) (n := 1) (v := (y7 + 1)) (lv' := [(7, .int (y7 + 1)), (6, .int v11), (8, .int x1), (0, .ref 41), (1, .ref y1), (3, .int y3), (4, .int y4), (5, .int y5)]) rfl (by first | rfl | decide) (by decide) rfl (dk_X1_allows 153 _ rfl) ?_
      refine F_goto (tgt := 6) (by decide) (dk_X1_allows 156 _ rfl) ?_
      exact F_loc (List.forall_mem_cons.mpr ⟨(.tail _ (.tail _ (.tail _ (.head _)))), (List.forall_mem_cons.mpr ⟨(.tail _ (.tail _ (.tail _ (.tail _ (.head _))))), (List.forall_mem_cons.mpr ⟨(.tail _ (.tail _ (.tail _ (.tail _ (.tail _ (.head _)))))), (List.forall_mem_cons.mpr ⟨(.tail _ (.tail _ (.tail _ (.tail _ (.tail _ (.tail _ (.head _))))))), (List.forall_mem_cons.mpr ⟨(.tail _ (.tail _ (.tail _ (.tail _ (.tail _ (.tail _ (.tail _ (.head _)))))))), (List.forall_mem_cons.mpr ⟨(.tail _ (.head _)), (List.forall_mem_cons.mpr ⟨(.head _), (fun _ z => absurd z List.not_mem_nil)⟩)⟩)⟩)⟩)⟩)⟩)⟩) (hK6 _ _ _ _ _ _ _ (hy1))
theorem j_X1_allows_6   : ∀ (F : Nat) (m : mM) (y1 : Nat) (y3 : Int32) (y4 : Int32) (y5 : Int32) (y6 : Int32) (y7 : Int32) (hy1 : isC true 5 y1 = true), JF true uI m_X1_allows 3 6 [(0, .ref 41), (1, .ref y1), (3, .int y3), (4, .int y4), (5, .int y5), (6, .int y6), (7, .int y7)] [] m (f_X1_allows_6  F m y1 y3 y4 y5 y6 y7) := by
  intro F
  induction F with
  | zero => intro m y1 y3 y4 y5 y6 y7 hy1; exact F_no
  | succ F ih => intro m y1 y3 y4 y5 y6 y7 hy1; exact jb_X1_allows_6  (f_X1_allows_6  F)  ih m y1 y3 y4 y5 y6 y7 hy1
def f_X1_allows (m : mM) (a1 : Nat) (p2 : Int32) (p3 : Int32) (p4 : Int32) (p5 : Int32) : fR Int32 :=
  (f_X1_allows_6  1000 m a1 p3 p4 p5 0 p2)
theorem c_X1_allows (m : mM) (a1 : Nat) (p2 : Int32) (p3 : Int32) (p4 : Int32) (p5 : Int32) (ha1 : isC true 5 a1 = true) : cF true uI m_X1_allows 3 [.ref 41, .ref a1, .int p2, .int p3, .int p4, .int p5] m (f_X1_allows m a1 p2 p3 p4 p5) := by
  refine cF_of ok_X1_allows (fun _ _ => Nat.le_of_ble_eq_true rfl) ?_
  unfold f_X1_allows
  show JF _ _ _ _ _ [(0, .ref 41), (1, .ref a1), (2, .int p2), (3, .int p3), (4, .int p4), (5, .int p5)] _ _ _
  refine F_iconst (v := 0) (by decide) (dk_X1_allows 0 _ rfl) ?_
  refine F_istore (lv' := [(6, .int 0), (0, .ref 41), (1, .ref a1), (2, .int p2), (3, .int p3), (4, .int p4), (5, .int p5)]) (i := 6) (by decide) rfl (dk_X1_allows 1 _ rfl) ?_
  refine F_iload_n (i := 2) (a := 2) rfl rfl (dk_X1_allows 3 _ rfl) ?_
  refine F_istore (lv' := [(7, .int p2), (6, .int 0), (0, .ref 41), (1, .ref a1), (2, .int p2), (3, .int p3), (4, .int p4), (5, .int p5)]) (i := 7) (by decide) rfl (dk_X1_allows 4 _ rfl) ?_
  exact F_loc (List.forall_mem_cons.mpr ⟨(.tail _ (.tail _ (.head _))), (List.forall_mem_cons.mpr ⟨(.tail _ (.tail _ (.tail _ (.head _)))), (List.forall_mem_cons.mpr ⟨(.tail _ (.tail _ (.tail _ (.tail _ (.tail _ (.head _)))))), (List.forall_mem_cons.mpr ⟨(.tail _ (.tail _ (.tail _ (.tail _ (.tail _ (.tail _ (.head _))))))), (List.forall_mem_cons.mpr ⟨(.tail _ (.tail _ (.tail _ (.tail _ (.tail _ (.tail _ (.tail _ (.head _)))))))), (List.forall_mem_cons.mpr ⟨(.tail _ (.head _)), (List.forall_mem_cons.mpr ⟨(.head _), (fun _ z => absurd z List.not_mem_nil)⟩)⟩)⟩)⟩)⟩)⟩)⟩) (j_X1_allows_6   1000 _ _ _ _ _ _ _ (ha1))
def f_X1_takes_67 (K27 : mM → Int32 → Int32 → Nat → Int32 → Int32 → Int32 → fR Int32) (m : mM) (y1 : Int32) (y2 : Int32) (y3 : Nat) (y4 : Int32) (y6 : Int32) : fR Int32 :=
  (gA (mA m (y3 + 5)) y6).bind fun x7 => (K27 m y1 y2 y3 y4 x7 (y6 + 1))
theorem j_X1_takes_67 (K27 : mM → Int32 → Int32 → Nat → Int32 → Int32 → Int32 → fR Int32) (hK27 : ∀ (m : mM) (y1 : Int32) (y2 : Int32) (y3 : Nat) (y4 : Int32) (y5 : Int32) (y6 : Int32) (hy3 : isC true 5 y3 = true), JF true uI m_X1_takes 4 27 [(0, .ref 41), (1, .int y1), (2, .int y2), (3, .ref y3), (4, .int y4), (5, .int y5), (6, .int y6)] [] m (K27 m y1 y2 y3 y4 y5 y6)) (m : mM) (y1 : Int32) (y2 : Int32) (y3 : Nat) (y4 : Int32) (y6 : Int32) (hy3 : isC true 5 y3 = true) : JF true uI m_X1_takes 4 67 [(0, .ref 41), (1, .int y1), (2, .int y2), (3, .ref y3), (4, .int y4), (6, .int y6)] [] m (f_X1_takes_67 K27 m y1 y2 y3 y4 y6) := by
  unfold f_X1_takes_67
  refine F_aload_n (i := 3) (a := 3) rfl rfl (dk_X1_takes 67 _ rfl) ?_
  refine F_gR (b := (y3 + 5)) (lyT_9 hy3).1 fl_1_105 (dk_X1_takes 68 _ rfl) ?_
  refine F_iload (i := 6) rfl (dk_X1_takes 71 _ rfl) ?_
  refine F_iald ((lyT_9 hy3).2) (dk_X1_takes 73 _ rfl) (fun x7 => ?_)
  refine F_istore (lv' := [(5, .int x7), (0, .ref 41), (1, .int y1), (2, .int y2), (3, .ref y3), (4, .int y4), (6, .int y6)]) (i := 5) (by decide) rfl (dk_X1_takes 74 _ rfl) ?_
  refine F_iinc (i := 6) (n := 1) (v := (y6 + 1)) (lv' := [(6, .int (y6 + 1)), (5, .int x7), (0, .ref 41), (1, .int y1), (2, .int y2), (3, .ref y3), (4, .int y4)]) rfl (by first | rfl | decide) (by decide) rfl (dk_X1_takes 76 _ rfl) ?_
  refine F_goto (tgt := 27) (by decide) (dk_X1_takes 79 _ rfl) ?_
  exact F_loc (List.forall_mem_cons.mpr ⟨(.tail _ (.tail _ (.head _))), (List.forall_mem_cons.mpr ⟨(.tail _ (.tail _ (.tail _ (.head _)))), (List.forall_mem_cons.mpr ⟨(.tail _ (.tail _ (.tail _ (.tail _ (.head _))))), (List.forall_mem_cons.mpr ⟨(.tail _ (.tail _ (.tail _ (.tail _ (.tail _ (.head _)))))), (List.forall_mem_cons.mpr ⟨(.tail _ (.tail _ (.tail _ (.tail _ (.tail _ (.tail _ (.head _))))))), (List.forall_mem_cons.mpr ⟨(.tail _ (.head _)), (List.forall_mem_cons.mpr ⟨(.head _), (fun _ z => absurd z List.not_mem_nil)⟩)⟩)⟩)⟩)⟩)⟩)⟩) (hK27 _ _ _ _ _ _ _ (hy3))
def fb_X1_takes_27 (K27 : mM → Int32 → Int32 → Nat → Int32 → Int32 → Int32 → fR Int32) (m : mM) (y1 : Int32) (y2 : Int32) (y3 : Nat) (y4 : Int32) (y5 : Int32) (y6 : Int32) : fR Int32 :=
  (if (mI m (64 * y3 + 3)) ≤ y6 then some ((10 * y4), m) else (gA (mA m (y3 + 5)) y6).bind fun x3 => bnd (f_X1_allows m y3 y5 x3 y1 y2) fun (x4 : Int32) (m5 : mM) => (if x4 = 0 then (f_X1_takes_67 K27 m5 y1 y2 y3 y4 y6) else (gA (mA m5 (y3 + 4)) y6).bind fun x8 => nmI (y4 + x8) fun v9 => (f_X1_takes_67 K27 m5 y1 y2 y3 v9 y6)))
def f_X1_takes_27  : Nat → mM → Int32 → Int32 → Nat → Int32 → Int32 → Int32 → fR Int32
  | 0, _, _, _, _, _, _, _ => none
  | F + 1, m, y1, y2, y3, y4, y5, y6 => fb_X1_takes_27  (f_X1_takes_27  F) m y1 y2 y3 y4 y5 y6
theorem jb_X1_takes_27 (K27 : mM → Int32 → Int32 → Nat → Int32 → Int32 → Int32 → fR Int32) (hK27 : ∀ (m : mM) (y1 : Int32) (y2 : Int32) (y3 : Nat) (y4 : Int32) (y5 : Int32) (y6 : Int32) (hy3 : isC true 5 y3 = true), JF true uI m_X1_takes 4 27 [(0, .ref 41), (1, .int y1), (2, .int y2), (3, .ref y3), (4, .int y4), (5, .int y5), (6, .int y6)] [] m (K27 m y1 y2 y3 y4 y5 y6)) (m : mM) (y1 : Int32) (y2 : Int32) (y3 : Nat) (y4 : Int32) (y5 : Int32) (y6 : Int32) (hy3 : isC true 5 y3 = true) : JF true uI m_X1_takes 4 27 [(0, .ref 41), (1, .int y1), (2, .int y2), (3, .ref y3), (4, .int y4), (5, .int y5), (6, .int y6)] [] m (fb_X1_takes_27 K27 m y1 y2 y3 y4 y5 y6) := by
  unfold fb_X1_takes_27
  refine F_iload (i := 6) rfl (dk_X1_takes 27 _ rfl) ?_
  refine F_aload_n (i := 3) (a := 3) rfl rfl (dk_X1_takes 29 _ rfl) ?_
  refine F_gI (n := (64 * y3 + 3)) (lyT_3 hy3) rfl fl_1_103 (dk_X1_takes 30 _ rfl) ?_
  refine F_icmp_ge (tgt := 82) (by decide) (dk_X1_takes 33 _ rfl) ?_ ?_
  · refine F_bipush (v := 10) (by decide) (dk_X1_takes 82 _ rfl) ?_
    refine F_iload (i := 4) rfl (dk_X1_takes 84 _ rfl) ?_
    refine F_imul (dk_X1_takes 86 _ rfl) ?_
    exact F_ret rfl (dk_X1_takes 87 _ rfl)
  · refine F_aload_n (i := 0) (a := 0) rfl rfl (dk_X1_takes 36 _ rfl) ?_
    refine F_aload_n (i := 3) (a := 3) rfl rfl (dk_X1_takes 37 _ rfl) ?_
    refine F_iload (i := 5) rfl (dk_X1_takes 38 _ rfl) ?_
    refine F_aload_n (i := 3) (a := 3) rfl rfl (dk_X1_takes 40 _ rfl) ?_
    refine F_gR (b := (y3 + 5)) (lyT_9 hy3).1 fl_1_105 (dk_X1_takes 41 _ rfl) ?_
    refine F_iload (i := 6) rfl (dk_X1_takes 44 _ rfl) ?_
    refine F_iald ((lyT_9 hy3).2) (dk_X1_takes 46 _ rfl) (fun x3 => ?_)
    refine F_iload_n (i := 1) (a := 1) rfl rfl (dk_X1_takes 47 _ rfl) ?_
    refine F_iload_n (i := 2) (a := 2) rfl rfl (dk_X1_takes 48 _ rfl) ?_
    refine F_callV (ι' := uI) (ci := 1) (b := 41) (As := [.ref y3, .int y5, .int x3, .int y1, .int y2]) (d' := 3) (rfl) ok_X1_allows vi_X1_allows cl_1_108 (n := 5) (by decide +kernel) rfl rfl rfl (Nat.le_of_ble_eq_true rfl) (by omega) (dk_X1_takes 49 _ rfl) (c_X1_allows _ _ _ _ _ _ (hy3)) (fun x4 m5 => ?_)
    show JF _ _ _ _ _ _ [.int x4] _ _
    refine F_if_eq (tgt := 67) (by decide) (dk_X1_takes 52 _ rfl) ?_ ?_
    · exact F_loc (List.forall_mem_cons.mpr ⟨(.head _), (List.forall_mem_cons.mpr ⟨(.tail _ (.head _)), (List.forall_mem_cons.mpr ⟨(.tail _ (.tail _ (.head _))), (List.forall_mem_cons.mpr ⟨(.tail _ (.tail _ (.tail _ (.head _)))), (List.forall_mem_cons.mpr ⟨(.tail _ (.tail _ (.tail _ (.tail _ (.head _))))), (List.forall_mem_cons.mpr ⟨(.tail _ (.tail _ (.tail _ (.tail _ (.tail _ (.tail _ (.head _))))))), (fun _ z => absurd z List.not_mem_nil)⟩)⟩)⟩)⟩)⟩)⟩) (j_X1_takes_67 K27 hK27 _ _ _ _ _ _ (hy3))
    · refine F_iload (i := 4) rfl (dk_X1_takes 55 _ rfl) ?_
      refine F_aload_n (i := 3) (a := 3) rfl rfl (dk_X1_takes 57 _ rfl) ?_
      refine F_gR (b := (y3 + 4)) (lyT_8 hy3).1 fl_1_112 (dk_X1_takes 58 _ rfl) ?_
      refine F_iload (i := 6) rfl (dk_X1_takes 61 _ rfl) ?_
      refine F_iald ((lyT_8 hy3).2) (dk_X1_takes 63 _ rfl) (fun x8 => ?_)
      refine F_iadd (dk_X1_takes 64 _ rfl) ?_
      refine F_nm (fun v9 => ?_)
      refine F_istore (lv' := [(4, .int v9), (0, .ref 41), (1, .int y1), (2, .int y2), (3, .ref y3), (5, .int y5), (6, .int y6)]) (i := 4) (by decide) rfl (dk_X1_takes 65 _ rfl) ?_
      exact F_loc (List.forall_mem_cons.mpr ⟨(.tail _ (.head _)), (List.forall_mem_cons.mpr ⟨(.tail _ (.tail _ (.head _))), (List.forall_mem_cons.mpr ⟨(.tail _ (.tail _ (.tail _ (.head _)))), (List.forall_mem_cons.mpr ⟨(.tail _ (.tail _ (.tail _ (.tail _ (.head _))))), (List.forall_mem_cons.mpr ⟨(.head _), (List.forall_mem_cons.mpr ⟨(.tail _ (.tail _ (.tail _ (.tail _ (.tail _ (.tail _ (.head _))))))), (fun _ z => absurd z List.not_mem_nil)⟩)⟩)⟩)⟩)⟩)⟩) (j_X1_takes_67 K27 hK27 _ _ _ _ _ _ (hy3))
theorem j_X1_takes_27   : ∀ (F : Nat) (m : mM) (y1 : Int32) (y2 : Int32) (y3 : Nat) (y4 : Int32) (y5 : Int32) (y6 : Int32) (hy3 : isC true 5 y3 = true), JF true uI m_X1_takes 4 27 [(0, .ref 41), (1, .int y1), (2, .int y2), (3, .ref y3), (4, .int y4), (5, .int y5), (6, .int y6)] [] m (f_X1_takes_27  F m y1 y2 y3 y4 y5 y6) := by
  intro F
  induction F with
  | zero => intro m y1 y2 y3 y4 y5 y6 hy3; exact F_no
  | succ F ih => intro m y1 y2 y3 y4 y5 y6 hy3; exact jb_X1_takes_27  (f_X1_takes_27  F)  ih m y1 y2 y3 y4 y5 y6 hy3
def f_X1_takes (m : mM) (p1 : Int32) (p2 : Int32) : fR Int32 :=
  chR true 2 (mR m 2624) fun r1 => chR true 5 (mR m (64 * r1 + 4)) fun r2 => (if (mI m (64 * r2 + 3)) = 0 then some (100, m) else (f_X1_takes_27  1000 m p1 p2 r2 0 0 0))
theorem c_X1_takes (m : mM) (p1 : Int32) (p2 : Int32)  : cF true uI m_X1_takes 4 [.ref 41, .int p1, .int p2] m (f_X1_takes m p1 p2) := by
  refine cF_of ok_X1_takes (fun _ _ => Nat.le_of_ble_eq_true rfl) ?_
  unfold f_X1_takes
  show JF _ _ _ _ _ [(0, .ref 41), (1, .int p1), (2, .int p2)] _ _ _
  refine F_aload_n (i := 0) (a := 0) rfl rfl (dk_X1_takes 0 _ rfl) ?_
  refine F_gV (n := 2624) fxX_1_0_41 rfl fl_1_24 (dk_X1_takes 1 _ rfl) ?_
  refine F_ch (fun r1 hr1 => ?_)
  refine F_gV (n := (64 * r1 + 4)) (lyS_4 hr1) rfl fl_1_68 (dk_X1_takes 4 _ rfl) ?_
  refine F_ch (fun r2 hr2 => ?_)
  refine F_astore_n (lv' := [(3, .ref r2), (0, .ref 41), (1, .int p1), (2, .int p2)]) (i := 3) (a := 3) rfl (by decide) rfl (dk_X1_takes 7 _ rfl) ?_
  refine F_aload_n (i := 3) (a := 3) rfl rfl (dk_X1_takes 8 _ rfl) ?_
  refine F_gI (n := (64 * r2 + 3)) (lyT_3 hr2) rfl fl_1_103 (dk_X1_takes 9 _ rfl) ?_
  refine F_if_ne (tgt := 18) (by decide) (dk_X1_takes 12 _ rfl) ?_ ?_
  · refine F_iconst (v := 0) (by decide) (dk_X1_takes 18 _ rfl) ?_
    refine F_istore (lv' := [(4, .int 0), (3, .ref r2), (0, .ref 41), (1, .int p1), (2, .int p2)]) (i := 4) (by decide) rfl (dk_X1_takes 19 _ rfl) ?_
    refine F_iconst (v := 0) (by decide) (dk_X1_takes 21 _ rfl) ?_
    refine F_istore (lv' := [(5, .int 0), (4, .int 0), (3, .ref r2), (0, .ref 41), (1, .int p1), (2, .int p2)]) (i := 5) (by decide) rfl (dk_X1_takes 22 _ rfl) ?_
    refine F_iconst (v := 0) (by decide) (dk_X1_takes 24 _ rfl) ?_
    refine F_istore (lv' := [(6, .int 0), (5, .int 0), (4, .int 0), (3, .ref r2), (0, .ref 41), (1, .int p1), (2, .int p2)]) (i := 6) (by decide) rfl (dk_X1_takes 25 _ rfl) ?_
    exact F_loc (List.forall_mem_cons.mpr ⟨(.tail _ (.tail _ (.tail _ (.tail _ (.head _))))), (List.forall_mem_cons.mpr ⟨(.tail _ (.tail _ (.tail _ (.tail _ (.tail _ (.head _)))))), (List.forall_mem_cons.mpr ⟨(.tail _ (.tail _ (.tail _ (.tail _ (.tail _ (.tail _ (.head _))))))), (List.forall_mem_cons.mpr ⟨(.tail _ (.tail _ (.tail _ (.head _)))), (List.forall_mem_cons.mpr ⟨(.tail _ (.tail _ (.head _))), (List.forall_mem_cons.mpr ⟨(.tail _ (.head _)), (List.forall_mem_cons.mpr ⟨(.head _), (fun _ z => absurd z List.not_mem_nil)⟩)⟩)⟩)⟩)⟩)⟩)⟩) (j_X1_takes_27   1000 _ _ _ _ _ _ _ (hr2))
  · refine F_bipush (v := 100) (by decide) (dk_X1_takes 15 _ rfl) ?_
    exact F_ret rfl (dk_X1_takes 17 _ rfl)
def f_X1_sell_78 (K7 : mM → Int32 → fR Unit) (m : mM) (y1 : Int32) (y2 : Int32) (y100 : Int32) : fR Unit :=
  (gA (mA m 42) y1).bind fun x10 => chR true 2 (mR m 2624) fun r11 => chR true 5 (mR m (64 * r11 + 4)) fun r12 => bnd (f_X1_putOff m y1) fun (x13 : Int32) (m14 : mM) => (sA 0 m14 42 y1 ((x10 + ((y2 - ((mI m (64 * r12 + 1)) * x13)) - y100)))).bind fun m16 => nmM (wI m16 2628 (((mI m16 2628) + y100))) fun m17 => (K7 m17 (y1 + 1))
theorem j_X1_sell_78 (K7 : mM → Int32 → fR Unit) (hK7 : ∀ (m : mM) (y1 : Int32) , JF true uU m_X1_sell 5 7 [(0, .ref 41), (1, .int y1)] [] m (K7 m y1)) (m : mM) (y1 : Int32) (y2 : Int32) (y100 : Int32)  : JF true uU m_X1_sell 5 78 [(0, .ref 41), (1, .int y1), (2, .int y2)] [.int y100] m (f_X1_sell_78 K7 m y1 y2 y100) := by
  unfold f_X1_sell_78
  refine F_istore_n (lv' := [(3, .int y100), (0, .ref 41), (1, .int y1), (2, .int y2)]) (i := 3) (a := 3) rfl (by decide) rfl (dk_X1_sell 78 _ rfl) ?_
  refine F_aload_n (i := 0) (a := 0) rfl rfl (dk_X1_sell 79 _ rfl) ?_
  refine F_gR (b := 42) fxX_1_5_41 fl_1_9 (dk_X1_sell 80 _ rfl) ?_
  refine F_iload_n (i := 1) (a := 1) rfl rfl (dk_X1_sell 83 _ rfl) ?_
  refine F_dup2 rfl rfl (dk_X1_sell 84 _ rfl) ?_
  refine F_iald (axX_0_42) (dk_X1_sell 85 _ rfl) (fun x10 => ?_)
  refine F_iload_n (i := 2) (a := 2) rfl rfl (dk_X1_sell 86 _ rfl) ?_
  refine F_aload_n (i := 0) (a := 0) rfl rfl (dk_X1_sell 87 _ rfl) ?_
  refine F_gV (n := 2624) fxX_1_0_41 rfl fl_1_24 (dk_X1_sell 88 _ rfl) ?_
  refine F_ch (fun r11 hr11 => ?_)
  refine F_gV (n := (64 * r11 + 4)) (lyS_4 hr11) rfl fl_1_68 (dk_X1_sell 91 _ rfl) ?_
  refine F_ch (fun r12 hr12 => ?_)
  refine F_gI (n := (64 * r12 + 1)) (lyT_1 hr12) rfl fl_1_72 (dk_X1_sell 94 _ rfl) ?_
  refine F_aload_n (i := 0) (a := 0) rfl rfl (dk_X1_sell 97 _ rfl) ?_
  refine F_iload_n (i := 1) (a := 1) rfl rfl (dk_X1_sell 98 _ rfl) ?_
  refine F_callV (ι' := uI) (ci := 1) (b := 41) (As := [.int y1]) (d' := 2) (rfl) ok_X1_putOff vi_X1_putOff cl_1_77 (n := 1) (by decide +kernel) rfl rfl rfl (Nat.le_of_ble_eq_true rfl) (by omega) (dk_X1_sell 99 _ rfl) (c_X1_putOff _ _ ) (fun x13 m14 => ?_)
  show JF _ _ _ _ _ _ [.int x13, .int (mI m (64 * r12 + 1)), .int y2, .int x10, .int y1, .ref 42] _ _
  refine F_imul (dk_X1_sell 102 _ rfl) ?_
  refine F_isub (dk_X1_sell 103 _ rfl) ?_
  refine F_iload_n (i := 3) (a := 3) rfl rfl (dk_X1_sell 104 _ rfl) ?_
  refine F_isub (dk_X1_sell 105 _ rfl) ?_
  refine F_iadd (dk_X1_sell 106 _ rfl) ?_
  refine F_iast (axX_0_42) (dk_X1_sell 107 _ rfl) (fun m16 => ?_)
  refine F_aload_n (i := 0) (a := 0) rfl rfl (dk_X1_sell 108 _ rfl) ?_
  refine F_dup rfl (dk_X1_sell 109 _ rfl) ?_
  refine F_gI (n := 2628) fxX_1_4_41 rfl fl_1_61 (dk_X1_sell 110 _ rfl) ?_
  refine F_iload_n (i := 3) (a := 3) rfl rfl (dk_X1_sell 113 _ rfl) ?_
  refine F_iadd (dk_X1_sell 114 _ rfl) ?_
  refine F_pI (n := 2628) fxX_1_4_41 rfl fl_1_61 (fun q hq => by cases hq; rfl) trivial (dk_X1_sell 115 _ rfl) (fun m17 => ?_)
  refine F_iinc (i := 1) (n := 1) (v := (y1 + 1)) (lv' := [(1, .int (y1 + 1)), (3, .int y100), (0, .ref 41), (2, .int y2)]) rfl (by first | rfl | decide) (by decide) rfl (dk_X1_sell 118 _ rfl) ?_
  refine F_goto (tgt := 7) (by decide) (dk_X1_sell 121 _ rfl) ?_
  exact F_loc (List.forall_mem_cons.mpr ⟨(.tail _ (.tail _ (.head _))), (List.forall_mem_cons.mpr ⟨(.head _), (fun _ z => absurd z List.not_mem_nil)⟩)⟩) (hK7 _ _ )
def fb_X1_sell_7 (K7 : mM → Int32 → fR Unit) (m : mM) (y1 : Int32) : fR Unit :=
  chR true 2 (mR m 2624) fun r2 => (if (mI m (64 * r2 + 0)) ≤ y1 then some ((), m) else chR true 2 (mR m 2624) fun r3 => (gA (mA m (r3 + 6)) y1).bind fun x4 => (if x4 = 0 then (K7 m (y1 + 1)) else (gA (mA m 44) y1).bind fun x5 => (if x5 = (mI m 2626) then bnd (f_X1_takes m y1 (mI m 2626)) fun (x6 : Int32) (m7 : mM) => (gA (mA m7 45) (mI m7 2626)).bind fun x9 => (if x9 ≤ 0 then (f_X1_sell_78 K7 m7 y1 x6 0) else (dvI ((x6 * (mI m7 2625))) 100).bind fun x18 => (f_X1_sell_78 K7 m7 y1 x6 x18)) else (K7 m (y1 + 1)))))
def f_X1_sell_7  : Nat → mM → Int32 → fR Unit
  | 0, _, _ => none
  | F + 1, m, y1 => fb_X1_sell_7  (f_X1_sell_7  F) m y1
theorem jb_X1_sell_7 (K7 : mM → Int32 → fR Unit) (hK7 : ∀ (m : mM) (y1 : Int32) , JF true uU m_X1_sell 5 7 [(0, .ref 41), (1, .int y1)] [] m (K7 m y1)) (m : mM) (y1 : Int32)  : JF true uU m_X1_sell 5 7 [(0, .ref 41), (1, .int y1)] [] m (fb_X1_sell_7 K7 m y1) := by
  unfold fb_X1_sell_7
  refine F_iload_n (i := 1) (a := 1) rfl rfl (dk_X1_sell 7 _ rfl) ?_
  refine F_aload_n (i := 0) (a := 0) rfl rfl (dk_X1_sell 8 _ rfl) ?_
  refine F_gV (n := 2624) fxX_1_0_41 rfl fl_1_24 (dk_X1_sell 9 _ rfl) ?_
  refine F_ch (fun r2 hr2 => ?_)
  refine F_gI (n := (64 * r2 + 0)) (lyS_0 hr2) rfl fl_1_42 (dk_X1_sell 12 _ rfl) ?_
  refine F_icmp_ge (tgt := 124) (by decide) (dk_X1_sell 15 _ rfl) ?_ ?_
  · exact F_retV rfl (dk_X1_sell 124 _ rfl)
  · refine F_aload_n (i := 0) (a := 0) rfl rfl (dk_X1_sell 18 _ rfl) ?_
    refine F_gV (n := 2624) fxX_1_0_41 rfl fl_1_24 (dk_X1_sell 19 _ rfl) ?_
    refine F_ch (fun r3 hr3 => ?_)
    refine F_gR (b := (r3 + 6)) (lyS_10 hr3).1 fl_1_45 (dk_X1_sell 22 _ rfl) ?_
    refine F_iload_n (i := 1) (a := 1) rfl rfl (dk_X1_sell 25 _ rfl) ?_
    refine F_zald ((lyS_10 hr3).2) (dk_X1_sell 26 _ rfl) (fun x4 => ?_)
    refine F_if_eq (tgt := 118) (by decide) (dk_X1_sell 27 _ rfl) ?_ ?_
    · refine F_iinc (i := 1) (n := 1) (v := (y1 + 1)) (lv' := [(1, .int (y1 + 1)), (0, .ref 41)]) rfl (by first | rfl | decide) (by decide) rfl (dk_X1_sell 118 _ rfl) ?_
      refine F_goto (tgt := 7) (by decide) (dk_X1_sell 121 _ rfl) ?_
      exact F_loc (List.forall_mem_cons.mpr ⟨(.tail _ (.head _)), (List.forall_mem_cons.mpr ⟨(.head _), (fun _ z => absurd z List.not_mem_nil)⟩)⟩) (hK7 _ _ )
    · refine F_aload_n (i := 0) (a := 0) rfl rfl (dk_X1_sell 30 _ rfl) ?_
      refine F_gR (b := 44) fxX_1_7_41 fl_1_18 (dk_X1_sell 31 _ rfl) ?_
      refine F_iload_n (i := 1) (a := 1) rfl rfl (dk_X1_sell 34 _ rfl) ?_
      refine F_iald (axX_0_44) (dk_X1_sell 35 _ rfl) (fun x5 => ?_)
      refine F_aload_n (i := 0) (a := 0) rfl rfl (dk_X1_sell 36 _ rfl) ?_
      refine F_gI (n := 2626) fxX_1_2_41 rfl fl_1_37 (dk_X1_sell 37 _ rfl) ?_
      refine F_icmp_ne (tgt := 118) (by decide) (dk_X1_sell 40 _ rfl) ?_ ?_
      · refine F_iinc (i := 1) (n := 1) (v := (y1 + 1)) (lv' := [(1, .int (y1 + 1)), (0, .ref 41)]) rfl (by first | rfl | decide) (by decide) rfl (dk_X1_sell 118 _ rfl) ?_
        refine F_goto (tgt := 7) (by decide) (dk_X1_sell 121 _ rfl) ?_
        exact F_loc (List.forall_mem_cons.mpr ⟨(.tail _ (.head _)), (List.forall_mem_cons.mpr ⟨(.head _), (fun _ z => absurd z List.not_mem_nil)⟩)⟩) (hK7 _ _ )
      · refine F_aload_n (i := 0) (a := 0) rfl rfl (dk_X1_sell 43 _ rfl) ?_
        refine F_iload_n (i := 1) (a := 1) rfl rfl (dk_X1_sell 44 _ rfl) ?_
        refine F_aload_n (i := 0) (a := 0) rfl rfl (dk_X1_sell 45 _ rfl) ?_
        refine F_gI (n := 2626) fxX_1_2_41 rfl fl_1_37 (dk_X1_sell 46 _ rfl) ?_
        refine F_callV (ι' := uI) (ci := 1) (b := 41) (As := [.int y1, .int (mI m 2626)]) (d' := 4) (rfl) ok_X1_takes vi_X1_takes cl_1_64 (n := 2) (by decide +kernel) rfl rfl rfl (Nat.le_of_ble_eq_true rfl) (by omega) (dk_X1_sell 49 _ rfl) (c_X1_takes _ _ _ ) (fun x6 m7 => ?_)
        show JF _ _ _ _ _ _ [.int x6] _ _
        refine F_istore_n (lv' := [(2, .int x6), (0, .ref 41), (1, .int y1)]) (i := 2) (a := 2) rfl (by decide) rfl (dk_X1_sell 52 _ rfl) ?_
        refine F_aload_n (i := 0) (a := 0) rfl rfl (dk_X1_sell 53 _ rfl) ?_
        refine F_gR (b := 45) fxX_1_8_41 fl_1_21 (dk_X1_sell 54 _ rfl) ?_
        refine F_aload_n (i := 0) (a := 0) rfl rfl (dk_X1_sell 57 _ rfl) ?_
        refine F_gI (n := 2626) fxX_1_2_41 rfl fl_1_37 (dk_X1_sell 58 _ rfl) ?_
        refine F_iald (axX_0_45) (dk_X1_sell 61 _ rfl) (fun x9 => ?_)
        refine F_if_le (tgt := 77) (by decide) (dk_X1_sell 62 _ rfl) ?_ ?_
        · refine F_iconst (v := 0) (by decide) (dk_X1_sell 77 _ rfl) ?_
          exact F_loc (List.forall_mem_cons.mpr ⟨(.tail _ (.head _)), (List.forall_mem_cons.mpr ⟨(.tail _ (.tail _ (.head _))), (List.forall_mem_cons.mpr ⟨(.head _), (fun _ z => absurd z List.not_mem_nil)⟩)⟩)⟩) (j_X1_sell_78 K7 hK7 _ _ _ _ )
        · refine F_iload_n (i := 2) (a := 2) rfl rfl (dk_X1_sell 65 _ rfl) ?_
          refine F_aload_n (i := 0) (a := 0) rfl rfl (dk_X1_sell 66 _ rfl) ?_
          refine F_gI (n := 2625) fxX_1_1_41 rfl fl_1_28 (dk_X1_sell 67 _ rfl) ?_
          refine F_imul (dk_X1_sell 70 _ rfl) ?_
          refine F_bipush (v := 100) (by decide) (dk_X1_sell 71 _ rfl) ?_
          refine F_idiv (dk_X1_sell 73 _ rfl) (fun x18 => ?_)
          refine F_goto (tgt := 78) (by decide) (dk_X1_sell 74 _ rfl) ?_
          exact F_loc (List.forall_mem_cons.mpr ⟨(.tail _ (.head _)), (List.forall_mem_cons.mpr ⟨(.tail _ (.tail _ (.head _))), (List.forall_mem_cons.mpr ⟨(.head _), (fun _ z => absurd z List.not_mem_nil)⟩)⟩)⟩) (j_X1_sell_78 K7 hK7 _ _ _ _ )
theorem j_X1_sell_7   : ∀ (F : Nat) (m : mM) (y1 : Int32) , JF true uU m_X1_sell 5 7 [(0, .ref 41), (1, .int y1)] [] m (f_X1_sell_7  F m y1) := by
  intro F
  induction F with
  | zero => intro m y1 ; exact F_no
  | succ F ih => intro m y1 ; exact jb_X1_sell_7  (f_X1_sell_7  F)  ih m y1 
def f_X1_sell (m : mM)  : fR Unit :=
  nmM (wI m 2628 0) fun m1 => (f_X1_sell_7  1000 m1 0)
theorem c_X1_sell (m : mM)   : cF true uU m_X1_sell 5 [.ref 41] m (f_X1_sell m ) := by
  refine cF_of ok_X1_sell (fun _ _ => Nat.le_of_ble_eq_true rfl) ?_
  unfold f_X1_sell
  show JF _ _ _ _ _ [(0, .ref 41)] _ _ _
  refine F_aload_n (i := 0) (a := 0) rfl rfl (dk_X1_sell 0 _ rfl) ?_
  refine F_iconst (v := 0) (by decide) (dk_X1_sell 1 _ rfl) ?_
  refine F_pI (n := 2628) fxX_1_4_41 rfl fl_1_61 (fun q hq => by cases hq; rfl) trivial (dk_X1_sell 2 _ rfl) (fun m1 => ?_)
  refine F_iconst (v := 0) (by decide) (dk_X1_sell 5 _ rfl) ?_
  refine F_istore_n (lv' := [(1, .int 0), (0, .ref 41)]) (i := 1) (a := 1) rfl (by decide) rfl (dk_X1_sell 6 _ rfl) ?_
  exact F_loc (List.forall_mem_cons.mpr ⟨(.tail _ (.head _)), (List.forall_mem_cons.mpr ⟨(.head _), (fun _ z => absurd z List.not_mem_nil)⟩)⟩) (j_X1_sell_7   1000 _ _ )
def fb_X1_share_32 (K32 : mM → Int32 → Int32 → Int32 → fR Unit) (m : mM) (y2 : Int32) (y3 : Int32) (y4 : Int32) : fR Unit :=
  chR true 2 (mR m 2624) fun r4 => (if (mI m (64 * r4 + 0)) ≤ y4 then some ((), m) else chR true 2 (mR m 2624) fun r5 => (gA (mA m (r5 + 6)) y4).bind fun x6 => (if x6 = 0 then (K32 m y2 y3 (y4 + 1)) else chR true 2 (mR m 2624) fun r7 => (gA (mA m (r7 + 3)) y4).bind fun x8 => (if x8 = (mI m 2626) then (gA (mA m 42) y4).bind fun x9 => (sA 0 m 42 y4 ((x9 + (y2 + y3)))).bind fun m10 => (gA (mA m10 43) y4).bind fun x11 => (sA 0 m10 43 y4 ((x11 + (y2 + y3)))).bind fun m12 => (K32 m12 y2 0 (y4 + 1)) else (K32 m y2 y3 (y4 + 1)))))
def f_X1_share_32  : Nat → mM → Int32 → Int32 → Int32 → fR Unit
  | 0, _, _, _, _ => none
  | F + 1, m, y2, y3, y4 => fb_X1_share_32  (f_X1_share_32  F) m y2 y3 y4
theorem jb_X1_share_32 (K32 : mM → Int32 → Int32 → Int32 → fR Unit) (hK32 : ∀ (m : mM) (y2 : Int32) (y3 : Int32) (y4 : Int32) , JF true uU m_X1_share 2 32 [(0, .ref 41), (2, .int y2), (3, .int y3), (4, .int y4)] [] m (K32 m y2 y3 y4)) (m : mM) (y2 : Int32) (y3 : Int32) (y4 : Int32)  : JF true uU m_X1_share 2 32 [(0, .ref 41), (2, .int y2), (3, .int y3), (4, .int y4)] [] m (fb_X1_share_32 K32 m y2 y3 y4) := by
  unfold fb_X1_share_32
  refine F_iload (i := 4) rfl (dk_X1_share 32 _ rfl) ?_
  refine F_aload_n (i := 0) (a := 0) rfl rfl (dk_X1_share 34 _ rfl) ?_
  refine F_gV (n := 2624) fxX_1_0_41 rfl fl_1_24 (dk_X1_share 35 _ rfl) ?_
  refine F_ch (fun r4 hr4 => ?_)
  refine F_gI (n := (64 * r4 + 0)) (lyS_0 hr4) rfl fl_1_42 (dk_X1_share 38 _ rfl) ?_
  refine F_icmp_ge (tgt := 108) (by decide) (dk_X1_share 41 _ rfl) ?_ ?_
  · exact F_retV rfl (dk_X1_share 108 _ rfl)
  · refine F_aload_n (i := 0) (a := 0) rfl rfl (dk_X1_share 44 _ rfl) ?_
    refine F_gV (n := 2624) fxX_1_0_41 rfl fl_1_24 (dk_X1_share 45 _ rfl) ?_
    refine F_ch (fun r5 hr5 => ?_)
    refine F_gR (b := (r5 + 6)) (lyS_10 hr5).1 fl_1_45 (dk_X1_share 48 _ rfl) ?_
    refine F_iload (i := 4) rfl (dk_X1_share 51 _ rfl) ?_
    refine F_zald ((lyS_10 hr5).2) (dk_X1_share 53 _ rfl) (fun x6 => ?_)
    refine F_if_eq (tgt := 102) (by decide) (dk_X1_share 54 _ rfl) ?_ ?_
    · refine F_iinc (i := 4) (n := 1) (v := (y4 + 1)) (lv' := [(4, .int (y4 + 1)), (0, .ref 41), (2, .int y2), (3, .int y3)]) rfl (by first | rfl | decide) (by decide) rfl (dk_X1_share 102 _ rfl) ?_
      refine F_goto (tgt := 32) (by decide) (dk_X1_share 105 _ rfl) ?_
      exact F_loc (List.forall_mem_cons.mpr ⟨(.tail _ (.head _)), (List.forall_mem_cons.mpr ⟨(.tail _ (.tail _ (.head _))), (List.forall_mem_cons.mpr ⟨(.tail _ (.tail _ (.tail _ (.head _)))), (List.forall_mem_cons.mpr ⟨(.head _), (fun _ z => absurd z List.not_mem_nil)⟩)⟩)⟩)⟩) (hK32 _ _ _ _ )
    · refine F_aload_n (i := 0) (a := 0) rfl rfl (dk_X1_share 57 _ rfl) ?_
      refine F_gV (n := 2624) fxX_1_0_41 rfl fl_1_24 (dk_X1_share 58 _ rfl) ?_
      refine F_ch (fun r7 hr7 => ?_)
      refine F_gR (b := (r7 + 3)) (lyS_7 hr7).1 fl_1_49 (dk_X1_share 61 _ rfl) ?_
      refine F_iload (i := 4) rfl (dk_X1_share 64 _ rfl) ?_
      refine F_iald ((lyS_7 hr7).2) (dk_X1_share 66 _ rfl) (fun x8 => ?_)
      refine F_aload_n (i := 0) (a := 0) rfl rfl (dk_X1_share 67 _ rfl) ?_
      refine F_gI (n := 2626) fxX_1_2_41 rfl fl_1_37 (dk_X1_share 68 _ rfl) ?_
      refine F_icmp_ne (tgt := 102) (by decide) (dk_X1_share 71 _ rfl) ?_ ?_
      · refine F_iinc (i := 4) (n := 1) (v := (y4 + 1)) (lv' := [(4, .int (y4 + 1)), (0, .ref 41), (2, .int y2), (3, .int y3)]) rfl (by first | rfl | decide) (by decide) rfl (dk_X1_share 102 _ rfl) ?_
        refine F_goto (tgt := 32) (by decide) (dk_X1_share 105 _ rfl) ?_
        exact F_loc (List.forall_mem_cons.mpr ⟨(.tail _ (.head _)), (List.forall_mem_cons.mpr ⟨(.tail _ (.tail _ (.head _))), (List.forall_mem_cons.mpr ⟨(.tail _ (.tail _ (.tail _ (.head _)))), (List.forall_mem_cons.mpr ⟨(.head _), (fun _ z => absurd z List.not_mem_nil)⟩)⟩)⟩)⟩) (hK32 _ _ _ _ )
      · refine F_aload_n (i := 0) (a := 0) rfl rfl (dk_X1_share 74 _ rfl) ?_
        refine F_gR (b := 42) fxX_1_5_41 fl_1_9 (dk_X1_share 75 _ rfl) ?_
        refine F_iload (i := 4) rfl (dk_X1_share 78 _ rfl) ?_
        refine F_dup2 rfl rfl (dk_X1_share 80 _ rfl) ?_
        refine F_iald (axX_0_42) (dk_X1_share 81 _ rfl) (fun x9 => ?_)
        refine F_iload_n (i := 2) (a := 2) rfl rfl (dk_X1_share 82 _ rfl) ?_
        refine F_iload_n (i := 3) (a := 3) rfl rfl (dk_X1_share 83 _ rfl) ?_
        refine F_iadd (dk_X1_share 84 _ rfl) ?_
        refine F_iadd (dk_X1_share 85 _ rfl) ?_
        refine F_iast (axX_0_42) (dk_X1_share 86 _ rfl) (fun m10 => ?_)
        refine F_aload_n (i := 0) (a := 0) rfl rfl (dk_X1_share 87 _ rfl) ?_
        refine F_gR (b := 43) fxX_1_6_41 fl_1_15 (dk_X1_share 88 _ rfl) ?_
        refine F_iload (i := 4) rfl (dk_X1_share 91 _ rfl) ?_
        refine F_dup2 rfl rfl (dk_X1_share 93 _ rfl) ?_
        refine F_iald (axX_0_43) (dk_X1_share 94 _ rfl) (fun x11 => ?_)
        refine F_iload_n (i := 2) (a := 2) rfl rfl (dk_X1_share 95 _ rfl) ?_
        refine F_iload_n (i := 3) (a := 3) rfl rfl (dk_X1_share 96 _ rfl) ?_
        refine F_iadd (dk_X1_share 97 _ rfl) ?_
        refine F_iadd (dk_X1_share 98 _ rfl) ?_
        refine F_iast (axX_0_43) (dk_X1_share 99 _ rfl) (fun m12 => ?_)
        refine F_iconst (v := 0) (by decide) (dk_X1_share 100 _ rfl) ?_
        refine F_istore_n (lv' := [(3, .int 0), (0, .ref 41), (2, .int y2), (4, .int y4)]) (i := 3) (a := 3) rfl (by decide) rfl (dk_X1_share 101 _ rfl) ?_
        refine F_iinc (i := 4) (n := 1) (v := (y4 + 1)) (lv' := [(4, .int (y4 + 1)), (3, .int 0), (0, .ref 41), (2, .int y2)]) rfl (by first | rfl | decide) (by decide) rfl (dk_X1_share 102 _ rfl) ?_
        refine F_goto (tgt := 32) (by decide) (dk_X1_share 105 _ rfl) ?_
        exact F_loc (List.forall_mem_cons.mpr ⟨(.tail _ (.tail _ (.head _))), (List.forall_mem_cons.mpr ⟨(.tail _ (.tail _ (.tail _ (.head _)))), (List.forall_mem_cons.mpr ⟨(.tail _ (.head _)), (List.forall_mem_cons.mpr ⟨(.head _), (fun _ z => absurd z List.not_mem_nil)⟩)⟩)⟩)⟩) (hK32 _ _ _ _ )
theorem j_X1_share_32   : ∀ (F : Nat) (m : mM) (y2 : Int32) (y3 : Int32) (y4 : Int32) , JF true uU m_X1_share 2 32 [(0, .ref 41), (2, .int y2), (3, .int y3), (4, .int y4)] [] m (f_X1_share_32  F m y2 y3 y4) := by
  intro F
  induction F with
  | zero => intro m y2 y3 y4 ; exact F_no
  | succ F ih => intro m y2 y3 y4 ; exact jb_X1_share_32  (f_X1_share_32  F)  ih m y2 y3 y4 
def f_X1_share (m : mM)  : fR Unit :=
  (gA (mA m 45) (mI m 2626)).bind fun x1 => (if x1 = 0 then some ((), m) else (dvI (mI m 2628) x1).bind fun x2 => (rmI (mI m 2628) x1).bind fun x3 => (f_X1_share_32  1000 m x2 x3 0))
theorem c_X1_share (m : mM)   : cF true uU m_X1_share 2 [.ref 41] m (f_X1_share m ) := by
  refine cF_of ok_X1_share (fun _ _ => Nat.le_of_ble_eq_true rfl) ?_
  unfold f_X1_share
  show JF _ _ _ _ _ [(0, .ref 41)] _ _ _
  refine F_aload_n (i := 0) (a := 0) rfl rfl (dk_X1_share 0 _ rfl) ?_
  refine F_gR (b := 45) fxX_1_8_41 fl_1_21 (dk_X1_share 1 _ rfl) ?_
  refine F_aload_n (i := 0) (a := 0) rfl rfl (dk_X1_share 4 _ rfl) ?_
  refine F_gI (n := 2626) fxX_1_2_41 rfl fl_1_37 (dk_X1_share 5 _ rfl) ?_
  refine F_iald (axX_0_45) (dk_X1_share 8 _ rfl) (fun x1 => ?_)
  refine F_istore_n (lv' := [(1, .int x1), (0, .ref 41)]) (i := 1) (a := 1) rfl (by decide) rfl (dk_X1_share 9 _ rfl) ?_
  refine F_iload_n (i := 1) (a := 1) rfl rfl (dk_X1_share 10 _ rfl) ?_
  refine F_if_ne (tgt := 15) (by decide) (dk_X1_share 11 _ rfl) ?_ ?_
  · refine F_aload_n (i := 0) (a := 0) rfl rfl (dk_X1_share 15 _ rfl) ?_
    refine F_gI (n := 2628) fxX_1_4_41 rfl fl_1_61 (dk_X1_share 16 _ rfl) ?_
    refine F_iload_n (i := 1) (a := 1) rfl rfl (dk_X1_share 19 _ rfl) ?_
    refine F_idiv (dk_X1_share 20 _ rfl) (fun x2 => ?_)
    refine F_istore_n (lv' := [(2, .int x2), (1, .int x1), (0, .ref 41)]) (i := 2) (a := 2) rfl (by decide) rfl (dk_X1_share 21 _ rfl) ?_
    refine F_aload_n (i := 0) (a := 0) rfl rfl (dk_X1_share 22 _ rfl) ?_
    refine F_gI (n := 2628) fxX_1_4_41 rfl fl_1_61 (dk_X1_share 23 _ rfl) ?_
    refine F_iload_n (i := 1) (a := 1) rfl rfl (dk_X1_share 26 _ rfl) ?_
    refine F_irem (dk_X1_share 27 _ rfl) (fun x3 => ?_)
    refine F_istore_n (lv' := [(3, .int x3), (2, .int x2), (1, .int x1), (0, .ref 41)]) (i := 3) (a := 3) rfl (by decide) rfl (dk_X1_share 28 _ rfl) ?_
    refine F_iconst (v := 0) (by decide) (dk_X1_share 29 _ rfl) ?_
    refine F_istore (lv' := [(4, .int 0), (3, .int x3), (2, .int x2), (1, .int x1), (0, .ref 41)]) (i := 4) (by decide) rfl (dk_X1_share 30 _ rfl) ?_
    exact F_loc (List.forall_mem_cons.mpr ⟨(.tail _ (.tail _ (.tail _ (.tail _ (.head _))))), (List.forall_mem_cons.mpr ⟨(.tail _ (.tail _ (.head _))), (List.forall_mem_cons.mpr ⟨(.tail _ (.head _)), (List.forall_mem_cons.mpr ⟨(.head _), (fun _ z => absurd z List.not_mem_nil)⟩)⟩)⟩)⟩) (j_X1_share_32   1000 _ _ _ _ )
  · exact F_retV rfl (dk_X1_share 14 _ rfl)
def fb_X1_go_2 (K2 : mM → Int32 → Int32 → fR Unit) (m : mM) (y1 : Int32) (y2 : Int32) : fR Unit :=
  (if y1 ≤ y2 then some ((), m) else bnd (f_X1_sell m ) fun (x1 : Unit) (m2 : mM) => bnd (f_X1_share m2 ) fun (x4 : Unit) (m5 : mM) => nmM (wI m5 2626 (((mI m5 2626) + 1))) fun m7 => (if (mI m7 2626) < 12 then (K2 m7 y1 (y2 + 1)) else nmM (wI m7 2626 0) fun m8 => nmM (wI m8 2627 (((mI m8 2627) + 1))) fun m9 => bnd (f_X1_beginYear m9 ) fun (x10 : Unit) (m11 : mM) => (K2 m11 y1 (y2 + 1))))
def f_X1_go_2  : Nat → mM → Int32 → Int32 → fR Unit
  | 0, _, _, _ => none
  | F + 1, m, y1, y2 => fb_X1_go_2  (f_X1_go_2  F) m y1 y2
theorem jb_X1_go_2 (K2 : mM → Int32 → Int32 → fR Unit) (hK2 : ∀ (m : mM) (y1 : Int32) (y2 : Int32) , JF true uU m_X1_go 6 2 [(0, .ref 41), (1, .int y1), (2, .int y2)] [] m (K2 m y1 y2)) (m : mM) (y1 : Int32) (y2 : Int32)  : JF true uU m_X1_go 6 2 [(0, .ref 41), (1, .int y1), (2, .int y2)] [] m (fb_X1_go_2 K2 m y1 y2) := by
  unfold fb_X1_go_2
  refine F_iload_n (i := 2) (a := 2) rfl rfl (dk_X1_go 2 _ rfl) ?_
  refine F_iload_n (i := 1) (a := 1) rfl rfl (dk_X1_go 3 _ rfl) ?_
  refine F_icmp_ge (tgt := 59) (by decide) (dk_X1_go 4 _ rfl) ?_ ?_
  · exact F_retV rfl (dk_X1_go 59 _ rfl)
  · refine F_aload_n (i := 0) (a := 0) rfl rfl (dk_X1_go 7 _ rfl) ?_
    refine F_callV (ι' := uU) (ci := 1) (b := 41) (As := []) (d' := 5) (rfl) ok_X1_sell vi_X1_sell cl_1_55 (n := 0) (by decide +kernel) rfl rfl rfl (Nat.le_of_ble_eq_true rfl) (by omega) (dk_X1_go 8 _ rfl) (c_X1_sell _  ) (fun x1 m2 => ?_)
    show JF _ _ _ _ _ _ [] _ _
    refine F_aload_n (i := 0) (a := 0) rfl rfl (dk_X1_go 11 _ rfl) ?_
    refine F_callV (ι' := uU) (ci := 1) (b := 41) (As := []) (d' := 2) (rfl) ok_X1_share vi_X1_share cl_1_58 (n := 0) (by decide +kernel) rfl rfl rfl (Nat.le_of_ble_eq_true rfl) (by omega) (dk_X1_go 12 _ rfl) (c_X1_share _  ) (fun x4 m5 => ?_)
    show JF _ _ _ _ _ _ [] _ _
    refine F_aload_n (i := 0) (a := 0) rfl rfl (dk_X1_go 15 _ rfl) ?_
    refine F_dup rfl (dk_X1_go 16 _ rfl) ?_
    refine F_gI (n := 2626) fxX_1_2_41 rfl fl_1_37 (dk_X1_go 17 _ rfl) ?_
    refine F_iconst (v := 1) (by decide) (dk_X1_go 20 _ rfl) ?_
    refine F_iadd (dk_X1_go 21 _ rfl) ?_
    refine F_pI (n := 2626) fxX_1_2_41 rfl fl_1_37 (fun q hq => by cases hq; rfl) trivial (dk_X1_go 22 _ rfl) (fun m7 => ?_)
    refine F_aload_n (i := 0) (a := 0) rfl rfl (dk_X1_go 25 _ rfl) ?_
    refine F_gI (n := 2626) fxX_1_2_41 rfl fl_1_37 (dk_X1_go 26 _ rfl) ?_
    refine F_bipush (v := 12) (by decide) (dk_X1_go 29 _ rfl) ?_
    refine F_icmp_lt (tgt := 53) (by decide) (dk_X1_go 31 _ rfl) ?_ ?_
    · refine F_iinc (i := 2) (n := 1) (v := (y2 + 1)) (lv' := [(2, .int (y2 + 1)), (0, .ref 41), (1, .int y1)]) rfl (by first | rfl | decide) (by decide) rfl (dk_X1_go 53 _ rfl) ?_
      refine F_goto (tgt := 2) (by decide) (dk_X1_go 56 _ rfl) ?_
      exact F_loc (List.forall_mem_cons.mpr ⟨(.tail _ (.head _)), (List.forall_mem_cons.mpr ⟨(.tail _ (.tail _ (.head _))), (List.forall_mem_cons.mpr ⟨(.head _), (fun _ z => absurd z List.not_mem_nil)⟩)⟩)⟩) (hK2 _ _ _ )
    · refine F_aload_n (i := 0) (a := 0) rfl rfl (dk_X1_go 34 _ rfl) ?_
      refine F_iconst (v := 0) (by decide) (dk_X1_go 35 _ rfl) ?_
      refine F_pI (n := 2626) fxX_1_2_41 rfl fl_1_37 (fun q hq => by cases hq; rfl) trivial (dk_X1_go 36 _ rfl) (fun m8 => ?_)
      refine F_aload_n (i := 0) (a := 0) rfl rfl (dk_X1_go 39 _ rfl) ?_
      refine F_dup rfl (dk_X1_go 40 _ rfl) ?_
      refine F_gI (n := 2627) fxX_1_3_41 rfl fl_1_41 (dk_X1_go 41 _ rfl) ?_
      refine F_iconst (v := 1) (by decide) (dk_X1_go 44 _ rfl) ?_
      refine F_iadd (dk_X1_go 45 _ rfl) ?_
      refine F_pI (n := 2627) fxX_1_3_41 rfl fl_1_41 (fun q hq => by cases hq; rfl) trivial (dk_X1_go 46 _ rfl) (fun m9 => ?_)
      refine F_aload_n (i := 0) (a := 0) rfl rfl (dk_X1_go 49 _ rfl) ?_
      refine F_callV (ι' := uU) (ci := 1) (b := 41) (As := []) (d' := 4) (rfl) ok_X1_beginYear vi_X1_beginYear cl_1_52 (n := 0) (by decide +kernel) rfl rfl rfl (Nat.le_of_ble_eq_true rfl) (by omega) (dk_X1_go 50 _ rfl) (c_X1_beginYear _  ) (fun x10 m11 => ?_)
      show JF _ _ _ _ _ _ [] _ _
      refine F_iinc (i := 2) (n := 1) (v := (y2 + 1)) (lv' := [(2, .int (y2 + 1)), (0, .ref 41), (1, .int y1)]) rfl (by first | rfl | decide) (by decide) rfl (dk_X1_go 53 _ rfl) ?_
      refine F_goto (tgt := 2) (by decide) (dk_X1_go 56 _ rfl) ?_
      exact F_loc (List.forall_mem_cons.mpr ⟨(.tail _ (.head _)), (List.forall_mem_cons.mpr ⟨(.tail _ (.tail _ (.head _))), (List.forall_mem_cons.mpr ⟨(.head _), (fun _ z => absurd z List.not_mem_nil)⟩)⟩)⟩) (hK2 _ _ _ )
theorem j_X1_go_2   : ∀ (F : Nat) (m : mM) (y1 : Int32) (y2 : Int32) , JF true uU m_X1_go 6 2 [(0, .ref 41), (1, .int y1), (2, .int y2)] [] m (f_X1_go_2  F m y1 y2) := by
  intro F
  induction F with
  | zero => intro m y1 y2 ; exact F_no
  | succ F ih => intro m y1 y2 ; exact jb_X1_go_2  (f_X1_go_2  F)  ih m y1 y2 
def f_X1_go (m : mM) (p1 : Int32) : fR Unit :=
  (f_X1_go_2  1000 m p1 0)
theorem c_X1_go (m : mM) (p1 : Int32)  : cF true uU m_X1_go 6 [.ref 41, .int p1] m (f_X1_go m p1) := by
  refine cF_of ok_X1_go (fun _ _ => Nat.le_of_ble_eq_true rfl) ?_
  unfold f_X1_go
  show JF _ _ _ _ _ [(0, .ref 41), (1, .int p1)] _ _ _
  refine F_iconst (v := 0) (by decide) (dk_X1_go 0 _ rfl) ?_
  refine F_istore_n (lv' := [(2, .int 0), (0, .ref 41), (1, .int p1)]) (i := 2) (a := 2) rfl (by decide) rfl (dk_X1_go 1 _ rfl) ?_
  exact F_loc (List.forall_mem_cons.mpr ⟨(.tail _ (.head _)), (List.forall_mem_cons.mpr ⟨(.tail _ (.tail _ (.head _))), (List.forall_mem_cons.mpr ⟨(.head _), (fun _ z => absurd z List.not_mem_nil)⟩)⟩)⟩) (j_X1_go_2   1000 _ _ _ )
end
end
-- 21c.fun.lean.txt
section
section
set_option maxRecDepth 100000
def fb_X2_add_74 (K74 : mM → Nat → Int32 → fR Unit) (m : mM) (y0 : Nat) (y5 : Int32) : fR Unit :=
  (if 4 ≤ y5 then nmM (wI m (64 * y0 + 0) (((mI m (64 * y0 + 0)) + 1))) fun m7 => some ((), m7) else (sA 0 m (y0 + 7) ((((mI m (64 * y0 + 0)) * 4) + y5)) 0).bind fun m8 => (K74 m8 y0 (y5 + 1)))
def f_X2_add_74  : Nat → mM → Nat → Int32 → fR Unit
  | 0, _, _, _ => none
  | F + 1, m, y0, y5 => fb_X2_add_74  (f_X2_add_74  F) m y0 y5
theorem jb_X2_add_74 (K74 : mM → Nat → Int32 → fR Unit) (hK74 : ∀ (m : mM) (y0 : Nat) (y5 : Int32) (hy0 : isC true 2 y0 = true), JF true uU m_X2_add 2 74 [(0, .ref y0), (5, .int y5)] [] m (K74 m y0 y5)) (m : mM) (y0 : Nat) (y5 : Int32) (hy0 : isC true 2 y0 = true) : JF true uU m_X2_add 2 74 [(0, .ref y0), (5, .int y5)] [] m (fb_X2_add_74 K74 m y0 y5) := by
  unfold fb_X2_add_74
  refine F_iload (i := 5) rfl (dk_X2_add 74 _ rfl) ?_
  refine F_iconst (v := 4) (by decide) (dk_X2_add 76 _ rfl) ?_
  refine F_icmp_ge (tgt := 101) (by decide) (dk_X2_add 77 _ rfl) ?_ ?_
  · refine F_aload_n (i := 0) (a := 0) rfl rfl (dk_X2_add 101 _ rfl) ?_
    refine F_dup rfl (dk_X2_add 102 _ rfl) ?_
    refine F_gI (n := (64 * y0 + 0)) (lyS_0 hy0) rfl fl_2_41 (dk_X2_add 103 _ rfl) ?_
    refine F_iconst (v := 1) (by decide) (dk_X2_add 106 _ rfl) ?_
    refine F_iadd (dk_X2_add 107 _ rfl) ?_
    refine F_pI (n := (64 * y0 + 0)) (lyS_0 hy0) rfl fl_2_41 (fun q hq => by cases hq; rfl) trivial (dk_X2_add 108 _ rfl) (fun m7 => ?_)
    exact F_retV rfl (dk_X2_add 111 _ rfl)
  · refine F_aload_n (i := 0) (a := 0) rfl rfl (dk_X2_add 80 _ rfl) ?_
    refine F_gR (b := (y0 + 7)) (lyS_11 hy0).1 fl_2_31 (dk_X2_add 81 _ rfl) ?_
    refine F_aload_n (i := 0) (a := 0) rfl rfl (dk_X2_add 84 _ rfl) ?_
    refine F_gI (n := (64 * y0 + 0)) (lyS_0 hy0) rfl fl_2_41 (dk_X2_add 85 _ rfl) ?_
    refine F_iconst (v := 4) (by decide) (dk_X2_add 88 _ rfl) ?_
    refine F_imul (dk_X2_add 89 _ rfl) ?_
    refine F_iload (i := 5) rfl (dk_X2_add 90 _ rfl) ?_
    refine F_iadd (dk_X2_add 92 _ rfl) ?_
    refine F_iconst (v := 0) (by decide) (dk_X2_add 93 _ rfl) ?_
    refine F_iast ((lyS_11 hy0).2) (dk_X2_add 94 _ rfl) (fun m8 => ?_)
    refine F_iinc (i := 5) (n := 1) (v := (y5 + 1)) (lv' := [(5, .int (y5 + 1)), (0, .ref y0)]) rfl (by first | rfl | decide) (by decide) rfl (dk_X2_add 95 _ rfl) ?_
    refine F_goto (tgt := 74) (by decide) (dk_X2_add 98 _ rfl) ?_
    exact F_loc (List.forall_mem_cons.mpr ⟨(.tail _ (.head _)), (List.forall_mem_cons.mpr ⟨(.head _), (fun _ z => absurd z List.not_mem_nil)⟩)⟩) (hK74 _ _ _ (hy0))
theorem j_X2_add_74   : ∀ (F : Nat) (m : mM) (y0 : Nat) (y5 : Int32) (hy0 : isC true 2 y0 = true), JF true uU m_X2_add 2 74 [(0, .ref y0), (5, .int y5)] [] m (f_X2_add_74  F m y0 y5) := by
  intro F
  induction F with
  | zero => intro m y0 y5 hy0; exact F_no
  | succ F ih => intro m y0 y5 hy0; exact jb_X2_add_74  (f_X2_add_74  F)  ih m y0 y5 hy0
def f_X2_add (m : mM) (a0 : Nat) (p1 : Int32) (p2 : Int32) (p3 : Int32) (p4 : Int32) : fR Unit :=
  (if (mI m (64 * a0 + 0)) < 7 then (sA 0 m (a0 + 1) ((mI m (64 * a0 + 0))) p1).bind fun m1 => (sA 0 m1 (a0 + 2) ((mI m1 (64 * a0 + 0))) p2).bind fun m2 => (sA 0 m2 (a0 + 3) ((mI m2 (64 * a0 + 0))) p3).bind fun m3 => (sA 0 m3 (a0 + 4) ((mI m3 (64 * a0 + 0))) p4).bind fun m4 => (sA 0 m4 (a0 + 5) ((mI m4 (64 * a0 + 0))) 0).bind fun m5 => (sA 3 m5 (a0 + 6) ((mI m5 (64 * a0 + 0))) 1).bind fun m6 => (f_X2_add_74  1000 m6 a0 0) else some ((), m))
theorem c_X2_add (m : mM) (a0 : Nat) (p1 : Int32) (p2 : Int32) (p3 : Int32) (p4 : Int32) (ha0 : isC true 2 a0 = true) : cF true uU m_X2_add 2 [.ref a0, .int p1, .int p2, .int p3, .int p4] m (f_X2_add m a0 p1 p2 p3 p4) := by
  refine cF_of ok_X2_add (fun _ _ => Nat.le_of_ble_eq_true rfl) ?_
  unfold f_X2_add
  show JF _ _ _ _ _ [(0, .ref a0), (1, .int p1), (2, .int p2), (3, .int p3), (4, .int p4)] _ _ _
  refine F_aload_n (i := 0) (a := 0) rfl rfl (dk_X2_add 0 _ rfl) ?_
  refine F_gI (n := (64 * a0 + 0)) (lyS_0 ha0) rfl fl_2_41 (dk_X2_add 1 _ rfl) ?_
  refine F_bipush (v := 7) (by decide) (dk_X2_add 4 _ rfl) ?_
  refine F_icmp_lt (tgt := 10) (by decide) (dk_X2_add 6 _ rfl) ?_ ?_
  · refine F_aload_n (i := 0) (a := 0) rfl rfl (dk_X2_add 10 _ rfl) ?_
    refine F_gR (b := (a0 + 1)) (lyS_5 ha0).1 fl_2_9 (dk_X2_add 11 _ rfl) ?_
    refine F_aload_n (i := 0) (a := 0) rfl rfl (dk_X2_add 14 _ rfl) ?_
    refine F_gI (n := (64 * a0 + 0)) (lyS_0 ha0) rfl fl_2_41 (dk_X2_add 15 _ rfl) ?_
    refine F_iload_n (i := 1) (a := 1) rfl rfl (dk_X2_add 18 _ rfl) ?_
    refine F_iast ((lyS_5 ha0).2) (dk_X2_add 19 _ rfl) (fun m1 => ?_)
    refine F_aload_n (i := 0) (a := 0) rfl rfl (dk_X2_add 20 _ rfl) ?_
    refine F_gR (b := (a0 + 2)) (lyS_6 ha0).1 fl_2_15 (dk_X2_add 21 _ rfl) ?_
    refine F_aload_n (i := 0) (a := 0) rfl rfl (dk_X2_add 24 _ rfl) ?_
    refine F_gI (n := (64 * a0 + 0)) (lyS_0 ha0) rfl fl_2_41 (dk_X2_add 25 _ rfl) ?_
    refine F_iload_n (i := 2) (a := 2) rfl rfl (dk_X2_add 28 _ rfl) ?_
    refine F_iast ((lyS_6 ha0).2) (dk_X2_add 29 _ rfl) (fun m2 => ?_)
    refine F_aload_n (i := 0) (a := 0) rfl rfl (dk_X2_add 30 _ rfl) ?_
    refine F_gR (b := (a0 + 3)) (lyS_7 ha0).1 fl_2_18 (dk_X2_add 31 _ rfl) ?_
    refine F_aload_n (i := 0) (a := 0) rfl rfl (dk_X2_add 34 _ rfl) ?_
    refine F_gI (n := (64 * a0 + 0)) (lyS_0 ha0) rfl fl_2_41 (dk_X2_add 35 _ rfl) ?_
    refine F_iload_n (i := 3) (a := 3) rfl rfl (dk_X2_add 38 _ rfl) ?_
    refine F_iast ((lyS_7 ha0).2) (dk_X2_add 39 _ rfl) (fun m3 => ?_)
    refine F_aload_n (i := 0) (a := 0) rfl rfl (dk_X2_add 40 _ rfl) ?_
    refine F_gR (b := (a0 + 4)) (lyS_8 ha0).1 fl_2_21 (dk_X2_add 41 _ rfl) ?_
    refine F_aload_n (i := 0) (a := 0) rfl rfl (dk_X2_add 44 _ rfl) ?_
    refine F_gI (n := (64 * a0 + 0)) (lyS_0 ha0) rfl fl_2_41 (dk_X2_add 45 _ rfl) ?_
    refine F_iload (i := 4) rfl (dk_X2_add 48 _ rfl) ?_
    refine F_iast ((lyS_8 ha0).2) (dk_X2_add 50 _ rfl) (fun m4 => ?_)
    refine F_aload_n (i := 0) (a := 0) rfl rfl (dk_X2_add 51 _ rfl) ?_
    refine F_gR (b := (a0 + 5)) (lyS_9 ha0).1 fl_2_24 (dk_X2_add 52 _ rfl) ?_
    refine F_aload_n (i := 0) (a := 0) rfl rfl (dk_X2_add 55 _ rfl) ?_
    refine F_gI (n := (64 * a0 + 0)) (lyS_0 ha0) rfl fl_2_41 (dk_X2_add 56 _ rfl) ?_
    refine F_iconst (v := 0) (by decide) (dk_X2_add 59 _ rfl) ?_
    refine F_iast ((lyS_9 ha0).2) (dk_X2_add 60 _ rfl) (fun m5 => ?_)
    refine F_aload_n (i := 0) (a := 0) rfl rfl (dk_X2_add 61 _ rfl) ?_
    refine F_gR (b := (a0 + 6)) (lyS_10 ha0).1 fl_2_27 (dk_X2_add 62 _ rfl) ?_
    refine F_aload_n (i := 0) (a := 0) rfl rfl (dk_X2_add 65 _ rfl) ?_
    refine F_gI (n := (64 * a0 + 0)) (lyS_0 ha0) rfl fl_2_41 (dk_X2_add 66 _ rfl) ?_
    refine F_iconst (v := 1) (by decide) (dk_X2_add 69 _ rfl) ?_
    refine F_zast ((lyS_10 ha0).2) (dk_X2_add 70 _ rfl) (fun m6 => ?_)
    refine F_iconst (v := 0) (by decide) (dk_X2_add 71 _ rfl) ?_
    refine F_istore (lv' := [(5, .int 0), (0, .ref a0), (1, .int p1), (2, .int p2), (3, .int p3), (4, .int p4)]) (i := 5) (by decide) rfl (dk_X2_add 72 _ rfl) ?_
    exact F_loc (List.forall_mem_cons.mpr ⟨(.tail _ (.head _)), (List.forall_mem_cons.mpr ⟨(.head _), (fun _ z => absurd z List.not_mem_nil)⟩)⟩) (j_X2_add_74   1000 _ _ _ (ha0))
  · exact F_retV rfl (dk_X2_add 9 _ rfl)
def fb_X2_copy_147 (K147 : mM → Nat → Nat → Int32 → fR Unit) (m : mM) (y0 : Nat) (y1 : Nat) (y2 : Int32) : fR Unit :=
  (if 7 ≤ y2 then some ((), m) else (gA (mA m (y1 + 6)) y2).bind fun x14 => (sA 3 m (y0 + 6) y2 x14).bind fun m15 => (K147 m15 y0 y1 (y2 + 1)))
def f_X2_copy_147  : Nat → mM → Nat → Nat → Int32 → fR Unit
  | 0, _, _, _, _ => none
  | F + 1, m, y0, y1, y2 => fb_X2_copy_147  (f_X2_copy_147  F) m y0 y1 y2
theorem jb_X2_copy_147 (K147 : mM → Nat → Nat → Int32 → fR Unit) (hK147 : ∀ (m : mM) (y0 : Nat) (y1 : Nat) (y2 : Int32) (hy0 : isC true 2 y0 = true) (hy1 : isC true 2 y1 = true), JF true uU m_X2_copy 2 147 [(0, .ref y0), (1, .ref y1), (2, .int y2)] [] m (K147 m y0 y1 y2)) (m : mM) (y0 : Nat) (y1 : Nat) (y2 : Int32) (hy0 : isC true 2 y0 = true) (hy1 : isC true 2 y1 = true) : JF true uU m_X2_copy 2 147 [(0, .ref y0), (1, .ref y1), (2, .int y2)] [] m (fb_X2_copy_147 K147 m y0 y1 y2) := by
  unfold fb_X2_copy_147
  refine F_iload_n (i := 2) (a := 2) rfl rfl (dk_X2_copy 147 _ rfl) ?_
  refine F_bipush (v := 7) (by decide) (dk_X2_copy 148 _ rfl) ?_
  refine F_icmp_ge (tgt := 171) (by decide) (dk_X2_copy 150 _ rfl) ?_ ?_
  · exact F_retV rfl (dk_X2_copy 171 _ rfl)
  · refine F_aload_n (i := 0) (a := 0) rfl rfl (dk_X2_copy 153 _ rfl) ?_
    refine F_gR (b := (y0 + 6)) (lyS_10 hy0).1 fl_2_27 (dk_X2_copy 154 _ rfl) ?_
    refine F_iload_n (i := 2) (a := 2) rfl rfl (dk_X2_copy 157 _ rfl) ?_
    refine F_aload_n (i := 1) (a := 1) rfl rfl (dk_X2_copy 158 _ rfl) ?_
    refine F_gR (b := (y1 + 6)) (lyS_10 hy1).1 fl_2_27 (dk_X2_copy 159 _ rfl) ?_
    refine F_iload_n (i := 2) (a := 2) rfl rfl (dk_X2_copy 162 _ rfl) ?_
    refine F_zald ((lyS_10 hy1).2) (dk_X2_copy 163 _ rfl) (fun x14 => ?_)
    refine F_zast ((lyS_10 hy0).2) (dk_X2_copy 164 _ rfl) (fun m15 => ?_)
    refine F_iinc (i := 2) (n := 1) (v := (y2 + 1)) (lv' := [(2, .int (y2 + 1)), (0, .ref y0), (1, .ref y1)]) rfl (by first | rfl | decide) (by decide) rfl (dk_X2_copy 165 _ rfl) ?_
    refine F_goto (tgt := 147) (by decide) (dk_X2_copy 168 _ rfl) ?_
    exact F_loc (List.forall_mem_cons.mpr ⟨(.tail _ (.head _)), (List.forall_mem_cons.mpr ⟨(.tail _ (.tail _ (.head _))), (List.forall_mem_cons.mpr ⟨(.head _), (fun _ z => absurd z List.not_mem_nil)⟩)⟩)⟩) (hK147 _ _ _ _ (hy0) (hy1))
theorem j_X2_copy_147   : ∀ (F : Nat) (m : mM) (y0 : Nat) (y1 : Nat) (y2 : Int32) (hy0 : isC true 2 y0 = true) (hy1 : isC true 2 y1 = true), JF true uU m_X2_copy 2 147 [(0, .ref y0), (1, .ref y1), (2, .int y2)] [] m (f_X2_copy_147  F m y0 y1 y2) := by
  intro F
  induction F with
  | zero => intro m y0 y1 y2 hy0 hy1; exact F_no
  | succ F ih => intro m y0 y1 y2 hy0 hy1; exact jb_X2_copy_147  (f_X2_copy_147  F)  ih m y0 y1 y2 hy0 hy1
def f_X2_copy (m : mM) (a0 : Nat) (a1 : Nat) : fR Unit :=
  nmM (wI m (64 * a0 + 0) ((mI m (64 * a1 + 0)))) fun m1 => nmM (wI m1 (64 * a0 + 1) ((mI m1 (64 * a1 + 1)))) fun m2 => nmM (wI m2 (64 * a0 + 2) ((mI m2 (64 * a1 + 2)))) fun m3 => nmM (wI m3 (64 * a0 + 3) ((mI m3 (64 * a1 + 3)))) fun m4 => chR true 5 (mR m4 (64 * a1 + 4)) fun r5 => nmM (wR m4 (64 * a0 + 4) r5) fun m6 => (cpA m6 (a1 + 1) 0 (a0 + 1) 0 7).bind fun m7 => (cpA m7 (a1 + 2) 0 (a0 + 2) 0 7).bind fun m8 => (cpA m8 (a1 + 3) 0 (a0 + 3) 0 7).bind fun m9 => (cpA m9 (a1 + 4) 0 (a0 + 4) 0 7).bind fun m10 => (cpA m10 (a1 + 5) 0 (a0 + 5) 0 7).bind fun m11 => (cpA m11 (a1 + 7) 0 (a0 + 7) 0 28).bind fun m12 => (cpA m12 (a1 + 8) 0 (a0 + 8) 0 12).bind fun m13 => (f_X2_copy_147  1000 m13 a0 a1 0)
theorem c_X2_copy (m : mM) (a0 : Nat) (a1 : Nat) (ha0 : isC true 2 a0 = true) (ha1 : isC true 2 a1 = true) : cF true uU m_X2_copy 2 [.ref a0, .ref a1] m (f_X2_copy m a0 a1) := by
  refine cF_of ok_X2_copy (fun _ _ => Nat.le_of_ble_eq_true rfl) ?_
  unfold f_X2_copy
  show JF _ _ _ _ _ [(0, .ref a0), (1, .ref a1)] _ _ _
  refine F_aload_n (i := 0) (a := 0) rfl rfl (dk_X2_copy 0 _ rfl) ?_
  refine F_aload_n (i := 1) (a := 1) rfl rfl (dk_X2_copy 1 _ rfl) ?_
  refine F_gI (n := (64 * a1 + 0)) (lyS_0 ha1) rfl fl_2_41 (dk_X2_copy 2 _ rfl) ?_
  refine F_pI (n := (64 * a0 + 0)) (lyS_0 ha0) rfl fl_2_41 (fun q hq => by cases hq; rfl) trivial (dk_X2_copy 5 _ rfl) (fun m1 => ?_)
  refine F_aload_n (i := 0) (a := 0) rfl rfl (dk_X2_copy 8 _ rfl) ?_
  refine F_aload_n (i := 1) (a := 1) rfl rfl (dk_X2_copy 9 _ rfl) ?_
  refine F_gI (n := (64 * a1 + 1)) (lyS_1 ha1) rfl fl_2_45 (dk_X2_copy 10 _ rfl) ?_
  refine F_pI (n := (64 * a0 + 1)) (lyS_1 ha0) rfl fl_2_45 (fun q hq => by cases hq; rfl) trivial (dk_X2_copy 13 _ rfl) (fun m2 => ?_)
  refine F_aload_n (i := 0) (a := 0) rfl rfl (dk_X2_copy 16 _ rfl) ?_
  refine F_aload_n (i := 1) (a := 1) rfl rfl (dk_X2_copy 17 _ rfl) ?_
  refine F_gI (n := (64 * a1 + 2)) (lyS_2 ha1) rfl fl_2_48 (dk_X2_copy 18 _ rfl) ?_
  refine F_pI (n := (64 * a0 + 2)) (lyS_2 ha0) rfl fl_2_48 (fun q hq => by cases hq; rfl) trivial (dk_X2_copy 21 _ rfl) (fun m3 => ?_)
  refine F_aload_n (i := 0) (a := 0) rfl rfl (dk_X2_copy 24 _ rfl) ?_
  refine F_aload_n (i := 1) (a := 1) rfl rfl (dk_X2_copy 25 _ rfl) ?_
  refine F_gI (n := (64 * a1 + 3)) (lyS_3 ha1) rfl fl_2_51 (dk_X2_copy 26 _ rfl) ?_
  refine F_pI (n := (64 * a0 + 3)) (lyS_3 ha0) rfl fl_2_51 (fun q hq => by cases hq; rfl) trivial (dk_X2_copy 29 _ rfl) (fun m4 => ?_)
  refine F_aload_n (i := 0) (a := 0) rfl rfl (dk_X2_copy 32 _ rfl) ?_
  refine F_aload_n (i := 1) (a := 1) rfl rfl (dk_X2_copy 33 _ rfl) ?_
  refine F_gV (n := (64 * a1 + 4)) (lyS_4 ha1) rfl fl_2_37 (dk_X2_copy 34 _ rfl) ?_
  refine F_ch (fun r5 hr5 => ?_)
  refine F_pV (n := (64 * a0 + 4)) (lyS_4 ha0) rfl fl_2_37 (fun q hq => by cases hq; rfl) trivial (dk_X2_copy 37 _ rfl) (fun m6 => ?_)
  refine F_aload_n (i := 1) (a := 1) rfl rfl (dk_X2_copy 40 _ rfl) ?_
  refine F_gR (b := (a1 + 1)) (lyS_5 ha1).1 fl_2_9 (dk_X2_copy 41 _ rfl) ?_
  refine F_iconst (v := 0) (by decide) (dk_X2_copy 44 _ rfl) ?_
  refine F_aload_n (i := 0) (a := 0) rfl rfl (dk_X2_copy 45 _ rfl) ?_
  refine F_gR (b := (a0 + 1)) (lyS_5 ha0).1 fl_2_9 (dk_X2_copy 46 _ rfl) ?_
  refine F_iconst (v := 0) (by decide) (dk_X2_copy 49 _ rfl) ?_
  refine F_bipush (v := 7) (by decide) (dk_X2_copy 50 _ rfl) ?_
  refine F_copyi ((lyS_5 ha1).2) ((lyS_5 ha0).2) ac_2 (Nat.le_of_ble_eq_true rfl) (by omega) (dk_X2_copy 52 _ rfl) (fun m7 => ?_)
  refine F_aload_n (i := 1) (a := 1) rfl rfl (dk_X2_copy 55 _ rfl) ?_
  refine F_gR (b := (a1 + 2)) (lyS_6 ha1).1 fl_2_15 (dk_X2_copy 56 _ rfl) ?_
  refine F_iconst (v := 0) (by decide) (dk_X2_copy 59 _ rfl) ?_
  refine F_aload_n (i := 0) (a := 0) rfl rfl (dk_X2_copy 60 _ rfl) ?_
  refine F_gR (b := (a0 + 2)) (lyS_6 ha0).1 fl_2_15 (dk_X2_copy 61 _ rfl) ?_
  refine F_iconst (v := 0) (by decide) (dk_X2_copy 64 _ rfl) ?_
  refine F_bipush (v := 7) (by decide) (dk_X2_copy 65 _ rfl) ?_
  refine F_copyi ((lyS_6 ha1).2) ((lyS_6 ha0).2) ac_2 (Nat.le_of_ble_eq_true rfl) (by omega) (dk_X2_copy 67 _ rfl) (fun m8 => ?_)
  refine F_aload_n (i := 1) (a := 1) rfl rfl (dk_X2_copy 70 _ rfl) ?_
  refine F_gR (b := (a1 + 3)) (lyS_7 ha1).1 fl_2_18 (dk_X2_copy 71 _ rfl) ?_
  refine F_iconst (v := 0) (by decide) (dk_X2_copy 74 _ rfl) ?_
  refine F_aload_n (i := 0) (a := 0) rfl rfl (dk_X2_copy 75 _ rfl) ?_
  refine F_gR (b := (a0 + 3)) (lyS_7 ha0).1 fl_2_18 (dk_X2_copy 76 _ rfl) ?_
  refine F_iconst (v := 0) (by decide) (dk_X2_copy 79 _ rfl) ?_
  refine F_bipush (v := 7) (by decide) (dk_X2_copy 80 _ rfl) ?_
  refine F_copyi ((lyS_7 ha1).2) ((lyS_7 ha0).2) ac_2 (Nat.le_of_ble_eq_true rfl) (by omega) (dk_X2_copy 82 _ rfl) (fun m9 => ?_)
  refine F_aload_n (i := 1) (a := 1) rfl rfl (dk_X2_copy 85 _ rfl) ?_
  refine F_gR (b := (a1 + 4)) (lyS_8 ha1).1 fl_2_21 (dk_X2_copy 86 _ rfl) ?_
  refine F_iconst (v := 0) (by decide) (dk_X2_copy 89 _ rfl) ?_
  refine F_aload_n (i := 0) (a := 0) rfl rfl (dk_X2_copy 90 _ rfl) ?_
  refine F_gR (b := (a0 + 4)) (lyS_8 ha0).1 fl_2_21 (dk_X2_copy 91 _ rfl) ?_
  refine F_iconst (v := 0) (by decide) (dk_X2_copy 94 _ rfl) ?_
  refine F_bipush (v := 7) (by decide) (dk_X2_copy 95 _ rfl) ?_
  refine F_copyi ((lyS_8 ha1).2) ((lyS_8 ha0).2) ac_2 (Nat.le_of_ble_eq_true rfl) (by omega) (dk_X2_copy 97 _ rfl) (fun m10 => ?_)
  refine F_aload_n (i := 1) (a := 1) rfl rfl (dk_X2_copy 100 _ rfl) ?_
  refine F_gR (b := (a1 + 5)) (lyS_9 ha1).1 fl_2_24 (dk_X2_copy 101 _ rfl) ?_
  refine F_iconst (v := 0) (by decide) (dk_X2_copy 104 _ rfl) ?_
  refine F_aload_n (i := 0) (a := 0) rfl rfl (dk_X2_copy 105 _ rfl) ?_
  refine F_gR (b := (a0 + 5)) (lyS_9 ha0).1 fl_2_24 (dk_X2_copy 106 _ rfl) ?_
  refine F_iconst (v := 0) (by decide) (dk_X2_copy 109 _ rfl) ?_
  refine F_bipush (v := 7) (by decide) (dk_X2_copy 110 _ rfl) ?_
  refine F_copyi ((lyS_9 ha1).2) ((lyS_9 ha0).2) ac_2 (Nat.le_of_ble_eq_true rfl) (by omega) (dk_X2_copy 112 _ rfl) (fun m11 => ?_)
  refine F_aload_n (i := 1) (a := 1) rfl rfl (dk_X2_copy 115 _ rfl) ?_
  refine F_gR (b := (a1 + 7)) (lyS_11 ha1).1 fl_2_31 (dk_X2_copy 116 _ rfl) ?_
  refine F_iconst (v := 0) (by decide) (dk_X2_copy 119 _ rfl) ?_
  refine F_aload_n (i := 0) (a := 0) rfl rfl (dk_X2_copy 120 _ rfl) ?_
  refine F_gR (b := (a0 + 7)) (lyS_11 ha0).1 fl_2_31 (dk_X2_copy 121 _ rfl) ?_
  refine F_iconst (v := 0) (by decide) (dk_X2_copy 124 _ rfl) ?_
  refine F_bipush (v := 28) (by decide) (dk_X2_copy 125 _ rfl) ?_
  refine F_copyi ((lyS_11 ha1).2) ((lyS_11 ha0).2) ac_2 (Nat.le_of_ble_eq_true rfl) (by omega) (dk_X2_copy 127 _ rfl) (fun m12 => ?_)
  refine F_aload_n (i := 1) (a := 1) rfl rfl (dk_X2_copy 130 _ rfl) ?_
  refine F_gR (b := (a1 + 8)) (lyS_12 ha1).1 fl_2_34 (dk_X2_copy 131 _ rfl) ?_
  refine F_iconst (v := 0) (by decide) (dk_X2_copy 134 _ rfl) ?_
  refine F_aload_n (i := 0) (a := 0) rfl rfl (dk_X2_copy 135 _ rfl) ?_
  refine F_gR (b := (a0 + 8)) (lyS_12 ha0).1 fl_2_34 (dk_X2_copy 136 _ rfl) ?_
  refine F_iconst (v := 0) (by decide) (dk_X2_copy 139 _ rfl) ?_
  refine F_bipush (v := 12) (by decide) (dk_X2_copy 140 _ rfl) ?_
  refine F_copyi ((lyS_12 ha1).2) ((lyS_12 ha0).2) ac_2 (Nat.le_of_ble_eq_true rfl) (by omega) (dk_X2_copy 142 _ rfl) (fun m13 => ?_)
  refine F_iconst (v := 0) (by decide) (dk_X2_copy 145 _ rfl) ?_
  refine F_istore_n (lv' := [(2, .int 0), (0, .ref a0), (1, .ref a1)]) (i := 2) (a := 2) rfl (by decide) rfl (dk_X2_copy 146 _ rfl) ?_
  exact F_loc (List.forall_mem_cons.mpr ⟨(.tail _ (.head _)), (List.forall_mem_cons.mpr ⟨(.tail _ (.tail _ (.head _))), (List.forall_mem_cons.mpr ⟨(.head _), (fun _ z => absurd z List.not_mem_nil)⟩)⟩)⟩) (j_X2_copy_147   1000 _ _ _ _ (ha0) (ha1))
def fb_X3_become_12 (K12 : mM → Nat → Int32 → fR Unit) (m : mM) (y0 : Nat) (y3 : Int32) : fR Unit :=
  (if 60 ≤ y3 then some ((), m) else (sL m (y0 + 1) y3 0).bind fun m3 => (K12 m3 y0 (y3 + 1)))
def f_X3_become_12  : Nat → mM → Nat → Int32 → fR Unit
  | 0, _, _, _ => none
  | F + 1, m, y0, y3 => fb_X3_become_12  (f_X3_become_12  F) m y0 y3
theorem jb_X3_become_12 (K12 : mM → Nat → Int32 → fR Unit) (hK12 : ∀ (m : mM) (y0 : Nat) (y3 : Int32) (hy0 : isC true 3 y0 = true), JF true uU m_X3_become 2 12 [(0, .ref y0), (3, .int y3)] [] m (K12 m y0 y3)) (m : mM) (y0 : Nat) (y3 : Int32) (hy0 : isC true 3 y0 = true) : JF true uU m_X3_become 2 12 [(0, .ref y0), (3, .int y3)] [] m (fb_X3_become_12 K12 m y0 y3) := by
  unfold fb_X3_become_12
  refine F_iload_n (i := 3) (a := 3) rfl rfl (dk_X3_become 12 _ rfl) ?_
  refine F_bipush (v := 60) (by decide) (dk_X3_become 13 _ rfl) ?_
  refine F_icmp_ge (tgt := 31) (by decide) (dk_X3_become 15 _ rfl) ?_ ?_
  · exact F_retV rfl (dk_X3_become 31 _ rfl)
  · refine F_aload_n (i := 0) (a := 0) rfl rfl (dk_X3_become 18 _ rfl) ?_
    refine F_gR (b := (y0 + 1)) (lyP_2 hy0).1 fl_3_15 (dk_X3_become 19 _ rfl) ?_
    refine F_iload_n (i := 3) (a := 3) rfl rfl (dk_X3_become 22 _ rfl) ?_
    refine F_lconst (v := 0) (by decide) (dk_X3_become 23 _ rfl) ?_
    refine F_last ((lyP_2 hy0).2) (dk_X3_become 24 _ rfl) (fun m3 => ?_)
    refine F_iinc (i := 3) (n := 1) (v := (y3 + 1)) (lv' := [(3, .int (y3 + 1)), (0, .ref y0)]) rfl (by first | rfl | decide) (by decide) rfl (dk_X3_become 25 _ rfl) ?_
    refine F_goto (tgt := 12) (by decide) (dk_X3_become 28 _ rfl) ?_
    exact F_loc (List.forall_mem_cons.mpr ⟨(.tail _ (.head _)), (List.forall_mem_cons.mpr ⟨(.head _), (fun _ z => absurd z List.not_mem_nil)⟩)⟩) (hK12 _ _ _ (hy0))
theorem j_X3_become_12   : ∀ (F : Nat) (m : mM) (y0 : Nat) (y3 : Int32) (hy0 : isC true 3 y0 = true), JF true uU m_X3_become 2 12 [(0, .ref y0), (3, .int y3)] [] m (f_X3_become_12  F m y0 y3) := by
  intro F
  induction F with
  | zero => intro m y0 y3 hy0; exact F_no
  | succ F ih => intro m y0 y3 hy0; exact jb_X3_become_12  (f_X3_become_12  F)  ih m y0 y3 hy0
def f_X3_become (m : mM) (a0 : Nat) (p1 : Int32) (p2 : Int32) : fR Unit :=
  nmM (wI m (64 * a0 + 0) p1) fun m1 => nmM (wI m1 (64 * a0 + 1) p2) fun m2 => (f_X3_become_12  1000 m2 a0 0)
theorem c_X3_become (m : mM) (a0 : Nat) (p1 : Int32) (p2 : Int32) (ha0 : isC true 3 a0 = true) : cF true uU m_X3_become 2 [.ref a0, .int p1, .int p2] m (f_X3_become m a0 p1 p2) := by
  refine cF_of ok_X3_become (fun _ _ => Nat.le_of_ble_eq_true rfl) ?_
  unfold f_X3_become
  show JF _ _ _ _ _ [(0, .ref a0), (1, .int p1), (2, .int p2)] _ _ _
  refine F_aload_n (i := 0) (a := 0) rfl rfl (dk_X3_become 0 _ rfl) ?_
  refine F_iload_n (i := 1) (a := 1) rfl rfl (dk_X3_become 1 _ rfl) ?_
  refine F_pI (n := (64 * a0 + 0)) (lyP_0 ha0) rfl fl_3_9 (fun q hq => by cases hq; rfl) trivial (dk_X3_become 2 _ rfl) (fun m1 => ?_)
  refine F_aload_n (i := 0) (a := 0) rfl rfl (dk_X3_become 5 _ rfl) ?_
  refine F_iload_n (i := 2) (a := 2) rfl rfl (dk_X3_become 6 _ rfl) ?_
  refine F_pI (n := (64 * a0 + 1)) (lyP_1 ha0) rfl fl_3_19 (fun q hq => by cases hq; rfl) trivial (dk_X3_become 7 _ rfl) (fun m2 => ?_)
  refine F_iconst (v := 0) (by decide) (dk_X3_become 10 _ rfl) ?_
  refine F_istore_n (lv' := [(3, .int 0), (0, .ref a0), (1, .int p1), (2, .int p2)]) (i := 3) (a := 3) rfl (by decide) rfl (dk_X3_become 11 _ rfl) ?_
  exact F_loc (List.forall_mem_cons.mpr ⟨(.tail _ (.head _)), (List.forall_mem_cons.mpr ⟨(.head _), (fun _ z => absurd z List.not_mem_nil)⟩)⟩) (j_X3_become_12   1000 _ _ _ (ha0))
def f_X3_holds (m : mM) (a0 : Nat) (p1 : Int32) (p2 : Int32) : fR Int32 :=
  (if p1 < 0 then some (0, m) else (if p2 < 0 then some (0, m) else (if (mI m (64 * a0 + 1)) < p2 then some (0, m) else (if ((mI m (64 * a0 + 1)) - p2) < p1 then some (0, m) else some (1, m)))))
theorem c_X3_holds (m : mM) (a0 : Nat) (p1 : Int32) (p2 : Int32) (ha0 : isC true 3 a0 = true) : cF true uI m_X3_holds 2 [.ref a0, .int p1, .int p2] m (f_X3_holds m a0 p1 p2) := by
  refine cF_of ok_X3_holds (fun _ _ => Nat.le_of_ble_eq_true rfl) ?_
  unfold f_X3_holds
  show JF _ _ _ _ _ [(0, .ref a0), (1, .int p1), (2, .int p2)] _ _ _
  refine F_iload_n (i := 1) (a := 1) rfl rfl (dk_X3_holds 0 _ rfl) ?_
  refine F_if_lt (tgt := 30) (by decide) (dk_X3_holds 1 _ rfl) ?_ ?_
  · refine F_iconst (v := 0) (by decide) (dk_X3_holds 30 _ rfl) ?_
    exact F_retB rfl (Or.inl rfl) (dk_X3_holds 31 _ rfl)
  · refine F_iload_n (i := 2) (a := 2) rfl rfl (dk_X3_holds 4 _ rfl) ?_
    refine F_if_lt (tgt := 30) (by decide) (dk_X3_holds 5 _ rfl) ?_ ?_
    · refine F_iconst (v := 0) (by decide) (dk_X3_holds 30 _ rfl) ?_
      exact F_retB rfl (Or.inl rfl) (dk_X3_holds 31 _ rfl)
    · refine F_iload_n (i := 2) (a := 2) rfl rfl (dk_X3_holds 8 _ rfl) ?_
      refine F_aload_n (i := 0) (a := 0) rfl rfl (dk_X3_holds 9 _ rfl) ?_
      refine F_gI (n := (64 * a0 + 1)) (lyP_1 ha0) rfl fl_3_19 (dk_X3_holds 10 _ rfl) ?_
      refine F_icmp_gt (tgt := 30) (by decide) (dk_X3_holds 13 _ rfl) ?_ ?_
      · refine F_iconst (v := 0) (by decide) (dk_X3_holds 30 _ rfl) ?_
        exact F_retB rfl (Or.inl rfl) (dk_X3_holds 31 _ rfl)
      · refine F_iload_n (i := 1) (a := 1) rfl rfl (dk_X3_holds 16 _ rfl) ?_
        refine F_aload_n (i := 0) (a := 0) rfl rfl (dk_X3_holds 17 _ rfl) ?_
        refine F_gI (n := (64 * a0 + 1)) (lyP_1 ha0) rfl fl_3_19 (dk_X3_holds 18 _ rfl) ?_
        refine F_iload_n (i := 2) (a := 2) rfl rfl (dk_X3_holds 21 _ rfl) ?_
        refine F_isub (dk_X3_holds 22 _ rfl) ?_
        refine F_icmp_gt (tgt := 30) (by decide) (dk_X3_holds 23 _ rfl) ?_ ?_
        · refine F_iconst (v := 0) (by decide) (dk_X3_holds 30 _ rfl) ?_
          exact F_retB rfl (Or.inl rfl) (dk_X3_holds 31 _ rfl)
        · refine F_iconst (v := 1) (by decide) (dk_X3_holds 26 _ rfl) ?_
          refine F_goto (tgt := 31) (by decide) (dk_X3_holds 27 _ rfl) ?_
          exact F_retB rfl (Or.inr rfl) (dk_X3_holds 31 _ rfl)
def f_X3_fitted (m : mM) (a0 : Nat) (p1 : Int64) : fR Int64 :=
  nmI ((mI m (64 * a0 + 0))) fun v1 => (if v1 = 0 then some ((((p1 : Int64).toInt32 : Int32).toInt8.toInt32 : Int32).toInt64, m) else if v1 = 1 then some ((((p1 : Int64).toInt32 : Int32).toInt16.toInt32 : Int32).toInt64, m) else if v1 = 2 then some (((p1 : Int64).toInt32 : Int32).toInt64, m) else if v1 = 4 then (if (lg_cmp p1 0) = 0 then some (0, m) else some (1, m)) else if v1 = 3 then some (p1, m) else some (p1, m))
theorem c_X3_fitted (m : mM) (a0 : Nat) (p1 : Int64) (ha0 : isC true 3 a0 = true) : cF true uL m_X3_fitted 2 [.ref a0, .long p1] m (f_X3_fitted m a0 p1) := by
  refine cF_of ok_X3_fitted (fun _ _ => Nat.le_of_ble_eq_true rfl) ?_
  unfold f_X3_fitted
  show JF _ _ _ _ _ [(0, .ref a0), (1, .long p1)] _ _ _
  refine F_aload_n (i := 0) (a := 0) rfl rfl (dk_X3_fitted 0 _ rfl) ?_
  refine F_gI (n := (64 * a0 + 0)) (lyP_0 ha0) rfl fl_3_9 (dk_X3_fitted 1 _ rfl) ?_
  refine F_nm (fun v1 => ?_)
  refine F_case (fun c2_0 => ?_) (fun c2_0 => ?_)
  · rw [c2_0]; refine F_tin (off := 36) (tgt := 40) (by decide) (by decide) rfl (by decide) (dk_X3_fitted 4 _ rfl) ?_
    refine F_lload_n (i := 1) (a := 1) rfl rfl (dk_X3_fitted 40 _ rfl) ?_
    refine F_l2i (dk_X3_fitted 41 _ rfl) ?_
    refine F_i2b (dk_X3_fitted 42 _ rfl) ?_
    refine F_i2l (dk_X3_fitted 43 _ rfl) ?_
    exact F_retL rfl (dk_X3_fitted 44 _ rfl)
  refine F_case (fun c2_1 => ?_) (fun c2_1 => ?_)
  · rw [c2_1]; refine F_tin (off := 41) (tgt := 45) (by decide) (by decide) rfl (by decide) (dk_X3_fitted 4 _ rfl) ?_
    refine F_lload_n (i := 1) (a := 1) rfl rfl (dk_X3_fitted 45 _ rfl) ?_
    refine F_l2i (dk_X3_fitted 46 _ rfl) ?_
    refine F_i2s (dk_X3_fitted 47 _ rfl) ?_
    refine F_i2l (dk_X3_fitted 48 _ rfl) ?_
    exact F_retL rfl (dk_X3_fitted 49 _ rfl)
  refine F_case (fun c2_2 => ?_) (fun c2_2 => ?_)
  · rw [c2_2]; refine F_tin (off := 46) (tgt := 50) (by decide) (by decide) rfl (by decide) (dk_X3_fitted 4 _ rfl) ?_
    refine F_lload_n (i := 1) (a := 1) rfl rfl (dk_X3_fitted 50 _ rfl) ?_
    refine F_l2i (dk_X3_fitted 51 _ rfl) ?_
    refine F_i2l (dk_X3_fitted 52 _ rfl) ?_
    exact F_retL rfl (dk_X3_fitted 53 _ rfl)
  refine F_case (fun c2_3 => ?_) (fun c2_3 => ?_)
  · rw [c2_3]; refine F_tin (off := 50) (tgt := 54) (by decide) (by decide) rfl (by decide) (dk_X3_fitted 4 _ rfl) ?_
    refine F_lload_n (i := 1) (a := 1) rfl rfl (dk_X3_fitted 54 _ rfl) ?_
    refine F_lconst (v := 0) (by decide) (dk_X3_fitted 55 _ rfl) ?_
    refine F_lcmp (dk_X3_fitted 56 _ rfl) ?_
    refine F_if_eq (tgt := 64) (by decide) (dk_X3_fitted 57 _ rfl) ?_ ?_
    · refine F_lconst (v := 0) (by decide) (dk_X3_fitted 64 _ rfl) ?_
      exact F_retL rfl (dk_X3_fitted 65 _ rfl)
    · refine F_lconst (v := 1) (by decide) (dk_X3_fitted 60 _ rfl) ?_
      refine F_goto (tgt := 65) (by decide) (dk_X3_fitted 61 _ rfl) ?_
      exact F_retL rfl (dk_X3_fitted 65 _ rfl)
  refine F_case (fun c2_4 => ?_) (fun c2_4 => ?_)
  · rw [c2_4]; refine F_tin (off := 62) (tgt := 66) (by decide) (by decide) rfl (by decide) (dk_X3_fitted 4 _ rfl) ?_
    refine F_lload_n (i := 1) (a := 1) rfl rfl (dk_X3_fitted 66 _ rfl) ?_
    exact F_retL rfl (dk_X3_fitted 67 _ rfl)
  refine F_tout (tgt := 66) (by have q0 := fI_ne c2_0; rw [show (0 : Int32).toInt = 0 from by decide] at q0; have q1 := fI_ne c2_1; rw [show (1 : Int32).toInt = 1 from by decide] at q1; have q2 := fI_ne c2_2; rw [show (2 : Int32).toInt = 2 from by decide] at q2; have q3 := fI_ne c2_3; rw [show (4 : Int32).toInt = 4 from by decide] at q3; have q4 := fI_ne c2_4; rw [show (3 : Int32).toInt = 3 from by decide] at q4; omega) (by decide) (dk_X3_fitted 4 _ rfl) ?_
  refine F_lload_n (i := 1) (a := 1) rfl rfl (dk_X3_fitted 66 _ rfl) ?_
  exact F_retL rfl (dk_X3_fitted 67 _ rfl)
def f_X4_next (m : mM)  : fR Int32 :=
  (if (mI m 131) = 0 then some ((-1), m) else (if (mI m 129) ≤ (mI m 130) then some ((-1), m) else (gA (mA m 3) (mI m 130)).bind fun x1 => some (x1, m)))
theorem c_X4_next (m : mM)   : cF true uI m_X4_next 2 [.ref 2] m (f_X4_next m ) := by
  refine cF_of ok_X4_next (fun _ _ => Nat.le_of_ble_eq_true rfl) ?_
  unfold f_X4_next
  show JF _ _ _ _ _ [(0, .ref 2)] _ _ _
  refine F_aload_n (i := 0) (a := 0) rfl rfl (dk_X4_next 0 _ rfl) ?_
  refine F_gI (n := 131) fxX_4_3_2 rfl fl_4_24 (dk_X4_next 1 _ rfl) ?_
  refine F_if_eq (tgt := 30) (by decide) (dk_X4_next 4 _ rfl) ?_ ?_
  · refine F_iconst (v := (-1)) (by decide) (dk_X4_next 30 _ rfl) ?_
    exact F_ret rfl (dk_X4_next 31 _ rfl)
  · refine F_aload_n (i := 0) (a := 0) rfl rfl (dk_X4_next 7 _ rfl) ?_
    refine F_gI (n := 130) fxX_4_2_2 rfl fl_4_20 (dk_X4_next 8 _ rfl) ?_
    refine F_aload_n (i := 0) (a := 0) rfl rfl (dk_X4_next 11 _ rfl) ?_
    refine F_gI (n := 129) fxX_4_1_2 rfl fl_4_32 (dk_X4_next 12 _ rfl) ?_
    refine F_icmp_ge (tgt := 30) (by decide) (dk_X4_next 15 _ rfl) ?_ ?_
    · refine F_iconst (v := (-1)) (by decide) (dk_X4_next 30 _ rfl) ?_
      exact F_ret rfl (dk_X4_next 31 _ rfl)
    · refine F_aload_n (i := 0) (a := 0) rfl rfl (dk_X4_next 18 _ rfl) ?_
      refine F_gR (b := 3) fxX_4_0_2 fl_4_9 (dk_X4_next 19 _ rfl) ?_
      refine F_aload_n (i := 0) (a := 0) rfl rfl (dk_X4_next 22 _ rfl) ?_
      refine F_gI (n := 130) fxX_4_2_2 rfl fl_4_20 (dk_X4_next 23 _ rfl) ?_
      refine F_bald (axX_2_3) (dk_X4_next 26 _ rfl) (fun x1 => ?_)
      refine F_goto (tgt := 31) (by decide) (dk_X4_next 27 _ rfl) ?_
      exact F_ret rfl (dk_X4_next 31 _ rfl)
def fb_X4_word_2 (K2 : mM → Nat → Int32 → fR Unit) (m : mM) (y1 : Nat) (y2 : Int32) : fR Unit :=
  (stL y1).bind fun x1 => (if x1 ≤ y2 then some ((), m) else bnd (f_X4_next m ) fun (x2 : Int32) (m3 : mM) => (stA y1 y2).bind fun x5 => (if x2 = x5 then nmM (wI m3 130 (((mI m3 130) + 1))) fun m7 => (K2 m7 y1 (y2 + 1)) else nmM (wI m3 131 0) fun m6 => (K2 m6 y1 (y2 + 1))))
def f_X4_word_2  : Nat → mM → Nat → Int32 → fR Unit
  | 0, _, _, _ => none
  | F + 1, m, y1, y2 => fb_X4_word_2  (f_X4_word_2  F) m y1 y2
theorem jb_X4_word_2 (K2 : mM → Nat → Int32 → fR Unit) (hK2 : ∀ (m : mM) (y1 : Nat) (y2 : Int32) , JF true uU m_X4_word 6 2 [(0, .ref 2), (1, .retAddr y1), (2, .int y2)] [] m (K2 m y1 y2)) (m : mM) (y1 : Nat) (y2 : Int32)  : JF true uU m_X4_word 6 2 [(0, .ref 2), (1, .retAddr y1), (2, .int y2)] [] m (fb_X4_word_2 K2 m y1 y2) := by
  unfold fb_X4_word_2
  refine F_iload_n (i := 2) (a := 2) rfl rfl (dk_X4_word 2 _ rfl) ?_
  refine F_sload_n (i := 1) (a := 1) rfl rfl (dk_X4_word 3 _ rfl) ?_
  refine F_slen ol_4_41 (Nat.le_of_ble_eq_true rfl) (by omega) (dk_X4_word 4 _ rfl) (fun x1 => ?_)
  refine F_icmp_ge (tgt := 46) (by decide) (dk_X4_word 7 _ rfl) ?_ ?_
  · exact F_retV rfl (dk_X4_word 46 _ rfl)
  · refine F_aload_n (i := 0) (a := 0) rfl rfl (dk_X4_word 10 _ rfl) ?_
    refine F_callV (ι' := uI) (ci := 4) (b := 2) (As := []) (d' := 2) (rfl) ok_X4_next vi_X4_next cl_4_46 (n := 0) (by decide +kernel) rfl rfl rfl (Nat.le_of_ble_eq_true rfl) (by omega) (dk_X4_word 11 _ rfl) (c_X4_next _  ) (fun x2 m3 => ?_)
    show JF _ _ _ _ _ _ [.int x2] _ _
    refine F_sload_n (i := 1) (a := 1) rfl rfl (dk_X4_word 14 _ rfl) ?_
    refine F_iload_n (i := 2) (a := 2) rfl rfl (dk_X4_word 15 _ rfl) ?_
    refine F_sat ol_4_49 (Nat.le_of_ble_eq_true rfl) (by omega) (dk_X4_word 16 _ rfl) (fun x5 => ?_)
    refine F_icmp_ne (tgt := 35) (by decide) (dk_X4_word 19 _ rfl) ?_ ?_
    · refine F_aload_n (i := 0) (a := 0) rfl rfl (dk_X4_word 35 _ rfl) ?_
      refine F_iconst (v := 0) (by decide) (dk_X4_word 36 _ rfl) ?_
      refine F_pI (n := 131) fxX_4_3_2 rfl fl_4_24 (fun q hq => by cases hq; rfl) (Or.inl rfl) (dk_X4_word 37 _ rfl) (fun m6 => ?_)
      refine F_iinc (i := 2) (n := 1) (v := (y2 + 1)) (lv' := [(2, .int (y2 + 1)), (0, .ref 2), (1, .retAddr y1)]) rfl (by first | rfl | decide) (by decide) rfl (dk_X4_word 40 _ rfl) ?_
      refine F_goto (tgt := 2) (by decide) (dk_X4_word 43 _ rfl) ?_
      exact F_loc (List.forall_mem_cons.mpr ⟨(.tail _ (.head _)), (List.forall_mem_cons.mpr ⟨(.tail _ (.tail _ (.head _))), (List.forall_mem_cons.mpr ⟨(.head _), (fun _ z => absurd z List.not_mem_nil)⟩)⟩)⟩) (hK2 _ _ _ )
    · refine F_aload_n (i := 0) (a := 0) rfl rfl (dk_X4_word 22 _ rfl) ?_
      refine F_dup rfl (dk_X4_word 23 _ rfl) ?_
      refine F_gI (n := 130) fxX_4_2_2 rfl fl_4_20 (dk_X4_word 24 _ rfl) ?_
      refine F_iconst (v := 1) (by decide) (dk_X4_word 27 _ rfl) ?_
      refine F_iadd (dk_X4_word 28 _ rfl) ?_
      refine F_pI (n := 130) fxX_4_2_2 rfl fl_4_20 (fun q hq => by cases hq; rfl) trivial (dk_X4_word 29 _ rfl) (fun m7 => ?_)
      refine F_goto (tgt := 40) (by decide) (dk_X4_word 32 _ rfl) ?_
      refine F_iinc (i := 2) (n := 1) (v := (y2 + 1)) (lv' := [(2, .int (y2 + 1)), (0, .ref 2), (1, .retAddr y1)]) rfl (by first | rfl | decide) (by decide) rfl (dk_X4_word 40 _ rfl) ?_
      refine F_goto (tgt := 2) (by decide) (dk_X4_word 43 _ rfl) ?_
      exact F_loc (List.forall_mem_cons.mpr ⟨(.tail _ (.head _)), (List.forall_mem_cons.mpr ⟨(.tail _ (.tail _ (.head _))), (List.forall_mem_cons.mpr ⟨(.head _), (fun _ z => absurd z List.not_mem_nil)⟩)⟩)⟩) (hK2 _ _ _ )
theorem j_X4_word_2   : ∀ (F : Nat) (m : mM) (y1 : Nat) (y2 : Int32) , JF true uU m_X4_word 6 2 [(0, .ref 2), (1, .retAddr y1), (2, .int y2)] [] m (f_X4_word_2  F m y1 y2) := by
  intro F
  induction F with
  | zero => intro m y1 y2 ; exact F_no
  | succ F ih => intro m y1 y2 ; exact jb_X4_word_2  (f_X4_word_2  F)  ih m y1 y2 
def f_X4_word (m : mM) (a1 : Nat) : fR Unit :=
  (f_X4_word_2  1000 m a1 0)
theorem c_X4_word (m : mM) (a1 : Nat)  : cF true uU m_X4_word 6 [.ref 2, .retAddr a1] m (f_X4_word m a1) := by
  refine cF_of ok_X4_word (fun _ _ => Nat.le_of_ble_eq_true rfl) ?_
  unfold f_X4_word
  show JF _ _ _ _ _ [(0, .ref 2), (1, .retAddr a1)] _ _ _
  refine F_iconst (v := 0) (by decide) (dk_X4_word 0 _ rfl) ?_
  refine F_istore_n (lv' := [(2, .int 0), (0, .ref 2), (1, .retAddr a1)]) (i := 2) (a := 2) rfl (by decide) rfl (dk_X4_word 1 _ rfl) ?_
  exact F_loc (List.forall_mem_cons.mpr ⟨(.tail _ (.head _)), (List.forall_mem_cons.mpr ⟨(.tail _ (.tail _ (.head _))), (List.forall_mem_cons.mpr ⟨(.head _), (fun _ z => absurd z List.not_mem_nil)⟩)⟩)⟩) (j_X4_word_2   1000 _ _ _ )
def f_X4_number_56  (m : mM) (y1 : Int32) (y2 : Int32) : fR Int32 :=
  (if y2 = 0 then nmM (wI m 131 0) fun m1 => some (y1, m1) else some (y1, m))
theorem j_X4_number_56   (m : mM) (y1 : Int32) (y2 : Int32)  : JF true uI m_X4_number 3 56 [(0, .ref 2), (1, .int y1), (2, .int y2)] [] m (f_X4_number_56  m y1 y2) := by
  unfold f_X4_number_56
  refine F_iload_n (i := 2) (a := 2) rfl rfl (dk_X4_number 56 _ rfl) ?_
  refine F_if_ne (tgt := 65) (by decide) (dk_X4_number 57 _ rfl) ?_ ?_
  · refine F_iload_n (i := 1) (a := 1) rfl rfl (dk_X4_number 65 _ rfl) ?_
    exact F_ret rfl (dk_X4_number 66 _ rfl)
  · refine F_aload_n (i := 0) (a := 0) rfl rfl (dk_X4_number 60 _ rfl) ?_
    refine F_iconst (v := 0) (by decide) (dk_X4_number 61 _ rfl) ?_
    refine F_pI (n := 131) fxX_4_3_2 rfl fl_4_24 (fun q hq => by cases hq; rfl) (Or.inl rfl) (dk_X4_number 62 _ rfl) (fun m1 => ?_)
    refine F_iload_n (i := 1) (a := 1) rfl rfl (dk_X4_number 65 _ rfl) ?_
    exact F_ret rfl (dk_X4_number 66 _ rfl)
def fb_X4_number_4 (K4 : mM → Int32 → Int32 → fR Int32) (m : mM) (y1 : Int32) (y2 : Int32) : fR Int32 :=
  (if 2 ≤ y2 then (f_X4_number_56  m y1 y2) else bnd (f_X4_next m ) fun (x2 : Int32) (m3 : mM) => (if x2 < 48 then (f_X4_number_56  m3 y1 y2) else bnd (f_X4_next m3 ) fun (x5 : Int32) (m6 : mM) => (if 57 < x5 then (f_X4_number_56  m6 y1 y2) else bnd (f_X4_next m6 ) fun (x8 : Int32) (m9 : mM) => nmI ((((10 * y1) + x8) - 48)) fun v11 => nmM (wI m9 130 (((mI m9 130) + 1))) fun m12 => (K4 m12 v11 (y2 + 1)))))
def f_X4_number_4  : Nat → mM → Int32 → Int32 → fR Int32
  | 0, _, _, _ => none
  | F + 1, m, y1, y2 => fb_X4_number_4  (f_X4_number_4  F) m y1 y2
theorem jb_X4_number_4 (K4 : mM → Int32 → Int32 → fR Int32) (hK4 : ∀ (m : mM) (y1 : Int32) (y2 : Int32) , JF true uI m_X4_number 3 4 [(0, .ref 2), (1, .int y1), (2, .int y2)] [] m (K4 m y1 y2)) (m : mM) (y1 : Int32) (y2 : Int32)  : JF true uI m_X4_number 3 4 [(0, .ref 2), (1, .int y1), (2, .int y2)] [] m (fb_X4_number_4 K4 m y1 y2) := by
  unfold fb_X4_number_4
  refine F_iload_n (i := 2) (a := 2) rfl rfl (dk_X4_number 4 _ rfl) ?_
  refine F_iconst (v := 2) (by decide) (dk_X4_number 5 _ rfl) ?_
  refine F_icmp_ge (tgt := 56) (by decide) (dk_X4_number 6 _ rfl) ?_ ?_
  · exact F_loc (fun _ z => z) (j_X4_number_56   _ _ _ )
  · refine F_aload_n (i := 0) (a := 0) rfl rfl (dk_X4_number 9 _ rfl) ?_
    refine F_callV (ι' := uI) (ci := 4) (b := 2) (As := []) (d' := 2) (rfl) ok_X4_next vi_X4_next cl_4_46 (n := 0) (by decide +kernel) rfl rfl rfl (Nat.le_of_ble_eq_true rfl) (by omega) (dk_X4_number 10 _ rfl) (c_X4_next _  ) (fun x2 m3 => ?_)
    show JF _ _ _ _ _ _ [.int x2] _ _
    refine F_bipush (v := 48) (by decide) (dk_X4_number 13 _ rfl) ?_
    refine F_icmp_lt (tgt := 56) (by decide) (dk_X4_number 15 _ rfl) ?_ ?_
    · exact F_loc (fun _ z => z) (j_X4_number_56   _ _ _ )
    · refine F_aload_n (i := 0) (a := 0) rfl rfl (dk_X4_number 18 _ rfl) ?_
      refine F_callV (ι' := uI) (ci := 4) (b := 2) (As := []) (d' := 2) (rfl) ok_X4_next vi_X4_next cl_4_46 (n := 0) (by decide +kernel) rfl rfl rfl (Nat.le_of_ble_eq_true rfl) (by omega) (dk_X4_number 19 _ rfl) (c_X4_next _  ) (fun x5 m6 => ?_)
      show JF _ _ _ _ _ _ [.int x5] _ _
      refine F_bipush (v := 57) (by decide) (dk_X4_number 22 _ rfl) ?_
      refine F_icmp_gt (tgt := 56) (by decide) (dk_X4_number 24 _ rfl) ?_ ?_
      · exact F_loc (fun _ z => z) (j_X4_number_56   _ _ _ )
      · refine F_bipush (v := 10) (by decide) (dk_X4_number 27 _ rfl) ?_
        refine F_iload_n (i := 1) (a := 1) rfl rfl (dk_X4_number 29 _ rfl) ?_
        refine F_imul (dk_X4_number 30 _ rfl) ?_
        refine F_aload_n (i := 0) (a := 0) rfl rfl (dk_X4_number 31 _ rfl) ?_
        refine F_callV (ι' := uI) (ci := 4) (b := 2) (As := []) (d' := 2) (rfl) ok_X4_next vi_X4_next cl_4_46 (n := 0) (by decide +kernel) rfl rfl rfl (Nat.le_of_ble_eq_true rfl) (by omega) (dk_X4_number 32 _ rfl) (c_X4_next _  ) (fun x8 m9 => ?_)
        show JF _ _ _ _ _ _ [.int x8, .int (10 * y1)] _ _
        refine F_iadd (dk_X4_number 35 _ rfl) ?_
        refine F_bipush (v := 48) (by decide) (dk_X4_number 36 _ rfl) ?_
        refine F_isub (dk_X4_number 38 _ rfl) ?_
        refine F_nm (fun v11 => ?_)
        refine F_istore_n (lv' := [(1, .int v11), (0, .ref 2), (2, .int y2)]) (i := 1) (a := 1) rfl (by decide) rfl (dk_X4_number 39 _ rfl) ?_
        refine F_aload_n (i := 0) (a := 0) rfl rfl (dk_X4_number 40 _ rfl) ?_
        refine F_dup rfl (dk_X4_number 41 _ rfl) ?_
        refine F_gI (n := 130) fxX_4_2_2 rfl fl_4_20 (dk_X4_number 42 _ rfl) ?_
        refine F_iconst (v := 1) (by decide) (dk_X4_number 45 _ rfl) ?_
        refine F_iadd (dk_X4_number 46 _ rfl) ?_
        refine F_pI (n := 130) fxX_4_2_2 rfl fl_4_20 (fun q hq => by cases hq; rfl) trivial (dk_X4_number 47 _ rfl) (fun m12 => ?_)
        refine F_iinc (i := 2) (n := 1) (v := (y2 + 1)) (lv' := [(2, .int (y2 + 1)), (1, .int v11), (0, .ref 2)]) rfl (by first | rfl | decide) (by decide) rfl (dk_X4_number 50 _ rfl) ?_
        refine F_goto (tgt := 4) (by decide) (dk_X4_number 53 _ rfl) ?_
        exact F_loc (List.forall_mem_cons.mpr ⟨(.tail _ (.tail _ (.head _))), (List.forall_mem_cons.mpr ⟨(.tail _ (.head _)), (List.forall_mem_cons.mpr ⟨(.head _), (fun _ z => absurd z List.not_mem_nil)⟩)⟩)⟩) (hK4 _ _ _ )
theorem j_X4_number_4   : ∀ (F : Nat) (m : mM) (y1 : Int32) (y2 : Int32) , JF true uI m_X4_number 3 4 [(0, .ref 2), (1, .int y1), (2, .int y2)] [] m (f_X4_number_4  F m y1 y2) := by
  intro F
  induction F with
  | zero => intro m y1 y2 ; exact F_no
  | succ F ih => intro m y1 y2 ; exact jb_X4_number_4  (f_X4_number_4  F)  ih m y1 y2 
def f_X4_number (m : mM)  : fR Int32 :=
  (f_X4_number_4  1000 m 0 0)
theorem c_X4_number (m : mM)   : cF true uI m_X4_number 3 [.ref 2] m (f_X4_number m ) := by
  refine cF_of ok_X4_number (fun _ _ => Nat.le_of_ble_eq_true rfl) ?_
  unfold f_X4_number
  show JF _ _ _ _ _ [(0, .ref 2)] _ _ _
  refine F_iconst (v := 0) (by decide) (dk_X4_number 0 _ rfl) ?_
  refine F_istore_n (lv' := [(1, .int 0), (0, .ref 2)]) (i := 1) (a := 1) rfl (by decide) rfl (dk_X4_number 1 _ rfl) ?_
  refine F_iconst (v := 0) (by decide) (dk_X4_number 2 _ rfl) ?_
  refine F_istore_n (lv' := [(2, .int 0), (1, .int 0), (0, .ref 2)]) (i := 2) (a := 2) rfl (by decide) rfl (dk_X4_number 3 _ rfl) ?_
  exact F_loc (List.forall_mem_cons.mpr ⟨(.tail _ (.tail _ (.head _))), (List.forall_mem_cons.mpr ⟨(.tail _ (.head _)), (List.forall_mem_cons.mpr ⟨(.head _), (fun _ z => absurd z List.not_mem_nil)⟩)⟩)⟩) (j_X4_number_4   1000 _ _ _ )
def f_X5_addTest (m : mM) (a0 : Nat) (p1 : Int32) (p2 : Int32) (p3 : Int32) : fR Unit :=
  (if 100 ≤ (mI m (64 * a0 + 4)) then some ((), m) else (sA 0 m (a0 + 1) ((mI m (64 * a0 + 4))) p1).bind fun m1 => (sA 0 m1 (a0 + 2) ((mI m1 (64 * a0 + 4))) p2).bind fun m2 => (sA 0 m2 (a0 + 3) ((mI m2 (64 * a0 + 4))) p3).bind fun m3 => nmM (wI m3 (64 * a0 + 4) (((mI m3 (64 * a0 + 4)) + 1))) fun m4 => some ((), m4))
theorem c_X5_addTest (m : mM) (a0 : Nat) (p1 : Int32) (p2 : Int32) (p3 : Int32) (ha0 : isC true 5 a0 = true) : cF true uU m_X5_addTest 2 [.ref a0, .int p1, .int p2, .int p3] m (f_X5_addTest m a0 p1 p2 p3) := by
  refine cF_of ok_X5_addTest (fun _ _ => Nat.le_of_ble_eq_true rfl) ?_
  unfold f_X5_addTest
  show JF _ _ _ _ _ [(0, .ref a0), (1, .int p1), (2, .int p2), (3, .int p3)] _ _ _
  refine F_aload_n (i := 0) (a := 0) rfl rfl (dk_X5_addTest 0 _ rfl) ?_
  refine F_gI (n := (64 * a0 + 4)) (lyT_4 ha0) rfl fl_5_43 (dk_X5_addTest 1 _ rfl) ?_
  refine F_bipush (v := 100) (by decide) (dk_X5_addTest 4 _ rfl) ?_
  refine F_icmp_ge (tgt := 49) (by decide) (dk_X5_addTest 6 _ rfl) ?_ ?_
  · exact F_retV rfl (dk_X5_addTest 49 _ rfl)
  · refine F_aload_n (i := 0) (a := 0) rfl rfl (dk_X5_addTest 9 _ rfl) ?_
    refine F_gR (b := (a0 + 1)) (lyT_5 ha0).1 fl_5_9 (dk_X5_addTest 10 _ rfl) ?_
    refine F_aload_n (i := 0) (a := 0) rfl rfl (dk_X5_addTest 13 _ rfl) ?_
    refine F_gI (n := (64 * a0 + 4)) (lyT_4 ha0) rfl fl_5_43 (dk_X5_addTest 14 _ rfl) ?_
    refine F_iload_n (i := 1) (a := 1) rfl rfl (dk_X5_addTest 17 _ rfl) ?_
    refine F_iast ((lyT_5 ha0).2) (dk_X5_addTest 18 _ rfl) (fun m1 => ?_)
    refine F_aload_n (i := 0) (a := 0) rfl rfl (dk_X5_addTest 19 _ rfl) ?_
    refine F_gR (b := (a0 + 2)) (lyT_6 ha0).1 fl_5_15 (dk_X5_addTest 20 _ rfl) ?_
    refine F_aload_n (i := 0) (a := 0) rfl rfl (dk_X5_addTest 23 _ rfl) ?_
    refine F_gI (n := (64 * a0 + 4)) (lyT_4 ha0) rfl fl_5_43 (dk_X5_addTest 24 _ rfl) ?_
    refine F_iload_n (i := 2) (a := 2) rfl rfl (dk_X5_addTest 27 _ rfl) ?_
    refine F_iast ((lyT_6 ha0).2) (dk_X5_addTest 28 _ rfl) (fun m2 => ?_)
    refine F_aload_n (i := 0) (a := 0) rfl rfl (dk_X5_addTest 29 _ rfl) ?_
    refine F_gR (b := (a0 + 3)) (lyT_7 ha0).1 fl_5_18 (dk_X5_addTest 30 _ rfl) ?_
    refine F_aload_n (i := 0) (a := 0) rfl rfl (dk_X5_addTest 33 _ rfl) ?_
    refine F_gI (n := (64 * a0 + 4)) (lyT_4 ha0) rfl fl_5_43 (dk_X5_addTest 34 _ rfl) ?_
    refine F_iload_n (i := 3) (a := 3) rfl rfl (dk_X5_addTest 37 _ rfl) ?_
    refine F_iast ((lyT_7 ha0).2) (dk_X5_addTest 38 _ rfl) (fun m3 => ?_)
    refine F_aload_n (i := 0) (a := 0) rfl rfl (dk_X5_addTest 39 _ rfl) ?_
    refine F_dup rfl (dk_X5_addTest 40 _ rfl) ?_
    refine F_gI (n := (64 * a0 + 4)) (lyT_4 ha0) rfl fl_5_43 (dk_X5_addTest 41 _ rfl) ?_
    refine F_iconst (v := 1) (by decide) (dk_X5_addTest 44 _ rfl) ?_
    refine F_iadd (dk_X5_addTest 45 _ rfl) ?_
    refine F_pI (n := (64 * a0 + 4)) (lyT_4 ha0) rfl fl_5_43 (fun q hq => by cases hq; rfl) trivial (dk_X5_addTest 46 _ rfl) (fun m4 => ?_)
    exact F_retV rfl (dk_X5_addTest 49 _ rfl)
def f_X5_addJoint (m : mM) (a0 : Nat) (p1 : Int32) : fR Unit :=
  bnd (f_X5_addTest m a0 p1 0 0) fun (x1 : Unit) (m2 : mM) => some ((), m2)
theorem c_X5_addJoint (m : mM) (a0 : Nat) (p1 : Int32) (ha0 : isC true 5 a0 = true) : cF true uU m_X5_addJoint 3 [.ref a0, .int p1] m (f_X5_addJoint m a0 p1) := by
  refine cF_of ok_X5_addJoint (fun _ _ => Nat.le_of_ble_eq_true rfl) ?_
  unfold f_X5_addJoint
  show JF _ _ _ _ _ [(0, .ref a0), (1, .int p1)] _ _ _
  refine F_aload_n (i := 0) (a := 0) rfl rfl (dk_X5_addJoint 0 _ rfl) ?_
  refine F_iload_n (i := 1) (a := 1) rfl rfl (dk_X5_addJoint 1 _ rfl) ?_
  refine F_iconst (v := 0) (by decide) (dk_X5_addJoint 2 _ rfl) ?_
  refine F_iconst (v := 0) (by decide) (dk_X5_addJoint 3 _ rfl) ?_
  refine F_callV (ι' := uU) (ci := 5) (b := a0) (As := [.int p1, .int 0, .int 0]) (d' := 2) (ha0) ok_X5_addTest vi_X5_addTest cl_5_46 (n := 3) (by decide +kernel) rfl rfl rfl (Nat.le_of_ble_eq_true rfl) (by omega) (dk_X5_addJoint 4 _ rfl) (c_X5_addTest _ _ _ _ _ (ha0)) (fun x1 m2 => ?_)
  show JF _ _ _ _ _ _ [] _ _
  exact F_retV rfl (dk_X5_addJoint 7 _ rfl)
def f_X4_either_99 (rc : mM → Nat → Int32 → fR Unit)  (m : mM) (y1 : Nat) (y3 : Int32) : fR Unit :=
  (if y3 = 0 then some ((), m) else bnd (f_X5_addJoint m y1 124) fun (x4 : Unit) (m5 : mM) => some ((), m5))
theorem j_X4_either_99 (rc : mM → Nat → Int32 → fR Unit) (dr : Nat) (hdr : 3 ≤ dr) (hrc : ∀ (m : mM) (b : Nat) (x : Int32) (_ : isC true 5 b = true), cF true uU m_X4_one dr [.ref 2, .ref b, .int x] m (rc m b x))   (m : mM) (y1 : Nat) (y3 : Int32) (hy1 : isC true 5 y1 = true) : JF true uU m_X4_either (dr + 1) 99 [(1, .ref y1), (3, .int y3)] [] m (f_X4_either_99 rc  m y1 y3) := by
  unfold f_X4_either_99
  refine F_iload_n (i := 3) (a := 3) rfl rfl (dk_X4_either 99 _ rfl) ?_
  refine F_if_eq (tgt := 109) (by decide) (dk_X4_either 100 _ rfl) ?_ ?_
  · exact F_retV rfl (dk_X4_either 109 _ rfl)
  · refine F_aload_n (i := 1) (a := 1) rfl rfl (dk_X4_either 103 _ rfl) ?_
    refine F_bipush (v := 124) (by decide) (dk_X4_either 104 _ rfl) ?_
    refine F_callV (ι' := uU) (ci := 5) (b := y1) (As := [.int 124]) (d' := 3) (hy1) ok_X5_addJoint vi_X5_addJoint cl_4_86 (n := 1) (by decide +kernel) rfl rfl rfl (Nat.le_of_ble_eq_true rfl) (by omega) (dk_X4_either 106 _ rfl) (c_X5_addJoint _ _ _ (hy1)) (fun x4 m5 => ?_)
    show JF _ _ _ _ _ _ [] _ _
    exact F_retV rfl (dk_X4_either 109 _ rfl)
def f_X4_either_69 (rc : mM → Nat → Int32 → fR Unit) (K11 : mM → Nat → Int32 → Int32 → Int32 → fR Unit) (m : mM) (y1 : Nat) (y2 : Int32) (y3 : Int32) (y4 : Int32) (y5 : Int32) : fR Unit :=
  bnd (rc m y1 y2) fun (x14 : Unit) (m15 : mM) => (if y5 = 38 then bnd (f_X5_addJoint m15 y1 38) fun (x17 : Unit) (m18 : mM) => (K11 m18 y1 y2 y3 (y4 + 1)) else (K11 m15 y1 y2 1 (y4 + 1)))
theorem j_X4_either_69 (rc : mM → Nat → Int32 → fR Unit) (dr : Nat) (hdr : 3 ≤ dr) (hrc : ∀ (m : mM) (b : Nat) (x : Int32) (_ : isC true 5 b = true), cF true uU m_X4_one dr [.ref 2, .ref b, .int x] m (rc m b x)) (K11 : mM → Nat → Int32 → Int32 → Int32 → fR Unit) (hK11 : ∀ (m : mM) (y1 : Nat) (y2 : Int32) (y3 : Int32) (y4 : Int32) (hy1 : isC true 5 y1 = true), JF true uU m_X4_either (dr + 1) 11 [(0, .ref 2), (1, .ref y1), (2, .int y2), (3, .int y3), (4, .int y4)] [] m (K11 m y1 y2 y3 y4)) (m : mM) (y1 : Nat) (y2 : Int32) (y3 : Int32) (y4 : Int32) (y5 : Int32) (hy1 : isC true 5 y1 = true) : JF true uU m_X4_either (dr + 1) 69 [(0, .ref 2), (1, .ref y1), (2, .int y2), (3, .int y3), (4, .int y4), (5, .int y5)] [] m (f_X4_either_69 rc K11 m y1 y2 y3 y4 y5) := by
  unfold f_X4_either_69
  refine F_aload_n (i := 0) (a := 0) rfl rfl (dk_X4_either 69 _ rfl) ?_
  refine F_aload_n (i := 1) (a := 1) rfl rfl (dk_X4_either 70 _ rfl) ?_
  refine F_iload_n (i := 2) (a := 2) rfl rfl (dk_X4_either 71 _ rfl) ?_
  refine F_callV (ι' := uU) (ci := 4) (b := 2) (As := [.ref y1, .int y2]) (d' := dr) (rfl) ok_X4_one vi_X4_one cl_4_83 (n := 2) (by decide +kernel) rfl rfl rfl (Nat.le_of_ble_eq_true rfl) (by omega) (dk_X4_either 72 _ rfl) (hrc _ _ _ (hy1)) (fun x14 m15 => ?_)
  show JF _ _ _ _ _ _ [] _ _
  refine F_iload (i := 5) rfl (dk_X4_either 75 _ rfl) ?_
  refine F_bipush (v := 38) (by decide) (dk_X4_either 77 _ rfl) ?_
  refine F_icmp_ne (tgt := 91) (by decide) (dk_X4_either 79 _ rfl) ?_ ?_
  · refine F_iconst (v := 1) (by decide) (dk_X4_either 91 _ rfl) ?_
    refine F_istore_n (lv' := [(3, .int 1), (0, .ref 2), (1, .ref y1), (2, .int y2), (4, .int y4), (5, .int y5)]) (i := 3) (a := 3) rfl (by decide) rfl (dk_X4_either 92 _ rfl) ?_
    refine F_iinc (i := 4) (n := 1) (v := (y4 + 1)) (lv' := [(4, .int (y4 + 1)), (3, .int 1), (0, .ref 2), (1, .ref y1), (2, .int y2), (5, .int y5)]) rfl (by first | rfl | decide) (by decide) rfl (dk_X4_either 93 _ rfl) ?_
    refine F_goto (tgt := 11) (by decide) (dk_X4_either 96 _ rfl) ?_
    exact F_loc (List.forall_mem_cons.mpr ⟨(.tail _ (.tail _ (.head _))), (List.forall_mem_cons.mpr ⟨(.tail _ (.tail _ (.tail _ (.head _)))), (List.forall_mem_cons.mpr ⟨(.tail _ (.tail _ (.tail _ (.tail _ (.head _))))), (List.forall_mem_cons.mpr ⟨(.tail _ (.head _)), (List.forall_mem_cons.mpr ⟨(.head _), (fun _ z => absurd z List.not_mem_nil)⟩)⟩)⟩)⟩)⟩) (hK11 _ _ _ _ _ (hy1))
  · refine F_aload_n (i := 1) (a := 1) rfl rfl (dk_X4_either 82 _ rfl) ?_
    refine F_bipush (v := 38) (by decide) (dk_X4_either 83 _ rfl) ?_
    refine F_callV (ι' := uU) (ci := 5) (b := y1) (As := [.int 38]) (d' := 3) (hy1) ok_X5_addJoint vi_X5_addJoint cl_4_86 (n := 1) (by decide +kernel) rfl rfl rfl (Nat.le_of_ble_eq_true rfl) (by omega) (dk_X4_either 85 _ rfl) (c_X5_addJoint _ _ _ (hy1)) (fun x17 m18 => ?_)
    show JF _ _ _ _ _ _ [] _ _
    refine F_goto (tgt := 93) (by decide) (dk_X4_either 88 _ rfl) ?_
    refine F_iinc (i := 4) (n := 1) (v := (y4 + 1)) (lv' := [(4, .int (y4 + 1)), (0, .ref 2), (1, .ref y1), (2, .int y2), (3, .int y3), (5, .int y5)]) rfl (by first | rfl | decide) (by decide) rfl (dk_X4_either 93 _ rfl) ?_
    refine F_goto (tgt := 11) (by decide) (dk_X4_either 96 _ rfl) ?_
    exact F_loc (List.forall_mem_cons.mpr ⟨(.tail _ (.head _)), (List.forall_mem_cons.mpr ⟨(.tail _ (.tail _ (.head _))), (List.forall_mem_cons.mpr ⟨(.tail _ (.tail _ (.tail _ (.head _)))), (List.forall_mem_cons.mpr ⟨(.tail _ (.tail _ (.tail _ (.tail _ (.head _))))), (List.forall_mem_cons.mpr ⟨(.head _), (fun _ z => absurd z List.not_mem_nil)⟩)⟩)⟩)⟩)⟩) (hK11 _ _ _ _ _ (hy1))
def f_X4_either_36 (rc : mM → Nat → Int32 → fR Unit) (K11 : mM → Nat → Int32 → Int32 → Int32 → fR Unit) (m : mM) (y1 : Nat) (y2 : Int32) (y3 : Int32) (y4 : Int32) : fR Unit :=
  bnd (f_X4_next m ) fun (x10 : Int32) (m11 : mM) => nmM (wI m11 130 (((mI m11 130) + 1))) fun m13 => (if x10 = 124 then (if y3 = 0 then (f_X4_either_69 rc K11 m13 y1 y2 y3 y4 x10) else bnd (f_X5_addJoint m13 y1 124) fun (x20 : Unit) (m21 : mM) => (f_X4_either_69 rc K11 m21 y1 y2 y3 y4 x10)) else (f_X4_either_69 rc K11 m13 y1 y2 y3 y4 x10))
theorem j_X4_either_36 (rc : mM → Nat → Int32 → fR Unit) (dr : Nat) (hdr : 3 ≤ dr) (hrc : ∀ (m : mM) (b : Nat) (x : Int32) (_ : isC true 5 b = true), cF true uU m_X4_one dr [.ref 2, .ref b, .int x] m (rc m b x)) (K11 : mM → Nat → Int32 → Int32 → Int32 → fR Unit) (hK11 : ∀ (m : mM) (y1 : Nat) (y2 : Int32) (y3 : Int32) (y4 : Int32) (hy1 : isC true 5 y1 = true), JF true uU m_X4_either (dr + 1) 11 [(0, .ref 2), (1, .ref y1), (2, .int y2), (3, .int y3), (4, .int y4)] [] m (K11 m y1 y2 y3 y4)) (m : mM) (y1 : Nat) (y2 : Int32) (y3 : Int32) (y4 : Int32) (hy1 : isC true 5 y1 = true) : JF true uU m_X4_either (dr + 1) 36 [(0, .ref 2), (1, .ref y1), (2, .int y2), (3, .int y3), (4, .int y4)] [] m (f_X4_either_36 rc K11 m y1 y2 y3 y4) := by
  unfold f_X4_either_36
  refine F_aload_n (i := 0) (a := 0) rfl rfl (dk_X4_either 36 _ rfl) ?_
  refine F_callV (ι' := uI) (ci := 4) (b := 2) (As := []) (d' := 2) (rfl) ok_X4_next vi_X4_next cl_4_46 (n := 0) (by decide +kernel) rfl rfl rfl (Nat.le_of_ble_eq_true rfl) (by omega) (dk_X4_either 37 _ rfl) (c_X4_next _  ) (fun x10 m11 => ?_)
  show JF _ _ _ _ _ _ [.int x10] _ _
  refine F_istore (lv' := [(5, .int x10), (0, .ref 2), (1, .ref y1), (2, .int y2), (3, .int y3), (4, .int y4)]) (i := 5) (by decide) rfl (dk_X4_either 40 _ rfl) ?_
  refine F_aload_n (i := 0) (a := 0) rfl rfl (dk_X4_either 42 _ rfl) ?_
  refine F_dup rfl (dk_X4_either 43 _ rfl) ?_
  refine F_gI (n := 130) fxX_4_2_2 rfl fl_4_20 (dk_X4_either 44 _ rfl) ?_
  refine F_iconst (v := 1) (by decide) (dk_X4_either 47 _ rfl) ?_
  refine F_iadd (dk_X4_either 48 _ rfl) ?_
  refine F_pI (n := 130) fxX_4_2_2 rfl fl_4_20 (fun q hq => by cases hq; rfl) trivial (dk_X4_either 49 _ rfl) (fun m13 => ?_)
  refine F_iload (i := 5) rfl (dk_X4_either 52 _ rfl) ?_
  refine F_bipush (v := 124) (by decide) (dk_X4_either 54 _ rfl) ?_
  refine F_icmp_ne (tgt := 69) (by decide) (dk_X4_either 56 _ rfl) ?_ ?_
  · exact F_loc (List.forall_mem_cons.mpr ⟨(.tail _ (.head _)), (List.forall_mem_cons.mpr ⟨(.tail _ (.tail _ (.head _))), (List.forall_mem_cons.mpr ⟨(.tail _ (.tail _ (.tail _ (.head _)))), (List.forall_mem_cons.mpr ⟨(.tail _ (.tail _ (.tail _ (.tail _ (.head _))))), (List.forall_mem_cons.mpr ⟨(.tail _ (.tail _ (.tail _ (.tail _ (.tail _ (.head _)))))), (List.forall_mem_cons.mpr ⟨(.head _), (fun _ z => absurd z List.not_mem_nil)⟩)⟩)⟩)⟩)⟩)⟩) (j_X4_either_69 rc dr hdr hrc K11 hK11 _ _ _ _ _ _ (hy1))
  · refine F_iload_n (i := 3) (a := 3) rfl rfl (dk_X4_either 59 _ rfl) ?_
    refine F_if_eq (tgt := 69) (by decide) (dk_X4_either 60 _ rfl) ?_ ?_
    · exact F_loc (List.forall_mem_cons.mpr ⟨(.tail _ (.head _)), (List.forall_mem_cons.mpr ⟨(.tail _ (.tail _ (.head _))), (List.forall_mem_cons.mpr ⟨(.tail _ (.tail _ (.tail _ (.head _)))), (List.forall_mem_cons.mpr ⟨(.tail _ (.tail _ (.tail _ (.tail _ (.head _))))), (List.forall_mem_cons.mpr ⟨(.tail _ (.tail _ (.tail _ (.tail _ (.tail _ (.head _)))))), (List.forall_mem_cons.mpr ⟨(.head _), (fun _ z => absurd z List.not_mem_nil)⟩)⟩)⟩)⟩)⟩)⟩) (j_X4_either_69 rc dr hdr hrc K11 hK11 _ _ _ _ _ _ (hy1))
    · refine F_aload_n (i := 1) (a := 1) rfl rfl (dk_X4_either 63 _ rfl) ?_
      refine F_bipush (v := 124) (by decide) (dk_X4_either 64 _ rfl) ?_
      refine F_callV (ι' := uU) (ci := 5) (b := y1) (As := [.int 124]) (d' := 3) (hy1) ok_X5_addJoint vi_X5_addJoint cl_4_86 (n := 1) (by decide +kernel) rfl rfl rfl (Nat.le_of_ble_eq_true rfl) (by omega) (dk_X4_either 66 _ rfl) (c_X5_addJoint _ _ _ (hy1)) (fun x20 m21 => ?_)
      show JF _ _ _ _ _ _ [] _ _
      exact F_loc (List.forall_mem_cons.mpr ⟨(.tail _ (.head _)), (List.forall_mem_cons.mpr ⟨(.tail _ (.tail _ (.head _))), (List.forall_mem_cons.mpr ⟨(.tail _ (.tail _ (.tail _ (.head _)))), (List.forall_mem_cons.mpr ⟨(.tail _ (.tail _ (.tail _ (.tail _ (.head _))))), (List.forall_mem_cons.mpr ⟨(.tail _ (.tail _ (.tail _ (.tail _ (.tail _ (.head _)))))), (List.forall_mem_cons.mpr ⟨(.head _), (fun _ z => absurd z List.not_mem_nil)⟩)⟩)⟩)⟩)⟩)⟩) (j_X4_either_69 rc dr hdr hrc K11 hK11 _ _ _ _ _ _ (hy1))
def fb_X4_either_11 (rc : mM → Nat → Int32 → fR Unit) (K11 : mM → Nat → Int32 → Int32 → Int32 → fR Unit) (m : mM) (y1 : Nat) (y2 : Int32) (y3 : Int32) (y4 : Int32) : fR Unit :=
  (if 100 ≤ y4 then (f_X4_either_99 rc  m y1 y3) else bnd (f_X4_next m ) fun (x7 : Int32) (m8 : mM) => (if x7 = 38 then (f_X4_either_36 rc K11 m8 y1 y2 y3 y4) else bnd (f_X4_next m8 ) fun (x23 : Int32) (m24 : mM) => (if x23 = 124 then (f_X4_either_36 rc K11 m24 y1 y2 y3 y4) else (f_X4_either_99 rc  m24 y1 y3))))
def f_X4_either_11 (rc : mM → Nat → Int32 → fR Unit)  : Nat → mM → Nat → Int32 → Int32 → Int32 → fR Unit
  | 0, _, _, _, _, _ => none
  | F + 1, m, y1, y2, y3, y4 => fb_X4_either_11 rc  (f_X4_either_11 rc  F) m y1 y2 y3 y4
theorem jb_X4_either_11 (rc : mM → Nat → Int32 → fR Unit) (dr : Nat) (hdr : 3 ≤ dr) (hrc : ∀ (m : mM) (b : Nat) (x : Int32) (_ : isC true 5 b = true), cF true uU m_X4_one dr [.ref 2, .ref b, .int x] m (rc m b x)) (K11 : mM → Nat → Int32 → Int32 → Int32 → fR Unit) (hK11 : ∀ (m : mM) (y1 : Nat) (y2 : Int32) (y3 : Int32) (y4 : Int32) (hy1 : isC true 5 y1 = true), JF true uU m_X4_either (dr + 1) 11 [(0, .ref 2), (1, .ref y1), (2, .int y2), (3, .int y3), (4, .int y4)] [] m (K11 m y1 y2 y3 y4)) (m : mM) (y1 : Nat) (y2 : Int32) (y3 : Int32) (y4 : Int32) (hy1 : isC true 5 y1 = true) : JF true uU m_X4_either (dr + 1) 11 [(0, .ref 2), (1, .ref y1), (2, .int y2), (3, .int y3), (4, .int y4)] [] m (fb_X4_either_11 rc K11 m y1 y2 y3 y4) := by
  unfold fb_X4_either_11
  refine F_iload (i := 4) rfl (dk_X4_either 11 _ rfl) ?_
  refine F_bipush (v := 100) (by decide) (dk_X4_either 13 _ rfl) ?_
  refine F_icmp_ge (tgt := 99) (by decide) (dk_X4_either 15 _ rfl) ?_ ?_
  · exact F_loc (List.forall_mem_cons.mpr ⟨(.tail _ (.head _)), (List.forall_mem_cons.mpr ⟨(.tail _ (.tail _ (.tail _ (.head _)))), (fun _ z => absurd z List.not_mem_nil)⟩)⟩) (j_X4_either_99 rc dr hdr hrc   _ _ _ (hy1))
  · refine F_aload_n (i := 0) (a := 0) rfl rfl (dk_X4_either 18 _ rfl) ?_
    refine F_callV (ι' := uI) (ci := 4) (b := 2) (As := []) (d' := 2) (rfl) ok_X4_next vi_X4_next cl_4_46 (n := 0) (by decide +kernel) rfl rfl rfl (Nat.le_of_ble_eq_true rfl) (by omega) (dk_X4_either 19 _ rfl) (c_X4_next _  ) (fun x7 m8 => ?_)
    show JF _ _ _ _ _ _ [.int x7] _ _
    refine F_bipush (v := 38) (by decide) (dk_X4_either 22 _ rfl) ?_
    refine F_icmp_eq (tgt := 36) (by decide) (dk_X4_either 24 _ rfl) ?_ ?_
    · exact F_loc (fun _ z => z) (j_X4_either_36 rc dr hdr hrc K11 hK11 _ _ _ _ _ (hy1))
    · refine F_aload_n (i := 0) (a := 0) rfl rfl (dk_X4_either 27 _ rfl) ?_
      refine F_callV (ι' := uI) (ci := 4) (b := 2) (As := []) (d' := 2) (rfl) ok_X4_next vi_X4_next cl_4_46 (n := 0) (by decide +kernel) rfl rfl rfl (Nat.le_of_ble_eq_true rfl) (by omega) (dk_X4_either 28 _ rfl) (c_X4_next _  ) (fun x23 m24 => ?_)
      show JF _ _ _ _ _ _ [.int x23] _ _
      refine F_bipush (v := 124) (by decide) (dk_X4_either 31 _ rfl) ?_
      refine F_icmp_ne (tgt := 99) (by decide) (dk_X4_either 33 _ rfl) ?_ ?_
      · exact F_loc (List.forall_mem_cons.mpr ⟨(.tail _ (.head _)), (List.forall_mem_cons.mpr ⟨(.tail _ (.tail _ (.tail _ (.head _)))), (fun _ z => absurd z List.not_mem_nil)⟩)⟩) (j_X4_either_99 rc dr hdr hrc   _ _ _ (hy1))
      · exact F_loc (fun _ z => z) (j_X4_either_36 rc dr hdr hrc K11 hK11 _ _ _ _ _ (hy1))
theorem j_X4_either_11 (rc : mM → Nat → Int32 → fR Unit) (dr : Nat) (hdr : 3 ≤ dr) (hrc : ∀ (m : mM) (b : Nat) (x : Int32) (_ : isC true 5 b = true), cF true uU m_X4_one dr [.ref 2, .ref b, .int x] m (rc m b x))   : ∀ (F : Nat) (m : mM) (y1 : Nat) (y2 : Int32) (y3 : Int32) (y4 : Int32) (hy1 : isC true 5 y1 = true), JF true uU m_X4_either (dr + 1) 11 [(0, .ref 2), (1, .ref y1), (2, .int y2), (3, .int y3), (4, .int y4)] [] m (f_X4_either_11 rc  F m y1 y2 y3 y4) := by
  intro F
  induction F with
  | zero => intro m y1 y2 y3 y4 hy1; exact F_no
  | succ F ih => intro m y1 y2 y3 y4 hy1; exact jb_X4_either_11 rc dr hdr hrc  (f_X4_either_11 rc  F)  ih m y1 y2 y3 y4 hy1
def f_X4_either (rc : mM → Nat → Int32 → fR Unit) (m : mM) (a1 : Nat) (p2 : Int32) : fR Unit :=
  bnd (rc m a1 p2) fun (x1 : Unit) (m2 : mM) => (f_X4_either_11 rc  1000 m2 a1 p2 0 0)
theorem c_X4_either (rc : mM → Nat → Int32 → fR Unit) (dr : Nat) (hdr : 3 ≤ dr) (hrc : ∀ (m : mM) (b : Nat) (x : Int32) (_ : isC true 5 b = true), cF true uU m_X4_one dr [.ref 2, .ref b, .int x] m (rc m b x)) (m : mM) (a1 : Nat) (p2 : Int32) (ha1 : isC true 5 a1 = true) : cF true uU m_X4_either (dr + 1) [.ref 2, .ref a1, .int p2] m (f_X4_either rc m a1 p2) := by
  refine cF_of ok_X4_either (fun _ _ => Nat.le_of_ble_eq_true rfl) ?_
  unfold f_X4_either
  show JF _ _ _ _ _ [(0, .ref 2), (1, .ref a1), (2, .int p2)] _ _ _
  refine F_aload_n (i := 0) (a := 0) rfl rfl (dk_X4_either 0 _ rfl) ?_
  refine F_aload_n (i := 1) (a := 1) rfl rfl (dk_X4_either 1 _ rfl) ?_
  refine F_iload_n (i := 2) (a := 2) rfl rfl (dk_X4_either 2 _ rfl) ?_
  refine F_callV (ι' := uU) (ci := 4) (b := 2) (As := [.ref a1, .int p2]) (d' := dr) (rfl) ok_X4_one vi_X4_one cl_4_83 (n := 2) (by decide +kernel) rfl rfl rfl (Nat.le_of_ble_eq_true rfl) (by omega) (dk_X4_either 3 _ rfl) (hrc _ _ _ (ha1)) (fun x1 m2 => ?_)
  show JF _ _ _ _ _ _ [] _ _
  refine F_iconst (v := 0) (by decide) (dk_X4_either 6 _ rfl) ?_
  refine F_istore_n (lv' := [(3, .int 0), (0, .ref 2), (1, .ref a1), (2, .int p2)]) (i := 3) (a := 3) rfl (by decide) rfl (dk_X4_either 7 _ rfl) ?_
  refine F_iconst (v := 0) (by decide) (dk_X4_either 8 _ rfl) ?_
  refine F_istore (lv' := [(4, .int 0), (3, .int 0), (0, .ref 2), (1, .ref a1), (2, .int p2)]) (i := 4) (by decide) rfl (dk_X4_either 9 _ rfl) ?_
  exact F_loc (List.forall_mem_cons.mpr ⟨(.tail _ (.tail _ (.head _))), (List.forall_mem_cons.mpr ⟨(.tail _ (.tail _ (.tail _ (.head _)))), (List.forall_mem_cons.mpr ⟨(.tail _ (.tail _ (.tail _ (.tail _ (.head _))))), (List.forall_mem_cons.mpr ⟨(.tail _ (.head _)), (List.forall_mem_cons.mpr ⟨(.head _), (fun _ z => absurd z List.not_mem_nil)⟩)⟩)⟩)⟩)⟩) (j_X4_either_11 rc dr hdr hrc   1000 _ _ _ _ _ (ha1))
end
end
-- 21d.fun.lean.txt
section
section
set_option maxRecDepth 100000
def f_X4_relation_23  (m : mM) (y1 : Int32) : fR Int32 :=
  nmM (wI m 130 (((mI m 130) + 1))) fun m4 => some (y1, m4)
theorem j_X4_relation_23   (m : mM) (y1 : Int32)  : JF true uI m_X4_relation 3 23 [(0, .ref 2), (1, .int y1)] [] m (f_X4_relation_23  m y1) := by
  unfold f_X4_relation_23
  refine F_aload_n (i := 0) (a := 0) rfl rfl (dk_X4_relation 23 _ rfl) ?_
  refine F_dup rfl (dk_X4_relation 24 _ rfl) ?_
  refine F_gI (n := 130) fxX_4_2_2 rfl fl_4_20 (dk_X4_relation 25 _ rfl) ?_
  refine F_iconst (v := 1) (by decide) (dk_X4_relation 28 _ rfl) ?_
  refine F_iadd (dk_X4_relation 29 _ rfl) ?_
  refine F_pI (n := 130) fxX_4_2_2 rfl fl_4_20 (fun q hq => by cases hq; rfl) trivial (dk_X4_relation 30 _ rfl) (fun m4 => ?_)
  refine F_goto (tgt := 41) (by decide) (dk_X4_relation 33 _ rfl) ?_
  refine F_iload_n (i := 1) (a := 1) rfl rfl (dk_X4_relation 41 _ rfl) ?_
  exact F_ret rfl (dk_X4_relation 42 _ rfl)
def f_X4_relation (m : mM)  : fR Int32 :=
  bnd (f_X4_next m ) fun (x1 : Int32) (m2 : mM) => (if x1 = 60 then (f_X4_relation_23  m2 x1) else (if x1 = 61 then (f_X4_relation_23  m2 x1) else (if x1 = 62 then (f_X4_relation_23  m2 x1) else nmM (wI m2 131 0) fun m5 => some (x1, m5))))
theorem c_X4_relation (m : mM)   : cF true uI m_X4_relation 3 [.ref 2] m (f_X4_relation m ) := by
  refine cF_of ok_X4_relation (fun _ _ => Nat.le_of_ble_eq_true rfl) ?_
  unfold f_X4_relation
  show JF _ _ _ _ _ [(0, .ref 2)] _ _ _
  refine F_aload_n (i := 0) (a := 0) rfl rfl (dk_X4_relation 0 _ rfl) ?_
  refine F_callV (ι' := uI) (ci := 4) (b := 2) (As := []) (d' := 2) (rfl) ok_X4_next vi_X4_next cl_4_46 (n := 0) (by decide +kernel) rfl rfl rfl (Nat.le_of_ble_eq_true rfl) (by omega) (dk_X4_relation 1 _ rfl) (c_X4_next _  ) (fun x1 m2 => ?_)
  show JF _ _ _ _ _ _ [.int x1] _ _
  refine F_istore_n (lv' := [(1, .int x1), (0, .ref 2)]) (i := 1) (a := 1) rfl (by decide) rfl (dk_X4_relation 4 _ rfl) ?_
  refine F_iload_n (i := 1) (a := 1) rfl rfl (dk_X4_relation 5 _ rfl) ?_
  refine F_bipush (v := 60) (by decide) (dk_X4_relation 6 _ rfl) ?_
  refine F_icmp_eq (tgt := 23) (by decide) (dk_X4_relation 8 _ rfl) ?_ ?_
  · exact F_loc (List.forall_mem_cons.mpr ⟨(.tail _ (.head _)), (List.forall_mem_cons.mpr ⟨(.head _), (fun _ z => absurd z List.not_mem_nil)⟩)⟩) (j_X4_relation_23   _ _ )
  · refine F_iload_n (i := 1) (a := 1) rfl rfl (dk_X4_relation 11 _ rfl) ?_
    refine F_bipush (v := 61) (by decide) (dk_X4_relation 12 _ rfl) ?_
    refine F_icmp_eq (tgt := 23) (by decide) (dk_X4_relation 14 _ rfl) ?_ ?_
    · exact F_loc (List.forall_mem_cons.mpr ⟨(.tail _ (.head _)), (List.forall_mem_cons.mpr ⟨(.head _), (fun _ z => absurd z List.not_mem_nil)⟩)⟩) (j_X4_relation_23   _ _ )
    · refine F_iload_n (i := 1) (a := 1) rfl rfl (dk_X4_relation 17 _ rfl) ?_
      refine F_bipush (v := 62) (by decide) (dk_X4_relation 18 _ rfl) ?_
      refine F_icmp_ne (tgt := 36) (by decide) (dk_X4_relation 20 _ rfl) ?_ ?_
      · refine F_aload_n (i := 0) (a := 0) rfl rfl (dk_X4_relation 36 _ rfl) ?_
        refine F_iconst (v := 0) (by decide) (dk_X4_relation 37 _ rfl) ?_
        refine F_pI (n := 131) fxX_4_3_2 rfl fl_4_24 (fun q hq => by cases hq; rfl) (Or.inl rfl) (dk_X4_relation 38 _ rfl) (fun m5 => ?_)
        refine F_iload_n (i := 1) (a := 1) rfl rfl (dk_X4_relation 41 _ rfl) ?_
        exact F_ret rfl (dk_X4_relation 42 _ rfl)
      · exact F_loc (List.forall_mem_cons.mpr ⟨(.tail _ (.head _)), (List.forall_mem_cons.mpr ⟨(.head _), (fun _ z => absurd z List.not_mem_nil)⟩)⟩) (j_X4_relation_23   _ _ )
def f_X4_isLetter (m : mM) (p0 : Int32) : fR Int32 :=
  (if p0 = 112 then some (1, m) else (if p0 = 107 then some (1, m) else (if p0 = 100 then some (1, m) else (if p0 = 99 then some (1, m) else (if p0 = 121 then some (1, m) else (if p0 = 98 then some (1, m) else some (0, m)))))))
theorem c_X4_isLetter (m : mM) (p0 : Int32)  : cF true uI m_X4_isLetter 2 [.int p0] m (f_X4_isLetter m p0) := by
  refine cF_of ok_X4_isLetter (fun _ _ => Nat.le_of_ble_eq_true rfl) ?_
  unfold f_X4_isLetter
  show JF _ _ _ _ _ [(0, .int p0)] _ _ _
  refine F_iload_n (i := 0) (a := 0) rfl rfl (dk_X4_isLetter 0 _ rfl) ?_
  refine F_bipush (v := 112) (by decide) (dk_X4_isLetter 1 _ rfl) ?_
  refine F_icmp_eq (tgt := 36) (by decide) (dk_X4_isLetter 3 _ rfl) ?_ ?_
  · refine F_iconst (v := 1) (by decide) (dk_X4_isLetter 36 _ rfl) ?_
    refine F_goto (tgt := 41) (by decide) (dk_X4_isLetter 37 _ rfl) ?_
    exact F_retB rfl (Or.inr rfl) (dk_X4_isLetter 41 _ rfl)
  · refine F_iload_n (i := 0) (a := 0) rfl rfl (dk_X4_isLetter 6 _ rfl) ?_
    refine F_bipush (v := 107) (by decide) (dk_X4_isLetter 7 _ rfl) ?_
    refine F_icmp_eq (tgt := 36) (by decide) (dk_X4_isLetter 9 _ rfl) ?_ ?_
    · refine F_iconst (v := 1) (by decide) (dk_X4_isLetter 36 _ rfl) ?_
      refine F_goto (tgt := 41) (by decide) (dk_X4_isLetter 37 _ rfl) ?_
      exact F_retB rfl (Or.inr rfl) (dk_X4_isLetter 41 _ rfl)
    · refine F_iload_n (i := 0) (a := 0) rfl rfl (dk_X4_isLetter 12 _ rfl) ?_
      refine F_bipush (v := 100) (by decide) (dk_X4_isLetter 13 _ rfl) ?_
      refine F_icmp_eq (tgt := 36) (by decide) (dk_X4_isLetter 15 _ rfl) ?_ ?_
      · refine F_iconst (v := 1) (by decide) (dk_X4_isLetter 36 _ rfl) ?_
        refine F_goto (tgt := 41) (by decide) (dk_X4_isLetter 37 _ rfl) ?_
        exact F_retB rfl (Or.inr rfl) (dk_X4_isLetter 41 _ rfl)
      · refine F_iload_n (i := 0) (a := 0) rfl rfl (dk_X4_isLetter 18 _ rfl) ?_
        refine F_bipush (v := 99) (by decide) (dk_X4_isLetter 19 _ rfl) ?_
        refine F_icmp_eq (tgt := 36) (by decide) (dk_X4_isLetter 21 _ rfl) ?_ ?_
        · refine F_iconst (v := 1) (by decide) (dk_X4_isLetter 36 _ rfl) ?_
          refine F_goto (tgt := 41) (by decide) (dk_X4_isLetter 37 _ rfl) ?_
          exact F_retB rfl (Or.inr rfl) (dk_X4_isLetter 41 _ rfl)
        · refine F_iload_n (i := 0) (a := 0) rfl rfl (dk_X4_isLetter 24 _ rfl) ?_
          refine F_bipush (v := 121) (by decide) (dk_X4_isLetter 25 _ rfl) ?_
          refine F_icmp_eq (tgt := 36) (by decide) (dk_X4_isLetter 27 _ rfl) ?_ ?_
          · refine F_iconst (v := 1) (by decide) (dk_X4_isLetter 36 _ rfl) ?_
            refine F_goto (tgt := 41) (by decide) (dk_X4_isLetter 37 _ rfl) ?_
            exact F_retB rfl (Or.inr rfl) (dk_X4_isLetter 41 _ rfl)
          · refine F_iload_n (i := 0) (a := 0) rfl rfl (dk_X4_isLetter 30 _ rfl) ?_
            refine F_bipush (v := 98) (by decide) (dk_X4_isLetter 31 _ rfl) ?_
            refine F_icmp_ne (tgt := 40) (by decide) (dk_X4_isLetter 33 _ rfl) ?_ ?_
            · refine F_iconst (v := 0) (by decide) (dk_X4_isLetter 40 _ rfl) ?_
              exact F_retB rfl (Or.inl rfl) (dk_X4_isLetter 41 _ rfl)
            · refine F_iconst (v := 1) (by decide) (dk_X4_isLetter 36 _ rfl) ?_
              refine F_goto (tgt := 41) (by decide) (dk_X4_isLetter 37 _ rfl) ?_
              exact F_retB rfl (Or.inr rfl) (dk_X4_isLetter 41 _ rfl)
def f_X4_one_50 (rc : mM → Nat → Int32 → fR Unit)  (m : mM) (y1 : Nat) (y2 : Int32) (y3 : Int32) : fR Unit :=
  (if y2 < 4 then (if y3 = 33 then nmM (wI m 130 (((mI m 130) + 1))) fun m14 => bnd (rc m14 y1 (y2 + 1)) fun (x15 : Unit) (m16 : mM) => bnd (f_X5_addJoint m16 y1 33) fun (x18 : Unit) (m19 : mM) => some ((), m19) else nmM (wI m 130 (((mI m 130) + 1))) fun m7 => bnd (f_X4_either rc m7 y1 (y2 + 1)) fun (x8 : Unit) (m9 : mM) => bnd (f_X4_word m9 8) fun (x11 : Unit) (m12 : mM) => some ((), m12)) else nmM (wI m 131 0) fun m21 => some ((), m21))
theorem j_X4_one_50 (rc : mM → Nat → Int32 → fR Unit) (dr : Nat) (hdr : 6 ≤ dr) (hrc : ∀ (m : mM) (b : Nat) (x : Int32) (_ : isC true 5 b = true), cF true uU m_X4_one dr [.ref 2, .ref b, .int x] m (rc m b x))   (m : mM) (y1 : Nat) (y2 : Int32) (y3 : Int32) (hy1 : isC true 5 y1 = true) : JF true uU m_X4_one (dr + 2) 50 [(0, .ref 2), (1, .ref y1), (2, .int y2), (3, .int y3)] [] m (f_X4_one_50 rc  m y1 y2 y3) := by
  unfold f_X4_one_50
  refine F_iload_n (i := 2) (a := 2) rfl rfl (dk_X4_one 50 _ rfl) ?_
  refine F_iconst (v := 4) (by decide) (dk_X4_one 51 _ rfl) ?_
  refine F_icmp_lt (tgt := 63) (by decide) (dk_X4_one 52 _ rfl) ?_ ?_
  · refine F_iload_n (i := 3) (a := 3) rfl rfl (dk_X4_one 63 _ rfl) ?_
    refine F_bipush (v := 33) (by decide) (dk_X4_one 64 _ rfl) ?_
    refine F_icmp_ne (tgt := 96) (by decide) (dk_X4_one 66 _ rfl) ?_ ?_
    · refine F_aload_n (i := 0) (a := 0) rfl rfl (dk_X4_one 96 _ rfl) ?_
      refine F_dup rfl (dk_X4_one 97 _ rfl) ?_
      refine F_gI (n := 130) fxX_4_2_2 rfl fl_4_20 (dk_X4_one 98 _ rfl) ?_
      refine F_iconst (v := 1) (by decide) (dk_X4_one 101 _ rfl) ?_
      refine F_iadd (dk_X4_one 102 _ rfl) ?_
      refine F_pI (n := 130) fxX_4_2_2 rfl fl_4_20 (fun q hq => by cases hq; rfl) trivial (dk_X4_one 103 _ rfl) (fun m7 => ?_)
      refine F_aload_n (i := 0) (a := 0) rfl rfl (dk_X4_one 106 _ rfl) ?_
      refine F_aload_n (i := 1) (a := 1) rfl rfl (dk_X4_one 107 _ rfl) ?_
      refine F_iload_n (i := 2) (a := 2) rfl rfl (dk_X4_one 108 _ rfl) ?_
      refine F_iconst (v := 1) (by decide) (dk_X4_one 109 _ rfl) ?_
      refine F_iadd (dk_X4_one 110 _ rfl) ?_
      refine F_callV (ι' := uU) (ci := 4) (b := 2) (As := [.ref y1, .int (y2 + 1)]) (d' := (dr + 1)) (rfl) ok_X4_either vi_X4_either cl_4_60 (n := 2) (by decide +kernel) rfl rfl rfl (Nat.le_of_ble_eq_true rfl) (by omega) (dk_X4_one 111 _ rfl) (c_X4_either rc dr (by omega) hrc _ _ _ (hy1)) (fun x8 m9 => ?_)
      show JF _ _ _ _ _ _ [] _ _
      refine F_aload_n (i := 0) (a := 0) rfl rfl (dk_X4_one 114 _ rfl) ?_
      refine F_sldc (z := 8) rfl os_8 (dk_X4_one 115 _ rfl) ?_
      refine F_callV (ι' := uU) (ci := 4) (b := 2) (As := [.retAddr 8]) (d' := 6) (rfl) ok_X4_word vi_X4_word cl_4_37 (n := 1) (by decide +kernel) rfl rfl rfl (Nat.le_of_ble_eq_true rfl) (by omega) (dk_X4_one 117 _ rfl) (c_X4_word _ _ ) (fun x11 m12 => ?_)
      show JF _ _ _ _ _ _ [] _ _
      exact F_retV rfl (dk_X4_one 120 _ rfl)
    · refine F_aload_n (i := 0) (a := 0) rfl rfl (dk_X4_one 69 _ rfl) ?_
      refine F_dup rfl (dk_X4_one 70 _ rfl) ?_
      refine F_gI (n := 130) fxX_4_2_2 rfl fl_4_20 (dk_X4_one 71 _ rfl) ?_
      refine F_iconst (v := 1) (by decide) (dk_X4_one 74 _ rfl) ?_
      refine F_iadd (dk_X4_one 75 _ rfl) ?_
      refine F_pI (n := 130) fxX_4_2_2 rfl fl_4_20 (fun q hq => by cases hq; rfl) trivial (dk_X4_one 76 _ rfl) (fun m14 => ?_)
      refine F_aload_n (i := 0) (a := 0) rfl rfl (dk_X4_one 79 _ rfl) ?_
      refine F_aload_n (i := 1) (a := 1) rfl rfl (dk_X4_one 80 _ rfl) ?_
      refine F_iload_n (i := 2) (a := 2) rfl rfl (dk_X4_one 81 _ rfl) ?_
      refine F_iconst (v := 1) (by decide) (dk_X4_one 82 _ rfl) ?_
      refine F_iadd (dk_X4_one 83 _ rfl) ?_
      refine F_callV (ι' := uU) (ci := 4) (b := 2) (As := [.ref y1, .int (y2 + 1)]) (d' := dr) (rfl) ok_X4_one vi_X4_one cl_4_83 (n := 2) (by decide +kernel) rfl rfl rfl (Nat.le_of_ble_eq_true rfl) (by omega) (dk_X4_one 84 _ rfl) (hrc _ _ _ (hy1)) (fun x15 m16 => ?_)
      show JF _ _ _ _ _ _ [] _ _
      refine F_aload_n (i := 1) (a := 1) rfl rfl (dk_X4_one 87 _ rfl) ?_
      refine F_bipush (v := 33) (by decide) (dk_X4_one 88 _ rfl) ?_
      refine F_callV (ι' := uU) (ci := 5) (b := y1) (As := [.int 33]) (d' := 3) (hy1) ok_X5_addJoint vi_X5_addJoint cl_4_86 (n := 1) (by decide +kernel) rfl rfl rfl (Nat.le_of_ble_eq_true rfl) (by omega) (dk_X4_one 90 _ rfl) (c_X5_addJoint _ _ _ (hy1)) (fun x18 m19 => ?_)
      show JF _ _ _ _ _ _ [] _ _
      refine F_goto (tgt := 120) (by decide) (dk_X4_one 93 _ rfl) ?_
      exact F_retV rfl (dk_X4_one 120 _ rfl)
  · refine F_aload_n (i := 0) (a := 0) rfl rfl (dk_X4_one 55 _ rfl) ?_
    refine F_iconst (v := 0) (by decide) (dk_X4_one 56 _ rfl) ?_
    refine F_pI (n := 131) fxX_4_3_2 rfl fl_4_24 (fun q hq => by cases hq; rfl) (Or.inl rfl) (dk_X4_one 57 _ rfl) (fun m21 => ?_)
    refine F_goto (tgt := 120) (by decide) (dk_X4_one 60 _ rfl) ?_
    exact F_retV rfl (dk_X4_one 120 _ rfl)
def fb_X4_one (rc : mM → Nat → Int32 → fR Unit) (m : mM) (a1 : Nat) (p2 : Int32) : fR Unit :=
  bnd (f_X4_next m ) fun (x1 : Int32) (m2 : mM) => bnd (f_X4_isLetter m2 x1) fun (x4 : Int32) (m5 : mM) => (if x4 = 0 then (if x1 = 33 then (f_X4_one_50 rc  m5 a1 p2 x1) else (if x1 = 40 then (f_X4_one_50 rc  m5 a1 p2 x1) else nmM (wI m5 131 0) fun m22 => some ((), m22))) else nmM (wI m5 130 (((mI m5 130) + 1))) fun m23 => bnd (f_X4_relation m23 ) fun (x24 : Int32) (m25 : mM) => bnd (f_X4_number m25 ) fun (x27 : Int32) (m28 : mM) => bnd (f_X5_addTest m28 a1 x1 x24 x27) fun (x30 : Unit) (m31 : mM) => some ((), m31))
theorem jb_X4_one (rc : mM → Nat → Int32 → fR Unit) (dr : Nat) (hdr : 6 ≤ dr) (hrc : ∀ (m : mM) (b : Nat) (x : Int32) (_ : isC true 5 b = true), cF true uU m_X4_one dr [.ref 2, .ref b, .int x] m (rc m b x)) (m : mM) (a1 : Nat) (p2 : Int32) (ha1 : isC true 5 a1 = true) : JF true uU m_X4_one (dr + 2) 0 [(0, .ref 2), (1, .ref a1), (2, .int p2)] [] m (fb_X4_one rc m a1 p2) := by
  unfold fb_X4_one
  refine F_aload_n (i := 0) (a := 0) rfl rfl (dk_X4_one 0 _ rfl) ?_
  refine F_callV (ι' := uI) (ci := 4) (b := 2) (As := []) (d' := 2) (rfl) ok_X4_next vi_X4_next cl_4_46 (n := 0) (by decide +kernel) rfl rfl rfl (Nat.le_of_ble_eq_true rfl) (by omega) (dk_X4_one 1 _ rfl) (c_X4_next _  ) (fun x1 m2 => ?_)
  show JF _ _ _ _ _ _ [.int x1] _ _
  refine F_istore_n (lv' := [(3, .int x1), (0, .ref 2), (1, .ref a1), (2, .int p2)]) (i := 3) (a := 3) rfl (by decide) rfl (dk_X4_one 4 _ rfl) ?_
  refine F_iload_n (i := 3) (a := 3) rfl rfl (dk_X4_one 5 _ rfl) ?_
  refine F_callS (ι' := uI) (As := [.int x1]) (d' := 2) ok_X4_isLetter st_X4_isLetter cl_4_89 rfl (n := 1) (by decide +kernel) rfl (Nat.le_of_ble_eq_true rfl) (by omega) (dk_X4_one 6 _ rfl) (c_X4_isLetter _ _ ) (fun x4 m5 => ?_)
  show JF _ _ _ _ _ _ [.int x4] _ _
  refine F_if_eq (tgt := 38) (by decide) (dk_X4_one 9 _ rfl) ?_ ?_
  · refine F_iload_n (i := 3) (a := 3) rfl rfl (dk_X4_one 38 _ rfl) ?_
    refine F_bipush (v := 33) (by decide) (dk_X4_one 39 _ rfl) ?_
    refine F_icmp_eq (tgt := 50) (by decide) (dk_X4_one 41 _ rfl) ?_ ?_
    · exact F_loc (List.forall_mem_cons.mpr ⟨(.tail _ (.head _)), (List.forall_mem_cons.mpr ⟨(.tail _ (.tail _ (.head _))), (List.forall_mem_cons.mpr ⟨(.tail _ (.tail _ (.tail _ (.head _)))), (List.forall_mem_cons.mpr ⟨(.head _), (fun _ z => absurd z List.not_mem_nil)⟩)⟩)⟩)⟩) (j_X4_one_50 rc dr hdr hrc   _ _ _ _ (ha1))
    · refine F_iload_n (i := 3) (a := 3) rfl rfl (dk_X4_one 44 _ rfl) ?_
      refine F_bipush (v := 40) (by decide) (dk_X4_one 45 _ rfl) ?_
      refine F_icmp_ne (tgt := 55) (by decide) (dk_X4_one 47 _ rfl) ?_ ?_
      · refine F_aload_n (i := 0) (a := 0) rfl rfl (dk_X4_one 55 _ rfl) ?_
        refine F_iconst (v := 0) (by decide) (dk_X4_one 56 _ rfl) ?_
        refine F_pI (n := 131) fxX_4_3_2 rfl fl_4_24 (fun q hq => by cases hq; rfl) (Or.inl rfl) (dk_X4_one 57 _ rfl) (fun m22 => ?_)
        refine F_goto (tgt := 120) (by decide) (dk_X4_one 60 _ rfl) ?_
        exact F_retV rfl (dk_X4_one 120 _ rfl)
      · exact F_loc (List.forall_mem_cons.mpr ⟨(.tail _ (.head _)), (List.forall_mem_cons.mpr ⟨(.tail _ (.tail _ (.head _))), (List.forall_mem_cons.mpr ⟨(.tail _ (.tail _ (.tail _ (.head _)))), (List.forall_mem_cons.mpr ⟨(.head _), (fun _ z => absurd z List.not_mem_nil)⟩)⟩)⟩)⟩) (j_X4_one_50 rc dr hdr hrc   _ _ _ _ (ha1))
  · refine F_aload_n (i := 0) (a := 0) rfl rfl (dk_X4_one 12 _ rfl) ?_
    refine F_dup rfl (dk_X4_one 13 _ rfl) ?_
    refine F_gI (n := 130) fxX_4_2_2 rfl fl_4_20 (dk_X4_one 14 _ rfl) ?_
    refine F_iconst (v := 1) (by decide) (dk_X4_one 17 _ rfl) ?_
    refine F_iadd (dk_X4_one 18 _ rfl) ?_
    refine F_pI (n := 130) fxX_4_2_2 rfl fl_4_20 (fun q hq => by cases hq; rfl) trivial (dk_X4_one 19 _ rfl) (fun m23 => ?_)
    refine F_aload_n (i := 1) (a := 1) rfl rfl (dk_X4_one 22 _ rfl) ?_
    refine F_iload_n (i := 3) (a := 3) rfl rfl (dk_X4_one 23 _ rfl) ?_
    refine F_aload_n (i := 0) (a := 0) rfl rfl (dk_X4_one 24 _ rfl) ?_
    refine F_callV (ι' := uI) (ci := 4) (b := 2) (As := []) (d' := 3) (rfl) ok_X4_relation vi_X4_relation cl_4_93 (n := 0) (by decide +kernel) rfl rfl rfl (Nat.le_of_ble_eq_true rfl) (by omega) (dk_X4_one 25 _ rfl) (c_X4_relation _  ) (fun x24 m25 => ?_)
    show JF _ _ _ _ _ _ [.int x24, .int x1, .ref a1] _ _
    refine F_aload_n (i := 0) (a := 0) rfl rfl (dk_X4_one 28 _ rfl) ?_
    refine F_callV (ι' := uI) (ci := 4) (b := 2) (As := []) (d' := 3) (rfl) ok_X4_number vi_X4_number cl_4_55 (n := 0) (by decide +kernel) rfl rfl rfl (Nat.le_of_ble_eq_true rfl) (by omega) (dk_X4_one 29 _ rfl) (c_X4_number _  ) (fun x27 m28 => ?_)
    show JF _ _ _ _ _ _ [.int x27, .int x24, .int x1, .ref a1] _ _
    refine F_callV (ι' := uU) (ci := 5) (b := a1) (As := [.int x1, .int x24, .int x27]) (d' := 2) (ha1) ok_X5_addTest vi_X5_addTest cl_4_96 (n := 3) (by decide +kernel) rfl rfl rfl (Nat.le_of_ble_eq_true rfl) (by omega) (dk_X4_one 32 _ rfl) (c_X5_addTest _ _ _ _ _ (ha1)) (fun x30 m31 => ?_)
    show JF _ _ _ _ _ _ [] _ _
    refine F_goto (tgt := 120) (by decide) (dk_X4_one 35 _ rfl) ?_
    exact F_retV rfl (dk_X4_one 120 _ rfl)
def f_X4_one : Nat → mM → Nat → Int32 → fR Unit
  | 0, _, _, _ => none
  | D + 1, m, a1, p2 => fb_X4_one (f_X4_one D) m a1 p2
theorem c_X4_one : ∀ (D : Nat) (m : mM) (a1 : Nat) (p2 : Int32) (ha1 : isC true 5 a1 = true), cF true uU m_X4_one (6 + 2 * D) [.ref 2, .ref a1, .int p2] m (f_X4_one D m a1 p2) := by
  intro D
  induction D with
  | zero => intro m a1 p2 ha1 r h1 he; cases he
  | succ D ih =>
    intro m a1 p2 ha1
    refine cF_of ok_X4_one (fun _ _ => Nat.le_of_ble_eq_true rfl) ?_
    show JF _ _ _ ((6 + 2 * D) + 2) _ _ _ _ _
    exact jb_X4_one (f_X4_one D) (6 + 2 * D) (by omega) ih m a1 p2 ha1
def f_X5_addTake (m : mM) (a0 : Nat) (p1 : Int32) : fR Unit :=
  (if 10 ≤ (mI m (64 * a0 + 3)) then some ((), m) else (sA 0 m (a0 + 4) ((mI m (64 * a0 + 3))) p1).bind fun m1 => (sA 0 m1 (a0 + 5) ((mI m1 (64 * a0 + 3))) ((mI m1 (64 * a0 + 4)))).bind fun m2 => nmM (wI m2 (64 * a0 + 3) (((mI m2 (64 * a0 + 3)) + 1))) fun m3 => some ((), m3))
theorem c_X5_addTake (m : mM) (a0 : Nat) (p1 : Int32) (ha0 : isC true 5 a0 = true) : cF true uU m_X5_addTake 2 [.ref a0, .int p1] m (f_X5_addTake m a0 p1) := by
  refine cF_of ok_X5_addTake (fun _ _ => Nat.le_of_ble_eq_true rfl) ?_
  unfold f_X5_addTake
  show JF _ _ _ _ _ [(0, .ref a0), (1, .int p1)] _ _ _
  refine F_aload_n (i := 0) (a := 0) rfl rfl (dk_X5_addTake 0 _ rfl) ?_
  refine F_gI (n := (64 * a0 + 3)) (lyT_3 ha0) rfl fl_5_40 (dk_X5_addTake 1 _ rfl) ?_
  refine F_bipush (v := 10) (by decide) (dk_X5_addTake 4 _ rfl) ?_
  refine F_icmp_ge (tgt := 42) (by decide) (dk_X5_addTake 6 _ rfl) ?_ ?_
  · exact F_retV rfl (dk_X5_addTake 42 _ rfl)
  · refine F_aload_n (i := 0) (a := 0) rfl rfl (dk_X5_addTake 9 _ rfl) ?_
    refine F_gR (b := (a0 + 4)) (lyT_8 ha0).1 fl_5_21 (dk_X5_addTake 10 _ rfl) ?_
    refine F_aload_n (i := 0) (a := 0) rfl rfl (dk_X5_addTake 13 _ rfl) ?_
    refine F_gI (n := (64 * a0 + 3)) (lyT_3 ha0) rfl fl_5_40 (dk_X5_addTake 14 _ rfl) ?_
    refine F_iload_n (i := 1) (a := 1) rfl rfl (dk_X5_addTake 17 _ rfl) ?_
    refine F_iast ((lyT_8 ha0).2) (dk_X5_addTake 18 _ rfl) (fun m1 => ?_)
    refine F_aload_n (i := 0) (a := 0) rfl rfl (dk_X5_addTake 19 _ rfl) ?_
    refine F_gR (b := (a0 + 5)) (lyT_9 ha0).1 fl_5_24 (dk_X5_addTake 20 _ rfl) ?_
    refine F_aload_n (i := 0) (a := 0) rfl rfl (dk_X5_addTake 23 _ rfl) ?_
    refine F_gI (n := (64 * a0 + 3)) (lyT_3 ha0) rfl fl_5_40 (dk_X5_addTake 24 _ rfl) ?_
    refine F_aload_n (i := 0) (a := 0) rfl rfl (dk_X5_addTake 27 _ rfl) ?_
    refine F_gI (n := (64 * a0 + 4)) (lyT_4 ha0) rfl fl_5_43 (dk_X5_addTake 28 _ rfl) ?_
    refine F_iast ((lyT_9 ha0).2) (dk_X5_addTake 31 _ rfl) (fun m2 => ?_)
    refine F_aload_n (i := 0) (a := 0) rfl rfl (dk_X5_addTake 32 _ rfl) ?_
    refine F_dup rfl (dk_X5_addTake 33 _ rfl) ?_
    refine F_gI (n := (64 * a0 + 3)) (lyT_3 ha0) rfl fl_5_40 (dk_X5_addTake 34 _ rfl) ?_
    refine F_iconst (v := 1) (by decide) (dk_X5_addTake 37 _ rfl) ?_
    refine F_iadd (dk_X5_addTake 38 _ rfl) ?_
    refine F_pI (n := (64 * a0 + 3)) (lyT_3 ha0) rfl fl_5_40 (fun q hq => by cases hq; rfl) trivial (dk_X5_addTake 39 _ rfl) (fun m3 => ?_)
    exact F_retV rfl (dk_X5_addTake 42 _ rfl)
def f_X4_clause (m : mM) (a1 : Nat) : fR Unit :=
  bnd (f_X4_next m ) fun (x1 : Int32) (m2 : mM) => (if x1 = 99 then bnd (f_X4_word m2 6) fun (x5 : Unit) (m6 : mM) => bnd (f_X4_number m6 ) fun (x8 : Int32) (m9 : mM) => nmM (wI m9 (64 * a1 + 1) x8) fun m11 => some ((), m11) else if x1 = 100 then bnd (f_X4_word m2 5) fun (x12 : Unit) (m13 : mM) => bnd (f_X4_number m13 ) fun (x15 : Int32) (m16 : mM) => nmM (wI m16 (64 * a1 + 0) x15) fun m18 => some ((), m18) else if x1 = 102 then bnd (f_X4_word m2 7) fun (x19 : Unit) (m20 : mM) => bnd (f_X4_number m20 ) fun (x22 : Int32) (m23 : mM) => nmM (wI m23 (64 * a1 + 2) x22) fun m25 => some ((), m25) else if x1 = 116 then bnd (f_X4_word m2 3) fun (x26 : Unit) (m27 : mM) => bnd (f_X4_number m27 ) fun (x29 : Int32) (m30 : mM) => bnd (f_X4_word m30 4) fun (x32 : Unit) (m33 : mM) => bnd (f_X4_either (f_X4_one 6) m33 a1 0) fun (x35 : Unit) (m36 : mM) => bnd (f_X5_addTake m36 a1 x29) fun (x38 : Unit) (m39 : mM) => some ((), m39) else nmM (wI m2 131 0) fun m41 => some ((), m41))
theorem c_X4_clause (m : mM) (a1 : Nat) (ha1 : isC true 5 a1 = true) : cF true uU m_X4_clause 20 [.ref 2, .ref a1] m (f_X4_clause m a1) := by
  refine cF_of ok_X4_clause (fun _ _ => Nat.le_of_ble_eq_true rfl) ?_
  unfold f_X4_clause
  show JF _ _ _ _ _ [(0, .ref 2), (1, .ref a1)] _ _ _
  refine F_aload_n (i := 0) (a := 0) rfl rfl (dk_X4_clause 0 _ rfl) ?_
  refine F_callV (ι' := uI) (ci := 4) (b := 2) (As := []) (d' := 2) (rfl) ok_X4_next vi_X4_next cl_4_46 (n := 0) (by decide +kernel) rfl rfl rfl (Nat.le_of_ble_eq_true rfl) (by omega) (dk_X4_clause 1 _ rfl) (c_X4_next _  ) (fun x1 m2 => ?_)
  show JF _ _ _ _ _ _ [.int x1] _ _
  refine F_case (fun c4_0 => ?_) (fun c4_0 => ?_)
  · rw [c4_0]; refine F_look (off := 92) (tgt := 96) (by decide) (by decide) (by decide) (dk_X4_clause 4 _ rfl) ?_
    refine F_aload_n (i := 0) (a := 0) rfl rfl (dk_X4_clause 96 _ rfl) ?_
    refine F_sldc (z := 6) rfl os_6 (dk_X4_clause 97 _ rfl) ?_
    refine F_callV (ι' := uU) (ci := 4) (b := 2) (As := [.retAddr 6]) (d' := 6) (rfl) ok_X4_word vi_X4_word cl_4_37 (n := 1) (by decide +kernel) rfl rfl rfl (Nat.le_of_ble_eq_true rfl) (by omega) (dk_X4_clause 99 _ rfl) (c_X4_word _ _ ) (fun x5 m6 => ?_)
    show JF _ _ _ _ _ _ [] _ _
    refine F_aload_n (i := 1) (a := 1) rfl rfl (dk_X4_clause 102 _ rfl) ?_
    refine F_aload_n (i := 0) (a := 0) rfl rfl (dk_X4_clause 103 _ rfl) ?_
    refine F_callV (ι' := uI) (ci := 4) (b := 2) (As := []) (d' := 3) (rfl) ok_X4_number vi_X4_number cl_4_55 (n := 0) (by decide +kernel) rfl rfl rfl (Nat.le_of_ble_eq_true rfl) (by omega) (dk_X4_clause 104 _ rfl) (c_X4_number _  ) (fun x8 m9 => ?_)
    show JF _ _ _ _ _ _ [.int x8, .ref a1] _ _
    refine F_pI (n := (64 * a1 + 1)) (lyT_1 ha1) rfl fl_4_75 (fun q hq => by cases hq; rfl) trivial (dk_X4_clause 107 _ rfl) (fun m11 => ?_)
    refine F_goto (tgt := 135) (by decide) (dk_X4_clause 110 _ rfl) ?_
    exact F_retV rfl (dk_X4_clause 135 _ rfl)
  refine F_case (fun c4_1 => ?_) (fun c4_1 => ?_)
  · rw [c4_1]; refine F_look (off := 75) (tgt := 79) (by decide) (by decide) (by decide) (dk_X4_clause 4 _ rfl) ?_
    refine F_aload_n (i := 0) (a := 0) rfl rfl (dk_X4_clause 79 _ rfl) ?_
    refine F_sldc (z := 5) rfl os_5 (dk_X4_clause 80 _ rfl) ?_
    refine F_callV (ι' := uU) (ci := 4) (b := 2) (As := [.retAddr 5]) (d' := 6) (rfl) ok_X4_word vi_X4_word cl_4_37 (n := 1) (by decide +kernel) rfl rfl rfl (Nat.le_of_ble_eq_true rfl) (by omega) (dk_X4_clause 82 _ rfl) (c_X4_word _ _ ) (fun x12 m13 => ?_)
    show JF _ _ _ _ _ _ [] _ _
    refine F_aload_n (i := 1) (a := 1) rfl rfl (dk_X4_clause 85 _ rfl) ?_
    refine F_aload_n (i := 0) (a := 0) rfl rfl (dk_X4_clause 86 _ rfl) ?_
    refine F_callV (ι' := uI) (ci := 4) (b := 2) (As := []) (d' := 3) (rfl) ok_X4_number vi_X4_number cl_4_55 (n := 0) (by decide +kernel) rfl rfl rfl (Nat.le_of_ble_eq_true rfl) (by omega) (dk_X4_clause 87 _ rfl) (c_X4_number _  ) (fun x15 m16 => ?_)
    show JF _ _ _ _ _ _ [.int x15, .ref a1] _ _
    refine F_pI (n := (64 * a1 + 0)) (lyT_0 ha1) rfl fl_4_70 (fun q hq => by cases hq; rfl) trivial (dk_X4_clause 90 _ rfl) (fun m18 => ?_)
    refine F_goto (tgt := 135) (by decide) (dk_X4_clause 93 _ rfl) ?_
    exact F_retV rfl (dk_X4_clause 135 _ rfl)
  refine F_case (fun c4_2 => ?_) (fun c4_2 => ?_)
  · rw [c4_2]; refine F_look (off := 109) (tgt := 113) (by decide) (by decide) (by decide) (dk_X4_clause 4 _ rfl) ?_
    refine F_aload_n (i := 0) (a := 0) rfl rfl (dk_X4_clause 113 _ rfl) ?_
    refine F_sldc (z := 7) rfl os_7 (dk_X4_clause 114 _ rfl) ?_
    refine F_callV (ι' := uU) (ci := 4) (b := 2) (As := [.retAddr 7]) (d' := 6) (rfl) ok_X4_word vi_X4_word cl_4_37 (n := 1) (by decide +kernel) rfl rfl rfl (Nat.le_of_ble_eq_true rfl) (by omega) (dk_X4_clause 116 _ rfl) (c_X4_word _ _ ) (fun x19 m20 => ?_)
    show JF _ _ _ _ _ _ [] _ _
    refine F_aload_n (i := 1) (a := 1) rfl rfl (dk_X4_clause 119 _ rfl) ?_
    refine F_aload_n (i := 0) (a := 0) rfl rfl (dk_X4_clause 120 _ rfl) ?_
    refine F_callV (ι' := uI) (ci := 4) (b := 2) (As := []) (d' := 3) (rfl) ok_X4_number vi_X4_number cl_4_55 (n := 0) (by decide +kernel) rfl rfl rfl (Nat.le_of_ble_eq_true rfl) (by omega) (dk_X4_clause 121 _ rfl) (c_X4_number _  ) (fun x22 m23 => ?_)
    show JF _ _ _ _ _ _ [.int x22, .ref a1] _ _
    refine F_pI (n := (64 * a1 + 2)) (lyT_2 ha1) rfl fl_4_80 (fun q hq => by cases hq; rfl) trivial (dk_X4_clause 124 _ rfl) (fun m25 => ?_)
    refine F_goto (tgt := 135) (by decide) (dk_X4_clause 127 _ rfl) ?_
    exact F_retV rfl (dk_X4_clause 135 _ rfl)
  refine F_case (fun c4_3 => ?_) (fun c4_3 => ?_)
  · rw [c4_3]; refine F_look (off := 44) (tgt := 48) (by decide) (by decide) (by decide) (dk_X4_clause 4 _ rfl) ?_
    refine F_aload_n (i := 0) (a := 0) rfl rfl (dk_X4_clause 48 _ rfl) ?_
    refine F_sldc (z := 3) rfl os_3 (dk_X4_clause 49 _ rfl) ?_
    refine F_callV (ι' := uU) (ci := 4) (b := 2) (As := [.retAddr 3]) (d' := 6) (rfl) ok_X4_word vi_X4_word cl_4_37 (n := 1) (by decide +kernel) rfl rfl rfl (Nat.le_of_ble_eq_true rfl) (by omega) (dk_X4_clause 51 _ rfl) (c_X4_word _ _ ) (fun x26 m27 => ?_)
    show JF _ _ _ _ _ _ [] _ _
    refine F_aload_n (i := 0) (a := 0) rfl rfl (dk_X4_clause 54 _ rfl) ?_
    refine F_callV (ι' := uI) (ci := 4) (b := 2) (As := []) (d' := 3) (rfl) ok_X4_number vi_X4_number cl_4_55 (n := 0) (by decide +kernel) rfl rfl rfl (Nat.le_of_ble_eq_true rfl) (by omega) (dk_X4_clause 55 _ rfl) (c_X4_number _  ) (fun x29 m30 => ?_)
    show JF _ _ _ _ _ _ [.int x29] _ _
    refine F_istore_n (lv' := [(2, .int x29), (0, .ref 2), (1, .ref a1)]) (i := 2) (a := 2) rfl (by decide) rfl (dk_X4_clause 58 _ rfl) ?_
    refine F_aload_n (i := 0) (a := 0) rfl rfl (dk_X4_clause 59 _ rfl) ?_
    refine F_sldc (z := 4) rfl os_4 (dk_X4_clause 60 _ rfl) ?_
    refine F_callV (ι' := uU) (ci := 4) (b := 2) (As := [.retAddr 4]) (d' := 6) (rfl) ok_X4_word vi_X4_word cl_4_37 (n := 1) (by decide +kernel) rfl rfl rfl (Nat.le_of_ble_eq_true rfl) (by omega) (dk_X4_clause 62 _ rfl) (c_X4_word _ _ ) (fun x32 m33 => ?_)
    show JF _ _ _ _ _ _ [] _ _
    refine F_aload_n (i := 0) (a := 0) rfl rfl (dk_X4_clause 65 _ rfl) ?_
    refine F_aload_n (i := 1) (a := 1) rfl rfl (dk_X4_clause 66 _ rfl) ?_
    refine F_iconst (v := 0) (by decide) (dk_X4_clause 67 _ rfl) ?_
    refine F_callV (ι' := uU) (ci := 4) (b := 2) (As := [.ref a1, .int 0]) (d' := 19) (rfl) ok_X4_either vi_X4_either cl_4_60 (n := 2) (by decide +kernel) rfl rfl rfl (Nat.le_of_ble_eq_true rfl) (by omega) (dk_X4_clause 68 _ rfl) (c_X4_either (f_X4_one 6) 18 (by omega) (fun m b x hb => c_X4_one 6 m b x hb) _ _ _ (ha1)) (fun x35 m36 => ?_)
    show JF _ _ _ _ _ _ [] _ _
    refine F_aload_n (i := 1) (a := 1) rfl rfl (dk_X4_clause 71 _ rfl) ?_
    refine F_iload_n (i := 2) (a := 2) rfl rfl (dk_X4_clause 72 _ rfl) ?_
    refine F_callV (ι' := uU) (ci := 5) (b := a1) (As := [.int x29]) (d' := 2) (ha1) ok_X5_addTake vi_X5_addTake cl_4_64 (n := 1) (by decide +kernel) rfl rfl rfl (Nat.le_of_ble_eq_true rfl) (by omega) (dk_X4_clause 73 _ rfl) (c_X5_addTake _ _ _ (ha1)) (fun x38 m39 => ?_)
    show JF _ _ _ _ _ _ [] _ _
    refine F_goto (tgt := 135) (by decide) (dk_X4_clause 76 _ rfl) ?_
    exact F_retV rfl (dk_X4_clause 135 _ rfl)
  refine F_look (off := 126) (tgt := 130) (by decide) (by have q0 := fI_ne c4_0; rw [show (99 : Int32).toInt = 99 from by decide] at q0; have q1 := fI_ne c4_1; rw [show (100 : Int32).toInt = 100 from by decide] at q1; have q2 := fI_ne c4_2; rw [show (102 : Int32).toInt = 102 from by decide] at q2; have q3 := fI_ne c4_3; rw [show (116 : Int32).toInt = 116 from by decide] at q3; simp [Op.lookupswitch.offset, q0, Ne.symm q0, q1, Ne.symm q1, q2, Ne.symm q2, q3, Ne.symm q3]) (by decide) (dk_X4_clause 4 _ rfl) ?_
  refine F_aload_n (i := 0) (a := 0) rfl rfl (dk_X4_clause 130 _ rfl) ?_
  refine F_iconst (v := 0) (by decide) (dk_X4_clause 131 _ rfl) ?_
  refine F_pI (n := 131) fxX_4_3_2 rfl fl_4_24 (fun q hq => by cases hq; rfl) (Or.inl rfl) (dk_X4_clause 132 _ rfl) (fun m41 => ?_)
  exact F_retV rfl (dk_X4_clause 135 _ rfl)
def f_X5_clear (m : mM) (a0 : Nat) : fR Unit :=
  nmM (wI m (64 * a0 + 0) 10) fun m1 => nmM (wI m1 (64 * a0 + 1) 1) fun m2 => nmM (wI m2 (64 * a0 + 2) 99) fun m3 => nmM (wI m3 (64 * a0 + 3) 0) fun m4 => nmM (wI m4 (64 * a0 + 4) 0) fun m5 => some ((), m5)
theorem c_X5_clear (m : mM) (a0 : Nat) (ha0 : isC true 5 a0 = true) : cF true uU m_X5_clear 2 [.ref a0] m (f_X5_clear m a0) := by
  refine cF_of ok_X5_clear (fun _ _ => Nat.le_of_ble_eq_true rfl) ?_
  unfold f_X5_clear
  show JF _ _ _ _ _ [(0, .ref a0)] _ _ _
  refine F_aload_n (i := 0) (a := 0) rfl rfl (dk_X5_clear 0 _ rfl) ?_
  refine F_bipush (v := 10) (by decide) (dk_X5_clear 1 _ rfl) ?_
  refine F_pI (n := (64 * a0 + 0)) (lyT_0 ha0) rfl fl_5_30 (fun q hq => by cases hq; rfl) trivial (dk_X5_clear 3 _ rfl) (fun m1 => ?_)
  refine F_aload_n (i := 0) (a := 0) rfl rfl (dk_X5_clear 6 _ rfl) ?_
  refine F_iconst (v := 1) (by decide) (dk_X5_clear 7 _ rfl) ?_
  refine F_pI (n := (64 * a0 + 1)) (lyT_1 ha0) rfl fl_5_34 (fun q hq => by cases hq; rfl) trivial (dk_X5_clear 8 _ rfl) (fun m2 => ?_)
  refine F_aload_n (i := 0) (a := 0) rfl rfl (dk_X5_clear 11 _ rfl) ?_
  refine F_bipush (v := 99) (by decide) (dk_X5_clear 12 _ rfl) ?_
  refine F_pI (n := (64 * a0 + 2)) (lyT_2 ha0) rfl fl_5_37 (fun q hq => by cases hq; rfl) trivial (dk_X5_clear 14 _ rfl) (fun m3 => ?_)
  refine F_aload_n (i := 0) (a := 0) rfl rfl (dk_X5_clear 17 _ rfl) ?_
  refine F_iconst (v := 0) (by decide) (dk_X5_clear 18 _ rfl) ?_
  refine F_pI (n := (64 * a0 + 3)) (lyT_3 ha0) rfl fl_5_40 (fun q hq => by cases hq; rfl) trivial (dk_X5_clear 19 _ rfl) (fun m4 => ?_)
  refine F_aload_n (i := 0) (a := 0) rfl rfl (dk_X5_clear 22 _ rfl) ?_
  refine F_iconst (v := 0) (by decide) (dk_X5_clear 23 _ rfl) ?_
  refine F_pI (n := (64 * a0 + 4)) (lyT_4 ha0) rfl fl_5_43 (fun q hq => by cases hq; rfl) trivial (dk_X5_clear 24 _ rfl) (fun m5 => ?_)
  exact F_retV rfl (dk_X5_clear 27 _ rfl)
def f_X4_parse_62  (m : mM)  : fR Int32 :=
  (if (mI m 131) = 0 then some (0, m) else (if (mI m 130) = (mI m 129) then some (1, m) else some (0, m)))
theorem j_X4_parse_62   (m : mM)   : JF true uI m_X4_parse 21 62 [(0, .ref 2)] [] m (f_X4_parse_62  m ) := by
  unfold f_X4_parse_62
  refine F_aload_n (i := 0) (a := 0) rfl rfl (dk_X4_parse 62 _ rfl) ?_
  refine F_gI (n := 131) fxX_4_3_2 rfl fl_4_24 (dk_X4_parse 63 _ rfl) ?_
  refine F_if_eq (tgt := 84) (by decide) (dk_X4_parse 66 _ rfl) ?_ ?_
  · refine F_iconst (v := 0) (by decide) (dk_X4_parse 84 _ rfl) ?_
    exact F_retB rfl (Or.inl rfl) (dk_X4_parse 85 _ rfl)
  · refine F_aload_n (i := 0) (a := 0) rfl rfl (dk_X4_parse 69 _ rfl) ?_
    refine F_gI (n := 130) fxX_4_2_2 rfl fl_4_20 (dk_X4_parse 70 _ rfl) ?_
    refine F_aload_n (i := 0) (a := 0) rfl rfl (dk_X4_parse 73 _ rfl) ?_
    refine F_gI (n := 129) fxX_4_1_2 rfl fl_4_32 (dk_X4_parse 74 _ rfl) ?_
    refine F_icmp_ne (tgt := 84) (by decide) (dk_X4_parse 77 _ rfl) ?_ ?_
    · refine F_iconst (v := 0) (by decide) (dk_X4_parse 84 _ rfl) ?_
      exact F_retB rfl (Or.inl rfl) (dk_X4_parse 85 _ rfl)
    · refine F_iconst (v := 1) (by decide) (dk_X4_parse 80 _ rfl) ?_
      refine F_goto (tgt := 85) (by decide) (dk_X4_parse 81 _ rfl) ?_
      exact F_retB rfl (Or.inr rfl) (dk_X4_parse 85 _ rfl)
def fb_X4_parse_21 (K21 : mM → Nat → Int32 → fR Int32) (m : mM) (y1 : Nat) (y2 : Int32) : fR Int32 :=
  (if 10 ≤ y2 then (f_X4_parse_62  m ) else (if (mI m 131) = 0 then (f_X4_parse_62  m ) else (if (mI m 129) ≤ (mI m 130) then (f_X4_parse_62  m ) else bnd (f_X4_word m 2) fun (x9 : Unit) (m10 : mM) => bnd (f_X4_clause m10 y1) fun (x12 : Unit) (m13 : mM) => (K21 m13 y1 (y2 + 1)))))
def f_X4_parse_21  : Nat → mM → Nat → Int32 → fR Int32
  | 0, _, _, _ => none
  | F + 1, m, y1, y2 => fb_X4_parse_21  (f_X4_parse_21  F) m y1 y2
theorem jb_X4_parse_21 (K21 : mM → Nat → Int32 → fR Int32) (hK21 : ∀ (m : mM) (y1 : Nat) (y2 : Int32) (hy1 : isC true 5 y1 = true), JF true uI m_X4_parse 21 21 [(0, .ref 2), (1, .ref y1), (2, .int y2)] [] m (K21 m y1 y2)) (m : mM) (y1 : Nat) (y2 : Int32) (hy1 : isC true 5 y1 = true) : JF true uI m_X4_parse 21 21 [(0, .ref 2), (1, .ref y1), (2, .int y2)] [] m (fb_X4_parse_21 K21 m y1 y2) := by
  unfold fb_X4_parse_21
  refine F_iload_n (i := 2) (a := 2) rfl rfl (dk_X4_parse 21 _ rfl) ?_
  refine F_bipush (v := 10) (by decide) (dk_X4_parse 22 _ rfl) ?_
  refine F_icmp_ge (tgt := 62) (by decide) (dk_X4_parse 24 _ rfl) ?_ ?_
  · exact F_loc (List.forall_mem_cons.mpr ⟨(.head _), (fun _ z => absurd z List.not_mem_nil)⟩) (j_X4_parse_62   _  )
  · refine F_aload_n (i := 0) (a := 0) rfl rfl (dk_X4_parse 27 _ rfl) ?_
    refine F_gI (n := 131) fxX_4_3_2 rfl fl_4_24 (dk_X4_parse 28 _ rfl) ?_
    refine F_if_eq (tgt := 62) (by decide) (dk_X4_parse 31 _ rfl) ?_ ?_
    · exact F_loc (List.forall_mem_cons.mpr ⟨(.head _), (fun _ z => absurd z List.not_mem_nil)⟩) (j_X4_parse_62   _  )
    · refine F_aload_n (i := 0) (a := 0) rfl rfl (dk_X4_parse 34 _ rfl) ?_
      refine F_gI (n := 130) fxX_4_2_2 rfl fl_4_20 (dk_X4_parse 35 _ rfl) ?_
      refine F_aload_n (i := 0) (a := 0) rfl rfl (dk_X4_parse 38 _ rfl) ?_
      refine F_gI (n := 129) fxX_4_1_2 rfl fl_4_32 (dk_X4_parse 39 _ rfl) ?_
      refine F_icmp_ge (tgt := 62) (by decide) (dk_X4_parse 42 _ rfl) ?_ ?_
      · exact F_loc (List.forall_mem_cons.mpr ⟨(.head _), (fun _ z => absurd z List.not_mem_nil)⟩) (j_X4_parse_62   _  )
      · refine F_aload_n (i := 0) (a := 0) rfl rfl (dk_X4_parse 45 _ rfl) ?_
        refine F_sldc (z := 2) rfl os_2 (dk_X4_parse 46 _ rfl) ?_
        refine F_callV (ι' := uU) (ci := 4) (b := 2) (As := [.retAddr 2]) (d' := 6) (rfl) ok_X4_word vi_X4_word cl_4_37 (n := 1) (by decide +kernel) rfl rfl rfl (Nat.le_of_ble_eq_true rfl) (by omega) (dk_X4_parse 48 _ rfl) (c_X4_word _ _ ) (fun x9 m10 => ?_)
        show JF _ _ _ _ _ _ [] _ _
        refine F_aload_n (i := 0) (a := 0) rfl rfl (dk_X4_parse 51 _ rfl) ?_
        refine F_aload_n (i := 1) (a := 1) rfl rfl (dk_X4_parse 52 _ rfl) ?_
        refine F_callV (ι' := uU) (ci := 4) (b := 2) (As := [.ref y1]) (d' := 20) (rfl) ok_X4_clause vi_X4_clause cl_4_28 (n := 1) (by decide +kernel) rfl rfl rfl (Nat.le_of_ble_eq_true rfl) (by omega) (dk_X4_parse 53 _ rfl) (c_X4_clause _ _ (hy1)) (fun x12 m13 => ?_)
        show JF _ _ _ _ _ _ [] _ _
        refine F_iinc (i := 2) (n := 1) (v := (y2 + 1)) (lv' := [(2, .int (y2 + 1)), (0, .ref 2), (1, .ref y1)]) rfl (by first | rfl | decide) (by decide) rfl (dk_X4_parse 56 _ rfl) ?_
        refine F_goto (tgt := 21) (by decide) (dk_X4_parse 59 _ rfl) ?_
        exact F_loc (List.forall_mem_cons.mpr ⟨(.tail _ (.head _)), (List.forall_mem_cons.mpr ⟨(.tail _ (.tail _ (.head _))), (List.forall_mem_cons.mpr ⟨(.head _), (fun _ z => absurd z List.not_mem_nil)⟩)⟩)⟩) (hK21 _ _ _ (hy1))
theorem j_X4_parse_21   : ∀ (F : Nat) (m : mM) (y1 : Nat) (y2 : Int32) (hy1 : isC true 5 y1 = true), JF true uI m_X4_parse 21 21 [(0, .ref 2), (1, .ref y1), (2, .int y2)] [] m (f_X4_parse_21  F m y1 y2) := by
  intro F
  induction F with
  | zero => intro m y1 y2 hy1; exact F_no
  | succ F ih => intro m y1 y2 hy1; exact jb_X4_parse_21  (f_X4_parse_21  F)  ih m y1 y2 hy1
def f_X4_parse (m : mM) (a1 : Nat) : fR Int32 :=
  bnd (f_X5_clear m a1) fun (x1 : Unit) (m2 : mM) => nmM (wI m2 130 0) fun m4 => nmM (wI m4 131 1) fun m5 => bnd (f_X4_clause m5 a1) fun (x6 : Unit) (m7 : mM) => (f_X4_parse_21  1000 m7 a1 1)
theorem c_X4_parse (m : mM) (a1 : Nat) (ha1 : isC true 5 a1 = true) : cF true uI m_X4_parse 21 [.ref 2, .ref a1] m (f_X4_parse m a1) := by
  refine cF_of ok_X4_parse (fun _ _ => Nat.le_of_ble_eq_true rfl) ?_
  unfold f_X4_parse
  show JF _ _ _ _ _ [(0, .ref 2), (1, .ref a1)] _ _ _
  refine F_aload_n (i := 1) (a := 1) rfl rfl (dk_X4_parse 0 _ rfl) ?_
  refine F_callV (ι' := uU) (ci := 5) (b := a1) (As := []) (d' := 2) (ha1) ok_X5_clear vi_X5_clear cl_4_15 (n := 0) (by decide +kernel) rfl rfl rfl (Nat.le_of_ble_eq_true rfl) (by omega) (dk_X4_parse 1 _ rfl) (c_X5_clear _ _ (ha1)) (fun x1 m2 => ?_)
  show JF _ _ _ _ _ _ [] _ _
  refine F_aload_n (i := 0) (a := 0) rfl rfl (dk_X4_parse 4 _ rfl) ?_
  refine F_iconst (v := 0) (by decide) (dk_X4_parse 5 _ rfl) ?_
  refine F_pI (n := 130) fxX_4_2_2 rfl fl_4_20 (fun q hq => by cases hq; rfl) trivial (dk_X4_parse 6 _ rfl) (fun m4 => ?_)
  refine F_aload_n (i := 0) (a := 0) rfl rfl (dk_X4_parse 9 _ rfl) ?_
  refine F_iconst (v := 1) (by decide) (dk_X4_parse 10 _ rfl) ?_
  refine F_pI (n := 131) fxX_4_3_2 rfl fl_4_24 (fun q hq => by cases hq; rfl) (Or.inr rfl) (dk_X4_parse 11 _ rfl) (fun m5 => ?_)
  refine F_aload_n (i := 0) (a := 0) rfl rfl (dk_X4_parse 14 _ rfl) ?_
  refine F_aload_n (i := 1) (a := 1) rfl rfl (dk_X4_parse 15 _ rfl) ?_
  refine F_callV (ι' := uU) (ci := 4) (b := 2) (As := [.ref a1]) (d' := 20) (rfl) ok_X4_clause vi_X4_clause cl_4_28 (n := 1) (by decide +kernel) rfl rfl rfl (Nat.le_of_ble_eq_true rfl) (by omega) (dk_X4_parse 16 _ rfl) (c_X4_clause _ _ (ha1)) (fun x6 m7 => ?_)
  show JF _ _ _ _ _ _ [] _ _
  refine F_iconst (v := 1) (by decide) (dk_X4_parse 19 _ rfl) ?_
  refine F_istore_n (lv' := [(2, .int 1), (0, .ref 2), (1, .ref a1)]) (i := 2) (a := 2) rfl (by decide) rfl (dk_X4_parse 20 _ rfl) ?_
  exact F_loc (List.forall_mem_cons.mpr ⟨(.tail _ (.head _)), (List.forall_mem_cons.mpr ⟨(.tail _ (.tail _ (.head _))), (List.forall_mem_cons.mpr ⟨(.head _), (fun _ z => absurd z List.not_mem_nil)⟩)⟩)⟩) (j_X4_parse_21   1000 _ _ _ (ha1))
def f_X6_isDay (m : mM) (p0 : Int32) : fR Int32 :=
  (if p0 < 0 then some (0, m) else (if 12 ≤ p0 then some (0, m) else some (1, m)))
theorem c_X6_isDay (m : mM) (p0 : Int32)  : cF true uI m_X6_isDay 2 [.int p0] m (f_X6_isDay m p0) := by
  refine cF_of ok_X6_isDay (fun _ _ => Nat.le_of_ble_eq_true rfl) ?_
  unfold f_X6_isDay
  show JF _ _ _ _ _ [(0, .int p0)] _ _ _
  refine F_iload_n (i := 0) (a := 0) rfl rfl (dk_X6_isDay 0 _ rfl) ?_
  refine F_if_lt (tgt := 14) (by decide) (dk_X6_isDay 1 _ rfl) ?_ ?_
  · refine F_iconst (v := 0) (by decide) (dk_X6_isDay 14 _ rfl) ?_
    exact F_retB rfl (Or.inl rfl) (dk_X6_isDay 15 _ rfl)
  · refine F_iload_n (i := 0) (a := 0) rfl rfl (dk_X6_isDay 4 _ rfl) ?_
    refine F_bipush (v := 12) (by decide) (dk_X6_isDay 5 _ rfl) ?_
    refine F_icmp_ge (tgt := 14) (by decide) (dk_X6_isDay 7 _ rfl) ?_ ?_
    · refine F_iconst (v := 0) (by decide) (dk_X6_isDay 14 _ rfl) ?_
      exact F_retB rfl (Or.inl rfl) (dk_X6_isDay 15 _ rfl)
    · refine F_iconst (v := 1) (by decide) (dk_X6_isDay 10 _ rfl) ?_
      refine F_goto (tgt := 15) (by decide) (dk_X6_isDay 11 _ rfl) ?_
      exact F_retB rfl (Or.inr rfl) (dk_X6_isDay 15 _ rfl)
def f_X6_person (m : mM) (p1 : Int32) (p2 : Int32) (p3 : Int32) (p4 : Int32) : fR Int32 :=
  (if p1 < 0 then some ((-1), m) else (if p1 < 7 then (if p2 < 0 then some ((-2), m) else (if 10 ≤ p2 then some ((-2), m) else bnd (f_X6_isDay m p3) fun (x1 : Int32) (m2 : mM) => (if x1 = 0 then some ((-2), m2) else bnd (f_X6_isDay m2 p4) fun (x4 : Int32) (m5 : mM) => (if x4 = 0 then some ((-2), m5) else (if (mI m5 896) < 7 then bnd (f_X2_add m5 14 p1 p2 p3 p4) fun (x7 : Unit) (m8 : mM) => some (((mI m8 896) - 1), m8) else some ((-4), m5)))))) else some ((-1), m)))
theorem c_X6_person (m : mM) (p1 : Int32) (p2 : Int32) (p3 : Int32) (p4 : Int32)  : cF true uI m_X6_person 3 [.ref 0, .int p1, .int p2, .int p3, .int p4] m (f_X6_person m p1 p2 p3 p4) := by
  refine cF_of ok_X6_person (fun _ _ => Nat.le_of_ble_eq_true rfl) ?_
  unfold f_X6_person
  show JF _ _ _ _ _ [(0, .ref 0), (1, .int p1), (2, .int p2), (3, .int p3), (4, .int p4)] _ _ _
  refine F_iload_n (i := 1) (a := 1) rfl rfl (dk_X6_person 0 _ rfl) ?_
  refine F_if_lt (tgt := 10) (by decide) (dk_X6_person 1 _ rfl) ?_ ?_
  · refine F_iconst (v := (-1)) (by decide) (dk_X6_person 10 _ rfl) ?_
    exact F_ret rfl (dk_X6_person 11 _ rfl)
  · refine F_iload_n (i := 1) (a := 1) rfl rfl (dk_X6_person 4 _ rfl) ?_
    refine F_bipush (v := 7) (by decide) (dk_X6_person 5 _ rfl) ?_
    refine F_icmp_lt (tgt := 12) (by decide) (dk_X6_person 7 _ rfl) ?_ ?_
    · refine F_iload_n (i := 2) (a := 2) rfl rfl (dk_X6_person 12 _ rfl) ?_
      refine F_if_lt (tgt := 37) (by decide) (dk_X6_person 13 _ rfl) ?_ ?_
      · refine F_bipush (v := (-2)) (by decide) (dk_X6_person 37 _ rfl) ?_
        exact F_ret rfl (dk_X6_person 39 _ rfl)
      · refine F_iload_n (i := 2) (a := 2) rfl rfl (dk_X6_person 16 _ rfl) ?_
        refine F_bipush (v := 10) (by decide) (dk_X6_person 17 _ rfl) ?_
        refine F_icmp_ge (tgt := 37) (by decide) (dk_X6_person 19 _ rfl) ?_ ?_
        · refine F_bipush (v := (-2)) (by decide) (dk_X6_person 37 _ rfl) ?_
          exact F_ret rfl (dk_X6_person 39 _ rfl)
        · refine F_iload_n (i := 3) (a := 3) rfl rfl (dk_X6_person 22 _ rfl) ?_
          refine F_callS (ι' := uI) (As := [.int p3]) (d' := 2) ok_X6_isDay st_X6_isDay cl_6_67 rfl (n := 1) (by decide +kernel) rfl (Nat.le_of_ble_eq_true rfl) (by omega) (dk_X6_person 23 _ rfl) (c_X6_isDay _ _ ) (fun x1 m2 => ?_)
          show JF _ _ _ _ _ _ [.int x1] _ _
          refine F_if_eq (tgt := 37) (by decide) (dk_X6_person 26 _ rfl) ?_ ?_
          · refine F_bipush (v := (-2)) (by decide) (dk_X6_person 37 _ rfl) ?_
            exact F_ret rfl (dk_X6_person 39 _ rfl)
          · refine F_iload (i := 4) rfl (dk_X6_person 29 _ rfl) ?_
            refine F_callS (ι' := uI) (As := [.int p4]) (d' := 2) ok_X6_isDay st_X6_isDay cl_6_67 rfl (n := 1) (by decide +kernel) rfl (Nat.le_of_ble_eq_true rfl) (by omega) (dk_X6_person 31 _ rfl) (c_X6_isDay _ _ ) (fun x4 m5 => ?_)
            show JF _ _ _ _ _ _ [.int x4] _ _
            refine F_if_ne (tgt := 40) (by decide) (dk_X6_person 34 _ rfl) ?_ ?_
            · refine F_aload_n (i := 0) (a := 0) rfl rfl (dk_X6_person 40 _ rfl) ?_
              refine F_gR (b := 14) fxX_6_0_0 fl_6_47 (dk_X6_person 41 _ rfl) ?_
              refine F_gI (n := 896) fxX_2_0_14 rfl fl_6_71 (dk_X6_person 44 _ rfl) ?_
              refine F_bipush (v := 7) (by decide) (dk_X6_person 47 _ rfl) ?_
              refine F_icmp_lt (tgt := 55) (by decide) (dk_X6_person 49 _ rfl) ?_ ?_
              · refine F_aload_n (i := 0) (a := 0) rfl rfl (dk_X6_person 55 _ rfl) ?_
                refine F_gR (b := 14) fxX_6_0_0 fl_6_47 (dk_X6_person 56 _ rfl) ?_
                refine F_iload_n (i := 1) (a := 1) rfl rfl (dk_X6_person 59 _ rfl) ?_
                refine F_iload_n (i := 2) (a := 2) rfl rfl (dk_X6_person 60 _ rfl) ?_
                refine F_iload_n (i := 3) (a := 3) rfl rfl (dk_X6_person 61 _ rfl) ?_
                refine F_iload (i := 4) rfl (dk_X6_person 62 _ rfl) ?_
                refine F_callV (ι' := uU) (ci := 2) (b := 14) (As := [.int p1, .int p2, .int p3, .int p4]) (d' := 2) (rfl) ok_X2_add vi_X2_add cl_6_75 (n := 4) (by decide +kernel) rfl rfl rfl (Nat.le_of_ble_eq_true rfl) (by omega) (dk_X6_person 64 _ rfl) (c_X2_add _ _ _ _ _ _ (rfl)) (fun x7 m8 => ?_)
                show JF _ _ _ _ _ _ [] _ _
                refine F_aload_n (i := 0) (a := 0) rfl rfl (dk_X6_person 67 _ rfl) ?_
                refine F_gR (b := 14) fxX_6_0_0 fl_6_47 (dk_X6_person 68 _ rfl) ?_
                refine F_gI (n := 896) fxX_2_0_14 rfl fl_6_71 (dk_X6_person 71 _ rfl) ?_
                refine F_iconst (v := 1) (by decide) (dk_X6_person 74 _ rfl) ?_
                refine F_isub (dk_X6_person 75 _ rfl) ?_
                exact F_ret rfl (dk_X6_person 76 _ rfl)
              · refine F_bipush (v := (-4)) (by decide) (dk_X6_person 52 _ rfl) ?_
                exact F_ret rfl (dk_X6_person 54 _ rfl)
            · refine F_bipush (v := (-2)) (by decide) (dk_X6_person 37 _ rfl) ?_
              exact F_ret rfl (dk_X6_person 39 _ rfl)
    · refine F_iconst (v := (-1)) (by decide) (dk_X6_person 10 _ rfl) ?_
      exact F_ret rfl (dk_X6_person 11 _ rfl)
def f_X6_isPerson (m : mM) (p1 : Int32) : fR Int32 :=
  (if p1 < 0 then some (0, m) else (if (mI m 896) ≤ p1 then some (0, m) else some (1, m)))
theorem c_X6_isPerson (m : mM) (p1 : Int32)  : cF true uI m_X6_isPerson 2 [.ref 0, .int p1] m (f_X6_isPerson m p1) := by
  refine cF_of ok_X6_isPerson (fun _ _ => Nat.le_of_ble_eq_true rfl) ?_
  unfold f_X6_isPerson
  show JF _ _ _ _ _ [(0, .ref 0), (1, .int p1)] _ _ _
  refine F_iload_n (i := 1) (a := 1) rfl rfl (dk_X6_isPerson 0 _ rfl) ?_
  refine F_if_lt (tgt := 19) (by decide) (dk_X6_isPerson 1 _ rfl) ?_ ?_
  · refine F_iconst (v := 0) (by decide) (dk_X6_isPerson 19 _ rfl) ?_
    exact F_retB rfl (Or.inl rfl) (dk_X6_isPerson 20 _ rfl)
  · refine F_iload_n (i := 1) (a := 1) rfl rfl (dk_X6_isPerson 4 _ rfl) ?_
    refine F_aload_n (i := 0) (a := 0) rfl rfl (dk_X6_isPerson 5 _ rfl) ?_
    refine F_gR (b := 14) fxX_6_0_0 fl_6_47 (dk_X6_isPerson 6 _ rfl) ?_
    refine F_gI (n := 896) fxX_2_0_14 rfl fl_6_71 (dk_X6_isPerson 9 _ rfl) ?_
    refine F_icmp_ge (tgt := 19) (by decide) (dk_X6_isPerson 12 _ rfl) ?_ ?_
    · refine F_iconst (v := 0) (by decide) (dk_X6_isPerson 19 _ rfl) ?_
      exact F_retB rfl (Or.inl rfl) (dk_X6_isPerson 20 _ rfl)
    · refine F_iconst (v := 1) (by decide) (dk_X6_isPerson 15 _ rfl) ?_
      refine F_goto (tgt := 20) (by decide) (dk_X6_isPerson 16 _ rfl) ?_
      exact F_retB rfl (Or.inr rfl) (dk_X6_isPerson 20 _ rfl)
def f_X6_of (m : mM) (p1 : Int32) (p2 : Int32) : fR Int32 :=
  bnd (f_X6_isPerson m p1) fun (x1 : Int32) (m2 : mM) => (if x1 = 0 then some ((-10000001), m2) else chR true 5 (mR m2 900) fun r4 => bnd (f_X1_start m2 14 ((mI m2 (64 * r4 + 0)))) fun (x5 : Unit) (m6 : mM) => (gA (mA m6 44) p1).bind fun x8 => (if p2 = 0 then (gA (mA m6 15) p1).bind fun x10 => some (x10, m6) else if p2 = 1 then (gA (mA m6 16) p1).bind fun x11 => some (x11, m6) else if p2 = 2 then (gA (mA m6 17) p1).bind fun x12 => some (x12, m6) else if p2 = 3 then (gA (mA m6 18) p1).bind fun x13 => some (x13, m6) else if p2 = 4 then (gA (mA m6 20) p1).bind fun x14 => (if x14 = 0 then some (0, m6) else some (1, m6)) else if p2 = 5 then some (x8, m6) else if p2 = 6 then bnd (f_X1_putOff m6 p1) fun (x15 : Int32) (m16 : mM) => some (x15, m16) else if p2 = 7 then bnd (f_X1_takes m6 p1 x8) fun (x18 : Int32) (m19 : mM) => some (x18, m19) else if p2 = 8 then (gA (mA m6 19) p1).bind fun x21 => some (x21, m6) else some ((-10000001), m6)))
theorem c_X6_of (m : mM) (p1 : Int32) (p2 : Int32)  : cF true uI m_X6_of 6 [.ref 0, .int p1, .int p2] m (f_X6_of m p1 p2) := by
  refine cF_of ok_X6_of (fun _ _ => Nat.le_of_ble_eq_true rfl) ?_
  unfold f_X6_of
  show JF _ _ _ _ _ [(0, .ref 0), (1, .int p1), (2, .int p2)] _ _ _
  refine F_aload_n (i := 0) (a := 0) rfl rfl (dk_X6_of 0 _ rfl) ?_
  refine F_iload_n (i := 1) (a := 1) rfl rfl (dk_X6_of 1 _ rfl) ?_
  refine F_callV (ι' := uI) (ci := 6) (b := 0) (As := [.int p1]) (d' := 2) (rfl) ok_X6_isPerson vi_X6_isPerson cl_6_79 (n := 1) (by decide +kernel) rfl rfl rfl (Nat.le_of_ble_eq_true rfl) (by omega) (dk_X6_of 2 _ rfl) (c_X6_isPerson _ _ ) (fun x1 m2 => ?_)
  show JF _ _ _ _ _ _ [.int x1] _ _
  refine F_if_ne (tgt := 11) (by decide) (dk_X6_of 5 _ rfl) ?_ ?_
  · refine F_aload_n (i := 0) (a := 0) rfl rfl (dk_X6_of 11 _ rfl) ?_
    refine F_gR (b := 41) fxX_6_4_0 fl_6_62 (dk_X6_of 12 _ rfl) ?_
    refine F_aload_n (i := 0) (a := 0) rfl rfl (dk_X6_of 15 _ rfl) ?_
    refine F_gR (b := 14) fxX_6_0_0 fl_6_47 (dk_X6_of 16 _ rfl) ?_
    refine F_aload_n (i := 0) (a := 0) rfl rfl (dk_X6_of 19 _ rfl) ?_
    refine F_gR (b := 14) fxX_6_0_0 fl_6_47 (dk_X6_of 20 _ rfl) ?_
    refine F_gV (n := 900) fxX_2_4_14 rfl fl_6_83 (dk_X6_of 23 _ rfl) ?_
    refine F_ch (fun r4 hr4 => ?_)
    refine F_gI (n := (64 * r4 + 0)) (lyT_0 hr4) rfl fl_6_87 (dk_X6_of 26 _ rfl) ?_
    refine F_callV (ι' := uU) (ci := 1) (b := 41) (As := [.ref 14, .int (mI m2 (64 * r4 + 0))]) (d' := 5) (rfl) ok_X1_start vi_X1_start cl_6_90 (n := 2) (by decide +kernel) rfl rfl rfl (Nat.le_of_ble_eq_true rfl) (by omega) (dk_X6_of 29 _ rfl) (c_X1_start _ _ _ (rfl)) (fun x5 m6 => ?_)
    show JF _ _ _ _ _ _ [] _ _
    refine F_aload_n (i := 0) (a := 0) rfl rfl (dk_X6_of 32 _ rfl) ?_
    refine F_gR (b := 41) fxX_6_4_0 fl_6_62 (dk_X6_of 33 _ rfl) ?_
    refine F_gR (b := 44) fxX_1_7_41 fl_6_94 (dk_X6_of 36 _ rfl) ?_
    refine F_iload_n (i := 1) (a := 1) rfl rfl (dk_X6_of 39 _ rfl) ?_
    refine F_iald (axX_0_44) (dk_X6_of 40 _ rfl) (fun x8 => ?_)
    refine F_istore_n (lv' := [(3, .int x8), (0, .ref 0), (1, .int p1), (2, .int p2)]) (i := 3) (a := 3) rfl (by decide) rfl (dk_X6_of 41 _ rfl) ?_
    refine F_iload_n (i := 2) (a := 2) rfl rfl (dk_X6_of 42 _ rfl) ?_
    refine F_case (fun c9_0 => ?_) (fun c9_0 => ?_)
    · rw [c9_0]; refine F_tin (off := 49) (tgt := 92) (by decide) (by decide) rfl (by decide) (dk_X6_of 43 _ rfl) ?_
      refine F_aload_n (i := 0) (a := 0) rfl rfl (dk_X6_of 92 _ rfl) ?_
      refine F_gR (b := 14) fxX_6_0_0 fl_6_47 (dk_X6_of 93 _ rfl) ?_
      refine F_gR (b := 15) fxX_2_5_14 fl_6_97 (dk_X6_of 96 _ rfl) ?_
      refine F_iload_n (i := 1) (a := 1) rfl rfl (dk_X6_of 99 _ rfl) ?_
      refine F_iald (axX_0_15) (dk_X6_of 100 _ rfl) (fun x10 => ?_)
      exact F_ret rfl (dk_X6_of 101 _ rfl)
    refine F_case (fun c9_1 => ?_) (fun c9_1 => ?_)
    · rw [c9_1]; refine F_tin (off := 59) (tgt := 102) (by decide) (by decide) rfl (by decide) (dk_X6_of 43 _ rfl) ?_
      refine F_aload_n (i := 0) (a := 0) rfl rfl (dk_X6_of 102 _ rfl) ?_
      refine F_gR (b := 14) fxX_6_0_0 fl_6_47 (dk_X6_of 103 _ rfl) ?_
      refine F_gR (b := 16) fxX_2_6_14 fl_6_100 (dk_X6_of 106 _ rfl) ?_
      refine F_iload_n (i := 1) (a := 1) rfl rfl (dk_X6_of 109 _ rfl) ?_
      refine F_iald (axX_0_16) (dk_X6_of 110 _ rfl) (fun x11 => ?_)
      exact F_ret rfl (dk_X6_of 111 _ rfl)
    refine F_case (fun c9_2 => ?_) (fun c9_2 => ?_)
    · rw [c9_2]; refine F_tin (off := 69) (tgt := 112) (by decide) (by decide) rfl (by decide) (dk_X6_of 43 _ rfl) ?_
      refine F_aload_n (i := 0) (a := 0) rfl rfl (dk_X6_of 112 _ rfl) ?_
      refine F_gR (b := 14) fxX_6_0_0 fl_6_47 (dk_X6_of 113 _ rfl) ?_
      refine F_gR (b := 17) fxX_2_7_14 fl_6_103 (dk_X6_of 116 _ rfl) ?_
      refine F_iload_n (i := 1) (a := 1) rfl rfl (dk_X6_of 119 _ rfl) ?_
      refine F_iald (axX_0_17) (dk_X6_of 120 _ rfl) (fun x12 => ?_)
      exact F_ret rfl (dk_X6_of 121 _ rfl)
    refine F_case (fun c9_3 => ?_) (fun c9_3 => ?_)
    · rw [c9_3]; refine F_tin (off := 79) (tgt := 122) (by decide) (by decide) rfl (by decide) (dk_X6_of 43 _ rfl) ?_
      refine F_aload_n (i := 0) (a := 0) rfl rfl (dk_X6_of 122 _ rfl) ?_
      refine F_gR (b := 14) fxX_6_0_0 fl_6_47 (dk_X6_of 123 _ rfl) ?_
      refine F_gR (b := 18) fxX_2_8_14 fl_6_106 (dk_X6_of 126 _ rfl) ?_
      refine F_iload_n (i := 1) (a := 1) rfl rfl (dk_X6_of 129 _ rfl) ?_
      refine F_iald (axX_0_18) (dk_X6_of 130 _ rfl) (fun x13 => ?_)
      exact F_ret rfl (dk_X6_of 131 _ rfl)
    refine F_case (fun c9_4 => ?_) (fun c9_4 => ?_)
    · rw [c9_4]; refine F_tin (off := 89) (tgt := 132) (by decide) (by decide) rfl (by decide) (dk_X6_of 43 _ rfl) ?_
      refine F_aload_n (i := 0) (a := 0) rfl rfl (dk_X6_of 132 _ rfl) ?_
      refine F_gR (b := 14) fxX_6_0_0 fl_6_47 (dk_X6_of 133 _ rfl) ?_
      refine F_gR (b := 20) fxX_2_10_14 fl_6_109 (dk_X6_of 136 _ rfl) ?_
      refine F_iload_n (i := 1) (a := 1) rfl rfl (dk_X6_of 139 _ rfl) ?_
      refine F_zald (axX_3_20) (dk_X6_of 140 _ rfl) (fun x14 => ?_)
      refine F_if_eq (tgt := 148) (by decide) (dk_X6_of 141 _ rfl) ?_ ?_
      · refine F_iconst (v := 0) (by decide) (dk_X6_of 148 _ rfl) ?_
        exact F_ret rfl (dk_X6_of 149 _ rfl)
      · refine F_iconst (v := 1) (by decide) (dk_X6_of 144 _ rfl) ?_
        refine F_goto (tgt := 149) (by decide) (dk_X6_of 145 _ rfl) ?_
        exact F_ret rfl (dk_X6_of 149 _ rfl)
    refine F_case (fun c9_5 => ?_) (fun c9_5 => ?_)
    · rw [c9_5]; refine F_tin (off := 107) (tgt := 150) (by decide) (by decide) rfl (by decide) (dk_X6_of 43 _ rfl) ?_
      refine F_iload_n (i := 3) (a := 3) rfl rfl (dk_X6_of 150 _ rfl) ?_
      exact F_ret rfl (dk_X6_of 151 _ rfl)
    refine F_case (fun c9_6 => ?_) (fun c9_6 => ?_)
    · rw [c9_6]; refine F_tin (off := 109) (tgt := 152) (by decide) (by decide) rfl (by decide) (dk_X6_of 43 _ rfl) ?_
      refine F_aload_n (i := 0) (a := 0) rfl rfl (dk_X6_of 152 _ rfl) ?_
      refine F_gR (b := 41) fxX_6_4_0 fl_6_62 (dk_X6_of 153 _ rfl) ?_
      refine F_iload_n (i := 1) (a := 1) rfl rfl (dk_X6_of 156 _ rfl) ?_
      refine F_callV (ι' := uI) (ci := 1) (b := 41) (As := [.int p1]) (d' := 2) (rfl) ok_X1_putOff vi_X1_putOff cl_6_113 (n := 1) (by decide +kernel) rfl rfl rfl (Nat.le_of_ble_eq_true rfl) (by omega) (dk_X6_of 157 _ rfl) (c_X1_putOff _ _ ) (fun x15 m16 => ?_)
      show JF _ _ _ _ _ _ [.int x15] _ _
      exact F_ret rfl (dk_X6_of 160 _ rfl)
    refine F_case (fun c9_7 => ?_) (fun c9_7 => ?_)
    · rw [c9_7]; refine F_tin (off := 118) (tgt := 161) (by decide) (by decide) rfl (by decide) (dk_X6_of 43 _ rfl) ?_
      refine F_aload_n (i := 0) (a := 0) rfl rfl (dk_X6_of 161 _ rfl) ?_
      refine F_gR (b := 41) fxX_6_4_0 fl_6_62 (dk_X6_of 162 _ rfl) ?_
      refine F_iload_n (i := 1) (a := 1) rfl rfl (dk_X6_of 165 _ rfl) ?_
      refine F_iload_n (i := 3) (a := 3) rfl rfl (dk_X6_of 166 _ rfl) ?_
      refine F_callV (ι' := uI) (ci := 1) (b := 41) (As := [.int p1, .int x8]) (d' := 4) (rfl) ok_X1_takes vi_X1_takes cl_6_117 (n := 2) (by decide +kernel) rfl rfl rfl (Nat.le_of_ble_eq_true rfl) (by omega) (dk_X6_of 167 _ rfl) (c_X1_takes _ _ _ ) (fun x18 m19 => ?_)
      show JF _ _ _ _ _ _ [.int x18] _ _
      exact F_ret rfl (dk_X6_of 170 _ rfl)
    refine F_case (fun c9_8 => ?_) (fun c9_8 => ?_)
    · rw [c9_8]; refine F_tin (off := 128) (tgt := 171) (by decide) (by decide) rfl (by decide) (dk_X6_of 43 _ rfl) ?_
      refine F_aload_n (i := 0) (a := 0) rfl rfl (dk_X6_of 171 _ rfl) ?_
      refine F_gR (b := 14) fxX_6_0_0 fl_6_47 (dk_X6_of 172 _ rfl) ?_
      refine F_gR (b := 19) fxX_2_9_14 fl_6_121 (dk_X6_of 175 _ rfl) ?_
      refine F_iload_n (i := 1) (a := 1) rfl rfl (dk_X6_of 178 _ rfl) ?_
      refine F_iald (axX_0_19) (dk_X6_of 179 _ rfl) (fun x21 => ?_)
      exact F_ret rfl (dk_X6_of 180 _ rfl)
    refine F_tout (tgt := 181) (by have q0 := fI_ne c9_0; rw [show (0 : Int32).toInt = 0 from by decide] at q0; have q1 := fI_ne c9_1; rw [show (1 : Int32).toInt = 1 from by decide] at q1; have q2 := fI_ne c9_2; rw [show (2 : Int32).toInt = 2 from by decide] at q2; have q3 := fI_ne c9_3; rw [show (3 : Int32).toInt = 3 from by decide] at q3; have q4 := fI_ne c9_4; rw [show (4 : Int32).toInt = 4 from by decide] at q4; have q5 := fI_ne c9_5; rw [show (5 : Int32).toInt = 5 from by decide] at q5; have q6 := fI_ne c9_6; rw [show (6 : Int32).toInt = 6 from by decide] at q6; have q7 := fI_ne c9_7; rw [show (7 : Int32).toInt = 7 from by decide] at q7; have q8 := fI_ne c9_8; rw [show (8 : Int32).toInt = 8 from by decide] at q8; omega) (by decide) (dk_X6_of 43 _ rfl) ?_
    refine F_ldc (v := (-10000001)) ct_6_82 (dk_X6_of 181 _ rfl) ?_
    exact F_ret rfl (dk_X6_of 183 _ rfl)
  · refine F_ldc (v := (-10000001)) ct_6_82 (dk_X6_of 8 _ rfl) ?_
    exact F_ret rfl (dk_X6_of 10 _ rfl)
def f_X6_set_50  (m : mM) (y1 : Int32) (y3 : Int32) (y100 : Nat) : fR Int32 :=
  (gA (mA m y100) y1).bind fun x7 => (sA 0 m y100 y1 y3).bind fun m8 => some (x7, m8)
theorem j_X6_set_50   (m : mM) (y1 : Int32) (y3 : Int32) (y100 : Nat) (hy100 : isA true 0 y100 = true) : JF true uI m_X6_set 3 50 [(1, .int y1), (3, .int y3)] [.ref y100] m (f_X6_set_50  m y1 y3 y100) := by
  unfold f_X6_set_50
  refine F_astore (lv' := [(4, .ref y100), (1, .int y1), (3, .int y3)]) (i := 4) (by decide) rfl (dk_X6_set 50 _ rfl) ?_
  refine F_aload (i := 4) rfl (dk_X6_set 52 _ rfl) ?_
  refine F_iload_n (i := 1) (a := 1) rfl rfl (dk_X6_set 54 _ rfl) ?_
  refine F_iald (hy100) (dk_X6_set 55 _ rfl) (fun x7 => ?_)
  refine F_istore (lv' := [(5, .int x7), (4, .ref y100), (1, .int y1), (3, .int y3)]) (i := 5) (by decide) rfl (dk_X6_set 56 _ rfl) ?_
  refine F_aload (i := 4) rfl (dk_X6_set 58 _ rfl) ?_
  refine F_iload_n (i := 1) (a := 1) rfl rfl (dk_X6_set 60 _ rfl) ?_
  refine F_iload_n (i := 3) (a := 3) rfl rfl (dk_X6_set 61 _ rfl) ?_
  refine F_iast (hy100) (dk_X6_set 62 _ rfl) (fun m8 => ?_)
  refine F_iload (i := 5) rfl (dk_X6_set 63 _ rfl) ?_
  exact F_ret rfl (dk_X6_set 65 _ rfl)
def f_X6_set (m : mM) (p1 : Int32) (p2 : Int32) (p3 : Int32) : fR Int32 :=
  bnd (f_X6_isPerson m p1) fun (x1 : Int32) (m2 : mM) => (if x1 = 0 then some ((-1), m2) else (if p2 < 0 then some ((-1), m2) else (if p2 ≤ 1 then bnd (f_X6_isDay m2 p3) fun (x4 : Int32) (m5 : mM) => (if x4 = 0 then some ((-2), m5) else (if p2 = 0 then (f_X6_set_50  m5 p1 p3 17) else (f_X6_set_50  m5 p1 p3 18))) else some ((-1), m2))))
theorem c_X6_set (m : mM) (p1 : Int32) (p2 : Int32) (p3 : Int32)  : cF true uI m_X6_set 3 [.ref 0, .int p1, .int p2, .int p3] m (f_X6_set m p1 p2 p3) := by
  refine cF_of ok_X6_set (fun _ _ => Nat.le_of_ble_eq_true rfl) ?_
  unfold f_X6_set
  show JF _ _ _ _ _ [(0, .ref 0), (1, .int p1), (2, .int p2), (3, .int p3)] _ _ _
  refine F_aload_n (i := 0) (a := 0) rfl rfl (dk_X6_set 0 _ rfl) ?_
  refine F_iload_n (i := 1) (a := 1) rfl rfl (dk_X6_set 1 _ rfl) ?_
  refine F_callV (ι' := uI) (ci := 6) (b := 0) (As := [.int p1]) (d' := 2) (rfl) ok_X6_isPerson vi_X6_isPerson cl_6_79 (n := 1) (by decide +kernel) rfl rfl rfl (Nat.le_of_ble_eq_true rfl) (by omega) (dk_X6_set 2 _ rfl) (c_X6_isPerson _ _ ) (fun x1 m2 => ?_)
  show JF _ _ _ _ _ _ [.int x1] _ _
  refine F_if_eq (tgt := 17) (by decide) (dk_X6_set 5 _ rfl) ?_ ?_
  · refine F_iconst (v := (-1)) (by decide) (dk_X6_set 17 _ rfl) ?_
    exact F_ret rfl (dk_X6_set 18 _ rfl)
  · refine F_iload_n (i := 2) (a := 2) rfl rfl (dk_X6_set 8 _ rfl) ?_
    refine F_if_lt (tgt := 17) (by decide) (dk_X6_set 9 _ rfl) ?_ ?_
    · refine F_iconst (v := (-1)) (by decide) (dk_X6_set 17 _ rfl) ?_
      exact F_ret rfl (dk_X6_set 18 _ rfl)
    · refine F_iload_n (i := 2) (a := 2) rfl rfl (dk_X6_set 12 _ rfl) ?_
      refine F_iconst (v := 1) (by decide) (dk_X6_set 13 _ rfl) ?_
      refine F_icmp_le (tgt := 19) (by decide) (dk_X6_set 14 _ rfl) ?_ ?_
      · refine F_iload_n (i := 3) (a := 3) rfl rfl (dk_X6_set 19 _ rfl) ?_
        refine F_callS (ι' := uI) (As := [.int p3]) (d' := 2) ok_X6_isDay st_X6_isDay cl_6_67 rfl (n := 1) (by decide +kernel) rfl (Nat.le_of_ble_eq_true rfl) (by omega) (dk_X6_set 20 _ rfl) (c_X6_isDay _ _ ) (fun x4 m5 => ?_)
        show JF _ _ _ _ _ _ [.int x4] _ _
        refine F_if_ne (tgt := 29) (by decide) (dk_X6_set 23 _ rfl) ?_ ?_
        · refine F_iload_n (i := 2) (a := 2) rfl rfl (dk_X6_set 29 _ rfl) ?_
          refine F_if_ne (tgt := 43) (by decide) (dk_X6_set 30 _ rfl) ?_ ?_
          · refine F_aload_n (i := 0) (a := 0) rfl rfl (dk_X6_set 43 _ rfl) ?_
            refine F_gR (b := 14) fxX_6_0_0 fl_6_47 (dk_X6_set 44 _ rfl) ?_
            refine F_gR (b := 18) fxX_2_8_14 fl_6_106 (dk_X6_set 47 _ rfl) ?_
            exact F_loc (List.forall_mem_cons.mpr ⟨(.tail _ (.head _)), (List.forall_mem_cons.mpr ⟨(.tail _ (.tail _ (.tail _ (.head _)))), (fun _ z => absurd z List.not_mem_nil)⟩)⟩) (j_X6_set_50   _ _ _ _ (axX_0_18))
          · refine F_aload_n (i := 0) (a := 0) rfl rfl (dk_X6_set 33 _ rfl) ?_
            refine F_gR (b := 14) fxX_6_0_0 fl_6_47 (dk_X6_set 34 _ rfl) ?_
            refine F_gR (b := 17) fxX_2_7_14 fl_6_103 (dk_X6_set 37 _ rfl) ?_
            refine F_goto (tgt := 50) (by decide) (dk_X6_set 40 _ rfl) ?_
            exact F_loc (List.forall_mem_cons.mpr ⟨(.tail _ (.head _)), (List.forall_mem_cons.mpr ⟨(.tail _ (.tail _ (.tail _ (.head _)))), (fun _ z => absurd z List.not_mem_nil)⟩)⟩) (j_X6_set_50   _ _ _ _ (axX_0_17))
        · refine F_bipush (v := (-2)) (by decide) (dk_X6_set 26 _ rfl) ?_
          exact F_ret rfl (dk_X6_set 28 _ rfl)
      · refine F_iconst (v := (-1)) (by decide) (dk_X6_set 17 _ rfl) ?_
        exact F_ret rfl (dk_X6_set 18 _ rfl)
end
end
