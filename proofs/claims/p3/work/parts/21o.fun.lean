section
set_option maxRecDepth 100000
def f_X7_isTape (m : mM) (p1 : Int32) : fR Int32 :=
  bnd (f_X7_in m p1 0 5) fun (x1 : Int32) (m2 : mM) => chZ x1 (some (x1, m2))
theorem c_X7_isTape (m : mM) (p1 : Int32)  : cF false uI m_X7_isTape 3 [.ref 0, .int p1] m (f_X7_isTape m p1) := by
  refine cF_of ok_X7_isTape (fun _ _ => Nat.le_of_ble_eq_true rfl) ?_
  unfold f_X7_isTape
  show JF _ _ _ _ _ [(0, .ref 0), (1, .int p1)] _ _ _
  refine F_aload_n (i := 0) (a := 0) rfl rfl (dk_X7_isTape 0 _ rfl) ?_
  refine F_iload_n (i := 1) (a := 1) rfl rfl (dk_X7_isTape 1 _ rfl) ?_
  refine F_iconst (v := 0) (by decide) (dk_X7_isTape 2 _ rfl) ?_
  refine F_iconst (v := 5) (by decide) (dk_X7_isTape 3 _ rfl) ?_
  refine F_callV (ι' := uI) (ci := 7) (b := 0) (As := [.int p1, .int 0, .int 5]) (d' := 2) (rfl) ok_X7_in vi_X7_in cl_7_194 (n := 3) (by decide +kernel) rfl rfl rfl (Nat.le_of_ble_eq_true rfl) (by omega) (dk_X7_isTape 4 _ rfl) (c_X7_in _ _ _ _ ) (fun x1 m2 => ?_)
  show JF _ _ _ _ _ _ [.int x1] _ _
  exact F_retZ rfl (dk_X7_isTape 7 _ rfl)
def fb_X7_judge_34 (K34 : mM → Int32 → Int32 → Int32 → fR Int32) (m : mM) (y1 : Int32) (y2 : Int32) (y3 : Int32) : fR Int32 :=
  (if (mI m 0) ≤ y3 then some ((-5), m) else (gA (mA m 33) y1).bind fun x5 => (if x5 < 0 then some ((100 + y3), m) else (if y2 < 0 then some ((100 + y3), m) else (gA (mA m 34) y1).bind fun x6 => (if y2 ≤ ((x6 - y3) - 1) then (gL (mL m 35) ((((60 * y1) + y2) + y3))).bind fun x7 => (gA (mA m 5) y3).bind fun x8 => (if (lg_cmp x7 (x8 : Int32).toInt64) = 0 then (K34 m y1 y2 (y3 + 1)) else some (y3, m)) else some ((100 + y3), m)))))
def f_X7_judge_34  : Nat → mM → Int32 → Int32 → Int32 → fR Int32
  | 0, _, _, _, _ => none
  | F + 1, m, y1, y2, y3 => fb_X7_judge_34  (f_X7_judge_34  F) m y1 y2 y3
theorem jb_X7_judge_34 (K34 : mM → Int32 → Int32 → Int32 → fR Int32) (hK34 : ∀ (m : mM) (y1 : Int32) (y2 : Int32) (y3 : Int32) , JF false uI m_X7_judge 4 34 [(0, .ref 0), (1, .int y1), (2, .int y2), (3, .int y3)] [] m (K34 m y1 y2 y3)) (m : mM) (y1 : Int32) (y2 : Int32) (y3 : Int32)  : JF false uI m_X7_judge 4 34 [(0, .ref 0), (1, .int y1), (2, .int y2), (3, .int y3)] [] m (fb_X7_judge_34 K34 m y1 y2 y3) := by
  unfold fb_X7_judge_34
  refine F_iload_n (i := 3) (a := 3) rfl rfl (dk_X7_judge 34 _ rfl) ?_
  refine F_aload_n (i := 0) (a := 0) rfl rfl (dk_X7_judge 35 _ rfl) ?_
  refine F_gI (n := 0) fxM_7_0_0 rfl fl_7_7 (dk_X7_judge 36 _ rfl) ?_
  refine F_icmp_ge (tgt := 106) (by decide) (dk_X7_judge 39 _ rfl) ?_ ?_
  · refine F_bipush (v := (-5)) (by decide) (dk_X7_judge 106 _ rfl) ?_
    exact F_ret rfl (dk_X7_judge 108 _ rfl)
  · refine F_aload_n (i := 0) (a := 0) rfl rfl (dk_X7_judge 42 _ rfl) ?_
    refine F_gR (b := 33) fxM_7_56_0 fl_7_181 (dk_X7_judge 43 _ rfl) ?_
    refine F_iload_n (i := 1) (a := 1) rfl rfl (dk_X7_judge 46 _ rfl) ?_
    refine F_iald (axM_0_33) (dk_X7_judge 47 _ rfl) (fun x5 => ?_)
    refine F_if_lt (tgt := 69) (by decide) (dk_X7_judge 48 _ rfl) ?_ ?_
    · refine F_bipush (v := 100) (by decide) (dk_X7_judge 69 _ rfl) ?_
      refine F_iload_n (i := 3) (a := 3) rfl rfl (dk_X7_judge 71 _ rfl) ?_
      refine F_iadd (dk_X7_judge 72 _ rfl) ?_
      exact F_ret rfl (dk_X7_judge 73 _ rfl)
    · refine F_iload_n (i := 2) (a := 2) rfl rfl (dk_X7_judge 51 _ rfl) ?_
      refine F_if_lt (tgt := 69) (by decide) (dk_X7_judge 52 _ rfl) ?_ ?_
      · refine F_bipush (v := 100) (by decide) (dk_X7_judge 69 _ rfl) ?_
        refine F_iload_n (i := 3) (a := 3) rfl rfl (dk_X7_judge 71 _ rfl) ?_
        refine F_iadd (dk_X7_judge 72 _ rfl) ?_
        exact F_ret rfl (dk_X7_judge 73 _ rfl)
      · refine F_iload_n (i := 2) (a := 2) rfl rfl (dk_X7_judge 55 _ rfl) ?_
        refine F_aload_n (i := 0) (a := 0) rfl rfl (dk_X7_judge 56 _ rfl) ?_
        refine F_gR (b := 34) fxM_7_57_0 fl_7_184 (dk_X7_judge 57 _ rfl) ?_
        refine F_iload_n (i := 1) (a := 1) rfl rfl (dk_X7_judge 60 _ rfl) ?_
        refine F_iald (axM_0_34) (dk_X7_judge 61 _ rfl) (fun x6 => ?_)
        refine F_iload_n (i := 3) (a := 3) rfl rfl (dk_X7_judge 62 _ rfl) ?_
        refine F_isub (dk_X7_judge 63 _ rfl) ?_
        refine F_iconst (v := 1) (by decide) (dk_X7_judge 64 _ rfl) ?_
        refine F_isub (dk_X7_judge 65 _ rfl) ?_
        refine F_icmp_le (tgt := 74) (by decide) (dk_X7_judge 66 _ rfl) ?_ ?_
        · refine F_aload_n (i := 0) (a := 0) rfl rfl (dk_X7_judge 74 _ rfl) ?_
          refine F_gR (b := 35) fxM_7_58_0 fl_7_187 (dk_X7_judge 75 _ rfl) ?_
          refine F_bipush (v := 60) (by decide) (dk_X7_judge 78 _ rfl) ?_
          refine F_iload_n (i := 1) (a := 1) rfl rfl (dk_X7_judge 80 _ rfl) ?_
          refine F_imul (dk_X7_judge 81 _ rfl) ?_
          refine F_iload_n (i := 2) (a := 2) rfl rfl (dk_X7_judge 82 _ rfl) ?_
          refine F_iadd (dk_X7_judge 83 _ rfl) ?_
          refine F_iload_n (i := 3) (a := 3) rfl rfl (dk_X7_judge 84 _ rfl) ?_
          refine F_iadd (dk_X7_judge 85 _ rfl) ?_
          refine F_lald (axM_1_35) (dk_X7_judge 86 _ rfl) (fun x7 => ?_)
          refine F_aload_n (i := 0) (a := 0) rfl rfl (dk_X7_judge 87 _ rfl) ?_
          refine F_gR (b := 5) fxM_7_7_0 fl_7_32 (dk_X7_judge 88 _ rfl) ?_
          refine F_iload_n (i := 3) (a := 3) rfl rfl (dk_X7_judge 91 _ rfl) ?_
          refine F_iald (axM_0_5) (dk_X7_judge 92 _ rfl) (fun x8 => ?_)
          refine F_i2l (dk_X7_judge 93 _ rfl) ?_
          refine F_lcmp (dk_X7_judge 94 _ rfl) ?_
          refine F_if_eq (tgt := 100) (by decide) (dk_X7_judge 95 _ rfl) ?_ ?_
          · refine F_iinc (i := 3) (n := 1) (v := (y3 + 1)) (lv' := [(3, .int (y3 + 1)), (0, .ref 0), (1, .int y1), (2, .int y2)]) rfl (by first | rfl | decide) (by decide) rfl (dk_X7_judge 100 _ rfl) ?_
            refine F_goto (tgt := 34) (by decide) (dk_X7_judge 103 _ rfl) ?_
            exact F_loc (List.forall_mem_cons.mpr ⟨(.tail _ (.head _)), (List.forall_mem_cons.mpr ⟨(.tail _ (.tail _ (.head _))), (List.forall_mem_cons.mpr ⟨(.tail _ (.tail _ (.tail _ (.head _)))), (List.forall_mem_cons.mpr ⟨(.head _), (fun _ z => absurd z List.not_mem_nil)⟩)⟩)⟩)⟩) (hK34 _ _ _ _ )
          · refine F_iload_n (i := 3) (a := 3) rfl rfl (dk_X7_judge 98 _ rfl) ?_
            exact F_ret rfl (dk_X7_judge 99 _ rfl)
        · refine F_bipush (v := 100) (by decide) (dk_X7_judge 69 _ rfl) ?_
          refine F_iload_n (i := 3) (a := 3) rfl rfl (dk_X7_judge 71 _ rfl) ?_
          refine F_iadd (dk_X7_judge 72 _ rfl) ?_
          exact F_ret rfl (dk_X7_judge 73 _ rfl)
theorem j_X7_judge_34   : ∀ (F : Nat) (m : mM) (y1 : Int32) (y2 : Int32) (y3 : Int32) , JF false uI m_X7_judge 4 34 [(0, .ref 0), (1, .int y1), (2, .int y2), (3, .int y3)] [] m (f_X7_judge_34  F m y1 y2 y3) := by
  intro F
  induction F with
  | zero => intro m y1 y2 y3 ; exact F_no
  | succ F ih => intro m y1 y2 y3 ; exact jb_X7_judge_34  (f_X7_judge_34  F)  ih m y1 y2 y3 
def f_X7_judge (m : mM) (p1 : Int32) (p2 : Int32) : fR Int32 :=
  bnd (f_X7_isTape m p1) fun (x1 : Int32) (m2 : mM) => (if x1 = 0 then some ((-1), m2) else (gA (mA m2 33) p1).bind fun x4 => (if x4 < 0 then (f_X7_judge_34  1000 m2 p1 p2 0) else (gA (mA m2 33) p1).bind fun x9 => (if x9 = 3 then (f_X7_judge_34  1000 m2 p1 p2 0) else some ((-12), m2))))
theorem c_X7_judge (m : mM) (p1 : Int32) (p2 : Int32)  : cF false uI m_X7_judge 4 [.ref 0, .int p1, .int p2] m (f_X7_judge m p1 p2) := by
  refine cF_of ok_X7_judge (fun _ _ => Nat.le_of_ble_eq_true rfl) ?_
  unfold f_X7_judge
  show JF _ _ _ _ _ [(0, .ref 0), (1, .int p1), (2, .int p2)] _ _ _
  refine F_aload_n (i := 0) (a := 0) rfl rfl (dk_X7_judge 0 _ rfl) ?_
  refine F_iload_n (i := 1) (a := 1) rfl rfl (dk_X7_judge 1 _ rfl) ?_
  refine F_callV (ι' := uI) (ci := 7) (b := 0) (As := [.int p1]) (d' := 3) (rfl) ok_X7_isTape vi_X7_isTape cl_7_354 (n := 1) (by decide +kernel) rfl rfl rfl (Nat.le_of_ble_eq_true rfl) (by omega) (dk_X7_judge 2 _ rfl) (c_X7_isTape _ _ ) (fun x1 m2 => ?_)
  show JF _ _ _ _ _ _ [.int x1] _ _
  refine F_if_ne (tgt := 10) (by decide) (dk_X7_judge 5 _ rfl) ?_ ?_
  · refine F_aload_n (i := 0) (a := 0) rfl rfl (dk_X7_judge 10 _ rfl) ?_
    refine F_gR (b := 33) fxM_7_56_0 fl_7_181 (dk_X7_judge 11 _ rfl) ?_
    refine F_iload_n (i := 1) (a := 1) rfl rfl (dk_X7_judge 14 _ rfl) ?_
    refine F_iald (axM_0_33) (dk_X7_judge 15 _ rfl) (fun x4 => ?_)
    refine F_if_lt (tgt := 32) (by decide) (dk_X7_judge 16 _ rfl) ?_ ?_
    · refine F_iconst (v := 0) (by decide) (dk_X7_judge 32 _ rfl) ?_
      refine F_istore_n (lv' := [(3, .int 0), (0, .ref 0), (1, .int p1), (2, .int p2)]) (i := 3) (a := 3) rfl (by decide) rfl (dk_X7_judge 33 _ rfl) ?_
      exact F_loc (List.forall_mem_cons.mpr ⟨(.tail _ (.head _)), (List.forall_mem_cons.mpr ⟨(.tail _ (.tail _ (.head _))), (List.forall_mem_cons.mpr ⟨(.tail _ (.tail _ (.tail _ (.head _)))), (List.forall_mem_cons.mpr ⟨(.head _), (fun _ z => absurd z List.not_mem_nil)⟩)⟩)⟩)⟩) (j_X7_judge_34   1000 _ _ _ _ )
    · refine F_aload_n (i := 0) (a := 0) rfl rfl (dk_X7_judge 19 _ rfl) ?_
      refine F_gR (b := 33) fxM_7_56_0 fl_7_181 (dk_X7_judge 20 _ rfl) ?_
      refine F_iload_n (i := 1) (a := 1) rfl rfl (dk_X7_judge 23 _ rfl) ?_
      refine F_iald (axM_0_33) (dk_X7_judge 24 _ rfl) (fun x9 => ?_)
      refine F_iconst (v := 3) (by decide) (dk_X7_judge 25 _ rfl) ?_
      refine F_icmp_eq (tgt := 32) (by decide) (dk_X7_judge 26 _ rfl) ?_ ?_
      · refine F_iconst (v := 0) (by decide) (dk_X7_judge 32 _ rfl) ?_
        refine F_istore_n (lv' := [(3, .int 0), (0, .ref 0), (1, .int p1), (2, .int p2)]) (i := 3) (a := 3) rfl (by decide) rfl (dk_X7_judge 33 _ rfl) ?_
        exact F_loc (List.forall_mem_cons.mpr ⟨(.tail _ (.head _)), (List.forall_mem_cons.mpr ⟨(.tail _ (.tail _ (.head _))), (List.forall_mem_cons.mpr ⟨(.tail _ (.tail _ (.tail _ (.head _)))), (List.forall_mem_cons.mpr ⟨(.head _), (fun _ z => absurd z List.not_mem_nil)⟩)⟩)⟩)⟩) (j_X7_judge_34   1000 _ _ _ _ )
      · refine F_bipush (v := (-12)) (by decide) (dk_X7_judge 29 _ rfl) ?_
        exact F_ret rfl (dk_X7_judge 31 _ rfl)
  · refine F_iconst (v := (-1)) (by decide) (dk_X7_judge 8 _ rfl) ?_
    exact F_ret rfl (dk_X7_judge 9 _ rfl)
def fb_X7_image_159 (K159 : mM → Int32 → fR Int32) (m : mM) (y1 : Int32) : fR Int32 :=
  (if 12 ≤ y1 then some ((mI m 0), m) else (gA (mA m 23) y1).bind fun x7 => (sA 0 m 30 y1 x7).bind fun m8 => (K159 m8 (y1 + 1)))
def f_X7_image_159  : Nat → mM → Int32 → fR Int32
  | 0, _, _ => none
  | F + 1, m, y1 => fb_X7_image_159  (f_X7_image_159  F) m y1
theorem jb_X7_image_159 (K159 : mM → Int32 → fR Int32) (hK159 : ∀ (m : mM) (y1 : Int32) , JF false uI m_X7_image 2 159 [(0, .ref 0), (1, .int y1)] [] m (K159 m y1)) (m : mM) (y1 : Int32)  : JF false uI m_X7_image 2 159 [(0, .ref 0), (1, .int y1)] [] m (fb_X7_image_159 K159 m y1) := by
  unfold fb_X7_image_159
  refine F_iload_n (i := 1) (a := 1) rfl rfl (dk_X7_image 159 _ rfl) ?_
  refine F_bipush (v := 12) (by decide) (dk_X7_image 160 _ rfl) ?_
  refine F_icmp_ge (tgt := 183) (by decide) (dk_X7_image 162 _ rfl) ?_ ?_
  · refine F_aload_n (i := 0) (a := 0) rfl rfl (dk_X7_image 183 _ rfl) ?_
    refine F_gI (n := 0) fxM_7_0_0 rfl fl_7_7 (dk_X7_image 184 _ rfl) ?_
    exact F_ret rfl (dk_X7_image 187 _ rfl)
  · refine F_aload_n (i := 0) (a := 0) rfl rfl (dk_X7_image 165 _ rfl) ?_
    refine F_gR (b := 30) fxM_7_52_0 fl_7_169 (dk_X7_image 166 _ rfl) ?_
    refine F_iload_n (i := 1) (a := 1) rfl rfl (dk_X7_image 169 _ rfl) ?_
    refine F_aload_n (i := 0) (a := 0) rfl rfl (dk_X7_image 170 _ rfl) ?_
    refine F_gR (b := 23) fxM_7_39_0 fl_7_129 (dk_X7_image 171 _ rfl) ?_
    refine F_iload_n (i := 1) (a := 1) rfl rfl (dk_X7_image 174 _ rfl) ?_
    refine F_iald (axM_0_23) (dk_X7_image 175 _ rfl) (fun x7 => ?_)
    refine F_iast (axM_0_30) (dk_X7_image 176 _ rfl) (fun m8 => ?_)
    refine F_iinc (i := 1) (n := 1) (v := (y1 + 1)) (lv' := [(1, .int (y1 + 1)), (0, .ref 0)]) rfl (by first | rfl | decide) (by decide) rfl (dk_X7_image 177 _ rfl) ?_
    refine F_goto (tgt := 159) (by decide) (dk_X7_image 180 _ rfl) ?_
    exact F_loc (List.forall_mem_cons.mpr ⟨(.tail _ (.head _)), (List.forall_mem_cons.mpr ⟨(.head _), (fun _ z => absurd z List.not_mem_nil)⟩)⟩) (hK159 _ _ )
theorem j_X7_image_159   : ∀ (F : Nat) (m : mM) (y1 : Int32) , JF false uI m_X7_image 2 159 [(0, .ref 0), (1, .int y1)] [] m (f_X7_image_159  F m y1) := by
  intro F
  induction F with
  | zero => intro m y1 ; exact F_no
  | succ F ih => intro m y1 ; exact jb_X7_image_159  (f_X7_image_159  F)  ih m y1 
def fb_X7_image_133 (K133 : mM → Int32 → fR Int32) (m : mM) (y1 : Int32) : fR Int32 :=
  (if 28 ≤ y1 then (f_X7_image_159  1000 m 0) else (gA (mA m 6) y1).bind fun x9 => (sA 0 m 29 y1 x9).bind fun m10 => (K133 m10 (y1 + 1)))
def f_X7_image_133  : Nat → mM → Int32 → fR Int32
  | 0, _, _ => none
  | F + 1, m, y1 => fb_X7_image_133  (f_X7_image_133  F) m y1
theorem jb_X7_image_133 (K133 : mM → Int32 → fR Int32) (hK133 : ∀ (m : mM) (y1 : Int32) , JF false uI m_X7_image 2 133 [(0, .ref 0), (1, .int y1)] [] m (K133 m y1)) (m : mM) (y1 : Int32)  : JF false uI m_X7_image 2 133 [(0, .ref 0), (1, .int y1)] [] m (fb_X7_image_133 K133 m y1) := by
  unfold fb_X7_image_133
  refine F_iload_n (i := 1) (a := 1) rfl rfl (dk_X7_image 133 _ rfl) ?_
  refine F_bipush (v := 28) (by decide) (dk_X7_image 134 _ rfl) ?_
  refine F_icmp_ge (tgt := 157) (by decide) (dk_X7_image 136 _ rfl) ?_ ?_
  · refine F_iconst (v := 0) (by decide) (dk_X7_image 157 _ rfl) ?_
    refine F_istore_n (lv' := [(1, .int 0), (0, .ref 0)]) (i := 1) (a := 1) rfl (by decide) rfl (dk_X7_image 158 _ rfl) ?_
    exact F_loc (List.forall_mem_cons.mpr ⟨(.tail _ (.head _)), (List.forall_mem_cons.mpr ⟨(.head _), (fun _ z => absurd z List.not_mem_nil)⟩)⟩) (j_X7_image_159   1000 _ _ )
  · refine F_aload_n (i := 0) (a := 0) rfl rfl (dk_X7_image 139 _ rfl) ?_
    refine F_gR (b := 29) fxM_7_51_0 fl_7_166 (dk_X7_image 140 _ rfl) ?_
    refine F_iload_n (i := 1) (a := 1) rfl rfl (dk_X7_image 143 _ rfl) ?_
    refine F_aload_n (i := 0) (a := 0) rfl rfl (dk_X7_image 144 _ rfl) ?_
    refine F_gR (b := 6) fxM_7_8_0 fl_7_35 (dk_X7_image 145 _ rfl) ?_
    refine F_iload_n (i := 1) (a := 1) rfl rfl (dk_X7_image 148 _ rfl) ?_
    refine F_iald (axM_0_6) (dk_X7_image 149 _ rfl) (fun x9 => ?_)
    refine F_iast (axM_0_29) (dk_X7_image 150 _ rfl) (fun m10 => ?_)
    refine F_iinc (i := 1) (n := 1) (v := (y1 + 1)) (lv' := [(1, .int (y1 + 1)), (0, .ref 0)]) rfl (by first | rfl | decide) (by decide) rfl (dk_X7_image 151 _ rfl) ?_
    refine F_goto (tgt := 133) (by decide) (dk_X7_image 154 _ rfl) ?_
    exact F_loc (List.forall_mem_cons.mpr ⟨(.tail _ (.head _)), (List.forall_mem_cons.mpr ⟨(.head _), (fun _ z => absurd z List.not_mem_nil)⟩)⟩) (hK133 _ _ )
theorem j_X7_image_133   : ∀ (F : Nat) (m : mM) (y1 : Int32) , JF false uI m_X7_image 2 133 [(0, .ref 0), (1, .int y1)] [] m (f_X7_image_133  F m y1) := by
  intro F
  induction F with
  | zero => intro m y1 ; exact F_no
  | succ F ih => intro m y1 ; exact jb_X7_image_133  (f_X7_image_133  F)  ih m y1 
def fb_X7_image_47 (K47 : mM → Int32 → fR Int32) (m : mM) (y1 : Int32) : fR Int32 :=
  (if 7 ≤ y1 then (f_X7_image_133  1000 m 0) else (gA (mA m 1) y1).bind fun x11 => (sA 0 m 24 y1 x11).bind fun m12 => (gA (mA m12 2) y1).bind fun x13 => (sA 0 m12 25 y1 x13).bind fun m14 => (gA (mA m14 3) y1).bind fun x15 => (sA 0 m14 26 y1 x15).bind fun m16 => (gA (mA m16 4) y1).bind fun x17 => (sA 0 m16 27 y1 x17).bind fun m18 => (gA (mA m18 5) y1).bind fun x19 => (sA 0 m18 28 y1 x19).bind fun m20 => (gA (mA m20 7) y1).bind fun x21 => (sA 3 m20 31 y1 x21).bind fun m22 => (K47 m22 (y1 + 1)))
def f_X7_image_47  : Nat → mM → Int32 → fR Int32
  | 0, _, _ => none
  | F + 1, m, y1 => fb_X7_image_47  (f_X7_image_47  F) m y1
theorem jb_X7_image_47 (K47 : mM → Int32 → fR Int32) (hK47 : ∀ (m : mM) (y1 : Int32) , JF false uI m_X7_image 2 47 [(0, .ref 0), (1, .int y1)] [] m (K47 m y1)) (m : mM) (y1 : Int32)  : JF false uI m_X7_image 2 47 [(0, .ref 0), (1, .int y1)] [] m (fb_X7_image_47 K47 m y1) := by
  unfold fb_X7_image_47
  refine F_iload_n (i := 1) (a := 1) rfl rfl (dk_X7_image 47 _ rfl) ?_
  refine F_bipush (v := 7) (by decide) (dk_X7_image 48 _ rfl) ?_
  refine F_icmp_ge (tgt := 131) (by decide) (dk_X7_image 50 _ rfl) ?_ ?_
  · refine F_iconst (v := 0) (by decide) (dk_X7_image 131 _ rfl) ?_
    refine F_istore_n (lv' := [(1, .int 0), (0, .ref 0)]) (i := 1) (a := 1) rfl (by decide) rfl (dk_X7_image 132 _ rfl) ?_
    exact F_loc (List.forall_mem_cons.mpr ⟨(.tail _ (.head _)), (List.forall_mem_cons.mpr ⟨(.head _), (fun _ z => absurd z List.not_mem_nil)⟩)⟩) (j_X7_image_133   1000 _ _ )
  · refine F_aload_n (i := 0) (a := 0) rfl rfl (dk_X7_image 53 _ rfl) ?_
    refine F_gR (b := 24) fxM_7_46_0 fl_7_151 (dk_X7_image 54 _ rfl) ?_
    refine F_iload_n (i := 1) (a := 1) rfl rfl (dk_X7_image 57 _ rfl) ?_
    refine F_aload_n (i := 0) (a := 0) rfl rfl (dk_X7_image 58 _ rfl) ?_
    refine F_gR (b := 1) fxM_7_3_0 fl_7_19 (dk_X7_image 59 _ rfl) ?_
    refine F_iload_n (i := 1) (a := 1) rfl rfl (dk_X7_image 62 _ rfl) ?_
    refine F_iald (axM_0_1) (dk_X7_image 63 _ rfl) (fun x11 => ?_)
    refine F_iast (axM_0_24) (dk_X7_image 64 _ rfl) (fun m12 => ?_)
    refine F_aload_n (i := 0) (a := 0) rfl rfl (dk_X7_image 65 _ rfl) ?_
    refine F_gR (b := 25) fxM_7_47_0 fl_7_154 (dk_X7_image 66 _ rfl) ?_
    refine F_iload_n (i := 1) (a := 1) rfl rfl (dk_X7_image 69 _ rfl) ?_
    refine F_aload_n (i := 0) (a := 0) rfl rfl (dk_X7_image 70 _ rfl) ?_
    refine F_gR (b := 2) fxM_7_4_0 fl_7_23 (dk_X7_image 71 _ rfl) ?_
    refine F_iload_n (i := 1) (a := 1) rfl rfl (dk_X7_image 74 _ rfl) ?_
    refine F_iald (axM_0_2) (dk_X7_image 75 _ rfl) (fun x13 => ?_)
    refine F_iast (axM_0_25) (dk_X7_image 76 _ rfl) (fun m14 => ?_)
    refine F_aload_n (i := 0) (a := 0) rfl rfl (dk_X7_image 77 _ rfl) ?_
    refine F_gR (b := 26) fxM_7_48_0 fl_7_157 (dk_X7_image 78 _ rfl) ?_
    refine F_iload_n (i := 1) (a := 1) rfl rfl (dk_X7_image 81 _ rfl) ?_
    refine F_aload_n (i := 0) (a := 0) rfl rfl (dk_X7_image 82 _ rfl) ?_
    refine F_gR (b := 3) fxM_7_5_0 fl_7_26 (dk_X7_image 83 _ rfl) ?_
    refine F_iload_n (i := 1) (a := 1) rfl rfl (dk_X7_image 86 _ rfl) ?_
    refine F_iald (axM_0_3) (dk_X7_image 87 _ rfl) (fun x15 => ?_)
    refine F_iast (axM_0_26) (dk_X7_image 88 _ rfl) (fun m16 => ?_)
    refine F_aload_n (i := 0) (a := 0) rfl rfl (dk_X7_image 89 _ rfl) ?_
    refine F_gR (b := 27) fxM_7_49_0 fl_7_160 (dk_X7_image 90 _ rfl) ?_
    refine F_iload_n (i := 1) (a := 1) rfl rfl (dk_X7_image 93 _ rfl) ?_
    refine F_aload_n (i := 0) (a := 0) rfl rfl (dk_X7_image 94 _ rfl) ?_
    refine F_gR (b := 4) fxM_7_6_0 fl_7_29 (dk_X7_image 95 _ rfl) ?_
    refine F_iload_n (i := 1) (a := 1) rfl rfl (dk_X7_image 98 _ rfl) ?_
    refine F_iald (axM_0_4) (dk_X7_image 99 _ rfl) (fun x17 => ?_)
    refine F_iast (axM_0_27) (dk_X7_image 100 _ rfl) (fun m18 => ?_)
    refine F_aload_n (i := 0) (a := 0) rfl rfl (dk_X7_image 101 _ rfl) ?_
    refine F_gR (b := 28) fxM_7_50_0 fl_7_163 (dk_X7_image 102 _ rfl) ?_
    refine F_iload_n (i := 1) (a := 1) rfl rfl (dk_X7_image 105 _ rfl) ?_
    refine F_aload_n (i := 0) (a := 0) rfl rfl (dk_X7_image 106 _ rfl) ?_
    refine F_gR (b := 5) fxM_7_7_0 fl_7_32 (dk_X7_image 107 _ rfl) ?_
    refine F_iload_n (i := 1) (a := 1) rfl rfl (dk_X7_image 110 _ rfl) ?_
    refine F_iald (axM_0_5) (dk_X7_image 111 _ rfl) (fun x19 => ?_)
    refine F_iast (axM_0_28) (dk_X7_image 112 _ rfl) (fun m20 => ?_)
    refine F_aload_n (i := 0) (a := 0) rfl rfl (dk_X7_image 113 _ rfl) ?_
    refine F_gR (b := 31) fxM_7_53_0 fl_7_172 (dk_X7_image 114 _ rfl) ?_
    refine F_iload_n (i := 1) (a := 1) rfl rfl (dk_X7_image 117 _ rfl) ?_
    refine F_aload_n (i := 0) (a := 0) rfl rfl (dk_X7_image 118 _ rfl) ?_
    refine F_gR (b := 7) fxM_7_9_0 fl_7_38 (dk_X7_image 119 _ rfl) ?_
    refine F_iload_n (i := 1) (a := 1) rfl rfl (dk_X7_image 122 _ rfl) ?_
    refine F_zald (axM_3_7) (dk_X7_image 123 _ rfl) (fun x21 => ?_)
    refine F_zast (axM_3_31) (dk_X7_image 124 _ rfl) (fun m22 => ?_)
    refine F_iinc (i := 1) (n := 1) (v := (y1 + 1)) (lv' := [(1, .int (y1 + 1)), (0, .ref 0)]) rfl (by first | rfl | decide) (by decide) rfl (dk_X7_image 125 _ rfl) ?_
    refine F_goto (tgt := 47) (by decide) (dk_X7_image 128 _ rfl) ?_
    exact F_loc (List.forall_mem_cons.mpr ⟨(.tail _ (.head _)), (List.forall_mem_cons.mpr ⟨(.head _), (fun _ z => absurd z List.not_mem_nil)⟩)⟩) (hK47 _ _ )
theorem j_X7_image_47   : ∀ (F : Nat) (m : mM) (y1 : Int32) , JF false uI m_X7_image 2 47 [(0, .ref 0), (1, .int y1)] [] m (f_X7_image_47  F m y1) := by
  intro F
  induction F with
  | zero => intro m y1 ; exact F_no
  | succ F ih => intro m y1 ; exact jb_X7_image_47  (f_X7_image_47  F)  ih m y1 
def f_X7_image (m : mM)  : fR Int32 :=
  nmM (wI m 40 1) fun m1 => nmM (wI m1 41 (mI m1 11)) fun m2 => nmM (wI m2 42 (mI m2 0)) fun m3 => nmM (wI m3 43 (mI m3 1)) fun m4 => nmM (wI m4 44 (mI m4 2)) fun m5 => nmM (wI m5 45 (mI m5 38)) fun m6 => (f_X7_image_47  1000 m6 0)
theorem c_X7_image (m : mM)   : cF false uI m_X7_image 2 [.ref 0] m (f_X7_image m ) := by
  refine cF_of ok_X7_image (fun _ _ => Nat.le_of_ble_eq_true rfl) ?_
  unfold f_X7_image
  show JF _ _ _ _ _ [(0, .ref 0)] _ _ _
  refine F_aload_n (i := 0) (a := 0) rfl rfl (dk_X7_image 0 _ rfl) ?_
  refine F_iconst (v := 1) (by decide) (dk_X7_image 1 _ rfl) ?_
  refine F_pI (n := 40) fxM_7_40_0 rfl fl_7_132 (fun q hq => by cases hq; rfl) (Or.inr rfl) (dk_X7_image 2 _ rfl) (fun m1 => ?_)
  refine F_aload_n (i := 0) (a := 0) rfl rfl (dk_X7_image 5 _ rfl) ?_
  refine F_aload_n (i := 0) (a := 0) rfl rfl (dk_X7_image 6 _ rfl) ?_
  refine F_gI (n := 11) fxM_7_11_0 rfl fl_7_45 (dk_X7_image 7 _ rfl) ?_
  refine F_pI (n := 41) fxM_7_41_0 rfl fl_7_136 (fun q hq => by cases hq; rfl) trivial (dk_X7_image 10 _ rfl) (fun m2 => ?_)
  refine F_aload_n (i := 0) (a := 0) rfl rfl (dk_X7_image 13 _ rfl) ?_
  refine F_aload_n (i := 0) (a := 0) rfl rfl (dk_X7_image 14 _ rfl) ?_
  refine F_gI (n := 0) fxM_7_0_0 rfl fl_7_7 (dk_X7_image 15 _ rfl) ?_
  refine F_pI (n := 42) fxM_7_42_0 rfl fl_7_139 (fun q hq => by cases hq; rfl) trivial (dk_X7_image 18 _ rfl) (fun m3 => ?_)
  refine F_aload_n (i := 0) (a := 0) rfl rfl (dk_X7_image 21 _ rfl) ?_
  refine F_aload_n (i := 0) (a := 0) rfl rfl (dk_X7_image 22 _ rfl) ?_
  refine F_gI (n := 1) fxM_7_1_0 rfl fl_7_13 (dk_X7_image 23 _ rfl) ?_
  refine F_pI (n := 43) fxM_7_43_0 rfl fl_7_142 (fun q hq => by cases hq; rfl) trivial (dk_X7_image 26 _ rfl) (fun m4 => ?_)
  refine F_aload_n (i := 0) (a := 0) rfl rfl (dk_X7_image 29 _ rfl) ?_
  refine F_aload_n (i := 0) (a := 0) rfl rfl (dk_X7_image 30 _ rfl) ?_
  refine F_gI (n := 2) fxM_7_2_0 rfl fl_7_16 (dk_X7_image 31 _ rfl) ?_
  refine F_pI (n := 44) fxM_7_44_0 rfl fl_7_145 (fun q hq => by cases hq; rfl) trivial (dk_X7_image 34 _ rfl) (fun m5 => ?_)
  refine F_aload_n (i := 0) (a := 0) rfl rfl (dk_X7_image 37 _ rfl) ?_
  refine F_aload_n (i := 0) (a := 0) rfl rfl (dk_X7_image 38 _ rfl) ?_
  refine F_gI (n := 38) fxM_7_38_0 rfl fl_7_126 (dk_X7_image 39 _ rfl) ?_
  refine F_pI (n := 45) fxM_7_45_0 rfl fl_7_148 (fun q hq => by cases hq; rfl) trivial (dk_X7_image 42 _ rfl) (fun m6 => ?_)
  refine F_iconst (v := 0) (by decide) (dk_X7_image 45 _ rfl) ?_
  refine F_istore_n (lv' := [(1, .int 0), (0, .ref 0)]) (i := 1) (a := 1) rfl (by decide) rfl (dk_X7_image 46 _ rfl) ?_
  exact F_loc (List.forall_mem_cons.mpr ⟨(.tail _ (.head _)), (List.forall_mem_cons.mpr ⟨(.head _), (fun _ z => absurd z List.not_mem_nil)⟩)⟩) (j_X7_image_47   1000 _ _ )
def fb_X7_undo_164 (K164 : mM → Int32 → fR Int32) (m : mM) (y1 : Int32) : fR Int32 :=
  (if 12 ≤ y1 then some ((mI m 0), m) else (gA (mA m 30) y1).bind fun x6 => (sA 0 m 23 y1 x6).bind fun m7 => (K164 m7 (y1 + 1)))
def f_X7_undo_164  : Nat → mM → Int32 → fR Int32
  | 0, _, _ => none
  | F + 1, m, y1 => fb_X7_undo_164  (f_X7_undo_164  F) m y1
theorem jb_X7_undo_164 (K164 : mM → Int32 → fR Int32) (hK164 : ∀ (m : mM) (y1 : Int32) , JF false uI m_X7_undo 2 164 [(0, .ref 0), (1, .int y1)] [] m (K164 m y1)) (m : mM) (y1 : Int32)  : JF false uI m_X7_undo 2 164 [(0, .ref 0), (1, .int y1)] [] m (fb_X7_undo_164 K164 m y1) := by
  unfold fb_X7_undo_164
  refine F_iload_n (i := 1) (a := 1) rfl rfl (dk_X7_undo 164 _ rfl) ?_
  refine F_bipush (v := 12) (by decide) (dk_X7_undo 165 _ rfl) ?_
  refine F_icmp_ge (tgt := 188) (by decide) (dk_X7_undo 167 _ rfl) ?_ ?_
  · refine F_aload_n (i := 0) (a := 0) rfl rfl (dk_X7_undo 188 _ rfl) ?_
    refine F_gI (n := 0) fxM_7_0_0 rfl fl_7_7 (dk_X7_undo 189 _ rfl) ?_
    exact F_ret rfl (dk_X7_undo 192 _ rfl)
  · refine F_aload_n (i := 0) (a := 0) rfl rfl (dk_X7_undo 170 _ rfl) ?_
    refine F_gR (b := 23) fxM_7_39_0 fl_7_129 (dk_X7_undo 171 _ rfl) ?_
    refine F_iload_n (i := 1) (a := 1) rfl rfl (dk_X7_undo 174 _ rfl) ?_
    refine F_aload_n (i := 0) (a := 0) rfl rfl (dk_X7_undo 175 _ rfl) ?_
    refine F_gR (b := 30) fxM_7_52_0 fl_7_169 (dk_X7_undo 176 _ rfl) ?_
    refine F_iload_n (i := 1) (a := 1) rfl rfl (dk_X7_undo 179 _ rfl) ?_
    refine F_iald (axM_0_30) (dk_X7_undo 180 _ rfl) (fun x6 => ?_)
    refine F_iast (axM_0_23) (dk_X7_undo 181 _ rfl) (fun m7 => ?_)
    refine F_iinc (i := 1) (n := 1) (v := (y1 + 1)) (lv' := [(1, .int (y1 + 1)), (0, .ref 0)]) rfl (by first | rfl | decide) (by decide) rfl (dk_X7_undo 182 _ rfl) ?_
    refine F_goto (tgt := 164) (by decide) (dk_X7_undo 185 _ rfl) ?_
    exact F_loc (List.forall_mem_cons.mpr ⟨(.tail _ (.head _)), (List.forall_mem_cons.mpr ⟨(.head _), (fun _ z => absurd z List.not_mem_nil)⟩)⟩) (hK164 _ _ )
theorem j_X7_undo_164   : ∀ (F : Nat) (m : mM) (y1 : Int32) , JF false uI m_X7_undo 2 164 [(0, .ref 0), (1, .int y1)] [] m (f_X7_undo_164  F m y1) := by
  intro F
  induction F with
  | zero => intro m y1 ; exact F_no
  | succ F ih => intro m y1 ; exact jb_X7_undo_164  (f_X7_undo_164  F)  ih m y1 
def fb_X7_undo_138 (K138 : mM → Int32 → fR Int32) (m : mM) (y1 : Int32) : fR Int32 :=
  (if 28 ≤ y1 then (f_X7_undo_164  1000 m 0) else (gA (mA m 29) y1).bind fun x8 => (sA 0 m 6 y1 x8).bind fun m9 => (K138 m9 (y1 + 1)))
def f_X7_undo_138  : Nat → mM → Int32 → fR Int32
  | 0, _, _ => none
  | F + 1, m, y1 => fb_X7_undo_138  (f_X7_undo_138  F) m y1
theorem jb_X7_undo_138 (K138 : mM → Int32 → fR Int32) (hK138 : ∀ (m : mM) (y1 : Int32) , JF false uI m_X7_undo 2 138 [(0, .ref 0), (1, .int y1)] [] m (K138 m y1)) (m : mM) (y1 : Int32)  : JF false uI m_X7_undo 2 138 [(0, .ref 0), (1, .int y1)] [] m (fb_X7_undo_138 K138 m y1) := by
  unfold fb_X7_undo_138
  refine F_iload_n (i := 1) (a := 1) rfl rfl (dk_X7_undo 138 _ rfl) ?_
  refine F_bipush (v := 28) (by decide) (dk_X7_undo 139 _ rfl) ?_
  refine F_icmp_ge (tgt := 162) (by decide) (dk_X7_undo 141 _ rfl) ?_ ?_
  · refine F_iconst (v := 0) (by decide) (dk_X7_undo 162 _ rfl) ?_
    refine F_istore_n (lv' := [(1, .int 0), (0, .ref 0)]) (i := 1) (a := 1) rfl (by decide) rfl (dk_X7_undo 163 _ rfl) ?_
    exact F_loc (List.forall_mem_cons.mpr ⟨(.tail _ (.head _)), (List.forall_mem_cons.mpr ⟨(.head _), (fun _ z => absurd z List.not_mem_nil)⟩)⟩) (j_X7_undo_164   1000 _ _ )
  · refine F_aload_n (i := 0) (a := 0) rfl rfl (dk_X7_undo 144 _ rfl) ?_
    refine F_gR (b := 6) fxM_7_8_0 fl_7_35 (dk_X7_undo 145 _ rfl) ?_
    refine F_iload_n (i := 1) (a := 1) rfl rfl (dk_X7_undo 148 _ rfl) ?_
    refine F_aload_n (i := 0) (a := 0) rfl rfl (dk_X7_undo 149 _ rfl) ?_
    refine F_gR (b := 29) fxM_7_51_0 fl_7_166 (dk_X7_undo 150 _ rfl) ?_
    refine F_iload_n (i := 1) (a := 1) rfl rfl (dk_X7_undo 153 _ rfl) ?_
    refine F_iald (axM_0_29) (dk_X7_undo 154 _ rfl) (fun x8 => ?_)
    refine F_iast (axM_0_6) (dk_X7_undo 155 _ rfl) (fun m9 => ?_)
    refine F_iinc (i := 1) (n := 1) (v := (y1 + 1)) (lv' := [(1, .int (y1 + 1)), (0, .ref 0)]) rfl (by first | rfl | decide) (by decide) rfl (dk_X7_undo 156 _ rfl) ?_
    refine F_goto (tgt := 138) (by decide) (dk_X7_undo 159 _ rfl) ?_
    exact F_loc (List.forall_mem_cons.mpr ⟨(.tail _ (.head _)), (List.forall_mem_cons.mpr ⟨(.head _), (fun _ z => absurd z List.not_mem_nil)⟩)⟩) (hK138 _ _ )
theorem j_X7_undo_138   : ∀ (F : Nat) (m : mM) (y1 : Int32) , JF false uI m_X7_undo 2 138 [(0, .ref 0), (1, .int y1)] [] m (f_X7_undo_138  F m y1) := by
  intro F
  induction F with
  | zero => intro m y1 ; exact F_no
  | succ F ih => intro m y1 ; exact jb_X7_undo_138  (f_X7_undo_138  F)  ih m y1 
def fb_X7_undo_52 (K52 : mM → Int32 → fR Int32) (m : mM) (y1 : Int32) : fR Int32 :=
  (if 7 ≤ y1 then (f_X7_undo_138  1000 m 0) else (gA (mA m 24) y1).bind fun x10 => (sA 0 m 1 y1 x10).bind fun m11 => (gA (mA m11 25) y1).bind fun x12 => (sA 0 m11 2 y1 x12).bind fun m13 => (gA (mA m13 26) y1).bind fun x14 => (sA 0 m13 3 y1 x14).bind fun m15 => (gA (mA m15 27) y1).bind fun x16 => (sA 0 m15 4 y1 x16).bind fun m17 => (gA (mA m17 28) y1).bind fun x18 => (sA 0 m17 5 y1 x18).bind fun m19 => (gA (mA m19 31) y1).bind fun x20 => (sA 3 m19 7 y1 x20).bind fun m21 => (K52 m21 (y1 + 1)))
def f_X7_undo_52  : Nat → mM → Int32 → fR Int32
  | 0, _, _ => none
  | F + 1, m, y1 => fb_X7_undo_52  (f_X7_undo_52  F) m y1
theorem jb_X7_undo_52 (K52 : mM → Int32 → fR Int32) (hK52 : ∀ (m : mM) (y1 : Int32) , JF false uI m_X7_undo 2 52 [(0, .ref 0), (1, .int y1)] [] m (K52 m y1)) (m : mM) (y1 : Int32)  : JF false uI m_X7_undo 2 52 [(0, .ref 0), (1, .int y1)] [] m (fb_X7_undo_52 K52 m y1) := by
  unfold fb_X7_undo_52
  refine F_iload_n (i := 1) (a := 1) rfl rfl (dk_X7_undo 52 _ rfl) ?_
  refine F_bipush (v := 7) (by decide) (dk_X7_undo 53 _ rfl) ?_
  refine F_icmp_ge (tgt := 136) (by decide) (dk_X7_undo 55 _ rfl) ?_ ?_
  · refine F_iconst (v := 0) (by decide) (dk_X7_undo 136 _ rfl) ?_
    refine F_istore_n (lv' := [(1, .int 0), (0, .ref 0)]) (i := 1) (a := 1) rfl (by decide) rfl (dk_X7_undo 137 _ rfl) ?_
    exact F_loc (List.forall_mem_cons.mpr ⟨(.tail _ (.head _)), (List.forall_mem_cons.mpr ⟨(.head _), (fun _ z => absurd z List.not_mem_nil)⟩)⟩) (j_X7_undo_138   1000 _ _ )
  · refine F_aload_n (i := 0) (a := 0) rfl rfl (dk_X7_undo 58 _ rfl) ?_
    refine F_gR (b := 1) fxM_7_3_0 fl_7_19 (dk_X7_undo 59 _ rfl) ?_
    refine F_iload_n (i := 1) (a := 1) rfl rfl (dk_X7_undo 62 _ rfl) ?_
    refine F_aload_n (i := 0) (a := 0) rfl rfl (dk_X7_undo 63 _ rfl) ?_
    refine F_gR (b := 24) fxM_7_46_0 fl_7_151 (dk_X7_undo 64 _ rfl) ?_
    refine F_iload_n (i := 1) (a := 1) rfl rfl (dk_X7_undo 67 _ rfl) ?_
    refine F_iald (axM_0_24) (dk_X7_undo 68 _ rfl) (fun x10 => ?_)
    refine F_iast (axM_0_1) (dk_X7_undo 69 _ rfl) (fun m11 => ?_)
    refine F_aload_n (i := 0) (a := 0) rfl rfl (dk_X7_undo 70 _ rfl) ?_
    refine F_gR (b := 2) fxM_7_4_0 fl_7_23 (dk_X7_undo 71 _ rfl) ?_
    refine F_iload_n (i := 1) (a := 1) rfl rfl (dk_X7_undo 74 _ rfl) ?_
    refine F_aload_n (i := 0) (a := 0) rfl rfl (dk_X7_undo 75 _ rfl) ?_
    refine F_gR (b := 25) fxM_7_47_0 fl_7_154 (dk_X7_undo 76 _ rfl) ?_
    refine F_iload_n (i := 1) (a := 1) rfl rfl (dk_X7_undo 79 _ rfl) ?_
    refine F_iald (axM_0_25) (dk_X7_undo 80 _ rfl) (fun x12 => ?_)
    refine F_iast (axM_0_2) (dk_X7_undo 81 _ rfl) (fun m13 => ?_)
    refine F_aload_n (i := 0) (a := 0) rfl rfl (dk_X7_undo 82 _ rfl) ?_
    refine F_gR (b := 3) fxM_7_5_0 fl_7_26 (dk_X7_undo 83 _ rfl) ?_
    refine F_iload_n (i := 1) (a := 1) rfl rfl (dk_X7_undo 86 _ rfl) ?_
    refine F_aload_n (i := 0) (a := 0) rfl rfl (dk_X7_undo 87 _ rfl) ?_
    refine F_gR (b := 26) fxM_7_48_0 fl_7_157 (dk_X7_undo 88 _ rfl) ?_
    refine F_iload_n (i := 1) (a := 1) rfl rfl (dk_X7_undo 91 _ rfl) ?_
    refine F_iald (axM_0_26) (dk_X7_undo 92 _ rfl) (fun x14 => ?_)
    refine F_iast (axM_0_3) (dk_X7_undo 93 _ rfl) (fun m15 => ?_)
    refine F_aload_n (i := 0) (a := 0) rfl rfl (dk_X7_undo 94 _ rfl) ?_
    refine F_gR (b := 4) fxM_7_6_0 fl_7_29 (dk_X7_undo 95 _ rfl) ?_
    refine F_iload_n (i := 1) (a := 1) rfl rfl (dk_X7_undo 98 _ rfl) ?_
    refine F_aload_n (i := 0) (a := 0) rfl rfl (dk_X7_undo 99 _ rfl) ?_
    refine F_gR (b := 27) fxM_7_49_0 fl_7_160 (dk_X7_undo 100 _ rfl) ?_
    refine F_iload_n (i := 1) (a := 1) rfl rfl (dk_X7_undo 103 _ rfl) ?_
    refine F_iald (axM_0_27) (dk_X7_undo 104 _ rfl) (fun x16 => ?_)
    refine F_iast (axM_0_4) (dk_X7_undo 105 _ rfl) (fun m17 => ?_)
    refine F_aload_n (i := 0) (a := 0) rfl rfl (dk_X7_undo 106 _ rfl) ?_
    refine F_gR (b := 5) fxM_7_7_0 fl_7_32 (dk_X7_undo 107 _ rfl) ?_
    refine F_iload_n (i := 1) (a := 1) rfl rfl (dk_X7_undo 110 _ rfl) ?_
    refine F_aload_n (i := 0) (a := 0) rfl rfl (dk_X7_undo 111 _ rfl) ?_
    refine F_gR (b := 28) fxM_7_50_0 fl_7_163 (dk_X7_undo 112 _ rfl) ?_
    refine F_iload_n (i := 1) (a := 1) rfl rfl (dk_X7_undo 115 _ rfl) ?_
    refine F_iald (axM_0_28) (dk_X7_undo 116 _ rfl) (fun x18 => ?_)
    refine F_iast (axM_0_5) (dk_X7_undo 117 _ rfl) (fun m19 => ?_)
    refine F_aload_n (i := 0) (a := 0) rfl rfl (dk_X7_undo 118 _ rfl) ?_
    refine F_gR (b := 7) fxM_7_9_0 fl_7_38 (dk_X7_undo 119 _ rfl) ?_
    refine F_iload_n (i := 1) (a := 1) rfl rfl (dk_X7_undo 122 _ rfl) ?_
    refine F_aload_n (i := 0) (a := 0) rfl rfl (dk_X7_undo 123 _ rfl) ?_
    refine F_gR (b := 31) fxM_7_53_0 fl_7_172 (dk_X7_undo 124 _ rfl) ?_
    refine F_iload_n (i := 1) (a := 1) rfl rfl (dk_X7_undo 127 _ rfl) ?_
    refine F_zald (axM_3_31) (dk_X7_undo 128 _ rfl) (fun x20 => ?_)
    refine F_zast (axM_3_7) (dk_X7_undo 129 _ rfl) (fun m21 => ?_)
    refine F_iinc (i := 1) (n := 1) (v := (y1 + 1)) (lv' := [(1, .int (y1 + 1)), (0, .ref 0)]) rfl (by first | rfl | decide) (by decide) rfl (dk_X7_undo 130 _ rfl) ?_
    refine F_goto (tgt := 52) (by decide) (dk_X7_undo 133 _ rfl) ?_
    exact F_loc (List.forall_mem_cons.mpr ⟨(.tail _ (.head _)), (List.forall_mem_cons.mpr ⟨(.head _), (fun _ z => absurd z List.not_mem_nil)⟩)⟩) (hK52 _ _ )
theorem j_X7_undo_52   : ∀ (F : Nat) (m : mM) (y1 : Int32) , JF false uI m_X7_undo 2 52 [(0, .ref 0), (1, .int y1)] [] m (f_X7_undo_52  F m y1) := by
  intro F
  induction F with
  | zero => intro m y1 ; exact F_no
  | succ F ih => intro m y1 ; exact jb_X7_undo_52  (f_X7_undo_52  F)  ih m y1 
def f_X7_undo (m : mM)  : fR Int32 :=
  (if (mI m 40) = 0 then some ((-3), m) else nmM (wI m 11 (mI m 41)) fun m1 => nmM (wI m1 0 (mI m1 42)) fun m2 => nmM (wI m2 1 (mI m2 43)) fun m3 => nmM (wI m3 2 (mI m3 44)) fun m4 => nmM (wI m4 38 (mI m4 45)) fun m5 => (f_X7_undo_52  1000 m5 0))
theorem c_X7_undo (m : mM)   : cF false uI m_X7_undo 2 [.ref 0] m (f_X7_undo m ) := by
  refine cF_of ok_X7_undo (fun _ _ => Nat.le_of_ble_eq_true rfl) ?_
  unfold f_X7_undo
  show JF _ _ _ _ _ [(0, .ref 0)] _ _ _
  refine F_aload_n (i := 0) (a := 0) rfl rfl (dk_X7_undo 0 _ rfl) ?_
  refine F_gI (n := 40) fxM_7_40_0 rfl fl_7_132 (dk_X7_undo 1 _ rfl) ?_
  refine F_if_ne (tgt := 10) (by decide) (dk_X7_undo 4 _ rfl) ?_ ?_
  · refine F_aload_n (i := 0) (a := 0) rfl rfl (dk_X7_undo 10 _ rfl) ?_
    refine F_aload_n (i := 0) (a := 0) rfl rfl (dk_X7_undo 11 _ rfl) ?_
    refine F_gI (n := 41) fxM_7_41_0 rfl fl_7_136 (dk_X7_undo 12 _ rfl) ?_
    refine F_pI (n := 11) fxM_7_11_0 rfl fl_7_45 (fun q hq => by cases hq; rfl) trivial (dk_X7_undo 15 _ rfl) (fun m1 => ?_)
    refine F_aload_n (i := 0) (a := 0) rfl rfl (dk_X7_undo 18 _ rfl) ?_
    refine F_aload_n (i := 0) (a := 0) rfl rfl (dk_X7_undo 19 _ rfl) ?_
    refine F_gI (n := 42) fxM_7_42_0 rfl fl_7_139 (dk_X7_undo 20 _ rfl) ?_
    refine F_pI (n := 0) fxM_7_0_0 rfl fl_7_7 (fun q hq => by cases hq; rfl) trivial (dk_X7_undo 23 _ rfl) (fun m2 => ?_)
    refine F_aload_n (i := 0) (a := 0) rfl rfl (dk_X7_undo 26 _ rfl) ?_
    refine F_aload_n (i := 0) (a := 0) rfl rfl (dk_X7_undo 27 _ rfl) ?_
    refine F_gI (n := 43) fxM_7_43_0 rfl fl_7_142 (dk_X7_undo 28 _ rfl) ?_
    refine F_pI (n := 1) fxM_7_1_0 rfl fl_7_13 (fun q hq => by cases hq; rfl) trivial (dk_X7_undo 31 _ rfl) (fun m3 => ?_)
    refine F_aload_n (i := 0) (a := 0) rfl rfl (dk_X7_undo 34 _ rfl) ?_
    refine F_aload_n (i := 0) (a := 0) rfl rfl (dk_X7_undo 35 _ rfl) ?_
    refine F_gI (n := 44) fxM_7_44_0 rfl fl_7_145 (dk_X7_undo 36 _ rfl) ?_
    refine F_pI (n := 2) fxM_7_2_0 rfl fl_7_16 (fun q hq => by cases hq; rfl) trivial (dk_X7_undo 39 _ rfl) (fun m4 => ?_)
    refine F_aload_n (i := 0) (a := 0) rfl rfl (dk_X7_undo 42 _ rfl) ?_
    refine F_aload_n (i := 0) (a := 0) rfl rfl (dk_X7_undo 43 _ rfl) ?_
    refine F_gI (n := 45) fxM_7_45_0 rfl fl_7_148 (dk_X7_undo 44 _ rfl) ?_
    refine F_pI (n := 38) fxM_7_38_0 rfl fl_7_126 (fun q hq => by cases hq; rfl) trivial (dk_X7_undo 47 _ rfl) (fun m5 => ?_)
    refine F_iconst (v := 0) (by decide) (dk_X7_undo 50 _ rfl) ?_
    refine F_istore_n (lv' := [(1, .int 0), (0, .ref 0)]) (i := 1) (a := 1) rfl (by decide) rfl (dk_X7_undo 51 _ rfl) ?_
    exact F_loc (List.forall_mem_cons.mpr ⟨(.tail _ (.head _)), (List.forall_mem_cons.mpr ⟨(.head _), (fun _ z => absurd z List.not_mem_nil)⟩)⟩) (j_X7_undo_52   1000 _ _ )
  · refine F_bipush (v := (-3)) (by decide) (dk_X7_undo 7 _ rfl) ?_
    exact F_ret rfl (dk_X7_undo 9 _ rfl)
def f_X7_body_19  (m : mM)  : fR Unit :=
  nmM (wI m 54 (((mI m 54) + 1))) fun m1 => some ((), m1)
theorem j_X7_body_19   (m : mM)   : JF false uU m_X7_body 2 19 [(0, .ref 0)] [] m (f_X7_body_19  m ) := by
  unfold f_X7_body_19
  refine F_aload_n (i := 0) (a := 0) rfl rfl (dk_X7_body 19 _ rfl) ?_
  refine F_dup rfl (dk_X7_body 20 _ rfl) ?_
  refine F_gI (n := 54) fxM_7_54_0 rfl fl_7_175 (dk_X7_body 21 _ rfl) ?_
  refine F_iconst (v := 1) (by decide) (dk_X7_body 24 _ rfl) ?_
  refine F_iadd (dk_X7_body 25 _ rfl) ?_
  refine F_pI (n := 54) fxM_7_54_0 rfl fl_7_175 (fun q hq => by cases hq; rfl) trivial (dk_X7_body 26 _ rfl) (fun m1 => ?_)
  exact F_retV rfl (dk_X7_body 29 _ rfl)
def f_X7_body (m : mM) (p1 : Int32) : fR Unit :=
  (if 20 ≤ (mI m 54) then (f_X7_body_19  m ) else (sA 0 m 32 (mI m 54) p1).bind fun m2 => (f_X7_body_19  m2 ))
theorem c_X7_body (m : mM) (p1 : Int32)  : cF false uU m_X7_body 2 [.ref 0, .int p1] m (f_X7_body m p1) := by
  refine cF_of ok_X7_body (fun _ _ => Nat.le_of_ble_eq_true rfl) ?_
  unfold f_X7_body
  show JF _ _ _ _ _ [(0, .ref 0), (1, .int p1)] _ _ _
  refine F_aload_n (i := 0) (a := 0) rfl rfl (dk_X7_body 0 _ rfl) ?_
  refine F_gI (n := 54) fxM_7_54_0 rfl fl_7_175 (dk_X7_body 1 _ rfl) ?_
  refine F_bipush (v := 20) (by decide) (dk_X7_body 4 _ rfl) ?_
  refine F_icmp_ge (tgt := 19) (by decide) (dk_X7_body 6 _ rfl) ?_ ?_
  · exact F_loc (List.forall_mem_cons.mpr ⟨(.head _), (fun _ z => absurd z List.not_mem_nil)⟩) (j_X7_body_19   _  )
  · refine F_aload_n (i := 0) (a := 0) rfl rfl (dk_X7_body 9 _ rfl) ?_
    refine F_gR (b := 32) fxM_7_55_0 fl_7_178 (dk_X7_body 10 _ rfl) ?_
    refine F_aload_n (i := 0) (a := 0) rfl rfl (dk_X7_body 13 _ rfl) ?_
    refine F_gI (n := 54) fxM_7_54_0 rfl fl_7_175 (dk_X7_body 14 _ rfl) ?_
    refine F_iload_n (i := 1) (a := 1) rfl rfl (dk_X7_body 17 _ rfl) ?_
    refine F_iast (axM_0_32) (dk_X7_body 18 _ rfl) (fun m2 => ?_)
    exact F_loc (List.forall_mem_cons.mpr ⟨(.head _), (fun _ z => absurd z List.not_mem_nil)⟩) (j_X7_body_19   _  )
def f_X7_sellerSells (m : mM) (p1 : Int32) (p2 : Int32) : fR Int32 :=
  bnd (f_X7_body m 10) fun (x1 : Unit) (m2 : mM) => some ((p2 + p1), m2)
theorem c_X7_sellerSells (m : mM) (p1 : Int32) (p2 : Int32)  : cF false uI m_X7_sellerSells 3 [.ref 0, .int p1, .int p2] m (f_X7_sellerSells m p1 p2) := by
  refine cF_of ok_X7_sellerSells (fun _ _ => Nat.le_of_ble_eq_true rfl) ?_
  unfold f_X7_sellerSells
  show JF _ _ _ _ _ [(0, .ref 0), (1, .int p1), (2, .int p2)] _ _ _
  refine F_aload_n (i := 0) (a := 0) rfl rfl (dk_X7_sellerSells 0 _ rfl) ?_
  refine F_bipush (v := 10) (by decide) (dk_X7_sellerSells 1 _ rfl) ?_
  refine F_callV (ι' := uU) (ci := 7) (b := 0) (As := [.int 10]) (d' := 2) (rfl) ok_X7_body vi_X7_body cl_7_357 (n := 1) (by decide +kernel) rfl rfl rfl (Nat.le_of_ble_eq_true rfl) (by omega) (dk_X7_sellerSells 3 _ rfl) (c_X7_body _ _ ) (fun x1 m2 => ?_)
  show JF _ _ _ _ _ _ [] _ _
  refine F_iload_n (i := 2) (a := 2) rfl rfl (dk_X7_sellerSells 6 _ rfl) ?_
  refine F_iload_n (i := 1) (a := 1) rfl rfl (dk_X7_sellerSells 7 _ rfl) ?_
  refine F_iadd (dk_X7_sellerSells 8 _ rfl) ?_
  exact F_ret rfl (dk_X7_sellerSells 9 _ rfl)
def f_X7_sellsAct (m : mM) (p1 : Int32) (p2 : Int32) : fR Int32 :=
  (gA (mA m 1) p1).bind fun x1 => (if x1 = 2 then bnd (f_X7_body m 30) fun (x3 : Unit) (m4 : mM) => bnd (f_X7_sellerSells m4 p1 (p2 * 3)) fun (x6 : Int32) (m7 : mM) => some (x6, m7) else if x1 = 4 then bnd (f_X7_body m 50) fun (x9 : Unit) (m10 : mM) => bnd (f_X7_sellerSells m10 p1 p2) fun (x12 : Int32) (m13 : mM) => some ((-x12), m13) else if x1 = 5 then bnd (f_X7_body m 30) fun (x15 : Unit) (m16 : mM) => bnd (f_X7_sellerSells m16 p1 (p2 * 3)) fun (x18 : Int32) (m19 : mM) => some (x18, m19) else if x1 = 6 then bnd (f_X7_body m 71) fun (x21 : Unit) (m22 : mM) => bnd (f_X7_sellerSells m22 p1 p2) fun (x24 : Int32) (m25 : mM) => (gA (mA m25 2) p1).bind fun x27 => some ((x24 ^^^ x27), m25) else if x1 = 3 then bnd (f_X7_sellerSells m p1 p2) fun (x28 : Int32) (m29 : mM) => some (x28, m29) else bnd (f_X7_sellerSells m p1 p2) fun (x31 : Int32) (m32 : mM) => some (x31, m32))
theorem c_X7_sellsAct (m : mM) (p1 : Int32) (p2 : Int32)  : cF false uI m_X7_sellsAct 4 [.ref 0, .int p1, .int p2] m (f_X7_sellsAct m p1 p2) := by
  refine cF_of ok_X7_sellsAct (fun _ _ => Nat.le_of_ble_eq_true rfl) ?_
  unfold f_X7_sellsAct
  show JF _ _ _ _ _ [(0, .ref 0), (1, .int p1), (2, .int p2)] _ _ _
  refine F_aload_n (i := 0) (a := 0) rfl rfl (dk_X7_sellsAct 0 _ rfl) ?_
  refine F_gR (b := 1) fxM_7_3_0 fl_7_19 (dk_X7_sellsAct 1 _ rfl) ?_
  refine F_iload_n (i := 1) (a := 1) rfl rfl (dk_X7_sellsAct 4 _ rfl) ?_
  refine F_iald (axM_0_1) (dk_X7_sellsAct 5 _ rfl) (fun x1 => ?_)
  refine F_case (fun c2_0 => ?_) (fun c2_0 => ?_)
  · rw [c2_0]; refine F_tin (off := 34) (tgt := 40) (by decide) (by decide) rfl (by decide) (dk_X7_sellsAct 6 _ rfl) ?_
    refine F_aload_n (i := 0) (a := 0) rfl rfl (dk_X7_sellsAct 40 _ rfl) ?_
    refine F_bipush (v := 30) (by decide) (dk_X7_sellsAct 41 _ rfl) ?_
    refine F_callV (ι' := uU) (ci := 7) (b := 0) (As := [.int 30]) (d' := 2) (rfl) ok_X7_body vi_X7_body cl_7_357 (n := 1) (by decide +kernel) rfl rfl rfl (Nat.le_of_ble_eq_true rfl) (by omega) (dk_X7_sellsAct 43 _ rfl) (c_X7_body _ _ ) (fun x3 m4 => ?_)
    show JF _ _ _ _ _ _ [] _ _
    refine F_aload_n (i := 0) (a := 0) rfl rfl (dk_X7_sellsAct 46 _ rfl) ?_
    refine F_iload_n (i := 1) (a := 1) rfl rfl (dk_X7_sellsAct 47 _ rfl) ?_
    refine F_iload_n (i := 2) (a := 2) rfl rfl (dk_X7_sellsAct 48 _ rfl) ?_
    refine F_iconst (v := 3) (by decide) (dk_X7_sellsAct 49 _ rfl) ?_
    refine F_imul (dk_X7_sellsAct 50 _ rfl) ?_
    refine F_callV (ι' := uI) (ci := 7) (b := 0) (As := [.int p1, .int (p2 * 3)]) (d' := 3) (rfl) ok_X7_sellerSells vi_X7_sellerSells cl_7_360 (n := 2) (by decide +kernel) rfl rfl rfl (Nat.le_of_ble_eq_true rfl) (by omega) (dk_X7_sellsAct 51 _ rfl) (c_X7_sellerSells _ _ _ ) (fun x6 m7 => ?_)
    show JF _ _ _ _ _ _ [.int x6] _ _
    exact F_ret rfl (dk_X7_sellsAct 54 _ rfl)
  refine F_case (fun c2_1 => ?_) (fun c2_1 => ?_)
  · rw [c2_1]; refine F_tin (off := 49) (tgt := 55) (by decide) (by decide) rfl (by decide) (dk_X7_sellsAct 6 _ rfl) ?_
    refine F_aload_n (i := 0) (a := 0) rfl rfl (dk_X7_sellsAct 55 _ rfl) ?_
    refine F_bipush (v := 50) (by decide) (dk_X7_sellsAct 56 _ rfl) ?_
    refine F_callV (ι' := uU) (ci := 7) (b := 0) (As := [.int 50]) (d' := 2) (rfl) ok_X7_body vi_X7_body cl_7_357 (n := 1) (by decide +kernel) rfl rfl rfl (Nat.le_of_ble_eq_true rfl) (by omega) (dk_X7_sellsAct 58 _ rfl) (c_X7_body _ _ ) (fun x9 m10 => ?_)
    show JF _ _ _ _ _ _ [] _ _
    refine F_aload_n (i := 0) (a := 0) rfl rfl (dk_X7_sellsAct 61 _ rfl) ?_
    refine F_iload_n (i := 1) (a := 1) rfl rfl (dk_X7_sellsAct 62 _ rfl) ?_
    refine F_iload_n (i := 2) (a := 2) rfl rfl (dk_X7_sellsAct 63 _ rfl) ?_
    refine F_callV (ι' := uI) (ci := 7) (b := 0) (As := [.int p1, .int p2]) (d' := 3) (rfl) ok_X7_sellerSells vi_X7_sellerSells cl_7_360 (n := 2) (by decide +kernel) rfl rfl rfl (Nat.le_of_ble_eq_true rfl) (by omega) (dk_X7_sellsAct 64 _ rfl) (c_X7_sellerSells _ _ _ ) (fun x12 m13 => ?_)
    show JF _ _ _ _ _ _ [.int x12] _ _
    refine F_ineg (dk_X7_sellsAct 67 _ rfl) ?_
    exact F_ret rfl (dk_X7_sellsAct 68 _ rfl)
  refine F_case (fun c2_2 => ?_) (fun c2_2 => ?_)
  · rw [c2_2]; refine F_tin (off := 34) (tgt := 40) (by decide) (by decide) rfl (by decide) (dk_X7_sellsAct 6 _ rfl) ?_
    refine F_aload_n (i := 0) (a := 0) rfl rfl (dk_X7_sellsAct 40 _ rfl) ?_
    refine F_bipush (v := 30) (by decide) (dk_X7_sellsAct 41 _ rfl) ?_
    refine F_callV (ι' := uU) (ci := 7) (b := 0) (As := [.int 30]) (d' := 2) (rfl) ok_X7_body vi_X7_body cl_7_357 (n := 1) (by decide +kernel) rfl rfl rfl (Nat.le_of_ble_eq_true rfl) (by omega) (dk_X7_sellsAct 43 _ rfl) (c_X7_body _ _ ) (fun x15 m16 => ?_)
    show JF _ _ _ _ _ _ [] _ _
    refine F_aload_n (i := 0) (a := 0) rfl rfl (dk_X7_sellsAct 46 _ rfl) ?_
    refine F_iload_n (i := 1) (a := 1) rfl rfl (dk_X7_sellsAct 47 _ rfl) ?_
    refine F_iload_n (i := 2) (a := 2) rfl rfl (dk_X7_sellsAct 48 _ rfl) ?_
    refine F_iconst (v := 3) (by decide) (dk_X7_sellsAct 49 _ rfl) ?_
    refine F_imul (dk_X7_sellsAct 50 _ rfl) ?_
    refine F_callV (ι' := uI) (ci := 7) (b := 0) (As := [.int p1, .int (p2 * 3)]) (d' := 3) (rfl) ok_X7_sellerSells vi_X7_sellerSells cl_7_360 (n := 2) (by decide +kernel) rfl rfl rfl (Nat.le_of_ble_eq_true rfl) (by omega) (dk_X7_sellsAct 51 _ rfl) (c_X7_sellerSells _ _ _ ) (fun x18 m19 => ?_)
    show JF _ _ _ _ _ _ [.int x18] _ _
    exact F_ret rfl (dk_X7_sellsAct 54 _ rfl)
  refine F_case (fun c2_3 => ?_) (fun c2_3 => ?_)
  · rw [c2_3]; refine F_tin (off := 63) (tgt := 69) (by decide) (by decide) rfl (by decide) (dk_X7_sellsAct 6 _ rfl) ?_
    refine F_aload_n (i := 0) (a := 0) rfl rfl (dk_X7_sellsAct 69 _ rfl) ?_
    refine F_bipush (v := 71) (by decide) (dk_X7_sellsAct 70 _ rfl) ?_
    refine F_callV (ι' := uU) (ci := 7) (b := 0) (As := [.int 71]) (d' := 2) (rfl) ok_X7_body vi_X7_body cl_7_357 (n := 1) (by decide +kernel) rfl rfl rfl (Nat.le_of_ble_eq_true rfl) (by omega) (dk_X7_sellsAct 72 _ rfl) (c_X7_body _ _ ) (fun x21 m22 => ?_)
    show JF _ _ _ _ _ _ [] _ _
    refine F_aload_n (i := 0) (a := 0) rfl rfl (dk_X7_sellsAct 75 _ rfl) ?_
    refine F_iload_n (i := 1) (a := 1) rfl rfl (dk_X7_sellsAct 76 _ rfl) ?_
    refine F_iload_n (i := 2) (a := 2) rfl rfl (dk_X7_sellsAct 77 _ rfl) ?_
    refine F_callV (ι' := uI) (ci := 7) (b := 0) (As := [.int p1, .int p2]) (d' := 3) (rfl) ok_X7_sellerSells vi_X7_sellerSells cl_7_360 (n := 2) (by decide +kernel) rfl rfl rfl (Nat.le_of_ble_eq_true rfl) (by omega) (dk_X7_sellsAct 78 _ rfl) (c_X7_sellerSells _ _ _ ) (fun x24 m25 => ?_)
    show JF _ _ _ _ _ _ [.int x24] _ _
    refine F_aload_n (i := 0) (a := 0) rfl rfl (dk_X7_sellsAct 81 _ rfl) ?_
    refine F_gR (b := 2) fxM_7_4_0 fl_7_23 (dk_X7_sellsAct 82 _ rfl) ?_
    refine F_iload_n (i := 1) (a := 1) rfl rfl (dk_X7_sellsAct 85 _ rfl) ?_
    refine F_iald (axM_0_2) (dk_X7_sellsAct 86 _ rfl) (fun x27 => ?_)
    refine F_ixor (dk_X7_sellsAct 87 _ rfl) ?_
    exact F_ret rfl (dk_X7_sellsAct 88 _ rfl)
  refine F_case (fun c2_4 => ?_) (fun c2_4 => ?_)
  · rw [c2_4]; refine F_tin (off := 83) (tgt := 89) (by decide) (by decide) rfl (by decide) (dk_X7_sellsAct 6 _ rfl) ?_
    refine F_aload_n (i := 0) (a := 0) rfl rfl (dk_X7_sellsAct 89 _ rfl) ?_
    refine F_iload_n (i := 1) (a := 1) rfl rfl (dk_X7_sellsAct 90 _ rfl) ?_
    refine F_iload_n (i := 2) (a := 2) rfl rfl (dk_X7_sellsAct 91 _ rfl) ?_
    refine F_callV (ι' := uI) (ci := 7) (b := 0) (As := [.int p1, .int p2]) (d' := 3) (rfl) ok_X7_sellerSells vi_X7_sellerSells cl_7_360 (n := 2) (by decide +kernel) rfl rfl rfl (Nat.le_of_ble_eq_true rfl) (by omega) (dk_X7_sellsAct 92 _ rfl) (c_X7_sellerSells _ _ _ ) (fun x28 m29 => ?_)
    show JF _ _ _ _ _ _ [.int x28] _ _
    exact F_ret rfl (dk_X7_sellsAct 95 _ rfl)
  refine F_tout (tgt := 89) (by have q0 := fI_ne c2_0; rw [show (2 : Int32).toInt = 2 from by decide] at q0; have q1 := fI_ne c2_1; rw [show (4 : Int32).toInt = 4 from by decide] at q1; have q2 := fI_ne c2_2; rw [show (5 : Int32).toInt = 5 from by decide] at q2; have q3 := fI_ne c2_3; rw [show (6 : Int32).toInt = 6 from by decide] at q3; have q4 := fI_ne c2_4; rw [show (3 : Int32).toInt = 3 from by decide] at q4; omega) (by decide) (dk_X7_sellsAct 6 _ rfl) ?_
  refine F_aload_n (i := 0) (a := 0) rfl rfl (dk_X7_sellsAct 89 _ rfl) ?_
  refine F_iload_n (i := 1) (a := 1) rfl rfl (dk_X7_sellsAct 90 _ rfl) ?_
  refine F_iload_n (i := 2) (a := 2) rfl rfl (dk_X7_sellsAct 91 _ rfl) ?_
  refine F_callV (ι' := uI) (ci := 7) (b := 0) (As := [.int p1, .int p2]) (d' := 3) (rfl) ok_X7_sellerSells vi_X7_sellerSells cl_7_360 (n := 2) (by decide +kernel) rfl rfl rfl (Nat.le_of_ble_eq_true rfl) (by omega) (dk_X7_sellsAct 92 _ rfl) (c_X7_sellerSells _ _ _ ) (fun x31 m32 => ?_)
  show JF _ _ _ _ _ _ [.int x31] _ _
  exact F_ret rfl (dk_X7_sellsAct 95 _ rfl)
def f_X7_sellerGives (m : mM) (p1 : Int32) (p2 : Int32) : fR Int32 :=
  bnd (f_X7_body m 11) fun (x1 : Unit) (m2 : mM) => bnd (f_X7_sellsAct m2 p1 p2) fun (x4 : Int32) (m5 : mM) => (gA (mA m5 2) p1).bind fun x7 => some ((x4 - x7), m5)
theorem c_X7_sellerGives (m : mM) (p1 : Int32) (p2 : Int32)  : cF false uI m_X7_sellerGives 5 [.ref 0, .int p1, .int p2] m (f_X7_sellerGives m p1 p2) := by
  refine cF_of ok_X7_sellerGives (fun _ _ => Nat.le_of_ble_eq_true rfl) ?_
  unfold f_X7_sellerGives
  show JF _ _ _ _ _ [(0, .ref 0), (1, .int p1), (2, .int p2)] _ _ _
  refine F_aload_n (i := 0) (a := 0) rfl rfl (dk_X7_sellerGives 0 _ rfl) ?_
  refine F_bipush (v := 11) (by decide) (dk_X7_sellerGives 1 _ rfl) ?_
  refine F_callV (ι' := uU) (ci := 7) (b := 0) (As := [.int 11]) (d' := 2) (rfl) ok_X7_body vi_X7_body cl_7_357 (n := 1) (by decide +kernel) rfl rfl rfl (Nat.le_of_ble_eq_true rfl) (by omega) (dk_X7_sellerGives 3 _ rfl) (c_X7_body _ _ ) (fun x1 m2 => ?_)
  show JF _ _ _ _ _ _ [] _ _
  refine F_aload_n (i := 0) (a := 0) rfl rfl (dk_X7_sellerGives 6 _ rfl) ?_
  refine F_iload_n (i := 1) (a := 1) rfl rfl (dk_X7_sellerGives 7 _ rfl) ?_
  refine F_iload_n (i := 2) (a := 2) rfl rfl (dk_X7_sellerGives 8 _ rfl) ?_
  refine F_callV (ι' := uI) (ci := 7) (b := 0) (As := [.int p1, .int p2]) (d' := 4) (rfl) ok_X7_sellsAct vi_X7_sellsAct cl_7_363 (n := 2) (by decide +kernel) rfl rfl rfl (Nat.le_of_ble_eq_true rfl) (by omega) (dk_X7_sellerGives 9 _ rfl) (c_X7_sellsAct _ _ _ ) (fun x4 m5 => ?_)
  show JF _ _ _ _ _ _ [.int x4] _ _
  refine F_aload_n (i := 0) (a := 0) rfl rfl (dk_X7_sellerGives 12 _ rfl) ?_
  refine F_gR (b := 2) fxM_7_4_0 fl_7_23 (dk_X7_sellerGives 13 _ rfl) ?_
  refine F_iload_n (i := 1) (a := 1) rfl rfl (dk_X7_sellerGives 16 _ rfl) ?_
  refine F_iald (axM_0_2) (dk_X7_sellerGives 17 _ rfl) (fun x7 => ?_)
  refine F_isub (dk_X7_sellerGives 18 _ rfl) ?_
  exact F_ret rfl (dk_X7_sellerGives 19 _ rfl)
def f_X7_haterGives (m : mM) (p1 : Int32) (p2 : Int32) : fR Int32 :=
  bnd (f_X7_body m 20) fun (x1 : Unit) (m2 : mM) => bnd (f_X7_sellerGives m2 p1 p2) fun (x4 : Int32) (m5 : mM) => some ((x4 ^^^ 6), m5)
theorem c_X7_haterGives (m : mM) (p1 : Int32) (p2 : Int32)  : cF false uI m_X7_haterGives 6 [.ref 0, .int p1, .int p2] m (f_X7_haterGives m p1 p2) := by
  refine cF_of ok_X7_haterGives (fun _ _ => Nat.le_of_ble_eq_true rfl) ?_
  unfold f_X7_haterGives
  show JF _ _ _ _ _ [(0, .ref 0), (1, .int p1), (2, .int p2)] _ _ _
  refine F_aload_n (i := 0) (a := 0) rfl rfl (dk_X7_haterGives 0 _ rfl) ?_
  refine F_bipush (v := 20) (by decide) (dk_X7_haterGives 1 _ rfl) ?_
  refine F_callV (ι' := uU) (ci := 7) (b := 0) (As := [.int 20]) (d' := 2) (rfl) ok_X7_body vi_X7_body cl_7_357 (n := 1) (by decide +kernel) rfl rfl rfl (Nat.le_of_ble_eq_true rfl) (by omega) (dk_X7_haterGives 3 _ rfl) (c_X7_body _ _ ) (fun x1 m2 => ?_)
  show JF _ _ _ _ _ _ [] _ _
  refine F_aload_n (i := 0) (a := 0) rfl rfl (dk_X7_haterGives 6 _ rfl) ?_
  refine F_iload_n (i := 1) (a := 1) rfl rfl (dk_X7_haterGives 7 _ rfl) ?_
  refine F_iload_n (i := 2) (a := 2) rfl rfl (dk_X7_haterGives 8 _ rfl) ?_
  refine F_callV (ι' := uI) (ci := 7) (b := 0) (As := [.int p1, .int p2]) (d' := 5) (rfl) ok_X7_sellerGives vi_X7_sellerGives cl_7_366 (n := 2) (by decide +kernel) rfl rfl rfl (Nat.le_of_ble_eq_true rfl) (by omega) (dk_X7_haterGives 9 _ rfl) (c_X7_sellerGives _ _ _ ) (fun x4 m5 => ?_)
  show JF _ _ _ _ _ _ [.int x4] _ _
  refine F_bipush (v := 6) (by decide) (dk_X7_haterGives 12 _ rfl) ?_
  refine F_ixor (dk_X7_haterGives 14 _ rfl) ?_
  exact F_ret rfl (dk_X7_haterGives 15 _ rfl)
def f_X7_givesAct (m : mM) (p1 : Int32) (p2 : Int32) : fR Int32 :=
  (gA (mA m 1) p1).bind fun x1 => (if x1 = 1 then bnd (f_X7_haterGives m p1 p2) fun (x3 : Int32) (m4 : mM) => some (x3, m4) else if x1 = 4 then bnd (f_X7_body m 51) fun (x6 : Unit) (m7 : mM) => bnd (f_X7_haterGives m7 p1 (p2 + 1)) fun (x9 : Int32) (m10 : mM) => some (x9, m10) else if x1 = 6 then bnd (f_X7_body m 70) fun (x12 : Unit) (m13 : mM) => bnd (f_X7_sellerGives m13 p1 p2) fun (x15 : Int32) (m16 : mM) => bnd (f_X7_sellerSells m16 p1 2) fun (x18 : Int32) (m19 : mM) => some ((x15 + x18), m19) else bnd (f_X7_sellerGives m p1 p2) fun (x21 : Int32) (m22 : mM) => some (x21, m22))
theorem c_X7_givesAct (m : mM) (p1 : Int32) (p2 : Int32)  : cF false uI m_X7_givesAct 7 [.ref 0, .int p1, .int p2] m (f_X7_givesAct m p1 p2) := by
  refine cF_of ok_X7_givesAct (fun _ _ => Nat.le_of_ble_eq_true rfl) ?_
  unfold f_X7_givesAct
  show JF _ _ _ _ _ [(0, .ref 0), (1, .int p1), (2, .int p2)] _ _ _
  refine F_aload_n (i := 0) (a := 0) rfl rfl (dk_X7_givesAct 0 _ rfl) ?_
  refine F_gR (b := 1) fxM_7_3_0 fl_7_19 (dk_X7_givesAct 1 _ rfl) ?_
  refine F_iload_n (i := 1) (a := 1) rfl rfl (dk_X7_givesAct 4 _ rfl) ?_
  refine F_iald (axM_0_1) (dk_X7_givesAct 5 _ rfl) (fun x1 => ?_)
  refine F_case (fun c2_0 => ?_) (fun c2_0 => ?_)
  · rw [c2_0]; refine F_look (off := 34) (tgt := 40) (by decide) (by decide) (by decide) (dk_X7_givesAct 6 _ rfl) ?_
    refine F_aload_n (i := 0) (a := 0) rfl rfl (dk_X7_givesAct 40 _ rfl) ?_
    refine F_iload_n (i := 1) (a := 1) rfl rfl (dk_X7_givesAct 41 _ rfl) ?_
    refine F_iload_n (i := 2) (a := 2) rfl rfl (dk_X7_givesAct 42 _ rfl) ?_
    refine F_callV (ι' := uI) (ci := 7) (b := 0) (As := [.int p1, .int p2]) (d' := 6) (rfl) ok_X7_haterGives vi_X7_haterGives cl_7_369 (n := 2) (by decide +kernel) rfl rfl rfl (Nat.le_of_ble_eq_true rfl) (by omega) (dk_X7_givesAct 43 _ rfl) (c_X7_haterGives _ _ _ ) (fun x3 m4 => ?_)
    show JF _ _ _ _ _ _ [.int x3] _ _
    exact F_ret rfl (dk_X7_givesAct 46 _ rfl)
  refine F_case (fun c2_1 => ?_) (fun c2_1 => ?_)
  · rw [c2_1]; refine F_look (off := 41) (tgt := 47) (by decide) (by decide) (by decide) (dk_X7_givesAct 6 _ rfl) ?_
    refine F_aload_n (i := 0) (a := 0) rfl rfl (dk_X7_givesAct 47 _ rfl) ?_
    refine F_bipush (v := 51) (by decide) (dk_X7_givesAct 48 _ rfl) ?_
    refine F_callV (ι' := uU) (ci := 7) (b := 0) (As := [.int 51]) (d' := 2) (rfl) ok_X7_body vi_X7_body cl_7_357 (n := 1) (by decide +kernel) rfl rfl rfl (Nat.le_of_ble_eq_true rfl) (by omega) (dk_X7_givesAct 50 _ rfl) (c_X7_body _ _ ) (fun x6 m7 => ?_)
    show JF _ _ _ _ _ _ [] _ _
    refine F_aload_n (i := 0) (a := 0) rfl rfl (dk_X7_givesAct 53 _ rfl) ?_
    refine F_iload_n (i := 1) (a := 1) rfl rfl (dk_X7_givesAct 54 _ rfl) ?_
    refine F_iload_n (i := 2) (a := 2) rfl rfl (dk_X7_givesAct 55 _ rfl) ?_
    refine F_iconst (v := 1) (by decide) (dk_X7_givesAct 56 _ rfl) ?_
    refine F_iadd (dk_X7_givesAct 57 _ rfl) ?_
    refine F_callV (ι' := uI) (ci := 7) (b := 0) (As := [.int p1, .int (p2 + 1)]) (d' := 6) (rfl) ok_X7_haterGives vi_X7_haterGives cl_7_369 (n := 2) (by decide +kernel) rfl rfl rfl (Nat.le_of_ble_eq_true rfl) (by omega) (dk_X7_givesAct 58 _ rfl) (c_X7_haterGives _ _ _ ) (fun x9 m10 => ?_)
    show JF _ _ _ _ _ _ [.int x9] _ _
    exact F_ret rfl (dk_X7_givesAct 61 _ rfl)
  refine F_case (fun c2_2 => ?_) (fun c2_2 => ?_)
  · rw [c2_2]; refine F_look (off := 56) (tgt := 62) (by decide) (by decide) (by decide) (dk_X7_givesAct 6 _ rfl) ?_
    refine F_aload_n (i := 0) (a := 0) rfl rfl (dk_X7_givesAct 62 _ rfl) ?_
    refine F_bipush (v := 70) (by decide) (dk_X7_givesAct 63 _ rfl) ?_
    refine F_callV (ι' := uU) (ci := 7) (b := 0) (As := [.int 70]) (d' := 2) (rfl) ok_X7_body vi_X7_body cl_7_357 (n := 1) (by decide +kernel) rfl rfl rfl (Nat.le_of_ble_eq_true rfl) (by omega) (dk_X7_givesAct 65 _ rfl) (c_X7_body _ _ ) (fun x12 m13 => ?_)
    show JF _ _ _ _ _ _ [] _ _
    refine F_aload_n (i := 0) (a := 0) rfl rfl (dk_X7_givesAct 68 _ rfl) ?_
    refine F_iload_n (i := 1) (a := 1) rfl rfl (dk_X7_givesAct 69 _ rfl) ?_
    refine F_iload_n (i := 2) (a := 2) rfl rfl (dk_X7_givesAct 70 _ rfl) ?_
    refine F_callV (ι' := uI) (ci := 7) (b := 0) (As := [.int p1, .int p2]) (d' := 5) (rfl) ok_X7_sellerGives vi_X7_sellerGives cl_7_366 (n := 2) (by decide +kernel) rfl rfl rfl (Nat.le_of_ble_eq_true rfl) (by omega) (dk_X7_givesAct 71 _ rfl) (c_X7_sellerGives _ _ _ ) (fun x15 m16 => ?_)
    show JF _ _ _ _ _ _ [.int x15] _ _
    refine F_istore_n (lv' := [(3, .int x15), (0, .ref 0), (1, .int p1), (2, .int p2)]) (i := 3) (a := 3) rfl (by decide) rfl (dk_X7_givesAct 74 _ rfl) ?_
    refine F_iload_n (i := 3) (a := 3) rfl rfl (dk_X7_givesAct 75 _ rfl) ?_
    refine F_aload_n (i := 0) (a := 0) rfl rfl (dk_X7_givesAct 76 _ rfl) ?_
    refine F_iload_n (i := 1) (a := 1) rfl rfl (dk_X7_givesAct 77 _ rfl) ?_
    refine F_iconst (v := 2) (by decide) (dk_X7_givesAct 78 _ rfl) ?_
    refine F_callV (ι' := uI) (ci := 7) (b := 0) (As := [.int p1, .int 2]) (d' := 3) (rfl) ok_X7_sellerSells vi_X7_sellerSells cl_7_360 (n := 2) (by decide +kernel) rfl rfl rfl (Nat.le_of_ble_eq_true rfl) (by omega) (dk_X7_givesAct 79 _ rfl) (c_X7_sellerSells _ _ _ ) (fun x18 m19 => ?_)
    show JF _ _ _ _ _ _ [.int x18, .int x15] _ _
    refine F_iadd (dk_X7_givesAct 82 _ rfl) ?_
    exact F_ret rfl (dk_X7_givesAct 83 _ rfl)
  refine F_look (off := 78) (tgt := 84) (by decide) (by have q0 := fI_ne c2_0; rw [show (1 : Int32).toInt = 1 from by decide] at q0; have q1 := fI_ne c2_1; rw [show (4 : Int32).toInt = 4 from by decide] at q1; have q2 := fI_ne c2_2; rw [show (6 : Int32).toInt = 6 from by decide] at q2; simp [Op.lookupswitch.offset, q0, Ne.symm q0, q1, Ne.symm q1, q2, Ne.symm q2]) (by decide) (dk_X7_givesAct 6 _ rfl) ?_
  refine F_aload_n (i := 0) (a := 0) rfl rfl (dk_X7_givesAct 84 _ rfl) ?_
  refine F_iload_n (i := 1) (a := 1) rfl rfl (dk_X7_givesAct 85 _ rfl) ?_
  refine F_iload_n (i := 2) (a := 2) rfl rfl (dk_X7_givesAct 86 _ rfl) ?_
  refine F_callV (ι' := uI) (ci := 7) (b := 0) (As := [.int p1, .int p2]) (d' := 5) (rfl) ok_X7_sellerGives vi_X7_sellerGives cl_7_366 (n := 2) (by decide +kernel) rfl rfl rfl (Nat.le_of_ble_eq_true rfl) (by omega) (dk_X7_givesAct 87 _ rfl) (c_X7_sellerGives _ _ _ ) (fun x21 m22 => ?_)
  show JF _ _ _ _ _ _ [.int x21] _ _
  exact F_ret rfl (dk_X7_givesAct 90 _ rfl)
def f_X7_sellerTells (m : mM) (p1 : Int32) (p2 : Int32) : fR Int32 :=
  bnd (f_X7_body m 12) fun (x1 : Unit) (m2 : mM) => bnd (f_X7_givesAct m2 p1 p2) fun (x4 : Int32) (m5 : mM) => some ((x4 * 2), m5)
theorem c_X7_sellerTells (m : mM) (p1 : Int32) (p2 : Int32)  : cF false uI m_X7_sellerTells 8 [.ref 0, .int p1, .int p2] m (f_X7_sellerTells m p1 p2) := by
  refine cF_of ok_X7_sellerTells (fun _ _ => Nat.le_of_ble_eq_true rfl) ?_
  unfold f_X7_sellerTells
  show JF _ _ _ _ _ [(0, .ref 0), (1, .int p1), (2, .int p2)] _ _ _
  refine F_aload_n (i := 0) (a := 0) rfl rfl (dk_X7_sellerTells 0 _ rfl) ?_
  refine F_bipush (v := 12) (by decide) (dk_X7_sellerTells 1 _ rfl) ?_
  refine F_callV (ι' := uU) (ci := 7) (b := 0) (As := [.int 12]) (d' := 2) (rfl) ok_X7_body vi_X7_body cl_7_357 (n := 1) (by decide +kernel) rfl rfl rfl (Nat.le_of_ble_eq_true rfl) (by omega) (dk_X7_sellerTells 3 _ rfl) (c_X7_body _ _ ) (fun x1 m2 => ?_)
  show JF _ _ _ _ _ _ [] _ _
  refine F_aload_n (i := 0) (a := 0) rfl rfl (dk_X7_sellerTells 6 _ rfl) ?_
  refine F_iload_n (i := 1) (a := 1) rfl rfl (dk_X7_sellerTells 7 _ rfl) ?_
  refine F_iload_n (i := 2) (a := 2) rfl rfl (dk_X7_sellerTells 8 _ rfl) ?_
  refine F_callV (ι' := uI) (ci := 7) (b := 0) (As := [.int p1, .int p2]) (d' := 7) (rfl) ok_X7_givesAct vi_X7_givesAct cl_7_372 (n := 2) (by decide +kernel) rfl rfl rfl (Nat.le_of_ble_eq_true rfl) (by omega) (dk_X7_sellerTells 9 _ rfl) (c_X7_givesAct _ _ _ ) (fun x4 m5 => ?_)
  show JF _ _ _ _ _ _ [.int x4] _ _
  refine F_iconst (v := 2) (by decide) (dk_X7_sellerTells 12 _ rfl) ?_
  refine F_imul (dk_X7_sellerTells 13 _ rfl) ?_
  exact F_ret rfl (dk_X7_sellerTells 14 _ rfl)
end
