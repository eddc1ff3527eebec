section
set_option maxRecDepth 100000
def f_X7_goDay_222  (m : mM) (y2 : Int32) (y100 : Int32) (y101 : Int32) : fR Int32 :=
  nmM (wI m 2 (y101 + y100)) fun m5 => (rmI (((mI m5 1) + 1)) 12).bind fun x6 => nmM (wI m5 1 x6) fun m7 => some (y2, m7)
theorem j_X7_goDay_222   (m : mM) (y2 : Int32) (y100 : Int32) (y101 : Int32)  : JF false uI m_X7_goDay 8 222 [(0, .ref 0), (2, .int y2)] [.int y100, .int y101, .ref 0] m (f_X7_goDay_222  m y2 y100 y101) := by
  unfold f_X7_goDay_222
  refine F_iadd (dk_X7_goDay 222 _ rfl) ?_
  refine F_pI (n := 2) fxM_7_2_0 rfl fl_7_16 (fun q hq => by cases hq; rfl) trivial (dk_X7_goDay 223 _ rfl) (fun m5 => ?_)
  refine F_aload_n (i := 0) (a := 0) rfl rfl (dk_X7_goDay 226 _ rfl) ?_
  refine F_aload_n (i := 0) (a := 0) rfl rfl (dk_X7_goDay 227 _ rfl) ?_
  refine F_gI (n := 1) fxM_7_1_0 rfl fl_7_13 (dk_X7_goDay 228 _ rfl) ?_
  refine F_iconst (v := 1) (by decide) (dk_X7_goDay 231 _ rfl) ?_
  refine F_iadd (dk_X7_goDay 232 _ rfl) ?_
  refine F_bipush (v := 12) (by decide) (dk_X7_goDay 233 _ rfl) ?_
  refine F_irem (dk_X7_goDay 235 _ rfl) (fun x6 => ?_)
  refine F_pI (n := 1) fxM_7_1_0 rfl fl_7_13 (fun q hq => by cases hq; rfl) trivial (dk_X7_goDay 236 _ rfl) (fun m7 => ?_)
  refine F_iload_n (i := 2) (a := 2) rfl rfl (dk_X7_goDay 239 _ rfl) ?_
  exact F_ret rfl (dk_X7_goDay 240 _ rfl)
def fb_X7_goDay_129 (K129 : mM → Int32 → Int32 → Int32 → Int32 → fR Int32) (m : mM) (y1 : Int32) (y2 : Int32) (y3 : Int32) (y4 : Int32) : fR Int32 :=
  (if (mI m 0) ≤ y4 then (if (mI m 1) = 11 then (f_X7_goDay_222  m y2 1 (mI m 2)) else (f_X7_goDay_222  m y2 0 (mI m 2))) else (gA (mA m 7) y4).bind fun x8 => (if x8 = 0 then (K129 m y1 y2 y3 (y4 + 1)) else (gA (mA m 3) y4).bind fun x9 => (if x9 = (mI m 1) then (gA (mA m 5) y4).bind fun x10 => (dvI y2 y1).bind fun x11 => (sA 0 m 5 y4 ((x10 + (x11 + y3)))).bind fun m12 => (gA (mA m12 18) y4).bind fun x13 => (dvI y2 y1).bind fun x14 => (sA 0 m12 18 y4 ((x13 + (x14 + y3)))).bind fun m15 => (K129 m15 y1 y2 0 (y4 + 1)) else (K129 m y1 y2 y3 (y4 + 1)))))
def f_X7_goDay_129  : Nat → mM → Int32 → Int32 → Int32 → Int32 → fR Int32
  | 0, _, _, _, _, _ => none
  | F + 1, m, y1, y2, y3, y4 => fb_X7_goDay_129  (f_X7_goDay_129  F) m y1 y2 y3 y4
theorem jb_X7_goDay_129 (K129 : mM → Int32 → Int32 → Int32 → Int32 → fR Int32) (hK129 : ∀ (m : mM) (y1 : Int32) (y2 : Int32) (y3 : Int32) (y4 : Int32) , JF false uI m_X7_goDay 8 129 [(0, .ref 0), (1, .int y1), (2, .int y2), (3, .int y3), (4, .int y4)] [] m (K129 m y1 y2 y3 y4)) (m : mM) (y1 : Int32) (y2 : Int32) (y3 : Int32) (y4 : Int32)  : JF false uI m_X7_goDay 8 129 [(0, .ref 0), (1, .int y1), (2, .int y2), (3, .int y3), (4, .int y4)] [] m (fb_X7_goDay_129 K129 m y1 y2 y3 y4) := by
  unfold fb_X7_goDay_129
  refine F_iload (i := 4) rfl (dk_X7_goDay 129 _ rfl) ?_
  refine F_aload_n (i := 0) (a := 0) rfl rfl (dk_X7_goDay 131 _ rfl) ?_
  refine F_gI (n := 0) fxM_7_0_0 rfl fl_7_7 (dk_X7_goDay 132 _ rfl) ?_
  refine F_icmp_ge (tgt := 203) (by decide) (dk_X7_goDay 135 _ rfl) ?_ ?_
  · refine F_aload_n (i := 0) (a := 0) rfl rfl (dk_X7_goDay 203 _ rfl) ?_
    refine F_dup rfl (dk_X7_goDay 204 _ rfl) ?_
    refine F_gI (n := 2) fxM_7_2_0 rfl fl_7_16 (dk_X7_goDay 205 _ rfl) ?_
    refine F_aload_n (i := 0) (a := 0) rfl rfl (dk_X7_goDay 208 _ rfl) ?_
    refine F_gI (n := 1) fxM_7_1_0 rfl fl_7_13 (dk_X7_goDay 209 _ rfl) ?_
    refine F_bipush (v := 11) (by decide) (dk_X7_goDay 212 _ rfl) ?_
    refine F_icmp_ne (tgt := 221) (by decide) (dk_X7_goDay 214 _ rfl) ?_ ?_
    · refine F_iconst (v := 0) (by decide) (dk_X7_goDay 221 _ rfl) ?_
      exact F_loc (List.forall_mem_cons.mpr ⟨(.head _), (List.forall_mem_cons.mpr ⟨(.tail _ (.tail _ (.head _))), (fun _ z => absurd z List.not_mem_nil)⟩)⟩) (j_X7_goDay_222   _ _ _ _ )
    · refine F_iconst (v := 1) (by decide) (dk_X7_goDay 217 _ rfl) ?_
      refine F_goto (tgt := 222) (by decide) (dk_X7_goDay 218 _ rfl) ?_
      exact F_loc (List.forall_mem_cons.mpr ⟨(.head _), (List.forall_mem_cons.mpr ⟨(.tail _ (.tail _ (.head _))), (fun _ z => absurd z List.not_mem_nil)⟩)⟩) (j_X7_goDay_222   _ _ _ _ )
  · refine F_aload_n (i := 0) (a := 0) rfl rfl (dk_X7_goDay 138 _ rfl) ?_
    refine F_gR (b := 7) fxM_7_9_0 fl_7_38 (dk_X7_goDay 139 _ rfl) ?_
    refine F_iload (i := 4) rfl (dk_X7_goDay 142 _ rfl) ?_
    refine F_zald (axM_3_7) (dk_X7_goDay 144 _ rfl) (fun x8 => ?_)
    refine F_if_eq (tgt := 197) (by decide) (dk_X7_goDay 145 _ rfl) ?_ ?_
    · refine F_iinc (i := 4) (n := 1) (v := (y4 + 1)) (lv' := [(4, .int (y4 + 1)), (0, .ref 0), (1, .int y1), (2, .int y2), (3, .int y3)]) rfl (by first | rfl | decide) (by decide) rfl (dk_X7_goDay 197 _ rfl) ?_
      refine F_goto (tgt := 129) (by decide) (dk_X7_goDay 200 _ rfl) ?_
      exact F_loc (List.forall_mem_cons.mpr ⟨(.tail _ (.head _)), (List.forall_mem_cons.mpr ⟨(.tail _ (.tail _ (.head _))), (List.forall_mem_cons.mpr ⟨(.tail _ (.tail _ (.tail _ (.head _)))), (List.forall_mem_cons.mpr ⟨(.tail _ (.tail _ (.tail _ (.tail _ (.head _))))), (List.forall_mem_cons.mpr ⟨(.head _), (fun _ z => absurd z List.not_mem_nil)⟩)⟩)⟩)⟩)⟩) (hK129 _ _ _ _ _ )
    · refine F_aload_n (i := 0) (a := 0) rfl rfl (dk_X7_goDay 148 _ rfl) ?_
      refine F_gR (b := 3) fxM_7_5_0 fl_7_26 (dk_X7_goDay 149 _ rfl) ?_
      refine F_iload (i := 4) rfl (dk_X7_goDay 152 _ rfl) ?_
      refine F_iald (axM_0_3) (dk_X7_goDay 154 _ rfl) (fun x9 => ?_)
      refine F_aload_n (i := 0) (a := 0) rfl rfl (dk_X7_goDay 155 _ rfl) ?_
      refine F_gI (n := 1) fxM_7_1_0 rfl fl_7_13 (dk_X7_goDay 156 _ rfl) ?_
      refine F_icmp_eq (tgt := 165) (by decide) (dk_X7_goDay 159 _ rfl) ?_ ?_
      · refine F_aload_n (i := 0) (a := 0) rfl rfl (dk_X7_goDay 165 _ rfl) ?_
        refine F_gR (b := 5) fxM_7_7_0 fl_7_32 (dk_X7_goDay 166 _ rfl) ?_
        refine F_iload (i := 4) rfl (dk_X7_goDay 169 _ rfl) ?_
        refine F_dup2 rfl rfl (dk_X7_goDay 171 _ rfl) ?_
        refine F_iald (axM_0_5) (dk_X7_goDay 172 _ rfl) (fun x10 => ?_)
        refine F_iload_n (i := 2) (a := 2) rfl rfl (dk_X7_goDay 173 _ rfl) ?_
        refine F_iload_n (i := 1) (a := 1) rfl rfl (dk_X7_goDay 174 _ rfl) ?_
        refine F_idiv (dk_X7_goDay 175 _ rfl) (fun x11 => ?_)
        refine F_iload_n (i := 3) (a := 3) rfl rfl (dk_X7_goDay 176 _ rfl) ?_
        refine F_iadd (dk_X7_goDay 177 _ rfl) ?_
        refine F_iadd (dk_X7_goDay 178 _ rfl) ?_
        refine F_iast (axM_0_5) (dk_X7_goDay 179 _ rfl) (fun m12 => ?_)
        refine F_aload_n (i := 0) (a := 0) rfl rfl (dk_X7_goDay 180 _ rfl) ?_
        refine F_gR (b := 18) fxM_7_29_0 fl_7_99 (dk_X7_goDay 181 _ rfl) ?_
        refine F_iload (i := 4) rfl (dk_X7_goDay 184 _ rfl) ?_
        refine F_dup2 rfl rfl (dk_X7_goDay 186 _ rfl) ?_
        refine F_iald (axM_0_18) (dk_X7_goDay 187 _ rfl) (fun x13 => ?_)
        refine F_iload_n (i := 2) (a := 2) rfl rfl (dk_X7_goDay 188 _ rfl) ?_
        refine F_iload_n (i := 1) (a := 1) rfl rfl (dk_X7_goDay 189 _ rfl) ?_
        refine F_idiv (dk_X7_goDay 190 _ rfl) (fun x14 => ?_)
        refine F_iload_n (i := 3) (a := 3) rfl rfl (dk_X7_goDay 191 _ rfl) ?_
        refine F_iadd (dk_X7_goDay 192 _ rfl) ?_
        refine F_iadd (dk_X7_goDay 193 _ rfl) ?_
        refine F_iast (axM_0_18) (dk_X7_goDay 194 _ rfl) (fun m15 => ?_)
        refine F_iconst (v := 0) (by decide) (dk_X7_goDay 195 _ rfl) ?_
        refine F_istore_n (lv' := [(3, .int 0), (0, .ref 0), (1, .int y1), (2, .int y2), (4, .int y4)]) (i := 3) (a := 3) rfl (by decide) rfl (dk_X7_goDay 196 _ rfl) ?_
        refine F_iinc (i := 4) (n := 1) (v := (y4 + 1)) (lv' := [(4, .int (y4 + 1)), (3, .int 0), (0, .ref 0), (1, .int y1), (2, .int y2)]) rfl (by first | rfl | decide) (by decide) rfl (dk_X7_goDay 197 _ rfl) ?_
        refine F_goto (tgt := 129) (by decide) (dk_X7_goDay 200 _ rfl) ?_
        exact F_loc (List.forall_mem_cons.mpr ⟨(.tail _ (.tail _ (.head _))), (List.forall_mem_cons.mpr ⟨(.tail _ (.tail _ (.tail _ (.head _)))), (List.forall_mem_cons.mpr ⟨(.tail _ (.tail _ (.tail _ (.tail _ (.head _))))), (List.forall_mem_cons.mpr ⟨(.tail _ (.head _)), (List.forall_mem_cons.mpr ⟨(.head _), (fun _ z => absurd z List.not_mem_nil)⟩)⟩)⟩)⟩)⟩) (hK129 _ _ _ _ _ )
      · refine F_goto (tgt := 197) (by decide) (dk_X7_goDay 162 _ rfl) ?_
        refine F_iinc (i := 4) (n := 1) (v := (y4 + 1)) (lv' := [(4, .int (y4 + 1)), (0, .ref 0), (1, .int y1), (2, .int y2), (3, .int y3)]) rfl (by first | rfl | decide) (by decide) rfl (dk_X7_goDay 197 _ rfl) ?_
        refine F_goto (tgt := 129) (by decide) (dk_X7_goDay 200 _ rfl) ?_
        exact F_loc (List.forall_mem_cons.mpr ⟨(.tail _ (.head _)), (List.forall_mem_cons.mpr ⟨(.tail _ (.tail _ (.head _))), (List.forall_mem_cons.mpr ⟨(.tail _ (.tail _ (.tail _ (.head _)))), (List.forall_mem_cons.mpr ⟨(.tail _ (.tail _ (.tail _ (.tail _ (.head _))))), (List.forall_mem_cons.mpr ⟨(.head _), (fun _ z => absurd z List.not_mem_nil)⟩)⟩)⟩)⟩)⟩) (hK129 _ _ _ _ _ )
theorem j_X7_goDay_129   : ∀ (F : Nat) (m : mM) (y1 : Int32) (y2 : Int32) (y3 : Int32) (y4 : Int32) , JF false uI m_X7_goDay 8 129 [(0, .ref 0), (1, .int y1), (2, .int y2), (3, .int y3), (4, .int y4)] [] m (f_X7_goDay_129  F m y1 y2 y3 y4) := by
  intro F
  induction F with
  | zero => intro m y1 y2 y3 y4 ; exact F_no
  | succ F ih => intro m y1 y2 y3 y4 ; exact jb_X7_goDay_129  (f_X7_goDay_129  F)  ih m y1 y2 y3 y4 
def f_X7_goDay_74 (K13 : mM → Int32 → Int32 → Int32 → fR Int32) (m : mM) (y1 : Int32) (y2 : Int32) (y3 : Int32) (y4 : Int32) (y100 : Int32) : fR Int32 :=
  (gA (mA m 5) y3).bind fun x27 => bnd (f_X7_lastOf m 2 1) fun (x28 : Int32) (m29 : mM) => bnd (f_X7_putOff m29 y3) fun (x31 : Int32) (m32 : mM) => (sA 0 m32 5 y3 ((x27 + ((y4 - (x28 * x31)) - y100)))).bind fun m34 => nmI (y2 + y100) fun v35 => (K13 m34 y1 v35 (y3 + 1))
theorem j_X7_goDay_74 (K13 : mM → Int32 → Int32 → Int32 → fR Int32) (hK13 : ∀ (m : mM) (y1 : Int32) (y2 : Int32) (y3 : Int32) , JF false uI m_X7_goDay 8 13 [(0, .ref 0), (1, .int y1), (2, .int y2), (3, .int y3)] [] m (K13 m y1 y2 y3)) (m : mM) (y1 : Int32) (y2 : Int32) (y3 : Int32) (y4 : Int32) (y100 : Int32)  : JF false uI m_X7_goDay 8 74 [(0, .ref 0), (1, .int y1), (2, .int y2), (3, .int y3), (4, .int y4)] [.int y100] m (f_X7_goDay_74 K13 m y1 y2 y3 y4 y100) := by
  unfold f_X7_goDay_74
  refine F_istore (lv' := [(5, .int y100), (0, .ref 0), (1, .int y1), (2, .int y2), (3, .int y3), (4, .int y4)]) (i := 5) (by decide) rfl (dk_X7_goDay 74 _ rfl) ?_
  refine F_aload_n (i := 0) (a := 0) rfl rfl (dk_X7_goDay 76 _ rfl) ?_
  refine F_gR (b := 5) fxM_7_7_0 fl_7_32 (dk_X7_goDay 77 _ rfl) ?_
  refine F_iload_n (i := 3) (a := 3) rfl rfl (dk_X7_goDay 80 _ rfl) ?_
  refine F_dup2 rfl rfl (dk_X7_goDay 81 _ rfl) ?_
  refine F_iald (axM_0_5) (dk_X7_goDay 82 _ rfl) (fun x27 => ?_)
  refine F_iload (i := 4) rfl (dk_X7_goDay 83 _ rfl) ?_
  refine F_aload_n (i := 0) (a := 0) rfl rfl (dk_X7_goDay 85 _ rfl) ?_
  refine F_iconst (v := 2) (by decide) (dk_X7_goDay 86 _ rfl) ?_
  refine F_iconst (v := 1) (by decide) (dk_X7_goDay 87 _ rfl) ?_
  refine F_callV (ι' := uI) (ci := 7) (b := 0) (As := [.int 2, .int 1]) (d' := 3) (rfl) ok_X7_lastOf vi_X7_lastOf cl_7_262 (n := 2) (by decide +kernel) rfl rfl rfl (Nat.le_of_ble_eq_true rfl) (by omega) (dk_X7_goDay 88 _ rfl) (c_X7_lastOf _ _ _ ) (fun x28 m29 => ?_)
  show JF _ _ _ _ _ _ [.int x28, .int y4, .int x27, .int y3, .ref 5] _ _
  refine F_aload_n (i := 0) (a := 0) rfl rfl (dk_X7_goDay 91 _ rfl) ?_
  refine F_iload_n (i := 3) (a := 3) rfl rfl (dk_X7_goDay 92 _ rfl) ?_
  refine F_callV (ι' := uI) (ci := 7) (b := 0) (As := [.int y3]) (d' := 7) (rfl) ok_X7_putOff vi_X7_putOff cl_7_292 (n := 1) (by decide +kernel) rfl rfl rfl (Nat.le_of_ble_eq_true rfl) (by omega) (dk_X7_goDay 93 _ rfl) (c_X7_putOff _ _ ) (fun x31 m32 => ?_)
  show JF _ _ _ _ _ _ [.int x31, .int x28, .int y4, .int x27, .int y3, .ref 5] _ _
  refine F_imul (dk_X7_goDay 96 _ rfl) ?_
  refine F_isub (dk_X7_goDay 97 _ rfl) ?_
  refine F_iload (i := 5) rfl (dk_X7_goDay 98 _ rfl) ?_
  refine F_isub (dk_X7_goDay 100 _ rfl) ?_
  refine F_iadd (dk_X7_goDay 101 _ rfl) ?_
  refine F_iast (axM_0_5) (dk_X7_goDay 102 _ rfl) (fun m34 => ?_)
  refine F_iload_n (i := 2) (a := 2) rfl rfl (dk_X7_goDay 103 _ rfl) ?_
  refine F_iload (i := 5) rfl (dk_X7_goDay 104 _ rfl) ?_
  refine F_iadd (dk_X7_goDay 106 _ rfl) ?_
  refine F_nm (fun v35 => ?_)
  refine F_istore_n (lv' := [(2, .int v35), (5, .int y100), (0, .ref 0), (1, .int y1), (3, .int y3), (4, .int y4)]) (i := 2) (a := 2) rfl (by decide) rfl (dk_X7_goDay 107 _ rfl) ?_
  refine F_iinc (i := 3) (n := 1) (v := (y3 + 1)) (lv' := [(3, .int (y3 + 1)), (2, .int v35), (5, .int y100), (0, .ref 0), (1, .int y1), (4, .int y4)]) rfl (by first | rfl | decide) (by decide) rfl (dk_X7_goDay 108 _ rfl) ?_
  refine F_goto (tgt := 13) (by decide) (dk_X7_goDay 111 _ rfl) ?_
  exact F_loc (List.forall_mem_cons.mpr ⟨(.tail _ (.tail _ (.tail _ (.head _)))), (List.forall_mem_cons.mpr ⟨(.tail _ (.tail _ (.tail _ (.tail _ (.head _))))), (List.forall_mem_cons.mpr ⟨(.tail _ (.head _)), (List.forall_mem_cons.mpr ⟨(.head _), (fun _ z => absurd z List.not_mem_nil)⟩)⟩)⟩)⟩) (hK13 _ _ _ _ )
def fb_X7_goDay_13 (K13 : mM → Int32 → Int32 → Int32 → fR Int32) (m : mM) (y1 : Int32) (y2 : Int32) (y3 : Int32) : fR Int32 :=
  (if (mI m 0) ≤ y3 then (if y1 = 0 then (f_X7_goDay_129  1000 m y1 y2 0 0) else (rmI y2 y1).bind fun x4 => (f_X7_goDay_129  1000 m y1 y2 x4 0)) else (gA (mA m 7) y3).bind fun x16 => (if x16 = 0 then (K13 m y1 y2 (y3 + 1)) else bnd (f_X7_sells m y3) fun (x17 : Int32) (m18 : mM) => (if x17 = (mI m18 1) then bnd (f_X7_takesOf m18 y3 (mI m18 1)) fun (x20 : Int32) (m21 : mM) => (if y1 = 0 then (f_X7_goDay_74 K13 m21 y1 y2 y3 x20 0) else bnd (f_X7_dueNow m21 ) fun (x23 : Int32) (m24 : mM) => (dvI (x23 * x20) 100).bind fun x26 => (f_X7_goDay_74 K13 m24 y1 y2 y3 x20 x26)) else (K13 m18 y1 y2 (y3 + 1)))))
def f_X7_goDay_13  : Nat → mM → Int32 → Int32 → Int32 → fR Int32
  | 0, _, _, _, _ => none
  | F + 1, m, y1, y2, y3 => fb_X7_goDay_13  (f_X7_goDay_13  F) m y1 y2 y3
theorem jb_X7_goDay_13 (K13 : mM → Int32 → Int32 → Int32 → fR Int32) (hK13 : ∀ (m : mM) (y1 : Int32) (y2 : Int32) (y3 : Int32) , JF false uI m_X7_goDay 8 13 [(0, .ref 0), (1, .int y1), (2, .int y2), (3, .int y3)] [] m (K13 m y1 y2 y3)) (m : mM) (y1 : Int32) (y2 : Int32) (y3 : Int32)  : JF false uI m_X7_goDay 8 13 [(0, .ref 0), (1, .int y1), (2, .int y2), (3, .int y3)] [] m (fb_X7_goDay_13 K13 m y1 y2 y3) := by
  unfold fb_X7_goDay_13
  refine F_iload_n (i := 3) (a := 3) rfl rfl (dk_X7_goDay 13 _ rfl) ?_
  refine F_aload_n (i := 0) (a := 0) rfl rfl (dk_X7_goDay 14 _ rfl) ?_
  refine F_gI (n := 0) fxM_7_0_0 rfl fl_7_7 (dk_X7_goDay 15 _ rfl) ?_
  refine F_icmp_ge (tgt := 114) (by decide) (dk_X7_goDay 18 _ rfl) ?_ ?_
  · refine F_iload_n (i := 1) (a := 1) rfl rfl (dk_X7_goDay 114 _ rfl) ?_
    refine F_if_ne (tgt := 122) (by decide) (dk_X7_goDay 115 _ rfl) ?_ ?_
    · refine F_iload_n (i := 2) (a := 2) rfl rfl (dk_X7_goDay 122 _ rfl) ?_
      refine F_iload_n (i := 1) (a := 1) rfl rfl (dk_X7_goDay 123 _ rfl) ?_
      refine F_irem (dk_X7_goDay 124 _ rfl) (fun x4 => ?_)
      refine F_istore_n (lv' := [(3, .int x4), (0, .ref 0), (1, .int y1), (2, .int y2)]) (i := 3) (a := 3) rfl (by decide) rfl (dk_X7_goDay 125 _ rfl) ?_
      refine F_iconst (v := 0) (by decide) (dk_X7_goDay 126 _ rfl) ?_
      refine F_istore (lv' := [(4, .int 0), (3, .int x4), (0, .ref 0), (1, .int y1), (2, .int y2)]) (i := 4) (by decide) rfl (dk_X7_goDay 127 _ rfl) ?_
      exact F_loc (List.forall_mem_cons.mpr ⟨(.tail _ (.tail _ (.head _))), (List.forall_mem_cons.mpr ⟨(.tail _ (.tail _ (.tail _ (.head _)))), (List.forall_mem_cons.mpr ⟨(.tail _ (.tail _ (.tail _ (.tail _ (.head _))))), (List.forall_mem_cons.mpr ⟨(.tail _ (.head _)), (List.forall_mem_cons.mpr ⟨(.head _), (fun _ z => absurd z List.not_mem_nil)⟩)⟩)⟩)⟩)⟩) (j_X7_goDay_129   1000 _ _ _ _ _ )
    · refine F_iconst (v := 0) (by decide) (dk_X7_goDay 118 _ rfl) ?_
      refine F_goto (tgt := 125) (by decide) (dk_X7_goDay 119 _ rfl) ?_
      refine F_istore_n (lv' := [(3, .int 0), (0, .ref 0), (1, .int y1), (2, .int y2)]) (i := 3) (a := 3) rfl (by decide) rfl (dk_X7_goDay 125 _ rfl) ?_
      refine F_iconst (v := 0) (by decide) (dk_X7_goDay 126 _ rfl) ?_
      refine F_istore (lv' := [(4, .int 0), (3, .int 0), (0, .ref 0), (1, .int y1), (2, .int y2)]) (i := 4) (by decide) rfl (dk_X7_goDay 127 _ rfl) ?_
      exact F_loc (List.forall_mem_cons.mpr ⟨(.tail _ (.tail _ (.head _))), (List.forall_mem_cons.mpr ⟨(.tail _ (.tail _ (.tail _ (.head _)))), (List.forall_mem_cons.mpr ⟨(.tail _ (.tail _ (.tail _ (.tail _ (.head _))))), (List.forall_mem_cons.mpr ⟨(.tail _ (.head _)), (List.forall_mem_cons.mpr ⟨(.head _), (fun _ z => absurd z List.not_mem_nil)⟩)⟩)⟩)⟩)⟩) (j_X7_goDay_129   1000 _ _ _ _ _ )
  · refine F_aload_n (i := 0) (a := 0) rfl rfl (dk_X7_goDay 21 _ rfl) ?_
    refine F_gR (b := 7) fxM_7_9_0 fl_7_38 (dk_X7_goDay 22 _ rfl) ?_
    refine F_iload_n (i := 3) (a := 3) rfl rfl (dk_X7_goDay 25 _ rfl) ?_
    refine F_zald (axM_3_7) (dk_X7_goDay 26 _ rfl) (fun x16 => ?_)
    refine F_if_eq (tgt := 108) (by decide) (dk_X7_goDay 27 _ rfl) ?_ ?_
    · refine F_iinc (i := 3) (n := 1) (v := (y3 + 1)) (lv' := [(3, .int (y3 + 1)), (0, .ref 0), (1, .int y1), (2, .int y2)]) rfl (by first | rfl | decide) (by decide) rfl (dk_X7_goDay 108 _ rfl) ?_
      refine F_goto (tgt := 13) (by decide) (dk_X7_goDay 111 _ rfl) ?_
      exact F_loc (List.forall_mem_cons.mpr ⟨(.tail _ (.head _)), (List.forall_mem_cons.mpr ⟨(.tail _ (.tail _ (.head _))), (List.forall_mem_cons.mpr ⟨(.tail _ (.tail _ (.tail _ (.head _)))), (List.forall_mem_cons.mpr ⟨(.head _), (fun _ z => absurd z List.not_mem_nil)⟩)⟩)⟩)⟩) (hK13 _ _ _ _ )
    · refine F_aload_n (i := 0) (a := 0) rfl rfl (dk_X7_goDay 30 _ rfl) ?_
      refine F_iload_n (i := 3) (a := 3) rfl rfl (dk_X7_goDay 31 _ rfl) ?_
      refine F_callV (ι' := uI) (ci := 7) (b := 0) (As := [.int y3]) (d' := 6) (rfl) ok_X7_sells vi_X7_sells cl_7_288 (n := 1) (by decide +kernel) rfl rfl rfl (Nat.le_of_ble_eq_true rfl) (by omega) (dk_X7_goDay 32 _ rfl) (c_X7_sells _ _ ) (fun x17 m18 => ?_)
      show JF _ _ _ _ _ _ [.int x17] _ _
      refine F_aload_n (i := 0) (a := 0) rfl rfl (dk_X7_goDay 35 _ rfl) ?_
      refine F_gI (n := 1) fxM_7_1_0 rfl fl_7_13 (dk_X7_goDay 36 _ rfl) ?_
      refine F_icmp_eq (tgt := 45) (by decide) (dk_X7_goDay 39 _ rfl) ?_ ?_
      · refine F_aload_n (i := 0) (a := 0) rfl rfl (dk_X7_goDay 45 _ rfl) ?_
        refine F_iload_n (i := 3) (a := 3) rfl rfl (dk_X7_goDay 46 _ rfl) ?_
        refine F_aload_n (i := 0) (a := 0) rfl rfl (dk_X7_goDay 47 _ rfl) ?_
        refine F_gI (n := 1) fxM_7_1_0 rfl fl_7_13 (dk_X7_goDay 48 _ rfl) ?_
        refine F_callV (ι' := uI) (ci := 7) (b := 0) (As := [.int y3, .int (mI m18 1)]) (d' := 5) (rfl) ok_X7_takesOf vi_X7_takesOf cl_7_295 (n := 2) (by decide +kernel) rfl rfl rfl (Nat.le_of_ble_eq_true rfl) (by omega) (dk_X7_goDay 51 _ rfl) (c_X7_takesOf _ _ _ ) (fun x20 m21 => ?_)
        show JF _ _ _ _ _ _ [.int x20] _ _
        refine F_istore (lv' := [(4, .int x20), (0, .ref 0), (1, .int y1), (2, .int y2), (3, .int y3)]) (i := 4) (by decide) rfl (dk_X7_goDay 54 _ rfl) ?_
        refine F_iload_n (i := 1) (a := 1) rfl rfl (dk_X7_goDay 56 _ rfl) ?_
        refine F_if_ne (tgt := 64) (by decide) (dk_X7_goDay 57 _ rfl) ?_ ?_
        · refine F_aload_n (i := 0) (a := 0) rfl rfl (dk_X7_goDay 64 _ rfl) ?_
          refine F_callV (ι' := uI) (ci := 7) (b := 0) (As := []) (d' := 4) (rfl) ok_X7_dueNow vi_X7_dueNow cl_7_304 (n := 0) (by decide +kernel) rfl rfl rfl (Nat.le_of_ble_eq_true rfl) (by omega) (dk_X7_goDay 65 _ rfl) (c_X7_dueNow _  ) (fun x23 m24 => ?_)
          show JF _ _ _ _ _ _ [.int x23] _ _
          refine F_iload (i := 4) rfl (dk_X7_goDay 68 _ rfl) ?_
          refine F_imul (dk_X7_goDay 70 _ rfl) ?_
          refine F_bipush (v := 100) (by decide) (dk_X7_goDay 71 _ rfl) ?_
          refine F_idiv (dk_X7_goDay 73 _ rfl) (fun x26 => ?_)
          exact F_loc (List.forall_mem_cons.mpr ⟨(.tail _ (.head _)), (List.forall_mem_cons.mpr ⟨(.tail _ (.tail _ (.head _))), (List.forall_mem_cons.mpr ⟨(.tail _ (.tail _ (.tail _ (.head _)))), (List.forall_mem_cons.mpr ⟨(.tail _ (.tail _ (.tail _ (.tail _ (.head _))))), (List.forall_mem_cons.mpr ⟨(.head _), (fun _ z => absurd z List.not_mem_nil)⟩)⟩)⟩)⟩)⟩) (j_X7_goDay_74 K13 hK13 _ _ _ _ _ _ )
        · refine F_iconst (v := 0) (by decide) (dk_X7_goDay 60 _ rfl) ?_
          refine F_goto (tgt := 74) (by decide) (dk_X7_goDay 61 _ rfl) ?_
          exact F_loc (List.forall_mem_cons.mpr ⟨(.tail _ (.head _)), (List.forall_mem_cons.mpr ⟨(.tail _ (.tail _ (.head _))), (List.forall_mem_cons.mpr ⟨(.tail _ (.tail _ (.tail _ (.head _)))), (List.forall_mem_cons.mpr ⟨(.tail _ (.tail _ (.tail _ (.tail _ (.head _))))), (List.forall_mem_cons.mpr ⟨(.head _), (fun _ z => absurd z List.not_mem_nil)⟩)⟩)⟩)⟩)⟩) (j_X7_goDay_74 K13 hK13 _ _ _ _ _ _ )
      · refine F_goto (tgt := 108) (by decide) (dk_X7_goDay 42 _ rfl) ?_
        refine F_iinc (i := 3) (n := 1) (v := (y3 + 1)) (lv' := [(3, .int (y3 + 1)), (0, .ref 0), (1, .int y1), (2, .int y2)]) rfl (by first | rfl | decide) (by decide) rfl (dk_X7_goDay 108 _ rfl) ?_
        refine F_goto (tgt := 13) (by decide) (dk_X7_goDay 111 _ rfl) ?_
        exact F_loc (List.forall_mem_cons.mpr ⟨(.tail _ (.head _)), (List.forall_mem_cons.mpr ⟨(.tail _ (.tail _ (.head _))), (List.forall_mem_cons.mpr ⟨(.tail _ (.tail _ (.tail _ (.head _)))), (List.forall_mem_cons.mpr ⟨(.head _), (fun _ z => absurd z List.not_mem_nil)⟩)⟩)⟩)⟩) (hK13 _ _ _ _ )
theorem j_X7_goDay_13   : ∀ (F : Nat) (m : mM) (y1 : Int32) (y2 : Int32) (y3 : Int32) , JF false uI m_X7_goDay 8 13 [(0, .ref 0), (1, .int y1), (2, .int y2), (3, .int y3)] [] m (f_X7_goDay_13  F m y1 y2 y3) := by
  intro F
  induction F with
  | zero => intro m y1 y2 y3 ; exact F_no
  | succ F ih => intro m y1 y2 y3 ; exact jb_X7_goDay_13  (f_X7_goDay_13  F)  ih m y1 y2 y3 
def f_X7_goDay (m : mM)  : fR Int32 :=
  bnd (f_X7_manyBorn m (mI m 1)) fun (x1 : Int32) (m2 : mM) => (f_X7_goDay_13  1000 m2 x1 0 0)
theorem c_X7_goDay (m : mM)   : cF false uI m_X7_goDay 8 [.ref 0] m (f_X7_goDay m ) := by
  refine cF_of ok_X7_goDay (fun _ _ => Nat.le_of_ble_eq_true rfl) ?_
  unfold f_X7_goDay
  show JF _ _ _ _ _ [(0, .ref 0)] _ _ _
  refine F_aload_n (i := 0) (a := 0) rfl rfl (dk_X7_goDay 0 _ rfl) ?_
  refine F_aload_n (i := 0) (a := 0) rfl rfl (dk_X7_goDay 1 _ rfl) ?_
  refine F_gI (n := 1) fxM_7_1_0 rfl fl_7_13 (dk_X7_goDay 2 _ rfl) ?_
  refine F_callV (ι' := uI) (ci := 7) (b := 0) (As := [.int (mI m 1)]) (d' := 2) (rfl) ok_X7_manyBorn vi_X7_manyBorn cl_7_266 (n := 1) (by decide +kernel) rfl rfl rfl (Nat.le_of_ble_eq_true rfl) (by omega) (dk_X7_goDay 5 _ rfl) (c_X7_manyBorn _ _ ) (fun x1 m2 => ?_)
  show JF _ _ _ _ _ _ [.int x1] _ _
  refine F_istore_n (lv' := [(1, .int x1), (0, .ref 0)]) (i := 1) (a := 1) rfl (by decide) rfl (dk_X7_goDay 8 _ rfl) ?_
  refine F_iconst (v := 0) (by decide) (dk_X7_goDay 9 _ rfl) ?_
  refine F_istore_n (lv' := [(2, .int 0), (1, .int x1), (0, .ref 0)]) (i := 2) (a := 2) rfl (by decide) rfl (dk_X7_goDay 10 _ rfl) ?_
  refine F_iconst (v := 0) (by decide) (dk_X7_goDay 11 _ rfl) ?_
  refine F_istore_n (lv' := [(3, .int 0), (2, .int 0), (1, .int x1), (0, .ref 0)]) (i := 3) (a := 3) rfl (by decide) rfl (dk_X7_goDay 12 _ rfl) ?_
  exact F_loc (List.forall_mem_cons.mpr ⟨(.tail _ (.tail _ (.tail _ (.head _)))), (List.forall_mem_cons.mpr ⟨(.tail _ (.tail _ (.head _))), (List.forall_mem_cons.mpr ⟨(.tail _ (.head _)), (List.forall_mem_cons.mpr ⟨(.head _), (fun _ z => absurd z List.not_mem_nil)⟩)⟩)⟩)⟩) (j_X7_goDay_13   1000 _ _ _ _ )
def f_X7_day_24  (m : mM)  : fR Int32 :=
  bnd (f_X7_goDay m ) fun (x1 : Int32) (m2 : mM) => some (x1, m2)
theorem j_X7_day_24   (m : mM)   : JF false uI m_X7_day 9 24 [(0, .ref 0)] [] m (f_X7_day_24  m ) := by
  unfold f_X7_day_24
  refine F_aload_n (i := 0) (a := 0) rfl rfl (dk_X7_day 24 _ rfl) ?_
  refine F_callV (ι' := uI) (ci := 7) (b := 0) (As := []) (d' := 8) (rfl) ok_X7_goDay vi_X7_goDay cl_7_310 (n := 0) (by decide +kernel) rfl rfl rfl (Nat.le_of_ble_eq_true rfl) (by omega) (dk_X7_day 25 _ rfl) (c_X7_goDay _  ) (fun x1 m2 => ?_)
  show JF _ _ _ _ _ _ [.int x1] _ _
  exact F_ret rfl (dk_X7_day 28 _ rfl)
def f_X7_day (m : mM)  : fR Int32 :=
  (if (mI m 1) = 11 then (if (mI m 2) = 999 then some ((-3), m) else (f_X7_day_24  m )) else (f_X7_day_24  m ))
theorem c_X7_day (m : mM)   : cF false uI m_X7_day 9 [.ref 0] m (f_X7_day m ) := by
  refine cF_of ok_X7_day (fun _ _ => Nat.le_of_ble_eq_true rfl) ?_
  unfold f_X7_day
  show JF _ _ _ _ _ [(0, .ref 0)] _ _ _
  refine F_aload_n (i := 0) (a := 0) rfl rfl (dk_X7_day 0 _ rfl) ?_
  refine F_gI (n := 1) fxM_7_1_0 rfl fl_7_13 (dk_X7_day 1 _ rfl) ?_
  refine F_bipush (v := 11) (by decide) (dk_X7_day 4 _ rfl) ?_
  refine F_icmp_ne (tgt := 24) (by decide) (dk_X7_day 6 _ rfl) ?_ ?_
  · exact F_loc (fun _ z => z) (j_X7_day_24   _  )
  · refine F_aload_n (i := 0) (a := 0) rfl rfl (dk_X7_day 9 _ rfl) ?_
    refine F_gI (n := 2) fxM_7_2_0 rfl fl_7_16 (dk_X7_day 10 _ rfl) ?_
    refine F_sipush (v := 999) (by decide) (dk_X7_day 13 _ rfl) ?_
    refine F_icmp_ne (tgt := 24) (by decide) (dk_X7_day 16 _ rfl) ?_ ?_
    · exact F_loc (fun _ z => z) (j_X7_day_24   _  )
    · refine F_bipush (v := (-3)) (by decide) (dk_X7_day 19 _ rfl) ?_
      refine F_goto (tgt := 28) (by decide) (dk_X7_day 21 _ rfl) ?_
      exact F_ret rfl (dk_X7_day 28 _ rfl)
def fb_X7_keep_2 (K2 : mM → Int32 → fR Unit) (m : mM) (y1 : Int32) : fR Unit :=
  (if 7 ≤ y1 then nmM (wI m 31 (mI m 1)) fun m1 => nmM (wI m1 32 (mI m1 2)) fun m2 => some ((), m2) else (gA (mA m 5) y1).bind fun x3 => (sA 0 m 19 y1 x3).bind fun m4 => (sA 0 m4 18 y1 0).bind fun m5 => (K2 m5 (y1 + 1)))
def f_X7_keep_2  : Nat → mM → Int32 → fR Unit
  | 0, _, _ => none
  | F + 1, m, y1 => fb_X7_keep_2  (f_X7_keep_2  F) m y1
theorem jb_X7_keep_2 (K2 : mM → Int32 → fR Unit) (hK2 : ∀ (m : mM) (y1 : Int32) , JF false uU m_X7_keep 2 2 [(0, .ref 0), (1, .int y1)] [] m (K2 m y1)) (m : mM) (y1 : Int32)  : JF false uU m_X7_keep 2 2 [(0, .ref 0), (1, .int y1)] [] m (fb_X7_keep_2 K2 m y1) := by
  unfold fb_X7_keep_2
  refine F_iload_n (i := 1) (a := 1) rfl rfl (dk_X7_keep 2 _ rfl) ?_
  refine F_bipush (v := 7) (by decide) (dk_X7_keep 3 _ rfl) ?_
  refine F_icmp_ge (tgt := 33) (by decide) (dk_X7_keep 5 _ rfl) ?_ ?_
  · refine F_aload_n (i := 0) (a := 0) rfl rfl (dk_X7_keep 33 _ rfl) ?_
    refine F_aload_n (i := 0) (a := 0) rfl rfl (dk_X7_keep 34 _ rfl) ?_
    refine F_gI (n := 1) fxM_7_1_0 rfl fl_7_13 (dk_X7_keep 35 _ rfl) ?_
    refine F_pI (n := 31) fxM_7_31_0 rfl fl_7_105 (fun q hq => by cases hq; rfl) trivial (dk_X7_keep 38 _ rfl) (fun m1 => ?_)
    refine F_aload_n (i := 0) (a := 0) rfl rfl (dk_X7_keep 41 _ rfl) ?_
    refine F_aload_n (i := 0) (a := 0) rfl rfl (dk_X7_keep 42 _ rfl) ?_
    refine F_gI (n := 2) fxM_7_2_0 rfl fl_7_16 (dk_X7_keep 43 _ rfl) ?_
    refine F_pI (n := 32) fxM_7_32_0 rfl fl_7_108 (fun q hq => by cases hq; rfl) trivial (dk_X7_keep 46 _ rfl) (fun m2 => ?_)
    exact F_retV rfl (dk_X7_keep 49 _ rfl)
  · refine F_aload_n (i := 0) (a := 0) rfl rfl (dk_X7_keep 8 _ rfl) ?_
    refine F_gR (b := 19) fxM_7_30_0 fl_7_102 (dk_X7_keep 9 _ rfl) ?_
    refine F_iload_n (i := 1) (a := 1) rfl rfl (dk_X7_keep 12 _ rfl) ?_
    refine F_aload_n (i := 0) (a := 0) rfl rfl (dk_X7_keep 13 _ rfl) ?_
    refine F_gR (b := 5) fxM_7_7_0 fl_7_32 (dk_X7_keep 14 _ rfl) ?_
    refine F_iload_n (i := 1) (a := 1) rfl rfl (dk_X7_keep 17 _ rfl) ?_
    refine F_iald (axM_0_5) (dk_X7_keep 18 _ rfl) (fun x3 => ?_)
    refine F_iast (axM_0_19) (dk_X7_keep 19 _ rfl) (fun m4 => ?_)
    refine F_aload_n (i := 0) (a := 0) rfl rfl (dk_X7_keep 20 _ rfl) ?_
    refine F_gR (b := 18) fxM_7_29_0 fl_7_99 (dk_X7_keep 21 _ rfl) ?_
    refine F_iload_n (i := 1) (a := 1) rfl rfl (dk_X7_keep 24 _ rfl) ?_
    refine F_iconst (v := 0) (by decide) (dk_X7_keep 25 _ rfl) ?_
    refine F_iast (axM_0_18) (dk_X7_keep 26 _ rfl) (fun m5 => ?_)
    refine F_iinc (i := 1) (n := 1) (v := (y1 + 1)) (lv' := [(1, .int (y1 + 1)), (0, .ref 0)]) rfl (by first | rfl | decide) (by decide) rfl (dk_X7_keep 27 _ rfl) ?_
    refine F_goto (tgt := 2) (by decide) (dk_X7_keep 30 _ rfl) ?_
    exact F_loc (List.forall_mem_cons.mpr ⟨(.tail _ (.head _)), (List.forall_mem_cons.mpr ⟨(.head _), (fun _ z => absurd z List.not_mem_nil)⟩)⟩) (hK2 _ _ )
theorem j_X7_keep_2   : ∀ (F : Nat) (m : mM) (y1 : Int32) , JF false uU m_X7_keep 2 2 [(0, .ref 0), (1, .int y1)] [] m (f_X7_keep_2  F m y1) := by
  intro F
  induction F with
  | zero => intro m y1 ; exact F_no
  | succ F ih => intro m y1 ; exact jb_X7_keep_2  (f_X7_keep_2  F)  ih m y1 
def f_X7_keep (m : mM)  : fR Unit :=
  (f_X7_keep_2  1000 m 0)
theorem c_X7_keep (m : mM)   : cF false uU m_X7_keep 2 [.ref 0] m (f_X7_keep m ) := by
  refine cF_of ok_X7_keep (fun _ _ => Nat.le_of_ble_eq_true rfl) ?_
  unfold f_X7_keep
  show JF _ _ _ _ _ [(0, .ref 0)] _ _ _
  refine F_iconst (v := 0) (by decide) (dk_X7_keep 0 _ rfl) ?_
  refine F_istore_n (lv' := [(1, .int 0), (0, .ref 0)]) (i := 1) (a := 1) rfl (by decide) rfl (dk_X7_keep 1 _ rfl) ?_
  exact F_loc (List.forall_mem_cons.mpr ⟨(.tail _ (.head _)), (List.forall_mem_cons.mpr ⟨(.head _), (fun _ z => absurd z List.not_mem_nil)⟩)⟩) (j_X7_keep_2   1000 _ _ )
def fb_X7_putBack_2 (K2 : mM → Int32 → fR Unit) (m : mM) (y1 : Int32) : fR Unit :=
  (if 7 ≤ y1 then nmM (wI m 1 (mI m 31)) fun m1 => nmM (wI m1 2 (mI m1 32)) fun m2 => some ((), m2) else (gA (mA m 19) y1).bind fun x3 => (sA 0 m 5 y1 x3).bind fun m4 => (K2 m4 (y1 + 1)))
def f_X7_putBack_2  : Nat → mM → Int32 → fR Unit
  | 0, _, _ => none
  | F + 1, m, y1 => fb_X7_putBack_2  (f_X7_putBack_2  F) m y1
theorem jb_X7_putBack_2 (K2 : mM → Int32 → fR Unit) (hK2 : ∀ (m : mM) (y1 : Int32) , JF false uU m_X7_putBack 2 2 [(0, .ref 0), (1, .int y1)] [] m (K2 m y1)) (m : mM) (y1 : Int32)  : JF false uU m_X7_putBack 2 2 [(0, .ref 0), (1, .int y1)] [] m (fb_X7_putBack_2 K2 m y1) := by
  unfold fb_X7_putBack_2
  refine F_iload_n (i := 1) (a := 1) rfl rfl (dk_X7_putBack 2 _ rfl) ?_
  refine F_bipush (v := 7) (by decide) (dk_X7_putBack 3 _ rfl) ?_
  refine F_icmp_ge (tgt := 26) (by decide) (dk_X7_putBack 5 _ rfl) ?_ ?_
  · refine F_aload_n (i := 0) (a := 0) rfl rfl (dk_X7_putBack 26 _ rfl) ?_
    refine F_aload_n (i := 0) (a := 0) rfl rfl (dk_X7_putBack 27 _ rfl) ?_
    refine F_gI (n := 31) fxM_7_31_0 rfl fl_7_105 (dk_X7_putBack 28 _ rfl) ?_
    refine F_pI (n := 1) fxM_7_1_0 rfl fl_7_13 (fun q hq => by cases hq; rfl) trivial (dk_X7_putBack 31 _ rfl) (fun m1 => ?_)
    refine F_aload_n (i := 0) (a := 0) rfl rfl (dk_X7_putBack 34 _ rfl) ?_
    refine F_aload_n (i := 0) (a := 0) rfl rfl (dk_X7_putBack 35 _ rfl) ?_
    refine F_gI (n := 32) fxM_7_32_0 rfl fl_7_108 (dk_X7_putBack 36 _ rfl) ?_
    refine F_pI (n := 2) fxM_7_2_0 rfl fl_7_16 (fun q hq => by cases hq; rfl) trivial (dk_X7_putBack 39 _ rfl) (fun m2 => ?_)
    exact F_retV rfl (dk_X7_putBack 42 _ rfl)
  · refine F_aload_n (i := 0) (a := 0) rfl rfl (dk_X7_putBack 8 _ rfl) ?_
    refine F_gR (b := 5) fxM_7_7_0 fl_7_32 (dk_X7_putBack 9 _ rfl) ?_
    refine F_iload_n (i := 1) (a := 1) rfl rfl (dk_X7_putBack 12 _ rfl) ?_
    refine F_aload_n (i := 0) (a := 0) rfl rfl (dk_X7_putBack 13 _ rfl) ?_
    refine F_gR (b := 19) fxM_7_30_0 fl_7_102 (dk_X7_putBack 14 _ rfl) ?_
    refine F_iload_n (i := 1) (a := 1) rfl rfl (dk_X7_putBack 17 _ rfl) ?_
    refine F_iald (axM_0_19) (dk_X7_putBack 18 _ rfl) (fun x3 => ?_)
    refine F_iast (axM_0_5) (dk_X7_putBack 19 _ rfl) (fun m4 => ?_)
    refine F_iinc (i := 1) (n := 1) (v := (y1 + 1)) (lv' := [(1, .int (y1 + 1)), (0, .ref 0)]) rfl (by first | rfl | decide) (by decide) rfl (dk_X7_putBack 20 _ rfl) ?_
    refine F_goto (tgt := 2) (by decide) (dk_X7_putBack 23 _ rfl) ?_
    exact F_loc (List.forall_mem_cons.mpr ⟨(.tail _ (.head _)), (List.forall_mem_cons.mpr ⟨(.head _), (fun _ z => absurd z List.not_mem_nil)⟩)⟩) (hK2 _ _ )
theorem j_X7_putBack_2   : ∀ (F : Nat) (m : mM) (y1 : Int32) , JF false uU m_X7_putBack 2 2 [(0, .ref 0), (1, .int y1)] [] m (f_X7_putBack_2  F m y1) := by
  intro F
  induction F with
  | zero => intro m y1 ; exact F_no
  | succ F ih => intro m y1 ; exact jb_X7_putBack_2  (f_X7_putBack_2  F)  ih m y1 
def f_X7_putBack (m : mM)  : fR Unit :=
  (f_X7_putBack_2  1000 m 0)
theorem c_X7_putBack (m : mM)   : cF false uU m_X7_putBack 2 [.ref 0] m (f_X7_putBack m ) := by
  refine cF_of ok_X7_putBack (fun _ _ => Nat.le_of_ble_eq_true rfl) ?_
  unfold f_X7_putBack
  show JF _ _ _ _ _ [(0, .ref 0)] _ _ _
  refine F_iconst (v := 0) (by decide) (dk_X7_putBack 0 _ rfl) ?_
  refine F_istore_n (lv' := [(1, .int 0), (0, .ref 0)]) (i := 1) (a := 1) rfl (by decide) rfl (dk_X7_putBack 1 _ rfl) ?_
  exact F_loc (List.forall_mem_cons.mpr ⟨(.tail _ (.head _)), (List.forall_mem_cons.mpr ⟨(.head _), (fun _ z => absurd z List.not_mem_nil)⟩)⟩) (j_X7_putBack_2   1000 _ _ )
def f_X7_by_81  (m : mM) (y100 : Int32) : fR Int32 :=
  bnd (f_X7_putBack m ) fun (x14 : Unit) (m15 : mM) => some (y100, m15)
theorem j_X7_by_81   (m : mM) (y100 : Int32)  : JF false uI m_X7_by 9 81 [(0, .ref 0)] [.int y100] m (f_X7_by_81  m y100) := by
  unfold f_X7_by_81
  refine F_istore (lv' := [(4, .int y100), (0, .ref 0)]) (i := 4) (by decide) rfl (dk_X7_by 81 _ rfl) ?_
  refine F_aload_n (i := 0) (a := 0) rfl rfl (dk_X7_by 83 _ rfl) ?_
  refine F_callV (ι' := uU) (ci := 7) (b := 0) (As := []) (d' := 2) (rfl) ok_X7_putBack vi_X7_putBack cl_7_317 (n := 0) (by decide +kernel) rfl rfl rfl (Nat.le_of_ble_eq_true rfl) (by omega) (dk_X7_by 84 _ rfl) (c_X7_putBack _  ) (fun x14 m15 => ?_)
  show JF _ _ _ _ _ _ [] _ _
  refine F_iload (i := 4) rfl (dk_X7_by 87 _ rfl) ?_
  exact F_ret rfl (dk_X7_by 89 _ rfl)
def fb_X7_by_44 (K44 : mM → Int32 → Int32 → Int32 → Int32 → fR Int32) (m : mM) (y1 : Int32) (y2 : Int32) (y3 : Int32) (y4 : Int32) : fR Int32 :=
  (if y2 ≤ y4 then (if y3 = 0 then (gA (mA m 5) y1).bind fun x17 => (f_X7_by_81  m x17) else (gA (mA m 18) y1).bind fun x13 => (f_X7_by_81  m x13)) else bnd (f_X7_goDay m ) fun (x18 : Int32) (m19 : mM) => (K44 m19 y1 y2 y3 (y4 + 1)))
def f_X7_by_44  : Nat → mM → Int32 → Int32 → Int32 → Int32 → fR Int32
  | 0, _, _, _, _, _ => none
  | F + 1, m, y1, y2, y3, y4 => fb_X7_by_44  (f_X7_by_44  F) m y1 y2 y3 y4
theorem jb_X7_by_44 (K44 : mM → Int32 → Int32 → Int32 → Int32 → fR Int32) (hK44 : ∀ (m : mM) (y1 : Int32) (y2 : Int32) (y3 : Int32) (y4 : Int32) , JF false uI m_X7_by 9 44 [(0, .ref 0), (1, .int y1), (2, .int y2), (3, .int y3), (4, .int y4)] [] m (K44 m y1 y2 y3 y4)) (m : mM) (y1 : Int32) (y2 : Int32) (y3 : Int32) (y4 : Int32)  : JF false uI m_X7_by 9 44 [(0, .ref 0), (1, .int y1), (2, .int y2), (3, .int y3), (4, .int y4)] [] m (fb_X7_by_44 K44 m y1 y2 y3 y4) := by
  unfold fb_X7_by_44
  refine F_iload (i := 4) rfl (dk_X7_by 44 _ rfl) ?_
  refine F_iload_n (i := 2) (a := 2) rfl rfl (dk_X7_by 46 _ rfl) ?_
  refine F_icmp_ge (tgt := 62) (by decide) (dk_X7_by 47 _ rfl) ?_ ?_
  · refine F_iload_n (i := 3) (a := 3) rfl rfl (dk_X7_by 62 _ rfl) ?_
    refine F_if_ne (tgt := 75) (by decide) (dk_X7_by 63 _ rfl) ?_ ?_
    · refine F_aload_n (i := 0) (a := 0) rfl rfl (dk_X7_by 75 _ rfl) ?_
      refine F_gR (b := 18) fxM_7_29_0 fl_7_99 (dk_X7_by 76 _ rfl) ?_
      refine F_iload_n (i := 1) (a := 1) rfl rfl (dk_X7_by 79 _ rfl) ?_
      refine F_iald (axM_0_18) (dk_X7_by 80 _ rfl) (fun x13 => ?_)
      exact F_loc (List.forall_mem_cons.mpr ⟨(.head _), (fun _ z => absurd z List.not_mem_nil)⟩) (j_X7_by_81   _ _ )
    · refine F_aload_n (i := 0) (a := 0) rfl rfl (dk_X7_by 66 _ rfl) ?_
      refine F_gR (b := 5) fxM_7_7_0 fl_7_32 (dk_X7_by 67 _ rfl) ?_
      refine F_iload_n (i := 1) (a := 1) rfl rfl (dk_X7_by 70 _ rfl) ?_
      refine F_iald (axM_0_5) (dk_X7_by 71 _ rfl) (fun x17 => ?_)
      refine F_goto (tgt := 81) (by decide) (dk_X7_by 72 _ rfl) ?_
      exact F_loc (List.forall_mem_cons.mpr ⟨(.head _), (fun _ z => absurd z List.not_mem_nil)⟩) (j_X7_by_81   _ _ )
  · refine F_aload_n (i := 0) (a := 0) rfl rfl (dk_X7_by 50 _ rfl) ?_
    refine F_callV (ι' := uI) (ci := 7) (b := 0) (As := []) (d' := 8) (rfl) ok_X7_goDay vi_X7_goDay cl_7_310 (n := 0) (by decide +kernel) rfl rfl rfl (Nat.le_of_ble_eq_true rfl) (by omega) (dk_X7_by 51 _ rfl) (c_X7_goDay _  ) (fun x18 m19 => ?_)
    show JF _ _ _ _ _ _ [.int x18] _ _
    refine F_istore (lv' := [(5, .int x18), (0, .ref 0), (1, .int y1), (2, .int y2), (3, .int y3), (4, .int y4)]) (i := 5) (by decide) rfl (dk_X7_by 54 _ rfl) ?_
    refine F_iinc (i := 4) (n := 1) (v := (y4 + 1)) (lv' := [(4, .int (y4 + 1)), (5, .int x18), (0, .ref 0), (1, .int y1), (2, .int y2), (3, .int y3)]) rfl (by first | rfl | decide) (by decide) rfl (dk_X7_by 56 _ rfl) ?_
    refine F_goto (tgt := 44) (by decide) (dk_X7_by 59 _ rfl) ?_
    exact F_loc (List.forall_mem_cons.mpr ⟨(.tail _ (.tail _ (.head _))), (List.forall_mem_cons.mpr ⟨(.tail _ (.tail _ (.tail _ (.head _)))), (List.forall_mem_cons.mpr ⟨(.tail _ (.tail _ (.tail _ (.tail _ (.head _))))), (List.forall_mem_cons.mpr ⟨(.tail _ (.tail _ (.tail _ (.tail _ (.tail _ (.head _)))))), (List.forall_mem_cons.mpr ⟨(.head _), (fun _ z => absurd z List.not_mem_nil)⟩)⟩)⟩)⟩)⟩) (hK44 _ _ _ _ _ )
theorem j_X7_by_44   : ∀ (F : Nat) (m : mM) (y1 : Int32) (y2 : Int32) (y3 : Int32) (y4 : Int32) , JF false uI m_X7_by 9 44 [(0, .ref 0), (1, .int y1), (2, .int y2), (3, .int y3), (4, .int y4)] [] m (f_X7_by_44  F m y1 y2 y3 y4) := by
  intro F
  induction F with
  | zero => intro m y1 y2 y3 y4 ; exact F_no
  | succ F ih => intro m y1 y2 y3 y4 ; exact jb_X7_by_44  (f_X7_by_44  F)  ih m y1 y2 y3 y4 
def f_X7_by (m : mM) (p1 : Int32) (p2 : Int32) (p3 : Int32) : fR Int32 :=
  bnd (f_X7_isPerson m p1) fun (x1 : Int32) (m2 : mM) => (if x1 = 0 then some ((-10000001), m2) else bnd (f_X7_in m2 p3 0 1) fun (x4 : Int32) (m5 : mM) => (if x4 = 0 then some ((-10000001), m5) else bnd (f_X7_in m5 p2 0 60) fun (x7 : Int32) (m8 : mM) => (if x7 = 0 then some ((-10000002), m8) else bnd (f_X7_keep m8 ) fun (x10 : Unit) (m11 : mM) => (f_X7_by_44  1000 m11 p1 p2 p3 0))))
theorem c_X7_by (m : mM) (p1 : Int32) (p2 : Int32) (p3 : Int32)  : cF false uI m_X7_by 9 [.ref 0, .int p1, .int p2, .int p3] m (f_X7_by m p1 p2 p3) := by
  refine cF_of ok_X7_by (fun _ _ => Nat.le_of_ble_eq_true rfl) ?_
  unfold f_X7_by
  show JF _ _ _ _ _ [(0, .ref 0), (1, .int p1), (2, .int p2), (3, .int p3)] _ _ _
  refine F_aload_n (i := 0) (a := 0) rfl rfl (dk_X7_by 0 _ rfl) ?_
  refine F_iload_n (i := 1) (a := 1) rfl rfl (dk_X7_by 1 _ rfl) ?_
  refine F_callV (ι' := uI) (ci := 7) (b := 0) (As := [.int p1]) (d' := 3) (rfl) ok_X7_isPerson vi_X7_isPerson cl_7_206 (n := 1) (by decide +kernel) rfl rfl rfl (Nat.le_of_ble_eq_true rfl) (by omega) (dk_X7_by 2 _ rfl) (c_X7_isPerson _ _ ) (fun x1 m2 => ?_)
  show JF _ _ _ _ _ _ [.int x1] _ _
  refine F_if_eq (tgt := 18) (by decide) (dk_X7_by 5 _ rfl) ?_ ?_
  · refine F_ldcw (v := (-10000001)) ct_7_291 (dk_X7_by 18 _ rfl) ?_
    exact F_ret rfl (dk_X7_by 21 _ rfl)
  · refine F_aload_n (i := 0) (a := 0) rfl rfl (dk_X7_by 8 _ rfl) ?_
    refine F_iload_n (i := 3) (a := 3) rfl rfl (dk_X7_by 9 _ rfl) ?_
    refine F_iconst (v := 0) (by decide) (dk_X7_by 10 _ rfl) ?_
    refine F_iconst (v := 1) (by decide) (dk_X7_by 11 _ rfl) ?_
    refine F_callV (ι' := uI) (ci := 7) (b := 0) (As := [.int p3, .int 0, .int 1]) (d' := 2) (rfl) ok_X7_in vi_X7_in cl_7_194 (n := 3) (by decide +kernel) rfl rfl rfl (Nat.le_of_ble_eq_true rfl) (by omega) (dk_X7_by 12 _ rfl) (c_X7_in _ _ _ _ ) (fun x4 m5 => ?_)
    show JF _ _ _ _ _ _ [.int x4] _ _
    refine F_if_ne (tgt := 22) (by decide) (dk_X7_by 15 _ rfl) ?_ ?_
    · refine F_aload_n (i := 0) (a := 0) rfl rfl (dk_X7_by 22 _ rfl) ?_
      refine F_iload_n (i := 2) (a := 2) rfl rfl (dk_X7_by 23 _ rfl) ?_
      refine F_iconst (v := 0) (by decide) (dk_X7_by 24 _ rfl) ?_
      refine F_bipush (v := 60) (by decide) (dk_X7_by 25 _ rfl) ?_
      refine F_callV (ι' := uI) (ci := 7) (b := 0) (As := [.int p2, .int 0, .int 60]) (d' := 2) (rfl) ok_X7_in vi_X7_in cl_7_194 (n := 3) (by decide +kernel) rfl rfl rfl (Nat.le_of_ble_eq_true rfl) (by omega) (dk_X7_by 27 _ rfl) (c_X7_in _ _ _ _ ) (fun x7 m8 => ?_)
      show JF _ _ _ _ _ _ [.int x7] _ _
      refine F_if_ne (tgt := 37) (by decide) (dk_X7_by 30 _ rfl) ?_ ?_
      · refine F_aload_n (i := 0) (a := 0) rfl rfl (dk_X7_by 37 _ rfl) ?_
        refine F_callV (ι' := uU) (ci := 7) (b := 0) (As := []) (d' := 2) (rfl) ok_X7_keep vi_X7_keep cl_7_314 (n := 0) (by decide +kernel) rfl rfl rfl (Nat.le_of_ble_eq_true rfl) (by omega) (dk_X7_by 38 _ rfl) (c_X7_keep _  ) (fun x10 m11 => ?_)
        show JF _ _ _ _ _ _ [] _ _
        refine F_iconst (v := 0) (by decide) (dk_X7_by 41 _ rfl) ?_
        refine F_istore (lv' := [(4, .int 0), (0, .ref 0), (1, .int p1), (2, .int p2), (3, .int p3)]) (i := 4) (by decide) rfl (dk_X7_by 42 _ rfl) ?_
        exact F_loc (List.forall_mem_cons.mpr ⟨(.tail _ (.head _)), (List.forall_mem_cons.mpr ⟨(.tail _ (.tail _ (.head _))), (List.forall_mem_cons.mpr ⟨(.tail _ (.tail _ (.tail _ (.head _)))), (List.forall_mem_cons.mpr ⟨(.tail _ (.tail _ (.tail _ (.tail _ (.head _))))), (List.forall_mem_cons.mpr ⟨(.head _), (fun _ z => absurd z List.not_mem_nil)⟩)⟩)⟩)⟩)⟩) (j_X7_by_44   1000 _ _ _ _ _ )
      · refine F_ldcw (v := (-10000002)) ct_7_313 (dk_X7_by 33 _ rfl) ?_
        exact F_ret rfl (dk_X7_by 36 _ rfl)
    · refine F_ldcw (v := (-10000001)) ct_7_291 (dk_X7_by 18 _ rfl) ?_
      exact F_ret rfl (dk_X7_by 21 _ rfl)
def fb_X7_layYear_25 (K25 : mM → Int32 → fR Unit) (m : mM) (y1 : Int32) : fR Unit :=
  (if (mI m 0) ≤ y1 then bnd (f_X7_putBack m ) fun (x4 : Unit) (m5 : mM) => some ((), m5) else (gA (mA m 5) y1).bind fun x7 => (gA (mA m 19) y1).bind fun x8 => (sA 0 m 20 y1 (x7 - x8)).bind fun m9 => (K25 m9 (y1 + 1)))
def f_X7_layYear_25  : Nat → mM → Int32 → fR Unit
  | 0, _, _ => none
  | F + 1, m, y1 => fb_X7_layYear_25  (f_X7_layYear_25  F) m y1
theorem jb_X7_layYear_25 (K25 : mM → Int32 → fR Unit) (hK25 : ∀ (m : mM) (y1 : Int32) , JF false uU m_X7_layYear 9 25 [(0, .ref 0), (1, .int y1)] [] m (K25 m y1)) (m : mM) (y1 : Int32)  : JF false uU m_X7_layYear 9 25 [(0, .ref 0), (1, .int y1)] [] m (fb_X7_layYear_25 K25 m y1) := by
  unfold fb_X7_layYear_25
  refine F_iload_n (i := 1) (a := 1) rfl rfl (dk_X7_layYear 25 _ rfl) ?_
  refine F_aload_n (i := 0) (a := 0) rfl rfl (dk_X7_layYear 26 _ rfl) ?_
  refine F_gI (n := 0) fxM_7_0_0 rfl fl_7_7 (dk_X7_layYear 27 _ rfl) ?_
  refine F_icmp_ge (tgt := 58) (by decide) (dk_X7_layYear 30 _ rfl) ?_ ?_
  · refine F_aload_n (i := 0) (a := 0) rfl rfl (dk_X7_layYear 58 _ rfl) ?_
    refine F_callV (ι' := uU) (ci := 7) (b := 0) (As := []) (d' := 2) (rfl) ok_X7_putBack vi_X7_putBack cl_7_317 (n := 0) (by decide +kernel) rfl rfl rfl (Nat.le_of_ble_eq_true rfl) (by omega) (dk_X7_layYear 59 _ rfl) (c_X7_putBack _  ) (fun x4 m5 => ?_)
    show JF _ _ _ _ _ _ [] _ _
    exact F_retV rfl (dk_X7_layYear 62 _ rfl)
  · refine F_aload_n (i := 0) (a := 0) rfl rfl (dk_X7_layYear 33 _ rfl) ?_
    refine F_gR (b := 20) fxM_7_33_0 fl_7_111 (dk_X7_layYear 34 _ rfl) ?_
    refine F_iload_n (i := 1) (a := 1) rfl rfl (dk_X7_layYear 37 _ rfl) ?_
    refine F_aload_n (i := 0) (a := 0) rfl rfl (dk_X7_layYear 38 _ rfl) ?_
    refine F_gR (b := 5) fxM_7_7_0 fl_7_32 (dk_X7_layYear 39 _ rfl) ?_
    refine F_iload_n (i := 1) (a := 1) rfl rfl (dk_X7_layYear 42 _ rfl) ?_
    refine F_iald (axM_0_5) (dk_X7_layYear 43 _ rfl) (fun x7 => ?_)
    refine F_aload_n (i := 0) (a := 0) rfl rfl (dk_X7_layYear 44 _ rfl) ?_
    refine F_gR (b := 19) fxM_7_30_0 fl_7_102 (dk_X7_layYear 45 _ rfl) ?_
    refine F_iload_n (i := 1) (a := 1) rfl rfl (dk_X7_layYear 48 _ rfl) ?_
    refine F_iald (axM_0_19) (dk_X7_layYear 49 _ rfl) (fun x8 => ?_)
    refine F_isub (dk_X7_layYear 50 _ rfl) ?_
    refine F_iast (axM_0_20) (dk_X7_layYear 51 _ rfl) (fun m9 => ?_)
    refine F_iinc (i := 1) (n := 1) (v := (y1 + 1)) (lv' := [(1, .int (y1 + 1)), (0, .ref 0)]) rfl (by first | rfl | decide) (by decide) rfl (dk_X7_layYear 52 _ rfl) ?_
    refine F_goto (tgt := 25) (by decide) (dk_X7_layYear 55 _ rfl) ?_
    exact F_loc (List.forall_mem_cons.mpr ⟨(.tail _ (.head _)), (List.forall_mem_cons.mpr ⟨(.head _), (fun _ z => absurd z List.not_mem_nil)⟩)⟩) (hK25 _ _ )
theorem j_X7_layYear_25   : ∀ (F : Nat) (m : mM) (y1 : Int32) , JF false uU m_X7_layYear 9 25 [(0, .ref 0), (1, .int y1)] [] m (f_X7_layYear_25  F m y1) := by
  intro F
  induction F with
  | zero => intro m y1 ; exact F_no
  | succ F ih => intro m y1 ; exact jb_X7_layYear_25  (f_X7_layYear_25  F)  ih m y1 
def fb_X7_layYear_6 (K6 : mM → Int32 → fR Unit) (m : mM) (y1 : Int32) : fR Unit :=
  (if 12 ≤ y1 then (f_X7_layYear_25  1000 m 0) else bnd (f_X7_goDay m ) fun (x10 : Int32) (m11 : mM) => (K6 m11 (y1 + 1)))
def f_X7_layYear_6  : Nat → mM → Int32 → fR Unit
  | 0, _, _ => none
  | F + 1, m, y1 => fb_X7_layYear_6  (f_X7_layYear_6  F) m y1
theorem jb_X7_layYear_6 (K6 : mM → Int32 → fR Unit) (hK6 : ∀ (m : mM) (y1 : Int32) , JF false uU m_X7_layYear 9 6 [(0, .ref 0), (1, .int y1)] [] m (K6 m y1)) (m : mM) (y1 : Int32)  : JF false uU m_X7_layYear 9 6 [(0, .ref 0), (1, .int y1)] [] m (fb_X7_layYear_6 K6 m y1) := by
  unfold fb_X7_layYear_6
  refine F_iload_n (i := 1) (a := 1) rfl rfl (dk_X7_layYear 6 _ rfl) ?_
  refine F_bipush (v := 12) (by decide) (dk_X7_layYear 7 _ rfl) ?_
  refine F_icmp_ge (tgt := 23) (by decide) (dk_X7_layYear 9 _ rfl) ?_ ?_
  · refine F_iconst (v := 0) (by decide) (dk_X7_layYear 23 _ rfl) ?_
    refine F_istore_n (lv' := [(1, .int 0), (0, .ref 0)]) (i := 1) (a := 1) rfl (by decide) rfl (dk_X7_layYear 24 _ rfl) ?_
    exact F_loc (List.forall_mem_cons.mpr ⟨(.tail _ (.head _)), (List.forall_mem_cons.mpr ⟨(.head _), (fun _ z => absurd z List.not_mem_nil)⟩)⟩) (j_X7_layYear_25   1000 _ _ )
  · refine F_aload_n (i := 0) (a := 0) rfl rfl (dk_X7_layYear 12 _ rfl) ?_
    refine F_callV (ι' := uI) (ci := 7) (b := 0) (As := []) (d' := 8) (rfl) ok_X7_goDay vi_X7_goDay cl_7_310 (n := 0) (by decide +kernel) rfl rfl rfl (Nat.le_of_ble_eq_true rfl) (by omega) (dk_X7_layYear 13 _ rfl) (c_X7_goDay _  ) (fun x10 m11 => ?_)
    show JF _ _ _ _ _ _ [.int x10] _ _
    refine F_istore_n (lv' := [(2, .int x10), (0, .ref 0), (1, .int y1)]) (i := 2) (a := 2) rfl (by decide) rfl (dk_X7_layYear 16 _ rfl) ?_
    refine F_iinc (i := 1) (n := 1) (v := (y1 + 1)) (lv' := [(1, .int (y1 + 1)), (2, .int x10), (0, .ref 0)]) rfl (by first | rfl | decide) (by decide) rfl (dk_X7_layYear 17 _ rfl) ?_
    refine F_goto (tgt := 6) (by decide) (dk_X7_layYear 20 _ rfl) ?_
    exact F_loc (List.forall_mem_cons.mpr ⟨(.tail _ (.tail _ (.head _))), (List.forall_mem_cons.mpr ⟨(.head _), (fun _ z => absurd z List.not_mem_nil)⟩)⟩) (hK6 _ _ )
theorem j_X7_layYear_6   : ∀ (F : Nat) (m : mM) (y1 : Int32) , JF false uU m_X7_layYear 9 6 [(0, .ref 0), (1, .int y1)] [] m (f_X7_layYear_6  F m y1) := by
  intro F
  induction F with
  | zero => intro m y1 ; exact F_no
  | succ F ih => intro m y1 ; exact jb_X7_layYear_6  (f_X7_layYear_6  F)  ih m y1 
def f_X7_layYear (m : mM)  : fR Unit :=
  bnd (f_X7_keep m ) fun (x1 : Unit) (m2 : mM) => (f_X7_layYear_6  1000 m2 0)
theorem c_X7_layYear (m : mM)   : cF false uU m_X7_layYear 9 [.ref 0] m (f_X7_layYear m ) := by
  refine cF_of ok_X7_layYear (fun _ _ => Nat.le_of_ble_eq_true rfl) ?_
  unfold f_X7_layYear
  show JF _ _ _ _ _ [(0, .ref 0)] _ _ _
  refine F_aload_n (i := 0) (a := 0) rfl rfl (dk_X7_layYear 0 _ rfl) ?_
  refine F_callV (ι' := uU) (ci := 7) (b := 0) (As := []) (d' := 2) (rfl) ok_X7_keep vi_X7_keep cl_7_314 (n := 0) (by decide +kernel) rfl rfl rfl (Nat.le_of_ble_eq_true rfl) (by omega) (dk_X7_layYear 1 _ rfl) (c_X7_keep _  ) (fun x1 m2 => ?_)
  show JF _ _ _ _ _ _ [] _ _
  refine F_iconst (v := 0) (by decide) (dk_X7_layYear 4 _ rfl) ?_
  refine F_istore_n (lv' := [(1, .int 0), (0, .ref 0)]) (i := 1) (a := 1) rfl (by decide) rfl (dk_X7_layYear 5 _ rfl) ?_
  exact F_loc (List.forall_mem_cons.mpr ⟨(.tail _ (.head _)), (List.forall_mem_cons.mpr ⟨(.head _), (fun _ z => absurd z List.not_mem_nil)⟩)⟩) (j_X7_layYear_6   1000 _ _ )
def f_X7_yearOf (m : mM) (p1 : Int32) : fR Int32 :=
  bnd (f_X7_layYear m ) fun (x1 : Unit) (m2 : mM) => (gA (mA m2 20) p1).bind fun x4 => some (x4, m2)
theorem c_X7_yearOf (m : mM) (p1 : Int32)  : cF false uI m_X7_yearOf 10 [.ref 0, .int p1] m (f_X7_yearOf m p1) := by
  refine cF_of ok_X7_yearOf (fun _ _ => Nat.le_of_ble_eq_true rfl) ?_
  unfold f_X7_yearOf
  show JF _ _ _ _ _ [(0, .ref 0), (1, .int p1)] _ _ _
  refine F_aload_n (i := 0) (a := 0) rfl rfl (dk_X7_yearOf 0 _ rfl) ?_
  refine F_callV (ι' := uU) (ci := 7) (b := 0) (As := []) (d' := 9) (rfl) ok_X7_layYear vi_X7_layYear cl_7_320 (n := 0) (by decide +kernel) rfl rfl rfl (Nat.le_of_ble_eq_true rfl) (by omega) (dk_X7_yearOf 1 _ rfl) (c_X7_layYear _  ) (fun x1 m2 => ?_)
  show JF _ _ _ _ _ _ [] _ _
  refine F_aload_n (i := 0) (a := 0) rfl rfl (dk_X7_yearOf 4 _ rfl) ?_
  refine F_gR (b := 20) fxM_7_33_0 fl_7_111 (dk_X7_yearOf 5 _ rfl) ?_
  refine F_iload_n (i := 1) (a := 1) rfl rfl (dk_X7_yearOf 8 _ rfl) ?_
  refine F_iald (axM_0_20) (dk_X7_yearOf 9 _ rfl) (fun x4 => ?_)
  exact F_ret rfl (dk_X7_yearOf 10 _ rfl)
def f_X7_years (m : mM) (p1 : Int32) : fR Int32 :=
  bnd (f_X7_isPerson m p1) fun (x1 : Int32) (m2 : mM) => (if x1 = 0 then some ((-10000001), m2) else bnd (f_X7_yearOf m2 p1) fun (x4 : Int32) (m5 : mM) => some (x4, m5))
theorem c_X7_years (m : mM) (p1 : Int32)  : cF false uI m_X7_years 11 [.ref 0, .int p1] m (f_X7_years m p1) := by
  refine cF_of ok_X7_years (fun _ _ => Nat.le_of_ble_eq_true rfl) ?_
  unfold f_X7_years
  show JF _ _ _ _ _ [(0, .ref 0), (1, .int p1)] _ _ _
  refine F_aload_n (i := 0) (a := 0) rfl rfl (dk_X7_years 0 _ rfl) ?_
  refine F_iload_n (i := 1) (a := 1) rfl rfl (dk_X7_years 1 _ rfl) ?_
  refine F_callV (ι' := uI) (ci := 7) (b := 0) (As := [.int p1]) (d' := 3) (rfl) ok_X7_isPerson vi_X7_isPerson cl_7_206 (n := 1) (by decide +kernel) rfl rfl rfl (Nat.le_of_ble_eq_true rfl) (by omega) (dk_X7_years 2 _ rfl) (c_X7_isPerson _ _ ) (fun x1 m2 => ?_)
  show JF _ _ _ _ _ _ [.int x1] _ _
  refine F_if_eq (tgt := 16) (by decide) (dk_X7_years 5 _ rfl) ?_ ?_
  · refine F_ldcw (v := (-10000001)) ct_7_291 (dk_X7_years 16 _ rfl) ?_
    exact F_ret rfl (dk_X7_years 19 _ rfl)
  · refine F_aload_n (i := 0) (a := 0) rfl rfl (dk_X7_years 8 _ rfl) ?_
    refine F_iload_n (i := 1) (a := 1) rfl rfl (dk_X7_years 9 _ rfl) ?_
    refine F_callV (ι' := uI) (ci := 7) (b := 0) (As := [.int p1]) (d' := 10) (rfl) ok_X7_yearOf vi_X7_yearOf cl_7_323 (n := 1) (by decide +kernel) rfl rfl rfl (Nat.le_of_ble_eq_true rfl) (by omega) (dk_X7_years 10 _ rfl) (c_X7_yearOf _ _ ) (fun x4 m5 => ?_)
    show JF _ _ _ _ _ _ [.int x4] _ _
    refine F_goto (tgt := 19) (by decide) (dk_X7_years 13 _ rfl) ?_
    exact F_ret rfl (dk_X7_years 19 _ rfl)
def f_X7_layBest_77 (K23 : mM → Int32 → Int32 → Int32 → Int32 → fR Unit) (m : mM) (y1 : Int32) (y2 : Int32) (y3 : Int32) (y4 : Int32) (y5 : Int32) : fR Unit :=
  nmM (wI m 34 y4) fun m8 => nmM (wI m8 35 y5) fun m9 => (K23 m9 y1 y2 y3 (y4 + 1))
theorem j_X7_layBest_77 (K23 : mM → Int32 → Int32 → Int32 → Int32 → fR Unit) (hK23 : ∀ (m : mM) (y1 : Int32) (y2 : Int32) (y3 : Int32) (y4 : Int32) , JF false uU m_X7_layBest 11 23 [(0, .ref 0), (1, .int y1), (2, .int y2), (3, .int y3), (4, .int y4)] [] m (K23 m y1 y2 y3 y4)) (m : mM) (y1 : Int32) (y2 : Int32) (y3 : Int32) (y4 : Int32) (y5 : Int32)  : JF false uU m_X7_layBest 11 77 [(0, .ref 0), (1, .int y1), (2, .int y2), (3, .int y3), (4, .int y4), (5, .int y5)] [] m (f_X7_layBest_77 K23 m y1 y2 y3 y4 y5) := by
  unfold f_X7_layBest_77
  refine F_aload_n (i := 0) (a := 0) rfl rfl (dk_X7_layBest 77 _ rfl) ?_
  refine F_iload (i := 4) rfl (dk_X7_layBest 78 _ rfl) ?_
  refine F_pI (n := 34) fxM_7_34_0 rfl fl_7_114 (fun q hq => by cases hq; rfl) trivial (dk_X7_layBest 80 _ rfl) (fun m8 => ?_)
  refine F_aload_n (i := 0) (a := 0) rfl rfl (dk_X7_layBest 83 _ rfl) ?_
  refine F_iload (i := 5) rfl (dk_X7_layBest 84 _ rfl) ?_
  refine F_pI (n := 35) fxM_7_35_0 rfl fl_7_117 (fun q hq => by cases hq; rfl) trivial (dk_X7_layBest 86 _ rfl) (fun m9 => ?_)
  refine F_iinc (i := 4) (n := 1) (v := (y4 + 1)) (lv' := [(4, .int (y4 + 1)), (0, .ref 0), (1, .int y1), (2, .int y2), (3, .int y3), (5, .int y5)]) rfl (by first | rfl | decide) (by decide) rfl (dk_X7_layBest 89 _ rfl) ?_
  refine F_goto (tgt := 23) (by decide) (dk_X7_layBest 92 _ rfl) ?_
  exact F_loc (List.forall_mem_cons.mpr ⟨(.tail _ (.head _)), (List.forall_mem_cons.mpr ⟨(.tail _ (.tail _ (.head _))), (List.forall_mem_cons.mpr ⟨(.tail _ (.tail _ (.tail _ (.head _)))), (List.forall_mem_cons.mpr ⟨(.tail _ (.tail _ (.tail _ (.tail _ (.head _))))), (List.forall_mem_cons.mpr ⟨(.head _), (fun _ z => absurd z List.not_mem_nil)⟩)⟩)⟩)⟩)⟩) (hK23 _ _ _ _ _ )
def f_X7_layBest_53 (K23 : mM → Int32 → Int32 → Int32 → Int32 → fR Unit) (m : mM) (y1 : Int32) (y2 : Int32) (y3 : Int32) (y4 : Int32) : fR Unit :=
  bnd (f_X7_yearOf m y1) fun (x5 : Int32) (m6 : mM) => (if y4 ≤ 0 then (f_X7_layBest_77 K23 m6 y1 y2 y3 y4 x5) else (if (mI m6 35) < x5 then (f_X7_layBest_77 K23 m6 y1 y2 y3 y4 x5) else (K23 m6 y1 y2 y3 (y4 + 1))))
theorem j_X7_layBest_53 (K23 : mM → Int32 → Int32 → Int32 → Int32 → fR Unit) (hK23 : ∀ (m : mM) (y1 : Int32) (y2 : Int32) (y3 : Int32) (y4 : Int32) , JF false uU m_X7_layBest 11 23 [(0, .ref 0), (1, .int y1), (2, .int y2), (3, .int y3), (4, .int y4)] [] m (K23 m y1 y2 y3 y4)) (m : mM) (y1 : Int32) (y2 : Int32) (y3 : Int32) (y4 : Int32)  : JF false uU m_X7_layBest 11 53 [(0, .ref 0), (1, .int y1), (2, .int y2), (3, .int y3), (4, .int y4)] [] m (f_X7_layBest_53 K23 m y1 y2 y3 y4) := by
  unfold f_X7_layBest_53
  refine F_aload_n (i := 0) (a := 0) rfl rfl (dk_X7_layBest 53 _ rfl) ?_
  refine F_iload_n (i := 1) (a := 1) rfl rfl (dk_X7_layBest 54 _ rfl) ?_
  refine F_callV (ι' := uI) (ci := 7) (b := 0) (As := [.int y1]) (d' := 10) (rfl) ok_X7_yearOf vi_X7_yearOf cl_7_323 (n := 1) (by decide +kernel) rfl rfl rfl (Nat.le_of_ble_eq_true rfl) (by omega) (dk_X7_layBest 55 _ rfl) (c_X7_yearOf _ _ ) (fun x5 m6 => ?_)
  show JF _ _ _ _ _ _ [.int x5] _ _
  refine F_istore (lv' := [(5, .int x5), (0, .ref 0), (1, .int y1), (2, .int y2), (3, .int y3), (4, .int y4)]) (i := 5) (by decide) rfl (dk_X7_layBest 58 _ rfl) ?_
  refine F_iload (i := 4) rfl (dk_X7_layBest 60 _ rfl) ?_
  refine F_if_le (tgt := 77) (by decide) (dk_X7_layBest 62 _ rfl) ?_ ?_
  · exact F_loc (List.forall_mem_cons.mpr ⟨(.tail _ (.head _)), (List.forall_mem_cons.mpr ⟨(.tail _ (.tail _ (.head _))), (List.forall_mem_cons.mpr ⟨(.tail _ (.tail _ (.tail _ (.head _)))), (List.forall_mem_cons.mpr ⟨(.tail _ (.tail _ (.tail _ (.tail _ (.head _))))), (List.forall_mem_cons.mpr ⟨(.tail _ (.tail _ (.tail _ (.tail _ (.tail _ (.head _)))))), (List.forall_mem_cons.mpr ⟨(.head _), (fun _ z => absurd z List.not_mem_nil)⟩)⟩)⟩)⟩)⟩)⟩) (j_X7_layBest_77 K23 hK23 _ _ _ _ _ _ )
  · refine F_iload (i := 5) rfl (dk_X7_layBest 65 _ rfl) ?_
    refine F_aload_n (i := 0) (a := 0) rfl rfl (dk_X7_layBest 67 _ rfl) ?_
    refine F_gI (n := 35) fxM_7_35_0 rfl fl_7_117 (dk_X7_layBest 68 _ rfl) ?_
    refine F_icmp_gt (tgt := 77) (by decide) (dk_X7_layBest 71 _ rfl) ?_ ?_
    · exact F_loc (List.forall_mem_cons.mpr ⟨(.tail _ (.head _)), (List.forall_mem_cons.mpr ⟨(.tail _ (.tail _ (.head _))), (List.forall_mem_cons.mpr ⟨(.tail _ (.tail _ (.tail _ (.head _)))), (List.forall_mem_cons.mpr ⟨(.tail _ (.tail _ (.tail _ (.tail _ (.head _))))), (List.forall_mem_cons.mpr ⟨(.tail _ (.tail _ (.tail _ (.tail _ (.tail _ (.head _)))))), (List.forall_mem_cons.mpr ⟨(.head _), (fun _ z => absurd z List.not_mem_nil)⟩)⟩)⟩)⟩)⟩)⟩) (j_X7_layBest_77 K23 hK23 _ _ _ _ _ _ )
    · refine F_goto (tgt := 89) (by decide) (dk_X7_layBest 74 _ rfl) ?_
      refine F_iinc (i := 4) (n := 1) (v := (y4 + 1)) (lv' := [(4, .int (y4 + 1)), (5, .int x5), (0, .ref 0), (1, .int y1), (2, .int y2), (3, .int y3)]) rfl (by first | rfl | decide) (by decide) rfl (dk_X7_layBest 89 _ rfl) ?_
      refine F_goto (tgt := 23) (by decide) (dk_X7_layBest 92 _ rfl) ?_
      exact F_loc (List.forall_mem_cons.mpr ⟨(.tail _ (.tail _ (.head _))), (List.forall_mem_cons.mpr ⟨(.tail _ (.tail _ (.tail _ (.head _)))), (List.forall_mem_cons.mpr ⟨(.tail _ (.tail _ (.tail _ (.tail _ (.head _))))), (List.forall_mem_cons.mpr ⟨(.tail _ (.tail _ (.tail _ (.tail _ (.tail _ (.head _)))))), (List.forall_mem_cons.mpr ⟨(.head _), (fun _ z => absurd z List.not_mem_nil)⟩)⟩)⟩)⟩)⟩) (hK23 _ _ _ _ _ )
def fb_X7_layBest_23 (K23 : mM → Int32 → Int32 → Int32 → Int32 → fR Unit) (m : mM) (y1 : Int32) (y2 : Int32) (y3 : Int32) (y4 : Int32) : fR Unit :=
  (if 12 ≤ y4 then (if y2 = 0 then (sA 0 m 4 y1 y3).bind fun m2 => some ((), m2) else (sA 0 m 3 y1 y3).bind fun m3 => some ((), m3)) else (if y2 = 0 then (sA 0 m 4 y1 y4).bind fun m4 => (f_X7_layBest_53 K23 m4 y1 y2 y3 y4) else (sA 0 m 3 y1 y4).bind fun m10 => (f_X7_layBest_53 K23 m10 y1 y2 y3 y4)))
def f_X7_layBest_23  : Nat → mM → Int32 → Int32 → Int32 → Int32 → fR Unit
  | 0, _, _, _, _, _ => none
  | F + 1, m, y1, y2, y3, y4 => fb_X7_layBest_23  (f_X7_layBest_23  F) m y1 y2 y3 y4
theorem jb_X7_layBest_23 (K23 : mM → Int32 → Int32 → Int32 → Int32 → fR Unit) (hK23 : ∀ (m : mM) (y1 : Int32) (y2 : Int32) (y3 : Int32) (y4 : Int32) , JF false uU m_X7_layBest 11 23 [(0, .ref 0), (1, .int y1), (2, .int y2), (3, .int y3), (4, .int y4)] [] m (K23 m y1 y2 y3 y4)) (m : mM) (y1 : Int32) (y2 : Int32) (y3 : Int32) (y4 : Int32)  : JF false uU m_X7_layBest 11 23 [(0, .ref 0), (1, .int y1), (2, .int y2), (3, .int y3), (4, .int y4)] [] m (fb_X7_layBest_23 K23 m y1 y2 y3 y4) := by
  unfold fb_X7_layBest_23
  refine F_iload (i := 4) rfl (dk_X7_layBest 23 _ rfl) ?_
  refine F_bipush (v := 12) (by decide) (dk_X7_layBest 25 _ rfl) ?_
  refine F_icmp_ge (tgt := 95) (by decide) (dk_X7_layBest 27 _ rfl) ?_ ?_
  · refine F_iload_n (i := 2) (a := 2) rfl rfl (dk_X7_layBest 95 _ rfl) ?_
    refine F_if_eq (tgt := 109) (by decide) (dk_X7_layBest 96 _ rfl) ?_ ?_
    · refine F_aload_n (i := 0) (a := 0) rfl rfl (dk_X7_layBest 109 _ rfl) ?_
      refine F_gR (b := 4) fxM_7_6_0 fl_7_29 (dk_X7_layBest 110 _ rfl) ?_
      refine F_iload_n (i := 1) (a := 1) rfl rfl (dk_X7_layBest 113 _ rfl) ?_
      refine F_iload_n (i := 3) (a := 3) rfl rfl (dk_X7_layBest 114 _ rfl) ?_
      refine F_iast (axM_0_4) (dk_X7_layBest 115 _ rfl) (fun m2 => ?_)
      exact F_retV rfl (dk_X7_layBest 116 _ rfl)
    · refine F_aload_n (i := 0) (a := 0) rfl rfl (dk_X7_layBest 99 _ rfl) ?_
      refine F_gR (b := 3) fxM_7_5_0 fl_7_26 (dk_X7_layBest 100 _ rfl) ?_
      refine F_iload_n (i := 1) (a := 1) rfl rfl (dk_X7_layBest 103 _ rfl) ?_
      refine F_iload_n (i := 3) (a := 3) rfl rfl (dk_X7_layBest 104 _ rfl) ?_
      refine F_iast (axM_0_3) (dk_X7_layBest 105 _ rfl) (fun m3 => ?_)
      refine F_goto (tgt := 116) (by decide) (dk_X7_layBest 106 _ rfl) ?_
      exact F_retV rfl (dk_X7_layBest 116 _ rfl)
  · refine F_iload_n (i := 2) (a := 2) rfl rfl (dk_X7_layBest 30 _ rfl) ?_
    refine F_if_eq (tgt := 45) (by decide) (dk_X7_layBest 31 _ rfl) ?_ ?_
    · refine F_aload_n (i := 0) (a := 0) rfl rfl (dk_X7_layBest 45 _ rfl) ?_
      refine F_gR (b := 4) fxM_7_6_0 fl_7_29 (dk_X7_layBest 46 _ rfl) ?_
      refine F_iload_n (i := 1) (a := 1) rfl rfl (dk_X7_layBest 49 _ rfl) ?_
      refine F_iload (i := 4) rfl (dk_X7_layBest 50 _ rfl) ?_
      refine F_iast (axM_0_4) (dk_X7_layBest 52 _ rfl) (fun m4 => ?_)
      exact F_loc (fun _ z => z) (j_X7_layBest_53 K23 hK23 _ _ _ _ _ )
    · refine F_aload_n (i := 0) (a := 0) rfl rfl (dk_X7_layBest 34 _ rfl) ?_
      refine F_gR (b := 3) fxM_7_5_0 fl_7_26 (dk_X7_layBest 35 _ rfl) ?_
      refine F_iload_n (i := 1) (a := 1) rfl rfl (dk_X7_layBest 38 _ rfl) ?_
      refine F_iload (i := 4) rfl (dk_X7_layBest 39 _ rfl) ?_
      refine F_iast (axM_0_3) (dk_X7_layBest 41 _ rfl) (fun m10 => ?_)
      refine F_goto (tgt := 53) (by decide) (dk_X7_layBest 42 _ rfl) ?_
      exact F_loc (fun _ z => z) (j_X7_layBest_53 K23 hK23 _ _ _ _ _ )
theorem j_X7_layBest_23   : ∀ (F : Nat) (m : mM) (y1 : Int32) (y2 : Int32) (y3 : Int32) (y4 : Int32) , JF false uU m_X7_layBest 11 23 [(0, .ref 0), (1, .int y1), (2, .int y2), (3, .int y3), (4, .int y4)] [] m (f_X7_layBest_23  F m y1 y2 y3 y4) := by
  intro F
  induction F with
  | zero => intro m y1 y2 y3 y4 ; exact F_no
  | succ F ih => intro m y1 y2 y3 y4 ; exact jb_X7_layBest_23  (f_X7_layBest_23  F)  ih m y1 y2 y3 y4 
def f_X7_layBest (m : mM) (p1 : Int32) (p2 : Int32) : fR Unit :=
  (if p2 = 0 then (gA (mA m 4) p1).bind fun x1 => (f_X7_layBest_23  1000 m p1 p2 x1 0) else (gA (mA m 3) p1).bind fun x11 => (f_X7_layBest_23  1000 m p1 p2 x11 0))
theorem c_X7_layBest (m : mM) (p1 : Int32) (p2 : Int32)  : cF false uU m_X7_layBest 11 [.ref 0, .int p1, .int p2] m (f_X7_layBest m p1 p2) := by
  refine cF_of ok_X7_layBest (fun _ _ => Nat.le_of_ble_eq_true rfl) ?_
  unfold f_X7_layBest
  show JF _ _ _ _ _ [(0, .ref 0), (1, .int p1), (2, .int p2)] _ _ _
  refine F_iload_n (i := 2) (a := 2) rfl rfl (dk_X7_layBest 0 _ rfl) ?_
  refine F_if_eq (tgt := 13) (by decide) (dk_X7_layBest 1 _ rfl) ?_ ?_
  · refine F_aload_n (i := 0) (a := 0) rfl rfl (dk_X7_layBest 13 _ rfl) ?_
    refine F_gR (b := 4) fxM_7_6_0 fl_7_29 (dk_X7_layBest 14 _ rfl) ?_
    refine F_iload_n (i := 1) (a := 1) rfl rfl (dk_X7_layBest 17 _ rfl) ?_
    refine F_iald (axM_0_4) (dk_X7_layBest 18 _ rfl) (fun x1 => ?_)
    refine F_istore_n (lv' := [(3, .int x1), (0, .ref 0), (1, .int p1), (2, .int p2)]) (i := 3) (a := 3) rfl (by decide) rfl (dk_X7_layBest 19 _ rfl) ?_
    refine F_iconst (v := 0) (by decide) (dk_X7_layBest 20 _ rfl) ?_
    refine F_istore (lv' := [(4, .int 0), (3, .int x1), (0, .ref 0), (1, .int p1), (2, .int p2)]) (i := 4) (by decide) rfl (dk_X7_layBest 21 _ rfl) ?_
    exact F_loc (List.forall_mem_cons.mpr ⟨(.tail _ (.tail _ (.head _))), (List.forall_mem_cons.mpr ⟨(.tail _ (.tail _ (.tail _ (.head _)))), (List.forall_mem_cons.mpr ⟨(.tail _ (.tail _ (.tail _ (.tail _ (.head _))))), (List.forall_mem_cons.mpr ⟨(.tail _ (.head _)), (List.forall_mem_cons.mpr ⟨(.head _), (fun _ z => absurd z List.not_mem_nil)⟩)⟩)⟩)⟩)⟩) (j_X7_layBest_23   1000 _ _ _ _ _ )
  · refine F_aload_n (i := 0) (a := 0) rfl rfl (dk_X7_layBest 4 _ rfl) ?_
    refine F_gR (b := 3) fxM_7_5_0 fl_7_26 (dk_X7_layBest 5 _ rfl) ?_
    refine F_iload_n (i := 1) (a := 1) rfl rfl (dk_X7_layBest 8 _ rfl) ?_
    refine F_iald (axM_0_3) (dk_X7_layBest 9 _ rfl) (fun x11 => ?_)
    refine F_goto (tgt := 19) (by decide) (dk_X7_layBest 10 _ rfl) ?_
    refine F_istore_n (lv' := [(3, .int x11), (0, .ref 0), (1, .int p1), (2, .int p2)]) (i := 3) (a := 3) rfl (by decide) rfl (dk_X7_layBest 19 _ rfl) ?_
    refine F_iconst (v := 0) (by decide) (dk_X7_layBest 20 _ rfl) ?_
    refine F_istore (lv' := [(4, .int 0), (3, .int x11), (0, .ref 0), (1, .int p1), (2, .int p2)]) (i := 4) (by decide) rfl (dk_X7_layBest 21 _ rfl) ?_
    exact F_loc (List.forall_mem_cons.mpr ⟨(.tail _ (.tail _ (.head _))), (List.forall_mem_cons.mpr ⟨(.tail _ (.tail _ (.tail _ (.head _)))), (List.forall_mem_cons.mpr ⟨(.tail _ (.tail _ (.tail _ (.tail _ (.head _))))), (List.forall_mem_cons.mpr ⟨(.tail _ (.head _)), (List.forall_mem_cons.mpr ⟨(.head _), (fun _ z => absurd z List.not_mem_nil)⟩)⟩)⟩)⟩)⟩) (j_X7_layBest_23   1000 _ _ _ _ _ )
end
