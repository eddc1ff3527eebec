section
set_option maxRecDepth 100000
def fb_X2_add_74 (K74 : mM → Nat → Int32 → fR Unit) (m : mM) (y0 : Nat) (y5 : Int32) : fR Unit :=
  (if 4 ≤ y5 then nmM (wI m (64 * y0 + 0) (((mI m (64 * y0 + 0)) + 1))) fun m7 => some ((), m7) else (sA 0 m (y0 + 7) ((((mI m (64 * y0 + 0)) * 4) + y5)) 0).bind fun m8 => (K74 m8 y0 (y5 + 1)))
def f_X2_add_74  : Nat → mM → Nat → Int32 → fR Unit
  | 0, _, _, _ => none
  | F + 1, m, y0, y5 => fb_X2_add_74  (f_X2_add_74  F) m y0 y5
theorem jb_X2_add_74 (K74 : mM → Nat → Int32 → fR Unit) (hK74 : ∀ (m : mM) (y0 : Nat) (y5 : Int32) (hy0 : isC true 2 y0 = true), JF true uU m_X2_add 2 74 [(0, .ref y0), (5, .int y5)] [] m (K74 m y0 y5)) (m : mM) (y0 : Nat) (y5 : Int32) (hy0 : isC true 2 y0 = true) : JF true uU m_X2_add 2 74 [(0, .ref y0), (5, .int y5)] [] m (fb_X2_add_74 K74 m y0 y5) := by
  unfold fb_X2_add_74
  refine F_iload (i := 5) rfl (dk_X2_add 74 _ rfl) ?_
  refine F_iconst (v := 4) (by decide) (dk_X2_add 76 _ rfl) ?_
  refine F_icmp_ge (tgt := 101) (by decide) (dk_X2_add 77 _ rfl) ?_ ?_
  · refine F_aload_n (i := 0) (a := 0) rfl rfl (dk_X2_add 101 _ rfl) ?_
    refine F_dup rfl (dk_X2_add 102 _ rfl) ?_
    refine F_gI (n := (64 * y0 + 0)) (lyS_0 hy0) rfl fl_2_41 (dk_X2_add 103 _ rfl) ?_
    refine F_iconst (v := 1) (by decide) (dk_X2_add 106 _ rfl) ?_
    refine F_iadd (dk_X2_add 107 _ rfl) ?_
    refine F_pI (n := (64 * y0 + 0)) (lyS_0 hy0) rfl fl_2_41 (fun q hq => by cases hq; rfl) trivial (dk_X2_add 108 _ rfl) (fun m7 => ?_)
    exact F_retV rfl (dk_X2_add 111 _ rfl)
  · refine F_aload_n (i := 0) (a := 0) rfl rfl (dk_X2_add 80 _ rfl) ?_
    refine F_gR (b := (y0 + 7)) (lyS_11 hy0).1 fl_2_31 (dk_X2_add 81 _ rfl) ?_
    refine F_aload_n (i := 0) (a := 0) rfl rfl (dk_X2_add 84 _ rfl) ?_
    refine F_gI (n := (64 * y0 + 0)) (lyS_0 hy0) rfl fl_2_41 (dk_X2_add 85 _ rfl) ?_
    refine F_iconst (v := 4) (by decide) (dk_X2_add 88 _ rfl) ?_
    refine F_imul (dk_X2_add 89 _ rfl) ?_
    refine F_iload (i := 5) rfl (dk_X2_add 90 _ rfl) ?_
    refine F_iadd (dk_X2_add 92 _ rfl) ?_
    refine F_iconst (v := 0) (by decide) (dk_X2_add 93 _ rfl) ?_
    refine F_iast ((lyS_11 hy0).2) (dk_X2_add 94 _ rfl) (fun m8 => ?_)
    refine F_iinc (i := 5) (n := 1) (v := (y5 + 1)) (lv' := [(5, .int (y5 + 1)), (0, .ref y0)]) rfl (by first | rfl | decide) (by decide) rfl (dk_X2_add 95 _ rfl) ?_
    refine F_goto (tgt := 74) (by decide) (dk_X2_add 98 _ rfl) ?_
    exact F_loc (List.forall_mem_cons.mpr ⟨(.tail _ (.head _)), (List.forall_mem_cons.mpr ⟨(.head _), (fun _ z => absurd z List.not_mem_nil)⟩)⟩) (hK74 _ _ _ (hy0))
theorem j_X2_add_74   : ∀ (F : Nat) (m : mM) (y0 : Nat) (y5 : Int32) (hy0 : isC true 2 y0 = true), JF true uU m_X2_add 2 74 [(0, .ref y0), (5, .int y5)] [] m (f_X2_add_74  F m y0 y5) := by
  intro F
  induction F with
  | zero => intro m y0 y5 hy0; exact F_no
  | succ F ih => intro m y0 y5 hy0; exact jb_X2_add_74  (f_X2_add_74  F)  ih m y0 y5 hy0
def f_X2_add (m : mM) (a0 : Nat) (p1 : Int32) (p2 : Int32) (p3 : Int32) (p4 : Int32) : fR Unit :=
  (if (mI m (64 * a0 + 0)) < 7 then (sA 0 m (a0 + 1) ((mI m (64 * a0 + 0))) p1).bind fun m1 => (sA 0 m1 (a0 + 2) ((mI m1 (64 * a0 + 0))) p2).bind fun m2 => (sA 0 m2 (a0 + 3) ((mI m2 (64 * a0 + 0))) p3).bind fun m3 => (sA 0 m3 (a0 + 4) ((mI m3 (64 * a0 + 0))) p4).bind fun m4 => (sA 0 m4 (a0 + 5) ((mI m4 (64 * a0 + 0))) 0).bind fun m5 => (sA 3 m5 (a0 + 6) ((mI m5 (64 * a0 + 0))) 1).bind fun m6 => (f_X2_add_74  1000 m6 a0 0) else some ((), m))
theorem c_X2_add (m : mM) (a0 : Nat) (p1 : Int32) (p2 : Int32) (p3 : Int32) (p4 : Int32) (ha0 : isC true 2 a0 = true) : cF true uU m_X2_add 2 [.ref a0, .int p1, .int p2, .int p3, .int p4] m (f_X2_add m a0 p1 p2 p3 p4) := by
  refine cF_of ok_X2_add (fun _ _ => Nat.le_of_ble_eq_true rfl) ?_
  unfold f_X2_add
  show JF _ _ _ _ _ [(0, .ref a0), (1, .int p1), (2, .int p2), (3, .int p3), (4, .int p4)] _ _ _
  refine F_aload_n (i := 0) (a := 0) rfl rfl (dk_X2_add 0 _ rfl) ?_
  refine F_gI (n := (64 * a0 + 0)) (lyS_0 ha0) rfl fl_2_41 (dk_X2_add 1 _ rfl) ?_
  refine F_bipush (v := 7) (by decide) (dk_X2_add 4 _ rfl) ?_
  refine F_icmp_lt (tgt := 10) (by decide) (dk_X2_add 6 _ rfl) ?_ ?_
  · refine F_aload_n (i := 0) (a := 0) rfl rfl (dk_X2_add 10 _ rfl) ?_
    refine F_gR (b := (a0 + 1)) (lyS_5 ha0).1 fl_2_9 (dk_X2_add 11 _ rfl) ?_
    refine F_aload_n (i := 0) (a := 0) rfl rfl (dk_X2_add 14 _ rfl) ?_
    refine F_gI (n := (64 * a0 + 0)) (lyS_0 ha0) rfl fl_2_41 (dk_X2_add 15 _ rfl) ?_
    refine F_iload_n (i := 1) (a := 1) rfl rfl (dk_X2_add 18 _ rfl) ?_
    refine F_iast ((lyS_5 ha0).2) (dk_X2_add 19 _ rfl) (fun m1 => ?_)
    refine F_aload_n (i := 0) (a := 0) rfl rfl (dk_X2_add 20 _ rfl) ?_
    refine F_gR (b := (a0 + 2)) (lyS_6 ha0).1 fl_2_15 (dk_X2_add 21 _ rfl) ?_
    refine F_aload_n (i := 0) (a := 0) rfl rfl (dk_X2_add 24 _ rfl) ?_
    refine F_gI (n := (64 * a0 + 0)) (lyS_0 ha0) rfl fl_2_41 (dk_X2_add 25 _ rfl) ?_
    refine F_iload_n (i := 2) (a := 2) rfl rfl (dk_X2_add 28 _ rfl) ?_
    refine F_iast ((lyS_6 ha0).2) (dk_X2_add 29 _ rfl) (fun m2 => ?_)
    refine F_aload_n (i := 0) (a := 0) rfl rfl (dk_X2_add 30 _ rfl) ?_
    refine F_gR (b := (a0 + 3)) (lyS_7 ha0).1 fl_2_18 (dk_X2_add 31 _ rfl) ?_
    refine F_aload_n (i := 0) (a := 0) rfl rfl (dk_X2_add 34 _ rfl) ?_
    refine F_gI (n := (64 * a0 + 0)) (lyS_0 ha0) rfl fl_2_41 (dk_X2_add 35 _ rfl) ?_
    refine F_iload_n (i := 3) (a := 3) rfl rfl (dk_X2_add 38 _ rfl) ?_
    refine F_iast ((lyS_7 ha0).2) (dk_X2_add 39 _ rfl) (fun m3 => ?_)
    refine F_aload_n (i := 0) (a := 0) rfl rfl (dk_X2_add 40 _ rfl) ?_
    refine F_gR (b := (a0 + 4)) (lyS_8 ha0).1 fl_2_21 (dk_X2_add 41 _ rfl) ?_
    refine F_aload_n (i := 0) (a := 0) rfl rfl (dk_X2_add 44 _ rfl) ?_
    refine F_gI (n := (64 * a0 + 0)) (lyS_0 ha0) rfl fl_2_41 (dk_X2_add 45 _ rfl) ?_
    refine F_iload (i := 4) rfl (dk_X2_add 48 _ rfl) ?_
    refine F_iast ((lyS_8 ha0).2) (dk_X2_add 50 _ rfl) (fun m4 => ?_)
    refine F_aload_n (i := 0) (a := 0) rfl rfl (dk_X2_add 51 _ rfl) ?_
    refine F_gR (b := (a0 + 5)) (lyS_9 ha0).1 fl_2_24 (dk_X2_add 52 _ rfl) ?_
    refine F_aload_n (i := 0) (a := 0) rfl rfl (dk_X2_add 55 _ rfl) ?_
    refine F_gI (n := (64 * a0 + 0)) (lyS_0 ha0) rfl fl_2_41 (dk_X2_add 56 _ rfl) ?_
    refine F_iconst (v := 0) (by decide) (dk_X2_add 59 _ rfl) ?_
    refine F_iast ((lyS_9 ha0).2) (dk_X2_add 60 _ rfl) (fun m5 => ?_)
    refine F_aload_n (i := 0) (a := 0) rfl rfl (dk_X2_add 61 _ rfl) ?_
    refine F_gR (b := (a0 + 6)) (lyS_10 ha0).1 fl_2_27 (dk_X2_add 62 _ rfl) ?_
    refine F_aload_n (i := 0) (a := 0) rfl rfl (dk_X2_add 65 _ rfl) ?_
    refine F_gI (n := (64 * a0 + 0)) (lyS_0 ha0) rfl fl_2_41 (dk_X2_add 66 _ rfl) ?_
    refine F_iconst (v := 1) (by decide) (dk_X2_add 69 _ rfl) ?_
    refine F_zast ((lyS_10 ha0).2) (dk_X2_add 70 _ rfl) (fun m6 => ?_)
    refine F_iconst (v := 0) (by decide) (dk_X2_add 71 _ rfl) ?_
    refine F_istore (lv' := [(5, .int 0), (0, .ref a0), (1, .int p1), (2, .int p2), (3, .int p3), (4, .int p4)]) (i := 5) (by decide) rfl (dk_X2_add 72 _ rfl) ?_
    exact F_loc (List.forall_mem_cons.mpr ⟨(.tail _ (.head _)), (List.forall_mem_cons.mpr ⟨(.head _), (fun _ z => absurd z List.not_mem_nil)⟩)⟩) (j_X2_add_74   1000 _ _ _ (ha0))
  · exact F_retV rfl (dk_X2_add 9 _ rfl)
def fb_X2_copy_147 (K147 : mM → Nat → Nat → Int32 → fR Unit) (m : mM) (y0 : Nat) (y1 : Nat) (y2 : Int32) : fR Unit :=
  (if 7 ≤ y2 then some ((), m) else (gA (mA m (y1 + 6)) y2).bind fun x14 => (sA 3 m (y0 + 6) y2 x14).bind fun m15 => (K147 m15 y0 y1 (y2 + 1)))
def f_X2_copy_147  : Nat → mM → Nat → Nat → Int32 → fR Unit
  | 0, _, _, _, _ => none
  | F + 1, m, y0, y1, y2 => fb_X2_copy_147  (f_X2_copy_147  F) m y0 y1 y2
theorem jb_X2_copy_147 (K147 : mM → Nat → Nat → Int32 → fR Unit) (hK147 : ∀ (m : mM) (y0 : Nat) (y1 : Nat) (y2 : Int32) (hy0 : isC true 2 y0 = true) (hy1 : isC true 2 y1 = true), JF true uU m_X2_copy 2 147 [(0, .ref y0), (1, .ref y1), (2, .int y2)] [] m (K147 m y0 y1 y2)) (m : mM) (y0 : Nat) (y1 : Nat) (y2 : Int32) (hy0 : isC true 2 y0 = true) (hy1 : isC true 2 y1 = true) : JF true uU m_X2_copy 2 147 [(0, .ref y0), (1, .ref y1), (2, .int y2)] [] m (fb_X2_copy_147 K147 m y0 y1 y2) := by
  unfold fb_X2_copy_147
  refine F_iload_n (i := 2) (a := 2) rfl rfl (dk_X2_copy 147 _ rfl) ?_
  refine F_bipush (v := 7) (by decide) (dk_X2_copy 148 _ rfl) ?_
  refine F_icmp_ge (tgt := 171) (by decide) (dk_X2_copy 150 _ rfl) ?_ ?_
  · exact F_retV rfl (dk_X2_copy 171 _ rfl)
  · refine F_aload_n (i := 0) (a := 0) rfl rfl (dk_X2_copy 153 _ rfl) ?_
    refine F_gR (b := (y0 + 6)) (lyS_10 hy0).1 fl_2_27 (dk_X2_copy 154 _ rfl) ?_
    refine F_iload_n (i := 2) (a := 2) rfl rfl (dk_X2_copy 157 _ rfl) ?_
    refine F_aload_n (i := 1) (a := 1) rfl rfl (dk_X2_copy 158 _ rfl) ?_
    refine F_gR (b := (y1 + 6)) (lyS_10 hy1).1 fl_2_27 (dk_X2_copy 159 _ rfl) ?_
    refine F_iload_n (i := 2) (a := 2) rfl rfl (dk_X2_copy 162 _ rfl) ?_
    refine F_zald ((lyS_10 hy1).2) (dk_X2_copy 163 _ rfl) (fun x14 => ?_)
    refine F_zast ((lyS_10 hy0).2) (dk_X2_copy 164 _ rfl) (fun m15 => ?_)
    refine F_iinc (i := 2) (n := 1) (v := (y2 + 1)) (lv' := [(2, .int (y2 + 1)), (0, .ref y0), (1, .ref y1)]) rfl (by first | rfl | decide) (by decide) rfl (dk_X2_copy 165 _ rfl) ?_
    refine F_goto (tgt := 147) (by decide) (dk_X2_copy 168 _ rfl) ?_
    exact F_loc (List.forall_mem_cons.mpr ⟨(.tail _ (.head _)), (List.forall_mem_cons.mpr ⟨(.tail _ (.tail _ (.head _))), (List.forall_mem_cons.mpr ⟨(.head _), (fun _ z => absurd z List.not_mem_nil)⟩)⟩)⟩) (hK147 _ _ _ _ (hy0) (hy1))
theorem j_X2_copy_147   : ∀ (F : Nat) (m : mM) (y0 : Nat) (y1 : Nat) (y2 : Int32) (hy0 : isC true 2 y0 = true) (hy1 : isC true 2 y1 = true), JF true uU m_X2_copy 2 147 [(0, .ref y0), (1, .ref y1), (2, .int y2)] [] m (f_X2_copy_147  F m y0 y1 y2) := by
  intro F
  induction F with
  | zero => intro m y0 y1 y2 hy0 hy1; exact F_no
  | succ F ih => intro m y0 y1 y2 hy0 hy1; exact jb_X2_copy_147  (f_X2_copy_147  F)  ih m y0 y1 y2 hy0 hy1
def f_X2_copy (m : mM) (a0 : Nat) (a1 : Nat) : fR Unit :=
  nmM (wI m (64 * a0 + 0) ((mI m (64 * a1 + 0)))) fun m1 => nmM (wI m1 (64 * a0 + 1) ((mI m1 (64 * a1 + 1)))) fun m2 => nmM (wI m2 (64 * a0 + 2) ((mI m2 (64 * a1 + 2)))) fun m3 => nmM (wI m3 (64 * a0 + 3) ((mI m3 (64 * a1 + 3)))) fun m4 => chR true 5 (mR m4 (64 * a1 + 4)) fun r5 => nmM (wR m4 (64 * a0 + 4) r5) fun m6 => (cpA m6 (a1 + 1) 0 (a0 + 1) 0 7).bind fun m7 => (cpA m7 (a1 + 2) 0 (a0 + 2) 0 7).bind fun m8 => (cpA m8 (a1 + 3) 0 (a0 + 3) 0 7).bind fun m9 => (cpA m9 (a1 + 4) 0 (a0 + 4) 0 7).bind fun m10 => (cpA m10 (a1 + 5) 0 (a0 + 5) 0 7).bind fun m11 => (cpA m11 (a1 + 7) 0 (a0 + 7) 0 28).bind fun m12 => (cpA m12 (a1 + 8) 0 (a0 + 8) 0 12).bind fun m13 => (f_X2_copy_147  1000 m13 a0 a1 0)
theorem c_X2_copy (m : mM) (a0 : Nat) (a1 : Nat) (ha0 : isC true 2 a0 = true) (ha1 : isC true 2 a1 = true) : cF true uU m_X2_copy 2 [.ref a0, .ref a1] m (f_X2_copy m a0 a1) := by
  refine cF_of ok_X2_copy (fun _ _ => Nat.le_of_ble_eq_true rfl) ?_
  unfold f_X2_copy
  show JF _ _ _ _ _ [(0, .ref a0), (1, .ref a1)] _ _ _
  refine F_aload_n (i := 0) (a := 0) rfl rfl (dk_X2_copy 0 _ rfl) ?_
  refine F_aload_n (i := 1) (a := 1) rfl rfl (dk_X2_copy 1 _ rfl) ?_
  refine F_gI (n := (64 * a1 + 0)) (lyS_0 ha1) rfl fl_2_41 (dk_X2_copy 2 _ rfl) ?_
  refine F_pI (n := (64 * a0 + 0)) (lyS_0 ha0) rfl fl_2_41 (fun q hq => by cases hq; rfl) trivial (dk_X2_copy 5 _ rfl) (fun m1 => ?_)
  refine F_aload_n (i := 0) (a := 0) rfl rfl (dk_X2_copy 8 _ rfl) ?_
  refine F_aload_n (i := 1) (a := 1) rfl rfl (dk_X2_copy 9 _ rfl) ?_
  refine F_gI (n := (64 * a1 + 1)) (lyS_1 ha1) rfl fl_2_45 (dk_X2_copy 10 _ rfl) ?_
  refine F_pI (n := (64 * a0 + 1)) (lyS_1 ha0) rfl fl_2_45 (fun q hq => by cases hq; rfl) trivial (dk_X2_copy 13 _ rfl) (fun m2 => ?_)
  refine F_aload_n (i := 0) (a := 0) rfl rfl (dk_X2_copy 16 _ rfl) ?_
  refine F_aload_n (i := 1) (a := 1) rfl rfl (dk_X2_copy 17 _ rfl) ?_
  refine F_gI (n := (64 * a1 + 2)) (lyS_2 ha1) rfl fl_2_48 (dk_X2_copy 18 _ rfl) ?_
  refine F_pI (n := (64 * a0 + 2)) (lyS_2 ha0) rfl fl_2_48 (fun q hq => by cases hq; rfl) trivial (dk_X2_copy 21 _ rfl) (fun m3 => ?_)
  refine F_aload_n (i := 0) (a := 0) rfl rfl (dk_X2_copy 24 _ rfl) ?_
  refine F_aload_n (i := 1) (a := 1) rfl rfl (dk_X2_copy 25 _ rfl) ?_
  refine F_gI (n := (64 * a1 + 3)) (lyS_3 ha1) rfl fl_2_51 (dk_X2_copy 26 _ rfl) ?_
  refine F_pI (n := (64 * a0 + 3)) (lyS_3 ha0) rfl fl_2_51 (fun q hq => by cases hq; rfl) trivial (dk_X2_copy 29 _ rfl) (fun m4 => ?_)
  refine F_aload_n (i := 0) (a := 0) rfl rfl (dk_X2_copy 32 _ rfl) ?_
  refine F_aload_n (i := 1) (a := 1) rfl rfl (dk_X2_copy 33 _ rfl) ?_
  refine F_gV (n := (64 * a1 + 4)) (lyS_4 ha1) rfl fl_2_37 (dk_X2_copy 34 _ rfl) ?_
  refine F_ch (fun r5 hr5 => ?_)
  refine F_pV (n := (64 * a0 + 4)) (lyS_4 ha0) rfl fl_2_37 (fun q hq => by cases hq; rfl) trivial (dk_X2_copy 37 _ rfl) (fun m6 => ?_)
  refine F_aload_n (i := 1) (a := 1) rfl rfl (dk_X2_copy 40 _ rfl) ?_
  refine F_gR (b := (a1 + 1)) (lyS_5 ha1).1 fl_2_9 (dk_X2_copy 41 _ rfl) ?_
  refine F_iconst (v := 0) (by decide) (dk_X2_copy 44 _ rfl) ?_
  refine F_aload_n (i := 0) (a := 0) rfl rfl (dk_X2_copy 45 _ rfl) ?_
  refine F_gR (b := (a0 + 1)) (lyS_5 ha0).1 fl_2_9 (dk_X2_copy 46 _ rfl) ?_
  refine F_iconst (v := 0) (by decide) (dk_X2_copy 49 _ rfl) ?_
  refine F_bipush (v := 7) (by decide) (dk_X2_copy 50 _ rfl) ?_
  refine F_copyi ((lyS_5 ha1).2) ((lyS_5 ha0).2) ac_2 (Nat.le_of_ble_eq_true rfl) (by omega) (dk_X2_copy 52 _ rfl) (fun m7 => ?_)
  refine F_aload_n (i := 1) (a := 1) rfl rfl (dk_X2_copy 55 _ rfl) ?_
  refine F_gR (b := (a1 + 2)) (lyS_6 ha1).1 fl_2_15 (dk_X2_copy 56 _ rfl) ?_
  refine F_iconst (v := 0) (by decide) (dk_X2_copy 59 _ rfl) ?_
  refine F_aload_n (i := 0) (a := 0) rfl rfl (dk_X2_copy 60 _ rfl) ?_
  refine F_gR (b := (a0 + 2)) (lyS_6 ha0).1 fl_2_15 (dk_X2_copy 61 _ rfl) ?_
  refine F_iconst (v := 0) (by decide) (dk_X2_copy 64 _ rfl) ?_
  refine F_bipush (v := 7) (by decide) (dk_X2_copy 65 _ rfl) ?_
  refine F_copyi ((lyS_6 ha1).2) ((lyS_6 ha0).2) ac_2 (Nat.le_of_ble_eq_true rfl) (by omega) (dk_X2_copy 67 _ rfl) (fun m8 => ?_)
  refine F_aload_n (i := 1) (a := 1) rfl rfl (dk_X2_copy 70 _ rfl) ?_
  refine F_gR (b := (a1 + 3)) (lyS_7 ha1).1 fl_2_18 (dk_X2_copy 71 _ rfl) ?_
  refine F_iconst (v := 0) (by decide) (dk_X2_copy 74 _ rfl) ?_
  refine F_aload_n (i := 0) (a := 0) rfl rfl (dk_X2_copy 75 _ rfl) ?_
  refine F_gR (b := (a0 + 3)) (lyS_7 ha0).1 fl_2_18 (dk_X2_copy 76 _ rfl) ?_
  refine F_iconst (v := 0) (by decide) (dk_X2_copy 79 _ rfl) ?_
  refine F_bipush (v := 7) (by decide) (dk_X2_copy 80 _ rfl) ?_
  refine F_copyi ((lyS_7 ha1).2) ((lyS_7 ha0).2) ac_2 (Nat.le_of_ble_eq_true rfl) (by omega) (dk_X2_copy 82 _ rfl) (fun m9 => ?_)
  refine F_aload_n (i := 1) (a := 1) rfl rfl (dk_X2_copy 85 _ rfl) ?_
  refine F_gR (b := (a1 + 4)) (lyS_8 ha1).1 fl_2_21 (dk_X2_copy 86 _ rfl) ?_
  refine F_iconst (v := 0) (by decide) (dk_X2_copy 89 _ rfl) ?_
  refine F_aload_n (i := 0) (a := 0) rfl rfl (dk_X2_copy 90 _ rfl) ?_
  refine F_gR (b := (a0 + 4)) (lyS_8 ha0).1 fl_2_21 (dk_X2_copy 91 _ rfl) ?_
  refine F_iconst (v := 0) (by decide) (dk_X2_copy 94 _ rfl) ?_
  refine F_bipush (v := 7) (by decide) (dk_X2_copy 95 _ rfl) ?_
  refine F_copyi ((lyS_8 ha1).2) ((lyS_8 ha0).2) ac_2 (Nat.le_of_ble_eq_true rfl) (by omega) (dk_X2_copy 97 _ rfl) (fun m10 => ?_)
  refine F_aload_n (i := 1) (a := 1) rfl rfl (dk_X2_copy 100 _ rfl) ?_
  refine F_gR (b := (a1 + 5)) (lyS_9 ha1).1 fl_2_24 (dk_X2_copy 101 _ rfl) ?_
  refine F_iconst (v := 0) (by decide) (dk_X2_copy 104 _ rfl) ?_
  refine F_aload_n (i := 0) (a := 0) rfl rfl (dk_X2_copy 105 _ rfl) ?_
  refine F_gR (b := (a0 + 5)) (lyS_9 ha0).1 fl_2_24 (dk_X2_copy 106 _ rfl) ?_
  refine F_iconst (v := 0) (by decide) (dk_X2_copy 109 _ rfl) ?_
  refine F_bipush (v := 7) (by decide) (dk_X2_copy 110 _ rfl) ?_
  refine F_copyi ((lyS_9 ha1).2) ((lyS_9 ha0).2) ac_2 (Nat.le_of_ble_eq_true rfl) (by omega) (dk_X2_copy 112 _ rfl) (fun m11 => ?_)
  refine F_aload_n (i := 1) (a := 1) rfl rfl (dk_X2_copy 115 _ rfl) ?_
  refine F_gR (b := (a1 + 7)) (lyS_11 ha1).1 fl_2_31 (dk_X2_copy 116 _ rfl) ?_
  refine F_iconst (v := 0) (by decide) (dk_X2_copy 119 _ rfl) ?_
  refine F_aload_n (i := 0) (a := 0) rfl rfl (dk_X2_copy 120 _ rfl) ?_
  refine F_gR (b := (a0 + 7)) (lyS_11 ha0).1 fl_2_31 (dk_X2_copy 121 _ rfl) ?_
  refine F_iconst (v := 0) (by decide) (dk_X2_copy 124 _ rfl) ?_
  refine F_bipush (v := 28) (by decide) (dk_X2_copy 125 _ rfl) ?_
  refine F_copyi ((lyS_11 ha1).2) ((lyS_11 ha0).2) ac_2 (Nat.le_of_ble_eq_true rfl) (by omega) (dk_X2_copy 127 _ rfl) (fun m12 => ?_)
  refine F_aload_n (i := 1) (a := 1) rfl rfl (dk_X2_copy 130 _ rfl) ?_
  refine F_gR (b := (a1 + 8)) (lyS_12 ha1).1 fl_2_34 (dk_X2_copy 131 _ rfl) ?_
  refine F_iconst (v := 0) (by decide) (dk_X2_copy 134 _ rfl) ?_
  refine F_aload_n (i := 0) (a := 0) rfl rfl (dk_X2_copy 135 _ rfl) ?_
  refine F_gR (b := (a0 + 8)) (lyS_12 ha0).1 fl_2_34 (dk_X2_copy 136 _ rfl) ?_
  refine F_iconst (v := 0) (by decide) (dk_X2_copy 139 _ rfl) ?_
  refine F_bipush (v := 12) (by decide) (dk_X2_copy 140 _ rfl) ?_
  refine F_copyi ((lyS_12 ha1).2) ((lyS_12 ha0).2) ac_2 (Nat.le_of_ble_eq_true rfl) (by omega) (dk_X2_copy 142 _ rfl) (fun m13 => ?_)
  refine F_iconst (v := 0) (by decide) (dk_X2_copy 145 _ rfl) ?_
  refine F_istore_n (lv' := [(2, .int 0), (0, .ref a0), (1, .ref a1)]) (i := 2) (a := 2) rfl (by decide) rfl (dk_X2_copy 146 _ rfl) ?_
  exact F_loc (List.forall_mem_cons.mpr ⟨(.tail _ (.head _)), (List.forall_mem_cons.mpr ⟨(.tail _ (.tail _ (.head _))), (List.forall_mem_cons.mpr ⟨(.head _), (fun _ z => absurd z List.not_mem_nil)⟩)⟩)⟩) (j_X2_copy_147   1000 _ _ _ _ (ha0) (ha1))
def fb_X3_become_12 (K12 : mM → Nat → Int32 → fR Unit) (m : mM) (y0 : Nat) (y3 : Int32) : fR Unit :=
  (if 60 ≤ y3 then some ((), m) else (sL m (y0 + 1) y3 0).bind fun m3 => (K12 m3 y0 (y3 + 1)))
def f_X3_become_12  : Nat → mM → Nat → Int32 → fR Unit
  | 0, _, _, _ => none
  | F + 1, m, y0, y3 => fb_X3_become_12  (f_X3_become_12  F) m y0 y3
theorem jb_X3_become_12 (K12 : mM → Nat → Int32 → fR Unit) (hK12 : ∀ (m : mM) (y0 : Nat) (y3 : Int32) (hy0 : isC true 3 y0 = true), JF true uU m_X3_become 2 12 [(0, .ref y0), (3, .int y3)] [] m (K12 m y0 y3)) (m : mM) (y0 : Nat) (y3 : Int32) (hy0 : isC true 3 y0 = true) : JF true uU m_X3_become 2 12 [(0, .ref y0), (3, .int y3)] [] m (fb_X3_become_12 K12 m y0 y3) := by
  unfold fb_X3_become_12
  refine F_iload_n (i := 3) (a := 3) rfl rfl (dk_X3_become 12 _ rfl) ?_
  refine F_bipush (v := 60) (by decide) (dk_X3_become 13 _ rfl) ?_
  refine F_icmp_ge (tgt := 31) (by decide) (dk_X3_become 15 _ rfl) ?_ ?_
  · exact F_retV rfl (dk_X3_become 31 _ rfl)
  · refine F_aload_n (i := 0) (a := 0) rfl rfl (dk_X3_become 18 _ rfl) ?_
    refine F_gR (b := (y0 + 1)) (lyP_2 hy0).1 fl_3_15 (dk_X3_become 19 _ rfl) ?_
    refine F_iload_n (i := 3) (a := 3) rfl rfl (dk_X3_become 22 _ rfl) ?_
    refine F_lconst (v := 0) (by decide) (dk_X3_become 23 _ rfl) ?_
    refine F_last ((lyP_2 hy0).2) (dk_X3_become 24 _ rfl) (fun m3 => ?_)
    refine F_iinc (i := 3) (n := 1) (v := (y3 + 1)) (lv' := [(3, .int (y3 + 1)), (0, .ref y0)]) rfl (by first | rfl | decide) (by decide) rfl (dk_X3_become 25 _ rfl) ?_
    refine F_goto (tgt := 12) (by decide) (dk_X3_become 28 _ rfl) ?_
    exact F_loc (List.forall_mem_cons.mpr ⟨(.tail _ (.head _)), (List.forall_mem_cons.mpr ⟨(.head _), (fun _ z => absurd z List.not_mem_nil)⟩)⟩) (hK12 _ _ _ (hy0))
theorem j_X3_become_12   : ∀ (F : Nat) (m : mM) (y0 : Nat) (y3 : Int32) (hy0 : isC true 3 y0 = true), JF true uU m_X3_become 2 12 [(0, .ref y0), (3, .int y3)] [] m (f_X3_become_12  F m y0 y3) := by
  intro F
  induction F with
  | zero => intro m y0 y3 hy0; exact F_no
  | succ F ih => intro m y0 y3 hy0; exact jb_X3_become_12  (f_X3_become_12  F)  ih m y0 y3 hy0
def f_X3_become (m : mM) (a0 : Nat) (p1 : Int32) (p2 : Int32) : fR Unit :=
  nmM (wI m (64 * a0 + 0) p1) fun m1 => nmM (wI m1 (64 * a0 + 1) p2) fun m2 => (f_X3_become_12  1000 m2 a0 0)
theorem c_X3_become (m : mM) (a0 : Nat) (p1 : Int32) (p2 : Int32) (ha0 : isC true 3 a0 = true) : cF true uU m_X3_become 2 [.ref a0, .int p1, .int p2] m (f_X3_become m a0 p1 p2) := by
  refine cF_of ok_X3_become (fun _ _ => Nat.le_of_ble_eq_true rfl) ?_
  unfold f_X3_become
  show JF _ _ _ _ _ [(0, .ref a0), (1, .int p1), (2, .int p2)] _ _ _
  refine F_aload_n (i := 0) (a := 0) rfl rfl (dk_X3_become 0 _ rfl) ?_
  refine F_iload_n (i := 1) (a := 1) rfl rfl (dk_X3_become 1 _ rfl) ?_
  refine F_pI (n := (64 * a0 + 0)) (lyP_0 ha0) rfl fl_3_9 (fun q hq => by cases hq; rfl) trivial (dk_X3_become 2 _ rfl) (fun m1 => ?_)
  refine F_aload_n (i := 0) (a := 0) rfl rfl (dk_X3_become 5 _ rfl) ?_
  refine F_iload_n (i := 2) (a := 2) rfl rfl (dk_X3_become 6 _ rfl) ?_
  refine F_pI (n := (64 * a0 + 1)) (lyP_1 ha0) rfl fl_3_19 (fun q hq => by cases hq; rfl) trivial (dk_X3_become 7 _ rfl) (fun m2 => ?_)
  refine F_iconst (v := 0) (by decide) (dk_X3_become 10 _ rfl) ?_
  refine F_istore_n (lv' := [(3, .int 0), (0, .ref a0), (1, .int p1), (2, .int p2)]) (i := 3) (a := 3) rfl (by decide) rfl (dk_X3_become 11 _ rfl) ?_
  exact F_loc (List.forall_mem_cons.mpr ⟨(.tail _ (.head _)), (List.forall_mem_cons.mpr ⟨(.head _), (fun _ z => absurd z List.not_mem_nil)⟩)⟩) (j_X3_become_12   1000 _ _ _ (ha0))
def f_X3_holds (m : mM) (a0 : Nat) (p1 : Int32) (p2 : Int32) : fR Int32 :=
  (if p1 < 0 then some (0, m) else (if p2 < 0 then some (0, m) else (if (mI m (64 * a0 + 1)) < p2 then some (0, m) else (if ((mI m (64 * a0 + 1)) - p2) < p1 then some (0, m) else some (1, m)))))
theorem c_X3_holds (m : mM) (a0 : Nat) (p1 : Int32) (p2 : Int32) (ha0 : isC true 3 a0 = true) : cF true uI m_X3_holds 2 [.ref a0, .int p1, .int p2] m (f_X3_holds m a0 p1 p2) := by
  refine cF_of ok_X3_holds (fun _ _ => Nat.le_of_ble_eq_true rfl) ?_
  unfold f_X3_holds
  show JF _ _ _ _ _ [(0, .ref a0), (1, .int p1), (2, .int p2)] _ _ _
  refine F_iload_n (i := 1) (a := 1) rfl rfl (dk_X3_holds 0 _ rfl) ?_
  refine F_if_lt (tgt := 30) (by decide) (dk_X3_holds 1 _ rfl) ?_ ?_
  · refine F_iconst (v := 0) (by decide) (dk_X3_holds 30 _ rfl) ?_
    exact F_retB rfl (Or.inl rfl) (dk_X3_holds 31 _ rfl)
  · refine F_iload_n (i := 2) (a := 2) rfl rfl (dk_X3_holds 4 _ rfl) ?_
    refine F_if_lt (tgt := 30) (by decide) (dk_X3_holds 5 _ rfl) ?_ ?_
    · refine F_iconst (v := 0) (by decide) (dk_X3_holds 30 _ rfl) ?_
      exact F_retB rfl (Or.inl rfl) (dk_X3_holds 31 _ rfl)
    · refine F_iload_n (i := 2) (a := 2) rfl rfl (dk_X3_holds 8 _ rfl) ?_
      refine F_aload_n (i := 0) (a := 0) rfl rfl (dk_X3_holds 9 _ rfl) ?_
      refine F_gI (n := (64 * a0 + 1)) (lyP_1 ha0) rfl fl_3_19 (dk_X3_holds 10 _ rfl) ?_
      refine F_icmp_gt (tgt := 30) (by decide) (dk_X3_holds 13 _ rfl) ?_ ?_
      · refine F_iconst (v := 0) (by decide) (dk_X3_holds 30 _ rfl) ?_
        exact F_retB rfl (Or.inl rfl) (dk_X3_holds 31 _ rfl)
      · refine F_iload_n (i := 1) (a := 1) rfl rfl (dk_X3_holds 16 _ rfl) ?_
        refine F_aload_n (i := 0) (a := 0) rfl rfl (dk_X3_holds 17 _ rfl) ?_
        refine F_gI (n := (64 * a0 + 1)) (lyP_1 ha0) rfl fl_3_19 (dk_X3_holds 18 _ rfl) ?_
        refine F_iload_n (i := 2) (a := 2) rfl rfl (dk_X3_holds 21 _ rfl) ?_
        refine F_isub (dk_X3_holds 22 _ rfl) ?_
        refine F_icmp_gt (tgt := 30) (by decide) (dk_X3_holds 23 _ rfl) ?_ ?_
        · refine F_iconst (v := 0) (by decide) (dk_X3_holds 30 _ rfl) ?_
          exact F_retB rfl (Or.inl rfl) (dk_X3_holds 31 _ rfl)
        · refine F_iconst (v := 1) (by decide) (dk_X3_holds 26 _ rfl) ?_
          refine F_goto (tgt := 31) (by decide) (dk_X3_holds 27 _ rfl) ?_
          exact F_retB rfl (Or.inr rfl) (dk_X3_holds 31 _ rfl)
def f_X3_fitted (m : mM) (a0 : Nat) (p1 : Int64) : fR Int64 :=
  nmI ((mI m (64 * a0 + 0))) fun v1 => (if v1 = 0 then some ((((p1 : Int64).toInt32 : Int32).toInt8.toInt32 : Int32).toInt64, m) else if v1 = 1 then some ((((p1 : Int64).toInt32 : Int32).toInt16.toInt32 : Int32).toInt64, m) else if v1 = 2 then some (((p1 : Int64).toInt32 : Int32).toInt64, m) else if v1 = 4 then (if (lg_cmp p1 0) = 0 then some (0, m) else some (1, m)) else if v1 = 3 then some (p1, m) else some (p1, m))
theorem c_X3_fitted (m : mM) (a0 : Nat) (p1 : Int64) (ha0 : isC true 3 a0 = true) : cF true uL m_X3_fitted 2 [.ref a0, .long p1] m (f_X3_fitted m a0 p1) := by
  refine cF_of ok_X3_fitted (fun _ _ => Nat.le_of_ble_eq_true rfl) ?_
  unfold f_X3_fitted
  show JF _ _ _ _ _ [(0, .ref a0), (1, .long p1)] _ _ _
  refine F_aload_n (i := 0) (a := 0) rfl rfl (dk_X3_fitted 0 _ rfl) ?_
  refine F_gI (n := (64 * a0 + 0)) (lyP_0 ha0) rfl fl_3_9 (dk_X3_fitted 1 _ rfl) ?_
  refine F_nm (fun v1 => ?_)
  refine F_case (fun c2_0 => ?_) (fun c2_0 => ?_)
  · rw [c2_0]; refine F_tin (off := 36) (tgt := 40) (by decide) (by decide) rfl (by decide) (dk_X3_fitted 4 _ rfl) ?_
    refine F_lload_n (i := 1) (a := 1) rfl rfl (dk_X3_fitted 40 _ rfl) ?_
    refine F_l2i (dk_X3_fitted 41 _ rfl) ?_
    refine F_i2b (dk_X3_fitted 42 _ rfl) ?_
    refine F_i2l (dk_X3_fitted 43 _ rfl) ?_
    exact F_retL rfl (dk_X3_fitted 44 _ rfl)
  refine F_case (fun c2_1 => ?_) (fun c2_1 => ?_)
  · rw [c2_1]; refine F_tin (off := 41) (tgt := 45) (by decide) (by decide) rfl (by decide) (dk_X3_fitted 4 _ rfl) ?_
    refine F_lload_n (i := 1) (a := 1) rfl rfl (dk_X3_fitted 45 _ rfl) ?_
    refine F_l2i (dk_X3_fitted 46 _ rfl) ?_
    refine F_i2s (dk_X3_fitted 47 _ rfl) ?_
    refine F_i2l (dk_X3_fitted 48 _ rfl) ?_
    exact F_retL rfl (dk_X3_fitted 49 _ rfl)
  refine F_case (fun c2_2 => ?_) (fun c2_2 => ?_)
  · rw [c2_2]; refine F_tin (off := 46) (tgt := 50) (by decide) (by decide) rfl (by decide) (dk_X3_fitted 4 _ rfl) ?_
    refine F_lload_n (i := 1) (a := 1) rfl rfl (dk_X3_fitted 50 _ rfl) ?_
    refine F_l2i (dk_X3_fitted 51 _ rfl) ?_
    refine F_i2l (dk_X3_fitted 52 _ rfl) ?_
    exact F_retL rfl (dk_X3_fitted 53 _ rfl)
  refine F_case (fun c2_3 => ?_) (fun c2_3 => ?_)
  · rw [c2_3]; refine F_tin (off := 50) (tgt := 54) (by decide) (by decide) rfl (by decide) (dk_X3_fitted 4 _ rfl) ?_
    refine F_lload_n (i := 1) (a := 1) rfl rfl (dk_X3_fitted 54 _ rfl) ?_
    refine F_lconst (v := 0) (by decide) (dk_X3_fitted 55 _ rfl) ?_
    refine F_lcmp (dk_X3_fitted 56 _ rfl) ?_
    refine F_if_eq (tgt := 64) (by decide) (dk_X3_fitted 57 _ rfl) ?_ ?_
    · refine F_lconst (v := 0) (by decide) (dk_X3_fitted 64 _ rfl) ?_
      exact F_retL rfl (dk_X3_fitted 65 _ rfl)
    · refine F_lconst (v := 1) (by decide) (dk_X3_fitted 60 _ rfl) ?_
      refine F_goto (tgt := 65) (by decide) (dk_X3_fitted 61 _ rfl) ?_
      exact F_retL rfl (dk_X3_fitted 65 _ rfl)
  refine F_case (fun c2_4 => ?_) (fun c2_4 => ?_)
  · rw [c2_4]; refine F_tin (off := 62) (tgt := 66) (by decide) (by decide) rfl (by decide) (dk_X3_fitted 4 _ rfl) ?_
    refine F_lload_n (i := 1) (a := 1) rfl rfl (dk_X3_fitted 66 _ rfl) ?_
    exact F_retL rfl (dk_X3_fitted 67 _ rfl)
  refine F_tout (tgt := 66) (by have q0 := fI_ne c2_0; rw [show (0 : Int32).toInt = 0 from by decide] at q0; have q1 := fI_ne c2_1; rw [show (1 : Int32).toInt = 1 from by decide] at q1; have q2 := fI_ne c2_2; rw [show (2 : Int32).toInt = 2 from by decide] at q2; have q3 := fI_ne c2_3; rw [show (4 : Int32).toInt = 4 from by decide] at q3; have q4 := fI_ne c2_4; rw [show (3 : Int32).toInt = 3 from by decide] at q4; omega) (by decide) (dk_X3_fitted 4 _ rfl) ?_
  refine F_lload_n (i := 1) (a := 1) rfl rfl (dk_X3_fitted 66 _ rfl) ?_
  exact F_retL rfl (dk_X3_fitted 67 _ rfl)
def f_X4_next (m : mM)  : fR Int32 :=
  (if (mI m 131) = 0 then some ((-1), m) else (if (mI m 129) ≤ (mI m 130) then some ((-1), m) else (gA (mA m 3) (mI m 130)).bind fun x1 => some (x1, m)))
theorem c_X4_next (m : mM)   : cF true uI m_X4_next 2 [.ref 2] m (f_X4_next m ) := by
  refine cF_of ok_X4_next (fun _ _ => Nat.le_of_ble_eq_true rfl) ?_
  unfold f_X4_next
  show JF _ _ _ _ _ [(0, .ref 2)] _ _ _
  refine F_aload_n (i := 0) (a := 0) rfl rfl (dk_X4_next 0 _ rfl) ?_
  refine F_gI (n := 131) fxX_4_3_2 rfl fl_4_24 (dk_X4_next 1 _ rfl) ?_
  refine F_if_eq (tgt := 30) (by decide) (dk_X4_next 4 _ rfl) ?_ ?_
  · refine F_iconst (v := (-1)) (by decide) (dk_X4_next 30 _ rfl) ?_
    exact F_ret rfl (dk_X4_next 31 _ rfl)
  · refine F_aload_n (i := 0) (a := 0) rfl rfl (dk_X4_next 7 _ rfl) ?_
    refine F_gI (n := 130) fxX_4_2_2 rfl fl_4_20 (dk_X4_next 8 _ rfl) ?_
    refine F_aload_n (i := 0) (a := 0) rfl rfl (dk_X4_next 11 _ rfl) ?_
    refine F_gI (n := 129) fxX_4_1_2 rfl fl_4_32 (dk_X4_next 12 _ rfl) ?_
    refine F_icmp_ge (tgt := 30) (by decide) (dk_X4_next 15 _ rfl) ?_ ?_
    · refine F_iconst (v := (-1)) (by decide) (dk_X4_next 30 _ rfl) ?_
      exact F_ret rfl (dk_X4_next 31 _ rfl)
    · refine F_aload_n (i := 0) (a := 0) rfl rfl (dk_X4_next 18 _ rfl) ?_
      refine F_gR (b := 3) fxX_4_0_2 fl_4_9 (dk_X4_next 19 _ rfl) ?_
      refine F_aload_n (i := 0) (a := 0) rfl rfl (dk_X4_next 22 _ rfl) ?_
      refine F_gI (n := 130) fxX_4_2_2 rfl fl_4_20 (dk_X4_next 23 _ rfl) ?_
      refine F_bald (axX_2_3) (dk_X4_next 26 _ rfl) (fun x1 => ?_)
      refine F_goto (tgt := 31) (by decide) (dk_X4_next 27 _ rfl) ?_
      exact F_ret rfl (dk_X4_next 31 _ rfl)
def fb_X4_word_2 (K2 : mM → Nat → Int32 → fR Unit) (m : mM) (y1 : Nat) (y2 : Int32) : fR Unit :=
  (stL y1).bind fun x1 => (if x1 ≤ y2 then some ((), m) else bnd (f_X4_next m ) fun (x2 : Int32) (m3 : mM) => (stA y1 y2).bind fun x5 => (if x2 = x5 then nmM (wI m3 130 (((mI m3 130) + 1))) fun m7 => (K2 m7 y1 (y2 + 1)) else nmM (wI m3 131 0) fun m6 => (K2 m6 y1 (y2 + 1))))
def f_X4_word_2  : Nat → mM → Nat → Int32 → fR Unit
  | 0, _, _, _ => none
  | F + 1, m, y1, y2 => fb_X4_word_2  (f_X4_word_2  F) m y1 y2
theorem jb_X4_word_2 (K2 : mM → Nat → Int32 → fR Unit) (hK2 : ∀ (m : mM) (y1 : Nat) (y2 : Int32) , JF true uU m_X4_word 6 2 [(0, .ref 2), (1, .retAddr y1), (2, .int y2)] [] m (K2 m y1 y2)) (m : mM) (y1 : Nat) (y2 : Int32)  : JF true uU m_X4_word 6 2 [(0, .ref 2), (1, .retAddr y1), (2, .int y2)] [] m (fb_X4_word_2 K2 m y1 y2) := by
  unfold fb_X4_word_2
  refine F_iload_n (i := 2) (a := 2) rfl rfl (dk_X4_word 2 _ rfl) ?_
  refine F_sload_n (i := 1) (a := 1) rfl rfl (dk_X4_word 3 _ rfl) ?_
  refine F_slen ol_4_41 (Nat.le_of_ble_eq_true rfl) (by omega) (dk_X4_word 4 _ rfl) (fun x1 => ?_)
  refine F_icmp_ge (tgt := 46) (by decide) (dk_X4_word 7 _ rfl) ?_ ?_
  · exact F_retV rfl (dk_X4_word 46 _ rfl)
  · refine F_aload_n (i := 0) (a := 0) rfl rfl (dk_X4_word 10 _ rfl) ?_
    refine F_callV (ι' := uI) (ci := 4) (b := 2) (As := []) (d' := 2) (rfl) ok_X4_next vi_X4_next cl_4_46 (n := 0) (by decide +kernel) rfl rfl rfl (Nat.le_of_ble_eq_true rfl) (by omega) (dk_X4_word 11 _ rfl) (c_X4_next _  ) (fun x2 m3 => ?_)
    show JF _ _ _ _ _ _ [.int x2] _ _
    refine F_sload_n (i := 1) (a := 1) rfl rfl (dk_X4_word 14 _ rfl) ?_
    refine F_iload_n (i := 2) (a := 2) rfl rfl (dk_X4_word 15 _ rfl) ?_
    refine F_sat ol_4_49 (Nat.le_of_ble_eq_true rfl) (by omega) (dk_X4_word 16 _ rfl) (fun x5 => ?_)
    refine F_icmp_ne (tgt := 35) (by decide) (dk_X4_word 19 _ rfl) ?_ ?_
    · refine F_aload_n (i := 0) (a := 0) rfl rfl (dk_X4_word 35 _ rfl) ?_
      refine F_iconst (v := 0) (by decide) (dk_X4_word 36 _ rfl) ?_
      refine F_pI (n := 131) fxX_4_3_2 rfl fl_4_24 (fun q hq => by cases hq; rfl) (Or.inl rfl) (dk_X4_word 37 _ rfl) (fun m6 => ?_)
      refine F_iinc (i := 2) (n := 1) (v := (y2 + 1)) (lv' := [(2, .int (y2 + 1)), (0, .ref 2), (1, .retAddr y1)]) rfl (by first | rfl | decide) (by decide) rfl (dk_X4_word 40 _ rfl) ?_
      refine F_goto (tgt := 2) (by decide) (dk_X4_word 43 _ rfl) ?_
      exact F_loc (List.forall_mem_cons.mpr ⟨(.tail _ (.head _)), (List.forall_mem_cons.mpr ⟨(.tail _ (.tail _ (.head _))), (List.forall_mem_cons.mpr ⟨(.head _), (fun _ z => absurd z List.not_mem_nil)⟩)⟩)⟩) (hK2 _ _ _ )
    · refine F_aload_n (i := 0) (a := 0) rfl rfl (dk_X4_word 22 _ rfl) ?_
      refine F_dup rfl (dk_X4_word 23 _ rfl) ?_
      refine F_gI (n := 130) fxX_4_2_2 rfl fl_4_20 (dk_X4_word 24 _ rfl) ?_
      refine F_iconst (v := 1) (by decide) (dk_X4_word 27 _ rfl) ?_
      refine F_iadd (dk_X4_word 28 _ rfl) ?_
      refine F_pI (n := 130) fxX_4_2_2 rfl fl_4_20 (fun q hq => by cases hq; rfl) trivial (dk_X4_word 29 _ rfl) (fun m7 => ?_)
      refine F_goto (tgt := 40) (by decide) (dk_X4_word 32 _ rfl) ?_
      refine F_iinc (i := 2) (n := 1) (v := (y2 + 1)) (lv' := [(2, .int (y2 + 1)), (0, .ref 2), (1, .retAddr y1)]) rfl (by first | rfl | decide) (by decide) rfl (dk_X4_word 40 _ rfl) ?_
      refine F_goto (tgt := 2) (by decide) (dk_X4_word 43 _ rfl) ?_
      exact F_loc (List.forall_mem_cons.mpr ⟨(.tail _ (.head _)), (List.forall_mem_cons.mpr ⟨(.tail _ (.tail _ (.head _))), (List.forall_mem_cons.mpr ⟨(.head _), (fun _ z => absurd z List.not_mem_nil)⟩)⟩)⟩) (hK2 _ _ _ )
theorem j_X4_word_2   : ∀ (F : Nat) (m : mM) (y1 : Nat) (y2 : Int32) , JF true uU m_X4_word 6 2 [(0, .ref 2), (1, .retAddr y1), (2, .int y2)] [] m (f_X4_word_2  F m y1 y2) := by
  intro F
  induction F with
  | zero => intro m y1 y2 ; exact F_no
  | succ F ih => intro m y1 y2 ; exact jb_X4_word_2  (f_X4_word_2  F)  ih m y1 y2 
def f_X4_word (m : mM) (a1 : Nat) : fR Unit :=
  (f_X4_word_2  1000 m a1 0)
theorem c_X4_word (m : mM) (a1 : Nat)  : cF true uU m_X4_word 6 [.ref 2, .retAddr a1] m (f_X4_word m a1) := by
  refine cF_of ok_X4_word (fun _ _ => Nat.le_of_ble_eq_true rfl) ?_
  unfold f_X4_word
  show JF _ _ _ _ _ [(0, .ref 2), (1, .retAddr a1)] _ _ _
  refine F_iconst (v := 0) (by decide) (dk_X4_word 0 _ rfl) ?_
  refine F_istore_n (lv' := [(2, .int 0), (0, .ref 2), (1, .retAddr a1)]) (i := 2) (a := 2) rfl (by decide) rfl (dk_X4_word 1 _ rfl) ?_
  exact F_loc (List.forall_mem_cons.mpr ⟨(.tail _ (.head _)), (List.forall_mem_cons.mpr ⟨(.tail _ (.tail _ (.head _))), (List.forall_mem_cons.mpr ⟨(.head _), (fun _ z => absurd z List.not_mem_nil)⟩)⟩)⟩) (j_X4_word_2   1000 _ _ _ )
def f_X4_number_56  (m : mM) (y1 : Int32) (y2 : Int32) : fR Int32 :=
  (if y2 = 0 then nmM (wI m 131 0) fun m1 => some (y1, m1) else some (y1, m))
theorem j_X4_number_56   (m : mM) (y1 : Int32) (y2 : Int32)  : JF true uI m_X4_number 3 56 [(0, .ref 2), (1, .int y1), (2, .int y2)] [] m (f_X4_number_56  m y1 y2) := by
  unfold f_X4_number_56
  refine F_iload_n (i := 2) (a := 2) rfl rfl (dk_X4_number 56 _ rfl) ?_
  refine F_if_ne (tgt := 65) (by decide) (dk_X4_number 57 _ rfl) ?_ ?_
  · refine F_iload_n (i := 1) (a := 1) rfl rfl (dk_X4_number 65 _ rfl) ?_
    exact F_ret rfl (dk_X4_number 66 _ rfl)
  · refine F_aload_n (i := 0) (a := 0) rfl rfl (dk_X4_number 60 _ rfl) ?_
    refine F_iconst (v := 0) (by decide) (dk_X4_number 61 _ rfl) ?_
    refine F_pI (n := 131) fxX_4_3_2 rfl fl_4_24 (fun q hq => by cases hq; rfl) (Or.inl rfl) (dk_X4_number 62 _ rfl) (fun m1 => ?_)
    refine F_iload_n (i := 1) (a := 1) rfl rfl (dk_X4_number 65 _ rfl) ?_
    exact F_ret rfl (dk_X4_number 66 _ rfl)
def fb_X4_number_4 (K4 : mM → Int32 → Int32 → fR Int32) (m : mM) (y1 : Int32) (y2 : Int32) : fR Int32 :=
  (if 2 ≤ y2 then (f_X4_number_56  m y1 y2) else bnd (f_X4_next m ) fun (x2 : Int32) (m3 : mM) => (if x2 < 48 then (f_X4_number_56  m3 y1 y2) else bnd (f_X4_next m3 ) fun (x5 : Int32) (m6 : mM) => (if 57 < x5 then (f_X4_number_56  m6 y1 y2) else bnd (f_X4_next m6 ) fun (x8 : Int32) (m9 : mM) => nmI ((((10 * y1) + x8) - 48)) fun v11 => nmM (wI m9 130 (((mI m9 130) + 1))) fun m12 => (K4 m12 v11 (y2 + 1)))))
def f_X4_number_4  : Nat → mM → Int32 → Int32 → fR Int32
  | 0, _, _, _ => none
  | F + 1, m, y1, y2 => fb_X4_number_4  (f_X4_number_4  F) m y1 y2
theorem jb_X4_number_4 (K4 : mM → Int32 → Int32 → fR Int32) (hK4 : ∀ (m : mM) (y1 : Int32) (y2 : Int32) , JF true uI m_X4_number 3 4 [(0, .ref 2), (1, .int y1), (2, .int y2)] [] m (K4 m y1 y2)) (m : mM) (y1 : Int32) (y2 : Int32)  : JF true uI m_X4_number 3 4 [(0, .ref 2), (1, .int y1), (2, .int y2)] [] m (fb_X4_number_4 K4 m y1 y2) := by
  unfold fb_X4_number_4
  refine F_iload_n (i := 2) (a := 2) rfl rfl (dk_X4_number 4 _ rfl) ?_
  refine F_iconst (v := 2) (by decide) (dk_X4_number 5 _ rfl) ?_
  refine F_icmp_ge (tgt := 56) (by decide) (dk_X4_number 6 _ rfl) ?_ ?_
  · exact F_loc (fun _ z => z) (j_X4_number_56   _ _ _ )
  · refine F_aload_n (i := 0) (a := 0) rfl rfl (dk_X4_number 9 _ rfl) ?_
    refine F_callV (ι' := uI) (ci := 4) (b := 2) (As := []) (d' := 2) (rfl) ok_X4_next vi_X4_next cl_4_46 (n := 0) (by decide +kernel) rfl rfl rfl (Nat.le_of_ble_eq_true rfl) (by omega) (dk_X4_number 10 _ rfl) (c_X4_next _  ) (fun x2 m3 => ?_)
    show JF _ _ _ _ _ _ [.int x2] _ _
    refine F_bipush (v := 48) (by decide) (dk_X4_number 13 _ rfl) ?_
    refine F_icmp_lt (tgt := 56) (by decide) (dk_X4_number 15 _ rfl) ?_ ?_
    · exact F_loc (fun _ z => z) (j_X4_number_56   _ _ _ )
    · refine F_aload_n (i := 0) (a := 0) rfl rfl (dk_X4_number 18 _ rfl) ?_
      refine F_callV (ι' := uI) (ci := 4) (b := 2) (As := []) (d' := 2) (rfl) ok_X4_next vi_X4_next cl_4_46 (n := 0) (by decide +kernel) rfl rfl rfl (Nat.le_of_ble_eq_true rfl) (by omega) (dk_X4_number 19 _ rfl) (c_X4_next _  ) (fun x5 m6 => ?_)
      show JF _ _ _ _ _ _ [.int x5] _ _
      refine F_bipush (v := 57) (by decide) (dk_X4_number 22 _ rfl) ?_
      refine F_icmp_gt (tgt := 56) (by decide) (dk_X4_number 24 _ rfl) ?_ ?_
      · exact F_loc (fun _ z => z) (j_X4_number_56   _ _ _ )
      · refine F_bipush (v := 10) (by decide) (dk_X4_number 27 _ rfl) ?_
        refine F_iload_n (i := 1) (a := 1) rfl rfl (dk_X4_number 29 _ rfl) ?_
        refine F_imul (dk_X4_number 30 _ rfl) ?_
        refine F_aload_n (i := 0) (a := 0) rfl rfl (dk_X4_number 31 _ rfl) ?_
        refine F_callV (ι' := uI) (ci := 4) (b := 2) (As := []) (d' := 2) (rfl) ok_X4_next vi_X4_next cl_4_46 (n := 0) (by decide +kernel) rfl rfl rfl (Nat.le_of_ble_eq_true rfl) (by omega) (dk_X4_number 32 _ rfl) (c_X4_next _  ) (fun x8 m9 => ?_)
        show JF _ _ _ _ _ _ [.int x8, .int (10 * y1)] _ _
        refine F_iadd (dk_X4_number 35 _ rfl) ?_
        refine F_bipush (v := 48) (by decide) (dk_X4_number 36 _ rfl) ?_
        refine F_isub (dk_X4_number 38 _ rfl) ?_
        refine F_nm (fun v11 => ?_)
        refine F_istore_n (lv' := [(1, .int v11), (0, .ref 2), (2, .int y2)]) (i := 1) (a := 1) rfl (by decide) rfl (dk_X4_number 39 _ rfl) ?_
        refine F_aload_n (i := 0) (a := 0) rfl rfl (dk_X4_number 40 _ rfl) ?_
        refine F_dup rfl (dk_X4_number 41 _ rfl) ?_
        refine F_gI (n := 130) fxX_4_2_2 rfl fl_4_20 (dk_X4_number 42 _ rfl) ?_
        refine F_iconst (v := 1) (by decide) (dk_X4_number 45 _ rfl) ?_
        refine F_iadd (dk_X4_number 46 _ rfl) ?_
        refine F_pI (n := 130) fxX_4_2_2 rfl fl_4_20 (fun q hq => by cases hq; rfl) trivial (dk_X4_number 47 _ rfl) (fun m12 => ?_)
        refine F_iinc (i := 2) (n := 1) (v := (y2 + 1)) (lv' := [(2, .int (y2 + 1)), (1, .int v11), (0, .ref 2)]) rfl (by first | rfl | decide) (by decide) rfl (dk_X4_number 50 _ rfl) ?_
        refine F_goto (tgt := 4) (by decide) (dk_X4_number 53 _ rfl) ?_
        exact F_loc (List.forall_mem_cons.mpr ⟨(.tail _ (.tail _ (.head _))), (List.forall_mem_cons.mpr ⟨(.tail _ (.head _)), (List.forall_mem_cons.mpr ⟨(.head _), (fun _ z => absurd z List.not_mem_nil)⟩)⟩)⟩) (hK4 _ _ _ )
theorem j_X4_number_4   : ∀ (F : Nat) (m : mM) (y1 : Int32) (y2 : Int32) , JF true uI m_X4_number 3 4 [(0, .ref 2), (1, .int y1), (2, .int y2)] [] m (f_X4_number_4  F m y1 y2) := by
  intro F
  induction F with
  | zero => intro m y1 y2 ; exact F_no
  | succ F ih => intro m y1 y2 ; exact jb_X4_number_4  (f_X4_number_4  F)  ih m y1 y2 
def f_X4_number (m : mM)  : fR Int32 :=
  (f_X4_number_4  1000 m 0 0)
theorem c_X4_number (m : mM)   : cF true uI m_X4_number 3 [.ref 2] m (f_X4_number m ) := by
  refine cF_of ok_X4_number (fun _ _ => Nat.le_of_ble_eq_true rfl) ?_
  unfold f_X4_number
  show JF _ _ _ _ _ [(0, .ref 2)] _ _ _
  refine F_iconst (v := 0) (by decide) (dk_X4_number 0 _ rfl) ?_
  refine F_istore_n (lv' := [(1, .int 0), (0, .ref 2)]) (i := 1) (a := 1) rfl (by decide) rfl (dk_X4_number 1 _ rfl) ?_
  refine F_iconst (v := 0) (by decide) (dk_X4_number 2 _ rfl) ?_
  refine F_istore_n (lv' := [(2, .int 0), (1, .int 0), (0, .ref 2)]) (i := 2) (a := 2) rfl (by decide) rfl (dk_X4_number 3 _ rfl) ?_
  exact F_loc (List.forall_mem_cons.mpr ⟨(.tail _ (.tail _ (.head _))), (List.forall_mem_cons.mpr ⟨(.tail _ (.head _)), (List.forall_mem_cons.mpr ⟨(.head _), (fun _ z => absurd z List.not_mem_nil)⟩)⟩)⟩) (j_X4_number_4   1000 _ _ _ )
def f_X5_addTest (m : mM) (a0 : Nat) (p1 : Int32) (p2 : Int32) (p3 : Int32) : fR Unit :=
  (if 100 ≤ (mI m (64 * a0 + 4)) then some ((), m) else (sA 0 m (a0 + 1) ((mI m (64 * a0 + 4))) p1).bind fun m1 => (sA 0 m1 (a0 + 2) ((mI m1 (64 * a0 + 4))) p2).bind fun m2 => (sA 0 m2 (a0 + 3) ((mI m2 (64 * a0 + 4))) p3).bind fun m3 => nmM (wI m3 (64 * a0 + 4) (((mI m3 (64 * a0 + 4)) + 1))) fun m4 => some ((), m4))
theorem c_X5_addTest (m : mM) (a0 : Nat) (p1 : Int32) (p2 : Int32) (p3 : Int32) (ha0 : isC true 5 a0 = true) : cF true uU m_X5_addTest 2 [.ref a0, .int p1, .int p2, .int p3] m (f_X5_addTest m a0 p1 p2 p3) := by
  refine cF_of ok_X5_addTest (fun _ _ => Nat.le_of_ble_eq_true rfl) ?_
  unfold f_X5_addTest
  show JF _ _ _ _ _ [(0, .ref a0), (1, .int p1), (2, .int p2), (3, .int p3)] _ _ _
  refine F_aload_n (i := 0) (a := 0) rfl rfl (dk_X5_addTest 0 _ rfl) ?_
  refine F_gI (n := (64 * a0 + 4)) (lyT_4 ha0) rfl fl_5_43 (dk_X5_addTest 1 _ rfl) ?_
  refine F_bipush (v := 100) (by decide) (dk_X5_addTest 4 _ rfl) ?_
  refine F_icmp_ge (tgt := 49) (by decide) (dk_X5_addTest 6 _ rfl) ?_ ?_
  · exact F_retV rfl (dk_X5_addTest 49 _ rfl)
  · refine F_aload_n (i := 0) (a := 0) rfl rfl (dk_X5_addTest 9 _ rfl) ?_
    refine F_gR (b := (a0 + 1)) (lyT_5 ha0).1 fl_5_9 (dk_X5_addTest 10 _ rfl) ?_
    refine F_aload_n (i := 0) (a := 0) rfl rfl (dk_X5_addTest 13 _ rfl) ?_
    refine F_gI (n := (64 * a0 + 4)) (lyT_4 ha0) rfl fl_5_43 (dk_X5_addTest 14 _ rfl) ?_
    refine F_iload_n (i := 1) (a := 1) rfl rfl (dk_X5_addTest 17 _ rfl) ?_
    refine F_iast ((lyT_5 ha0).2) (dk_X5_addTest 18 _ rfl) (fun m1 => ?_)
    refine F_aload_n (i := 0) (a := 0) rfl rfl (dk_X5_addTest 19 _ rfl) ?_
    refine F_gR (b := (a0 + 2)) (lyT_6 ha0).1 fl_5_15 (dk_X5_addTest 20 _ rfl) ?_
    refine F_aload_n (i := 0) (a := 0) rfl rfl (dk_X5_addTest 23 _ rfl) ?_
    refine F_gI (n := (64 * a0 + 4)) (lyT_4 ha0) rfl fl_5_43 (dk_X5_addTest 24 _ rfl) ?_
    refine F_iload_n (i := 2) (a := 2) rfl rfl (dk_X5_addTest 27 _ rfl) ?_
    refine F_iast ((lyT_6 ha0).2) (dk_X5_addTest 28 _ rfl) (fun m2 => ?_)
    refine F_aload_n (i := 0) (a := 0) rfl rfl (dk_X5_addTest 29 _ rfl) ?_
    refine F_gR (b := (a0 + 3)) (lyT_7 ha0).1 fl_5_18 (dk_X5_addTest 30 _ rfl) ?_
    refine F_aload_n (i := 0) (a := 0) rfl rfl (dk_X5_addTest 33 _ rfl) ?_
    refine F_gI (n := (64 * a0 + 4)) (lyT_4 ha0) rfl fl_5_43 (dk_X5_addTest 34 _ rfl) ?_
    refine F_iload_n (i := 3) (a := 3) rfl rfl (dk_X5_addTest 37 _ rfl) ?_
    refine F_iast ((lyT_7 ha0).2) (dk_X5_addTest 38 _ rfl) (fun m3 => ?_)
    refine F_aload_n (i := 0) (a := 0) rfl rfl (dk_X5_addTest 39 _ rfl) ?_
    refine F_dup rfl (dk_X5_addTest 40 _ rfl) ?_
    refine F_gI (n := (64 * a0 + 4)) (lyT_4 ha0) rfl fl_5_43 (dk_X5_addTest 41 _ rfl) ?_
    refine F_iconst (v := 1) (by decide) (dk_X5_addTest 44 _ rfl) ?_
    refine F_iadd (dk_X5_addTest 45 _ rfl) ?_
    refine F_pI (n := (64 * a0 + 4)) (lyT_4 ha0) rfl fl_5_43 (fun q hq => by cases hq; rfl) trivial (dk_X5_addTest 46 _ rfl) (fun m4 => ?_)
    exact F_retV rfl (dk_X5_addTest 49 _ rfl)
def f_X5_addJoint (m : mM) (a0 : Nat) (p1 : Int32) : fR Unit :=
  bnd (f_X5_addTest m a0 p1 0 0) fun (x1 : Unit) (m2 : mM) => some ((), m2)
theorem c_X5_addJoint (m : mM) (a0 : Nat) (p1 : Int32) (ha0 : isC true 5 a0 = true) : cF true uU m_X5_addJoint 3 [.ref a0, .int p1] m (f_X5_addJoint m a0 p1) := by
  refine cF_of ok_X5_addJoint (fun _ _ => Nat.le_of_ble_eq_true rfl) ?_
  unfold f_X5_addJoint
  show JF _ _ _ _ _ [(0, .ref a0), (1, .int p1)] _ _ _
  refine F_aload_n (i := 0) (a := 0) rfl rfl (dk_X5_addJoint 0 _ rfl) ?_
  refine F_iload_n (i := 1) (a := 1) rfl rfl (dk_X5_addJoint 1 _ rfl) ?_
  refine F_iconst (v := 0) (by decide) (dk_X5_addJoint 2 _ rfl) ?_
  refine F_iconst (v := 0) (by decide) (dk_X5_addJoint 3 _ rfl) ?_
  refine F_callV (ι' := uU) (ci := 5) (b := a0) (As := [.int p1, .int 0, .int 0]) (d' := 2) (ha0) ok_X5_addTest vi_X5_addTest cl_5_46 (n := 3) (by decide +kernel) rfl rfl rfl (Nat.le_of_ble_eq_true rfl) (by omega) (dk_X5_addJoint 4 _ rfl) (c_X5_addTest _ _ _ _ _ (ha0)) (fun x1 m2 => ?_)
  show JF _ _ _ _ _ _ [] _ _
  exact F_retV rfl (dk_X5_addJoint 7 _ rfl)
def f_X4_either_99 (rc : mM → Nat → Int32 → fR Unit)  (m : mM) (y1 : Nat) (y3 : Int32) : fR Unit :=
  (if y3 = 0 then some ((), m) else bnd (f_X5_addJoint m y1 124) fun (x4 : Unit) (m5 : mM) => some ((), m5))
theorem j_X4_either_99 (rc : mM → Nat → Int32 → fR Unit) (dr : Nat) (hdr : 3 ≤ dr) (hrc : ∀ (m : mM) (b : Nat) (x : Int32) (_ : isC true 5 b = true), cF true uU m_X4_one dr [.ref 2, .ref b, .int x] m (rc m b x))   (m : mM) (y1 : Nat) (y3 : Int32) (hy1 : isC true 5 y1 = true) : JF true uU m_X4_either (dr + 1) 99 [(1, .ref y1), (3, .int y3)] [] m (f_X4_either_99 rc  m y1 y3) := by
  unfold f_X4_either_99
  refine F_iload_n (i := 3) (a := 3) rfl rfl (dk_X4_either 99 _ rfl) ?_
  refine F_if_eq (tgt := 109) (by decide) (dk_X4_either 100 _ rfl) ?_ ?_
  · exact F_retV rfl (dk_X4_either 109 _ rfl)
  · refine F_aload_n (i := 1) (a := 1) rfl rfl (dk_X4_either 103 _ rfl) ?_
    refine F_bipush (v := 124) (by decide) (dk_X4_either 104 _ rfl) ?_
    refine F_callV (ι' := uU) (ci := 5) (b := y1) (As := [.int 124]) (d' := 3) (hy1) ok_X5_addJoint vi_X5_addJoint cl_4_86 (n := 1) (by decide +kernel) rfl rfl rfl (Nat.le_of_ble_eq_true rfl) (by omega) (dk_X4_either 106 _ rfl) (c_X5_addJoint _ _ _ (hy1)) (fun x4 m5 => ?_)
    show JF _ _ _ _ _ _ [] _ _
    exact F_retV rfl (dk_X4_either 109 _ rfl)
def f_X4_either_69 (rc : mM → Nat → Int32 → fR Unit) (K11 : mM → Nat → Int32 → Int32 → Int32 → fR Unit) (m : mM) (y1 : Nat) (y2 : Int32) (y3 : Int32) (y4 : Int32) (y5 : Int32) : fR Unit :=
  bnd (rc m y1 y2) fun (x14 : Unit) (m15 : mM) => (if y5 = 38 then bnd (f_X5_addJoint m15 y1 38) fun (x17 : Unit) (m18 : mM) => (K11 m18 y1 y2 y3 (y4 + 1)) else (K11 m15 y1 y2 1 (y4 + 1)))
theorem j_X4_either_69 (rc : mM → Nat → Int32 → fR Unit) (dr : Nat) (hdr : 3 ≤ dr) (hrc : ∀ (m : mM) (b : Nat) (x : Int32) (_ : isC true 5 b = true), cF true uU m_X4_one dr [.ref 2, .ref b, .int x] m (rc m b x)) (K11 : mM → Nat → Int32 → Int32 → Int32 → fR Unit) (hK11 : ∀ (m : mM) (y1 : Nat) (y2 : Int32) (y3 : Int32) (y4 : Int32) (hy1 : isC true 5 y1 = true), JF true uU m_X4_either (dr + 1) 11 [(0, .ref 2), (1, .ref y1), (2, .int y2), (3, .int y3), (4, .int y4)] [] m (K11 m y1 y2 y3 y4)) (m : mM) (y1 : Nat) (y2 : Int32) (y3 : Int32) (y4 : Int32) (y5 : Int32) (hy1 : isC true 5 y1 = true) : JF true uU m_X4_either (dr + 1) 69 [(0, .ref 2), (1, .ref y1), (2, .int y2), (3, .int y3), (4, .int y4), (5, .int y5)] [] m (f_X4_either_69 rc K11 m y1 y2 y3 y4 y5) := by
  unfold f_X4_either_69
  refine F_aload_n (i := 0) (a := 0) rfl rfl (dk_X4_either 69 _ rfl) ?_
  refine F_aload_n (i := 1) (a := 1) rfl rfl (dk_X4_either 70 _ rfl) ?_
  refine F_iload_n (i := 2) (a := 2) rfl rfl (dk_X4_either 71 _ rfl) ?_
  refine F_callV (ι' := uU) (ci := 4) (b := 2) (As := [.ref y1, .int y2]) (d' := dr) (rfl) ok_X4_one vi_X4_one cl_4_83 (n := 2) (by decide +kernel) rfl rfl rfl (Nat.le_of_ble_eq_true rfl) (by omega) (dk_X4_either 72 _ rfl) (hrc _ _ _ (hy1)) (fun x14 m15 => ?_)
  show JF _ _ _ _ _ _ [] _ _
  refine F_iload (i := 5) rfl (dk_X4_either 75 _ rfl) ?_
  refine F_bipush (v := 38) (by decide) (dk_X4_either 77 _ rfl) ?_
  refine F_icmp_ne (tgt := 91) (by decide) (dk_X4_either 79 _ rfl) ?_ ?_
  · refine F_iconst (v := 1) (by decide) (dk_X4_either 91 _ rfl) ?_
    refine F_istore_n (lv' := [(3, .int 1), (0, .ref 2), (1, .ref y1), (2, .int y2), (4, .int y4), (5, .int y5)]) (i := 3) (a := 3) rfl (by decide) rfl (dk_X4_either 92 _ rfl) ?_
    refine F_iinc (i := 4) (n := 1) (v := (y4 + 1)) (lv' := [(4, .int (y4 + 1)), (3, .int 1), (0, .ref 2), (1, .ref y1), (2, .int y2), (5, .int y5)]) rfl (by first | rfl | decide) (by decide) rfl (dk_X4_either 93 _ rfl) ?_
    refine F_goto (tgt := 11) (by decide) (dk_X4_either 96 _ rfl) ?_
    exact F_loc (List.forall_mem_cons.mpr ⟨(.tail _ (.tail _ (.head _))), (List.forall_mem_cons.mpr ⟨(.tail _ (.tail _ (.tail _ (.head _)))), (List.forall_mem_cons.mpr ⟨(.tail _ (.tail _ (.tail _ (.tail _ (.head _))))), (List.forall_mem_cons.mpr ⟨(.tail _ (.head _)), (List.forall_mem_cons.mpr ⟨(.head _), (fun _ z => absurd z List.not_mem_nil)⟩)⟩)⟩)⟩)⟩) (hK11 _ _ _ _ _ (hy1))
  · refine F_aload_n (i := 1) (a := 1) rfl rfl (dk_X4_either 82 _ rfl) ?_
    refine F_bipush (v := 38) (by decide) (dk_X4_either 83 _ rfl) ?_
    refine F_callV (ι' := uU) (ci := 5) (b := y1) (As := [.int 38]) (d' := 3) (hy1) ok_X5_addJoint vi_X5_addJoint cl_4_86 (n := 1) (by decide +kernel) rfl rfl rfl (Nat.le_of_ble_eq_true rfl) (by omega) (dk_X4_either 85 _ rfl) (c_X5_addJoint _ _ _ (hy1)) (fun x17 m18 => ?_)
    show JF _ _ _ _ _ _ [] _ _
    refine F_goto (tgt := 93) (by decide) (dk_X4_either 88 _ rfl) ?_
    refine F_iinc (i := 4) (n := 1) (v := (y4 + 1)) (lv' := [(4, .int (y4 + 1)), (0, .ref 2), (1, .ref y1), (2, .int y2), (3, .int y3), (5, .int y5)]) rfl (by first | rfl | decide) (by decide) rfl (dk_X4_either 93 _ rfl) ?_
    refine F_goto (tgt := 11) (by decide) (dk_X4_either 96 _ rfl) ?_
    exact F_loc (List.forall_mem_cons.mpr ⟨(.tail _ (.head _)), (List.forall_mem_cons.mpr ⟨(.tail _ (.tail _ (.head _))), (List.forall_mem_cons.mpr ⟨(.tail _ (.tail _ (.tail _ (.head _)))), (List.forall_mem_cons.mpr ⟨(.tail _ (.tail _ (.tail _ (.tail _ (.head _))))), (List.forall_mem_cons.mpr ⟨(.head _), (fun _ z => absurd z List.not_mem_nil)⟩)⟩)⟩)⟩)⟩) (hK11 _ _ _ _ _ (hy1))
def f_X4_either_36 (rc : mM → Nat → Int32 → fR Unit) (K11 : mM → Nat → Int32 → Int32 → Int32 → fR Unit) (m : mM) (y1 : Nat) (y2 : Int32) (y3 : Int32) (y4 : Int32) : fR Unit :=
  bnd (f_X4_next m ) fun (x10 : Int32) (m11 : mM) => nmM (wI m11 130 (((mI m11 130) + 1))) fun m13 => (if x10 = 124 then (if y3 = 0 then (f_X4_either_69 rc K11 m13 y1 y2 y3 y4 x10) else bnd (f_X5_addJoint m13 y1 124) fun (x20 : Unit) (m21 : mM) => (f_X4_either_69 rc K11 m21 y1 y2 y3 y4 x10)) else (f_X4_either_69 rc K11 m13 y1 y2 y3 y4 x10))
theorem j_X4_either_36 (rc : mM → Nat → Int32 → fR Unit) (dr : Nat) (hdr : 3 ≤ dr) (hrc : ∀ (m : mM) (b : Nat) (x : Int32) (_ : isC true 5 b = true), cF true uU m_X4_one dr [.ref 2, .ref b, .int x] m (rc m b x)) (K11 : mM → Nat → Int32 → Int32 → Int32 → fR Unit) (hK11 : ∀ (m : mM) (y1 : Nat) (y2 : Int32) (y3 : Int32) (y4 : Int32) (hy1 : isC true 5 y1 = true), JF true uU m_X4_either (dr + 1) 11 [(0, .ref 2), (1, .ref y1), (2, .int y2), (3, .int y3), (4, .int y4)] [] m (K11 m y1 y2 y3 y4)) (m : mM) (y1 : Nat) (y2 : Int32) (y3 : Int32) (y4 : Int32) (hy1 : isC true 5 y1 = true) : JF true uU m_X4_either (dr + 1) 36 [(0, .ref 2), (1, .ref y1), (2, .int y2), (3, .int y3), (4, .int y4)] [] m (f_X4_either_36 rc K11 m y1 y2 y3 y4) := by
  unfold f_X4_either_36
  refine F_aload_n (i := 0) (a := 0) rfl rfl (dk_X4_either 36 _ rfl) ?_
  refine F_callV (ι' := uI) (ci := 4) (b := 2) (As := []) (d' := 2) (rfl) ok_X4_next vi_X4_next cl_4_46 (n := 0) (by decide +kernel) rfl rfl rfl (Nat.le_of_ble_eq_true rfl) (by omega) (dk_X4_either 37 _ rfl) (c_X4_next _  ) (fun x10 m11 => ?_)
  show JF _ _ _ _ _ _ [.int x10] _ _
  refine F_istore (lv' := [(5, .int x10), (0, .ref 2), (1, .ref y1), (2, .int y2), (3, .int y3), (4, .int y4)]) (i := 5) (by decide) rfl (dk_X4_either 40 _ rfl) ?_
  refine F_aload_n (i := 0) (a := 0) rfl rfl (dk_X4_either 42 _ rfl) ?_
  refine F_dup rfl (dk_X4_either 43 _ rfl) ?_
  refine F_gI (n := 130) fxX_4_2_2 rfl fl_4_20 (dk_X4_either 44 _ rfl) ?_
  refine F_iconst (v := 1) (by decide) (dk_X4_either 47 _ rfl) ?_
  refine F_iadd (dk_X4_either 48 _ rfl) ?_
  refine F_pI (n := 130) fxX_4_2_2 rfl fl_4_20 (fun q hq => by cases hq; rfl) trivial (dk_X4_either 49 _ rfl) (fun m13 => ?_)
  refine F_iload (i := 5) rfl (dk_X4_either 52 _ rfl) ?_
  refine F_bipush (v := 124) (by decide) (dk_X4_either 54 _ rfl) ?_
  refine F_icmp_ne (tgt := 69) (by decide) (dk_X4_either 56 _ rfl) ?_ ?_
  · exact F_loc (List.forall_mem_cons.mpr ⟨(.tail _ (.head _)), (List.forall_mem_cons.mpr ⟨(.tail _ (.tail _ (.head _))), (List.forall_mem_cons.mpr ⟨(.tail _ (.tail _ (.tail _ (.head _)))), (List.forall_mem_cons.mpr ⟨(.tail _ (.tail _ (.tail _ (.tail _ (.head _))))), (List.forall_mem_cons.mpr ⟨(.tail _ (.tail _ (.tail _ (.tail _ (.tail _ (.head _)))))), (List.forall_mem_cons.mpr ⟨(.head _), (fun _ z => absurd z List.not_mem_nil)⟩)⟩)⟩)⟩)⟩)⟩) (j_X4_either_69 rc dr hdr hrc K11 hK11 _ _ _ _ _ _ (hy1))
  · refine F_iload_n (i := 3) (a := 3) rfl rfl (dk_X4_either 59 _ rfl) ?_
    refine F_if_eq (tgt := 69) (by decide) (dk_X4_either 60 _ rfl) ?_ ?_
    · exact F_loc (List.forall_mem_cons.mpr ⟨(.tail _ (.head _)), (List.forall_mem_cons.mpr ⟨(.tail _ (.tail _ (.head _))), (List.forall_mem_cons.mpr ⟨(.tail _ (.tail _ (.tail _ (.head _)))), (List.forall_mem_cons.mpr ⟨(.tail _ (.tail _ (.tail _ (.tail _ (.head _))))), (List.forall_mem_cons.mpr ⟨(.tail _ (.tail _ (.tail _ (.tail _ (.tail _ (.head _)))))), (List.forall_mem_cons.mpr ⟨(.head _), (fun _ z => absurd z List.not_mem_nil)⟩)⟩)⟩)⟩)⟩)⟩) (j_X4_either_69 rc dr hdr hrc K11 hK11 _ _ _ _ _ _ (hy1))
    · refine F_aload_n (i := 1) (a := 1) rfl rfl (dk_X4_either 63 _ rfl) ?_
      refine F_bipush (v := 124) (by decide) (dk_X4_either 64 _ rfl) ?_
      refine F_callV (ι' := uU) (ci := 5) (b := y1) (As := [.int 124]) (d' := 3) (hy1) ok_X5_addJoint vi_X5_addJoint cl_4_86 (n := 1) (by decide +kernel) rfl rfl rfl (Nat.le_of_ble_eq_true rfl) (by omega) (dk_X4_either 66 _ rfl) (c_X5_addJoint _ _ _ (hy1)) (fun x20 m21 => ?_)
      show JF _ _ _ _ _ _ [] _ _
      exact F_loc (List.forall_mem_cons.mpr ⟨(.tail _ (.head _)), (List.forall_mem_cons.mpr ⟨(.tail _ (.tail _ (.head _))), (List.forall_mem_cons.mpr ⟨(.tail _ (.tail _ (.tail _ (.head _)))), (List.forall_mem_cons.mpr ⟨(.tail _ (.tail _ (.tail _ (.tail _ (.head _))))), (List.forall_mem_cons.mpr ⟨(.tail _ (.tail _ (.tail _ (.tail _ (.tail _ (.head _)))))), (List.forall_mem_cons.mpr ⟨(.head _), (fun _ z => absurd z List.not_mem_nil)⟩)⟩)⟩)⟩)⟩)⟩) (j_X4_either_69 rc dr hdr hrc K11 hK11 _ _ _ _ _ _ (hy1))
def fb_X4_either_11 (rc : mM → Nat → Int32 → fR Unit) (K11 : mM → Nat → Int32 → Int32 → Int32 → fR Unit) (m : mM) (y1 : Nat) (y2 : Int32) (y3 : Int32) (y4 : Int32) : fR Unit :=
  (if 100 ≤ y4 then (f_X4_either_99 rc  m y1 y3) else bnd (f_X4_next m ) fun (x7 : Int32) (m8 : mM) => (if x7 = 38 then (f_X4_either_36 rc K11 m8 y1 y2 y3 y4) else bnd (f_X4_next m8 ) fun (x23 : Int32) (m24 : mM) => (if x23 = 124 then (f_X4_either_36 rc K11 m24 y1 y2 y3 y4) else (f_X4_either_99 rc  m24 y1 y3))))
def f_X4_either_11 (rc : mM → Nat → Int32 → fR Unit)  : Nat → mM → Nat → Int32 → Int32 → Int32 → fR Unit
  | 0, _, _, _, _, _ => none
  | F + 1, m, y1, y2, y3, y4 => fb_X4_either_11 rc  (f_X4_either_11 rc  F) m y1 y2 y3 y4
theorem jb_X4_either_11 (rc : mM → Nat → Int32 → fR Unit) (dr : Nat) (hdr : 3 ≤ dr) (hrc : ∀ (m : mM) (b : Nat) (x : Int32) (_ : isC true 5 b = true), cF true uU m_X4_one dr [.ref 2, .ref b, .int x] m (rc m b x)) (K11 : mM → Nat → Int32 → Int32 → Int32 → fR Unit) (hK11 : ∀ (m : mM) (y1 : Nat) (y2 : Int32) (y3 : Int32) (y4 : Int32) (hy1 : isC true 5 y1 = true), JF true uU m_X4_either (dr + 1) 11 [(0, .ref 2), (1, .ref y1), (2, .int y2), (3, .int y3), (4, .int y4)] [] m (K11 m y1 y2 y3 y4)) (m : mM) (y1 : Nat) (y2 : Int32) (y3 : Int32) (y4 : Int32) (hy1 : isC true 5 y1 = true) : JF true uU m_X4_either (dr + 1) 11 [(0, .ref 2), (1, .ref y1), (2, .int y2), (3, .int y3), (4, .int y4)] [] m (fb_X4_either_11 rc K11 m y1 y2 y3 y4) := by
  unfold fb_X4_either_11
  refine F_iload (i := 4) rfl (dk_X4_either 11 _ rfl) ?_
  refine F_bipush (v := 100) (by decide) (dk_X4_either 13 _ rfl) ?_
  refine F_icmp_ge (tgt := 99) (by decide) (dk_X4_either 15 _ rfl) ?_ ?_
  · exact F_loc (List.forall_mem_cons.mpr ⟨(.tail _ (.head _)), (List.forall_mem_cons.mpr ⟨(.tail _ (.tail _ (.tail _ (.head _)))), (fun _ z => absurd z List.not_mem_nil)⟩)⟩) (j_X4_either_99 rc dr hdr hrc   _ _ _ (hy1))
  · refine F_aload_n (i := 0) (a := 0) rfl rfl (dk_X4_either 18 _ rfl) ?_
    refine F_callV (ι' := uI) (ci := 4) (b := 2) (As := []) (d' := 2) (rfl) ok_X4_next vi_X4_next cl_4_46 (n := 0) (by decide +kernel) rfl rfl rfl (Nat.le_of_ble_eq_true rfl) (by omega) (dk_X4_either 19 _ rfl) (c_X4_next _  ) (fun x7 m8 => ?_)
    show JF _ _ _ _ _ _ [.int x7] _ _
    refine F_bipush (v := 38) (by decide) (dk_X4_either 22 _ rfl) ?_
    refine F_icmp_eq (tgt := 36) (by decide) (dk_X4_either 24 _ rfl) ?_ ?_
    · exact F_loc (fun _ z => z) (j_X4_either_36 rc dr hdr hrc K11 hK11 _ _ _ _ _ (hy1))
    · refine F_aload_n (i := 0) (a := 0) rfl rfl (dk_X4_either 27 _ rfl) ?_
      refine F_callV (ι' := uI) (ci := 4) (b := 2) (As := []) (d' := 2) (rfl) ok_X4_next vi_X4_next cl_4_46 (n := 0) (by decide +kernel) rfl rfl rfl (Nat.le_of_ble_eq_true rfl) (by omega) (dk_X4_either 28 _ rfl) (c_X4_next _  ) (fun x23 m24 => ?_)
      show JF _ _ _ _ _ _ [.int x23] _ _
      refine F_bipush (v := 124) (by decide) (dk_X4_either 31 _ rfl) ?_
      refine F_icmp_ne (tgt := 99) (by decide) (dk_X4_either 33 _ rfl) ?_ ?_
      · exact F_loc (List.forall_mem_cons.mpr ⟨(.tail _ (.head _)), (List.forall_mem_cons.mpr ⟨(.tail _ (.tail _ (.tail _ (.head _)))), (fun _ z => absurd z List.not_mem_nil)⟩)⟩) (j_X4_either_99 rc dr hdr hrc   _ _ _ (hy1))
      · exact F_loc (fun _ z => z) (j_X4_either_36 rc dr hdr hrc K11 hK11 _ _ _ _ _ (hy1))
theorem j_X4_either_11 (rc : mM → Nat → Int32 → fR Unit) (dr : Nat) (hdr : 3 ≤ dr) (hrc : ∀ (m : mM) (b : Nat) (x : Int32) (_ : isC true 5 b = true), cF true uU m_X4_one dr [.ref 2, .ref b, .int x] m (rc m b x))   : ∀ (F : Nat) (m : mM) (y1 : Nat) (y2 : Int32) (y3 : Int32) (y4 : Int32) (hy1 : isC true 5 y1 = true), JF true uU m_X4_either (dr + 1) 11 [(0, .ref 2), (1, .ref y1), (2, .int y2), (3, .int y3), (4, .int y4)] [] m (f_X4_either_11 rc  F m y1 y2 y3 y4) := by
  intro F
  induction F with
  | zero => intro m y1 y2 y3 y4 hy1; exact F_no
  | succ F ih => intro m y1 y2 y3 y4 hy1; exact jb_X4_either_11 rc dr hdr hrc  (f_X4_either_11 rc  F)  ih m y1 y2 y3 y4 hy1
def f_X4_either (rc : mM → Nat → Int32 → fR Unit) (m : mM) (a1 : Nat) (p2 : Int32) : fR Unit :=
  bnd (rc m a1 p2) fun (x1 : Unit) (m2 : mM) => (f_X4_either_11 rc  1000 m2 a1 p2 0 0)
theorem c_X4_either (rc : mM → Nat → Int32 → fR Unit) (dr : Nat) (hdr : 3 ≤ dr) (hrc : ∀ (m : mM) (b : Nat) (x : Int32) (_ : isC true 5 b = true), cF true uU m_X4_one dr [.ref 2, .ref b, .int x] m (rc m b x)) (m : mM) (a1 : Nat) (p2 : Int32) (ha1 : isC true 5 a1 = true) : cF true uU m_X4_either (dr + 1) [.ref 2, .ref a1, .int p2] m (f_X4_either rc m a1 p2) := by
  refine cF_of ok_X4_either (fun _ _ => Nat.le_of_ble_eq_true rfl) ?_
  unfold f_X4_either
  show JF _ _ _ _ _ [(0, .ref 2), (1, .ref a1), (2, .int p2)] _ _ _
  refine F_aload_n (i := 0) (a := 0) rfl rfl (dk_X4_either 0 _ rfl) ?_
  refine F_aload_n (i := 1) (a := 1) rfl rfl (dk_X4_either 1 _ rfl) ?_
  refine F_iload_n (i := 2) (a := 2) rfl rfl (dk_X4_either 2 _ rfl) ?_
  refine F_callV (ι' := uU) (ci := 4) (b := 2) (As := [.ref a1, .int p2]) (d' := dr) (rfl) ok_X4_one vi_X4_one cl_4_83 (n := 2) (by decide +kernel) rfl rfl rfl (Nat.le_of_ble_eq_true rfl) (by omega) (dk_X4_either 3 _ rfl) (hrc _ _ _ (ha1)) (fun x1 m2 => ?_)
  show JF _ _ _ _ _ _ [] _ _
  refine F_iconst (v := 0) (by decide) (dk_X4_either 6 _ rfl) ?_
  refine F_istore_n (lv' := [(3, .int 0), (0, .ref 2), (1, .ref a1), (2, .int p2)]) (i := 3) (a := 3) rfl (by decide) rfl (dk_X4_either 7 _ rfl) ?_
  refine F_iconst (v := 0) (by decide) (dk_X4_either 8 _ rfl) ?_
  refine F_istore (lv' := [(4, .int 0), (3, .int 0), (0, .ref 2), (1, .ref a1), (2, .int p2)]) (i := 4) (by decide) rfl (dk_X4_either 9 _ rfl) ?_
  exact F_loc (List.forall_mem_cons.mpr ⟨(.tail _ (.tail _ (.head _))), (List.forall_mem_cons.mpr ⟨(.tail _ (.tail _ (.tail _ (.head _)))), (List.forall_mem_cons.mpr ⟨(.tail _ (.tail _ (.tail _ (.tail _ (.head _))))), (List.forall_mem_cons.mpr ⟨(.tail _ (.head _)), (List.forall_mem_cons.mpr ⟨(.head _), (fun _ z => absurd z List.not_mem_nil)⟩)⟩)⟩)⟩)⟩) (j_X4_either_11 rc dr hdr hrc   1000 _ _ _ _ _ (ha1))
end
