section
set_option maxRecDepth 100000
def f_X1_putOff (m : mM) (p1 : Int32) : fR Int32 :=
  (gA (mA m 44) p1).bind fun x1 => chR true 2 (mR m 2624) fun r2 => (gA (mA m (r2 + 4)) p1).bind fun x3 => (rmI (((x1 - x3) + 12)) 12).bind fun x4 => some (x4, m)
theorem c_X1_putOff (m : mM) (p1 : Int32)  : cF true uI m_X1_putOff 2 [.ref 41, .int p1] m (f_X1_putOff m p1) := by
  refine cF_of ok_X1_putOff (fun _ _ => Nat.le_of_ble_eq_true rfl) ?_
  unfold f_X1_putOff
  show JF _ _ _ _ _ [(0, .ref 41), (1, .int p1)] _ _ _
  refine F_aload_n (i := 0) (a := 0) rfl rfl (dk_X1_putOff 0 _ rfl) ?_
  refine F_gR (b := 44) fxX_1_7_41 fl_1_18 (dk_X1_putOff 1 _ rfl) ?_
  refine F_iload_n (i := 1) (a := 1) rfl rfl (dk_X1_putOff 4 _ rfl) ?_
  refine F_iald (axX_0_44) (dk_X1_putOff 5 _ rfl) (fun x1 => ?_)
  refine F_aload_n (i := 0) (a := 0) rfl rfl (dk_X1_putOff 6 _ rfl) ?_
  refine F_gV (n := 2624) fxX_1_0_41 rfl fl_1_24 (dk_X1_putOff 7 _ rfl) ?_
  refine F_ch (fun r2 hr2 => ?_)
  refine F_gR (b := (r2 + 4)) (lyS_8 hr2).1 fl_1_87 (dk_X1_putOff 10 _ rfl) ?_
  refine F_iload_n (i := 1) (a := 1) rfl rfl (dk_X1_putOff 13 _ rfl) ?_
  refine F_iald ((lyS_8 hr2).2) (dk_X1_putOff 14 _ rfl) (fun x3 => ?_)
  refine F_isub (dk_X1_putOff 15 _ rfl) ?_
  refine F_bipush (v := 12) (by decide) (dk_X1_putOff 16 _ rfl) ?_
  refine F_iadd (dk_X1_putOff 18 _ rfl) ?_
  refine F_bipush (v := 12) (by decide) (dk_X1_putOff 19 _ rfl) ?_
  refine F_irem (dk_X1_putOff 21 _ rfl) (fun x4 => ?_)
  exact F_ret rfl (dk_X1_putOff 22 _ rfl)
def f_X1_valueOf (m : mM) (p1 : Int32) (p2 : Int32) (p3 : Int32) : fR Int32 :=
  (if p1 = 99 then (gA (mA m 45) p3).bind fun x2 => some (x2, m) else if p1 = 100 then some (p3, m) else if p1 = 107 then chR true 2 (mR m 2624) fun r3 => (gA (mA m (r3 + 1)) p2).bind fun x4 => some (x4, m) else if p1 = 112 then some (p2, m) else if p1 = 121 then (rmI (mI m 2627) 10).bind fun x5 => some (x5, m) else chR true 2 (mR m 2624) fun r6 => (gA (mA m (r6 + 3)) p2).bind fun x7 => some (x7, m))
theorem c_X1_valueOf (m : mM) (p1 : Int32) (p2 : Int32) (p3 : Int32)  : cF true uI m_X1_valueOf 2 [.ref 41, .int p1, .int p2, .int p3] m (f_X1_valueOf m p1 p2 p3) := by
  refine cF_of ok_X1_valueOf (fun _ _ => Nat.le_of_ble_eq_true rfl) ?_
  unfold f_X1_valueOf
  show JF _ _ _ _ _ [(0, .ref 41), (1, .int p1), (2, .int p2), (3, .int p3)] _ _ _
  refine F_iload_n (i := 1) (a := 1) rfl rfl (dk_X1_valueOf 0 _ rfl) ?_
  refine F_case (fun c1_0 => ?_) (fun c1_0 => ?_)
  · rw [c1_0]; refine F_look (off := 65) (tgt := 66) (by decide) (by decide) (by decide) (dk_X1_valueOf 1 _ rfl) ?_
    refine F_aload_n (i := 0) (a := 0) rfl rfl (dk_X1_valueOf 66 _ rfl) ?_
    refine F_gR (b := 45) fxX_1_8_41 fl_1_21 (dk_X1_valueOf 67 _ rfl) ?_
    refine F_iload_n (i := 3) (a := 3) rfl rfl (dk_X1_valueOf 70 _ rfl) ?_
    refine F_iald (axX_0_45) (dk_X1_valueOf 71 _ rfl) (fun x2 => ?_)
    exact F_ret rfl (dk_X1_valueOf 72 _ rfl)
  refine F_case (fun c1_1 => ?_) (fun c1_1 => ?_)
  · rw [c1_1]; refine F_look (off := 63) (tgt := 64) (by decide) (by decide) (by decide) (dk_X1_valueOf 1 _ rfl) ?_
    refine F_iload_n (i := 3) (a := 3) rfl rfl (dk_X1_valueOf 64 _ rfl) ?_
    exact F_ret rfl (dk_X1_valueOf 65 _ rfl)
  refine F_case (fun c1_2 => ?_) (fun c1_2 => ?_)
  · rw [c1_2]; refine F_look (off := 53) (tgt := 54) (by decide) (by decide) (by decide) (dk_X1_valueOf 1 _ rfl) ?_
    refine F_aload_n (i := 0) (a := 0) rfl rfl (dk_X1_valueOf 54 _ rfl) ?_
    refine F_gV (n := 2624) fxX_1_0_41 rfl fl_1_24 (dk_X1_valueOf 55 _ rfl) ?_
    refine F_ch (fun r3 hr3 => ?_)
    refine F_gR (b := (r3 + 1)) (lyS_5 hr3).1 fl_1_93 (dk_X1_valueOf 58 _ rfl) ?_
    refine F_iload_n (i := 2) (a := 2) rfl rfl (dk_X1_valueOf 61 _ rfl) ?_
    refine F_iald ((lyS_5 hr3).2) (dk_X1_valueOf 62 _ rfl) (fun x4 => ?_)
    exact F_ret rfl (dk_X1_valueOf 63 _ rfl)
  refine F_case (fun c1_3 => ?_) (fun c1_3 => ?_)
  · rw [c1_3]; refine F_look (off := 51) (tgt := 52) (by decide) (by decide) (by decide) (dk_X1_valueOf 1 _ rfl) ?_
    refine F_iload_n (i := 2) (a := 2) rfl rfl (dk_X1_valueOf 52 _ rfl) ?_
    exact F_ret rfl (dk_X1_valueOf 53 _ rfl)
  refine F_case (fun c1_4 => ?_) (fun c1_4 => ?_)
  · rw [c1_4]; refine F_look (off := 72) (tgt := 73) (by decide) (by decide) (by decide) (dk_X1_valueOf 1 _ rfl) ?_
    refine F_aload_n (i := 0) (a := 0) rfl rfl (dk_X1_valueOf 73 _ rfl) ?_
    refine F_gI (n := 2627) fxX_1_3_41 rfl fl_1_41 (dk_X1_valueOf 74 _ rfl) ?_
    refine F_bipush (v := 10) (by decide) (dk_X1_valueOf 77 _ rfl) ?_
    refine F_irem (dk_X1_valueOf 79 _ rfl) (fun x5 => ?_)
    exact F_ret rfl (dk_X1_valueOf 80 _ rfl)
  refine F_look (off := 80) (tgt := 81) (by decide) (by have q0 := fI_ne c1_0; rw [show (99 : Int32).toInt = 99 from by decide] at q0; have q1 := fI_ne c1_1; rw [show (100 : Int32).toInt = 100 from by decide] at q1; have q2 := fI_ne c1_2; rw [show (107 : Int32).toInt = 107 from by decide] at q2; have q3 := fI_ne c1_3; rw [show (112 : Int32).toInt = 112 from by decide] at q3; have q4 := fI_ne c1_4; rw [show (121 : Int32).toInt = 121 from by decide] at q4; simp [Op.lookupswitch.offset, q0, Ne.symm q0, q1, Ne.symm q1, q2, Ne.symm q2, q3, Ne.symm q3, q4, Ne.symm q4]) (by decide) (dk_X1_valueOf 1 _ rfl) ?_
  refine F_aload_n (i := 0) (a := 0) rfl rfl (dk_X1_valueOf 81 _ rfl) ?_
  refine F_gV (n := 2624) fxX_1_0_41 rfl fl_1_24 (dk_X1_valueOf 82 _ rfl) ?_
  refine F_ch (fun r6 hr6 => ?_)
  refine F_gR (b := (r6 + 3)) (lyS_7 hr6).1 fl_1_49 (dk_X1_valueOf 85 _ rfl) ?_
  refine F_iload_n (i := 2) (a := 2) rfl rfl (dk_X1_valueOf 88 _ rfl) ?_
  refine F_iald ((lyS_7 hr6).2) (dk_X1_valueOf 89 _ rfl) (fun x7 => ?_)
  exact F_ret rfl (dk_X1_valueOf 90 _ rfl)
def f_X1_allows_127 (K6 : mM → Nat → Int32 → Int32 → Int32 → Int32 → Int32 → fR Int32) (m : mM) (y1 : Nat) (y3 : Int32) (y4 : Int32) (y5 : Int32) (y6 : Int32) (y7 : Int32) (y100 : Int32) : fR Int32 :=
  (gA (mA m (y1 + 2)) y7).bind fun x6 => (if y100 = x6 then nmI (((y6 <<< (1 &&& 31)) ||| 1)) fun v8 => (K6 m y1 y3 y4 y5 v8 (y7 + 1)) else nmI (((y6 <<< (1 &&& 31)) ||| 0)) fun v7 => (K6 m y1 y3 y4 y5 v7 (y7 + 1)))
theorem j_X1_allows_127 (K6 : mM → Nat → Int32 → Int32 → Int32 → Int32 → Int32 → fR Int32) (hK6 : ∀ (m : mM) (y1 : Nat) (y3 : Int32) (y4 : Int32) (y5 : Int32) (y6 : Int32) (y7 : Int32) (hy1 : isC true 5 y1 = true), JF true uI m_X1_allows 3 6 [(0, .ref 41), (1, .ref y1), (3, .int y3), (4, .int y4), (5, .int y5), (6, .int y6), (7, .int y7)] [] m (K6 m y1 y3 y4 y5 y6 y7)) (m : mM) (y1 : Nat) (y3 : Int32) (y4 : Int32) (y5 : Int32) (y6 : Int32) (y7 : Int32) (y100 : Int32) (hy1 : isC true 5 y1 = true) : JF true uI m_X1_allows 3 127 [(0, .ref 41), (1, .ref y1), (3, .int y3), (4, .int y4), (5, .int y5), (6, .int y6), (7, .int y7)] [.int y100] m (f_X1_allows_127 K6 m y1 y3 y4 y5 y6 y7 y100) := by
  unfold f_X1_allows_127
  refine F_istore (lv' := [(11, .int y100), (0, .ref 41), (1, .ref y1), (3, .int y3), (4, .int y4), (5, .int y5), (6, .int y6), (7, .int y7)]) (i := 11) (by decide) rfl (dk_X1_allows 127 _ rfl) ?_
  refine F_iload (i := 6) rfl (dk_X1_allows 129 _ rfl) ?_
  refine F_iconst (v := 1) (by decide) (dk_X1_allows 131 _ rfl) ?_
  refine F_ishl (dk_X1_allows 132 _ rfl) ?_
  refine F_iload (i := 11) rfl (dk_X1_allows 133 _ rfl) ?_
  refine F_aload_n (i := 1) (a := 1) rfl rfl (dk_X1_allows 135 _ rfl) ?_
  refine F_gR (b := (y1 + 2)) (lyT_6 hy1).1 fl_1_124 (dk_X1_allows 136 _ rfl) ?_
  refine F_iload (i := 7) rfl (dk_X1_allows 139 _ rfl) ?_
  refine F_iald ((lyT_6 hy1).2) (dk_X1_allows 141 _ rfl) (fun x6 => ?_)
  refine F_icmp_ne (tgt := 149) (by decide) (dk_X1_allows 142 _ rfl) ?_ ?_
  · refine F_iconst (v := 0) (by decide) (dk_X1_allows 149 _ rfl) ?_
    refine F_ior (dk_X1_allows 150 _ rfl) ?_
    refine F_nm (fun v7 => ?_)
    refine F_istore (lv' := [(6, .int v7), (11, .int y100), (0, .ref 41), (1, .ref y1), (3, .int y3), (4, .int y4), (5, .int y5), (7, .int y7)]) (i := 6) (by decide) rfl (dk_X1_allows 151 _ rfl) ?_
    refine F_iinc (i := 7) (n := 1) (v := (y7 + 1)) (lv' := [(7, .int (y7 + 1)), (6, .int v7), (11, .int y100), (0, .ref 41), (1, .ref y1), (3, .int y3), (4, .int y4), (5, .int y5)]) rfl (by first | rfl | decide) (by decide) rfl (dk_X1_allows 153 _ rfl) ?_
    refine F_goto (tgt := 6) (by decide) (dk_X1_allows 156 _ rfl) ?_
    exact F_loc (List.forall_mem_cons.mpr ⟨(.tail _ (.tail _ (.tail _ (.head _)))), (List.forall_mem_cons.mpr ⟨(.tail _ (.tail _ (.tail _ (.tail _ (.head _))))), (List.forall_mem_cons.mpr ⟨(.tail _ (.tail _ (.tail _ (.tail _ (.tail _ (.head _)))))), (List.forall_mem_cons.mpr ⟨(.tail _ (.tail _ (.tail _ (.tail _ (.tail _ (.tail _ (.head _))))))), (List.forall_mem_cons.mpr ⟨(.tail _ (.tail _ (.tail _ (.tail _ (.tail _ (.tail _ (.tail _ (.head _)))))))), (List.forall_mem_cons.mpr ⟨(.tail _ (.head _)), (List.forall_mem_cons.mpr ⟨(.head _), (fun _ z => absurd z List.not_mem_nil)⟩)⟩)⟩)⟩)⟩)⟩)⟩) (hK6 _ _ _ _ _ _ _ (hy1))
  · refine F_iconst (v := 1) (by decide) (dk_X1_allows 145 _ rfl) ?_
    refine F_goto (tgt := 150) (by decide) (dk_X1_allows 146 _ rfl) ?_
    refine F_ior (dk_X1_allows 150 _ rfl) ?_
    refine F_nm (fun v8 => ?_)
    refine F_istore (lv' := [(6, .int v8), (11, .int y100), (0, .ref 41), (1, .ref y1), (3, .int y3), (4, .int y4), (5, .int y5), (7, .int y7)]) (i := 6) (by decide) rfl (dk_X1_allows 151 _ rfl) ?_
    refine F_iinc (i := 7) (n := 1) (v := (y7 + 1)) (lv' := [(7, .int (y7 + 1)), (6, .int v8), (11, .int y100), (0, .ref 41), (1, .ref y1), (3, .int y3), (4, .int y4), (5, .int y5)]) rfl (by first | rfl | decide) (by decide) rfl (dk_X1_allows 153 _ rfl) ?_
    refine F_goto (tgt := 6) (by decide) (dk_X1_allows 156 _ rfl) ?_
    exact F_loc (List.forall_mem_cons.mpr ⟨(.tail _ (.tail _ (.tail _ (.head _)))), (List.forall_mem_cons.mpr ⟨(.tail _ (.tail _ (.tail _ (.tail _ (.head _))))), (List.forall_mem_cons.mpr ⟨(.tail _ (.tail _ (.tail _ (.tail _ (.tail _ (.head _)))))), (List.forall_mem_cons.mpr ⟨(.tail _ (.tail _ (.tail _ (.tail _ (.tail _ (.tail _ (.head _))))))), (List.forall_mem_cons.mpr ⟨(.tail _ (.tail _ (.tail _ (.tail _ (.tail _ (.tail _ (.tail _ (.head _)))))))), (List.forall_mem_cons.mpr ⟨(.tail _ (.head _)), (List.forall_mem_cons.mpr ⟨(.head _), (fun _ z => absurd z List.not_mem_nil)⟩)⟩)⟩)⟩)⟩)⟩)⟩) (hK6 _ _ _ _ _ _ _ (hy1))
def fb_X1_allows_6 (K6 : mM → Nat → Int32 → Int32 → Int32 → Int32 → Int32 → fR Int32) (m : mM) (y1 : Nat) (y3 : Int32) (y4 : Int32) (y5 : Int32) (y6 : Int32) (y7 : Int32) : fR Int32 :=
  (if y3 ≤ y7 then (if (y6 &&& 1) = 1 then some (1, m) else some (0, m)) else (gA (mA m (y1 + 1)) y7).bind fun x1 => (if x1 = 33 then nmI (y6 ^^^ 1) fun v11 => (K6 m y1 y3 y4 y5 v11 (y7 + 1)) else (if x1 = 38 then nmI (((((y6 : Int32).toUInt32 >>> ((1 : Int32).toUInt32 &&& Int32.toUInt32 31)).toInt32) &&& (y6 ||| (-2)))) fun v10 => (K6 m y1 y3 y4 y5 v10 (y7 + 1)) else (if x1 = 124 then nmI (((((y6 : Int32).toUInt32 >>> ((1 : Int32).toUInt32 &&& Int32.toUInt32 31)).toInt32) ||| (y6 &&& 1))) fun v9 => (K6 m y1 y3 y4 y5 v9 (y7 + 1)) else bnd (f_X1_valueOf m x1 y4 y5) fun (x2 : Int32) (m3 : mM) => (gA (mA m3 (y1 + 3)) y7).bind fun x5 => (if x5 ≤ x2 then (if x2 = x5 then (f_X1_allows_127 K6 m3 y1 y3 y4 y5 y6 y7 61) else (f_X1_allows_127 K6 m3 y1 y3 y4 y5 y6 y7 62)) else (f_X1_allows_127 K6 m3 y1 y3 y4 y5 y6 y7 60))))))
def f_X1_allows_6  : Nat → mM → Nat → Int32 → Int32 → Int32 → Int32 → Int32 → fR Int32
  | 0, _, _, _, _, _, _, _ => none
  | F + 1, m, y1, y3, y4, y5, y6, y7 => fb_X1_allows_6  (f_X1_allows_6  F) m y1 y3 y4 y5 y6 y7
theorem jb_X1_allows_6 (K6 : mM → Nat → Int32 → Int32 → Int32 → Int32 → Int32 → fR Int32) (hK6 : ∀ (m : mM) (y1 : Nat) (y3 : Int32) (y4 : Int32) (y5 : Int32) (y6 : Int32) (y7 : Int32) (hy1 : isC true 5 y1 = true), JF true uI m_X1_allows 3 6 [(0, .ref 41), (1, .ref y1), (3, .int y3), (4, .int y4), (5, .int y5), (6, .int y6), (7, .int y7)] [] m (K6 m y1 y3 y4 y5 y6 y7)) (m : mM) (y1 : Nat) (y3 : Int32) (y4 : Int32) (y5 : Int32) (y6 : Int32) (y7 : Int32) (hy1 : isC true 5 y1 = true) : JF true uI m_X1_allows 3 6 [(0, .ref 41), (1, .ref y1), (3, .int y3), (4, .int y4), (5, .int y5), (6, .int y6), (7, .int y7)] [] m (fb_X1_allows_6 K6 m y1 y3 y4 y5 y6 y7) := by
  unfold fb_X1_allows_6
  refine F_iload (i := 7) rfl (dk_X1_allows 6 _ rfl) ?_
  refine F_iload_n (i := 3) (a := 3) rfl rfl (dk_X1_allows 8 _ rfl) ?_
  refine F_icmp_ge (tgt := 159) (by decide) (dk_X1_allows 9 _ rfl) ?_ ?_
  · refine F_iload (i := 6) rfl (dk_X1_allows 159 _ rfl) ?_
    refine F_iconst (v := 1) (by decide) (dk_X1_allows 161 _ rfl) ?_
    refine F_iand (dk_X1_allows 162 _ rfl) ?_
    refine F_iconst (v := 1) (by decide) (dk_X1_allows 163 _ rfl) ?_
    refine F_icmp_ne (tgt := 171) (by decide) (dk_X1_allows 164 _ rfl) ?_ ?_
    · refine F_iconst (v := 0) (by decide) (dk_X1_allows 171 _ rfl) ?_
      exact F_retB rfl (Or.inl rfl) (dk_X1_allows 172 _ rfl)
    · refine F_iconst (v := 1) (by decide) (dk_X1_allows 167 _ rfl) ?_
      refine F_goto (tgt := 172) (by decide) (dk_X1_allows 168 _ rfl) ?_
      exact F_retB rfl (Or.inr rfl) (dk_X1_allows 172 _ rfl)
  · refine F_aload_n (i := 1) (a := 1) rfl rfl (dk_X1_allows 12 _ rfl) ?_
    refine F_gR (b := (y1 + 1)) (lyT_5 hy1).1 fl_1_115 (dk_X1_allows 13 _ rfl) ?_
    refine F_iload (i := 7) rfl (dk_X1_allows 16 _ rfl) ?_
    refine F_iald ((lyT_5 hy1).2) (dk_X1_allows 18 _ rfl) (fun x1 => ?_)
    refine F_istore (lv' := [(8, .int x1), (0, .ref 41), (1, .ref y1), (3, .int y3), (4, .int y4), (5, .int y5), (6, .int y6), (7, .int y7)]) (i := 8) (by decide) rfl (dk_X1_allows 19 _ rfl) ?_
    refine F_iload (i := 8) rfl (dk_X1_allows 21 _ rfl) ?_
    refine F_bipush (v := 33) (by decide) (dk_X1_allows 23 _ rfl) ?_
    refine F_icmp_ne (tgt := 37) (by decide) (dk_X1_allows 25 _ rfl) ?_ ?_
    · refine F_iload (i := 8) rfl (dk_X1_allows 37 _ rfl) ?_
      refine F_bipush (v := 38) (by decide) (dk_X1_allows 39 _ rfl) ?_
      refine F_icmp_ne (tgt := 59) (by decide) (dk_X1_allows 41 _ rfl) ?_ ?_
      · refine F_iload (i := 8) rfl (dk_X1_allows 59 _ rfl) ?_
        refine F_bipush (v := 124) (by decide) (dk_X1_allows 61 _ rfl) ?_
        refine F_icmp_ne (tgt := 80) (by decide) (dk_X1_allows 63 _ rfl) ?_ ?_
        · refine F_aload_n (i := 0) (a := 0) rfl rfl (dk_X1_allows 80 _ rfl) ?_
          refine F_iload (i := 8) rfl (dk_X1_allows 81 _ rfl) ?_
          refine F_iload (i := 4) rfl (dk_X1_allows 83 _ rfl) ?_
          refine F_iload (i := 5) rfl (dk_X1_allows 85 _ rfl) ?_
          refine F_callV (ι' := uI) (ci := 1) (b := 41) (As := [.int x1, .int y4, .int y5]) (d' := 2) (rfl) ok_X1_valueOf vi_X1_valueOf cl_1_118 (n := 3) (by decide +kernel) rfl rfl rfl (Nat.le_of_ble_eq_true rfl) (by omega) (dk_X1_allows 87 _ rfl) (c_X1_valueOf _ _ _ _ ) (fun x2 m3 => ?_)
          show JF _ _ _ _ _ _ [.int x2] _ _
          refine F_istore (lv' := [(9, .int x2), (8, .int x1), (0, .ref 41), (1, .ref y1), (3, .int y3), (4, .int y4), (5, .int y5), (6, .int y6), (7, .int y7)]) (i := 9) (by decide) rfl (dk_X1_allows 90 _ rfl) ?_
          refine F_aload_n (i := 1) (a := 1) rfl rfl (dk_X1_allows 92 _ rfl) ?_
          refine F_gR (b := (y1 + 3)) (lyT_7 hy1).1 fl_1_121 (dk_X1_allows 93 _ rfl) ?_
          refine F_iload (i := 7) rfl (dk_X1_allows 96 _ rfl) ?_
          refine F_iald ((lyT_7 hy1).2) (dk_X1_allows 98 _ rfl) (fun x5 => ?_)
          refine F_istore (lv' := [(10, .int x5), (9, .int x2), (8, .int x1), (0, .ref 41), (1, .ref y1), (3, .int y3), (4, .int y4), (5, .int y5), (6, .int y6), (7, .int y7)]) (i := 10) (by decide) rfl (dk_X1_allows 99 _ rfl) ?_
          refine F_iload (i := 9) rfl (dk_X1_allows 101 _ rfl) ?_
          refine F_iload (i := 10) rfl (dk_X1_allows 103 _ rfl) ?_
          refine F_icmp_ge (tgt := 113) (by decide) (dk_X1_allows 105 _ rfl) ?_ ?_
          · refine F_iload (i := 9) rfl (dk_X1_allows 113 _ rfl) ?_
            refine F_iload (i := 10) rfl (dk_X1_allows 115 _ rfl) ?_
            refine F_icmp_ne (tgt := 125) (by decide) (dk_X1_allows 117 _ rfl) ?_ ?_
            · refine F_bipush (v := 62) (by decide) (dk_X1_allows 125 _ rfl) ?_
              exact F_loc (List.forall_mem_cons.mpr ⟨(.tail _ (.tail _ (.tail _ (.head _)))), (List.forall_mem_cons.mpr ⟨(.tail _ (.tail _ (.tail _ (.tail _ (.head _))))), (List.forall_mem_cons.mpr ⟨(.tail _ (.tail _ (.tail _ (.tail _ (.tail _ (.head _)))))), (List.forall_mem_cons.mpr ⟨(.tail _ (.tail _ (.tail _ (.tail _ (.tail _ (.tail _ (.head _))))))), (List.forall_mem_cons.mpr ⟨(.tail _ (.tail _ (.tail _ (.tail _ (.tail _ (.tail _ (.tail _ (.head _)))))))), (List.forall_mem_cons.mpr ⟨(.tail _ (.tail _ (.tail _ (.tail _ (.tail _ (.tail _ (.tail _ (.tail _ (.head _))))))))), (List.forall_mem_cons.mpr ⟨(.tail _ (.tail _ (.tail _ (.tail _ (.tail _ (.tail _ (.tail _ (.tail _ (.tail _ (.head _)))))))))), (fun _ z => absurd z List.not_mem_nil)⟩)⟩)⟩)⟩)⟩)⟩)⟩) (j_X1_allows_127 K6 hK6 _ _ _ _ _ _ _ _ (hy1))
            · refine F_bipush (v := 61) (by decide) (dk_X1_allows 120 _ rfl) ?_
              refine F_goto (tgt := 127) (by decide) (dk_X1_allows 122 _ rfl) ?_
              exact F_loc (List.forall_mem_cons.mpr ⟨(.tail _ (.tail _ (.tail _ (.head _)))), (List.forall_mem_cons.mpr ⟨(.tail _ (.tail _ (.tail _ (.tail _ (.head _))))), (List.forall_mem_cons.mpr ⟨(.tail _ (.tail _ (.tail _ (.tail _ (.tail _ (.head _)))))), (List.forall_mem_cons.mpr ⟨(.tail _ (.tail _ (.tail _ (.tail _ (.tail _ (.tail _ (.head _))))))), (List.forall_mem_cons.mpr ⟨(.tail _ (.tail _ (.tail _ (.tail _ (.tail _ (.tail _ (.tail _ (.head _)))))))), (List.forall_mem_cons.mpr ⟨(.tail _ (.tail _ (.tail _ (.tail _ (.tail _ (.tail _ (.tail _ (.tail _ (.head _))))))))), (List.forall_mem_cons.mpr ⟨(.tail _ (.tail _ (.tail _ (.tail _ (.tail _ (.tail _ (.tail _ (.tail _ (.tail _ (.head _)))))))))), (fun _ z => absurd z List.not_mem_nil)⟩)⟩)⟩)⟩)⟩)⟩)⟩) (j_X1_allows_127 K6 hK6 _ _ _ _ _ _ _ _ (hy1))
          · refine F_bipush (v := 60) (by decide) (dk_X1_allows 108 _ rfl) ?_
            refine F_goto (tgt := 127) (by decide) (dk_X1_allows 110 _ rfl) ?_
            exact F_loc (List.forall_mem_cons.mpr ⟨(.tail _ (.tail _ (.tail _ (.head _)))), (List.forall_mem_cons.mpr ⟨(.tail _ (.tail _ (.tail _ (.tail _ (.head _))))), (List.forall_mem_cons.mpr ⟨(.tail _ (.tail _ (.tail _ (.tail _ (.tail _ (.head _)))))), (List.forall_mem_cons.mpr ⟨(.tail _ (.tail _ (.tail _ (.tail _ (.tail _ (.tail _ (.head _))))))), (List.forall_mem_cons.mpr ⟨(.tail _ (.tail _ (.tail _ (.tail _ (.tail _ (.tail _ (.tail _ (.head _)))))))), (List.forall_mem_cons.mpr ⟨(.tail _ (.tail _ (.tail _ (.tail _ (.tail _ (.tail _ (.tail _ (.tail _ (.head _))))))))), (List.forall_mem_cons.mpr ⟨(.tail _ (.tail _ (.tail _ (.tail _ (.tail _ (.tail _ (.tail _ (.tail _ (.tail _ (.head _)))))))))), (fun _ z => absurd z List.not_mem_nil)⟩)⟩)⟩)⟩)⟩)⟩)⟩) (j_X1_allows_127 K6 hK6 _ _ _ _ _ _ _ _ (hy1))
        · refine F_iload (i := 6) rfl (dk_X1_allows 66 _ rfl) ?_
          refine F_iconst (v := 1) (by decide) (dk_X1_allows 68 _ rfl) ?_
          refine F_iushr (dk_X1_allows 69 _ rfl) ?_
          refine F_iload (i := 6) rfl (dk_X1_allows 70 _ rfl) ?_
          refine F_iconst (v := 1) (by decide) (dk_X1_allows 72 _ rfl) ?_
          refine F_iand (dk_X1_allows 73 _ rfl) ?_
          refine F_ior (dk_X1_allows 74 _ rfl) ?_
          refine F_nm (fun v9 => ?_)
          refine F_istore (lv' := [(6, .int v9), (8, .int x1), (0, .ref 41), (1, .ref y1), (3, .int y3), (4, .int y4), (5, .int y5), (7, .int y7)]) (i := 6) (by decide) rfl (dk_X1_allows 75 _ rfl) ?_
          refine F_goto (tgt := 153) (by decide) (dk_X1_allows 77 _ rfl) ?_
          refine F_iinc (i := 7) (n := 1) (v := (y7 + 1)) (lv' := [(7, .int (y7 + 1)), (6, .int v9), (8, .int x1), (0, .ref 41), (1, .ref y1), (3, .int y3), (4, .int y4), (5, .int y5)]) rfl (by first | rfl | decide) (by decide) rfl (dk_X1_allows 153 _ rfl) ?_
          refine F_goto (tgt := 6) (by decide) (dk_X1_allows 156 _ rfl) ?_
          exact F_loc (List.forall_mem_cons.mpr ⟨(.tail _ (.tail _ (.tail _ (.head _)))), (List.forall_mem_cons.mpr ⟨(.tail _ (.tail _ (.tail _ (.tail _ (.head _))))), (List.forall_mem_cons.mpr ⟨(.tail _ (.tail _ (.tail _ (.tail _ (.tail _ (.head _)))))), (List.forall_mem_cons.mpr ⟨(.tail _ (.tail _ (.tail _ (.tail _ (.tail _ (.tail _ (.head _))))))), (List.forall_mem_cons.mpr ⟨(.tail _ (.tail _ (.tail _ (.tail _ (.tail _ (.tail _ (.tail _ (.head _)))))))), (List.forall_mem_cons.mpr ⟨(.tail _ (.head _)), (List.forall_mem_cons.mpr ⟨(.head _), (fun _ z => absurd z List.not_mem_nil)⟩)⟩)⟩)⟩)⟩)⟩)⟩) (hK6 _ _ _ _ _ _ _ (hy1))
      · refine F_iload (i := 6) rfl (dk_X1_allows 44 _ rfl) ?_
        refine F_iconst (v := 1) (by decide) (dk_X1_allows 46 _ rfl) ?_
        refine F_iushr (dk_X1_allows 47 _ rfl) ?_
        refine F_iload (i := 6) rfl (dk_X1_allows 48 _ rfl) ?_
        refine F_bipush (v := (-2)) (by decide) (dk_X1_allows 50 _ rfl) ?_
        refine F_ior (dk_X1_allows 52 _ rfl) ?_
        refine F_iand (dk_X1_allows 53 _ rfl) ?_
        refine F_nm (fun v10 => ?_)
        refine F_istore (lv' := [(6, .int v10), (8, .int x1), (0, .ref 41), (1, .ref y1), (3, .int y3), (4, .int y4), (5, .int y5), (7, .int y7)]) (i := 6) (by decide) rfl (dk_X1_allows 54 _ rfl) ?_
        refine F_goto (tgt := 153) (by decide) (dk_X1_allows 56 _ rfl) ?_
        refine F_iinc (i := 7) (n := 1) (v := (y7 + 1)) (lv' := [(7, .int (y7 + 1)), (6, .int v10), (8, .int x1), (0, .ref 41), (1, .ref y1), (3, .int y3), (4, .int y4), (5, .int y5)]) rfl (by first | rfl | decide) (by decide) rfl (dk_X1_allows 153 _ rfl) ?_
        refine F_goto (tgt := 6) (by decide) (dk_X1_allows 156 _ rfl) ?_
        exact F_loc (List.forall_mem_cons.mpr ⟨(.tail _ (.tail _ (.tail _ (.head _)))), (List.forall_mem_cons.mpr ⟨(.tail _ (.tail _ (.tail _ (.tail _ (.head _))))), (List.forall_mem_cons.mpr ⟨(.tail _ (.tail _ (.tail _ (.tail _ (.tail _ (.head _)))))), (List.forall_mem_cons.mpr ⟨(.tail _ (.tail _ (.tail _ (.tail _ (.tail _ (.tail _ (.head _))))))), (List.forall_mem_cons.mpr ⟨(.tail _ (.tail _ (.tail _ (.tail _ (.tail _ (.tail _ (.tail _ (.head _)))))))), (List.forall_mem_cons.mpr ⟨(.tail _ (.head _)), (List.forall_mem_cons.mpr ⟨(.head _), (fun _ z => absurd z List.not_mem_nil)⟩)⟩)⟩)⟩)⟩)⟩)⟩) (hK6 _ _ _ _ _ _ _ (hy1))
    · refine F_iload (i := 6) rfl (dk_X1_allows 28 _ rfl) ?_
      refine F_iconst (v := 1) (by decide) (dk_X1_allows 30 _ rfl) ?_
      refine F_ixor (dk_X1_allows 31 _ rfl) ?_
      refine F_nm (fun v11 => ?_)
      refine F_istore (lv' := [(6, .int v11), (8, .int x1), (0, .ref 41), (1, .ref y1), (3, .int y3), (4, .int y4), (5, .int y5), (7, .int y7)]) (i := 6) (by decide) rfl (dk_X1_allows 32 _ rfl) ?_
      refine F_goto (tgt := 153) (by decide) (dk_X1_allows 34 _ rfl) ?_
      refine F_iinc (i := 7) (n := 1) (v := (y7 + 1)) (lv' := [(7, .int (y7 + 1)), (6, .int v11), (8, .int x1), (0, .ref 41), (1, .ref y1), (3, .int y3), (4, .int y4), (5, .int y5)]) rfl (by first | rfl | decide) (by decide) rfl (dk_X1_allows 153 _ rfl) ?_
      refine F_goto (tgt := 6) (by decide) (dk_X1_allows 156 _ rfl) ?_
      exact F_loc (List.forall_mem_cons.mpr ⟨(.tail _ (.tail _ (.tail _ (.head _)))), (List.forall_mem_cons.mpr ⟨(.tail _ (.tail _ (.tail _ (.tail _ (.head _))))), (List.forall_mem_cons.mpr ⟨(.tail _ (.tail _ (.tail _ (.tail _ (.tail _ (.head _)))))), (List.forall_mem_cons.mpr ⟨(.tail _ (.tail _ (.tail _ (.tail _ (.tail _ (.tail _ (.head _))))))), (List.forall_mem_cons.mpr ⟨(.tail _ (.tail _ (.tail _ (.tail _ (.tail _ (.tail _ (.tail _ (.head _)))))))), (List.forall_mem_cons.mpr ⟨(.tail _ (.head _)), (List.forall_mem_cons.mpr ⟨(.head _), (fun _ z => absurd z List.not_mem_nil)⟩)⟩)⟩)⟩)⟩)⟩)⟩) (hK6 _ _ _ _ _ _ _ (hy1))
theorem j_X1_allows_6   : ∀ (F : Nat) (m : mM) (y1 : Nat) (y3 : Int32) (y4 : Int32) (y5 : Int32) (y6 : Int32) (y7 : Int32) (hy1 : isC true 5 y1 = true), JF true uI m_X1_allows 3 6 [(0, .ref 41), (1, .ref y1), (3, .int y3), (4, .int y4), (5, .int y5), (6, .int y6), (7, .int y7)] [] m (f_X1_allows_6  F m y1 y3 y4 y5 y6 y7) := by
  intro F
  induction F with
  | zero => intro m y1 y3 y4 y5 y6 y7 hy1; exact F_no
  | succ F ih => intro m y1 y3 y4 y5 y6 y7 hy1; exact jb_X1_allows_6  (f_X1_allows_6  F)  ih m y1 y3 y4 y5 y6 y7 hy1
def f_X1_allows (m : mM) (a1 : Nat) (p2 : Int32) (p3 : Int32) (p4 : Int32) (p5 : Int32) : fR Int32 :=
  (f_X1_allows_6  1000 m a1 p3 p4 p5 0 p2)
theorem c_X1_allows (m : mM) (a1 : Nat) (p2 : Int32) (p3 : Int32) (p4 : Int32) (p5 : Int32) (ha1 : isC true 5 a1 = true) : cF true uI m_X1_allows 3 [.ref 41, .ref a1, .int p2, .int p3, .int p4, .int p5] m (f_X1_allows m a1 p2 p3 p4 p5) := by
  refine cF_of ok_X1_allows (fun _ _ => Nat.le_of_ble_eq_true rfl) ?_
  unfold f_X1_allows
  show JF _ _ _ _ _ [(0, .ref 41), (1, .ref a1), (2, .int p2), (3, .int p3), (4, .int p4), (5, .int p5)] _ _ _
  refine F_iconst (v := 0) (by decide) (dk_X1_allows 0 _ rfl) ?_
  refine F_istore (lv' := [(6, .int 0), (0, .ref 41), (1, .ref a1), (2, .int p2), (3, .int p3), (4, .int p4), (5, .int p5)]) (i := 6) (by decide) rfl (dk_X1_allows 1 _ rfl) ?_
  refine F_iload_n (i := 2) (a := 2) rfl rfl (dk_X1_allows 3 _ rfl) ?_
  refine F_istore (lv' := [(7, .int p2), (6, .int 0), (0, .ref 41), (1, .ref a1), (2, .int p2), (3, .int p3), (4, .int p4), (5, .int p5)]) (i := 7) (by decide) rfl (dk_X1_allows 4 _ rfl) ?_
  exact F_loc (List.forall_mem_cons.mpr ⟨(.tail _ (.tail _ (.head _))), (List.forall_mem_cons.mpr ⟨(.tail _ (.tail _ (.tail _ (.head _)))), (List.forall_mem_cons.mpr ⟨(.tail _ (.tail _ (.tail _ (.tail _ (.tail _ (.head _)))))), (List.forall_mem_cons.mpr ⟨(.tail _ (.tail _ (.tail _ (.tail _ (.tail _ (.tail _ (.head _))))))), (List.forall_mem_cons.mpr ⟨(.tail _ (.tail _ (.tail _ (.tail _ (.tail _ (.tail _ (.tail _ (.head _)))))))), (List.forall_mem_cons.mpr ⟨(.tail _ (.head _)), (List.forall_mem_cons.mpr ⟨(.head _), (fun _ z => absurd z List.not_mem_nil)⟩)⟩)⟩)⟩)⟩)⟩)⟩) (j_X1_allows_6   1000 _ _ _ _ _ _ _ (ha1))
def f_X1_takes_67 (K27 : mM → Int32 → Int32 → Nat → Int32 → Int32 → Int32 → fR Int32) (m : mM) (y1 : Int32) (y2 : Int32) (y3 : Nat) (y4 : Int32) (y6 : Int32) : fR Int32 :=
  (gA (mA m (y3 + 5)) y6).bind fun x7 => (K27 m y1 y2 y3 y4 x7 (y6 + 1))
theorem j_X1_takes_67 (K27 : mM → Int32 → Int32 → Nat → Int32 → Int32 → Int32 → fR Int32) (hK27 : ∀ (m : mM) (y1 : Int32) (y2 : Int32) (y3 : Nat) (y4 : Int32) (y5 : Int32) (y6 : Int32) (hy3 : isC true 5 y3 = true), JF true uI m_X1_takes 4 27 [(0, .ref 41), (1, .int y1), (2, .int y2), (3, .ref y3), (4, .int y4), (5, .int y5), (6, .int y6)] [] m (K27 m y1 y2 y3 y4 y5 y6)) (m : mM) (y1 : Int32) (y2 : Int32) (y3 : Nat) (y4 : Int32) (y6 : Int32) (hy3 : isC true 5 y3 = true) : JF true uI m_X1_takes 4 67 [(0, .ref 41), (1, .int y1), (2, .int y2), (3, .ref y3), (4, .int y4), (6, .int y6)] [] m (f_X1_takes_67 K27 m y1 y2 y3 y4 y6) := by
  unfold f_X1_takes_67
  refine F_aload_n (i := 3) (a := 3) rfl rfl (dk_X1_takes 67 _ rfl) ?_
  refine F_gR (b := (y3 + 5)) (lyT_9 hy3).1 fl_1_105 (dk_X1_takes 68 _ rfl) ?_
  refine F_iload (i := 6) rfl (dk_X1_takes 71 _ rfl) ?_
  refine F_iald ((lyT_9 hy3).2) (dk_X1_takes 73 _ rfl) (fun x7 => ?_)
  refine F_istore (lv' := [(5, .int x7), (0, .ref 41), (1, .int y1), (2, .int y2), (3, .ref y3), (4, .int y4), (6, .int y6)]) (i := 5) (by decide) rfl (dk_X1_takes 74 _ rfl) ?_
  refine F_iinc (i := 6) (n := 1) (v := (y6 + 1)) (lv' := [(6, .int (y6 + 1)), (5, .int x7), (0, .ref 41), (1, .int y1), (2, .int y2), (3, .ref y3), (4, .int y4)]) rfl (by first | rfl | decide) (by decide) rfl (dk_X1_takes 76 _ rfl) ?_
  refine F_goto (tgt := 27) (by decide) (dk_X1_takes 79 _ rfl) ?_
  exact F_loc (List.forall_mem_cons.mpr ⟨(.tail _ (.tail _ (.head _))), (List.forall_mem_cons.mpr ⟨(.tail _ (.tail _ (.tail _ (.head _)))), (List.forall_mem_cons.mpr ⟨(.tail _ (.tail _ (.tail _ (.tail _ (.head _))))), (List.forall_mem_cons.mpr ⟨(.tail _ (.tail _ (.tail _ (.tail _ (.tail _ (.head _)))))), (List.forall_mem_cons.mpr ⟨(.tail _ (.tail _ (.tail _ (.tail _ (.tail _ (.tail _ (.head _))))))), (List.forall_mem_cons.mpr ⟨(.tail _ (.head _)), (List.forall_mem_cons.mpr ⟨(.head _), (fun _ z => absurd z List.not_mem_nil)⟩)⟩)⟩)⟩)⟩)⟩)⟩) (hK27 _ _ _ _ _ _ _ (hy3))
def fb_X1_takes_27 (K27 : mM → Int32 → Int32 → Nat → Int32 → Int32 → Int32 → fR Int32) (m : mM) (y1 : Int32) (y2 : Int32) (y3 : Nat) (y4 : Int32) (y5 : Int32) (y6 : Int32) : fR Int32 :=
  (if (mI m (64 * y3 + 3)) ≤ y6 then some ((10 * y4), m) else (gA (mA m (y3 + 5)) y6).bind fun x3 => bnd (f_X1_allows m y3 y5 x3 y1 y2) fun (x4 : Int32) (m5 : mM) => (if x4 = 0 then (f_X1_takes_67 K27 m5 y1 y2 y3 y4 y6) else (gA (mA m5 (y3 + 4)) y6).bind fun x8 => nmI (y4 + x8) fun v9 => (f_X1_takes_67 K27 m5 y1 y2 y3 v9 y6)))
def f_X1_takes_27  : Nat → mM → Int32 → Int32 → Nat → Int32 → Int32 → Int32 → fR Int32
  | 0, _, _, _, _, _, _, _ => none
  | F + 1, m, y1, y2, y3, y4, y5, y6 => fb_X1_takes_27  (f_X1_takes_27  F) m y1 y2 y3 y4 y5 y6
theorem jb_X1_takes_27 (K27 : mM → Int32 → Int32 → Nat → Int32 → Int32 → Int32 → fR Int32) (hK27 : ∀ (m : mM) (y1 : Int32) (y2 : Int32) (y3 : Nat) (y4 : Int32) (y5 : Int32) (y6 : Int32) (hy3 : isC true 5 y3 = true), JF true uI m_X1_takes 4 27 [(0, .ref 41), (1, .int y1), (2, .int y2), (3, .ref y3), (4, .int y4), (5, .int y5), (6, .int y6)] [] m (K27 m y1 y2 y3 y4 y5 y6)) (m : mM) (y1 : Int32) (y2 : Int32) (y3 : Nat) (y4 : Int32) (y5 : Int32) (y6 : Int32) (hy3 : isC true 5 y3 = true) : JF true uI m_X1_takes 4 27 [(0, .ref 41), (1, .int y1), (2, .int y2), (3, .ref y3), (4, .int y4), (5, .int y5), (6, .int y6)] [] m (fb_X1_takes_27 K27 m y1 y2 y3 y4 y5 y6) := by
  unfold fb_X1_takes_27
  refine F_iload (i := 6) rfl (dk_X1_takes 27 _ rfl) ?_
  refine F_aload_n (i := 3) (a := 3) rfl rfl (dk_X1_takes 29 _ rfl) ?_
  refine F_gI (n := (64 * y3 + 3)) (lyT_3 hy3) rfl fl_1_103 (dk_X1_takes 30 _ rfl) ?_
  refine F_icmp_ge (tgt := 82) (by decide) (dk_X1_takes 33 _ rfl) ?_ ?_
  · refine F_bipush (v := 10) (by decide) (dk_X1_takes 82 _ rfl) ?_
    refine F_iload (i := 4) rfl (dk_X1_takes 84 _ rfl) ?_
    refine F_imul (dk_X1_takes 86 _ rfl) ?_
    exact F_ret rfl (dk_X1_takes 87 _ rfl)
  · refine F_aload_n (i := 0) (a := 0) rfl rfl (dk_X1_takes 36 _ rfl) ?_
    refine F_aload_n (i := 3) (a := 3) rfl rfl (dk_X1_takes 37 _ rfl) ?_
    refine F_iload (i := 5) rfl (dk_X1_takes 38 _ rfl) ?_
    refine F_aload_n (i := 3) (a := 3) rfl rfl (dk_X1_takes 40 _ rfl) ?_
    refine F_gR (b := (y3 + 5)) (lyT_9 hy3).1 fl_1_105 (dk_X1_takes 41 _ rfl) ?_
    refine F_iload (i := 6) rfl (dk_X1_takes 44 _ rfl) ?_
    refine F_iald ((lyT_9 hy3).2) (dk_X1_takes 46 _ rfl) (fun x3 => ?_)
    refine F_iload_n (i := 1) (a := 1) rfl rfl (dk_X1_takes 47 _ rfl) ?_
    refine F_iload_n (i := 2) (a := 2) rfl rfl (dk_X1_takes 48 _ rfl) ?_
    refine F_callV (ι' := uI) (ci := 1) (b := 41) (As := [.ref y3, .int y5, .int x3, .int y1, .int y2]) (d' := 3) (rfl) ok_X1_allows vi_X1_allows cl_1_108 (n := 5) (by decide +kernel) rfl rfl rfl (Nat.le_of_ble_eq_true rfl) (by omega) (dk_X1_takes 49 _ rfl) (c_X1_allows _ _ _ _ _ _ (hy3)) (fun x4 m5 => ?_)
    show JF _ _ _ _ _ _ [.int x4] _ _
    refine F_if_eq (tgt := 67) (by decide) (dk_X1_takes 52 _ rfl) ?_ ?_
    · exact F_loc (List.forall_mem_cons.mpr ⟨(.head _), (List.forall_mem_cons.mpr ⟨(.tail _ (.head _)), (List.forall_mem_cons.mpr ⟨(.tail _ (.tail _ (.head _))), (List.forall_mem_cons.mpr ⟨(.tail _ (.tail _ (.tail _ (.head _)))), (List.forall_mem_cons.mpr ⟨(.tail _ (.tail _ (.tail _ (.tail _ (.head _))))), (List.forall_mem_cons.mpr ⟨(.tail _ (.tail _ (.tail _ (.tail _ (.tail _ (.tail _ (.head _))))))), (fun _ z => absurd z List.not_mem_nil)⟩)⟩)⟩)⟩)⟩)⟩) (j_X1_takes_67 K27 hK27 _ _ _ _ _ _ (hy3))
    · refine F_iload (i := 4) rfl (dk_X1_takes 55 _ rfl) ?_
      refine F_aload_n (i := 3) (a := 3) rfl rfl (dk_X1_takes 57 _ rfl) ?_
      refine F_gR (b := (y3 + 4)) (lyT_8 hy3).1 fl_1_112 (dk_X1_takes 58 _ rfl) ?_
      refine F_iload (i := 6) rfl (dk_X1_takes 61 _ rfl) ?_
      refine F_iald ((lyT_8 hy3).2) (dk_X1_takes 63 _ rfl) (fun x8 => ?_)
      refine F_iadd (dk_X1_takes 64 _ rfl) ?_
      refine F_nm (fun v9 => ?_)
      refine F_istore (lv' := [(4, .int v9), (0, .ref 41), (1, .int y1), (2, .int y2), (3, .ref y3), (5, .int y5), (6, .int y6)]) (i := 4) (by decide) rfl (dk_X1_takes 65 _ rfl) ?_
      exact F_loc (List.forall_mem_cons.mpr ⟨(.tail _ (.head _)), (List.forall_mem_cons.mpr ⟨(.tail _ (.tail _ (.head _))), (List.forall_mem_cons.mpr ⟨(.tail _ (.tail _ (.tail _ (.head _)))), (List.forall_mem_cons.mpr ⟨(.tail _ (.tail _ (.tail _ (.tail _ (.head _))))), (List.forall_mem_cons.mpr ⟨(.head _), (List.forall_mem_cons.mpr ⟨(.tail _ (.tail _ (.tail _ (.tail _ (.tail _ (.tail _ (.head _))))))), (fun _ z => absurd z List.not_mem_nil)⟩)⟩)⟩)⟩)⟩)⟩) (j_X1_takes_67 K27 hK27 _ _ _ _ _ _ (hy3))
theorem j_X1_takes_27   : ∀ (F : Nat) (m : mM) (y1 : Int32) (y2 : Int32) (y3 : Nat) (y4 : Int32) (y5 : Int32) (y6 : Int32) (hy3 : isC true 5 y3 = true), JF true uI m_X1_takes 4 27 [(0, .ref 41), (1, .int y1), (2, .int y2), (3, .ref y3), (4, .int y4), (5, .int y5), (6, .int y6)] [] m (f_X1_takes_27  F m y1 y2 y3 y4 y5 y6) := by
  intro F
  induction F with
  | zero => intro m y1 y2 y3 y4 y5 y6 hy3; exact F_no
  | succ F ih => intro m y1 y2 y3 y4 y5 y6 hy3; exact jb_X1_takes_27  (f_X1_takes_27  F)  ih m y1 y2 y3 y4 y5 y6 hy3
def f_X1_takes (m : mM) (p1 : Int32) (p2 : Int32) : fR Int32 :=
  chR true 2 (mR m 2624) fun r1 => chR true 5 (mR m (64 * r1 + 4)) fun r2 => (if (mI m (64 * r2 + 3)) = 0 then some (100, m) else (f_X1_takes_27  1000 m p1 p2 r2 0 0 0))
theorem c_X1_takes (m : mM) (p1 : Int32) (p2 : Int32)  : cF true uI m_X1_takes 4 [.ref 41, .int p1, .int p2] m (f_X1_takes m p1 p2) := by
  refine cF_of ok_X1_takes (fun _ _ => Nat.le_of_ble_eq_true rfl) ?_
  unfold f_X1_takes
  show JF _ _ _ _ _ [(0, .ref 41), (1, .int p1), (2, .int p2)] _ _ _
  refine F_aload_n (i := 0) (a := 0) rfl rfl (dk_X1_takes 0 _ rfl) ?_
  refine F_gV (n := 2624) fxX_1_0_41 rfl fl_1_24 (dk_X1_takes 1 _ rfl) ?_
  refine F_ch (fun r1 hr1 => ?_)
  refine F_gV (n := (64 * r1 + 4)) (lyS_4 hr1) rfl fl_1_68 (dk_X1_takes 4 _ rfl) ?_
  refine F_ch (fun r2 hr2 => ?_)
  refine F_astore_n (lv' := [(3, .ref r2), (0, .ref 41), (1, .int p1), (2, .int p2)]) (i := 3) (a := 3) rfl (by decide) rfl (dk_X1_takes 7 _ rfl) ?_
  refine F_aload_n (i := 3) (a := 3) rfl rfl (dk_X1_takes 8 _ rfl) ?_
  refine F_gI (n := (64 * r2 + 3)) (lyT_3 hr2) rfl fl_1_103 (dk_X1_takes 9 _ rfl) ?_
  refine F_if_ne (tgt := 18) (by decide) (dk_X1_takes 12 _ rfl) ?_ ?_
  · refine F_iconst (v := 0) (by decide) (dk_X1_takes 18 _ rfl) ?_
    refine F_istore (lv' := [(4, .int 0), (3, .ref r2), (0, .ref 41), (1, .int p1), (2, .int p2)]) (i := 4) (by decide) rfl (dk_X1_takes 19 _ rfl) ?_
    refine F_iconst (v := 0) (by decide) (dk_X1_takes 21 _ rfl) ?_
    refine F_istore (lv' := [(5, .int 0), (4, .int 0), (3, .ref r2), (0, .ref 41), (1, .int p1), (2, .int p2)]) (i := 5) (by decide) rfl (dk_X1_takes 22 _ rfl) ?_
    refine F_iconst (v := 0) (by decide) (dk_X1_takes 24 _ rfl) ?_
    refine F_istore (lv' := [(6, .int 0), (5, .int 0), (4, .int 0), (3, .ref r2), (0, .ref 41), (1, .int p1), (2, .int p2)]) (i := 6) (by decide) rfl (dk_X1_takes 25 _ rfl) ?_
    exact F_loc (List.forall_mem_cons.mpr ⟨(.tail _ (.tail _ (.tail _ (.tail _ (.head _))))), (List.forall_mem_cons.mpr ⟨(.tail _ (.tail _ (.tail _ (.tail _ (.tail _ (.head _)))))), (List.forall_mem_cons.mpr ⟨(.tail _ (.tail _ (.tail _ (.tail _ (.tail _ (.tail _ (.head _))))))), (List.forall_mem_cons.mpr ⟨(.tail _ (.tail _ (.tail _ (.head _)))), (List.forall_mem_cons.mpr ⟨(.tail _ (.tail _ (.head _))), (List.forall_mem_cons.mpr ⟨(.tail _ (.head _)), (List.forall_mem_cons.mpr ⟨(.head _), (fun _ z => absurd z List.not_mem_nil)⟩)⟩)⟩)⟩)⟩)⟩)⟩) (j_X1_takes_27   1000 _ _ _ _ _ _ _ (hr2))
  · refine F_bipush (v := 100) (by decide) (dk_X1_takes 15 _ rfl) ?_
    exact F_ret rfl (dk_X1_takes 17 _ rfl)
def f_X1_sell_78 (K7 : mM → Int32 → fR Unit) (m : mM) (y1 : Int32) (y2 : Int32) (y100 : Int32) : fR Unit :=
  (gA (mA m 42) y1).bind fun x10 => chR true 2 (mR m 2624) fun r11 => chR true 5 (mR m (64 * r11 + 4)) fun r12 => bnd (f_X1_putOff m y1) fun (x13 : Int32) (m14 : mM) => (sA 0 m14 42 y1 ((x10 + ((y2 - ((mI m (64 * r12 + 1)) * x13)) - y100)))).bind fun m16 => nmM (wI m16 2628 (((mI m16 2628) + y100))) fun m17 => (K7 m17 (y1 + 1))
theorem j_X1_sell_78 (K7 : mM → Int32 → fR Unit) (hK7 : ∀ (m : mM) (y1 : Int32) , JF true uU m_X1_sell 5 7 [(0, .ref 41), (1, .int y1)] [] m (K7 m y1)) (m : mM) (y1 : Int32) (y2 : Int32) (y100 : Int32)  : JF true uU m_X1_sell 5 78 [(0, .ref 41), (1, .int y1), (2, .int y2)] [.int y100] m (f_X1_sell_78 K7 m y1 y2 y100) := by
  unfold f_X1_sell_78
  refine F_istore_n (lv' := [(3, .int y100), (0, .ref 41), (1, .int y1), (2, .int y2)]) (i := 3) (a := 3) rfl (by decide) rfl (dk_X1_sell 78 _ rfl) ?_
  refine F_aload_n (i := 0) (a := 0) rfl rfl (dk_X1_sell 79 _ rfl) ?_
  refine F_gR (b := 42) fxX_1_5_41 fl_1_9 (dk_X1_sell 80 _ rfl) ?_
  refine F_iload_n (i := 1) (a := 1) rfl rfl (dk_X1_sell 83 _ rfl) ?_
  refine F_dup2 rfl rfl (dk_X1_sell 84 _ rfl) ?_
  refine F_iald (axX_0_42) (dk_X1_sell 85 _ rfl) (fun x10 => ?_)
  refine F_iload_n (i := 2) (a := 2) rfl rfl (dk_X1_sell 86 _ rfl) ?_
  refine F_aload_n (i := 0) (a := 0) rfl rfl (dk_X1_sell 87 _ rfl) ?_
  refine F_gV (n := 2624) fxX_1_0_41 rfl fl_1_24 (dk_X1_sell 88 _ rfl) ?_
  refine F_ch (fun r11 hr11 => ?_)
  refine F_gV (n := (64 * r11 + 4)) (lyS_4 hr11) rfl fl_1_68 (dk_X1_sell 91 _ rfl) ?_
  refine F_ch (fun r12 hr12 => ?_)
  refine F_gI (n := (64 * r12 + 1)) (lyT_1 hr12) rfl fl_1_72 (dk_X1_sell 94 _ rfl) ?_
  refine F_aload_n (i := 0) (a := 0) rfl rfl (dk_X1_sell 97 _ rfl) ?_
  refine F_iload_n (i := 1) (a := 1) rfl rfl (dk_X1_sell 98 _ rfl) ?_
  refine F_callV (ι' := uI) (ci := 1) (b := 41) (As := [.int y1]) (d' := 2) (rfl) ok_X1_putOff vi_X1_putOff cl_1_77 (n := 1) (by decide +kernel) rfl rfl rfl (Nat.le_of_ble_eq_true rfl) (by omega) (dk_X1_sell 99 _ rfl) (c_X1_putOff _ _ ) (fun x13 m14 => ?_)
  show JF _ _ _ _ _ _ [.int x13, .int (mI m (64 * r12 + 1)), .int y2, .int x10, .int y1, .ref 42] _ _
  refine F_imul (dk_X1_sell 102 _ rfl) ?_
  refine F_isub (dk_X1_sell 103 _ rfl) ?_
  refine F_iload_n (i := 3) (a := 3) rfl rfl (dk_X1_sell 104 _ rfl) ?_
  refine F_isub (dk_X1_sell 105 _ rfl) ?_
  refine F_iadd (dk_X1_sell 106 _ rfl) ?_
  refine F_iast (axX_0_42) (dk_X1_sell 107 _ rfl) (fun m16 => ?_)
  refine F_aload_n (i := 0) (a := 0) rfl rfl (dk_X1_sell 108 _ rfl) ?_
  refine F_dup rfl (dk_X1_sell 109 _ rfl) ?_
  refine F_gI (n := 2628) fxX_1_4_41 rfl fl_1_61 (dk_X1_sell 110 _ rfl) ?_
  refine F_iload_n (i := 3) (a := 3) rfl rfl (dk_X1_sell 113 _ rfl) ?_
  refine F_iadd (dk_X1_sell 114 _ rfl) ?_
  refine F_pI (n := 2628) fxX_1_4_41 rfl fl_1_61 (fun q hq => by cases hq; rfl) trivial (dk_X1_sell 115 _ rfl) (fun m17 => ?_)
  refine F_iinc (i := 1) (n := 1) (v := (y1 + 1)) (lv' := [(1, .int (y1 + 1)), (3, .int y100), (0, .ref 41), (2, .int y2)]) rfl (by first | rfl | decide) (by decide) rfl (dk_X1_sell 118 _ rfl) ?_
  refine F_goto (tgt := 7) (by decide) (dk_X1_sell 121 _ rfl) ?_
  exact F_loc (List.forall_mem_cons.mpr ⟨(.tail _ (.tail _ (.head _))), (List.forall_mem_cons.mpr ⟨(.head _), (fun _ z => absurd z List.not_mem_nil)⟩)⟩) (hK7 _ _ )
def fb_X1_sell_7 (K7 : mM → Int32 → fR Unit) (m : mM) (y1 : Int32) : fR Unit :=
  chR true 2 (mR m 2624) fun r2 => (if (mI m (64 * r2 + 0)) ≤ y1 then some ((), m) else chR true 2 (mR m 2624) fun r3 => (gA (mA m (r3 + 6)) y1).bind fun x4 => (if x4 = 0 then (K7 m (y1 + 1)) else (gA (mA m 44) y1).bind fun x5 => (if x5 = (mI m 2626) then bnd (f_X1_takes m y1 (mI m 2626)) fun (x6 : Int32) (m7 : mM) => (gA (mA m7 45) (mI m7 2626)).bind fun x9 => (if x9 ≤ 0 then (f_X1_sell_78 K7 m7 y1 x6 0) else (dvI ((x6 * (mI m7 2625))) 100).bind fun x18 => (f_X1_sell_78 K7 m7 y1 x6 x18)) else (K7 m (y1 + 1)))))
def f_X1_sell_7  : Nat → mM → Int32 → fR Unit
  | 0, _, _ => none
  | F + 1, m, y1 => fb_X1_sell_7  (f_X1_sell_7  F) m y1
theorem jb_X1_sell_7 (K7 : mM → Int32 → fR Unit) (hK7 : ∀ (m : mM) (y1 : Int32) , JF true uU m_X1_sell 5 7 [(0, .ref 41), (1, .int y1)] [] m (K7 m y1)) (m : mM) (y1 : Int32)  : JF true uU m_X1_sell 5 7 [(0, .ref 41), (1, .int y1)] [] m (fb_X1_sell_7 K7 m y1) := by
  unfold fb_X1_sell_7
  refine F_iload_n (i := 1) (a := 1) rfl rfl (dk_X1_sell 7 _ rfl) ?_
  refine F_aload_n (i := 0) (a := 0) rfl rfl (dk_X1_sell 8 _ rfl) ?_
  refine F_gV (n := 2624) fxX_1_0_41 rfl fl_1_24 (dk_X1_sell 9 _ rfl) ?_
  refine F_ch (fun r2 hr2 => ?_)
  refine F_gI (n := (64 * r2 + 0)) (lyS_0 hr2) rfl fl_1_42 (dk_X1_sell 12 _ rfl) ?_
  refine F_icmp_ge (tgt := 124) (by decide) (dk_X1_sell 15 _ rfl) ?_ ?_
  · exact F_retV rfl (dk_X1_sell 124 _ rfl)
  · refine F_aload_n (i := 0) (a := 0) rfl rfl (dk_X1_sell 18 _ rfl) ?_
    refine F_gV (n := 2624) fxX_1_0_41 rfl fl_1_24 (dk_X1_sell 19 _ rfl) ?_
    refine F_ch (fun r3 hr3 => ?_)
    refine F_gR (b := (r3 + 6)) (lyS_10 hr3).1 fl_1_45 (dk_X1_sell 22 _ rfl) ?_
    refine F_iload_n (i := 1) (a := 1) rfl rfl (dk_X1_sell 25 _ rfl) ?_
    refine F_zald ((lyS_10 hr3).2) (dk_X1_sell 26 _ rfl) (fun x4 => ?_)
    refine F_if_eq (tgt := 118) (by decide) (dk_X1_sell 27 _ rfl) ?_ ?_
    · refine F_iinc (i := 1) (n := 1) (v := (y1 + 1)) (lv' := [(1, .int (y1 + 1)), (0, .ref 41)]) rfl (by first | rfl | decide) (by decide) rfl (dk_X1_sell 118 _ rfl) ?_
      refine F_goto (tgt := 7) (by decide) (dk_X1_sell 121 _ rfl) ?_
      exact F_loc (List.forall_mem_cons.mpr ⟨(.tail _ (.head _)), (List.forall_mem_cons.mpr ⟨(.head _), (fun _ z => absurd z List.not_mem_nil)⟩)⟩) (hK7 _ _ )
    · refine F_aload_n (i := 0) (a := 0) rfl rfl (dk_X1_sell 30 _ rfl) ?_
      refine F_gR (b := 44) fxX_1_7_41 fl_1_18 (dk_X1_sell 31 _ rfl) ?_
      refine F_iload_n (i := 1) (a := 1) rfl rfl (dk_X1_sell 34 _ rfl) ?_
      refine F_iald (axX_0_44) (dk_X1_sell 35 _ rfl) (fun x5 => ?_)
      refine F_aload_n (i := 0) (a := 0) rfl rfl (dk_X1_sell 36 _ rfl) ?_
      refine F_gI (n := 2626) fxX_1_2_41 rfl fl_1_37 (dk_X1_sell 37 _ rfl) ?_
      refine F_icmp_ne (tgt := 118) (by decide) (dk_X1_sell 40 _ rfl) ?_ ?_
      · refine F_iinc (i := 1) (n := 1) (v := (y1 + 1)) (lv' := [(1, .int (y1 + 1)), (0, .ref 41)]) rfl (by first | rfl | decide) (by decide) rfl (dk_X1_sell 118 _ rfl) ?_
        refine F_goto (tgt := 7) (by decide) (dk_X1_sell 121 _ rfl) ?_
        exact F_loc (List.forall_mem_cons.mpr ⟨(.tail _ (.head _)), (List.forall_mem_cons.mpr ⟨(.head _), (fun _ z => absurd z List.not_mem_nil)⟩)⟩) (hK7 _ _ )
      · refine F_aload_n (i := 0) (a := 0) rfl rfl (dk_X1_sell 43 _ rfl) ?_
        refine F_iload_n (i := 1) (a := 1) rfl rfl (dk_X1_sell 44 _ rfl) ?_
        refine F_aload_n (i := 0) (a := 0) rfl rfl (dk_X1_sell 45 _ rfl) ?_
        refine F_gI (n := 2626) fxX_1_2_41 rfl fl_1_37 (dk_X1_sell 46 _ rfl) ?_
        refine F_callV (ι' := uI) (ci := 1) (b := 41) (As := [.int y1, .int (mI m 2626)]) (d' := 4) (rfl) ok_X1_takes vi_X1_takes cl_1_64 (n := 2) (by decide +kernel) rfl rfl rfl (Nat.le_of_ble_eq_true rfl) (by omega) (dk_X1_sell 49 _ rfl) (c_X1_takes _ _ _ ) (fun x6 m7 => ?_)
        show JF _ _ _ _ _ _ [.int x6] _ _
        refine F_istore_n (lv' := [(2, .int x6), (0, .ref 41), (1, .int y1)]) (i := 2) (a := 2) rfl (by decide) rfl (dk_X1_sell 52 _ rfl) ?_
        refine F_aload_n (i := 0) (a := 0) rfl rfl (dk_X1_sell 53 _ rfl) ?_
        refine F_gR (b := 45) fxX_1_8_41 fl_1_21 (dk_X1_sell 54 _ rfl) ?_
        refine F_aload_n (i := 0) (a := 0) rfl rfl (dk_X1_sell 57 _ rfl) ?_
        refine F_gI (n := 2626) fxX_1_2_41 rfl fl_1_37 (dk_X1_sell 58 _ rfl) ?_
        refine F_iald (axX_0_45) (dk_X1_sell 61 _ rfl) (fun x9 => ?_)
        refine F_if_le (tgt := 77) (by decide) (dk_X1_sell 62 _ rfl) ?_ ?_
        · refine F_iconst (v := 0) (by decide) (dk_X1_sell 77 _ rfl) ?_
          exact F_loc (List.forall_mem_cons.mpr ⟨(.tail _ (.head _)), (List.forall_mem_cons.mpr ⟨(.tail _ (.tail _ (.head _))), (List.forall_mem_cons.mpr ⟨(.head _), (fun _ z => absurd z List.not_mem_nil)⟩)⟩)⟩) (j_X1_sell_78 K7 hK7 _ _ _ _ )
        · refine F_iload_n (i := 2) (a := 2) rfl rfl (dk_X1_sell 65 _ rfl) ?_
          refine F_aload_n (i := 0) (a := 0) rfl rfl (dk_X1_sell 66 _ rfl) ?_
          refine F_gI (n := 2625) fxX_1_1_41 rfl fl_1_28 (dk_X1_sell 67 _ rfl) ?_
          refine F_imul (dk_X1_sell 70 _ rfl) ?_
          refine F_bipush (v := 100) (by decide) (dk_X1_sell 71 _ rfl) ?_
          refine F_idiv (dk_X1_sell 73 _ rfl) (fun x18 => ?_)
          refine F_goto (tgt := 78) (by decide) (dk_X1_sell 74 _ rfl) ?_
          exact F_loc (List.forall_mem_cons.mpr ⟨(.tail _ (.head _)), (List.forall_mem_cons.mpr ⟨(.tail _ (.tail _ (.head _))), (List.forall_mem_cons.mpr ⟨(.head _), (fun _ z => absurd z List.not_mem_nil)⟩)⟩)⟩) (j_X1_sell_78 K7 hK7 _ _ _ _ )
theorem j_X1_sell_7   : ∀ (F : Nat) (m : mM) (y1 : Int32) , JF true uU m_X1_sell 5 7 [(0, .ref 41), (1, .int y1)] [] m (f_X1_sell_7  F m y1) := by
  intro F
  induction F with
  | zero => intro m y1 ; exact F_no
  | succ F ih => intro m y1 ; exact jb_X1_sell_7  (f_X1_sell_7  F)  ih m y1 
def f_X1_sell (m : mM)  : fR Unit :=
  nmM (wI m 2628 0) fun m1 => (f_X1_sell_7  1000 m1 0)
theorem c_X1_sell (m : mM)   : cF true uU m_X1_sell 5 [.ref 41] m (f_X1_sell m ) := by
  refine cF_of ok_X1_sell (fun _ _ => Nat.le_of_ble_eq_true rfl) ?_
  unfold f_X1_sell
  show JF _ _ _ _ _ [(0, .ref 41)] _ _ _
  refine F_aload_n (i := 0) (a := 0) rfl rfl (dk_X1_sell 0 _ rfl) ?_
  refine F_iconst (v := 0) (by decide) (dk_X1_sell 1 _ rfl) ?_
  refine F_pI (n := 2628) fxX_1_4_41 rfl fl_1_61 (fun q hq => by cases hq; rfl) trivial (dk_X1_sell 2 _ rfl) (fun m1 => ?_)
  refine F_iconst (v := 0) (by decide) (dk_X1_sell 5 _ rfl) ?_
  refine F_istore_n (lv' := [(1, .int 0), (0, .ref 41)]) (i := 1) (a := 1) rfl (by decide) rfl (dk_X1_sell 6 _ rfl) ?_
  exact F_loc (List.forall_mem_cons.mpr ⟨(.tail _ (.head _)), (List.forall_mem_cons.mpr ⟨(.head _), (fun _ z => absurd z List.not_mem_nil)⟩)⟩) (j_X1_sell_7   1000 _ _ )
def fb_X1_share_32 (K32 : mM → Int32 → Int32 → Int32 → fR Unit) (m : mM) (y2 : Int32) (y3 : Int32) (y4 : Int32) : fR Unit :=
  chR true 2 (mR m 2624) fun r4 => (if (mI m (64 * r4 + 0)) ≤ y4 then some ((), m) else chR true 2 (mR m 2624) fun r5 => (gA (mA m (r5 + 6)) y4).bind fun x6 => (if x6 = 0 then (K32 m y2 y3 (y4 + 1)) else chR true 2 (mR m 2624) fun r7 => (gA (mA m (r7 + 3)) y4).bind fun x8 => (if x8 = (mI m 2626) then (gA (mA m 42) y4).bind fun x9 => (sA 0 m 42 y4 ((x9 + (y2 + y3)))).bind fun m10 => (gA (mA m10 43) y4).bind fun x11 => (sA 0 m10 43 y4 ((x11 + (y2 + y3)))).bind fun m12 => (K32 m12 y2 0 (y4 + 1)) else (K32 m y2 y3 (y4 + 1)))))
def f_X1_share_32  : Nat → mM → Int32 → Int32 → Int32 → fR Unit
  | 0, _, _, _, _ => none
  | F + 1, m, y2, y3, y4 => fb_X1_share_32  (f_X1_share_32  F) m y2 y3 y4
theorem jb_X1_share_32 (K32 : mM → Int32 → Int32 → Int32 → fR Unit) (hK32 : ∀ (m : mM) (y2 : Int32) (y3 : Int32) (y4 : Int32) , JF true uU m_X1_share 2 32 [(0, .ref 41), (2, .int y2), (3, .int y3), (4, .int y4)] [] m (K32 m y2 y3 y4)) (m : mM) (y2 : Int32) (y3 : Int32) (y4 : Int32)  : JF true uU m_X1_share 2 32 [(0, .ref 41), (2, .int y2), (3, .int y3), (4, .int y4)] [] m (fb_X1_share_32 K32 m y2 y3 y4) := by
  unfold fb_X1_share_32
  refine F_iload (i := 4) rfl (dk_X1_share 32 _ rfl) ?_
  refine F_aload_n (i := 0) (a := 0) rfl rfl (dk_X1_share 34 _ rfl) ?_
  refine F_gV (n := 2624) fxX_1_0_41 rfl fl_1_24 (dk_X1_share 35 _ rfl) ?_
  refine F_ch (fun r4 hr4 => ?_)
  refine F_gI (n := (64 * r4 + 0)) (lyS_0 hr4) rfl fl_1_42 (dk_X1_share 38 _ rfl) ?_
  refine F_icmp_ge (tgt := 108) (by decide) (dk_X1_share 41 _ rfl) ?_ ?_
  · exact F_retV rfl (dk_X1_share 108 _ rfl)
  · refine F_aload_n (i := 0) (a := 0) rfl rfl (dk_X1_share 44 _ rfl) ?_
    refine F_gV (n := 2624) fxX_1_0_41 rfl fl_1_24 (dk_X1_share 45 _ rfl) ?_
    refine F_ch (fun r5 hr5 => ?_)
    refine F_gR (b := (r5 + 6)) (lyS_10 hr5).1 fl_1_45 (dk_X1_share 48 _ rfl) ?_
    refine F_iload (i := 4) rfl (dk_X1_share 51 _ rfl) ?_
    refine F_zald ((lyS_10 hr5).2) (dk_X1_share 53 _ rfl) (fun x6 => ?_)
    refine F_if_eq (tgt := 102) (by decide) (dk_X1_share 54 _ rfl) ?_ ?_
    · refine F_iinc (i := 4) (n := 1) (v := (y4 + 1)) (lv' := [(4, .int (y4 + 1)), (0, .ref 41), (2, .int y2), (3, .int y3)]) rfl (by first | rfl | decide) (by decide) rfl (dk_X1_share 102 _ rfl) ?_
      refine F_goto (tgt := 32) (by decide) (dk_X1_share 105 _ rfl) ?_
      exact F_loc (List.forall_mem_cons.mpr ⟨(.tail _ (.head _)), (List.forall_mem_cons.mpr ⟨(.tail _ (.tail _ (.head _))), (List.forall_mem_cons.mpr ⟨(.tail _ (.tail _ (.tail _ (.head _)))), (List.forall_mem_cons.mpr ⟨(.head _), (fun _ z => absurd z List.not_mem_nil)⟩)⟩)⟩)⟩) (hK32 _ _ _ _ )
    · refine F_aload_n (i := 0) (a := 0) rfl rfl (dk_X1_share 57 _ rfl) ?_
      refine F_gV (n := 2624) fxX_1_0_41 rfl fl_1_24 (dk_X1_share 58 _ rfl) ?_
      refine F_ch (fun r7 hr7 => ?_)
      refine F_gR (b := (r7 + 3)) (lyS_7 hr7).1 fl_1_49 (dk_X1_share 61 _ rfl) ?_
      refine F_iload (i := 4) rfl (dk_X1_share 64 _ rfl) ?_
      refine F_iald ((lyS_7 hr7).2) (dk_X1_share 66 _ rfl) (fun x8 => ?_)
      refine F_aload_n (i := 0) (a := 0) rfl rfl (dk_X1_share 67 _ rfl) ?_
      refine F_gI (n := 2626) fxX_1_2_41 rfl fl_1_37 (dk_X1_share 68 _ rfl) ?_
      refine F_icmp_ne (tgt := 102) (by decide) (dk_X1_share 71 _ rfl) ?_ ?_
      · refine F_iinc (i := 4) (n := 1) (v := (y4 + 1)) (lv' := [(4, .int (y4 + 1)), (0, .ref 41), (2, .int y2), (3, .int y3)]) rfl (by first | rfl | decide) (by decide) rfl (dk_X1_share 102 _ rfl) ?_
        refine F_goto (tgt := 32) (by decide) (dk_X1_share 105 _ rfl) ?_
        exact F_loc (List.forall_mem_cons.mpr ⟨(.tail _ (.head _)), (List.forall_mem_cons.mpr ⟨(.tail _ (.tail _ (.head _))), (List.forall_mem_cons.mpr ⟨(.tail _ (.tail _ (.tail _ (.head _)))), (List.forall_mem_cons.mpr ⟨(.head _), (fun _ z => absurd z List.not_mem_nil)⟩)⟩)⟩)⟩) (hK32 _ _ _ _ )
      · refine F_aload_n (i := 0) (a := 0) rfl rfl (dk_X1_share 74 _ rfl) ?_
        refine F_gR (b := 42) fxX_1_5_41 fl_1_9 (dk_X1_share 75 _ rfl) ?_
        refine F_iload (i := 4) rfl (dk_X1_share 78 _ rfl) ?_
        refine F_dup2 rfl rfl (dk_X1_share 80 _ rfl) ?_
        refine F_iald (axX_0_42) (dk_X1_share 81 _ rfl) (fun x9 => ?_)
        refine F_iload_n (i := 2) (a := 2) rfl rfl (dk_X1_share 82 _ rfl) ?_
        refine F_iload_n (i := 3) (a := 3) rfl rfl (dk_X1_share 83 _ rfl) ?_
        refine F_iadd (dk_X1_share 84 _ rfl) ?_
        refine F_iadd (dk_X1_share 85 _ rfl) ?_
        refine F_iast (axX_0_42) (dk_X1_share 86 _ rfl) (fun m10 => ?_)
        refine F_aload_n (i := 0) (a := 0) rfl rfl (dk_X1_share 87 _ rfl) ?_
        refine F_gR (b := 43) fxX_1_6_41 fl_1_15 (dk_X1_share 88 _ rfl) ?_
        refine F_iload (i := 4) rfl (dk_X1_share 91 _ rfl) ?_
        refine F_dup2 rfl rfl (dk_X1_share 93 _ rfl) ?_
        refine F_iald (axX_0_43) (dk_X1_share 94 _ rfl) (fun x11 => ?_)
        refine F_iload_n (i := 2) (a := 2) rfl rfl (dk_X1_share 95 _ rfl) ?_
        refine F_iload_n (i := 3) (a := 3) rfl rfl (dk_X1_share 96 _ rfl) ?_
        refine F_iadd (dk_X1_share 97 _ rfl) ?_
        refine F_iadd (dk_X1_share 98 _ rfl) ?_
        refine F_iast (axX_0_43) (dk_X1_share 99 _ rfl) (fun m12 => ?_)
        refine F_iconst (v := 0) (by decide) (dk_X1_share 100 _ rfl) ?_
        refine F_istore_n (lv' := [(3, .int 0), (0, .ref 41), (2, .int y2), (4, .int y4)]) (i := 3) (a := 3) rfl (by decide) rfl (dk_X1_share 101 _ rfl) ?_
        refine F_iinc (i := 4) (n := 1) (v := (y4 + 1)) (lv' := [(4, .int (y4 + 1)), (3, .int 0), (0, .ref 41), (2, .int y2)]) rfl (by first | rfl | decide) (by decide) rfl (dk_X1_share 102 _ rfl) ?_
        refine F_goto (tgt := 32) (by decide) (dk_X1_share 105 _ rfl) ?_
        exact F_loc (List.forall_mem_cons.mpr ⟨(.tail _ (.tail _ (.head _))), (List.forall_mem_cons.mpr ⟨(.tail _ (.tail _ (.tail _ (.head _)))), (List.forall_mem_cons.mpr ⟨(.tail _ (.head _)), (List.forall_mem_cons.mpr ⟨(.head _), (fun _ z => absurd z List.not_mem_nil)⟩)⟩)⟩)⟩) (hK32 _ _ _ _ )
theorem j_X1_share_32   : ∀ (F : Nat) (m : mM) (y2 : Int32) (y3 : Int32) (y4 : Int32) , JF true uU m_X1_share 2 32 [(0, .ref 41), (2, .int y2), (3, .int y3), (4, .int y4)] [] m (f_X1_share_32  F m y2 y3 y4) := by
  intro F
  induction F with
  | zero => intro m y2 y3 y4 ; exact F_no
  | succ F ih => intro m y2 y3 y4 ; exact jb_X1_share_32  (f_X1_share_32  F)  ih m y2 y3 y4 
def f_X1_share (m : mM)  : fR Unit :=
  (gA (mA m 45) (mI m 2626)).bind fun x1 => (if x1 = 0 then some ((), m) else (dvI (mI m 2628) x1).bind fun x2 => (rmI (mI m 2628) x1).bind fun x3 => (f_X1_share_32  1000 m x2 x3 0))
theorem c_X1_share (m : mM)   : cF true uU m_X1_share 2 [.ref 41] m (f_X1_share m ) := by
  refine cF_of ok_X1_share (fun _ _ => Nat.le_of_ble_eq_true rfl) ?_
  unfold f_X1_share
  show JF _ _ _ _ _ [(0, .ref 41)] _ _ _
  refine F_aload_n (i := 0) (a := 0) rfl rfl (dk_X1_share 0 _ rfl) ?_
  refine F_gR (b := 45) fxX_1_8_41 fl_1_21 (dk_X1_share 1 _ rfl) ?_
  refine F_aload_n (i := 0) (a := 0) rfl rfl (dk_X1_share 4 _ rfl) ?_
  refine F_gI (n := 2626) fxX_1_2_41 rfl fl_1_37 (dk_X1_share 5 _ rfl) ?_
  refine F_iald (axX_0_45) (dk_X1_share 8 _ rfl) (fun x1 => ?_)
  refine F_istore_n (lv' := [(1, .int x1), (0, .ref 41)]) (i := 1) (a := 1) rfl (by decide) rfl (dk_X1_share 9 _ rfl) ?_
  refine F_iload_n (i := 1) (a := 1) rfl rfl (dk_X1_share 10 _ rfl) ?_
  refine F_if_ne (tgt := 15) (by decide) (dk_X1_share 11 _ rfl) ?_ ?_
  · refine F_aload_n (i := 0) (a := 0) rfl rfl (dk_X1_share 15 _ rfl) ?_
    refine F_gI (n := 2628) fxX_1_4_41 rfl fl_1_61 (dk_X1_share 16 _ rfl) ?_
    refine F_iload_n (i := 1) (a := 1) rfl rfl (dk_X1_share 19 _ rfl) ?_
    refine F_idiv (dk_X1_share 20 _ rfl) (fun x2 => ?_)
    refine F_istore_n (lv' := [(2, .int x2), (1, .int x1), (0, .ref 41)]) (i := 2) (a := 2) rfl (by decide) rfl (dk_X1_share 21 _ rfl) ?_
    refine F_aload_n (i := 0) (a := 0) rfl rfl (dk_X1_share 22 _ rfl) ?_
    refine F_gI (n := 2628) fxX_1_4_41 rfl fl_1_61 (dk_X1_share 23 _ rfl) ?_
    refine F_iload_n (i := 1) (a := 1) rfl rfl (dk_X1_share 26 _ rfl) ?_
    refine F_irem (dk_X1_share 27 _ rfl) (fun x3 => ?_)
    refine F_istore_n (lv' := [(3, .int x3), (2, .int x2), (1, .int x1), (0, .ref 41)]) (i := 3) (a := 3) rfl (by decide) rfl (dk_X1_share 28 _ rfl) ?_
    refine F_iconst (v := 0) (by decide) (dk_X1_share 29 _ rfl) ?_
    refine F_istore (lv' := [(4, .int 0), (3, .int x3), (2, .int x2), (1, .int x1), (0, .ref 41)]) (i := 4) (by decide) rfl (dk_X1_share 30 _ rfl) ?_
    exact F_loc (List.forall_mem_cons.mpr ⟨(.tail _ (.tail _ (.tail _ (.tail _ (.head _))))), (List.forall_mem_cons.mpr ⟨(.tail _ (.tail _ (.head _))), (List.forall_mem_cons.mpr ⟨(.tail _ (.head _)), (List.forall_mem_cons.mpr ⟨(.head _), (fun _ z => absurd z List.not_mem_nil)⟩)⟩)⟩)⟩) (j_X1_share_32   1000 _ _ _ _ )
  · exact F_retV rfl (dk_X1_share 14 _ rfl)
def fb_X1_go_2 (K2 : mM → Int32 → Int32 → fR Unit) (m : mM) (y1 : Int32) (y2 : Int32) : fR Unit :=
  (if y1 ≤ y2 then some ((), m) else bnd (f_X1_sell m ) fun (x1 : Unit) (m2 : mM) => bnd (f_X1_share m2 ) fun (x4 : Unit) (m5 : mM) => nmM (wI m5 2626 (((mI m5 2626) + 1))) fun m7 => (if (mI m7 2626) < 12 then (K2 m7 y1 (y2 + 1)) else nmM (wI m7 2626 0) fun m8 => nmM (wI m8 2627 (((mI m8 2627) + 1))) fun m9 => bnd (f_X1_beginYear m9 ) fun (x10 : Unit) (m11 : mM) => (K2 m11 y1 (y2 + 1))))
def f_X1_go_2  : Nat → mM → Int32 → Int32 → fR Unit
  | 0, _, _, _ => none
  | F + 1, m, y1, y2 => fb_X1_go_2  (f_X1_go_2  F) m y1 y2
theorem jb_X1_go_2 (K2 : mM → Int32 → Int32 → fR Unit) (hK2 : ∀ (m : mM) (y1 : Int32) (y2 : Int32) , JF true uU m_X1_go 6 2 [(0, .ref 41), (1, .int y1), (2, .int y2)] [] m (K2 m y1 y2)) (m : mM) (y1 : Int32) (y2 : Int32)  : JF true uU m_X1_go 6 2 [(0, .ref 41), (1, .int y1), (2, .int y2)] [] m (fb_X1_go_2 K2 m y1 y2) := by
  unfold fb_X1_go_2
  refine F_iload_n (i := 2) (a := 2) rfl rfl (dk_X1_go 2 _ rfl) ?_
  refine F_iload_n (i := 1) (a := 1) rfl rfl (dk_X1_go 3 _ rfl) ?_
  refine F_icmp_ge (tgt := 59) (by decide) (dk_X1_go 4 _ rfl) ?_ ?_
  · exact F_retV rfl (dk_X1_go 59 _ rfl)
  · refine F_aload_n (i := 0) (a := 0) rfl rfl (dk_X1_go 7 _ rfl) ?_
    refine F_callV (ι' := uU) (ci := 1) (b := 41) (As := []) (d' := 5) (rfl) ok_X1_sell vi_X1_sell cl_1_55 (n := 0) (by decide +kernel) rfl rfl rfl (Nat.le_of_ble_eq_true rfl) (by omega) (dk_X1_go 8 _ rfl) (c_X1_sell _  ) (fun x1 m2 => ?_)
    show JF _ _ _ _ _ _ [] _ _
    refine F_aload_n (i := 0) (a := 0) rfl rfl (dk_X1_go 11 _ rfl) ?_
    refine F_callV (ι' := uU) (ci := 1) (b := 41) (As := []) (d' := 2) (rfl) ok_X1_share vi_X1_share cl_1_58 (n := 0) (by decide +kernel) rfl rfl rfl (Nat.le_of_ble_eq_true rfl) (by omega) (dk_X1_go 12 _ rfl) (c_X1_share _  ) (fun x4 m5 => ?_)
    show JF _ _ _ _ _ _ [] _ _
    refine F_aload_n (i := 0) (a := 0) rfl rfl (dk_X1_go 15 _ rfl) ?_
    refine F_dup rfl (dk_X1_go 16 _ rfl) ?_
    refine F_gI (n := 2626) fxX_1_2_41 rfl fl_1_37 (dk_X1_go 17 _ rfl) ?_
    refine F_iconst (v := 1) (by decide) (dk_X1_go 20 _ rfl) ?_
    refine F_iadd (dk_X1_go 21 _ rfl) ?_
    refine F_pI (n := 2626) fxX_1_2_41 rfl fl_1_37 (fun q hq => by cases hq; rfl) trivial (dk_X1_go 22 _ rfl) (fun m7 => ?_)
    refine F_aload_n (i := 0) (a := 0) rfl rfl (dk_X1_go 25 _ rfl) ?_
    refine F_gI (n := 2626) fxX_1_2_41 rfl fl_1_37 (dk_X1_go 26 _ rfl) ?_
    refine F_bipush (v := 12) (by decide) (dk_X1_go 29 _ rfl) ?_
    refine F_icmp_lt (tgt := 53) (by decide) (dk_X1_go 31 _ rfl) ?_ ?_
    · refine F_iinc (i := 2) (n := 1) (v := (y2 + 1)) (lv' := [(2, .int (y2 + 1)), (0, .ref 41), (1, .int y1)]) rfl (by first | rfl | decide) (by decide) rfl (dk_X1_go 53 _ rfl) ?_
      refine F_goto (tgt := 2) (by decide) (dk_X1_go 56 _ rfl) ?_
      exact F_loc (List.forall_mem_cons.mpr ⟨(.tail _ (.head _)), (List.forall_mem_cons.mpr ⟨(.tail _ (.tail _ (.head _))), (List.forall_mem_cons.mpr ⟨(.head _), (fun _ z => absurd z List.not_mem_nil)⟩)⟩)⟩) (hK2 _ _ _ )
    · refine F_aload_n (i := 0) (a := 0) rfl rfl (dk_X1_go 34 _ rfl) ?_
      refine F_iconst (v := 0) (by decide) (dk_X1_go 35 _ rfl) ?_
      refine F_pI (n := 2626) fxX_1_2_41 rfl fl_1_37 (fun q hq => by cases hq; rfl) trivial (dk_X1_go 36 _ rfl) (fun m8 => ?_)
      refine F_aload_n (i := 0) (a := 0) rfl rfl (dk_X1_go 39 _ rfl) ?_
      refine F_dup rfl (dk_X1_go 40 _ rfl) ?_
      refine F_gI (n := 2627) fxX_1_3_41 rfl fl_1_41 (dk_X1_go 41 _ rfl) ?_
      refine F_iconst (v := 1) (by decide) (dk_X1_go 44 _ rfl) ?_
      refine F_iadd (dk_X1_go 45 _ rfl) ?_
      refine F_pI (n := 2627) fxX_1_3_41 rfl fl_1_41 (fun q hq => by cases hq; rfl) trivial (dk_X1_go 46 _ rfl) (fun m9 => ?_)
      refine F_aload_n (i := 0) (a := 0) rfl rfl (dk_X1_go 49 _ rfl) ?_
      refine F_callV (ι' := uU) (ci := 1) (b := 41) (As := []) (d' := 4) (rfl) ok_X1_beginYear vi_X1_beginYear cl_1_52 (n := 0) (by decide +kernel) rfl rfl rfl (Nat.le_of_ble_eq_true rfl) (by omega) (dk_X1_go 50 _ rfl) (c_X1_beginYear _  ) (fun x10 m11 => ?_)
      show JF _ _ _ _ _ _ [] _ _
      refine F_iinc (i := 2) (n := 1) (v := (y2 + 1)) (lv' := [(2, .int (y2 + 1)), (0, .ref 41), (1, .int y1)]) rfl (by first | rfl | decide) (by decide) rfl (dk_X1_go 53 _ rfl) ?_
      refine F_goto (tgt := 2) (by decide) (dk_X1_go 56 _ rfl) ?_
      exact F_loc (List.forall_mem_cons.mpr ⟨(.tail _ (.head _)), (List.forall_mem_cons.mpr ⟨(.tail _ (.tail _ (.head _))), (List.forall_mem_cons.mpr ⟨(.head _), (fun _ z => absurd z List.not_mem_nil)⟩)⟩)⟩) (hK2 _ _ _ )
theorem j_X1_go_2   : ∀ (F : Nat) (m : mM) (y1 : Int32) (y2 : Int32) , JF true uU m_X1_go 6 2 [(0, .ref 41), (1, .int y1), (2, .int y2)] [] m (f_X1_go_2  F m y1 y2) := by
  intro F
  induction F with
  | zero => intro m y1 y2 ; exact F_no
  | succ F ih => intro m y1 y2 ; exact jb_X1_go_2  (f_X1_go_2  F)  ih m y1 y2 
def f_X1_go (m : mM) (p1 : Int32) : fR Unit :=
  (f_X1_go_2  1000 m p1 0)
theorem c_X1_go (m : mM) (p1 : Int32)  : cF true uU m_X1_go 6 [.ref 41, .int p1] m (f_X1_go m p1) := by
  refine cF_of ok_X1_go (fun _ _ => Nat.le_of_ble_eq_true rfl) ?_
  unfold f_X1_go
  show JF _ _ _ _ _ [(0, .ref 41), (1, .int p1)] _ _ _
  refine F_iconst (v := 0) (by decide) (dk_X1_go 0 _ rfl) ?_
  refine F_istore_n (lv' := [(2, .int 0), (0, .ref 41), (1, .int p1)]) (i := 2) (a := 2) rfl (by decide) rfl (dk_X1_go 1 _ rfl) ?_
  exact F_loc (List.forall_mem_cons.mpr ⟨(.tail _ (.head _)), (List.forall_mem_cons.mpr ⟨(.tail _ (.tail _ (.head _))), (List.forall_mem_cons.mpr ⟨(.head _), (fun _ z => absurd z List.not_mem_nil)⟩)⟩)⟩) (j_X1_go_2   1000 _ _ _ )
end
