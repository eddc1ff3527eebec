section
set_option maxRecDepth 100000
def f_X6_there (m : mM) (p1 : Int32) (p2 : Int32) : fR Int32 :=
  bnd (f_X6_isPerson m p1) fun (x1 : Int32) (m2 : mM) => (if x1 = 0 then some ((-1), m2) else (gA (mA m2 20) p1).bind fun x4 => (sA 3 m2 20 p1 p2).bind fun m5 => (if x4 = 0 then some (0, m5) else some (1, m5)))
theorem c_X6_there (m : mM) (p1 : Int32) (p2 : Int32)  : cF true uI m_X6_there 3 [.ref 0, .int p1, .int p2] m (f_X6_there m p1 p2) := by
  refine cF_of ok_X6_there (fun _ _ => Nat.le_of_ble_eq_true rfl) ?_
  unfold f_X6_there
  show JF _ _ _ _ _ [(0, .ref 0), (1, .int p1), (2, .int p2)] _ _ _
  refine F_aload_n (i := 0) (a := 0) rfl rfl (dk_X6_there 0 _ rfl) ?_
  refine F_iload_n (i := 1) (a := 1) rfl rfl (dk_X6_there 1 _ rfl) ?_
  refine F_callV (ι' := uI) (ci := 6) (b := 0) (As := [.int p1]) (d' := 2) (rfl) ok_X6_isPerson vi_X6_isPerson cl_6_79 (n := 1) (by decide +kernel) rfl rfl rfl (Nat.le_of_ble_eq_true rfl) (by omega) (dk_X6_there 2 _ rfl) (c_X6_isPerson _ _ ) (fun x1 m2 => ?_)
  show JF _ _ _ _ _ _ [.int x1] _ _
  refine F_if_ne (tgt := 10) (by decide) (dk_X6_there 5 _ rfl) ?_ ?_
  · refine F_aload_n (i := 0) (a := 0) rfl rfl (dk_X6_there 10 _ rfl) ?_
    refine F_gR (b := 14) fxX_6_0_0 fl_6_47 (dk_X6_there 11 _ rfl) ?_
    refine F_gR (b := 20) fxX_2_10_14 fl_6_109 (dk_X6_there 14 _ rfl) ?_
    refine F_iload_n (i := 1) (a := 1) rfl rfl (dk_X6_there 17 _ rfl) ?_
    refine F_zald (axX_3_20) (dk_X6_there 18 _ rfl) (fun x4 => ?_)
    refine F_istore_n (lv' := [(3, .int x4), (0, .ref 0), (1, .int p1), (2, .int p2)]) (i := 3) (a := 3) rfl (by decide) rfl (dk_X6_there 19 _ rfl) ?_
    refine F_aload_n (i := 0) (a := 0) rfl rfl (dk_X6_there 20 _ rfl) ?_
    refine F_gR (b := 14) fxX_6_0_0 fl_6_47 (dk_X6_there 21 _ rfl) ?_
    refine F_gR (b := 20) fxX_2_10_14 fl_6_109 (dk_X6_there 24 _ rfl) ?_
    refine F_iload_n (i := 1) (a := 1) rfl rfl (dk_X6_there 27 _ rfl) ?_
    refine F_iload_n (i := 2) (a := 2) rfl rfl (dk_X6_there 28 _ rfl) ?_
    refine F_zast (axX_3_20) (dk_X6_there 29 _ rfl) (fun m5 => ?_)
    refine F_iload_n (i := 3) (a := 3) rfl rfl (dk_X6_there 30 _ rfl) ?_
    refine F_if_eq (tgt := 38) (by decide) (dk_X6_there 31 _ rfl) ?_ ?_
    · refine F_iconst (v := 0) (by decide) (dk_X6_there 38 _ rfl) ?_
      exact F_ret rfl (dk_X6_there 39 _ rfl)
    · refine F_iconst (v := 1) (by decide) (dk_X6_there 34 _ rfl) ?_
      refine F_goto (tgt := 39) (by decide) (dk_X6_there 35 _ rfl) ?_
      exact F_ret rfl (dk_X6_there 39 _ rfl)
  · refine F_iconst (v := (-1)) (by decide) (dk_X6_there 8 _ rfl) ?_
    exact F_ret rfl (dk_X6_there 9 _ rfl)
def f_X6_row (m : mM) (p1 : Int32) (p2 : Int32) (p3 : Int32) : fR Int32 :=
  bnd (f_X6_isPerson m p1) fun (x1 : Int32) (m2 : mM) => (if x1 = 0 then some ((-1), m2) else (if p2 < 0 then some ((-1), m2) else (if p2 < 4 then bnd (f_X6_isDay m2 p3) fun (x4 : Int32) (m5 : mM) => (if x4 = 0 then some ((-2), m5) else (gA (mA m5 15) p1).bind fun x7 => (if x7 = 6 then nmI (((p1 * 4) + p2)) fun v8 => (gA (mA m5 21) v8).bind fun x9 => (sA 0 m5 21 v8 p3).bind fun m10 => some (x9, m10) else some ((-3), m5))) else some ((-1), m2))))
theorem c_X6_row (m : mM) (p1 : Int32) (p2 : Int32) (p3 : Int32)  : cF true uI m_X6_row 3 [.ref 0, .int p1, .int p2, .int p3] m (f_X6_row m p1 p2 p3) := by
  refine cF_of ok_X6_row (fun _ _ => Nat.le_of_ble_eq_true rfl) ?_
  unfold f_X6_row
  show JF _ _ _ _ _ [(0, .ref 0), (1, .int p1), (2, .int p2), (3, .int p3)] _ _ _
  refine F_aload_n (i := 0) (a := 0) rfl rfl (dk_X6_row 0 _ rfl) ?_
  refine F_iload_n (i := 1) (a := 1) rfl rfl (dk_X6_row 1 _ rfl) ?_
  refine F_callV (ι' := uI) (ci := 6) (b := 0) (As := [.int p1]) (d' := 2) (rfl) ok_X6_isPerson vi_X6_isPerson cl_6_79 (n := 1) (by decide +kernel) rfl rfl rfl (Nat.le_of_ble_eq_true rfl) (by omega) (dk_X6_row 2 _ rfl) (c_X6_isPerson _ _ ) (fun x1 m2 => ?_)
  show JF _ _ _ _ _ _ [.int x1] _ _
  refine F_if_eq (tgt := 17) (by decide) (dk_X6_row 5 _ rfl) ?_ ?_
  · refine F_iconst (v := (-1)) (by decide) (dk_X6_row 17 _ rfl) ?_
    exact F_ret rfl (dk_X6_row 18 _ rfl)
  · refine F_iload_n (i := 2) (a := 2) rfl rfl (dk_X6_row 8 _ rfl) ?_
    refine F_if_lt (tgt := 17) (by decide) (dk_X6_row 9 _ rfl) ?_ ?_
    · refine F_iconst (v := (-1)) (by decide) (dk_X6_row 17 _ rfl) ?_
      exact F_ret rfl (dk_X6_row 18 _ rfl)
    · refine F_iload_n (i := 2) (a := 2) rfl rfl (dk_X6_row 12 _ rfl) ?_
      refine F_iconst (v := 4) (by decide) (dk_X6_row 13 _ rfl) ?_
      refine F_icmp_lt (tgt := 19) (by decide) (dk_X6_row 14 _ rfl) ?_ ?_
      · refine F_iload_n (i := 3) (a := 3) rfl rfl (dk_X6_row 19 _ rfl) ?_
        refine F_callS (ι' := uI) (As := [.int p3]) (d' := 2) ok_X6_isDay st_X6_isDay cl_6_67 rfl (n := 1) (by decide +kernel) rfl (Nat.le_of_ble_eq_true rfl) (by omega) (dk_X6_row 20 _ rfl) (c_X6_isDay _ _ ) (fun x4 m5 => ?_)
        show JF _ _ _ _ _ _ [.int x4] _ _
        refine F_if_ne (tgt := 29) (by decide) (dk_X6_row 23 _ rfl) ?_ ?_
        · refine F_aload_n (i := 0) (a := 0) rfl rfl (dk_X6_row 29 _ rfl) ?_
          refine F_gR (b := 14) fxX_6_0_0 fl_6_47 (dk_X6_row 30 _ rfl) ?_
          refine F_gR (b := 15) fxX_2_5_14 fl_6_97 (dk_X6_row 33 _ rfl) ?_
          refine F_iload_n (i := 1) (a := 1) rfl rfl (dk_X6_row 36 _ rfl) ?_
          refine F_iald (axX_0_15) (dk_X6_row 37 _ rfl) (fun x7 => ?_)
          refine F_bipush (v := 6) (by decide) (dk_X6_row 38 _ rfl) ?_
          refine F_icmp_eq (tgt := 46) (by decide) (dk_X6_row 40 _ rfl) ?_ ?_
          · refine F_iload_n (i := 1) (a := 1) rfl rfl (dk_X6_row 46 _ rfl) ?_
            refine F_iconst (v := 4) (by decide) (dk_X6_row 47 _ rfl) ?_
            refine F_imul (dk_X6_row 48 _ rfl) ?_
            refine F_iload_n (i := 2) (a := 2) rfl rfl (dk_X6_row 49 _ rfl) ?_
            refine F_iadd (dk_X6_row 50 _ rfl) ?_
            refine F_nm (fun v8 => ?_)
            refine F_istore (lv' := [(4, .int v8), (0, .ref 0), (1, .int p1), (2, .int p2), (3, .int p3)]) (i := 4) (by decide) rfl (dk_X6_row 51 _ rfl) ?_
            refine F_aload_n (i := 0) (a := 0) rfl rfl (dk_X6_row 53 _ rfl) ?_
            refine F_gR (b := 14) fxX_6_0_0 fl_6_47 (dk_X6_row 54 _ rfl) ?_
            refine F_gR (b := 21) fxX_2_11_14 fl_6_124 (dk_X6_row 57 _ rfl) ?_
            refine F_iload (i := 4) rfl (dk_X6_row 60 _ rfl) ?_
            refine F_iald (axX_0_21) (dk_X6_row 62 _ rfl) (fun x9 => ?_)
            refine F_istore (lv' := [(5, .int x9), (4, .int v8), (0, .ref 0), (1, .int p1), (2, .int p2), (3, .int p3)]) (i := 5) (by decide) rfl (dk_X6_row 63 _ rfl) ?_
            refine F_aload_n (i := 0) (a := 0) rfl rfl (dk_X6_row 65 _ rfl) ?_
            refine F_gR (b := 14) fxX_6_0_0 fl_6_47 (dk_X6_row 66 _ rfl) ?_
            refine F_gR (b := 21) fxX_2_11_14 fl_6_124 (dk_X6_row 69 _ rfl) ?_
            refine F_iload (i := 4) rfl (dk_X6_row 72 _ rfl) ?_
            refine F_iload_n (i := 3) (a := 3) rfl rfl (dk_X6_row 74 _ rfl) ?_
            refine F_iast (axX_0_21) (dk_X6_row 75 _ rfl) (fun m10 => ?_)
            refine F_iload (i := 5) rfl (dk_X6_row 76 _ rfl) ?_
            exact F_ret rfl (dk_X6_row 78 _ rfl)
          · refine F_bipush (v := (-3)) (by decide) (dk_X6_row 43 _ rfl) ?_
            exact F_ret rfl (dk_X6_row 45 _ rfl)
        · refine F_bipush (v := (-2)) (by decide) (dk_X6_row 26 _ rfl) ?_
          exact F_ret rfl (dk_X6_row 28 _ rfl)
      · refine F_iconst (v := (-1)) (by decide) (dk_X6_row 17 _ rfl) ?_
        exact F_ret rfl (dk_X6_row 18 _ rfl)
def f_X6_feed (m : mM) (p1 : Int32) : fR Int32 :=
  (if p1 < 0 then some ((-2), m) else (if p1 < 128 then (if (mI m 129) < 100 then (sA 2 m 3 (mI m 129) ((p1 : Int32).toInt8.toInt32)).bind fun m1 => nmM (wI m1 129 (((mI m1 129) + 1))) fun m2 => some ((mI m2 129), m2) else some ((-4), m)) else some ((-2), m)))
theorem c_X6_feed (m : mM) (p1 : Int32)  : cF true uI m_X6_feed 2 [.ref 0, .int p1] m (f_X6_feed m p1) := by
  refine cF_of ok_X6_feed (fun _ _ => Nat.le_of_ble_eq_true rfl) ?_
  unfold f_X6_feed
  show JF _ _ _ _ _ [(0, .ref 0), (1, .int p1)] _ _ _
  refine F_iload_n (i := 1) (a := 1) rfl rfl (dk_X6_feed 0 _ rfl) ?_
  refine F_if_lt (tgt := 11) (by decide) (dk_X6_feed 1 _ rfl) ?_ ?_
  · refine F_bipush (v := (-2)) (by decide) (dk_X6_feed 11 _ rfl) ?_
    exact F_ret rfl (dk_X6_feed 13 _ rfl)
  · refine F_iload_n (i := 1) (a := 1) rfl rfl (dk_X6_feed 4 _ rfl) ?_
    refine F_sipush (v := 128) (by decide) (dk_X6_feed 5 _ rfl) ?_
    refine F_icmp_lt (tgt := 14) (by decide) (dk_X6_feed 8 _ rfl) ?_ ?_
    · refine F_aload_n (i := 0) (a := 0) rfl rfl (dk_X6_feed 14 _ rfl) ?_
      refine F_gR (b := 2) fxX_6_6_0 fl_6_18 (dk_X6_feed 15 _ rfl) ?_
      refine F_gI (n := 129) fxX_4_1_2 rfl fl_6_127 (dk_X6_feed 18 _ rfl) ?_
      refine F_bipush (v := 100) (by decide) (dk_X6_feed 21 _ rfl) ?_
      refine F_icmp_lt (tgt := 29) (by decide) (dk_X6_feed 23 _ rfl) ?_ ?_
      · refine F_aload_n (i := 0) (a := 0) rfl rfl (dk_X6_feed 29 _ rfl) ?_
        refine F_gR (b := 2) fxX_6_6_0 fl_6_18 (dk_X6_feed 30 _ rfl) ?_
        refine F_gR (b := 3) fxX_4_0_2 fl_6_130 (dk_X6_feed 33 _ rfl) ?_
        refine F_aload_n (i := 0) (a := 0) rfl rfl (dk_X6_feed 36 _ rfl) ?_
        refine F_gR (b := 2) fxX_6_6_0 fl_6_18 (dk_X6_feed 37 _ rfl) ?_
        refine F_gI (n := 129) fxX_4_1_2 rfl fl_6_127 (dk_X6_feed 40 _ rfl) ?_
        refine F_iload_n (i := 1) (a := 1) rfl rfl (dk_X6_feed 43 _ rfl) ?_
        refine F_i2b (dk_X6_feed 44 _ rfl) ?_
        refine F_bast (axX_2_3) (dk_X6_feed 45 _ rfl) (fun m1 => ?_)
        refine F_aload_n (i := 0) (a := 0) rfl rfl (dk_X6_feed 46 _ rfl) ?_
        refine F_gR (b := 2) fxX_6_6_0 fl_6_18 (dk_X6_feed 47 _ rfl) ?_
        refine F_dup rfl (dk_X6_feed 50 _ rfl) ?_
        refine F_gI (n := 129) fxX_4_1_2 rfl fl_6_127 (dk_X6_feed 51 _ rfl) ?_
        refine F_iconst (v := 1) (by decide) (dk_X6_feed 54 _ rfl) ?_
        refine F_iadd (dk_X6_feed 55 _ rfl) ?_
        refine F_pI (n := 129) fxX_4_1_2 rfl fl_6_127 (fun q hq => by cases hq; rfl) trivial (dk_X6_feed 56 _ rfl) (fun m2 => ?_)
        refine F_aload_n (i := 0) (a := 0) rfl rfl (dk_X6_feed 59 _ rfl) ?_
        refine F_gR (b := 2) fxX_6_6_0 fl_6_18 (dk_X6_feed 60 _ rfl) ?_
        refine F_gI (n := 129) fxX_4_1_2 rfl fl_6_127 (dk_X6_feed 63 _ rfl) ?_
        exact F_ret rfl (dk_X6_feed 66 _ rfl)
      · refine F_bipush (v := (-4)) (by decide) (dk_X6_feed 26 _ rfl) ?_
        exact F_ret rfl (dk_X6_feed 28 _ rfl)
    · refine F_bipush (v := (-2)) (by decide) (dk_X6_feed 11 _ rfl) ?_
      exact F_ret rfl (dk_X6_feed 13 _ rfl)
def f_X6_town (m : mM)  : fR Int32 :=
  (if (mI m 8) < 6 then (gT [46, 52, 58, 64, 70, 76] (mI m 8)).bind fun r1 => chR true 5 r1 fun r2 => bnd (f_X4_parse m r2) fun (x3 : Int32) (m4 : mM) => nmM (wI m4 129 0) fun m6 => (if x3 = 0 then some (((-10) - (mI m6 130)), m6) else nmM (wR m6 900 r2) fun m7 => nmM (wI m7 8 (((mI m7 8) + 1))) fun m8 => some (((mI m8 8) - 1), m8)) else some ((-4), m))
theorem c_X6_town (m : mM)   : cF true uI m_X6_town 22 [.ref 0] m (f_X6_town m ) := by
  refine cF_of ok_X6_town (fun _ _ => Nat.le_of_ble_eq_true rfl) ?_
  unfold f_X6_town
  show JF _ _ _ _ _ [(0, .ref 0)] _ _ _
  refine F_aload_n (i := 0) (a := 0) rfl rfl (dk_X6_town 0 _ rfl) ?_
  refine F_gI (n := 8) fxX_6_8_0 rfl fl_6_134 (dk_X6_town 1 _ rfl) ?_
  refine F_bipush (v := 6) (by decide) (dk_X6_town 4 _ rfl) ?_
  refine F_icmp_lt (tgt := 12) (by decide) (dk_X6_town 6 _ rfl) ?_ ?_
  · refine F_aload_n (i := 0) (a := 0) rfl rfl (dk_X6_town 12 _ rfl) ?_
    refine F_gR (b := 4) fxX_6_7_0 fl_6_24 (dk_X6_town 13 _ rfl) ?_
    refine F_aload_n (i := 0) (a := 0) rfl rfl (dk_X6_town 16 _ rfl) ?_
    refine F_gI (n := 8) fxX_6_8_0 rfl fl_6_134 (dk_X6_town 17 _ rfl) ?_
    refine F_aald (rs := [46, 52, 58, 64, 70, 76]) (t := 4) rfl (by decide) (dk_X6_town 20 _ rfl) (fun r1 => ?_)
    refine F_ch (fun r2 hr2 => ?_)
    refine F_astore_n (lv' := [(1, .ref r2), (0, .ref 0)]) (i := 1) (a := 1) rfl (by decide) rfl (dk_X6_town 21 _ rfl) ?_
    refine F_aload_n (i := 0) (a := 0) rfl rfl (dk_X6_town 22 _ rfl) ?_
    refine F_gR (b := 2) fxX_6_6_0 fl_6_18 (dk_X6_town 23 _ rfl) ?_
    refine F_aload_n (i := 1) (a := 1) rfl rfl (dk_X6_town 26 _ rfl) ?_
    refine F_callV (ι' := uI) (ci := 4) (b := 2) (As := [.ref r2]) (d' := 21) (rfl) ok_X4_parse vi_X4_parse cl_6_137 (n := 1) (by decide +kernel) rfl rfl rfl (Nat.le_of_ble_eq_true rfl) (by omega) (dk_X6_town 27 _ rfl) (c_X4_parse _ _ (hr2)) (fun x3 m4 => ?_)
    show JF _ _ _ _ _ _ [.int x3] _ _
    refine F_istore_n (lv' := [(2, .int x3), (1, .ref r2), (0, .ref 0)]) (i := 2) (a := 2) rfl (by decide) rfl (dk_X6_town 30 _ rfl) ?_
    refine F_aload_n (i := 0) (a := 0) rfl rfl (dk_X6_town 31 _ rfl) ?_
    refine F_gR (b := 2) fxX_6_6_0 fl_6_18 (dk_X6_town 32 _ rfl) ?_
    refine F_iconst (v := 0) (by decide) (dk_X6_town 35 _ rfl) ?_
    refine F_pI (n := 129) fxX_4_1_2 rfl fl_6_127 (fun q hq => by cases hq; rfl) trivial (dk_X6_town 36 _ rfl) (fun m6 => ?_)
    refine F_iload_n (i := 2) (a := 2) rfl rfl (dk_X6_town 39 _ rfl) ?_
    refine F_if_ne (tgt := 54) (by decide) (dk_X6_town 40 _ rfl) ?_ ?_
    · refine F_aload_n (i := 0) (a := 0) rfl rfl (dk_X6_town 54 _ rfl) ?_
      refine F_gR (b := 14) fxX_6_0_0 fl_6_47 (dk_X6_town 55 _ rfl) ?_
      refine F_aload_n (i := 1) (a := 1) rfl rfl (dk_X6_town 58 _ rfl) ?_
      refine F_pV (n := 900) fxX_2_4_14 rfl fl_6_83 (fun q hq => by cases hq; rfl) trivial (dk_X6_town 59 _ rfl) (fun m7 => ?_)
      refine F_aload_n (i := 0) (a := 0) rfl rfl (dk_X6_town 62 _ rfl) ?_
      refine F_dup rfl (dk_X6_town 63 _ rfl) ?_
      refine F_gI (n := 8) fxX_6_8_0 rfl fl_6_134 (dk_X6_town 64 _ rfl) ?_
      refine F_iconst (v := 1) (by decide) (dk_X6_town 67 _ rfl) ?_
      refine F_iadd (dk_X6_town 68 _ rfl) ?_
      refine F_pI (n := 8) fxX_6_8_0 rfl fl_6_134 (fun q hq => by cases hq; rfl) trivial (dk_X6_town 69 _ rfl) (fun m8 => ?_)
      refine F_aload_n (i := 0) (a := 0) rfl rfl (dk_X6_town 72 _ rfl) ?_
      refine F_gI (n := 8) fxX_6_8_0 rfl fl_6_134 (dk_X6_town 73 _ rfl) ?_
      refine F_iconst (v := 1) (by decide) (dk_X6_town 76 _ rfl) ?_
      refine F_isub (dk_X6_town 77 _ rfl) ?_
      exact F_ret rfl (dk_X6_town 78 _ rfl)
    · refine F_bipush (v := (-10)) (by decide) (dk_X6_town 43 _ rfl) ?_
      refine F_aload_n (i := 0) (a := 0) rfl rfl (dk_X6_town 45 _ rfl) ?_
      refine F_gR (b := 2) fxX_6_6_0 fl_6_18 (dk_X6_town 46 _ rfl) ?_
      refine F_gI (n := 130) fxX_4_2_2 rfl fl_6_141 (dk_X6_town 49 _ rfl) ?_
      refine F_isub (dk_X6_town 52 _ rfl) ?_
      exact F_ret rfl (dk_X6_town 53 _ rfl)
  · refine F_bipush (v := (-4)) (by decide) (dk_X6_town 9 _ rfl) ?_
    exact F_ret rfl (dk_X6_town 11 _ rfl)
def fb_X6_bornOn_4 (K4 : mM → Int32 → Int32 → Int32 → fR Int32) (m : mM) (y1 : Int32) (y2 : Int32) (y3 : Int32) : fR Int32 :=
  (if (mI m 896) ≤ y3 then some (y2, m) else (gA (mA m 20) y3).bind fun x1 => (if x1 = 0 then (K4 m y1 y2 (y3 + 1)) else (gA (mA m 17) y3).bind fun x2 => (if x2 = y1 then nmI ((y2 ||| (1 <<< (y3 &&& 31)))) fun v3 => (K4 m y1 v3 (y3 + 1)) else (K4 m y1 y2 (y3 + 1)))))
def f_X6_bornOn_4  : Nat → mM → Int32 → Int32 → Int32 → fR Int32
  | 0, _, _, _, _ => none
  | F + 1, m, y1, y2, y3 => fb_X6_bornOn_4  (f_X6_bornOn_4  F) m y1 y2 y3
theorem jb_X6_bornOn_4 (K4 : mM → Int32 → Int32 → Int32 → fR Int32) (hK4 : ∀ (m : mM) (y1 : Int32) (y2 : Int32) (y3 : Int32) , JF true uI m_X6_bornOn 2 4 [(0, .ref 0), (1, .int y1), (2, .int y2), (3, .int y3)] [] m (K4 m y1 y2 y3)) (m : mM) (y1 : Int32) (y2 : Int32) (y3 : Int32)  : JF true uI m_X6_bornOn 2 4 [(0, .ref 0), (1, .int y1), (2, .int y2), (3, .int y3)] [] m (fb_X6_bornOn_4 K4 m y1 y2 y3) := by
  unfold fb_X6_bornOn_4
  refine F_iload_n (i := 3) (a := 3) rfl rfl (dk_X6_bornOn 4 _ rfl) ?_
  refine F_aload_n (i := 0) (a := 0) rfl rfl (dk_X6_bornOn 5 _ rfl) ?_
  refine F_gR (b := 14) fxX_6_0_0 fl_6_47 (dk_X6_bornOn 6 _ rfl) ?_
  refine F_gI (n := 896) fxX_2_0_14 rfl fl_6_71 (dk_X6_bornOn 9 _ rfl) ?_
  refine F_icmp_ge (tgt := 52) (by decide) (dk_X6_bornOn 12 _ rfl) ?_ ?_
  · refine F_iload_n (i := 2) (a := 2) rfl rfl (dk_X6_bornOn 52 _ rfl) ?_
    exact F_ret rfl (dk_X6_bornOn 53 _ rfl)
  · refine F_aload_n (i := 0) (a := 0) rfl rfl (dk_X6_bornOn 15 _ rfl) ?_
    refine F_gR (b := 14) fxX_6_0_0 fl_6_47 (dk_X6_bornOn 16 _ rfl) ?_
    refine F_gR (b := 20) fxX_2_10_14 fl_6_109 (dk_X6_bornOn 19 _ rfl) ?_
    refine F_iload_n (i := 3) (a := 3) rfl rfl (dk_X6_bornOn 22 _ rfl) ?_
    refine F_zald (axX_3_20) (dk_X6_bornOn 23 _ rfl) (fun x1 => ?_)
    refine F_if_eq (tgt := 46) (by decide) (dk_X6_bornOn 24 _ rfl) ?_ ?_
    · refine F_iinc (i := 3) (n := 1) (v := (y3 + 1)) (lv' := [(3, .int (y3 + 1)), (0, .ref 0), (1, .int y1), (2, .int y2)]) rfl (by first | rfl | decide) (by decide) rfl (dk_X6_bornOn 46 _ rfl) ?_
      refine F_goto (tgt := 4) (by decide) (dk_X6_bornOn 49 _ rfl) ?_
      exact F_loc (List.forall_mem_cons.mpr ⟨(.tail _ (.head _)), (List.forall_mem_cons.mpr ⟨(.tail _ (.tail _ (.head _))), (List.forall_mem_cons.mpr ⟨(.tail _ (.tail _ (.tail _ (.head _)))), (List.forall_mem_cons.mpr ⟨(.head _), (fun _ z => absurd z List.not_mem_nil)⟩)⟩)⟩)⟩) (hK4 _ _ _ _ )
    · refine F_aload_n (i := 0) (a := 0) rfl rfl (dk_X6_bornOn 27 _ rfl) ?_
      refine F_gR (b := 14) fxX_6_0_0 fl_6_47 (dk_X6_bornOn 28 _ rfl) ?_
      refine F_gR (b := 17) fxX_2_7_14 fl_6_103 (dk_X6_bornOn 31 _ rfl) ?_
      refine F_iload_n (i := 3) (a := 3) rfl rfl (dk_X6_bornOn 34 _ rfl) ?_
      refine F_iald (axX_0_17) (dk_X6_bornOn 35 _ rfl) (fun x2 => ?_)
      refine F_iload_n (i := 1) (a := 1) rfl rfl (dk_X6_bornOn 36 _ rfl) ?_
      refine F_icmp_ne (tgt := 46) (by decide) (dk_X6_bornOn 37 _ rfl) ?_ ?_
      · refine F_iinc (i := 3) (n := 1) (v := (y3 + 1)) (lv' := [(3, .int (y3 + 1)), (0, .ref 0), (1, .int y1), (2, .int y2)]) rfl (by first | rfl | decide) (by decide) rfl (dk_X6_bornOn 46 _ rfl) ?_
        refine F_goto (tgt := 4) (by decide) (dk_X6_bornOn 49 _ rfl) ?_
        exact F_loc (List.forall_mem_cons.mpr ⟨(.tail _ (.head _)), (List.forall_mem_cons.mpr ⟨(.tail _ (.tail _ (.head _))), (List.forall_mem_cons.mpr ⟨(.tail _ (.tail _ (.tail _ (.head _)))), (List.forall_mem_cons.mpr ⟨(.head _), (fun _ z => absurd z List.not_mem_nil)⟩)⟩)⟩)⟩) (hK4 _ _ _ _ )
      · refine F_iload_n (i := 2) (a := 2) rfl rfl (dk_X6_bornOn 40 _ rfl) ?_
        refine F_iconst (v := 1) (by decide) (dk_X6_bornOn 41 _ rfl) ?_
        refine F_iload_n (i := 3) (a := 3) rfl rfl (dk_X6_bornOn 42 _ rfl) ?_
        refine F_ishl (dk_X6_bornOn 43 _ rfl) ?_
        refine F_ior (dk_X6_bornOn 44 _ rfl) ?_
        refine F_nm (fun v3 => ?_)
        refine F_istore_n (lv' := [(2, .int v3), (0, .ref 0), (1, .int y1), (3, .int y3)]) (i := 2) (a := 2) rfl (by decide) rfl (dk_X6_bornOn 45 _ rfl) ?_
        refine F_iinc (i := 3) (n := 1) (v := (y3 + 1)) (lv' := [(3, .int (y3 + 1)), (2, .int v3), (0, .ref 0), (1, .int y1)]) rfl (by first | rfl | decide) (by decide) rfl (dk_X6_bornOn 46 _ rfl) ?_
        refine F_goto (tgt := 4) (by decide) (dk_X6_bornOn 49 _ rfl) ?_
        exact F_loc (List.forall_mem_cons.mpr ⟨(.tail _ (.tail _ (.head _))), (List.forall_mem_cons.mpr ⟨(.tail _ (.tail _ (.tail _ (.head _)))), (List.forall_mem_cons.mpr ⟨(.tail _ (.head _)), (List.forall_mem_cons.mpr ⟨(.head _), (fun _ z => absurd z List.not_mem_nil)⟩)⟩)⟩)⟩) (hK4 _ _ _ _ )
theorem j_X6_bornOn_4   : ∀ (F : Nat) (m : mM) (y1 : Int32) (y2 : Int32) (y3 : Int32) , JF true uI m_X6_bornOn 2 4 [(0, .ref 0), (1, .int y1), (2, .int y2), (3, .int y3)] [] m (f_X6_bornOn_4  F m y1 y2 y3) := by
  intro F
  induction F with
  | zero => intro m y1 y2 y3 ; exact F_no
  | succ F ih => intro m y1 y2 y3 ; exact jb_X6_bornOn_4  (f_X6_bornOn_4  F)  ih m y1 y2 y3 
def f_X6_bornOn (m : mM) (p1 : Int32) : fR Int32 :=
  (f_X6_bornOn_4  1000 m p1 0 0)
theorem c_X6_bornOn (m : mM) (p1 : Int32)  : cF true uI m_X6_bornOn 2 [.ref 0, .int p1] m (f_X6_bornOn m p1) := by
  refine cF_of ok_X6_bornOn (fun _ _ => Nat.le_of_ble_eq_true rfl) ?_
  unfold f_X6_bornOn
  show JF _ _ _ _ _ [(0, .ref 0), (1, .int p1)] _ _ _
  refine F_iconst (v := 0) (by decide) (dk_X6_bornOn 0 _ rfl) ?_
  refine F_istore_n (lv' := [(2, .int 0), (0, .ref 0), (1, .int p1)]) (i := 2) (a := 2) rfl (by decide) rfl (dk_X6_bornOn 1 _ rfl) ?_
  refine F_iconst (v := 0) (by decide) (dk_X6_bornOn 2 _ rfl) ?_
  refine F_istore_n (lv' := [(3, .int 0), (2, .int 0), (0, .ref 0), (1, .int p1)]) (i := 3) (a := 3) rfl (by decide) rfl (dk_X6_bornOn 3 _ rfl) ?_
  exact F_loc (List.forall_mem_cons.mpr ⟨(.tail _ (.tail _ (.head _))), (List.forall_mem_cons.mpr ⟨(.tail _ (.tail _ (.tail _ (.head _)))), (List.forall_mem_cons.mpr ⟨(.tail _ (.head _)), (List.forall_mem_cons.mpr ⟨(.head _), (fun _ z => absurd z List.not_mem_nil)⟩)⟩)⟩)⟩) (j_X6_bornOn_4   1000 _ _ _ _ )
def fb_X6_sellingOn_25 (K25 : mM → Int32 → Int32 → Int32 → fR Int32) (m : mM) (y1 : Int32) (y2 : Int32) (y3 : Int32) : fR Int32 :=
  (if (mI m 896) ≤ y3 then some (y2, m) else (gA (mA m 44) y3).bind fun x5 => (if x5 = y1 then nmI ((y2 ||| (1 <<< (y3 &&& 31)))) fun v6 => (K25 m y1 v6 (y3 + 1)) else (K25 m y1 y2 (y3 + 1))))
def f_X6_sellingOn_25  : Nat → mM → Int32 → Int32 → Int32 → fR Int32
  | 0, _, _, _, _ => none
  | F + 1, m, y1, y2, y3 => fb_X6_sellingOn_25  (f_X6_sellingOn_25  F) m y1 y2 y3
theorem jb_X6_sellingOn_25 (K25 : mM → Int32 → Int32 → Int32 → fR Int32) (hK25 : ∀ (m : mM) (y1 : Int32) (y2 : Int32) (y3 : Int32) , JF true uI m_X6_sellingOn 6 25 [(0, .ref 0), (1, .int y1), (2, .int y2), (3, .int y3)] [] m (K25 m y1 y2 y3)) (m : mM) (y1 : Int32) (y2 : Int32) (y3 : Int32)  : JF true uI m_X6_sellingOn 6 25 [(0, .ref 0), (1, .int y1), (2, .int y2), (3, .int y3)] [] m (fb_X6_sellingOn_25 K25 m y1 y2 y3) := by
  unfold fb_X6_sellingOn_25
  refine F_iload_n (i := 3) (a := 3) rfl rfl (dk_X6_sellingOn 25 _ rfl) ?_
  refine F_aload_n (i := 0) (a := 0) rfl rfl (dk_X6_sellingOn 26 _ rfl) ?_
  refine F_gR (b := 14) fxX_6_0_0 fl_6_47 (dk_X6_sellingOn 27 _ rfl) ?_
  refine F_gI (n := 896) fxX_2_0_14 rfl fl_6_71 (dk_X6_sellingOn 30 _ rfl) ?_
  refine F_icmp_ge (tgt := 61) (by decide) (dk_X6_sellingOn 33 _ rfl) ?_ ?_
  · refine F_iload_n (i := 2) (a := 2) rfl rfl (dk_X6_sellingOn 61 _ rfl) ?_
    exact F_ret rfl (dk_X6_sellingOn 62 _ rfl)
  · refine F_aload_n (i := 0) (a := 0) rfl rfl (dk_X6_sellingOn 36 _ rfl) ?_
    refine F_gR (b := 41) fxX_6_4_0 fl_6_62 (dk_X6_sellingOn 37 _ rfl) ?_
    refine F_gR (b := 44) fxX_1_7_41 fl_6_94 (dk_X6_sellingOn 40 _ rfl) ?_
    refine F_iload_n (i := 3) (a := 3) rfl rfl (dk_X6_sellingOn 43 _ rfl) ?_
    refine F_iald (axX_0_44) (dk_X6_sellingOn 44 _ rfl) (fun x5 => ?_)
    refine F_iload_n (i := 1) (a := 1) rfl rfl (dk_X6_sellingOn 45 _ rfl) ?_
    refine F_icmp_ne (tgt := 55) (by decide) (dk_X6_sellingOn 46 _ rfl) ?_ ?_
    · refine F_iinc (i := 3) (n := 1) (v := (y3 + 1)) (lv' := [(3, .int (y3 + 1)), (0, .ref 0), (1, .int y1), (2, .int y2)]) rfl (by first | rfl | decide) (by decide) rfl (dk_X6_sellingOn 55 _ rfl) ?_
      refine F_goto (tgt := 25) (by decide) (dk_X6_sellingOn 58 _ rfl) ?_
      exact F_loc (List.forall_mem_cons.mpr ⟨(.tail _ (.head _)), (List.forall_mem_cons.mpr ⟨(.tail _ (.tail _ (.head _))), (List.forall_mem_cons.mpr ⟨(.tail _ (.tail _ (.tail _ (.head _)))), (List.forall_mem_cons.mpr ⟨(.head _), (fun _ z => absurd z List.not_mem_nil)⟩)⟩)⟩)⟩) (hK25 _ _ _ _ )
    · refine F_iload_n (i := 2) (a := 2) rfl rfl (dk_X6_sellingOn 49 _ rfl) ?_
      refine F_iconst (v := 1) (by decide) (dk_X6_sellingOn 50 _ rfl) ?_
      refine F_iload_n (i := 3) (a := 3) rfl rfl (dk_X6_sellingOn 51 _ rfl) ?_
      refine F_ishl (dk_X6_sellingOn 52 _ rfl) ?_
      refine F_ior (dk_X6_sellingOn 53 _ rfl) ?_
      refine F_nm (fun v6 => ?_)
      refine F_istore_n (lv' := [(2, .int v6), (0, .ref 0), (1, .int y1), (3, .int y3)]) (i := 2) (a := 2) rfl (by decide) rfl (dk_X6_sellingOn 54 _ rfl) ?_
      refine F_iinc (i := 3) (n := 1) (v := (y3 + 1)) (lv' := [(3, .int (y3 + 1)), (2, .int v6), (0, .ref 0), (1, .int y1)]) rfl (by first | rfl | decide) (by decide) rfl (dk_X6_sellingOn 55 _ rfl) ?_
      refine F_goto (tgt := 25) (by decide) (dk_X6_sellingOn 58 _ rfl) ?_
      exact F_loc (List.forall_mem_cons.mpr ⟨(.tail _ (.tail _ (.head _))), (List.forall_mem_cons.mpr ⟨(.tail _ (.tail _ (.tail _ (.head _)))), (List.forall_mem_cons.mpr ⟨(.tail _ (.head _)), (List.forall_mem_cons.mpr ⟨(.head _), (fun _ z => absurd z List.not_mem_nil)⟩)⟩)⟩)⟩) (hK25 _ _ _ _ )
theorem j_X6_sellingOn_25   : ∀ (F : Nat) (m : mM) (y1 : Int32) (y2 : Int32) (y3 : Int32) , JF true uI m_X6_sellingOn 6 25 [(0, .ref 0), (1, .int y1), (2, .int y2), (3, .int y3)] [] m (f_X6_sellingOn_25  F m y1 y2 y3) := by
  intro F
  induction F with
  | zero => intro m y1 y2 y3 ; exact F_no
  | succ F ih => intro m y1 y2 y3 ; exact jb_X6_sellingOn_25  (f_X6_sellingOn_25  F)  ih m y1 y2 y3 
def f_X6_sellingOn (m : mM) (p1 : Int32) : fR Int32 :=
  chR true 5 (mR m 900) fun r1 => bnd (f_X1_start m 14 ((mI m (64 * r1 + 0)))) fun (x2 : Unit) (m3 : mM) => (f_X6_sellingOn_25  1000 m3 p1 0 0)
theorem c_X6_sellingOn (m : mM) (p1 : Int32)  : cF true uI m_X6_sellingOn 6 [.ref 0, .int p1] m (f_X6_sellingOn m p1) := by
  refine cF_of ok_X6_sellingOn (fun _ _ => Nat.le_of_ble_eq_true rfl) ?_
  unfold f_X6_sellingOn
  show JF _ _ _ _ _ [(0, .ref 0), (1, .int p1)] _ _ _
  refine F_aload_n (i := 0) (a := 0) rfl rfl (dk_X6_sellingOn 0 _ rfl) ?_
  refine F_gR (b := 41) fxX_6_4_0 fl_6_62 (dk_X6_sellingOn 1 _ rfl) ?_
  refine F_aload_n (i := 0) (a := 0) rfl rfl (dk_X6_sellingOn 4 _ rfl) ?_
  refine F_gR (b := 14) fxX_6_0_0 fl_6_47 (dk_X6_sellingOn 5 _ rfl) ?_
  refine F_aload_n (i := 0) (a := 0) rfl rfl (dk_X6_sellingOn 8 _ rfl) ?_
  refine F_gR (b := 14) fxX_6_0_0 fl_6_47 (dk_X6_sellingOn 9 _ rfl) ?_
  refine F_gV (n := 900) fxX_2_4_14 rfl fl_6_83 (dk_X6_sellingOn 12 _ rfl) ?_
  refine F_ch (fun r1 hr1 => ?_)
  refine F_gI (n := (64 * r1 + 0)) (lyT_0 hr1) rfl fl_6_87 (dk_X6_sellingOn 15 _ rfl) ?_
  refine F_callV (ι' := uU) (ci := 1) (b := 41) (As := [.ref 14, .int (mI m (64 * r1 + 0))]) (d' := 5) (rfl) ok_X1_start vi_X1_start cl_6_90 (n := 2) (by decide +kernel) rfl rfl rfl (Nat.le_of_ble_eq_true rfl) (by omega) (dk_X6_sellingOn 18 _ rfl) (c_X1_start _ _ _ (rfl)) (fun x2 m3 => ?_)
  show JF _ _ _ _ _ _ [] _ _
  refine F_iconst (v := 0) (by decide) (dk_X6_sellingOn 21 _ rfl) ?_
  refine F_istore_n (lv' := [(2, .int 0), (0, .ref 0), (1, .int p1)]) (i := 2) (a := 2) rfl (by decide) rfl (dk_X6_sellingOn 22 _ rfl) ?_
  refine F_iconst (v := 0) (by decide) (dk_X6_sellingOn 23 _ rfl) ?_
  refine F_istore_n (lv' := [(3, .int 0), (2, .int 0), (0, .ref 0), (1, .int p1)]) (i := 3) (a := 3) rfl (by decide) rfl (dk_X6_sellingOn 24 _ rfl) ?_
  exact F_loc (List.forall_mem_cons.mpr ⟨(.tail _ (.tail _ (.head _))), (List.forall_mem_cons.mpr ⟨(.tail _ (.tail _ (.tail _ (.head _)))), (List.forall_mem_cons.mpr ⟨(.tail _ (.head _)), (List.forall_mem_cons.mpr ⟨(.head _), (fun _ z => absurd z List.not_mem_nil)⟩)⟩)⟩)⟩) (j_X6_sellingOn_25   1000 _ _ _ _ )
def fb_X6_allPurses_4 (K4 : mM → Int32 → Int32 → fR Int32) (m : mM) (y1 : Int32) (y2 : Int32) : fR Int32 :=
  (if (mI m 896) ≤ y2 then some (y1, m) else (gA (mA m 19) y2).bind fun x1 => nmI (y1 + x1) fun v2 => (K4 m v2 (y2 + 1)))
def f_X6_allPurses_4  : Nat → mM → Int32 → Int32 → fR Int32
  | 0, _, _, _ => none
  | F + 1, m, y1, y2 => fb_X6_allPurses_4  (f_X6_allPurses_4  F) m y1 y2
theorem jb_X6_allPurses_4 (K4 : mM → Int32 → Int32 → fR Int32) (hK4 : ∀ (m : mM) (y1 : Int32) (y2 : Int32) , JF true uI m_X6_allPurses 2 4 [(0, .ref 0), (1, .int y1), (2, .int y2)] [] m (K4 m y1 y2)) (m : mM) (y1 : Int32) (y2 : Int32)  : JF true uI m_X6_allPurses 2 4 [(0, .ref 0), (1, .int y1), (2, .int y2)] [] m (fb_X6_allPurses_4 K4 m y1 y2) := by
  unfold fb_X6_allPurses_4
  refine F_iload_n (i := 2) (a := 2) rfl rfl (dk_X6_allPurses 4 _ rfl) ?_
  refine F_aload_n (i := 0) (a := 0) rfl rfl (dk_X6_allPurses 5 _ rfl) ?_
  refine F_gR (b := 14) fxX_6_0_0 fl_6_47 (dk_X6_allPurses 6 _ rfl) ?_
  refine F_gI (n := 896) fxX_2_0_14 rfl fl_6_71 (dk_X6_allPurses 9 _ rfl) ?_
  refine F_icmp_ge (tgt := 33) (by decide) (dk_X6_allPurses 12 _ rfl) ?_ ?_
  · refine F_iload_n (i := 1) (a := 1) rfl rfl (dk_X6_allPurses 33 _ rfl) ?_
    exact F_ret rfl (dk_X6_allPurses 34 _ rfl)
  · refine F_iload_n (i := 1) (a := 1) rfl rfl (dk_X6_allPurses 15 _ rfl) ?_
    refine F_aload_n (i := 0) (a := 0) rfl rfl (dk_X6_allPurses 16 _ rfl) ?_
    refine F_gR (b := 14) fxX_6_0_0 fl_6_47 (dk_X6_allPurses 17 _ rfl) ?_
    refine F_gR (b := 19) fxX_2_9_14 fl_6_121 (dk_X6_allPurses 20 _ rfl) ?_
    refine F_iload_n (i := 2) (a := 2) rfl rfl (dk_X6_allPurses 23 _ rfl) ?_
    refine F_iald (axX_0_19) (dk_X6_allPurses 24 _ rfl) (fun x1 => ?_)
    refine F_iadd (dk_X6_allPurses 25 _ rfl) ?_
    refine F_nm (fun v2 => ?_)
    refine F_istore_n (lv' := [(1, .int v2), (0, .ref 0), (2, .int y2)]) (i := 1) (a := 1) rfl (by decide) rfl (dk_X6_allPurses 26 _ rfl) ?_
    refine F_iinc (i := 2) (n := 1) (v := (y2 + 1)) (lv' := [(2, .int (y2 + 1)), (1, .int v2), (0, .ref 0)]) rfl (by first | rfl | decide) (by decide) rfl (dk_X6_allPurses 27 _ rfl) ?_
    refine F_goto (tgt := 4) (by decide) (dk_X6_allPurses 30 _ rfl) ?_
    exact F_loc (List.forall_mem_cons.mpr ⟨(.tail _ (.tail _ (.head _))), (List.forall_mem_cons.mpr ⟨(.tail _ (.head _)), (List.forall_mem_cons.mpr ⟨(.head _), (fun _ z => absurd z List.not_mem_nil)⟩)⟩)⟩) (hK4 _ _ _ )
theorem j_X6_allPurses_4   : ∀ (F : Nat) (m : mM) (y1 : Int32) (y2 : Int32) , JF true uI m_X6_allPurses 2 4 [(0, .ref 0), (1, .int y1), (2, .int y2)] [] m (f_X6_allPurses_4  F m y1 y2) := by
  intro F
  induction F with
  | zero => intro m y1 y2 ; exact F_no
  | succ F ih => intro m y1 y2 ; exact jb_X6_allPurses_4  (f_X6_allPurses_4  F)  ih m y1 y2 
def f_X6_allPurses (m : mM)  : fR Int32 :=
  (f_X6_allPurses_4  1000 m 0 0)
theorem c_X6_allPurses (m : mM)   : cF true uI m_X6_allPurses 2 [.ref 0] m (f_X6_allPurses m ) := by
  refine cF_of ok_X6_allPurses (fun _ _ => Nat.le_of_ble_eq_true rfl) ?_
  unfold f_X6_allPurses
  show JF _ _ _ _ _ [(0, .ref 0)] _ _ _
  refine F_iconst (v := 0) (by decide) (dk_X6_allPurses 0 _ rfl) ?_
  refine F_istore_n (lv' := [(1, .int 0), (0, .ref 0)]) (i := 1) (a := 1) rfl (by decide) rfl (dk_X6_allPurses 1 _ rfl) ?_
  refine F_iconst (v := 0) (by decide) (dk_X6_allPurses 2 _ rfl) ?_
  refine F_istore_n (lv' := [(2, .int 0), (1, .int 0), (0, .ref 0)]) (i := 2) (a := 2) rfl (by decide) rfl (dk_X6_allPurses 3 _ rfl) ?_
  exact F_loc (List.forall_mem_cons.mpr ⟨(.tail _ (.tail _ (.head _))), (List.forall_mem_cons.mpr ⟨(.tail _ (.head _)), (List.forall_mem_cons.mpr ⟨(.head _), (fun _ z => absurd z List.not_mem_nil)⟩)⟩)⟩) (j_X6_allPurses_4   1000 _ _ _ )
def f_X6_told_42  (m : mM) (y1 : Int32) : fR Int32 :=
  (if y1 = 0 then chR true 5 (mR m 900) fun r2 => some ((mI m (64 * r2 + 0)), m) else if y1 = 1 then chR true 5 (mR m 900) fun r3 => some ((mI m (64 * r3 + 1)), m) else if y1 = 2 then chR true 5 (mR m 900) fun r4 => some ((mI m (64 * r4 + 2)), m) else if y1 = 3 then some ((mI m 897), m) else if y1 = 4 then some ((mI m 898), m) else if y1 = 5 then bnd (f_X6_allPurses m ) fun (x5 : Int32) (m6 : mM) => some (x5, m6) else some ((-10000001), m))
theorem j_X6_told_42   (m : mM) (y1 : Int32)  : JF true uI m_X6_told 7 42 [(0, .ref 0), (1, .int y1)] [] m (f_X6_told_42  m y1) := by
  unfold f_X6_told_42
  refine F_iload_n (i := 1) (a := 1) rfl rfl (dk_X6_told 42 _ rfl) ?_
  refine F_case (fun c1_0 => ?_) (fun c1_0 => ?_)
  · rw [c1_0]; refine F_tin (off := 37) (tgt := 80) (by decide) (by decide) rfl (by decide) (dk_X6_told 43 _ rfl) ?_
    refine F_aload_n (i := 0) (a := 0) rfl rfl (dk_X6_told 80 _ rfl) ?_
    refine F_gR (b := 14) fxX_6_0_0 fl_6_47 (dk_X6_told 81 _ rfl) ?_
    refine F_gV (n := 900) fxX_2_4_14 rfl fl_6_83 (dk_X6_told 84 _ rfl) ?_
    refine F_ch (fun r2 hr2 => ?_)
    refine F_gI (n := (64 * r2 + 0)) (lyT_0 hr2) rfl fl_6_87 (dk_X6_told 87 _ rfl) ?_
    exact F_ret rfl (dk_X6_told 90 _ rfl)
  refine F_case (fun c1_1 => ?_) (fun c1_1 => ?_)
  · rw [c1_1]; refine F_tin (off := 48) (tgt := 91) (by decide) (by decide) rfl (by decide) (dk_X6_told 43 _ rfl) ?_
    refine F_aload_n (i := 0) (a := 0) rfl rfl (dk_X6_told 91 _ rfl) ?_
    refine F_gR (b := 14) fxX_6_0_0 fl_6_47 (dk_X6_told 92 _ rfl) ?_
    refine F_gV (n := 900) fxX_2_4_14 rfl fl_6_83 (dk_X6_told 95 _ rfl) ?_
    refine F_ch (fun r3 hr3 => ?_)
    refine F_gI (n := (64 * r3 + 1)) (lyT_1 hr3) rfl fl_6_150 (dk_X6_told 98 _ rfl) ?_
    exact F_ret rfl (dk_X6_told 101 _ rfl)
  refine F_case (fun c1_2 => ?_) (fun c1_2 => ?_)
  · rw [c1_2]; refine F_tin (off := 59) (tgt := 102) (by decide) (by decide) rfl (by decide) (dk_X6_told 43 _ rfl) ?_
    refine F_aload_n (i := 0) (a := 0) rfl rfl (dk_X6_told 102 _ rfl) ?_
    refine F_gR (b := 14) fxX_6_0_0 fl_6_47 (dk_X6_told 103 _ rfl) ?_
    refine F_gV (n := 900) fxX_2_4_14 rfl fl_6_83 (dk_X6_told 106 _ rfl) ?_
    refine F_ch (fun r4 hr4 => ?_)
    refine F_gI (n := (64 * r4 + 2)) (lyT_2 hr4) rfl fl_6_153 (dk_X6_told 109 _ rfl) ?_
    exact F_ret rfl (dk_X6_told 112 _ rfl)
  refine F_case (fun c1_3 => ?_) (fun c1_3 => ?_)
  · rw [c1_3]; refine F_tin (off := 70) (tgt := 113) (by decide) (by decide) rfl (by decide) (dk_X6_told 43 _ rfl) ?_
    refine F_aload_n (i := 0) (a := 0) rfl rfl (dk_X6_told 113 _ rfl) ?_
    refine F_gR (b := 14) fxX_6_0_0 fl_6_47 (dk_X6_told 114 _ rfl) ?_
    refine F_gI (n := 897) fxX_2_1_14 rfl fl_6_156 (dk_X6_told 117 _ rfl) ?_
    exact F_ret rfl (dk_X6_told 120 _ rfl)
  refine F_case (fun c1_4 => ?_) (fun c1_4 => ?_)
  · rw [c1_4]; refine F_tin (off := 78) (tgt := 121) (by decide) (by decide) rfl (by decide) (dk_X6_told 43 _ rfl) ?_
    refine F_aload_n (i := 0) (a := 0) rfl rfl (dk_X6_told 121 _ rfl) ?_
    refine F_gR (b := 14) fxX_6_0_0 fl_6_47 (dk_X6_told 122 _ rfl) ?_
    refine F_gI (n := 898) fxX_2_2_14 rfl fl_6_159 (dk_X6_told 125 _ rfl) ?_
    exact F_ret rfl (dk_X6_told 128 _ rfl)
  refine F_case (fun c1_5 => ?_) (fun c1_5 => ?_)
  · rw [c1_5]; refine F_tin (off := 86) (tgt := 129) (by decide) (by decide) rfl (by decide) (dk_X6_told 43 _ rfl) ?_
    refine F_aload_n (i := 0) (a := 0) rfl rfl (dk_X6_told 129 _ rfl) ?_
    refine F_callV (ι' := uI) (ci := 6) (b := 0) (As := []) (d' := 2) (rfl) ok_X6_allPurses vi_X6_allPurses cl_6_162 (n := 0) (by decide +kernel) rfl rfl rfl (Nat.le_of_ble_eq_true rfl) (by omega) (dk_X6_told 130 _ rfl) (c_X6_allPurses _  ) (fun x5 m6 => ?_)
    show JF _ _ _ _ _ _ [.int x5] _ _
    exact F_ret rfl (dk_X6_told 133 _ rfl)
  refine F_tout (tgt := 134) (by have q0 := fI_ne c1_0; rw [show (0 : Int32).toInt = 0 from by decide] at q0; have q1 := fI_ne c1_1; rw [show (1 : Int32).toInt = 1 from by decide] at q1; have q2 := fI_ne c1_2; rw [show (2 : Int32).toInt = 2 from by decide] at q2; have q3 := fI_ne c1_3; rw [show (3 : Int32).toInt = 3 from by decide] at q3; have q4 := fI_ne c1_4; rw [show (4 : Int32).toInt = 4 from by decide] at q4; have q5 := fI_ne c1_5; rw [show (5 : Int32).toInt = 5 from by decide] at q5; omega) (by decide) (dk_X6_told 43 _ rfl) ?_
  refine F_ldc (v := (-10000001)) ct_6_82 (dk_X6_told 134 _ rfl) ?_
  exact F_ret rfl (dk_X6_told 136 _ rfl)
def f_X6_told_21  (m : mM) (y1 : Int32) : fR Int32 :=
  (if y1 < 30 then (f_X6_told_42  m y1) else (if 42 ≤ y1 then (f_X6_told_42  m y1) else bnd (f_X6_sellingOn m (y1 - 30)) fun (x8 : Int32) (m9 : mM) => some (x8, m9)))
theorem j_X6_told_21   (m : mM) (y1 : Int32)  : JF true uI m_X6_told 7 21 [(0, .ref 0), (1, .int y1)] [] m (f_X6_told_21  m y1) := by
  unfold f_X6_told_21
  refine F_iload_n (i := 1) (a := 1) rfl rfl (dk_X6_told 21 _ rfl) ?_
  refine F_bipush (v := 30) (by decide) (dk_X6_told 22 _ rfl) ?_
  refine F_icmp_lt (tgt := 42) (by decide) (dk_X6_told 24 _ rfl) ?_ ?_
  · exact F_loc (fun _ z => z) (j_X6_told_42   _ _ )
  · refine F_iload_n (i := 1) (a := 1) rfl rfl (dk_X6_told 27 _ rfl) ?_
    refine F_bipush (v := 42) (by decide) (dk_X6_told 28 _ rfl) ?_
    refine F_icmp_ge (tgt := 42) (by decide) (dk_X6_told 30 _ rfl) ?_ ?_
    · exact F_loc (fun _ z => z) (j_X6_told_42   _ _ )
    · refine F_aload_n (i := 0) (a := 0) rfl rfl (dk_X6_told 33 _ rfl) ?_
      refine F_iload_n (i := 1) (a := 1) rfl rfl (dk_X6_told 34 _ rfl) ?_
      refine F_bipush (v := 30) (by decide) (dk_X6_told 35 _ rfl) ?_
      refine F_isub (dk_X6_told 37 _ rfl) ?_
      refine F_callV (ι' := uI) (ci := 6) (b := 0) (As := [.int (y1 - 30)]) (d' := 6) (rfl) ok_X6_sellingOn vi_X6_sellingOn cl_6_147 (n := 1) (by decide +kernel) rfl rfl rfl (Nat.le_of_ble_eq_true rfl) (by omega) (dk_X6_told 38 _ rfl) (c_X6_sellingOn _ _ ) (fun x8 m9 => ?_)
      show JF _ _ _ _ _ _ [.int x8] _ _
      exact F_ret rfl (dk_X6_told 41 _ rfl)
def f_X6_told (m : mM) (p1 : Int32) : fR Int32 :=
  (if p1 < 10 then (f_X6_told_21  m p1) else (if 22 ≤ p1 then (f_X6_told_21  m p1) else bnd (f_X6_bornOn m (p1 - 10)) fun (x11 : Int32) (m12 : mM) => some (x11, m12)))
theorem c_X6_told (m : mM) (p1 : Int32)  : cF true uI m_X6_told 7 [.ref 0, .int p1] m (f_X6_told m p1) := by
  refine cF_of ok_X6_told (fun _ _ => Nat.le_of_ble_eq_true rfl) ?_
  unfold f_X6_told
  show JF _ _ _ _ _ [(0, .ref 0), (1, .int p1)] _ _ _
  refine F_iload_n (i := 1) (a := 1) rfl rfl (dk_X6_told 0 _ rfl) ?_
  refine F_bipush (v := 10) (by decide) (dk_X6_told 1 _ rfl) ?_
  refine F_icmp_lt (tgt := 21) (by decide) (dk_X6_told 3 _ rfl) ?_ ?_
  · exact F_loc (fun _ z => z) (j_X6_told_21   _ _ )
  · refine F_iload_n (i := 1) (a := 1) rfl rfl (dk_X6_told 6 _ rfl) ?_
    refine F_bipush (v := 22) (by decide) (dk_X6_told 7 _ rfl) ?_
    refine F_icmp_ge (tgt := 21) (by decide) (dk_X6_told 9 _ rfl) ?_ ?_
    · exact F_loc (fun _ z => z) (j_X6_told_21   _ _ )
    · refine F_aload_n (i := 0) (a := 0) rfl rfl (dk_X6_told 12 _ rfl) ?_
      refine F_iload_n (i := 1) (a := 1) rfl rfl (dk_X6_told 13 _ rfl) ?_
      refine F_bipush (v := 10) (by decide) (dk_X6_told 14 _ rfl) ?_
      refine F_isub (dk_X6_told 16 _ rfl) ?_
      refine F_callV (ι' := uI) (ci := 6) (b := 0) (As := [.int (p1 - 10)]) (d' := 2) (rfl) ok_X6_bornOn vi_X6_bornOn cl_6_144 (n := 1) (by decide +kernel) rfl rfl rfl (Nat.le_of_ble_eq_true rfl) (by omega) (dk_X6_told 17 _ rfl) (c_X6_bornOn _ _ ) (fun x11 m12 => ?_)
      show JF _ _ _ _ _ _ [.int x11] _ _
      exact F_ret rfl (dk_X6_told 20 _ rfl)
def fb_X6_day_59 (K59 : mM → Int32 → fR Int32) (m : mM) (y1 : Int32) : fR Int32 :=
  (if (mI m 896) ≤ y1 then nmM (wI m 897 (mI m 2626)) fun m8 => nmM (wI m8 898 (mI m8 2627)) fun m9 => some ((mI m9 2628), m9) else (gA (mA m 19) y1).bind fun x10 => (gA (mA m 42) y1).bind fun x11 => (sA 0 m 19 y1 (x10 + x11)).bind fun m12 => (K59 m12 (y1 + 1)))
def f_X6_day_59  : Nat → mM → Int32 → fR Int32
  | 0, _, _ => none
  | F + 1, m, y1 => fb_X6_day_59  (f_X6_day_59  F) m y1
theorem jb_X6_day_59 (K59 : mM → Int32 → fR Int32) (hK59 : ∀ (m : mM) (y1 : Int32) , JF true uI m_X6_day 7 59 [(0, .ref 0), (1, .int y1)] [] m (K59 m y1)) (m : mM) (y1 : Int32)  : JF true uI m_X6_day 7 59 [(0, .ref 0), (1, .int y1)] [] m (fb_X6_day_59 K59 m y1) := by
  unfold fb_X6_day_59
  refine F_iload_n (i := 1) (a := 1) rfl rfl (dk_X6_day 59 _ rfl) ?_
  refine F_aload_n (i := 0) (a := 0) rfl rfl (dk_X6_day 60 _ rfl) ?_
  refine F_gR (b := 14) fxX_6_0_0 fl_6_47 (dk_X6_day 61 _ rfl) ?_
  refine F_gI (n := 896) fxX_2_0_14 rfl fl_6_71 (dk_X6_day 64 _ rfl) ?_
  refine F_icmp_ge (tgt := 97) (by decide) (dk_X6_day 67 _ rfl) ?_ ?_
  · refine F_aload_n (i := 0) (a := 0) rfl rfl (dk_X6_day 97 _ rfl) ?_
    refine F_gR (b := 14) fxX_6_0_0 fl_6_47 (dk_X6_day 98 _ rfl) ?_
    refine F_aload_n (i := 0) (a := 0) rfl rfl (dk_X6_day 101 _ rfl) ?_
    refine F_gR (b := 41) fxX_6_4_0 fl_6_62 (dk_X6_day 102 _ rfl) ?_
    refine F_gI (n := 2626) fxX_1_2_41 rfl fl_6_173 (dk_X6_day 105 _ rfl) ?_
    refine F_pI (n := 897) fxX_2_1_14 rfl fl_6_156 (fun q hq => by cases hq; rfl) trivial (dk_X6_day 108 _ rfl) (fun m8 => ?_)
    refine F_aload_n (i := 0) (a := 0) rfl rfl (dk_X6_day 111 _ rfl) ?_
    refine F_gR (b := 14) fxX_6_0_0 fl_6_47 (dk_X6_day 112 _ rfl) ?_
    refine F_aload_n (i := 0) (a := 0) rfl rfl (dk_X6_day 115 _ rfl) ?_
    refine F_gR (b := 41) fxX_6_4_0 fl_6_62 (dk_X6_day 116 _ rfl) ?_
    refine F_gI (n := 2627) fxX_1_3_41 rfl fl_6_174 (dk_X6_day 119 _ rfl) ?_
    refine F_pI (n := 898) fxX_2_2_14 rfl fl_6_159 (fun q hq => by cases hq; rfl) trivial (dk_X6_day 122 _ rfl) (fun m9 => ?_)
    refine F_aload_n (i := 0) (a := 0) rfl rfl (dk_X6_day 125 _ rfl) ?_
    refine F_gR (b := 41) fxX_6_4_0 fl_6_62 (dk_X6_day 126 _ rfl) ?_
    refine F_gI (n := 2628) fxX_1_4_41 rfl fl_6_175 (dk_X6_day 129 _ rfl) ?_
    exact F_ret rfl (dk_X6_day 132 _ rfl)
  · refine F_aload_n (i := 0) (a := 0) rfl rfl (dk_X6_day 70 _ rfl) ?_
    refine F_gR (b := 14) fxX_6_0_0 fl_6_47 (dk_X6_day 71 _ rfl) ?_
    refine F_gR (b := 19) fxX_2_9_14 fl_6_121 (dk_X6_day 74 _ rfl) ?_
    refine F_iload_n (i := 1) (a := 1) rfl rfl (dk_X6_day 77 _ rfl) ?_
    refine F_dup2 rfl rfl (dk_X6_day 78 _ rfl) ?_
    refine F_iald (axX_0_19) (dk_X6_day 79 _ rfl) (fun x10 => ?_)
    refine F_aload_n (i := 0) (a := 0) rfl rfl (dk_X6_day 80 _ rfl) ?_
    refine F_gR (b := 41) fxX_6_4_0 fl_6_62 (dk_X6_day 81 _ rfl) ?_
    refine F_gR (b := 42) fxX_1_5_41 fl_6_170 (dk_X6_day 84 _ rfl) ?_
    refine F_iload_n (i := 1) (a := 1) rfl rfl (dk_X6_day 87 _ rfl) ?_
    refine F_iald (axX_0_42) (dk_X6_day 88 _ rfl) (fun x11 => ?_)
    refine F_iadd (dk_X6_day 89 _ rfl) ?_
    refine F_iast (axX_0_19) (dk_X6_day 90 _ rfl) (fun m12 => ?_)
    refine F_iinc (i := 1) (n := 1) (v := (y1 + 1)) (lv' := [(1, .int (y1 + 1)), (0, .ref 0)]) rfl (by first | rfl | decide) (by decide) rfl (dk_X6_day 91 _ rfl) ?_
    refine F_goto (tgt := 59) (by decide) (dk_X6_day 94 _ rfl) ?_
    exact F_loc (List.forall_mem_cons.mpr ⟨(.tail _ (.head _)), (List.forall_mem_cons.mpr ⟨(.head _), (fun _ z => absurd z List.not_mem_nil)⟩)⟩) (hK59 _ _ )
theorem j_X6_day_59   : ∀ (F : Nat) (m : mM) (y1 : Int32) , JF true uI m_X6_day 7 59 [(0, .ref 0), (1, .int y1)] [] m (f_X6_day_59  F m y1) := by
  intro F
  induction F with
  | zero => intro m y1 ; exact F_no
  | succ F ih => intro m y1 ; exact jb_X6_day_59  (f_X6_day_59  F)  ih m y1 
def f_X6_day_28  (m : mM)  : fR Int32 :=
  chR true 5 (mR m 900) fun r1 => bnd (f_X1_start m 14 ((mI m (64 * r1 + 0)))) fun (x2 : Unit) (m3 : mM) => bnd (f_X1_go m3 1) fun (x5 : Unit) (m6 : mM) => (f_X6_day_59  1000 m6 0)
theorem j_X6_day_28   (m : mM)   : JF true uI m_X6_day 7 28 [(0, .ref 0)] [] m (f_X6_day_28  m ) := by
  unfold f_X6_day_28
  refine F_aload_n (i := 0) (a := 0) rfl rfl (dk_X6_day 28 _ rfl) ?_
  refine F_gR (b := 41) fxX_6_4_0 fl_6_62 (dk_X6_day 29 _ rfl) ?_
  refine F_aload_n (i := 0) (a := 0) rfl rfl (dk_X6_day 32 _ rfl) ?_
  refine F_gR (b := 14) fxX_6_0_0 fl_6_47 (dk_X6_day 33 _ rfl) ?_
  refine F_aload_n (i := 0) (a := 0) rfl rfl (dk_X6_day 36 _ rfl) ?_
  refine F_gR (b := 14) fxX_6_0_0 fl_6_47 (dk_X6_day 37 _ rfl) ?_
  refine F_gV (n := 900) fxX_2_4_14 rfl fl_6_83 (dk_X6_day 40 _ rfl) ?_
  refine F_ch (fun r1 hr1 => ?_)
  refine F_gI (n := (64 * r1 + 0)) (lyT_0 hr1) rfl fl_6_87 (dk_X6_day 43 _ rfl) ?_
  refine F_callV (ι' := uU) (ci := 1) (b := 41) (As := [.ref 14, .int (mI m (64 * r1 + 0))]) (d' := 5) (rfl) ok_X1_start vi_X1_start cl_6_90 (n := 2) (by decide +kernel) rfl rfl rfl (Nat.le_of_ble_eq_true rfl) (by omega) (dk_X6_day 46 _ rfl) (c_X1_start _ _ _ (rfl)) (fun x2 m3 => ?_)
  show JF _ _ _ _ _ _ [] _ _
  refine F_aload_n (i := 0) (a := 0) rfl rfl (dk_X6_day 49 _ rfl) ?_
  refine F_gR (b := 41) fxX_6_4_0 fl_6_62 (dk_X6_day 50 _ rfl) ?_
  refine F_iconst (v := 1) (by decide) (dk_X6_day 53 _ rfl) ?_
  refine F_callV (ι' := uU) (ci := 1) (b := 41) (As := [.int 1]) (d' := 6) (rfl) ok_X1_go vi_X1_go cl_6_166 (n := 1) (by decide +kernel) rfl rfl rfl (Nat.le_of_ble_eq_true rfl) (by omega) (dk_X6_day 54 _ rfl) (c_X1_go _ _ ) (fun x5 m6 => ?_)
  show JF _ _ _ _ _ _ [] _ _
  refine F_iconst (v := 0) (by decide) (dk_X6_day 57 _ rfl) ?_
  refine F_istore_n (lv' := [(1, .int 0), (0, .ref 0)]) (i := 1) (a := 1) rfl (by decide) rfl (dk_X6_day 58 _ rfl) ?_
  exact F_loc (List.forall_mem_cons.mpr ⟨(.tail _ (.head _)), (List.forall_mem_cons.mpr ⟨(.head _), (fun _ z => absurd z List.not_mem_nil)⟩)⟩) (j_X6_day_59   1000 _ _ )
def f_X6_day (m : mM)  : fR Int32 :=
  (if (mI m 897) = 11 then (if (mI m 898) < 999 then (f_X6_day_28  m ) else some ((-3), m)) else (f_X6_day_28  m ))
theorem c_X6_day (m : mM)   : cF true uI m_X6_day 7 [.ref 0] m (f_X6_day m ) := by
  refine cF_of ok_X6_day (fun _ _ => Nat.le_of_ble_eq_true rfl) ?_
  unfold f_X6_day
  show JF _ _ _ _ _ [(0, .ref 0)] _ _ _
  refine F_aload_n (i := 0) (a := 0) rfl rfl (dk_X6_day 0 _ rfl) ?_
  refine F_gR (b := 14) fxX_6_0_0 fl_6_47 (dk_X6_day 1 _ rfl) ?_
  refine F_gI (n := 897) fxX_2_1_14 rfl fl_6_156 (dk_X6_day 4 _ rfl) ?_
  refine F_bipush (v := 11) (by decide) (dk_X6_day 7 _ rfl) ?_
  refine F_icmp_ne (tgt := 28) (by decide) (dk_X6_day 9 _ rfl) ?_ ?_
  · exact F_loc (fun _ z => z) (j_X6_day_28   _  )
  · refine F_aload_n (i := 0) (a := 0) rfl rfl (dk_X6_day 12 _ rfl) ?_
    refine F_gR (b := 14) fxX_6_0_0 fl_6_47 (dk_X6_day 13 _ rfl) ?_
    refine F_gI (n := 898) fxX_2_2_14 rfl fl_6_159 (dk_X6_day 16 _ rfl) ?_
    refine F_sipush (v := 999) (by decide) (dk_X6_day 19 _ rfl) ?_
    refine F_icmp_lt (tgt := 28) (by decide) (dk_X6_day 22 _ rfl) ?_ ?_
    · exact F_loc (fun _ z => z) (j_X6_day_28   _  )
    · refine F_bipush (v := (-3)) (by decide) (dk_X6_day 25 _ rfl) ?_
      exact F_ret rfl (dk_X6_day 27 _ rfl)
def f_X6_by (m : mM) (p1 : Int32) (p2 : Int32) (p3 : Int32) : fR Int32 :=
  bnd (f_X6_isPerson m p1) fun (x1 : Int32) (m2 : mM) => (if x1 = 0 then some ((-10000001), m2) else (if p3 < 0 then some ((-10000001), m2) else (if p3 ≤ 1 then (if p2 < 0 then some ((-10000002), m2) else (if p2 ≤ 60 then chR true 5 (mR m2 900) fun r4 => bnd (f_X1_start m2 14 ((mI m2 (64 * r4 + 0)))) fun (x5 : Unit) (m6 : mM) => bnd (f_X1_go m6 p2) fun (x8 : Unit) (m9 : mM) => (if p3 = 0 then (gA (mA m9 19) p1).bind fun x12 => (gA (mA m9 42) p1).bind fun x13 => some ((x12 + x13), m9) else (gA (mA m9 43) p1).bind fun x11 => some (x11, m9)) else some ((-10000002), m2))) else some ((-10000001), m2))))
theorem c_X6_by (m : mM) (p1 : Int32) (p2 : Int32) (p3 : Int32)  : cF true uI m_X6_by 7 [.ref 0, .int p1, .int p2, .int p3] m (f_X6_by m p1 p2 p3) := by
  refine cF_of ok_X6_by (fun _ _ => Nat.le_of_ble_eq_true rfl) ?_
  unfold f_X6_by
  show JF _ _ _ _ _ [(0, .ref 0), (1, .int p1), (2, .int p2), (3, .int p3)] _ _ _
  refine F_aload_n (i := 0) (a := 0) rfl rfl (dk_X6_by 0 _ rfl) ?_
  refine F_iload_n (i := 1) (a := 1) rfl rfl (dk_X6_by 1 _ rfl) ?_
  refine F_callV (ι' := uI) (ci := 6) (b := 0) (As := [.int p1]) (d' := 2) (rfl) ok_X6_isPerson vi_X6_isPerson cl_6_79 (n := 1) (by decide +kernel) rfl rfl rfl (Nat.le_of_ble_eq_true rfl) (by omega) (dk_X6_by 2 _ rfl) (c_X6_isPerson _ _ ) (fun x1 m2 => ?_)
  show JF _ _ _ _ _ _ [.int x1] _ _
  refine F_if_eq (tgt := 17) (by decide) (dk_X6_by 5 _ rfl) ?_ ?_
  · refine F_ldc (v := (-10000001)) ct_6_82 (dk_X6_by 17 _ rfl) ?_
    exact F_ret rfl (dk_X6_by 19 _ rfl)
  · refine F_iload_n (i := 3) (a := 3) rfl rfl (dk_X6_by 8 _ rfl) ?_
    refine F_if_lt (tgt := 17) (by decide) (dk_X6_by 9 _ rfl) ?_ ?_
    · refine F_ldc (v := (-10000001)) ct_6_82 (dk_X6_by 17 _ rfl) ?_
      exact F_ret rfl (dk_X6_by 19 _ rfl)
    · refine F_iload_n (i := 3) (a := 3) rfl rfl (dk_X6_by 12 _ rfl) ?_
      refine F_iconst (v := 1) (by decide) (dk_X6_by 13 _ rfl) ?_
      refine F_icmp_le (tgt := 20) (by decide) (dk_X6_by 14 _ rfl) ?_ ?_
      · refine F_iload_n (i := 2) (a := 2) rfl rfl (dk_X6_by 20 _ rfl) ?_
        refine F_if_lt (tgt := 30) (by decide) (dk_X6_by 21 _ rfl) ?_ ?_
        · refine F_ldc (v := (-10000002)) ct_6_178 (dk_X6_by 30 _ rfl) ?_
          exact F_ret rfl (dk_X6_by 32 _ rfl)
        · refine F_iload_n (i := 2) (a := 2) rfl rfl (dk_X6_by 24 _ rfl) ?_
          refine F_bipush (v := 60) (by decide) (dk_X6_by 25 _ rfl) ?_
          refine F_icmp_le (tgt := 33) (by decide) (dk_X6_by 27 _ rfl) ?_ ?_
          · refine F_aload_n (i := 0) (a := 0) rfl rfl (dk_X6_by 33 _ rfl) ?_
            refine F_gR (b := 41) fxX_6_4_0 fl_6_62 (dk_X6_by 34 _ rfl) ?_
            refine F_aload_n (i := 0) (a := 0) rfl rfl (dk_X6_by 37 _ rfl) ?_
            refine F_gR (b := 14) fxX_6_0_0 fl_6_47 (dk_X6_by 38 _ rfl) ?_
            refine F_aload_n (i := 0) (a := 0) rfl rfl (dk_X6_by 41 _ rfl) ?_
            refine F_gR (b := 14) fxX_6_0_0 fl_6_47 (dk_X6_by 42 _ rfl) ?_
            refine F_gV (n := 900) fxX_2_4_14 rfl fl_6_83 (dk_X6_by 45 _ rfl) ?_
            refine F_ch (fun r4 hr4 => ?_)
            refine F_gI (n := (64 * r4 + 0)) (lyT_0 hr4) rfl fl_6_87 (dk_X6_by 48 _ rfl) ?_
            refine F_callV (ι' := uU) (ci := 1) (b := 41) (As := [.ref 14, .int (mI m2 (64 * r4 + 0))]) (d' := 5) (rfl) ok_X1_start vi_X1_start cl_6_90 (n := 2) (by decide +kernel) rfl rfl rfl (Nat.le_of_ble_eq_true rfl) (by omega) (dk_X6_by 51 _ rfl) (c_X1_start _ _ _ (rfl)) (fun x5 m6 => ?_)
            show JF _ _ _ _ _ _ [] _ _
            refine F_aload_n (i := 0) (a := 0) rfl rfl (dk_X6_by 54 _ rfl) ?_
            refine F_gR (b := 41) fxX_6_4_0 fl_6_62 (dk_X6_by 55 _ rfl) ?_
            refine F_iload_n (i := 2) (a := 2) rfl rfl (dk_X6_by 58 _ rfl) ?_
            refine F_callV (ι' := uU) (ci := 1) (b := 41) (As := [.int p2]) (d' := 6) (rfl) ok_X1_go vi_X1_go cl_6_166 (n := 1) (by decide +kernel) rfl rfl rfl (Nat.le_of_ble_eq_true rfl) (by omega) (dk_X6_by 59 _ rfl) (c_X1_go _ _ ) (fun x8 m9 => ?_)
            show JF _ _ _ _ _ _ [] _ _
            refine F_iload_n (i := 3) (a := 3) rfl rfl (dk_X6_by 62 _ rfl) ?_
            refine F_if_ne (tgt := 88) (by decide) (dk_X6_by 63 _ rfl) ?_ ?_
            · refine F_aload_n (i := 0) (a := 0) rfl rfl (dk_X6_by 88 _ rfl) ?_
              refine F_gR (b := 41) fxX_6_4_0 fl_6_62 (dk_X6_by 89 _ rfl) ?_
              refine F_gR (b := 43) fxX_1_6_41 fl_6_179 (dk_X6_by 92 _ rfl) ?_
              refine F_iload_n (i := 1) (a := 1) rfl rfl (dk_X6_by 95 _ rfl) ?_
              refine F_iald (axX_0_43) (dk_X6_by 96 _ rfl) (fun x11 => ?_)
              exact F_ret rfl (dk_X6_by 97 _ rfl)
            · refine F_aload_n (i := 0) (a := 0) rfl rfl (dk_X6_by 66 _ rfl) ?_
              refine F_gR (b := 14) fxX_6_0_0 fl_6_47 (dk_X6_by 67 _ rfl) ?_
              refine F_gR (b := 19) fxX_2_9_14 fl_6_121 (dk_X6_by 70 _ rfl) ?_
              refine F_iload_n (i := 1) (a := 1) rfl rfl (dk_X6_by 73 _ rfl) ?_
              refine F_iald (axX_0_19) (dk_X6_by 74 _ rfl) (fun x12 => ?_)
              refine F_aload_n (i := 0) (a := 0) rfl rfl (dk_X6_by 75 _ rfl) ?_
              refine F_gR (b := 41) fxX_6_4_0 fl_6_62 (dk_X6_by 76 _ rfl) ?_
              refine F_gR (b := 42) fxX_1_5_41 fl_6_170 (dk_X6_by 79 _ rfl) ?_
              refine F_iload_n (i := 1) (a := 1) rfl rfl (dk_X6_by 82 _ rfl) ?_
              refine F_iald (axX_0_42) (dk_X6_by 83 _ rfl) (fun x13 => ?_)
              refine F_iadd (dk_X6_by 84 _ rfl) ?_
              refine F_goto (tgt := 97) (by decide) (dk_X6_by 85 _ rfl) ?_
              exact F_ret rfl (dk_X6_by 97 _ rfl)
          · refine F_ldc (v := (-10000002)) ct_6_178 (dk_X6_by 30 _ rfl) ?_
            exact F_ret rfl (dk_X6_by 32 _ rfl)
      · refine F_ldc (v := (-10000001)) ct_6_82 (dk_X6_by 17 _ rfl) ?_
        exact F_ret rfl (dk_X6_by 19 _ rfl)
def f_X6_goYear (m : mM) (a1 : Nat) (p2 : Int32) : fR Unit :=
  bnd (f_X1_start m a1 p2) fun (x1 : Unit) (m2 : mM) => bnd (f_X1_go m2 12) fun (x4 : Unit) (m5 : mM) => some ((), m5)
theorem c_X6_goYear (m : mM) (a1 : Nat) (p2 : Int32) (ha1 : isC true 2 a1 = true) : cF true uU m_X6_goYear 7 [.ref 0, .ref a1, .int p2] m (f_X6_goYear m a1 p2) := by
  refine cF_of ok_X6_goYear (fun _ _ => Nat.le_of_ble_eq_true rfl) ?_
  unfold f_X6_goYear
  show JF _ _ _ _ _ [(0, .ref 0), (1, .ref a1), (2, .int p2)] _ _ _
  refine F_aload_n (i := 0) (a := 0) rfl rfl (dk_X6_goYear 0 _ rfl) ?_
  refine F_gR (b := 41) fxX_6_4_0 fl_6_62 (dk_X6_goYear 1 _ rfl) ?_
  refine F_aload_n (i := 1) (a := 1) rfl rfl (dk_X6_goYear 4 _ rfl) ?_
  refine F_iload_n (i := 2) (a := 2) rfl rfl (dk_X6_goYear 5 _ rfl) ?_
  refine F_callV (ι' := uU) (ci := 1) (b := 41) (As := [.ref a1, .int p2]) (d' := 5) (rfl) ok_X1_start vi_X1_start cl_6_90 (n := 2) (by decide +kernel) rfl rfl rfl (Nat.le_of_ble_eq_true rfl) (by omega) (dk_X6_goYear 6 _ rfl) (c_X1_start _ _ _ (ha1)) (fun x1 m2 => ?_)
  show JF _ _ _ _ _ _ [] _ _
  refine F_aload_n (i := 0) (a := 0) rfl rfl (dk_X6_goYear 9 _ rfl) ?_
  refine F_gR (b := 41) fxX_6_4_0 fl_6_62 (dk_X6_goYear 10 _ rfl) ?_
  refine F_bipush (v := 12) (by decide) (dk_X6_goYear 13 _ rfl) ?_
  refine F_callV (ι' := uU) (ci := 1) (b := 41) (As := [.int 12]) (d' := 6) (rfl) ok_X1_go vi_X1_go cl_6_166 (n := 1) (by decide +kernel) rfl rfl rfl (Nat.le_of_ble_eq_true rfl) (by omega) (dk_X6_goYear 15 _ rfl) (c_X1_go _ _ ) (fun x4 m5 => ?_)
  show JF _ _ _ _ _ _ [] _ _
  exact F_retV rfl (dk_X6_goYear 18 _ rfl)
def f_X6_years (m : mM) (p1 : Int32) : fR Int32 :=
  bnd (f_X6_isPerson m p1) fun (x1 : Int32) (m2 : mM) => (if x1 = 0 then some ((-10000001), m2) else chR true 5 (mR m2 900) fun r4 => bnd (f_X6_goYear m2 14 ((mI m2 (64 * r4 + 0)))) fun (x5 : Unit) (m6 : mM) => (gA (mA m6 42) p1).bind fun x8 => some (x8, m6))
theorem c_X6_years (m : mM) (p1 : Int32)  : cF true uI m_X6_years 8 [.ref 0, .int p1] m (f_X6_years m p1) := by
  refine cF_of ok_X6_years (fun _ _ => Nat.le_of_ble_eq_true rfl) ?_
  unfold f_X6_years
  show JF _ _ _ _ _ [(0, .ref 0), (1, .int p1)] _ _ _
  refine F_aload_n (i := 0) (a := 0) rfl rfl (dk_X6_years 0 _ rfl) ?_
  refine F_iload_n (i := 1) (a := 1) rfl rfl (dk_X6_years 1 _ rfl) ?_
  refine F_callV (ι' := uI) (ci := 6) (b := 0) (As := [.int p1]) (d' := 2) (rfl) ok_X6_isPerson vi_X6_isPerson cl_6_79 (n := 1) (by decide +kernel) rfl rfl rfl (Nat.le_of_ble_eq_true rfl) (by omega) (dk_X6_years 2 _ rfl) (c_X6_isPerson _ _ ) (fun x1 m2 => ?_)
  show JF _ _ _ _ _ _ [.int x1] _ _
  refine F_if_ne (tgt := 11) (by decide) (dk_X6_years 5 _ rfl) ?_ ?_
  · refine F_aload_n (i := 0) (a := 0) rfl rfl (dk_X6_years 11 _ rfl) ?_
    refine F_aload_n (i := 0) (a := 0) rfl rfl (dk_X6_years 12 _ rfl) ?_
    refine F_gR (b := 14) fxX_6_0_0 fl_6_47 (dk_X6_years 13 _ rfl) ?_
    refine F_aload_n (i := 0) (a := 0) rfl rfl (dk_X6_years 16 _ rfl) ?_
    refine F_gR (b := 14) fxX_6_0_0 fl_6_47 (dk_X6_years 17 _ rfl) ?_
    refine F_gV (n := 900) fxX_2_4_14 rfl fl_6_83 (dk_X6_years 20 _ rfl) ?_
    refine F_ch (fun r4 hr4 => ?_)
    refine F_gI (n := (64 * r4 + 0)) (lyT_0 hr4) rfl fl_6_87 (dk_X6_years 23 _ rfl) ?_
    refine F_callV (ι' := uU) (ci := 6) (b := 0) (As := [.ref 14, .int (mI m2 (64 * r4 + 0))]) (d' := 7) (rfl) ok_X6_goYear vi_X6_goYear cl_6_182 (n := 2) (by decide +kernel) rfl rfl rfl (Nat.le_of_ble_eq_true rfl) (by omega) (dk_X6_years 26 _ rfl) (c_X6_goYear _ _ _ (rfl)) (fun x5 m6 => ?_)
    show JF _ _ _ _ _ _ [] _ _
    refine F_aload_n (i := 0) (a := 0) rfl rfl (dk_X6_years 29 _ rfl) ?_
    refine F_gR (b := 41) fxX_6_4_0 fl_6_62 (dk_X6_years 30 _ rfl) ?_
    refine F_gR (b := 42) fxX_1_5_41 fl_6_170 (dk_X6_years 33 _ rfl) ?_
    refine F_iload_n (i := 1) (a := 1) rfl rfl (dk_X6_years 36 _ rfl) ?_
    refine F_iald (axX_0_42) (dk_X6_years 37 _ rfl) (fun x8 => ?_)
    exact F_ret rfl (dk_X6_years 38 _ rfl)
  · refine F_ldc (v := (-10000001)) ct_6_82 (dk_X6_years 8 _ rfl) ?_
    exact F_ret rfl (dk_X6_years 10 _ rfl)
def fb_X6_tryDays_8 (K8 : mM → Nat → Int32 → Int32 → Int32 → Int32 → fR Unit) (m : mM) (y1 : Nat) (y2 : Int32) (y3 : Int32) (y4 : Int32) (y5 : Int32) : fR Unit :=
  (if 12 ≤ y5 then (sA 0 m y1 y2 y4).bind fun m2 => some ((), m2) else (sA 0 m y1 y2 y5).bind fun m3 => bnd (f_X1_start m3 32 y3) fun (x4 : Unit) (m5 : mM) => bnd (f_X1_go m5 12) fun (x7 : Unit) (m8 : mM) => (gA (mA m8 42) y2).bind fun x10 => (sA 0 m8 1 y5 x10).bind fun m11 => (K8 m11 y1 y2 y3 y4 (y5 + 1)))
def f_X6_tryDays_8  : Nat → mM → Nat → Int32 → Int32 → Int32 → Int32 → fR Unit
  | 0, _, _, _, _, _, _ => none
  | F + 1, m, y1, y2, y3, y4, y5 => fb_X6_tryDays_8  (f_X6_tryDays_8  F) m y1 y2 y3 y4 y5
theorem jb_X6_tryDays_8 (K8 : mM → Nat → Int32 → Int32 → Int32 → Int32 → fR Unit) (hK8 : ∀ (m : mM) (y1 : Nat) (y2 : Int32) (y3 : Int32) (y4 : Int32) (y5 : Int32) (hy1 : isA true 0 y1 = true), JF true uU m_X6_tryDays 7 8 [(0, .ref 0), (1, .ref y1), (2, .int y2), (3, .int y3), (4, .int y4), (5, .int y5)] [] m (K8 m y1 y2 y3 y4 y5)) (m : mM) (y1 : Nat) (y2 : Int32) (y3 : Int32) (y4 : Int32) (y5 : Int32) (hy1 : isA true 0 y1 = true) : JF true uU m_X6_tryDays 7 8 [(0, .ref 0), (1, .ref y1), (2, .int y2), (3, .int y3), (4, .int y4), (5, .int y5)] [] m (fb_X6_tryDays_8 K8 m y1 y2 y3 y4 y5) := by
  unfold fb_X6_tryDays_8
  refine F_iload (i := 5) rfl (dk_X6_tryDays 8 _ rfl) ?_
  refine F_bipush (v := 12) (by decide) (dk_X6_tryDays 10 _ rfl) ?_
  refine F_icmp_ge (tgt := 63) (by decide) (dk_X6_tryDays 12 _ rfl) ?_ ?_
  · refine F_aload_n (i := 1) (a := 1) rfl rfl (dk_X6_tryDays 63 _ rfl) ?_
    refine F_iload_n (i := 2) (a := 2) rfl rfl (dk_X6_tryDays 64 _ rfl) ?_
    refine F_iload (i := 4) rfl (dk_X6_tryDays 65 _ rfl) ?_
    refine F_iast (hy1) (dk_X6_tryDays 67 _ rfl) (fun m2 => ?_)
    exact F_retV rfl (dk_X6_tryDays 68 _ rfl)
  · refine F_aload_n (i := 1) (a := 1) rfl rfl (dk_X6_tryDays 15 _ rfl) ?_
    refine F_iload_n (i := 2) (a := 2) rfl rfl (dk_X6_tryDays 16 _ rfl) ?_
    refine F_iload (i := 5) rfl (dk_X6_tryDays 17 _ rfl) ?_
    refine F_iast (hy1) (dk_X6_tryDays 19 _ rfl) (fun m3 => ?_)
    refine F_aload_n (i := 0) (a := 0) rfl rfl (dk_X6_tryDays 20 _ rfl) ?_
    refine F_gR (b := 41) fxX_6_4_0 fl_6_62 (dk_X6_tryDays 21 _ rfl) ?_
    refine F_aload_n (i := 0) (a := 0) rfl rfl (dk_X6_tryDays 24 _ rfl) ?_
    refine F_gR (b := 32) fxX_6_2_0 fl_6_54 (dk_X6_tryDays 25 _ rfl) ?_
    refine F_iload_n (i := 3) (a := 3) rfl rfl (dk_X6_tryDays 28 _ rfl) ?_
    refine F_callV (ι' := uU) (ci := 1) (b := 41) (As := [.ref 32, .int y3]) (d' := 5) (rfl) ok_X1_start vi_X1_start cl_6_90 (n := 2) (by decide +kernel) rfl rfl rfl (Nat.le_of_ble_eq_true rfl) (by omega) (dk_X6_tryDays 29 _ rfl) (c_X1_start _ _ _ (rfl)) (fun x4 m5 => ?_)
    show JF _ _ _ _ _ _ [] _ _
    refine F_aload_n (i := 0) (a := 0) rfl rfl (dk_X6_tryDays 32 _ rfl) ?_
    refine F_gR (b := 41) fxX_6_4_0 fl_6_62 (dk_X6_tryDays 33 _ rfl) ?_
    refine F_bipush (v := 12) (by decide) (dk_X6_tryDays 36 _ rfl) ?_
    refine F_callV (ι' := uU) (ci := 1) (b := 41) (As := [.int 12]) (d' := 6) (rfl) ok_X1_go vi_X1_go cl_6_166 (n := 1) (by decide +kernel) rfl rfl rfl (Nat.le_of_ble_eq_true rfl) (by omega) (dk_X6_tryDays 38 _ rfl) (c_X1_go _ _ ) (fun x7 m8 => ?_)
    show JF _ _ _ _ _ _ [] _ _
    refine F_aload_n (i := 0) (a := 0) rfl rfl (dk_X6_tryDays 41 _ rfl) ?_
    refine F_gR (b := 1) fxX_6_5_0 fl_6_11 (dk_X6_tryDays 42 _ rfl) ?_
    refine F_iload (i := 5) rfl (dk_X6_tryDays 45 _ rfl) ?_
    refine F_aload_n (i := 0) (a := 0) rfl rfl (dk_X6_tryDays 47 _ rfl) ?_
    refine F_gR (b := 41) fxX_6_4_0 fl_6_62 (dk_X6_tryDays 48 _ rfl) ?_
    refine F_gR (b := 42) fxX_1_5_41 fl_6_170 (dk_X6_tryDays 51 _ rfl) ?_
    refine F_iload_n (i := 2) (a := 2) rfl rfl (dk_X6_tryDays 54 _ rfl) ?_
    refine F_iald (axX_0_42) (dk_X6_tryDays 55 _ rfl) (fun x10 => ?_)
    refine F_iast (axX_0_1) (dk_X6_tryDays 56 _ rfl) (fun m11 => ?_)
    refine F_iinc (i := 5) (n := 1) (v := (y5 + 1)) (lv' := [(5, .int (y5 + 1)), (0, .ref 0), (1, .ref y1), (2, .int y2), (3, .int y3), (4, .int y4)]) rfl (by first | rfl | decide) (by decide) rfl (dk_X6_tryDays 57 _ rfl) ?_
    refine F_goto (tgt := 8) (by decide) (dk_X6_tryDays 60 _ rfl) ?_
    exact F_loc (List.forall_mem_cons.mpr ⟨(.tail _ (.head _)), (List.forall_mem_cons.mpr ⟨(.tail _ (.tail _ (.head _))), (List.forall_mem_cons.mpr ⟨(.tail _ (.tail _ (.tail _ (.head _)))), (List.forall_mem_cons.mpr ⟨(.tail _ (.tail _ (.tail _ (.tail _ (.head _))))), (List.forall_mem_cons.mpr ⟨(.tail _ (.tail _ (.tail _ (.tail _ (.tail _ (.head _)))))), (List.forall_mem_cons.mpr ⟨(.head _), (fun _ z => absurd z List.not_mem_nil)⟩)⟩)⟩)⟩)⟩)⟩) (hK8 _ _ _ _ _ _ (hy1))
theorem j_X6_tryDays_8   : ∀ (F : Nat) (m : mM) (y1 : Nat) (y2 : Int32) (y3 : Int32) (y4 : Int32) (y5 : Int32) (hy1 : isA true 0 y1 = true), JF true uU m_X6_tryDays 7 8 [(0, .ref 0), (1, .ref y1), (2, .int y2), (3, .int y3), (4, .int y4), (5, .int y5)] [] m (f_X6_tryDays_8  F m y1 y2 y3 y4 y5) := by
  intro F
  induction F with
  | zero => intro m y1 y2 y3 y4 y5 hy1; exact F_no
  | succ F ih => intro m y1 y2 y3 y4 y5 hy1; exact jb_X6_tryDays_8  (f_X6_tryDays_8  F)  ih m y1 y2 y3 y4 y5 hy1
def f_X6_tryDays (m : mM) (a1 : Nat) (p2 : Int32) (p3 : Int32) : fR Unit :=
  (gA (mA m a1) p2).bind fun x1 => (f_X6_tryDays_8  1000 m a1 p2 p3 x1 0)
theorem c_X6_tryDays (m : mM) (a1 : Nat) (p2 : Int32) (p3 : Int32) (ha1 : isA true 0 a1 = true) : cF true uU m_X6_tryDays 7 [.ref 0, .ref a1, .int p2, .int p3] m (f_X6_tryDays m a1 p2 p3) := by
  refine cF_of ok_X6_tryDays (fun _ _ => Nat.le_of_ble_eq_true rfl) ?_
  unfold f_X6_tryDays
  show JF _ _ _ _ _ [(0, .ref 0), (1, .ref a1), (2, .int p2), (3, .int p3)] _ _ _
  refine F_aload_n (i := 1) (a := 1) rfl rfl (dk_X6_tryDays 0 _ rfl) ?_
  refine F_iload_n (i := 2) (a := 2) rfl rfl (dk_X6_tryDays 1 _ rfl) ?_
  refine F_iald (ha1) (dk_X6_tryDays 2 _ rfl) (fun x1 => ?_)
  refine F_istore (lv' := [(4, .int x1), (0, .ref 0), (1, .ref a1), (2, .int p2), (3, .int p3)]) (i := 4) (by decide) rfl (dk_X6_tryDays 3 _ rfl) ?_
  refine F_iconst (v := 0) (by decide) (dk_X6_tryDays 5 _ rfl) ?_
  refine F_istore (lv' := [(5, .int 0), (4, .int x1), (0, .ref 0), (1, .ref a1), (2, .int p2), (3, .int p3)]) (i := 5) (by decide) rfl (dk_X6_tryDays 6 _ rfl) ?_
  exact F_loc (List.forall_mem_cons.mpr ⟨(.tail _ (.tail _ (.head _))), (List.forall_mem_cons.mpr ⟨(.tail _ (.tail _ (.tail _ (.head _)))), (List.forall_mem_cons.mpr ⟨(.tail _ (.tail _ (.tail _ (.tail _ (.head _))))), (List.forall_mem_cons.mpr ⟨(.tail _ (.tail _ (.tail _ (.tail _ (.tail _ (.head _)))))), (List.forall_mem_cons.mpr ⟨(.tail _ (.head _)), (List.forall_mem_cons.mpr ⟨(.head _), (fun _ z => absurd z List.not_mem_nil)⟩)⟩)⟩)⟩)⟩)⟩) (j_X6_tryDays_8   1000 _ _ _ _ _ _ (ha1))
end
