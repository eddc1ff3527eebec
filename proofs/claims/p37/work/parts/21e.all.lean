-- 21e.fun.lean.txt
section
section
set_option maxRecDepth 100000
def f_X6_there (m : mM) (p1 : Int32) (p2 : Int32) : fR Int32 :=
  bnd (f_X6_isPerson m p1) fun (x1 : Int32) (m2 : mM) => (if x1 = 0 then some ((-1), m2) else (gA (mA m2 20) p1).bind fun x4 => (sA 3 m2 20 p1 p2).bind fun m5 => (if x4 = 0 then some (0, m5) else some (1, m5)))
theorem c_X6_there (m : mM) (p1 : Int32) (p2 : Int32)  : cF true uI m_X6_there 3 [.ref 0, .int p1, .int p2] m (f_X6_there m p1 p2) := by
  refine cF_of ok_X6_there (fun _ _ => Nat.le_of_ble_eq_true rfl) ?_
  unfold f_X6_there
  show JF _ _ _ _ _ [(0, .ref 0), (1, .int p1), (2, .int p2)] _ _ _
  refine F_aload_n (i := 0) (a := 0) rfl rfl (dk_X6_there 0 _ rfl) ?_
  refine F_iload_n (i := 1) (a := 1) rfl rfl (dk_X6_there 1 _ rfl) ?_
  refine F_callV (ι' := uI) (ci := 6) (b := 0) (As := [.int p1]) (d' := 2) (rfl) ok_X6_isPerson vi_X6_isPerson cl_6_79 (n := 1) (by decide +kernel) rfl rfl rfl (Nat.le_of_ble_eq_true rfl) (by omega) (dk_X6_there 2 _ rfl) (c_X6_isPerson _ _ ) (fun x1 m2 => ?_)
  show JF _ _ _ _ _ _ [.int x1] _ _
  refine F_if_ne (tgt := 10) (by decide) (dk_X6_there 5 _ rfl) ?_ ?_
  · refine F_aload_n (i := 0) (a := 0) rfl rfl (dk_X6_there 10 _ rfl) ?_
    refine F_gR (b := 14) fxX_6_0_0 fl_6_47 (dk_X6_there 11 _ rfl) ?_
    refine F_gR (b := 20) fxX_2_10_14 fl_6_109 (dk_X6_there 14 _ rfl) ?_
    refine F_iload_n (i := 1) (a := 1) rfl rfl (dk_X6_there 17 _ rfl) ?_
    refine F_zald (axX_3_20) (dk_X6_there 18 _ rfl) (fun x4 => ?_)
    refine F_istore_n (lv' := [(3, .int x4), (0, .ref 0), (1, .int p1), (2, .int p2)]) (i := 3) (a := 3) rfl (by decide) rfl (dk_X6_there 19 _ rfl) ?_
    refine F_aload_n (i := 0) (a := 0) rfl rfl (dk_X6_there 20 _ rfl) ?_
    refine F_gR (b := 14) fxX_6_0_0 fl_6_47 (dk_X6_there 21 _ rfl) ?_
    refine F_gR (b := 20) fxX_2_10_14 fl_6_109 (dk_X6_there 24 _ rfl) ?_
    refine F_iload_n (i := 1) (a := 1) rfl rfl (dk_X6_there 27 _ rfl) ?_
    refine F_iload_n (i := 2) (a := 2) rfl rfl (dk_X6_there 28 _ rfl) ?_
    refine F_zast (axX_3_20) (dk_X6_there 29 _ rfl) (fun m5 => ?_)
    refine F_iload_n (i := 3) (a := 3) rfl rfl (dk_X6_there 30 _ rfl) ?_
    refine F_if_eq (tgt := 38) (by decide) (dk_X6_there 31 _ rfl) ?_ ?_
    · refine F_iconst (v := 0) (by decide) (dk_X6_there 38 _ rfl) ?_
      exact F_ret rfl (dk_X6_there 39 _ rfl)
    · refine F_iconst (v := 1) (by decide) (dk_X6_there 34 _ rfl) ?_
      refine F_goto (tgt := 39) (by decide) (dk_X6_there 35 _ rfl) ?_
      exact F_ret rfl (dk_X6_there 39 _ rfl)
  · refine F_iconst (v := (-1)) (by decide) (dk_X6_there 8 _ rfl) ?_
    exact F_ret rfl (dk_X6_there 9 _ rfl)
def f_X6_row (m : mM) (p1 : Int32) (p2 : Int32) (p3 : Int32) : fR Int32 :=
  bnd (f_X6_isPerson m p1) fun (x1 : Int32) (m2 : mM) => (if x1 = 0 then some ((-1), m2) else (if p2 < 0 then some ((-1), m2) else (if p2 < 4 then bnd (f_X6_isDay m2 p3) fun (x4 : Int32) (m5 : mM) => (if x4 = 0 then some ((-2), m5) else (gA (mA m5 15) p1).bind fun x7 => (if x7 = 6 then nmI (((p1 * 4) + p2)) fun v8 => (gA (mA m5 21) v8).bind fun x9 => (sA 0 m5 21 v8 p3).bind fun m10 => some (x9, m10) else some ((-3), m5))) else some ((-1), m2))))
theorem c_X6_row (m : mM) (p1 : Int32) (p2 : Int32) (p3 : Int32)  : cF true uI m_X6_row 3 [.ref 0, .int p1, .int p2, .int p3] m (f_X6_row m p1 p2 p3) := by
  refine cF_of ok_X6_row (fun _ _ => Nat.le_of_ble_eq_true rfl) ?_
  unfold f_X6_row
  show JF _ _ _ _ _ [(0, .ref 0), (1, .int p1), (2, .int p2), (3, .int p3)] _ _ _
  refine F_aload_n (i := 0) (a := 0) rfl rfl (dk_X6_row 0 _ rfl) ?_
  refine F_iload_n (i := 1) (a := 1) rfl rfl (dk_X6_row 1 _ rfl) ?_
  refine F_callV (ι' := uI) (ci := 6) (b := 0) (As := [.int p1]) (d' := 2) (rfl) ok_X6_isPerson vi_X6_isPerson cl_6_79 (n := 1) (by decide +kernel) rfl rfl rfl (Nat.le_of_ble_eq_true rfl) (by omega) (dk_X6_row 2 _ rfl) (c_X6_isPerson _ _ ) (fun x1 m2 => ?_)
  show JF _ _ _ _ _ _ [.int x1] _ _
  refine F_if_eq (tgt := 17) (by decide) (dk_X6_row 5 _ rfl) ?_ ?_
  · refine F_iconst (v := (-1)) (by decide) (dk_X6_row 17 _ rfl) ?_
    exact F_ret rfl (dk_X6_row 18 _ rfl)
  · refine F_iload_n (i := 2) (a := 2) rfl rfl (dk_X6_row 8 _ rfl) ?_
    refine F_if_lt (tgt := 17) (by decide) (dk_X6_row 9 _ rfl) ?_ ?_
    · refine F_iconst (v := (-1)) (by decide) (dk_X6_row 17 _ rfl) ?_
      exact F_ret rfl (dk_X6_row 18 _ rfl)
    · refine F_iload_n (i := 2) (a := 2) rfl rfl (dk_X6_row 12 _ rfl) ?_
      refine F_iconst (v := 4) (by decide) (dk_X6_row 13 _ rfl) ?_
      refine F_icmp_lt (tgt := 19) (by decide) (dk_X6_row 14 _ rfl) ?_ ?_
      · refine F_iload_n (i := 3) (a := 3) rfl rfl (dk_X6_row 19 _ rfl) ?_
        refine F_callS (ι' := uI) (As := [.int p3]) (d' := 2) ok_X6_isDay st_X6_isDay cl_6_67 rfl (n := 1) (by decide +kernel) rfl (Nat.le_of_ble_eq_true rfl) (by omega) (dk_X6_row 20 _ rfl) (c_X6_isDay _ _ ) (fun x4 m5 => ?_)
        show JF _ _ _ _ _ _ [.int x4] _ _
        refine F_if_ne (tgt := 29) (by decide) (dk_X6_row 23 _ rfl) ?_ ?_
        · refine F_aload_n (i := 0) (a := 0) rfl rfl (dk_X6_row 29 _ rfl) ?_
          refine F_gR (b := 14) fxX_6_0_0 fl_6_47 (dk_X6_row 30 _ rfl) ?_
          refine F_gR (b := 15) fxX_2_5_14 fl_6_97 (dk_X6_row 33 _ rfl) ?_
          refine F_iload_n (i := 1) (a := 1) rfl rfl (dk_X6_row 36 _ rfl) ?_
          refine F_iald (axX_0_15) (dk_X6_row 37 _ rfl) (fun x7 => ?_)
          refine F_bipush (v := 6) (by decide) (dk_X6_row 38 _ rfl) ?_
          refine F_icmp_eq (tgt := 46) (by decide) (dk_X6_row 40 _ rfl) ?_ ?_
          · refine F_iload_n (i := 1) (a := 1) rfl rfl (dk_X6_row 46 _ rfl) ?_
            refine F_iconst (v := 4) (by decide) (dk_X6_row 47 _ rfl) ?_
            refine F_imul (dk_X6_row 48 _ rfl) ?_
            refine F_iload_n (i := 2) (a := 2) rfl rfl (dk_X6_row 49 _ rfl) ?_
            refine F_iadd (dk_X6_row 50 _ rfl) ?_
            refine F_nm (fun v8 => ?_)
            refine F_istore (lv' := [(4, .int v8), (0, .ref 0), (1, .int p1), (2, .int p2), (3, .int p3)]) (i := 4) (by decide) rfl (dk_X6_row 51 _ rfl) ?_
            refine F_aload_n (i := 0) (a := 0) rfl rfl (dk_X6_row 53 _ rfl) ?_
            refine F_gR (b := 14) fxX_6_0_0 fl_6_47 (dk_X6_row 54 _ rfl) ?_
            refine F_gR (b := 21) fxX_2_11_14 fl_6_124 (dk_X6_row 57 _ rfl) ?_
            refine F_iload (i := 4) rfl (dk_X6_row 60 _ rfl) ?_
            refine F_iald (axX_0_21) (dk_X6_row 62 _ rfl) (fun x9 => ?_)
            refine F_istore (lv' := [(5, .int x9), (4, .int v8), (0, .ref 0), (1, .int p1), (2, .int p2), (3, .int p3)]) (i := 5) (by decide) rfl (dk_X6_row 63 _ rfl) ?_
            refine F_aload_n (i := 0) (a := 0) rfl rfl (dk_X6_row 65 _ rfl) ?_
            refine F_gR (b := 14) fxX_6_0_0 fl_6_47 (dk_X6_row 66 _ rfl) ?_
            refine F_gR (b := 21) fxX_2_11_14 fl_6_124 (dk_X6_row 69 _ rfl) ?_
            refine F_iload (i := 4) rfl (dk_X6_row 72 _ rfl) ?_
            refine F_iload_n (i := 3) (a := 3) rfl rfl (dk_X6_row 74 _ rfl) ?_
            refine F_iast (axX_0_21) (dk_X6_row 75 _ rfl) (fun m10 => ?_)
            refine F_iload (i := 5) rfl (dk_X6_row 76 _ rfl) ?_
            exact F_ret rfl (dk_X6_row 78 _ rfl)
          · refine F_bipush (v := (-3)) (by decide) (dk_X6_row 43 _ rfl) ?_
            exact F_ret rfl (dk_X6_row 45 _ rfl)
        · refine F_bipush (v := (-2)) (by decide) (dk_X6_row 26 _ rfl) ?_
          exact F_ret rfl (dk_X6_row 28 _ rfl)
      · refine F_iconst (v := (-1)) (by decide) (dk_X6_row 17 _ rfl) ?_
        exact F_ret rfl (dk_X6_row 18 _ rfl)
def f_X6_feed (m : mM) (p1 : Int32) : fR Int32 :=
  (if p1 < 0 then some ((-2), m) else (if p1 < 128 then (if (mI m 129) < 100 then (sA 2 m 3 (mI m 129) ((p1 : Int32).toInt8.toInt32)).bind fun m1 => nmM (wI m1 129 (((mI m1 129) + 1))) fun m2 => some ((mI m2 129), m2) else some ((-4), m)) else some ((-2), m)))
theorem c_X6_feed (m : mM) (p1 : Int32)  : cF true uI m_X6_feed 2 [.ref 0, .int p1] m (f_X6_feed m p1) := by
  refine cF_of ok_X6_feed (fun _ _ => Nat.le_of_ble_eq_true rfl) ?_
  unfold f_X6_feed
  show JF _ _ _ _ _ [(0, .ref 0), (1, .int p1)] _ _ _
  refine F_iload_n (i := 1) (a := 1) rfl rfl (dk_X6_feed 0 _ rfl) ?_
  refine F_if_lt (tgt := 11) (by decide) (dk_X6_feed 1 _ rfl) ?_ ?_
  · refine F_bipush (v := (-2)) (by decide) (dk_X6_feed 11 _ rfl) ?_
    exact F_ret rfl (dk_X6_feed 13 _ rfl)
  · refine F_iload_n (i := 1) (a := 1) rfl rfl (dk_X6_feed 4 _ rfl) ?_
    refine F_sipush (v := 128) (by decide) (dk_X6_feed 5 _ rfl) ?_
    refine F_icmp_lt (tgt := 14) (by decide) (dk_X6_feed 8 _ rfl) ?_ ?_
    · refine F_aload_n (i := 0) (a := 0) rfl rfl (dk_X6_feed 14 _ rfl) ?_
      refine F_gR (b := 2) fxX_6_6_0 fl_6_18 (dk_X6_feed 15 _ rfl) ?_
      refine F_gI (n := 129) fxX_4_1_2 rfl fl_6_127 (dk_X6_feed 18 _ rfl) ?_
      refine F_bipush (v := 100) (by decide) (dk_X6_feed 21 _ rfl) ?_
      refine F_icmp_lt (tgt := 29) (by decide) (dk_X6_feed 23 _ rfl) ?_ ?_
      · refine F_aload_n (i := 0) (a := 0) rfl rfl (dk_X6_feed 29 _ rfl) ?_
        refine F_gR (b := 2) fxX_6_6_0 fl_6_18 (dk_X6_feed 30 _ rfl) ?_
        refine F_gR (b := 3) fxX_4_0_2 fl_6_130 (dk_X6_feed 33 _ rfl) ?_
        refine F_aload_n (i := 0) (a := 0) rfl rfl (dk_X6_feed 36 _ rfl) ?_
        refine F_gR (b := 2) fxX_6_6_0 fl_6_18 (dk_X6_feed 37 _ rfl) ?_
        refine F_gI (n := 129) fxX_4_1_2 rfl fl_6_127 (dk_X6_feed 40 _ rfl) ?_
        refine F_iload_n (i := 1) (a := 1) rfl rfl (dk_X6_feed 43 _ rfl) ?_
        refine F_i2b (dk_X6_feed 44 _ rfl) ?_
        refine F_bast (axX_2_3) (dk_X6_feed 45 _ rfl) (fun m1 => ?_)
        refine F_aload_n (i := 0) (a := 0) rfl rfl (dk_X6_feed 46 _ rfl) ?_
        refine F_gR (b := 2) fxX_6_6_0 fl_6_18 (dk_X6_feed 47 _ rfl) ?_
        refine F_dup rfl (dk_X6_feed 50 _ rfl) ?_
        refine F_gI (n := 129) fxX_4_1_2 rfl fl_6_127 (dk_X6_feed 51 _ rfl) ?_
        refine F_iconst (v := 1) (by decide) (dk_X6_feed 54 _ rfl) ?_
        refine F_iadd (dk_X6_feed 55 _ rfl) ?_
        refine F_pI (n := 129) fxX_4_1_2 rfl fl_6_127 (fun q hq => by cases hq; rfl) trivial (dk_X6_feed 56 _ rfl) (fun m2 => ?_)
        refine F_aload_n (i := 0) (a := 0) rfl rfl (dk_X6_feed 59 _ rfl) ?_
        refine F_gR (b := 2) fxX_6_6_0 fl_6_18 (dk_X6_feed 60 _ rfl) ?_
        refine F_gI (n := 129) fxX_4_1_2 rfl fl_6_127 (dk_X6_feed 63 _ rfl) ?_
        exact F_ret rfl (dk_X6_feed 66 _ rfl)
      · refine F_bipush (v := (-4)) (by decide) (dk_X6_feed 26 _ rfl) ?_
        exact F_ret rfl (dk_X6_feed 28 _ rfl)
    · refine F_bipush (v := (-2)) (by decide) (dk_X6_feed 11 _ rfl) ?_
      exact F_ret rfl (dk_X6_feed 13 _ rfl)
def f_X6_town (m : mM)  : fR Int32 :=
  (if (mI m 8) < 6 then (gT [46, 52, 58, 64, 70, 76] (mI m 8)).bind fun r1 => chR true 5 r1 fun r2 => bnd (f_X4_parse m r2) fun (x3 : Int32) (m4 : mM) => nmM (wI m4 129 0) fun m6 => (if x3 = 0 then some (((-10) - (mI m6 130)), m6) else nmM (wR m6 900 r2) fun m7 => nmM (wI m7 8 (((mI m7 8) + 1))) fun m8 => some (((mI m8 8) - 1), m8)) else some ((-4), m))
theorem c_X6_town (m : mM)   : cF true uI m_X6_town 22 [.ref 0] m (f_X6_town m ) := by
  refine cF_of ok_X6_town (fun _ _ => Nat.le_of_ble_eq_true rfl) ?_
  unfold f_X6_town
  show JF _ _ _ _ _ [(0, .ref 0)] _ _ _
  refine F_aload_n (i := 0) (a := 0) rfl rfl (dk_X6_town 0 _ rfl) ?_
  refine F_gI (n := 8) fxX_6_8_0 rfl fl_6_134 (dk_X6_town 1 _ rfl) ?_
  refine F_bipush (v := 6) (by decide) (dk_X6_town 4 _ rfl) ?_
  refine F_icmp_lt (tgt := 12) (by decide) (dk_X6_town 6 _ rfl) ?_ ?_
  · refine F_aload_n (i := 0) (a := 0) rfl rfl (dk_X6_town 12 _ rfl) ?_
    refine F_gR (b := 4) fxX_6_7_0 fl_6_24 (dk_X6_town 13 _ rfl) ?_
    refine F_aload_n (i := 0) (a := 0) rfl rfl (dk_X6_town 16 _ rfl) ?_
    refine F_gI (n := 8) fxX_6_8_0 rfl fl_6_134 (dk_X6_town 17 _ rfl) ?_
    refine F_aald (rs := [46, 52, 58, 64, 70, 76]) (t := 4) rfl (by decide) (dk_X6_town 20 _ rfl) (fun r1 => ?_)
    refine F_ch (fun r2 hr2 => ?_)
    refine F_astore_n (lv' := [(1, .ref r2), (0, .ref 0)]) (i := 1) (a := 1) rfl (by decide) rfl (dk_X6_town 21 _ rfl) ?_
    refine F_aload_n (i := 0) (a := 0) rfl rfl (dk_X6_town 22 _ rfl) ?_
    refine F_gR (b := 2) fxX_6_6_0 fl_6_18 (dk_X6_town 23 _ rfl) ?_
    refine F_aload_n (i := 1) (a := 1) rfl rfl (dk_X6_town 26 _ rfl) ?_
    refine F_callV (ι' := uI) (ci := 4) (b := 2) (As := [.ref r2]) (d' := 21) (rfl) ok_X4_parse vi_X4_parse cl_6_137 (n := 1) (by decide +kernel) rfl rfl rfl (Nat.le_of_ble_eq_true rfl) (by omega) (dk_X6_town 27 _ rfl) (c_X4_parse _ _ (hr2)) (fun x3 m4 => ?_)
    show JF _ _ _ _ _ _ [.int x3] _ _
    refine F_istore_n (lv' := [(2, .int x3), (1, .ref r2), (0, .ref 0)]) (i := 2) (a := 2) rfl (by decide) rfl (dk_X6_town 30 _ rfl) ?_
    refine F_aload_n (i := 0) (a := 0) rfl rfl (dk_X6_town 31 _ rfl) ?_
    refine F_gR (b := 2) fxX_6_6_0 fl_6_18 (dk_X6_town 32 _ rfl) ?_
    refine F_iconst (v := 0) (by decide) (dk_X6_town 35 _ rfl) ?_
    refine F_pI (n := 129) fxX_4_1_2 rfl fl_6_127 (fun q hq => by cases hq; rfl) trivial (dk_X6_town 36 _ rfl) (fun m6 => ?_)
    refine F_iload_n (i := 2) (a := 2) rfl rfl (dk_X6_town 39 _ rfl) ?_
    refine F_if_ne (tgt := 54) (by decide) (dk_X6_town 40 _ rfl) ?_ ?_
    · refine F_aload_n (i := 0) (a := 0) rfl rfl (dk_X6_town 54 _ rfl) ?_
      refine F_gR (b := 14) fxX_6_0_0 fl_6_47 (dk_X6_town 55 _ rfl) ?_
      refine F_aload_n (i := 1) (a := 1) rfl rfl (dk_X6_town 58 _ rfl) ?_
      refine F_pV (n := 900) fxX_2_4_14 rfl fl_6_83 (fun q hq => by cases hq; rfl) trivial (dk_X6_town 59 _ rfl) (fun m7 => ?_)
      refine F_aload_n (i := 0) (a := 0) rfl rfl (dk_X6_town 62 _ rfl) ?_
      refine F_dup rfl (dk_X6_town 63 _ rfl) ?_
      refine F_gI (n := 8) fxX_6_8_0 rfl fl_6_134 (dk_X6_town 64 _ rfl) ?_
      refine F_iconst (v := 1) (by decide) (dk_X6_town 67 _ rfl) ?_
      refine F_iadd (dk_X6_town 68 _ rfl) ?_
      refine F_pI (n := 8) fxX_6_8_0 rfl fl_6_134 (fun q hq => by cases hq; rfl) trivial (dk_X6_town 69 _ rfl) (fun m8 => ?_)
      refine F_aload_n (i := 0) (a := 0) rfl rfl (dk_X6_town 72 _ rfl) ?_
      refine F_gI (n := 8) fxX_6_8_0 rfl fl_6_134 (dk_X6_town 73 _ rfl) ?_
      refine F_iconst (v := 1) (by decide) (dk_X6_town 76 _ rfl) ?_
      refine F_isub (dk_X6_town 77 _ rfl) ?_
      exact F_ret rfl (dk_X6_town 78 _ rfl)
    · refine F_bipush (v := (-10)) (by decide) (dk_X6_town 43 _ rfl) ?_
      refine F_aload_n (i := 0) (a := 0) rfl rfl (dk_X6_town 45 _ rfl) ?_
      refine F_gR (b := 2) fxX_6_6_0 fl_6_18 (dk_X6_town 46 _ rfl) ?_
      refine F_gI (n := 130) fxX_4_2_2 rfl fl_6_141 (dk_X6_town 49 _ rfl) ?_
      refine F_isub (dk_X6_town 52 _ rfl) ?_
      exact F_ret rfl (dk_X6_town 53 _ rfl)
  · refine F_bipush (v := (-4)) (by decide) (dk_X6_town 9 _ rfl) ?_
    exact F_ret rfl (dk_X6_town 11 _ rfl)
def fb_X6_bornOn_4 (K4 : mM → Int32 → Int32 → Int32 → fR Int32) (m : mM) (y1 : Int32) (y2 : Int32) (y3 : Int32) : fR Int32 :=
  (if (mI m 896) ≤ y3 then some (y2, m) else (gA (mA m 20) y3).bind fun x1 => (if x1 = 0 then (K4 m y1 y2 (y3 + 1)) else (gA (mA m 17) y3).bind fun x2 => (if x2 = y1 then nmI ((y2 ||| (1 <<< (y3 &&& 31)))) fun v3 => (K4 m y1 v3 (y3 + 1)) else (K4 m y1 y2 (y3 + 1)))))
def f_X6_bornOn_4  : Nat → mM → Int32 → Int32 → Int32 → fR Int32
  | 0, _, _, _, _ => none
  | F + 1, m, y1, y2, y3 => fb_X6_bornOn_4  (f_X6_bornOn_4  F) m y1 y2 y3
theorem jb_X6_bornOn_4 (K4 : mM → Int32 → Int32 → Int32 → fR Int32) (hK4 : ∀ (m : mM) (y1 : Int32) (y2 : Int32) (y3 : Int32) , JF true uI m_X6_bornOn 2 4 [(0, .ref 0), (1, .int y1), (2, .int y2), (3, .int y3)] [] m (K4 m y1 y2 y3)) (m : mM) (y1 : Int32) (y2 : Int32) (y3 : Int32)  : JF true uI m_X6_bornOn 2 4 [(0, .ref 0), (1, .int y1), (2, .int y2), (3, .int y3)] [] m (fb_X6_bornOn_4 K4 m y1 y2 y3) := by
  unfold fb_X6_bornOn_4
  refine F_iload_n (i := 3) (a := 3) rfl rfl (dk_X6_bornOn 4 _ rfl) ?_
  refine F_aload_n (i := 0) (a := 0) rfl rfl (dk_X6_bornOn 5 _ rfl) ?_
  refine F_gR (b := 14) fxX_6_0_0 fl_6_47 (dk_X6_bornOn 6 _ rfl) ?_
  refine F_gI (n := 896) fxX_2_0_14 rfl fl_6_71 (dk_X6_bornOn 9 _ rfl) ?_
  refine F_icmp_ge (tgt := 52) (by decide) (dk_X6_bornOn 12 _ rfl) ?_ ?_
  · refine F_iload_n (i := 2) (a := 2) rfl rfl (dk_X6_bornOn 52 _ rfl) ?_
    exact F_ret rfl (dk_X6_bornOn 53 _ rfl)
  · refine F_aload_n (i := 0) (a := 0) rfl rfl (dk_X6_bornOn 15 _ rfl) ?_
    refine F_gR (b := 14) fxX_6_0_0 fl_6_47 (dk_X6_bornOn 16 _ rfl) ?_
    refine F_gR (b := 20) fxX_2_10_14 fl_6_109 (dk_X6_bornOn 19 _ rfl) ?_
    refine F_iload_n (i := 3) (a := 3) rfl rfl (dk_X6_bornOn 22 _ rfl) ?_
    refine F_zald (axX_3_20) (dk_X6_bornOn 23 _ rfl) (fun x1 => ?_)
    refine F_if_eq (tgt := 46) (by decide) (dk_X6_bornOn 24 _ rfl) ?_ ?_
    · refine F_iinc (i := 3) (n := 1) (v := (y3 + 1)) (lv' := [(3, .int (y3 + 1)), (0, .ref 0), (1, .int y1), (2, .int y2)]) rfl (by first | rfl | decide) (by decide) rfl (dk_X6_bornOn 46 _ rfl) ?_
      refine F_goto (tgt := 4) (by decide) (dk_X6_bornOn 49 _ rfl) ?_
      exact F_loc (List.forall_mem_cons.mpr ⟨(.tail _ (.head _)), (List.forall_mem_cons.mpr ⟨(.tail _ (.tail _ (.head _))), (List.forall_mem_cons.mpr ⟨(.tail _ (.tail _ (.tail _ (.head _)))), (List.forall_mem_cons.mpr ⟨(.head _), (fun _ z => absurd z List.not_mem_nil)⟩)⟩)⟩)⟩) (hK4 _ _ _ _ )
    · refine F_aload_n (i := 0) (a := 0) rfl rfl (dk_X6_bornOn 27 _ rfl) ?_
      refine F_gR (b := 14) fxX_6_0_0 fl_6_47 (dk_X6_bornOn 28 _ rfl) ?_
      refine F_gR (b := 17) fxX_2_7_14 fl_6_103 (dk_X6_bornOn 31 _ rfl) ?_
      refine F_iload_n (i := 3) (a := 3) rfl rfl (dk_X6_bornOn 34 _ rfl) ?_
      refine F_iald (axX_0_17) (dk_X6_bornOn 35 _ rfl) (fun x2 => ?_)
      refine F_iload_n (i := 1) (a := 1) rfl rfl (dk_X6_bornOn 36 _ rfl) ?_
      refine F_icmp_ne (tgt := 46) (by decide) (dk_X6_bornOn 37 _ rfl) ?_ ?_
      · refine F_iinc (i := 3) (n := 1) (v := (y3 + 1)) (lv' := [(3, .int (y3 + 1)), (0, .ref 0), (1, .int y1), (2, .int y2)]) rfl (by first | rfl | decide) (by decide) rfl (dk_X6_bornOn 46 _ rfl) ?_
        refine F_goto (tgt := 4) (by decide) (dk_X6_bornOn 49 _ rfl) ?_
        exact F_loc (List.forall_mem_cons.mpr ⟨(.tail _ (.head _)), (List.forall_mem_cons.mpr ⟨(.tail _ (.tail _ (.head _))), (List.forall_mem_cons.mpr ⟨(.tail _ (.tail _ (.tail _ (.head _)))), (List.forall_mem_cons.mpr ⟨(.head _), (fun _ z => absurd z List.not_mem_nil)⟩)⟩)⟩)⟩) (hK4 _ _ _ _ )
      · refine F_iload_n (i := 2) (a := 2) rfl rfl (dk_X6_bornOn 40 _ rfl) ?_
        refine F_iconst (v := 1) (by decide) (dk_X6_bornOn 41 _ rfl) ?_
        refine F_iload_n (i := 3) (a := 3) rfl rfl (dk_X6_bornOn 42 _ rfl) ?_
        refine F_ishl (dk_X6_bornOn 43 _ rfl) ?_
        refine F_ior (dk_X6_bornOn 44 _ rfl) ?_
        refine F_nm (fun v3 => ?_)
        refine F_istore_n (lv' := [(2, .int v3), (0, .ref 0), (1, .int y1), (3, .int y3)]) (i := 2) (a := 2) rfl (by decide) rfl (dk_X6_bornOn 45 _ rfl) ?_
        refine F_iinc (i := 3) (n := 1) (v := (y3 + 1)) (lv' := [(3, .int (y3 + 1)), (2, .int v3), (0, .ref 0), (1, .int y1)]) rfl (by first | rfl | decide) (by decide) rfl (dk_X6_bornOn 46 _ rfl) ?_
        refine F_goto (tgt := 4) (by decide) (dk_X6_bornOn 49 _ rfl) ?_
        exact F_loc (List.forall_mem_cons.mpr ⟨(.tail _ (.tail _ (.head _))), (List.forall_mem_cons.mpr ⟨(.tail _ (.tail _ (.tail _ (.head _)))), (List.forall_mem_cons.mpr ⟨(.tail _ (.head _)), (List.forall_mem_cons.mpr ⟨(.head _), (fun _ z => absurd z List.not_mem_nil)⟩)⟩)⟩)⟩) (hK4 _ _ _ _ )
theorem j_X6_bornOn_4   : ∀ (F : Nat) (m : mM) (y1 : Int32) (y2 : Int32) (y3 : Int32) , JF true uI m_X6_bornOn 2 4 [(0, .ref 0), (1, .int y1), (2, .int y2), (3, .int y3)] [] m (f_X6_bornOn_4  F m y1 y2 y3) := by
  intro F
  induction F with
  | zero => intro m y1 y2 y3 ; exact F_no
  | succ F ih => intro m y1 y2 y3 ; exact jb_X6_bornOn_4  (f_X6_bornOn_4  F)  ih m y1 y2 y3 
def f_X6_bornOn (m : mM) (p1 : Int32) : fR Int32 :=
  (f_X6_bornOn_4  1000 m p1 0 0)
theorem c_X6_bornOn (m : mM) (p1 : Int32)  : cF true uI m_X6_bornOn 2 [.ref 0, .int p1] m (f_X6_bornOn m p1) := by
  refine cF_of ok_X6_bornOn (fun _ _ => Nat.le_of_ble_eq_true rfl) ?_
  unfold f_X6_bornOn
  show JF _ _ _ _ _ [(0, .ref 0), (1, .int p1)] _ _ _
  refine F_iconst (v := 0) (by decide) (dk_X6_bornOn 0 _ rfl) ?_
  refine F_istore_n (lv' := [(2, .int 0), (0, .ref 0), (1, .int p1)]) (i := 2) (a := 2) rfl (by decide) rfl (dk_X6_bornOn 1 _ rfl) ?_
  refine F_iconst (v := 0) (by decide) (dk_X6_bornOn 2 _ rfl) ?_
  refine F_istore_n (lv' := [(3, .int 0), (2, .int 0), (0, .ref 0), (1, .int p1)]) (i := 3) (a := 3) rfl (by decide) rfl (dk_X6_bornOn 3 _ rfl) ?_
  exact F_loc (List.forall_mem_cons.mpr ⟨(.tail _ (.tail _ (.head _))), (List.forall_mem_cons.mpr ⟨(.tail _ (.tail _ (.tail _ (.head _)))), (List.forall_mem_cons.mpr ⟨(.tail _ (.head _)), (List.forall_mem_cons.mpr ⟨(.head _), (fun _ z => absurd z List.not_mem_nil)⟩)⟩)⟩)⟩) (j_X6_bornOn_4   1000 _ _ _ _ )
def fb_X6_sellingOn_25 (K25 : mM → Int32 → Int32 → Int32 → fR Int32) (m : mM) (y1 : Int32) (y2 : Int32) (y3 : Int32) : fR Int32 :=
  (if (mI m 896) ≤ y3 then some (y2, m) else (gA (mA m 44) y3).bind fun x5 => (if x5 = y1 then nmI ((y2 ||| (1 <<< (y3 &&& 31)))) fun v6 => (K25 m y1 v6 (y3 + 1)) else (K25 m y1 y2 (y3 + 1))))
def f_X6_sellingOn_25  : Nat → mM → Int32 → Int32 → Int32 → fR Int32
  | 0, _, _, _, _ => none
  | F + 1, m, y1, y2, y3 => fb_X6_sellingOn_25  (f_X6_sellingOn_25  F) m y1 y2 y3
theorem jb_X6_sellingOn_25 (K25 : mM → Int32 → Int32 → Int32 → fR Int32) (hK25 : ∀ (m : mM) (y1 : Int32) (y2 : Int32) (y3 : Int32) , JF true uI m_X6_sellingOn 6 25 [(0, .ref 0), (1, .int y1), (2, .int y2), (3, .int y3)] [] m (K25 m y1 y2 y3)) (m : mM) (y1 : Int32) (y2 : Int32) (y3 : Int32)  : JF true uI m_X6_sellingOn 6 25 [(0, .ref 0), (1, .int y1), (2, .int y2), (3, .int y3)] [] m (fb_X6_sellingOn_25 K25 m y1 y2 y3) := by
  unfold fb_X6_sellingOn_25
  refine F_iload_n (i := 3) (a := 3) rfl rfl (dk_X6_sellingOn 25 _ rfl) ?_
  refine F_aload_n (i := 0) (a := 0) rfl rfl (dk_X6_sellingOn 26 _ rfl) ?_
  refine F_gR (b := 14) fxX_6_0_0 fl_6_47 (dk_X6_sellingOn 27 _ rfl) ?_
  refine F_gI (n := 896) fxX_2_0_14 rfl fl_6_71 (dk_X6_sellingOn 30 _ rfl) ?_
  refine F_icmp_ge (tgt := 61) (by decide) (dk_X6_sellingOn 33 _ rfl) ?_ ?_
  · refine F_iload_n (i := 2) (a := 2) rfl rfl (dk_X6_sellingOn 61 _ rfl) ?_
    exact F_ret rfl (dk_X6_sellingOn 62 _ rfl)
  · refine F_aload_n (i := 0) (a := 0) rfl rfl (dk_X6_sellingOn 36 _ rfl) ?_
    refine F_gR (b := 41) fxX_6_4_0 fl_6_62 (dk_X6_sellingOn 37 _ rfl) ?_
    refine F_gR (b := 44) fxX_1_7_41 fl_6_94 (dk_X6_sellingOn 40 _ rfl) ?_
    refine F_iload_n (i := 3) (a := 3) rfl rfl (dk_X6_sellingOn 43 _ rfl) ?_
    refine F_iald (axX_0_44) (dk_X6_sellingOn 44 _ rfl) (fun x5 => ?_)
    refine F_iload_n (i := 1) (a := 1) rfl rfl (dk_X6_sellingOn 45 _ rfl) ?_
    refine F_icmp_ne (tgt := 55) (by decide) (dk_X6_sellingOn 46 _ rfl) ?_ ?_
    · refine F_iinc (i := 3) (n := 1) (v := (y3 + 1)) (lv' := [(3, .int (y3 + 1)), (0, .ref 0), (1, .int y1), (2, .int y2)]) rfl (by first | rfl | decide) (by decide) rfl (dk_X6_sellingOn 55 _ rfl) ?_
      refine F_goto (tgt := 25) (by decide) (dk_X6_sellingOn 58 _ rfl) ?_
      exact F_loc (List.forall_mem_cons.mpr ⟨(.tail _ (.head _)), (List.forall_mem_cons.mpr ⟨(.tail _ (.tail _ (.head _))), (List.forall_mem_cons.mpr ⟨(.tail _ (.tail _ (.tail _ (.head _)))), (List.forall_mem_cons.mpr ⟨(.head _), (fun _ z => absurd z List.not_mem_nil)⟩)⟩)⟩)⟩) (hK25 _ _ _ _ )
    · refine F_iload_n (i := 2) (a := 2) rfl rfl (dk_X6_sellingOn 49 _ rfl) ?_
      refine F_iconst (v := 1) (by decide) (dk_X6_sellingOn 50 _ rfl) ?_
      refine F_iload_n (i := 3) (a := 3) rfl rfl (dk_X6_sellingOn 51 _ rfl) ?_
      refine F_ishl (dk_X6_sellingOn 52 _ rfl) ?_
      refine F_ior (dk_X6_sellingOn 53 _ rfl) ?_
      refine F_nm (fun v6 => ?_)
      refine F_istore_n (lv' := [(2, .int v6), (0, .ref 0), (1, .int y1), (3, .int y3)]) (i := 2) (a := 2) rfl (by decide) rfl (dk_X6_sellingOn 54 _ rfl) ?_
      refine F_iinc (i := 3) (n := 1) (v := (y3 + 1)) (lv' := [(3, .int (y3 + 1)), (2, .int v6), (0, .ref 0), (1, .int y1)]) rfl (by first | rfl | decide) (by decide) rfl (dk_X6_sellingOn 55 _ rfl) ?_
      refine F_goto (tgt := 25) (by decide) (dk_X6_sellingOn 58 _ rfl) ?_
      exact F_loc (List.forall_mem_cons.mpr ⟨(.tail _ (.tail _ (.head _))), (List.forall_mem_cons.mpr ⟨(.tail _ (.tail _ (.tail _ (.head _)))), (List.forall_mem_cons.mpr ⟨(.tail _ (.head _)), (List.forall_mem_cons.mpr ⟨(.head _), (fun _ z => absurd z List.not_mem_nil)⟩)⟩)⟩)⟩) (hK25 _ _ _ _ )
theorem j_X6_sellingOn_25   : ∀ (F : Nat) (m : mM) (y1 : Int32) (y2 : Int32) (y3 : Int32) , JF true uI m_X6_sellingOn 6 25 [(0, .ref 0), (1, .int y1), (2, .int y2), (3, .int y3)] [] m (f_X6_sellingOn_25  F m y1 y2 y3) := by
  intro F
  induction F with
  | zero => intro m y1 y2 y3 ; exact F_no
  | succ F ih => intro m y1 y2 y3 ; exact jb_X6_sellingOn_25  (f_X6_sellingOn_25  F)  ih m y1 y2 y3 
def f_X6_sellingOn (m : mM) (p1 : Int32) : fR Int32 :=
  chR true 5 (mR m 900) fun r1 => bnd (f_X1_start m 14 ((mI m (64 * r1 + 0)))) fun (x2 : Unit) (m3 : mM) => (f_X6_sellingOn_25  1000 m3 p1 0 0)
theorem c_X6_sellingOn (m : mM) (p1 : Int32)  : cF true uI m_X6_sellingOn 6 [.ref 0, .int p1] m (f_X6_sellingOn m p1) := by
  refine cF_of ok_X6_sellingOn (fun _ _ => Nat.le_of_ble_eq_true rfl) ?_
  unfold f_X6_sellingOn
  show JF _ _ _ _ _ [(0, .ref 0), (1, .int p1)] _ _ _
  refine F_aload_n (i := 0) (a := 0) rfl rfl (dk_X6_sellingOn 0 _ rfl) ?_
  refine F_gR (b := 41) fxX_6_4_0 fl_6_62 (dk_X6_sellingOn 1 _ rfl) ?_
  refine F_aload_n (i := 0) (a := 0) rfl rfl (dk_X6_sellingOn 4 _ rfl) ?_
  refine F_gR (b := 14) fxX_6_0_0 fl_6_47 (dk_X6_sellingOn 5 _ rfl) ?_
  refine F_aload_n (i := 0) (a := 0) rfl rfl (dk_X6_sellingOn 8 _ rfl) ?_
  refine F_gR (b := 14) fxX_6_0_0 fl_6_47 (dk_X6_sellingOn 9 _ rfl) ?_
  refine F_gV (n := 900) fxX_2_4_14 rfl fl_6_83 (dk_X6_sellingOn 12 _ rfl) ?_
  refine F_ch (fun r1 hr1 => ?_)
  refine F_gI (n := (64 * r1 + 0)) (lyT_0 hr1) rfl fl_6_87 (dk_X6_sellingOn 15 _ rfl) ?_
  refine F_callV (ι' := uU) (ci := 1) (b := 41) (As := [.ref 14, .int (mI m (64 * r1 + 0))]) (d' := 5) (rfl) ok_X1_start vi_X1_start cl_6_90 (n := 2) (by decide +kernel) rfl rfl rfl (Nat.le_of_ble_eq_true rfl) (by omega) (dk_X6_sellingOn 18 _ rfl) (c_X1_start _ _ _ (rfl)) (fun x2 m3 => ?_)
  show JF _ _ _ _ _ _ [] _ _
  refine F_iconst (v := 0) (by decide) (dk_X6_sellingOn 21 _ rfl) ?_
  refine F_istore_n (lv' := [(2, .int 0), (0, .ref 0), (1, .int p1)]) (i := 2) (a := 2) rfl (by decide) rfl (dk_X6_sellingOn 22 _ rfl) ?_
  refine F_iconst (v := 0) (by decide) (dk_X6_sellingOn 23 _ rfl) ?_
  refine F_istore_n (lv' := [(3, .int 0), (2, .int 0), (0, .ref 0), (1, .int p1)]) (i := 3) (a := 3) rfl (by decide) rfl (dk_X6_sellingOn 24 _ rfl) ?_
  exact F_loc (List.forall_mem_cons.mpr ⟨(.tail _ (.tail _ (.head _))), (List.forall_mem_cons.mpr ⟨(.tail _ (.tail _ (.tail _ (.head _)))), (List.forall_mem_cons.mpr ⟨(.tail _ (.head _)), (List.forall_mem_cons.mpr ⟨(.head _), (fun _ z => absurd z List.not_mem_nil)⟩)⟩)⟩)⟩) (j_X6_sellingOn_25   1000 _ _ _ _ )
def fb_X6_allPurses_4 (K4 : mM → Int32 → Int32 → fR Int32) (m : mM) (y1 : Int32) (y2 : Int32) : fR Int32 :=
  (if (mI m 896) ≤ y2 then some (y1, m) else (gA (mA m 19) y2).bind fun x1 => nmI (y1 + x1) fun v2 => (K4 m v2 (y2 + 1)))
def f_X6_allPurses_4  : Nat → mM → Int32 → Int32 → fR Int32
  | 0, _, _, _ => none
  | F + 1, m, y1, y2 => fb_X6_allPurses_4  (f_X6_allPurses_4  F) m y1 y2
theorem jb_X6_allPurses_4 (K4 : mM → Int32 → Int32 → fR Int32) (hK4 : ∀ (m : mM) (y1 : Int32) (y2 : Int32) , JF true uI m_X6_allPurses 2 4 [(0, .ref 0), (1, .int y1), (2, .int y2)] [] m (K4 m y1 y2)) (m : mM) (y1 : Int32) (y2 : Int32)  : JF true uI m_X6_allPurses 2 4 [(0, .ref 0), (1, .int y1), (2, .int y2)] [] m (fb_X6_allPurses_4 K4 m y1 y2) := by
  unfold fb_X6_allPurses_4
  refine F_iload_n (i := 2) (a := 2) rfl rfl (dk_X6_allPurses 4 _ rfl) ?_
  refine F_aload_n (i := 0) (a := 0) rfl rfl (dk_X6_allPurses 5 _ rfl) ?_
  refine F_gR (b := 14) fxX_6_0_0 fl_6_47 (dk_X6_allPurses 6 _ rfl) ?_
  refine F_gI (n := 896) fxX_2_0_14 rfl fl_6_71 (dk_X6_allPurses 9 _ rfl) ?_
  refine F_icmp_ge (tgt := 33) (by decide) (dk_X6_allPurses 12 _ rfl) ?_ ?_
  · refine F_iload_n (i := 1) (a := 1) rfl rfl (dk_X6_allPurses 33 _ rfl) ?_
    exact F_ret rfl (dk_X6_allPurses 34 _ rfl)
  · refine F_iload_n (i := 1) (a := 1) rfl rfl (dk_X6_allPurses 15 _ rfl) ?_
    refine F_aload_n (i := 0) (a := 0) rfl rfl (dk_X6_allPurses 16 _ rfl) ?_
    refine F_gR (b := 14) fxX_6_0_0 fl_6_47 (dk_X6_allPurses 17 _ rfl) ?_
    refine F_gR (b := 19) fxX_2_9_14 fl_6_121 (dk_X6_allPurses 20 _ rfl) ?_
    refine F_iload_n (i := 2) (a := 2) rfl rfl (dk_X6_allPurses 23 _ rfl) ?_
    refine F_iald (axX_0_19) (dk_X6_allPurses 24 _ rfl) (fun x1 => ?_)
    refine F_iadd (dk_X6_allPurses 25 _ rfl) ?_
    refine F_nm (fun v2 => ?_)
    refine F_istore_n (lv' := [(1, .int v2), (0, .ref 0), (2, .int y2)]) (i := 1) (a := 1) rfl (by decide) rfl (dk_X6_allPurses 26 _ rfl) ?_
    refine F_iinc (i := 2) (n := 1) (v := (y2 + 1)) (lv' := [(2, .int (y2 + 1)), (1, .int v2), (0, .ref 0)]) rfl (by first | rfl | decide) (by decide) rfl (dk_X6_allPurses 27 _ rfl) ?_
    refine F_goto (tgt := 4) (by decide) (dk_X6_allPurses 30 _ rfl) ?_
    exact F_loc (List.forall_mem_cons.mpr ⟨(.tail _ (.tail _ (.head _))), (List.forall_mem_cons.mpr ⟨(.tail _ (.head _)), (List.forall_mem_cons.mpr ⟨(.head _), (fun _ z => absurd z List.not_mem_nil)⟩)⟩)⟩) (hK4 _ _ _ )
theorem j_X6_allPurses_4   : ∀ (F : Nat) (m : mM) (y1 : Int32) (y2 : Int32) , JF true uI m_X6_allPurses 2 4 [(0, .ref 0), (1, .int y1), (2, .int y2)] [] m (f_X6_allPurses_4  F m y1 y2) := by
  intro F
  induction F with
  | zero => intro m y1 y2 ; exact F_no
  | succ F ih => intro m y1 y2 ; exact jb_X6_allPurses_4  (f_X6_allPurses_4  F)  ih m y1 y2 
def f_X6_allPurses (m : mM)  : fR Int32 :=
  (f_X6_allPurses_4  1000 m 0 0)
theorem c_X6_allPurses (m : mM)   : cF true uI m_X6_allPurses 2 [.ref 0] m (f_X6_allPurses m ) := by
  refine cF_of ok_X6_allPurses (fun _ _ => Nat.le_of_ble_eq_true rfl) ?_
  unfold f_X6_allPurses
  show JF _ _ _ _ _ [(0, .ref 0)] _ _ _
  refine F_iconst (v := 0) (by decide) (dk_X6_allPurses 0 _ rfl) ?_
  refine F_istore_n (lv' := [(1, .int 0), (0, .ref 0)]) (i := 1) (a := 1) rfl (by decide) rfl (dk_X6_allPurses 1 _ rfl) ?_
  refine F_iconst (v := 0) (by decide) (dk_X6_allPurses 2 _ rfl) ?_
  refine F_istore_n (lv' := [(2, .int 0), (1, .int 0), (0, .ref 0)]) (i := 2) (a := 2) rfl (by decide) rfl (dk_X6_allPurses 3 _ rfl) ?_
  exact F_loc (List.forall_mem_cons.mpr ⟨(.tail _ (.tail _ (.head _))), (List.forall_mem_cons.mpr ⟨(.tail _ (.head _)), (List.forall_mem_cons.mpr ⟨(.head _), (fun _ z => absurd z List.not_mem_nil)⟩)⟩)⟩) (j_X6_allPurses_4   1000 _ _ _ )
def f_X6_told_42  (m : mM) (y1 : Int32) : fR Int32 :=
  (if y1 = 0 then chR true 5 (mR m 900) fun r2 => some ((mI m (64 * r2 + 0)), m) else if y1 = 1 then chR true 5 (mR m 900) fun r3 => some ((mI m (64 * r3 + 1)), m) else if y1 = 2 then chR true 5 (mR m 900) fun r4 => some ((mI m (64 * r4 + 2)), m) else if y1 = 3 then some ((mI m 897), m) else if y1 = 4 then some ((mI m 898), m) else if y1 = 5 then bnd (f_X6_allPurses m ) fun (x5 : Int32) (m6 : mM) => some (x5, m6) else some ((-10000001), m))
theorem j_X6_told_42   (m : mM) (y1 : Int32)  : JF true uI m_X6_told 7 42 [(0, .ref 0), (1, .int y1)] [] m (f_X6_told_42  m y1) := by
  unfold f_X6_told_42
  refine F_iload_n (i := 1) (a := 1) rfl rfl (dk_X6_told 42 _ rfl) ?_
  refine F_case (fun c1_0 => ?_) (fun c1_0 => ?_)
  · rw [c1_0]; refine F_tin (off := 37) (tgt := 80) (by decide) (by decide) rfl (by decide) (dk_X6_told 43 _ rfl) ?_
    refine F_aload_n (i := 0) (a := 0) rfl rfl (dk_X6_told 80 _ rfl) ?_
    refine F_gR (b := 14) fxX_6_0_0 fl_6_47 (dk_X6_told 81 _ rfl) ?_
    refine F_gV (n := 900) fxX_2_4_14 rfl fl_6_83 (dk_X6_told 84 _ rfl) ?_
    refine F_ch (fun r2 hr2 => ?_)
    refine F_gI (n := (64 * r2 + 0)) (lyT_0 hr2) rfl fl_6_87 (dk_X6_told 87 _ rfl) ?_
    exact F_ret rfl (dk_X6_told 90 _ rfl)
  refine F_case (fun c1_1 => ?_) (fun c1_1 => ?_)
  · rw [c1_1]; refine F_tin (off := 48) (tgt := 91) (by decide) (by decide) rfl (by decide) (dk_X6_told 43 _ rfl) ?_
    refine F_aload_n (i := 0) (a := 0) rfl rfl (dk_X6_told 91 _ rfl) ?_
    refine F_gR (b := 14) fxX_6_0_0 fl_6_47 (dk_X6_told 92 _ rfl) ?_
    refine F_gV (n := 900) fxX_2_4_14 rfl fl_6_83 (dk_X6_told 95 _ rfl) ?_
    refine F_ch (fun r3 hr3 => ?_)
    refine F_gI (n := (64 * r3 + 1)) (lyT_1 hr3) rfl fl_6_150 (dk_X6_told 98 _ rfl) ?_
    exact F_ret rfl (dk_X6_told 101 _ rfl)
  refine F_case (fun c1_2 => ?_) (fun c1_2 => ?_)
  · rw [c1_2]; refine F_tin (off := 59) (tgt := 102) (by decide) (by decide) rfl (by decide) (dk_X6_told 43 _ rfl) ?_
    refine F_aload_n (i := 0) (a := 0) rfl rfl (dk_X6_told 102 _ rfl) ?_
    refine F_gR (b := 14) fxX_6_0_0 fl_6_47 (dk_X6_told 103 _ rfl) ?_
    refine F_gV (n := 900) fxX_2_4_14 rfl fl_6_83 (dk_X6_told 106 _ rfl) ?_
    refine F_ch (fun r4 hr4 => ?_)
    refine F_gI (n := (64 * r4 + 2)) (lyT_2 hr4) rfl fl_6_153 (dk_X6_told 109 _ rfl) ?_
    exact F_ret rfl (dk_X6_told 112 _ rfl)
  refine F_case (fun c1_3 => ?_) (fun c1_3 => ?_)
  · rw [c1_3]; refine F_tin (off := 70) (tgt := 113) (by decide) (by decide) rfl (by decide) (dk_X6_told 43 _ rfl) ?_
    refine F_aload_n (i := 0) (a := 0) rfl rfl (dk_X6_told 113 _ rfl) ?_
    refine F_gR (b := 14) fxX_6_0_0 fl_6_47 (dk_X6_told 114 _ rfl) ?_
    refine F_gI (n := 897) fxX_2_1_14 rfl fl_6_156 (dk_X6_told 117 _ rfl) ?_
    exact F_ret rfl (dk_X6_told 120 _ rfl)
  refine F_case (fun c1_4 => ?_) (fun c1_4 => ?_)
  · rw [c1_4]; refine F_tin (off := 78) (tgt := 121) (by decide) (by decide) rfl (by decide) (dk_X6_told 43 _ rfl) ?_
    refine F_aload_n (i := 0) (a := 0) rfl rfl (dk_X6_told 121 _ rfl) ?_
    refine F_gR (b := 14) fxX_6_0_0 fl_6_47 (dk_X6_told 122 _ rfl) ?_
    refine F_gI (n := 898) fxX_2_2_14 rfl fl_6_159 (dk_X6_told 125 _ rfl) ?_
    exact F_ret rfl (dk_X6_told 128 _ rfl)
  refine F_case (fun c1_5 => ?_) (fun c1_5 => ?_)
  · rw [c1_5]; refine F_tin (off := 86) (tgt := 129) (by decide) (by decide) rfl (by decide) (dk_X6_told 43 _ rfl) ?_
    refine F_aload_n (i := 0) (a := 0) rfl rfl (dk_X6_told 129 _ rfl) ?_
    refine F_callV (ι' := uI) (ci := 6) (b := 0) (As := []) (d' := 2) (rfl) ok_X6_allPurses vi_X6_allPurses cl_6_162 (n := 0) (by decide +kernel) rfl rfl rfl (Nat.le_of_ble_eq_true rfl) (by omega) (dk_X6_told 130 _ rfl) (c_X6_allPurses _  ) (fun x5 m6 => ?_)
    show JF _ _ _ _ _ _ [.int x5] _ _
    exact F_ret rfl (dk_X6_told 133 _ rfl)
  refine F_tout (tgt := 134) (by have q0 := fI_ne c1_0; rw [show (0 : Int32).toInt = 0 from by decide] at q0; have q1 := fI_ne c1_1; rw [show (1 : Int32).toInt = 1 from by decide] at q1; have q2 := fI_ne c1_2; rw [show (2 : Int32).toInt = 2 from by decide] at q2; have q3 := fI_ne c1_3; rw [show (3 : Int32).toInt = 3 from by decide] at q3; have q4 := fI_ne c1_4; rw [show (4 : Int32).toInt = 4 from by decide] at q4; have q5 := fI_ne c1_5; rw [show (5 : Int32).toInt = 5 from by decide] at q5; omega) (by decide) (dk_X6_told 43 _ rfl) ?_
  refine F_ldc (v := (-10000001)) ct_6_82 (dk_X6_told 134 _ rfl) ?_
  exact F_ret rfl (dk_X6_told 136 _ rfl)
def f_X6_told_21  (m : mM) (y1 : Int32) : fR Int32 :=
  (if y1 < 30 then (f_X6_told_42  m y1) else (if 42 ≤ y1 then (f_X6_told_42  m y1) else bnd (f_X6_sellingOn m (y1 - 30)) fun (x8 : Int32) (m9 : mM) => some (x8, m9)))
theorem j_X6_told_21   (m : mM) (y1 : Int32)  : JF true uI m_X6_told 7 21 [(0, .ref 0), (1, .int y1)] [] m (f_X6_told_21  m y1) := by
  unfold f_X6_told_21
  refine F_iload_n (i := 1) (a := 1) rfl rfl (dk_X6_told 21 _ rfl) ?_
  refine F_bipush (v := 30) (by decide) (dk_X6_told 22 _ rfl) ?_
  refine F_icmp_lt (tgt := 42) (by decide) (dk_X6_told 24 _ rfl) ?_ ?_
  · exact F_loc (fun _ z => z) (j_X6_told_42   _ _ )
  · refine F_iload_n (i := 1) (a := 1) rfl rfl (dk_X6_told 27 _ rfl) ?_
    refine F_bipush (v := 42) (by decide) (dk_X6_told 28 _ rfl) ?_
    refine F_icmp_ge (tgt := 42) (by decide) (dk_X6_told 30 _ rfl) ?_ ?_
    · exact F_loc (fun _ z => z) (j_X6_told_42   _ _ )
    · refine F_aload_n (i := 0) (a := 0) rfl rfl (dk_X6_told 33 _ rfl) ?_
      refine F_iload_n (i := 1) (a := 1) rfl rfl (dk_X6_told 34 _ rfl) ?_
      refine F_bipush (v := 30) (by decide) (dk_X6_told 35 _ rfl) ?_
      refine F_isub (dk_X6_told 37 _ rfl) ?_
      refine F_callV (ι' := uI) (ci := 6) (b := 0) (As := [.int (y1 - 30)]) (d' := 6) (rfl) ok_X6_sellingOn vi_X6_sellingOn cl_6_147 (n := 1) (by decide +kernel) rfl rfl rfl (Nat.le_of_ble_eq_true rfl) (by omega) (dk_X6_told 38 _ rfl) (c_X6_sellingOn _ _ ) (fun x8 m9 => ?_)
      show JF _ _ _ _ _ _ [.int x8] _ _
      exact F_ret rfl (dk_X6_told 41 _ rfl)
def f_X6_told (m : mM) (p1 : Int32) : fR Int32 :=
  (if p1 < 10 then (f_X6_told_21  m p1) else (if 22 ≤ p1 then (f_X6_told_21  m p1) else bnd (f_X6_bornOn m (p1 - 10)) fun (x11 : Int32) (m12 : mM) => some (x11, m12)))
theorem c_X6_told (m : mM) (p1 : Int32)  : cF true uI m_X6_told 7 [.ref 0, .int p1] m (f_X6_told m p1) := by
  refine cF_of ok_X6_told (fun _ _ => Nat.le_of_ble_eq_true rfl) ?_
  unfold f_X6_told
  show JF _ _ _ _ _ [(0, .ref 0), (1, .int p1)] _ _ _
  refine F_iload_n (i := 1) (a := 1) rfl rfl (dk_X6_told 0 _ rfl) ?_
  refine F_bipush (v := 10) (by decide) (dk_X6_told 1 _ rfl) ?_
  refine F_icmp_lt (tgt := 21) (by decide) (dk_X6_told 3 _ rfl) ?_ ?_
  · exact F_loc (fun _ z => z) (j_X6_told_21   _ _ )
  · refine F_iload_n (i := 1) (a := 1) rfl rfl (dk_X6_told 6 _ rfl) ?_
    refine F_bipush (v := 22) (by decide) (dk_X6_told 7 _ rfl) ?_
    refine F_icmp_ge (tgt := 21) (by decide) (dk_X6_told 9 _ rfl) ?_ ?_
    · exact F_loc (fun _ z => z) (j_X6_told_21   _ _ )
    · refine F_aload_n (i := 0) (a := 0) rfl rfl (dk_X6_told 12 _ rfl) ?_
      refine F_iload_n (i := 1) (a := 1) rfl rfl (dk_X6_told 13 _ rfl) ?_
      refine F_bipush (v := 10) (by decide) (dk_X6_told 14 _ rfl) ?_
      refine F_isub (dk_X6_told 16 _ rfl) ?_
      refine F_callV (ι' := uI) (ci := 6) (b := 0) (As := [.int (p1 - 10)]) (d' := 2) (rfl) ok_X6_bornOn vi_X6_bornOn cl_6_144 (n := 1) (by decide +kernel) rfl rfl rfl (Nat.le_of_ble_eq_true rfl) (by omega) (dk_X6_told 17 _ rfl) (c_X6_bornOn _ _ ) (fun x11 m12 => ?_)
      show JF _ _ _ _ _ _ [.int x11] _ _
      exact F_ret rfl (dk_X6_told 20 _ rfl)
def fb_X6_day_59 (K59 : mM → Int32 → fR Int32) (m : mM) (y1 : Int32) : fR Int32 :=
  (if (mI m 896) ≤ y1 then nmM (wI m 897 (mI m 2626)) fun m8 => nmM (wI m8 898 (mI m8 2627)) fun m9 => some ((mI m9 2628), m9) else (gA (mA m 19) y1).bind fun x10 => (gA (mA m 42) y1).bind fun x11 => (sA 0 m 19 y1 (x10 + x11)).bind fun m12 => (K59 m12 (y1 + 1)))
def f_X6_day_59  : Nat → mM → Int32 → fR Int32
  | 0, _, _ => none
  | F + 1, m, y1 => fb_X6_day_59  (f_X6_day_59  F) m y1
theorem jb_X6_day_59 (K59 : mM → Int32 → fR Int32) (hK59 : ∀ (m : mM) (y1 : Int32) , JF true uI m_X6_day 7 59 [(0, .ref 0), (1, .int y1)] [] m (K59 m y1)) (m : mM) (y1 : Int32)  : JF true uI m_X6_day 7 59 [(0, .ref 0), (1, .int y1)] [] m (fb_X6_day_59 K59 m y1) := by
  unfold fb_X6_day_59
  refine F_iload_n (i := 1) (a := 1) rfl rfl (dk_X6_day 59 _ rfl) ?_
  refine F_aload_n (i := 0) (a := 0) rfl rfl (dk_X6_day 60 _ rfl) ?_
  refine F_gR (b := 14) fxX_6_0_0 fl_6_47 (dk_X6_day 61 _ rfl) ?_
  refine F_gI (n := 896) fxX_2_0_14 rfl fl_6_71 (dk_X6_day 64 _ rfl) ?_
  refine F_icmp_ge (tgt := 97) (by decide) (dk_X6_day 67 _ rfl) ?_ ?_
  · refine F_aload_n (i := 0) (a := 0) rfl rfl (dk_X6_day 97 _ rfl) ?_
    refine F_gR (b := 14) fxX_6_0_0 fl_6_47 (dk_X6_day 98 _ rfl) ?_
    refine F_aload_n (i := 0) (a := 0) rfl rfl (dk_X6_day 101 _ rfl) ?_
    refine F_gR (b := 41) fxX_6_4_0 fl_6_62 (dk_X6_day 102 _ rfl) ?_
    refine F_gI (n := 2626) fxX_1_2_41 rfl fl_6_173 (dk_X6_day 105 _ rfl) ?_
    refine F_pI (n := 897) fxX_2_1_14 rfl fl_6_156 (fun q hq => by cases hq; rfl) trivial (dk_X6_day 108 _ rfl) (fun m8 => ?_)
    refine F_aload_n (i := 0) (a := 0) rfl rfl (dk_X6_day 111 _ rfl) ?_
    refine F_gR (b := 14) fxX_6_0_0 fl_6_47 (dk_X6_day 112 _ rfl) ?_
    refine F_aload_n (i := 0) (a := 0) rfl rfl (dk_X6_day 115 _ rfl) ?_
    refine F_gR (b := 41) fxX_6_4_0 fl_6_62 (dk_X6_day 116 _ rfl) ?_
    refine F_gI (n := 2627) fxX_1_3_41 rfl fl_6_174 (dk_X6_day 119 _ rfl) ?_
    refine F_pI (n := 898) fxX_2_2_14 rfl fl_6_159 (fun q hq => by cases hq; rfl) trivial (dk_X6_day 122 _ rfl) (fun m9 => ?_)
    refine F_aload_n (i := 0) (a := 0) rfl rfl (dk_X6_day 125 _ rfl) ?_
    refine F_gR (b := 41) fxX_6_4_0 fl_6_62 (dk_X6_day 126 _ rfl) ?_
    refine F_gI (n := 2628) fxX_1_4_41 rfl fl_6_175 (dk_X6_day 129 _ rfl) ?_
    exact F_ret rfl (dk_X6_day 132 _ rfl)
  · refine F_aload_n (i := 0) (a := 0) rfl rfl (dk_X6_day 70 _ rfl) ?_
    refine F_gR (b := 14) fxX_6_0_0 fl_6_47 (dk_X6_day 71 _ rfl) ?_
    refine F_gR (b := 19) fxX_2_9_14 fl_6_121 (dk_X6_day 74 _ rfl) ?_
    refine F_iload_n (i := 1) (a := 1) rfl rfl (dk_X6_day 77 _ rfl) ?_
    refine F_dup2 rfl rfl (dk_X6_day 78 _ rfl) ?_
    refine F_iald (axX_0_19) (dk_X6_day 79 _ rfl) (fun x10 => ?_)
    refine F_aload_n (i := 0) (a := 0) rfl rfl (dk_X6_day 80 _ rfl) ?_
    refine F_gR (b := 41) fxX_6_4_0 fl_6_62 (dk_X6_day 81 _ rfl) ?_
    refine F_gR (b := 42) fxX_1_5_41 fl_6_170 (dk_X6_day 84 _ rfl) ?_
    refine F_iload_n (i := 1) (a := 1) rfl rfl (dk_X6_day 87 _ rfl) ?_
    refine F_iald (axX_0_42) (dk_X6_day 88 _ rfl) (fun x11 => ?_)
    refine F_iadd (dk_X6_day 89 _ rfl) ?_
    refine F_iast (axX_0_19) (dk_X6_day 90 _ rfl) (fun m12 => ?_)
    refine F_iinc (i := 1) (n := 1) (v := (y1 + 1)) (lv' := [(1, .int (y1 + 1)), (0, .ref 0)]) rfl (by first | rfl | decide) (by decide) rfl (dk_X6_day 91 _ rfl) ?_
    refine F_goto (tgt := 59) (by decide) (dk_X6_day 94 _ rfl) ?_
    exact F_loc (List.forall_mem_cons.mpr ⟨(.tail _ (.head _)), (List.forall_mem_cons.mpr ⟨(.head _), (fun _ z => absurd z List.not_mem_nil)⟩)⟩) (hK59 _ _ )
theorem j_X6_day_59   : ∀ (F : Nat) (m : mM) (y1 : Int32) , JF true uI m_X6_day 7 59 [(0, .ref 0), (1, .int y1)] [] m (f_X6_day_59  F m y1) := by
  intro F
  induction F with
  | zero => intro m y1 ; exact F_no
  | succ F ih => intro m y1 ; exact jb_X6_day_59  (f_X6_day_59  F)  ih m y1 
def f_X6_day_28  (m : mM)  : fR Int32 :=
  chR true 5 (mR m 900) fun r1 => bnd (f_X1_start m 14 ((mI m (64 * r1 + 0)))) fun (x2 : Unit) (m3 : mM) => bnd (f_X1_go m3 1) fun (x5 : Unit) (m6 : mM) => (f_X6_day_59  1000 m6 0)
theorem j_X6_day_28   (m : mM)   : JF true uI m_X6_day 7 28 [(0, .ref 0)] [] m (f_X6_day_28  m ) := by
  unfold f_X6_day_28
  refine F_aload_n (i := 0) (a := 0) rfl rfl (dk_X6_day 28 _ rfl) ?_
  refine F_gR (b := 41) fxX_6_4_0 fl_6_62 (dk_X6_day 29 _ rfl) ?_
  refine F_aload_n (i := 0) (a := 0) rfl rfl (dk_X6_day 32 _ rfl) ?_
  refine F_gR (b := 14) fxX_6_0_0 fl_6_47 (dk_X6_day 33 _ rfl) ?_
  refine F_aload_n (i := 0) (a := 0) rfl rfl (dk_X6_day 36 _ rfl) ?_
  refine F_gR (b := 14) fxX_6_0_0 fl_6_47 (dk_X6_day 37 _ rfl) ?_
  refine F_gV (n := 900) fxX_2_4_14 rfl fl_6_83 (dk_X6_day 40 _ rfl) ?_
  refine F_ch (fun r1 hr1 => ?_)
  refine F_gI (n := (64 * r1 + 0)) (lyT_0 hr1) rfl fl_6_87 (dk_X6_day 43 _ rfl) ?_
  refine F_callV (ι' := uU) (ci := 1) (b := 41) (As := [.ref 14, .int (mI m (64 * r1 + 0))]) (d' := 5) (rfl) ok_X1_start vi_X1_start cl_6_90 (n := 2) (by decide +kernel) rfl rfl rfl (Nat.le_of_ble_eq_true rfl) (by omega) (dk_X6_day 46 _ rfl) (c_X1_start _ _ _ (rfl)) (fun x2 m3 => ?_)
  show JF _ _ _ _ _ _ [] _ _
  refine F_aload_n (i := 0) (a := 0) rfl rfl (dk_X6_day 49 _ rfl) ?_
  refine F_gR (b := 41) fxX_6_4_0 fl_6_62 (dk_X6_day 50 _ rfl) ?_
  refine F_iconst (v := 1) (by decide) (dk_X6_day 53 _ rfl) ?_
  refine F_callV (ι' := uU) (ci := 1) (b := 41) (As := [.int 1]) (d' := 6) (rfl) ok_X1_go vi_X1_go cl_6_166 (n := 1) (by decide +kernel) rfl rfl rfl (Nat.le_of_ble_eq_true rfl) (by omega) (dk_X6_day 54 _ rfl) (c_X1_go _ _ ) (fun x5 m6 => ?_)
  show JF _ _ _ _ _ _ [] _ _
  refine F_iconst (v := 0) (by decide) (dk_X6_day 57 _ rfl) ?_
  refine F_istore_n (lv' := [(1, .int 0), (0, .ref 0)]) (i := 1) (a := 1) rfl (by decide) rfl (dk_X6_day 58 _ rfl) ?_
  exact F_loc (List.forall_mem_cons.mpr ⟨(.tail _ (.head _)), (List.forall_mem_cons.mpr ⟨(.head _), (fun _ z => absurd z List.not_mem_nil)⟩)⟩) (j_X6_day_59   1000 _ _ )
def f_X6_day (m : mM)  : fR Int32 :=
  (if (mI m 897) = 11 then (if (mI m 898) < 999 then (f_X6_day_28  m ) else some ((-3), m)) else (f_X6_day_28  m ))
theorem c_X6_day (m : mM)   : cF true uI m_X6_day 7 [.ref 0] m (f_X6_day m ) := by
  refine cF_of ok_X6_day (fun _ _ => Nat.le_of_ble_eq_true rfl) ?_
  unfold f_X6_day
  show JF _ _ _ _ _ [(0, .ref 0)] _ _ _
  refine F_aload_n (i := 0) (a := 0) rfl rfl (dk_X6_day 0 _ rfl) ?_
  refine F_gR (b := 14) fxX_6_0_0 fl_6_47 (dk_X6_day 1 _ rfl) ?_
  refine F_gI (n := 897) fxX_2_1_14 rfl fl_6_156 (dk_X6_day 4 _ rfl) ?_
  refine F_bipush (v := 11) (by decide) (dk_X6_day 7 _ rfl) ?_
  refine F_icmp_ne (tgt := 28) (by decide) (dk_X6_day 9 _ rfl) ?_ ?_
  · exact F_loc (fun _ z => z) (j_X6_day_28   _  )
  · refine F_aload_n (i := 0) (a := 0) rfl rfl (dk_X6_day 12 _ rfl) ?_
    refine F_gR (b := 14) fxX_6_0_0 fl_6_47 (dk_X6_day 13 _ rfl) ?_
    refine F_gI (n := 898) fxX_2_2_14 rfl fl_6_159 (dk_X6_day 16 _ rfl) ?_
    refine F_sipush (v := 999) (by decide) (dk_X6_day 19 _ rfl) ?_
    refine F_icmp_lt (tgt := 28) (by decide) (dk_X6_day 22 _ rfl) ?_ ?_
    · exact F_loc (fun _ z => z) (j_X6_day_28   _  )
    · refine F_bipush (v := (-3)) (by decide) (dk_X6_day 25 _ rfl) ?_
      exact F_ret rfl (dk_X6_day 27 _ rfl)
def f_X6_by (m : mM) (p1 : Int32) (p2 : Int32) (p3 : Int32) : fR Int32 :=
  bnd (f_X6_isPerson m p1) fun (x1 : Int32) (m2 : mM) => (if x1 = 0 then some ((-10000001), m2) else (if p3 < 0 then some ((-10000001), m2) else (if p3 ≤ 1 then (if p2 < 0 then some ((-10000002), m2) else (if p2 ≤ 60 then chR true 5 (mR m2 900) fun r4 => bnd (f_X1_start m2 14 ((mI m2 (64 * r4 + 0)))) fun (x5 : Unit) (m6 : mM) => bnd (f_X1_go m6 p2) fun (x8 : Unit) (m9 : mM) => (if p3 = 0 then (gA (mA m9 19) p1).bind fun x12 => (gA (mA m9 42) p1).bind fun x13 => some ((x12 + x13), m9) else (gA (mA m9 43) p1).bind fun x11 => some (x11, m9)) else some ((-10000002), m2))) else some ((-10000001), m2))))
theorem c_X6_by (m : mM) (p1 : Int32) (p2 : Int32) (p3 : Int32)  : cF true uI m_X6_by 7 [.ref 0, .int p1, .int p2, .int p3] m (f_X6_by m p1 p2 p3) := by
  refine cF_of ok_X6_by (fun _ _ => Nat.le_of_ble_eq_true rfl) ?_
  unfold f_X6_by
  show JF _ _ _ _ _ [(0, .ref 0), (1, .int p1), (2, .int p2), (3, .int p3)] _ _ _
  refine F_aload_n (i := 0) (a := 0) rfl rfl (dk_X6_by 0 _ rfl) ?_
  refine F_iload_n (i := 1) (a := 1) rfl rfl (dk_X6_by 1 _ rfl) ?_
  refine F_callV (ι' := uI) (ci := 6) (b := 0) (As := [.int p1]) (d' := 2) (rfl) ok_X6_isPerson vi_X6_isPerson cl_6_79 (n := 1) (by decide +kernel) rfl rfl rfl (Nat.le_of_ble_eq_true rfl) (by omega) (dk_X6_by 2 _ rfl) (c_X6_isPerson _ _ ) (fun x1 m2 => ?_)
  show JF _ _ _ _ _ _ [.int x1] _ _
  refine F_if_eq (tgt := 17) (by decide) (dk_X6_by 5 _ rfl) ?_ ?_
  · refine F_ldc (v := (-10000001)) ct_6_82 (dk_X6_by 17 _ rfl) ?_
    exact F_ret rfl (dk_X6_by 19 _ rfl)
  · refine F_iload_n (i := 3) (a := 3) rfl rfl (dk_X6_by 8 _ rfl) ?_
    refine F_if_lt (tgt := 17) (by decide) (dk_X6_by 9 _ rfl) ?_ ?_
    · refine F_ldc (v := (-10000001)) ct_6_82 (dk_X6_by 17 _ rfl) ?_
      exact F_ret rfl (dk_X6_by 19 _ rfl)
    · refine F_iload_n (i := 3) (a := 3) rfl rfl (dk_X6_by 12 _ rfl) ?_
      refine F_iconst (v := 1) (by decide) (dk_X6_by 13 _ rfl) ?_
      refine F_icmp_le (tgt := 20) (by decide) (dk_X6_by 14 _ rfl) ?_ ?_
      · refine F_iload_n (i := 2) (a := 2) rfl rfl (dk_X6_by 20 _ rfl) ?_
        refine F_if_lt (tgt := 30) (by decide) (dk_X6_by 21 _ rfl) ?_ ?_
        · refine F_ldc (v := (-10000002)) ct_6_178 (dk_X6_by 30 _ rfl) ?_
          exact F_ret rfl (dk_X6_by 32 _ rfl)
        · refine F_iload_n (i := 2) (a := 2) rfl rfl (dk_X6_by 24 _ rfl) ?_
          refine F_bipush (v := 60) (by decide) (dk_X6_by 25 _ rfl) ?_
          refine F_icmp_le (tgt := 33) (by decide) (dk_X6_by 27 _ rfl) ?_ ?_
          · refine F_aload_n (i := 0) (a := 0) rfl rfl (dk_X6_by 33 _ rfl) ?_
            refine F_gR (b := 41) fxX_6_4_0 fl_6_62 (dk_X6_by 34 _ rfl) ?_
            refine F_aload_n (i := 0) (a := 0) rfl rfl (dk_X6_by 37 _ rfl) ?_
            refine F_gR (b := 14) fxX_6_0_0 fl_6_47 (dk_X6_by 38 _ rfl) ?_
            refine F_aload_n (i := 0) (a := 0) rfl rfl (dk_X6_by 41 _ rfl) ?_
            refine F_gR (b := 14) fxX_6_0_0 fl_6_47 (dk_X6_by 42 _ rfl) ?_
            refine F_gV (n := 900) fxX_2_4_14 rfl fl_6_83 (dk_X6_by 45 _ rfl) ?_
            refine F_ch (fun r4 hr4 => ?_)
            refine F_gI (n := (64 * r4 + 0)) (lyT_0 hr4) rfl fl_6_87 (dk_X6_by 48 _ rfl) ?_
            refine F_callV (ι' := uU) (ci := 1) (b := 41) (As := [.ref 14, .int (mI m2 (64 * r4 + 0))]) (d' := 5) (rfl) ok_X1_start vi_X1_start cl_6_90 (n := 2) (by decide +kernel) rfl rfl rfl (Nat.le_of_ble_eq_true rfl) (by omega) (dk_X6_by 51 _ rfl) (c_X1_start _ _ _ (rfl)) (fun x5 m6 => ?_)
            show JF _ _ _ _ _ _ [] _ _
            refine F_aload_n (i := 0) (a := 0) rfl rfl (dk_X6_by 54 _ rfl) ?_
            refine F_gR (b := 41) fxX_6_4_0 fl_6_62 (dk_X6_by 55 _ rfl) ?_
            refine F_iload_n (i := 2) (a := 2) rfl rfl (dk_X6_by 58 _ rfl) ?_
            refine F_callV (ι' := uU) (ci := 1) (b := 41) (As := [.int p2]) (d' := 6) (rfl) ok_X1_go vi_X1_go cl_6_166 (n := 1) (by decide +kernel) rfl rfl rfl (Nat.le_of_ble_eq_true rfl) (by omega) (dk_X6_by 59 _ rfl) (c_X1_go _ _ ) (fun x8 m9 => ?_)
            show JF _ _ _ _ _ _ [] _ _
            refine F_iload_n (i := 3) (a := 3) rfl rfl (dk_X6_by 62 _ rfl) ?_
            refine F_if_ne (tgt := 88) (by decide) (dk_X6_by 63 _ rfl) ?_ ?_
            · refine F_aload_n (i := 0) (a := 0) rfl rfl (dk_X6_by 88 _ rfl) ?_
              refine F_gR (b := 41) fxX_6_4_0 fl_6_62 (dk_X6_by 89 _ rfl) ?_
              refine F_gR (b := 43) fxX_1_6_41 fl_6_179 (dk_X6_by 92 _ rfl) ?_
              refine F_iload_n (i := 1) (a := 1) rfl rfl (dk_X6_by 95 _ rfl) ?_
              refine F_iald (axX_0_43) (dk_X6_by 96 _ rfl) (fun x11 => ?_)
              exact F_ret rfl (dk_X6_by 97 _ rfl)
            · refine F_aload_n (i := 0) (a := 0) rfl rfl (dk_X6_by 66 _ rfl) ?_
              refine F_gR (b := 14) fxX_6_0_0 fl_6_47 (dk_X6_by 67 _ rfl) ?_
              refine F_gR (b := 19) fxX_2_9_14 fl_6_121 (dk_X6_by 70 _ rfl) ?_
              refine F_iload_n (i := 1) (a := 1) rfl rfl (dk_X6_by 73 _ rfl) ?_
              refine F_iald (axX_0_19) (dk_X6_by 74 _ rfl) (fun x12 => ?_)
              refine F_aload_n (i := 0) (a := 0) rfl rfl (dk_X6_by 75 _ rfl) ?_
              refine F_gR (b := 41) fxX_6_4_0 fl_6_62 (dk_X6_by 76 _ rfl) ?_
              refine F_gR (b := 42) fxX_1_5_41 fl_6_170 (dk_X6_by 79 _ rfl) ?_
              refine F_iload_n (i := 1) (a := 1) rfl rfl (dk_X6_by 82 _ rfl) ?_
              refine F_iald (axX_0_42) (dk_X6_by 83 _ rfl) (fun x13 => ?_)
              refine F_iadd (dk_X6_by 84 _ rfl) ?_
              refine F_goto (tgt := 97) (by decide) (dk_X6_by 85 _ rfl) ?_
              exact F_ret rfl (dk_X6_by 97 _ rfl)
          · refine F_ldc (v := (-10000002)) ct_6_178 (dk_X6_by 30 _ rfl) ?_
            exact F_ret rfl (dk_X6_by 32 _ rfl)
      · refine F_ldc (v := (-10000001)) ct_6_82 (dk_X6_by 17 _ rfl) ?_
        exact F_ret rfl (dk_X6_by 19 _ rfl)
def f_X6_goYear (m : mM) (a1 : Nat) (p2 : Int32) : fR Unit :=
  bnd (f_X1_start m a1 p2) fun (x1 : Unit) (m2 : mM) => bnd (f_X1_go m2 12) fun (x4 : Unit) (m5 : mM) => some ((), m5)
theorem c_X6_goYear (m : mM) (a1 : Nat) (p2 : Int32) (ha1 : isC true 2 a1 = true) : cF true uU m_X6_goYear 7 [.ref 0, .ref a1, .int p2] m (f_X6_goYear m a1 p2) := by
  refine cF_of ok_X6_goYear (fun _ _ => Nat.le_of_ble_eq_true rfl) ?_
  unfold f_X6_goYear
  show JF _ _ _ _ _ [(0, .ref 0), (1, .ref a1), (2, .int p2)] _ _ _
  refine F_aload_n (i := 0) (a := 0) rfl rfl (dk_X6_goYear 0 _ rfl) ?_
  refine F_gR (b := 41) fxX_6_4_0 fl_6_62 (dk_X6_goYear 1 _ rfl) ?_
  refine F_aload_n (i := 1) (a := 1) rfl rfl (dk_X6_goYear 4 _ rfl) ?_
  refine F_iload_n (i := 2) (a := 2) rfl rfl (dk_X6_goYear 5 _ rfl) ?_
  refine F_callV (ι' := uU) (ci := 1) (b := 41) (As := [.ref a1, .int p2]) (d' := 5) (rfl) ok_X1_start vi_X1_start cl_6_90 (n := 2) (by decide +kernel) rfl rfl rfl (Nat.le_of_ble_eq_true rfl) (by omega) (dk_X6_goYear 6 _ rfl) (c_X1_start _ _ _ (ha1)) (fun x1 m2 => ?_)
  show JF _ _ _ _ _ _ [] _ _
  refine F_aload_n (i := 0) (a := 0) rfl rfl (dk_X6_goYear 9 _ rfl) ?_
  refine F_gR (b := 41) fxX_6_4_0 fl_6_62 (dk_X6_goYear 10 _ rfl) ?_
  refine F_bipush (v := 12) (by decide) (dk_X6_goYear 13 _ rfl) ?_
  refine F_callV (ι' := uU) (ci := 1) (b := 41) (As := [.int 12]) (d' := 6) (rfl) ok_X1_go vi_X1_go cl_6_166 (n := 1) (by decide +kernel) rfl rfl rfl (Nat.le_of_ble_eq_true rfl) (by omega) (dk_X6_goYear 15 _ rfl) (c_X1_go _ _ ) (fun x4 m5 => ?_)
  show JF _ _ _ _ _ _ [] _ _
  exact F_retV rfl (dk_X6_goYear 18 _ rfl)
def f_X6_years (m : mM) (p1 : Int32) : fR Int32 :=
  bnd (f_X6_isPerson m p1) fun (x1 : Int32) (m2 : mM) => (if x1 = 0 then some ((-10000001), m2) else chR true 5 (mR m2 900) fun r4 => bnd (f_X6_goYear m2 14 ((mI m2 (64 * r4 + 0)))) fun (x5 : Unit) (m6 : mM) => (gA (mA m6 42) p1).bind fun x8 => some (x8, m6))
theorem c_X6_years (m : mM) (p1 : Int32)  : cF true uI m_X6_years 8 [.ref 0, .int p1] m (f_X6_years m p1) := by
  refine cF_of ok_X6_years (fun _ _ => Nat.le_of_ble_eq_true rfl) ?_
  unfold f_X6_years
  show JF _ _ _ _ _ [(0, .ref 0), (1, .int p1)] _ _ _
  refine F_aload_n (i := 0) (a := 0) rfl rfl (dk_X6_years 0 _ rfl) ?_
  refine F_iload_n (i := 1) (a := 1) rfl rfl (dk_X6_years 1 _ rfl) ?_
  refine F_callV (ι' := uI) (ci := 6) (b := 0) (As := [.int p1]) (d' := 2) (rfl) ok_X6_isPerson vi_X6_isPerson cl_6_79 (n := 1) (by decide +kernel) rfl rfl rfl (Nat.le_of_ble_eq_true rfl) (by omega) (dk_X6_years 2 _ rfl) (c_X6_isPerson _ _ ) (fun x1 m2 => ?_)
  show JF _ _ _ _ _ _ [.int x1] _ _
  refine F_if_ne (tgt := 11) (by decide) (dk_X6_years 5 _ rfl) ?_ ?_
  · refine F_aload_n (i := 0) (a := 0) rfl rfl (dk_X6_years 11 _ rfl) ?_
    refine F_aload_n (i := 0) (a := 0) rfl rfl (dk_X6_years 12 _ rfl) ?_
    refine F_gR (b := 14) fxX_6_0_0 fl_6_47 (dk_X6_years 13 _ rfl) ?_
    refine F_aload_n (i := 0) (a := 0) rfl rfl (dk_X6_years 16 _ rfl) ?_
    refine F_gR (b := 14) fxX_6_0_0 fl_6_47 (dk_X6_years 17 _ rfl) ?_
    refine F_gV (n := 900) fxX_2_4_14 rfl fl_6_83 (dk_X6_years 20 _ rfl) ?_
    refine F_ch (fun r4 hr4 => ?_)
    refine F_gI (n := (64 * r4 + 0)) (lyT_0 hr4) rfl fl_6_87 (dk_X6_years 23 _ rfl) ?_
    refine F_callV (ι' := uU) (ci := 6) (b := 0) (As := [.ref 14, .int (mI m2 (64 * r4 + 0))]) (d' := 7) (rfl) ok_X6_goYear vi_X6_goYear cl_6_182 (n := 2) (by decide +kernel) rfl rfl rfl (Nat.le_of_ble_eq_true rfl) (by omega) (dk_X6_years 26 _ rfl) (c_X6_goYear _ _ _ (rfl)) (fun x5 m6 => ?_)
    show JF _ _ _ _ _ _ [] _ _
    refine F_aload_n (i := 0) (a := 0) rfl rfl (dk_X6_years 29 _ rfl) ?_
    refine F_gR (b := 41) fxX_6_4_0 fl_6_62 (dk_X6_years 30 _ rfl) ?_
    refine F_gR (b := 42) fxX_1_5_41 fl_6_170 (dk_X6_years 33 _ rfl) ?_
    refine F_iload_n (i := 1) (a := 1) rfl rfl (dk_X6_years 36 _ rfl) ?_
    refine F_iald (axX_0_42) (dk_X6_years 37 _ rfl) (fun x8 => ?_)
    exact F_ret rfl (dk_X6_years 38 _ rfl)
  · refine F_ldc (v := (-10000001)) ct_6_82 (dk_X6_years 8 _ rfl) ?_
    exact F_ret rfl (dk_X6_years 10 _ rfl)
def fb_X6_tryDays_8 (K8 : mM → Nat → Int32 → Int32 → Int32 → Int32 → fR Unit) (m : mM) (y1 : Nat) (y2 : Int32) (y3 : Int32) (y4 : Int32) (y5 : Int32) : fR Unit :=
  (if 12 ≤ y5 then (sA 0 m y1 y2 y4).bind fun m2 => some ((), m2) else (sA 0 m y1 y2 y5).bind fun m3 => bnd (f_X1_start m3 32 y3) fun (x4 : Unit) (m5 : mM) => bnd (f_X1_go m5 12) fun (x7 : Unit) (m8 : mM) => (gA (mA m8 42) y2).bind fun x10 => (sA 0 m8 1 y5 x10).bind fun m11 => (K8 m11 y1 y2 y3 y4 (y5 + 1)))
def f_X6_tryDays_8  : Nat → mM → Nat → Int32 → Int32 → Int32 → Int32 → fR Unit
  | 0, _, _, _, _, _, _ => none
  | F + 1, m, y1, y2, y3, y4, y5 => fb_X6_tryDays_8  (f_X6_tryDays_8  F) m y1 y2 y3 y4 y5
theorem jb_X6_tryDays_8 (K8 : mM → Nat → Int32 → Int32 → Int32 → Int32 → fR Unit) (hK8 : ∀ (m : mM) (y1 : Nat) (y2 : Int32) (y3 : Int32) (y4 : Int32) (y5 : Int32) (hy1 : isA true 0 y1 = true), JF true uU m_X6_tryDays 7 8 [(0, .ref 0), (1, .ref y1), (2, .int y2), (3, .int y3), (4, .int y4), (5, .int y5)] [] m (K8 m y1 y2 y3 y4 y5)) (m : mM) (y1 : Nat) (y2 : Int32) (y3 : Int32) (y4 : Int32) (y5 : Int32) (hy1 : isA true 0 y1 = true) : JF true uU m_X6_tryDays 7 8 [(0, .ref 0), (1, .ref y1), (2, .int y2), (3, .int y3), (4, .int y4), (5, .int y5)] [] m (fb_X6_tryDays_8 K8 m y1 y2 y3 y4 y5) := by
  unfold fb_X6_tryDays_8
  refine F_iload (i := 5) rfl (dk_X6_tryDays 8 _ rfl) ?_
  refine F_bipush (v := 12) (by decide) (dk_X6_tryDays 10 _ rfl) ?_
  refine F_icmp_ge (tgt := 63) (by decide) (dk_X6_tryDays 12 _ rfl) ?_ ?_
  · refine F_aload_n (i := 1) (a := 1) rfl rfl (dk_X6_tryDays 63 _ rfl) ?_
    refine F_iload_n (i := 2) (a := 2) rfl rfl (dk_X6_tryDays 64 _ rfl) ?_
    refine F_iload (i := 4) rfl (dk_X6_tryDays 65 _ rfl) ?_
    refine F_iast (hy1) (dk_X6_tryDays 67 _ rfl) (fun m2 => ?_)
    exact F_retV rfl (dk_X6_tryDays 68 _ rfl)
  · refine F_aload_n (i := 1) (a := 1) rfl rfl (dk_X6_tryDays 15 _ rfl) ?_
    refine F_iload_n (i := 2) (a := 2) rfl rfl (dk_X6_tryDays 16 _ rfl) ?_
    refine F_iload (i := 5) rfl (dk_X6_tryDays 17 _ rfl) ?_
    refine F_iast (hy1) (dk_X6_tryDays 19 _ rfl) (fun m3 => ?_)
    refine F_aload_n (i := 0) (a := 0) rfl rfl (dk_X6_tryDays 20 _ rfl) ?_
    refine F_gR (b := 41) fxX_6_4_0 fl_6_62 (dk_X6_tryDays 21 _ rfl) ?_
    refine F_aload_n (i := 0) (a := 0) rfl rfl (dk_X6_tryDays 24 _ rfl) ?_
    refine F_gR (b := 32) fxX_6_2_0 fl_6_54 (dk_X6_tryDays 25 _ rfl) ?_
    refine F_iload_n (i := 3) (a := 3) rfl rfl (dk_X6_tryDays 28 _ rfl) ?_
    refine F_callV (ι' := uU) (ci := 1) (b := 41) (As := [.ref 32, .int y3]) (d' := 5) (rfl) ok_X1_start vi_X1_start cl_6_90 (n := 2) (by decide +kernel) rfl rfl rfl (Nat.le_of_ble_eq_true rfl) (by omega) (dk_X6_tryDays 29 _ rfl) (c_X1_start _ _ _ (rfl)) (fun x4 m5 => ?_)
    show JF _ _ _ _ _ _ [] _ _
    refine F_aload_n (i := 0) (a := 0) rfl rfl (dk_X6_tryDays 32 _ rfl) ?_
    refine F_gR (b := 41) fxX_6_4_0 fl_6_62 (dk_X6_tryDays 33 _ rfl) ?_
    refine F_bipush (v := 12) (by decide) (dk_X6_tryDays 36 _ rfl) ?_
    refine F_callV (ι' := uU) (ci := 1) (b := 41) (As := [.int 12]) (d' := 6) (rfl) ok_X1_go vi_X1_go cl_6_166 (n := 1) (by decide +kernel) rfl rfl rfl (Nat.le_of_ble_eq_true rfl) (by omega) (dk_X6_tryDays 38 _ rfl) (c_X1_go _ _ ) (fun x7 m8 => ?_)
    show JF _ _ _ _ _ _ [] _ _
    refine F_aload_n (i := 0) (a := 0) rfl rfl (dk_X6_tryDays 41 _ rfl) ?_
    refine F_gR (b := 1) fxX_6_5_0 fl_6_11 (dk_X6_tryDays 42 _ rfl) ?_
    refine F_iload (i := 5) rfl (dk_X6_tryDays 45 _ rfl) ?_
    refine F_aload_n (i := 0) (a := 0) rfl rfl (dk_X6_tryDays 47 _ rfl) ?_
    refine F_gR (b := 41) fxX_6_4_0 fl_6_62 (dk_X6_tryDays 48 _ rfl) ?_
    refine F_gR (b := 42) fxX_1_5_41 fl_6_170 (dk_X6_tryDays 51 _ rfl) ?_
    refine F_iload_n (i := 2) (a := 2) rfl rfl (dk_X6_tryDays 54 _ rfl) ?_
    refine F_iald (axX_0_42) (dk_X6_tryDays 55 _ rfl) (fun x10 => ?_)
    refine F_iast (axX_0_1) (dk_X6_tryDays 56 _ rfl) (fun m11 => ?_)
    refine F_iinc (i := 5) (n := 1) (v := (y5 + 1)) (lv' := [(5, .int (y5 + 1)), (0, .ref 0), (1, .ref y1), (2, .int y2), (3, .int y3), (4, .int y4)]) rfl (by first | rfl | decide) (by decide) rfl (dk_X6_tryDays 57 _ rfl) ?_
    refine F_goto (tgt := 8) (by decide) (dk_X6_tryDays 60 _ rfl) ?_
    exact F_loc (List.forall_mem_cons.mpr ⟨(.tail _ (.head _)), (List.forall_mem_cons.mpr ⟨(.tail _ (.tail _ (.head _))), (List.forall_mem_cons.mpr ⟨(.tail _ (.tail _ (.tail _ (.head _)))), (List.forall_mem_cons.mpr ⟨(.tail _ (.tail _ (.tail _ (.tail _ (.head _))))), (List.forall_mem_cons.mpr ⟨(.tail _ (.tail _ (.tail _ (.tail _ (.tail _ (.head _)))))), (List.forall_mem_cons.mpr ⟨(.head _), (fun _ z => absurd z List.not_mem_nil)⟩)⟩)⟩)⟩)⟩)⟩) (hK8 _ _ _ _ _ _ (hy1))
theorem j_X6_tryDays_8   : ∀ (F : Nat) (m : mM) (y1 : Nat) (y2 : Int32) (y3 : Int32) (y4 : Int32) (y5 : Int32) (hy1 : isA true 0 y1 = true), JF true uU m_X6_tryDays 7 8 [(0, .ref 0), (1, .ref y1), (2, .int y2), (3, .int y3), (4, .int y4), (5, .int y5)] [] m (f_X6_tryDays_8  F m y1 y2 y3 y4 y5) := by
  intro F
  induction F with
  | zero => intro m y1 y2 y3 y4 y5 hy1; exact F_no
  | succ F ih => intro m y1 y2 y3 y4 y5 hy1; exact jb_X6_tryDays_8  (f_X6_tryDays_8  F)  ih m y1 y2 y3 y4 y5 hy1
def f_X6_tryDays (m : mM) (a1 : Nat) (p2 : Int32) (p3 : Int32) : fR Unit :=
  (gA (mA m a1) p2).bind fun x1 => (f_X6_tryDays_8  1000 m a1 p2 p3 x1 0)
theorem c_X6_tryDays (m : mM) (a1 : Nat) (p2 : Int32) (p3 : Int32) (ha1 : isA true 0 a1 = true) : cF true uU m_X6_tryDays 7 [.ref 0, .ref a1, .int p2, .int p3] m (f_X6_tryDays m a1 p2 p3) := by
  refine cF_of ok_X6_tryDays (fun _ _ => Nat.le_of_ble_eq_true rfl) ?_
  unfold f_X6_tryDays
  show JF _ _ _ _ _ [(0, .ref 0), (1, .ref a1), (2, .int p2), (3, .int p3)] _ _ _
  refine F_aload_n (i := 1) (a := 1) rfl rfl (dk_X6_tryDays 0 _ rfl) ?_
  refine F_iload_n (i := 2) (a := 2) rfl rfl (dk_X6_tryDays 1 _ rfl) ?_
  refine F_iald (ha1) (dk_X6_tryDays 2 _ rfl) (fun x1 => ?_)
  refine F_istore (lv' := [(4, .int x1), (0, .ref 0), (1, .ref a1), (2, .int p2), (3, .int p3)]) (i := 4) (by decide) rfl (dk_X6_tryDays 3 _ rfl) ?_
  refine F_iconst (v := 0) (by decide) (dk_X6_tryDays 5 _ rfl) ?_
  refine F_istore (lv' := [(5, .int 0), (4, .int x1), (0, .ref 0), (1, .ref a1), (2, .int p2), (3, .int p3)]) (i := 5) (by decide) rfl (dk_X6_tryDays 6 _ rfl) ?_
  exact F_loc (List.forall_mem_cons.mpr ⟨(.tail _ (.tail _ (.head _))), (List.forall_mem_cons.mpr ⟨(.tail _ (.tail _ (.tail _ (.head _)))), (List.forall_mem_cons.mpr ⟨(.tail _ (.tail _ (.tail _ (.tail _ (.head _))))), (List.forall_mem_cons.mpr ⟨(.tail _ (.tail _ (.tail _ (.tail _ (.tail _ (.head _)))))), (List.forall_mem_cons.mpr ⟨(.tail _ (.head _)), (List.forall_mem_cons.mpr ⟨(.head _), (fun _ z => absurd z List.not_mem_nil)⟩)⟩)⟩)⟩)⟩)⟩) (j_X6_tryDays_8   1000 _ _ _ _ _ _ (ha1))
end
end
-- 21f.fun.lean.txt
section
section
set_option maxRecDepth 100000
def fb_X6_firstMost_4 (K4 : mM → Int32 → Int32 → fR Int32) (m : mM) (y1 : Int32) (y2 : Int32) : fR Int32 :=
  (if 12 ≤ y2 then some (y1, m) else (gA (mA m 1) y2).bind fun x1 => (gA (mA m 1) y1).bind fun x2 => (if x1 ≤ x2 then (K4 m y1 (y2 + 1)) else (K4 m y2 (y2 + 1))))
def f_X6_firstMost_4  : Nat → mM → Int32 → Int32 → fR Int32
  | 0, _, _, _ => none
  | F + 1, m, y1, y2 => fb_X6_firstMost_4  (f_X6_firstMost_4  F) m y1 y2
theorem jb_X6_firstMost_4 (K4 : mM → Int32 → Int32 → fR Int32) (hK4 : ∀ (m : mM) (y1 : Int32) (y2 : Int32) , JF true uI m_X6_firstMost 2 4 [(0, .ref 0), (1, .int y1), (2, .int y2)] [] m (K4 m y1 y2)) (m : mM) (y1 : Int32) (y2 : Int32)  : JF true uI m_X6_firstMost 2 4 [(0, .ref 0), (1, .int y1), (2, .int y2)] [] m (fb_X6_firstMost_4 K4 m y1 y2) := by
  unfold fb_X6_firstMost_4
  refine F_iload_n (i := 2) (a := 2) rfl rfl (dk_X6_firstMost 4 _ rfl) ?_
  refine F_bipush (v := 12) (by decide) (dk_X6_firstMost 5 _ rfl) ?_
  refine F_icmp_ge (tgt := 33) (by decide) (dk_X6_firstMost 7 _ rfl) ?_ ?_
  · refine F_iload_n (i := 1) (a := 1) rfl rfl (dk_X6_firstMost 33 _ rfl) ?_
    exact F_ret rfl (dk_X6_firstMost 34 _ rfl)
  · refine F_aload_n (i := 0) (a := 0) rfl rfl (dk_X6_firstMost 10 _ rfl) ?_
    refine F_gR (b := 1) fxX_6_5_0 fl_6_11 (dk_X6_firstMost 11 _ rfl) ?_
    refine F_iload_n (i := 2) (a := 2) rfl rfl (dk_X6_firstMost 14 _ rfl) ?_
    refine F_iald (axX_0_1) (dk_X6_firstMost 15 _ rfl) (fun x1 => ?_)
    refine F_aload_n (i := 0) (a := 0) rfl rfl (dk_X6_firstMost 16 _ rfl) ?_
    refine F_gR (b := 1) fxX_6_5_0 fl_6_11 (dk_X6_firstMost 17 _ rfl) ?_
    refine F_iload_n (i := 1) (a := 1) rfl rfl (dk_X6_firstMost 20 _ rfl) ?_
    refine F_iald (axX_0_1) (dk_X6_firstMost 21 _ rfl) (fun x2 => ?_)
    refine F_icmp_le (tgt := 27) (by decide) (dk_X6_firstMost 22 _ rfl) ?_ ?_
    · refine F_iinc (i := 2) (n := 1) (v := (y2 + 1)) (lv' := [(2, .int (y2 + 1)), (0, .ref 0), (1, .int y1)]) rfl (by first | rfl | decide) (by decide) rfl (dk_X6_firstMost 27 _ rfl) ?_
      refine F_goto (tgt := 4) (by decide) (dk_X6_firstMost 30 _ rfl) ?_
      exact F_loc (List.forall_mem_cons.mpr ⟨(.tail _ (.head _)), (List.forall_mem_cons.mpr ⟨(.tail _ (.tail _ (.head _))), (List.forall_mem_cons.mpr ⟨(.head _), (fun _ z => absurd z List.not_mem_nil)⟩)⟩)⟩) (hK4 _ _ _ )
    · refine F_iload_n (i := 2) (a := 2) rfl rfl (dk_X6_firstMost 25 _ rfl) ?_
      refine F_istore_n (lv' := [(1, .int y2), (0, .ref 0), (2, .int y2)]) (i := 1) (a := 1) rfl (by decide) rfl (dk_X6_firstMost 26 _ rfl) ?_
      refine F_iinc (i := 2) (n := 1) (v := (y2 + 1)) (lv' := [(2, .int (y2 + 1)), (1, .int y2), (0, .ref 0)]) rfl (by first | rfl | decide) (by decide) rfl (dk_X6_firstMost 27 _ rfl) ?_
      refine F_goto (tgt := 4) (by decide) (dk_X6_firstMost 30 _ rfl) ?_
      exact F_loc (List.forall_mem_cons.mpr ⟨(.tail _ (.tail _ (.head _))), (List.forall_mem_cons.mpr ⟨(.tail _ (.head _)), (List.forall_mem_cons.mpr ⟨(.head _), (fun _ z => absurd z List.not_mem_nil)⟩)⟩)⟩) (hK4 _ _ _ )
theorem j_X6_firstMost_4   : ∀ (F : Nat) (m : mM) (y1 : Int32) (y2 : Int32) , JF true uI m_X6_firstMost 2 4 [(0, .ref 0), (1, .int y1), (2, .int y2)] [] m (f_X6_firstMost_4  F m y1 y2) := by
  intro F
  induction F with
  | zero => intro m y1 y2 ; exact F_no
  | succ F ih => intro m y1 y2 ; exact jb_X6_firstMost_4  (f_X6_firstMost_4  F)  ih m y1 y2 
def f_X6_firstMost (m : mM)  : fR Int32 :=
  (f_X6_firstMost_4  1000 m 0 1)
theorem c_X6_firstMost (m : mM)   : cF true uI m_X6_firstMost 2 [.ref 0] m (f_X6_firstMost m ) := by
  refine cF_of ok_X6_firstMost (fun _ _ => Nat.le_of_ble_eq_true rfl) ?_
  unfold f_X6_firstMost
  show JF _ _ _ _ _ [(0, .ref 0)] _ _ _
  refine F_iconst (v := 0) (by decide) (dk_X6_firstMost 0 _ rfl) ?_
  refine F_istore_n (lv' := [(1, .int 0), (0, .ref 0)]) (i := 1) (a := 1) rfl (by decide) rfl (dk_X6_firstMost 1 _ rfl) ?_
  refine F_iconst (v := 1) (by decide) (dk_X6_firstMost 2 _ rfl) ?_
  refine F_istore_n (lv' := [(2, .int 1), (1, .int 0), (0, .ref 0)]) (i := 2) (a := 2) rfl (by decide) rfl (dk_X6_firstMost 3 _ rfl) ?_
  exact F_loc (List.forall_mem_cons.mpr ⟨(.tail _ (.tail _ (.head _))), (List.forall_mem_cons.mpr ⟨(.tail _ (.head _)), (List.forall_mem_cons.mpr ⟨(.head _), (fun _ z => absurd z List.not_mem_nil)⟩)⟩)⟩) (j_X6_firstMost_4   1000 _ _ _ )
def f_X6_bestOf (m : mM) (a1 : Nat) (p2 : Int32) (p3 : Int32) : fR Int32 :=
  chR true 5 (mR m 2052) fun r1 => bnd (f_X6_tryDays m a1 p2 ((mI m (64 * r1 + 0)))) fun (x2 : Unit) (m3 : mM) => bnd (f_X6_firstMost m3 ) fun (x5 : Int32) (m6 : mM) => (if p3 = 0 then some (x5, m6) else (gA (mA m6 1) x5).bind fun x8 => some (x8, m6))
theorem c_X6_bestOf (m : mM) (a1 : Nat) (p2 : Int32) (p3 : Int32) (ha1 : isA true 0 a1 = true) : cF true uI m_X6_bestOf 8 [.ref 0, .ref a1, .int p2, .int p3] m (f_X6_bestOf m a1 p2 p3) := by
  refine cF_of ok_X6_bestOf (fun _ _ => Nat.le_of_ble_eq_true rfl) ?_
  unfold f_X6_bestOf
  show JF _ _ _ _ _ [(0, .ref 0), (1, .ref a1), (2, .int p2), (3, .int p3)] _ _ _
  refine F_aload_n (i := 0) (a := 0) rfl rfl (dk_X6_bestOf 0 _ rfl) ?_
  refine F_aload_n (i := 1) (a := 1) rfl rfl (dk_X6_bestOf 1 _ rfl) ?_
  refine F_iload_n (i := 2) (a := 2) rfl rfl (dk_X6_bestOf 2 _ rfl) ?_
  refine F_aload_n (i := 0) (a := 0) rfl rfl (dk_X6_bestOf 3 _ rfl) ?_
  refine F_gR (b := 32) fxX_6_2_0 fl_6_54 (dk_X6_bestOf 4 _ rfl) ?_
  refine F_gV (n := 2052) fxX_2_4_32 rfl fl_6_83 (dk_X6_bestOf 7 _ rfl) ?_
  refine F_ch (fun r1 hr1 => ?_)
  refine F_gI (n := (64 * r1 + 0)) (lyT_0 hr1) rfl fl_6_87 (dk_X6_bestOf 10 _ rfl) ?_
  refine F_callV (ι' := uU) (ci := 6) (b := 0) (As := [.ref a1, .int p2, .int (mI m (64 * r1 + 0))]) (d' := 7) (rfl) ok_X6_tryDays vi_X6_tryDays cl_6_192 (n := 3) (by decide +kernel) rfl rfl rfl (Nat.le_of_ble_eq_true rfl) (by omega) (dk_X6_bestOf 13 _ rfl) (c_X6_tryDays _ _ _ _ (ha1)) (fun x2 m3 => ?_)
  show JF _ _ _ _ _ _ [] _ _
  refine F_aload_n (i := 0) (a := 0) rfl rfl (dk_X6_bestOf 16 _ rfl) ?_
  refine F_callV (ι' := uI) (ci := 6) (b := 0) (As := []) (d' := 2) (rfl) ok_X6_firstMost vi_X6_firstMost cl_6_269 (n := 0) (by decide +kernel) rfl rfl rfl (Nat.le_of_ble_eq_true rfl) (by omega) (dk_X6_bestOf 17 _ rfl) (c_X6_firstMost _  ) (fun x5 m6 => ?_)
  show JF _ _ _ _ _ _ [.int x5] _ _
  refine F_istore (lv' := [(4, .int x5), (0, .ref 0), (1, .ref a1), (2, .int p2), (3, .int p3)]) (i := 4) (by decide) rfl (dk_X6_bestOf 20 _ rfl) ?_
  refine F_iload_n (i := 3) (a := 3) rfl rfl (dk_X6_bestOf 22 _ rfl) ?_
  refine F_if_ne (tgt := 31) (by decide) (dk_X6_bestOf 23 _ rfl) ?_ ?_
  · refine F_aload_n (i := 0) (a := 0) rfl rfl (dk_X6_bestOf 31 _ rfl) ?_
    refine F_gR (b := 1) fxX_6_5_0 fl_6_11 (dk_X6_bestOf 32 _ rfl) ?_
    refine F_iload (i := 4) rfl (dk_X6_bestOf 35 _ rfl) ?_
    refine F_iald (axX_0_1) (dk_X6_bestOf 37 _ rfl) (fun x8 => ?_)
    exact F_ret rfl (dk_X6_bestOf 38 _ rfl)
  · refine F_iload (i := 4) rfl (dk_X6_bestOf 26 _ rfl) ?_
    refine F_goto (tgt := 38) (by decide) (dk_X6_bestOf 28 _ rfl) ?_
    exact F_ret rfl (dk_X6_bestOf 38 _ rfl)
def f_X6_birth (m : mM) (p1 : Int32) (p2 : Int32) : fR Int32 :=
  bnd (f_X6_isPerson m p1) fun (x1 : Int32) (m2 : mM) => (if x1 = 0 then some ((-10000001), m2) else (if p2 < 0 then some ((-10000001), m2) else (if p2 ≤ 1 then bnd (f_X2_copy m2 32 14) fun (x4 : Unit) (m5 : mM) => bnd (f_X6_bestOf m5 35 p1 p2) fun (x7 : Int32) (m8 : mM) => some (x7, m8) else some ((-10000001), m2))))
theorem c_X6_birth (m : mM) (p1 : Int32) (p2 : Int32)  : cF true uI m_X6_birth 9 [.ref 0, .int p1, .int p2] m (f_X6_birth m p1 p2) := by
  refine cF_of ok_X6_birth (fun _ _ => Nat.le_of_ble_eq_true rfl) ?_
  unfold f_X6_birth
  show JF _ _ _ _ _ [(0, .ref 0), (1, .int p1), (2, .int p2)] _ _ _
  refine F_aload_n (i := 0) (a := 0) rfl rfl (dk_X6_birth 0 _ rfl) ?_
  refine F_iload_n (i := 1) (a := 1) rfl rfl (dk_X6_birth 1 _ rfl) ?_
  refine F_callV (ι' := uI) (ci := 6) (b := 0) (As := [.int p1]) (d' := 2) (rfl) ok_X6_isPerson vi_X6_isPerson cl_6_79 (n := 1) (by decide +kernel) rfl rfl rfl (Nat.le_of_ble_eq_true rfl) (by omega) (dk_X6_birth 2 _ rfl) (c_X6_isPerson _ _ ) (fun x1 m2 => ?_)
  show JF _ _ _ _ _ _ [.int x1] _ _
  refine F_if_eq (tgt := 17) (by decide) (dk_X6_birth 5 _ rfl) ?_ ?_
  · refine F_ldc (v := (-10000001)) ct_6_82 (dk_X6_birth 17 _ rfl) ?_
    exact F_ret rfl (dk_X6_birth 19 _ rfl)
  · refine F_iload_n (i := 2) (a := 2) rfl rfl (dk_X6_birth 8 _ rfl) ?_
    refine F_if_lt (tgt := 17) (by decide) (dk_X6_birth 9 _ rfl) ?_ ?_
    · refine F_ldc (v := (-10000001)) ct_6_82 (dk_X6_birth 17 _ rfl) ?_
      exact F_ret rfl (dk_X6_birth 19 _ rfl)
    · refine F_iload_n (i := 2) (a := 2) rfl rfl (dk_X6_birth 12 _ rfl) ?_
      refine F_iconst (v := 1) (by decide) (dk_X6_birth 13 _ rfl) ?_
      refine F_icmp_le (tgt := 20) (by decide) (dk_X6_birth 14 _ rfl) ?_ ?_
      · refine F_aload_n (i := 0) (a := 0) rfl rfl (dk_X6_birth 20 _ rfl) ?_
        refine F_gR (b := 32) fxX_6_2_0 fl_6_54 (dk_X6_birth 21 _ rfl) ?_
        refine F_aload_n (i := 0) (a := 0) rfl rfl (dk_X6_birth 24 _ rfl) ?_
        refine F_gR (b := 14) fxX_6_0_0 fl_6_47 (dk_X6_birth 25 _ rfl) ?_
        refine F_callV (ι' := uU) (ci := 2) (b := 32) (As := [.ref 14]) (d' := 2) (rfl) ok_X2_copy vi_X2_copy cl_6_185 (n := 1) (by decide +kernel) rfl rfl rfl (Nat.le_of_ble_eq_true rfl) (by omega) (dk_X6_birth 28 _ rfl) (c_X2_copy _ _ _ (rfl) (rfl)) (fun x4 m5 => ?_)
        show JF _ _ _ _ _ _ [] _ _
        refine F_aload_n (i := 0) (a := 0) rfl rfl (dk_X6_birth 31 _ rfl) ?_
        refine F_aload_n (i := 0) (a := 0) rfl rfl (dk_X6_birth 32 _ rfl) ?_
        refine F_gR (b := 32) fxX_6_2_0 fl_6_54 (dk_X6_birth 33 _ rfl) ?_
        refine F_gR (b := 35) fxX_2_7_32 fl_6_103 (dk_X6_birth 36 _ rfl) ?_
        refine F_iload_n (i := 1) (a := 1) rfl rfl (dk_X6_birth 39 _ rfl) ?_
        refine F_iload_n (i := 2) (a := 2) rfl rfl (dk_X6_birth 40 _ rfl) ?_
        refine F_callV (ι' := uI) (ci := 6) (b := 0) (As := [.ref 35, .int p1, .int p2]) (d' := 8) (rfl) ok_X6_bestOf vi_X6_bestOf cl_6_188 (n := 3) (by decide +kernel) rfl rfl rfl (Nat.le_of_ble_eq_true rfl) (by omega) (dk_X6_birth 41 _ rfl) (c_X6_bestOf _ _ _ _ (axX_0_35)) (fun x7 m8 => ?_)
        show JF _ _ _ _ _ _ [.int x7] _ _
        exact F_ret rfl (dk_X6_birth 44 _ rfl)
      · refine F_ldc (v := (-10000001)) ct_6_82 (dk_X6_birth 17 _ rfl) ?_
        exact F_ret rfl (dk_X6_birth 19 _ rfl)
def f_X6_plan (m : mM) (p1 : Int32) (p2 : Int32) : fR Int32 :=
  bnd (f_X6_isPerson m p1) fun (x1 : Int32) (m2 : mM) => (if x1 = 0 then some ((-10000001), m2) else (if p2 < 0 then some ((-10000001), m2) else (if p2 ≤ 1 then bnd (f_X2_copy m2 32 14) fun (x4 : Unit) (m5 : mM) => bnd (f_X6_bestOf m5 36 p1 p2) fun (x7 : Int32) (m8 : mM) => some (x7, m8) else some ((-10000001), m2))))
theorem c_X6_plan (m : mM) (p1 : Int32) (p2 : Int32)  : cF true uI m_X6_plan 9 [.ref 0, .int p1, .int p2] m (f_X6_plan m p1 p2) := by
  refine cF_of ok_X6_plan (fun _ _ => Nat.le_of_ble_eq_true rfl) ?_
  unfold f_X6_plan
  show JF _ _ _ _ _ [(0, .ref 0), (1, .int p1), (2, .int p2)] _ _ _
  refine F_aload_n (i := 0) (a := 0) rfl rfl (dk_X6_plan 0 _ rfl) ?_
  refine F_iload_n (i := 1) (a := 1) rfl rfl (dk_X6_plan 1 _ rfl) ?_
  refine F_callV (ι' := uI) (ci := 6) (b := 0) (As := [.int p1]) (d' := 2) (rfl) ok_X6_isPerson vi_X6_isPerson cl_6_79 (n := 1) (by decide +kernel) rfl rfl rfl (Nat.le_of_ble_eq_true rfl) (by omega) (dk_X6_plan 2 _ rfl) (c_X6_isPerson _ _ ) (fun x1 m2 => ?_)
  show JF _ _ _ _ _ _ [.int x1] _ _
  refine F_if_eq (tgt := 17) (by decide) (dk_X6_plan 5 _ rfl) ?_ ?_
  · refine F_ldc (v := (-10000001)) ct_6_82 (dk_X6_plan 17 _ rfl) ?_
    exact F_ret rfl (dk_X6_plan 19 _ rfl)
  · refine F_iload_n (i := 2) (a := 2) rfl rfl (dk_X6_plan 8 _ rfl) ?_
    refine F_if_lt (tgt := 17) (by decide) (dk_X6_plan 9 _ rfl) ?_ ?_
    · refine F_ldc (v := (-10000001)) ct_6_82 (dk_X6_plan 17 _ rfl) ?_
      exact F_ret rfl (dk_X6_plan 19 _ rfl)
    · refine F_iload_n (i := 2) (a := 2) rfl rfl (dk_X6_plan 12 _ rfl) ?_
      refine F_iconst (v := 1) (by decide) (dk_X6_plan 13 _ rfl) ?_
      refine F_icmp_le (tgt := 20) (by decide) (dk_X6_plan 14 _ rfl) ?_ ?_
      · refine F_aload_n (i := 0) (a := 0) rfl rfl (dk_X6_plan 20 _ rfl) ?_
        refine F_gR (b := 32) fxX_6_2_0 fl_6_54 (dk_X6_plan 21 _ rfl) ?_
        refine F_aload_n (i := 0) (a := 0) rfl rfl (dk_X6_plan 24 _ rfl) ?_
        refine F_gR (b := 14) fxX_6_0_0 fl_6_47 (dk_X6_plan 25 _ rfl) ?_
        refine F_callV (ι' := uU) (ci := 2) (b := 32) (As := [.ref 14]) (d' := 2) (rfl) ok_X2_copy vi_X2_copy cl_6_185 (n := 1) (by decide +kernel) rfl rfl rfl (Nat.le_of_ble_eq_true rfl) (by omega) (dk_X6_plan 28 _ rfl) (c_X2_copy _ _ _ (rfl) (rfl)) (fun x4 m5 => ?_)
        show JF _ _ _ _ _ _ [] _ _
        refine F_aload_n (i := 0) (a := 0) rfl rfl (dk_X6_plan 31 _ rfl) ?_
        refine F_aload_n (i := 0) (a := 0) rfl rfl (dk_X6_plan 32 _ rfl) ?_
        refine F_gR (b := 32) fxX_6_2_0 fl_6_54 (dk_X6_plan 33 _ rfl) ?_
        refine F_gR (b := 36) fxX_2_8_32 fl_6_106 (dk_X6_plan 36 _ rfl) ?_
        refine F_iload_n (i := 1) (a := 1) rfl rfl (dk_X6_plan 39 _ rfl) ?_
        refine F_iload_n (i := 2) (a := 2) rfl rfl (dk_X6_plan 40 _ rfl) ?_
        refine F_callV (ι' := uI) (ci := 6) (b := 0) (As := [.ref 36, .int p1, .int p2]) (d' := 8) (rfl) ok_X6_bestOf vi_X6_bestOf cl_6_188 (n := 3) (by decide +kernel) rfl rfl rfl (Nat.le_of_ble_eq_true rfl) (by omega) (dk_X6_plan 41 _ rfl) (c_X6_bestOf _ _ _ _ (axX_0_36)) (fun x7 m8 => ?_)
        show JF _ _ _ _ _ _ [.int x7] _ _
        exact F_ret rfl (dk_X6_plan 44 _ rfl)
      · refine F_ldc (v := (-10000001)) ct_6_82 (dk_X6_plan 17 _ rfl) ?_
        exact F_ret rfl (dk_X6_plan 19 _ rfl)
def fb_X6_quiet_27 (K27 : mM → Int32 → Int32 → fR Int32) (m : mM) (y1 : Int32) (y2 : Int32) : fR Int32 :=
  (if (mI m 896) ≤ y2 then some (y1, m) else (gA (mA m 20) y2).bind fun x5 => (if x5 = 0 then (K27 m y1 (y2 + 1)) else (gA (mA m 44) y2).bind fun x6 => nmI ((y1 &&& ((1 <<< (x6 &&& 31)) ^^^ (-1)))) fun v7 => (K27 m v7 (y2 + 1))))
def f_X6_quiet_27  : Nat → mM → Int32 → Int32 → fR Int32
  | 0, _, _, _ => none
  | F + 1, m, y1, y2 => fb_X6_quiet_27  (f_X6_quiet_27  F) m y1 y2
theorem jb_X6_quiet_27 (K27 : mM → Int32 → Int32 → fR Int32) (hK27 : ∀ (m : mM) (y1 : Int32) (y2 : Int32) , JF true uI m_X6_quiet 6 27 [(0, .ref 0), (1, .int y1), (2, .int y2)] [] m (K27 m y1 y2)) (m : mM) (y1 : Int32) (y2 : Int32)  : JF true uI m_X6_quiet 6 27 [(0, .ref 0), (1, .int y1), (2, .int y2)] [] m (fb_X6_quiet_27 K27 m y1 y2) := by
  unfold fb_X6_quiet_27
  refine F_iload_n (i := 2) (a := 2) rfl rfl (dk_X6_quiet 27 _ rfl) ?_
  refine F_aload_n (i := 0) (a := 0) rfl rfl (dk_X6_quiet 28 _ rfl) ?_
  refine F_gR (b := 14) fxX_6_0_0 fl_6_47 (dk_X6_quiet 29 _ rfl) ?_
  refine F_gI (n := 896) fxX_2_0_14 rfl fl_6_71 (dk_X6_quiet 32 _ rfl) ?_
  refine F_icmp_ge (tgt := 72) (by decide) (dk_X6_quiet 35 _ rfl) ?_ ?_
  · refine F_iload_n (i := 1) (a := 1) rfl rfl (dk_X6_quiet 72 _ rfl) ?_
    exact F_ret rfl (dk_X6_quiet 73 _ rfl)
  · refine F_aload_n (i := 0) (a := 0) rfl rfl (dk_X6_quiet 38 _ rfl) ?_
    refine F_gR (b := 14) fxX_6_0_0 fl_6_47 (dk_X6_quiet 39 _ rfl) ?_
    refine F_gR (b := 20) fxX_2_10_14 fl_6_109 (dk_X6_quiet 42 _ rfl) ?_
    refine F_iload_n (i := 2) (a := 2) rfl rfl (dk_X6_quiet 45 _ rfl) ?_
    refine F_zald (axX_3_20) (dk_X6_quiet 46 _ rfl) (fun x5 => ?_)
    refine F_if_eq (tgt := 66) (by decide) (dk_X6_quiet 47 _ rfl) ?_ ?_
    · refine F_iinc (i := 2) (n := 1) (v := (y2 + 1)) (lv' := [(2, .int (y2 + 1)), (0, .ref 0), (1, .int y1)]) rfl (by first | rfl | decide) (by decide) rfl (dk_X6_quiet 66 _ rfl) ?_
      refine F_goto (tgt := 27) (by decide) (dk_X6_quiet 69 _ rfl) ?_
      exact F_loc (List.forall_mem_cons.mpr ⟨(.tail _ (.head _)), (List.forall_mem_cons.mpr ⟨(.tail _ (.tail _ (.head _))), (List.forall_mem_cons.mpr ⟨(.head _), (fun _ z => absurd z List.not_mem_nil)⟩)⟩)⟩) (hK27 _ _ _ )
    · refine F_iload_n (i := 1) (a := 1) rfl rfl (dk_X6_quiet 50 _ rfl) ?_
      refine F_iconst (v := 1) (by decide) (dk_X6_quiet 51 _ rfl) ?_
      refine F_aload_n (i := 0) (a := 0) rfl rfl (dk_X6_quiet 52 _ rfl) ?_
      refine F_gR (b := 41) fxX_6_4_0 fl_6_62 (dk_X6_quiet 53 _ rfl) ?_
      refine F_gR (b := 44) fxX_1_7_41 fl_6_94 (dk_X6_quiet 56 _ rfl) ?_
      refine F_iload_n (i := 2) (a := 2) rfl rfl (dk_X6_quiet 59 _ rfl) ?_
      refine F_iald (axX_0_44) (dk_X6_quiet 60 _ rfl) (fun x6 => ?_)
      refine F_ishl (dk_X6_quiet 61 _ rfl) ?_
      refine F_iconst (v := (-1)) (by decide) (dk_X6_quiet 62 _ rfl) ?_
      refine F_ixor (dk_X6_quiet 63 _ rfl) ?_
      refine F_iand (dk_X6_quiet 64 _ rfl) ?_
      refine F_nm (fun v7 => ?_)
      refine F_istore_n (lv' := [(1, .int v7), (0, .ref 0), (2, .int y2)]) (i := 1) (a := 1) rfl (by decide) rfl (dk_X6_quiet 65 _ rfl) ?_
      refine F_iinc (i := 2) (n := 1) (v := (y2 + 1)) (lv' := [(2, .int (y2 + 1)), (1, .int v7), (0, .ref 0)]) rfl (by first | rfl | decide) (by decide) rfl (dk_X6_quiet 66 _ rfl) ?_
      refine F_goto (tgt := 27) (by decide) (dk_X6_quiet 69 _ rfl) ?_
      exact F_loc (List.forall_mem_cons.mpr ⟨(.tail _ (.tail _ (.head _))), (List.forall_mem_cons.mpr ⟨(.tail _ (.head _)), (List.forall_mem_cons.mpr ⟨(.head _), (fun _ z => absurd z List.not_mem_nil)⟩)⟩)⟩) (hK27 _ _ _ )
theorem j_X6_quiet_27   : ∀ (F : Nat) (m : mM) (y1 : Int32) (y2 : Int32) , JF true uI m_X6_quiet 6 27 [(0, .ref 0), (1, .int y1), (2, .int y2)] [] m (f_X6_quiet_27  F m y1 y2) := by
  intro F
  induction F with
  | zero => intro m y1 y2 ; exact F_no
  | succ F ih => intro m y1 y2 ; exact jb_X6_quiet_27  (f_X6_quiet_27  F)  ih m y1 y2 
def f_X6_quiet (m : mM)  : fR Int32 :=
  chR true 5 (mR m 900) fun r1 => bnd (f_X1_start m 14 ((mI m (64 * r1 + 0)))) fun (x2 : Unit) (m3 : mM) => (f_X6_quiet_27  1000 m3 4095 0)
theorem c_X6_quiet (m : mM)   : cF true uI m_X6_quiet 6 [.ref 0] m (f_X6_quiet m ) := by
  refine cF_of ok_X6_quiet (fun _ _ => Nat.le_of_ble_eq_true rfl) ?_
  unfold f_X6_quiet
  show JF _ _ _ _ _ [(0, .ref 0)] _ _ _
  refine F_aload_n (i := 0) (a := 0) rfl rfl (dk_X6_quiet 0 _ rfl) ?_
  refine F_gR (b := 41) fxX_6_4_0 fl_6_62 (dk_X6_quiet 1 _ rfl) ?_
  refine F_aload_n (i := 0) (a := 0) rfl rfl (dk_X6_quiet 4 _ rfl) ?_
  refine F_gR (b := 14) fxX_6_0_0 fl_6_47 (dk_X6_quiet 5 _ rfl) ?_
  refine F_aload_n (i := 0) (a := 0) rfl rfl (dk_X6_quiet 8 _ rfl) ?_
  refine F_gR (b := 14) fxX_6_0_0 fl_6_47 (dk_X6_quiet 9 _ rfl) ?_
  refine F_gV (n := 900) fxX_2_4_14 rfl fl_6_83 (dk_X6_quiet 12 _ rfl) ?_
  refine F_ch (fun r1 hr1 => ?_)
  refine F_gI (n := (64 * r1 + 0)) (lyT_0 hr1) rfl fl_6_87 (dk_X6_quiet 15 _ rfl) ?_
  refine F_callV (ι' := uU) (ci := 1) (b := 41) (As := [.ref 14, .int (mI m (64 * r1 + 0))]) (d' := 5) (rfl) ok_X1_start vi_X1_start cl_6_90 (n := 2) (by decide +kernel) rfl rfl rfl (Nat.le_of_ble_eq_true rfl) (by omega) (dk_X6_quiet 18 _ rfl) (c_X1_start _ _ _ (rfl)) (fun x2 m3 => ?_)
  show JF _ _ _ _ _ _ [] _ _
  refine F_sipush (v := 4095) (by decide) (dk_X6_quiet 21 _ rfl) ?_
  refine F_istore_n (lv' := [(1, .int 4095), (0, .ref 0)]) (i := 1) (a := 1) rfl (by decide) rfl (dk_X6_quiet 24 _ rfl) ?_
  refine F_iconst (v := 0) (by decide) (dk_X6_quiet 25 _ rfl) ?_
  refine F_istore_n (lv' := [(2, .int 0), (1, .int 4095), (0, .ref 0)]) (i := 2) (a := 2) rfl (by decide) rfl (dk_X6_quiet 26 _ rfl) ?_
  exact F_loc (List.forall_mem_cons.mpr ⟨(.tail _ (.tail _ (.head _))), (List.forall_mem_cons.mpr ⟨(.tail _ (.head _)), (List.forall_mem_cons.mpr ⟨(.head _), (fun _ z => absurd z List.not_mem_nil)⟩)⟩)⟩) (j_X6_quiet_27   1000 _ _ _ )
def f_X6_foundling (m : mM) (p1 : Int32) (p2 : Int32) : fR Int32 :=
  (if p2 < 0 then some ((-10000001), m) else (if p2 ≤ 1 then bnd (f_X6_isDay m p1) fun (x1 : Int32) (m2 : mM) => (if x1 = 0 then some ((-10000002), m2) else (if (mI m2 896) < 7 then bnd (f_X2_copy m2 32 14) fun (x4 : Unit) (m5 : mM) => bnd (f_X2_add m5 32 0 0 0 p1) fun (x7 : Unit) (m8 : mM) => bnd (f_X6_bestOf m8 35 (((mI m8 2048) - 1)) p2) fun (x10 : Int32) (m11 : mM) => some (x10, m11) else some ((-9), m2))) else some ((-10000001), m)))
theorem c_X6_foundling (m : mM) (p1 : Int32) (p2 : Int32)  : cF true uI m_X6_foundling 9 [.ref 0, .int p1, .int p2] m (f_X6_foundling m p1 p2) := by
  refine cF_of ok_X6_foundling (fun _ _ => Nat.le_of_ble_eq_true rfl) ?_
  unfold f_X6_foundling
  show JF _ _ _ _ _ [(0, .ref 0), (1, .int p1), (2, .int p2)] _ _ _
  refine F_iload_n (i := 2) (a := 2) rfl rfl (dk_X6_foundling 0 _ rfl) ?_
  refine F_if_lt (tgt := 9) (by decide) (dk_X6_foundling 1 _ rfl) ?_ ?_
  · refine F_ldc (v := (-10000001)) ct_6_82 (dk_X6_foundling 9 _ rfl) ?_
    exact F_ret rfl (dk_X6_foundling 11 _ rfl)
  · refine F_iload_n (i := 2) (a := 2) rfl rfl (dk_X6_foundling 4 _ rfl) ?_
    refine F_iconst (v := 1) (by decide) (dk_X6_foundling 5 _ rfl) ?_
    refine F_icmp_le (tgt := 12) (by decide) (dk_X6_foundling 6 _ rfl) ?_ ?_
    · refine F_iload_n (i := 1) (a := 1) rfl rfl (dk_X6_foundling 12 _ rfl) ?_
      refine F_callS (ι' := uI) (As := [.int p1]) (d' := 2) ok_X6_isDay st_X6_isDay cl_6_67 rfl (n := 1) (by decide +kernel) rfl (Nat.le_of_ble_eq_true rfl) (by omega) (dk_X6_foundling 13 _ rfl) (c_X6_isDay _ _ ) (fun x1 m2 => ?_)
      show JF _ _ _ _ _ _ [.int x1] _ _
      refine F_if_ne (tgt := 22) (by decide) (dk_X6_foundling 16 _ rfl) ?_ ?_
      · refine F_aload_n (i := 0) (a := 0) rfl rfl (dk_X6_foundling 22 _ rfl) ?_
        refine F_gR (b := 14) fxX_6_0_0 fl_6_47 (dk_X6_foundling 23 _ rfl) ?_
        refine F_gI (n := 896) fxX_2_0_14 rfl fl_6_71 (dk_X6_foundling 26 _ rfl) ?_
        refine F_bipush (v := 7) (by decide) (dk_X6_foundling 29 _ rfl) ?_
        refine F_icmp_lt (tgt := 37) (by decide) (dk_X6_foundling 31 _ rfl) ?_ ?_
        · refine F_aload_n (i := 0) (a := 0) rfl rfl (dk_X6_foundling 37 _ rfl) ?_
          refine F_gR (b := 32) fxX_6_2_0 fl_6_54 (dk_X6_foundling 38 _ rfl) ?_
          refine F_aload_n (i := 0) (a := 0) rfl rfl (dk_X6_foundling 41 _ rfl) ?_
          refine F_gR (b := 14) fxX_6_0_0 fl_6_47 (dk_X6_foundling 42 _ rfl) ?_
          refine F_callV (ι' := uU) (ci := 2) (b := 32) (As := [.ref 14]) (d' := 2) (rfl) ok_X2_copy vi_X2_copy cl_6_185 (n := 1) (by decide +kernel) rfl rfl rfl (Nat.le_of_ble_eq_true rfl) (by omega) (dk_X6_foundling 45 _ rfl) (c_X2_copy _ _ _ (rfl) (rfl)) (fun x4 m5 => ?_)
          show JF _ _ _ _ _ _ [] _ _
          refine F_aload_n (i := 0) (a := 0) rfl rfl (dk_X6_foundling 48 _ rfl) ?_
          refine F_gR (b := 32) fxX_6_2_0 fl_6_54 (dk_X6_foundling 49 _ rfl) ?_
          refine F_iconst (v := 0) (by decide) (dk_X6_foundling 52 _ rfl) ?_
          refine F_iconst (v := 0) (by decide) (dk_X6_foundling 53 _ rfl) ?_
          refine F_iconst (v := 0) (by decide) (dk_X6_foundling 54 _ rfl) ?_
          refine F_iload_n (i := 1) (a := 1) rfl rfl (dk_X6_foundling 55 _ rfl) ?_
          refine F_callV (ι' := uU) (ci := 2) (b := 32) (As := [.int 0, .int 0, .int 0, .int p1]) (d' := 2) (rfl) ok_X2_add vi_X2_add cl_6_75 (n := 4) (by decide +kernel) rfl rfl rfl (Nat.le_of_ble_eq_true rfl) (by omega) (dk_X6_foundling 56 _ rfl) (c_X2_add _ _ _ _ _ _ (rfl)) (fun x7 m8 => ?_)
          show JF _ _ _ _ _ _ [] _ _
          refine F_aload_n (i := 0) (a := 0) rfl rfl (dk_X6_foundling 59 _ rfl) ?_
          refine F_aload_n (i := 0) (a := 0) rfl rfl (dk_X6_foundling 60 _ rfl) ?_
          refine F_gR (b := 32) fxX_6_2_0 fl_6_54 (dk_X6_foundling 61 _ rfl) ?_
          refine F_gR (b := 35) fxX_2_7_32 fl_6_103 (dk_X6_foundling 64 _ rfl) ?_
          refine F_aload_n (i := 0) (a := 0) rfl rfl (dk_X6_foundling 67 _ rfl) ?_
          refine F_gR (b := 32) fxX_6_2_0 fl_6_54 (dk_X6_foundling 68 _ rfl) ?_
          refine F_gI (n := 2048) fxX_2_0_32 rfl fl_6_71 (dk_X6_foundling 71 _ rfl) ?_
          refine F_iconst (v := 1) (by decide) (dk_X6_foundling 74 _ rfl) ?_
          refine F_isub (dk_X6_foundling 75 _ rfl) ?_
          refine F_iload_n (i := 2) (a := 2) rfl rfl (dk_X6_foundling 76 _ rfl) ?_
          refine F_callV (ι' := uI) (ci := 6) (b := 0) (As := [.ref 35, .int ((mI m8 2048) - 1), .int p2]) (d' := 8) (rfl) ok_X6_bestOf vi_X6_bestOf cl_6_188 (n := 3) (by decide +kernel) rfl rfl rfl (Nat.le_of_ble_eq_true rfl) (by omega) (dk_X6_foundling 77 _ rfl) (c_X6_bestOf _ _ _ _ (axX_0_35)) (fun x10 m11 => ?_)
          show JF _ _ _ _ _ _ [.int x10] _ _
          exact F_ret rfl (dk_X6_foundling 80 _ rfl)
        · refine F_bipush (v := (-9)) (by decide) (dk_X6_foundling 34 _ rfl) ?_
          exact F_ret rfl (dk_X6_foundling 36 _ rfl)
      · refine F_ldc (v := (-10000002)) ct_6_178 (dk_X6_foundling 19 _ rfl) ?_
        exact F_ret rfl (dk_X6_foundling 21 _ rfl)
    · refine F_ldc (v := (-10000001)) ct_6_82 (dk_X6_foundling 9 _ rfl) ?_
      exact F_ret rfl (dk_X6_foundling 11 _ rfl)
def fb_X6_forged_62 (K27 : mM → Int32 → Int32 → fR Int32) (K62 : mM → Int32 → Int32 → Int32 → fR Int32) (m : mM) (y1 : Int32) (y2 : Int32) (y3 : Int32) : fR Int32 :=
  (if 12 ≤ y3 then (K27 m y1 (y2 + 1)) else (gA (mA m 17) y2).bind fun x8 => (if y3 = x8 then (K62 m y1 y2 (y3 + 1)) else (gA (mA m 1) y3).bind fun x9 => (if x9 = y1 then some (((100 * y2) + y3), m) else (K62 m y1 y2 (y3 + 1)))))
def f_X6_forged_62 (K27 : mM → Int32 → Int32 → fR Int32) : Nat → mM → Int32 → Int32 → Int32 → fR Int32
  | 0, _, _, _, _ => none
  | F + 1, m, y1, y2, y3 => fb_X6_forged_62 K27 (f_X6_forged_62 K27 F) m y1 y2 y3
theorem jb_X6_forged_62 (K27 : mM → Int32 → Int32 → fR Int32) (K62 : mM → Int32 → Int32 → Int32 → fR Int32) (hK27 : ∀ (m : mM) (y1 : Int32) (y2 : Int32) , JF true uI m_X6_forged 8 27 [(0, .ref 0), (1, .int y1), (2, .int y2)] [] m (K27 m y1 y2)) (hK62 : ∀ (m : mM) (y1 : Int32) (y2 : Int32) (y3 : Int32) , JF true uI m_X6_forged 8 62 [(0, .ref 0), (1, .int y1), (2, .int y2), (3, .int y3)] [] m (K62 m y1 y2 y3)) (m : mM) (y1 : Int32) (y2 : Int32) (y3 : Int32)  : JF true uI m_X6_forged 8 62 [(0, .ref 0), (1, .int y1), (2, .int y2), (3, .int y3)] [] m (fb_X6_forged_62 K27 K62 m y1 y2 y3) := by
  unfold fb_X6_forged_62
  refine F_iload_n (i := 3) (a := 3) rfl rfl (dk_X6_forged 62 _ rfl) ?_
  refine F_bipush (v := 12) (by decide) (dk_X6_forged 63 _ rfl) ?_
  refine F_icmp_ge (tgt := 104) (by decide) (dk_X6_forged 65 _ rfl) ?_ ?_
  · refine F_iinc (i := 2) (n := 1) (v := (y2 + 1)) (lv' := [(2, .int (y2 + 1)), (0, .ref 0), (1, .int y1), (3, .int y3)]) rfl (by first | rfl | decide) (by decide) rfl (dk_X6_forged 104 _ rfl) ?_
    refine F_goto (tgt := 27) (by decide) (dk_X6_forged 107 _ rfl) ?_
    exact F_loc (List.forall_mem_cons.mpr ⟨(.tail _ (.head _)), (List.forall_mem_cons.mpr ⟨(.tail _ (.tail _ (.head _))), (List.forall_mem_cons.mpr ⟨(.head _), (fun _ z => absurd z List.not_mem_nil)⟩)⟩)⟩) (hK27 _ _ _ )
  · refine F_iload_n (i := 3) (a := 3) rfl rfl (dk_X6_forged 68 _ rfl) ?_
    refine F_aload_n (i := 0) (a := 0) rfl rfl (dk_X6_forged 69 _ rfl) ?_
    refine F_gR (b := 14) fxX_6_0_0 fl_6_47 (dk_X6_forged 70 _ rfl) ?_
    refine F_gR (b := 17) fxX_2_7_14 fl_6_103 (dk_X6_forged 73 _ rfl) ?_
    refine F_iload_n (i := 2) (a := 2) rfl rfl (dk_X6_forged 76 _ rfl) ?_
    refine F_iald (axX_0_17) (dk_X6_forged 77 _ rfl) (fun x8 => ?_)
    refine F_icmp_eq (tgt := 98) (by decide) (dk_X6_forged 78 _ rfl) ?_ ?_
    · refine F_iinc (i := 3) (n := 1) (v := (y3 + 1)) (lv' := [(3, .int (y3 + 1)), (0, .ref 0), (1, .int y1), (2, .int y2)]) rfl (by first | rfl | decide) (by decide) rfl (dk_X6_forged 98 _ rfl) ?_
      refine F_goto (tgt := 62) (by decide) (dk_X6_forged 101 _ rfl) ?_
      exact F_loc (List.forall_mem_cons.mpr ⟨(.tail _ (.head _)), (List.forall_mem_cons.mpr ⟨(.tail _ (.tail _ (.head _))), (List.forall_mem_cons.mpr ⟨(.tail _ (.tail _ (.tail _ (.head _)))), (List.forall_mem_cons.mpr ⟨(.head _), (fun _ z => absurd z List.not_mem_nil)⟩)⟩)⟩)⟩) (hK62 _ _ _ _ )
    · refine F_aload_n (i := 0) (a := 0) rfl rfl (dk_X6_forged 81 _ rfl) ?_
      refine F_gR (b := 1) fxX_6_5_0 fl_6_11 (dk_X6_forged 82 _ rfl) ?_
      refine F_iload_n (i := 3) (a := 3) rfl rfl (dk_X6_forged 85 _ rfl) ?_
      refine F_iald (axX_0_1) (dk_X6_forged 86 _ rfl) (fun x9 => ?_)
      refine F_iload_n (i := 1) (a := 1) rfl rfl (dk_X6_forged 87 _ rfl) ?_
      refine F_icmp_ne (tgt := 98) (by decide) (dk_X6_forged 88 _ rfl) ?_ ?_
      · refine F_iinc (i := 3) (n := 1) (v := (y3 + 1)) (lv' := [(3, .int (y3 + 1)), (0, .ref 0), (1, .int y1), (2, .int y2)]) rfl (by first | rfl | decide) (by decide) rfl (dk_X6_forged 98 _ rfl) ?_
        refine F_goto (tgt := 62) (by decide) (dk_X6_forged 101 _ rfl) ?_
        exact F_loc (List.forall_mem_cons.mpr ⟨(.tail _ (.head _)), (List.forall_mem_cons.mpr ⟨(.tail _ (.tail _ (.head _))), (List.forall_mem_cons.mpr ⟨(.tail _ (.tail _ (.tail _ (.head _)))), (List.forall_mem_cons.mpr ⟨(.head _), (fun _ z => absurd z List.not_mem_nil)⟩)⟩)⟩)⟩) (hK62 _ _ _ _ )
      · refine F_bipush (v := 100) (by decide) (dk_X6_forged 91 _ rfl) ?_
        refine F_iload_n (i := 2) (a := 2) rfl rfl (dk_X6_forged 93 _ rfl) ?_
        refine F_imul (dk_X6_forged 94 _ rfl) ?_
        refine F_iload_n (i := 3) (a := 3) rfl rfl (dk_X6_forged 95 _ rfl) ?_
        refine F_iadd (dk_X6_forged 96 _ rfl) ?_
        exact F_ret rfl (dk_X6_forged 97 _ rfl)
theorem j_X6_forged_62 (K27 : mM → Int32 → Int32 → fR Int32) (hK27 : ∀ (m : mM) (y1 : Int32) (y2 : Int32) , JF true uI m_X6_forged 8 27 [(0, .ref 0), (1, .int y1), (2, .int y2)] [] m (K27 m y1 y2)) : ∀ (F : Nat) (m : mM) (y1 : Int32) (y2 : Int32) (y3 : Int32) , JF true uI m_X6_forged 8 62 [(0, .ref 0), (1, .int y1), (2, .int y2), (3, .int y3)] [] m (f_X6_forged_62 K27 F m y1 y2 y3) := by
  intro F
  induction F with
  | zero => intro m y1 y2 y3 ; exact F_no
  | succ F ih => intro m y1 y2 y3 ; exact jb_X6_forged_62 K27 (f_X6_forged_62 K27 F) hK27 ih m y1 y2 y3 
def fb_X6_forged_27 (K27 : mM → Int32 → Int32 → fR Int32) (m : mM) (y1 : Int32) (y2 : Int32) : fR Int32 :=
  (if (mI m 896) ≤ y2 then some ((-5), m) else chR true 5 (mR m 900) fun r4 => bnd (f_X6_tryDays m 35 y2 ((mI m (64 * r4 + 0)))) fun (x5 : Unit) (m6 : mM) => (f_X6_forged_62 K27 1000 m6 y1 y2 0))
def f_X6_forged_27  : Nat → mM → Int32 → Int32 → fR Int32
  | 0, _, _, _ => none
  | F + 1, m, y1, y2 => fb_X6_forged_27  (f_X6_forged_27  F) m y1 y2
theorem jb_X6_forged_27 (K27 : mM → Int32 → Int32 → fR Int32) (hK27 : ∀ (m : mM) (y1 : Int32) (y2 : Int32) , JF true uI m_X6_forged 8 27 [(0, .ref 0), (1, .int y1), (2, .int y2)] [] m (K27 m y1 y2)) (m : mM) (y1 : Int32) (y2 : Int32)  : JF true uI m_X6_forged 8 27 [(0, .ref 0), (1, .int y1), (2, .int y2)] [] m (fb_X6_forged_27 K27 m y1 y2) := by
  unfold fb_X6_forged_27
  refine F_iload_n (i := 2) (a := 2) rfl rfl (dk_X6_forged 27 _ rfl) ?_
  refine F_aload_n (i := 0) (a := 0) rfl rfl (dk_X6_forged 28 _ rfl) ?_
  refine F_gR (b := 14) fxX_6_0_0 fl_6_47 (dk_X6_forged 29 _ rfl) ?_
  refine F_gI (n := 896) fxX_2_0_14 rfl fl_6_71 (dk_X6_forged 32 _ rfl) ?_
  refine F_icmp_ge (tgt := 110) (by decide) (dk_X6_forged 35 _ rfl) ?_ ?_
  · refine F_bipush (v := (-5)) (by decide) (dk_X6_forged 110 _ rfl) ?_
    exact F_ret rfl (dk_X6_forged 112 _ rfl)
  · refine F_aload_n (i := 0) (a := 0) rfl rfl (dk_X6_forged 38 _ rfl) ?_
    refine F_aload_n (i := 0) (a := 0) rfl rfl (dk_X6_forged 39 _ rfl) ?_
    refine F_gR (b := 32) fxX_6_2_0 fl_6_54 (dk_X6_forged 40 _ rfl) ?_
    refine F_gR (b := 35) fxX_2_7_32 fl_6_103 (dk_X6_forged 43 _ rfl) ?_
    refine F_iload_n (i := 2) (a := 2) rfl rfl (dk_X6_forged 46 _ rfl) ?_
    refine F_aload_n (i := 0) (a := 0) rfl rfl (dk_X6_forged 47 _ rfl) ?_
    refine F_gR (b := 14) fxX_6_0_0 fl_6_47 (dk_X6_forged 48 _ rfl) ?_
    refine F_gV (n := 900) fxX_2_4_14 rfl fl_6_83 (dk_X6_forged 51 _ rfl) ?_
    refine F_ch (fun r4 hr4 => ?_)
    refine F_gI (n := (64 * r4 + 0)) (lyT_0 hr4) rfl fl_6_87 (dk_X6_forged 54 _ rfl) ?_
    refine F_callV (ι' := uU) (ci := 6) (b := 0) (As := [.ref 35, .int y2, .int (mI m (64 * r4 + 0))]) (d' := 7) (rfl) ok_X6_tryDays vi_X6_tryDays cl_6_192 (n := 3) (by decide +kernel) rfl rfl rfl (Nat.le_of_ble_eq_true rfl) (by omega) (dk_X6_forged 57 _ rfl) (c_X6_tryDays _ _ _ _ (axX_0_35)) (fun x5 m6 => ?_)
    show JF _ _ _ _ _ _ [] _ _
    refine F_iconst (v := 0) (by decide) (dk_X6_forged 60 _ rfl) ?_
    refine F_istore_n (lv' := [(3, .int 0), (0, .ref 0), (1, .int y1), (2, .int y2)]) (i := 3) (a := 3) rfl (by decide) rfl (dk_X6_forged 61 _ rfl) ?_
    exact F_loc (List.forall_mem_cons.mpr ⟨(.tail _ (.head _)), (List.forall_mem_cons.mpr ⟨(.tail _ (.tail _ (.head _))), (List.forall_mem_cons.mpr ⟨(.tail _ (.tail _ (.tail _ (.head _)))), (List.forall_mem_cons.mpr ⟨(.head _), (fun _ z => absurd z List.not_mem_nil)⟩)⟩)⟩)⟩) (j_X6_forged_62 K27 hK27 1000 _ _ _ _ )
theorem j_X6_forged_27   : ∀ (F : Nat) (m : mM) (y1 : Int32) (y2 : Int32) , JF true uI m_X6_forged 8 27 [(0, .ref 0), (1, .int y1), (2, .int y2)] [] m (f_X6_forged_27  F m y1 y2) := by
  intro F
  induction F with
  | zero => intro m y1 y2 ; exact F_no
  | succ F ih => intro m y1 y2 ; exact jb_X6_forged_27  (f_X6_forged_27  F)  ih m y1 y2 
def f_X6_forged (m : mM) (p1 : Int32) : fR Int32 :=
  (if p1 < 0 then some ((-2), m) else (if p1 ≤ 10000 then bnd (f_X2_copy m 32 14) fun (x1 : Unit) (m2 : mM) => (f_X6_forged_27  1000 m2 p1 0) else some ((-2), m)))
theorem c_X6_forged (m : mM) (p1 : Int32)  : cF true uI m_X6_forged 8 [.ref 0, .int p1] m (f_X6_forged m p1) := by
  refine cF_of ok_X6_forged (fun _ _ => Nat.le_of_ble_eq_true rfl) ?_
  unfold f_X6_forged
  show JF _ _ _ _ _ [(0, .ref 0), (1, .int p1)] _ _ _
  refine F_iload_n (i := 1) (a := 1) rfl rfl (dk_X6_forged 0 _ rfl) ?_
  refine F_if_lt (tgt := 11) (by decide) (dk_X6_forged 1 _ rfl) ?_ ?_
  · refine F_bipush (v := (-2)) (by decide) (dk_X6_forged 11 _ rfl) ?_
    exact F_ret rfl (dk_X6_forged 13 _ rfl)
  · refine F_iload_n (i := 1) (a := 1) rfl rfl (dk_X6_forged 4 _ rfl) ?_
    refine F_sipush (v := 10000) (by decide) (dk_X6_forged 5 _ rfl) ?_
    refine F_icmp_le (tgt := 14) (by decide) (dk_X6_forged 8 _ rfl) ?_ ?_
    · refine F_aload_n (i := 0) (a := 0) rfl rfl (dk_X6_forged 14 _ rfl) ?_
      refine F_gR (b := 32) fxX_6_2_0 fl_6_54 (dk_X6_forged 15 _ rfl) ?_
      refine F_aload_n (i := 0) (a := 0) rfl rfl (dk_X6_forged 18 _ rfl) ?_
      refine F_gR (b := 14) fxX_6_0_0 fl_6_47 (dk_X6_forged 19 _ rfl) ?_
      refine F_callV (ι' := uU) (ci := 2) (b := 32) (As := [.ref 14]) (d' := 2) (rfl) ok_X2_copy vi_X2_copy cl_6_185 (n := 1) (by decide +kernel) rfl rfl rfl (Nat.le_of_ble_eq_true rfl) (by omega) (dk_X6_forged 22 _ rfl) (c_X2_copy _ _ _ (rfl) (rfl)) (fun x1 m2 => ?_)
      show JF _ _ _ _ _ _ [] _ _
      refine F_iconst (v := 0) (by decide) (dk_X6_forged 25 _ rfl) ?_
      refine F_istore_n (lv' := [(2, .int 0), (0, .ref 0), (1, .int p1)]) (i := 2) (a := 2) rfl (by decide) rfl (dk_X6_forged 26 _ rfl) ?_
      exact F_loc (List.forall_mem_cons.mpr ⟨(.tail _ (.head _)), (List.forall_mem_cons.mpr ⟨(.tail _ (.tail _ (.head _))), (List.forall_mem_cons.mpr ⟨(.head _), (fun _ z => absurd z List.not_mem_nil)⟩)⟩)⟩) (j_X6_forged_27   1000 _ _ _ )
    · refine F_bipush (v := (-2)) (by decide) (dk_X6_forged 11 _ rfl) ?_
      exact F_ret rfl (dk_X6_forged 13 _ rfl)
def f_X6_betterPlan (m : mM) (p1 : Int32) (p2 : Int32) : fR Int32 :=
  bnd (f_X6_tryDays m 36 p1 p2) fun (x1 : Unit) (m2 : mM) => bnd (f_X6_firstMost m2 ) fun (x4 : Int32) (m5 : mM) => (gA (mA m5 36) p1).bind fun x7 => (gA (mA m5 1) x4).bind fun x8 => (gA (mA m5 1) x7).bind fun x9 => (if x8 ≤ x9 then some (x7, m5) else some (x4, m5))
theorem c_X6_betterPlan (m : mM) (p1 : Int32) (p2 : Int32)  : cF true uI m_X6_betterPlan 8 [.ref 0, .int p1, .int p2] m (f_X6_betterPlan m p1 p2) := by
  refine cF_of ok_X6_betterPlan (fun _ _ => Nat.le_of_ble_eq_true rfl) ?_
  unfold f_X6_betterPlan
  show JF _ _ _ _ _ [(0, .ref 0), (1, .int p1), (2, .int p2)] _ _ _
  refine F_aload_n (i := 0) (a := 0) rfl rfl (dk_X6_betterPlan 0 _ rfl) ?_
  refine F_aload_n (i := 0) (a := 0) rfl rfl (dk_X6_betterPlan 1 _ rfl) ?_
  refine F_gR (b := 32) fxX_6_2_0 fl_6_54 (dk_X6_betterPlan 2 _ rfl) ?_
  refine F_gR (b := 36) fxX_2_8_32 fl_6_106 (dk_X6_betterPlan 5 _ rfl) ?_
  refine F_iload_n (i := 1) (a := 1) rfl rfl (dk_X6_betterPlan 8 _ rfl) ?_
  refine F_iload_n (i := 2) (a := 2) rfl rfl (dk_X6_betterPlan 9 _ rfl) ?_
  refine F_callV (ι' := uU) (ci := 6) (b := 0) (As := [.ref 36, .int p1, .int p2]) (d' := 7) (rfl) ok_X6_tryDays vi_X6_tryDays cl_6_192 (n := 3) (by decide +kernel) rfl rfl rfl (Nat.le_of_ble_eq_true rfl) (by omega) (dk_X6_betterPlan 10 _ rfl) (c_X6_tryDays _ _ _ _ (axX_0_36)) (fun x1 m2 => ?_)
  show JF _ _ _ _ _ _ [] _ _
  refine F_aload_n (i := 0) (a := 0) rfl rfl (dk_X6_betterPlan 13 _ rfl) ?_
  refine F_callV (ι' := uI) (ci := 6) (b := 0) (As := []) (d' := 2) (rfl) ok_X6_firstMost vi_X6_firstMost cl_6_269 (n := 0) (by decide +kernel) rfl rfl rfl (Nat.le_of_ble_eq_true rfl) (by omega) (dk_X6_betterPlan 14 _ rfl) (c_X6_firstMost _  ) (fun x4 m5 => ?_)
  show JF _ _ _ _ _ _ [.int x4] _ _
  refine F_istore_n (lv' := [(3, .int x4), (0, .ref 0), (1, .int p1), (2, .int p2)]) (i := 3) (a := 3) rfl (by decide) rfl (dk_X6_betterPlan 17 _ rfl) ?_
  refine F_aload_n (i := 0) (a := 0) rfl rfl (dk_X6_betterPlan 18 _ rfl) ?_
  refine F_gR (b := 32) fxX_6_2_0 fl_6_54 (dk_X6_betterPlan 19 _ rfl) ?_
  refine F_gR (b := 36) fxX_2_8_32 fl_6_106 (dk_X6_betterPlan 22 _ rfl) ?_
  refine F_iload_n (i := 1) (a := 1) rfl rfl (dk_X6_betterPlan 25 _ rfl) ?_
  refine F_iald (axX_0_36) (dk_X6_betterPlan 26 _ rfl) (fun x7 => ?_)
  refine F_istore (lv' := [(4, .int x7), (3, .int x4), (0, .ref 0), (1, .int p1), (2, .int p2)]) (i := 4) (by decide) rfl (dk_X6_betterPlan 27 _ rfl) ?_
  refine F_aload_n (i := 0) (a := 0) rfl rfl (dk_X6_betterPlan 29 _ rfl) ?_
  refine F_gR (b := 1) fxX_6_5_0 fl_6_11 (dk_X6_betterPlan 30 _ rfl) ?_
  refine F_iload_n (i := 3) (a := 3) rfl rfl (dk_X6_betterPlan 33 _ rfl) ?_
  refine F_iald (axX_0_1) (dk_X6_betterPlan 34 _ rfl) (fun x8 => ?_)
  refine F_aload_n (i := 0) (a := 0) rfl rfl (dk_X6_betterPlan 35 _ rfl) ?_
  refine F_gR (b := 1) fxX_6_5_0 fl_6_11 (dk_X6_betterPlan 36 _ rfl) ?_
  refine F_iload (i := 4) rfl (dk_X6_betterPlan 39 _ rfl) ?_
  refine F_iald (axX_0_1) (dk_X6_betterPlan 41 _ rfl) (fun x9 => ?_)
  refine F_icmp_le (tgt := 49) (by decide) (dk_X6_betterPlan 42 _ rfl) ?_ ?_
  · refine F_iload (i := 4) rfl (dk_X6_betterPlan 49 _ rfl) ?_
    exact F_ret rfl (dk_X6_betterPlan 51 _ rfl)
  · refine F_iload_n (i := 3) (a := 3) rfl rfl (dk_X6_betterPlan 45 _ rfl) ?_
    refine F_goto (tgt := 51) (by decide) (dk_X6_betterPlan 46 _ rfl) ?_
    exact F_ret rfl (dk_X6_betterPlan 51 _ rfl)
def f_X6_change (m : mM) (p1 : Int32) : fR Int32 :=
  bnd (f_X6_isPerson m p1) fun (x1 : Int32) (m2 : mM) => (if x1 = 0 then some ((-1), m2) else bnd (f_X2_copy m2 32 14) fun (x4 : Unit) (m5 : mM) => chR true 5 (mR m5 900) fun r7 => bnd (f_X6_betterPlan m5 p1 ((mI m5 (64 * r7 + 0)))) fun (x8 : Int32) (m9 : mM) => (gA (mA m9 18) p1).bind fun x11 => (if x8 = x11 then some (0, m9) else some (1, m9)))
theorem c_X6_change (m : mM) (p1 : Int32)  : cF true uI m_X6_change 9 [.ref 0, .int p1] m (f_X6_change m p1) := by
  refine cF_of ok_X6_change (fun _ _ => Nat.le_of_ble_eq_true rfl) ?_
  unfold f_X6_change
  show JF _ _ _ _ _ [(0, .ref 0), (1, .int p1)] _ _ _
  refine F_aload_n (i := 0) (a := 0) rfl rfl (dk_X6_change 0 _ rfl) ?_
  refine F_iload_n (i := 1) (a := 1) rfl rfl (dk_X6_change 1 _ rfl) ?_
  refine F_callV (ι' := uI) (ci := 6) (b := 0) (As := [.int p1]) (d' := 2) (rfl) ok_X6_isPerson vi_X6_isPerson cl_6_79 (n := 1) (by decide +kernel) rfl rfl rfl (Nat.le_of_ble_eq_true rfl) (by omega) (dk_X6_change 2 _ rfl) (c_X6_isPerson _ _ ) (fun x1 m2 => ?_)
  show JF _ _ _ _ _ _ [.int x1] _ _
  refine F_if_ne (tgt := 10) (by decide) (dk_X6_change 5 _ rfl) ?_ ?_
  · refine F_aload_n (i := 0) (a := 0) rfl rfl (dk_X6_change 10 _ rfl) ?_
    refine F_gR (b := 32) fxX_6_2_0 fl_6_54 (dk_X6_change 11 _ rfl) ?_
    refine F_aload_n (i := 0) (a := 0) rfl rfl (dk_X6_change 14 _ rfl) ?_
    refine F_gR (b := 14) fxX_6_0_0 fl_6_47 (dk_X6_change 15 _ rfl) ?_
    refine F_callV (ι' := uU) (ci := 2) (b := 32) (As := [.ref 14]) (d' := 2) (rfl) ok_X2_copy vi_X2_copy cl_6_185 (n := 1) (by decide +kernel) rfl rfl rfl (Nat.le_of_ble_eq_true rfl) (by omega) (dk_X6_change 18 _ rfl) (c_X2_copy _ _ _ (rfl) (rfl)) (fun x4 m5 => ?_)
    show JF _ _ _ _ _ _ [] _ _
    refine F_aload_n (i := 0) (a := 0) rfl rfl (dk_X6_change 21 _ rfl) ?_
    refine F_iload_n (i := 1) (a := 1) rfl rfl (dk_X6_change 22 _ rfl) ?_
    refine F_aload_n (i := 0) (a := 0) rfl rfl (dk_X6_change 23 _ rfl) ?_
    refine F_gR (b := 14) fxX_6_0_0 fl_6_47 (dk_X6_change 24 _ rfl) ?_
    refine F_gV (n := 900) fxX_2_4_14 rfl fl_6_83 (dk_X6_change 27 _ rfl) ?_
    refine F_ch (fun r7 hr7 => ?_)
    refine F_gI (n := (64 * r7 + 0)) (lyT_0 hr7) rfl fl_6_87 (dk_X6_change 30 _ rfl) ?_
    refine F_callV (ι' := uI) (ci := 6) (b := 0) (As := [.int p1, .int (mI m5 (64 * r7 + 0))]) (d' := 8) (rfl) ok_X6_betterPlan vi_X6_betterPlan cl_6_196 (n := 2) (by decide +kernel) rfl rfl rfl (Nat.le_of_ble_eq_true rfl) (by omega) (dk_X6_change 33 _ rfl) (c_X6_betterPlan _ _ _ ) (fun x8 m9 => ?_)
    show JF _ _ _ _ _ _ [.int x8] _ _
    refine F_aload_n (i := 0) (a := 0) rfl rfl (dk_X6_change 36 _ rfl) ?_
    refine F_gR (b := 14) fxX_6_0_0 fl_6_47 (dk_X6_change 37 _ rfl) ?_
    refine F_gR (b := 18) fxX_2_8_14 fl_6_106 (dk_X6_change 40 _ rfl) ?_
    refine F_iload_n (i := 1) (a := 1) rfl rfl (dk_X6_change 43 _ rfl) ?_
    refine F_iald (axX_0_18) (dk_X6_change 44 _ rfl) (fun x11 => ?_)
    refine F_icmp_eq (tgt := 52) (by decide) (dk_X6_change 45 _ rfl) ?_ ?_
    · refine F_iconst (v := 0) (by decide) (dk_X6_change 52 _ rfl) ?_
      exact F_ret rfl (dk_X6_change 53 _ rfl)
    · refine F_iconst (v := 1) (by decide) (dk_X6_change 48 _ rfl) ?_
      refine F_goto (tgt := 53) (by decide) (dk_X6_change 49 _ rfl) ?_
      exact F_ret rfl (dk_X6_change 53 _ rfl)
  · refine F_iconst (v := (-1)) (by decide) (dk_X6_change 8 _ rfl) ?_
    exact F_ret rfl (dk_X6_change 9 _ rfl)
def f_X6_rest_160  (m : mM) (y1 : Int32) (y2 : Int32) : fR Int32 :=
  (if y2 ≤ 8 then (if y1 = 0 then some (y2, m) else (gA (mA m 36) (y1 - 10)).bind fun x4 => some (x4, m)) else some ((-5), m))
theorem j_X6_rest_160   (m : mM) (y1 : Int32) (y2 : Int32)  : JF true uI m_X6_rest 9 160 [(0, .ref 0), (1, .int y1), (2, .int y2)] [] m (f_X6_rest_160  m y1 y2) := by
  unfold f_X6_rest_160
  refine F_iload_n (i := 2) (a := 2) rfl rfl (dk_X6_rest 160 _ rfl) ?_
  refine F_bipush (v := 8) (by decide) (dk_X6_rest 161 _ rfl) ?_
  refine F_icmp_le (tgt := 169) (by decide) (dk_X6_rest 163 _ rfl) ?_ ?_
  · refine F_iload_n (i := 1) (a := 1) rfl rfl (dk_X6_rest 169 _ rfl) ?_
    refine F_if_ne (tgt := 177) (by decide) (dk_X6_rest 170 _ rfl) ?_ ?_
    · refine F_aload_n (i := 0) (a := 0) rfl rfl (dk_X6_rest 177 _ rfl) ?_
      refine F_gR (b := 32) fxX_6_2_0 fl_6_54 (dk_X6_rest 178 _ rfl) ?_
      refine F_gR (b := 36) fxX_2_8_32 fl_6_106 (dk_X6_rest 181 _ rfl) ?_
      refine F_iload_n (i := 1) (a := 1) rfl rfl (dk_X6_rest 184 _ rfl) ?_
      refine F_bipush (v := 10) (by decide) (dk_X6_rest 185 _ rfl) ?_
      refine F_isub (dk_X6_rest 187 _ rfl) ?_
      refine F_iald (axX_0_36) (dk_X6_rest 188 _ rfl) (fun x4 => ?_)
      exact F_ret rfl (dk_X6_rest 189 _ rfl)
    · refine F_iload_n (i := 2) (a := 2) rfl rfl (dk_X6_rest 173 _ rfl) ?_
      refine F_goto (tgt := 189) (by decide) (dk_X6_rest 174 _ rfl) ?_
      exact F_ret rfl (dk_X6_rest 189 _ rfl)
  · refine F_bipush (v := (-5)) (by decide) (dk_X6_rest 166 _ rfl) ?_
    exact F_ret rfl (dk_X6_rest 168 _ rfl)
def f_X6_rest_114 (K44 : mM → Int32 → Int32 → Int32 → Int32 → fR Int32) (K60 : mM → Int32 → Int32 → Int32 → Int32 → Int32 → fR Int32) (m : mM) (y1 : Int32) (y2 : Int32) (y3 : Int32) (y4 : Int32) (y5 : Int32) (y100 : Int32) : fR Int32 :=
  (gA (mA m 36) y5).bind fun x7 => (if y100 = x7 then (K60 m y1 y2 y3 y4 (y5 + 1)) else (sA 0 m 36 y5 y100).bind fun m8 => (K60 m8 y1 (y2 + 1) 0 y4 (y5 + 1)))
theorem j_X6_rest_114 (K44 : mM → Int32 → Int32 → Int32 → Int32 → fR Int32) (K60 : mM → Int32 → Int32 → Int32 → Int32 → Int32 → fR Int32) (hK44 : ∀ (m : mM) (y1 : Int32) (y2 : Int32) (y3 : Int32) (y4 : Int32) , JF true uI m_X6_rest 9 44 [(0, .ref 0), (1, .int y1), (2, .int y2), (3, .int y3), (4, .int y4)] [] m (K44 m y1 y2 y3 y4)) (hK60 : ∀ (m : mM) (y1 : Int32) (y2 : Int32) (y3 : Int32) (y4 : Int32) (y5 : Int32) , JF true uI m_X6_rest 9 60 [(0, .ref 0), (1, .int y1), (2, .int y2), (3, .int y3), (4, .int y4), (5, .int y5)] [] m (K60 m y1 y2 y3 y4 y5)) (m : mM) (y1 : Int32) (y2 : Int32) (y3 : Int32) (y4 : Int32) (y5 : Int32) (y100 : Int32)  : JF true uI m_X6_rest 9 114 [(0, .ref 0), (1, .int y1), (2, .int y2), (3, .int y3), (4, .int y4), (5, .int y5)] [.int y100] m (f_X6_rest_114 K44 K60 m y1 y2 y3 y4 y5 y100) := by
  unfold f_X6_rest_114
  refine F_istore (lv' := [(6, .int y100), (0, .ref 0), (1, .int y1), (2, .int y2), (3, .int y3), (4, .int y4), (5, .int y5)]) (i := 6) (by decide) rfl (dk_X6_rest 114 _ rfl) ?_
  refine F_iload (i := 6) rfl (dk_X6_rest 116 _ rfl) ?_
  refine F_aload_n (i := 0) (a := 0) rfl rfl (dk_X6_rest 118 _ rfl) ?_
  refine F_gR (b := 32) fxX_6_2_0 fl_6_54 (dk_X6_rest 119 _ rfl) ?_
  refine F_gR (b := 36) fxX_2_8_32 fl_6_106 (dk_X6_rest 122 _ rfl) ?_
  refine F_iload (i := 5) rfl (dk_X6_rest 125 _ rfl) ?_
  refine F_iald (axX_0_36) (dk_X6_rest 127 _ rfl) (fun x7 => ?_)
  refine F_icmp_eq (tgt := 148) (by decide) (dk_X6_rest 128 _ rfl) ?_ ?_
  · refine F_iinc (i := 5) (n := 1) (v := (y5 + 1)) (lv' := [(5, .int (y5 + 1)), (6, .int y100), (0, .ref 0), (1, .int y1), (2, .int y2), (3, .int y3), (4, .int y4)]) rfl (by first | rfl | decide) (by decide) rfl (dk_X6_rest 148 _ rfl) ?_
    refine F_goto (tgt := 60) (by decide) (dk_X6_rest 151 _ rfl) ?_
    exact F_loc (List.forall_mem_cons.mpr ⟨(.tail _ (.tail _ (.head _))), (List.forall_mem_cons.mpr ⟨(.tail _ (.tail _ (.tail _ (.head _)))), (List.forall_mem_cons.mpr ⟨(.tail _ (.tail _ (.tail _ (.tail _ (.head _))))), (List.forall_mem_cons.mpr ⟨(.tail _ (.tail _ (.tail _ (.tail _ (.tail _ (.head _)))))), (List.forall_mem_cons.mpr ⟨(.tail _ (.tail _ (.tail _ (.tail _ (.tail _ (.tail _ (.head _))))))), (List.forall_mem_cons.mpr ⟨(.head _), (fun _ z => absurd z List.not_mem_nil)⟩)⟩)⟩)⟩)⟩)⟩) (hK60 _ _ _ _ _ _ )
  · refine F_aload_n (i := 0) (a := 0) rfl rfl (dk_X6_rest 131 _ rfl) ?_
    refine F_gR (b := 32) fxX_6_2_0 fl_6_54 (dk_X6_rest 132 _ rfl) ?_
    refine F_gR (b := 36) fxX_2_8_32 fl_6_106 (dk_X6_rest 135 _ rfl) ?_
    refine F_iload (i := 5) rfl (dk_X6_rest 138 _ rfl) ?_
    refine F_iload (i := 6) rfl (dk_X6_rest 140 _ rfl) ?_
    refine F_iast (axX_0_36) (dk_X6_rest 142 _ rfl) (fun m8 => ?_)
    refine F_iinc (i := 2) (n := 1) (v := (y2 + 1)) (lv' := [(2, .int (y2 + 1)), (6, .int y100), (0, .ref 0), (1, .int y1), (3, .int y3), (4, .int y4), (5, .int y5)]) rfl (by first | rfl | decide) (by decide) rfl (dk_X6_rest 143 _ rfl) ?_
    refine F_iconst (v := 0) (by decide) (dk_X6_rest 146 _ rfl) ?_
    refine F_istore_n (lv' := [(3, .int 0), (2, .int (y2 + 1)), (6, .int y100), (0, .ref 0), (1, .int y1), (4, .int y4), (5, .int y5)]) (i := 3) (a := 3) rfl (by decide) rfl (dk_X6_rest 147 _ rfl) ?_
    refine F_iinc (i := 5) (n := 1) (v := (y5 + 1)) (lv' := [(5, .int (y5 + 1)), (3, .int 0), (2, .int (y2 + 1)), (6, .int y100), (0, .ref 0), (1, .int y1), (4, .int y4)]) rfl (by first | rfl | decide) (by decide) rfl (dk_X6_rest 148 _ rfl) ?_
    refine F_goto (tgt := 60) (by decide) (dk_X6_rest 151 _ rfl) ?_
    exact F_loc (List.forall_mem_cons.mpr ⟨(.tail _ (.tail _ (.tail _ (.tail _ (.head _))))), (List.forall_mem_cons.mpr ⟨(.tail _ (.tail _ (.tail _ (.tail _ (.tail _ (.head _)))))), (List.forall_mem_cons.mpr ⟨(.tail _ (.tail _ (.head _))), (List.forall_mem_cons.mpr ⟨(.tail _ (.head _)), (List.forall_mem_cons.mpr ⟨(.tail _ (.tail _ (.tail _ (.tail _ (.tail _ (.tail _ (.head _))))))), (List.forall_mem_cons.mpr ⟨(.head _), (fun _ z => absurd z List.not_mem_nil)⟩)⟩)⟩)⟩)⟩)⟩) (hK60 _ _ _ _ _ _ )
def fb_X6_rest_60 (K44 : mM → Int32 → Int32 → Int32 → Int32 → fR Int32) (K60 : mM → Int32 → Int32 → Int32 → Int32 → Int32 → fR Int32) (m : mM) (y1 : Int32) (y2 : Int32) (y3 : Int32) (y4 : Int32) (y5 : Int32) : fR Int32 :=
  (if (mI m 2048) ≤ y5 then (K44 m y1 y2 y3 (y4 + 1)) else (gA (mA m 38) y5).bind fun x5 => (if x5 = 0 then (gA (mA m 36) y5).bind fun x6 => (f_X6_rest_114 K44 K60 m y1 y2 y3 y4 y5 x6) else chR true 5 (mR m 2052) fun r9 => bnd (f_X6_betterPlan m y5 ((mI m (64 * r9 + 0)))) fun (x10 : Int32) (m11 : mM) => (f_X6_rest_114 K44 K60 m11 y1 y2 y3 y4 y5 x10)))
def f_X6_rest_60 (K44 : mM → Int32 → Int32 → Int32 → Int32 → fR Int32) : Nat → mM → Int32 → Int32 → Int32 → Int32 → Int32 → fR Int32
  | 0, _, _, _, _, _, _ => none
  | F + 1, m, y1, y2, y3, y4, y5 => fb_X6_rest_60 K44 (f_X6_rest_60 K44 F) m y1 y2 y3 y4 y5
theorem jb_X6_rest_60 (K44 : mM → Int32 → Int32 → Int32 → Int32 → fR Int32) (K60 : mM → Int32 → Int32 → Int32 → Int32 → Int32 → fR Int32) (hK44 : ∀ (m : mM) (y1 : Int32) (y2 : Int32) (y3 : Int32) (y4 : Int32) , JF true uI m_X6_rest 9 44 [(0, .ref 0), (1, .int y1), (2, .int y2), (3, .int y3), (4, .int y4)] [] m (K44 m y1 y2 y3 y4)) (hK60 : ∀ (m : mM) (y1 : Int32) (y2 : Int32) (y3 : Int32) (y4 : Int32) (y5 : Int32) , JF true uI m_X6_rest 9 60 [(0, .ref 0), (1, .int y1), (2, .int y2), (3, .int y3), (4, .int y4), (5, .int y5)] [] m (K60 m y1 y2 y3 y4 y5)) (m : mM) (y1 : Int32) (y2 : Int32) (y3 : Int32) (y4 : Int32) (y5 : Int32)  : JF true uI m_X6_rest 9 60 [(0, .ref 0), (1, .int y1), (2, .int y2), (3, .int y3), (4, .int y4), (5, .int y5)] [] m (fb_X6_rest_60 K44 K60 m y1 y2 y3 y4 y5) := by
  unfold fb_X6_rest_60
  refine F_iload (i := 5) rfl (dk_X6_rest 60 _ rfl) ?_
  refine F_aload_n (i := 0) (a := 0) rfl rfl (dk_X6_rest 62 _ rfl) ?_
  refine F_gR (b := 32) fxX_6_2_0 fl_6_54 (dk_X6_rest 63 _ rfl) ?_
  refine F_gI (n := 2048) fxX_2_0_32 rfl fl_6_71 (dk_X6_rest 66 _ rfl) ?_
  refine F_icmp_ge (tgt := 154) (by decide) (dk_X6_rest 69 _ rfl) ?_ ?_
  · refine F_iinc (i := 4) (n := 1) (v := (y4 + 1)) (lv' := [(4, .int (y4 + 1)), (0, .ref 0), (1, .int y1), (2, .int y2), (3, .int y3), (5, .int y5)]) rfl (by first | rfl | decide) (by decide) rfl (dk_X6_rest 154 _ rfl) ?_
    refine F_goto (tgt := 44) (by decide) (dk_X6_rest 157 _ rfl) ?_
    exact F_loc (List.forall_mem_cons.mpr ⟨(.tail _ (.head _)), (List.forall_mem_cons.mpr ⟨(.tail _ (.tail _ (.head _))), (List.forall_mem_cons.mpr ⟨(.tail _ (.tail _ (.tail _ (.head _)))), (List.forall_mem_cons.mpr ⟨(.tail _ (.tail _ (.tail _ (.tail _ (.head _))))), (List.forall_mem_cons.mpr ⟨(.head _), (fun _ z => absurd z List.not_mem_nil)⟩)⟩)⟩)⟩)⟩) (hK44 _ _ _ _ _ )
  · refine F_aload_n (i := 0) (a := 0) rfl rfl (dk_X6_rest 72 _ rfl) ?_
    refine F_gR (b := 32) fxX_6_2_0 fl_6_54 (dk_X6_rest 73 _ rfl) ?_
    refine F_gR (b := 38) fxX_2_10_32 fl_6_109 (dk_X6_rest 76 _ rfl) ?_
    refine F_iload (i := 5) rfl (dk_X6_rest 79 _ rfl) ?_
    refine F_zald (axX_3_38) (dk_X6_rest 81 _ rfl) (fun x5 => ?_)
    refine F_if_eq (tgt := 104) (by decide) (dk_X6_rest 82 _ rfl) ?_ ?_
    · refine F_aload_n (i := 0) (a := 0) rfl rfl (dk_X6_rest 104 _ rfl) ?_
      refine F_gR (b := 32) fxX_6_2_0 fl_6_54 (dk_X6_rest 105 _ rfl) ?_
      refine F_gR (b := 36) fxX_2_8_32 fl_6_106 (dk_X6_rest 108 _ rfl) ?_
      refine F_iload (i := 5) rfl (dk_X6_rest 111 _ rfl) ?_
      refine F_iald (axX_0_36) (dk_X6_rest 113 _ rfl) (fun x6 => ?_)
      exact F_loc (fun _ z => z) (j_X6_rest_114 K44 K60 hK44 hK60 _ _ _ _ _ _ _ )
    · refine F_aload_n (i := 0) (a := 0) rfl rfl (dk_X6_rest 85 _ rfl) ?_
      refine F_iload (i := 5) rfl (dk_X6_rest 86 _ rfl) ?_
      refine F_aload_n (i := 0) (a := 0) rfl rfl (dk_X6_rest 88 _ rfl) ?_
      refine F_gR (b := 32) fxX_6_2_0 fl_6_54 (dk_X6_rest 89 _ rfl) ?_
      refine F_gV (n := 2052) fxX_2_4_32 rfl fl_6_83 (dk_X6_rest 92 _ rfl) ?_
      refine F_ch (fun r9 hr9 => ?_)
      refine F_gI (n := (64 * r9 + 0)) (lyT_0 hr9) rfl fl_6_87 (dk_X6_rest 95 _ rfl) ?_
      refine F_callV (ι' := uI) (ci := 6) (b := 0) (As := [.int y5, .int (mI m (64 * r9 + 0))]) (d' := 8) (rfl) ok_X6_betterPlan vi_X6_betterPlan cl_6_196 (n := 2) (by decide +kernel) rfl rfl rfl (Nat.le_of_ble_eq_true rfl) (by omega) (dk_X6_rest 98 _ rfl) (c_X6_betterPlan _ _ _ ) (fun x10 m11 => ?_)
      show JF _ _ _ _ _ _ [.int x10] _ _
      refine F_goto (tgt := 114) (by decide) (dk_X6_rest 101 _ rfl) ?_
      exact F_loc (fun _ z => z) (j_X6_rest_114 K44 K60 hK44 hK60 _ _ _ _ _ _ _ )
theorem j_X6_rest_60 (K44 : mM → Int32 → Int32 → Int32 → Int32 → fR Int32) (hK44 : ∀ (m : mM) (y1 : Int32) (y2 : Int32) (y3 : Int32) (y4 : Int32) , JF true uI m_X6_rest 9 44 [(0, .ref 0), (1, .int y1), (2, .int y2), (3, .int y3), (4, .int y4)] [] m (K44 m y1 y2 y3 y4)) : ∀ (F : Nat) (m : mM) (y1 : Int32) (y2 : Int32) (y3 : Int32) (y4 : Int32) (y5 : Int32) , JF true uI m_X6_rest 9 60 [(0, .ref 0), (1, .int y1), (2, .int y2), (3, .int y3), (4, .int y4), (5, .int y5)] [] m (f_X6_rest_60 K44 F m y1 y2 y3 y4 y5) := by
  intro F
  induction F with
  | zero => intro m y1 y2 y3 y4 y5 ; exact F_no
  | succ F ih => intro m y1 y2 y3 y4 y5 ; exact jb_X6_rest_60 K44 (f_X6_rest_60 K44 F) hK44 ih m y1 y2 y3 y4 y5 
def fb_X6_rest_44 (K44 : mM → Int32 → Int32 → Int32 → Int32 → fR Int32) (m : mM) (y1 : Int32) (y2 : Int32) (y3 : Int32) (y4 : Int32) : fR Int32 :=
  (if 8 < y4 then (f_X6_rest_160  m y1 y2) else (if y3 = 0 then (f_X6_rest_60 K44 1000 m y1 y2 1 y4 0) else (f_X6_rest_160  m y1 y2)))
def f_X6_rest_44  : Nat → mM → Int32 → Int32 → Int32 → Int32 → fR Int32
  | 0, _, _, _, _, _ => none
  | F + 1, m, y1, y2, y3, y4 => fb_X6_rest_44  (f_X6_rest_44  F) m y1 y2 y3 y4
theorem jb_X6_rest_44 (K44 : mM → Int32 → Int32 → Int32 → Int32 → fR Int32) (hK44 : ∀ (m : mM) (y1 : Int32) (y2 : Int32) (y3 : Int32) (y4 : Int32) , JF true uI m_X6_rest 9 44 [(0, .ref 0), (1, .int y1), (2, .int y2), (3, .int y3), (4, .int y4)] [] m (K44 m y1 y2 y3 y4)) (m : mM) (y1 : Int32) (y2 : Int32) (y3 : Int32) (y4 : Int32)  : JF true uI m_X6_rest 9 44 [(0, .ref 0), (1, .int y1), (2, .int y2), (3, .int y3), (4, .int y4)] [] m (fb_X6_rest_44 K44 m y1 y2 y3 y4) := by
  unfold fb_X6_rest_44
  refine F_iload (i := 4) rfl (dk_X6_rest 44 _ rfl) ?_
  refine F_bipush (v := 8) (by decide) (dk_X6_rest 46 _ rfl) ?_
  refine F_icmp_gt (tgt := 160) (by decide) (dk_X6_rest 48 _ rfl) ?_ ?_
  · exact F_loc (List.forall_mem_cons.mpr ⟨(.head _), (List.forall_mem_cons.mpr ⟨(.tail _ (.head _)), (List.forall_mem_cons.mpr ⟨(.tail _ (.tail _ (.head _))), (fun _ z => absurd z List.not_mem_nil)⟩)⟩)⟩) (j_X6_rest_160   _ _ _ )
  · refine F_iload_n (i := 3) (a := 3) rfl rfl (dk_X6_rest 51 _ rfl) ?_
    refine F_if_ne (tgt := 160) (by decide) (dk_X6_rest 52 _ rfl) ?_ ?_
    · exact F_loc (List.forall_mem_cons.mpr ⟨(.head _), (List.forall_mem_cons.mpr ⟨(.tail _ (.head _)), (List.forall_mem_cons.mpr ⟨(.tail _ (.tail _ (.head _))), (fun _ z => absurd z List.not_mem_nil)⟩)⟩)⟩) (j_X6_rest_160   _ _ _ )
    · refine F_iconst (v := 1) (by decide) (dk_X6_rest 55 _ rfl) ?_
      refine F_istore_n (lv' := [(3, .int 1), (0, .ref 0), (1, .int y1), (2, .int y2), (4, .int y4)]) (i := 3) (a := 3) rfl (by decide) rfl (dk_X6_rest 56 _ rfl) ?_
      refine F_iconst (v := 0) (by decide) (dk_X6_rest 57 _ rfl) ?_
      refine F_istore (lv' := [(5, .int 0), (3, .int 1), (0, .ref 0), (1, .int y1), (2, .int y2), (4, .int y4)]) (i := 5) (by decide) rfl (dk_X6_rest 58 _ rfl) ?_
      exact F_loc (List.forall_mem_cons.mpr ⟨(.tail _ (.tail _ (.head _))), (List.forall_mem_cons.mpr ⟨(.tail _ (.tail _ (.tail _ (.head _)))), (List.forall_mem_cons.mpr ⟨(.tail _ (.tail _ (.tail _ (.tail _ (.head _))))), (List.forall_mem_cons.mpr ⟨(.tail _ (.head _)), (List.forall_mem_cons.mpr ⟨(.tail _ (.tail _ (.tail _ (.tail _ (.tail _ (.head _)))))), (List.forall_mem_cons.mpr ⟨(.head _), (fun _ z => absurd z List.not_mem_nil)⟩)⟩)⟩)⟩)⟩)⟩) (j_X6_rest_60 K44 hK44 1000 _ _ _ _ _ _ )
theorem j_X6_rest_44   : ∀ (F : Nat) (m : mM) (y1 : Int32) (y2 : Int32) (y3 : Int32) (y4 : Int32) , JF true uI m_X6_rest 9 44 [(0, .ref 0), (1, .int y1), (2, .int y2), (3, .int y3), (4, .int y4)] [] m (f_X6_rest_44  F m y1 y2 y3 y4) := by
  intro F
  induction F with
  | zero => intro m y1 y2 y3 y4 ; exact F_no
  | succ F ih => intro m y1 y2 y3 y4 ; exact jb_X6_rest_44  (f_X6_rest_44  F)  ih m y1 y2 y3 y4 
def f_X6_rest_26  (m : mM) (y1 : Int32) : fR Int32 :=
  bnd (f_X2_copy m 32 14) fun (x1 : Unit) (m2 : mM) => (f_X6_rest_44  1000 m2 y1 0 0 0)
theorem j_X6_rest_26   (m : mM) (y1 : Int32)  : JF true uI m_X6_rest 9 26 [(0, .ref 0), (1, .int y1)] [] m (f_X6_rest_26  m y1) := by
  unfold f_X6_rest_26
  refine F_iconst (v := 0) (by decide) (dk_X6_rest 26 _ rfl) ?_
  refine F_istore_n (lv' := [(2, .int 0), (0, .ref 0), (1, .int y1)]) (i := 2) (a := 2) rfl (by decide) rfl (dk_X6_rest 27 _ rfl) ?_
  refine F_iconst (v := 0) (by decide) (dk_X6_rest 28 _ rfl) ?_
  refine F_istore_n (lv' := [(3, .int 0), (2, .int 0), (0, .ref 0), (1, .int y1)]) (i := 3) (a := 3) rfl (by decide) rfl (dk_X6_rest 29 _ rfl) ?_
  refine F_aload_n (i := 0) (a := 0) rfl rfl (dk_X6_rest 30 _ rfl) ?_
  refine F_gR (b := 32) fxX_6_2_0 fl_6_54 (dk_X6_rest 31 _ rfl) ?_
  refine F_aload_n (i := 0) (a := 0) rfl rfl (dk_X6_rest 34 _ rfl) ?_
  refine F_gR (b := 14) fxX_6_0_0 fl_6_47 (dk_X6_rest 35 _ rfl) ?_
  refine F_callV (ι' := uU) (ci := 2) (b := 32) (As := [.ref 14]) (d' := 2) (rfl) ok_X2_copy vi_X2_copy cl_6_185 (n := 1) (by decide +kernel) rfl rfl rfl (Nat.le_of_ble_eq_true rfl) (by omega) (dk_X6_rest 38 _ rfl) (c_X2_copy _ _ _ (rfl) (rfl)) (fun x1 m2 => ?_)
  show JF _ _ _ _ _ _ [] _ _
  refine F_iconst (v := 0) (by decide) (dk_X6_rest 41 _ rfl) ?_
  refine F_istore (lv' := [(4, .int 0), (3, .int 0), (2, .int 0), (0, .ref 0), (1, .int y1)]) (i := 4) (by decide) rfl (dk_X6_rest 42 _ rfl) ?_
  exact F_loc (List.forall_mem_cons.mpr ⟨(.tail _ (.tail _ (.tail _ (.head _)))), (List.forall_mem_cons.mpr ⟨(.tail _ (.tail _ (.tail _ (.tail _ (.head _))))), (List.forall_mem_cons.mpr ⟨(.tail _ (.tail _ (.head _))), (List.forall_mem_cons.mpr ⟨(.tail _ (.head _)), (List.forall_mem_cons.mpr ⟨(.head _), (fun _ z => absurd z List.not_mem_nil)⟩)⟩)⟩)⟩)⟩) (j_X6_rest_44   1000 _ _ _ _ _ )
def f_X6_rest (m : mM) (p1 : Int32) : fR Int32 :=
  (if p1 = 0 then (f_X6_rest_26  m p1) else (if p1 < 10 then some ((-1), m) else (if (p1 - 10) < (mI m 896) then (f_X6_rest_26  m p1) else some ((-1), m))))
theorem c_X6_rest (m : mM) (p1 : Int32)  : cF true uI m_X6_rest 9 [.ref 0, .int p1] m (f_X6_rest m p1) := by
  refine cF_of ok_X6_rest (fun _ _ => Nat.le_of_ble_eq_true rfl) ?_
  unfold f_X6_rest
  show JF _ _ _ _ _ [(0, .ref 0), (1, .int p1)] _ _ _
  refine F_iload_n (i := 1) (a := 1) rfl rfl (dk_X6_rest 0 _ rfl) ?_
  refine F_if_eq (tgt := 26) (by decide) (dk_X6_rest 1 _ rfl) ?_ ?_
  · exact F_loc (fun _ z => z) (j_X6_rest_26   _ _ )
  · refine F_iload_n (i := 1) (a := 1) rfl rfl (dk_X6_rest 4 _ rfl) ?_
    refine F_bipush (v := 10) (by decide) (dk_X6_rest 5 _ rfl) ?_
    refine F_icmp_lt (tgt := 24) (by decide) (dk_X6_rest 7 _ rfl) ?_ ?_
    · refine F_iconst (v := (-1)) (by decide) (dk_X6_rest 24 _ rfl) ?_
      exact F_ret rfl (dk_X6_rest 25 _ rfl)
    · refine F_iload_n (i := 1) (a := 1) rfl rfl (dk_X6_rest 10 _ rfl) ?_
      refine F_bipush (v := 10) (by decide) (dk_X6_rest 11 _ rfl) ?_
      refine F_isub (dk_X6_rest 13 _ rfl) ?_
      refine F_aload_n (i := 0) (a := 0) rfl rfl (dk_X6_rest 14 _ rfl) ?_
      refine F_gR (b := 14) fxX_6_0_0 fl_6_47 (dk_X6_rest 15 _ rfl) ?_
      refine F_gI (n := 896) fxX_2_0_14 rfl fl_6_71 (dk_X6_rest 18 _ rfl) ?_
      refine F_icmp_lt (tgt := 26) (by decide) (dk_X6_rest 21 _ rfl) ?_ ?_
      · exact F_loc (fun _ z => z) (j_X6_rest_26   _ _ )
      · refine F_iconst (v := (-1)) (by decide) (dk_X6_rest 24 _ rfl) ?_
        exact F_ret rfl (dk_X6_rest 25 _ rfl)
def fb_X6_gainOfOthers_5 (K5 : mM → Nat → Int32 → Int32 → Int32 → fR Int32) (m : mM) (y1 : Nat) (y2 : Int32) (y3 : Int32) (y4 : Int32) : fR Int32 :=
  (if (mI m (64 * y1 + 0)) ≤ y4 then some (y3, m) else (if y4 = y2 then (K5 m y1 y2 y3 (y4 + 1)) else (gA (mA m (y1 + 6)) y4).bind fun x1 => (if x1 = 0 then (K5 m y1 y2 y3 (y4 + 1)) else (gA (mA m 42) y4).bind fun x2 => nmI (y3 + x2) fun v3 => (K5 m y1 y2 v3 (y4 + 1)))))
def f_X6_gainOfOthers_5  : Nat → mM → Nat → Int32 → Int32 → Int32 → fR Int32
  | 0, _, _, _, _, _ => none
  | F + 1, m, y1, y2, y3, y4 => fb_X6_gainOfOthers_5  (f_X6_gainOfOthers_5  F) m y1 y2 y3 y4
theorem jb_X6_gainOfOthers_5 (K5 : mM → Nat → Int32 → Int32 → Int32 → fR Int32) (hK5 : ∀ (m : mM) (y1 : Nat) (y2 : Int32) (y3 : Int32) (y4 : Int32) (hy1 : isC true 2 y1 = true), JF true uI m_X6_gainOfOthers 2 5 [(0, .ref 0), (1, .ref y1), (2, .int y2), (3, .int y3), (4, .int y4)] [] m (K5 m y1 y2 y3 y4)) (m : mM) (y1 : Nat) (y2 : Int32) (y3 : Int32) (y4 : Int32) (hy1 : isC true 2 y1 = true) : JF true uI m_X6_gainOfOthers 2 5 [(0, .ref 0), (1, .ref y1), (2, .int y2), (3, .int y3), (4, .int y4)] [] m (fb_X6_gainOfOthers_5 K5 m y1 y2 y3 y4) := by
  unfold fb_X6_gainOfOthers_5
  refine F_iload (i := 4) rfl (dk_X6_gainOfOthers 5 _ rfl) ?_
  refine F_aload_n (i := 1) (a := 1) rfl rfl (dk_X6_gainOfOthers 7 _ rfl) ?_
  refine F_gI (n := (64 * y1 + 0)) (lyS_0 hy1) rfl fl_6_71 (dk_X6_gainOfOthers 8 _ rfl) ?_
  refine F_icmp_ge (tgt := 49) (by decide) (dk_X6_gainOfOthers 11 _ rfl) ?_ ?_
  · refine F_iload_n (i := 3) (a := 3) rfl rfl (dk_X6_gainOfOthers 49 _ rfl) ?_
    exact F_ret rfl (dk_X6_gainOfOthers 50 _ rfl)
  · refine F_iload (i := 4) rfl (dk_X6_gainOfOthers 14 _ rfl) ?_
    refine F_iload_n (i := 2) (a := 2) rfl rfl (dk_X6_gainOfOthers 16 _ rfl) ?_
    refine F_icmp_eq (tgt := 43) (by decide) (dk_X6_gainOfOthers 17 _ rfl) ?_ ?_
    · refine F_iinc (i := 4) (n := 1) (v := (y4 + 1)) (lv' := [(4, .int (y4 + 1)), (0, .ref 0), (1, .ref y1), (2, .int y2), (3, .int y3)]) rfl (by first | rfl | decide) (by decide) rfl (dk_X6_gainOfOthers 43 _ rfl) ?_
      refine F_goto (tgt := 5) (by decide) (dk_X6_gainOfOthers 46 _ rfl) ?_
      exact F_loc (List.forall_mem_cons.mpr ⟨(.tail _ (.head _)), (List.forall_mem_cons.mpr ⟨(.tail _ (.tail _ (.head _))), (List.forall_mem_cons.mpr ⟨(.tail _ (.tail _ (.tail _ (.head _)))), (List.forall_mem_cons.mpr ⟨(.tail _ (.tail _ (.tail _ (.tail _ (.head _))))), (List.forall_mem_cons.mpr ⟨(.head _), (fun _ z => absurd z List.not_mem_nil)⟩)⟩)⟩)⟩)⟩) (hK5 _ _ _ _ _ (hy1))
    · refine F_aload_n (i := 1) (a := 1) rfl rfl (dk_X6_gainOfOthers 20 _ rfl) ?_
      refine F_gR (b := (y1 + 6)) (lyS_10 hy1).1 fl_6_109 (dk_X6_gainOfOthers 21 _ rfl) ?_
      refine F_iload (i := 4) rfl (dk_X6_gainOfOthers 24 _ rfl) ?_
      refine F_zald ((lyS_10 hy1).2) (dk_X6_gainOfOthers 26 _ rfl) (fun x1 => ?_)
      refine F_if_eq (tgt := 43) (by decide) (dk_X6_gainOfOthers 27 _ rfl) ?_ ?_
      · refine F_iinc (i := 4) (n := 1) (v := (y4 + 1)) (lv' := [(4, .int (y4 + 1)), (0, .ref 0), (1, .ref y1), (2, .int y2), (3, .int y3)]) rfl (by first | rfl | decide) (by decide) rfl (dk_X6_gainOfOthers 43 _ rfl) ?_
        refine F_goto (tgt := 5) (by decide) (dk_X6_gainOfOthers 46 _ rfl) ?_
        exact F_loc (List.forall_mem_cons.mpr ⟨(.tail _ (.head _)), (List.forall_mem_cons.mpr ⟨(.tail _ (.tail _ (.head _))), (List.forall_mem_cons.mpr ⟨(.tail _ (.tail _ (.tail _ (.head _)))), (List.forall_mem_cons.mpr ⟨(.tail _ (.tail _ (.tail _ (.tail _ (.head _))))), (List.forall_mem_cons.mpr ⟨(.head _), (fun _ z => absurd z List.not_mem_nil)⟩)⟩)⟩)⟩)⟩) (hK5 _ _ _ _ _ (hy1))
      · refine F_iload_n (i := 3) (a := 3) rfl rfl (dk_X6_gainOfOthers 30 _ rfl) ?_
        refine F_aload_n (i := 0) (a := 0) rfl rfl (dk_X6_gainOfOthers 31 _ rfl) ?_
        refine F_gR (b := 41) fxX_6_4_0 fl_6_62 (dk_X6_gainOfOthers 32 _ rfl) ?_
        refine F_gR (b := 42) fxX_1_5_41 fl_6_170 (dk_X6_gainOfOthers 35 _ rfl) ?_
        refine F_iload (i := 4) rfl (dk_X6_gainOfOthers 38 _ rfl) ?_
        refine F_iald (axX_0_42) (dk_X6_gainOfOthers 40 _ rfl) (fun x2 => ?_)
        refine F_iadd (dk_X6_gainOfOthers 41 _ rfl) ?_
        refine F_nm (fun v3 => ?_)
        refine F_istore_n (lv' := [(3, .int v3), (0, .ref 0), (1, .ref y1), (2, .int y2), (4, .int y4)]) (i := 3) (a := 3) rfl (by decide) rfl (dk_X6_gainOfOthers 42 _ rfl) ?_
        refine F_iinc (i := 4) (n := 1) (v := (y4 + 1)) (lv' := [(4, .int (y4 + 1)), (3, .int v3), (0, .ref 0), (1, .ref y1), (2, .int y2)]) rfl (by first | rfl | decide) (by decide) rfl (dk_X6_gainOfOthers 43 _ rfl) ?_
        refine F_goto (tgt := 5) (by decide) (dk_X6_gainOfOthers 46 _ rfl) ?_
        exact F_loc (List.forall_mem_cons.mpr ⟨(.tail _ (.tail _ (.head _))), (List.forall_mem_cons.mpr ⟨(.tail _ (.tail _ (.tail _ (.head _)))), (List.forall_mem_cons.mpr ⟨(.tail _ (.tail _ (.tail _ (.tail _ (.head _))))), (List.forall_mem_cons.mpr ⟨(.tail _ (.head _)), (List.forall_mem_cons.mpr ⟨(.head _), (fun _ z => absurd z List.not_mem_nil)⟩)⟩)⟩)⟩)⟩) (hK5 _ _ _ _ _ (hy1))
theorem j_X6_gainOfOthers_5   : ∀ (F : Nat) (m : mM) (y1 : Nat) (y2 : Int32) (y3 : Int32) (y4 : Int32) (hy1 : isC true 2 y1 = true), JF true uI m_X6_gainOfOthers 2 5 [(0, .ref 0), (1, .ref y1), (2, .int y2), (3, .int y3), (4, .int y4)] [] m (f_X6_gainOfOthers_5  F m y1 y2 y3 y4) := by
  intro F
  induction F with
  | zero => intro m y1 y2 y3 y4 hy1; exact F_no
  | succ F ih => intro m y1 y2 y3 y4 hy1; exact jb_X6_gainOfOthers_5  (f_X6_gainOfOthers_5  F)  ih m y1 y2 y3 y4 hy1
def f_X6_gainOfOthers (m : mM) (a1 : Nat) (p2 : Int32) : fR Int32 :=
  (f_X6_gainOfOthers_5  1000 m a1 p2 0 0)
theorem c_X6_gainOfOthers (m : mM) (a1 : Nat) (p2 : Int32) (ha1 : isC true 2 a1 = true) : cF true uI m_X6_gainOfOthers 2 [.ref 0, .ref a1, .int p2] m (f_X6_gainOfOthers m a1 p2) := by
  refine cF_of ok_X6_gainOfOthers (fun _ _ => Nat.le_of_ble_eq_true rfl) ?_
  unfold f_X6_gainOfOthers
  show JF _ _ _ _ _ [(0, .ref 0), (1, .ref a1), (2, .int p2)] _ _ _
  refine F_iconst (v := 0) (by decide) (dk_X6_gainOfOthers 0 _ rfl) ?_
  refine F_istore_n (lv' := [(3, .int 0), (0, .ref 0), (1, .ref a1), (2, .int p2)]) (i := 3) (a := 3) rfl (by decide) rfl (dk_X6_gainOfOthers 1 _ rfl) ?_
  refine F_iconst (v := 0) (by decide) (dk_X6_gainOfOthers 2 _ rfl) ?_
  refine F_istore (lv' := [(4, .int 0), (3, .int 0), (0, .ref 0), (1, .ref a1), (2, .int p2)]) (i := 4) (by decide) rfl (dk_X6_gainOfOthers 3 _ rfl) ?_
  exact F_loc (List.forall_mem_cons.mpr ⟨(.tail _ (.tail _ (.head _))), (List.forall_mem_cons.mpr ⟨(.tail _ (.tail _ (.tail _ (.head _)))), (List.forall_mem_cons.mpr ⟨(.tail _ (.tail _ (.tail _ (.tail _ (.head _))))), (List.forall_mem_cons.mpr ⟨(.tail _ (.head _)), (List.forall_mem_cons.mpr ⟨(.head _), (fun _ z => absurd z List.not_mem_nil)⟩)⟩)⟩)⟩)⟩) (j_X6_gainOfOthers_5   1000 _ _ _ _ _ (ha1))
end
end
-- 21g.fun.lean.txt
section
section
set_option maxRecDepth 100000
def fb_X6_reckoning_51 (K51 : mM → Int32 → Int32 → Int32 → fR Int32) (m : mM) (y1 : Int32) (y2 : Int32) (y3 : Int32) : fR Int32 :=
  (if (mI m 2048) ≤ y3 then chR true 5 (mR m 2052) fun r14 => bnd (f_X6_goYear m 32 ((mI m (64 * r14 + 0)))) fun (x15 : Unit) (m16 : mM) => bnd (f_X6_gainOfOthers m16 32 (-1)) fun (x18 : Int32) (m19 : mM) => some ((x18 - y2), m19) else (gA (mA m 36) y3).bind fun x21 => (rmI (x21 + y1) 12).bind fun x22 => (sA 0 m 36 y3 x22).bind fun m23 => (K51 m23 y1 y2 (y3 + 1)))
def f_X6_reckoning_51  : Nat → mM → Int32 → Int32 → Int32 → fR Int32
  | 0, _, _, _, _ => none
  | F + 1, m, y1, y2, y3 => fb_X6_reckoning_51  (f_X6_reckoning_51  F) m y1 y2 y3
theorem jb_X6_reckoning_51 (K51 : mM → Int32 → Int32 → Int32 → fR Int32) (hK51 : ∀ (m : mM) (y1 : Int32) (y2 : Int32) (y3 : Int32) , JF true uI m_X6_reckoning 8 51 [(0, .ref 0), (1, .int y1), (2, .int y2), (3, .int y3)] [] m (K51 m y1 y2 y3)) (m : mM) (y1 : Int32) (y2 : Int32) (y3 : Int32)  : JF true uI m_X6_reckoning 8 51 [(0, .ref 0), (1, .int y1), (2, .int y2), (3, .int y3)] [] m (fb_X6_reckoning_51 K51 m y1 y2 y3) := by
  unfold fb_X6_reckoning_51
  refine F_iload_n (i := 3) (a := 3) rfl rfl (dk_X6_reckoning 51 _ rfl) ?_
  refine F_aload_n (i := 0) (a := 0) rfl rfl (dk_X6_reckoning 52 _ rfl) ?_
  refine F_gR (b := 32) fxX_6_2_0 fl_6_54 (dk_X6_reckoning 53 _ rfl) ?_
  refine F_gI (n := 2048) fxX_2_0_32 rfl fl_6_71 (dk_X6_reckoning 56 _ rfl) ?_
  refine F_icmp_ge (tgt := 91) (by decide) (dk_X6_reckoning 59 _ rfl) ?_ ?_
  · refine F_aload_n (i := 0) (a := 0) rfl rfl (dk_X6_reckoning 91 _ rfl) ?_
    refine F_aload_n (i := 0) (a := 0) rfl rfl (dk_X6_reckoning 92 _ rfl) ?_
    refine F_gR (b := 32) fxX_6_2_0 fl_6_54 (dk_X6_reckoning 93 _ rfl) ?_
    refine F_aload_n (i := 0) (a := 0) rfl rfl (dk_X6_reckoning 96 _ rfl) ?_
    refine F_gR (b := 32) fxX_6_2_0 fl_6_54 (dk_X6_reckoning 97 _ rfl) ?_
    refine F_gV (n := 2052) fxX_2_4_32 rfl fl_6_83 (dk_X6_reckoning 100 _ rfl) ?_
    refine F_ch (fun r14 hr14 => ?_)
    refine F_gI (n := (64 * r14 + 0)) (lyT_0 hr14) rfl fl_6_87 (dk_X6_reckoning 103 _ rfl) ?_
    refine F_callV (ι' := uU) (ci := 6) (b := 0) (As := [.ref 32, .int (mI m (64 * r14 + 0))]) (d' := 7) (rfl) ok_X6_goYear vi_X6_goYear cl_6_182 (n := 2) (by decide +kernel) rfl rfl rfl (Nat.le_of_ble_eq_true rfl) (by omega) (dk_X6_reckoning 106 _ rfl) (c_X6_goYear _ _ _ (rfl)) (fun x15 m16 => ?_)
    show JF _ _ _ _ _ _ [] _ _
    refine F_aload_n (i := 0) (a := 0) rfl rfl (dk_X6_reckoning 109 _ rfl) ?_
    refine F_aload_n (i := 0) (a := 0) rfl rfl (dk_X6_reckoning 110 _ rfl) ?_
    refine F_gR (b := 32) fxX_6_2_0 fl_6_54 (dk_X6_reckoning 111 _ rfl) ?_
    refine F_iconst (v := (-1)) (by decide) (dk_X6_reckoning 114 _ rfl) ?_
    refine F_callV (ι' := uI) (ci := 6) (b := 0) (As := [.ref 32, .int (-1)]) (d' := 2) (rfl) ok_X6_gainOfOthers vi_X6_gainOfOthers cl_6_199 (n := 2) (by decide +kernel) rfl rfl rfl (Nat.le_of_ble_eq_true rfl) (by omega) (dk_X6_reckoning 115 _ rfl) (c_X6_gainOfOthers _ _ _ (rfl)) (fun x18 m19 => ?_)
    show JF _ _ _ _ _ _ [.int x18] _ _
    refine F_iload_n (i := 2) (a := 2) rfl rfl (dk_X6_reckoning 118 _ rfl) ?_
    refine F_isub (dk_X6_reckoning 119 _ rfl) ?_
    exact F_ret rfl (dk_X6_reckoning 120 _ rfl)
  · refine F_aload_n (i := 0) (a := 0) rfl rfl (dk_X6_reckoning 62 _ rfl) ?_
    refine F_gR (b := 32) fxX_6_2_0 fl_6_54 (dk_X6_reckoning 63 _ rfl) ?_
    refine F_gR (b := 36) fxX_2_8_32 fl_6_106 (dk_X6_reckoning 66 _ rfl) ?_
    refine F_iload_n (i := 3) (a := 3) rfl rfl (dk_X6_reckoning 69 _ rfl) ?_
    refine F_aload_n (i := 0) (a := 0) rfl rfl (dk_X6_reckoning 70 _ rfl) ?_
    refine F_gR (b := 32) fxX_6_2_0 fl_6_54 (dk_X6_reckoning 71 _ rfl) ?_
    refine F_gR (b := 36) fxX_2_8_32 fl_6_106 (dk_X6_reckoning 74 _ rfl) ?_
    refine F_iload_n (i := 3) (a := 3) rfl rfl (dk_X6_reckoning 77 _ rfl) ?_
    refine F_iald (axX_0_36) (dk_X6_reckoning 78 _ rfl) (fun x21 => ?_)
    refine F_iload_n (i := 1) (a := 1) rfl rfl (dk_X6_reckoning 79 _ rfl) ?_
    refine F_iadd (dk_X6_reckoning 80 _ rfl) ?_
    refine F_bipush (v := 12) (by decide) (dk_X6_reckoning 81 _ rfl) ?_
    refine F_irem (dk_X6_reckoning 83 _ rfl) (fun x22 => ?_)
    refine F_iast (axX_0_36) (dk_X6_reckoning 84 _ rfl) (fun m23 => ?_)
    refine F_iinc (i := 3) (n := 1) (v := (y3 + 1)) (lv' := [(3, .int (y3 + 1)), (0, .ref 0), (1, .int y1), (2, .int y2)]) rfl (by first | rfl | decide) (by decide) rfl (dk_X6_reckoning 85 _ rfl) ?_
    refine F_goto (tgt := 51) (by decide) (dk_X6_reckoning 88 _ rfl) ?_
    exact F_loc (List.forall_mem_cons.mpr ⟨(.tail _ (.head _)), (List.forall_mem_cons.mpr ⟨(.tail _ (.tail _ (.head _))), (List.forall_mem_cons.mpr ⟨(.tail _ (.tail _ (.tail _ (.head _)))), (List.forall_mem_cons.mpr ⟨(.head _), (fun _ z => absurd z List.not_mem_nil)⟩)⟩)⟩)⟩) (hK51 _ _ _ _ )
theorem j_X6_reckoning_51   : ∀ (F : Nat) (m : mM) (y1 : Int32) (y2 : Int32) (y3 : Int32) , JF true uI m_X6_reckoning 8 51 [(0, .ref 0), (1, .int y1), (2, .int y2), (3, .int y3)] [] m (f_X6_reckoning_51  F m y1 y2 y3) := by
  intro F
  induction F with
  | zero => intro m y1 y2 y3 ; exact F_no
  | succ F ih => intro m y1 y2 y3 ; exact jb_X6_reckoning_51  (f_X6_reckoning_51  F)  ih m y1 y2 y3 
def f_X6_reckoning (m : mM) (p1 : Int32) : fR Int32 :=
  bnd (f_X6_isDay m p1) fun (x1 : Int32) (m2 : mM) => (if x1 = 0 then some ((-10000002), m2) else chR true 5 (mR m2 900) fun r4 => bnd (f_X6_goYear m2 14 ((mI m2 (64 * r4 + 0)))) fun (x5 : Unit) (m6 : mM) => bnd (f_X6_gainOfOthers m6 14 (-1)) fun (x8 : Int32) (m9 : mM) => bnd (f_X2_copy m9 32 14) fun (x11 : Unit) (m12 : mM) => (f_X6_reckoning_51  1000 m12 p1 x8 0))
theorem c_X6_reckoning (m : mM) (p1 : Int32)  : cF true uI m_X6_reckoning 8 [.ref 0, .int p1] m (f_X6_reckoning m p1) := by
  refine cF_of ok_X6_reckoning (fun _ _ => Nat.le_of_ble_eq_true rfl) ?_
  unfold f_X6_reckoning
  show JF _ _ _ _ _ [(0, .ref 0), (1, .int p1)] _ _ _
  refine F_iload_n (i := 1) (a := 1) rfl rfl (dk_X6_reckoning 0 _ rfl) ?_
  refine F_callS (ι' := uI) (As := [.int p1]) (d' := 2) ok_X6_isDay st_X6_isDay cl_6_67 rfl (n := 1) (by decide +kernel) rfl (Nat.le_of_ble_eq_true rfl) (by omega) (dk_X6_reckoning 1 _ rfl) (c_X6_isDay _ _ ) (fun x1 m2 => ?_)
  show JF _ _ _ _ _ _ [.int x1] _ _
  refine F_if_ne (tgt := 10) (by decide) (dk_X6_reckoning 4 _ rfl) ?_ ?_
  · refine F_aload_n (i := 0) (a := 0) rfl rfl (dk_X6_reckoning 10 _ rfl) ?_
    refine F_aload_n (i := 0) (a := 0) rfl rfl (dk_X6_reckoning 11 _ rfl) ?_
    refine F_gR (b := 14) fxX_6_0_0 fl_6_47 (dk_X6_reckoning 12 _ rfl) ?_
    refine F_aload_n (i := 0) (a := 0) rfl rfl (dk_X6_reckoning 15 _ rfl) ?_
    refine F_gR (b := 14) fxX_6_0_0 fl_6_47 (dk_X6_reckoning 16 _ rfl) ?_
    refine F_gV (n := 900) fxX_2_4_14 rfl fl_6_83 (dk_X6_reckoning 19 _ rfl) ?_
    refine F_ch (fun r4 hr4 => ?_)
    refine F_gI (n := (64 * r4 + 0)) (lyT_0 hr4) rfl fl_6_87 (dk_X6_reckoning 22 _ rfl) ?_
    refine F_callV (ι' := uU) (ci := 6) (b := 0) (As := [.ref 14, .int (mI m2 (64 * r4 + 0))]) (d' := 7) (rfl) ok_X6_goYear vi_X6_goYear cl_6_182 (n := 2) (by decide +kernel) rfl rfl rfl (Nat.le_of_ble_eq_true rfl) (by omega) (dk_X6_reckoning 25 _ rfl) (c_X6_goYear _ _ _ (rfl)) (fun x5 m6 => ?_)
    show JF _ _ _ _ _ _ [] _ _
    refine F_aload_n (i := 0) (a := 0) rfl rfl (dk_X6_reckoning 28 _ rfl) ?_
    refine F_aload_n (i := 0) (a := 0) rfl rfl (dk_X6_reckoning 29 _ rfl) ?_
    refine F_gR (b := 14) fxX_6_0_0 fl_6_47 (dk_X6_reckoning 30 _ rfl) ?_
    refine F_iconst (v := (-1)) (by decide) (dk_X6_reckoning 33 _ rfl) ?_
    refine F_callV (ι' := uI) (ci := 6) (b := 0) (As := [.ref 14, .int (-1)]) (d' := 2) (rfl) ok_X6_gainOfOthers vi_X6_gainOfOthers cl_6_199 (n := 2) (by decide +kernel) rfl rfl rfl (Nat.le_of_ble_eq_true rfl) (by omega) (dk_X6_reckoning 34 _ rfl) (c_X6_gainOfOthers _ _ _ (rfl)) (fun x8 m9 => ?_)
    show JF _ _ _ _ _ _ [.int x8] _ _
    refine F_istore_n (lv' := [(2, .int x8), (0, .ref 0), (1, .int p1)]) (i := 2) (a := 2) rfl (by decide) rfl (dk_X6_reckoning 37 _ rfl) ?_
    refine F_aload_n (i := 0) (a := 0) rfl rfl (dk_X6_reckoning 38 _ rfl) ?_
    refine F_gR (b := 32) fxX_6_2_0 fl_6_54 (dk_X6_reckoning 39 _ rfl) ?_
    refine F_aload_n (i := 0) (a := 0) rfl rfl (dk_X6_reckoning 42 _ rfl) ?_
    refine F_gR (b := 14) fxX_6_0_0 fl_6_47 (dk_X6_reckoning 43 _ rfl) ?_
    refine F_callV (ι' := uU) (ci := 2) (b := 32) (As := [.ref 14]) (d' := 2) (rfl) ok_X2_copy vi_X2_copy cl_6_185 (n := 1) (by decide +kernel) rfl rfl rfl (Nat.le_of_ble_eq_true rfl) (by omega) (dk_X6_reckoning 46 _ rfl) (c_X2_copy _ _ _ (rfl) (rfl)) (fun x11 m12 => ?_)
    show JF _ _ _ _ _ _ [] _ _
    refine F_iconst (v := 0) (by decide) (dk_X6_reckoning 49 _ rfl) ?_
    refine F_istore_n (lv' := [(3, .int 0), (2, .int x8), (0, .ref 0), (1, .int p1)]) (i := 3) (a := 3) rfl (by decide) rfl (dk_X6_reckoning 50 _ rfl) ?_
    exact F_loc (List.forall_mem_cons.mpr ⟨(.tail _ (.tail _ (.head _))), (List.forall_mem_cons.mpr ⟨(.tail _ (.tail _ (.tail _ (.head _)))), (List.forall_mem_cons.mpr ⟨(.tail _ (.head _)), (List.forall_mem_cons.mpr ⟨(.head _), (fun _ z => absurd z List.not_mem_nil)⟩)⟩)⟩)⟩) (j_X6_reckoning_51   1000 _ _ _ _ )
  · refine F_ldc (v := (-10000002)) ct_6_178 (dk_X6_reckoning 7 _ rfl) ?_
    exact F_ret rfl (dk_X6_reckoning 9 _ rfl)
def fb_X6_high_23 (K23 : mM → Int32 → Int32 → fR Int32) (m : mM) (y1 : Int32) (y2 : Int32) : fR Int32 :=
  (if 100 ≤ y2 then some ((-5), m) else bnd (f_X6_betterPlan m y1 y2) fun (x7 : Int32) (m8 : mM) => (gA (mA m8 18) y1).bind fun x10 => (if x7 = x10 then (K23 m8 y1 (y2 + 5)) else some (y2, m8)))
def f_X6_high_23  : Nat → mM → Int32 → Int32 → fR Int32
  | 0, _, _, _ => none
  | F + 1, m, y1, y2 => fb_X6_high_23  (f_X6_high_23  F) m y1 y2
theorem jb_X6_high_23 (K23 : mM → Int32 → Int32 → fR Int32) (hK23 : ∀ (m : mM) (y1 : Int32) (y2 : Int32) , JF true uI m_X6_high 9 23 [(0, .ref 0), (1, .int y1), (2, .int y2)] [] m (K23 m y1 y2)) (m : mM) (y1 : Int32) (y2 : Int32)  : JF true uI m_X6_high 9 23 [(0, .ref 0), (1, .int y1), (2, .int y2)] [] m (fb_X6_high_23 K23 m y1 y2) := by
  unfold fb_X6_high_23
  refine F_iload_n (i := 2) (a := 2) rfl rfl (dk_X6_high 23 _ rfl) ?_
  refine F_bipush (v := 100) (by decide) (dk_X6_high 24 _ rfl) ?_
  refine F_icmp_ge (tgt := 55) (by decide) (dk_X6_high 26 _ rfl) ?_ ?_
  · refine F_bipush (v := (-5)) (by decide) (dk_X6_high 55 _ rfl) ?_
    exact F_ret rfl (dk_X6_high 57 _ rfl)
  · refine F_aload_n (i := 0) (a := 0) rfl rfl (dk_X6_high 29 _ rfl) ?_
    refine F_iload_n (i := 1) (a := 1) rfl rfl (dk_X6_high 30 _ rfl) ?_
    refine F_iload_n (i := 2) (a := 2) rfl rfl (dk_X6_high 31 _ rfl) ?_
    refine F_callV (ι' := uI) (ci := 6) (b := 0) (As := [.int y1, .int y2]) (d' := 8) (rfl) ok_X6_betterPlan vi_X6_betterPlan cl_6_196 (n := 2) (by decide +kernel) rfl rfl rfl (Nat.le_of_ble_eq_true rfl) (by omega) (dk_X6_high 32 _ rfl) (c_X6_betterPlan _ _ _ ) (fun x7 m8 => ?_)
    show JF _ _ _ _ _ _ [.int x7] _ _
    refine F_aload_n (i := 0) (a := 0) rfl rfl (dk_X6_high 35 _ rfl) ?_
    refine F_gR (b := 14) fxX_6_0_0 fl_6_47 (dk_X6_high 36 _ rfl) ?_
    refine F_gR (b := 18) fxX_2_8_14 fl_6_106 (dk_X6_high 39 _ rfl) ?_
    refine F_iload_n (i := 1) (a := 1) rfl rfl (dk_X6_high 42 _ rfl) ?_
    refine F_iald (axX_0_18) (dk_X6_high 43 _ rfl) (fun x10 => ?_)
    refine F_icmp_eq (tgt := 49) (by decide) (dk_X6_high 44 _ rfl) ?_ ?_
    · refine F_iinc (i := 2) (n := 5) (v := (y2 + 5)) (lv' := [(2, .int (y2 + 5)), (0, .ref 0), (1, .int y1)]) rfl (by first | rfl | decide) (by decide) rfl (dk_X6_high 49 _ rfl) ?_
      refine F_goto (tgt := 23) (by decide) (dk_X6_high 52 _ rfl) ?_
      exact F_loc (List.forall_mem_cons.mpr ⟨(.tail _ (.head _)), (List.forall_mem_cons.mpr ⟨(.tail _ (.tail _ (.head _))), (List.forall_mem_cons.mpr ⟨(.head _), (fun _ z => absurd z List.not_mem_nil)⟩)⟩)⟩) (hK23 _ _ _ )
    · refine F_iload_n (i := 2) (a := 2) rfl rfl (dk_X6_high 47 _ rfl) ?_
      exact F_ret rfl (dk_X6_high 48 _ rfl)
theorem j_X6_high_23   : ∀ (F : Nat) (m : mM) (y1 : Int32) (y2 : Int32) , JF true uI m_X6_high 9 23 [(0, .ref 0), (1, .int y1), (2, .int y2)] [] m (f_X6_high_23  F m y1 y2) := by
  intro F
  induction F with
  | zero => intro m y1 y2 ; exact F_no
  | succ F ih => intro m y1 y2 ; exact jb_X6_high_23  (f_X6_high_23  F)  ih m y1 y2 
def f_X6_high (m : mM) (p1 : Int32) : fR Int32 :=
  bnd (f_X6_isPerson m p1) fun (x1 : Int32) (m2 : mM) => (if x1 = 0 then some ((-1), m2) else bnd (f_X2_copy m2 32 14) fun (x4 : Unit) (m5 : mM) => (f_X6_high_23  1000 m5 p1 0))
theorem c_X6_high (m : mM) (p1 : Int32)  : cF true uI m_X6_high 9 [.ref 0, .int p1] m (f_X6_high m p1) := by
  refine cF_of ok_X6_high (fun _ _ => Nat.le_of_ble_eq_true rfl) ?_
  unfold f_X6_high
  show JF _ _ _ _ _ [(0, .ref 0), (1, .int p1)] _ _ _
  refine F_aload_n (i := 0) (a := 0) rfl rfl (dk_X6_high 0 _ rfl) ?_
  refine F_iload_n (i := 1) (a := 1) rfl rfl (dk_X6_high 1 _ rfl) ?_
  refine F_callV (ι' := uI) (ci := 6) (b := 0) (As := [.int p1]) (d' := 2) (rfl) ok_X6_isPerson vi_X6_isPerson cl_6_79 (n := 1) (by decide +kernel) rfl rfl rfl (Nat.le_of_ble_eq_true rfl) (by omega) (dk_X6_high 2 _ rfl) (c_X6_isPerson _ _ ) (fun x1 m2 => ?_)
  show JF _ _ _ _ _ _ [.int x1] _ _
  refine F_if_ne (tgt := 10) (by decide) (dk_X6_high 5 _ rfl) ?_ ?_
  · refine F_aload_n (i := 0) (a := 0) rfl rfl (dk_X6_high 10 _ rfl) ?_
    refine F_gR (b := 32) fxX_6_2_0 fl_6_54 (dk_X6_high 11 _ rfl) ?_
    refine F_aload_n (i := 0) (a := 0) rfl rfl (dk_X6_high 14 _ rfl) ?_
    refine F_gR (b := 14) fxX_6_0_0 fl_6_47 (dk_X6_high 15 _ rfl) ?_
    refine F_callV (ι' := uU) (ci := 2) (b := 32) (As := [.ref 14]) (d' := 2) (rfl) ok_X2_copy vi_X2_copy cl_6_185 (n := 1) (by decide +kernel) rfl rfl rfl (Nat.le_of_ble_eq_true rfl) (by omega) (dk_X6_high 18 _ rfl) (c_X2_copy _ _ _ (rfl) (rfl)) (fun x4 m5 => ?_)
    show JF _ _ _ _ _ _ [] _ _
    refine F_iconst (v := 0) (by decide) (dk_X6_high 21 _ rfl) ?_
    refine F_istore_n (lv' := [(2, .int 0), (0, .ref 0), (1, .int p1)]) (i := 2) (a := 2) rfl (by decide) rfl (dk_X6_high 22 _ rfl) ?_
    exact F_loc (List.forall_mem_cons.mpr ⟨(.tail _ (.head _)), (List.forall_mem_cons.mpr ⟨(.tail _ (.tail _ (.head _))), (List.forall_mem_cons.mpr ⟨(.head _), (fun _ z => absurd z List.not_mem_nil)⟩)⟩)⟩) (j_X6_high_23   1000 _ _ _ )
  · refine F_iconst (v := (-1)) (by decide) (dk_X6_high 8 _ rfl) ?_
    exact F_ret rfl (dk_X6_high 9 _ rfl)
def f_X6_last (m : mM) (p1 : Int32) : fR Int32 :=
  bnd (f_X6_isPerson m p1) fun (x1 : Int32) (m2 : mM) => (if x1 = 0 then some ((-10000001), m2) else chR true 5 (mR m2 900) fun r4 => bnd (f_X6_goYear m2 14 ((mI m2 (64 * r4 + 0)))) fun (x5 : Unit) (m6 : mM) => bnd (f_X6_gainOfOthers m6 14 p1) fun (x8 : Int32) (m9 : mM) => bnd (f_X2_copy m9 32 14) fun (x11 : Unit) (m12 : mM) => (sA 3 m12 38 p1 0).bind fun m14 => chR true 5 (mR m14 2052) fun r15 => bnd (f_X6_goYear m14 32 ((mI m14 (64 * r15 + 0)))) fun (x16 : Unit) (m17 : mM) => bnd (f_X6_gainOfOthers m17 32 p1) fun (x19 : Int32) (m20 : mM) => some ((x8 - x19), m20))
theorem c_X6_last (m : mM) (p1 : Int32)  : cF true uI m_X6_last 8 [.ref 0, .int p1] m (f_X6_last m p1) := by
  refine cF_of ok_X6_last (fun _ _ => Nat.le_of_ble_eq_true rfl) ?_
  unfold f_X6_last
  show JF _ _ _ _ _ [(0, .ref 0), (1, .int p1)] _ _ _
  refine F_aload_n (i := 0) (a := 0) rfl rfl (dk_X6_last 0 _ rfl) ?_
  refine F_iload_n (i := 1) (a := 1) rfl rfl (dk_X6_last 1 _ rfl) ?_
  refine F_callV (ι' := uI) (ci := 6) (b := 0) (As := [.int p1]) (d' := 2) (rfl) ok_X6_isPerson vi_X6_isPerson cl_6_79 (n := 1) (by decide +kernel) rfl rfl rfl (Nat.le_of_ble_eq_true rfl) (by omega) (dk_X6_last 2 _ rfl) (c_X6_isPerson _ _ ) (fun x1 m2 => ?_)
  show JF _ _ _ _ _ _ [.int x1] _ _
  refine F_if_ne (tgt := 11) (by decide) (dk_X6_last 5 _ rfl) ?_ ?_
  · refine F_aload_n (i := 0) (a := 0) rfl rfl (dk_X6_last 11 _ rfl) ?_
    refine F_aload_n (i := 0) (a := 0) rfl rfl (dk_X6_last 12 _ rfl) ?_
    refine F_gR (b := 14) fxX_6_0_0 fl_6_47 (dk_X6_last 13 _ rfl) ?_
    refine F_aload_n (i := 0) (a := 0) rfl rfl (dk_X6_last 16 _ rfl) ?_
    refine F_gR (b := 14) fxX_6_0_0 fl_6_47 (dk_X6_last 17 _ rfl) ?_
    refine F_gV (n := 900) fxX_2_4_14 rfl fl_6_83 (dk_X6_last 20 _ rfl) ?_
    refine F_ch (fun r4 hr4 => ?_)
    refine F_gI (n := (64 * r4 + 0)) (lyT_0 hr4) rfl fl_6_87 (dk_X6_last 23 _ rfl) ?_
    refine F_callV (ι' := uU) (ci := 6) (b := 0) (As := [.ref 14, .int (mI m2 (64 * r4 + 0))]) (d' := 7) (rfl) ok_X6_goYear vi_X6_goYear cl_6_182 (n := 2) (by decide +kernel) rfl rfl rfl (Nat.le_of_ble_eq_true rfl) (by omega) (dk_X6_last 26 _ rfl) (c_X6_goYear _ _ _ (rfl)) (fun x5 m6 => ?_)
    show JF _ _ _ _ _ _ [] _ _
    refine F_aload_n (i := 0) (a := 0) rfl rfl (dk_X6_last 29 _ rfl) ?_
    refine F_aload_n (i := 0) (a := 0) rfl rfl (dk_X6_last 30 _ rfl) ?_
    refine F_gR (b := 14) fxX_6_0_0 fl_6_47 (dk_X6_last 31 _ rfl) ?_
    refine F_iload_n (i := 1) (a := 1) rfl rfl (dk_X6_last 34 _ rfl) ?_
    refine F_callV (ι' := uI) (ci := 6) (b := 0) (As := [.ref 14, .int p1]) (d' := 2) (rfl) ok_X6_gainOfOthers vi_X6_gainOfOthers cl_6_199 (n := 2) (by decide +kernel) rfl rfl rfl (Nat.le_of_ble_eq_true rfl) (by omega) (dk_X6_last 35 _ rfl) (c_X6_gainOfOthers _ _ _ (rfl)) (fun x8 m9 => ?_)
    show JF _ _ _ _ _ _ [.int x8] _ _
    refine F_istore_n (lv' := [(2, .int x8), (0, .ref 0), (1, .int p1)]) (i := 2) (a := 2) rfl (by decide) rfl (dk_X6_last 38 _ rfl) ?_
    refine F_aload_n (i := 0) (a := 0) rfl rfl (dk_X6_last 39 _ rfl) ?_
    refine F_gR (b := 32) fxX_6_2_0 fl_6_54 (dk_X6_last 40 _ rfl) ?_
    refine F_aload_n (i := 0) (a := 0) rfl rfl (dk_X6_last 43 _ rfl) ?_
    refine F_gR (b := 14) fxX_6_0_0 fl_6_47 (dk_X6_last 44 _ rfl) ?_
    refine F_callV (ι' := uU) (ci := 2) (b := 32) (As := [.ref 14]) (d' := 2) (rfl) ok_X2_copy vi_X2_copy cl_6_185 (n := 1) (by decide +kernel) rfl rfl rfl (Nat.le_of_ble_eq_true rfl) (by omega) (dk_X6_last 47 _ rfl) (c_X2_copy _ _ _ (rfl) (rfl)) (fun x11 m12 => ?_)
    show JF _ _ _ _ _ _ [] _ _
    refine F_aload_n (i := 0) (a := 0) rfl rfl (dk_X6_last 50 _ rfl) ?_
    refine F_gR (b := 32) fxX_6_2_0 fl_6_54 (dk_X6_last 51 _ rfl) ?_
    refine F_gR (b := 38) fxX_2_10_32 fl_6_109 (dk_X6_last 54 _ rfl) ?_
    refine F_iload_n (i := 1) (a := 1) rfl rfl (dk_X6_last 57 _ rfl) ?_
    refine F_iconst (v := 0) (by decide) (dk_X6_last 58 _ rfl) ?_
    refine F_zast (axX_3_38) (dk_X6_last 59 _ rfl) (fun m14 => ?_)
    refine F_aload_n (i := 0) (a := 0) rfl rfl (dk_X6_last 60 _ rfl) ?_
    refine F_aload_n (i := 0) (a := 0) rfl rfl (dk_X6_last 61 _ rfl) ?_
    refine F_gR (b := 32) fxX_6_2_0 fl_6_54 (dk_X6_last 62 _ rfl) ?_
    refine F_aload_n (i := 0) (a := 0) rfl rfl (dk_X6_last 65 _ rfl) ?_
    refine F_gR (b := 32) fxX_6_2_0 fl_6_54 (dk_X6_last 66 _ rfl) ?_
    refine F_gV (n := 2052) fxX_2_4_32 rfl fl_6_83 (dk_X6_last 69 _ rfl) ?_
    refine F_ch (fun r15 hr15 => ?_)
    refine F_gI (n := (64 * r15 + 0)) (lyT_0 hr15) rfl fl_6_87 (dk_X6_last 72 _ rfl) ?_
    refine F_callV (ι' := uU) (ci := 6) (b := 0) (As := [.ref 32, .int (mI m14 (64 * r15 + 0))]) (d' := 7) (rfl) ok_X6_goYear vi_X6_goYear cl_6_182 (n := 2) (by decide +kernel) rfl rfl rfl (Nat.le_of_ble_eq_true rfl) (by omega) (dk_X6_last 75 _ rfl) (c_X6_goYear _ _ _ (rfl)) (fun x16 m17 => ?_)
    show JF _ _ _ _ _ _ [] _ _
    refine F_iload_n (i := 2) (a := 2) rfl rfl (dk_X6_last 78 _ rfl) ?_
    refine F_aload_n (i := 0) (a := 0) rfl rfl (dk_X6_last 79 _ rfl) ?_
    refine F_aload_n (i := 0) (a := 0) rfl rfl (dk_X6_last 80 _ rfl) ?_
    refine F_gR (b := 32) fxX_6_2_0 fl_6_54 (dk_X6_last 81 _ rfl) ?_
    refine F_iload_n (i := 1) (a := 1) rfl rfl (dk_X6_last 84 _ rfl) ?_
    refine F_callV (ι' := uI) (ci := 6) (b := 0) (As := [.ref 32, .int p1]) (d' := 2) (rfl) ok_X6_gainOfOthers vi_X6_gainOfOthers cl_6_199 (n := 2) (by decide +kernel) rfl rfl rfl (Nat.le_of_ble_eq_true rfl) (by omega) (dk_X6_last 85 _ rfl) (c_X6_gainOfOthers _ _ _ (rfl)) (fun x19 m20 => ?_)
    show JF _ _ _ _ _ _ [.int x19, .int x8] _ _
    refine F_isub (dk_X6_last 88 _ rfl) ?_
    exact F_ret rfl (dk_X6_last 89 _ rfl)
  · refine F_ldc (v := (-10000001)) ct_6_82 (dk_X6_last 8 _ rfl) ?_
    exact F_ret rfl (dk_X6_last 10 _ rfl)
def f_X6_fraction_42  (m : mM) (y0 : Int32) (y1 : Int32) (y2 : Int32) (y3 : Int32) : fR Int64 :=
  (if y2 = 0 then (dvI y0 y3).bind fun x2 => some ((x2 : Int32).toInt64, m) else (dvI y1 y3).bind fun x1 => some ((x1 : Int32).toInt64, m))
theorem j_X6_fraction_42   (m : mM) (y0 : Int32) (y1 : Int32) (y2 : Int32) (y3 : Int32)  : JF true uL m_X6_fraction 2 42 [(0, .int y0), (1, .int y1), (2, .int y2), (3, .int y3)] [] m (f_X6_fraction_42  m y0 y1 y2 y3) := by
  unfold f_X6_fraction_42
  refine F_iload_n (i := 2) (a := 2) rfl rfl (dk_X6_fraction 42 _ rfl) ?_
  refine F_if_ne (tgt := 50) (by decide) (dk_X6_fraction 43 _ rfl) ?_ ?_
  · refine F_iload_n (i := 1) (a := 1) rfl rfl (dk_X6_fraction 50 _ rfl) ?_
    refine F_iload_n (i := 3) (a := 3) rfl rfl (dk_X6_fraction 51 _ rfl) ?_
    refine F_idiv (dk_X6_fraction 52 _ rfl) (fun x1 => ?_)
    refine F_i2l (dk_X6_fraction 53 _ rfl) ?_
    exact F_retL rfl (dk_X6_fraction 54 _ rfl)
  · refine F_iload_n (i := 0) (a := 0) rfl rfl (dk_X6_fraction 46 _ rfl) ?_
    refine F_goto (tgt := 51) (by decide) (dk_X6_fraction 47 _ rfl) ?_
    refine F_iload_n (i := 3) (a := 3) rfl rfl (dk_X6_fraction 51 _ rfl) ?_
    refine F_idiv (dk_X6_fraction 52 _ rfl) (fun x2 => ?_)
    refine F_i2l (dk_X6_fraction 53 _ rfl) ?_
    exact F_retL rfl (dk_X6_fraction 54 _ rfl)
def fb_X6_fraction_19 (K19 : mM → Int32 → Int32 → Int32 → Int32 → fR Int64) (m : mM) (y0 : Int32) (y1 : Int32) (y2 : Int32) (y3 : Int32) : fR Int64 :=
  (if y3 ≤ 1 then (f_X6_fraction_42  m y0 y1 y2 y3) else (rmI y0 y3).bind fun x3 => (if x3 = 0 then (rmI y1 y3).bind fun x4 => (if x4 = 0 then (f_X6_fraction_42  m y0 y1 y2 y3) else (K19 m y0 y1 y2 (y3 + (-1)))) else (K19 m y0 y1 y2 (y3 + (-1)))))
def f_X6_fraction_19  : Nat → mM → Int32 → Int32 → Int32 → Int32 → fR Int64
  | 0, _, _, _, _, _ => none
  | F + 1, m, y0, y1, y2, y3 => fb_X6_fraction_19  (f_X6_fraction_19  F) m y0 y1 y2 y3
theorem jb_X6_fraction_19 (K19 : mM → Int32 → Int32 → Int32 → Int32 → fR Int64) (hK19 : ∀ (m : mM) (y0 : Int32) (y1 : Int32) (y2 : Int32) (y3 : Int32) , JF true uL m_X6_fraction 2 19 [(0, .int y0), (1, .int y1), (2, .int y2), (3, .int y3)] [] m (K19 m y0 y1 y2 y3)) (m : mM) (y0 : Int32) (y1 : Int32) (y2 : Int32) (y3 : Int32)  : JF true uL m_X6_fraction 2 19 [(0, .int y0), (1, .int y1), (2, .int y2), (3, .int y3)] [] m (fb_X6_fraction_19 K19 m y0 y1 y2 y3) := by
  unfold fb_X6_fraction_19
  refine F_iload_n (i := 3) (a := 3) rfl rfl (dk_X6_fraction 19 _ rfl) ?_
  refine F_iconst (v := 1) (by decide) (dk_X6_fraction 20 _ rfl) ?_
  refine F_icmp_le (tgt := 42) (by decide) (dk_X6_fraction 21 _ rfl) ?_ ?_
  · exact F_loc (fun _ z => z) (j_X6_fraction_42   _ _ _ _ _ )
  · refine F_iload_n (i := 0) (a := 0) rfl rfl (dk_X6_fraction 24 _ rfl) ?_
    refine F_iload_n (i := 3) (a := 3) rfl rfl (dk_X6_fraction 25 _ rfl) ?_
    refine F_irem (dk_X6_fraction 26 _ rfl) (fun x3 => ?_)
    refine F_if_ne (tgt := 36) (by decide) (dk_X6_fraction 27 _ rfl) ?_ ?_
    · refine F_iinc (i := 3) (n := (-1)) (v := (y3 + (-1))) (lv' := [(3, .int (y3 + (-1))), (0, .int y0), (1, .int y1), (2, .int y2)]) rfl (by first | rfl | decide) (by decide) rfl (dk_X6_fraction 36 _ rfl) ?_
      refine F_goto (tgt := 19) (by decide) (dk_X6_fraction 39 _ rfl) ?_
      exact F_loc (List.forall_mem_cons.mpr ⟨(.tail _ (.head _)), (List.forall_mem_cons.mpr ⟨(.tail _ (.tail _ (.head _))), (List.forall_mem_cons.mpr ⟨(.tail _ (.tail _ (.tail _ (.head _)))), (List.forall_mem_cons.mpr ⟨(.head _), (fun _ z => absurd z List.not_mem_nil)⟩)⟩)⟩)⟩) (hK19 _ _ _ _ _ )
    · refine F_iload_n (i := 1) (a := 1) rfl rfl (dk_X6_fraction 30 _ rfl) ?_
      refine F_iload_n (i := 3) (a := 3) rfl rfl (dk_X6_fraction 31 _ rfl) ?_
      refine F_irem (dk_X6_fraction 32 _ rfl) (fun x4 => ?_)
      refine F_if_eq (tgt := 42) (by decide) (dk_X6_fraction 33 _ rfl) ?_ ?_
      · exact F_loc (fun _ z => z) (j_X6_fraction_42   _ _ _ _ _ )
      · refine F_iinc (i := 3) (n := (-1)) (v := (y3 + (-1))) (lv' := [(3, .int (y3 + (-1))), (0, .int y0), (1, .int y1), (2, .int y2)]) rfl (by first | rfl | decide) (by decide) rfl (dk_X6_fraction 36 _ rfl) ?_
        refine F_goto (tgt := 19) (by decide) (dk_X6_fraction 39 _ rfl) ?_
        exact F_loc (List.forall_mem_cons.mpr ⟨(.tail _ (.head _)), (List.forall_mem_cons.mpr ⟨(.tail _ (.tail _ (.head _))), (List.forall_mem_cons.mpr ⟨(.tail _ (.tail _ (.tail _ (.head _)))), (List.forall_mem_cons.mpr ⟨(.head _), (fun _ z => absurd z List.not_mem_nil)⟩)⟩)⟩)⟩) (hK19 _ _ _ _ _ )
theorem j_X6_fraction_19   : ∀ (F : Nat) (m : mM) (y0 : Int32) (y1 : Int32) (y2 : Int32) (y3 : Int32) , JF true uL m_X6_fraction 2 19 [(0, .int y0), (1, .int y1), (2, .int y2), (3, .int y3)] [] m (f_X6_fraction_19  F m y0 y1 y2 y3) := by
  intro F
  induction F with
  | zero => intro m y0 y1 y2 y3 ; exact F_no
  | succ F ih => intro m y0 y1 y2 y3 ; exact jb_X6_fraction_19  (f_X6_fraction_19  F)  ih m y0 y1 y2 y3 
def f_X6_fraction (m : mM) (p0 : Int32) (p1 : Int32) (p2 : Int32) : fR Int64 :=
  (if p1 ≤ 0 then some ((-9223372036854775808), m) else (if p2 < 0 then some ((-9223372036854775808), m) else (if p2 ≤ 1 then (f_X6_fraction_19  1000 m p0 p1 p2 p1) else some ((-9223372036854775808), m))))
theorem c_X6_fraction (m : mM) (p0 : Int32) (p1 : Int32) (p2 : Int32)  : cF true uL m_X6_fraction 2 [.int p0, .int p1, .int p2] m (f_X6_fraction m p0 p1 p2) := by
  refine cF_of ok_X6_fraction (fun _ _ => Nat.le_of_ble_eq_true rfl) ?_
  unfold f_X6_fraction
  show JF _ _ _ _ _ [(0, .int p0), (1, .int p1), (2, .int p2)] _ _ _
  refine F_iload_n (i := 1) (a := 1) rfl rfl (dk_X6_fraction 0 _ rfl) ?_
  refine F_if_le (tgt := 13) (by decide) (dk_X6_fraction 1 _ rfl) ?_ ?_
  · refine F_ldc2 (v := (-9223372036854775808)) ctl_6_203 (dk_X6_fraction 13 _ rfl) ?_
    exact F_retL rfl (dk_X6_fraction 16 _ rfl)
  · refine F_iload_n (i := 2) (a := 2) rfl rfl (dk_X6_fraction 4 _ rfl) ?_
    refine F_if_lt (tgt := 13) (by decide) (dk_X6_fraction 5 _ rfl) ?_ ?_
    · refine F_ldc2 (v := (-9223372036854775808)) ctl_6_203 (dk_X6_fraction 13 _ rfl) ?_
      exact F_retL rfl (dk_X6_fraction 16 _ rfl)
    · refine F_iload_n (i := 2) (a := 2) rfl rfl (dk_X6_fraction 8 _ rfl) ?_
      refine F_iconst (v := 1) (by decide) (dk_X6_fraction 9 _ rfl) ?_
      refine F_icmp_le (tgt := 17) (by decide) (dk_X6_fraction 10 _ rfl) ?_ ?_
      · refine F_iload_n (i := 1) (a := 1) rfl rfl (dk_X6_fraction 17 _ rfl) ?_
        refine F_istore_n (lv' := [(3, .int p1), (0, .int p0), (1, .int p1), (2, .int p2)]) (i := 3) (a := 3) rfl (by decide) rfl (dk_X6_fraction 18 _ rfl) ?_
        exact F_loc (List.forall_mem_cons.mpr ⟨(.tail _ (.head _)), (List.forall_mem_cons.mpr ⟨(.tail _ (.tail _ (.head _))), (List.forall_mem_cons.mpr ⟨(.tail _ (.tail _ (.tail _ (.head _)))), (List.forall_mem_cons.mpr ⟨(.head _), (fun _ z => absurd z List.not_mem_nil)⟩)⟩)⟩)⟩) (j_X6_fraction_19   1000 _ _ _ _ _ )
      · refine F_ldc2 (v := (-9223372036854775808)) ctl_6_203 (dk_X6_fraction 13 _ rfl) ?_
        exact F_retL rfl (dk_X6_fraction 16 _ rfl)
def fb_X6_odds_58 (K58 : mM → Int32 → Int32 → Int32 → Int32 → fR Int64) (m : mM) (y2 : Int32) (y3 : Int32) (y4 : Int32) (y5 : Int32) : fR Int64 :=
  (if 12 ≤ y5 then bnd (f_X6_fraction m y4 12 y3) fun (x14 : Int64) (m15 : mM) => some (x14, m15) else (gA (mA m 1) y5).bind fun x17 => (gA (mA m 1) y2).bind fun x18 => (if x17 < x18 then (K58 m y2 y3 y4 (y5 + 1)) else (K58 m y2 y3 (y4 + 1) (y5 + 1))))
def f_X6_odds_58  : Nat → mM → Int32 → Int32 → Int32 → Int32 → fR Int64
  | 0, _, _, _, _, _ => none
  | F + 1, m, y2, y3, y4, y5 => fb_X6_odds_58  (f_X6_odds_58  F) m y2 y3 y4 y5
theorem jb_X6_odds_58 (K58 : mM → Int32 → Int32 → Int32 → Int32 → fR Int64) (hK58 : ∀ (m : mM) (y2 : Int32) (y3 : Int32) (y4 : Int32) (y5 : Int32) , JF true uL m_X6_odds 8 58 [(0, .ref 0), (2, .int y2), (3, .int y3), (4, .int y4), (5, .int y5)] [] m (K58 m y2 y3 y4 y5)) (m : mM) (y2 : Int32) (y3 : Int32) (y4 : Int32) (y5 : Int32)  : JF true uL m_X6_odds 8 58 [(0, .ref 0), (2, .int y2), (3, .int y3), (4, .int y4), (5, .int y5)] [] m (fb_X6_odds_58 K58 m y2 y3 y4 y5) := by
  unfold fb_X6_odds_58
  refine F_iload (i := 5) rfl (dk_X6_odds 58 _ rfl) ?_
  refine F_bipush (v := 12) (by decide) (dk_X6_odds 60 _ rfl) ?_
  refine F_icmp_ge (tgt := 90) (by decide) (dk_X6_odds 62 _ rfl) ?_ ?_
  · refine F_iload (i := 4) rfl (dk_X6_odds 90 _ rfl) ?_
    refine F_bipush (v := 12) (by decide) (dk_X6_odds 92 _ rfl) ?_
    refine F_iload_n (i := 3) (a := 3) rfl rfl (dk_X6_odds 94 _ rfl) ?_
    refine F_callS (ι' := uL) (As := [.int y4, .int 12, .int y3]) (d' := 2) ok_X6_fraction st_X6_fraction cl_6_205 rfl (n := 3) (by decide +kernel) rfl (Nat.le_of_ble_eq_true rfl) (by omega) (dk_X6_odds 95 _ rfl) (c_X6_fraction _ _ _ _ ) (fun x14 m15 => ?_)
    show JF _ _ _ _ _ _ [.long x14] _ _
    exact F_retL rfl (dk_X6_odds 98 _ rfl)
  · refine F_aload_n (i := 0) (a := 0) rfl rfl (dk_X6_odds 65 _ rfl) ?_
    refine F_gR (b := 1) fxX_6_5_0 fl_6_11 (dk_X6_odds 66 _ rfl) ?_
    refine F_iload (i := 5) rfl (dk_X6_odds 69 _ rfl) ?_
    refine F_iald (axX_0_1) (dk_X6_odds 71 _ rfl) (fun x17 => ?_)
    refine F_aload_n (i := 0) (a := 0) rfl rfl (dk_X6_odds 72 _ rfl) ?_
    refine F_gR (b := 1) fxX_6_5_0 fl_6_11 (dk_X6_odds 73 _ rfl) ?_
    refine F_iload_n (i := 2) (a := 2) rfl rfl (dk_X6_odds 76 _ rfl) ?_
    refine F_iald (axX_0_1) (dk_X6_odds 77 _ rfl) (fun x18 => ?_)
    refine F_icmp_lt (tgt := 84) (by decide) (dk_X6_odds 78 _ rfl) ?_ ?_
    · refine F_iinc (i := 5) (n := 1) (v := (y5 + 1)) (lv' := [(5, .int (y5 + 1)), (0, .ref 0), (2, .int y2), (3, .int y3), (4, .int y4)]) rfl (by first | rfl | decide) (by decide) rfl (dk_X6_odds 84 _ rfl) ?_
      refine F_goto (tgt := 58) (by decide) (dk_X6_odds 87 _ rfl) ?_
      exact F_loc (List.forall_mem_cons.mpr ⟨(.tail _ (.head _)), (List.forall_mem_cons.mpr ⟨(.tail _ (.tail _ (.head _))), (List.forall_mem_cons.mpr ⟨(.tail _ (.tail _ (.tail _ (.head _)))), (List.forall_mem_cons.mpr ⟨(.tail _ (.tail _ (.tail _ (.tail _ (.head _))))), (List.forall_mem_cons.mpr ⟨(.head _), (fun _ z => absurd z List.not_mem_nil)⟩)⟩)⟩)⟩)⟩) (hK58 _ _ _ _ _ )
    · refine F_iinc (i := 4) (n := 1) (v := (y4 + 1)) (lv' := [(4, .int (y4 + 1)), (0, .ref 0), (2, .int y2), (3, .int y3), (5, .int y5)]) rfl (by first | rfl | decide) (by decide) rfl (dk_X6_odds 81 _ rfl) ?_
      refine F_iinc (i := 5) (n := 1) (v := (y5 + 1)) (lv' := [(5, .int (y5 + 1)), (4, .int (y4 + 1)), (0, .ref 0), (2, .int y2), (3, .int y3)]) rfl (by first | rfl | decide) (by decide) rfl (dk_X6_odds 84 _ rfl) ?_
      refine F_goto (tgt := 58) (by decide) (dk_X6_odds 87 _ rfl) ?_
      exact F_loc (List.forall_mem_cons.mpr ⟨(.tail _ (.tail _ (.head _))), (List.forall_mem_cons.mpr ⟨(.tail _ (.tail _ (.tail _ (.head _)))), (List.forall_mem_cons.mpr ⟨(.tail _ (.tail _ (.tail _ (.tail _ (.head _))))), (List.forall_mem_cons.mpr ⟨(.tail _ (.head _)), (List.forall_mem_cons.mpr ⟨(.head _), (fun _ z => absurd z List.not_mem_nil)⟩)⟩)⟩)⟩)⟩) (hK58 _ _ _ _ _ )
theorem j_X6_odds_58   : ∀ (F : Nat) (m : mM) (y2 : Int32) (y3 : Int32) (y4 : Int32) (y5 : Int32) , JF true uL m_X6_odds 8 58 [(0, .ref 0), (2, .int y2), (3, .int y3), (4, .int y4), (5, .int y5)] [] m (f_X6_odds_58  F m y2 y3 y4 y5) := by
  intro F
  induction F with
  | zero => intro m y2 y3 y4 y5 ; exact F_no
  | succ F ih => intro m y2 y3 y4 y5 ; exact jb_X6_odds_58  (f_X6_odds_58  F)  ih m y2 y3 y4 y5 
def f_X6_odds (m : mM) (p1 : Int32) (p2 : Int32) (p3 : Int32) : fR Int64 :=
  bnd (f_X6_isPerson m p1) fun (x1 : Int32) (m2 : mM) => (if x1 = 0 then some ((-9223372036854775808), m2) else bnd (f_X6_isDay m2 p2) fun (x4 : Int32) (m5 : mM) => (if x4 = 0 then some ((-9223372036854775808), m5) else bnd (f_X2_copy m5 32 14) fun (x7 : Unit) (m8 : mM) => chR true 5 (mR m8 900) fun r10 => bnd (f_X6_tryDays m8 35 p1 ((mI m8 (64 * r10 + 0)))) fun (x11 : Unit) (m12 : mM) => (f_X6_odds_58  1000 m12 p2 p3 0 0)))
theorem c_X6_odds (m : mM) (p1 : Int32) (p2 : Int32) (p3 : Int32)  : cF true uL m_X6_odds 8 [.ref 0, .int p1, .int p2, .int p3] m (f_X6_odds m p1 p2 p3) := by
  refine cF_of ok_X6_odds (fun _ _ => Nat.le_of_ble_eq_true rfl) ?_
  unfold f_X6_odds
  show JF _ _ _ _ _ [(0, .ref 0), (1, .int p1), (2, .int p2), (3, .int p3)] _ _ _
  refine F_aload_n (i := 0) (a := 0) rfl rfl (dk_X6_odds 0 _ rfl) ?_
  refine F_iload_n (i := 1) (a := 1) rfl rfl (dk_X6_odds 1 _ rfl) ?_
  refine F_callV (ι' := uI) (ci := 6) (b := 0) (As := [.int p1]) (d' := 2) (rfl) ok_X6_isPerson vi_X6_isPerson cl_6_79 (n := 1) (by decide +kernel) rfl rfl rfl (Nat.le_of_ble_eq_true rfl) (by omega) (dk_X6_odds 2 _ rfl) (c_X6_isPerson _ _ ) (fun x1 m2 => ?_)
  show JF _ _ _ _ _ _ [.int x1] _ _
  refine F_if_eq (tgt := 15) (by decide) (dk_X6_odds 5 _ rfl) ?_ ?_
  · refine F_ldc2 (v := (-9223372036854775808)) ctl_6_203 (dk_X6_odds 15 _ rfl) ?_
    exact F_retL rfl (dk_X6_odds 18 _ rfl)
  · refine F_iload_n (i := 2) (a := 2) rfl rfl (dk_X6_odds 8 _ rfl) ?_
    refine F_callS (ι' := uI) (As := [.int p2]) (d' := 2) ok_X6_isDay st_X6_isDay cl_6_67 rfl (n := 1) (by decide +kernel) rfl (Nat.le_of_ble_eq_true rfl) (by omega) (dk_X6_odds 9 _ rfl) (c_X6_isDay _ _ ) (fun x4 m5 => ?_)
    show JF _ _ _ _ _ _ [.int x4] _ _
    refine F_if_ne (tgt := 19) (by decide) (dk_X6_odds 12 _ rfl) ?_ ?_
    · refine F_aload_n (i := 0) (a := 0) rfl rfl (dk_X6_odds 19 _ rfl) ?_
      refine F_gR (b := 32) fxX_6_2_0 fl_6_54 (dk_X6_odds 20 _ rfl) ?_
      refine F_aload_n (i := 0) (a := 0) rfl rfl (dk_X6_odds 23 _ rfl) ?_
      refine F_gR (b := 14) fxX_6_0_0 fl_6_47 (dk_X6_odds 24 _ rfl) ?_
      refine F_callV (ι' := uU) (ci := 2) (b := 32) (As := [.ref 14]) (d' := 2) (rfl) ok_X2_copy vi_X2_copy cl_6_185 (n := 1) (by decide +kernel) rfl rfl rfl (Nat.le_of_ble_eq_true rfl) (by omega) (dk_X6_odds 27 _ rfl) (c_X2_copy _ _ _ (rfl) (rfl)) (fun x7 m8 => ?_)
      show JF _ _ _ _ _ _ [] _ _
      refine F_aload_n (i := 0) (a := 0) rfl rfl (dk_X6_odds 30 _ rfl) ?_
      refine F_aload_n (i := 0) (a := 0) rfl rfl (dk_X6_odds 31 _ rfl) ?_
      refine F_gR (b := 32) fxX_6_2_0 fl_6_54 (dk_X6_odds 32 _ rfl) ?_
      refine F_gR (b := 35) fxX_2_7_32 fl_6_103 (dk_X6_odds 35 _ rfl) ?_
      refine F_iload_n (i := 1) (a := 1) rfl rfl (dk_X6_odds 38 _ rfl) ?_
      refine F_aload_n (i := 0) (a := 0) rfl rfl (dk_X6_odds 39 _ rfl) ?_
      refine F_gR (b := 14) fxX_6_0_0 fl_6_47 (dk_X6_odds 40 _ rfl) ?_
      refine F_gV (n := 900) fxX_2_4_14 rfl fl_6_83 (dk_X6_odds 43 _ rfl) ?_
      refine F_ch (fun r10 hr10 => ?_)
      refine F_gI (n := (64 * r10 + 0)) (lyT_0 hr10) rfl fl_6_87 (dk_X6_odds 46 _ rfl) ?_
      refine F_callV (ι' := uU) (ci := 6) (b := 0) (As := [.ref 35, .int p1, .int (mI m8 (64 * r10 + 0))]) (d' := 7) (rfl) ok_X6_tryDays vi_X6_tryDays cl_6_192 (n := 3) (by decide +kernel) rfl rfl rfl (Nat.le_of_ble_eq_true rfl) (by omega) (dk_X6_odds 49 _ rfl) (c_X6_tryDays _ _ _ _ (axX_0_35)) (fun x11 m12 => ?_)
      show JF _ _ _ _ _ _ [] _ _
      refine F_iconst (v := 0) (by decide) (dk_X6_odds 52 _ rfl) ?_
      refine F_istore (lv' := [(4, .int 0), (0, .ref 0), (1, .int p1), (2, .int p2), (3, .int p3)]) (i := 4) (by decide) rfl (dk_X6_odds 53 _ rfl) ?_
      refine F_iconst (v := 0) (by decide) (dk_X6_odds 55 _ rfl) ?_
      refine F_istore (lv' := [(5, .int 0), (4, .int 0), (0, .ref 0), (1, .int p1), (2, .int p2), (3, .int p3)]) (i := 5) (by decide) rfl (dk_X6_odds 56 _ rfl) ?_
      exact F_loc (List.forall_mem_cons.mpr ⟨(.tail _ (.tail _ (.head _))), (List.forall_mem_cons.mpr ⟨(.tail _ (.tail _ (.tail _ (.tail _ (.head _))))), (List.forall_mem_cons.mpr ⟨(.tail _ (.tail _ (.tail _ (.tail _ (.tail _ (.head _)))))), (List.forall_mem_cons.mpr ⟨(.tail _ (.head _)), (List.forall_mem_cons.mpr ⟨(.head _), (fun _ z => absurd z List.not_mem_nil)⟩)⟩)⟩)⟩)⟩) (j_X6_odds_58   1000 _ _ _ _ _ )
    · refine F_ldc2 (v := (-9223372036854775808)) ctl_6_203 (dk_X6_odds 15 _ rfl) ?_
      exact F_retL rfl (dk_X6_odds 18 _ rfl)
def fb_X6_mean_4 (K4 : mM → Int32 → Int32 → Int32 → fR Int64) (m : mM) (y1 : Int32) (y2 : Int32) (y3 : Int32) : fR Int64 :=
  (if (mI m 896) ≤ y3 then chR true 5 (mR m 900) fun r1 => bnd (f_X6_goYear m 14 ((mI m (64 * r1 + 0)))) fun (x2 : Unit) (m3 : mM) => bnd (f_X6_gainOfOthers m3 14 (-1)) fun (x5 : Int32) (m6 : mM) => bnd (f_X6_fraction m6 x5 y2 y1) fun (x8 : Int64) (m9 : mM) => some (x8, m9) else (gA (mA m 20) y3).bind fun x11 => (if x11 = 0 then (K4 m y1 y2 (y3 + 1)) else (K4 m y1 (y2 + 1) (y3 + 1))))
def f_X6_mean_4  : Nat → mM → Int32 → Int32 → Int32 → fR Int64
  | 0, _, _, _, _ => none
  | F + 1, m, y1, y2, y3 => fb_X6_mean_4  (f_X6_mean_4  F) m y1 y2 y3
theorem jb_X6_mean_4 (K4 : mM → Int32 → Int32 → Int32 → fR Int64) (hK4 : ∀ (m : mM) (y1 : Int32) (y2 : Int32) (y3 : Int32) , JF true uL m_X6_mean 8 4 [(0, .ref 0), (1, .int y1), (2, .int y2), (3, .int y3)] [] m (K4 m y1 y2 y3)) (m : mM) (y1 : Int32) (y2 : Int32) (y3 : Int32)  : JF true uL m_X6_mean 8 4 [(0, .ref 0), (1, .int y1), (2, .int y2), (3, .int y3)] [] m (fb_X6_mean_4 K4 m y1 y2 y3) := by
  unfold fb_X6_mean_4
  refine F_iload_n (i := 3) (a := 3) rfl rfl (dk_X6_mean 4 _ rfl) ?_
  refine F_aload_n (i := 0) (a := 0) rfl rfl (dk_X6_mean 5 _ rfl) ?_
  refine F_gR (b := 14) fxX_6_0_0 fl_6_47 (dk_X6_mean 6 _ rfl) ?_
  refine F_gI (n := 896) fxX_2_0_14 rfl fl_6_71 (dk_X6_mean 9 _ rfl) ?_
  refine F_icmp_ge (tgt := 36) (by decide) (dk_X6_mean 12 _ rfl) ?_ ?_
  · refine F_aload_n (i := 0) (a := 0) rfl rfl (dk_X6_mean 36 _ rfl) ?_
    refine F_aload_n (i := 0) (a := 0) rfl rfl (dk_X6_mean 37 _ rfl) ?_
    refine F_gR (b := 14) fxX_6_0_0 fl_6_47 (dk_X6_mean 38 _ rfl) ?_
    refine F_aload_n (i := 0) (a := 0) rfl rfl (dk_X6_mean 41 _ rfl) ?_
    refine F_gR (b := 14) fxX_6_0_0 fl_6_47 (dk_X6_mean 42 _ rfl) ?_
    refine F_gV (n := 900) fxX_2_4_14 rfl fl_6_83 (dk_X6_mean 45 _ rfl) ?_
    refine F_ch (fun r1 hr1 => ?_)
    refine F_gI (n := (64 * r1 + 0)) (lyT_0 hr1) rfl fl_6_87 (dk_X6_mean 48 _ rfl) ?_
    refine F_callV (ι' := uU) (ci := 6) (b := 0) (As := [.ref 14, .int (mI m (64 * r1 + 0))]) (d' := 7) (rfl) ok_X6_goYear vi_X6_goYear cl_6_182 (n := 2) (by decide +kernel) rfl rfl rfl (Nat.le_of_ble_eq_true rfl) (by omega) (dk_X6_mean 51 _ rfl) (c_X6_goYear _ _ _ (rfl)) (fun x2 m3 => ?_)
    show JF _ _ _ _ _ _ [] _ _
    refine F_aload_n (i := 0) (a := 0) rfl rfl (dk_X6_mean 54 _ rfl) ?_
    refine F_aload_n (i := 0) (a := 0) rfl rfl (dk_X6_mean 55 _ rfl) ?_
    refine F_gR (b := 14) fxX_6_0_0 fl_6_47 (dk_X6_mean 56 _ rfl) ?_
    refine F_iconst (v := (-1)) (by decide) (dk_X6_mean 59 _ rfl) ?_
    refine F_callV (ι' := uI) (ci := 6) (b := 0) (As := [.ref 14, .int (-1)]) (d' := 2) (rfl) ok_X6_gainOfOthers vi_X6_gainOfOthers cl_6_199 (n := 2) (by decide +kernel) rfl rfl rfl (Nat.le_of_ble_eq_true rfl) (by omega) (dk_X6_mean 60 _ rfl) (c_X6_gainOfOthers _ _ _ (rfl)) (fun x5 m6 => ?_)
    show JF _ _ _ _ _ _ [.int x5] _ _
    refine F_iload_n (i := 2) (a := 2) rfl rfl (dk_X6_mean 63 _ rfl) ?_
    refine F_iload_n (i := 1) (a := 1) rfl rfl (dk_X6_mean 64 _ rfl) ?_
    refine F_callS (ι' := uL) (As := [.int x5, .int y2, .int y1]) (d' := 2) ok_X6_fraction st_X6_fraction cl_6_205 rfl (n := 3) (by decide +kernel) rfl (Nat.le_of_ble_eq_true rfl) (by omega) (dk_X6_mean 65 _ rfl) (c_X6_fraction _ _ _ _ ) (fun x8 m9 => ?_)
    show JF _ _ _ _ _ _ [.long x8] _ _
    exact F_retL rfl (dk_X6_mean 68 _ rfl)
  · refine F_aload_n (i := 0) (a := 0) rfl rfl (dk_X6_mean 15 _ rfl) ?_
    refine F_gR (b := 14) fxX_6_0_0 fl_6_47 (dk_X6_mean 16 _ rfl) ?_
    refine F_gR (b := 20) fxX_2_10_14 fl_6_109 (dk_X6_mean 19 _ rfl) ?_
    refine F_iload_n (i := 3) (a := 3) rfl rfl (dk_X6_mean 22 _ rfl) ?_
    refine F_zald (axX_3_20) (dk_X6_mean 23 _ rfl) (fun x11 => ?_)
    refine F_if_eq (tgt := 30) (by decide) (dk_X6_mean 24 _ rfl) ?_ ?_
    · refine F_iinc (i := 3) (n := 1) (v := (y3 + 1)) (lv' := [(3, .int (y3 + 1)), (0, .ref 0), (1, .int y1), (2, .int y2)]) rfl (by first | rfl | decide) (by decide) rfl (dk_X6_mean 30 _ rfl) ?_
      refine F_goto (tgt := 4) (by decide) (dk_X6_mean 33 _ rfl) ?_
      exact F_loc (List.forall_mem_cons.mpr ⟨(.tail _ (.head _)), (List.forall_mem_cons.mpr ⟨(.tail _ (.tail _ (.head _))), (List.forall_mem_cons.mpr ⟨(.tail _ (.tail _ (.tail _ (.head _)))), (List.forall_mem_cons.mpr ⟨(.head _), (fun _ z => absurd z List.not_mem_nil)⟩)⟩)⟩)⟩) (hK4 _ _ _ _ )
    · refine F_iinc (i := 2) (n := 1) (v := (y2 + 1)) (lv' := [(2, .int (y2 + 1)), (0, .ref 0), (1, .int y1), (3, .int y3)]) rfl (by first | rfl | decide) (by decide) rfl (dk_X6_mean 27 _ rfl) ?_
      refine F_iinc (i := 3) (n := 1) (v := (y3 + 1)) (lv' := [(3, .int (y3 + 1)), (2, .int (y2 + 1)), (0, .ref 0), (1, .int y1)]) rfl (by first | rfl | decide) (by decide) rfl (dk_X6_mean 30 _ rfl) ?_
      refine F_goto (tgt := 4) (by decide) (dk_X6_mean 33 _ rfl) ?_
      exact F_loc (List.forall_mem_cons.mpr ⟨(.tail _ (.tail _ (.head _))), (List.forall_mem_cons.mpr ⟨(.tail _ (.tail _ (.tail _ (.head _)))), (List.forall_mem_cons.mpr ⟨(.tail _ (.head _)), (List.forall_mem_cons.mpr ⟨(.head _), (fun _ z => absurd z List.not_mem_nil)⟩)⟩)⟩)⟩) (hK4 _ _ _ _ )
theorem j_X6_mean_4   : ∀ (F : Nat) (m : mM) (y1 : Int32) (y2 : Int32) (y3 : Int32) , JF true uL m_X6_mean 8 4 [(0, .ref 0), (1, .int y1), (2, .int y2), (3, .int y3)] [] m (f_X6_mean_4  F m y1 y2 y3) := by
  intro F
  induction F with
  | zero => intro m y1 y2 y3 ; exact F_no
  | succ F ih => intro m y1 y2 y3 ; exact jb_X6_mean_4  (f_X6_mean_4  F)  ih m y1 y2 y3 
def f_X6_mean (m : mM) (p1 : Int32) : fR Int64 :=
  (f_X6_mean_4  1000 m p1 0 0)
theorem c_X6_mean (m : mM) (p1 : Int32)  : cF true uL m_X6_mean 8 [.ref 0, .int p1] m (f_X6_mean m p1) := by
  refine cF_of ok_X6_mean (fun _ _ => Nat.le_of_ble_eq_true rfl) ?_
  unfold f_X6_mean
  show JF _ _ _ _ _ [(0, .ref 0), (1, .int p1)] _ _ _
  refine F_iconst (v := 0) (by decide) (dk_X6_mean 0 _ rfl) ?_
  refine F_istore_n (lv' := [(2, .int 0), (0, .ref 0), (1, .int p1)]) (i := 2) (a := 2) rfl (by decide) rfl (dk_X6_mean 1 _ rfl) ?_
  refine F_iconst (v := 0) (by decide) (dk_X6_mean 2 _ rfl) ?_
  refine F_istore_n (lv' := [(3, .int 0), (2, .int 0), (0, .ref 0), (1, .int p1)]) (i := 3) (a := 3) rfl (by decide) rfl (dk_X6_mean 3 _ rfl) ?_
  exact F_loc (List.forall_mem_cons.mpr ⟨(.tail _ (.tail _ (.head _))), (List.forall_mem_cons.mpr ⟨(.tail _ (.tail _ (.tail _ (.head _)))), (List.forall_mem_cons.mpr ⟨(.tail _ (.head _)), (List.forall_mem_cons.mpr ⟨(.head _), (fun _ z => absurd z List.not_mem_nil)⟩)⟩)⟩)⟩) (j_X6_mean_4   1000 _ _ _ _ )
def f_X6_book (m : mM) (p1 : Int32) : fR Int32 :=
  (if p1 = (-10000) then nmM (wI m 899 0) fun m3 => some (0, m3) else (if p1 < (-9999) then some ((-2), m) else (if p1 ≤ 9999 then (if (mI m 899) < 12 then (sA 0 m 22 (mI m 899) p1).bind fun m1 => nmM (wI m1 899 (((mI m1 899) + 1))) fun m2 => some ((mI m2 899), m2) else some ((-4), m)) else some ((-2), m))))
theorem c_X6_book (m : mM) (p1 : Int32)  : cF true uI m_X6_book 2 [.ref 0, .int p1] m (f_X6_book m p1) := by
  refine cF_of ok_X6_book (fun _ _ => Nat.le_of_ble_eq_true rfl) ?_
  unfold f_X6_book
  show JF _ _ _ _ _ [(0, .ref 0), (1, .int p1)] _ _ _
  refine F_iload_n (i := 1) (a := 1) rfl rfl (dk_X6_book 0 _ rfl) ?_
  refine F_sipush (v := (-10000)) (by decide) (dk_X6_book 1 _ rfl) ?_
  refine F_icmp_ne (tgt := 17) (by decide) (dk_X6_book 4 _ rfl) ?_ ?_
  · refine F_iload_n (i := 1) (a := 1) rfl rfl (dk_X6_book 17 _ rfl) ?_
    refine F_sipush (v := (-9999)) (by decide) (dk_X6_book 18 _ rfl) ?_
    refine F_icmp_lt (tgt := 31) (by decide) (dk_X6_book 21 _ rfl) ?_ ?_
    · refine F_bipush (v := (-2)) (by decide) (dk_X6_book 31 _ rfl) ?_
      exact F_ret rfl (dk_X6_book 33 _ rfl)
    · refine F_iload_n (i := 1) (a := 1) rfl rfl (dk_X6_book 24 _ rfl) ?_
      refine F_sipush (v := 9999) (by decide) (dk_X6_book 25 _ rfl) ?_
      refine F_icmp_le (tgt := 34) (by decide) (dk_X6_book 28 _ rfl) ?_ ?_
      · refine F_aload_n (i := 0) (a := 0) rfl rfl (dk_X6_book 34 _ rfl) ?_
        refine F_gR (b := 14) fxX_6_0_0 fl_6_47 (dk_X6_book 35 _ rfl) ?_
        refine F_gI (n := 899) fxX_2_3_14 rfl fl_6_209 (dk_X6_book 38 _ rfl) ?_
        refine F_bipush (v := 12) (by decide) (dk_X6_book 41 _ rfl) ?_
        refine F_icmp_lt (tgt := 49) (by decide) (dk_X6_book 43 _ rfl) ?_ ?_
        · refine F_aload_n (i := 0) (a := 0) rfl rfl (dk_X6_book 49 _ rfl) ?_
          refine F_gR (b := 14) fxX_6_0_0 fl_6_47 (dk_X6_book 50 _ rfl) ?_
          refine F_gR (b := 22) fxX_2_12_14 fl_6_212 (dk_X6_book 53 _ rfl) ?_
          refine F_aload_n (i := 0) (a := 0) rfl rfl (dk_X6_book 56 _ rfl) ?_
          refine F_gR (b := 14) fxX_6_0_0 fl_6_47 (dk_X6_book 57 _ rfl) ?_
          refine F_gI (n := 899) fxX_2_3_14 rfl fl_6_209 (dk_X6_book 60 _ rfl) ?_
          refine F_iload_n (i := 1) (a := 1) rfl rfl (dk_X6_book 63 _ rfl) ?_
          refine F_iast (axX_0_22) (dk_X6_book 64 _ rfl) (fun m1 => ?_)
          refine F_aload_n (i := 0) (a := 0) rfl rfl (dk_X6_book 65 _ rfl) ?_
          refine F_gR (b := 14) fxX_6_0_0 fl_6_47 (dk_X6_book 66 _ rfl) ?_
          refine F_dup rfl (dk_X6_book 69 _ rfl) ?_
          refine F_gI (n := 899) fxX_2_3_14 rfl fl_6_209 (dk_X6_book 70 _ rfl) ?_
          refine F_iconst (v := 1) (by decide) (dk_X6_book 73 _ rfl) ?_
          refine F_iadd (dk_X6_book 74 _ rfl) ?_
          refine F_pI (n := 899) fxX_2_3_14 rfl fl_6_209 (fun q hq => by cases hq; rfl) trivial (dk_X6_book 75 _ rfl) (fun m2 => ?_)
          refine F_aload_n (i := 0) (a := 0) rfl rfl (dk_X6_book 78 _ rfl) ?_
          refine F_gR (b := 14) fxX_6_0_0 fl_6_47 (dk_X6_book 79 _ rfl) ?_
          refine F_gI (n := 899) fxX_2_3_14 rfl fl_6_209 (dk_X6_book 82 _ rfl) ?_
          exact F_ret rfl (dk_X6_book 85 _ rfl)
        · refine F_bipush (v := (-4)) (by decide) (dk_X6_book 46 _ rfl) ?_
          exact F_ret rfl (dk_X6_book 48 _ rfl)
      · refine F_bipush (v := (-2)) (by decide) (dk_X6_book 31 _ rfl) ?_
        exact F_ret rfl (dk_X6_book 33 _ rfl)
  · refine F_aload_n (i := 0) (a := 0) rfl rfl (dk_X6_book 7 _ rfl) ?_
    refine F_gR (b := 14) fxX_6_0_0 fl_6_47 (dk_X6_book 8 _ rfl) ?_
    refine F_iconst (v := 0) (by decide) (dk_X6_book 11 _ rfl) ?_
    refine F_pI (n := 899) fxX_2_3_14 rfl fl_6_209 (fun q hq => by cases hq; rfl) trivial (dk_X6_book 12 _ rfl) (fun m3 => ?_)
    refine F_iconst (v := 0) (by decide) (dk_X6_book 15 _ rfl) ?_
    exact F_ret rfl (dk_X6_book 16 _ rfl)
def fb_X6_looked_49 (K49 : mM → Int32 → Int32 → fR Int32) (m : mM) (y1 : Int32) (y2 : Int32) : fR Int32 :=
  (if (mI m 899) ≤ y2 then some ((-5), m) else bnd (f_X1_go m 1) fun (x5 : Unit) (m6 : mM) => (gA (mA m6 22) y2).bind fun x8 => (gA (mA m6 19) 0).bind fun x9 => (gA (mA m6 42) 0).bind fun x10 => (if (abI (((x8 - x9) - x10))) ≤ y1 then (K49 m6 y1 (y2 + 1)) else some (y2, m6)))
def f_X6_looked_49  : Nat → mM → Int32 → Int32 → fR Int32
  | 0, _, _, _ => none
  | F + 1, m, y1, y2 => fb_X6_looked_49  (f_X6_looked_49  F) m y1 y2
theorem jb_X6_looked_49 (K49 : mM → Int32 → Int32 → fR Int32) (hK49 : ∀ (m : mM) (y1 : Int32) (y2 : Int32) , JF true uI m_X6_looked 7 49 [(0, .ref 0), (1, .int y1), (2, .int y2)] [] m (K49 m y1 y2)) (m : mM) (y1 : Int32) (y2 : Int32)  : JF true uI m_X6_looked 7 49 [(0, .ref 0), (1, .int y1), (2, .int y2)] [] m (fb_X6_looked_49 K49 m y1 y2) := by
  unfold fb_X6_looked_49
  refine F_iload_n (i := 2) (a := 2) rfl rfl (dk_X6_looked 49 _ rfl) ?_
  refine F_aload_n (i := 0) (a := 0) rfl rfl (dk_X6_looked 50 _ rfl) ?_
  refine F_gR (b := 14) fxX_6_0_0 fl_6_47 (dk_X6_looked 51 _ rfl) ?_
  refine F_gI (n := 899) fxX_2_3_14 rfl fl_6_209 (dk_X6_looked 54 _ rfl) ?_
  refine F_icmp_ge (tgt := 112) (by decide) (dk_X6_looked 57 _ rfl) ?_ ?_
  · refine F_bipush (v := (-5)) (by decide) (dk_X6_looked 112 _ rfl) ?_
    exact F_ret rfl (dk_X6_looked 114 _ rfl)
  · refine F_aload_n (i := 0) (a := 0) rfl rfl (dk_X6_looked 60 _ rfl) ?_
    refine F_gR (b := 41) fxX_6_4_0 fl_6_62 (dk_X6_looked 61 _ rfl) ?_
    refine F_iconst (v := 1) (by decide) (dk_X6_looked 64 _ rfl) ?_
    refine F_callV (ι' := uU) (ci := 1) (b := 41) (As := [.int 1]) (d' := 6) (rfl) ok_X1_go vi_X1_go cl_6_166 (n := 1) (by decide +kernel) rfl rfl rfl (Nat.le_of_ble_eq_true rfl) (by omega) (dk_X6_looked 65 _ rfl) (c_X1_go _ _ ) (fun x5 m6 => ?_)
    show JF _ _ _ _ _ _ [] _ _
    refine F_aload_n (i := 0) (a := 0) rfl rfl (dk_X6_looked 68 _ rfl) ?_
    refine F_gR (b := 14) fxX_6_0_0 fl_6_47 (dk_X6_looked 69 _ rfl) ?_
    refine F_gR (b := 22) fxX_2_12_14 fl_6_212 (dk_X6_looked 72 _ rfl) ?_
    refine F_iload_n (i := 2) (a := 2) rfl rfl (dk_X6_looked 75 _ rfl) ?_
    refine F_iald (axX_0_22) (dk_X6_looked 76 _ rfl) (fun x8 => ?_)
    refine F_aload_n (i := 0) (a := 0) rfl rfl (dk_X6_looked 77 _ rfl) ?_
    refine F_gR (b := 14) fxX_6_0_0 fl_6_47 (dk_X6_looked 78 _ rfl) ?_
    refine F_gR (b := 19) fxX_2_9_14 fl_6_121 (dk_X6_looked 81 _ rfl) ?_
    refine F_iconst (v := 0) (by decide) (dk_X6_looked 84 _ rfl) ?_
    refine F_iald (axX_0_19) (dk_X6_looked 85 _ rfl) (fun x9 => ?_)
    refine F_isub (dk_X6_looked 86 _ rfl) ?_
    refine F_aload_n (i := 0) (a := 0) rfl rfl (dk_X6_looked 87 _ rfl) ?_
    refine F_gR (b := 41) fxX_6_4_0 fl_6_62 (dk_X6_looked 88 _ rfl) ?_
    refine F_gR (b := 42) fxX_1_5_41 fl_6_170 (dk_X6_looked 91 _ rfl) ?_
    refine F_iconst (v := 0) (by decide) (dk_X6_looked 94 _ rfl) ?_
    refine F_iald (axX_0_42) (dk_X6_looked 95 _ rfl) (fun x10 => ?_)
    refine F_isub (dk_X6_looked 96 _ rfl) ?_
    refine F_abs ol_6_215 (Nat.le_of_ble_eq_true rfl) (by omega) (dk_X6_looked 97 _ rfl) ?_
    refine F_iload_n (i := 1) (a := 1) rfl rfl (dk_X6_looked 100 _ rfl) ?_
    refine F_icmp_le (tgt := 106) (by decide) (dk_X6_looked 101 _ rfl) ?_ ?_
    · refine F_iinc (i := 2) (n := 1) (v := (y2 + 1)) (lv' := [(2, .int (y2 + 1)), (0, .ref 0), (1, .int y1)]) rfl (by first | rfl | decide) (by decide) rfl (dk_X6_looked 106 _ rfl) ?_
      refine F_goto (tgt := 49) (by decide) (dk_X6_looked 109 _ rfl) ?_
      exact F_loc (List.forall_mem_cons.mpr ⟨(.tail _ (.head _)), (List.forall_mem_cons.mpr ⟨(.tail _ (.tail _ (.head _))), (List.forall_mem_cons.mpr ⟨(.head _), (fun _ z => absurd z List.not_mem_nil)⟩)⟩)⟩) (hK49 _ _ _ )
    · refine F_iload_n (i := 2) (a := 2) rfl rfl (dk_X6_looked 104 _ rfl) ?_
      exact F_ret rfl (dk_X6_looked 105 _ rfl)
theorem j_X6_looked_49   : ∀ (F : Nat) (m : mM) (y1 : Int32) (y2 : Int32) , JF true uI m_X6_looked 7 49 [(0, .ref 0), (1, .int y1), (2, .int y2)] [] m (f_X6_looked_49  F m y1 y2) := by
  intro F
  induction F with
  | zero => intro m y1 y2 ; exact F_no
  | succ F ih => intro m y1 y2 ; exact jb_X6_looked_49  (f_X6_looked_49  F)  ih m y1 y2 
def f_X6_looked (m : mM) (p1 : Int32) : fR Int32 :=
  (if p1 < 0 then some ((-2), m) else (if p1 ≤ 99 then (if (mI m 896) = 0 then some ((-3), m) else chR true 5 (mR m 900) fun r1 => bnd (f_X1_start m 14 ((mI m (64 * r1 + 0)))) fun (x2 : Unit) (m3 : mM) => (f_X6_looked_49  1000 m3 p1 0)) else some ((-2), m)))
theorem c_X6_looked (m : mM) (p1 : Int32)  : cF true uI m_X6_looked 7 [.ref 0, .int p1] m (f_X6_looked m p1) := by
  refine cF_of ok_X6_looked (fun _ _ => Nat.le_of_ble_eq_true rfl) ?_
  unfold f_X6_looked
  show JF _ _ _ _ _ [(0, .ref 0), (1, .int p1)] _ _ _
  refine F_iload_n (i := 1) (a := 1) rfl rfl (dk_X6_looked 0 _ rfl) ?_
  refine F_if_lt (tgt := 10) (by decide) (dk_X6_looked 1 _ rfl) ?_ ?_
  · refine F_bipush (v := (-2)) (by decide) (dk_X6_looked 10 _ rfl) ?_
    exact F_ret rfl (dk_X6_looked 12 _ rfl)
  · refine F_iload_n (i := 1) (a := 1) rfl rfl (dk_X6_looked 4 _ rfl) ?_
    refine F_bipush (v := 99) (by decide) (dk_X6_looked 5 _ rfl) ?_
    refine F_icmp_le (tgt := 13) (by decide) (dk_X6_looked 7 _ rfl) ?_ ?_
    · refine F_aload_n (i := 0) (a := 0) rfl rfl (dk_X6_looked 13 _ rfl) ?_
      refine F_gR (b := 14) fxX_6_0_0 fl_6_47 (dk_X6_looked 14 _ rfl) ?_
      refine F_gI (n := 896) fxX_2_0_14 rfl fl_6_71 (dk_X6_looked 17 _ rfl) ?_
      refine F_if_ne (tgt := 26) (by decide) (dk_X6_looked 20 _ rfl) ?_ ?_
      · refine F_aload_n (i := 0) (a := 0) rfl rfl (dk_X6_looked 26 _ rfl) ?_
        refine F_gR (b := 41) fxX_6_4_0 fl_6_62 (dk_X6_looked 27 _ rfl) ?_
        refine F_aload_n (i := 0) (a := 0) rfl rfl (dk_X6_looked 30 _ rfl) ?_
        refine F_gR (b := 14) fxX_6_0_0 fl_6_47 (dk_X6_looked 31 _ rfl) ?_
        refine F_aload_n (i := 0) (a := 0) rfl rfl (dk_X6_looked 34 _ rfl) ?_
        refine F_gR (b := 14) fxX_6_0_0 fl_6_47 (dk_X6_looked 35 _ rfl) ?_
        refine F_gV (n := 900) fxX_2_4_14 rfl fl_6_83 (dk_X6_looked 38 _ rfl) ?_
        refine F_ch (fun r1 hr1 => ?_)
        refine F_gI (n := (64 * r1 + 0)) (lyT_0 hr1) rfl fl_6_87 (dk_X6_looked 41 _ rfl) ?_
        refine F_callV (ι' := uU) (ci := 1) (b := 41) (As := [.ref 14, .int (mI m (64 * r1 + 0))]) (d' := 5) (rfl) ok_X1_start vi_X1_start cl_6_90 (n := 2) (by decide +kernel) rfl rfl rfl (Nat.le_of_ble_eq_true rfl) (by omega) (dk_X6_looked 44 _ rfl) (c_X1_start _ _ _ (rfl)) (fun x2 m3 => ?_)
        show JF _ _ _ _ _ _ [] _ _
        refine F_iconst (v := 0) (by decide) (dk_X6_looked 47 _ rfl) ?_
        refine F_istore_n (lv' := [(2, .int 0), (0, .ref 0), (1, .int p1)]) (i := 2) (a := 2) rfl (by decide) rfl (dk_X6_looked 48 _ rfl) ?_
        exact F_loc (List.forall_mem_cons.mpr ⟨(.tail _ (.head _)), (List.forall_mem_cons.mpr ⟨(.tail _ (.tail _ (.head _))), (List.forall_mem_cons.mpr ⟨(.head _), (fun _ z => absurd z List.not_mem_nil)⟩)⟩)⟩) (j_X6_looked_49   1000 _ _ _ )
      · refine F_bipush (v := (-3)) (by decide) (dk_X6_looked 23 _ rfl) ?_
        exact F_ret rfl (dk_X6_looked 25 _ rfl)
    · refine F_bipush (v := (-2)) (by decide) (dk_X6_looked 10 _ rfl) ?_
      exact F_ret rfl (dk_X6_looked 12 _ rfl)
def f_X6_isTape (m : mM) (p0 : Int32) : fR Int32 :=
  (if p0 < 0 then some (0, m) else (if 6 ≤ p0 then some (0, m) else some (1, m)))
theorem c_X6_isTape (m : mM) (p0 : Int32)  : cF true uI m_X6_isTape 2 [.int p0] m (f_X6_isTape m p0) := by
  refine cF_of ok_X6_isTape (fun _ _ => Nat.le_of_ble_eq_true rfl) ?_
  unfold f_X6_isTape
  show JF _ _ _ _ _ [(0, .int p0)] _ _ _
  refine F_iload_n (i := 0) (a := 0) rfl rfl (dk_X6_isTape 0 _ rfl) ?_
  refine F_if_lt (tgt := 14) (by decide) (dk_X6_isTape 1 _ rfl) ?_ ?_
  · refine F_iconst (v := 0) (by decide) (dk_X6_isTape 14 _ rfl) ?_
    exact F_retB rfl (Or.inl rfl) (dk_X6_isTape 15 _ rfl)
  · refine F_iload_n (i := 0) (a := 0) rfl rfl (dk_X6_isTape 4 _ rfl) ?_
    refine F_bipush (v := 6) (by decide) (dk_X6_isTape 5 _ rfl) ?_
    refine F_icmp_ge (tgt := 14) (by decide) (dk_X6_isTape 7 _ rfl) ?_ ?_
    · refine F_iconst (v := 0) (by decide) (dk_X6_isTape 14 _ rfl) ?_
      exact F_retB rfl (Or.inl rfl) (dk_X6_isTape 15 _ rfl)
    · refine F_iconst (v := 1) (by decide) (dk_X6_isTape 10 _ rfl) ?_
      refine F_goto (tgt := 15) (by decide) (dk_X6_isTape 11 _ rfl) ?_
      exact F_retB rfl (Or.inr rfl) (dk_X6_isTape 15 _ rfl)
def fb_X6_judge_38 (K38 : mM → Int32 → Nat → Int32 → fR Int32) (m : mM) (y2 : Int32) (y3 : Nat) (y4 : Int32) : fR Int32 :=
  (if (mI m 896) ≤ y4 then some ((-5), m) else (if y2 < 0 then some ((100 + y4), m) else (if y2 < ((mI m (64 * y3 + 1)) - y4) then (gL (mL m (y3 + 1)) (y2 + y4)).bind fun x6 => (gA (mA m 19) y4).bind fun x7 => (if (lg_cmp x6 (x7 : Int32).toInt64) = 0 then (K38 m y2 y3 (y4 + 1)) else some (y4, m)) else some ((100 + y4), m))))
def f_X6_judge_38  : Nat → mM → Int32 → Nat → Int32 → fR Int32
  | 0, _, _, _, _ => none
  | F + 1, m, y2, y3, y4 => fb_X6_judge_38  (f_X6_judge_38  F) m y2 y3 y4
theorem jb_X6_judge_38 (K38 : mM → Int32 → Nat → Int32 → fR Int32) (hK38 : ∀ (m : mM) (y2 : Int32) (y3 : Nat) (y4 : Int32) (hy3 : isC true 3 y3 = true), JF true uI m_X6_judge 3 38 [(0, .ref 0), (2, .int y2), (3, .ref y3), (4, .int y4)] [] m (K38 m y2 y3 y4)) (m : mM) (y2 : Int32) (y3 : Nat) (y4 : Int32) (hy3 : isC true 3 y3 = true) : JF true uI m_X6_judge 3 38 [(0, .ref 0), (2, .int y2), (3, .ref y3), (4, .int y4)] [] m (fb_X6_judge_38 K38 m y2 y3 y4) := by
  unfold fb_X6_judge_38
  refine F_iload (i := 4) rfl (dk_X6_judge 38 _ rfl) ?_
  refine F_aload_n (i := 0) (a := 0) rfl rfl (dk_X6_judge 40 _ rfl) ?_
  refine F_gR (b := 14) fxX_6_0_0 fl_6_47 (dk_X6_judge 41 _ rfl) ?_
  refine F_gI (n := 896) fxX_2_0_14 rfl fl_6_71 (dk_X6_judge 44 _ rfl) ?_
  refine F_icmp_ge (tgt := 104) (by decide) (dk_X6_judge 47 _ rfl) ?_ ?_
  · refine F_bipush (v := (-5)) (by decide) (dk_X6_judge 104 _ rfl) ?_
    exact F_ret rfl (dk_X6_judge 106 _ rfl)
  · refine F_iload_n (i := 2) (a := 2) rfl rfl (dk_X6_judge 50 _ rfl) ?_
    refine F_if_lt (tgt := 65) (by decide) (dk_X6_judge 51 _ rfl) ?_ ?_
    · refine F_bipush (v := 100) (by decide) (dk_X6_judge 65 _ rfl) ?_
      refine F_iload (i := 4) rfl (dk_X6_judge 67 _ rfl) ?_
      refine F_iadd (dk_X6_judge 69 _ rfl) ?_
      exact F_ret rfl (dk_X6_judge 70 _ rfl)
    · refine F_iload_n (i := 2) (a := 2) rfl rfl (dk_X6_judge 54 _ rfl) ?_
      refine F_aload_n (i := 3) (a := 3) rfl rfl (dk_X6_judge 55 _ rfl) ?_
      refine F_gI (n := (64 * y3 + 1)) (lyP_1 hy3) rfl fl_6_226 (dk_X6_judge 56 _ rfl) ?_
      refine F_iload (i := 4) rfl (dk_X6_judge 59 _ rfl) ?_
      refine F_isub (dk_X6_judge 61 _ rfl) ?_
      refine F_icmp_lt (tgt := 71) (by decide) (dk_X6_judge 62 _ rfl) ?_ ?_
      · refine F_aload_n (i := 3) (a := 3) rfl rfl (dk_X6_judge 71 _ rfl) ?_
        refine F_gR (b := (y3 + 1)) (lyP_2 hy3).1 fl_6_227 (dk_X6_judge 72 _ rfl) ?_
        refine F_iload_n (i := 2) (a := 2) rfl rfl (dk_X6_judge 75 _ rfl) ?_
        refine F_iload (i := 4) rfl (dk_X6_judge 76 _ rfl) ?_
        refine F_iadd (dk_X6_judge 78 _ rfl) ?_
        refine F_lald ((lyP_2 hy3).2) (dk_X6_judge 79 _ rfl) (fun x6 => ?_)
        refine F_aload_n (i := 0) (a := 0) rfl rfl (dk_X6_judge 80 _ rfl) ?_
        refine F_gR (b := 14) fxX_6_0_0 fl_6_47 (dk_X6_judge 81 _ rfl) ?_
        refine F_gR (b := 19) fxX_2_9_14 fl_6_121 (dk_X6_judge 84 _ rfl) ?_
        refine F_iload (i := 4) rfl (dk_X6_judge 87 _ rfl) ?_
        refine F_iald (axX_0_19) (dk_X6_judge 89 _ rfl) (fun x7 => ?_)
        refine F_i2l (dk_X6_judge 90 _ rfl) ?_
        refine F_lcmp (dk_X6_judge 91 _ rfl) ?_
        refine F_if_eq (tgt := 98) (by decide) (dk_X6_judge 92 _ rfl) ?_ ?_
        · refine F_iinc (i := 4) (n := 1) (v := (y4 + 1)) (lv' := [(4, .int (y4 + 1)), (0, .ref 0), (2, .int y2), (3, .ref y3)]) rfl (by first | rfl | decide) (by decide) rfl (dk_X6_judge 98 _ rfl) ?_
          refine F_goto (tgt := 38) (by decide) (dk_X6_judge 101 _ rfl) ?_
          exact F_loc (List.forall_mem_cons.mpr ⟨(.tail _ (.head _)), (List.forall_mem_cons.mpr ⟨(.tail _ (.tail _ (.head _))), (List.forall_mem_cons.mpr ⟨(.tail _ (.tail _ (.tail _ (.head _)))), (List.forall_mem_cons.mpr ⟨(.head _), (fun _ z => absurd z List.not_mem_nil)⟩)⟩)⟩)⟩) (hK38 _ _ _ _ (hy3))
        · refine F_iload (i := 4) rfl (dk_X6_judge 95 _ rfl) ?_
          exact F_ret rfl (dk_X6_judge 97 _ rfl)
      · refine F_bipush (v := 100) (by decide) (dk_X6_judge 65 _ rfl) ?_
        refine F_iload (i := 4) rfl (dk_X6_judge 67 _ rfl) ?_
        refine F_iadd (dk_X6_judge 69 _ rfl) ?_
        exact F_ret rfl (dk_X6_judge 70 _ rfl)
theorem j_X6_judge_38   : ∀ (F : Nat) (m : mM) (y2 : Int32) (y3 : Nat) (y4 : Int32) (hy3 : isC true 3 y3 = true), JF true uI m_X6_judge 3 38 [(0, .ref 0), (2, .int y2), (3, .ref y3), (4, .int y4)] [] m (f_X6_judge_38  F m y2 y3 y4) := by
  intro F
  induction F with
  | zero => intro m y2 y3 y4 hy3; exact F_no
  | succ F ih => intro m y2 y3 y4 hy3; exact jb_X6_judge_38  (f_X6_judge_38  F)  ih m y2 y3 y4 hy3
def f_X6_judge (m : mM) (p1 : Int32) (p2 : Int32) : fR Int32 :=
  bnd (f_X6_isTape m p1) fun (x1 : Int32) (m2 : mM) => (if x1 = 0 then some ((-1), m2) else (gT [82, 84, 86, 88, 90, 92] p1).bind fun r4 => chR true 3 r4 fun r5 => (if (mI m2 (64 * r5 + 0)) = (-1) then (f_X6_judge_38  1000 m2 p2 r5 0) else (if (mI m2 (64 * r5 + 0)) = 3 then (f_X6_judge_38  1000 m2 p2 r5 0) else some ((-12), m2))))
theorem c_X6_judge (m : mM) (p1 : Int32) (p2 : Int32)  : cF true uI m_X6_judge 3 [.ref 0, .int p1, .int p2] m (f_X6_judge m p1 p2) := by
  refine cF_of ok_X6_judge (fun _ _ => Nat.le_of_ble_eq_true rfl) ?_
  unfold f_X6_judge
  show JF _ _ _ _ _ [(0, .ref 0), (1, .int p1), (2, .int p2)] _ _ _
  refine F_iload_n (i := 1) (a := 1) rfl rfl (dk_X6_judge 0 _ rfl) ?_
  refine F_callS (ι' := uI) (As := [.int p1]) (d' := 2) ok_X6_isTape st_X6_isTape cl_6_220 rfl (n := 1) (by decide +kernel) rfl (Nat.le_of_ble_eq_true rfl) (by omega) (dk_X6_judge 1 _ rfl) (c_X6_isTape _ _ ) (fun x1 m2 => ?_)
  show JF _ _ _ _ _ _ [.int x1] _ _
  refine F_if_ne (tgt := 9) (by decide) (dk_X6_judge 4 _ rfl) ?_ ?_
  · refine F_aload_n (i := 0) (a := 0) rfl rfl (dk_X6_judge 9 _ rfl) ?_
    refine F_gR (b := 7) fxX_6_10_0 fl_6_37 (dk_X6_judge 10 _ rfl) ?_
    refine F_iload_n (i := 1) (a := 1) rfl rfl (dk_X6_judge 13 _ rfl) ?_
    refine F_aald (rs := [82, 84, 86, 88, 90, 92]) (t := 5) rfl (by decide) (dk_X6_judge 14 _ rfl) (fun r4 => ?_)
    refine F_ch (fun r5 hr5 => ?_)
    refine F_astore_n (lv' := [(3, .ref r5), (0, .ref 0), (1, .int p1), (2, .int p2)]) (i := 3) (a := 3) rfl (by decide) rfl (dk_X6_judge 15 _ rfl) ?_
    refine F_aload_n (i := 3) (a := 3) rfl rfl (dk_X6_judge 16 _ rfl) ?_
    refine F_gI (n := (64 * r5 + 0)) (lyP_0 hr5) rfl fl_6_223 (dk_X6_judge 17 _ rfl) ?_
    refine F_iconst (v := (-1)) (by decide) (dk_X6_judge 20 _ rfl) ?_
    refine F_icmp_eq (tgt := 35) (by decide) (dk_X6_judge 21 _ rfl) ?_ ?_
    · refine F_iconst (v := 0) (by decide) (dk_X6_judge 35 _ rfl) ?_
      refine F_istore (lv' := [(4, .int 0), (3, .ref r5), (0, .ref 0), (1, .int p1), (2, .int p2)]) (i := 4) (by decide) rfl (dk_X6_judge 36 _ rfl) ?_
      exact F_loc (List.forall_mem_cons.mpr ⟨(.tail _ (.tail _ (.head _))), (List.forall_mem_cons.mpr ⟨(.tail _ (.tail _ (.tail _ (.tail _ (.head _))))), (List.forall_mem_cons.mpr ⟨(.tail _ (.head _)), (List.forall_mem_cons.mpr ⟨(.head _), (fun _ z => absurd z List.not_mem_nil)⟩)⟩)⟩)⟩) (j_X6_judge_38   1000 _ _ _ _ (hr5))
    · refine F_aload_n (i := 3) (a := 3) rfl rfl (dk_X6_judge 24 _ rfl) ?_
      refine F_gI (n := (64 * r5 + 0)) (lyP_0 hr5) rfl fl_6_223 (dk_X6_judge 25 _ rfl) ?_
      refine F_iconst (v := 3) (by decide) (dk_X6_judge 28 _ rfl) ?_
      refine F_icmp_eq (tgt := 35) (by decide) (dk_X6_judge 29 _ rfl) ?_ ?_
      · refine F_iconst (v := 0) (by decide) (dk_X6_judge 35 _ rfl) ?_
        refine F_istore (lv' := [(4, .int 0), (3, .ref r5), (0, .ref 0), (1, .int p1), (2, .int p2)]) (i := 4) (by decide) rfl (dk_X6_judge 36 _ rfl) ?_
        exact F_loc (List.forall_mem_cons.mpr ⟨(.tail _ (.tail _ (.head _))), (List.forall_mem_cons.mpr ⟨(.tail _ (.tail _ (.tail _ (.tail _ (.head _))))), (List.forall_mem_cons.mpr ⟨(.tail _ (.head _)), (List.forall_mem_cons.mpr ⟨(.head _), (fun _ z => absurd z List.not_mem_nil)⟩)⟩)⟩)⟩) (j_X6_judge_38   1000 _ _ _ _ (hr5))
      · refine F_bipush (v := (-12)) (by decide) (dk_X6_judge 32 _ rfl) ?_
        exact F_ret rfl (dk_X6_judge 34 _ rfl)
  · refine F_iconst (v := (-1)) (by decide) (dk_X6_judge 7 _ rfl) ?_
    exact F_ret rfl (dk_X6_judge 8 _ rfl)
end
end
-- 21h.fun.lean.txt
section
section
set_option maxRecDepth 100000
def f_X6_image (m : mM)  : fR Int32 :=
  bnd (f_X2_copy m 23 14) fun (x1 : Unit) (m2 : mM) => nmM (wI m2 3 1) fun m4 => some ((mI m4 1472), m4)
theorem c_X6_image (m : mM)   : cF true uI m_X6_image 3 [.ref 0] m (f_X6_image m ) := by
  refine cF_of ok_X6_image (fun _ _ => Nat.le_of_ble_eq_true rfl) ?_
  unfold f_X6_image
  show JF _ _ _ _ _ [(0, .ref 0)] _ _ _
  refine F_aload_n (i := 0) (a := 0) rfl rfl (dk_X6_image 0 _ rfl) ?_
  refine F_gR (b := 23) fxX_6_1_0 fl_6_51 (dk_X6_image 1 _ rfl) ?_
  refine F_aload_n (i := 0) (a := 0) rfl rfl (dk_X6_image 4 _ rfl) ?_
  refine F_gR (b := 14) fxX_6_0_0 fl_6_47 (dk_X6_image 5 _ rfl) ?_
  refine F_callV (ι' := uU) (ci := 2) (b := 23) (As := [.ref 14]) (d' := 2) (rfl) ok_X2_copy vi_X2_copy cl_6_185 (n := 1) (by decide +kernel) rfl rfl rfl (Nat.le_of_ble_eq_true rfl) (by omega) (dk_X6_image 8 _ rfl) (c_X2_copy _ _ _ (rfl) (rfl)) (fun x1 m2 => ?_)
  show JF _ _ _ _ _ _ [] _ _
  refine F_aload_n (i := 0) (a := 0) rfl rfl (dk_X6_image 11 _ rfl) ?_
  refine F_iconst (v := 1) (by decide) (dk_X6_image 12 _ rfl) ?_
  refine F_pI (n := 3) fxX_6_3_0 rfl fl_6_231 (fun q hq => by cases hq; rfl) (Or.inr rfl) (dk_X6_image 13 _ rfl) (fun m4 => ?_)
  refine F_aload_n (i := 0) (a := 0) rfl rfl (dk_X6_image 16 _ rfl) ?_
  refine F_gR (b := 23) fxX_6_1_0 fl_6_51 (dk_X6_image 17 _ rfl) ?_
  refine F_gI (n := 1472) fxX_2_0_23 rfl fl_6_71 (dk_X6_image 20 _ rfl) ?_
  exact F_ret rfl (dk_X6_image 23 _ rfl)
def f_X6_undo (m : mM)  : fR Int32 :=
  (if (mI m 3) = 0 then some ((-3), m) else bnd (f_X2_copy m 14 23) fun (x1 : Unit) (m2 : mM) => some ((mI m2 896), m2))
theorem c_X6_undo (m : mM)   : cF true uI m_X6_undo 3 [.ref 0] m (f_X6_undo m ) := by
  refine cF_of ok_X6_undo (fun _ _ => Nat.le_of_ble_eq_true rfl) ?_
  unfold f_X6_undo
  show JF _ _ _ _ _ [(0, .ref 0)] _ _ _
  refine F_aload_n (i := 0) (a := 0) rfl rfl (dk_X6_undo 0 _ rfl) ?_
  refine F_gI (n := 3) fxX_6_3_0 rfl fl_6_231 (dk_X6_undo 1 _ rfl) ?_
  refine F_if_ne (tgt := 10) (by decide) (dk_X6_undo 4 _ rfl) ?_ ?_
  · refine F_aload_n (i := 0) (a := 0) rfl rfl (dk_X6_undo 10 _ rfl) ?_
    refine F_gR (b := 14) fxX_6_0_0 fl_6_47 (dk_X6_undo 11 _ rfl) ?_
    refine F_aload_n (i := 0) (a := 0) rfl rfl (dk_X6_undo 14 _ rfl) ?_
    refine F_gR (b := 23) fxX_6_1_0 fl_6_51 (dk_X6_undo 15 _ rfl) ?_
    refine F_callV (ι' := uU) (ci := 2) (b := 14) (As := [.ref 23]) (d' := 2) (rfl) ok_X2_copy vi_X2_copy cl_6_185 (n := 1) (by decide +kernel) rfl rfl rfl (Nat.le_of_ble_eq_true rfl) (by omega) (dk_X6_undo 18 _ rfl) (c_X2_copy _ _ _ (rfl) (rfl)) (fun x1 m2 => ?_)
    show JF _ _ _ _ _ _ [] _ _
    refine F_aload_n (i := 0) (a := 0) rfl rfl (dk_X6_undo 21 _ rfl) ?_
    refine F_gR (b := 14) fxX_6_0_0 fl_6_47 (dk_X6_undo 22 _ rfl) ?_
    refine F_gI (n := 896) fxX_2_0_14 rfl fl_6_71 (dk_X6_undo 25 _ rfl) ?_
    exact F_ret rfl (dk_X6_undo 28 _ rfl)
  · refine F_bipush (v := (-3)) (by decide) (dk_X6_undo 7 _ rfl) ?_
    exact F_ret rfl (dk_X6_undo 9 _ rfl)
def f_X6_act (m : mM) (p1 : Int32) (p2 : Int32) (p3 : Int32) : fR Int32 :=
  nmM (wI m 321 0) fun m1 => bnd (f_X6_isPerson m1 p1) fun (x2 : Int32) (m3 : mM) => (if x2 = 0 then some (0, m3) else (gA (mA m3 15) p1).bind fun x5 => (gA (mA m3 16) p1).bind fun x6 => bnd (f_X0_becomes m3 p1 x5 x6) fun (x7 : Unit) (m8 : mM) => bnd (f_X0_answer m8 p2 p3) fun (x10 : Int32) (m11 : mM) => some (x10, m11))
theorem c_X6_act (m : mM) (p1 : Int32) (p2 : Int32) (p3 : Int32)  : cF true uI m_X6_act 13 [.ref 0, .int p1, .int p2, .int p3] m (f_X6_act m p1 p2 p3) := by
  refine cF_of ok_X6_act (fun _ _ => Nat.le_of_ble_eq_true rfl) ?_
  unfold f_X6_act
  show JF _ _ _ _ _ [(0, .ref 0), (1, .int p1), (2, .int p2), (3, .int p3)] _ _ _
  refine F_aload_n (i := 0) (a := 0) rfl rfl (dk_X6_act 0 _ rfl) ?_
  refine F_gR (b := 5) fxX_6_9_0 fl_6_31 (dk_X6_act 1 _ rfl) ?_
  refine F_iconst (v := 0) (by decide) (dk_X6_act 4 _ rfl) ?_
  refine F_pI (n := 321) fxX_0_1_5 rfl fl_6_235 (fun q hq => by cases hq; rfl) trivial (dk_X6_act 5 _ rfl) (fun m1 => ?_)
  refine F_aload_n (i := 0) (a := 0) rfl rfl (dk_X6_act 8 _ rfl) ?_
  refine F_iload_n (i := 1) (a := 1) rfl rfl (dk_X6_act 9 _ rfl) ?_
  refine F_callV (ι' := uI) (ci := 6) (b := 0) (As := [.int p1]) (d' := 2) (rfl) ok_X6_isPerson vi_X6_isPerson cl_6_79 (n := 1) (by decide +kernel) rfl rfl rfl (Nat.le_of_ble_eq_true rfl) (by omega) (dk_X6_act 10 _ rfl) (c_X6_isPerson _ _ ) (fun x2 m3 => ?_)
  show JF _ _ _ _ _ _ [.int x2] _ _
  refine F_if_ne (tgt := 18) (by decide) (dk_X6_act 13 _ rfl) ?_ ?_
  · refine F_aload_n (i := 0) (a := 0) rfl rfl (dk_X6_act 18 _ rfl) ?_
    refine F_gR (b := 5) fxX_6_9_0 fl_6_31 (dk_X6_act 19 _ rfl) ?_
    refine F_iload_n (i := 1) (a := 1) rfl rfl (dk_X6_act 22 _ rfl) ?_
    refine F_aload_n (i := 0) (a := 0) rfl rfl (dk_X6_act 23 _ rfl) ?_
    refine F_gR (b := 14) fxX_6_0_0 fl_6_47 (dk_X6_act 24 _ rfl) ?_
    refine F_gR (b := 15) fxX_2_5_14 fl_6_97 (dk_X6_act 27 _ rfl) ?_
    refine F_iload_n (i := 1) (a := 1) rfl rfl (dk_X6_act 30 _ rfl) ?_
    refine F_iald (axX_0_15) (dk_X6_act 31 _ rfl) (fun x5 => ?_)
    refine F_aload_n (i := 0) (a := 0) rfl rfl (dk_X6_act 32 _ rfl) ?_
    refine F_gR (b := 14) fxX_6_0_0 fl_6_47 (dk_X6_act 33 _ rfl) ?_
    refine F_gR (b := 16) fxX_2_6_14 fl_6_100 (dk_X6_act 36 _ rfl) ?_
    refine F_iload_n (i := 1) (a := 1) rfl rfl (dk_X6_act 39 _ rfl) ?_
    refine F_iald (axX_0_16) (dk_X6_act 40 _ rfl) (fun x6 => ?_)
    refine F_callV (ι' := uU) (ci := 0) (b := 5) (As := [.int p1, .int x5, .int x6]) (d' := 2) (rfl) ok_X0_becomes vi_X0_becomes cl_6_238 (n := 3) (by decide +kernel) rfl rfl rfl (Nat.le_of_ble_eq_true rfl) (by omega) (dk_X6_act 41 _ rfl) (c_X0_becomes _ _ _ _ ) (fun x7 m8 => ?_)
    show JF _ _ _ _ _ _ [] _ _
    refine F_aload_n (i := 0) (a := 0) rfl rfl (dk_X6_act 44 _ rfl) ?_
    refine F_gR (b := 5) fxX_6_9_0 fl_6_31 (dk_X6_act 45 _ rfl) ?_
    refine F_iload_n (i := 2) (a := 2) rfl rfl (dk_X6_act 48 _ rfl) ?_
    refine F_iload_n (i := 3) (a := 3) rfl rfl (dk_X6_act 49 _ rfl) ?_
    refine F_callV (ι' := uI) (ci := 0) (b := 5) (As := [.int p2, .int p3]) (d' := 12) (rfl) ok_X0_answer vi_X0_answer cl_6_242 (n := 2) (by decide +kernel) rfl rfl rfl (Nat.le_of_ble_eq_true rfl) (by omega) (dk_X6_act 50 _ rfl) (c_X0_answer _ _ _ ) (fun x10 m11 => ?_)
    show JF _ _ _ _ _ _ [.int x10] _ _
    exact F_ret rfl (dk_X6_act 53 _ rfl)
  · refine F_iconst (v := 0) (by decide) (dk_X6_act 16 _ rfl) ?_
    exact F_ret rfl (dk_X6_act 17 _ rfl)
def f_X6_trace (m : mM) (p1 : Int32) : fR Int32 :=
  (if p1 < 0 then some ((-1), m) else (if (mI m 321) ≤ p1 then some ((-1), m) else (if p1 < 20 then (gA (mA m 6) p1).bind fun x1 => some (x1, m) else some ((-1), m))))
theorem c_X6_trace (m : mM) (p1 : Int32)  : cF true uI m_X6_trace 2 [.ref 0, .int p1] m (f_X6_trace m p1) := by
  refine cF_of ok_X6_trace (fun _ _ => Nat.le_of_ble_eq_true rfl) ?_
  unfold f_X6_trace
  show JF _ _ _ _ _ [(0, .ref 0), (1, .int p1)] _ _ _
  refine F_iload_n (i := 1) (a := 1) rfl rfl (dk_X6_trace 0 _ rfl) ?_
  refine F_if_lt (tgt := 21) (by decide) (dk_X6_trace 1 _ rfl) ?_ ?_
  · refine F_iconst (v := (-1)) (by decide) (dk_X6_trace 21 _ rfl) ?_
    refine F_goto (tgt := 34) (by decide) (dk_X6_trace 22 _ rfl) ?_
    exact F_ret rfl (dk_X6_trace 34 _ rfl)
  · refine F_iload_n (i := 1) (a := 1) rfl rfl (dk_X6_trace 4 _ rfl) ?_
    refine F_aload_n (i := 0) (a := 0) rfl rfl (dk_X6_trace 5 _ rfl) ?_
    refine F_gR (b := 5) fxX_6_9_0 fl_6_31 (dk_X6_trace 6 _ rfl) ?_
    refine F_gI (n := 321) fxX_0_1_5 rfl fl_6_235 (dk_X6_trace 9 _ rfl) ?_
    refine F_icmp_ge (tgt := 21) (by decide) (dk_X6_trace 12 _ rfl) ?_ ?_
    · refine F_iconst (v := (-1)) (by decide) (dk_X6_trace 21 _ rfl) ?_
      refine F_goto (tgt := 34) (by decide) (dk_X6_trace 22 _ rfl) ?_
      exact F_ret rfl (dk_X6_trace 34 _ rfl)
    · refine F_iload_n (i := 1) (a := 1) rfl rfl (dk_X6_trace 15 _ rfl) ?_
      refine F_bipush (v := 20) (by decide) (dk_X6_trace 16 _ rfl) ?_
      refine F_icmp_lt (tgt := 25) (by decide) (dk_X6_trace 18 _ rfl) ?_ ?_
      · refine F_aload_n (i := 0) (a := 0) rfl rfl (dk_X6_trace 25 _ rfl) ?_
        refine F_gR (b := 5) fxX_6_9_0 fl_6_31 (dk_X6_trace 26 _ rfl) ?_
        refine F_gR (b := 6) fxX_0_0_5 fl_6_245 (dk_X6_trace 29 _ rfl) ?_
        refine F_iload_n (i := 1) (a := 1) rfl rfl (dk_X6_trace 32 _ rfl) ?_
        refine F_iald (axX_0_6) (dk_X6_trace 33 _ rfl) (fun x1 => ?_)
        exact F_ret rfl (dk_X6_trace 34 _ rfl)
      · refine F_iconst (v := (-1)) (by decide) (dk_X6_trace 21 _ rfl) ?_
        refine F_goto (tgt := 34) (by decide) (dk_X6_trace 22 _ rfl) ?_
        exact F_ret rfl (dk_X6_trace 34 _ rfl)
def f_X6_taken_57  (m : mM) (y3 : Int32) (y100 : Int32) : fR Int32 :=
  (if y100 = 0 then some ((-12), m) else some (y3, m))
theorem j_X6_taken_57   (m : mM) (y3 : Int32) (y100 : Int32)  : JF true uI m_X6_taken 3 57 [(3, .int y3)] [.int y100] m (f_X6_taken_57  m y3 y100) := by
  unfold f_X6_taken_57
  refine F_istore (lv' := [(4, .int y100), (3, .int y3)]) (i := 4) (by decide) rfl (dk_X6_taken 57 _ rfl) ?_
  refine F_iload (i := 4) rfl (dk_X6_taken 59 _ rfl) ?_
  refine F_if_eq (tgt := 68) (by decide) (dk_X6_taken 61 _ rfl) ?_ ?_
  · refine F_bipush (v := (-12)) (by decide) (dk_X6_taken 68 _ rfl) ?_
    exact F_ret rfl (dk_X6_taken 70 _ rfl)
  · refine F_iload_n (i := 3) (a := 3) rfl rfl (dk_X6_taken 64 _ rfl) ?_
    refine F_goto (tgt := 70) (by decide) (dk_X6_taken 65 _ rfl) ?_
    exact F_ret rfl (dk_X6_taken 70 _ rfl)
def f_X6_taken (m : mM) (p1 : Int32) (p2 : Int32) : fR Int32 :=
  (if p2 < 0 then some ((-2), m) else (if p2 < 7 then bnd (f_X6_isPerson m p1) fun (x1 : Int32) (m2 : mM) => (if x1 = 0 then some ((-11), m2) else (gA (mA m2 15) p1).bind fun x4 => (if x4 = p2 then (f_X6_taken_57  m2 x4 1) else (gA oxA x4).bind fun x5 => (if x5 = p2 then (f_X6_taken_57  m2 x4 1) else (if p2 = 0 then (f_X6_taken_57  m2 x4 1) else (f_X6_taken_57  m2 x4 0))))) else some ((-2), m)))
theorem c_X6_taken (m : mM) (p1 : Int32) (p2 : Int32)  : cF true uI m_X6_taken 3 [.ref 0, .int p1, .int p2] m (f_X6_taken m p1 p2) := by
  refine cF_of ok_X6_taken (fun _ _ => Nat.le_of_ble_eq_true rfl) ?_
  unfold f_X6_taken
  show JF _ _ _ _ _ [(0, .ref 0), (1, .int p1), (2, .int p2)] _ _ _
  refine F_iload_n (i := 2) (a := 2) rfl rfl (dk_X6_taken 0 _ rfl) ?_
  refine F_if_lt (tgt := 10) (by decide) (dk_X6_taken 1 _ rfl) ?_ ?_
  · refine F_bipush (v := (-2)) (by decide) (dk_X6_taken 10 _ rfl) ?_
    exact F_ret rfl (dk_X6_taken 12 _ rfl)
  · refine F_iload_n (i := 2) (a := 2) rfl rfl (dk_X6_taken 4 _ rfl) ?_
    refine F_bipush (v := 7) (by decide) (dk_X6_taken 5 _ rfl) ?_
    refine F_icmp_lt (tgt := 13) (by decide) (dk_X6_taken 7 _ rfl) ?_ ?_
    · refine F_aload_n (i := 0) (a := 0) rfl rfl (dk_X6_taken 13 _ rfl) ?_
      refine F_iload_n (i := 1) (a := 1) rfl rfl (dk_X6_taken 14 _ rfl) ?_
      refine F_callV (ι' := uI) (ci := 6) (b := 0) (As := [.int p1]) (d' := 2) (rfl) ok_X6_isPerson vi_X6_isPerson cl_6_79 (n := 1) (by decide +kernel) rfl rfl rfl (Nat.le_of_ble_eq_true rfl) (by omega) (dk_X6_taken 15 _ rfl) (c_X6_isPerson _ _ ) (fun x1 m2 => ?_)
      show JF _ _ _ _ _ _ [.int x1] _ _
      refine F_if_ne (tgt := 24) (by decide) (dk_X6_taken 18 _ rfl) ?_ ?_
      · refine F_aload_n (i := 0) (a := 0) rfl rfl (dk_X6_taken 24 _ rfl) ?_
        refine F_gR (b := 14) fxX_6_0_0 fl_6_47 (dk_X6_taken 25 _ rfl) ?_
        refine F_gR (b := 15) fxX_2_5_14 fl_6_97 (dk_X6_taken 28 _ rfl) ?_
        refine F_iload_n (i := 1) (a := 1) rfl rfl (dk_X6_taken 31 _ rfl) ?_
        refine F_iald (axX_0_15) (dk_X6_taken 32 _ rfl) (fun x4 => ?_)
        refine F_istore_n (lv' := [(3, .int x4), (0, .ref 0), (1, .int p1), (2, .int p2)]) (i := 3) (a := 3) rfl (by decide) rfl (dk_X6_taken 33 _ rfl) ?_
        refine F_iload_n (i := 3) (a := 3) rfl rfl (dk_X6_taken 34 _ rfl) ?_
        refine F_iload_n (i := 2) (a := 2) rfl rfl (dk_X6_taken 35 _ rfl) ?_
        refine F_icmp_eq (tgt := 52) (by decide) (dk_X6_taken 36 _ rfl) ?_ ?_
        · refine F_iconst (v := 1) (by decide) (dk_X6_taken 52 _ rfl) ?_
          refine F_goto (tgt := 57) (by decide) (dk_X6_taken 53 _ rfl) ?_
          exact F_loc (List.forall_mem_cons.mpr ⟨(.head _), (fun _ z => absurd z List.not_mem_nil)⟩) (j_X6_taken_57   _ _ _ )
        · refine F_gets og_6_248 (dk_X6_taken 39 _ rfl) ?_
          refine F_iload_n (i := 3) (a := 3) rfl rfl (dk_X6_taken 42 _ rfl) ?_
          refine F_abld (dk_X6_taken 43 _ rfl) (fun x5 => ?_)
          refine F_iload_n (i := 2) (a := 2) rfl rfl (dk_X6_taken 44 _ rfl) ?_
          refine F_icmp_eq (tgt := 52) (by decide) (dk_X6_taken 45 _ rfl) ?_ ?_
          · refine F_iconst (v := 1) (by decide) (dk_X6_taken 52 _ rfl) ?_
            refine F_goto (tgt := 57) (by decide) (dk_X6_taken 53 _ rfl) ?_
            exact F_loc (List.forall_mem_cons.mpr ⟨(.head _), (fun _ z => absurd z List.not_mem_nil)⟩) (j_X6_taken_57   _ _ _ )
          · refine F_iload_n (i := 2) (a := 2) rfl rfl (dk_X6_taken 48 _ rfl) ?_
            refine F_if_ne (tgt := 56) (by decide) (dk_X6_taken 49 _ rfl) ?_ ?_
            · refine F_iconst (v := 0) (by decide) (dk_X6_taken 56 _ rfl) ?_
              exact F_loc (List.forall_mem_cons.mpr ⟨(.head _), (fun _ z => absurd z List.not_mem_nil)⟩) (j_X6_taken_57   _ _ _ )
            · refine F_iconst (v := 1) (by decide) (dk_X6_taken 52 _ rfl) ?_
              refine F_goto (tgt := 57) (by decide) (dk_X6_taken 53 _ rfl) ?_
              exact F_loc (List.forall_mem_cons.mpr ⟨(.head _), (fun _ z => absurd z List.not_mem_nil)⟩) (j_X6_taken_57   _ _ _ )
      · refine F_bipush (v := (-11)) (by decide) (dk_X6_taken 21 _ rfl) ?_
        exact F_ret rfl (dk_X6_taken 23 _ rfl)
    · refine F_bipush (v := (-2)) (by decide) (dk_X6_taken 10 _ rfl) ?_
      exact F_ret rfl (dk_X6_taken 12 _ rfl)
def f_X6_count (m : mM) (p1 : Int32) : fR Int32 :=
  (if p1 = 0 then some ((mI m 896), m) else if p1 = 1 then some ((mI m 8), m) else if p1 = 2 then some ((mI m 899), m) else if p1 = 3 then some ((mI m 129), m) else if p1 = 4 then some ((mI m 321), m) else some ((-2), m))
theorem c_X6_count (m : mM) (p1 : Int32)  : cF true uI m_X6_count 2 [.ref 0, .int p1] m (f_X6_count m p1) := by
  refine cF_of ok_X6_count (fun _ _ => Nat.le_of_ble_eq_true rfl) ?_
  unfold f_X6_count
  show JF _ _ _ _ _ [(0, .ref 0), (1, .int p1)] _ _ _
  refine F_iload_n (i := 1) (a := 1) rfl rfl (dk_X6_count 0 _ rfl) ?_
  refine F_case (fun c1_0 => ?_) (fun c1_0 => ?_)
  · rw [c1_0]; refine F_tin (off := 35) (tgt := 36) (by decide) (by decide) rfl (by decide) (dk_X6_count 1 _ rfl) ?_
    refine F_aload_n (i := 0) (a := 0) rfl rfl (dk_X6_count 36 _ rfl) ?_
    refine F_gR (b := 14) fxX_6_0_0 fl_6_47 (dk_X6_count 37 _ rfl) ?_
    refine F_gI (n := 896) fxX_2_0_14 rfl fl_6_71 (dk_X6_count 40 _ rfl) ?_
    exact F_ret rfl (dk_X6_count 43 _ rfl)
  refine F_case (fun c1_1 => ?_) (fun c1_1 => ?_)
  · rw [c1_1]; refine F_tin (off := 43) (tgt := 44) (by decide) (by decide) rfl (by decide) (dk_X6_count 1 _ rfl) ?_
    refine F_aload_n (i := 0) (a := 0) rfl rfl (dk_X6_count 44 _ rfl) ?_
    refine F_gI (n := 8) fxX_6_8_0 rfl fl_6_134 (dk_X6_count 45 _ rfl) ?_
    exact F_ret rfl (dk_X6_count 48 _ rfl)
  refine F_case (fun c1_2 => ?_) (fun c1_2 => ?_)
  · rw [c1_2]; refine F_tin (off := 48) (tgt := 49) (by decide) (by decide) rfl (by decide) (dk_X6_count 1 _ rfl) ?_
    refine F_aload_n (i := 0) (a := 0) rfl rfl (dk_X6_count 49 _ rfl) ?_
    refine F_gR (b := 14) fxX_6_0_0 fl_6_47 (dk_X6_count 50 _ rfl) ?_
    refine F_gI (n := 899) fxX_2_3_14 rfl fl_6_209 (dk_X6_count 53 _ rfl) ?_
    exact F_ret rfl (dk_X6_count 56 _ rfl)
  refine F_case (fun c1_3 => ?_) (fun c1_3 => ?_)
  · rw [c1_3]; refine F_tin (off := 56) (tgt := 57) (by decide) (by decide) rfl (by decide) (dk_X6_count 1 _ rfl) ?_
    refine F_aload_n (i := 0) (a := 0) rfl rfl (dk_X6_count 57 _ rfl) ?_
    refine F_gR (b := 2) fxX_6_6_0 fl_6_18 (dk_X6_count 58 _ rfl) ?_
    refine F_gI (n := 129) fxX_4_1_2 rfl fl_6_127 (dk_X6_count 61 _ rfl) ?_
    exact F_ret rfl (dk_X6_count 64 _ rfl)
  refine F_case (fun c1_4 => ?_) (fun c1_4 => ?_)
  · rw [c1_4]; refine F_tin (off := 64) (tgt := 65) (by decide) (by decide) rfl (by decide) (dk_X6_count 1 _ rfl) ?_
    refine F_aload_n (i := 0) (a := 0) rfl rfl (dk_X6_count 65 _ rfl) ?_
    refine F_gR (b := 5) fxX_6_9_0 fl_6_31 (dk_X6_count 66 _ rfl) ?_
    refine F_gI (n := 321) fxX_0_1_5 rfl fl_6_235 (dk_X6_count 69 _ rfl) ?_
    exact F_ret rfl (dk_X6_count 72 _ rfl)
  refine F_tout (tgt := 73) (by have q0 := fI_ne c1_0; rw [show (0 : Int32).toInt = 0 from by decide] at q0; have q1 := fI_ne c1_1; rw [show (1 : Int32).toInt = 1 from by decide] at q1; have q2 := fI_ne c1_2; rw [show (2 : Int32).toInt = 2 from by decide] at q2; have q3 := fI_ne c1_3; rw [show (3 : Int32).toInt = 3 from by decide] at q3; have q4 := fI_ne c1_4; rw [show (4 : Int32).toInt = 4 from by decide] at q4; omega) (by decide) (dk_X6_count 1 _ rfl) ?_
  refine F_bipush (v := (-2)) (by decide) (dk_X6_count 73 _ rfl) ?_
  exact F_ret rfl (dk_X6_count 75 _ rfl)
def f_X6_tape (m : mM) (p1 : Int32) (p2 : Int32) (p3 : Int32) : fR Int32 :=
  bnd (f_X6_isTape m p1) fun (x1 : Int32) (m2 : mM) => (if x1 = 0 then some ((-1), m2) else (if p2 = (-1) then (gT [82, 84, 86, 88, 90, 92] p1).bind fun r9 => chR true 3 r9 fun r10 => bnd (f_X3_become m2 r10 (-1) 0) fun (x11 : Unit) (m12 : mM) => some (1, m12) else (if p2 < 0 then some ((-2), m2) else (if 4 < p2 then some ((-2), m2) else (if p3 ≤ 60 then (if 0 ≤ p3 then (gT [82, 84, 86, 88, 90, 92] p1).bind fun r4 => chR true 3 r4 fun r5 => bnd (f_X3_become m2 r5 p2 p3) fun (x6 : Unit) (m7 : mM) => some (1, m7) else some ((-14), m2)) else some ((-2), m2))))))
theorem c_X6_tape (m : mM) (p1 : Int32) (p2 : Int32) (p3 : Int32)  : cF true uI m_X6_tape 3 [.ref 0, .int p1, .int p2, .int p3] m (f_X6_tape m p1 p2 p3) := by
  refine cF_of ok_X6_tape (fun _ _ => Nat.le_of_ble_eq_true rfl) ?_
  unfold f_X6_tape
  show JF _ _ _ _ _ [(0, .ref 0), (1, .int p1), (2, .int p2), (3, .int p3)] _ _ _
  refine F_iload_n (i := 1) (a := 1) rfl rfl (dk_X6_tape 0 _ rfl) ?_
  refine F_callS (ι' := uI) (As := [.int p1]) (d' := 2) ok_X6_isTape st_X6_isTape cl_6_220 rfl (n := 1) (by decide +kernel) rfl (Nat.le_of_ble_eq_true rfl) (by omega) (dk_X6_tape 1 _ rfl) (c_X6_isTape _ _ ) (fun x1 m2 => ?_)
  show JF _ _ _ _ _ _ [.int x1] _ _
  refine F_if_ne (tgt := 9) (by decide) (dk_X6_tape 4 _ rfl) ?_ ?_
  · refine F_iload_n (i := 2) (a := 2) rfl rfl (dk_X6_tape 9 _ rfl) ?_
    refine F_iconst (v := (-1)) (by decide) (dk_X6_tape 10 _ rfl) ?_
    refine F_icmp_ne (tgt := 27) (by decide) (dk_X6_tape 11 _ rfl) ?_ ?_
    · refine F_iload_n (i := 2) (a := 2) rfl rfl (dk_X6_tape 27 _ rfl) ?_
      refine F_if_lt (tgt := 42) (by decide) (dk_X6_tape 28 _ rfl) ?_ ?_
      · refine F_bipush (v := (-2)) (by decide) (dk_X6_tape 42 _ rfl) ?_
        exact F_ret rfl (dk_X6_tape 44 _ rfl)
      · refine F_iload_n (i := 2) (a := 2) rfl rfl (dk_X6_tape 31 _ rfl) ?_
        refine F_iconst (v := 4) (by decide) (dk_X6_tape 32 _ rfl) ?_
        refine F_icmp_gt (tgt := 42) (by decide) (dk_X6_tape 33 _ rfl) ?_ ?_
        · refine F_bipush (v := (-2)) (by decide) (dk_X6_tape 42 _ rfl) ?_
          exact F_ret rfl (dk_X6_tape 44 _ rfl)
        · refine F_iload_n (i := 3) (a := 3) rfl rfl (dk_X6_tape 36 _ rfl) ?_
          refine F_bipush (v := 60) (by decide) (dk_X6_tape 37 _ rfl) ?_
          refine F_icmp_le (tgt := 45) (by decide) (dk_X6_tape 39 _ rfl) ?_ ?_
          · refine F_iload_n (i := 3) (a := 3) rfl rfl (dk_X6_tape 45 _ rfl) ?_
            refine F_if_ge (tgt := 52) (by decide) (dk_X6_tape 46 _ rfl) ?_ ?_
            · refine F_aload_n (i := 0) (a := 0) rfl rfl (dk_X6_tape 52 _ rfl) ?_
              refine F_gR (b := 7) fxX_6_10_0 fl_6_37 (dk_X6_tape 53 _ rfl) ?_
              refine F_iload_n (i := 1) (a := 1) rfl rfl (dk_X6_tape 56 _ rfl) ?_
              refine F_aald (rs := [82, 84, 86, 88, 90, 92]) (t := 5) rfl (by decide) (dk_X6_tape 57 _ rfl) (fun r4 => ?_)
              refine F_ch (fun r5 hr5 => ?_)
              refine F_iload_n (i := 2) (a := 2) rfl rfl (dk_X6_tape 58 _ rfl) ?_
              refine F_iload_n (i := 3) (a := 3) rfl rfl (dk_X6_tape 59 _ rfl) ?_
              refine F_callV (ι' := uU) (ci := 3) (b := r5) (As := [.int p2, .int p3]) (d' := 2) (hr5) ok_X3_become vi_X3_become cl_6_251 (n := 2) (by decide +kernel) rfl rfl rfl (Nat.le_of_ble_eq_true rfl) (by omega) (dk_X6_tape 60 _ rfl) (c_X3_become _ _ _ _ (hr5)) (fun x6 m7 => ?_)
              show JF _ _ _ _ _ _ [] _ _
              refine F_iconst (v := 1) (by decide) (dk_X6_tape 63 _ rfl) ?_
              exact F_ret rfl (dk_X6_tape 64 _ rfl)
            · refine F_bipush (v := (-14)) (by decide) (dk_X6_tape 49 _ rfl) ?_
              exact F_ret rfl (dk_X6_tape 51 _ rfl)
          · refine F_bipush (v := (-2)) (by decide) (dk_X6_tape 42 _ rfl) ?_
            exact F_ret rfl (dk_X6_tape 44 _ rfl)
    · refine F_aload_n (i := 0) (a := 0) rfl rfl (dk_X6_tape 14 _ rfl) ?_
      refine F_gR (b := 7) fxX_6_10_0 fl_6_37 (dk_X6_tape 15 _ rfl) ?_
      refine F_iload_n (i := 1) (a := 1) rfl rfl (dk_X6_tape 18 _ rfl) ?_
      refine F_aald (rs := [82, 84, 86, 88, 90, 92]) (t := 5) rfl (by decide) (dk_X6_tape 19 _ rfl) (fun r9 => ?_)
      refine F_ch (fun r10 hr10 => ?_)
      refine F_iconst (v := (-1)) (by decide) (dk_X6_tape 20 _ rfl) ?_
      refine F_iconst (v := 0) (by decide) (dk_X6_tape 21 _ rfl) ?_
      refine F_callV (ι' := uU) (ci := 3) (b := r10) (As := [.int (-1), .int 0]) (d' := 2) (hr10) ok_X3_become vi_X3_become cl_6_251 (n := 2) (by decide +kernel) rfl rfl rfl (Nat.le_of_ble_eq_true rfl) (by omega) (dk_X6_tape 22 _ rfl) (c_X3_become _ _ _ _ (hr10)) (fun x11 m12 => ?_)
      show JF _ _ _ _ _ _ [] _ _
      refine F_iconst (v := 1) (by decide) (dk_X6_tape 25 _ rfl) ?_
      exact F_ret rfl (dk_X6_tape 26 _ rfl)
  · refine F_iconst (v := (-1)) (by decide) (dk_X6_tape 7 _ rfl) ?_
    exact F_ret rfl (dk_X6_tape 8 _ rfl)
def f_X6_item (m : mM) (p1 : Int32) (p2 : Int32) (p3 : Int64) : fR Int32 :=
  bnd (f_X6_isTape m p1) fun (x1 : Int32) (m2 : mM) => (if x1 = 0 then some ((-1), m2) else (gT [82, 84, 86, 88, 90, 92] p1).bind fun r4 => chR true 3 r4 fun r5 => (if (mI m2 (64 * r5 + 0)) = (-1) then some ((-11), m2) else (if p2 < 0 then some ((-13), m2) else (if p2 < (mI m2 (64 * r5 + 1)) then bnd (f_X3_fitted m2 r5 p3) fun (x6 : Int64) (m7 : mM) => (sL m7 (r5 + 1) p2 x6).bind fun m9 => some (1, m9) else some ((-13), m2)))))
theorem c_X6_item (m : mM) (p1 : Int32) (p2 : Int32) (p3 : Int64)  : cF true uI m_X6_item 3 [.ref 0, .int p1, .int p2, .long p3] m (f_X6_item m p1 p2 p3) := by
  refine cF_of ok_X6_item (fun _ _ => Nat.le_of_ble_eq_true rfl) ?_
  unfold f_X6_item
  show JF _ _ _ _ _ [(0, .ref 0), (1, .int p1), (2, .int p2), (3, .long p3)] _ _ _
  refine F_iload_n (i := 1) (a := 1) rfl rfl (dk_X6_item 0 _ rfl) ?_
  refine F_callS (ι' := uI) (As := [.int p1]) (d' := 2) ok_X6_isTape st_X6_isTape cl_6_220 rfl (n := 1) (by decide +kernel) rfl (Nat.le_of_ble_eq_true rfl) (by omega) (dk_X6_item 1 _ rfl) (c_X6_isTape _ _ ) (fun x1 m2 => ?_)
  show JF _ _ _ _ _ _ [.int x1] _ _
  refine F_if_ne (tgt := 9) (by decide) (dk_X6_item 4 _ rfl) ?_ ?_
  · refine F_aload_n (i := 0) (a := 0) rfl rfl (dk_X6_item 9 _ rfl) ?_
    refine F_gR (b := 7) fxX_6_10_0 fl_6_37 (dk_X6_item 10 _ rfl) ?_
    refine F_iload_n (i := 1) (a := 1) rfl rfl (dk_X6_item 13 _ rfl) ?_
    refine F_aald (rs := [82, 84, 86, 88, 90, 92]) (t := 5) rfl (by decide) (dk_X6_item 14 _ rfl) (fun r4 => ?_)
    refine F_ch (fun r5 hr5 => ?_)
    refine F_astore (lv' := [(5, .ref r5), (0, .ref 0), (1, .int p1), (2, .int p2), (3, .long p3)]) (i := 5) (by decide) rfl (dk_X6_item 15 _ rfl) ?_
    refine F_aload (i := 5) rfl (dk_X6_item 17 _ rfl) ?_
    refine F_gI (n := (64 * r5 + 0)) (lyP_0 hr5) rfl fl_6_223 (dk_X6_item 19 _ rfl) ?_
    refine F_iconst (v := (-1)) (by decide) (dk_X6_item 22 _ rfl) ?_
    refine F_icmp_ne (tgt := 29) (by decide) (dk_X6_item 23 _ rfl) ?_ ?_
    · refine F_iload_n (i := 2) (a := 2) rfl rfl (dk_X6_item 29 _ rfl) ?_
      refine F_if_lt (tgt := 42) (by decide) (dk_X6_item 30 _ rfl) ?_ ?_
      · refine F_bipush (v := (-13)) (by decide) (dk_X6_item 42 _ rfl) ?_
        exact F_ret rfl (dk_X6_item 44 _ rfl)
      · refine F_iload_n (i := 2) (a := 2) rfl rfl (dk_X6_item 33 _ rfl) ?_
        refine F_aload (i := 5) rfl (dk_X6_item 34 _ rfl) ?_
        refine F_gI (n := (64 * r5 + 1)) (lyP_1 hr5) rfl fl_6_226 (dk_X6_item 36 _ rfl) ?_
        refine F_icmp_lt (tgt := 45) (by decide) (dk_X6_item 39 _ rfl) ?_ ?_
        · refine F_aload (i := 5) rfl (dk_X6_item 45 _ rfl) ?_
          refine F_gR (b := (r5 + 1)) (lyP_2 hr5).1 fl_6_227 (dk_X6_item 47 _ rfl) ?_
          refine F_iload_n (i := 2) (a := 2) rfl rfl (dk_X6_item 50 _ rfl) ?_
          refine F_aload (i := 5) rfl (dk_X6_item 51 _ rfl) ?_
          refine F_lload_n (i := 3) (a := 3) rfl rfl (dk_X6_item 53 _ rfl) ?_
          refine F_callV (ι' := uL) (ci := 3) (b := r5) (As := [.long p3]) (d' := 2) (hr5) ok_X3_fitted vi_X3_fitted cl_6_255 (n := 1) (by decide +kernel) rfl rfl rfl (Nat.le_of_ble_eq_true rfl) (by omega) (dk_X6_item 54 _ rfl) (c_X3_fitted _ _ _ (hr5)) (fun x6 m7 => ?_)
          show JF _ _ _ _ _ _ [.long x6, .int p2, .ref (r5 + 1)] _ _
          refine F_last ((lyP_2 hr5).2) (dk_X6_item 57 _ rfl) (fun m9 => ?_)
          refine F_iconst (v := 1) (by decide) (dk_X6_item 58 _ rfl) ?_
          exact F_ret rfl (dk_X6_item 59 _ rfl)
        · refine F_bipush (v := (-13)) (by decide) (dk_X6_item 42 _ rfl) ?_
          exact F_ret rfl (dk_X6_item 44 _ rfl)
    · refine F_bipush (v := (-11)) (by decide) (dk_X6_item 26 _ rfl) ?_
      exact F_ret rfl (dk_X6_item 28 _ rfl)
  · refine F_iconst (v := (-1)) (by decide) (dk_X6_item 7 _ rfl) ?_
    exact F_ret rfl (dk_X6_item 8 _ rfl)
def f_X6_read (m : mM) (p1 : Int32) (p2 : Int32) : fR Int64 :=
  bnd (f_X6_isTape m p1) fun (x1 : Int32) (m2 : mM) => (if x1 = 0 then some ((-9223372036854775808), m2) else (gT [82, 84, 86, 88, 90, 92] p1).bind fun r4 => chR true 3 r4 fun r5 => (if p2 < 0 then some ((-9223372036854775808), m2) else (if p2 < (mI m2 (64 * r5 + 1)) then (gL (mL m2 (r5 + 1)) p2).bind fun x6 => some (x6, m2) else some ((-9223372036854775808), m2))))
theorem c_X6_read (m : mM) (p1 : Int32) (p2 : Int32)  : cF true uL m_X6_read 3 [.ref 0, .int p1, .int p2] m (f_X6_read m p1 p2) := by
  refine cF_of ok_X6_read (fun _ _ => Nat.le_of_ble_eq_true rfl) ?_
  unfold f_X6_read
  show JF _ _ _ _ _ [(0, .ref 0), (1, .int p1), (2, .int p2)] _ _ _
  refine F_iload_n (i := 1) (a := 1) rfl rfl (dk_X6_read 0 _ rfl) ?_
  refine F_callS (ι' := uI) (As := [.int p1]) (d' := 2) ok_X6_isTape st_X6_isTape cl_6_220 rfl (n := 1) (by decide +kernel) rfl (Nat.le_of_ble_eq_true rfl) (by omega) (dk_X6_read 1 _ rfl) (c_X6_isTape _ _ ) (fun x1 m2 => ?_)
  show JF _ _ _ _ _ _ [.int x1] _ _
  refine F_if_ne (tgt := 11) (by decide) (dk_X6_read 4 _ rfl) ?_ ?_
  · refine F_aload_n (i := 0) (a := 0) rfl rfl (dk_X6_read 11 _ rfl) ?_
    refine F_gR (b := 7) fxX_6_10_0 fl_6_37 (dk_X6_read 12 _ rfl) ?_
    refine F_iload_n (i := 1) (a := 1) rfl rfl (dk_X6_read 15 _ rfl) ?_
    refine F_aald (rs := [82, 84, 86, 88, 90, 92]) (t := 5) rfl (by decide) (dk_X6_read 16 _ rfl) (fun r4 => ?_)
    refine F_ch (fun r5 hr5 => ?_)
    refine F_astore_n (lv' := [(3, .ref r5), (0, .ref 0), (1, .int p1), (2, .int p2)]) (i := 3) (a := 3) rfl (by decide) rfl (dk_X6_read 17 _ rfl) ?_
    refine F_iload_n (i := 2) (a := 2) rfl rfl (dk_X6_read 18 _ rfl) ?_
    refine F_if_lt (tgt := 30) (by decide) (dk_X6_read 19 _ rfl) ?_ ?_
    · refine F_ldc2 (v := (-9223372036854775808)) ctl_6_203 (dk_X6_read 30 _ rfl) ?_
      refine F_goto (tgt := 42) (by decide) (dk_X6_read 33 _ rfl) ?_
      exact F_retL rfl (dk_X6_read 42 _ rfl)
    · refine F_iload_n (i := 2) (a := 2) rfl rfl (dk_X6_read 22 _ rfl) ?_
      refine F_aload_n (i := 3) (a := 3) rfl rfl (dk_X6_read 23 _ rfl) ?_
      refine F_gI (n := (64 * r5 + 1)) (lyP_1 hr5) rfl fl_6_226 (dk_X6_read 24 _ rfl) ?_
      refine F_icmp_lt (tgt := 36) (by decide) (dk_X6_read 27 _ rfl) ?_ ?_
      · refine F_aload_n (i := 3) (a := 3) rfl rfl (dk_X6_read 36 _ rfl) ?_
        refine F_gR (b := (r5 + 1)) (lyP_2 hr5).1 fl_6_227 (dk_X6_read 37 _ rfl) ?_
        refine F_iload_n (i := 2) (a := 2) rfl rfl (dk_X6_read 40 _ rfl) ?_
        refine F_lald ((lyP_2 hr5).2) (dk_X6_read 41 _ rfl) (fun x6 => ?_)
        exact F_retL rfl (dk_X6_read 42 _ rfl)
      · refine F_ldc2 (v := (-9223372036854775808)) ctl_6_203 (dk_X6_read 30 _ rfl) ?_
        refine F_goto (tgt := 42) (by decide) (dk_X6_read 33 _ rfl) ?_
        exact F_retL rfl (dk_X6_read 42 _ rfl)
  · refine F_ldc2 (v := (-9223372036854775808)) ctl_6_203 (dk_X6_read 7 _ rfl) ?_
    exact F_retL rfl (dk_X6_read 10 _ rfl)
def f_X6_shift (m : mM) (p1 : Int32) (p2 : Int32) (p3 : Int32) (p4 : Int32) (p5 : Int32) : fR Int32 :=
  bnd (f_X6_isTape m p1) fun (x1 : Int32) (m2 : mM) => (if x1 = 0 then some ((-1), m2) else bnd (f_X6_isTape m2 p3) fun (x4 : Int32) (m5 : mM) => (if x4 = 0 then some ((-1), m5) else (gT [82, 84, 86, 88, 90, 92] p1).bind fun r7 => chR true 3 r7 fun r8 => (gT [82, 84, 86, 88, 90, 92] p3).bind fun r9 => chR true 3 r9 fun r10 => (if (mI m5 (64 * r8 + 0)) = (-1) then some ((-11), m5) else (if (mI m5 (64 * r10 + 0)) = (-1) then some ((-11), m5) else (if (mI m5 (64 * r8 + 0)) = (mI m5 (64 * r10 + 0)) then bnd (f_X3_holds m5 r8 p2 p5) fun (x11 : Int32) (m12 : mM) => (if x11 = 0 then some ((-13), m12) else bnd (f_X3_holds m12 r10 p4 p5) fun (x14 : Int32) (m15 : mM) => (if x14 = 0 then some ((-13), m15) else (cpL m15 (r8 + 1) p2 (r10 + 1) p4 p5).bind fun m17 => some (p5, m17))) else some ((-12), m5))))))
theorem c_X6_shift (m : mM) (p1 : Int32) (p2 : Int32) (p3 : Int32) (p4 : Int32) (p5 : Int32)  : cF true uI m_X6_shift 3 [.ref 0, .int p1, .int p2, .int p3, .int p4, .int p5] m (f_X6_shift m p1 p2 p3 p4 p5) := by
  refine cF_of ok_X6_shift (fun _ _ => Nat.le_of_ble_eq_true rfl) ?_
  unfold f_X6_shift
  show JF _ _ _ _ _ [(0, .ref 0), (1, .int p1), (2, .int p2), (3, .int p3), (4, .int p4), (5, .int p5)] _ _ _
  refine F_iload_n (i := 1) (a := 1) rfl rfl (dk_X6_shift 0 _ rfl) ?_
  refine F_callS (ι' := uI) (As := [.int p1]) (d' := 2) ok_X6_isTape st_X6_isTape cl_6_220 rfl (n := 1) (by decide +kernel) rfl (Nat.le_of_ble_eq_true rfl) (by omega) (dk_X6_shift 1 _ rfl) (c_X6_isTape _ _ ) (fun x1 m2 => ?_)
  show JF _ _ _ _ _ _ [.int x1] _ _
  refine F_if_eq (tgt := 14) (by decide) (dk_X6_shift 4 _ rfl) ?_ ?_
  · refine F_iconst (v := (-1)) (by decide) (dk_X6_shift 14 _ rfl) ?_
    exact F_ret rfl (dk_X6_shift 15 _ rfl)
  · refine F_iload_n (i := 3) (a := 3) rfl rfl (dk_X6_shift 7 _ rfl) ?_
    refine F_callS (ι' := uI) (As := [.int p3]) (d' := 2) ok_X6_isTape st_X6_isTape cl_6_220 rfl (n := 1) (by decide +kernel) rfl (Nat.le_of_ble_eq_true rfl) (by omega) (dk_X6_shift 8 _ rfl) (c_X6_isTape _ _ ) (fun x4 m5 => ?_)
    show JF _ _ _ _ _ _ [.int x4] _ _
    refine F_if_ne (tgt := 16) (by decide) (dk_X6_shift 11 _ rfl) ?_ ?_
    · refine F_aload_n (i := 0) (a := 0) rfl rfl (dk_X6_shift 16 _ rfl) ?_
      refine F_gR (b := 7) fxX_6_10_0 fl_6_37 (dk_X6_shift 17 _ rfl) ?_
      refine F_iload_n (i := 1) (a := 1) rfl rfl (dk_X6_shift 20 _ rfl) ?_
      refine F_aald (rs := [82, 84, 86, 88, 90, 92]) (t := 5) rfl (by decide) (dk_X6_shift 21 _ rfl) (fun r7 => ?_)
      refine F_ch (fun r8 hr8 => ?_)
      refine F_astore (lv' := [(6, .ref r8), (0, .ref 0), (1, .int p1), (2, .int p2), (3, .int p3), (4, .int p4), (5, .int p5)]) (i := 6) (by decide) rfl (dk_X6_shift 22 _ rfl) ?_
      refine F_aload_n (i := 0) (a := 0) rfl rfl (dk_X6_shift 24 _ rfl) ?_
      refine F_gR (b := 7) fxX_6_10_0 fl_6_37 (dk_X6_shift 25 _ rfl) ?_
      refine F_iload_n (i := 3) (a := 3) rfl rfl (dk_X6_shift 28 _ rfl) ?_
      refine F_aald (rs := [82, 84, 86, 88, 90, 92]) (t := 5) rfl (by decide) (dk_X6_shift 29 _ rfl) (fun r9 => ?_)
      refine F_ch (fun r10 hr10 => ?_)
      refine F_astore (lv' := [(7, .ref r10), (6, .ref r8), (0, .ref 0), (1, .int p1), (2, .int p2), (3, .int p3), (4, .int p4), (5, .int p5)]) (i := 7) (by decide) rfl (dk_X6_shift 30 _ rfl) ?_
      refine F_aload (i := 6) rfl (dk_X6_shift 32 _ rfl) ?_
      refine F_gI (n := (64 * r8 + 0)) (lyP_0 hr8) rfl fl_6_223 (dk_X6_shift 34 _ rfl) ?_
      refine F_iconst (v := (-1)) (by decide) (dk_X6_shift 37 _ rfl) ?_
      refine F_icmp_eq (tgt := 50) (by decide) (dk_X6_shift 38 _ rfl) ?_ ?_
      · refine F_bipush (v := (-11)) (by decide) (dk_X6_shift 50 _ rfl) ?_
        exact F_ret rfl (dk_X6_shift 52 _ rfl)
      · refine F_aload (i := 7) rfl (dk_X6_shift 41 _ rfl) ?_
        refine F_gI (n := (64 * r10 + 0)) (lyP_0 hr10) rfl fl_6_223 (dk_X6_shift 43 _ rfl) ?_
        refine F_iconst (v := (-1)) (by decide) (dk_X6_shift 46 _ rfl) ?_
        refine F_icmp_ne (tgt := 53) (by decide) (dk_X6_shift 47 _ rfl) ?_ ?_
        · refine F_aload (i := 6) rfl (dk_X6_shift 53 _ rfl) ?_
          refine F_gI (n := (64 * r8 + 0)) (lyP_0 hr8) rfl fl_6_223 (dk_X6_shift 55 _ rfl) ?_
          refine F_aload (i := 7) rfl (dk_X6_shift 58 _ rfl) ?_
          refine F_gI (n := (64 * r10 + 0)) (lyP_0 hr10) rfl fl_6_223 (dk_X6_shift 60 _ rfl) ?_
          refine F_icmp_eq (tgt := 69) (by decide) (dk_X6_shift 63 _ rfl) ?_ ?_
          · refine F_aload (i := 6) rfl (dk_X6_shift 69 _ rfl) ?_
            refine F_iload_n (i := 2) (a := 2) rfl rfl (dk_X6_shift 71 _ rfl) ?_
            refine F_iload (i := 5) rfl (dk_X6_shift 72 _ rfl) ?_
            refine F_callV (ι' := uI) (ci := 3) (b := r8) (As := [.int p2, .int p5]) (d' := 2) (hr8) ok_X3_holds vi_X3_holds cl_6_259 (n := 2) (by decide +kernel) rfl rfl rfl (Nat.le_of_ble_eq_true rfl) (by omega) (dk_X6_shift 74 _ rfl) (c_X3_holds _ _ _ _ (hr8)) (fun x11 m12 => ?_)
            show JF _ _ _ _ _ _ [.int x11] _ _
            refine F_if_eq (tgt := 92) (by decide) (dk_X6_shift 77 _ rfl) ?_ ?_
            · refine F_bipush (v := (-13)) (by decide) (dk_X6_shift 92 _ rfl) ?_
              exact F_ret rfl (dk_X6_shift 94 _ rfl)
            · refine F_aload (i := 7) rfl (dk_X6_shift 80 _ rfl) ?_
              refine F_iload (i := 4) rfl (dk_X6_shift 82 _ rfl) ?_
              refine F_iload (i := 5) rfl (dk_X6_shift 84 _ rfl) ?_
              refine F_callV (ι' := uI) (ci := 3) (b := r10) (As := [.int p4, .int p5]) (d' := 2) (hr10) ok_X3_holds vi_X3_holds cl_6_259 (n := 2) (by decide +kernel) rfl rfl rfl (Nat.le_of_ble_eq_true rfl) (by omega) (dk_X6_shift 86 _ rfl) (c_X3_holds _ _ _ _ (hr10)) (fun x14 m15 => ?_)
              show JF _ _ _ _ _ _ [.int x14] _ _
              refine F_if_ne (tgt := 95) (by decide) (dk_X6_shift 89 _ rfl) ?_ ?_
              · refine F_aload (i := 6) rfl (dk_X6_shift 95 _ rfl) ?_
                refine F_gR (b := (r8 + 1)) (lyP_2 hr8).1 fl_6_227 (dk_X6_shift 97 _ rfl) ?_
                refine F_iload_n (i := 2) (a := 2) rfl rfl (dk_X6_shift 100 _ rfl) ?_
                refine F_aload (i := 7) rfl (dk_X6_shift 101 _ rfl) ?_
                refine F_gR (b := (r10 + 1)) (lyP_2 hr10).1 fl_6_227 (dk_X6_shift 103 _ rfl) ?_
                refine F_iload (i := 4) rfl (dk_X6_shift 106 _ rfl) ?_
                refine F_iload (i := 5) rfl (dk_X6_shift 108 _ rfl) ?_
                refine F_copyl ((lyP_2 hr8).2) ((lyP_2 hr10).2) ac_6 (Nat.le_of_ble_eq_true rfl) (by omega) (dk_X6_shift 110 _ rfl) (fun m17 => ?_)
                refine F_iload (i := 5) rfl (dk_X6_shift 113 _ rfl) ?_
                exact F_ret rfl (dk_X6_shift 115 _ rfl)
              · refine F_bipush (v := (-13)) (by decide) (dk_X6_shift 92 _ rfl) ?_
                exact F_ret rfl (dk_X6_shift 94 _ rfl)
          · refine F_bipush (v := (-12)) (by decide) (dk_X6_shift 66 _ rfl) ?_
            exact F_ret rfl (dk_X6_shift 68 _ rfl)
        · refine F_bipush (v := (-11)) (by decide) (dk_X6_shift 50 _ rfl) ?_
          exact F_ret rfl (dk_X6_shift 52 _ rfl)
    · refine F_iconst (v := (-1)) (by decide) (dk_X6_shift 14 _ rfl) ?_
      exact F_ret rfl (dk_X6_shift 15 _ rfl)
def f_X7_in (m : mM) (p1 : Int32) (p2 : Int32) (p3 : Int32) : fR Int32 :=
  (if p1 < p2 then some (0, m) else (if p3 < p1 then some (0, m) else some (1, m)))
theorem c_X7_in (m : mM) (p1 : Int32) (p2 : Int32) (p3 : Int32)  : cF false uI m_X7_in 2 [.ref 0, .int p1, .int p2, .int p3] m (f_X7_in m p1 p2 p3) := by
  refine cF_of ok_X7_in (fun _ _ => Nat.le_of_ble_eq_true rfl) ?_
  unfold f_X7_in
  show JF _ _ _ _ _ [(0, .ref 0), (1, .int p1), (2, .int p2), (3, .int p3)] _ _ _
  refine F_iload_n (i := 1) (a := 1) rfl rfl (dk_X7_in 0 _ rfl) ?_
  refine F_iload_n (i := 2) (a := 2) rfl rfl (dk_X7_in 1 _ rfl) ?_
  refine F_icmp_lt (tgt := 14) (by decide) (dk_X7_in 2 _ rfl) ?_ ?_
  · refine F_iconst (v := 0) (by decide) (dk_X7_in 14 _ rfl) ?_
    exact F_retB rfl (Or.inl rfl) (dk_X7_in 15 _ rfl)
  · refine F_iload_n (i := 1) (a := 1) rfl rfl (dk_X7_in 5 _ rfl) ?_
    refine F_iload_n (i := 3) (a := 3) rfl rfl (dk_X7_in 6 _ rfl) ?_
    refine F_icmp_gt (tgt := 14) (by decide) (dk_X7_in 7 _ rfl) ?_ ?_
    · refine F_iconst (v := 0) (by decide) (dk_X7_in 14 _ rfl) ?_
      exact F_retB rfl (Or.inl rfl) (dk_X7_in 15 _ rfl)
    · refine F_iconst (v := 1) (by decide) (dk_X7_in 10 _ rfl) ?_
      refine F_goto (tgt := 15) (by decide) (dk_X7_in 11 _ rfl) ?_
      exact F_retB rfl (Or.inr rfl) (dk_X7_in 15 _ rfl)
def f_X7_isPerson (m : mM) (p1 : Int32) : fR Int32 :=
  bnd (f_X7_in m p1 0 (((mI m 0) - 1))) fun (x1 : Int32) (m2 : mM) => chZ x1 (some (x1, m2))
theorem c_X7_isPerson (m : mM) (p1 : Int32)  : cF false uI m_X7_isPerson 3 [.ref 0, .int p1] m (f_X7_isPerson m p1) := by
  refine cF_of ok_X7_isPerson (fun _ _ => Nat.le_of_ble_eq_true rfl) ?_
  unfold f_X7_isPerson
  show JF _ _ _ _ _ [(0, .ref 0), (1, .int p1)] _ _ _
  refine F_aload_n (i := 0) (a := 0) rfl rfl (dk_X7_isPerson 0 _ rfl) ?_
  refine F_iload_n (i := 1) (a := 1) rfl rfl (dk_X7_isPerson 1 _ rfl) ?_
  refine F_iconst (v := 0) (by decide) (dk_X7_isPerson 2 _ rfl) ?_
  refine F_aload_n (i := 0) (a := 0) rfl rfl (dk_X7_isPerson 3 _ rfl) ?_
  refine F_gI (n := 0) fxM_7_0_0 rfl fl_7_7 (dk_X7_isPerson 4 _ rfl) ?_
  refine F_iconst (v := 1) (by decide) (dk_X7_isPerson 7 _ rfl) ?_
  refine F_isub (dk_X7_isPerson 8 _ rfl) ?_
  refine F_callV (ι' := uI) (ci := 7) (b := 0) (As := [.int p1, .int 0, .int ((mI m 0) - 1)]) (d' := 2) (rfl) ok_X7_in vi_X7_in cl_7_194 (n := 3) (by decide +kernel) rfl rfl rfl (Nat.le_of_ble_eq_true rfl) (by omega) (dk_X7_isPerson 9 _ rfl) (c_X7_in _ _ _ _ ) (fun x1 m2 => ?_)
  show JF _ _ _ _ _ _ [.int x1] _ _
  exact F_retZ rfl (dk_X7_isPerson 12 _ rfl)
def f_X7_isDay (m : mM) (p1 : Int32) : fR Int32 :=
  bnd (f_X7_in m p1 0 11) fun (x1 : Int32) (m2 : mM) => chZ x1 (some (x1, m2))
theorem c_X7_isDay (m : mM) (p1 : Int32)  : cF false uI m_X7_isDay 3 [.ref 0, .int p1] m (f_X7_isDay m p1) := by
  refine cF_of ok_X7_isDay (fun _ _ => Nat.le_of_ble_eq_true rfl) ?_
  unfold f_X7_isDay
  show JF _ _ _ _ _ [(0, .ref 0), (1, .int p1)] _ _ _
  refine F_aload_n (i := 0) (a := 0) rfl rfl (dk_X7_isDay 0 _ rfl) ?_
  refine F_iload_n (i := 1) (a := 1) rfl rfl (dk_X7_isDay 1 _ rfl) ?_
  refine F_iconst (v := 0) (by decide) (dk_X7_isDay 2 _ rfl) ?_
  refine F_bipush (v := 11) (by decide) (dk_X7_isDay 3 _ rfl) ?_
  refine F_callV (ι' := uI) (ci := 7) (b := 0) (As := [.int p1, .int 0, .int 11]) (d' := 2) (rfl) ok_X7_in vi_X7_in cl_7_194 (n := 3) (by decide +kernel) rfl rfl rfl (Nat.le_of_ble_eq_true rfl) (by omega) (dk_X7_isDay 5 _ rfl) (c_X7_in _ _ _ _ ) (fun x1 m2 => ?_)
  show JF _ _ _ _ _ _ [.int x1] _ _
  exact F_retZ rfl (dk_X7_isDay 8 _ rfl)
def fb_X7_lay_47 (K47 : mM → Int32 → Int32 → fR Unit) (m : mM) (y1 : Int32) (y6 : Int32) : fR Unit :=
  (if 4 ≤ y6 then some ((), m) else (sA 0 m 6 (((4 * y1) + y6)) 0).bind fun m7 => (K47 m7 y1 (y6 + 1)))
def f_X7_lay_47  : Nat → mM → Int32 → Int32 → fR Unit
  | 0, _, _, _ => none
  | F + 1, m, y1, y6 => fb_X7_lay_47  (f_X7_lay_47  F) m y1 y6
theorem jb_X7_lay_47 (K47 : mM → Int32 → Int32 → fR Unit) (hK47 : ∀ (m : mM) (y1 : Int32) (y6 : Int32) , JF false uU m_X7_lay 2 47 [(0, .ref 0), (1, .int y1), (6, .int y6)] [] m (K47 m y1 y6)) (m : mM) (y1 : Int32) (y6 : Int32)  : JF false uU m_X7_lay 2 47 [(0, .ref 0), (1, .int y1), (6, .int y6)] [] m (fb_X7_lay_47 K47 m y1 y6) := by
  unfold fb_X7_lay_47
  refine F_iload (i := 6) rfl (dk_X7_lay 47 _ rfl) ?_
  refine F_iconst (v := 4) (by decide) (dk_X7_lay 49 _ rfl) ?_
  refine F_icmp_ge (tgt := 71) (by decide) (dk_X7_lay 50 _ rfl) ?_ ?_
  · exact F_retV rfl (dk_X7_lay 71 _ rfl)
  · refine F_aload_n (i := 0) (a := 0) rfl rfl (dk_X7_lay 53 _ rfl) ?_
    refine F_gR (b := 6) fxM_7_8_0 fl_7_35 (dk_X7_lay 54 _ rfl) ?_
    refine F_iconst (v := 4) (by decide) (dk_X7_lay 57 _ rfl) ?_
    refine F_iload_n (i := 1) (a := 1) rfl rfl (dk_X7_lay 58 _ rfl) ?_
    refine F_imul (dk_X7_lay 59 _ rfl) ?_
    refine F_iload (i := 6) rfl (dk_X7_lay 60 _ rfl) ?_
    refine F_iadd (dk_X7_lay 62 _ rfl) ?_
    refine F_iconst (v := 0) (by decide) (dk_X7_lay 63 _ rfl) ?_
    refine F_iast (axM_0_6) (dk_X7_lay 64 _ rfl) (fun m7 => ?_)
    refine F_iinc (i := 6) (n := 1) (v := (y6 + 1)) (lv' := [(6, .int (y6 + 1)), (0, .ref 0), (1, .int y1)]) rfl (by first | rfl | decide) (by decide) rfl (dk_X7_lay 65 _ rfl) ?_
    refine F_goto (tgt := 47) (by decide) (dk_X7_lay 68 _ rfl) ?_
    exact F_loc (List.forall_mem_cons.mpr ⟨(.tail _ (.head _)), (List.forall_mem_cons.mpr ⟨(.tail _ (.tail _ (.head _))), (List.forall_mem_cons.mpr ⟨(.head _), (fun _ z => absurd z List.not_mem_nil)⟩)⟩)⟩) (hK47 _ _ _ )
theorem j_X7_lay_47   : ∀ (F : Nat) (m : mM) (y1 : Int32) (y6 : Int32) , JF false uU m_X7_lay 2 47 [(0, .ref 0), (1, .int y1), (6, .int y6)] [] m (f_X7_lay_47  F m y1 y6) := by
  intro F
  induction F with
  | zero => intro m y1 y6 ; exact F_no
  | succ F ih => intro m y1 y6 ; exact jb_X7_lay_47  (f_X7_lay_47  F)  ih m y1 y6 
def f_X7_lay (m : mM) (p1 : Int32) (p2 : Int32) (p3 : Int32) (p4 : Int32) (p5 : Int32) : fR Unit :=
  (sA 0 m 1 p1 p2).bind fun m1 => (sA 0 m1 2 p1 p3).bind fun m2 => (sA 0 m2 3 p1 p4).bind fun m3 => (sA 0 m3 4 p1 p5).bind fun m4 => (sA 0 m4 5 p1 0).bind fun m5 => (sA 3 m5 7 p1 1).bind fun m6 => (f_X7_lay_47  1000 m6 p1 0)
theorem c_X7_lay (m : mM) (p1 : Int32) (p2 : Int32) (p3 : Int32) (p4 : Int32) (p5 : Int32)  : cF false uU m_X7_lay 2 [.ref 0, .int p1, .int p2, .int p3, .int p4, .int p5] m (f_X7_lay m p1 p2 p3 p4 p5) := by
  refine cF_of ok_X7_lay (fun _ _ => Nat.le_of_ble_eq_true rfl) ?_
  unfold f_X7_lay
  show JF _ _ _ _ _ [(0, .ref 0), (1, .int p1), (2, .int p2), (3, .int p3), (4, .int p4), (5, .int p5)] _ _ _
  refine F_aload_n (i := 0) (a := 0) rfl rfl (dk_X7_lay 0 _ rfl) ?_
  refine F_gR (b := 1) fxM_7_3_0 fl_7_19 (dk_X7_lay 1 _ rfl) ?_
  refine F_iload_n (i := 1) (a := 1) rfl rfl (dk_X7_lay 4 _ rfl) ?_
  refine F_iload_n (i := 2) (a := 2) rfl rfl (dk_X7_lay 5 _ rfl) ?_
  refine F_iast (axM_0_1) (dk_X7_lay 6 _ rfl) (fun m1 => ?_)
  refine F_aload_n (i := 0) (a := 0) rfl rfl (dk_X7_lay 7 _ rfl) ?_
  refine F_gR (b := 2) fxM_7_4_0 fl_7_23 (dk_X7_lay 8 _ rfl) ?_
  refine F_iload_n (i := 1) (a := 1) rfl rfl (dk_X7_lay 11 _ rfl) ?_
  refine F_iload_n (i := 3) (a := 3) rfl rfl (dk_X7_lay 12 _ rfl) ?_
  refine F_iast (axM_0_2) (dk_X7_lay 13 _ rfl) (fun m2 => ?_)
  refine F_aload_n (i := 0) (a := 0) rfl rfl (dk_X7_lay 14 _ rfl) ?_
  refine F_gR (b := 3) fxM_7_5_0 fl_7_26 (dk_X7_lay 15 _ rfl) ?_
  refine F_iload_n (i := 1) (a := 1) rfl rfl (dk_X7_lay 18 _ rfl) ?_
  refine F_iload (i := 4) rfl (dk_X7_lay 19 _ rfl) ?_
  refine F_iast (axM_0_3) (dk_X7_lay 21 _ rfl) (fun m3 => ?_)
  refine F_aload_n (i := 0) (a := 0) rfl rfl (dk_X7_lay 22 _ rfl) ?_
  refine F_gR (b := 4) fxM_7_6_0 fl_7_29 (dk_X7_lay 23 _ rfl) ?_
  refine F_iload_n (i := 1) (a := 1) rfl rfl (dk_X7_lay 26 _ rfl) ?_
  refine F_iload (i := 5) rfl (dk_X7_lay 27 _ rfl) ?_
  refine F_iast (axM_0_4) (dk_X7_lay 29 _ rfl) (fun m4 => ?_)
  refine F_aload_n (i := 0) (a := 0) rfl rfl (dk_X7_lay 30 _ rfl) ?_
  refine F_gR (b := 5) fxM_7_7_0 fl_7_32 (dk_X7_lay 31 _ rfl) ?_
  refine F_iload_n (i := 1) (a := 1) rfl rfl (dk_X7_lay 34 _ rfl) ?_
  refine F_iconst (v := 0) (by decide) (dk_X7_lay 35 _ rfl) ?_
  refine F_iast (axM_0_5) (dk_X7_lay 36 _ rfl) (fun m5 => ?_)
  refine F_aload_n (i := 0) (a := 0) rfl rfl (dk_X7_lay 37 _ rfl) ?_
  refine F_gR (b := 7) fxM_7_9_0 fl_7_38 (dk_X7_lay 38 _ rfl) ?_
  refine F_iload_n (i := 1) (a := 1) rfl rfl (dk_X7_lay 41 _ rfl) ?_
  refine F_iconst (v := 1) (by decide) (dk_X7_lay 42 _ rfl) ?_
  refine F_zast (axM_3_7) (dk_X7_lay 43 _ rfl) (fun m6 => ?_)
  refine F_iconst (v := 0) (by decide) (dk_X7_lay 44 _ rfl) ?_
  refine F_istore (lv' := [(6, .int 0), (0, .ref 0), (1, .int p1), (2, .int p2), (3, .int p3), (4, .int p4), (5, .int p5)]) (i := 6) (by decide) rfl (dk_X7_lay 45 _ rfl) ?_
  exact F_loc (List.forall_mem_cons.mpr ⟨(.tail _ (.head _)), (List.forall_mem_cons.mpr ⟨(.tail _ (.tail _ (.head _))), (List.forall_mem_cons.mpr ⟨(.head _), (fun _ z => absurd z List.not_mem_nil)⟩)⟩)⟩) (j_X7_lay_47   1000 _ _ _ )
def f_X7_person (m : mM) (p1 : Int32) (p2 : Int32) (p3 : Int32) (p4 : Int32) : fR Int32 :=
  bnd (f_X7_in m p1 0 6) fun (x1 : Int32) (m2 : mM) => (if x1 = 0 then some ((-1), m2) else bnd (f_X7_in m2 p2 0 9) fun (x4 : Int32) (m5 : mM) => (if x4 = 0 then some ((-2), m5) else bnd (f_X7_isDay m5 p3) fun (x7 : Int32) (m8 : mM) => (if x7 = 0 then some ((-2), m8) else bnd (f_X7_isDay m8 p4) fun (x10 : Int32) (m11 : mM) => (if x10 = 0 then some ((-2), m11) else (if (mI m11 0) = 7 then some ((-4), m11) else bnd (f_X7_lay m11 (mI m11 0) p1 p2 p3 p4) fun (x13 : Unit) (m14 : mM) => nmM (wI m14 0 (((mI m14 0) + 1))) fun m16 => some (((mI m16 0) - 1), m16))))))
theorem c_X7_person (m : mM) (p1 : Int32) (p2 : Int32) (p3 : Int32) (p4 : Int32)  : cF false uI m_X7_person 4 [.ref 0, .int p1, .int p2, .int p3, .int p4] m (f_X7_person m p1 p2 p3 p4) := by
  refine cF_of ok_X7_person (fun _ _ => Nat.le_of_ble_eq_true rfl) ?_
  unfold f_X7_person
  show JF _ _ _ _ _ [(0, .ref 0), (1, .int p1), (2, .int p2), (3, .int p3), (4, .int p4)] _ _ _
  refine F_aload_n (i := 0) (a := 0) rfl rfl (dk_X7_person 0 _ rfl) ?_
  refine F_iload_n (i := 1) (a := 1) rfl rfl (dk_X7_person 1 _ rfl) ?_
  refine F_iconst (v := 0) (by decide) (dk_X7_person 2 _ rfl) ?_
  refine F_bipush (v := 6) (by decide) (dk_X7_person 3 _ rfl) ?_
  refine F_callV (ι' := uI) (ci := 7) (b := 0) (As := [.int p1, .int 0, .int 6]) (d' := 2) (rfl) ok_X7_in vi_X7_in cl_7_194 (n := 3) (by decide +kernel) rfl rfl rfl (Nat.le_of_ble_eq_true rfl) (by omega) (dk_X7_person 5 _ rfl) (c_X7_in _ _ _ _ ) (fun x1 m2 => ?_)
  show JF _ _ _ _ _ _ [.int x1] _ _
  refine F_if_ne (tgt := 13) (by decide) (dk_X7_person 8 _ rfl) ?_ ?_
  · refine F_aload_n (i := 0) (a := 0) rfl rfl (dk_X7_person 13 _ rfl) ?_
    refine F_iload_n (i := 2) (a := 2) rfl rfl (dk_X7_person 14 _ rfl) ?_
    refine F_iconst (v := 0) (by decide) (dk_X7_person 15 _ rfl) ?_
    refine F_bipush (v := 9) (by decide) (dk_X7_person 16 _ rfl) ?_
    refine F_callV (ι' := uI) (ci := 7) (b := 0) (As := [.int p2, .int 0, .int 9]) (d' := 2) (rfl) ok_X7_in vi_X7_in cl_7_194 (n := 3) (by decide +kernel) rfl rfl rfl (Nat.le_of_ble_eq_true rfl) (by omega) (dk_X7_person 18 _ rfl) (c_X7_in _ _ _ _ ) (fun x4 m5 => ?_)
    show JF _ _ _ _ _ _ [.int x4] _ _
    refine F_if_eq (tgt := 41) (by decide) (dk_X7_person 21 _ rfl) ?_ ?_
    · refine F_bipush (v := (-2)) (by decide) (dk_X7_person 41 _ rfl) ?_
      exact F_ret rfl (dk_X7_person 43 _ rfl)
    · refine F_aload_n (i := 0) (a := 0) rfl rfl (dk_X7_person 24 _ rfl) ?_
      refine F_iload_n (i := 3) (a := 3) rfl rfl (dk_X7_person 25 _ rfl) ?_
      refine F_callV (ι' := uI) (ci := 7) (b := 0) (As := [.int p3]) (d' := 3) (rfl) ok_X7_isDay vi_X7_isDay cl_7_198 (n := 1) (by decide +kernel) rfl rfl rfl (Nat.le_of_ble_eq_true rfl) (by omega) (dk_X7_person 26 _ rfl) (c_X7_isDay _ _ ) (fun x7 m8 => ?_)
      show JF _ _ _ _ _ _ [.int x7] _ _
      refine F_if_eq (tgt := 41) (by decide) (dk_X7_person 29 _ rfl) ?_ ?_
      · refine F_bipush (v := (-2)) (by decide) (dk_X7_person 41 _ rfl) ?_
        exact F_ret rfl (dk_X7_person 43 _ rfl)
      · refine F_aload_n (i := 0) (a := 0) rfl rfl (dk_X7_person 32 _ rfl) ?_
        refine F_iload (i := 4) rfl (dk_X7_person 33 _ rfl) ?_
        refine F_callV (ι' := uI) (ci := 7) (b := 0) (As := [.int p4]) (d' := 3) (rfl) ok_X7_isDay vi_X7_isDay cl_7_198 (n := 1) (by decide +kernel) rfl rfl rfl (Nat.le_of_ble_eq_true rfl) (by omega) (dk_X7_person 35 _ rfl) (c_X7_isDay _ _ ) (fun x10 m11 => ?_)
        show JF _ _ _ _ _ _ [.int x10] _ _
        refine F_if_ne (tgt := 44) (by decide) (dk_X7_person 38 _ rfl) ?_ ?_
        · refine F_aload_n (i := 0) (a := 0) rfl rfl (dk_X7_person 44 _ rfl) ?_
          refine F_gI (n := 0) fxM_7_0_0 rfl fl_7_7 (dk_X7_person 45 _ rfl) ?_
          refine F_bipush (v := 7) (by decide) (dk_X7_person 48 _ rfl) ?_
          refine F_icmp_ne (tgt := 56) (by decide) (dk_X7_person 50 _ rfl) ?_ ?_
          · refine F_aload_n (i := 0) (a := 0) rfl rfl (dk_X7_person 56 _ rfl) ?_
            refine F_aload_n (i := 0) (a := 0) rfl rfl (dk_X7_person 57 _ rfl) ?_
            refine F_gI (n := 0) fxM_7_0_0 rfl fl_7_7 (dk_X7_person 58 _ rfl) ?_
            refine F_iload_n (i := 1) (a := 1) rfl rfl (dk_X7_person 61 _ rfl) ?_
            refine F_iload_n (i := 2) (a := 2) rfl rfl (dk_X7_person 62 _ rfl) ?_
            refine F_iload_n (i := 3) (a := 3) rfl rfl (dk_X7_person 63 _ rfl) ?_
            refine F_iload (i := 4) rfl (dk_X7_person 64 _ rfl) ?_
            refine F_callV (ι' := uU) (ci := 7) (b := 0) (As := [.int (mI m11 0), .int p1, .int p2, .int p3, .int p4]) (d' := 2) (rfl) ok_X7_lay vi_X7_lay cl_7_202 (n := 5) (by decide +kernel) rfl rfl rfl (Nat.le_of_ble_eq_true rfl) (by omega) (dk_X7_person 66 _ rfl) (c_X7_lay _ _ _ _ _ _ ) (fun x13 m14 => ?_)
            show JF _ _ _ _ _ _ [] _ _
            refine F_aload_n (i := 0) (a := 0) rfl rfl (dk_X7_person 69 _ rfl) ?_
            refine F_dup rfl (dk_X7_person 70 _ rfl) ?_
            refine F_gI (n := 0) fxM_7_0_0 rfl fl_7_7 (dk_X7_person 71 _ rfl) ?_
            refine F_iconst (v := 1) (by decide) (dk_X7_person 74 _ rfl) ?_
            refine F_iadd (dk_X7_person 75 _ rfl) ?_
            refine F_pI (n := 0) fxM_7_0_0 rfl fl_7_7 (fun q hq => by cases hq; rfl) trivial (dk_X7_person 76 _ rfl) (fun m16 => ?_)
            refine F_aload_n (i := 0) (a := 0) rfl rfl (dk_X7_person 79 _ rfl) ?_
            refine F_gI (n := 0) fxM_7_0_0 rfl fl_7_7 (dk_X7_person 80 _ rfl) ?_
            refine F_iconst (v := 1) (by decide) (dk_X7_person 83 _ rfl) ?_
            refine F_isub (dk_X7_person 84 _ rfl) ?_
            exact F_ret rfl (dk_X7_person 85 _ rfl)
          · refine F_bipush (v := (-4)) (by decide) (dk_X7_person 53 _ rfl) ?_
            exact F_ret rfl (dk_X7_person 55 _ rfl)
        · refine F_bipush (v := (-2)) (by decide) (dk_X7_person 41 _ rfl) ?_
          exact F_ret rfl (dk_X7_person 43 _ rfl)
  · refine F_iconst (v := (-1)) (by decide) (dk_X7_person 11 _ rfl) ?_
    exact F_ret rfl (dk_X7_person 12 _ rfl)
def f_X7_set_50  (m : mM) (y1 : Int32) (y2 : Int32) (y3 : Int32) (y100 : Int32) : fR Int32 :=
  (if y2 = 0 then (sA 0 m 3 y1 y3).bind fun m12 => some (y100, m12) else (sA 0 m 4 y1 y3).bind fun m11 => some (y100, m11))
theorem j_X7_set_50   (m : mM) (y1 : Int32) (y2 : Int32) (y3 : Int32) (y100 : Int32)  : JF false uI m_X7_set 4 50 [(0, .ref 0), (1, .int y1), (2, .int y2), (3, .int y3)] [.int y100] m (f_X7_set_50  m y1 y2 y3 y100) := by
  unfold f_X7_set_50
  refine F_istore (lv' := [(4, .int y100), (0, .ref 0), (1, .int y1), (2, .int y2), (3, .int y3)]) (i := 4) (by decide) rfl (dk_X7_set 50 _ rfl) ?_
  refine F_iload_n (i := 2) (a := 2) rfl rfl (dk_X7_set 52 _ rfl) ?_
  refine F_if_ne (tgt := 66) (by decide) (dk_X7_set 53 _ rfl) ?_ ?_
  · refine F_aload_n (i := 0) (a := 0) rfl rfl (dk_X7_set 66 _ rfl) ?_
    refine F_gR (b := 4) fxM_7_6_0 fl_7_29 (dk_X7_set 67 _ rfl) ?_
    refine F_iload_n (i := 1) (a := 1) rfl rfl (dk_X7_set 70 _ rfl) ?_
    refine F_iload_n (i := 3) (a := 3) rfl rfl (dk_X7_set 71 _ rfl) ?_
    refine F_iast (axM_0_4) (dk_X7_set 72 _ rfl) (fun m11 => ?_)
    refine F_iload (i := 4) rfl (dk_X7_set 73 _ rfl) ?_
    exact F_ret rfl (dk_X7_set 75 _ rfl)
  · refine F_aload_n (i := 0) (a := 0) rfl rfl (dk_X7_set 56 _ rfl) ?_
    refine F_gR (b := 3) fxM_7_5_0 fl_7_26 (dk_X7_set 57 _ rfl) ?_
    refine F_iload_n (i := 1) (a := 1) rfl rfl (dk_X7_set 60 _ rfl) ?_
    refine F_iload_n (i := 3) (a := 3) rfl rfl (dk_X7_set 61 _ rfl) ?_
    refine F_iast (axM_0_3) (dk_X7_set 62 _ rfl) (fun m12 => ?_)
    refine F_goto (tgt := 73) (by decide) (dk_X7_set 63 _ rfl) ?_
    refine F_iload (i := 4) rfl (dk_X7_set 73 _ rfl) ?_
    exact F_ret rfl (dk_X7_set 75 _ rfl)
def f_X7_set (m : mM) (p1 : Int32) (p2 : Int32) (p3 : Int32) : fR Int32 :=
  bnd (f_X7_isPerson m p1) fun (x1 : Int32) (m2 : mM) => (if x1 = 0 then some ((-1), m2) else bnd (f_X7_in m2 p2 0 1) fun (x4 : Int32) (m5 : mM) => (if x4 = 0 then some ((-1), m5) else bnd (f_X7_isDay m5 p3) fun (x7 : Int32) (m8 : mM) => (if x7 = 0 then some ((-2), m8) else (if p2 = 0 then (gA (mA m8 3) p1).bind fun x13 => (f_X7_set_50  m8 p1 p2 p3 x13) else (gA (mA m8 4) p1).bind fun x10 => (f_X7_set_50  m8 p1 p2 p3 x10)))))
theorem c_X7_set (m : mM) (p1 : Int32) (p2 : Int32) (p3 : Int32)  : cF false uI m_X7_set 4 [.ref 0, .int p1, .int p2, .int p3] m (f_X7_set m p1 p2 p3) := by
  refine cF_of ok_X7_set (fun _ _ => Nat.le_of_ble_eq_true rfl) ?_
  unfold f_X7_set
  show JF _ _ _ _ _ [(0, .ref 0), (1, .int p1), (2, .int p2), (3, .int p3)] _ _ _
  refine F_aload_n (i := 0) (a := 0) rfl rfl (dk_X7_set 0 _ rfl) ?_
  refine F_iload_n (i := 1) (a := 1) rfl rfl (dk_X7_set 1 _ rfl) ?_
  refine F_callV (ι' := uI) (ci := 7) (b := 0) (As := [.int p1]) (d' := 3) (rfl) ok_X7_isPerson vi_X7_isPerson cl_7_206 (n := 1) (by decide +kernel) rfl rfl rfl (Nat.le_of_ble_eq_true rfl) (by omega) (dk_X7_set 2 _ rfl) (c_X7_isPerson _ _ ) (fun x1 m2 => ?_)
  show JF _ _ _ _ _ _ [.int x1] _ _
  refine F_if_eq (tgt := 18) (by decide) (dk_X7_set 5 _ rfl) ?_ ?_
  · refine F_iconst (v := (-1)) (by decide) (dk_X7_set 18 _ rfl) ?_
    exact F_ret rfl (dk_X7_set 19 _ rfl)
  · refine F_aload_n (i := 0) (a := 0) rfl rfl (dk_X7_set 8 _ rfl) ?_
    refine F_iload_n (i := 2) (a := 2) rfl rfl (dk_X7_set 9 _ rfl) ?_
    refine F_iconst (v := 0) (by decide) (dk_X7_set 10 _ rfl) ?_
    refine F_iconst (v := 1) (by decide) (dk_X7_set 11 _ rfl) ?_
    refine F_callV (ι' := uI) (ci := 7) (b := 0) (As := [.int p2, .int 0, .int 1]) (d' := 2) (rfl) ok_X7_in vi_X7_in cl_7_194 (n := 3) (by decide +kernel) rfl rfl rfl (Nat.le_of_ble_eq_true rfl) (by omega) (dk_X7_set 12 _ rfl) (c_X7_in _ _ _ _ ) (fun x4 m5 => ?_)
    show JF _ _ _ _ _ _ [.int x4] _ _
    refine F_if_ne (tgt := 20) (by decide) (dk_X7_set 15 _ rfl) ?_ ?_
    · refine F_aload_n (i := 0) (a := 0) rfl rfl (dk_X7_set 20 _ rfl) ?_
      refine F_iload_n (i := 3) (a := 3) rfl rfl (dk_X7_set 21 _ rfl) ?_
      refine F_callV (ι' := uI) (ci := 7) (b := 0) (As := [.int p3]) (d' := 3) (rfl) ok_X7_isDay vi_X7_isDay cl_7_198 (n := 1) (by decide +kernel) rfl rfl rfl (Nat.le_of_ble_eq_true rfl) (by omega) (dk_X7_set 22 _ rfl) (c_X7_isDay _ _ ) (fun x7 m8 => ?_)
      show JF _ _ _ _ _ _ [.int x7] _ _
      refine F_if_ne (tgt := 31) (by decide) (dk_X7_set 25 _ rfl) ?_ ?_
      · refine F_iload_n (i := 2) (a := 2) rfl rfl (dk_X7_set 31 _ rfl) ?_
        refine F_if_ne (tgt := 44) (by decide) (dk_X7_set 32 _ rfl) ?_ ?_
        · refine F_aload_n (i := 0) (a := 0) rfl rfl (dk_X7_set 44 _ rfl) ?_
          refine F_gR (b := 4) fxM_7_6_0 fl_7_29 (dk_X7_set 45 _ rfl) ?_
          refine F_iload_n (i := 1) (a := 1) rfl rfl (dk_X7_set 48 _ rfl) ?_
          refine F_iald (axM_0_4) (dk_X7_set 49 _ rfl) (fun x10 => ?_)
          exact F_loc (fun _ z => z) (j_X7_set_50   _ _ _ _ _ )
        · refine F_aload_n (i := 0) (a := 0) rfl rfl (dk_X7_set 35 _ rfl) ?_
          refine F_gR (b := 3) fxM_7_5_0 fl_7_26 (dk_X7_set 36 _ rfl) ?_
          refine F_iload_n (i := 1) (a := 1) rfl rfl (dk_X7_set 39 _ rfl) ?_
          refine F_iald (axM_0_3) (dk_X7_set 40 _ rfl) (fun x13 => ?_)
          refine F_goto (tgt := 50) (by decide) (dk_X7_set 41 _ rfl) ?_
          exact F_loc (fun _ z => z) (j_X7_set_50   _ _ _ _ _ )
      · refine F_bipush (v := (-2)) (by decide) (dk_X7_set 28 _ rfl) ?_
        exact F_ret rfl (dk_X7_set 30 _ rfl)
    · refine F_iconst (v := (-1)) (by decide) (dk_X7_set 18 _ rfl) ?_
      exact F_ret rfl (dk_X7_set 19 _ rfl)
def f_X7_there_24  (m : mM) (y1 : Int32) (y2 : Int32) (y100 : Int32) : fR Int32 :=
  (sA 3 m 7 y1 y2).bind fun m5 => some (y100, m5)
theorem j_X7_there_24   (m : mM) (y1 : Int32) (y2 : Int32) (y100 : Int32)  : JF false uI m_X7_there 4 24 [(0, .ref 0), (1, .int y1), (2, .int y2)] [.int y100] m (f_X7_there_24  m y1 y2 y100) := by
  unfold f_X7_there_24
  refine F_istore_n (lv' := [(3, .int y100), (0, .ref 0), (1, .int y1), (2, .int y2)]) (i := 3) (a := 3) rfl (by decide) rfl (dk_X7_there 24 _ rfl) ?_
  refine F_aload_n (i := 0) (a := 0) rfl rfl (dk_X7_there 25 _ rfl) ?_
  refine F_gR (b := 7) fxM_7_9_0 fl_7_38 (dk_X7_there 26 _ rfl) ?_
  refine F_iload_n (i := 1) (a := 1) rfl rfl (dk_X7_there 29 _ rfl) ?_
  refine F_iload_n (i := 2) (a := 2) rfl rfl (dk_X7_there 30 _ rfl) ?_
  refine F_zast (axM_3_7) (dk_X7_there 31 _ rfl) (fun m5 => ?_)
  refine F_iload_n (i := 3) (a := 3) rfl rfl (dk_X7_there 32 _ rfl) ?_
  exact F_ret rfl (dk_X7_there 33 _ rfl)
def f_X7_there (m : mM) (p1 : Int32) (p2 : Int32) : fR Int32 :=
  bnd (f_X7_isPerson m p1) fun (x1 : Int32) (m2 : mM) => (if x1 = 0 then some ((-1), m2) else (gA (mA m2 7) p1).bind fun x4 => (if x4 = 0 then (f_X7_there_24  m2 p1 p2 0) else (f_X7_there_24  m2 p1 p2 1)))
theorem c_X7_there (m : mM) (p1 : Int32) (p2 : Int32)  : cF false uI m_X7_there 4 [.ref 0, .int p1, .int p2] m (f_X7_there m p1 p2) := by
  refine cF_of ok_X7_there (fun _ _ => Nat.le_of_ble_eq_true rfl) ?_
  unfold f_X7_there
  show JF _ _ _ _ _ [(0, .ref 0), (1, .int p1), (2, .int p2)] _ _ _
  refine F_aload_n (i := 0) (a := 0) rfl rfl (dk_X7_there 0 _ rfl) ?_
  refine F_iload_n (i := 1) (a := 1) rfl rfl (dk_X7_there 1 _ rfl) ?_
  refine F_callV (ι' := uI) (ci := 7) (b := 0) (As := [.int p1]) (d' := 3) (rfl) ok_X7_isPerson vi_X7_isPerson cl_7_206 (n := 1) (by decide +kernel) rfl rfl rfl (Nat.le_of_ble_eq_true rfl) (by omega) (dk_X7_there 2 _ rfl) (c_X7_isPerson _ _ ) (fun x1 m2 => ?_)
  show JF _ _ _ _ _ _ [.int x1] _ _
  refine F_if_ne (tgt := 10) (by decide) (dk_X7_there 5 _ rfl) ?_ ?_
  · refine F_aload_n (i := 0) (a := 0) rfl rfl (dk_X7_there 10 _ rfl) ?_
    refine F_gR (b := 7) fxM_7_9_0 fl_7_38 (dk_X7_there 11 _ rfl) ?_
    refine F_iload_n (i := 1) (a := 1) rfl rfl (dk_X7_there 14 _ rfl) ?_
    refine F_zald (axM_3_7) (dk_X7_there 15 _ rfl) (fun x4 => ?_)
    refine F_if_eq (tgt := 23) (by decide) (dk_X7_there 16 _ rfl) ?_ ?_
    · refine F_iconst (v := 0) (by decide) (dk_X7_there 23 _ rfl) ?_
      exact F_loc (fun _ z => z) (j_X7_there_24   _ _ _ _ )
    · refine F_iconst (v := 1) (by decide) (dk_X7_there 19 _ rfl) ?_
      refine F_goto (tgt := 24) (by decide) (dk_X7_there 20 _ rfl) ?_
      exact F_loc (fun _ z => z) (j_X7_there_24   _ _ _ _ )
  · refine F_iconst (v := (-1)) (by decide) (dk_X7_there 8 _ rfl) ?_
    exact F_ret rfl (dk_X7_there 9 _ rfl)
def f_X7_row (m : mM) (p1 : Int32) (p2 : Int32) (p3 : Int32) : fR Int32 :=
  bnd (f_X7_isPerson m p1) fun (x1 : Int32) (m2 : mM) => (if x1 = 0 then some ((-1), m2) else bnd (f_X7_in m2 p2 0 3) fun (x4 : Int32) (m5 : mM) => (if x4 = 0 then some ((-1), m5) else bnd (f_X7_isDay m5 p3) fun (x7 : Int32) (m8 : mM) => (if x7 = 0 then some ((-2), m8) else (gA (mA m8 1) p1).bind fun x10 => (if x10 = 6 then (gA (mA m8 6) (((4 * p1) + p2))).bind fun x11 => (sA 0 m8 6 (((4 * p1) + p2)) p3).bind fun m12 => some (x11, m12) else some ((-3), m8)))))
theorem c_X7_row (m : mM) (p1 : Int32) (p2 : Int32) (p3 : Int32)  : cF false uI m_X7_row 4 [.ref 0, .int p1, .int p2, .int p3] m (f_X7_row m p1 p2 p3) := by
  refine cF_of ok_X7_row (fun _ _ => Nat.le_of_ble_eq_true rfl) ?_
  unfold f_X7_row
  show JF _ _ _ _ _ [(0, .ref 0), (1, .int p1), (2, .int p2), (3, .int p3)] _ _ _
  refine F_aload_n (i := 0) (a := 0) rfl rfl (dk_X7_row 0 _ rfl) ?_
  refine F_iload_n (i := 1) (a := 1) rfl rfl (dk_X7_row 1 _ rfl) ?_
  refine F_callV (ι' := uI) (ci := 7) (b := 0) (As := [.int p1]) (d' := 3) (rfl) ok_X7_isPerson vi_X7_isPerson cl_7_206 (n := 1) (by decide +kernel) rfl rfl rfl (Nat.le_of_ble_eq_true rfl) (by omega) (dk_X7_row 2 _ rfl) (c_X7_isPerson _ _ ) (fun x1 m2 => ?_)
  show JF _ _ _ _ _ _ [.int x1] _ _
  refine F_if_eq (tgt := 18) (by decide) (dk_X7_row 5 _ rfl) ?_ ?_
  · refine F_iconst (v := (-1)) (by decide) (dk_X7_row 18 _ rfl) ?_
    exact F_ret rfl (dk_X7_row 19 _ rfl)
  · refine F_aload_n (i := 0) (a := 0) rfl rfl (dk_X7_row 8 _ rfl) ?_
    refine F_iload_n (i := 2) (a := 2) rfl rfl (dk_X7_row 9 _ rfl) ?_
    refine F_iconst (v := 0) (by decide) (dk_X7_row 10 _ rfl) ?_
    refine F_iconst (v := 3) (by decide) (dk_X7_row 11 _ rfl) ?_
    refine F_callV (ι' := uI) (ci := 7) (b := 0) (As := [.int p2, .int 0, .int 3]) (d' := 2) (rfl) ok_X7_in vi_X7_in cl_7_194 (n := 3) (by decide +kernel) rfl rfl rfl (Nat.le_of_ble_eq_true rfl) (by omega) (dk_X7_row 12 _ rfl) (c_X7_in _ _ _ _ ) (fun x4 m5 => ?_)
    show JF _ _ _ _ _ _ [.int x4] _ _
    refine F_if_ne (tgt := 20) (by decide) (dk_X7_row 15 _ rfl) ?_ ?_
    · refine F_aload_n (i := 0) (a := 0) rfl rfl (dk_X7_row 20 _ rfl) ?_
      refine F_iload_n (i := 3) (a := 3) rfl rfl (dk_X7_row 21 _ rfl) ?_
      refine F_callV (ι' := uI) (ci := 7) (b := 0) (As := [.int p3]) (d' := 3) (rfl) ok_X7_isDay vi_X7_isDay cl_7_198 (n := 1) (by decide +kernel) rfl rfl rfl (Nat.le_of_ble_eq_true rfl) (by omega) (dk_X7_row 22 _ rfl) (c_X7_isDay _ _ ) (fun x7 m8 => ?_)
      show JF _ _ _ _ _ _ [.int x7] _ _
      refine F_if_ne (tgt := 31) (by decide) (dk_X7_row 25 _ rfl) ?_ ?_
      · refine F_aload_n (i := 0) (a := 0) rfl rfl (dk_X7_row 31 _ rfl) ?_
        refine F_gR (b := 1) fxM_7_3_0 fl_7_19 (dk_X7_row 32 _ rfl) ?_
        refine F_iload_n (i := 1) (a := 1) rfl rfl (dk_X7_row 35 _ rfl) ?_
        refine F_iald (axM_0_1) (dk_X7_row 36 _ rfl) (fun x10 => ?_)
        refine F_bipush (v := 6) (by decide) (dk_X7_row 37 _ rfl) ?_
        refine F_icmp_eq (tgt := 45) (by decide) (dk_X7_row 39 _ rfl) ?_ ?_
        · refine F_aload_n (i := 0) (a := 0) rfl rfl (dk_X7_row 45 _ rfl) ?_
          refine F_gR (b := 6) fxM_7_8_0 fl_7_35 (dk_X7_row 46 _ rfl) ?_
          refine F_iconst (v := 4) (by decide) (dk_X7_row 49 _ rfl) ?_
          refine F_iload_n (i := 1) (a := 1) rfl rfl (dk_X7_row 50 _ rfl) ?_
          refine F_imul (dk_X7_row 51 _ rfl) ?_
          refine F_iload_n (i := 2) (a := 2) rfl rfl (dk_X7_row 52 _ rfl) ?_
          refine F_iadd (dk_X7_row 53 _ rfl) ?_
          refine F_iald (axM_0_6) (dk_X7_row 54 _ rfl) (fun x11 => ?_)
          refine F_istore (lv' := [(4, .int x11), (0, .ref 0), (1, .int p1), (2, .int p2), (3, .int p3)]) (i := 4) (by decide) rfl (dk_X7_row 55 _ rfl) ?_
          refine F_aload_n (i := 0) (a := 0) rfl rfl (dk_X7_row 57 _ rfl) ?_
          refine F_gR (b := 6) fxM_7_8_0 fl_7_35 (dk_X7_row 58 _ rfl) ?_
          refine F_iconst (v := 4) (by decide) (dk_X7_row 61 _ rfl) ?_
          refine F_iload_n (i := 1) (a := 1) rfl rfl (dk_X7_row 62 _ rfl) ?_
          refine F_imul (dk_X7_row 63 _ rfl) ?_
          refine F_iload_n (i := 2) (a := 2) rfl rfl (dk_X7_row 64 _ rfl) ?_
          refine F_iadd (dk_X7_row 65 _ rfl) ?_
          refine F_iload_n (i := 3) (a := 3) rfl rfl (dk_X7_row 66 _ rfl) ?_
          refine F_iast (axM_0_6) (dk_X7_row 67 _ rfl) (fun m12 => ?_)
          refine F_iload (i := 4) rfl (dk_X7_row 68 _ rfl) ?_
          exact F_ret rfl (dk_X7_row 70 _ rfl)
        · refine F_bipush (v := (-3)) (by decide) (dk_X7_row 42 _ rfl) ?_
          exact F_ret rfl (dk_X7_row 44 _ rfl)
      · refine F_bipush (v := (-2)) (by decide) (dk_X7_row 28 _ rfl) ?_
        exact F_ret rfl (dk_X7_row 30 _ rfl)
    · refine F_iconst (v := (-1)) (by decide) (dk_X7_row 18 _ rfl) ?_
      exact F_ret rfl (dk_X7_row 19 _ rfl)
end
end
