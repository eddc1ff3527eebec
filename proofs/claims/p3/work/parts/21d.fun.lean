section
set_option maxRecDepth 100000
def f_X4_relation_23  (m : mM) (y1 : Int32) : fR Int32 :=
  nmM (wI m 130 (((mI m 130) + 1))) fun m4 => some (y1, m4)
theorem j_X4_relation_23   (m : mM) (y1 : Int32)  : JF true uI m_X4_relation 3 23 [(0, .ref 2), (1, .int y1)] [] m (f_X4_relation_23  m y1) := by
  unfold f_X4_relation_23
  refine F_aload_n (i := 0) (a := 0) rfl rfl (dk_X4_relation 23 _ rfl) ?_
  refine F_dup rfl (dk_X4_relation 24 _ rfl) ?_
  refine F_gI (n := 130) fxX_4_2_2 rfl fl_4_20 (dk_X4_relation 25 _ rfl) ?_
  refine F_iconst (v := 1) (by decide) (dk_X4_relation 28 _ rfl) ?_
  refine F_iadd (dk_X4_relation 29 _ rfl) ?_
  refine F_pI (n := 130) fxX_4_2_2 rfl fl_4_20 (fun q hq => by cases hq; rfl) trivial (dk_X4_relation 30 _ rfl) (fun m4 => ?_)
  refine F_goto (tgt := 41) (by decide) (dk_X4_relation 33 _ rfl) ?_
  refine F_iload_n (i := 1) (a := 1) rfl rfl (dk_X4_relation 41 _ rfl) ?_
  exact F_ret rfl (dk_X4_relation 42 _ rfl)
def f_X4_relation (m : mM)  : fR Int32 :=
  bnd (f_X4_next m ) fun (x1 : Int32) (m2 : mM) => (if x1 = 60 then (f_X4_relation_23  m2 x1) else (if x1 = 61 then (f_X4_relation_23  m2 x1) else (if x1 = 62 then (f_X4_relation_23  m2 x1) else nmM (wI m2 131 0) fun m5 => some (x1, m5))))
theorem c_X4_relation (m : mM)   : cF true uI m_X4_relation 3 [.ref 2] m (f_X4_relation m ) := by
  refine cF_of ok_X4_relation (fun _ _ => Nat.le_of_ble_eq_true rfl) ?_
  unfold f_X4_relation
  show JF _ _ _ _ _ [(0, .ref 2)] _ _ _
  refine F_aload_n (i := 0) (a := 0) rfl rfl (dk_X4_relation 0 _ rfl) ?_
  refine F_callV (ι' := uI) (ci := 4) (b := 2) (As := []) (d' := 2) (rfl) ok_X4_next vi_X4_next cl_4_46 (n := 0) (by decide +kernel) rfl rfl rfl (Nat.le_of_ble_eq_true rfl) (by omega) (dk_X4_relation 1 _ rfl) (c_X4_next _  ) (fun x1 m2 => ?_)
  show JF _ _ _ _ _ _ [.int x1] _ _
  refine F_istore_n (lv' := [(1, .int x1), (0, .ref 2)]) (i := 1) (a := 1) rfl (by decide) rfl (dk_X4_relation 4 _ rfl) ?_
  refine F_iload_n (i := 1) (a := 1) rfl rfl (dk_X4_relation 5 _ rfl) ?_
  refine F_bipush (v := 60) (by decide) (dk_X4_relation 6 _ rfl) ?_
  refine F_icmp_eq (tgt := 23) (by decide) (dk_X4_relation 8 _ rfl) ?_ ?_
  · exact F_loc (List.forall_mem_cons.mpr ⟨(.tail _ (.head _)), (List.forall_mem_cons.mpr ⟨(.head _), (fun _ z => absurd z List.not_mem_nil)⟩)⟩) (j_X4_relation_23   _ _ )
  · refine F_iload_n (i := 1) (a := 1) rfl rfl (dk_X4_relation 11 _ rfl) ?_
    refine F_bipush (v := 61) (by decide) (dk_X4_relation 12 _ rfl) ?_
    refine F_icmp_eq (tgt := 23) (by decide) (dk_X4_relation 14 _ rfl) ?_ ?_
    · exact F_loc (List.forall_mem_cons.mpr ⟨(.tail _ (.head _)), (List.forall_mem_cons.mpr ⟨(.head _), (fun _ z => absurd z List.not_mem_nil)⟩)⟩) (j_X4_relation_23   _ _ )
    · refine F_iload_n (i := 1) (a := 1) rfl rfl (dk_X4_relation 17 _ rfl) ?_
      refine F_bipush (v := 62) (by decide) (dk_X4_relation 18 _ rfl) ?_
      refine F_icmp_ne (tgt := 36) (by decide) (dk_X4_relation 20 _ rfl) ?_ ?_
      · refine F_aload_n (i := 0) (a := 0) rfl rfl (dk_X4_relation 36 _ rfl) ?_
        refine F_iconst (v := 0) (by decide) (dk_X4_relation 37 _ rfl) ?_
        refine F_pI (n := 131) fxX_4_3_2 rfl fl_4_24 (fun q hq => by cases hq; rfl) (Or.inl rfl) (dk_X4_relation 38 _ rfl) (fun m5 => ?_)
        refine F_iload_n (i := 1) (a := 1) rfl rfl (dk_X4_relation 41 _ rfl) ?_
        exact F_ret rfl (dk_X4_relation 42 _ rfl)
      · exact F_loc (List.forall_mem_cons.mpr ⟨(.tail _ (.head _)), (List.forall_mem_cons.mpr ⟨(.head _), (fun _ z => absurd z List.not_mem_nil)⟩)⟩) (j_X4_relation_23   _ _ )
def f_X4_isLetter (m : mM) (p0 : Int32) : fR Int32 :=
  (if p0 = 112 then some (1, m) else (if p0 = 107 then some (1, m) else (if p0 = 100 then some (1, m) else (if p0 = 99 then some (1, m) else (if p0 = 121 then some (1, m) else (if p0 = 98 then some (1, m) else some (0, m)))))))
theorem c_X4_isLetter (m : mM) (p0 : Int32)  : cF true uI m_X4_isLetter 2 [.int p0] m (f_X4_isLetter m p0) := by
  refine cF_of ok_X4_isLetter (fun _ _ => Nat.le_of_ble_eq_true rfl) ?_
  unfold f_X4_isLetter
  show JF _ _ _ _ _ [(0, .int p0)] _ _ _
  refine F_iload_n (i := 0) (a := 0) rfl rfl (dk_X4_isLetter 0 _ rfl) ?_
  refine F_bipush (v := 112) (by decide) (dk_X4_isLetter 1 _ rfl) ?_
  refine F_icmp_eq (tgt := 36) (by decide) (dk_X4_isLetter 3 _ rfl) ?_ ?_
  · refine F_iconst (v := 1) (by decide) (dk_X4_isLetter 36 _ rfl) ?_
    refine F_goto (tgt := 41) (by decide) (dk_X4_isLetter 37 _ rfl) ?_
    exact F_retB rfl (Or.inr rfl) (dk_X4_isLetter 41 _ rfl)
  · refine F_iload_n (i := 0) (a := 0) rfl rfl (dk_X4_isLetter 6 _ rfl) ?_
    refine F_bipush (v := 107) (by decide) (dk_X4_isLetter 7 _ rfl) ?_
    refine F_icmp_eq (tgt := 36) (by decide) (dk_X4_isLetter 9 _ rfl) ?_ ?_
    · refine F_iconst (v := 1) (by decide) (dk_X4_isLetter 36 _ rfl) ?_
      refine F_goto (tgt := 41) (by decide) (dk_X4_isLetter 37 _ rfl) ?_
      exact F_retB rfl (Or.inr rfl) (dk_X4_isLetter 41 _ rfl)
    · refine F_iload_n (i := 0) (a := 0) rfl rfl (dk_X4_isLetter 12 _ rfl) ?_
      refine F_bipush (v := 100) (by decide) (dk_X4_isLetter 13 _ rfl) ?_
      refine F_icmp_eq (tgt := 36) (by decide) (dk_X4_isLetter 15 _ rfl) ?_ ?_
      · refine F_iconst (v := 1) (by decide) (dk_X4_isLetter 36 _ rfl) ?_
        refine F_goto (tgt := 41) (by decide) (dk_X4_isLetter 37 _ rfl) ?_
        exact F_retB rfl (Or.inr rfl) (dk_X4_isLetter 41 _ rfl)
      · refine F_iload_n (i := 0) (a := 0) rfl rfl (dk_X4_isLetter 18 _ rfl) ?_
        refine F_bipush (v := 99) (by decide) (dk_X4_isLetter 19 _ rfl) ?_
        refine F_icmp_eq (tgt := 36) (by decide) (dk_X4_isLetter 21 _ rfl) ?_ ?_
        · refine F_iconst (v := 1) (by decide) (dk_X4_isLetter 36 _ rfl) ?_
          refine F_goto (tgt := 41) (by decide) (dk_X4_isLetter 37 _ rfl) ?_
          exact F_retB rfl (Or.inr rfl) (dk_X4_isLetter 41 _ rfl)
        · refine F_iload_n (i := 0) (a := 0) rfl rfl (dk_X4_isLetter 24 _ rfl) ?_
          refine F_bipush (v := 121) (by decide) (dk_X4_isLetter 25 _ rfl) ?_
          refine F_icmp_eq (tgt := 36) (by decide) (dk_X4_isLetter 27 _ rfl) ?_ ?_
          · refine F_iconst (v := 1) (by decide) (dk_X4_isLetter 36 _ rfl) ?_
            refine F_goto (tgt := 41) (by decide) (dk_X4_isLetter 37 _ rfl) ?_
            exact F_retB rfl (Or.inr rfl) (dk_X4_isLetter 41 _ rfl)
          · refine F_iload_n (i := 0) (a := 0) rfl rfl (dk_X4_isLetter 30 _ rfl) ?_
            refine F_bipush (v := 98) (by decide) (dk_X4_isLetter 31 _ rfl) ?_
            refine F_icmp_ne (tgt := 40) (by decide) (dk_X4_isLetter 33 _ rfl) ?_ ?_
            · refine F_iconst (v := 0) (by decide) (dk_X4_isLetter 40 _ rfl) ?_
              exact F_retB rfl (Or.inl rfl) (dk_X4_isLetter 41 _ rfl)
            · refine F_iconst (v := 1) (by decide) (dk_X4_isLetter 36 _ rfl) ?_
              refine F_goto (tgt := 41) (by decide) (dk_X4_isLetter 37 _ rfl) ?_
              exact F_retB rfl (Or.inr rfl) (dk_X4_isLetter 41 _ rfl)
def f_X4_one_50 (rc : mM → Nat → Int32 → fR Unit)  (m : mM) (y1 : Nat) (y2 : Int32) (y3 : Int32) : fR Unit :=
  (if y2 < 4 then (if y3 = 33 then nmM (wI m 130 (((mI m 130) + 1))) fun m14 => bnd (rc m14 y1 (y2 + 1)) fun (x15 : Unit) (m16 : mM) => bnd (f_X5_addJoint m16 y1 33) fun (x18 : Unit) (m19 : mM) => some ((), m19) else nmM (wI m 130 (((mI m 130) + 1))) fun m7 => bnd (f_X4_either rc m7 y1 (y2 + 1)) fun (x8 : Unit) (m9 : mM) => bnd (f_X4_word m9 8) fun (x11 : Unit) (m12 : mM) => some ((), m12)) else nmM (wI m 131 0) fun m21 => some ((), m21))
theorem j_X4_one_50 (rc : mM → Nat → Int32 → fR Unit) (dr : Nat) (hdr : 6 ≤ dr) (hrc : ∀ (m : mM) (b : Nat) (x : Int32) (_ : isC true 5 b = true), cF true uU m_X4_one dr [.ref 2, .ref b, .int x] m (rc m b x))   (m : mM) (y1 : Nat) (y2 : Int32) (y3 : Int32) (hy1 : isC true 5 y1 = true) : JF true uU m_X4_one (dr + 2) 50 [(0, .ref 2), (1, .ref y1), (2, .int y2), (3, .int y3)] [] m (f_X4_one_50 rc  m y1 y2 y3) := by
  unfold f_X4_one_50
  refine F_iload_n (i := 2) (a := 2) rfl rfl (dk_X4_one 50 _ rfl) ?_
  refine F_iconst (v := 4) (by decide) (dk_X4_one 51 _ rfl) ?_
  refine F_icmp_lt (tgt := 63) (by decide) (dk_X4_one 52 _ rfl) ?_ ?_
  · refine F_iload_n (i := 3) (a := 3) rfl rfl (dk_X4_one 63 _ rfl) ?_
    refine F_bipush (v := 33) (by decide) (dk_X4_one 64 _ rfl) ?_
    refine F_icmp_ne (tgt := 96) (by decide) (dk_X4_one 66 _ rfl) ?_ ?_
    · refine F_aload_n (i := 0) (a := 0) rfl rfl (dk_X4_one 96 _ rfl) ?_
      refine F_dup rfl (dk_X4_one 97 _ rfl) ?_
      refine F_gI (n := 130) fxX_4_2_2 rfl fl_4_20 (dk_X4_one 98 _ rfl) ?_
      refine F_iconst (v := 1) (by decide) (dk_X4_one 101 _ rfl) ?_
      refine F_iadd (dk_X4_one 102 _ rfl) ?_
      refine F_pI (n := 130) fxX_4_2_2 rfl fl_4_20 (fun q hq => by cases hq; rfl) trivial (dk_X4_one 103 _ rfl) (fun m7 => ?_)
      refine F_aload_n (i := 0) (a := 0) rfl rfl (dk_X4_one 106 _ rfl) ?_
      refine F_aload_n (i := 1) (a := 1) rfl rfl (dk_X4_one 107 _ rfl) ?_
      refine F_iload_n (i := 2) (a := 2) rfl rfl (dk_X4_one 108 _ rfl) ?_
      refine F_iconst (v := 1) (by decide) (dk_X4_one 109 _ rfl) ?_
      refine F_iadd (dk_X4_one 110 _ rfl) ?_
      refine F_callV (ι' := uU) (ci := 4) (b := 2) (As := [.ref y1, .int (y2 + 1)]) (d' := (dr + 1)) (rfl) ok_X4_either vi_X4_either cl_4_60 (n := 2) (by decide +kernel) rfl rfl rfl (Nat.le_of_ble_eq_true rfl) (by omega) (dk_X4_one 111 _ rfl) (c_X4_either rc dr (by omega) hrc _ _ _ (hy1)) (fun x8 m9 => ?_)
      show JF _ _ _ _ _ _ [] _ _
      refine F_aload_n (i := 0) (a := 0) rfl rfl (dk_X4_one 114 _ rfl) ?_
      refine F_sldc (z := 8) rfl os_8 (dk_X4_one 115 _ rfl) ?_
      refine F_callV (ι' := uU) (ci := 4) (b := 2) (As := [.retAddr 8]) (d' := 6) (rfl) ok_X4_word vi_X4_word cl_4_37 (n := 1) (by decide +kernel) rfl rfl rfl (Nat.le_of_ble_eq_true rfl) (by omega) (dk_X4_one 117 _ rfl) (c_X4_word _ _ ) (fun x11 m12 => ?_)
      show JF _ _ _ _ _ _ [] _ _
      exact F_retV rfl (dk_X4_one 120 _ rfl)
    · refine F_aload_n (i := 0) (a := 0) rfl rfl (dk_X4_one 69 _ rfl) ?_
      refine F_dup rfl (dk_X4_one 70 _ rfl) ?_
      refine F_gI (n := 130) fxX_4_2_2 rfl fl_4_20 (dk_X4_one 71 _ rfl) ?_
      refine F_iconst (v := 1) (by decide) (dk_X4_one 74 _ rfl) ?_
      refine F_iadd (dk_X4_one 75 _ rfl) ?_
      refine F_pI (n := 130) fxX_4_2_2 rfl fl_4_20 (fun q hq => by cases hq; rfl) trivial (dk_X4_one 76 _ rfl) (fun m14 => ?_)
      refine F_aload_n (i := 0) (a := 0) rfl rfl (dk_X4_one 79 _ rfl) ?_
      refine F_aload_n (i := 1) (a := 1) rfl rfl (dk_X4_one 80 _ rfl) ?_
      refine F_iload_n (i := 2) (a := 2) rfl rfl (dk_X4_one 81 _ rfl) ?_
      refine F_iconst (v := 1) (by decide) (dk_X4_one 82 _ rfl) ?_
      refine F_iadd (dk_X4_one 83 _ rfl) ?_
      refine F_callV (ι' := uU) (ci := 4) (b := 2) (As := [.ref y1, .int (y2 + 1)]) (d' := dr) (rfl) ok_X4_one vi_X4_one cl_4_83 (n := 2) (by decide +kernel) rfl rfl rfl (Nat.le_of_ble_eq_true rfl) (by omega) (dk_X4_one 84 _ rfl) (hrc _ _ _ (hy1)) (fun x15 m16 => ?_)
      show JF _ _ _ _ _ _ [] _ _
      refine F_aload_n (i := 1) (a := 1) rfl rfl (dk_X4_one 87 _ rfl) ?_
      refine F_bipush (v := 33) (by decide) (dk_X4_one 88 _ rfl) ?_
      refine F_callV (ι' := uU) (ci := 5) (b := y1) (As := [.int 33]) (d' := 3) (hy1) ok_X5_addJoint vi_X5_addJoint cl_4_86 (n := 1) (by decide +kernel) rfl rfl rfl (Nat.le_of_ble_eq_true rfl) (by omega) (dk_X4_one 90 _ rfl) (c_X5_addJoint _ _ _ (hy1)) (fun x18 m19 => ?_)
      show JF _ _ _ _ _ _ [] _ _
      refine F_goto (tgt := 120) (by decide) (dk_X4_one 93 _ rfl) ?_
      exact F_retV rfl (dk_X4_one 120 _ rfl)
  · refine F_aload_n (i := 0) (a := 0) rfl rfl (dk_X4_one 55 _ rfl) ?_
    refine F_iconst (v := 0) (by decide) (dk_X4_one 56 _ rfl) ?_
    refine F_pI (n := 131) fxX_4_3_2 rfl fl_4_24 (fun q hq => by cases hq; rfl) (Or.inl rfl) (dk_X4_one 57 _ rfl) (fun m21 => ?_)
    refine F_goto (tgt := 120) (by decide) (dk_X4_one 60 _ rfl) ?_
    exact F_retV rfl (dk_X4_one 120 _ rfl)
def fb_X4_one (rc : mM → Nat → Int32 → fR Unit) (m : mM) (a1 : Nat) (p2 : Int32) : fR Unit :=
  bnd (f_X4_next m ) fun (x1 : Int32) (m2 : mM) => bnd (f_X4_isLetter m2 x1) fun (x4 : Int32) (m5 : mM) => (if x4 = 0 then (if x1 = 33 then (f_X4_one_50 rc  m5 a1 p2 x1) else (if x1 = 40 then (f_X4_one_50 rc  m5 a1 p2 x1) else nmM (wI m5 131 0) fun m22 => some ((), m22))) else nmM (wI m5 130 (((mI m5 130) + 1))) fun m23 => bnd (f_X4_relation m23 ) fun (x24 : Int32) (m25 : mM) => bnd (f_X4_number m25 ) fun (x27 : Int32) (m28 : mM) => bnd (f_X5_addTest m28 a1 x1 x24 x27) fun (x30 : Unit) (m31 : mM) => some ((), m31))
theorem jb_X4_one (rc : mM → Nat → Int32 → fR Unit) (dr : Nat) (hdr : 6 ≤ dr) (hrc : ∀ (m : mM) (b : Nat) (x : Int32) (_ : isC true 5 b = true), cF true uU m_X4_one dr [.ref 2, .ref b, .int x] m (rc m b x)) (m : mM) (a1 : Nat) (p2 : Int32) (ha1 : isC true 5 a1 = true) : JF true uU m_X4_one (dr + 2) 0 [(0, .ref 2), (1, .ref a1), (2, .int p2)] [] m (fb_X4_one rc m a1 p2) := by
  unfold fb_X4_one
  refine F_aload_n (i := 0) (a := 0) rfl rfl (dk_X4_one 0 _ rfl) ?_
  refine F_callV (ι' := uI) (ci := 4) (b := 2) (As := []) (d' := 2) (rfl) ok_X4_next vi_X4_next cl_4_46 (n := 0) (by decide +kernel) rfl rfl rfl (Nat.le_of_ble_eq_true rfl) (by omega) (dk_X4_one 1 _ rfl) (c_X4_next _  ) (fun x1 m2 => ?_)
  show JF _ _ _ _ _ _ [.int x1] _ _
  refine F_istore_n (lv' := [(3, .int x1), (0, .ref 2), (1, .ref a1), (2, .int p2)]) (i := 3) (a := 3) rfl (by decide) rfl (dk_X4_one 4 _ rfl) ?_
  refine F_iload_n (i := 3) (a := 3) rfl rfl (dk_X4_one 5 _ rfl) ?_
  refine F_callS (ι' := uI) (As := [.int x1]) (d' := 2) ok_X4_isLetter st_X4_isLetter cl_4_89 rfl (n := 1) (by decide +kernel) rfl (Nat.le_of_ble_eq_true rfl) (by omega) (dk_X4_one 6 _ rfl) (c_X4_isLetter _ _ ) (fun x4 m5 => ?_)
  show JF _ _ _ _ _ _ [.int x4] _ _
  refine F_if_eq (tgt := 38) (by decide) (dk_X4_one 9 _ rfl) ?_ ?_
  · refine F_iload_n (i := 3) (a := 3) rfl rfl (dk_X4_one 38 _ rfl) ?_
    refine F_bipush (v := 33) (by decide) (dk_X4_one 39 _ rfl) ?_
    refine F_icmp_eq (tgt := 50) (by decide) (dk_X4_one 41 _ rfl) ?_ ?_
    · exact F_loc (List.forall_mem_cons.mpr ⟨(.tail _ (.head _)), (List.forall_mem_cons.mpr ⟨(.tail _ (.tail _ (.head _))), (List.forall_mem_cons.mpr ⟨(.tail _ (.tail _ (.tail _ (.head _)))), (List.forall_mem_cons.mpr ⟨(.head _), (fun _ z => absurd z List.not_mem_nil)⟩)⟩)⟩)⟩) (j_X4_one_50 rc dr hdr hrc   _ _ _ _ (ha1))
    · refine F_iload_n (i := 3) (a := 3) rfl rfl (dk_X4_one 44 _ rfl) ?_
      refine F_bipush (v := 40) (by decide) (dk_X4_one 45 _ rfl) ?_
      refine F_icmp_ne (tgt := 55) (by decide) (dk_X4_one 47 _ rfl) ?_ ?_
      · refine F_aload_n (i := 0) (a := 0) rfl rfl (dk_X4_one 55 _ rfl) ?_
        refine F_iconst (v := 0) (by decide) (dk_X4_one 56 _ rfl) ?_
        refine F_pI (n := 131) fxX_4_3_2 rfl fl_4_24 (fun q hq => by cases hq; rfl) (Or.inl rfl) (dk_X4_one 57 _ rfl) (fun m22 => ?_)
        refine F_goto (tgt := 120) (by decide) (dk_X4_one 60 _ rfl) ?_
        exact F_retV rfl (dk_X4_one 120 _ rfl)
      · exact F_loc (List.forall_mem_cons.mpr ⟨(.tail _ (.head _)), (List.forall_mem_cons.mpr ⟨(.tail _ (.tail _ (.head _))), (List.forall_mem_cons.mpr ⟨(.tail _ (.tail _ (.tail _ (.head _)))), (List.forall_mem_cons.mpr ⟨(.head _), (fun _ z => absurd z List.not_mem_nil)⟩)⟩)⟩)⟩) (j_X4_one_50 rc dr hdr hrc   _ _ _ _ (ha1))
  · refine F_aload_n (i := 0) (a := 0) rfl rfl (dk_X4_one 12 _ rfl) ?_
    refine F_dup rfl (dk_X4_one 13 _ rfl) ?_
    refine F_gI (n := 130) fxX_4_2_2 rfl fl_4_20 (dk_X4_one 14 _ rfl) ?_
    refine F_iconst (v := 1) (by decide) (dk_X4_one 17 _ rfl) ?_
    refine F_iadd (dk_X4_one 18 _ rfl) ?_
    refine F_pI (n := 130) fxX_4_2_2 rfl fl_4_20 (fun q hq => by cases hq; rfl) trivial (dk_X4_one 19 _ rfl) (fun m23 => ?_)
    refine F_aload_n (i := 1) (a := 1) rfl rfl (dk_X4_one 22 _ rfl) ?_
    refine F_iload_n (i := 3) (a := 3) rfl rfl (dk_X4_one 23 _ rfl) ?_
    refine F_aload_n (i := 0) (a := 0) rfl rfl (dk_X4_one 24 _ rfl) ?_
    refine F_callV (ι' := uI) (ci := 4) (b := 2) (As := []) (d' := 3) (rfl) ok_X4_relation vi_X4_relation cl_4_93 (n := 0) (by decide +kernel) rfl rfl rfl (Nat.le_of_ble_eq_true rfl) (by omega) (dk_X4_one 25 _ rfl) (c_X4_relation _  ) (fun x24 m25 => ?_)
    show JF _ _ _ _ _ _ [.int x24, .int x1, .ref a1] _ _
    refine F_aload_n (i := 0) (a := 0) rfl rfl (dk_X4_one 28 _ rfl) ?_
    refine F_callV (ι' := uI) (ci := 4) (b := 2) (As := []) (d' := 3) (rfl) ok_X4_number vi_X4_number cl_4_55 (n := 0) (by decide +kernel) rfl rfl rfl (Nat.le_of_ble_eq_true rfl) (by omega) (dk_X4_one 29 _ rfl) (c_X4_number _  ) (fun x27 m28 => ?_)
    show JF _ _ _ _ _ _ [.int x27, .int x24, .int x1, .ref a1] _ _
    refine F_callV (ι' := uU) (ci := 5) (b := a1) (As := [.int x1, .int x24, .int x27]) (d' := 2) (ha1) ok_X5_addTest vi_X5_addTest cl_4_96 (n := 3) (by decide +kernel) rfl rfl rfl (Nat.le_of_ble_eq_true rfl) (by omega) (dk_X4_one 32 _ rfl) (c_X5_addTest _ _ _ _ _ (ha1)) (fun x30 m31 => ?_)
    show JF _ _ _ _ _ _ [] _ _
    refine F_goto (tgt := 120) (by decide) (dk_X4_one 35 _ rfl) ?_
    exact F_retV rfl (dk_X4_one 120 _ rfl)
def f_X4_one : Nat → mM → Nat → Int32 → fR Unit
  | 0, _, _, _ => none
  | D + 1, m, a1, p2 => fb_X4_one (f_X4_one D) m a1 p2
theorem c_X4_one : ∀ (D : Nat) (m : mM) (a1 : Nat) (p2 : Int32) (ha1 : isC true 5 a1 = true), cF true uU m_X4_one (6 + 2 * D) [.ref 2, .ref a1, .int p2] m (f_X4_one D m a1 p2) := by
  intro D
  induction D with
  | zero => intro m a1 p2 ha1 r h1 he; cases he
  | succ D ih =>
    intro m a1 p2 ha1
    refine cF_of ok_X4_one (fun _ _ => Nat.le_of_ble_eq_true rfl) ?_
    show JF _ _ _ ((6 + 2 * D) + 2) _ _ _ _ _
    exact jb_X4_one (f_X4_one D) (6 + 2 * D) (by omega) ih m a1 p2 ha1
def f_X5_addTake (m : mM) (a0 : Nat) (p1 : Int32) : fR Unit :=
  (if 10 ≤ (mI m (64 * a0 + 3)) then some ((), m) else (sA 0 m (a0 + 4) ((mI m (64 * a0 + 3))) p1).bind fun m1 => (sA 0 m1 (a0 + 5) ((mI m1 (64 * a0 + 3))) ((mI m1 (64 * a0 + 4)))).bind fun m2 => nmM (wI m2 (64 * a0 + 3) (((mI m2 (64 * a0 + 3)) + 1))) fun m3 => some ((), m3))
theorem c_X5_addTake (m : mM) (a0 : Nat) (p1 : Int32) (ha0 : isC true 5 a0 = true) : cF true uU m_X5_addTake 2 [.ref a0, .int p1] m (f_X5_addTake m a0 p1) := by
  refine cF_of ok_X5_addTake (fun _ _ => Nat.le_of_ble_eq_true rfl) ?_
  unfold f_X5_addTake
  show JF _ _ _ _ _ [(0, .ref a0), (1, .int p1)] _ _ _
  refine F_aload_n (i := 0) (a := 0) rfl rfl (dk_X5_addTake 0 _ rfl) ?_
  refine F_gI (n := (64 * a0 + 3)) (lyT_3 ha0) rfl fl_5_40 (dk_X5_addTake 1 _ rfl) ?_
  refine F_bipush (v := 10) (by decide) (dk_X5_addTake 4 _ rfl) ?_
  refine F_icmp_ge (tgt := 42) (by decide) (dk_X5_addTake 6 _ rfl) ?_ ?_
  · exact F_retV rfl (dk_X5_addTake 42 _ rfl)
  · refine F_aload_n (i := 0) (a := 0) rfl rfl (dk_X5_addTake 9 _ rfl) ?_
    refine F_gR (b := (a0 + 4)) (lyT_8 ha0).1 fl_5_21 (dk_X5_addTake 10 _ rfl) ?_
    refine F_aload_n (i := 0) (a := 0) rfl rfl (dk_X5_addTake 13 _ rfl) ?_
    refine F_gI (n := (64 * a0 + 3)) (lyT_3 ha0) rfl fl_5_40 (dk_X5_addTake 14 _ rfl) ?_
    refine F_iload_n (i := 1) (a := 1) rfl rfl (dk_X5_addTake 17 _ rfl) ?_
    refine F_iast ((lyT_8 ha0).2) (dk_X5_addTake 18 _ rfl) (fun m1 => ?_)
    refine F_aload_n (i := 0) (a := 0) rfl rfl (dk_X5_addTake 19 _ rfl) ?_
    refine F_gR (b := (a0 + 5)) (lyT_9 ha0).1 fl_5_24 (dk_X5_addTake 20 _ rfl) ?_
    refine F_aload_n (i := 0) (a := 0) rfl rfl (dk_X5_addTake 23 _ rfl) ?_
    refine F_gI (n := (64 * a0 + 3)) (lyT_3 ha0) rfl fl_5_40 (dk_X5_addTake 24 _ rfl) ?_
    refine F_aload_n (i := 0) (a := 0) rfl rfl (dk_X5_addTake 27 _ rfl) ?_
    refine F_gI (n := (64 * a0 + 4)) (lyT_4 ha0) rfl fl_5_43 (dk_X5_addTake 28 _ rfl) ?_
    refine F_iast ((lyT_9 ha0).2) (dk_X5_addTake 31 _ rfl) (fun m2 => ?_)
    refine F_aload_n (i := 0) (a := 0) rfl rfl (dk_X5_addTake 32 _ rfl) ?_
    refine F_dup rfl (dk_X5_addTake 33 _ rfl) ?_
    refine F_gI (n := (64 * a0 + 3)) (lyT_3 ha0) rfl fl_5_40 (dk_X5_addTake 34 _ rfl) ?_
    refine F_iconst (v := 1) (by decide) (dk_X5_addTake 37 _ rfl) ?_
    refine F_iadd (dk_X5_addTake 38 _ rfl) ?_
    refine F_pI (n := (64 * a0 + 3)) (lyT_3 ha0) rfl fl_5_40 (fun q hq => by cases hq; rfl) trivial (dk_X5_addTake 39 _ rfl) (fun m3 => ?_)
    exact F_retV rfl (dk_X5_addTake 42 _ rfl)
def f_X4_clause (m : mM) (a1 : Nat) : fR Unit :=
  bnd (f_X4_next m ) fun (x1 : Int32) (m2 : mM) => (if x1 = 99 then bnd (f_X4_word m2 6) fun (x5 : Unit) (m6 : mM) => bnd (f_X4_number m6 ) fun (x8 : Int32) (m9 : mM) => nmM (wI m9 (64 * a1 + 1) x8) fun m11 => some ((), m11) else if x1 = 100 then bnd (f_X4_word m2 5) fun (x12 : Unit) (m13 : mM) => bnd (f_X4_number m13 ) fun (x15 : Int32) (m16 : mM) => nmM (wI m16 (64 * a1 + 0) x15) fun m18 => some ((), m18) else if x1 = 102 then bnd (f_X4_word m2 7) fun (x19 : Unit) (m20 : mM) => bnd (f_X4_number m20 ) fun (x22 : Int32) (m23 : mM) => nmM (wI m23 (64 * a1 + 2) x22) fun m25 => some ((), m25) else if x1 = 116 then bnd (f_X4_word m2 3) fun (x26 : Unit) (m27 : mM) => bnd (f_X4_number m27 ) fun (x29 : Int32) (m30 : mM) => bnd (f_X4_word m30 4) fun (x32 : Unit) (m33 : mM) => bnd (f_X4_either (f_X4_one 6) m33 a1 0) fun (x35 : Unit) (m36 : mM) => bnd (f_X5_addTake m36 a1 x29) fun (x38 : Unit) (m39 : mM) => some ((), m39) else nmM (wI m2 131 0) fun m41 => some ((), m41))
theorem c_X4_clause (m : mM) (a1 : Nat) (ha1 : isC true 5 a1 = true) : cF true uU m_X4_clause 20 [.ref 2, .ref a1] m (f_X4_clause m a1) := by
  refine cF_of ok_X4_clause (fun _ _ => Nat.le_of_ble_eq_true rfl) ?_
  unfold f_X4_clause
  show JF _ _ _ _ _ [(0, .ref 2), (1, .ref a1)] _ _ _
  refine F_aload_n (i := 0) (a := 0) rfl rfl (dk_X4_clause 0 _ rfl) ?_
  refine F_callV (ι' := uI) (ci := 4) (b := 2) (As := []) (d' := 2) (rfl) ok_X4_next vi_X4_next cl_4_46 (n := 0) (by decide +kernel) rfl rfl rfl (Nat.le_of_ble_eq_true rfl) (by omega) (dk_X4_clause 1 _ rfl) (c_X4_next _  ) (fun x1 m2 => ?_)
  show JF _ _ _ _ _ _ [.int x1] _ _
  refine F_case (fun c4_0 => ?_) (fun c4_0 => ?_)
  · rw [c4_0]; refine F_look (off := 92) (tgt := 96) (by decide) (by decide) (by decide) (dk_X4_clause 4 _ rfl) ?_
    refine F_aload_n (i := 0) (a := 0) rfl rfl (dk_X4_clause 96 _ rfl) ?_
    refine F_sldc (z := 6) rfl os_6 (dk_X4_clause 97 _ rfl) ?_
    refine F_callV (ι' := uU) (ci := 4) (b := 2) (As := [.retAddr 6]) (d' := 6) (rfl) ok_X4_word vi_X4_word cl_4_37 (n := 1) (by decide +kernel) rfl rfl rfl (Nat.le_of_ble_eq_true rfl) (by omega) (dk_X4_clause 99 _ rfl) (c_X4_word _ _ ) (fun x5 m6 => ?_)
    show JF _ _ _ _ _ _ [] _ _
    refine F_aload_n (i := 1) (a := 1) rfl rfl (dk_X4_clause 102 _ rfl) ?_
    refine F_aload_n (i := 0) (a := 0) rfl rfl (dk_X4_clause 103 _ rfl) ?_
    refine F_callV (ι' := uI) (ci := 4) (b := 2) (As := []) (d' := 3) (rfl) ok_X4_number vi_X4_number cl_4_55 (n := 0) (by decide +kernel) rfl rfl rfl (Nat.le_of_ble_eq_true rfl) (by omega) (dk_X4_clause 104 _ rfl) (c_X4_number _  ) (fun x8 m9 => ?_)
    show JF _ _ _ _ _ _ [.int x8, .ref a1] _ _
    refine F_pI (n := (64 * a1 + 1)) (lyT_1 ha1) rfl fl_4_75 (fun q hq => by cases hq; rfl) trivial (dk_X4_clause 107 _ rfl) (fun m11 => ?_)
    refine F_goto (tgt := 135) (by decide) (dk_X4_clause 110 _ rfl) ?_
    exact F_retV rfl (dk_X4_clause 135 _ rfl)
  refine F_case (fun c4_1 => ?_) (fun c4_1 => ?_)
  · rw [c4_1]; refine F_look (off := 75) (tgt := 79) (by decide) (by decide) (by decide) (dk_X4_clause 4 _ rfl) ?_
    refine F_aload_n (i := 0) (a := 0) rfl rfl (dk_X4_clause 79 _ rfl) ?_
    refine F_sldc (z := 5) rfl os_5 (dk_X4_clause 80 _ rfl) ?_
    refine F_callV (ι' := uU) (ci := 4) (b := 2) (As := [.retAddr 5]) (d' := 6) (rfl) ok_X4_word vi_X4_word cl_4_37 (n := 1) (by decide +kernel) rfl rfl rfl (Nat.le_of_ble_eq_true rfl) (by omega) (dk_X4_clause 82 _ rfl) (c_X4_word _ _ ) (fun x12 m13 => ?_)
    show JF _ _ _ _ _ _ [] _ _
    refine F_aload_n (i := 1) (a := 1) rfl rfl (dk_X4_clause 85 _ rfl) ?_
    refine F_aload_n (i := 0) (a := 0) rfl rfl (dk_X4_clause 86 _ rfl) ?_
    refine F_callV (ι' := uI) (ci := 4) (b := 2) (As := []) (d' := 3) (rfl) ok_X4_number vi_X4_number cl_4_55 (n := 0) (by decide +kernel) rfl rfl rfl (Nat.le_of_ble_eq_true rfl) (by omega) (dk_X4_clause 87 _ rfl) (c_X4_number _  ) (fun x15 m16 => ?_)
    show JF _ _ _ _ _ _ [.int x15, .ref a1] _ _
    refine F_pI (n := (64 * a1 + 0)) (lyT_0 ha1) rfl fl_4_70 (fun q hq => by cases hq; rfl) trivial (dk_X4_clause 90 _ rfl) (fun m18 => ?_)
    refine F_goto (tgt := 135) (by decide) (dk_X4_clause 93 _ rfl) ?_
    exact F_retV rfl (dk_X4_clause 135 _ rfl)
  refine F_case (fun c4_2 => ?_) (fun c4_2 => ?_)
  · rw [c4_2]; refine F_look (off := 109) (tgt := 113) (by decide) (by decide) (by decide) (dk_X4_clause 4 _ rfl) ?_
    refine F_aload_n (i := 0) (a := 0) rfl rfl (dk_X4_clause 113 _ rfl) ?_
    refine F_sldc (z := 7) rfl os_7 (dk_X4_clause 114 _ rfl) ?_
    refine F_callV (ι' := uU) (ci := 4) (b := 2) (As := [.retAddr 7]) (d' := 6) (rfl) ok_X4_word vi_X4_word cl_4_37 (n := 1) (by decide +kernel) rfl rfl rfl (Nat.le_of_ble_eq_true rfl) (by omega) (dk_X4_clause 116 _ rfl) (c_X4_word _ _ ) (fun x19 m20 => ?_)
    show JF _ _ _ _ _ _ [] _ _
    refine F_aload_n (i := 1) (a := 1) rfl rfl (dk_X4_clause 119 _ rfl) ?_
    refine F_aload_n (i := 0) (a := 0) rfl rfl (dk_X4_clause 120 _ rfl) ?_
    refine F_callV (ι' := uI) (ci := 4) (b := 2) (As := []) (d' := 3) (rfl) ok_X4_number vi_X4_number cl_4_55 (n := 0) (by decide +kernel) rfl rfl rfl (Nat.le_of_ble_eq_true rfl) (by omega) (dk_X4_clause 121 _ rfl) (c_X4_number _  ) (fun x22 m23 => ?_)
    show JF _ _ _ _ _ _ [.int x22, .ref a1] _ _
    refine F_pI (n := (64 * a1 + 2)) (lyT_2 ha1) rfl fl_4_80 (fun q hq => by cases hq; rfl) trivial (dk_X4_clause 124 _ rfl) (fun m25 => ?_)
    refine F_goto (tgt := 135) (by decide) (dk_X4_clause 127 _ rfl) ?_
    exact F_retV rfl (dk_X4_clause 135 _ rfl)
  refine F_case (fun c4_3 => ?_) (fun c4_3 => ?_)
  · rw [c4_3]; refine F_look (off := 44) (tgt := 48) (by decide) (by decide) (by decide) (dk_X4_clause 4 _ rfl) ?_
    refine F_aload_n (i := 0) (a := 0) rfl rfl (dk_X4_clause 48 _ rfl) ?_
    refine F_sldc (z := 3) rfl os_3 (dk_X4_clause 49 _ rfl) ?_
    refine F_callV (ι' := uU) (ci := 4) (b := 2) (As := [.retAddr 3]) (d' := 6) (rfl) ok_X4_word vi_X4_word cl_4_37 (n := 1) (by decide +kernel) rfl rfl rfl (Nat.le_of_ble_eq_true rfl) (by omega) (dk_X4_clause 51 _ rfl) (c_X4_word _ _ ) (fun x26 m27 => ?_)
    show JF _ _ _ _ _ _ [] _ _
    refine F_aload_n (i := 0) (a := 0) rfl rfl (dk_X4_clause 54 _ rfl) ?_
    refine F_callV (ι' := uI) (ci := 4) (b := 2) (As := []) (d' := 3) (rfl) ok_X4_number vi_X4_number cl_4_55 (n := 0) (by decide +kernel) rfl rfl rfl (Nat.le_of_ble_eq_true rfl) (by omega) (dk_X4_clause 55 _ rfl) (c_X4_number _  ) (fun x29 m30 => ?_)
    show JF _ _ _ _ _ _ [.int x29] _ _
    refine F_istore_n (lv' := [(2, .int x29), (0, .ref 2), (1, .ref a1)]) (i := 2) (a := 2) rfl (by decide) rfl (dk_X4_clause 58 _ rfl) ?_
    refine F_aload_n (i := 0) (a := 0) rfl rfl (dk_X4_clause 59 _ rfl) ?_
    refine F_sldc (z := 4) rfl os_4 (dk_X4_clause 60 _ rfl) ?_
    refine F_callV (ι' := uU) (ci := 4) (b := 2) (As := [.retAddr 4]) (d' := 6) (rfl) ok_X4_word vi_X4_word cl_4_37 (n := 1) (by decide +kernel) rfl rfl rfl (Nat.le_of_ble_eq_true rfl) (by omega) (dk_X4_clause 62 _ rfl) (c_X4_word _ _ ) (fun x32 m33 => ?_)
    show JF _ _ _ _ _ _ [] _ _
    refine F_aload_n (i := 0) (a := 0) rfl rfl (dk_X4_clause 65 _ rfl) ?_
    refine F_aload_n (i := 1) (a := 1) rfl rfl (dk_X4_clause 66 _ rfl) ?_
    refine F_iconst (v := 0) (by decide) (dk_X4_clause 67 _ rfl) ?_
    refine F_callV (ι' := uU) (ci := 4) (b := 2) (As := [.ref a1, .int 0]) (d' := 19) (rfl) ok_X4_either vi_X4_either cl_4_60 (n := 2) (by decide +kernel) rfl rfl rfl (Nat.le_of_ble_eq_true rfl) (by omega) (dk_X4_clause 68 _ rfl) (c_X4_either (f_X4_one 6) 18 (by omega) (fun m b x hb => c_X4_one 6 m b x hb) _ _ _ (ha1)) (fun x35 m36 => ?_)
    show JF _ _ _ _ _ _ [] _ _
    refine F_aload_n (i := 1) (a := 1) rfl rfl (dk_X4_clause 71 _ rfl) ?_
    refine F_iload_n (i := 2) (a := 2) rfl rfl (dk_X4_clause 72 _ rfl) ?_
    refine F_callV (ι' := uU) (ci := 5) (b := a1) (As := [.int x29]) (d' := 2) (ha1) ok_X5_addTake vi_X5_addTake cl_4_64 (n := 1) (by decide +kernel) rfl rfl rfl (Nat.le_of_ble_eq_true rfl) (by omega) (dk_X4_clause 73 _ rfl) (c_X5_addTake _ _ _ (ha1)) (fun x38 m39 => ?_)
    show JF _ _ _ _ _ _ [] _ _
    refine F_goto (tgt := 135) (by decide) (dk_X4_clause 76 _ rfl) ?_
    exact F_retV rfl (dk_X4_clause 135 _ rfl)
  refine F_look (off := 126) (tgt := 130) (by decide) (by have q0 := fI_ne c4_0; rw [show (99 : Int32).toInt = 99 from by decide] at q0; have q1 := fI_ne c4_1; rw [show (100 : Int32).toInt = 100 from by decide] at q1; have q2 := fI_ne c4_2; rw [show (102 : Int32).toInt = 102 from by decide] at q2; have q3 := fI_ne c4_3; rw [show (116 : Int32).toInt = 116 from by decide] at q3; simp [Op.lookupswitch.offset, q0, Ne.symm q0, q1, Ne.symm q1, q2, Ne.symm q2, q3, Ne.symm q3]) (by decide) (dk_X4_clause 4 _ rfl) ?_
  refine F_aload_n (i := 0) (a := 0) rfl rfl (dk_X4_clause 130 _ rfl) ?_
  refine F_iconst (v := 0) (by decide) (dk_X4_clause 131 _ rfl) ?_
  refine F_pI (n := 131) fxX_4_3_2 rfl fl_4_24 (fun q hq => by cases hq; rfl) (Or.inl rfl) (dk_X4_clause 132 _ rfl) (fun m41 => ?_)
  exact F_retV rfl (dk_X4_clause 135 _ rfl)
def f_X5_clear (m : mM) (a0 : Nat) : fR Unit :=
  nmM (wI m (64 * a0 + 0) 10) fun m1 => nmM (wI m1 (64 * a0 + 1) 1) fun m2 => nmM (wI m2 (64 * a0 + 2) 99) fun m3 => nmM (wI m3 (64 * a0 + 3) 0) fun m4 => nmM (wI m4 (64 * a0 + 4) 0) fun m5 => some ((), m5)
theorem c_X5_clear (m : mM) (a0 : Nat) (ha0 : isC true 5 a0 = true) : cF true uU m_X5_clear 2 [.ref a0] m (f_X5_clear m a0) := by
  refine cF_of ok_X5_clear (fun _ _ => Nat.le_of_ble_eq_true rfl) ?_
  unfold f_X5_clear
  show JF _ _ _ _ _ [(0, .ref a0)] _ _ _
  refine F_aload_n (i := 0) (a := 0) rfl rfl (dk_X5_clear 0 _ rfl) ?_
  refine F_bipush (v := 10) (by decide) (dk_X5_clear 1 _ rfl) ?_
  refine F_pI (n := (64 * a0 + 0)) (lyT_0 ha0) rfl fl_5_30 (fun q hq => by cases hq; rfl) trivial (dk_X5_clear 3 _ rfl) (fun m1 => ?_)
  refine F_aload_n (i := 0) (a := 0) rfl rfl (dk_X5_clear 6 _ rfl) ?_
  refine F_iconst (v := 1) (by decide) (dk_X5_clear 7 _ rfl) ?_
  refine F_pI (n := (64 * a0 + 1)) (lyT_1 ha0) rfl fl_5_34 (fun q hq => by cases hq; rfl) trivial (dk_X5_clear 8 _ rfl) (fun m2 => ?_)
  refine F_aload_n (i := 0) (a := 0) rfl rfl (dk_X5_clear 11 _ rfl) ?_
  refine F_bipush (v := 99) (by decide) (dk_X5_clear 12 _ rfl) ?_
  refine F_pI (n := (64 * a0 + 2)) (lyT_2 ha0) rfl fl_5_37 (fun q hq => by cases hq; rfl) trivial (dk_X5_clear 14 _ rfl) (fun m3 => ?_)
  refine F_aload_n (i := 0) (a := 0) rfl rfl (dk_X5_clear 17 _ rfl) ?_
  refine F_iconst (v := 0) (by decide) (dk_X5_clear 18 _ rfl) ?_
  refine F_pI (n := (64 * a0 + 3)) (lyT_3 ha0) rfl fl_5_40 (fun q hq => by cases hq; rfl) trivial (dk_X5_clear 19 _ rfl) (fun m4 => ?_)
  refine F_aload_n (i := 0) (a := 0) rfl rfl (dk_X5_clear 22 _ rfl) ?_
  refine F_iconst (v := 0) (by decide) (dk_X5_clear 23 _ rfl) ?_
  refine F_pI (n := (64 * a0 + 4)) (lyT_4 ha0) rfl fl_5_43 (fun q hq => by cases hq; rfl) trivial (dk_X5_clear 24 _ rfl) (fun m5 => ?_)
  exact F_retV rfl (dk_X5_clear 27 _ rfl)
def f_X4_parse_62  (m : mM)  : fR Int32 :=
  (if (mI m 131) = 0 then some (0, m) else (if (mI m 130) = (mI m 129) then some (1, m) else some (0, m)))
theorem j_X4_parse_62   (m : mM)   : JF true uI m_X4_parse 21 62 [(0, .ref 2)] [] m (f_X4_parse_62  m ) := by
  unfold f_X4_parse_62
  refine F_aload_n (i := 0) (a := 0) rfl rfl (dk_X4_parse 62 _ rfl) ?_
  refine F_gI (n := 131) fxX_4_3_2 rfl fl_4_24 (dk_X4_parse 63 _ rfl) ?_
  refine F_if_eq (tgt := 84) (by decide) (dk_X4_parse 66 _ rfl) ?_ ?_
  · refine F_iconst (v := 0) (by decide) (dk_X4_parse 84 _ rfl) ?_
    exact F_retB rfl (Or.inl rfl) (dk_X4_parse 85 _ rfl)
  · refine F_aload_n (i := 0) (a := 0) rfl rfl (dk_X4_parse 69 _ rfl) ?_
    refine F_gI (n := 130) fxX_4_2_2 rfl fl_4_20 (dk_X4_parse 70 _ rfl) ?_
    refine F_aload_n (i := 0) (a := 0) rfl rfl (dk_X4_parse 73 _ rfl) ?_
    refine F_gI (n := 129) fxX_4_1_2 rfl fl_4_32 (dk_X4_parse 74 _ rfl) ?_
    refine F_icmp_ne (tgt := 84) (by decide) (dk_X4_parse 77 _ rfl) ?_ ?_
    · refine F_iconst (v := 0) (by decide) (dk_X4_parse 84 _ rfl) ?_
      exact F_retB rfl (Or.inl rfl) (dk_X4_parse 85 _ rfl)
    · refine F_iconst (v := 1) (by decide) (dk_X4_parse 80 _ rfl) ?_
      refine F_goto (tgt := 85) (by decide) (dk_X4_parse 81 _ rfl) ?_
      exact F_retB rfl (Or.inr rfl) (dk_X4_parse 85 _ rfl)
def fb_X4_parse_21 (K21 : mM → Nat → Int32 → fR Int32) (m : mM) (y1 : Nat) (y2 : Int32) : fR Int32 :=
  (if 10 ≤ y2 then (f_X4_parse_62  m ) else (if (mI m 131) = 0 then (f_X4_parse_62  m ) else (if (mI m 129) ≤ (mI m 130) then (f_X4_parse_62  m ) else bnd (f_X4_word m 2) fun (x9 : Unit) (m10 : mM) => bnd (f_X4_clause m10 y1) fun (x12 : Unit) (m13 : mM) => (K21 m13 y1 (y2 + 1)))))
def f_X4_parse_21  : Nat → mM → Nat → Int32 → fR Int32
  | 0, _, _, _ => none
  | F + 1, m, y1, y2 => fb_X4_parse_21  (f_X4_parse_21  F) m y1 y2
theorem jb_X4_parse_21 (K21 : mM → Nat → Int32 → fR Int32) (hK21 : ∀ (m : mM) (y1 : Nat) (y2 : Int32) (hy1 : isC true 5 y1 = true), JF true uI m_X4_parse 21 21 [(0, .ref 2), (1, .ref y1), (2, .int y2)] [] m (K21 m y1 y2)) (m : mM) (y1 : Nat) (y2 : Int32) (hy1 : isC true 5 y1 = true) : JF true uI m_X4_parse 21 21 [(0, .ref 2), (1, .ref y1), (2, .int y2)] [] m (fb_X4_parse_21 K21 m y1 y2) := by
  unfold fb_X4_parse_21
  refine F_iload_n (i := 2) (a := 2) rfl rfl (dk_X4_parse 21 _ rfl) ?_
  refine F_bipush (v := 10) (by decide) (dk_X4_parse 22 _ rfl) ?_
  refine F_icmp_ge (tgt := 62) (by decide) (dk_X4_parse 24 _ rfl) ?_ ?_
  · exact F_loc (List.forall_mem_cons.mpr ⟨(.head _), (fun _ z => absurd z List.not_mem_nil)⟩) (j_X4_parse_62   _  )
  · refine F_aload_n (i := 0) (a := 0) rfl rfl (dk_X4_parse 27 _ rfl) ?_
    refine F_gI (n := 131) fxX_4_3_2 rfl fl_4_24 (dk_X4_parse 28 _ rfl) ?_
    refine F_if_eq (tgt := 62) (by decide) (dk_X4_parse 31 _ rfl) ?_ ?_
    · exact F_loc (List.forall_mem_cons.mpr ⟨(.head _), (fun _ z => absurd z List.not_mem_nil)⟩) (j_X4_parse_62   _  )
    · refine F_aload_n (i := 0) (a := 0) rfl rfl (dk_X4_parse 34 _ rfl) ?_
      refine F_gI (n := 130) fxX_4_2_2 rfl fl_4_20 (dk_X4_parse 35 _ rfl) ?_
      refine F_aload_n (i := 0) (a := 0) rfl rfl (dk_X4_parse 38 _ rfl) ?_
      refine F_gI (n := 129) fxX_4_1_2 rfl fl_4_32 (dk_X4_parse 39 _ rfl) ?_
      refine F_icmp_ge (tgt := 62) (by decide) (dk_X4_parse 42 _ rfl) ?_ ?_
      · exact F_loc (List.forall_mem_cons.mpr ⟨(.head _), (fun _ z => absurd z List.not_mem_nil)⟩) (j_X4_parse_62   _  )
      · refine F_aload_n (i := 0) (a := 0) rfl rfl (dk_X4_parse 45 _ rfl) ?_
        refine F_sldc (z := 2) rfl os_2 (dk_X4_parse 46 _ rfl) ?_
        refine F_callV (ι' := uU) (ci := 4) (b := 2) (As := [.retAddr 2]) (d' := 6) (rfl) ok_X4_word vi_X4_word cl_4_37 (n := 1) (by decide +kernel) rfl rfl rfl (Nat.le_of_ble_eq_true rfl) (by omega) (dk_X4_parse 48 _ rfl) (c_X4_word _ _ ) (fun x9 m10 => ?_)
        show JF _ _ _ _ _ _ [] _ _
        refine F_aload_n (i := 0) (a := 0) rfl rfl (dk_X4_parse 51 _ rfl) ?_
        refine F_aload_n (i := 1) (a := 1) rfl rfl (dk_X4_parse 52 _ rfl) ?_
        refine F_callV (ι' := uU) (ci := 4) (b := 2) (As := [.ref y1]) (d' := 20) (rfl) ok_X4_clause vi_X4_clause cl_4_28 (n := 1) (by decide +kernel) rfl rfl rfl (Nat.le_of_ble_eq_true rfl) (by omega) (dk_X4_parse 53 _ rfl) (c_X4_clause _ _ (hy1)) (fun x12 m13 => ?_)
        show JF _ _ _ _ _ _ [] _ _
        refine F_iinc (i := 2) (n := 1) (v := (y2 + 1)) (lv' := [(2, .int (y2 + 1)), (0, .ref 2), (1, .ref y1)]) rfl (by first | rfl | decide) (by decide) rfl (dk_X4_parse 56 _ rfl) ?_
        refine F_goto (tgt := 21) (by decide) (dk_X4_parse 59 _ rfl) ?_
        exact F_loc (List.forall_mem_cons.mpr ⟨(.tail _ (.head _)), (List.forall_mem_cons.mpr ⟨(.tail _ (.tail _ (.head _))), (List.forall_mem_cons.mpr ⟨(.head _), (fun _ z => absurd z List.not_mem_nil)⟩)⟩)⟩) (hK21 _ _ _ (hy1))
theorem j_X4_parse_21   : ∀ (F : Nat) (m : mM) (y1 : Nat) (y2 : Int32) (hy1 : isC true 5 y1 = true), JF true uI m_X4_parse 21 21 [(0, .ref 2), (1, .ref y1), (2, .int y2)] [] m (f_X4_parse_21  F m y1 y2) := by
  intro F
  induction F with
  | zero => intro m y1 y2 hy1; exact F_no
  | succ F ih => intro m y1 y2 hy1; exact jb_X4_parse_21  (f_X4_parse_21  F)  ih m y1 y2 hy1
def f_X4_parse (m : mM) (a1 : Nat) : fR Int32 :=
  bnd (f_X5_clear m a1) fun (x1 : Unit) (m2 : mM) => nmM (wI m2 130 0) fun m4 => nmM (wI m4 131 1) fun m5 => bnd (f_X4_clause m5 a1) fun (x6 : Unit) (m7 : mM) => (f_X4_parse_21  1000 m7 a1 1)
theorem c_X4_parse (m : mM) (a1 : Nat) (ha1 : isC true 5 a1 = true) : cF true uI m_X4_parse 21 [.ref 2, .ref a1] m (f_X4_parse m a1) := by
  refine cF_of ok_X4_parse (fun _ _ => Nat.le_of_ble_eq_true rfl) ?_
  unfold f_X4_parse
  show JF _ _ _ _ _ [(0, .ref 2), (1, .ref a1)] _ _ _
  refine F_aload_n (i := 1) (a := 1) rfl rfl (dk_X4_parse 0 _ rfl) ?_
  refine F_callV (ι' := uU) (ci := 5) (b := a1) (As := []) (d' := 2) (ha1) ok_X5_clear vi_X5_clear cl_4_15 (n := 0) (by decide +kernel) rfl rfl rfl (Nat.le_of_ble_eq_true rfl) (by omega) (dk_X4_parse 1 _ rfl) (c_X5_clear _ _ (ha1)) (fun x1 m2 => ?_)
  show JF _ _ _ _ _ _ [] _ _
  refine F_aload_n (i := 0) (a := 0) rfl rfl (dk_X4_parse 4 _ rfl) ?_
  refine F_iconst (v := 0) (by decide) (dk_X4_parse 5 _ rfl) ?_
  refine F_pI (n := 130) fxX_4_2_2 rfl fl_4_20 (fun q hq => by cases hq; rfl) trivial (dk_X4_parse 6 _ rfl) (fun m4 => ?_)
  refine F_aload_n (i := 0) (a := 0) rfl rfl (dk_X4_parse 9 _ rfl) ?_
  refine F_iconst (v := 1) (by decide) (dk_X4_parse 10 _ rfl) ?_
  refine F_pI (n := 131) fxX_4_3_2 rfl fl_4_24 (fun q hq => by cases hq; rfl) (Or.inr rfl) (dk_X4_parse 11 _ rfl) (fun m5 => ?_)
  refine F_aload_n (i := 0) (a := 0) rfl rfl (dk_X4_parse 14 _ rfl) ?_
  refine F_aload_n (i := 1) (a := 1) rfl rfl (dk_X4_parse 15 _ rfl) ?_
  refine F_callV (ι' := uU) (ci := 4) (b := 2) (As := [.ref a1]) (d' := 20) (rfl) ok_X4_clause vi_X4_clause cl_4_28 (n := 1) (by decide +kernel) rfl rfl rfl (Nat.le_of_ble_eq_true rfl) (by omega) (dk_X4_parse 16 _ rfl) (c_X4_clause _ _ (ha1)) (fun x6 m7 => ?_)
  show JF _ _ _ _ _ _ [] _ _
  refine F_iconst (v := 1) (by decide) (dk_X4_parse 19 _ rfl) ?_
  refine F_istore_n (lv' := [(2, .int 1), (0, .ref 2), (1, .ref a1)]) (i := 2) (a := 2) rfl (by decide) rfl (dk_X4_parse 20 _ rfl) ?_
  exact F_loc (List.forall_mem_cons.mpr ⟨(.tail _ (.head _)), (List.forall_mem_cons.mpr ⟨(.tail _ (.tail _ (.head _))), (List.forall_mem_cons.mpr ⟨(.head _), (fun _ z => absurd z List.not_mem_nil)⟩)⟩)⟩) (j_X4_parse_21   1000 _ _ _ (ha1))
def f_X6_isDay (m : mM) (p0 : Int32) : fR Int32 :=
  (if p0 < 0 then some (0, m) else (if 12 ≤ p0 then some (0, m) else some (1, m)))
theorem c_X6_isDay (m : mM) (p0 : Int32)  : cF true uI m_X6_isDay 2 [.int p0] m (f_X6_isDay m p0) := by
  refine cF_of ok_X6_isDay (fun _ _ => Nat.le_of_ble_eq_true rfl) ?_
  unfold f_X6_isDay
  show JF _ _ _ _ _ [(0, .int p0)] _ _ _
  refine F_iload_n (i := 0) (a := 0) rfl rfl (dk_X6_isDay 0 _ rfl) ?_
  refine F_if_lt (tgt := 14) (by decide) (dk_X6_isDay 1 _ rfl) ?_ ?_
  · refine F_iconst (v := 0) (by decide) (dk_X6_isDay 14 _ rfl) ?_
    exact F_retB rfl (Or.inl rfl) (dk_X6_isDay 15 _ rfl)
  · refine F_iload_n (i := 0) (a := 0) rfl rfl (dk_X6_isDay 4 _ rfl) ?_
    refine F_bipush (v := 12) (by decide) (dk_X6_isDay 5 _ rfl) ?_
    refine F_icmp_ge (tgt := 14) (by decide) (dk_X6_isDay 7 _ rfl) ?_ ?_
    · refine F_iconst (v := 0) (by decide) (dk_X6_isDay 14 _ rfl) ?_
      exact F_retB rfl (Or.inl rfl) (dk_X6_isDay 15 _ rfl)
    · refine F_iconst (v := 1) (by decide) (dk_X6_isDay 10 _ rfl) ?_
      refine F_goto (tgt := 15) (by decide) (dk_X6_isDay 11 _ rfl) ?_
      exact F_retB rfl (Or.inr rfl) (dk_X6_isDay 15 _ rfl)
def f_X6_person (m : mM) (p1 : Int32) (p2 : Int32) (p3 : Int32) (p4 : Int32) : fR Int32 :=
  (if p1 < 0 then some ((-1), m) else (if p1 < 7 then (if p2 < 0 then some ((-2), m) else (if 10 ≤ p2 then some ((-2), m) else bnd (f_X6_isDay m p3) fun (x1 : Int32) (m2 : mM) => (if x1 = 0 then some ((-2), m2) else bnd (f_X6_isDay m2 p4) fun (x4 : Int32) (m5 : mM) => (if x4 = 0 then some ((-2), m5) else (if (mI m5 896) < 7 then bnd (f_X2_add m5 14 p1 p2 p3 p4) fun (x7 : Unit) (m8 : mM) => some (((mI m8 896) - 1), m8) else some ((-4), m5)))))) else some ((-1), m)))
theorem c_X6_person (m : mM) (p1 : Int32) (p2 : Int32) (p3 : Int32) (p4 : Int32)  : cF true uI m_X6_person 3 [.ref 0, .int p1, .int p2, .int p3, .int p4] m (f_X6_person m p1 p2 p3 p4) := by
  refine cF_of ok_X6_person (fun _ _ => Nat.le_of_ble_eq_true rfl) ?_
  unfold f_X6_person
  show JF _ _ _ _ _ [(0, .ref 0), (1, .int p1), (2, .int p2), (3, .int p3), (4, .int p4)] _ _ _
  refine F_iload_n (i := 1) (a := 1) rfl rfl (dk_X6_person 0 _ rfl) ?_
  refine F_if_lt (tgt := 10) (by decide) (dk_X6_person 1 _ rfl) ?_ ?_
  · refine F_iconst (v := (-1)) (by decide) (dk_X6_person 10 _ rfl) ?_
    exact F_ret rfl (dk_X6_person 11 _ rfl)
  · refine F_iload_n (i := 1) (a := 1) rfl rfl (dk_X6_person 4 _ rfl) ?_
    refine F_bipush (v := 7) (by decide) (dk_X6_person 5 _ rfl) ?_
    refine F_icmp_lt (tgt := 12) (by decide) (dk_X6_person 7 _ rfl) ?_ ?_
    · refine F_iload_n (i := 2) (a := 2) rfl rfl (dk_X6_person 12 _ rfl) ?_
      refine F_if_lt (tgt := 37) (by decide) (dk_X6_person 13 _ rfl) ?_ ?_
      · refine F_bipush (v := (-2)) (by decide) (dk_X6_person 37 _ rfl) ?_
        exact F_ret rfl (dk_X6_person 39 _ rfl)
      · refine F_iload_n (i := 2) (a := 2) rfl rfl (dk_X6_person 16 _ rfl) ?_
        refine F_bipush (v := 10) (by decide) (dk_X6_person 17 _ rfl) ?_
        refine F_icmp_ge (tgt := 37) (by decide) (dk_X6_person 19 _ rfl) ?_ ?_
        · refine F_bipush (v := (-2)) (by decide) (dk_X6_person 37 _ rfl) ?_
          exact F_ret rfl (dk_X6_person 39 _ rfl)
        · refine F_iload_n (i := 3) (a := 3) rfl rfl (dk_X6_person 22 _ rfl) ?_
          refine F_callS (ι' := uI) (As := [.int p3]) (d' := 2) ok_X6_isDay st_X6_isDay cl_6_67 rfl (n := 1) (by decide +kernel) rfl (Nat.le_of_ble_eq_true rfl) (by omega) (dk_X6_person 23 _ rfl) (c_X6_isDay _ _ ) (fun x1 m2 => ?_)
          show JF _ _ _ _ _ _ [.int x1] _ _
          refine F_if_eq (tgt := 37) (by decide) (dk_X6_person 26 _ rfl) ?_ ?_
          · refine F_bipush (v := (-2)) (by decide) (dk_X6_person 37 _ rfl) ?_
            exact F_ret rfl (dk_X6_person 39 _ rfl)
          · refine F_iload (i := 4) rfl (dk_X6_person 29 _ rfl) ?_
            refine F_callS (ι' := uI) (As := [.int p4]) (d' := 2) ok_X6_isDay st_X6_isDay cl_6_67 rfl (n := 1) (by decide +kernel) rfl (Nat.le_of_ble_eq_true rfl) (by omega) (dk_X6_person 31 _ rfl) (c_X6_isDay _ _ ) (fun x4 m5 => ?_)
            show JF _ _ _ _ _ _ [.int x4] _ _
            refine F_if_ne (tgt := 40) (by decide) (dk_X6_person 34 _ rfl) ?_ ?_
            · refine F_aload_n (i := 0) (a := 0) rfl rfl (dk_X6_person 40 _ rfl) ?_
              refine F_gR (b := 14) fxX_6_0_0 fl_6_47 (dk_X6_person 41 _ rfl) ?_
              refine F_gI (n := 896) fxX_2_0_14 rfl fl_6_71 (dk_X6_person 44 _ rfl) ?_
              refine F_bipush (v := 7) (by decide) (dk_X6_person 47 _ rfl) ?_
              refine F_icmp_lt (tgt := 55) (by decide) (dk_X6_person 49 _ rfl) ?_ ?_
              · refine F_aload_n (i := 0) (a := 0) rfl rfl (dk_X6_person 55 _ rfl) ?_
                refine F_gR (b := 14) fxX_6_0_0 fl_6_47 (dk_X6_person 56 _ rfl) ?_
                refine F_iload_n (i := 1) (a := 1) rfl rfl (dk_X6_person 59 _ rfl) ?_
                refine F_iload_n (i := 2) (a := 2) rfl rfl (dk_X6_person 60 _ rfl) ?_
                refine F_iload_n (i := 3) (a := 3) rfl rfl (dk_X6_person 61 _ rfl) ?_
                refine F_iload (i := 4) rfl (dk_X6_person 62 _ rfl) ?_
                refine F_callV (ι' := uU) (ci := 2) (b := 14) (As := [.int p1, .int p2, .int p3, .int p4]) (d' := 2) (rfl) ok_X2_add vi_X2_add cl_6_75 (n := 4) (by decide +kernel) rfl rfl rfl (Nat.le_of_ble_eq_true rfl) (by omega) (dk_X6_person 64 _ rfl) (c_X2_add _ _ _ _ _ _ (rfl)) (fun x7 m8 => ?_)
                show JF _ _ _ _ _ _ [] _ _
                refine F_aload_n (i := 0) (a := 0) rfl rfl (dk_X6_person 67 _ rfl) ?_
                refine F_gR (b := 14) fxX_6_0_0 fl_6_47 (dk_X6_person 68 _ rfl) ?_
                refine F_gI (n := 896) fxX_2_0_14 rfl fl_6_71 (dk_X6_person 71 _ rfl) ?_
                refine F_iconst (v := 1) (by decide) (dk_X6_person 74 _ rfl) ?_
                refine F_isub (dk_X6_person 75 _ rfl) ?_
                exact F_ret rfl (dk_X6_person 76 _ rfl)
              · refine F_bipush (v := (-4)) (by decide) (dk_X6_person 52 _ rfl) ?_
                exact F_ret rfl (dk_X6_person 54 _ rfl)
            · refine F_bipush (v := (-2)) (by decide) (dk_X6_person 37 _ rfl) ?_
              exact F_ret rfl (dk_X6_person 39 _ rfl)
    · refine F_iconst (v := (-1)) (by decide) (dk_X6_person 10 _ rfl) ?_
      exact F_ret rfl (dk_X6_person 11 _ rfl)
def f_X6_isPerson (m : mM) (p1 : Int32) : fR Int32 :=
  (if p1 < 0 then some (0, m) else (if (mI m 896) ≤ p1 then some (0, m) else some (1, m)))
theorem c_X6_isPerson (m : mM) (p1 : Int32)  : cF true uI m_X6_isPerson 2 [.ref 0, .int p1] m (f_X6_isPerson m p1) := by
  refine cF_of ok_X6_isPerson (fun _ _ => Nat.le_of_ble_eq_true rfl) ?_
  unfold f_X6_isPerson
  show JF _ _ _ _ _ [(0, .ref 0), (1, .int p1)] _ _ _
  refine F_iload_n (i := 1) (a := 1) rfl rfl (dk_X6_isPerson 0 _ rfl) ?_
  refine F_if_lt (tgt := 19) (by decide) (dk_X6_isPerson 1 _ rfl) ?_ ?_
  · refine F_iconst (v := 0) (by decide) (dk_X6_isPerson 19 _ rfl) ?_
    exact F_retB rfl (Or.inl rfl) (dk_X6_isPerson 20 _ rfl)
  · refine F_iload_n (i := 1) (a := 1) rfl rfl (dk_X6_isPerson 4 _ rfl) ?_
    refine F_aload_n (i := 0) (a := 0) rfl rfl (dk_X6_isPerson 5 _ rfl) ?_
    refine F_gR (b := 14) fxX_6_0_0 fl_6_47 (dk_X6_isPerson 6 _ rfl) ?_
    refine F_gI (n := 896) fxX_2_0_14 rfl fl_6_71 (dk_X6_isPerson 9 _ rfl) ?_
    refine F_icmp_ge (tgt := 19) (by decide) (dk_X6_isPerson 12 _ rfl) ?_ ?_
    · refine F_iconst (v := 0) (by decide) (dk_X6_isPerson 19 _ rfl) ?_
      exact F_retB rfl (Or.inl rfl) (dk_X6_isPerson 20 _ rfl)
    · refine F_iconst (v := 1) (by decide) (dk_X6_isPerson 15 _ rfl) ?_
      refine F_goto (tgt := 20) (by decide) (dk_X6_isPerson 16 _ rfl) ?_
      exact F_retB rfl (Or.inr rfl) (dk_X6_isPerson 20 _ rfl)
def f_X6_of (m : mM) (p1 : Int32) (p2 : Int32) : fR Int32 :=
  bnd (f_X6_isPerson m p1) fun (x1 : Int32) (m2 : mM) => (if x1 = 0 then some ((-10000001), m2) else chR true 5 (mR m2 900) fun r4 => bnd (f_X1_start m2 14 ((mI m2 (64 * r4 + 0)))) fun (x5 : Unit) (m6 : mM) => (gA (mA m6 44) p1).bind fun x8 => (if p2 = 0 then (gA (mA m6 15) p1).bind fun x10 => some (x10, m6) else if p2 = 1 then (gA (mA m6 16) p1).bind fun x11 => some (x11, m6) else if p2 = 2 then (gA (mA m6 17) p1).bind fun x12 => some (x12, m6) else if p2 = 3 then (gA (mA m6 18) p1).bind fun x13 => some (x13, m6) else if p2 = 4 then (gA (mA m6 20) p1).bind fun x14 => (if x14 = 0 then some (0, m6) else some (1, m6)) else if p2 = 5 then some (x8, m6) else if p2 = 6 then bnd (f_X1_putOff m6 p1) fun (x15 : Int32) (m16 : mM) => some (x15, m16) else if p2 = 7 then bnd (f_X1_takes m6 p1 x8) fun (x18 : Int32) (m19 : mM) => some (x18, m19) else if p2 = 8 then (gA (mA m6 19) p1).bind fun x21 => some (x21, m6) else some ((-10000001), m6)))
theorem c_X6_of (m : mM) (p1 : Int32) (p2 : Int32)  : cF true uI m_X6_of 6 [.ref 0, .int p1, .int p2] m (f_X6_of m p1 p2) := by
  refine cF_of ok_X6_of (fun _ _ => Nat.le_of_ble_eq_true rfl) ?_
  unfold f_X6_of
  show JF _ _ _ _ _ [(0, .ref 0), (1, .int p1), (2, .int p2)] _ _ _
  refine F_aload_n (i := 0) (a := 0) rfl rfl (dk_X6_of 0 _ rfl) ?_
  refine F_iload_n (i := 1) (a := 1) rfl rfl (dk_X6_of 1 _ rfl) ?_
  refine F_callV (ι' := uI) (ci := 6) (b := 0) (As := [.int p1]) (d' := 2) (rfl) ok_X6_isPerson vi_X6_isPerson cl_6_79 (n := 1) (by decide +kernel) rfl rfl rfl (Nat.le_of_ble_eq_true rfl) (by omega) (dk_X6_of 2 _ rfl) (c_X6_isPerson _ _ ) (fun x1 m2 => ?_)
  show JF _ _ _ _ _ _ [.int x1] _ _
  refine F_if_ne (tgt := 11) (by decide) (dk_X6_of 5 _ rfl) ?_ ?_
  · refine F_aload_n (i := 0) (a := 0) rfl rfl (dk_X6_of 11 _ rfl) ?_
    refine F_gR (b := 41) fxX_6_4_0 fl_6_62 (dk_X6_of 12 _ rfl) ?_
    refine F_aload_n (i := 0) (a := 0) rfl rfl (dk_X6_of 15 _ rfl) ?_
    refine F_gR (b := 14) fxX_6_0_0 fl_6_47 (dk_X6_of 16 _ rfl) ?_
    refine F_aload_n (i := 0) (a := 0) rfl rfl (dk_X6_of 19 _ rfl) ?_
    refine F_gR (b := 14) fxX_6_0_0 fl_6_47 (dk_X6_of 20 _ rfl) ?_
    refine F_gV (n := 900) fxX_2_4_14 rfl fl_6_83 (dk_X6_of 23 _ rfl) ?_
    refine F_ch (fun r4 hr4 => ?_)
    refine F_gI (n := (64 * r4 + 0)) (lyT_0 hr4) rfl fl_6_87 (dk_X6_of 26 _ rfl) ?_
    refine F_callV (ι' := uU) (ci := 1) (b := 41) (As := [.ref 14, .int (mI m2 (64 * r4 + 0))]) (d' := 5) (rfl) ok_X1_start vi_X1_start cl_6_90 (n := 2) (by decide +kernel) rfl rfl rfl (Nat.le_of_ble_eq_true rfl) (by omega) (dk_X6_of 29 _ rfl) (c_X1_start _ _ _ (rfl)) (fun x5 m6 => ?_)
    show JF _ _ _ _ _ _ [] _ _
    refine F_aload_n (i := 0) (a := 0) rfl rfl (dk_X6_of 32 _ rfl) ?_
    refine F_gR (b := 41) fxX_6_4_0 fl_6_62 (dk_X6_of 33 _ rfl) ?_
    refine F_gR (b := 44) fxX_1_7_41 fl_6_94 (dk_X6_of 36 _ rfl) ?_
    refine F_iload_n (i := 1) (a := 1) rfl rfl (dk_X6_of 39 _ rfl) ?_
    refine F_iald (axX_0_44) (dk_X6_of 40 _ rfl) (fun x8 => ?_)
    refine F_istore_n (lv' := [(3, .int x8), (0, .ref 0), (1, .int p1), (2, .int p2)]) (i := 3) (a := 3) rfl (by decide) rfl (dk_X6_of 41 _ rfl) ?_
    refine F_iload_n (i := 2) (a := 2) rfl rfl (dk_X6_of 42 _ rfl) ?_
    refine F_case (fun c9_0 => ?_) (fun c9_0 => ?_)
    · rw [c9_0]; refine F_tin (off := 49) (tgt := 92) (by decide) (by decide) rfl (by decide) (dk_X6_of 43 _ rfl) ?_
      refine F_aload_n (i := 0) (a := 0) rfl rfl (dk_X6_of 92 _ rfl) ?_
      refine F_gR (b := 14) fxX_6_0_0 fl_6_47 (dk_X6_of 93 _ rfl) ?_
      refine F_gR (b := 15) fxX_2_5_14 fl_6_97 (dk_X6_of 96 _ rfl) ?_
      refine F_iload_n (i := 1) (a := 1) rfl rfl (dk_X6_of 99 _ rfl) ?_
      refine F_iald (axX_0_15) (dk_X6_of 100 _ rfl) (fun x10 => ?_)
      exact F_ret rfl (dk_X6_of 101 _ rfl)
    refine F_case (fun c9_1 => ?_) (fun c9_1 => ?_)
    · rw [c9_1]; refine F_tin (off := 59) (tgt := 102) (by decide) (by decide) rfl (by decide) (dk_X6_of 43 _ rfl) ?_
      refine F_aload_n (i := 0) (a := 0) rfl rfl (dk_X6_of 102 _ rfl) ?_
      refine F_gR (b := 14) fxX_6_0_0 fl_6_47 (dk_X6_of 103 _ rfl) ?_
      refine F_gR (b := 16) fxX_2_6_14 fl_6_100 (dk_X6_of 106 _ rfl) ?_
      refine F_iload_n (i := 1) (a := 1) rfl rfl (dk_X6_of 109 _ rfl) ?_
      refine F_iald (axX_0_16) (dk_X6_of 110 _ rfl) (fun x11 => ?_)
      exact F_ret rfl (dk_X6_of 111 _ rfl)
    refine F_case (fun c9_2 => ?_) (fun c9_2 => ?_)
    · rw [c9_2]; refine F_tin (off := 69) (tgt := 112) (by decide) (by decide) rfl (by decide) (dk_X6_of 43 _ rfl) ?_
      refine F_aload_n (i := 0) (a := 0) rfl rfl (dk_X6_of 112 _ rfl) ?_
      refine F_gR (b := 14) fxX_6_0_0 fl_6_47 (dk_X6_of 113 _ rfl) ?_
      refine F_gR (b := 17) fxX_2_7_14 fl_6_103 (dk_X6_of 116 _ rfl) ?_
      refine F_iload_n (i := 1) (a := 1) rfl rfl (dk_X6_of 119 _ rfl) ?_
      refine F_iald (axX_0_17) (dk_X6_of 120 _ rfl) (fun x12 => ?_)
      exact F_ret rfl (dk_X6_of 121 _ rfl)
    refine F_case (fun c9_3 => ?_) (fun c9_3 => ?_)
    · rw [c9_3]; refine F_tin (off := 79) (tgt := 122) (by decide) (by decide) rfl (by decide) (dk_X6_of 43 _ rfl) ?_
      refine F_aload_n (i := 0) (a := 0) rfl rfl (dk_X6_of 122 _ rfl) ?_
      refine F_gR (b := 14) fxX_6_0_0 fl_6_47 (dk_X6_of 123 _ rfl) ?_
      refine F_gR (b := 18) fxX_2_8_14 fl_6_106 (dk_X6_of 126 _ rfl) ?_
      refine F_iload_n (i := 1) (a := 1) rfl rfl (dk_X6_of 129 _ rfl) ?_
      refine F_iald (axX_0_18) (dk_X6_of 130 _ rfl) (fun x13 => ?_)
      exact F_ret rfl (dk_X6_of 131 _ rfl)
    refine F_case (fun c9_4 => ?_) (fun c9_4 => ?_)
    · rw [c9_4]; refine F_tin (off := 89) (tgt := 132) (by decide) (by decide) rfl (by decide) (dk_X6_of 43 _ rfl) ?_
      refine F_aload_n (i := 0) (a := 0) rfl rfl (dk_X6_of 132 _ rfl) ?_
      refine F_gR (b := 14) fxX_6_0_0 fl_6_47 (dk_X6_of 133 _ rfl) ?_
      refine F_gR (b := 20) fxX_2_10_14 fl_6_109 (dk_X6_of 136 _ rfl) ?_
      refine F_iload_n (i := 1) (a := 1) rfl rfl (dk_X6_of 139 _ rfl) ?_
      refine F_zald (axX_3_20) (dk_X6_of 140 _ rfl) (fun x14 => ?_)
      refine F_if_eq (tgt := 148) (by decide) (dk_X6_of 141 _ rfl) ?_ ?_
      · refine F_iconst (v := 0) (by decide) (dk_X6_of 148 _ rfl) ?_
        exact F_ret rfl (dk_X6_of 149 _ rfl)
      · refine F_iconst (v := 1) (by decide) (dk_X6_of 144 _ rfl) ?_
        refine F_goto (tgt := 149) (by decide) (dk_X6_of 145 _ rfl) ?_
        exact F_ret rfl (dk_X6_of 149 _ rfl)
    refine F_case (fun c9_5 => ?_) (fun c9_5 => ?_)
    · rw [c9_5]; refine F_tin (off := 107) (tgt := 150) (by decide) (by decide) rfl (by decide) (dk_X6_of 43 _ rfl) ?_
      refine F_iload_n (i := 3) (a := 3) rfl rfl (dk_X6_of 150 _ rfl) ?_
      exact F_ret rfl (dk_X6_of 151 _ rfl)
    refine F_case (fun c9_6 => ?_) (fun c9_6 => ?_)
    · rw [c9_6]; refine F_tin (off := 109) (tgt := 152) (by decide) (by decide) rfl (by decide) (dk_X6_of 43 _ rfl) ?_
      refine F_aload_n (i := 0) (a := 0) rfl rfl (dk_X6_of 152 _ rfl) ?_
      refine F_gR (b := 41) fxX_6_4_0 fl_6_62 (dk_X6_of 153 _ rfl) ?_
      refine F_iload_n (i := 1) (a := 1) rfl rfl (dk_X6_of 156 _ rfl) ?_
      refine F_callV (ι' := uI) (ci := 1) (b := 41) (As := [.int p1]) (d' := 2) (rfl) ok_X1_putOff vi_X1_putOff cl_6_113 (n := 1) (by decide +kernel) rfl rfl rfl (Nat.le_of_ble_eq_true rfl) (by omega) (dk_X6_of 157 _ rfl) (c_X1_putOff _ _ ) (fun x15 m16 => ?_)
      show JF _ _ _ _ _ _ [.int x15] _ _
      exact F_ret rfl (dk_X6_of 160 _ rfl)
    refine F_case (fun c9_7 => ?_) (fun c9_7 => ?_)
    · rw [c9_7]; refine F_tin (off := 118) (tgt := 161) (by decide) (by decide) rfl (by decide) (dk_X6_of 43 _ rfl) ?_
      refine F_aload_n (i := 0) (a := 0) rfl rfl (dk_X6_of 161 _ rfl) ?_
      refine F_gR (b := 41) fxX_6_4_0 fl_6_62 (dk_X6_of 162 _ rfl) ?_
      refine F_iload_n (i := 1) (a := 1) rfl rfl (dk_X6_of 165 _ rfl) ?_
      refine F_iload_n (i := 3) (a := 3) rfl rfl (dk_X6_of 166 _ rfl) ?_
      refine F_callV (ι' := uI) (ci := 1) (b := 41) (As := [.int p1, .int x8]) (d' := 4) (rfl) ok_X1_takes vi_X1_takes cl_6_117 (n := 2) (by decide +kernel) rfl rfl rfl (Nat.le_of_ble_eq_true rfl) (by omega) (dk_X6_of 167 _ rfl) (c_X1_takes _ _ _ ) (fun x18 m19 => ?_)
      show JF _ _ _ _ _ _ [.int x18] _ _
      exact F_ret rfl (dk_X6_of 170 _ rfl)
    refine F_case (fun c9_8 => ?_) (fun c9_8 => ?_)
    · rw [c9_8]; refine F_tin (off := 128) (tgt := 171) (by decide) (by decide) rfl (by decide) (dk_X6_of 43 _ rfl) ?_
      refine F_aload_n (i := 0) (a := 0) rfl rfl (dk_X6_of 171 _ rfl) ?_
      refine F_gR (b := 14) fxX_6_0_0 fl_6_47 (dk_X6_of 172 _ rfl) ?_
      refine F_gR (b := 19) fxX_2_9_14 fl_6_121 (dk_X6_of 175 _ rfl) ?_
      refine F_iload_n (i := 1) (a := 1) rfl rfl (dk_X6_of 178 _ rfl) ?_
      refine F_iald (axX_0_19) (dk_X6_of 179 _ rfl) (fun x21 => ?_)
      exact F_ret rfl (dk_X6_of 180 _ rfl)
    refine F_tout (tgt := 181) (by have q0 := fI_ne c9_0; rw [show (0 : Int32).toInt = 0 from by decide] at q0; have q1 := fI_ne c9_1; rw [show (1 : Int32).toInt = 1 from by decide] at q1; have q2 := fI_ne c9_2; rw [show (2 : Int32).toInt = 2 from by decide] at q2; have q3 := fI_ne c9_3; rw [show (3 : Int32).toInt = 3 from by decide] at q3; have q4 := fI_ne c9_4; rw [show (4 : Int32).toInt = 4 from by decide] at q4; have q5 := fI_ne c9_5; rw [show (5 : Int32).toInt = 5 from by decide] at q5; have q6 := fI_ne c9_6; rw [show (6 : Int32).toInt = 6 from by decide] at q6; have q7 := fI_ne c9_7; rw [show (7 : Int32).toInt = 7 from by decide] at q7; have q8 := fI_ne c9_8; rw [show (8 : Int32).toInt = 8 from by decide] at q8; omega) (by decide) (dk_X6_of 43 _ rfl) ?_
    refine F_ldc (v := (-10000001)) ct_6_82 (dk_X6_of 181 _ rfl) ?_
    exact F_ret rfl (dk_X6_of 183 _ rfl)
  · refine F_ldc (v := (-10000001)) ct_6_82 (dk_X6_of 8 _ rfl) ?_
    exact F_ret rfl (dk_X6_of 10 _ rfl)
def f_X6_set_50  (m : mM) (y1 : Int32) (y3 : Int32) (y100 : Nat) : fR Int32 :=
  (gA (mA m y100) y1).bind fun x7 => (sA 0 m y100 y1 y3).bind fun m8 => some (x7, m8)
theorem j_X6_set_50   (m : mM) (y1 : Int32) (y3 : Int32) (y100 : Nat) (hy100 : isA true 0 y100 = true) : JF true uI m_X6_set 3 50 [(1, .int y1), (3, .int y3)] [.ref y100] m (f_X6_set_50  m y1 y3 y100) := by
  unfold f_X6_set_50
  refine F_astore (lv' := [(4, .ref y100), (1, .int y1), (3, .int y3)]) (i := 4) (by decide) rfl (dk_X6_set 50 _ rfl) ?_
  refine F_aload (i := 4) rfl (dk_X6_set 52 _ rfl) ?_
  refine F_iload_n (i := 1) (a := 1) rfl rfl (dk_X6_set 54 _ rfl) ?_
  refine F_iald (hy100) (dk_X6_set 55 _ rfl) (fun x7 => ?_)
  refine F_istore (lv' := [(5, .int x7), (4, .ref y100), (1, .int y1), (3, .int y3)]) (i := 5) (by decide) rfl (dk_X6_set 56 _ rfl) ?_
  refine F_aload (i := 4) rfl (dk_X6_set 58 _ rfl) ?_
  refine F_iload_n (i := 1) (a := 1) rfl rfl (dk_X6_set 60 _ rfl) ?_
  refine F_iload_n (i := 3) (a := 3) rfl rfl (dk_X6_set 61 _ rfl) ?_
  refine F_iast (hy100) (dk_X6_set 62 _ rfl) (fun m8 => ?_)
  refine F_iload (i := 5) rfl (dk_X6_set 63 _ rfl) ?_
  exact F_ret rfl (dk_X6_set 65 _ rfl)
def f_X6_set (m : mM) (p1 : Int32) (p2 : Int32) (p3 : Int32) : fR Int32 :=
  bnd (f_X6_isPerson m p1) fun (x1 : Int32) (m2 : mM) => (if x1 = 0 then some ((-1), m2) else (if p2 < 0 then some ((-1), m2) else (if p2 ≤ 1 then bnd (f_X6_isDay m2 p3) fun (x4 : Int32) (m5 : mM) => (if x4 = 0 then some ((-2), m5) else (if p2 = 0 then (f_X6_set_50  m5 p1 p3 17) else (f_X6_set_50  m5 p1 p3 18))) else some ((-1), m2))))
theorem c_X6_set (m : mM) (p1 : Int32) (p2 : Int32) (p3 : Int32)  : cF true uI m_X6_set 3 [.ref 0, .int p1, .int p2, .int p3] m (f_X6_set m p1 p2 p3) := by
  refine cF_of ok_X6_set (fun _ _ => Nat.le_of_ble_eq_true rfl) ?_
  unfold f_X6_set
  show JF _ _ _ _ _ [(0, .ref 0), (1, .int p1), (2, .int p2), (3, .int p3)] _ _ _
  refine F_aload_n (i := 0) (a := 0) rfl rfl (dk_X6_set 0 _ rfl) ?_
  refine F_iload_n (i := 1) (a := 1) rfl rfl (dk_X6_set 1 _ rfl) ?_
  refine F_callV (ι' := uI) (ci := 6) (b := 0) (As := [.int p1]) (d' := 2) (rfl) ok_X6_isPerson vi_X6_isPerson cl_6_79 (n := 1) (by decide +kernel) rfl rfl rfl (Nat.le_of_ble_eq_true rfl) (by omega) (dk_X6_set 2 _ rfl) (c_X6_isPerson _ _ ) (fun x1 m2 => ?_)
  show JF _ _ _ _ _ _ [.int x1] _ _
  refine F_if_eq (tgt := 17) (by decide) (dk_X6_set 5 _ rfl) ?_ ?_
  · refine F_iconst (v := (-1)) (by decide) (dk_X6_set 17 _ rfl) ?_
    exact F_ret rfl (dk_X6_set 18 _ rfl)
  · refine F_iload_n (i := 2) (a := 2) rfl rfl (dk_X6_set 8 _ rfl) ?_
    refine F_if_lt (tgt := 17) (by decide) (dk_X6_set 9 _ rfl) ?_ ?_
    · refine F_iconst (v := (-1)) (by decide) (dk_X6_set 17 _ rfl) ?_
      exact F_ret rfl (dk_X6_set 18 _ rfl)
    · refine F_iload_n (i := 2) (a := 2) rfl rfl (dk_X6_set 12 _ rfl) ?_
      refine F_iconst (v := 1) (by decide) (dk_X6_set 13 _ rfl) ?_
      refine F_icmp_le (tgt := 19) (by decide) (dk_X6_set 14 _ rfl) ?_ ?_
      · refine F_iload_n (i := 3) (a := 3) rfl rfl (dk_X6_set 19 _ rfl) ?_
        refine F_callS (ι' := uI) (As := [.int p3]) (d' := 2) ok_X6_isDay st_X6_isDay cl_6_67 rfl (n := 1) (by decide +kernel) rfl (Nat.le_of_ble_eq_true rfl) (by omega) (dk_X6_set 20 _ rfl) (c_X6_isDay _ _ ) (fun x4 m5 => ?_)
        show JF _ _ _ _ _ _ [.int x4] _ _
        refine F_if_ne (tgt := 29) (by decide) (dk_X6_set 23 _ rfl) ?_ ?_
        · refine F_iload_n (i := 2) (a := 2) rfl rfl (dk_X6_set 29 _ rfl) ?_
          refine F_if_ne (tgt := 43) (by decide) (dk_X6_set 30 _ rfl) ?_ ?_
          · refine F_aload_n (i := 0) (a := 0) rfl rfl (dk_X6_set 43 _ rfl) ?_
            refine F_gR (b := 14) fxX_6_0_0 fl_6_47 (dk_X6_set 44 _ rfl) ?_
            refine F_gR (b := 18) fxX_2_8_14 fl_6_106 (dk_X6_set 47 _ rfl) ?_
            exact F_loc (List.forall_mem_cons.mpr ⟨(.tail _ (.head _)), (List.forall_mem_cons.mpr ⟨(.tail _ (.tail _ (.tail _ (.head _)))), (fun _ z => absurd z List.not_mem_nil)⟩)⟩) (j_X6_set_50   _ _ _ _ (axX_0_18))
          · refine F_aload_n (i := 0) (a := 0) rfl rfl (dk_X6_set 33 _ rfl) ?_
            refine F_gR (b := 14) fxX_6_0_0 fl_6_47 (dk_X6_set 34 _ rfl) ?_
            refine F_gR (b := 17) fxX_2_7_14 fl_6_103 (dk_X6_set 37 _ rfl) ?_
            refine F_goto (tgt := 50) (by decide) (dk_X6_set 40 _ rfl) ?_
            exact F_loc (List.forall_mem_cons.mpr ⟨(.tail _ (.head _)), (List.forall_mem_cons.mpr ⟨(.tail _ (.tail _ (.tail _ (.head _)))), (fun _ z => absurd z List.not_mem_nil)⟩)⟩) (j_X6_set_50   _ _ _ _ (axX_0_17))
        · refine F_bipush (v := (-2)) (by decide) (dk_X6_set 26 _ rfl) ?_
          exact F_ret rfl (dk_X6_set 28 _ rfl)
      · refine F_iconst (v := (-1)) (by decide) (dk_X6_set 17 _ rfl) ?_
        exact F_ret rfl (dk_X6_set 18 _ rfl)
end
