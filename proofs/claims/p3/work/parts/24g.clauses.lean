/-! TOWN: a clause, both side by side -/
section CLAUSES
def W16 : List Int32 := [116, 97, 107, 101, 100, 117, 101, 99, 111, 115, 116, 102, 101, 97, 115, 116]
def tcT (m2 : mM) (p1 : Int32) : fR Int32 := bnd (f_X7_takesNumber m2 ) fun (x4 : Int32) (m5 : mM) => (if x4 = 0 then some (0, m5) else (sA 0 m5 11 p1 (mI m5 14)).bind fun m7 => (gA (mA m7 10) p1).bind fun x8 => (if 0 < x8 then some (1, m7) else bnd (f_X7_takes m7 32) fun (x9 : Int32) (m10 : mM) => (if x9 = 0 then some (0, m10) else bnd (f_X7_takesE m10 p1) fun (x12 : Int32) (m13 : mM) => (if x12 = 0 then some (0, m13) else some (1, m13)))))
theorem clause_eq {m : mM} {p1 : Int32} : f_X7_takesClause m p1 = bnd (f_X7_takesHead m p1) fun (x1 : Int32) (m2 : mM) => (if x1 = 0 then some (0, m2) else tcT m2 p1) := rfl
section X
variable {mx m0 : mM} {a L W : Nat} {ch : Nat → Nat} {cs : List CL}
theorem KM.wr {m : mM} {pos c : Nat} {v : Int32} (h : KM m0 m W L pos ch cs) (hc : 10 ≤ c ∧ c ≤ 13) : KM m0 (wA m c ((mA m c).set (10 * W + cs.length) v)) W L pos ch cs := by
  obtain ⟨h1, h2, h3, h4, h5, h6, h7, h8⟩ := h
  refine ⟨h1.wr hc (by omega), h2.wr (by omega), h3, h4, h5, h6, by rw [mA_ne (by omega)]; exact h7, fun c' hc' => (h8 c' hc').fr (p := 10 * W + cs.length) (by omega) (fun d i d1 d2 hi => ?_)⟩
  rw [mA_wA]
  by_cases e : d = c
  · rw [if_pos e, gd_ne (Ne.symm hi), e]
  · rw [if_neg e]
theorem KM.nm {m m' : mM} {pos pos' : Nat} (h : KM m0 m W L pos ch cs) (g : NM m m') (t : TM m' L ch pos') (hp : pos ≤ pos') : KM m0 m' W L pos' ch cs := by
  obtain ⟨h1, h2, h3, h4, h5, h6, h7, h8⟩ := h
  refine ⟨h1.nm g, t, h3, h4, by rw [g.1 23 (by decide) (by decide)]; exact h5, by omega, by rw [g.2.1]; exact h7, fun c hc => ?_⟩
  have := h8 c hc
  unfold KC at this ⊢
  simp only [g.2.1]; exact this
theorem KM.row {m : mM} {pos : Nat} (h : KM m0 m W L pos ch cs) : (mA m 10).length = 60 ∧ (mA m 11).length = 60 ∧ (mA m 12).length = 60 ∧ (mA m 13).length = 60 := ⟨h.1.2.2.2.2.1.2.1, h.1.2.2.2.2.1.2.2.1, h.1.2.2.2.2.1.2.2.2.1, h.1.2.2.2.2.1.2.2.2.2.1⟩
theorem TT_k {k v : Nat} {ops : List Int32} (hk : k < 3) : TT (cs ++ [(k + 1, v, ops)]) = ft3 (TT cs) v k := by
  unfold TT
  rw [clLast_app, clLast_app, clLast_app]
  match k, hk with
  | 0, _ => rfl
  | 1, _ => rfl
  | 2, _ => rfl
theorem sim_plain (hT : TXT mx m0 L ch) {mX nM : mM} {pos k : Nat} {tk : List (Nat × Nat)} (hk : k < 3) (htk : TKL cs tk) (hok : ∀ c ∈ cs, clOk c) (hX : LX mx mX a L pos (TT cs) tk (flT (clTk cs))) (hM : KM m0 nM W L pos ch cs) (hl : cs.length < 10) (h10 : (mA nM 10).getD (10 * W + cs.length) 0 = nI (k + 1)) : ∃ mX', (bnd (f_X4_number mX) fun (x8 : Int32) (m9 : mM) => nmM (wI m9 (64 * a + k) x8) fun m11 => some ((), m11)) = some ((), mX') ∧ ((∃ pos' c nM', pos < pos' ∧ KX mx mX' a L pos' (cs ++ [c]) ∧ tcT nM (nI (10 * W + cs.length)) = some (1, nM') ∧ KM m0 nM' W L pos' ch (cs ++ [c])) ∨ (∃ pos' nM', DX mx mX' a L pos' ∧ tcT nM (nI (10 * W + cs.length)) = some (0, nM') ∧ FPM m0 nM' W ∧ TM nM' L ch pos')) := by
  obtain ⟨l10, l11, l12, l13⟩ := hM.row
  have hW := hM.2.2.1
  unfold tcT
  rcases sim_number hT hX hM.2.1 with ⟨v, p', mX2, nM2, b1, b2, b3, b4, b5, b6, b7, b8⟩ | ⟨mX2, b1, b2, b3⟩
  · have hM2 := hM.nm b6 b7 (by omega)
    have hM3 := hM2.wr (c := 11) (v := nI v) (by decide)
    have e10 : gA (mA (wA nM2 11 ((mA nM2 11).set (10 * W + cs.length) (nI v))) 10) (nI (10 * W + cs.length)) = some (nI (k + 1)) := by
      rw [mA_ne (by decide), b6.2.1, gA_at (by omega) (by omega), h10]
    rw [b3, bnd_some, nmM_eq, b5, bnd_some, if_neg i0, b8, sA_at0 (by rw [b6.2.1]; omega) (by omega), Option.bind_some, e10, Option.bind_some, if_pos (show (0 : Int32) < nI (k + 1) from (nI_lt (by omega) (by omega) : nI 0 < nI (k + 1)))]
    have ec : clTk (cs ++ [(k + 1, v, [])]) = clTk cs := by
      rw [clTk_app, if_neg (Nat.succ_ne_zero k), List.append_nil]
    refine ⟨_, rfl, Or.inl ⟨p', (k + 1, v, []), _, b2, ⟨tk, ?_, ?_, fun c hc => ?_, by rw [List.length_append]; exact hl⟩, rfl, ?_⟩⟩
    · unfold TKL; rw [ec]; exact htk
    · rw [ec, TT_k hk]; exact b4.fld hk
    · rcases List.mem_append.mp hc with hc | hc
      · exact hok c hc
      · cases List.mem_singleton.mp hc
        exact ⟨by show k + 1 < 4; omega, b1, fun z => absurd z (Nat.succ_ne_zero k)⟩
    · obtain ⟨q1, q2, q3, q4, q5, q6, q7, q8⟩ := hM3
      refine ⟨q1, q2, q3, by rw [List.length_append]; exact hl, by rw [ec]; exact q5, by rw [ec]; exact q6, by rw [ec]; exact q7, fun c hc => ?_⟩
      rw [List.length_append] at hc
      have hc : c < cs.length + 1 := hc
      rw [ec]
      by_cases e : c = cs.length
      · subst e
        rw [ap_at]
        refine ⟨?_, ?_, fun z => absurd z (Nat.succ_ne_zero k)⟩
        · rw [mA_ne (by decide), b6.2.1]; exact h10
        · rw [mA_wA, if_pos rfl, gd_same (by rw [b6.2.1]; omega)]
      · rw [ap_lt (by omega)]; exact q8 c (by omega)
  · rw [b1, bnd_some, nmM_eq, b3, bnd_some, if_pos rfl]
    exact ⟨_, rfl, Or.inr ⟨pos, nM, b2.fld hk, rfl, hM.1, hM.2.1⟩⟩
theorem FPM.I {m : mM} {k : Nat} {v : Int32} (h : FPM m0 m W) (hk : k = 13 ∨ k = 14 ∨ k = 23 ∨ k = 24 ∨ k = 25) : FPM m0 (wI m k v) W := by
  obtain ⟨a1, a2⟩ := h
  exact ⟨fun j j1 j2 j3 j4 j5 => by rw [mI_wI, if_neg (by omega)]; exact a1 j j1 j2 j3 j4 j5, a2⟩
theorem sim_take (hT : TXT mx m0 L ch) {mX nM : mM} {pos : Nat} {tk : List (Nat × Nat)} (htk : TKL cs tk) (hok : ∀ c ∈ cs, clOk c) (hX : LX mx mX a L pos (TT cs) tk (flT (clTk cs))) (hM : KM m0 nM W L pos ch cs) (hl : cs.length < 10) (h10 : (mA nM 10).getD (10 * W + cs.length) 0 = nI 0) : ∃ mX', (bnd (f_X4_number mX) fun (x29 : Int32) (m30 : mM) => bnd (f_X4_word m30 4) fun (x32 : Unit) (m33 : mM) => bnd (f_X4_either (f_X4_one 6) m33 a 0) fun (x35 : Unit) (m36 : mM) => bnd (f_X5_addTake m36 a x29) fun (x38 : Unit) (m39 : mM) => some ((), m39)) = some ((), mX') ∧ ((∃ pos' c nM', pos < pos' ∧ KX mx mX' a L pos' (cs ++ [c]) ∧ tcT nM (nI (10 * W + cs.length)) = some (1, nM') ∧ KM m0 nM' W L pos' ch (cs ++ [c])) ∨ (∃ pos' nM', DX mx mX' a L pos' ∧ tcT nM (nI (10 * W + cs.length)) = some (0, nM') ∧ FPM m0 nM' W ∧ TM nM' L ch pos')) := by
  obtain ⟨l10, l11, l12, l13⟩ := hM.row
  have hW := hM.2.2.1
  have hz : stL 4 = some (nI [32].length) := rfl
  have hzs : ∀ i, i < [32].length → stA 4 (nI i) = some (nI ([32].getD i 0)) := fun i hi => by
    match i, hi with
    | 0, _ => rfl
  have hdead : ∀ {m : mM} {pos : Nat} {x : Int32}, DX mx m a L pos → ∃ mX', (bnd (f_X4_either (f_X4_one 6) m a 0) fun (x35 : Unit) (m36 : mM) => bnd (f_X5_addTake m36 a x) fun (x38 : Unit) (m39 : mM) => some ((), m39)) = some ((), mX') ∧ DX mx mX' a L pos := fun {m pos x} h => by
    obtain ⟨m2, q1, q2⟩ := dead_either (y2 := 0) dead_one h
    obtain ⟨m3, r1, r2⟩ := q2.take (v := x)
    rw [q1, bnd_some, r1, bnd_some]
    exact ⟨m3, rfl, r2⟩
  unfold tcT
  rcases sim_number hT hX hM.2.1 with ⟨v, p', mX2, nM2, b1, b2, b3, b4, b5, b6, b7, b8⟩ | ⟨mX2, b1, b2, b3⟩
  · have hM2 := hM.nm b6 b7 (by omega)
    have hM3 := hM2.wr (c := 11) (v := nI v) (by decide)
    have e10' : (mA (wA nM2 11 ((mA nM2 11).set (10 * W + cs.length) (nI v))) 10).getD (10 * W + cs.length) 0 = nI 0 := by
      rw [mA_ne (by decide), b6.2.1, h10]
    have e11' : (mA (wA nM2 11 ((mA nM2 11).set (10 * W + cs.length) (nI v))) 11).getD (10 * W + cs.length) 0 = nI v := by
      rw [mA_wA, if_pos rfl, gd_same (by rw [b6.2.1]; omega)]
    have e10 : gA (mA (wA nM2 11 ((mA nM2 11).set (10 * W + cs.length) (nI v))) 10) (nI (10 * W + cs.length)) = some 0 := by
      rw [gA_at (by rw [mA_ne (by decide), b6.2.1]; omega) (by omega), e10']; rfl
    rw [b3, bnd_some, b5, bnd_some, if_neg i0, b8, sA_at0 (by rw [b6.2.1]; omega) (by omega), Option.bind_some, e10, Option.bind_some, if_neg (show ¬ (0 : Int32) < 0 by decide)]
    generalize wA nM2 11 ((mA nM2 11).set (10 * W + cs.length) (nI v)) = m7 at hM3 e10' e11' ⊢
    obtain ⟨m10, c1, c2, c3⟩ := hM3.2.1.sign (c := 32) (by decide)
    obtain ⟨mX3, d1, d2⟩ := b4.word hT (z := 4) (cs := [32]) (by decide) hz hzs (by decide)
    rw [d1, bnd_some, show (32 : Int32) = nI 32 from rfl, c1, bnd_some]
    unfold wdO wdO at d2
    by_cases c32 : nx ch L p' = nI 32
    · rw [if_pos c32] at d2 c3
      have d3 : LX mx mX3 a L (p' + 1) (TT cs) tk (flT (clTk cs)) := by
        rcases d2 with d2 | d2
        · exact d2.2
        · cases d2.1
      rw [decide_eq_true c32, zB_t, if_neg i0]
      have hM4 := hM3.nm c2 c3 (by omega)
      have f10 : (mA m10 10).getD (10 * W + cs.length) 0 = nI 0 := by rw [c2.2.1]; exact e10'
      have f11 : (mA m10 11).getD (10 * W + cs.length) 0 = nI v := by rw [c2.2.1]; exact e11'
      unfold f_X7_takesE
      rw [nmM_eq, nmM_eq, sA_at0 (by show 10 * W + cs.length < (mA m10 12).length; rw [hM4.row.2.2.1]; omega) (by omega), Option.bind_some]
      rw [show mA (wI (wI m10 24 0) 25 0) 12 = mA m10 12 from rfl, show mI (wI (wI m10 24 0) 25 0) 23 = mI m10 23 from rfl]
      have hM5 : KM m0 (wA (wI (wI m10 24 0) 25 0) 12 ((mA m10 12).set (10 * W + cs.length) (mI m10 23))) W L (p' + 1) ch cs := by
        have : KM m0 (wI (wI m10 24 0) 25 0) W L (p' + 1) ch cs := by
          obtain ⟨q1, q2, q3, q4, q5, q6, q7, q8⟩ := hM4
          exact ⟨(q1.I (by decide)).I (by decide), q2, q3, q4, q5, q6, q7, q8⟩
        exact this.wr (c := 12) (v := mI m10 23) (by decide)
      have g10 : (mA (wA (wI (wI m10 24 0) 25 0) 12 ((mA m10 12).set (10 * W + cs.length) (mI m10 23))) 10).getD (10 * W + cs.length) 0 = nI 0 := f10
      have g11 : (mA (wA (wI (wI m10 24 0) 25 0) 12 ((mA m10 12).set (10 * W + cs.length) (mI m10 23))) 11).getD (10 * W + cs.length) 0 = nI v := f11
      have g12 : (mA (wA (wI (wI m10 24 0) 25 0) 12 ((mA m10 12).set (10 * W + cs.length) (mI m10 23))) 12).getD (10 * W + cs.length) 0 = nI (100 * W + (flT (clTk cs)).length) := by
        rw [mA_wA, if_pos rfl, gd_same (by rw [hM4.row.2.2.1]; omega)]; exact hM4.2.2.2.2.1
      have gS : SK (wA (wI (wI m10 24 0) 25 0) 12 ((mA m10 12).set (10 * W + cs.length) (mI m10 23))) [] := ⟨rfl, rfl, trivial⟩
      generalize wA (wI (wI m10 24 0) 25 0) 12 ((mA m10 12).set (10 * W + cs.length) (mI m10 23)) = m3 at hM5 g10 g11 g12 gS ⊢
      obtain ⟨q1, q2, q3, q4, q5, q6, q7, q8⟩ := id hM5
      have hLM : LM m0 m3 m3 W L (10 * W + cs.length) (p' + 1) ch (flT (clTk cs)) := ⟨q1, ⟨rfl, rfl, rfl, rfl, fun _ _ => rfl⟩, q2, ⟨hW, by omega, by omega⟩, q5, q6, q7⟩
      have hL := d3.2.2.2.2.1
      obtain ⟨mX4, r1, r2⟩ := sim_either hT (sim_one (m0 := m0) (m1 := m3) (W := W) (p := 10 * W + cs.length) (T := TT cs) (tk := tk) hT 6 0 (by decide) (by decide)) dead_one (by decide) d3 hLM gS (Or.inl rfl) rfl (by show _ + 0 ≤ _; omega) (F := 1000) (by omega)
      have r1 : f_X4_either (f_X4_one 6) mX3 a 0 = some ((), mX4) := r1
      rw [r1, bnd_some]
      rcases r2 with ⟨pos4, ops, m4, F4, s1, s2, s3, s4, s5, s6, s7, s8⟩ | ⟨pos4, m4, all4, s1, s2, s3⟩
      · rw [s4]
        unfold tlE
        have l13' : (mA m4 13).length = 60 := s5.1.2.2.2.2.1.2.2.2.2.1
        rw [sA_at0 (by omega) (by omega), Option.bind_some, show mI (wA m4 13 ((mA m4 13).set (10 * W + cs.length) (mI m4 23))) 24 = 0 from s6.1, if_pos rfl, bnd_some, if_neg i0]
        have htl : tk.length < 10 := by
          have := htk.1
          have := clTk_len (cs := cs)
          omega
        obtain ⟨mX5, t1, t2⟩ := s3.take (v := v) htl
        rw [t1, bnd_some]
        have ec : clTk (cs ++ [(0, v, ops)]) = clTk cs ++ [(v, ops)] := by rw [clTk_app, if_pos rfl]
        have ef : flT (clTk (cs ++ [(0, v, ops)])) = flT (clTk cs) ++ ops := by rw [ec, flT_app]
        have eT : TT (cs ++ [(0, v, ops)]) = TT cs := by
          unfold TT; rw [clLast_app, clLast_app, clLast_app]; rfl
        have hwf : wfc 0 ops := by
          have := s8 0 [] (by decide) (show wfc 1 [] from rfl)
          rw [List.append_nil] at this; exact this
        refine ⟨mX5, rfl, Or.inl ⟨pos4, (0, v, ops), _, by omega, ⟨tk ++ [(v, (flT (clTk cs) ++ ops).length)], ⟨?_, fun i hi => ?_⟩, ?_, fun c hc => ?_, by rw [List.length_append]; exact hl⟩, rfl, ?_⟩⟩
        · rw [ec, List.length_append (as := tk), List.length_append (as := clTk cs), htk.1]; rfl
        · rw [List.length_append] at hi
          have hi : i < tk.length + 1 := hi
          have hkl := htk.1
          rw [ec]
          by_cases e : i = tk.length
          · subst e
            rw [ap_at]
            have e2 : (clTk cs ++ [(v, ops)]).getD tk.length (0, []) = (v, ops) := by rw [hkl, ap_at]
            rw [e2]
            refine ⟨rfl, ?_⟩
            have e3 := tkE_full (t := clTk cs ++ [(v, ops)])
            rw [flT_app, List.length_append] at e3
            rw [hkl]
            exact e3.symm
          · rw [ap_lt (by omega), ap_lt (by omega), tkE_app (by omega)]
            exact htk.2 i (by omega)
        · rw [eT, ef]; exact t2
        · rcases List.mem_append.mp hc with hc | hc
          · exact hok c hc
          · cases List.mem_singleton.mp hc
            exact ⟨Nat.zero_lt_succ 3, b1, fun _ => hwf⟩
        · obtain ⟨u1, ⟨u2, u3, u4, u5, u6⟩, u7, u8, u9, u10, u11⟩ := s5
          have fr : ∀ d i, 10 ≤ d → d ≤ 13 → i ≠ 10 * W + cs.length → (mA (wA m4 13 ((mA m4 13).set (10 * W + cs.length) (mI m4 23))) d).getD i 0 = (mA m3 d).getD i 0 := fun d i d1 d2 hi => by
            rw [mA_wA]
            by_cases e13 : d = 13
            · rw [if_pos e13, gd_ne (Ne.symm hi), e13]; exact u6 i hi
            · rw [if_neg e13]
              by_cases e10 : d = 10
              · rw [e10, u3]
              · by_cases e11 : d = 11
                · rw [e11, u4]
                · obtain rfl : d = 12 := by omega
                  rw [u5]
          refine ⟨u1.wr (by decide) (by omega), u7.wr (by decide), hW, by rw [List.length_append]; exact hl, by rw [ef]; exact u9, by rw [ef]; exact u10, by rw [ef]; exact u11, fun c hc => ?_⟩
          rw [List.length_append] at hc
          have hc : c < cs.length + 1 := hc
          rw [ef]
          by_cases e : c = cs.length
          · subst e
            rw [ap_at]
            refine ⟨?_, ?_, fun _ => ⟨(flT (clTk cs)).length, by rw [List.length_append]; exact Nat.le_refl _, ?_, ?_, fun i hi => ?_⟩⟩
            · rw [mA_ne (by decide), u3]; exact g10
            · rw [mA_ne (by decide), u4]; exact g11
            · rw [mA_ne (by decide), u5]; exact g12
            · rw [mA_wA, if_pos rfl, gd_same (by omega), u9, List.length_append, Nat.add_assoc]
            · rw [ap_ge (by omega), Nat.add_sub_cancel_left]
          · rw [ap_lt (by omega)]
            exact ((q8 c (by omega)).fr (p := 10 * W + cs.length) (by omega) fr).app
      · obtain ⟨mX5, t1, t2⟩ := s1.take (v := nI v)
        rw [t1, bnd_some, s2, bnd_some, if_pos rfl]
        exact ⟨mX5, rfl, Or.inr ⟨pos4, m4, t2, rfl, s3.1, s3.2.2.1⟩⟩
    · rw [if_neg c32] at d2 c3
      have d3 : DX mx mX3 a L p' := by
        rcases d2 with d2 | d2
        · cases d2.1
        · exact d2.2
      obtain ⟨mX5, t1, t2⟩ := hdead (x := nI v) d3
      rw [decide_eq_false c32, zB_f, if_pos rfl, t1]
      exact ⟨mX5, rfl, Or.inr ⟨p', m10, t2, rfl, hM3.1.nm c2, c3⟩⟩
  · obtain ⟨mX3, d1, d2⟩ := b2.word (z := 4) (cs := [32]) (by decide) hz hzs (by decide)
    obtain ⟨mX5, t1, t2⟩ := hdead (x := 0) d2
    rw [b1, bnd_some, d1, bnd_some, t1, b3, bnd_some, if_pos rfl]
    exact ⟨mX5, rfl, Or.inr ⟨pos, nM, t2, rfl, hM.1, hM.2.1⟩⟩
end X
end CLAUSES
