/-! TOWN: the whole text, both side by side -/
section GOES
section X
variable {mx m0 : mM} {a L W : Nat} {ch : Nat → Nat}
theorem sim_head (hT : TXT mx m0 L ch) (h16 : mA m0 16 = W16) {cs : List CL} {mX nM : mM} {pos : Nat} {tk : List (Nat × Nat)} (hX : LX mx mX a L pos (TT cs) tk (flT (clTk cs))) (hM : KM m0 nM W L pos ch cs) (hl : cs.length < 10) (kd z q : Nat) (wd : List Nat) (hwl : wd.length < 90) (hz : stL z = some (nI (wd ++ [32]).length)) (hs : ∀ i, i < (wd ++ [32]).length → stA z (nI i) = some (nI ((wd ++ [32]).getD i 0))) (hc : ∀ c ∈ wd, c < 128) (hq : q < 100) (hw : ∀ i, i < wd.length → gA W16 (nI (q + i)) = some (nI (wd.getD i 0))) : ∃ mX1 nM1, f_X4_word mX z = some ((), mX1) ∧ ((∃ pos', pos ≤ pos' ∧ LX mx mX1 a L pos' (TT cs) tk (flT (clTk cs)) ∧ ((sA 0 nM 10 (nI (10 * W + cs.length)) (nI kd)).bind fun m5 => bnd (f_X7_takesWord m5 (nI q) (nI wd.length)) fun (x : Int32) (m7 : mM) => chZ x (some (x, m7))) = some (1, nM1) ∧ KM m0 nM1 W L pos' ch cs ∧ (mA nM1 10).getD (10 * W + cs.length) 0 = nI kd) ∨ (∃ pos', DX mx mX1 a L pos' ∧ ((sA 0 nM 10 (nI (10 * W + cs.length)) (nI kd)).bind fun m5 => bnd (f_X7_takesWord m5 (nI q) (nI wd.length)) fun (x : Int32) (m7 : mM) => chZ x (some (x, m7))) = some (0, nM1) ∧ FPM m0 nM1 W ∧ TM nM1 L ch pos')) := by
  have hW := hM.2.2.1
  have hM2 := hM.wr (c := 10) (v := nI kd) (by decide)
  have e10 : (mA (wA nM 10 ((mA nM 10).set (10 * W + cs.length) (nI kd))) 10).getD (10 * W + cs.length) 0 = nI kd := by
    rw [mA_wA, if_pos rfl, gd_same (by rw [hM.row.1]; omega)]
  rw [sA_at0 (by rw [hM.row.1]; omega) (by omega), Option.bind_some]
  generalize wA nM 10 ((mA nM 10).set (10 * W + cs.length) (nI kd)) = m5 at hM2 e10 ⊢
  obtain ⟨mX1, nM1, q1, q2, q3⟩ := sim_word hT hwl hz hs hc hq (by rw [hM2.1.2.1 16 (by decide), h16]; exact hw) hX hM2.2.1
  refine ⟨mX1, nM1, q1, ?_⟩
  rcases q3 with ⟨pos', r1, r2, r3, r4⟩ | ⟨pos', r2, r3, r4⟩
  · rw [r3, bnd_some, chZ_t (Or.inr rfl)]
    exact Or.inl ⟨pos', r1, r2, rfl, hM2.nm q2 r4 r1, by rw [q2.2.1]; exact e10⟩
  · rw [r3, bnd_some, chZ_t (Or.inl rfl)]
    exact Or.inr ⟨pos', r2, rfl, hM2.1.nm q2, r4⟩
theorem st_lit {z : Nat} {l : List Nat} (h : (List.range l.length).all (fun i => decide (stA z (nI i) = some (nI (l.getD i 0)))) = true) : ∀ i, i < l.length → stA z (nI i) = some (nI (l.getD i 0)) := fun i hi => by
  have := List.all_eq_true.mp h i (List.mem_range.mpr hi)
  exact of_decide_eq_true this
theorem w16_lit {q : Nat} {l : List Nat} (h : (List.range l.length).all (fun i => decide (gA W16 (nI (q + i)) = some (nI (l.getD i 0)))) = true) : ∀ i, i < l.length → gA W16 (nI (q + i)) = some (nI (l.getD i 0)) := fun i hi => by
  have := List.all_eq_true.mp h i (List.mem_range.mpr hi)
  exact of_decide_eq_true this
theorem sim_clause (hT : TXT mx m0 L ch) (h16 : mA m0 16 = W16) {cs : List CL} {mX nM : mM} {pos : Nat} (hX : KX mx mX a L pos cs) (hM : KM m0 nM W L pos ch cs) (hl : cs.length < 10) : ∃ mX', f_X4_clause mX a = some ((), mX') ∧ ((∃ pos' c nM', pos < pos' ∧ KX mx mX' a L pos' (cs ++ [c]) ∧ f_X7_takesClause nM (nI (10 * W + cs.length)) = some (1, nM') ∧ KM m0 nM' W L pos' ch (cs ++ [c])) ∨ (∃ pos' nM', DX mx mX' a L pos' ∧ f_X7_takesClause nM (nI (10 * W + cs.length)) = some (0, nM') ∧ FPM m0 nM' W ∧ TM nM' L ch pos')) := by
  obtain ⟨tk, htk, hLX, hok, -⟩ := hX
  have hW := hM.2.2.1
  have dn : ∀ {m : mM} {pos k : Nat}, k < 3 → DX mx m a L pos → ∃ mX', (bnd (f_X4_number m) fun (x8 : Int32) (m9 : mM) => nmM (wI m9 (64 * a + k) x8) fun m11 => some ((), m11)) = some ((), mX') ∧ DX mx mX' a L pos := fun {m pos k} hk h => by
    obtain ⟨m2, q1, q2⟩ := h.number
    rw [q1, bnd_some, nmM_eq]
    exact ⟨_, rfl, q2.fld hk⟩
  rw [clause_eq]
  unfold f_X4_clause f_X7_takesHead
  rw [hLX.next hT, bnd_some, hM.2.1.next, bnd_some]
  by_cases c99 : nx ch L pos = 99
  · rw [if_pos c99, if_pos c99]
    obtain ⟨mX1, nM1, q1, q2⟩ := sim_head hT h16 hLX hM hl 2 6 7 [99, 111, 115, 116] (by decide) (by decide) (st_lit (by decide)) (by decide) (by decide) (w16_lit (by decide))
    rw [q1, bnd_some]
    rcases q2 with ⟨pos', r1, r2, r3, r4, r5⟩ | ⟨pos', r2, r3, r4, r5⟩
    · obtain ⟨mX2, s1, s2⟩ := sim_plain (k := 1) hT (by decide) htk hok r2 r4 hl r5
      refine ⟨mX2, s1, ?_⟩
      have r3' := r3
      rw [show (sA 0 nM 10 (nI (10 * W + cs.length)) 2).bind (fun m5 => bnd (f_X7_takesWord m5 7 4) fun (x6 : Int32) (m7 : mM) => chZ x6 (some (x6, m7))) = some (1, nM1) from r3', bnd_some, if_neg i0]
      rcases s2 with ⟨pos2, c, nM2, t1, t2, t3, t4⟩ | s2
      · exact Or.inl ⟨pos2, c, nM2, by omega, t2, t3, t4⟩
      · exact Or.inr s2
    · obtain ⟨mX2, s1, s2⟩ := dn (k := 1) (by decide) r2
      refine ⟨mX2, s1, Or.inr ⟨pos', nM1, s2, ?_, r4, r5⟩⟩
      rw [show (sA 0 nM 10 (nI (10 * W + cs.length)) 2).bind (fun m5 => bnd (f_X7_takesWord m5 7 4) fun (x6 : Int32) (m7 : mM) => chZ x6 (some (x6, m7))) = some (0, nM1) from r3, bnd_some, if_pos rfl]
  rw [if_neg c99, if_neg c99]
  by_cases c100 : nx ch L pos = 100
  · rw [if_pos c100, if_pos c100]
    obtain ⟨mX1, nM1, q1, q2⟩ := sim_head hT h16 hLX hM hl 1 5 4 [100, 117, 101] (by decide) (by decide) (st_lit (by decide)) (by decide) (by decide) (w16_lit (by decide))
    rw [q1, bnd_some]
    rcases q2 with ⟨pos', r1, r2, r3, r4, r5⟩ | ⟨pos', r2, r3, r4, r5⟩
    · obtain ⟨mX2, s1, s2⟩ := sim_plain (k := 0) hT (by decide) htk hok r2 r4 hl r5
      refine ⟨mX2, s1, ?_⟩
      rw [show (sA 0 nM 10 (nI (10 * W + cs.length)) 1).bind (fun m9 => bnd (f_X7_takesWord m9 4 3) fun (x10 : Int32) (m11 : mM) => chZ x10 (some (x10, m11))) = some (1, nM1) from r3, bnd_some, if_neg i0]
      rcases s2 with ⟨pos2, c, nM2, t1, t2, t3, t4⟩ | s2
      · exact Or.inl ⟨pos2, c, nM2, by omega, t2, t3, t4⟩
      · exact Or.inr s2
    · obtain ⟨mX2, s1, s2⟩ := dn (k := 0) (by decide) r2
      refine ⟨mX2, s1, Or.inr ⟨pos', nM1, s2, ?_, r4, r5⟩⟩
      rw [show (sA 0 nM 10 (nI (10 * W + cs.length)) 1).bind (fun m9 => bnd (f_X7_takesWord m9 4 3) fun (x10 : Int32) (m11 : mM) => chZ x10 (some (x10, m11))) = some (0, nM1) from r3, bnd_some, if_pos rfl]
  rw [if_neg c100, if_neg c100]
  by_cases c116 : nx ch L pos = 116
  · have c102 : ¬ nx ch L pos = 102 := by rw [c116]; decide
    rw [if_neg c102, if_pos c116, if_pos c116]
    obtain ⟨mX1, nM1, q1, q2⟩ := sim_head hT h16 hLX hM hl 0 3 0 [116, 97, 107, 101] (by decide) (by decide) (st_lit (by decide)) (by decide) (by decide) (w16_lit (by decide))
    rw [q1, bnd_some]
    rcases q2 with ⟨pos', r1, r2, r3, r4, r5⟩ | ⟨pos', r2, r3, r4, r5⟩
    · obtain ⟨mX2, s1, s2⟩ := sim_take hT htk hok r2 r4 hl r5
      refine ⟨mX2, s1, ?_⟩
      rw [show (sA 0 nM 10 (nI (10 * W + cs.length)) 0).bind (fun m13 => bnd (f_X7_takesWord m13 0 4) fun (x14 : Int32) (m15 : mM) => chZ x14 (some (x14, m15))) = some (1, nM1) from r3, bnd_some, if_neg i0]
      rcases s2 with ⟨pos2, c, nM2, t1, t2, t3, t4⟩ | s2
      · exact Or.inl ⟨pos2, c, nM2, by omega, t2, t3, t4⟩
      · exact Or.inr s2
    · obtain ⟨mX2, s1, s2⟩ := r2.number
      obtain ⟨mX3, d1, d2⟩ := s2.word (z := 4) (cs := [32]) (by decide) rfl (st_lit (by decide)) (by decide)
      obtain ⟨m4, e1, e2⟩ := dead_either (rc := f_X4_one 6) (y2 := 0) dead_one d2
      obtain ⟨m5, f1, f2⟩ := e2.take (v := 0)
      rw [s1, bnd_some, d1, bnd_some, e1, bnd_some, f1, bnd_some]
      refine ⟨m5, rfl, Or.inr ⟨pos', nM1, f2, ?_, r4, r5⟩⟩
      rw [show (sA 0 nM 10 (nI (10 * W + cs.length)) 0).bind (fun m13 => bnd (f_X7_takesWord m13 0 4) fun (x14 : Int32) (m15 : mM) => chZ x14 (some (x14, m15))) = some (0, nM1) from r3, bnd_some, if_pos rfl]
  rw [if_neg c116, if_neg c116]
  by_cases c102 : nx ch L pos = 102
  · rw [if_pos c102]
    obtain ⟨mX1, nM1, q1, q2⟩ := sim_head hT h16 hLX hM hl 3 7 11 [102, 101, 97, 115, 116] (by decide) (by decide) (st_lit (by decide)) (by decide) (by decide) (w16_lit (by decide))
    rw [q1, bnd_some]
    rcases q2 with ⟨pos', r1, r2, r3, r4, r5⟩ | ⟨pos', r2, r3, r4, r5⟩
    · obtain ⟨mX2, s1, s2⟩ := sim_plain (k := 2) hT (by decide) htk hok r2 r4 hl r5
      refine ⟨mX2, s1, ?_⟩
      rw [show (sA 0 nM 10 (nI (10 * W + cs.length)) 3).bind (fun m17 => bnd (f_X7_takesWord m17 11 5) fun (x18 : Int32) (m19 : mM) => chZ x18 (some (x18, m19))) = some (1, nM1) from r3, bnd_some, if_neg i0]
      rcases s2 with ⟨pos2, c, nM2, t1, t2, t3, t4⟩ | s2
      · exact Or.inl ⟨pos2, c, nM2, by omega, t2, t3, t4⟩
      · exact Or.inr s2
    · obtain ⟨mX2, s1, s2⟩ := dn (k := 2) (by decide) r2
      refine ⟨mX2, s1, Or.inr ⟨pos', nM1, s2, ?_, r4, r5⟩⟩
      rw [show (sA 0 nM 10 (nI (10 * W + cs.length)) 3).bind (fun m17 => bnd (f_X7_takesWord m17 11 5) fun (x18 : Int32) (m19 : mM) => chZ x18 (some (x18, m19))) = some (0, nM1) from r3, bnd_some, if_pos rfl]
  · rw [if_neg c102, nmM_eq]
    have hM2 := hM.wr (c := 10) (v := nI 3) (by decide)
    obtain ⟨nM1, r1, r2, r3⟩ := hM2.2.1.word (q := 11) (cs := [102, 101, 97, 115, 116]) (by decide) (by decide) (by rw [hM2.1.2.1 16 (by decide), h16]; exact w16_lit (by decide)) (by decide)
    have e : wdO ch L ([102, 101, 97, 115, 116] ++ [32]) pos = (pos, false) := if_neg c102
    rw [e] at r1 r3
    refine ⟨_, rfl, Or.inr ⟨pos, nM1, hLX.die, ?_, hM2.1.nm r2, r3⟩⟩
    have r1' : f_X7_takesWord (wA nM 10 ((mA nM 10).set (10 * W + cs.length) 3)) 11 5 = some (0, nM1) := r1
    rw [sA_at0 (by rw [hM.row.1]; omega) (by omega), Option.bind_some, r1', bnd_some, chZ_t (Or.inl rfl), bnd_some, if_pos rfl]
theorem p62_l {m : mM} {pos : Nat} {T : Nat × Nat × Nat} {tk : List (Nat × Nat)} {all : List Int32} (hT : TXT mx m0 L ch) (h : LX mx m a L pos T tk all) : f_X4_parse_62 m = some (if pos = L then 1 else 0, m) := by
  unfold f_X4_parse_62
  rw [h.2.2.1, if_neg i0, h.2.1, h.1.at.1, hT.2.2.2.1]
  have hL := h.2.2.2.2.1
  have hp := h.2.2.2.1
  by_cases c : pos = L
  · rw [if_pos (congrArg nI c), if_pos c]
  · rw [if_neg (fun z => c ((nI_eq (by omega) (by omega)).mp z)), if_neg c]
theorem p62_d {m : mM} {pos : Nat} (h : DX mx m a L pos) : f_X4_parse_62 m = some (0, m) := by
  unfold f_X4_parse_62
  rw [h.2.2.1, if_pos rfl]
theorem p21_d {m : mM} {pos F : Nat} {y : Int32} (h : DX mx m a L pos) : f_X4_parse_21 (F + 1) m a y = some (0, m) := by
  show fb_X4_parse_21 _ _ _ _ = _
  unfold fb_X4_parse_21
  rw [h.2.2.1, if_pos rfl, p62_d h]
  split <;> rfl
theorem FPM.w9 {m : mM} {v : Int32} (h : FPM m0 m W) : FPM m0 (wA m 9 ((mA m 9).set W v)) W := by
  obtain ⟨a1, a2, a3, a4, a5, a6, a7, a8⟩ := h
  refine ⟨a1, fun d hd => by rw [mA_ne (by omega)]; exact a2 d hd, a3, a4, ⟨by rw [mA_wA, if_pos rfl, List.length_set]; exact a5.1, a5.2⟩, fun i hi => by rw [mA_wA, if_pos rfl, gd_ne (by omega)]; exact a6 i hi, fun d i hd hd2 hi => by rw [mA_ne (by omega)]; exact a7 d i hd hd2 hi, a8⟩
theorem KM.w9 {m : mM} {pos : Nat} {cs : List CL} {v : Int32} (h : KM m0 m W L pos ch cs) : KM m0 (wA m 9 ((mA m 9).set W v)) W L pos ch cs := by
  obtain ⟨h1, h2, h3, h4, h5, h6, h7, h8⟩ := h
  exact ⟨h1.w9, h2.wr (by decide), h3, h4, h5, h6, h7, h8⟩
theorem sim_goes (hT : TXT mx m0 L ch) (h16 : mA m0 16 = W16) : ∀ (j : Nat) (cs : List CL) (mX nM : mM) (pos F F2 : Nat), cs.length + j = 10 → 0 < j → j < F → j < F2 → KX mx mX a L pos cs → KM m0 nM W L pos ch cs → ∃ r mX' nM' pos', (bnd (f_X4_clause mX a) fun (x6 : Unit) (m7 : mM) => f_X4_parse_21 F m7 a (nI (cs.length + 1))) = some (r, mX') ∧ f_X7_goesText_15 F2 nM (nI W) (nI cs.length) = some (r, nM') ∧ FPX mx mX' a ∧ FPM m0 nM' W ∧ mI mX' 130 = nI pos' ∧ mI nM' 13 = nI pos' ∧ (r = 0 ∨ (r = 1 ∧ ∃ cs', KX mx mX' a L pos' cs' ∧ KM m0 nM' W L pos' ch cs' ∧ (mA nM' 9).getD W 0 = nI cs'.length)) := by
  intro j
  induction j with
  | zero => intro cs mX nM pos F F2 h1 h2; omega
  | succ j ih =>
    intro cs mX nM pos F F2 h1 _ hF hF2 hX hM
    obtain ⟨F, rfl⟩ : ∃ F', F = F' + 1 := ⟨F - 1, by omega⟩
    obtain ⟨F2, rfl⟩ : ∃ F', F2 = F' + 1 := ⟨F2 - 1, by omega⟩
    have hW := hM.2.2.1
    have e10 : (10 : Int32) * nI W + nI cs.length = nI (10 * W + cs.length) := by
      have e1 : (10 : Int32) * nI W = nI (10 * W) := (Int32.ofNat_mul 10 W).symm
      rw [e1, nI_add]
    have eg : f_X7_goesText_15 (F2 + 1) nM (nI W) (nI cs.length) = fb_X7_goesText_15 (f_X7_goesText_15 F2) nM (nI W) (nI cs.length) := rfl
    rw [eg]
    unfold fb_X7_goesText_15
    obtain ⟨mX2, q1, q2⟩ := sim_clause hT h16 hX hM (by omega)
    rw [q1, bnd_some, e10]
    rcases q2 with ⟨pos2, c, nM2, s1, s2, s3, s4⟩ | ⟨pos2, nM2, s1, s2, s3, s4⟩
    · have l9 : (mA nM2 9).length = 6 := s4.1.2.2.2.2.1.1
      rw [s3, bnd_some, if_neg i0, sA_at0 (by omega) (by omega), Option.bind_some, nI_1]
      have s5 := s4.w9 (v := nI (cs.length + 1))
      have e9 : (mA (wA nM2 9 ((mA nM2 9).set W (nI (cs.length + 1)))) 9).getD W 0 = nI (cs.length + 1) := by
        rw [mA_wA, if_pos rfl, gd_same (by omega)]
      generalize wA nM2 9 ((mA nM2 9).set W (nI (cs.length + 1))) = m6 at s5 e9 ⊢
      obtain ⟨tk2, u1, u2, u3, u4⟩ := id s2
      have hcl : (cs ++ [c]).length = cs.length + 1 := by rw [List.length_append]; rfl
      have hL := u2.2.2.2.2.1
      have hp := u2.2.2.2.1
      rw [s5.2.1.1, s5.2.1.2.1]
      have ex : f_X4_parse_21 (F + 1) mX2 a (nI (cs.length + 1)) = fb_X4_parse_21 (f_X4_parse_21 F) mX2 a (nI (cs.length + 1)) := rfl
      rw [ex]
      unfold fb_X4_parse_21
      rw [u2.2.2.1, if_neg i0, u2.2.1, u2.1.at.1, hT.2.2.2.1, p62_l hT u2]
      by_cases cL : pos2 = L
      · rw [if_pos (congrArg nI cL), if_pos cL, if_pos (nI_le (by omega) (by omega))]
        refine ⟨1, mX2, m6, pos2, by split <;> rfl, rfl, u2.1, s5.1, u2.2.1, s5.2.1.2.1, Or.inr ⟨rfl, cs ++ [c], s2, s5, by rw [e9, hcl]⟩⟩
      · rw [if_neg (fun z => cL ((nI_eq (by omega) (by omega)).mp z)), if_neg cL, if_neg (nI_ge (by omega) (by omega))]
        by_cases c10 : cs.length + 1 = 10
        · rw [if_pos (show nI (cs.length + 1) = (10 : Int32) from (congrArg nI c10 : _ = nI 10)), if_pos (show (10 : Int32) ≤ nI (cs.length + 1) from (nI_le (by omega) (by omega) : nI 10 ≤ nI (cs.length + 1)))]
          exact ⟨0, mX2, m6, pos2, rfl, rfl, u2.1, s5.1, u2.2.1, s5.2.1.2.1, Or.inl rfl⟩
        · rw [if_neg (show ¬ nI (cs.length + 1) = (10 : Int32) from fun z => c10 ((nI_eq (by omega) (by decide)).mp (show nI (cs.length + 1) = nI 10 from z))), if_neg (show ¬ (10 : Int32) ≤ nI (cs.length + 1) from (nI_ge (by omega) (by decide) : ¬ nI 10 ≤ nI (cs.length + 1)))]
          obtain ⟨m8, v1, v2, v3⟩ := s5.2.1.sign (c := 59) (by decide)
          obtain ⟨mX3, w1, w2⟩ := u2.word hT (z := 2) (cs := [59]) (by decide) rfl (st_lit (by decide)) (by decide)
          rw [show (59 : Int32) = nI 59 from rfl, v1, bnd_some, w1, bnd_some]
          unfold wdO wdO at w2
          by_cases c59 : nx ch L pos2 = nI 59
          · rw [if_pos c59] at w2 v3
            have w3 : LX mx mX3 a L (pos2 + 1) (TT (cs ++ [c])) tk2 (flT (clTk (cs ++ [c]))) := by
              rcases w2 with w2 | w2
              · exact w2.2
              · cases w2.1
            rw [decide_eq_true c59, zB_t, if_neg i0, nI_1]
            have := ih (cs ++ [c]) mX3 m8 (pos2 + 1) F F2 (by omega) (by omega) (by omega) (by omega) ⟨tk2, u1, w3, u3, u4⟩ (s5.nm v2 v3 (by omega))
            rw [hcl] at this
            exact this
          · rw [if_neg c59] at w2 v3
            have w3 : DX mx mX3 a L pos2 := by
              rcases w2 with w2 | w2
              · cases w2.1
              · exact w2.2
            obtain ⟨mX4, x1, x2⟩ := dead_clause w3
            obtain ⟨F, rfl⟩ : ∃ F', F = F' + 1 := ⟨F - 1, by omega⟩
            rw [decide_eq_false c59, zB_f, if_pos rfl, x1, bnd_some, p21_d x2]
            exact ⟨0, mX4, m8, pos2, rfl, rfl, x2.1, s5.1.nm v2, x2.2.1, v3.2.1, Or.inl rfl⟩
    · rw [s2, bnd_some, if_pos rfl, p21_d s1]
      exact ⟨0, mX2, nM2, pos2, rfl, rfl, s1.1, s3, s1.2.1, s4.2.1, Or.inl rfl⟩
end X
end GOES
