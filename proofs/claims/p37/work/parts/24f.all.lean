-- 24f.clause.lean.txt
section
/-! TOWN: clauses, both side by side -/
section CLAUSE
def flT : List (Nat × List Int32) → List Int32
  | [] => []
  | x :: xs => x.2 ++ flT xs
theorem flT_app {x : Nat × List Int32} : ∀ {t : List (Nat × List Int32)}, flT (t ++ [x]) = flT t ++ x.2
  | [] => by show x.2 ++ [] = [] ++ x.2; rw [List.append_nil, List.nil_append]
  | y :: ys => by
    show y.2 ++ flT (ys ++ [x]) = (y.2 ++ flT ys) ++ x.2
    rw [flT_app, List.append_assoc]
theorem tkE_full : ∀ {t : List (Nat × List Int32)}, tkE t t.length = (flT t).length
  | [] => rfl
  | y :: ys => by
    show y.2.length + tkE ys ys.length = (y.2 ++ flT ys).length
    rw [tkE_full, List.length_append]
theorem tkE_app {u : List (Nat × List Int32)} : ∀ {t : List (Nat × List Int32)} {i : Nat}, i ≤ t.length → tkE (t ++ u) i = tkE t i
  | [], i, h => by
    obtain rfl : i = 0 := Nat.le_zero.mp h
    rw [tkE0, tkE0]
  | y :: ys, 0, h => by rw [tkE0, tkE0]
  | y :: ys, i + 1, h => by
    show y.2.length + tkE (ys ++ u) i = y.2.length + tkE ys i
    rw [tkE_app (Nat.le_of_succ_le_succ h)]
theorem fl_get : ∀ {t : List (Nat × List Int32)} {i k : Nat}, i < t.length → k < (t.getD i (0, [])).2.length → tkE t i + k < (flT t).length ∧ (flT t).getD (tkE t i + k) 0 = (t.getD i (0, [])).2.getD k 0
  | [], i, k, h, _ => absurd h (Nat.not_lt_zero _)
  | y :: ys, 0, k, _, hk => by
    have hk : k < y.2.length := hk
    rw [tkE0, Nat.zero_add]
    refine ⟨by show k < (y.2 ++ flT ys).length; rw [List.length_append]; omega, ?_⟩
    show (y.2 ++ flT ys).getD k 0 = y.2.getD k 0
    exact ap_lt hk
  | y :: ys, i + 1, k, h, hk => by
    obtain ⟨h1, h2⟩ := fl_get (t := ys) (i := i) (k := k) (Nat.lt_of_succ_lt_succ h) hk
    have e : tkE (y :: ys) (i + 1) + k = y.2.length + (tkE ys i + k) := by
      show y.2.length + tkE ys i + k = _; omega
    rw [e]
    refine ⟨by show _ < (y.2 ++ flT ys).length; rw [List.length_append]; omega, ?_⟩
    show (y.2 ++ flT ys).getD _ 0 = _
    rw [ap_ge (by omega), show y.2.length + (tkE ys i + k) - y.2.length = tkE ys i + k by omega, h2]; rfl
theorem clTk_app {c : CL} : ∀ {cs : List CL}, clTk (cs ++ [c]) = clTk cs ++ (if c.1 = 0 then [(c.2.1, c.2.2)] else [])
  | [] => by
    show clTk [c] = _
    unfold clTk
    by_cases e : c.1 = 0
    · rw [if_pos e, if_pos e]; rfl
    · rw [if_neg e, if_neg e]; rfl
  | d :: ds => by
    show clTk (d :: (ds ++ [c])) = _
    unfold clTk
    by_cases e : d.1 = 0
    · rw [if_pos e, if_pos e, clTk_app]; rfl
    · rw [if_neg e, if_neg e, clTk_app]
theorem clLast_app {w : Nat} {c : CL} : ∀ {cs : List CL} {d : Nat}, clLast w d (cs ++ [c]) = if c.1 = w then c.2.1 else clLast w d cs
  | [], d => rfl
  | e :: es, d => by
    show clLast w _ (es ++ [c]) = _
    rw [clLast_app]; rfl
def TT (cs : List CL) : Nat × Nat × Nat := (clLast 1 10 cs, clLast 2 1 cs, clLast 3 99 cs)
def TKL (cs : List CL) (tk : List (Nat × Nat)) : Prop := tk.length = (clTk cs).length ∧ ∀ i, i < tk.length → (tk.getD i (0, 0)).1 = ((clTk cs).getD i (0, [])).1 ∧ (tk.getD i (0, 0)).2 = tkE (clTk cs) (i + 1)
/-- the class between clauses -/
def KX (mx m : mM) (a L pos : Nat) (cs : List CL) : Prop := ∃ tk, TKL cs tk ∧ LX mx m a L pos (TT cs) tk (flT (clTk cs)) ∧ (∀ c ∈ cs, clOk c) ∧ cs.length ≤ 10
/-- a clause of the reference -/
def KC (m : mM) (W : Nat) (all : List Int32) (c : Nat) (x : CL) : Prop := (mA m 10).getD (10 * W + c) 0 = nI x.1 ∧ (mA m 11).getD (10 * W + c) 0 = nI x.2.1 ∧ (x.1 = 0 → ∃ o, o + x.2.2.length ≤ all.length ∧ (mA m 12).getD (10 * W + c) 0 = nI (100 * W + o) ∧ (mA m 13).getD (10 * W + c) 0 = nI (100 * W + o + x.2.2.length) ∧ ∀ i, i < x.2.2.length → all.getD (o + i) 0 = x.2.2.getD i 0)
/-- the reference between clauses -/
def KM (m0 m : mM) (W L pos : Nat) (ch : Nat → Nat) (cs : List CL) : Prop := FPM m0 m W ∧ TM m L ch pos ∧ W < 6 ∧ cs.length ≤ 10 ∧ mI m 23 = nI (100 * W + (flT (clTk cs)).length) ∧ (flT (clTk cs)).length ≤ pos ∧ (∀ i, i < (flT (clTk cs)).length → (mA m 14).getD (100 * W + i) 0 = (flT (clTk cs)).getD i 0) ∧ ∀ c, c < cs.length → KC m W (flT (clTk cs)) c (cs.getD c (0, 0, []))
def ft3 (T : Nat × Nat × Nat) (v : Nat) : Nat → Nat × Nat × Nat
  | 0 => (v, T.2)
  | 1 => (T.1, v, T.2.2)
  | _ => (T.1, T.2.1, v)
theorem FPX.len {mx m : mM} {a : Nat} (h : FPX mx m a) : TXh m a := h.2.2.2.2.2
section X
variable {mx m0 : mM} {a L W : Nat} {ch : Nat → Nat} {T : Nat × Nat × Nat} {tk : List (Nat × Nat)} {all : List Int32}
theorem LX.fld {m : mM} {pos k v : Nat} (hk : k < 3) (h : LX mx m a L pos T tk all) : LX mx (wI m (64 * a + k) (nI v)) a L pos (ft3 T v k) tk all := by
  obtain ⟨h1, h2, h3, h4, h5, ⟨f1, f2, f3⟩, h7, h8⟩ := h
  have h0 := h1.1
  refine ⟨h1.I (by omega), by rw [mI_wI, if_neg (by omega)]; exact h2, by rw [mI_wI, if_neg (by omega)]; exact h3, h4, h5, ?_, ?_, ?_⟩
  · match k, hk with
    | 0, _ => exact ⟨by rw [mI_wI, if_pos rfl]; rfl, by rw [mI_wI, if_neg (by omega)]; exact f2, by rw [mI_wI, if_neg (by omega)]; exact f3⟩
    | 1, _ => exact ⟨by rw [mI_wI, if_neg (by omega)]; exact f1, by rw [mI_wI, if_pos rfl]; rfl, by rw [mI_wI, if_neg (by omega)]; exact f3⟩
    | 2, _ => exact ⟨by rw [mI_wI, if_neg (by omega)]; exact f1, by rw [mI_wI, if_neg (by omega)]; exact f2, by rw [mI_wI, if_pos rfl]; rfl⟩
  · rw [mI_wI, if_neg (by omega)]; exact h7
  · rw [mI_wI, if_neg (by omega)]; exact h8
theorem DX.fld {m : mM} {pos k : Nat} {v : Int32} (hk : k < 3) (h : DX mx m a L pos) : DX mx (wI m (64 * a + k) v) a L pos := by
  obtain ⟨h1, h2, h3, h4, ⟨s, h5, h6⟩, ⟨t, h7, h8⟩⟩ := h
  have h0 := h1.1
  exact ⟨h1.I (by omega), by rw [mI_wI, if_neg (by omega)]; exact h2, by rw [mI_wI, if_neg (by omega)]; exact h3, h4, ⟨s, h5, by rw [mI_wI, if_neg (by omega)]; exact h6⟩, ⟨t, h7, by rw [mI_wI, if_neg (by omega)]; exact h8⟩⟩
theorem sim_word (hT : TXT mx m0 L ch) {mX nM : mM} {pos z q : Nat} {cs : List Nat} (hl : cs.length < 90) (hz : stL z = some (nI (cs ++ [32]).length)) (hs : ∀ i, i < (cs ++ [32]).length → stA z (nI i) = some (nI ((cs ++ [32]).getD i 0))) (hc : ∀ c ∈ cs, c < 128) (hq : q < 100) (h16 : ∀ i, i < cs.length → gA (mA nM 16) (nI (q + i)) = some (nI (cs.getD i 0))) (hX : LX mx mX a L pos T tk all) (hM : TM nM L ch pos) : ∃ mX' nM', f_X4_word mX z = some ((), mX') ∧ NM nM nM' ∧ ((∃ pos', pos ≤ pos' ∧ LX mx mX' a L pos' T tk all ∧ f_X7_takesWord nM (nI q) (nI cs.length) = some (1, nM') ∧ TM nM' L ch pos') ∨ (∃ pos', DX mx mX' a L pos' ∧ f_X7_takesWord nM (nI q) (nI cs.length) = some (0, nM') ∧ TM nM' L ch pos')) := by
  have hc2 : ∀ c ∈ cs ++ [32], c < 128 := fun c h => by
    rcases List.mem_append.mp h with h | h
    · exact hc c h
    · cases List.mem_singleton.mp h; decide
  obtain ⟨mX', q1, q2⟩ := hX.word hT (z := z) (cs := cs ++ [32]) (by rw [List.length_append]; show _ + 1 < _; omega) hz hs hc2
  obtain ⟨nM', r1, r2, r3⟩ := hM.word (q := q) (cs := cs) (by omega) hq h16 hc
  obtain ⟨i1, i2⟩ := wdO_in (ch := ch) (L := L) (cs := cs ++ [32]) (pos := pos) hc2 hM.2.2.1
  refine ⟨mX', nM', q1, r2, ?_⟩
  rcases q2 with ⟨e, q2⟩ | ⟨e, q2⟩
  · rw [e, zB_t] at r1
    exact Or.inl ⟨_, i1, q2, r1, r3⟩
  · rw [e, zB_f] at r1
    exact Or.inr ⟨_, q2, r1, r3⟩
theorem sim_number (hT : TXT mx m0 L ch) {mX nM : mM} {pos : Nat} (hX : LX mx mX a L pos T tk all) (hM : TM nM L ch pos) : (∃ v pos' mX' nM', v < 100 ∧ pos < pos' ∧ f_X4_number mX = some (nI v, mX') ∧ LX mx mX' a L pos' T tk all ∧ f_X7_takesNumber nM = some (1, nM') ∧ NM nM nM' ∧ TM nM' L ch pos' ∧ mI nM' 14 = nI v) ∨ (∃ mX', f_X4_number mX = some (0, mX') ∧ DX mx mX' a L pos ∧ f_X7_takesNumber nM = some (0, nM)) := by
  have hb : ∀ i, i < L → ch i < 128 := fun i hi => (hT.2.2.2.2.2 i hi).2.2
  rcases hX.number hT with ⟨b1, mX3, b2, b3⟩ | ⟨v, p', mX3, b1, b2, b3⟩
  · rcases hM.number with ⟨c1, c2⟩ | ⟨v', p'', m', c1, _⟩
    · exact Or.inr ⟨mX3, b2, b3, c2⟩
    · rw [b1] at c1; cases c1
  · rcases hM.number with ⟨c1, _⟩ | ⟨v', p'', m', c1, c2, c3, c4, c5⟩
    · rw [b1] at c1; cases c1
    · obtain ⟨i1, i2, i3⟩ := nbO_in hb b1
      rw [b1] at c1; cases c1
      exact Or.inl ⟨v, p', mX3, m', i3, i1, b2, b3, c2, c3, c4, c5⟩
/-- rows 10 to 13 written at p -/
theorem FPM.wr {m : mM} {c p : Nat} {v : Int32} (h : FPM m0 m W) (hc : 10 ≤ c ∧ c ≤ 13) (hp : 10 * W ≤ p) : FPM m0 (wA m c ((mA m c).set p v)) W := by
  obtain ⟨a1, a2, a3, a4, a5, a6, a7, a8⟩ := h
  have key : ∀ d, (mA (wA m c ((mA m c).set p v)) d).length = (mA m d).length := fun d => by
    rw [mA_wA]
    by_cases e : d = c
    · rw [if_pos e, e, List.length_set]
    · rw [if_neg e]
  refine ⟨a1, fun d hd => by rw [mA_ne (by omega)]; exact a2 d hd, a3, a4, ?_, by rw [mA_ne (by omega)]; exact a6, fun d i hd hd2 hi => ?_, by rw [mA_ne (by omega)]; exact a8⟩
  · simp only [key]; exact a5
  · rw [mA_wA]
    by_cases e : d = c
    · rw [if_pos e, gd_ne (by omega), ← e]; exact a7 d i hd hd2 hi
    · rw [if_neg e]; exact a7 d i hd hd2 hi
theorem TM.wr {m : mM} {c pos : Nat} {l : List Int32} (h : TM m L ch pos) (hc : c ≠ 8) : TM (wA m c l) L ch pos := by
  obtain ⟨h1, h2, h3, h4, h5, h6⟩ := h
  exact ⟨h1, h2, h3, h4, by rw [mA_ne (Ne.symm hc)]; exact h5, by rw [mA_ne (Ne.symm hc)]; exact h6⟩
theorem KC.app {m : mM} {c : Nat} {x : CL} {ops : List Int32} (h : KC m W all c x) : KC m W (all ++ ops) c x := by
  refine ⟨h.1, h.2.1, fun e => ?_⟩
  obtain ⟨o, h1, h2, h3, h4⟩ := h.2.2 e
  exact ⟨o, by rw [List.length_append]; omega, h2, h3, fun i hi => by rw [ap_lt (by omega)]; exact h4 i hi⟩
theorem KC.fr {m m' : mM} {c p : Nat} {x : CL} (h : KC m W all c x) (hp : 10 * W + c ≠ p) (f : ∀ d i, 10 ≤ d → d ≤ 13 → i ≠ p → (mA m' d).getD i 0 = (mA m d).getD i 0) : KC m' W all c x := by
  unfold KC at h ⊢
  rw [f 10 _ (by decide) (by decide) hp, f 11 _ (by decide) (by decide) hp, f 12 _ (by decide) (by decide) hp, f 13 _ (by decide) (by decide) hp]
  exact h
theorem dead_clause {m : mM} {pos : Nat} (h : DX mx m a L pos) : ∃ m', f_X4_clause m a = some ((), m') ∧ DX mx m' a L pos := by
  unfold f_X4_clause
  rw [h.next, bnd_some, if_neg (by decide), if_neg (by decide), if_neg (by decide), if_neg (by decide), nmM_eq]
  exact ⟨_, rfl, h.die⟩
end X
end CLAUSE
end
-- 24g.clauses.lean.txt
section
/-! TOWN: a clause, both side by side -/
section CLAUSES
def W16 : List Int32 := [116, 97, 107, 101, 100, 117, 101, 99, 111, 115, 116, 102, 101, 97, 115, 116]
def tcT (m2 : mM) (p1 : Int32) : fR Int32 := bnd (f_X7_takesNumber m2 ) fun (x4 : Int32) (m5 : mM) => (if x4 = 0 then some (0, m5) else (sA 0 m5 11 p1 (mI m5 14)).bind fun m7 => (gA (mA m7 10) p1).bind fun x8 => (if 0 < x8 then some (1, m7) else bnd (f_X7_takes m7 32) fun (x9 : Int32) (m10 : mM) => (if x9 = 0 then some (0, m10) else bnd (f_X7_takesE m10 p1) fun (x12 : Int32) (m13 : mM) => (if x12 = 0 then some (0, m13) else some (1, m13)))))
theorem clause_eq {m : mM} {p1 : Int32} : f_X7_takesClause m p1 = bnd (f_X7_takesHead m p1) fun (x1 : Int32) (m2 : mM) => (if x1 = 0 then some (0, m2) else tcT m2 p1) := rfl
section X
variable {mx m0 : mM} {a L W : Nat} {ch : Nat → Nat} {cs : List CL}
theorem KM.wr {m : mM} {pos c : Nat} {v : Int32} (h : KM m0 m W L pos ch cs) (hc : 10 ≤ c ∧ c ≤ 13) : KM m0 (wA m c ((mA m c).set (10 * W + cs.length) v)) W L pos ch cs := by
  obtain ⟨h1, h2, h3, h4, h5, h6, h7, h8⟩ := h
  refine ⟨h1.wr hc (by omega), h2.wr (by omega), h3, h4, h5, h6, by rw [mA_ne (by omega)]; exact h7, fun c' hc' => (h8 c' hc').fr (p := 10 * W + cs.length) (by omega) (fun d i d1 d2 hi => ?_)⟩
  rw [mA_wA]
  by_cases e : d = c
  · rw [if_pos e, gd_ne (Ne.symm hi), e]
  · rw [if_neg e]
theorem KM.nm {m m' : mM} {pos pos' : Nat} (h : KM m0 m W L pos ch cs) (g : NM m m') (t : TM m' L ch pos') (hp : pos ≤ pos') : KM m0 m' W L pos' ch cs := by
  obtain ⟨h1, h2, h3, h4, h5, h6, h7, h8⟩ := h
  refine ⟨h1.nm g, t, h3, h4, by rw [g.1 23 (by decide) (by decide)]; exact h5, by omega, by rw [g.2.1]; exact h7, fun c hc => ?_⟩
  have := h8 c hc
  unfold KC at this ⊢
  simp only [g.2.1]; exact this
theorem KM.row {m : mM} {pos : Nat} (h : KM m0 m W L pos ch cs) : (mA m 10).length = 60 ∧ (mA m 11).length = 60 ∧ (mA m 12).length = 60 ∧ (mA m 13).length = 60 := ⟨h.1.2.2.2.2.1.2.1, h.1.2.2.2.2.1.2.2.1, h.1.2.2.2.2.1.2.2.2.1, h.1.2.2.2.2.1.2.2.2.2.1⟩
theorem TT_k {k v : Nat} {ops : List Int32} (hk : k < 3) : TT (cs ++ [(k + 1, v, ops)]) = ft3 (TT cs) v k := by
  unfold TT
  rw [clLast_app, clLast_app, clLast_app]
  match k, hk with
  | 0, _ => rfl
  | 1, _ => rfl
  | 2, _ => rfl
theorem sim_plain (hT : TXT mx m0 L ch) {mX nM : mM} {pos k : Nat} {tk : List (Nat × Nat)} (hk : k < 3) (htk : TKL cs tk) (hok : ∀ c ∈ cs, clOk c) (hX : LX mx mX a L pos (TT cs) tk (flT (clTk cs))) (hM : KM m0 nM W L pos ch cs) (hl : cs.length < 10) (h10 : (mA nM 10).getD (10 * W + cs.length) 0 = nI (k + 1)) : ∃ mX', (bnd (f_X4_number mX) fun (x8 : Int32) (m9 : mM) => nmM (wI m9 (64 * a + k) x8) fun m11 => some ((), m11)) = some ((), mX') ∧ ((∃ pos' c nM', pos < pos' ∧ KX mx mX' a L pos' (cs ++ [c]) ∧ tcT nM (nI (10 * W + cs.length)) = some (1, nM') ∧ KM m0 nM' W L pos' ch (cs ++ [c])) ∨ (∃ pos' nM', DX mx mX' a L pos' ∧ tcT nM (nI (10 * W + cs.length)) = some (0, nM') ∧ FPM m0 nM' W ∧ TM nM' L ch pos')) := by
  obtain ⟨l10, l11, l12, l13⟩ := hM.row
  have hW := hM.2.2.1
  unfold tcT
  rcases sim_number hT hX hM.2.1 with ⟨v, p', mX2, nM2, b1, b2, b3, b4, b5, b6, b7, b8⟩ | ⟨mX2, b1, b2, b3⟩
  · have hM2 := hM.nm b6 b7 (by omega)
    have hM3 := hM2.wr (c := 11) (v := nI v) (by decide)
    have e10 : gA (mA (wA nM2 11 ((mA nM2 11).set (10 * W + cs.length) (nI v))) 10) (nI (10 * W + cs.length)) = some (nI (k + 1)) := by
      rw [mA_ne (by decide), b6.2.1, gA_at (by omega) (by omega), h10]
    rw [b3, bnd_some, nmM_eq, b5, bnd_some, if_neg i0, b8, sA_at0 (by rw [b6.2.1]; omega) (by omega), Option.bind_some, e10, Option.bind_some, if_pos (show (0 : Int32) < nI (k + 1) from (nI_lt (by omega) (by omega) : nI 0 < nI (k + 1)))]
    have ec : clTk (cs ++ [(k + 1, v, [])]) = clTk cs := by
      rw [clTk_app, if_neg (Nat.succ_ne_zero k), List.append_nil]
    refine ⟨_, rfl, Or.inl ⟨p', (k + 1, v, []), _, b2, ⟨tk, ?_, ?_, fun c hc => ?_, by rw [List.length_append]; exact hl⟩, rfl, ?_⟩⟩
    · unfold TKL; rw [ec]; exact htk
    · rw [ec, TT_k hk]; exact b4.fld hk
    · rcases List.mem_append.mp hc with hc | hc
      · exact hok c hc
      · cases List.mem_singleton.mp hc
        exact ⟨by show k + 1 < 4; omega, b1, fun z => absurd z (Nat.succ_ne_zero k)⟩
    · obtain ⟨q1, q2, q3, q4, q5, q6, q7, q8⟩ := hM3
      refine ⟨q1, q2, q3, by rw [List.length_append]; exact hl, by rw [ec]; exact q5, by rw [ec]; exact q6, by rw [ec]; exact q7, fun c hc => ?_⟩
      rw [List.length_append] at hc
      have hc : c < cs.length + 1 := hc
      rw [ec]
      by_cases e : c = cs.length
      · subst e
        rw [ap_at]
        refine ⟨?_, ?_, fun z => absurd z (Nat.succ_ne_zero k)⟩
        · rw [mA_ne (by decide), b6.2.1]; exact h10
        · rw [mA_wA, if_pos rfl, gd_same (by rw [b6.2.1]; omega)]
      · rw [ap_lt (by omega)]; exact q8 c (by omega)
  · rw [b1, bnd_some, nmM_eq, b3, bnd_some, if_pos rfl]
    exact ⟨_, rfl, Or.inr ⟨pos, nM, b2.fld hk, rfl, hM.1, hM.2.1⟩⟩
theorem FPM.I {m : mM} {k : Nat} {v : Int32} (h : FPM m0 m W) (hk : k = 13 ∨ k = 14 ∨ k = 23 ∨ k = 24 ∨ k = 25) : FPM m0 (wI m k v) W := by
  obtain ⟨a1, a2⟩ := h
  exact ⟨fun j j1 j2 j3 j4 j5 => by rw [mI_wI, if_neg (by omega)]; exact a1 j j1 j2 j3 j4 j5, a2⟩
theorem sim_take (hT : TXT mx m0 L ch) {mX nM : mM} {pos : Nat} {tk : List (Nat × Nat)} (htk : TKL cs tk) (hok : ∀ c ∈ cs, clOk c) (hX : LX mx mX a L pos (TT cs) tk (flT (clTk cs))) (hM : KM m0 nM W L pos ch cs) (hl : cs.length < 10) (h10 : (mA nM 10).getD (10 * W + cs.length) 0 = nI 0) : ∃ mX', (bnd (f_X4_number mX) fun (x29 : Int32) (m30 : mM) => bnd (f_X4_word m30 4) fun (x32 : Unit) (m33 : mM) => bnd (f_X4_either (f_X4_one 6) m33 a 0) fun (x35 : Unit) (m36 : mM) => bnd (f_X5_addTake m36 a x29) fun (x38 : Unit) (m39 : mM) => some ((), m39)) = some ((), mX') ∧ ((∃ pos' c nM', pos < pos' ∧ KX mx mX' a L pos' (cs ++ [c]) ∧ tcT nM (nI (10 * W + cs.length)) = some (1, nM') ∧ KM m0 nM' W L pos' ch (cs ++ [c])) ∨ (∃ pos' nM', DX mx mX' a L pos' ∧ tcT nM (nI (10 * W + cs.length)) = some (0, nM') ∧ FPM m0 nM' W ∧ TM nM' L ch pos')) := by
  obtain ⟨l10, l11, l12, l13⟩ := hM.row
  have hW := hM.2.2.1
  have hz : stL 4 = some (nI [32].length) := rfl
  have hzs : ∀ i, i < [32].length → stA 4 (nI i) = some (nI ([32].getD i 0)) := fun i hi => by
    match i, hi with
    | 0, _ => rfl
  have hdead : ∀ {m : mM} {pos : Nat} {x : Int32}, DX mx m a L pos → ∃ mX', (bnd (f_X4_either (f_X4_one 6) m a 0) fun (x35 : Unit) (m36 : mM) => bnd (f_X5_addTake m36 a x) fun (x38 : Unit) (m39 : mM) => some ((), m39)) = some ((), mX') ∧ DX mx mX' a L pos := fun {m pos x} h => by
    obtain ⟨m2, q1, q2⟩ := dead_either (y2 := 0) dead_one h
    obtain ⟨m3, r1, r2⟩ := q2.take (v := x)
    rw [q1, bnd_some, r1, bnd_some]
    exact ⟨m3, rfl, r2⟩
  unfold tcT
  rcases sim_number hT hX hM.2.1 with ⟨v, p', mX2, nM2, b1, b2, b3, b4, b5, b6, b7, b8⟩ | ⟨mX2, b1, b2, b3⟩
  · have hM2 := hM.nm b6 b7 (by omega)
    have hM3 := hM2.wr (c := 11) (v := nI v) (by decide)
    have e10' : (mA (wA nM2 11 ((mA nM2 11).set (10 * W + cs.length) (nI v))) 10).getD (10 * W + cs.length) 0 = nI 0 := by
      rw [mA_ne (by decide), b6.2.1, h10]
    have e11' : (mA (wA nM2 11 ((mA nM2 11).set (10 * W + cs.length) (nI v))) 11).getD (10 * W + cs.length) 0 = nI v := by
      rw [mA_wA, if_pos rfl, gd_same (by rw [b6.2.1]; omega)]
    have e10 : gA (mA (wA nM2 11 ((mA nM2 11).set (10 * W + cs.length) (nI v))) 10) (nI (10 * W + cs.length)) = some 0 := by
      rw [gA_at (by rw [mA_ne (by decide), b6.2.1]; omega) (by omega), e10']; rfl
    rw [b3, bnd_some, b5, bnd_some, if_neg i0, b8, sA_at0 (by rw [b6.2.1]; omega) (by omega), Option.bind_some, e10, Option.bind_some, if_neg (show ¬ (0 : Int32) < 0 by decide)]
    generalize wA nM2 11 ((mA nM2 11).set (10 * W + cs.length) (nI v)) = m7 at hM3 e10' e11' ⊢
    obtain ⟨m10, c1, c2, c3⟩ := hM3.2.1.sign (c := 32) (by decide)
    obtain ⟨mX3, d1, d2⟩ := b4.word hT (z := 4) (cs := [32]) (by decide) hz hzs (by decide)
    rw [d1, bnd_some, show (32 : Int32) = nI 32 from rfl, c1, bnd_some]
    unfold wdO wdO at d2
    by_cases c32 : nx ch L p' = nI 32
    · rw [if_pos c32] at d2 c3
      have d3 : LX mx mX3 a L (p' + 1) (TT cs) tk (flT (clTk cs)) := by
        rcases d2 with d2 | d2
        · exact d2.2
        · cases d2.1
      rw [decide_eq_true c32, zB_t, if_neg i0]
      have hM4 := hM3.nm c2 c3 (by omega)
      have f10 : (mA m10 10).getD (10 * W + cs.length) 0 = nI 0 := by rw [c2.2.1]; exact e10'
      have f11 : (mA m10 11).getD (10 * W + cs.length) 0 = nI v := by rw [c2.2.1]; exact e11'
      unfold f_X7_takesE
      rw [nmM_eq, nmM_eq, sA_at0 (by show 10 * W + cs.length < (mA m10 12).length; rw [hM4.row.2.2.1]; omega) (by omega), Option.bind_some]
      rw [show mA (wI (wI m10 24 0) 25 0) 12 = mA m10 12 from rfl, show mI (wI (wI m10 24 0) 25 0) 23 = mI m10 23 from rfl]
      have hM5 : KM m0 (wA (wI (wI m10 24 0) 25 0) 12 ((mA m10 12).set (10 * W + cs.length) (mI m10 23))) W L (p' + 1) ch cs := by
        have : KM m0 (wI (wI m10 24 0) 25 0) W L (p' + 1) ch cs := by
          obtain ⟨q1, q2, q3, q4, q5, q6, q7, q8⟩ := hM4
          exact ⟨(q1.I (by decide)).I (by decide), q2, q3, q4, q5, q6, q7, q8⟩
        exact this.wr (c := 12) (v := mI m10 23) (by decide)
      have g10 : (mA (wA (wI (wI m10 24 0) 25 0) 12 ((mA m10 12).set (10 * W + cs.length) (mI m10 23))) 10).getD (10 * W + cs.length) 0 = nI 0 := f10
      have g11 : (mA (wA (wI (wI m10 24 0) 25 0) 12 ((mA m10 12).set (10 * W + cs.length) (mI m10 23))) 11).getD (10 * W + cs.length) 0 = nI v := f11
      have g12 : (mA (wA (wI (wI m10 24 0) 25 0) 12 ((mA m10 12).set (10 * W + cs.length) (mI m10 23))) 12).getD (10 * W + cs.length) 0 = nI (100 * W + (flT (clTk cs)).length) := by
        rw [mA_wA, if_pos rfl, gd_same (by rw [hM4.row.2.2.1]; omega)]; exact hM4.2.2.2.2.1
      have gS : SK (wA (wI (wI m10 24 0) 25 0) 12 ((mA m10 12).set (10 * W + cs.length) (mI m10 23))) [] := ⟨rfl, rfl, trivial⟩
      generalize wA (wI (wI m10 24 0) 25 0) 12 ((mA m10 12).set (10 * W + cs.length) (mI m10 23)) = m3 at hM5 g10 g11 g12 gS ⊢
      obtain ⟨q1, q2, q3, q4, q5, q6, q7, q8⟩ := id hM5
      have hLM : LM m0 m3 m3 W L (10 * W + cs.length) (p' + 1) ch (flT (clTk cs)) := ⟨q1, ⟨rfl, rfl, rfl, rfl, fun _ _ => rfl⟩, q2, ⟨hW, by omega, by omega⟩, q5, q6, q7⟩
      have hL := d3.2.2.2.2.1
      obtain ⟨mX4, r1, r2⟩ := sim_either hT (sim_one (m0 := m0) (m1 := m3) (W := W) (p := 10 * W + cs.length) (T := TT cs) (tk := tk) hT 6 0 (by decide) (by decide)) dead_one (by decide) d3 hLM gS (Or.inl rfl) rfl (by show _ + 0 ≤ _; omega) (F := 1000) (by omega)
      have r1 : f_X4_either (f_X4_one 6) mX3 a 0 = some ((), mX4) := r1
      rw [r1, bnd_some]
      rcases r2 with ⟨pos4, ops, m4, F4, s1, s2, s3, s4, s5, s6, s7, s8⟩ | ⟨pos4, m4, all4, s1, s2, s3⟩
      · rw [s4]
        unfold tlE
        have l13' : (mA m4 13).length = 60 := s5.1.2.2.2.2.1.2.2.2.2.1
        rw [sA_at0 (by omega) (by omega), Option.bind_some, show mI (wA m4 13 ((mA m4 13).set (10 * W + cs.length) (mI m4 23))) 24 = 0 from s6.1, if_pos rfl, bnd_some, if_neg i0]
        have htl : tk.length < 10 := by
          have := htk.1
          have := clTk_len (cs := cs)
          omega
        obtain ⟨mX5, t1, t2⟩ := s3.take (v := v) htl
        rw [t1, bnd_some]
        have ec : clTk (cs ++ [(0, v, ops)]) = clTk cs ++ [(v, ops)] := by rw [clTk_app, if_pos rfl]
        have ef : flT (clTk (cs ++ [(0, v, ops)])) = flT (clTk cs) ++ ops := by rw [ec, flT_app]
        have eT : TT (cs ++ [(0, v, ops)]) = TT cs := by
          unfold TT; rw [clLast_app, clLast_app, clLast_app]; rfl
        have hwf : wfc 0 ops := by
          have := s8 0 [] (by decide) (show wfc 1 [] from rfl)
          rw [List.append_nil] at this; exact this
        refine ⟨mX5, rfl, Or.inl ⟨pos4, (0, v, ops), _, by omega, ⟨tk ++ [(v, (flT (clTk cs) ++ ops).length)], ⟨?_, fun i hi => ?_⟩, ?_, fun c hc => ?_, by rw [List.length_append]; exact hl⟩, rfl, ?_⟩⟩
        · rw [ec, List.length_append (as := tk), List.length_append (as := clTk cs), htk.1]; rfl
        · rw [List.length_append] at hi
          have hi : i < tk.length + 1 := hi
          have hkl := htk.1
          rw [ec]
          by_cases e : i = tk.length
          · subst e
            rw [ap_at]
            have e2 : (clTk cs ++ [(v, ops)]).getD tk.length (0, []) = (v, ops) := by rw [hkl, ap_at]
            rw [e2]
            refine ⟨rfl, ?_⟩
            have e3 := tkE_full (t := clTk cs ++ [(v, ops)])
            rw [flT_app, List.length_append] at e3
            rw [hkl]
            exact e3.symm
          · rw [ap_lt (by omega), ap_lt (by omega), tkE_app (by omega)]
            exact htk.2 i (by omega)
        · rw [eT, ef]; exact t2
        · rcases List.mem_append.mp hc with hc | hc
          · exact hok c hc
          · cases List.mem_singleton.mp hc
            exact ⟨Nat.zero_lt_succ 3, b1, fun _ => hwf⟩
        · obtain ⟨u1, ⟨u2, u3, u4, u5, u6⟩, u7, u8, u9, u10, u11⟩ := s5
          have fr : ∀ d i, 10 ≤ d → d ≤ 13 → i ≠ 10 * W + cs.length → (mA (wA m4 13 ((mA m4 13).set (10 * W + cs.length) (mI m4 23))) d).getD i 0 = (mA m3 d).getD i 0 := fun d i d1 d2 hi => by
            rw [mA_wA]
            by_cases e13 : d = 13
            · rw [if_pos e13, gd_ne (Ne.symm hi), e13]; exact u6 i hi
            · rw [if_neg e13]
              by_cases e10 : d = 10
              · rw [e10, u3]
              · by_cases e11 : d = 11
                · rw [e11, u4]
                · obtain rfl : d = 12 := by omega
                  rw [u5]
          refine ⟨u1.wr (by decide) (by omega), u7.wr (by decide), hW, by rw [List.length_append]; exact hl, by rw [ef]; exact u9, by rw [ef]; exact u10, by rw [ef]; exact u11, fun c hc => ?_⟩
          rw [List.length_append] at hc
          have hc : c < cs.length + 1 := hc
          rw [ef]
          by_cases e : c = cs.length
          · subst e
            rw [ap_at]
            refine ⟨?_, ?_, fun _ => ⟨(flT (clTk cs)).length, by rw [List.length_append]; exact Nat.le_refl _, ?_, ?_, fun i hi => ?_⟩⟩
            · rw [mA_ne (by decide), u3]; exact g10
            · rw [mA_ne (by decide), u4]; exact g11
            · rw [mA_ne (by decide), u5]; exact g12
            · rw [mA_wA, if_pos rfl, gd_same (by omega), u9, List.length_append, Nat.add_assoc]
            · rw [ap_ge (by omega), Nat.add_sub_cancel_left]
          · rw [ap_lt (by omega)]
            exact ((q8 c (by omega)).fr (p := 10 * W + cs.length) (by omega) fr).app
      · obtain ⟨mX5, t1, t2⟩ := s1.take (v := nI v)
        rw [t1, bnd_some, s2, bnd_some, if_pos rfl]
        exact ⟨mX5, rfl, Or.inr ⟨pos4, m4, t2, rfl, s3.1, s3.2.2.1⟩⟩
    · rw [if_neg c32] at d2 c3
      have d3 : DX mx mX3 a L p' := by
        rcases d2 with d2 | d2
        · cases d2.1
        · exact d2.2
      obtain ⟨mX5, t1, t2⟩ := hdead (x := nI v) d3
      rw [decide_eq_false c32, zB_f, if_pos rfl, t1]
      exact ⟨mX5, rfl, Or.inr ⟨p', m10, t2, rfl, hM3.1.nm c2, c3⟩⟩
  · obtain ⟨mX3, d1, d2⟩ := b2.word (z := 4) (cs := [32]) (by decide) hz hzs (by decide)
    obtain ⟨mX5, t1, t2⟩ := hdead (x := 0) d2
    rw [b1, bnd_some, d1, bnd_some, t1, b3, bnd_some, if_pos rfl]
    exact ⟨mX5, rfl, Or.inr ⟨pos, nM, t2, rfl, hM.1, hM.2.1⟩⟩
end X
end CLAUSES
end
-- 24h.goes.lean.txt
section
/-! TOWN: the whole text, both side by side -/
section GOES
section X
variable {mx m0 : mM} {a L W : Nat} {ch : Nat → Nat}
theorem sim_head (hT : TXT mx m0 L ch) (h16 : mA m0 16 = W16) {cs : List CL} {mX nM : mM} {pos : Nat} {tk : List (Nat × Nat)} (hX : LX mx mX a L pos (TT cs) tk (flT (clTk cs))) (hM : KM m0 nM W L pos ch cs) (hl : cs.length < 10) (kd z q : Nat) (wd : List Nat) (hwl : wd.length < 90) (hz : stL z = some (nI (wd ++ [32]).length)) (hs : ∀ i, i < (wd ++ [32]).length → stA z (nI i) = some (nI ((wd ++ [32]).getD i 0))) (hc : ∀ c ∈ wd, c < 128) (hq : q < 100) (hw : ∀ i, i < wd.length → gA W16 (nI (q + i)) = some (nI (wd.getD i 0))) : ∃ mX1 nM1, f_X4_word mX z = some ((), mX1) ∧ ((∃ pos', pos ≤ pos' ∧ LX mx mX1 a L pos' (TT cs) tk (flT (clTk cs)) ∧ ((sA 0 nM 10 (nI (10 * W + cs.length)) (nI kd)).bind fun m5 => bnd (f_X7_takesWord m5 (nI q) (nI wd.length)) fun (x : Int32) (m7 : mM) => chZ x (some (x, m7))) = some (1, nM1) ∧ KM m0 nM1 W L pos' ch cs ∧ (mA nM1 10).getD (10 * W + cs.length) 0 = nI kd) ∨ (∃ pos', DX mx mX1 a L pos' ∧ ((sA 0 nM 10 (nI (10 * W + cs.length)) (nI kd)).bind fun m5 => bnd (f_X7_takesWord m5 (nI q) (nI wd.length)) fun (x : Int32) (m7 : mM) => chZ x (some (x, m7))) = some (0, nM1) ∧ FPM m0 nM1 W ∧ TM nM1 L ch pos')) := by
  have hW := hM.2.2.1
  have hM2 := hM.wr (c := 10) (v := nI kd) (by decide)
  have e10 : (mA (wA nM 10 ((mA nM 10).set (10 * W + cs.length) (nI kd))) 10).getD (10 * W + cs.length) 0 = nI kd := by
    rw [mA_wA, if_pos rfl, gd_same (by rw [hM.row.1]; omega)]
  rw [sA_at0 (by rw [hM.row.1]; omega) (by omega), Option.bind_some]
  generalize wA nM 10 ((mA nM 10).set (10 * W + cs.length) (nI kd)) = m5 at hM2 e10 ⊢
  obtain ⟨mX1, nM1, q1, q2, q3⟩ := sim_word hT hwl hz hs hc hq (by rw [hM2.1.2.1 16 (by decide), h16]; exact hw) hX hM2.2.1
  refine ⟨mX1, nM1, q1, ?_⟩
  rcases q3 with ⟨pos', r1, r2, r3, r4⟩ | ⟨pos', r2, r3, r4⟩
  · rw [r3, bnd_some, chZ_t (Or.inr rfl)]
    exact Or.inl ⟨pos', r1, r2, rfl, hM2.nm q2 r4 r1, by rw [q2.2.1]; exact e10⟩
  · rw [r3, bnd_some, chZ_t (Or.inl rfl)]
    exact Or.inr ⟨pos', r2, rfl, hM2.1.nm q2, r4⟩
theorem st_lit {z : Nat} {l : List Nat} (h : (List.range l.length).all (fun i => decide (stA z (nI i) = some (nI (l.getD i 0)))) = true) : ∀ i, i < l.length → stA z (nI i) = some (nI (l.getD i 0)) := fun i hi => by
  have := List.all_eq_true.mp h i (List.mem_range.mpr hi)
  exact of_decide_eq_true this
theorem w16_lit {q : Nat} {l : List Nat} (h : (List.range l.length).all (fun i => decide (gA W16 (nI (q + i)) = some (nI (l.getD i 0)))) = true) : ∀ i, i < l.length → gA W16 (nI (q + i)) = some (nI (l.getD i 0)) := fun i hi => by
  have := List.all_eq_true.mp h i (List.mem_range.mpr hi)
  exact of_decide_eq_true this
theorem sim_clause (hT : TXT mx m0 L ch) (h16 : mA m0 16 = W16) {cs : List CL} {mX nM : mM} {pos : Nat} (hX : KX mx mX a L pos cs) (hM : KM m0 nM W L pos ch cs) (hl : cs.length < 10) : ∃ mX', f_X4_clause mX a = some ((), mX') ∧ ((∃ pos' c nM', pos < pos' ∧ KX mx mX' a L pos' (cs ++ [c]) ∧ f_X7_takesClause nM (nI (10 * W + cs.length)) = some (1, nM') ∧ KM m0 nM' W L pos' ch (cs ++ [c])) ∨ (∃ pos' nM', DX mx mX' a L pos' ∧ f_X7_takesClause nM (nI (10 * W + cs.length)) = some (0, nM') ∧ FPM m0 nM' W ∧ TM nM' L ch pos')) := by
  obtain ⟨tk, htk, hLX, hok, -⟩ := hX
  have hW := hM.2.2.1
  have dn : ∀ {m : mM} {pos k : Nat}, k < 3 → DX mx m a L pos → ∃ mX', (bnd (f_X4_number m) fun (x8 : Int32) (m9 : mM) => nmM (wI m9 (64 * a + k) x8) fun m11 => some ((), m11)) = some ((), mX') ∧ DX mx mX' a L pos := fun {m pos k} hk h => by
    obtain ⟨m2, q1, q2⟩ := h.number
    rw [q1, bnd_some, nmM_eq]
    exact ⟨_, rfl, q2.fld hk⟩
  rw [clause_eq]
  unfold f_X4_clause f_X7_takesHead
  rw [hLX.next hT, bnd_some, hM.2.1.next, bnd_some]
  by_cases c99 : nx ch L pos = 99
  · rw [if_pos c99, if_pos c99]
    obtain ⟨mX1, nM1, q1, q2⟩ := sim_head hT h16 hLX hM hl 2 6 7 [99, 111, 115, 116] (by decide) (by decide) (st_lit (by decide)) (by decide) (by decide) (w16_lit (by decide))
    rw [q1, bnd_some]
    rcases q2 with ⟨pos', r1, r2, r3, r4, r5⟩ | ⟨pos', r2, r3, r4, r5⟩
    · obtain ⟨mX2, s1, s2⟩ := sim_plain (k := 1) hT (by decide) htk hok r2 r4 hl r5
      refine ⟨mX2, s1, ?_⟩
      have r3' := r3
      rw [show (sA 0 nM 10 (nI (10 * W + cs.length)) 2).bind (fun m5 => bnd (f_X7_takesWord m5 7 4) fun (x6 : Int32) (m7 : mM) => chZ x6 (some (x6, m7))) = some (1, nM1) from r3', bnd_some, if_neg i0]
      rcases s2 with ⟨pos2, c, nM2, t1, t2, t3, t4⟩ | s2
      · exact Or.inl ⟨pos2, c, nM2, by omega, t2, t3, t4⟩
      · exact Or.inr s2
    · obtain ⟨mX2, s1, s2⟩ := dn (k := 1) (by decide) r2
      refine ⟨mX2, s1, Or.inr ⟨pos', nM1, s2, ?_, r4, r5⟩⟩
      rw [show (sA 0 nM 10 (nI (10 * W + cs.length)) 2).bind (fun m5 => bnd (f_X7_takesWord m5 7 4) fun (x6 : Int32) (m7 : mM) => chZ x6 (some (x6, m7))) = some (0, nM1) from r3, bnd_some, if_pos rfl]
  rw [if_neg c99, if_neg c99]
  by_cases c100 : nx ch L pos = 100
  · rw [if_pos c100, if_pos c100]
    obtain ⟨mX1, nM1, q1, q2⟩ := sim_head hT h16 hLX hM hl 1 5 4 [100, 117, 101] (by decide) (by decide) (st_lit (by decide)) (by decide) (by decide) (w16_lit (by decide))
    rw [q1, bnd_some]
    rcases q2 with ⟨pos', r1, r2, r3, r4, r5⟩ | ⟨pos', r2, r3, r4, r5⟩
    · obtain ⟨mX2, s1, s2⟩ := sim_plain (k := 0) hT (by decide) htk hok r2 r4 hl r5
      refine ⟨mX2, s1, ?_⟩
      rw [show (sA 0 nM 10 (nI (10 * W + cs.length)) 1).bind (fun m9 => bnd (f_X7_takesWord m9 4 3) fun (x10 : Int32) (m11 : mM) => chZ x10 (some (x10, m11))) = some (1, nM1) from r3, bnd_some, if_neg i0]
      rcases s2 with ⟨pos2, c, nM2, t1, t2, t3, t4⟩ | s2
      · exact Or.inl ⟨pos2, c, nM2, by omega, t2, t3, t4⟩
      · exact Or.inr s2
    · obtain ⟨mX2, s1, s2⟩ := dn (k := 0) (by decide) r2
      refine ⟨mX2, s1, Or.inr ⟨pos', nM1, s2, ?_, r4, r5⟩⟩
      rw [show (sA 0 nM 10 (nI (10 * W + cs.length)) 1).bind (fun m9 => bnd (f_X7_takesWord m9 4 3) fun (x10 : Int32) (m11 : mM) => chZ x10 (some (x10, m11))) = some (0, nM1) from r3, bnd_some, if_pos rfl]
  rw [if_neg c100, if_neg c100]
  by_cases c116 : nx ch L pos = 116
  · have c102 : ¬ nx ch L pos = 102 := by rw [c116]; decide
    rw [if_neg c102, if_pos c116, if_pos c116]
    obtain ⟨mX1, nM1, q1, q2⟩ := sim_head hT h16 hLX hM hl 0 3 0 [116, 97, 107, 101] (by decide) (by decide) (st_lit (by decide)) (by decide) (by decide) (w16_lit (by decide))
    rw [q1, bnd_some]
    rcases q2 with ⟨pos', r1, r2, r3, r4, r5⟩ | ⟨pos', r2, r3, r4, r5⟩
    · obtain ⟨mX2, s1, s2⟩ := sim_take hT htk hok r2 r4 hl r5
      refine ⟨mX2, s1, ?_⟩
      rw [show (sA 0 nM 10 (nI (10 * W + cs.length)) 0).bind (fun m13 => bnd (f_X7_takesWord m13 0 4) fun (x14 : Int32) (m15 : mM) => chZ x14 (some (x14, m15))) = some (1, nM1) from r3, bnd_some, if_neg i0]
      rcases s2 with ⟨pos2, c, nM2, t1, t2, t3, t4⟩ | s2
      · exact Or.inl ⟨pos2, c, nM2, by omega, t2, t3, t4⟩
      · exact Or.inr s2
    · obtain ⟨mX2, s1, s2⟩ := r2.number
      obtain ⟨mX3, d1, d2⟩ := s2.word (z := 4) (cs := [32]) (by decide) rfl (st_lit (by decide)) (by decide)
      obtain ⟨m4, e1, e2⟩ := dead_either (rc := f_X4_one 6) (y2 := 0) dead_one d2
      obtain ⟨m5, f1, f2⟩ := e2.take (v := 0)
      rw [s1, bnd_some, d1, bnd_some, e1, bnd_some, f1, bnd_some]
      refine ⟨m5, rfl, Or.inr ⟨pos', nM1, f2, ?_, r4, r5⟩⟩
      rw [show (sA 0 nM 10 (nI (10 * W + cs.length)) 0).bind (fun m13 => bnd (f_X7_takesWord m13 0 4) fun (x14 : Int32) (m15 : mM) => chZ x14 (some (x14, m15))) = some (0, nM1) from r3, bnd_some, if_pos rfl]
  rw [if_neg c116, if_neg c116]
  by_cases c102 : nx ch L pos = 102
  · rw [if_pos c102]
    obtain ⟨mX1, nM1, q1, q2⟩ := sim_head hT h16 hLX hM hl 3 7 11 [102, 101, 97, 115, 116] (by decide) (by decide) (st_lit (by decide)) (by decide) (by decide) (w16_lit (by decide))
    rw [q1, bnd_some]
    rcases q2 with ⟨pos', r1, r2, r3, r4, r5⟩ | ⟨pos', r2, r3, r4, r5⟩
    · obtain ⟨mX2, s1, s2⟩ := sim_plain (k := 2) hT (by decide) htk hok r2 r4 hl r5
      refine ⟨mX2, s1, ?_⟩
      rw [show (sA 0 nM 10 (nI (10 * W + cs.length)) 3).bind (fun m17 => bnd (f_X7_takesWord m17 11 5) fun (x18 : Int32) (m19 : mM) => chZ x18 (some (x18, m19))) = some (1, nM1) from r3, bnd_some, if_neg i0]
      rcases s2 with ⟨pos2, c, nM2, t1, t2, t3, t4⟩ | s2
      · exact Or.inl ⟨pos2, c, nM2, by omega, t2, t3, t4⟩
      · exact Or.inr s2
    · obtain ⟨mX2, s1, s2⟩ := dn (k := 2) (by decide) r2
      refine ⟨mX2, s1, Or.inr ⟨pos', nM1, s2, ?_, r4, r5⟩⟩
      rw [show (sA 0 nM 10 (nI (10 * W + cs.length)) 3).bind (fun m17 => bnd (f_X7_takesWord m17 11 5) fun (x18 : Int32) (m19 : mM) => chZ x18 (some (x18, m19))) = some (0, nM1) from r3, bnd_some, if_pos rfl]
  · rw [if_neg c102, nmM_eq]
    have hM2 := hM.wr (c := 10) (v := nI 3) (by decide)
    obtain ⟨nM1, r1, r2, r3⟩ := hM2.2.1.word (q := 11) (cs := [102, 101, 97, 115, 116]) (by decide) (by decide) (by rw [hM2.1.2.1 16 (by decide), h16]; exact w16_lit (by decide)) (by decide)
    have e : wdO ch L ([102, 101, 97, 115, 116] ++ [32]) pos = (pos, false) := if_neg c102
    rw [e] at r1 r3
    refine ⟨_, rfl, Or.inr ⟨pos, nM1, hLX.die, ?_, hM2.1.nm r2, r3⟩⟩
    have r1' : f_X7_takesWord (wA nM 10 ((mA nM 10).set (10 * W + cs.length) 3)) 11 5 = some (0, nM1) := r1
    rw [sA_at0 (by rw [hM.row.1]; omega) (by omega), Option.bind_some, r1', bnd_some, chZ_t (Or.inl rfl), bnd_some, if_pos rfl]
theorem p62_l {m : mM} {pos : Nat} {T : Nat × Nat × Nat} {tk : List (Nat × Nat)} {all : List Int32} (hT : TXT mx m0 L ch) (h : LX mx m a L pos T tk all) : f_X4_parse_62 m = some (if pos = L then 1 else 0, m) := by
  unfold f_X4_parse_62
  rw [h.2.2.1, if_neg i0, h.2.1, h.1.at.1, hT.2.2.2.1]
  have hL := h.2.2.2.2.1
  have hp := h.2.2.2.1
  by_cases c : pos = L
  · rw [if_pos (congrArg nI c), if_pos c]
  · rw [if_neg (fun z => c ((nI_eq (by omega) (by omega)).mp z)), if_neg c]
theorem p62_d {m : mM} {pos : Nat} (h : DX mx m a L pos) : f_X4_parse_62 m = some (0, m) := by
  unfold f_X4_parse_62
  rw [h.2.2.1, if_pos rfl]
theorem p21_d {m : mM} {pos F : Nat} {y : Int32} (h : DX mx m a L pos) : f_X4_parse_21 (F + 1) m a y = some (0, m) := by
  show fb_X4_parse_21 _ _ _ _ = _
  unfold fb_X4_parse_21
  rw [h.2.2.1, if_pos rfl, p62_d h]
  split <;> rfl
theorem FPM.w9 {m : mM} {v : Int32} (h : FPM m0 m W) : FPM m0 (wA m 9 ((mA m 9).set W v)) W := by
  obtain ⟨a1, a2, a3, a4, a5, a6, a7, a8⟩ := h
  refine ⟨a1, fun d hd => by rw [mA_ne (by omega)]; exact a2 d hd, a3, a4, ⟨by rw [mA_wA, if_pos rfl, List.length_set]; exact a5.1, a5.2⟩, fun i hi => by rw [mA_wA, if_pos rfl, gd_ne (by omega)]; exact a6 i hi, fun d i hd hd2 hi => by rw [mA_ne (by omega)]; exact a7 d i hd hd2 hi, a8⟩
theorem KM.w9 {m : mM} {pos : Nat} {cs : List CL} {v : Int32} (h : KM m0 m W L pos ch cs) : KM m0 (wA m 9 ((mA m 9).set W v)) W L pos ch cs := by
  obtain ⟨h1, h2, h3, h4, h5, h6, h7, h8⟩ := h
  exact ⟨h1.w9, h2.wr (by decide), h3, h4, h5, h6, h7, h8⟩
theorem sim_goes (hT : TXT mx m0 L ch) (h16 : mA m0 16 = W16) : ∀ (j : Nat) (cs : List CL) (mX nM : mM) (pos F F2 : Nat), cs.length + j = 10 → 0 < j → j < F → j < F2 → KX mx mX a L pos cs → KM m0 nM W L pos ch cs → ∃ r mX' nM' pos', (bnd (f_X4_clause mX a) fun (x6 : Unit) (m7 : mM) => f_X4_parse_21 F m7 a (nI (cs.length + 1))) = some (r, mX') ∧ f_X7_goesText_15 F2 nM (nI W) (nI cs.length) = some (r, nM') ∧ FPX mx mX' a ∧ FPM m0 nM' W ∧ mI mX' 130 = nI pos' ∧ mI nM' 13 = nI pos' ∧ (r = 0 ∨ (r = 1 ∧ ∃ cs', KX mx mX' a L pos' cs' ∧ KM m0 nM' W L pos' ch cs' ∧ (mA nM' 9).getD W 0 = nI cs'.length)) := by
  intro j
  induction j with
  | zero => intro cs mX nM pos F F2 h1 h2; omega
  | succ j ih =>
    intro cs mX nM pos F F2 h1 _ hF hF2 hX hM
    obtain ⟨F, rfl⟩ : ∃ F', F = F' + 1 := ⟨F - 1, by omega⟩
    obtain ⟨F2, rfl⟩ : ∃ F', F2 = F' + 1 := ⟨F2 - 1, by omega⟩
    have hW := hM.2.2.1
    have e10 : (10 : Int32) * nI W + nI cs.length = nI (10 * W + cs.length) := by
      have e1 : (10 : Int32) * nI W = nI (10 * W) := (Int32.ofNat_mul 10 W).symm
      rw [e1, nI_add]
    have eg : f_X7_goesText_15 (F2 + 1) nM (nI W) (nI cs.length) = fb_X7_goesText_15 (f_X7_goesText_15 F2) nM (nI W) (nI cs.length) := rfl
    rw [eg]
    unfold fb_X7_goesText_15
    obtain ⟨mX2, q1, q2⟩ := sim_clause hT h16 hX hM (by omega)
    rw [q1, bnd_some, e10]
    rcases q2 with ⟨pos2, c, nM2, s1, s2, s3, s4⟩ | ⟨pos2, nM2, s1, s2, s3, s4⟩
    · have l9 : (mA nM2 9).length = 6 := s4.1.2.2.2.2.1.1
      rw [s3, bnd_some, if_neg i0, sA_at0 (by omega) (by omega), Option.bind_some, nI_1]
      have s5 := s4.w9 (v := nI (cs.length + 1))
      have e9 : (mA (wA nM2 9 ((mA nM2 9).set W (nI (cs.length + 1)))) 9).getD W 0 = nI (cs.length + 1) := by
        rw [mA_wA, if_pos rfl, gd_same (by omega)]
      generalize wA nM2 9 ((mA nM2 9).set W (nI (cs.length + 1))) = m6 at s5 e9 ⊢
      obtain ⟨tk2, u1, u2, u3, u4⟩ := id s2
      have hcl : (cs ++ [c]).length = cs.length + 1 := by rw [List.length_append]; rfl
      have hL := u2.2.2.2.2.1
      have hp := u2.2.2.2.1
      rw [s5.2.1.1, s5.2.1.2.1]
      have ex : f_X4_parse_21 (F + 1) mX2 a (nI (cs.length + 1)) = fb_X4_parse_21 (f_X4_parse_21 F) mX2 a (nI (cs.length + 1)) := rfl
      rw [ex]
      unfold fb_X4_parse_21
      rw [u2.2.2.1, if_neg i0, u2.2.1, u2.1.at.1, hT.2.2.2.1, p62_l hT u2]
      by_cases cL : pos2 = L
      · rw [if_pos (congrArg nI cL), if_pos cL, if_pos (nI_le (by omega) (by omega))]
        refine ⟨1, mX2, m6, pos2, by split <;> rfl, rfl, u2.1, s5.1, u2.2.1, s5.2.1.2.1, Or.inr ⟨rfl, cs ++ [c], s2, s5, by rw [e9, hcl]⟩⟩
      · rw [if_neg (fun z => cL ((nI_eq (by omega) (by omega)).mp z)), if_neg cL, if_neg (nI_ge (by omega) (by omega))]
        by_cases c10 : cs.length + 1 = 10
        · rw [if_pos (show nI (cs.length + 1) = (10 : Int32) from (congrArg nI c10 : _ = nI 10)), if_pos (show (10 : Int32) ≤ nI (cs.length + 1) from (nI_le (by omega) (by omega) : nI 10 ≤ nI (cs.length + 1)))]
          exact ⟨0, mX2, m6, pos2, rfl, rfl, u2.1, s5.1, u2.2.1, s5.2.1.2.1, Or.inl rfl⟩
        · rw [if_neg (show ¬ nI (cs.length + 1) = (10 : Int32) from fun z => c10 ((nI_eq (by omega) (by decide)).mp (show nI (cs.length + 1) = nI 10 from z))), if_neg (show ¬ (10 : Int32) ≤ nI (cs.length + 1) from (nI_ge (by omega) (by decide) : ¬ nI 10 ≤ nI (cs.length + 1)))]
          obtain ⟨m8, v1, v2, v3⟩ := s5.2.1.sign (c := 59) (by decide)
          obtain ⟨mX3, w1, w2⟩ := u2.word hT (z := 2) (cs := [59]) (by decide) rfl (st_lit (by decide)) (by decide)
          rw [show (59 : Int32) = nI 59 from rfl, v1, bnd_some, w1, bnd_some]
          unfold wdO wdO at w2
          by_cases c59 : nx ch L pos2 = nI 59
          · rw [if_pos c59] at w2 v3
            have w3 : LX mx mX3 a L (pos2 + 1) (TT (cs ++ [c])) tk2 (flT (clTk (cs ++ [c]))) := by
              rcases w2 with w2 | w2
              · exact w2.2
              · cases w2.1
            rw [decide_eq_true c59, zB_t, if_neg i0, nI_1]
            have := ih (cs ++ [c]) mX3 m8 (pos2 + 1) F F2 (by omega) (by omega) (by omega) (by omega) ⟨tk2, u1, w3, u3, u4⟩ (s5.nm v2 v3 (by omega))
            rw [hcl] at this
            exact this
          · rw [if_neg c59] at w2 v3
            have w3 : DX mx mX3 a L pos2 := by
              rcases w2 with w2 | w2
              · cases w2.1
              · exact w2.2
            obtain ⟨mX4, x1, x2⟩ := dead_clause w3
            obtain ⟨F, rfl⟩ : ∃ F', F = F' + 1 := ⟨F - 1, by omega⟩
            rw [decide_eq_false c59, zB_f, if_pos rfl, x1, bnd_some, p21_d x2]
            exact ⟨0, mX4, m8, pos2, rfl, rfl, x2.1, s5.1.nm v2, x2.2.1, v3.2.1, Or.inl rfl⟩
    · rw [s2, bnd_some, if_pos rfl, p21_d s1]
      exact ⟨0, mX2, nM2, pos2, rfl, rfl, s1.1, s3, s1.2.1, s4.2.1, Or.inl rfl⟩
end X
end GOES
end
-- 24i.town.lean.txt
section
/-! OPERATIONS: town -/
section TOWNOP
variable {mx mm : mM}
/-- behind a reading, THE TEXT emptied: all as it was -/
theorem RRs.read {W : Nat} {S : SS} {mX nM : mM} (h : RRs W S mx mm) (hW : W < 6) (fX : FPX mx mX (twA (W + 1))) (fM : FPM mm nM W) : RRs W S (wI mX 129 0) (wI nM 12 0) := by
  obtain ⟨⟨hX, hS, hM, hQ⟩, hO, ⟨k1, k2, b, k3, k4, k5⟩, hC, hC2, ⟨t1, t2, t3⟩, ⟨w1, w2, w3, w4, w5, w6⟩, ⟨c1, c2, c3⟩, hP⟩ := h
  have ea : twA (W + 1) = 46 + 6 * W := rfl
  rw [ea] at fX
  obtain ⟨f0, f1, f2, f3, f4, f5⟩ := fX
  obtain ⟨g1, g2, g3, g4, g5, g6, g7, g8⟩ := fM
  have xI : ∀ k, k ≠ 129 → k ≠ 130 → k ≠ 131 → ¬ (2944 ≤ k ∧ k < 5248) → mI (wI mX 129 0) k = mI mx k := fun k h1 h2 h3 h4 => by
    rw [mI_wI, if_neg h1]; exact f1 k h2 h3 (by omega)
  have xA : ∀ c, ¬ (46 ≤ c ∧ c < 82) → mA (wI mX 129 0) c = mA mx c := fun c hc => f2 c (by omega)
  have mIe : ∀ k, k ≠ 12 → k ≠ 13 → k ≠ 14 → k ≠ 23 → k ≠ 24 → k ≠ 25 → mI (wI nM 12 0) k = mI mm k := fun k h1 h2 h3 h4 h5 h6 => by
    rw [mI_wI, if_neg h1]; exact g1 k h2 h3 h4 h5 h6
  have gA : ∀ c, ¬ (9 ≤ c ∧ c ≤ 15) → mA (wI nM 12 0) c = mA mm c := g2
  have xR : ∀ k, mR (wI mX 129 0) k = mR mx k := f4
  refine ⟨⟨hX.fr (fun k hk => xA _ (by omega)), hS.fr (fun k hk => xI _ (by omega) (by omega) (by omega) (by omega)) (xR _) (fun k hk => xA _ (by omega)), ?_, ?_⟩, hO, ⟨k1.fr (fun k hk => xA _ (by omega)), ?_, b, by rw [xI 3 (by decide) (by decide) (by decide) (by decide)]; exact k3, by rw [mIe 40 (by decide) (by decide) (by decide) (by decide) (by decide) (by decide)]; exact k4, fun hb => ?_⟩, ?_, ?_, ?_, ?_, ?_, ?_⟩
  · unfold MSh at hM ⊢
    rw [gA 1 (by decide), gA 2 (by decide), gA 3 (by decide), gA 4 (by decide), gA 7 (by decide), gA 6 (by decide), gA 5 (by decide), gA 23 (by decide)]; exact hM
  · unfold MS at hQ ⊢
    rw [gA 1 (by decide), gA 2 (by decide), gA 3 (by decide), gA 4 (by decide), gA 7 (by decide), gA 6 (by decide), gA 5 (by decide), gA 23 (by decide), mIe 0 (by decide) (by decide) (by decide) (by decide) (by decide) (by decide), mIe 1 (by decide) (by decide) (by decide) (by decide) (by decide) (by decide), mIe 2 (by decide) (by decide) (by decide) (by decide) (by decide) (by decide), mIe 38 (by decide) (by decide) (by decide) (by decide) (by decide) (by decide), mIe 11 (by decide) (by decide) (by decide) (by decide) (by decide) (by decide)]; exact hQ
  · unfold MKh at k2 ⊢
    rw [gA 24 (by decide), gA 25 (by decide), gA 26 (by decide), gA 27 (by decide), gA 31 (by decide), gA 29 (by decide), gA 28 (by decide), gA 30 (by decide)]; exact k2
  · obtain ⟨K, q1, q2, q3⟩ := k5 hb
    refine ⟨K, q1.fr (fun k hk => xI _ (by omega) (by omega) (by omega) (by omega)) (xR _) (fun k hk => xA _ (by omega)), ?_, q3⟩
    unfold MK at q2 ⊢
    rw [gA 24 (by decide), gA 25 (by decide), gA 26 (by decide), gA 27 (by decide), gA 31 (by decide), gA 29 (by decide), gA 28 (by decide), gA 30 (by decide), mIe 42 (by decide) (by decide) (by decide) (by decide) (by decide) (by decide), mIe 43 (by decide) (by decide) (by decide) (by decide) (by decide) (by decide), mIe 44 (by decide) (by decide) (by decide) (by decide) (by decide) (by decide), mIe 45 (by decide) (by decide) (by decide) (by decide) (by decide) (by decide), mIe 41 (by decide) (by decide) (by decide) (by decide) (by decide) (by decide)]; exact q2
  · exact ⟨hC.1.fr (fun k hk => xA _ (by omega)), by rw [xA 1 (by decide)]; exact hC.2.1, by rw [xA 42 (by decide)]; exact hC.2.2.1, by rw [xA 43 (by decide)]; exact hC.2.2.2.1, by rw [xA 44 (by decide)]; exact hC.2.2.2.2.1, by rw [xA 45 (by decide)]; exact hC.2.2.2.2.2⟩
  · unfold R_scM
    rw [gA 17 (by decide), gA 18 (by decide), gA 19 (by decide), gA 20 (by decide), gA 21 (by decide), gA 22 (by decide), mIe 27 (by decide) (by decide) (by decide) (by decide) (by decide) (by decide)]; exact hC2
  · unfold R_txt
    rw [xA 3 (by decide), gA 8 (by decide)]
    exact ⟨t1, t2, 0, fun _ => 0, Nat.zero_le _, rfl, rfl, fun i hi => absurd hi (Nat.not_lt_zero i)⟩
  · refine ⟨w1, by rw [xI 8 (by decide) (by decide) (by decide) (by decide)]; exact w2, by rw [mIe 10 (by decide) (by decide) (by decide) (by decide) (by decide) (by decide)]; exact w3, fun t ht => ?_, ?_, fun t ht => ?_⟩
    · have hb := twA_b ht
      by_cases e : t = W + 1
      · subst e; exact f5
      · have iA : ∀ k, k < 6 → mA (wI mX 129 0) (twA t + k) = mA mx (twA t + k) := fun k hk => by
          refine f2 _ ?_
          match t, ht, e with
          | 0, _, _ => show ¬ (46 + 6 * W + 1 ≤ 8 + k ∧ 8 + k ≤ 46 + 6 * W + 5); omega
          | s + 1, _, e => show ¬ (46 + 6 * W + 1 ≤ 46 + 6 * s + k ∧ 46 + 6 * s + k ≤ 46 + 6 * W + 5); omega
        have := w4 t ht
        unfold TXh at this ⊢
        rw [iA 1 (by decide), iA 2 (by decide), iA 3 (by decide), iA 4 (by decide), iA 5 (by decide)]
        exact this
    · refine ⟨g5.1, g5.2.1, g5.2.2.1, g5.2.2.2.1, g5.2.2.2.2.1, g5.2.2.2.2.2.1, g5.2.2.2.2.2.2, ?_⟩
      rw [gA 16 (by decide)]; exact w5.2.2.2.2.2.2.2
    · obtain ⟨cs, q1, q2, q3, q4⟩ := w6 t ht
      have iA : ∀ k, k < 6 → mA (wI mX 129 0) (twA t + k) = mA mx (twA t + k) := fun k hk => by
        refine f2 _ ?_
        match t, ht with
        | 0, _ => show ¬ (46 + 6 * W + 1 ≤ 8 + k ∧ 8 + k ≤ 46 + 6 * W + 5); omega
        | s + 1, _ => show ¬ (46 + 6 * W + 1 ≤ 46 + 6 * s + k ∧ 46 + 6 * s + k ≤ 46 + 6 * W + 5); omega
      have hb2 : twA t = 8 ∨ (46 ≤ twA t ∧ twA t + 6 ≤ 46 + 6 * W) := by
        match t, ht with
        | 0, _ => exact Or.inl rfl
        | s + 1, ht => right; show 46 ≤ 46 + 6 * s ∧ 46 + 6 * s + 6 ≤ 46 + 6 * W; omega
      have iI : ∀ k, k < 64 → mI (wI mX 129 0) (64 * twA t + k) = mI mx (64 * twA t + k) := fun k hk => by
        rw [mI_wI, if_neg (by omega)]; exact f1 _ (by omega) (by omega) (by omega)
      refine ⟨cs, q1, ?_, q3, fun hp => ?_⟩
      · unfold TXe at q2 ⊢
        rw [iI 0 (by decide), iI 1 (by decide), iI 2 (by decide), iI 3 (by decide), iA 1 (by decide), iA 2 (by decide), iA 3 (by decide), iA 4 (by decide), iA 5 (by decide)]
        exact q2
      · obtain ⟨s, rfl⟩ : ∃ s, t = s + 1 := ⟨t - 1, by omega⟩
        obtain ⟨r1, r2, r3⟩ := q4 hp
        have es : s + 1 - 1 = s := rfl
        rw [es] at r1 r3 ⊢
        refine ⟨(g6 s (by omega)).trans r1, r2, fun c hc => ?_⟩
        obtain ⟨s1, s2, s3⟩ := r3 c hc
        refine ⟨(g7 10 _ (by decide) (by decide) (by omega)).trans s1, (g7 11 _ (by decide) (by decide) (by omega)).trans s2, fun e => ?_⟩
        obtain ⟨o, o1, o2, o3, o4⟩ := s3 e
        exact ⟨o, o1, (g7 12 _ (by decide) (by decide) (by omega)).trans o2, (g7 13 _ (by decide) (by decide) (by omega)).trans o3, fun i hi => (g8 _ (by omega)).trans (o4 i hi)⟩
  · unfold R_act
    rw [xA 6 (by decide), gA 32 (by decide), xI 321 (by decide) (by decide) (by decide) (by decide), mIe 54 (by decide) (by decide) (by decide) (by decide) (by decide) (by decide)]; exact ⟨c1, c2, c3⟩
  · exact hP.fr (fun k hk => xI _ (by omega) (by omega) (by omega) (by omega)) (fun c hc => f3 c) ⟨gA 33 (by decide), gA 34 (by decide)⟩ ⟨g3 35, g3 36⟩
theorem SOK.up {W : Nat} {S : SS} (h : SOK W S) : SOK (W + 1) S := ⟨h.1, h.2.1, h.2.2.1, h.2.2.2.1, Nat.le_succ_of_le h.2.2.2.2.1, h.2.2.2.2.2⟩
/-- the newest town holds -/
theorem RRs.newest {W : Nat} {S : SS} {cs : List CL} (h : RRs W S mx mm) (hW : W < 6) (q1 : ∀ c ∈ cs, clOk c) (q2 : TXe mx (twA (W + 1)) (twOf cs)) (q3 : TMe mm W cs) : RRs (W + 1) (S.1, S.2.1, S.2.2.1, S.2.2.2.1, S.2.2.2.2.1, S.2.2.2.2.2.1, W + 1) (wI (wR mx 900 (twA (W + 1))) 8 (nI (W + 1))) (wI (wI mm 11 (nI W)) 10 (nI (W + 1))) := by
  obtain ⟨⟨hX, hS, hM, hQ⟩, hO, ⟨k1, k2, b, k3, k4, k5⟩, hC, hC2, hT, ⟨w1, w2, w3, w4, w5, w6⟩, hA, hP⟩ := h
  have yI : ∀ k, k ≠ 8 → mI (wI (wR mx 900 (twA (W + 1))) 8 (nI (W + 1))) k = mI mx k := fun k hk => by rw [mI_wI, if_neg hk]; rfl
  refine ⟨⟨hX, ⟨⟨hS.1.1, hS.1.2.1, hS.1.2.2.1, hS.1.2.2.2.1, ?_⟩, hS.2⟩, hM, ⟨⟨hQ.1.1, hQ.1.2.1, hQ.1.2.2.1, hQ.1.2.2.2.1, ?_⟩, hQ.2⟩⟩, ⟨hO.1, hO.2.1, hO.2.2.1, hO.2.2.2.1, Nat.le_refl _, hO.2.2.2.2.2⟩, ⟨k1, k2, b, k3, k4, fun hb => ?_⟩, hC, hC2, hT, ⟨by omega, rfl, rfl, w4, w5, fun t ht => ?_⟩, hA, ?_⟩
  · show mR (wR mx 900 (twA (W + 1))) 900 = twA (W + 1)
    rw [mR_wR, if_pos rfl]
  · show mI (wI (wI mm 11 (nI W)) 10 (nI (W + 1))) 11 = nI (W + 1) - 1
    rw [mI_wI, if_neg (by decide), mI_wI, if_pos rfl, nI_pred]
  · obtain ⟨K, a1, a2, a3⟩ := k5 hb
    exact ⟨K, a1, a2, a3.up⟩
  · have iI : ∀ k, mI (wI (wR mx 900 (twA (W + 1))) 8 (nI (W + 1))) (64 * twA t + k) = mI mx (64 * twA t + k) := fun k => yI _ (by
      have := twA_b (t := t) (by omega)
      omega)
    by_cases e : t = W + 1
    · subst e
      refine ⟨cs, q1, ?_, fun z => absurd z (Nat.succ_ne_zero W), fun _ => q3⟩
      unfold TXe at q2 ⊢
      rw [iI 0, iI 1, iI 2, iI 3]; exact q2
    · obtain ⟨cs', r1, r2, r3, r4⟩ := w6 t (by omega)
      refine ⟨cs', r1, ?_, r3, r4⟩
      unfold TXe at r2 ⊢
      rw [iI 0, iI 1, iI 2, iI 3]; exact r2
  · exact hP.fr (fun k hk => yI k (by omega)) (fun _ _ => rfl) ⟨rfl, rfl⟩ ⟨rfl, rfl⟩
theorem op_town (h : RR mx mm) : OPe (f_X6_town mx) (f_X7_town mm) := by
  obtain ⟨W, S, hr⟩ := id h
  have hr : RRs W S mx mm := hr
  obtain ⟨hN, hO, hK, hC, hC2, ⟨t1, t2, L, ch, hL, t3, t4, t5⟩, ⟨w1, w2, w3, w4, w5, w6⟩, hA, hP⟩ := id hr
  unfold f_X6_town f_X7_town
  rw [w2, w3]
  by_cases hW : W < 6
  · have hg : gT [46, 52, 58, 64, 70, 76] (nI W) = some (twA (W + 1)) := by
      match W, hW with
      | 0, _ => rfl
      | 1, _ => rfl
      | 2, _ => rfl
      | 3, _ => rfl
      | 4, _ => rfl
      | 5, _ => rfl
    have hT : TXT mx mm L ch := ⟨hL, t1, t2, t3, t4, t5⟩
    have h16 : mA mm 16 = W16 := w5.2.2.2.2.2.2.2
    have ha : 46 ≤ twA (W + 1) := by show 46 ≤ 46 + 6 * W; omega
    rw [if_pos (show nI W < (6 : Int32) from (nI_lt hW (by decide) : nI W < nI 6)), if_neg (show ¬ nI W = (6 : Int32) from fun z => by have := (nI_eq (by omega) (by decide)).mp (show nI W = nI 6 from z); omega), hg, Option.bind_some, chR_t (twA_ok (by omega))]
    unfold f_X4_parse f_X5_clear f_X7_goesText
    rw [nmM_eq, nmM_eq, nmM_eq, nmM_eq, nmM_eq, bnd_some, nmM_eq, nmM_eq, nmM_eq, nmM_eq]
    have hX0 : KX mx (wI (wI (wI (wI (wI (wI (wI mx (64 * twA (W + 1) + 0) 10) (64 * twA (W + 1) + 1) 1) (64 * twA (W + 1) + 2) 99) (64 * twA (W + 1) + 3) 0) (64 * twA (W + 1) + 4) 0) 130 0) 131 1) (twA (W + 1)) L 0 [] := by
      have hF : FPX mx mx (twA (W + 1)) := ⟨ha, fun _ _ _ _ => rfl, fun _ _ => rfl, fun _ => rfl, fun _ => rfl, w4 _ (by omega)⟩
      refine ⟨[], ⟨rfl, fun i hi => absurd hi (Nat.not_lt_zero i)⟩, ⟨?_, ?_, ?_, Nat.zero_le _, hL, ⟨?_, ?_, ?_⟩, ⟨?_, by decide, fun i hi => absurd hi (Nat.not_lt_zero i)⟩, ⟨?_, Nat.le_refl _, fun i hi => absurd hi (Nat.not_lt_zero i)⟩⟩, fun c hc => absurd hc (List.not_mem_nil), by decide⟩
      · exact ((((((hF.I (Or.inr (Or.inr (by omega)))).I (Or.inr (Or.inr (by omega)))).I (Or.inr (Or.inr (by omega)))).I (Or.inr (Or.inr (by omega)))).I (Or.inr (Or.inr (by omega)))).I (Or.inl rfl)).I (Or.inr (Or.inl rfl))
      · rw [mI_wI, if_neg (by decide), mI_wI, if_pos rfl]; rfl
      · rw [mI_wI, if_pos rfl]
      · simp only [mI_wI]
        rw [if_neg (by omega), if_neg (by omega), if_neg (by omega), if_neg (by omega), if_neg (by omega), if_neg (by omega), if_pos trivial]; rfl
      · simp only [mI_wI]
        rw [if_neg (by omega), if_neg (by omega), if_neg (by omega), if_neg (by omega), if_neg (by omega), if_pos trivial]; rfl
      · simp only [mI_wI]
        rw [if_neg (by omega), if_neg (by omega), if_neg (by omega), if_neg (by omega), if_pos trivial]; rfl
      · simp only [mI_wI]
        rw [if_neg (by omega), if_neg (by omega), if_neg (by omega), if_pos trivial]; rfl
      · simp only [mI_wI]
        rw [if_neg (by omega), if_neg (by omega), if_pos trivial]; rfl
    have e100 : (100 : Int32) * nI W = nI (100 * W) := (Int32.ofNat_mul 100 W).symm
    have hM0 : KM mm (wI (wI mm 13 0) 23 (100 * nI W)) W L 0 ch [] := by
      have hF : FPM mm mm W := ⟨fun _ _ _ _ _ _ => rfl, fun _ _ => rfl, fun _ => rfl, fun _ => rfl, ⟨w5.1, w5.2.1, w5.2.2.1, w5.2.2.2.1, w5.2.2.2.2.1, w5.2.2.2.2.2.1, w5.2.2.2.2.2.2.1⟩, fun _ _ => rfl, fun _ _ _ _ _ => rfl, fun _ _ => rfl⟩
      refine ⟨(hF.I (by decide)).I (by decide), ⟨t4, rfl, Nat.zero_le _, hL, t2, fun i hi => (t5 i hi).2⟩, hW, by decide, ?_, Nat.le_refl _, fun i hi => absurd hi (Nat.not_lt_zero i), fun c hc => absurd hc (Nat.not_lt_zero c)⟩
      rw [mI_wI, if_pos rfl, e100]; rfl
    obtain ⟨r, mX', nM', pos', g1, g2, g3, g4, g5, g6, g7⟩ := sim_goes hT h16 10 [] _ _ 0 1000 1000 rfl (by decide) (by decide) (by decide) hX0 hM0
    rw [show (bnd (f_X4_clause (wI (wI (wI (wI (wI (wI (wI mx (64 * twA (W + 1) + 0) 10) (64 * twA (W + 1) + 1) 1) (64 * twA (W + 1) + 2) 99) (64 * twA (W + 1) + 3) 0) (64 * twA (W + 1) + 4) 0) 130 0) 131 1) (twA (W + 1))) fun (x6 : Unit) (m7 : mM) => (f_X4_parse_21 1000 m7 (twA (W + 1)) 1)) = some (r, mX') from g1, bnd_some, show f_X7_goesText_15 1000 (wI (wI mm 13 0) 23 (100 * nI W)) (nI W) 0 = some (r, nM') from g2, bnd_some, nmM_eq, nmM_eq]
    have hk := RRs.read hr hW g3 g4
    have x130 : mI (wI mX' 129 0) 130 = nI pos' := by rw [mI_wI, if_neg (by decide)]; exact g5
    have x13 : mI (wI nM' 12 0) 13 = nI pos' := by rw [mI_wI, if_neg (by decide)]; exact g6
    rcases g7 with rfl | ⟨rfl, cs, u1, u2, u3⟩
    · rw [if_pos rfl, nmM_eq, if_pos rfl, x130, x13]
      exact ⟨_, _, _, rfl, rfl, W, S, hk⟩
    · have y8 : mI (wI mX' 129 0) 8 = nI W := hk.2.2.2.2.2.2.1.2.1
      have y10 : mI (wI nM' 12 0) 10 = nI W := hk.2.2.2.2.2.2.1.2.2.1
      rw [if_neg i0, nmM_eq, nmM_eq, nmM_eq, if_neg i0, nmM_eq]
      rw [show mI (wR (wI mX' 129 0) 900 (twA (W + 1))) 8 = nI W from y8, y10, show mI (wI (wI nM' 12 0) 11 (nI W)) 10 = nI W from y10, nI_1]
      refine ⟨nI W, wI (wR (wI mX' 129 0) 900 (twA (W + 1))) 8 (nI (W + 1)), wI (wI (wI nM' 12 0) 11 (nI W)) 10 (nI (W + 1)), ?_, rfl, W + 1, _, RRs.newest (cs := cs) hk hW ?_ ?_ ?_⟩
      · rw [mI_wI, if_pos rfl, nI_pred]
      · obtain ⟨tk, v1, v2, v3, v4⟩ := u1
        exact v3
      · obtain ⟨tk, ⟨v1, v1'⟩, v2, v3, v4⟩ := u1
        obtain ⟨a1, a2, a3, a4, a5, ⟨a6, a7, a8⟩, ⟨a9, a10, a11⟩, ⟨a12, a13, a14⟩⟩ := v2
        have ne : ∀ k, k < 64 → mI (wI mX' 129 0) (64 * twA (W + 1) + k) = mI mX' (64 * twA (W + 1) + k) := fun k hk => by rw [mI_wI, if_neg (by omega)]
        unfold TXe
        rw [ne 0 (by decide), ne 1 (by decide), ne 2 (by decide), ne 3 (by decide)]
        refine ⟨⟨a6, a7, a8, by rw [a9, v1]; rfl⟩, fun i hi => ?_, ?_, fun i hi k hk => ?_⟩
        · have hi : i < (clTk cs).length := hi
          obtain ⟨b1, b2⟩ := a11 i (by omega)
          obtain ⟨b3, b4⟩ := v1' i (by omega)
          refine ⟨?_, ?_⟩
          · show (mA mX' (twA (W + 1) + 4)).getD i 0 = _
            rw [b1, b3]; rfl
          · show (mA mX' (twA (W + 1) + 5)).getD i 0 = _
            rw [b2, b4]; rfl
        · show tkE (clTk cs) (clTk cs).length ≤ 100
          rw [tkE_full]; omega
        · obtain ⟨c1, c2⟩ := fl_get (t := clTk cs) hi hk
          obtain ⟨d1, d2⟩ := a14 _ c1
          exact ⟨d1.trans c2, d2⟩
      · obtain ⟨v1, v2, v3, v4, v5, v6, v7, v8⟩ := u2
        have hp := v2.2.2.1
        refine ⟨u3, v4, fun c hc => ?_⟩
        obtain ⟨b1, b2, b3⟩ := v8 c hc
        refine ⟨b1, b2, fun e => ?_⟩
        obtain ⟨o, o1, o2, o3, o4⟩ := b3 e
        exact ⟨100 * W + o, by omega, o2, o3, fun i hi => by
          show (mA nM' 14).getD (100 * W + o + i) 0 = _
          rw [Nat.add_assoc, v7 (o + i) (by omega)]; exact o4 i hi⟩
  · rw [if_neg (show ¬ nI W < (6 : Int32) from (nI_nlt (by omega) (by omega) : ¬ nI W < nI 6)), if_pos (show nI W = (6 : Int32) from (congrArg nI (show W = 6 by omega) : nI W = nI 6))]
    exact ⟨_, mx, mm, rfl, rfl, h⟩
end TOWNOP
end
