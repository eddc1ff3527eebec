/-! TOWN: clauses, both side by side -/
section CLAUSE
def flT : List (Nat × List Int32) → List Int32
  | [] => []
  | x :: xs => x.2 ++ flT xs
theorem flT_app {x : Nat × List Int32} : ∀ {t : List (Nat × List Int32)}, flT (t ++ [x]) = flT t ++ x.2
  | [] => by show x.2 ++ [] = [] ++ x.2; rw [List.append_nil, List.nil_append]
  | y :: ys => by
    show y.2 ++ flT (ys ++ [x]) = (y.2 ++ flT ys) ++ x.2
    rw [flT_app, List.append_assoc]
theorem tkE_full : ∀ {t : List (Nat × List Int32)}, tkE t t.length = (flT t).length
  | [] => rfl
  | y :: ys => by
    show y.2.length + tkE ys ys.length = (y.2 ++ flT ys).length
    rw [tkE_full, List.length_append]
theorem tkE_app {u : List (Nat × List Int32)} : ∀ {t : List (Nat × List Int32)} {i : Nat}, i ≤ t.length → tkE (t ++ u) i = tkE t i
  | [], i, h => by
    obtain rfl : i = 0 := Nat.le_zero.mp h
    rw [tkE0, tkE0]
  | y :: ys, 0, h => by rw [tkE0, tkE0]
  | y :: ys, i + 1, h => by
    show y.2.length + tkE (ys ++ u) i = y.2.length + tkE ys i
    rw [tkE_app (Nat.le_of_succ_le_succ h)]
theorem fl_get : ∀ {t : List (Nat × List Int32)} {i k : Nat}, i < t.length → k < (t.getD i (0, [])).2.length → tkE t i + k < (flT t).length ∧ (flT t).getD (tkE t i + k) 0 = (t.getD i (0, [])).2.getD k 0
  | [], i, k, h, _ => absurd h (Nat.not_lt_zero _)
  | y :: ys, 0, k, _, hk => by
    have hk : k < y.2.length := hk
    rw [tkE0, Nat.zero_add]
    refine ⟨by show k < (y.2 ++ flT ys).length; rw [List.length_append]; omega, ?_⟩
    show (y.2 ++ flT ys).getD k 0 = y.2.getD k 0
    exact ap_lt hk
  | y :: ys, i + 1, k, h, hk => by
    obtain ⟨h1, h2⟩ := fl_get (t := ys) (i := i) (k := k) (Nat.lt_of_succ_lt_succ h) hk
    have e : tkE (y :: ys) (i + 1) + k = y.2.length + (tkE ys i + k) := by
      show y.2.length + tkE ys i + k = _; omega
    rw [e]
    refine ⟨by show _ < (y.2 ++ flT ys).length; rw [List.length_append]; omega, ?_⟩
    show (y.2 ++ flT ys).getD _ 0 = _
    rw [ap_ge (by omega), show y.2.length + (tkE ys i + k) - y.2.length = tkE ys i + k by omega, h2]; rfl
theorem clTk_app {c : CL} : ∀ {cs : List CL}, clTk (cs ++ [c]) = clTk cs ++ (if c.1 = 0 then [(c.2.1, c.2.2)] else [])
  | [] => by
    show clTk [c] = _
    unfold clTk
    by_cases e : c.1 = 0
    · rw [if_pos e, if_pos e]; rfl
    · rw [if_neg e, if_neg e]; rfl
  | d :: ds => by
    show clTk (d :: (ds ++ [c])) = _
    unfold clTk
    by_cases e : d.1 = 0
    · rw [if_pos e, if_pos e, clTk_app]; rfl
    · rw [if_neg e, if_neg e, clTk_app]
theorem clLast_app {w : Nat} {c : CL} : ∀ {cs : List CL} {d : Nat}, clLast w d (cs ++ [c]) = if c.1 = w then c.2.1 else clLast w d cs
  | [], d => rfl
  | e :: es, d => by
    show clLast w _ (es ++ [c]) = _
    rw [clLast_app]; rfl
def TT (cs : List CL) : Nat × Nat × Nat := (clLast 1 10 cs, clLast 2 1 cs, clLast 3 99 cs)
def TKL (cs : List CL) (tk : List (Nat × Nat)) : Prop := tk.length = (clTk cs).length ∧ ∀ i, i < tk.length → (tk.getD i (0, 0)).1 = ((clTk cs).getD i (0, [])).1 ∧ (tk.getD i (0, 0)).2 = tkE (clTk cs) (i + 1)
/-- the class between clauses -/
def KX (mx m : mM) (a L pos : Nat) (cs : List CL) : Prop := ∃ tk, TKL cs tk ∧ LX mx m a L pos (TT cs) tk (flT (clTk cs)) ∧ (∀ c ∈ cs, clOk c) ∧ cs.length ≤ 10
/-- a clause of the reference -/
def KC (m : mM) (W : Nat) (all : List Int32) (c : Nat) (x : CL) : Prop := (mA m 10).getD (10 * W + c) 0 = nI x.1 ∧ (mA m 11).getD (10 * W + c) 0 = nI x.2.1 ∧ (x.1 = 0 → ∃ o, o + x.2.2.length ≤ all.length ∧ (mA m 12).getD (10 * W + c) 0 = nI (100 * W + o) ∧ (mA m 13).getD (10 * W + c) 0 = nI (100 * W + o + x.2.2.length) ∧ ∀ i, i < x.2.2.length → all.getD (o + i) 0 = x.2.2.getD i 0)
/-- the reference between clauses -/
def KM (m0 m : mM) (W L pos : Nat) (ch : Nat → Nat) (cs : List CL) : Prop := FPM m0 m W ∧ TM m L ch pos ∧ W < 6 ∧ cs.length ≤ 10 ∧ mI m 23 = nI (100 * W + (flT (clTk cs)).length) ∧ (flT (clTk cs)).length ≤ pos ∧ (∀ i, i < (flT (clTk cs)).length → (mA m 14).getD (100 * W + i) 0 = (flT (clTk cs)).getD i 0) ∧ ∀ c, c < cs.length → KC m W (flT (clTk cs)) c (cs.getD c (0, 0, []))
def ft3 (T : Nat × Nat × Nat) (v : Nat) : Nat → Nat × Nat × Nat
  | 0 => (v, T.2)
  | 1 => (T.1, v, T.2.2)
  | _ => (T.1, T.2.1, v)
theorem FPX.len {mx m : mM} {a : Nat} (h : FPX mx m a) : TXh m a := h.2.2.2.2.2
section X
variable {mx m0 : mM} {a L W : Nat} {ch : Nat → Nat} {T : Nat × Nat × Nat} {tk : List (Nat × Nat)} {all : List Int32}
theorem LX.fld {m : mM} {pos k v : Nat} (hk : k < 3) (h : LX mx m a L pos T tk all) : LX mx (wI m (64 * a + k) (nI v)) a L pos (ft3 T v k) tk all := by
  obtain ⟨h1, h2, h3, h4, h5, ⟨f1, f2, f3⟩, h7, h8⟩ := h
  have h0 := h1.1
  refine ⟨h1.I (by omega), by rw [mI_wI, if_neg (by omega)]; exact h2, by rw [mI_wI, if_neg (by omega)]; exact h3, h4, h5, ?_, ?_, ?_⟩
  · match k, hk with
    | 0, _ => exact ⟨by rw [mI_wI, if_pos rfl]; rfl, by rw [mI_wI, if_neg (by omega)]; exact f2, by rw [mI_wI, if_neg (by omega)]; exact f3⟩
    | 1, _ => exact ⟨by rw [mI_wI, if_neg (by omega)]; exact f1, by rw [mI_wI, if_pos rfl]; rfl, by rw [mI_wI, if_neg (by omega)]; exact f3⟩
    | 2, _ => exact ⟨by rw [mI_wI, if_neg (by omega)]; exact f1, by rw [mI_wI, if_neg (by omega)]; exact f2, by rw [mI_wI, if_pos rfl]; rfl⟩
  · rw [mI_wI, if_neg (by omega)]; exact h7
  · rw [mI_wI, if_neg (by omega)]; exact h8
theorem DX.fld {m : mM} {pos k : Nat} {v : Int32} (hk : k < 3) (h : DX mx m a L pos) : DX mx (wI m (64 * a + k) v) a L pos := by
  obtain ⟨h1, h2, h3, h4, ⟨s, h5, h6⟩, ⟨t, h7, h8⟩⟩ := h
  have h0 := h1.1
  exact ⟨h1.I (by omega), by rw [mI_wI, if_neg (by omega)]; exact h2, by rw [mI_wI, if_neg (by omega)]; exact h3, h4, ⟨s, h5, by rw [mI_wI, if_neg (by omega)]; exact h6⟩, ⟨t, h7, by rw [mI_wI, if_neg (by omega)]; exact h8⟩⟩
theorem sim_word (hT : TXT mx m0 L ch) {mX nM : mM} {pos z q : Nat} {cs : List Nat} (hl : cs.length < 90) (hz : stL z = some (nI (cs ++ [32]).length)) (hs : ∀ i, i < (cs ++ [32]).length → stA z (nI i) = some (nI ((cs ++ [32]).getD i 0))) (hc : ∀ c ∈ cs, c < 128) (hq : q < 100) (h16 : ∀ i, i < cs.length → gA (mA nM 16) (nI (q + i)) = some (nI (cs.getD i 0))) (hX : LX mx mX a L pos T tk all) (hM : TM nM L ch pos) : ∃ mX' nM', f_X4_word mX z = some ((), mX') ∧ NM nM nM' ∧ ((∃ pos', pos ≤ pos' ∧ LX mx mX' a L pos' T tk all ∧ f_X7_takesWord nM (nI q) (nI cs.length) = some (1, nM') ∧ TM nM' L ch pos') ∨ (∃ pos', DX mx mX' a L pos' ∧ f_X7_takesWord nM (nI q) (nI cs.length) = some (0, nM') ∧ TM nM' L ch pos')) := by
  have hc2 : ∀ c ∈ cs ++ [32], c < 128 := fun c h => by
    rcases List.mem_append.mp h with h | h
    · exact hc c h
    · cases List.mem_singleton.mp h; decide
  obtain ⟨mX', q1, q2⟩ := hX.word hT (z := z) (cs := cs ++ [32]) (by rw [List.length_append]; show _ + 1 < _; omega) hz hs hc2
  obtain ⟨nM', r1, r2, r3⟩ := hM.word (q := q) (cs := cs) (by omega) hq h16 hc
  obtain ⟨i1, i2⟩ := wdO_in (ch := ch) (L := L) (cs := cs ++ [32]) (pos := pos) hc2 hM.2.2.1
  refine ⟨mX', nM', q1, r2, ?_⟩
  rcases q2 with ⟨e, q2⟩ | ⟨e, q2⟩
  · rw [e, zB_t] at r1
    exact Or.inl ⟨_, i1, q2, r1, r3⟩
  · rw [e, zB_f] at r1
    exact Or.inr ⟨_, q2, r1, r3⟩
theorem sim_number (hT : TXT mx m0 L ch) {mX nM : mM} {pos : Nat} (hX : LX mx mX a L pos T tk all) (hM : TM nM L ch pos) : (∃ v pos' mX' nM', v < 100 ∧ pos < pos' ∧ f_X4_number mX = some (nI v, mX') ∧ LX mx mX' a L pos' T tk all ∧ f_X7_takesNumber nM = some (1, nM') ∧ NM nM nM' ∧ TM nM' L ch pos' ∧ mI nM' 14 = nI v) ∨ (∃ mX', f_X4_number mX = some (0, mX') ∧ DX mx mX' a L pos ∧ f_X7_takesNumber nM = some (0, nM)) := by
  have hb : ∀ i, i < L → ch i < 128 := fun i hi => (hT.2.2.2.2.2 i hi).2.2
  rcases hX.number hT with ⟨b1, mX3, b2, b3⟩ | ⟨v, p', mX3, b1, b2, b3⟩
  · rcases hM.number with ⟨c1, c2⟩ | ⟨v', p'', m', c1, _⟩
    · exact Or.inr ⟨mX3, b2, b3, c2⟩
    · rw [b1] at c1; cases c1
  · rcases hM.number with ⟨c1, _⟩ | ⟨v', p'', m', c1, c2, c3, c4, c5⟩
    · rw [b1] at c1; cases c1
    · obtain ⟨i1, i2, i3⟩ := nbO_in hb b1
      rw [b1] at c1; cases c1
      exact Or.inl ⟨v, p', mX3, m', i3, i1, b2, b3, c2, c3, c4, c5⟩
/-- rows 10 to 13 written at p -/
theorem FPM.wr {m : mM} {c p : Nat} {v : Int32} (h : FPM m0 m W) (hc : 10 ≤ c ∧ c ≤ 13) (hp : 10 * W ≤ p) : FPM m0 (wA m c ((mA m c).set p v)) W := by
  obtain ⟨a1, a2, a3, a4, a5, a6, a7, a8⟩ := h
  have key : ∀ d, (mA (wA m c ((mA m c).set p v)) d).length = (mA m d).length := fun d => by
    rw [mA_wA]
    by_cases e : d = c
    · rw [if_pos e, e, List.length_set]
    · rw [if_neg e]
  refine ⟨a1, fun d hd => by rw [mA_ne (by omega)]; exact a2 d hd, a3, a4, ?_, by rw [mA_ne (by omega)]; exact a6, fun d i hd hd2 hi => ?_, by rw [mA_ne (by omega)]; exact a8⟩
  · simp only [key]; exact a5
  · rw [mA_wA]
    by_cases e : d = c
    · rw [if_pos e, gd_ne (by omega), ← e]; exact a7 d i hd hd2 hi
    · rw [if_neg e]; exact a7 d i hd hd2 hi
theorem TM.wr {m : mM} {c pos : Nat} {l : List Int32} (h : TM m L ch pos) (hc : c ≠ 8) : TM (wA m c l) L ch pos := by
  obtain ⟨h1, h2, h3, h4, h5, h6⟩ := h
  exact ⟨h1, h2, h3, h4, by rw [mA_ne (Ne.symm hc)]; exact h5, by rw [mA_ne (Ne.symm hc)]; exact h6⟩
theorem KC.app {m : mM} {c : Nat} {x : CL} {ops : List Int32} (h : KC m W all c x) : KC m W (all ++ ops) c x := by
  refine ⟨h.1, h.2.1, fun e => ?_⟩
  obtain ⟨o, h1, h2, h3, h4⟩ := h.2.2 e
  exact ⟨o, by rw [List.length_append]; omega, h2, h3, fun i hi => by rw [ap_lt (by omega)]; exact h4 i hi⟩
theorem KC.fr {m m' : mM} {c p : Nat} {x : CL} (h : KC m W all c x) (hp : 10 * W + c ≠ p) (f : ∀ d i, 10 ≤ d → d ≤ 13 → i ≠ p → (mA m' d).getD i 0 = (mA m d).getD i 0) : KC m' W all c x := by
  unfold KC at h ⊢
  rw [f 10 _ (by decide) (by decide) hp, f 11 _ (by decide) (by decide) hp, f 12 _ (by decide) (by decide) hp, f 13 _ (by decide) (by decide) hp]
  exact h
theorem dead_clause {m : mM} {pos : Nat} (h : DX mx m a L pos) : ∃ m', f_X4_clause m a = some ((), m') ∧ DX mx m' a L pos := by
  unfold f_X4_clause
  rw [h.next, bnd_some, if_neg (by decide), if_neg (by decide), if_neg (by decide), if_neg (by decide), nmM_eq]
  exact ⟨_, rfl, h.die⟩
end X
end CLAUSE
