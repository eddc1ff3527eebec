/-! TOWN: words and numbers -/
section WORDS
def wdO (ch : Nat → Nat) (L : Nat) : List Nat → Nat → Nat × Bool
  | [], pos => (pos, true)
  | c :: cs, pos => if nx ch L pos = nI c then wdO ch L cs (pos + 1) else (pos, false)
theorem nx_lt {ch : Nat → Nat} {L i c : Nat} (hc : c < 2 ^ 31) (h : nx ch L i = nI c) : i < L := by
  unfold nx at h
  by_cases e : i < L
  · exact e
  · rw [if_neg e] at h; exact absurd h.symm (nI_m1 hc)
theorem wdO_in {ch : Nat → Nat} {L : Nat} : ∀ {cs : List Nat} {pos : Nat}, (∀ c ∈ cs, c < 128) → pos ≤ L → pos ≤ (wdO ch L cs pos).1 ∧ (wdO ch L cs pos).1 ≤ L
  | [], pos, _, hp => ⟨Nat.le_refl _, hp⟩
  | c :: cs, pos, hc, hp => by
    have h1 := hc c (List.mem_cons_self ..)
    unfold wdO
    by_cases e : nx ch L pos = nI c
    · rw [if_pos e]
      have := nx_lt (by omega) e
      have ih := wdO_in (ch := ch) (L := L) (cs := cs) (pos := pos + 1) (fun x hx => hc x (List.mem_cons_of_mem _ hx)) (by omega)
      omega
    · rw [if_neg e]; exact ⟨Nat.le_refl _, hp⟩
def isdg (x : Int32) : Bool := decide (¬ x < 48) && decide (¬ (57 : Int32) < x)
def nbO (ch : Nat → Nat) (L pos : Nat) : Option (Nat × Nat) := if isdg (nx ch L pos) = true then (if isdg (nx ch L (pos + 1)) = true then some (10 * (ch pos - 48) + (ch (pos + 1) - 48), pos + 2) else some (ch pos - 48, pos + 1)) else none
theorem isdg_nx {ch : Nat → Nat} {L pos : Nat} (hb : ∀ i, i < L → ch i < 128) (h : isdg (nx ch L pos) = true) : pos < L ∧ 48 ≤ ch pos ∧ ch pos ≤ 57 ∧ nx ch L pos = nI (ch pos) := by
  unfold isdg at h
  simp only [Bool.and_eq_true, decide_eq_true_eq] at h
  obtain ⟨h1, h2⟩ := h
  have e48 : (48 : Int32).toInt = 48 := by decide
  have e57 : (57 : Int32).toInt = 57 := by decide
  rw [Int32.lt_iff_toInt_lt, e48] at h1
  rw [Int32.lt_iff_toInt_lt, e57] at h2
  have hx : pos < L := by
    refine Decidable.byContradiction fun c => ?_
    have : nx ch L pos = -1 := if_neg c
    rw [this] at h1
    have : (-1 : Int32).toInt = -1 := by decide
    omega
  have e : nx ch L pos = nI (ch pos) := if_pos hx
  have := hb pos hx
  rw [e, nI_toInt (by omega)] at h1 h2
  exact ⟨hx, by omega, by omega, e⟩
theorem nbO_in {ch : Nat → Nat} {L pos v p' : Nat} (hb : ∀ i, i < L → ch i < 128) (h : nbO ch L pos = some (v, p')) : pos < p' ∧ p' ≤ L ∧ v < 100 := by
  unfold nbO at h
  by_cases d1 : isdg (nx ch L pos) = true
  · obtain ⟨a1, a2, a3, a4⟩ := isdg_nx hb d1
    rw [if_pos d1] at h
    by_cases d2 : isdg (nx ch L (pos + 1)) = true
    · obtain ⟨b1, b2, b3, b4⟩ := isdg_nx hb d2
      rw [if_pos d2] at h
      cases h; omega
    · rw [if_neg d2] at h
      cases h; omega
  · rw [if_neg d1] at h; cases h
theorem dg_add {v c : Nat} (h : 48 ≤ c) : (10 : Int32) * nI v + nI c - 48 = nI (10 * v + (c - 48)) := by
  obtain ⟨d, rfl⟩ : ∃ d, c = d + 48 := ⟨c - 48, by omega⟩
  have e1 : (10 : Int32) * nI v = nI (10 * v) := (Int32.ofNat_mul 10 v).symm
  rw [e1, ← nI_add d 48, ← Int32.add_assoc, nI_add, show d + 48 - 48 = d by omega]
  exact Int32.add_sub_cancel _ _
section X
variable {mx m0 m : mM} {a L pos : Nat} {ch : Nat → Nat} {T : Nat × Nat × Nat} {tk : List (Nat × Nat)} {all : List Int32}
theorem LX.word (hT : TXT mx m0 L ch) {z : Nat} {cs : List Nat} (hl : cs.length < 100) (hz : stL z = some (nI cs.length)) (hs : ∀ i, i < cs.length → stA z (nI i) = some (nI (cs.getD i 0))) (hc : ∀ c ∈ cs, c < 128) (h : LX mx m a L pos T tk all) : ∃ m', f_X4_word m z = some ((), m') ∧ (((wdO ch L cs pos).2 = true ∧ LX mx m' a L (wdO ch L cs pos).1 T tk all) ∨ ((wdO ch L cs pos).2 = false ∧ DX mx m' a L (wdO ch L cs pos).1)) := by
  unfold f_X4_word
  have main : ∀ (j k F : Nat), k + j = cs.length → j < F → (∀ m pos, LX mx m a L pos T tk all → ∃ m', f_X4_word_2 F m z (nI k) = some ((), m') ∧ (((wdO ch L (cs.drop k) pos).2 = true ∧ LX mx m' a L (wdO ch L (cs.drop k) pos).1 T tk all) ∨ ((wdO ch L (cs.drop k) pos).2 = false ∧ DX mx m' a L (wdO ch L (cs.drop k) pos).1))) ∧ (∀ m pos, DX mx m a L pos → ∃ m', f_X4_word_2 F m z (nI k) = some ((), m') ∧ DX mx m' a L pos) := by
    intro j
    induction j with
    | zero =>
      intro k F hk hF
      obtain ⟨F', rfl⟩ : ∃ F', F = F' + 1 := ⟨F - 1, by omega⟩
      have e : ∀ m, f_X4_word_2 (F' + 1) m z (nI k) = some ((), m) := fun m => by
        show fb_X4_word_2 _ _ _ _ = _
        unfold fb_X4_word_2
        rw [hz, Option.bind_some, if_pos (nI_le (by omega) (by omega))]
      refine ⟨fun m pos h => ⟨m, e m, Or.inl ?_⟩, fun m pos h => ⟨m, e m, h⟩⟩
      rw [List.drop_of_length_le (by omega)]
      exact ⟨rfl, h⟩
    | succ j ih =>
      intro k F hk hF
      obtain ⟨F', rfl⟩ : ∃ F', F = F' + 1 := ⟨F - 1, by omega⟩
      obtain ⟨i1, i2⟩ := ih (k + 1) F' (by omega) (by omega)
      have hkl : k < cs.length := by omega
      have hcb := hc (cs.getD k 0) (by rw [List.getD_eq_getElem?_getD, List.getElem?_eq_getElem hkl]; exact List.getElem_mem hkl)
      refine ⟨fun m pos h => ?_, fun m pos h => ?_⟩
      · rw [dropD (d := 0) hkl]
        show ∃ m', fb_X4_word_2 _ _ _ _ = _ ∧ _
        unfold fb_X4_word_2 wdO
        rw [hz, Option.bind_some, if_neg (nI_ge (by omega) (by omega)), h.next hT, bnd_some, hs k hkl, Option.bind_some]
        by_cases e : nx ch L pos = nI (cs.getD k 0)
        · rw [if_pos e, if_pos e, nmM_eq, nI_1]
          exact i1 _ _ (h.adv (nx_lt (by omega) e))
        · rw [if_neg e, if_neg e, nmM_eq, nI_1]
          obtain ⟨m', q1, q2⟩ := i2 _ _ h.die
          exact ⟨m', q1, Or.inr ⟨rfl, q2⟩⟩
      · show ∃ m', fb_X4_word_2 _ _ _ _ = _ ∧ _
        unfold fb_X4_word_2
        rw [hz, Option.bind_some, if_neg (nI_ge (by omega) (by omega)), h.next, bnd_some, hs k hkl, Option.bind_some, if_neg (fun z => nI_m1 (by omega) z.symm), nmM_eq, nI_1]
        exact i2 _ _ h.die
  obtain ⟨r, _⟩ := main cs.length 0 1000 (by omega) (by omega)
  have := r m pos h
  rw [List.drop_zero] at this
  exact this
theorem DX.word {z : Nat} {cs : List Nat} (hl : cs.length < 100) (hz : stL z = some (nI cs.length)) (hs : ∀ i, i < cs.length → stA z (nI i) = some (nI (cs.getD i 0))) (hc : ∀ c ∈ cs, c < 128) (h : DX mx m a L pos) : ∃ m', f_X4_word m z = some ((), m') ∧ DX mx m' a L pos := by
  unfold f_X4_word
  have main : ∀ (j k F : Nat), k + j = cs.length → j < F → ∀ m, DX mx m a L pos → ∃ m', f_X4_word_2 F m z (nI k) = some ((), m') ∧ DX mx m' a L pos := by
    intro j
    induction j with
    | zero =>
      intro k F hk hF m h
      obtain ⟨F', rfl⟩ : ∃ F', F = F' + 1 := ⟨F - 1, by omega⟩
      refine ⟨m, ?_, h⟩
      show fb_X4_word_2 _ _ _ _ = _
      unfold fb_X4_word_2
      rw [hz, Option.bind_some, if_pos (nI_le (by omega) (by omega))]
    | succ j ih =>
      intro k F hk hF m h
      obtain ⟨F', rfl⟩ : ∃ F', F = F' + 1 := ⟨F - 1, by omega⟩
      have hkl : k < cs.length := by omega
      have hcb := hc (cs.getD k 0) (by rw [List.getD_eq_getElem?_getD, List.getElem?_eq_getElem hkl]; exact List.getElem_mem hkl)
      show ∃ m', fb_X4_word_2 _ _ _ _ = _ ∧ _
      unfold fb_X4_word_2
      rw [hz, Option.bind_some, if_neg (nI_ge (by omega) (by omega)), h.next, bnd_some, hs k hkl, Option.bind_some, if_neg (fun z => nI_m1 (by omega) z.symm), nmM_eq, nI_1]
      exact ih (k + 1) F' (by omega) (by omega) _ h.die
  exact main cs.length 0 1000 (by omega) (by omega) m h
theorem LX.nb_step (hT : TXT mx m0 L ch) (h : LX mx m a L pos T tk all) {v j : Nat} {K : mM → Int32 → Int32 → fR Int32} (hj : j < 2) : fb_X4_number_4 K m (nI v) (nI j) = if isdg (nx ch L pos) = true then K (wI m 130 (mI m 130 + 1)) (nI (10 * v + (ch pos - 48))) (nI (j + 1)) else f_X4_number_56 m (nI v) (nI j) := by
  unfold fb_X4_number_4
  rw [if_neg (show ¬ (2 : Int32) ≤ nI j from (nI_ge hj (by decide) : ¬ nI 2 ≤ nI j)), h.next hT, bnd_some]
  by_cases d : isdg (nx ch L pos) = true
  · obtain ⟨a1, a2, a3, a4⟩ := isdg_nx (fun i hi => (hT.2.2.2.2.2 i hi).2.2) d
    unfold isdg at d
    simp only [Bool.and_eq_true, decide_eq_true_eq] at d
    rw [if_neg d.1, h.next hT, bnd_some, if_neg d.2, h.next hT, bnd_some, nmI_eq, nmM_eq]
    rw [if_pos (by unfold isdg; simp only [Bool.and_eq_true, decide_eq_true_eq]; exact d), a4, dg_add a2, nI_1]
  · rw [if_neg d]
    unfold isdg at d
    simp only [Bool.and_eq_true, decide_eq_true_eq] at d
    by_cases c : nx ch L pos < 48
    · rw [if_pos c]
    · rw [if_neg c, h.next hT, bnd_some, if_pos (Decidable.byContradiction fun z => d ⟨c, z⟩)]
theorem LX.number (hT : TXT mx m0 L ch) (h : LX mx m a L pos T tk all) : (nbO ch L pos = none ∧ ∃ m', f_X4_number m = some (0, m') ∧ DX mx m' a L pos) ∨ (∃ v p' m', nbO ch L pos = some (v, p') ∧ f_X4_number m = some (nI v, m') ∧ LX mx m' a L p' T tk all) := by
  unfold f_X4_number
  show (_ ∧ ∃ m', fb_X4_number_4 (f_X4_number_4 999) m (nI 0) (nI 0) = _ ∧ _) ∨ (∃ v p' m', _ ∧ fb_X4_number_4 (f_X4_number_4 999) m (nI 0) (nI 0) = _ ∧ _)
  unfold nbO
  rw [h.nb_step hT (by decide)]
  by_cases d1 : isdg (nx ch L pos) = true
  · obtain ⟨a1, a2, a3, a4⟩ := isdg_nx (fun i hi => (hT.2.2.2.2.2 i hi).2.2) d1
    right
    rw [if_pos d1, if_pos d1]
    have h1 := h.adv a1
    have e1 : f_X4_number_4 999 (wI m 130 (mI m 130 + 1)) (nI (10 * 0 + (ch pos - 48))) (nI (0 + 1)) = fb_X4_number_4 (f_X4_number_4 998) (wI m 130 (mI m 130 + 1)) (nI (10 * 0 + (ch pos - 48))) (nI (0 + 1)) := rfl
    rw [e1, h1.nb_step hT (by decide)]
    by_cases d2 : isdg (nx ch L (pos + 1)) = true
    · obtain ⟨b1, b2, b3, b4⟩ := isdg_nx (fun i hi => (hT.2.2.2.2.2 i hi).2.2) d2
      rw [if_pos d2, if_pos d2]
      have h2 := h1.adv b1
      refine ⟨_, _, _, rfl, ?_, h2⟩
      show fb_X4_number_4 _ _ _ _ = _
      unfold fb_X4_number_4
      rw [if_pos (show (2 : Int32) ≤ nI (0 + 1 + 1) by decide)]
      unfold f_X4_number_56
      rw [if_neg (show ¬ nI (0 + 1 + 1) = 0 by decide), Nat.mul_zero, Nat.zero_add]
    · rw [if_neg d2, if_neg d2]
      refine ⟨_, _, _, rfl, ?_, h1⟩
      unfold f_X4_number_56
      rw [if_neg (show ¬ nI (0 + 1) = 0 by decide), Nat.mul_zero, Nat.zero_add]
  · left
    rw [if_neg d1, if_neg d1]
    unfold f_X4_number_56
    rw [if_pos (show nI 0 = 0 by decide), nmM_eq]
    exact ⟨rfl, _, rfl, h.die⟩
theorem DX.number (h : DX mx m a L pos) : ∃ m', f_X4_number m = some (0, m') ∧ DX mx m' a L pos := by
  unfold f_X4_number
  show ∃ m', fb_X4_number_4 _ m 0 0 = _ ∧ _
  unfold fb_X4_number_4
  rw [if_neg (show ¬ (2 : Int32) ≤ 0 by decide), h.next, bnd_some, if_pos (show (-1 : Int32) < 48 by decide)]
  unfold f_X4_number_56
  rw [if_pos rfl, nmM_eq]
  exact ⟨_, rfl, h.die⟩
end X
/-- the reference at a place of THE TEXT -/
def TM (m : mM) (L : Nat) (ch : Nat → Nat) (pos : Nat) : Prop := mI m 12 = nI L ∧ mI m 13 = nI pos ∧ pos ≤ L ∧ L ≤ 100 ∧ (mA m 8).length = 100 ∧ ∀ i, i < L → (mA m 8).getD i 0 = nI (ch i) ∧ ch i < 128
def NM (m m' : mM) : Prop := (∀ k, k ≠ 13 → k ≠ 14 → mI m' k = mI m k) ∧ (∀ c, mA m' c = mA m c) ∧ (∀ c, mL m' c = mL m c) ∧ (∀ k, mR m' k = mR m k)
section M
variable {m : mM} {L pos : Nat} {ch : Nat → Nat}
theorem NM.rfl : NM m m := ⟨fun _ _ _ => Eq.refl _, fun _ => Eq.refl _, fun _ => Eq.refl _, fun _ => Eq.refl _⟩
theorem NM.trans {m1 m2 : mM} (h : NM m m1) (g : NM m1 m2) : NM m m2 := ⟨fun k a b => (g.1 k a b).trans (h.1 k a b), fun c => (g.2.1 c).trans (h.2.1 c), fun c => (g.2.2.1 c).trans (h.2.2.1 c), fun c => (g.2.2.2 c).trans (h.2.2.2 c)⟩
theorem NM.I {k : Nat} {v : Int32} (hk : k = 13 ∨ k = 14) : NM m (wI m k v) := ⟨fun j a b => by rw [mI_wI, if_neg (by omega)], fun _ => Eq.refl _, fun _ => Eq.refl _, fun _ => Eq.refl _⟩
theorem TM.next (h : TM m L ch pos) : f_X7_next m = some (nx ch L pos, m) := by
  obtain ⟨h1, h2, h3, h4, h5, h6⟩ := h
  unfold f_X7_next nx
  rw [h1, h2]
  by_cases c : pos < L
  · rw [if_neg (nI_ge c (by omega)), if_pos c, gA_at (by omega) (by omega), (h6 pos c).1, Option.bind_some]
  · rw [if_pos (nI_le (by omega) (by omega)), if_neg c]
theorem TM.adv (h : TM m L ch pos) (hp : pos < L) : TM (wI m 13 (mI m 13 + 1)) L ch (pos + 1) := by
  obtain ⟨h1, h2, h3, h4, h5, h6⟩ := h
  exact ⟨h1, by rw [mI_wI, if_pos rfl, h2, nI_1], by omega, h4, h5, h6⟩
theorem TM.sign (h : TM m L ch pos) {c : Nat} (hc : c < 128) : ∃ m', f_X7_takes m (nI c) = some (zB (decide (nx ch L pos = nI c)), m') ∧ NM m m' ∧ TM m' L ch (if nx ch L pos = nI c then pos + 1 else pos) := by
  unfold f_X7_takes
  rw [h.next, bnd_some]
  by_cases e : nx ch L pos = nI c
  · rw [if_pos e, nmM_eq, decide_eq_true e, if_pos e]
    exact ⟨_, rfl, NM.I (Or.inl rfl), h.adv (nx_lt (by omega) e)⟩
  · rw [if_neg e, decide_eq_false e, if_neg e]
    exact ⟨_, rfl, NM.rfl, h⟩
theorem TM.word {q : Nat} {cs : List Nat} (hl : cs.length < 100) (hq : q < 100) (h16 : ∀ i, i < cs.length → gA (mA m 16) (nI (q + i)) = some (nI (cs.getD i 0))) (hc : ∀ c ∈ cs, c < 128) (h : TM m L ch pos) : ∃ m', f_X7_takesWord m (nI q) (nI cs.length) = some (zB (wdO ch L (cs ++ [32]) pos).2, m') ∧ NM m m' ∧ TM m' L ch (wdO ch L (cs ++ [32]) pos).1 := by
  unfold f_X7_takesWord
  have main : ∀ (j k F : Nat) (m1 : mM) (pos : Nat), k + j = cs.length → j < F → NM m m1 → TM m1 L ch pos → ∃ m', f_X7_takesWord_2 F m1 (nI q) (nI cs.length) (nI k) = some (zB (wdO ch L (cs.drop k ++ [32]) pos).2, m') ∧ NM m m' ∧ TM m' L ch (wdO ch L (cs.drop k ++ [32]) pos).1 := by
    intro j
    induction j with
    | zero =>
      intro k F m1 pos hk hF hn h
      obtain ⟨F', rfl⟩ : ∃ F', F = F' + 1 := ⟨F - 1, by omega⟩
      obtain ⟨m2, q1, q2, q3⟩ := h.sign (c := 32) (by decide)
      show ∃ m', fb_X7_takesWord_2 _ _ _ _ _ = _ ∧ _
      unfold fb_X7_takesWord_2
      rw [if_pos (nI_le (by omega) (by omega)), show (32 : Int32) = nI 32 from rfl, q1, bnd_some, chZ_zB, List.drop_of_length_le (by omega), List.nil_append]
      refine ⟨m2, ?_, hn.trans q2, ?_⟩
      · show _ = some (zB (if nx ch L pos = nI 32 then (pos + 1, true) else (pos, false)).2, m2)
        by_cases e : nx ch L pos = nI 32
        · rw [if_pos e, decide_eq_true e]
        · rw [if_neg e, decide_eq_false e]
      · show TM m2 L ch (if nx ch L pos = nI 32 then (pos + 1, true) else (pos, false)).1
        by_cases e : nx ch L pos = nI 32
        · rw [if_pos e] at q3 ⊢; exact q3
        · rw [if_neg e] at q3 ⊢; exact q3
    | succ j ih =>
      intro k F m1 pos hk hF hn h
      obtain ⟨F', rfl⟩ : ∃ F', F = F' + 1 := ⟨F - 1, by omega⟩
      have hkl : k < cs.length := by omega
      have hcb := hc (cs.getD k 0) (by rw [List.getD_eq_getElem?_getD, List.getElem?_eq_getElem hkl]; exact List.getElem_mem hkl)
      obtain ⟨m2, q1, q2, q3⟩ := h.sign hcb
      show ∃ m', fb_X7_takesWord_2 _ _ _ _ _ = _ ∧ _
      unfold fb_X7_takesWord_2
      rw [if_neg (nI_ge (by omega) (by omega)), hn.2.1 16, nI_add, h16 k hkl, Option.bind_some, q1, bnd_some, dropD (d := 0) hkl, List.cons_append]
      unfold wdO
      by_cases e : nx ch L pos = nI (cs.getD k 0)
      · rw [decide_eq_true e, zB_t, if_neg i0, if_pos e, nI_1]
        rw [if_pos e] at q3
        exact ih (k + 1) F' m2 (pos + 1) (by omega) (by omega) (hn.trans q2) q3
      · rw [decide_eq_false e, zB_f, if_pos rfl, if_neg e]
        rw [if_neg e] at q3
        exact ⟨m2, rfl, hn.trans q2, q3⟩
  have := main cs.length 0 1000 m pos (by omega) (by omega) NM.rfl h
  rw [List.drop_zero] at this
  exact this
theorem TM.digit (h : TM m L ch pos) : f_X7_isDigit m = some (zB (isdg (nx ch L pos)), m) := by
  unfold f_X7_isDigit f_X7_in isdg
  rw [h.next, bnd_some]
  by_cases c1 : nx ch L pos < 48
  · rw [if_pos c1, bnd_some, chZ_t (Or.inl rfl), decide_eq_false (fun z => z c1)]; rfl
  · rw [if_neg c1, decide_eq_true c1]
    by_cases c2 : (57 : Int32) < nx ch L pos
    · rw [if_pos c2, bnd_some, chZ_t (Or.inl rfl), decide_eq_false (fun z => z c2)]; rfl
    · rw [if_neg c2, bnd_some, chZ_t (Or.inr rfl), decide_eq_true c2]; rfl
theorem TM.nb_step (h : TM m L ch pos) {v j : Nat} {K : mM → Int32 → fR Int32} (hj : j < 2) (hv : mI m 14 = nI v) : fb_X7_takesNumber_16 K m (nI j) = if isdg (nx ch L pos) = true then K (wI (wI m 14 (nI (10 * v + (ch pos - 48)))) 13 (mI m 13 + 1)) (nI (j + 1)) else some (1, m) := by
  unfold fb_X7_takesNumber_16
  rw [if_neg (show ¬ (2 : Int32) ≤ nI j from (nI_ge hj (by decide) : ¬ nI 2 ≤ nI j)), h.digit, bnd_some]
  by_cases d : isdg (nx ch L pos) = true
  · obtain ⟨a1, a2, a3, a4⟩ := isdg_nx (fun i hi => (h.2.2.2.2.2 i hi).2) d
    rw [d, zB_t, if_neg i0, if_pos rfl, h.next, bnd_some, nmM_eq, nmM_eq, hv, a4, dg_add a2, nI_1]
    rfl
  · rw [if_neg d, Bool.eq_false_iff.mpr d, zB_f, if_pos rfl]
theorem TM.number (h : TM m L ch pos) : (nbO ch L pos = none ∧ f_X7_takesNumber m = some (0, m)) ∨ (∃ v p' m', nbO ch L pos = some (v, p') ∧ f_X7_takesNumber m = some (1, m') ∧ NM m m' ∧ TM m' L ch p' ∧ mI m' 14 = nI v) := by
  have hb : ∀ i, i < L → ch i < 128 := fun i hi => (h.2.2.2.2.2 i hi).2
  unfold f_X7_takesNumber nbO
  rw [h.digit, bnd_some]
  by_cases d1 : isdg (nx ch L pos) = true
  · obtain ⟨a1, a2, a3, a4⟩ := isdg_nx hb d1
    right
    rw [if_pos d1, d1, zB_t, if_neg i0, nmM_eq]
    have h0 : TM (wI m 14 0) L ch pos := h
    have e0 : f_X7_takesNumber_16 1000 (wI m 14 0) 0 = fb_X7_takesNumber_16 (f_X7_takesNumber_16 999) (wI m 14 0) (nI 0) := rfl
    rw [e0, h0.nb_step (v := 0) (by decide) rfl, if_pos d1]
    have h1 : TM (wI (wI (wI m 14 0) 14 (nI (10 * 0 + (ch pos - 48)))) 13 (mI (wI m 14 0) 13 + 1)) L ch (pos + 1) := TM.adv (m := wI (wI m 14 0) 14 (nI (10 * 0 + (ch pos - 48)))) h a1
    have n1 : NM m (wI (wI (wI m 14 0) 14 (nI (10 * 0 + (ch pos - 48)))) 13 (mI (wI m 14 0) 13 + 1)) := (NM.I (Or.inr rfl)).trans ((NM.I (Or.inr rfl)).trans (NM.I (Or.inl rfl)))
    generalize hm1 : wI (wI (wI m 14 0) 14 (nI (10 * 0 + (ch pos - 48)))) 13 (mI (wI m 14 0) 13 + 1) = m1 at h1 n1 ⊢
    have v1 : mI m1 14 = nI (ch pos - 48) := by rw [← hm1, mI_wI, if_neg (by decide), mI_wI, if_pos rfl, Nat.mul_zero, Nat.zero_add]
    have e1 : f_X7_takesNumber_16 999 m1 (nI (0 + 1)) = fb_X7_takesNumber_16 (f_X7_takesNumber_16 998) m1 (nI (0 + 1)) := rfl
    rw [e1, h1.nb_step (v := ch pos - 48) (by decide) v1]
    by_cases d2 : isdg (nx ch L (pos + 1)) = true
    · obtain ⟨b1, b2, b3, b4⟩ := isdg_nx hb d2
      rw [if_pos d2, if_pos d2]
      have h2 : TM (wI (wI m1 14 (nI (10 * (ch pos - 48) + (ch (pos + 1) - 48)))) 13 (mI m1 13 + 1)) L ch (pos + 1 + 1) := TM.adv (m := wI m1 14 (nI (10 * (ch pos - 48) + (ch (pos + 1) - 48)))) h1 b1
      refine ⟨_, _, _, rfl, ?_, n1.trans ((NM.I (Or.inr rfl)).trans (NM.I (Or.inl rfl))), h2, ?_⟩
      · show fb_X7_takesNumber_16 _ _ _ = _
        unfold fb_X7_takesNumber_16
        rw [if_pos (show (2 : Int32) ≤ nI (0 + 1 + 1) by decide)]
      · rw [mI_wI, if_neg (by decide), mI_wI, if_pos rfl]
    · rw [if_neg d2, if_neg d2]
      exact ⟨_, _, _, rfl, rfl, n1, h1, v1⟩
  · left
    rw [if_neg d1, Bool.eq_false_iff.mpr d1, zB_f, if_pos rfl]
    exact ⟨rfl, rfl⟩
end M
end WORDS
