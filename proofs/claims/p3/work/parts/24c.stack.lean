/-! TOWN: the reference's stack of signs -/
section STACK
def nb : List Int32 → Nat
  | [] => 0
  | x :: xs => if x = 33 then nb xs + 1 else 0
def db : List Int32 → List Int32
  | [] => []
  | x :: xs => if x = 33 then db xs else x :: xs
def dep : List Int32 → Nat
  | [] => 0
  | x :: xs => if x = 33 ∨ x = 40 then dep xs + 1 else dep xs
def SKr (l : List Int32) : List Int32 → Prop
  | [] => True
  | x :: xs => l.getD xs.length 0 = x ∧ SKr l xs
theorem SKr.set {l : List Int32} {j : Nat} {v : Int32} : ∀ {st : List Int32}, st.length ≤ j → SKr l st → SKr (l.set j v) st
  | [], _, _ => trivial
  | x :: xs, hj, h => by
    have hj : xs.length + 1 ≤ j := hj
    exact ⟨by rw [gd_ne (by omega)]; exact h.1, SKr.set (by omega) h.2⟩
theorem nb_db : ∀ {st : List Int32}, nb st + (db st).length = st.length
  | [] => rfl
  | x :: xs => by
    have ih := nb_db (st := xs)
    unfold nb db
    by_cases e : x = 33
    · rw [if_pos e, if_pos e]; show nb xs + 1 + _ = xs.length + 1; omega
    · rw [if_neg e, if_neg e, Nat.zero_add]
def FPM (m0 m : mM) (W : Nat) : Prop := (∀ k, k ≠ 13 → k ≠ 14 → k ≠ 23 → k ≠ 24 → k ≠ 25 → mI m k = mI m0 k) ∧ (∀ c, ¬ (9 ≤ c ∧ c ≤ 15) → mA m c = mA m0 c) ∧ (∀ c, mL m c = mL m0 c) ∧ (∀ k, mR m k = mR m0 k) ∧ ((mA m 9).length = 6 ∧ (mA m 10).length = 60 ∧ (mA m 11).length = 60 ∧ (mA m 12).length = 60 ∧ (mA m 13).length = 60 ∧ (mA m 14).length = 600 ∧ (mA m 15).length = 101) ∧ (∀ i, i < W → (mA m 9).getD i 0 = (mA m0 9).getD i 0) ∧ (∀ c i, 10 ≤ c → c ≤ 13 → i < 10 * W → (mA m c).getD i 0 = (mA m0 c).getD i 0) ∧ (∀ i, i < 100 * W → (mA m 14).getD i 0 = (mA m0 14).getD i 0)
def FE (m1 m : mM) (p : Nat) : Prop := mA m 9 = mA m1 9 ∧ mA m 10 = mA m1 10 ∧ mA m 11 = mA m1 11 ∧ mA m 12 = mA m1 12 ∧ ∀ i, i ≠ p → (mA m 13).getD i 0 = (mA m1 13).getD i 0
/-- the reference at work on an E -/
def LM (m0 m1 m : mM) (W L p pos : Nat) (ch : Nat → Nat) (all : List Int32) : Prop := FPM m0 m W ∧ FE m1 m p ∧ TM m L ch pos ∧ (W < 6 ∧ 10 * W ≤ p ∧ p < 10 * W + 10) ∧ mI m 23 = nI (100 * W + all.length) ∧ all.length ≤ pos ∧ ∀ i, i < all.length → (mA m 14).getD (100 * W + i) 0 = all.getD i 0
def SK (m : mM) (st : List Int32) : Prop := mI m 24 = nI st.length ∧ mI m 25 = nI (dep st) ∧ SKr (mA m 15) st
theorem dep_le : ∀ {st : List Int32}, dep st ≤ st.length
  | [] => Nat.le_refl _
  | x :: xs => by
    have := dep_le (st := xs)
    unfold dep
    split
    · exact Nat.succ_le_succ this
    · exact Nat.le_succ_of_le this
section M
variable {m0 m1 m : mM} {W L p pos : Nat} {ch : Nat → Nat} {all st : List Int32}
theorem FPM.nm {m' : mM} (h : FPM m0 m W) (g : NM m m') : FPM m0 m' W := by
  obtain ⟨h1, h2, h3, h4, h5, h6, h7, h8⟩ := h
  refine ⟨fun k k1 k2 k3 k4 k5 => (g.1 k k1 k2).trans (h1 k k1 k2 k3 k4 k5), fun c hc => (g.2.1 c).trans (h2 c hc), fun c => (g.2.2.1 c).trans (h3 c), fun k => (g.2.2.2 k).trans (h4 k), ?_, ?_, ?_, ?_⟩
  · simp only [g.2.1]; exact h5
  · simp only [g.2.1]; exact h6
  · simp only [g.2.1]; exact h7
  · simp only [g.2.1]; exact h8
theorem LM.nm {m' : mM} {pos' : Nat} (h : LM m0 m1 m W L p pos ch all) (g : NM m m') (t : TM m' L ch pos') (hp : pos ≤ pos') : LM m0 m1 m' W L p pos' ch all := by
  obtain ⟨h1, h2, h3, h4, h5, h6, h7⟩ := h
  refine ⟨h1.nm g, ?_, t, h4, by rw [g.1 23 (by decide) (by decide)]; exact h5, by omega, ?_⟩
  · unfold FE at h2 ⊢; simp only [g.2.1]; exact h2
  · simp only [g.2.1]; exact h7
theorem SK.nm {m' : mM} (h : SK m st) (g : NM m m') : SK m' st := by
  unfold SK at h ⊢
  rw [g.1 24 (by decide) (by decide), g.1 25 (by decide) (by decide), g.2.1]; exact h
theorem LM.adv (h : LM m0 m1 m W L p pos ch all) (hp : pos < L) : LM m0 m1 (wI m 13 (mI m 13 + 1)) W L p (pos + 1) ch all := h.nm (NM.I (Or.inl rfl)) (h.2.2.1.adv hp) (Nat.le_succ _)
/-- the stack alone has changed -/
theorem LM.sk {m' : mM} (h : LM m0 m1 m W L p pos ch all) (g1 : ∀ k, k ≠ 24 → k ≠ 25 → mI m' k = mI m k) (g2 : ∀ c, c ≠ 15 → mA m' c = mA m c) (g3 : (mA m' 15).length = 101) (g4 : ∀ c, mL m' c = mL m c) (g5 : ∀ k, mR m' k = mR m k) : LM m0 m1 m' W L p pos ch all := by
  obtain ⟨⟨a1, a2, a3, a4, a5, a6, a7, a8⟩, ⟨b1, b2, b3, b4, b5⟩, ⟨c1, c2, c3, c4, c5, c6⟩, h4, h5, h6, h7⟩ := h
  have e9 := g2 9 (by decide)
  have e10 := g2 10 (by decide)
  have e11 := g2 11 (by decide)
  have e12 := g2 12 (by decide)
  have e13 := g2 13 (by decide)
  have e14 := g2 14 (by decide)
  have e8 := g2 8 (by decide)
  refine ⟨⟨fun k k1 k2 k3 k4 k5 => (g1 k k4 k5).trans (a1 k k1 k2 k3 k4 k5), fun c hc => (g2 c (by omega)).trans (a2 c hc), fun c => (g4 c).trans (a3 c), fun k => (g5 k).trans (a4 k), ?_, ?_, fun c i hc hc2 hi => by rw [g2 c (by omega)]; exact a7 c i hc hc2 hi, ?_⟩, ?_, ?_, h4, by rw [g1 23 (by decide) (by decide)]; exact h5, h6, ?_⟩
  · rw [e9, e10, e11, e12, e13, e14]; exact ⟨a5.1, a5.2.1, a5.2.2.1, a5.2.2.2.1, a5.2.2.2.2.1, a5.2.2.2.2.2.1, g3⟩
  · rw [e9]; exact a6
  · rw [e14]; exact a8
  · unfold FE; rw [e9, e10, e11, e12, e13]; exact ⟨b1, b2, b3, b4, b5⟩
  · unfold TM; rw [g1 12 (by decide) (by decide), g1 13 (by decide) (by decide), e8]; exact ⟨c1, c2, c3, c4, c5, c6⟩
  · rw [e14]; exact h7
/-- a step goes out -/
theorem LM.out {v : Int32} (h : LM m0 m1 m W L p pos ch all) (hp : all.length < pos) : ∃ m', f_X7_emits m v = some ((), m') ∧ LM m0 m1 m' W L p pos ch (all ++ [v]) ∧ (∀ k, k ≠ 23 → mI m' k = mI m k) ∧ (∀ c, c ≠ 14 → mA m' c = mA m c) := by
  obtain ⟨⟨a1, a2, a3, a4, a5, a6, a7, a8⟩, hE, hT, h4, h5, h6, h7⟩ := h
  have hL := hT.2.2.2.1
  have hpL := hT.2.2.1
  have l14 : (mA m 14).length = 600 := a5.2.2.2.2.2.1
  unfold f_X7_emits
  rw [h5, sA_at0 (by omega) (by omega), Option.bind_some, nmM_eq, show mI (wA m 14 ((mA m 14).set (100 * W + all.length) v)) 23 = nI (100 * W + all.length) from h5, nI_1]
  refine ⟨_, rfl, ⟨⟨fun k k1 k2 k3 k4 k5 => by rw [mI_wI, if_neg k3]; exact a1 k k1 k2 k3 k4 k5, fun c hc => by rw [mA_wI, mA_ne (by omega)]; exact a2 c hc, a3, a4, ?_, a6, fun c i hc hc2 hi => by rw [mA_wI, mA_ne (by omega)]; exact a7 c i hc hc2 hi, fun i hi => ?_⟩, hE, hT, h4, ?_, ?_, fun i hi => ?_⟩, fun k hk => by rw [mI_wI, if_neg hk]; rfl, fun c hc => by rw [mA_wI, mA_ne hc]⟩
  · refine ⟨a5.1, a5.2.1, a5.2.2.1, a5.2.2.2.1, a5.2.2.2.2.1, ?_, a5.2.2.2.2.2.2⟩
    rw [mA_wI, mA_wA, if_pos rfl, List.length_set]; exact l14
  · rw [mA_wI, mA_wA, if_pos rfl, gd_ne (by omega)]; exact a8 i hi
  · rw [mI_wI, if_pos rfl, List.length_append]; rfl
  · rw [List.length_append]; show all.length + 1 ≤ pos; omega
  · rw [List.length_append] at hi
    have hi : i < all.length + 1 := hi
    rw [mA_wI, mA_wA, if_pos rfl]
    by_cases e : i = all.length
    · subst e; rw [gd_same (by omega), ap_at]
    · rw [gd_ne (by omega), ap_lt (by omega)]; exact h7 i (by omega)
theorem SK.out {m' : mM} (h : SK m st) (g1 : ∀ k, k ≠ 23 → mI m' k = mI m k) (g2 : ∀ c, c ≠ 14 → mA m' c = mA m c) : SK m' st := by
  unfold SK at h ⊢
  rw [g1 24 (by decide), g1 25 (by decide), g2 15 (by decide)]; exact h
theorem SK.top {x : Int32} {xs : List Int32} (h : SK m (x :: xs)) (hl : (mA m 15).length = 101) (hx : xs.length < 100) : ¬ mI m 24 ≤ 0 ∧ gA (mA m 15) (mI m 24 - 1) = some x := by
  obtain ⟨h1, h2, h3⟩ := h
  have h1 : mI m 24 = nI (xs.length + 1) := h1
  rw [h1]
  refine ⟨nI_nle (by omega) (by omega), ?_⟩
  rw [nI_pred, gA_at (by omega) (by omega), h3.1]
theorem m_whole_lp : ∀ (st all : List Int32) (F : Nat) (m : mM), LM m0 m1 m W L p pos ch all → SK m st → all.length + st.length ≤ pos → st.length < F → ∃ m', f_X7_whole_0 F m = some ((), m') ∧ LM m0 m1 m' W L p pos ch (all ++ List.replicate (nb st) (-33)) ∧ SK m' (db st) := by
  intro st
  induction st with
  | nil =>
    intro all F m h hs hl hF
    obtain ⟨F', rfl⟩ : ∃ F', F = F' + 1 := ⟨F - 1, by omega⟩
    refine ⟨m, ?_, by show LM _ _ _ _ _ _ _ _ (all ++ []); rw [List.append_nil]; exact h, hs⟩
    show fb_X7_whole_0 _ _ = _
    unfold fb_X7_whole_0
    rw [show mI m 24 = nI 0 from hs.1, if_pos (show nI 0 ≤ (0 : Int32) by decide)]
  | cons x xs ih =>
    intro all F m h hs hl hF
    have hl : all.length + (xs.length + 1) ≤ pos := hl
    have hF : xs.length + 1 < F := hF
    have hL := h.2.2.1.2.2.2.1
    have hpL := h.2.2.1.2.2.1
    obtain ⟨F', rfl⟩ : ∃ F', F = F' + 1 := ⟨F - 1, by omega⟩
    obtain ⟨t1, t2⟩ := hs.top h.1.2.2.2.2.1.2.2.2.2.2.2 (by omega)
    show ∃ m', fb_X7_whole_0 _ _ = _ ∧ _
    unfold fb_X7_whole_0
    rw [if_neg t1, t2, Option.bind_some]
    by_cases e : x = 33
    · subst e
      obtain ⟨m2, q1, q2, q3, q4⟩ := h.out (v := -33) (by omega)
      have hs2 := hs.out q3 q4
      have e24 : mI m2 24 = nI (xs.length + 1) := hs2.1
      have e25 : mI m2 25 = nI (dep xs + 1) := hs2.2.1
      rw [if_pos rfl, q1, bnd_some, nmM_eq, nmM_eq, e24, nI_pred, show mI (wI m2 24 (nI xs.length)) 25 = nI (dep xs + 1) from e25, nI_pred]
      have q5 : LM m0 m1 (wI (wI m2 24 (nI xs.length)) 25 (nI (dep xs))) W L p pos ch (all ++ [-33]) := q2.sk (fun k k1 k2 => by rw [mI_wI, if_neg k2, mI_wI, if_neg k1]) (fun _ _ => rfl) q2.1.2.2.2.2.1.2.2.2.2.2.2 (fun _ => rfl) (fun _ => rfl)
      have q6 : SK (wI (wI m2 24 (nI xs.length)) 25 (nI (dep xs))) xs := ⟨by rw [mI_wI, if_neg (by decide), mI_wI, if_pos rfl], by rw [mI_wI, if_pos rfl], hs2.2.2.2⟩
      obtain ⟨m3, r1, r2, r3⟩ := ih (all ++ [-33]) F' _ q5 q6 (by rw [List.length_append]; show all.length + 1 + _ ≤ _; omega) (by omega)
      refine ⟨m3, r1, ?_, ?_⟩
      · have e : all ++ [-33] ++ List.replicate (nb xs) (-33) = all ++ List.replicate (nb ((33 : Int32) :: xs)) (-33) := by
          rw [List.append_assoc]; rfl
        rw [← e]; exact r2
      · exact r3
    · rw [if_neg e]
      refine ⟨m, rfl, ?_, ?_⟩
      · have e2 : nb (x :: xs) = 0 := if_neg e
        rw [e2]; show LM _ _ _ _ _ _ _ _ (all ++ []); rw [List.append_nil]; exact h
      · have e2 : db (x :: xs) = x :: xs := if_neg e
        rw [e2]; exact hs
theorem m_whole (h : LM m0 m1 m W L p pos ch all) (hs : SK m st) (hl : all.length + st.length ≤ pos) : ∃ m', f_X7_whole m = some ((), m') ∧ LM m0 m1 m' W L p pos ch (all ++ List.replicate (nb st) (-33)) ∧ SK m' (db st) := by
  have hL := h.2.2.1.2.2.2.1
  have hpL := h.2.2.1.2.2.1
  exact m_whole_lp st all 1000 m h hs hl (by omega)
theorem m_settle_pop {x y : Int32} {xs : List Int32} {F : Nat} (h : LM m0 m1 m W L p pos ch all) (hs : SK m (x :: xs)) (hl : all.length + xs.length + 1 ≤ pos) (hx : x = 38 ∨ (x = 124 ∧ ¬ y = 38)) : ∃ m', f_X7_settle_0 (F + 1) m y = f_X7_settle_0 F m' y ∧ LM m0 m1 m' W L p pos ch (all ++ [-x]) ∧ SK m' xs := by
  have hL := h.2.2.1.2.2.2.1
  have hpL := h.2.2.1.2.2.1
  have l15 := h.1.2.2.2.2.1.2.2.2.2.2.2
  obtain ⟨t1, t2⟩ := hs.top l15 (by omega)
  have ed : dep (x :: xs) = dep xs := if_neg (by rcases hx with rfl | ⟨rfl, _⟩ <;> decide)
  have e24 : mI m 24 = nI (xs.length + 1) := hs.1
  have h45 : ∀ K : mM → Int32 → fR Unit, ∃ m', f_X7_settle_45 K m y = K m' y ∧ LM m0 m1 m' W L p pos ch (all ++ [-x]) ∧ SK m' xs := by
    intro K
    unfold f_X7_settle_45
    rw [e24, nI_pred, nmM_eq, show mI (wI m 24 (nI xs.length)) 24 = nI xs.length from rfl, show mA (wI m 24 (nI xs.length)) 15 = mA m 15 from rfl, gA_at (by omega) (by omega), hs.2.2.1, Option.bind_some]
    have q5 : LM m0 m1 (wI m 24 (nI xs.length)) W L p pos ch all := h.sk (fun k k1 k2 => by rw [mI_wI, if_neg k1]) (fun _ _ => rfl) l15 (fun _ => rfl) (fun _ => rfl)
    have q6 : SK (wI m 24 (nI xs.length)) xs := ⟨rfl, by rw [mI_wI, if_neg (by decide), hs.2.1, ed], hs.2.2.2⟩
    obtain ⟨m2, r1, r2, r3, r4⟩ := q5.out (v := -x) (by omega)
    rw [r1, bnd_some]
    exact ⟨m2, rfl, r2, q6.out r3 r4⟩
  obtain ⟨m', g1, g2, g3⟩ := h45 (f_X7_settle_0 F)
  refine ⟨m', ?_, g2, g3⟩
  show fb_X7_settle_0 _ _ _ = _
  unfold fb_X7_settle_0
  rw [if_neg t1, t2, Option.bind_some]
  rcases hx with rfl | ⟨rfl, hy⟩
  · rw [if_pos rfl, g1]
  · rw [if_neg (by decide), Option.bind_some, if_pos rfl, if_neg hy, g1]
theorem m_settle_stop {y : Int32} {F : Nat} (h : LM m0 m1 m W L p pos ch all) (hs : SK m st) (hl : all.length + st.length ≤ pos) (hx : st = [] ∨ ∃ x xs, st = x :: xs ∧ ((¬ x = 38 ∧ ¬ x = 124) ∨ (x = 124 ∧ y = 38))) : f_X7_settle_0 (F + 1) m y = some ((), m) := by
  have hL := h.2.2.1.2.2.2.1
  have hpL := h.2.2.1.2.2.1
  have l15 := h.1.2.2.2.2.1.2.2.2.2.2.2
  show fb_X7_settle_0 _ _ _ = _
  unfold fb_X7_settle_0
  rcases hx with rfl | ⟨x, xs, rfl, hx⟩
  · rw [show mI m 24 = nI 0 from hs.1, if_pos (show nI 0 ≤ (0 : Int32) by decide)]
  · have hl : all.length + (xs.length + 1) ≤ pos := hl
    obtain ⟨t1, t2⟩ := hs.top l15 (by omega)
    rw [if_neg t1, t2, Option.bind_some]
    rcases hx with ⟨h1, h2⟩ | ⟨h1, h2⟩
    · rw [if_neg h1, Option.bind_some, if_neg h2]
    · rw [h1, if_neg (by decide), Option.bind_some, if_pos rfl, if_pos h2]
def cl (b : Bool) (x : Int32) : List Int32 := match b with
  | true => [x]
  | false => []
def base (st : List Int32) : Prop := st = [] ∨ ∃ xs, st = 40 :: xs
theorem base.stop {y : Int32} (h : base st) : st = [] ∨ ∃ x xs, st = x :: xs ∧ ((¬ x = 38 ∧ ¬ x = 124) ∨ (x = 124 ∧ y = 38)) := by
  rcases h with h | ⟨xs, h⟩
  · exact Or.inl h
  · exact Or.inr ⟨40, xs, h, Or.inl ⟨by decide, by decide⟩⟩
theorem cl_len {b : Bool} {x y : Int32} : (cl b x).length = (cl b y).length := by cases b <;> rfl
theorem m_settle38 {an j : Bool} (h : LM m0 m1 m W L p pos ch all) (hs : SK m (cl an 38 ++ (cl j 124 ++ st))) (hb : base st) (hl : all.length + (cl an 38 ++ (cl j 124 ++ st)).length ≤ pos) : ∃ m', f_X7_settle m 38 = some ((), m') ∧ LM m0 m1 m' W L p pos ch (all ++ cl an (-38)) ∧ SK m' (cl j 124 ++ st) := by
  unfold f_X7_settle
  have stop : ∀ {m : mM} {all : List Int32} {F : Nat}, LM m0 m1 m W L p pos ch all → SK m (cl j 124 ++ st) → all.length + (cl j 124 ++ st).length ≤ pos → f_X7_settle_0 (F + 1) m 38 = some ((), m) := fun h hs hl => by
    refine m_settle_stop h hs hl ?_
    cases j with
    | false => exact hb.stop
    | true => exact Or.inr ⟨124, st, rfl, Or.inr ⟨rfl, rfl⟩⟩
  cases an with
  | false =>
    refine ⟨m, stop h hs hl, ?_, hs⟩
    show LM _ _ _ _ _ _ _ _ (all ++ []); rw [List.append_nil]; exact h
  | true =>
    have hl : all.length + ((cl j 124 ++ st).length + 1) ≤ pos := hl
    obtain ⟨m', g1, g2, g3⟩ := m_settle_pop (F := 999) (y := 38) (x := 38) (xs := cl j 124 ++ st) h hs (by omega) (Or.inl rfl)
    refine ⟨m', ?_, g2, g3⟩
    rw [g1, stop g2 g3 (by rw [List.length_append]; show all.length + 1 + _ ≤ _; omega)]
theorem m_settle124 {an j : Bool} (h : LM m0 m1 m W L p pos ch all) (hs : SK m (cl an 38 ++ (cl j 124 ++ st))) (hb : base st) (hl : all.length + (cl an 38 ++ (cl j 124 ++ st)).length ≤ pos) : ∃ m', f_X7_settle m 124 = some ((), m') ∧ LM m0 m1 m' W L p pos ch ((all ++ cl an (-38)) ++ cl j (-124)) ∧ SK m' st := by
  unfold f_X7_settle
  have two : ∀ {m : mM} {all : List Int32} {F : Nat}, LM m0 m1 m W L p pos ch all → SK m (cl j 124 ++ st) → all.length + (cl j 124 ++ st).length ≤ pos → ∃ m', f_X7_settle_0 (F + 2) m 124 = some ((), m') ∧ LM m0 m1 m' W L p pos ch (all ++ cl j (-124)) ∧ SK m' st := fun {m all F} h hs hl => by
    cases j with
    | false =>
      refine ⟨m, m_settle_stop h hs hl hb.stop, ?_, hs⟩
      show LM _ _ _ _ _ _ _ _ (all ++ []); rw [List.append_nil]; exact h
    | true =>
      have hl : all.length + (st.length + 1) ≤ pos := hl
      obtain ⟨m', g1, g2, g3⟩ := m_settle_pop (F := F + 1) (y := 124) (x := 124) (xs := st) h hs (by omega) (Or.inr ⟨rfl, by decide⟩)
      refine ⟨m', ?_, g2, g3⟩
      rw [g1, m_settle_stop g2 g3 (by rw [List.length_append]; show all.length + 1 + _ ≤ _; omega) hb.stop]
  cases an with
  | false =>
    have e : all ++ cl false (-38) = all := List.append_nil _
    rw [e]
    exact two h hs hl
  | true =>
    have hl : all.length + ((cl j 124 ++ st).length + 1) ≤ pos := hl
    obtain ⟨m', g1, g2, g3⟩ := m_settle_pop (F := 999) (y := 124) (x := 38) (xs := cl j 124 ++ st) h hs (by omega) (Or.inl rfl)
    rw [g1]
    exact two g2 g3 (by rw [List.length_append]; show all.length + 1 + _ ≤ _; omega)
/-- a sign comes to the stack: ! or ( -/
theorem m_push43 {x y1 y2 : Int32} {K : mM → Int32 → Int32 → fR Int32} (h : LM m0 m1 m W L p pos ch all) (hs : SK m st) (hp : pos < L) (hl : all.length + st.length ≤ pos) (hw : dep st < 4) (hx : x = 33 ∨ x = 40) : ∃ m', f_X7_takesE_43 K m y1 y2 x = K m' y1 y2 ∧ LM m0 m1 m' W L p (pos + 1) ch all ∧ SK m' (x :: st) := by
  have hL := h.2.2.1.2.2.2.1
  have l15 := h.1.2.2.2.2.1.2.2.2.2.2.2
  unfold f_X7_takesE_43
  rw [hs.2.1, if_neg (fun z => by have := (nI_eq (by omega) (by decide)).mp (show nI (dep st) = nI 4 from z); omega), nmM_eq, nI_1]
  rw [show mI (wI m 25 (nI (dep st + 1))) 24 = nI st.length from hs.1, sA_at0 (by show st.length < (mA m 15).length; omega) (by omega), Option.bind_some, nmM_eq, nmM_eq]
  rw [show mA (wI m 25 (nI (dep st + 1))) 15 = mA m 15 from rfl, show mI (wA (wI m 25 (nI (dep st + 1))) 15 ((mA m 15).set st.length x)) 24 = nI st.length from hs.1, nI_1]
  have q5 : LM m0 m1 (wI (wA (wI m 25 (nI (dep st + 1))) 15 ((mA m 15).set st.length x)) 24 (nI (st.length + 1))) W L p pos ch all := h.sk (fun k k1 k2 => by rw [mI_wI, if_neg k1, mI_wA, mI_wI, if_neg k2]) (fun c hc => by rw [mA_wI, mA_ne hc]; rfl) (by rw [mA_wI, mA_wA, if_pos rfl, List.length_set]; exact l15) (fun _ => rfl) (fun _ => rfl)
  have q6 : SK (wI (wA (wI m 25 (nI (dep st + 1))) 15 ((mA m 15).set st.length x)) 24 (nI (st.length + 1))) (x :: st) := by
    refine ⟨by rw [mI_wI, if_pos rfl]; rfl, ?_, ?_⟩
    · have ed : dep (x :: st) = dep st + 1 := if_pos hx
      rw [mI_wI, if_neg (by decide), mI_wA, mI_wI, if_pos rfl, ed]
    · rw [mA_wI, mA_wA, if_pos rfl]
      exact ⟨gd_same (by omega), hs.2.2.set (Nat.le_refl _)⟩
  exact ⟨_, rfl, q5.adv hp, q6.nm (NM.I (Or.inl rfl))⟩
/-- & or | -/
theorem m_push122 {x y1 : Int32} {st2 all2 : List Int32} {K : mM → Int32 → Int32 → fR Int32} (hset : ∃ m', f_X7_settle m x = some ((), m') ∧ LM m0 m1 m' W L p pos ch all2 ∧ SK m' st2) (hp : pos < L) (hl : all2.length + st2.length ≤ pos) (hx : x = 38 ∨ x = 124) : ∃ m', f_X7_takesE_122 K m y1 x = K m' y1 1 ∧ LM m0 m1 m' W L p (pos + 1) ch all2 ∧ SK m' (x :: st2) := by
  obtain ⟨m2, g1, h, hs⟩ := hset
  have hL := h.2.2.1.2.2.2.1
  have l15 := h.1.2.2.2.2.1.2.2.2.2.2.2
  unfold f_X7_takesE_122
  rw [g1, bnd_some, hs.1, sA_at0 (by omega) (by omega), Option.bind_some, nmM_eq, nmM_eq]
  rw [show mI (wA m2 15 ((mA m2 15).set st2.length x)) 24 = nI st2.length from hs.1, nI_1]
  have q5 : LM m0 m1 (wI (wA m2 15 ((mA m2 15).set st2.length x)) 24 (nI (st2.length + 1))) W L p pos ch all2 := h.sk (fun k k1 k2 => by rw [mI_wI, if_neg k1]; rfl) (fun c hc => by rw [mA_wI, mA_ne hc]) (by rw [mA_wI, mA_wA, if_pos rfl, List.length_set]; exact l15) (fun _ => rfl) (fun _ => rfl)
  have q6 : SK (wI (wA m2 15 ((mA m2 15).set st2.length x)) 24 (nI (st2.length + 1))) (x :: st2) := by
    refine ⟨by rw [mI_wI, if_pos rfl]; rfl, ?_, ?_⟩
    · have ed : dep (x :: st2) = dep st2 := if_neg (by rcases hx with rfl | rfl <;> decide)
      rw [mI_wI, if_neg (by decide), ed]; exact hs.2.1
    · rw [mA_wI, mA_wA, if_pos rfl]
      exact ⟨gd_same (by omega), hs.2.2.set (Nat.le_refl _)⟩
  exact ⟨_, rfl, q5.adv hp, q6.nm (NM.I (Or.inl rfl))⟩
end M
end STACK
