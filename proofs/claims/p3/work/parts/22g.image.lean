/-! THE IMAGE, and back -/
section IMAGE
variable {mx mm : mM}
theorem mA_ne {m : mM} {c k : Nat} {v : List Int32} (h : k ≠ c) : mA (wA m c v) k = mA m k := if_neg h
theorem mA_eq {m : mM} {c : Nat} {v : List Int32} : mA (wA m c v) c = v := if_pos rfl
theorem lp_inv {R : Type} {fb : (mM → Int32 → fR R) → mM → Int32 → fR R} {f : Nat → mM → Int32 → fR R} (hf : ∀ F m y, f (F + 1) m y = fb (f F) m y) {n : Nat} {I : Nat → mM → Prop} {Q : fR R → Prop} (hs : ∀ k m, k < n → I k m → ∃ m', I (k + 1) m' ∧ ∀ K, fb K m (nI k) = K m' (nI (k + 1))) (he : ∀ m, I n m → ∀ K, Q (fb K m (nI n))) : ∀ (j k F : Nat) (m : mM), k + j = n → j < F → I k m → Q (f F m (nI k)) := by
  intro j
  induction j with
  | zero =>
    intro k F m hk hF hI
    obtain ⟨F', rfl⟩ : ∃ F', F = F' + 1 := ⟨F - 1, by omega⟩
    obtain rfl : k = n := by omega
    rw [hf]; exact he m hI _
  | succ j ih =>
    intro k F m hk hF hI
    obtain ⟨F', rfl⟩ : ∃ F', F = F' + 1 := ⟨F - 1, by omega⟩
    obtain ⟨m', h1, h2⟩ := hs k m (by omega) hI
    rw [hf, h2]
    exact ih (k + 1) F' m' (by omega) (by omega) h1
theorem cp1 {R : Type} {m : mM} {a b k : Nat} {F : mM → fR R} (ha : k < (mA m a).length) (hb : k < (mA m b).length) (hk : k < 2 ^ 31) : (gA (mA m a) (nI k)).bind (fun x => (sA 0 m b (nI k) x).bind F) = F (wA m b ((mA m b).set k ((mA m a).getD k 0))) := by
  rw [gA_at ha hk, Option.bind_some, sA_at0 hb hk, Option.bind_some]
theorem cp3 {R : Type} {m : mM} {a b k : Nat} {F : mM → fR R} (ha : k < (mA m a).length) (hb : k < (mA m b).length) (hk : k < 2 ^ 31) (hx : (mA m a).getD k 0 = 0 ∨ (mA m a).getD k 0 = 1) : (gA (mA m a) (nI k)).bind (fun x => (sA 3 m b (nI k) x).bind F) = F (wA m b ((mA m b).set k ((mA m a).getD k 0))) := by
  rw [gA_at ha hk, Option.bind_some, sA_at3 hb hk hx, Option.bind_some]
/-- k items of row a of m0 lie in row b of m -/
def cpd (m0 m : mM) (a b k : Nat) : Prop := mA m b = cpS 0 (mA m0 a) 0 0 (mA m0 b) k
/-- arrays but those are as they were, all else too -/
def sameBut (cs : List Nat) (m0 m : mM) : Prop := m.1 = m0.1 ∧ m.2.2 = m0.2.2 ∧ ∀ c, c ∉ cs → mA m c = mA m0 c
theorem cpS_s {α : Type} {z : α} {src ys : List α} {k : Nat} : (cpS z src 0 0 ys k).set k (src.getD k z) = cpS z src 0 0 ys (k + 1) := by
  rw [cpS, Nat.zero_add]
theorem cp1c {R : Type} {m m0 : mM} {a b k : Nat} {F : mM → fR R} (e1 : mA m a = mA m0 a) (e2 : mA m b = cpS 0 (mA m0 a) 0 0 (mA m0 b) k) (ha : k < (mA m0 a).length) (hb : k < (mA m0 b).length) (hk : k < 2 ^ 31) : (gA (mA m a) (nI k)).bind (fun x => (sA 0 m b (nI k) x).bind F) = F (wA m b (cpS 0 (mA m0 a) 0 0 (mA m0 b) (k + 1))) := by
  rw [cp1 (by rw [e1]; exact ha) (by rw [e2, cpS_len]; exact hb) hk, e1, e2, cpS_s]
theorem cp3c {R : Type} {m m0 : mM} {a b k : Nat} {F : mM → fR R} (e1 : mA m a = mA m0 a) (e2 : mA m b = cpS 0 (mA m0 a) 0 0 (mA m0 b) k) (ha : k < (mA m0 a).length) (hb : k < (mA m0 b).length) (hk : k < 2 ^ 31) (hx : (mA m0 a).getD k 0 = 0 ∨ (mA m0 a).getD k 0 = 1) : (gA (mA m a) (nI k)).bind (fun x => (sA 3 m b (nI k) x).bind F) = F (wA m b (cpS 0 (mA m0 a) 0 0 (mA m0 b) (k + 1))) := by
  rw [cp3 (by rw [e1]; exact ha) (by rw [e2, cpS_len]; exact hb) hk (by rw [e1]; exact hx), e1, e2, cpS_s]
set_option maxHeartbeats 1000000 in
theorem img_loop1 {m0 : mM} {Q : fR Int32 → Prop} (h : MSh m0) (h2 : MKh m0) (he : ∀ m, sameBut [24, 25, 26, 27, 28, 31] m0 m → mA m 24 = mA m0 1 → mA m 25 = mA m0 2 → mA m 26 = mA m0 3 → mA m 27 = mA m0 4 → mA m 28 = mA m0 5 → mA m 31 = mA m0 7 → Q (f_X7_image_133 1000 m 0)) : Q (f_X7_image_47 1000 m0 0) := by
  obtain ⟨⟨a1, a2, a3, a4, a7, a6, h01⟩, a5, a23⟩ := h
  obtain ⟨⟨k1, k2, k3, k4, k7, k6, -⟩, k5, k23⟩ := h2
  refine lp_inv (fun _ _ _ => rfl) (n := 7) (I := fun k m => sameBut [24, 25, 26, 27, 28, 31] m0 m ∧ cpd m0 m 1 24 k ∧ cpd m0 m 2 25 k ∧ cpd m0 m 3 26 k ∧ cpd m0 m 4 27 k ∧ cpd m0 m 5 28 k ∧ cpd m0 m 7 31 k) (fun k m hk hI => ?_) (fun m hI K => ?_) 7 0 1000 m0 (by omega) (by omega) ⟨⟨rfl, rfl, fun _ _ => rfl⟩, rfl, rfl, rfl, rfl, rfl, rfl⟩
  · obtain ⟨⟨s1, s2, s3⟩, c1, c2, c3, c4, c5, c7⟩ := hI
    have e1 := s3 1 (by decide); have e2 := s3 2 (by decide); have e3 := s3 3 (by decide); have e4 := s3 4 (by decide); have e5 := s3 5 (by decide); have e7 := s3 7 (by decide)
    refine ⟨wA (wA (wA (wA (wA (wA m 24 (cpS 0 (mA m0 1) 0 0 (mA m0 24) (k + 1))) 25 (cpS 0 (mA m0 2) 0 0 (mA m0 25) (k + 1))) 26 (cpS 0 (mA m0 3) 0 0 (mA m0 26) (k + 1))) 27 (cpS 0 (mA m0 4) 0 0 (mA m0 27) (k + 1))) 28 (cpS 0 (mA m0 5) 0 0 (mA m0 28) (k + 1))) 31 (cpS 0 (mA m0 7) 0 0 (mA m0 31) (k + 1)), ⟨⟨s1, s2, fun c hc => ?_⟩, rfl, rfl, rfl, rfl, rfl, rfl⟩, fun K => ?_⟩
    · simp only [List.mem_cons, List.not_mem_nil, or_false, not_or] at hc
      rw [mA_ne (by omega), mA_ne (by omega), mA_ne (by omega), mA_ne (by omega), mA_ne (by omega), mA_ne (by omega)]
      exact s3 c (by simp; omega)
    · unfold fb_X7_image_47
      rw [if_neg (show ¬ (7 : Int32) ≤ nI k from (nI_ge hk (by decide) : ¬ nI 7 ≤ nI k))]
      rw [cp1c (m0 := m0) e1 c1 (by omega) (by omega) (by omega)]
      rw [cp1c (m0 := m0) (by repeat rw [mA_ne (by decide)]
                              exact e2) (by repeat rw [mA_ne (by decide)]
                                            exact c2) (by omega) (by omega) (by omega)]
      rw [cp1c (m0 := m0) (by repeat rw [mA_ne (by decide)]
                              exact e3) (by repeat rw [mA_ne (by decide)]
                                            exact c3) (by omega) (by omega) (by omega)]
      rw [cp1c (m0 := m0) (by repeat rw [mA_ne (by decide)]
                              exact e4) (by repeat rw [mA_ne (by decide)]
                                            exact c4) (by omega) (by omega) (by omega)]
      rw [cp1c (m0 := m0) (by repeat rw [mA_ne (by decide)]
                              exact e5) (by repeat rw [mA_ne (by decide)]
                                            exact c5) (by omega) (by omega) (by omega)]
      rw [cp3c (m0 := m0) (by repeat rw [mA_ne (by decide)]
                              exact e7) (by repeat rw [mA_ne (by decide)]
                                            exact c7) (by omega) (by omega) (by omega) (h01 k hk), nI_1]
  · obtain ⟨s, c1, c2, c3, c4, c5, c7⟩ := hI
    unfold fb_X7_image_47
    rw [if_pos (show (7 : Int32) ≤ nI 7 by decide)]
    exact he m s (c1.trans (cpS_all a1 k1)) (c2.trans (cpS_all a2 k2)) (c3.trans (cpS_all a3 k3)) (c4.trans (cpS_all a4 k4)) (c5.trans (cpS_all a5 k5)) (c7.trans (cpS_all a7 k7))
set_option maxHeartbeats 1000000 in
theorem und_loop1 {m0 : mM} {Q : fR Int32 → Prop} (h2 : MSh m0) (h : MKh m0) (he : ∀ m, sameBut [1, 2, 3, 4, 5, 7] m0 m → mA m 1 = mA m0 24 → mA m 2 = mA m0 25 → mA m 3 = mA m0 26 → mA m 4 = mA m0 27 → mA m 5 = mA m0 28 → mA m 7 = mA m0 31 → Q (f_X7_undo_138 1000 m 0)) : Q (f_X7_undo_52 1000 m0 0) := by
  obtain ⟨⟨a1, a2, a3, a4, a7, a6, h01⟩, a5, a23⟩ := h
  obtain ⟨⟨k1, k2, k3, k4, k7, k6, -⟩, k5, k23⟩ := h2
  refine lp_inv (fun _ _ _ => rfl) (n := 7) (I := fun k m => sameBut [1, 2, 3, 4, 5, 7] m0 m ∧ cpd m0 m 24 1 k ∧ cpd m0 m 25 2 k ∧ cpd m0 m 26 3 k ∧ cpd m0 m 27 4 k ∧ cpd m0 m 28 5 k ∧ cpd m0 m 31 7 k) (fun k m hk hI => ?_) (fun m hI K => ?_) 7 0 1000 m0 (by omega) (by omega) ⟨⟨rfl, rfl, fun _ _ => rfl⟩, rfl, rfl, rfl, rfl, rfl, rfl⟩
  · obtain ⟨⟨s1, s2, s3⟩, c1, c2, c3, c4, c5, c7⟩ := hI
    have e1 := s3 24 (by decide); have e2 := s3 25 (by decide); have e3 := s3 26 (by decide); have e4 := s3 27 (by decide); have e5 := s3 28 (by decide); have e7 := s3 31 (by decide)
    refine ⟨wA (wA (wA (wA (wA (wA m 1 (cpS 0 (mA m0 24) 0 0 (mA m0 1) (k + 1))) 2 (cpS 0 (mA m0 25) 0 0 (mA m0 2) (k + 1))) 3 (cpS 0 (mA m0 26) 0 0 (mA m0 3) (k + 1))) 4 (cpS 0 (mA m0 27) 0 0 (mA m0 4) (k + 1))) 5 (cpS 0 (mA m0 28) 0 0 (mA m0 5) (k + 1))) 7 (cpS 0 (mA m0 31) 0 0 (mA m0 7) (k + 1)), ⟨⟨s1, s2, fun c hc => ?_⟩, rfl, rfl, rfl, rfl, rfl, rfl⟩, fun K => ?_⟩
    · simp only [List.mem_cons, List.not_mem_nil, or_false, not_or] at hc
      rw [mA_ne (by omega), mA_ne (by omega), mA_ne (by omega), mA_ne (by omega), mA_ne (by omega), mA_ne (by omega)]
      exact s3 c (by simp; omega)
    · unfold fb_X7_undo_52
      rw [if_neg (show ¬ (7 : Int32) ≤ nI k from (nI_ge hk (by decide) : ¬ nI 7 ≤ nI k))]
      rw [cp1c (m0 := m0) e1 c1 (by omega) (by omega) (by omega)]
      rw [cp1c (m0 := m0) (by repeat rw [mA_ne (by decide)]
                              exact e2) (by repeat rw [mA_ne (by decide)]
                                            exact c2) (by omega) (by omega) (by omega)]
      rw [cp1c (m0 := m0) (by repeat rw [mA_ne (by decide)]
                              exact e3) (by repeat rw [mA_ne (by decide)]
                                            exact c3) (by omega) (by omega) (by omega)]
      rw [cp1c (m0 := m0) (by repeat rw [mA_ne (by decide)]
                              exact e4) (by repeat rw [mA_ne (by decide)]
                                            exact c4) (by omega) (by omega) (by omega)]
      rw [cp1c (m0 := m0) (by repeat rw [mA_ne (by decide)]
                              exact e5) (by repeat rw [mA_ne (by decide)]
                                            exact c5) (by omega) (by omega) (by omega)]
      rw [cp3c (m0 := m0) (by repeat rw [mA_ne (by decide)]
                              exact e7) (by repeat rw [mA_ne (by decide)]
                                            exact c7) (by omega) (by omega) (by omega) (h01 k hk), nI_1]
  · obtain ⟨s, c1, c2, c3, c4, c5, c7⟩ := hI
    unfold fb_X7_undo_52
    rw [if_pos (show (7 : Int32) ≤ nI 7 by decide)]
    exact he m s (c1.trans (cpS_all a1 k1)) (c2.trans (cpS_all a2 k2)) (c3.trans (cpS_all a3 k3)) (c4.trans (cpS_all a4 k4)) (c5.trans (cpS_all a5 k5)) (c7.trans (cpS_all a7 k7))
/-- one row copied -/
theorem cp_row {R : Type} {fb : (mM → Int32 → fR R) → mM → Int32 → fR R} {f : Nat → mM → Int32 → fR R} (hf : ∀ F m y, f (F + 1) m y = fb (f F) m y) {m0 : mM} {a b n : Nat} {E : fR R} (hab : a ≠ b) (ha : (mA m0 a).length = n) (hb : (mA m0 b).length = n) (hn : n < 1000) (hs : ∀ k m, k < n → k < (mA m a).length → k < (mA m b).length → ∀ K, fb K m (nI k) = K (wA m b ((mA m b).set k ((mA m a).getD k 0))) (nI k + 1)) (he : ∀ K, fb K (wA m0 b (mA m0 a)) (nI n) = E) : f 1000 m0 0 = E := by
  have key := lp_up hf (n := n) (G := fun k => wA m0 b (cpS 0 (mA m0 a) 0 0 (mA m0 b) k)) (E := E) (fun k hk K => ?_) (fun K => ?_) n 0 1000 (by omega) (by omega)
  · have e0 : wA m0 b (cpS 0 (mA m0 a) 0 0 (mA m0 b) 0) = m0 := wA_self
    simp only [e0] at key
    exact key
  · rw [hs k _ hk (by rw [mA_ne hab, ha]; exact hk) (by rw [mA_eq, cpS_len, hb]; exact hk), wA_wA, mA_eq, mA_ne hab, nI_1, cpS_s]
  · rw [cpS_all ha hb]; exact he K
def imgI (m0 : mM) : mM := wI (wI (wI (wI (wI (wI m0 40 1) 41 (mI m0 11)) 42 (mI m0 0)) 43 (mI m0 1)) 44 (mI m0 2)) 45 (mI m0 38)
theorem img_eq {m0 : mM} (h : MSh m0) (h2 : MKh m0) : ∃ m', f_X7_image m0 = some (mI m0 0, m') ∧ m'.1 = (imgI m0).1 ∧ m'.2.2 = m0.2.2 ∧ (∀ c, c ∉ [24, 25, 26, 27, 28, 31, 29, 30] → mA m' c = mA m0 c) ∧ mA m' 24 = mA m0 1 ∧ mA m' 25 = mA m0 2 ∧ mA m' 26 = mA m0 3 ∧ mA m' 27 = mA m0 4 ∧ mA m' 28 = mA m0 5 ∧ mA m' 31 = mA m0 7 ∧ mA m' 29 = mA m0 6 ∧ mA m' 30 = mA m0 23 := by
  have e : f_X7_image m0 = f_X7_image_47 1000 (imgI m0) 0 := rfl
  rw [e]
  refine img_loop1 (m0 := imgI m0) (Q := fun e => ∃ m', e = some (mI m0 0, m') ∧ m'.1 = (imgI m0).1 ∧ m'.2.2 = m0.2.2 ∧ (∀ c, c ∉ [24, 25, 26, 27, 28, 31, 29, 30] → mA m' c = mA m0 c) ∧ mA m' 24 = mA m0 1 ∧ mA m' 25 = mA m0 2 ∧ mA m' 26 = mA m0 3 ∧ mA m' 27 = mA m0 4 ∧ mA m' 28 = mA m0 5 ∧ mA m' 31 = mA m0 7 ∧ mA m' 29 = mA m0 6 ∧ mA m' 30 = mA m0 23) h h2 (fun m s c1 c2 c3 c4 c5 c7 => ?_)
  obtain ⟨s1, s2, s3⟩ := s
  have e6 := s3 6 (by decide); have e29 := s3 29 (by decide); have e23 := s3 23 (by decide); have e30 := s3 30 (by decide)
  have q1 : f_X7_image_133 1000 m 0 = f_X7_image_159 1000 (wA m 29 (mA m 6)) 0 := cp_row (fun _ _ _ => rfl) (a := 6) (b := 29) (n := 28) (by decide) (by rw [e6]; exact h.1.2.2.2.2.2.1) (by rw [e29]; exact h2.1.2.2.2.2.2.1) (by decide) (fun k m hk l1 l2 K => by
    unfold fb_X7_image_133
    rw [if_neg (show ¬ (28 : Int32) ≤ nI k from (nI_ge hk (by decide) : ¬ nI 28 ≤ nI k)), cp1 l1 l2 (by omega)]) (fun K => by
    unfold fb_X7_image_133
    rw [if_pos (show (28 : Int32) ≤ nI 28 by decide)])
  have q2 : f_X7_image_159 1000 (wA m 29 (mA m 6)) 0 = some (mI m 0, wA (wA m 29 (mA m 6)) 30 (mA m 23)) := cp_row (fun _ _ _ => rfl) (a := 23) (b := 30) (n := 12) (by decide) (by rw [mA_ne (by decide), e23]; exact h.2.2) (by rw [mA_ne (by decide), e30]; exact h2.2.2) (by decide) (fun k m hk l1 l2 K => by
    unfold fb_X7_image_159
    rw [if_neg (show ¬ (12 : Int32) ≤ nI k from (nI_ge hk (by decide) : ¬ nI 12 ≤ nI k)), cp1 l1 l2 (by omega)]) (fun K => by
    unfold fb_X7_image_159
    rw [if_pos (show (12 : Int32) ≤ nI 12 by decide)]; rfl)
  rw [q1, q2]
  have hi : mI m 0 = mI m0 0 := by show m.1 0 = _; rw [s1]; rfl
  rw [hi]
  refine ⟨_, rfl, s1, s2, fun c hc => ?_, c1, c2, c3, c4, c5, c7, e6, e23⟩
  simp only [List.mem_cons, List.not_mem_nil, or_false, not_or] at hc
  rw [mA_ne (by omega), mA_ne (by omega)]
  exact s3 c (by simp; omega)
def undI (m0 : mM) : mM := wI (wI (wI (wI (wI m0 11 (mI m0 41)) 0 (mI m0 42)) 1 (mI m0 43)) 2 (mI m0 44)) 38 (mI m0 45)
theorem und_eq {m0 : mM} (h : MSh m0) (h2 : MKh m0) (hz : ¬ mI m0 40 = 0) : ∃ m', f_X7_undo m0 = some (mI m0 42, m') ∧ m'.1 = (undI m0).1 ∧ m'.2.2 = m0.2.2 ∧ (∀ c, c ∉ [1, 2, 3, 4, 5, 7, 6, 23] → mA m' c = mA m0 c) ∧ mA m' 1 = mA m0 24 ∧ mA m' 2 = mA m0 25 ∧ mA m' 3 = mA m0 26 ∧ mA m' 4 = mA m0 27 ∧ mA m' 5 = mA m0 28 ∧ mA m' 7 = mA m0 31 ∧ mA m' 6 = mA m0 29 ∧ mA m' 23 = mA m0 30 := by
  have e : f_X7_undo m0 = f_X7_undo_52 1000 (undI m0) 0 := if_neg hz
  rw [e]
  refine und_loop1 (m0 := undI m0) (Q := fun e => ∃ m', e = some (mI m0 42, m') ∧ m'.1 = (undI m0).1 ∧ m'.2.2 = m0.2.2 ∧ (∀ c, c ∉ [1, 2, 3, 4, 5, 7, 6, 23] → mA m' c = mA m0 c) ∧ mA m' 1 = mA m0 24 ∧ mA m' 2 = mA m0 25 ∧ mA m' 3 = mA m0 26 ∧ mA m' 4 = mA m0 27 ∧ mA m' 5 = mA m0 28 ∧ mA m' 7 = mA m0 31 ∧ mA m' 6 = mA m0 29 ∧ mA m' 23 = mA m0 30) h h2 (fun m s c1 c2 c3 c4 c5 c7 => ?_)
  obtain ⟨s1, s2, s3⟩ := s
  have e6 := s3 6 (by decide); have e29 := s3 29 (by decide); have e23 := s3 23 (by decide); have e30 := s3 30 (by decide)
  have q1 : f_X7_undo_138 1000 m 0 = f_X7_undo_164 1000 (wA m 6 (mA m 29)) 0 := cp_row (fun _ _ _ => rfl) (a := 29) (b := 6) (n := 28) (by decide) (by rw [e29]; exact h2.1.2.2.2.2.2.1) (by rw [e6]; exact h.1.2.2.2.2.2.1) (by decide) (fun k m hk l1 l2 K => by
    unfold fb_X7_undo_138
    rw [if_neg (show ¬ (28 : Int32) ≤ nI k from (nI_ge hk (by decide) : ¬ nI 28 ≤ nI k)), cp1 l1 l2 (by omega)]) (fun K => by
    unfold fb_X7_undo_138
    rw [if_pos (show (28 : Int32) ≤ nI 28 by decide)])
  have q2 : f_X7_undo_164 1000 (wA m 6 (mA m 29)) 0 = some (mI m 0, wA (wA m 6 (mA m 29)) 23 (mA m 30)) := cp_row (fun _ _ _ => rfl) (a := 30) (b := 23) (n := 12) (by decide) (by rw [mA_ne (by decide), e30]; exact h2.2.2) (by rw [mA_ne (by decide), e23]; exact h.2.2) (by decide) (fun k m hk l1 l2 K => by
    unfold fb_X7_undo_164
    rw [if_neg (show ¬ (12 : Int32) ≤ nI k from (nI_ge hk (by decide) : ¬ nI 12 ≤ nI k)), cp1 l1 l2 (by omega)]) (fun K => by
    unfold fb_X7_undo_164
    rw [if_pos (show (12 : Int32) ≤ nI 12 by decide)]; rfl)
  rw [q1, q2]
  have hi : mI m 0 = mI m0 42 := by show m.1 0 = _; rw [s1]; rfl
  rw [hi]
  refine ⟨_, rfl, s1, s2, fun c hc => ?_, c1, c2, c3, c4, c5, c7, e29, e30⟩
  simp only [List.mem_cons, List.not_mem_nil, or_false, not_or] at hc
  rw [mA_ne (by omega), mA_ne (by omega)]
  exact s3 c (by simp; omega)
end IMAGE
