/-! COPIES: the image, what is undone, shifts of tapes -/
section COPIES
variable {mx mm : mM}
/-- k items from s on, laid from d on -/
def cpS {α : Type} (z : α) (src : List α) (s d : Nat) (ys : List α) : Nat → List α
  | 0 => ys
  | k + 1 => (cpS z src s d ys k).set (d + k) (src.getD (s + k) z)
theorem cpS_len {α : Type} {z : α} {src ys : List α} {s d : Nat} : ∀ k, (cpS z src s d ys k).length = ys.length
  | 0 => rfl
  | k + 1 => by rw [cpS, List.length_set, cpS_len k]
theorem cpS_get {α : Type} {z : α} {src ys : List α} {s d j : Nat} (hl : j < ys.length) : ∀ k, (cpS z src s d ys k).getD j z = if d ≤ j ∧ j < d + k then src.getD (s + (j - d)) z else ys.getD j z
  | 0 => by rw [if_neg (by omega)]; rfl
  | k + 1 => by
    rw [cpS, gd_set, cpS_len, cpS_get hl k]
    by_cases e : d + k = j
    · rw [if_pos ⟨e, by omega⟩, if_pos (by omega), show s + (j - d) = s + k by omega]
    · rw [if_neg (fun w => e w.1)]
      by_cases c : d ≤ j ∧ j < d + k
      · rw [if_pos c, if_pos (by omega)]
      · rw [if_neg c, if_neg (by omega)]
theorem gd_ext {α : Type} {z : α} {xs ys : List α} (hl : xs.length = ys.length) (h : ∀ i, i < xs.length → xs.getD i z = ys.getD i z) : xs = ys := by
  apply List.ext_getElem hl
  intro i h1 h2
  have := h i h1
  rw [List.getD_eq_getElem?_getD, List.getD_eq_getElem?_getD, List.getElem?_eq_getElem h1, List.getElem?_eq_getElem h2] at this
  exact this
theorem cpS_all {α : Type} {z : α} {src ys : List α} {n : Nat} (h1 : src.length = n) (h2 : ys.length = n) : cpS z src 0 0 ys n = src := by
  refine gd_ext (z := z) (by rw [cpS_len, h1, h2]) (fun i hi => ?_)
  rw [cpS_len, h2] at hi
  rw [cpS_get (by omega), if_pos (by omega), Nat.zero_add, Nat.sub_zero]
theorem jcpy_all {xs ys : List Int32} {n : Nat} (h1 : xs.length = n) (h2 : ys.length = n) : jcpy xs ys 0 0 n = xs := by
  refine gd_ext (z := 0) (by simp [jcpy, h1, h2]) (fun i hi => ?_)
  have hi : i < n := by simpa [jcpy, h2] using hi
  unfold jcpy
  rw [List.getD_eq_getElem?_getD, List.getElem?_map, List.getElem?_range (by omega)]
  show (if 0 ≤ i ∧ i < 0 + n then xs.getD (0 + (i - 0)) 0 else ys.getD i 0) = _
  rw [if_pos (by omega), Nat.zero_add, Nat.sub_zero]
theorem cpA_all {m : mM} {a b n : Nat} (ha : (mA m a).length = n) (hb : (mA m b).length = n) (hn : n < 2 ^ 31) : cpA m a 0 b 0 (nI n) = some (wA m b (mA m a)) := by
  unfold cpA
  have e0 : (0 : Int32).toNatClampNeg = 0 := rfl
  rw [nI_clamp hn, e0, if_pos ⟨by decide, by decide, nI_pos hn, by omega, by omega⟩, jcpy_all ha hb]
theorem copy_lp {m : mM} {a b : Nat} (ha : (mA m (b + 6)).length = 7) (hb : (mA m (a + 6)).length = 7) (hne : a ≠ b) (h01 : ∀ p, p < 7 → (mA m (b + 6)).getD p 0 = 0 ∨ (mA m (b + 6)).getD p 0 = 1) : f_X2_copy_147 1000 m a b 0 = some ((), wA m (a + 6) (mA m (b + 6))) := by
  have key := lp_up (f := fun F m y => f_X2_copy_147 F m a b y) (fb := fun K m y => fb_X2_copy_147 (fun m _ _ y => K m y) m a b y) (fun _ _ _ => rfl) (n := 7) (G := fun k => wA m (a + 6) (cpS 0 (mA m (b + 6)) 0 0 (mA m (a + 6)) k)) (E := some ((), wA m (a + 6) (mA m (b + 6)))) (fun k hk K => ?_) (fun K => ?_) 7 0 1000 (by omega) (by omega)
  · have e0 : wA m (a + 6) (cpS 0 (mA m (b + 6)) 0 0 (mA m (a + 6)) 0) = m := wA_self
    simp only [e0] at key
    exact key
  · show fb_X2_copy_147 _ _ _ _ _ = _
    unfold fb_X2_copy_147
    rw [if_neg (show ¬ (7 : Int32) ≤ nI k from (nI_ge hk (by decide) : ¬ nI 7 ≤ nI k)), mA_wA, if_neg (by omega), gA_at (by rw [ha]; exact hk) (by omega), Option.bind_some, sA_at3 (by rw [mA_wA, if_pos rfl, cpS_len, hb]; exact hk) (by omega) (h01 k hk), Option.bind_some, wA_wA, mA_wA, if_pos rfl, nI_1, cpS, Nat.zero_add]
  · show fb_X2_copy_147 _ _ _ _ _ = _
    unfold fb_X2_copy_147
    rw [if_pos (show (7 : Int32) ≤ nI 7 by decide), cpS_all ha hb]
/-- what a copy of a state is -/
def cpM (m : mM) (a b : Nat) : mM := wA (wA (wA (wA (wA (wA (wA (wA (wR (wI (wI (wI (wI m (64 * a + 0) (mI m (64 * b + 0))) (64 * a + 1) (mI m (64 * b + 1))) (64 * a + 2) (mI m (64 * b + 2))) (64 * a + 3) (mI m (64 * b + 3))) (64 * a + 4) (mR m (64 * b + 4))) (a + 1) (mA m (b + 1))) (a + 2) (mA m (b + 2))) (a + 3) (mA m (b + 3))) (a + 4) (mA m (b + 4))) (a + 5) (mA m (b + 5))) (a + 7) (mA m (b + 7))) (a + 8) (mA m (b + 8))) (a + 6) (mA m (b + 6))
theorem copy_eq {m : mM} {a b : Nat} (hab : a + 9 ≤ b ∨ b + 9 ≤ a) (hA : XSh m a) (hB : XSh m b) (hT : isC true 5 (mR m (64 * b + 4)) = true) : f_X2_copy m a b = some ((), cpM m a b) := by
  obtain ⟨⟨a1, a2, a3, a4, a6, a7, -⟩, a5, a8⟩ := hA
  obtain ⟨⟨b1, b2, b3, b4, b6, b7, h01⟩, b5, b8⟩ := hB
  unfold f_X2_copy
  rw [nmM_eq, nmM_eq, nmM_eq, nmM_eq]
  rw [mI_wI, if_neg (by omega), mI_wI, if_neg (by omega), mI_wI, if_neg (by omega), mI_wI, if_neg (by omega), mI_wI, if_neg (by omega), mI_wI, if_neg (by omega), mR_wI, mR_wI, mR_wI, mR_wI, chR_t hT, nmM_eq]
  obtain ⟨m6, h6, eA⟩ : ∃ m6, m6 = wR (wI (wI (wI (wI m (64 * a + 0) (mI m (64 * b + 0))) (64 * a + 1) (mI m (64 * b + 1))) (64 * a + 2) (mI m (64 * b + 2))) (64 * a + 3) (mI m (64 * b + 3))) (64 * a + 4) (mR m (64 * b + 4)) ∧ ∀ c, mA m6 c = mA m c := ⟨_, rfl, fun _ => rfl⟩
  rw [← h6]
  rw [← eA] at a1 a2 a3 a4 a5 a6 a7 a8 b1 b2 b3 b4 b5 b6 b7 b8 h01
  rw [show (7 : Int32) = nI 7 from rfl, show (28 : Int32) = nI 28 from rfl, show (12 : Int32) = nI 12 from rfl]
  rw [cpA_all (n := 7) b1 a1 (by decide), Option.bind_some]
  rw [cpA_all (n := 7) (by rw [mA_wA, if_neg (by omega)]; exact b2) (by rw [mA_wA, if_neg (by omega)]; exact a2) (by decide), Option.bind_some, mA_wA, if_neg (by omega)]
  rw [cpA_all (n := 7) (by rw [mA_wA, if_neg (by omega), mA_wA, if_neg (by omega)]; exact b3) (by rw [mA_wA, if_neg (by omega), mA_wA, if_neg (by omega)]; exact a3) (by decide), Option.bind_some, mA_wA, if_neg (by omega), mA_wA, if_neg (by omega)]
  rw [cpA_all (n := 7) (by rw [mA_wA, if_neg (by omega), mA_wA, if_neg (by omega), mA_wA, if_neg (by omega)]; exact b4) (by rw [mA_wA, if_neg (by omega), mA_wA, if_neg (by omega), mA_wA, if_neg (by omega)]; exact a4) (by decide), Option.bind_some, mA_wA, if_neg (by omega), mA_wA, if_neg (by omega), mA_wA, if_neg (by omega)]
  rw [cpA_all (n := 7) (by rw [mA_wA, if_neg (by omega), mA_wA, if_neg (by omega), mA_wA, if_neg (by omega), mA_wA, if_neg (by omega)]; exact b5) (by rw [mA_wA, if_neg (by omega), mA_wA, if_neg (by omega), mA_wA, if_neg (by omega), mA_wA, if_neg (by omega)]; exact a5) (by decide), Option.bind_some, mA_wA, if_neg (by omega), mA_wA, if_neg (by omega), mA_wA, if_neg (by omega), mA_wA, if_neg (by omega)]
  rw [cpA_all (n := 28) (by rw [mA_wA, if_neg (by omega), mA_wA, if_neg (by omega), mA_wA, if_neg (by omega), mA_wA, if_neg (by omega), mA_wA, if_neg (by omega)]; exact b7) (by rw [mA_wA, if_neg (by omega), mA_wA, if_neg (by omega), mA_wA, if_neg (by omega), mA_wA, if_neg (by omega), mA_wA, if_neg (by omega)]; exact a7) (by decide), Option.bind_some, mA_wA, if_neg (by omega), mA_wA, if_neg (by omega), mA_wA, if_neg (by omega), mA_wA, if_neg (by omega), mA_wA, if_neg (by omega)]
  rw [cpA_all (n := 12) (by rw [mA_wA, if_neg (by omega), mA_wA, if_neg (by omega), mA_wA, if_neg (by omega), mA_wA, if_neg (by omega), mA_wA, if_neg (by omega), mA_wA, if_neg (by omega)]; exact b8) (by rw [mA_wA, if_neg (by omega), mA_wA, if_neg (by omega), mA_wA, if_neg (by omega), mA_wA, if_neg (by omega), mA_wA, if_neg (by omega), mA_wA, if_neg (by omega)]; exact a8) (by decide), Option.bind_some, mA_wA, if_neg (by omega), mA_wA, if_neg (by omega), mA_wA, if_neg (by omega), mA_wA, if_neg (by omega), mA_wA, if_neg (by omega), mA_wA, if_neg (by omega)]
  have e6 : ∀ c, c = a + 6 ∨ c = b + 6 → ∀ l1 l2 l3 l4 l5 l7 l8 (m' : mM), mA (wA (wA (wA (wA (wA (wA (wA m' (a + 1) l1) (a + 2) l2) (a + 3) l3) (a + 4) l4) (a + 5) l5) (a + 7) l7) (a + 8) l8) c = mA m' c := by
    intro c hc l1 l2 l3 l4 l5 l7 l8 m'
    rw [mA_wA, if_neg (by omega), mA_wA, if_neg (by omega), mA_wA, if_neg (by omega), mA_wA, if_neg (by omega), mA_wA, if_neg (by omega), mA_wA, if_neg (by omega), mA_wA, if_neg (by omega)]
  rw [copy_lp (by rw [e6 _ (Or.inr rfl)]; exact b6) (by rw [e6 _ (Or.inl rfl)]; exact a6) (by omega) (by rw [e6 _ (Or.inr rfl)]; exact h01), e6 _ (Or.inr rfl)]
  subst h6
  rfl
end COPIES
