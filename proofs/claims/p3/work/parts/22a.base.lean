/-! LAYER TWO: Lean functions alone. Memory, ranges, lists. -/
theorem mI_wI {m : mM} {n k : Nat} {v : Int32} : mI (wI m n v) k = if k = n then v else mI m k := rfl
theorem mI_wA {m : mM} {n k : Nat} {v : List Int32} : mI (wA m n v) k = mI m k := rfl
theorem mI_wL {m : mM} {n k : Nat} {v : List Int64} : mI (wL m n v) k = mI m k := rfl
theorem mI_wR {m : mM} {n k : Nat} {v : Nat} : mI (wR m n v) k = mI m k := rfl
theorem mA_wI {m : mM} {n k : Nat} {v : Int32} : mA (wI m n v) k = mA m k := rfl
theorem mA_wA {m : mM} {n k : Nat} {v : List Int32} : mA (wA m n v) k = if k = n then v else mA m k := rfl
theorem mA_wL {m : mM} {n k : Nat} {v : List Int64} : mA (wL m n v) k = mA m k := rfl
theorem mA_wR {m : mM} {n k : Nat} {v : Nat} : mA (wR m n v) k = mA m k := rfl
theorem mL_wI {m : mM} {n k : Nat} {v : Int32} : mL (wI m n v) k = mL m k := rfl
theorem mL_wA {m : mM} {n k : Nat} {v : List Int32} : mL (wA m n v) k = mL m k := rfl
theorem mL_wL {m : mM} {n k : Nat} {v : List Int64} : mL (wL m n v) k = if k = n then v else mL m k := rfl
theorem mL_wR {m : mM} {n k : Nat} {v : Nat} : mL (wR m n v) k = mL m k := rfl
theorem mR_wI {m : mM} {n k : Nat} {v : Int32} : mR (wI m n v) k = mR m k := rfl
theorem mR_wA {m : mM} {n k : Nat} {v : List Int32} : mR (wA m n v) k = mR m k := rfl
theorem mR_wL {m : mM} {n k : Nat} {v : List Int64} : mR (wL m n v) k = mR m k := rfl
theorem mR_wR {m : mM} {n k : Nat} {v : Nat} : mR (wR m n v) k = if k = n then v else mR m k := rfl
theorem bnd_some {R R' : Type} {r : R'} {m : mM} {k : R' → mM → fR R} : bnd (some (r, m)) k = k r m := rfl
theorem nmI_eq {α : Type} {x : Int32} {k : Int32 → α} : nmI x k = k x := rfl
theorem nmM_eq {α : Type} {x : mM} {k : mM → α} : nmM x k = k x := rfl
theorem chR_t {α : Type} {w : Bool} {ci a : Nat} {k : Nat → Option α} (h : isC w ci a = true) : chR w ci a k = k a := if_pos h
theorem chZ_t {α : Type} {x : Int32} {e : Option α} (h : x = 0 ∨ x = 1) : chZ x e = e := if_pos h
/-- a truth as an int -/
def zB (b : Bool) : Int32 := cond b 1 0
theorem zB_z (b : Bool) : zB b = 0 ∨ zB b = 1 := by cases b; exact Or.inl rfl; exact Or.inr rfl
theorem zB_t : zB true = 1 := rfl
theorem zB_f : zB false = 0 := rfl
theorem zB_e {b : Bool} : (zB b = 0) ↔ b = false := by cases b <;> simp [zB]
theorem chZ_zB {α : Type} {b : Bool} {e : Option α} : chZ (zB b) e = e := chZ_t (zB_z b)
/-- from 0, below n -/
def inR (n : Nat) (x : Int32) : Bool := decide (¬ x < 0) && decide (x < nI n)
theorem inR_t {n : Nat} {x : Int32} (hn : n < 2 ^ 31) (h : inR n x = true) : ∃ j, j < n ∧ x = nI j := by
  unfold inR at h
  simp only [Bool.and_eq_true, decide_eq_true_eq] at h
  obtain ⟨j, hj, rfl⟩ := nI_of h.1
  exact ⟨j, (nI_ltI hj hn).mp h.2, rfl⟩
theorem inR_nI {n j : Nat} (h : j < n) (hn : n < 2 ^ 31) : inR n (nI j) = true := by
  unfold inR
  rw [decide_eq_true (nI_pos (by omega)), decide_eq_true (nI_lt h hn)]; rfl
theorem inR_low {n : Nat} {x : Int32} (h : x < 0) : inR n x = false := by
  unfold inR
  rw [decide_eq_false (fun z => z h)]; rfl
theorem inR_high {n : Nat} {x : Int32} (h : nI n ≤ x) : inR n x = false := by
  unfold inR
  rw [decide_eq_false (p := x < nI n) (fun z => by rw [Int32.lt_iff_toInt_lt] at z; rw [Int32.le_iff_toInt_le] at h; omega)]
  exact Bool.and_false _
theorem inR_mid {n : Nat} {x : Int32} (h0 : ¬ x < 0) (h : ¬ nI n ≤ x) : inR n x = true := by
  unfold inR
  rw [decide_eq_true h0, decide_eq_true (by rw [Int32.lt_iff_toInt_lt]; rw [Int32.le_iff_toInt_le] at h; omega)]; rfl
theorem inR_f {n : Nat} {x : Int32} (h : inR n x = false) : x < 0 ∨ nI n ≤ x := by
  by_cases h0 : x < 0
  · exact Or.inl h0
  · right
    rcases Decidable.em (nI n ≤ x) with h1 | h1
    · exact h1
    · rw [inR_mid h0 h1] at h; cases h
/-! rows -/
theorem gA_at {xs : List Int32} {i : Nat} (h : i < xs.length) (hb : i < 2 ^ 31) : gA xs (nI i) = some (xs.getD i 0) := by
  unfold gA
  rw [if_pos (nI_pos hb), nI_clamp hb, List.getD_eq_getElem?_getD, List.getElem?_eq_getElem h]; rfl
theorem gL_at {xs : List Int64} {i : Nat} (h : i < xs.length) (hb : i < 2 ^ 31) : gL xs (nI i) = some (xs.getD i 0) := by
  unfold gL
  rw [if_pos (nI_pos hb), nI_clamp hb, List.getD_eq_getElem?_getD, List.getElem?_eq_getElem h]; rfl
theorem gT_at {xs : List Nat} {i : Nat} (h : i < xs.length) (hb : i < 2 ^ 31) : gT xs (nI i) = some (xs.getD i 0) := by
  unfold gT
  rw [if_pos (nI_pos hb), nI_clamp hb, List.getD_eq_getElem?_getD, List.getElem?_eq_getElem h]; rfl
theorem sA_at {t : Nat} {m : mM} {c i : Nat} {x : Int32} (h : i < (mA m c).length) (hb : i < 2 ^ 31) : sA t m c (nI i) x = some (wA m c ((mA m c).set i (nrw t x))) := by
  unfold sA
  rw [nI_clamp hb, if_pos ⟨nI_pos hb, h⟩]
theorem sA_at0 {m : mM} {c i : Nat} {x : Int32} (h : i < (mA m c).length) (hb : i < 2 ^ 31) : sA 0 m c (nI i) x = some (wA m c ((mA m c).set i x)) := sA_at h hb
theorem sA_at3 {m : mM} {c i : Nat} {x : Int32} (h : i < (mA m c).length) (hb : i < 2 ^ 31) (hx : x = 0 ∨ x = 1) : sA 3 m c (nI i) x = some (wA m c ((mA m c).set i x)) := by
  rw [sA_at h hb]
  rcases hx with rfl | rfl <;> rfl
theorem sL_at {m : mM} {c i : Nat} {x : Int64} (h : i < (mL m c).length) (hb : i < 2 ^ 31) : sL m c (nI i) x = some (wL m c ((mL m c).set i x)) := by
  unfold sL
  rw [nI_clamp hb, if_pos ⟨nI_pos hb, h⟩]
theorem gd_set {α : Type} {xs : List α} {i j : Nat} {x d : α} : (xs.set i x).getD j d = if i = j ∧ i < xs.length then x else xs.getD j d := by
  rw [List.getD_eq_getElem?_getD, List.getElem?_set]
  by_cases h : i = j
  · subst h
    by_cases hl : i < xs.length
    · rw [if_pos rfl, if_pos hl, if_pos ⟨rfl, hl⟩]; rfl
    · rw [if_pos rfl, if_neg hl, if_neg (fun z => hl z.2), List.getD_eq_getElem?_getD, List.getElem?_eq_none (by omega)]
  · rw [if_neg h, if_neg (fun z => h z.1), List.getD_eq_getElem?_getD]
theorem gd_same {α : Type} {xs : List α} {i : Nat} {x d : α} (h : i < xs.length) : (xs.set i x).getD i d = x := by rw [gd_set, if_pos ⟨rfl, h⟩]
theorem gd_ne {α : Type} {xs : List α} {i j : Nat} {x d : α} (h : i ≠ j) : (xs.set i x).getD j d = xs.getD j d := by rw [gd_set, if_neg (fun z => h z.1)]
/-! loops that count up -/
theorem lp_up {R : Type} {fb : (mM → Int32 → fR R) → mM → Int32 → fR R} {f : Nat → mM → Int32 → fR R} (hf : ∀ F m y, f (F + 1) m y = fb (f F) m y) {n : Nat} {G : Nat → mM} {E : fR R} (hs : ∀ k, k < n → ∀ K, fb K (G k) (nI k) = K (G (k + 1)) (nI (k + 1))) (he : ∀ K, fb K (G n) (nI n) = E) : ∀ (j k F : Nat), k + j = n → j < F → f F (G k) (nI k) = E := by
  intro j
  induction j with
  | zero =>
    intro k F hk hF
    obtain ⟨F', rfl⟩ : ∃ F', F = F' + 1 := ⟨F - 1, by omega⟩
    obtain rfl : k = n := by omega
    rw [hf]; exact he _
  | succ j ih =>
    intro k F hk hF
    obtain ⟨F', rfl⟩ : ∃ F', F = F' + 1 := ⟨F - 1, by omega⟩
    rw [hf, hs k (by omega)]
    exact ih (k + 1) F' (by omega) (by omega)
/-- with a number that goes along -/
theorem lp_upA {R : Type} {fb : (mM → Int32 → Int32 → fR R) → mM → Int32 → Int32 → fR R} {f : Nat → mM → Int32 → Int32 → fR R} (hf : ∀ F m a y, f (F + 1) m a y = fb (f F) m a y) {n : Nat} {G : Nat → mM} {A : Nat → Int32} {E : fR R} (hs : ∀ k, k < n → ∀ K, fb K (G k) (A k) (nI k) = K (G (k + 1)) (A (k + 1)) (nI (k + 1))) (he : ∀ K, fb K (G n) (A n) (nI n) = E) : ∀ (j k F : Nat), k + j = n → j < F → f F (G k) (A k) (nI k) = E := by
  intro j
  induction j with
  | zero =>
    intro k F hk hF
    obtain ⟨F', rfl⟩ : ∃ F', F = F' + 1 := ⟨F - 1, by omega⟩
    obtain rfl : k = n := by omega
    rw [hf]; exact he _
  | succ j ih =>
    intro k F hk hF
    obtain ⟨F', rfl⟩ : ∃ F', F = F' + 1 := ⟨F - 1, by omega⟩
    rw [hf, hs k (by omega)]
    exact ih (k + 1) F' (by omega) (by omega)
/-- the general loop: σ all that goes along; a measure -/
theorem lp_gen {σ R : Type} {f : Nat → σ → fR R} {fb : (σ → fR R) → σ → fR R} (hf : ∀ F s, f (F + 1) s = fb (f F) s) {I : Nat → σ → Prop} {E : σ → fR R} (hs : ∀ k s, I k s → (∀ K, fb K s = E s) ∨ ∃ j s', j < k ∧ I j s' ∧ E s' = E s ∧ ∀ K, fb K s = K s') : ∀ (k F : Nat) (s : σ), I k s → k < F → f F s = E s := by
  intro k
  induction k using Nat.strongRecOn with
  | ind k ih =>
    intro F s hI hF
    obtain ⟨F', rfl⟩ : ∃ F', F = F' + 1 := ⟨F - 1, by omega⟩
    rw [hf]
    rcases hs k s hI with h | ⟨j, s', hj, hI', hE, h⟩
    · exact h _
    · rw [h, ← hE]
      exact ih j hj F' s' hI' (by omega)
theorem op_isDay {m : mM} {p : Int32} : f_X6_isDay m p = some (zB (inR 12 p), m) := by
  unfold f_X6_isDay
  by_cases h0 : p < 0
  · rw [if_pos h0, inR_low h0]; rfl
  · rw [if_neg h0]
    by_cases h1 : (12 : Int32) ≤ p
    · rw [if_pos h1, inR_high (n := 12) h1]; rfl
    · rw [if_neg h1, inR_mid h0 (n := 12) h1]; rfl
theorem op_in {m : mM} {p q : Int32} {n : Nat} (hq : ∀ x : Int32, ¬ x < 0 → (q < x ↔ nI n ≤ x)) : f_X7_in m p 0 q = some (zB (inR n p), m) := by
  unfold f_X7_in
  by_cases h0 : p < 0
  · rw [if_pos h0, inR_low h0]; rfl
  · rw [if_neg h0]
    by_cases h1 : q < p
    · rw [if_pos h1, inR_high ((hq p h0).mp h1)]; rfl
    · rw [if_neg h1, inR_mid h0 (fun z => h1 ((hq p h0).mpr z))]; rfl
theorem in_lit {q : Int32} {n : Nat} (h : q.toInt + 1 = n) (hn : n < 2 ^ 31) : ∀ x : Int32, ¬ x < 0 → (q < x ↔ nI n ≤ x) := by
  intro x _
  rw [Int32.lt_iff_toInt_lt, Int32.le_iff_toInt_le, nI_toInt hn]; omega
theorem in_pred {n : Nat} (hn : n < 2 ^ 31) : ∀ x : Int32, ¬ x < 0 → (nI n - 1 < x ↔ nI n ≤ x) := by
  intro x hx
  have e0 : (0 : Int32).toInt = 0 := rfl
  rw [Int32.lt_iff_toInt_lt, e0] at hx
  rw [Int32.lt_iff_toInt_lt, Int32.le_iff_toInt_le, nI_toInt hn]
  rcases n with _ | n
  · have : (nI 0 - 1).toInt = -1 := by decide
    omega
  · rw [nI_pred, nI_toInt (by omega)]; omega
theorem op7_isDay {m : mM} {p : Int32} : f_X7_isDay m p = some (zB (inR 12 p), m) := by
  unfold f_X7_isDay
  rw [op_in (n := 12) (in_lit (by decide) (by decide)), bnd_some, chZ_zB]
theorem op_isPerson {m : mM} {p : Int32} {n : Nat} (h : mI m 896 = nI n) : f_X6_isPerson m p = some (zB (inR n p), m) := by
  unfold f_X6_isPerson
  rw [h]
  by_cases h0 : p < 0
  · rw [if_pos h0, inR_low h0]; rfl
  · rw [if_neg h0]
    by_cases h1 : nI n ≤ p
    · rw [if_pos h1, inR_high h1]; rfl
    · rw [if_neg h1, inR_mid h0 h1]; rfl
theorem op7_isPerson {m : mM} {p : Int32} {n : Nat} (h : mI m 0 = nI n) (hn : n < 2 ^ 31) : f_X7_isPerson m p = some (zB (inR n p), m) := by
  unfold f_X7_isPerson
  rw [h, op_in (in_pred hn), bnd_some, chZ_zB]
theorem op_isTape {m : mM} {p : Int32} : f_X6_isTape m p = some (zB (inR 6 p), m) := by
  unfold f_X6_isTape
  by_cases h0 : p < 0
  · rw [if_pos h0, inR_low h0]; rfl
  · rw [if_neg h0]
    by_cases h1 : (6 : Int32) ≤ p
    · rw [if_pos h1, inR_high (n := 6) h1]; rfl
    · rw [if_neg h1, inR_mid h0 (n := 6) h1]; rfl
theorem op7_isTape {m : mM} {p : Int32} : f_X7_isTape m p = some (zB (inR 6 p), m) := by
  unfold f_X7_isTape
  rw [op_in (n := 6) (in_lit (by decide) (by decide)), bnd_some, chZ_zB]
