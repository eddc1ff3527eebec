-- 22a.base.lean.txt
section
/-! LAYER TWO: Lean functions alone. Memory, ranges, lists. -/
theorem mI_wI {m : mM} {n k : Nat} {v : Int32} : mI (wI m n v) k = if k = n then v else mI m k := rfl
theorem mI_wA {m : mM} {n k : Nat} {v : List Int32} : mI (wA m n v) k = mI m k := rfl
theorem mI_wL {m : mM} {n k : Nat} {v : List Int64} : mI (wL m n v) k = mI m k := rfl
theorem mI_wR {m : mM} {n k : Nat} {v : Nat} : mI (wR m n v) k = mI m k := rfl
theorem mA_wI {m : mM} {n k : Nat} {v : Int32} : mA (wI m n v) k = mA m k := rfl
theorem mA_wA {m : mM} {n k : Nat} {v : List Int32} : mA (wA m n v) k = if k = n then v else mA m k := rfl
theorem mA_wL {m : mM} {n k : Nat} {v : List Int64} : mA (wL m n v) k = mA m k := rfl
theorem mA_wR {m : mM} {n k : Nat} {v : Nat} : mA (wR m n v) k = mA m k := rfl
theorem mL_wI {m : mM} {n k : Nat} {v : Int32} : mL (wI m n v) k = mL m k := rfl
theorem mL_wA {m : mM} {n k : Nat} {v : List Int32} : mL (wA m n v) k = mL m k := rfl
theorem mL_wL {m : mM} {n k : Nat} {v : List Int64} : mL (wL m n v) k = if k = n then v else mL m k := rfl
theorem mL_wR {m : mM} {n k : Nat} {v : Nat} : mL (wR m n v) k = mL m k := rfl
theorem mR_wI {m : mM} {n k : Nat} {v : Int32} : mR (wI m n v) k = mR m k := rfl
theorem mR_wA {m : mM} {n k : Nat} {v : List Int32} : mR (wA m n v) k = mR m k := rfl
theorem mR_wL {m : mM} {n k : Nat} {v : List Int64} : mR (wL m n v) k = mR m k := rfl
theorem mR_wR {m : mM} {n k : Nat} {v : Nat} : mR (wR m n v) k = if k = n then v else mR m k := rfl
theorem bnd_some {R R' : Type} {r : R'} {m : mM} {k : R' → mM → fR R} : bnd (some (r, m)) k = k r m := rfl
theorem nmI_eq {α : Type} {x : Int32} {k : Int32 → α} : nmI x k = k x := rfl
theorem nmM_eq {α : Type} {x : mM} {k : mM → α} : nmM x k = k x := rfl
theorem chR_t {α : Type} {w : Bool} {ci a : Nat} {k : Nat → Option α} (h : isC w ci a = true) : chR w ci a k = k a := if_pos h
theorem chZ_t {α : Type} {x : Int32} {e : Option α} (h : x = 0 ∨ x = 1) : chZ x e = e := if_pos h
/-- a truth as an int -/
def zB (b : Bool) : Int32 := cond b 1 0
theorem zB_z (b : Bool) : zB b = 0 ∨ zB b = 1 := by cases b; exact Or.inl rfl; exact Or.inr rfl
theorem zB_t : zB true = 1 := rfl
theorem zB_f : zB false = 0 := rfl
theorem zB_e {b : Bool} : (zB b = 0) ↔ b = false := by cases b <;> simp [zB]
theorem chZ_zB {α : Type} {b : Bool} {e : Option α} : chZ (zB b) e = e := chZ_t (zB_z b)
/-- from 0, below n -/
def inR (n : Nat) (x : Int32) : Bool := decide (¬ x < 0) && decide (x < nI n)
theorem inR_t {n : Nat} {x : Int32} (hn : n < 2 ^ 31) (h : inR n x = true) : ∃ j, j < n ∧ x = nI j := by
  unfold inR at h
  simp only [Bool.and_eq_true, decide_eq_true_eq] at h
  obtain ⟨j, hj, rfl⟩ := nI_of h.1
  exact ⟨j, (nI_ltI hj hn).mp h.2, rfl⟩
theorem inR_nI {n j : Nat} (h : j < n) (hn : n < 2 ^ 31) : inR n (nI j) = true := by
  unfold inR
  rw [decide_eq_true (nI_pos (by omega)), decide_eq_true (nI_lt h hn)]; rfl
theorem inR_low {n : Nat} {x : Int32} (h : x < 0) : inR n x = false := by
  unfold inR
  rw [decide_eq_false (fun z => z h)]; rfl
theorem inR_high {n : Nat} {x : Int32} (h : nI n ≤ x) : inR n x = false := by
  unfold inR
  rw [decide_eq_false (p := x < nI n) (fun z => by rw [Int32.lt_iff_toInt_lt] at z; rw [Int32.le_iff_toInt_le] at h; omega)]
  exact Bool.and_false _
theorem inR_mid {n : Nat} {x : Int32} (h0 : ¬ x < 0) (h : ¬ nI n ≤ x) : inR n x = true := by
  unfold inR
  rw [decide_eq_true h0, decide_eq_true (by rw [Int32.lt_iff_toInt_lt]; rw [Int32.le_iff_toInt_le] at h; omega)]; rfl
theorem inR_f {n : Nat} {x : Int32} (h : inR n x = false) : x < 0 ∨ nI n ≤ x := by
  by_cases h0 : x < 0
  · exact Or.inl h0
  · right
    rcases Decidable.em (nI n ≤ x) with h1 | h1
    · exact h1
    · rw [inR_mid h0 h1] at h; cases h
/-! rows -/
theorem gA_at {xs : List Int32} {i : Nat} (h : i < xs.length) (hb : i < 2 ^ 31) : gA xs (nI i) = some (xs.getD i 0) := by
  unfold gA
  rw [if_pos (nI_pos hb), nI_clamp hb, List.getD_eq_getElem?_getD, List.getElem?_eq_getElem h]; rfl
theorem gL_at {xs : List Int64} {i : Nat} (h : i < xs.length) (hb : i < 2 ^ 31) : gL xs (nI i) = some (xs.getD i 0) := by
  unfold gL
  rw [if_pos (nI_pos hb), nI_clamp hb, List.getD_eq_getElem?_getD, List.getElem?_eq_getElem h]; rfl
theorem gT_at {xs : List Nat} {i : Nat} (h : i < xs.length) (hb : i < 2 ^ 31) : gT xs (nI i) = some (xs.getD i 0) := by
  unfold gT
  rw [if_pos (nI_pos hb), nI_clamp hb, List.getD_eq_getElem?_getD, List.getElem?_eq_getElem h]; rfl
theorem sA_at {t : Nat} {m : mM} {c i : Nat} {x : Int32} (h : i < (mA m c).length) (hb : i < 2 ^ 31) : sA t m c (nI i) x = some (wA m c ((mA m c).set i (nrw t x))) := by
  unfold sA
  rw [nI_clamp hb, if_pos ⟨nI_pos hb, h⟩]
theorem sA_at0 {m : mM} {c i : Nat} {x : Int32} (h : i < (mA m c).length) (hb : i < 2 ^ 31) : sA 0 m c (nI i) x = some (wA m c ((mA m c).set i x)) := sA_at h hb
theorem sA_at3 {m : mM} {c i : Nat} {x : Int32} (h : i < (mA m c).length) (hb : i < 2 ^ 31) (hx : x = 0 ∨ x = 1) : sA 3 m c (nI i) x = some (wA m c ((mA m c).set i x)) := by
  rw [sA_at h hb]
  rcases hx with rfl | rfl <;> rfl
theorem sL_at {m : mM} {c i : Nat} {x : Int64} (h : i < (mL m c).length) (hb : i < 2 ^ 31) : sL m c (nI i) x = some (wL m c ((mL m c).set i x)) := by
  unfold sL
  rw [nI_clamp hb, if_pos ⟨nI_pos hb, h⟩]
theorem gd_set {α : Type} {xs : List α} {i j : Nat} {x d : α} : (xs.set i x).getD j d = if i = j ∧ i < xs.length then x else xs.getD j d := by
  rw [List.getD_eq_getElem?_getD, List.getElem?_set]
  by_cases h : i = j
  · subst h
    by_cases hl : i < xs.length
    · rw [if_pos rfl, if_pos hl, if_pos ⟨rfl, hl⟩]; rfl
    · rw [if_pos rfl, if_neg hl, if_neg (fun z => hl z.2), List.getD_eq_getElem?_getD, List.getElem?_eq_none (by omega)]
  · rw [if_neg h, if_neg (fun z => h z.1), List.getD_eq_getElem?_getD]
theorem gd_same {α : Type} {xs : List α} {i : Nat} {x d : α} (h : i < xs.length) : (xs.set i x).getD i d = x := by rw [gd_set, if_pos ⟨rfl, h⟩]
theorem gd_ne {α : Type} {xs : List α} {i j : Nat} {x d : α} (h : i ≠ j) : (xs.set i x).getD j d = xs.getD j d := by rw [gd_set, if_neg (fun z => h z.1)]
/-! loops that count up -/
theorem lp_up {R : Type} {fb : (mM → Int32 → fR R) → mM → Int32 → fR R} {f : Nat → mM → Int32 → fR R} (hf : ∀ F m y, f (F + 1) m y = fb (f F) m y) {n : Nat} {G : Nat → mM} {E : fR R} (hs : ∀ k, k < n → ∀ K, fb K (G k) (nI k) = K (G (k + 1)) (nI (k + 1))) (he : ∀ K, fb K (G n) (nI n) = E) : ∀ (j k F : Nat), k + j = n → j < F → f F (G k) (nI k) = E := by
  intro j
  induction j with
  | zero =>
    intro k F hk hF
    obtain ⟨F', rfl⟩ : ∃ F', F = F' + 1 := ⟨F - 1, by omega⟩
    obtain rfl : k = n := by omega
    rw [hf]; exact he _
  | succ j ih =>
    intro k F hk hF
    obtain ⟨F', rfl⟩ : ∃ F', F = F' + 1 := ⟨F - 1, by omega⟩
    rw [hf, hs k (by omega)]
    exact ih (k + 1) F' (by omega) (by omega)
/-- with a number that goes along -/
theorem lp_upA {R : Type} {fb : (mM → Int32 → Int32 → fR R) → mM → Int32 → Int32 → fR R} {f : Nat → mM → Int32 → Int32 → fR R} (hf : ∀ F m a y, f (F + 1) m a y = fb (f F) m a y) {n : Nat} {G : Nat → mM} {A : Nat → Int32} {E : fR R} (hs : ∀ k, k < n → ∀ K, fb K (G k) (A k) (nI k) = K (G (k + 1)) (A (k + 1)) (nI (k + 1))) (he : ∀ K, fb K (G n) (A n) (nI n) = E) : ∀ (j k F : Nat), k + j = n → j < F → f F (G k) (A k) (nI k) = E := by
  intro j
  induction j with
  | zero =>
    intro k F hk hF
    obtain ⟨F', rfl⟩ : ∃ F', F = F' + 1 := ⟨F - 1, by omega⟩
    obtain rfl : k = n := by omega
    rw [hf]; exact he _
  | succ j ih =>
    intro k F hk hF
    obtain ⟨F', rfl⟩ : ∃ F', F = F' + 1 := ⟨F - 1, by omega⟩
    rw [hf, hs k (by omega)]
    exact ih (k + 1) F' (by omega) (by omega)
/-- the general loop: σ all that goes along; a measure -/
theorem lp_gen {σ R : Type} {f : Nat → σ → fR R} {fb : (σ → fR R) → σ → fR R} (hf : ∀ F s, f (F + 1) s = fb (f F) s) {I : Nat → σ → Prop} {E : σ → fR R} (hs : ∀ k s, I k s → (∀ K, fb K s = E s) ∨ ∃ j s', j < k ∧ I j s' ∧ E s' = E s ∧ ∀ K, fb K s = K s') : ∀ (k F : Nat) (s : σ), I k s → k < F → f F s = E s := by
  intro k
  induction k using Nat.strongRecOn with
  | ind k ih =>
    intro F s hI hF
    obtain ⟨F', rfl⟩ : ∃ F', F = F' + 1 := ⟨F - 1, by omega⟩
    rw [hf]
    rcases hs k s hI with h | ⟨j, s', hj, hI', hE, h⟩
    · exact h _
    · rw [h, ← hE]
      exact ih j hj F' s' hI' (by omega)
theorem op_isDay {m : mM} {p : Int32} : f_X6_isDay m p = some (zB (inR 12 p), m) := by
  unfold f_X6_isDay
  by_cases h0 : p < 0
  · rw [if_pos h0, inR_low h0]; rfl
  · rw [if_neg h0]
    by_cases h1 : (12 : Int32) ≤ p
    · rw [if_pos h1, inR_high (n := 12) h1]; rfl
    · rw [if_neg h1, inR_mid h0 (n := 12) h1]; rfl
theorem op_in {m : mM} {p q : Int32} {n : Nat} (hq : ∀ x : Int32, ¬ x < 0 → (q < x ↔ nI n ≤ x)) : f_X7_in m p 0 q = some (zB (inR n p), m) := by
  unfold f_X7_in
  by_cases h0 : p < 0
  · rw [if_pos h0, inR_low h0]; rfl
  · rw [if_neg h0]
    by_cases h1 : q < p
    · rw [if_pos h1, inR_high ((hq p h0).mp h1)]; rfl
    · rw [if_neg h1, inR_mid h0 (fun z => h1 ((hq p h0).mpr z))]; rfl
theorem in_lit {q : Int32} {n : Nat} (h : q.toInt + 1 = n) (hn : n < 2 ^ 31) : ∀ x : Int32, ¬ x < 0 → (q < x ↔ nI n ≤ x) := by
  intro x _
  rw [Int32.lt_iff_toInt_lt, Int32.le_iff_toInt_le, nI_toInt hn]; omega
theorem in_pred {n : Nat} (hn : n < 2 ^ 31) : ∀ x : Int32, ¬ x < 0 → (nI n - 1 < x ↔ nI n ≤ x) := by
  intro x hx
  have e0 : (0 : Int32).toInt = 0 := rfl
  rw [Int32.lt_iff_toInt_lt, e0] at hx
  rw [Int32.lt_iff_toInt_lt, Int32.le_iff_toInt_le, nI_toInt hn]
  rcases n with _ | n
  · have : (nI 0 - 1).toInt = -1 := by decide
    omega
  · rw [nI_pred, nI_toInt (by omega)]; omega
theorem op7_isDay {m : mM} {p : Int32} : f_X7_isDay m p = some (zB (inR 12 p), m) := by
  unfold f_X7_isDay
  rw [op_in (n := 12) (in_lit (by decide) (by decide)), bnd_some, chZ_zB]
theorem op_isPerson {m : mM} {p : Int32} {n : Nat} (h : mI m 896 = nI n) : f_X6_isPerson m p = some (zB (inR n p), m) := by
  unfold f_X6_isPerson
  rw [h]
  by_cases h0 : p < 0
  · rw [if_pos h0, inR_low h0]; rfl
  · rw [if_neg h0]
    by_cases h1 : nI n ≤ p
    · rw [if_pos h1, inR_high h1]; rfl
    · rw [if_neg h1, inR_mid h0 h1]; rfl
theorem op7_isPerson {m : mM} {p : Int32} {n : Nat} (h : mI m 0 = nI n) (hn : n < 2 ^ 31) : f_X7_isPerson m p = some (zB (inR n p), m) := by
  unfold f_X7_isPerson
  rw [h, op_in (in_pred hn), bnd_some, chZ_zB]
theorem op_isTape {m : mM} {p : Int32} : f_X6_isTape m p = some (zB (inR 6 p), m) := by
  unfold f_X6_isTape
  by_cases h0 : p < 0
  · rw [if_pos h0, inR_low h0]; rfl
  · rw [if_neg h0]
    by_cases h1 : (6 : Int32) ≤ p
    · rw [if_pos h1, inR_high (n := 6) h1]; rfl
    · rw [if_neg h1, inR_mid h0 (n := 6) h1]; rfl
theorem op7_isTape {m : mM} {p : Int32} : f_X7_isTape m p = some (zB (inR 6 p), m) := by
  unfold f_X7_isTape
  rw [op_in (n := 6) (in_lit (by decide) (by decide)), bnd_some, chZ_zB]
end
-- 22b.state.lean.txt
section
/-! THE STATE: people (pd: 0 KIND, 1 v, 2 BORN, 3 PLAN, 4 there, 5.. ROW), purses, date, year, book, town -/
abbrev SS : Type := Nat × (Nat → Nat → Nat) × (Nat → Int32) × Nat × Nat × List Int32 × Nat
/-- truths -/
def b01 (l : List Int32) : Prop := ∀ p, p < 7 → l.getD p 0 = 0 ∨ l.getD p 0 = 1
/-- five rows of seven, one of 28 -/
def PDs (lk lv lb lp lh lr : List Int32) : Prop := lk.length = 7 ∧ lv.length = 7 ∧ lb.length = 7 ∧ lp.length = 7 ∧ lh.length = 7 ∧ lr.length = 28 ∧ b01 lh
def PDr (n : Nat) (pd : Nat → Nat → Nat) : Prop := n ≤ 7 ∧ ∀ p, p < n → pd 0 p < 7 ∧ pd 1 p < 10 ∧ pd 2 p < 12 ∧ pd 3 p < 12 ∧ pd 4 p < 2 ∧ ∀ j, j < 4 → pd (5 + j) p < 12
def PDe (n : Nat) (pd : Nat → Nat → Nat) (lk lv lb lp lh lr : List Int32) : Prop :=
  ∀ p, p < n → lk.getD p 0 = nI (pd 0 p) ∧ lv.getD p 0 = nI (pd 1 p) ∧ lb.getD p 0 = nI (pd 2 p) ∧ lp.getD p 0 = nI (pd 3 p) ∧ lh.getD p 0 = nI (pd 4 p) ∧ ∀ j, j < 4 → lr.getD (4 * p + j) 0 = nI (pd (5 + j) p)
def PUe (n : Nat) (pu : Nat → Int32) (l : List Int32) : Prop := ∀ p, p < n → l.getD p 0 = pu p
def BKe (bk l : List Int32) : Prop := ∀ i, i < bk.length → l.getD i 0 = bk.getD i 0
def twA (t : Nat) : Nat := match t with
  | 0 => 8
  | k + 1 => 46 + 6 * k
/-- lengths of a class's state -/
def XSh (m : mM) (c : Nat) : Prop := PDs (mA m (c + 1)) (mA m (c + 2)) (mA m (c + 3)) (mA m (c + 4)) (mA m (c + 6)) (mA m (c + 7)) ∧ (mA m (c + 5)).length = 7 ∧ (mA m (c + 8)).length = 12
def XS (m : mM) (c : Nat) (S : SS) : Prop :=
  (mI m (64 * c + 0) = nI S.1 ∧ mI m (64 * c + 1) = nI S.2.2.2.1 ∧ mI m (64 * c + 2) = nI S.2.2.2.2.1 ∧ mI m (64 * c + 3) = nI S.2.2.2.2.2.1.length ∧ mR m (64 * c + 4) = twA S.2.2.2.2.2.2) ∧
  PDe S.1 S.2.1 (mA m (c + 1)) (mA m (c + 2)) (mA m (c + 3)) (mA m (c + 4)) (mA m (c + 6)) (mA m (c + 7)) ∧ PUe S.1 S.2.2.1 (mA m (c + 5)) ∧ BKe S.2.2.2.2.2.1 (mA m (c + 8))
def MSh (m : mM) : Prop := PDs (mA m 1) (mA m 2) (mA m 3) (mA m 4) (mA m 7) (mA m 6) ∧ (mA m 5).length = 7 ∧ (mA m 23).length = 12
def MS (m : mM) (S : SS) : Prop :=
  (mI m 0 = nI S.1 ∧ mI m 1 = nI S.2.2.2.1 ∧ mI m 2 = nI S.2.2.2.2.1 ∧ mI m 38 = nI S.2.2.2.2.2.1.length ∧ mI m 11 = nI S.2.2.2.2.2.2 - 1) ∧
  PDe S.1 S.2.1 (mA m 1) (mA m 2) (mA m 3) (mA m 4) (mA m 7) (mA m 6) ∧ PUe S.1 S.2.2.1 (mA m 5) ∧ BKe S.2.2.2.2.2.1 (mA m 23)
def MKh (m : mM) : Prop := PDs (mA m 24) (mA m 25) (mA m 26) (mA m 27) (mA m 31) (mA m 29) ∧ (mA m 28).length = 7 ∧ (mA m 30).length = 12
def MK (m : mM) (S : SS) : Prop :=
  (mI m 42 = nI S.1 ∧ mI m 43 = nI S.2.2.2.1 ∧ mI m 44 = nI S.2.2.2.2.1 ∧ mI m 45 = nI S.2.2.2.2.2.1.length ∧ mI m 41 = nI S.2.2.2.2.2.2 - 1) ∧
  PDe S.1 S.2.1 (mA m 24) (mA m 25) (mA m 26) (mA m 27) (mA m 31) (mA m 29) ∧ PUe S.1 S.2.2.1 (mA m 28) ∧ BKe S.2.2.2.2.2.1 (mA m 30)
/-- purses bounded by the days lived, the BOOK by what it takes -/
def BND (S : SS) : Prop := (∀ p, p < S.1 → -(80000 * (12 * (S.2.2.2.2.1 : Int) + S.2.2.2.1)) ≤ (S.2.2.1 p).toInt ∧ (S.2.2.1 p).toInt ≤ 80000 * (12 * (S.2.2.2.2.1 : Int) + S.2.2.2.1)) ∧ ∀ i, i < S.2.2.2.2.2.1.length → -9999 ≤ (S.2.2.2.2.2.1.getD i 0).toInt ∧ (S.2.2.2.2.2.1.getD i 0).toInt ≤ 9999
/-- what a state may be, with W towns -/
def SOK (W : Nat) (S : SS) : Prop := PDr S.1 S.2.1 ∧ S.2.2.2.1 < 12 ∧ S.2.2.2.2.1 ≤ 999 ∧ S.2.2.2.2.2.1.length ≤ 12 ∧ S.2.2.2.2.2.2 ≤ W ∧ BND S
/-- one entry of pd anew -/
def pdu (pd : Nat → Nat → Nat) (f p v : Nat) : Nat → Nat → Nat := fun f' p' => if f' = f ∧ p' = p then v else pd f' p'
section PDL
variable {n p d : Nat} {pd : Nat → Nat → Nat} {lk lv lb lp lh lr : List Int32}
theorem PDe.born (hs : PDs lk lv lb lp lh lr) (hn : n ≤ 7) (h : PDe n pd lk lv lb lp lh lr) (hp : p < n) : PDe n (pdu pd 2 p d) lk lv (lb.set p (nI d)) lp lh lr := by
  intro q hq
  obtain ⟨h1, h2, h3, h4, h5, h6⟩ := h q hq
  refine ⟨by simpa [pdu] using h1, by simpa [pdu] using h2, ?_, by simpa [pdu] using h4, by simpa [pdu] using h5, fun j hj => ?_⟩
  · have := hs.2.2.1
    rw [gd_set]
    by_cases e : p = q
    · subst e; rw [if_pos ⟨rfl, by omega⟩]; simp [pdu]
    · rw [if_neg (fun z => e z.1), h3]; simp [pdu, Ne.symm e]
  · rw [h6 j hj]; unfold pdu; rw [if_neg (by omega)]
theorem PDe.plan (hs : PDs lk lv lb lp lh lr) (hn : n ≤ 7) (h : PDe n pd lk lv lb lp lh lr) (hp : p < n) : PDe n (pdu pd 3 p d) lk lv lb (lp.set p (nI d)) lh lr := by
  intro q hq
  obtain ⟨h1, h2, h3, h4, h5, h6⟩ := h q hq
  refine ⟨by simpa [pdu] using h1, by simpa [pdu] using h2, by simpa [pdu] using h3, ?_, by simpa [pdu] using h5, fun j hj => ?_⟩
  · have := hs.2.2.2.1
    rw [gd_set]
    by_cases e : p = q
    · subst e; rw [if_pos ⟨rfl, by omega⟩]; simp [pdu]
    · rw [if_neg (fun z => e z.1), h4]; simp [pdu, Ne.symm e]
  · rw [h6 j hj]; unfold pdu; rw [if_neg (by omega)]
theorem PDe.there (hs : PDs lk lv lb lp lh lr) (hn : n ≤ 7) (h : PDe n pd lk lv lb lp lh lr) (hp : p < n) : PDe n (pdu pd 4 p d) lk lv lb lp (lh.set p (nI d)) lr := by
  intro q hq
  obtain ⟨h1, h2, h3, h4, h5, h6⟩ := h q hq
  refine ⟨by simpa [pdu] using h1, by simpa [pdu] using h2, by simpa [pdu] using h3, by simpa [pdu] using h4, ?_, fun j hj => ?_⟩
  · have := hs.2.2.2.2.1
    rw [gd_set]
    by_cases e : p = q
    · subst e; rw [if_pos ⟨rfl, by omega⟩]; simp [pdu]
    · rw [if_neg (fun z => e z.1), h5]; simp [pdu, Ne.symm e]
  · rw [h6 j hj]; unfold pdu; rw [if_neg (by omega)]
theorem PDe.row {i : Nat} (hs : PDs lk lv lb lp lh lr) (hn : n ≤ 7) (h : PDe n pd lk lv lb lp lh lr) (hp : p < n) (hi : i < 4) : PDe n (pdu pd (5 + i) p d) lk lv lb lp lh (lr.set (4 * p + i) (nI d)) := by
  intro q hq
  obtain ⟨h1, h2, h3, h4, h5, h6⟩ := h q hq
  have nz : ∀ f, f < 5 → ∀ v, nI (pdu pd (5 + i) p d f v) = nI (pd f v) := fun f hf v => by unfold pdu; rw [if_neg (by omega)]
  refine ⟨by rw [nz 0 (by omega)]; exact h1, by rw [nz 1 (by omega)]; exact h2, by rw [nz 2 (by omega)]; exact h3, by rw [nz 3 (by omega)]; exact h4, by rw [nz 4 (by omega)]; exact h5, fun j hj => ?_⟩
  have := hs.2.2.2.2.2.1
  rw [gd_set]
  by_cases e : p = q ∧ i = j
  · obtain ⟨rfl, rfl⟩ := e
    rw [if_pos ⟨rfl, by omega⟩]; simp [pdu]
  · rw [if_neg (fun z => e (by omega)), h6 j hj]
    unfold pdu; rw [if_neg (fun z => e ⟨z.2.symm, by omega⟩)]
theorem PDs.born {x : Int32} (hs : PDs lk lv lb lp lh lr) : PDs lk lv (lb.set p x) lp lh lr := ⟨hs.1, hs.2.1, by rw [List.length_set]; exact hs.2.2.1, hs.2.2.2⟩
theorem PDs.plan {x : Int32} (hs : PDs lk lv lb lp lh lr) : PDs lk lv lb (lp.set p x) lh lr := ⟨hs.1, hs.2.1, hs.2.2.1, by rw [List.length_set]; exact hs.2.2.2.1, hs.2.2.2.2⟩
theorem PDs.there {x : Int32} (hs : PDs lk lv lb lp lh lr) (hx : x = 0 ∨ x = 1) : PDs lk lv lb lp (lh.set p x) lr := ⟨hs.1, hs.2.1, hs.2.2.1, hs.2.2.2.1, by rw [List.length_set]; exact hs.2.2.2.2.1, hs.2.2.2.2.2.1, fun q hq => by
  rw [gd_set]
  split
  · exact hx
  · exact hs.2.2.2.2.2.2 q hq⟩
theorem PDs.row {x : Int32} (hs : PDs lk lv lb lp lh lr) : PDs lk lv lb lp lh (lr.set p x) := ⟨hs.1, hs.2.1, hs.2.2.1, hs.2.2.2.1, hs.2.2.2.2.1, by rw [List.length_set]; exact hs.2.2.2.2.2.1, hs.2.2.2.2.2.2⟩
theorem PDr.upd {f : Nat} (h : PDr n pd) (hd : d < (match f with | 0 => 7 | 1 => 10 | 4 => 2 | _ => 12)) : PDr n (pdu pd f p d) := by
  refine ⟨h.1, fun q hq => ?_⟩
  obtain ⟨h1, h2, h3, h4, h5, h6⟩ := h.2 q hq
  have key : ∀ f' b, pd f' q < b → (f' = f → d < b) → pdu pd f p d f' q < b := fun f' b a c => by
    unfold pdu
    split
    · rename_i z; exact c z.1
    · exact a
  refine ⟨key _ _ h1 (fun z => by subst z; exact hd), key _ _ h2 (fun z => by subst z; exact hd), key _ _ h3 (fun z => by subst z; exact hd), key _ _ h4 (fun z => by subst z; exact hd), key _ _ h5 (fun z => by subst z; exact hd), fun j hj => key _ _ (h6 j hj) (fun z => by
    subst z
    match j, hj with
    | 0, _ => exact hd
    | 1, _ => exact hd
    | 2, _ => exact hd
    | 3, _ => exact hd)⟩
end PDL
end
-- 22c.rel.lean.txt
section
/-! TOWNS: clauses (word: 0 take, 1 due, 2 cost, 3 feast; number; the steps of its E), and what goes together -/
abbrev CL : Type := Nat × Nat × List Int32
/-- due, cost, feast, the takes -/
abbrev TW : Type := Nat × Nat × Nat × List (Nat × List Int32)
def clLast (w d : Nat) : List CL → Nat
  | [] => d
  | c :: cs => clLast w (if c.1 = w then c.2.1 else d) cs
def clTk : List CL → List (Nat × List Int32)
  | [] => []
  | c :: cs => if c.1 = 0 then (c.2.1, c.2.2) :: clTk cs else clTk cs
def twOf (cs : List CL) : TW := (clLast 1 10 cs, clLast 2 1 cs, clLast 3 99 cs, clTk cs)
/-- the steps, from a depth on: they end with one, never more than 31 -/
def wfc : Nat → List Int32 → Prop
  | d, [] => d = 1
  | d, t :: ts => (t = -33 ∧ 1 ≤ d ∧ wfc d ts) ∨ ((t = -38 ∨ t = -124) ∧ 2 ≤ d ∧ wfc (d - 1) ts) ∨ (d < 31 ∧ (∃ f s r, f < 6 ∧ s < 3 ∧ r < 100 ∧ t = nI (1000 * f + 100 * s + r)) ∧ wfc (d + 1) ts)
def clOk (c : CL) : Prop := c.1 < 4 ∧ c.2.1 < 100 ∧ (c.1 = 0 → wfc 0 c.2.2)
/-- a letter's fact -/
def ltF (l : Int32) : Nat := if l = 112 then 0 else if l = 107 then 1 else if l = 100 then 2 else if l = 99 then 3 else if l = 121 then 4 else 5
/-- a step of the class as the reference's -/
def cdX (l r : Int32) (n : Int32) : Int32 := if l = 33 ∨ l = 38 ∨ l = 124 then -l else nI (1000 * ltF l) + 100 * (r - 60) + n
def TXh (m : mM) (a : Nat) : Prop := (mA m (a + 1)).length = 100 ∧ (mA m (a + 2)).length = 100 ∧ (mA m (a + 3)).length = 100 ∧ (mA m (a + 4)).length = 10 ∧ (mA m (a + 5)).length = 10
/-- where the takes end -/
def tkE : List (Nat × List Int32) → Nat → Nat
  | _, 0 => 0
  | [], _ + 1 => 0
  | c :: cs, k + 1 => c.2.length + tkE cs k
def TXe (m : mM) (a : Nat) (T : TW) : Prop :=
  (mI m (64 * a + 0) = nI T.1 ∧ mI m (64 * a + 1) = nI T.2.1 ∧ mI m (64 * a + 2) = nI T.2.2.1 ∧ mI m (64 * a + 3) = nI T.2.2.2.length) ∧
  (∀ i, i < T.2.2.2.length → (mA m (a + 4)).getD i 0 = nI (T.2.2.2.getD i (0, [])).1 ∧ (mA m (a + 5)).getD i 0 = nI (tkE T.2.2.2 (i + 1))) ∧
  tkE T.2.2.2 T.2.2.2.length ≤ 100 ∧
  ∀ i, i < T.2.2.2.length → ∀ k, k < (T.2.2.2.getD i (0, [])).2.length → cdX ((mA m (a + 1)).getD (tkE T.2.2.2 i + k) 0) ((mA m (a + 2)).getD (tkE T.2.2.2 i + k) 0) ((mA m (a + 3)).getD (tkE T.2.2.2 i + k) 0) = (T.2.2.2.getD i (0, [])).2.getD k 0 ∧
    (((mA m (a + 1)).getD (tkE T.2.2.2 i + k) 0 = 33 ∨ (mA m (a + 1)).getD (tkE T.2.2.2 i + k) 0 = 38 ∨ (mA m (a + 1)).getD (tkE T.2.2.2 i + k) 0 = 124) ∨ ∃ f s r, f < 6 ∧ s < 3 ∧ r < 100 ∧ (mA m (a + 1)).getD (tkE T.2.2.2 i + k) 0 = nI ([112, 107, 100, 99, 121, 98].getD f 0) ∧ (mA m (a + 2)).getD (tkE T.2.2.2 i + k) 0 = nI (60 + s) ∧ (mA m (a + 3)).getD (tkE T.2.2.2 i + k) 0 = nI r)
def TMh (m : mM) : Prop := (mA m 9).length = 6 ∧ (mA m 10).length = 60 ∧ (mA m 11).length = 60 ∧ (mA m 12).length = 60 ∧ (mA m 13).length = 60 ∧ (mA m 14).length = 600 ∧ (mA m 15).length = 101 ∧ mA m 16 = [116, 97, 107, 101, 100, 117, 101, 99, 111, 115, 116, 102, 101, 97, 115, 116]
/-- town k of the reference -/
def TMe (m : mM) (k : Nat) (cs : List CL) : Prop :=
  (mA m 9).getD k 0 = nI cs.length ∧ cs.length ≤ 10 ∧
  ∀ c, c < cs.length → (mA m 10).getD (10 * k + c) 0 = nI (cs.getD c (0, 0, [])).1 ∧ (mA m 11).getD (10 * k + c) 0 = nI (cs.getD c (0, 0, [])).2.1 ∧
    ((cs.getD c (0, 0, [])).1 = 0 → ∃ a, a + (cs.getD c (0, 0, [])).2.2.length ≤ 100 * (k + 1) ∧ (mA m 12).getD (10 * k + c) 0 = nI a ∧ (mA m 13).getD (10 * k + c) 0 = nI (a + (cs.getD c (0, 0, [])).2.2.length) ∧
      ∀ i, i < (cs.getD c (0, 0, [])).2.2.length → (mA m 14).getD (a + i) 0 = (cs.getD c (0, 0, [])).2.2.getD i 0)
/-- town t (0: none) -/
def TWr (mx mm : mM) (t : Nat) (cs : List CL) : Prop := (∀ c ∈ cs, clOk c) ∧ TXe mx (twA t) (twOf cs) ∧ (t = 0 → cs = []) ∧ (0 < t → TMe mm (t - 1) cs)
def R_twn (W : Nat) (mx mm : mM) : Prop := W ≤ 6 ∧ mI mx 8 = nI W ∧ mI mm 10 = nI W ∧ (∀ t, t ≤ 6 → TXh mx (twA t)) ∧ TMh mm ∧ ∀ t, t ≤ W → ∃ cs, TWr mx mm t cs
def R_now (mx mm : mM) (S : SS) : Prop := XSh mx 14 ∧ XS mx 14 S ∧ MSh mm ∧ MS mm S
def R_kep (W : Nat) (mx mm : mM) : Prop := XSh mx 23 ∧ MKh mm ∧ ∃ b : Bool, mI mx 3 = zB b ∧ mI mm 40 = zB b ∧ (b = true → ∃ K, XS mx 23 K ∧ MK mm K ∧ SOK W K)
def R_scX (mx : mM) : Prop := XSh mx 32 ∧ (mA mx 1).length = 12 ∧ (mA mx 42).length = 7 ∧ (mA mx 43).length = 7 ∧ (mA mx 44).length = 7 ∧ (mA mx 45).length = 12
def R_scM (mm : mM) : Prop := (mA mm 17).length = 100 ∧ (mA mm 18).length = 7 ∧ (mA mm 19).length = 7 ∧ (mA mm 20).length = 7 ∧ (mA mm 21).length = 7 ∧ (mA mm 22).length = 7 ∧ mI mm 27 = -1
def R_txt (mx mm : mM) : Prop := (mA mx 3).length = 100 ∧ (mA mm 8).length = 100 ∧ ∃ (L : Nat) (ch : Nat → Nat), L ≤ 100 ∧ mI mx 129 = nI L ∧ mI mm 12 = nI L ∧ ∀ i, i < L → (mA mx 3).getD i 0 = nI (ch i) ∧ (mA mm 8).getD i 0 = nI (ch i) ∧ ch i < 128
def R_act (mx mm : mM) : Prop := (mA mx 6).length = 20 ∧ (mA mm 32).length = 20 ∧ ∃ r, r < 1000 ∧ mI mx 321 = nI r ∧ mI mm 54 = nI r ∧ ∀ i, i < 20 → i < r → (mA mx 6).getD i 0 = (mA mm 32).getD i 0
/-- tape t: its sort (one more), length, items -/
def TPr (mx mm : mM) (t : Nat) : Prop := ∃ s l, s ≤ 5 ∧ l ≤ 60 ∧ (s = 0 → l = 0) ∧ mI mx (64 * (82 + 2 * t) + 0) = nI s - 1 ∧ (mA mm 33).getD t 0 = nI s - 1 ∧ mI mx (64 * (82 + 2 * t) + 1) = nI l ∧ (mA mm 34).getD t 0 = nI l ∧ (mL mx (82 + 2 * t + 1)).length = 60 ∧ ∀ i, i < l → (mL mx (82 + 2 * t + 1)).getD i 0 = (mL mm 35).getD (60 * t + i) 0
def R_tap (mx mm : mM) : Prop := (mA mm 33).length = 6 ∧ (mA mm 34).length = 6 ∧ (mL mm 35).length = 360 ∧ (mL mm 36).length = 60 ∧ ∀ t, t < 6 → TPr mx mm t
def RR (mx mm : mM) : Prop := ∃ W S, R_now mx mm S ∧ SOK W S ∧ R_kep W mx mm ∧ R_scX mx ∧ R_scM mm ∧ R_txt mx mm ∧ R_twn W mx mm ∧ R_act mx mm ∧ R_tap mx mm
def OPe {R : Type} (a b : fR R) : Prop := ∃ r mx' mm', a = some (r, mx') ∧ b = some (r, mm') ∧ RR mx' mm'
def OPt {R : Type} (a b : fR R) : Prop := ∃ r r' mx' mm', a = some (r, mx') ∧ b = some (r', mm') ∧ RR mx' mm'
/-! frames -/
theorem R_twn.fr {W : Nat} {mx mm mx' mm' : mM} (h : R_twn W mx mm) (h1 : ∀ k, k = 8 ∨ (512 ≤ k ∧ k < 576) ∨ (2944 ≤ k ∧ k < 5248) → mI mx' k = mI mx k) (h2 : ∀ c, (8 ≤ c ∧ c < 14) ∨ (46 ≤ c ∧ c < 82) → mA mx' c = mA mx c) (h3 : mI mm' 10 = mI mm 10) (h4 : ∀ c, 9 ≤ c ∧ c < 17 → mA mm' c = mA mm c) : R_twn W mx' mm' := by
  obtain ⟨g1, g2, g3, g4, g5, g6⟩ := h
  have hb : ∀ t, t ≤ 6 → (twA t = 8 ∨ (46 ≤ twA t ∧ twA t ≤ 76)) := fun t ht => by
    match t, ht with
    | 0, _ => exact Or.inl rfl
    | k + 1, ht => right; show 46 ≤ 46 + 6 * k ∧ 46 + 6 * k ≤ 76; omega
  have iI : ∀ t, t ≤ 6 → ∀ k, k < 64 → mI mx' (64 * twA t + k) = mI mx (64 * twA t + k) := fun t ht k hk => h1 _ (by have := hb t ht; omega)
  have iA : ∀ t, t ≤ 6 → ∀ k, k < 6 → mA mx' (twA t + k) = mA mx (twA t + k) := fun t ht k hk => h2 _ (by have := hb t ht; omega)
  refine ⟨g1, by rw [h1 8 (by omega)]; exact g2, by rw [h3]; exact g3, fun t ht => ?_, ?_, fun t ht => ?_⟩
  · have := g4 t ht
    unfold TXh at this ⊢
    rw [iA t ht 1 (by omega), iA t ht 2 (by omega), iA t ht 3 (by omega), iA t ht 4 (by omega), iA t ht 5 (by omega)]
    exact this
  · unfold TMh at g5 ⊢
    rw [h4 9 (by omega), h4 10 (by omega), h4 11 (by omega), h4 12 (by omega), h4 13 (by omega), h4 14 (by omega), h4 15 (by omega), h4 16 (by omega)]
    exact g5
  · have ht6 : t ≤ 6 := by omega
    obtain ⟨cs, k1, k2, k3, k4⟩ := g6 t ht
    refine ⟨cs, k1, ?_, k3, fun hp => ?_⟩
    · unfold TXe at k2 ⊢
      rw [iI t ht6 0 (by omega), iI t ht6 1 (by omega), iI t ht6 2 (by omega), iI t ht6 3 (by omega), iA t ht6 1 (by omega), iA t ht6 2 (by omega), iA t ht6 3 (by omega), iA t ht6 4 (by omega), iA t ht6 5 (by omega)]
      exact k2
    · have := k4 hp
      unfold TMe at this ⊢
      rw [h4 9 (by omega), h4 10 (by omega), h4 11 (by omega), h4 12 (by omega), h4 13 (by omega), h4 14 (by omega)]
      exact this
theorem R_tap.fr {mx mm mx' mm' : mM} (h : R_tap mx mm) (h1 : ∀ k, 5248 ≤ k ∧ k < 6016 → mI mx' k = mI mx k) (h2 : ∀ c, 82 ≤ c ∧ c < 94 → mL mx' c = mL mx c) (h3 : mA mm' 33 = mA mm 33 ∧ mA mm' 34 = mA mm 34) (h4 : mL mm' 35 = mL mm 35 ∧ mL mm' 36 = mL mm 36) : R_tap mx' mm' := by
  obtain ⟨g1, g2, g3, g4, g5⟩ := h
  refine ⟨by rw [h3.1]; exact g1, by rw [h3.2]; exact g2, by rw [h4.1]; exact g3, by rw [h4.2]; exact g4, fun t ht => ?_⟩
  have := g5 t ht
  unfold TPr at this ⊢
  rw [h1 (64 * (82 + 2 * t) + 0) (by omega), h1 (64 * (82 + 2 * t) + 1) (by omega), h2 (82 + 2 * t + 1) (by omega), h3.1, h3.2, h4.1]
  exact this
end
-- 22d.ops1.lean.txt
section
/-! OPERATIONS: people one by one, the book, the trace, kinds, counts -/
section OPS1
variable {mx mm : mM}
theorem i0 : ¬ ((1 : Int32) = 0) := by decide
theorem op_there (h : RR mx mm) (p x : Int32) (hx : x = 0 ∨ x = 1) : OPe (f_X6_there mx p x) (f_X7_there mm p x) := by
  obtain ⟨W, S, ⟨hX, hS, hM, hQ⟩, hO, hK, hC, hC2, hT, hW, hA, hP⟩ := id h
  unfold f_X6_there f_X7_there
  rw [op_isPerson hS.1.1, op7_isPerson hQ.1.1 (by have := hO.1.1; omega), bnd_some, bnd_some]
  cases hb : inR S.1 p with
  | false => exact ⟨_, mx, mm, rfl, rfl, h⟩
  | true =>
    obtain ⟨j, hj, rfl⟩ := inR_t (by have := hO.1.1; omega) hb
    have hn := hO.1.1
    have l1 := hX.1.2.2.2.2.1
    have l2 := hM.1.2.2.2.2.1
    have e1 := (hS.2.1 j hj).2.2.2.2.1
    have e2 := (hQ.2.1 j hj).2.2.2.2.1
    have r1 := (hO.1.2 j hj).2.2.2.2.1
    rw [zB_t, if_neg i0, if_neg i0, gA_at (by rw [l1]; omega) (by omega), gA_at (by rw [l2]; omega) (by omega), Option.bind_some, Option.bind_some, e1, e2]
    unfold f_X7_there_24
    rw [sA_at3 (by rw [l1]; omega) (by omega) hx, sA_at3 (by rw [l2]; omega) (by omega) hx, Option.bind_some, Option.bind_some, Option.bind_some]
    obtain ⟨d, hd, rfl⟩ : ∃ d, d < 2 ∧ x = nI d := by
      rcases hx with rfl | rfl
      · exact ⟨0, by decide, rfl⟩
      · exact ⟨1, by decide, rfl⟩
    have hR : RR (wA mx 20 ((mA mx 20).set j (nI d))) (wA mm 7 ((mA mm 7).set j (nI d))) :=
      ⟨W, (S.1, pdu S.2.1 4 j d, S.2.2), ⟨⟨hX.1.there hx, hX.2⟩, ⟨hS.1, hS.2.1.there hX.1 hn hj, hS.2.2⟩, ⟨hM.1.there hx, hM.2⟩, ⟨hQ.1, hQ.2.1.there hM.1 hn hj, hQ.2.2⟩⟩, ⟨hO.1.upd hd, hO.2⟩, hK, hC, hC2, hT, hW.fr (fun _ _ => rfl) (fun c hc => if_neg (by omega)) rfl (fun c hc => if_neg (by omega)), hA, hP.fr (fun _ _ => rfl) (fun _ _ => rfl) ⟨rfl, rfl⟩ ⟨rfl, rfl⟩⟩
    rcases (show S.2.1 4 j = 0 ∨ S.2.1 4 j = 1 by omega) with e | e
    · rw [e]; exact ⟨_, _, _, rfl, rfl, hR⟩
    · rw [e]; exact ⟨_, _, _, rfl, rfl, hR⟩
theorem op_set (h : RR mx mm) (p q x : Int32) : OPe (f_X6_set mx p q x) (f_X7_set mm p q x) := by
  obtain ⟨W, S, ⟨hX, hS, hM, hQ⟩, hO, hK, hC, hC2, hT, hW, hA, hP⟩ := id h
  unfold f_X6_set f_X7_set
  rw [op_isPerson hS.1.1, op7_isPerson hQ.1.1 (by have := hO.1.1; omega), bnd_some, bnd_some]
  cases hb : inR S.1 p with
  | false => exact ⟨_, mx, mm, rfl, rfl, h⟩
  | true =>
    obtain ⟨j, hj, rfl⟩ := inR_t (by have := hO.1.1; omega) hb
    have hn := hO.1.1
    rw [zB_t, if_neg i0, if_neg i0, op_in (n := 2) (in_lit (by decide) (by decide)), bnd_some, op_isDay, op7_isDay, bnd_some, bnd_some]
    by_cases q0 : q < 0
    · rw [if_pos q0, inR_low q0]; exact ⟨_, mx, mm, rfl, rfl, h⟩
    · rw [if_neg q0]
      by_cases q1 : q ≤ 1
      · have hq : inR 2 q = true := inR_mid q0 (fun z => by rw [Int32.le_iff_toInt_le] at q1 z; rw [nI_toInt (by decide)] at z; have : (1 : Int32).toInt = 1 := rfl; omega)
        rw [if_pos q1, hq, zB_t, if_neg i0]
        cases hd : inR 12 x with
        | false => exact ⟨_, mx, mm, rfl, rfl, h⟩
        | true =>
          obtain ⟨d, hdd, rfl⟩ := inR_t (by decide) hd
          rw [zB_t, if_neg i0, if_neg i0]
          unfold f_X6_set_50 f_X7_set_50
          have l1 := hX.1.2.2.1
          have l2 := hM.1.2.2.1
          have l3 := hX.1.2.2.2.1
          have l4 := hM.1.2.2.2.1
          have e1 := (hS.2.1 j hj).2.2.1
          have e2 := (hQ.2.1 j hj).2.2.1
          have e3 := (hS.2.1 j hj).2.2.2.1
          have e4 := (hQ.2.1 j hj).2.2.2.1
          by_cases qz : q = 0
          · rw [if_pos qz, if_pos qz, gA_at (by rw [l1]; omega) (by omega), gA_at (by rw [l2]; omega) (by omega), Option.bind_some, Option.bind_some, if_pos qz, e1, e2, sA_at0 (by rw [l1]; omega) (by omega), sA_at0 (by rw [l2]; omega) (by omega)]
            exact ⟨_, _, _, rfl, rfl, W, (S.1, pdu S.2.1 2 j d, S.2.2), ⟨⟨hX.1.born, hX.2⟩, ⟨hS.1, hS.2.1.born hX.1 hn hj, hS.2.2⟩, ⟨hM.1.born, hM.2⟩, ⟨hQ.1, hQ.2.1.born hM.1 hn hj, hQ.2.2⟩⟩, ⟨hO.1.upd hdd, hO.2⟩, hK, hC, hC2, hT, hW.fr (fun _ _ => rfl) (fun c hc => if_neg (by omega)) rfl (fun c hc => if_neg (by omega)), hA, hP.fr (fun _ _ => rfl) (fun _ _ => rfl) ⟨rfl, rfl⟩ ⟨rfl, rfl⟩⟩
          · rw [if_neg qz, if_neg qz, gA_at (by rw [l3]; omega) (by omega), gA_at (by rw [l4]; omega) (by omega), Option.bind_some, Option.bind_some, if_neg qz, e3, e4, sA_at0 (by rw [l3]; omega) (by omega), sA_at0 (by rw [l4]; omega) (by omega)]
            exact ⟨_, _, _, rfl, rfl, W, (S.1, pdu S.2.1 3 j d, S.2.2), ⟨⟨hX.1.plan, hX.2⟩, ⟨hS.1, hS.2.1.plan hX.1 hn hj, hS.2.2⟩, ⟨hM.1.plan, hM.2⟩, ⟨hQ.1, hQ.2.1.plan hM.1 hn hj, hQ.2.2⟩⟩, ⟨hO.1.upd hdd, hO.2⟩, hK, hC, hC2, hT, hW.fr (fun _ _ => rfl) (fun c hc => if_neg (by omega)) rfl (fun c hc => if_neg (by omega)), hA, hP.fr (fun _ _ => rfl) (fun _ _ => rfl) ⟨rfl, rfl⟩ ⟨rfl, rfl⟩⟩
      · have hq : inR 2 q = false := inR_high (by rw [Int32.le_iff_toInt_le] at q1; rw [Int32.le_iff_toInt_le, nI_toInt (by decide)]; have : (1 : Int32).toInt = 1 := rfl; omega)
        rw [if_neg q1, hq]; exact ⟨_, mx, mm, rfl, rfl, h⟩
theorem lt_inR {n : Nat} {q k : Int32} (hk : k = nI n) (hn : n < 2 ^ 31) (q0 : ¬ q < 0) : (q < k ↔ inR n q = true) := by
  subst hk
  constructor
  · intro z; exact inR_mid q0 (fun z2 => by rw [Int32.lt_iff_toInt_lt] at z; rw [Int32.le_iff_toInt_le] at z2; omega)
  · intro z
    obtain ⟨j, hj, rfl⟩ := inR_t hn z
    exact nI_lt hj hn
theorem op_row (h : RR mx mm) (p q x : Int32) : OPe (f_X6_row mx p q x) (f_X7_row mm p q x) := by
  obtain ⟨W, S, ⟨hX, hS, hM, hQ⟩, hO, hK, hC, hC2, hT, hW, hA, hP⟩ := id h
  unfold f_X6_row f_X7_row
  rw [op_isPerson hS.1.1, op7_isPerson hQ.1.1 (by have := hO.1.1; omega), bnd_some, bnd_some]
  cases hb : inR S.1 p with
  | false => exact ⟨_, mx, mm, rfl, rfl, h⟩
  | true =>
    obtain ⟨j, hj, rfl⟩ := inR_t (by have := hO.1.1; omega) hb
    have hn := hO.1.1
    rw [zB_t, if_neg i0, if_neg i0, op_in (n := 4) (in_lit (by decide) (by decide)), bnd_some, op_isDay, op7_isDay, bnd_some, bnd_some]
    by_cases q0 : q < 0
    · rw [if_pos q0, inR_low q0]; exact ⟨_, mx, mm, rfl, rfl, h⟩
    · rw [if_neg q0]
      have hlt := lt_inR (n := 4) (k := 4) rfl (by decide) q0
      cases hq : inR 4 q with
      | false => rw [if_neg (fun z => by rw [hlt.mp z] at hq; cases hq)]; exact ⟨_, mx, mm, rfl, rfl, h⟩
      | true =>
        rw [if_pos (hlt.mpr hq), zB_t, if_neg i0]
        obtain ⟨i, hi, rfl⟩ := inR_t (by decide) hq
        cases hd : inR 12 x with
        | false => exact ⟨_, mx, mm, rfl, rfl, h⟩
        | true =>
          obtain ⟨d, hdd, rfl⟩ := inR_t (by decide) hd
          have l1 := hX.1.1
          have l2 := hM.1.1
          have l3 := hX.1.2.2.2.2.2.1
          have l4 := hM.1.2.2.2.2.2.1
          have e1 := (hS.2.1 j hj).1
          have e2 := (hQ.2.1 j hj).1
          have e3 := (hS.2.1 j hj).2.2.2.2.2 i hi
          have e4 := (hQ.2.1 j hj).2.2.2.2.2 i hi
          rw [zB_t, if_neg i0, if_neg i0, gA_at (by rw [l1]; omega) (by omega), gA_at (by rw [l2]; omega) (by omega), Option.bind_some, Option.bind_some, e1, e2]
          by_cases hk : nI (S.2.1 0 j) = 6
          · rw [if_pos hk, if_pos hk, nmI_eq, show (4 : Int32) = nI 4 from rfl, pk_mul, pk_mul, nI_add, nI_add, show j * 4 + i = 4 * j + i by omega, gA_at (by rw [l3]; omega) (by omega), gA_at (by rw [l4]; omega) (by omega), Option.bind_some, Option.bind_some, e3, e4, sA_at0 (by rw [l3]; omega) (by omega), sA_at0 (by rw [l4]; omega) (by omega)]
            exact ⟨_, _, _, rfl, rfl, W, (S.1, pdu S.2.1 (5 + i) j d, S.2.2), ⟨⟨hX.1.row, hX.2⟩, ⟨hS.1, hS.2.1.row hX.1 hn hj hi, hS.2.2⟩, ⟨hM.1.row, hM.2⟩, ⟨hQ.1, hQ.2.1.row hM.1 hn hj hi, hQ.2.2⟩⟩, ⟨hO.1.upd (by
              match i, hi with
              | 0, _ => exact hdd
              | 1, _ => exact hdd
              | 2, _ => exact hdd
              | 3, _ => exact hdd), hO.2⟩, hK, hC, hC2, hT, hW.fr (fun _ _ => rfl) (fun c hc => if_neg (by omega)) rfl (fun c hc => if_neg (by omega)), hA, hP.fr (fun _ _ => rfl) (fun _ _ => rfl) ⟨rfl, rfl⟩ ⟨rfl, rfl⟩⟩
          · rw [if_neg hk, if_neg hk]; exact ⟨_, mx, mm, rfl, rfl, h⟩
theorem op_count (h : RR mx mm) (q : Int32) : OPe (f_X6_count mx q) (f_X7_count mm q) := by
  obtain ⟨W, S, ⟨hX, hS, hM, hQ⟩, hO, hK, hC, hC2, hT, hW, hA, hP⟩ := id h
  unfold f_X6_count f_X7_count
  obtain ⟨-, -, L, ch, -, t1, t2, -⟩ := hT
  obtain ⟨-, -, r, -, a1, a2, -⟩ := hA
  rw [show mI mx 896 = mI mm 0 from hS.1.1.trans hQ.1.1.symm, show mI mx 8 = mI mm 10 from hW.2.1.trans hW.2.2.1.symm, show mI mx 899 = mI mm 38 from hS.1.2.2.2.1.trans hQ.1.2.2.2.1.symm, show mI mx 129 = mI mm 12 from t1.trans t2.symm, show mI mx 321 = mI mm 54 from a1.trans a2.symm]
  repeat' split
  all_goals exact ⟨_, mx, mm, rfl, rfl, h⟩
theorem op_trace (h : RR mx mm) (q : Int32) : OPe (f_X6_trace mx q) (f_X7_trace mm q) := by
  obtain ⟨W, S, ⟨hX, hS, hM, hQ⟩, hO, hK, hC, hC2, hT, hW, hA, hP⟩ := id h
  obtain ⟨l1, l2, r, hr, a1, a2, a3⟩ := hA
  unfold f_X6_trace f_X7_trace
  rw [op_in (n := 20) (in_lit (by decide) (by decide)), bnd_some, a1, a2]
  by_cases q0 : q < 0
  · rw [if_pos q0, inR_low q0]; exact ⟨_, mx, mm, rfl, rfl, h⟩
  · rw [if_neg q0]
    have hlt := lt_inR (n := 20) (k := 20) rfl (by decide) q0
    by_cases h1 : nI r ≤ q
    · rw [if_pos h1, if_pos h1]
      cases inR 20 q <;> exact ⟨_, mx, mm, rfl, rfl, h⟩
    · rw [if_neg h1, if_neg h1]
      cases hq : inR 20 q with
      | false => rw [if_neg (fun z => by rw [hlt.mp z] at hq; cases hq)]; exact ⟨_, mx, mm, rfl, rfl, h⟩
      | true =>
        rw [if_pos (hlt.mpr hq), zB_t, if_neg i0]
        obtain ⟨i, hi, rfl⟩ := inR_t (by decide) hq
        have hir : i < r := by
          rcases Nat.lt_or_ge i r with z | z
          · exact z
          · exact absurd (nI_le z (by omega)) h1
        rw [gA_at (by rw [l1]; omega) (by omega), gA_at (by rw [l2]; omega) (by omega), Option.bind_some, Option.bind_some, a3 i hi hir]
        exact ⟨_, mx, mm, rfl, rfl, h⟩
theorem op_taken (h : RR mx mm) (p q : Int32) : OPe (f_X6_taken mx p q) (f_X7_taken mm p q) := by
  obtain ⟨W, S, ⟨hX, hS, hM, hQ⟩, hO, hK, hC, hC2, hT, hW, hA, hP⟩ := id h
  unfold f_X6_taken f_X7_taken
  rw [op_in (n := 7) (in_lit (by decide) (by decide)), bnd_some, op_isPerson hS.1.1, op7_isPerson hQ.1.1 (by have := hO.1.1; omega), bnd_some, bnd_some]
  by_cases q0 : q < 0
  · rw [if_pos q0, inR_low q0]; exact ⟨_, mx, mm, rfl, rfl, h⟩
  · rw [if_neg q0]
    have hlt := lt_inR (n := 7) (k := 7) rfl (by decide) q0
    cases hq : inR 7 q with
    | false => rw [if_neg (fun z => by rw [hlt.mp z] at hq; cases hq)]; exact ⟨_, mx, mm, rfl, rfl, h⟩
    | true =>
      rw [if_pos (hlt.mpr hq), zB_t, if_neg i0]
      obtain ⟨k, hk, rfl⟩ := inR_t (by decide) hq
      cases hb : inR S.1 p with
      | false => exact ⟨_, mx, mm, rfl, rfl, h⟩
      | true =>
        obtain ⟨j, hj, rfl⟩ := inR_t (by have := hO.1.1; omega) hb
        have hn := hO.1.1
        have l1 := hX.1.1
        have l2 := hM.1.1
        rw [zB_t, if_neg i0, if_neg i0, gA_at (by rw [l1]; omega) (by omega), gA_at (by rw [l2]; omega) (by omega), Option.bind_some, Option.bind_some, (hS.2.1 j hj).1, (hQ.2.1 j hj).1]
        have hkd := (hO.1.2 j hj).1
        generalize S.2.1 0 j = kd at hkd
        unfold f_X6_taken_57 f_X7_taken_51 f_X7_taken_61
        have key : ∀ kd, kd < 7 → ∀ k, k < 7 → ∃ r : Int32, (∀ m : mM, (if nI kd = nI k then (if (1 : Int32) = 0 then some (-12, m) else some (nI kd, m)) else (gA oxA (nI kd)).bind fun x5 => if x5 = nI k then (if (1 : Int32) = 0 then some (-12, m) else some (nI kd, m)) else if nI k = 0 then (if (1 : Int32) = 0 then some (-12, m) else some (nI kd, m)) else (if (0 : Int32) = 0 then some (-12, m) else some (nI kd, m))) = some (r, m)) ∧
            ∀ m : mM, (if nI k = 0 then some (nI kd, m) else if nI kd = nI k then some (nI kd, m) else if nI k = 1 then (if nI kd = 4 then some (nI kd, m) else (if nI k = 2 then (if nI kd = 5 then some (nI kd, m) else (if nI k = 3 then (if nI kd = 6 then some (nI kd, m) else some (-12, m)) else some (-12, m))) else (if nI k = 3 then (if nI kd = 6 then some (nI kd, m) else some (-12, m)) else some (-12, m)))) else (if nI k = 2 then (if nI kd = 5 then some (nI kd, m) else (if nI k = 3 then (if nI kd = 6 then some (nI kd, m) else some (-12, m)) else some (-12, m))) else (if nI k = 3 then (if nI kd = 6 then some (nI kd, m) else some (-12, m)) else some (-12, m)))) = some (r, m) := by
          intro kd hkd k hk
          match kd, hkd with
          | 0, _ => match k, hk with
            | 0, _ => exact ⟨_, fun _ => rfl, fun _ => rfl⟩
            | 1, _ => exact ⟨_, fun _ => rfl, fun _ => rfl⟩
            | 2, _ => exact ⟨_, fun _ => rfl, fun _ => rfl⟩
            | 3, _ => exact ⟨_, fun _ => rfl, fun _ => rfl⟩
            | 4, _ => exact ⟨_, fun _ => rfl, fun _ => rfl⟩
            | 5, _ => exact ⟨_, fun _ => rfl, fun _ => rfl⟩
            | 6, _ => exact ⟨_, fun _ => rfl, fun _ => rfl⟩
          | 1, _ => match k, hk with
            | 0, _ => exact ⟨_, fun _ => rfl, fun _ => rfl⟩
            | 1, _ => exact ⟨_, fun _ => rfl, fun _ => rfl⟩
            | 2, _ => exact ⟨_, fun _ => rfl, fun _ => rfl⟩
            | 3, _ => exact ⟨_, fun _ => rfl, fun _ => rfl⟩
            | 4, _ => exact ⟨_, fun _ => rfl, fun _ => rfl⟩
            | 5, _ => exact ⟨_, fun _ => rfl, fun _ => rfl⟩
            | 6, _ => exact ⟨_, fun _ => rfl, fun _ => rfl⟩
          | 2, _ => match k, hk with
            | 0, _ => exact ⟨_, fun _ => rfl, fun _ => rfl⟩
            | 1, _ => exact ⟨_, fun _ => rfl, fun _ => rfl⟩
            | 2, _ => exact ⟨_, fun _ => rfl, fun _ => rfl⟩
            | 3, _ => exact ⟨_, fun _ => rfl, fun _ => rfl⟩
            | 4, _ => exact ⟨_, fun _ => rfl, fun _ => rfl⟩
            | 5, _ => exact ⟨_, fun _ => rfl, fun _ => rfl⟩
            | 6, _ => exact ⟨_, fun _ => rfl, fun _ => rfl⟩
          | 3, _ => match k, hk with
            | 0, _ => exact ⟨_, fun _ => rfl, fun _ => rfl⟩
            | 1, _ => exact ⟨_, fun _ => rfl, fun _ => rfl⟩
            | 2, _ => exact ⟨_, fun _ => rfl, fun _ => rfl⟩
            | 3, _ => exact ⟨_, fun _ => rfl, fun _ => rfl⟩
            | 4, _ => exact ⟨_, fun _ => rfl, fun _ => rfl⟩
            | 5, _ => exact ⟨_, fun _ => rfl, fun _ => rfl⟩
            | 6, _ => exact ⟨_, fun _ => rfl, fun _ => rfl⟩
          | 4, _ => match k, hk with
            | 0, _ => exact ⟨_, fun _ => rfl, fun _ => rfl⟩
            | 1, _ => exact ⟨_, fun _ => rfl, fun _ => rfl⟩
            | 2, _ => exact ⟨_, fun _ => rfl, fun _ => rfl⟩
            | 3, _ => exact ⟨_, fun _ => rfl, fun _ => rfl⟩
            | 4, _ => exact ⟨_, fun _ => rfl, fun _ => rfl⟩
            | 5, _ => exact ⟨_, fun _ => rfl, fun _ => rfl⟩
            | 6, _ => exact ⟨_, fun _ => rfl, fun _ => rfl⟩
          | 5, _ => match k, hk with
            | 0, _ => exact ⟨_, fun _ => rfl, fun _ => rfl⟩
            | 1, _ => exact ⟨_, fun _ => rfl, fun _ => rfl⟩
            | 2, _ => exact ⟨_, fun _ => rfl, fun _ => rfl⟩
            | 3, _ => exact ⟨_, fun _ => rfl, fun _ => rfl⟩
            | 4, _ => exact ⟨_, fun _ => rfl, fun _ => rfl⟩
            | 5, _ => exact ⟨_, fun _ => rfl, fun _ => rfl⟩
            | 6, _ => exact ⟨_, fun _ => rfl, fun _ => rfl⟩
          | 6, _ => match k, hk with
            | 0, _ => exact ⟨_, fun _ => rfl, fun _ => rfl⟩
            | 1, _ => exact ⟨_, fun _ => rfl, fun _ => rfl⟩
            | 2, _ => exact ⟨_, fun _ => rfl, fun _ => rfl⟩
            | 3, _ => exact ⟨_, fun _ => rfl, fun _ => rfl⟩
            | 4, _ => exact ⟨_, fun _ => rfl, fun _ => rfl⟩
            | 5, _ => exact ⟨_, fun _ => rfl, fun _ => rfl⟩
            | 6, _ => exact ⟨_, fun _ => rfl, fun _ => rfl⟩
        obtain ⟨r, g1, g2⟩ := key kd hkd k hk
        exact ⟨r, mx, mm, g1 mx, g2 mm, h⟩
theorem op_book (h : RR mx mm) (q : Int32) : OPe (f_X6_book mx q) (f_X7_book mm q) := by
  obtain ⟨W, S, ⟨hX, hS, hM, hQ⟩, hO, hK, hC, hC2, hT, hW, hA, hP⟩ := id h
  unfold f_X6_book f_X7_book
  by_cases hz : q = -10000
  · rw [if_pos hz, if_pos hz]
    exact ⟨0, wI mx 899 0, wI mm 38 0, rfl, rfl, W, (S.1, S.2.1, S.2.2.1, S.2.2.2.1, S.2.2.2.2.1, [], S.2.2.2.2.2.2), ⟨hX, ⟨⟨hS.1.1, hS.1.2.1, hS.1.2.2.1, rfl, hS.1.2.2.2.2⟩, hS.2.1, hS.2.2.1, fun i hi => absurd hi (Nat.not_lt_zero i)⟩, hM, ⟨⟨hQ.1.1, hQ.1.2.1, hQ.1.2.2.1, rfl, hQ.1.2.2.2.2⟩, hQ.2.1, hQ.2.2.1, fun i hi => absurd hi (Nat.not_lt_zero i)⟩⟩, ⟨hO.1, hO.2.1, hO.2.2.1, Nat.zero_le _, hO.2.2.2.2.1, hO.2.2.2.2.2.1, fun i hi => absurd hi (Nat.not_lt_zero i)⟩, hK, hC, hC2, hT, hW.fr (fun k hk => if_neg (by omega)) (fun _ _ => rfl) rfl (fun _ _ => rfl), hA, hP.fr (fun k hk => if_neg (by omega)) (fun _ _ => rfl) ⟨rfl, rfl⟩ ⟨rfl, rfl⟩⟩
  · rw [if_neg hz, if_neg hz]
    unfold f_X7_in
    by_cases q0 : q < -9999
    · rw [if_pos q0, if_pos q0]; exact ⟨_, mx, mm, rfl, rfl, h⟩
    · rw [if_neg q0, if_neg q0]
      by_cases q1 : q ≤ 9999
      · have e1 := hS.1.2.2.2.1
        have e2 := hQ.1.2.2.2.1
        have hl := hO.2.2.2.1
        rw [if_pos q1, if_neg (show ¬ (9999 : Int32) < q from fun z => by rw [Int32.lt_iff_toInt_lt] at z; rw [Int32.le_iff_toInt_le] at q1; omega), bnd_some, if_neg i0, show mI mx 899 = _ from e1, show mI mm 38 = _ from e2]
        by_cases hf : S.2.2.2.2.2.1.length < 12
        · rw [if_pos (show nI _ < (12 : Int32) from nI_lt hf (by decide)), if_neg (fun z => by have := (nI_eq (by omega) (by decide)).mp (show nI _ = nI 12 from z); omega), sA_at0 (by rw [show mA mx 22 = mA mx (14 + 8) from rfl, hX.2.2]; exact hf) (by omega), sA_at0 (by rw [hM.2.2]; exact hf) (by omega), Option.bind_some, Option.bind_some, nmM_eq, nmM_eq]
          refine ⟨mI mx 899 + 1, wI (wA mx 22 ((mA mx 22).set S.2.2.2.2.2.1.length q)) 899 (mI mx 899 + 1), wI (wA mm 23 ((mA mm 23).set S.2.2.2.2.2.1.length q)) 38 (mI mm 38 + 1), rfl, by rw [show mI mx 899 = mI mm 38 from e1.trans e2.symm]; rfl, W, (S.1, S.2.1, S.2.2.1, S.2.2.2.1, S.2.2.2.2.1, S.2.2.2.2.2.1 ++ [q], S.2.2.2.2.2.2), ⟨⟨hX.1, hX.2.1, (List.length_set ..).trans hX.2.2⟩, ⟨⟨hS.1.1, hS.1.2.1, hS.1.2.2.1, ?_, hS.1.2.2.2.2⟩, hS.2.1, hS.2.2.1, ?_⟩, ⟨hM.1, hM.2.1, (List.length_set ..).trans hM.2.2⟩, ⟨⟨hQ.1.1, hQ.1.2.1, hQ.1.2.2.1, ?_, hQ.1.2.2.2.2⟩, hQ.2.1, hQ.2.2.1, ?_⟩⟩, ⟨hO.1, hO.2.1, hO.2.2.1, by rw [List.length_append]; exact hf, hO.2.2.2.2.1, hO.2.2.2.2.2.1, ?_⟩, hK, hC, hC2, hT, hW.fr (fun k hk => if_neg (by omega)) (fun c hc => if_neg (by omega)) rfl (fun c hc => if_neg (by omega)), hA, hP.fr (fun k hk => if_neg (by omega)) (fun _ _ => rfl) ⟨rfl, rfl⟩ ⟨rfl, rfl⟩⟩
          · show mI mx 899 + 1 = nI (S.2.2.2.2.2.1 ++ [q]).length
            rw [show mI mx 899 = _ from e1, nI_1, List.length_append]; rfl
          · intro i hi
            have hi : i < S.2.2.2.2.2.1.length + 1 := by simpa using hi
            show ((mA mx 22).set S.2.2.2.2.2.1.length q).getD i 0 = _
            rw [gd_set, show mA mx 22 = mA mx (14 + 8) from rfl, hX.2.2]
            by_cases z : S.2.2.2.2.2.1.length = i
            · rw [if_pos ⟨z, hf⟩, List.getD_eq_getElem?_getD, List.getElem?_append_right (by omega), z, Nat.sub_self]; rfl
            · rw [if_neg (fun w => z w.1), hS.2.2.2 i (by omega), List.getD_eq_getElem?_getD, List.getD_eq_getElem?_getD, List.getElem?_append_left (by omega)]
          · show mI mm 38 + 1 = nI (S.2.2.2.2.2.1 ++ [q]).length
            rw [show mI mm 38 = _ from e2, nI_1, List.length_append]; rfl
          · intro i hi
            have hi : i < S.2.2.2.2.2.1.length + 1 := by simpa using hi
            show ((mA mm 23).set S.2.2.2.2.2.1.length q).getD i 0 = _
            rw [gd_set, hM.2.2]
            by_cases z : S.2.2.2.2.2.1.length = i
            · rw [if_pos ⟨z, hf⟩, List.getD_eq_getElem?_getD, List.getElem?_append_right (by omega), z, Nat.sub_self]; rfl
            · rw [if_neg (fun w => z w.1), hQ.2.2.2 i (by omega), List.getD_eq_getElem?_getD, List.getD_eq_getElem?_getD, List.getElem?_append_left (by omega)]
          · intro i hi
            have hi : i < S.2.2.2.2.2.1.length + 1 := by simpa using hi
            show -9999 ≤ ((S.2.2.2.2.2.1 ++ [q]).getD i 0).toInt ∧ ((S.2.2.2.2.2.1 ++ [q]).getD i 0).toInt ≤ 9999
            by_cases z : S.2.2.2.2.2.1.length = i
            · have e9 : (-9999 : Int32).toInt = -9999 := by decide
              have e8 : (9999 : Int32).toInt = 9999 := by decide
              have eq : (S.2.2.2.2.2.1 ++ [q]).getD i 0 = q := by rw [List.getD_eq_getElem?_getD, List.getElem?_append_right (by omega), z, Nat.sub_self]; rfl
              rw [eq]
              rw [Int32.lt_iff_toInt_lt] at q0
              rw [Int32.le_iff_toInt_le] at q1
              omega
            · have eq : (S.2.2.2.2.2.1 ++ [q]).getD i 0 = S.2.2.2.2.2.1.getD i 0 := by rw [List.getD_eq_getElem?_getD, List.getD_eq_getElem?_getD, List.getElem?_append_left (by omega)]
              rw [eq]; exact hO.2.2.2.2.2.2 i (by omega)
        · rw [if_neg (show ¬ nI S.2.2.2.2.2.1.length < (12 : Int32) from (nI_nlt (by omega) (by omega) : ¬ nI S.2.2.2.2.2.1.length < nI 12)), if_pos (show nI S.2.2.2.2.2.1.length = (12 : Int32) from (congrArg nI (show S.2.2.2.2.2.1.length = 12 by omega) : nI S.2.2.2.2.2.1.length = nI 12))]
          exact ⟨_, mx, mm, rfl, rfl, h⟩
      · rw [if_neg q1, if_pos (show (9999 : Int32) < q by rw [Int32.lt_iff_toInt_lt]; rw [Int32.le_iff_toInt_le] at q1; omega)]; exact ⟨_, mx, mm, rfl, rfl, h⟩
end OPS1
end
-- 22e.tapes.lean.txt
section
/-! TAPES -/
section TAPES
variable {mx mm : mM}
theorem tp_tb {t : Nat} (ht : t < 6) : gT [82, 84, 86, 88, 90, 92] (nI t) = some (82 + 2 * t) ∧ isC true 3 (82 + 2 * t) = true := by
  match t, ht with
  | 0, _ => exact ⟨rfl, rfl⟩
  | 1, _ => exact ⟨rfl, rfl⟩
  | 2, _ => exact ⟨rfl, rfl⟩
  | 3, _ => exact ⟨rfl, rfl⟩
  | 4, _ => exact ⟨rfl, rfl⟩
  | 5, _ => exact ⟨rfl, rfl⟩
theorem nIp {s : Nat} (hs : s ≤ 5) : (nI s - 1 = -1 ↔ s = 0) ∧ (nI s - 1 < 0 ↔ s = 0) ∧ (0 ≤ nI s - 1 ↔ s ≠ 0) := by
  match s, hs with
  | 0, _ => decide
  | 1, _ => decide
  | 2, _ => decide
  | 3, _ => decide
  | 4, _ => decide
  | 5, _ => decide
theorem lt_l {l : Nat} {q : Int32} (hl : l < 2 ^ 31) (q0 : ¬ q < 0) : (q < nI l ↔ inR l q = true) := lt_inR rfl hl q0
theorem op_read (h : RR mx mm) (p q : Int32) : OPe (f_X6_read mx p q) (f_X7_read mm p q) := by
  obtain ⟨W, S, hN, hO, hK, hC, hC2, hT, hW, hA, hP⟩ := id h
  obtain ⟨g1, g2, g3, g4, g5⟩ := hP
  unfold f_X6_read f_X7_read
  rw [op_isTape, op7_isTape, bnd_some, bnd_some]
  cases hb : inR 6 p with
  | false => exact ⟨_, mx, mm, rfl, rfl, h⟩
  | true =>
    obtain ⟨t, ht, rfl⟩ := inR_t (by decide) hb
    obtain ⟨s, l, hs, hl, hz, e1, e2, e3, e4, e5, e6⟩ := g5 t ht
    rw [zB_t, if_neg i0, if_neg i0, (tp_tb ht).1, Option.bind_some, chR_t (tp_tb ht).2, e3, gA_at (by rw [g1]; omega) (by omega), Option.bind_some, e2, gA_at (by rw [g2]; omega) (by omega), Option.bind_some, e4, op_in (in_pred (n := l) (by omega)), bnd_some]
    by_cases q0 : q < 0
    · rw [if_pos q0, inR_low q0]
      by_cases hs0 : nI s - 1 < 0
      · rw [if_pos hs0]; exact ⟨_, mx, mm, rfl, rfl, h⟩
      · rw [if_neg hs0]; exact ⟨_, mx, mm, rfl, rfl, h⟩
    · rw [if_neg q0]
      have hlt := lt_l (l := l) (q := q) (by omega) q0
      cases hq : inR l q with
      | false =>
        rw [if_neg (fun z => by rw [hlt.mp z] at hq; cases hq)]
        by_cases hs0 : nI s - 1 < 0
        · rw [if_pos hs0]; exact ⟨_, mx, mm, rfl, rfl, h⟩
        · rw [if_neg hs0]; exact ⟨_, mx, mm, rfl, rfl, h⟩
      | true =>
        obtain ⟨i, hi, rfl⟩ := inR_t (by omega) hq
        have hs0 : ¬ nI s - 1 < 0 := fun z => by
          have := hz ((nIp hs).2.1.mp z); omega
        rw [if_pos (hlt.mpr hq), if_neg hs0, zB_t, if_neg i0, gL_at (by rw [e5]; omega) (by omega), Option.bind_some, e6 i hi, show (60 : Int32) = nI 60 from rfl, pk_mul, nI_add, gL_at (by rw [g3]; omega) (by omega), Option.bind_some]
        exact ⟨_, mx, mm, rfl, rfl, h⟩
theorem fit_eq {m m' : mM} {a : Nat} {s : Nat} {v : Int64} (hs : s ≤ 5) (e : mI m (64 * a + 0) = nI s - 1) : ∃ r, f_X3_fitted m a v = some (r, m) ∧ f_X7_narrow m' (nI s - 1) v = some (r, m') := by
  unfold f_X3_fitted f_X7_narrow
  rw [nmI_eq, e]
  match s, hs with
  | 0, _ => exact ⟨_, rfl, rfl⟩
  | 1, _ => exact ⟨_, rfl, rfl⟩
  | 2, _ => exact ⟨_, rfl, rfl⟩
  | 3, _ => exact ⟨_, rfl, rfl⟩
  | 4, _ => exact ⟨_, rfl, rfl⟩
  | 5, _ =>
    show ∃ r, (if lg_cmp v 0 = 0 then some (0, m) else some (1, m)) = some (r, m) ∧ (if lg_cmp v 0 = 0 then some (0, m') else some (1, m')) = some (r, m')
    by_cases hv : lg_cmp v 0 = 0
    · rw [if_pos hv, if_pos hv]; exact ⟨_, rfl, rfl⟩
    · rw [if_neg hv, if_neg hv]; exact ⟨_, rfl, rfl⟩
/-- tape t anew, the others as they were -/
theorem R_tap.upd {mx' mm' : mM} {t : Nat} (h : R_tap mx mm) (ht : t < 6) (h1 : TPr mx' mm' t) (hA : ∀ u, u < 6 → u ≠ t → (mI mx' (64 * (82 + 2 * u) + 0) = mI mx (64 * (82 + 2 * u) + 0) ∧ mI mx' (64 * (82 + 2 * u) + 1) = mI mx (64 * (82 + 2 * u) + 1) ∧ mL mx' (82 + 2 * u + 1) = mL mx (82 + 2 * u + 1)) ∧ (mA mm' 33).getD u 0 = (mA mm 33).getD u 0 ∧ (mA mm' 34).getD u 0 = (mA mm 34).getD u 0 ∧ ∀ i, i < 60 → (mL mm' 35).getD (60 * u + i) 0 = (mL mm 35).getD (60 * u + i) 0) (hl : (mA mm' 33).length = 6 ∧ (mA mm' 34).length = 6 ∧ (mL mm' 35).length = 360 ∧ (mL mm' 36).length = 60) : R_tap mx' mm' := by
  refine ⟨hl.1, hl.2.1, hl.2.2.1, hl.2.2.2, fun u hu => ?_⟩
  by_cases e : u = t
  · subst e; exact h1
  · obtain ⟨s, l, a1, a2, a3, a4, a5, a6, a7, a8, a9⟩ := h.2.2.2.2 u hu
    obtain ⟨⟨b1, b2, b3⟩, b4, b5, b6⟩ := hA u hu e
    exact ⟨s, l, a1, a2, a3, by rw [b1]; exact a4, by rw [b4]; exact a5, by rw [b2]; exact a6, by rw [b5]; exact a7, by rw [b3]; exact a8, fun i hi => by rw [b3, b6 i (by omega)]; exact a9 i hi⟩
theorem op_item (h : RR mx mm) (p q : Int32) (v : Int64) : OPe (f_X6_item mx p q v) (f_X7_item mm p q v) := by
  obtain ⟨W, S, hN, hO, hK, hC, hC2, hT, hW, hA, hP⟩ := id h
  obtain ⟨g1, g2, g3, g4, g5⟩ := id hP
  unfold f_X6_item f_X7_item
  rw [op_isTape, op7_isTape, bnd_some, bnd_some]
  cases hb : inR 6 p with
  | false => exact ⟨_, mx, mm, rfl, rfl, h⟩
  | true =>
    obtain ⟨t, ht, rfl⟩ := inR_t (by decide) hb
    obtain ⟨s, l, hs, hl, hz, e1, e2, e3, e4, e5, e6⟩ := g5 t ht
    rw [zB_t, if_neg i0, if_neg i0, (tp_tb ht).1, Option.bind_some, chR_t (tp_tb ht).2, e1, e3, gA_at (by rw [g1]; omega) (by omega), Option.bind_some, e2, gA_at (by rw [g2]; omega) (by omega), Option.bind_some, e4, op_in (in_pred (n := l) (by omega)), bnd_some]
    by_cases hs0 : s = 0
    · rw [if_pos ((nIp hs).1.mpr hs0), if_neg (fun z => (nIp hs).2.2.mp z hs0)]; exact ⟨_, mx, mm, rfl, rfl, h⟩
    · rw [if_neg (fun z => hs0 ((nIp hs).1.mp z)), if_pos ((nIp hs).2.2.mpr hs0)]
      by_cases q0 : q < 0
      · rw [if_pos q0, inR_low q0]; exact ⟨_, mx, mm, rfl, rfl, h⟩
      · rw [if_neg q0]
        have hlt := lt_l (l := l) (q := q) (by omega) q0
        cases hq : inR l q with
        | false => rw [if_neg (fun z => by rw [hlt.mp z] at hq; cases hq)]; exact ⟨_, mx, mm, rfl, rfl, h⟩
        | true =>
          obtain ⟨i, hi, rfl⟩ := inR_t (by omega) hq
          obtain ⟨r, f1, f2⟩ := fit_eq (m := mx) (m' := mm) (a := 82 + 2 * t) (v := v) hs e1
          rw [if_pos (hlt.mpr hq), zB_t, if_neg i0, f1, bnd_some, sL_at (by rw [e5]; omega) (by omega), Option.bind_some, gA_at (by rw [g1]; omega) (by omega), Option.bind_some, e2, f2, bnd_some, show (60 : Int32) = nI 60 from rfl, pk_mul, nI_add, sL_at (by rw [g3]; omega) (by omega), Option.bind_some]
          refine ⟨_, _, _, rfl, rfl, W, S, hN, hO, hK, hC, hC2, hT, hW.fr (fun _ _ => rfl) (fun _ _ => rfl) rfl (fun _ _ => rfl), hA, hP.upd ht ⟨s, l, hs, hl, hz, e1, e2, e3, e4, ?_, fun k hk => ?_⟩ (fun u hu hne => ⟨⟨rfl, rfl, ?_⟩, rfl, rfl, fun k hk => ?_⟩) ⟨g1, g2, ?_, g4⟩⟩
          · rw [mL_wL, if_pos rfl, List.length_set]; exact e5
          · rw [mL_wL, if_pos rfl, mL_wL, if_pos rfl, gd_set, gd_set, e5, g3]
            by_cases hki : i = k
            · subst hki; rw [if_pos ⟨rfl, by omega⟩, if_pos ⟨rfl, by omega⟩]
            · rw [if_neg (fun z => hki z.1), if_neg (fun z => hki (by omega))]; exact e6 k hk
          · rw [mL_wL, if_neg (by omega)]
          · rw [mL_wL, if_pos rfl, gd_ne (by omega)]
          · rw [mL_wL, if_pos rfl, List.length_set]; exact g3
/-- zeros from place a on, k of them -/
def zeroL (xs : List Int64) (a : Nat) : Nat → List Int64
  | 0 => xs
  | k + 1 => (zeroL xs a k).set (a + k) 0
theorem zeroL_len {xs : List Int64} {a : Nat} : ∀ k, (zeroL xs a k).length = xs.length
  | 0 => rfl
  | k + 1 => by rw [zeroL, List.length_set, zeroL_len k]
theorem zeroL_get {xs : List Int64} {a j : Nat} (hl : j < xs.length) : ∀ k, (zeroL xs a k).getD j 0 = if a ≤ j ∧ j < a + k then 0 else xs.getD j 0
  | 0 => by rw [if_neg (by omega)]; rfl
  | k + 1 => by
    rw [zeroL, gd_set, zeroL_len, zeroL_get hl k]
    by_cases e : a + k = j
    · rw [if_pos ⟨e, by omega⟩, if_pos (by omega)]
    · rw [if_neg (fun z => e z.1)]
      by_cases c : a ≤ j ∧ j < a + k
      · rw [if_pos c, if_pos (by omega)]
      · rw [if_neg c, if_neg (by omega)]
theorem wL_wL {m : mM} {c : Nat} {x y : List Int64} : wL (wL m c x) c y = wL m c y := by
  unfold wL
  refine congrArg (fun z => (m.1, m.2.1, z, m.2.2.2)) (funext fun k => ?_)
  by_cases h : k = c
  · simp [h]
  · simp [h]
theorem wL_self {m : mM} {c : Nat} : wL m c (mL m c) = m := by
  unfold wL mL
  refine Prod.ext rfl (Prod.ext rfl (Prod.ext (funext fun k => ?_) rfl))
  show (if k = c then m.2.2.1 c else m.2.2.1 k) = m.2.2.1 k
  by_cases h : k = c
  · subst h; rw [if_pos rfl]
  · rw [if_neg h]
theorem wA_self {m : mM} {c : Nat} : wA m c (mA m c) = m := by
  unfold wA mA
  refine Prod.ext rfl (Prod.ext (funext fun k => ?_) rfl)
  show (if k = c then m.2.1 c else m.2.1 k) = m.2.1 k
  by_cases h : k = c
  · subst h; rw [if_pos rfl]
  · rw [if_neg h]
theorem wA_wA {m : mM} {c : Nat} {x y : List Int32} : wA (wA m c x) c y = wA m c y := by
  unfold wA
  refine congrArg (fun z => (m.1, z, m.2.2)) (funext fun k => ?_)
  by_cases h : k = c
  · simp [h]
  · simp [h]
theorem wI_wI {m : mM} {c : Nat} {x y : Int32} : wI (wI m c x) c y = wI m c y := by
  unfold wI
  refine congrArg (fun z => (z, m.2)) (funext fun k => ?_)
  by_cases h : k = c
  · simp [h]
  · simp [h]
theorem wI_self {m : mM} {c : Nat} : wI m c (mI m c) = m := by
  unfold wI mI
  refine Prod.ext (funext fun k => ?_) rfl
  show (if k = c then m.1 c else m.1 k) = m.1 k
  by_cases h : k = c
  · subst h; rw [if_pos rfl]
  · rw [if_neg h]
theorem zero_lp {R : Type} {m : mM} {c a n : Nat} {E : fR R} {fb : (mM → Int32 → fR R) → mM → Int32 → fR R} {f : Nat → mM → Int32 → fR R} (hf : ∀ F m y, f (F + 1) m y = fb (f F) m y) (hs : ∀ k, k < n → ∀ K xs, xs.length = (mL m c).length → fb K (wL m c xs) (nI k) = K (wL m c (xs.set (a + k) 0)) (nI (k + 1))) (he : ∀ K, fb K (wL m c (zeroL (mL m c) a n)) (nI n) = E) (hn : n < 1000) : f 1000 m 0 = E := by
  have key := lp_up hf (n := n) (G := fun k => wL m c (zeroL (mL m c) a k)) (E := E) (fun k hk K => hs k hk K _ (zeroL_len k)) he n 0 1000 (by omega) (by omega)
  have e0 : wL m c (zeroL (mL m c) a 0) = m := wL_self
  rw [e0] at key
  exact key
theorem become_eq {m : mM} {a : Nat} {s n : Int32} (hl : (mL m (a + 1)).length = 60) : f_X3_become m a s n = some ((), wL (wI (wI m (64 * a + 0) s) (64 * a + 1) n) (a + 1) (zeroL (mL m (a + 1)) 0 60)) := by
  unfold f_X3_become
  rw [nmM_eq, nmM_eq]
  refine zero_lp (f := fun F m y => f_X3_become_12 F m a y) (fb := fun K m y => fb_X3_become_12 (fun m _ y => K m y) m a y) (c := a + 1) (a := 0) (n := 60) (fun _ _ _ => rfl) (fun k hk K xs hx => ?_) (fun K => ?_) (by decide)
  · unfold fb_X3_become_12
    rw [if_neg (show ¬ (60 : Int32) ≤ nI k from (nI_ge hk (by decide) : ¬ nI 60 ≤ nI k)), sL_at (by rw [mL_wL, if_pos rfl, hx]; rw [show mL (wI (wI m (64 * a + 0) s) (64 * a + 1) n) (a + 1) = mL m (a + 1) from rfl, hl]; exact hk) (by omega), Option.bind_some, wL_wL, mL_wL, if_pos rfl, nI_1, Nat.zero_add]
  · unfold fb_X3_become_12
    rw [if_pos (show (60 : Int32) ≤ nI 60 by decide)]; rfl
theorem tape_eq {m : mM} {t : Nat} (ht : t < 6) (hl : (mL m 35).length = 360) : f_X7_tape_69 1000 m (nI t) 0 = some (1, wL m 35 (zeroL (mL m 35) (60 * t) 60)) := by
  refine zero_lp (f := fun F m y => f_X7_tape_69 F m (nI t) y) (fb := fun K m y => fb_X7_tape_69 (fun m _ y => K m y) m (nI t) y) (c := 35) (a := 60 * t) (n := 60) (fun _ _ _ => rfl) (fun k hk K xs hx => ?_) (fun K => ?_) (by decide)
  · unfold fb_X7_tape_69
    rw [if_neg (show ¬ (60 : Int32) ≤ nI k from (nI_ge hk (by decide) : ¬ nI 60 ≤ nI k)), show (60 : Int32) = nI 60 from rfl, pk_mul, nI_add, sL_at (by rw [mL_wL, if_pos rfl, hx, hl]; omega) (by omega), Option.bind_some, wL_wL, mL_wL, if_pos rfl, nI_1]
  · unfold fb_X7_tape_69
    rw [if_pos (show (60 : Int32) ≤ nI 60 by decide)]
theorem sort_in {q : Int32} (h1 : ¬ q = -1) (h2 : ¬ q < 0) (h3 : ¬ 4 < q) : ∃ s, s ≤ 5 ∧ s ≠ 0 ∧ q = nI s - 1 := by
  obtain ⟨j, hj, rfl⟩ := nI_of h2
  refine ⟨j + 1, ?_, by omega, (nI_pred j).symm⟩
  rcases Nat.lt_or_ge 4 j with z | z
  · exact absurd (nI_lt z hj : nI 4 < nI j) h3
  · omega
theorem in_m1 {m : mM} {q : Int32} : f_X7_in m q (-1) 4 = if q = -1 then some (1, m) else if q < 0 then some (0, m) else if 4 < q then some (0, m) else some (1, m) := by
  unfold f_X7_in
  have e1 : (-1 : Int32).toInt = -1 := by decide
  have e0 : (0 : Int32).toInt = 0 := rfl
  have e4 : (4 : Int32).toInt = 4 := rfl
  by_cases c : q = -1
  · subst c; rfl
  · rw [if_neg c]
    have c' : ¬ q.toInt = -1 := fun z => c (Int32.toInt_inj.mp (by rw [z, e1]))
    by_cases d : q < 0
    · rw [if_pos d, if_pos (by rw [Int32.lt_iff_toInt_lt] at d ⊢; omega)]
    · rw [if_neg d, if_neg (by rw [Int32.lt_iff_toInt_lt] at d ⊢; omega)]
theorem op_tape (h : RR mx mm) (p q n : Int32) : OPe (f_X6_tape mx p q n) (f_X7_tape mm p q n) := by
  obtain ⟨W, S, hN, hO, hK, hC, hC2, hT, hW, hA, hP⟩ := id h
  obtain ⟨g1, g2, g3, g4, g5⟩ := id hP
  unfold f_X6_tape f_X7_tape
  rw [op_isTape, op7_isTape, bnd_some, bnd_some]
  cases hb : inR 6 p with
  | false => exact ⟨_, mx, mm, rfl, rfl, h⟩
  | true =>
    obtain ⟨t, ht, rfl⟩ := inR_t (by decide) hb
    obtain ⟨s0, l0, hs, hl, hz, e1, e2, e3, e4, e5, e6⟩ := g5 t ht
    have done : ∀ s l, s ≤ 5 → l ≤ 60 → (s = 0 → l = 0) → RR (wL (wI (wI mx (64 * (82 + 2 * t) + 0) (nI s - 1)) (64 * (82 + 2 * t) + 1) (nI l)) (82 + 2 * t + 1) (zeroL (mL mx (82 + 2 * t + 1)) 0 60)) (wL (wA (wA mm 33 ((mA mm 33).set t (nI s - 1))) 34 ((mA mm 34).set t (nI l))) 35 (zeroL (mL mm 35) (60 * t) 60)) := by
      intro s l hs hl hz
      refine ⟨W, S, ⟨⟨hN.1.1, hN.1.2⟩, ⟨?_, hN.2.1.2⟩, hN.2.2.1, hN.2.2.2⟩, hO, ⟨hK.1, hK.2.1, ?_⟩, hC, hC2, ?_, hW.fr (fun k hk => ?_) (fun _ _ => rfl) rfl (fun c hc => ?_), ?_, ?_⟩
      · obtain ⟨a1, a2, a3, a4, a5⟩ := hN.2.1.1
        refine ⟨?_, ?_, ?_, ?_, a5⟩
        all_goals (rw [mI_wL, mI_wI, if_neg (by omega), mI_wI, if_neg (by omega)]; assumption)
      · obtain ⟨b, b1, b2, b3⟩ := hK.2.2
        refine ⟨b, by rw [mI_wL, mI_wI, if_neg (by omega), mI_wI, if_neg (by omega)]; exact b1, b2, fun z => ?_⟩
        obtain ⟨K, k1, k2, k3⟩ := b3 z
        obtain ⟨a1, a2, a3, a4, a5⟩ := k1.1
        refine ⟨K, ⟨⟨?_, ?_, ?_, ?_, a5⟩, k1.2⟩, k2, k3⟩
        all_goals (rw [mI_wL, mI_wI, if_neg (by omega), mI_wI, if_neg (by omega)]; assumption)
      · obtain ⟨t1, t2, L, ch, t3, t4, t5⟩ := hT
        exact ⟨t1, t2, L, ch, t3, by rw [mI_wL, mI_wI, if_neg (by omega), mI_wI, if_neg (by omega)]; exact t4, t5⟩
      · rw [mI_wL, mI_wI, if_neg (by omega), mI_wI, if_neg (by omega)]
      · rw [mA_wL, mA_wA, if_neg (by omega), mA_wA, if_neg (by omega)]
      · obtain ⟨a1, a2, r, a3, a4, a5⟩ := hA
        exact ⟨a1, a2, r, a3, by rw [mI_wL, mI_wI, if_neg (by omega), mI_wI, if_neg (by omega)]; exact a4, a5⟩
      · refine hP.upd ht ⟨s, l, hs, hl, hz, ?_, ?_, ?_, ?_, ?_, fun i hi => ?_⟩ (fun u hu hne => ⟨⟨?_, ?_, ?_⟩, ?_, ?_, fun i hi => ?_⟩) ⟨?_, ?_, ?_, g4⟩
        · rw [mI_wL, mI_wI, if_neg (by omega), mI_wI, if_pos rfl]
        · rw [mA_wL, mA_wA, if_neg (by omega), mA_wA, if_pos rfl, gd_same (by rw [g1]; exact ht)]
        · rw [mI_wL, mI_wI, if_pos rfl]
        · rw [mA_wL, mA_wA, if_pos rfl, gd_same (by rw [g2]; exact ht)]
        · rw [mL_wL, if_pos rfl, zeroL_len]; exact e5
        · rw [mL_wL, if_pos rfl, mL_wL, if_pos rfl, zeroL_get (by rw [e5]; omega), zeroL_get (by rw [g3]; omega), if_pos (by omega), if_pos (by omega)]
        · rw [mI_wL, mI_wI, if_neg (by omega), mI_wI, if_neg (by omega)]
        · rw [mI_wL, mI_wI, if_neg (by omega), mI_wI, if_neg (by omega)]
        · rw [mL_wL, if_neg (by omega)]; rfl
        · rw [mA_wL, mA_wA, if_neg (by omega), mA_wA, if_pos rfl, gd_ne (fun z => hne z.symm)]
        · rw [mA_wL, mA_wA, if_pos rfl, gd_ne (fun z => hne z.symm)]
        · rw [mL_wL, if_pos rfl, zeroL_get (by rw [g3]; omega), if_neg (by omega)]
        · rw [mA_wL, mA_wA, if_neg (by omega), mA_wA, if_pos rfl, List.length_set]; exact g1
        · rw [mA_wL, mA_wA, if_pos rfl, List.length_set]; exact g2
        · rw [mL_wL, if_pos rfl, zeroL_len]; exact g3
    have m33 : ∀ (v : Int32) (z : Int32), (sA 0 mm 33 (nI t) v).bind (fun m7 => (sA 0 m7 34 (nI t) z).bind fun m8 => f_X7_tape_69 1000 m8 (nI t) 0) = some (1, wL (wA (wA mm 33 ((mA mm 33).set t v)) 34 ((mA mm 34).set t z)) 35 (zeroL (mL mm 35) (60 * t) 60)) := by
      intro v z
      rw [sA_at0 (by rw [g1]; exact ht) (by omega), Option.bind_some, sA_at0 (by rw [mA_wA, if_neg (by decide), g2]; exact ht) (by omega), Option.bind_some]; exact tape_eq ht g3
    rw [zB_t, if_neg i0, if_neg i0, in_m1, (tp_tb ht).1]
    by_cases c1 : q = -1
    · rw [if_pos c1, if_pos c1, bnd_some, if_neg i0, Option.bind_some, chR_t (tp_tb ht).2, become_eq e5, bnd_some]
      subst c1
      rw [if_pos (by decide)]
      unfold f_X7_tape_33 f_X7_tape_44
      rw [if_pos (by decide)]
      rw [show (fun m7 => if (0 : Int32) ≤ -1 then (sA 0 m7 34 (nI t) n).bind fun m8 => f_X7_tape_69 1000 m8 (nI t) 0 else (sA 0 m7 34 (nI t) 0).bind fun m10 => f_X7_tape_69 1000 m10 (nI t) 0) = (fun m7 => (sA 0 m7 34 (nI t) 0).bind fun m8 => f_X7_tape_69 1000 m8 (nI t) 0) from funext fun _ => if_neg (by decide), m33]
      exact ⟨_, _, _, rfl, rfl, done 0 0 (by decide) (by decide) (fun _ => rfl)⟩
    · rw [if_neg c1, if_neg c1]
      by_cases c2 : q < 0
      · rw [if_pos c2, if_pos c2]; exact ⟨_, mx, mm, rfl, rfl, h⟩
      · rw [if_neg c2, if_neg c2]
        by_cases c3 : 4 < q
        · rw [if_pos c3, if_pos c3]; exact ⟨_, mx, mm, rfl, rfl, h⟩
        · rw [if_neg c3, if_neg c3, bnd_some, if_neg i0, if_neg c2]
          obtain ⟨s, hs5, hs0, rfl⟩ := sort_in c1 c2 c3
          by_cases c4 : n ≤ 60
          · rw [if_pos c4, if_pos c4]
            unfold f_X7_tape_33 f_X7_tape_44
            rw [if_neg c2]
            by_cases c5 : 0 ≤ n
            · rw [if_pos c5, if_pos c5, Option.bind_some, chR_t (tp_tb ht).2, become_eq e5, bnd_some]
              rw [show (fun m7 => if (0 : Int32) ≤ nI s - 1 then (sA 0 m7 34 (nI t) n).bind fun m8 => f_X7_tape_69 1000 m8 (nI t) 0 else (sA 0 m7 34 (nI t) 0).bind fun m10 => f_X7_tape_69 1000 m10 (nI t) 0) = (fun m7 => (sA 0 m7 34 (nI t) n).bind fun m8 => f_X7_tape_69 1000 m8 (nI t) 0) from funext fun _ => if_pos ((nIp hs5).2.2.mpr hs0), m33]
              obtain ⟨l, hl60, rfl⟩ := nI_of2 (n := 60) (M := 60) (by decide) (fun z => by rw [Int32.lt_iff_toInt_lt] at z; rw [Int32.le_iff_toInt_le] at c5; omega) c4
              exact ⟨_, _, _, rfl, rfl, done s l hs5 hl60 (fun z => absurd z hs0)⟩
            · rw [if_neg c5, if_neg c5]; exact ⟨_, mx, mm, rfl, rfl, h⟩
          · rw [if_neg c4, if_neg c4]; exact ⟨_, mx, mm, rfl, rfl, h⟩
end TAPES
end
-- 22f.copy.lean.txt
section
/-! COPIES: the image, what is undone, shifts of tapes -/
section COPIES
variable {mx mm : mM}
/-- k items from s on, laid from d on -/
def cpS {α : Type} (z : α) (src : List α) (s d : Nat) (ys : List α) : Nat → List α
  | 0 => ys
  | k + 1 => (cpS z src s d ys k).set (d + k) (src.getD (s + k) z)
theorem cpS_len {α : Type} {z : α} {src ys : List α} {s d : Nat} : ∀ k, (cpS z src s d ys k).length = ys.length
  | 0 => rfl
  | k + 1 => by rw [cpS, List.length_set, cpS_len k]
theorem cpS_get {α : Type} {z : α} {src ys : List α} {s d j : Nat} (hl : j < ys.length) : ∀ k, (cpS z src s d ys k).getD j z = if d ≤ j ∧ j < d + k then src.getD (s + (j - d)) z else ys.getD j z
  | 0 => by rw [if_neg (by omega)]; rfl
  | k + 1 => by
    rw [cpS, gd_set, cpS_len, cpS_get hl k]
    by_cases e : d + k = j
    · rw [if_pos ⟨e, by omega⟩, if_pos (by omega), show s + (j - d) = s + k by omega]
    · rw [if_neg (fun w => e w.1)]
      by_cases c : d ≤ j ∧ j < d + k
      · rw [if_pos c, if_pos (by omega)]
      · rw [if_neg c, if_neg (by omega)]
theorem gd_ext {α : Type} {z : α} {xs ys : List α} (hl : xs.length = ys.length) (h : ∀ i, i < xs.length → xs.getD i z = ys.getD i z) : xs = ys := by
  apply List.ext_getElem hl
  intro i h1 h2
  have := h i h1
  rw [List.getD_eq_getElem?_getD, List.getD_eq_getElem?_getD, List.getElem?_eq_getElem h1, List.getElem?_eq_getElem h2] at this
  exact this
theorem cpS_all {α : Type} {z : α} {src ys : List α} {n : Nat} (h1 : src.length = n) (h2 : ys.length = n) : cpS z src 0 0 ys n = src := by
  refine gd_ext (z := z) (by rw [cpS_len, h1, h2]) (fun i hi => ?_)
  rw [cpS_len, h2] at hi
  rw [cpS_get (by omega), if_pos (by omega), Nat.zero_add, Nat.sub_zero]
theorem jcpy_all {xs ys : List Int32} {n : Nat} (h1 : xs.length = n) (h2 : ys.length = n) : jcpy xs ys 0 0 n = xs := by
  refine gd_ext (z := 0) (by simp [jcpy, h1, h2]) (fun i hi => ?_)
  have hi : i < n := by simpa [jcpy, h2] using hi
  unfold jcpy
  rw [List.getD_eq_getElem?_getD, List.getElem?_map, List.getElem?_range (by omega)]
  show (if 0 ≤ i ∧ i < 0 + n then xs.getD (0 + (i - 0)) 0 else ys.getD i 0) = _
  rw [if_pos (by omega), Nat.zero_add, Nat.sub_zero]
theorem cpA_all {m : mM} {a b n : Nat} (ha : (mA m a).length = n) (hb : (mA m b).length = n) (hn : n < 2 ^ 31) : cpA m a 0 b 0 (nI n) = some (wA m b (mA m a)) := by
  unfold cpA
  have e0 : (0 : Int32).toNatClampNeg = 0 := rfl
  rw [nI_clamp hn, e0, if_pos ⟨by decide, by decide, nI_pos hn, by omega, by omega⟩, jcpy_all ha hb]
theorem copy_lp {m : mM} {a b : Nat} (ha : (mA m (b + 6)).length = 7) (hb : (mA m (a + 6)).length = 7) (hne : a ≠ b) (h01 : ∀ p, p < 7 → (mA m (b + 6)).getD p 0 = 0 ∨ (mA m (b + 6)).getD p 0 = 1) : f_X2_copy_147 1000 m a b 0 = some ((), wA m (a + 6) (mA m (b + 6))) := by
  have key := lp_up (f := fun F m y => f_X2_copy_147 F m a b y) (fb := fun K m y => fb_X2_copy_147 (fun m _ _ y => K m y) m a b y) (fun _ _ _ => rfl) (n := 7) (G := fun k => wA m (a + 6) (cpS 0 (mA m (b + 6)) 0 0 (mA m (a + 6)) k)) (E := some ((), wA m (a + 6) (mA m (b + 6)))) (fun k hk K => ?_) (fun K => ?_) 7 0 1000 (by omega) (by omega)
  · have e0 : wA m (a + 6) (cpS 0 (mA m (b + 6)) 0 0 (mA m (a + 6)) 0) = m := wA_self
    simp only [e0] at key
    exact key
  · show fb_X2_copy_147 _ _ _ _ _ = _
    unfold fb_X2_copy_147
    rw [if_neg (show ¬ (7 : Int32) ≤ nI k from (nI_ge hk (by decide) : ¬ nI 7 ≤ nI k)), mA_wA, if_neg (by omega), gA_at (by rw [ha]; exact hk) (by omega), Option.bind_some, sA_at3 (by rw [mA_wA, if_pos rfl, cpS_len, hb]; exact hk) (by omega) (h01 k hk), Option.bind_some, wA_wA, mA_wA, if_pos rfl, nI_1, cpS, Nat.zero_add]
  · show fb_X2_copy_147 _ _ _ _ _ = _
    unfold fb_X2_copy_147
    rw [if_pos (show (7 : Int32) ≤ nI 7 by decide), cpS_all ha hb]
/-- what a copy of a state is -/
def cpM (m : mM) (a b : Nat) : mM := wA (wA (wA (wA (wA (wA (wA (wA (wR (wI (wI (wI (wI m (64 * a + 0) (mI m (64 * b + 0))) (64 * a + 1) (mI m (64 * b + 1))) (64 * a + 2) (mI m (64 * b + 2))) (64 * a + 3) (mI m (64 * b + 3))) (64 * a + 4) (mR m (64 * b + 4))) (a + 1) (mA m (b + 1))) (a + 2) (mA m (b + 2))) (a + 3) (mA m (b + 3))) (a + 4) (mA m (b + 4))) (a + 5) (mA m (b + 5))) (a + 7) (mA m (b + 7))) (a + 8) (mA m (b + 8))) (a + 6) (mA m (b + 6))
theorem copy_eq {m : mM} {a b : Nat} (hab : a + 9 ≤ b ∨ b + 9 ≤ a) (hA : XSh m a) (hB : XSh m b) (hT : isC true 5 (mR m (64 * b + 4)) = true) : f_X2_copy m a b = some ((), cpM m a b) := by
  obtain ⟨⟨a1, a2, a3, a4, a6, a7, -⟩, a5, a8⟩ := hA
  obtain ⟨⟨b1, b2, b3, b4, b6, b7, h01⟩, b5, b8⟩ := hB
  unfold f_X2_copy
  rw [nmM_eq, nmM_eq, nmM_eq, nmM_eq]
  rw [mI_wI, if_neg (by omega), mI_wI, if_neg (by omega), mI_wI, if_neg (by omega), mI_wI, if_neg (by omega), mI_wI, if_neg (by omega), mI_wI, if_neg (by omega), mR_wI, mR_wI, mR_wI, mR_wI, chR_t hT, nmM_eq]
  obtain ⟨m6, h6, eA⟩ : ∃ m6, m6 = wR (wI (wI (wI (wI m (64 * a + 0) (mI m (64 * b + 0))) (64 * a + 1) (mI m (64 * b + 1))) (64 * a + 2) (mI m (64 * b + 2))) (64 * a + 3) (mI m (64 * b + 3))) (64 * a + 4) (mR m (64 * b + 4)) ∧ ∀ c, mA m6 c = mA m c := ⟨_, rfl, fun _ => rfl⟩
  rw [← h6]
  rw [← eA] at a1 a2 a3 a4 a5 a6 a7 a8 b1 b2 b3 b4 b5 b6 b7 b8 h01
  rw [show (7 : Int32) = nI 7 from rfl, show (28 : Int32) = nI 28 from rfl, show (12 : Int32) = nI 12 from rfl]
  rw [cpA_all (n := 7) b1 a1 (by decide), Option.bind_some]
  rw [cpA_all (n := 7) (by rw [mA_wA, if_neg (by omega)]; exact b2) (by rw [mA_wA, if_neg (by omega)]; exact a2) (by decide), Option.bind_some, mA_wA, if_neg (by omega)]
  rw [cpA_all (n := 7) (by rw [mA_wA, if_neg (by omega), mA_wA, if_neg (by omega)]; exact b3) (by rw [mA_wA, if_neg (by omega), mA_wA, if_neg (by omega)]; exact a3) (by decide), Option.bind_some, mA_wA, if_neg (by omega), mA_wA, if_neg (by omega)]
  rw [cpA_all (n := 7) (by rw [mA_wA, if_neg (by omega), mA_wA, if_neg (by omega), mA_wA, if_neg (by omega)]; exact b4) (by rw [mA_wA, if_neg (by omega), mA_wA, if_neg (by omega), mA_wA, if_neg (by omega)]; exact a4) (by decide), Option.bind_some, mA_wA, if_neg (by omega), mA_wA, if_neg (by omega), mA_wA, if_neg (by omega)]
  rw [cpA_all (n := 7) (by rw [mA_wA, if_neg (by omega), mA_wA, if_neg (by omega), mA_wA, if_neg (by omega), mA_wA, if_neg (by omega)]; exact b5) (by rw [mA_wA, if_neg (by omega), mA_wA, if_neg (by omega), mA_wA, if_neg (by omega), mA_wA, if_neg (by omega)]; exact a5) (by decide), Option.bind_some, mA_wA, if_neg (by omega), mA_wA, if_neg (by omega), mA_wA, if_neg (by omega), mA_wA, if_neg (by omega)]
  rw [cpA_all (n := 28) (by rw [mA_wA, if_neg (by omega), mA_wA, if_neg (by omega), mA_wA, if_neg (by omega), mA_wA, if_neg (by omega), mA_wA, if_neg (by omega)]; exact b7) (by rw [mA_wA, if_neg (by omega), mA_wA, if_neg (by omega), mA_wA, if_neg (by omega), mA_wA, if_neg (by omega), mA_wA, if_neg (by omega)]; exact a7) (by decide), Option.bind_some, mA_wA, if_neg (by omega), mA_wA, if_neg (by omega), mA_wA, if_neg (by omega), mA_wA, if_neg (by omega), mA_wA, if_neg (by omega)]
  rw [cpA_all (n := 12) (by rw [mA_wA, if_neg (by omega), mA_wA, if_neg (by omega), mA_wA, if_neg (by omega), mA_wA, if_neg (by omega), mA_wA, if_neg (by omega), mA_wA, if_neg (by omega)]; exact b8) (by rw [mA_wA, if_neg (by omega), mA_wA, if_neg (by omega), mA_wA, if_neg (by omega), mA_wA, if_neg (by omega), mA_wA, if_neg (by omega), mA_wA, if_neg (by omega)]; exact a8) (by decide), Option.bind_some, mA_wA, if_neg (by omega), mA_wA, if_neg (by omega), mA_wA, if_neg (by omega), mA_wA, if_neg (by omega), mA_wA, if_neg (by omega), mA_wA, if_neg (by omega)]
  have e6 : ∀ c, c = a + 6 ∨ c = b + 6 → ∀ l1 l2 l3 l4 l5 l7 l8 (m' : mM), mA (wA (wA (wA (wA (wA (wA (wA m' (a + 1) l1) (a + 2) l2) (a + 3) l3) (a + 4) l4) (a + 5) l5) (a + 7) l7) (a + 8) l8) c = mA m' c := by
    intro c hc l1 l2 l3 l4 l5 l7 l8 m'
    rw [mA_wA, if_neg (by omega), mA_wA, if_neg (by omega), mA_wA, if_neg (by omega), mA_wA, if_neg (by omega), mA_wA, if_neg (by omega), mA_wA, if_neg (by omega), mA_wA, if_neg (by omega)]
  rw [copy_lp (by rw [e6 _ (Or.inr rfl)]; exact b6) (by rw [e6 _ (Or.inl rfl)]; exact a6) (by omega) (by rw [e6 _ (Or.inr rfl)]; exact h01), e6 _ (Or.inr rfl)]
  subst h6
  rfl
end COPIES
end
-- 22g.image.lean.txt
section
/-! THE IMAGE, and back -/
section IMAGE
variable {mx mm : mM}
theorem mA_ne {m : mM} {c k : Nat} {v : List Int32} (h : k ≠ c) : mA (wA m c v) k = mA m k := if_neg h
theorem mA_eq {m : mM} {c : Nat} {v : List Int32} : mA (wA m c v) c = v := if_pos rfl
theorem lp_inv {R : Type} {fb : (mM → Int32 → fR R) → mM → Int32 → fR R} {f : Nat → mM → Int32 → fR R} (hf : ∀ F m y, f (F + 1) m y = fb (f F) m y) {n : Nat} {I : Nat → mM → Prop} {Q : fR R → Prop} (hs : ∀ k m, k < n → I k m → ∃ m', I (k + 1) m' ∧ ∀ K, fb K m (nI k) = K m' (nI (k + 1))) (he : ∀ m, I n m → ∀ K, Q (fb K m (nI n))) : ∀ (j k F : Nat) (m : mM), k + j = n → j < F → I k m → Q (f F m (nI k)) := by
  intro j
  induction j with
  | zero =>
    intro k F m hk hF hI
    obtain ⟨F', rfl⟩ : ∃ F', F = F' + 1 := ⟨F - 1, by omega⟩
    obtain rfl : k = n := by omega
    rw [hf]; exact he m hI _
  | succ j ih =>
    intro k F m hk hF hI
    obtain ⟨F', rfl⟩ : ∃ F', F = F' + 1 := ⟨F - 1, by omega⟩
    obtain ⟨m', h1, h2⟩ := hs k m (by omega) hI
    rw [hf, h2]
    exact ih (k + 1) F' m' (by omega) (by omega) h1
theorem cp1 {R : Type} {m : mM} {a b k : Nat} {F : mM → fR R} (ha : k < (mA m a).length) (hb : k < (mA m b).length) (hk : k < 2 ^ 31) : (gA (mA m a) (nI k)).bind (fun x => (sA 0 m b (nI k) x).bind F) = F (wA m b ((mA m b).set k ((mA m a).getD k 0))) := by
  rw [gA_at ha hk, Option.bind_some, sA_at0 hb hk, Option.bind_some]
theorem cp3 {R : Type} {m : mM} {a b k : Nat} {F : mM → fR R} (ha : k < (mA m a).length) (hb : k < (mA m b).length) (hk : k < 2 ^ 31) (hx : (mA m a).getD k 0 = 0 ∨ (mA m a).getD k 0 = 1) : (gA (mA m a) (nI k)).bind (fun x => (sA 3 m b (nI k) x).bind F) = F (wA m b ((mA m b).set k ((mA m a).getD k 0))) := by
  rw [gA_at ha hk, Option.bind_some, sA_at3 hb hk hx, Option.bind_some]
/-- k items of row a of m0 lie in row b of m -/
def cpd (m0 m : mM) (a b k : Nat) : Prop := mA m b = cpS 0 (mA m0 a) 0 0 (mA m0 b) k
/-- arrays but those are as they were, all else too -/
def sameBut (cs : List Nat) (m0 m : mM) : Prop := m.1 = m0.1 ∧ m.2.2 = m0.2.2 ∧ ∀ c, c ∉ cs → mA m c = mA m0 c
theorem cpS_s {α : Type} {z : α} {src ys : List α} {k : Nat} : (cpS z src 0 0 ys k).set k (src.getD k z) = cpS z src 0 0 ys (k + 1) := by
  rw [cpS, Nat.zero_add]
theorem cp1c {R : Type} {m m0 : mM} {a b k : Nat} {F : mM → fR R} (e1 : mA m a = mA m0 a) (e2 : mA m b = cpS 0 (mA m0 a) 0 0 (mA m0 b) k) (ha : k < (mA m0 a).length) (hb : k < (mA m0 b).length) (hk : k < 2 ^ 31) : (gA (mA m a) (nI k)).bind (fun x => (sA 0 m b (nI k) x).bind F) = F (wA m b (cpS 0 (mA m0 a) 0 0 (mA m0 b) (k + 1))) := by
  rw [cp1 (by rw [e1]; exact ha) (by rw [e2, cpS_len]; exact hb) hk, e1, e2, cpS_s]
theorem cp3c {R : Type} {m m0 : mM} {a b k : Nat} {F : mM → fR R} (e1 : mA m a = mA m0 a) (e2 : mA m b = cpS 0 (mA m0 a) 0 0 (mA m0 b) k) (ha : k < (mA m0 a).length) (hb : k < (mA m0 b).length) (hk : k < 2 ^ 31) (hx : (mA m0 a).getD k 0 = 0 ∨ (mA m0 a).getD k 0 = 1) : (gA (mA m a) (nI k)).bind (fun x => (sA 3 m b (nI k) x).bind F) = F (wA m b (cpS 0 (mA m0 a) 0 0 (mA m0 b) (k + 1))) := by
  rw [cp3 (by rw [e1]; exact ha) (by rw [e2, cpS_len]; exact hb) hk (by rw [e1]; exact hx), e1, e2, cpS_s]
set_option maxHeartbeats 1000000 in
theorem img_loop1 {m0 : mM} {Q : fR Int32 → Prop} (h : MSh m0) (h2 : MKh m0) (he : ∀ m, sameBut [24, 25, 26, 27, 28, 31] m0 m → mA m 24 = mA m0 1 → mA m 25 = mA m0 2 → mA m 26 = mA m0 3 → mA m 27 = mA m0 4 → mA m 28 = mA m0 5 → mA m 31 = mA m0 7 → Q (f_X7_image_133 1000 m 0)) : Q (f_X7_image_47 1000 m0 0) := by
  obtain ⟨⟨a1, a2, a3, a4, a7, a6, h01⟩, a5, a23⟩ := h
  obtain ⟨⟨k1, k2, k3, k4, k7, k6, -⟩, k5, k23⟩ := h2
  refine lp_inv (fun _ _ _ => rfl) (n := 7) (I := fun k m => sameBut [24, 25, 26, 27, 28, 31] m0 m ∧ cpd m0 m 1 24 k ∧ cpd m0 m 2 25 k ∧ cpd m0 m 3 26 k ∧ cpd m0 m 4 27 k ∧ cpd m0 m 5 28 k ∧ cpd m0 m 7 31 k) (fun k m hk hI => ?_) (fun m hI K => ?_) 7 0 1000 m0 (by omega) (by omega) ⟨⟨rfl, rfl, fun _ _ => rfl⟩, rfl, rfl, rfl, rfl, rfl, rfl⟩
  · obtain ⟨⟨s1, s2, s3⟩, c1, c2, c3, c4, c5, c7⟩ := hI
    have e1 := s3 1 (by decide); have e2 := s3 2 (by decide); have e3 := s3 3 (by decide); have e4 := s3 4 (by decide); have e5 := s3 5 (by decide); have e7 := s3 7 (by decide)
    refine ⟨wA (wA (wA (wA (wA (wA m 24 (cpS 0 (mA m0 1) 0 0 (mA m0 24) (k + 1))) 25 (cpS 0 (mA m0 2) 0 0 (mA m0 25) (k + 1))) 26 (cpS 0 (mA m0 3) 0 0 (mA m0 26) (k + 1))) 27 (cpS 0 (mA m0 4) 0 0 (mA m0 27) (k + 1))) 28 (cpS 0 (mA m0 5) 0 0 (mA m0 28) (k + 1))) 31 (cpS 0 (mA m0 7) 0 0 (mA m0 31) (k + 1)), ⟨⟨s1, s2, fun c hc => ?_⟩, rfl, rfl, rfl, rfl, rfl, rfl⟩, fun K => ?_⟩
    · simp only [List.mem_cons, List.not_mem_nil, or_false, not_or] at hc
      rw [mA_ne (by omega), mA_ne (by omega), mA_ne (by omega), mA_ne (by omega), mA_ne (by omega), mA_ne (by omega)]
      exact s3 c (by simp; omega)
    · unfold fb_X7_image_47
      rw [if_neg (show ¬ (7 : Int32) ≤ nI k from (nI_ge hk (by decide) : ¬ nI 7 ≤ nI k))]
      rw [cp1c (m0 := m0) e1 c1 (by omega) (by omega) (by omega)]
      rw [cp1c (m0 := m0) (by repeat rw [mA_ne (by decide)]
                              exact e2) (by repeat rw [mA_ne (by decide)]
                                            exact c2) (by omega) (by omega) (by omega)]
      rw [cp1c (m0 := m0) (by repeat rw [mA_ne (by decide)]
                              exact e3) (by repeat rw [mA_ne (by decide)]
                                            exact c3) (by omega) (by omega) (by omega)]
      rw [cp1c (m0 := m0) (by repeat rw [mA_ne (by decide)]
                              exact e4) (by repeat rw [mA_ne (by decide)]
                                            exact c4) (by omega) (by omega) (by omega)]
      rw [cp1c (m0 := m0) (by repeat rw [mA_ne (by decide)]
                              exact e5) (by repeat rw [mA_ne (by decide)]
                                            exact c5) (by omega) (by omega) (by omega)]
      rw [cp3c (m0 := m0) (by repeat rw [mA_ne (by decide)]
                              exact e7) (by repeat rw [mA_ne (by decide)]
                                            exact c7) (by omega) (by omega) (by omega) (h01 k hk), nI_1]
  · obtain ⟨s, c1, c2, c3, c4, c5, c7⟩ := hI
    unfold fb_X7_image_47
    rw [if_pos (show (7 : Int32) ≤ nI 7 by decide)]
    exact he m s (c1.trans (cpS_all a1 k1)) (c2.trans (cpS_all a2 k2)) (c3.trans (cpS_all a3 k3)) (c4.trans (cpS_all a4 k4)) (c5.trans (cpS_all a5 k5)) (c7.trans (cpS_all a7 k7))
set_option maxHeartbeats 1000000 in
theorem und_loop1 {m0 : mM} {Q : fR Int32 → Prop} (h2 : MSh m0) (h : MKh m0) (he : ∀ m, sameBut [1, 2, 3, 4, 5, 7] m0 m → mA m 1 = mA m0 24 → mA m 2 = mA m0 25 → mA m 3 = mA m0 26 → mA m 4 = mA m0 27 → mA m 5 = mA m0 28 → mA m 7 = mA m0 31 → Q (f_X7_undo_138 1000 m 0)) : Q (f_X7_undo_52 1000 m0 0) := by
  obtain ⟨⟨a1, a2, a3, a4, a7, a6, h01⟩, a5, a23⟩ := h
  obtain ⟨⟨k1, k2, k3, k4, k7, k6, -⟩, k5, k23⟩ := h2
  refine lp_inv (fun _ _ _ => rfl) (n := 7) (I := fun k m => sameBut [1, 2, 3, 4, 5, 7] m0 m ∧ cpd m0 m 24 1 k ∧ cpd m0 m 25 2 k ∧ cpd m0 m 26 3 k ∧ cpd m0 m 27 4 k ∧ cpd m0 m 28 5 k ∧ cpd m0 m 31 7 k) (fun k m hk hI => ?_) (fun m hI K => ?_) 7 0 1000 m0 (by omega) (by omega) ⟨⟨rfl, rfl, fun _ _ => rfl⟩, rfl, rfl, rfl, rfl, rfl, rfl⟩
  · obtain ⟨⟨s1, s2, s3⟩, c1, c2, c3, c4, c5, c7⟩ := hI
    have e1 := s3 24 (by decide); have e2 := s3 25 (by decide); have e3 := s3 26 (by decide); have e4 := s3 27 (by decide); have e5 := s3 28 (by decide); have e7 := s3 31 (by decide)
    refine ⟨wA (wA (wA (wA (wA (wA m 1 (cpS 0 (mA m0 24) 0 0 (mA m0 1) (k + 1))) 2 (cpS 0 (mA m0 25) 0 0 (mA m0 2) (k + 1))) 3 (cpS 0 (mA m0 26) 0 0 (mA m0 3) (k + 1))) 4 (cpS 0 (mA m0 27) 0 0 (mA m0 4) (k + 1))) 5 (cpS 0 (mA m0 28) 0 0 (mA m0 5) (k + 1))) 7 (cpS 0 (mA m0 31) 0 0 (mA m0 7) (k + 1)), ⟨⟨s1, s2, fun c hc => ?_⟩, rfl, rfl, rfl, rfl, rfl, rfl⟩, fun K => ?_⟩
    · simp only [List.mem_cons, List.not_mem_nil, or_false, not_or] at hc
      rw [mA_ne (by omega), mA_ne (by omega), mA_ne (by omega), mA_ne (by omega), mA_ne (by omega), mA_ne (by omega)]
      exact s3 c (by simp; omega)
    · unfold fb_X7_undo_52
      rw [if_neg (show ¬ (7 : Int32) ≤ nI k from (nI_ge hk (by decide) : ¬ nI 7 ≤ nI k))]
      rw [cp1c (m0 := m0) e1 c1 (by omega) (by omega) (by omega)]
      rw [cp1c (m0 := m0) (by repeat rw [mA_ne (by decide)]
                              exact e2) (by repeat rw [mA_ne (by decide)]
                                            exact c2) (by omega) (by omega) (by omega)]
      rw [cp1c (m0 := m0) (by repeat rw [mA_ne (by decide)]
                              exact e3) (by repeat rw [mA_ne (by decide)]
                                            exact c3) (by omega) (by omega) (by omega)]
      rw [cp1c (m0 := m0) (by repeat rw [mA_ne (by decide)]
                              exact e4) (by repeat rw [mA_ne (by decide)]
                                            exact c4) (by omega) (by omega) (by omega)]
      rw [cp1c (m0 := m0) (by repeat rw [mA_ne (by decide)]
                              exact e5) (by repeat rw [mA_ne (by decide)]
                                            exact c5) (by omega) (by omega) (by omega)]
      rw [cp3c (m0 := m0) (by repeat rw [mA_ne (by decide)]
                              exact e7) (by repeat rw [mA_ne (by decide)]
                                            exact c7) (by omega) (by omega) (by omega) (h01 k hk), nI_1]
  · obtain ⟨s, c1, c2, c3, c4, c5, c7⟩ := hI
    unfold fb_X7_undo_52
    rw [if_pos (show (7 : Int32) ≤ nI 7 by decide)]
    exact he m s (c1.trans (cpS_all a1 k1)) (c2.trans (cpS_all a2 k2)) (c3.trans (cpS_all a3 k3)) (c4.trans (cpS_all a4 k4)) (c5.trans (cpS_all a5 k5)) (c7.trans (cpS_all a7 k7))
/-- one row copied -/
theorem cp_row {R : Type} {fb : (mM → Int32 → fR R) → mM → Int32 → fR R} {f : Nat → mM → Int32 → fR R} (hf : ∀ F m y, f (F + 1) m y = fb (f F) m y) {m0 : mM} {a b n : Nat} {E : fR R} (hab : a ≠ b) (ha : (mA m0 a).length = n) (hb : (mA m0 b).length = n) (hn : n < 1000) (hs : ∀ k m, k < n → k < (mA m a).length → k < (mA m b).length → ∀ K, fb K m (nI k) = K (wA m b ((mA m b).set k ((mA m a).getD k 0))) (nI k + 1)) (he : ∀ K, fb K (wA m0 b (mA m0 a)) (nI n) = E) : f 1000 m0 0 = E := by
  have key := lp_up hf (n := n) (G := fun k => wA m0 b (cpS 0 (mA m0 a) 0 0 (mA m0 b) k)) (E := E) (fun k hk K => ?_) (fun K => ?_) n 0 1000 (by omega) (by omega)
  · have e0 : wA m0 b (cpS 0 (mA m0 a) 0 0 (mA m0 b) 0) = m0 := wA_self
    simp only [e0] at key
    exact key
  · rw [hs k _ hk (by rw [mA_ne hab, ha]; exact hk) (by rw [mA_eq, cpS_len, hb]; exact hk), wA_wA, mA_eq, mA_ne hab, nI_1, cpS_s]
  · rw [cpS_all ha hb]; exact he K
def imgI (m0 : mM) : mM := wI (wI (wI (wI (wI (wI m0 40 1) 41 (mI m0 11)) 42 (mI m0 0)) 43 (mI m0 1)) 44 (mI m0 2)) 45 (mI m0 38)
theorem img_eq {m0 : mM} (h : MSh m0) (h2 : MKh m0) : ∃ m', f_X7_image m0 = some (mI m0 0, m') ∧ m'.1 = (imgI m0).1 ∧ m'.2.2 = m0.2.2 ∧ (∀ c, c ∉ [24, 25, 26, 27, 28, 31, 29, 30] → mA m' c = mA m0 c) ∧ mA m' 24 = mA m0 1 ∧ mA m' 25 = mA m0 2 ∧ mA m' 26 = mA m0 3 ∧ mA m' 27 = mA m0 4 ∧ mA m' 28 = mA m0 5 ∧ mA m' 31 = mA m0 7 ∧ mA m' 29 = mA m0 6 ∧ mA m' 30 = mA m0 23 := by
  have e : f_X7_image m0 = f_X7_image_47 1000 (imgI m0) 0 := rfl
  rw [e]
  refine img_loop1 (m0 := imgI m0) (Q := fun e => ∃ m', e = some (mI m0 0, m') ∧ m'.1 = (imgI m0).1 ∧ m'.2.2 = m0.2.2 ∧ (∀ c, c ∉ [24, 25, 26, 27, 28, 31, 29, 30] → mA m' c = mA m0 c) ∧ mA m' 24 = mA m0 1 ∧ mA m' 25 = mA m0 2 ∧ mA m' 26 = mA m0 3 ∧ mA m' 27 = mA m0 4 ∧ mA m' 28 = mA m0 5 ∧ mA m' 31 = mA m0 7 ∧ mA m' 29 = mA m0 6 ∧ mA m' 30 = mA m0 23) h h2 (fun m s c1 c2 c3 c4 c5 c7 => ?_)
  obtain ⟨s1, s2, s3⟩ := s
  have e6 := s3 6 (by decide); have e29 := s3 29 (by decide); have e23 := s3 23 (by decide); have e30 := s3 30 (by decide)
  have q1 : f_X7_image_133 1000 m 0 = f_X7_image_159 1000 (wA m 29 (mA m 6)) 0 := cp_row (fun _ _ _ => rfl) (a := 6) (b := 29) (n := 28) (by decide) (by rw [e6]; exact h.1.2.2.2.2.2.1) (by rw [e29]; exact h2.1.2.2.2.2.2.1) (by decide) (fun k m hk l1 l2 K => by
    unfold fb_X7_image_133
    rw [if_neg (show ¬ (28 : Int32) ≤ nI k from (nI_ge hk (by decide) : ¬ nI 28 ≤ nI k)), cp1 l1 l2 (by omega)]) (fun K => by
    unfold fb_X7_image_133
    rw [if_pos (show (28 : Int32) ≤ nI 28 by decide)])
  have q2 : f_X7_image_159 1000 (wA m 29 (mA m 6)) 0 = some (mI m 0, wA (wA m 29 (mA m 6)) 30 (mA m 23)) := cp_row (fun _ _ _ => rfl) (a := 23) (b := 30) (n := 12) (by decide) (by rw [mA_ne (by decide), e23]; exact h.2.2) (by rw [mA_ne (by decide), e30]; exact h2.2.2) (by decide) (fun k m hk l1 l2 K => by
    unfold fb_X7_image_159
    rw [if_neg (show ¬ (12 : Int32) ≤ nI k from (nI_ge hk (by decide) : ¬ nI 12 ≤ nI k)), cp1 l1 l2 (by omega)]) (fun K => by
    unfold fb_X7_image_159
    rw [if_pos (show (12 : Int32) ≤ nI 12 by decide)]; rfl)
  rw [q1, q2]
  have hi : mI m 0 = mI m0 0 := by show m.1 0 = _; rw [s1]; rfl
  rw [hi]
  refine ⟨_, rfl, s1, s2, fun c hc => ?_, c1, c2, c3, c4, c5, c7, e6, e23⟩
  simp only [List.mem_cons, List.not_mem_nil, or_false, not_or] at hc
  rw [mA_ne (by omega), mA_ne (by omega)]
  exact s3 c (by simp; omega)
def undI (m0 : mM) : mM := wI (wI (wI (wI (wI m0 11 (mI m0 41)) 0 (mI m0 42)) 1 (mI m0 43)) 2 (mI m0 44)) 38 (mI m0 45)
theorem und_eq {m0 : mM} (h : MSh m0) (h2 : MKh m0) (hz : ¬ mI m0 40 = 0) : ∃ m', f_X7_undo m0 = some (mI m0 42, m') ∧ m'.1 = (undI m0).1 ∧ m'.2.2 = m0.2.2 ∧ (∀ c, c ∉ [1, 2, 3, 4, 5, 7, 6, 23] → mA m' c = mA m0 c) ∧ mA m' 1 = mA m0 24 ∧ mA m' 2 = mA m0 25 ∧ mA m' 3 = mA m0 26 ∧ mA m' 4 = mA m0 27 ∧ mA m' 5 = mA m0 28 ∧ mA m' 7 = mA m0 31 ∧ mA m' 6 = mA m0 29 ∧ mA m' 23 = mA m0 30 := by
  have e : f_X7_undo m0 = f_X7_undo_52 1000 (undI m0) 0 := if_neg hz
  rw [e]
  refine und_loop1 (m0 := undI m0) (Q := fun e => ∃ m', e = some (mI m0 42, m') ∧ m'.1 = (undI m0).1 ∧ m'.2.2 = m0.2.2 ∧ (∀ c, c ∉ [1, 2, 3, 4, 5, 7, 6, 23] → mA m' c = mA m0 c) ∧ mA m' 1 = mA m0 24 ∧ mA m' 2 = mA m0 25 ∧ mA m' 3 = mA m0 26 ∧ mA m' 4 = mA m0 27 ∧ mA m' 5 = mA m0 28 ∧ mA m' 7 = mA m0 31 ∧ mA m' 6 = mA m0 29 ∧ mA m' 23 = mA m0 30) h h2 (fun m s c1 c2 c3 c4 c5 c7 => ?_)
  obtain ⟨s1, s2, s3⟩ := s
  have e6 := s3 6 (by decide); have e29 := s3 29 (by decide); have e23 := s3 23 (by decide); have e30 := s3 30 (by decide)
  have q1 : f_X7_undo_138 1000 m 0 = f_X7_undo_164 1000 (wA m 6 (mA m 29)) 0 := cp_row (fun _ _ _ => rfl) (a := 29) (b := 6) (n := 28) (by decide) (by rw [e29]; exact h2.1.2.2.2.2.2.1) (by rw [e6]; exact h.1.2.2.2.2.2.1) (by decide) (fun k m hk l1 l2 K => by
    unfold fb_X7_undo_138
    rw [if_neg (show ¬ (28 : Int32) ≤ nI k from (nI_ge hk (by decide) : ¬ nI 28 ≤ nI k)), cp1 l1 l2 (by omega)]) (fun K => by
    unfold fb_X7_undo_138
    rw [if_pos (show (28 : Int32) ≤ nI 28 by decide)])
  have q2 : f_X7_undo_164 1000 (wA m 6 (mA m 29)) 0 = some (mI m 0, wA (wA m 6 (mA m 29)) 23 (mA m 30)) := cp_row (fun _ _ _ => rfl) (a := 30) (b := 23) (n := 12) (by decide) (by rw [mA_ne (by decide), e30]; exact h2.2.2) (by rw [mA_ne (by decide), e23]; exact h.2.2) (by decide) (fun k m hk l1 l2 K => by
    unfold fb_X7_undo_164
    rw [if_neg (show ¬ (12 : Int32) ≤ nI k from (nI_ge hk (by decide) : ¬ nI 12 ≤ nI k)), cp1 l1 l2 (by omega)]) (fun K => by
    unfold fb_X7_undo_164
    rw [if_pos (show (12 : Int32) ≤ nI 12 by decide)]; rfl)
  rw [q1, q2]
  have hi : mI m 0 = mI m0 42 := by show m.1 0 = _; rw [s1]; rfl
  rw [hi]
  refine ⟨_, rfl, s1, s2, fun c hc => ?_, c1, c2, c3, c4, c5, c7, e29, e30⟩
  simp only [List.mem_cons, List.not_mem_nil, or_false, not_or] at hc
  rw [mA_ne (by omega), mA_ne (by omega)]
  exact s3 c (by simp; omega)
end IMAGE
end
-- 22h.acts.lean.txt
section
/-! ACTS -/
section ACTS
variable {mx0 mm0 : mM} {i kd vv : Nat}
/-- how far it has run: only the trace has changed -/
def AA (mx0 mm0 : mM) (b : Nat) (mx mm : mM) : Prop := ∃ l l' r, r ≤ b ∧ mx = wI (wA mx0 6 l) 321 (nI r) ∧ mm = wI (wA mm0 32 l') 54 (nI r) ∧ l.length = 20 ∧ l'.length = 20 ∧ ∀ i, i < 20 → i < r → l.getD i 0 = l'.getD i 0
def ARs (mx0 mm0 : mM) (b : Nat) (e1 e2 : fR Int32) : Prop := ∃ v mx mm, e1 = some (v, mx) ∧ e2 = some (v, mm) ∧ AA mx0 mm0 b mx mm
theorem AA.le {b b' : Nat} {mx mm : mM} (hb : b ≤ b') (h : AA mx0 mm0 b mx mm) : AA mx0 mm0 b' mx mm := by
  obtain ⟨l, l', r, hr, h⟩ := h
  exact ⟨l, l', r, by omega, h⟩
theorem ARs.le {b b' : Nat} {e1 e2 : fR Int32} (hb : b ≤ b') (h : ARs mx0 mm0 b e1 e2) : ARs mx0 mm0 b' e1 e2 := by
  obtain ⟨v, mx, mm, h1, h2, h3⟩ := h
  exact ⟨v, mx, mm, h1, h2, h3.le hb⟩
theorem wI_wA {m : mM} {n c : Nat} {v : Int32} {l : List Int32} : wA (wI m n v) c l = wI (wA m c l) n v := rfl
theorem a_run {b : Nat} {mx mm : mM} (hb : b < 900) (h : AA mx0 mm0 b mx mm) (k : Int32) : ∃ mx' mm', f_X0_runs mx k = some ((), mx') ∧ f_X7_body mm k = some ((), mm') ∧ AA mx0 mm0 (b + 1) mx' mm' := by
  obtain ⟨l, l', r, hr, rfl, rfl, h1, h2, h3⟩ := h
  unfold f_X0_runs f_X7_body f_X0_runs_19 f_X7_body_19
  rw [show mI (wI (wA mx0 6 l) 321 (nI r)) 321 = nI r from rfl, show mI (wI (wA mm0 32 l') 54 (nI r)) 54 = nI r from rfl]
  by_cases hc : 20 ≤ r
  · have hc' : (20 : Int32) ≤ nI r := (nI_le hc (by omega) : nI 20 ≤ nI r)
    rw [if_pos hc', if_pos hc', nmM_eq, nmM_eq, nI_1, wI_wI, wI_wI]
    exact ⟨_, _, rfl, rfl, l, l', r + 1, by omega, rfl, rfl, h1, h2, fun i hi hr => h3 i hi (by omega)⟩
  · have hc' : ¬ (20 : Int32) ≤ nI r := (nI_ge (by omega) (by decide) : ¬ nI 20 ≤ nI r)
    rw [if_neg hc', if_neg hc', sA_at0 (show r < (mA (wI (wA mx0 6 l) 321 (nI r)) 6).length by rw [mA_wI, mA_eq, h1]; omega) (by omega), sA_at0 (show r < (mA (wI (wA mm0 32 l') 54 (nI r)) 32).length by rw [mA_wI, mA_eq, h2]; omega) (by omega), Option.bind_some, Option.bind_some, nmM_eq, nmM_eq]
    refine ⟨_, _, rfl, rfl, l.set r k, l'.set r k, r + 1, by omega, ?_, ?_, by rw [List.length_set, h1], by rw [List.length_set, h2], fun i hi hr => ?_⟩
    · rw [mI_wA, mI_wI, if_pos rfl, nI_1, mA_wI, mA_eq, wI_wA, wA_wA, wI_wI]
    · rw [mI_wA, mI_wI, if_pos rfl, nI_1, mA_wI, mA_eq, wI_wA, wA_wA, wI_wI]
    · rw [gd_set, gd_set, h1, h2]
      by_cases e : r = i
      · rw [if_pos ⟨e, by omega⟩, if_pos ⟨e, by omega⟩]
      · rw [if_neg (fun z => e z.1), if_neg (fun z => e z.1)]; exact h3 i hi (by omega)
/-- what an act knows -/
def AK (mx0 mm0 : mM) (i kd vv : Nat) : Prop := i < 7 ∧ kd < 7 ∧ mI mx0 322 = nI kd ∧ mI mx0 323 = nI i ∧ mI mx0 324 = nI vv ∧ (mA mm0 1).length = 7 ∧ (mA mm0 2).length = 7 ∧ (mA mm0 1).getD i 0 = nI kd ∧ (mA mm0 2).getD i 0 = nI vv
theorem AA.x {b : Nat} {mx mm : mM} (hK : AK mx0 mm0 i kd vv) (h : AA mx0 mm0 b mx mm) : mI mx 322 = nI kd ∧ mI mx 323 = nI i ∧ mI mx 324 = nI vv ∧ gA (mA mm 1) (nI i) = some (nI kd) ∧ gA (mA mm 2) (nI i) = some (nI vv) := by
  obtain ⟨l, l', r, hr, rfl, rfl, h1, h2, h3⟩ := h
  obtain ⟨a1, a2, a3, a4, a5, a6, a7, a8, a9⟩ := hK
  refine ⟨a3, a4, a5, ?_, ?_⟩
  · rw [mA_wI, mA_ne (by decide), gA_at (by rw [a6]; exact a1) (by omega), a8]
  · rw [mA_wI, mA_ne (by decide), gA_at (by rw [a7]; exact a1) (by omega), a9]
theorem a_seller {b D : Nat} {mx mm : mM} (hK : AK mx0 mm0 i kd vv) (hb : b < 900) (h : AA mx0 mm0 b mx mm) (from_ x : Int32) (hf : from_ = 0 ∨ from_ = 1 ∨ from_ = 3) : ARs mx0 mm0 (b + 1) (f_X0_sells (D + 1) mx from_ x) (f_X7_sellerSells mm (nI i) x) := by
  obtain ⟨mx', mm', r1, r2, h'⟩ := a_run hb h 10
  have e : f_X0_sells (D + 1) mx from_ x = bnd (f_X0_runs mx 10) (fun _ m => some (x + mI m 323, m)) := by rcases hf with rfl | rfl | rfl <;> rfl
  rw [e, r1, bnd_some]
  unfold f_X7_sellerSells
  rw [r2, bnd_some, (h'.x hK).2.1]
  exact ⟨_, _, _, rfl, rfl, h'⟩
theorem a_sells {b : Nat} {mx mm : mM} (hK : AK mx0 mm0 i kd vv) (hb : b < 800) (h : AA mx0 mm0 b mx mm) (x : Int32) : ARs mx0 mm0 (b + 2) (f_X0_sells 3 mx (nI kd) x) (f_X7_sellsAct mm (nI i) x) := by
  unfold f_X7_sellsAct
  rw [(h.x hK).2.2.2.1, Option.bind_some]
  have hkd := hK.2.1
  match kd, hkd with
  | 0, _ =>
    obtain ⟨v, mx', mm', q1, q2, q3⟩ := a_seller (D := 2) hK (by omega) h 0 x (by simp)
    exact ⟨v, mx', mm', q1, by show bnd (f_X7_sellerSells mm (nI i) x) _ = _; rw [q2]; rfl, q3.le (by omega)⟩
  | 1, _ =>
    obtain ⟨v, mx', mm', q1, q2, q3⟩ := a_seller (D := 2) hK (by omega) h 1 x (by simp)
    exact ⟨v, mx', mm', q1, by show bnd (f_X7_sellerSells mm (nI i) x) _ = _; rw [q2]; rfl, q3.le (by omega)⟩
  | 3, _ =>
    obtain ⟨v, mx', mm', q1, q2, q3⟩ := a_seller (D := 2) hK (by omega) h 3 x (by simp)
    exact ⟨v, mx', mm', q1, by show bnd (f_X7_sellerSells mm (nI i) x) _ = _; rw [q2]; rfl, q3.le (by omega)⟩
  | 2, _ =>
    obtain ⟨mx1, mm1, r1, r2, h1⟩ := a_run (by omega) h 30
    obtain ⟨v, mx', mm', q1, q2, q3⟩ := a_seller (D := 1) hK (by omega) h1 0 (x * 3) (by simp)
    refine ⟨v, mx', mm', ?_, ?_, q3⟩
    · show bnd (f_X0_runs mx 30) _ = _; rw [r1]; show bnd (f_X0_sells 2 mx1 0 (x * 3)) _ = _; rw [q1]; rfl
    · show bnd (f_X7_body mm 30) _ = _; rw [r2]; show bnd (f_X7_sellerSells mm1 (nI i) (x * 3)) _ = _; rw [q2]; rfl
  | 5, _ =>
    obtain ⟨mx1, mm1, r1, r2, h1⟩ := a_run (by omega) h 30
    obtain ⟨v, mx', mm', q1, q2, q3⟩ := a_seller (D := 1) hK (by omega) h1 0 (x * 3) (by simp)
    refine ⟨v, mx', mm', ?_, ?_, q3⟩
    · show bnd (f_X0_runs mx 30) _ = _; rw [r1]; show bnd (f_X0_sells 2 mx1 0 (x * 3)) _ = _; rw [q1]; rfl
    · show bnd (f_X7_body mm 30) _ = _; rw [r2]; show bnd (f_X7_sellerSells mm1 (nI i) (x * 3)) _ = _; rw [q2]; rfl
  | 4, _ =>
    obtain ⟨mx1, mm1, r1, r2, h1⟩ := a_run (by omega) h 50
    obtain ⟨v, mx', mm', q1, q2, q3⟩ := a_seller (D := 1) hK (by omega) h1 1 x (by simp)
    refine ⟨-v, mx', mm', ?_, ?_, q3⟩
    · show bnd (f_X0_runs mx 50) _ = _; rw [r1]; show bnd (f_X0_sells 2 mx1 1 x) _ = _; rw [q1]; rfl
    · show bnd (f_X7_body mm 50) _ = _; rw [r2]; show bnd (f_X7_sellerSells mm1 (nI i) x) _ = _; rw [q2]; rfl
  | 6, _ =>
    obtain ⟨mx1, mm1, r1, r2, h1⟩ := a_run (by omega) h 71
    obtain ⟨v, mx', mm', q1, q2, q3⟩ := a_seller (D := 1) hK (by omega) h1 3 x (by simp)
    refine ⟨v ^^^ nI vv, mx', mm', ?_, ?_, q3⟩
    · show bnd (f_X0_runs mx 71) _ = _; rw [r1]; show bnd (f_X0_sells 2 mx1 3 x) _ = _; rw [q1, bnd_some, (q3.x hK).2.2.1]
    · show bnd (f_X7_body mm 71) _ = _; rw [r2]; show bnd (f_X7_sellerSells mm1 (nI i) x) _ = _; rw [q2, bnd_some, (q3.x hK).2.2.2.2]; rfl
theorem a_sgives {b D : Nat} {mx mm : mM} (hK : AK mx0 mm0 i kd vv) (hb : b < 700) (h : AA mx0 mm0 b mx mm) (from_ x : Int32) (hf : from_ = 0 ∨ from_ = 2 ∨ from_ = 3 ∨ from_ = 5) : ARs mx0 mm0 (b + 3) (f_X0_gives (D + 1) mx from_ x) (f_X7_sellerGives mm (nI i) x) := by
  obtain ⟨mx1, mm1, r1, r2, h1⟩ := a_run (by omega) h 11
  obtain ⟨v, mx', mm', q1, q2, q3⟩ := a_sells hK (by omega) h1 x
  have e : f_X0_gives (D + 1) mx from_ x = bnd (f_X0_runs mx 11) (fun _ m => bnd (f_X0_sells 3 m (mI m 322) x) fun y m2 => some (y - mI m2 324, m2)) := by rcases hf with rfl | rfl | rfl | rfl <;> rfl
  rw [e, r1, bnd_some, (h1.x hK).1, q1, bnd_some, (q3.x hK).2.2.1]
  unfold f_X7_sellerGives
  rw [r2, bnd_some, q2, bnd_some, (q3.x hK).2.2.2.2]
  exact ⟨_, _, _, rfl, rfl, q3⟩
theorem a_hgives {b D : Nat} {mx mm : mM} (hK : AK mx0 mm0 i kd vv) (hb : b < 600) (h : AA mx0 mm0 b mx mm) (x : Int32) : ARs mx0 mm0 (b + 4) (f_X0_gives (D + 2) mx 1 x) (f_X7_haterGives mm (nI i) x) := by
  obtain ⟨mx1, mm1, r1, r2, h1⟩ := a_run (by omega) h 20
  obtain ⟨v, mx', mm', q1, q2, q3⟩ := a_sgives (D := D) hK (by omega) h1 0 x (by simp)
  refine ⟨v ^^^ 6, mx', mm', ?_, ?_, q3⟩
  · show bnd (f_X0_runs mx 20) _ = _; rw [r1]; show bnd (f_X0_gives (D + 1) mx1 0 x) _ = _; rw [q1]; rfl
  · unfold f_X7_haterGives; rw [r2, bnd_some, q2]; rfl
theorem a_gives {b : Nat} {mx mm : mM} (hK : AK mx0 mm0 i kd vv) (hb : b < 500) (h : AA mx0 mm0 b mx mm) (x : Int32) : ARs mx0 mm0 (b + 6) (f_X0_gives 3 mx (nI kd) x) (f_X7_givesAct mm (nI i) x) := by
  unfold f_X7_givesAct
  rw [(h.x hK).2.2.2.1, Option.bind_some]
  have hkd := hK.2.1
  match kd, hkd with
  | 0, _ =>
    obtain ⟨v, mx', mm', q1, q2, q3⟩ := a_sgives (D := 2) hK (by omega) h 0 x (by simp)
    exact ⟨v, mx', mm', q1, by show bnd (f_X7_sellerGives mm (nI i) x) _ = _; rw [q2]; rfl, q3.le (by omega)⟩
  | 2, _ =>
    obtain ⟨v, mx', mm', q1, q2, q3⟩ := a_sgives (D := 2) hK (by omega) h 2 x (by simp)
    exact ⟨v, mx', mm', q1, by show bnd (f_X7_sellerGives mm (nI i) x) _ = _; rw [q2]; rfl, q3.le (by omega)⟩
  | 3, _ =>
    obtain ⟨v, mx', mm', q1, q2, q3⟩ := a_sgives (D := 2) hK (by omega) h 3 x (by simp)
    exact ⟨v, mx', mm', q1, by show bnd (f_X7_sellerGives mm (nI i) x) _ = _; rw [q2]; rfl, q3.le (by omega)⟩
  | 5, _ =>
    obtain ⟨v, mx', mm', q1, q2, q3⟩ := a_sgives (D := 2) hK (by omega) h 5 x (by simp)
    exact ⟨v, mx', mm', q1, by show bnd (f_X7_sellerGives mm (nI i) x) _ = _; rw [q2]; rfl, q3.le (by omega)⟩
  | 1, _ =>
    obtain ⟨v, mx', mm', q1, q2, q3⟩ := a_hgives (D := 1) hK (by omega) h x
    exact ⟨v, mx', mm', q1, by show bnd (f_X7_haterGives mm (nI i) x) _ = _; rw [q2]; rfl, q3.le (by omega)⟩
  | 4, _ =>
    obtain ⟨mx1, mm1, r1, r2, h1⟩ := a_run (by omega) h 51
    obtain ⟨v, mx', mm', q1, q2, q3⟩ := a_hgives (D := 0) hK (by omega) h1 (x + 1)
    refine ⟨v, mx', mm', ?_, ?_, q3.le (by omega)⟩
    · show bnd (f_X0_runs mx 51) _ = _; rw [r1]; show bnd (f_X0_gives 2 mx1 1 (x + 1)) _ = _; rw [q1]; rfl
    · show bnd (f_X7_body mm 51) _ = _; rw [r2]; show bnd (f_X7_haterGives mm1 (nI i) (x + 1)) _ = _; rw [q2]; rfl
  | 6, _ =>
    obtain ⟨mx1, mm1, r1, r2, h1⟩ := a_run (by omega) h 70
    obtain ⟨v, mx2, mm2, q1, q2, q3⟩ := a_sgives (D := 1) hK (by omega) h1 3 x (by simp)
    obtain ⟨w, mx', mm', p1, p2, p3⟩ := a_seller (D := 2) hK (by omega) q3 3 2 (by simp)
    refine ⟨v + w, mx', mm', ?_, ?_, p3.le (by omega)⟩
    · show bnd (f_X0_runs mx 70) _ = _; rw [r1]; show bnd (f_X0_gives 2 mx1 3 x) _ = _; rw [q1]; show bnd (f_X0_sells 3 mx2 3 2) _ = _; rw [p1]; rfl
    · show bnd (f_X7_body mm 70) _ = _; rw [r2]; show bnd (f_X7_sellerGives mm1 (nI i) x) _ = _; rw [q2]; show bnd (f_X7_sellerSells mm2 (nI i) 2) _ = _; rw [p2]; rfl
theorem a_stells {b D : Nat} {mx mm : mM} (hK : AK mx0 mm0 i kd vv) (hb : b < 400) (h : AA mx0 mm0 b mx mm) (from_ x : Int32) (hf : from_ = 0 ∨ from_ = 1 ∨ from_ = 2 ∨ from_ = 4) : ARs mx0 mm0 (b + 7) (f_X0_tells (D + 1) mx from_ x) (f_X7_sellerTells mm (nI i) x) := by
  obtain ⟨mx1, mm1, r1, r2, h1⟩ := a_run (by omega) h 12
  obtain ⟨v, mx', mm', q1, q2, q3⟩ := a_gives hK (by omega) h1 x
  have e : f_X0_tells (D + 1) mx from_ x = bnd (f_X0_runs mx 12) (fun _ m => bnd (f_X0_gives 3 m (mI m 322) x) fun y m2 => some (y * 2, m2)) := by rcases hf with rfl | rfl | rfl | rfl <;> rfl
  rw [e, r1, bnd_some, (h1.x hK).1, q1, bnd_some]
  unfold f_X7_sellerTells
  rw [r2, bnd_some, q2, bnd_some]
  exact ⟨_, _, _, rfl, rfl, q3⟩
theorem a_tells {b : Nat} {mx mm : mM} (hK : AK mx0 mm0 i kd vv) (hb : b < 300) (h : AA mx0 mm0 b mx mm) (x : Int32) : ARs mx0 mm0 (b + 14) (f_X0_tells 3 mx (nI kd) x) (f_X7_tellsAct mm (nI i) x) := by
  unfold f_X7_tellsAct
  rw [(h.x hK).2.2.2.1, Option.bind_some]
  have hkd := hK.2.1
  match kd, hkd with
  | 0, _ =>
    obtain ⟨v, mx', mm', q1, q2, q3⟩ := a_stells (D := 2) hK (by omega) h 0 x (by simp)
    exact ⟨v, mx', mm', q1, by show bnd (f_X7_sellerTells mm (nI i) x) _ = _; rw [q2]; rfl, q3.le (by omega)⟩
  | 1, _ =>
    obtain ⟨v, mx', mm', q1, q2, q3⟩ := a_stells (D := 2) hK (by omega) h 1 x (by simp)
    exact ⟨v, mx', mm', q1, by show bnd (f_X7_sellerTells mm (nI i) x) _ = _; rw [q2]; rfl, q3.le (by omega)⟩
  | 2, _ =>
    obtain ⟨v, mx', mm', q1, q2, q3⟩ := a_stells (D := 2) hK (by omega) h 2 x (by simp)
    exact ⟨v, mx', mm', q1, by show bnd (f_X7_sellerTells mm (nI i) x) _ = _; rw [q2]; rfl, q3.le (by omega)⟩
  | 4, _ =>
    obtain ⟨v, mx', mm', q1, q2, q3⟩ := a_stells (D := 2) hK (by omega) h 4 x (by simp)
    exact ⟨v, mx', mm', q1, by show bnd (f_X7_sellerTells mm (nI i) x) _ = _; rw [q2]; rfl, q3.le (by omega)⟩
  | 5, _ =>
    obtain ⟨mx1, mm1, r1, r2, h1⟩ := a_run (by omega) h 60
    obtain ⟨v, mx', mm', q1, q2, q3⟩ := a_stells (D := 1) hK (by omega) h1 2 (x - nI i) (by simp)
    refine ⟨v, mx', mm', ?_, ?_, q3.le (by omega)⟩
    · show bnd (f_X0_runs mx 60) _ = _; rw [r1]; show bnd (f_X0_tells 2 mx1 2 (x - mI mx1 323)) _ = _; rw [(h1.x hK).2.1, q1]; rfl
    · show bnd (f_X7_body mm 60) _ = _; rw [r2]; show bnd (f_X7_sellerTells mm1 (nI i) (x - nI i)) _ = _; rw [q2]; rfl
  | 3, _ =>
    obtain ⟨mx1, mm1, r1, r2, h1⟩ := a_run (by omega) h 40
    obtain ⟨v, mx2, mm2, q1, q2, q3⟩ := a_stells (D := 1) hK (by omega) h1 0 x (by simp)
    obtain ⟨w, mx', mm', p1, p2, p3⟩ := a_gives hK (by omega) q3 1
    refine ⟨v + w, mx', mm', ?_, ?_, p3.le (by omega)⟩
    · show bnd (f_X0_runs mx 40) _ = _; rw [r1]; show bnd (f_X0_tells 2 mx1 0 x) _ = _; rw [q1]; show bnd (f_X0_gives 3 mx2 (mI mx2 322) 1) _ = _; rw [(q3.x hK).1, p1]; rfl
    · show bnd (f_X7_body mm 40) _ = _; rw [r2]; show bnd (f_X7_sellerTells mm1 (nI i) x) _ = _; rw [q2]; show bnd (f_X7_givesAct mm2 (nI i) 1) _ = _; rw [p2]; rfl
  | 6, _ =>
    obtain ⟨mx1, mm1, r1, r2, h1⟩ := a_run (by omega) h 40
    obtain ⟨v, mx2, mm2, q1, q2, q3⟩ := a_stells (D := 1) hK (by omega) h1 0 x (by simp)
    obtain ⟨w, mx', mm', p1, p2, p3⟩ := a_gives hK (by omega) q3 1
    refine ⟨v + w, mx', mm', ?_, ?_, p3.le (by omega)⟩
    · show bnd (f_X0_runs mx 40) _ = _; rw [r1]; show bnd (f_X0_tells 2 mx1 0 x) _ = _; rw [q1]; show bnd (f_X0_gives 3 mx2 (mI mx2 322) 1) _ = _; rw [(q3.x hK).1, p1]; rfl
    · show bnd (f_X7_body mm 40) _ = _; rw [r2]; show bnd (f_X7_sellerTells mm1 (nI i) x) _ = _; rw [q2]; show bnd (f_X7_givesAct mm2 (nI i) 1) _ = _; rw [p2]; rfl
theorem op_act {mx mm : mM} (h : RR mx mm) (p a x : Int32) : OPe (f_X6_act mx p a x) (f_X7_act mm p a x) := by
  obtain ⟨W, S, ⟨hX, hS, hM, hQ⟩, hO, hK, hC, hC2, hT, hW, ⟨l1, l2, -⟩, hP⟩ := id h
  have hR0 : RR (wI mx 321 0) (wI mm 54 0) := ⟨W, S, ⟨hX, hS, hM, hQ⟩, hO, hK, hC, hC2, hT, hW.fr (fun k hk => if_neg (by omega)) (fun _ _ => rfl) rfl (fun _ _ => rfl), ⟨l1, l2, 0, by decide, rfl, rfl, fun i _ hi => absurd hi (Nat.not_lt_zero i)⟩, hP.fr (fun k hk => if_neg (by omega)) (fun _ _ => rfl) ⟨rfl, rfl⟩ ⟨rfl, rfl⟩⟩
  unfold f_X6_act f_X7_act
  rw [nmM_eq, nmM_eq, op_isPerson (m := wI mx 321 0) (n := S.1) hS.1.1, op7_isPerson (m := wI mm 54 0) (n := S.1) hQ.1.1 (by have := hO.1.1; omega), bnd_some, bnd_some]
  cases hb : inR S.1 p with
  | false => exact ⟨_, _, _, rfl, rfl, hR0⟩
  | true =>
    obtain ⟨j, hj, rfl⟩ := inR_t (by have := hO.1.1; omega) hb
    have hn := hO.1.1
    rw [zB_t, if_neg i0, if_neg i0]
    have k1 := hX.1.1
    have k2 := hX.1.2.1
    have e1 := (hS.2.1 j hj).1
    have e2 := (hS.2.1 j hj).2.1
    rw [show mA (wI mx 321 0) 15 = mA mx (14 + 1) from rfl, show mA (wI mx 321 0) 16 = mA mx (14 + 2) from rfl, gA_at (by rw [k1]; omega) (by omega), gA_at (by rw [k2]; omega) (by omega), Option.bind_some, Option.bind_some, e1, e2]
    unfold f_X0_becomes
    rw [nmM_eq, nmM_eq, nmM_eq, bnd_some]
    have hR1 : RR (wI (wI (wI (wI mx 321 0) 323 (nI j)) 322 (nI (S.2.1 0 j))) 324 (nI (S.2.1 1 j))) (wI mm 54 0) := ⟨W, S, ⟨hX, hS, hM, hQ⟩, hO, hK, hC, hC2, hT, hW.fr (fun k hk => by rw [mI_wI, if_neg (by omega), mI_wI, if_neg (by omega), mI_wI, if_neg (by omega), mI_wI, if_neg (by omega)]) (fun _ _ => rfl) rfl (fun _ _ => rfl), ⟨l1, l2, 0, by decide, rfl, rfl, fun i _ hi => absurd hi (Nat.not_lt_zero i)⟩, hP.fr (fun k hk => by rw [mI_wI, if_neg (by omega), mI_wI, if_neg (by omega), mI_wI, if_neg (by omega), mI_wI, if_neg (by omega)]) (fun _ _ => rfl) ⟨rfl, rfl⟩ ⟨rfl, rfl⟩⟩
    generalize hmx : wI (wI (wI (wI mx 321 0) 323 (nI j)) 322 (nI (S.2.1 0 j))) 324 (nI (S.2.1 1 j)) = mx1 at hR1
    have hKK : AK mx1 (wI mm 54 0) j (S.2.1 0 j) (S.2.1 1 j) := by
      subst hmx
      exact ⟨by omega, (hO.1.2 j hj).1, rfl, rfl, rfl, hM.1.1, hM.1.2.1, (hQ.2.1 j hj).1, (hQ.2.1 j hj).2.1⟩
    have hA0 : AA mx1 (wI mm 54 0) 0 mx1 (wI mm 54 0) := by
      subst hmx
      exact ⟨mA mx 6, mA mm 32, 0, Nat.le_refl _, by
        show _ = wI (wA (wI (wI (wI (wI mx 321 0) 323 (nI j)) 322 (nI (S.2.1 0 j))) 324 (nI (S.2.1 1 j))) 6 (mA (wI (wI (wI (wI mx 321 0) 323 (nI j)) 322 (nI (S.2.1 0 j))) 324 (nI (S.2.1 1 j))) 6)) 321 (mI (wI (wI (wI (wI mx 321 0) 323 (nI j)) 322 (nI (S.2.1 0 j))) 324 (nI (S.2.1 1 j))) 321)
        rw [wA_self, wI_self], by
        show _ = wI (wA (wI mm 54 0) 32 (mA (wI mm 54 0) 32)) 54 (mI (wI mm 54 0) 54)
        rw [wA_self, wI_self], l1, l2, fun i _ hi => absurd hi (Nat.not_lt_zero i)⟩
    have fin : ∀ {b e1 e2}, b < 1000 → ARs mx1 (wI mm 54 0) b e1 e2 → OPe e1 e2 := by
      intro b e1 e2 hb hA
      obtain ⟨v, mx', mm', q1, q2, l, l', r, hr, rfl, rfl, g1, g2, g3⟩ := hA
      obtain ⟨W', S', ⟨hX, hS, hM, hQ⟩, hO, hK, hC, hC2, hT, hW, hA, hP⟩ := hR1
      exact ⟨v, _, _, q1, q2, W', S', ⟨hX, hS, hM, hQ⟩, hO, hK, hC, hC2, hT, hW.fr (fun k hk => if_neg (by omega)) (fun c hc => if_neg (by omega)) rfl (fun c hc => if_neg (by omega)), ⟨g1, g2, r, by omega, rfl, rfl, g3⟩, hP.fr (fun k hk => if_neg (by omega)) (fun _ _ => rfl) ⟨rfl, rfl⟩ ⟨rfl, rfl⟩⟩
    rw [op_in (n := 3) (in_lit (by decide) (by decide)), bnd_some]
    unfold f_X0_answer
    rw [show mI mx1 322 = nI (S.2.1 0 j) from hKK.2.2.1]
    by_cases a0 : a = 0
    · subst a0
      obtain ⟨v, mx', mm', q1, q2, q3⟩ := a_sells hKK (by omega) hA0 x
      refine fin (b := 20) (by decide) ⟨v, mx', mm', ?_, ?_, q3.le (by omega)⟩
      · show bnd (bnd (f_X0_sells 3 mx1 (nI (S.2.1 0 j)) x) _) _ = _; rw [q1]; rfl
      · show bnd (f_X7_sellsAct (wI mm 54 0) (nI j) x) _ = _; rw [q2]; rfl
    · by_cases a1 : a = 1
      · subst a1
        obtain ⟨v, mx', mm', q1, q2, q3⟩ := a_gives hKK (by omega) hA0 x
        refine fin (b := 20) (by decide) ⟨v, mx', mm', ?_, ?_, q3.le (by omega)⟩
        · show bnd (bnd (f_X0_gives 3 mx1 (nI (S.2.1 0 j)) x) _) _ = _; rw [q1]; rfl
        · show bnd (f_X7_givesAct (wI mm 54 0) (nI j) x) _ = _; rw [q2]; rfl
      · by_cases a2 : a = 2
        · subst a2
          obtain ⟨v, mx', mm', q1, q2, q3⟩ := a_tells hKK (by omega) hA0 x
          refine fin (b := 20) (by decide) ⟨v, mx', mm', ?_, ?_, q3.le (by omega)⟩
          · show bnd (bnd (f_X0_tells 3 mx1 (nI (S.2.1 0 j)) x) _) _ = _; rw [q1]; rfl
          · show bnd (f_X7_tellsAct (wI mm 54 0) (nI j) x) _ = _; rw [q2]; rfl
        · have hin : inR 3 a = false := by
            cases hc : inR 3 a with
            | false => rfl
            | true =>
              obtain ⟨k, hk, rfl⟩ := inR_t (by decide) hc
              match k, hk with
              | 0, _ => exact absurd rfl a0
              | 1, _ => exact absurd rfl a1
              | 2, _ => exact absurd rfl a2
          rw [if_neg a0, if_neg a1, if_neg a2, hin, bnd_some]
          exact ⟨_, _, _, rfl, rfl, hR1⟩
end ACTS
end
-- 22i.ops2.lean.txt
section
/-! OPERATIONS: the image, back, a new one, a sign -/
section OPS2
variable {mx mm : mM}
theorem twA_ok {t : Nat} (ht : t ≤ 6) : isC true 5 (twA t) = true := by
  match t, ht with
  | 0, _ => rfl
  | 1, _ => rfl
  | 2, _ => rfl
  | 3, _ => rfl
  | 4, _ => rfl
  | 5, _ => rfl
  | 6, _ => rfl
set_option maxRecDepth 4000 in
theorem op_image (h : RR mx mm) : OPe (f_X6_image mx) (f_X7_image mm) := by
  obtain ⟨W, S, ⟨hX, hS, hM, hQ⟩, hO, hK, hC, hC2, hT, hW, hA, hP⟩ := id h
  obtain ⟨m', q1, q2, q3, q4, c1, c2, c3, c4, c5, c7, c6, c8⟩ := img_eq hM hK.2.1
  have ht : isC true 5 (mR mx (64 * 14 + 4)) = true := by rw [hS.1.2.2.2.2]; exact twA_ok (by have := hO.2.2.2.2.1; have := hW.1; omega)
  have e : f_X6_image mx = some (mI mx 896, wI (cpM mx 23 14) 3 1) := by
    unfold f_X6_image
    rw [copy_eq (by omega) hK.1 hX ht, bnd_some, nmM_eq]; rfl
  have iI : ∀ k, mI m' k = mI (imgI mm) k := fun k => congrFun q2 k
  have iL : ∀ c, mL m' c = mL mm c := fun c => congrFun (congrArg Prod.fst q3) c
  have iA : ∀ c, c ∉ [24, 25, 26, 27, 28, 31, 29, 30] → mA m' c = mA mm c := q4
  refine ⟨_, _, _, e, by rw [q1, show mI mm 0 = mI mx 896 from hQ.1.1.trans hS.1.1.symm], W, S, ⟨?_, ?_, ?_, ?_⟩, hO, ⟨?_, ?_, true, rfl, ?_, fun _ => ⟨S, ?_, ?_, hO⟩⟩, ?_, ?_, ?_, ?_, ?_, ?_⟩
  · exact hX
  · exact hS
  · unfold MSh; rw [iA 1 (by decide), iA 2 (by decide), iA 3 (by decide), iA 4 (by decide), iA 7 (by decide), iA 6 (by decide), iA 5 (by decide), iA 23 (by decide)]; exact hM
  · unfold MS; rw [iA 1 (by decide), iA 2 (by decide), iA 3 (by decide), iA 4 (by decide), iA 7 (by decide), iA 6 (by decide), iA 5 (by decide), iA 23 (by decide), iI 0, iI 1, iI 2, iI 38, iI 11]; exact hQ
  · exact hX
  · unfold MKh; rw [c1, c2, c3, c4, c5, c7, c6, c8]; exact hM
  · rw [iI 40]; rfl
  · exact hS
  · unfold MK; rw [c1, c2, c3, c4, c5, c7, c6, c8, iI 42, iI 43, iI 44, iI 45, iI 41]; exact ⟨⟨hQ.1.1, hQ.1.2.1, hQ.1.2.2.1, hQ.1.2.2.2.1, hQ.1.2.2.2.2⟩, hQ.2⟩
  · exact hC
  · unfold R_scM; rw [iA 17 (by decide), iA 18 (by decide), iA 19 (by decide), iA 20 (by decide), iA 21 (by decide), iA 22 (by decide), iI 27]; exact hC2
  · unfold R_txt; rw [iA 8 (by decide), iI 12]; exact hT
  · exact hW.fr (fun k hk => by
      show mI (wI (cpM mx 23 14) 3 1) k = _
      unfold cpM
      simp only [mI_wI, mI_wA, mI_wR]
      rw [if_neg (by omega), if_neg (by omega), if_neg (by omega), if_neg (by omega), if_neg (by omega)]) (fun c hc => by
      show mA (wI (cpM mx 23 14) 3 1) c = _
      unfold cpM
      rw [mA_wI, mA_ne (by omega), mA_ne (by omega), mA_ne (by omega), mA_ne (by omega), mA_ne (by omega), mA_ne (by omega), mA_ne (by omega), mA_ne (by omega)]; rfl) (by rw [iI 10]; rfl) (fun c hc => iA c (by simp; omega))
  · unfold R_act; rw [iA 32 (by decide), iI 54]; exact hA
  · exact hP.fr (fun k hk => by
      show mI (wI (cpM mx 23 14) 3 1) k = _
      unfold cpM
      simp only [mI_wI, mI_wA, mI_wR]
      rw [if_neg (by omega), if_neg (by omega), if_neg (by omega), if_neg (by omega), if_neg (by omega)]) (fun _ _ => rfl) ⟨iA 33 (by decide), iA 34 (by decide)⟩ ⟨iL 35, iL 36⟩
set_option maxRecDepth 4000 in
theorem op_undo (h : RR mx mm) : OPe (f_X6_undo mx) (f_X7_undo mm) := by
  obtain ⟨W, S, ⟨hX, hS, hM, hQ⟩, hO, hK, hC, hC2, hT, hW, hA, hP⟩ := id h
  obtain ⟨hkX, hkM, b, b1, b2, b3⟩ := id hK
  cases b with
  | false =>
    refine ⟨-3, mx, mm, ?_, ?_, h⟩
    · unfold f_X6_undo; rw [b1]; rfl
    · unfold f_X7_undo; rw [b2]; rfl
  | true =>
    obtain ⟨K, k1, k2, k3⟩ := b3 rfl
    have hz : ¬ mI mm 40 = 0 := by rw [b2]; decide
    obtain ⟨m', q1, q2, q3, q4, c1, c2, c3, c4, c5, c7, c6, c8⟩ := und_eq hM hkM hz
    have ht : isC true 5 (mR mx (64 * 23 + 4)) = true := by rw [k1.1.2.2.2.2]; exact twA_ok (by have := k3.2.2.2.2.1; have := hW.1; omega)
    have e : f_X6_undo mx = some (mI mx 1472, cpM mx 14 23) := by
      unfold f_X6_undo
      rw [if_neg (by rw [b1]; decide), copy_eq (by omega) hX hkX ht, bnd_some]; rfl
    have iI : ∀ k, mI m' k = mI (undI mm) k := fun k => congrFun q2 k
    have iL : ∀ c, mL m' c = mL mm c := fun c => congrFun (congrArg Prod.fst q3) c
    have iA : ∀ c, c ∉ [1, 2, 3, 4, 5, 7, 6, 23] → mA m' c = mA mm c := q4
    refine ⟨_, _, _, e, by rw [q1, show mI mm 42 = mI mx 1472 from k2.1.1.trans k1.1.1.symm], W, K, ⟨?_, ?_, ?_, ?_⟩, k3, ⟨?_, ?_, true, b1, ?_, fun _ => ⟨K, ?_, ?_, k3⟩⟩, ?_, ?_, ?_, ?_, ?_, ?_⟩
    · exact hkX
    · exact k1
    · unfold MSh; rw [c1, c2, c3, c4, c5, c7, c6, c8]; exact hkM
    · unfold MS; rw [c1, c2, c3, c4, c5, c7, c6, c8, iI 0, iI 1, iI 2, iI 38, iI 11]; exact ⟨⟨k2.1.1, k2.1.2.1, k2.1.2.2.1, k2.1.2.2.2.1, k2.1.2.2.2.2⟩, k2.2⟩
    · exact hkX
    · unfold MKh; rw [iA 24 (by decide), iA 25 (by decide), iA 26 (by decide), iA 27 (by decide), iA 31 (by decide), iA 29 (by decide), iA 28 (by decide), iA 30 (by decide)]; exact hkM
    · rw [iI 40]; exact b2
    · exact k1
    · unfold MK; rw [iA 24 (by decide), iA 25 (by decide), iA 26 (by decide), iA 27 (by decide), iA 31 (by decide), iA 29 (by decide), iA 28 (by decide), iA 30 (by decide), iI 42, iI 43, iI 44, iI 45, iI 41]; exact k2
    · exact hC
    · unfold R_scM; rw [iA 17 (by decide), iA 18 (by decide), iA 19 (by decide), iA 20 (by decide), iA 21 (by decide), iA 22 (by decide), iI 27]; exact hC2
    · unfold R_txt; rw [iA 8 (by decide), iI 12]; exact hT
    · exact hW.fr (fun k hk => by
        show mI (cpM mx 14 23) k = _
        unfold cpM
        simp only [mI_wI, mI_wA, mI_wR]
        rw [if_neg (by omega), if_neg (by omega), if_neg (by omega), if_neg (by omega)]) (fun c hc => by
        show mA (cpM mx 14 23) c = _
        unfold cpM
        rw [mA_ne (by omega), mA_ne (by omega), mA_ne (by omega), mA_ne (by omega), mA_ne (by omega), mA_ne (by omega), mA_ne (by omega), mA_ne (by omega)]; rfl) (by rw [iI 10]; rfl) (fun c hc => iA c (by simp; omega))
    · unfold R_act; rw [iA 32 (by decide), iI 54]; exact hA
    · exact hP.fr (fun k hk => by
        show mI (cpM mx 14 23) k = _
        unfold cpM
        simp only [mI_wI, mI_wA, mI_wR]
        rw [if_neg (by omega), if_neg (by omega), if_neg (by omega), if_neg (by omega)]) (fun _ _ => rfl) ⟨iA 33 (by decide), iA 34 (by decide)⟩ ⟨iL 35, iL 36⟩
theorem op_feed (h : RR mx mm) (q : Int32) : OPe (f_X6_feed mx q) (f_X7_feed mm q) := by
  obtain ⟨W, S, hN, hO, hK, hC, hC2, ⟨t1, t2, L, ch, hL, t3, t4, t5⟩, hW, hA, hP⟩ := id h
  unfold f_X6_feed f_X7_feed
  rw [op_in (n := 128) (in_lit (by decide) (by decide)), bnd_some, t3, t4]
  by_cases q0 : q < 0
  · rw [if_pos q0, inR_low q0]; exact ⟨_, mx, mm, rfl, rfl, h⟩
  · rw [if_neg q0]
    have hlt := lt_inR (n := 128) (k := 128) rfl (by decide) q0
    cases hq : inR 128 q with
    | false => rw [if_neg (fun z => by rw [hlt.mp z] at hq; cases hq)]; exact ⟨_, mx, mm, rfl, rfl, h⟩
    | true =>
      rw [if_pos (hlt.mpr hq), zB_t, if_neg i0]
      obtain ⟨c, hc, rfl⟩ := inR_t (by decide) hq
      by_cases hf : L < 100
      · have e8 : (nI c).toInt8.toInt32 = nI c := by
          apply Int32.toInt_inj.mp
          rw [Int8.toInt_toInt32, Int32.toInt_toInt8, nI_toInt (by omega)]
          exact Int.bmod_eq_of_le (by omega) (by omega)
        have e9 : nrw 2 (nI c) = nI c := e8
        rw [if_pos (show nI L < (100 : Int32) from (nI_lt hf (by decide) : nI L < nI 100)), if_neg (show ¬ nI L = (100 : Int32) from fun z => by have := (nI_eq (by omega) (by decide)).mp (show nI L = nI 100 from z); omega), e8, sA_at (by rw [t1]; exact hf) (by omega), e9, sA_at0 (by rw [t2]; exact hf) (by omega), Option.bind_some, Option.bind_some, nmM_eq, nmM_eq]
        have v1 : mI (wA mx 3 ((mA mx 3).set L (nI c))) 129 + 1 = nI (L + 1) := by rw [mI_wA, t3, nI_1]
        have v2 : mI (wA mm 8 ((mA mm 8).set L (nI c))) 12 + 1 = nI (L + 1) := by rw [mI_wA, t4, nI_1]
        rw [v1, v2]
        refine ⟨nI (L + 1), wI (wA mx 3 ((mA mx 3).set L (nI c))) 129 (nI (L + 1)), wI (wA mm 8 ((mA mm 8).set L (nI c))) 12 (nI (L + 1)), rfl, rfl, W, S, hN, hO, hK, hC, hC2, ⟨(List.length_set ..).trans t1, (List.length_set ..).trans t2, L + 1, fun i => if i = L then c else ch i, hf, rfl, rfl, fun i hi => ?_⟩, hW.fr (fun k hk => if_neg (by omega)) (fun c hc => if_neg (by omega)) rfl (fun c hc => if_neg (by omega)), hA, hP.fr (fun k hk => if_neg (by omega)) (fun _ _ => rfl) ⟨rfl, rfl⟩ ⟨rfl, rfl⟩⟩
        show ((mA mx 3).set L (nI c)).getD i 0 = nI (if i = L then c else ch i) ∧ ((mA mm 8).set L (nI c)).getD i 0 = nI (if i = L then c else ch i) ∧ (if i = L then c else ch i) < 128
        rw [gd_set, gd_set, t1, t2]
        by_cases e : L = i
        · refine ⟨?_, ?_, ?_⟩
          · rw [if_pos (show L = i ∧ L < 100 from ⟨e, hf⟩), if_pos (show i = L from e.symm)]
          · rw [if_pos (show L = i ∧ L < 100 from ⟨e, hf⟩), if_pos (show i = L from e.symm)]
          · rw [if_pos (show i = L from e.symm)]; exact hc
        · have q := t5 i (by omega)
          refine ⟨?_, ?_, ?_⟩
          · rw [if_neg (show ¬ (L = i ∧ L < 100) from fun z => e z.1), if_neg (show ¬ i = L from fun z => e z.symm)]; exact q.1
          · rw [if_neg (show ¬ (L = i ∧ L < 100) from fun z => e z.1), if_neg (show ¬ i = L from fun z => e z.symm)]; exact q.2.1
          · rw [if_neg (show ¬ i = L from fun z => e z.symm)]; exact q.2.2
      · rw [if_neg (show ¬ nI L < (100 : Int32) from (nI_nlt (by omega) (by omega) : ¬ nI L < nI 100)), if_pos (show nI L = (100 : Int32) from (congrArg nI (show L = 100 by omega) : nI L = nI 100))]
        exact ⟨_, mx, mm, rfl, rfl, h⟩
end OPS2
end
-- 22j.person.lean.txt
section
/-! A NEW ONE -/
section PERSON
variable {mx mm : mM}
def zeroI (xs : List Int32) (a : Nat) : Nat → List Int32
  | 0 => xs
  | k + 1 => (zeroI xs a k).set (a + k) 0
theorem zeroI_len {xs : List Int32} {a : Nat} : ∀ k, (zeroI xs a k).length = xs.length
  | 0 => rfl
  | k + 1 => by rw [zeroI, List.length_set, zeroI_len k]
theorem zeroI_get {xs : List Int32} {a j : Nat} (hl : j < xs.length) : ∀ k, (zeroI xs a k).getD j 0 = if a ≤ j ∧ j < a + k then 0 else xs.getD j 0
  | 0 => by rw [if_neg (by omega)]; rfl
  | k + 1 => by
    rw [zeroI, gd_set, zeroI_len, zeroI_get hl k]
    by_cases e : a + k = j
    · rw [if_pos ⟨e, by omega⟩, if_pos (by omega)]
    · rw [if_neg (fun z => e z.1)]
      by_cases c : a ≤ j ∧ j < a + k
      · rw [if_pos c, if_pos (by omega)]
      · rw [if_neg c, if_neg (by omega)]
def pdn (pd : Nat → Nat → Nat) (n k v b p : Nat) : Nat → Nat → Nat := fun f q => if q = n then (match f with | 0 => k | 1 => v | 2 => b | 3 => p | 4 => 1 | _ => 0) else pd f q
theorem PDe.add {n k v b p : Nat} {pd : Nat → Nat → Nat} {lk lv lb lp lh lr : List Int32} (hs : PDs lk lv lb lp lh lr) (hn : n < 7) (h : PDe n pd lk lv lb lp lh lr) : PDe (n + 1) (pdn pd n k v b p) (lk.set n (nI k)) (lv.set n (nI v)) (lb.set n (nI b)) (lp.set n (nI p)) (lh.set n 1) (zeroI lr (4 * n) 4) := by
  obtain ⟨h1, h2, h3, h4, h5, h6, -⟩ := hs
  intro q hq
  by_cases e : n = q
  · subst e
    refine ⟨by rw [gd_same (by omega)]; simp [pdn], by rw [gd_same (by omega)]; simp [pdn], by rw [gd_same (by omega)]; simp [pdn], by rw [gd_same (by omega)]; simp [pdn], by rw [gd_same (by omega)]; simp [pdn]; rfl, fun j hj => ?_⟩
    rw [zeroI_get (by omega), if_pos (by omega)]
    match j, hj with
    | 0, _ => simp [pdn]; rfl
    | 1, _ => simp [pdn]; rfl
    | 2, _ => simp [pdn]; rfl
    | 3, _ => simp [pdn]; rfl
  · have nz : ∀ f, pdn pd n k v b p f q = pd f q := fun f => if_neg (fun z => e z.symm)
    obtain ⟨g1, g2, g3, g4, g5, g6⟩ := h q (by omega)
    refine ⟨by rw [gd_ne e, nz]; exact g1, by rw [gd_ne e, nz]; exact g2, by rw [gd_ne e, nz]; exact g3, by rw [gd_ne e, nz]; exact g4, by rw [gd_ne e, nz]; exact g5, fun j hj => ?_⟩
    rw [zeroI_get (by omega), if_neg (by omega), nz]; exact g6 j hj
theorem PDs.add {n : Nat} {x1 x2 x3 x4 : Int32} {lk lv lb lp lh lr : List Int32} (hs : PDs lk lv lb lp lh lr) : PDs (lk.set n x1) (lv.set n x2) (lb.set n x3) (lp.set n x4) (lh.set n 1) (zeroI lr (4 * n) 4) := by
  obtain ⟨h1, h2, h3, h4, h5, h6, h7⟩ := hs
  refine ⟨by rw [List.length_set]; exact h1, by rw [List.length_set]; exact h2, by rw [List.length_set]; exact h3, by rw [List.length_set]; exact h4, by rw [List.length_set]; exact h5, by rw [zeroI_len]; exact h6, fun q hq => ?_⟩
  rw [gd_set]
  split
  · exact Or.inr rfl
  · exact h7 q hq
theorem PDr.add {n k v b p : Nat} {pd : Nat → Nat → Nat} (h : PDr n pd) (hn : n < 7) (hk : k < 7) (hv : v < 10) (hb : b < 12) (hp : p < 12) : PDr (n + 1) (pdn pd n k v b p) := by
  refine ⟨hn, fun q hq => ?_⟩
  by_cases e : q = n
  · subst e
    simp only [pdn, if_pos]
    refine ⟨hk, hv, hb, hp, by decide, fun j hj => ?_⟩
    match j, hj with
    | 0, _ => exact (show (0 : Nat) < 12 by decide)
    | 1, _ => exact (show (0 : Nat) < 12 by decide)
    | 2, _ => exact (show (0 : Nat) < 12 by decide)
    | 3, _ => exact (show (0 : Nat) < 12 by decide)
  · have nz : ∀ f, pdn pd n k v b p f q = pd f q := fun f => if_neg e
    obtain ⟨g1, g2, g3, g4, g5, g6⟩ := h.2 q (by omega)
    exact ⟨by rw [nz]; exact g1, by rw [nz]; exact g2, by rw [nz]; exact g3, by rw [nz]; exact g4, by rw [nz]; exact g5, fun j hj => by rw [nz]; exact g6 j hj⟩
theorem PUe.add {n : Nat} {pu : Nat → Int32} {l : List Int32} (hl : l.length = 7) (hn : n < 7) (h : PUe n pu l) : PUe (n + 1) (fun q => if q = n then 0 else pu q) (l.set n 0) := by
  intro q hq
  show (l.set n 0).getD q 0 = if q = n then 0 else pu q
  by_cases e : n = q
  · subst e; rw [gd_same (by omega), if_pos rfl]
  · rw [gd_ne e, if_neg (fun z => e z.symm)]; exact h q (by omega)
theorem zero_lpI {R : Type} {m : mM} {c a n : Nat} {E : fR R} {fb : (mM → Int32 → fR R) → mM → Int32 → fR R} {f : Nat → mM → Int32 → fR R} (hf : ∀ F m y, f (F + 1) m y = fb (f F) m y) (hs : ∀ k, k < n → ∀ K xs, xs.length = (mA m c).length → fb K (wA m c xs) (nI k) = K (wA m c (xs.set (a + k) 0)) (nI (k + 1))) (he : ∀ K, fb K (wA m c (zeroI (mA m c) a n)) (nI n) = E) (hn : n < 1000) : f 1000 m 0 = E := by
  have key := lp_up hf (n := n) (G := fun k => wA m c (zeroI (mA m c) a k)) (E := E) (fun k hk K => hs k hk K _ (zeroI_len k)) he n 0 1000 (by omega) (by omega)
  have e0 : wA m c (zeroI (mA m c) a 0) = m := wA_self
  rw [e0] at key
  exact key
def addM (m : mM) (a n : Nat) (k v b p : Int32) : mM := wI (wA (wA (wA (wA (wA (wA (wA m (a + 1) ((mA m (a + 1)).set n k)) (a + 2) ((mA m (a + 2)).set n v)) (a + 3) ((mA m (a + 3)).set n b)) (a + 4) ((mA m (a + 4)).set n p)) (a + 5) ((mA m (a + 5)).set n 0)) (a + 6) ((mA m (a + 6)).set n 1)) (a + 7) (zeroI (mA m (a + 7)) (4 * n) 4)) (64 * a + 0) (nI (n + 1))
theorem add_eq {m : mM} {a n : Nat} {k v b p : Int32} (h : XSh m a) (hi : mI m (64 * a + 0) = nI n) (hn : n < 7) : f_X2_add m a k v b p = some ((), addM m a n k v b p) := by
  obtain ⟨⟨h1, h2, h3, h4, h6, h7, -⟩, h5, -⟩ := h
  unfold f_X2_add
  rw [hi, if_pos (show nI n < (7 : Int32) from (nI_lt hn (by decide) : nI n < nI 7))]
  rw [sA_at0 (by omega) (by omega), Option.bind_some, mI_wA, hi]
  rw [sA_at0 (by rw [mA_ne (by omega)]; omega) (by omega), Option.bind_some, mI_wA, mI_wA, hi, mA_ne (c := a + 1) (by omega)]
  rw [sA_at0 (by rw [mA_ne (by omega), mA_ne (by omega)]; omega) (by omega), Option.bind_some, mI_wA, mI_wA, mI_wA, hi, mA_ne (k := a + 3) (c := a + 2) (by omega), mA_ne (k := a + 3) (c := a + 1) (by omega)]
  rw [sA_at0 (by rw [mA_ne (by omega), mA_ne (by omega), mA_ne (by omega)]; omega) (by omega), Option.bind_some, mI_wA, mI_wA, mI_wA, mI_wA, hi, mA_ne (k := a + 4) (c := a + 3) (by omega), mA_ne (k := a + 4) (c := a + 2) (by omega), mA_ne (k := a + 4) (c := a + 1) (by omega)]
  rw [sA_at0 (by rw [mA_ne (by omega), mA_ne (by omega), mA_ne (by omega), mA_ne (by omega)]; omega) (by omega), Option.bind_some, mI_wA, mI_wA, mI_wA, mI_wA, mI_wA, hi, mA_ne (k := a + 5) (c := a + 4) (by omega), mA_ne (k := a + 5) (c := a + 3) (by omega), mA_ne (k := a + 5) (c := a + 2) (by omega), mA_ne (k := a + 5) (c := a + 1) (by omega)]
  rw [sA_at3 (by rw [mA_ne (by omega), mA_ne (by omega), mA_ne (by omega), mA_ne (by omega), mA_ne (by omega)]; omega) (by omega) (Or.inr rfl), Option.bind_some, mA_ne (k := a + 6) (c := a + 5) (by omega), mA_ne (k := a + 6) (c := a + 4) (by omega), mA_ne (k := a + 6) (c := a + 3) (by omega), mA_ne (k := a + 6) (c := a + 2) (by omega), mA_ne (k := a + 6) (c := a + 1) (by omega)]
  generalize hm : wA (wA (wA (wA (wA (wA m (a + 1) ((mA m (a + 1)).set n k)) (a + 2) ((mA m (a + 2)).set n v)) (a + 3) ((mA m (a + 3)).set n b)) (a + 4) ((mA m (a + 4)).set n p)) (a + 5) ((mA m (a + 5)).set n 0)) (a + 6) ((mA m (a + 6)).set n 1) = m6
  have e7 : mA m6 (a + 7) = mA m (a + 7) := by
    subst hm
    rw [mA_ne (by omega), mA_ne (by omega), mA_ne (by omega), mA_ne (by omega), mA_ne (by omega), mA_ne (by omega)]
  have ei : mI m6 (64 * a + 0) = nI n := by subst hm; exact hi
  have key : f_X2_add_74 1000 m6 a 0 = some ((), wI (wA m6 (a + 7) (zeroI (mA m6 (a + 7)) (4 * n) 4)) (64 * a + 0) (nI (n + 1))) := by
    refine zero_lpI (f := fun F m y => f_X2_add_74 F m a y) (fb := fun K m y => fb_X2_add_74 (fun m _ y => K m y) m a y) (c := a + 7) (a := 4 * n) (n := 4) (fun _ _ _ => rfl) (fun j hj K xs hx => ?_) (fun K => ?_) (by decide)
    · unfold fb_X2_add_74
      rw [if_neg (show ¬ (4 : Int32) ≤ nI j from (nI_ge hj (by decide) : ¬ nI 4 ≤ nI j)), mI_wA, ei, show (4 : Int32) = nI 4 from rfl, pk_mul, nI_add, show n * 4 + j = 4 * n + j by omega, sA_at0 (by rw [mA_eq, hx, e7, h7]; omega) (by omega), Option.bind_some, wA_wA, mA_eq, nI_1]
    · unfold fb_X2_add_74
      rw [if_pos (show (4 : Int32) ≤ nI 4 by decide), nmM_eq, mI_wA, ei, nI_1]
  rw [key, e7, ← hm]; rfl
def layMm (m : mM) (n : Nat) (k v b p : Int32) : mM := wA (wA (wA (wA (wA (wA (wA m 1 ((mA m 1).set n k)) 2 ((mA m 2).set n v)) 3 ((mA m 3).set n b)) 4 ((mA m 4).set n p)) 5 ((mA m 5).set n 0)) 7 ((mA m 7).set n 1)) 6 (zeroI (mA m 6) (4 * n) 4)
theorem lay_eq {m : mM} {n : Nat} {k v b p : Int32} (h : MSh m) (hn : n < 7) : f_X7_lay m (nI n) k v b p = some ((), layMm m n k v b p) := by
  obtain ⟨⟨h1, h2, h3, h4, h7, h6, -⟩, h5, -⟩ := h
  unfold f_X7_lay
  rw [sA_at0 (by omega) (by omega), Option.bind_some]
  rw [sA_at0 (by rw [mA_ne (by decide)]; omega) (by omega), Option.bind_some, mA_ne (c := 1) (k := 2) (by decide)]
  rw [sA_at0 (by rw [mA_ne (by decide), mA_ne (by decide)]; omega) (by omega), Option.bind_some, mA_ne (k := 3) (c := 2) (by decide), mA_ne (k := 3) (c := 1) (by decide)]
  rw [sA_at0 (by rw [mA_ne (by decide), mA_ne (by decide), mA_ne (by decide)]; omega) (by omega), Option.bind_some, mA_ne (k := 4) (c := 3) (by decide), mA_ne (k := 4) (c := 2) (by decide), mA_ne (k := 4) (c := 1) (by decide)]
  rw [sA_at0 (by rw [mA_ne (by decide), mA_ne (by decide), mA_ne (by decide), mA_ne (by decide)]; omega) (by omega), Option.bind_some, mA_ne (k := 5) (c := 4) (by decide), mA_ne (k := 5) (c := 3) (by decide), mA_ne (k := 5) (c := 2) (by decide), mA_ne (k := 5) (c := 1) (by decide)]
  rw [sA_at3 (by rw [mA_ne (by decide), mA_ne (by decide), mA_ne (by decide), mA_ne (by decide), mA_ne (by decide)]; omega) (by omega) (Or.inr rfl), Option.bind_some, mA_ne (k := 7) (c := 5) (by decide), mA_ne (k := 7) (c := 4) (by decide), mA_ne (k := 7) (c := 3) (by decide), mA_ne (k := 7) (c := 2) (by decide), mA_ne (k := 7) (c := 1) (by decide)]
  generalize hm : wA (wA (wA (wA (wA (wA m 1 ((mA m 1).set n k)) 2 ((mA m 2).set n v)) 3 ((mA m 3).set n b)) 4 ((mA m 4).set n p)) 5 ((mA m 5).set n 0)) 7 ((mA m 7).set n 1) = m6
  have e6 : mA m6 6 = mA m 6 := by subst hm; rfl
  have key : f_X7_lay_47 1000 m6 (nI n) 0 = some ((), wA m6 6 (zeroI (mA m6 6) (4 * n) 4)) := by
    refine zero_lpI (f := fun F m y => f_X7_lay_47 F m (nI n) y) (fb := fun K m y => fb_X7_lay_47 (fun m _ y => K m y) m (nI n) y) (c := 6) (a := 4 * n) (n := 4) (fun _ _ _ => rfl) (fun j hj K xs hx => ?_) (fun K => ?_) (by decide)
    · unfold fb_X7_lay_47
      rw [if_neg (show ¬ (4 : Int32) ≤ nI j from (nI_ge hj (by decide) : ¬ nI 4 ≤ nI j)), show (4 : Int32) = nI 4 from rfl, pk_mul, nI_add, sA_at0 (by rw [mA_eq, hx, e6, h6]; omega) (by omega), Option.bind_some, wA_wA, mA_eq, nI_1]
    · unfold fb_X7_lay_47
      rw [if_pos (show (4 : Int32) ≤ nI 4 by decide)]
  rw [key, e6, ← hm]; rfl
set_option maxRecDepth 4000 in
theorem op_person (h : RR mx mm) (k v b p : Int32) : OPe (f_X6_person mx k v b p) (f_X7_person mm k v b p) := by
  obtain ⟨W, S, ⟨hX, hS, hM, hQ⟩, hO, hK, hC, hC2, hT, hW, hA, hP⟩ := id h
  unfold f_X6_person f_X7_person
  rw [op_in (n := 7) (in_lit (by decide) (by decide)), bnd_some, op_in (n := 10) (in_lit (by decide) (by decide)), bnd_some, op_isDay, op7_isDay, bnd_some, bnd_some, op_isDay, op7_isDay, bnd_some, bnd_some]
  by_cases k0 : k < 0
  · rw [if_pos k0, inR_low k0]; exact ⟨_, mx, mm, rfl, rfl, h⟩
  rw [if_neg k0]
  have klt := lt_inR (n := 7) (k := 7) rfl (by decide) k0
  cases hk : inR 7 k with
  | false => rw [if_neg (fun z => by rw [klt.mp z] at hk; cases hk)]; exact ⟨_, mx, mm, rfl, rfl, h⟩
  | true =>
  rw [if_pos (klt.mpr hk), zB_t, if_neg i0]
  by_cases v0 : v < 0
  · rw [if_pos v0, inR_low v0]; exact ⟨_, mx, mm, rfl, rfl, h⟩
  rw [if_neg v0]
  by_cases v1 : (10 : Int32) ≤ v
  · rw [if_pos v1, inR_high (n := 10) v1]; exact ⟨_, mx, mm, rfl, rfl, h⟩
  have hv : inR 10 v = true := inR_mid v0 v1
  rw [if_neg v1, hv, zB_t, if_neg i0]
  cases hb : inR 12 b with
  | false => exact ⟨_, mx, mm, rfl, rfl, h⟩
  | true =>
  rw [zB_t, if_neg i0, if_neg i0]
  cases hp : inR 12 p with
  | false => exact ⟨_, mx, mm, rfl, rfl, h⟩
  | true =>
  rw [zB_t, if_neg i0, if_neg i0]
  obtain ⟨k, hkk, rfl⟩ := inR_t (by decide) hk
  obtain ⟨v, hvv, rfl⟩ := inR_t (by decide) hv
  obtain ⟨b, hbb, rfl⟩ := inR_t (by decide) hb
  obtain ⟨p, hpp, rfl⟩ := inR_t (by decide) hp
  have hn := hO.1.1
  rw [show mI mx 896 = nI S.1 from hS.1.1, show mI mm 0 = nI S.1 from hQ.1.1]
  by_cases hf : S.1 < 7
  · rw [if_pos (show nI S.1 < (7 : Int32) from (nI_lt hf (by decide) : nI S.1 < nI 7)), if_neg (show ¬ nI S.1 = (7 : Int32) from fun z => by have := (nI_eq (by omega) (by decide)).mp (show nI S.1 = nI 7 from z); omega), add_eq hX hS.1.1 hf, lay_eq hM hf, bnd_some, bnd_some, nmM_eq]
    have v1 : mI (addM mx 14 S.1 (nI k) (nI v) (nI b) (nI p)) 896 - 1 = nI S.1 := nI_pred S.1
    have v3 : mI (layMm mm S.1 (nI k) (nI v) (nI b) (nI p)) 0 + 1 = nI (S.1 + 1) := by
      show mI mm 0 + 1 = _; rw [show mI mm 0 = nI S.1 from hQ.1.1, nI_1]
    have v2 : mI (wI (layMm mm S.1 (nI k) (nI v) (nI b) (nI p)) 0 (nI (S.1 + 1))) 0 - 1 = nI S.1 := nI_pred S.1
    rw [v1, v3, v2]
    refine ⟨nI S.1, addM mx 14 S.1 (nI k) (nI v) (nI b) (nI p), wI (layMm mm S.1 (nI k) (nI v) (nI b) (nI p)) 0 (nI (S.1 + 1)), rfl, rfl, W, (S.1 + 1, pdn S.2.1 S.1 k v b p, fun q => if q = S.1 then 0 else S.2.2.1 q, S.2.2.2), ⟨⟨hX.1.add, (List.length_set ..).trans hX.2.1, hX.2.2⟩, ⟨⟨rfl, hS.1.2⟩, PDe.add hX.1 hf hS.2.1, PUe.add hX.2.1 hf hS.2.2.1, hS.2.2.2⟩, ⟨hM.1.add, (List.length_set ..).trans hM.2.1, hM.2.2⟩, ⟨⟨rfl, hQ.1.2⟩, PDe.add hM.1 hf hQ.2.1, PUe.add hM.2.1 hf hQ.2.2.1, hQ.2.2.2⟩⟩, ⟨hO.1.add hf hkk hvv hbb hpp, hO.2.1, hO.2.2.1, hO.2.2.2.1, hO.2.2.2.2.1, fun q hq => ?_, hO.2.2.2.2.2.2⟩, hK, hC, hC2, hT, hW.fr (fun k hk => if_neg (by omega)) (fun c hc => by
        show mA (addM mx 14 _ _ _ _ _) c = _
        unfold addM
        rw [mA_wI, mA_ne (by omega), mA_ne (by omega), mA_ne (by omega), mA_ne (by omega), mA_ne (by omega), mA_ne (by omega), mA_ne (by omega)]) rfl (fun c hc => by
        show mA (layMm mm _ _ _ _ _) c = _
        unfold layMm
        rw [mA_ne (by omega), mA_ne (by omega), mA_ne (by omega), mA_ne (by omega), mA_ne (by omega), mA_ne (by omega), mA_ne (by omega)]), hA, hP.fr (fun k hk => if_neg (by omega)) (fun _ _ => rfl) ⟨rfl, rfl⟩ ⟨rfl, rfl⟩⟩
    show -(80000 * (12 * (S.2.2.2.2.1 : Int) + S.2.2.2.1)) ≤ (if q = S.1 then (0 : Int32) else S.2.2.1 q).toInt ∧ (if q = S.1 then (0 : Int32) else S.2.2.1 q).toInt ≤ 80000 * (12 * (S.2.2.2.2.1 : Int) + S.2.2.2.1)
    by_cases e : q = S.1
    · rw [if_pos e, show (0 : Int32).toInt = 0 from rfl]; omega
    · rw [if_neg e]; exact hO.2.2.2.2.2.1 q (by have : q < S.1 + 1 := hq; omega)
  · rw [if_neg (show ¬ nI S.1 < (7 : Int32) from (nI_nlt (by omega) (by omega) : ¬ nI S.1 < nI 7)), if_pos (show nI S.1 = (7 : Int32) from (congrArg nI (show S.1 = 7 by omega) : nI S.1 = nI 7))]
    exact ⟨_, mx, mm, rfl, rfl, h⟩
end PERSON
end
-- 22k.shift.lean.txt
section
/-! SHIFTS -/
section SHIFT
variable {mx mm : mM}
theorem sub_in {l c : Nat} (hl : l ≤ 60) (hc : c < 2 ^ 31) : (nI l - nI c).toInt = (l : Int) - c := by
  rw [Int32.toInt_sub, nI_toInt (by omega), nI_toInt hc]
  exact Int.bmod_eq_of_le (by omega) (by omega)
/-- whether a stretch lies in a row of l -/
def inS (l : Nat) (i n : Int32) : Prop := ∃ a c, i = nI a ∧ n = nI c ∧ a + c ≤ l
theorem inS_of {l : Nat} {i n : Int32} (hl : l ≤ 60) (h1 : ¬ i < 0) (h2 : ¬ n < 0) (h3 : ¬ nI l - n < i) : inS l i n := by
  obtain ⟨a, ha, rfl⟩ := nI_of h1
  obtain ⟨c, hc, rfl⟩ := nI_of h2
  refine ⟨a, c, rfl, rfl, ?_⟩
  rw [Int32.lt_iff_toInt_lt, sub_in hl hc, nI_toInt ha] at h3
  omega
theorem holds_eq {m : mM} {a l : Nat} {i n : Int32} (hl : l ≤ 60) (e : mI m (64 * a + 1) = nI l) : (inS l i n → f_X3_holds m a i n = some (1, m)) ∧ (¬ inS l i n → f_X3_holds m a i n = some (0, m)) := by
  unfold f_X3_holds
  rw [e]
  constructor
  · rintro ⟨b, c, rfl, rfl, h⟩
    rw [if_neg (nI_pos (by omega)), if_neg (nI_pos (by omega)), if_neg (nI_nlt (by omega) (by omega)), if_neg (by rw [Int32.lt_iff_toInt_lt, sub_in hl (by omega), nI_toInt (by omega)]; omega)]
  · intro h
    by_cases h1 : i < 0
    · rw [if_pos h1]
    · rw [if_neg h1]
      by_cases h2 : n < 0
      · rw [if_pos h2]
      · rw [if_neg h2]
        by_cases h3 : nI l < n
        · rw [if_pos h3]
        · rw [if_neg h3]
          by_cases h4 : nI l - n < i
          · rw [if_pos h4]
          · exact absurd (inS_of hl h1 h2 h4) h
theorem jcpyL_get {xs ys : List Int64} {sp dp n j : Nat} (hj : j < ys.length) : (jcpyL xs ys sp dp n).getD j 0 = if dp ≤ j ∧ j < dp + n then xs.getD (sp + (j - dp)) 0 else ys.getD j 0 := by
  unfold jcpyL
  rw [List.getD_eq_getElem?_getD, List.getElem?_map, List.getElem?_range hj]; rfl
theorem sh_loop2 {m : mM} {o b c : Nat} (hb : b + c ≤ 60) (ho : o < 6) (h35 : (mL m 35).length = 360) (h36 : (mL m 36).length = 60) : f_X7_shift_141 1000 m (nI o) (nI b) (nI c) 0 = some (nI c, wL m 35 (cpS 0 (mL m 36) 0 (60 * o + b) (mL m 35) c)) := by
  have key := lp_up (f := fun F m y => f_X7_shift_141 F m (nI o) (nI b) (nI c) y) (fb := fun K m y => fb_X7_shift_141 (fun m _ _ _ y => K m y) m (nI o) (nI b) (nI c) y) (fun _ _ _ => rfl) (n := c) (G := fun k => wL m 35 (cpS 0 (mL m 36) 0 (60 * o + b) (mL m 35) k)) (E := some (nI c, wL m 35 (cpS 0 (mL m 36) 0 (60 * o + b) (mL m 35) c))) (fun k hk K => ?_) (fun K => ?_) c 0 1000 (by omega) (by omega)
  · have e0 : wL m 35 (cpS 0 (mL m 36) 0 (60 * o + b) (mL m 35) 0) = m := wL_self
    simp only [e0] at key
    exact key
  · show fb_X7_shift_141 _ _ _ _ _ _ = _
    unfold fb_X7_shift_141
    rw [if_neg (nI_ge hk (by omega)), mL_wL, if_neg (by decide), gL_at (by rw [h36]; omega) (by omega), Option.bind_some, show (60 : Int32) = nI 60 from rfl, pk_mul, nI_add, nI_add, sL_at (by rw [mL_wL, if_pos rfl, cpS_len, h35]; omega) (by omega), Option.bind_some, wL_wL, mL_wL, if_pos rfl, nI_1, cpS, Nat.zero_add]
  · show fb_X7_shift_141 _ _ _ _ _ _ = _
    unfold fb_X7_shift_141
    rw [if_pos (nI_le (Nat.le_refl _) (by omega))]
theorem sh_loop1 {m : mM} {t o a b c : Nat} (ha : a + c ≤ 60) (hb : b + c ≤ 60) (ht : t < 6) (ho : o < 6) (h35 : (mL m 35).length = 360) (h36 : (mL m 36).length = 60) : f_X7_shift_104 1000 m (nI t) (nI a) (nI o) (nI b) (nI c) 0 = f_X7_shift_141 1000 (wL m 36 (cpS 0 (mL m 35) (60 * t + a) 0 (mL m 36) c)) (nI o) (nI b) (nI c) 0 := by
  have key := lp_up (f := fun F m y => f_X7_shift_104 F m (nI t) (nI a) (nI o) (nI b) (nI c) y) (fb := fun K m y => fb_X7_shift_104 (fun m _ _ _ _ _ y => K m y) m (nI t) (nI a) (nI o) (nI b) (nI c) y) (fun _ _ _ => rfl) (n := c) (G := fun k => wL m 36 (cpS 0 (mL m 35) (60 * t + a) 0 (mL m 36) k)) (E := f_X7_shift_141 1000 (wL m 36 (cpS 0 (mL m 35) (60 * t + a) 0 (mL m 36) c)) (nI o) (nI b) (nI c) 0) (fun k hk K => ?_) (fun K => ?_) c 0 1000 (by omega) (by omega)
  · have e0 : wL m 36 (cpS 0 (mL m 35) (60 * t + a) 0 (mL m 36) 0) = m := wL_self
    simp only [e0] at key
    exact key
  · show fb_X7_shift_104 _ _ _ _ _ _ _ _ = _
    unfold fb_X7_shift_104
    rw [if_neg (nI_ge hk (by omega)), mL_wL, if_neg (by decide), show (60 : Int32) = nI 60 from rfl, pk_mul, nI_add, nI_add, gL_at (by rw [h35]; omega) (by omega), Option.bind_some, sL_at (by rw [mL_wL, if_pos rfl, cpS_len, h36]; omega) (by omega), Option.bind_some, wL_wL, mL_wL, if_pos rfl, nI_1, cpS, Nat.zero_add]
  · show fb_X7_shift_104 _ _ _ _ _ _ _ _ = _
    unfold fb_X7_shift_104
    rw [if_pos (nI_le (Nat.le_refl _) (by omega))]
theorem op_shift (h : RR mx mm) (p i q j n : Int32) : OPe (f_X6_shift mx p i q j n) (f_X7_shift mm p i q j n) := by
  obtain ⟨W, S, hN, hO, hK, hC, hC2, hT, hW, hA, hP⟩ := id h
  obtain ⟨g1, g2, g3, g4, g5⟩ := id hP
  unfold f_X6_shift f_X7_shift
  rw [op_isTape, op7_isTape, bnd_some, bnd_some, op_isTape, op7_isTape, bnd_some, bnd_some]
  cases hp : inR 6 p with
  | false => exact ⟨_, mx, mm, rfl, rfl, h⟩
  | true =>
  rw [zB_t, if_neg i0, if_neg i0]
  cases hq : inR 6 q with
  | false => exact ⟨_, mx, mm, rfl, rfl, h⟩
  | true =>
  rw [zB_t, if_neg i0, if_neg i0]
  obtain ⟨t, ht, rfl⟩ := inR_t (by decide) hp
  obtain ⟨o, ho, rfl⟩ := inR_t (by decide) hq
  obtain ⟨s, l, hs, hl, hz, e1, e2, e3, e4, e5, e6⟩ := g5 t ht
  obtain ⟨s', l', hs', hl', hz', f1, f2, f3, f4, f5, f6⟩ := g5 o ho
  rw [(tp_tb ht).1, Option.bind_some, chR_t (tp_tb ht).2, (tp_tb ho).1, Option.bind_some, chR_t (tp_tb ho).2, e1, f1, gA_at (xs := mA mm 33) (i := t) (by rw [g1]; exact ht) (by omega), gA_at (xs := mA mm 33) (i := o) (by rw [g1]; exact ho) (by omega), Option.bind_some, Option.bind_some, e2, f2, Option.bind_some, Option.bind_some, gA_at (xs := mA mm 34) (i := t) (by rw [g2]; exact ht) (by omega), gA_at (xs := mA mm 34) (i := o) (by rw [g2]; exact ho) (by omega), Option.bind_some, Option.bind_some, e4, f4]
  by_cases hs0 : s = 0
  · rw [if_pos ((nIp hs).1.mpr hs0), if_pos ((nIp hs).2.1.mpr hs0)]; exact ⟨_, mx, mm, rfl, rfl, h⟩
  rw [if_neg (fun z => hs0 ((nIp hs).1.mp z)), if_neg (fun z => hs0 ((nIp hs).2.1.mp z))]
  by_cases hs1 : s' = 0
  · rw [if_pos ((nIp hs').1.mpr hs1), if_neg (fun z => (nIp hs').2.2.mp z hs1)]; exact ⟨_, mx, mm, rfl, rfl, h⟩
  rw [if_neg (fun z => hs1 ((nIp hs').1.mp z)), if_pos ((nIp hs').2.2.mpr hs1)]
  by_cases hss : nI s - 1 = nI s' - 1
  · rw [if_pos hss, if_pos hss]
    have k1 := holds_eq (m := mx) (a := 82 + 2 * t) (i := i) (n := n) hl e3
    have k2 := holds_eq (m := mx) (a := 82 + 2 * o) (i := j) (n := n) hl' f3
    by_cases hI : inS l i n ∧ inS l' j n
    · obtain ⟨⟨a, c, rfl, rfl, hac⟩, b, c', rfl, hcc, hbc⟩ := hI
      have hc31 : c' < 2 ^ 31 := by omega
      have hcc : c = c' := (nI_eq (by omega) hc31).mp hcc
      subst hcc
      rw [k1.1 ⟨a, c, rfl, rfl, hac⟩, bnd_some, if_neg i0, k2.1 ⟨b, c, rfl, rfl, hbc⟩, bnd_some, if_neg i0, if_neg (nI_pos (by omega)), if_neg (nI_pos (by omega)), if_neg (nI_pos (by omega)), if_neg (by rw [Int32.lt_iff_toInt_lt, sub_in hl (by omega), nI_toInt (by omega)]; omega), if_pos (by rw [Int32.le_iff_toInt_le, sub_in hl' (by omega), nI_toInt (by omega)]; omega)]
      rw [sh_loop1 (by omega) (by omega) ht ho g3 g4, sh_loop2 (by omega) ho (by rw [mL_wL, if_neg (by decide)]; exact g3) (by rw [mL_wL, if_pos rfl, cpS_len]; exact g4)]
      unfold cpL
      rw [nI_clamp (by omega), nI_clamp (by omega), nI_clamp (by omega), if_pos ⟨nI_pos (by omega), nI_pos (by omega), nI_pos (by omega), by rw [e5]; omega, by rw [f5]; omega⟩, Option.bind_some]
      refine ⟨_, _, _, rfl, rfl, W, S, hN, hO, hK, hC, hC2, hT, hW.fr (fun _ _ => rfl) (fun _ _ => rfl) rfl (fun _ _ => rfl), hA, hP.upd ho ⟨s', l', hs', hl', hz', f1, f2, f3, f4, ?_, fun k hk => ?_⟩ (fun u hu hne => ⟨⟨rfl, rfl, ?_⟩, rfl, rfl, fun k hk => ?_⟩) ⟨g1, g2, ?_, ?_⟩⟩
      · rw [mL_wL, if_pos rfl]; simpa [jcpyL] using f5
      · rw [mL_wL, if_pos rfl, mL_wL, if_pos rfl, jcpyL_get (by rw [f5]; omega), cpS_get (by rw [mL_wL, if_neg (by decide), g3]; omega)]
        by_cases hc : b ≤ k ∧ k < b + c
        · rw [if_pos hc, if_pos (by omega), mL_wL, if_pos rfl, cpS_get (by rw [g4]; omega), if_pos (by omega), e6 _ (by omega), show 60 * t + a + (0 + (60 * o + k - (60 * o + b)) - 0) = 60 * t + (a + (k - b)) by omega]
        · rw [if_neg hc, if_neg (by omega), mL_wL, if_neg (by decide)]; exact f6 k hk
      · rw [mL_wL, if_neg (by omega)]
      · rw [mL_wL, if_pos rfl, cpS_get (by rw [mL_wL, if_neg (by decide), g3]; omega), if_neg (by omega), mL_wL, if_neg (by decide)]
      · rw [mL_wL, if_pos rfl, cpS_len, mL_wL, if_neg (by decide)]; exact g3
      · rw [mL_wL, if_neg (by decide), mL_wL, if_pos rfl, cpS_len]; exact g4
    · have hx : (bnd (f_X3_holds mx (82 + 2 * t) i n) fun x11 m12 => if x11 = 0 then some (-13, m12) else bnd (f_X3_holds m12 (82 + 2 * o) j n) fun x14 m15 => if x14 = 0 then some (-13, m15) else (cpL m15 (82 + 2 * t + 1) i (82 + 2 * o + 1) j n).bind fun m17 => some (n, m17)) = some (-13, mx) := by
        by_cases h1 : inS l i n
        · have h2 : ¬ inS l' j n := fun z => hI ⟨h1, z⟩
          rw [k1.1 h1, bnd_some, if_neg i0, k2.2 h2]; rfl
        · rw [k1.2 h1]; rfl
      rw [hx]
      refine ⟨_, mx, mm, rfl, ?_, h⟩
      by_cases c1 : n < 0
      · rw [if_pos c1]
      rw [if_neg c1]
      by_cases c2 : i < 0
      · rw [if_pos c2]
      rw [if_neg c2]
      by_cases c3 : j < 0
      · rw [if_pos c3]
      rw [if_neg c3]
      by_cases c4 : nI l - n < i
      · rw [if_pos c4]
      rw [if_neg c4, if_neg (fun z => hI ⟨inS_of hl c2 c1 c4, inS_of hl' c3 c1 (fun w => by rw [Int32.lt_iff_toInt_lt] at w; rw [Int32.le_iff_toInt_le] at z; omega)⟩)]
  · rw [if_neg hss, if_neg hss]; exact ⟨_, mx, mm, rfl, rfl, h⟩
end SHIFT
end
