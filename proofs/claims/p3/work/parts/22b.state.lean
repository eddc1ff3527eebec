/-! THE STATE: people (pd: 0 KIND, 1 v, 2 BORN, 3 PLAN, 4 there, 5.. ROW), purses, date, year, book, town -/
abbrev SS : Type := Nat × (Nat → Nat → Nat) × (Nat → Int32) × Nat × Nat × List Int32 × Nat
/-- truths -/
def b01 (l : List Int32) : Prop := ∀ p, p < 7 → l.getD p 0 = 0 ∨ l.getD p 0 = 1
/-- five rows of seven, one of 28 -/
def PDs (lk lv lb lp lh lr : List Int32) : Prop := lk.length = 7 ∧ lv.length = 7 ∧ lb.length = 7 ∧ lp.length = 7 ∧ lh.length = 7 ∧ lr.length = 28 ∧ b01 lh
def PDr (n : Nat) (pd : Nat → Nat → Nat) : Prop := n ≤ 7 ∧ ∀ p, p < n → pd 0 p < 7 ∧ pd 1 p < 10 ∧ pd 2 p < 12 ∧ pd 3 p < 12 ∧ pd 4 p < 2 ∧ ∀ j, j < 4 → pd (5 + j) p < 12
def PDe (n : Nat) (pd : Nat → Nat → Nat) (lk lv lb lp lh lr : List Int32) : Prop :=
  ∀ p, p < n → lk.getD p 0 = nI (pd 0 p) ∧ lv.getD p 0 = nI (pd 1 p) ∧ lb.getD p 0 = nI (pd 2 p) ∧ lp.getD p 0 = nI (pd 3 p) ∧ lh.getD p 0 = nI (pd 4 p) ∧ ∀ j, j < 4 → lr.getD (4 * p + j) 0 = nI (pd (5 + j) p)
def PUe (n : Nat) (pu : Nat → Int32) (l : List Int32) : Prop := ∀ p, p < n → l.getD p 0 = pu p
def BKe (bk l : List Int32) : Prop := ∀ i, i < bk.length → l.getD i 0 = bk.getD i 0
def twA (t : Nat) : Nat := match t with
  | 0 => 8
  | k + 1 => 46 + 6 * k
/-- lengths of a class's state -/
def XSh (m : mM) (c : Nat) : Prop := PDs (mA m (c + 1)) (mA m (c + 2)) (mA m (c + 3)) (mA m (c + 4)) (mA m (c + 6)) (mA m (c + 7)) ∧ (mA m (c + 5)).length = 7 ∧ (mA m (c + 8)).length = 12
def XS (m : mM) (c : Nat) (S : SS) : Prop :=
  (mI m (64 * c + 0) = nI S.1 ∧ mI m (64 * c + 1) = nI S.2.2.2.1 ∧ mI m (64 * c + 2) = nI S.2.2.2.2.1 ∧ mI m (64 * c + 3) = nI S.2.2.2.2.2.1.length ∧ mR m (64 * c + 4) = twA S.2.2.2.2.2.2) ∧
  PDe S.1 S.2.1 (mA m (c + 1)) (mA m (c + 2)) (mA m (c + 3)) (mA m (c + 4)) (mA m (c + 6)) (mA m (c + 7)) ∧ PUe S.1 S.2.2.1 (mA m (c + 5)) ∧ BKe S.2.2.2.2.2.1 (mA m (c + 8))
def MSh (m : mM) : Prop := PDs (mA m 1) (mA m 2) (mA m 3) (mA m 4) (mA m 7) (mA m 6) ∧ (mA m 5).length = 7 ∧ (mA m 23).length = 12
def MS (m : mM) (S : SS) : Prop :=
  (mI m 0 = nI S.1 ∧ mI m 1 = nI S.2.2.2.1 ∧ mI m 2 = nI S.2.2.2.2.1 ∧ mI m 38 = nI S.2.2.2.2.2.1.length ∧ mI m 11 = nI S.2.2.2.2.2.2 - 1) ∧
  PDe S.1 S.2.1 (mA m 1) (mA m 2) (mA m 3) (mA m 4) (mA m 7) (mA m 6) ∧ PUe S.1 S.2.2.1 (mA m 5) ∧ BKe S.2.2.2.2.2.1 (mA m 23)
def MKh (m : mM) : Prop := PDs (mA m 24) (mA m 25) (mA m 26) (mA m 27) (mA m 31) (mA m 29) ∧ (mA m 28).length = 7 ∧ (mA m 30).length = 12
def MK (m : mM) (S : SS) : Prop :=
  (mI m 42 = nI S.1 ∧ mI m 43 = nI S.2.2.2.1 ∧ mI m 44 = nI S.2.2.2.2.1 ∧ mI m 45 = nI S.2.2.2.2.2.1.length ∧ mI m 41 = nI S.2.2.2.2.2.2 - 1) ∧
  PDe S.1 S.2.1 (mA m 24) (mA m 25) (mA m 26) (mA m 27) (mA m 31) (mA m 29) ∧ PUe S.1 S.2.2.1 (mA m 28) ∧ BKe S.2.2.2.2.2.1 (mA m 30)
/-- purses bounded by the days lived, the BOOK by what it takes -/
def BND (S : SS) : Prop := (∀ p, p < S.1 → -(80000 * (12 * (S.2.2.2.2.1 : Int) + S.2.2.2.1)) ≤ (S.2.2.1 p).toInt ∧ (S.2.2.1 p).toInt ≤ 80000 * (12 * (S.2.2.2.2.1 : Int) + S.2.2.2.1)) ∧ ∀ i, i < S.2.2.2.2.2.1.length → -9999 ≤ (S.2.2.2.2.2.1.getD i 0).toInt ∧ (S.2.2.2.2.2.1.getD i 0).toInt ≤ 9999
/-- what a state may be, with W towns -/
def SOK (W : Nat) (S : SS) : Prop := PDr S.1 S.2.1 ∧ S.2.2.2.1 < 12 ∧ S.2.2.2.2.1 ≤ 999 ∧ S.2.2.2.2.2.1.length ≤ 12 ∧ S.2.2.2.2.2.2 ≤ W ∧ BND S
/-- one entry of pd anew -/
def pdu (pd : Nat → Nat → Nat) (f p v : Nat) : Nat → Nat → Nat := fun f' p' => if f' = f ∧ p' = p then v else pd f' p'
section PDL
variable {n p d : Nat} {pd : Nat → Nat → Nat} {lk lv lb lp lh lr : List Int32}
theorem PDe.born (hs : PDs lk lv lb lp lh lr) (hn : n ≤ 7) (h : PDe n pd lk lv lb lp lh lr) (hp : p < n) : PDe n (pdu pd 2 p d) lk lv (lb.set p (nI d)) lp lh lr := by
  intro q hq
  obtain ⟨h1, h2, h3, h4, h5, h6⟩ := h q hq
  refine ⟨by simpa [pdu] using h1, by simpa [pdu] using h2, ?_, by simpa [pdu] using h4, by simpa [pdu] using h5, fun j hj => ?_⟩
  · have := hs.2.2.1
    rw [gd_set]
    by_cases e : p = q
    · subst e; rw [if_pos ⟨rfl, by omega⟩]; simp [pdu]
    · rw [if_neg (fun z => e z.1), h3]; simp [pdu, Ne.symm e]
  · rw [h6 j hj]; unfold pdu; rw [if_neg (by omega)]
theorem PDe.plan (hs : PDs lk lv lb lp lh lr) (hn : n ≤ 7) (h : PDe n pd lk lv lb lp lh lr) (hp : p < n) : PDe n (pdu pd 3 p d) lk lv lb (lp.set p (nI d)) lh lr := by
  intro q hq
  obtain ⟨h1, h2, h3, h4, h5, h6⟩ := h q hq
  refine ⟨by simpa [pdu] using h1, by simpa [pdu] using h2, by simpa [pdu] using h3, ?_, by simpa [pdu] using h5, fun j hj => ?_⟩
  · have := hs.2.2.2.1
    rw [gd_set]
    by_cases e : p = q
    · subst e; rw [if_pos ⟨rfl, by omega⟩]; simp [pdu]
    · rw [if_neg (fun z => e z.1), h4]; simp [pdu, Ne.symm e]
  · rw [h6 j hj]; unfold pdu; rw [if_neg (by omega)]
theorem PDe.there (hs : PDs lk lv lb lp lh lr) (hn : n ≤ 7) (h : PDe n pd lk lv lb lp lh lr) (hp : p < n) : PDe n (pdu pd 4 p d) lk lv lb lp (lh.set p (nI d)) lr := by
  intro q hq
  obtain ⟨h1, h2, h3, h4, h5, h6⟩ := h q hq
  refine ⟨by simpa [pdu] using h1, by simpa [pdu] using h2, by simpa [pdu] using h3, by simpa [pdu] using h4, ?_, fun j hj => ?_⟩
  · have := hs.2.2.2.2.1
    rw [gd_set]
    by_cases e : p = q
    · subst e; rw [if_pos ⟨rfl, by omega⟩]; simp [pdu]
    · rw [if_neg (fun z => e z.1), h5]; simp [pdu, Ne.symm e]
  · rw [h6 j hj]; unfold pdu; rw [if_neg (by omega)]
theorem PDe.row {i : Nat} (hs : PDs lk lv lb lp lh lr) (hn : n ≤ 7) (h : PDe n pd lk lv lb lp lh lr) (hp : p < n) (hi : i < 4) : PDe n (pdu pd (5 + i) p d) lk lv lb lp lh (lr.set (4 * p + i) (nI d)) := by
  intro q hq
  obtain ⟨h1, h2, h3, h4, h5, h6⟩ := h q hq
  have nz : ∀ f, f < 5 → ∀ v, nI (pdu pd (5 + i) p d f v) = nI (pd f v) := fun f hf v => by unfold pdu; rw [if_neg (by omega)]
  refine ⟨by rw [nz 0 (by omega)]; exact h1, by rw [nz 1 (by omega)]; exact h2, by rw [nz 2 (by omega)]; exact h3, by rw [nz 3 (by omega)]; exact h4, by rw [nz 4 (by omega)]; exact h5, fun j hj => ?_⟩
  have := hs.2.2.2.2.2.1
  rw [gd_set]
  by_cases e : p = q ∧ i = j
  · obtain ⟨rfl, rfl⟩ := e
    rw [if_pos ⟨rfl, by omega⟩]; simp [pdu]
  · rw [if_neg (fun z => e (by omega)), h6 j hj]
    unfold pdu; rw [if_neg (fun z => e ⟨z.2.symm, by omega⟩)]
theorem PDs.born {x : Int32} (hs : PDs lk lv lb lp lh lr) : PDs lk lv (lb.set p x) lp lh lr := ⟨hs.1, hs.2.1, by rw [List.length_set]; exact hs.2.2.1, hs.2.2.2⟩
theorem PDs.plan {x : Int32} (hs : PDs lk lv lb lp lh lr) : PDs lk lv lb (lp.set p x) lh lr := ⟨hs.1, hs.2.1, hs.2.2.1, by rw [List.length_set]; exact hs.2.2.2.1, hs.2.2.2.2⟩
theorem PDs.there {x : Int32} (hs : PDs lk lv lb lp lh lr) (hx : x = 0 ∨ x = 1) : PDs lk lv lb lp (lh.set p x) lr := ⟨hs.1, hs.2.1, hs.2.2.1, hs.2.2.2.1, by rw [List.length_set]; exact hs.2.2.2.2.1, hs.2.2.2.2.2.1, fun q hq => by
  rw [gd_set]
  split
  · exact hx
  · exact hs.2.2.2.2.2.2 q hq⟩
theorem PDs.row {x : Int32} (hs : PDs lk lv lb lp lh lr) : PDs lk lv lb lp lh (lr.set p x) := ⟨hs.1, hs.2.1, hs.2.2.1, hs.2.2.2.1, hs.2.2.2.2.1, by rw [List.length_set]; exact hs.2.2.2.2.2.1, hs.2.2.2.2.2.2⟩
theorem PDr.upd {f : Nat} (h : PDr n pd) (hd : d < (match f with | 0 => 7 | 1 => 10 | 4 => 2 | _ => 12)) : PDr n (pdu pd f p d) := by
  refine ⟨h.1, fun q hq => ?_⟩
  obtain ⟨h1, h2, h3, h4, h5, h6⟩ := h.2 q hq
  have key : ∀ f' b, pd f' q < b → (f' = f → d < b) → pdu pd f p d f' q < b := fun f' b a c => by
    unfold pdu
    split
    · rename_i z; exact c z.1
    · exact a
  refine ⟨key _ _ h1 (fun z => by subst z; exact hd), key _ _ h2 (fun z => by subst z; exact hd), key _ _ h3 (fun z => by subst z; exact hd), key _ _ h4 (fun z => by subst z; exact hd), key _ _ h5 (fun z => by subst z; exact hd), fun j hj => key _ _ (h6 j hj) (fun z => by
    subst z
    match j, hj with
    | 0, _ => exact hd
    | 1, _ => exact hd
    | 2, _ => exact hd
    | 3, _ => exact hd)⟩
end PDL
