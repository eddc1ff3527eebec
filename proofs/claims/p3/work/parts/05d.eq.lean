/-! heaps compared by program -/
def jqE (a b : jEt) : Bool := match a, b with
  | .inl (t, .inl xs), .inl (u, .inl ys) => Nat.beq t u && decide (xs = ys)
  | .inl (t, .inr (.inl xs)), .inl (u, .inr (.inl ys)) => Nat.beq t u && decide (xs = ys)
  | .inl (t, .inr (.inr xs)), .inl (u, .inr (.inr ys)) => Nat.beq t u && decide (xs = ys)
  | .inr (c, fs), .inr (c', gs) => Nat.beq c c' && decide (fs = gs)
  | _, _ => false
theorem jqE_ok {a b : jEt} (h : jqE a b = true) : a = b := by
  unfold jqE at h
  split at h
  · obtain ⟨h1, h2⟩ := Bool.and_eq_true_iff.mp h
    rw [Nat.eq_of_beq_eq_true h1, of_decide_eq_true h2]
  · obtain ⟨h1, h2⟩ := Bool.and_eq_true_iff.mp h
    rw [Nat.eq_of_beq_eq_true h1, of_decide_eq_true h2]
  · obtain ⟨h1, h2⟩ := Bool.and_eq_true_iff.mp h
    rw [Nat.eq_of_beq_eq_true h1, of_decide_eq_true h2]
  · obtain ⟨h1, h2⟩ := Bool.and_eq_true_iff.mp h
    rw [Nat.eq_of_beq_eq_true h1, of_decide_eq_true h2]
  · cases h
def jqH : jH → jH → Bool
  | [], [] => true
  | a :: as, b :: bs => jqE a b && jqH as bs
  | _, _ => false
theorem jqH_ok : ∀ {a b : jH}, jqH a b = true → a = b
  | [], [], _ => rfl
  | a :: as, b :: bs, h => by
    obtain ⟨h1, h2⟩ := Bool.and_eq_true_iff.mp h
    rw [jqE_ok h1, jqH_ok h2]
  | [], _ :: _, h => by cases h
  | _ :: _, [], h => by cases h
def jqR (x : Option jRs) (r : Option Value) (h : jH) (A S : Nat) : Bool := match x with
  | some (r', h', A', S') => decide (r' = r) && (jqH h' h && (Nat.beq A' A && Nat.beq S' S))
  | none => false
theorem jqR_ok {x : Option jRs} {r : Option Value} {h : jH} {A S : Nat} (hq : jqR x r h A S = true) : x = some (r, h, A, S) := by
  unfold jqR at hq
  split at hq
  · simp only [Bool.and_eq_true] at hq
    rw [of_decide_eq_true hq.1, jqH_ok hq.2.1, Nat.eq_of_beq_eq_true hq.2.2.1, Nat.eq_of_beq_eq_true hq.2.2.2]
  · cases hq
