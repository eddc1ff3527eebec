/-! HOW FAR A DAY CAN GO -/
section BOUND
theorem addI {a b : Int32} (h1 : -1073741824 ≤ a.toInt ∧ a.toInt ≤ 1073741823) (h2 : -1073741824 ≤ b.toInt ∧ b.toInt ≤ 1073741823) : (a + b).toInt = a.toInt + b.toInt := by
  rw [Int32.toInt_add]
  exact Int.bmod_eq_of_le (by omega) (by omega)
theorem subI {a b : Int32} (h1 : -1073741824 ≤ a.toInt ∧ a.toInt ≤ 1073741823) (h2 : -1073741823 ≤ b.toInt ∧ b.toInt ≤ 1073741823) : (a - b).toInt = a.toInt - b.toInt := by
  rw [Int32.toInt_sub]
  exact Int.bmod_eq_of_le (by omega) (by omega)
theorem tkV_b {F : Nat → Nat} : ∀ {tk : List (Nat × List Int32)} {a : Nat}, (∀ x ∈ tk, x.1 < 100) → ∃ b, b ≤ a + 99 * tk.length ∧ tkV F tk (nI a) = nI (10 * b)
  | [], a, _ => ⟨a, by simp, by unfold tkV; rw [show (10 : Int32) = nI 10 from rfl, pk_mul]⟩
  | c :: cs, a, h => by
    have hc := h c (List.mem_cons_self ..)
    unfold tkV
    by_cases e : evS F c.2 [] = true
    · rw [if_pos e, nI_add]
      obtain ⟨b, h1, h2⟩ := tkV_b (F := F) (tk := cs) (a := a + c.1) (fun x hx => h x (List.mem_cons_of_mem _ hx))
      exact ⟨b, by simp; omega, h2⟩
    · rw [if_neg e]
      obtain ⟨b, h1, h2⟩ := tkV_b (F := F) (tk := cs) (a := a) (fun x hx => h x (List.mem_cons_of_mem _ hx))
      exact ⟨b, by simp; omega, h2⟩
theorem clTk_b : ∀ {cs : List CL}, (∀ c ∈ cs, clOk c) → ∀ x ∈ clTk cs, x.1 < 100
  | [], _, x, hx => absurd hx (by simp [clTk])
  | c :: cs, h, x, hx => by
    have ih := clTk_b (cs := cs) (fun c hc => h c (List.mem_cons_of_mem _ hc))
    unfold clTk at hx
    split at hx
    · rcases List.mem_cons.mp hx with rfl | hx
      · exact (h c (List.mem_cons_self ..)).2.1
      · exact ih x hx
    · exact ih x hx
section X
variable {n : Nat} {pd : Nat → Nat → Nat} {cs : List CL} {y d p e : Nat}
theorem tkD_b (h : ∀ c ∈ cs, clOk c) (hl : cs.length ≤ 10) : ∃ v, v ≤ 9900 ∧ tkD n pd cs y d p = nI v := by
  unfold tkD takV
  by_cases c : clTk cs = []
  · rw [if_pos c]; exact ⟨100, by decide, rfl⟩
  · rw [if_neg c]
    obtain ⟨b, h1, h2⟩ := tkV_b (F := facT n pd y p d) (a := 0) (clTk_b h)
    have := clTk_len (cs := cs)
    exact ⟨10 * b, by omega, h2⟩
theorem pyD_b (h : ∀ c ∈ cs, clOk c) (hl : cs.length ≤ 10) (he : e < 100) : ∃ v, v ≤ 9801 ∧ pyD n pd cs (nI e) y d p = nI v ∧ ∃ w, v ≤ w ∧ w ≤ 9900 ∧ tkD n pd cs y d p = nI w := by
  obtain ⟨w, h1, h2⟩ := tkD_b (n := n) (pd := pd) (y := y) (d := d) (p := p) h hl
  unfold pyD
  by_cases c : mB pd d n = 0
  · rw [if_pos c]; exact ⟨0, by decide, rfl, w, Nat.zero_le _, h1, h2⟩
  · rw [if_neg c, h2]
    have hm : w * e ≤ 9900 * 99 := Nat.mul_le_mul h1 (by omega)
    have hm2 : w * e ≤ w * 99 := Nat.mul_le_mul (Nat.le_refl w) (by omega)
    refine ⟨w * e / 100, by omega, ?_, w, by omega, h1, rfl⟩
    rw [pk_mul, show (100 : Int32) = nI 100 from rfl, pk_div (by omega) (by decide) (by decide)]
theorem duD_b (h : ∀ c ∈ cs, clOk c) (hl : cs.length ≤ 10) (he : e < 100) : ∀ k, ∃ D, D ≤ 9801 * k ∧ duD n pd cs (nI e) y d k = nI D
  | 0 => ⟨0, by decide, rfl⟩
  | k + 1 => by
    obtain ⟨D, h1, h2⟩ := duD_b h hl he k
    unfold duD
    by_cases c : slS n pd cs y d k
    · obtain ⟨v, h3, h4, -⟩ := pyD_b (n := n) (pd := pd) (y := y) (d := d) (p := k) h hl he
      rw [if_pos c, h2, h4, nI_add]; exact ⟨D + v, by omega, rfl⟩
    · rw [if_neg c]; exact ⟨D, by omega, h2⟩
theorem hrD_b (hn : n ≤ 7) (h : ∀ c ∈ cs, clOk c) (hl : cs.length ≤ 10) (he : e < 100) (hp : p < n) : ∃ v, v ≤ 68607 ∧ hrD n pd cs (nI e) y d p = nI v := by
  unfold hrD
  by_cases c : pd 4 p ≠ 0 ∧ pd 2 p = d
  · obtain ⟨D, h1, h2⟩ := duD_b (n := n) (pd := pd) (y := y) (d := d) h hl he n
    have hb := mB_le (pd := pd) (d := d) n
    have hb0 : 0 < mB pd d n := Nat.pos_of_ne_zero (fun z => mB_0 z hp c)
    rw [if_pos c, h2, pk_div (by omega) hb0 (by omega)]
    have hd := Nat.div_add_mod D (mB pd d n)
    have hq : D / mB pd d n ≤ mB pd d n * (D / mB pd d n) := Nat.le_mul_of_pos_left _ hb0
    by_cases c2 : mB pd d p = 0
    · have er : nI D % nI (mB pd d n) = nI (D % mB pd d n) := by rw [← irem_eq_mod, pk_rem (by omega) hb0 (by omega)]
      rw [if_pos c2, er, nI_add]
      exact ⟨_, by omega, rfl⟩
    · rw [if_neg c2, Int32.add_zero]; exact ⟨_, by omega, rfl⟩
  · rw [if_neg c]; exact ⟨0, by decide, rfl⟩
theorem slD_b (h : ∀ c ∈ cs, clOk c) (hl : cs.length ≤ 10) (he : e < 100) : -1089 ≤ (slD n pd cs (nI e) y d p).toInt ∧ (slD n pd cs (nI e) y d p).toInt ≤ 9900 := by
  unfold slD
  by_cases c : slS n pd cs y d p
  · obtain ⟨v, h1, h2, w, h3, h4, h5⟩ := pyD_b (n := n) (pd := pd) (y := y) (d := d) (p := p) h hl he
    have hc := clLast_lt (w := 2) (d := 1) h (by decide)
    have ho : offD n pd y (clLast 3 99 cs) p < 12 := Nat.mod_lt _ (by decide)
    have hm : clLast 2 1 cs * offD n pd y (clLast 3 99 cs) p ≤ 99 * 11 := Nat.mul_le_mul (by omega) (by omega)
    rw [if_pos c, h2, h5, pk_mul]
    have e1 : (nI w - nI (clLast 2 1 cs * offD n pd y (clLast 3 99 cs) p)).toInt = (w : Int) - (clLast 2 1 cs * offD n pd y (clLast 3 99 cs) p : Nat) := by
      rw [subI (by rw [nI_toInt (by omega)]; omega) (by rw [nI_toInt (by omega)]; omega), nI_toInt (by omega), nI_toInt (by omega)]
    rw [subI (by rw [e1]; omega) (by rw [nI_toInt (by omega)]; omega), e1, nI_toInt (by omega)]
    omega
  · rw [if_neg c]; decide
theorem day1_b {s : DS} {B : Int} (hn : n ≤ 7) (h : ∀ c ∈ cs, clOk c) (hl : cs.length ≤ 10) (he : e < 100) (hB : B ≤ 1073000000) (hp : p < n) (hg : -B ≤ (s.2.2.1 p).toInt ∧ (s.2.2.1 p).toInt ≤ B) : -(B + 80000) ≤ ((day1 n pd cs (nI e) s).2.2.1 p).toInt ∧ ((day1 n pd cs (nI e) s).2.2.1 p).toInt ≤ B + 80000 := by
  obtain ⟨v, h1, h2⟩ := hrD_b (pd := pd) (y := s.2.1) (d := s.1) hn h hl he hp
  have h3 := slD_b (n := n) (pd := pd) (y := s.2.1) (d := s.1) (p := p) h hl he
  show _ ≤ (s.2.2.1 p + slD n pd cs (nI e) s.2.1 s.1 p + hrD n pd cs (nI e) s.2.1 s.1 p).toInt ∧ _
  have e1 : (s.2.2.1 p + slD n pd cs (nI e) s.2.1 s.1 p).toInt = (s.2.2.1 p).toInt + (slD n pd cs (nI e) s.2.1 s.1 p).toInt := addI (by omega) (by omega)
  have e2 : (s.2.2.1 p + slD n pd cs (nI e) s.2.1 s.1 p + hrD n pd cs (nI e) s.2.1 s.1 p).toInt = (s.2.2.1 p).toInt + (slD n pd cs (nI e) s.2.1 s.1 p).toInt + v := by
    rw [h2, addI (by rw [e1]; omega) (by rw [nI_toInt (by omega)]; omega), e1, nI_toInt (by omega)]
  show _ ≤ _ ∧ (s.2.2.1 p + slD n pd cs (nI e) s.2.1 s.1 p + hrD n pd cs (nI e) s.2.1 s.1 p).toInt ≤ _
  rw [e2]; omega
theorem days_b (hn : n ≤ 7) (h : ∀ c ∈ cs, clOk c) (hl : cs.length ≤ 10) (he : e < 100) (hp : p < n) : ∀ (N : Nat) {s : DS} {B : Int}, B + 80000 * N ≤ 1073000000 → (-B ≤ (s.2.2.1 p).toInt ∧ (s.2.2.1 p).toInt ≤ B) → -(B + 80000 * N) ≤ ((days n pd cs (nI e) N s).2.2.1 p).toInt ∧ ((days n pd cs (nI e) N s).2.2.1 p).toInt ≤ B + 80000 * N
  | 0, s, B, hB, hg => by
    show _ ≤ (s.2.2.1 p).toInt ∧ (s.2.2.1 p).toInt ≤ _
    omega
  | N + 1, s, B, hB, hg => by
    have h1 := day1_b (pd := pd) (s := s) hn h hl he (by omega) hp hg
    have h2 := days_b hn h hl he hp N (s := day1 n pd cs (nI e) s) (B := B + 80000) (by omega) h1
    show _ ≤ ((days n pd cs (nI e) N (day1 n pd cs (nI e) s)).2.2.1 p).toInt ∧ ((days n pd cs (nI e) N (day1 n pd cs (nI e) s)).2.2.1 p).toInt ≤ _
    omega
end X
end BOUND
