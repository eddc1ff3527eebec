/-! DAYS OF THE CLASS: one day as numbers; start, sell, share, go -/
section GO
abbrev slS (n : Nat) (pd : Nat → Nat → Nat) (cs : List CL) (y d p : Nat) : Prop := pd 4 p ≠ 0 ∧ selD n pd y (clLast 3 99 cs) p = d
def tkD (n : Nat) (pd : Nat → Nat → Nat) (cs : List CL) (y d p : Nat) : Int32 := takV (facT n pd y p d) (clTk cs)
def pyD (n : Nat) (pd : Nat → Nat → Nat) (cs : List CL) (due : Int32) (y d p : Nat) : Int32 := if mB pd d n = 0 then 0 else (tkD n pd cs y d p * due) / 100
def slD (n : Nat) (pd : Nat → Nat → Nat) (cs : List CL) (due : Int32) (y d p : Nat) : Int32 := if slS n pd cs y d p then (tkD n pd cs y d p - nI (clLast 2 1 cs) * nI (offD n pd y (clLast 3 99 cs) p)) - pyD n pd cs due y d p else 0
def duD (n : Nat) (pd : Nat → Nat → Nat) (cs : List CL) (due : Int32) (y d : Nat) : Nat → Int32
  | 0 => 0
  | k + 1 => if slS n pd cs y d k then duD n pd cs due y d k + pyD n pd cs due y d k else duD n pd cs due y d k
def hrD (n : Nat) (pd : Nat → Nat → Nat) (cs : List CL) (due : Int32) (y d p : Nat) : Int32 := if pd 4 p ≠ 0 ∧ pd 2 p = d then duD n pd cs due y d n / nI (mB pd d n) + (if mB pd d p = 0 then duD n pd cs due y d n % nI (mB pd d n) else 0) else 0
/-- date, year, more in the purses, got, dues -/
abbrev DS : Type := Nat × Nat × (Nat → Int32) × (Nat → Int32) × Int32
def day1 (n : Nat) (pd : Nat → Nat → Nat) (cs : List CL) (due : Int32) (s : DS) : DS := ((s.1 + 1) % 12, s.2.1 + (if s.1 = 11 then 1 else 0), fun p => s.2.2.1 p + slD n pd cs due s.2.1 s.1 p + hrD n pd cs due s.2.1 s.1 p, fun p => s.2.2.2.1 p + hrD n pd cs due s.2.1 s.1 p, duD n pd cs due s.2.1 s.1 n)
def days (n : Nat) (pd : Nat → Nat → Nat) (cs : List CL) (due : Int32) : Nat → DS → DS
  | 0, s => s
  | k + 1, s => days n pd cs due k (day1 n pd cs due s)
theorem mB_0 {pd : Nat → Nat → Nat} {d n p : Nat} (h : mB pd d n = 0) (hp : p < n) : ¬ (pd 4 p ≠ 0 ∧ pd 2 p = d) := by
  induction n with
  | zero => omega
  | succ n ih =>
    unfold mB at h
    intro z
    by_cases e : p = n
    · subst e; rw [if_pos z] at h; omega
    · exact ih (by omega) (by omega) z
/-- what of the class's memory the days do not touch -/
def FX (m m' : mM) : Prop := (∀ k, ¬ (2624 ≤ k ∧ k < 2688) → mI m' k = mI m k) ∧ (∀ c, ¬ (42 ≤ c ∧ c ≤ 45) → mA m' c = mA m c) ∧ (∀ c, mL m' c = mL m c) ∧ (∀ k, k ≠ 2624 → mR m' k = mR m k)
theorem FX.rfl {m : mM} : FX m m := ⟨fun _ _ => Eq.refl _, fun _ _ => Eq.refl _, fun _ => Eq.refl _, fun _ _ => Eq.refl _⟩
theorem FX.trans {a b c : mM} (h : FX a b) (g : FX b c) : FX a c := ⟨fun k hk => (g.1 k hk).trans (h.1 k hk), fun k hk => (g.2.1 k hk).trans (h.2.1 k hk), fun k => (g.2.2.1 k).trans (h.2.2.1 k), fun k hk => (g.2.2.2 k hk).trans (h.2.2.2 k hk)⟩
theorem FX.I {m : mM} {k : Nat} {v : Int32} (hk : 2624 ≤ k ∧ k < 2688) : FX m (wI m k v) := ⟨fun j hj => by rw [mI_wI, if_neg (by omega)], fun _ _ => Eq.refl _, fun _ => Eq.refl _, fun _ _ => Eq.refl _⟩
theorem FX.A {m : mM} {c : Nat} {v : List Int32} (hk : 42 ≤ c ∧ c ≤ 45) : FX m (wA m c v) := ⟨fun _ _ => Eq.refl _, fun j hj => by rw [mA_wA, if_neg (by omega)], fun _ => Eq.refl _, fun _ _ => Eq.refl _⟩
theorem FX.R {m : mM} {v : Nat} : FX m (wR m 2624 v) := ⟨fun _ _ => Eq.refl _, fun _ _ => Eq.refl _, fun _ => Eq.refl _, fun j hj => by rw [mR_wR, if_neg hj]⟩
section X
variable {m : mM} {n : Nat} {pd : Nat → Nat → Nat} {c t : Nat} {cs : List CL} {due : Int32}
theorem PXr.fr {m' : mM} (h : PXr m c n pd) (f : FX m m') : PXr m' c n pd := by
  obtain ⟨h1, h2, h3, h4, h5⟩ := h
  have hA : ∀ k, k < 9 → mA m' (c + k) = mA m (c + k) := fun k hk => f.2.1 _ (by omega)
  refine ⟨h1, by rw [f.1 _ (by omega)]; exact h2, h3, ?_, ?_⟩
  · rw [hA 1 (by omega), hA 2 (by omega), hA 3 (by omega), hA 4 (by omega), hA 6 (by omega), hA 7 (by omega)]; exact h4
  · rw [hA 1 (by omega), hA 2 (by omega), hA 3 (by omega), hA 4 (by omega), hA 6 (by omega), hA 7 (by omega)]; exact h5
theorem twA_b {t : Nat} (ht : t ≤ 6) : twA t = 8 ∨ (46 ≤ twA t ∧ twA t ≤ 76) := by
  match t, ht with
  | 0, _ => exact Or.inl rfl
  | k + 1, ht => right; show 46 ≤ 46 + 6 * k ∧ 46 + 6 * k ≤ 76; omega
theorem TXr.fr {m' : mM} (h : TXr m c t cs) (hc : c = 14 ∨ c = 23 ∨ c = 32) (f : FX m m') : TXr m' c t cs := by
  obtain ⟨h1, h2, h3, h4, h5⟩ := h
  have hb := twA_b h1
  have hA : ∀ k, k < 6 → mA m' (twA t + k) = mA m (twA t + k) := fun k hk => f.2.1 _ (by omega)
  have hI : ∀ k, k < 6 → mI m' (64 * twA t + k) = mI m (64 * twA t + k) := fun k hk => f.1 _ (by omega)
  refine ⟨h1, by rw [f.2.2.2 _ (by omega)]; exact h2, ?_, ?_, h5⟩
  · unfold TXh at h3 ⊢
    rw [hA 1 (by omega), hA 2 (by omega), hA 3 (by omega), hA 4 (by omega), hA 5 (by omega)]; exact h3
  · unfold TXe at h4 ⊢
    rw [hI 0 (by omega), hI 1 (by omega), hI 2 (by omega), hI 3 (by omega), hA 1 (by omega), hA 2 (by omega), hA 3 (by omega), hA 4 (by omega), hA 5 (by omega)]; exact h4
/-- the class's Days as they stand -/
def XB (m : mM) (c n : Nat) (pd : Nat → Nat → Nat) (t : Nat) (cs : List CL) (due : Int32) (s : DS) : Prop := PXr m c n pd ∧ TXr m c t cs ∧ BTr m n pd ∧ mR m 2624 = c ∧ mI m 2625 = due ∧ mI m 2626 = nI s.1 ∧ mI m 2627 = nI s.2.1 ∧ mI m 2628 = s.2.2.2.2 ∧ (mA m 42).length = 7 ∧ (mA m 43).length = 7 ∧ (mA m 44).length = 7 ∧ (∀ p, p < n → (mA m 42).getD p 0 = s.2.2.1 p) ∧ (∀ p, p < n → (mA m 43).getD p 0 = s.2.2.2.1 p) ∧ s.1 < 12
def XD (m : mM) (c n : Nat) (pd : Nat → Nat → Nat) (t : Nat) (cs : List CL) (due : Int32) (s : DS) : Prop := XB m c n pd t cs due s ∧ ∀ p, p < n → (mA m 44).getD p 0 = nI (selD n pd s.2.1 (clLast 3 99 cs) p)
theorem x_beginYear {s : DS} (h : XB m c n pd t cs due s) (hy : s.2.1 < 2 ^ 31) : ∃ m', f_X1_beginYear m = some ((), m') ∧ XD m' c n pd t cs due s ∧ FX m m' := by
  unfold f_X1_beginYear
  have main : ∀ (j k : Nat) (m : mM) (F : Nat), k + j = n → j < F → XB m c n pd t cs due s → (∀ p, p < k → (mA m 44).getD p 0 = nI (selD n pd s.2.1 (clLast 3 99 cs) p)) → ∃ m', f_X1_beginYear_2 F m (nI k) = some ((), m') ∧ XD m' c n pd t cs due s ∧ FX m m' := by
    intro j
    induction j with
    | zero =>
      intro k m F hk hF h hs
      obtain ⟨F', rfl⟩ : ∃ F', F = F' + 1 := ⟨F - 1, by omega⟩
      obtain rfl : k = n := by omega
      have hn := h.1.2.2.1.1
      refine ⟨m, ?_, ⟨h, hs⟩, FX.rfl⟩
      show fb_X1_beginYear_2 _ _ _ = _
      unfold fb_X1_beginYear_2
      rw [h.2.2.2.1, chR_t h.1.c, h.1.2.1, if_pos (nI_le (Nat.le_refl _) (by omega))]
    | succ j ih =>
      intro k m F hk hF h hs
      obtain ⟨F', rfl⟩ : ∃ F', F = F' + 1 := ⟨F - 1, by omega⟩
      obtain ⟨a1, a2, a3, a4, a5, a6, a7, a8, a9, a10, a11, a12, a13⟩ := id h
      have hn := a1.2.2.1.1
      have hkn : k < n := by omega
      have hw := wish_lt (y := s.2.1) a1.2.2.1 hkn
      have hfe := clLast_lt (w := 3) (d := 99) a2.2.2.2.2.1 (by decide)
      have fin : ∀ x : Int32, x = nI (selD n pd s.2.1 (clLast 3 99 cs) k) → ∃ m', ((sA 0 m 44 (nI k) x).bind fun m9 => f_X1_beginYear_2 F' m9 (nI k + 1)) = some ((), m') ∧ XD m' c n pd t cs due s ∧ FX m m' := by
        intro x hx
        rw [sA_at0 (by omega) (by omega), Option.bind_some, nI_1]
        have f : FX m (wA m 44 ((mA m 44).set k x)) := FX.A (by omega)
        have h' : XB (wA m 44 ((mA m 44).set k x)) c n pd t cs due s := ⟨a1.fr f, a2.fr a1.1 f, a3, a4, a5, a6, a7, a8, a9, a10, by rw [mA_wA, if_pos rfl, List.length_set]; exact a11, a12, a13⟩
        obtain ⟨m', q1, q2, q3⟩ := ih (k + 1) _ F' (by omega) (by omega) h' (fun p hp => by
          rw [mA_wA, if_pos rfl, gd_set]
          by_cases e : k = p
          · subst e; rw [if_pos ⟨rfl, by omega⟩]; exact hx
          · rw [if_neg (fun z => e z.1)]; exact hs p (by omega))
        exact ⟨m', q1, q2, f.trans q3⟩
      show ∃ m', fb_X1_beginYear_2 _ _ _ = some ((), m') ∧ _
      unfold fb_X1_beginYear_2
      rw [a4, chR_t a1.c, a1.2.1, if_neg (nI_ge hkn (by omega)), x_wanted a1 a3 a4 a7 hy hkn, bnd_some, a4, chR_t a1.c, a2.2.1, chR_t (twA_ok a2.1), show mI m (64 * twA t + 2) = nI (clLast 3 99 cs) from a2.2.2.2.1.1.2.2.1]
      by_cases e : wishD n pd s.2.1 k = clLast 3 99 cs
      · rw [if_pos (congrArg nI e), nI_1, show (12 : Int32) = nI 12 from rfl, rmI_at (by omega) (by decide) (by decide), Option.bind_some]
        exact fin _ (by unfold selD; rw [if_pos e])
      · rw [if_neg (fun z => e ((nI_eq (by omega) (by omega)).mp z))]
        exact fin _ (by unfold selD; rw [if_neg e])
  exact main n 0 m 1000 (by omega) (by have := h.1.2.2.1.1; omega) h (fun p hp => absurd hp (by omega))
theorem x_putOff {s : DS} {p : Nat} (h : XD m c n pd t cs due s) (hp : p < n) : f_X1_putOff m (nI p) = some (nI (offD n pd s.2.1 (clLast 3 99 cs) p), m) := by
  unfold f_X1_putOff
  obtain ⟨⟨a1, a2, a3, a4, a5, a6, a7, a8, a9, a10, a11, a12, a13⟩, h2⟩ := h
  have hn := a1.2.2.1.1
  rw [gA_at (by omega) (by omega), h2 p hp, Option.bind_some, a4, chR_t a1.c, (a1.g hp).2.2.2.1, Option.bind_some, off_at (sel_lt a1.2.2.1 hp) (a1.2.2.1.2 p hp).2.2.2.1, Option.bind_some]; rfl
theorem x_sell {s : DS} (h : XD m c n pd t cs due s) (hy : s.2.1 < 2 ^ 31) : ∃ m', f_X1_sell m = some ((), m') ∧ XD m' c n pd t cs due (s.1, s.2.1, fun p => s.2.2.1 p + slD n pd cs due s.2.1 s.1 p, s.2.2.2.1, duD n pd cs due s.2.1 s.1 n) ∧ FX m m' := by
  unfold f_X1_sell
  have main : ∀ (j k : Nat) (m : mM) (F : Nat), k + j = n → j < F → XD m c n pd t cs due (s.1, s.2.1, fun p => if p < k then s.2.2.1 p + slD n pd cs due s.2.1 s.1 p else s.2.2.1 p, s.2.2.2.1, duD n pd cs due s.2.1 s.1 k) → ∃ m', f_X1_sell_7 F m (nI k) = some ((), m') ∧ XD m' c n pd t cs due (s.1, s.2.1, fun p => s.2.2.1 p + slD n pd cs due s.2.1 s.1 p, s.2.2.2.1, duD n pd cs due s.2.1 s.1 n) ∧ FX m m' := by
    intro j
    induction j with
    | zero =>
      intro k m F hk hF h
      obtain ⟨F', rfl⟩ : ∃ F', F = F' + 1 := ⟨F - 1, by omega⟩
      obtain rfl : k = n := by omega
      obtain ⟨⟨a1, a2, a3, a4, a5, a6, a7, a8, a9, a10, a11, a12, a13⟩, h2⟩ := h
      have hn := a1.2.2.1.1
      refine ⟨m, ?_, ⟨⟨a1, a2, a3, a4, a5, a6, a7, a8, a9, a10, a11, fun p hp => ?_, a13⟩, h2⟩, FX.rfl⟩
      · show fb_X1_sell_7 _ _ _ = _
        unfold fb_X1_sell_7
        rw [a4, chR_t a1.c, a1.2.1, if_pos (nI_le (Nat.le_refl _) (by omega))]
      · have := a12 p hp
        rw [this]; exact if_pos hp
    | succ j ih =>
      intro k m F hk hF h
      obtain ⟨F', rfl⟩ : ∃ F', F = F' + 1 := ⟨F - 1, by omega⟩
      obtain ⟨⟨a1, a2, a3, a4, a5, a6, a7, a8, a9, a10, a11, a12, a13, a14⟩, h2⟩ := id h
      have hn := a1.2.2.1.1
      have hkn : k < n := by omega
      have r5 := (a1.2.2.1.2 k hkn).2.2.2.2.1
      have hsl := sel_lt (y := s.2.1) (fs := clLast 3 99 cs) a1.2.2.1 hkn
      have a14' : s.1 < 12 := a14
      have skip : ¬ slS n pd cs s.2.1 s.1 k → ∃ m', f_X1_sell_7 F' m (nI k + 1) = some ((), m') ∧ XD m' c n pd t cs due (s.1, s.2.1, fun p => s.2.2.1 p + slD n pd cs due s.2.1 s.1 p, s.2.2.2.1, duD n pd cs due s.2.1 s.1 n) ∧ FX m m' := by
        intro hz
        rw [nI_1]
        refine ih (k + 1) m F' (by omega) (by omega) ⟨⟨a1, a2, a3, a4, a5, a6, a7, ?_, a9, a10, a11, fun p hp => ?_, a13, a14⟩, h2⟩
        · rw [a8]; show duD n pd cs due s.2.1 s.1 k = (if _ then _ else _); rw [if_neg hz]
        · rw [a12 p hp]
          show (if p < k then _ else _) = if p < k + 1 then _ else _
          by_cases e : p = k
          · subst e; rw [if_neg (by omega), if_pos (by omega)]; unfold slD; rw [if_neg hz, Int32.add_zero]
          · by_cases e2 : p < k
            · rw [if_pos e2, if_pos (by omega)]
            · rw [if_neg e2, if_neg (by omega)]
      show ∃ m', fb_X1_sell_7 _ _ _ = some ((), m') ∧ _
      unfold fb_X1_sell_7
      rw [a4, chR_t a1.c, a1.2.1, if_neg (nI_ge hkn (by omega)), chR_t a1.c, (a1.g hkn).2.2.2.2.1, Option.bind_some]
      by_cases e1 : pd 4 k = 0
      · rw [if_pos ((nI_z (by omega)).mpr e1)]
        exact skip (fun z => z.1 e1)
      rw [if_neg (fun z => e1 ((nI_z (by omega)).mp z)), gA_at (by omega) (by omega), h2 k hkn, Option.bind_some, a6]
      by_cases e2 : selD n pd s.2.1 (clLast 3 99 cs) k = s.1
      · have hs : slS n pd cs s.2.1 s.1 k := ⟨e1, e2⟩
        rw [if_pos (congrArg nI e2), x_takes a1 a3 a4 a7 hy hkn a14 a2, bnd_some, a6, a3.g a14, Option.bind_some]
        have hmb := mB_le (pd := pd) (d := s.1) n
        have fin : ∀ x : Int32, x = pyD n pd cs due s.2.1 s.1 k → ∃ m', f_X1_sell_78 (fun m y => f_X1_sell_7 F' m y) m (nI k) (tkD n pd cs s.2.1 s.1 k) x = some ((), m') ∧ XD m' c n pd t cs due (s.1, s.2.1, fun p => s.2.2.1 p + slD n pd cs due s.2.1 s.1 p, s.2.2.2.1, duD n pd cs due s.2.1 s.1 n) ∧ FX m m' := by
          intro x hx
          unfold f_X1_sell_78
          rw [gA_at (by omega) (by omega), a12 k hkn, Option.bind_some, a4, chR_t a1.c, a2.2.1, chR_t (twA_ok a2.1), x_putOff h hkn, bnd_some, sA_at0 (by omega) (by omega), Option.bind_some, nmM_eq, show mI m (64 * twA t + 1) = nI (clLast 2 1 cs) from a2.2.2.2.1.1.2.1, nI_1]
          show ∃ m', f_X1_sell_7 F' (wI (wA m 42 ((mA m 42).set k ((if k < k then s.2.2.1 k + slD n pd cs due s.2.1 s.1 k else s.2.2.1 k) + (tkD n pd cs s.2.1 s.1 k - nI (clLast 2 1 cs) * nI (offD n pd s.2.1 (clLast 3 99 cs) k) - x)))) 2628 (mI m 2628 + x)) (nI (k + 1)) = some ((), m') ∧ _
          rw [if_neg (Nat.lt_irrefl k)]
          generalize hv : s.2.2.1 k + (tkD n pd cs s.2.1 s.1 k - nI (clLast 2 1 cs) * nI (offD n pd s.2.1 (clLast 3 99 cs) k) - x) = v
          have hv' : v = s.2.2.1 k + slD n pd cs due s.2.1 s.1 k := by rw [← hv, hx]; unfold slD; rw [if_pos hs]
          have f : FX m (wI (wA m 42 ((mA m 42).set k v)) 2628 (mI m 2628 + x)) := FX.trans (FX.A (by omega)) (FX.I (by omega))
          have hX : XD (wI (wA m 42 ((mA m 42).set k v)) 2628 (mI m 2628 + x)) c n pd t cs due (s.1, s.2.1, fun p => if p < k + 1 then s.2.2.1 p + slD n pd cs due s.2.1 s.1 p else s.2.2.1 p, s.2.2.2.1, duD n pd cs due s.2.1 s.1 (k + 1)) := by
            refine ⟨⟨a1.fr f, a2.fr a1.1 f, a3, a4, a5, a6, a7, ?_, ?_, a10, a11, fun p hp => ?_, a13, a14⟩, h2⟩
            · show mI m 2628 + x = (if slS n pd cs s.2.1 s.1 k then _ else _)
              rw [if_pos hs, a8, hx]
            · show ((mA m 42).set k v).length = 7
              rw [List.length_set]; exact a9
            · show ((mA m 42).set k v).getD p 0 = if p < k + 1 then _ else _
              rw [gd_set]
              by_cases e : k = p
              · subst e; rw [if_pos ⟨rfl, by omega⟩, if_pos (by omega), hv']
              · rw [if_neg (fun z => e z.1), a12 p hp]
                show (if p < k then _ else _) = _
                by_cases e2 : p < k
                · rw [if_pos e2, if_pos (by omega)]
                · rw [if_neg e2, if_neg (by omega)]
          obtain ⟨m', q1, q2, q3⟩ := ih (k + 1) (wI (wA m 42 ((mA m 42).set k v)) 2628 (mI m 2628 + x)) F' (by omega) (by omega) hX
          exact ⟨m', q1, q2, f.trans q3⟩
        by_cases e3 : mB pd s.1 n = 0
        · rw [if_pos (show nI (mB pd s.1 n) ≤ (0 : Int32) from (nI_le (by omega) (by decide) : nI (mB pd s.1 n) ≤ nI 0))]
          exact fin _ (by unfold pyD; rw [if_pos e3])
        · rw [if_neg (show ¬ nI (mB pd s.1 n) ≤ (0 : Int32) from (nI_ge (by omega) (by omega) : ¬ nI (mB pd s.1 n) ≤ nI 0)), a5]
          show ∃ m', (dvI (tkD n pd cs s.2.1 s.1 k * due) 100).bind _ = _ ∧ _
          unfold dvI
          rw [if_neg (by decide), Option.bind_some]
          exact fin _ (by unfold pyD; rw [if_neg e3])
      · rw [if_neg (fun z => e2 ((nI_eq (by omega) (by omega)).mp z))]
        exact skip (fun z => e2 z.2)
  rw [nmM_eq]
  obtain ⟨⟨a1, a2, a3, a4, a5, a6, a7, a8, a9, a10, a11, a12, a13⟩, h2⟩ := id h
  have f : FX m (wI m 2628 0) := FX.I (by omega)
  have hX : XD (wI m 2628 0) c n pd t cs due (s.1, s.2.1, fun p => if p < 0 then s.2.2.1 p + slD n pd cs due s.2.1 s.1 p else s.2.2.1 p, s.2.2.2.1, duD n pd cs due s.2.1 s.1 0) := by
    refine ⟨⟨a1.fr f, a2.fr a1.1 f, a3, a4, a5, a6, a7, rfl, a9, a10, a11, fun p hp => ?_, a13⟩, h2⟩
    exact a12 p hp
  obtain ⟨m', q1, q2, q3⟩ := main n 0 (wI m 2628 0) 1000 (by omega) (by have := a1.2.2.1.1; omega) hX
  exact ⟨m', q1, q2, f.trans q3⟩
theorem x_share {s : DS} (h : XD m c n pd t cs due s) (he : s.2.2.2.2 = duD n pd cs due s.2.1 s.1 n) : ∃ m', f_X1_share m = some ((), m') ∧ XD m' c n pd t cs due (s.1, s.2.1, fun p => s.2.2.1 p + hrD n pd cs due s.2.1 s.1 p, fun p => s.2.2.2.1 p + hrD n pd cs due s.2.1 s.1 p, s.2.2.2.2) ∧ FX m m' := by
  unfold f_X1_share
  obtain ⟨⟨a1, a2, a3, a4, a5, a6, a7, a8, a9, a10, a11, a12, a13, a14⟩, h2⟩ := id h
  have hn := a1.2.2.1.1
  have hmb := mB_le (pd := pd) (d := s.1) n
  rw [a6, a3.g a14, Option.bind_some]
  by_cases e0 : mB pd s.1 n = 0
  · rw [if_pos ((nI_z (by omega)).mpr e0)]
    have hz : ∀ p, p < n → hrD n pd cs due s.2.1 s.1 p = 0 := fun p hp => if_neg (mB_0 e0 hp)
    exact ⟨m, rfl, ⟨⟨a1, a2, a3, a4, a5, a6, a7, a8, a9, a10, a11, fun p hp => by
      rw [a12 p hp]; show _ = s.2.2.1 p + hrD n pd cs due s.2.1 s.1 p; rw [hz p hp, Int32.add_zero], fun p hp => by
      rw [a13 p hp]; show _ = s.2.2.2.1 p + hrD n pd cs due s.2.1 s.1 p; rw [hz p hp, Int32.add_zero], a14⟩, h2⟩, FX.rfl⟩
  rw [if_neg (fun z => e0 ((nI_z (by omega)).mp z))]
  unfold dvI rmI
  rw [if_neg (nI_ne0 (by omega) (by omega)), if_neg (nI_ne0 (by omega) (by omega)), Option.bind_some, Option.bind_some, a8, he]
  have main : ∀ (j k : Nat) (m : mM) (F : Nat), k + j = n → j < F → XD m c n pd t cs due (s.1, s.2.1, fun p => if p < k then s.2.2.1 p + hrD n pd cs due s.2.1 s.1 p else s.2.2.1 p, fun p => if p < k then s.2.2.2.1 p + hrD n pd cs due s.2.1 s.1 p else s.2.2.2.1 p, s.2.2.2.2) → ∃ m', f_X1_share_32 F m (duD n pd cs due s.2.1 s.1 n / nI (mB pd s.1 n)) (if mB pd s.1 k = 0 then duD n pd cs due s.2.1 s.1 n % nI (mB pd s.1 n) else 0) (nI k) = some ((), m') ∧ XD m' c n pd t cs due (s.1, s.2.1, fun p => s.2.2.1 p + hrD n pd cs due s.2.1 s.1 p, fun p => s.2.2.2.1 p + hrD n pd cs due s.2.1 s.1 p, s.2.2.2.2) ∧ FX m m' := by
    intro j
    induction j with
    | zero =>
      intro k m F hk hF h
      obtain ⟨F', rfl⟩ : ∃ F', F = F' + 1 := ⟨F - 1, by omega⟩
      obtain rfl : k = n := by omega
      obtain ⟨⟨a1, a2, a3, a4, a5, a6, a7, a8, a9, a10, a11, a12, a13, a14⟩, h2⟩ := h
      refine ⟨m, ?_, ⟨⟨a1, a2, a3, a4, a5, a6, a7, a8, a9, a10, a11, fun p hp => ?_, fun p hp => ?_, a14⟩, h2⟩, FX.rfl⟩
      · show fb_X1_share_32 _ _ _ _ _ = _
        unfold fb_X1_share_32
        rw [a4, chR_t a1.c, a1.2.1, if_pos (nI_le (Nat.le_refl _) (by omega))]
      · rw [a12 p hp]; exact if_pos hp
      · rw [a13 p hp]; exact if_pos hp
    | succ j ih =>
      intro k m F hk hF h
      obtain ⟨F', rfl⟩ : ∃ F', F = F' + 1 := ⟨F - 1, by omega⟩
      obtain ⟨⟨a1, a2, a3, a4, a5, a6, a7, a8, a9, a10, a11, a12, a13, a14⟩, h2⟩ := id h
      have a14' : s.1 < 12 := a14
      have hkn : k < n := by omega
      obtain ⟨r1, r2, r3, r4, r5, r6⟩ := a1.2.2.1.2 k hkn
      have skip : ¬ (pd 4 k ≠ 0 ∧ pd 2 k = s.1) → ∃ m', f_X1_share_32 F' m (duD n pd cs due s.2.1 s.1 n / nI (mB pd s.1 n)) (if mB pd s.1 k = 0 then duD n pd cs due s.2.1 s.1 n % nI (mB pd s.1 n) else 0) (nI k + 1) = some ((), m') ∧ XD m' c n pd t cs due (s.1, s.2.1, fun p => s.2.2.1 p + hrD n pd cs due s.2.1 s.1 p, fun p => s.2.2.2.1 p + hrD n pd cs due s.2.1 s.1 p, s.2.2.2.2) ∧ FX m m' := by
        intro hz
        have em : mB pd s.1 (k + 1) = mB pd s.1 k := by
          show mB pd s.1 k + (if pd 4 k ≠ 0 ∧ pd 2 k = s.1 then 1 else 0) = _
          rw [if_neg hz]; rfl
        have hX : XD m c n pd t cs due (s.1, s.2.1, fun p => if p < k + 1 then s.2.2.1 p + hrD n pd cs due s.2.1 s.1 p else s.2.2.1 p, fun p => if p < k + 1 then s.2.2.2.1 p + hrD n pd cs due s.2.1 s.1 p else s.2.2.2.1 p, s.2.2.2.2) := by
          have hh : hrD n pd cs due s.2.1 s.1 k = 0 := if_neg hz
          refine ⟨⟨a1, a2, a3, a4, a5, a6, a7, a8, a9, a10, a11, fun p hp => ?_, fun p hp => ?_, a14⟩, h2⟩
          · rw [a12 p hp]
            show (if p < k then _ else _) = if p < k + 1 then _ else _
            by_cases e : p = k
            · subst e; rw [if_neg (by omega), if_pos (by omega), hh, Int32.add_zero]
            · by_cases e2 : p < k
              · rw [if_pos e2, if_pos (by omega)]
              · rw [if_neg e2, if_neg (by omega)]
          · rw [a13 p hp]
            show (if p < k then _ else _) = if p < k + 1 then _ else _
            by_cases e : p = k
            · subst e; rw [if_neg (by omega), if_pos (by omega), hh, Int32.add_zero]
            · by_cases e2 : p < k
              · rw [if_pos e2, if_pos (by omega)]
              · rw [if_neg e2, if_neg (by omega)]
        have := ih (k + 1) m F' (by omega) (by omega) hX
        rw [em] at this
        rw [nI_1]; exact this
      show ∃ m', fb_X1_share_32 _ _ _ _ _ = some ((), m') ∧ _
      unfold fb_X1_share_32
      rw [a4, chR_t a1.c, a1.2.1, if_neg (nI_ge hkn (by omega)), chR_t a1.c, (a1.g hkn).2.2.2.2.1, Option.bind_some]
      by_cases e1 : pd 4 k = 0
      · rw [if_pos ((nI_z (by omega)).mpr e1)]; exact skip (fun z => z.1 e1)
      rw [if_neg (fun z => e1 ((nI_z (by omega)).mp z)), chR_t a1.c, (a1.g hkn).2.2.1, Option.bind_some, a6]
      by_cases e2 : pd 2 k = s.1
      · have hh : hrD n pd cs due s.2.1 s.1 k = duD n pd cs due s.2.1 s.1 n / nI (mB pd s.1 n) + (if mB pd s.1 k = 0 then duD n pd cs due s.2.1 s.1 n % nI (mB pd s.1 n) else 0) := if_pos ⟨e1, e2⟩
        have em : ¬ mB pd s.1 (k + 1) = 0 := by
          show ¬ mB pd s.1 k + (if pd 4 k ≠ 0 ∧ pd 2 k = s.1 then 1 else 0) = 0
          rw [if_pos ⟨e1, e2⟩]; omega
        have g12 : (mA m 42).getD k 0 = s.2.2.1 k := (a12 k hkn).trans (if_neg (Nat.lt_irrefl k))
        have g13 : (mA m 43).getD k 0 = s.2.2.2.1 k := (a13 k hkn).trans (if_neg (Nat.lt_irrefl k))
        rw [if_pos (congrArg nI e2), gA_at (by omega) (by omega), g12, Option.bind_some, ← hh]
        generalize hv : s.2.2.1 k + hrD n pd cs due s.2.1 s.1 k = v
        rw [sA_at0 (by omega) (by omega), Option.bind_some, show mA (wA m 42 ((mA m 42).set k v)) 43 = mA m 43 from rfl, gA_at (by omega) (by omega), g13, Option.bind_some]
        generalize hu : s.2.2.2.1 k + hrD n pd cs due s.2.1 s.1 k = u
        rw [sA_at0 (by show k < (mA m 43).length; omega) (by omega), Option.bind_some, show mA (wA m 42 ((mA m 42).set k v)) 43 = mA m 43 from rfl]
        have f : FX m (wA (wA m 42 ((mA m 42).set k v)) 43 ((mA m 43).set k u)) := FX.trans (FX.A (by omega)) (FX.A (by omega))
        have hX : XD (wA (wA m 42 ((mA m 42).set k v)) 43 ((mA m 43).set k u)) c n pd t cs due (s.1, s.2.1, fun p => if p < k + 1 then s.2.2.1 p + hrD n pd cs due s.2.1 s.1 p else s.2.2.1 p, fun p => if p < k + 1 then s.2.2.2.1 p + hrD n pd cs due s.2.1 s.1 p else s.2.2.2.1 p, s.2.2.2.2) := by
          refine ⟨⟨a1.fr f, a2.fr a1.1 f, a3, a4, a5, a6, a7, a8, ?_, ?_, a11, fun p hp => ?_, fun p hp => ?_, a14⟩, h2⟩
          · show ((mA m 42).set k v).length = 7
            rw [List.length_set]; exact a9
          · show ((mA m 43).set k u).length = 7
            rw [List.length_set]; exact a10
          · show ((mA m 42).set k v).getD p 0 = if p < k + 1 then _ else _
            rw [gd_set]
            by_cases e : k = p
            · subst e; rw [if_pos ⟨rfl, by omega⟩, if_pos (by omega), hv]
            · rw [if_neg (fun z => e z.1), a12 p hp]
              show (if p < k then _ else _) = _
              by_cases e2 : p < k
              · rw [if_pos e2, if_pos (by omega)]
              · rw [if_neg e2, if_neg (by omega)]
          · show ((mA m 43).set k u).getD p 0 = if p < k + 1 then _ else _
            rw [gd_set]
            by_cases e : k = p
            · subst e; rw [if_pos ⟨rfl, by omega⟩, if_pos (by omega), hu]
            · rw [if_neg (fun z => e z.1), a13 p hp]
              show (if p < k then _ else _) = _
              by_cases e2 : p < k
              · rw [if_pos e2, if_pos (by omega)]
              · rw [if_neg e2, if_neg (by omega)]
        obtain ⟨m', q1, q2, q3⟩ := ih (k + 1) _ F' (by omega) (by omega) hX
        rw [if_neg em] at q1
        exact ⟨m', by rw [nI_1]; exact q1, q2, f.trans q3⟩
      · rw [if_neg (fun z => e2 ((nI_eq (by omega) (by omega)).mp z))]; exact skip (fun z => e2 z.2)
  have hX : XD m c n pd t cs due (s.1, s.2.1, fun p => if p < 0 then s.2.2.1 p + hrD n pd cs due s.2.1 s.1 p else s.2.2.1 p, fun p => if p < 0 then s.2.2.2.1 p + hrD n pd cs due s.2.1 s.1 p else s.2.2.2.1 p, s.2.2.2.2) :=
    ⟨⟨a1, a2, a3, a4, a5, a6, a7, a8, a9, a10, a11, fun p hp => a12 p hp, fun p hp => a13 p hp, a14⟩, h2⟩
  have := main n 0 m 1000 (by omega) (by omega) hX
  rw [show (if mB pd s.1 0 = 0 then duD n pd cs due s.2.1 s.1 n % nI (mB pd s.1 n) else 0) = duD n pd cs due s.2.1 s.1 n % nI (mB pd s.1 n) from if_pos rfl, he] at this
  exact this
theorem x_go {N : Nat} (hN : N < 1000) {s : DS} (h : XD m c n pd t cs due s) (hy : s.2.1 + N < 2 ^ 31) : ∃ m', f_X1_go m (nI N) = some ((), m') ∧ XD m' c n pd t cs due (days n pd cs due N s) ∧ FX m m' := by
  unfold f_X1_go
  have main : ∀ (j k : Nat) (m : mM) (F : Nat) (s : DS), k + j = N → j < F → s.2.1 + j < 2 ^ 31 → XD m c n pd t cs due s → ∃ m', f_X1_go_2 F m (nI N) (nI k) = some ((), m') ∧ XD m' c n pd t cs due (days n pd cs due j s) ∧ FX m m' := by
    intro j
    induction j with
    | zero =>
      intro k m F s hk hF hy h
      obtain ⟨F', rfl⟩ : ∃ F', F = F' + 1 := ⟨F - 1, by omega⟩
      refine ⟨m, ?_, h, FX.rfl⟩
      show fb_X1_go_2 _ _ _ _ = _
      unfold fb_X1_go_2
      rw [if_pos (nI_le (by omega) (by omega))]
    | succ j ih =>
      intro k m F s hk hF hy h
      obtain ⟨F', rfl⟩ : ∃ F', F = F' + 1 := ⟨F - 1, by omega⟩
      obtain ⟨m1, p1, p2, p3⟩ := x_sell h (by omega)
      obtain ⟨m2, q1, q2, q3⟩ := x_share p2 rfl
      obtain ⟨⟨a1, a2, a3, a4, a5, a6, a7, a8, a9, a10, a11, a12, a13, a14⟩, h2⟩ := id q2
      have a14' : s.1 < 12 := a14
      show ∃ m', fb_X1_go_2 _ _ _ _ = some ((), m') ∧ _
      unfold fb_X1_go_2
      rw [if_neg (nI_ge (by omega) (by omega)), p1, bnd_some, q1, bnd_some, nmM_eq, a6, nI_1, nI_1]
      show ∃ m', (if nI (s.1 + 1) < (12 : Int32) then _ else _) = _ ∧ _
      by_cases e : s.1 + 1 < 12
      · rw [if_pos (show nI (s.1 + 1) < (12 : Int32) from (nI_lt e (by decide) : nI (s.1 + 1) < nI 12))]
        have f : FX m2 (wI m2 2626 (nI (s.1 + 1))) := FX.I (by omega)
        have ed : day1 n pd cs due s = (s.1 + 1, s.2.1, fun p => s.2.2.1 p + slD n pd cs due s.2.1 s.1 p + hrD n pd cs due s.2.1 s.1 p, fun p => s.2.2.2.1 p + hrD n pd cs due s.2.1 s.1 p, duD n pd cs due s.2.1 s.1 n) := by
          unfold day1
          rw [if_neg (by omega), show (s.1 + 1) % 12 = s.1 + 1 by omega]; rfl
        have hX : XD (wI m2 2626 (nI (s.1 + 1))) c n pd t cs due (day1 n pd cs due s) := by
          rw [ed]
          exact ⟨⟨a1.fr f, a2.fr a1.1 f, a3, a4, a5, rfl, a7, a8, a9, a10, a11, a12, a13, e⟩, h2⟩
        obtain ⟨m', r1, r2, r3⟩ := ih (k + 1) _ F' (day1 n pd cs due s) (by omega) (by omega) (by rw [ed]; show s.2.1 + j < _; omega) hX
        exact ⟨m', r1, r2, ((p3.trans q3).trans f).trans r3⟩
      · rw [if_neg (show ¬ nI (s.1 + 1) < (12 : Int32) from (nI_nlt (by omega) (by omega) : ¬ nI (s.1 + 1) < nI 12)), nmM_eq, nmM_eq]
        have ed : day1 n pd cs due s = (0, s.2.1 + 1, fun p => s.2.2.1 p + slD n pd cs due s.2.1 s.1 p + hrD n pd cs due s.2.1 s.1 p, fun p => s.2.2.2.1 p + hrD n pd cs due s.2.1 s.1 p, duD n pd cs due s.2.1 s.1 n) := by
          unfold day1
          rw [if_pos (by omega), show (s.1 + 1) % 12 = 0 by omega]
        have ey : mI (wI (wI m2 2626 (nI (s.1 + 1))) 2626 0) 2627 + 1 = nI (s.2.1 + 1) := by
          show mI m2 2627 + 1 = _
          rw [a7]; exact nI_1 _
        rw [ey]
        have f : FX m2 (wI (wI (wI m2 2626 (nI (s.1 + 1))) 2626 0) 2627 (nI (s.2.1 + 1))) := FX.trans (FX.trans (FX.I (by omega)) (FX.I (by omega))) (FX.I (by omega))
        have hX : XB (wI (wI (wI m2 2626 (nI (s.1 + 1))) 2626 0) 2627 (nI (s.2.1 + 1))) c n pd t cs due (day1 n pd cs due s) := by
          rw [ed]
          exact ⟨a1.fr f, a2.fr a1.1 f, a3, a4, a5, rfl, rfl, a8, a9, a10, a11, a12, a13, by show 0 < 12; decide⟩
        obtain ⟨m3, b1, b2, b3⟩ := x_beginYear hX (by rw [ed]; show s.2.1 + 1 < _; omega)
        rw [b1, bnd_some]
        obtain ⟨m', r1, r2, r3⟩ := ih (k + 1) m3 F' (day1 n pd cs due s) (by omega) (by omega) (by rw [ed]; show s.2.1 + 1 + j < _; omega) b2
        exact ⟨m', r1, r2, (((p3.trans q3).trans f).trans b3).trans r3⟩
  exact main N 0 m 1000 s (by omega) hN hy h
/-- what start needs -/
def XR0 (m : mM) : Prop := (mA m 42).length = 7 ∧ (mA m 43).length = 7 ∧ (mA m 44).length = 7 ∧ (mA m 45).length = 12
theorem x_start {dt yr : Nat} (h : PXr m c n pd) (ht : TXr m c t cs) (h0 : XR0 m) (hd : mI m (64 * c + 1) = nI dt) (hd2 : dt < 12) (hy : mI m (64 * c + 2) = nI yr) (hy2 : yr < 2 ^ 31) : ∃ m', f_X1_start m c due = some ((), m') ∧ XD m' c n pd t cs due (dt, yr, fun _ => 0, fun _ => 0, mI m 2628) ∧ FX m m' := by
  have hc3 := h.1
  have hn := h.2.2.1.1
  have main2 : ∀ (j k : Nat) (m : mM) (F : Nat), k + j = n → j < F → PXr m c n pd → TXr m c t cs → XR0 m → mR m 2624 = c → mI m 2625 = due → mI m 2626 = nI dt → mI m 2627 = nI yr → (∀ p, p < k → (mA m 42).getD p 0 = 0 ∧ (mA m 43).getD p 0 = 0) → (∀ d, d < 12 → (mA m 45).getD d 0 = nI (mB pd d k)) → ∃ m', f_X1_start_49 F m c (nI k) = some ((), m') ∧ XD m' c n pd t cs due (dt, yr, fun _ => 0, fun _ => 0, mI m 2628) ∧ FX m m' := by
    intro j
    induction j with
    | zero =>
      intro k m F hk hF h ht h0 q1 q2 q3 q4 q5 q6
      obtain ⟨F', rfl⟩ : ∃ F', F = F' + 1 := ⟨F - 1, by omega⟩
      obtain rfl : k = n := by omega
      show ∃ m', fb_X1_start_49 _ _ _ _ = some ((), m') ∧ _
      unfold fb_X1_start_49
      rw [h.2.1, if_pos (nI_le (Nat.le_refl _) (by omega))]
      obtain ⟨m', r1, r2, r3⟩ := x_beginYear (s := (dt, yr, fun _ => 0, fun _ => 0, mI m 2628)) ⟨h, ht, ⟨h0.2.2.2, q6⟩, q1, q2, q3, q4, rfl, h0.1, h0.2.1, h0.2.2.1, fun p hp => (q5 p hp).1, fun p hp => (q5 p hp).2, hd2⟩ hy2
      rw [r1, bnd_some]
      exact ⟨m', rfl, r2, r3⟩
    | succ j ih =>
      intro k m F hk hF h ht h0 q1 q2 q3 q4 q5 q6
      obtain ⟨F', rfl⟩ : ∃ F', F = F' + 1 := ⟨F - 1, by omega⟩
      have hkn : k < n := by omega
      obtain ⟨r1, r2, r3, r4, r5, r6⟩ := h.2.2.1.2 k hkn
      obtain ⟨l1, l2, l3, l4⟩ := id h0
      show ∃ m', fb_X1_start_49 _ _ _ _ = some ((), m') ∧ _
      unfold fb_X1_start_49
      rw [h.2.1, if_neg (nI_ge hkn (by omega)), sA_at0 (by omega) (by omega), Option.bind_some, sA_at0 (by show k < (mA m 43).length; omega) (by omega), Option.bind_some, show mA (wA m 42 ((mA m 42).set k 0)) 43 = mA m 43 from rfl, nI_1]
      have f : FX m (wA (wA m 42 ((mA m 42).set k 0)) 43 ((mA m 43).set k 0)) := FX.trans (FX.A (by omega)) (FX.A (by omega))
      have h' := h.fr f
      have z5 : ∀ p, p < k + 1 → ((mA m 42).set k 0).getD p 0 = 0 ∧ ((mA m 43).set k 0).getD p 0 = 0 := fun p hp => by
        rw [gd_set, gd_set]
        by_cases e : k = p
        · subst e; rw [if_pos ⟨rfl, by omega⟩, if_pos ⟨rfl, by omega⟩]; exact ⟨rfl, rfl⟩
        · rw [if_neg (fun z => e z.1), if_neg (fun z => e z.1)]; exact q5 p (by omega)
      have z0 : XR0 (wA (wA m 42 ((mA m 42).set k 0)) 43 ((mA m 43).set k 0)) := ⟨by show ((mA m 42).set k 0).length = 7; rw [List.length_set]; exact l1, by show ((mA m 43).set k 0).length = 7; rw [List.length_set]; exact l2, l3, l4⟩
      rw [(h'.g hkn).2.2.2.2.1, Option.bind_some]
      by_cases e : pd 4 k = 0
      · rw [if_pos ((nI_z (by omega)).mpr e)]
        have em : ∀ d, mB pd d (k + 1) = mB pd d k := fun d => by
          show mB pd d k + (if pd 4 k ≠ 0 ∧ pd 2 k = d then 1 else 0) = _
          rw [if_neg (fun z => z.1 e)]; rfl
        obtain ⟨m', s1, s2, s3⟩ := ih (k + 1) _ F' (by omega) (by omega) h' (ht.fr hc3 f) z0 q1 q2 q3 q4 z5 (fun d hd => by rw [em]; exact q6 d hd)
        exact ⟨m', s1, s2, f.trans s3⟩
      · rw [if_neg (fun z => e ((nI_z (by omega)).mp z)), (h'.g hkn).2.2.1, Option.bind_some, show mA (wA (wA m 42 ((mA m 42).set k 0)) 43 ((mA m 43).set k 0)) 45 = mA m 45 from rfl, gA_at (by omega) (by omega), q6 _ r3, Option.bind_some, sA_at0 (by show pd 2 k < (mA m 45).length; omega) (by omega), Option.bind_some, show mA (wA (wA m 42 ((mA m 42).set k 0)) 43 ((mA m 43).set k 0)) 45 = mA m 45 from rfl, nI_1]
        have f2 : FX m (wA (wA (wA m 42 ((mA m 42).set k 0)) 43 ((mA m 43).set k 0)) 45 ((mA m 45).set (pd 2 k) (nI (mB pd (pd 2 k) k + 1)))) := f.trans (FX.A (by omega))
        obtain ⟨m', s1, s2, s3⟩ := ih (k + 1) _ F' (by omega) (by omega) (h.fr f2) (ht.fr hc3 f2) ⟨z0.1, z0.2.1, l3, by show ((mA m 45).set _ _).length = 12; rw [List.length_set]; exact l4⟩ q1 q2 q3 q4 z5 (fun d hd => by
          show ((mA m 45).set _ _).getD d 0 = nI (mB pd d k + if pd 4 k ≠ 0 ∧ pd 2 k = d then 1 else 0)
          rw [gd_set]
          by_cases e2 : pd 2 k = d
          · rw [if_pos ⟨e2, by omega⟩, if_pos ⟨e, e2⟩, e2]
          · rw [if_neg (fun z => e2 z.1), if_neg (fun z => e2 z.2)]; exact q6 d hd)
        exact ⟨m', s1, s2, f2.trans s3⟩
  have main1 : ∀ (j k : Nat) (m : mM) (F : Nat), k + j = 12 → j < F → PXr m c n pd → TXr m c t cs → XR0 m → mR m 2624 = c → mI m 2625 = due → mI m 2626 = nI dt → mI m 2627 = nI yr → (∀ d, d < k → (mA m 45).getD d 0 = 0) → ∃ m', f_X1_start_28 F m c (nI k) = some ((), m') ∧ XD m' c n pd t cs due (dt, yr, fun _ => 0, fun _ => 0, mI m 2628) ∧ FX m m' := by
    intro j
    induction j with
    | zero =>
      intro k m F hk hF h ht h0 q1 q2 q3 q4 q5
      obtain ⟨F', rfl⟩ : ∃ F', F = F' + 1 := ⟨F - 1, by omega⟩
      obtain rfl : k = 12 := by omega
      show ∃ m', fb_X1_start_28 _ _ _ _ = some ((), m') ∧ _
      unfold fb_X1_start_28
      rw [if_pos (show (12 : Int32) ≤ nI 12 by decide)]
      exact main2 n 0 m 1000 (by omega) (by omega) h ht h0 q1 q2 q3 q4 (fun p hp => absurd hp (Nat.not_lt_zero p)) (fun d hd => q5 d hd)
    | succ j ih =>
      intro k m F hk hF h ht h0 q1 q2 q3 q4 q5
      obtain ⟨F', rfl⟩ : ∃ F', F = F' + 1 := ⟨F - 1, by omega⟩
      obtain ⟨l1, l2, l3, l4⟩ := id h0
      show ∃ m', fb_X1_start_28 _ _ _ _ = some ((), m') ∧ _
      unfold fb_X1_start_28
      rw [if_neg (show ¬ (12 : Int32) ≤ nI k from (nI_ge (by omega) (by decide) : ¬ nI 12 ≤ nI k)), sA_at0 (by omega) (by omega), Option.bind_some, nI_1]
      have f : FX m (wA m 45 ((mA m 45).set k 0)) := FX.A (by omega)
      obtain ⟨m', s1, s2, s3⟩ := ih (k + 1) _ F' (by omega) (by omega) (h.fr f) (ht.fr hc3 f) ⟨l1, l2, l3, by show ((mA m 45).set _ _).length = 12; rw [List.length_set]; exact l4⟩ q1 q2 q3 q4 (fun d hd => by
        show ((mA m 45).set _ _).getD d 0 = 0
        rw [gd_set]
        by_cases e : k = d
        · rw [if_pos ⟨e, by omega⟩]
        · rw [if_neg (fun z => e z.1)]; exact q5 d (by omega))
      exact ⟨m', s1, s2, f.trans s3⟩
  unfold f_X1_start
  rw [nmM_eq, nmM_eq, nmM_eq, nmM_eq]
  have e1 : mI (wI (wR m 2624 c) 2625 due) (64 * c + 1) = nI dt := by rw [mI_wI, if_neg (by omega)]; exact hd
  rw [e1]
  have e2 : mI (wI (wI (wR m 2624 c) 2625 due) 2626 (nI dt)) (64 * c + 2) = nI yr := by rw [mI_wI, if_neg (by omega), mI_wI, if_neg (by omega)]; exact hy
  rw [e2]
  have f : FX m (wI (wI (wI (wR m 2624 c) 2625 due) 2626 (nI dt)) 2627 (nI yr)) := FX.trans (FX.trans (FX.trans FX.R (FX.I (by omega))) (FX.I (by omega))) (FX.I (by omega))
  obtain ⟨m', s1, s2, s3⟩ := main1 12 0 _ 1000 (by omega) (by omega) (h.fr f) (ht.fr hc3 f) h0 rfl rfl rfl rfl (fun d hd => absurd hd (Nat.not_lt_zero d))
  exact ⟨m', s1, s2, f.trans s3⟩
end X
end GO
