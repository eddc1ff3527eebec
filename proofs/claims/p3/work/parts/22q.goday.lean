/-! DAYS OF THE REFERENCE -/
section GODAY
/-- what of the reference's memory the days do not touch -/
def FM (m m' : mM) : Prop := (∀ k, k ≠ 1 → k ≠ 2 → mI m' k = mI m k) ∧ (∀ c, c ≠ 5 → c ≠ 17 → c ≠ 18 → mA m' c = mA m c) ∧ (∀ c, mL m' c = mL m c) ∧ (∀ k, mR m' k = mR m k)
theorem FM.rfl {m : mM} : FM m m := ⟨fun _ _ _ => Eq.refl _, fun _ _ _ _ => Eq.refl _, fun _ => Eq.refl _, fun _ => Eq.refl _⟩
theorem FM.trans {a b c : mM} (h : FM a b) (g : FM b c) : FM a c := ⟨fun k h1 h2 => (g.1 k h1 h2).trans (h.1 k h1 h2), fun k h1 h2 h3 => (g.2.1 k h1 h2 h3).trans (h.2.1 k h1 h2 h3), fun k => (g.2.2.1 k).trans (h.2.2.1 k), fun k => (g.2.2.2 k).trans (h.2.2.2 k)⟩
theorem FM.I {m : mM} {k : Nat} {v : Int32} (hk : k = 1 ∨ k = 2) : FM m (wI m k v) := ⟨fun j h1 h2 => by rw [mI_wI, if_neg (by omega)], fun _ _ _ _ => Eq.refl _, fun _ => Eq.refl _, fun _ => Eq.refl _⟩
theorem FM.A {m : mM} {c : Nat} {v : List Int32} (hk : c = 5 ∨ c = 17 ∨ c = 18) : FM m (wA m c v) := ⟨fun _ _ _ => Eq.refl _, fun j h1 h2 h3 => by rw [mA_wA, if_neg (by omega)], fun _ => Eq.refl _, fun _ => Eq.refl _⟩
section M
variable {m : mM} {n : Nat} {pd : Nat → Nat → Nat} {tw : Nat} {cs : List CL} {due : Int32} {pu : Nat → Int32}
theorem PT.fr {m' : mM} (h : PT m n pd tw cs) (f : FM m m') : PT m' n pd tw cs := by
  obtain ⟨⟨h1, h2, h3, h4⟩, g1, g2, g3, g4, g5, g6⟩ := h
  have hA : ∀ c, c ≠ 5 → c ≠ 17 → c ≠ 18 → mA m' c = mA m c := f.2.1
  refine ⟨⟨by rw [f.1 0 (by decide) (by decide)]; exact h1, h2, ?_, ?_⟩, g1, by rw [f.1 11 (by decide) (by decide)]; exact g2, ?_, g4, g5, fun hz => ?_⟩
  · rw [hA 1 (by decide) (by decide) (by decide), hA 2 (by decide) (by decide) (by decide), hA 3 (by decide) (by decide) (by decide), hA 4 (by decide) (by decide) (by decide), hA 7 (by decide) (by decide) (by decide), hA 6 (by decide) (by decide) (by decide)]; exact h3
  · rw [hA 1 (by decide) (by decide) (by decide), hA 2 (by decide) (by decide) (by decide), hA 3 (by decide) (by decide) (by decide), hA 4 (by decide) (by decide) (by decide), hA 7 (by decide) (by decide) (by decide), hA 6 (by decide) (by decide) (by decide)]; exact h4
  · unfold TMh at g3 ⊢
    rw [hA 9 (by decide) (by decide) (by decide), hA 10 (by decide) (by decide) (by decide), hA 11 (by decide) (by decide) (by decide), hA 12 (by decide) (by decide) (by decide), hA 13 (by decide) (by decide) (by decide), hA 14 (by decide) (by decide) (by decide), hA 15 (by decide) (by decide) (by decide), hA 16 (by decide) (by decide) (by decide)]; exact g3
  · have := g6 hz
    unfold TMe at this ⊢
    rw [hA 9 (by decide) (by decide) (by decide), hA 10 (by decide) (by decide) (by decide), hA 11 (by decide) (by decide) (by decide), hA 12 (by decide) (by decide) (by decide), hA 13 (by decide) (by decide) (by decide), hA 14 (by decide) (by decide) (by decide)]; exact this
def DUE (m : mM) (cs : List CL) (due : Int32) : Prop := (mI m 27 = -1 ∧ due = nI (clLast 1 10 cs)) ∨ (mI m 27 = due ∧ 0 ≤ due)
theorem DUE.fr {m' : mM} (h : DUE m cs due) (f : FM m m') : DUE m' cs due := by
  unfold DUE at h ⊢
  rw [f.1 27 (by decide) (by decide)]; exact h
theorem m_due (h : MCl m tw cs) (hd : DUE m cs due) : f_X7_dueNow m = some (due, m) := by
  rcases hd with ⟨h1, rfl⟩ | ⟨h1, h2⟩
  · exact m_dueNow h h1
  · exact m_dueNow' h1 h2
/-- the reference in the midst of days -/
def MD (m : mM) (n : Nat) (pd : Nat → Nat → Nat) (tw : Nat) (cs : List CL) (due : Int32) (pu : Nat → Int32) (s : DS) : Prop := PT m n pd tw cs ∧ DUE m cs due ∧ mI m 1 = nI s.1 ∧ mI m 2 = nI s.2.1 ∧ (mA m 5).length = 7 ∧ (mA m 17).length = 100 ∧ (mA m 18).length = 7 ∧ (∀ p, p < n → (mA m 5).getD p 0 = pu p + s.2.2.1 p) ∧ (∀ p, p < n → (mA m 18).getD p 0 = s.2.2.2.1 p) ∧ s.1 < 12
theorem m_sell {s : DS} (h : MD m n pd tw cs due pu s) (hy : s.2.1 < 2 ^ 31) : ∃ m', f_X7_goDay_13 1000 m (nI (mB pd s.1 n)) 0 0 = (if nI (mB pd s.1 n) = 0 then f_X7_goDay_129 1000 m' (nI (mB pd s.1 n)) (duD n pd cs due s.2.1 s.1 n) 0 0 else (rmI (duD n pd cs due s.2.1 s.1 n) (nI (mB pd s.1 n))).bind fun x4 => f_X7_goDay_129 1000 m' (nI (mB pd s.1 n)) (duD n pd cs due s.2.1 s.1 n) x4 0) ∧ MD m' n pd tw cs due pu (s.1, s.2.1, fun p => s.2.2.1 p + slD n pd cs due s.2.1 s.1 p, s.2.2.2.1, duD n pd cs due s.2.1 s.1 n) ∧ FM m m' := by
  have hn := h.1.1.2.1.1
  have hmb := mB_le (pd := pd) (d := s.1) n
  have main : ∀ (j k : Nat) (m : mM) (F : Nat), k + j = n → j < F → MD m n pd tw cs due pu (s.1, s.2.1, fun p => if p < k then s.2.2.1 p + slD n pd cs due s.2.1 s.1 p else s.2.2.1 p, s.2.2.2.1, duD n pd cs due s.2.1 s.1 k) → ∃ m', f_X7_goDay_13 F m (nI (mB pd s.1 n)) (duD n pd cs due s.2.1 s.1 k) (nI k) = (if nI (mB pd s.1 n) = 0 then f_X7_goDay_129 1000 m' (nI (mB pd s.1 n)) (duD n pd cs due s.2.1 s.1 n) 0 0 else (rmI (duD n pd cs due s.2.1 s.1 n) (nI (mB pd s.1 n))).bind fun x4 => f_X7_goDay_129 1000 m' (nI (mB pd s.1 n)) (duD n pd cs due s.2.1 s.1 n) x4 0) ∧ MD m' n pd tw cs due pu (s.1, s.2.1, fun p => s.2.2.1 p + slD n pd cs due s.2.1 s.1 p, s.2.2.2.1, duD n pd cs due s.2.1 s.1 n) ∧ FM m m' := by
    intro j
    induction j with
    | zero =>
      intro k m F hk hF h
      obtain ⟨F', rfl⟩ : ∃ F', F = F' + 1 := ⟨F - 1, by omega⟩
      obtain rfl : k = n := by omega
      obtain ⟨a1, a2, a3, a4, a5, a6, a7, a8, a9⟩ := h
      refine ⟨m, ?_, ⟨a1, a2, a3, a4, a5, a6, a7, fun p hp => ?_, a9⟩, FM.rfl⟩
      · show fb_X7_goDay_13 _ _ _ _ _ = _
        unfold fb_X7_goDay_13
        rw [a1.1.1, if_pos (nI_le (Nat.le_refl _) (by omega))]
      · rw [a8 p hp]
        show pu p + (if p < k then _ else _) = _
        rw [if_pos hp]
    | succ j ih =>
      intro k m F hk hF h
      obtain ⟨F', rfl⟩ : ∃ F', F = F' + 1 := ⟨F - 1, by omega⟩
      obtain ⟨a1, a2, a3, a4, a5, a6, a7, a8, a9, a10⟩ := id h
      have hkn : k < n := by omega
      obtain ⟨r1, r2, r3, r4, r5, r6⟩ := a1.1.2.1.2 k hkn
      have hsl := sel_lt (y := s.2.1) (fs := clLast 3 99 cs) a1.1.2.1 hkn
      have a10' : s.1 < 12 := a10
      have g5 : (mA m 5).getD k 0 = pu k + s.2.2.1 k := (a8 k hkn).trans (congrArg (pu k + ·) (if_neg (Nat.lt_irrefl k)))
      have skip : ¬ slS n pd cs s.2.1 s.1 k → ∃ m', f_X7_goDay_13 F' m (nI (mB pd s.1 n)) (duD n pd cs due s.2.1 s.1 k) (nI k + 1) = (if nI (mB pd s.1 n) = 0 then f_X7_goDay_129 1000 m' (nI (mB pd s.1 n)) (duD n pd cs due s.2.1 s.1 n) 0 0 else (rmI (duD n pd cs due s.2.1 s.1 n) (nI (mB pd s.1 n))).bind fun x4 => f_X7_goDay_129 1000 m' (nI (mB pd s.1 n)) (duD n pd cs due s.2.1 s.1 n) x4 0) ∧ MD m' n pd tw cs due pu (s.1, s.2.1, fun p => s.2.2.1 p + slD n pd cs due s.2.1 s.1 p, s.2.2.2.1, duD n pd cs due s.2.1 s.1 n) ∧ FM m m' := by
        intro hz
        have ed : duD n pd cs due s.2.1 s.1 (k + 1) = duD n pd cs due s.2.1 s.1 k := if_neg hz
        have hX : MD m n pd tw cs due pu (s.1, s.2.1, fun p => if p < k + 1 then s.2.2.1 p + slD n pd cs due s.2.1 s.1 p else s.2.2.1 p, s.2.2.2.1, duD n pd cs due s.2.1 s.1 (k + 1)) := by
          refine ⟨a1, a2, a3, a4, a5, a6, a7, fun p hp => ?_, a9, a10⟩
          rw [a8 p hp]
          show pu p + (if p < k then _ else _) = pu p + (if p < k + 1 then _ else _)
          by_cases e : p = k
          · subst e; rw [if_neg (by omega), if_pos (by omega)]; unfold slD; rw [if_neg hz, Int32.add_zero]
          · by_cases e2 : p < k
            · rw [if_pos e2, if_pos (by omega)]
            · rw [if_neg e2, if_neg (by omega)]
        have := ih (k + 1) m F' (by omega) (by omega) hX
        rw [ed] at this
        rw [nI_1]; exact this
      show ∃ m', fb_X7_goDay_13 _ _ _ _ _ = _ ∧ _
      unfold fb_X7_goDay_13
      rw [a1.1.1, if_neg (nI_ge hkn (by omega)), (a1.1.g hkn).2.2.2.2.1, Option.bind_some]
      by_cases e1 : pd 4 k = 0
      · rw [if_pos ((nI_z (by omega)).mpr e1)]; exact skip (fun z => z.1 e1)
      rw [if_neg (fun z => e1 ((nI_z (by omega)).mp z)), m_sells a1 hkn a4 hy, bnd_some, a3]
      by_cases e2 : selD n pd s.2.1 (clLast 3 99 cs) k = s.1
      · have hs : slS n pd cs s.2.1 s.1 k := ⟨e1, e2⟩
        obtain ⟨l, hl, ht⟩ := m_takes a1 a6 hkn a10 a4 hy
        rw [if_pos (congrArg nI e2), ht, bnd_some]
        have f1 : FM m (wA m 17 l) := FM.A (by omega)
        have b1 := a1.fr f1
        have b2 := a2.fr f1
        have fin : ∀ x : Int32, x = pyD n pd cs due s.2.1 s.1 k → ∃ m', f_X7_goDay_74 (fun m y1 y2 y3 => f_X7_goDay_13 F' m y1 y2 y3) (wA m 17 l) (nI (mB pd s.1 n)) (duD n pd cs due s.2.1 s.1 k) (nI k) (tkD n pd cs s.2.1 s.1 k) x = (if nI (mB pd s.1 n) = 0 then f_X7_goDay_129 1000 m' (nI (mB pd s.1 n)) (duD n pd cs due s.2.1 s.1 n) 0 0 else (rmI (duD n pd cs due s.2.1 s.1 n) (nI (mB pd s.1 n))).bind fun x4 => f_X7_goDay_129 1000 m' (nI (mB pd s.1 n)) (duD n pd cs due s.2.1 s.1 n) x4 0) ∧ MD m' n pd tw cs due pu (s.1, s.2.1, fun p => s.2.2.1 p + slD n pd cs due s.2.1 s.1 p, s.2.2.2.1, duD n pd cs due s.2.1 s.1 n) ∧ FM m m' := by
          intro x hx
          unfold f_X7_goDay_74
          rw [show mA (wA m 17 l) 5 = mA m 5 from rfl, gA_at (by omega) (by omega), g5, Option.bind_some, show (2 : Int32) = nI 2 from rfl, show (1 : Int32) = nI 1 from rfl, m_lastOf b1.2 (by decide), bnd_some, m_putOff b1 hkn a4 hy, bnd_some, sA_at0 (by show k < (mA m 5).length; omega) (by omega), Option.bind_some, nmI_eq, nI_add, show mA (wA m 17 l) 5 = mA m 5 from rfl]
          generalize hv : pu k + s.2.2.1 k + (tkD n pd cs s.2.1 s.1 k - nI (clLast 2 1 cs) * nI (offD n pd s.2.1 (clLast 3 99 cs) k) - x) = v
          have hv' : v = pu k + (s.2.2.1 k + slD n pd cs due s.2.1 s.1 k) := by rw [← hv, hx, Int32.add_assoc]; unfold slD; rw [if_pos hs]
          have ed : duD n pd cs due s.2.1 s.1 (k + 1) = duD n pd cs due s.2.1 s.1 k + x := by rw [hx]; exact if_pos hs
          have f : FM m (wA (wA m 17 l) 5 ((mA m 5).set k v)) := FM.trans f1 (FM.A (by omega))
          have hX : MD (wA (wA m 17 l) 5 ((mA m 5).set k v)) n pd tw cs due pu (s.1, s.2.1, fun p => if p < k + 1 then s.2.2.1 p + slD n pd cs due s.2.1 s.1 p else s.2.2.1 p, s.2.2.2.1, duD n pd cs due s.2.1 s.1 (k + 1)) := by
            refine ⟨a1.fr f, a2.fr f, a3, a4, ?_, hl, a7, fun p hp => ?_, a9, a10⟩
            · show ((mA m 5).set k v).length = 7
              rw [List.length_set]; exact a5
            · show ((mA m 5).set k v).getD p 0 = pu p + (if p < k + 1 then _ else _)
              rw [gd_set]
              by_cases e : k = p
              · subst e; rw [if_pos ⟨rfl, by omega⟩, if_pos (by omega), hv']
              · rw [if_neg (fun z => e z.1), a8 p hp]
                show pu p + (if p < k then _ else _) = _
                by_cases e2 : p < k
                · rw [if_pos e2, if_pos (by omega)]
                · rw [if_neg e2, if_neg (by omega)]
          obtain ⟨m', q1, q2, q3⟩ := ih (k + 1) _ F' (by omega) (by omega) hX
          rw [ed] at q1
          exact ⟨m', q1, q2, f.trans q3⟩
        by_cases e3 : mB pd s.1 n = 0
        · rw [if_pos ((nI_z (by omega)).mpr e3)]
          exact fin 0 (by unfold pyD; rw [if_pos e3])
        · rw [if_neg (fun z => e3 ((nI_z (by omega)).mp z)), m_due b1.2 b2, bnd_some]
          have hq : due * takV (facT n pd s.2.1 k s.1) (clTk cs) = tkD n pd cs s.2.1 s.1 k * due := Int32.mul_comm ..
          rw [hq]
          unfold dvI
          rw [if_neg (show ¬ (100 : Int32) = 0 by decide), Option.bind_some]
          exact fin (tkD n pd cs s.2.1 s.1 k * due / 100) (by unfold pyD; rw [if_neg e3])
      · rw [if_neg (fun z => e2 ((nI_eq (by omega) (by omega)).mp z))]; exact skip (fun z => e2 z.2)
  exact main n 0 m 1000 (by omega) (by omega) h
theorem m_share {s : DS} {D : Int32} {odd : Int32} (h : MD m n pd tw cs due pu s) (hD : D = duD n pd cs due s.2.1 s.1 n) (ho : mB pd s.1 n ≠ 0 → odd = D % nI (mB pd s.1 n)) : ∃ m', f_X7_goDay_129 1000 m (nI (mB pd s.1 n)) D odd 0 = some (D, m') ∧ MD m' n pd tw cs due pu ((s.1 + 1) % 12, s.2.1 + (if s.1 = 11 then 1 else 0), fun p => s.2.2.1 p + hrD n pd cs due s.2.1 s.1 p, fun p => s.2.2.2.1 p + hrD n pd cs due s.2.1 s.1 p, s.2.2.2.2) ∧ FM m m' := by
  have hn := h.1.1.2.1.1
  have hmb := mB_le (pd := pd) (d := s.1) n
  have main : ∀ (j k : Nat) (m : mM) (F : Nat), k + j = n → j < F → MD m n pd tw cs due pu (s.1, s.2.1, fun p => if p < k then s.2.2.1 p + hrD n pd cs due s.2.1 s.1 p else s.2.2.1 p, fun p => if p < k then s.2.2.2.1 p + hrD n pd cs due s.2.1 s.1 p else s.2.2.2.1 p, s.2.2.2.2) → ∃ m', f_X7_goDay_129 F m (nI (mB pd s.1 n)) D (if mB pd s.1 k = 0 then odd else 0) (nI k) = some (D, m') ∧ MD m' n pd tw cs due pu ((s.1 + 1) % 12, s.2.1 + (if s.1 = 11 then 1 else 0), fun p => s.2.2.1 p + hrD n pd cs due s.2.1 s.1 p, fun p => s.2.2.2.1 p + hrD n pd cs due s.2.1 s.1 p, s.2.2.2.2) ∧ FM m m' := by
    intro j
    induction j with
    | zero =>
      intro k m F hk hF h
      obtain ⟨F', rfl⟩ : ∃ F', F = F' + 1 := ⟨F - 1, by omega⟩
      obtain rfl : k = n := by omega
      obtain ⟨a1, a2, a3, a4, a5, a6, a7, a8, a9, a10⟩ := h
      have a10' : s.1 < 12 := a10
      have fin : ∀ x : Nat, x = (if s.1 = 11 then 1 else 0) → ∃ m', f_X7_goDay_222 m D (nI x) (mI m 2) = some (D, m') ∧ MD m' k pd tw cs due pu ((s.1 + 1) % 12, s.2.1 + (if s.1 = 11 then 1 else 0), fun p => s.2.2.1 p + hrD k pd cs due s.2.1 s.1 p, fun p => s.2.2.2.1 p + hrD k pd cs due s.2.1 s.1 p, s.2.2.2.2) ∧ FM m m' := by
        intro x hx
        unfold f_X7_goDay_222
        have e1 : mI (wI m 2 (mI m 2 + nI x)) 1 + 1 = nI (s.1 + 1) := by
          show mI m 1 + 1 = _
          rw [a3]; exact nI_1 _
        rw [nmM_eq, e1, show (12 : Int32) = nI 12 from rfl, rmI_at (by omega) (by decide) (by decide), Option.bind_some, nmM_eq]
        have f : FM m (wI (wI m 2 (mI m 2 + nI x)) 1 (nI ((s.1 + 1) % 12))) := FM.trans (FM.I (by omega)) (FM.I (by omega))
        refine ⟨_, rfl, ⟨a1.fr f, a2.fr f, rfl, ?_, a5, a6, a7, fun p hp => ?_, fun p hp => ?_, Nat.mod_lt _ (by decide)⟩, f⟩
        · show mI m 2 + nI x = nI (s.2.1 + _)
          rw [a4, hx]; exact nI_add _ _
        · refine (a8 p hp).trans ?_
          show pu p + (if p < k then _ else _) = _
          rw [if_pos hp]
        · refine (a9 p hp).trans ?_
          exact if_pos hp
      show ∃ m', fb_X7_goDay_129 _ _ _ _ _ _ = _ ∧ _
      unfold fb_X7_goDay_129
      rw [a1.1.1, if_pos (nI_le (Nat.le_refl _) (by omega)), a3]
      show ∃ m', (if nI s.1 = (11 : Int32) then _ else _) = _ ∧ _
      by_cases e : s.1 = 11
      · rw [if_pos (show nI s.1 = (11 : Int32) from congrArg nI e)]
        exact fin 1 (by rw [if_pos e])
      · rw [if_neg (show ¬ nI s.1 = (11 : Int32) from fun z => e ((nI_eq (by omega) (by decide)).mp (show nI s.1 = nI 11 from z)))]
        exact fin 0 (by rw [if_neg e])
    | succ j ih =>
      intro k m F hk hF h
      obtain ⟨F', rfl⟩ : ∃ F', F = F' + 1 := ⟨F - 1, by omega⟩
      obtain ⟨a1, a2, a3, a4, a5, a6, a7, a8, a9, a10⟩ := id h
      have a10' : s.1 < 12 := a10
      have hkn : k < n := by omega
      obtain ⟨r1, r2, r3, r4, r5, r6⟩ := a1.1.2.1.2 k hkn
      have g5 : (mA m 5).getD k 0 = pu k + s.2.2.1 k := (a8 k hkn).trans (congrArg (pu k + ·) (if_neg (Nat.lt_irrefl k)))
      have g18 : (mA m 18).getD k 0 = s.2.2.2.1 k := (a9 k hkn).trans (if_neg (Nat.lt_irrefl k))
      have skip : ¬ (pd 4 k ≠ 0 ∧ pd 2 k = s.1) → ∃ m', f_X7_goDay_129 F' m (nI (mB pd s.1 n)) D (if mB pd s.1 k = 0 then odd else 0) (nI k + 1) = some (D, m') ∧ MD m' n pd tw cs due pu ((s.1 + 1) % 12, s.2.1 + (if s.1 = 11 then 1 else 0), fun p => s.2.2.1 p + hrD n pd cs due s.2.1 s.1 p, fun p => s.2.2.2.1 p + hrD n pd cs due s.2.1 s.1 p, s.2.2.2.2) ∧ FM m m' := by
        intro hz
        have em : mB pd s.1 (k + 1) = mB pd s.1 k := by
          show mB pd s.1 k + (if pd 4 k ≠ 0 ∧ pd 2 k = s.1 then 1 else 0) = _
          rw [if_neg hz]; rfl
        have hh : hrD n pd cs due s.2.1 s.1 k = 0 := if_neg hz
        have hX : MD m n pd tw cs due pu (s.1, s.2.1, fun p => if p < k + 1 then s.2.2.1 p + hrD n pd cs due s.2.1 s.1 p else s.2.2.1 p, fun p => if p < k + 1 then s.2.2.2.1 p + hrD n pd cs due s.2.1 s.1 p else s.2.2.2.1 p, s.2.2.2.2) := by
          refine ⟨a1, a2, a3, a4, a5, a6, a7, fun p hp => ?_, fun p hp => ?_, a10⟩
          · rw [a8 p hp]
            show pu p + (if p < k then _ else _) = pu p + (if p < k + 1 then _ else _)
            by_cases e : p = k
            · subst e; rw [if_neg (by omega), if_pos (by omega), hh, Int32.add_zero]
            · by_cases e2 : p < k
              · rw [if_pos e2, if_pos (by omega)]
              · rw [if_neg e2, if_neg (by omega)]
          · rw [a9 p hp]
            show (if p < k then _ else _) = if p < k + 1 then _ else _
            by_cases e : p = k
            · subst e; rw [if_neg (by omega), if_pos (by omega), hh, Int32.add_zero]
            · by_cases e2 : p < k
              · rw [if_pos e2, if_pos (by omega)]
              · rw [if_neg e2, if_neg (by omega)]
        have := ih (k + 1) m F' (by omega) (by omega) hX
        rw [em] at this
        rw [nI_1]; exact this
      show ∃ m', fb_X7_goDay_129 _ _ _ _ _ _ = _ ∧ _
      unfold fb_X7_goDay_129
      rw [a1.1.1, if_neg (nI_ge hkn (by omega)), (a1.1.g hkn).2.2.2.2.1, Option.bind_some]
      by_cases e1 : pd 4 k = 0
      · rw [if_pos ((nI_z (by omega)).mpr e1)]; exact skip (fun z => z.1 e1)
      rw [if_neg (fun z => e1 ((nI_z (by omega)).mp z)), (a1.1.g hkn).2.2.1, Option.bind_some, a3]
      by_cases e2 : pd 2 k = s.1
      · have hb0 : mB pd s.1 n ≠ 0 := fun z => mB_0 z hkn ⟨e1, e2⟩
        have em : ¬ mB pd s.1 (k + 1) = 0 := by
          show ¬ mB pd s.1 k + (if pd 4 k ≠ 0 ∧ pd 2 k = s.1 then 1 else 0) = 0
          rw [if_pos ⟨e1, e2⟩]; omega
        have hh : D / nI (mB pd s.1 n) + (if mB pd s.1 k = 0 then odd else 0) = hrD n pd cs due s.2.1 s.1 k := by
          rw [ho hb0, hD]; exact (if_pos ⟨e1, e2⟩).symm
        unfold dvI
        rw [if_pos (congrArg nI e2), gA_at (by omega) (by omega), g5, Option.bind_some, if_neg (nI_ne0 (by omega) (by omega)), Option.bind_some, hh]
        generalize hv : pu k + s.2.2.1 k + hrD n pd cs due s.2.1 s.1 k = v
        have hv' : v = pu k + (s.2.2.1 k + hrD n pd cs due s.2.1 s.1 k) := by rw [← hv, Int32.add_assoc]
        rw [sA_at0 (by omega) (by omega), Option.bind_some, show mA (wA m 5 ((mA m 5).set k v)) 18 = mA m 18 from rfl, gA_at (by omega) (by omega), g18, Option.bind_some, Option.bind_some, hh]
        generalize hu : s.2.2.2.1 k + hrD n pd cs due s.2.1 s.1 k = u
        rw [sA_at0 (by show k < (mA m 18).length; omega) (by omega), Option.bind_some, show mA (wA m 5 ((mA m 5).set k v)) 18 = mA m 18 from rfl]
        have f : FM m (wA (wA m 5 ((mA m 5).set k v)) 18 ((mA m 18).set k u)) := FM.trans (FM.A (by omega)) (FM.A (by omega))
        have hX : MD (wA (wA m 5 ((mA m 5).set k v)) 18 ((mA m 18).set k u)) n pd tw cs due pu (s.1, s.2.1, fun p => if p < k + 1 then s.2.2.1 p + hrD n pd cs due s.2.1 s.1 p else s.2.2.1 p, fun p => if p < k + 1 then s.2.2.2.1 p + hrD n pd cs due s.2.1 s.1 p else s.2.2.2.1 p, s.2.2.2.2) := by
          refine ⟨a1.fr f, a2.fr f, a3, a4, ?_, a6, ?_, fun p hp => ?_, fun p hp => ?_, a10⟩
          · show ((mA m 5).set k v).length = 7
            rw [List.length_set]; exact a5
          · show ((mA m 18).set k u).length = 7
            rw [List.length_set]; exact a7
          · show ((mA m 5).set k v).getD p 0 = pu p + (if p < k + 1 then _ else _)
            rw [gd_set]
            by_cases e : k = p
            · subst e; rw [if_pos ⟨rfl, by omega⟩, if_pos (by omega), hv']
            · rw [if_neg (fun z => e z.1), a8 p hp]
              show pu p + (if p < k then _ else _) = _
              by_cases e2 : p < k
              · rw [if_pos e2, if_pos (by omega)]
              · rw [if_neg e2, if_neg (by omega)]
          · show ((mA m 18).set k u).getD p 0 = if p < k + 1 then _ else _
            rw [gd_set]
            by_cases e : k = p
            · subst e; rw [if_pos ⟨rfl, by omega⟩, if_pos (by omega), hu]
            · rw [if_neg (fun z => e z.1), a9 p hp]
              show (if p < k then _ else _) = _
              by_cases e2 : p < k
              · rw [if_pos e2, if_pos (by omega)]
              · rw [if_neg e2, if_neg (by omega)]
        obtain ⟨m', q1, q2, q3⟩ := ih (k + 1) _ F' (by omega) (by omega) hX
        rw [if_neg em] at q1
        exact ⟨m', by rw [nI_1]; exact q1, q2, f.trans q3⟩
      · rw [if_neg (fun z => e2 ((nI_eq (by omega) (by omega)).mp z))]; exact skip (fun z => e2 z.2)
  exact main n 0 m 1000 (by omega) (by omega) h
theorem m_goDay {s : DS} (h : MD m n pd tw cs due pu s) (hy : s.2.1 < 2 ^ 31) : ∃ m', f_X7_goDay m = some (duD n pd cs due s.2.1 s.1 n, m') ∧ MD m' n pd tw cs due pu (day1 n pd cs due s) ∧ FM m m' := by
  unfold f_X7_goDay
  have hmb := mB_le (pd := pd) (d := s.1) n
  have hn := h.1.1.2.1.1
  rw [h.2.2.1, m_manyBorn h.1.1 h.2.2.2.2.2.2.2.2.2, bnd_some]
  obtain ⟨m1, p1, p2, p3⟩ := m_sell h hy
  rw [p1]
  by_cases e : mB pd s.1 n = 0
  · rw [if_pos ((nI_z (by omega)).mpr e)]
    obtain ⟨m2, q1, q2, q3⟩ := m_share (odd := 0) p2 rfl (fun z => absurd e z)
    exact ⟨m2, q1, q2, p3.trans q3⟩
  · rw [if_neg (fun z => e ((nI_z (by omega)).mp z))]
    unfold rmI
    rw [if_neg (nI_ne0 (by omega) (by omega)), Option.bind_some]
    obtain ⟨m2, q1, q2, q3⟩ := m_share p2 rfl (fun z => rfl)
    exact ⟨m2, q1, q2, p3.trans q3⟩
end M
end GODAY
