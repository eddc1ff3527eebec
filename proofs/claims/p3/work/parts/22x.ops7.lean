/-! OPERATIONS OF TRIALS: birth, plan, foundling, change, forged -/
section OPS7
variable {mx mm : mM}
theorem FSX.ft {m m1 m2 : mM} (h : FSX m m1) (f : FT m1 m2) (h0 : XR0 m2) (hl : (mA m2 1).length = 12) : FSX m m2 := by
  obtain ⟨a1, a2, a3, a4, a5⟩ := h
  refine ⟨fun k h1 h2 => (f.1 k h2).trans (a1 k h1 h2), fun c h1 h2 h3 => (f.2.1 c h1 h3).trans (a2 c h1 h2 h3), fun c => (f.2.2.1 c).trans (a3 c), fun k h1 h2 => (f.2.2.2 k h2).trans (a4 k h1 h2), a5.1.fr (fun k hk => f.2.1 _ (by omega) (by omega)), hl, h0⟩
theorem TR.x {m : mM} {n t dt yr : Nat} {pd : Nat → Nat → Nat} {cs : List CL} (h : TR m n pd t cs dt yr) : XR0 m ∧ (mA m 1).length = 12 := ⟨h.2.2.1, h.2.2.2.2.2.2.2⟩
theorem FT.trans {a b c : mM} (h : FT a b) (g : FT b c) : FT a c := ⟨fun k hk => (g.1 k hk).trans (h.1 k hk), fun k h1 hk => (g.2.1 k h1 hk).trans (h.2.1 k h1 hk), fun k => (g.2.2.1 k).trans (h.2.2.1 k), fun k hk => (g.2.2.2 k hk).trans (h.2.2.2 k hk)⟩
theorem FT.rfl {m : mM} : FT m m := ⟨fun _ _ => Eq.refl _, fun _ _ _ => Eq.refl _, fun _ => Eq.refl _, fun _ _ => Eq.refl _⟩
set_option maxRecDepth 4000 in
/-- the copy tried on -/
theorem RG.copy {W : Nat} {S : SS} {cs : List CL} (h : RG mx mm W S cs) : f_X2_copy mx 32 14 = some ((), cpM mx 32 14) ∧ FSX mx (cpM mx 32 14) ∧ TR (cpM mx 32 14) S.1 S.2.1 S.2.2.2.2.2.2 cs S.2.2.2.1 S.2.2.2.2.1 := by
  obtain ⟨⟨h1, h2, h3, h4⟩, h5, h6, h7, h8, h9, h10, h11, h12⟩ := h
  have hA : ∀ c, c ≠ 1 → ¬ (33 ≤ c ∧ c ≤ 40) → mA (cpM mx 32 14) c = mA mx c := fun c _ hc => by
    unfold cpM
    rw [mA_ne (by omega), mA_ne (by omega), mA_ne (by omega), mA_ne (by omega), mA_ne (by omega), mA_ne (by omega), mA_ne (by omega), mA_ne (by omega)]; rfl
  have hI : ∀ k, ¬ (2048 ≤ k ∧ k < 2112) → mI (cpM mx 32 14) k = mI mx k := fun k hk => by
    unfold cpM
    simp only [mI_wI, mI_wA, mI_wR]
    rw [if_neg (by omega), if_neg (by omega), if_neg (by omega), if_neg (by omega)]
  refine ⟨copy_eq (by omega) h7.1 h1 (by rw [h10.2.1]; exact twA_ok h10.1), ⟨fun k hk _ => hI k hk, fun c c1 c2 _ => hA c c1 c2, fun _ => rfl, fun k hk _ => ?_, h1, h7.2⟩, ⟨Or.inr (Or.inr rfl), h2.1.1, h5.1, h1.1, h2.2.1⟩, h10.fr2 rfl (fun k hk => hI k (by omega)) (fun c hc => hA c (by omega) (by omega)), h7.2.2, h2.1.2.1, h5.2.1, h2.1.2.2.1, h5.2.2.1, h7.2.1⟩
  show mR (cpM mx 32 14) k = mR mx k
  unfold cpM
  simp only [mR_wA, mR_wR, mR_wI]
  rw [if_neg (by omega)]
/-- both sides' best of twelve -/
theorem RG.best {W : Nat} {S : SS} {cs : List CL} {k c c' f : Nat} {q y2 : Int32} (h : RG mx mm W S cs) (hk : k < S.1) (hc : (c = 36 ∧ c' = 4 ∧ f = 3 ∧ y2 = 0) ∨ (c = 35 ∧ c' = 3 ∧ f = 2 ∧ y2 = 1)) : ∃ m1 m2, f_X6_bestOf (cpM mx 32 14) c (nI k) q = some (if q = 0 then mI m2 34 else mI m2 35, m1) ∧ f_X7_layBest mm (nI k) y2 = some ((), m2) ∧ FSX mx m1 ∧ FSM mm m2 := by
  obtain ⟨c1, c2, c3⟩ := h.copy
  obtain ⟨m1, x1, x2, x3⟩ := x_bestOf (q := q) c3 hk (c := c) (f := f) (by rcases hc with z | z; exact Or.inl ⟨z.1, z.2.2.1⟩; exact Or.inr ⟨z.1, z.2.2.1⟩)
  obtain ⟨m2, y1, y2', y3, y4⟩ := m_layBest (y2 := y2) h.mr hk (c := c') (f := f) (by rcases hc with z | z; exact Or.inl ⟨z.2.1, z.2.2.1, z.2.2.2⟩; exact Or.inr ⟨z.2.1, z.2.2.1, z.2.2.2⟩)
  exact ⟨m1, m2, by rw [x1, y3, y4], y1, c2.ft x2 x3.x.1 x3.x.2, y2'.sm h.2.2.2.2.1⟩
theorem in01 {t : Int32} (t0 : ¬ t < 0) : (t ≤ 1 → inR 2 t = true) ∧ (¬ t ≤ 1 → inR 2 t = false) := by
  have e1 : (1 : Int32).toInt = 1 := by decide
  have e2 : (nI 2).toInt = 2 := by decide
  refine ⟨fun h => inR_mid t0 (fun z => ?_), fun h => inR_high ?_⟩
  · rw [Int32.le_iff_toInt_le] at h z; omega
  · rw [Int32.le_iff_toInt_le] at h ⊢; omega
theorem op_birth (h : RR mx mm) (p q : Int32) : OPe (f_X6_birth mx p q) (f_X7_birth mm p q) := by
  obtain ⟨W, S, hr⟩ := id h
  obtain ⟨cs, hg⟩ := RRs.rg hr
  unfold f_X6_birth f_X7_birth
  rw [hg.per.1, hg.per.2, bnd_some, bnd_some]
  cases hp : inR S.1 p with
  | false => exact ⟨_, mx, mm, rfl, rfl, h⟩
  | true =>
    have hn := hg.2.1.1.1
    obtain ⟨k, hk, rfl⟩ := inR_t (by omega) hp
    rw [zB_t, if_neg i0, if_neg i0, op_in (n := 2) (in_lit (by decide) (by decide)), bnd_some]
    by_cases t0 : q < 0
    · rw [if_pos t0, inR_low t0]; exact ⟨_, mx, mm, rfl, rfl, h⟩
    rw [if_neg t0]
    by_cases t1 : q ≤ 1
    · rw [if_pos t1, (in01 t0).1 t1, zB_t, if_neg i0, hg.copy.1, bnd_some]
      obtain ⟨m1, m2, b1, b2, b3, b4⟩ := hg.best (q := q) hk (Or.inr ⟨rfl, rfl, rfl, rfl⟩)
      rw [b1, bnd_some, b2, bnd_some]
      by_cases c : q = 0
      · rw [if_pos c, if_pos c]; exact ⟨_, m1, m2, rfl, rfl, h.frS b3 b4⟩
      · rw [if_neg c, if_neg c]; exact ⟨_, m1, m2, rfl, rfl, h.frS b3 b4⟩
    · rw [if_neg t1, (in01 t0).2 t1]; exact ⟨_, mx, mm, rfl, rfl, h⟩
theorem op_plan (h : RR mx mm) (p q : Int32) : OPe (f_X6_plan mx p q) (f_X7_plan mm p q) := by
  obtain ⟨W, S, hr⟩ := id h
  obtain ⟨cs, hg⟩ := RRs.rg hr
  unfold f_X6_plan f_X7_plan
  rw [hg.per.1, hg.per.2, bnd_some, bnd_some]
  cases hp : inR S.1 p with
  | false => exact ⟨_, mx, mm, rfl, rfl, h⟩
  | true =>
    have hn := hg.2.1.1.1
    obtain ⟨k, hk, rfl⟩ := inR_t (by omega) hp
    rw [zB_t, if_neg i0, if_neg i0, op_in (n := 2) (in_lit (by decide) (by decide)), bnd_some]
    by_cases t0 : q < 0
    · rw [if_pos t0, inR_low t0]; exact ⟨_, mx, mm, rfl, rfl, h⟩
    rw [if_neg t0]
    by_cases t1 : q ≤ 1
    · rw [if_pos t1, (in01 t0).1 t1, zB_t, if_neg i0, hg.copy.1, bnd_some]
      obtain ⟨m1, m2, b1, b2, b3, b4⟩ := hg.best (q := q) hk (Or.inl ⟨rfl, rfl, rfl, rfl⟩)
      rw [b1, bnd_some, b2, bnd_some]
      by_cases c : q = 0
      · rw [if_pos c, if_pos c]; exact ⟨_, m1, m2, rfl, rfl, h.frS b3 b4⟩
      · rw [if_neg c, if_neg c]; exact ⟨_, m1, m2, rfl, rfl, h.frS b3 b4⟩
    · rw [if_neg t1, (in01 t0).2 t1]; exact ⟨_, mx, mm, rfl, rfl, h⟩
/-- the class's better plan -/
theorem x_betterPlan {m : mM} {n : Nat} {pd : Nat → Nat → Nat} {t : Nat} {cs : List CL} {due : Int32} {dt yr p : Nat} (h : TR m n pd t cs dt yr) (hp : p < n) : ∃ m', f_X6_betterPlan m (nI p) due = some (nI (if gY n pd cs due dt yr p < (bst (vB n pd cs due dt yr 3 p) 12).2 then (bst (vB n pd cs due dt yr 3 p) 12).1 else pd 3 p), m') ∧ FT m m' ∧ TR m' n pd t cs dt yr := by
  unfold f_X6_betterPlan
  have hn := h.1.2.2.1.1
  have r4 := (h.1.2.2.1.2 p hp).2.2.2.1
  obtain ⟨m', q1, q2, q3, q4⟩ := x_tryDays (due := due) h hp (Or.inl ⟨rfl, rfl⟩)
  have hb := bst_lt (v := vB n pd cs due dt yr 3 p) 12 (by decide)
  have e36 : (mA m' 36).length = 7 ∧ (mA m' 36).getD p 0 = nI (pd 3 p) := by
    have hs := q3.1.2.2.2.1
    exact ⟨hs.2.2.2.1, (q3.1.2.2.2.2 p hp).2.2.2.1⟩
  have e1 := q3.2.2.2.2.2.2.2
  have ev : vB n pd cs due dt yr 3 p (pd 3 p) = gY n pd cs due dt yr p := by unfold vB; rw [pdu_self]
  rw [q1, bnd_some, x_firstMost e1 q4, bnd_some, gA_at (by omega) (by omega), e36.2, Option.bind_some, gA_at (by omega) (by omega), q4 _ hb, Option.bind_some, gA_at (by omega) (by omega), q4 _ r4, Option.bind_some, ev, ← bst_v (v := vB n pd cs due dt yr 3 p) 12]
  refine ⟨m', ?_, q2, q3⟩
  by_cases c : (bst (vB n pd cs due dt yr 3 p) 12).2 ≤ gY n pd cs due dt yr p
  · rw [if_pos c, if_neg (fun z => by rw [Int32.lt_iff_toInt_lt] at z; rw [Int32.le_iff_toInt_le] at c; omega)]
  · rw [if_neg c, if_pos (by rw [Int32.lt_iff_toInt_lt]; rw [Int32.le_iff_toInt_le] at c; omega)]
/-- the reference's would-change -/
theorem m_wouldChange {m : mM} {n : Nat} {pd : Nat → Nat → Nat} {tw : Nat} {cs : List CL} {due : Int32} {pu : Nat → Int32} {dt yr p : Nat} (h : MR m n pd tw cs due pu dt yr) (hp : p < n) : ∃ m', f_X7_wouldChange m (nI p) = some (if gY n pd cs due dt yr p < (bst (vB n pd cs due dt yr 3 p) 12).2 then 1 else 0, m') ∧ FB m m' ∧ mI m' 34 = nI (bst (vB n pd cs due dt yr 3 p) 12).1 := by
  unfold f_X7_wouldChange f_X7_yearOf
  have hn := h.1.1.2.1.1
  obtain ⟨m1, r1, r2, r3⟩ := m_layYear h
  obtain ⟨m2, s1, s2, s3, s4⟩ := m_layBest (y2 := 0) (h.fy r2) hp (Or.inl ⟨rfl, rfl, rfl⟩)
  rw [r1, bnd_some, gA_at (by rw [r2.2.2.2.2.2.2.2]; omega) (by omega), r3 p hp, Option.bind_some, bnd_some, s1, bnd_some, s4]
  refine ⟨m2, ?_, ⟨fun k k1 k2 k3 k4 => (s2.1 k k1 k2 k3 k4).trans (r2.1 k k1 k2), fun c hc => (s2.2.1 c hc).trans (r2.2.1 c hc), fun c => (s2.2.2.1 c).trans (r2.2.2.1 c), fun k => (s2.2.2.2.1 k).trans (r2.2.2.2.1 k), s2.2.2.2.2⟩, s3⟩
  by_cases c : (bst (vB n pd cs due dt yr 3 p) 12).2 ≤ gY n pd cs due dt yr p
  · rw [if_pos c, if_neg (fun z => by rw [Int32.lt_iff_toInt_lt] at z; rw [Int32.le_iff_toInt_le] at c; omega)]
  · rw [if_neg c, if_pos (by rw [Int32.lt_iff_toInt_lt]; rw [Int32.le_iff_toInt_le] at c; omega)]
/-- a better day is another day -/
theorem bst_ne {n : Nat} {pd : Nat → Nat → Nat} {cs : List CL} {due : Int32} {dt yr p : Nat} (h : gY n pd cs due dt yr p < (bst (vB n pd cs due dt yr 3 p) 12).2) : ¬ (bst (vB n pd cs due dt yr 3 p) 12).1 = pd 3 p := by
  intro e
  rw [bst_v, e] at h
  have ev : vB n pd cs due dt yr 3 p (pd 3 p) = gY n pd cs due dt yr p := by unfold vB; rw [pdu_self]
  rw [ev, Int32.lt_iff_toInt_lt] at h
  omega
theorem op_change (h : RR mx mm) (p : Int32) : OPe (f_X6_change mx p) (f_X7_change mm p) := by
  obtain ⟨W, S, hr⟩ := id h
  obtain ⟨cs, hg⟩ := RRs.rg hr
  unfold f_X6_change f_X7_change
  rw [hg.per.1, hg.per.2, bnd_some, bnd_some]
  cases hp : inR S.1 p with
  | false => exact ⟨_, mx, mm, rfl, rfl, h⟩
  | true =>
    have hn := hg.2.1.1.1
    obtain ⟨k, hk, rfl⟩ := inR_t (by omega) hp
    have htw := hg.tw
    obtain ⟨c1, c2, c3⟩ := hg.copy
    have r4 := (c3.1.2.2.1.2 k hk).2.2.2.1
    obtain ⟨m1, x1, x2, x3⟩ := x_betterPlan (due := nI (clLast 1 10 cs)) c3 hk
    obtain ⟨m2, y1, y2, y3⟩ := m_wouldChange hg.mr hk
    have hb := bst_lt (v := vB S.1 S.2.1 cs (nI (clLast 1 10 cs)) S.2.2.2.1 S.2.2.2.2.1 3 k) 12 (by decide)
    have e900 : mR (cpM mx 32 14) 900 = mR mx 900 := c2.2.2.2.1 900 (by decide) (by decide)
    have htb := twA_b hg.2.2.2.2.2.2.1.1
    have e0 : mI (cpM mx 32 14) (64 * mR mx 900 + 0) = nI (clLast 1 10 cs) := by
      rw [c2.1 _ (by rw [show mR mx 900 = twA S.2.2.2.2.2.2 from hg.2.2.2.2.2.2.1.2.1]; omega) (by rw [show mR mx 900 = twA S.2.2.2.2.2.2 from hg.2.2.2.2.2.2.1.2.1]; omega)]; exact htw.2.1
    have e18 : (mA m1 18).length = 7 ∧ (mA m1 18).getD k 0 = nI (S.2.1 3 k) := by
      rw [x2.2.1 18 (by decide) (by decide), c2.2.1 18 (by decide) (by decide) (by decide)]
      exact ⟨hg.1.1.1.2.2.2.1, (hg.1.2.1.2.1 k hk).2.2.2.1⟩
    have fin := h.frS (c2.ft x2 x3.x.1 x3.x.2) (y2.sm hg.2.2.2.2.1)
    rw [zB_t, if_neg i0, if_neg i0, c1, bnd_some, e900, chR_t htw.1, e0, x1, bnd_some, gA_at (by omega) (by omega), e18.2, Option.bind_some, y1, bnd_some]
    by_cases c : gY S.1 S.2.1 cs (nI (clLast 1 10 cs)) S.2.2.2.1 S.2.2.2.2.1 k < (bst (vB S.1 S.2.1 cs (nI (clLast 1 10 cs)) S.2.2.2.1 S.2.2.2.2.1 3 k) 12).2
    · rw [if_pos c, if_pos c, if_neg (show ¬ (1 : Int32) = 0 by decide), if_neg (fun z => bst_ne c ((nI_eq (by omega) (by omega)).mp z))]
      exact ⟨_, m1, m2, rfl, rfl, fin⟩
    · rw [if_neg c, if_neg c, if_pos rfl, if_pos rfl]
      exact ⟨_, m1, m2, rfl, rfl, fin⟩
end OPS7
