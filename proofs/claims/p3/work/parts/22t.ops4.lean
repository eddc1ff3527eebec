/-! OPERATIONS: a day, by, a year, of, the sums -/
section OPS4
variable {mx mm : mM}
/-- all that an operation of days needs -/
def RG (mx mm : mM) (W : Nat) (S : SS) (cs : List CL) : Prop := R_now mx mm S ∧ SOK W S ∧ R_twn W mx mm ∧ R_scX mx ∧ R_scM mm ∧ PXr mx 14 S.1 S.2.1 ∧ TXr mx 14 S.2.2.2.2.2.2 cs ∧ PT mm S.1 S.2.1 S.2.2.2.2.2.2 cs ∧ DUE mm cs (nI (clLast 1 10 cs))
theorem RG.mr {W : Nat} {S : SS} {cs : List CL} (h : RG mx mm W S cs) : MR mm S.1 S.2.1 S.2.2.2.2.2.2 cs (nI (clLast 1 10 cs)) S.2.2.1 S.2.2.2.1 S.2.2.2.2.1 := by
  obtain ⟨⟨h1, h2, h3, h4⟩, h5, h6, h7, h8, h9, h10, h11, h12⟩ := h
  exact ⟨h11, h12, h4.1.2.1, h4.1.2.2.1, h5.2.1, h5.2.2.1, h3.2.1, h4.2.2.1, h8.1, h8.2.1, h8.2.2.1, h8.2.2.2.1⟩
theorem RG.tw {W : Nat} {S : SS} {cs : List CL} (h : RG mx mm W S cs) : isC true 5 (mR mx 900) = true ∧ mI mx (64 * mR mx 900 + 0) = nI (clLast 1 10 cs) ∧ mI mx (64 * mR mx 900 + 1) = nI (clLast 2 1 cs) ∧ mI mx (64 * mR mx 900 + 2) = nI (clLast 3 99 cs) := by
  obtain ⟨-, -, -, -, -, -, ⟨t1, t2, t3, t4, t5⟩, -⟩ := h
  have e : mR mx 900 = twA S.2.2.2.2.2.2 := t2
  rw [e]
  exact ⟨twA_ok t1, t4.1.1, t4.1.2.1, t4.1.2.2.1⟩
theorem RG.start {W : Nat} {S : SS} {cs : List CL} {due : Int32} (h : RG mx mm W S cs) : ∃ m', f_X1_start mx 14 due = some ((), m') ∧ XD m' 14 S.1 S.2.1 S.2.2.2.2.2.2 cs due (S.2.2.2.1, S.2.2.2.2.1, fun _ => 0, fun _ => 0, mI mx 2628) ∧ FX mx m' ∧ FSX mx m' := by
  obtain ⟨⟨h1, h2, h3, h4⟩, h5, h6, h7, h8, h9, h10, h11, h12⟩ := h
  obtain ⟨m', q1, q2, q3⟩ := x_start (due := due) h9 h10 ⟨h7.2.2.1, h7.2.2.2.1, h7.2.2.2.2.1, h7.2.2.2.2.2⟩ h2.1.2.1 h5.2.1 h2.1.2.2.1 (by have := h5.2.2.1; omega)
  exact ⟨m', q1, q2, q3, q2.frS h7 q3⟩
theorem RRs.rg {W : Nat} {S : SS} (h : RRs W S mx mm) : ∃ cs, RG mx mm W S cs := h.g
theorem RR.rg (h : RR mx mm) : ∃ W S cs, RG mx mm W S cs := by
  obtain ⟨W, S, h⟩ := h
  obtain ⟨cs, g⟩ := RRs.rg h
  exact ⟨W, S, cs, g⟩
theorem RG.per {W : Nat} {S : SS} {cs : List CL} {p : Int32} (h : RG mx mm W S cs) : f_X6_isPerson mx p = some (zB (inR S.1 p), mx) ∧ f_X7_isPerson mm p = some (zB (inR S.1 p), mm) := by
  have hn := h.2.1.1.1
  exact ⟨op_isPerson h.1.2.1.1.1, op7_isPerson h.1.2.2.2.1.1 (by omega)⟩
/-- a year of the class -/
theorem x_goYear {m : mM} {n : Nat} {pd : Nat → Nat → Nat} {c t dt yr : Nat} {cs : List CL} {due : Int32} (h : PXr m c n pd) (ht : TXr m c t cs) (h0 : XR0 m) (hd : mI m (64 * c + 1) = nI dt) (hd2 : dt < 12) (hy : mI m (64 * c + 2) = nI yr) (hy2 : yr ≤ 1000) : ∃ m', f_X6_goYear m c due = some ((), m') ∧ FX m m' ∧ XR0 m' ∧ ∀ p, p < n → (mA m' 42).getD p 0 = gY n pd cs due dt yr p := by
  unfold f_X6_goYear
  obtain ⟨m1, q1, q2, q3⟩ := x_start (due := due) h ht h0 hd hd2 hy (by omega)
  obtain ⟨m2, r1, r2, r3⟩ := x_go (N := 12) (by decide) q2 (by show yr + 12 < 2 ^ 31; omega)
  rw [q1, bnd_some, show (12 : Int32) = nI 12 from rfl, r1, bnd_some]
  refine ⟨m2, rfl, q3.trans r3, ?_, fun p hp => ?_⟩
  · obtain ⟨⟨a1, a2, a3, a4, a5, a6, a7, a8, a9, a10, a11, a12⟩, -⟩ := r2
    exact ⟨a9, a10, a11, a3.1⟩
  · rw [r2.1.2.2.2.2.2.2.2.2.2.2.2.1 p hp]
    unfold gY
    rw [(days_s 12).2.2.1]
theorem op_years (h : RR mx mm) (p : Int32) : OPe (f_X6_years mx p) (f_X7_years mm p) := by
  obtain ⟨W, S, cs, hg⟩ := h.rg
  unfold f_X6_years f_X7_years
  rw [hg.per.1, hg.per.2, bnd_some, bnd_some]
  cases hp : inR S.1 p with
  | false => exact ⟨_, mx, mm, rfl, rfl, h⟩
  | true =>
    obtain ⟨k, hk, rfl⟩ := inR_t (by have := hg.2.1.1.1; omega) hp
    have hn := hg.2.1.1.1
    have hmr := hg.mr
    have htw := hg.tw
    obtain ⟨⟨h1, h2, h3, h4⟩, h5, h6, h7, h8, h9, h10, h11, h12⟩ := hg
    obtain ⟨m1, q1, q2, q3, q4⟩ := x_goYear (due := nI (clLast 1 10 cs)) h9 h10 ⟨h7.2.2.1, h7.2.2.2.1, h7.2.2.2.2.1, h7.2.2.2.2.2⟩ h2.1.2.1 h5.2.1 h2.1.2.2.1 (by have := h5.2.2.1; omega)
    obtain ⟨m2, r1, r2, r3⟩ := m_layYear hmr
    rw [zB_t, if_neg i0, if_neg i0, chR_t htw.1, htw.2.1, q1, bnd_some, gA_at (by rw [q3.1]; omega) (by omega), q4 k hk, Option.bind_some]
    unfold f_X7_yearOf
    rw [r1, bnd_some, gA_at (by rw [r2.2.2.2.2.2.2.2]; omega) (by omega), r3 k hk, Option.bind_some, bnd_some]
    exact ⟨_, m1, m2, rfl, rfl, h.frS (FSX.of h7 q2 q3.1 q3.2.1 q3.2.2.1 q3.2.2.2) (r2.sm h8)⟩
theorem op_by (h : RR mx mm) (p q t : Int32) : OPe (f_X6_by mx p q t) (f_X7_by mm p q t) := by
  obtain ⟨W, S, cs, hg⟩ := h.rg
  unfold f_X6_by f_X7_by
  rw [hg.per.1, hg.per.2, bnd_some, bnd_some]
  cases hp : inR S.1 p with
  | false => exact ⟨_, mx, mm, rfl, rfl, h⟩
  | true =>
    obtain ⟨k, hk, rfl⟩ := inR_t (by have := hg.2.1.1.1; omega) hp
    have hn := hg.2.1.1.1
    rw [zB_t, if_neg i0, if_neg i0, op_in (n := 2) (in_lit (by decide) (by decide)), bnd_some]
    by_cases t0 : t < 0
    · rw [if_pos t0, inR_low t0]; exact ⟨_, mx, mm, rfl, rfl, h⟩
    rw [if_neg t0]
    by_cases t1 : t ≤ 1
    · have ht : inR 2 t = true := inR_mid t0 (fun z => by
        rw [Int32.le_iff_toInt_le] at t1 z
        have e1 : (1 : Int32).toInt = 1 := by decide
        have e2 : (nI 2).toInt = 2 := by decide
        omega)
      rw [if_pos t1, ht, zB_t, if_neg i0, op_in (n := 61) (in_lit (by decide) (by decide)), bnd_some]
      by_cases q0 : q < 0
      · rw [if_pos q0, inR_low q0]; exact ⟨_, mx, mm, rfl, rfl, h⟩
      rw [if_neg q0]
      by_cases q1 : q ≤ 60
      · have hq : inR 61 q = true := inR_mid q0 (fun z => by
          rw [Int32.le_iff_toInt_le] at q1 z
          have e1 : (60 : Int32).toInt = 60 := by decide
          have e2 : (nI 61).toInt = 61 := by decide
          omega)
        obtain ⟨N, hN, rfl⟩ := inR_t (by decide) hq
        have htw := hg.tw
        have hmr := hg.mr
        obtain ⟨mk, k1, kD, k6, k9, k10, k2, k3, k4, k5⟩ := m_kept hmr
        obtain ⟨m1, s1, s2, s3, s4⟩ := hg.start (due := nI (clLast 1 10 cs))
        have hyr := hg.2.1.2.2.1
        obtain ⟨m2, g1, g2, g3⟩ := x_go (N := N) (by omega) s2 (by show S.2.2.2.2.1 + N < _; omega)
        rw [if_pos q1, chR_t htw.1, htw.2.1, s1, bnd_some, g1, bnd_some, hq, zB_t, if_neg i0, k1, bnd_some]
        have go : ∀ (j i : Nat) (m1 : mM) (F : Nat) (s : DS), i + j = N → j < F → s.2.1 + j < 2 ^ 31 → MD m1 S.1 S.2.1 S.2.2.2.2.2.2 cs (nI (clLast 1 10 cs)) S.2.2.1 s → days S.1 S.2.1 cs (nI (clLast 1 10 cs)) j s = days S.1 S.2.1 cs (nI (clLast 1 10 cs)) N (S.2.2.2.1, S.2.2.2.2.1, fun _ => 0, fun _ => 0, 0) → FM mk m1 → ∃ m', f_X7_by_44 F m1 (nI k) (nI N) t (nI i) = some (if t = 0 then S.2.2.1 k + (days S.1 S.2.1 cs (nI (clLast 1 10 cs)) N (S.2.2.2.1, S.2.2.2.2.1, fun _ => 0, fun _ => 0, 0)).2.2.1 k else (days S.1 S.2.1 cs (nI (clLast 1 10 cs)) N (S.2.2.2.1, S.2.2.2.2.1, fun _ => 0, fun _ => 0, 0)).2.2.2.1 k, m') ∧ FY mm m' := by
          intro j
          induction j with
          | zero =>
            intro i m1 F s hi hF hy hD he f
            obtain ⟨F', rfl⟩ : ∃ F', F = F' + 1 := ⟨F - 1, by omega⟩
            obtain rfl : i = N := by omega
            have he' : s = days S.1 S.2.1 cs (nI (clLast 1 10 cs)) i (S.2.2.2.1, S.2.2.2.2.1, fun _ => 0, fun _ => 0, 0) := he
            rw [← he']
            obtain ⟨b1, b2, b3, b4, b5, b6, b7, b8, b9, b10⟩ := hD
            obtain ⟨m2, r1, r2, r3⟩ := m_back (s := (0, 0, fun _ => 0, fun _ => 0, 0)) hmr k6 k9 k10 k2 k3 k4 k5 f.1 (fun c c1 c2 c3 _ => f.2.1 c c1 c2 c3) f.2.2.1 f.2.2.2 b5 b6 b7 (by rw [f.2.1 20 (by decide) (by decide) (by decide), k3 20 (by decide) (by decide)]; exact hmr.2.2.2.2.2.2.2.2.2.2.2)
            show ∃ m', fb_X7_by_44 _ _ _ _ _ _ = _ ∧ _
            unfold fb_X7_by_44
            rw [if_pos (nI_le (Nat.le_refl _) (by omega))]
            by_cases e : t = 0
            · rw [if_pos e, if_pos e, gA_at (by omega) (by omega), b8 k hk, Option.bind_some]
              unfold f_X7_by_81
              rw [r1, bnd_some]; exact ⟨m2, rfl, r2⟩
            · rw [if_neg e, if_neg e, gA_at (by omega) (by omega), b9 k hk, Option.bind_some]
              unfold f_X7_by_81
              rw [r1, bnd_some]; exact ⟨m2, rfl, r2⟩
          | succ j ih =>
            intro i m1 F s hi hF hy hD he f
            obtain ⟨F', rfl⟩ : ∃ F', F = F' + 1 := ⟨F - 1, by omega⟩
            show ∃ m', fb_X7_by_44 _ _ _ _ _ _ = _ ∧ _
            unfold fb_X7_by_44
            obtain ⟨m2, r1, r2, r3⟩ := m_goDay hD (by omega)
            rw [if_neg (nI_ge (by omega) (by omega)), r1, bnd_some, nI_1]
            exact ih (i + 1) m2 F' _ (by omega) (by omega) (by
              have := days_yr (n := S.1) (pd := S.2.1) (cs := cs) (due := nI (clLast 1 10 cs)) 1 s
              have e : (days S.1 S.2.1 cs (nI (clLast 1 10 cs)) 1 s) = day1 S.1 S.2.1 cs (nI (clLast 1 10 cs)) s := rfl
              rw [e] at this; omega) r2 he (f.trans r3)
        obtain ⟨m', r1, r2⟩ := go N 0 mk 1000 _ (by omega) (by omega) (by show S.2.2.2.2.1 + N < _; omega) kD rfl FM.rfl
        have r1' : f_X7_by_44 1000 mk (nI k) (nI N) t 0 = _ := r1
        rw [r1']
        obtain ⟨⟨a1, a2, a3, a4, a5, a6, a7, a8, a9, a10, a11, a12, a13, a14⟩, -⟩ := id g2
        have hfs : FSX mx m2 := g2.frS hg.2.2.2.1 (s3.trans g3)
        have e19 : (mA m2 19).length = 7 ∧ (mA m2 19).getD k 0 = S.2.2.1 k := by
          rw [(s3.trans g3).2.1 19 (by decide)]
          exact ⟨hg.1.1.2.1, hg.1.2.1.2.2.1 k hk⟩
        refine ⟨_, m2, m', ?_, rfl, h.frS hfs (r2.sm hg.2.2.2.2.1)⟩
        by_cases e : t = 0
        · rw [if_pos e, if_pos e, gA_at (by omega) (by omega), e19.2, Option.bind_some, gA_at (by omega) (by omega), a12 k hk, Option.bind_some, (days_s N).2.2.1]
        · rw [if_neg e, if_neg e, gA_at (by omega) (by omega), a13 k hk, Option.bind_some, (days_s N).2.2.2]
      · rw [if_neg q1, inR_high (n := 61) (by
          rw [Int32.le_iff_toInt_le] at q1 ⊢
          have e1 : (60 : Int32).toInt = 60 := by decide
          have e2 : (nI 61).toInt = 61 := by decide
          omega)]
        exact ⟨_, mx, mm, rfl, rfl, h⟩
    · rw [if_neg t1, inR_high (n := 2) (by
        rw [Int32.le_iff_toInt_le] at t1 ⊢
        have e1 : (1 : Int32).toInt = 1 := by decide
        have e2 : (nI 2).toInt = 2 := by decide
        omega)]
      exact ⟨_, mx, mm, rfl, rfl, h⟩
end OPS4
