/-! OPERATIONS: looked -/
section OPS14
variable {mx mm : mM}
theorem abs_in {z y : Int32} (hz : -1073741823 ≤ z.toInt ∧ z.toInt ≤ 1073741823) (hy : 0 ≤ y.toInt) : (abI z ≤ y) ↔ (-y.toInt ≤ z.toInt ∧ z.toInt ≤ y.toInt) := by
  have i0' : (0 : Int32).toInt = 0 := rfl
  unfold abI
  rw [Int32.le_iff_toInt_le]
  by_cases c : 0 ≤ z
  · rw [if_pos c]
    rw [Int32.le_iff_toInt_le, i0'] at c
    omega
  · rw [if_neg c, subI (by rw [i0']; omega) (by omega), i0']
    rw [Int32.le_iff_toInt_le, i0'] at c
    omega
theorem op_looked (h : RR mx mm) (p : Int32) : OPe (f_X6_looked mx p) (f_X7_looked mm p) := by
  obtain ⟨W, S, hr⟩ := id h
  obtain ⟨cs, hg⟩ := RRs.rg hr
  have hn := hg.2.1.1.1
  obtain ⟨hX, hS, hM, hQ⟩ := id hg.1
  unfold f_X6_looked f_X7_looked
  rw [op_in (n := 100) (in_lit (by decide) (by decide)), bnd_some]
  by_cases t0 : p < 0
  · rw [if_pos t0, inR_low t0]; exact ⟨_, mx, mm, rfl, rfl, h⟩
  rw [if_neg t0]
  have e1 : (99 : Int32).toInt = 99 := by decide
  have e2 : (nI 100).toInt = 100 := by decide
  by_cases t1 : p ≤ 99
  · have hp : inR 100 p = true := inR_mid t0 (n := 100) (fun z => by rw [Int32.le_iff_toInt_le] at t1 z; omega)
    obtain ⟨Y, hY, rfl⟩ := inR_t (by decide) hp
    rw [if_pos t1, hp, zB_t, if_neg i0, show mI mx 896 = nI S.1 from hS.1.1, show mI mm 0 = nI S.1 from hQ.1.1]
    by_cases c0 : S.1 = 0
    · rw [if_pos ((nI_z (by omega)).mpr c0), if_pos ((nI_z (by omega)).mpr c0)]; exact ⟨_, mx, mm, rfl, rfl, h⟩
    rw [if_neg (fun z => c0 ((nI_z (by omega)).mp z)), if_neg (fun z => c0 ((nI_z (by omega)).mp z))]
    have h0 : 0 < S.1 := by omega
    have htw := hg.tw
    have hmr := hg.mr
    have hlen := hg.2.1.2.2.2.1
    have hyr := hg.2.1.2.2.1
    have hdt := hg.2.1.2.1
    obtain ⟨hB1, hB2⟩ := hg.2.1.2.2.2.2.2
    have hp0 := hB1 0 h0
    have hcs := hg.2.2.2.2.2.2.1.2.2.2.2.1
    have hcl := hg.2.2.2.2.2.2.1.2.2.2.2.2
    have hde := clLast_lt (w := 1) (d := 10) hcs (by decide)
    obtain ⟨mk, k1, kD, k6, k9, k10, k2, k3, k4, k5⟩ := m_kept hmr
    obtain ⟨m1, s1, s2, s3, s4⟩ := hg.start (due := nI (clLast 1 10 cs))
    rw [chR_t htw.1, htw.2.1, s1, bnd_some, k1, bnd_some]
    have hYt : (nI Y).toInt = (Y : Int) := nI_toInt (by omega)
    have hYn : (-nI Y).toInt = -(Y : Int) := by rw [Int32.toInt_neg, hYt, Int.bmod_eq_of_le (by omega) (by omega)]
    have l19 : ∀ {m' : mM}, FX mx m' → (mA m' 19).length = 7 ∧ (mA m' 19).getD 0 0 = S.2.2.1 0 := fun f => by
      rw [f.2.1 19 (by decide)]; exact ⟨hX.2.1, hS.2.2.1 0 h0⟩
    have back : ∀ {m2 : mM} {s : DS} {v : Int32}, MD m2 S.1 S.2.1 S.2.2.2.2.2.2 cs (nI (clLast 1 10 cs)) S.2.2.1 s → FM mk m2 → ∃ m', f_X7_looked_87 m2 v = some (v, m') ∧ FY mm m' := by
      intro m2 s v hD f
      obtain ⟨b1, b2, b3, b4, b5, b6, b7, b8, b9, b10⟩ := hD
      obtain ⟨m3, r1, r2, r3⟩ := m_back (s := (0, 0, fun _ => 0, fun _ => 0, 0)) hmr k6 k9 k10 k2 k3 k4 k5 f.1 (fun c c1 c2 c3 _ => f.2.1 c c1 c2 c3) f.2.2.1 f.2.2.2 b5 b6 b7 (by rw [f.2.1 20 (by decide) (by decide) (by decide), k3 20 (by decide) (by decide)]; exact hmr.2.2.2.2.2.2.2.2.2.2.2)
      refine ⟨m3, ?_, r2⟩
      unfold f_X7_looked_87
      rw [r1, bnd_some]
    have main : ∀ (j k : Nat) (ma mb : mM) (F : Nat) (s : DS), k + j = S.2.2.2.2.2.1.length → j + 1 < F → XD ma 14 S.1 S.2.1 S.2.2.2.2.2.2 cs (nI (clLast 1 10 cs)) s → MD mb S.1 S.2.1 S.2.2.2.2.2.2 cs (nI (clLast 1 10 cs)) S.2.2.1 s → FX mx ma → FM mk mb → s.2.1 ≤ 999 + k → (-(80000 * (k : Int)) ≤ (s.2.2.1 0).toInt ∧ (s.2.2.1 0).toInt ≤ 80000 * (k : Int)) → ∃ r ma' mb', f_X6_looked_49 F ma (nI Y) (nI k) = some (r, ma') ∧ f_X7_looked_33 F mb (nI Y) (-5) (nI k) = some (r, mb') ∧ FSX mx ma' ∧ FY mm mb' := by
      intro j
      induction j with
      | zero =>
        intro k ma mb F s hk hF hx hD fx fm hy hgb
        obtain ⟨F', rfl⟩ : ∃ F', F = F' + 1 := ⟨F - 1, by omega⟩
        obtain ⟨m', q1, q2⟩ := back (v := -5) hD fm
        refine ⟨-5, ma, m', ?_, ?_, hx.frS hg.2.2.2.1 fx, q2⟩
        · show fb_X6_looked_49 _ _ _ _ = _
          unfold fb_X6_looked_49
          rw [fx.1 899 (by decide), show mI mx 899 = nI S.2.2.2.2.2.1.length from hS.1.2.2.2.1, if_pos (nI_le (by omega) (by omega))]
        · show fb_X7_looked_33 _ _ _ _ _ = _
          unfold fb_X7_looked_33
          rw [fm.1 38 (by decide) (by decide), k2 38 (by decide) (by decide), show mI mm 38 = nI S.2.2.2.2.2.1.length from hQ.1.2.2.2.1, if_pos (nI_le (by omega) (by omega)), q1]
      | succ j ih =>
        intro k ma mb F s hk hF hx hD fx fm hy hgb
        obtain ⟨F', rfl⟩ : ∃ F', F = F' + 1 := ⟨F - 1, by omega⟩
        obtain ⟨ma1, a1, a2, a3⟩ := x_go (N := 1) (by decide) hx (by omega)
        obtain ⟨mb1, b1, b2, b3⟩ := m_goDay hD (by omega)
        have fx1 := fx.trans a3
        have fm1 := fm.trans b3
        have a2 : XD ma1 14 S.1 S.2.1 S.2.2.2.2.2.2 cs (nI (clLast 1 10 cs)) (day1 S.1 S.2.1 cs (nI (clLast 1 10 cs)) s) := a2
        obtain ⟨n1, n2⟩ := l19 fx1
        have hb1 := day1_b (n := S.1) (pd := S.2.1) (cs := cs) (p := 0) (e := clLast 1 10 cs) (s := s) (B := 80000 * (k : Int)) hn hcs hcl hde (by omega) h0 hgb
        have hbk := hB2 k (by omega)
        generalize hs1 : day1 S.1 S.2.1 cs (nI (clLast 1 10 cs)) s = s1 at *
        obtain ⟨⟨x1, x2, x3, x4, x5, x6, x7, x8, x9, x10, x11, x12, x13⟩, -⟩ := id a2
        obtain ⟨d1, d2, d3, d4, d5, d6, d7, d8, d9, d10⟩ := id b2
        have eb : (mA ma1 22).length = 12 ∧ (mA ma1 22).getD k 0 = S.2.2.2.2.2.1.getD k 0 := by rw [fx1.2.1 22 (by decide)]; exact ⟨hX.2.2, hS.2.2.2 k (by omega)⟩
        have eb2 : (mA mb1 23).length = 12 ∧ (mA mb1 23).getD k 0 = S.2.2.2.2.2.1.getD k 0 := by rw [fm1.2.1 23 (by decide) (by decide) (by decide), k3 23 (by decide) (by decide)]; exact ⟨hM.2.2, hQ.2.2.2 k (by omega)⟩
        have hpu : -960000000 ≤ (S.2.2.1 0).toInt ∧ (S.2.2.1 0).toInt ≤ 960000000 := by omega
        have z1 : (S.2.2.2.2.2.1.getD k 0 - S.2.2.1 0 - s1.2.2.1 0).toInt = (S.2.2.2.2.2.1.getD k 0).toInt - (S.2.2.1 0).toInt - (s1.2.2.1 0).toInt := by
          have w1 := subI (a := S.2.2.2.2.2.1.getD k 0) (b := S.2.2.1 0) (by omega) (by omega)
          rw [subI (by rw [w1]; omega) (by omega), w1]
        have z2 : (S.2.2.1 0 + s1.2.2.1 0 - S.2.2.2.2.2.1.getD k 0).toInt = (S.2.2.1 0).toInt + (s1.2.2.1 0).toInt - (S.2.2.2.2.2.1.getD k 0).toInt := by
          have w1 := addI (a := S.2.2.1 0) (b := s1.2.2.1 0) (by omega) (by omega)
          rw [subI (by rw [w1]; omega) (by omega), w1]
        have key := abs_in (z := S.2.2.2.2.2.1.getD k 0 - S.2.2.1 0 - s1.2.2.1 0) (y := nI Y) (by rw [z1]; omega) (by omega)
        rw [z1, hYt] at key
        have g42 : (mA ma1 42).getD 0 0 = s1.2.2.1 0 := x12 0 h0
        have g5 : (mA mb1 5).getD 0 0 = S.2.2.1 0 + s1.2.2.1 0 := d8 0 h0
        have xe : f_X6_looked_49 (F' + 1) ma (nI Y) (nI k) = (if abI (S.2.2.2.2.2.1.getD k 0 - S.2.2.1 0 - s1.2.2.1 0) ≤ nI Y then f_X6_looked_49 F' ma1 (nI Y) (nI k + 1) else some (nI k, ma1)) := by
          show fb_X6_looked_49 _ _ _ _ = _
          unfold fb_X6_looked_49
          rw [fx.1 899 (by decide), show mI mx 899 = nI S.2.2.2.2.2.1.length from hS.1.2.2.2.1, if_neg (nI_ge (by omega) (by omega)), show (1 : Int32) = nI 1 from rfl, a1, bnd_some, gA_at (xs := mA ma1 22) (by omega) (by omega), eb.2, Option.bind_some, show (0 : Int32) = nI 0 from rfl, gA_at (xs := mA ma1 19) (by omega) (by omega), n2, Option.bind_some, gA_at (xs := mA ma1 42) (by omega) (by omega), g42, Option.bind_some]
        have me : f_X7_looked_33 (F' + 1) mb (nI Y) (-5) (nI k) = (if (if S.2.2.1 0 + s1.2.2.1 0 - S.2.2.2.2.2.1.getD k 0 < -nI Y then (0 : Int32) else if nI Y < S.2.2.1 0 + s1.2.2.1 0 - S.2.2.2.2.2.1.getD k 0 then 0 else 1) = 0 then f_X7_looked_33 F' mb1 (nI Y) (nI k) (nI k + 1) else f_X7_looked_33 F' mb1 (nI Y) (-5) (nI k + 1)) := by
          show fb_X7_looked_33 _ _ _ _ _ = _
          unfold fb_X7_looked_33
          rw [fm.1 38 (by decide) (by decide), k2 38 (by decide) (by decide), show mI mm 38 = nI S.2.2.2.2.2.1.length from hQ.1.2.2.2.1, if_neg (nI_ge (by omega) (by omega)), if_neg (show ¬ (0 : Int32) ≤ -5 by decide), b1, bnd_some, show (gA (mA mb1 5) 0) = some (S.2.2.1 0 + s1.2.2.1 0) from (gA_at (xs := mA mb1 5) (i := 0) (by omega) (by omega)).trans (congrArg some g5), Option.bind_some, gA_at (xs := mA mb1 23) (by omega) (by omega), eb2.2, Option.bind_some, in_g, bnd_some]
        rw [xe, me]
        by_cases c : abI (S.2.2.2.2.2.1.getD k 0 - S.2.2.1 0 - s1.2.2.1 0) ≤ nI Y
        · have c' := key.mp c
          rw [if_pos c, if_neg (show ¬ S.2.2.1 0 + s1.2.2.1 0 - S.2.2.2.2.2.1.getD k 0 < -nI Y by rw [Int32.lt_iff_toInt_lt, hYn, z2]; omega), if_neg (show ¬ nI Y < S.2.2.1 0 + s1.2.2.1 0 - S.2.2.2.2.2.1.getD k 0 by rw [Int32.lt_iff_toInt_lt, hYt, z2]; omega), if_neg (show ¬ (1 : Int32) = 0 by decide), nI_1]
          have hy1 : s1.2.1 ≤ s.2.1 + 1 := by
            rw [← hs1]
            show s.2.1 + (if s.1 = 11 then 1 else 0) ≤ _
            split <;> omega
          exact ih (k + 1) ma1 mb1 F' s1 (by omega) (by omega) a2 b2 fx1 fm1 (by omega) (by omega)
        · have c' : ¬ (-(Y : Int) ≤ (S.2.2.2.2.2.1.getD k 0).toInt - (S.2.2.1 0).toInt - (s1.2.2.1 0).toInt ∧ (S.2.2.2.2.2.1.getD k 0).toInt - (S.2.2.1 0).toInt - (s1.2.2.1 0).toInt ≤ Y) := fun z => c (key.mpr z)
          have ez : (if S.2.2.1 0 + s1.2.2.1 0 - S.2.2.2.2.2.1.getD k 0 < -nI Y then (0 : Int32) else if nI Y < S.2.2.1 0 + s1.2.2.1 0 - S.2.2.2.2.2.1.getD k 0 then 0 else 1) = 0 := by
            by_cases w : S.2.2.1 0 + s1.2.2.1 0 - S.2.2.2.2.2.1.getD k 0 < -nI Y
            · rw [if_pos w]
            · rw [if_neg w, if_pos]
              rw [Int32.lt_iff_toInt_lt, hYn, z2] at w
              rw [Int32.lt_iff_toInt_lt, hYt, z2]; omega
          rw [if_neg c, if_pos ez]
          obtain ⟨F'', rfl⟩ : ∃ F'', F' = F'' + 1 := ⟨F' - 1, by omega⟩
          obtain ⟨m', q1, q2⟩ := back (v := nI k) b2 fm1
          refine ⟨nI k, ma1, m', rfl, ?_, a2.frS hg.2.2.2.1 fx1, q2⟩
          show fb_X7_looked_33 _ _ _ _ _ = _
          unfold fb_X7_looked_33
          split
          · exact q1
          · rw [if_pos (show (0 : Int32) ≤ nI k from (nI_le (Nat.zero_le _) (by omega) : nI 0 ≤ _))]; exact q1
    obtain ⟨r, ma', mb', r1, r2, r3, r4⟩ := main S.2.2.2.2.2.1.length 0 m1 mk 1000 _ (by omega) (by omega) s2 kD s3 FM.rfl (by show S.2.2.2.2.1 ≤ 999 + 0; omega) (by show _ ≤ (0 : Int32).toInt ∧ (0 : Int32).toInt ≤ _; decide)
    exact ⟨r, ma', mb', r1, r2, h.frS r3 (r4.sm hg.2.2.2.2.1)⟩
  · rw [if_neg t1, inR_high (n := 100) (by rw [Int32.le_iff_toInt_le] at t1 ⊢; omega)]; exact ⟨_, mx, mm, rfl, rfl, h⟩
end OPS14
