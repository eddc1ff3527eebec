/-! OPERATIONS: odds, mean -/
section OPS13
variable {mx mm : mM}
theorem m_yearIf {m : mM} {n : Nat} {pd : Nat → Nat → Nat} {tw : Nat} {cs : List CL} {due : Int32} {pu : Nat → Int32} {dt yr p x : Nat} (h : MR m n pd tw cs due pu dt yr) (hp : p < n) (hx : x < 12) : ∃ m', f_X7_yearIf m (nI p) (nI x) = some (vB n pd cs due dt yr 2 p x, m') ∧ FY m m' := by
  unfold f_X7_yearIf f_X7_yearOf
  have hn := h.1.1.2.1.1
  have l3 : (mA m 3).length = 7 := h.1.1.2.2.1.2.2.1
  have h2 := h.set (Or.inr ⟨rfl, rfl⟩) hp hx
  obtain ⟨m1, r1, r2, r3⟩ := m_layYear h2
  have e3 : mA m1 3 = (mA m 3).set p (nI x) := by rw [r2.2.1 3 (by decide), mA_wA, if_pos rfl]
  have back : ((mA m 3).set p (nI x)).set p ((mA m 3).getD p 0) = mA m 3 := by rw [List.set_set]; exact set_self
  rw [gA_at (by omega) (by omega), Option.bind_some, sA_at0 (by omega) (by omega), Option.bind_some, r1, bnd_some, gA_at (by rw [r2.2.2.2.2.2.2.2]; omega) (by omega), r3 p hp, Option.bind_some, bnd_some, sA_at0 (by rw [e3, List.length_set]; omega) (by omega), Option.bind_some, e3, back]
  refine ⟨_, rfl, fun i i1 i2 => r2.1 i i1 i2, fun c hc => ?_, r2.2.2.1, r2.2.2.2.1, r2.2.2.2.2⟩
  rw [mA_wA]
  by_cases e : c = 3
  · rw [if_pos e, e]
  · rw [if_neg e, r2.2.1 c hc, mA_wA, if_neg e]
/-- how many of the first k days are no worse than d -/
def cntO (v : Nat → Int32) (d : Nat) : Nat → Nat
  | 0 => 0
  | k + 1 => if v k < v d then cntO v d k else cntO v d k + 1
theorem cntO_le {v : Nat → Int32} {d : Nat} : ∀ k, cntO v d k ≤ k
  | 0 => Nat.le_refl _
  | k + 1 => by
    have := cntO_le (v := v) (d := d) k
    unfold cntO
    split <;> omega
theorem fr_bad {m : mM} {x q b : Int32} (h : q < 0 ∨ 1 < q ∨ b ≤ 0) : f_X6_fraction m x b q = some (-9223372036854775808, m) := by
  unfold f_X6_fraction
  by_cases c1 : b ≤ 0
  · rw [if_pos c1]
  · rw [if_neg c1]
    by_cases c2 : q < 0
    · rw [if_pos c2]
    · rw [if_neg c2]
      by_cases c3 : q ≤ 1
      · rcases h with z | z | z
        · exact absurd z c2
        · exfalso; rw [Int32.lt_iff_toInt_lt] at z; rw [Int32.le_iff_toInt_le] at c3; omega
        · exact absurd z c1
      · rw [if_neg c3]
theorem x_odds_lp {m : mM} {v : Nat → Int32} {d : Nat} {q : Int32} (hd : d < 12) (hl : (mA m 1).length = 12) (hv : ∀ x, x < 12 → (mA m 1).getD x 0 = v x) : f_X6_odds_58 1000 m (nI d) q 0 0 = bnd (f_X6_fraction m (nI (cntO v d 12)) 12 q) fun (x14 : Int64) (m15 : mM) => some (x14, m15) := by
  have key := lp_upA (f := fun F m a i => f_X6_odds_58 F m (nI d) q a i) (fb := fun K m a i => fb_X6_odds_58 (fun m _ _ a i => K m a i) m (nI d) q a i) (fun _ _ _ _ => rfl) (n := 12) (G := fun _ => m) (A := fun k => nI (cntO v d k)) (E := bnd (f_X6_fraction m (nI (cntO v d 12)) 12 q) fun (x14 : Int64) (m15 : mM) => some (x14, m15)) (fun k hk K => ?_) (fun K => ?_) 12 0 1000 (by omega) (by omega)
  · exact key
  · show fb_X6_odds_58 _ _ _ _ _ _ = K m (nI (if v k < v d then cntO v d k else cntO v d k + 1)) _
    unfold fb_X6_odds_58
    rw [if_neg (show ¬ (12 : Int32) ≤ nI k from (nI_ge hk (by decide) : ¬ nI 12 ≤ nI k)), gA_at (by omega) (by omega), hv k hk, Option.bind_some, gA_at (by omega) (by omega), hv d hd, Option.bind_some, nI_1]
    by_cases c : v k < v d
    · rw [if_pos c, if_pos c]
    · rw [if_neg c, if_neg c, nI_1]
  · show fb_X6_odds_58 _ _ _ _ _ _ = _
    unfold fb_X6_odds_58
    rw [if_pos (show (12 : Int32) ≤ nI 12 by decide)]
theorem m_odds_lp {n : Nat} {pd : Nat → Nat → Nat} {tw : Nat} {cs : List CL} {due : Int32} {pu : Nat → Int32} {dt yr p d : Nat} {q : Int32} {m0 : mM} (hp : p < n) : ∀ (j k : Nat) (m : mM) (F : Nat), k + j = 12 → j < F → MR m n pd tw cs due pu dt yr → FY m0 m → ∃ m', f_X7_odds_44 F m (nI p) q (vB n pd cs due dt yr 2 p d) (nI (cntO (vB n pd cs due dt yr 2 p) d k)) (nI k) = (bnd (f_X7_lowest m' (nI (cntO (vB n pd cs due dt yr 2 p) d 12)) 12 q) fun (x13 : Int64) (m14 : mM) => some (x13, m14)) ∧ FY m0 m' := by
  intro j
  induction j with
  | zero =>
    intro k m F hk hF h hf
    obtain ⟨F', rfl⟩ : ∃ F', F = F' + 1 := ⟨F - 1, by omega⟩
    obtain rfl : k = 12 := by omega
    refine ⟨m, ?_, hf⟩
    show fb_X7_odds_44 _ _ _ _ _ _ _ = _
    unfold fb_X7_odds_44
    rw [if_pos (show (12 : Int32) ≤ nI 12 by decide)]
  | succ j ih =>
    intro k m F hk hF h hf
    obtain ⟨F', rfl⟩ : ∃ F', F = F' + 1 := ⟨F - 1, by omega⟩
    obtain ⟨m1, r1, r2⟩ := m_yearIf h hp (x := k) (by omega)
    show ∃ m', fb_X7_odds_44 _ _ _ _ _ _ _ = _ ∧ _
    unfold fb_X7_odds_44
    rw [if_neg (show ¬ (12 : Int32) ≤ nI k from (nI_ge (by omega) (by decide) : ¬ nI 12 ≤ nI k)), r1, bnd_some]
    have := ih (k + 1) m1 F' (by omega) (by omega) (h.fy r2) (hf.trans r2)
    by_cases c : vB n pd cs due dt yr 2 p k < vB n pd cs due dt yr 2 p d
    · have e : cntO (vB n pd cs due dt yr 2 p) d (k + 1) = cntO (vB n pd cs due dt yr 2 p) d k := if_pos c
      rw [e] at this
      rw [if_pos c, nmI_eq, Int32.add_zero, nI_1]; exact this
    · have e : cntO (vB n pd cs due dt yr 2 p) d (k + 1) = cntO (vB n pd cs due dt yr 2 p) d k + 1 := if_neg c
      rw [e] at this
      rw [if_neg c, nmI_eq, nI_1, nI_1]; exact this
theorem op_odds (h : RR mx mm) (p x q : Int32) : OPe (f_X6_odds mx p x q) (f_X7_odds mm p x q) := by
  obtain ⟨W, S, hr⟩ := id h
  obtain ⟨cs, hg⟩ := RRs.rg hr
  unfold f_X6_odds f_X7_odds
  rw [hg.per.1, hg.per.2, bnd_some, bnd_some]
  cases hp : inR S.1 p with
  | false => exact ⟨_, mx, mm, rfl, rfl, h⟩
  | true =>
    have hn := hg.2.1.1.1
    obtain ⟨k, hk, rfl⟩ := inR_t (by omega) hp
    rw [zB_t, if_neg i0, if_neg i0, op_isDay, op7_isDay, bnd_some, bnd_some]
    cases hd : inR 12 x with
    | false => exact ⟨_, mx, mm, rfl, rfl, h⟩
    | true =>
      obtain ⟨d, hd12, rfl⟩ := inR_t (by decide) hd
      obtain ⟨c1, c2, c3⟩ := hg.copy
      have htw := hg.tw
      have hmr := hg.mr
      have e900 : mR (cpM mx 32 14) 900 = mR mx 900 := c2.2.2.2.1 900 (by decide) (by decide)
      have htb := twA_b hg.2.2.2.2.2.2.1.1
      have e0 : mI (cpM mx 32 14) (64 * mR mx 900 + 0) = nI (clLast 1 10 cs) := by
        rw [c2.1 _ (by rw [show mR mx 900 = twA S.2.2.2.2.2.2 from hg.2.2.2.2.2.2.1.2.1]; omega) (by rw [show mR mx 900 = twA S.2.2.2.2.2.2 from hg.2.2.2.2.2.2.1.2.1]; omega)]; exact htw.2.1
      obtain ⟨m1, x1, x2, x3, x4⟩ := x_tryDays (due := nI (clLast 1 10 cs)) c3 hk (Or.inr ⟨rfl, rfl⟩)
      have hfx := c2.ft x2 x3.x.1 x3.x.2
      rw [zB_t, if_neg i0, if_neg i0, c1, bnd_some, e900, chR_t htw.1, e0, x1, bnd_some, x_odds_lp hd12 x3.x.2 x4, in_g, bnd_some]
      by_cases q0 : q < 0
      · rw [fr_bad (Or.inl q0), if_pos q0, bnd_some, if_pos rfl]
        exact ⟨_, m1, mm, rfl, rfl, h.frS hfx (FSM.rfl hg.2.2.2.2.1)⟩
      by_cases q1 : 1 < q
      · rw [fr_bad (Or.inr (Or.inl q1)), if_neg q0, if_pos q1, bnd_some, if_pos rfl]
        exact ⟨_, m1, mm, rfl, rfl, h.frS hfx (FSM.rfl hg.2.2.2.2.1)⟩
      have hq1 : q ≤ 1 := by rw [Int32.lt_iff_toInt_lt] at q1; rw [Int32.le_iff_toInt_le]; omega
      obtain ⟨m2, r1, r2⟩ := m_yearIf hmr hk hd12
      obtain ⟨m3, s1, s2⟩ := m_odds_lp (q := q) (d := d) (m0 := mm) hk 12 0 m2 1000 (by omega) (by omega) (hmr.fy r2) r2
      have s1' : f_X7_odds_44 1000 m2 (nI k) q (vB S.1 S.2.1 cs (nI (clLast 1 10 cs)) S.2.2.2.1 S.2.2.2.2.1 2 k d) 0 0 = _ := s1
      have hc := cntO_le (v := vB S.1 S.2.1 cs (nI (clLast 1 10 cs)) S.2.2.2.1 S.2.2.2.2.1 2 k) (d := d) 12
      rw [if_neg q0, if_neg q1, if_neg i0, r1, bnd_some, s1', show (12 : Int32) = nI 12 from rfl, x_fraction (by decide) (by decide) q0 hq1, m_lowest (by decide) (by decide) (by rw [nI_toInt (by omega)]; omega), bnd_some, bnd_some]
      exact ⟨_, m1, m3, rfl, rfl, h.frS hfx (s2.sm hg.2.2.2.2.1)⟩
/-- how many are there -/
def cntT (pd : Nat → Nat → Nat) : Nat → Nat
  | 0 => 0
  | k + 1 => if pd 4 k = 0 then cntT pd k else cntT pd k + 1
theorem cntT_le {pd : Nat → Nat → Nat} : ∀ k, cntT pd k ≤ k
  | 0 => Nat.le_refl _
  | k + 1 => by
    have := cntT_le (pd := pd) k
    unfold cntT
    split <;> omega
theorem op_mean (h : RR mx mm) (q : Int32) : OPe (f_X6_mean mx q) (f_X7_mean mm q) := by
  obtain ⟨W, S, hr⟩ := id h
  obtain ⟨cs, hg⟩ := RRs.rg hr
  have hn := hg.2.1.1.1
  have htw := hg.tw
  have hmr := hg.mr
  have hct := cntT_le (pd := S.2.1) S.1
  obtain ⟨m1, x1, x2, x3, x4, x5, x6⟩ := hg.year
  have hx : f_X6_mean mx q = (bnd (f_X6_fraction m1 (gS S.2.1 (gY S.1 S.2.1 cs (nI (clLast 1 10 cs)) S.2.2.2.1 S.2.2.2.2.1) (-1) S.1) (nI (cntT S.2.1 S.1)) q) fun (x8 : Int64) (m9 : mM) => some (x8, m9)) := by
    unfold f_X6_mean
    have key := lp_upA (f := fun F m a i => f_X6_mean_4 F m q a i) (fb := fun K m a i => fb_X6_mean_4 (fun m _ a i => K m a i) m q a i) (fun _ _ _ _ => rfl) (n := S.1) (G := fun _ => mx) (A := fun k => nI (cntT S.2.1 k)) (E := bnd (f_X6_fraction m1 (gS S.2.1 (gY S.1 S.2.1 cs (nI (clLast 1 10 cs)) S.2.2.2.1 S.2.2.2.2.1) (-1) S.1) (nI (cntT S.2.1 S.1)) q) fun (x8 : Int64) (m9 : mM) => some (x8, m9)) (fun k hk K => ?_) (fun K => ?_) S.1 0 1000 (by omega) (by omega)
    · exact key
    · have g5 := (hg.2.2.2.2.2.1.g hk).2.2.2.2.1
      have r5 := (hg.2.1.1.2 k hk).2.2.2.2.1
      show fb_X6_mean_4 _ _ _ _ _ = K mx (nI (if S.2.1 4 k = 0 then cntT S.2.1 k else cntT S.2.1 k + 1)) _
      unfold fb_X6_mean_4
      rw [show mI mx 896 = nI S.1 from hg.1.2.1.1.1, if_neg (nI_ge hk (by omega)), show gA (mA mx 20) (nI k) = _ from g5, Option.bind_some, nI_1]
      by_cases c : S.2.1 4 k = 0
      · rw [if_pos ((nI_z (by omega)).mpr c), if_pos c]
      · rw [if_neg (fun z => c ((nI_z (by omega)).mp z)), if_neg c, nI_1]
    · show fb_X6_mean_4 _ _ _ _ _ = _
      unfold fb_X6_mean_4
      rw [show mI mx 896 = nI S.1 from hg.1.2.1.1.1, if_pos (nI_le (Nat.le_refl _) (by omega)), chR_t htw.1, htw.2.1, x1, bnd_some, x_gain x4 x5 x6, bnd_some]
  rw [hx]
  unfold f_X7_mean
  rw [in_g, bnd_some]
  have fin0 := h.frS x2 (FSM.rfl hg.2.2.2.2.1)
  by_cases q0 : q < 0
  · rw [fr_bad (Or.inl q0), if_pos q0, bnd_some, if_pos rfl]; exact ⟨_, m1, mm, rfl, rfl, fin0⟩
  by_cases q1 : 1 < q
  · rw [fr_bad (Or.inr (Or.inl q1)), if_neg q0, if_pos q1, bnd_some, if_pos rfl]; exact ⟨_, m1, mm, rfl, rfl, fin0⟩
  have hq1 : q ≤ 1 := by rw [Int32.lt_iff_toInt_lt] at q1; rw [Int32.le_iff_toInt_le]; omega
  rw [if_neg q0, if_neg q1, if_neg i0]
  have hm : f_X7_mean_18 1000 mm q 0 0 = (if nI (cntT S.2.1 S.1) = 0 then some ((-9223372036854775808), mm) else bnd (f_X7_allMore mm) fun (x4 : Int32) (m5 : mM) => bnd (f_X7_lowest m5 x4 (nI (cntT S.2.1 S.1)) q) fun (x7 : Int64) (m8 : mM) => some (x7, m8)) := by
    have key := lp_upA (f := fun F m a i => f_X7_mean_18 F m q a i) (fb := fun K m a i => fb_X7_mean_18 (fun m _ a i => K m a i) m q a i) (fun _ _ _ _ => rfl) (n := S.1) (G := fun _ => mm) (A := fun k => nI (cntT S.2.1 k)) (E := (if nI (cntT S.2.1 S.1) = 0 then some ((-9223372036854775808), mm) else bnd (f_X7_allMore mm) fun (x4 : Int32) (m5 : mM) => bnd (f_X7_lowest m5 x4 (nI (cntT S.2.1 S.1)) q) fun (x7 : Int64) (m8 : mM) => some (x7, m8))) (fun k hk K => ?_) (fun K => ?_) S.1 0 1000 (by omega) (by omega)
    · exact key
    · have g5 := (hmr.1.1.g hk).2.2.2.2.1
      have r5 := (hg.2.1.1.2 k hk).2.2.2.2.1
      show fb_X7_mean_18 _ _ _ _ _ = K mm (nI (if S.2.1 4 k = 0 then cntT S.2.1 k else cntT S.2.1 k + 1)) _
      unfold fb_X7_mean_18
      rw [hmr.1.1.1, if_neg (nI_ge hk (by omega)), g5, Option.bind_some, nI_1]
      by_cases c : S.2.1 4 k = 0
      · rw [if_pos ((nI_z (by omega)).mpr c), if_pos c, nmI_eq, Int32.add_zero]
      · rw [if_neg (fun z => c ((nI_z (by omega)).mp z)), if_neg c, nmI_eq, nI_1]
    · show fb_X7_mean_18 _ _ _ _ _ = _
      unfold fb_X7_mean_18
      rw [hmr.1.1.1, if_pos (nI_le (Nat.le_refl _) (by omega))]
  rw [hm]
  by_cases c : cntT S.2.1 S.1 = 0
  · rw [if_pos ((nI_z (by omega)).mpr c), fr_bad (Or.inr (Or.inr (by rw [c]; decide))), bnd_some]; exact ⟨_, m1, mm, rfl, rfl, fin0⟩
  · obtain ⟨m2, r1, r2, r3⟩ := m_allMore hmr
    have hcs := hg.2.2.2.2.2.2.1.2.2.2.2.1
    have hcl := hg.2.2.2.2.2.2.1.2.2.2.2.2
    have hde := clLast_lt (w := 1) (d := 10) hcs (by decide)
    have hb := gS_b (pd := S.2.1) (y := -1) (g := gY S.1 S.2.1 cs (nI (clLast 1 10 cs)) S.2.2.2.1 S.2.2.2.2.1) hn (fun p hp => gY_b hn hcs hcl hde hp) S.1 (Nat.le_refl _)
    rw [if_neg (fun z => c ((nI_z (by omega)).mp z)), r1, bnd_some, x_fraction (by omega) (by omega) q0 hq1, m_lowest (by omega) (by omega) (by omega), bnd_some, bnd_some]
    exact ⟨_, m1, m2, rfl, rfl, h.frS x2 (r2.sm hg.2.2.2.2.1)⟩
end OPS13
