/-! OPERATIONS OF TRIALS: foundling, forged -/
section OPS8
variable {mx mm : mM}
theorem PDe.low {n k v b p : Nat} {pd : Nat → Nat → Nat} {lk lv lb lp lh lr : List Int32} (h : PDe (n + 1) (pdn pd n k v b p) lk lv lb lp lh lr) : PDe n pd lk lv lb lp lh lr := by
  intro q hq
  have nz : ∀ f, pdn pd n k v b p f q = pd f q := fun f => if_neg (by omega)
  obtain ⟨g1, g2, g3, g4, g5, g6⟩ := h q (by omega)
  rw [nz] at g1 g2 g3 g4 g5
  exact ⟨g1, g2, g3, g4, g5, fun j hj => by have := g6 j hj; rw [nz] at this; exact this⟩
set_option maxRecDepth 4000 in
theorem op_foundling (h : RR mx mm) (p q : Int32) : OPe (f_X6_foundling mx p q) (f_X7_foundling mm p q) := by
  obtain ⟨W, S, hr⟩ := id h
  have hr : RRs W S mx mm := hr
  obtain ⟨cs, hg⟩ := RRs.rg hr
  have hn := hg.2.1.1.1
  obtain ⟨hX, hS, hM, hQ⟩ := id hg.1
  unfold f_X6_foundling f_X7_foundling
  rw [op_in (n := 2) (in_lit (by decide) (by decide)), bnd_some]
  by_cases t0 : q < 0
  · rw [if_pos t0, inR_low t0]; exact ⟨_, mx, mm, rfl, rfl, h⟩
  rw [if_neg t0]
  by_cases t1 : q ≤ 1
  · rw [if_pos t1, (in01 t0).1 t1, zB_t, if_neg i0, op_isDay, op7_isDay, bnd_some, bnd_some]
    cases hd : inR 12 p with
    | false => exact ⟨_, mx, mm, rfl, rfl, h⟩
    | true =>
      obtain ⟨d, hd12, rfl⟩ := inR_t (by decide) hd
      rw [zB_t, if_neg i0, if_neg i0, show mI mx 896 = nI S.1 from hS.1.1, show mI mm 0 = nI S.1 from hQ.1.1]
      by_cases hf : S.1 < 7
      · obtain ⟨c1, c2, c3⟩ := hg.copy
        have hXc : XSh (cpM mx 32 14) 32 := hX
        have hi32 : mI (cpM mx 32 14) (64 * 32 + 0) = nI S.1 := hS.1.1
        rw [if_pos (show nI S.1 < (7 : Int32) from (nI_lt hf (by decide) : nI S.1 < nI 7)), if_neg (show ¬ nI S.1 = (7 : Int32) from fun z => by have := (nI_eq (by omega) (by decide)).mp (show nI S.1 = nI 7 from z); omega), c1, bnd_some, add_eq hXc hi32 hf, lay_eq hM hf, bnd_some, bnd_some, nmM_eq]
        have v1 : mI (addM (cpM mx 32 14) 32 S.1 0 0 0 (nI d)) 2048 - 1 = nI S.1 := nI_pred S.1
        have v3 : mI (layMm mm S.1 0 0 0 (nI d)) 0 + 1 = nI (S.1 + 1) := by
          show mI mm 0 + 1 = _; rw [show mI mm 0 = nI S.1 from hQ.1.1, nI_1]
        have v2 : mI (wI (layMm mm S.1 0 0 0 (nI d)) 0 (nI (S.1 + 1))) 0 - 1 = nI S.1 := nI_pred S.1
        rw [v1, v3, v2]
        obtain ⟨⟨p1, p2, p3, p4, p5⟩, a2, a3, a4, a5, a6, a7, a8⟩ := c3
        have hA9 : ∀ c, ¬ (33 ≤ c ∧ c ≤ 39) → mA (addM (cpM mx 32 14) 32 S.1 0 0 0 (nI d)) c = mA (cpM mx 32 14) c := fun c hc => by
          unfold addM
          rw [mA_wI, mA_ne (by omega), mA_ne (by omega), mA_ne (by omega), mA_ne (by omega), mA_ne (by omega), mA_ne (by omega), mA_ne (by omega)]
        have hI9 : ∀ k, k ≠ 2048 → mI (addM (cpM mx 32 14) 32 S.1 0 0 0 (nI d)) k = mI (cpM mx 32 14) k := fun k hk => if_neg hk
        have hT : TR (addM (cpM mx 32 14) 32 S.1 0 0 0 (nI d)) (S.1 + 1) (pdn S.2.1 S.1 0 0 0 d) S.2.2.2.2.2.2 cs S.2.2.2.1 S.2.2.2.2.1 := by
          refine ⟨⟨p1, rfl, p3.add hf (by decide) (by decide) (by decide) hd12, p4.add, PDe.add p4 hf p5⟩, a2.fr2 rfl (fun k hk => hI9 k (by omega)) (fun c hc => hA9 c (by omega)), ?_, a4, a5, a6, a7, a8⟩
          unfold XR0
          rw [hA9 42 (by decide), hA9 43 (by decide), hA9 44 (by decide), hA9 45 (by decide)]; exact a3
        have hfs : FSX mx (addM (cpM mx 32 14) 32 S.1 0 0 0 (nI d)) := by
          obtain ⟨b1, b2, b3, b4, b5⟩ := c2
          refine ⟨fun k k1 k2 => (hI9 k (by omega)).trans (b1 k k1 k2), fun c e1 e2 e3 => (hA9 c (by omega)).trans (b2 c e1 e2 e3), b3, b4, ⟨hT.1.2.2.2.1, (List.length_set ..).trans hX.2.1, hX.2.2⟩, a8, hT.2.2.1⟩
        obtain ⟨m1, x1, x2, x3⟩ := x_bestOf (q := q) hT (Nat.lt_succ_self S.1) (Or.inr ⟨rfl, rfl⟩)
        have hmr := hg.mr
        have hMR : MR (wI (layMm mm S.1 0 0 0 (nI d)) 0 (nI (S.1 + 1))) (S.1 + 1) (pdn S.2.1 S.1 0 0 0 d) S.2.2.2.2.2.2 cs (nI (clLast 1 10 cs)) (fun q => if q = S.1 then 0 else S.2.2.1 q) S.2.2.2.1 S.2.2.2.2.1 := by
          obtain ⟨⟨⟨m1, m2, m3, m4⟩, w1, w2, w3, w4, w5, w6⟩, b2, b3, b4, b5, b6, b7, b8, b9⟩ := hmr
          exact ⟨⟨⟨rfl, m2.add hf (by decide) (by decide) (by decide) hd12, m3.add, PDe.add m3 hf m4⟩, w1, w2, w3, w4, w5, w6⟩, b2, b3, b4, b5, b6, (List.length_set ..).trans b7, PUe.add b7 hf b8, b9⟩
        obtain ⟨m2, y1, y2, y3, y4⟩ := m_layBest (y2 := 1) hMR (Nat.lt_succ_self S.1) (Or.inr ⟨rfl, rfl, rfl⟩)
        rw [x1, bnd_some, y1, bnd_some, nmM_eq]
        have e0 : mI m2 0 - 1 = nI S.1 := by rw [y2.1 0 (by decide) (by decide) (by decide) (by decide)]; exact nI_pred S.1
        rw [e0]
        have hx2 := hfs.ft x2 x3.x.1 x3.x.2
        have hrs := hr.frS hx2 (FSM.rfl hg.2.2.2.2.1)
        have fin : RRs W S m1 (wI m2 0 (nI S.1)) := by
          have yA : ∀ c, ¬ (17 ≤ c ∧ c ≤ 20) → mA m2 c = mA (layMm mm S.1 0 0 0 (nI d)) c := y2.2.1
          refine RRs.now hrs ⟨hrs.1.1, hrs.1.2.1, ?_, ?_⟩ hg.2.1 ⟨y2.2.2.2.2.1, y2.2.2.2.2.2.1, y2.2.2.2.2.2.2.1, y2.2.2.2.2.2.2.2, ?_⟩ (fun _ _ => rfl) (fun _ _ => rfl) (fun _ => rfl) (fun _ _ => rfl) (fun k hk => ?_) (fun c e1 e2 => ?_) y2.2.2.1
          · unfold MSh
            rw [mA_wI, mA_wI, mA_wI, mA_wI, mA_wI, mA_wI, mA_wI, mA_wI, yA 1 (by decide), yA 2 (by decide), yA 3 (by decide), yA 4 (by decide), yA 7 (by decide), yA 6 (by decide), yA 5 (by decide), yA 23 (by decide)]
            exact ⟨hM.1.add, (List.length_set ..).trans hM.2.1, hM.2.2⟩
          · unfold MS
            rw [mA_wI, mA_wI, mA_wI, mA_wI, mA_wI, mA_wI, mA_wI, mA_wI, yA 1 (by decide), yA 2 (by decide), yA 3 (by decide), yA 4 (by decide), yA 7 (by decide), yA 6 (by decide), yA 5 (by decide), yA 23 (by decide)]
            refine ⟨⟨rfl, ?_, ?_, ?_, ?_⟩, PDe.low (PDe.add (k := 0) (v := 0) (b := 0) (p := d) hM.1 hf hQ.2.1), fun p hp => ?_, hQ.2.2.2⟩
            · rw [mI_wI, if_neg (by decide), y2.1 1 (by decide) (by decide) (by decide) (by decide)]; exact hQ.1.2.1
            · rw [mI_wI, if_neg (by decide), y2.1 2 (by decide) (by decide) (by decide) (by decide)]; exact hQ.1.2.2.1
            · rw [mI_wI, if_neg (by decide), y2.1 38 (by decide) (by decide) (by decide) (by decide)]; exact hQ.1.2.2.2.1
            · rw [mI_wI, if_neg (by decide), y2.1 11 (by decide) (by decide) (by decide) (by decide)]; exact hQ.1.2.2.2.2
            · have := PUe.add hM.2.1 hf hQ.2.2.1 p (by omega)
              exact this.trans (if_neg (by omega))
          · have hsc := hg.2.2.2.2.1
            rw [mA_wI, mA_wI, y2.2.1 21 (by decide), y2.2.1 22 (by decide), mI_wI, if_neg (by decide), y2.1 27 (by decide) (by decide) (by decide) (by decide)]
            exact ⟨hsc.2.2.2.2.1, hsc.2.2.2.2.2.1, hsc.2.2.2.2.2.2⟩
          · have k0 : k ≠ 0 := fun e => hk (by rw [e]; decide)
            rw [mI_wI, if_neg k0, y2.1 k (fun e => hk (by rw [e]; decide)) (fun e => hk (by rw [e]; decide)) (fun e => hk (by rw [e]; decide)) (fun e => hk (by rw [e]; decide))]
            exact if_neg k0
          · rw [mA_wI, yA c (by omega)]
            unfold layMm
            rw [mA_ne (by omega), mA_ne (by omega), mA_ne (by omega), mA_ne (by omega), mA_ne (by omega), mA_ne (by omega), mA_ne (by omega)]
        have e34 : mI (wI m2 0 (nI S.1)) 34 = mI m2 34 := rfl
        have e35 : mI (wI m2 0 (nI S.1)) 35 = mI m2 35 := rfl
        rw [e34, e35, y3, y4]
        by_cases c : q = 0
        · rw [if_pos c, if_pos c]; exact ⟨_, m1, _, rfl, rfl, W, S, fin⟩
        · rw [if_neg c, if_neg c]; exact ⟨_, m1, _, rfl, rfl, W, S, fin⟩
      · rw [if_neg (show ¬ nI S.1 < (7 : Int32) from (nI_nlt (by omega) (by omega) : ¬ nI S.1 < nI 7)), if_pos (show nI S.1 = (7 : Int32) from (congrArg nI (show S.1 = 7 by omega) : nI S.1 = nI 7))]
        exact ⟨_, mx, mm, rfl, rfl, h⟩
  · rw [if_neg t1, (in01 t0).2 t1]; exact ⟨_, mx, mm, rfl, rfl, h⟩
/-! forged -/
def fgP (n : Nat) (pd : Nat → Nat → Nat) (cs : List CL) (due : Int32) (dt yr : Nat) (y : Int32) (p : Nat) : Nat → Bool := fun d => decide (¬ d = pd 2 p) && decide (vB n pd cs due dt yr 2 p d = y)
def fgO (n : Nat) (pd : Nat → Nat → Nat) (cs : List CL) (due : Int32) (dt yr : Nat) (y : Int32) : Nat → Nat → Int32
  | _, 0 => -5
  | k, j + 1 => match fnd (fgP n pd cs due dt yr y k) 0 12 with
    | some d => nI (100 * k + d)
    | none => fgO n pd cs due dt yr y (k + 1) j
theorem fnd_lt {P : Nat → Bool} : ∀ {j k d : Nat}, fnd P k j = some d → d < k + j
  | 0, _, _, h => by cases h
  | j + 1, k, d, h => by
    rw [fnd_s] at h
    by_cases c : P k = true
    · rw [if_pos c] at h; injection h with h; omega
    · rw [if_neg c] at h; have := fnd_lt h; omega
theorem x_forged_in {m : mM} {n : Nat} {pd : Nat → Nat → Nat} {cs : List CL} {due : Int32} {dt yr p : Nat} {y : Int32} {K : mM → Int32 → Int32 → fR Int32} (hb : pd 2 p < 12) (h17 : gA (mA m 17) (nI p) = some (nI (pd 2 p))) (h1 : (mA m 1).length = 12) (hv : ∀ x, x < 12 → (mA m 1).getD x 0 = vB n pd cs due dt yr 2 p x) : f_X6_forged_62 K 1000 m y (nI p) 0 = (match fnd (fgP n pd cs due dt yr y p) 0 12 with | some d => some (nI (100 * p + d), m) | none => K m y (nI p + 1)) := by
  have main : ∀ (j d F : Nat), d + j = 12 → j < F → f_X6_forged_62 K F m y (nI p) (nI d) = (match fnd (fgP n pd cs due dt yr y p) d j with | some d => some (nI (100 * p + d), m) | none => K m y (nI p + 1)) := by
    intro j
    induction j with
    | zero =>
      intro d F hd hF
      obtain ⟨F', rfl⟩ : ∃ F', F = F' + 1 := ⟨F - 1, by omega⟩
      obtain rfl : d = 12 := by omega
      show fb_X6_forged_62 _ _ _ _ _ _ = _
      unfold fb_X6_forged_62
      rw [if_pos (show (12 : Int32) ≤ nI 12 by decide)]; rfl
    | succ j ih =>
      intro d F hd hF
      obtain ⟨F', rfl⟩ : ∃ F', F = F' + 1 := ⟨F - 1, by omega⟩
      show fb_X6_forged_62 _ _ _ _ _ _ = _
      unfold fb_X6_forged_62
      rw [if_neg (show ¬ (12 : Int32) ≤ nI d from (nI_ge (by omega) (by decide) : ¬ nI 12 ≤ nI d)), h17, Option.bind_some, fnd_s, nI_1]
      by_cases c : d = pd 2 p
      · rw [if_pos (congrArg nI c), if_neg (by unfold fgP; rw [decide_eq_false (fun z => z c)]; exact Bool.false_ne_true)]
        exact ih (d + 1) F' (by omega) (by omega)
      · rw [if_neg (fun z => c ((nI_eq (by omega) (by omega)).mp z)), gA_at (by omega) (by omega), hv d (by omega), Option.bind_some]
        by_cases e : vB n pd cs due dt yr 2 p d = y
        · rw [if_pos e, if_pos (by unfold fgP; rw [decide_eq_true c, decide_eq_true e]; rfl), show (100 : Int32) = nI 100 from rfl, pk_mul, nI_add]
        · rw [if_neg e, if_neg (by unfold fgP; rw [decide_eq_false e, Bool.and_false]; exact Bool.false_ne_true)]
          exact ih (d + 1) F' (by omega) (by omega)
  exact main 12 0 1000 (by omega) (by omega)
theorem x_forged_lp {n : Nat} {pd : Nat → Nat → Nat} {t : Nat} {cs : List CL} {dt yr : Nat} {y : Int32} (ht : isC true 5 (mR mx 900) = true) (h900 : mR mx 900 = twA t) (htl : t ≤ 6) (hdue : mI mx (64 * mR mx 900 + 0) = nI (clLast 1 10 cs)) (hn896 : mI mx 896 = nI n) (h17 : ∀ p, p < n → gA (mA mx 17) (nI p) = some (nI (pd 2 p))) : ∀ (j k : Nat) (m : mM) (F : Nat), k + j = n → j < F → FSX mx m → TR m n pd t cs dt yr → ∃ m', f_X6_forged_27 F m y (nI k) = some (fgO n pd cs (nI (clLast 1 10 cs)) dt yr y k j, m') ∧ FSX mx m' := by
  intro j
  induction j with
  | zero =>
    intro k m F hk hF hf h
    obtain ⟨F', rfl⟩ : ∃ F', F = F' + 1 := ⟨F - 1, by omega⟩
    obtain rfl : k = n := by omega
    have hn := h.1.2.2.1.1
    refine ⟨m, ?_, hf⟩
    show fb_X6_forged_27 _ _ _ _ = _
    unfold fb_X6_forged_27
    rw [hf.1 896 (by decide) (by decide), hn896, if_pos (nI_le (Nat.le_refl _) (by omega))]; rfl
  | succ j ih =>
    intro k m F hk hF hf h
    obtain ⟨F', rfl⟩ : ∃ F', F = F' + 1 := ⟨F - 1, by omega⟩
    have hn := h.1.2.2.1.1
    have hkn : k < n := by omega
    have htb := twA_b htl
    have e900 : mR m 900 = mR mx 900 := hf.2.2.2.1 900 (by decide) (by decide)
    have e0 : mI m (64 * mR mx 900 + 0) = nI (clLast 1 10 cs) := by rw [hf.1 _ (by rw [h900]; omega) (by rw [h900]; omega)]; exact hdue
    obtain ⟨m1, q1, q2, q3, q4⟩ := x_tryDays (due := nI (clLast 1 10 cs)) h hkn (Or.inr ⟨rfl, rfl⟩)
    have hf1 := hf.ft q2 q3.x.1 q3.x.2
    show ∃ m', fb_X6_forged_27 _ _ _ _ = _ ∧ _
    unfold fb_X6_forged_27
    rw [hf.1 896 (by decide) (by decide), hn896, if_neg (nI_ge hkn (by omega)), e900, chR_t ht, e0, q1, bnd_some, x_forged_in (n := n) (pd := pd) (cs := cs) (due := nI (clLast 1 10 cs)) (dt := dt) (yr := yr) (h.1.2.2.1.2 k hkn).2.2.1 (by rw [hf1.2.1 17 (by decide) (by decide) (by decide)]; exact h17 k hkn) q3.x.2 q4]
    unfold fgO
    cases fnd (fgP n pd cs (nI (clLast 1 10 cs)) dt yr y k) 0 12 with
    | some d => exact ⟨m1, rfl, hf1⟩
    | none =>
      show ∃ m', f_X6_forged_27 F' m1 y (nI k + 1) = _ ∧ _
      rw [nI_1]
      exact ih (k + 1) m1 F' (by omega) (by omega) hf1 q3
section M
variable {m : mM} {n : Nat} {pd : Nat → Nat → Nat} {tw : Nat} {cs : List CL} {due : Int32} {pu : Nat → Int32} {dt yr : Nat}
theorem m_forged_in {p : Nat} {y : Int32} {K : mM → Int32 → Int32 → Int32 → fR Int32} (h : MR m n pd tw cs due pu dt yr) (hp : p < n) : ∃ m', f_X7_forged_43 K 1000 m y (-5) (nI p) (nI (pd 2 p)) 0 = K m' y (match fnd (fgP n pd cs due dt yr y p) 0 12 with | some d => nI (100 * p + d) | none => -5) (nI p + 1) ∧ FY m m' := by
  have hn := h.1.1.2.1.1
  have hb := (h.1.1.2.1.2 p hp).2.2.1
  have h3g : (mA m 3).getD p 0 = nI (pd 2 p) := (h.1.1.2.2.2 p hp).2.2.1
  have n5 : ¬ (0 : Int32) ≤ -5 := by decide
  have back : ∀ (m1 : mM) (pd1 : Nat → Nat → Nat) (v : Int32), MR m1 n pd1 tw cs due pu dt yr → (∀ x, (mA m1 3).set p x = (mA m 3).set p x) → (∀ k, k ≠ 31 → k ≠ 32 → mI m1 k = mI m k) → (∀ d, d ≠ 3 → ¬ (17 ≤ d ∧ d ≤ 20) → mA m1 d = mA m d) → (∀ d, mL m1 d = mL m d) → (∀ k, mR m1 k = mR m k) → f_X7_forged_97 K m1 y v (nI p) (nI (pd 2 p)) = K (wA m1 3 (mA m 3)) y v (nI p + 1) ∧ FY m (wA m1 3 (mA m 3)) := by
    intro m1 pd1 v h1 e2 f1 f2 f3 f4
    have hl := h1.1.1.2.2.1.2.2.1
    have es : (mA m1 3).set p (nI (pd 2 p)) = mA m 3 := by rw [e2, ← h3g]; exact set_self
    refine ⟨?_, f1, fun d hd => ?_, f3, f4, h1.2.2.2.2.2.2.2.2⟩
    · unfold f_X7_forged_97
      rw [sA_at0 (by omega) (by omega), Option.bind_some, es]
    · rw [mA_wA]
      by_cases e : d = 3
      · rw [if_pos e, e]
      · rw [if_neg e]; exact f2 d e hd
  have main : ∀ (j d : Nat) (m1 : mM) (pd1 : Nat → Nat → Nat) (F : Nat), d + j = 12 → j + 1 < F → MR m1 n pd1 tw cs due pu dt yr → (∀ x, pdu pd1 2 p x = pdu pd 2 p x) → (∀ x, (mA m1 3).set p x = (mA m 3).set p x) → (∀ k, k ≠ 31 → k ≠ 32 → mI m1 k = mI m k) → (∀ d, d ≠ 3 → ¬ (17 ≤ d ∧ d ≤ 20) → mA m1 d = mA m d) → (∀ d, mL m1 d = mL m d) → (∀ k, mR m1 k = mR m k) → ∃ m', f_X7_forged_43 K F m1 y (-5) (nI p) (nI (pd 2 p)) (nI d) = K m' y (match fnd (fgP n pd cs due dt yr y p) d j with | some d => nI (100 * p + d) | none => -5) (nI p + 1) ∧ FY m m' := by
    intro j
    induction j with
    | zero =>
      intro d m1 pd1 F hd hF h1 e1 e2 f1 f2 f3 f4
      obtain ⟨F', rfl⟩ : ∃ F', F = F' + 1 := ⟨F - 1, by omega⟩
      obtain rfl : d = 12 := by omega
      obtain ⟨b1, b2⟩ := back m1 pd1 (-5) h1 e2 f1 f2 f3 f4
      refine ⟨_, ?_, b2⟩
      show fb_X7_forged_43 _ _ _ _ _ _ _ _ = _
      unfold fb_X7_forged_43
      rw [if_pos (show (12 : Int32) ≤ nI 12 by decide), b1]; rfl
    | succ j ih =>
      intro d m1 pd1 F hd hF h1 e1 e2 f1 f2 f3 f4
      obtain ⟨F', rfl⟩ : ∃ F', F = F' + 1 := ⟨F - 1, by omega⟩
      have hl := h1.1.1.2.2.1.2.2.1
      have h2 := h1.set (Or.inr ⟨rfl, rfl⟩) hp (x := d) (by omega)
      have g2 : ∀ i, i ≠ 3 → ¬ (17 ≤ i ∧ i ≤ 20) → mA (wA m1 3 ((mA m1 3).set p (nI d))) i = mA m i := fun i z1 z2 => by rw [mA_wA, if_neg z1]; exact f2 i z1 z2
      show ∃ m', fb_X7_forged_43 _ _ _ _ _ _ _ _ = _ ∧ _
      unfold fb_X7_forged_43
      rw [if_neg (show ¬ (12 : Int32) ≤ nI d from (nI_ge (by omega) (by decide) : ¬ nI 12 ≤ nI d)), if_neg n5, sA_at0 (by omega) (by omega), Option.bind_some, fnd_s, nI_1]
      by_cases c : d = pd 2 p
      · rw [if_pos (congrArg nI c), if_neg (by unfold fgP; rw [decide_eq_false (fun z => z c)]; exact Bool.false_ne_true)]
        exact ih (d + 1) _ (pdu pd1 2 p d) F' (by omega) (by omega) h2 (fun x => by rw [pdu_pdu, e1]) (fun x => by rw [mA_wA, if_pos rfl, List.set_set, e2]) f1 g2 f3 f4
      · obtain ⟨m2, r1, r2, r3⟩ := m_layYear h2
        have ev : gY n (pdu pd1 2 p d) cs due dt yr p = vB n pd cs due dt yr 2 p d := by rw [e1]; rfl
        have h3 := h2.fy r2
        have E2 : ∀ x, (mA m2 3).set p x = (mA m 3).set p x := fun x => by rw [r2.2.1 3 (by decide), mA_wA, if_pos rfl, List.set_set, e2]
        have F1 : ∀ k, k ≠ 31 → k ≠ 32 → mI m2 k = mI m k := fun k z1 z2 => (r2.1 k z1 z2).trans (f1 k z1 z2)
        have F2 : ∀ i, i ≠ 3 → ¬ (17 ≤ i ∧ i ≤ 20) → mA m2 i = mA m i := fun i z1 z2 => (r2.2.1 i z2).trans (g2 i z1 z2)
        have F3 : ∀ i, mL m2 i = mL m i := fun i => (r2.2.2.1 i).trans (f3 i)
        have F4 : ∀ i, mR m2 i = mR m i := fun i => (r2.2.2.2.1 i).trans (f4 i)
        unfold f_X7_yearOf
        rw [if_neg (fun z => c ((nI_eq (by omega) (by omega)).mp z)), r1, bnd_some, gA_at (by rw [r2.2.2.2.2.2.2.2]; omega) (by omega), r3 p hp, Option.bind_some, bnd_some, ev]
        by_cases e : vB n pd cs due dt yr 2 p d = y
        · rw [if_pos e, if_pos (by unfold fgP; rw [decide_eq_true c, decide_eq_true e]; rfl), show (100 : Int32) = nI 100 from rfl, pk_mul, nI_add, nmI_eq]
          obtain ⟨F'', rfl⟩ : ∃ F'', F' = F'' + 1 := ⟨F' - 1, by omega⟩
          obtain ⟨b1, b2⟩ := back m2 _ (nI (100 * p + d)) h3 E2 F1 F2 F3 F4
          refine ⟨_, ?_, b2⟩
          show fb_X7_forged_43 _ _ _ _ _ _ _ _ = _
          unfold fb_X7_forged_43
          rw [if_pos (show (0 : Int32) ≤ nI (100 * p + d) from (nI_le (Nat.zero_le _) (by omega) : nI 0 ≤ _))]
          split
          · exact b1
          · exact b1
        · rw [if_neg e, if_neg (by unfold fgP; rw [decide_eq_false e, Bool.and_false]; exact Bool.false_ne_true)]
          exact ih (d + 1) m2 (pdu pd1 2 p d) F' (by omega) (by omega) h3 (fun x => by rw [pdu_pdu, e1]) E2 F1 F2 F3 F4
  exact main 12 0 m pd 1000 (by omega) (by omega) h (fun _ => rfl) (fun _ => rfl) (fun _ _ _ => rfl) (fun _ _ _ => rfl) (fun _ => rfl) (fun _ => rfl)
theorem FY.self (h : MR m n pd tw cs due pu dt yr) : FY m m := ⟨fun _ _ _ => rfl, fun _ _ => rfl, fun _ => rfl, fun _ => rfl, h.2.2.2.2.2.2.2.2⟩
theorem m_forged_lp {y : Int32} : ∀ (j k : Nat) (m : mM) (F : Nat), k + j = n → j + 1 < F → MR m n pd tw cs due pu dt yr → ∃ m', f_X7_forged_20 F m y (-5) (nI k) = some (fgO n pd cs due dt yr y k j, m') ∧ FY m m' := by
  intro j
  induction j with
  | zero =>
    intro k m F hk hF h
    obtain ⟨F', rfl⟩ : ∃ F', F = F' + 1 := ⟨F - 1, by omega⟩
    obtain rfl : k = n := by omega
    have hn := h.1.1.2.1.1
    refine ⟨m, ?_, FY.self h⟩
    show fb_X7_forged_20 _ _ _ _ _ = _
    unfold fb_X7_forged_20
    rw [h.1.1.1, if_pos (nI_le (Nat.le_refl _) (by omega))]; rfl
  | succ j ih =>
    intro k m F hk hF h
    obtain ⟨F', rfl⟩ : ∃ F', F = F' + 1 := ⟨F - 1, by omega⟩
    have hn := h.1.1.2.1.1
    have hkn : k < n := by omega
    obtain ⟨m1, q1, q2⟩ := m_forged_in (y := y) (K := fun m y1 y2 y3 => f_X7_forged_20 F' m y1 y2 y3) h hkn
    show ∃ m', fb_X7_forged_20 _ _ _ _ _ = _ ∧ _
    unfold fb_X7_forged_20
    rw [h.1.1.1, if_neg (nI_ge hkn (by omega)), if_neg (show ¬ (0 : Int32) ≤ -5 by decide), (h.1.1.g hkn).2.2.1, Option.bind_some, q1]
    unfold fgO
    cases hf : fnd (fgP n pd cs due dt yr y k) 0 12 with
    | none =>
      show ∃ m', f_X7_forged_20 F' m1 y (-5) (nI k + 1) = _ ∧ _
      rw [nI_1]
      obtain ⟨m2, s1, s2⟩ := ih (k + 1) m1 F' (by omega) (by omega) (h.fy q2)
      exact ⟨m2, s1, q2.trans s2⟩
    | some d =>
      have hd := fnd_lt hf
      obtain ⟨F'', rfl⟩ : ∃ F'', F' = F'' + 1 := ⟨F' - 1, by omega⟩
      refine ⟨m1, ?_, q2⟩
      show fb_X7_forged_20 _ m1 y (nI (100 * k + d)) (nI k + 1) = some (nI (100 * k + d), m1)
      unfold fb_X7_forged_20
      rw [if_pos (show (0 : Int32) ≤ nI (100 * k + d) from (nI_le (Nat.zero_le _) (by omega) : nI 0 ≤ _))]
      split
      · rfl
      · rfl
end M
theorem op_forged (h : RR mx mm) (p : Int32) : OPe (f_X6_forged mx p) (f_X7_forged mm p) := by
  obtain ⟨W, S, hr⟩ := id h
  obtain ⟨cs, hg⟩ := RRs.rg hr
  have hn := hg.2.1.1.1
  unfold f_X6_forged f_X7_forged
  rw [op_in (n := 10001) (in_lit (by decide) (by decide)), bnd_some]
  by_cases t0 : p < 0
  · rw [if_pos t0, inR_low t0]; exact ⟨_, mx, mm, rfl, rfl, h⟩
  rw [if_neg t0]
  have e1 : (10000 : Int32).toInt = 10000 := by decide
  have e2 : (nI 10001).toInt = 10001 := by decide
  by_cases t1 : p ≤ 10000
  · rw [if_pos t1, inR_mid t0 (n := 10001) (fun z => by rw [Int32.le_iff_toInt_le] at t1 z; omega), zB_t, if_neg i0]
    obtain ⟨c1, c2, c3⟩ := hg.copy
    have htw := hg.tw
    obtain ⟨m1, x1, x2⟩ := x_forged_lp (y := p) (dt := S.2.2.2.1) (yr := S.2.2.2.2.1) (n := S.1) (pd := S.2.1) (t := S.2.2.2.2.2.2) (cs := cs) htw.1 hg.2.2.2.2.2.2.1.2.1 hg.2.2.2.2.2.2.1.1 htw.2.1 hg.1.2.1.1.1 (fun k hk => (hg.2.2.2.2.2.1.g hk).2.2.1) S.1 0 (cpM mx 32 14) 1000 (by omega) (by omega) c2 c3
    obtain ⟨m2, y1, y2⟩ := m_forged_lp (y := p) S.1 0 mm 1000 (by omega) (by omega) hg.mr
    rw [c1, bnd_some, show (0 : Int32) = nI 0 from rfl, x1, y1]
    exact ⟨_, m1, m2, rfl, rfl, h.frS x2 (y2.sm hg.2.2.2.2.1)⟩
  · rw [if_neg t1, inR_high (n := 10001) (by rw [Int32.le_iff_toInt_le] at t1 ⊢; omega)]; exact ⟨_, mx, mm, rfl, rfl, h⟩
end OPS8
