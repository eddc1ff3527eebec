/-! OPERATIONS: a day lived, of, the sums -/
section OPS5
variable {mx mm : mM}
theorem day_lp {m : mM} {n : Nat} {g pu : Nat → Int32} (hn : n ≤ 7) (h0 : mI m 896 = nI n) (l19 : (mA m 19).length = 7) (l42 : (mA m 42).length = 7) (h19 : ∀ p, p < n → (mA m 19).getD p 0 = pu p) (h42 : ∀ p, p < n → (mA m 42).getD p 0 = g p) : ∃ q : List Int32, f_X6_day_59 1000 m 0 = some (mI m 2628, wI (wI (wA m 19 q) 897 (mI m 2626)) 898 (mI m 2627)) ∧ q.length = 7 ∧ ∀ p, p < n → q.getD p 0 = pu p + g p := by
  have main : ∀ (j k : Nat) (l : List Int32) (F : Nat), k + j = n → j < F → l.length = 7 → (∀ p, p < n → l.getD p 0 = if p < k then pu p + g p else pu p) → ∃ q : List Int32, f_X6_day_59 F (wA m 19 l) (nI k) = some (mI m 2628, wI (wI (wA m 19 q) 897 (mI m 2626)) 898 (mI m 2627)) ∧ q.length = 7 ∧ ∀ p, p < n → q.getD p 0 = pu p + g p := by
    intro j
    induction j with
    | zero =>
      intro k l F hk hF e1 e2
      obtain ⟨F', rfl⟩ : ∃ F', F = F' + 1 := ⟨F - 1, by omega⟩
      obtain rfl : k = n := by omega
      refine ⟨l, ?_, e1, fun p hp => by rw [e2 p hp, if_pos hp]⟩
      show fb_X6_day_59 _ _ _ = _
      unfold fb_X6_day_59
      rw [show mI (wA m 19 l) 896 = mI m 896 from rfl, h0, if_pos (nI_le (Nat.le_refl _) (by omega))]; rfl
    | succ j ih =>
      intro k l F hk hF e1 e2
      obtain ⟨F', rfl⟩ : ∃ F', F = F' + 1 := ⟨F - 1, by omega⟩
      have hkn : k < n := by omega
      show ∃ q : List Int32, fb_X6_day_59 _ _ _ = _ ∧ _
      unfold fb_X6_day_59
      rw [show mI (wA m 19 l) 896 = mI m 896 from rfl, h0, if_neg (nI_ge hkn (by omega)), show mA (wA m 19 l) 19 = l from rfl, gA_at (by omega) (by omega), e2 k hkn, if_neg (Nat.lt_irrefl k), Option.bind_some, show mA (wA m 19 l) 42 = mA m 42 from rfl, gA_at (by omega) (by omega), h42 k hkn, Option.bind_some, sA_at0 (by show k < l.length; omega) (by omega), Option.bind_some, nI_1, wA_wA, show mA (wA m 19 l) 19 = l from rfl]
      refine ih (k + 1) _ F' (by omega) (by omega) (by rw [List.length_set]; exact e1) (fun p hp => ?_)
      rw [gd_set]
      by_cases e : k = p
      · subst e; rw [if_pos ⟨rfl, by omega⟩, if_pos (by omega)]
      · rw [if_neg (fun z => e z.1), e2 p hp]
        by_cases e2 : p < k
        · rw [if_pos e2, if_pos (by omega)]
        · rw [if_neg e2, if_neg (by omega)]
  obtain ⟨q, r⟩ := main n 0 (mA m 19) 1000 (by omega) (by omega) l19 (fun p hp => by rw [if_neg (by omega)]; exact h19 p hp)
  rw [wA_self] at r
  exact ⟨q, r⟩
theorem op_day (h : RR mx mm) : OPe (f_X6_day mx) (f_X7_day mm) := by
  obtain ⟨W, S, hr⟩ := id h
  obtain ⟨cs, hg⟩ := RRs.rg hr
  have hr : RRs W S mx mm := hr
  have hO := hg.2.1
  have hdt := hO.2.1
  have hyr := hO.2.2.1
  have hn := hO.1.1
  obtain ⟨hX, hS, hM, hQ⟩ := id hg.1
  have e1 : mI mx 897 = nI S.2.2.2.1 := hS.1.2.1
  have e2 : mI mx 898 = nI S.2.2.2.2.1 := hS.1.2.2.1
  have e3 : mI mm 1 = nI S.2.2.2.1 := hQ.1.2.1
  have e4 : mI mm 2 = nI S.2.2.2.2.1 := hQ.1.2.2.1
  have main : ¬ (S.2.2.2.1 = 11 ∧ S.2.2.2.2.1 = 999) → OPe (f_X6_day_28 mx) (f_X7_day_24 mm) := by
    intro hc
    have htw := hg.tw
    have hmr := hg.mr
    obtain ⟨m1, s1, s2, s3, s4⟩ := hg.start (due := nI (clLast 1 10 cs))
    obtain ⟨m2, g1, g2, g3⟩ := x_go (N := 1) (by omega) s2 (by show S.2.2.2.2.1 + 1 < _; omega)
    obtain ⟨⟨a1, a2, a3, a4, a5, a6, a7, a8, a9, a10, a11, a12, a13, a14⟩, -⟩ := id g2
    have ff := s3.trans g3
    have hD : MD mm S.1 S.2.1 S.2.2.2.2.2.2 cs (nI (clLast 1 10 cs)) S.2.2.1 (S.2.2.2.1, S.2.2.2.2.1, fun _ => 0, fun p => (mA mm 18).getD p 0, 0) := by
      obtain ⟨b1, b2, b3, b4, b5, b6, b7, b8, b9, b10, b11, b12⟩ := hmr
      exact ⟨b1, b2, b3, b4, b7, b9, b10, fun p hp => by rw [b8 p hp]; exact (Int32.add_zero _).symm, fun p hp => rfl, b5⟩
    obtain ⟨m3, d1, d2, d3⟩ := m_goDay hD (by show S.2.2.2.2.1 < _; omega)
    obtain ⟨c1, c2, c3, c4, c5, c6, c7, c8, c9, c10⟩ := id d2
    obtain ⟨q, q1, q2, q3⟩ := day_lp (m := m2) (pu := S.2.2.1) hn a1.2.1 (by rw [ff.2.1 19 (by decide)]; exact hX.2.1) a9 (fun p hp => by rw [ff.2.1 19 (by decide)]; exact hS.2.2.1 p hp) a12
    unfold f_X6_day_28 f_X7_day_24
    rw [chR_t htw.1, htw.2.1, s1, bnd_some, show (1 : Int32) = nI 1 from rfl, g1, bnd_some, d1, bnd_some, q1, a8, a6, a7]
    have hs2 : RRs W S m2 mm := hr.frS (g2.frS hg.2.2.2.1 ff) (FSM.rfl hg.2.2.2.2.1)
    obtain ⟨hX2, hS2, -, -⟩ := id hs2.1
    have hsc := hg.2.2.2.2.1
    refine ⟨_, _, m3, rfl, rfl, W, (S.1, S.2.1, fun p => S.2.2.1 p + (day1 S.1 S.2.1 cs (nI (clLast 1 10 cs)) (S.2.2.2.1, S.2.2.2.2.1, fun _ => 0, fun _ => 0, 0)).2.2.1 p, (S.2.2.2.1 + 1) % 12, S.2.2.2.2.1 + (if S.2.2.2.1 = 11 then 1 else 0), S.2.2.2.2.2), ?_⟩
    refine RRs.now hs2 ⟨⟨hX2.1, q2, hX2.2.2⟩, ⟨⟨hS2.1.1, rfl, rfl, hS2.1.2.2.2.1, hS2.1.2.2.2.2⟩, hS2.2.1, fun p hp => q3 p hp, hS2.2.2.2⟩, ?_, ?_⟩ ⟨hO.1, Nat.mod_lt _ (by decide), ?_, hO.2.2.2.1, hO.2.2.2.2.1, fun p hp => ?_, hO.2.2.2.2.2.2⟩ ⟨c6, c7, ?_⟩ (fun k hk => ?_) (fun c hc => ?_) (fun _ => rfl) (fun _ _ => rfl) (fun k hk => d3.1 k (fun e => hk (by rw [e]; decide)) (fun e => hk (by rw [e]; decide))) (fun c h1 h2 => d3.2.1 c (by omega) (by omega) (by omega)) d3.2.2.1
    · unfold MSh at hM ⊢
      rw [d3.2.1 1 (by decide) (by decide) (by decide), d3.2.1 2 (by decide) (by decide) (by decide), d3.2.1 3 (by decide) (by decide) (by decide), d3.2.1 4 (by decide) (by decide) (by decide), d3.2.1 7 (by decide) (by decide) (by decide), d3.2.1 6 (by decide) (by decide) (by decide), d3.2.1 23 (by decide) (by decide) (by decide)]
      exact ⟨hM.1, c5, hM.2.2⟩
    · unfold MS at hQ ⊢
      rw [d3.1 0 (by decide) (by decide), d3.1 38 (by decide) (by decide), d3.1 11 (by decide) (by decide), d3.2.1 1 (by decide) (by decide) (by decide), d3.2.1 2 (by decide) (by decide) (by decide), d3.2.1 3 (by decide) (by decide) (by decide), d3.2.1 4 (by decide) (by decide) (by decide), d3.2.1 7 (by decide) (by decide) (by decide), d3.2.1 6 (by decide) (by decide) (by decide), d3.2.1 23 (by decide) (by decide) (by decide)]
      exact ⟨⟨hQ.1.1, c3, c4, hQ.1.2.2.2.1, hQ.1.2.2.2.2⟩, hQ.2.1, fun p hp => c8 p hp, hQ.2.2.2⟩
    · show S.2.2.2.2.1 + (if S.2.2.2.1 = 11 then 1 else 0) ≤ 999
      split
      · omega
      · omega
    · have hq := hO.2.2.2.2.2.1 p hp
      have hcs := hg.2.2.2.2.2.2.1.2.2.2.2.1
      have hcl := hg.2.2.2.2.2.2.1.2.2.2.2.2
      have hde := clLast_lt (w := 1) (d := 10) hcs (by decide)
      have hb := day1_b (n := S.1) (pd := S.2.1) (cs := cs) (p := p) (e := clLast 1 10 cs) (s := (S.2.2.2.1, S.2.2.2.2.1, fun _ => 0, fun _ => 0, 0)) (B := 0) hn hcs hcl hde (by decide) hp (by show -0 ≤ (0 : Int32).toInt ∧ (0 : Int32).toInt ≤ 0; decide)
      have ed : (12 * ((S.2.2.2.2.1 + (if S.2.2.2.1 = 11 then 1 else 0) : Nat) : Int) + ((S.2.2.2.1 + 1) % 12 : Nat)) = 12 * (S.2.2.2.2.1 : Int) + S.2.2.2.1 + 1 := by
        split <;> omega
      show -(80000 * (12 * ((S.2.2.2.2.1 + (if S.2.2.2.1 = 11 then 1 else 0) : Nat) : Int) + ((S.2.2.2.1 + 1) % 12 : Nat))) ≤ (S.2.2.1 p + _).toInt ∧ (S.2.2.1 p + _).toInt ≤ 80000 * (12 * ((S.2.2.2.2.1 + (if S.2.2.2.1 = 11 then 1 else 0) : Nat) : Int) + ((S.2.2.2.1 + 1) % 12 : Nat))
      rw [ed, addI (by omega) (by omega)]
      omega
    · rw [d3.2.1 19 (by decide) (by decide) (by decide), d3.2.1 20 (by decide) (by decide) (by decide), d3.2.1 21 (by decide) (by decide) (by decide), d3.2.1 22 (by decide) (by decide) (by decide), d3.1 27 (by decide) (by decide)]
      exact hsc.2.2
    · rw [mI_wI, if_neg (by omega), mI_wI, if_neg (by omega)]; rfl
    · rw [mA_wI, mA_wI, mA_wA, if_neg (by omega)]
  unfold f_X6_day f_X7_day
  rw [e1, e3]
  by_cases c : S.2.2.2.1 = 11
  · rw [if_pos (show nI S.2.2.2.1 = (11 : Int32) from congrArg nI c), if_pos (show nI S.2.2.2.1 = (11 : Int32) from congrArg nI c), e2, e4]
    by_cases c2 : S.2.2.2.2.1 = 999
    · rw [if_neg (show ¬ nI S.2.2.2.2.1 < (999 : Int32) from (nI_nlt (by omega) (by omega) : ¬ nI S.2.2.2.2.1 < nI 999)), if_pos (show nI S.2.2.2.2.1 = (999 : Int32) from congrArg nI c2)]
      exact ⟨_, mx, mm, rfl, rfl, h⟩
    · rw [if_pos (show nI S.2.2.2.2.1 < (999 : Int32) from (nI_lt (by omega) (by decide) : nI S.2.2.2.2.1 < nI 999)), if_neg (show ¬ nI S.2.2.2.2.1 = (999 : Int32) from fun z => c2 ((nI_eq (by omega) (by decide)).mp (show nI S.2.2.2.2.1 = nI 999 from z)))]
      exact main (fun z => c2 z.2)
  · rw [if_neg (show ¬ nI S.2.2.2.1 = (11 : Int32) from fun z => c ((nI_eq (by omega) (by decide)).mp (show nI S.2.2.2.1 = nI 11 from z))), if_neg (show ¬ nI S.2.2.2.1 = (11 : Int32) from fun z => c ((nI_eq (by omega) (by decide)).mp (show nI S.2.2.2.1 = nI 11 from z)))]
    exact main (fun z => c z.1)
theorem in_g {m : mM} {p a b : Int32} : f_X7_in m p a b = some (if p < a then 0 else if b < p then 0 else 1, m) := by
  unfold f_X7_in
  split
  · rfl
  · split <;> rfl
/-- the bits of those born on y -/
def bO (pd : Nat → Nat → Nat) (y : Int32) : Nat → Int32
  | 0 => 0
  | k + 1 => if pd 4 k ≠ 0 ∧ nI (pd 2 k) = y then bO pd y k ||| (1 <<< (nI k &&& 31)) else bO pd y k
def pS (pu : Nat → Int32) : Nat → Int32
  | 0 => 0
  | k + 1 => pS pu k + pu k
theorem or0 {x : Int32} : x ||| 0 = x := Int32.or_zero
theorem x_bornOn {m : mM} {n : Nat} {pd : Nat → Nat → Nat} (h : PXr m 14 n pd) (y : Int32) : f_X6_bornOn m y = some (bO pd y n, m) := by
  unfold f_X6_bornOn
  have hn := h.2.2.1.1
  have h0 : mI m 896 = nI n := h.2.1
  have key := lp_upA (f := fun F m a i => f_X6_bornOn_4 F m y a i) (fb := fun K m a i => fb_X6_bornOn_4 (fun m _ a i => K m a i) m y a i) (fun _ _ _ _ => rfl) (n := n) (G := fun _ => m) (A := fun k => bO pd y k) (E := some (bO pd y n, m)) (fun k hk K => ?_) (fun K => ?_) n 0 1000 (by omega) (by omega)
  · exact key
  · obtain ⟨g1, g2, g3, g4, g5, g6⟩ := h.g hk
    obtain ⟨r1, r2, r3, r4, r5, r6⟩ := h.2.2.1.2 k hk
    show fb_X6_bornOn_4 _ _ _ _ _ = K m (if pd 4 k ≠ 0 ∧ nI (pd 2 k) = y then bO pd y k ||| (1 <<< (nI k &&& 31)) else bO pd y k) _
    unfold fb_X6_bornOn_4
    rw [h0, if_neg (nI_ge hk (by omega)), show gA (mA m 20) (nI k) = some (nI (pd 4 k)) from g5, Option.bind_some]
    by_cases c1 : pd 4 k = 0
    · rw [if_pos ((nI_z (by omega)).mpr c1), if_neg (fun z => z.1 c1), nI_1]
    · rw [if_neg (fun z => c1 ((nI_z (by omega)).mp z)), show gA (mA m 17) (nI k) = some (nI (pd 2 k)) from g3, Option.bind_some]
      by_cases c2 : nI (pd 2 k) = y
      · rw [if_pos c2, if_pos ⟨c1, c2⟩, nmI_eq, nI_1]
      · rw [if_neg c2, if_neg (fun z => c2 z.2), nI_1]
  · show fb_X6_bornOn_4 _ _ _ _ _ = _
    unfold fb_X6_bornOn_4
    rw [h0, if_pos (nI_le (Nat.le_refl _) (by omega))]
theorem m_bornOn {m : mM} {n : Nat} {pd : Nat → Nat → Nat} (h : PMr m n pd) (y : Int32) : f_X7_bornOn m y = some (bO pd y n, m) := by
  unfold f_X7_bornOn
  have hn := h.2.1.1
  have key := lp_upA (f := fun F m a i => f_X7_bornOn_4 F m y a i) (fb := fun K m a i => fb_X7_bornOn_4 (fun m _ a i => K m a i) m y a i) (fun _ _ _ _ => rfl) (n := n) (G := fun _ => m) (A := fun k => bO pd y k) (E := some (bO pd y n, m)) (fun k hk K => ?_) (fun K => ?_) n 0 1000 (by omega) (by omega)
  · exact key
  · obtain ⟨g1, g2, g3, g4, g5, g6⟩ := h.g hk
    obtain ⟨r1, r2, r3, r4, r5, r6⟩ := h.2.1.2 k hk
    show fb_X7_bornOn_4 _ _ _ _ _ = K m (if pd 4 k ≠ 0 ∧ nI (pd 2 k) = y then bO pd y k ||| (1 <<< (nI k &&& 31)) else bO pd y k) _
    unfold fb_X7_bornOn_4
    rw [h.1, if_neg (nI_ge hk (by omega)), g5, Option.bind_some]
    by_cases c1 : pd 4 k = 0
    · rw [if_pos ((nI_z (by omega)).mpr c1), if_neg (fun z => z.1 c1), nI_1, nmI_eq, or0]
    · rw [if_neg (fun z => c1 ((nI_z (by omega)).mp z)), g3, Option.bind_some]
      by_cases c2 : nI (pd 2 k) = y
      · rw [if_pos c2, if_pos ⟨c1, c2⟩, nmI_eq, nI_1]
      · rw [if_neg c2, if_neg (fun z => c2 z.2), nI_1, nmI_eq, or0]
  · show fb_X7_bornOn_4 _ _ _ _ _ = _
    unfold fb_X7_bornOn_4
    rw [h.1, if_pos (nI_le (Nat.le_refl _) (by omega))]
theorem x_allPurses {m : mM} {n : Nat} {pu : Nat → Int32} (hn : n ≤ 7) (h0 : mI m 896 = nI n) (hl : (mA m 19).length = 7) (hp : ∀ p, p < n → (mA m 19).getD p 0 = pu p) : f_X6_allPurses m = some (pS pu n, m) := by
  unfold f_X6_allPurses
  have key := lp_upA (f := fun F m a i => f_X6_allPurses_4 F m a i) (fb := fun K m a i => fb_X6_allPurses_4 (fun m a i => K m a i) m a i) (fun _ _ _ _ => rfl) (n := n) (G := fun _ => m) (A := fun k => pS pu k) (E := some (pS pu n, m)) (fun k hk K => ?_) (fun K => ?_) n 0 1000 (by omega) (by omega)
  · exact key
  · show fb_X6_allPurses_4 _ _ _ _ = K m (pS pu k + pu k) _
    unfold fb_X6_allPurses_4
    rw [h0, if_neg (nI_ge hk (by omega)), gA_at (by omega) (by omega), hp k hk, Option.bind_some, nmI_eq, nI_1]
  · show fb_X6_allPurses_4 _ _ _ _ = _
    unfold fb_X6_allPurses_4
    rw [h0, if_pos (nI_le (Nat.le_refl _) (by omega))]
theorem m_allPurses {m : mM} {n : Nat} {pu : Nat → Int32} (hn : n ≤ 7) (h0 : mI m 0 = nI n) (hl : (mA m 5).length = 7) (hp : ∀ p, p < n → (mA m 5).getD p 0 = pu p) : f_X7_allPurses m = some (pS pu n, m) := by
  unfold f_X7_allPurses
  have key := lp_upA (f := fun F m a i => f_X7_allPurses_4 F m a i) (fb := fun K m a i => fb_X7_allPurses_4 (fun m a i => K m a i) m a i) (fun _ _ _ _ => rfl) (n := n) (G := fun _ => m) (A := fun k => pS pu k) (E := some (pS pu n, m)) (fun k hk K => ?_) (fun K => ?_) n 0 1000 (by omega) (by omega)
  · exact key
  · show fb_X7_allPurses_4 _ _ _ _ = K m (pS pu k + pu k) _
    unfold fb_X7_allPurses_4
    rw [h0, if_neg (nI_ge hk (by omega)), gA_at (by omega) (by omega), hp k hk, Option.bind_some, nmI_eq, nI_1]
  · show fb_X7_allPurses_4 _ _ _ _ = _
    unfold fb_X7_allPurses_4
    rw [h0, if_pos (nI_le (Nat.le_refl _) (by omega))]
/-- the reference's bits of those that sell on y -/
def sO (n : Nat) (pd : Nat → Nat → Nat) (yr fe : Nat) (y : Int32) : Nat → Int32
  | 0 => 0
  | k + 1 => if pd 4 k ≠ 0 ∧ nI (selD n pd yr fe k) = y then sO n pd yr fe y k ||| (1 <<< (nI k &&& 31)) else sO n pd yr fe y k
theorem m_sellOn {m : mM} {n tw yr : Nat} {pd : Nat → Nat → Nat} {cs : List CL} (h : PT m n pd tw cs) (hy : mI m 2 = nI yr) (hy2 : yr < 2 ^ 31) (y : Int32) : f_X7_sellOn m y = some (sO n pd yr (clLast 3 99 cs) y n, m) := by
  unfold f_X7_sellOn
  have hn := h.1.2.1.1
  have key := lp_upA (f := fun F m a i => f_X7_sellOn_4 F m y a i) (fb := fun K m a i => fb_X7_sellOn_4 (fun m _ a i => K m a i) m y a i) (fun _ _ _ _ => rfl) (n := n) (G := fun _ => m) (A := fun k => sO n pd yr (clLast 3 99 cs) y k) (E := some (sO n pd yr (clLast 3 99 cs) y n, m)) (fun k hk K => ?_) (fun K => ?_) n 0 1000 (by omega) (by omega)
  · exact key
  · obtain ⟨g1, g2, g3, g4, g5, g6⟩ := h.1.g hk
    obtain ⟨r1, r2, r3, r4, r5, r6⟩ := h.1.2.1.2 k hk
    show fb_X7_sellOn_4 _ _ _ _ _ = K m (if pd 4 k ≠ 0 ∧ nI (selD n pd yr (clLast 3 99 cs) k) = y then sO n pd yr (clLast 3 99 cs) y k ||| (1 <<< (nI k &&& 31)) else sO n pd yr (clLast 3 99 cs) y k) _
    unfold fb_X7_sellOn_4
    rw [h.1.1, if_neg (nI_ge hk (by omega)), g5, Option.bind_some]
    by_cases c1 : pd 4 k = 0
    · rw [if_pos ((nI_z (by omega)).mpr c1), if_neg (fun z => z.1 c1), nI_1, nmI_eq, or0]
    · rw [if_neg (fun z => c1 ((nI_z (by omega)).mp z)), m_sells h hk hy hy2, bnd_some]
      by_cases c2 : nI (selD n pd yr (clLast 3 99 cs) k) = y
      · rw [if_pos c2, if_pos ⟨c1, c2⟩, nmI_eq, nI_1]
      · rw [if_neg c2, if_neg (fun z => c2 z.2), nI_1, nmI_eq, or0]
  · show fb_X7_sellOn_4 _ _ _ _ _ = _
    unfold fb_X7_sellOn_4
    rw [h.1.1, if_pos (nI_le (Nat.le_refl _) (by omega))]
/-- the class's bits: it answers, whatever -/
theorem x_sellingOn {W : Nat} {S : SS} {cs : List CL} (h : RG mx mm W S cs) (y : Int32) : ∃ r m', f_X6_sellingOn mx y = some (r, m') ∧ FSX mx m' := by
  unfold f_X6_sellingOn
  have htw := h.tw
  have hn := h.2.1.1.1
  obtain ⟨m1, s1, s2, s3, s4⟩ := h.start (due := nI (clLast 1 10 cs))
  rw [chR_t htw.1, htw.2.1, s1, bnd_some]
  obtain ⟨⟨a1, a2, a3, a4, a5, a6, a7, a8, a9, a10, a11, a12⟩, a13⟩ := s2
  have h0 : mI m1 896 = nI S.1 := a1.2.1
  have main : ∀ (j k : Nat) (v : Int32) (F : Nat), k + j = S.1 → j < F → ∃ r, f_X6_sellingOn_25 F m1 y v (nI k) = some (r, m1) := by
    intro j
    induction j with
    | zero =>
      intro k v F hk hF
      obtain ⟨F', rfl⟩ : ∃ F', F = F' + 1 := ⟨F - 1, by omega⟩
      show ∃ r, fb_X6_sellingOn_25 _ _ _ _ _ = _
      unfold fb_X6_sellingOn_25
      rw [h0, if_pos (nI_le (by omega) (by omega))]; exact ⟨v, rfl⟩
    | succ j ih =>
      intro k v F hk hF
      obtain ⟨F', rfl⟩ : ∃ F', F = F' + 1 := ⟨F - 1, by omega⟩
      show ∃ r, fb_X6_sellingOn_25 _ _ _ _ _ = _
      unfold fb_X6_sellingOn_25
      rw [h0, if_neg (nI_ge (by omega) (by omega)), gA_at (by omega) (by omega), Option.bind_some, nI_1, nmI_eq]
      split
      · exact ih (k + 1) _ F' (by omega) (by omega)
      · exact ih (k + 1) _ F' (by omega) (by omega)
  obtain ⟨r, hr⟩ := main S.1 0 0 1000 (by omega) (by omega)
  exact ⟨r, m1, hr, s4⟩
theorem op_told_t (h : RR mx mm) (p : Int32) : OPt (f_X6_told mx p) (f_X7_told mm p) ∧ (p < 30 ∨ 41 < p → OPe (f_X6_told mx p) (f_X7_told mm p)) := by
  obtain ⟨W, S, hr⟩ := id h
  obtain ⟨cs, hg⟩ := RRs.rg hr
  have hn := hg.2.1.1.1
  obtain ⟨hX, hS, hM, hQ⟩ := id hg.1
  have hmr := hg.mr
  have htw := hg.tw
  have i10 : (10 : Int32).toInt = 10 := by decide
  have i21 : (21 : Int32).toInt = 21 := by decide
  have i22 : (22 : Int32).toInt = 22 := by decide
  have i30 : (30 : Int32).toInt = 30 := by decide
  have i41 : (41 : Int32).toInt = 41 := by decide
  have i42 : (42 : Int32).toInt = 42 := by decide
  have wk : ∀ {a b : fR Int32}, OPe a b → OPt a b := fun ⟨r, m1, m2, e1, e2, e3⟩ => ⟨r, r, m1, m2, e1, e2, e3⟩
  have small : OPe (f_X6_told_42 mx p) (if p = 0 then bnd (f_X7_dueNow mm) fun (x8 : Int32) (m9 : mM) => some (x8, m9) else if p = 1 then bnd (f_X7_lastOf mm 2 1) fun (x11 : Int32) (m12 : mM) => some (x11, m12) else if p = 2 then bnd (f_X7_lastOf mm 3 99) fun (x14 : Int32) (m15 : mM) => some (x14, m15) else if p = 3 then some ((mI mm 1), mm) else if p = 4 then some ((mI mm 2), mm) else if p = 5 then bnd (f_X7_allPurses mm) fun (x17 : Int32) (m18 : mM) => some (x17, m18) else some ((-10000001), mm)) := by
    unfold f_X6_told_42
    by_cases c0 : p = 0
    · rw [if_pos c0, if_pos c0, chR_t htw.1, htw.2.1, m_due hmr.1.2 hmr.2.1, bnd_some]; exact ⟨_, mx, mm, rfl, rfl, h⟩
    rw [if_neg c0, if_neg c0]
    by_cases c1 : p = 1
    · rw [if_pos c1, if_pos c1, chR_t htw.1, htw.2.2.1, show (2 : Int32) = nI 2 from rfl, show (1 : Int32) = nI 1 from rfl, m_lastOf hmr.1.2 (by decide), bnd_some]; exact ⟨_, mx, mm, rfl, rfl, h⟩
    rw [if_neg c1, if_neg c1]
    by_cases c2 : p = 2
    · rw [if_pos c2, if_pos c2, chR_t htw.1, htw.2.2.2, show (3 : Int32) = nI 3 from rfl, show (99 : Int32) = nI 99 from rfl, m_lastOf hmr.1.2 (by decide), bnd_some]; exact ⟨_, mx, mm, rfl, rfl, h⟩
    rw [if_neg c2, if_neg c2]
    by_cases c3 : p = 3
    · rw [if_pos c3, if_pos c3, hQ.1.2.1, show mI mx 897 = nI S.2.2.2.1 from hS.1.2.1]; exact ⟨_, mx, mm, rfl, rfl, h⟩
    rw [if_neg c3, if_neg c3]
    by_cases c4 : p = 4
    · rw [if_pos c4, if_pos c4, hQ.1.2.2.1, show mI mx 898 = nI S.2.2.2.2.1 from hS.1.2.2.1]; exact ⟨_, mx, mm, rfl, rfl, h⟩
    rw [if_neg c4, if_neg c4]
    by_cases c5 : p = 5
    · rw [if_pos c5, if_pos c5, x_allPurses hn hS.1.1 hX.2.1 hS.2.2.1, m_allPurses hn hQ.1.1 hM.2.1 hQ.2.2.1, bnd_some, bnd_some]; exact ⟨_, mx, mm, rfl, rfl, h⟩
    rw [if_neg c5, if_neg c5]
    exact ⟨_, mx, mm, rfl, rfl, h⟩
  unfold f_X6_told f_X7_told
  rw [in_g, bnd_some, in_g, bnd_some]
  by_cases c1 : p < 10
  · have k1 : p < 30 := by rw [Int32.lt_iff_toInt_lt] at c1 ⊢; omega
    rw [if_pos c1, if_pos c1, if_pos rfl]
    unfold f_X6_told_21
    rw [if_pos k1, if_pos k1, if_pos rfl]
    exact ⟨wk small, fun _ => small⟩
  rw [if_neg c1, if_neg c1]
  by_cases c2 : 22 ≤ p
  · have k2 : 21 < p := by rw [Int32.lt_iff_toInt_lt]; rw [Int32.le_iff_toInt_le] at c2; omega
    rw [if_pos c2, if_pos k2, if_pos rfl]
    unfold f_X6_told_21
    by_cases c3 : p < 30
    · rw [if_pos c3, if_pos c3, if_pos rfl]
      exact ⟨wk small, fun _ => small⟩
    rw [if_neg c3, if_neg c3]
    by_cases c4 : 42 ≤ p
    · have k4 : 41 < p := by rw [Int32.lt_iff_toInt_lt]; rw [Int32.le_iff_toInt_le] at c4; omega
      rw [if_pos c4, if_pos k4, if_pos rfl]
      exact ⟨wk small, fun _ => small⟩
    have k4 : ¬ 41 < p := by rw [Int32.lt_iff_toInt_lt]; rw [Int32.le_iff_toInt_le] at c4; omega
    rw [if_neg c4, if_neg k4, if_neg (show ¬ (1 : Int32) = 0 by decide)]
    obtain ⟨r, m', q1, q2⟩ := x_sellingOn hg (p - 30)
    rw [q1, bnd_some, m_sellOn hmr.1 hmr.2.2.2.1 (by have := hmr.2.2.2.2.2.1; omega), bnd_some]
    exact ⟨⟨r, _, m', mm, rfl, rfl, h.frS q2 (FSM.rfl hg.2.2.2.2.1)⟩, fun z => by rcases z with z | z; exact absurd z c3; exact absurd z k4⟩
  · have k2 : ¬ 21 < p := by rw [Int32.lt_iff_toInt_lt]; rw [Int32.le_iff_toInt_le] at c2; omega
    rw [if_neg c2, if_neg k2, if_neg (show ¬ (1 : Int32) = 0 by decide), x_bornOn hg.2.2.2.2.2.1, m_bornOn hmr.1.1, bnd_some, bnd_some]
    exact ⟨⟨_, _, mx, mm, rfl, rfl, h⟩, fun _ => ⟨_, mx, mm, rfl, rfl, h⟩⟩
end OPS5
