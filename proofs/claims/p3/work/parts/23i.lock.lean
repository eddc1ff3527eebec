/-! REST: both, side by side -/
section LOCK
def FRm (m m' : mM) : Prop := (∀ i, i ≠ 31 → i ≠ 32 → i ≠ 34 → i ≠ 35 → mI m' i = mI m i) ∧ (∀ d, d ≠ 4 → ¬ (17 ≤ d ∧ d ≤ 20) → mA m' d = mA m d) ∧ (∀ d, mL m' d = mL m d) ∧ (∀ i, mR m' i = mR m i)
theorem rest_lock {mx mm : mM} {n tw t : Nat} {cs : List CL} {pu : Nat → Int32} {dt yr : Nat} {y1 : Int32} (hn : n ≤ 7) : ∀ (ν r p : Nat) (mX mM1 : mM) (pd : Nat → Nat → Nat) (c : Nat) (q : Int32) (Q k F44 F60 F32 : Nat), ((p = n ∧ 2 * (8 * (9 - c) + (n - Q)) + 1 ≤ ν) ∨ (p < n ∧ 2 * (8 * (9 - c) + (n - Q)) ≤ ν)) → r ≤ 8 → n - p < F60 → 9 - r < F44 → 8 * (9 - c) + (n - Q) < F32 → ((q = 0 ∧ r + 1 ≤ c) ∨ (q = 1 ∧ r ≤ c ∧ p ≤ Q)) → c ≤ 9 → Q ≤ n → ((k = p ∧ p < n) ∨ (k = 0 ∧ p = n)) → (∀ j, j < n → ((j < k ∧ k ≤ j + Q) ∨ (k ≤ j ∧ k + n ≤ j + Q)) → ¬ wnt n pd cs dt yr j) → FSX mx mX → TR mX n pd t cs dt yr → MR mM1 n pd tw cs (nI (clLast 1 10 cs)) pu dt yr → FRm mm mM1 →
    ∃ mX' mM' pX pM c' c'', f_X6_rest_60 (f_X6_rest_44 F44) F60 mX y1 (nI c) q (nI r) (nI p) = f_X6_rest_160 mX' y1 (nI c') ∧ f_X7_layRest_32 F32 mM1 (nI c) (nI Q) (nI k) = f_X7_layRest_126 1000 mM' (nI c'') 0 ∧ FSX mx mX' ∧ TR mX' n pX t cs dt yr ∧ MR mM' n pM tw cs (nI (clLast 1 10 cs)) pu dt yr ∧ FRm mm mM' ∧ c' ≤ 200 ∧ ((c' = c'' ∧ c' ≤ 8 ∧ pX = pM) ∨ (9 ≤ c' ∧ c'' = 9)) := by
  intro ν
  induction ν using Nat.strongRecOn with
  | ind ν ih =>
    intro r p mX mM1 pd c q Q k F44 F60 F32 hν hr h60 h44 h32 hq hc hQ hk hw fX tX tM fM
    have hp : p ≤ n := by omega
    obtain ⟨F32, rfl⟩ : ∃ F', F32 = F' + 1 := ⟨F32 - 1, by omega⟩
    by_cases stop : Q = n ∨ c = 9
    · have eM : f_X7_layRest_32 (F32 + 1) mM1 (nI c) (nI Q) (nI k) = f_X7_layRest_126 1000 mM1 (nI c) 0 := by
        show fb_X7_layRest_32 _ _ _ _ _ = _
        unfold fb_X7_layRest_32
        rw [show mI mM1 0 = nI n from tM.1.1.1]
        by_cases e : Q = n
        · rw [if_pos (nI_le (by omega) (by omega))]
        · rw [if_neg (nI_ge (by omega) (by omega)), if_pos (show (9 : Int32) ≤ nI c from (nI_le (by omega) (by omega) : nI 9 ≤ nI c))]
      obtain ⟨m', pd', c', g1, g2, g3, g4, g5, g6⟩ := x_rest_alone (y1 := y1) hn _ r p mX pd c q F44 F60 rfl hr hp h60 h44 (by rcases hq with z | z; exact Or.inl z.1; exact Or.inr z.1) fX tX
      have hb : (9 - r) * (n + 1) ≤ 9 * 8 := Nat.mul_le_mul (by omega) (by omega)
      refine ⟨m', mM1, pd', pd, c', c, g1, eM, g2, g3, tM, fM, by omega, ?_⟩
      by_cases e9 : c = 9
      · right; omega
      · have eQ : Q = n := stop.resolve_right e9
        obtain ⟨w1, w2⟩ := g6 (fun j hj => hw j hj (by omega))
        left; exact ⟨w2, by omega, w1⟩
    · obtain ⟨F60, rfl⟩ : ∃ F', F60 = F' + 1 := ⟨F60 - 1, by omega⟩
      by_cases hpn : p = n
      · obtain ⟨F44, rfl⟩ : ∃ F', F44 = F' + 1 := ⟨F44 - 1, by omega⟩
        have hq0 : q = 0 ∧ r + 1 ≤ c := hq.resolve_right (fun z => by omega)
        have e : f_X6_rest_60 (f_X6_rest_44 (F44 + 1)) (F60 + 1) mX y1 (nI c) q (nI r) (nI p) = f_X6_rest_60 (f_X6_rest_44 F44) 1000 mX y1 (nI c) 1 (nI (r + 1)) (nI 0) := by
          show fb_X6_rest_60 _ _ _ _ _ _ _ _ = _
          unfold fb_X6_rest_60
          rw [show mI mX 2048 = nI n from tX.1.2.1, if_pos (nI_le (by omega) (by omega)), nI_1]
          show fb_X6_rest_44 _ _ _ _ _ _ = _
          unfold fb_X6_rest_44
          rw [if_neg (show ¬ (8 : Int32) < nI (r + 1) from (nI_nlt (by omega) (by omega) : ¬ nI 8 < nI (r + 1))), if_pos hq0.1]; rfl
        rw [e]
        exact ih (ν - 1) (by omega) (r + 1) 0 mX mM1 pd c 1 Q k F44 1000 (F32 + 1) (by omega) (by omega) (by omega) (by omega) h32 (Or.inr ⟨rfl, by omega, by omega⟩) hc hQ (by omega) hw fX tX tM fM
      · have hpl : p < n := by omega
        obtain rfl : k = p := by omega
        obtain ⟨m1, s1, s2, s3⟩ := x_rest_step (K44 := f_X6_rest_44 F44) (K60 := fun m a b c d e => f_X6_rest_60 (f_X6_rest_44 F44) F60 m a b c d e) (y1 := y1) (c := nI c) (q := q) (r := nI r) fX tX hpl
        have e : f_X6_rest_60 (f_X6_rest_44 F44) (F60 + 1) mX y1 (nI c) q (nI r) (nI k) = _ := s1
        obtain ⟨m2, u1, u2, u3, u4, u5, u6, u7⟩ := m_rest_step (K32 := fun m a b c => f_X7_layRest_32 F32 m a b c) (c := c) (q := Q) tM hpl (by omega) (by omega)
        have e2 : f_X7_layRest_32 (F32 + 1) mM1 (nI c) (nI Q) (nI k) = _ := u1
        have fM2 : FRm mm m2 := ⟨fun i a1 a2 a3 a4 => (u3 i a1 a2 a3 a4).trans (fM.1 i a1 a2 a3 a4), fun d a1 a2 => (u4 d a1 a2).trans (fM.2.1 d a1 a2), fun d => (u5 d).trans (fM.2.2.1 d), fun i => (u6 i).trans (fM.2.2.2 i)⟩
        have hmod : ((k + 1) % n = k + 1 ∧ k + 1 < n) ∨ ((k + 1) % n = 0 ∧ k + 1 = n) := by
          by_cases z : k + 1 = n
          · right; rw [z, Nat.mod_self]; exact ⟨rfl, rfl⟩
          · left; exact ⟨Nat.mod_eq_of_lt (by omega), by omega⟩
        rw [e, e2]
        by_cases w : wnt n pd cs dt yr k
        · rw [if_pos w, if_pos w, nI_1]
          exact ih (ν - 1) (by omega) r (k + 1) m1 m2 _ (c + 1) 0 0 _ F44 F60 F32 (by omega) hr (by omega) h44 (by omega) (Or.inl ⟨rfl, by omega⟩) (by omega) (by omega) (by omega) (fun j hj z => by omega) s2 s3 u2 fM2
        · have es : stp n pd cs dt yr k = pd := by unfold stp; rw [if_neg w]
          rw [es] at s3 u2
          rw [if_neg w, if_neg w]
          refine ih (ν - 1) (by omega) r (k + 1) m1 m2 pd c q (Q + 1) _ F44 F60 F32 (by omega) hr (by omega) h44 (by omega) (hq.imp (fun z => z) (fun z => ⟨z.1, z.2.1, by omega⟩)) hc (by omega) (by omega) (fun j hj z => ?_) s2 s3 u2 fM2
          by_cases ej : j = k
          · rw [ej]; exact w
          · exact hw j hj (by omega)
theorem op_rest_core {mx mm : mM} (h : RR mx mm) {W : Nat} {S : SS} {cs : List CL} (hg : RG mx mm W S cs) (y : Int32) (hy : y = 0 ∨ (¬ y = 0 ∧ ∃ j, j < S.1 ∧ y - 10 = nI j)) : OPe (f_X6_rest_26 mx y) (f_X7_rest_23 mm y) := by
  have hn := hg.2.1.1.1
  obtain ⟨hX, hS, hM, hQ⟩ := id hg.1
  obtain ⟨c1, c2, c3⟩ := hg.copy
  have hmr := hg.mr
  have l4 : (mA mm 4).length = 7 := hM.1.2.2.2.1
  have hsc : R_scM mm := hg.2.2.2.2.1
  have l21 : (mA mm 21).length = 7 := hsc.2.2.2.2.1
  have l22 : (mA mm 22).length = 7 := hsc.2.2.2.2.2.1
  have hmr2 : MR (wA mm 21 (mA mm 4)) S.1 S.2.1 S.2.2.2.2.2.2 cs (nI (clLast 1 10 cs)) S.2.2.1 S.2.2.2.1 S.2.2.2.2.1 := hmr
  unfold f_X6_rest_26 f_X7_rest_23
  rw [c1, bnd_some, m_rest_keep l4 l21]
  have e44 : f_X6_rest_44 1000 (cpM mx 32 14) y 0 0 0 = f_X6_rest_60 (f_X6_rest_44 999) 1000 (cpM mx 32 14) y (nI 0) 1 (nI 0) (nI 0) := by
    show fb_X6_rest_44 _ _ _ _ _ _ = _
    unfold fb_X6_rest_44
    rw [if_neg (show ¬ (8 : Int32) < 0 by decide), if_pos rfl]; rfl
  obtain ⟨mX', mM', pX, pM, c', c'', g1, g2, g3, g4, g5, g6, g7, g8⟩ := rest_lock (mx := mx) (mm := wA mm 21 (mA mm 4)) (y1 := y) hn 1000 0 0 (cpM mx 32 14) (wA mm 21 (mA mm 4)) S.2.1 0 1 0 0 999 1000 1000 (by omega) (by omega) (by omega) (by omega) (by omega) (Or.inr ⟨rfl, by omega, by omega⟩) (by omega) (by omega) (by omega) (fun j hj z => by omega) c2 c3 hmr2 ⟨fun _ _ _ _ _ => rfl, fun _ _ _ => rfl, fun _ => rfl, fun _ => rfl⟩
  have l4' : (mA mM' 4).length = 7 := g5.1.1.2.2.1.2.2.2.1
  have e21 : mA mM' 21 = mA mm 4 := g6.2.1 21 (by decide) (by decide)
  have e22 : mA mM' 22 = mA mm 22 := g6.2.1 22 (by decide) (by decide)
  rw [e44, g1, show f_X7_layRest_32 1000 (wA mm 21 (mA mm 4)) 0 0 0 = _ from g2, m_rest_end l4' (by rw [e21]; exact l4) (by rw [e22]; exact l22), bnd_some]
  have fin : RR mX' (wA (wA mM' 22 (mA mM' 4)) 4 (mA mM' 21)) := by
    refine h.frS g3 ⟨fun k a1 a2 a3 a4 => g6.1 k a1 a2 a3 a4, fun d hd => ?_, g6.2.2.1, g6.2.2.2, ?_⟩
    · rw [mA_wA, mA_wA]
      by_cases e4 : d = 4
      · rw [if_pos e4, e21, e4]
      · rw [if_neg e4, if_neg (by omega), g6.2.1 d e4 (by omega), mA_wA, if_neg (by omega)]
    · obtain ⟨_, _, _, _, _, _, _, _, k1, k2, k3, k4⟩ := g5
      refine ⟨k1, k2, k3, k4, ?_, l4', ?_⟩
      · show (mA mM' 21).length = 7; rw [e21]; exact l4
      · show mI mM' 27 = -1
        rw [g6.1 27 (by decide) (by decide) (by decide) (by decide)]; exact hsc.2.2.2.2.2.2
  unfold f_X6_rest_160
  rcases g8 with ⟨z1, z2, z3⟩ | ⟨z1, z2⟩
  · subst z1 z3
    have e8 : nI c' ≤ (8 : Int32) := (nI_le z2 (by decide) : nI c' ≤ nI 8)
    rw [if_pos e8, if_pos e8]
    rcases hy with rfl | ⟨y0, j, hj, ey⟩
    · rw [if_pos rfl, if_pos rfl]; exact ⟨_, _, _, rfl, rfl, fin⟩
    · rw [if_neg y0, if_neg y0, if_pos (nI_pos' (by omega)), ey, (g4.1.g hj).2.2.2.1, Option.bind_some]
      have eR : mA (wA (wA mM' 22 (mA mM' 4)) 4 (mA mM' 21)) 22 = mA mM' 4 := rfl
      rw [eR, (g5.1.1.g hj).2.2.2.1, Option.bind_some]
      exact ⟨_, _, _, rfl, rfl, fin⟩
  · subst z2
    have e8 : ¬ nI c' ≤ (8 : Int32) := (nI_ge (by omega) (by omega) : ¬ nI c' ≤ nI 8)
    rw [if_neg e8, if_neg (show ¬ nI 9 ≤ (8 : Int32) by decide), if_neg (show ¬ (0 : Int32) ≤ -5 by decide)]
    rcases hy with rfl | ⟨y0, j, hj, ey⟩
    · rw [if_pos rfl]; exact ⟨_, _, _, rfl, rfl, fin⟩
    · rw [if_neg y0]; exact ⟨_, _, _, rfl, rfl, fin⟩
theorem op_rest {mx mm : mM} (h : RR mx mm) (p : Int32) : OPe (f_X6_rest mx p) (f_X7_rest mm p) := by
  obtain ⟨W, S, hr⟩ := id h
  obtain ⟨cs, hg⟩ := RRs.rg hr
  have hn := hg.2.1.1.1
  obtain ⟨hX, hS, hM, hQ⟩ := id hg.1
  unfold f_X6_rest f_X7_rest
  by_cases p0 : p = 0
  · rw [if_pos p0, if_pos p0]; exact op_rest_core h hg p (Or.inl p0)
  rw [if_neg p0, if_neg p0, show mI mx 896 = nI S.1 from hS.1.1, show mI mm 0 = nI S.1 from hQ.1.1]
  unfold f_X7_in
  have e10 : (10 : Int32).toInt = 10 := by decide
  by_cases p1 : p < 10
  · rw [if_pos p1, if_pos p1, bnd_some, if_pos rfl]; exact ⟨_, mx, mm, rfl, rfl, h⟩
  rw [if_neg p1, if_neg p1]
  have q1 : 10 ≤ p.toInt := by rw [Int32.lt_iff_toInt_lt, e10] at p1; omega
  have hpb := p.toInt_lt
  obtain ⟨j, hj, ej⟩ : ∃ j, j < 2 ^ 31 ∧ p = nI j := nI_of (by rw [Int32.lt_iff_toInt_lt]; show ¬ p.toInt < 0; omega)
  subst ej
  rw [nI_toInt hj] at q1
  obtain ⟨i, rfl⟩ : ∃ i, j = i + 10 := ⟨j - 10, by omega⟩
  have e1 : nI (i + 10) - 10 = nI i := by
    rw [← nI_add]; exact Int32.add_sub_cancel _ _
  have e2 : (9 : Int32) + nI S.1 = nI (9 + S.1) := nI_add 9 S.1
  rw [e1, e2]
  by_cases hi : i < S.1
  · rw [if_pos (nI_lt hi (by omega)), if_neg (nI_nlt (by omega) (by omega)), bnd_some, if_neg (show ¬ (1 : Int32) = 0 by decide)]
    exact op_rest_core h hg _ (Or.inr ⟨p0, i, hi, e1⟩)
  · rw [if_neg (nI_nlt (by omega) (by omega)), if_pos (nI_lt (by omega) (by omega)), bnd_some, if_pos rfl]
    exact ⟨_, mx, mm, rfl, rfl, h⟩
end LOCK
