/-! OPERATIONS: town -/
section TOWNOP
variable {mx mm : mM}
/-- behind a reading, THE TEXT emptied: all as it was -/
theorem RRs.read {W : Nat} {S : SS} {mX nM : mM} (h : RRs W S mx mm) (hW : W < 6) (fX : FPX mx mX (twA (W + 1))) (fM : FPM mm nM W) : RRs W S (wI mX 129 0) (wI nM 12 0) := by
  obtain ⟨⟨hX, hS, hM, hQ⟩, hO, ⟨k1, k2, b, k3, k4, k5⟩, hC, hC2, ⟨t1, t2, t3⟩, ⟨w1, w2, w3, w4, w5, w6⟩, ⟨c1, c2, c3⟩, hP⟩ := h
  have ea : twA (W + 1) = 46 + 6 * W := rfl
  rw [ea] at fX
  obtain ⟨f0, f1, f2, f3, f4, f5⟩ := fX
  obtain ⟨g1, g2, g3, g4, g5, g6, g7, g8⟩ := fM
  have xI : ∀ k, k ≠ 129 → k ≠ 130 → k ≠ 131 → ¬ (2944 ≤ k ∧ k < 5248) → mI (wI mX 129 0) k = mI mx k := fun k h1 h2 h3 h4 => by
    rw [mI_wI, if_neg h1]; exact f1 k h2 h3 (by omega)
  have xA : ∀ c, ¬ (46 ≤ c ∧ c < 82) → mA (wI mX 129 0) c = mA mx c := fun c hc => f2 c (by omega)
  have mIe : ∀ k, k ≠ 12 → k ≠ 13 → k ≠ 14 → k ≠ 23 → k ≠ 24 → k ≠ 25 → mI (wI nM 12 0) k = mI mm k := fun k h1 h2 h3 h4 h5 h6 => by
    rw [mI_wI, if_neg h1]; exact g1 k h2 h3 h4 h5 h6
  have gA : ∀ c, ¬ (9 ≤ c ∧ c ≤ 15) → mA (wI nM 12 0) c = mA mm c := g2
  have xR : ∀ k, mR (wI mX 129 0) k = mR mx k := f4
  refine ⟨⟨hX.fr (fun k hk => xA _ (by omega)), hS.fr (fun k hk => xI _ (by omega) (by omega) (by omega) (by omega)) (xR _) (fun k hk => xA _ (by omega)), ?_, ?_⟩, hO, ⟨k1.fr (fun k hk => xA _ (by omega)), ?_, b, by rw [xI 3 (by decide) (by decide) (by decide) (by decide)]; exact k3, by rw [mIe 40 (by decide) (by decide) (by decide) (by decide) (by decide) (by decide)]; exact k4, fun hb => ?_⟩, ?_, ?_, ?_, ?_, ?_, ?_⟩
  · unfold MSh at hM ⊢
    rw [gA 1 (by decide), gA 2 (by decide), gA 3 (by decide), gA 4 (by decide), gA 7 (by decide), gA 6 (by decide), gA 5 (by decide), gA 23 (by decide)]; exact hM
  · unfold MS at hQ ⊢
    rw [gA 1 (by decide), gA 2 (by decide), gA 3 (by decide), gA 4 (by decide), gA 7 (by decide), gA 6 (by decide), gA 5 (by decide), gA 23 (by decide), mIe 0 (by decide) (by decide) (by decide) (by decide) (by decide) (by decide), mIe 1 (by decide) (by decide) (by decide) (by decide) (by decide) (by decide), mIe 2 (by decide) (by decide) (by decide) (by decide) (by decide) (by decide), mIe 38 (by decide) (by decide) (by decide) (by decide) (by decide) (by decide), mIe 11 (by decide) (by decide) (by decide) (by decide) (by decide) (by decide)]; exact hQ
  · unfold MKh at k2 ⊢
    rw [gA 24 (by decide), gA 25 (by decide), gA 26 (by decide), gA 27 (by decide), gA 31 (by decide), gA 29 (by decide), gA 28 (by decide), gA 30 (by decide)]; exact k2
  · obtain ⟨K, q1, q2, q3⟩ := k5 hb
    refine ⟨K, q1.fr (fun k hk => xI _ (by omega) (by omega) (by omega) (by omega)) (xR _) (fun k hk => xA _ (by omega)), ?_, q3⟩
    unfold MK at q2 ⊢
    rw [gA 24 (by decide), gA 25 (by decide), gA 26 (by decide), gA 27 (by decide), gA 31 (by decide), gA 29 (by decide), gA 28 (by decide), gA 30 (by decide), mIe 42 (by decide) (by decide) (by decide) (by decide) (by decide) (by decide), mIe 43 (by decide) (by decide) (by decide) (by decide) (by decide) (by decide), mIe 44 (by decide) (by decide) (by decide) (by decide) (by decide) (by decide), mIe 45 (by decide) (by decide) (by decide) (by decide) (by decide) (by decide), mIe 41 (by decide) (by decide) (by decide) (by decide) (by decide) (by decide)]; exact q2
  · exact ⟨hC.1.fr (fun k hk => xA _ (by omega)), by rw [xA 1 (by decide)]; exact hC.2.1, by rw [xA 42 (by decide)]; exact hC.2.2.1, by rw [xA 43 (by decide)]; exact hC.2.2.2.1, by rw [xA 44 (by decide)]; exact hC.2.2.2.2.1, by rw [xA 45 (by decide)]; exact hC.2.2.2.2.2⟩
  · unfold R_scM
    rw [gA 17 (by decide), gA 18 (by decide), gA 19 (by decide), gA 20 (by decide), gA 21 (by decide), gA 22 (by decide), mIe 27 (by decide) (by decide) (by decide) (by decide) (by decide) (by decide)]; exact hC2
  · unfold R_txt
    rw [xA 3 (by decide), gA 8 (by decide)]
    exact ⟨t1, t2, 0, fun _ => 0, Nat.zero_le _, rfl, rfl, fun i hi => absurd hi (Nat.not_lt_zero i)⟩
  · refine ⟨w1, by rw [xI 8 (by decide) (by decide) (by decide) (by decide)]; exact w2, by rw [mIe 10 (by decide) (by decide) (by decide) (by decide) (by decide) (by decide)]; exact w3, fun t ht => ?_, ?_, fun t ht => ?_⟩
    · have hb := twA_b ht
      by_cases e : t = W + 1
      · subst e; exact f5
      · have iA : ∀ k, k < 6 → mA (wI mX 129 0) (twA t + k) = mA mx (twA t + k) := fun k hk => by
          refine f2 _ ?_
          match t, ht, e with
          | 0, _, _ => show ¬ (46 + 6 * W + 1 ≤ 8 + k ∧ 8 + k ≤ 46 + 6 * W + 5); omega
          | s + 1, _, e => show ¬ (46 + 6 * W + 1 ≤ 46 + 6 * s + k ∧ 46 + 6 * s + k ≤ 46 + 6 * W + 5); omega
        have := w4 t ht
        unfold TXh at this ⊢
        rw [iA 1 (by decide), iA 2 (by decide), iA 3 (by decide), iA 4 (by decide), iA 5 (by decide)]
        exact this
    · refine ⟨g5.1, g5.2.1, g5.2.2.1, g5.2.2.2.1, g5.2.2.2.2.1, g5.2.2.2.2.2.1, g5.2.2.2.2.2.2, ?_⟩
      rw [gA 16 (by decide)]; exact w5.2.2.2.2.2.2.2
    · obtain ⟨cs, q1, q2, q3, q4⟩ := w6 t ht
      have iA : ∀ k, k < 6 → mA (wI mX 129 0) (twA t + k) = mA mx (twA t + k) := fun k hk => by
        refine f2 _ ?_
        match t, ht with
        | 0, _ => show ¬ (46 + 6 * W + 1 ≤ 8 + k ∧ 8 + k ≤ 46 + 6 * W + 5); omega
        | s + 1, _ => show ¬ (46 + 6 * W + 1 ≤ 46 + 6 * s + k ∧ 46 + 6 * s + k ≤ 46 + 6 * W + 5); omega
      have hb2 : twA t = 8 ∨ (46 ≤ twA t ∧ twA t + 6 ≤ 46 + 6 * W) := by
        match t, ht with
        | 0, _ => exact Or.inl rfl
        | s + 1, ht => right; show 46 ≤ 46 + 6 * s ∧ 46 + 6 * s + 6 ≤ 46 + 6 * W; omega
      have iI : ∀ k, k < 64 → mI (wI mX 129 0) (64 * twA t + k) = mI mx (64 * twA t + k) := fun k hk => by
        rw [mI_wI, if_neg (by omega)]; exact f1 _ (by omega) (by omega) (by omega)
      refine ⟨cs, q1, ?_, q3, fun hp => ?_⟩
      · unfold TXe at q2 ⊢
        rw [iI 0 (by decide), iI 1 (by decide), iI 2 (by decide), iI 3 (by decide), iA 1 (by decide), iA 2 (by decide), iA 3 (by decide), iA 4 (by decide), iA 5 (by decide)]
        exact q2
      · obtain ⟨s, rfl⟩ : ∃ s, t = s + 1 := ⟨t - 1, by omega⟩
        obtain ⟨r1, r2, r3⟩ := q4 hp
        have es : s + 1 - 1 = s := rfl
        rw [es] at r1 r3 ⊢
        refine ⟨(g6 s (by omega)).trans r1, r2, fun c hc => ?_⟩
        obtain ⟨s1, s2, s3⟩ := r3 c hc
        refine ⟨(g7 10 _ (by decide) (by decide) (by omega)).trans s1, (g7 11 _ (by decide) (by decide) (by omega)).trans s2, fun e => ?_⟩
        obtain ⟨o, o1, o2, o3, o4⟩ := s3 e
        exact ⟨o, o1, (g7 12 _ (by decide) (by decide) (by omega)).trans o2, (g7 13 _ (by decide) (by decide) (by omega)).trans o3, fun i hi => (g8 _ (by omega)).trans (o4 i hi)⟩
  · unfold R_act
    rw [xA 6 (by decide), gA 32 (by decide), xI 321 (by decide) (by decide) (by decide) (by decide), mIe 54 (by decide) (by decide) (by decide) (by decide) (by decide) (by decide)]; exact ⟨c1, c2, c3⟩
  · exact hP.fr (fun k hk => xI _ (by omega) (by omega) (by omega) (by omega)) (fun c hc => f3 c) ⟨gA 33 (by decide), gA 34 (by decide)⟩ ⟨g3 35, g3 36⟩
theorem SOK.up {W : Nat} {S : SS} (h : SOK W S) : SOK (W + 1) S := ⟨h.1, h.2.1, h.2.2.1, h.2.2.2.1, Nat.le_succ_of_le h.2.2.2.2.1, h.2.2.2.2.2⟩
/-- the newest town holds -/
theorem RRs.newest {W : Nat} {S : SS} {cs : List CL} (h : RRs W S mx mm) (hW : W < 6) (q1 : ∀ c ∈ cs, clOk c) (q2 : TXe mx (twA (W + 1)) (twOf cs)) (q3 : TMe mm W cs) : RRs (W + 1) (S.1, S.2.1, S.2.2.1, S.2.2.2.1, S.2.2.2.2.1, S.2.2.2.2.2.1, W + 1) (wI (wR mx 900 (twA (W + 1))) 8 (nI (W + 1))) (wI (wI mm 11 (nI W)) 10 (nI (W + 1))) := by
  obtain ⟨⟨hX, hS, hM, hQ⟩, hO, ⟨k1, k2, b, k3, k4, k5⟩, hC, hC2, hT, ⟨w1, w2, w3, w4, w5, w6⟩, hA, hP⟩ := h
  have yI : ∀ k, k ≠ 8 → mI (wI (wR mx 900 (twA (W + 1))) 8 (nI (W + 1))) k = mI mx k := fun k hk => by rw [mI_wI, if_neg hk]; rfl
  refine ⟨⟨hX, ⟨⟨hS.1.1, hS.1.2.1, hS.1.2.2.1, hS.1.2.2.2.1, ?_⟩, hS.2⟩, hM, ⟨⟨hQ.1.1, hQ.1.2.1, hQ.1.2.2.1, hQ.1.2.2.2.1, ?_⟩, hQ.2⟩⟩, ⟨hO.1, hO.2.1, hO.2.2.1, hO.2.2.2.1, Nat.le_refl _, hO.2.2.2.2.2⟩, ⟨k1, k2, b, k3, k4, fun hb => ?_⟩, hC, hC2, hT, ⟨by omega, rfl, rfl, w4, w5, fun t ht => ?_⟩, hA, ?_⟩
  · show mR (wR mx 900 (twA (W + 1))) 900 = twA (W + 1)
    rw [mR_wR, if_pos rfl]
  · show mI (wI (wI mm 11 (nI W)) 10 (nI (W + 1))) 11 = nI (W + 1) - 1
    rw [mI_wI, if_neg (by decide), mI_wI, if_pos rfl, nI_pred]
  · obtain ⟨K, a1, a2, a3⟩ := k5 hb
    exact ⟨K, a1, a2, a3.up⟩
  · have iI : ∀ k, mI (wI (wR mx 900 (twA (W + 1))) 8 (nI (W + 1))) (64 * twA t + k) = mI mx (64 * twA t + k) := fun k => yI _ (by
      have := twA_b (t := t) (by omega)
      omega)
    by_cases e : t = W + 1
    · subst e
      refine ⟨cs, q1, ?_, fun z => absurd z (Nat.succ_ne_zero W), fun _ => q3⟩
      unfold TXe at q2 ⊢
      rw [iI 0, iI 1, iI 2, iI 3]; exact q2
    · obtain ⟨cs', r1, r2, r3, r4⟩ := w6 t (by omega)
      refine ⟨cs', r1, ?_, r3, r4⟩
      unfold TXe at r2 ⊢
      rw [iI 0, iI 1, iI 2, iI 3]; exact r2
  · exact hP.fr (fun k hk => yI k (by omega)) (fun _ _ => rfl) ⟨rfl, rfl⟩ ⟨rfl, rfl⟩
theorem op_town (h : RR mx mm) : OPe (f_X6_town mx) (f_X7_town mm) := by
  obtain ⟨W, S, hr⟩ := id h
  have hr : RRs W S mx mm := hr
  obtain ⟨hN, hO, hK, hC, hC2, ⟨t1, t2, L, ch, hL, t3, t4, t5⟩, ⟨w1, w2, w3, w4, w5, w6⟩, hA, hP⟩ := id hr
  unfold f_X6_town f_X7_town
  rw [w2, w3]
  by_cases hW : W < 6
  · have hg : gT [46, 52, 58, 64, 70, 76] (nI W) = some (twA (W + 1)) := by
      match W, hW with
      | 0, _ => rfl
      | 1, _ => rfl
      | 2, _ => rfl
      | 3, _ => rfl
      | 4, _ => rfl
      | 5, _ => rfl
    have hT : TXT mx mm L ch := ⟨hL, t1, t2, t3, t4, t5⟩
    have h16 : mA mm 16 = W16 := w5.2.2.2.2.2.2.2
    have ha : 46 ≤ twA (W + 1) := by show 46 ≤ 46 + 6 * W; omega
    rw [if_pos (show nI W < (6 : Int32) from (nI_lt hW (by decide) : nI W < nI 6)), if_neg (show ¬ nI W = (6 : Int32) from fun z => by have := (nI_eq (by omega) (by decide)).mp (show nI W = nI 6 from z); omega), hg, Option.bind_some, chR_t (twA_ok (by omega))]
    unfold f_X4_parse f_X5_clear f_X7_goesText
    rw [nmM_eq, nmM_eq, nmM_eq, nmM_eq, nmM_eq, bnd_some, nmM_eq, nmM_eq, nmM_eq, nmM_eq]
    have hX0 : KX mx (wI (wI (wI (wI (wI (wI (wI mx (64 * twA (W + 1) + 0) 10) (64 * twA (W + 1) + 1) 1) (64 * twA (W + 1) + 2) 99) (64 * twA (W + 1) + 3) 0) (64 * twA (W + 1) + 4) 0) 130 0) 131 1) (twA (W + 1)) L 0 [] := by
      have hF : FPX mx mx (twA (W + 1)) := ⟨ha, fun _ _ _ _ => rfl, fun _ _ => rfl, fun _ => rfl, fun _ => rfl, w4 _ (by omega)⟩
      refine ⟨[], ⟨rfl, fun i hi => absurd hi (Nat.not_lt_zero i)⟩, ⟨?_, ?_, ?_, Nat.zero_le _, hL, ⟨?_, ?_, ?_⟩, ⟨?_, by decide, fun i hi => absurd hi (Nat.not_lt_zero i)⟩, ⟨?_, Nat.le_refl _, fun i hi => absurd hi (Nat.not_lt_zero i)⟩⟩, fun c hc => absurd hc (List.not_mem_nil), by decide⟩
      · exact ((((((hF.I (Or.inr (Or.inr (by omega)))).I (Or.inr (Or.inr (by omega)))).I (Or.inr (Or.inr (by omega)))).I (Or.inr (Or.inr (by omega)))).I (Or.inr (Or.inr (by omega)))).I (Or.inl rfl)).I (Or.inr (Or.inl rfl))
      · rw [mI_wI, if_neg (by decide), mI_wI, if_pos rfl]; rfl
      · rw [mI_wI, if_pos rfl]
      · simp only [mI_wI]
        rw [if_neg (by omega), if_neg (by omega), if_neg (by omega), if_neg (by omega), if_neg (by omega), if_neg (by omega), if_pos trivial]; rfl
      · simp only [mI_wI]
        rw [if_neg (by omega), if_neg (by omega), if_neg (by omega), if_neg (by omega), if_neg (by omega), if_pos trivial]; rfl
      · simp only [mI_wI]
        rw [if_neg (by omega), if_neg (by omega), if_neg (by omega), if_neg (by omega), if_pos trivial]; rfl
      · simp only [mI_wI]
        rw [if_neg (by omega), if_neg (by omega), if_neg (by omega), if_pos trivial]; rfl
      · simp only [mI_wI]
        rw [if_neg (by omega), if_neg (by omega), if_pos trivial]; rfl
    have e100 : (100 : Int32) * nI W = nI (100 * W) := (Int32.ofNat_mul 100 W).symm
    have hM0 : KM mm (wI (wI mm 13 0) 23 (100 * nI W)) W L 0 ch [] := by
      have hF : FPM mm mm W := ⟨fun _ _ _ _ _ _ => rfl, fun _ _ => rfl, fun _ => rfl, fun _ => rfl, ⟨w5.1, w5.2.1, w5.2.2.1, w5.2.2.2.1, w5.2.2.2.2.1, w5.2.2.2.2.2.1, w5.2.2.2.2.2.2.1⟩, fun _ _ => rfl, fun _ _ _ _ _ => rfl, fun _ _ => rfl⟩
      refine ⟨(hF.I (by decide)).I (by decide), ⟨t4, rfl, Nat.zero_le _, hL, t2, fun i hi => (t5 i hi).2⟩, hW, by decide, ?_, Nat.le_refl _, fun i hi => absurd hi (Nat.not_lt_zero i), fun c hc => absurd hc (Nat.not_lt_zero c)⟩
      rw [mI_wI, if_pos rfl, e100]; rfl
    obtain ⟨r, mX', nM', pos', g1, g2, g3, g4, g5, g6, g7⟩ := sim_goes hT h16 10 [] _ _ 0 1000 1000 rfl (by decide) (by decide) (by decide) hX0 hM0
    rw [show (bnd (f_X4_clause (wI (wI (wI (wI (wI (wI (wI mx (64 * twA (W + 1) + 0) 10) (64 * twA (W + 1) + 1) 1) (64 * twA (W + 1) + 2) 99) (64 * twA (W + 1) + 3) 0) (64 * twA (W + 1) + 4) 0) 130 0) 131 1) (twA (W + 1))) fun (x6 : Unit) (m7 : mM) => (f_X4_parse_21 1000 m7 (twA (W + 1)) 1)) = some (r, mX') from g1, bnd_some, show f_X7_goesText_15 1000 (wI (wI mm 13 0) 23 (100 * nI W)) (nI W) 0 = some (r, nM') from g2, bnd_some, nmM_eq, nmM_eq]
    have hk := RRs.read hr hW g3 g4
    have x130 : mI (wI mX' 129 0) 130 = nI pos' := by rw [mI_wI, if_neg (by decide)]; exact g5
    have x13 : mI (wI nM' 12 0) 13 = nI pos' := by rw [mI_wI, if_neg (by decide)]; exact g6
    rcases g7 with rfl | ⟨rfl, cs, u1, u2, u3⟩
    · rw [if_pos rfl, nmM_eq, if_pos rfl, x130, x13]
      exact ⟨_, _, _, rfl, rfl, W, S, hk⟩
    · have y8 : mI (wI mX' 129 0) 8 = nI W := hk.2.2.2.2.2.2.1.2.1
      have y10 : mI (wI nM' 12 0) 10 = nI W := hk.2.2.2.2.2.2.1.2.2.1
      rw [if_neg i0, nmM_eq, nmM_eq, nmM_eq, if_neg i0, nmM_eq]
      rw [show mI (wR (wI mX' 129 0) 900 (twA (W + 1))) 8 = nI W from y8, y10, show mI (wI (wI nM' 12 0) 11 (nI W)) 10 = nI W from y10, nI_1]
      refine ⟨nI W, wI (wR (wI mX' 129 0) 900 (twA (W + 1))) 8 (nI (W + 1)), wI (wI (wI nM' 12 0) 11 (nI W)) 10 (nI (W + 1)), ?_, rfl, W + 1, _, RRs.newest (cs := cs) hk hW ?_ ?_ ?_⟩
      · rw [mI_wI, if_pos rfl, nI_pred]
      · obtain ⟨tk, v1, v2, v3, v4⟩ := u1
        exact v3
      · obtain ⟨tk, ⟨v1, v1'⟩, v2, v3, v4⟩ := u1
        obtain ⟨a1, a2, a3, a4, a5, ⟨a6, a7, a8⟩, ⟨a9, a10, a11⟩, ⟨a12, a13, a14⟩⟩ := v2
        have ne : ∀ k, k < 64 → mI (wI mX' 129 0) (64 * twA (W + 1) + k) = mI mX' (64 * twA (W + 1) + k) := fun k hk => by rw [mI_wI, if_neg (by omega)]
        unfold TXe
        rw [ne 0 (by decide), ne 1 (by decide), ne 2 (by decide), ne 3 (by decide)]
        refine ⟨⟨a6, a7, a8, by rw [a9, v1]; rfl⟩, fun i hi => ?_, ?_, fun i hi k hk => ?_⟩
        · have hi : i < (clTk cs).length := hi
          obtain ⟨b1, b2⟩ := a11 i (by omega)
          obtain ⟨b3, b4⟩ := v1' i (by omega)
          refine ⟨?_, ?_⟩
          · show (mA mX' (twA (W + 1) + 4)).getD i 0 = _
            rw [b1, b3]; rfl
          · show (mA mX' (twA (W + 1) + 5)).getD i 0 = _
            rw [b2, b4]; rfl
        · show tkE (clTk cs) (clTk cs).length ≤ 100
          rw [tkE_full]; omega
        · obtain ⟨c1, c2⟩ := fl_get (t := clTk cs) hi hk
          obtain ⟨d1, d2⟩ := a14 _ c1
          exact ⟨d1.trans c2, d2⟩
      · obtain ⟨v1, v2, v3, v4, v5, v6, v7, v8⟩ := u2
        have hp := v2.2.2.1
        refine ⟨u3, v4, fun c hc => ?_⟩
        obtain ⟨b1, b2, b3⟩ := v8 c hc
        refine ⟨b1, b2, fun e => ?_⟩
        obtain ⟨o, o1, o2, o3, o4⟩ := b3 e
        exact ⟨100 * W + o, by omega, o2, o3, fun i hi => by
          show (mA nM' 14).getD (100 * W + o + i) 0 = _
          rw [Nat.add_assoc, v7 (o + i) (by omega)]; exact o4 i hi⟩
  · rw [if_neg (show ¬ nI W < (6 : Int32) from (nI_nlt (by omega) (by omega) : ¬ nI W < nI 6)), if_pos (show nI W = (6 : Int32) from (congrArg nI (show W = 6 by omega) : nI W = nI 6))]
    exact ⟨_, mx, mm, rfl, rfl, h⟩
end TOWNOP
