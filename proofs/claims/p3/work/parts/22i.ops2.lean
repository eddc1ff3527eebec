/-! OPERATIONS: the image, back, a new one, a sign -/
section OPS2
variable {mx mm : mM}
theorem twA_ok {t : Nat} (ht : t ≤ 6) : isC true 5 (twA t) = true := by
  match t, ht with
  | 0, _ => rfl
  | 1, _ => rfl
  | 2, _ => rfl
  | 3, _ => rfl
  | 4, _ => rfl
  | 5, _ => rfl
  | 6, _ => rfl
set_option maxRecDepth 4000 in
theorem op_image (h : RR mx mm) : OPe (f_X6_image mx) (f_X7_image mm) := by
  obtain ⟨W, S, ⟨hX, hS, hM, hQ⟩, hO, hK, hC, hC2, hT, hW, hA, hP⟩ := id h
  obtain ⟨m', q1, q2, q3, q4, c1, c2, c3, c4, c5, c7, c6, c8⟩ := img_eq hM hK.2.1
  have ht : isC true 5 (mR mx (64 * 14 + 4)) = true := by rw [hS.1.2.2.2.2]; exact twA_ok (by have := hO.2.2.2.2.1; have := hW.1; omega)
  have e : f_X6_image mx = some (mI mx 896, wI (cpM mx 23 14) 3 1) := by
    unfold f_X6_image
    rw [copy_eq (by omega) hK.1 hX ht, bnd_some, nmM_eq]; rfl
  have iI : ∀ k, mI m' k = mI (imgI mm) k := fun k => congrFun q2 k
  have iL : ∀ c, mL m' c = mL mm c := fun c => congrFun (congrArg Prod.fst q3) c
  have iA : ∀ c, c ∉ [24, 25, 26, 27, 28, 31, 29, 30] → mA m' c = mA mm c := q4
  refine ⟨_, _, _, e, by rw [q1, show mI mm 0 = mI mx 896 from hQ.1.1.trans hS.1.1.symm], W, S, ⟨?_, ?_, ?_, ?_⟩, hO, ⟨?_, ?_, true, rfl, ?_, fun _ => ⟨S, ?_, ?_, hO⟩⟩, ?_, ?_, ?_, ?_, ?_, ?_⟩
  · exact hX
  · exact hS
  · unfold MSh; rw [iA 1 (by decide), iA 2 (by decide), iA 3 (by decide), iA 4 (by decide), iA 7 (by decide), iA 6 (by decide), iA 5 (by decide), iA 23 (by decide)]; exact hM
  · unfold MS; rw [iA 1 (by decide), iA 2 (by decide), iA 3 (by decide), iA 4 (by decide), iA 7 (by decide), iA 6 (by decide), iA 5 (by decide), iA 23 (by decide), iI 0, iI 1, iI 2, iI 38, iI 11]; exact hQ
  · exact hX
  · unfold MKh; rw [c1, c2, c3, c4, c5, c7, c6, c8]; exact hM
  · rw [iI 40]; rfl
  · exact hS
  · unfold MK; rw [c1, c2, c3, c4, c5, c7, c6, c8, iI 42, iI 43, iI 44, iI 45, iI 41]; exact ⟨⟨hQ.1.1, hQ.1.2.1, hQ.1.2.2.1, hQ.1.2.2.2.1, hQ.1.2.2.2.2⟩, hQ.2⟩
  · exact hC
  · unfold R_scM; rw [iA 17 (by decide), iA 18 (by decide), iA 19 (by decide), iA 20 (by decide), iA 21 (by decide), iA 22 (by decide), iI 27]; exact hC2
  · unfold R_txt; rw [iA 8 (by decide), iI 12]; exact hT
  · exact hW.fr (fun k hk => by
      show mI (wI (cpM mx 23 14) 3 1) k = _
      unfold cpM
      simp only [mI_wI, mI_wA, mI_wR]
      rw [if_neg (by omega), if_neg (by omega), if_neg (by omega), if_neg (by omega), if_neg (by omega)]) (fun c hc => by
      show mA (wI (cpM mx 23 14) 3 1) c = _
      unfold cpM
      rw [mA_wI, mA_ne (by omega), mA_ne (by omega), mA_ne (by omega), mA_ne (by omega), mA_ne (by omega), mA_ne (by omega), mA_ne (by omega), mA_ne (by omega)]; rfl) (by rw [iI 10]; rfl) (fun c hc => iA c (by simp; omega))
  · unfold R_act; rw [iA 32 (by decide), iI 54]; exact hA
  · exact hP.fr (fun k hk => by
      show mI (wI (cpM mx 23 14) 3 1) k = _
      unfold cpM
      simp only [mI_wI, mI_wA, mI_wR]
      rw [if_neg (by omega), if_neg (by omega), if_neg (by omega), if_neg (by omega), if_neg (by omega)]) (fun _ _ => rfl) ⟨iA 33 (by decide), iA 34 (by decide)⟩ ⟨iL 35, iL 36⟩
set_option maxRecDepth 4000 in
theorem op_undo (h : RR mx mm) : OPe (f_X6_undo mx) (f_X7_undo mm) := by
  obtain ⟨W, S, ⟨hX, hS, hM, hQ⟩, hO, hK, hC, hC2, hT, hW, hA, hP⟩ := id h
  obtain ⟨hkX, hkM, b, b1, b2, b3⟩ := id hK
  cases b with
  | false =>
    refine ⟨-3, mx, mm, ?_, ?_, h⟩
    · unfold f_X6_undo; rw [b1]; rfl
    · unfold f_X7_undo; rw [b2]; rfl
  | true =>
    obtain ⟨K, k1, k2, k3⟩ := b3 rfl
    have hz : ¬ mI mm 40 = 0 := by rw [b2]; decide
    obtain ⟨m', q1, q2, q3, q4, c1, c2, c3, c4, c5, c7, c6, c8⟩ := und_eq hM hkM hz
    have ht : isC true 5 (mR mx (64 * 23 + 4)) = true := by rw [k1.1.2.2.2.2]; exact twA_ok (by have := k3.2.2.2.2.1; have := hW.1; omega)
    have e : f_X6_undo mx = some (mI mx 1472, cpM mx 14 23) := by
      unfold f_X6_undo
      rw [if_neg (by rw [b1]; decide), copy_eq (by omega) hX hkX ht, bnd_some]; rfl
    have iI : ∀ k, mI m' k = mI (undI mm) k := fun k => congrFun q2 k
    have iL : ∀ c, mL m' c = mL mm c := fun c => congrFun (congrArg Prod.fst q3) c
    have iA : ∀ c, c ∉ [1, 2, 3, 4, 5, 7, 6, 23] → mA m' c = mA mm c := q4
    refine ⟨_, _, _, e, by rw [q1, show mI mm 42 = mI mx 1472 from k2.1.1.trans k1.1.1.symm], W, K, ⟨?_, ?_, ?_, ?_⟩, k3, ⟨?_, ?_, true, b1, ?_, fun _ => ⟨K, ?_, ?_, k3⟩⟩, ?_, ?_, ?_, ?_, ?_, ?_⟩
    · exact hkX
    · exact k1
    · unfold MSh; rw [c1, c2, c3, c4, c5, c7, c6, c8]; exact hkM
    · unfold MS; rw [c1, c2, c3, c4, c5, c7, c6, c8, iI 0, iI 1, iI 2, iI 38, iI 11]; exact ⟨⟨k2.1.1, k2.1.2.1, k2.1.2.2.1, k2.1.2.2.2.1, k2.1.2.2.2.2⟩, k2.2⟩
    · exact hkX
    · unfold MKh; rw [iA 24 (by decide), iA 25 (by decide), iA 26 (by decide), iA 27 (by decide), iA 31 (by decide), iA 29 (by decide), iA 28 (by decide), iA 30 (by decide)]; exact hkM
    · rw [iI 40]; exact b2
    · exact k1
    · unfold MK; rw [iA 24 (by decide), iA 25 (by decide), iA 26 (by decide), iA 27 (by decide), iA 31 (by decide), iA 29 (by decide), iA 28 (by decide), iA 30 (by decide), iI 42, iI 43, iI 44, iI 45, iI 41]; exact k2
    · exact hC
    · unfold R_scM; rw [iA 17 (by decide), iA 18 (by decide), iA 19 (by decide), iA 20 (by decide), iA 21 (by decide), iA 22 (by decide), iI 27]; exact hC2
    · unfold R_txt; rw [iA 8 (by decide), iI 12]; exact hT
    · exact hW.fr (fun k hk => by
        show mI (cpM mx 14 23) k = _
        unfold cpM
        simp only [mI_wI, mI_wA, mI_wR]
        rw [if_neg (by omega), if_neg (by omega), if_neg (by omega), if_neg (by omega)]) (fun c hc => by
        show mA (cpM mx 14 23) c = _
        unfold cpM
        rw [mA_ne (by omega), mA_ne (by omega), mA_ne (by omega), mA_ne (by omega), mA_ne (by omega), mA_ne (by omega), mA_ne (by omega), mA_ne (by omega)]; rfl) (by rw [iI 10]; rfl) (fun c hc => iA c (by simp; omega))
    · unfold R_act; rw [iA 32 (by decide), iI 54]; exact hA
    · exact hP.fr (fun k hk => by
        show mI (cpM mx 14 23) k = _
        unfold cpM
        simp only [mI_wI, mI_wA, mI_wR]
        rw [if_neg (by omega), if_neg (by omega), if_neg (by omega), if_neg (by omega)]) (fun _ _ => rfl) ⟨iA 33 (by decide), iA 34 (by decide)⟩ ⟨iL 35, iL 36⟩
theorem op_feed (h : RR mx mm) (q : Int32) : OPe (f_X6_feed mx q) (f_X7_feed mm q) := by
  obtain ⟨W, S, hN, hO, hK, hC, hC2, ⟨t1, t2, L, ch, hL, t3, t4, t5⟩, hW, hA, hP⟩ := id h
  unfold f_X6_feed f_X7_feed
  rw [op_in (n := 128) (in_lit (by decide) (by decide)), bnd_some, t3, t4]
  by_cases q0 : q < 0
  · rw [if_pos q0, inR_low q0]; exact ⟨_, mx, mm, rfl, rfl, h⟩
  · rw [if_neg q0]
    have hlt := lt_inR (n := 128) (k := 128) rfl (by decide) q0
    cases hq : inR 128 q with
    | false => rw [if_neg (fun z => by rw [hlt.mp z] at hq; cases hq)]; exact ⟨_, mx, mm, rfl, rfl, h⟩
    | true =>
      rw [if_pos (hlt.mpr hq), zB_t, if_neg i0]
      obtain ⟨c, hc, rfl⟩ := inR_t (by decide) hq
      by_cases hf : L < 100
      · have e8 : (nI c).toInt8.toInt32 = nI c := by
          apply Int32.toInt_inj.mp
          rw [Int8.toInt_toInt32, Int32.toInt_toInt8, nI_toInt (by omega)]
          exact Int.bmod_eq_of_le (by omega) (by omega)
        have e9 : nrw 2 (nI c) = nI c := e8
        rw [if_pos (show nI L < (100 : Int32) from (nI_lt hf (by decide) : nI L < nI 100)), if_neg (show ¬ nI L = (100 : Int32) from fun z => by have := (nI_eq (by omega) (by decide)).mp (show nI L = nI 100 from z); omega), e8, sA_at (by rw [t1]; exact hf) (by omega), e9, sA_at0 (by rw [t2]; exact hf) (by omega), Option.bind_some, Option.bind_some, nmM_eq, nmM_eq]
        have v1 : mI (wA mx 3 ((mA mx 3).set L (nI c))) 129 + 1 = nI (L + 1) := by rw [mI_wA, t3, nI_1]
        have v2 : mI (wA mm 8 ((mA mm 8).set L (nI c))) 12 + 1 = nI (L + 1) := by rw [mI_wA, t4, nI_1]
        rw [v1, v2]
        refine ⟨nI (L + 1), wI (wA mx 3 ((mA mx 3).set L (nI c))) 129 (nI (L + 1)), wI (wA mm 8 ((mA mm 8).set L (nI c))) 12 (nI (L + 1)), rfl, rfl, W, S, hN, hO, hK, hC, hC2, ⟨(List.length_set ..).trans t1, (List.length_set ..).trans t2, L + 1, fun i => if i = L then c else ch i, hf, rfl, rfl, fun i hi => ?_⟩, hW.fr (fun k hk => if_neg (by omega)) (fun c hc => if_neg (by omega)) rfl (fun c hc => if_neg (by omega)), hA, hP.fr (fun k hk => if_neg (by omega)) (fun _ _ => rfl) ⟨rfl, rfl⟩ ⟨rfl, rfl⟩⟩
        show ((mA mx 3).set L (nI c)).getD i 0 = nI (if i = L then c else ch i) ∧ ((mA mm 8).set L (nI c)).getD i 0 = nI (if i = L then c else ch i) ∧ (if i = L then c else ch i) < 128
        rw [gd_set, gd_set, t1, t2]
        by_cases e : L = i
        · refine ⟨?_, ?_, ?_⟩
          · rw [if_pos (show L = i ∧ L < 100 from ⟨e, hf⟩), if_pos (show i = L from e.symm)]
          · rw [if_pos (show L = i ∧ L < 100 from ⟨e, hf⟩), if_pos (show i = L from e.symm)]
          · rw [if_pos (show i = L from e.symm)]; exact hc
        · have q := t5 i (by omega)
          refine ⟨?_, ?_, ?_⟩
          · rw [if_neg (show ¬ (L = i ∧ L < 100) from fun z => e z.1), if_neg (show ¬ i = L from fun z => e z.symm)]; exact q.1
          · rw [if_neg (show ¬ (L = i ∧ L < 100) from fun z => e z.1), if_neg (show ¬ i = L from fun z => e z.symm)]; exact q.2.1
          · rw [if_neg (show ¬ i = L from fun z => e z.symm)]; exact q.2.2
      · rw [if_neg (show ¬ nI L < (100 : Int32) from (nI_nlt (by omega) (by omega) : ¬ nI L < nI 100)), if_pos (show nI L = (100 : Int32) from (congrArg nI (show L = 100 by omega) : nI L = nI 100))]
        exact ⟨_, mx, mm, rfl, rfl, h⟩
end OPS2
