/-! OPERATIONS: people one by one, the book, the trace, kinds, counts -/
section OPS1
variable {mx mm : mM}
theorem i0 : ¬ ((1 : Int32) = 0) := by decide
theorem op_there (h : RR mx mm) (p x : Int32) (hx : x = 0 ∨ x = 1) : OPe (f_X6_there mx p x) (f_X7_there mm p x) := by
  obtain ⟨W, S, ⟨hX, hS, hM, hQ⟩, hO, hK, hC, hC2, hT, hW, hA, hP⟩ := id h
  unfold f_X6_there f_X7_there
  rw [op_isPerson hS.1.1, op7_isPerson hQ.1.1 (by have := hO.1.1; omega), bnd_some, bnd_some]
  cases hb : inR S.1 p with
  | false => exact ⟨_, mx, mm, rfl, rfl, h⟩
  | true =>
    obtain ⟨j, hj, rfl⟩ := inR_t (by have := hO.1.1; omega) hb
    have hn := hO.1.1
    have l1 := hX.1.2.2.2.2.1
    have l2 := hM.1.2.2.2.2.1
    have e1 := (hS.2.1 j hj).2.2.2.2.1
    have e2 := (hQ.2.1 j hj).2.2.2.2.1
    have r1 := (hO.1.2 j hj).2.2.2.2.1
    rw [zB_t, if_neg i0, if_neg i0, gA_at (by rw [l1]; omega) (by omega), gA_at (by rw [l2]; omega) (by omega), Option.bind_some, Option.bind_some, e1, e2]
    unfold f_X7_there_24
    rw [sA_at3 (by rw [l1]; omega) (by omega) hx, sA_at3 (by rw [l2]; omega) (by omega) hx, Option.bind_some, Option.bind_some, Option.bind_some]
    obtain ⟨d, hd, rfl⟩ : ∃ d, d < 2 ∧ x = nI d := by
      rcases hx with rfl | rfl
      · exact ⟨0, by decide, rfl⟩
      · exact ⟨1, by decide, rfl⟩
    have hR : RR (wA mx 20 ((mA mx 20).set j (nI d))) (wA mm 7 ((mA mm 7).set j (nI d))) :=
      ⟨W, (S.1, pdu S.2.1 4 j d, S.2.2), ⟨⟨hX.1.there hx, hX.2⟩, ⟨hS.1, hS.2.1.there hX.1 hn hj, hS.2.2⟩, ⟨hM.1.there hx, hM.2⟩, ⟨hQ.1, hQ.2.1.there hM.1 hn hj, hQ.2.2⟩⟩, ⟨hO.1.upd hd, hO.2⟩, hK, hC, hC2, hT, hW.fr (fun _ _ => rfl) (fun c hc => if_neg (by omega)) rfl (fun c hc => if_neg (by omega)), hA, hP.fr (fun _ _ => rfl) (fun _ _ => rfl) ⟨rfl, rfl⟩ ⟨rfl, rfl⟩⟩
    rcases (show S.2.1 4 j = 0 ∨ S.2.1 4 j = 1 by omega) with e | e
    · rw [e]; exact ⟨_, _, _, rfl, rfl, hR⟩
    · rw [e]; exact ⟨_, _, _, rfl, rfl, hR⟩
theorem op_set (h : RR mx mm) (p q x : Int32) : OPe (f_X6_set mx p q x) (f_X7_set mm p q x) := by
  obtain ⟨W, S, ⟨hX, hS, hM, hQ⟩, hO, hK, hC, hC2, hT, hW, hA, hP⟩ := id h
  unfold f_X6_set f_X7_set
  rw [op_isPerson hS.1.1, op7_isPerson hQ.1.1 (by have := hO.1.1; omega), bnd_some, bnd_some]
  cases hb : inR S.1 p with
  | false => exact ⟨_, mx, mm, rfl, rfl, h⟩
  | true =>
    obtain ⟨j, hj, rfl⟩ := inR_t (by have := hO.1.1; omega) hb
    have hn := hO.1.1
    rw [zB_t, if_neg i0, if_neg i0, op_in (n := 2) (in_lit (by decide) (by decide)), bnd_some, op_isDay, op7_isDay, bnd_some, bnd_some]
    by_cases q0 : q < 0
    · rw [if_pos q0, inR_low q0]; exact ⟨_, mx, mm, rfl, rfl, h⟩
    · rw [if_neg q0]
      by_cases q1 : q ≤ 1
      · have hq : inR 2 q = true := inR_mid q0 (fun z => by rw [Int32.le_iff_toInt_le] at q1 z; rw [nI_toInt (by decide)] at z; have : (1 : Int32).toInt = 1 := rfl; omega)
        rw [if_pos q1, hq, zB_t, if_neg i0]
        cases hd : inR 12 x with
        | false => exact ⟨_, mx, mm, rfl, rfl, h⟩
        | true =>
          obtain ⟨d, hdd, rfl⟩ := inR_t (by decide) hd
          rw [zB_t, if_neg i0, if_neg i0]
          unfold f_X6_set_50 f_X7_set_50
          have l1 := hX.1.2.2.1
          have l2 := hM.1.2.2.1
          have l3 := hX.1.2.2.2.1
          have l4 := hM.1.2.2.2.1
          have e1 := (hS.2.1 j hj).2.2.1
          have e2 := (hQ.2.1 j hj).2.2.1
          have e3 := (hS.2.1 j hj).2.2.2.1
          have e4 := (hQ.2.1 j hj).2.2.2.1
          by_cases qz : q = 0
          · rw [if_pos qz, if_pos qz, gA_at (by rw [l1]; omega) (by omega), gA_at (by rw [l2]; omega) (by omega), Option.bind_some, Option.bind_some, if_pos qz, e1, e2, sA_at0 (by rw [l1]; omega) (by omega), sA_at0 (by rw [l2]; omega) (by omega)]
            exact ⟨_, _, _, rfl, rfl, W, (S.1, pdu S.2.1 2 j d, S.2.2), ⟨⟨hX.1.born, hX.2⟩, ⟨hS.1, hS.2.1.born hX.1 hn hj, hS.2.2⟩, ⟨hM.1.born, hM.2⟩, ⟨hQ.1, hQ.2.1.born hM.1 hn hj, hQ.2.2⟩⟩, ⟨hO.1.upd hdd, hO.2⟩, hK, hC, hC2, hT, hW.fr (fun _ _ => rfl) (fun c hc => if_neg (by omega)) rfl (fun c hc => if_neg (by omega)), hA, hP.fr (fun _ _ => rfl) (fun _ _ => rfl) ⟨rfl, rfl⟩ ⟨rfl, rfl⟩⟩
          · rw [if_neg qz, if_neg qz, gA_at (by rw [l3]; omega) (by omega), gA_at (by rw [l4]; omega) (by omega), Option.bind_some, Option.bind_some, if_neg qz, e3, e4, sA_at0 (by rw [l3]; omega) (by omega), sA_at0 (by rw [l4]; omega) (by omega)]
            exact ⟨_, _, _, rfl, rfl, W, (S.1, pdu S.2.1 3 j d, S.2.2), ⟨⟨hX.1.plan, hX.2⟩, ⟨hS.1, hS.2.1.plan hX.1 hn hj, hS.2.2⟩, ⟨hM.1.plan, hM.2⟩, ⟨hQ.1, hQ.2.1.plan hM.1 hn hj, hQ.2.2⟩⟩, ⟨hO.1.upd hdd, hO.2⟩, hK, hC, hC2, hT, hW.fr (fun _ _ => rfl) (fun c hc => if_neg (by omega)) rfl (fun c hc => if_neg (by omega)), hA, hP.fr (fun _ _ => rfl) (fun _ _ => rfl) ⟨rfl, rfl⟩ ⟨rfl, rfl⟩⟩
      · have hq : inR 2 q = false := inR_high (by rw [Int32.le_iff_toInt_le] at q1; rw [Int32.le_iff_toInt_le, nI_toInt (by decide)]; have : (1 : Int32).toInt = 1 := rfl; omega)
        rw [if_neg q1, hq]; exact ⟨_, mx, mm, rfl, rfl, h⟩
theorem lt_inR {n : Nat} {q k : Int32} (hk : k = nI n) (hn : n < 2 ^ 31) (q0 : ¬ q < 0) : (q < k ↔ inR n q = true) := by
  subst hk
  constructor
  · intro z; exact inR_mid q0 (fun z2 => by rw [Int32.lt_iff_toInt_lt] at z; rw [Int32.le_iff_toInt_le] at z2; omega)
  · intro z
    obtain ⟨j, hj, rfl⟩ := inR_t hn z
    exact nI_lt hj hn
theorem op_row (h : RR mx mm) (p q x : Int32) : OPe (f_X6_row mx p q x) (f_X7_row mm p q x) := by
  obtain ⟨W, S, ⟨hX, hS, hM, hQ⟩, hO, hK, hC, hC2, hT, hW, hA, hP⟩ := id h
  unfold f_X6_row f_X7_row
  rw [op_isPerson hS.1.1, op7_isPerson hQ.1.1 (by have := hO.1.1; omega), bnd_some, bnd_some]
  cases hb : inR S.1 p with
  | false => exact ⟨_, mx, mm, rfl, rfl, h⟩
  | true =>
    obtain ⟨j, hj, rfl⟩ := inR_t (by have := hO.1.1; omega) hb
    have hn := hO.1.1
    rw [zB_t, if_neg i0, if_neg i0, op_in (n := 4) (in_lit (by decide) (by decide)), bnd_some, op_isDay, op7_isDay, bnd_some, bnd_some]
    by_cases q0 : q < 0
    · rw [if_pos q0, inR_low q0]; exact ⟨_, mx, mm, rfl, rfl, h⟩
    · rw [if_neg q0]
      have hlt := lt_inR (n := 4) (k := 4) rfl (by decide) q0
      cases hq : inR 4 q with
      | false => rw [if_neg (fun z => by rw [hlt.mp z] at hq; cases hq)]; exact ⟨_, mx, mm, rfl, rfl, h⟩
      | true =>
        rw [if_pos (hlt.mpr hq), zB_t, if_neg i0]
        obtain ⟨i, hi, rfl⟩ := inR_t (by decide) hq
        cases hd : inR 12 x with
        | false => exact ⟨_, mx, mm, rfl, rfl, h⟩
        | true =>
          obtain ⟨d, hdd, rfl⟩ := inR_t (by decide) hd
          have l1 := hX.1.1
          have l2 := hM.1.1
          have l3 := hX.1.2.2.2.2.2.1
          have l4 := hM.1.2.2.2.2.2.1
          have e1 := (hS.2.1 j hj).1
          have e2 := (hQ.2.1 j hj).1
          have e3 := (hS.2.1 j hj).2.2.2.2.2 i hi
          have e4 := (hQ.2.1 j hj).2.2.2.2.2 i hi
          rw [zB_t, if_neg i0, if_neg i0, gA_at (by rw [l1]; omega) (by omega), gA_at (by rw [l2]; omega) (by omega), Option.bind_some, Option.bind_some, e1, e2]
          by_cases hk : nI (S.2.1 0 j) = 6
          · rw [if_pos hk, if_pos hk, nmI_eq, show (4 : Int32) = nI 4 from rfl, pk_mul, pk_mul, nI_add, nI_add, show j * 4 + i = 4 * j + i by omega, gA_at (by rw [l3]; omega) (by omega), gA_at (by rw [l4]; omega) (by omega), Option.bind_some, Option.bind_some, e3, e4, sA_at0 (by rw [l3]; omega) (by omega), sA_at0 (by rw [l4]; omega) (by omega)]
            exact ⟨_, _, _, rfl, rfl, W, (S.1, pdu S.2.1 (5 + i) j d, S.2.2), ⟨⟨hX.1.row, hX.2⟩, ⟨hS.1, hS.2.1.row hX.1 hn hj hi, hS.2.2⟩, ⟨hM.1.row, hM.2⟩, ⟨hQ.1, hQ.2.1.row hM.1 hn hj hi, hQ.2.2⟩⟩, ⟨hO.1.upd (by
              match i, hi with
              | 0, _ => exact hdd
              | 1, _ => exact hdd
              | 2, _ => exact hdd
              | 3, _ => exact hdd), hO.2⟩, hK, hC, hC2, hT, hW.fr (fun _ _ => rfl) (fun c hc => if_neg (by omega)) rfl (fun c hc => if_neg (by omega)), hA, hP.fr (fun _ _ => rfl) (fun _ _ => rfl) ⟨rfl, rfl⟩ ⟨rfl, rfl⟩⟩
          · rw [if_neg hk, if_neg hk]; exact ⟨_, mx, mm, rfl, rfl, h⟩
theorem op_count (h : RR mx mm) (q : Int32) : OPe (f_X6_count mx q) (f_X7_count mm q) := by
  obtain ⟨W, S, ⟨hX, hS, hM, hQ⟩, hO, hK, hC, hC2, hT, hW, hA, hP⟩ := id h
  unfold f_X6_count f_X7_count
  obtain ⟨-, -, L, ch, -, t1, t2, -⟩ := hT
  obtain ⟨-, -, r, -, a1, a2, -⟩ := hA
  rw [show mI mx 896 = mI mm 0 from hS.1.1.trans hQ.1.1.symm, show mI mx 8 = mI mm 10 from hW.2.1.trans hW.2.2.1.symm, show mI mx 899 = mI mm 38 from hS.1.2.2.2.1.trans hQ.1.2.2.2.1.symm, show mI mx 129 = mI mm 12 from t1.trans t2.symm, show mI mx 321 = mI mm 54 from a1.trans a2.symm]
  repeat' split
  all_goals exact ⟨_, mx, mm, rfl, rfl, h⟩
theorem op_trace (h : RR mx mm) (q : Int32) : OPe (f_X6_trace mx q) (f_X7_trace mm q) := by
  obtain ⟨W, S, ⟨hX, hS, hM, hQ⟩, hO, hK, hC, hC2, hT, hW, hA, hP⟩ := id h
  obtain ⟨l1, l2, r, hr, a1, a2, a3⟩ := hA
  unfold f_X6_trace f_X7_trace
  rw [op_in (n := 20) (in_lit (by decide) (by decide)), bnd_some, a1, a2]
  by_cases q0 : q < 0
  · rw [if_pos q0, inR_low q0]; exact ⟨_, mx, mm, rfl, rfl, h⟩
  · rw [if_neg q0]
    have hlt := lt_inR (n := 20) (k := 20) rfl (by decide) q0
    by_cases h1 : nI r ≤ q
    · rw [if_pos h1, if_pos h1]
      cases inR 20 q <;> exact ⟨_, mx, mm, rfl, rfl, h⟩
    · rw [if_neg h1, if_neg h1]
      cases hq : inR 20 q with
      | false => rw [if_neg (fun z => by rw [hlt.mp z] at hq; cases hq)]; exact ⟨_, mx, mm, rfl, rfl, h⟩
      | true =>
        rw [if_pos (hlt.mpr hq), zB_t, if_neg i0]
        obtain ⟨i, hi, rfl⟩ := inR_t (by decide) hq
        have hir : i < r := by
          rcases Nat.lt_or_ge i r with z | z
          · exact z
          · exact absurd (nI_le z (by omega)) h1
        rw [gA_at (by rw [l1]; omega) (by omega), gA_at (by rw [l2]; omega) (by omega), Option.bind_some, Option.bind_some, a3 i hi hir]
        exact ⟨_, mx, mm, rfl, rfl, h⟩
theorem op_taken (h : RR mx mm) (p q : Int32) : OPe (f_X6_taken mx p q) (f_X7_taken mm p q) := by
  obtain ⟨W, S, ⟨hX, hS, hM, hQ⟩, hO, hK, hC, hC2, hT, hW, hA, hP⟩ := id h
  unfold f_X6_taken f_X7_taken
  rw [op_in (n := 7) (in_lit (by decide) (by decide)), bnd_some, op_isPerson hS.1.1, op7_isPerson hQ.1.1 (by have := hO.1.1; omega), bnd_some, bnd_some]
  by_cases q0 : q < 0
  · rw [if_pos q0, inR_low q0]; exact ⟨_, mx, mm, rfl, rfl, h⟩
  · rw [if_neg q0]
    have hlt := lt_inR (n := 7) (k := 7) rfl (by decide) q0
    cases hq : inR 7 q with
    | false => rw [if_neg (fun z => by rw [hlt.mp z] at hq; cases hq)]; exact ⟨_, mx, mm, rfl, rfl, h⟩
    | true =>
      rw [if_pos (hlt.mpr hq), zB_t, if_neg i0]
      obtain ⟨k, hk, rfl⟩ := inR_t (by decide) hq
      cases hb : inR S.1 p with
      | false => exact ⟨_, mx, mm, rfl, rfl, h⟩
      | true =>
        obtain ⟨j, hj, rfl⟩ := inR_t (by have := hO.1.1; omega) hb
        have hn := hO.1.1
        have l1 := hX.1.1
        have l2 := hM.1.1
        rw [zB_t, if_neg i0, if_neg i0, gA_at (by rw [l1]; omega) (by omega), gA_at (by rw [l2]; omega) (by omega), Option.bind_some, Option.bind_some, (hS.2.1 j hj).1, (hQ.2.1 j hj).1]
        have hkd := (hO.1.2 j hj).1
        generalize S.2.1 0 j = kd at hkd
        unfold f_X6_taken_57 f_X7_taken_51 f_X7_taken_61
        have key : ∀ kd, kd < 7 → ∀ k, k < 7 → ∃ r : Int32, (∀ m : mM, (if nI kd = nI k then (if (1 : Int32) = 0 then some (-12, m) else some (nI kd, m)) else (gA oxA (nI kd)).bind fun x5 => if x5 = nI k then (if (1 : Int32) = 0 then some (-12, m) else some (nI kd, m)) else if nI k = 0 then (if (1 : Int32) = 0 then some (-12, m) else some (nI kd, m)) else (if (0 : Int32) = 0 then some (-12, m) else some (nI kd, m))) = some (r, m)) ∧
            ∀ m : mM, (if nI k = 0 then some (nI kd, m) else if nI kd = nI k then some (nI kd, m) else if nI k = 1 then (if nI kd = 4 then some (nI kd, m) else (if nI k = 2 then (if nI kd = 5 then some (nI kd, m) else (if nI k = 3 then (if nI kd = 6 then some (nI kd, m) else some (-12, m)) else some (-12, m))) else (if nI k = 3 then (if nI kd = 6 then some (nI kd, m) else some (-12, m)) else some (-12, m)))) else (if nI k = 2 then (if nI kd = 5 then some (nI kd, m) else (if nI k = 3 then (if nI kd = 6 then some (nI kd, m) else some (-12, m)) else some (-12, m))) else (if nI k = 3 then (if nI kd = 6 then some (nI kd, m) else some (-12, m)) else some (-12, m)))) = some (r, m) := by
          intro kd hkd k hk
          match kd, hkd with
          | 0, _ => match k, hk with
            | 0, _ => exact ⟨_, fun _ => rfl, fun _ => rfl⟩
            | 1, _ => exact ⟨_, fun _ => rfl, fun _ => rfl⟩
            | 2, _ => exact ⟨_, fun _ => rfl, fun _ => rfl⟩
            | 3, _ => exact ⟨_, fun _ => rfl, fun _ => rfl⟩
            | 4, _ => exact ⟨_, fun _ => rfl, fun _ => rfl⟩
            | 5, _ => exact ⟨_, fun _ => rfl, fun _ => rfl⟩
            | 6, _ => exact ⟨_, fun _ => rfl, fun _ => rfl⟩
          | 1, _ => match k, hk with
            | 0, _ => exact ⟨_, fun _ => rfl, fun _ => rfl⟩
            | 1, _ => exact ⟨_, fun _ => rfl, fun _ => rfl⟩
            | 2, _ => exact ⟨_, fun _ => rfl, fun _ => rfl⟩
            | 3, _ => exact ⟨_, fun _ => rfl, fun _ => rfl⟩
            | 4, _ => exact ⟨_, fun _ => rfl, fun _ => rfl⟩
            | 5, _ => exact ⟨_, fun _ => rfl, fun _ => rfl⟩
            | 6, _ => exact ⟨_, fun _ => rfl, fun _ => rfl⟩
          | 2, _ => match k, hk with
            | 0, _ => exact ⟨_, fun _ => rfl, fun _ => rfl⟩
            | 1, _ => exact ⟨_, fun _ => rfl, fun _ => rfl⟩
            | 2, _ => exact ⟨_, fun _ => rfl, fun _ => rfl⟩
            | 3, _ => exact ⟨_, fun _ => rfl, fun _ => rfl⟩
            | 4, _ => exact ⟨_, fun _ => rfl, fun _ => rfl⟩
            | 5, _ => exact ⟨_, fun _ => rfl, fun _ => rfl⟩
            | 6, _ => exact ⟨_, fun _ => rfl, fun _ => rfl⟩
          | 3, _ => match k, hk with
            | 0, _ => exact ⟨_, fun _ => rfl, fun _ => rfl⟩
            | 1, _ => exact ⟨_, fun _ => rfl, fun _ => rfl⟩
            | 2, _ => exact ⟨_, fun _ => rfl, fun _ => rfl⟩
            | 3, _ => exact ⟨_, fun _ => rfl, fun _ => rfl⟩
            | 4, _ => exact ⟨_, fun _ => rfl, fun _ => rfl⟩
            | 5, _ => exact ⟨_, fun _ => rfl, fun _ => rfl⟩
            | 6, _ => exact ⟨_, fun _ => rfl, fun _ => rfl⟩
          | 4, _ => match k, hk with
            | 0, _ => exact ⟨_, fun _ => rfl, fun _ => rfl⟩
            | 1, _ => exact ⟨_, fun _ => rfl, fun _ => rfl⟩
            | 2, _ => exact ⟨_, fun _ => rfl, fun _ => rfl⟩
            | 3, _ => exact ⟨_, fun _ => rfl, fun _ => rfl⟩
            | 4, _ => exact ⟨_, fun _ => rfl, fun _ => rfl⟩
            | 5, _ => exact ⟨_, fun _ => rfl, fun _ => rfl⟩
            | 6, _ => exact ⟨_, fun _ => rfl, fun _ => rfl⟩
          | 5, _ => match k, hk with
            | 0, _ => exact ⟨_, fun _ => rfl, fun _ => rfl⟩
            | 1, _ => exact ⟨_, fun _ => rfl, fun _ => rfl⟩
            | 2, _ => exact ⟨_, fun _ => rfl, fun _ => rfl⟩
            | 3, _ => exact ⟨_, fun _ => rfl, fun _ => rfl⟩
            | 4, _ => exact ⟨_, fun _ => rfl, fun _ => rfl⟩
            | 5, _ => exact ⟨_, fun _ => rfl, fun _ => rfl⟩
            | 6, _ => exact ⟨_, fun _ => rfl, fun _ => rfl⟩
          | 6, _ => match k, hk with
            | 0, _ => exact ⟨_, fun _ => rfl, fun _ => rfl⟩
            | 1, _ => exact ⟨_, fun _ => rfl, fun _ => rfl⟩
            | 2, _ => exact ⟨_, fun _ => rfl, fun _ => rfl⟩
            | 3, _ => exact ⟨_, fun _ => rfl, fun _ => rfl⟩
            | 4, _ => exact ⟨_, fun _ => rfl, fun _ => rfl⟩
            | 5, _ => exact ⟨_, fun _ => rfl, fun _ => rfl⟩
            | 6, _ => exact ⟨_, fun _ => rfl, fun _ => rfl⟩
        obtain ⟨r, g1, g2⟩ := key kd hkd k hk
        exact ⟨r, mx, mm, g1 mx, g2 mm, h⟩
theorem op_book (h : RR mx mm) (q : Int32) : OPe (f_X6_book mx q) (f_X7_book mm q) := by
  obtain ⟨W, S, ⟨hX, hS, hM, hQ⟩, hO, hK, hC, hC2, hT, hW, hA, hP⟩ := id h
  unfold f_X6_book f_X7_book
  by_cases hz : q = -10000
  · rw [if_pos hz, if_pos hz]
    exact ⟨0, wI mx 899 0, wI mm 38 0, rfl, rfl, W, (S.1, S.2.1, S.2.2.1, S.2.2.2.1, S.2.2.2.2.1, [], S.2.2.2.2.2.2), ⟨hX, ⟨⟨hS.1.1, hS.1.2.1, hS.1.2.2.1, rfl, hS.1.2.2.2.2⟩, hS.2.1, hS.2.2.1, fun i hi => absurd hi (Nat.not_lt_zero i)⟩, hM, ⟨⟨hQ.1.1, hQ.1.2.1, hQ.1.2.2.1, rfl, hQ.1.2.2.2.2⟩, hQ.2.1, hQ.2.2.1, fun i hi => absurd hi (Nat.not_lt_zero i)⟩⟩, ⟨hO.1, hO.2.1, hO.2.2.1, Nat.zero_le _, hO.2.2.2.2.1, hO.2.2.2.2.2.1, fun i hi => absurd hi (Nat.not_lt_zero i)⟩, hK, hC, hC2, hT, hW.fr (fun k hk => if_neg (by omega)) (fun _ _ => rfl) rfl (fun _ _ => rfl), hA, hP.fr (fun k hk => if_neg (by omega)) (fun _ _ => rfl) ⟨rfl, rfl⟩ ⟨rfl, rfl⟩⟩
  · rw [if_neg hz, if_neg hz]
    unfold f_X7_in
    by_cases q0 : q < -9999
    · rw [if_pos q0, if_pos q0]; exact ⟨_, mx, mm, rfl, rfl, h⟩
    · rw [if_neg q0, if_neg q0]
      by_cases q1 : q ≤ 9999
      · have e1 := hS.1.2.2.2.1
        have e2 := hQ.1.2.2.2.1
        have hl := hO.2.2.2.1
        rw [if_pos q1, if_neg (show ¬ (9999 : Int32) < q from fun z => by rw [Int32.lt_iff_toInt_lt] at z; rw [Int32.le_iff_toInt_le] at q1; omega), bnd_some, if_neg i0, show mI mx 899 = _ from e1, show mI mm 38 = _ from e2]
        by_cases hf : S.2.2.2.2.2.1.length < 12
        · rw [if_pos (show nI _ < (12 : Int32) from nI_lt hf (by decide)), if_neg (fun z => by have := (nI_eq (by omega) (by decide)).mp (show nI _ = nI 12 from z); omega), sA_at0 (by rw [show mA mx 22 = mA mx (14 + 8) from rfl, hX.2.2]; exact hf) (by omega), sA_at0 (by rw [hM.2.2]; exact hf) (by omega), Option.bind_some, Option.bind_some, nmM_eq, nmM_eq]
          refine ⟨mI mx 899 + 1, wI (wA mx 22 ((mA mx 22).set S.2.2.2.2.2.1.length q)) 899 (mI mx 899 + 1), wI (wA mm 23 ((mA mm 23).set S.2.2.2.2.2.1.length q)) 38 (mI mm 38 + 1), rfl, by rw [show mI mx 899 = mI mm 38 from e1.trans e2.symm]; rfl, W, (S.1, S.2.1, S.2.2.1, S.2.2.2.1, S.2.2.2.2.1, S.2.2.2.2.2.1 ++ [q], S.2.2.2.2.2.2), ⟨⟨hX.1, hX.2.1, (List.length_set ..).trans hX.2.2⟩, ⟨⟨hS.1.1, hS.1.2.1, hS.1.2.2.1, ?_, hS.1.2.2.2.2⟩, hS.2.1, hS.2.2.1, ?_⟩, ⟨hM.1, hM.2.1, (List.length_set ..).trans hM.2.2⟩, ⟨⟨hQ.1.1, hQ.1.2.1, hQ.1.2.2.1, ?_, hQ.1.2.2.2.2⟩, hQ.2.1, hQ.2.2.1, ?_⟩⟩, ⟨hO.1, hO.2.1, hO.2.2.1, by rw [List.length_append]; exact hf, hO.2.2.2.2.1, hO.2.2.2.2.2.1, ?_⟩, hK, hC, hC2, hT, hW.fr (fun k hk => if_neg (by omega)) (fun c hc => if_neg (by omega)) rfl (fun c hc => if_neg (by omega)), hA, hP.fr (fun k hk => if_neg (by omega)) (fun _ _ => rfl) ⟨rfl, rfl⟩ ⟨rfl, rfl⟩⟩
          · show mI mx 899 + 1 = nI (S.2.2.2.2.2.1 ++ [q]).length
            rw [show mI mx 899 = _ from e1, nI_1, List.length_append]; rfl
          · intro i hi
            have hi : i < S.2.2.2.2.2.1.length + 1 := by simpa using hi
            show ((mA mx 22).set S.2.2.2.2.2.1.length q).getD i 0 = _
            rw [gd_set, show mA mx 22 = mA mx (14 + 8) from rfl, hX.2.2]
            by_cases z : S.2.2.2.2.2.1.length = i
            · rw [if_pos ⟨z, hf⟩, List.getD_eq_getElem?_getD, List.getElem?_append_right (by omega), z, Nat.sub_self]; rfl
            · rw [if_neg (fun w => z w.1), hS.2.2.2 i (by omega), List.getD_eq_getElem?_getD, List.getD_eq_getElem?_getD, List.getElem?_append_left (by omega)]
          · show mI mm 38 + 1 = nI (S.2.2.2.2.2.1 ++ [q]).length
            rw [show mI mm 38 = _ from e2, nI_1, List.length_append]; rfl
          · intro i hi
            have hi : i < S.2.2.2.2.2.1.length + 1 := by simpa using hi
            show ((mA mm 23).set S.2.2.2.2.2.1.length q).getD i 0 = _
            rw [gd_set, hM.2.2]
            by_cases z : S.2.2.2.2.2.1.length = i
            · rw [if_pos ⟨z, hf⟩, List.getD_eq_getElem?_getD, List.getElem?_append_right (by omega), z, Nat.sub_self]; rfl
            · rw [if_neg (fun w => z w.1), hQ.2.2.2 i (by omega), List.getD_eq_getElem?_getD, List.getD_eq_getElem?_getD, List.getElem?_append_left (by omega)]
          · intro i hi
            have hi : i < S.2.2.2.2.2.1.length + 1 := by simpa using hi
            show -9999 ≤ ((S.2.2.2.2.2.1 ++ [q]).getD i 0).toInt ∧ ((S.2.2.2.2.2.1 ++ [q]).getD i 0).toInt ≤ 9999
            by_cases z : S.2.2.2.2.2.1.length = i
            · have e9 : (-9999 : Int32).toInt = -9999 := by decide
              have e8 : (9999 : Int32).toInt = 9999 := by decide
              have eq : (S.2.2.2.2.2.1 ++ [q]).getD i 0 = q := by rw [List.getD_eq_getElem?_getD, List.getElem?_append_right (by omega), z, Nat.sub_self]; rfl
              rw [eq]
              rw [Int32.lt_iff_toInt_lt] at q0
              rw [Int32.le_iff_toInt_le] at q1
              omega
            · have eq : (S.2.2.2.2.2.1 ++ [q]).getD i 0 = S.2.2.2.2.2.1.getD i 0 := by rw [List.getD_eq_getElem?_getD, List.getD_eq_getElem?_getD, List.getElem?_append_left (by omega)]
              rw [eq]; exact hO.2.2.2.2.2.2 i (by omega)
        · rw [if_neg (show ¬ nI S.2.2.2.2.2.1.length < (12 : Int32) from (nI_nlt (by omega) (by omega) : ¬ nI S.2.2.2.2.2.1.length < nI 12)), if_pos (show nI S.2.2.2.2.2.1.length = (12 : Int32) from (congrArg nI (show S.2.2.2.2.2.1.length = 12 by omega) : nI S.2.2.2.2.2.1.length = nI 12))]
          exact ⟨_, mx, mm, rfl, rfl, h⟩
      · rw [if_neg q1, if_pos (show (9999 : Int32) < q by rw [Int32.lt_iff_toInt_lt]; rw [Int32.le_iff_toInt_le] at q1; omega)]; exact ⟨_, mx, mm, rfl, rfl, h⟩
end OPS1
