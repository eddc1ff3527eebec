/-! TAPES -/
section TAPES
variable {mx mm : mM}
theorem tp_tb {t : Nat} (ht : t < 6) : gT [82, 84, 86, 88, 90, 92] (nI t) = some (82 + 2 * t) ∧ isC true 3 (82 + 2 * t) = true := by
  match t, ht with
  | 0, _ => exact ⟨rfl, rfl⟩
  | 1, _ => exact ⟨rfl, rfl⟩
  | 2, _ => exact ⟨rfl, rfl⟩
  | 3, _ => exact ⟨rfl, rfl⟩
  | 4, _ => exact ⟨rfl, rfl⟩
  | 5, _ => exact ⟨rfl, rfl⟩
theorem nIp {s : Nat} (hs : s ≤ 5) : (nI s - 1 = -1 ↔ s = 0) ∧ (nI s - 1 < 0 ↔ s = 0) ∧ (0 ≤ nI s - 1 ↔ s ≠ 0) := by
  match s, hs with
  | 0, _ => decide
  | 1, _ => decide
  | 2, _ => decide
  | 3, _ => decide
  | 4, _ => decide
  | 5, _ => decide
theorem lt_l {l : Nat} {q : Int32} (hl : l < 2 ^ 31) (q0 : ¬ q < 0) : (q < nI l ↔ inR l q = true) := lt_inR rfl hl q0
theorem op_read (h : RR mx mm) (p q : Int32) : OPe (f_X6_read mx p q) (f_X7_read mm p q) := by
  obtain ⟨W, S, hN, hO, hK, hC, hC2, hT, hW, hA, hP⟩ := id h
  obtain ⟨g1, g2, g3, g4, g5⟩ := hP
  unfold f_X6_read f_X7_read
  rw [op_isTape, op7_isTape, bnd_some, bnd_some]
  cases hb : inR 6 p with
  | false => exact ⟨_, mx, mm, rfl, rfl, h⟩
  | true =>
    obtain ⟨t, ht, rfl⟩ := inR_t (by decide) hb
    obtain ⟨s, l, hs, hl, hz, e1, e2, e3, e4, e5, e6⟩ := g5 t ht
    rw [zB_t, if_neg i0, if_neg i0, (tp_tb ht).1, Option.bind_some, chR_t (tp_tb ht).2, e3, gA_at (by rw [g1]; omega) (by omega), Option.bind_some, e2, gA_at (by rw [g2]; omega) (by omega), Option.bind_some, e4, op_in (in_pred (n := l) (by omega)), bnd_some]
    by_cases q0 : q < 0
    · rw [if_pos q0, inR_low q0]
      by_cases hs0 : nI s - 1 < 0
      · rw [if_pos hs0]; exact ⟨_, mx, mm, rfl, rfl, h⟩
      · rw [if_neg hs0]; exact ⟨_, mx, mm, rfl, rfl, h⟩
    · rw [if_neg q0]
      have hlt := lt_l (l := l) (q := q) (by omega) q0
      cases hq : inR l q with
      | false =>
        rw [if_neg (fun z => by rw [hlt.mp z] at hq; cases hq)]
        by_cases hs0 : nI s - 1 < 0
        · rw [if_pos hs0]; exact ⟨_, mx, mm, rfl, rfl, h⟩
        · rw [if_neg hs0]; exact ⟨_, mx, mm, rfl, rfl, h⟩
      | true =>
        obtain ⟨i, hi, rfl⟩ := inR_t (by omega) hq
        have hs0 : ¬ nI s - 1 < 0 := fun z => by
          have := hz ((nIp hs).2.1.mp z); omega
        rw [if_pos (hlt.mpr hq), if_neg hs0, zB_t, if_neg i0, gL_at (by rw [e5]; omega) (by omega), Option.bind_some, e6 i hi, show (60 : Int32) = nI 60 from rfl, pk_mul, nI_add, gL_at (by rw [g3]; omega) (by omega), Option.bind_some]
        exact ⟨_, mx, mm, rfl, rfl, h⟩
theorem fit_eq {m m' : mM} {a : Nat} {s : Nat} {v : Int64} (hs : s ≤ 5) (e : mI m (64 * a + 0) = nI s - 1) : ∃ r, f_X3_fitted m a v = some (r, m) ∧ f_X7_narrow m' (nI s - 1) v = some (r, m') := by
  unfold f_X3_fitted f_X7_narrow
  rw [nmI_eq, e]
  match s, hs with
  | 0, _ => exact ⟨_, rfl, rfl⟩
  | 1, _ => exact ⟨_, rfl, rfl⟩
  | 2, _ => exact ⟨_, rfl, rfl⟩
  | 3, _ => exact ⟨_, rfl, rfl⟩
  | 4, _ => exact ⟨_, rfl, rfl⟩
  | 5, _ =>
    show ∃ r, (if lg_cmp v 0 = 0 then some (0, m) else some (1, m)) = some (r, m) ∧ (if lg_cmp v 0 = 0 then some (0, m') else some (1, m')) = some (r, m')
    by_cases hv : lg_cmp v 0 = 0
    · rw [if_pos hv, if_pos hv]; exact ⟨_, rfl, rfl⟩
    · rw [if_neg hv, if_neg hv]; exact ⟨_, rfl, rfl⟩
/-- tape t anew, the others as they were -/
theorem R_tap.upd {mx' mm' : mM} {t : Nat} (h : R_tap mx mm) (ht : t < 6) (h1 : TPr mx' mm' t) (hA : ∀ u, u < 6 → u ≠ t → (mI mx' (64 * (82 + 2 * u) + 0) = mI mx (64 * (82 + 2 * u) + 0) ∧ mI mx' (64 * (82 + 2 * u) + 1) = mI mx (64 * (82 + 2 * u) + 1) ∧ mL mx' (82 + 2 * u + 1) = mL mx (82 + 2 * u + 1)) ∧ (mA mm' 33).getD u 0 = (mA mm 33).getD u 0 ∧ (mA mm' 34).getD u 0 = (mA mm 34).getD u 0 ∧ ∀ i, i < 60 → (mL mm' 35).getD (60 * u + i) 0 = (mL mm 35).getD (60 * u + i) 0) (hl : (mA mm' 33).length = 6 ∧ (mA mm' 34).length = 6 ∧ (mL mm' 35).length = 360 ∧ (mL mm' 36).length = 60) : R_tap mx' mm' := by
  refine ⟨hl.1, hl.2.1, hl.2.2.1, hl.2.2.2, fun u hu => ?_⟩
  by_cases e : u = t
  · subst e; exact h1
  · obtain ⟨s, l, a1, a2, a3, a4, a5, a6, a7, a8, a9⟩ := h.2.2.2.2 u hu
    obtain ⟨⟨b1, b2, b3⟩, b4, b5, b6⟩ := hA u hu e
    exact ⟨s, l, a1, a2, a3, by rw [b1]; exact a4, by rw [b4]; exact a5, by rw [b2]; exact a6, by rw [b5]; exact a7, by rw [b3]; exact a8, fun i hi => by rw [b3, b6 i (by omega)]; exact a9 i hi⟩
theorem op_item (h : RR mx mm) (p q : Int32) (v : Int64) : OPe (f_X6_item mx p q v) (f_X7_item mm p q v) := by
  obtain ⟨W, S, hN, hO, hK, hC, hC2, hT, hW, hA, hP⟩ := id h
  obtain ⟨g1, g2, g3, g4, g5⟩ := id hP
  unfold f_X6_item f_X7_item
  rw [op_isTape, op7_isTape, bnd_some, bnd_some]
  cases hb : inR 6 p with
  | false => exact ⟨_, mx, mm, rfl, rfl, h⟩
  | true =>
    obtain ⟨t, ht, rfl⟩ := inR_t (by decide) hb
    obtain ⟨s, l, hs, hl, hz, e1, e2, e3, e4, e5, e6⟩ := g5 t ht
    rw [zB_t, if_neg i0, if_neg i0, (tp_tb ht).1, Option.bind_some, chR_t (tp_tb ht).2, e1, e3, gA_at (by rw [g1]; omega) (by omega), Option.bind_some, e2, gA_at (by rw [g2]; omega) (by omega), Option.bind_some, e4, op_in (in_pred (n := l) (by omega)), bnd_some]
    by_cases hs0 : s = 0
    · rw [if_pos ((nIp hs).1.mpr hs0), if_neg (fun z => (nIp hs).2.2.mp z hs0)]; exact ⟨_, mx, mm, rfl, rfl, h⟩
    · rw [if_neg (fun z => hs0 ((nIp hs).1.mp z)), if_pos ((nIp hs).2.2.mpr hs0)]
      by_cases q0 : q < 0
      · rw [if_pos q0, inR_low q0]; exact ⟨_, mx, mm, rfl, rfl, h⟩
      · rw [if_neg q0]
        have hlt := lt_l (l := l) (q := q) (by omega) q0
        cases hq : inR l q with
        | false => rw [if_neg (fun z => by rw [hlt.mp z] at hq; cases hq)]; exact ⟨_, mx, mm, rfl, rfl, h⟩
        | true =>
          obtain ⟨i, hi, rfl⟩ := inR_t (by omega) hq
          obtain ⟨r, f1, f2⟩ := fit_eq (m := mx) (m' := mm) (a := 82 + 2 * t) (v := v) hs e1
          rw [if_pos (hlt.mpr hq), zB_t, if_neg i0, f1, bnd_some, sL_at (by rw [e5]; omega) (by omega), Option.bind_some, gA_at (by rw [g1]; omega) (by omega), Option.bind_some, e2, f2, bnd_some, show (60 : Int32) = nI 60 from rfl, pk_mul, nI_add, sL_at (by rw [g3]; omega) (by omega), Option.bind_some]
          refine ⟨_, _, _, rfl, rfl, W, S, hN, hO, hK, hC, hC2, hT, hW.fr (fun _ _ => rfl) (fun _ _ => rfl) rfl (fun _ _ => rfl), hA, hP.upd ht ⟨s, l, hs, hl, hz, e1, e2, e3, e4, ?_, fun k hk => ?_⟩ (fun u hu hne => ⟨⟨rfl, rfl, ?_⟩, rfl, rfl, fun k hk => ?_⟩) ⟨g1, g2, ?_, g4⟩⟩
          · rw [mL_wL, if_pos rfl, List.length_set]; exact e5
          · rw [mL_wL, if_pos rfl, mL_wL, if_pos rfl, gd_set, gd_set, e5, g3]
            by_cases hki : i = k
            · subst hki; rw [if_pos ⟨rfl, by omega⟩, if_pos ⟨rfl, by omega⟩]
            · rw [if_neg (fun z => hki z.1), if_neg (fun z => hki (by omega))]; exact e6 k hk
          · rw [mL_wL, if_neg (by omega)]
          · rw [mL_wL, if_pos rfl, gd_ne (by omega)]
          · rw [mL_wL, if_pos rfl, List.length_set]; exact g3
/-- zeros from place a on, k of them -/
def zeroL (xs : List Int64) (a : Nat) : Nat → List Int64
  | 0 => xs
  | k + 1 => (zeroL xs a k).set (a + k) 0
theorem zeroL_len {xs : List Int64} {a : Nat} : ∀ k, (zeroL xs a k).length = xs.length
  | 0 => rfl
  | k + 1 => by rw [zeroL, List.length_set, zeroL_len k]
theorem zeroL_get {xs : List Int64} {a j : Nat} (hl : j < xs.length) : ∀ k, (zeroL xs a k).getD j 0 = if a ≤ j ∧ j < a + k then 0 else xs.getD j 0
  | 0 => by rw [if_neg (by omega)]; rfl
  | k + 1 => by
    rw [zeroL, gd_set, zeroL_len, zeroL_get hl k]
    by_cases e : a + k = j
    · rw [if_pos ⟨e, by omega⟩, if_pos (by omega)]
    · rw [if_neg (fun z => e z.1)]
      by_cases c : a ≤ j ∧ j < a + k
      · rw [if_pos c, if_pos (by omega)]
      · rw [if_neg c, if_neg (by omega)]
theorem wL_wL {m : mM} {c : Nat} {x y : List Int64} : wL (wL m c x) c y = wL m c y := by
  unfold wL
  refine congrArg (fun z => (m.1, m.2.1, z, m.2.2.2)) (funext fun k => ?_)
  by_cases h : k = c
  · simp [h]
  · simp [h]
theorem wL_self {m : mM} {c : Nat} : wL m c (mL m c) = m := by
  unfold wL mL
  refine Prod.ext rfl (Prod.ext rfl (Prod.ext (funext fun k => ?_) rfl))
  show (if k = c then m.2.2.1 c else m.2.2.1 k) = m.2.2.1 k
  by_cases h : k = c
  · subst h; rw [if_pos rfl]
  · rw [if_neg h]
theorem wA_self {m : mM} {c : Nat} : wA m c (mA m c) = m := by
  unfold wA mA
  refine Prod.ext rfl (Prod.ext (funext fun k => ?_) rfl)
  show (if k = c then m.2.1 c else m.2.1 k) = m.2.1 k
  by_cases h : k = c
  · subst h; rw [if_pos rfl]
  · rw [if_neg h]
theorem wA_wA {m : mM} {c : Nat} {x y : List Int32} : wA (wA m c x) c y = wA m c y := by
  unfold wA
  refine congrArg (fun z => (m.1, z, m.2.2)) (funext fun k => ?_)
  by_cases h : k = c
  · simp [h]
  · simp [h]
theorem wI_wI {m : mM} {c : Nat} {x y : Int32} : wI (wI m c x) c y = wI m c y := by
  unfold wI
  refine congrArg (fun z => (z, m.2)) (funext fun k => ?_)
  by_cases h : k = c
  · simp [h]
  · simp [h]
theorem wI_self {m : mM} {c : Nat} : wI m c (mI m c) = m := by
  unfold wI mI
  refine Prod.ext (funext fun k => ?_) rfl
  show (if k = c then m.1 c else m.1 k) = m.1 k
  by_cases h : k = c
  · subst h; rw [if_pos rfl]
  · rw [if_neg h]
theorem zero_lp {R : Type} {m : mM} {c a n : Nat} {E : fR R} {fb : (mM → Int32 → fR R) → mM → Int32 → fR R} {f : Nat → mM → Int32 → fR R} (hf : ∀ F m y, f (F + 1) m y = fb (f F) m y) (hs : ∀ k, k < n → ∀ K xs, xs.length = (mL m c).length → fb K (wL m c xs) (nI k) = K (wL m c (xs.set (a + k) 0)) (nI (k + 1))) (he : ∀ K, fb K (wL m c (zeroL (mL m c) a n)) (nI n) = E) (hn : n < 1000) : f 1000 m 0 = E := by
  have key := lp_up hf (n := n) (G := fun k => wL m c (zeroL (mL m c) a k)) (E := E) (fun k hk K => hs k hk K _ (zeroL_len k)) he n 0 1000 (by omega) (by omega)
  have e0 : wL m c (zeroL (mL m c) a 0) = m := wL_self
  rw [e0] at key
  exact key
theorem become_eq {m : mM} {a : Nat} {s n : Int32} (hl : (mL m (a + 1)).length = 60) : f_X3_become m a s n = some ((), wL (wI (wI m (64 * a + 0) s) (64 * a + 1) n) (a + 1) (zeroL (mL m (a + 1)) 0 60)) := by
  unfold f_X3_become
  rw [nmM_eq, nmM_eq]
  refine zero_lp (f := fun F m y => f_X3_become_12 F m a y) (fb := fun K m y => fb_X3_become_12 (fun m _ y => K m y) m a y) (c := a + 1) (a := 0) (n := 60) (fun _ _ _ => rfl) (fun k hk K xs hx => ?_) (fun K => ?_) (by decide)
  · unfold fb_X3_become_12
    rw [if_neg (show ¬ (60 : Int32) ≤ nI k from (nI_ge hk (by decide) : ¬ nI 60 ≤ nI k)), sL_at (by rw [mL_wL, if_pos rfl, hx]; rw [show mL (wI (wI m (64 * a + 0) s) (64 * a + 1) n) (a + 1) = mL m (a + 1) from rfl, hl]; exact hk) (by omega), Option.bind_some, wL_wL, mL_wL, if_pos rfl, nI_1, Nat.zero_add]
  · unfold fb_X3_become_12
    rw [if_pos (show (60 : Int32) ≤ nI 60 by decide)]; rfl
theorem tape_eq {m : mM} {t : Nat} (ht : t < 6) (hl : (mL m 35).length = 360) : f_X7_tape_69 1000 m (nI t) 0 = some (1, wL m 35 (zeroL (mL m 35) (60 * t) 60)) := by
  refine zero_lp (f := fun F m y => f_X7_tape_69 F m (nI t) y) (fb := fun K m y => fb_X7_tape_69 (fun m _ y => K m y) m (nI t) y) (c := 35) (a := 60 * t) (n := 60) (fun _ _ _ => rfl) (fun k hk K xs hx => ?_) (fun K => ?_) (by decide)
  · unfold fb_X7_tape_69
    rw [if_neg (show ¬ (60 : Int32) ≤ nI k from (nI_ge hk (by decide) : ¬ nI 60 ≤ nI k)), show (60 : Int32) = nI 60 from rfl, pk_mul, nI_add, sL_at (by rw [mL_wL, if_pos rfl, hx, hl]; omega) (by omega), Option.bind_some, wL_wL, mL_wL, if_pos rfl, nI_1]
  · unfold fb_X7_tape_69
    rw [if_pos (show (60 : Int32) ≤ nI 60 by decide)]
theorem sort_in {q : Int32} (h1 : ¬ q = -1) (h2 : ¬ q < 0) (h3 : ¬ 4 < q) : ∃ s, s ≤ 5 ∧ s ≠ 0 ∧ q = nI s - 1 := by
  obtain ⟨j, hj, rfl⟩ := nI_of h2
  refine ⟨j + 1, ?_, by omega, (nI_pred j).symm⟩
  rcases Nat.lt_or_ge 4 j with z | z
  · exact absurd (nI_lt z hj : nI 4 < nI j) h3
  · omega
theorem in_m1 {m : mM} {q : Int32} : f_X7_in m q (-1) 4 = if q = -1 then some (1, m) else if q < 0 then some (0, m) else if 4 < q then some (0, m) else some (1, m) := by
  unfold f_X7_in
  have e1 : (-1 : Int32).toInt = -1 := by decide
  have e0 : (0 : Int32).toInt = 0 := rfl
  have e4 : (4 : Int32).toInt = 4 := rfl
  by_cases c : q = -1
  · subst c; rfl
  · rw [if_neg c]
    have c' : ¬ q.toInt = -1 := fun z => c (Int32.toInt_inj.mp (by rw [z, e1]))
    by_cases d : q < 0
    · rw [if_pos d, if_pos (by rw [Int32.lt_iff_toInt_lt] at d ⊢; omega)]
    · rw [if_neg d, if_neg (by rw [Int32.lt_iff_toInt_lt] at d ⊢; omega)]
theorem op_tape (h : RR mx mm) (p q n : Int32) : OPe (f_X6_tape mx p q n) (f_X7_tape mm p q n) := by
  obtain ⟨W, S, hN, hO, hK, hC, hC2, hT, hW, hA, hP⟩ := id h
  obtain ⟨g1, g2, g3, g4, g5⟩ := id hP
  unfold f_X6_tape f_X7_tape
  rw [op_isTape, op7_isTape, bnd_some, bnd_some]
  cases hb : inR 6 p with
  | false => exact ⟨_, mx, mm, rfl, rfl, h⟩
  | true =>
    obtain ⟨t, ht, rfl⟩ := inR_t (by decide) hb
    obtain ⟨s0, l0, hs, hl, hz, e1, e2, e3, e4, e5, e6⟩ := g5 t ht
    have done : ∀ s l, s ≤ 5 → l ≤ 60 → (s = 0 → l = 0) → RR (wL (wI (wI mx (64 * (82 + 2 * t) + 0) (nI s - 1)) (64 * (82 + 2 * t) + 1) (nI l)) (82 + 2 * t + 1) (zeroL (mL mx (82 + 2 * t + 1)) 0 60)) (wL (wA (wA mm 33 ((mA mm 33).set t (nI s - 1))) 34 ((mA mm 34).set t (nI l))) 35 (zeroL (mL mm 35) (60 * t) 60)) := by
      intro s l hs hl hz
      refine ⟨W, S, ⟨⟨hN.1.1, hN.1.2⟩, ⟨?_, hN.2.1.2⟩, hN.2.2.1, hN.2.2.2⟩, hO, ⟨hK.1, hK.2.1, ?_⟩, hC, hC2, ?_, hW.fr (fun k hk => ?_) (fun _ _ => rfl) rfl (fun c hc => ?_), ?_, ?_⟩
      · obtain ⟨a1, a2, a3, a4, a5⟩ := hN.2.1.1
        refine ⟨?_, ?_, ?_, ?_, a5⟩
        all_goals (rw [mI_wL, mI_wI, if_neg (by omega), mI_wI, if_neg (by omega)]; assumption)
      · obtain ⟨b, b1, b2, b3⟩ := hK.2.2
        refine ⟨b, by rw [mI_wL, mI_wI, if_neg (by omega), mI_wI, if_neg (by omega)]; exact b1, b2, fun z => ?_⟩
        obtain ⟨K, k1, k2, k3⟩ := b3 z
        obtain ⟨a1, a2, a3, a4, a5⟩ := k1.1
        refine ⟨K, ⟨⟨?_, ?_, ?_, ?_, a5⟩, k1.2⟩, k2, k3⟩
        all_goals (rw [mI_wL, mI_wI, if_neg (by omega), mI_wI, if_neg (by omega)]; assumption)
      · obtain ⟨t1, t2, L, ch, t3, t4, t5⟩ := hT
        exact ⟨t1, t2, L, ch, t3, by rw [mI_wL, mI_wI, if_neg (by omega), mI_wI, if_neg (by omega)]; exact t4, t5⟩
      · rw [mI_wL, mI_wI, if_neg (by omega), mI_wI, if_neg (by omega)]
      · rw [mA_wL, mA_wA, if_neg (by omega), mA_wA, if_neg (by omega)]
      · obtain ⟨a1, a2, r, a3, a4, a5⟩ := hA
        exact ⟨a1, a2, r, a3, by rw [mI_wL, mI_wI, if_neg (by omega), mI_wI, if_neg (by omega)]; exact a4, a5⟩
      · refine hP.upd ht ⟨s, l, hs, hl, hz, ?_, ?_, ?_, ?_, ?_, fun i hi => ?_⟩ (fun u hu hne => ⟨⟨?_, ?_, ?_⟩, ?_, ?_, fun i hi => ?_⟩) ⟨?_, ?_, ?_, g4⟩
        · rw [mI_wL, mI_wI, if_neg (by omega), mI_wI, if_pos rfl]
        · rw [mA_wL, mA_wA, if_neg (by omega), mA_wA, if_pos rfl, gd_same (by rw [g1]; exact ht)]
        · rw [mI_wL, mI_wI, if_pos rfl]
        · rw [mA_wL, mA_wA, if_pos rfl, gd_same (by rw [g2]; exact ht)]
        · rw [mL_wL, if_pos rfl, zeroL_len]; exact e5
        · rw [mL_wL, if_pos rfl, mL_wL, if_pos rfl, zeroL_get (by rw [e5]; omega), zeroL_get (by rw [g3]; omega), if_pos (by omega), if_pos (by omega)]
        · rw [mI_wL, mI_wI, if_neg (by omega), mI_wI, if_neg (by omega)]
        · rw [mI_wL, mI_wI, if_neg (by omega), mI_wI, if_neg (by omega)]
        · rw [mL_wL, if_neg (by omega)]; rfl
        · rw [mA_wL, mA_wA, if_neg (by omega), mA_wA, if_pos rfl, gd_ne (fun z => hne z.symm)]
        · rw [mA_wL, mA_wA, if_pos rfl, gd_ne (fun z => hne z.symm)]
        · rw [mL_wL, if_pos rfl, zeroL_get (by rw [g3]; omega), if_neg (by omega)]
        · rw [mA_wL, mA_wA, if_neg (by omega), mA_wA, if_pos rfl, List.length_set]; exact g1
        · rw [mA_wL, mA_wA, if_pos rfl, List.length_set]; exact g2
        · rw [mL_wL, if_pos rfl, zeroL_len]; exact g3
    have m33 : ∀ (v : Int32) (z : Int32), (sA 0 mm 33 (nI t) v).bind (fun m7 => (sA 0 m7 34 (nI t) z).bind fun m8 => f_X7_tape_69 1000 m8 (nI t) 0) = some (1, wL (wA (wA mm 33 ((mA mm 33).set t v)) 34 ((mA mm 34).set t z)) 35 (zeroL (mL mm 35) (60 * t) 60)) := by
      intro v z
      rw [sA_at0 (by rw [g1]; exact ht) (by omega), Option.bind_some, sA_at0 (by rw [mA_wA, if_neg (by decide), g2]; exact ht) (by omega), Option.bind_some]; exact tape_eq ht g3
    rw [zB_t, if_neg i0, if_neg i0, in_m1, (tp_tb ht).1]
    by_cases c1 : q = -1
    · rw [if_pos c1, if_pos c1, bnd_some, if_neg i0, Option.bind_some, chR_t (tp_tb ht).2, become_eq e5, bnd_some]
      subst c1
      rw [if_pos (by decide)]
      unfold f_X7_tape_33 f_X7_tape_44
      rw [if_pos (by decide)]
      rw [show (fun m7 => if (0 : Int32) ≤ -1 then (sA 0 m7 34 (nI t) n).bind fun m8 => f_X7_tape_69 1000 m8 (nI t) 0 else (sA 0 m7 34 (nI t) 0).bind fun m10 => f_X7_tape_69 1000 m10 (nI t) 0) = (fun m7 => (sA 0 m7 34 (nI t) 0).bind fun m8 => f_X7_tape_69 1000 m8 (nI t) 0) from funext fun _ => if_neg (by decide), m33]
      exact ⟨_, _, _, rfl, rfl, done 0 0 (by decide) (by decide) (fun _ => rfl)⟩
    · rw [if_neg c1, if_neg c1]
      by_cases c2 : q < 0
      · rw [if_pos c2, if_pos c2]; exact ⟨_, mx, mm, rfl, rfl, h⟩
      · rw [if_neg c2, if_neg c2]
        by_cases c3 : 4 < q
        · rw [if_pos c3, if_pos c3]; exact ⟨_, mx, mm, rfl, rfl, h⟩
        · rw [if_neg c3, if_neg c3, bnd_some, if_neg i0, if_neg c2]
          obtain ⟨s, hs5, hs0, rfl⟩ := sort_in c1 c2 c3
          by_cases c4 : n ≤ 60
          · rw [if_pos c4, if_pos c4]
            unfold f_X7_tape_33 f_X7_tape_44
            rw [if_neg c2]
            by_cases c5 : 0 ≤ n
            · rw [if_pos c5, if_pos c5, Option.bind_some, chR_t (tp_tb ht).2, become_eq e5, bnd_some]
              rw [show (fun m7 => if (0 : Int32) ≤ nI s - 1 then (sA 0 m7 34 (nI t) n).bind fun m8 => f_X7_tape_69 1000 m8 (nI t) 0 else (sA 0 m7 34 (nI t) 0).bind fun m10 => f_X7_tape_69 1000 m10 (nI t) 0) = (fun m7 => (sA 0 m7 34 (nI t) n).bind fun m8 => f_X7_tape_69 1000 m8 (nI t) 0) from funext fun _ => if_pos ((nIp hs5).2.2.mpr hs0), m33]
              obtain ⟨l, hl60, rfl⟩ := nI_of2 (n := 60) (M := 60) (by decide) (fun z => by rw [Int32.lt_iff_toInt_lt] at z; rw [Int32.le_iff_toInt_le] at c5; omega) c4
              exact ⟨_, _, _, rfl, rfl, done s l hs5 hl60 (fun z => absurd z hs0)⟩
            · rw [if_neg c5, if_neg c5]; exact ⟨_, mx, mm, rfl, rfl, h⟩
          · rw [if_neg c4, if_neg c4]; exact ⟨_, mx, mm, rfl, rfl, h⟩
end TAPES
