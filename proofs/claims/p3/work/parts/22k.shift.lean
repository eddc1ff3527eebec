/-! SHIFTS -/
section SHIFT
variable {mx mm : mM}
theorem sub_in {l c : Nat} (hl : l ≤ 60) (hc : c < 2 ^ 31) : (nI l - nI c).toInt = (l : Int) - c := by
  rw [Int32.toInt_sub, nI_toInt (by omega), nI_toInt hc]
  exact Int.bmod_eq_of_le (by omega) (by omega)
/-- whether a stretch lies in a row of l -/
def inS (l : Nat) (i n : Int32) : Prop := ∃ a c, i = nI a ∧ n = nI c ∧ a + c ≤ l
theorem inS_of {l : Nat} {i n : Int32} (hl : l ≤ 60) (h1 : ¬ i < 0) (h2 : ¬ n < 0) (h3 : ¬ nI l - n < i) : inS l i n := by
  obtain ⟨a, ha, rfl⟩ := nI_of h1
  obtain ⟨c, hc, rfl⟩ := nI_of h2
  refine ⟨a, c, rfl, rfl, ?_⟩
  rw [Int32.lt_iff_toInt_lt, sub_in hl hc, nI_toInt ha] at h3
  omega
theorem holds_eq {m : mM} {a l : Nat} {i n : Int32} (hl : l ≤ 60) (e : mI m (64 * a + 1) = nI l) : (inS l i n → f_X3_holds m a i n = some (1, m)) ∧ (¬ inS l i n → f_X3_holds m a i n = some (0, m)) := by
  unfold f_X3_holds
  rw [e]
  constructor
  · rintro ⟨b, c, rfl, rfl, h⟩
    rw [if_neg (nI_pos (by omega)), if_neg (nI_pos (by omega)), if_neg (nI_nlt (by omega) (by omega)), if_neg (by rw [Int32.lt_iff_toInt_lt, sub_in hl (by omega), nI_toInt (by omega)]; omega)]
  · intro h
    by_cases h1 : i < 0
    · rw [if_pos h1]
    · rw [if_neg h1]
      by_cases h2 : n < 0
      · rw [if_pos h2]
      · rw [if_neg h2]
        by_cases h3 : nI l < n
        · rw [if_pos h3]
        · rw [if_neg h3]
          by_cases h4 : nI l - n < i
          · rw [if_pos h4]
          · exact absurd (inS_of hl h1 h2 h4) h
theorem jcpyL_get {xs ys : List Int64} {sp dp n j : Nat} (hj : j < ys.length) : (jcpyL xs ys sp dp n).getD j 0 = if dp ≤ j ∧ j < dp + n then xs.getD (sp + (j - dp)) 0 else ys.getD j 0 := by
  unfold jcpyL
  rw [List.getD_eq_getElem?_getD, List.getElem?_map, List.getElem?_range hj]; rfl
theorem sh_loop2 {m : mM} {o b c : Nat} (hb : b + c ≤ 60) (ho : o < 6) (h35 : (mL m 35).length = 360) (h36 : (mL m 36).length = 60) : f_X7_shift_141 1000 m (nI o) (nI b) (nI c) 0 = some (nI c, wL m 35 (cpS 0 (mL m 36) 0 (60 * o + b) (mL m 35) c)) := by
  have key := lp_up (f := fun F m y => f_X7_shift_141 F m (nI o) (nI b) (nI c) y) (fb := fun K m y => fb_X7_shift_141 (fun m _ _ _ y => K m y) m (nI o) (nI b) (nI c) y) (fun _ _ _ => rfl) (n := c) (G := fun k => wL m 35 (cpS 0 (mL m 36) 0 (60 * o + b) (mL m 35) k)) (E := some (nI c, wL m 35 (cpS 0 (mL m 36) 0 (60 * o + b) (mL m 35) c))) (fun k hk K => ?_) (fun K => ?_) c 0 1000 (by omega) (by omega)
  · have e0 : wL m 35 (cpS 0 (mL m 36) 0 (60 * o + b) (mL m 35) 0) = m := wL_self
    simp only [e0] at key
    exact key
  · show fb_X7_shift_141 _ _ _ _ _ _ = _
    unfold fb_X7_shift_141
    rw [if_neg (nI_ge hk (by omega)), mL_wL, if_neg (by decide), gL_at (by rw [h36]; omega) (by omega), Option.bind_some, show (60 : Int32) = nI 60 from rfl, pk_mul, nI_add, nI_add, sL_at (by rw [mL_wL, if_pos rfl, cpS_len, h35]; omega) (by omega), Option.bind_some, wL_wL, mL_wL, if_pos rfl, nI_1, cpS, Nat.zero_add]
  · show fb_X7_shift_141 _ _ _ _ _ _ = _
    unfold fb_X7_shift_141
    rw [if_pos (nI_le (Nat.le_refl _) (by omega))]
theorem sh_loop1 {m : mM} {t o a b c : Nat} (ha : a + c ≤ 60) (hb : b + c ≤ 60) (ht : t < 6) (ho : o < 6) (h35 : (mL m 35).length = 360) (h36 : (mL m 36).length = 60) : f_X7_shift_104 1000 m (nI t) (nI a) (nI o) (nI b) (nI c) 0 = f_X7_shift_141 1000 (wL m 36 (cpS 0 (mL m 35) (60 * t + a) 0 (mL m 36) c)) (nI o) (nI b) (nI c) 0 := by
  have key := lp_up (f := fun F m y => f_X7_shift_104 F m (nI t) (nI a) (nI o) (nI b) (nI c) y) (fb := fun K m y => fb_X7_shift_104 (fun m _ _ _ _ _ y => K m y) m (nI t) (nI a) (nI o) (nI b) (nI c) y) (fun _ _ _ => rfl) (n := c) (G := fun k => wL m 36 (cpS 0 (mL m 35) (60 * t + a) 0 (mL m 36) k)) (E := f_X7_shift_141 1000 (wL m 36 (cpS 0 (mL m 35) (60 * t + a) 0 (mL m 36) c)) (nI o) (nI b) (nI c) 0) (fun k hk K => ?_) (fun K => ?_) c 0 1000 (by omega) (by omega)
  · have e0 : wL m 36 (cpS 0 (mL m 35) (60 * t + a) 0 (mL m 36) 0) = m := wL_self
    simp only [e0] at key
    exact key
  · show fb_X7_shift_104 _ _ _ _ _ _ _ _ = _
    unfold fb_X7_shift_104
    rw [if_neg (nI_ge hk (by omega)), mL_wL, if_neg (by decide), show (60 : Int32) = nI 60 from rfl, pk_mul, nI_add, nI_add, gL_at (by rw [h35]; omega) (by omega), Option.bind_some, sL_at (by rw [mL_wL, if_pos rfl, cpS_len, h36]; omega) (by omega), Option.bind_some, wL_wL, mL_wL, if_pos rfl, nI_1, cpS, Nat.zero_add]
  · show fb_X7_shift_104 _ _ _ _ _ _ _ _ = _
    unfold fb_X7_shift_104
    rw [if_pos (nI_le (Nat.le_refl _) (by omega))]
theorem op_shift (h : RR mx mm) (p i q j n : Int32) : OPe (f_X6_shift mx p i q j n) (f_X7_shift mm p i q j n) := by
  obtain ⟨W, S, hN, hO, hK, hC, hC2, hT, hW, hA, hP⟩ := id h
  obtain ⟨g1, g2, g3, g4, g5⟩ := id hP
  unfold f_X6_shift f_X7_shift
  rw [op_isTape, op7_isTape, bnd_some, bnd_some, op_isTape, op7_isTape, bnd_some, bnd_some]
  cases hp : inR 6 p with
  | false => exact ⟨_, mx, mm, rfl, rfl, h⟩
  | true =>
  rw [zB_t, if_neg i0, if_neg i0]
  cases hq : inR 6 q with
  | false => exact ⟨_, mx, mm, rfl, rfl, h⟩
  | true =>
  rw [zB_t, if_neg i0, if_neg i0]
  obtain ⟨t, ht, rfl⟩ := inR_t (by decide) hp
  obtain ⟨o, ho, rfl⟩ := inR_t (by decide) hq
  obtain ⟨s, l, hs, hl, hz, e1, e2, e3, e4, e5, e6⟩ := g5 t ht
  obtain ⟨s', l', hs', hl', hz', f1, f2, f3, f4, f5, f6⟩ := g5 o ho
  rw [(tp_tb ht).1, Option.bind_some, chR_t (tp_tb ht).2, (tp_tb ho).1, Option.bind_some, chR_t (tp_tb ho).2, e1, f1, gA_at (xs := mA mm 33) (i := t) (by rw [g1]; exact ht) (by omega), gA_at (xs := mA mm 33) (i := o) (by rw [g1]; exact ho) (by omega), Option.bind_some, Option.bind_some, e2, f2, Option.bind_some, Option.bind_some, gA_at (xs := mA mm 34) (i := t) (by rw [g2]; exact ht) (by omega), gA_at (xs := mA mm 34) (i := o) (by rw [g2]; exact ho) (by omega), Option.bind_some, Option.bind_some, e4, f4]
  by_cases hs0 : s = 0
  · rw [if_pos ((nIp hs).1.mpr hs0), if_pos ((nIp hs).2.1.mpr hs0)]; exact ⟨_, mx, mm, rfl, rfl, h⟩
  rw [if_neg (fun z => hs0 ((nIp hs).1.mp z)), if_neg (fun z => hs0 ((nIp hs).2.1.mp z))]
  by_cases hs1 : s' = 0
  · rw [if_pos ((nIp hs').1.mpr hs1), if_neg (fun z => (nIp hs').2.2.mp z hs1)]; exact ⟨_, mx, mm, rfl, rfl, h⟩
  rw [if_neg (fun z => hs1 ((nIp hs').1.mp z)), if_pos ((nIp hs').2.2.mpr hs1)]
  by_cases hss : nI s - 1 = nI s' - 1
  · rw [if_pos hss, if_pos hss]
    have k1 := holds_eq (m := mx) (a := 82 + 2 * t) (i := i) (n := n) hl e3
    have k2 := holds_eq (m := mx) (a := 82 + 2 * o) (i := j) (n := n) hl' f3
    by_cases hI : inS l i n ∧ inS l' j n
    · obtain ⟨⟨a, c, rfl, rfl, hac⟩, b, c', rfl, hcc, hbc⟩ := hI
      have hc31 : c' < 2 ^ 31 := by omega
      have hcc : c = c' := (nI_eq (by omega) hc31).mp hcc
      subst hcc
      rw [k1.1 ⟨a, c, rfl, rfl, hac⟩, bnd_some, if_neg i0, k2.1 ⟨b, c, rfl, rfl, hbc⟩, bnd_some, if_neg i0, if_neg (nI_pos (by omega)), if_neg (nI_pos (by omega)), if_neg (nI_pos (by omega)), if_neg (by rw [Int32.lt_iff_toInt_lt, sub_in hl (by omega), nI_toInt (by omega)]; omega), if_pos (by rw [Int32.le_iff_toInt_le, sub_in hl' (by omega), nI_toInt (by omega)]; omega)]
      rw [sh_loop1 (by omega) (by omega) ht ho g3 g4, sh_loop2 (by omega) ho (by rw [mL_wL, if_neg (by decide)]; exact g3) (by rw [mL_wL, if_pos rfl, cpS_len]; exact g4)]
      unfold cpL
      rw [nI_clamp (by omega), nI_clamp (by omega), nI_clamp (by omega), if_pos ⟨nI_pos (by omega), nI_pos (by omega), nI_pos (by omega), by rw [e5]; omega, by rw [f5]; omega⟩, Option.bind_some]
      refine ⟨_, _, _, rfl, rfl, W, S, hN, hO, hK, hC, hC2, hT, hW.fr (fun _ _ => rfl) (fun _ _ => rfl) rfl (fun _ _ => rfl), hA, hP.upd ho ⟨s', l', hs', hl', hz', f1, f2, f3, f4, ?_, fun k hk => ?_⟩ (fun u hu hne => ⟨⟨rfl, rfl, ?_⟩, rfl, rfl, fun k hk => ?_⟩) ⟨g1, g2, ?_, ?_⟩⟩
      · rw [mL_wL, if_pos rfl]; simpa [jcpyL] using f5
      · rw [mL_wL, if_pos rfl, mL_wL, if_pos rfl, jcpyL_get (by rw [f5]; omega), cpS_get (by rw [mL_wL, if_neg (by decide), g3]; omega)]
        by_cases hc : b ≤ k ∧ k < b + c
        · rw [if_pos hc, if_pos (by omega), mL_wL, if_pos rfl, cpS_get (by rw [g4]; omega), if_pos (by omega), e6 _ (by omega), show 60 * t + a + (0 + (60 * o + k - (60 * o + b)) - 0) = 60 * t + (a + (k - b)) by omega]
        · rw [if_neg hc, if_neg (by omega), mL_wL, if_neg (by decide)]; exact f6 k hk
      · rw [mL_wL, if_neg (by omega)]
      · rw [mL_wL, if_pos rfl, cpS_get (by rw [mL_wL, if_neg (by decide), g3]; omega), if_neg (by omega), mL_wL, if_neg (by decide)]
      · rw [mL_wL, if_pos rfl, cpS_len, mL_wL, if_neg (by decide)]; exact g3
      · rw [mL_wL, if_neg (by decide), mL_wL, if_pos rfl, cpS_len]; exact g4
    · have hx : (bnd (f_X3_holds mx (82 + 2 * t) i n) fun x11 m12 => if x11 = 0 then some (-13, m12) else bnd (f_X3_holds m12 (82 + 2 * o) j n) fun x14 m15 => if x14 = 0 then some (-13, m15) else (cpL m15 (82 + 2 * t + 1) i (82 + 2 * o + 1) j n).bind fun m17 => some (n, m17)) = some (-13, mx) := by
        by_cases h1 : inS l i n
        · have h2 : ¬ inS l' j n := fun z => hI ⟨h1, z⟩
          rw [k1.1 h1, bnd_some, if_neg i0, k2.2 h2]; rfl
        · rw [k1.2 h1]; rfl
      rw [hx]
      refine ⟨_, mx, mm, rfl, ?_, h⟩
      by_cases c1 : n < 0
      · rw [if_pos c1]
      rw [if_neg c1]
      by_cases c2 : i < 0
      · rw [if_pos c2]
      rw [if_neg c2]
      by_cases c3 : j < 0
      · rw [if_pos c3]
      rw [if_neg c3]
      by_cases c4 : nI l - n < i
      · rw [if_pos c4]
      rw [if_neg c4, if_neg (fun z => hI ⟨inS_of hl c2 c1 c4, inS_of hl' c3 c1 (fun w => by rw [Int32.lt_iff_toInt_lt] at w; rw [Int32.le_iff_toInt_le] at z; omega)⟩)]
  · rw [if_neg hss, if_neg hss]; exact ⟨_, mx, mm, rfl, rfl, h⟩
end SHIFT
