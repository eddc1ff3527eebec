/-! OPERATIONS: of, quiet -/
section OPS6
variable {mx mm : mM}
theorem op_of (h : RR mx mm) (p q : Int32) : OPe (f_X6_of mx p q) (f_X7_of mm p q) := by
  obtain ⟨W, S, hr⟩ := id h
  obtain ⟨cs, hg⟩ := RRs.rg hr
  unfold f_X6_of f_X7_of
  rw [hg.per.1, hg.per.2, bnd_some, bnd_some]
  cases hp : inR S.1 p with
  | false => exact ⟨_, mx, mm, rfl, rfl, h⟩
  | true =>
    have hn := hg.2.1.1.1
    obtain ⟨k, hk, rfl⟩ := inR_t (by omega) hp
    have hmr := hg.mr
    have htw := hg.tw
    have hyr : S.2.2.2.2.1 < 2 ^ 31 := by have := hg.2.1.2.2.1; omega
    obtain ⟨m1, s1, s2, s3, s4⟩ := hg.start (due := nI (clLast 1 10 cs))
    have fin := h.frS s4 (FSM.rfl hg.2.2.2.2.1)
    obtain ⟨⟨a1, a2, a3, a4, a5, a6, a7, a8, a9, a10, a11, a12⟩, a13⟩ := id s2
    have hsl := sel_lt (y := S.2.2.2.2.1) (fs := clLast 3 99 cs) a1.2.2.1 hk
    have e44 : (mA m1 44).getD k 0 = nI (selD S.1 S.2.1 S.2.2.2.2.1 (clLast 3 99 cs) k) := a13 k hk
    rw [zB_t, if_neg i0, if_neg i0, chR_t htw.1, htw.2.1, s1, bnd_some, gA_at (by omega) (by omega), e44, Option.bind_some]
    obtain ⟨g1, g2, g3, g4, g5, g6⟩ := a1.g hk
    obtain ⟨t1, t2, t3, t4, t5, t6⟩ := hmr.1.1.g hk
    obtain ⟨r1, r2, r3, r4, r5, r6⟩ := a1.2.2.1.2 k hk
    by_cases c0 : q = 0
    · rw [if_pos c0, if_pos c0, show gA (mA m1 15) (nI k) = _ from g1, t1, Option.bind_some, Option.bind_some]; exact ⟨_, m1, mm, rfl, rfl, fin⟩
    rw [if_neg c0, if_neg c0]
    by_cases c1 : q = 1
    · rw [if_pos c1, if_pos c1, show gA (mA m1 16) (nI k) = _ from g2, t2, Option.bind_some, Option.bind_some]; exact ⟨_, m1, mm, rfl, rfl, fin⟩
    rw [if_neg c1, if_neg c1]
    by_cases c2 : q = 2
    · rw [if_pos c2, if_pos c2, show gA (mA m1 17) (nI k) = _ from g3, t3, Option.bind_some, Option.bind_some]; exact ⟨_, m1, mm, rfl, rfl, fin⟩
    rw [if_neg c2, if_neg c2]
    by_cases c3 : q = 3
    · rw [if_pos c3, if_pos c3, show gA (mA m1 18) (nI k) = _ from g4, t4, Option.bind_some, Option.bind_some]; exact ⟨_, m1, mm, rfl, rfl, fin⟩
    rw [if_neg c3, if_neg c3]
    by_cases c4 : q = 4
    · rw [if_pos c4, if_pos c4, show gA (mA m1 20) (nI k) = _ from g5, t5, Option.bind_some, Option.bind_some]
      split
      · exact ⟨_, m1, mm, rfl, rfl, fin⟩
      · exact ⟨_, m1, mm, rfl, rfl, fin⟩
    rw [if_neg c4, if_neg c4]
    by_cases c5 : q = 5
    · rw [if_pos c5, if_pos c5, m_sells hmr.1 hk hmr.2.2.2.1 hyr, bnd_some]; exact ⟨_, m1, mm, rfl, rfl, fin⟩
    rw [if_neg c5, if_neg c5]
    by_cases c6 : q = 6
    · rw [if_pos c6, if_pos c6, m_putOff hmr.1 hk hmr.2.2.2.1 hyr, bnd_some, x_putOff s2 hk, bnd_some]; exact ⟨_, m1, mm, rfl, rfl, fin⟩
    rw [if_neg c6, if_neg c6]
    by_cases c7 : q = 7
    · obtain ⟨l, hl, ht⟩ := m_takes hmr.1 hmr.2.2.2.2.2.2.2.2.1 hk hsl hmr.2.2.2.1 hyr
      rw [if_pos c7, if_pos c7, m_sells hmr.1 hk hmr.2.2.2.1 hyr, bnd_some, ht, bnd_some, x_takes a1 a3 a4 a7 hyr hk hsl a2, bnd_some]
      refine ⟨_, m1, wA mm 17 l, rfl, rfl, h.frS s4 ⟨fun _ _ _ _ _ => rfl, fun c hc => by rw [mA_wA, if_neg (by omega)], fun _ => rfl, fun _ => rfl, ?_⟩⟩
      obtain ⟨z1, z2, z3, z4, z5, z6, z7⟩ := hg.2.2.2.2.1
      exact ⟨hl, z2, z3, z4, z5, z6, z7⟩
    rw [if_neg c7, if_neg c7]
    by_cases c8 : q = 8
    · rw [if_pos c8, if_pos c8, gA_at (by rw [s3.2.1 19 (by decide), hg.1.1.2.1]; omega) (by omega), s3.2.1 19 (by decide), show (mA mx 19).getD k 0 = S.2.2.1 k from hg.1.2.1.2.2.1 k hk, gA_at (by rw [hmr.2.2.2.2.2.2.1]; omega) (by omega), hmr.2.2.2.2.2.2.2.1 k hk, Option.bind_some, Option.bind_some]; exact ⟨_, m1, mm, rfl, rfl, fin⟩
    rw [if_neg c8, if_neg c8]
    exact ⟨_, m1, mm, rfl, rfl, fin⟩
/-! quiet: bits -/
theorem bit_at : ∀ d, d < 12 → ∀ i, i < 32 → (((1 : Int32) <<< (nI d &&& 31)).toBitVec.getLsbD i = decide (i = d)) := by decide
theorem bit_inv {d i : Nat} (hd : d < 12) (hi : i < 32) : (((1 : Int32) <<< (nI d &&& 31)) ^^^ (-1)).toBitVec.getLsbD i = decide (¬ i = d) := by
  rw [Int32.toBitVec_xor, BitVec.getLsbD_xor, bit_at d hd i hi]
  have : (-1 : Int32).toBitVec.getLsbD i = true := by
    show (BitVec.allOnes 32).getLsbD i = true
    rw [BitVec.getLsbD_allOnes]; simp [hi]
  rw [this]
  by_cases e : i = d <;> simp [e]
theorem b4095 : ∀ i, i < 32 → (4095 : Int32).toBitVec.getLsbD i = decide (i < 12) := by decide
theorem sO_bit {n yr fe : Nat} {pd : Nat → Nat → Nat} {y : Int32} : ∀ {k : Nat}, k ≤ 7 → ∀ i, i < 32 → (sO n pd yr fe y k).toBitVec.getLsbD i = decide (i < k ∧ pd 4 i ≠ 0 ∧ nI (selD n pd yr fe i) = y)
  | 0, _, i, _ => by
    show (0#32).getLsbD i = _
    simp
  | k + 1, hk, i, hi => by
    have ih := sO_bit (n := n) (yr := yr) (fe := fe) (pd := pd) (y := y) (k := k) (by omega) i hi
    unfold sO
    split
    · rename_i z
      rw [Int32.toBitVec_or, BitVec.getLsbD_or, ih, bit_at k (by omega) i hi]
      by_cases e : i = k
      · subst e; simp; exact z
      · by_cases e2 : i < k
        · simp [e, e2, show i < k + 1 by omega]
        · simp [e, e2]; intro; omega
    · rename_i z
      rw [ih]
      by_cases e : i = k
      · subst e; simp; exact fun a b => z ⟨a, b⟩
      · by_cases e2 : i < k
        · simp [e2, show i < k + 1 by omega]
        · simp [e2]; intro; omega
theorem z_bits {x : Int32} : (x = 0) ↔ ∀ i, i < 32 → x.toBitVec.getLsbD i = false := by
  constructor
  · rintro rfl i _
    show (0#32).getLsbD i = false
    simp
  · intro h
    apply Int32.toBitVec_inj.mp
    apply BitVec.eq_of_getLsbD_eq
    intro i hi
    rw [h i hi]
    show _ = (0#32).getLsbD i
    simp
/-- nobody sells on d -/
def nSl (n : Nat) (pd : Nat → Nat → Nat) (yr fe d k : Nat) : Prop := ∀ p, p < k → ¬ (pd 4 p ≠ 0 ∧ selD n pd yr fe p = d)
theorem sO_0 {n yr fe d : Nat} {pd : Nat → Nat → Nat} (h : PDr n pd) (hd : d < 12) : (sO n pd yr fe (nI d) n = 0) ↔ nSl n pd yr fe d n := by
  have hn := h.1
  rw [z_bits]
  constructor
  · intro z p hp w
    have := z p (by omega)
    rw [sO_bit (by omega) p (by omega)] at this
    exact (of_decide_eq_false this) ⟨hp, w.1, congrArg nI w.2⟩
  · intro z i hi
    rw [sO_bit (by omega) i hi]
    apply decide_eq_false
    rintro ⟨w1, w2, w3⟩
    have := sel_lt (y := yr) (fs := fe) h w1
    exact z i w1 ⟨w2, (nI_eq (by omega) (by omega)).mp w3⟩
theorem ext_bits {x y : Int32} (h : ∀ i, i < 32 → x.toBitVec.getLsbD i = y.toBitVec.getLsbD i) : x = y := by
  apply Int32.toBitVec_inj.mp
  apply BitVec.eq_of_getLsbD_eq
  exact h
theorem op_quiet (h : RR mx mm) : OPe (f_X6_quiet mx) (f_X7_quiet mm) := by
  obtain ⟨W, S, hr⟩ := id h
  obtain ⟨cs, hg⟩ := RRs.rg hr
  have hn := hg.2.1.1.1
  have hmr := hg.mr
  have htw := hg.tw
  have hyr : S.2.2.2.2.1 < 2 ^ 31 := by have := hg.2.1.2.2.1; omega
  obtain ⟨m1, s1, s2, s3, s4⟩ := hg.start (due := nI (clLast 1 10 cs))
  obtain ⟨⟨a1, a2, a3, a4, a5, a6, a7, a8, a9, a10, a11, a12⟩, a13⟩ := id s2
  have hpd := a1.2.2.1
  have h0 : mI m1 896 = nI S.1 := a1.2.1
  unfold f_X6_quiet f_X7_quiet
  rw [chR_t htw.1, htw.2.1, s1, bnd_some]
  have xm : ∀ (j k : Nat) (v : Int32) (F : Nat), k + j = S.1 → j < F → (∀ i, i < 32 → (v.toBitVec.getLsbD i = true ↔ i < 12 ∧ nSl S.1 S.2.1 S.2.2.2.2.1 (clLast 3 99 cs) i k)) → ∃ r, f_X6_quiet_27 F m1 v (nI k) = some (r, m1) ∧ ∀ i, i < 32 → (r.toBitVec.getLsbD i = true ↔ i < 12 ∧ nSl S.1 S.2.1 S.2.2.2.2.1 (clLast 3 99 cs) i S.1) := by
    intro j
    induction j with
    | zero =>
      intro k v F hk hF hv
      obtain ⟨F', rfl⟩ : ∃ F', F = F' + 1 := ⟨F - 1, by omega⟩
      obtain rfl : k = S.1 := by omega
      refine ⟨v, ?_, hv⟩
      show fb_X6_quiet_27 _ _ _ _ = _
      unfold fb_X6_quiet_27
      rw [h0, if_pos (nI_le (Nat.le_refl _) (by omega))]
    | succ j ih =>
      intro k v F hk hF hv
      obtain ⟨F', rfl⟩ : ∃ F', F = F' + 1 := ⟨F - 1, by omega⟩
      have hkn : k < S.1 := by omega
      obtain ⟨r1, r2, r3, r4, r5, r6⟩ := hpd.2 k hkn
      have hsl := sel_lt (y := S.2.2.2.2.1) (fs := clLast 3 99 cs) hpd hkn
      have e44 : (mA m1 44).getD k 0 = nI (selD S.1 S.2.1 S.2.2.2.2.1 (clLast 3 99 cs) k) := a13 k hkn
      show ∃ r, fb_X6_quiet_27 _ _ _ _ = _ ∧ _
      unfold fb_X6_quiet_27
      rw [h0, if_neg (nI_ge hkn (by omega)), show gA (mA m1 20) (nI k) = _ from (a1.g hkn).2.2.2.2.1, Option.bind_some]
      by_cases c : S.2.1 4 k = 0
      · rw [if_pos ((nI_z (by omega)).mpr c), nI_1]
        refine ih (k + 1) v F' (by omega) (by omega) (fun i hi => ?_)
        rw [hv i hi]
        refine and_congr Iff.rfl ⟨fun z p hp w => ?_, fun z p hp => z p (by omega)⟩
        by_cases e : p = k
        · subst e; exact w.1 c
        · exact z p (by omega) w
      · rw [if_neg (fun z => c ((nI_z (by omega)).mp z)), gA_at (by omega) (by omega), e44, Option.bind_some, nmI_eq, nI_1]
        refine ih (k + 1) _ F' (by omega) (by omega) (fun i hi => ?_)
        rw [Int32.toBitVec_and, BitVec.getLsbD_and, bit_inv hsl hi, Bool.and_eq_true, hv i hi, decide_eq_true_eq]
        constructor
        · rintro ⟨⟨w1, w2⟩, w3⟩
          refine ⟨w1, fun p hp w => ?_⟩
          by_cases e : p = k
          · subst e; exact w3 w.2.symm
          · exact w2 p (by omega) w
        · rintro ⟨w1, w2⟩
          exact ⟨⟨w1, fun p hp => w2 p (by omega)⟩, fun z => w2 k (by omega) ⟨c, z.symm⟩⟩
  have mmn : ∀ (j k : Nat) (v : Int32) (F : Nat), k + j = 12 → j < F → (∀ i, i < 32 → (v.toBitVec.getLsbD i = true ↔ i < k ∧ nSl S.1 S.2.1 S.2.2.2.2.1 (clLast 3 99 cs) i S.1)) → ∃ r, f_X7_quiet_4 F mm v (nI k) = some (r, mm) ∧ ∀ i, i < 32 → (r.toBitVec.getLsbD i = true ↔ i < 12 ∧ nSl S.1 S.2.1 S.2.2.2.2.1 (clLast 3 99 cs) i S.1) := by
    intro j
    induction j with
    | zero =>
      intro k v F hk hF hv
      obtain ⟨F', rfl⟩ : ∃ F', F = F' + 1 := ⟨F - 1, by omega⟩
      obtain rfl : k = 12 := by omega
      refine ⟨v, ?_, hv⟩
      show fb_X7_quiet_4 _ _ _ _ = _
      unfold fb_X7_quiet_4
      rw [if_pos (show (12 : Int32) ≤ nI 12 by decide)]
    | succ j ih =>
      intro k v F hk hF hv
      obtain ⟨F', rfl⟩ : ∃ F', F = F' + 1 := ⟨F - 1, by omega⟩
      show ∃ r, fb_X7_quiet_4 _ _ _ _ = _ ∧ _
      unfold fb_X7_quiet_4
      rw [if_neg (show ¬ (12 : Int32) ≤ nI k from (nI_ge (by omega) (by decide) : ¬ nI 12 ≤ nI k)), m_sellOn hmr.1 hmr.2.2.2.1 hyr, bnd_some]
      by_cases c : nSl S.1 S.2.1 S.2.2.2.2.1 (clLast 3 99 cs) k S.1
      · rw [if_pos ((sO_0 hpd (by omega)).mpr c), nmI_eq, nI_1]
        refine ih (k + 1) _ F' (by omega) (by omega) (fun i hi => ?_)
        rw [Int32.toBitVec_or, BitVec.getLsbD_or, bit_at k (by omega) i hi, Bool.or_eq_true, hv i hi, decide_eq_true_eq]
        constructor
        · rintro (⟨w1, w2⟩ | rfl)
          · exact ⟨by omega, w2⟩
          · exact ⟨by omega, c⟩
        · rintro ⟨w1, w2⟩
          by_cases e : i = k
          · exact Or.inr e
          · exact Or.inl ⟨by omega, w2⟩
      · rw [if_neg (fun z => c ((sO_0 hpd (by omega)).mp z)), nmI_eq, or0, nI_1]
        refine ih (k + 1) _ F' (by omega) (by omega) (fun i hi => ?_)
        rw [hv i hi]
        constructor
        · rintro ⟨w1, w2⟩; exact ⟨by omega, w2⟩
        · rintro ⟨w1, w2⟩
          by_cases e : i = k
          · subst e; exact absurd w2 c
          · exact ⟨by omega, w2⟩
  obtain ⟨r, r1, r2⟩ := xm S.1 0 4095 1000 (by omega) (by omega) (fun i hi => by
    rw [b4095 i hi, decide_eq_true_eq]
    exact ⟨fun z => ⟨z, fun p hp => absurd hp (Nat.not_lt_zero p)⟩, fun z => z.1⟩)
  obtain ⟨r', q1, q2⟩ := mmn 12 0 0 1000 (by omega) (by omega) (fun i hi => by
    show (0#32).getLsbD i = true ↔ _
    simp)
  have e : r = r' := ext_bits (fun i hi => by
    have a := r2 i hi
    have b := q2 i hi
    rw [Bool.eq_iff_iff, a, b])
  rw [show (f_X6_quiet_27 1000 m1 4095 0) = _ from r1, show (f_X7_quiet_4 1000 mm 0 0) = _ from q1, e]
  exact ⟨_, m1, mm, rfl, rfl, h.frS s4 (FSM.rfl hg.2.2.2.2.1)⟩
end OPS6
