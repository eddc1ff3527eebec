/-! OPERATIONS: odds, mean -/
section OPS12
variable {mx mm : mM}
theorem rem0 {x : Int32} {c : Nat} (hc : 0 < c) (hc2 : c < 2 ^ 31) : (x % nI c = 0) ↔ c ∣ x.toInt.natAbs := by
  rw [← Int32.toInt_inj, Int32.toInt_mod, nI_toInt hc2, show (0 : Int32).toInt = 0 from rfl]
  rw [← Int.dvd_iff_tmod_eq_zero, ← Int.natAbs_dvd_natAbs]; rfl
/-- the class's fraction in lowest terms -/
theorem x_fraction {m : mM} {x q : Int32} {b : Nat} (hb : 0 < b) (hb2 : b < 100) (hq : ¬ q < 0) (hq1 : q ≤ 1) : f_X6_fraction m x (nI b) q = some ((if q = 0 then x / nI (Nat.gcd x.toInt.natAbs b) else nI b / nI (Nat.gcd x.toInt.natAbs b)).toInt64, m) := by
  unfold f_X6_fraction
  rw [if_neg (show ¬ nI b ≤ (0 : Int32) from (nI_ge hb (by omega) : ¬ nI b ≤ nI 0)), if_neg hq, if_pos hq1]
  have hg0 : 0 < Nat.gcd x.toInt.natAbs b := Nat.gcd_pos_of_pos_right _ hb
  have hgb : Nat.gcd x.toInt.natAbs b ≤ b := Nat.gcd_le_right _ hb
  have fin : f_X6_fraction_42 m x (nI b) q (nI (Nat.gcd x.toInt.natAbs b)) = some ((if q = 0 then x / nI (Nat.gcd x.toInt.natAbs b) else nI b / nI (Nat.gcd x.toInt.natAbs b)).toInt64, m) := by
    unfold f_X6_fraction_42 dvI
    rw [if_neg (nI_ne0 hg0 (by omega)), Option.bind_some]
    by_cases c : q = 0
    · rw [if_pos c, if_pos c]
    · rw [if_neg c, if_neg c, if_neg (nI_ne0 hg0 (by omega)), Option.bind_some]
  have main : ∀ (c F : Nat), 0 < c → c ≤ b → c < F → Nat.gcd x.toInt.natAbs b ≤ c → f_X6_fraction_19 F m x (nI b) q (nI c) = some ((if q = 0 then x / nI (Nat.gcd x.toInt.natAbs b) else nI b / nI (Nat.gcd x.toInt.natAbs b)).toInt64, m) := by
    intro c
    induction c with
    | zero => intro F h0; omega
    | succ c ih =>
      intro F h0 h1 hF h2
      obtain ⟨F', rfl⟩ : ∃ F', F = F' + 1 := ⟨F - 1, by omega⟩
      show fb_X6_fraction_19 _ _ _ _ _ _ = _
      unfold fb_X6_fraction_19
      by_cases e1 : c = 0
      · subst e1
        rw [if_pos (show nI (0 + 1) ≤ (1 : Int32) by decide)]
        have : Nat.gcd x.toInt.natAbs b = 0 + 1 := by omega
        rw [this] at fin ⊢; exact fin
      · rw [if_neg (show ¬ nI (c + 1) ≤ (1 : Int32) from (nI_ge (by omega) (by omega) : ¬ nI (c + 1) ≤ nI 1))]
        have next : ¬ Nat.gcd x.toInt.natAbs b = c + 1 → f_X6_fraction_19 F' m x (nI b) q (nI (c + 1) + (-1)) = some ((if q = 0 then x / nI (Nat.gcd x.toInt.natAbs b) else nI b / nI (Nat.gcd x.toInt.natAbs b)).toInt64, m) := by
          intro z
          rw [← Int32.sub_eq_add_neg, nI_pred]
          exact ih F' (by omega) (by omega) (by omega) (by omega)
        unfold rmI
        rw [if_neg (nI_ne0 (by omega) (by omega)), Option.bind_some]
        by_cases c1 : c + 1 ∣ x.toInt.natAbs
        · rw [if_pos ((rem0 (by omega) (by omega)).mpr c1), if_neg (nI_ne0 (by omega) (by omega)), Option.bind_some]
          have hbn : (nI b).toInt.natAbs = b := by rw [nI_toInt (by omega)]; rfl
          by_cases c2 : c + 1 ∣ b
          · rw [if_pos ((rem0 (by omega) (by omega)).mpr (by rw [hbn]; exact c2))]
            have hd := Nat.le_of_dvd hg0 (Nat.dvd_gcd c1 c2)
            have : Nat.gcd x.toInt.natAbs b = c + 1 := by omega
            rw [this] at fin ⊢; exact fin
          · rw [if_neg (fun z => c2 (by have := (rem0 (by omega) (by omega)).mp z; rw [hbn] at this; exact this))]
            exact next (fun z => c2 (z ▸ Nat.gcd_dvd_right _ _))
        · rw [if_neg (fun z => c1 ((rem0 (by omega) (by omega)).mp z))]
          exact next (fun z => c1 (z ▸ Nat.gcd_dvd_left _ _))
  exact main b 1000 hb (Nat.le_refl b) (by omega) hgb
theorem m_euclid {m : mM} : ∀ (F a b : Nat), a < 2 ^ 31 → b < F → b < 2 ^ 31 → f_X7_divisor_14 F m (nI a) (nI b) = some (nI (Nat.gcd a b), m)
  | 0, a, b, _, hF, _ => absurd hF (Nat.not_lt_zero b)
  | F + 1, a, b, ha, hF, hb => by
    show fb_X7_divisor_14 _ _ _ _ = _
    unfold fb_X7_divisor_14
    by_cases c : b = 0
    · subst c; rw [if_pos (show nI 0 = 0 from rfl), Nat.gcd_zero_right]
    · have hm := Nat.mod_lt a (Nat.pos_of_ne_zero c)
      rw [if_neg (nI_ne0 (by omega) hb), rmI_at ha (by omega) hb, Option.bind_some]
      show f_X7_divisor_14 F m (nI b) (nI (a % b)) = _
      rw [m_euclid F b (a % b) hb (by omega) (by omega), Nat.gcd_comm a b, Nat.gcd_rec b a, Nat.gcd_comm]
theorem m_lowest {m : mM} {x q : Int32} {b : Nat} (hb : 0 < b) (hb2 : b < 100) (hx : -2147483647 ≤ x.toInt) : f_X7_lowest m x (nI b) q = some ((if q = 0 then x / nI (Nat.gcd x.toInt.natAbs b) else nI b / nI (Nat.gcd x.toInt.natAbs b)).toInt64, m) := by
  have hg0 : 0 < Nat.gcd x.toInt.natAbs b := Nat.gcd_pos_of_pos_right _ hb
  have hgb : Nat.gcd x.toInt.natAbs b ≤ b := Nat.gcd_le_right _ hb
  have hlt := x.toInt_lt
  have i0' : (0 : Int32).toInt = 0 := rfl
  have hd : f_X7_divisor m x (nI b) = some (nI (Nat.gcd x.toInt.natAbs b), m) := by
    unfold f_X7_divisor
    by_cases c : 0 ≤ x
    · rw [if_pos c]
      rw [Int32.le_iff_toInt_le, i0'] at c
      have e : x = nI x.toInt.natAbs := by apply Int32.toInt_inj.mp; rw [nI_toInt (by omega)]; omega
      conv => lhs; rw [e]
      exact m_euclid 1000 _ b (by omega) (by omega) (by omega)
    · rw [if_neg c, nmI_eq]
      rw [Int32.le_iff_toInt_le, i0'] at c
      have e : -x = nI x.toInt.natAbs := by
        apply Int32.toInt_inj.mp
        rw [nI_toInt (by omega), Int32.toInt_neg, Int.bmod_eq_of_le (by omega) (by omega)]; omega
      rw [e]
      exact m_euclid 1000 _ b (by omega) (by omega) (by omega)
  unfold f_X7_lowest dvI
  rw [hd, bnd_some, if_neg (nI_ne0 hg0 (by omega)), Option.bind_some]
  by_cases c : q = 0
  · rw [if_pos c, if_pos c]
  · rw [if_neg c, if_neg c, if_neg (nI_ne0 hg0 (by omega)), Option.bind_some]
/-- a year's sum stays small -/
theorem gY_b {n : Nat} {pd : Nat → Nat → Nat} {cs : List CL} {dt yr p e : Nat} (hn : n ≤ 7) (h : ∀ c ∈ cs, clOk c) (hl : cs.length ≤ 10) (he : e < 100) (hp : p < n) : -960000 ≤ (gY n pd cs (nI e) dt yr p).toInt ∧ (gY n pd cs (nI e) dt yr p).toInt ≤ 960000 := by
  have := days_b (pd := pd) hn h hl he hp 12 (s := (dt, yr, fun _ => 0, fun _ => 0, 0)) (B := 0) (by decide) (by show -0 ≤ (0 : Int32).toInt ∧ (0 : Int32).toInt ≤ 0; decide)
  unfold gY
  omega
theorem gS_b {pd : Nat → Nat → Nat} {g : Nat → Int32} {y : Int32} {n : Nat} (hn : n ≤ 7) (hg : ∀ p, p < n → -960000 ≤ (g p).toInt ∧ (g p).toInt ≤ 960000) : ∀ k, k ≤ n → -(960000 * (k : Int)) ≤ (gS pd g y k).toInt ∧ (gS pd g y k).toInt ≤ 960000 * (k : Int)
  | 0, _ => by show _ ≤ (0 : Int32).toInt ∧ (0 : Int32).toInt ≤ _; decide
  | k + 1, h => by
    have ih := gS_b (pd := pd) (y := y) hn hg k (by omega)
    have hk := hg k (by omega)
    unfold gS
    split
    · omega
    · rw [addI (by omega) (by omega)]; omega
end OPS12
