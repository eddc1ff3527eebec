/-! OPERATIONS: reckoning -/
section OPS11
variable {mx mm : mM}
def shf (pd : Nat → Nat → Nat) (d : Nat) : Nat → Nat → Nat → Nat
  | 0 => pd
  | k + 1 => pdu (shf pd d k) 3 k ((pd 3 k + d) % 12)
theorem shf_ge {pd : Nat → Nat → Nat} {d q : Nat} : ∀ {k : Nat}, k ≤ q → shf pd d k 3 q = pd 3 q
  | 0, _ => rfl
  | k + 1, h => by
    show pdu (shf pd d k) 3 k ((pd 3 k + d) % 12) 3 q = _
    unfold pdu
    rw [if_neg (fun z => by omega)]
    exact shf_ge (by omega)
theorem shf_lt {pd : Nat → Nat → Nat} {d q : Nat} : ∀ {k : Nat}, q < k → shf pd d k 3 q = (pd 3 q + d) % 12
  | 0, h => absurd h (Nat.not_lt_zero q)
  | k + 1, h => by
    show pdu (shf pd d k) 3 k ((pd 3 k + d) % 12) 3 q = _
    unfold pdu
    by_cases e : q = k
    · subst e; rw [if_pos ⟨rfl, rfl⟩]
    · rw [if_neg (fun z => e z.2)]; exact shf_lt (by omega)
theorem x_reck_lp {n : Nat} {pd : Nat → Nat → Nat} {t : Nat} {cs : List CL} {dt yr d : Nat} {B : Int32} (hd : d < 12) : ∀ (j k : Nat) (m : mM) (F : Nat), k + j = n → j < F → FSX mx m → TR m n (shf pd d k) t cs dt yr → ∃ m', f_X6_reckoning_51 F m (nI d) B (nI k) = some (gS (shf pd d n) (gY n (shf pd d n) cs (nI (clLast 1 10 cs)) dt yr) (-1) n - B, m') ∧ FSX mx m' := by
  intro j
  induction j with
  | zero =>
    intro k m F hk hF hf h
    obtain ⟨F', rfl⟩ : ∃ F', F = F' + 1 := ⟨F - 1, by omega⟩
    obtain rfl : k = n := by omega
    have hn := h.1.2.2.1.1
    obtain ⟨y0, m2, y1, y2, y3, y4⟩ := h.year
    refine ⟨m2, ?_, hf.ft y2 y3.x.1 y3.x.2⟩
    show fb_X6_reckoning_51 _ _ _ _ _ = _
    unfold fb_X6_reckoning_51
    rw [show mI m 2048 = nI k from h.1.2.1, if_pos (nI_le (Nat.le_refl _) (by omega)), chR_t y0, y1, bnd_some, x_gain y3.1 y3.x.1.1 y4, bnd_some]
  | succ j ih =>
    intro k m F hk hF hf h
    obtain ⟨F', rfl⟩ : ∃ F', F = F' + 1 := ⟨F - 1, by omega⟩
    have hn := h.1.2.2.1.1
    have hkn : k < n := by omega
    have r4 : pd 3 k < 12 := by have := (h.1.2.2.1.2 k hkn).2.2.2.1; rw [shf_ge (Nat.le_refl k)] at this; exact this
    have l36 : (mA m 36).length = 7 := h.1.2.2.2.1.2.2.2.1
    have v36 : (mA m 36).getD k 0 = nI (pd 3 k) := by have := (h.1.2.2.2.2 k hkn).2.2.2.1; rw [shf_ge (Nat.le_refl k)] at this; exact this
    have h2 : TR (wA m 36 ((mA m 36).set k (nI ((pd 3 k + d) % 12)))) n (shf pd d (k + 1)) t cs dt yr := h.set (Or.inl ⟨rfl, rfl⟩) hkn (Nat.mod_lt _ (by decide))
    have hf2 : FSX mx (wA m 36 ((mA m 36).set k (nI ((pd 3 k + d) % 12)))) := ⟨hf.1, fun c e1 e2 e3 => by rw [mA_wA, if_neg (by omega)]; exact hf.2.1 c e1 e2 e3, hf.2.2.1, hf.2.2.2.1, ⟨h2.1.2.2.2.1, hf.2.2.2.2.1.2⟩, h2.x.2, h2.x.1⟩
    show ∃ m', fb_X6_reckoning_51 _ _ _ _ _ = _ ∧ _
    unfold fb_X6_reckoning_51
    rw [show mI m 2048 = nI n from h.1.2.1, if_neg (nI_ge hkn (by omega)), gA_at (by omega) (by omega), v36, Option.bind_some, nI_add, show (12 : Int32) = nI 12 from rfl, rmI_at (by omega) (by decide) (by decide), Option.bind_some, sA_at0 (by omega) (by omega), Option.bind_some, nI_1]
    exact ih (k + 1) _ F' (by omega) (by omega) hf2 h2
section M
variable {n : Nat} {pd : Nat → Nat → Nat} {tw : Nat} {cs : List CL} {due : Int32} {pu : Nat → Int32} {dt yr d : Nat} {B X : Int32}
theorem m_reck_back {m : mM} {o : List Int32} (hd : d < 12) (hn : n ≤ 7) (h0 : mI m 0 = nI n) (lo : o.length = 7) (hpd : ∀ q, q < n → pd 3 q < 12 ∧ o.getD q 0 = nI (pd 3 q)) : ∀ (j k : Nat) (l : List Int32) (F : Nat), k + j = n → j < F → l.length = 7 → (∀ q, q < 7 → l.getD q 0 = if k ≤ q ∧ q < n then nI ((pd 3 q + d) % 12) else o.getD q 0) → f_X7_reckoning_61 F (wA m 4 l) (nI d) B X (nI k) = some (X - B, wA m 4 o) := by
  intro j
  induction j with
  | zero =>
    intro k l F hk hF hl h
    obtain ⟨F', rfl⟩ : ∃ F', F = F' + 1 := ⟨F - 1, by omega⟩
    obtain rfl : k = n := by omega
    have e : l = o := lext hl lo (fun q hq => by rw [h q hq, if_neg (by omega)])
    show fb_X7_reckoning_61 _ _ _ _ _ _ = _
    unfold fb_X7_reckoning_61
    rw [show mI (wA m 4 l) 0 = mI m 0 from rfl, h0, if_pos (nI_le (Nat.le_refl _) (by omega)), e]
  | succ j ih =>
    intro k l F hk hF hl h
    obtain ⟨F', rfl⟩ : ∃ F', F = F' + 1 := ⟨F - 1, by omega⟩
    have hkn : k < n := by omega
    obtain ⟨p1, p2⟩ := hpd k hkn
    have e12 : nI ((pd 3 k + d) % 12) + 12 - nI d = nI ((pd 3 k + d) % 12 + 12 - d) := by
      apply Int32.toInt_inj.mp
      rw [show (12 : Int32) = nI 12 from rfl, nI_add, subI (by rw [nI_toInt (by omega)]; omega) (by rw [nI_toInt (by omega)]; omega), nI_toInt (by omega), nI_toInt (by omega), nI_toInt (by omega)]
      omega
    show fb_X7_reckoning_61 _ _ _ _ _ _ = _
    unfold fb_X7_reckoning_61
    rw [show mI (wA m 4 l) 0 = mI m 0 from rfl, h0, if_neg (nI_ge hkn (by omega)), show mA (wA m 4 l) 4 = l from rfl, gA_at (by omega) (by omega), h k (by omega), if_pos ⟨Nat.le_refl k, hkn⟩, Option.bind_some, e12, show (12 : Int32) = nI 12 from rfl, rmI_at (by omega) (by decide) (by decide), Option.bind_some, show ((pd 3 k + d) % 12 + 12 - d) % 12 = pd 3 k by omega, sA_at0 (by show k < l.length; omega) (by omega), Option.bind_some, wA_wA, show mA (wA m 4 l) 4 = l from rfl, nI_1]
    refine ih (k + 1) _ F' (by omega) (by omega) (by rw [List.length_set]; exact hl) (fun q hq => ?_)
    rw [gd_set]
    by_cases e : k = q
    · subst e; rw [if_pos ⟨rfl, by omega⟩, if_neg (by omega), p2]
    · rw [if_neg (fun z => e z.1), h q hq]
      by_cases c : k ≤ q ∧ q < n
      · rw [if_pos c, if_pos (by omega)]
      · rw [if_neg c, if_neg (by omega)]
theorem m_reck_lp {m0 : mM} (hd : d < 12) (h0 : MR m0 n pd tw cs due pu dt yr) : ∀ (j k : Nat) (l : List Int32) (F : Nat), k + j = n → j < F → l.length = 7 → MR (wA m0 4 l) n (shf pd d k) tw cs due pu dt yr → (∀ q, q < 7 → n ≤ q → l.getD q 0 = (mA m0 4).getD q 0) → ∃ m', f_X7_reckoning_22 F (wA m0 4 l) (nI d) B (nI k) = some (gS (shf pd d n) (gY n (shf pd d n) cs due dt yr) (-1) n - B, m') ∧ FY m0 m' := by
  have hn := h0.1.1.2.1.1
  intro j
  induction j with
  | zero =>
    intro k l F hk hF hl h hq
    obtain ⟨F', rfl⟩ : ∃ F', F = F' + 1 := ⟨F - 1, by omega⟩
    obtain rfl : k = n := by omega
    obtain ⟨m1, r1, r2, r3⟩ := m_allMore h
    have l4 : mA m1 4 = l := by rw [r2.2.1 4 (by decide)]; rfl
    have hb := m_reck_back (m := m1) (o := mA m0 4) (pd := pd) (d := d) (B := B) (X := gS (shf pd d k) (gY k (shf pd d k) cs due dt yr) (-1) k) hd hn (by rw [r2.1 0 (by decide) (by decide)]; exact h.1.1.1) h0.1.1.2.2.1.2.2.2.1 (fun q hq => ⟨(h0.1.1.2.1.2 q hq).2.2.2.1, (h0.1.1.2.2.2 q hq).2.2.2.1⟩) k 0 l 1000 (by omega) (by omega) hl (fun q hq7 => by
      by_cases c : q < k
      · rw [if_pos ⟨Nat.zero_le _, c⟩]
        have := (h.1.1.2.2.2 q c).2.2.2.1
        rw [shf_lt c] at this; exact this
      · rw [if_neg (fun z => c z.2)]; exact hq q hq7 (by omega))
    have es : wA m1 4 l = m1 := by rw [← l4]; exact wA_self
    rw [es] at hb
    refine ⟨wA m1 4 (mA m0 4), ?_, fun i i1 i2 => r2.1 i i1 i2, fun c hc => ?_, r2.2.2.1, r2.2.2.2.1, r2.2.2.2.2⟩
    · show fb_X7_reckoning_22 _ _ _ _ _ = _
      unfold fb_X7_reckoning_22
      rw [h.1.1.1, if_pos (nI_le (Nat.le_refl _) (by omega)), r1, bnd_some]
      exact hb
    · rw [mA_wA]
      by_cases e : c = 4
      · rw [if_pos e, e]
      · rw [if_neg e, r2.2.1 c hc, mA_wA, if_neg e]
  | succ j ih =>
    intro k l F hk hF hl h hq
    obtain ⟨F', rfl⟩ : ∃ F', F = F' + 1 := ⟨F - 1, by omega⟩
    have hkn : k < n := by omega
    have r4 : pd 3 k < 12 := (h0.1.1.2.1.2 k hkn).2.2.2.1
    have v4 : l.getD k 0 = nI (pd 3 k) := by have := (h.1.1.2.2.2 k hkn).2.2.2.1; rw [shf_ge (Nat.le_refl k)] at this; exact this
    have h2 := h.set (x := (pd 3 k + d) % 12) (Or.inl ⟨rfl, rfl⟩) hkn (Nat.mod_lt _ (by decide))
    rw [wA_wA, show mA (wA m0 4 l) 4 = l from rfl] at h2
    show ∃ m', fb_X7_reckoning_22 _ _ _ _ _ = _ ∧ _
    unfold fb_X7_reckoning_22
    rw [h.1.1.1, if_neg (nI_ge hkn (by omega)), show mA (wA m0 4 l) 4 = l from rfl, gA_at (by omega) (by omega), v4, Option.bind_some, nI_add, show (12 : Int32) = nI 12 from rfl, rmI_at (by omega) (by decide) (by decide), Option.bind_some, sA_at0 (by show k < l.length; omega) (by omega), Option.bind_some, wA_wA, show mA (wA m0 4 l) 4 = l from rfl, nI_1]
    exact ih (k + 1) _ F' (by omega) (by omega) (by rw [List.length_set]; exact hl) h2 (fun q q1 q2 => by rw [gd_ne (by omega)]; exact hq q q1 q2)
end M
theorem op_reckoning (h : RR mx mm) (p : Int32) : OPe (f_X6_reckoning mx p) (f_X7_reckoning mm p) := by
  obtain ⟨W, S, hr⟩ := id h
  have hr : RRs W S mx mm := hr
  obtain ⟨cs, hg⟩ := RRs.rg hr
  unfold f_X6_reckoning f_X7_reckoning
  rw [op_isDay, bnd_some, op_in (n := 12) (in_lit (by decide) (by decide)), bnd_some]
  cases hp : inR 12 p with
  | false => exact ⟨_, mx, mm, rfl, rfl, h⟩
  | true =>
    have hn := hg.2.1.1.1
    obtain ⟨d, hd, rfl⟩ := inR_t (by decide) hp
    have htw := hg.tw
    have hmr := hg.mr
    obtain ⟨m1, x1, x2, x3, x4, x5, x6⟩ := hg.year
    have hg1 := RG.fx hr hg x2 x3
    obtain ⟨c1, c2, c3⟩ := hg1.copy
    have g : FSX mx (cpM m1 32 14) := ⟨fun k k1 k2 => (c2.1 k k1 k2).trans (x2.1 k k1 k2), fun c e1 e2 e3 => (c2.2.1 c e1 e2 e3).trans (x2.2.1 c e1 e2 e3), fun c => (c2.2.2.1 c).trans (x2.2.2.1 c), fun k k1 k2 => (c2.2.2.2.1 k k1 k2).trans (x2.2.2.2.1 k k1 k2), c2.2.2.2.2⟩
    rw [zB_t, if_neg i0, if_neg i0, chR_t htw.1, htw.2.1, x1, bnd_some, x_gain x4 x5 x6, bnd_some, c1, bnd_some]
    obtain ⟨m2, y1, y2⟩ := x_reck_lp (B := gS S.2.1 (gY S.1 S.2.1 cs (nI (clLast 1 10 cs)) S.2.2.2.1 S.2.2.2.2.1) (-1) S.1) hd S.1 0 (cpM m1 32 14) 1000 (by omega) (by omega) g c3
    obtain ⟨m3, z1, z2, z3⟩ := m_allMore hmr
    have h3 := hmr.fy z2
    obtain ⟨m4, w1, w2⟩ := m_reck_lp (B := gS S.2.1 (gY S.1 S.2.1 cs (nI (clLast 1 10 cs)) S.2.2.2.1 S.2.2.2.2.1) (-1) S.1) hd h3 S.1 0 (mA m3 4) 1000 (by omega) (by omega) h3.1.1.2.2.1.2.2.2.1 (by rw [wA_self]; exact h3) (fun _ _ _ => rfl)
    rw [wA_self] at w1
    have y1' : f_X6_reckoning_51 1000 (cpM m1 32 14) (nI d) _ 0 = _ := y1
    have w1' : f_X7_reckoning_22 1000 m3 (nI d) _ 0 = _ := w1
    rw [y1', z1, bnd_some, w1']
    exact ⟨_, m2, m4, rfl, rfl, h.frS y2 ((z2.trans w2).sm hg.2.2.2.2.1)⟩
end OPS11
