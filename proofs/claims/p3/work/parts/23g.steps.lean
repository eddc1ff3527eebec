/-! REST: a step of each -/
section RSTEP
/-- whether k changes its plan, and what is then -/
abbrev wnt (n : Nat) (pd : Nat → Nat → Nat) (cs : List CL) (dt yr k : Nat) : Prop := pd 4 k ≠ 0 ∧ gY n pd cs (nI (clLast 1 10 cs)) dt yr k < (bst (vB n pd cs (nI (clLast 1 10 cs)) dt yr 3 k) 12).2
def stp (n : Nat) (pd : Nat → Nat → Nat) (cs : List CL) (dt yr k : Nat) : Nat → Nat → Nat := if wnt n pd cs dt yr k then pdu pd 3 k (bst (vB n pd cs (nI (clLast 1 10 cs)) dt yr 3 k) 12).1 else pd
theorem x_rest_step {mx m : mM} {n : Nat} {pd : Nat → Nat → Nat} {t : Nat} {cs : List CL} {dt yr k : Nat} {y1 c q r : Int32} {K44 : mM → Int32 → Int32 → Int32 → Int32 → fR Int32} {K60 : mM → Int32 → Int32 → Int32 → Int32 → Int32 → fR Int32} (hf : FSX mx m) (h : TR m n pd t cs dt yr) (hk : k < n) : ∃ m', fb_X6_rest_60 K44 K60 m y1 c q r (nI k) = (if wnt n pd cs dt yr k then K60 m' y1 (c + 1) 0 r (nI (k + 1)) else K60 m' y1 c q r (nI (k + 1))) ∧ FSX mx m' ∧ TR m' n (stp n pd cs dt yr k) t cs dt yr := by
  have hn := h.1.2.2.1.1
  obtain ⟨r1, r2, r3, r4, r5, r6⟩ := h.1.2.2.1.2 k hk
  have g36 : ∀ {m1 : mM}, TR m1 n pd t cs dt yr → gA (mA m1 36) (nI k) = some (nI (pd 3 k)) := fun h1 => (h1.1.g hk).2.2.2.1
  unfold fb_X6_rest_60
  rw [show mI m 2048 = nI n from h.1.2.1, if_neg (nI_ge hk (by omega)), show gA (mA m 38) (nI k) = some (nI (pd 4 k)) from (h.1.g hk).2.2.2.2.1, Option.bind_some]
  by_cases c0 : pd 4 k = 0
  · have hw : ¬ wnt n pd cs dt yr k := fun z => z.1 c0
    rw [if_pos ((nI_z (by omega)).mpr c0), g36 h, Option.bind_some]
    unfold f_X6_rest_114
    rw [g36 h, Option.bind_some, if_pos rfl, nI_1]
    exact ⟨m, (if_neg hw).symm, hf, by unfold stp; rw [if_neg hw]; exact h⟩
  · obtain ⟨t1, t2, t3, t4, t5⟩ := id h.2.1
    have e : mR m 2052 = twA t := t2
    obtain ⟨m1, x1, x2, x3⟩ := x_betterPlan (due := nI (clLast 1 10 cs)) h hk
    have hf1 := hf.ft x2 x3.x.1 x3.x.2
    have hb := bst_lt (v := vB n pd cs (nI (clLast 1 10 cs)) dt yr 3 k) 12 (by decide)
    rw [if_neg (fun z => c0 ((nI_z (by omega)).mp z)), e, chR_t (twA_ok t1), show mI m (64 * twA t + 0) = nI (clLast 1 10 cs) from t4.1.1, x1, bnd_some]
    unfold f_X6_rest_114
    rw [g36 x3, Option.bind_some]
    by_cases w : gY n pd cs (nI (clLast 1 10 cs)) dt yr k < (bst (vB n pd cs (nI (clLast 1 10 cs)) dt yr 3 k) 12).2
    · have hw : wnt n pd cs dt yr k := ⟨c0, w⟩
      have l36 : (mA m1 36).length = 7 := x3.1.2.2.2.1.2.2.2.1
      have h2 := x3.set (c := 36) (f := 3) (Or.inl ⟨rfl, rfl⟩) hk hb
      rw [if_pos w, if_neg (fun z => bst_ne w ((nI_eq (by omega) (by omega)).mp z)), sA_at0 (by omega) (by omega), Option.bind_some, nI_1]
      refine ⟨wA m1 36 ((mA m1 36).set k (nI (bst (vB n pd cs (nI (clLast 1 10 cs)) dt yr 3 k) 12).1)), (if_pos hw).symm, ⟨hf1.1, fun c e1 e2 e3 => by rw [mA_wA, if_neg (by omega)]; exact hf1.2.1 c e1 e2 e3, hf1.2.2.1, hf1.2.2.2.1, ⟨h2.1.2.2.2.1, hf1.2.2.2.2.1.2⟩, h2.x.2, h2.x.1⟩, ?_⟩
      unfold stp; rw [if_pos hw]; exact h2
    · have hw : ¬ wnt n pd cs dt yr k := fun z => w z.2
      rw [if_neg w, if_pos rfl, nI_1]
      exact ⟨m1, (if_neg hw).symm, hf1, by unfold stp; rw [if_neg hw]; exact x3⟩
/-- a step of the reference -/
theorem m_rest_step {m : mM} {n : Nat} {pd : Nat → Nat → Nat} {tw : Nat} {cs : List CL} {pu : Nat → Int32} {dt yr k c q : Nat} {K32 : mM → Int32 → Int32 → Int32 → fR Int32} (h : MR m n pd tw cs (nI (clLast 1 10 cs)) pu dt yr) (hk : k < n) (hq : q < n) (hc : c < 9) : ∃ m', fb_X7_layRest_32 K32 m (nI c) (nI q) (nI k) = (if wnt n pd cs dt yr k then K32 m' (nI (c + 1)) 0 (nI ((k + 1) % n)) else K32 m' (nI c) (nI (q + 1)) (nI ((k + 1) % n))) ∧ MR m' n (stp n pd cs dt yr k) tw cs (nI (clLast 1 10 cs)) pu dt yr ∧ (∀ i, i ≠ 31 → i ≠ 32 → i ≠ 34 → i ≠ 35 → mI m' i = mI m i) ∧ (∀ d, d ≠ 4 → ¬ (17 ≤ d ∧ d ≤ 20) → mA m' d = mA m d) ∧ (∀ d, mL m' d = mL m d) ∧ (∀ i, mR m' i = mR m i) ∧ ∀ p, n ≤ p → (mA m' 4).getD p 0 = (mA m 4).getD p 0 := by
  have hn := h.1.1.2.1.1
  obtain ⟨r1, r2, r3, r4, r5, r6⟩ := h.1.1.2.1.2 k hk
  unfold fb_X7_layRest_32
  rw [h.1.1.1, if_neg (nI_ge hq (by omega)), if_neg (show ¬ (9 : Int32) ≤ nI c from (nI_ge hc (by decide) : ¬ nI 9 ≤ nI c)), (h.1.1.g hk).2.2.2.2.1, Option.bind_some]
  have still : ∀ {m1 : mM}, mI m1 0 = nI n → f_X7_layRest_67 K32 m1 (nI c) (nI q) (nI k) = K32 m1 (nI c) (nI (q + 1)) (nI ((k + 1) % n)) := by
    intro m1 h0
    unfold f_X7_layRest_67 f_X7_layRest_68
    rw [if_pos rfl]
    unfold f_X7_layRest_85
    rw [if_pos rfl]
    unfold f_X7_layRest_96
    rw [nmI_eq, if_pos rfl, Int32.add_zero, nI_1]
    unfold f_X7_layRest_110
    rw [h0, nI_1, rmI_at (by omega) (by omega) (by omega), Option.bind_some]
  by_cases c0 : pd 4 k = 0
  · have hw : ¬ wnt n pd cs dt yr k := fun z => z.1 c0
    rw [if_pos ((nI_z (by omega)).mpr c0), still h.1.1.1]
    exact ⟨m, (if_neg hw).symm, by unfold stp; rw [if_neg hw]; exact h, fun _ _ _ _ _ => rfl, fun _ _ _ => rfl, fun _ => rfl, fun _ => rfl, fun _ _ => rfl⟩
  · obtain ⟨m1, y1, y2, y3⟩ := m_wouldChange h hk
    have h1 := h.fb y2
    have hb := bst_lt (v := vB n pd cs (nI (clLast 1 10 cs)) dt yr 3 k) 12 (by decide)
    rw [if_neg (fun z => c0 ((nI_z (by omega)).mp z)), y1, bnd_some]
    by_cases w : gY n pd cs (nI (clLast 1 10 cs)) dt yr k < (bst (vB n pd cs (nI (clLast 1 10 cs)) dt yr 3 k) 12).2
    · have hw : wnt n pd cs dt yr k := ⟨c0, w⟩
      have l4 : (mA m1 4).length = 7 := h1.1.1.2.2.1.2.2.2.1
      have h2 := h1.set (c := 4) (f := 3) (Or.inl ⟨rfl, rfl⟩) hk hb
      rw [if_pos w, if_neg (show ¬ (1 : Int32) = 0 by decide)]
      unfold f_X7_layRest_68
      rw [if_neg (show ¬ (1 : Int32) = 0 by decide), y3, sA_at0 (by omega) (by omega), Option.bind_some]
      unfold f_X7_layRest_85
      rw [if_neg (show ¬ (1 : Int32) = 0 by decide)]
      unfold f_X7_layRest_96
      rw [nmI_eq, if_neg (show ¬ (1 : Int32) = 0 by decide), nI_1]
      unfold f_X7_layRest_110
      rw [show mI (wA m1 4 ((mA m1 4).set k (nI (bst (vB n pd cs (nI (clLast 1 10 cs)) dt yr 3 k) 12).1))) 0 = nI n from h1.1.1.1, nI_1, rmI_at (by omega) (by omega) (by omega), Option.bind_some]
      refine ⟨wA m1 4 ((mA m1 4).set k (nI (bst (vB n pd cs (nI (clLast 1 10 cs)) dt yr 3 k) 12).1)), (if_pos hw).symm, by unfold stp; rw [if_pos hw]; exact h2, y2.1, fun d d1 d2 => by rw [mA_wA, if_neg d1]; exact y2.2.1 d d2, y2.2.2.1, y2.2.2.2.1, fun p hp => ?_⟩
      rw [mA_wA, if_pos rfl, gd_ne (by omega), y2.2.1 4 (by decide)]
    · have hw : ¬ wnt n pd cs dt yr k := fun z => w z.2
      rw [if_neg w, if_pos rfl, still h1.1.1.1]
      exact ⟨m1, (if_neg hw).symm, by unfold stp; rw [if_neg hw]; exact h1, y2.1, fun d _ d2 => y2.2.1 d d2, y2.2.2.1, y2.2.2.2.1, fun p hp => by rw [y2.2.1 4 (by decide)]⟩
end RSTEP
