/-! REST: a step of each -/
section RSTEP
/-- whether k changes its plan, and what is then -/
abbrev wnt (n : Nat) (pd : Nat → Nat → Nat) (cs : List CL) (dt yr k : Nat) : Prop := pd 4 k ≠ 0 ∧ gY n pd cs (nI (clLast 1 10 cs)) dt yr k < (bst (vB n pd cs (nI (clLast 1 10 cs)) dt yr 3 k) 12).2
def stp (n : Nat) (pd : Nat → Nat → Nat) (cs : List CL) (dt yr k : Nat) : Nat → Nat → Nat := if wnt n pd cs dt yr k then pdu pd 3 k (bst (vB n pd cs (nI (clLast 1 10 cs)) dt yr 3 k) 12).1 else pd
theorem x_rest_step {mx m : mM} {n : Nat} {pd : Nat → Nat → Nat} {t : Nat} {cs : List CL} {dt yr k : Nat} {y1 c q r : Int32} {K44 : mM → Int32 → Int32 → Int32 → Int32 → fR Int32} {K60 : mM → Int32 → Int32 → Int32 → Int32 → Int32 → fR Int32} (hf : FSX mx m) (h : TR m n pd t cs dt yr) (hk : k < n) : ∃ m', fb_X6_rest_60 K44 K60 m y1 c q r (nI k) = (if wnt n pd cs dt yr k then K60 m' y1 (c + 1) 0 r (nI (k + 1)) else K60 m' y1 c q r (nI (k + 1))) ∧ FSX mx m' ∧ TR m' n (stp n pd cs dt yr k) t cs dt yr := by
  have hn := h.1.2.2.1.1
  obtain ⟨r1, r2, r3, r4, r5, r6⟩ := h.1.2.2.1.2 k hk
  have g36 : ∀ {m1 : mM}, TR m1 n pd t cs dt yr → gA (mA m1 36) (nI k) = some (nI (pd 3 k)) := fun h1 => (h1.1.g hk).2.2.2.1
  unfold fb_X6_rest_60
  rw [show mI m 2048 = nI n from h.1.2.1, if_neg (nI_ge hk (by omega)), show gA (mA m 38) (nI k) = some (nI (pd 4 k)) from (h.1.g hk).2.2.2.2.1, Option.bind_some]
  by_cases c0 : pd 4 k = 0
  · have hw : ¬ wnt n pd cs dt yr k := fun z => z.1 c0
    rw [if_pos ((nI_z (by omega)).mpr c0), g36 h, Option.bind_some]
    unfold f_X6_rest_114
    rw [g36 h, Option.bind_some, if_pos rfl, nI_1]
    exact ⟨m, (if_neg hw).symm, hf, by unfold stp; rw [if_neg hw]; exact h⟩
  · obtain ⟨t1, t2, t3, t4, t5⟩ := id h.2.1
    have e : mR m 2052 = twA t := t2
    obtain ⟨m1, x1, x2, x3⟩ := x_betterPlan (due := nI (clLast 1 10 cs)) h hk
    have hf1 := hf.ft x2 x3.x.1 x3.x.2
    have hb := bst_lt (v := vB n pd cs (nI (clLast 1 10 cs)) dt yr 3 k) 12 (by decide)
    rw [if_neg (fun z => c0 ((nI_z (by omega)).mp z)), e, chR_t (twA_ok t1), show mI m (64 * twA t + 0) = nI (clLast 1 10 cs) from t4.1.1, x1, bnd_some]
    unfold f_X6_rest_114
    rw [g36 x3, Option.bind_some]
    by_cases w : gY n pd cs (nI (clLast 1 10 cs)) dt yr k < (bst (vB n pd cs (nI (clLast 1 10 cs)) dt yr 3 k) 12).2
    · have hw : wnt n pd cs dt yr k := ⟨c0, w⟩
      have l36 : (mA m1 36).length = 7 := x3.1.2.2.2.1.2.2.2.1
      have h2 := x3.set (c := 36) (f := 3) (Or.inl ⟨rfl, rfl⟩) hk hb
      rw [if_pos w, if_neg (fun z => bst_ne w ((nI_eq (by omega) (by omega)).mp z)), sA_at0 (by omega) (by omega), Option.bind_some, nI_1]
      refine ⟨wA m1 36 ((mA m1 36).set k (nI (bst (vB n pd cs (nI (clLast 1 10 cs)) dt yr 3 k) 12).1)), (if_pos hw).symm, ⟨hf1.1, fun c e1 e2 e3 => by rw [mA_wA, if_neg (by omega)]; exact hf1.2.1 c e1 e2 e3, hf1.2.2.1, hf1.2.2.2.1, ⟨h2.1.2.2.2.1, hf1.2.2.2.2.1.2⟩, h2.x.2, h2.x.1⟩, ?_⟩
      unfold stp; rw [if_pos hw]; exact h2
    · have hw : ¬ wnt n pd cs dt yr k := fun z => w z.2
      rw [if_neg w, if_pos rfl, nI_1]
      exact ⟨m1, (if_neg hw).symm, hf1, by unfold stp; rw [if_neg hw]; exact x3⟩
end RSTEP
