/-! THE BEST DAY OF TWELVE: tryDays and layBest -/
section BEST
/-- the first that is most, and what it is -/
def bst (v : Nat → Int32) : Nat → Nat × Int32
  | 0 => (0, v 0)
  | k + 1 => if (bst v k).2 < v k then (k, v k) else bst v k
theorem bst_le {v : Nat → Int32} : ∀ k, (bst v k).1 ≤ k
  | 0 => Nat.le_refl _
  | k + 1 => by
    have := bst_le (v := v) k
    unfold bst
    split
    · exact Nat.le_succ k
    · omega
theorem bst_v {v : Nat → Int32} : ∀ k, (bst v k).2 = v (bst v k).1
  | 0 => rfl
  | k + 1 => by
    unfold bst
    split
    · rfl
    · exact bst_v k
theorem bst_1 {v : Nat → Int32} : bst v 1 = (0, v 0) := by
  exact if_neg (fun z : v 0 < v 0 => by rw [Int32.lt_iff_toInt_lt] at z; omega)
theorem bst_lt {v : Nat → Int32} : ∀ k, 0 < k → (bst v k).1 < k
  | 0, h => absurd h (Nat.lt_irrefl 0)
  | k + 1, _ => by
    have := bst_le (v := v) k
    unfold bst
    split
    · exact Nat.lt_succ_self k
    · show (bst v k).1 < k + 1; omega
theorem pdu_pdu {pd : Nat → Nat → Nat} {f p a b : Nat} : pdu (pdu pd f p a) f p b = pdu pd f p b := by
  funext f' p'
  unfold pdu
  split
  · rfl
  · rfl
theorem pdu_self {pd : Nat → Nat → Nat} {f p : Nat} : pdu pd f p (pd f p) = pd := by
  funext f' p'
  unfold pdu
  split
  · rename_i z; rw [z.1, z.2]
  · rfl
theorem set_self {l : List Int32} {p : Nat} : l.set p (l.getD p 0) = l := by
  refine lext (n := l.length) (by rw [List.length_set]) rfl (fun i hi => ?_)
  rw [gd_set]
  by_cases e : p = i
  · subst e; rw [if_pos ⟨rfl, hi⟩]
  · rw [if_neg (fun z => e z.1)]
/-- what a day x for p would give it -/
def vB (n : Nat) (pd : Nat → Nat → Nat) (cs : List CL) (due : Int32) (dt yr f p : Nat) : Nat → Int32 := fun x => gY n (pdu pd f p x) cs due dt yr p
section M
variable {m : mM} {n : Nat} {pd : Nat → Nat → Nat} {tw : Nat} {cs : List CL} {due : Int32} {pu : Nat → Int32} {dt yr : Nat}
theorem MR.set {c f p x : Nat} (h : MR m n pd tw cs due pu dt yr) (hc : (c = 4 ∧ f = 3) ∨ (c = 3 ∧ f = 2)) (hp : p < n) (hx : x < 12) : MR (wA m c ((mA m c).set p (nI x))) n (pdu pd f p x) tw cs due pu dt yr := by
  obtain ⟨⟨⟨h1, h2, h3, h4⟩, hM⟩, a2, a3, a4, a5, a6, a7⟩ := h
  rcases hc with ⟨rfl, rfl⟩ | ⟨rfl, rfl⟩
  · exact ⟨⟨⟨h1, h2.upd hx, h3.plan, h4.plan h3 h2.1 hp⟩, hM⟩, a2, a3, a4, a5, a6, a7⟩
  · exact ⟨⟨⟨h1, h2.upd hx, h3.born, h4.born h3 h2.1 hp⟩, hM⟩, a2, a3, a4, a5, a6, a7⟩
/-- frame of the best laid -/
def FB (m m' : mM) : Prop := (∀ k, k ≠ 31 → k ≠ 32 → k ≠ 34 → k ≠ 35 → mI m' k = mI m k) ∧ (∀ c, ¬ (17 ≤ c ∧ c ≤ 20) → mA m' c = mA m c) ∧ (∀ c, mL m' c = mL m c) ∧ (∀ k, mR m' k = mR m k) ∧ (mA m' 17).length = 100 ∧ (mA m' 18).length = 7 ∧ (mA m' 19).length = 7 ∧ (mA m' 20).length = 7
theorem FB.sm {m' : mM} (h : FB m m') (hc : R_scM m) : FSM m m' := ⟨h.1, fun c h1 => h.2.1 c (by omega), h.2.2.1, h.2.2.2.1, h.2.2.2.2.1, h.2.2.2.2.2.1, h.2.2.2.2.2.2.1, h.2.2.2.2.2.2.2, by rw [h.2.1 21 (by omega)]; exact hc.2.2.2.2.1, by rw [h.2.1 22 (by omega)]; exact hc.2.2.2.2.2.1, by rw [h.1 27 (by decide) (by decide) (by decide) (by decide)]; exact hc.2.2.2.2.2.2⟩
theorem m_layBest {p c f : Nat} {y2 : Int32} (h : MR m n pd tw cs due pu dt yr) (hp : p < n) (hc : (c = 4 ∧ f = 3 ∧ y2 = 0) ∨ (c = 3 ∧ f = 2 ∧ y2 = 1)) : ∃ m', f_X7_layBest m (nI p) y2 = some ((), m') ∧ FB m m' ∧ mI m' 34 = nI (bst (vB n pd cs due dt yr f p) 12).1 ∧ mI m' 35 = (bst (vB n pd cs due dt yr f p) 12).2 := by
  have hn := h.1.1.2.1.1
  have hcf : (c = 4 ∧ f = 3) ∨ (c = 3 ∧ f = 2) := by rcases hc with z | z; exact Or.inl ⟨z.1, z.2.1⟩; exact Or.inr ⟨z.1, z.2.1⟩
  have hc17 : ¬ (17 ≤ c ∧ c ≤ 20) := by omega
  have len : ∀ {m1 : mM} {pd1 : Nat → Nat → Nat}, MR m1 n pd1 tw cs due pu dt yr → (mA m1 c).length = 7 := by
    intro m1 pd1 h1
    have hs := h1.1.1.2.2.1
    rcases hcf with ⟨rfl, -⟩ | ⟨rfl, -⟩
    · exact hs.2.2.2.1
    · exact hs.2.2.1
  have main : ∀ (j k : Nat) (m1 : mM) (pd1 : Nat → Nat → Nat) (F : Nat), k + j = 12 → j < F → MR m1 n pd1 tw cs due pu dt yr → (∀ x, pdu pd1 f p x = pdu pd f p x) → (∀ x, (mA m1 c).set p x = (mA m c).set p x) → (∀ k, k ≠ 31 → k ≠ 32 → k ≠ 34 → k ≠ 35 → mI m1 k = mI m k) → (∀ d, d ≠ c → ¬ (17 ≤ d ∧ d ≤ 20) → mA m1 d = mA m d) → (∀ d, mL m1 d = mL m d) → (∀ k, mR m1 k = mR m k) → (0 < k → mI m1 34 = nI (bst (vB n pd cs due dt yr f p) k).1 ∧ mI m1 35 = (bst (vB n pd cs due dt yr f p) k).2) → ∃ m', f_X7_layBest_23 F m1 (nI p) y2 ((mA m c).getD p 0) (nI k) = some ((), m') ∧ FB m m' ∧ mI m' 34 = nI (bst (vB n pd cs due dt yr f p) 12).1 ∧ mI m' 35 = (bst (vB n pd cs due dt yr f p) 12).2 := by
    intro j
    induction j with
    | zero =>
      intro k m1 pd1 F hk hF h1 e1 e2 f1 f2 f3 f4 hb
      obtain ⟨F', rfl⟩ : ∃ F', F = F' + 1 := ⟨F - 1, by omega⟩
      obtain rfl : k = 12 := by omega
      have hl := len h1
      obtain ⟨b1, b2⟩ := hb (by decide)
      have es : (mA m1 c).set p ((mA m c).getD p 0) = mA m c := by rw [e2]; exact set_self
      refine ⟨wA m1 c (mA m c), ?_, ⟨f1, fun d hd => ?_, f3, f4, ?_⟩, b1, b2⟩
      · show fb_X7_layBest_23 _ _ _ _ _ _ = _
        unfold fb_X7_layBest_23
        rw [if_pos (show (12 : Int32) ≤ nI 12 by decide)]
        rcases hc with ⟨rfl, rfl, rfl⟩ | ⟨rfl, rfl, rfl⟩
        · rw [if_pos rfl, sA_at0 (by omega) (by omega), Option.bind_some, es]
        · rw [if_neg (by decide), sA_at0 (by omega) (by omega), Option.bind_some, es]
      · rw [mA_wA]
        by_cases e : d = c
        · rw [if_pos e, e]
        · rw [if_neg e]; exact f2 d e hd
      · have := h1.2.2.2.2.2.2.2.2
        rw [mA_wA, if_neg (by omega), mA_wA, if_neg (by omega), mA_wA, if_neg (by omega), mA_wA, if_neg (by omega)]; exact this
    | succ j ih =>
      intro k m1 pd1 F hk hF h1 e1 e2 f1 f2 f3 f4 hb
      obtain ⟨F', rfl⟩ : ∃ F', F = F' + 1 := ⟨F - 1, by omega⟩
      have hl := len h1
      have h2 := h1.set hcf hp (x := k) (by omega)
      obtain ⟨m2, r1, r2, r3⟩ := m_layYear h2
      have ev : gY n (pdu pd1 f p k) cs due dt yr p = vB n pd cs due dt yr f p k := by rw [e1]; rfl
      have hy : f_X7_yearOf (wA m1 c ((mA m1 c).set p (nI k))) (nI p) = some (vB n pd cs due dt yr f p k, m2) := by
        unfold f_X7_yearOf
        rw [r1, bnd_some, gA_at (by rw [r2.2.2.2.2.2.2.2]; omega) (by omega), r3 p hp, Option.bind_some, ev]
      have h3 := h2.fy r2
      have g1 : ∀ i, i ≠ 31 → i ≠ 32 → mI m2 i = mI m1 i := fun i z1 z2 => r2.1 i z1 z2
      have g2 : ∀ d, d ≠ c → ¬ (17 ≤ d ∧ d ≤ 20) → mA m2 d = mA m1 d := fun d z1 z2 => by rw [r2.2.1 d z2, mA_wA, if_neg z1]
      have g2c : mA m2 c = (mA m1 c).set p (nI k) := by rw [r2.2.1 c hc17, mA_wA, if_pos rfl]
      have E1 : ∀ x, pdu (pdu pd1 f p k) f p x = pdu pd f p x := fun x => by rw [pdu_pdu, e1]
      have E2 : ∀ x, (mA m2 c).set p x = (mA m c).set p x := fun x => by rw [g2c, List.set_set, e2]
      have fin : ∃ m', f_X7_layBest_53 (fun m y1 y2 y3 y4 => f_X7_layBest_23 F' m y1 y2 y3 y4) (wA m1 c ((mA m1 c).set p (nI k))) (nI p) y2 ((mA m c).getD p 0) (nI k) = some ((), m') ∧ FB m m' ∧ mI m' 34 = nI (bst (vB n pd cs due dt yr f p) 12).1 ∧ mI m' 35 = (bst (vB n pd cs due dt yr f p) 12).2 := by
        unfold f_X7_layBest_53
        rw [hy, bnd_some]
        have new : bst (vB n pd cs due dt yr f p) (k + 1) = (k, vB n pd cs due dt yr f p k) → ∃ m', f_X7_layBest_77 (fun m y1 y2 y3 y4 => f_X7_layBest_23 F' m y1 y2 y3 y4) m2 (nI p) y2 ((mA m c).getD p 0) (nI k) (vB n pd cs due dt yr f p k) = some ((), m') ∧ FB m m' ∧ mI m' 34 = nI (bst (vB n pd cs due dt yr f p) 12).1 ∧ mI m' 35 = (bst (vB n pd cs due dt yr f p) 12).2 := by
          intro hz
          unfold f_X7_layBest_77
          rw [nmM_eq, nmM_eq, nI_1]
          refine ih (k + 1) (wI (wI m2 34 (nI k)) 35 (vB n pd cs due dt yr f p k)) (pdu pd1 f p k) F' (by omega) (by omega) h3 E1 E2 (fun i z1 z2 z3 z4 => ?_) (fun d z1 z2 => ?_) (fun d => (r2.2.2.1 d).trans (f3 d)) (fun i => (r2.2.2.2.1 i).trans (f4 i)) (fun _ => by rw [hz]; exact ⟨rfl, rfl⟩)
          · rw [mI_wI, if_neg z4, mI_wI, if_neg z3, g1 i z1 z2]; exact f1 i z1 z2 z3 z4
          · exact (g2 d z1 z2).trans (f2 d z1 z2)
        by_cases c0 : k = 0
        · subst c0
          rw [if_pos (show nI 0 ≤ (0 : Int32) by decide)]
          exact new bst_1
        · rw [if_neg (show ¬ nI k ≤ (0 : Int32) from (nI_ge (by omega) (by omega) : ¬ nI k ≤ nI 0)), g1 35 (by decide) (by decide), (hb (by omega)).2]
          by_cases c1 : (bst (vB n pd cs due dt yr f p) k).2 < vB n pd cs due dt yr f p k
          · rw [if_pos c1]; exact new (if_pos c1)
          · rw [if_neg c1, nI_1]
            have hz : bst (vB n pd cs due dt yr f p) (k + 1) = bst (vB n pd cs due dt yr f p) k := if_neg c1
            refine ih (k + 1) m2 (pdu pd1 f p k) F' (by omega) (by omega) h3 E1 E2 (fun i z1 z2 z3 z4 => (g1 i z1 z2).trans (f1 i z1 z2 z3 z4)) (fun d z1 z2 => (g2 d z1 z2).trans (f2 d z1 z2)) (fun d => (r2.2.2.1 d).trans (f3 d)) (fun i => (r2.2.2.2.1 i).trans (f4 i)) (fun _ => ?_)
            rw [hz, g1 34 (by decide) (by decide), g1 35 (by decide) (by decide)]; exact hb (by omega)
      show ∃ m', fb_X7_layBest_23 _ _ _ _ _ _ = _ ∧ _
      unfold fb_X7_layBest_23
      rw [if_neg (show ¬ (12 : Int32) ≤ nI k from (nI_ge (by omega) (by decide) : ¬ nI 12 ≤ nI k))]
      rcases hc with ⟨rfl, rfl, rfl⟩ | ⟨rfl, rfl, rfl⟩
      · rw [if_pos rfl, sA_at0 (by omega) (by omega), Option.bind_some]; exact fin
      · rw [if_neg (by decide), sA_at0 (by omega) (by omega), Option.bind_some]; exact fin
  unfold f_X7_layBest
  have hl := len h
  have r := main 12 0 m pd 1000 (by omega) (by omega) h (fun _ => rfl) (fun _ => rfl) (fun _ _ _ _ _ => rfl) (fun _ _ _ => rfl) (fun _ => rfl) (fun _ => rfl) (fun z => absurd z (Nat.lt_irrefl 0))
  rcases hc with ⟨rfl, rfl, rfl⟩ | ⟨rfl, rfl, rfl⟩
  · rw [if_pos rfl, gA_at (by omega) (by omega), Option.bind_some]; exact r
  · rw [if_neg (by decide), gA_at (by omega) (by omega), Option.bind_some]; exact r
end M
/-! the class's -/
section X
variable {m : mM} {n : Nat} {pd : Nat → Nat → Nat} {t : Nat} {cs : List CL} {due : Int32} {dt yr : Nat}
theorem TXr.fr2 {m' : mM} {c c' : Nat} (h : TXr m c t cs) (hR : mR m' (64 * c' + 4) = mR m (64 * c + 4)) (hI : ∀ k, (512 ≤ k ∧ k < 576) ∨ (2944 ≤ k ∧ k < 5248) → mI m' k = mI m k) (hA2 : ∀ c, (8 ≤ c ∧ c < 14) ∨ (46 ≤ c ∧ c < 82) → mA m' c = mA m c) : TXr m' c' t cs := by
  obtain ⟨h1, h2, h3, h4, h5⟩ := h
  have hb := twA_b h1
  have hA : ∀ k, k < 6 → mA m' (twA t + k) = mA m (twA t + k) := fun k hk => hA2 _ (by omega)
  have hI : ∀ k, k < 6 → mI m' (64 * twA t + k) = mI m (64 * twA t + k) := fun k hk => hI _ (by omega)
  refine ⟨h1, by rw [hR]; exact h2, ?_, ?_, h5⟩
  · unfold TXh at h3 ⊢
    rw [hA 1 (by omega), hA 2 (by omega), hA 3 (by omega), hA 4 (by omega), hA 5 (by omega)]; exact h3
  · unfold TXe at h4 ⊢
    rw [hI 0 (by omega), hI 1 (by omega), hI 2 (by omega), hI 3 (by omega), hA 1 (by omega), hA 2 (by omega), hA 3 (by omega), hA 4 (by omega), hA 5 (by omega)]; exact h4
/-- the trial state -/
def TR (m : mM) (n : Nat) (pd : Nat → Nat → Nat) (t : Nat) (cs : List CL) (dt yr : Nat) : Prop := PXr m 32 n pd ∧ TXr m 32 t cs ∧ XR0 m ∧ mI m 2049 = nI dt ∧ dt < 12 ∧ mI m 2050 = nI yr ∧ yr ≤ 999 ∧ (mA m 1).length = 12
theorem TR.fr {m' : mM} (h : TR m n pd t cs dt yr) (f : FX m m') (h0 : XR0 m') : TR m' n pd t cs dt yr := by
  obtain ⟨a1, a2, a3, a4, a5, a6, a7, a8⟩ := h
  exact ⟨a1.fr f, a2.fr a1.1 f, h0, by rw [f.1 _ (by omega)]; exact a4, a5, by rw [f.1 _ (by omega)]; exact a6, a7, by rw [f.2.1 1 (by omega)]; exact a8⟩
theorem TR.set {c f p x : Nat} (h : TR m n pd t cs dt yr) (hc : (c = 36 ∧ f = 3) ∨ (c = 35 ∧ f = 2)) (hp : p < n) (hx : x < 12) : TR (wA m c ((mA m c).set p (nI x))) n (pdu pd f p x) t cs dt yr := by
  obtain ⟨⟨h0, h1, h2, h3, h4⟩, a2, a3, a4, a5, a6, a7, a8⟩ := h
  have hT : TXr (wA m c ((mA m c).set p (nI x))) 32 t cs := a2.fr2 rfl (fun _ _ => rfl) (fun d hd => by rw [mA_wA, if_neg (by omega)])
  rcases hc with ⟨rfl, rfl⟩ | ⟨rfl, rfl⟩
  · exact ⟨⟨h0, h1, h2.upd hx, h3.plan, h4.plan h3 h2.1 hp⟩, hT, a3, a4, a5, a6, a7, a8⟩
  · exact ⟨⟨h0, h1, h2.upd hx, h3.born, h4.born h3 h2.1 hp⟩, hT, a3, a4, a5, a6, a7, a8⟩
theorem TR.yields {l : List Int32} (h : TR m n pd t cs dt yr) (hl : l.length = 12) : TR (wA m 1 l) n pd t cs dt yr := by
  obtain ⟨⟨h0, h1, h2, h3, h4⟩, a2, a3, a4, a5, a6, a7, a8⟩ := h
  exact ⟨⟨h0, h1, h2, h3, h4⟩, a2.fr2 rfl (fun _ _ => rfl) (fun d hd => by rw [mA_wA, if_neg (by omega)]), a3, a4, a5, a6, a7, hl⟩
/-- frame of trials -/
def FT (m m' : mM) : Prop := (∀ k, ¬ (2624 ≤ k ∧ k < 2688) → mI m' k = mI m k) ∧ (∀ c, c ≠ 1 → ¬ (42 ≤ c ∧ c ≤ 45) → mA m' c = mA m c) ∧ (∀ c, mL m' c = mL m c) ∧ (∀ k, k ≠ 2624 → mR m' k = mR m k)
theorem x_tryDays {p c f : Nat} (h : TR m n pd t cs dt yr) (hp : p < n) (hc : (c = 36 ∧ f = 3) ∨ (c = 35 ∧ f = 2)) : ∃ m', f_X6_tryDays m c (nI p) due = some ((), m') ∧ FT m m' ∧ TR m' n pd t cs dt yr ∧ ∀ x, x < 12 → (mA m' 1).getD x 0 = vB n pd cs due dt yr f p x := by
  have hn := h.1.2.2.1.1
  have len : ∀ {m1 : mM} {pd1 : Nat → Nat → Nat}, TR m1 n pd1 t cs dt yr → (mA m1 c).length = 7 := by
    intro m1 pd1 h1
    have hs := h1.1.2.2.2.1
    rcases hc with ⟨rfl, -⟩ | ⟨rfl, -⟩
    · exact hs.2.2.2.1
    · exact hs.2.2.1
  have val : ∃ z, z < 12 ∧ (mA m c).getD p 0 = nI z ∧ pdu pd f p z = pd := by
    obtain ⟨r1, r2, r3, r4, r5, r6⟩ := h.1.2.2.1.2 p hp
    obtain ⟨g1, g2, g3, g4, g5, g6⟩ := h.1.2.2.2.2 p hp
    rcases hc with ⟨rfl, rfl⟩ | ⟨rfl, rfl⟩
    · exact ⟨_, r4, g4, pdu_self⟩
    · exact ⟨_, r3, g3, pdu_self⟩
  have main : ∀ (j k : Nat) (m1 : mM) (pd1 : Nat → Nat → Nat) (F : Nat), k + j = 12 → j < F → TR m1 n pd1 t cs dt yr → (∀ x, pdu pd1 f p x = pdu pd f p x) → (∀ x, (mA m1 c).set p x = (mA m c).set p x) → (∀ k, ¬ (2624 ≤ k ∧ k < 2688) → mI m1 k = mI m k) → (∀ d, d ≠ 1 → d ≠ c → ¬ (42 ≤ d ∧ d ≤ 45) → mA m1 d = mA m d) → (∀ d, mL m1 d = mL m d) → (∀ k, k ≠ 2624 → mR m1 k = mR m k) → (∀ x, x < k → (mA m1 1).getD x 0 = vB n pd cs due dt yr f p x) → ∃ m', f_X6_tryDays_8 F m1 c (nI p) due ((mA m c).getD p 0) (nI k) = some ((), m') ∧ FT m m' ∧ TR m' n pd t cs dt yr ∧ ∀ x, x < 12 → (mA m' 1).getD x 0 = vB n pd cs due dt yr f p x := by
    intro j
    induction j with
    | zero =>
      intro k m1 pd1 F hk hF h1 e1 e2 f1 f2 f3 f4 hb
      obtain ⟨F', rfl⟩ : ∃ F', F = F' + 1 := ⟨F - 1, by omega⟩
      obtain rfl : k = 12 := by omega
      have hl := len h1
      obtain ⟨z, hz, ez, ep⟩ := val
      have es : (mA m1 c).set p (nI z) = mA m c := by rw [e2, ← ez]; exact set_self
      have h2 := h1.set hc hp hz
      rw [e1, ep] at h2
      refine ⟨wA m1 c ((mA m1 c).set p (nI z)), ?_, ⟨f1, fun d d1 d2 => ?_, f3, f4⟩, h2, fun x hx => ?_⟩
      · show fb_X6_tryDays_8 _ _ _ _ _ _ _ = _
        unfold fb_X6_tryDays_8
        rw [if_pos (show (12 : Int32) ≤ nI 12 by decide), ez, sA_at0 (by omega) (by omega), Option.bind_some]
      · rw [mA_wA]
        by_cases e : d = c
        · rw [if_pos e, es, e]
        · rw [if_neg e]; exact f2 d d1 e d2
      · rw [mA_wA, if_neg (by omega)]; exact hb x hx
    | succ j ih =>
      intro k m1 pd1 F hk hF h1 e1 e2 f1 f2 f3 f4 hb
      obtain ⟨F', rfl⟩ : ∃ F', F = F' + 1 := ⟨F - 1, by omega⟩
      have hl := len h1
      have h2 := h1.set hc hp (x := k) (by omega)
      obtain ⟨a1, a2, a3, a4, a5, a6, a7, a8⟩ := id h2
      obtain ⟨m2, r1, r2, r3, r4⟩ := x_goYear (due := due) a1 a2 a3 a4 a5 a6 (by omega)
      have hg : ∃ m', f_X1_start (wA m1 c ((mA m1 c).set p (nI k))) 32 due = some ((), m') ∧ f_X1_go m' 12 = some ((), m2) := by
        unfold f_X6_goYear at r1
        cases hs : f_X1_start (wA m1 c ((mA m1 c).set p (nI k))) 32 due with
        | none => rw [hs] at r1; cases r1
        | some q =>
          obtain ⟨u, m'⟩ := q
          rw [hs, bnd_some] at r1
          cases hs2 : f_X1_go m' 12 with
          | none => rw [hs2] at r1; cases r1
          | some q2 =>
            obtain ⟨u2, m''⟩ := q2
            rw [hs2, bnd_some] at r1
            have : m'' = m2 := by injection r1 with r1; exact congrArg Prod.snd r1
            exact ⟨m', rfl, by rw [hs2, this]⟩
      obtain ⟨m', q1, q2⟩ := hg
      have ev : gY n (pdu pd1 f p k) cs due dt yr p = vB n pd cs due dt yr f p k := by rw [e1]; rfl
      have h3 := h2.fr r2 r3
      have hl1 : (mA m2 1).length = 12 := h3.2.2.2.2.2.2.2
      have h4 := h3.yields (l := (mA m2 1).set k (vB n pd cs due dt yr f p k)) (by rw [List.length_set]; exact hl1)
      have g2c : mA m2 c = (mA m1 c).set p (nI k) := by rw [r2.2.1 c (by omega), mA_wA, if_pos rfl]
      show ∃ m', fb_X6_tryDays_8 _ _ _ _ _ _ _ = _ ∧ _
      unfold fb_X6_tryDays_8
      rw [if_neg (show ¬ (12 : Int32) ≤ nI k from (nI_ge (by omega) (by decide) : ¬ nI 12 ≤ nI k)), sA_at0 (by omega) (by omega), Option.bind_some, q1, bnd_some, q2, bnd_some, gA_at (by rw [r3.1]; omega) (by omega), r4 p hp, ev, Option.bind_some, sA_at0 (by omega) (by omega), Option.bind_some, nI_1]
      refine ih (k + 1) _ (pdu pd1 f p k) F' (by omega) (by omega) h4 (fun x => by rw [pdu_pdu, e1]) (fun x => ?_) (fun i hi => ?_) (fun d d1 d2 d3 => ?_) (fun d => (r2.2.2.1 d).trans (f3 d)) (fun i hi => (r2.2.2.2 i hi).trans (f4 i hi)) (fun x hx => ?_)
      · rw [mA_wA, if_neg (by omega), g2c, List.set_set, e2]
      · exact (r2.1 i hi).trans (f1 i hi)
      · rw [mA_wA, if_neg d1, r2.2.1 d d3, mA_wA, if_neg d2]; exact f2 d d1 d2 d3
      · rw [mA_wA, if_pos rfl, gd_set]
        by_cases e : k = x
        · subst e; rw [if_pos ⟨rfl, by omega⟩]
        · rw [if_neg (fun z => e z.1), r2.2.1 1 (by decide), mA_wA, if_neg (by omega)]; exact hb x (by omega)
  unfold f_X6_tryDays
  have hl := len h
  rw [gA_at (by omega) (by omega), Option.bind_some]
  exact main 12 0 m pd 1000 (by omega) (by omega) h (fun _ => rfl) (fun _ => rfl) (fun _ _ => rfl) (fun _ _ _ _ => rfl) (fun _ => rfl) (fun _ _ => rfl) (fun x hx => absurd hx (Nat.not_lt_zero x))
theorem x_firstMost {v : Nat → Int32} (hl : (mA m 1).length = 12) (hv : ∀ x, x < 12 → (mA m 1).getD x 0 = v x) : f_X6_firstMost m = some (nI (bst v 12).1, m) := by
  unfold f_X6_firstMost
  have main : ∀ (j k : Nat) (F : Nat), k + j = 12 → 0 < k → j < F → f_X6_firstMost_4 F m (nI (bst v k).1) (nI k) = some (nI (bst v 12).1, m) := by
    intro j
    induction j with
    | zero =>
      intro k F hk h0 hF
      obtain ⟨F', rfl⟩ : ∃ F', F = F' + 1 := ⟨F - 1, by omega⟩
      obtain rfl : k = 12 := by omega
      show fb_X6_firstMost_4 _ _ _ _ = _
      unfold fb_X6_firstMost_4
      rw [if_pos (show (12 : Int32) ≤ nI 12 by decide)]
    | succ j ih =>
      intro k F hk h0 hF
      obtain ⟨F', rfl⟩ : ∃ F', F = F' + 1 := ⟨F - 1, by omega⟩
      have hb := bst_lt (v := v) k h0
      show fb_X6_firstMost_4 _ _ _ _ = _
      unfold fb_X6_firstMost_4
      rw [if_neg (show ¬ (12 : Int32) ≤ nI k from (nI_ge (by omega) (by decide) : ¬ nI 12 ≤ nI k)), gA_at (by omega) (by omega), hv k (by omega), Option.bind_some, gA_at (by omega) (by omega), hv _ (by omega), Option.bind_some, nI_1, ← bst_v (v := v) k]
      have := ih (k + 1) F' (by omega) (by omega) (by omega)
      by_cases c : v k ≤ (bst v k).2
      · rw [if_pos c]
        have e : bst v (k + 1) = bst v k := if_neg (fun z => by rw [Int32.lt_iff_toInt_lt] at z; rw [Int32.le_iff_toInt_le] at c; omega)
        rw [e] at this; exact this
      · rw [if_neg c]
        have e : bst v (k + 1) = (k, v k) := if_pos (by rw [Int32.lt_iff_toInt_lt]; rw [Int32.le_iff_toInt_le] at c; omega)
        rw [e] at this; exact this
  have := main 11 1 1000 (by omega) (by omega) (by omega)
  rw [bst_1] at this
  exact this
theorem x_bestOf {p c f : Nat} {q : Int32} (h : TR m n pd t cs dt yr) (hp : p < n) (hc : (c = 36 ∧ f = 3) ∨ (c = 35 ∧ f = 2)) : ∃ m', f_X6_bestOf m c (nI p) q = some (if q = 0 then nI (bst (vB n pd cs (nI (clLast 1 10 cs)) dt yr f p) 12).1 else (bst (vB n pd cs (nI (clLast 1 10 cs)) dt yr f p) 12).2, m') ∧ FT m m' ∧ TR m' n pd t cs dt yr := by
  unfold f_X6_bestOf
  obtain ⟨t1, t2, t3, t4, t5⟩ := id h.2.1
  have e : mR m 2052 = twA t := t2
  obtain ⟨m', q1, q2, q3, q4⟩ := x_tryDays (due := nI (clLast 1 10 cs)) h hp hc
  have hb := bst_lt (v := vB n pd cs (nI (clLast 1 10 cs)) dt yr f p) 12 (by decide)
  rw [e, chR_t (twA_ok t1), show mI m (64 * twA t + 0) = nI (clLast 1 10 cs) from t4.1.1, q1, bnd_some, x_firstMost q3.2.2.2.2.2.2.2 q4, bnd_some]
  refine ⟨m', ?_, q2, q3⟩
  by_cases c : q = 0
  · rw [if_pos c, if_pos c]
  · rw [if_neg c, if_neg c, gA_at (by rw [q3.2.2.2.2.2.2.2]; omega) (by omega), q4 _ hb, Option.bind_some, ← bst_v (v := vB n pd cs (nI (clLast 1 10 cs)) dt yr f p) 12]
end X
end BEST
