/-! A NEW ONE -/
section PERSON
variable {mx mm : mM}
def zeroI (xs : List Int32) (a : Nat) : Nat → List Int32
  | 0 => xs
  | k + 1 => (zeroI xs a k).set (a + k) 0
theorem zeroI_len {xs : List Int32} {a : Nat} : ∀ k, (zeroI xs a k).length = xs.length
  | 0 => rfl
  | k + 1 => by rw [zeroI, List.length_set, zeroI_len k]
theorem zeroI_get {xs : List Int32} {a j : Nat} (hl : j < xs.length) : ∀ k, (zeroI xs a k).getD j 0 = if a ≤ j ∧ j < a + k then 0 else xs.getD j 0
  | 0 => by rw [if_neg (by omega)]; rfl
  | k + 1 => by
    rw [zeroI, gd_set, zeroI_len, zeroI_get hl k]
    by_cases e : a + k = j
    · rw [if_pos ⟨e, by omega⟩, if_pos (by omega)]
    · rw [if_neg (fun z => e z.1)]
      by_cases c : a ≤ j ∧ j < a + k
      · rw [if_pos c, if_pos (by omega)]
      · rw [if_neg c, if_neg (by omega)]
def pdn (pd : Nat → Nat → Nat) (n k v b p : Nat) : Nat → Nat → Nat := fun f q => if q = n then (match f with | 0 => k | 1 => v | 2 => b | 3 => p | 4 => 1 | _ => 0) else pd f q
theorem PDe.add {n k v b p : Nat} {pd : Nat → Nat → Nat} {lk lv lb lp lh lr : List Int32} (hs : PDs lk lv lb lp lh lr) (hn : n < 7) (h : PDe n pd lk lv lb lp lh lr) : PDe (n + 1) (pdn pd n k v b p) (lk.set n (nI k)) (lv.set n (nI v)) (lb.set n (nI b)) (lp.set n (nI p)) (lh.set n 1) (zeroI lr (4 * n) 4) := by
  obtain ⟨h1, h2, h3, h4, h5, h6, -⟩ := hs
  intro q hq
  by_cases e : n = q
  · subst e
    refine ⟨by rw [gd_same (by omega)]; simp [pdn], by rw [gd_same (by omega)]; simp [pdn], by rw [gd_same (by omega)]; simp [pdn], by rw [gd_same (by omega)]; simp [pdn], by rw [gd_same (by omega)]; simp [pdn]; rfl, fun j hj => ?_⟩
    rw [zeroI_get (by omega), if_pos (by omega)]
    match j, hj with
    | 0, _ => simp [pdn]; rfl
    | 1, _ => simp [pdn]; rfl
    | 2, _ => simp [pdn]; rfl
    | 3, _ => simp [pdn]; rfl
  · have nz : ∀ f, pdn pd n k v b p f q = pd f q := fun f => if_neg (fun z => e z.symm)
    obtain ⟨g1, g2, g3, g4, g5, g6⟩ := h q (by omega)
    refine ⟨by rw [gd_ne e, nz]; exact g1, by rw [gd_ne e, nz]; exact g2, by rw [gd_ne e, nz]; exact g3, by rw [gd_ne e, nz]; exact g4, by rw [gd_ne e, nz]; exact g5, fun j hj => ?_⟩
    rw [zeroI_get (by omega), if_neg (by omega), nz]; exact g6 j hj
theorem PDs.add {n : Nat} {x1 x2 x3 x4 : Int32} {lk lv lb lp lh lr : List Int32} (hs : PDs lk lv lb lp lh lr) : PDs (lk.set n x1) (lv.set n x2) (lb.set n x3) (lp.set n x4) (lh.set n 1) (zeroI lr (4 * n) 4) := by
  obtain ⟨h1, h2, h3, h4, h5, h6, h7⟩ := hs
  refine ⟨by rw [List.length_set]; exact h1, by rw [List.length_set]; exact h2, by rw [List.length_set]; exact h3, by rw [List.length_set]; exact h4, by rw [List.length_set]; exact h5, by rw [zeroI_len]; exact h6, fun q hq => ?_⟩
  rw [gd_set]
  split
  · exact Or.inr rfl
  · exact h7 q hq
theorem PDr.add {n k v b p : Nat} {pd : Nat → Nat → Nat} (h : PDr n pd) (hn : n < 7) (hk : k < 7) (hv : v < 10) (hb : b < 12) (hp : p < 12) : PDr (n + 1) (pdn pd n k v b p) := by
  refine ⟨hn, fun q hq => ?_⟩
  by_cases e : q = n
  · subst e
    simp only [pdn, if_pos]
    refine ⟨hk, hv, hb, hp, by decide, fun j hj => ?_⟩
    match j, hj with
    | 0, _ => exact (show (0 : Nat) < 12 by decide)
    | 1, _ => exact (show (0 : Nat) < 12 by decide)
    | 2, _ => exact (show (0 : Nat) < 12 by decide)
    | 3, _ => exact (show (0 : Nat) < 12 by decide)
  · have nz : ∀ f, pdn pd n k v b p f q = pd f q := fun f => if_neg e
    obtain ⟨g1, g2, g3, g4, g5, g6⟩ := h.2 q (by omega)
    exact ⟨by rw [nz]; exact g1, by rw [nz]; exact g2, by rw [nz]; exact g3, by rw [nz]; exact g4, by rw [nz]; exact g5, fun j hj => by rw [nz]; exact g6 j hj⟩
theorem PUe.add {n : Nat} {pu : Nat → Int32} {l : List Int32} (hl : l.length = 7) (hn : n < 7) (h : PUe n pu l) : PUe (n + 1) (fun q => if q = n then 0 else pu q) (l.set n 0) := by
  intro q hq
  show (l.set n 0).getD q 0 = if q = n then 0 else pu q
  by_cases e : n = q
  · subst e; rw [gd_same (by omega), if_pos rfl]
  · rw [gd_ne e, if_neg (fun z => e z.symm)]; exact h q (by omega)
theorem zero_lpI {R : Type} {m : mM} {c a n : Nat} {E : fR R} {fb : (mM → Int32 → fR R) → mM → Int32 → fR R} {f : Nat → mM → Int32 → fR R} (hf : ∀ F m y, f (F + 1) m y = fb (f F) m y) (hs : ∀ k, k < n → ∀ K xs, xs.length = (mA m c).length → fb K (wA m c xs) (nI k) = K (wA m c (xs.set (a + k) 0)) (nI (k + 1))) (he : ∀ K, fb K (wA m c (zeroI (mA m c) a n)) (nI n) = E) (hn : n < 1000) : f 1000 m 0 = E := by
  have key := lp_up hf (n := n) (G := fun k => wA m c (zeroI (mA m c) a k)) (E := E) (fun k hk K => hs k hk K _ (zeroI_len k)) he n 0 1000 (by omega) (by omega)
  have e0 : wA m c (zeroI (mA m c) a 0) = m := wA_self
  rw [e0] at key
  exact key
def addM (m : mM) (a n : Nat) (k v b p : Int32) : mM := wI (wA (wA (wA (wA (wA (wA (wA m (a + 1) ((mA m (a + 1)).set n k)) (a + 2) ((mA m (a + 2)).set n v)) (a + 3) ((mA m (a + 3)).set n b)) (a + 4) ((mA m (a + 4)).set n p)) (a + 5) ((mA m (a + 5)).set n 0)) (a + 6) ((mA m (a + 6)).set n 1)) (a + 7) (zeroI (mA m (a + 7)) (4 * n) 4)) (64 * a + 0) (nI (n + 1))
theorem add_eq {m : mM} {a n : Nat} {k v b p : Int32} (h : XSh m a) (hi : mI m (64 * a + 0) = nI n) (hn : n < 7) : f_X2_add m a k v b p = some ((), addM m a n k v b p) := by
  obtain ⟨⟨h1, h2, h3, h4, h6, h7, -⟩, h5, -⟩ := h
  unfold f_X2_add
  rw [hi, if_pos (show nI n < (7 : Int32) from (nI_lt hn (by decide) : nI n < nI 7))]
  rw [sA_at0 (by omega) (by omega), Option.bind_some, mI_wA, hi]
  rw [sA_at0 (by rw [mA_ne (by omega)]; omega) (by omega), Option.bind_some, mI_wA, mI_wA, hi, mA_ne (c := a + 1) (by omega)]
  rw [sA_at0 (by rw [mA_ne (by omega), mA_ne (by omega)]; omega) (by omega), Option.bind_some, mI_wA, mI_wA, mI_wA, hi, mA_ne (k := a + 3) (c := a + 2) (by omega), mA_ne (k := a + 3) (c := a + 1) (by omega)]
  rw [sA_at0 (by rw [mA_ne (by omega), mA_ne (by omega), mA_ne (by omega)]; omega) (by omega), Option.bind_some, mI_wA, mI_wA, mI_wA, mI_wA, hi, mA_ne (k := a + 4) (c := a + 3) (by omega), mA_ne (k := a + 4) (c := a + 2) (by omega), mA_ne (k := a + 4) (c := a + 1) (by omega)]
  rw [sA_at0 (by rw [mA_ne (by omega), mA_ne (by omega), mA_ne (by omega), mA_ne (by omega)]; omega) (by omega), Option.bind_some, mI_wA, mI_wA, mI_wA, mI_wA, mI_wA, hi, mA_ne (k := a + 5) (c := a + 4) (by omega), mA_ne (k := a + 5) (c := a + 3) (by omega), mA_ne (k := a + 5) (c := a + 2) (by omega), mA_ne (k := a + 5) (c := a + 1) (by omega)]
  rw [sA_at3 (by rw [mA_ne (by omega), mA_ne (by omega), mA_ne (by omega), mA_ne (by omega), mA_ne (by omega)]; omega) (by omega) (Or.inr rfl), Option.bind_some, mA_ne (k := a + 6) (c := a + 5) (by omega), mA_ne (k := a + 6) (c := a + 4) (by omega), mA_ne (k := a + 6) (c := a + 3) (by omega), mA_ne (k := a + 6) (c := a + 2) (by omega), mA_ne (k := a + 6) (c := a + 1) (by omega)]
  generalize hm : wA (wA (wA (wA (wA (wA m (a + 1) ((mA m (a + 1)).set n k)) (a + 2) ((mA m (a + 2)).set n v)) (a + 3) ((mA m (a + 3)).set n b)) (a + 4) ((mA m (a + 4)).set n p)) (a + 5) ((mA m (a + 5)).set n 0)) (a + 6) ((mA m (a + 6)).set n 1) = m6
  have e7 : mA m6 (a + 7) = mA m (a + 7) := by
    subst hm
    rw [mA_ne (by omega), mA_ne (by omega), mA_ne (by omega), mA_ne (by omega), mA_ne (by omega), mA_ne (by omega)]
  have ei : mI m6 (64 * a + 0) = nI n := by subst hm; exact hi
  have key : f_X2_add_74 1000 m6 a 0 = some ((), wI (wA m6 (a + 7) (zeroI (mA m6 (a + 7)) (4 * n) 4)) (64 * a + 0) (nI (n + 1))) := by
    refine zero_lpI (f := fun F m y => f_X2_add_74 F m a y) (fb := fun K m y => fb_X2_add_74 (fun m _ y => K m y) m a y) (c := a + 7) (a := 4 * n) (n := 4) (fun _ _ _ => rfl) (fun j hj K xs hx => ?_) (fun K => ?_) (by decide)
    · unfold fb_X2_add_74
      rw [if_neg (show ¬ (4 : Int32) ≤ nI j from (nI_ge hj (by decide) : ¬ nI 4 ≤ nI j)), mI_wA, ei, show (4 : Int32) = nI 4 from rfl, pk_mul, nI_add, show n * 4 + j = 4 * n + j by omega, sA_at0 (by rw [mA_eq, hx, e7, h7]; omega) (by omega), Option.bind_some, wA_wA, mA_eq, nI_1]
    · unfold fb_X2_add_74
      rw [if_pos (show (4 : Int32) ≤ nI 4 by decide), nmM_eq, mI_wA, ei, nI_1]
  rw [key, e7, ← hm]; rfl
def layMm (m : mM) (n : Nat) (k v b p : Int32) : mM := wA (wA (wA (wA (wA (wA (wA m 1 ((mA m 1).set n k)) 2 ((mA m 2).set n v)) 3 ((mA m 3).set n b)) 4 ((mA m 4).set n p)) 5 ((mA m 5).set n 0)) 7 ((mA m 7).set n 1)) 6 (zeroI (mA m 6) (4 * n) 4)
theorem lay_eq {m : mM} {n : Nat} {k v b p : Int32} (h : MSh m) (hn : n < 7) : f_X7_lay m (nI n) k v b p = some ((), layMm m n k v b p) := by
  obtain ⟨⟨h1, h2, h3, h4, h7, h6, -⟩, h5, -⟩ := h
  unfold f_X7_lay
  rw [sA_at0 (by omega) (by omega), Option.bind_some]
  rw [sA_at0 (by rw [mA_ne (by decide)]; omega) (by omega), Option.bind_some, mA_ne (c := 1) (k := 2) (by decide)]
  rw [sA_at0 (by rw [mA_ne (by decide), mA_ne (by decide)]; omega) (by omega), Option.bind_some, mA_ne (k := 3) (c := 2) (by decide), mA_ne (k := 3) (c := 1) (by decide)]
  rw [sA_at0 (by rw [mA_ne (by decide), mA_ne (by decide), mA_ne (by decide)]; omega) (by omega), Option.bind_some, mA_ne (k := 4) (c := 3) (by decide), mA_ne (k := 4) (c := 2) (by decide), mA_ne (k := 4) (c := 1) (by decide)]
  rw [sA_at0 (by rw [mA_ne (by decide), mA_ne (by decide), mA_ne (by decide), mA_ne (by decide)]; omega) (by omega), Option.bind_some, mA_ne (k := 5) (c := 4) (by decide), mA_ne (k := 5) (c := 3) (by decide), mA_ne (k := 5) (c := 2) (by decide), mA_ne (k := 5) (c := 1) (by decide)]
  rw [sA_at3 (by rw [mA_ne (by decide), mA_ne (by decide), mA_ne (by decide), mA_ne (by decide), mA_ne (by decide)]; omega) (by omega) (Or.inr rfl), Option.bind_some, mA_ne (k := 7) (c := 5) (by decide), mA_ne (k := 7) (c := 4) (by decide), mA_ne (k := 7) (c := 3) (by decide), mA_ne (k := 7) (c := 2) (by decide), mA_ne (k := 7) (c := 1) (by decide)]
  generalize hm : wA (wA (wA (wA (wA (wA m 1 ((mA m 1).set n k)) 2 ((mA m 2).set n v)) 3 ((mA m 3).set n b)) 4 ((mA m 4).set n p)) 5 ((mA m 5).set n 0)) 7 ((mA m 7).set n 1) = m6
  have e6 : mA m6 6 = mA m 6 := by subst hm; rfl
  have key : f_X7_lay_47 1000 m6 (nI n) 0 = some ((), wA m6 6 (zeroI (mA m6 6) (4 * n) 4)) := by
    refine zero_lpI (f := fun F m y => f_X7_lay_47 F m (nI n) y) (fb := fun K m y => fb_X7_lay_47 (fun m _ y => K m y) m (nI n) y) (c := 6) (a := 4 * n) (n := 4) (fun _ _ _ => rfl) (fun j hj K xs hx => ?_) (fun K => ?_) (by decide)
    · unfold fb_X7_lay_47
      rw [if_neg (show ¬ (4 : Int32) ≤ nI j from (nI_ge hj (by decide) : ¬ nI 4 ≤ nI j)), show (4 : Int32) = nI 4 from rfl, pk_mul, nI_add, sA_at0 (by rw [mA_eq, hx, e6, h6]; omega) (by omega), Option.bind_some, wA_wA, mA_eq, nI_1]
    · unfold fb_X7_lay_47
      rw [if_pos (show (4 : Int32) ≤ nI 4 by decide)]
  rw [key, e6, ← hm]; rfl
set_option maxRecDepth 4000 in
theorem op_person (h : RR mx mm) (k v b p : Int32) : OPe (f_X6_person mx k v b p) (f_X7_person mm k v b p) := by
  obtain ⟨W, S, ⟨hX, hS, hM, hQ⟩, hO, hK, hC, hC2, hT, hW, hA, hP⟩ := id h
  unfold f_X6_person f_X7_person
  rw [op_in (n := 7) (in_lit (by decide) (by decide)), bnd_some, op_in (n := 10) (in_lit (by decide) (by decide)), bnd_some, op_isDay, op7_isDay, bnd_some, bnd_some, op_isDay, op7_isDay, bnd_some, bnd_some]
  by_cases k0 : k < 0
  · rw [if_pos k0, inR_low k0]; exact ⟨_, mx, mm, rfl, rfl, h⟩
  rw [if_neg k0]
  have klt := lt_inR (n := 7) (k := 7) rfl (by decide) k0
  cases hk : inR 7 k with
  | false => rw [if_neg (fun z => by rw [klt.mp z] at hk; cases hk)]; exact ⟨_, mx, mm, rfl, rfl, h⟩
  | true =>
  rw [if_pos (klt.mpr hk), zB_t, if_neg i0]
  by_cases v0 : v < 0
  · rw [if_pos v0, inR_low v0]; exact ⟨_, mx, mm, rfl, rfl, h⟩
  rw [if_neg v0]
  by_cases v1 : (10 : Int32) ≤ v
  · rw [if_pos v1, inR_high (n := 10) v1]; exact ⟨_, mx, mm, rfl, rfl, h⟩
  have hv : inR 10 v = true := inR_mid v0 v1
  rw [if_neg v1, hv, zB_t, if_neg i0]
  cases hb : inR 12 b with
  | false => exact ⟨_, mx, mm, rfl, rfl, h⟩
  | true =>
  rw [zB_t, if_neg i0, if_neg i0]
  cases hp : inR 12 p with
  | false => exact ⟨_, mx, mm, rfl, rfl, h⟩
  | true =>
  rw [zB_t, if_neg i0, if_neg i0]
  obtain ⟨k, hkk, rfl⟩ := inR_t (by decide) hk
  obtain ⟨v, hvv, rfl⟩ := inR_t (by decide) hv
  obtain ⟨b, hbb, rfl⟩ := inR_t (by decide) hb
  obtain ⟨p, hpp, rfl⟩ := inR_t (by decide) hp
  have hn := hO.1.1
  rw [show mI mx 896 = nI S.1 from hS.1.1, show mI mm 0 = nI S.1 from hQ.1.1]
  by_cases hf : S.1 < 7
  · rw [if_pos (show nI S.1 < (7 : Int32) from (nI_lt hf (by decide) : nI S.1 < nI 7)), if_neg (show ¬ nI S.1 = (7 : Int32) from fun z => by have := (nI_eq (by omega) (by decide)).mp (show nI S.1 = nI 7 from z); omega), add_eq hX hS.1.1 hf, lay_eq hM hf, bnd_some, bnd_some, nmM_eq]
    have v1 : mI (addM mx 14 S.1 (nI k) (nI v) (nI b) (nI p)) 896 - 1 = nI S.1 := nI_pred S.1
    have v3 : mI (layMm mm S.1 (nI k) (nI v) (nI b) (nI p)) 0 + 1 = nI (S.1 + 1) := by
      show mI mm 0 + 1 = _; rw [show mI mm 0 = nI S.1 from hQ.1.1, nI_1]
    have v2 : mI (wI (layMm mm S.1 (nI k) (nI v) (nI b) (nI p)) 0 (nI (S.1 + 1))) 0 - 1 = nI S.1 := nI_pred S.1
    rw [v1, v3, v2]
    refine ⟨nI S.1, addM mx 14 S.1 (nI k) (nI v) (nI b) (nI p), wI (layMm mm S.1 (nI k) (nI v) (nI b) (nI p)) 0 (nI (S.1 + 1)), rfl, rfl, W, (S.1 + 1, pdn S.2.1 S.1 k v b p, fun q => if q = S.1 then 0 else S.2.2.1 q, S.2.2.2), ⟨⟨hX.1.add, (List.length_set ..).trans hX.2.1, hX.2.2⟩, ⟨⟨rfl, hS.1.2⟩, PDe.add hX.1 hf hS.2.1, PUe.add hX.2.1 hf hS.2.2.1, hS.2.2.2⟩, ⟨hM.1.add, (List.length_set ..).trans hM.2.1, hM.2.2⟩, ⟨⟨rfl, hQ.1.2⟩, PDe.add hM.1 hf hQ.2.1, PUe.add hM.2.1 hf hQ.2.2.1, hQ.2.2.2⟩⟩, ⟨hO.1.add hf hkk hvv hbb hpp, hO.2.1, hO.2.2.1, hO.2.2.2.1, hO.2.2.2.2.1, fun q hq => ?_, hO.2.2.2.2.2.2⟩, hK, hC, hC2, hT, hW.fr (fun k hk => if_neg (by omega)) (fun c hc => by
        show mA (addM mx 14 _ _ _ _ _) c = _
        unfold addM
        rw [mA_wI, mA_ne (by omega), mA_ne (by omega), mA_ne (by omega), mA_ne (by omega), mA_ne (by omega), mA_ne (by omega), mA_ne (by omega)]) rfl (fun c hc => by
        show mA (layMm mm _ _ _ _ _) c = _
        unfold layMm
        rw [mA_ne (by omega), mA_ne (by omega), mA_ne (by omega), mA_ne (by omega), mA_ne (by omega), mA_ne (by omega), mA_ne (by omega)]), hA, hP.fr (fun k hk => if_neg (by omega)) (fun _ _ => rfl) ⟨rfl, rfl⟩ ⟨rfl, rfl⟩⟩
    show -(80000 * (12 * (S.2.2.2.2.1 : Int) + S.2.2.2.1)) ≤ (if q = S.1 then (0 : Int32) else S.2.2.1 q).toInt ∧ (if q = S.1 then (0 : Int32) else S.2.2.1 q).toInt ≤ 80000 * (12 * (S.2.2.2.2.1 : Int) + S.2.2.2.1)
    by_cases e : q = S.1
    · rw [if_pos e, show (0 : Int32).toInt = 0 from rfl]; omega
    · rw [if_neg e]; exact hO.2.2.2.2.2.1 q (by have : q < S.1 + 1 := hq; omega)
  · rw [if_neg (show ¬ nI S.1 < (7 : Int32) from (nI_nlt (by omega) (by omega) : ¬ nI S.1 < nI 7)), if_pos (show nI S.1 = (7 : Int32) from (congrArg nI (show S.1 = 7 by omega) : nI S.1 = nI 7))]
    exact ⟨_, mx, mm, rfl, rfl, h⟩
end PERSON
