/-! WHAT ONE TAKES: the steps of an E, as a stack of truths -/
section TAKES
/-- a pile's bits, the lowest what came last -/
def BT (v : Int32) (st : List Bool) : Prop := ∀ i, i < 32 → v.toBitVec.getLsbD i = st.getD i false
theorem BT.not {v : Int32} {b : Bool} {s : List Bool} (h : BT v (b :: s)) : BT (v ^^^ 1) ((!b) :: s) := by
  intro i hi
  have h1 : (1 : Int32).toBitVec.getLsbD i = decide (i = 0) := by
    show (1#32).getLsbD i = _
    rw [BitVec.getLsbD_one]; simp
  rw [Int32.toBitVec_xor, BitVec.getLsbD_xor, h i hi, h1]
  cases i with
  | zero => simp
  | succ i => simp
theorem shr1 {v : Int32} {i : Nat} : ((((v : Int32).toUInt32 >>> ((1 : Int32).toUInt32 &&& Int32.toUInt32 31)).toInt32) : Int32).toBitVec.getLsbD i = v.toBitVec.getLsbD (i + 1) := by
  show ((v.toUInt32 >>> (1 : UInt32)).toBitVec).getLsbD i = _
  rw [UInt32.toBitVec_shiftRight]
  show (v.toBitVec >>> (1 : Nat)).getLsbD i = _
  rw [BitVec.getLsbD_ushiftRight, Nat.add_comm]
theorem shl1 {v : Int32} {i : Nat} (hi : i < 32) : (v <<< ((1 : Int32) &&& 31)).toBitVec.getLsbD i = (decide (0 < i) && v.toBitVec.getLsbD (i - 1)) := by
  show (v.toBitVec <<< (1 : Nat)).getLsbD i = _
  rw [BitVec.getLsbD_shiftLeft]
  cases i with
  | zero => simp
  | succ i => simp [hi]
theorem BT.and {v : Int32} {b c : Bool} {s : List Bool} (h : BT v (c :: b :: s)) (hs : s.length ≤ 29) : BT ((((v : Int32).toUInt32 >>> ((1 : Int32).toUInt32 &&& Int32.toUInt32 31)).toInt32) &&& (v ||| (-2))) ((b && c) :: s) := by
  intro i hi
  have h1 : (-2 : Int32).toBitVec.getLsbD i = decide (0 < i) := by
    show (~~~(1#32)).getLsbD i = _
    rw [BitVec.getLsbD_not, BitVec.getLsbD_one]; rcases i with _ | i <;> simp [hi]
  rw [Int32.toBitVec_and, BitVec.getLsbD_and, Int32.toBitVec_or, BitVec.getLsbD_or, shr1, h1, h i hi]
  by_cases e : i + 1 < 32
  · rw [h _ e]
    cases i with
    | zero => simp
    | succ i => simp
  · have : i = 31 := by omega
    subst this
    rw [BitVec.getLsbD_of_ge _ _ (by decide)]
    simp [List.getD_eq_getElem?_getD, List.getElem?_eq_none (show s.length ≤ 30 by omega)]
theorem BT.or {v : Int32} {b c : Bool} {s : List Bool} (h : BT v (c :: b :: s)) (hs : s.length ≤ 29) : BT ((((v : Int32).toUInt32 >>> ((1 : Int32).toUInt32 &&& Int32.toUInt32 31)).toInt32) ||| (v &&& 1)) ((b || c) :: s) := by
  intro i hi
  have h1 : (1 : Int32).toBitVec.getLsbD i = decide (i = 0) := by
    show (1#32).getLsbD i = _
    rw [BitVec.getLsbD_one]; simp
  rw [Int32.toBitVec_or, BitVec.getLsbD_or, Int32.toBitVec_and, BitVec.getLsbD_and, shr1, h1, h i hi]
  by_cases e : i + 1 < 32
  · rw [h _ e]
    cases i with
    | zero => simp
    | succ i => simp
  · have : i = 31 := by omega
    subst this
    rw [BitVec.getLsbD_of_ge _ _ (by decide)]
    simp [List.getD_eq_getElem?_getD, List.getElem?_eq_none (show s.length ≤ 30 by omega)]
theorem BT.push {v : Int32} {st : List Bool} {b : Bool} (h : BT v st) : BT ((v <<< ((1 : Int32) &&& 31)) ||| zB b) (b :: st) := by
  intro i hi
  have h1 : (zB b).toBitVec.getLsbD i = (decide (i = 0) && b) := by
    cases b
    · show (0#32).getLsbD i = _
      simp
    · show (1#32).getLsbD i = _
      rw [BitVec.getLsbD_one]; simp
  rw [Int32.toBitVec_or, BitVec.getLsbD_or, shl1 hi, h1]
  cases i with
  | zero => simp
  | succ i => rw [h _ (by omega)]; simp
theorem BT.top {v : Int32} {st : List Bool} (h : BT v st) : (v &&& 1 = 1) ↔ st.getD 0 false = true := by
  rw [← h 0 (by decide)]
  constructor
  · intro e
    have := congrArg (fun x : Int32 => x.toBitVec.getLsbD 0) e
    simpa [Int32.toBitVec_and] using this
  · intro e
    apply Int32.toBitVec_inj.mp
    apply BitVec.eq_of_getLsbD_eq
    intro i hi
    have h1 : (1 : Int32).toBitVec.getLsbD i = decide (i = 0) := by
      show (1#32).getLsbD i = _
      rw [BitVec.getLsbD_one]; simp
    rw [Int32.toBitVec_and, BitVec.getLsbD_and, h1]
    cases i with
    | zero => simp [e]
    | succ i => simp
/-- the facts -/
def facT (n : Nat) (pd : Nat → Nat → Nat) (y p d : Nat) : Nat → Nat
  | 0 => p
  | 1 => pd 0 p
  | 2 => d
  | 3 => mB pd d n
  | 4 => y % 10
  | _ => pd 2 p
def evT (F : Nat → Nat) (t : Int32) : Bool := if t.toInt.toNat / 100 % 10 = 0 then decide (F (t.toInt.toNat / 1000) < t.toInt.toNat % 100) else if t.toInt.toNat / 100 % 10 = 1 then decide (F (t.toInt.toNat / 1000) = t.toInt.toNat % 100) else decide (t.toInt.toNat % 100 < F (t.toInt.toNat / 1000))
def evJ (t : Int32) : List Bool → List Bool
  | b :: s => if t = -33 then (!b) :: s else match s with
    | a :: r => (if t = -38 then (a && b) else (a || b)) :: r
    | [] => [b]
  | [] => []
theorem evJ_n {t : Int32} {b : Bool} {s : List Bool} (h : t = -33) : evJ t (b :: s) = (!b) :: s := if_pos h
theorem evJ_b {t : Int32} {c a : Bool} {s : List Bool} (h : ¬ t = -33) : evJ t (c :: a :: s) = (if t = -38 then (a && c) else (a || c)) :: s := if_neg h
/-- what the steps leave on top -/
def evS (F : Nat → Nat) : List Int32 → List Bool → Bool
  | [], st => st.getD 0 false
  | t :: ts, st => evS F ts (if t = -33 ∨ t = -38 ∨ t = -124 then evJ t st else evT F t :: st)
theorem nI_nj {v : Nat} (h : v < 2 ^ 31) : ¬ (nI v = -33 ∨ nI v = -38 ∨ nI v = -124) := by
  have e1 : (-33 : Int32).toInt = -33 := by decide
  have e2 : (-38 : Int32).toInt = -38 := by decide
  have e3 : (-124 : Int32).toInt = -124 := by decide
  rintro (z | z | z) <;> (have e := congrArg Int32.toInt z; rw [nI_toInt h] at e; omega)
theorem evT_at {F : Nat → Nat} {f s r : Nat} (hf : f < 6) (hs : s < 3) (hr : r < 100) : evT F (nI (1000 * f + 100 * s + r)) = (if s = 0 then decide (F f < r) else if s = 1 then decide (F f = r) else decide (r < F f)) := by
  have e : (nI (1000 * f + 100 * s + r)).toInt.toNat = 1000 * f + 100 * s + r := by rw [nI_toInt (by omega)]; rfl
  unfold evT
  rw [e, show (1000 * f + 100 * s + r) / 100 % 10 = s by omega, show (1000 * f + 100 * s + r) / 1000 = f by omega, show (1000 * f + 100 * s + r) % 100 = r by omega]
/-- what a step may be at a depth -/
theorem wfc_j {d : Nat} {t : Int32} {ts : List Int32} (h : wfc d (t :: ts)) (ht : t = -33 ∨ t = -38 ∨ t = -124) : (t = -33 ∧ 1 ≤ d ∧ wfc d ts) ∨ (¬ t = -33 ∧ (t = -38 ∨ (¬ t = -38 ∧ t = -124)) ∧ 2 ≤ d ∧ wfc (d - 1) ts) := by
  unfold wfc at h
  rcases h with h | ⟨h1, h2⟩ | ⟨h1, ⟨f, s, r, hf, hs, hr, rfl⟩, h2⟩
  · exact Or.inl h
  · right
    rcases h1 with rfl | rfl
    · exact ⟨by decide, Or.inl rfl, h2⟩
    · exact ⟨by decide, Or.inr ⟨by decide, rfl⟩, h2⟩
  · exact absurd ht (nI_nj (by omega))
theorem wfc_t {d : Nat} {t : Int32} {ts : List Int32} (h : wfc d (t :: ts)) (ht : ¬ (t = -33 ∨ t = -38 ∨ t = -124)) : d < 31 ∧ (∃ f s r, f < 6 ∧ s < 3 ∧ r < 100 ∧ t = nI (1000 * f + 100 * s + r)) ∧ wfc (d + 1) ts := by
  unfold wfc at h
  rcases h with h | h | h
  · exact absurd (Or.inl h.1) ht
  · exact absurd (Or.inr h.1) ht
  · exact h
/-- the pile of the reference -/
def PL (l : List Int32) : List Bool → Prop
  | [] => True
  | b :: s => l.getD s.length 0 = zB b ∧ PL l s
theorem PL.set {l : List Int32} {i : Nat} {x : Int32} : ∀ {st : List Bool}, PL l st → st.length ≤ i → PL (l.set i x) st
  | [], _, _ => trivial
  | b :: s, h, hi => ⟨by rw [gd_ne (by simp at hi; omega)]; exact h.1, h.2.set (by simp at hi; omega)⟩
section M
variable {m : mM} {n : Nat} {pd : Nat → Nat → Nat}
theorem m_factOf {p d y f : Nat} (h : PMr m n pd) (hp : p < n) (hd : d < 12) (hy : mI m 2 = nI y) (hy2 : y < 2 ^ 31) (hf : f < 6) : f_X7_factOf m (nI f) (nI p) (nI d) = some (nI (facT n pd y p d f), m) := by
  unfold f_X7_factOf
  match f, hf with
  | 0, _ => rfl
  | 1, _ => show (gA (mA m 1) (nI p)).bind _ = _; rw [(h.g hp).1]; rfl
  | 2, _ => rfl
  | 3, _ => show bnd (f_X7_manyBorn m (nI d)) _ = _; rw [m_manyBorn h hd]; rfl
  | 4, _ => rw [if_neg (show ¬ nI 4 = 0 by decide), if_neg (show ¬ nI 4 = 1 by decide), if_neg (show ¬ nI 4 = 2 by decide), if_neg (show ¬ nI 4 = 3 by decide), if_pos (show nI 4 = 4 from rfl), show (10 : Int32) = nI 10 from rfl, hy, rmI_at hy2 (by decide) (by decide)]; rfl
  | 5, _ => rw [if_neg (show ¬ nI 5 = 0 by decide), if_neg (show ¬ nI 5 = 1 by decide), if_neg (show ¬ nI 5 = 2 by decide), if_neg (show ¬ nI 5 = 3 by decide), if_neg (show ¬ nI 5 = 4 by decide), (h.g hp).2.2.1]; rfl
theorem facT_lt {p d y f : Nat} (h : PDr n pd) (hp : p < n) (hd : d < 12) : facT n pd y p d f < 100 := by
  obtain ⟨r1, r2, r3, r4, r5, r6⟩ := h.2 p hp
  have := mB_le (pd := pd) (d := d) n
  have := h.1
  unfold facT
  split <;> omega
theorem m_holds_lp {p d y c e : Nat} (h : PMr m n pd) (hp : p < n) (hd : d < 12) (hy : mI m 2 = nI y) (hy2 : y < 2 ^ 31) (h13 : gA (mA m 13) (nI c) = some (nI e)) (h14 : (mA m 14).length = 600) (he : e ≤ 600) : ∀ (us : List Int32) (b : Nat) (st : List Bool) (l : List Int32) (F : Nat), b + us.length = e → (∀ k, k < us.length → (mA m 14).getD (b + k) 0 = us.getD k 0) → wfc st.length us → st.length ≤ 31 → PL l st → l.length = 100 → us.length < F → ∃ l', l'.length = 100 ∧ f_X7_holds_11 F (wA m 17 l) (nI c) (nI p) (nI d) (nI st.length) (nI b) = some (zB (evS (facT n pd y p d) us st), wA m 17 l') := by
  intro us
  induction us with
  | nil =>
    intro b st l F hb hs hw hdp hl h100 hF
    obtain ⟨F', rfl⟩ : ∃ F', F = F' + 1 := ⟨F - 1, by omega⟩
    obtain rfl : b = e := hb
    unfold wfc at hw
    refine ⟨l, h100, ?_⟩
    show fb_X7_holds_11 _ (wA m 17 l) _ _ _ _ _ = _
    unfold fb_X7_holds_11
    rw [show mA (wA m 17 l) 13 = mA m 13 from rfl, h13, Option.bind_some, if_pos (nI_le (Nat.le_refl _) (by omega)), show mA (wA m 17 l) 17 = l from rfl, show (0 : Int32) = nI 0 from rfl, gA_at (by omega) (by omega), Option.bind_some]
    match st, hw with
    | [b], _ =>
      rw [show l.getD 0 0 = zB b from hl.1, chZ_zB]; rfl
  | cons t ts ih =>
    intro b st l F hb hs hw hdp hl h100 hF
    obtain ⟨F', rfl⟩ : ∃ F', F = F' + 1 := ⟨F - 1, by omega⟩
    have hb' : b + ts.length + 1 = e := by rw [← hb, List.length_cons]; omega
    have ht0 : (mA m 14).getD b 0 = t := by have := hs 0 (by simp); simpa using this
    have hs' : ∀ k, k < ts.length → (mA m 14).getD (b + 1 + k) 0 = ts.getD k 0 := fun k hk => by
      have := hs (k + 1) (by simp; omega)
      rw [show b + 1 + k = b + (k + 1) by omega, this]; simp
    have hF' : ts.length < F' := by simp at hF; omega
    show ∃ l' : List Int32, l'.length = 100 ∧ fb_X7_holds_11 _ (wA m 17 l) _ _ _ _ _ = _
    unfold fb_X7_holds_11
    rw [show mA (wA m 17 l) 13 = mA m 13 from rfl, show mA (wA m 17 l) 14 = mA m 14 from rfl, show mA (wA m 17 l) 17 = l from rfl, h13, Option.bind_some, if_neg (nI_ge (by omega) (by omega)), gA_at (by omega) (by omega), ht0, Option.bind_some]
    by_cases hj : t = -33 ∨ t = -38 ∨ t = -124
    · rcases wfc_j hw hj with ⟨k1, k2, k3⟩ | ⟨k1, k2, k3, k4⟩
      · match st, k2 with
        | a :: s, _ =>
          rw [if_pos k1]
          have e1 : nI (a :: s).length - 1 = nI s.length := by rw [List.length_cons]; exact nI_pred _
          rw [e1, gA_at (by rw [h100]; simp at hdp; omega) (by simp at hdp; omega), hl.1, Option.bind_some, nI_1]
          have fin : ∀ x : Int32, x = zB (!a) → ∃ l', l'.length = 100 ∧ ((sA 3 (wA m 17 l) 17 (nI s.length) x).bind fun m31 => f_X7_holds_11 F' m31 (nI c) (nI p) (nI d) (nI (a :: s).length) (nI (b + 1))) = some (zB (evS (facT n pd y p d) (t :: ts) (a :: s)), wA m 17 l') := by
            intro x hx
            rw [sA_at3 (by show s.length < l.length; rw [h100]; simp at hdp; omega) (by simp at hdp; omega) (by rw [hx]; exact zB_z _), Option.bind_some, wA_wA, show mA (wA m 17 l) 17 = l from rfl]
            have := ih (b + 1) ((!a) :: s) (l.set s.length x) F' (by omega) hs' k3 hdp ⟨by rw [gd_same (by rw [h100]; simp at hdp; omega), hx], hl.2.set (Nat.le_refl _)⟩ (by rw [List.length_set]; exact h100) hF'
            obtain ⟨l', q1, q2⟩ := this
            refine ⟨l', q1, ?_⟩
            rw [show (a :: s).length = ((!a) :: s).length from rfl, q2]
            show _ = some (zB (evS _ ts (if t = -33 ∨ t = -38 ∨ t = -124 then evJ t (a :: s) else _)), _)
            rw [if_pos hj]
            rw [evJ_n k1]
          cases a with
          | false => rw [if_pos zB_f]; exact fin _ rfl
          | true => rw [if_neg (show ¬ zB true = 0 by decide)]; exact fin _ rfl
      · match st, k3 with
        | c2 :: a :: s, _ =>
          have hl2 : s.length + 2 ≤ 31 := by simpa using hdp
          have e0 : nI (c2 :: a :: s).length + (-1) = nI (s.length + 1) := by
            rw [← Int32.sub_eq_add_neg]
            exact nI_pred _
          rw [e0, nI_pred, if_neg k1]
          have fin : ∀ x : Int32, x = zB (if t = -38 then (a && c2) else (a || c2)) → ∃ l', l'.length = 100 ∧ ((sA 3 (wA m 17 l) 17 (nI s.length) x).bind fun m31 => f_X7_holds_11 F' m31 (nI c) (nI p) (nI d) (nI (s.length + 1)) (nI b + 1)) = some (zB (evS (facT n pd y p d) (t :: ts) (c2 :: a :: s)), wA m 17 l') := by
            intro x hx
            rw [sA_at3 (by show s.length < l.length; omega) (by omega) (by rw [hx]; exact zB_z _), Option.bind_some, wA_wA, show mA (wA m 17 l) 17 = l from rfl, nI_1]
            have := ih (b + 1) ((if t = -38 then (a && c2) else (a || c2)) :: s) (l.set s.length x) F' (by omega) hs' k4 (by simp at hdp ⊢; omega) ⟨by rw [gd_same (by omega), hx], hl.2.2.set (Nat.le_refl _)⟩ (by rw [List.length_set]; exact h100) hF'
            obtain ⟨l', q1, q2⟩ := this
            refine ⟨l', q1, ?_⟩
            rw [show nI (s.length + 1) = nI ((if t = -38 then (a && c2) else (a || c2)) :: s).length from rfl, q2]
            show _ = some (zB (evS _ ts (if t = -33 ∨ t = -38 ∨ t = -124 then evJ t (c2 :: a :: s) else _)), _)
            rw [if_pos hj]
            rw [evJ_b k1]
          have ga : gA l (nI s.length) = some (zB a) := by rw [gA_at (by omega) (by omega), hl.2.1]
          have gc : gA l (nI (s.length + 1)) = some (zB c2) := by rw [gA_at (by omega) (by omega)]; exact congrArg some hl.1
          rw [ga, gc]
          rcases k2 with k2 | ⟨k2, k2'⟩
          · rw [if_neg (by rw [k2]; decide), if_pos k2, Option.bind_some]
            rw [if_pos k2] at fin
            cases a with
            | false => rw [if_pos zB_f]; exact fin _ rfl
            | true =>
              rw [if_neg (show ¬ zB true = 0 by decide), Option.bind_some]
              cases c2 with
              | false => rw [if_pos zB_f]; exact fin _ rfl
              | true => rw [if_neg (show ¬ zB true = 0 by decide)]; exact fin _ rfl
          · rw [if_neg (by rw [k2']; decide), if_neg k2, Option.bind_some]
            rw [if_neg k2] at fin
            cases a with
            | true => rw [if_neg (show ¬ zB true = 0 by decide)]; exact fin _ rfl
            | false =>
              rw [if_pos zB_f, Option.bind_some]
              cases c2 with
              | false => rw [if_pos zB_f]; exact fin _ rfl
              | true => rw [if_neg (show ¬ zB true = 0 by decide)]; exact fin _ rfl
    · obtain ⟨k1, ⟨f, s, r, hf, hs3, hr, rfl⟩, k3⟩ := wfc_t hw hj
      have hv : 1000 * f + 100 * s + r < 2 ^ 31 := by omega
      have hF2 : PMr (wA m 17 l) n pd := h
      have hfl := facT_lt (y := y) (f := f) h.2.1 hp hd
      rw [if_neg (fun z => hj (Or.inl z)), if_pos (show (0 : Int32) ≤ nI (1000 * f + 100 * s + r) from (nI_le (Nat.zero_le _) hv : nI 0 ≤ _)), show (1000 : Int32) = nI 1000 from rfl, dvI_at hv (by decide) (by decide), Option.bind_some, show (1000 * f + 100 * s + r) / 1000 = f by omega, m_factOf hF2 hp hd hy hy2 hf, bnd_some, show (100 : Int32) = nI 100 from rfl, dvI_at hv (by decide) (by decide), Option.bind_some, show (10 : Int32) = nI 10 from rfl, rmI_at (by omega) (by decide) (by decide), Option.bind_some, show (1000 * f + 100 * s + r) / 100 % 10 = s by omega, rmI_at hv (by decide) (by decide), Option.bind_some, show (1000 * f + 100 * s + r) % 100 = r by omega]
      have fin : ∀ x : Int32, x = zB (evT (facT n pd y p d) (nI (1000 * f + 100 * s + r))) → ∃ l', l'.length = 100 ∧ ((sA 3 (wA m 17 l) 17 (nI st.length) x).bind fun m31 => f_X7_holds_11 F' m31 (nI c) (nI p) (nI d) (nI st.length + 1) (nI b + 1)) = some (zB (evS (facT n pd y p d) (nI (1000 * f + 100 * s + r) :: ts) st), wA m 17 l') := by
        intro x hx
        rw [sA_at3 (by show st.length < l.length; omega) (by omega) (by rw [hx]; exact zB_z _), Option.bind_some, wA_wA, show mA (wA m 17 l) 17 = l from rfl, nI_1, nI_1]
        have := ih (b + 1) (evT (facT n pd y p d) (nI (1000 * f + 100 * s + r)) :: st) (l.set st.length x) F' (by omega) hs' k3 (by simp; omega) ⟨by rw [gd_same (by omega), hx], hl.set (Nat.le_refl _)⟩ (by rw [List.length_set]; exact h100) hF'
        obtain ⟨l', q1, q2⟩ := this
        refine ⟨l', q1, ?_⟩
        rw [show nI (st.length + 1) = nI (evT (facT n pd y p d) (nI (1000 * f + 100 * s + r)) :: st).length from rfl, q2]
        show _ = some (zB (evS _ ts (if _ ∨ _ ∨ _ then _ else _)), _)
        rw [if_neg hj]
      rw [evT_at hf hs3 hr] at fin
      generalize facT n pd y p d f = x at *
      match s, hs3 with
      | 0, _ =>
        rw [if_pos (show nI 0 = 0 from rfl)]
        by_cases e : x < r
        · rw [if_neg (nI_ge e (by omega))]; exact fin _ (by rw [if_pos rfl, decide_eq_true e]; rfl)
        · rw [if_pos (nI_le (by omega) (by omega))]; exact fin _ (by rw [if_pos rfl, decide_eq_false e]; rfl)
      | 1, _ =>
        rw [if_neg (show ¬ nI 1 = 0 by decide), if_pos (show nI 1 = 1 from rfl), Option.bind_some]
        by_cases e : x = r
        · rw [if_pos (congrArg nI e)]; exact fin _ (by rw [if_neg (by decide), if_pos rfl, decide_eq_true e]; rfl)
        · rw [if_neg (fun z => e ((nI_eq (by omega) (by omega)).mp z))]; exact fin _ (by rw [if_neg (by decide), if_pos rfl, decide_eq_false e]; rfl)
      | 2, _ =>
        rw [if_neg (show ¬ nI 2 = 0 by decide), if_neg (show ¬ nI 2 = 1 by decide), Option.bind_some]
        by_cases e : r < x
        · rw [if_neg (nI_ge e (by omega))]; exact fin _ (by rw [if_neg (by decide), if_neg (by decide), decide_eq_true e]; rfl)
        · rw [if_pos (nI_le (by omega) (by omega))]; exact fin _ (by rw [if_neg (by decide), if_neg (by decide), decide_eq_false e]; rfl)
end M
end TAKES
