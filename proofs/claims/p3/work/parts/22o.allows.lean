/-! WHAT ONE TAKES: the class's allows; the sums -/
section ALLOWS
variable {m : mM} {n : Nat} {pd : Nat → Nat → Nat}
theorem x_valueOf {c p d y f : Nat} (h : PXr m c n pd) (hb : BTr m n pd) (hc : mR m 2624 = c) (hy : mI m 2627 = nI y) (hy2 : y < 2 ^ 31) (hp : p < n) (hd : d < 12) (hf : f < 6) : f_X1_valueOf m (nI ([112, 107, 100, 99, 121, 98].getD f 0)) (nI p) (nI d) = some (nI (facT n pd y p d f), m) := by
  unfold f_X1_valueOf
  obtain ⟨g1, g2, g3, g4, g5, g6⟩ := h.g hp
  match f, hf with
  | 0, _ => rw [if_neg (show ¬ nI ([112, 107, 100, 99, 121, 98].getD 0 0) = 99 by decide), if_neg (show ¬ nI ([112, 107, 100, 99, 121, 98].getD 0 0) = 100 by decide), if_neg (show ¬ nI ([112, 107, 100, 99, 121, 98].getD 0 0) = 107 by decide), if_pos (show nI ([112, 107, 100, 99, 121, 98].getD 0 0) = 112 from rfl)]; rfl
  | 1, _ => rw [if_neg (show ¬ nI ([112, 107, 100, 99, 121, 98].getD 1 0) = 99 by decide), if_neg (show ¬ nI ([112, 107, 100, 99, 121, 98].getD 1 0) = 100 by decide), if_pos (show nI ([112, 107, 100, 99, 121, 98].getD 1 0) = 107 from rfl), hc, chR_t h.c, g1]; rfl
  | 2, _ => rw [if_neg (show ¬ nI ([112, 107, 100, 99, 121, 98].getD 2 0) = 99 by decide), if_pos (show nI ([112, 107, 100, 99, 121, 98].getD 2 0) = 100 from rfl)]; rfl
  | 3, _ => rw [if_pos (show nI ([112, 107, 100, 99, 121, 98].getD 3 0) = 99 from rfl), hb.g hd]; rfl
  | 4, _ => rw [if_neg (show ¬ nI ([112, 107, 100, 99, 121, 98].getD 4 0) = 99 by decide), if_neg (show ¬ nI ([112, 107, 100, 99, 121, 98].getD 4 0) = 100 by decide), if_neg (show ¬ nI ([112, 107, 100, 99, 121, 98].getD 4 0) = 107 by decide), if_neg (show ¬ nI ([112, 107, 100, 99, 121, 98].getD 4 0) = 112 by decide), if_pos (show nI ([112, 107, 100, 99, 121, 98].getD 4 0) = 121 from rfl), hy, show (10 : Int32) = nI 10 from rfl, rmI_at hy2 (by decide) (by decide)]; rfl
  | 5, _ => rw [if_neg (show ¬ nI ([112, 107, 100, 99, 121, 98].getD 5 0) = 99 by decide), if_neg (show ¬ nI ([112, 107, 100, 99, 121, 98].getD 5 0) = 100 by decide), if_neg (show ¬ nI ([112, 107, 100, 99, 121, 98].getD 5 0) = 107 by decide), if_neg (show ¬ nI ([112, 107, 100, 99, 121, 98].getD 5 0) = 112 by decide), if_neg (show ¬ nI ([112, 107, 100, 99, 121, 98].getD 5 0) = 121 by decide), hc, chR_t h.c, g3]; rfl
/-- a step of the class -/
def STx (m : mM) (a k : Nat) (t : Int32) : Prop := cdX ((mA m (a + 1)).getD k 0) ((mA m (a + 2)).getD k 0) ((mA m (a + 3)).getD k 0) = t ∧
    (((mA m (a + 1)).getD k 0 = 33 ∨ (mA m (a + 1)).getD k 0 = 38 ∨ (mA m (a + 1)).getD k 0 = 124) ∨ ∃ f s r, f < 6 ∧ s < 3 ∧ r < 100 ∧ (mA m (a + 1)).getD k 0 = nI ([112, 107, 100, 99, 121, 98].getD f 0) ∧ (mA m (a + 2)).getD k 0 = nI (60 + s) ∧ (mA m (a + 3)).getD k 0 = nI r)
theorem ltF_at {f : Nat} (hf : f < 6) : ltF (nI ([112, 107, 100, 99, 121, 98].getD f 0)) = f ∧ ¬ nI ([112, 107, 100, 99, 121, 98].getD f 0) = 33 ∧ ¬ nI ([112, 107, 100, 99, 121, 98].getD f 0) = 38 ∧ ¬ nI ([112, 107, 100, 99, 121, 98].getD f 0) = 124 := by
  match f, hf with
  | 0, _ => decide
  | 1, _ => decide
  | 2, _ => decide
  | 3, _ => decide
  | 4, _ => decide
  | 5, _ => decide
theorem cdX_at {f s r : Nat} (hf : f < 6) (hs : s < 3) : cdX (nI ([112, 107, 100, 99, 121, 98].getD f 0)) (nI (60 + s)) (nI r) = nI (1000 * f + 100 * s + r) := by
  obtain ⟨e1, e2, e3, e4⟩ := ltF_at hf
  have e5 : nI (60 + s) - 60 = nI s := by
    match s, hs with
    | 0, _ => decide
    | 1, _ => decide
    | 2, _ => decide
  unfold cdX
  rw [if_neg (fun z => by rcases z with z | z | z; exact e2 z; exact e3 z; exact e4 z), e1, e5, show (100 : Int32) = nI 100 from rfl, pk_mul, nI_add, nI_add]
theorem x_allows_lp {c p d y a e : Nat} (h : PXr m c n pd) (hb : BTr m n pd) (hc : mR m 2624 = c) (hy : mI m 2627 = nI y) (hy2 : y < 2 ^ 31) (hp : p < n) (hd : d < 12) (hX : TXh m a) (he : e ≤ 100) : ∀ (us : List Int32) (b : Nat) (st : List Bool) (v : Int32) (F : Nat), b + us.length = e → (∀ k, k < us.length → STx m a (b + k) (us.getD k 0)) → wfc st.length us → st.length ≤ 31 → BT v st → us.length < F → f_X1_allows_6 F m a (nI e) (nI p) (nI d) v (nI b) = some (zB (evS (facT n pd y p d) us st), m) := by
  intro us
  induction us with
  | nil =>
    intro b st v F hbe hs hw hdp hv hF
    obtain ⟨F', rfl⟩ : ∃ F', F = F' + 1 := ⟨F - 1, by omega⟩
    obtain rfl : b = e := hbe
    show fb_X1_allows_6 _ _ _ _ _ _ _ _ = _
    unfold fb_X1_allows_6
    rw [if_pos (nI_le (Nat.le_refl _) (by omega))]
    show _ = some (zB (st.getD 0 false), m)
    cases hz : st.getD 0 false with
    | true => rw [if_pos (hv.top.mpr hz)]; rfl
    | false => rw [if_neg (fun z => by rw [hv.top.mp z] at hz; cases hz)]; rfl
  | cons t ts ih =>
    intro b st v F hbe hs hw hdp hv hF
    obtain ⟨F', rfl⟩ : ∃ F', F = F' + 1 := ⟨F - 1, by omega⟩
    have hb' : b + ts.length + 1 = e := by rw [← hbe, List.length_cons]; omega
    have ht0 : STx m a b t := by have := hs 0 (by simp); simpa using this
    have hs' : ∀ k, k < ts.length → STx m a (b + 1 + k) (ts.getD k 0) := fun k hk => by
      have := hs (k + 1) (by simp; omega)
      rw [show b + 1 + k = b + (k + 1) by omega]; simpa using this
    have hF' : ts.length < F' := by simp at hF; omega
    obtain ⟨x1, x2, x3, -, -⟩ := hX
    show fb_X1_allows_6 _ _ _ _ _ _ _ _ = _
    unfold fb_X1_allows_6
    rw [if_neg (nI_ge (by omega) (by omega)), gA_at (by omega) (by omega), Option.bind_some]
    obtain ⟨q1, q2⟩ := ht0
    rcases q2 with q2 | ⟨f, s, r, hf, hs3, hr, k1, k2, k3⟩
    · have q1' : -(mA m (a + 1)).getD b 0 = t := by unfold cdX at q1; rw [if_pos q2] at q1; exact q1
      have hj : t = -33 ∨ t = -38 ∨ t = -124 := by
        rcases q2 with z | z | z <;> rw [z] at q1'
        · exact Or.inl q1'.symm
        · exact Or.inr (Or.inl q1'.symm)
        · exact Or.inr (Or.inr q1'.symm)
      have e2 : evS (facT n pd y p d) (t :: ts) st = evS (facT n pd y p d) ts (evJ t st) := by
        show evS _ ts (if _ ∨ _ ∨ _ then _ else _) = _
        rw [if_pos hj]
      rw [e2]
      rcases wfc_j hw hj with ⟨w1, w2, w3⟩ | ⟨w1, w2, w3, w4⟩
      · match st, w2 with
        | o :: u, _ =>
          have e3 : (mA m (a + 1)).getD b 0 = 33 := by
            rcases q2 with z | z | z
            · exact z
            · rw [z, w1] at q1'; exact absurd q1' (by decide)
            · rw [z, w1] at q1'; exact absurd q1' (by decide)
          rw [if_pos e3, nmI_eq, evJ_n w1, nI_1]
          exact ih (b + 1) _ _ F' (by omega) hs' w3 hdp hv.not hF'
      · match st, w3 with
        | o :: o2 :: u, _ =>
          have hl2 : u.length ≤ 29 := by simp at hdp; omega
          rw [evJ_b w1]
          rcases w2 with w2 | ⟨w2, w2'⟩
          · have e3 : (mA m (a + 1)).getD b 0 = 38 := by
              rcases q2 with z | z | z
              · rw [z, w2] at q1'; exact absurd q1' (by decide)
              · exact z
              · rw [z, w2] at q1'; exact absurd q1' (by decide)
            rw [e3, if_neg (by decide), if_pos rfl, nmI_eq, if_pos w2, nI_1]
            exact ih (b + 1) _ _ F' (by omega) hs' w4 (by simp at hdp ⊢; omega) (hv.and hl2) hF'
          · have e3 : (mA m (a + 1)).getD b 0 = 124 := by
              rcases q2 with z | z | z
              · rw [z, w2'] at q1'; exact absurd q1' (by decide)
              · rw [z, w2'] at q1'; exact absurd q1' (by decide)
              · exact z
            rw [e3, if_neg (by decide), if_neg (by decide), if_pos rfl, nmI_eq, if_neg w2, nI_1]
            exact ih (b + 1) _ _ F' (by omega) hs' w4 (by simp at hdp ⊢; omega) (hv.or hl2) hF'
    · have q1' : t = nI (1000 * f + 100 * s + r) := by rw [← q1, k1, k2, k3, cdX_at hf hs3]
      subst q1'
      have hj : ¬ (nI (1000 * f + 100 * s + r) = -33 ∨ nI (1000 * f + 100 * s + r) = -38 ∨ nI (1000 * f + 100 * s + r) = -124) := nI_nj (by omega)
      have e2 : evS (facT n pd y p d) (nI (1000 * f + 100 * s + r) :: ts) st = evS (facT n pd y p d) ts (evT (facT n pd y p d) (nI (1000 * f + 100 * s + r)) :: st) := by
        show evS _ ts (if _ ∨ _ ∨ _ then _ else _) = _
        rw [if_neg hj]
      obtain ⟨w1, -, w3⟩ := wfc_t hw hj
      obtain ⟨l1, l2, l3, l4⟩ := ltF_at hf
      have hfl := facT_lt (y := y) (f := f) h.2.2.1 hp hd
      have fin : ∀ q, q < 3 → decide (q = s) = evT (facT n pd y p d) (nI (1000 * f + 100 * s + r)) → f_X1_allows_127 (fun m y1 y3 y4 y5 y6 y7 => f_X1_allows_6 F' m y1 y3 y4 y5 y6 y7) m a (nI e) (nI p) (nI d) v (nI b) (nI (60 + q)) = some (zB (evS (facT n pd y p d) (nI (1000 * f + 100 * s + r) :: ts) st), m) := by
        intro q hq hqs
        unfold f_X1_allows_127
        rw [gA_at (by omega) (by omega), k2, Option.bind_some, e2, ← hqs, nI_1]
        by_cases z : q = s
        · rw [if_pos (congrArg nI (congrArg (60 + ·) z)), nmI_eq, decide_eq_true z]
          exact ih (b + 1) _ _ F' (by omega) hs' w3 (by simp; omega) (hv.push (b := true)) hF'
        · rw [if_neg (fun w => z (by have := (nI_eq (by omega) (by omega)).mp w; omega)), nmI_eq, decide_eq_false z]
          exact ih (b + 1) _ _ F' (by omega) hs' w3 (by simp; omega) (hv.push (b := false)) hF'
      rw [k1, if_neg l2, if_neg l3, if_neg l4, x_valueOf h hb hc hy hy2 hp hd hf, bnd_some, gA_at (by omega) (by omega), k3, Option.bind_some]
      rw [evT_at hf hs3 hr] at fin
      generalize facT n pd y p d f = x at *
      have fs : s = 0 ∨ s = 1 ∨ s = 2 := by omega
      by_cases o1 : r ≤ x
      · rw [if_pos (nI_le o1 (by omega))]
        by_cases o2 : x = r
        · rw [if_pos (congrArg nI o2)]
          refine fin 1 (by decide) ?_
          rcases fs with rfl | rfl | rfl <;> simp <;> omega
        · rw [if_neg (fun z => o2 ((nI_eq (by omega) (by omega)).mp z))]
          refine fin 2 (by decide) ?_
          rcases fs with rfl | rfl | rfl <;> simp <;> omega
      · rw [if_neg (nI_ge (by omega) (by omega))]
        refine fin 0 (by decide) ?_
        rcases fs with rfl | rfl | rfl <;> simp <;> omega
/-- the sum of what the takes give -/
def tkV (F : Nat → Nat) : List (Nat × List Int32) → Int32 → Int32
  | [], s => 10 * s
  | c :: cs, s => tkV F cs (if evS F c.2 [] = true then s + nI c.1 else s)
def takV (F : Nat → Nat) (tk : List (Nat × List Int32)) : Int32 := if tk = [] then 100 else tkV F tk 0
theorem tkE0 {L : List (Nat × List Int32)} : tkE L 0 = 0 := by cases L <;> rfl
theorem tkE_s {L : List (Nat × List Int32)} : ∀ {i : Nat}, i < L.length → tkE L (i + 1) = tkE L i + (L.getD i (0, [])).2.length := by
  induction L with
  | nil => intro i h; exact absurd h (by simp)
  | cons c cs ih =>
    intro i h
    cases i with
    | zero => show c.2.length + tkE cs 0 = 0 + _; cases cs <;> simp [tkE]
    | succ i =>
      show c.2.length + tkE cs (i + 1) = c.2.length + tkE cs i + _
      rw [ih (by simpa using h)]; simp; omega
theorem tkE_le {L : List (Nat × List Int32)} : ∀ {j i : Nat}, i + j = L.length → tkE L i ≤ tkE L L.length := by
  intro j
  induction j with
  | zero => intro i h; rw [← h]; exact Nat.le_refl _
  | succ j ih =>
    intro i h
    have := ih (i := i + 1) (by omega)
    rw [tkE_s (by omega)] at this; omega
theorem x_takes_lp {c p d y a t : Nat} {cs : List CL} (h : PXr m c n pd) (hb : BTr m n pd) (hc : mR m 2624 = c) (hy : mI m 2627 = nI y) (hy2 : y < 2 ^ 31) (hp : p < n) (hd : d < 12) (hX : TXh m a) {T : TW} (hT : TXe m a T) (hw : ∀ x ∈ T.2.2.2, wfc 0 x.2) (hl : T.2.2.2.length ≤ 10) : ∀ (j i : Nat) (s : Int32) (F : Nat), i + j = T.2.2.2.length → j < F → f_X1_takes_27 F m (nI p) (nI d) a s (nI (tkE T.2.2.2 i)) (nI i) = some (tkV (facT n pd y p d) (T.2.2.2.drop i) s, m) := by
  intro j
  obtain ⟨⟨t1, t2, t3, t4⟩, t5, t6, t7⟩ := hT
  induction j with
  | zero =>
    intro i s F hi hF
    obtain ⟨F', rfl⟩ : ∃ F', F = F' + 1 := ⟨F - 1, by omega⟩
    show fb_X1_takes_27 _ _ _ _ _ _ _ _ = _
    unfold fb_X1_takes_27
    rw [t4, if_pos (nI_le (by omega) (by omega)), List.drop_of_length_le (by omega)]; rfl
  | succ j ih =>
    intro i s F hi hF
    obtain ⟨F', rfl⟩ : ∃ F', F = F' + 1 := ⟨F - 1, by omega⟩
    show fb_X1_takes_27 _ _ _ _ _ _ _ _ = _
    unfold fb_X1_takes_27
    obtain ⟨g1, g2⟩ := t5 i (by omega)
    have hle := tkE_le (L := T.2.2.2) (j := j) (i := i + 1) (by omega)
    have hsu := tkE_s (L := T.2.2.2) (i := i) (by omega)
    have hmem : T.2.2.2.getD i (0, []) ∈ T.2.2.2 := by
      rw [List.getD_eq_getElem?_getD, List.getElem?_eq_getElem (by omega)]
      exact List.getElem_mem _
    have hal := x_allows_lp h hb hc hy hy2 hp hd hX (e := tkE T.2.2.2 (i + 1)) (by omega) (T.2.2.2.getD i (0, [])).2 (tkE T.2.2.2 i) [] 0 1000 (by omega) (fun k hk => t7 i (by omega) k hk) (hw _ hmem) (by simp) (fun i hi => by
      show (0#32).getLsbD i = _
      simp) (by omega)
    obtain ⟨x1, x2, x3, x4, x5⟩ := hX
    rw [t4, if_neg (nI_ge (by omega) (by omega)), gA_at (by omega) (by omega), g2, Option.bind_some]
    show bnd (f_X1_allows_6 1000 m a (nI (tkE T.2.2.2 (i + 1))) (nI p) (nI d) 0 (nI (tkE T.2.2.2 i))) _ = _
    rw [hal, bnd_some, dropD (d := (0, [])) (show i < T.2.2.2.length by omega), tkV]
    cases evS (facT n pd y p d) (T.2.2.2.getD i (0, [])).2 [] with
    | false =>
      rw [if_pos zB_f, if_neg Bool.false_ne_true]
      unfold f_X1_takes_67
      rw [gA_at (by omega) (by omega), g2, Option.bind_some, nI_1]
      exact ih (i + 1) s F' (by omega) (by omega)
    | true =>
      rw [if_neg (show ¬ zB true = 0 by decide), if_pos rfl, gA_at (by omega) (by omega), g1, Option.bind_some, nmI_eq]
      unfold f_X1_takes_67
      rw [gA_at (by omega) (by omega), g2, Option.bind_some, nI_1]
      exact ih (i + 1) _ F' (by omega) (by omega)
theorem clTk_len : ∀ {cs : List CL}, (clTk cs).length ≤ cs.length
  | [] => Nat.le_refl _
  | c :: cs => by
    have := clTk_len (cs := cs)
    unfold clTk
    split <;> simp <;> omega
theorem clTk_ok : ∀ {cs : List CL}, (∀ c ∈ cs, clOk c) → ∀ x ∈ clTk cs, wfc 0 x.2
  | [], _, x, hx => absurd hx (by simp [clTk])
  | c :: cs, h, x, hx => by
    have ih := clTk_ok (cs := cs) (fun c hc => h c (List.mem_cons_of_mem _ hc))
    unfold clTk at hx
    split at hx
    · rename_i z
      rcases List.mem_cons.mp hx with rfl | hx
      · exact (h c (List.mem_cons_self ..)).2.2 z
      · exact ih x hx
    · exact ih x hx
/-- the town of a state of the class -/
def TXr (m : mM) (c t : Nat) (cs : List CL) : Prop := t ≤ 6 ∧ mR m (64 * c + 4) = twA t ∧ TXh m (twA t) ∧ TXe m (twA t) (twOf cs) ∧ (∀ c ∈ cs, clOk c) ∧ cs.length ≤ 10
theorem x_takes {c p d y t : Nat} {cs : List CL} (h : PXr m c n pd) (hb : BTr m n pd) (hc : mR m 2624 = c) (hy : mI m 2627 = nI y) (hy2 : y < 2 ^ 31) (hp : p < n) (hd : d < 12) (ht : TXr m c t cs) : f_X1_takes m (nI p) (nI d) = some (takV (facT n pd y p d) (clTk cs), m) := by
  unfold f_X1_takes
  obtain ⟨t1, t2, t3, t4, t5, t6⟩ := ht
  have hl := clTk_len (cs := cs)
  rw [hc, chR_t h.c, t2, chR_t (twA_ok t1), show mI m (64 * twA t + 3) = nI (clTk cs).length from t4.1.2.2.2]
  unfold takV
  by_cases e : clTk cs = []
  · rw [if_pos e, if_pos (by rw [e]; rfl)]
  · rw [if_neg e, if_neg (fun z => e (List.length_eq_zero_iff.mp ((nI_z (by omega)).mp z)))]
    have r := x_takes_lp (t := t) (cs := cs) h hb hc hy hy2 hp hd t3 t4 (clTk_ok t5) (by show (clTk cs).length ≤ 10; omega) (clTk cs).length 0 0 1000 (by show 0 + _ = (clTk cs).length; omega) (by omega)
    rw [tkE0, List.drop_zero] at r
    exact r
theorem m_takes {p d y tw : Nat} {cs : List CL} (h : PT m n pd tw cs) (h17 : (mA m 17).length = 100) (hp : p < n) (hd : d < 12) (hy : mI m 2 = nI y) (hy2 : y < 2 ^ 31) : ∃ l : List Int32, l.length = 100 ∧ f_X7_takesOf m (nI p) (nI d) = some (takV (facT n pd y p d) (clTk cs), wA m 17 l) := by
  unfold f_X7_takesOf
  rw [m_clauseFrom h.2, bnd_some]
  have hl := h.2.len
  have htw := h.2.1
  have main : ∀ (j c : Nat) (s : Int32) (q : Bool) (l : List Int32) (F : Nat), c + j = cs.length → j < F → l.length = 100 → ∃ l' : List Int32, l'.length = 100 ∧ f_X7_takesOf_11 F (wA m 17 l) (nI p) (nI d) s (zB q) (nI (10 * (tw - 1) + c)) = some (if q = false ∧ clTk (cs.drop c) = [] then 100 else tkV (facT n pd y p d) (clTk (cs.drop c)) s, wA m 17 l') := by
    intro j
    induction j with
    | zero =>
      intro c s q l F hc hF hl1
      obtain ⟨F', rfl⟩ : ∃ F', F = F' + 1 := ⟨F - 1, by omega⟩
      have hM : MCl (wA m 17 l) tw cs := h.2
      refine ⟨l, hl1, ?_⟩
      show fb_X7_takesOf_11 _ _ _ _ _ _ _ = _
      unfold fb_X7_takesOf_11
      rw [m_clauseTo hM, bnd_some, if_pos (nI_le (by omega) (by omega)), List.drop_of_length_le (by omega)]
      cases q with
      | false => rw [if_pos zB_f, if_pos ⟨rfl, rfl⟩]
      | true => rw [if_neg (show ¬ zB true = 0 by decide), if_neg (fun z => by cases z.1)]; rfl
    | succ j ih =>
      intro c s q l F hc hF hl1
      obtain ⟨F', rfl⟩ : ∃ F', F = F' + 1 := ⟨F - 1, by omega⟩
      have hM : MCl (wA m 17 l) tw cs := h.2
      have hP : PMr (wA m 17 l) n pd := h.1
      have hok := hM.ok (c := c) (by omega)
      have hk1 := hok.1
      show ∃ l' : List Int32, l'.length = 100 ∧ fb_X7_takesOf_11 _ _ _ _ _ _ _ = _
      unfold fb_X7_takesOf_11
      rw [m_clauseTo hM, bnd_some, if_neg (nI_ge (by omega) (by omega)), (hM.at (c := c) (by omega)).1, Option.bind_some, dropD (d := (0, 0, [])) (show c < cs.length by omega), clTk]
      by_cases e : (cs.getD c (0, 0, [])).1 = 0
      · rw [if_pos ((nI_z (by omega)).mpr e), if_pos e]
        have ht : 0 < tw := by
          rcases tw with _ | t
          · rw [h.2.2.2.2.2.1 rfl] at hc; simp at hc
          · omega
        obtain ⟨k1, k2, k3⟩ := h.2.2.2.2.2.2 ht
        obtain ⟨a, b1, b2, b3, b4⟩ := (k3 c (by omega)).2.2 e
        have hmh := h.2.2.2.1
        obtain ⟨l', q1, q2⟩ := m_holds_lp (m := wA m 17 l) (c := 10 * (tw - 1) + c) hP hp hd hy hy2 (by rw [show mA (wA m 17 l) 13 = mA m 13 from rfl, gA_at (by rw [hmh.2.2.2.2.1]; omega) (by omega), b3]) hmh.2.2.2.2.2.1 (by omega) (cs.getD c (0, 0, [])).2.2 a [] l 1000 rfl b4 (hok.2.2 e) (by simp) trivial hl1 (by omega)
        have q3 : f_X7_holds (wA m 17 l) (nI (10 * (tw - 1) + c)) (nI p) (nI d) = some (zB (evS (facT n pd y p d) (cs.getD c (0, 0, [])).2.2 []), wA m 17 l') := by
          unfold f_X7_holds
          rw [show mA (wA m 17 l) 12 = mA m 12 from rfl, gA_at (by rw [hmh.2.2.2.1]; omega) (by omega), b2, Option.bind_some]
          rw [wA_wA, wA_wA] at q2
          exact q2
        rw [q3, bnd_some]
        have hM' : MCl (wA m 17 l') tw cs := h.2
        have fin : ∀ s' : Int32, s' = (if evS (facT n pd y p d) (cs.getD c (0, 0, [])).2.2 [] = true then s + nI (cs.getD c (0, 0, [])).2.1 else s) → ∃ l'' : List Int32, l''.length = 100 ∧ f_X7_takesOf_11 F' (wA m 17 l') (nI p) (nI d) s' 1 (nI (10 * (tw - 1) + c) + 1) = some (if q = false ∧ ((cs.getD c (0, 0, [])).2.1, (cs.getD c (0, 0, [])).2.2) :: clTk (cs.drop (c + 1)) = [] then 100 else tkV (facT n pd y p d) (((cs.getD c (0, 0, [])).2.1, (cs.getD c (0, 0, [])).2.2) :: clTk (cs.drop (c + 1))) s, wA m 17 l'') := by
          intro s' hs'
          obtain ⟨l'', r1, r2⟩ := ih (c + 1) s' true l' F' (by omega) (by omega) q1
          refine ⟨l'', r1, ?_⟩
          rw [nI_1, show (1 : Int32) = zB true from rfl, Nat.add_assoc, r2, if_neg (fun z => by cases z.1), if_neg (fun z => by cases z.2), tkV, hs']
        cases hz : evS (facT n pd y p d) (cs.getD c (0, 0, [])).2.2 [] with
        | false =>
          rw [if_pos zB_f, nmI_eq]
          exact fin _ (by rw [hz, if_neg Bool.false_ne_true, Int32.add_zero])
        | true =>
          rw [if_neg (show ¬ zB true = 0 by decide), (hM'.at (c := c) (by omega)).2, Option.bind_some, nmI_eq]
          exact fin _ (by rw [hz, if_pos rfl])
      · rw [if_neg (fun z => e ((nI_z (by omega)).mp z)), if_neg e, nI_1, Nat.add_assoc]
        exact ih (c + 1) s q l F' (by omega) (by omega) hl1
  have e0 : wA m 17 (mA m 17) = m := wA_self
  obtain ⟨l', r1, r2⟩ := main cs.length 0 0 false (mA m 17) 1000 (by omega) (by omega) h17
  refine ⟨l', r1, ?_⟩
  rw [e0] at r2
  refine r2.trans ?_
  unfold takV
  rw [List.drop_zero]
  by_cases e : clTk cs = []
  · rw [if_pos ⟨rfl, e⟩, if_pos e]
  · rw [if_neg (fun z => e z.2), if_neg e]
end ALLOWS
