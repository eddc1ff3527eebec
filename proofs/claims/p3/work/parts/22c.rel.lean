/-! TOWNS: clauses (word: 0 take, 1 due, 2 cost, 3 feast; number; the steps of its E), and what goes together -/
abbrev CL : Type := Nat × Nat × List Int32
/-- due, cost, feast, the takes -/
abbrev TW : Type := Nat × Nat × Nat × List (Nat × List Int32)
def clLast (w d : Nat) : List CL → Nat
  | [] => d
  | c :: cs => clLast w (if c.1 = w then c.2.1 else d) cs
def clTk : List CL → List (Nat × List Int32)
  | [] => []
  | c :: cs => if c.1 = 0 then (c.2.1, c.2.2) :: clTk cs else clTk cs
def twOf (cs : List CL) : TW := (clLast 1 10 cs, clLast 2 1 cs, clLast 3 99 cs, clTk cs)
/-- the steps, from a depth on: they end with one, never more than 31 -/
def wfc : Nat → List Int32 → Prop
  | d, [] => d = 1
  | d, t :: ts => (t = -33 ∧ 1 ≤ d ∧ wfc d ts) ∨ ((t = -38 ∨ t = -124) ∧ 2 ≤ d ∧ wfc (d - 1) ts) ∨ (d < 31 ∧ (∃ f s r, f < 6 ∧ s < 3 ∧ r < 100 ∧ t = nI (1000 * f + 100 * s + r)) ∧ wfc (d + 1) ts)
def clOk (c : CL) : Prop := c.1 < 4 ∧ c.2.1 < 100 ∧ (c.1 = 0 → wfc 0 c.2.2)
/-- a letter's fact -/
def ltF (l : Int32) : Nat := if l = 112 then 0 else if l = 107 then 1 else if l = 100 then 2 else if l = 99 then 3 else if l = 121 then 4 else 5
/-- a step of the class as the reference's -/
def cdX (l r : Int32) (n : Int32) : Int32 := if l = 33 ∨ l = 38 ∨ l = 124 then -l else nI (1000 * ltF l) + 100 * (r - 60) + n
def TXh (m : mM) (a : Nat) : Prop := (mA m (a + 1)).length = 100 ∧ (mA m (a + 2)).length = 100 ∧ (mA m (a + 3)).length = 100 ∧ (mA m (a + 4)).length = 10 ∧ (mA m (a + 5)).length = 10
/-- where the takes end -/
def tkE : List (Nat × List Int32) → Nat → Nat
  | _, 0 => 0
  | [], _ + 1 => 0
  | c :: cs, k + 1 => c.2.length + tkE cs k
def TXe (m : mM) (a : Nat) (T : TW) : Prop :=
  (mI m (64 * a + 0) = nI T.1 ∧ mI m (64 * a + 1) = nI T.2.1 ∧ mI m (64 * a + 2) = nI T.2.2.1 ∧ mI m (64 * a + 3) = nI T.2.2.2.length) ∧
  (∀ i, i < T.2.2.2.length → (mA m (a + 4)).getD i 0 = nI (T.2.2.2.getD i (0, [])).1 ∧ (mA m (a + 5)).getD i 0 = nI (tkE T.2.2.2 (i + 1))) ∧
  tkE T.2.2.2 T.2.2.2.length ≤ 100 ∧
  ∀ i, i < T.2.2.2.length → ∀ k, k < (T.2.2.2.getD i (0, [])).2.length → cdX ((mA m (a + 1)).getD (tkE T.2.2.2 i + k) 0) ((mA m (a + 2)).getD (tkE T.2.2.2 i + k) 0) ((mA m (a + 3)).getD (tkE T.2.2.2 i + k) 0) = (T.2.2.2.getD i (0, [])).2.getD k 0 ∧
    (((mA m (a + 1)).getD (tkE T.2.2.2 i + k) 0 = 33 ∨ (mA m (a + 1)).getD (tkE T.2.2.2 i + k) 0 = 38 ∨ (mA m (a + 1)).getD (tkE T.2.2.2 i + k) 0 = 124) ∨ ∃ f s r, f < 6 ∧ s < 3 ∧ r < 100 ∧ (mA m (a + 1)).getD (tkE T.2.2.2 i + k) 0 = nI ([112, 107, 100, 99, 121, 98].getD f 0) ∧ (mA m (a + 2)).getD (tkE T.2.2.2 i + k) 0 = nI (60 + s) ∧ (mA m (a + 3)).getD (tkE T.2.2.2 i + k) 0 = nI r)
def TMh (m : mM) : Prop := (mA m 9).length = 6 ∧ (mA m 10).length = 60 ∧ (mA m 11).length = 60 ∧ (mA m 12).length = 60 ∧ (mA m 13).length = 60 ∧ (mA m 14).length = 600 ∧ (mA m 15).length = 101 ∧ mA m 16 = [116, 97, 107, 101, 100, 117, 101, 99, 111, 115, 116, 102, 101, 97, 115, 116]
/-- town k of the reference -/
def TMe (m : mM) (k : Nat) (cs : List CL) : Prop :=
  (mA m 9).getD k 0 = nI cs.length ∧ cs.length ≤ 10 ∧
  ∀ c, c < cs.length → (mA m 10).getD (10 * k + c) 0 = nI (cs.getD c (0, 0, [])).1 ∧ (mA m 11).getD (10 * k + c) 0 = nI (cs.getD c (0, 0, [])).2.1 ∧
    ((cs.getD c (0, 0, [])).1 = 0 → ∃ a, a + (cs.getD c (0, 0, [])).2.2.length ≤ 100 * (k + 1) ∧ (mA m 12).getD (10 * k + c) 0 = nI a ∧ (mA m 13).getD (10 * k + c) 0 = nI (a + (cs.getD c (0, 0, [])).2.2.length) ∧
      ∀ i, i < (cs.getD c (0, 0, [])).2.2.length → (mA m 14).getD (a + i) 0 = (cs.getD c (0, 0, [])).2.2.getD i 0)
/-- town t (0: none) -/
def TWr (mx mm : mM) (t : Nat) (cs : List CL) : Prop := (∀ c ∈ cs, clOk c) ∧ TXe mx (twA t) (twOf cs) ∧ (t = 0 → cs = []) ∧ (0 < t → TMe mm (t - 1) cs)
def R_twn (W : Nat) (mx mm : mM) : Prop := W ≤ 6 ∧ mI mx 8 = nI W ∧ mI mm 10 = nI W ∧ (∀ t, t ≤ 6 → TXh mx (twA t)) ∧ TMh mm ∧ ∀ t, t ≤ W → ∃ cs, TWr mx mm t cs
def R_now (mx mm : mM) (S : SS) : Prop := XSh mx 14 ∧ XS mx 14 S ∧ MSh mm ∧ MS mm S
def R_kep (W : Nat) (mx mm : mM) : Prop := XSh mx 23 ∧ MKh mm ∧ ∃ b : Bool, mI mx 3 = zB b ∧ mI mm 40 = zB b ∧ (b = true → ∃ K, XS mx 23 K ∧ MK mm K ∧ SOK W K)
def R_scX (mx : mM) : Prop := XSh mx 32 ∧ (mA mx 1).length = 12 ∧ (mA mx 42).length = 7 ∧ (mA mx 43).length = 7 ∧ (mA mx 44).length = 7 ∧ (mA mx 45).length = 12
def R_scM (mm : mM) : Prop := (mA mm 17).length = 100 ∧ (mA mm 18).length = 7 ∧ (mA mm 19).length = 7 ∧ (mA mm 20).length = 7 ∧ (mA mm 21).length = 7 ∧ (mA mm 22).length = 7 ∧ mI mm 27 = -1
def R_txt (mx mm : mM) : Prop := (mA mx 3).length = 100 ∧ (mA mm 8).length = 100 ∧ ∃ (L : Nat) (ch : Nat → Nat), L ≤ 100 ∧ mI mx 129 = nI L ∧ mI mm 12 = nI L ∧ ∀ i, i < L → (mA mx 3).getD i 0 = nI (ch i) ∧ (mA mm 8).getD i 0 = nI (ch i) ∧ ch i < 128
def R_act (mx mm : mM) : Prop := (mA mx 6).length = 20 ∧ (mA mm 32).length = 20 ∧ ∃ r, r < 1000 ∧ mI mx 321 = nI r ∧ mI mm 54 = nI r ∧ ∀ i, i < 20 → i < r → (mA mx 6).getD i 0 = (mA mm 32).getD i 0
/-- tape t: its sort (one more), length, items -/
def TPr (mx mm : mM) (t : Nat) : Prop := ∃ s l, s ≤ 5 ∧ l ≤ 60 ∧ (s = 0 → l = 0) ∧ mI mx (64 * (82 + 2 * t) + 0) = nI s - 1 ∧ (mA mm 33).getD t 0 = nI s - 1 ∧ mI mx (64 * (82 + 2 * t) + 1) = nI l ∧ (mA mm 34).getD t 0 = nI l ∧ (mL mx (82 + 2 * t + 1)).length = 60 ∧ ∀ i, i < l → (mL mx (82 + 2 * t + 1)).getD i 0 = (mL mm 35).getD (60 * t + i) 0
def R_tap (mx mm : mM) : Prop := (mA mm 33).length = 6 ∧ (mA mm 34).length = 6 ∧ (mL mm 35).length = 360 ∧ (mL mm 36).length = 60 ∧ ∀ t, t < 6 → TPr mx mm t
def RR (mx mm : mM) : Prop := ∃ W S, R_now mx mm S ∧ SOK W S ∧ R_kep W mx mm ∧ R_scX mx ∧ R_scM mm ∧ R_txt mx mm ∧ R_twn W mx mm ∧ R_act mx mm ∧ R_tap mx mm
def OPe {R : Type} (a b : fR R) : Prop := ∃ r mx' mm', a = some (r, mx') ∧ b = some (r, mm') ∧ RR mx' mm'
def OPt {R : Type} (a b : fR R) : Prop := ∃ r r' mx' mm', a = some (r, mx') ∧ b = some (r', mm') ∧ RR mx' mm'
/-! frames -/
theorem R_twn.fr {W : Nat} {mx mm mx' mm' : mM} (h : R_twn W mx mm) (h1 : ∀ k, k = 8 ∨ (512 ≤ k ∧ k < 576) ∨ (2944 ≤ k ∧ k < 5248) → mI mx' k = mI mx k) (h2 : ∀ c, (8 ≤ c ∧ c < 14) ∨ (46 ≤ c ∧ c < 82) → mA mx' c = mA mx c) (h3 : mI mm' 10 = mI mm 10) (h4 : ∀ c, 9 ≤ c ∧ c < 17 → mA mm' c = mA mm c) : R_twn W mx' mm' := by
  obtain ⟨g1, g2, g3, g4, g5, g6⟩ := h
  have hb : ∀ t, t ≤ 6 → (twA t = 8 ∨ (46 ≤ twA t ∧ twA t ≤ 76)) := fun t ht => by
    match t, ht with
    | 0, _ => exact Or.inl rfl
    | k + 1, ht => right; show 46 ≤ 46 + 6 * k ∧ 46 + 6 * k ≤ 76; omega
  have iI : ∀ t, t ≤ 6 → ∀ k, k < 64 → mI mx' (64 * twA t + k) = mI mx (64 * twA t + k) := fun t ht k hk => h1 _ (by have := hb t ht; omega)
  have iA : ∀ t, t ≤ 6 → ∀ k, k < 6 → mA mx' (twA t + k) = mA mx (twA t + k) := fun t ht k hk => h2 _ (by have := hb t ht; omega)
  refine ⟨g1, by rw [h1 8 (by omega)]; exact g2, by rw [h3]; exact g3, fun t ht => ?_, ?_, fun t ht => ?_⟩
  · have := g4 t ht
    unfold TXh at this ⊢
    rw [iA t ht 1 (by omega), iA t ht 2 (by omega), iA t ht 3 (by omega), iA t ht 4 (by omega), iA t ht 5 (by omega)]
    exact this
  · unfold TMh at g5 ⊢
    rw [h4 9 (by omega), h4 10 (by omega), h4 11 (by omega), h4 12 (by omega), h4 13 (by omega), h4 14 (by omega), h4 15 (by omega), h4 16 (by omega)]
    exact g5
  · have ht6 : t ≤ 6 := by omega
    obtain ⟨cs, k1, k2, k3, k4⟩ := g6 t ht
    refine ⟨cs, k1, ?_, k3, fun hp => ?_⟩
    · unfold TXe at k2 ⊢
      rw [iI t ht6 0 (by omega), iI t ht6 1 (by omega), iI t ht6 2 (by omega), iI t ht6 3 (by omega), iA t ht6 1 (by omega), iA t ht6 2 (by omega), iA t ht6 3 (by omega), iA t ht6 4 (by omega), iA t ht6 5 (by omega)]
      exact k2
    · have := k4 hp
      unfold TMe at this ⊢
      rw [h4 9 (by omega), h4 10 (by omega), h4 11 (by omega), h4 12 (by omega), h4 13 (by omega), h4 14 (by omega)]
      exact this
theorem R_tap.fr {mx mm mx' mm' : mM} (h : R_tap mx mm) (h1 : ∀ k, 5248 ≤ k ∧ k < 6016 → mI mx' k = mI mx k) (h2 : ∀ c, 82 ≤ c ∧ c < 94 → mL mx' c = mL mx c) (h3 : mA mm' 33 = mA mm 33 ∧ mA mm' 34 = mA mm 34) (h4 : mL mm' 35 = mL mm 35 ∧ mL mm' 36 = mL mm 36) : R_tap mx' mm' := by
  obtain ⟨g1, g2, g3, g4, g5⟩ := h
  refine ⟨by rw [h3.1]; exact g1, by rw [h3.2]; exact g2, by rw [h4.1]; exact g3, by rw [h4.2]; exact g4, fun t ht => ?_⟩
  have := g5 t ht
  unfold TPr at this ⊢
  rw [h1 (64 * (82 + 2 * t) + 0) (by omega), h1 (64 * (82 + 2 * t) + 1) (by omega), h2 (82 + 2 * t + 1) (by omega), h3.1, h3.2, h4.1]
  exact this
