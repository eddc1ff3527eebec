/-! THE MEMORY AS NUMBERS: a place of an int field is 64 times the cell and the field's number -/
abbrev mM : Type := (Nat → Int32) × (Nat → List Int32) × (Nat → List Int64) × (Nat → Nat)
def mI (m : mM) (n : Nat) : Int32 := m.1 n
def mA (m : mM) (c : Nat) : List Int32 := m.2.1 c
def mL (m : mM) (c : Nat) : List Int64 := m.2.2.1 c
def mR (m : mM) (n : Nat) : Nat := m.2.2.2 n
def wI (m : mM) (n : Nat) (v : Int32) : mM := (fun k => if k = n then v else m.1 k, m.2.1, m.2.2.1, m.2.2.2)
def wA (m : mM) (c : Nat) (v : List Int32) : mM := (m.1, fun k => if k = c then v else m.2.1 k, m.2.2.1, m.2.2.2)
def wL (m : mM) (c : Nat) (v : List Int64) : mM := (m.1, m.2.1, fun k => if k = c then v else m.2.2.1 k, m.2.2.2)
def wR (m : mM) (n : Nat) (v : Nat) : mM := (m.1, m.2.1, m.2.2.1, fun k => if k = n then v else m.2.2.2 k)
/-- how a cell is laid out: an object (class, its fields: 0 an int, 1 a reference that changes, else two more than the reference), an array of numbers (sort), of references -/
abbrev mY : Type := (Nat × List Nat) ⊕ (Nat ⊕ (Nat × List Nat))
def mF (m : mM) (c k f : Nat) : Value := match f with
  | 0 => .int (mI m (64 * c + k))
  | 1 => .ref (mR m (64 * c + k))
  | f + 2 => .ref f
def mE (m : mM) (c : Nat) (y : mY) : jEt := match y with
  | .inl (ci, fks) => .inr (ci, fks.mapIdx (fun k f => mF m c k f))
  | .inr (.inl t) => if t = 1 then .inl (1, .inr (.inl (mL m c))) else .inl (t, .inl (mA m c))
  | .inr (.inr (t, rs)) => .inl (t, .inr (.inr (rs.map some)))
def layX : List mY := [.inl (6, [16, 25, 34, 0, 43, 3, 4, 6, 0, 7, 9]),
  .inr (.inl 0),
  .inl (4, [5, 0, 0, 0]),
  .inr (.inl 2),
  .inr (.inr (4, [46, 52, 58, 64, 70, 76])),
  .inl (0, [8, 0, 0, 0, 0]),
  .inr (.inl 0),
  .inr (.inr (5, [82, 84, 86, 88, 90, 92])),
  .inl (5, [0, 0, 0, 0, 0, 11, 12, 13, 14, 15]),
  .inr (.inl 0),
  .inr (.inl 0),
  .inr (.inl 0),
  .inr (.inl 0),
  .inr (.inl 0),
  .inl (2, [0, 0, 0, 0, 1, 17, 18, 19, 20, 21, 22, 23, 24]),
  .inr (.inl 0),
  .inr (.inl 0),
  .inr (.inl 0),
  .inr (.inl 0),
  .inr (.inl 0),
  .inr (.inl 3),
  .inr (.inl 0),
  .inr (.inl 0),
  .inl (2, [0, 0, 0, 0, 1, 26, 27, 28, 29, 30, 31, 32, 33]),
  .inr (.inl 0),
  .inr (.inl 0),
  .inr (.inl 0),
  .inr (.inl 0),
  .inr (.inl 0),
  .inr (.inl 3),
  .inr (.inl 0),
  .inr (.inl 0),
  .inl (2, [0, 0, 0, 0, 1, 35, 36, 37, 38, 39, 40, 41, 42]),
  .inr (.inl 0),
  .inr (.inl 0),
  .inr (.inl 0),
  .inr (.inl 0),
  .inr (.inl 0),
  .inr (.inl 3),
  .inr (.inl 0),
  .inr (.inl 0),
  .inl (1, [1, 0, 0, 0, 0, 44, 45, 46, 47]),
  .inr (.inl 0),
  .inr (.inl 0),
  .inr (.inl 0),
  .inr (.inl 0),
  .inl (5, [0, 0, 0, 0, 0, 49, 50, 51, 52, 53]),
  .inr (.inl 0),
  .inr (.inl 0),
  .inr (.inl 0),
  .inr (.inl 0),
  .inr (.inl 0),
  .inl (5, [0, 0, 0, 0, 0, 55, 56, 57, 58, 59]),
  .inr (.inl 0),
  .inr (.inl 0),
  .inr (.inl 0),
  .inr (.inl 0),
  .inr (.inl 0),
  .inl (5, [0, 0, 0, 0, 0, 61, 62, 63, 64, 65]),
  .inr (.inl 0),
  .inr (.inl 0),
  .inr (.inl 0),
  .inr (.inl 0),
  .inr (.inl 0),
  .inl (5, [0, 0, 0, 0, 0, 67, 68, 69, 70, 71]),
  .inr (.inl 0),
  .inr (.inl 0),
  .inr (.inl 0),
  .inr (.inl 0),
  .inr (.inl 0),
  .inl (5, [0, 0, 0, 0, 0, 73, 74, 75, 76, 77]),
  .inr (.inl 0),
  .inr (.inl 0),
  .inr (.inl 0),
  .inr (.inl 0),
  .inr (.inl 0),
  .inl (5, [0, 0, 0, 0, 0, 79, 80, 81, 82, 83]),
  .inr (.inl 0),
  .inr (.inl 0),
  .inr (.inl 0),
  .inr (.inl 0),
  .inr (.inl 0),
  .inl (3, [0, 0, 85]),
  .inr (.inl 1),
  .inl (3, [0, 0, 87]),
  .inr (.inl 1),
  .inl (3, [0, 0, 89]),
  .inr (.inl 1),
  .inl (3, [0, 0, 91]),
  .inr (.inl 1),
  .inl (3, [0, 0, 93]),
  .inr (.inl 1),
  .inl (3, [0, 0, 95]),
  .inr (.inl 1)]
def layM : List mY := [.inl (7, [0, 0, 0, 3, 4, 5, 6, 7, 8, 9, 0, 0, 0, 0, 0, 10, 11, 12, 13, 14, 15, 16, 17, 0, 0, 0, 18, 0, 19, 20, 21, 0, 0, 22, 0, 0, 23, 24, 0, 25, 0, 0, 0, 0, 0, 0, 26, 27, 28, 29, 30, 31, 32, 33, 0, 34, 35, 36, 37, 38]),
  .inr (.inl 0),
  .inr (.inl 0),
  .inr (.inl 0),
  .inr (.inl 0),
  .inr (.inl 0),
  .inr (.inl 0),
  .inr (.inl 3),
  .inr (.inl 0),
  .inr (.inl 0),
  .inr (.inl 0),
  .inr (.inl 0),
  .inr (.inl 0),
  .inr (.inl 0),
  .inr (.inl 0),
  .inr (.inl 0),
  .inr (.inl 0),
  .inr (.inl 3),
  .inr (.inl 0),
  .inr (.inl 0),
  .inr (.inl 0),
  .inr (.inl 0),
  .inr (.inl 0),
  .inr (.inl 0),
  .inr (.inl 0),
  .inr (.inl 0),
  .inr (.inl 0),
  .inr (.inl 0),
  .inr (.inl 0),
  .inr (.inl 0),
  .inr (.inl 0),
  .inr (.inl 3),
  .inr (.inl 0),
  .inr (.inl 0),
  .inr (.inl 0),
  .inr (.inl 1),
  .inr (.inl 1)]
def lay (w : Bool) : List mY := match w with | true => layX | false => layM
def mH (w : Bool) (m : mM) : jH := (lay w).mapIdx (fun c y => mE m c y)
theorem lay_ok : ∀ {w : Bool} {c ci : Nat} {fks : List Nat}, (lay w)[c]? = some (.inl (ci, fks)) → fks.length ≤ 64 := by
  intro w c ci fks h
  have hall : (lay w).all (fun y => match y with | .inl q => Nat.ble q.2.length 64 | _ => true) = true := by cases w <;> decide +kernel
  have := List.all_eq_true.mp hall _ (List.mem_of_getElem? h)
  exact Nat.le_of_ble_eq_true this
theorem mH_get {w : Bool} {m : mM} {c : Nat} {y : mY} (h : (lay w)[c]? = some y) : (mH w m)[c]? = some (mE m c y) := by
  unfold mH
  rw [List.getElem?_mapIdx, h]; rfl
theorem mH_len {w : Bool} {m : mM} : (mH w m).length = (lay w).length := by simp [mH]
theorem mH_ext {w : Bool} {m : mM} {c : Nat} {h' : jH} {e : jEt} {m' : mM} (hc : c < (lay w).length) (he : (∀ y, (lay w)[c]? = some y → mE m' c y = e)) (ho : ∀ k y, k ≠ c → (lay w)[k]? = some y → mE m' k y = mE m k y) : (mH w m).set c e = mH w m' := by
  apply List.ext_getElem?
  intro k
  rw [List.getElem?_set, mH_len]
  unfold mH
  rw [List.getElem?_mapIdx, List.getElem?_mapIdx]
  by_cases hk : c = k
  · subst hk
    rw [if_pos rfl, if_pos hc, List.getElem?_eq_getElem hc]
    exact congrArg some (he _ (List.getElem?_eq_getElem hc)).symm
  · rw [if_neg hk]
    cases hy : (lay w)[k]? with
    | none => rfl
    | some y => exact congrArg some (ho k y (fun z => hk z.symm) hy).symm
theorem lay_lt {w : Bool} {c : Nat} {y : mY} (h : (lay w)[c]? = some y) : c < (lay w).length := (List.getElem?_eq_some_iff.mp h).1
theorem mF_wI {m : mM} {n c k f : Nat} {v : Int32} (h : 64 * c + k ≠ n ∨ f ≠ 0) : mF (wI m n v) c k f = mF m c k f := by
  match f, h with
  | 0, h =>
    show Value.int (if 64 * c + k = n then v else m.1 (64 * c + k)) = _
    rw [if_neg (h.resolve_right (fun z => z rfl))]; rfl
  | 1, _ => rfl
  | f + 2, _ => rfl
theorem mF_wR {m : mM} {n c k f v : Nat} (h : 64 * c + k ≠ n ∨ f ≠ 1) : mF (wR m n v) c k f = mF m c k f := by
  match f, h with
  | 0, _ => rfl
  | 1, h =>
    show Value.ref (if 64 * c + k = n then v else m.2.2.2 (64 * c + k)) = _
    rw [if_neg (h.resolve_right (fun z => z rfl))]; rfl
  | f + 2, _ => rfl
theorem mH_wI {w : Bool} {m : mM} {c ci k : Nat} {fks : List Nat} {v : Int32} (h : (lay w)[c]? = some (.inl (ci, fks))) (hk : fks[k]? = some 0) : (mH w m).set c (.inr (ci, (fks.mapIdx (fun k f => mF m c k f)).set k (.int v))) = mH w (wI m (64 * c + k) v) := by
  have hl := lay_ok h
  have hkl : k < fks.length := (List.getElem?_eq_some_iff.mp hk).1
  refine mH_ext (h' := []) (lay_lt h) (fun y hy => ?_) (fun j y hj hy => ?_)
  · cases h.symm.trans hy
    refine congrArg (fun z => (Sum.inr (ci, z) : jEt)) (List.ext_getElem? fun j => ?_)
    rw [List.getElem?_set, List.getElem?_mapIdx, List.getElem?_mapIdx, List.length_mapIdx]
    by_cases hjk : k = j
    · subst hjk
      rw [if_pos rfl, if_pos hkl, hk]
      show some (Value.int (if 64 * c + k = 64 * c + k then v else _)) = _
      rw [if_pos rfl]
    · rw [if_neg hjk]
      cases hf : fks[j]? with
      | none => rfl
      | some f => exact congrArg some (mF_wI (Or.inl (by omega)))
  · match y, hy with
    | .inl (cj, gks), hy =>
      have hl2 := lay_ok hy
      refine congrArg (fun z => (Sum.inr (cj, z) : jEt)) (List.ext_getElem? fun i => ?_)
      rw [List.getElem?_mapIdx, List.getElem?_mapIdx]
      cases hf : gks[i]? with
      | none => rfl
      | some f =>
        have : i < gks.length := (List.getElem?_eq_some_iff.mp hf).1
        exact congrArg some (mF_wI (Or.inl (by omega)))
    | .inr (.inl t), _ => rfl
    | .inr (.inr (t, rs)), _ => rfl
theorem mH_wR {w : Bool} {m : mM} {c ci k v : Nat} {fks : List Nat} (h : (lay w)[c]? = some (.inl (ci, fks))) (hk : fks[k]? = some 1) : (mH w m).set c (.inr (ci, (fks.mapIdx (fun k f => mF m c k f)).set k (.ref v))) = mH w (wR m (64 * c + k) v) := by
  have hl := lay_ok h
  have hkl : k < fks.length := (List.getElem?_eq_some_iff.mp hk).1
  refine mH_ext (h' := []) (lay_lt h) (fun y hy => ?_) (fun j y hj hy => ?_)
  · cases h.symm.trans hy
    refine congrArg (fun z => (Sum.inr (ci, z) : jEt)) (List.ext_getElem? fun j => ?_)
    rw [List.getElem?_set, List.getElem?_mapIdx, List.getElem?_mapIdx, List.length_mapIdx]
    by_cases hjk : k = j
    · subst hjk
      rw [if_pos rfl, if_pos hkl, hk]
      show some (Value.ref (if 64 * c + k = 64 * c + k then v else _)) = _
      rw [if_pos rfl]
    · rw [if_neg hjk]
      cases hf : fks[j]? with
      | none => rfl
      | some f => exact congrArg some (mF_wR (Or.inl (by omega)))
  · match y, hy with
    | .inl (cj, gks), hy =>
      have hl2 := lay_ok hy
      refine congrArg (fun z => (Sum.inr (cj, z) : jEt)) (List.ext_getElem? fun i => ?_)
      rw [List.getElem?_mapIdx, List.getElem?_mapIdx]
      cases hf : gks[i]? with
      | none => rfl
      | some f =>
        have : i < gks.length := (List.getElem?_eq_some_iff.mp hf).1
        exact congrArg some (mF_wR (Or.inl (by omega)))
    | .inr (.inl t), _ => rfl
    | .inr (.inr (t, rs)), _ => rfl
theorem mH_wA {w : Bool} {m : mM} {c t : Nat} {xs : List Int32} (h : (lay w)[c]? = some (.inr (.inl t))) (ht : t ≠ 1) : (mH w m).set c (.inl (t, .inl xs)) = mH w (wA m c xs) := by
  refine mH_ext (h' := []) (lay_lt h) (fun y hy => ?_) (fun j y hj hy => ?_)
  · cases h.symm.trans hy
    show (if t = 1 then _ else (Sum.inl (t, Sum.inl (if c = c then xs else _)) : jEt)) = _
    rw [if_neg ht, if_pos rfl]
  · match y, hy with
    | .inl (cj, gks), hy => rfl
    | .inr (.inl t'), _ =>
      show (if t' = 1 then _ else (Sum.inl (t', Sum.inl (if j = c then xs else m.2.1 j)) : jEt)) = _
      rw [if_neg hj]; rfl
    | .inr (.inr (t', rs)), _ => rfl
theorem mH_wL {w : Bool} {m : mM} {c : Nat} {xs : List Int64} (h : (lay w)[c]? = some (.inr (.inl 1))) : (mH w m).set c (.inl (1, .inr (.inl xs))) = mH w (wL m c xs) := by
  refine mH_ext (h' := []) (lay_lt h) (fun y hy => ?_) (fun j y hj hy => ?_)
  · cases h.symm.trans hy
    show (Sum.inl (1, Sum.inr (Sum.inl (if c = c then xs else m.2.2.1 c))) : jEt) = _
    rw [if_pos rfl]
  · match y, hy with
    | .inl (cj, gks), hy => rfl
    | .inr (.inl t'), _ =>
      have h1 : mL (wL m c xs) j = mL m j := if_neg hj
      simp only [mE, h1]; rfl
    | .inr (.inr (t', rs)), _ => rfl
theorem mE_arr {m : mM} {c t : Nat} (ht : t ≠ 1) : mE m c (.inr (.inl t)) = .inl (t, .inl (mA m c)) := if_neg ht
/-! what a function says of a run of the machine -/
abbrev fR (R : Type) : Type := Option (R × mM)
def uI (x : Int32) : Option Value := some (.int x)
def uL (x : Int64) : Option Value := some (.long x)
def uU (_ : Unit) : Option Value := none
def JF {R : Type} (w : Bool) (ι : R → Option Value) (M : jM) (d pc : Nat) (lv : jLv) (st : List Value) (m : mM) (e : fR R) : Prop :=
  ∀ r m', e = some (r, m') → J M false 0 (fun _ => 0) d 0 0 pc lv st (mH w m) (fun r1 h1 => r1 = ι r ∧ h1 = mH w m')
def nrw (t : Nat) (x : Int32) : Int32 := if t = 2 then vp_nar .byte x else if t = 3 then vp_nar .boolean x else x
/-- item i of a row -/
def gA (xs : List Int32) (i : Int32) : Option Int32 := if ¬ i < 0 then xs[i.toNatClampNeg]? else none
def gL (xs : List Int64) (i : Int32) : Option Int64 := if ¬ i < 0 then xs[i.toNatClampNeg]? else none
def gT (rs : List Nat) (i : Int32) : Option Nat := if ¬ i < 0 then rs[i.toNatClampNeg]? else none
def sA (t : Nat) (m : mM) (c : Nat) (i x : Int32) : Option mM := if ¬ i < 0 ∧ i.toNatClampNeg < (mA m c).length then some (wA m c ((mA m c).set i.toNatClampNeg (nrw t x))) else none
def sL (m : mM) (c : Nat) (i : Int32) (x : Int64) : Option mM := if ¬ i < 0 ∧ i.toNatClampNeg < (mL m c).length then some (wL m c ((mL m c).set i.toNatClampNeg x)) else none
def cpA (m : mM) (a0 : Nat) (sp : Int32) (a1 : Nat) (dp n : Int32) : Option mM := if ¬ sp < 0 ∧ ¬ dp < 0 ∧ ¬ n < 0 ∧ sp.toNatClampNeg + n.toNatClampNeg ≤ (mA m a0).length ∧ dp.toNatClampNeg + n.toNatClampNeg ≤ (mA m a1).length then some (wA m a1 (jcpy (mA m a0) (mA m a1) sp.toNatClampNeg dp.toNatClampNeg n.toNatClampNeg)) else none
/-- of what class a cell is -/
def isC (w : Bool) (ci a : Nat) : Bool := match (lay w)[a]? with
  | some (.inl (c, _)) => Nat.beq c ci
  | _ => false
def isA (w : Bool) (t a : Nat) : Bool := match (lay w)[a]? with
  | some (.inr (.inl t')) => Nat.beq t' t
  | _ => false
theorem isC_ok {w : Bool} {ci a : Nat} (h : isC w ci a = true) : ∃ fks, (lay w)[a]? = some (.inl (ci, fks)) := by
  unfold isC at h
  split at h
  · rename_i c fks e
    cases Nat.eq_of_beq_eq_true h
    exact ⟨fks, e⟩
  · cases h
theorem isA_ok {w : Bool} {t a : Nat} (h : isA w t a = true) : (lay w)[a]? = some (.inr (.inl t)) := by
  unfold isA at h
  split at h
  · rename_i t' e
    cases Nat.eq_of_beq_eq_true h
    exact e
  · cases h
/-- at a a field k of class ci that is f -/
def fAt (w : Bool) (ci k f a : Nat) : Prop := ∃ fks, (lay w)[a]? = some (.inl (ci, fks)) ∧ fks[k]? = some f
def chR {α : Type} (w : Bool) (ci a : Nat) (k : Nat → Option α) : Option α := if isC w ci a = true then k a else none
def chZ {α : Type} (x : Int32) (e : Option α) : Option α := if x = 0 ∨ x = 1 then e else none
def dvI (x y : Int32) : Option Int32 := if y = 0 then none else some (x / y)
def rmI (x y : Int32) : Option Int32 := if y = 0 then none else some (x % y)
def nmI {α : Type} (x : Int32) (k : Int32 → α) : α := k x
def nmM {α : Type} (x : mM) (k : mM → α) : α := k x
theorem fI_ne {x c : Int32} (h : ¬ x = c) : ¬ x.toInt = c.toInt := fun z => h (Int32.toInt_inj.mp z)
theorem lyS_0 {a : Nat} (h : isC true 2 a = true) : fAt true 2 0 0 a := by
  have hb : a < 94 := by
    obtain ⟨fks, hf⟩ := isC_ok h
    exact lay_lt hf
  have key : ∀ a, a < 94 → isC true 2 a = true → (match (lay true)[a]? with | some (.inl (c, fks)) => Nat.beq c 2 && (match fks[0]? with | some f => Nat.beq f 0 | none => false) | _ => false) = true := by decide +kernel
  have h2 := key a hb h
  split at h2
  · rename_i c fks e
    simp only [Bool.and_eq_true] at h2
    cases Nat.eq_of_beq_eq_true h2.1
    have h3 := h2.2
    split at h3
    · rename_i f e2
      cases Nat.eq_of_beq_eq_true h3
      exact ⟨fks, e, e2⟩
    · cases h3
  · cases h2
theorem lyS_1 {a : Nat} (h : isC true 2 a = true) : fAt true 2 1 0 a := by
  have hb : a < 94 := by
    obtain ⟨fks, hf⟩ := isC_ok h
    exact lay_lt hf
  have key : ∀ a, a < 94 → isC true 2 a = true → (match (lay true)[a]? with | some (.inl (c, fks)) => Nat.beq c 2 && (match fks[1]? with | some f => Nat.beq f 0 | none => false) | _ => false) = true := by decide +kernel
  have h2 := key a hb h
  split at h2
  · rename_i c fks e
    simp only [Bool.and_eq_true] at h2
    cases Nat.eq_of_beq_eq_true h2.1
    have h3 := h2.2
    split at h3
    · rename_i f e2
      cases Nat.eq_of_beq_eq_true h3
      exact ⟨fks, e, e2⟩
    · cases h3
  · cases h2
theorem lyS_2 {a : Nat} (h : isC true 2 a = true) : fAt true 2 2 0 a := by
  have hb : a < 94 := by
    obtain ⟨fks, hf⟩ := isC_ok h
    exact lay_lt hf
  have key : ∀ a, a < 94 → isC true 2 a = true → (match (lay true)[a]? with | some (.inl (c, fks)) => Nat.beq c 2 && (match fks[2]? with | some f => Nat.beq f 0 | none => false) | _ => false) = true := by decide +kernel
  have h2 := key a hb h
  split at h2
  · rename_i c fks e
    simp only [Bool.and_eq_true] at h2
    cases Nat.eq_of_beq_eq_true h2.1
    have h3 := h2.2
    split at h3
    · rename_i f e2
      cases Nat.eq_of_beq_eq_true h3
      exact ⟨fks, e, e2⟩
    · cases h3
  · cases h2
theorem lyS_3 {a : Nat} (h : isC true 2 a = true) : fAt true 2 3 0 a := by
  have hb : a < 94 := by
    obtain ⟨fks, hf⟩ := isC_ok h
    exact lay_lt hf
  have key : ∀ a, a < 94 → isC true 2 a = true → (match (lay true)[a]? with | some (.inl (c, fks)) => Nat.beq c 2 && (match fks[3]? with | some f => Nat.beq f 0 | none => false) | _ => false) = true := by decide +kernel
  have h2 := key a hb h
  split at h2
  · rename_i c fks e
    simp only [Bool.and_eq_true] at h2
    cases Nat.eq_of_beq_eq_true h2.1
    have h3 := h2.2
    split at h3
    · rename_i f e2
      cases Nat.eq_of_beq_eq_true h3
      exact ⟨fks, e, e2⟩
    · cases h3
  · cases h2
theorem lyS_4 {a : Nat} (h : isC true 2 a = true) : fAt true 2 4 1 a := by
  have hb : a < 94 := by
    obtain ⟨fks, hf⟩ := isC_ok h
    exact lay_lt hf
  have key : ∀ a, a < 94 → isC true 2 a = true → (match (lay true)[a]? with | some (.inl (c, fks)) => Nat.beq c 2 && (match fks[4]? with | some f => Nat.beq f 1 | none => false) | _ => false) = true := by decide +kernel
  have h2 := key a hb h
  split at h2
  · rename_i c fks e
    simp only [Bool.and_eq_true] at h2
    cases Nat.eq_of_beq_eq_true h2.1
    have h3 := h2.2
    split at h3
    · rename_i f e2
      cases Nat.eq_of_beq_eq_true h3
      exact ⟨fks, e, e2⟩
    · cases h3
  · cases h2
theorem lyS_5 {a : Nat} (h : isC true 2 a = true) : fAt true 2 5 (a + 3) a ∧ isA true 0 (a + 1) = true := by
  have hb : a < 94 := by
    obtain ⟨fks, hf⟩ := isC_ok h
    exact lay_lt hf
  have key : ∀ a, a < 94 → isC true 2 a = true → ((match (lay true)[a]? with | some (.inl (c, fks)) => Nat.beq c 2 && (match fks[5]? with | some f => Nat.beq f (a + 3) | none => false) | _ => false) && isA true 0 (a + 1)) = true := by decide +kernel
  have h1 := key a hb h
  simp only [Bool.and_eq_true] at h1
  refine ⟨?_, h1.2⟩
  have h2 := h1.1
  split at h2
  · rename_i c fks e
    simp only [Bool.and_eq_true] at h2
    cases Nat.eq_of_beq_eq_true h2.1
    have h3 := h2.2
    split at h3
    · rename_i f e2
      cases Nat.eq_of_beq_eq_true h3
      exact ⟨fks, e, e2⟩
    · cases h3
  · cases h2
theorem lyS_6 {a : Nat} (h : isC true 2 a = true) : fAt true 2 6 (a + 4) a ∧ isA true 0 (a + 2) = true := by
  have hb : a < 94 := by
    obtain ⟨fks, hf⟩ := isC_ok h
    exact lay_lt hf
  have key : ∀ a, a < 94 → isC true 2 a = true → ((match (lay true)[a]? with | some (.inl (c, fks)) => Nat.beq c 2 && (match fks[6]? with | some f => Nat.beq f (a + 4) | none => false) | _ => false) && isA true 0 (a + 2)) = true := by decide +kernel
  have h1 := key a hb h
  simp only [Bool.and_eq_true] at h1
  refine ⟨?_, h1.2⟩
  have h2 := h1.1
  split at h2
  · rename_i c fks e
    simp only [Bool.and_eq_true] at h2
    cases Nat.eq_of_beq_eq_true h2.1
    have h3 := h2.2
    split at h3
    · rename_i f e2
      cases Nat.eq_of_beq_eq_true h3
      exact ⟨fks, e, e2⟩
    · cases h3
  · cases h2
theorem lyS_7 {a : Nat} (h : isC true 2 a = true) : fAt true 2 7 (a + 5) a ∧ isA true 0 (a + 3) = true := by
  have hb : a < 94 := by
    obtain ⟨fks, hf⟩ := isC_ok h
    exact lay_lt hf
  have key : ∀ a, a < 94 → isC true 2 a = true → ((match (lay true)[a]? with | some (.inl (c, fks)) => Nat.beq c 2 && (match fks[7]? with | some f => Nat.beq f (a + 5) | none => false) | _ => false) && isA true 0 (a + 3)) = true := by decide +kernel
  have h1 := key a hb h
  simp only [Bool.and_eq_true] at h1
  refine ⟨?_, h1.2⟩
  have h2 := h1.1
  split at h2
  · rename_i c fks e
    simp only [Bool.and_eq_true] at h2
    cases Nat.eq_of_beq_eq_true h2.1
    have h3 := h2.2
    split at h3
    · rename_i f e2
      cases Nat.eq_of_beq_eq_true h3
      exact ⟨fks, e, e2⟩
    · cases h3
  · cases h2
theorem lyS_8 {a : Nat} (h : isC true 2 a = true) : fAt true 2 8 (a + 6) a ∧ isA true 0 (a + 4) = true := by
  have hb : a < 94 := by
    obtain ⟨fks, hf⟩ := isC_ok h
    exact lay_lt hf
  have key : ∀ a, a < 94 → isC true 2 a = true → ((match (lay true)[a]? with | some (.inl (c, fks)) => Nat.beq c 2 && (match fks[8]? with | some f => Nat.beq f (a + 6) | none => false) | _ => false) && isA true 0 (a + 4)) = true := by decide +kernel
  have h1 := key a hb h
  simp only [Bool.and_eq_true] at h1
  refine ⟨?_, h1.2⟩
  have h2 := h1.1
  split at h2
  · rename_i c fks e
    simp only [Bool.and_eq_true] at h2
    cases Nat.eq_of_beq_eq_true h2.1
    have h3 := h2.2
    split at h3
    · rename_i f e2
      cases Nat.eq_of_beq_eq_true h3
      exact ⟨fks, e, e2⟩
    · cases h3
  · cases h2
theorem lyS_9 {a : Nat} (h : isC true 2 a = true) : fAt true 2 9 (a + 7) a ∧ isA true 0 (a + 5) = true := by
  have hb : a < 94 := by
    obtain ⟨fks, hf⟩ := isC_ok h
    exact lay_lt hf
  have key : ∀ a, a < 94 → isC true 2 a = true → ((match (lay true)[a]? with | some (.inl (c, fks)) => Nat.beq c 2 && (match fks[9]? with | some f => Nat.beq f (a + 7) | none => false) | _ => false) && isA true 0 (a + 5)) = true := by decide +kernel
  have h1 := key a hb h
  simp only [Bool.and_eq_true] at h1
  refine ⟨?_, h1.2⟩
  have h2 := h1.1
  split at h2
  · rename_i c fks e
    simp only [Bool.and_eq_true] at h2
    cases Nat.eq_of_beq_eq_true h2.1
    have h3 := h2.2
    split at h3
    · rename_i f e2
      cases Nat.eq_of_beq_eq_true h3
      exact ⟨fks, e, e2⟩
    · cases h3
  · cases h2
theorem lyS_10 {a : Nat} (h : isC true 2 a = true) : fAt true 2 10 (a + 8) a ∧ isA true 3 (a + 6) = true := by
  have hb : a < 94 := by
    obtain ⟨fks, hf⟩ := isC_ok h
    exact lay_lt hf
  have key : ∀ a, a < 94 → isC true 2 a = true → ((match (lay true)[a]? with | some (.inl (c, fks)) => Nat.beq c 2 && (match fks[10]? with | some f => Nat.beq f (a + 8) | none => false) | _ => false) && isA true 3 (a + 6)) = true := by decide +kernel
  have h1 := key a hb h
  simp only [Bool.and_eq_true] at h1
  refine ⟨?_, h1.2⟩
  have h2 := h1.1
  split at h2
  · rename_i c fks e
    simp only [Bool.and_eq_true] at h2
    cases Nat.eq_of_beq_eq_true h2.1
    have h3 := h2.2
    split at h3
    · rename_i f e2
      cases Nat.eq_of_beq_eq_true h3
      exact ⟨fks, e, e2⟩
    · cases h3
  · cases h2
theorem lyS_11 {a : Nat} (h : isC true 2 a = true) : fAt true 2 11 (a + 9) a ∧ isA true 0 (a + 7) = true := by
  have hb : a < 94 := by
    obtain ⟨fks, hf⟩ := isC_ok h
    exact lay_lt hf
  have key : ∀ a, a < 94 → isC true 2 a = true → ((match (lay true)[a]? with | some (.inl (c, fks)) => Nat.beq c 2 && (match fks[11]? with | some f => Nat.beq f (a + 9) | none => false) | _ => false) && isA true 0 (a + 7)) = true := by decide +kernel
  have h1 := key a hb h
  simp only [Bool.and_eq_true] at h1
  refine ⟨?_, h1.2⟩
  have h2 := h1.1
  split at h2
  · rename_i c fks e
    simp only [Bool.and_eq_true] at h2
    cases Nat.eq_of_beq_eq_true h2.1
    have h3 := h2.2
    split at h3
    · rename_i f e2
      cases Nat.eq_of_beq_eq_true h3
      exact ⟨fks, e, e2⟩
    · cases h3
  · cases h2
theorem lyS_12 {a : Nat} (h : isC true 2 a = true) : fAt true 2 12 (a + 10) a ∧ isA true 0 (a + 8) = true := by
  have hb : a < 94 := by
    obtain ⟨fks, hf⟩ := isC_ok h
    exact lay_lt hf
  have key : ∀ a, a < 94 → isC true 2 a = true → ((match (lay true)[a]? with | some (.inl (c, fks)) => Nat.beq c 2 && (match fks[12]? with | some f => Nat.beq f (a + 10) | none => false) | _ => false) && isA true 0 (a + 8)) = true := by decide +kernel
  have h1 := key a hb h
  simp only [Bool.and_eq_true] at h1
  refine ⟨?_, h1.2⟩
  have h2 := h1.1
  split at h2
  · rename_i c fks e
    simp only [Bool.and_eq_true] at h2
    cases Nat.eq_of_beq_eq_true h2.1
    have h3 := h2.2
    split at h3
    · rename_i f e2
      cases Nat.eq_of_beq_eq_true h3
      exact ⟨fks, e, e2⟩
    · cases h3
  · cases h2
theorem lyT_0 {a : Nat} (h : isC true 5 a = true) : fAt true 5 0 0 a := by
  have hb : a < 94 := by
    obtain ⟨fks, hf⟩ := isC_ok h
    exact lay_lt hf
  have key : ∀ a, a < 94 → isC true 5 a = true → (match (lay true)[a]? with | some (.inl (c, fks)) => Nat.beq c 5 && (match fks[0]? with | some f => Nat.beq f 0 | none => false) | _ => false) = true := by decide +kernel
  have h2 := key a hb h
  split at h2
  · rename_i c fks e
    simp only [Bool.and_eq_true] at h2
    cases Nat.eq_of_beq_eq_true h2.1
    have h3 := h2.2
    split at h3
    · rename_i f e2
      cases Nat.eq_of_beq_eq_true h3
      exact ⟨fks, e, e2⟩
    · cases h3
  · cases h2
theorem lyT_1 {a : Nat} (h : isC true 5 a = true) : fAt true 5 1 0 a := by
  have hb : a < 94 := by
    obtain ⟨fks, hf⟩ := isC_ok h
    exact lay_lt hf
  have key : ∀ a, a < 94 → isC true 5 a = true → (match (lay true)[a]? with | some (.inl (c, fks)) => Nat.beq c 5 && (match fks[1]? with | some f => Nat.beq f 0 | none => false) | _ => false) = true := by decide +kernel
  have h2 := key a hb h
  split at h2
  · rename_i c fks e
    simp only [Bool.and_eq_true] at h2
    cases Nat.eq_of_beq_eq_true h2.1
    have h3 := h2.2
    split at h3
    · rename_i f e2
      cases Nat.eq_of_beq_eq_true h3
      exact ⟨fks, e, e2⟩
    · cases h3
  · cases h2
theorem lyT_2 {a : Nat} (h : isC true 5 a = true) : fAt true 5 2 0 a := by
  have hb : a < 94 := by
    obtain ⟨fks, hf⟩ := isC_ok h
    exact lay_lt hf
  have key : ∀ a, a < 94 → isC true 5 a = true → (match (lay true)[a]? with | some (.inl (c, fks)) => Nat.beq c 5 && (match fks[2]? with | some f => Nat.beq f 0 | none => false) | _ => false) = true := by decide +kernel
  have h2 := key a hb h
  split at h2
  · rename_i c fks e
    simp only [Bool.and_eq_true] at h2
    cases Nat.eq_of_beq_eq_true h2.1
    have h3 := h2.2
    split at h3
    · rename_i f e2
      cases Nat.eq_of_beq_eq_true h3
      exact ⟨fks, e, e2⟩
    · cases h3
  · cases h2
theorem lyT_3 {a : Nat} (h : isC true 5 a = true) : fAt true 5 3 0 a := by
  have hb : a < 94 := by
    obtain ⟨fks, hf⟩ := isC_ok h
    exact lay_lt hf
  have key : ∀ a, a < 94 → isC true 5 a = true → (match (lay true)[a]? with | some (.inl (c, fks)) => Nat.beq c 5 && (match fks[3]? with | some f => Nat.beq f 0 | none => false) | _ => false) = true := by decide +kernel
  have h2 := key a hb h
  split at h2
  · rename_i c fks e
    simp only [Bool.and_eq_true] at h2
    cases Nat.eq_of_beq_eq_true h2.1
    have h3 := h2.2
    split at h3
    · rename_i f e2
      cases Nat.eq_of_beq_eq_true h3
      exact ⟨fks, e, e2⟩
    · cases h3
  · cases h2
theorem lyT_4 {a : Nat} (h : isC true 5 a = true) : fAt true 5 4 0 a := by
  have hb : a < 94 := by
    obtain ⟨fks, hf⟩ := isC_ok h
    exact lay_lt hf
  have key : ∀ a, a < 94 → isC true 5 a = true → (match (lay true)[a]? with | some (.inl (c, fks)) => Nat.beq c 5 && (match fks[4]? with | some f => Nat.beq f 0 | none => false) | _ => false) = true := by decide +kernel
  have h2 := key a hb h
  split at h2
  · rename_i c fks e
    simp only [Bool.and_eq_true] at h2
    cases Nat.eq_of_beq_eq_true h2.1
    have h3 := h2.2
    split at h3
    · rename_i f e2
      cases Nat.eq_of_beq_eq_true h3
      exact ⟨fks, e, e2⟩
    · cases h3
  · cases h2
theorem lyT_5 {a : Nat} (h : isC true 5 a = true) : fAt true 5 5 (a + 3) a ∧ isA true 0 (a + 1) = true := by
  have hb : a < 94 := by
    obtain ⟨fks, hf⟩ := isC_ok h
    exact lay_lt hf
  have key : ∀ a, a < 94 → isC true 5 a = true → ((match (lay true)[a]? with | some (.inl (c, fks)) => Nat.beq c 5 && (match fks[5]? with | some f => Nat.beq f (a + 3) | none => false) | _ => false) && isA true 0 (a + 1)) = true := by decide +kernel
  have h1 := key a hb h
  simp only [Bool.and_eq_true] at h1
  refine ⟨?_, h1.2⟩
  have h2 := h1.1
  split at h2
  · rename_i c fks e
    simp only [Bool.and_eq_true] at h2
    cases Nat.eq_of_beq_eq_true h2.1
    have h3 := h2.2
    split at h3
    · rename_i f e2
      cases Nat.eq_of_beq_eq_true h3
      exact ⟨fks, e, e2⟩
    · cases h3
  · cases h2
theorem lyT_6 {a : Nat} (h : isC true 5 a = true) : fAt true 5 6 (a + 4) a ∧ isA true 0 (a + 2) = true := by
  have hb : a < 94 := by
    obtain ⟨fks, hf⟩ := isC_ok h
    exact lay_lt hf
  have key : ∀ a, a < 94 → isC true 5 a = true → ((match (lay true)[a]? with | some (.inl (c, fks)) => Nat.beq c 5 && (match fks[6]? with | some f => Nat.beq f (a + 4) | none => false) | _ => false) && isA true 0 (a + 2)) = true := by decide +kernel
  have h1 := key a hb h
  simp only [Bool.and_eq_true] at h1
  refine ⟨?_, h1.2⟩
  have h2 := h1.1
  split at h2
  · rename_i c fks e
    simp only [Bool.and_eq_true] at h2
    cases Nat.eq_of_beq_eq_true h2.1
    have h3 := h2.2
    split at h3
    · rename_i f e2
      cases Nat.eq_of_beq_eq_true h3
      exact ⟨fks, e, e2⟩
    · cases h3
  · cases h2
theorem lyT_7 {a : Nat} (h : isC true 5 a = true) : fAt true 5 7 (a + 5) a ∧ isA true 0 (a + 3) = true := by
  have hb : a < 94 := by
    obtain ⟨fks, hf⟩ := isC_ok h
    exact lay_lt hf
  have key : ∀ a, a < 94 → isC true 5 a = true → ((match (lay true)[a]? with | some (.inl (c, fks)) => Nat.beq c 5 && (match fks[7]? with | some f => Nat.beq f (a + 5) | none => false) | _ => false) && isA true 0 (a + 3)) = true := by decide +kernel
  have h1 := key a hb h
  simp only [Bool.and_eq_true] at h1
  refine ⟨?_, h1.2⟩
  have h2 := h1.1
  split at h2
  · rename_i c fks e
    simp only [Bool.and_eq_true] at h2
    cases Nat.eq_of_beq_eq_true h2.1
    have h3 := h2.2
    split at h3
    · rename_i f e2
      cases Nat.eq_of_beq_eq_true h3
      exact ⟨fks, e, e2⟩
    · cases h3
  · cases h2
theorem lyT_8 {a : Nat} (h : isC true 5 a = true) : fAt true 5 8 (a + 6) a ∧ isA true 0 (a + 4) = true := by
  have hb : a < 94 := by
    obtain ⟨fks, hf⟩ := isC_ok h
    exact lay_lt hf
  have key : ∀ a, a < 94 → isC true 5 a = true → ((match (lay true)[a]? with | some (.inl (c, fks)) => Nat.beq c 5 && (match fks[8]? with | some f => Nat.beq f (a + 6) | none => false) | _ => false) && isA true 0 (a + 4)) = true := by decide +kernel
  have h1 := key a hb h
  simp only [Bool.and_eq_true] at h1
  refine ⟨?_, h1.2⟩
  have h2 := h1.1
  split at h2
  · rename_i c fks e
    simp only [Bool.and_eq_true] at h2
    cases Nat.eq_of_beq_eq_true h2.1
    have h3 := h2.2
    split at h3
    · rename_i f e2
      cases Nat.eq_of_beq_eq_true h3
      exact ⟨fks, e, e2⟩
    · cases h3
  · cases h2
theorem lyT_9 {a : Nat} (h : isC true 5 a = true) : fAt true 5 9 (a + 7) a ∧ isA true 0 (a + 5) = true := by
  have hb : a < 94 := by
    obtain ⟨fks, hf⟩ := isC_ok h
    exact lay_lt hf
  have key : ∀ a, a < 94 → isC true 5 a = true → ((match (lay true)[a]? with | some (.inl (c, fks)) => Nat.beq c 5 && (match fks[9]? with | some f => Nat.beq f (a + 7) | none => false) | _ => false) && isA true 0 (a + 5)) = true := by decide +kernel
  have h1 := key a hb h
  simp only [Bool.and_eq_true] at h1
  refine ⟨?_, h1.2⟩
  have h2 := h1.1
  split at h2
  · rename_i c fks e
    simp only [Bool.and_eq_true] at h2
    cases Nat.eq_of_beq_eq_true h2.1
    have h3 := h2.2
    split at h3
    · rename_i f e2
      cases Nat.eq_of_beq_eq_true h3
      exact ⟨fks, e, e2⟩
    · cases h3
  · cases h2
theorem lyP_0 {a : Nat} (h : isC true 3 a = true) : fAt true 3 0 0 a := by
  have hb : a < 94 := by
    obtain ⟨fks, hf⟩ := isC_ok h
    exact lay_lt hf
  have key : ∀ a, a < 94 → isC true 3 a = true → (match (lay true)[a]? with | some (.inl (c, fks)) => Nat.beq c 3 && (match fks[0]? with | some f => Nat.beq f 0 | none => false) | _ => false) = true := by decide +kernel
  have h2 := key a hb h
  split at h2
  · rename_i c fks e
    simp only [Bool.and_eq_true] at h2
    cases Nat.eq_of_beq_eq_true h2.1
    have h3 := h2.2
    split at h3
    · rename_i f e2
      cases Nat.eq_of_beq_eq_true h3
      exact ⟨fks, e, e2⟩
    · cases h3
  · cases h2
theorem lyP_1 {a : Nat} (h : isC true 3 a = true) : fAt true 3 1 0 a := by
  have hb : a < 94 := by
    obtain ⟨fks, hf⟩ := isC_ok h
    exact lay_lt hf
  have key : ∀ a, a < 94 → isC true 3 a = true → (match (lay true)[a]? with | some (.inl (c, fks)) => Nat.beq c 3 && (match fks[1]? with | some f => Nat.beq f 0 | none => false) | _ => false) = true := by decide +kernel
  have h2 := key a hb h
  split at h2
  · rename_i c fks e
    simp only [Bool.and_eq_true] at h2
    cases Nat.eq_of_beq_eq_true h2.1
    have h3 := h2.2
    split at h3
    · rename_i f e2
      cases Nat.eq_of_beq_eq_true h3
      exact ⟨fks, e, e2⟩
    · cases h3
  · cases h2
theorem lyP_2 {a : Nat} (h : isC true 3 a = true) : fAt true 3 2 (a + 3) a ∧ isA true 1 (a + 1) = true := by
  have hb : a < 94 := by
    obtain ⟨fks, hf⟩ := isC_ok h
    exact lay_lt hf
  have key : ∀ a, a < 94 → isC true 3 a = true → ((match (lay true)[a]? with | some (.inl (c, fks)) => Nat.beq c 3 && (match fks[2]? with | some f => Nat.beq f (a + 3) | none => false) | _ => false) && isA true 1 (a + 1)) = true := by decide +kernel
  have h1 := key a hb h
  simp only [Bool.and_eq_true] at h1
  refine ⟨?_, h1.2⟩
  have h2 := h1.1
  split at h2
  · rename_i c fks e
    simp only [Bool.and_eq_true] at h2
    cases Nat.eq_of_beq_eq_true h2.1
    have h3 := h2.2
    split at h3
    · rename_i f e2
      cases Nat.eq_of_beq_eq_true h3
      exact ⟨fks, e, e2⟩
    · cases h3
  · cases h2
