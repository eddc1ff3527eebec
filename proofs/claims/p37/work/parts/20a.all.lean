-- 20a.mem.lean.txt
section
/-! THE MEMORY AS NUMBERS: a place of an int field is 64 times the cell and the field's number -/
abbrev mM : Type := (Nat → Int32) × (Nat → List Int32) × (Nat → List Int64) × (Nat → Nat)
def mI (m : mM) (n : Nat) : Int32 := m.1 n
def mA (m : mM) (c : Nat) : List Int32 := m.2.1 c
def mL (m : mM) (c : Nat) : List Int64 := m.2.2.1 c
def mR (m : mM) (n : Nat) : Nat := m.2.2.2 n
def wI (m : mM) (n : Nat) (v : Int32) : mM := (fun k => if k = n then v else m.1 k, m.2.1, m.2.2.1, m.2.2.2)
def wA (m : mM) (c : Nat) (v : List Int32) : mM := (m.1, fun k => if k = c then v else m.2.1 k, m.2.2.1, m.2.2.2)
def wL (m : mM) (c : Nat) (v : List Int64) : mM := (m.1, m.2.1, fun k => if k = c then v else m.2.2.1 k, m.2.2.2)
def wR (m : mM) (n : Nat) (v : Nat) : mM := (m.1, m.2.1, m.2.2.1, fun k => if k = n then v else m.2.2.2 k)
/-- how a cell is laid out: an object (class, its fields: 0 an int, 1 a reference that changes, else two more than the reference), an array of numbers (sort), of references -/
abbrev mY : Type := (Nat × List Nat) ⊕ (Nat ⊕ (Nat × List Nat))
def mF (m : mM) (c k f : Nat) : Value := match f with
  | 0 => .int (mI m (64 * c + k))
  | 1 => .ref (mR m (64 * c + k))
  | f + 2 => .ref f
def mE (m : mM) (c : Nat) (y : mY) : jEt := match y with
  | .inl (ci, fks) => .inr (ci, fks.mapIdx (fun k f => mF m c k f))
  | .inr (.inl t) => if t = 1 then .inl (1, .inr (.inl (mL m c))) else .inl (t, .inl (mA m c))
  | .inr (.inr (t, rs)) => .inl (t, .inr (.inr (rs.map some)))
def layX : List mY := [.inl (6, [16, 25, 34, 0, 43, 3, 4, 6, 0, 7, 9]),
  .inr (.inl 0),
  .inl (4, [5, 0, 0, 0]),
  .inr (.inl 2),
  .inr (.inr (4, [46, 52, 58, 64, 70, 76])),
  .inl (0, [8, 0, 0, 0, 0]),
  .inr (.inl 0),
  .inr (.inr (5, [82, 84, 86, 88, 90, 92])),
  .inl (5, [0, 0, 0, 0, 0, 11, 12, 13, 14, 15]),
  .inr (.inl 0),
  .inr (.inl 0),
  .inr (.inl 0),
  .inr (.inl 0),
  .inr (.inl 0),
  .inl (2, [0, 0, 0, 0, 1, 17, 18, 19, 20, 21, 22, 23, 24]),
  .inr (.inl 0),
  .inr (.inl 0),
  .inr (.inl 0),
  .inr (.inl 0),
  .inr (.inl 0),
  .inr (.inl 3),
  .inr (.inl 0),
  .inr (.inl 0),
  .inl (2, [0, 0, 0, 0, 1, 26, 27, 28, 29, 30, 31, 32, 33]),
  .inr (.inl 0),
  .inr (.inl 0),
  .inr (.inl 0),
  .inr (.inl 0),
  .inr (.inl 0),
  .inr (.inl 3),
  .inr (.inl 0),
  .inr (.inl 0),
  .inl (2, [0, 0, 0, 0, 1, 35, 36, 37, 38, 39, 40, 41, 42]),
  .inr (.inl 0),
  .inr (.inl 0),
  .inr (.inl 0),
  .inr (.inl 0),
  .inr (.inl 0),
  .inr (.inl 3),
  .inr (.inl 0),
  .inr (.inl 0),
  .inl (1, [1, 0, 0, 0, 0, 44, 45, 46, 47]),
  .inr (.inl 0),
  .inr (.inl 0),
  .inr (.inl 0),
  .inr (.inl 0),
  .inl (5, [0, 0, 0, 0, 0, 49, 50, 51, 52, 53]),
  .inr (.inl 0),
  .inr (.inl 0),
  .inr (.inl 0),
  .inr (.inl 0),
  .inr (.inl 0),
  .inl (5, [0, 0, 0, 0, 0, 55, 56, 57, 58, 59]),
  .inr (.inl 0),
  .inr (.inl 0),
  .inr (.inl 0),
  .inr (.inl 0),
  .inr (.inl 0),
  .inl (5, [0, 0, 0, 0, 0, 61, 62, 63, 64, 65]),
  .inr (.inl 0),
  .inr (.inl 0),
  .inr (.inl 0),
  .inr (.inl 0),
  .inr (.inl 0),
  .inl (5, [0, 0, 0, 0, 0, 67, 68, 69, 70, 71]),
  .inr (.inl 0),
  .inr (.inl 0),
  .inr (.inl 0),
  .inr (.inl 0),
  .inr (.inl 0),
  .inl (5, [0, 0, 0, 0, 0, 73, 74, 75, 76, 77]),
  .inr (.inl 0),
  .inr (.inl 0),
  .inr (.inl 0),
  .inr (.inl 0),
  .inr (.inl 0),
  .inl (5, [0, 0, 0, 0, 0, 79, 80, 81, 82, 83]),
  .inr (.inl 0),
  .inr (.inl 0),
  .inr (.inl 0),
  .inr (.inl 0),
  .inr (.inl 0),
  .inl (3, [0, 0, 85]),
  .inr (.inl 1),
  .inl (3, [0, 0, 87]),
  .inr (.inl 1),
  .inl (3, [0, 0, 89]),
  .inr (.inl 1),
  .inl (3, [0, 0, 91]),
  .inr (.inl 1),
  .inl (3, [0, 0, 93]),
  .inr (.inl 1),
  .inl (3, [0, 0, 95]),
  .inr (.inl 1)]
def layM : List mY := [.inl (7, [0, 0, 0, 3, 4, 5, 6, 7, 8, 9, 0, 0, 0, 0, 0, 10, 11, 12, 13, 14, 15, 16, 17, 0, 0, 0, 18, 0, 19, 20, 21, 0, 0, 22, 0, 0, 23, 24, 0, 25, 0, 0, 0, 0, 0, 0, 26, 27, 28, 29, 30, 31, 32, 33, 0, 34, 35, 36, 37, 38]),
  .inr (.inl 0),
  .inr (.inl 0),
  .inr (.inl 0),
  .inr (.inl 0),
  .inr (.inl 0),
  .inr (.inl 0),
  .inr (.inl 3),
  .inr (.inl 0),
  .inr (.inl 0),
  .inr (.inl 0),
  .inr (.inl 0),
  .inr (.inl 0),
  .inr (.inl 0),
  .inr (.inl 0),
  .inr (.inl 0),
  .inr (.inl 0),
  .inr (.inl 3),
  .inr (.inl 0),
  .inr (.inl 0),
  .inr (.inl 0),
  .inr (.inl 0),
  .inr (.inl 0),
  .inr (.inl 0),
  .inr (.inl 0),
  .inr (.inl 0),
  .inr (.inl 0),
  .inr (.inl 0),
  .inr (.inl 0),
  .inr (.inl 0),
  .inr (.inl 0),
  .inr (.inl 3),
  .inr (.inl 0),
  .inr (.inl 0),
  .inr (.inl 0),
  .inr (.inl 1),
  .inr (.inl 1)]
def lay (w : Bool) : List mY := match w with | true => layX | false => layM
def mH (w : Bool) (m : mM) : jH := (lay w).mapIdx (fun c y => mE m c y)
theorem lay_ok : ∀ {w : Bool} {c ci : Nat} {fks : List Nat}, (lay w)[c]? = some (.inl (ci, fks)) → fks.length ≤ 64 := by
  intro w c ci fks h
  have hall : (lay w).all (fun y => match y with | .inl q => Nat.ble q.2.length 64 | _ => true) = true := by cases w <;> decide +kernel
  have := List.all_eq_true.mp hall _ (List.mem_of_getElem? h)
  exact Nat.le_of_ble_eq_true this
theorem mH_get {w : Bool} {m : mM} {c : Nat} {y : mY} (h : (lay w)[c]? = some y) : (mH w m)[c]? = some (mE m c y) := by
  unfold mH
  rw [List.getElem?_mapIdx, h]; rfl
theorem mH_len {w : Bool} {m : mM} : (mH w m).length = (lay w).length := by simp [mH]
theorem mH_ext {w : Bool} {m : mM} {c : Nat} {h' : jH} {e : jEt} {m' : mM} (hc : c < (lay w).length) (he : (∀ y, (lay w)[c]? = some y → mE m' c y = e)) (ho : ∀ k y, k ≠ c → (lay w)[k]? = some y → mE m' k y = mE m k y) : (mH w m).set c e = mH w m' := by
  apply List.ext_getElem?
  intro k
  rw [List.getElem?_set, mH_len]
  unfold mH
  rw [List.getElem?_mapIdx, List.getElem?_mapIdx]
  by_cases hk : c = k
  · subst hk
    rw [if_pos rfl, if_pos hc, List.getElem?_eq_getElem hc]
    exact congrArg some (he _ (List.getElem?_eq_getElem hc)).symm
  · rw [if_neg hk]
    cases hy : (lay w)[k]? with
    | none => rfl
    | some y => exact congrArg some (ho k y (fun z => hk z.symm) hy).symm
theorem lay_lt {w : Bool} {c : Nat} {y : mY} (h : (lay w)[c]? = some y) : c < (lay w).length := (List.getElem?_eq_some_iff.mp h).1
theorem mF_wI {m : mM} {n c k f : Nat} {v : Int32} (h : 64 * c + k ≠ n ∨ f ≠ 0) : mF (wI m n v) c k f = mF m c k f := by
  match f, h with
  | 0, h =>
    show Value.int (if 64 * c + k = n then v else m.1 (64 * c + k)) = _
    rw [if_neg (h.resolve_right (fun z => z rfl))]; rfl
  | 1, _ => rfl
  | f + 2, _ => rfl
theorem mF_wR {m : mM} {n c k f v : Nat} (h : 64 * c + k ≠ n ∨ f ≠ 1) : mF (wR m n v) c k f = mF m c k f := by
  match f, h with
  | 0, _ => rfl
  | 1, h =>
    show Value.ref (if 64 * c + k = n then v else m.2.2.2 (64 * c + k)) = _
    rw [if_neg (h.resolve_right (fun z => z rfl))]; rfl
  | f + 2, _ => rfl
theorem mH_wI {w : Bool} {m : mM} {c ci k : Nat} {fks : List Nat} {v : Int32} (h : (lay w)[c]? = some (.inl (ci, fks))) (hk : fks[k]? = some 0) : (mH w m).set c (.inr (ci, (fks.mapIdx (fun k f => mF m c k f)).set k (.int v))) = mH w (wI m (64 * c + k) v) := by
  have hl := lay_ok h
  have hkl : k < fks.length := (List.getElem?_eq_some_iff.mp hk).1
  refine mH_ext (h' := []) (lay_lt h) (fun y hy => ?_) (fun j y hj hy => ?_)
  · cases h.symm.trans hy
    refine congrArg (fun z => (Sum.inr (ci, z) : jEt)) (List.ext_getElem? fun j => ?_)
    rw [List.getElem?_set, List.getElem?_mapIdx, List.getElem?_mapIdx, List.length_mapIdx]
    by_cases hjk : k = j
    · subst hjk
      rw [if_pos rfl, if_pos hkl, hk]
      show some (Value.int (if 64 * c + k = 64 * c + k then v else _)) = _
      rw [if_pos rfl]
    · rw [if_neg hjk]
      cases hf : fks[j]? with
      | none => rfl
      | some f => exact congrArg some (mF_wI (Or.inl (by omega)))
  · match y, hy with
    | .inl (cj, gks), hy =>
      have hl2 := lay_ok hy
      refine congrArg (fun z => (Sum.inr (cj, z) : jEt)) (List.ext_getElem? fun i => ?_)
      rw [List.getElem?_mapIdx, List.getElem?_mapIdx]
      cases hf : gks[i]? with
      | none => rfl
      | some f =>
        have : i < gks.length := (List.getElem?_eq_some_iff.mp hf).1
        exact congrArg some (mF_wI (Or.inl (by omega)))
    | .inr (.inl t), _ => rfl
    | .inr (.inr (t, rs)), _ => rfl
theorem mH_wR {w : Bool} {m : mM} {c ci k v : Nat} {fks : List Nat} (h : (lay w)[c]? = some (.inl (ci, fks))) (hk : fks[k]? = some 1) : (mH w m).set c (.inr (ci, (fks.mapIdx (fun k f => mF m c k f)).set k (.ref v))) = mH w (wR m (64 * c + k) v) := by
  have hl := lay_ok h
  have hkl : k < fks.length := (List.getElem?_eq_some_iff.mp hk).1
  refine mH_ext (h' := []) (lay_lt h) (fun y hy => ?_) (fun j y hj hy => ?_)
  · cases h.symm.trans hy
    refine congrArg (fun z => (Sum.inr (ci, z) : jEt)) (List.ext_getElem? fun j => ?_)
    rw [List.getElem?_set, List.getElem?_mapIdx, List.getElem?_mapIdx, List.length_mapIdx]
    by_cases hjk : k = j
    · subst hjk
      rw [if_pos rfl, if_pos hkl, hk]
      show some (Value.ref (if 64 * c + k = 64 * c + k then v else _)) = _
      rw [if_pos rfl]
    · rw [if_neg hjk]
      cases hf : fks[j]? with
      | none => rfl
      | some f => exact congrArg some (mF_wR (Or.inl (by omega)))
  · match y, hy with
    | .inl (cj, gks), hy =>
      have hl2 := lay_ok hy
      refine congrArg (fun z => (Sum.inr (cj, z) : jEt)) (List.ext_getElem? fun i => ?_)
      rw [List.getElem?_mapIdx, List.getElem?_mapIdx]
      cases hf : gks[i]? with
      | none => rfl
      | some f =>
        have : i < gks.length := (List.getElem?_eq_some_iff.mp hf).1
        exact congrArg some (mF_wR (Or.inl (by omega)))
    | .inr (.inl t), _ => rfl
    | .inr (.inr (t, rs)), _ => rfl
theorem mH_wA {w : Bool} {m : mM} {c t : Nat} {xs : List Int32} (h : (lay w)[c]? = some (.inr (.inl t))) (ht : t ≠ 1) : (mH w m).set c (.inl (t, .inl xs)) = mH w (wA m c xs) := by
  refine mH_ext (h' := []) (lay_lt h) (fun y hy => ?_) (fun j y hj hy => ?_)
  · cases h.symm.trans hy
    show (if t = 1 then _ else (Sum.inl (t, Sum.inl (if c = c then xs else _)) : jEt)) = _
    rw [if_neg ht, if_pos rfl]
  · match y, hy with
    | .inl (cj, gks), hy => rfl
    | .inr (.inl t'), _ =>
      show (if t' = 1 then _ else (Sum.inl (t', Sum.inl (if j = c then xs else m.2.1 j)) : jEt)) = _
      rw [if_neg hj]; rfl
    | .inr (.inr (t', rs)), _ => rfl
theorem mH_wL {w : Bool} {m : mM} {c : Nat} {xs : List Int64} (h : (lay w)[c]? = some (.inr (.inl 1))) : (mH w m).set c (.inl (1, .inr (.inl xs))) = mH w (wL m c xs) := by
  refine mH_ext (h' := []) (lay_lt h) (fun y hy => ?_) (fun j y hj hy => ?_)
  · cases h.symm.trans hy
    show (Sum.inl (1, Sum.inr (Sum.inl (if c = c then xs else m.2.2.1 c))) : jEt) = _
    rw [if_pos rfl]
  · match y, hy with
    | .inl (cj, gks), hy => rfl
    | .inr (.inl t'), _ =>
      have h1 : mL (wL m c xs) j = mL m j := if_neg hj
      simp only [mE, h1]; rfl
    | .inr (.inr (t', rs)), _ => rfl
theorem mE_arr {m : mM} {c t : Nat} (ht : t ≠ 1) : mE m c (.inr (.inl t)) = .inl (t, .inl (mA m c)) := if_neg ht
/-! what a function says of a run of the machine -/
abbrev fR (R : Type) : Type := Option (R × mM)
def uI (x : Int32) : Option Value := some (.int x)
def uL (x : Int64) : Option Value := some (.long x)
def uU (_ : Unit) : Option Value := none
def JF {R : Type} (w : Bool) (ι : R → Option Value) (M : jM) (d pc : Nat) (lv : jLv) (st : List Value) (m : mM) (e : fR R) : Prop :=
  ∀ r m', e = some (r, m') → J M false 0 (fun _ => 0) d 0 0 pc lv st (mH w m) (fun r1 h1 => r1 = ι r ∧ h1 = mH w m')
def nrw (t : Nat) (x : Int32) : Int32 := if t = 2 then vp_nar .byte x else if t = 3 then vp_nar .boolean x else x
/-- item i of a row -/
def gA (xs : List Int32) (i : Int32) : Option Int32 := if ¬ i < 0 then xs[i.toNatClampNeg]? else none
def gL (xs : List Int64) (i : Int32) : Option Int64 := if ¬ i < 0 then xs[i.toNatClampNeg]? else none
def gT (rs : List Nat) (i : Int32) : Option Nat := if ¬ i < 0 then rs[i.toNatClampNeg]? else none
def sA (t : Nat) (m : mM) (c : Nat) (i x : Int32) : Option mM := if ¬ i < 0 ∧ i.toNatClampNeg < (mA m c).length then some (wA m c ((mA m c).set i.toNatClampNeg (nrw t x))) else none
def sL (m : mM) (c : Nat) (i : Int32) (x : Int64) : Option mM := if ¬ i < 0 ∧ i.toNatClampNeg < (mL m c).length then some (wL m c ((mL m c).set i.toNatClampNeg x)) else none
def cpA (m : mM) (a0 : Nat) (sp : Int32) (a1 : Nat) (dp n : Int32) : Option mM := if ¬ sp < 0 ∧ ¬ dp < 0 ∧ ¬ n < 0 ∧ sp.toNatClampNeg + n.toNatClampNeg ≤ (mA m a0).length ∧ dp.toNatClampNeg + n.toNatClampNeg ≤ (mA m a1).length then some (wA m a1 (jcpy (mA m a0) (mA m a1) sp.toNatClampNeg dp.toNatClampNeg n.toNatClampNeg)) else none
/-- of what class a cell is -/
def isC (w : Bool) (ci a : Nat) : Bool := match (lay w)[a]? with
  | some (.inl (c, _)) => Nat.beq c ci
  | _ => false
def isA (w : Bool) (t a : Nat) : Bool := match (lay w)[a]? with
  | some (.inr (.inl t')) => Nat.beq t' t
  | _ => false
theorem isC_ok {w : Bool} {ci a : Nat} (h : isC w ci a = true) : ∃ fks, (lay w)[a]? = some (.inl (ci, fks)) := by
  unfold isC at h
  split at h
  · rename_i c fks e
    cases Nat.eq_of_beq_eq_true h
    exact ⟨fks, e⟩
  · cases h
theorem isA_ok {w : Bool} {t a : Nat} (h : isA w t a = true) : (lay w)[a]? = some (.inr (.inl t)) := by
  unfold isA at h
  split at h
  · rename_i t' e
    cases Nat.eq_of_beq_eq_true h
    exact e
  · cases h
/-- at a a field k of class ci that is f -/
def fAt (w : Bool) (ci k f a : Nat) : Prop := ∃ fks, (lay w)[a]? = some (.inl (ci, fks)) ∧ fks[k]? = some f
def chR {α : Type} (w : Bool) (ci a : Nat) (k : Nat → Option α) : Option α := if isC w ci a = true then k a else none
def chZ {α : Type} (x : Int32) (e : Option α) : Option α := if x = 0 ∨ x = 1 then e else none
def dvI (x y : Int32) : Option Int32 := if y = 0 then none else some (x / y)
def rmI (x y : Int32) : Option Int32 := if y = 0 then none else some (x % y)
def nmI {α : Type} (x : Int32) (k : Int32 → α) : α := k x
def nmM {α : Type} (x : mM) (k : mM → α) : α := k x
theorem fI_ne {x c : Int32} (h : ¬ x = c) : ¬ x.toInt = c.toInt := fun z => h (Int32.toInt_inj.mp z)
theorem lyS_0 {a : Nat} (h : isC true 2 a = true) : fAt true 2 0 0 a := by
  have hb : a < 94 := by
    obtain ⟨fks, hf⟩ := isC_ok h
    exact lay_lt hf
  have key : ∀ a, a < 94 → isC true 2 a = true → (match (lay true)[a]? with | some (.inl (c, fks)) => Nat.beq c 2 && (match fks[0]? with | some f => Nat.beq f 0 | none => false) | _ => false) = true := by decide +kernel
  have h2 := key a hb h
  split at h2
  · rename_i c fks e
    simp only [Bool.and_eq_true] at h2
    cases Nat.eq_of_beq_eq_true h2.1
    have h3 := h2.2
    split at h3
    · rename_i f e2
      cases Nat.eq_of_beq_eq_true h3
      exact ⟨fks, e, e2⟩
    · cases h3
  · cases h2
theorem lyS_1 {a : Nat} (h : isC true 2 a = true) : fAt true 2 1 0 a := by
  have hb : a < 94 := by
    obtain ⟨fks, hf⟩ := isC_ok h
    exact lay_lt hf
  have key : ∀ a, a < 94 → isC true 2 a = true → (match (lay true)[a]? with | some (.inl (c, fks)) => Nat.beq c 2 && (match fks[1]? with | some f => Nat.beq f 0 | none => false) | _ => false) = true := by decide +kernel
  have h2 := key a hb h
  split at h2
  · rename_i c fks e
    simp only [Bool.and_eq_true] at h2
    cases Nat.eq_of_beq_eq_true h2.1
    have h3 := h2.2
    split at h3
    · rename_i f e2
      cases Nat.eq_of_beq_eq_true h3
      exact ⟨fks, e, e2⟩
    · cases h3
  · cases h2
theorem lyS_2 {a : Nat} (h : isC true 2 a = true) : fAt true 2 2 0 a := by
  have hb : a < 94 := by
    obtain ⟨fks, hf⟩ := isC_ok h
    exact lay_lt hf
  have key : ∀ a, a < 94 → isC true 2 a = true → (match (lay true)[a]? with | some (.inl (c, fks)) => Nat.beq c 2 && (match fks[2]? with | some f => Nat.beq f 0 | none => false) | _ => false) = true := by decide +kernel
  have h2 := key a hb h
  split at h2
  · rename_i c fks e
    simp only [Bool.and_eq_true] at h2
    cases Nat.eq_of_beq_eq_true h2.1
    have h3 := h2.2
    split at h3
    · rename_i f e2
      cases Nat.eq_of_beq_eq_true h3
      exact ⟨fks, e, e2⟩
    · cases h3
  · cases h2
theorem lyS_3 {a : Nat} (h : isC true 2 a = true) : fAt true 2 3 0 a := by
  have hb : a < 94 := by
    obtain ⟨fks, hf⟩ := isC_ok h
    exact lay_lt hf
  have key : ∀ a, a < 94 → isC true 2 a = true → (match (lay true)[a]? with | some (.inl (c, fks)) => Nat.beq c 2 && (match fks[3]? with | some f => Nat.beq f 0 | none => false) | _ => false) = true := by decide +kernel
  have h2 := key a hb h
  split at h2
  · rename_i c fks e
    simp only [Bool.and_eq_true] at h2
    cases Nat.eq_of_beq_eq_true h2.1
    have h3 := h2.2
    split at h3
    · rename_i f e2
      cases Nat.eq_of_beq_eq_true h3
      exact ⟨fks, e, e2⟩
    · cases h3
  · cases h2
theorem lyS_4 {a : Nat} (h : isC true 2 a = true) : fAt true 2 4 1 a := by
  have hb : a < 94 := by
    obtain ⟨fks, hf⟩ := isC_ok h
    exact lay_lt hf
  have key : ∀ a, a < 94 → isC true 2 a = true → (match (lay true)[a]? with | some (.inl (c, fks)) => Nat.beq c 2 && (match fks[4]? with | some f => Nat.beq f 1 | none => false) | _ => false) = true := by decide +kernel
  have h2 := key a hb h
  split at h2
  · rename_i c fks e
    simp only [Bool.and_eq_true] at h2
    cases Nat.eq_of_beq_eq_true h2.1
    have h3 := h2.2
    split at h3
    · rename_i f e2
      cases Nat.eq_of_beq_eq_true h3
      exact ⟨fks, e, e2⟩
    · cases h3
  · cases h2
theorem lyS_5 {a : Nat} (h : isC true 2 a = true) : fAt true 2 5 (a + 3) a ∧ isA true 0 (a + 1) = true := by
  have hb : a < 94 := by
    obtain ⟨fks, hf⟩ := isC_ok h
    exact lay_lt hf
  have key : ∀ a, a < 94 → isC true 2 a = true → ((match (lay true)[a]? with | some (.inl (c, fks)) => Nat.beq c 2 && (match fks[5]? with | some f => Nat.beq f (a + 3) | none => false) | _ => false) && isA true 0 (a + 1)) = true := by decide +kernel
  have h1 := key a hb h
  simp only [Bool.and_eq_true] at h1
  refine ⟨?_, h1.2⟩
  have h2 := h1.1
  split at h2
  · rename_i c fks e
    simp only [Bool.and_eq_true] at h2
    cases Nat.eq_of_beq_eq_true h2.1
    have h3 := h2.2
    split at h3
    · rename_i f e2
      cases Nat.eq_of_beq_eq_true h3
      exact ⟨fks, e, e2⟩
    · cases h3
  · cases h2
theorem lyS_6 {a : Nat} (h : isC true 2 a = true) : fAt true 2 6 (a + 4) a ∧ isA true 0 (a + 2) = true := by
  have hb : a < 94 := by
    obtain ⟨fks, hf⟩ := isC_ok h
    exact lay_lt hf
  have key : ∀ a, a < 94 → isC true 2 a = true → ((match (lay true)[a]? with | some (.inl (c, fks)) => Nat.beq c 2 && (match fks[6]? with | some f => Nat.beq f (a + 4) | none => false) | _ => false) && isA true 0 (a + 2)) = true := by decide +kernel
  have h1 := key a hb h
  simp only [Bool.and_eq_true] at h1
  refine ⟨?_, h1.2⟩
  have h2 := h1.1
  split at h2
  · rename_i c fks e
    simp only [Bool.and_eq_true] at h2
    cases Nat.eq_of_beq_eq_true h2.1
    have h3 := h2.2
    split at h3
    · rename_i f e2
      cases Nat.eq_of_beq_eq_true h3
      exact ⟨fks, e, e2⟩
    · cases h3
  · cases h2
theorem lyS_7 {a : Nat} (h : isC true 2 a = true) : fAt true 2 7 (a + 5) a ∧ isA true 0 (a + 3) = true := by
  have hb : a < 94 := by
    obtain ⟨fks, hf⟩ := isC_ok h
    exact lay_lt hf
  have key : ∀ a, a < 94 → isC true 2 a = true → ((match (lay true)[a]? with | some (.inl (c, fks)) => Nat.beq c 2 && (match fks[7]? with | some f => Nat.beq f (a + 5) | none => false) | _ => false) && isA true 0 (a + 3)) = true := by decide +kernel
  have h1 := key a hb h
  simp only [Bool.and_eq_true] at h1
  refine ⟨?_, h1.2⟩
  have h2 := h1.1
  split at h2
  · rename_i c fks e
    simp only [Bool.and_eq_true] at h2
    cases Nat.eq_of_beq_eq_true h2.1
    have h3 := h2.2
    split at h3
    · rename_i f e2
      cases Nat.eq_of_beq_eq_true h3
      exact ⟨fks, e, e2⟩
    · cases h3
  · cases h2
theorem lyS_8 {a : Nat} (h : isC true 2 a = true) : fAt true 2 8 (a + 6) a ∧ isA true 0 (a + 4) = true := by
  have hb : a < 94 := by
    obtain ⟨fks, hf⟩ := isC_ok h
    exact lay_lt hf
  have key : ∀ a, a < 94 → isC true 2 a = true → ((match (lay true)[a]? with | some (.inl (c, fks)) => Nat.beq c 2 && (match fks[8]? with | some f => Nat.beq f (a + 6) | none => false) | _ => false) && isA true 0 (a + 4)) = true := by decide +kernel
  have h1 := key a hb h
  simp only [Bool.and_eq_true] at h1
  refine ⟨?_, h1.2⟩
  have h2 := h1.1
  split at h2
  · rename_i c fks e
    simp only [Bool.and_eq_true] at h2
    cases Nat.eq_of_beq_eq_true h2.1
    have h3 := h2.2
    split at h3
    · rename_i f e2
      cases Nat.eq_of_beq_eq_true h3
      exact ⟨fks, e, e2⟩
    · cases h3
  · cases h2
theorem lyS_9 {a : Nat} (h : isC true 2 a = true) : fAt true 2 9 (a + 7) a ∧ isA true 0 (a + 5) = true := by
  have hb : a < 94 := by
    obtain ⟨fks, hf⟩ := isC_ok h
    exact lay_lt hf
  have key : ∀ a, a < 94 → isC true 2 a = true → ((match (lay true)[a]? with | some (.inl (c, fks)) => Nat.beq c 2 && (match fks[9]? with | some f => Nat.beq f (a + 7) | none => false) | _ => false) && isA true 0 (a + 5)) = true := by decide +kernel
  have h1 := key a hb h
  simp only [Bool.and_eq_true] at h1
  refine ⟨?_, h1.2⟩
  have h2 := h1.1
  split at h2
  · rename_i c fks e
    simp only [Bool.and_eq_true] at h2
    cases Nat.eq_of_beq_eq_true h2.1
    have h3 := h2.2
    split at h3
    · rename_i f e2
      cases Nat.eq_of_beq_eq_true h3
      exact ⟨fks, e, e2⟩
    · cases h3
  · cases h2
theorem lyS_10 {a : Nat} (h : isC true 2 a = true) : fAt true 2 10 (a + 8) a ∧ isA true 3 (a + 6) = true := by
  have hb : a < 94 := by
    obtain ⟨fks, hf⟩ := isC_ok h
    exact lay_lt hf
  have key : ∀ a, a < 94 → isC true 2 a = true → ((match (lay true)[a]? with | some (.inl (c, fks)) => Nat.beq c 2 && (match fks[10]? with | some f => Nat.beq f (a + 8) | none => false) | _ => false) && isA true 3 (a + 6)) = true := by decide +kernel
  have h1 := key a hb h
  simp only [Bool.and_eq_true] at h1
  refine ⟨?_, h1.2⟩
  have h2 := h1.1
  split at h2
  · rename_i c fks e
    simp only [Bool.and_eq_true] at h2
    cases Nat.eq_of_beq_eq_true h2.1
    have h3 := h2.2
    split at h3
    · rename_i f e2
      cases Nat.eq_of_beq_eq_true h3
      exact ⟨fks, e, e2⟩
    · cases h3
  · cases h2
theorem lyS_11 {a : Nat} (h : isC true 2 a = true) : fAt true 2 11 (a + 9) a ∧ isA true 0 (a + 7) = true := by
  have hb : a < 94 := by
    obtain ⟨fks, hf⟩ := isC_ok h
    exact lay_lt hf
  have key : ∀ a, a < 94 → isC true 2 a = true → ((match (lay true)[a]? with | some (.inl (c, fks)) => Nat.beq c 2 && (match fks[11]? with | some f => Nat.beq f (a + 9) | none => false) | _ => false) && isA true 0 (a + 7)) = true := by decide +kernel
  have h1 := key a hb h
  simp only [Bool.and_eq_true] at h1
  refine ⟨?_, h1.2⟩
  have h2 := h1.1
  split at h2
  · rename_i c fks e
    simp only [Bool.and_eq_true] at h2
    cases Nat.eq_of_beq_eq_true h2.1
    have h3 := h2.2
    split at h3
    · rename_i f e2
      cases Nat.eq_of_beq_eq_true h3
      exact ⟨fks, e, e2⟩
    · cases h3
  · cases h2
theorem lyS_12 {a : Nat} (h : isC true 2 a = true) : fAt true 2 12 (a + 10) a ∧ isA true 0 (a + 8) = true := by
  have hb : a < 94 := by
    obtain ⟨fks, hf⟩ := isC_ok h
    exact lay_lt hf
  have key : ∀ a, a < 94 → isC true 2 a = true → ((match (lay true)[a]? with | some (.inl (c, fks)) => Nat.beq c 2 && (match fks[12]? with | some f => Nat.beq f (a + 10) | none => false) | _ => false) && isA true 0 (a + 8)) = true := by decide +kernel
  have h1 := key a hb h
  simp only [Bool.and_eq_true] at h1
  refine ⟨?_, h1.2⟩
  have h2 := h1.1
  split at h2
  · rename_i c fks e
    simp only [Bool.and_eq_true] at h2
    cases Nat.eq_of_beq_eq_true h2.1
    have h3 := h2.2
    split at h3
    · rename_i f e2
      cases Nat.eq_of_beq_eq_true h3
      exact ⟨fks, e, e2⟩
    · cases h3
  · cases h2
theorem lyT_0 {a : Nat} (h : isC true 5 a = true) : fAt true 5 0 0 a := by
  have hb : a < 94 := by
    obtain ⟨fks, hf⟩ := isC_ok h
    exact lay_lt hf
  have key : ∀ a, a < 94 → isC true 5 a = true → (match (lay true)[a]? with | some (.inl (c, fks)) => Nat.beq c 5 && (match fks[0]? with | some f => Nat.beq f 0 | none => false) | _ => false) = true := by decide +kernel
  have h2 := key a hb h
  split at h2
  · rename_i c fks e
    simp only [Bool.and_eq_true] at h2
    cases Nat.eq_of_beq_eq_true h2.1
    have h3 := h2.2
    split at h3
    · rename_i f e2
      cases Nat.eq_of_beq_eq_true h3
      exact ⟨fks, e, e2⟩
    · cases h3
  · cases h2
theorem lyT_1 {a : Nat} (h : isC true 5 a = true) : fAt true 5 1 0 a := by
  have hb : a < 94 := by
    obtain ⟨fks, hf⟩ := isC_ok h
    exact lay_lt hf
  have key : ∀ a, a < 94 → isC true 5 a = true → (match (lay true)[a]? with | some (.inl (c, fks)) => Nat.beq c 5 && (match fks[1]? with | some f => Nat.beq f 0 | none => false) | _ => false) = true := by decide +kernel
  have h2 := key a hb h
  split at h2
  · rename_i c fks e
    simp only [Bool.and_eq_true] at h2
    cases Nat.eq_of_beq_eq_true h2.1
    have h3 := h2.2
    split at h3
    · rename_i f e2
      cases Nat.eq_of_beq_eq_true h3
      exact ⟨fks, e, e2⟩
    · cases h3
  · cases h2
theorem lyT_2 {a : Nat} (h : isC true 5 a = true) : fAt true 5 2 0 a := by
  have hb : a < 94 := by
    obtain ⟨fks, hf⟩ := isC_ok h
    exact lay_lt hf
  have key : ∀ a, a < 94 → isC true 5 a = true → (match (lay true)[a]? with | some (.inl (c, fks)) => Nat.beq c 5 && (match fks[2]? with | some f => Nat.beq f 0 | none => false) | _ => false) = true := by decide +kernel
  have h2 := key a hb h
  split at h2
  · rename_i c fks e
    simp only [Bool.and_eq_true] at h2
    cases Nat.eq_of_beq_eq_true h2.1
    have h3 := h2.2
    split at h3
    · rename_i f e2
      cases Nat.eq_of_beq_eq_true h3
      exact ⟨fks, e, e2⟩
    · cases h3
  · cases h2
theorem lyT_3 {a : Nat} (h : isC true 5 a = true) : fAt true 5 3 0 a := by
  have hb : a < 94 := by
    obtain ⟨fks, hf⟩ := isC_ok h
    exact lay_lt hf
  have key : ∀ a, a < 94 → isC true 5 a = true → (match (lay true)[a]? with | some (.inl (c, fks)) => Nat.beq c 5 && (match fks[3]? with | some f => Nat.beq f 0 | none => false) | _ => false) = true := by decide +kernel
  have h2 := key a hb h
  split at h2
  · rename_i c fks e
    simp only [Bool.and_eq_true] at h2
    cases Nat.eq_of_beq_eq_true h2.1
    have h3 := h2.2
    split at h3
    · rename_i f e2
      cases Nat.eq_of_beq_eq_true h3
      exact ⟨fks, e, e2⟩
    · cases h3
  · cases h2
theorem lyT_4 {a : Nat} (h : isC true 5 a = true) : fAt true 5 4 0 a := by
  have hb : a < 94 := by
    obtain ⟨fks, hf⟩ := isC_ok h
    exact lay_lt hf
  have key : ∀ a, a < 94 → isC true 5 a = true → (match (lay true)[a]? with | some (.inl (c, fks)) => Nat.beq c 5 && (match fks[4]? with | some f => Nat.beq f 0 | none => false) | _ => false) = true := by decide +kernel
  have h2 := key a hb h
  split at h2
  · rename_i c fks e
    simp only [Bool.and_eq_true] at h2
    cases Nat.eq_of_beq_eq_true h2.1
    have h3 := h2.2
    split at h3
    · rename_i f e2
      cases Nat.eq_of_beq_eq_true h3
      exact ⟨fks, e, e2⟩
    · cases h3
  · cases h2
theorem lyT_5 {a : Nat} (h : isC true 5 a = true) : fAt true 5 5 (a + 3) a ∧ isA true 0 (a + 1) = true := by
  have hb : a < 94 := by
    obtain ⟨fks, hf⟩ := isC_ok h
    exact lay_lt hf
  have key : ∀ a, a < 94 → isC true 5 a = true → ((match (lay true)[a]? with | some (.inl (c, fks)) => Nat.beq c 5 && (match fks[5]? with | some f => Nat.beq f (a + 3) | none => false) | _ => false) && isA true 0 (a + 1)) = true := by decide +kernel
  have h1 := key a hb h
  simp only [Bool.and_eq_true] at h1
  refine ⟨?_, h1.2⟩
  have h2 := h1.1
  split at h2
  · rename_i c fks e
    simp only [Bool.and_eq_true] at h2
    cases Nat.eq_of_beq_eq_true h2.1
    have h3 := h2.2
    split at h3
    · rename_i f e2
      cases Nat.eq_of_beq_eq_true h3
      exact ⟨fks, e, e2⟩
    · cases h3
  · cases h2
theorem lyT_6 {a : Nat} (h : isC true 5 a = true) : fAt true 5 6 (a + 4) a ∧ isA true 0 (a + 2) = true := by
  have hb : a < 94 := by
    obtain ⟨fks, hf⟩ := isC_ok h
    exact lay_lt hf
  have key : ∀ a, a < 94 → isC true 5 a = true → ((match (lay true)[a]? with | some (.inl (c, fks)) => Nat.beq c 5 && (match fks[6]? with | some f => Nat.beq f (a + 4) | none => false) | _ => false) && isA true 0 (a + 2)) = true := by decide +kernel
  have h1 := key a hb h
  simp only [Bool.and_eq_true] at h1
  refine ⟨?_, h1.2⟩
  have h2 := h1.1
  split at h2
  · rename_i c fks e
    simp only [Bool.and_eq_true] at h2
    cases Nat.eq_of_beq_eq_true h2.1
    have h3 := h2.2
    split at h3
    · rename_i f e2
      cases Nat.eq_of_beq_eq_true h3
      exact ⟨fks, e, e2⟩
    · cases h3
  · cases h2
theorem lyT_7 {a : Nat} (h : isC true 5 a = true) : fAt true 5 7 (a + 5) a ∧ isA true 0 (a + 3) = true := by
  have hb : a < 94 := by
    obtain ⟨fks, hf⟩ := isC_ok h
    exact lay_lt hf
  have key : ∀ a, a < 94 → isC true 5 a = true → ((match (lay true)[a]? with | some (.inl (c, fks)) => Nat.beq c 5 && (match fks[7]? with | some f => Nat.beq f (a + 5) | none => false) | _ => false) && isA true 0 (a + 3)) = true := by decide +kernel
  have h1 := key a hb h
  simp only [Bool.and_eq_true] at h1
  refine ⟨?_, h1.2⟩
  have h2 := h1.1
  split at h2
  · rename_i c fks e
    simp only [Bool.and_eq_true] at h2
    cases Nat.eq_of_beq_eq_true h2.1
    have h3 := h2.2
    split at h3
    · rename_i f e2
      cases Nat.eq_of_beq_eq_true h3
      exact ⟨fks, e, e2⟩
    · cases h3
  · cases h2
theorem lyT_8 {a : Nat} (h : isC true 5 a = true) : fAt true 5 8 (a + 6) a ∧ isA true 0 (a + 4) = true := by
  have hb : a < 94 := by
    obtain ⟨fks, hf⟩ := isC_ok h
    exact lay_lt hf
  have key : ∀ a, a < 94 → isC true 5 a = true → ((match (lay true)[a]? with | some (.inl (c, fks)) => Nat.beq c 5 && (match fks[8]? with | some f => Nat.beq f (a + 6) | none => false) | _ => false) && isA true 0 (a + 4)) = true := by decide +kernel
  have h1 := key a hb h
  simp only [Bool.and_eq_true] at h1
  refine ⟨?_, h1.2⟩
  have h2 := h1.1
  split at h2
  · rename_i c fks e
    simp only [Bool.and_eq_true] at h2
    cases Nat.eq_of_beq_eq_true h2.1
    have h3 := h2.2
    split at h3
    · rename_i f e2
      cases Nat.eq_of_beq_eq_true h3
      exact ⟨fks, e, e2⟩
    · cases h3
  · cases h2
theorem lyT_9 {a : Nat} (h : isC true 5 a = true) : fAt true 5 9 (a + 7) a ∧ isA true 0 (a + 5) = true := by
  have hb : a < 94 := by
    obtain ⟨fks, hf⟩ := isC_ok h
    exact lay_lt hf
  have key : ∀ a, a < 94 → isC true 5 a = true → ((match (lay true)[a]? with | some (.inl (c, fks)) => Nat.beq c 5 && (match fks[9]? with | some f => Nat.beq f (a + 7) | none => false) | _ => false) && isA true 0 (a + 5)) = true := by decide +kernel
  have h1 := key a hb h
  simp only [Bool.and_eq_true] at h1
  refine ⟨?_, h1.2⟩
  have h2 := h1.1
  split at h2
  · rename_i c fks e
    simp only [Bool.and_eq_true] at h2
    cases Nat.eq_of_beq_eq_true h2.1
    have h3 := h2.2
    split at h3
    · rename_i f e2
      cases Nat.eq_of_beq_eq_true h3
      exact ⟨fks, e, e2⟩
    · cases h3
  · cases h2
theorem lyP_0 {a : Nat} (h : isC true 3 a = true) : fAt true 3 0 0 a := by
  have hb : a < 94 := by
    obtain ⟨fks, hf⟩ := isC_ok h
    exact lay_lt hf
  have key : ∀ a, a < 94 → isC true 3 a = true → (match (lay true)[a]? with | some (.inl (c, fks)) => Nat.beq c 3 && (match fks[0]? with | some f => Nat.beq f 0 | none => false) | _ => false) = true := by decide +kernel
  have h2 := key a hb h
  split at h2
  · rename_i c fks e
    simp only [Bool.and_eq_true] at h2
    cases Nat.eq_of_beq_eq_true h2.1
    have h3 := h2.2
    split at h3
    · rename_i f e2
      cases Nat.eq_of_beq_eq_true h3
      exact ⟨fks, e, e2⟩
    · cases h3
  · cases h2
theorem lyP_1 {a : Nat} (h : isC true 3 a = true) : fAt true 3 1 0 a := by
  have hb : a < 94 := by
    obtain ⟨fks, hf⟩ := isC_ok h
    exact lay_lt hf
  have key : ∀ a, a < 94 → isC true 3 a = true → (match (lay true)[a]? with | some (.inl (c, fks)) => Nat.beq c 3 && (match fks[1]? with | some f => Nat.beq f 0 | none => false) | _ => false) = true := by decide +kernel
  have h2 := key a hb h
  split at h2
  · rename_i c fks e
    simp only [Bool.and_eq_true] at h2
    cases Nat.eq_of_beq_eq_true h2.1
    have h3 := h2.2
    split at h3
    · rename_i f e2
      cases Nat.eq_of_beq_eq_true h3
      exact ⟨fks, e, e2⟩
    · cases h3
  · cases h2
theorem lyP_2 {a : Nat} (h : isC true 3 a = true) : fAt true 3 2 (a + 3) a ∧ isA true 1 (a + 1) = true := by
  have hb : a < 94 := by
    obtain ⟨fks, hf⟩ := isC_ok h
    exact lay_lt hf
  have key : ∀ a, a < 94 → isC true 3 a = true → ((match (lay true)[a]? with | some (.inl (c, fks)) => Nat.beq c 3 && (match fks[2]? with | some f => Nat.beq f (a + 3) | none => false) | _ => false) && isA true 1 (a + 1)) = true := by decide +kernel
  have h1 := key a hb h
  simp only [Bool.and_eq_true] at h1
  refine ⟨?_, h1.2⟩
  have h2 := h1.1
  split at h2
  · rename_i c fks e
    simp only [Bool.and_eq_true] at h2
    cases Nat.eq_of_beq_eq_true h2.1
    have h3 := h2.2
    split at h3
    · rename_i f e2
      cases Nat.eq_of_beq_eq_true h3
      exact ⟨fks, e, e2⟩
    · cases h3
  · cases h2
end
-- 20b.rows.lean.txt
section
/-! ROWS OF JF -/
/-- a contract out of a function -/
def cF {R : Type} (w : Bool) (ι : R → Option Value) (M : jM) (d : Nat) (args : List Value) (m : mM) (e : fR R) : Prop := ∀ r m', e = some (r, m') → jCt M d 0 0 args (mH w m) (fun r1 h1 => r1 = ι r ∧ h1 = mH w m')
/-- behind a call -/
def bnd {R R' : Type} (f : fR R') (k : R' → mM → fR R) : fR R := match f with
  | some (r, m) => k r m
  | none => none
theorem bnd_ok {R R' : Type} {f : fR R'} {k : R' → mM → fR R} {r : R} {m' : mM} (h : bnd f k = some (r, m')) : ∃ r1 m1, f = some (r1, m1) ∧ k r1 m1 = some (r, m') := by
  unfold bnd at h
  split at h
  · rename_i r1 m1
    exact ⟨r1, m1, rfl, h⟩
  · cases h
section FROWS
variable {R R' : Type} {w : Bool} {ι : R → Option Value} {ι' : R' → Option Value} {M M' : jM} {d d' pc tgt : Nat} {lv lv' : jLv} {st : List Value} {m : mM} {e e1 e2 : fR R}
theorem F_no : JF w ι M d pc lv st m none := fun r h' he => by cases he
theorem F_loc (hs : ∀ q ∈ lv', q ∈ lv) (K : JF w ι M d pc lv' st m e) : JF w ι M d pc lv st m e := fun r h' he => J.locals hs (K r h' he)
theorem F_nm {x : Int32} {k : Int32 → fR R} (K : ∀ v, JF w ι M d pc lv (.int v :: st) m (k v)) : JF w ι M d pc lv (.int x :: st) m (nmI x k) := K x
theorem F_ch {ci r : Nat} {k : Nat → fR R} (K : ∀ r', isC w ci r' = true → JF w ι M d pc lv (.ref r' :: st) m (k r')) : JF w ι M d pc lv (.ref r :: st) m (chR w ci r k) := fun r1 m1 he => by
  unfold chR at he
  split at he
  · rename_i hc
    exact K r hc r1 m1 he
  · cases he
theorem F_iconst {n : Int} {v : Int32} (hv : Int32.ofInt n = v) (hd : decode M.2.2.1 pc = .ok (.iconst n, 1)) (K : JF w ι M d (pc + 1) lv (.int v :: st) m e) : JF w ι M d pc lv (st) m e := fun r h' he => J_iconst hv hd (K r h' he)
theorem F_bipush {n : Int} {v : Int32} (hv : (Int8.ofInt n).toInt32 = v) (hd : decode M.2.2.1 pc = .ok (.bipush n, 2)) (K : JF w ι M d (pc + 2) lv (.int v :: st) m e) : JF w ι M d pc lv (st) m e := fun r h' he => J_bipush hv hd (K r h' he)
theorem F_sipush {n : Int} {v : Int32} (hv : (Int16.ofInt n).toInt32 = v) (hd : decode M.2.2.1 pc = .ok (.sipush n, 3)) (K : JF w ι M d (pc + 3) lv (.int v :: st) m e) : JF w ι M d pc lv (st) m e := fun r h' he => J_sipush hv hd (K r h' he)
theorem F_lconst {n : Fin 2} {v : Int64} (hv : Int64.ofNat (n : Nat) = v) (hd : decode M.2.2.1 pc = .ok (.lconst n, 1)) (K : JF w ι M d (pc + 1) lv (.long v :: st) m e) : JF w ι M d pc lv (st) m e := fun r h' he => J_lconst hv hd (K r h' he)
theorem F_iadd {x y : Int32} (hd : decode M.2.2.1 pc = .ok (.iadd, 1)) (K : JF w ι M d (pc + 1) lv (.int (x + y) :: st) m e) : JF w ι M d pc lv (.int y :: .int x :: st) m e := fun r h' he => J_iadd hd (K r h' he)
theorem F_isub {x y : Int32} (hd : decode M.2.2.1 pc = .ok (.isub, 1)) (K : JF w ι M d (pc + 1) lv (.int (x - y) :: st) m e) : JF w ι M d pc lv (.int y :: .int x :: st) m e := fun r h' he => J_isub hd (K r h' he)
theorem F_imul {x y : Int32} (hd : decode M.2.2.1 pc = .ok (.imul, 1)) (K : JF w ι M d (pc + 1) lv (.int (x * y) :: st) m e) : JF w ι M d pc lv (.int y :: .int x :: st) m e := fun r h' he => J_imul hd (K r h' he)
theorem F_iand {x y : Int32} (hd : decode M.2.2.1 pc = .ok (.iand, 1)) (K : JF w ι M d (pc + 1) lv (.int (x &&& y) :: st) m e) : JF w ι M d pc lv (.int y :: .int x :: st) m e := fun r h' he => J_iand hd (K r h' he)
theorem F_ior {x y : Int32} (hd : decode M.2.2.1 pc = .ok (.ior, 1)) (K : JF w ι M d (pc + 1) lv (.int (x ||| y) :: st) m e) : JF w ι M d pc lv (.int y :: .int x :: st) m e := fun r h' he => J_ior hd (K r h' he)
theorem F_ixor {x y : Int32} (hd : decode M.2.2.1 pc = .ok (.ixor, 1)) (K : JF w ι M d (pc + 1) lv (.int (x ^^^ y) :: st) m e) : JF w ι M d pc lv (.int y :: .int x :: st) m e := fun r h' he => J_ixor hd (K r h' he)
theorem F_ishl {x y : Int32} (hd : decode M.2.2.1 pc = .ok (.ishl, 1)) (K : JF w ι M d (pc + 1) lv (.int (x <<< (y &&& 31)) :: st) m e) : JF w ι M d pc lv (.int y :: .int x :: st) m e := fun r h' he => J_ishl hd (K r h' he)
theorem F_ishr {x y : Int32} (hd : decode M.2.2.1 pc = .ok (.ishr, 1)) (K : JF w ι M d (pc + 1) lv (.int (x >>> (y &&& 31)) :: st) m e) : JF w ι M d pc lv (.int y :: .int x :: st) m e := fun r h' he => J_ishr hd (K r h' he)
theorem F_iushr {x y : Int32} (hd : decode M.2.2.1 pc = .ok (.iushr, 1)) (K : JF w ι M d (pc + 1) lv (.int ((x.toUInt32 >>> (y.toUInt32 &&& Int32.toUInt32 31)).toInt32) :: st) m e) : JF w ι M d pc lv (.int y :: .int x :: st) m e := fun r h' he => J_iushr rfl hd (K r h' he)
theorem F_ineg {x : Int32} (hd : decode M.2.2.1 pc = .ok (.ineg, 1)) (K : JF w ι M d (pc + 1) lv (.int (-x) :: st) m e) : JF w ι M d pc lv (.int x :: st) m e := fun r h' he => J_ineg hd (K r h' he)
theorem F_land {x y : Int64} (hd : decode M.2.2.1 pc = .ok (.land, 1)) (K : JF w ι M d (pc + 1) lv (.long (x &&& y) :: st) m e) : JF w ι M d pc lv (.long y :: .long x :: st) m e := fun r h' he => J_land hd (K r h' he)
theorem F_lor {x y : Int64} (hd : decode M.2.2.1 pc = .ok (.lor, 1)) (K : JF w ι M d (pc + 1) lv (.long (x ||| y) :: st) m e) : JF w ι M d pc lv (.long y :: .long x :: st) m e := fun r h' he => J_lor hd (K r h' he)
theorem F_lshl {x : Int64} {y : Int32} (hd : decode M.2.2.1 pc = .ok (.lshl, 1)) (K : JF w ι M d (pc + 1) lv (.long (x <<< (y.toInt64 &&& 63)) :: st) m e) : JF w ι M d pc lv (.int y :: .long x :: st) m e := fun r h' he => J_lshl rfl hd (K r h' he)
theorem F_lcmp {x y : Int64} (hd : decode M.2.2.1 pc = .ok (.lcmp, 1)) (K : JF w ι M d (pc + 1) lv (.int (lg_cmp x y) :: st) m e) : JF w ι M d pc lv (.long y :: .long x :: st) m e := fun r h' he => J_lcmp hd (K r h' he)
theorem F_i2l {x : Int32} (hd : decode M.2.2.1 pc = .ok (.i2l, 1)) (K : JF w ι M d (pc + 1) lv (.long x.toInt64 :: st) m e) : JF w ι M d pc lv (.int x :: st) m e := fun r h' he => J_i2l hd (K r h' he)
theorem F_l2i {x : Int64} (hd : decode M.2.2.1 pc = .ok (.l2i, 1)) (K : JF w ι M d (pc + 1) lv (.int x.toInt32 :: st) m e) : JF w ι M d pc lv (.long x :: st) m e := fun r h' he => J_l2i hd (K r h' he)
theorem F_i2b {x : Int32} (hd : decode M.2.2.1 pc = .ok (.i2b, 1)) (K : JF w ι M d (pc + 1) lv (.int x.toInt8.toInt32 :: st) m e) : JF w ι M d pc lv (.int x :: st) m e := fun r h' he => J_i2b hd (K r h' he)
theorem F_i2s {x : Int32} (hd : decode M.2.2.1 pc = .ok (.i2s, 1)) (K : JF w ι M d (pc + 1) lv (.int x.toInt16.toInt32 :: st) m e) : JF w ι M d pc lv (.int x :: st) m e := fun r h' he => J_i2s hd (K r h' he)
theorem F_dup {v : Value} (hc : v.category = 1) (hd : decode M.2.2.1 pc = .ok (.dup, 1)) (K : JF w ι M d (pc + 1) lv (v :: v :: st) m e) : JF w ι M d pc lv (v :: st) m e := fun r h' he => J_dup hc hd (K r h' he)
theorem F_pop {v : Value} (hc : v.category = 1) (hd : decode M.2.2.1 pc = .ok (.pop, 1)) (K : JF w ι M d (pc + 1) lv (st) m e) : JF w ι M d pc lv (v :: st) m e := fun r h' he => J_pop hc hd (K r h' he)
theorem F_dup2 {v v2 : Value} (hc : v.category = 1) (hw : v2.category = 1) (hd : decode M.2.2.1 pc = .ok (.dup2, 1)) (K : JF w ι M d (pc + 1) lv (v :: v2 :: v :: v2 :: st) m e) : JF w ι M d pc lv (v :: v2 :: st) m e := fun r h' he => J_dup2 hc hw hd (K r h' he)
theorem F_ldc {i : Nat} {v : Int32} (hw : Cond.constant M.2.1.cls i v ∈ jG) (hd : decode M.2.2.1 pc = .ok (.ldc i, 2)) (K : JF w ι M d (pc + 2) lv (.int v :: st) m e) : JF w ι M d pc lv (st) m e := fun r h' he => J_ldc hw hd (K r h' he)
theorem F_ldcw {i : Nat} {v : Int32} (hw : Cond.constant M.2.1.cls i v ∈ jG) (hd : decode M.2.2.1 pc = .ok (.ldc_w i, 3)) (K : JF w ι M d (pc + 3) lv (.int v :: st) m e) : JF w ι M d pc lv (st) m e := fun r h' he => J_ldcw hw hd (K r h' he)
theorem F_ldc2 {i : Nat} {v : Int64} (hw : Cond.constantLong M.2.1.cls i v ∈ jG) (hd : decode M.2.2.1 pc = .ok (.ldc2_w i, 3)) (K : JF w ι M d (pc + 3) lv (.long v :: st) m e) : JF w ι M d pc lv (st) m e := fun r h' he => J_ldc2 hw hd (K r h' he)
theorem F_iload_n {i : Nat} {a : Fin 4} {x : Int32} (hi : (a : Nat) = i) (hg : jget lv i = some (.int x)) (hd : decode M.2.2.1 pc = .ok (.iload_n a, 1)) (K : JF w ι M d (pc + 1) lv (.int x :: st) m e) : JF w ι M d pc lv (st) m e := fun r h' he => J_iload_n hi hg hd (K r h' he)
theorem F_iload {i : Nat} {x : Int32} (hg : jget lv i = some (.int x)) (hd : decode M.2.2.1 pc = .ok (.iload i, 2)) (K : JF w ι M d (pc + 2) lv (.int x :: st) m e) : JF w ι M d pc lv (st) m e := fun r h' he => J_iload hg hd (K r h' he)
theorem F_lload_n {i : Nat} {a : Fin 4} {x : Int64} (hi : (a : Nat) = i) (hg : jget lv i = some (.long x)) (hd : decode M.2.2.1 pc = .ok (.lload_n a, 1)) (K : JF w ι M d (pc + 1) lv (.long x :: st) m e) : JF w ι M d pc lv (st) m e := fun r h' he => J_lload_n hi hg hd (K r h' he)
theorem F_lload {i : Nat} {x : Int64} (hg : jget lv i = some (.long x)) (hd : decode M.2.2.1 pc = .ok (.lload i, 2)) (K : JF w ι M d (pc + 2) lv (.long x :: st) m e) : JF w ι M d pc lv (st) m e := fun r h' he => J_lload hg hd (K r h' he)
theorem F_aload_n {i : Nat} {a : Fin 4} {x : Nat} (hi : (a : Nat) = i) (hg : jget lv i = some (.ref x)) (hd : decode M.2.2.1 pc = .ok (.aload_n a, 1)) (K : JF w ι M d (pc + 1) lv (.ref x :: st) m e) : JF w ι M d pc lv (st) m e := fun r h' he => J_aload_n hi hg hd (K r h' he)
theorem F_aload {i : Nat} {x : Nat} (hg : jget lv i = some (.ref x)) (hd : decode M.2.2.1 pc = .ok (.aload i, 2)) (K : JF w ι M d (pc + 2) lv (.ref x :: st) m e) : JF w ι M d pc lv (st) m e := fun r h' he => J_aload hg hd (K r h' he)
theorem F_sload_n {i z : Nat} {a : Fin 4} (hi : (a : Nat) = i) (hg : jget lv i = some (.retAddr z)) (hd : decode M.2.2.1 pc = .ok (.aload_n a, 1)) (K : JF w ι M d (pc + 1) lv (.retAddr z :: st) m e) : JF w ι M d pc lv (st) m e := fun r h' he => J_sload_n hi hg hd (K r h' he)
theorem F_istore_n {i : Nat} {a : Fin 4} {x : Int32} (hi : (a : Nat) = i) (hn : i < M.2.2.2.1) (hl : jset lv i (.int x) = lv') (hd : decode M.2.2.1 pc = .ok (.istore_n a, 1)) (K : JF w ι M d (pc + 1) lv' st m e) : JF w ι M d pc lv (.int x :: st) m e := by
  subst hl
  exact fun r h' he => J_istore_n hi hn hd (K r h' he)
theorem F_istore {i : Nat} {x : Int32} (hn : i < M.2.2.2.1) (hl : jset lv i (.int x) = lv') (hd : decode M.2.2.1 pc = .ok (.istore i, 2)) (K : JF w ι M d (pc + 2) lv' st m e) : JF w ι M d pc lv (.int x :: st) m e := by
  subst hl
  exact fun r h' he => J_istore hn hd (K r h' he)
theorem F_astore_n {i : Nat} {a : Fin 4} {x : Nat} (hi : (a : Nat) = i) (hn : i < M.2.2.2.1) (hl : jset lv i (.ref x) = lv') (hd : decode M.2.2.1 pc = .ok (.astore_n a, 1)) (K : JF w ι M d (pc + 1) lv' st m e) : JF w ι M d pc lv (.ref x :: st) m e := by
  subst hl
  exact fun r h' he => J_astore_n hi hn hd (K r h' he)
theorem F_astore {i : Nat} {x : Nat} (hn : i < M.2.2.2.1) (hl : jset lv i (.ref x) = lv') (hd : decode M.2.2.1 pc = .ok (.astore i, 2)) (K : JF w ι M d (pc + 2) lv' st m e) : JF w ι M d pc lv (.ref x :: st) m e := by
  subst hl
  exact fun r h' he => J_astore hn hd (K r h' he)
theorem F_iinc {i : Nat} {n : Int} {x v : Int32} (hg : jget lv i = some (.int x)) (hv : x + Int32.ofInt n = v) (hn : i < M.2.2.2.1) (hl : jset lv i (.int v) = lv') (hd : decode M.2.2.1 pc = .ok (.iinc i n, 3)) (K : JF w ι M d (pc + 3) lv' st m e) : JF w ι M d pc lv st m e := by
  subst hl
  exact fun r h' he => J_iinc hg hv hn hd (K r h' he)
theorem F_goto {off : Int} (ht : (pc : Int) + off = (tgt : Int)) (hd : decode M.2.2.1 pc = .ok (.goto off, 3)) (K : JF w ι M d tgt lv st m e) : JF w ι M d pc lv st m e := fun r h' he => J_goto ht hd (K r h' he)
theorem F_icmp_lt {x y : Int32} {off : Int} (ht : (pc : Int) + off = (tgt : Int)) (hd : decode M.2.2.1 pc = .ok (.if_icmp .lt off, 3)) (K1 : JF w ι M d tgt lv st m e1) (K2 : JF w ι M d (pc + 3) lv st m e2) : JF w ι M d pc lv (.int y :: .int x :: st) m (if x < y then e1 else e2) := fun r h' he => J_icmp_lt ht hd (fun c => K1 r h' (by rw [if_pos (show x < y from c)] at he; exact he)) (fun c => K2 r h' (by rw [if_neg (show ¬ x < y from c)] at he; exact he))
theorem F_if_lt {x : Int32} {off : Int} (ht : (pc : Int) + off = (tgt : Int)) (hd : decode M.2.2.1 pc = .ok (.ifCond .lt off, 3)) (K1 : JF w ι M d tgt lv st m e1) (K2 : JF w ι M d (pc + 3) lv st m e2) : JF w ι M d pc lv (.int x :: st) m (if x < 0 then e1 else e2) := fun r h' he => J_if_lt ht hd (fun c => K1 r h' (by rw [if_pos (show x < 0 from c)] at he; exact he)) (fun c => K2 r h' (by rw [if_neg (show ¬ x < 0 from c)] at he; exact he))
theorem F_icmp_ge {x y : Int32} {off : Int} (ht : (pc : Int) + off = (tgt : Int)) (hd : decode M.2.2.1 pc = .ok (.if_icmp .ge off, 3)) (K1 : JF w ι M d tgt lv st m e1) (K2 : JF w ι M d (pc + 3) lv st m e2) : JF w ι M d pc lv (.int y :: .int x :: st) m (if y ≤ x then e1 else e2) := fun r h' he => J_icmp_ge ht hd (fun c => K1 r h' (by rw [if_pos (show y ≤ x from c)] at he; exact he)) (fun c => K2 r h' (by rw [if_neg (show ¬ y ≤ x from c)] at he; exact he))
theorem F_if_ge {x : Int32} {off : Int} (ht : (pc : Int) + off = (tgt : Int)) (hd : decode M.2.2.1 pc = .ok (.ifCond .ge off, 3)) (K1 : JF w ι M d tgt lv st m e1) (K2 : JF w ι M d (pc + 3) lv st m e2) : JF w ι M d pc lv (.int x :: st) m (if 0 ≤ x then e1 else e2) := fun r h' he => J_if_ge ht hd (fun c => K1 r h' (by rw [if_pos (show 0 ≤ x from c)] at he; exact he)) (fun c => K2 r h' (by rw [if_neg (show ¬ 0 ≤ x from c)] at he; exact he))
theorem F_icmp_gt {x y : Int32} {off : Int} (ht : (pc : Int) + off = (tgt : Int)) (hd : decode M.2.2.1 pc = .ok (.if_icmp .gt off, 3)) (K1 : JF w ι M d tgt lv st m e1) (K2 : JF w ι M d (pc + 3) lv st m e2) : JF w ι M d pc lv (.int y :: .int x :: st) m (if y < x then e1 else e2) := fun r h' he => J_icmp_gt ht hd (fun c => K1 r h' (by rw [if_pos (show y < x from c)] at he; exact he)) (fun c => K2 r h' (by rw [if_neg (show ¬ y < x from c)] at he; exact he))
theorem F_if_gt {x : Int32} {off : Int} (ht : (pc : Int) + off = (tgt : Int)) (hd : decode M.2.2.1 pc = .ok (.ifCond .gt off, 3)) (K1 : JF w ι M d tgt lv st m e1) (K2 : JF w ι M d (pc + 3) lv st m e2) : JF w ι M d pc lv (.int x :: st) m (if 0 < x then e1 else e2) := fun r h' he => J_if_gt ht hd (fun c => K1 r h' (by rw [if_pos (show 0 < x from c)] at he; exact he)) (fun c => K2 r h' (by rw [if_neg (show ¬ 0 < x from c)] at he; exact he))
theorem F_icmp_le {x y : Int32} {off : Int} (ht : (pc : Int) + off = (tgt : Int)) (hd : decode M.2.2.1 pc = .ok (.if_icmp .le off, 3)) (K1 : JF w ι M d tgt lv st m e1) (K2 : JF w ι M d (pc + 3) lv st m e2) : JF w ι M d pc lv (.int y :: .int x :: st) m (if x ≤ y then e1 else e2) := fun r h' he => J_icmp_le ht hd (fun c => K1 r h' (by rw [if_pos (show x ≤ y from c)] at he; exact he)) (fun c => K2 r h' (by rw [if_neg (show ¬ x ≤ y from c)] at he; exact he))
theorem F_if_le {x : Int32} {off : Int} (ht : (pc : Int) + off = (tgt : Int)) (hd : decode M.2.2.1 pc = .ok (.ifCond .le off, 3)) (K1 : JF w ι M d tgt lv st m e1) (K2 : JF w ι M d (pc + 3) lv st m e2) : JF w ι M d pc lv (.int x :: st) m (if x ≤ 0 then e1 else e2) := fun r h' he => J_if_le ht hd (fun c => K1 r h' (by rw [if_pos (show x ≤ 0 from c)] at he; exact he)) (fun c => K2 r h' (by rw [if_neg (show ¬ x ≤ 0 from c)] at he; exact he))
theorem F_icmp_eq {x y : Int32} {off : Int} (ht : (pc : Int) + off = (tgt : Int)) (hd : decode M.2.2.1 pc = .ok (.if_icmp .eq off, 3)) (K1 : JF w ι M d tgt lv st m e1) (K2 : JF w ι M d (pc + 3) lv st m e2) : JF w ι M d pc lv (.int y :: .int x :: st) m (if x = y then e1 else e2) := fun r h' he => J_icmp_eq ht hd (fun c => K1 r h' (by rw [if_pos (show x = y from c)] at he; exact he)) (fun c => K2 r h' (by rw [if_neg (show ¬ x = y from c)] at he; exact he))
theorem F_if_eq {x : Int32} {off : Int} (ht : (pc : Int) + off = (tgt : Int)) (hd : decode M.2.2.1 pc = .ok (.ifCond .eq off, 3)) (K1 : JF w ι M d tgt lv st m e1) (K2 : JF w ι M d (pc + 3) lv st m e2) : JF w ι M d pc lv (.int x :: st) m (if x = 0 then e1 else e2) := fun r h' he => J_if_eq ht hd (fun c => K1 r h' (by rw [if_pos (show x = 0 from c)] at he; exact he)) (fun c => K2 r h' (by rw [if_neg (show ¬ x = 0 from c)] at he; exact he))
theorem F_icmp_ne {x y : Int32} {off : Int} (ht : (pc : Int) + off = (tgt : Int)) (hd : decode M.2.2.1 pc = .ok (.if_icmp .ne off, 3)) (K1 : JF w ι M d tgt lv st m e1) (K2 : JF w ι M d (pc + 3) lv st m e2) : JF w ι M d pc lv (.int y :: .int x :: st) m (if x = y then e2 else e1) := fun r h' he => J_icmp_ne ht hd (fun c => K1 r h' (by rw [if_neg (show ¬ x = y from c)] at he; exact he)) (fun c => K2 r h' (by rw [if_pos (Decidable.of_not_not (show ¬ ¬ x = y from c))] at he; exact he))
theorem F_if_ne {x : Int32} {off : Int} (ht : (pc : Int) + off = (tgt : Int)) (hd : decode M.2.2.1 pc = .ok (.ifCond .ne off, 3)) (K1 : JF w ι M d tgt lv st m e1) (K2 : JF w ι M d (pc + 3) lv st m e2) : JF w ι M d pc lv (.int x :: st) m (if x = 0 then e2 else e1) := fun r h' he => J_if_ne ht hd (fun c => K1 r h' (by rw [if_neg (show ¬ x = 0 from c)] at he; exact he)) (fun c => K2 r h' (by rw [if_pos (Decidable.of_not_not (show ¬ ¬ x = 0 from c))] at he; exact he))
theorem F_case {x : Int32} {c : Int32} (K1 : x = c → JF w ι M d pc lv (.int x :: st) m e1) (K2 : ¬ x = c → JF w ι M d pc lv (.int x :: st) m e2) : JF w ι M d pc lv (.int x :: st) m (if x = c then e1 else e2) := fun r h' he => by
  by_cases hc : x = c
  · rw [if_pos hc] at he
    exact K1 hc r h' he
  · rw [if_neg hc] at he
    exact K2 hc r h' he
theorem F_tin {dflt lo hi : Int} {offs : Array Int} {len : Nat} {x : Int32} {off : Int} (h1 : ¬ x.toInt < lo) (h2 : ¬ hi < x.toInt) (ho : offs[(x.toInt - lo).toNat]? = some off) (ht : (pc : Int) + off = (tgt : Int)) (hd : decode M.2.2.1 pc = .ok (.tableswitch dflt lo hi offs, len)) (K : JF w ι M d tgt lv st m e) : JF w ι M d pc lv (.int x :: st) m e := fun r h' he => J_tin h1 h2 ho ht hd (K r h' he)
theorem F_tout {dflt lo hi : Int} {offs : Array Int} {len : Nat} {x : Int32} (h1 : x.toInt < lo ∨ hi < x.toInt) (ht : (pc : Int) + dflt = (tgt : Int)) (hd : decode M.2.2.1 pc = .ok (.tableswitch dflt lo hi offs, len)) (K : JF w ι M d tgt lv st m e) : JF w ι M d pc lv (.int x :: st) m e := fun r h' he => J_tout h1 ht hd (K r h' he)
theorem F_look {dflt : Int} {ps : Array (Int × Int)} {len : Nat} {x : Int32} {off : Int} (hp : (ps.toList.zip (ps.toList.drop 1)).all (fun (a, next) => a.1 < next.1) = true) (ho : Op.lookupswitch.offset ps.toList dflt x.toInt = off) (ht : (pc : Int) + off = (tgt : Int)) (hd : decode M.2.2.1 pc = .ok (.lookupswitch dflt ps, len)) (K : JF w ι M d tgt lv st m e) : JF w ι M d pc lv (.int x :: st) m e := fun r h' he => J_look hp ho ht hd (K r h' he)
theorem F_idiv {x y : Int32} {k : Int32 → fR R} (hd : decode M.2.2.1 pc = .ok (.idiv, 1)) (K : ∀ z, JF w ι M d (pc + 1) lv (.int z :: st) m (k z)) : JF w ι M d pc lv (.int y :: .int x :: st) m ((dvI x y).bind k) := fun r h' he => by
  obtain ⟨z, hz, he⟩ := Option.bind_eq_some_iff.mp he
  unfold dvI at hz
  split at hz
  · cases hz
  · rename_i hy
    cases hz
    exact J_idiv hy hd (K _ r h' he)
theorem F_irem {x y : Int32} {k : Int32 → fR R} (hd : decode M.2.2.1 pc = .ok (.irem, 1)) (K : ∀ z, JF w ι M d (pc + 1) lv (.int z :: st) m (k z)) : JF w ι M d pc lv (.int y :: .int x :: st) m ((rmI x y).bind k) := fun r h' he => by
  obtain ⟨z, hz, he⟩ := Option.bind_eq_some_iff.mp he
  unfold rmI at hz
  split at hz
  · cases hz
  · rename_i hy
    cases hz
    refine J_irem hy hd ?_
    rw [irem_eq_mod]
    exact K _ r h' he
theorem mE_fld {ci k f a : Nat} (h : fAt w ci k f a) : ∃ fs, (mH w m)[a]? = some (.inr (ci, fs)) ∧ fs[k]? = some (mF m a k f) := by
  obtain ⟨fks, h1, h2⟩ := h
  refine ⟨_, mH_get h1, ?_⟩
  rw [List.getElem?_mapIdx, h2]; rfl
theorem F_gI {idx ci k a n : Nat} (ha : fAt w ci k 0 a) (hn : 64 * a + k = n) (hf : jFl M.2.1.cls idx ci k) (hd : decode M.2.2.1 pc = .ok (.getfield idx, 3)) (K : JF w ι M d (pc + 3) lv (.int (mI m n) :: st) m e) : JF w ι M d pc lv (.ref a :: st) m e := fun r h' he => by
  subst hn
  obtain ⟨fs, h1, h2⟩ := mE_fld (m := m) ha
  exact J_getf hf h1 h2 hd (K r h' he)
theorem F_gR {idx ci k a b : Nat} (ha : fAt w ci k (b + 2) a) (hf : jFl M.2.1.cls idx ci k) (hd : decode M.2.2.1 pc = .ok (.getfield idx, 3)) (K : JF w ι M d (pc + 3) lv (.ref b :: st) m e) : JF w ι M d pc lv (.ref a :: st) m e := fun r h' he => by
  obtain ⟨fs, h1, h2⟩ := mE_fld (m := m) ha
  exact J_getf hf h1 h2 hd (K r h' he)
theorem F_gV {idx ci k a n : Nat} (ha : fAt w ci k 1 a) (hn : 64 * a + k = n) (hf : jFl M.2.1.cls idx ci k) (hd : decode M.2.2.1 pc = .ok (.getfield idx, 3)) (K : JF w ι M d (pc + 3) lv (.ref (mR m n) :: st) m e) : JF w ι M d pc lv (.ref a :: st) m e := fun r h' he => by
  subst hn
  obtain ⟨fs, h1, h2⟩ := mE_fld (m := m) ha
  exact J_getf hf h1 h2 hd (K r h' he)
theorem F_pI {idx ci kk a n : Nat} {x : Int32} {k : mM → fR R} (ha : fAt w ci kk 0 a) (hn : 64 * a + kk = n) (hf : jFl M.2.1.cls idx ci kk) (hfin : ∀ q, vwCl[ci]? = some q → (q.2.1 kk).2.2.2 = false) (hv : jFit (jty ci kk) (.int x)) (hd : decode M.2.2.1 pc = .ok (.putfield idx, 3)) (K : ∀ m1, JF w ι M d (pc + 3) lv st m1 (k m1)) : JF w ι M d pc lv (.int x :: .ref a :: st) m (nmM (wI m n x) k) := fun r h' he => by
  subst hn
  obtain ⟨fks, h1, h2⟩ := ha
  refine J_putf hf (mH_get h1) hfin hv (by rw [List.length_mapIdx]; exact (List.getElem?_eq_some_iff.mp h2).1) hd ?_
  rw [mH_wI h1 h2]
  exact K _ r h' he
theorem F_pZ {idx ci kk a n : Nat} {x : Int32} {k : mM → fR R} (ha : fAt w ci kk 0 a) (hn : 64 * a + kk = n) (hf : jFl M.2.1.cls idx ci kk) (hfin : ∀ q, vwCl[ci]? = some q → (q.2.1 kk).2.2.2 = false) (hv : x = 0 ∨ x = 1 → jFit (jty ci kk) (.int x)) (hd : decode M.2.2.1 pc = .ok (.putfield idx, 3)) (K : ∀ m1, JF w ι M d (pc + 3) lv st m1 (k m1)) : JF w ι M d pc lv (.int x :: .ref a :: st) m (chZ x (nmM (wI m n x) k)) := fun r h' he => by
  unfold chZ at he
  split at he
  · rename_i hz
    exact F_pI ha hn hf hfin (hv hz) hd K r h' he
  · cases he
theorem F_pV {idx ci kk a n b : Nat} {k : mM → fR R} (ha : fAt w ci kk 1 a) (hn : 64 * a + kk = n) (hf : jFl M.2.1.cls idx ci kk) (hfin : ∀ q, vwCl[ci]? = some q → (q.2.1 kk).2.2.2 = false) (hv : jFit (jty ci kk) (.ref b)) (hd : decode M.2.2.1 pc = .ok (.putfield idx, 3)) (K : ∀ m1, JF w ι M d (pc + 3) lv st m1 (k m1)) : JF w ι M d pc lv (.ref b :: .ref a :: st) m (nmM (wR m n b) k) := fun r h' he => by
  subst hn
  obtain ⟨fks, h1, h2⟩ := ha
  refine J_putf hf (mH_get h1) hfin hv (by rw [List.length_mapIdx]; exact (List.getElem?_eq_some_iff.mp h2).1) hd ?_
  rw [mH_wR h1 h2]
  exact K _ r h' he
theorem mE_row {t a : Nat} (h : isA w t a = true) (ht : t ≠ 1) : (mH w m)[a]? = some (.inl (t, .inl (mA m a))) := by
  rw [mH_get (isA_ok h), mE_arr ht]
theorem mE_rowL {a : Nat} (h : isA w 1 a = true) : (mH w m)[a]? = some (.inl (1, .inr (.inl (mL m a)))) := mH_get (isA_ok h)
theorem F_iald {a : Nat} {i : Int32} {k : Int32 → fR R} (ha : isA w 0 a = true) (hd : decode M.2.2.1 pc = .ok (.iaload, 1)) (K : ∀ x, JF w ι M d (pc + 1) lv (.int x :: st) m (k x)) : JF w ι M d pc lv (.int i :: .ref a :: st) m ((gA (mA m a) i).bind k) := fun r h' he => by
  obtain ⟨x, hx, he⟩ := Option.bind_eq_some_iff.mp he
  unfold gA at hx
  split at hx
  · rename_i h2
    exact J_iald (mE_row ha (by decide)) h2 hx hd (K x r h' he)
  · cases hx
theorem F_bald {a : Nat} {i : Int32} {k : Int32 → fR R} (ha : isA w 2 a = true) (hd : decode M.2.2.1 pc = .ok (.baload, 1)) (K : ∀ x, JF w ι M d (pc + 1) lv (.int x :: st) m (k x)) : JF w ι M d pc lv (.int i :: .ref a :: st) m ((gA (mA m a) i).bind k) := fun r h' he => by
  obtain ⟨x, hx, he⟩ := Option.bind_eq_some_iff.mp he
  unfold gA at hx
  split at hx
  · rename_i h2
    exact J_bald (mE_row ha (by decide)) h2 hx hd (K x r h' he)
  · cases hx
theorem F_zald {a : Nat} {i : Int32} {k : Int32 → fR R} (ha : isA w 3 a = true) (hd : decode M.2.2.1 pc = .ok (.baload, 1)) (K : ∀ x, JF w ι M d (pc + 1) lv (.int x :: st) m (k x)) : JF w ι M d pc lv (.int i :: .ref a :: st) m ((gA (mA m a) i).bind k) := fun r h' he => by
  obtain ⟨x, hx, he⟩ := Option.bind_eq_some_iff.mp he
  unfold gA at hx
  split at hx
  · rename_i h2
    exact J_zald (mE_row ha (by decide)) h2 hx hd (K x r h' he)
  · cases hx
theorem F_iast {a : Nat} {i x : Int32} {k : mM → fR R} (ha : isA w 0 a = true) (hd : decode M.2.2.1 pc = .ok (.iastore, 1)) (K : ∀ m1, JF w ι M d (pc + 1) lv st m1 (k m1)) : JF w ι M d pc lv (.int x :: .int i :: .ref a :: st) m ((sA 0 m a i x).bind k) := fun r h' he => by
  obtain ⟨m1, hx, he⟩ := Option.bind_eq_some_iff.mp he
  unfold sA at hx
  split at hx
  · rename_i h2
    cases hx
    refine J_iast (mE_row ha (by decide)) h2.1 h2.2 hd ?_
    rw [mH_wA (isA_ok ha) (by decide)]
    exact K _ r h' he
  · cases hx
theorem F_bast {a : Nat} {i x : Int32} {k : mM → fR R} (ha : isA w 2 a = true) (hd : decode M.2.2.1 pc = .ok (.bastore, 1)) (K : ∀ m1, JF w ι M d (pc + 1) lv st m1 (k m1)) : JF w ι M d pc lv (.int x :: .int i :: .ref a :: st) m ((sA 2 m a i x).bind k) := fun r h' he => by
  obtain ⟨m1, hx, he⟩ := Option.bind_eq_some_iff.mp he
  unfold sA at hx
  split at hx
  · rename_i h2
    cases hx
    refine J_bast (mE_row ha (by decide)) h2.1 h2.2 hd ?_
    rw [mH_wA (isA_ok ha) (by decide)]
    exact K _ r h' he
  · cases hx
theorem F_zast {a : Nat} {i x : Int32} {k : mM → fR R} (ha : isA w 3 a = true) (hd : decode M.2.2.1 pc = .ok (.bastore, 1)) (K : ∀ m1, JF w ι M d (pc + 1) lv st m1 (k m1)) : JF w ι M d pc lv (.int x :: .int i :: .ref a :: st) m ((sA 3 m a i x).bind k) := fun r h' he => by
  obtain ⟨m1, hx, he⟩ := Option.bind_eq_some_iff.mp he
  unfold sA at hx
  split at hx
  · rename_i h2
    cases hx
    refine J_zast (mE_row ha (by decide)) h2.1 h2.2 hd ?_
    rw [mH_wA (isA_ok ha) (by decide)]
    exact K _ r h' he
  · cases hx
theorem F_lald {a : Nat} {i : Int32} {k : Int64 → fR R} (ha : isA w 1 a = true) (hd : decode M.2.2.1 pc = .ok (.laload, 1)) (K : ∀ x, JF w ι M d (pc + 1) lv (.long x :: st) m (k x)) : JF w ι M d pc lv (.int i :: .ref a :: st) m ((gL (mL m a) i).bind k) := fun r h' he => by
  obtain ⟨x, hx, he⟩ := Option.bind_eq_some_iff.mp he
  unfold gL at hx
  split at hx
  · rename_i h2
    exact J_lald (mE_rowL ha) h2 hx hd (K x r h' he)
  · cases hx
theorem F_last {a : Nat} {i : Int32} {x : Int64} {k : mM → fR R} (ha : isA w 1 a = true) (hd : decode M.2.2.1 pc = .ok (.lastore, 1)) (K : ∀ m1, JF w ι M d (pc + 1) lv st m1 (k m1)) : JF w ι M d pc lv (.long x :: .int i :: .ref a :: st) m ((sL m a i x).bind k) := fun r h' he => by
  obtain ⟨m1, hx, he⟩ := Option.bind_eq_some_iff.mp he
  unfold sL at hx
  split at hx
  · rename_i h2
    cases hx
    refine J_last (mE_rowL ha) h2.1 h2.2 hd ?_
    rw [mH_wL (isA_ok ha)]
    exact K _ r h' he
  · cases hx
theorem F_aald {a t : Nat} {rs : List Nat} {i : Int32} {k : Nat → fR R} (ha : (lay w)[a]? = some (.inr (.inr (t, rs)))) (ht : t = 4 ∨ t = 5) (hd : decode M.2.2.1 pc = .ok (.aaload, 1)) (K : ∀ x, JF w ι M d (pc + 1) lv (.ref x :: st) m (k x)) : JF w ι M d pc lv (.int i :: .ref a :: st) m ((gT rs i).bind k) := fun r h' he => by
  obtain ⟨x, hx, he⟩ := Option.bind_eq_some_iff.mp he
  unfold gT at hx
  split at hx
  · rename_i h2
    refine J_aald (rs := rs.map some) ht (mH_get ha) h2 ?_ hd (K x r h' he)
    rw [List.getElem?_map, hx]; rfl
  · cases hx
theorem F_copyi {idx a0 a1 : Nat} {sp dp n : Int32} {k : mM → fR R} (h0 : isA w 0 a0 = true) (h1 : isA w 0 a1 = true) (hl : Cond.methodLink M.2.1.cls idx arraycopyName ∈ jG) (hs : (st.map fun v => v.category).sum ≤ 8) (hd1 : 1 ≤ d) (hd : decode M.2.2.1 pc = .ok (.invokestatic idx, 3)) (K : ∀ m1, JF w ι M d (pc + 3) lv st m1 (k m1)) : JF w ι M d pc lv (.int n :: .int dp :: .ref a1 :: .int sp :: .ref a0 :: st) m ((cpA m a0 sp a1 dp n).bind k) := fun r h' he => by
  obtain ⟨m1, hx, he⟩ := Option.bind_eq_some_iff.mp he
  unfold cpA at hx
  split at hx
  · rename_i hc
    obtain ⟨g3, g4, g5, g6, g7⟩ := hc
    cases hx
    refine J_copyi hl hs hd1 (mE_row h0 (by decide)) (mE_row h1 (by decide)) g3 g4 g5 g6 g7 hd ?_
    rw [mH_wA (isA_ok h1) (by decide)]
    exact K _ r h' he
  · cases hx
theorem F_ret {x : Int32} (hr : M.2.2.2.2.1 = some .int) (hd : decode M.2.2.1 pc = .ok (.ireturn, 1)) : JF w uI M d pc lv [.int x] m (some (x, m)) := fun r h' he => by
  cases he
  exact J_iret hr rfl hd ⟨rfl, rfl⟩
theorem F_retZ {x : Int32} (hr : M.2.2.2.2.1 = some .boolean) (hd : decode M.2.2.1 pc = .ok (.ireturn, 1)) : JF w uI M d pc lv [.int x] m (chZ x (some (x, m))) := fun r h' he => by
  unfold chZ at he
  split at he
  · rename_i hz
    cases he
    exact J_iret hr (by rcases hz with rfl | rfl <;> rfl) hd ⟨rfl, rfl⟩
  · cases he
theorem F_retB {x : Int32} (hr : M.2.2.2.2.1 = some .boolean) (hz : x = 0 ∨ x = 1) (hd : decode M.2.2.1 pc = .ok (.ireturn, 1)) : JF w uI M d pc lv [.int x] m (some (x, m)) := fun r h' he => by
  cases he
  exact J_iret hr (by rcases hz with rfl | rfl <;> rfl) hd ⟨rfl, rfl⟩
theorem F_retL {x : Int64} (hr : M.2.2.2.2.1 = some .long) (hd : decode M.2.2.1 pc = .ok (.lreturn, 1)) : JF w uL M d pc lv [.long x] m (some (x, m)) := fun r h' he => by
  cases he
  exact J_lret hr hd ⟨rfl, rfl⟩
theorem F_retV (hr : M.2.2.2.2.1 = none) (hd : decode M.2.2.1 pc = .ok (.return_, 1)) : JF w uU M d pc lv [] m (some ((), m)) := fun r h' he => by
  cases he
  exact J_vret hr hd ⟨rfl, rfl⟩
theorem F_callV {idx n b ci : Nat} {As : List Value} {q : vw_C} {f : fR R'} {k : R' → mM → fR R} (hb : isC w ci b = true) (hok : jok M') (hv : jvirt M') (hl : Cond.methodLink M.2.1.cls idx M'.2.1 ∈ jG) (hpn : (parseMethodDescriptor M'.2.1.desc).map (fun d => d.parameters.length) = some n) (hn : As.length = n) (hq : vwCl[ci]? = some q) (hqc : q.1 = M'.2.1.cls) (hs : (st.map fun v => v.category).sum ≤ 8)
    (hd' : d' + 1 ≤ d) (hd : decode M.2.2.1 pc = .ok (.invokevirtual idx, 3)) (hc : cF w ι' M' d' (.ref b :: As) m f) (K : ∀ r1 m1, JF w ι M d (pc + 3) lv ((ι' r1).toList ++ st) m1 (k r1 m1)) : JF w ι M d pc lv (As.reverse ++ .ref b :: st) m (bnd f k) := fun r h' he => by
  obtain ⟨r1, m1, hx, he⟩ := bnd_ok he
  obtain ⟨fks, g1⟩ := isC_ok hb
  have := J_callV (kc' := 0) (ks' := 0) (kc := 0) (ks := 0) (M := M) (on := false) (L := 0) (xs := fun _ => 0) (lv := lv) (Q := fun r1 h1 => r1 = ι r ∧ h1 = mH w h') hok hv hl hpn hn (mH_get (m := m) g1) hq hqc hs (Or.inl rfl) hd' hd (hc r1 m1 hx) (fun r2 h2 hq2 _ => by obtain ⟨rfl, rfl⟩ := hq2; exact K r1 m1 r h' he)
  exact this
theorem F_callS {idx n : Nat} {As : List Value} {f : fR R'} {k : R' → mM → fR R} (hok : jok M') (hv : jstat M') (hl : Cond.methodLink M.2.1.cls idx M'.2.1 ∈ jG) (hcl : M'.2.1.cls = M.2.1.cls) (hpn : (parseMethodDescriptor M'.2.1.desc).map (fun d => d.parameters.length) = some n) (hn : As.length = n) (hs : (st.map fun v => v.category).sum ≤ 8)
    (hd' : d' + 1 ≤ d) (hd : decode M.2.2.1 pc = .ok (.invokestatic idx, 3)) (hc : cF w ι' M' d' As m f) (K : ∀ r1 m1, JF w ι M d (pc + 3) lv ((ι' r1).toList ++ st) m1 (k r1 m1)) : JF w ι M d pc lv (As.reverse ++ st) m (bnd f k) := fun r h' he => by
  obtain ⟨r1, m1, hx, he⟩ := bnd_ok he
  have := J_callS (kc' := 0) (ks' := 0) (kc := 0) (ks := 0) (M := M) (on := false) (L := 0) (xs := fun _ => 0) (lv := lv) (Q := fun r1 h1 => r1 = ι r ∧ h1 = mH w h') hok hv hl hcl hpn hn hs (Or.inl rfl) hd' hd (hc r1 m1 hx) (fun r2 h2 hq2 _ => by obtain ⟨rfl, rfl⟩ := hq2; exact K r1 m1 r h' he)
  exact this
theorem cF_of {args : List Value} (hok : jok M) (hargs : ∀ sb ad, (lg_sl (args.map (jV sb ad))).length ≤ M.2.2.2.1) (K : JF w ι M d 0 (lv_args 0 args) [] m e) : cF w ι M d args m e := fun r h' he => jCt_of hok hargs (K r h' he)
end FROWS
end
-- 20c.ext.lean.txt
section
/-! ROWS OF JF: texts, ABOVE, Math.abs, copies of longs; the methods of String that texts want. By program (wip/gen/mkext.py). -/
def m_J_len : jM := (9, yJ0_length_8abf5, prog_11_method_54_code, 1, (some .int), fun _ => none)
set_option maxRecDepth 100000 in
theorem ok_J_len : jok m_J_len := ⟨fun _ _ h => (by cases h), jG_in 471 rfl rfl, jG_in 95 rfl rfl, by decide +kernel, by decide +kernel, by decide⟩
set_option maxRecDepth 100000 in
theorem vi_J_len : jvirt m_J_len := ⟨jG_in 469 rfl rfl, jG_in 470 rfl rfl⟩
def m_J_cod : jM := (9, yJ0_coder_7d493, prog_11_method_152_code, 1, (some .byte), fun _ => none)
set_option maxRecDepth 100000 in
theorem ok_J_cod : jok m_J_cod := ⟨fun _ _ h => (by cases h), jG_in 475 rfl rfl, jG_in 95 rfl rfl, by decide +kernel, by decide +kernel, by decide⟩
set_option maxRecDepth 100000 in
theorem vi_J_cod : jvirt m_J_cod := ⟨jG_in 473 rfl rfl, jG_in 474 rfl rfl⟩
def m_J_cha : jM := (9, yJ0_charAt_5068e, prog_11_method_56_code, 2, (some .char), fun _ => none)
set_option maxRecDepth 100000 in
theorem ok_J_cha : jok m_J_cha := ⟨fun _ _ h => (by cases h), jG_in 481 rfl rfl, jG_in 95 rfl rfl, by decide +kernel, by decide +kernel, by decide⟩
set_option maxRecDepth 100000 in
theorem vi_J_cha : jvirt m_J_cha := ⟨jG_in 479 rfl rfl, jG_in 480 rfl rfl⟩
def m_J_la1 : jM := (9, yJ0_isLatin1_aae02, prog_11_method_154_code, 1, (some .boolean), fun _ => none)
set_option maxRecDepth 100000 in
theorem ok_J_la1 : jok m_J_la1 := ⟨fun _ _ h => (by cases h), jG_in 485 rfl rfl, jG_in 95 rfl rfl, by decide +kernel, by decide +kernel, by decide⟩
set_option maxRecDepth 100000 in
theorem vi_J_la1 : jvirt m_J_la1 := ⟨jG_in 483 rfl rfl, jG_in 484 rfl rfl⟩
def m_J_ci : jM := (9, yJ0_checkIndex_df160, prog_11_method_155_code, 2, none, fun _ => none)
set_option maxRecDepth 100000 in
theorem ok_J_ci : jok m_J_ci := ⟨fun _ _ h => (by cases h), jG_in 491 rfl rfl, jG_in 95 rfl rfl, by decide +kernel, by decide +kernel, by decide⟩
set_option maxRecDepth 100000 in
theorem st_J_ci : jstat m_J_ci := jG_in 490 rfl rfl
def m_J_lch : jM := (9, yJ1_charAt_3b067, prog_12_method_2_code, 2, (some .char), fun _ => none)
set_option maxRecDepth 100000 in
theorem ok_J_lch : jok m_J_lch := ⟨fun _ _ h => (by cases h), jG_in 488 rfl rfl, jG_in 96 rfl rfl, by decide +kernel, by decide +kernel, by decide⟩
set_option maxRecDepth 100000 in
theorem st_J_lch : jstat m_J_lch := jG_in 487 rfl rfl
def m_J_pci : jM := (9, yJ3_checkIndex_8e157, prog_15_method_11_code, 3, (some .int), fun _ => none)
set_option maxRecDepth 100000 in
theorem ok_J_pci : jok m_J_pci := ⟨fun _ _ h => (by cases h), jG_in 496 rfl rfl, jG_in 97 rfl rfl, by decide +kernel, by decide +kernel, by decide⟩
set_option maxRecDepth 100000 in
theorem st_J_pci : jstat m_J_pci := jG_in 495 rfl rfl
set_option maxRecDepth 100000 in
theorem lk_cod : Cond.methodLink "java/lang/String" 335 yJ0_coder_7d493 ∈ jG := jG_in 472 rfl rfl
set_option maxRecDepth 100000 in
theorem lk_la1 : Cond.methodLink "java/lang/String" 492 yJ0_isLatin1_aae02 ∈ jG := jG_in 482 rfl rfl
set_option maxRecDepth 100000 in
theorem lk_lch : Cond.methodLink "java/lang/String" 495 yJ1_charAt_3b067 ∈ jG := jG_in 486 rfl rfl
set_option maxRecDepth 100000 in
theorem lk_ci : Cond.methodLink "java/lang/StringLatin1" 9 yJ0_checkIndex_df160 ∈ jG := jG_in 489 rfl rfl
set_option maxRecDepth 100000 in
theorem lk_pci : Cond.methodLink "java/lang/String" 1059 yJ3_checkIndex_8e157 ∈ jG := jG_in 494 rfl rfl
set_option maxRecDepth 100000 in
theorem lf_cmp : Cond.fieldLink "java/lang/String" 38 "java/lang/String" "COMPACT_STRINGS" "Z" ∈ jG := jG_in 476 rfl rfl
set_option maxRecDepth 100000 in
theorem lf_val : Cond.fieldLink "java/lang/String" 9 "java/lang/String" "value" "[B" ∈ jG := jG_in 1344 rfl rfl
set_option maxRecDepth 100000 in
theorem lf_cod : Cond.fieldLink "java/lang/String" 15 "java/lang/String" "coder" "B" ∈ jG := jG_in 1345 rfl rfl
set_option maxRecDepth 100000 in
theorem lf_sio : Cond.fieldLink "java/lang/String" 1053 "jdk/internal/util/Preconditions" "SIOOBE_FORMATTER" "Ljava/util/function/BiFunction;" ∈ jG := jG_in 492 rfl rfl
set_option maxRecDepth 100000 in
theorem ab_st : Cond.static ⟨"java/lang/Math", "abs", "(I)I"⟩ ∈ jG := jG_in 689 rfl rfl
set_option maxRecDepth 100000 in
theorem ab_ini : Cond.initialized "java/lang/Math" ∈ jG := jG_in 100 rfl rfl
set_option maxRecDepth 100000 in
theorem ab_code : Cond.code Lib.Math.abs.name Lib.Math.abs.code 1 (some .int) ∈ jG := jG_in 690 rfl rfl
def stL (z : Nat) : Option Int32 := if 2 ≤ z then (oxL[z - 2]?).map (fun n => Int32.ofNat n) else none
def stA (z : Nat) (i : Int32) : Option Int32 := if 2 ≤ z ∧ ¬ i < 0 then (oxB.getD (z - 2) [])[i.toNatClampNeg]? else none
def abI (x : Int32) : Int32 := if 0 ≤ x then x else 0 - x
def jcpyL (xs ys : List Int64) (sp dp n : Nat) : List Int64 := (List.range ys.length).map (fun k => if dp ≤ k ∧ k < dp + n then xs.getD (sp + (k - dp)) 0 else ys.getD k 0)
theorem jcpyL_eq {xs ys : List Int64} {sp dp n : Nat} (h : dp + n ≤ ys.length) : (fun j => (jcpyL xs ys sp dp n).getD j 0) = va_cpy (fun j => xs.getD j 0) (fun j => ys.getD j 0) sp dp n := by
  funext j
  rw [List.getD_eq_getElem?_getD]
  unfold jcpyL va_cpy
  rw [List.getElem?_map]
  by_cases hj : j < ys.length
  · rw [List.getElem?_range hj]; rfl
  · rw [List.getElem?_eq_none (by simpa using hj), if_neg (by omega)]
    show (0 : Int64) = ys.getD j 0
    rw [List.getD_eq_getElem?_getD, List.getElem?_eq_none (by omega)]; rfl
def cpL (m : mM) (a0 : Nat) (sp : Int32) (a1 : Nat) (dp n : Int32) : Option mM := if ¬ sp < 0 ∧ ¬ dp < 0 ∧ ¬ n < 0 ∧ sp.toNatClampNeg + n.toNatClampNeg ≤ (mL m a0).length ∧ dp.toNatClampNeg + n.toNatClampNeg ≤ (mL m a1).length then some (wL m a1 (jcpyL (mL m a0) (mL m a1) sp.toNatClampNeg dp.toNatClampNeg n.toNatClampNeg)) else none
section FEXT0
variable {M M' : jM} {on : Bool} {L : Nat} {xs : Nat → Int32} {d d' kc ks pc : Nat} {lv : List (Nat × Value)} {st : List Value} {h : jH} {Q Q' : Option Value → jH → Prop}
theorem J_i2c {x v : Int32} (hv : (x.toUInt32 % 65536).toInt32 = v) (hd : decode M.2.2.1 pc = .ok (.i2c, 1)) (k : J M on L xs d kc ks (pc + 1) lv (.int v :: st) h Q) : J M on L xs d kc ks pc lv (.int x :: st) h Q := J_st (fun hx hb hown hts k => lv_i2c hx hb hd hv k) k
theorem J_ogets {C n ds : String} {idx : Nat} {v : Value} (hnr : jnr v = true) (hl : Cond.fieldLink M.2.1.cls idx C n ds ∈ jG) (hZ : ∀ sb A s H, jO sb A s H → va_Z C n ds (jV sb (fun _ => 0) v) A s H) (hd : decode M.2.2.1 pc = .ok (.getstatic idx, 3)) (k : J M on L xs d kc ks (pc + 3) lv (v :: st) h Q) : J M on L xs d kc ks pc lv st h Q := by
  intro p l e R s m args below meth c D dA sb A H0 n0 ad0 CB SB QQ hF hX hA hR hT ad H locs cells slots ls hw hls h4 h5
  obtain ⟨hX1, hO, rfl⟩ := hX
  have hk := k p l e R s m args below meth c D dA sb A s.heap n0 ad0 CB SB QQ hF ⟨hX1, hO, rfl⟩ hA hR hT ad H locs cells slots ls hw hls h4 h5
  rw [List.map_cons, jV_nr (ad' := fun _ => 0) hnr] at hk
  exact va_gets hF.1 hF.2.1 (hZ sb A s _ hO) hw.2.2.1 hF.2.2.2.1 (hF.2.2.2.2.1 _ hl) (fun _ z => z) hd hk
theorem J_osio {idx : Nat} (hl : Cond.fieldLink M.2.1.cls idx "jdk/internal/util/Preconditions" "SIOOBE_FORMATTER" "Ljava/util/function/BiFunction;" ∈ jG) (hd : decode M.2.2.1 pc = .ok (.getstatic idx, 3)) (k : ∀ v, v = .null ∨ v = .retAddr 50 → J M on L xs d kc ks (pc + 3) lv (v :: st) h Q) : J M on L xs d kc ks pc lv st h Q := by
  intro p l e R s m args below meth c D dA sb A H0 n0 ad0 CB SB QQ hF hX hA hR hT ad H locs cells slots ls hw hls h4 h5
  obtain ⟨hX1, hO, rfl⟩ := hX
  obtain ⟨-, -, -, -, -, hS⟩ := id hO
  rcases hS with hZ | hZ
  · exact va_gets hF.1 hF.2.1 hZ hw.2.2.1 hF.2.2.2.1 (hF.2.2.2.2.1 _ hl) (fun _ z => z) hd (k _ (Or.inl rfl) p l e R s m args below meth c D dA sb A s.heap n0 ad0 CB SB QQ hF ⟨hX1, hO, rfl⟩ hA hR hT ad H locs cells slots ls hw hls h4 h5)
  · exact va_gets hF.1 hF.2.1 hZ hw.2.2.1 hF.2.2.2.1 (hF.2.2.2.2.1 _ hl) (fun _ z => z) hd (k _ (Or.inr rfl) p l e R s m args below meth c D dA sb A s.heap n0 ad0 CB SB QQ hF ⟨hX1, hO, rfl⟩ hA hR hT ad H locs cells slots ls hw hls h4 h5)
theorem J_ogetf {n ds : String} {idx z : Nat} {v : Value} (hnr : jnr v = true) (hl : Cond.fieldLink M.2.1.cls idx "java/lang/String" n ds ∈ jG) (hE : ∀ sb A s H, jO sb A s H → va_OF "java/lang/String" n ds (jV sb (fun _ => 0) v) (sb z) A s H) (hd : decode M.2.2.1 pc = .ok (.getfield idx, 3)) (k : J M on L xs d kc ks (pc + 3) lv (v :: st) h Q) : J M on L xs d kc ks pc lv (.retAddr z :: st) h Q := by
  intro p l e R s m args below meth c D dA sb A H0 n0 ad0 CB SB QQ hF hX hA hR hT ad H locs cells slots ls hw hls h4 h5
  obtain ⟨hX1, hO, rfl⟩ := hX
  have hk := k p l e R s m args below meth c D dA sb A s.heap n0 ad0 CB SB QQ hF ⟨hX1, hO, rfl⟩ hA hR hT ad H locs cells slots ls hw hls h4 h5
  rw [List.map_cons, jV_nr (ad' := fun _ => 0) hnr] at hk
  exact vk_getf hF.1 hF.2.1 (hE sb A s _ hO) hw.2.2.1 hF.2.2.2.1 (hF.2.2.2.2.1 _ hl) (fun _ z => z) hd hk
theorem J_oxlen {z N : Nat} {ty : FieldType} {f : Nat → Value} {v : Int32} (hv : Int32.ofNat N = v) (hT0 : ∀ sb A s H, jO sb A s H → va_T ty (sb z) N f A s H) (hd : decode M.2.2.1 pc = .ok (.arraylength, 1)) (k : J M on L xs d kc ks (pc + 1) lv (.int v :: st) h Q) : J M on L xs d kc ks pc lv (.retAddr z :: st) h Q := by
  intro p l e R s m args below meth c D dA sb A H0 n0 ad0 CB SB QQ hF hX hA hR hT ad H locs cells slots ls hw hls h4 h5
  obtain ⟨hX1, hO, rfl⟩ := hX
  exact va_tlen hF.1 hF.2.1 (hT0 sb A s _ hO) hw.2.2.1 hv hd (k p l e R s m args below meth c D dA sb A s.heap n0 ad0 CB SB QQ hF ⟨hX1, hO, rfl⟩ hA hR hT ad H locs cells slots ls hw hls h4 h5)
theorem J_oxti {z N : Nat} {f : Nat → Value} {i x : Int32} (h0 : ¬ i < 0) (hlt : i.toNatClampNeg < N) (hT0 : ∀ sb A s H, jO sb A s H → va_T .int (sb z) N f A s H) (hx : f i.toNatClampNeg = .int x) (hd : decode M.2.2.1 pc = .ok (.iaload, 1)) (k : J M on L xs d kc ks (pc + 1) lv (.int x :: st) h Q) : J M on L xs d kc ks pc lv (.int i :: .retAddr z :: st) h Q := by
  intro p l e R s m args below meth c D dA sb A H0 n0 ad0 CB SB QQ hF hX hA hR hT ad H locs cells slots ls hw hls h4 h5
  obtain ⟨hX1, hO, rfl⟩ := hX
  exact va_ti hF.1 hF.2.1 (hT0 sb A s _ hO) hw.2.2.1 (fun q => q.elim h0 (fun q => Nat.not_lt.mpr q hlt)) hx hd (k p l e R s m args below meth c D dA sb A s.heap n0 ad0 CB SB QQ hF ⟨hX1, hO, rfl⟩ hA hR hT ad H locs cells slots ls hw hls h4 h5)
theorem J_oxtb {z N : Nat} {f : Nat → Value} {i x : Int32} (h0 : ¬ i < 0) (hlt : i.toNatClampNeg < N) (hT0 : ∀ sb A s H, jO sb A s H → va_T .byte (sb z) N f A s H) (hx : f i.toNatClampNeg = .int x) (hd : decode M.2.2.1 pc = .ok (.baload, 1)) (k : J M on L xs d kc ks (pc + 1) lv (.int x :: st) h Q) : J M on L xs d kc ks pc lv (.int i :: .retAddr z :: st) h Q := by
  intro p l e R s m args below meth c D dA sb A H0 n0 ad0 CB SB QQ hF hX hA hR hT ad H locs cells slots ls hw hls h4 h5
  obtain ⟨hX1, hO, rfl⟩ := hX
  exact va_tb hF.1 hF.2.1 (hT0 sb A s _ hO) hw.2.2.1 (fun q => q.elim h0 (fun q => Nat.not_lt.mpr q hlt)) hx hd (k p l e R s m args below meth c D dA sb A s.heap n0 ad0 CB SB QQ hF ⟨hX1, hO, rfl⟩ hA hR hT ad H locs cells slots ls hw hls h4 h5)
theorem J_callO {idx n i : Nat} {As : List Value} (hi : i < 7) (hcl : M'.2.1.cls = "java/lang/String") (hok : jok M') (hv : jvirt M') (hl : Cond.methodLink M.2.1.cls idx M'.2.1 ∈ jG) (hpn : (parseMethodDescriptor M'.2.1.desc).map (fun d => d.parameters.length) = some n) (hn : As.length = n) (hs : (st.map fun v => v.category).sum ≤ 8)
    (hd' : d' + 1 ≤ d) (hd : decode M.2.2.1 pc = .ok (.invokevirtual idx, 3)) (hc : jCt M' d' 0 0 (.retAddr (i + 2) :: As) h Q')
    (k : ∀ r h', Q' r h' → h.length ≤ h'.length → J M on L xs d kc ks (pc + 3) lv (r.toList ++ st) h' Q) : J M on L xs d kc ks pc lv (As.reverse ++ .retAddr (i + 2) :: st) h Q := by
  have := J_run (kc := kc) (ks := ks) (on := on) (L := L) (xs := xs) (stk := As.reverse ++ .retAddr (i + 2) :: st) (pc := pc) (Q := Q) (As := .retAddr (i + 2) :: As) (M := M) (lv := lv) (st := st) (Or.inl rfl) hc hd' hok.2.2.2.2.2 ?_ k
  · simpa using this
  intro p l e R s m args below meth c D dA sb ad H locs cells slots ls hF hM hP hD hO hsz hr1 hr2 hr3
  have hT : GoodIn jG (wsV M.2.1.cls idx M'.2.1.cls M'.2.1 (jWords M')) := fun w hw => by
    rcases List.mem_append.mp hw with hw | hw
    · simp only [List.mem_cons, List.not_mem_nil, or_false] at hw
      rcases hw with rfl | rfl | rfl | rfl
      · exact jG_good _ hl
      · exact jG_good _ hv.1
      · exact jG_good _ hv.2
      · exact jG_good _ hok.2.2.1
    · exact jGoodWs hok w hw
  have hcw := cwV (R := R) (rm := jRoom d' 0 0) (mc := 0) (ms := 0) (maxL := M'.2.2.2.1) (bytes := M'.2.2.1) (ret := M'.2.2.2.2.1) n hF.2.2.2.2.1 hT rfl rfl rfl ⟨rfl, hok.2.2.2.2.1.1, hok.2.2.2.2.1.2, hpn⟩ ⟨hr1, hr2⟩
  have hrv : ∃ cell : Cell, H[sb (i + 2)]? = some cell ∧ cell.vm.isStatics = false ∧ s.vm.findClass M'.2.1.cls = some cell.cls := by
    obtain ⟨-, -, -, -, h5, -⟩ := hO
    obtain ⟨cell, h1, h2, h3, -⟩ := (h5.1 i hi).1
    exact ⟨cell, h1, h2, by rw [hcl]; exact h3⟩
  refine ⟨_, va_runV (As := As.map (jV sb ad)) (rest := st.map (jV sb ad)) (b := sb (i + 2)) ⟨hF.1, hF.2.1, hF.2.2.1, hF.2.2.2.1, hF.2.2.2.2.1⟩ hM hcw ⟨jBlind, hrv, fun U hU hW => ⟨rfl, by rw [hU], by rw [hU]; exact hP, jK.moved hW hF.2.2.2.2.2.1, hD, by rw [hU]; exact jO.moved hW hO⟩⟩ rfl (by rw [List.length_map]; exact hn) hsz ?_ (lv_room (jSum hs)) hd hr3⟩
  show (As.reverse ++ Value.retAddr (i + 2) :: st).map (jV sb ad) = _
  rw [List.map_append, List.map_reverse]; rfl
theorem J_callS2 {idx n : Nat} {As : List Value} (hok : jok M') (hv : jstat M') (hl : Cond.methodLink M.2.1.cls idx M'.2.1 ∈ jG) (hpn : (parseMethodDescriptor M'.2.1.desc).map (fun d => d.parameters.length) = some n) (hn : As.length = n) (hs : (st.map fun v => v.category).sum ≤ 8)
    (hd' : d' + 1 ≤ d) (hd : decode M.2.2.1 pc = .ok (.invokestatic idx, 3)) (hc : jCt M' d' 0 0 As h Q')
    (k : ∀ r h', Q' r h' → h.length ≤ h'.length → J M on L xs d kc ks (pc + 3) lv (r.toList ++ st) h' Q) : J M on L xs d kc ks pc lv (As.reverse ++ st) h Q := by
  have := J_run (kc := kc) (ks := ks) (on := on) (L := L) (xs := xs) (stk := As.reverse ++ st) (pc := pc) (Q := Q) (As := As) (M := M) (lv := lv) (st := st) (Or.inl rfl) hc hd' hok.2.2.2.2.2 ?_ k
  · simpa using this
  intro p l e R s m args below meth c D dA sb ad H locs cells slots ls hF hM hP hD hO hsz hr1 hr2 hr3
  have hT : GoodIn jG (va_wsS M.2.1.cls idx M'.2.1 (jWords M')) := fun w hw => by
    rcases List.mem_append.mp hw with hw | hw
    · simp only [List.mem_cons, List.not_mem_nil, or_false] at hw
      rcases hw with rfl | rfl | rfl
      · exact jG_good _ hl
      · exact jG_good _ hv
      · exact jG_good _ hok.2.2.1
    · exact jGoodWs hok w hw
  have hcw := va_cwS (R := R) (rm := jRoom d' 0 0) (mc := 0) (ms := 0) (maxL := M'.2.2.2.1) (bytes := M'.2.2.1) (ret := M'.2.2.2.2.1) n hF.2.2.2.2.1 hT rfl rfl rfl ⟨hok.2.2.2.2.1.1, hok.2.2.2.2.1.2, hpn⟩ ⟨hr1, hr2⟩
  refine ⟨_, va_runS (As := As.map (jV sb ad)) (rest := st.map (jV sb ad)) ⟨hF.1, hF.2.1, hF.2.2.1, hF.2.2.2.1, hF.2.2.2.2.1⟩ hM hcw ⟨jBlind, fun U hU hW => ⟨rfl, by rw [hU], by rw [hU]; exact hP, jK.moved hW hF.2.2.2.2.2.1, hD, by rw [hU]; exact jO.moved hW hO⟩⟩ rfl (by rw [List.length_map]; exact hn) hsz ?_ (lv_room (jSum hs)) hd hr3⟩
  show (As.reverse ++ st).map (jV sb ad) = _
  rw [List.map_append, List.map_reverse]
theorem ox_val {i : Nat} (hi : i < 7) : ∀ sb A s H, jO sb A s H → va_OF "java/lang/String" "value" "[B" (jV sb (fun _ => 0) (.retAddr (i + 20))) (sb (i + 2)) A s H := fun _ _ _ _ h => (h.2.2.2.2.1.1 i hi).2.2.1
theorem ox_cod {i : Nat} (hi : i < 7) : ∀ sb A s H, jO sb A s H → va_OF "java/lang/String" "coder" "B" (jV sb (fun _ => 0) (.int 0)) (sb (i + 2)) A s H := fun _ _ _ _ h => (h.2.2.2.2.1.1 i hi).2.1
theorem ox_row {i : Nat} (hi : i < 7) : ∀ sb A s H, jO sb A s H → va_T .byte (sb (i + 20)) (oxL.getD i 0) (fun j => .int ((oxB.getD i []).getD j 0)) A s H := fun _ _ _ _ h => (h.2.2.2.2.1.1 i hi).2.2.2
theorem ox_cmp : ∀ sb A s H, jO sb A s H → va_Z "java/lang/String" "COMPACT_STRINGS" "Z" (jV sb (fun _ => 0) (.int 1)) A s H := fun _ _ _ _ h => h.2.2.1
theorem ct_cod {i : Nat} (hi : i < 7) : jCt m_J_cod 1 0 0 [.retAddr (i + 2)] h (fun r h' => r = some (.int 0) ∧ h' = h) := by
  refine jCt_of ok_J_cod (fun _ _ => Nat.le_of_ble_eq_true rfl) ?_
  show J _ _ _ _ _ _ _ _ [(0, .retAddr (i + 2))] _ _ _
  refine J_ogets (v := .int 1) rfl lf_cmp ox_cmp (by decide +kernel) ?_
  refine J_if_eq (tgt := 13) (off := 10) (by decide) (by decide +kernel) (fun z => absurd (show (1 : Int32) = 0 from z) (by decide)) (fun _ => ?_)
  refine J_sload_n (i := 0) (a := 0) rfl rfl (by decide +kernel) ?_
  refine J_ogetf (v := .int 0) rfl lf_cod (ox_cod hi) (by decide +kernel) ?_
  refine J_goto (tgt := 14) (off := 4) (by decide) (by decide +kernel) ?_
  exact J_iret rfl rfl (by decide +kernel) ⟨rfl, rfl⟩
theorem ct_la1 {i : Nat} (hi : i < 7) : jCt m_J_la1 1 0 0 [.retAddr (i + 2)] h (fun r h' => r = some (.int 1) ∧ h' = h) := by
  refine jCt_of ok_J_la1 (fun _ _ => Nat.le_of_ble_eq_true rfl) ?_
  show J _ _ _ _ _ _ _ _ [(0, .retAddr (i + 2))] _ _ _
  refine J_ogets (v := .int 1) rfl lf_cmp ox_cmp (by decide +kernel) ?_
  refine J_if_eq (tgt := 17) (off := 14) (by decide) (by decide +kernel) (fun z => absurd (show (1 : Int32) = 0 from z) (by decide)) (fun _ => ?_)
  refine J_sload_n (i := 0) (a := 0) rfl rfl (by decide +kernel) ?_
  refine J_ogetf (v := .int 0) rfl lf_cod (ox_cod hi) (by decide +kernel) ?_
  refine J_if_ne (tgt := 17) (off := 7) (by decide) (by decide +kernel) (fun z => absurd rfl z) (fun _ => ?_)
  refine J_iconst (n := 1) (v := 1) (by decide) (by decide +kernel) ?_
  refine J_goto (tgt := 18) (off := 4) (by decide) (by decide +kernel) ?_
  exact J_iret rfl rfl (by decide +kernel) ⟨rfl, rfl⟩
theorem ct_len {i : Nat} (hi : i < 7) : jCt m_J_len 2 0 0 [.retAddr (i + 2)] h (fun r h' => r = some (.int (Int32.ofNat (oxL.getD i 0))) ∧ h' = h) := by
  have hs : ∀ i, i < 7 → (Int32.ofNat (oxL.getD i 0)) >>> ((0 : Int32) &&& 31) = Int32.ofNat (oxL.getD i 0) := by decide
  refine jCt_of ok_J_len (fun _ _ => Nat.le_of_ble_eq_true rfl) ?_
  show J _ _ _ _ _ _ _ _ [(0, .retAddr (i + 2))] _ _ _
  refine J_sload_n (i := 0) (a := 0) rfl rfl (by decide +kernel) ?_
  refine J_ogetf (v := .retAddr (i + 20)) rfl lf_val (ox_val hi) (by decide +kernel) ?_
  refine J_oxlen rfl (ox_row hi) (by decide +kernel) ?_
  refine J_sload_n (i := 0) (a := 0) rfl rfl (by decide +kernel) ?_
  refine J_callO (M' := m_J_cod) (As := []) hi rfl ok_J_cod vi_J_cod lk_cod (n := 0) (by decide +kernel) rfl (Nat.le_of_ble_eq_true rfl) (Nat.le_refl _) (by decide +kernel) (ct_cod hi) (fun r h' hq _ => ?_)
  obtain ⟨rfl, rfl⟩ := hq
  show J _ _ _ _ _ _ _ _ _ [.int 0, .int (Int32.ofNat (oxL.getD i 0))] _ _
  refine J_ishr (by decide +kernel) ?_
  rw [hs i hi]
  exact J_iret rfl rfl (by decide +kernel) ⟨rfl, rfl⟩
theorem ct_pci {x n : Int32} {v : Value} (hv : v = .null ∨ v = .retAddr 50) (h0 : ¬ x < 0) (hx : x < n) : jCt m_J_pci 1 0 0 [.int x, .int n, v] h (fun r h' => r = some (.int x) ∧ h' = h) := by
  refine jCt_of ok_J_pci (fun _ _ => by rcases hv with rfl | rfl <;> exact Nat.le_of_ble_eq_true rfl) ?_
  have e : lv_args 0 [.int x, .int n, v] = [(0, .int x), (1, .int n), (2, v)] := by rcases hv with rfl | rfl <;> rfl
  rw [e]
  refine J_iload_n (i := 0) (a := 0) rfl rfl (by decide +kernel) ?_
  refine J_if_lt (tgt := 9) (off := 8) (by decide) (by decide +kernel) (fun z => absurd z h0) (fun _ => ?_)
  refine J_iload_n (i := 0) (a := 0) rfl rfl (by decide +kernel) ?_
  refine J_iload_n (i := 1) (a := 1) rfl rfl (by decide +kernel) ?_
  refine J_icmp_lt (tgt := 16) (off := 10) (by decide) (by decide +kernel) (fun _ => ?_) (fun z => absurd hx z)
  refine J_iload_n (i := 0) (a := 0) rfl rfl (by decide +kernel) ?_
  exact J_iret rfl rfl (by decide +kernel) ⟨rfl, rfl⟩
theorem ct_ci {x n : Int32} (h0 : ¬ x < 0) (hx : x < n) : jCt m_J_ci 2 0 0 [.int x, .int n] h (fun r h' => r = none ∧ h' = h) := by
  refine jCt_of ok_J_ci (fun _ _ => Nat.le_of_ble_eq_true rfl) ?_
  show J _ _ _ _ _ _ _ _ [(0, .int x), (1, .int n)] _ _ _
  refine J_iload_n (i := 0) (a := 0) rfl rfl (by decide +kernel) ?_
  refine J_iload_n (i := 1) (a := 1) rfl rfl (by decide +kernel) ?_
  refine J_osio lf_sio (by decide +kernel) (fun v hv => ?_)
  refine J_callS2 (M' := m_J_pci) (As := [.int x, .int n, v]) (st := []) ok_J_pci st_J_pci lk_pci (n := 3) (by decide +kernel) rfl (Nat.le_of_ble_eq_true rfl) (Nat.le_refl _) (by decide +kernel) (ct_pci hv h0 hx) (fun r h' hq _ => ?_)
  obtain ⟨rfl, rfl⟩ := hq
  show J _ _ _ _ _ _ _ _ _ [.int x] _ _
  refine J_pop rfl (by decide +kernel) ?_
  exact J_vret rfl (by decide +kernel) ⟨rfl, rfl⟩
theorem ox_by : ∀ i, i < 7 → (oxL.getD i 0 = (oxB.getD i []).length ∧ ∀ b ∈ oxB.getD i [], ((b &&& 255).toUInt32 % 65536).toInt32 = b ∧ narrow .char (.int b) = .int b) := by decide +kernel
theorem ox_lt {x : Int32} {n : Nat} (hn : n < 100) (h0 : ¬ x < 0) (h : x.toNatClampNeg < n) : x < Int32.ofNat n := by
  have e : x.toNatClampNeg = x.toInt.toNat := rfl
  have h1 : 0 ≤ x.toInt := by
    have e0 : (0 : Int32).toInt = 0 := rfl
    rw [Int32.lt_iff_toInt_lt, e0] at h0
    omega
  rw [Int32.lt_iff_toInt_lt, Int32.toInt_ofNat_of_lt (by omega)]
  omega
theorem ct_lch {i : Nat} {x b : Int32} (hi : i < 7) (h0 : ¬ x < 0) (hb : (oxB.getD i [])[x.toNatClampNeg]? = some b) : jCt m_J_lch 3 0 0 [.retAddr (i + 20), .int x] h (fun r h' => r = some (.int b) ∧ h' = h) := by
  obtain ⟨g1, g2⟩ := ox_by i hi
  have hlt : x.toNatClampNeg < oxL.getD i 0 := by rw [g1]; exact (List.getElem?_eq_some_iff.mp hb).1
  have hl : ∀ i, i < 7 → oxL.getD i 0 < 100 := by decide
  obtain ⟨g3, g4⟩ := g2 b (List.mem_of_getElem? hb)
  refine jCt_of ok_J_lch (fun _ _ => Nat.le_of_ble_eq_true rfl) ?_
  show J _ _ _ _ _ _ _ _ [(0, .retAddr (i + 20)), (1, .int x)] _ _ _
  refine J_iload_n (i := 1) (a := 1) rfl rfl (by decide +kernel) ?_
  refine J_sload_n (i := 0) (a := 0) rfl rfl (by decide +kernel) ?_
  refine J_oxlen rfl (ox_row hi) (by decide +kernel) ?_
  refine J_callS2 (M' := m_J_ci) (As := [.int x, .int (Int32.ofNat (oxL.getD i 0))]) (st := []) ok_J_ci st_J_ci lk_ci (n := 2) (by decide +kernel) rfl (Nat.le_of_ble_eq_true rfl) (Nat.le_refl _) (by decide +kernel) (ct_ci h0 (ox_lt (hl i hi) h0 hlt)) (fun r h' hq _ => ?_)
  obtain ⟨rfl, rfl⟩ := hq
  show J _ _ _ _ _ _ _ _ _ [] _ _
  refine J_sload_n (i := 0) (a := 0) rfl rfl (by decide +kernel) ?_
  refine J_iload_n (i := 1) (a := 1) rfl rfl (by decide +kernel) ?_
  refine J_oxtb (x := b) h0 hlt (ox_row hi) (by
    show Value.int ((oxB.getD i []).getD x.toNatClampNeg 0) = _
    rw [List.getD_eq_getElem?_getD, hb]; rfl) (by decide +kernel) ?_
  refine J_sipush (n := 255) (v := 255) (by decide) (by decide +kernel) ?_
  refine J_iand (by decide +kernel) ?_
  refine J_i2c g3 (by decide +kernel) ?_
  exact J_iret rfl g4 (by decide +kernel) ⟨rfl, rfl⟩
theorem ct_cha {i : Nat} {x b : Int32} (hi : i < 7) (h0 : ¬ x < 0) (hb : (oxB.getD i [])[x.toNatClampNeg]? = some b) : jCt m_J_cha 4 0 0 [.retAddr (i + 2), .int x] h (fun r h' => r = some (.int b) ∧ h' = h) := by
  obtain ⟨g1, g2⟩ := ox_by i hi
  obtain ⟨g3, g4⟩ := g2 b (List.mem_of_getElem? hb)
  refine jCt_of ok_J_cha (fun _ _ => Nat.le_of_ble_eq_true rfl) ?_
  show J _ _ _ _ _ _ _ _ [(0, .retAddr (i + 2)), (1, .int x)] _ _ _
  refine J_sload_n (i := 0) (a := 0) rfl rfl (by decide +kernel) ?_
  refine J_callO (M' := m_J_la1) (As := []) (st := []) hi rfl ok_J_la1 vi_J_la1 lk_la1 (n := 0) (by decide +kernel) rfl (Nat.le_of_ble_eq_true rfl) (by decide) (by decide +kernel) (ct_la1 hi) (fun r h' hq _ => ?_)
  obtain ⟨rfl, rfl⟩ := hq
  show J _ _ _ _ _ _ _ _ _ [.int 1] _ _
  refine J_if_eq (tgt := 16) (off := 12) (by decide) (by decide +kernel) (fun z => absurd (show (1 : Int32) = 0 from z) (by decide)) (fun _ => ?_)
  refine J_sload_n (i := 0) (a := 0) rfl rfl (by decide +kernel) ?_
  refine J_ogetf (v := .retAddr (i + 20)) rfl lf_val (ox_val hi) (by decide +kernel) ?_
  refine J_iload_n (i := 1) (a := 1) rfl rfl (by decide +kernel) ?_
  refine J_callS2 (M' := m_J_lch) (As := [.retAddr (i + 20), .int x]) (st := []) ok_J_lch st_J_lch lk_lch (n := 2) (by decide +kernel) rfl (Nat.le_of_ble_eq_true rfl) (Nat.le_refl _) (by decide +kernel) (ct_lch hi h0 hb) (fun r h' hq _ => ?_)
  obtain ⟨rfl, rfl⟩ := hq
  show J _ _ _ _ _ _ _ _ _ [.int b] _ _
  exact J_iret rfl g4 (by decide +kernel) ⟨rfl, rfl⟩
end FEXT0
section FEXT
variable {R : Type} {w : Bool} {ι : R → Option Value} {M : jM} {d pc tgt : Nat} {lv : jLv} {st : List Value} {m : mM} {e : fR R}
theorem F_sldc {z i : Nat} {tx : String} (hi : M.2.1.cls = RX4) (hz : ∀ {sb s}, oxR sb s → vk_R RX4 i tx (sb z) s) (hd : decode M.2.2.1 pc = .ok (.ldc i, 2)) (K : JF w ι M d (pc + 2) lv (.retAddr z :: st) m e) : JF w ι M d pc lv st m e := by
  intro r h' he p l e R s mm args below meth c D dA sb A H0 n0 ad0 CB SB QQ hF hX hA hR hT ad H locs cells slots ls hw hls h4 h5
  exact va_ldcS (own := M.2.1.cls) hF.1 hF.2.1 hF.2.2.2.1 (by rw [hi]; exact hz hX.2.1.2.2.2.1) hd (K r h' he p l e R s mm args below meth c D dA sb A H0 n0 ad0 CB SB QQ hF hX hA hR hT ad H locs cells slots ls hw hls h4 h5)
theorem st_app {st : List Value} (hs : (st.map fun v => v.category).sum ≤ 8) : (st.map fun v => v.category).sum ≤ 8 := hs
theorem F_slen {z idx : Nat} {k : Int32 → fR R} (hl : Cond.methodLink M.2.1.cls idx ⟨"java/lang/String", "length", "()I"⟩ ∈ jG) (hs : (st.map fun v => v.category).sum ≤ 8) (hd1 : 3 ≤ d) (hd : decode M.2.2.1 pc = .ok (.invokevirtual idx, 3)) (K : ∀ x, JF w ι M d (pc + 3) lv (.int x :: st) m (k x)) : JF w ι M d pc lv (.retAddr z :: st) m ((stL z).bind k) := fun r h' he => by
  obtain ⟨x, hx, he⟩ := Option.bind_eq_some_iff.mp he
  unfold stL at hx
  split at hx
  · rename_i hz
    obtain ⟨n, h1, rfl⟩ := Option.map_eq_some_iff.mp hx
    have hi : z - 2 < 7 := (List.getElem?_eq_some_iff.mp h1).1
    have e1 : oxL.getD (z - 2) 0 = n := by rw [List.getD_eq_getElem?_getD, h1]; rfl
    have e2 : z = (z - 2) + 2 := by omega
    have hq := ct_len (h := mH w m) hi
    rw [e1] at hq
    rw [e2]
    exact J_callO (M' := m_J_len) (As := []) (n := 0) (d' := 2) hi rfl ok_J_len vi_J_len hl (by decide +kernel) rfl hs (by omega) hd hq (fun r1 h1 hq _ => by
      obtain ⟨rfl, rfl⟩ := hq
      exact K _ r h' he)
  · cases hx
theorem F_sat {z idx : Nat} {i : Int32} {k : Int32 → fR R} (hl : Cond.methodLink M.2.1.cls idx ⟨"java/lang/String", "charAt", "(I)C"⟩ ∈ jG) (hs : (st.map fun v => v.category).sum ≤ 8) (hd1 : 5 ≤ d) (hd : decode M.2.2.1 pc = .ok (.invokevirtual idx, 3)) (K : ∀ x, JF w ι M d (pc + 3) lv (.int x :: st) m (k x)) : JF w ι M d pc lv (.int i :: .retAddr z :: st) m ((stA z i).bind k) := fun r h' he => by
  obtain ⟨x, hx, he⟩ := Option.bind_eq_some_iff.mp he
  unfold stA at hx
  split at hx
  · rename_i hz
    have hi : z - 2 < 7 := by
      rcases Nat.lt_or_ge (z - 2) 7 with q | q
      · exact q
      · rw [List.getD_eq_getElem?_getD, List.getElem?_eq_none (show oxB.length ≤ z - 2 from q)] at hx
        cases hx
    have e2 : z = (z - 2) + 2 := by omega
    rw [e2]
    exact J_callO (M' := m_J_cha) (As := [.int i]) (n := 1) (d' := 4) hi rfl ok_J_cha vi_J_cha hl (by decide +kernel) rfl hs (by omega) hd (ct_cha hi hz.2 hx) (fun r1 h1 hq _ => by
      obtain ⟨rfl, rfl⟩ := hq
      exact K _ r h' he)
  · cases hx
theorem F_gets {idx : Nat} (hl : Cond.fieldLink M.2.1.cls idx RX6 "ABOVE" "[I" ∈ jG) (hd : decode M.2.2.1 pc = .ok (.getstatic idx, 3)) (K : JF w ι M d (pc + 3) lv (.retAddr 1 :: st) m e) : JF w ι M d pc lv st m e := fun r h' he =>
  J_ogets (v := .retAddr 1) rfl hl (fun _ _ _ _ h => h.1) hd (K r h' he)
theorem F_abld {i : Int32} {k : Int32 → fR R} (hd : decode M.2.2.1 pc = .ok (.iaload, 1)) (K : ∀ x, JF w ι M d (pc + 1) lv (.int x :: st) m (k x)) : JF w ι M d pc lv (.int i :: .retAddr 1 :: st) m ((gA oxA i).bind k) := fun r h' he => by
  obtain ⟨x, hx, he⟩ := Option.bind_eq_some_iff.mp he
  unfold gA at hx
  split at hx
  · rename_i h0
    have hlt : i.toNatClampNeg < 7 := (List.getElem?_eq_some_iff.mp hx).1
    refine J_oxti (N := 7) (f := fun j => .int (oxA.getD j 0)) h0 hlt (fun _ _ _ _ h => h.2.1) (by
      show Value.int (oxA.getD i.toNatClampNeg 0) = _
      rw [List.getD_eq_getElem?_getD, hx]; rfl) hd (K x r h' he)
  · cases hx
theorem F_abs {idx : Nat} {x : Int32} (hl : Cond.methodLink M.2.1.cls idx ⟨"java/lang/Math", "abs", "(I)I"⟩ ∈ jG) (hs : (st.map fun v => v.category).sum ≤ 8) (hd1 : 1 ≤ d) (hd : decode M.2.2.1 pc = .ok (.invokestatic idx, 3)) (K : JF w ι M d (pc + 3) lv (.int (abI x) :: st) m e) : JF w ι M d pc lv (.int x :: st) m e := by
  intro r h' he p l e R s mm args below meth c D dA sb A H0 n0 ad0 CB SB QQ hF hX hA hR hT ad H locs cells slots ls hw hls h4 h5
  have hmul : 1 * jK0 ≤ d * jK0 := Nat.mul_le_mul_right _ hd1
  have hj : jK0 = 40 := rfl
  have hsm := jSum (sb := sb) (ad := ad) hs
  exact va_mabs hF.1 hF.2.1 (hF.2.2.1.trans hls.1.symm) hF.2.2.2.1 (hF.2.2.2.2.1 _ hl) (hF.2.2.2.2.1 _ ab_st) (hF.2.2.2.2.1 _ ab_ini) (hF.2.2.2.2.1 _ ab_code) (by have := hR.1; omega) (by have := hR.2.1; omega) (by have := hR.2.2.1; omega) (by have := hR.2.2.2; omega) hd (K r h' he p l e R s mm args below meth c D dA sb A H0 n0 ad0 CB SB QQ hF hX hA hR hT ad H locs cells slots ls hw hls h4 h5)
theorem F_copyl {idx a0 a1 : Nat} {sp dp n : Int32} {k : mM → fR R} (h0 : isA w 1 a0 = true) (h1 : isA w 1 a1 = true) (hl : Cond.methodLink M.2.1.cls idx arraycopyName ∈ jG) (hs : (st.map fun v => v.category).sum ≤ 8) (hd1 : 1 ≤ d) (hd : decode M.2.2.1 pc = .ok (.invokestatic idx, 3)) (K : ∀ m1, JF w ι M d (pc + 3) lv st m1 (k m1)) : JF w ι M d pc lv (.int n :: .int dp :: .ref a1 :: .int sp :: .ref a0 :: st) m ((cpL m a0 sp a1 dp n).bind k) := fun r h' he => by
  obtain ⟨m1, hx, he⟩ := Option.bind_eq_some_iff.mp he
  unfold cpL at hx
  split at hx
  · rename_i hc
    obtain ⟨c1, c2, c3, c6, c7⟩ := hc
    cases hx
    have hk := K _ r h' he
    rw [← mH_wL (isA_ok h1)] at hk
    intro p l e R s mm args below meth c D dA sb A H0 n0 ad0 CB SB QQ hF hX hA hR hT ad H locs cells slots ls hw hls h4 h5
    obtain ⟨w1, w2, w3, w4, w5, w6⟩ := hw
    have hroom : nativeFrameWords "java/lang/System" "arraycopy" 5 + 11 ≤ 18 := by decide +kernel
    have hmul : 1 * jK0 ≤ d * jK0 := Nat.mul_le_mul_right _ hd1
    have hj : jK0 = 40 := rfl
    have hcat := jSum (sb := sb) (ad := ad) hs
    refine va_copyl hF.1 hF.2.1 (hF.2.2.1.trans hls.1.symm) hF.2.2.2.1 (hF.2.2.2.2.1 _ hl) (hF.2.2.2.2.1 _ ac_nat) (hF.2.2.2.2.1 _ ac_stat) (hF.2.2.2.2.1 _ ac_ini) hF.2.2.2.2.2.1.1 w1 w2 w3 a0 a1 1 1 (jWs_get (mE_rowL h0)) (jWs_get (mE_rowL h1)) (jT_at (by decide)) (jT_at (by decide)) rfl c1 c2 c3 c6 c7 (fun _ _ => rfl) (by have := hR.1; omega) (by have := hR.2.1; omega) hd (fun H1 locs1 x1 x2 x3 => ?_)
    have e1 : (jWs sb dA ad (mH w m)).set a1 (ad a1, jE sb dA ad (.inl (1, .inr (.inl (jcpyL (mL m a0) (mL m a1) sp.toNatClampNeg dp.toNatClampNeg n.toNatClampNeg))))) = jWs sb dA ad ((mH w m).set a1 (.inl (1, .inr (.inl (jcpyL (mL m a0) (mL m a1) sp.toNatClampNeg dp.toNatClampNeg n.toNatClampNeg))))) := jWs_set
    rw [show jE sb dA ad (.inl (1, .inr (.inl (jcpyL (mL m a0) (mL m a1) sp.toNatClampNeg dp.toNatClampNeg n.toNatClampNeg)))) = .inl (dA 1, (mL m a1).length, .inr (.inl (fun j => (jcpyL (mL m a0) (mL m a1) sp.toNatClampNeg dp.toNatClampNeg n.toNatClampNeg).getD j 0))) by
      show (Sum.inl (dA 1, (jcpyL (mL m a0) (mL m a1) _ _ _).length, _) : va_E) = Sum.inl (dA 1, (mL m a1).length, _)
      rw [show (jcpyL (mL m a0) (mL m a1) sp.toNatClampNeg dp.toNatClampNeg n.toNatClampNeg).length = (mL m a1).length by simp [jcpyL]], jcpyL_eq c7] at e1
    rw [e1] at x1 x2
    exact hk p l e R s mm args below meth c D dA sb A H0 n0 ad0 CB SB QQ hF hX hA hR hT ad H1 locs1 cells slots ls ⟨x1, x2, x3, by simpa using w4, w5, w6⟩ hls h4 h5
  · cases hx
end FEXT
end
-- 20d.facts.lean.txt
section
section
set_option maxRecDepth 100000
theorem axM_0_1 : isA false 0 1 = true := rfl
theorem axM_0_10 : isA false 0 10 = true := rfl
theorem axM_0_11 : isA false 0 11 = true := rfl
theorem axM_0_12 : isA false 0 12 = true := rfl
theorem axM_0_13 : isA false 0 13 = true := rfl
theorem axM_0_14 : isA false 0 14 = true := rfl
theorem axM_0_15 : isA false 0 15 = true := rfl
theorem axM_0_16 : isA false 0 16 = true := rfl
theorem axM_0_18 : isA false 0 18 = true := rfl
theorem axM_0_19 : isA false 0 19 = true := rfl
theorem axM_0_2 : isA false 0 2 = true := rfl
theorem axM_0_20 : isA false 0 20 = true := rfl
theorem axM_0_21 : isA false 0 21 = true := rfl
theorem axM_0_22 : isA false 0 22 = true := rfl
theorem axM_0_23 : isA false 0 23 = true := rfl
theorem axM_0_24 : isA false 0 24 = true := rfl
theorem axM_0_25 : isA false 0 25 = true := rfl
theorem axM_0_26 : isA false 0 26 = true := rfl
theorem axM_0_27 : isA false 0 27 = true := rfl
theorem axM_0_28 : isA false 0 28 = true := rfl
theorem axM_0_29 : isA false 0 29 = true := rfl
theorem axM_0_3 : isA false 0 3 = true := rfl
theorem axM_0_30 : isA false 0 30 = true := rfl
theorem axM_0_32 : isA false 0 32 = true := rfl
theorem axM_0_33 : isA false 0 33 = true := rfl
theorem axM_0_34 : isA false 0 34 = true := rfl
theorem axM_0_4 : isA false 0 4 = true := rfl
theorem axM_0_5 : isA false 0 5 = true := rfl
theorem axM_0_6 : isA false 0 6 = true := rfl
theorem axM_0_8 : isA false 0 8 = true := rfl
theorem axM_0_9 : isA false 0 9 = true := rfl
theorem axM_1_35 : isA false 1 35 = true := rfl
theorem axM_1_36 : isA false 1 36 = true := rfl
theorem axM_3_17 : isA false 3 17 = true := rfl
theorem axM_3_31 : isA false 3 31 = true := rfl
theorem axM_3_7 : isA false 3 7 = true := rfl
theorem axX_0_1 : isA true 0 1 = true := rfl
theorem axX_0_15 : isA true 0 15 = true := rfl
theorem axX_0_16 : isA true 0 16 = true := rfl
theorem axX_0_17 : isA true 0 17 = true := rfl
theorem axX_0_18 : isA true 0 18 = true := rfl
theorem axX_0_19 : isA true 0 19 = true := rfl
theorem axX_0_21 : isA true 0 21 = true := rfl
theorem axX_0_22 : isA true 0 22 = true := rfl
theorem axX_0_35 : isA true 0 35 = true := rfl
theorem axX_0_36 : isA true 0 36 = true := rfl
theorem axX_0_42 : isA true 0 42 = true := rfl
theorem axX_0_43 : isA true 0 43 = true := rfl
theorem axX_0_44 : isA true 0 44 = true := rfl
theorem axX_0_45 : isA true 0 45 = true := rfl
theorem axX_0_6 : isA true 0 6 = true := rfl
theorem axX_2_3 : isA true 2 3 = true := rfl
theorem axX_3_20 : isA true 3 20 = true := rfl
theorem axX_3_38 : isA true 3 38 = true := rfl
theorem fxM_7_0_0 : fAt false 7 0 0 0 := ⟨_, rfl, rfl⟩
theorem fxM_7_10_0 : fAt false 7 10 0 0 := ⟨_, rfl, rfl⟩
theorem fxM_7_11_0 : fAt false 7 11 0 0 := ⟨_, rfl, rfl⟩
theorem fxM_7_12_0 : fAt false 7 12 0 0 := ⟨_, rfl, rfl⟩
theorem fxM_7_13_0 : fAt false 7 13 0 0 := ⟨_, rfl, rfl⟩
theorem fxM_7_14_0 : fAt false 7 14 0 0 := ⟨_, rfl, rfl⟩
theorem fxM_7_15_0 : fAt false 7 15 10 0 := ⟨_, rfl, rfl⟩
theorem fxM_7_16_0 : fAt false 7 16 11 0 := ⟨_, rfl, rfl⟩
theorem fxM_7_17_0 : fAt false 7 17 12 0 := ⟨_, rfl, rfl⟩
theorem fxM_7_18_0 : fAt false 7 18 13 0 := ⟨_, rfl, rfl⟩
theorem fxM_7_19_0 : fAt false 7 19 14 0 := ⟨_, rfl, rfl⟩
theorem fxM_7_1_0 : fAt false 7 1 0 0 := ⟨_, rfl, rfl⟩
theorem fxM_7_20_0 : fAt false 7 20 15 0 := ⟨_, rfl, rfl⟩
theorem fxM_7_21_0 : fAt false 7 21 16 0 := ⟨_, rfl, rfl⟩
theorem fxM_7_22_0 : fAt false 7 22 17 0 := ⟨_, rfl, rfl⟩
theorem fxM_7_23_0 : fAt false 7 23 0 0 := ⟨_, rfl, rfl⟩
theorem fxM_7_24_0 : fAt false 7 24 0 0 := ⟨_, rfl, rfl⟩
theorem fxM_7_25_0 : fAt false 7 25 0 0 := ⟨_, rfl, rfl⟩
theorem fxM_7_26_0 : fAt false 7 26 18 0 := ⟨_, rfl, rfl⟩
theorem fxM_7_27_0 : fAt false 7 27 0 0 := ⟨_, rfl, rfl⟩
theorem fxM_7_28_0 : fAt false 7 28 19 0 := ⟨_, rfl, rfl⟩
theorem fxM_7_29_0 : fAt false 7 29 20 0 := ⟨_, rfl, rfl⟩
theorem fxM_7_2_0 : fAt false 7 2 0 0 := ⟨_, rfl, rfl⟩
theorem fxM_7_30_0 : fAt false 7 30 21 0 := ⟨_, rfl, rfl⟩
theorem fxM_7_31_0 : fAt false 7 31 0 0 := ⟨_, rfl, rfl⟩
theorem fxM_7_32_0 : fAt false 7 32 0 0 := ⟨_, rfl, rfl⟩
theorem fxM_7_33_0 : fAt false 7 33 22 0 := ⟨_, rfl, rfl⟩
theorem fxM_7_34_0 : fAt false 7 34 0 0 := ⟨_, rfl, rfl⟩
theorem fxM_7_35_0 : fAt false 7 35 0 0 := ⟨_, rfl, rfl⟩
theorem fxM_7_36_0 : fAt false 7 36 23 0 := ⟨_, rfl, rfl⟩
theorem fxM_7_37_0 : fAt false 7 37 24 0 := ⟨_, rfl, rfl⟩
theorem fxM_7_38_0 : fAt false 7 38 0 0 := ⟨_, rfl, rfl⟩
theorem fxM_7_39_0 : fAt false 7 39 25 0 := ⟨_, rfl, rfl⟩
theorem fxM_7_3_0 : fAt false 7 3 3 0 := ⟨_, rfl, rfl⟩
theorem fxM_7_40_0 : fAt false 7 40 0 0 := ⟨_, rfl, rfl⟩
theorem fxM_7_41_0 : fAt false 7 41 0 0 := ⟨_, rfl, rfl⟩
theorem fxM_7_42_0 : fAt false 7 42 0 0 := ⟨_, rfl, rfl⟩
theorem fxM_7_43_0 : fAt false 7 43 0 0 := ⟨_, rfl, rfl⟩
theorem fxM_7_44_0 : fAt false 7 44 0 0 := ⟨_, rfl, rfl⟩
theorem fxM_7_45_0 : fAt false 7 45 0 0 := ⟨_, rfl, rfl⟩
theorem fxM_7_46_0 : fAt false 7 46 26 0 := ⟨_, rfl, rfl⟩
theorem fxM_7_47_0 : fAt false 7 47 27 0 := ⟨_, rfl, rfl⟩
theorem fxM_7_48_0 : fAt false 7 48 28 0 := ⟨_, rfl, rfl⟩
theorem fxM_7_49_0 : fAt false 7 49 29 0 := ⟨_, rfl, rfl⟩
theorem fxM_7_4_0 : fAt false 7 4 4 0 := ⟨_, rfl, rfl⟩
theorem fxM_7_50_0 : fAt false 7 50 30 0 := ⟨_, rfl, rfl⟩
theorem fxM_7_51_0 : fAt false 7 51 31 0 := ⟨_, rfl, rfl⟩
theorem fxM_7_52_0 : fAt false 7 52 32 0 := ⟨_, rfl, rfl⟩
theorem fxM_7_53_0 : fAt false 7 53 33 0 := ⟨_, rfl, rfl⟩
theorem fxM_7_54_0 : fAt false 7 54 0 0 := ⟨_, rfl, rfl⟩
theorem fxM_7_55_0 : fAt false 7 55 34 0 := ⟨_, rfl, rfl⟩
theorem fxM_7_56_0 : fAt false 7 56 35 0 := ⟨_, rfl, rfl⟩
theorem fxM_7_57_0 : fAt false 7 57 36 0 := ⟨_, rfl, rfl⟩
theorem fxM_7_58_0 : fAt false 7 58 37 0 := ⟨_, rfl, rfl⟩
theorem fxM_7_59_0 : fAt false 7 59 38 0 := ⟨_, rfl, rfl⟩
theorem fxM_7_5_0 : fAt false 7 5 5 0 := ⟨_, rfl, rfl⟩
theorem fxM_7_6_0 : fAt false 7 6 6 0 := ⟨_, rfl, rfl⟩
theorem fxM_7_7_0 : fAt false 7 7 7 0 := ⟨_, rfl, rfl⟩
theorem fxM_7_8_0 : fAt false 7 8 8 0 := ⟨_, rfl, rfl⟩
theorem fxM_7_9_0 : fAt false 7 9 9 0 := ⟨_, rfl, rfl⟩
theorem fxX_0_0_5 : fAt true 0 0 8 5 := ⟨_, rfl, rfl⟩
theorem fxX_0_1_5 : fAt true 0 1 0 5 := ⟨_, rfl, rfl⟩
theorem fxX_0_2_5 : fAt true 0 2 0 5 := ⟨_, rfl, rfl⟩
theorem fxX_0_3_5 : fAt true 0 3 0 5 := ⟨_, rfl, rfl⟩
theorem fxX_0_4_5 : fAt true 0 4 0 5 := ⟨_, rfl, rfl⟩
theorem fxX_1_0_41 : fAt true 1 0 1 41 := ⟨_, rfl, rfl⟩
theorem fxX_1_1_41 : fAt true 1 1 0 41 := ⟨_, rfl, rfl⟩
theorem fxX_1_2_41 : fAt true 1 2 0 41 := ⟨_, rfl, rfl⟩
theorem fxX_1_3_41 : fAt true 1 3 0 41 := ⟨_, rfl, rfl⟩
theorem fxX_1_4_41 : fAt true 1 4 0 41 := ⟨_, rfl, rfl⟩
theorem fxX_1_5_41 : fAt true 1 5 44 41 := ⟨_, rfl, rfl⟩
theorem fxX_1_6_41 : fAt true 1 6 45 41 := ⟨_, rfl, rfl⟩
theorem fxX_1_7_41 : fAt true 1 7 46 41 := ⟨_, rfl, rfl⟩
theorem fxX_1_8_41 : fAt true 1 8 47 41 := ⟨_, rfl, rfl⟩
theorem fxX_2_0_14 : fAt true 2 0 0 14 := ⟨_, rfl, rfl⟩
theorem fxX_2_0_23 : fAt true 2 0 0 23 := ⟨_, rfl, rfl⟩
theorem fxX_2_0_32 : fAt true 2 0 0 32 := ⟨_, rfl, rfl⟩
theorem fxX_2_10_14 : fAt true 2 10 22 14 := ⟨_, rfl, rfl⟩
theorem fxX_2_10_32 : fAt true 2 10 40 32 := ⟨_, rfl, rfl⟩
theorem fxX_2_11_14 : fAt true 2 11 23 14 := ⟨_, rfl, rfl⟩
theorem fxX_2_12_14 : fAt true 2 12 24 14 := ⟨_, rfl, rfl⟩
theorem fxX_2_1_14 : fAt true 2 1 0 14 := ⟨_, rfl, rfl⟩
theorem fxX_2_2_14 : fAt true 2 2 0 14 := ⟨_, rfl, rfl⟩
theorem fxX_2_3_14 : fAt true 2 3 0 14 := ⟨_, rfl, rfl⟩
theorem fxX_2_4_14 : fAt true 2 4 1 14 := ⟨_, rfl, rfl⟩
theorem fxX_2_4_32 : fAt true 2 4 1 32 := ⟨_, rfl, rfl⟩
theorem fxX_2_5_14 : fAt true 2 5 17 14 := ⟨_, rfl, rfl⟩
theorem fxX_2_6_14 : fAt true 2 6 18 14 := ⟨_, rfl, rfl⟩
theorem fxX_2_7_14 : fAt true 2 7 19 14 := ⟨_, rfl, rfl⟩
theorem fxX_2_7_32 : fAt true 2 7 37 32 := ⟨_, rfl, rfl⟩
theorem fxX_2_8_14 : fAt true 2 8 20 14 := ⟨_, rfl, rfl⟩
theorem fxX_2_8_32 : fAt true 2 8 38 32 := ⟨_, rfl, rfl⟩
theorem fxX_2_9_14 : fAt true 2 9 21 14 := ⟨_, rfl, rfl⟩
theorem fxX_4_0_2 : fAt true 4 0 5 2 := ⟨_, rfl, rfl⟩
theorem fxX_4_1_2 : fAt true 4 1 0 2 := ⟨_, rfl, rfl⟩
theorem fxX_4_2_2 : fAt true 4 2 0 2 := ⟨_, rfl, rfl⟩
theorem fxX_4_3_2 : fAt true 4 3 0 2 := ⟨_, rfl, rfl⟩
theorem fxX_6_0_0 : fAt true 6 0 16 0 := ⟨_, rfl, rfl⟩
theorem fxX_6_10_0 : fAt true 6 10 9 0 := ⟨_, rfl, rfl⟩
theorem fxX_6_1_0 : fAt true 6 1 25 0 := ⟨_, rfl, rfl⟩
theorem fxX_6_2_0 : fAt true 6 2 34 0 := ⟨_, rfl, rfl⟩
theorem fxX_6_3_0 : fAt true 6 3 0 0 := ⟨_, rfl, rfl⟩
theorem fxX_6_4_0 : fAt true 6 4 43 0 := ⟨_, rfl, rfl⟩
theorem fxX_6_5_0 : fAt true 6 5 3 0 := ⟨_, rfl, rfl⟩
theorem fxX_6_6_0 : fAt true 6 6 4 0 := ⟨_, rfl, rfl⟩
theorem fxX_6_7_0 : fAt true 6 7 6 0 := ⟨_, rfl, rfl⟩
theorem fxX_6_8_0 : fAt true 6 8 0 0 := ⟨_, rfl, rfl⟩
theorem fxX_6_9_0 : fAt true 6 9 7 0 := ⟨_, rfl, rfl⟩
theorem ol_4_41 : Cond.methodLink RX4 41 ⟨"java/lang/String", "length", "()I"⟩ ∈ jG := jG_in 468 rfl rfl
theorem ol_4_49 : Cond.methodLink RX4 49 ⟨"java/lang/String", "charAt", "(I)C"⟩ ∈ jG := jG_in 478 rfl rfl
theorem ol_6_215 : Cond.methodLink RX6 215 ⟨"java/lang/Math", "abs", "(I)I"⟩ ∈ jG := jG_in 688 rfl rfl
theorem og_6_248 : Cond.fieldLink RX6 248 RX6 "ABOVE" "[I" ∈ jG := jG_in 742 rfl rfl
theorem os_2 {sb : Nat → Nat} {s : State} (hs : oxR sb s) : vk_R RX4 35 ";" (sb 2) s := hs.1
theorem os_3 {sb : Nat → Nat} {s : State} (hs : oxR sb s) : vk_R RX4 53 "take " (sb 3) s := hs.2.1
theorem os_4 {sb : Nat → Nat} {s : State} (hs : oxR sb s) : vk_R RX4 58 " " (sb 4) s := hs.2.2.1
theorem os_5 {sb : Nat → Nat} {s : State} (hs : oxR sb s) : vk_R RX4 68 "due " (sb 5) s := hs.2.2.2.1
theorem os_6 {sb : Nat → Nat} {s : State} (hs : oxR sb s) : vk_R RX4 73 "cost " (sb 6) s := hs.2.2.2.2.1
theorem os_7 {sb : Nat → Nat} {s : State} (hs : oxR sb s) : vk_R RX4 78 "feast " (sb 7) s := hs.2.2.2.2.2.1
theorem os_8 {sb : Nat → Nat} {s : State} (hs : oxR sb s) : vk_R RX4 100 ")" (sb 8) s := hs.2.2.2.2.2.2
end
end
