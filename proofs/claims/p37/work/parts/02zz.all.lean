-- 02zz.out.lean.txt
section
/-! WHAT LIES OUTSIDE THE HEAP: ABOVE (the 1st), the text constants of the class's Text (from the 2nd on) -/
def oxB : List (List Int32) := [[59], [116, 97, 107, 101, 32], [32], [100, 117, 101, 32], [99, 111, 115, 116, 32], [102, 101, 97, 115, 116, 32], [41]]
def oxL : List Nat := [1, 5, 1, 4, 5, 6, 1]
def oxA : List Int32 := [-1, 0, 0, 0, 1, 2, 3]
def oxR (sb : Nat → Nat) (s : State) : Prop := vk_R RX4 35 ";" (sb 2) s ∧ vk_R RX4 53 "take " (sb 3) s ∧ vk_R RX4 58 " " (sb 4) s ∧ vk_R RX4 68 "due " (sb 5) s ∧ vk_R RX4 73 "cost " (sb 6) s ∧ vk_R RX4 78 "feast " (sb 7) s ∧ vk_R RX4 100 ")" (sb 8) s
/-- what is known of them, where nothing outside A has changed -/
def jO (sb : Nat → Nat) (A : Nat → Prop) (s : State) (H : Heap) : Prop :=
  va_Z RX6 "ABOVE" "[I" (.ref (sb 1)) A s H ∧ va_T .int (sb 1) 7 (fun j => .int (oxA.getD j 0)) A s H ∧ va_Z "java/lang/String" "COMPACT_STRINGS" "Z" (.int 1) A s H ∧ oxR sb s ∧ vk_S 7 oxL oxB (fun i => sb (i + 2)) (fun i => sb (i + 20)) A s H ∧ (va_Z "jdk/internal/util/Preconditions" "SIOOBE_FORMATTER" "Ljava/util/function/BiFunction;" .null A s H ∨ va_Z "jdk/internal/util/Preconditions" "SIOOBE_FORMATTER" "Ljava/util/function/BiFunction;" (.ref (sb 50)) A s H)
theorem jO.moved {sb : Nat → Nat} {A : Nat → Prop} {u U : State} {H : Heap} (hW : u.WarmedH U.vm) (h : jO sb A u H) : jO sb A U H := by
  obtain ⟨h1, h2, h3, ⟨r0, r1, r2, r3, r4, r5, r6⟩, h5, h6⟩ := h
  exact ⟨h1.moved hW.alike, h2.moved hW.alike, h3.moved hW.alike, ⟨r0.warm hW, r1.warm hW, r2.warm hW, r3.warm hW, r4.warm hW, r5.warm hW, r6.warm hW⟩, h5.moved hW.alike, h6.imp (fun q => q.moved hW.alike) (fun q => q.moved hW.alike)⟩
theorem jO.same {sb : Nat → Nat} {A : Nat → Prop} {u U : State} {H : Heap} (hvm : u.vm = U.vm) (h : jO sb A u H) : jO sb A U H := by
  have ha : u.vm.Alike U.vm := by rw [hvm]; exact Vm.Alike.refl U.vm
  obtain ⟨h1, h2, h3, ⟨r0, r1, r2, r3, r4, r5, r6⟩, h5, h6⟩ := h
  exact ⟨h1.moved ha, h2.moved ha, h3.moved ha, ⟨r0.same hvm.symm, r1.same hvm.symm, r2.same hvm.symm, r3.same hvm.symm, r4.same hvm.symm, r5.same hvm.symm, r6.same hvm.symm⟩, h5.moved ha, h6.imp (fun q => q.moved ha) (fun q => q.moved ha)⟩
theorem jO.kept {sb : Nat → Nat} {A : Nat → Prop} {U : State} {H H1 : Heap} (h : jO sb A U H) (hq : ∀ a : Nat, a < H.size → ¬ A a → H1[a]? = H[a]?) : jO sb A U H1 := by
  obtain ⟨h1, h2, h3, h4, h5, h6⟩ := h
  exact ⟨h1.kept hq, h2.kept hq, h3.kept hq, h4, h5.kept hq, h6.imp (fun q => q.kept hq) (fun q => q.kept hq)⟩
theorem jO.narrow {sb : Nat → Nat} {A B : Nat → Prop} {U : State} {H : Heap} (h : jO sb A U H) (hAB : ∀ q, B q → A q) : jO sb B U H := by
  obtain ⟨h1, h2, h3, h4, h5, h6⟩ := h
  exact ⟨h1.narrow hAB, h2.narrow hAB, h3.narrow hAB, h4, h5.narrow hAB, h6.imp (fun q => q.narrow hAB) (fun q => q.narrow hAB)⟩
end
-- 03.core.lean.txt
section
/-! THE ABSTRACT MACHINE: a heap is a list of cells (a reference is a place in it), a judgement J says of a frame over it what W says of the machine's. -/
/-- a cell: an array (its sort as a number; ints, longs, or references), or an object (its class as a number, its fields) -/
abbrev jEt : Type := (Nat × (List Int32 ⊕ (List Int64 ⊕ List (Option Nat)))) ⊕ (Nat × List Value)
abbrev jH : Type := List jEt
def jV (sb : Nat → Nat) (ad : Nat → Nat) (v : Value) : Value := match v with
  | .ref k => .ref (ad k)
  | .retAddr k => .ref (sb k)
  | v => v
def jE (sb : Nat → Nat) (dA ad : Nat → Nat) (e : jEt) : va_E := match e with
  | .inl (t, .inl xs) => .inl (dA t, xs.length, .inl (fun j => xs.getD j 0))
  | .inl (t, .inr (.inl xs)) => .inl (dA t, xs.length, .inr (.inl (fun j => xs.getD j 0)))
  | .inl (t, .inr (.inr rs)) => .inl (dA t, rs.length, .inr (.inr (.inr (.inr (fun j => (rs.getD j none).map ad)))))
  | .inr (ci, fs) => .inr (ci, fs.map (jV sb ad))
def jWs (sb : Nat → Nat) (dA ad : Nat → Nat) (h : jH) : va_W := h.mapIdx (fun k e => (ad k, jE sb dA ad e))
theorem jWs_at {sb : Nat → Nat} {dA ad : Nat → Nat} {h : jH} {k : Nat} : (jWs sb dA ad h)[k]? = (h[k]?).map (fun e => (ad k, jE sb dA ad e)) := by
  simp [jWs]
theorem jWs_get {sb : Nat → Nat} {dA ad : Nat → Nat} {h : jH} {k : Nat} {e : jEt} (he : h[k]? = some e) : (jWs sb dA ad h)[k]? = some (ad k, jE sb dA ad e) := by
  rw [jWs_at, he]; rfl
theorem jWs_set {sb : Nat → Nat} {dA ad : Nat → Nat} {h : jH} {k : Nat} {e : jEt} : (jWs sb dA ad h).set k (ad k, jE sb dA ad e) = jWs sb dA ad (h.set k e) := by
  apply List.ext_getElem?
  intro i
  rw [List.getElem?_set, jWs_at, jWs_at, List.getElem?_set]
  by_cases hk : k = i
  · subst hk
    by_cases hl : k < h.length
    · simp [jWs, hl]
    · simp [jWs, hl]
  · simp [hk]
theorem jV_cat (sb : Nat → Nat) (ad : Nat → Nat) (v : Value) : (jV sb ad v).category = v.category := by
  cases v <;> rfl
def jL (sb : Nat → Nat) (ad : Nat → Nat) (lv : List (Nat × Value)) : List (Nat × Value) := lv.map (fun q => (q.1, jV sb ad q.2))
def jTy (t : Nat) : FieldType := match t with
  | 0 => .int
  | 1 => .long
  | 2 => .byte
  | 3 => .boolean
  | 4 => .object RX5
  | _ => .object RX3
def jT (dA : Nat → Nat) : List (ClassId × FieldType) := [(dA 0, jTy 0), (dA 1, jTy 1), (dA 2, jTy 2), (dA 3, jTy 3), (dA 4, jTy 4), (dA 5, jTy 5)]
theorem jT_at {dA : Nat → Nat} {t : Nat} (ht : t < 6) : (jT dA)[t]? = some (dA t, jTy t) := by
  rcases (show t = 0 ∨ t = 1 ∨ t = 2 ∨ t = 3 ∨ t = 4 ∨ t = 5 by omega) with rfl | rfl | rfl | rfl | rfl | rfl <;> rfl
def jN (U : State) : Prop := va_AO RX5 U ∧ va_AO RX3 U ∧ va_Nw (.methodLinkNest RX6 17 yX4_init RX6) U ∧ va_Nw (.methodLinkNest RX6 30 yX0_init RX6) U ∧ va_Nw (.methodLinkNest RX6 66 yX3_init RX6) U
def jK (D : va_G) (dA : Nat → Nat) (U : State) : Prop := va_K D vwCl (jT dA) U ∧ jN U
theorem jK.moved {D : va_G} {dA : Nat → Nat} {u U : State} (hW : u.WarmedH U.vm) (h : jK D dA u) : jK D dA U :=
  ⟨va_K.moved hW.alike h.1, va_AO.moved hW.alike h.2.1, va_AO.moved hW.alike h.2.2.1, va_Nw.warmM hW h.2.2.2.1, va_Nw.warmM hW h.2.2.2.2.1, va_Nw.warmM hW h.2.2.2.2.2⟩
theorem jK.same {D : va_G} {dA : Nat → Nat} {u U : State} (hvm : u.vm = U.vm) (h : jK D dA u) : jK D dA U := by
  have ha : u.vm.Alike U.vm := by rw [hvm]; exact Vm.Alike.refl U.vm
  exact ⟨va_K.moved ha h.1, va_AO.moved ha h.2.1, va_AO.moved ha h.2.2.1, va_Nw.same rfl hvm h.2.2.2.1, va_Nw.same rfl hvm h.2.2.2.2.1, va_Nw.same rfl hvm h.2.2.2.2.2⟩
/-- what is fixed in a frame -/
def jFix (M : jM) (p : Program) (s : State) (m : MethodId) (args : Array Value) (meth : Method) (c : Code) (D : va_G) (dA : Nat → Nat) : Prop :=
  p.tables.exec = Jvm.exec ∧ c.code = M.2.2.1 ∧ c.maxLocals = M.2.2.2.1 ∧ s.vm.findClass M.2.1.cls = some m.cls ∧ (∀ w ∈ jG, w.before args s = true) ∧ jK D dA s ∧ meth.locks = false ∧ meth.sig.returnType = M.2.2.2.2.1 ∧ (M.2.1.name = "<init>" → meth.name = "<init>")
/-- the world: the abstract heap is the machine's, at the addresses ad -/
def jWd (D : va_G) (dA : Nat → Nat) (sb : Nat → Nat) (A : Nat → Prop) (H0 : Heap) (n0 : Nat) (ad0 ad : Nat → Nat) (CB : Nat) (h : jH) (H : Heap) (locs : List Loc) : Prop :=
  va_P D vwCl (jWs sb dA ad h) H ∧ va_D A (jWs sb dA ad h) ∧ va_S A H0 H locs ∧ n0 ≤ h.length ∧ (∀ i, i < n0 → ad i = ad0 i) ∧ (CB = 0 → ad = ad0)
def jSx (on : Bool) (L : Nat) (xs : Nat → Int32) (sb : Nat → Nat) (s : State) (H0 : Heap) (A : Nat → Prop) : Prop := (on = true → va_X (sb 0) L xs s H0 ∧ sb 0 < H0.size ∧ ¬ A (sb 0)) ∧ (jO sb A s H0 ∧ H0 = s.heap)
def jRi (M : jM) (pc : Nat) (v : Option Value) : Prop := match v with
  | none => decode M.2.2.1 pc = .ok (.return_, 1) ∧ M.2.2.2.2.1 = none
  | some (.int x) => decode M.2.2.1 pc = .ok (.ireturn, 1) ∧ ∃ ty, M.2.2.2.2.1 = some ty ∧ narrow ty (.int x) = .int x
  | some (.long _) => decode M.2.2.1 pc = .ok (.lreturn, 1) ∧ M.2.2.2.2.1 = some .long
  | _ => False
def jK0 : Nat := 40
def J (M : jM) (on : Bool) (L : Nat) (xs : Nat → Int32) (d kc ks pc : Nat) (lv : List (Nat × Value)) (st : List Value) (h : jH) (Q : Option Value → jH → Prop) : Prop :=
  ∀ (p : Program) (l : Launch) (e : Env) (R : Room) (s : State) (m : MethodId) (args : Array Value) (below : List Frame) (meth : Method) (c : Code) (D : va_G) (dA : Nat → Nat) (sb : Nat → Nat) (A : Nat → Prop) (H0 : Heap) (n0 : Nat) (ad0 : Nat → Nat) (CB SB : Nat) (QQ : State → Prop),
    jFix M p s m args meth c D dA → jSx on L xs sb s H0 A → (∀ q, H0.size ≤ q → A q) → (d ≤ R.frames ∧ d * jK0 ≤ R.locals ∧ CB ≤ R.cells ∧ SB ≤ R.slots) →
    (∀ (v : Option Value) (h' : jH) (ad' : Nat → Nat) (H' : Heap) (locs' : List Loc) (cells' slots' pc' : Nat) (ls' : Array Slot), Q v h' → jWd D dA sb A H0 n0 ad0 ad' CB h' H' locs' → cells' ≤ CB → slots' ≤ SB → jRi M pc' v →
      W p l e R s m args below meth c H' locs' cells' slots' QQ (F0 m pc' ls' (v.toList.map (jV sb ad')))) →
    ∀ (ad : Nat → Nat) (H : Heap) (locs : List Loc) (cells slots : Nat) (ls : Array Slot), jWd D dA sb A H0 n0 ad0 ad CB h H locs → lv_has ls M.2.2.2.1 (jL sb ad lv) → cells + kc ≤ CB → slots + ks ≤ SB →
      W p l e R s m args below meth c H locs cells slots QQ (F0 m pc ls (st.map (jV sb ad)))
section JROWS
variable {M : jM} {on : Bool} {L : Nat} {xs : Nat → Int32} {d kc ks pc pc' : Nat} {lv lv' : List (Nat × Value)} {st st' : List Value} {h : jH} {Q Q' : Option Value → jH → Prop}
theorem J.mono (hq : ∀ v h, Q v h → Q' v h) (k : J M on L xs d kc ks pc lv st h Q) : J M on L xs d kc ks pc lv st h Q' :=
  fun p l e R s m args below meth c D dA sb A H0 n0 ad0 CB SB QQ hF hX hA hR hT => k p l e R s m args below meth c D dA sb A H0 n0 ad0 CB SB QQ hF hX hA hR (fun v h' ad' H' locs' cells' slots' pc' ls' q => hT v h' ad' H' locs' cells' slots' pc' ls' (hq v h' q))
/-- less room is asked -/
theorem J.room {d' kc' ks' : Nat} (h1 : d' ≤ d) (h2 : kc' ≤ kc) (h3 : ks' ≤ ks) (k : J M on L xs d' kc' ks' pc lv st h Q) : J M on L xs d kc ks pc lv st h Q :=
  fun p l e R s m args below meth c D dA sb A H0 n0 ad0 CB SB QQ hF hX hA hR hT ad H locs cells slots ls hw hl h4 h5 =>
    k p l e R s m args below meth c D dA sb A H0 n0 ad0 CB SB QQ hF hX hA ⟨Nat.le_trans h1 hR.1, Nat.le_trans (Nat.mul_le_mul_right _ h1) hR.2.1, hR.2.2⟩ hT ad H locs cells slots ls hw hl (by omega) (by omega)
/-- fewer locals -/
theorem J.locals (hs : ∀ q ∈ lv', q ∈ lv) (k : J M on L xs d kc ks pc lv' st h Q) : J M on L xs d kc ks pc lv st h Q :=
  fun p l e R s m args below meth c D dA sb A H0 n0 ad0 CB SB QQ hF hX hA hR hT ad H locs cells slots ls hw hl h4 h5 =>
    k p l e R s m args below meth c D dA sb A H0 n0 ad0 CB SB QQ hF hX hA hR hT ad H locs cells slots ls hw ⟨hl.1, hl.2.1, fun q hq => by
      obtain ⟨r, hr, rfl⟩ := List.mem_map.mp hq
      exact hl.2.2 _ (List.mem_map.mpr ⟨r, hs r hr, rfl⟩)⟩ h4 h5
theorem J_st (hs : ∀ {p : Program} {l : Launch} {e : Env} {R : Room} {s : State} {m : MethodId} {args : Array Value} {below : List Frame} {meth : Method} {c : Code} {H : Heap} {locs : List Loc} {cells slots : Nat} {QQ : State → Prop} {sb : Nat → Nat} {ad : Nat → Nat} {ls : Array Slot},
      p.tables.exec = Jvm.exec → c.code = M.2.2.1 → s.vm.findClass M.2.1.cls = some m.cls → (∀ w ∈ jG, w.before args s = true) →
      W p l e R s m args below meth c H locs cells slots QQ (F0 m pc' ls (st'.map (jV sb ad))) → W p l e R s m args below meth c H locs cells slots QQ (F0 m pc ls (st.map (jV sb ad))))
    (k : J M on L xs d kc ks pc' lv st' h Q) : J M on L xs d kc ks pc lv st h Q :=
  fun p l e R s m args below meth c D dA sb A H0 n0 ad0 CB SB QQ hF hX hA hR hT ad H locs cells slots ls hw hl h4 h5 =>
    hs hF.1 hF.2.1 hF.2.2.2.1 hF.2.2.2.2.1 (k p l e R s m args below meth c D dA sb A H0 n0 ad0 CB SB QQ hF hX hA hR hT ad H locs cells slots ls hw hl h4 h5)
theorem J_lc (hs : ∀ {p : Program} {l : Launch} {e : Env} {R : Room} {s : State} {m : MethodId} {args : Array Value} {below : List Frame} {meth : Method} {c : Code} {H : Heap} {locs : List Loc} {cells slots : Nat} {QQ : State → Prop} {sb : Nat → Nat} {ad : Nat → Nat} {ls : Array Slot},
      p.tables.exec = Jvm.exec → c.code = M.2.2.1 → lv_has ls M.2.2.2.1 (jL sb ad lv) →
      (∀ ls', lv_has ls' M.2.2.2.1 (jL sb ad lv') → W p l e R s m args below meth c H locs cells slots QQ (F0 m pc' ls' (st'.map (jV sb ad)))) → W p l e R s m args below meth c H locs cells slots QQ (F0 m pc ls (st.map (jV sb ad))))
    (k : J M on L xs d kc ks pc' lv' st' h Q) : J M on L xs d kc ks pc lv st h Q :=
  fun p l e R s m args below meth c D dA sb A H0 n0 ad0 CB SB QQ hF hX hA hR hT ad H locs cells slots ls hw hl h4 h5 =>
    hs hF.1 hF.2.1 hl (fun ls' hl' => k p l e R s m args below meth c D dA sb A H0 n0 ad0 CB SB QQ hF hX hA hR hT ad H locs cells slots ls' hw hl' h4 h5)
theorem J_br {P : Prop} {tgt : Nat} (hs : ∀ {p : Program} {l : Launch} {e : Env} {R : Room} {s : State} {m : MethodId} {args : Array Value} {below : List Frame} {meth : Method} {c : Code} {H : Heap} {locs : List Loc} {cells slots : Nat} {QQ : State → Prop} {sb : Nat → Nat} {ad : Nat → Nat} {ls : Array Slot},
      p.tables.exec = Jvm.exec → c.code = M.2.2.1 →
      (P → W p l e R s m args below meth c H locs cells slots QQ (F0 m tgt ls (st'.map (jV sb ad)))) → (¬ P → W p l e R s m args below meth c H locs cells slots QQ (F0 m pc' ls (st'.map (jV sb ad)))) → W p l e R s m args below meth c H locs cells slots QQ (F0 m pc ls (st.map (jV sb ad))))
    (kt : P → J M on L xs d kc ks tgt lv st' h Q) (kf : ¬ P → J M on L xs d kc ks pc' lv st' h Q) : J M on L xs d kc ks pc lv st h Q :=
  fun p l e R s m args below meth c D dA sb A H0 n0 ad0 CB SB QQ hF hX hA hR hT ad H locs cells slots ls hw hl h4 h5 =>
    hs hF.1 hF.2.1 (fun hp => kt hp p l e R s m args below meth c D dA sb A H0 n0 ad0 CB SB QQ hF hX hA hR hT ad H locs cells slots ls hw hl h4 h5) (fun hp => kf hp p l e R s m args below meth c D dA sb A H0 n0 ad0 CB SB QQ hF hX hA hR hT ad H locs cells slots ls hw hl h4 h5)
theorem J_iconst {n : Int} {v : Int32} (hv : Int32.ofInt n = v) (hd : decode M.2.2.1 pc = .ok (.iconst n, 1)) (k : J M on L xs d kc ks (pc + 1) lv (.int v :: st) h Q) : J M on L xs d kc ks pc lv (st) h Q := J_st (fun hx hb hown hts k => lv_iconst hx hb hd hv k) k
theorem J_bipush {n : Int} {v : Int32} (hv : (Int8.ofInt n).toInt32 = v) (hd : decode M.2.2.1 pc = .ok (.bipush n, 2)) (k : J M on L xs d kc ks (pc + 2) lv (.int v :: st) h Q) : J M on L xs d kc ks pc lv (st) h Q := J_st (fun hx hb hown hts k => lv_bipush hx hb hd hv k) k
theorem J_sipush {n : Int} {v : Int32} (hv : (Int16.ofInt n).toInt32 = v) (hd : decode M.2.2.1 pc = .ok (.sipush n, 3)) (k : J M on L xs d kc ks (pc + 3) lv (.int v :: st) h Q) : J M on L xs d kc ks pc lv (st) h Q := J_st (fun hx hb hown hts k => lv_sipush hx hb hd hv k) k
theorem J_lconst {n : Fin 2} {v : Int64} (hv : Int64.ofNat (n : Nat) = v) (hd : decode M.2.2.1 pc = .ok (.lconst n, 1)) (k : J M on L xs d kc ks (pc + 1) lv (.long v :: st) h Q) : J M on L xs d kc ks pc lv (st) h Q := J_st (fun hx hb hown hts k => lv_lconst hx hb hd hv k) k
theorem J_iadd {x y : Int32} (hd : decode M.2.2.1 pc = .ok (.iadd, 1)) (k : J M on L xs d kc ks (pc + 1) lv (.int (x + y) :: st) h Q) : J M on L xs d kc ks pc lv (.int y :: .int x :: st) h Q := J_st (fun hx hb hown hts k => lv_iadd hx hb hd k) k
theorem J_isub {x y : Int32} (hd : decode M.2.2.1 pc = .ok (.isub, 1)) (k : J M on L xs d kc ks (pc + 1) lv (.int (x - y) :: st) h Q) : J M on L xs d kc ks pc lv (.int y :: .int x :: st) h Q := J_st (fun hx hb hown hts k => lv_isub hx hb hd k) k
theorem J_imul {x y : Int32} (hd : decode M.2.2.1 pc = .ok (.imul, 1)) (k : J M on L xs d kc ks (pc + 1) lv (.int (x * y) :: st) h Q) : J M on L xs d kc ks pc lv (.int y :: .int x :: st) h Q := J_st (fun hx hb hown hts k => lv_imul hx hb hd k) k
theorem J_iand {x y : Int32} (hd : decode M.2.2.1 pc = .ok (.iand, 1)) (k : J M on L xs d kc ks (pc + 1) lv (.int (x &&& y) :: st) h Q) : J M on L xs d kc ks pc lv (.int y :: .int x :: st) h Q := J_st (fun hx hb hown hts k => lv_iand hx hb hd k) k
theorem J_ior {x y : Int32} (hd : decode M.2.2.1 pc = .ok (.ior, 1)) (k : J M on L xs d kc ks (pc + 1) lv (.int (x ||| y) :: st) h Q) : J M on L xs d kc ks pc lv (.int y :: .int x :: st) h Q := J_st (fun hx hb hown hts k => lv_ior hx hb hd k) k
theorem J_ixor {x y : Int32} (hd : decode M.2.2.1 pc = .ok (.ixor, 1)) (k : J M on L xs d kc ks (pc + 1) lv (.int (x ^^^ y) :: st) h Q) : J M on L xs d kc ks pc lv (.int y :: .int x :: st) h Q := J_st (fun hx hb hown hts k => lv_ixor hx hb hd k) k
theorem J_ishl {x y : Int32} (hd : decode M.2.2.1 pc = .ok (.ishl, 1)) (k : J M on L xs d kc ks (pc + 1) lv (.int (x <<< (y &&& 31)) :: st) h Q) : J M on L xs d kc ks pc lv (.int y :: .int x :: st) h Q := J_st (fun hx hb hown hts k => lv_ishl hx hb hd k) k
theorem J_ishr {x y : Int32} (hd : decode M.2.2.1 pc = .ok (.ishr, 1)) (k : J M on L xs d kc ks (pc + 1) lv (.int (x >>> (y &&& 31)) :: st) h Q) : J M on L xs d kc ks pc lv (.int y :: .int x :: st) h Q := J_st (fun hx hb hown hts k => lv_ishr hx hb hd k) k
theorem J_idiv {x y : Int32} (hne : ¬ y = 0) (hd : decode M.2.2.1 pc = .ok (.idiv, 1)) (k : J M on L xs d kc ks (pc + 1) lv (.int (x / y) :: st) h Q) : J M on L xs d kc ks pc lv (.int y :: .int x :: st) h Q := J_st (fun hx hb hown hts k => lv_idiv hx hb hd hne k) k
theorem J_irem {x y : Int32} (hne : ¬ y = 0) (hd : decode M.2.2.1 pc = .ok (.irem, 1)) (k : J M on L xs d kc ks (pc + 1) lv (.int (x - x / y * y) :: st) h Q) : J M on L xs d kc ks pc lv (.int y :: .int x :: st) h Q := J_st (fun hx hb hown hts k => lv_irem hx hb hd hne k) k
theorem J_iushr {x y v : Int32} (hv : (x.toUInt32 >>> (y.toUInt32 &&& Int32.toUInt32 31)).toInt32 = v) (hd : decode M.2.2.1 pc = .ok (.iushr, 1)) (k : J M on L xs d kc ks (pc + 1) lv (.int v :: st) h Q) : J M on L xs d kc ks pc lv (.int y :: .int x :: st) h Q := J_st (fun hx hb hown hts k => lv_iushr hx hb hd hv k) k
theorem J_ineg {x : Int32} (hd : decode M.2.2.1 pc = .ok (.ineg, 1)) (k : J M on L xs d kc ks (pc + 1) lv (.int (-x) :: st) h Q) : J M on L xs d kc ks pc lv (.int x :: st) h Q := J_st (fun hx hb hown hts k => lv_ineg hx hb hd k) k
theorem J_land {x y : Int64} (hd : decode M.2.2.1 pc = .ok (.land, 1)) (k : J M on L xs d kc ks (pc + 1) lv (.long (x &&& y) :: st) h Q) : J M on L xs d kc ks pc lv (.long y :: .long x :: st) h Q := J_st (fun hx hb hown hts k => lv_land hx hb hd k) k
theorem J_lor {x y : Int64} (hd : decode M.2.2.1 pc = .ok (.lor, 1)) (k : J M on L xs d kc ks (pc + 1) lv (.long (x ||| y) :: st) h Q) : J M on L xs d kc ks pc lv (.long y :: .long x :: st) h Q := J_st (fun hx hb hown hts k => lv_lor hx hb hd k) k
theorem J_lshl {x v : Int64} {y : Int32} (hv : x <<< (y.toInt64 &&& 63) = v) (hd : decode M.2.2.1 pc = .ok (.lshl, 1)) (k : J M on L xs d kc ks (pc + 1) lv (.long v :: st) h Q) : J M on L xs d kc ks pc lv (.int y :: .long x :: st) h Q := J_st (fun hx hb hown hts k => lv_lshl hx hb hd hv k) k
theorem J_lcmp {x y : Int64} (hd : decode M.2.2.1 pc = .ok (.lcmp, 1)) (k : J M on L xs d kc ks (pc + 1) lv (.int (lg_cmp x y) :: st) h Q) : J M on L xs d kc ks pc lv (.long y :: .long x :: st) h Q := J_st (fun hx hb hown hts k => W.lcmp hx hb hd k) k
theorem J_i2l {x : Int32} (hd : decode M.2.2.1 pc = .ok (.i2l, 1)) (k : J M on L xs d kc ks (pc + 1) lv (.long x.toInt64 :: st) h Q) : J M on L xs d kc ks pc lv (.int x :: st) h Q := J_st (fun hx hb hown hts k => lv_i2l hx hb hd rfl k) k
theorem J_l2i {x : Int64} (hd : decode M.2.2.1 pc = .ok (.l2i, 1)) (k : J M on L xs d kc ks (pc + 1) lv (.int x.toInt32 :: st) h Q) : J M on L xs d kc ks pc lv (.long x :: st) h Q := J_st (fun hx hb hown hts k => lv_l2i hx hb hd rfl k) k
theorem J_i2b {x : Int32} (hd : decode M.2.2.1 pc = .ok (.i2b, 1)) (k : J M on L xs d kc ks (pc + 1) lv (.int x.toInt8.toInt32 :: st) h Q) : J M on L xs d kc ks pc lv (.int x :: st) h Q := J_st (fun hx hb hown hts k => lv_i2b hx hb hd rfl k) k
theorem J_i2s {x : Int32} (hd : decode M.2.2.1 pc = .ok (.i2s, 1)) (k : J M on L xs d kc ks (pc + 1) lv (.int x.toInt16.toInt32 :: st) h Q) : J M on L xs d kc ks pc lv (.int x :: st) h Q := J_st (fun hx hb hown hts k => lv_i2s hx hb hd rfl k) k
theorem J_dup {v : Value} (hc : v.category = 1) (hd : decode M.2.2.1 pc = .ok (.dup, 1)) (k : J M on L xs d kc ks (pc + 1) lv (v :: v :: st) h Q) : J M on L xs d kc ks pc lv (v :: st) h Q := J_st (fun hx hb hown hts k => lv_dup hx hb hd (by rw [jV_cat]; exact hc) k) k
theorem J_pop {v : Value} (hc : v.category = 1) (hd : decode M.2.2.1 pc = .ok (.pop, 1)) (k : J M on L xs d kc ks (pc + 1) lv (st) h Q) : J M on L xs d kc ks pc lv (v :: st) h Q := J_st (fun hx hb hown hts k => lv_pop hx hb hd (by rw [jV_cat]; exact hc) k) k
theorem J_dup2 {v w : Value} (hc : v.category = 1) (hw : w.category = 1) (hd : decode M.2.2.1 pc = .ok (.dup2, 1)) (k : J M on L xs d kc ks (pc + 1) lv (v :: w :: v :: w :: st) h Q) : J M on L xs d kc ks pc lv (v :: w :: st) h Q := J_st (fun hx hb hown hts k => lv_dup2_11 hx hb hd (by rw [jV_cat]; exact hc) (by rw [jV_cat]; exact hw) k) k
theorem J_null (hd : decode M.2.2.1 pc = .ok (.aconst_null, 1)) (k : J M on L xs d kc ks (pc + 1) lv (.null :: st) h Q) : J M on L xs d kc ks pc lv (st) h Q := J_st (fun hx hb hown hts k => lv_null hx hb hd k) k
theorem J_ldc {i : Nat} {v : Int32} (hw : Cond.constant M.2.1.cls i v ∈ jG) (hd : decode M.2.2.1 pc = .ok (.ldc i, 2)) (k : J M on L xs d kc ks (pc + 2) lv (.int v :: st) h Q) : J M on L xs d kc ks pc lv (st) h Q := J_st (fun hx hb hown hts k => lv_ldc hx hb hown (hts _ hw) hd k) k
theorem J_ldcw {i : Nat} {v : Int32} (hw : Cond.constant M.2.1.cls i v ∈ jG) (hd : decode M.2.2.1 pc = .ok (.ldc_w i, 3)) (k : J M on L xs d kc ks (pc + 3) lv (.int v :: st) h Q) : J M on L xs d kc ks pc lv (st) h Q := J_st (fun hx hb hown hts k => lv_ldcw hx hb hown (hts _ hw) hd k) k
theorem J_ldc2 {i : Nat} {v : Int64} (hw : Cond.constantLong M.2.1.cls i v ∈ jG) (hd : decode M.2.2.1 pc = .ok (.ldc2_w i, 3)) (k : J M on L xs d kc ks (pc + 3) lv (.long v :: st) h Q) : J M on L xs d kc ks pc lv (st) h Q := J_st (fun hx hb hown hts k => lv_ldc2 hx hb hown (hts _ hw) hd k) k
theorem J_goto {off : Int} {tgt : Nat} (ht : (pc : Int) + off = (tgt : Int)) (hd : decode M.2.2.1 pc = .ok (.goto off, 3)) (k : J M on L xs d kc ks tgt lv st h Q) : J M on L xs d kc ks pc lv st h Q := J_st (fun hx hb hown hts k => lv_goto hx hb hd ht k) k
def jC (c : Jvm.ClassFile.Cond) (x y : Int32) : Prop := match c with
  | .eq => x = y
  | .ne => ¬ x = y
  | .lt => x < y
  | .ge => y ≤ x
  | .gt => y < x
  | .le => x ≤ y
theorem J_if_eq {x : Int32} {off : Int} {tgt : Nat} (ht : (pc : Int) + off = (tgt : Int)) (hd : decode M.2.2.1 pc = .ok (.ifCond .eq off, 3)) (kt : jC .eq x 0 → J M on L xs d kc ks tgt lv st h Q) (kf : ¬ jC .eq x 0 → J M on L xs d kc ks (pc + 3) lv st h Q) : J M on L xs d kc ks pc lv (.int x :: st) h Q := J_br (fun hx hb kt kf => lv_if_eq hx hb hd ht kt kf) kt kf
theorem J_icmp_eq {x y : Int32} {off : Int} {tgt : Nat} (ht : (pc : Int) + off = (tgt : Int)) (hd : decode M.2.2.1 pc = .ok (.if_icmp .eq off, 3)) (kt : jC .eq x y → J M on L xs d kc ks tgt lv st h Q) (kf : ¬ jC .eq x y → J M on L xs d kc ks (pc + 3) lv st h Q) : J M on L xs d kc ks pc lv (.int y :: .int x :: st) h Q := J_br (fun hx hb kt kf => lv_icmp_eq hx hb hd ht kt kf) kt kf
theorem J_if_ne {x : Int32} {off : Int} {tgt : Nat} (ht : (pc : Int) + off = (tgt : Int)) (hd : decode M.2.2.1 pc = .ok (.ifCond .ne off, 3)) (kt : jC .ne x 0 → J M on L xs d kc ks tgt lv st h Q) (kf : ¬ jC .ne x 0 → J M on L xs d kc ks (pc + 3) lv st h Q) : J M on L xs d kc ks pc lv (.int x :: st) h Q := J_br (fun hx hb kt kf => lv_if_ne hx hb hd ht kt (fun e => kf (fun q => q e))) kt kf
theorem J_icmp_ne {x y : Int32} {off : Int} {tgt : Nat} (ht : (pc : Int) + off = (tgt : Int)) (hd : decode M.2.2.1 pc = .ok (.if_icmp .ne off, 3)) (kt : jC .ne x y → J M on L xs d kc ks tgt lv st h Q) (kf : ¬ jC .ne x y → J M on L xs d kc ks (pc + 3) lv st h Q) : J M on L xs d kc ks pc lv (.int y :: .int x :: st) h Q := J_br (fun hx hb kt kf => lv_icmp_ne hx hb hd ht kt (fun e => kf (fun q => q e))) kt kf
theorem J_if_lt {x : Int32} {off : Int} {tgt : Nat} (ht : (pc : Int) + off = (tgt : Int)) (hd : decode M.2.2.1 pc = .ok (.ifCond .lt off, 3)) (kt : jC .lt x 0 → J M on L xs d kc ks tgt lv st h Q) (kf : ¬ jC .lt x 0 → J M on L xs d kc ks (pc + 3) lv st h Q) : J M on L xs d kc ks pc lv (.int x :: st) h Q := J_br (fun hx hb kt kf => lv_if_lt hx hb hd ht kt kf) kt kf
theorem J_icmp_lt {x y : Int32} {off : Int} {tgt : Nat} (ht : (pc : Int) + off = (tgt : Int)) (hd : decode M.2.2.1 pc = .ok (.if_icmp .lt off, 3)) (kt : jC .lt x y → J M on L xs d kc ks tgt lv st h Q) (kf : ¬ jC .lt x y → J M on L xs d kc ks (pc + 3) lv st h Q) : J M on L xs d kc ks pc lv (.int y :: .int x :: st) h Q := J_br (fun hx hb kt kf => lv_icmp_lt hx hb hd ht kt kf) kt kf
theorem J_if_ge {x : Int32} {off : Int} {tgt : Nat} (ht : (pc : Int) + off = (tgt : Int)) (hd : decode M.2.2.1 pc = .ok (.ifCond .ge off, 3)) (kt : jC .ge x 0 → J M on L xs d kc ks tgt lv st h Q) (kf : ¬ jC .ge x 0 → J M on L xs d kc ks (pc + 3) lv st h Q) : J M on L xs d kc ks pc lv (.int x :: st) h Q := J_br (fun hx hb kt kf => lv_if_ge hx hb hd ht kt kf) kt kf
theorem J_icmp_ge {x y : Int32} {off : Int} {tgt : Nat} (ht : (pc : Int) + off = (tgt : Int)) (hd : decode M.2.2.1 pc = .ok (.if_icmp .ge off, 3)) (kt : jC .ge x y → J M on L xs d kc ks tgt lv st h Q) (kf : ¬ jC .ge x y → J M on L xs d kc ks (pc + 3) lv st h Q) : J M on L xs d kc ks pc lv (.int y :: .int x :: st) h Q := J_br (fun hx hb kt kf => lv_icmp_ge hx hb hd ht kt kf) kt kf
theorem J_if_gt {x : Int32} {off : Int} {tgt : Nat} (ht : (pc : Int) + off = (tgt : Int)) (hd : decode M.2.2.1 pc = .ok (.ifCond .gt off, 3)) (kt : jC .gt x 0 → J M on L xs d kc ks tgt lv st h Q) (kf : ¬ jC .gt x 0 → J M on L xs d kc ks (pc + 3) lv st h Q) : J M on L xs d kc ks pc lv (.int x :: st) h Q := J_br (fun hx hb kt kf => lv_if_gt hx hb hd ht kt kf) kt kf
theorem J_icmp_gt {x y : Int32} {off : Int} {tgt : Nat} (ht : (pc : Int) + off = (tgt : Int)) (hd : decode M.2.2.1 pc = .ok (.if_icmp .gt off, 3)) (kt : jC .gt x y → J M on L xs d kc ks tgt lv st h Q) (kf : ¬ jC .gt x y → J M on L xs d kc ks (pc + 3) lv st h Q) : J M on L xs d kc ks pc lv (.int y :: .int x :: st) h Q := J_br (fun hx hb kt kf => lv_icmp_gt hx hb hd ht kt kf) kt kf
theorem J_if_le {x : Int32} {off : Int} {tgt : Nat} (ht : (pc : Int) + off = (tgt : Int)) (hd : decode M.2.2.1 pc = .ok (.ifCond .le off, 3)) (kt : jC .le x 0 → J M on L xs d kc ks tgt lv st h Q) (kf : ¬ jC .le x 0 → J M on L xs d kc ks (pc + 3) lv st h Q) : J M on L xs d kc ks pc lv (.int x :: st) h Q := J_br (fun hx hb kt kf => lv_if_le hx hb hd ht kt kf) kt kf
theorem J_icmp_le {x y : Int32} {off : Int} {tgt : Nat} (ht : (pc : Int) + off = (tgt : Int)) (hd : decode M.2.2.1 pc = .ok (.if_icmp .le off, 3)) (kt : jC .le x y → J M on L xs d kc ks tgt lv st h Q) (kf : ¬ jC .le x y → J M on L xs d kc ks (pc + 3) lv st h Q) : J M on L xs d kc ks pc lv (.int y :: .int x :: st) h Q := J_br (fun hx hb kt kf => lv_icmp_le hx hb hd ht kt kf) kt kf
theorem J_tin {dflt lo hi : Int} {offs : Array Int} {len : Nat} {x : Int32} {off : Int} {tgt : Nat} (h1 : ¬ x.toInt < lo) (h2 : ¬ hi < x.toInt) (ho : offs[(x.toInt - lo).toNat]? = some off) (ht : (pc : Int) + off = (tgt : Int)) (hd : decode M.2.2.1 pc = .ok (.tableswitch dflt lo hi offs, len)) (k : J M on L xs d kc ks tgt lv st h Q) : J M on L xs d kc ks pc lv (.int x :: st) h Q := J_st (fun hx hb hown hts k => lv_tableIn hx hb hd h1 h2 ho ht k) k
theorem J_tout {dflt lo hi : Int} {offs : Array Int} {len : Nat} {x : Int32} {tgt : Nat} (h1 : x.toInt < lo ∨ hi < x.toInt) (ht : (pc : Int) + dflt = (tgt : Int)) (hd : decode M.2.2.1 pc = .ok (.tableswitch dflt lo hi offs, len)) (k : J M on L xs d kc ks tgt lv st h Q) : J M on L xs d kc ks pc lv (.int x :: st) h Q := J_st (fun hx hb hown hts k => lv_tableOut hx hb hd h1 ht k) k
theorem J_look {dflt : Int} {ps : Array (Int × Int)} {len : Nat} {x : Int32} {off : Int} {tgt : Nat} (hp : (ps.toList.zip (ps.toList.drop 1)).all (fun (a, next) => a.1 < next.1) = true) (ho : Op.lookupswitch.offset ps.toList dflt x.toInt = off) (ht : (pc : Int) + off = (tgt : Int)) (hd : decode M.2.2.1 pc = .ok (.lookupswitch dflt ps, len)) (k : J M on L xs d kc ks tgt lv st h Q) : J M on L xs d kc ks pc lv (.int x :: st) h Q := J_st (fun hx hb hown hts k => lv_lookup hx hb hd hp ho ht k) k
def jget (lv : List (Nat × Value)) (i : Nat) : Option Value := (lv.find? (fun q => q.1 == i)).map (fun q => q.2)
theorem jget_mem {lv : List (Nat × Value)} {i : Nat} {v : Value} (hg : jget lv i = some v) : (i, v) ∈ lv := by
  unfold jget at hg
  obtain ⟨q, hq, rfl⟩ := Option.map_eq_some_iff.mp hg
  have h1 := List.find?_some hq
  have h2 := List.mem_of_find?_eq_some hq
  have h3 : q.1 = i := by simpa using h1
  rw [← h3]
  exact h2
theorem jget_at {ls : Array Slot} {n i : Nat} {sb : Nat → Nat} {ad : Nat → Nat} {lv : List (Nat × Value)} {v : Value} (hl : lv_has ls n (jL sb ad lv)) (hg : jget lv i = some v) : ls[i]? = some (.val (jV sb ad v)) :=
  hl.2.2 (i, jV sb ad v) (List.mem_map.mpr ⟨(i, v), jget_mem hg, rfl⟩)
def jset (lv : List (Nat × Value)) (i : Nat) (v : Value) : List (Nat × Value) := (i, v) :: lv.filter (fun q => !(q.1 == i) && !(q.1 + 1 == i && q.2.category == 2))
def jset2 (lv : List (Nat × Value)) (i : Nat) (v : Value) : List (Nat × Value) := (i, v) :: lv.filter (fun q => !(q.1 == i) && (!(q.1 == i + 1) && !(q.1 + 1 == i && q.2.category == 2)))
theorem jset_eq {i : Nat} {sb : Nat → Nat} {ad : Nat → Nat} {lv : List (Nat × Value)} {v : Value} : (i, jV sb ad v) :: (jL sb ad lv).filter (fun q => !(q.1 == i) && !(q.1 + 1 == i && q.2.category == 2)) = jL sb ad (jset lv i v) := by
  simp only [jL, jset, List.map_cons, List.filter_map, Function.comp_def, jV_cat]
theorem jset2_eq {i : Nat} {sb : Nat → Nat} {ad : Nat → Nat} {lv : List (Nat × Value)} {v : Value} : (i, jV sb ad v) :: (jL sb ad lv).filter (fun q => !(q.1 == i) && (!(q.1 == i + 1) && !(q.1 + 1 == i && q.2.category == 2))) = jL sb ad (jset2 lv i v) := by
  simp only [jL, jset2, List.map_cons, List.filter_map, Function.comp_def, jV_cat]
theorem J_iload_n {i : Nat} {a : Fin 4} {x : Int32} (hi : (a : Nat) = i) (hg : jget lv i = some (.int x)) (hd : decode M.2.2.1 pc = .ok (.iload_n a, 1)) (k : J M on L xs d kc ks (pc + 1) lv (.int x :: st) h Q) : J M on L xs d kc ks pc lv st h Q := J_lc (fun hx hb hl k => lv_iload_n hx hb hd hi (jget_at hl hg) (k _ hl)) k
theorem J_iload {i : Nat} {x : Int32} (hg : jget lv i = some (.int x)) (hd : decode M.2.2.1 pc = .ok (.iload i, 2)) (k : J M on L xs d kc ks (pc + 2) lv (.int x :: st) h Q) : J M on L xs d kc ks pc lv st h Q := J_lc (fun hx hb hl k => lv_iload hx hb hd (jget_at hl hg) (k _ hl)) k
theorem J_lload_n {i : Nat} {a : Fin 4} {x : Int64} (hi : (a : Nat) = i) (hg : jget lv i = some (.long x)) (hd : decode M.2.2.1 pc = .ok (.lload_n a, 1)) (k : J M on L xs d kc ks (pc + 1) lv (.long x :: st) h Q) : J M on L xs d kc ks pc lv st h Q := J_lc (fun hx hb hl k => lv_lload_n hx hb hd hi (jget_at hl hg) (k _ hl)) k
theorem J_lload {i : Nat} {x : Int64} (hg : jget lv i = some (.long x)) (hd : decode M.2.2.1 pc = .ok (.lload i, 2)) (k : J M on L xs d kc ks (pc + 2) lv (.long x :: st) h Q) : J M on L xs d kc ks pc lv st h Q := J_lc (fun hx hb hl k => lv_lload hx hb hd (jget_at hl hg) (k _ hl)) k
theorem J_aload_n {i : Nat} {a : Fin 4} {x : Nat} (hi : (a : Nat) = i) (hg : jget lv i = some (.ref x)) (hd : decode M.2.2.1 pc = .ok (.aload_n a, 1)) (k : J M on L xs d kc ks (pc + 1) lv (.ref x :: st) h Q) : J M on L xs d kc ks pc lv st h Q := J_lc (fun hx hb hl k => lv_aload_n hx hb hd hi (jget_at hl hg) (k _ hl)) k
theorem J_aload {i : Nat} {x : Nat} (hg : jget lv i = some (.ref x)) (hd : decode M.2.2.1 pc = .ok (.aload i, 2)) (k : J M on L xs d kc ks (pc + 2) lv (.ref x :: st) h Q) : J M on L xs d kc ks pc lv st h Q := J_lc (fun hx hb hl k => lv_aload hx hb hd (jget_at hl hg) (k _ hl)) k
theorem J_sload_n {i z : Nat} {a : Fin 4} (hi : (a : Nat) = i) (hg : jget lv i = some (.retAddr z)) (hd : decode M.2.2.1 pc = .ok (.aload_n a, 1)) (k : J M on L xs d kc ks (pc + 1) lv (.retAddr z :: st) h Q) : J M on L xs d kc ks pc lv st h Q := J_lc (fun hx hb hl k => lv_aload_n hx hb hd hi (jget_at hl hg) (k _ hl)) k
theorem J_nload_n {i : Nat} {a : Fin 4} (hi : (a : Nat) = i) (hg : jget lv i = some (.null)) (hd : decode M.2.2.1 pc = .ok (.aload_n a, 1)) (k : J M on L xs d kc ks (pc + 1) lv (.null :: st) h Q) : J M on L xs d kc ks pc lv st h Q := J_lc (fun hx hb hl k => lv_aload_nN hx hb hd hi (jget_at hl hg) (k _ hl)) k
theorem J_nload {i : Nat} (hg : jget lv i = some (.null)) (hd : decode M.2.2.1 pc = .ok (.aload i, 2)) (k : J M on L xs d kc ks (pc + 2) lv (.null :: st) h Q) : J M on L xs d kc ks pc lv st h Q := J_lc (fun hx hb hl k => lv_aloadN hx hb hd (jget_at hl hg) (k _ hl)) k
theorem J_istore_n {i : Nat} {a : Fin 4} {x : Int32} (hi : (a : Nat) = i) (hn : i < M.2.2.2.1) (hd : decode M.2.2.1 pc = .ok (.istore_n a, 1)) (k : J M on L xs d kc ks (pc + 1) (jset lv i (.int x)) st h Q) : J M on L xs d kc ks pc lv (.int x :: st) h Q := J_lc (fun hx hb hl k => lv_istore_n hx hb hd hi hl hn (jset_eq (v := .int x)) (fun ls hl => k ls hl)) k
theorem J_istore {i : Nat} {x : Int32} (hn : i < M.2.2.2.1) (hd : decode M.2.2.1 pc = .ok (.istore i, 2)) (k : J M on L xs d kc ks (pc + 2) (jset lv i (.int x)) st h Q) : J M on L xs d kc ks pc lv (.int x :: st) h Q := J_lc (fun hx hb hl k => lv_istore hx hb hd hl hn (jset_eq (v := .int x)) (fun ls hl => k ls hl)) k
theorem J_lstore_n {i : Nat} {a : Fin 4} {x : Int64} (hi : (a : Nat) = i) (hn : i + 1 < M.2.2.2.1) (hd : decode M.2.2.1 pc = .ok (.lstore_n a, 1)) (k : J M on L xs d kc ks (pc + 1) (jset2 lv i (.long x)) st h Q) : J M on L xs d kc ks pc lv (.long x :: st) h Q := J_lc (fun hx hb hl k => lv_lstore_n hx hb hd hi hl hn (jset2_eq (v := .long x)) (fun ls hl => k ls hl)) k
theorem J_lstore {i : Nat} {x : Int64} (hn : i + 1 < M.2.2.2.1) (hd : decode M.2.2.1 pc = .ok (.lstore i, 2)) (k : J M on L xs d kc ks (pc + 2) (jset2 lv i (.long x)) st h Q) : J M on L xs d kc ks pc lv (.long x :: st) h Q := J_lc (fun hx hb hl k => lv_lstore hx hb hd hl hn (jset2_eq (v := .long x)) (fun ls hl => k ls hl)) k
theorem J_astore_n {i : Nat} {a : Fin 4} {x : Nat} (hi : (a : Nat) = i) (hn : i < M.2.2.2.1) (hd : decode M.2.2.1 pc = .ok (.astore_n a, 1)) (k : J M on L xs d kc ks (pc + 1) (jset lv i (.ref x)) st h Q) : J M on L xs d kc ks pc lv (.ref x :: st) h Q := J_lc (fun hx hb hl k => lv_astore_n hx hb hd hi hl hn (jset_eq (v := .ref x)) (fun ls hl => k ls hl)) k
theorem J_astore {i : Nat} {x : Nat} (hn : i < M.2.2.2.1) (hd : decode M.2.2.1 pc = .ok (.astore i, 2)) (k : J M on L xs d kc ks (pc + 2) (jset lv i (.ref x)) st h Q) : J M on L xs d kc ks pc lv (.ref x :: st) h Q := J_lc (fun hx hb hl k => lv_astore hx hb hd hl hn (jset_eq (v := .ref x)) (fun ls hl => k ls hl)) k
theorem J_iinc {i : Nat} {n : Int} {x v : Int32} (hg : jget lv i = some (.int x)) (hv : x + Int32.ofInt n = v) (hn : i < M.2.2.2.1) (hd : decode M.2.2.1 pc = .ok (.iinc i n, 3)) (k : J M on L xs d kc ks (pc + 3) (jset lv i (.int v)) st h Q) : J M on L xs d kc ks pc lv st h Q :=
  J_lc (fun {_ _ _ _ _ _ _ _ _ _ _ _ _ _ _ sb ad _} hx hb hl k => by
    obtain ⟨j, hj⟩ := List.getElem?_of_mem (List.mem_map.mpr ⟨(i, Value.int x), jget_mem hg, rfl⟩ : (i, jV sb ad (Value.int x)) ∈ jL sb ad lv)
    exact lv_iinc hx hb hd hl hj hv hn (jset_eq (v := .int v)) (fun ls hl => k ls hl)) k
-- fields
def jty (ci : Nat) : Nat → FieldType := match ci with
  | 0 => tyX0
  | 1 => tyX1
  | 2 => tyX2
  | 3 => tyX3
  | 4 => tyX4
  | 5 => tyX5
  | 6 => tyX6
  | _ => tyX7
def jClOk (ci : Nat) (q : vw_C) : Prop := (∀ w ∈ u_ws q.1 q.2.1 q.2.2, w ∈ jG) ∧ (∀ k, k < q.2.2 → parseFieldDescriptor (q.2.1 k).2.2.1 = some (jty ci k)) ∧ (∀ a, a < q.2.2 → ∀ b, b < q.2.2 → a ≠ b → (q.2.1 a).2.1 ≠ (q.2.1 b).2.1)
theorem jCl_ok {ci : Nat} {q : vw_C} (hc : vwCl[ci]? = some q) : jClOk ci q := by
  match ci, hc with
  | 0, hc => cases hc; exact ⟨jin0, tyX0_ok, nmX0⟩
  | 1, hc => cases hc; exact ⟨jin1, tyX1_ok, nmX1⟩
  | 2, hc => cases hc; exact ⟨jin2, tyX2_ok, nmX2⟩
  | 3, hc => cases hc; exact ⟨jin3, tyX3_ok, nmX3⟩
  | 4, hc => cases hc; exact ⟨jin4, tyX4_ok, nmX4⟩
  | 5, hc => cases hc; exact ⟨jin5, tyX5_ok, nmX5⟩
  | 6, hc => cases hc; exact ⟨jin6, tyX6_ok, nmX6⟩
  | 7, hc => cases hc; exact ⟨jin7, tyX7_ok, nmX7⟩
  | n + 8, hc => simp [vwCl] at hc
theorem J_getf {idx ci k a : Nat} {fs : List Value} {v : Value} (hf : jFl M.2.1.cls idx ci k) (he : h[a]? = some (.inr (ci, fs))) (hv : fs[k]? = some v) (hd : decode M.2.2.1 pc = .ok (.getfield idx, 3)) (k' : J M on L xs d kc ks (pc + 3) lv (v :: st) h Q) : J M on L xs d kc ks pc lv (.ref a :: st) h Q := by
  obtain ⟨q, hq, hk, hl⟩ := hf
  obtain ⟨h1, h2, h3⟩ := jCl_ok hq
  intro p l e R s m args below meth c D dA sb A H0 n0 ad0 CB SB QQ hF hX hA hR hT ad H locs cells slots ls hw hls h4 h5
  have hkk := k' p l e R s m args below meth c D dA sb A H0 n0 ad0 CB SB QQ hF hX hA hR hT ad H locs cells slots ls hw hls h4 h5
  exact va_get (D := D) (ci := ci) (v := jV sb ad v) (C := q.1) (T := q.2.1) (N := q.2.2) hF.1 hF.2.1 hF.2.2.2.2.1 h1 hF.2.2.2.1 hF.2.2.2.2.2.1.1 hw.1 a (jWs_get he) hq k hk (hF.2.2.2.2.1 _ hl) (fun _ h9 => h9) (by rw [List.getElem?_map, hv]; rfl) hd hkk
/-- what a field of a type may hold -/
def jFit (ty : FieldType) (v : Value) : Prop := match ty, v with
  | .int, .int _ => True
  | .boolean, .int x => x = 0 ∨ x = 1
  | .object _, .ref _ => True
  | .array _, .ref _ => True
  | _, _ => False
theorem jFit_ok {ty : FieldType} {v : Value} {sb : Nat → Nat} {ad : Nat → Nat} (hv : jFit ty v) : narrow ty (jV sb ad v) = jV sb ad v ∧ fits ty (jV sb ad v) = true := by
  cases ty <;> cases v <;> first | exact hv.elim | exact ⟨rfl, rfl⟩ | (rcases hv with rfl | rfl <;> exact ⟨rfl, rfl⟩)
theorem jWs_put {a ci k : Nat} {sb : Nat → Nat} {dA ad : Nat → Nat} {fs : List Value} {v : Value} : (jWs sb dA ad h).set a (ad a, .inr (ci, (fs.map (jV sb ad)).set k (jV sb ad v))) = jWs sb dA ad (h.set a (.inr (ci, fs.set k v))) := by
  rw [← jWs_set]
  show _ = (jWs sb dA ad h).set a (ad a, .inr (ci, (fs.set k v).map (jV sb ad)))
  rw [List.map_set]
theorem J_putf {idx ci k a : Nat} {fs : List Value} {v : Value} (hf : jFl M.2.1.cls idx ci k) (he : h[a]? = some (.inr (ci, fs))) (hfin : ∀ q, vwCl[ci]? = some q → (q.2.1 k).2.2.2 = false) (hv : jFit (jty ci k) v) (hlen : k < fs.length) (hd : decode M.2.2.1 pc = .ok (.putfield idx, 3)) (k' : J M on L xs d kc ks (pc + 3) lv st (h.set a (.inr (ci, fs.set k v))) Q) : J M on L xs d kc ks pc lv (v :: .ref a :: st) h Q := by
  obtain ⟨q, hq, hk, hl⟩ := hf
  obtain ⟨h1, h2, h3⟩ := jCl_ok hq
  intro p l e R s m args below meth c D dA sb A H0 n0 ad0 CB SB QQ hF hX hA hR hT ad H locs cells slots ls hw hls h4 h5
  obtain ⟨w1, w2, w3, w4, w5, w6⟩ := hw
  obtain ⟨g1, g2⟩ := jFit_ok (sb := sb) (ad := ad) hv
  refine va_put (D := D) (ci := ci) (v := jV sb ad v) (ty := jty ci k) (C := q.1) (T := q.2.1) (N := q.2.2) hF.1 hF.2.1 hF.2.2.2.2.1 h1 (jty ci) h2 h3 hF.2.2.2.1 hF.2.2.2.2.2.1.1 w1 w2 w3 a (jWs_get he) hq k hk (hF.2.2.2.2.1 _ hl) (fun _ h9 => h9) (hfin q hq) (h2 k hk) g1 g2 (by simpa using hlen) hd (fun H1 locs1 x1 x2 x3 => ?_)
  rw [jWs_put] at x1 x2
  exact k' p l e R s m args below meth c D dA sb A H0 n0 ad0 CB SB QQ hF hX hA hR hT ad H1 locs1 cells slots ls ⟨x1, x2, x3, by simpa using w4, w5, w6⟩ hls h4 h5
/-- a final field, in a constructor of its class -/
theorem J_putF {idx ci k a : Nat} {fs : List Value} {v : Value} (hf : jFl M.2.1.cls idx ci k) (hin : M.2.1.name = "<init>") (hown : ∀ q, vwCl[ci]? = some q → (q.2.1 k).1 = M.2.1.cls) (he : h[a]? = some (.inr (ci, fs))) (hfin : ∀ q, vwCl[ci]? = some q → (q.2.1 k).2.2.2 = true) (hv : jFit (jty ci k) v) (hlen : k < fs.length) (hd : decode M.2.2.1 pc = .ok (.putfield idx, 3)) (k' : J M on L xs d kc ks (pc + 3) lv st (h.set a (.inr (ci, fs.set k v))) Q) : J M on L xs d kc ks pc lv (v :: .ref a :: st) h Q := by
  obtain ⟨q, hq, hk, hl⟩ := hf
  obtain ⟨h1, h2, h3⟩ := jCl_ok hq
  intro p l e R s m args below meth c D dA sb A H0 n0 ad0 CB SB QQ hF hX hA hR hT ad H locs cells slots ls hw hls h4 h5
  obtain ⟨w1, w2, w3, w4, w5, w6⟩ := hw
  obtain ⟨g1, g2⟩ := jFit_ok (sb := sb) (ad := ad) hv
  have ho := hown q hq
  refine va_putF (D := D) (ci := ci) (v := jV sb ad v) (ty := jty ci k) (C := q.1) (T := q.2.1) (N := q.2.2) hF.1 hF.2.1 hF.2.2.2.2.1 h1 (jty ci) h2 h3 hF.2.2.2.1 hF.2.2.2.2.2.1.1 w1 w2 w3 a (jWs_get he) hq k hk (hF.2.2.2.2.1 _ hl) (fun _ h9 => h9) (hfin q hq) (hF.2.2.2.2.2.2.2.2 hin) ho (h2 k hk) g1 g2 (by simpa using hlen) hd (fun H1 locs1 x1 x2 x3 => ?_)
  rw [jWs_put] at x1 x2
  exact k' p l e R s m args below meth c D dA sb A H0 n0 ad0 CB SB QQ hF hX hA hR hT ad H1 locs1 cells slots ls ⟨x1, x2, x3, by simpa using w4, w5, w6⟩ hls h4 h5
-- new cells
def jwV (n : Nat) (v : Value) : Bool := match v with
  | .ref k => Nat.blt k n
  | _ => true
def jwE (n : Nat) (e : jEt) : Bool := match e with
  | .inl (_, .inr (.inr rs)) => rs.all (fun r => match r with | some k => Nat.blt k n | none => true)
  | .inl _ => true
  | .inr (_, fs) => fs.all (jwV n)
def jwF (n : Nat) (lv : List (Nat × Value)) (st : List Value) : Bool := lv.all (fun q => jwV n q.2) && st.all (jwV n)
def jwH (h : jH) : Bool := h.all (jwE h.length)
theorem jV_ext {n : Nat} {sb : Nat → Nat} {ad ad' : Nat → Nat} {v : Value} (hv : jwV n v = true) (ha : ∀ i, i < n → ad' i = ad i) : jV sb ad' v = jV sb ad v := by
  cases v <;> first | rfl | skip
  case ref k =>
    show Value.ref (ad' k) = Value.ref (ad k)
    rw [ha k (by simpa [jwV, Nat.blt_eq] using hv)]
theorem jVs_ext {n : Nat} {sb : Nat → Nat} {ad ad' : Nat → Nat} {vs : List Value} (hv : vs.all (jwV n) = true) (ha : ∀ i, i < n → ad' i = ad i) : vs.map (jV sb ad') = vs.map (jV sb ad) :=
  List.map_congr_left fun v hm => jV_ext (List.all_eq_true.mp hv v hm) ha
theorem jL_ext {n : Nat} {sb : Nat → Nat} {ad ad' : Nat → Nat} {lv : List (Nat × Value)} (hv : lv.all (fun q => jwV n q.2) = true) (ha : ∀ i, i < n → ad' i = ad i) : jL sb ad' lv = jL sb ad lv :=
  List.map_congr_left fun q hm => by rw [jV_ext (List.all_eq_true.mp hv q hm) ha]
theorem jE_ext {n : Nat} {sb : Nat → Nat} {dA ad ad' : Nat → Nat} {e : jEt} (he : jwE n e = true) (ha : ∀ i, i < n → ad' i = ad i) : jE sb dA ad' e = jE sb dA ad e := by
  match e, he with
  | .inl (t, .inl f), _ => rfl
  | .inl (t, .inr (.inl f)), _ => rfl
  | .inl (t, .inr (.inr rs)), he =>
    refine congrArg (fun z => (Sum.inl (dA t, rs.length, Sum.inr (Sum.inr (Sum.inr (Sum.inr z)))) : va_E)) (funext fun j => ?_)
    rw [List.getD_eq_getElem?_getD]
    cases hg : rs[j]? with
    | none => rfl
    | some r =>
      have h1 := List.all_eq_true.mp he r (List.mem_of_getElem? hg)
      cases r with
      | none => rfl
      | some k =>
        show some (ad' k) = some (ad k)
        rw [ha k (by simpa [Nat.blt_eq] using h1)]
  | .inr (ci, fs), he =>
    show (Sum.inr (ci, _) : va_E) = Sum.inr (ci, _)
    rw [jVs_ext he ha]
theorem jWs_ext {sb : Nat → Nat} {dA ad ad' : Nat → Nat} {h : jH} (hw : jwH h = true) (ha : ∀ i, i < h.length → ad' i = ad i) : jWs sb dA ad' h = jWs sb dA ad h := by
  apply List.ext_getElem?
  intro i
  rw [jWs_at, jWs_at]
  cases hi : h[i]? with
  | none => rfl
  | some e =>
    have hl : i < h.length := (List.getElem?_eq_some_iff.mp hi).1
    show some (ad' i, _) = some (ad i, _)
    rw [ha i hl, jE_ext (List.all_eq_true.mp hw e (List.mem_of_getElem? hi)) ha]
theorem jWs_push {q : Nat} {sb : Nat → Nat} {dA ad : Nat → Nat} {h : jH} {e : jEt} {x : va_E} (hw : jwH h = true) (hx : ∀ ad', jE sb dA ad' e = x) : jWs sb dA ad h ++ [(q, x)] = jWs sb dA (fun j => if j = h.length then q else ad j) (h ++ [e]) := by
  have h1 : jWs sb dA (fun j => if j = h.length then q else ad j) (h ++ [e]) = jWs sb dA (fun j => if j = h.length then q else ad j) h ++ [((if h.length = h.length then q else ad h.length), jE sb dA (fun j => if j = h.length then q else ad j) e)] := by
    simp [jWs, List.mapIdx_append]
  rw [h1, jWs_ext hw (fun i hi => if_neg (Nat.ne_of_lt hi)), if_pos rfl, hx]
theorem J_new {idx ci : Nat} {q : vw_C} {fs : List Value} (hq : vwCl[ci]? = some q) (hcl : Cond.classLink M.2.1.cls idx q.1 ∈ jG) (hi : Cond.instantiable q.1 q.2.2 ∈ jG) (hini : Cond.initialized q.1 ∈ jG) (hfs : ∀ j, j < q.2.2 → defaultValue (jty ci j) = vp_V fs j) (hnr : ∀ sb ad, fs.map (jV sb ad) = fs)
    (hwf : jwF h.length lv st = true) (hwh : jwH h = true) (hd : decode M.2.2.1 pc = .ok (.new idx, 3)) (k : J M on L xs d kc ks (pc + 3) lv (.ref h.length :: st) (h ++ [.inr (ci, fs)]) Q) : J M on L xs d (kc + 1) (ks + q.2.2) pc lv st h Q := by
  obtain ⟨h1, h2, h3⟩ := jCl_ok hq
  intro p l e R s m args below meth c D dA sb A H0 n0 ad0 CB SB QQ hF hX hA hR hT ad H locs cells slots ls hw hls h4 h5
  obtain ⟨w1, w2, w3, w4, w5, w6⟩ := hw
  have hwf' : lv.all (fun q => jwV h.length q.2) = true ∧ st.all (jwV h.length) = true := by
    unfold jwF at hwf
    exact Bool.and_eq_true_iff.mp hwf
  refine va_new (ci := ci) (fs := fs) (C := q.1) (T := q.2.1) (N := q.2.2) hF.1 hF.2.1 hF.2.2.2.2.1 h1 (jty ci) h2 hF.2.2.2.1 (hF.2.2.2.2.1 _ hcl) (hF.2.2.2.2.1 _ hi) (hF.2.2.2.2.1 _ hini) hF.2.2.2.2.2.1.1 w1 w2 w3 hA hq hfs (by have := hR.2.2.1; omega) (by have := hR.2.2.2; omega) hd (fun a H1 x1 x2 x3 => ?_)
  have ha : ∀ i, i < h.length → (fun j => if j = h.length then a else ad j) i = ad i := fun i hi => if_neg (Nat.ne_of_lt hi)
  rw [jWs_push (e := .inr (ci, fs)) hwh (fun ad' => by show (Sum.inr (ci, fs.map (jV sb ad')) : va_E) = _; rw [hnr])] at x1 x2
  have hk := k p l e R s m args below meth c D dA sb A H0 n0 ad0 CB SB QQ hF hX hA hR hT (fun j => if j = h.length then a else ad j) H1 locs (cells + 1) (slots + q.2.2) ls ⟨x1, x2, x3, by simp only [List.length_append]; omega, fun i hi => by rw [ha i (by omega)]; exact w5 i hi, fun z => by omega⟩ (by rw [jL_ext hwf'.1 ha]; exact hls) (by omega) (by omega)
  rw [List.map_cons, jVs_ext hwf'.2 ha] at hk
  have e1 : jV sb (fun j => if j = h.length then a else ad j) (.ref h.length) = .ref a := by show Value.ref (if h.length = h.length then a else ad h.length) = _; rw [if_pos rfl]
  rw [e1] at hk
  exact hk
theorem jT_cls {D : va_G} {dA : Nat → Nat} {s : State} {cA : ClassId} {t : Nat} (ht : t < 6) (hK : va_K D vwCl (jT dA) s) (h1 : va_K D vwCl (jT dA ++ [(cA, jTy t)]) s) : cA = dA t := by
  have a1 := (hK.2 t _ (jT_at ht)).2
  have a2 := (h1.2 6 (cA, jTy t) rfl).2
  rcases (show t = 0 ∨ t = 1 ∨ t = 2 ∨ t = 3 ∨ t = 4 ∨ t = 5 by omega) with rfl | rfl | rfl | rfl | rfl | rfl
  · exact Option.some.inj (a2.symm.trans a1)
  · exact Option.some.inj (a2.symm.trans a1)
  · exact Option.some.inj (a2.symm.trans a1)
  · exact Option.some.inj (a2.symm.trans a1)
  · obtain ⟨_, _, _, _, _, b1⟩ := a1
    obtain ⟨_, _, _, _, _, b2⟩ := a2
    exact Option.some.inj (b2.symm.trans b1)
  · obtain ⟨_, _, _, _, _, b1⟩ := a1
    obtain ⟨_, _, _, _, _, b2⟩ := a2
    exact Option.some.inj (b2.symm.trans b1)
/-- a new array of numbers -/
theorem J_newa {atype : ArrayType} {t N : Nat} {n : Int32} {a0 : vp_A} {e0 : List Int32 ⊕ (List Int64 ⊕ List (Option Nat))} (ht : t < 6) (hty : newarray.typeOf atype = jTy t) (har : Cond.arrayClass (newarray.typeOf atype) ∈ jG) (ha : ∀ cA : ClassId, vp_cell cA a0 = arrV cA N (fun _ => defaultValue (jTy t))) (hnr : ∀ sb dA ad, jE sb dA ad (.inl (t, e0)) = .inl (dA t, a0)) (hn : ¬ n < 0) (hN : n.toNatClampNeg = N) (hb : N * componentBytes (jTy t) ≤ 536870912)
    (hwf : jwF h.length lv st = true) (hwh : jwH h = true) (hd : decode M.2.2.1 pc = .ok (.newarray atype, 2)) (k : J M on L xs d kc ks (pc + 2) lv (.ref h.length :: st) (h ++ [.inl (t, e0)]) Q) : J M on L xs d (kc + 1) (ks + N) pc lv (.int n :: st) h Q := by
  intro p l e R s m args below meth c D dA sb A H0 n0 ad0 CB SB QQ hF hX hA hR hT ad H locs cells slots ls hw hls h4 h5
  obtain ⟨w1, w2, w3, w4, w5, w6⟩ := hw
  have hwf' : lv.all (fun q => jwV h.length q.2) = true ∧ st.all (jwV h.length) = true := by
    unfold jwF at hwf
    exact Bool.and_eq_true_iff.mp hwf
  refine va_newa (a0 := a0) (ty := jTy t) hF.1 hF.2.1 (hF.2.2.2.2.1 _ har) hty hF.2.2.2.2.2.1.1 w1 w2 w3 hA ha hn hN hb (by have := hR.2.2.1; omega) (by have := hR.2.2.2; omega) hd (fun a cA H1 x0 x1 x2 x3 => ?_)
  have hcA := jT_cls ht hF.2.2.2.2.2.1.1 x0
  subst hcA
  have hag : ∀ i, i < h.length → (fun j => if j = h.length then a else ad j) i = ad i := fun i hi => if_neg (Nat.ne_of_lt hi)
  rw [jWs_push (e := .inl (t, e0)) hwh (fun ad' => hnr sb dA ad')] at x1 x2
  have hk := k p l e R s m args below meth c D dA sb A H0 n0 ad0 CB SB QQ hF hX hA hR hT (fun j => if j = h.length then a else ad j) H1 locs (cells + 1) (slots + N) ls ⟨x1, x2, x3, by simp only [List.length_append]; omega, fun i hi => by rw [hag i (by omega)]; exact w5 i hi, fun z => by omega⟩ (by rw [jL_ext hwf'.1 hag]; exact hls) (by omega) (by omega)
  rw [List.map_cons, jVs_ext hwf'.2 hag] at hk
  have e1 : jV sb (fun j => if j = h.length then a else ad j) (.ref h.length) = .ref a := by show Value.ref (if h.length = h.length then a else ad h.length) = _; rw [if_pos rfl]
  rw [e1] at hk
  exact hk
/-- a new array of references -/
theorem J_newq {idx t N : Nat} {C : String} {n : Int32} (ht : t < 6) (hty : jTy t = .object C) (hao : ∀ s, jN s → va_AO C s) (hcl : Cond.classLink M.2.1.cls idx C ∈ jG) (hn : ¬ n < 0) (hN : n.toNatClampNeg = N) (hb : N * 4 ≤ 536870912)
    (hwf : jwF h.length lv st = true) (hwh : jwH h = true) (hd : decode M.2.2.1 pc = .ok (.anewarray idx, 3)) (k : J M on L xs d kc ks (pc + 3) lv (.ref h.length :: st) (h ++ [.inl (t, .inr (.inr (List.replicate N none)))]) Q) : J M on L xs d (kc + 1) (ks + N) pc lv (.int n :: st) h Q := by
  intro p l e R s m args below meth c D dA sb A H0 n0 ad0 CB SB QQ hF hX hA hR hT ad H locs cells slots ls hw hls h4 h5
  obtain ⟨w1, w2, w3, w4, w5, w6⟩ := hw
  have hwf' : lv.all (fun q => jwV h.length q.2) = true ∧ st.all (jwV h.length) = true := by
    unfold jwF at hwf
    exact Bool.and_eq_true_iff.mp hwf
  refine va_newq (C := C) hF.1 hF.2.1 hF.2.2.2.1 (hF.2.2.2.2.1 _ hcl) (hao _ hF.2.2.2.2.2.1.2) hF.2.2.2.2.2.1.1 w1 w2 w3 hA hn hN hb (by have := hR.2.2.1; omega) (by have := hR.2.2.2; omega) hd (fun a cA H1 x0 x1 x2 x3 => ?_)
  rw [← hty] at x0
  have hcA := jT_cls ht hF.2.2.2.2.2.1.1 x0
  subst hcA
  have hag : ∀ i, i < h.length → (fun j => if j = h.length then a else ad j) i = ad i := fun i hi => if_neg (Nat.ne_of_lt hi)
  rw [jWs_push (e := .inl (t, .inr (.inr (List.replicate N none)))) hwh (fun ad' => by show (Sum.inl (dA t, (List.replicate N (none : Option Nat)).length, _) : va_E) = Sum.inl (dA t, N, _); rw [List.length_replicate]; exact congrArg (fun z => (Sum.inl (dA t, N, Sum.inr (Sum.inr (Sum.inr (Sum.inr z)))) : va_E)) (funext fun j => by rw [List.getD_eq_getElem?_getD, List.getElem?_replicate]; split <;> rfl))] at x1 x2
  have hk := k p l e R s m args below meth c D dA sb A H0 n0 ad0 CB SB QQ hF hX hA hR hT (fun j => if j = h.length then a else ad j) H1 locs (cells + 1) (slots + N) ls ⟨x1, x2, x3, by simp only [List.length_append]; omega, fun i hi => by rw [hag i (by omega)]; exact w5 i hi, fun z => by omega⟩ (by rw [jL_ext hwf'.1 hag]; exact hls) (by omega) (by omega)
  rw [List.map_cons, jVs_ext hwf'.2 hag] at hk
  have e1 : jV sb (fun j => if j = h.length then a else ad j) (.ref h.length) = .ref a := by show Value.ref (if h.length = h.length then a else ad h.length) = _; rw [if_pos rfl]
  rw [e1] at hk
  exact hk
theorem jRep {α : Type} {N j : Nat} {x : α} : (List.replicate N x).getD j x = x := by
  rw [List.getD_eq_getElem?_getD, List.getElem?_replicate]; split <;> rfl
theorem J_newI {atype : ArrayType} {t N : Nat} {n : Int32} (ht : t = 0 ∨ t = 2 ∨ t = 3) (hty : newarray.typeOf atype = jTy t) (har : Cond.arrayClass (newarray.typeOf atype) ∈ jG) (hn : ¬ n < 0) (hN : n.toNatClampNeg = N) (hb : N * 8 ≤ 536870912)
    (hwf : jwF h.length lv st = true) (hwh : jwH h = true) (hd : decode M.2.2.1 pc = .ok (.newarray atype, 2)) (k : J M on L xs d kc ks (pc + 2) lv (.ref h.length :: st) (h ++ [.inl (t, .inl (List.replicate N 0))]) Q) : J M on L xs d (kc + 1) (ks + N) pc lv (.int n :: st) h Q := by
  refine J_newa (t := t) (a0 := (N, .inl (fun _ => 0))) (e0 := .inl (List.replicate N 0)) (by omega) hty har (fun cA => ?_) (fun sb dA ad => ?_) hn hN ?_ hwf hwh hd k
  · rcases ht with rfl | rfl | rfl <;> rfl
  · show (Sum.inl (dA t, (List.replicate N (0 : Int32)).length, _) : va_E) = Sum.inl (dA t, N, _)
    rw [List.length_replicate]
    exact congrArg (fun z => (Sum.inl (dA t, N, Sum.inl z) : va_E)) (funext fun j => jRep)
  · rcases ht with rfl | rfl | rfl <;> simp [jTy, componentBytes] <;> omega
theorem J_newL {N : Nat} {n : Int32} (hn : ¬ n < 0) (hN : n.toNatClampNeg = N) (hb : N * 8 ≤ 536870912)
    (hwf : jwF h.length lv st = true) (hwh : jwH h = true) (hd : decode M.2.2.1 pc = .ok (.newarray .long, 2)) (k : J M on L xs d kc ks (pc + 2) lv (.ref h.length :: st) (h ++ [.inl (1, .inr (.inl (List.replicate N 0)))]) Q) : J M on L xs d (kc + 1) (ks + N) pc lv (.int n :: st) h Q := by
  refine J_newa (atype := .long) (t := 1) (a0 := (N, .inr (.inl (fun _ => 0)))) (e0 := .inr (.inl (List.replicate N 0))) (by omega) rfl ar_long (fun cA => rfl) (fun sb dA ad => ?_) hn hN ?_ hwf hwh hd k
  · show (Sum.inl (dA 1, (List.replicate N (0 : Int64)).length, _) : va_E) = Sum.inl (dA 1, N, _)
    rw [List.length_replicate]
    exact congrArg (fun z => (Sum.inl (dA 1, N, Sum.inr (Sum.inl z)) : va_E)) (funext fun j => jRep)
  · simp [jTy, componentBytes]; omega
theorem J_iald {a : Nat} {xs' : List Int32} {i : Int32} {x : Int32} (he : h[a]? = some (.inl (0, .inl xs'))) (h0 : ¬ i < 0) (hx : xs'[i.toNatClampNeg]? = some x) (hd : decode M.2.2.1 pc = .ok (.iaload, 1)) (k : J M on L xs d kc ks (pc + 1) lv (.int x :: st) h Q) : J M on L xs d kc ks pc lv (.int i :: .ref a :: st) h Q := by
  intro p l e R s m args below meth c D dA sb A H0 n0 ad0 CB SB QQ hF hX hA hR hT ad H locs cells slots ls hw hls h4 h5
  have hlt : i.toNatClampNeg < xs'.length := (List.getElem?_eq_some_iff.mp hx).1
  refine va_iald hF.1 hF.2.1 hF.2.2.2.2.2.1.1 hw.1 a 0 (jWs_get he) (jT_at (by decide)) (fun q => q.elim h0 (fun q => Nat.not_lt.mpr q hlt)) hd ?_
  have e1 : xs'.getD i.toNatClampNeg 0 = x := by rw [List.getD_eq_getElem?_getD, hx]; rfl
  rw [e1]
  exact k p l e R s m args below meth c D dA sb A H0 n0 ad0 CB SB QQ hF hX hA hR hT ad H locs cells slots ls hw hls h4 h5
theorem J_bald {a : Nat} {xs' : List Int32} {i : Int32} {x : Int32} (he : h[a]? = some (.inl (2, .inl xs'))) (h0 : ¬ i < 0) (hx : xs'[i.toNatClampNeg]? = some x) (hd : decode M.2.2.1 pc = .ok (.baload, 1)) (k : J M on L xs d kc ks (pc + 1) lv (.int x :: st) h Q) : J M on L xs d kc ks pc lv (.int i :: .ref a :: st) h Q := by
  intro p l e R s m args below meth c D dA sb A H0 n0 ad0 CB SB QQ hF hX hA hR hT ad H locs cells slots ls hw hls h4 h5
  have hlt : i.toNatClampNeg < xs'.length := (List.getElem?_eq_some_iff.mp hx).1
  refine va_bald hF.1 hF.2.1 hF.2.2.2.2.2.1.1 hw.1 a 2 (jWs_get he) (jT_at (by decide)) (fun q => q.elim h0 (fun q => Nat.not_lt.mpr q hlt)) hd ?_
  have e1 : xs'.getD i.toNatClampNeg 0 = x := by rw [List.getD_eq_getElem?_getD, hx]; rfl
  rw [e1]
  exact k p l e R s m args below meth c D dA sb A H0 n0 ad0 CB SB QQ hF hX hA hR hT ad H locs cells slots ls hw hls h4 h5
theorem J_zald {a : Nat} {xs' : List Int32} {i : Int32} {x : Int32} (he : h[a]? = some (.inl (3, .inl xs'))) (h0 : ¬ i < 0) (hx : xs'[i.toNatClampNeg]? = some x) (hd : decode M.2.2.1 pc = .ok (.baload, 1)) (k : J M on L xs d kc ks (pc + 1) lv (.int x :: st) h Q) : J M on L xs d kc ks pc lv (.int i :: .ref a :: st) h Q := by
  intro p l e R s m args below meth c D dA sb A H0 n0 ad0 CB SB QQ hF hX hA hR hT ad H locs cells slots ls hw hls h4 h5
  have hlt : i.toNatClampNeg < xs'.length := (List.getElem?_eq_some_iff.mp hx).1
  refine va_zald hF.1 hF.2.1 hF.2.2.2.2.2.1.1 hw.1 a 3 (jWs_get he) (jT_at (by decide)) (fun q => q.elim h0 (fun q => Nat.not_lt.mpr q hlt)) hd ?_
  have e1 : xs'.getD i.toNatClampNeg 0 = x := by rw [List.getD_eq_getElem?_getD, hx]; rfl
  rw [e1]
  exact k p l e R s m args below meth c D dA sb A H0 n0 ad0 CB SB QQ hF hX hA hR hT ad H locs cells slots ls hw hls h4 h5
theorem J_lald {a : Nat} {xs' : List Int64} {i : Int32} {x : Int64} (he : h[a]? = some (.inl (1, .inr (.inl xs')))) (h0 : ¬ i < 0) (hx : xs'[i.toNatClampNeg]? = some x) (hd : decode M.2.2.1 pc = .ok (.laload, 1)) (k : J M on L xs d kc ks (pc + 1) lv (.long x :: st) h Q) : J M on L xs d kc ks pc lv (.int i :: .ref a :: st) h Q := by
  intro p l e R s m args below meth c D dA sb A H0 n0 ad0 CB SB QQ hF hX hA hR hT ad H locs cells slots ls hw hls h4 h5
  have hlt : i.toNatClampNeg < xs'.length := (List.getElem?_eq_some_iff.mp hx).1
  refine va_lald hF.1 hF.2.1 hF.2.2.2.2.2.1.1 hw.1 a 1 (jWs_get he) (jT_at (by decide)) (fun q => q.elim h0 (fun q => Nat.not_lt.mpr q hlt)) hd ?_
  have e1 : xs'.getD i.toNatClampNeg 0 = x := by rw [List.getD_eq_getElem?_getD, hx]; rfl
  rw [e1]
  exact k p l e R s m args below meth c D dA sb A H0 n0 ad0 CB SB QQ hF hX hA hR hT ad H locs cells slots ls hw hls h4 h5
theorem jUpd {xs : List Int32} {k : Nat} {x : Int32} (hk : k < xs.length) : upd (fun j => xs.getD j 0) k x = fun j => (xs.set k x).getD j 0 := by
  funext j
  rw [List.getD_eq_getElem?_getD, List.getElem?_set]
  by_cases hj : j = k
  · subst hj
    simp [upd, hk]
  · simp [upd, hj, Ne.symm hj]
theorem jUpdL {xs : List Int64} {k : Nat} {x : Int64} (hk : k < xs.length) : vp_updL (fun j => xs.getD j 0) k x = fun j => (xs.set k x).getD j 0 := by
  funext j
  rw [List.getD_eq_getElem?_getD, List.getElem?_set]
  by_cases hj : j = k
  · subst hj
    simp [vp_updL, hk]
  · simp [vp_updL, hj, Ne.symm hj]
theorem J_iast {a : Nat} {xs' : List Int32} {i : Int32} {x : Int32} (he : h[a]? = some (.inl (0, .inl xs'))) (h0 : ¬ i < 0) (hlt : i.toNatClampNeg < xs'.length) (hd : decode M.2.2.1 pc = .ok (.iastore, 1)) (k : J M on L xs d kc ks (pc + 1) lv st (h.set a (.inl (0, .inl (xs'.set i.toNatClampNeg x)))) Q) : J M on L xs d kc ks pc lv (.int x :: .int i :: .ref a :: st) h Q := by
  intro p l e R s m args below meth c D dA sb A H0 n0 ad0 CB SB QQ hF hX hA hR hT ad H locs cells slots ls hw hls h4 h5
  obtain ⟨w1, w2, w3, w4, w5, w6⟩ := hw
  refine va_iast hF.1 hF.2.1 hF.2.2.2.2.2.1.1 w1 w2 w3 a 0 (jWs_get he) (jT_at (by decide)) (fun q => q.elim h0 (fun q => Nat.not_lt.mpr q hlt)) hd (fun H1 locs1 x1 x2 x3 => ?_)
  have e1 : (jWs sb dA ad h).set a (ad a, jE sb dA ad (.inl (0, .inl (xs'.set i.toNatClampNeg x)))) = jWs sb dA ad (h.set a (.inl (0, .inl (xs'.set i.toNatClampNeg x)))) := jWs_set
  have e2 : jE sb dA ad (.inl (0, .inl (xs'.set i.toNatClampNeg x))) = .inl (dA 0, xs'.length, .inl (upd (fun j => xs'.getD j 0) i.toNatClampNeg x)) := by
    show (Sum.inl (dA 0, (xs'.set i.toNatClampNeg x).length, _) : va_E) = Sum.inl (dA 0, xs'.length, _)
    rw [List.length_set, jUpd hlt]
  rw [e2] at e1
  rw [e1] at x1 x2
  exact k p l e R s m args below meth c D dA sb A H0 n0 ad0 CB SB QQ hF hX hA hR hT ad H1 locs1 cells slots ls ⟨x1, x2, x3, by simpa using w4, w5, w6⟩ hls h4 h5
theorem J_bast {a : Nat} {xs' : List Int32} {i : Int32} {x : Int32} (he : h[a]? = some (.inl (2, .inl xs'))) (h0 : ¬ i < 0) (hlt : i.toNatClampNeg < xs'.length) (hd : decode M.2.2.1 pc = .ok (.bastore, 1)) (k : J M on L xs d kc ks (pc + 1) lv st (h.set a (.inl (2, .inl (xs'.set i.toNatClampNeg (vp_nar .byte x))))) Q) : J M on L xs d kc ks pc lv (.int x :: .int i :: .ref a :: st) h Q := by
  intro p l e R s m args below meth c D dA sb A H0 n0 ad0 CB SB QQ hF hX hA hR hT ad H locs cells slots ls hw hls h4 h5
  obtain ⟨w1, w2, w3, w4, w5, w6⟩ := hw
  refine va_bast hF.1 hF.2.1 hF.2.2.2.2.2.1.1 w1 w2 w3 a 2 (jWs_get he) (jT_at (by decide)) (fun q => q.elim h0 (fun q => Nat.not_lt.mpr q hlt)) hd (fun H1 locs1 x1 x2 x3 => ?_)
  have e1 : (jWs sb dA ad h).set a (ad a, jE sb dA ad (.inl (2, .inl (xs'.set i.toNatClampNeg (vp_nar .byte x))))) = jWs sb dA ad (h.set a (.inl (2, .inl (xs'.set i.toNatClampNeg (vp_nar .byte x))))) := jWs_set
  have e2 : jE sb dA ad (.inl (2, .inl (xs'.set i.toNatClampNeg (vp_nar .byte x)))) = .inl (dA 2, xs'.length, .inl (upd (fun j => xs'.getD j 0) i.toNatClampNeg (vp_nar .byte x))) := by
    show (Sum.inl (dA 2, (xs'.set i.toNatClampNeg (vp_nar .byte x)).length, _) : va_E) = Sum.inl (dA 2, xs'.length, _)
    rw [List.length_set, jUpd hlt]
  rw [e2] at e1
  rw [e1] at x1 x2
  exact k p l e R s m args below meth c D dA sb A H0 n0 ad0 CB SB QQ hF hX hA hR hT ad H1 locs1 cells slots ls ⟨x1, x2, x3, by simpa using w4, w5, w6⟩ hls h4 h5
theorem J_zast {a : Nat} {xs' : List Int32} {i : Int32} {x : Int32} (he : h[a]? = some (.inl (3, .inl xs'))) (h0 : ¬ i < 0) (hlt : i.toNatClampNeg < xs'.length) (hd : decode M.2.2.1 pc = .ok (.bastore, 1)) (k : J M on L xs d kc ks (pc + 1) lv st (h.set a (.inl (3, .inl (xs'.set i.toNatClampNeg (vp_nar .boolean x))))) Q) : J M on L xs d kc ks pc lv (.int x :: .int i :: .ref a :: st) h Q := by
  intro p l e R s m args below meth c D dA sb A H0 n0 ad0 CB SB QQ hF hX hA hR hT ad H locs cells slots ls hw hls h4 h5
  obtain ⟨w1, w2, w3, w4, w5, w6⟩ := hw
  refine va_zast hF.1 hF.2.1 hF.2.2.2.2.2.1.1 w1 w2 w3 a 3 (jWs_get he) (jT_at (by decide)) (fun q => q.elim h0 (fun q => Nat.not_lt.mpr q hlt)) hd (fun H1 locs1 x1 x2 x3 => ?_)
  have e1 : (jWs sb dA ad h).set a (ad a, jE sb dA ad (.inl (3, .inl (xs'.set i.toNatClampNeg (vp_nar .boolean x))))) = jWs sb dA ad (h.set a (.inl (3, .inl (xs'.set i.toNatClampNeg (vp_nar .boolean x))))) := jWs_set
  have e2 : jE sb dA ad (.inl (3, .inl (xs'.set i.toNatClampNeg (vp_nar .boolean x)))) = .inl (dA 3, xs'.length, .inl (upd (fun j => xs'.getD j 0) i.toNatClampNeg (vp_nar .boolean x))) := by
    show (Sum.inl (dA 3, (xs'.set i.toNatClampNeg (vp_nar .boolean x)).length, _) : va_E) = Sum.inl (dA 3, xs'.length, _)
    rw [List.length_set, jUpd hlt]
  rw [e2] at e1
  rw [e1] at x1 x2
  exact k p l e R s m args below meth c D dA sb A H0 n0 ad0 CB SB QQ hF hX hA hR hT ad H1 locs1 cells slots ls ⟨x1, x2, x3, by simpa using w4, w5, w6⟩ hls h4 h5
theorem J_last {a : Nat} {xs' : List Int64} {i : Int32} {x : Int64} (he : h[a]? = some (.inl (1, .inr (.inl xs')))) (h0 : ¬ i < 0) (hlt : i.toNatClampNeg < xs'.length) (hd : decode M.2.2.1 pc = .ok (.lastore, 1)) (k : J M on L xs d kc ks (pc + 1) lv st (h.set a (.inl (1, .inr (.inl (xs'.set i.toNatClampNeg x))))) Q) : J M on L xs d kc ks pc lv (.long x :: .int i :: .ref a :: st) h Q := by
  intro p l e R s m args below meth c D dA sb A H0 n0 ad0 CB SB QQ hF hX hA hR hT ad H locs cells slots ls hw hls h4 h5
  obtain ⟨w1, w2, w3, w4, w5, w6⟩ := hw
  refine va_last hF.1 hF.2.1 hF.2.2.2.2.2.1.1 w1 w2 w3 a 1 (jWs_get he) (jT_at (by decide)) (fun q => q.elim h0 (fun q => Nat.not_lt.mpr q hlt)) hd (fun H1 locs1 x1 x2 x3 => ?_)
  have e1 : (jWs sb dA ad h).set a (ad a, jE sb dA ad (.inl (1, .inr (.inl (xs'.set i.toNatClampNeg x))))) = jWs sb dA ad (h.set a (.inl (1, .inr (.inl (xs'.set i.toNatClampNeg x))))) := jWs_set
  have e2 : jE sb dA ad (.inl (1, .inr (.inl (xs'.set i.toNatClampNeg x)))) = .inl (dA 1, xs'.length, .inr (.inl (vp_updL (fun j => xs'.getD j 0) i.toNatClampNeg x))) := by
    show (Sum.inl (dA 1, (xs'.set i.toNatClampNeg x).length, _) : va_E) = Sum.inl (dA 1, xs'.length, _)
    rw [List.length_set, jUpdL hlt]
  rw [e2] at e1
  rw [e1] at x1 x2
  exact k p l e R s m args below meth c D dA sb A H0 n0 ad0 CB SB QQ hF hX hA hR hT ad H1 locs1 cells slots ls ⟨x1, x2, x3, by simpa using w4, w5, w6⟩ hls h4 h5
theorem J_aald {a t r : Nat} {rs : List (Option Nat)} {i : Int32} (ht : t = 4 ∨ t = 5) (he : h[a]? = some (.inl (t, .inr (.inr rs)))) (h0 : ¬ i < 0) (hg : rs[i.toNatClampNeg]? = some (some r)) (hd : decode M.2.2.1 pc = .ok (.aaload, 1)) (k : J M on L xs d kc ks (pc + 1) lv (.ref r :: st) h Q) : J M on L xs d kc ks pc lv (.int i :: .ref a :: st) h Q := by
  intro p l e R s m args below meth c D dA sb A H0 n0 ad0 CB SB QQ hF hX hA hR hT ad H locs cells slots ls hw hls h4 h5
  have hlt : i.toNatClampNeg < rs.length := (List.getElem?_eq_some_iff.mp hg).1
  have hk := k p l e R s m args below meth c D dA sb A H0 n0 ad0 CB SB QQ hF hX hA hR hT ad H locs cells slots ls hw hls h4 h5
  have e1 : va_rf ((fun j => (rs.getD j none).map ad) i.toNatClampNeg) = .ref (ad r) := by
    show va_rf ((rs.getD i.toNatClampNeg none).map ad) = _
    rw [List.getD_eq_getElem?_getD, hg]; rfl
  rcases ht with rfl | rfl
  · refine va_aldq (C := RX5) hF.1 hF.2.1 hF.2.2.2.2.2.1.1 hw.1 a 4 (jWs_get he) (jT_at (t := 4) (by decide)) (fun q => q.elim h0 (fun q => Nat.not_lt.mpr q hlt)) hd ?_
    rw [e1]; exact hk
  · refine va_aldq (C := RX3) hF.1 hF.2.1 hF.2.2.2.2.2.1.1 hw.1 a 5 (jWs_get he) (jT_at (t := 5) (by decide)) (fun q => q.elim h0 (fun q => Nat.not_lt.mpr q hlt)) hd ?_
    rw [e1]; exact hk
theorem J_aast {a t r ci : Nat} {fs : List Value} {rs : List (Option Nat)} {i : Int32} (ht : (t = 4 ∧ ci = 5) ∨ (t = 5 ∧ ci = 3)) (he : h[a]? = some (.inl (t, .inr (.inr rs)))) (hr : h[r]? = some (.inr (ci, fs))) (h0 : ¬ i < 0) (hlt : i.toNatClampNeg < rs.length) (hd : decode M.2.2.1 pc = .ok (.aastore, 1)) (k : J M on L xs d kc ks (pc + 1) lv st (h.set a (.inl (t, .inr (.inr (rs.set i.toNatClampNeg (some r)))))) Q) : J M on L xs d kc ks pc lv (.ref r :: .int i :: .ref a :: st) h Q := by
  intro p l e R s m args below meth c D dA sb A H0 n0 ad0 CB SB QQ hF hX hA hR hT ad H locs cells slots ls hw hls h4 h5
  obtain ⟨w1, w2, w3, w4, w5, w6⟩ := hw
  have e1 : (jWs sb dA ad h).set a (ad a, jE sb dA ad (.inl (t, .inr (.inr (rs.set i.toNatClampNeg (some r)))))) = jWs sb dA ad (h.set a (.inl (t, .inr (.inr (rs.set i.toNatClampNeg (some r)))))) := jWs_set
  have e2 : jE sb dA ad (.inl (t, .inr (.inr (rs.set i.toNatClampNeg (some r))))) = .inl (dA t, rs.length, .inr (.inr (.inr (.inr (va_up (fun j => (rs.getD j none).map ad) i.toNatClampNeg (some (ad r))))))) := by
    show (Sum.inl (dA t, (rs.set i.toNatClampNeg (some r)).length, _) : va_E) = Sum.inl (dA t, rs.length, _)
    rw [List.length_set]
    refine congrArg (fun z => (Sum.inl (dA t, rs.length, Sum.inr (Sum.inr (Sum.inr (Sum.inr z)))) : va_E)) (funext fun j => ?_)
    rw [List.getD_eq_getElem?_getD, List.getElem?_set]
    by_cases hj : j = i.toNatClampNeg
    · subst hj
      simp [va_up, hlt]
    · simp [va_up, hj, Ne.symm hj]
  rw [e2] at e1
  rcases ht with ⟨rfl, rfl⟩ | ⟨rfl, rfl⟩
  · refine va_astq hF.1 hF.2.1 hF.2.2.2.2.2.1.1 w1 w2 w3 a 4 r 5 (r := (RX5, TX5, 10)) (jWs_get he) (jT_at (t := 4) (by decide)) (jWs_get hr) rfl (fun q => q.elim h0 (fun q => Nat.not_lt.mpr q hlt)) hd (fun H1 locs1 x1 x2 x3 => ?_)
    rw [e1] at x1 x2
    exact k p l e R s m args below meth c D dA sb A H0 n0 ad0 CB SB QQ hF hX hA hR hT ad H1 locs1 cells slots ls ⟨x1, x2, x3, by simpa using w4, w5, w6⟩ hls h4 h5
  · refine va_astq hF.1 hF.2.1 hF.2.2.2.2.2.1.1 w1 w2 w3 a 5 r 3 (r := (RX3, TX3, 3)) (jWs_get he) (jT_at (t := 5) (by decide)) (jWs_get hr) rfl (fun q => q.elim h0 (fun q => Nat.not_lt.mpr q hlt)) hd (fun H1 locs1 x1 x2 x3 => ?_)
    rw [e1] at x1 x2
    exact k p l e R s m args below meth c D dA sb A H0 n0 ad0 CB SB QQ hF hX hA hR hT ad H1 locs1 cells slots ls ⟨x1, x2, x3, by simpa using w4, w5, w6⟩ hls h4 h5
def jcpy (xs ys : List Int32) (sp dp n : Nat) : List Int32 := (List.range ys.length).map (fun k => if dp ≤ k ∧ k < dp + n then xs.getD (sp + (k - dp)) 0 else ys.getD k 0)
theorem jcpy_eq {xs ys : List Int32} {sp dp n : Nat} (h : dp + n ≤ ys.length) : (fun j => (jcpy xs ys sp dp n).getD j 0) = va_cpy (fun j => xs.getD j 0) (fun j => ys.getD j 0) sp dp n := by
  funext j
  rw [List.getD_eq_getElem?_getD]
  unfold jcpy va_cpy
  rw [List.getElem?_map]
  by_cases hj : j < ys.length
  · rw [List.getElem?_range hj]; rfl
  · rw [List.getElem?_eq_none (by simpa using hj), if_neg (by omega)]
    show (0 : Int32) = ys.getD j 0
    rw [List.getD_eq_getElem?_getD, List.getElem?_eq_none (by omega)]; rfl
-- the script
theorem J_slen {v : Int32} (ho : on = true) (hv : Int32.ofNat L = v) (hd : decode M.2.2.1 pc = .ok (.arraylength, 1)) (k : J M on L xs d kc ks (pc + 1) lv (.int v :: st) h Q) : J M on L xs d kc ks pc lv (.retAddr 0 :: st) h Q := by
  intro p l e R s m args below meth c D dA sb A H0 n0 ad0 CB SB QQ hF hX hA hR hT ad H locs cells slots ls hw hls h4 h5
  obtain ⟨g1, g2, g3⟩ := hX.1 ho
  subst hv
  exact va_slen hF.1 hF.2.1 g1 g2 g3 hw.2.2.1 hd (k p l e R s m args below meth c D dA sb A H0 n0 ad0 CB SB QQ hF hX hA hR hT ad H locs cells slots ls hw hls h4 h5)
theorem J_sld {i : Int32} (ho : on = true) (hin : vp_in i L) (hd : decode M.2.2.1 pc = .ok (.iaload, 1)) (k : J M on L xs d kc ks (pc + 1) lv (.int (xs i.toNatClampNeg) :: st) h Q) : J M on L xs d kc ks pc lv (.int i :: .retAddr 0 :: st) h Q := by
  intro p l e R s m args below meth c D dA sb A H0 n0 ad0 CB SB QQ hF hX hA hR hT ad H locs cells slots ls hw hls h4 h5
  obtain ⟨g1, g2, g3⟩ := hX.1 ho
  exact va_sld hF.1 hF.2.1 g1 g2 g3 hw.2.2.1 hin hd (k p l e R s m args below meth c D dA sb A H0 n0 ad0 CB SB QQ hF hX hA hR hT ad H locs cells slots ls hw hls h4 h5)
-- arraycopy of ints
theorem J_copyi {idx a0 a1 : Nat} {xa ya : List Int32} {sp dp n : Int32} (hl : Cond.methodLink M.2.1.cls idx arraycopyName ∈ jG) (hs : (st.map fun v => v.category).sum ≤ 8) (hd1 : 1 ≤ d) (he0 : h[a0]? = some (.inl (0, .inl xa))) (he1 : h[a1]? = some (.inl (0, .inl ya))) (h1 : ¬ sp < 0) (h2 : ¬ dp < 0) (h3 : ¬ n < 0) (h6 : sp.toNatClampNeg + n.toNatClampNeg ≤ xa.length) (h7 : dp.toNatClampNeg + n.toNatClampNeg ≤ ya.length) (hd : decode M.2.2.1 pc = .ok (.invokestatic idx, 3))
    (k : J M on L xs d kc ks (pc + 3) lv st (h.set a1 (.inl (0, .inl (jcpy xa ya sp.toNatClampNeg dp.toNatClampNeg n.toNatClampNeg)))) Q) : J M on L xs d kc ks pc lv (.int n :: .int dp :: .ref a1 :: .int sp :: .ref a0 :: st) h Q := by
  intro p l e R s m args below meth c D dA sb A H0 n0 ad0 CB SB QQ hF hX hA hR hT ad H locs cells slots ls hw hls h4 h5
  obtain ⟨w1, w2, w3, w4, w5, w6⟩ := hw
  have hcat : ((st.map (jV sb ad)).map fun v => v.category).sum ≤ 8 := by
    rw [List.map_map]
    rw [show ((fun v : Value => v.category) ∘ jV sb ad) = (fun v => v.category) from funext fun v => jV_cat sb ad v]
    exact hs
  have hroom : nativeFrameWords "java/lang/System" "arraycopy" 5 + 11 ≤ 18 := by decide +kernel
  have hmul : 1 * jK0 ≤ d * jK0 := Nat.mul_le_mul_right _ hd1
  have hj : jK0 = 40 := rfl
  refine va_copyi hF.1 hF.2.1 (hF.2.2.1.trans hls.1.symm) hF.2.2.2.1 (hF.2.2.2.2.1 _ hl) (hF.2.2.2.2.1 _ ac_nat) (hF.2.2.2.2.1 _ ac_stat) (hF.2.2.2.2.1 _ ac_ini) hF.2.2.2.2.2.1.1 w1 w2 w3 a0 a1 0 0 (jWs_get he0) (jWs_get he1) (jT_at (by decide)) (jT_at (by decide)) rfl h1 h2 h3 h6 h7 (fun _ _ => rfl) (by have := hR.1; omega) (by have := hR.2.1; omega) hd (fun H1 locs1 x1 x2 x3 => ?_)
  have e1 : (jWs sb dA ad h).set a1 (ad a1, jE sb dA ad (.inl (0, .inl (jcpy xa ya sp.toNatClampNeg dp.toNatClampNeg n.toNatClampNeg)))) = jWs sb dA ad (h.set a1 (.inl (0, .inl (jcpy xa ya sp.toNatClampNeg dp.toNatClampNeg n.toNatClampNeg)))) := jWs_set
  have e2 : jE sb dA ad (.inl (0, .inl (jcpy xa ya sp.toNatClampNeg dp.toNatClampNeg n.toNatClampNeg))) = .inl (dA 0, ya.length, .inl (va_cpy (fun j => xa.getD j 0) (fun j => ya.getD j 0) sp.toNatClampNeg dp.toNatClampNeg n.toNatClampNeg)) := by
    rw [← jcpy_eq h7]
    show (Sum.inl (dA 0, (jcpy xa ya _ _ _).length, _) : va_E) = Sum.inl (dA 0, ya.length, _)
    rw [show (jcpy xa ya sp.toNatClampNeg dp.toNatClampNeg n.toNatClampNeg).length = ya.length by simp [jcpy]]
  rw [e2] at e1
  rw [e1] at x1 x2
  exact k p l e R s m args below meth c D dA sb A H0 n0 ad0 CB SB QQ hF hX hA hR hT ad H1 locs1 cells slots ls ⟨x1, x2, x3, by simpa using w4, w5, w6⟩ hls h4 h5
-- ends
theorem J_iret {x : Int32} {ty : FieldType} (hr : M.2.2.2.2.1 = some ty) (hn : narrow ty (.int x) = .int x) (hd : decode M.2.2.1 pc = .ok (.ireturn, 1)) (hq : Q (some (.int x)) h) : J M on L xs d kc ks pc lv [.int x] h Q :=
  fun p l e R s m args below meth c D dA sb A H0 n0 ad0 CB SB QQ hF hX hA hR hT ad H locs cells slots ls hw hls h4 h5 =>
    hT (some (.int x)) h ad H locs cells slots pc ls hq hw (by omega) (by omega) ⟨hd, ty, hr, hn⟩
theorem J_lret {x : Int64} (hr : M.2.2.2.2.1 = some .long) (hd : decode M.2.2.1 pc = .ok (.lreturn, 1)) (hq : Q (some (.long x)) h) : J M on L xs d kc ks pc lv [.long x] h Q :=
  fun p l e R s m args below meth c D dA sb A H0 n0 ad0 CB SB QQ hF hX hA hR hT ad H locs cells slots ls hw hls h4 h5 =>
    hT (some (.long x)) h ad H locs cells slots pc ls hq hw (by omega) (by omega) ⟨hd, hr⟩
theorem J_vret (hr : M.2.2.2.2.1 = none) (hd : decode M.2.2.1 pc = .ok (.return_, 1)) (hq : Q none h) : J M on L xs d kc ks pc lv [] h Q :=
  fun p l e R s m args below meth c D dA sb A H0 n0 ad0 CB SB QQ hF hX hA hR hT ad H locs cells slots ls hw hls h4 h5 =>
    hT none h ad H locs cells slots pc ls hq hw (by omega) (by omega) ⟨hd, hr⟩
-- Object's constructor
theorem J_oinit {idx : Nat} {v : Nat} (hl : Cond.methodLink M.2.1.cls idx objectInit ∈ jG) (hs : (st.map fun v => v.category).sum ≤ 8) (hd1 : 1 ≤ d) (hd : decode M.2.2.1 pc = .ok (.invokespecial idx, 3)) (k : J M on L xs d kc ks (pc + 3) lv st h Q) : J M on L xs d kc ks pc lv (.ref v :: st) h Q := by
  intro p l e R s m args below meth c D dA sb A H0 n0 ad0 CB SB QQ hF hX hA hR hT ad H locs cells slots ls hw hls h4 h5
  have hcat : ((st.map (jV sb ad)).map fun v => v.category).sum ≤ 8 := by
    rw [List.map_map]
    rw [show ((fun v : Value => v.category) ∘ jV sb ad) = (fun v => v.category) from funext fun v => jV_cat sb ad v]
    exact hs
  have hmul : 1 * jK0 ≤ d * jK0 := Nat.mul_le_mul_right _ hd1
  have hj : jK0 = 40 := rfl
  have hrm := lv_room (m := m) (pc := pc) (ls := ls) (rest := ((Value.ref v :: st).map (jV sb ad))) hcat
  refine W.objInit hF.1 hF.2.1 hF.2.2.2.1 (hF.2.2.2.2.1 _ hl) (hF.2.2.2.2.1 _ oi_inst) (hF.2.2.2.2.1 _ oi_code) rfl (by rw [hF.2.2.1]; exact hls.1) rfl hd (by have := hR.1; omega) (by have := hR.2.1; have h9 := hrm; omega) ?_
  exact k p l e R s m args below meth c D dA sb A H0 n0 ad0 CB SB QQ hF hX hA hR hT ad H locs cells slots ls hw hls h4 h5
end JROWS
end
-- 04.calls.lean.txt
section
/-! CONTRACTS over the abstract machine, and calls -/
def jQc (Q : Option Value → jH → Prop) (D : va_G) (dA : Nat → Nat) (sb : Nat → Nat) (ad : Nat → Nat) (h : jH) (kc sz : Nat) : Array Value → State → Outcome → State → Prop := fun _ st oc t =>
  (∃ (r : Option Value) (h' : jH) (ad' : Nat → Nat), oc = .returned (r.map (jV sb ad')) ∧ Q r h' ∧ h.length ≤ h'.length ∧ (∀ i, i < h.length → ad' i = ad i) ∧ (kc = 0 → ad' = ad) ∧ va_P D vwCl (jWs sb dA ad' h') t.heap ∧ va_D (va_A (jWs sb dA ad h) sz) (jWs sb dA ad' h')) ∧ va_F (va_A (jWs sb dA ad h) sz) st t
def jWords (M : jM) : List Cond := Cond.code M.2.1 M.2.2.1 M.2.2.2.1 M.2.2.2.2.1 :: jG
def jRoom (d kc ks : Nat) : Room := { frames := d, cells := kc, slots := ks, locals := d * jK0 }
def jPc (D : va_G) (dA : Nat → Nat) (sb : Nat → Nat) (ad : Nat → Nat) (args : List Value) (h : jH) (sz : Nat) : Array Value → State → Prop :=
  va_Pc (args.map (jV sb ad)) (fun U => U.heap.size = sz ∧ va_P D vwCl (jWs sb dA ad h) U.heap ∧ jK D dA U ∧ va_D (fun _ => True) (jWs sb dA ad h) ∧ jO sb (va_A (jWs sb dA ad h) sz) U U.heap)
/-- a method's contract: from the arguments and the heap it comes to an answer and a heap with Q -/
def jCt (M : jM) (d kc ks : Nat) (args : List Value) (h : jH) (Q : Option Value → jH → Prop) : Prop :=
  ∀ (l : Launch) (D : va_G) (dA : Nat → Nat) (sb : Nat → Nat) (ad : Nat → Nat) (sz : Nat),
    Met l M.2.1 (jWords M) (jRoom d kc ks) (jPc D dA sb ad args h sz) (jQc Q D dA sb ad h kc sz) kc ks (va_A (jWs sb dA ad h) sz)
theorem jArgs (sb : Nat → Nat) (ad : Nat → Nat) : ∀ (vs : List Value) (i : Nat), lv_args i (vs.map (jV sb ad)) = jL sb ad (lv_args i vs)
  | [], _ => rfl
  | v :: vs, i => by
    show (i, jV sb ad v) :: lv_args (if (jV sb ad v).category = 2 then i + 2 else i + 1) (vs.map (jV sb ad)) = (i, jV sb ad v) :: jL sb ad (lv_args (if v.category = 2 then i + 2 else i + 1) vs)
    rw [jV_cat, jArgs sb ad vs]
theorem jBlind {D : va_G} {dA : Nat → Nat} {sb : Nat → Nat} {ad : Nat → Nat} {args : List Value} {h : jH} {sz : Nat} : FrameBlind (jPc D dA sb ad args h sz) :=
  fun a U g mk q => by
    obtain ⟨q0, q1, qP, qK, qD, qO⟩ := q
    exact ⟨q0, q1, qP, jK.same (u := U) (U := U.calling g mk a) rfl qK, qD, jO.same (u := U) (U := U.calling g mk a) rfl qO⟩
theorem jCt_of {M : jM} {d kc ks : Nat} {args : List Value} {h : jH} {Q : Option Value → jH → Prop} (hok : jok M) (hargs : ∀ sb ad, (lg_sl (args.map (jV sb ad))).length ≤ M.2.2.2.1) (hJ : J M false 0 (fun _ => 0) d kc ks 0 (lv_args 0 args) [] h Q) : jCt M d kc ks args h Q := by
  intro l D dA sb ad sz
  refine Met.ofW (cc := M.2.2.1) (maxL := M.2.2.2.1) (ret := M.2.2.2.2.1) hok.2.2.2.1 rfl ?_
  intro p e s m args' below meth c s₁ B hml hv
  obtain ⟨rfl, hsz, hP, hK, hD0, hO0⟩ := hv
  have hx := B.exec
  have hb := B.bytes
  have hr := B.returns
  have hts0 := atoms_spec (ws := jWords M) B.pre
  have hts : ∀ w ∈ jG, w.before (args.map (jV sb ad)).toArray s = true := fun w hw => hts0 w (List.mem_cons_of_mem _ hw)
  have hown : s.vm.findClass M.2.1.cls = some m.cls := findClass_of_methodNamed B.named
  have hlocks := B.notSynchronized
  have hname : meth.name = M.2.1.name := (name_of_methodNamed B.named B.method).1
  subst hsz
  have hl := lv_entry (args.map (jV sb ad)) (n := M.2.2.2.1) (hargs sb ad)
  rw [jArgs] at hl
  rw [lg_entry_eq]
  generalize (lg_sl (args.map (jV sb ad)) ++ List.replicate (M.2.2.2.1 - (lg_sl (args.map (jV sb ad))).length) Slot.unset).toArray = ls at hl ⊢
  refine hJ p l e _ s m _ below meth c D dA sb (va_A (jWs sb dA ad h) s.heap.size) s.heap h.length ad kc ks _ ⟨hx, hb, hml, hown, hts, hK, hlocks, hr, fun z => hname.trans z⟩ ⟨(fun z => by cases z), hO0, rfl⟩ (fun q hq => Or.inr hq) ⟨Nat.le_refl _, Nat.le_refl _, Nat.le_refl _, Nat.le_refl _⟩ ?_ ad s.heap [] 0 0 ls ⟨hP, hD0.self, va_S.rf, Nat.le_refl _, fun _ _ => rfl, fun _ => rfl⟩ hl (by omega) (by omega)
  intro v h' ad' H' locs' cells' slots' pc' ls' hq hw hc hs hri
  obtain ⟨w1, w2, w3, w4, w5, w6⟩ := hw
  refine W.widen hc hs ?_
  have hend : ∀ t : State, t.heap = H' → jQc Q D dA sb ad h kc s.heap.size (args.map (jV sb ad)).toArray s (.returned (v.map (jV sb ad'))) t := fun t ht =>
    ⟨⟨v, h', ad', rfl, hq, w4, w5, w6, by rw [ht]; exact w1, w2⟩, w3.F ht⟩
  match v, hri with
  | none, hri =>
    exact W.vret hx hb (hr.trans hri.2) (fun t ht hW => hend t ht) w3.2.2 hri.1
  | some (.int x), hri =>
    obtain ⟨hd, ty, h1, h2⟩ := hri
    exact W.zret (v := x) hx hb (hr.trans h1) h2 (fun t ht hW => hend t ht) w3.2.2 hd
  | some (.long x), hri =>
    exact W.lret (v := x) hx hb (hr.trans hri.2) (fun t ht hW => hend t ht) w3.2.2 hri.1
theorem jCt.mono {M : jM} {d kc ks : Nat} {args : List Value} {h : jH} {Q Q' : Option Value → jH → Prop} (hq : ∀ v h', Q v h' → Q' v h') (k : jCt M d kc ks args h Q) : jCt M d kc ks args h Q' := by
  intro l D dA sb ad sz
  have h1 := k l D dA sb ad sz
  intro p e ha hc hk s m args' below hf happ hp hx
  obtain ⟨n, o, a1, a2, a3, ⟨⟨⟨r, h', ad', e1, e2, e3⟩, e4⟩, e5⟩⟩ := h1 p e ha hc hk s m args' below hf happ hp hx
  exact ⟨n, o, a1, a2, a3, ⟨⟨⟨r, h', ad', e1, hq _ _ e2, e3⟩, e4⟩, e5⟩⟩
section JCALLS
variable {M M' : jM} {on : Bool} {L : Nat} {xs : Nat → Int32} {d d' kc ks kc' ks' pc : Nat} {lv : List (Nat × Value)} {st : List Value} {h : jH} {Q Q' : Option Value → jH → Prop}
/-- behind a call -/
theorem J_run {stk As : List Value} (hwf : kc' = 0 ∨ jwF h.length lv st = true) (hc : jCt M' d' kc' ks' As h Q') (hd' : d' + 1 ≤ d) (hlocs : M'.2.2.2.1 ≤ 12)
    (hr : ∀ {p : Program} {l : Launch} {e : Env} {R : Room} {s : State} {m : MethodId} {args : Array Value} {below : List Frame} {meth : Method} {c : Code} {D : va_G} {dA : Nat → Nat} {sb : Nat → Nat} {ad : Nat → Nat} {H : Heap} {locs : List Loc} {cells slots : Nat} {ls : Array Slot},
      jFix M p s m args meth c D dA → Met l M'.2.1 (jWords M') (jRoom d' kc' ks') (jPc D dA sb ad As h H.size) (jQc Q' D dA sb ad h kc' H.size) kc' ks' (va_A (jWs sb dA ad h) H.size) →
      va_P D vwCl (jWs sb dA ad h) H → va_D (fun _ => True) (jWs sb dA ad h) → jO sb (va_A (jWs sb dA ad h) H.size) s H → ls.size = M.2.2.2.1 → d' + 1 ≤ R.frames → 8 + (M'.2.2.2.1 + 11) + d' * jK0 ≤ R.locals → cells + kc' ≤ R.cells ∧ slots + ks' ≤ R.slots →
      ∃ a, va_Run p l e R s m args below meth c H locs cells slots kc' ks' (F0 m pc ls (stk.map (jV sb ad))) (st.map (jV sb ad)) (jQc Q' D dA sb ad h kc' H.size a) (va_A (jWs sb dA ad h) H.size))
    (k : ∀ r h', Q' r h' → h.length ≤ h'.length → J M on L xs d kc ks (pc + 3) lv (r.toList ++ st) h' Q) : J M on L xs d (kc' + kc) (ks' + ks) pc lv stk h Q := by
  intro p l e R s m args below meth c D dA sb A H0 n0 ad0 CB SB QQ hF hX hA hR hT ad H locs cells slots ls hw hls h4 h5
  obtain ⟨w1, w2, w3, w4, w5, w6⟩ := hw
  have hmul : (d' + 1) * jK0 ≤ d * jK0 := Nat.mul_le_mul_right _ hd'
  have hj : (d' + 1) * jK0 = d' * jK0 + 40 := by rw [Nat.add_mul]; rfl
  have hA1 : ∀ q, va_A (jWs sb dA ad h) H.size q → A q := fun q hq => by
    rcases hq with ⟨k, e, hk⟩ | hq
    · exact w2.2 k (q, e) hk
    · exact hA q (Nat.le_trans w3.1 hq)
  obtain ⟨a, hrun⟩ := hr (l := l) (e := e) (below := below) (locs := locs) (cells := cells) (slots := slots) (ls := ls) hF (hc l D dA sb ad H.size) w1 (w2.weaken (fun _ _ _ _ => trivial)) ((hX.2.1.kept w3.2.1).narrow hA1) hls.1 (Nat.le_trans hd' hR.1) (by have := hR.2.1; omega) ⟨by have := hR.2.2.1; omega, by have := hR.2.2.2; omega⟩
  intro T hT1 X
  obtain ⟨v, st₀, t, T', LL, h0, X', hL, e1, e2, ⟨⟨r, h', ad', hv, hq, hlen, hag, hz0, hP', hD'⟩, hz, hk⟩, hst⟩ := hrun T hT1 X
  cases hv
  rw [h0] at hz hk
  have hS' : va_S A H0 T'.heap (locs ++ LL) := ⟨Nat.le_trans w3.1 (by rw [e1]; exact hz), fun q h1 h2 => by
      rw [e1, hk q (Nat.lt_of_lt_of_le h1 w3.1) (fun z => h2 (hA1 q z))]
      exact w3.2.1 q h1 h2, fun q hq => by
      rcases List.mem_append.mp hq with h | h
      · exact w3.2.2 q h
      · exact hA1 _ (hL q h)⟩
  have hlst : jL sb ad' lv = jL sb ad lv ∧ st.map (jV sb ad') = st.map (jV sb ad) := by
    rcases hwf with hwf | hwf
    · rw [hz0 hwf]; exact ⟨rfl, rfl⟩
    · unfold jwF at hwf
      obtain ⟨f1, f2⟩ := Bool.and_eq_true_iff.mp hwf
      exact ⟨jL_ext f1 hag, jVs_ext f2 hag⟩
  have hk2 := k r h' hq hlen p l e R s m args below meth c D dA sb A H0 n0 ad0 CB SB QQ hF hX hA hR hT ad' T'.heap (locs ++ LL) (cells + kc') (slots + ks') ls
    ⟨by rw [e1]; exact hP', hD'.weaken (fun _ q _ hq => hA1 q.1 hq), hS', by omega, fun i hi => by rw [hag i (by omega)]; exact w5 i hi, fun z => by rw [hz0 (by omega)]; exact w6 z⟩ (by rw [hlst.1]; exact hls) (by omega) (by omega)
  rw [List.map_append, hlst.2] at hk2
  obtain ⟨t2, a1, b1⟩ := hk2 T' rfl X'
  refine ⟨t2, hst t2 ?_, b1⟩
  cases r <;> exact a1
theorem jSum {sb : Nat → Nat} {ad : Nat → Nat} (hs : (st.map fun v => v.category).sum ≤ 8) : ((st.map (jV sb ad)).map fun v => v.category).sum ≤ 8 := by
  rw [List.map_map]
  rw [show ((fun v : Value => v.category) ∘ jV sb ad) = (fun v => v.category) from funext fun v => jV_cat sb ad v]
  exact hs
theorem jGoodWs (hok : jok M') : GoodIn jG (jWords M') := fun w hw => by
  rcases List.mem_cons.mp hw with rfl | hw
  · exact jG_good _ hok.2.1
  · exact jG_good w hw
theorem J_callV {idx n b ci : Nat} {fs As : List Value} {q : vw_C} (hok : jok M') (hv : jvirt M') (hl : Cond.methodLink M.2.1.cls idx M'.2.1 ∈ jG) (hpn : (parseMethodDescriptor M'.2.1.desc).map (fun d => d.parameters.length) = some n) (hn : As.length = n) (hb : h[b]? = some (.inr (ci, fs))) (hq : vwCl[ci]? = some q) (hqc : q.1 = M'.2.1.cls) (hs : (st.map fun v => v.category).sum ≤ 8)
    (hwf : kc' = 0 ∨ jwF h.length lv st = true) (hd' : d' + 1 ≤ d) (hd : decode M.2.2.1 pc = .ok (.invokevirtual idx, 3)) (hc : jCt M' d' kc' ks' (.ref b :: As) h Q')
    (k : ∀ r h', Q' r h' → h.length ≤ h'.length → J M on L xs d kc ks (pc + 3) lv (r.toList ++ st) h' Q) : J M on L xs d (kc' + kc) (ks' + ks) pc lv (As.reverse ++ .ref b :: st) h Q := by
  refine J_run (As := .ref b :: As) hwf hc hd' hok.2.2.2.2.2 ?_ k
  intro p l e R s m args below meth c D dA sb ad H locs cells slots ls hF hM hP hD hO hsz hr1 hr2 hr3
  have hT : GoodIn jG (wsV M.2.1.cls idx M'.2.1.cls M'.2.1 (jWords M')) := fun w hw => by
    rcases List.mem_append.mp hw with hw | hw
    · simp only [List.mem_cons, List.not_mem_nil, or_false] at hw
      rcases hw with rfl | rfl | rfl | rfl
      · exact jG_good _ hl
      · exact jG_good _ hv.1
      · exact jG_good _ hv.2
      · exact jG_good _ hok.2.2.1
    · exact jGoodWs hok w hw
  have hcw := cwV (R := R) (rm := jRoom d' kc' ks') (mc := kc') (ms := ks') (maxL := M'.2.2.2.1) (bytes := M'.2.2.1) (ret := M'.2.2.2.2.1) n hF.2.2.2.2.1 hT rfl rfl rfl ⟨rfl, hok.2.2.2.2.1.1, hok.2.2.2.2.1.2, hpn⟩ ⟨hr1, hr2⟩
  have hrv := va_recv (q0 := b) hF.2.2.2.2.2.1.1 hP hq (jWs_get hb)
  rw [hqc] at hrv
  refine ⟨_, va_runV (As := As.map (jV sb ad)) (rest := st.map (jV sb ad)) (b := ad b) ⟨hF.1, hF.2.1, hF.2.2.1, hF.2.2.2.1, hF.2.2.2.2.1⟩ hM hcw ⟨jBlind, hrv, fun U hU hW => ⟨rfl, by rw [hU], by rw [hU]; exact hP, jK.moved hW hF.2.2.2.2.2.1, hD, by rw [hU]; exact jO.moved hW hO⟩⟩ rfl (by rw [List.length_map]; exact hn) hsz ?_ (lv_room (jSum hs)) hd hr3⟩
  show (As.reverse ++ Value.ref b :: st).map (jV sb ad) = _
  rw [List.map_append, List.map_reverse]; rfl
theorem J_callI {idx n b : Nat} {As : List Value} (hok : jok M') (hv : jinit M') (hl : Cond.methodLink M.2.1.cls idx M'.2.1 ∈ jG) (hpn : (parseMethodDescriptor M'.2.1.desc).map (fun d => d.parameters.length) = some n) (hn : As.length = n) (hs : (st.map fun v => v.category).sum ≤ 8)
    (hwf : kc' = 0 ∨ jwF h.length lv st = true) (hd' : d' + 1 ≤ d) (hd : decode M.2.2.1 pc = .ok (.invokespecial idx, 3)) (hc : jCt M' d' kc' ks' (.ref b :: As) h Q')
    (k : ∀ r h', Q' r h' → h.length ≤ h'.length → J M on L xs d kc ks (pc + 3) lv (r.toList ++ st) h' Q) : J M on L xs d (kc' + kc) (ks' + ks) pc lv (As.reverse ++ .ref b :: st) h Q := by
  refine J_run (As := .ref b :: As) hwf hc hd' hok.2.2.2.2.2 ?_ k
  intro p l e R s m args below meth c D dA sb ad H locs cells slots ls hF hM hP hD hO hsz hr1 hr2 hr3
  have hcw := cwI (R := R) (rm := jRoom d' kc' ks') (mc := kc') (ms := ks') (maxL := M'.2.2.2.1) (bytes := M'.2.2.1) n hF.2.2.2.2.1 (jGoodWs hok) (by unfold jWords; rw [hv.2.2]) rfl rfl (hF.2.2.2.2.1 _ hok.2.2.1) (hF.2.2.2.2.1 _ hl) (hF.2.2.2.2.1 _ hv.2.1) hv.1 ⟨hok.2.2.2.2.1.1, hok.2.2.2.2.1.2, hpn⟩ ⟨hr1, hr2⟩
  refine ⟨_, va_runI (As := As.map (jV sb ad)) (rest := st.map (jV sb ad)) (b := ad b) ⟨hF.1, hF.2.1, hF.2.2.1, hF.2.2.2.1, hF.2.2.2.2.1⟩ hM hcw ⟨jBlind, fun U hU hW => ⟨rfl, by rw [hU], by rw [hU]; exact hP, jK.moved hW hF.2.2.2.2.2.1, hD, by rw [hU]; exact jO.moved hW hO⟩⟩ rfl (by rw [List.length_map]; exact hn) hsz ?_ (lv_room (jSum hs)) hd hr3⟩
  show (As.reverse ++ Value.ref b :: st).map (jV sb ad) = _
  rw [List.map_append, List.map_reverse]; rfl
theorem J_callN {idx n b : Nat} {host : String} {As : List Value} (hok : jok M') (hv : jinit M') (hl : ∀ s, jN s → va_Nw (.methodLinkNest M.2.1.cls idx M'.2.1 host) s) (hpn : (parseMethodDescriptor M'.2.1.desc).map (fun d => d.parameters.length) = some n) (hn : As.length = n) (hs : (st.map fun v => v.category).sum ≤ 8)
    (hwf : kc' = 0 ∨ jwF h.length lv st = true) (hd' : d' + 1 ≤ d) (hd : decode M.2.2.1 pc = .ok (.invokespecial idx, 3)) (hc : jCt M' d' kc' ks' (.ref b :: As) h Q')
    (k : ∀ r h', Q' r h' → h.length ≤ h'.length → J M on L xs d kc ks (pc + 3) lv (r.toList ++ st) h' Q) : J M on L xs d (kc' + kc) (ks' + ks) pc lv (As.reverse ++ .ref b :: st) h Q := by
  refine J_run (As := .ref b :: As) hwf hc hd' hok.2.2.2.2.2 ?_ k
  intro p l e R s m args below meth c D dA sb ad H locs cells slots ls hF hM hP hD hO hsz hr1 hr2 hr3
  have hcw := va_cnB (R := R) (rm := jRoom d' kc' ks') (mc := kc') (ms := ks') (maxL := M'.2.2.2.1) (bytes := M'.2.2.1) (ret := none) n hF.2.2.2.2.1 (jGoodWs hok) (by unfold jWords; rw [hv.2.2]) rfl rfl (hl _ hF.2.2.2.2.2.1.2) (hF.2.2.2.2.1 _ hok.2.2.1) ⟨hok.2.2.2.2.1.1, hok.2.2.2.2.1.2, hpn⟩ ⟨hr1, hr2⟩
  refine ⟨_, va_runIN (As := As.map (jV sb ad)) (rest := st.map (jV sb ad)) (b := ad b) ⟨hF.1, hF.2.1, hF.2.2.1, hF.2.2.2.1, hF.2.2.2.2.1⟩ hM ⟨hcw, hv.1, hF.2.2.2.2.1 _ hv.2.1⟩ ⟨jBlind, fun U hU hW => ⟨rfl, by rw [hU], by rw [hU]; exact hP, jK.moved hW hF.2.2.2.2.2.1, hD, by rw [hU]; exact jO.moved hW hO⟩⟩ rfl (by rw [List.length_map]; exact hn) hsz ?_ (lv_room (jSum hs)) hd hr3⟩
  show (As.reverse ++ Value.ref b :: st).map (jV sb ad) = _
  rw [List.map_append, List.map_reverse]; rfl
theorem J_callS {idx n : Nat} {As : List Value} (hok : jok M') (hv : jstat M') (hl : Cond.methodLink M.2.1.cls idx M'.2.1 ∈ jG) (hcl : M'.2.1.cls = M.2.1.cls) (hpn : (parseMethodDescriptor M'.2.1.desc).map (fun d => d.parameters.length) = some n) (hn : As.length = n) (hs : (st.map fun v => v.category).sum ≤ 8)
    (hwf : kc' = 0 ∨ jwF h.length lv st = true) (hd' : d' + 1 ≤ d) (hd : decode M.2.2.1 pc = .ok (.invokestatic idx, 3)) (hc : jCt M' d' kc' ks' As h Q')
    (k : ∀ r h', Q' r h' → h.length ≤ h'.length → J M on L xs d kc ks (pc + 3) lv (r.toList ++ st) h' Q) : J M on L xs d (kc' + kc) (ks' + ks) pc lv (As.reverse ++ st) h Q := by
  refine J_run (As := As) hwf hc hd' hok.2.2.2.2.2 ?_ k
  intro p l e R s m args below meth c D dA sb ad H locs cells slots ls hF hM hP hD hO hsz hr1 hr2 hr3
  have hT : GoodIn jG (wsS M.2.1.cls idx M'.2.1 (jWords M')) := fun w hw => by
    rcases List.mem_append.mp hw with hw | hw
    · simp only [List.mem_cons, List.not_mem_nil, or_false] at hw
      rcases hw with rfl | rfl | rfl
      · exact jG_good _ hl
      · exact jG_good _ hv
      · rw [← hcl]; exact jG_good _ hok.2.2.1
    · exact jGoodWs hok w hw
  have hcw := cwS (R := R) (rm := jRoom d' kc' ks') (mc := kc') (ms := ks') (maxL := M'.2.2.2.1) (bytes := M'.2.2.1) (ret := M'.2.2.2.2.1) n hF.2.2.2.2.1 hT rfl rfl rfl ⟨hcl, hok.2.2.2.2.1.1, hok.2.2.2.2.1.2, hpn⟩ ⟨hr1, hr2⟩
  refine ⟨_, va_runS (As := As.map (jV sb ad)) (rest := st.map (jV sb ad)) ⟨hF.1, hF.2.1, hF.2.2.1, hF.2.2.2.1, hF.2.2.2.2.1⟩ hM hcw ⟨jBlind, fun U hU hW => ⟨rfl, by rw [hU], by rw [hU]; exact hP, jK.moved hW hF.2.2.2.2.2.1, hD, by rw [hU]; exact jO.moved hW hO⟩⟩ rfl (by rw [List.length_map]; exact hn) hsz ?_ (lv_room (jSum hs)) hd hr3⟩
  show (As.reverse ++ st).map (jV sb ad) = _
  rw [List.map_append, List.map_reverse]
end JCALLS
end
-- 04b.frame.lean.txt
section
/-! THE FRAME RULE: a call on an object whose cells are a stretch of the heap -/
def jShV (n : Nat) (v : Value) : Value := match v with
  | .ref k => .ref (k + n)
  | v => v
def jSh (n : Nat) (e : jEt) : jEt := match e with
  | .inl (t, .inr (.inr rs)) => .inl (t, .inr (.inr (rs.map (fun r => r.map (fun k => k + n)))))
  | .inl x => .inl x
  | .inr (ci, fs) => .inr (ci, fs.map (jShV n))
def jnr (v : Value) : Bool := match v with
  | .ref _ => false
  | _ => true
theorem jV_sh {n : Nat} {sb : Nat → Nat} {ad : Nat → Nat} (v : Value) : jV sb ad (jShV n v) = jV sb (fun k => ad (k + n)) v := by
  cases v <;> rfl
theorem jV_nr {sb : Nat → Nat} {ad ad' : Nat → Nat} {v : Value} (h : jnr v = true) : jV sb ad v = jV sb ad' v := by
  cases v <;> first | rfl | cases h
theorem jE_sh {n : Nat} {sb : Nat → Nat} {dA ad : Nat → Nat} (e : jEt) : jE sb dA ad (jSh n e) = jE sb dA (fun k => ad (k + n)) e := by
  match e with
  | .inl (t, .inl xs) => rfl
  | .inl (t, .inr (.inl xs)) => rfl
  | .inl (t, .inr (.inr rs)) =>
    show (Sum.inl (dA t, (rs.map (fun r => r.map (fun k => k + n))).length, _) : va_E) = Sum.inl (dA t, rs.length, _)
    rw [List.length_map]
    refine congrArg (fun z => (Sum.inl (dA t, rs.length, Sum.inr (Sum.inr (Sum.inr (Sum.inr z)))) : va_E)) (funext fun j => ?_)
    rw [List.getD_eq_getElem?_getD, List.getD_eq_getElem?_getD, List.getElem?_map]
    cases rs[j]? with
    | none => rfl
    | some r => cases r <;> rfl
  | .inr (ci, fs) =>
    show (Sum.inr (ci, (fs.map (jShV n)).map (jV sb ad)) : va_E) = Sum.inr (ci, fs.map (jV sb (fun k => ad (k + n))))
    rw [List.map_map]
    congr 2
    exact List.map_congr_left fun v _ => jV_sh v
/-- the middle stretch of a world -/
theorem jMid {sb : Nat → Nat} {dA ad : Nat → Nat} {h1 h2 h3 : jH} {k : Nat} {q : Nat × va_E} (hk : (jWs sb dA (fun k => ad (k + h1.length)) h2)[k]? = some q) : (jWs sb dA ad (h1 ++ (h2.map (jSh h1.length) ++ h3)))[k + h1.length]? = some q := by
  rw [jWs_at] at hk ⊢
  cases he : h2[k]? with
  | none => rw [he] at hk; cases hk
  | some e =>
    rw [he] at hk
    have hl : k < h2.length := (List.getElem?_eq_some_iff.mp he).1
    rw [List.getElem?_append_right (by omega), List.getElem?_append_left (by rw [List.length_map]; omega), List.getElem?_map, show k + h1.length - h1.length = k by omega, he]
    rw [← hk]
    show some (ad (k + h1.length), jE sb dA ad (jSh h1.length e)) = some (ad (k + h1.length), _)
    rw [jE_sh]
theorem jD_addr {A : Nat → Prop} {sb : Nat → Nat} {dA ad : Nat → Nat} {h h' : jH} (hl : h'.length = h.length) (hD : va_D A (jWs sb dA ad h)) : va_D A (jWs sb dA ad h') := by
  have key : ∀ {k : Nat} {q : Nat × va_E}, (jWs sb dA ad h')[k]? = some q → q.1 = ad k ∧ ∃ e, (jWs sb dA ad h)[k]? = some (ad k, e) := by
    intro k q hq
    have hlt : k < h'.length := by
      have := (List.getElem?_eq_some_iff.mp hq).1
      simpa [jWs] using this
    rw [jWs_at] at hq
    cases he : h'[k]? with
    | none => rw [he] at hq; cases hq
    | some e =>
      rw [he] at hq
      cases hq
      exact ⟨rfl, _, jWs_get (List.getElem?_eq_getElem (by omega))⟩
  refine ⟨fun i j p q hi hj hpq => ?_, fun k q hk => ?_⟩
  · obtain ⟨a1, e1, b1⟩ := key hi
    obtain ⟨a2, e2, b2⟩ := key hj
    exact hD.1 i j _ _ b1 b2 (by rw [← a1, ← a2]; exact hpq)
  · obtain ⟨a1, e1, b1⟩ := key hk
    rw [a1]
    exact hD.2 k _ b1
theorem jOut {h1 m m' h3 : jH} {k : Nat} (hl : m'.length = m.length) (hk : ¬ (h1.length ≤ k ∧ k < h1.length + m.length)) : (h1 ++ (m' ++ h3))[k]? = (h1 ++ (m ++ h3))[k]? := by
  by_cases hlo : k < h1.length
  · rw [List.getElem?_append_left hlo, List.getElem?_append_left hlo]
  · have a : ∀ x : jH, x.length = m.length → (h1 ++ (x ++ h3))[k]? = h3[k - h1.length - m.length]? := fun x hx => by
      rw [List.getElem?_append_right (by omega), List.getElem?_append_right (by omega), hx]
    rw [a m' hl, a m rfl]
section JFRAME
variable {M M' : jM} {on : Bool} {L : Nat} {xs : Nat → Int32} {d d' kc ks pc : Nat} {lv : List (Nat × Value)} {st : List Value} {h1 h2 h3 : jH} {Q Q' : Option Value → jH → Prop}
theorem J_callVF {idx n b ci : Nat} {fs As : List Value} {q : vw_C} (hok : jok M') (hv : jvirt M') (hl : Cond.methodLink M.2.1.cls idx M'.2.1 ∈ jG) (hpn : (parseMethodDescriptor M'.2.1.desc).map (fun d => d.parameters.length) = some n) (hn : As.length = n) (hb : h2[b]? = some (.inr (ci, fs))) (hq : vwCl[ci]? = some q) (hqc : q.1 = M'.2.1.cls) (hs : (st.map fun v => v.category).sum ≤ 8)
    (hd' : d' + 1 ≤ d) (hd : decode M.2.2.1 pc = .ok (.invokevirtual idx, 3)) (hAs : As.all jnr = true) (hc : jCt M' d' 0 0 (.ref b :: As) h2 Q') (hQ : ∀ r h', Q' r h' → h'.length = h2.length ∧ r.toList.all jnr = true)
    (k : ∀ r h', Q' r h' → J M on L xs d kc ks (pc + 3) lv (r.toList ++ st) (h1 ++ (h'.map (jSh h1.length) ++ h3)) Q) : J M on L xs d kc ks pc lv (As.reverse ++ .ref (b + h1.length) :: st) (h1 ++ (h2.map (jSh h1.length) ++ h3)) Q := by
  intro p l e R s m args below meth c D dA sb A H0 n0 ad0 CB SB QQ hF hX hA hR hT ad H locs cells slots ls hw hls h4 h5
  obtain ⟨w1, w2, w3, w4, w5, w6⟩ := hw
  have hmul : (d' + 1) * jK0 ≤ d * jK0 := Nat.mul_le_mul_right _ hd'
  have hj : (d' + 1) * jK0 = d' * jK0 + 40 := by rw [Nat.add_mul]; rfl
  have hml := hok.2.2.2.2.2
  have hPm : va_P D vwCl (jWs sb dA (fun k => ad (k + h1.length)) h2) H := fun k q hk => w1 _ q (jMid hk)
  have hDm : va_D A (jWs sb dA (fun k => ad (k + h1.length)) h2) := ⟨fun i j p q hi hj hpq => by
      have := w2.1 _ _ p q (jMid (h3 := h3) hi) (jMid (h3 := h3) hj) hpq
      omega, fun k q hk => w2.2 _ q (jMid hk)⟩
  have hTg : GoodIn jG (wsV M.2.1.cls idx M'.2.1.cls M'.2.1 (jWords M')) := fun w hw => by
    rcases List.mem_append.mp hw with hw | hw
    · simp only [List.mem_cons, List.not_mem_nil, or_false] at hw
      rcases hw with rfl | rfl | rfl | rfl
      · exact jG_good _ hl
      · exact jG_good _ hv.1
      · exact jG_good _ hv.2
      · exact jG_good _ hok.2.2.1
    · exact jGoodWs hok w hw
  have hcw := cwV (R := R) (rm := jRoom d' 0 0) (mc := 0) (ms := 0) (maxL := M'.2.2.2.1) (bytes := M'.2.2.1) (ret := M'.2.2.2.2.1) n hF.2.2.2.2.1 hTg rfl rfl rfl ⟨rfl, hok.2.2.2.2.1.1, hok.2.2.2.2.1.2, hpn⟩ ⟨Nat.le_trans hd' hR.1, by show 8 + (M'.2.2.2.1 + 11) + d' * jK0 ≤ R.locals; have := hR.2.1; omega⟩
  have hrv := va_recv (q0 := b) hF.2.2.2.2.2.1.1 hPm hq (jWs_get hb)
  rw [hqc] at hrv
  have hA1 : ∀ q, va_A (jWs sb dA (fun k => ad (k + h1.length)) h2) H.size q → A q := fun q hq => by
    rcases hq with ⟨k, e, hk⟩ | hq
    · exact hDm.2 k (q, e) hk
    · exact hA q (Nat.le_trans w3.1 hq)
  have hrun := va_runV (l := l) (e := e) (below := below) (meth := meth) (locs := locs) (cells := cells) (slots := slots) (As := As.map (jV sb (fun k => ad (k + h1.length)))) (rest := st.map (jV sb ad)) (b := ad (b + h1.length)) (g := F0 m pc ls ((As.reverse ++ .ref (b + h1.length) :: st).map (jV sb ad))) ⟨hF.1, hF.2.1, hF.2.2.1, hF.2.2.2.1, hF.2.2.2.2.1⟩ (hc l D dA sb (fun k => ad (k + h1.length)) H.size) hcw ⟨jBlind, hrv, fun U hU hW => ⟨rfl, by rw [hU], by rw [hU]; exact hPm, jK.moved hW hF.2.2.2.2.2.1, hDm.weaken (fun _ _ _ _ => trivial), by rw [hU]; exact jO.moved hW ((hX.2.1.kept w3.2.1).narrow hA1)⟩⟩ rfl (by rw [List.length_map]; exact hn) hls.1 (by
      show (As.reverse ++ Value.ref (b + h1.length) :: st).map (jV sb ad) = _
      rw [List.map_append, List.map_reverse]
      have : As.map (jV sb ad) = As.map (jV sb (fun k => ad (k + h1.length))) := List.map_congr_left fun v hm => jV_nr (List.all_eq_true.mp hAs v hm)
      rw [this]; rfl) (lv_room (jSum hs)) hd ⟨by have := hR.2.2.1; omega, by have := hR.2.2.2; omega⟩
  intro T hT1 X
  obtain ⟨v, st₀, t, T', LL, h0, X', hL, e1, e2, ⟨⟨r, h', ad', hv, hq', hlen, hag, hz0, hP', hD'⟩, hz, hk⟩, hst⟩ := hrun T hT1 X
  cases hv
  cases hz0 rfl
  rw [h0] at hz hk
  obtain ⟨hl2, hrn⟩ := hQ r h' hq'
  have hS' : va_S A H0 T'.heap (locs ++ LL) := ⟨Nat.le_trans w3.1 (by rw [e1]; exact hz), fun q h1 h2 => by
      rw [e1, hk q (Nat.lt_of_lt_of_le h1 w3.1) (fun z => h2 (hA1 q z))]
      exact w3.2.1 q h1 h2, fun q hq => by
      rcases List.mem_append.mp hq with h | h
      · exact w3.2.2 q h
      · exact hA1 _ (hL q h)⟩
  have hll : (h1 ++ (h'.map (jSh h1.length) ++ h3)).length = (h1 ++ (h2.map (jSh h1.length) ++ h3)).length := by simp [hl2]
  have hP2 : va_P D vwCl (jWs sb dA ad (h1 ++ (h'.map (jSh h1.length) ++ h3))) t.heap := by
    intro k q hq
    have hklt : k < (h1 ++ (h'.map (jSh h1.length) ++ h3)).length := by
      have := (List.getElem?_eq_some_iff.mp hq).1
      simpa [jWs] using this
    by_cases hin : h1.length ≤ k ∧ k < h1.length + h2.length
    · have hj : (jWs sb dA (fun k => ad (k + h1.length)) h')[k - h1.length]? = some q := by
        cases he : (jWs sb dA (fun k => ad (k + h1.length)) h')[k - h1.length]? with
        | none =>
          have := List.getElem?_eq_none_iff.mp he
          simp only [jWs, List.length_mapIdx] at this
          omega
        | some q2 =>
          have := jMid (h1 := h1) (h3 := h3) he
          rw [show k - h1.length + h1.length = k by omega, hq] at this
          exact this.symm ▸ rfl
      exact hP' _ q hj
    · have hold : (jWs sb dA ad (h1 ++ (h2.map (jSh h1.length) ++ h3)))[k]? = some q := by
        rw [← hq, jWs_at, jWs_at]
        congr 1
        exact (jOut (by rw [List.length_map, List.length_map, hl2]) (by rw [List.length_map]; exact hin)).symm
      have hat := w1 k q hold
      refine hat.kept (hk q.1 hat.lt ?_)
      rintro (⟨j, e', hj⟩ | hj)
      · have hjl : j < h2.length := by
          have := (List.getElem?_eq_some_iff.mp hj).1
          simpa [jWs] using this
        have := w2.1 k (j + h1.length) q (q.1, e') hold (jMid (h3 := h3) hj) rfl
        omega
      · have := hat.lt
        omega
  have hk2 := k r h' hq' p l e R s m args below meth c D dA sb A H0 n0 ad0 CB SB QQ hF hX hA hR hT ad T'.heap (locs ++ LL) (cells + 0) (slots + 0) ls
    ⟨by rw [e1]; exact hP2, jD_addr hll w2, hS', by rw [hll]; exact w4, w5, w6⟩ hls (by omega) (by omega)
  rw [List.map_append] at hk2
  obtain ⟨t2, a1, b1⟩ := hk2 T' rfl X'
  refine ⟨t2, hst t2 ?_, b1⟩
  have hre : r.toList.map (jV sb (fun k => ad (k + h1.length))) = r.toList.map (jV sb ad) := List.map_congr_left fun v hm => jV_nr (List.all_eq_true.mp hrn v hm)
  cases r with
  | none => exact a1
  | some v =>
    have hvv : jV sb (fun k => ad (k + h1.length)) v = jV sb ad v := by
      have h9 := hre
      simp only [Option.toList_some, List.map_cons, List.map_nil, List.cons.injEq, and_true] at h9
      exact h9
    show Steps _ _ _ (_ : State) t2
    simp only [Option.map_some, Option.toList_some]
    rw [hvv]
    exact a1
end JFRAME
end
