/-! WHAT LIES OUTSIDE THE HEAP: ABOVE (the 1st), the text constants of the class's Text (from the 2nd on) -/
def oxB : List (List Int32) := [[59], [116, 97, 107, 101, 32], [32], [100, 117, 101, 32], [99, 111, 115, 116, 32], [102, 101, 97, 115, 116, 32], [41]]
def oxL : List Nat := [1, 5, 1, 4, 5, 6, 1]
def oxA : List Int32 := [-1, 0, 0, 0, 1, 2, 3]
def oxR (sb : Nat → Nat) (s : State) : Prop := vk_R RX4 35 ";" (sb 2) s ∧ vk_R RX4 53 "take " (sb 3) s ∧ vk_R RX4 58 " " (sb 4) s ∧ vk_R RX4 68 "due " (sb 5) s ∧ vk_R RX4 73 "cost " (sb 6) s ∧ vk_R RX4 78 "feast " (sb 7) s ∧ vk_R RX4 100 ")" (sb 8) s
/-- what is known of them, where nothing outside A has changed -/
def jO (sb : Nat → Nat) (A : Nat → Prop) (s : State) (H : Heap) : Prop :=
  va_Z RX6 "ABOVE" "[I" (.ref (sb 1)) A s H ∧ va_T .int (sb 1) 7 (fun j => .int (oxA.getD j 0)) A s H ∧ va_Z "java/lang/String" "COMPACT_STRINGS" "Z" (.int 1) A s H ∧ oxR sb s ∧ vk_S 7 oxL oxB (fun i => sb (i + 2)) (fun i => sb (i + 20)) A s H ∧ (va_Z "jdk/internal/util/Preconditions" "SIOOBE_FORMATTER" "Ljava/util/function/BiFunction;" .null A s H ∨ va_Z "jdk/internal/util/Preconditions" "SIOOBE_FORMATTER" "Ljava/util/function/BiFunction;" (.ref (sb 50)) A s H)
theorem jO.moved {sb : Nat → Nat} {A : Nat → Prop} {u U : State} {H : Heap} (hW : u.WarmedH U.vm) (h : jO sb A u H) : jO sb A U H := by
  obtain ⟨h1, h2, h3, ⟨r0, r1, r2, r3, r4, r5, r6⟩, h5, h6⟩ := h
  exact ⟨h1.moved hW.alike, h2.moved hW.alike, h3.moved hW.alike, ⟨r0.warm hW, r1.warm hW, r2.warm hW, r3.warm hW, r4.warm hW, r5.warm hW, r6.warm hW⟩, h5.moved hW.alike, h6.imp (fun q => q.moved hW.alike) (fun q => q.moved hW.alike)⟩
theorem jO.same {sb : Nat → Nat} {A : Nat → Prop} {u U : State} {H : Heap} (hvm : u.vm = U.vm) (h : jO sb A u H) : jO sb A U H := by
  have ha : u.vm.Alike U.vm := by rw [hvm]; exact Vm.Alike.refl U.vm
  obtain ⟨h1, h2, h3, ⟨r0, r1, r2, r3, r4, r5, r6⟩, h5, h6⟩ := h
  exact ⟨h1.moved ha, h2.moved ha, h3.moved ha, ⟨r0.same hvm.symm, r1.same hvm.symm, r2.same hvm.symm, r3.same hvm.symm, r4.same hvm.symm, r5.same hvm.symm, r6.same hvm.symm⟩, h5.moved ha, h6.imp (fun q => q.moved ha) (fun q => q.moved ha)⟩
theorem jO.kept {sb : Nat → Nat} {A : Nat → Prop} {U : State} {H H1 : Heap} (h : jO sb A U H) (hq : ∀ a : Nat, a < H.size → ¬ A a → H1[a]? = H[a]?) : jO sb A U H1 := by
  obtain ⟨h1, h2, h3, h4, h5, h6⟩ := h
  exact ⟨h1.kept hq, h2.kept hq, h3.kept hq, h4, h5.kept hq, h6.imp (fun q => q.kept hq) (fun q => q.kept hq)⟩
theorem jO.narrow {sb : Nat → Nat} {A B : Nat → Prop} {U : State} {H : Heap} (h : jO sb A U H) (hAB : ∀ q, B q → A q) : jO sb B U H := by
  obtain ⟨h1, h2, h3, h4, h5, h6⟩ := h
  exact ⟨h1.narrow hAB, h2.narrow hAB, h3.narrow hAB, h4, h5.narrow hAB, h6.imp (fun q => q.narrow hAB) (fun q => q.narrow hAB)⟩
