/-! DECODING by a number that holds the bytes (by program: wip/gen/emit3.py) -/
def bT (B p : Nat) : Nat := Nat.land (Nat.shiftRight B (Nat.mul 8 p)) 255
def jB (b : ByteArray) (p k : Nat) : Prop := ∃ h : p < b.size, (b[p]'h).toNat = k
theorem jB_all {b : ByteArray} {B N : Nat} (h : decide (b.data.toList.map UInt8.toNat = (List.range N).map (bT B)) = true) : ∀ p, p < N → jB b p (bT B p) := by
  have e := of_decide_eq_true h
  have hl : b.size = N := by
    have := congrArg List.length e
    rw [List.length_map, List.length_map, List.length_range] at this
    exact this
  intro p hp
  have hp2 : p < b.size := by omega
  have h1 : (b.data.toList.map UInt8.toNat)[p]? = some ((b[p]'hp2).toNat) := by
    rw [List.getElem?_map, List.getElem?_eq_getElem (show p < b.data.toList.length from hp2)]; rfl
  have h2 : ((List.range N).map (bT B))[p]? = some (bT B p) := by
    rw [List.getElem?_map, List.getElem?_range hp]; rfl
  rw [e, h2] at h1
  exact ⟨hp2, (Option.some.inj h1).symm⟩
abbrev dD : Type → Type := Jvm.ClassFile.Decoder
theorem jB_u1 {b : ByteArray} {p k : Nat} (h : jB b p k) : (Jvm.ClassFile.Reader.u1 : dD Nat) b p = .ok (k, p + 1) := by
  obtain ⟨h1, h2⟩ := h
  unfold Jvm.ClassFile.Reader.u1
  show (dite (p < b.size) _ _ : dD Nat) b p = _
  rw [dif_pos h1, ← h2]
  rfl
theorem jB_u2 {b : ByteArray} {p k j : Nat} (h : jB b p k) (g : jB b (p + 1) j) : (Jvm.ClassFile.Reader.u2 : dD Nat) b p = .ok (k * 256 + j, p + 2) := by
  show Except.bind ((Jvm.ClassFile.Reader.u1 : dD Nat) b p) (fun q => Except.bind ((Jvm.ClassFile.Reader.u1 : dD Nat) b q.2) (fun r => Except.ok (q.1 * 256 + r.1, r.2))) = _
  rw [jB_u1 h]
  show Except.bind ((Jvm.ClassFile.Reader.u1 : dD Nat) b (p + 1)) _ = _
  rw [jB_u1 g]; rfl
theorem jB_s1 {b : ByteArray} {p k : Nat} (h : jB b p k) : (Jvm.ClassFile.Reader.s1 : dD Int) b p = .ok (Jvm.ClassFile.Reader.signed 8 k, p + 1) := by
  show Except.bind ((Jvm.ClassFile.Reader.u1 : dD Nat) b p) (fun q => Except.ok (Jvm.ClassFile.Reader.signed 8 q.1, q.2)) = _
  rw [jB_u1 h]; rfl
theorem jB_s2 {b : ByteArray} {p k j : Nat} (h : jB b p k) (g : jB b (p + 1) j) : (Jvm.ClassFile.Reader.s2 : dD Int) b p = .ok (Jvm.ClassFile.Reader.signed 16 (k * 256 + j), p + 2) := by
  show Except.bind ((Jvm.ClassFile.Reader.u2 : dD Nat) b p) (fun q => Except.ok (Jvm.ClassFile.Reader.signed 16 q.1, q.2)) = _
  rw [jB_u2 h g]; rfl
theorem dc_of {f : Nat → Nat → dD Instr} (hf : ∀ pc, Jvm.ClassFile.Decoder.instr pc = (Jvm.ClassFile.Reader.u1 >>= f pc)) {b : ByteArray} {pc k n : Nat} {i : Instr} (hB : jB b pc k) (hk : f pc k b (pc + 1) = .ok (i, pc + n)) : decode b pc = .ok (i, n) := by
  show Except.bind ((Jvm.ClassFile.Decoder.instr pc) b pc) (fun q => Except.ok (q.1, q.2 - pc)) = _
  rw [hf]
  show Except.bind (Except.bind ((Jvm.ClassFile.Reader.u1 : dD Nat) b pc) (fun q => f pc q.1 b q.2)) (fun q => Except.ok (q.1, q.2 - pc)) = _
  rw [jB_u1 hB]
  show Except.bind (f pc k b (pc + 1)) (fun q => Except.ok (q.1, q.2 - pc)) = _
  rw [hk]
  show Except.ok (i, pc + n - pc) = _
  rw [Nat.add_sub_cancel_left]
section SH
variable {f : Nat → Nat → dD Instr} {b : ByteArray} {pc k x y : Nat}
theorem sh_0 (hf : ∀ pc, Jvm.ClassFile.Decoder.instr pc = (Jvm.ClassFile.Reader.u1 >>= f pc)) {i : Instr} (hk : f pc k = Pure.pure i) (hB : jB b pc k) : decode b pc = .ok (i, 1) := dc_of hf hB (by rw [hk]; rfl)
theorem sh_1 (hf : ∀ pc, Jvm.ClassFile.Decoder.instr pc = (Jvm.ClassFile.Reader.u1 >>= f pc)) {C : Nat → Instr} (hk : f pc k = (Jvm.ClassFile.Reader.u1 >>= fun x => Pure.pure (C x))) (hB : jB b pc k) (h1 : jB b (pc + 1) x) : decode b pc = .ok (C x, 2) := dc_of hf hB (by
  rw [hk]
  show Except.bind ((Jvm.ClassFile.Reader.u1 : dD Nat) b (pc + 1)) (fun q => Except.ok (C q.1, q.2)) = _
  rw [jB_u1 h1]; rfl)
theorem sh_2 (hf : ∀ pc, Jvm.ClassFile.Decoder.instr pc = (Jvm.ClassFile.Reader.u1 >>= f pc)) {C : Nat → Instr} (hk : f pc k = (Jvm.ClassFile.Reader.u2 >>= fun x => Pure.pure (C x))) (hB : jB b pc k) (h1 : jB b (pc + 1) x) (h2 : jB b (pc + 2) y) : decode b pc = .ok (C (x * 256 + y), 3) := dc_of hf hB (by
  rw [hk]
  show Except.bind ((Jvm.ClassFile.Reader.u2 : dD Nat) b (pc + 1)) (fun q => Except.ok (C q.1, q.2)) = _
  rw [jB_u2 h1 h2]; rfl)
theorem sh_s1 (hf : ∀ pc, Jvm.ClassFile.Decoder.instr pc = (Jvm.ClassFile.Reader.u1 >>= f pc)) {C : Int → Instr} (hk : f pc k = (Jvm.ClassFile.Reader.s1 >>= fun x => Pure.pure (C x))) (hB : jB b pc k) (h1 : jB b (pc + 1) x) : decode b pc = .ok (C (Jvm.ClassFile.Reader.signed 8 x), 2) := dc_of hf hB (by
  rw [hk]
  show Except.bind ((Jvm.ClassFile.Reader.s1 : dD Int) b (pc + 1)) (fun q => Except.ok (C q.1, q.2)) = _
  rw [jB_s1 h1]; rfl)
theorem sh_s2 (hf : ∀ pc, Jvm.ClassFile.Decoder.instr pc = (Jvm.ClassFile.Reader.u1 >>= f pc)) {C : Int → Instr} (hk : f pc k = (Jvm.ClassFile.Reader.s2 >>= fun x => Pure.pure (C x))) (hB : jB b pc k) (h1 : jB b (pc + 1) x) (h2 : jB b (pc + 2) y) : decode b pc = .ok (C (Jvm.ClassFile.Reader.signed 16 (x * 256 + y)), 3) := dc_of hf hB (by
  rw [hk]
  show Except.bind ((Jvm.ClassFile.Reader.s2 : dD Int) b (pc + 1)) (fun q => Except.ok (C q.1, q.2)) = _
  rw [jB_s2 h1 h2]; rfl)
theorem sh_ii (hf : ∀ pc, Jvm.ClassFile.Decoder.instr pc = (Jvm.ClassFile.Reader.u1 >>= f pc)) (hk : f pc k = (Jvm.ClassFile.Reader.u1 >>= fun x => Jvm.ClassFile.Reader.s1 >>= fun y => Pure.pure (Instr.iinc x y))) (hB : jB b pc k) (h1 : jB b (pc + 1) x) (h2 : jB b (pc + 2) y) : decode b pc = .ok (Instr.iinc x (Jvm.ClassFile.Reader.signed 8 y), 3) := dc_of hf hB (by
  rw [hk]
  show Except.bind ((Jvm.ClassFile.Reader.u1 : dD Nat) b (pc + 1)) (fun q => Except.bind ((Jvm.ClassFile.Reader.s1 : dD Int) b q.2) (fun r => Except.ok (Instr.iinc q.1 r.1, r.2))) = _
  rw [jB_u1 h1]
  show Except.bind ((Jvm.ClassFile.Reader.s1 : dD Int) b (pc + 2)) _ = _
  rw [jB_s1 h2]; rfl)
end SH
set_option maxRecDepth 100000 in
theorem dc_tail : ∃ f : Nat → Nat → dD Instr, (∀ pc, Jvm.ClassFile.Decoder.instr pc = (Jvm.ClassFile.Reader.u1 >>= f pc)) ∧ (∀ pc, f pc 42 = (Pure.pure (Instr.aload_n 0))) ∧ (∀ pc, f pc 180 = (Jvm.ClassFile.Reader.u2 >>= fun x => Pure.pure (Instr.getfield x))) ∧ (∀ pc, f pc 27 = (Pure.pure (Instr.iload_n 1))) ∧ (∀ pc, f pc 182 = (Jvm.ClassFile.Reader.u2 >>= fun x => Pure.pure (Instr.invokevirtual x))) ∧ (∀ pc, f pc 16 = (Jvm.ClassFile.Reader.s1 >>= fun x => Pure.pure (Instr.bipush x))) ∧ (∀ pc, f pc 172 = (Pure.pure (Instr.ireturn))) ∧ (∀ pc, f pc 29 = (Pure.pure (Instr.iload_n 3))) ∧ (∀ pc, f pc 46 = (Pure.pure (Instr.iaload))) ∧ (∀ pc, f pc 3 = (Pure.pure (Instr.iconst 0))) ∧ (∀ pc, f pc 28 = (Pure.pure (Instr.iload_n 2))) ∧ (∀ pc, f pc 167 = (Jvm.ClassFile.Reader.s2 >>= fun x => Pure.pure (Instr.goto x))) ∧ (∀ pc, f pc 96 = (Pure.pure (Instr.iadd))) ∧ (∀ pc, f pc 4 = (Pure.pure (Instr.iconst 1))) ∧ (∀ pc, f pc 181 = (Jvm.ClassFile.Reader.u2 >>= fun x => Pure.pure (Instr.putfield x))) ∧ (∀ pc, f pc 21 = (Jvm.ClassFile.Reader.u1 >>= fun x => Pure.pure (Instr.iload x))) ∧ (∀ pc, f pc 79 = (Pure.pure (Instr.iastore))) ∧ (∀ pc, f pc 162 = (Jvm.ClassFile.Reader.s2 >>= fun x => Pure.pure (Instr.if_icmp .ge x))) ∧ (∀ pc, f pc 154 = (Jvm.ClassFile.Reader.s2 >>= fun x => Pure.pure (Instr.ifCond .ne x))) ∧ (∀ pc, f pc 43 = (Pure.pure (Instr.aload_n 1))) ∧ (∀ pc, f pc 153 = (Jvm.ClassFile.Reader.s2 >>= fun x => Pure.pure (Instr.ifCond .eq x))) ∧ (∀ pc, f pc 132 = (Jvm.ClassFile.Reader.u1 >>= fun x => Jvm.ClassFile.Reader.s1 >>= fun y => Pure.pure (Instr.iinc x y))) ∧ (∀ pc, f pc 54 = (Jvm.ClassFile.Reader.u1 >>= fun x => Pure.pure (Instr.istore x))) ∧ (∀ pc, f pc 89 = (Pure.pure (Instr.dup))) ∧ (∀ pc, f pc 87 = (Pure.pure (Instr.pop))) ∧ (∀ pc, f pc 100 = (Pure.pure (Instr.isub))) ∧ (∀ pc, f pc 61 = (Pure.pure (Instr.istore_n 2))) ∧ (∀ pc, f pc 160 = (Jvm.ClassFile.Reader.s2 >>= fun x => Pure.pure (Instr.if_icmp .ne x))) ∧ (∀ pc, f pc 62 = (Pure.pure (Instr.istore_n 3))) ∧ (∀ pc, f pc 5 = (Pure.pure (Instr.iconst 2))) ∧ (∀ pc, f pc 2 = (Pure.pure (Instr.iconst (-1)))) ∧ (∀ pc, f pc 159 = (Jvm.ClassFile.Reader.s2 >>= fun x => Pure.pure (Instr.if_icmp .eq x))) ∧ (∀ pc, f pc 177 = (Pure.pure (Instr.return_))) ∧ (∀ pc, f pc 60 = (Pure.pure (Instr.istore_n 1))) ∧ (∀ pc, f pc 44 = (Pure.pure (Instr.aload_n 2))) ∧ (∀ pc, f pc 6 = (Pure.pure (Instr.iconst 3))) ∧ (∀ pc, f pc 51 = (Pure.pure (Instr.baload))) ∧ (∀ pc, f pc 155 = (Jvm.ClassFile.Reader.s2 >>= fun x => Pure.pure (Instr.ifCond .lt x))) ∧ (∀ pc, f pc 104 = (Pure.pure (Instr.imul))) ∧ (∀ pc, f pc 7 = (Pure.pure (Instr.iconst 4))) ∧ (∀ pc, f pc 112 = (Pure.pure (Instr.irem))) ∧ (∀ pc, f pc 161 = (Jvm.ClassFile.Reader.s2 >>= fun x => Pure.pure (Instr.if_icmp .lt x))) ∧ (∀ pc, f pc 184 = (Jvm.ClassFile.Reader.u2 >>= fun x => Pure.pure (Instr.invokestatic x))) ∧ (∀ pc, f pc 164 = (Jvm.ClassFile.Reader.s2 >>= fun x => Pure.pure (Instr.if_icmp .le x))) ∧ (∀ pc, f pc 183 = (Jvm.ClassFile.Reader.u2 >>= fun x => Pure.pure (Instr.invokespecial x))) ∧ (∀ pc, f pc 173 = (Pure.pure (Instr.lreturn))) ∧ (∀ pc, f pc 18 = (Jvm.ClassFile.Reader.u1 >>= fun x => Pure.pure (Instr.ldc x))) ∧ (∀ pc, f pc 17 = (Jvm.ClassFile.Reader.s2 >>= fun x => Pure.pure (Instr.sipush x))) ∧ (∀ pc, f pc 156 = (Jvm.ClassFile.Reader.s2 >>= fun x => Pure.pure (Instr.ifCond .ge x))) ∧ (∀ pc, f pc 133 = (Pure.pure (Instr.i2l))) ∧ (∀ pc, f pc 84 = (Pure.pure (Instr.bastore))) ∧ (∀ pc, f pc 25 = (Jvm.ClassFile.Reader.u1 >>= fun x => Pure.pure (Instr.aload x))) ∧ (∀ pc, f pc 45 = (Pure.pure (Instr.aload_n 3))) ∧ (∀ pc, f pc 26 = (Pure.pure (Instr.iload_n 0))) ∧ (∀ pc, f pc 19 = (Jvm.ClassFile.Reader.u2 >>= fun x => Pure.pure (Instr.ldc_w x))) ∧ (∀ pc, f pc 187 = (Jvm.ClassFile.Reader.u2 >>= fun x => Pure.pure (Instr.new x))) ∧ (∀ pc, f pc 108 = (Pure.pure (Instr.idiv))) ∧ (∀ pc, f pc 20 = (Jvm.ClassFile.Reader.u2 >>= fun x => Pure.pure (Instr.ldc2_w x))) ∧ (∀ pc, f pc 163 = (Jvm.ClassFile.Reader.s2 >>= fun x => Pure.pure (Instr.if_icmp .gt x))) ∧ (∀ pc, f pc 92 = (Pure.pure (Instr.dup2))) ∧ (∀ pc, f pc 128 = (Pure.pure (Instr.ior))) ∧ (∀ pc, f pc 50 = (Pure.pure (Instr.aaload))) ∧ (∀ pc, f pc 8 = (Pure.pure (Instr.iconst 5))) ∧ (∀ pc, f pc 120 = (Pure.pure (Instr.ishl))) ∧ (∀ pc, f pc 130 = (Pure.pure (Instr.ixor))) ∧ (∀ pc, f pc 158 = (Jvm.ClassFile.Reader.s2 >>= fun x => Pure.pure (Instr.ifCond .le x))) ∧ (∀ pc, f pc 9 = (Pure.pure (Instr.lconst 0))) ∧ (∀ pc, f pc 80 = (Pure.pure (Instr.lastore))) ∧ (∀ pc, f pc 136 = (Pure.pure (Instr.l2i))) ∧ (∀ pc, f pc 47 = (Pure.pure (Instr.laload))) ∧ (∀ pc, f pc 88 = (Pure.pure (Instr.pop2))) ∧ (∀ pc, f pc 116 = (Pure.pure (Instr.ineg))) ∧ (∀ pc, f pc 126 = (Pure.pure (Instr.iand))) ∧ (∀ pc, f pc 31 = (Pure.pure (Instr.lload_n 1))) ∧ (∀ pc, f pc 32 = (Pure.pure (Instr.lload_n 2))) ∧ (∀ pc, f pc 148 = (Pure.pure (Instr.lcmp))) ∧ (∀ pc, f pc 58 = (Jvm.ClassFile.Reader.u1 >>= fun x => Pure.pure (Instr.astore x))) ∧ (∀ pc, f pc 78 = (Pure.pure (Instr.astore_n 3))) ∧ (∀ pc, f pc 145 = (Pure.pure (Instr.i2b))) ∧ (∀ pc, f pc 76 = (Pure.pure (Instr.astore_n 1))) ∧ (∀ pc, f pc 124 = (Pure.pure (Instr.iushr))) ∧ (∀ pc, f pc 147 = (Pure.pure (Instr.i2s))) ∧ (∀ pc, f pc 10 = (Pure.pure (Instr.lconst 1))) ∧ (∀ pc, f pc 189 = (Jvm.ClassFile.Reader.u2 >>= fun x => Pure.pure (Instr.anewarray x))) ∧ (∀ pc, f pc 83 = (Pure.pure (Instr.aastore))) ∧ (∀ pc, f pc 33 = (Pure.pure (Instr.lload_n 3))) ∧ (∀ pc, f pc 121 = (Pure.pure (Instr.lshl))) ∧ (∀ pc, f pc 127 = (Pure.pure (Instr.land))) ∧ (∀ pc, f pc 129 = (Pure.pure (Instr.lor))) ∧ (∀ pc, f pc 178 = (Jvm.ClassFile.Reader.u2 >>= fun x => Pure.pure (Instr.getstatic x))) ∧ (∀ pc, f pc 157 = (Jvm.ClassFile.Reader.s2 >>= fun x => Pure.pure (Instr.ifCond .gt x))) ∧ (∀ pc, f pc 77 = (Pure.pure (Instr.astore_n 2))) ∧ (∀ pc, f pc 190 = (Pure.pure (Instr.arraylength))) := ⟨_, fun pc => rfl, fun pc => rfl, fun pc => rfl, fun pc => rfl, fun pc => rfl, fun pc => rfl, fun pc => rfl, fun pc => rfl, fun pc => rfl, fun pc => rfl, fun pc => rfl, fun pc => rfl, fun pc => rfl, fun pc => rfl, fun pc => rfl, fun pc => rfl, fun pc => rfl, fun pc => rfl, fun pc => rfl, fun pc => rfl, fun pc => rfl, fun pc => rfl, fun pc => rfl, fun pc => rfl, fun pc => rfl, fun pc => rfl, fun pc => rfl, fun pc => rfl, fun pc => rfl, fun pc => rfl, fun pc => rfl, fun pc => rfl, fun pc => rfl, fun pc => rfl, fun pc => rfl, fun pc => rfl, fun pc => rfl, fun pc => rfl, fun pc => rfl, fun pc => rfl, fun pc => rfl, fun pc => rfl, fun pc => rfl, fun pc => rfl, fun pc => rfl, fun pc => rfl, fun pc => rfl, fun pc => rfl, fun pc => rfl, fun pc => rfl, fun pc => rfl, fun pc => rfl, fun pc => rfl, fun pc => rfl, fun pc => rfl, fun pc => rfl, fun pc => rfl, fun pc => rfl, fun pc => rfl, fun pc => rfl, fun pc => rfl, fun pc => rfl, fun pc => rfl, fun pc => rfl, fun pc => rfl, fun pc => rfl, fun pc => rfl, fun pc => rfl, fun pc => rfl, fun pc => rfl, fun pc => rfl, fun pc => rfl, fun pc => rfl, fun pc => rfl, fun pc => rfl, fun pc => rfl, fun pc => rfl, fun pc => rfl, fun pc => rfl, fun pc => rfl, fun pc => rfl, fun pc => rfl, fun pc => rfl, fun pc => rfl, fun pc => rfl, fun pc => rfl, fun pc => rfl, fun pc => rfl, fun pc => rfl, fun pc => rfl, fun pc => rfl, fun pc => rfl, fun pc => rfl⟩
def decK (k N pc B : Nat) : Option (Instr × Nat) := cond (Nat.beq k 42) (some (.aload_n 0, 1)) (cond (Nat.beq k 180) (cond (Nat.ble (pc + 3) N) (some (.getfield (bT B (pc + 1) * 256 + bT B (pc + 2)), 3)) none) (cond (Nat.beq k 27) (some (.iload_n 1, 1)) (cond (Nat.beq k 182) (cond (Nat.ble (pc + 3) N) (some (.invokevirtual (bT B (pc + 1) * 256 + bT B (pc + 2)), 3)) none) (cond (Nat.beq k 16) (cond (Nat.ble (pc + 2) N) (some (.bipush (Jvm.ClassFile.Reader.signed 8 (bT B (pc + 1))), 2)) none) (cond (Nat.beq k 172) (some (.ireturn, 1)) (cond (Nat.beq k 29) (some (.iload_n 3, 1)) (cond (Nat.beq k 46) (some (.iaload, 1)) (cond (Nat.beq k 3) (some (.iconst 0, 1)) (cond (Nat.beq k 28) (some (.iload_n 2, 1)) (cond (Nat.beq k 167) (cond (Nat.ble (pc + 3) N) (some (.goto (Jvm.ClassFile.Reader.signed 16 (bT B (pc + 1) * 256 + bT B (pc + 2))), 3)) none) (cond (Nat.beq k 96) (some (.iadd, 1)) (cond (Nat.beq k 4) (some (.iconst 1, 1)) (cond (Nat.beq k 181) (cond (Nat.ble (pc + 3) N) (some (.putfield (bT B (pc + 1) * 256 + bT B (pc + 2)), 3)) none) (cond (Nat.beq k 21) (cond (Nat.ble (pc + 2) N) (some (.iload (bT B (pc + 1)), 2)) none) (cond (Nat.beq k 79) (some (.iastore, 1)) (cond (Nat.beq k 162) (cond (Nat.ble (pc + 3) N) (some (.if_icmp .ge (Jvm.ClassFile.Reader.signed 16 (bT B (pc + 1) * 256 + bT B (pc + 2))), 3)) none) (cond (Nat.beq k 154) (cond (Nat.ble (pc + 3) N) (some (.ifCond .ne (Jvm.ClassFile.Reader.signed 16 (bT B (pc + 1) * 256 + bT B (pc + 2))), 3)) none) (cond (Nat.beq k 43) (some (.aload_n 1, 1)) (cond (Nat.beq k 153) (cond (Nat.ble (pc + 3) N) (some (.ifCond .eq (Jvm.ClassFile.Reader.signed 16 (bT B (pc + 1) * 256 + bT B (pc + 2))), 3)) none) (cond (Nat.beq k 132) (cond (Nat.ble (pc + 3) N) (some (.iinc (bT B (pc + 1)) (Jvm.ClassFile.Reader.signed 8 (bT B (pc + 2))), 3)) none) (cond (Nat.beq k 54) (cond (Nat.ble (pc + 2) N) (some (.istore (bT B (pc + 1)), 2)) none) (cond (Nat.beq k 89) (some (.dup, 1)) (cond (Nat.beq k 87) (some (.pop, 1)) (cond (Nat.beq k 100) (some (.isub, 1)) (cond (Nat.beq k 61) (some (.istore_n 2, 1)) (cond (Nat.beq k 160) (cond (Nat.ble (pc + 3) N) (some (.if_icmp .ne (Jvm.ClassFile.Reader.signed 16 (bT B (pc + 1) * 256 + bT B (pc + 2))), 3)) none) (cond (Nat.beq k 62) (some (.istore_n 3, 1)) (cond (Nat.beq k 5) (some (.iconst 2, 1)) (cond (Nat.beq k 2) (some (.iconst (-1), 1)) (cond (Nat.beq k 159) (cond (Nat.ble (pc + 3) N) (some (.if_icmp .eq (Jvm.ClassFile.Reader.signed 16 (bT B (pc + 1) * 256 + bT B (pc + 2))), 3)) none) (cond (Nat.beq k 177) (some (.return_, 1)) (cond (Nat.beq k 60) (some (.istore_n 1, 1)) (cond (Nat.beq k 44) (some (.aload_n 2, 1)) (cond (Nat.beq k 6) (some (.iconst 3, 1)) (cond (Nat.beq k 51) (some (.baload, 1)) (cond (Nat.beq k 155) (cond (Nat.ble (pc + 3) N) (some (.ifCond .lt (Jvm.ClassFile.Reader.signed 16 (bT B (pc + 1) * 256 + bT B (pc + 2))), 3)) none) (cond (Nat.beq k 104) (some (.imul, 1)) (cond (Nat.beq k 7) (some (.iconst 4, 1)) (cond (Nat.beq k 112) (some (.irem, 1)) (cond (Nat.beq k 161) (cond (Nat.ble (pc + 3) N) (some (.if_icmp .lt (Jvm.ClassFile.Reader.signed 16 (bT B (pc + 1) * 256 + bT B (pc + 2))), 3)) none) (cond (Nat.beq k 184) (cond (Nat.ble (pc + 3) N) (some (.invokestatic (bT B (pc + 1) * 256 + bT B (pc + 2)), 3)) none) (cond (Nat.beq k 164) (cond (Nat.ble (pc + 3) N) (some (.if_icmp .le (Jvm.ClassFile.Reader.signed 16 (bT B (pc + 1) * 256 + bT B (pc + 2))), 3)) none) (cond (Nat.beq k 183) (cond (Nat.ble (pc + 3) N) (some (.invokespecial (bT B (pc + 1) * 256 + bT B (pc + 2)), 3)) none) (cond (Nat.beq k 173) (some (.lreturn, 1)) (cond (Nat.beq k 18) (cond (Nat.ble (pc + 2) N) (some (.ldc (bT B (pc + 1)), 2)) none) (cond (Nat.beq k 17) (cond (Nat.ble (pc + 3) N) (some (.sipush (Jvm.ClassFile.Reader.signed 16 (bT B (pc + 1) * 256 + bT B (pc + 2))), 3)) none) (cond (Nat.beq k 156) (cond (Nat.ble (pc + 3) N) (some (.ifCond .ge (Jvm.ClassFile.Reader.signed 16 (bT B (pc + 1) * 256 + bT B (pc + 2))), 3)) none) (cond (Nat.beq k 133) (some (.i2l, 1)) (cond (Nat.beq k 84) (some (.bastore, 1)) (cond (Nat.beq k 25) (cond (Nat.ble (pc + 2) N) (some (.aload (bT B (pc + 1)), 2)) none) (cond (Nat.beq k 45) (some (.aload_n 3, 1)) (cond (Nat.beq k 26) (some (.iload_n 0, 1)) (cond (Nat.beq k 19) (cond (Nat.ble (pc + 3) N) (some (.ldc_w (bT B (pc + 1) * 256 + bT B (pc + 2)), 3)) none) (cond (Nat.beq k 187) (cond (Nat.ble (pc + 3) N) (some (.new (bT B (pc + 1) * 256 + bT B (pc + 2)), 3)) none) (cond (Nat.beq k 108) (some (.idiv, 1)) (cond (Nat.beq k 20) (cond (Nat.ble (pc + 3) N) (some (.ldc2_w (bT B (pc + 1) * 256 + bT B (pc + 2)), 3)) none) (cond (Nat.beq k 163) (cond (Nat.ble (pc + 3) N) (some (.if_icmp .gt (Jvm.ClassFile.Reader.signed 16 (bT B (pc + 1) * 256 + bT B (pc + 2))), 3)) none) (cond (Nat.beq k 92) (some (.dup2, 1)) (cond (Nat.beq k 128) (some (.ior, 1)) (cond (Nat.beq k 50) (some (.aaload, 1)) (cond (Nat.beq k 8) (some (.iconst 5, 1)) (cond (Nat.beq k 120) (some (.ishl, 1)) (cond (Nat.beq k 130) (some (.ixor, 1)) (cond (Nat.beq k 158) (cond (Nat.ble (pc + 3) N) (some (.ifCond .le (Jvm.ClassFile.Reader.signed 16 (bT B (pc + 1) * 256 + bT B (pc + 2))), 3)) none) (cond (Nat.beq k 9) (some (.lconst 0, 1)) (cond (Nat.beq k 80) (some (.lastore, 1)) (cond (Nat.beq k 136) (some (.l2i, 1)) (cond (Nat.beq k 47) (some (.laload, 1)) (cond (Nat.beq k 88) (some (.pop2, 1)) (cond (Nat.beq k 116) (some (.ineg, 1)) (cond (Nat.beq k 126) (some (.iand, 1)) (cond (Nat.beq k 31) (some (.lload_n 1, 1)) (cond (Nat.beq k 32) (some (.lload_n 2, 1)) (cond (Nat.beq k 148) (some (.lcmp, 1)) (cond (Nat.beq k 58) (cond (Nat.ble (pc + 2) N) (some (.astore (bT B (pc + 1)), 2)) none) (cond (Nat.beq k 78) (some (.astore_n 3, 1)) (cond (Nat.beq k 145) (some (.i2b, 1)) (cond (Nat.beq k 76) (some (.astore_n 1, 1)) (cond (Nat.beq k 124) (some (.iushr, 1)) (cond (Nat.beq k 147) (some (.i2s, 1)) (cond (Nat.beq k 10) (some (.lconst 1, 1)) (cond (Nat.beq k 189) (cond (Nat.ble (pc + 3) N) (some (.anewarray (bT B (pc + 1) * 256 + bT B (pc + 2)), 3)) none) (cond (Nat.beq k 83) (some (.aastore, 1)) (cond (Nat.beq k 33) (some (.lload_n 3, 1)) (cond (Nat.beq k 121) (some (.lshl, 1)) (cond (Nat.beq k 127) (some (.land, 1)) (cond (Nat.beq k 129) (some (.lor, 1)) (cond (Nat.beq k 178) (cond (Nat.ble (pc + 3) N) (some (.getstatic (bT B (pc + 1) * 256 + bT B (pc + 2)), 3)) none) (cond (Nat.beq k 157) (cond (Nat.ble (pc + 3) N) (some (.ifCond .gt (Jvm.ClassFile.Reader.signed 16 (bT B (pc + 1) * 256 + bT B (pc + 2))), 3)) none) (cond (Nat.beq k 77) (some (.astore_n 2, 1)) (cond (Nat.beq k 190) (some (.arraylength, 1)) (none))))))))))))))))))))))))))))))))))))))))))))))))))))))))))))))))))))))))))))))))))))))))))))
theorem dK {k c : Nat} {A R : Option (Instr × Nat)} {q : Instr × Nat} (h : cond (Nat.beq k c) A R = some q) : (k = c ∧ A = some q) ∨ R = some q := by
  cases e : Nat.beq k c with
  | true => rw [e] at h; exact Or.inl ⟨Nat.eq_of_beq_eq_true e, h⟩
  | false => rw [e] at h; exact Or.inr h
theorem dN {a N : Nat} {A : Option (Instr × Nat)} {q : Instr × Nat} (h : cond (Nat.ble a N) A none = some q) : a ≤ N ∧ A = some q := by
  cases e : Nat.ble a N with
  | true => rw [e] at h; exact ⟨Nat.le_of_ble_eq_true e, h⟩
  | false => rw [e] at h; cases h
set_option maxRecDepth 100000 in
theorem decK_ok {b : ByteArray} {B N pc : Nat} {q : Instr × Nat} (hall : ∀ p, p < N → jB b p (bT B p)) (hp : pc < N) (h : decK (bT B pc) N pc B = some q) : decode b pc = .ok q := by
  obtain ⟨f, hf, h42, h180, h27, h182, h16, h172, h29, h46, h3, h28, h167, h96, h4, h181, h21, h79, h162, h154, h43, h153, h132, h54, h89, h87, h100, h61, h160, h62, h5, h2, h159, h177, h60, h44, h6, h51, h155, h104, h7, h112, h161, h184, h164, h183, h173, h18, h17, h156, h133, h84, h25, h45, h26, h19, h187, h108, h20, h163, h92, h128, h50, h8, h120, h130, h158, h9, h80, h136, h47, h88, h116, h126, h31, h32, h148, h58, h78, h145, h76, h124, h147, h10, h189, h83, h33, h121, h127, h129, h178, h157, h77, h190⟩ := dc_tail
  have hB := hall pc hp
  generalize bT B pc = k at hB h
  unfold decK at h
  rcases dK h with ⟨e, h⟩ | h
  · subst e; cases h; exact sh_0 hf (h42 pc) hB
  rcases dK h with ⟨e, h⟩ | h
  · obtain ⟨hl, h9⟩ := dN h; subst e; cases h9; exact sh_2 (C := Instr.getfield) hf (h180 pc) hB (hall _ (by omega)) (hall _ (by omega))
  rcases dK h with ⟨e, h⟩ | h
  · subst e; cases h; exact sh_0 hf (h27 pc) hB
  rcases dK h with ⟨e, h⟩ | h
  · obtain ⟨hl, h9⟩ := dN h; subst e; cases h9; exact sh_2 (C := Instr.invokevirtual) hf (h182 pc) hB (hall _ (by omega)) (hall _ (by omega))
  rcases dK h with ⟨e, h⟩ | h
  · obtain ⟨hl, h9⟩ := dN h; subst e; cases h9; exact sh_s1 (C := Instr.bipush) hf (h16 pc) hB (hall _ (by omega))
  rcases dK h with ⟨e, h⟩ | h
  · subst e; cases h; exact sh_0 hf (h172 pc) hB
  rcases dK h with ⟨e, h⟩ | h
  · subst e; cases h; exact sh_0 hf (h29 pc) hB
  rcases dK h with ⟨e, h⟩ | h
  · subst e; cases h; exact sh_0 hf (h46 pc) hB
  rcases dK h with ⟨e, h⟩ | h
  · subst e; cases h; exact sh_0 hf (h3 pc) hB
  rcases dK h with ⟨e, h⟩ | h
  · subst e; cases h; exact sh_0 hf (h28 pc) hB
  rcases dK h with ⟨e, h⟩ | h
  · obtain ⟨hl, h9⟩ := dN h; subst e; cases h9; exact sh_s2 (C := fun z => Instr.goto z) hf (h167 pc) hB (hall _ (by omega)) (hall _ (by omega))
  rcases dK h with ⟨e, h⟩ | h
  · subst e; cases h; exact sh_0 hf (h96 pc) hB
  rcases dK h with ⟨e, h⟩ | h
  · subst e; cases h; exact sh_0 hf (h4 pc) hB
  rcases dK h with ⟨e, h⟩ | h
  · obtain ⟨hl, h9⟩ := dN h; subst e; cases h9; exact sh_2 (C := Instr.putfield) hf (h181 pc) hB (hall _ (by omega)) (hall _ (by omega))
  rcases dK h with ⟨e, h⟩ | h
  · obtain ⟨hl, h9⟩ := dN h; subst e; cases h9; exact sh_1 (C := Instr.iload) hf (h21 pc) hB (hall _ (by omega))
  rcases dK h with ⟨e, h⟩ | h
  · subst e; cases h; exact sh_0 hf (h79 pc) hB
  rcases dK h with ⟨e, h⟩ | h
  · obtain ⟨hl, h9⟩ := dN h; subst e; cases h9; exact sh_s2 (C := fun z => Instr.if_icmp .ge z) hf (h162 pc) hB (hall _ (by omega)) (hall _ (by omega))
  rcases dK h with ⟨e, h⟩ | h
  · obtain ⟨hl, h9⟩ := dN h; subst e; cases h9; exact sh_s2 (C := fun z => Instr.ifCond .ne z) hf (h154 pc) hB (hall _ (by omega)) (hall _ (by omega))
  rcases dK h with ⟨e, h⟩ | h
  · subst e; cases h; exact sh_0 hf (h43 pc) hB
  rcases dK h with ⟨e, h⟩ | h
  · obtain ⟨hl, h9⟩ := dN h; subst e; cases h9; exact sh_s2 (C := fun z => Instr.ifCond .eq z) hf (h153 pc) hB (hall _ (by omega)) (hall _ (by omega))
  rcases dK h with ⟨e, h⟩ | h
  · obtain ⟨hl, h9⟩ := dN h; subst e; cases h9; exact sh_ii hf (h132 pc) hB (hall _ (by omega)) (hall _ (by omega))
  rcases dK h with ⟨e, h⟩ | h
  · obtain ⟨hl, h9⟩ := dN h; subst e; cases h9; exact sh_1 (C := Instr.istore) hf (h54 pc) hB (hall _ (by omega))
  rcases dK h with ⟨e, h⟩ | h
  · subst e; cases h; exact sh_0 hf (h89 pc) hB
  rcases dK h with ⟨e, h⟩ | h
  · subst e; cases h; exact sh_0 hf (h87 pc) hB
  rcases dK h with ⟨e, h⟩ | h
  · subst e; cases h; exact sh_0 hf (h100 pc) hB
  rcases dK h with ⟨e, h⟩ | h
  · subst e; cases h; exact sh_0 hf (h61 pc) hB
  rcases dK h with ⟨e, h⟩ | h
  · obtain ⟨hl, h9⟩ := dN h; subst e; cases h9; exact sh_s2 (C := fun z => Instr.if_icmp .ne z) hf (h160 pc) hB (hall _ (by omega)) (hall _ (by omega))
  rcases dK h with ⟨e, h⟩ | h
  · subst e; cases h; exact sh_0 hf (h62 pc) hB
  rcases dK h with ⟨e, h⟩ | h
  · subst e; cases h; exact sh_0 hf (h5 pc) hB
  rcases dK h with ⟨e, h⟩ | h
  · subst e; cases h; exact sh_0 hf (h2 pc) hB
  rcases dK h with ⟨e, h⟩ | h
  · obtain ⟨hl, h9⟩ := dN h; subst e; cases h9; exact sh_s2 (C := fun z => Instr.if_icmp .eq z) hf (h159 pc) hB (hall _ (by omega)) (hall _ (by omega))
  rcases dK h with ⟨e, h⟩ | h
  · subst e; cases h; exact sh_0 hf (h177 pc) hB
  rcases dK h with ⟨e, h⟩ | h
  · subst e; cases h; exact sh_0 hf (h60 pc) hB
  rcases dK h with ⟨e, h⟩ | h
  · subst e; cases h; exact sh_0 hf (h44 pc) hB
  rcases dK h with ⟨e, h⟩ | h
  · subst e; cases h; exact sh_0 hf (h6 pc) hB
  rcases dK h with ⟨e, h⟩ | h
  · subst e; cases h; exact sh_0 hf (h51 pc) hB
  rcases dK h with ⟨e, h⟩ | h
  · obtain ⟨hl, h9⟩ := dN h; subst e; cases h9; exact sh_s2 (C := fun z => Instr.ifCond .lt z) hf (h155 pc) hB (hall _ (by omega)) (hall _ (by omega))
  rcases dK h with ⟨e, h⟩ | h
  · subst e; cases h; exact sh_0 hf (h104 pc) hB
  rcases dK h with ⟨e, h⟩ | h
  · subst e; cases h; exact sh_0 hf (h7 pc) hB
  rcases dK h with ⟨e, h⟩ | h
  · subst e; cases h; exact sh_0 hf (h112 pc) hB
  rcases dK h with ⟨e, h⟩ | h
  · obtain ⟨hl, h9⟩ := dN h; subst e; cases h9; exact sh_s2 (C := fun z => Instr.if_icmp .lt z) hf (h161 pc) hB (hall _ (by omega)) (hall _ (by omega))
  rcases dK h with ⟨e, h⟩ | h
  · obtain ⟨hl, h9⟩ := dN h; subst e; cases h9; exact sh_2 (C := Instr.invokestatic) hf (h184 pc) hB (hall _ (by omega)) (hall _ (by omega))
  rcases dK h with ⟨e, h⟩ | h
  · obtain ⟨hl, h9⟩ := dN h; subst e; cases h9; exact sh_s2 (C := fun z => Instr.if_icmp .le z) hf (h164 pc) hB (hall _ (by omega)) (hall _ (by omega))
  rcases dK h with ⟨e, h⟩ | h
  · obtain ⟨hl, h9⟩ := dN h; subst e; cases h9; exact sh_2 (C := Instr.invokespecial) hf (h183 pc) hB (hall _ (by omega)) (hall _ (by omega))
  rcases dK h with ⟨e, h⟩ | h
  · subst e; cases h; exact sh_0 hf (h173 pc) hB
  rcases dK h with ⟨e, h⟩ | h
  · obtain ⟨hl, h9⟩ := dN h; subst e; cases h9; exact sh_1 (C := Instr.ldc) hf (h18 pc) hB (hall _ (by omega))
  rcases dK h with ⟨e, h⟩ | h
  · obtain ⟨hl, h9⟩ := dN h; subst e; cases h9; exact sh_s2 (C := fun z => Instr.sipush z) hf (h17 pc) hB (hall _ (by omega)) (hall _ (by omega))
  rcases dK h with ⟨e, h⟩ | h
  · obtain ⟨hl, h9⟩ := dN h; subst e; cases h9; exact sh_s2 (C := fun z => Instr.ifCond .ge z) hf (h156 pc) hB (hall _ (by omega)) (hall _ (by omega))
  rcases dK h with ⟨e, h⟩ | h
  · subst e; cases h; exact sh_0 hf (h133 pc) hB
  rcases dK h with ⟨e, h⟩ | h
  · subst e; cases h; exact sh_0 hf (h84 pc) hB
  rcases dK h with ⟨e, h⟩ | h
  · obtain ⟨hl, h9⟩ := dN h; subst e; cases h9; exact sh_1 (C := Instr.aload) hf (h25 pc) hB (hall _ (by omega))
  rcases dK h with ⟨e, h⟩ | h
  · subst e; cases h; exact sh_0 hf (h45 pc) hB
  rcases dK h with ⟨e, h⟩ | h
  · subst e; cases h; exact sh_0 hf (h26 pc) hB
  rcases dK h with ⟨e, h⟩ | h
  · obtain ⟨hl, h9⟩ := dN h; subst e; cases h9; exact sh_2 (C := Instr.ldc_w) hf (h19 pc) hB (hall _ (by omega)) (hall _ (by omega))
  rcases dK h with ⟨e, h⟩ | h
  · obtain ⟨hl, h9⟩ := dN h; subst e; cases h9; exact sh_2 (C := Instr.new) hf (h187 pc) hB (hall _ (by omega)) (hall _ (by omega))
  rcases dK h with ⟨e, h⟩ | h
  · subst e; cases h; exact sh_0 hf (h108 pc) hB
  rcases dK h with ⟨e, h⟩ | h
  · obtain ⟨hl, h9⟩ := dN h; subst e; cases h9; exact sh_2 (C := Instr.ldc2_w) hf (h20 pc) hB (hall _ (by omega)) (hall _ (by omega))
  rcases dK h with ⟨e, h⟩ | h
  · obtain ⟨hl, h9⟩ := dN h; subst e; cases h9; exact sh_s2 (C := fun z => Instr.if_icmp .gt z) hf (h163 pc) hB (hall _ (by omega)) (hall _ (by omega))
  rcases dK h with ⟨e, h⟩ | h
  · subst e; cases h; exact sh_0 hf (h92 pc) hB
  rcases dK h with ⟨e, h⟩ | h
  · subst e; cases h; exact sh_0 hf (h128 pc) hB
  rcases dK h with ⟨e, h⟩ | h
  · subst e; cases h; exact sh_0 hf (h50 pc) hB
  rcases dK h with ⟨e, h⟩ | h
  · subst e; cases h; exact sh_0 hf (h8 pc) hB
  rcases dK h with ⟨e, h⟩ | h
  · subst e; cases h; exact sh_0 hf (h120 pc) hB
  rcases dK h with ⟨e, h⟩ | h
  · subst e; cases h; exact sh_0 hf (h130 pc) hB
  rcases dK h with ⟨e, h⟩ | h
  · obtain ⟨hl, h9⟩ := dN h; subst e; cases h9; exact sh_s2 (C := fun z => Instr.ifCond .le z) hf (h158 pc) hB (hall _ (by omega)) (hall _ (by omega))
  rcases dK h with ⟨e, h⟩ | h
  · subst e; cases h; exact sh_0 hf (h9 pc) hB
  rcases dK h with ⟨e, h⟩ | h
  · subst e; cases h; exact sh_0 hf (h80 pc) hB
  rcases dK h with ⟨e, h⟩ | h
  · subst e; cases h; exact sh_0 hf (h136 pc) hB
  rcases dK h with ⟨e, h⟩ | h
  · subst e; cases h; exact sh_0 hf (h47 pc) hB
  rcases dK h with ⟨e, h⟩ | h
  · subst e; cases h; exact sh_0 hf (h88 pc) hB
  rcases dK h with ⟨e, h⟩ | h
  · subst e; cases h; exact sh_0 hf (h116 pc) hB
  rcases dK h with ⟨e, h⟩ | h
  · subst e; cases h; exact sh_0 hf (h126 pc) hB
  rcases dK h with ⟨e, h⟩ | h
  · subst e; cases h; exact sh_0 hf (h31 pc) hB
  rcases dK h with ⟨e, h⟩ | h
  · subst e; cases h; exact sh_0 hf (h32 pc) hB
  rcases dK h with ⟨e, h⟩ | h
  · subst e; cases h; exact sh_0 hf (h148 pc) hB
  rcases dK h with ⟨e, h⟩ | h
  · obtain ⟨hl, h9⟩ := dN h; subst e; cases h9; exact sh_1 (C := Instr.astore) hf (h58 pc) hB (hall _ (by omega))
  rcases dK h with ⟨e, h⟩ | h
  · subst e; cases h; exact sh_0 hf (h78 pc) hB
  rcases dK h with ⟨e, h⟩ | h
  · subst e; cases h; exact sh_0 hf (h145 pc) hB
  rcases dK h with ⟨e, h⟩ | h
  · subst e; cases h; exact sh_0 hf (h76 pc) hB
  rcases dK h with ⟨e, h⟩ | h
  · subst e; cases h; exact sh_0 hf (h124 pc) hB
  rcases dK h with ⟨e, h⟩ | h
  · subst e; cases h; exact sh_0 hf (h147 pc) hB
  rcases dK h with ⟨e, h⟩ | h
  · subst e; cases h; exact sh_0 hf (h10 pc) hB
  rcases dK h with ⟨e, h⟩ | h
  · obtain ⟨hl, h9⟩ := dN h; subst e; cases h9; exact sh_2 (C := Instr.anewarray) hf (h189 pc) hB (hall _ (by omega)) (hall _ (by omega))
  rcases dK h with ⟨e, h⟩ | h
  · subst e; cases h; exact sh_0 hf (h83 pc) hB
  rcases dK h with ⟨e, h⟩ | h
  · subst e; cases h; exact sh_0 hf (h33 pc) hB
  rcases dK h with ⟨e, h⟩ | h
  · subst e; cases h; exact sh_0 hf (h121 pc) hB
  rcases dK h with ⟨e, h⟩ | h
  · subst e; cases h; exact sh_0 hf (h127 pc) hB
  rcases dK h with ⟨e, h⟩ | h
  · subst e; cases h; exact sh_0 hf (h129 pc) hB
  rcases dK h with ⟨e, h⟩ | h
  · obtain ⟨hl, h9⟩ := dN h; subst e; cases h9; exact sh_2 (C := Instr.getstatic) hf (h178 pc) hB (hall _ (by omega)) (hall _ (by omega))
  rcases dK h with ⟨e, h⟩ | h
  · obtain ⟨hl, h9⟩ := dN h; subst e; cases h9; exact sh_s2 (C := fun z => Instr.ifCond .gt z) hf (h157 pc) hB (hall _ (by omega)) (hall _ (by omega))
  rcases dK h with ⟨e, h⟩ | h
  · subst e; cases h; exact sh_0 hf (h77 pc) hB
  rcases dK h with ⟨e, h⟩ | h
  · subst e; cases h; exact sh_0 hf (h190 pc) hB
  cases h
def jb2 (b : ByteArray) (B N : Nat) (t : Nat → Option (Instr × Nat)) (pc : Nat) : Bool := match t pc with
  | some q => or (decide (decK (bT B pc) N pc B = some q)) (decide (decode b pc = .ok q))
  | none => true
theorem jk_chunk {P : Nat → Bool} {a n : Nat} (h : (List.range' a n).all P = true) {pc : Nat} (h1 : a ≤ pc) (h2 : pc < a + n) : P pc = true := List.all_eq_true.mp h pc (List.mem_range'_1.mpr ⟨h1, h2⟩)
theorem jk2 {b : ByteArray} {B N : Nat} {t : Nat → Option (Instr × Nat)} (hb : decide (b.data.toList.map UInt8.toNat = (List.range N).map (bT B)) = true) (h : ∀ pc, pc < N → jb2 b B N t pc = true) : ∀ pc q, (cond (Nat.ble N pc) none (t pc)) = some q → decode b pc = .ok q := by
  intro pc q hq
  cases hn : Nat.ble N pc with
  | true => rw [hn] at hq; cases hq
  | false =>
    rw [hn] at hq
    have hlt : pc < N := by
      rcases Nat.lt_or_ge pc N with h1 | h1
      · exact h1
      · rw [Nat.ble_eq_true_of_le h1] at hn; cases hn
    have h1 := h pc hlt
    unfold jb2 at h1
    rw [show t pc = some q from hq] at h1
    rcases (Bool.or_eq_true _ _).mp h1 with h1 | h1
    · exact decK_ok (jB_all hb) hlt (of_decide_eq_true h1)
    · exact of_decide_eq_true h1
