/-! ROWS OF JF: texts, ABOVE, Math.abs, copies of longs -/
def stL (z : Nat) : Option Int32 := if 2 ≤ z then (oxL[z - 2]?).map (fun n => Int32.ofNat n) else none
def stA (z : Nat) (i : Int32) : Option Int32 := if 2 ≤ z ∧ ¬ i < 0 then (oxB.getD (z - 2) [])[i.toNatClampNeg]? else none
def abI (x : Int32) : Int32 := if 0 ≤ x then x else 0 - x
def jcpyL (xs ys : List Int64) (sp dp n : Nat) : List Int64 := (List.range ys.length).map (fun k => if dp ≤ k ∧ k < dp + n then xs.getD (sp + (k - dp)) 0 else ys.getD k 0)
def cpL (m : mM) (a0 : Nat) (sp : Int32) (a1 : Nat) (dp n : Int32) : Option mM := if ¬ sp < 0 ∧ ¬ dp < 0 ∧ ¬ n < 0 ∧ sp.toNatClampNeg + n.toNatClampNeg ≤ (mL m a0).length ∧ dp.toNatClampNeg + n.toNatClampNeg ≤ (mL m a1).length then some (wL m a1 (jcpyL (mL m a0) (mL m a1) sp.toNatClampNeg dp.toNatClampNeg n.toNatClampNeg)) else none
section FEXT
variable {R : Type} {w : Bool} {ι : R → Option Value} {M : jM} {d pc tgt : Nat} {lv : jLv} {st : List Value} {m : mM} {e : fR R}
theorem F_sldc {z i : Nat} {tx : String} (hi : M.2.1.cls = RX4) (hz : ∀ sb s, oxR sb s → vk_R RX4 i tx (sb z) s) (hd : decode M.2.2.1 pc = .ok (.ldc i, 2)) (K : JF w ι M d (pc + 2) lv (.retAddr z :: st) m e) : JF w ι M d pc lv st m e := sorry
theorem F_slen {z idx : Nat} {k : Int32 → fR R} (hl : Cond.methodLink M.2.1.cls idx yJ0_length_8abf5 ∈ jG) (hd : decode M.2.2.1 pc = .ok (.invokevirtual idx, 3)) (K : ∀ x, JF w ι M d (pc + 3) lv (.int x :: st) m (k x)) : JF w ι M d pc lv (.retAddr z :: st) m ((stL z).bind k) := sorry
theorem F_sat {z idx : Nat} {i : Int32} {k : Int32 → fR R} (hl : Cond.methodLink M.2.1.cls idx yJ0_charAt_5068e ∈ jG) (hd : decode M.2.2.1 pc = .ok (.invokevirtual idx, 3)) (K : ∀ x, JF w ι M d (pc + 3) lv (.int x :: st) m (k x)) : JF w ι M d pc lv (.int i :: .retAddr z :: st) m ((stA z i).bind k) := sorry
theorem F_gets {idx : Nat} (hl : Cond.fieldLink M.2.1.cls idx RX6 "ABOVE" "[I" ∈ jG) (hd : decode M.2.2.1 pc = .ok (.getstatic idx, 3)) (K : JF w ι M d (pc + 3) lv (.retAddr 1 :: st) m e) : JF w ι M d pc lv st m e := sorry
theorem F_abld {i : Int32} {k : Int32 → fR R} (hd : decode M.2.2.1 pc = .ok (.iaload, 1)) (K : ∀ x, JF w ι M d (pc + 1) lv (.int x :: st) m (k x)) : JF w ι M d pc lv (.int i :: .retAddr 1 :: st) m ((gA oxA i).bind k) := sorry
theorem F_abs {idx : Nat} {x : Int32} (hl : Cond.methodLink M.2.1.cls idx ⟨"java/lang/Math", "abs", "(I)I"⟩ ∈ jG) (hd : decode M.2.2.1 pc = .ok (.invokestatic idx, 3)) (K : JF w ι M d (pc + 3) lv (.int (abI x) :: st) m e) : JF w ι M d pc lv (.int x :: st) m e := sorry
theorem F_copyl {idx a0 a1 : Nat} {sp dp n : Int32} {k : mM → fR R} (h0 : isA w 1 a0 = true) (h1 : isA w 1 a1 = true) (hl : Cond.methodLink M.2.1.cls idx arraycopyName ∈ jG) (hs : (st.map fun v => v.category).sum ≤ 8) (hd1 : 1 ≤ d) (hd : decode M.2.2.1 pc = .ok (.invokestatic idx, 3)) (K : ∀ m1, JF w ι M d (pc + 3) lv st m1 (k m1)) : JF w ι M d pc lv (.int n :: .int dp :: .ref a1 :: .int sp :: .ref a0 :: st) m ((cpL m a0 sp a1 dp n).bind k) := sorry
end FEXT
