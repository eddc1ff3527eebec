/-! THE LAW: rows -/
section LROWS
variable {M M' : jM} {on : Bool} {L : Nat} {xs : Nat → Int32} {d d' kc ks pc : Nat} {lv : List (Nat × Value)} {st : List Value} {h h' : jH} {Q : Option Value → jH → Prop}
theorem J_ifT {c : Jvm.ClassFile.Cond} {x : Int32} {off : Int} {tgt : Nat} (ht : (pc : Int) + off = (tgt : Int)) (hd : decode M.2.2.1 pc = .ok (.ifCond c off, 3)) (hc : jC c x 0) (k : J M on L xs d kc ks tgt lv st h Q) : J M on L xs d kc ks pc lv (.int x :: st) h Q := J_ifc ht hd (fun _ => k) (fun z => absurd hc z)
theorem J_icT {c : Jvm.ClassFile.Cond} {x y : Int32} {off : Int} {tgt : Nat} (ht : (pc : Int) + off = (tgt : Int)) (hd : decode M.2.2.1 pc = .ok (.if_icmp c off, 3)) (hc : jC c x y) (k : J M on L xs d kc ks tgt lv st h Q) : J M on L xs d kc ks pc lv (.int y :: .int x :: st) h Q := J_icmpc ht hd (fun _ => k) (fun z => absurd hc z)
theorem J_icF {c : Jvm.ClassFile.Cond} {x y : Int32} {off : Int} {tgt : Nat} (ht : (pc : Int) + off = (tgt : Int)) (hd : decode M.2.2.1 pc = .ok (.if_icmp c off, 3)) (hc : ¬ jC c x y) (k : J M on L xs d kc ks (pc + 3) lv st h Q) : J M on L xs d kc ks pc lv (.int y :: .int x :: st) h Q := J_icmpc ht hd (fun z => absurd z hc) (fun _ => k)
theorem J_iaddC {x y v : Int32} (hv : x + y = v) (hd : decode M.2.2.1 pc = .ok (.iadd, 1)) (k : J M on L xs d kc ks (pc + 1) lv (.int v :: st) h Q) : J M on L xs d kc ks pc lv (.int y :: .int x :: st) h Q := by subst hv; exact J_iadd hd k
theorem J_isubC {x y v : Int32} (hv : x - y = v) (hd : decode M.2.2.1 pc = .ok (.isub, 1)) (k : J M on L xs d kc ks (pc + 1) lv (.int v :: st) h Q) : J M on L xs d kc ks pc lv (.int y :: .int x :: st) h Q := by subst hv; exact J_isub hd k
theorem J_sldC {i v : Int32} (ho : on = true) (hin : vp_in i L) (hv : xs i.toNatClampNeg = v) (hd : decode M.2.2.1 pc = .ok (.iaload, 1)) (k : J M on L xs d kc ks (pc + 1) lv (.int v :: st) h Q) : J M on L xs d kc ks pc lv (.int i :: .retAddr 0 :: st) h Q := by subst hv; exact J_sld ho hin hd k
theorem J_pop2 {v : Value} (hc : v.category = 2) (hd : decode M.2.2.1 pc = .ok (.pop2, 1)) (k : J M on L xs d kc ks (pc + 1) lv st h Q) : J M on L xs d kc ks pc lv (v :: st) h Q := J_st (fun hx hb hown hts k => lv_pop2_2 hx hb hd (by rw [jV_cat]; exact hc) k) k
end LROWS
abbrev zI (i : Nat) : List (Nat × Value) := [(3, .int (nI i)), (2, .ref 94), (1, .ref 0), (0, .retAddr 0)]
def lawQ : Option Value → jH → Prop := fun v _ => v = some (.int 1)
section LROWS2
variable {M : jM} {L : Nat} {xs : Nat → Int32} {d kc ks pc : Nat} {st : List Value} {h : jH} {Q : Option Value → jH → Prop}
/-- the script's k-th int of this call -/
theorem J_sarg {i k : Nat} {kk : Int} (h0 : decode M.2.2.1 pc = .ok (.aload_n 0, 1)) (h1 : decode M.2.2.1 (pc + 1) = .ok (.iload_n 3, 1)) (h2 : decode M.2.2.1 (pc + 2) = .ok (.iconst kk, 1)) (hk : Int32.ofInt kk = nI k) (h3 : decode M.2.2.1 (pc + 3) = .ok (.iadd, 1)) (h4 : decode M.2.2.1 (pc + 4) = .ok (.iaload, 1)) (hi : i + k < L) (hL : L < 2 ^ 31) (K : J M true L xs d kc ks (pc + 5) (zI i) (.int (xs (i + k)) :: st) h Q) : J M true L xs d kc ks pc (zI i) st h Q := by
  refine J_sload_n (i := 0) (a := 0) rfl rfl h0 ?_
  refine J_iload_n (i := 3) (a := 3) rfl rfl h1 ?_
  refine J_iconst hk h2 ?_
  refine J_iaddC (nI_add i k) h3 ?_
  refine J_sldC (v := xs (i + k)) rfl (vp_in_nI hi hL) (by rw [nI_clamp (by omega)]) h4 ?_
  exact K
end LROWS2
theorem jI_sub {x y : Int32} {p q : Int} (hx : x.toInt = p) (hy : y.toInt = q) (h1 : -2147483648 ≤ p - q) (h2 : p - q ≤ 2147483647) : (x - y).toInt = p - q := by
  rw [Int32.toInt_sub, hx, hy]
  exact Int.bmod_eq_of_le (by omega) (by omega)
theorem sub6 {L : Nat} (hL : L ≤ 3072) : (nI L - 6).toInt = (L : Int) - 6 := jI_sub (nI_toInt (by omega)) (by decide) (by omega) (by omega)
/-- a contract with what it makes -/
theorem jev_ctA {F d mid A S : Nat} {args : List Value} {h h' : jH} {r : Option Value} {M : jM} (hM : jmsL[mid]? = some M) (he : jev F d mid args h = some (r, h', A, S)) : jCt M d A S args h (fun v k => v = r ∧ k = h') := by
  obtain ⟨M', h1, h2, -⟩ := jev_ok F d mid args h r h' A S he
  cases h1.symm.trans hM
  exact h2
set_option maxRecDepth 100000 in
theorem lX : hN0.length = 94 := rfl
