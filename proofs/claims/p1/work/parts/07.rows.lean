/-! rows for runs with arguments that are not known -/
theorem jI_lt {x y : Int32} {p q : Int} (hx : x.toInt = p) (hy : y.toInt = q) (h : p < q) : x < y := by
  rw [Int32.lt_iff_toInt_lt, hx, hy]; exact h
theorem jI_le {x y : Int32} {p q : Int} (hx : x.toInt = p) (hy : y.toInt = q) (h : p ≤ q) : x ≤ y := by
  rw [Int32.le_iff_toInt_le, hx, hy]; exact h
theorem jI_nlt {x y : Int32} {p q : Int} (hx : x.toInt = p) (hy : y.toInt = q) (h : q ≤ p) : ¬ x < y := by
  rw [Int32.lt_iff_toInt_lt, hx, hy]; omega
theorem jI_nle {x y : Int32} {p q : Int} (hx : x.toInt = p) (hy : y.toInt = q) (h : q < p) : ¬ x ≤ y := by
  rw [Int32.le_iff_toInt_le, hx, hy]; omega
theorem jI_ne {x y : Int32} {p q : Int} (hx : x.toInt = p) (hy : y.toInt = q) (h : p ≠ q) : ¬ x = y := by
  rintro rfl
  exact h (hx.symm.trans hy)
theorem jI_eq {x y : Int32} {p q : Int} (hx : x.toInt = p) (hy : y.toInt = q) (h : p = q) : x = y := Int32.toInt_inj.mp (by rw [hx, hy, h])
theorem jI_sub {x y : Int32} {p q : Int} (hx : x.toInt = p) (hy : y.toInt = q) (h1 : -2147483648 ≤ p - q) (h2 : p - q ≤ 2147483647) : (x - y).toInt = p - q := by
  rw [Int32.toInt_sub, hx, hy]
  exact Int.bmod_eq_of_le (by omega) (by omega)
section JR2
variable {M M' : jM} {on : Bool} {L : Nat} {xs : Nat → Int32} {d d' kc ks pc : Nat} {lv : List (Nat × Value)} {st : List Value} {h h' : jH} {Q : Option Value → jH → Prop}
theorem J_ifT {c : Jvm.ClassFile.Cond} {x : Int32} {off : Int} {tgt : Nat} (ht : (pc : Int) + off = (tgt : Int)) (hd : decode M.2.2.1 pc = .ok (.ifCond c off, 3)) (hc : jC c x 0) (k : J M on L xs d kc ks tgt lv st h Q) : J M on L xs d kc ks pc lv (.int x :: st) h Q := J_ifc ht hd (fun _ => k) (fun z => absurd hc z)
theorem J_ifF {c : Jvm.ClassFile.Cond} {x : Int32} {off : Int} {tgt : Nat} (ht : (pc : Int) + off = (tgt : Int)) (hd : decode M.2.2.1 pc = .ok (.ifCond c off, 3)) (hc : ¬ jC c x 0) (k : J M on L xs d kc ks (pc + 3) lv st h Q) : J M on L xs d kc ks pc lv (.int x :: st) h Q := J_ifc ht hd (fun z => absurd z hc) (fun _ => k)
theorem J_icT {c : Jvm.ClassFile.Cond} {x y : Int32} {off : Int} {tgt : Nat} (ht : (pc : Int) + off = (tgt : Int)) (hd : decode M.2.2.1 pc = .ok (.if_icmp c off, 3)) (hc : jC c x y) (k : J M on L xs d kc ks tgt lv st h Q) : J M on L xs d kc ks pc lv (.int y :: .int x :: st) h Q := J_icmpc ht hd (fun _ => k) (fun z => absurd hc z)
theorem J_icF {c : Jvm.ClassFile.Cond} {x y : Int32} {off : Int} {tgt : Nat} (ht : (pc : Int) + off = (tgt : Int)) (hd : decode M.2.2.1 pc = .ok (.if_icmp c off, 3)) (hc : ¬ jC c x y) (k : J M on L xs d kc ks (pc + 3) lv st h Q) : J M on L xs d kc ks pc lv (.int y :: .int x :: st) h Q := J_icmpc ht hd (fun z => absurd z hc) (fun _ => k)
theorem J_iaddC {x y v : Int32} (hv : x + y = v) (hd : decode M.2.2.1 pc = .ok (.iadd, 1)) (k : J M on L xs d kc ks (pc + 1) lv (.int v :: st) h Q) : J M on L xs d kc ks pc lv (.int y :: .int x :: st) h Q := by subst hv; exact J_iadd hd k
theorem J_isubC {x y v : Int32} (hv : x - y = v) (hd : decode M.2.2.1 pc = .ok (.isub, 1)) (k : J M on L xs d kc ks (pc + 1) lv (.int v :: st) h Q) : J M on L xs d kc ks pc lv (.int y :: .int x :: st) h Q := by subst hv; exact J_isub hd k
theorem J_imulC {x y v : Int32} (hv : x * y = v) (hd : decode M.2.2.1 pc = .ok (.imul, 1)) (k : J M on L xs d kc ks (pc + 1) lv (.int v :: st) h Q) : J M on L xs d kc ks pc lv (.int y :: .int x :: st) h Q := by subst hv; exact J_imul hd k
theorem J_iandC {x y v : Int32} (hv : x &&& y = v) (hd : decode M.2.2.1 pc = .ok (.iand, 1)) (k : J M on L xs d kc ks (pc + 1) lv (.int v :: st) h Q) : J M on L xs d kc ks pc lv (.int y :: .int x :: st) h Q := by subst hv; exact J_iand hd k
theorem J_sldC {i v : Int32} (ho : on = true) (hin : vp_in i L) (hv : xs i.toNatClampNeg = v) (hd : decode M.2.2.1 pc = .ok (.iaload, 1)) (k : J M on L xs d kc ks (pc + 1) lv (.int v :: st) h Q) : J M on L xs d kc ks pc lv (.int i :: .retAddr 0 :: st) h Q := by subst hv; exact J_sld ho hin hd k
/-- a virtual call that makes nothing, with what it answers and leaves -/
theorem J_cV {idx n b ci : Nat} {fs As : List Value} {q : vw_C} {rv : Option Value} (hok : jok M') (hv : jvirt M') (hl : Cond.methodLink M.2.1.cls idx M'.2.1 ∈ jG) (hpn : (parseMethodDescriptor M'.2.1.desc).map (fun d => d.parameters.length) = some n) (hn : As.length = n) (hb : h[b]? = some (.inr (ci, fs))) (hq : vwCl[ci]? = some q) (hqc : q.1 = M'.2.1.cls) (hs : (st.map fun v => v.category).sum ≤ 8)
    (hd' : d' + 1 ≤ d) (hd : decode M.2.2.1 pc = .ok (.invokevirtual idx, 3)) (hc : jCt M' d' 0 0 (.ref b :: As) h (fun r k => r = rv ∧ k = h')) (k : J M on L xs d kc ks (pc + 3) lv (rv.toList ++ st) h' Q) : J M on L xs d kc ks pc lv (As.reverse ++ .ref b :: st) h Q := by
  have := J_callV (kc' := 0) (ks' := 0) (kc := kc) (ks := ks) (M := M) (on := on) (L := L) (xs := xs) (lv := lv) (Q := Q) hok hv hl hpn hn hb hq hqc hs (Or.inl rfl) hd' hd hc (fun r h2 hq _ => by obtain ⟨rfl, rfl⟩ := hq; exact k)
  simpa using this
theorem J_cS {idx n : Nat} {As : List Value} {rv : Option Value} (hok : jok M') (hv : jstat M') (hl : Cond.methodLink M.2.1.cls idx M'.2.1 ∈ jG) (hcl : M'.2.1.cls = M.2.1.cls) (hpn : (parseMethodDescriptor M'.2.1.desc).map (fun d => d.parameters.length) = some n) (hn : As.length = n) (hs : (st.map fun v => v.category).sum ≤ 8)
    (hd' : d' + 1 ≤ d) (hd : decode M.2.2.1 pc = .ok (.invokestatic idx, 3)) (hc : jCt M' d' 0 0 As h (fun r k => r = rv ∧ k = h')) (k : J M on L xs d kc ks (pc + 3) lv (rv.toList ++ st) h' Q) : J M on L xs d kc ks pc lv (As.reverse ++ st) h Q := by
  have := J_callS (kc' := 0) (ks' := 0) (kc := kc) (ks := ks) (M := M) (on := on) (L := L) (xs := xs) (lv := lv) (Q := Q) hok hv hl hcl hpn hn hs (Or.inl rfl) hd' hd hc (fun r h2 hq _ => by obtain ⟨rfl, rfl⟩ := hq; exact k)
  simpa using this
end JR2
theorem jev_ct {F d mid : Nat} {args : List Value} {h h' : jH} {r : Option Value} {M : jM} (hM : jmsL[mid]? = some M) (he : jev F d mid args h = some (r, h', 0, 0)) : jCt M d 0 0 args h (fun v k => v = r ∧ k = h') := by
  obtain ⟨M', h1, h2, -⟩ := jev_ok F d mid args h r h' 0 0 he
  cases h1.symm.trans hM
  exact h2
/-- what a call answers, and that no cell came -/
def jA (v : Value) (n : Nat) : Option Value → jH → Prop := fun r h => r = some v ∧ h.length = n
def jq2 (x : Option jRs) (v : Value) (n : Nat) : Bool := match x with
  | some (r', h, A, S) => decide (r' = some v) && (Nat.beq h.length n && (Nat.beq A 0 && Nat.beq S 0))
  | none => false
theorem jq2_ct {F d mid : Nat} {args : List Value} {h : jH} {v : Value} {n : Nat} {M : jM} (hM : jmsL[mid]? = some M) (he : jq2 (jev F d mid args h) v n = true) : jCt M d 0 0 args h (jA v n) := by
  unfold jq2 at he
  split at he
  · rename_i r' h2 A S e
    simp only [Bool.and_eq_true] at he
    cases of_decide_eq_true he.1
    cases Nat.eq_of_beq_eq_true he.2.2.1
    cases Nat.eq_of_beq_eq_true he.2.2.2
    exact (jev_ct hM e).mono (fun r k hq => by obtain ⟨rfl, rfl⟩ := hq; exact ⟨rfl, Nat.eq_of_beq_eq_true he.2.1⟩)
  · cases he
theorem jCt.room {M : jM} {d d' : Nat} {args : List Value} {h : jH} {Q : Option Value → jH → Prop} (hd : d = d') (k : jCt M d 0 0 args h Q) : jCt M d' 0 0 args h Q := hd ▸ k
