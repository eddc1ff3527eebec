/-! the loops of tape -/
section JR3
variable {M M' : jM} {on : Bool} {L : Nat} {xs : Nat → Int32} {d d' kc ks pc : Nat} {lv : List (Nat × Value)} {st : List Value} {h : jH} {Q Q' : Option Value → jH → Prop}
theorem J_cVq {idx n b ci : Nat} {fs As : List Value} {q : vw_C} (hok : jok M') (hv : jvirt M') (hl : Cond.methodLink M.2.1.cls idx M'.2.1 ∈ jG) (hpn : (parseMethodDescriptor M'.2.1.desc).map (fun d => d.parameters.length) = some n) (hn : As.length = n) (hb : h[b]? = some (.inr (ci, fs))) (hq : vwCl[ci]? = some q) (hqc : q.1 = M'.2.1.cls) (hs : (st.map fun v => v.category).sum ≤ 8)
    (hd' : d' + 1 ≤ d) (hd : decode M.2.2.1 pc = .ok (.invokevirtual idx, 3)) (hc : jCt M' d' 0 0 (.ref b :: As) h Q') (k : ∀ r h', Q' r h' → J M on L xs d kc ks (pc + 3) lv (r.toList ++ st) h' Q) : J M on L xs d kc ks pc lv (As.reverse ++ .ref b :: st) h Q := by
  have := J_callV (kc' := 0) (ks' := 0) (kc := kc) (ks := ks) (M := M) (on := on) (L := L) (xs := xs) (lv := lv) (Q := Q) hok hv hl hpn hn hb hq hqc hs (Or.inl rfl) hd' hd hc (fun r h2 hq _ => k r h2 hq)
  simpa using this
end JR3
theorem jNge {i : Nat} (h : i < 60) : ¬ jC .ge (nI i) 60 := by
  show ¬ (60 : Int32) ≤ nI i
  rw [show (60 : Int32) = nI 60 from rfl]
  exact nI_ge h (by omega)
theorem jGe : jC .ge (nI 60) 60 := by
  show (60 : Int32) ≤ nI 60
  decide
set_option maxRecDepth 1000000 in
theorem lp_become {o a N : Nat} {s n s0 l0 : Int32} (hao : o ≠ a) : ∀ (j i : Nat), i + j = 60 → ∀ (h : jH) (ys : List Int64), h[o]? = some (.inr (3, [.int s0, .int l0, .ref a])) → h[a]? = some (.inl (1, .inr (.inl ys))) → ys.length = 60 → h.length = N →
    J m_X3_become false 0 (fun _ => 0) 3 0 0 12 [(3, .int (nI i)), (0, .ref o), (1, .int s), (2, .int n)] [] h (fun r k => r = none ∧ k.length = N) := by
  intro j
  induction j with
  | zero =>
    intro i hi h ys ho ha hy hN
    obtain rfl : i = 60 := by omega
    refine J_iload_n (i := 3) (a := 3) rfl rfl (dk_X3_become 12 _ rfl) ?_
    refine J_bipush (v := 60) (by decide) (dk_X3_become 13 _ rfl) ?_
    refine J_icT (tgt := 31) (by decide) (dk_X3_become 15 _ rfl) jGe ?_
    exact J_vret rfl (dk_X3_become 31 _ rfl) ⟨rfl, hN⟩
  | succ j ih =>
    intro i hi h ys ho ha hy hN
    have hi60 : i < 60 := by omega
    refine J_iload_n (i := 3) (a := 3) rfl rfl (dk_X3_become 12 _ rfl) ?_
    refine J_bipush (v := 60) (by decide) (dk_X3_become 13 _ rfl) ?_
    refine J_icF (tgt := 31) (by decide) (dk_X3_become 15 _ rfl) (jNge hi60) ?_
    refine J_aload_n (i := 0) (a := 0) rfl rfl (dk_X3_become 18 _ rfl) ?_
    refine J_getf fl_3_15 ho rfl (dk_X3_become 19 _ rfl) ?_
    refine J_iload_n (i := 3) (a := 3) rfl rfl (dk_X3_become 22 _ rfl) ?_
    refine J_lconst (v := 0) (by decide) (dk_X3_become 23 _ rfl) ?_
    refine J_last ha (nI_pos (by omega)) (by rw [nI_clamp (by omega), hy]; exact hi60) (dk_X3_become 24 _ rfl) ?_
    refine J_iinc (i := 3) (n := 1) (v := nI (i + 1)) rfl (nI_1 i) (by decide) (dk_X3_become 25 _ rfl) ?_
    refine J_goto (tgt := 12) (by decide) (dk_X3_become 28 _ rfl) ?_
    exact ih (i + 1) (by omega) _ _ (by rw [List.getElem?_set_ne (Ne.symm hao)]; exact ho) (List.getElem?_set_self (List.getElem?_eq_some_iff.mp ha).1) (by rw [List.length_set]; exact hy) (by rw [List.length_set]; exact hN)
set_option maxRecDepth 1000000 in
theorem c_become {h : jH} {o a N : Nat} {s n s0 l0 : Int32} {ys : List Int64} (hao : o ≠ a) (ho : h[o]? = some (.inr (3, [.int s0, .int l0, .ref a]))) (ha : h[a]? = some (.inl (1, .inr (.inl ys)))) (hy : ys.length = 60) (hN : h.length = N) : jCt m_X3_become 3 0 0 [.ref o, .int s, .int n] h (fun r k => r = none ∧ k.length = N) := by
  refine jCt_of ok_X3_become (fun _ _ => Nat.le_of_ble_eq_true rfl) (fun _ _ hq => Nat.le_of_eq (hN.trans hq.2.symm)) ?_
  show J _ _ _ _ _ _ _ _ [(0, .ref o), (1, .int s), (2, .int n)] _ _ _
  have hol : o < h.length := (List.getElem?_eq_some_iff.mp ho).1
  refine J_aload_n (i := 0) (a := 0) rfl rfl (dk_X3_become 0 _ rfl) ?_
  refine J_iload_n (i := 1) (a := 1) rfl rfl (dk_X3_become 1 _ rfl) ?_
  refine J_putf fl_3_9 ho (fun q hq => by cases hq; rfl) trivial (Nat.le_of_ble_eq_true rfl) (dk_X3_become 2 _ rfl) ?_
  refine J_aload_n (i := 0) (a := 0) rfl rfl (dk_X3_become 5 _ rfl) ?_
  refine J_iload_n (i := 2) (a := 2) rfl rfl (dk_X3_become 6 _ rfl) ?_
  refine J_putf fl_3_19 (List.getElem?_set_self hol) (fun q hq => by cases hq; rfl) trivial (Nat.le_of_ble_eq_true rfl) (dk_X3_become 7 _ rfl) ?_
  refine J_iconst (v := 0) (by decide) (dk_X3_become 10 _ rfl) ?_
  refine J_istore_n (i := 3) (a := 3) rfl (by decide) (dk_X3_become 11 _ rfl) ?_
  exact lp_become hao 60 0 (by omega) _ ys (List.getElem?_set_self (by rw [List.length_set]; exact hol)) (by rw [List.getElem?_set_ne hao, List.getElem?_set_ne hao]; exact ha) hy (by rw [List.length_set, List.length_set]; exact hN)
set_option maxRecDepth 1000000 in
theorem lp_tapeM {c a : Nat} (hc : c < 6) {x1 s n : Int32} {fs : List Value} (hx1 : x1 = nI c) (ha0 : a ≠ 0) : ∀ (j i : Nat), i + j = 60 → ∀ (h : jH) (ys : List Int64), h[0]? = some (.inr (7, fs)) → fs[58]? = some (.ref a) → h[a]? = some (.inl (1, .inr (.inl ys))) → ys.length = 360 → h.length = 37 →
    J m_X7_tape false 0 (fun _ => 0) 12 0 0 69 [(4, .int (nI i)), (0, .ref 0), (1, .int x1), (2, .int s), (3, .int n)] [] h (jA (.int 1) 37) := by
  intro j
  induction j with
  | zero =>
    intro i hi h ys ho hf ha hy hN
    obtain rfl : i = 60 := by omega
    refine J_iload (i := 4) rfl (dk_X7_tape 69 _ rfl) ?_
    refine J_bipush (v := 60) (by decide) (dk_X7_tape 71 _ rfl) ?_
    refine J_icT (tgt := 95) (by decide) (dk_X7_tape 73 _ rfl) jGe ?_
    refine J_iconst (v := 1) (by decide) (dk_X7_tape 95 _ rfl) ?_
    exact J_iret rfl rfl (dk_X7_tape 96 _ rfl) ⟨rfl, hN⟩
  | succ j ih =>
    intro i hi h ys ho hf ha hy hN
    have hi60 : i < 60 := by omega
    refine J_iload (i := 4) rfl (dk_X7_tape 69 _ rfl) ?_
    refine J_bipush (v := 60) (by decide) (dk_X7_tape 71 _ rfl) ?_
    refine J_icF (tgt := 95) (by decide) (dk_X7_tape 73 _ rfl) (jNge hi60) ?_
    refine J_aload_n (i := 0) (a := 0) rfl rfl (dk_X7_tape 76 _ rfl) ?_
    refine J_getf fl_7_187 ho hf (dk_X7_tape 77 _ rfl) ?_
    refine J_bipush (v := 60) (by decide) (dk_X7_tape 80 _ rfl) ?_
    refine J_iload_n (i := 1) (a := 1) rfl rfl (dk_X7_tape 82 _ rfl) ?_
    refine J_imulC (v := nI (60 * c)) (by rw [hx1, show (60 : Int32) = nI 60 from rfl, pk_mul]) (dk_X7_tape 83 _ rfl) ?_
    refine J_iload (i := 4) rfl (dk_X7_tape 84 _ rfl) ?_
    refine J_iaddC (v := nI (60 * c + i)) (nI_add _ _) (dk_X7_tape 86 _ rfl) ?_
    refine J_lconst (v := 0) (by decide) (dk_X7_tape 87 _ rfl) ?_
    refine J_last ha (nI_pos (by omega)) (by rw [nI_clamp (by omega), hy]; omega) (dk_X7_tape 88 _ rfl) ?_
    refine J_iinc (i := 4) (n := 1) (v := nI (i + 1)) rfl (nI_1 i) (by decide) (dk_X7_tape 89 _ rfl) ?_
    refine J_goto (tgt := 69) (by decide) (dk_X7_tape 92 _ rfl) ?_
    exact ih (i + 1) (by omega) _ _ (by rw [List.getElem?_set_ne ha0]; exact ho) hf (List.getElem?_set_self (List.getElem?_eq_some_iff.mp ha).1) (by rw [List.length_set]; exact hy) (by rw [List.length_set]; exact hN)
