/-! one step as a function -/
def jif {α : Type} (c : Bool) (x : α) : Option α := cond c (some x) none
theorem jif_some {α : Type} {c : Bool} {x y : α} (h : jif c x = some y) : c = true ∧ x = y := by
  cases c with
  | true => exact ⟨rfl, Option.some.inj h⟩
  | false => cases h
abbrev jLv : Type := List (Nat × Value)
noncomputable def jnth {α : Type} (l : List α) : Nat → Option α := List.rec (motive := fun _ => Nat → Option α) (fun _ => none) (fun e _ ih k => Nat.rec (some e) (fun m _ => ih m) k) l
theorem jnth_eq {α : Type} : ∀ (l : List α) (k : Nat), jnth l k = l[k]?
  | [], k => rfl
  | e :: l, 0 => rfl
  | e :: l, k + 1 => by
    show jnth l k = _
    rw [jnth_eq l k]; rfl
def jcpy2 (xs ys : List Int32) (sp dp n : Nat) : List Int32 := ys.take dp ++ ((xs.drop sp).take n ++ ys.drop (dp + n))
theorem jcpy2_eq {xs ys : List Int32} {sp dp n : Nat} (h1 : sp + n ≤ xs.length) (h2 : dp + n ≤ ys.length) : jcpy2 xs ys sp dp n = jcpy xs ys sp dp n := by
  apply List.ext_getElem?
  intro k
  unfold jcpy jcpy2
  rw [List.getElem?_map, List.getElem?_append, List.length_take, List.getElem?_append, List.length_take, List.length_drop]
  by_cases hk : k < ys.length
  · rw [List.getElem?_range hk]
    by_cases a : k < dp
    · rw [if_pos (by omega), List.getElem?_take, if_pos a]
      show _ = some (if dp ≤ k ∧ k < dp + n then xs.getD (sp + (k - dp)) 0 else ys.getD k 0)
      rw [if_neg (by omega), List.getD_eq_getElem?_getD, List.getElem?_eq_getElem hk]; rfl
    · rw [if_neg (by omega)]
      by_cases b : k < dp + n
      · rw [if_pos (by omega), List.getElem?_take, if_pos (by omega), List.getElem?_drop]
        show _ = some (if dp ≤ k ∧ k < dp + n then xs.getD (sp + (k - dp)) 0 else ys.getD k 0)
        rw [if_pos (by omega), show sp + (k - min dp ys.length) = sp + (k - dp) by omega, List.getD_eq_getElem?_getD, List.getElem?_eq_getElem (by omega)]; rfl
      · rw [if_neg (by omega), List.getElem?_drop]
        show _ = some (if dp ≤ k ∧ k < dp + n then xs.getD (sp + (k - dp)) 0 else ys.getD k 0)
        rw [if_neg (by omega), show dp + n + (k - min dp ys.length - min n (xs.length - sp)) = k by omega, List.getD_eq_getElem?_getD, List.getElem?_eq_getElem hk]; rfl
  · rw [List.getElem?_eq_none (l := List.range ys.length) (by simpa using hk), if_neg (by omega), if_neg (by omega), List.getElem?_eq_none (by simp; omega)]; rfl
/-- the next: place, locals, stack, what becomes of the heap (a cell anew, or one more with so many places) -/
abbrev jNx : Type := Nat × jLv × List Value × Option (Option Nat × jEt × Nat)
def jup (h : jH) (u : Option (Option Nat × jEt × Nat)) : jH := match u with
  | none => h
  | some (some a, e, _) => h.set a e
  | some (none, e, _) => h ++ [e]
def jupc (u : Option (Option Nat × jEt × Nat)) : Nat := match u with
  | some (none, _, _) => 1
  | _ => 0
def jups (u : Option (Option Nat × jEt × Nat)) : Nat := match u with
  | some (none, _, s) => s
  | _ => 0
def jtg (pc : Nat) (off : Int) : Option Nat := match (pc : Int) + off with
  | .ofNat t => some t
  | .negSucc _ => none
theorem jtg_ok {pc t : Nat} {off : Int} (h : jtg pc off = some t) : (pc : Int) + off = (t : Int) := by
  unfold jtg at h
  split at h
  · rename_i t' e
    cases h
    exact e
  · cases h
def jgi (lv : jLv) (i : Nat) : Option Int32 := match jget lv i with
  | some (.int x) => some x
  | _ => none
theorem jgi_ok {lv : jLv} {i : Nat} {x : Int32} (h : jgi lv i = some x) : jget lv i = some (.int x) := by
  unfold jgi at h
  split at h
  · rename_i y e; cases h; exact e
  · cases h
def jgl (lv : jLv) (i : Nat) : Option Int64 := match jget lv i with
  | some (.long x) => some x
  | _ => none
theorem jgl_ok {lv : jLv} {i : Nat} {x : Int64} (h : jgl lv i = some x) : jget lv i = some (.long x) := by
  unfold jgl at h
  split at h
  · rename_i y e; cases h; exact e
  · cases h
def jga (lv : jLv) (i : Nat) : Option Nat := match jget lv i with
  | some (.ref x) => some x
  | _ => none
theorem jga_ok {lv : jLv} {i : Nat} {x : Nat} (h : jga lv i = some x) : jget lv i = some (.ref x) := by
  unfold jga at h
  split at h
  · rename_i y e; cases h; exact e
  · cases h
def jCB (c : Jvm.ClassFile.Cond) (x y : Int32) : Bool := match c with
  | .eq => decide (x = y)
  | .ne => decide (¬ x = y)
  | .lt => decide (x < y)
  | .ge => decide (y ≤ x)
  | .gt => decide (y < x)
  | .le => decide (x ≤ y)
theorem jCB_ok {c : Jvm.ClassFile.Cond} {x y : Int32} : jCB c x y = true ↔ jC c x y := by
  cases c <;> exact decide_eq_true_iff
noncomputable def jgetf (M : jM) (idx a : Nat) (h : jH) : Option Value := match jlk idx (jfd M.1) with
  | some (ci, k) => match jnth h a with
    | some (.inr (ci', fs)) => cond (Nat.beq ci ci') (jnth fs k) none
    | _ => none
  | none => none
theorem jgetf_ok {M : jM} {idx a : Nat} {h : jH} {v : Value} (he : jgetf M idx a h = some v) : ∃ ci k fs, jFl (jR M.1) idx ci k ∧ h[a]? = some (.inr (ci, fs)) ∧ fs[k]? = some v := by
  unfold jgetf at he
  simp only [jnth_eq] at he
  split at he
  · rename_i ci k e1
    split at he
    · rename_i ci' fs e2
      cases hb : Nat.beq ci ci' with
      | false => rw [hb] at he; cases he
      | true =>
        rw [hb] at he
        cases Nat.eq_of_beq_eq_true hb
        exact ⟨ci, k, fs, jfd_ok M.1 _ (jlk_mem e1), e2, he⟩
    · cases he
  · cases he
noncomputable def jputf (M : jM) (idx a : Nat) (v : Value) (h : jH) : Option jEt := match jlk idx (jfd M.1) with
  | some (ci, k) => match jnth h a with
    | some (.inr (ci', fs)) => jif (Nat.beq ci ci' && (jFitB (jty ci k) v && (decide (k < fs.length) && (!(jfin ci k) || (decide (M.2.1.name = "<init>") && Nat.beq ci M.1))))) (.inr (ci, fs.set k v))
    | _ => none
  | none => none
theorem jdecl {ci : Nat} {q : vw_C} (hq : vwCl[ci]? = some q) : ∀ k, k < q.2.2 → (q.2.1 k).1 = jR ci := by
  match ci, hq with
  | 0, hq => cases hq; decide +kernel
  | 1, hq => cases hq; decide +kernel
  | 2, hq => cases hq; decide +kernel
  | 3, hq => cases hq; decide +kernel
  | 4, hq => cases hq; decide +kernel
  | 5, hq => cases hq; decide +kernel
  | 6, hq => cases hq; decide +kernel
  | 7, hq => cases hq; decide +kernel
  | n + 8, hq => simp [vwCl] at hq
theorem jstep_putf {M : jM} {on : Bool} {L : Nat} {xs : Nat → Int32} {d kc ks pc a idx : Nat} {lv : jLv} {st : List Value} {h : jH} {Q : Option Value → jH → Prop} {v : Value} {e : jEt} (hR : jR M.1 = M.2.1.cls) (he : jputf M idx a v h = some e) (hd : decode M.2.2.1 pc = .ok (.putfield idx, 3)) (k : J M on L xs d kc ks (pc + 3) lv st (h.set a e) Q) : J M on L xs d kc ks pc lv (v :: .ref a :: st) h Q := by
  unfold jputf at he
  simp only [jnth_eq] at he
  split at he
  · rename_i ci k' e1
    split at he
    · rename_i ci' fs e2
      obtain ⟨h1, rfl⟩ := jif_some he
      simp only [Bool.and_eq_true, Bool.or_eq_true, Bool.not_eq_true', decide_eq_true_eq] at h1
      obtain ⟨h2, h3, h4, h5⟩ := h1
      cases Nat.eq_of_beq_eq_true h2
      have hf := jfd_ok M.1 _ (jlk_mem e1)
      rw [hR] at hf
      by_cases hfi : jfin ci k' = true
      · rcases h5 with h5 | h5
        · rw [hfi] at h5; cases h5
        · have hci := Nat.eq_of_beq_eq_true h5.2
          obtain ⟨q0, hq0, hk0, hl0⟩ := id hf
          refine J_putF hf h5.1 (fun q hq => ?_) e2 (fun q hq => ?_) (jFitB_ok h3) h4 hd k
          · cases hq.symm.trans hq0
            rw [jdecl hq _ hk0, hci]; exact hR
          · unfold jfin at hfi
            rw [show vwCl[ci]? = some q from hq] at hfi
            exact hfi
      · refine J_putf hf e2 (fun q hq => ?_) (jFitB_ok h3) h4 hd k
        unfold jfin at hfi
        rw [show vwCl[ci]? = some q from hq] at hfi
        simpa using hfi
    · cases he
  · cases he
noncomputable def jai (h : jH) (a : Nat) (i : Int32) : Option Int32 := match jnth h a with
  | some (.inl (0, .inl xs)) => cond (decide (i < 0)) none (jnth xs i.toNatClampNeg)
  | _ => none
theorem jai_ok {h : jH} {a : Nat} {i : Int32} {x : Int32} (he : jai h a i = some x) : ∃ xs, h[a]? = some (.inl (0, .inl xs)) ∧ ¬ i < 0 ∧ xs[i.toNatClampNeg]? = some x := by
  unfold jai at he
  simp only [jnth_eq] at he
  split at he
  · rename_i xs e1
    by_cases hi : i < 0
    · rw [decide_eq_true hi] at he; cases he
    · rw [decide_eq_false hi] at he; exact ⟨xs, e1, hi, he⟩
  · cases he
noncomputable def jab (h : jH) (a : Nat) (i : Int32) : Option Int32 := match jnth h a with
  | some (.inl (2, .inl xs)) => cond (decide (i < 0)) none (jnth xs i.toNatClampNeg)
  | _ => none
theorem jab_ok {h : jH} {a : Nat} {i : Int32} {x : Int32} (he : jab h a i = some x) : ∃ xs, h[a]? = some (.inl (2, .inl xs)) ∧ ¬ i < 0 ∧ xs[i.toNatClampNeg]? = some x := by
  unfold jab at he
  simp only [jnth_eq] at he
  split at he
  · rename_i xs e1
    by_cases hi : i < 0
    · rw [decide_eq_true hi] at he; cases he
    · rw [decide_eq_false hi] at he; exact ⟨xs, e1, hi, he⟩
  · cases he
noncomputable def jaz (h : jH) (a : Nat) (i : Int32) : Option Int32 := match jnth h a with
  | some (.inl (3, .inl xs)) => cond (decide (i < 0)) none (jnth xs i.toNatClampNeg)
  | _ => none
theorem jaz_ok {h : jH} {a : Nat} {i : Int32} {x : Int32} (he : jaz h a i = some x) : ∃ xs, h[a]? = some (.inl (3, .inl xs)) ∧ ¬ i < 0 ∧ xs[i.toNatClampNeg]? = some x := by
  unfold jaz at he
  simp only [jnth_eq] at he
  split at he
  · rename_i xs e1
    by_cases hi : i < 0
    · rw [decide_eq_true hi] at he; cases he
    · rw [decide_eq_false hi] at he; exact ⟨xs, e1, hi, he⟩
  · cases he
noncomputable def jal (h : jH) (a : Nat) (i : Int32) : Option Int64 := match jnth h a with
  | some (.inl (1, .inr (.inl xs))) => cond (decide (i < 0)) none (jnth xs i.toNatClampNeg)
  | _ => none
theorem jal_ok {h : jH} {a : Nat} {i : Int32} {x : Int64} (he : jal h a i = some x) : ∃ xs, h[a]? = some (.inl (1, .inr (.inl xs))) ∧ ¬ i < 0 ∧ xs[i.toNatClampNeg]? = some x := by
  unfold jal at he
  simp only [jnth_eq] at he
  split at he
  · rename_i xs e1
    by_cases hi : i < 0
    · rw [decide_eq_true hi] at he; cases he
    · rw [decide_eq_false hi] at he; exact ⟨xs, e1, hi, he⟩
  · cases he
noncomputable def jsi (h : jH) (a : Nat) (i : Int32) (x : Int32) : Option jEt := match jnth h a with
  | some (.inl (0, .inl xs)) => jif (!(decide (i < 0)) && decide (i.toNatClampNeg < xs.length)) (.inl (0, .inl (xs.set i.toNatClampNeg x)))
  | _ => none
theorem jsi_ok {h : jH} {a : Nat} {i : Int32} {x : Int32} {e : jEt} (he : jsi h a i x = some e) : ∃ xs, h[a]? = some (.inl (0, .inl xs)) ∧ ¬ i < 0 ∧ i.toNatClampNeg < xs.length ∧ e = .inl (0, .inl (xs.set i.toNatClampNeg x)) := by
  unfold jsi at he
  simp only [jnth_eq] at he
  split at he
  · rename_i xs e1
    obtain ⟨h1, rfl⟩ := jif_some he
    simp only [Bool.and_eq_true, Bool.not_eq_true', decide_eq_false_iff_not, decide_eq_true_eq] at h1
    exact ⟨xs, e1, h1.1, h1.2, rfl⟩
  · cases he
noncomputable def jsb (h : jH) (a : Nat) (i : Int32) (x : Int32) : Option jEt := match jnth h a with
  | some (.inl (2, .inl xs)) => jif (!(decide (i < 0)) && decide (i.toNatClampNeg < xs.length)) (.inl (2, .inl (xs.set i.toNatClampNeg (vp_nar .byte x))))
  | _ => none
theorem jsb_ok {h : jH} {a : Nat} {i : Int32} {x : Int32} {e : jEt} (he : jsb h a i x = some e) : ∃ xs, h[a]? = some (.inl (2, .inl xs)) ∧ ¬ i < 0 ∧ i.toNatClampNeg < xs.length ∧ e = .inl (2, .inl (xs.set i.toNatClampNeg (vp_nar .byte x))) := by
  unfold jsb at he
  simp only [jnth_eq] at he
  split at he
  · rename_i xs e1
    obtain ⟨h1, rfl⟩ := jif_some he
    simp only [Bool.and_eq_true, Bool.not_eq_true', decide_eq_false_iff_not, decide_eq_true_eq] at h1
    exact ⟨xs, e1, h1.1, h1.2, rfl⟩
  · cases he
noncomputable def jsz (h : jH) (a : Nat) (i : Int32) (x : Int32) : Option jEt := match jnth h a with
  | some (.inl (3, .inl xs)) => jif (!(decide (i < 0)) && decide (i.toNatClampNeg < xs.length)) (.inl (3, .inl (xs.set i.toNatClampNeg (vp_nar .boolean x))))
  | _ => none
theorem jsz_ok {h : jH} {a : Nat} {i : Int32} {x : Int32} {e : jEt} (he : jsz h a i x = some e) : ∃ xs, h[a]? = some (.inl (3, .inl xs)) ∧ ¬ i < 0 ∧ i.toNatClampNeg < xs.length ∧ e = .inl (3, .inl (xs.set i.toNatClampNeg (vp_nar .boolean x))) := by
  unfold jsz at he
  simp only [jnth_eq] at he
  split at he
  · rename_i xs e1
    obtain ⟨h1, rfl⟩ := jif_some he
    simp only [Bool.and_eq_true, Bool.not_eq_true', decide_eq_false_iff_not, decide_eq_true_eq] at h1
    exact ⟨xs, e1, h1.1, h1.2, rfl⟩
  · cases he
noncomputable def jsl (h : jH) (a : Nat) (i : Int32) (x : Int64) : Option jEt := match jnth h a with
  | some (.inl (1, .inr (.inl xs))) => jif (!(decide (i < 0)) && decide (i.toNatClampNeg < xs.length)) (.inl (1, .inr (.inl (xs.set i.toNatClampNeg x))))
  | _ => none
theorem jsl_ok {h : jH} {a : Nat} {i : Int32} {x : Int64} {e : jEt} (he : jsl h a i x = some e) : ∃ xs, h[a]? = some (.inl (1, .inr (.inl xs))) ∧ ¬ i < 0 ∧ i.toNatClampNeg < xs.length ∧ e = .inl (1, .inr (.inl (xs.set i.toNatClampNeg x))) := by
  unfold jsl at he
  simp only [jnth_eq] at he
  split at he
  · rename_i xs e1
    obtain ⟨h1, rfl⟩ := jif_some he
    simp only [Bool.and_eq_true, Bool.not_eq_true', decide_eq_false_iff_not, decide_eq_true_eq] at h1
    exact ⟨xs, e1, h1.1, h1.2, rfl⟩
  · cases he
noncomputable def jaa (h : jH) (a : Nat) (i : Int32) : Option Nat := match jnth h a with
  | some (.inl (t, .inr (.inr rs))) => cond (decide (i < 0) || !(Nat.beq t 4 || Nat.beq t 5)) none (match jnth rs i.toNatClampNeg with | some (some r) => some r | _ => none)
  | _ => none
theorem jaa_ok {h : jH} {a r : Nat} {i : Int32} (he : jaa h a i = some r) : ∃ t rs, h[a]? = some (.inl (t, .inr (.inr rs))) ∧ (t = 4 ∨ t = 5) ∧ ¬ i < 0 ∧ rs[i.toNatClampNeg]? = some (some r) := by
  unfold jaa at he
  simp only [jnth_eq] at he
  split at he
  · rename_i t rs e1
    cases hb : (decide (i < 0) || !(Nat.beq t 4 || Nat.beq t 5)) with
    | true => rw [hb] at he; cases he
    | false =>
      rw [hb] at he
      simp only [Bool.or_eq_false_iff, Bool.not_eq_false', Bool.or_eq_true, decide_eq_false_iff_not] at hb
      refine ⟨t, rs, e1, ?_, hb.1, ?_⟩
      · rcases hb.2 with h2 | h2
        · exact Or.inl (Nat.eq_of_beq_eq_true h2)
        · exact Or.inr (Nat.eq_of_beq_eq_true h2)
      · simp only [cond_false] at he
        split at he
        · rename_i r' e2; cases he; exact e2
        · cases he
  · cases he
noncomputable def jsa (h : jH) (a : Nat) (i : Int32) (r : Nat) : Option jEt := match jnth h a with
  | some (.inl (t, .inr (.inr rs))) => match jnth h r with
    | some (.inr (ci, _)) => jif ((Nat.beq t 4 && Nat.beq ci 5 || Nat.beq t 5 && Nat.beq ci 3) && (!(decide (i < 0)) && decide (i.toNatClampNeg < rs.length))) (.inl (t, .inr (.inr (rs.set i.toNatClampNeg (some r)))))
    | _ => none
  | _ => none
theorem jsa_ok {h : jH} {a r : Nat} {i : Int32} {e : jEt} (he : jsa h a i r = some e) : ∃ t rs ci fs, h[a]? = some (.inl (t, .inr (.inr rs))) ∧ h[r]? = some (.inr (ci, fs)) ∧ ((t = 4 ∧ ci = 5) ∨ (t = 5 ∧ ci = 3)) ∧ ¬ i < 0 ∧ i.toNatClampNeg < rs.length ∧ e = .inl (t, .inr (.inr (rs.set i.toNatClampNeg (some r)))) := by
  unfold jsa at he
  simp only [jnth_eq] at he
  split at he
  · rename_i t rs e1
    split at he
    · rename_i ci fs e2
      obtain ⟨h1, rfl⟩ := jif_some he
      simp only [Bool.and_eq_true, Bool.or_eq_true, Bool.not_eq_true', decide_eq_false_iff_not, decide_eq_true_eq] at h1
      refine ⟨t, rs, ci, fs, e1, e2, ?_, h1.2.1, h1.2.2, rfl⟩
      rcases h1.1 with ⟨a1, a2⟩ | ⟨a1, a2⟩
      · exact Or.inl ⟨Nat.eq_of_beq_eq_true a1, Nat.eq_of_beq_eq_true a2⟩
      · exact Or.inr ⟨Nat.eq_of_beq_eq_true a1, Nat.eq_of_beq_eq_true a2⟩
    · cases he
  · cases he
noncomputable def jcp (h : jH) (n dp : Int32) (a1 : Nat) (sp : Int32) (a0 : Nat) : Option jEt := match jnth h a0 with
  | some (.inl (0, .inl xa)) => match jnth h a1 with
    | some (.inl (0, .inl ya)) => jif (!(decide (sp < 0)) && (!(decide (dp < 0)) && (!(decide (n < 0)) && (decide (sp.toNatClampNeg + n.toNatClampNeg ≤ xa.length) && decide (dp.toNatClampNeg + n.toNatClampNeg ≤ ya.length))))) (.inl (0, .inl (jcpy2 xa ya sp.toNatClampNeg dp.toNatClampNeg n.toNatClampNeg)))
    | _ => none
  | _ => none
theorem jcp_ok {h : jH} {n dp sp : Int32} {a0 a1 : Nat} {e : jEt} (he : jcp h n dp a1 sp a0 = some e) : ∃ xa ya, h[a0]? = some (.inl (0, .inl xa)) ∧ h[a1]? = some (.inl (0, .inl ya)) ∧ ¬ sp < 0 ∧ ¬ dp < 0 ∧ ¬ n < 0 ∧ sp.toNatClampNeg + n.toNatClampNeg ≤ xa.length ∧ dp.toNatClampNeg + n.toNatClampNeg ≤ ya.length ∧ e = .inl (0, .inl (jcpy xa ya sp.toNatClampNeg dp.toNatClampNeg n.toNatClampNeg)) := by
  unfold jcp at he
  simp only [jnth_eq] at he
  split at he
  · rename_i xa e1
    split at he
    · rename_i ya e2
      obtain ⟨h1, rfl⟩ := jif_some he
      simp only [Bool.and_eq_true, Bool.not_eq_true', decide_eq_false_iff_not, decide_eq_true_eq] at h1
      exact ⟨xa, ya, e1, e2, h1.1, h1.2.1, h1.2.2.1, h1.2.2.2.1, h1.2.2.2.2, by rw [jcpy2_eq h1.2.2.2.1 h1.2.2.2.2]⟩
    · cases he
  · cases he
def jnt (a : ArrayType) : Option Nat := match a with
  | .int => some 0
  | .byte => some 2
  | .boolean => some 3
  | _ => none
theorem J_ifc {M : jM} {on : Bool} {L : Nat} {xs : Nat → Int32} {d kc ks pc : Nat} {lv : jLv} {st : List Value} {h : jH} {Q : Option Value → jH → Prop} {c : Jvm.ClassFile.Cond} {x : Int32} {off : Int} {tgt : Nat} (ht : (pc : Int) + off = (tgt : Int)) (hd : decode M.2.2.1 pc = .ok (.ifCond c off, 3)) (kt : jC c x 0 → J M on L xs d kc ks tgt lv st h Q) (kf : ¬ jC c x 0 → J M on L xs d kc ks (pc + 3) lv st h Q) : J M on L xs d kc ks pc lv (.int x :: st) h Q := by
  cases c
  · exact J_if_eq ht hd kt kf
  · exact J_if_ne ht hd kt kf
  · exact J_if_lt ht hd kt kf
  · exact J_if_ge ht hd kt kf
  · exact J_if_gt ht hd kt kf
  · exact J_if_le ht hd kt kf
theorem J_icmpc {M : jM} {on : Bool} {L : Nat} {xs : Nat → Int32} {d kc ks pc : Nat} {lv : jLv} {st : List Value} {h : jH} {Q : Option Value → jH → Prop} {c : Jvm.ClassFile.Cond} {x y : Int32} {off : Int} {tgt : Nat} (ht : (pc : Int) + off = (tgt : Int)) (hd : decode M.2.2.1 pc = .ok (.if_icmp c off, 3)) (kt : jC c x y → J M on L xs d kc ks tgt lv st h Q) (kf : ¬ jC c x y → J M on L xs d kc ks (pc + 3) lv st h Q) : J M on L xs d kc ks pc lv (.int y :: .int x :: st) h Q := by
  cases c
  · exact J_icmp_eq ht hd kt kf
  · exact J_icmp_ne ht hd kt kf
  · exact J_icmp_lt ht hd kt kf
  · exact J_icmp_ge ht hd kt kf
  · exact J_icmp_gt ht hd kt kf
  · exact J_icmp_le ht hd kt kf
def jsum (st : List Value) : Nat := (st.map fun v => v.category).sum
noncomputable def jstep (M : jM) (i : Instr) (n pc : Nat) (lv : jLv) (st0 : List Value) (h : jH) : Option jNx := match i, st0 with
  | .iconst m, st => jif (Nat.beq n 1) (pc + 1, lv, .int (Int32.ofInt m) :: st, none)
  | .bipush m, st => jif (Nat.beq n 2) (pc + 2, lv, .int (Int8.ofInt m).toInt32 :: st, none)
  | .sipush m, st => jif (Nat.beq n 3) (pc + 3, lv, .int (Int16.ofInt m).toInt32 :: st, none)
  | .lconst m, st => jif (Nat.beq n 1) (pc + 1, lv, .long (Int64.ofNat (m : Nat)) :: st, none)
  | .aconst_null, st => jif (Nat.beq n 1) (pc + 1, lv, .null :: st, none)
  | .iadd, .int y :: .int x :: st => jif (Nat.beq n 1) (pc + 1, lv, .int (x + y) :: st, none)
  | .isub, .int y :: .int x :: st => jif (Nat.beq n 1) (pc + 1, lv, .int (x - y) :: st, none)
  | .imul, .int y :: .int x :: st => jif (Nat.beq n 1) (pc + 1, lv, .int (x * y) :: st, none)
  | .iand, .int y :: .int x :: st => jif (Nat.beq n 1) (pc + 1, lv, .int (x &&& y) :: st, none)
  | .ior, .int y :: .int x :: st => jif (Nat.beq n 1) (pc + 1, lv, .int (x ||| y) :: st, none)
  | .ixor, .int y :: .int x :: st => jif (Nat.beq n 1) (pc + 1, lv, .int (x ^^^ y) :: st, none)
  | .ishl, .int y :: .int x :: st => jif (Nat.beq n 1) (pc + 1, lv, .int (x <<< (y &&& 31)) :: st, none)
  | .ishr, .int y :: .int x :: st => jif (Nat.beq n 1) (pc + 1, lv, .int (x >>> (y &&& 31)) :: st, none)
  | .idiv, .int y :: .int x :: st => jif (Nat.beq n 1 && !(decide (y = 0))) (pc + 1, lv, .int (x / y) :: st, none)
  | .irem, .int y :: .int x :: st => jif (Nat.beq n 1 && !(decide (y = 0))) (pc + 1, lv, .int (x - x / y * y) :: st, none)
  | .iushr, .int y :: .int x :: st => jif (Nat.beq n 1) (pc + 1, lv, .int (x.toUInt32 >>> (y.toUInt32 &&& Int32.toUInt32 31)).toInt32 :: st, none)
  | .ineg, .int x :: st => jif (Nat.beq n 1) (pc + 1, lv, .int (-x) :: st, none)
  | .land, .long y :: .long x :: st => jif (Nat.beq n 1) (pc + 1, lv, .long (x &&& y) :: st, none)
  | .lor, .long y :: .long x :: st => jif (Nat.beq n 1) (pc + 1, lv, .long (x ||| y) :: st, none)
  | .lshl, .int y :: .long x :: st => jif (Nat.beq n 1) (pc + 1, lv, .long (x <<< (y.toInt64 &&& 63)) :: st, none)
  | .lcmp, .long y :: .long x :: st => jif (Nat.beq n 1) (pc + 1, lv, .int (lg_cmp x y) :: st, none)
  | .i2l, .int x :: st => jif (Nat.beq n 1) (pc + 1, lv, .long x.toInt64 :: st, none)
  | .l2i, .long x :: st => jif (Nat.beq n 1) (pc + 1, lv, .int x.toInt32 :: st, none)
  | .i2b, .int x :: st => jif (Nat.beq n 1) (pc + 1, lv, .int x.toInt8.toInt32 :: st, none)
  | .i2s, .int x :: st => jif (Nat.beq n 1) (pc + 1, lv, .int x.toInt16.toInt32 :: st, none)
  | .dup, v :: st => jif (Nat.beq n 1 && Nat.beq v.category 1) (pc + 1, lv, v :: v :: st, none)
  | .pop, v :: st => jif (Nat.beq n 1 && Nat.beq v.category 1) (pc + 1, lv, st, none)
  | .dup2, v :: w :: st => jif (Nat.beq n 1 && (Nat.beq v.category 1 && Nat.beq w.category 1)) (pc + 1, lv, v :: w :: v :: w :: st, none)
  | .ldc idx, st => (jct M.1 idx).bind fun v => jif (Nat.beq n 2) (pc + 2, lv, .int v :: st, none)
  | .ldc_w idx, st => (jct M.1 idx).bind fun v => jif (Nat.beq n 3) (pc + 3, lv, .int v :: st, none)
  | .ldc2_w idx, st => (jctl M.1 idx).bind fun v => jif (Nat.beq n 3) (pc + 3, lv, .long v :: st, none)
  | .iload_n a, st => (jgi lv a.val).bind fun v => jif (Nat.beq n 1) (pc + 1, lv, .int v :: st, none)
  | .iload a, st => (jgi lv a).bind fun v => jif (Nat.beq n 2) (pc + 2, lv, .int v :: st, none)
  | .lload_n a, st => (jgl lv a.val).bind fun v => jif (Nat.beq n 1) (pc + 1, lv, .long v :: st, none)
  | .lload a, st => (jgl lv a).bind fun v => jif (Nat.beq n 2) (pc + 2, lv, .long v :: st, none)
  | .aload_n a, st => (jga lv a.val).bind fun v => jif (Nat.beq n 1) (pc + 1, lv, .ref v :: st, none)
  | .aload a, st => (jga lv a).bind fun v => jif (Nat.beq n 2) (pc + 2, lv, .ref v :: st, none)
  | .istore_n a, .int x :: st => jif (Nat.beq n 1 && decide (a.val < M.2.2.2.1)) (pc + 1, jset lv a.val (.int x), st, none)
  | .istore a, .int x :: st => jif (Nat.beq n 2 && decide (a < M.2.2.2.1)) (pc + 2, jset lv a (.int x), st, none)
  | .astore_n a, .ref x :: st => jif (Nat.beq n 1 && decide (a.val < M.2.2.2.1)) (pc + 1, jset lv a.val (.ref x), st, none)
  | .astore a, .ref x :: st => jif (Nat.beq n 2 && decide (a < M.2.2.2.1)) (pc + 2, jset lv a (.ref x), st, none)
  | .iinc a c, st => (jgi lv a).bind fun x => jif (Nat.beq n 3 && decide (a < M.2.2.2.1)) (pc + 3, jset lv a (.int (x + Int32.ofInt c)), st, none)
  | .ifCond c off, .int x :: st => (jtg pc off).bind fun t => jif (Nat.beq n 3) (cond (jCB c x 0) t (pc + 3), lv, st, none)
  | .if_icmp c off, .int y :: .int x :: st => (jtg pc off).bind fun t => jif (Nat.beq n 3) (cond (jCB c x y) t (pc + 3), lv, st, none)
  | .goto off, st => (jtg pc off).bind fun t => jif (Nat.beq n 3) (t, lv, st, none)
  | .tableswitch df lo hi offs, .int x :: st => (cond (decide (x.toInt < lo ∨ hi < x.toInt)) (some df) (offs[(x.toInt - lo).toNat]?)).bind fun off => (jtg pc off).bind fun t => some (t, lv, st, none)
  | .lookupswitch df ps, .int x :: st => (jtg pc (Op.lookupswitch.offset ps.toList df x.toInt)).bind fun t => jif ((ps.toList.zip (ps.toList.drop 1)).all (fun (a, next) => a.1 < next.1)) (t, lv, st, none)
  | .getfield idx, .ref a :: st => (jgetf M idx a h).bind fun v => jif (Nat.beq n 3) (pc + 3, lv, v :: st, none)
  | .putfield idx, v :: .ref a :: st => (jputf M idx a v h).bind fun e => jif (Nat.beq n 3) (pc + 3, lv, st, some (some a, e, 0))
  | .iaload, .int i :: .ref a :: st => (jai h a i).bind fun v => jif (Nat.beq n 1) (pc + 1, lv, .int v :: st, none)
  | .baload, .int i :: .ref a :: st => match jaz h a i with
    | some v => jif (Nat.beq n 1) (pc + 1, lv, .int v :: st, none)
    | none => (jab h a i).bind fun v => jif (Nat.beq n 1) (pc + 1, lv, .int v :: st, none)
  | .laload, .int i :: .ref a :: st => (jal h a i).bind fun v => jif (Nat.beq n 1) (pc + 1, lv, .long v :: st, none)
  | .aaload, .int i :: .ref a :: st => (jaa h a i).bind fun v => jif (Nat.beq n 1) (pc + 1, lv, .ref v :: st, none)
  | .iastore, .int x :: .int i :: .ref a :: st => (jsi h a i x).bind fun e => jif (Nat.beq n 1) (pc + 1, lv, st, some (some a, e, 0))
  | .bastore, .int x :: .int i :: .ref a :: st => match jsz h a i x with
    | some e => jif (Nat.beq n 1) (pc + 1, lv, st, some (some a, e, 0))
    | none => (jsb h a i x).bind fun e => jif (Nat.beq n 1) (pc + 1, lv, st, some (some a, e, 0))
  | .lastore, .long x :: .int i :: .ref a :: st => (jsl h a i x).bind fun e => jif (Nat.beq n 1) (pc + 1, lv, st, some (some a, e, 0))
  | .aastore, .ref r :: .int i :: .ref a :: st => (jsa h a i r).bind fun e => jif (Nat.beq n 1) (pc + 1, lv, st, some (some a, e, 0))
  | .new idx, st => (jnw M.1 idx).bind fun ci => (vwCl[ci]?).bind fun q => jif (Nat.beq n 3) (pc + 3, lv, .ref h.length :: st, some (none, .inr (ci, jdf ci), q.2.2))
  | .newarray ty, .int m :: st => match ty with
    | .long => jif (Nat.beq n 2 && (!(decide (m < 0)) && decide (m.toNatClampNeg ≤ 1000))) (pc + 2, lv, .ref h.length :: st, some (none, .inl (1, .inr (.inl (List.replicate m.toNatClampNeg 0))), m.toNatClampNeg))
    | ty => (jnt ty).bind fun t => jif (Nat.beq n 2 && (!(decide (m < 0)) && decide (m.toNatClampNeg ≤ 1000))) (pc + 2, lv, .ref h.length :: st, some (none, .inl (t, .inl (List.replicate m.toNatClampNeg 0)), m.toNatClampNeg))
  | .anewarray idx, .int m :: st => (jnw M.1 idx).bind fun ci => jif (Nat.beq n 3 && ((!(decide (m < 0)) && decide (m.toNatClampNeg ≤ 1000)) && (Nat.beq ci 5 || Nat.beq ci 3))) (pc + 3, lv, .ref h.length :: st, some (none, .inl (cond (Nat.beq ci 5) 4 5, .inr (.inr (List.replicate m.toNatClampNeg none))), m.toNatClampNeg))
  | .invokespecial idx, .ref v :: st => jif (Nat.beq n 3 && (Nat.beq idx (joi M.1) && (decide (M.1 < 8) && decide (jsum st ≤ 8)))) (pc + 3, lv, st, none)
  | .invokestatic idx, .int m :: .int dp :: .ref a1 :: .int sp :: .ref a0 :: st => (jcp h m dp a1 sp a0).bind fun e => jif (Nat.beq n 3 && (jac M.1 idx && decide (jsum st ≤ 8))) (pc + 3, lv, st, some (some a1, e, 0))
  | _, _ => none
set_option maxHeartbeats 4000000 in
theorem J_step {M : jM} {on : Bool} {L : Nat} {xs : Nat → Int32} {d kc ks pc n pc' : Nat} {lv lv' : jLv} {st0 st' : List Value} {h : jH} {Q : Option Value → jH → Prop} {i : Instr} {up : Option (Option Nat × jEt × Nat)} (hR : jR M.1 = M.2.1.cls) (h1 : 1 ≤ d) (hd : decode M.2.2.1 pc = .ok (i, n)) (he : jstep M i n pc lv st0 h = some (pc', lv', st', up))
    (hwf : ∀ e s, up = some (none, e, s) → jwF h.length lv st0 = true ∧ jwH h = true) (k : J M on L xs d kc ks pc' lv' st' (jup h up) Q) : J M on L xs d (kc + jupc up) (ks + jups up) pc lv st0 h Q := by
  unfold jstep at he
  split at he
  · rename_i m st
    obtain ⟨hn, he⟩ := jif_some he
    cases he
    cases Nat.eq_of_beq_eq_true hn
    exact J_iconst rfl hd k
  · rename_i m st
    obtain ⟨hn, he⟩ := jif_some he
    cases he
    cases Nat.eq_of_beq_eq_true hn
    exact J_bipush rfl hd k
  · rename_i m st
    obtain ⟨hn, he⟩ := jif_some he
    cases he
    cases Nat.eq_of_beq_eq_true hn
    exact J_sipush rfl hd k
  · rename_i m st
    obtain ⟨hn, he⟩ := jif_some he
    cases he
    cases Nat.eq_of_beq_eq_true hn
    exact J_lconst rfl hd k
  · rename_i st
    obtain ⟨hn, he⟩ := jif_some he
    cases he
    cases Nat.eq_of_beq_eq_true hn
    exact J_null hd k
  · rename_i y x st
    obtain ⟨hn, he⟩ := jif_some he
    cases he
    cases Nat.eq_of_beq_eq_true hn
    exact J_iadd hd k
  · rename_i y x st
    obtain ⟨hn, he⟩ := jif_some he
    cases he
    cases Nat.eq_of_beq_eq_true hn
    exact J_isub hd k
  · rename_i y x st
    obtain ⟨hn, he⟩ := jif_some he
    cases he
    cases Nat.eq_of_beq_eq_true hn
    exact J_imul hd k
  · rename_i y x st
    obtain ⟨hn, he⟩ := jif_some he
    cases he
    cases Nat.eq_of_beq_eq_true hn
    exact J_iand hd k
  · rename_i y x st
    obtain ⟨hn, he⟩ := jif_some he
    cases he
    cases Nat.eq_of_beq_eq_true hn
    exact J_ior hd k
  · rename_i y x st
    obtain ⟨hn, he⟩ := jif_some he
    cases he
    cases Nat.eq_of_beq_eq_true hn
    exact J_ixor hd k
  · rename_i y x st
    obtain ⟨hn, he⟩ := jif_some he
    cases he
    cases Nat.eq_of_beq_eq_true hn
    exact J_ishl hd k
  · rename_i y x st
    obtain ⟨hn, he⟩ := jif_some he
    cases he
    cases Nat.eq_of_beq_eq_true hn
    exact J_ishr hd k
  · rename_i y x st
    obtain ⟨hn, he⟩ := jif_some he
    cases he
    obtain ⟨hn, h0⟩ := Bool.and_eq_true_iff.mp hn
    cases Nat.eq_of_beq_eq_true hn
    exact J_idiv (fun z => by rw [z] at h0; cases h0) hd k
  · rename_i y x st
    obtain ⟨hn, he⟩ := jif_some he
    cases he
    obtain ⟨hn, h0⟩ := Bool.and_eq_true_iff.mp hn
    cases Nat.eq_of_beq_eq_true hn
    exact J_irem (fun z => by rw [z] at h0; cases h0) hd k
  · rename_i y x st
    obtain ⟨hn, he⟩ := jif_some he
    cases he
    cases Nat.eq_of_beq_eq_true hn
    exact J_iushr rfl hd k
  · rename_i x st
    obtain ⟨hn, he⟩ := jif_some he
    cases he
    cases Nat.eq_of_beq_eq_true hn
    exact J_ineg hd k
  · rename_i y x st
    obtain ⟨hn, he⟩ := jif_some he
    cases he
    cases Nat.eq_of_beq_eq_true hn
    exact J_land hd k
  · rename_i y x st
    obtain ⟨hn, he⟩ := jif_some he
    cases he
    cases Nat.eq_of_beq_eq_true hn
    exact J_lor hd k
  · rename_i y x st
    obtain ⟨hn, he⟩ := jif_some he
    cases he
    cases Nat.eq_of_beq_eq_true hn
    exact J_lshl rfl hd k
  · rename_i y x st
    obtain ⟨hn, he⟩ := jif_some he
    cases he
    cases Nat.eq_of_beq_eq_true hn
    exact J_lcmp hd k
  · rename_i x st
    obtain ⟨hn, he⟩ := jif_some he
    cases he
    cases Nat.eq_of_beq_eq_true hn
    exact J_i2l hd k
  · rename_i x st
    obtain ⟨hn, he⟩ := jif_some he
    cases he
    cases Nat.eq_of_beq_eq_true hn
    exact J_l2i hd k
  · rename_i x st
    obtain ⟨hn, he⟩ := jif_some he
    cases he
    cases Nat.eq_of_beq_eq_true hn
    exact J_i2b hd k
  · rename_i x st
    obtain ⟨hn, he⟩ := jif_some he
    cases he
    cases Nat.eq_of_beq_eq_true hn
    exact J_i2s hd k
  · rename_i v st
    obtain ⟨hn, he⟩ := jif_some he
    cases he
    obtain ⟨hn, h0⟩ := Bool.and_eq_true_iff.mp hn
    cases Nat.eq_of_beq_eq_true hn
    exact J_dup (Nat.eq_of_beq_eq_true h0) hd k
  · rename_i v st
    obtain ⟨hn, he⟩ := jif_some he
    cases he
    obtain ⟨hn, h0⟩ := Bool.and_eq_true_iff.mp hn
    cases Nat.eq_of_beq_eq_true hn
    exact J_pop (Nat.eq_of_beq_eq_true h0) hd k
  · rename_i v w st
    obtain ⟨hn, he⟩ := jif_some he
    cases he
    obtain ⟨hn, h0⟩ := Bool.and_eq_true_iff.mp hn
    cases Nat.eq_of_beq_eq_true hn
    exact J_dup2 (Nat.eq_of_beq_eq_true (Bool.and_eq_true_iff.mp h0).1) (Nat.eq_of_beq_eq_true (Bool.and_eq_true_iff.mp h0).2) hd k
  · rename_i idx st
    obtain ⟨v1, hv1, he⟩ := Option.bind_eq_some_iff.mp he
    obtain ⟨hn, he⟩ := jif_some he
    cases he
    cases Nat.eq_of_beq_eq_true hn
    exact J_ldc (by rw [← hR]; exact jct_ok hv1) hd k
  · rename_i idx st
    obtain ⟨v1, hv1, he⟩ := Option.bind_eq_some_iff.mp he
    obtain ⟨hn, he⟩ := jif_some he
    cases he
    cases Nat.eq_of_beq_eq_true hn
    exact J_ldcw (by rw [← hR]; exact jct_ok hv1) hd k
  · rename_i idx st
    obtain ⟨v1, hv1, he⟩ := Option.bind_eq_some_iff.mp he
    obtain ⟨hn, he⟩ := jif_some he
    cases he
    cases Nat.eq_of_beq_eq_true hn
    exact J_ldc2 (by rw [← hR]; exact jctl_ok hv1) hd k
  · rename_i a st
    obtain ⟨v1, hv1, he⟩ := Option.bind_eq_some_iff.mp he
    obtain ⟨hn, he⟩ := jif_some he
    cases he
    cases Nat.eq_of_beq_eq_true hn
    exact J_iload_n rfl (jgi_ok hv1) hd k
  · rename_i a st
    obtain ⟨v1, hv1, he⟩ := Option.bind_eq_some_iff.mp he
    obtain ⟨hn, he⟩ := jif_some he
    cases he
    cases Nat.eq_of_beq_eq_true hn
    exact J_iload (jgi_ok hv1) hd k
  · rename_i a st
    obtain ⟨v1, hv1, he⟩ := Option.bind_eq_some_iff.mp he
    obtain ⟨hn, he⟩ := jif_some he
    cases he
    cases Nat.eq_of_beq_eq_true hn
    exact J_lload_n rfl (jgl_ok hv1) hd k
  · rename_i a st
    obtain ⟨v1, hv1, he⟩ := Option.bind_eq_some_iff.mp he
    obtain ⟨hn, he⟩ := jif_some he
    cases he
    cases Nat.eq_of_beq_eq_true hn
    exact J_lload (jgl_ok hv1) hd k
  · rename_i a st
    obtain ⟨v1, hv1, he⟩ := Option.bind_eq_some_iff.mp he
    obtain ⟨hn, he⟩ := jif_some he
    cases he
    cases Nat.eq_of_beq_eq_true hn
    exact J_aload_n rfl (jga_ok hv1) hd k
  · rename_i a st
    obtain ⟨v1, hv1, he⟩ := Option.bind_eq_some_iff.mp he
    obtain ⟨hn, he⟩ := jif_some he
    cases he
    cases Nat.eq_of_beq_eq_true hn
    exact J_aload (jga_ok hv1) hd k
  · rename_i a x st
    obtain ⟨hn, he⟩ := jif_some he
    cases he
    obtain ⟨hn, h0⟩ := Bool.and_eq_true_iff.mp hn
    cases Nat.eq_of_beq_eq_true hn
    exact J_istore_n rfl (of_decide_eq_true h0) hd k
  · rename_i a x st
    obtain ⟨hn, he⟩ := jif_some he
    cases he
    obtain ⟨hn, h0⟩ := Bool.and_eq_true_iff.mp hn
    cases Nat.eq_of_beq_eq_true hn
    exact J_istore (of_decide_eq_true h0) hd k
  · rename_i a x st
    obtain ⟨hn, he⟩ := jif_some he
    cases he
    obtain ⟨hn, h0⟩ := Bool.and_eq_true_iff.mp hn
    cases Nat.eq_of_beq_eq_true hn
    exact J_astore_n rfl (of_decide_eq_true h0) hd k
  · rename_i a x st
    obtain ⟨hn, he⟩ := jif_some he
    cases he
    obtain ⟨hn, h0⟩ := Bool.and_eq_true_iff.mp hn
    cases Nat.eq_of_beq_eq_true hn
    exact J_astore (of_decide_eq_true h0) hd k
  · rename_i a c st
    obtain ⟨v1, hv1, he⟩ := Option.bind_eq_some_iff.mp he
    obtain ⟨hn, he⟩ := jif_some he
    cases he
    obtain ⟨hn, h0⟩ := Bool.and_eq_true_iff.mp hn
    cases Nat.eq_of_beq_eq_true hn
    exact J_iinc (jgi_ok hv1) rfl (of_decide_eq_true h0) hd k
  · rename_i c off x st
    obtain ⟨t1, ht1, he⟩ := Option.bind_eq_some_iff.mp he
    obtain ⟨hn, he⟩ := jif_some he
    cases he
    cases Nat.eq_of_beq_eq_true hn
    refine J_ifc (jtg_ok ht1) hd (fun hc => ?_) (fun hc => ?_)
    · rw [jCB_ok.mpr hc] at k; exact k
    · rw [Bool.eq_false_iff.mpr (fun z => hc (jCB_ok.mp z))] at k; exact k
  · rename_i c off y x st
    obtain ⟨t1, ht1, he⟩ := Option.bind_eq_some_iff.mp he
    obtain ⟨hn, he⟩ := jif_some he
    cases he
    cases Nat.eq_of_beq_eq_true hn
    refine J_icmpc (jtg_ok ht1) hd (fun hc => ?_) (fun hc => ?_)
    · rw [jCB_ok.mpr hc] at k; exact k
    · rw [Bool.eq_false_iff.mpr (fun z => hc (jCB_ok.mp z))] at k; exact k
  · rename_i off st
    obtain ⟨t1, ht1, he⟩ := Option.bind_eq_some_iff.mp he
    obtain ⟨hn, he⟩ := jif_some he
    cases he
    cases Nat.eq_of_beq_eq_true hn
    exact J_goto (jtg_ok ht1) hd k
  · rename_i df lo hi offs x st
    obtain ⟨o1, ho1, he⟩ := Option.bind_eq_some_iff.mp he
    obtain ⟨t1, ht1, he⟩ := Option.bind_eq_some_iff.mp he
    cases he
    by_cases hc : x.toInt < lo ∨ hi < x.toInt
    · rw [decide_eq_true hc] at ho1
      cases ho1
      exact J_tout hc (jtg_ok ht1) hd k
    · rw [decide_eq_false hc] at ho1
      exact J_tin (fun z => hc (Or.inl z)) (fun z => hc (Or.inr z)) ho1 (jtg_ok ht1) hd k
  · rename_i df ps x st
    obtain ⟨t1, ht1, he⟩ := Option.bind_eq_some_iff.mp he
    obtain ⟨hn, he⟩ := jif_some he
    cases he
    exact J_look hn rfl (jtg_ok ht1) hd k
  · rename_i idx a st
    obtain ⟨v1, hv1, he⟩ := Option.bind_eq_some_iff.mp he
    obtain ⟨hn, he⟩ := jif_some he
    cases he
    cases Nat.eq_of_beq_eq_true hn
    obtain ⟨ci, k', fs, g1, g2, g3⟩ := jgetf_ok hv1
    rw [hR] at g1
    exact J_getf g1 g2 g3 hd k
  · rename_i idx v a st
    obtain ⟨v1, hv1, he⟩ := Option.bind_eq_some_iff.mp he
    obtain ⟨hn, he⟩ := jif_some he
    cases he
    cases Nat.eq_of_beq_eq_true hn
    exact jstep_putf hR hv1 hd k
  · rename_i i a st
    obtain ⟨v1, hv1, he⟩ := Option.bind_eq_some_iff.mp he
    obtain ⟨hn, he⟩ := jif_some he
    cases he
    cases Nat.eq_of_beq_eq_true hn
    obtain ⟨xs', g1, g2, g3⟩ := jai_ok hv1
    exact J_iald g1 g2 g3 hd k
  · rename_i i a st
    cases hz : jaz h a i with
    | some v1 =>
      rw [hz] at he
      obtain ⟨hn, he⟩ := jif_some he
      cases he
      cases Nat.eq_of_beq_eq_true hn
      obtain ⟨xs', g1, g2, g3⟩ := jaz_ok hz
      exact J_zald g1 g2 g3 hd k
    | none =>
      rw [hz] at he
      obtain ⟨v1, hv1, he⟩ := Option.bind_eq_some_iff.mp he
      obtain ⟨hn, he⟩ := jif_some he
      cases he
      cases Nat.eq_of_beq_eq_true hn
      obtain ⟨xs', g1, g2, g3⟩ := jab_ok hv1
      exact J_bald g1 g2 g3 hd k
  · rename_i i a st
    obtain ⟨v1, hv1, he⟩ := Option.bind_eq_some_iff.mp he
    obtain ⟨hn, he⟩ := jif_some he
    cases he
    cases Nat.eq_of_beq_eq_true hn
    obtain ⟨xs', g1, g2, g3⟩ := jal_ok hv1
    exact J_lald g1 g2 g3 hd k
  · rename_i i a st
    obtain ⟨v1, hv1, he⟩ := Option.bind_eq_some_iff.mp he
    obtain ⟨hn, he⟩ := jif_some he
    cases he
    cases Nat.eq_of_beq_eq_true hn
    obtain ⟨t, rs, g1, g2, g3, g4⟩ := jaa_ok hv1
    exact J_aald g2 g1 g3 g4 hd k
  · rename_i x i a st
    obtain ⟨v1, hv1, he⟩ := Option.bind_eq_some_iff.mp he
    obtain ⟨hn, he⟩ := jif_some he
    cases he
    cases Nat.eq_of_beq_eq_true hn
    obtain ⟨xs', g1, g2, g3, rfl⟩ := jsi_ok hv1
    exact J_iast g1 g2 g3 hd k
  · rename_i x i a st
    cases hz : jsz h a i x with
    | some v1 =>
      rw [hz] at he
      obtain ⟨hn, he⟩ := jif_some he
      cases he
      cases Nat.eq_of_beq_eq_true hn
      obtain ⟨xs', g1, g2, g3, rfl⟩ := jsz_ok hz
      exact J_zast g1 g2 g3 hd k
    | none =>
      rw [hz] at he
      obtain ⟨v1, hv1, he⟩ := Option.bind_eq_some_iff.mp he
      obtain ⟨hn, he⟩ := jif_some he
      cases he
      cases Nat.eq_of_beq_eq_true hn
      obtain ⟨xs', g1, g2, g3, rfl⟩ := jsb_ok hv1
      exact J_bast g1 g2 g3 hd k
  · rename_i x i a st
    obtain ⟨v1, hv1, he⟩ := Option.bind_eq_some_iff.mp he
    obtain ⟨hn, he⟩ := jif_some he
    cases he
    cases Nat.eq_of_beq_eq_true hn
    obtain ⟨xs', g1, g2, g3, rfl⟩ := jsl_ok hv1
    exact J_last g1 g2 g3 hd k
  · rename_i r i a st
    obtain ⟨v1, hv1, he⟩ := Option.bind_eq_some_iff.mp he
    obtain ⟨hn, he⟩ := jif_some he
    cases he
    cases Nat.eq_of_beq_eq_true hn
    obtain ⟨t, rs, ci, fs, g1, g2, g3, g4, g5, rfl⟩ := jsa_ok hv1
    exact J_aast g3 g1 g2 g4 g5 hd k
  · rename_i idx st
    obtain ⟨ci, hci, he⟩ := Option.bind_eq_some_iff.mp he
    obtain ⟨q, hq, he⟩ := Option.bind_eq_some_iff.mp he
    obtain ⟨hn, he⟩ := jif_some he
    cases he
    cases Nat.eq_of_beq_eq_true hn
    obtain ⟨q', g1, g2, g3, g4⟩ := jnw_ok hci
    cases hq.symm.trans g1
    rw [hR] at g2
    exact J_new hq g2 g3 g4 (jdf_ok hq).1 (jdf_ok hq).2 (hwf _ _ rfl).1 (hwf _ _ rfl).2 hd k
  · rename_i ty m st
    have hwr : ∀ e s, up = some (none, e, s) → jwF h.length lv st = true ∧ jwH h = true := fun e s z => by
      have h1 := hwf e s z
      refine ⟨?_, h1.2⟩
      have h2 := h1.1
      unfold jwF at h2 ⊢
      simp only [List.all_cons, Bool.and_eq_true] at h2 ⊢
      exact ⟨h2.1, h2.2.2⟩
    have fin : ∀ {c : Bool}, (Nat.beq n 2 && (!(decide (m < 0)) && c)) = true → n = 2 ∧ ¬ m < 0 ∧ c = true := fun hc => by
      simp only [Bool.and_eq_true, Bool.not_eq_true', decide_eq_false_iff_not] at hc
      exact ⟨Nat.eq_of_beq_eq_true hc.1, hc.2.1, hc.2.2⟩
    split at he
    · obtain ⟨hn, he⟩ := jif_some he
      cases he
      obtain ⟨rfl, g1, g2⟩ := fin hn
      have g3 := of_decide_eq_true g2
      exact J_newL (N := m.toNatClampNeg) g1 rfl (by omega) (hwr _ _ rfl).1 (hwr _ _ rfl).2 hd k
    · obtain ⟨t, ht, he⟩ := Option.bind_eq_some_iff.mp he
      obtain ⟨hn, he⟩ := jif_some he
      cases he
      obtain ⟨rfl, g1, g2⟩ := fin hn
      have g3 := of_decide_eq_true g2
      unfold jnt at ht
      split at ht
      · cases ht
        exact J_newI (N := m.toNatClampNeg) (atype := .int) (Or.inl rfl) rfl ar_int g1 rfl (by omega) (hwr _ _ rfl).1 (hwr _ _ rfl).2 hd k
      · cases ht
        exact J_newI (N := m.toNatClampNeg) (atype := .byte) (Or.inr (Or.inl rfl)) rfl ar_byte g1 rfl (by omega) (hwr _ _ rfl).1 (hwr _ _ rfl).2 hd k
      · cases ht
        exact J_newI (N := m.toNatClampNeg) (atype := .boolean) (Or.inr (Or.inr rfl)) rfl ar_boolean g1 rfl (by omega) (hwr _ _ rfl).1 (hwr _ _ rfl).2 hd k
      · cases ht
  · rename_i idx m st
    have hwr : ∀ e s, up = some (none, e, s) → jwF h.length lv st = true ∧ jwH h = true := fun e s z => by
      have h1 := hwf e s z
      refine ⟨?_, h1.2⟩
      have h2 := h1.1
      unfold jwF at h2 ⊢
      simp only [List.all_cons, Bool.and_eq_true] at h2 ⊢
      exact ⟨h2.1, h2.2.2⟩
    obtain ⟨ci, hci, he⟩ := Option.bind_eq_some_iff.mp he
    obtain ⟨hn, he⟩ := jif_some he
    cases he
    simp only [Bool.and_eq_true, Bool.or_eq_true, Bool.not_eq_true', decide_eq_false_iff_not, decide_eq_true_eq] at hn
    obtain ⟨hn, ⟨g1, g2⟩, g3⟩ := hn
    cases Nat.eq_of_beq_eq_true hn
    obtain ⟨q', f1, f2, f3, f4⟩ := jnw_ok hci
    rw [hR] at f2
    rcases g3 with g3 | g3
    · cases Nat.eq_of_beq_eq_true g3
      cases f1
      exact J_newq (N := m.toNatClampNeg) (t := 4) (C := RX5) (by decide) rfl (fun _ z => z.1) f2 g1 rfl (by omega) (hwr _ _ rfl).1 (hwr _ _ rfl).2 hd k
    · cases Nat.eq_of_beq_eq_true g3
      cases f1
      exact J_newq (N := m.toNatClampNeg) (t := 5) (C := RX3) (by decide) rfl (fun _ z => z.2.1) f2 g1 rfl (by omega) (hwr _ _ rfl).1 (hwr _ _ rfl).2 hd k
  · rename_i idx v st
    obtain ⟨hn, he⟩ := jif_some he
    cases he
    simp only [Bool.and_eq_true, decide_eq_true_eq] at hn
    obtain ⟨hn, g1, g2, g3⟩ := hn
    cases Nat.eq_of_beq_eq_true hn
    cases Nat.eq_of_beq_eq_true g1
    exact J_oinit (by rw [← hR]; exact joi_ok g2) g3 h1 hd k
  · rename_i idx m dp a1 sp a0 st
    obtain ⟨v1, hv1, he⟩ := Option.bind_eq_some_iff.mp he
    obtain ⟨hn, he⟩ := jif_some he
    cases he
    simp only [Bool.and_eq_true, decide_eq_true_eq] at hn
    obtain ⟨hn, g1, g2⟩ := hn
    cases Nat.eq_of_beq_eq_true hn
    obtain ⟨xa, ya, f1, f2, f3, f4, f5, f6, f7, rfl⟩ := jcp_ok hv1
    exact J_copyi (by rw [← hR]; exact jac_ok g1) g2 h1 f1 f2 f3 f4 f5 f6 f7 hd k
  · cases he
