-- 05b.step.lean.txt
section
/-! one step as a function -/
def jif {α : Type} (c : Bool) (x : α) : Option α := cond c (some x) none
theorem jif_some {α : Type} {c : Bool} {x y : α} (h : jif c x = some y) : c = true ∧ x = y := by
  cases c with
  | true => exact ⟨rfl, Option.some.inj h⟩
  | false => cases h
abbrev jLv : Type := List (Nat × Value)
noncomputable def jnth {α : Type} (l : List α) : Nat → Option α := List.rec (motive := fun _ => Nat → Option α) (fun _ => none) (fun e _ ih k => Nat.rec (some e) (fun m _ => ih m) k) l
theorem jnth_eq {α : Type} : ∀ (l : List α) (k : Nat), jnth l k = l[k]?
  | [], k => rfl
  | e :: l, 0 => rfl
  | e :: l, k + 1 => by
    show jnth l k = _
    rw [jnth_eq l k]; rfl
def jcpy2 (xs ys : List Int32) (sp dp n : Nat) : List Int32 := ys.take dp ++ ((xs.drop sp).take n ++ ys.drop (dp + n))
theorem jcpy2_eq {xs ys : List Int32} {sp dp n : Nat} (h1 : sp + n ≤ xs.length) (h2 : dp + n ≤ ys.length) : jcpy2 xs ys sp dp n = jcpy xs ys sp dp n := by
  apply List.ext_getElem?
  intro k
  unfold jcpy jcpy2
  rw [List.getElem?_map, List.getElem?_append, List.length_take, List.getElem?_append, List.length_take, List.length_drop]
  by_cases hk : k < ys.length
  · rw [List.getElem?_range hk]
    by_cases a : k < dp
    · rw [if_pos (by omega), List.getElem?_take, if_pos a]
      show _ = some (if dp ≤ k ∧ k < dp + n then xs.getD (sp + (k - dp)) 0 else ys.getD k 0)
      rw [if_neg (by omega), List.getD_eq_getElem?_getD, List.getElem?_eq_getElem hk]; rfl
    · rw [if_neg (by omega)]
      by_cases b : k < dp + n
      · rw [if_pos (by omega), List.getElem?_take, if_pos (by omega), List.getElem?_drop]
        show _ = some (if dp ≤ k ∧ k < dp + n then xs.getD (sp + (k - dp)) 0 else ys.getD k 0)
        rw [if_pos (by omega), show sp + (k - min dp ys.length) = sp + (k - dp) by omega, List.getD_eq_getElem?_getD, List.getElem?_eq_getElem (by omega)]; rfl
      · rw [if_neg (by omega), List.getElem?_drop]
        show _ = some (if dp ≤ k ∧ k < dp + n then xs.getD (sp + (k - dp)) 0 else ys.getD k 0)
        rw [if_neg (by omega), show dp + n + (k - min dp ys.length - min n (xs.length - sp)) = k by omega, List.getD_eq_getElem?_getD, List.getElem?_eq_getElem hk]; rfl
  · rw [List.getElem?_eq_none (l := List.range ys.length) (by simpa using hk), if_neg (by omega), if_neg (by omega), List.getElem?_eq_none (by simp; omega)]; rfl
/-- the next: place, locals, stack, what becomes of the heap (a cell anew, or one more with so many places) -/
abbrev jNx : Type := Nat × jLv × List Value × Option (Option Nat × jEt × Nat)
def jup (h : jH) (u : Option (Option Nat × jEt × Nat)) : jH := match u with
  | none => h
  | some (some a, e, _) => h.set a e
  | some (none, e, _) => h ++ [e]
def jupc (u : Option (Option Nat × jEt × Nat)) : Nat := match u with
  | some (none, _, _) => 1
  | _ => 0
def jups (u : Option (Option Nat × jEt × Nat)) : Nat := match u with
  | some (none, _, s) => s
  | _ => 0
def jtg (pc : Nat) (off : Int) : Option Nat := match (pc : Int) + off with
  | .ofNat t => some t
  | .negSucc _ => none
theorem jtg_ok {pc t : Nat} {off : Int} (h : jtg pc off = some t) : (pc : Int) + off = (t : Int) := by
  unfold jtg at h
  split at h
  · rename_i t' e
    cases h
    exact e
  · cases h
def jgi (lv : jLv) (i : Nat) : Option Int32 := match jget lv i with
  | some (.int x) => some x
  | _ => none
theorem jgi_ok {lv : jLv} {i : Nat} {x : Int32} (h : jgi lv i = some x) : jget lv i = some (.int x) := by
  unfold jgi at h
  split at h
  · rename_i y e; cases h; exact e
  · cases h
def jgl (lv : jLv) (i : Nat) : Option Int64 := match jget lv i with
  | some (.long x) => some x
  | _ => none
theorem jgl_ok {lv : jLv} {i : Nat} {x : Int64} (h : jgl lv i = some x) : jget lv i = some (.long x) := by
  unfold jgl at h
  split at h
  · rename_i y e; cases h; exact e
  · cases h
def jga (lv : jLv) (i : Nat) : Option Nat := match jget lv i with
  | some (.ref x) => some x
  | _ => none
theorem jga_ok {lv : jLv} {i : Nat} {x : Nat} (h : jga lv i = some x) : jget lv i = some (.ref x) := by
  unfold jga at h
  split at h
  · rename_i y e; cases h; exact e
  · cases h
def jCB (c : Jvm.ClassFile.Cond) (x y : Int32) : Bool := match c with
  | .eq => decide (x = y)
  | .ne => decide (¬ x = y)
  | .lt => decide (x < y)
  | .ge => decide (y ≤ x)
  | .gt => decide (y < x)
  | .le => decide (x ≤ y)
theorem jCB_ok {c : Jvm.ClassFile.Cond} {x y : Int32} : jCB c x y = true ↔ jC c x y := by
  cases c <;> exact decide_eq_true_iff
noncomputable def jgetf (M : jM) (idx a : Nat) (h : jH) : Option Value := match jlk idx (jfd M.1) with
  | some (ci, k) => match jnth h a with
    | some (.inr (ci', fs)) => cond (Nat.beq ci ci') (jnth fs k) none
    | _ => none
  | none => none
theorem jgetf_ok {M : jM} {idx a : Nat} {h : jH} {v : Value} (he : jgetf M idx a h = some v) : ∃ ci k fs, jFl (jR M.1) idx ci k ∧ h[a]? = some (.inr (ci, fs)) ∧ fs[k]? = some v := by
  unfold jgetf at he
  simp only [jnth_eq] at he
  split at he
  · rename_i ci k e1
    split at he
    · rename_i ci' fs e2
      cases hb : Nat.beq ci ci' with
      | false => rw [hb] at he; cases he
      | true =>
        rw [hb] at he
        cases Nat.eq_of_beq_eq_true hb
        exact ⟨ci, k, fs, jfd_ok M.1 _ (jlk_mem e1), e2, he⟩
    · cases he
  · cases he
noncomputable def jputf (M : jM) (idx a : Nat) (v : Value) (h : jH) : Option jEt := match jlk idx (jfd M.1) with
  | some (ci, k) => match jnth h a with
    | some (.inr (ci', fs)) => jif (Nat.beq ci ci' && (jFitB (jty ci k) v && (decide (k < fs.length) && (!(jfin ci k) || (decide (M.2.1.name = "<init>") && Nat.beq ci M.1))))) (.inr (ci, fs.set k v))
    | _ => none
  | none => none
theorem jdecl {ci : Nat} {q : vw_C} (hq : vwCl[ci]? = some q) : ∀ k, k < q.2.2 → (q.2.1 k).1 = jR ci := by
  match ci, hq with
  | 0, hq => cases hq; decide +kernel
  | 1, hq => cases hq; decide +kernel
  | 2, hq => cases hq; decide +kernel
  | 3, hq => cases hq; decide +kernel
  | 4, hq => cases hq; decide +kernel
  | 5, hq => cases hq; decide +kernel
  | 6, hq => cases hq; decide +kernel
  | 7, hq => cases hq; decide +kernel
  | n + 8, hq => simp [vwCl] at hq
theorem jstep_putf {M : jM} {on : Bool} {L : Nat} {xs : Nat → Int32} {d kc ks pc a idx : Nat} {lv : jLv} {st : List Value} {h : jH} {Q : Option Value → jH → Prop} {v : Value} {e : jEt} (hR : jR M.1 = M.2.1.cls) (he : jputf M idx a v h = some e) (hd : decode M.2.2.1 pc = .ok (.putfield idx, 3)) (k : J M on L xs d kc ks (pc + 3) lv st (h.set a e) Q) : J M on L xs d kc ks pc lv (v :: .ref a :: st) h Q := by
  unfold jputf at he
  simp only [jnth_eq] at he
  split at he
  · rename_i ci k' e1
    split at he
    · rename_i ci' fs e2
      obtain ⟨h1, rfl⟩ := jif_some he
      simp only [Bool.and_eq_true, Bool.or_eq_true, Bool.not_eq_true', decide_eq_true_eq] at h1
      obtain ⟨h2, h3, h4, h5⟩ := h1
      cases Nat.eq_of_beq_eq_true h2
      have hf := jfd_ok M.1 _ (jlk_mem e1)
      rw [hR] at hf
      by_cases hfi : jfin ci k' = true
      · rcases h5 with h5 | h5
        · rw [hfi] at h5; cases h5
        · have hci := Nat.eq_of_beq_eq_true h5.2
          obtain ⟨q0, hq0, hk0, hl0⟩ := id hf
          refine J_putF hf h5.1 (fun q hq => ?_) e2 (fun q hq => ?_) (jFitB_ok h3) h4 hd k
          · cases hq.symm.trans hq0
            rw [jdecl hq _ hk0, hci]; exact hR
          · unfold jfin at hfi
            rw [show vwCl[ci]? = some q from hq] at hfi
            exact hfi
      · refine J_putf hf e2 (fun q hq => ?_) (jFitB_ok h3) h4 hd k
        unfold jfin at hfi
        rw [show vwCl[ci]? = some q from hq] at hfi
        simpa using hfi
    · cases he
  · cases he
noncomputable def jai (h : jH) (a : Nat) (i : Int32) : Option Int32 := match jnth h a with
  | some (.inl (0, .inl xs)) => cond (decide (i < 0)) none (jnth xs i.toNatClampNeg)
  | _ => none
theorem jai_ok {h : jH} {a : Nat} {i : Int32} {x : Int32} (he : jai h a i = some x) : ∃ xs, h[a]? = some (.inl (0, .inl xs)) ∧ ¬ i < 0 ∧ xs[i.toNatClampNeg]? = some x := by
  unfold jai at he
  simp only [jnth_eq] at he
  split at he
  · rename_i xs e1
    by_cases hi : i < 0
    · rw [decide_eq_true hi] at he; cases he
    · rw [decide_eq_false hi] at he; exact ⟨xs, e1, hi, he⟩
  · cases he
noncomputable def jab (h : jH) (a : Nat) (i : Int32) : Option Int32 := match jnth h a with
  | some (.inl (2, .inl xs)) => cond (decide (i < 0)) none (jnth xs i.toNatClampNeg)
  | _ => none
theorem jab_ok {h : jH} {a : Nat} {i : Int32} {x : Int32} (he : jab h a i = some x) : ∃ xs, h[a]? = some (.inl (2, .inl xs)) ∧ ¬ i < 0 ∧ xs[i.toNatClampNeg]? = some x := by
  unfold jab at he
  simp only [jnth_eq] at he
  split at he
  · rename_i xs e1
    by_cases hi : i < 0
    · rw [decide_eq_true hi] at he; cases he
    · rw [decide_eq_false hi] at he; exact ⟨xs, e1, hi, he⟩
  · cases he
noncomputable def jaz (h : jH) (a : Nat) (i : Int32) : Option Int32 := match jnth h a with
  | some (.inl (3, .inl xs)) => cond (decide (i < 0)) none (jnth xs i.toNatClampNeg)
  | _ => none
theorem jaz_ok {h : jH} {a : Nat} {i : Int32} {x : Int32} (he : jaz h a i = some x) : ∃ xs, h[a]? = some (.inl (3, .inl xs)) ∧ ¬ i < 0 ∧ xs[i.toNatClampNeg]? = some x := by
  unfold jaz at he
  simp only [jnth_eq] at he
  split at he
  · rename_i xs e1
    by_cases hi : i < 0
    · rw [decide_eq_true hi] at he; cases he
    · rw [decide_eq_false hi] at he; exact ⟨xs, e1, hi, he⟩
  · cases he
noncomputable def jal (h : jH) (a : Nat) (i : Int32) : Option Int64 := match jnth h a with
  | some (.inl (1, .inr (.inl xs))) => cond (decide (i < 0)) none (jnth xs i.toNatClampNeg)
  | _ => none
theorem jal_ok {h : jH} {a : Nat} {i : Int32} {x : Int64} (he : jal h a i = some x) : ∃ xs, h[a]? = some (.inl (1, .inr (.inl xs))) ∧ ¬ i < 0 ∧ xs[i.toNatClampNeg]? = some x := by
  unfold jal at he
  simp only [jnth_eq] at he
  split at he
  · rename_i xs e1
    by_cases hi : i < 0
    · rw [decide_eq_true hi] at he; cases he
    · rw [decide_eq_false hi] at he; exact ⟨xs, e1, hi, he⟩
  · cases he
noncomputable def jsi (h : jH) (a : Nat) (i : Int32) (x : Int32) : Option jEt := match jnth h a with
  | some (.inl (0, .inl xs)) => jif (!(decide (i < 0)) && decide (i.toNatClampNeg < xs.length)) (.inl (0, .inl (xs.set i.toNatClampNeg x)))
  | _ => none
theorem jsi_ok {h : jH} {a : Nat} {i : Int32} {x : Int32} {e : jEt} (he : jsi h a i x = some e) : ∃ xs, h[a]? = some (.inl (0, .inl xs)) ∧ ¬ i < 0 ∧ i.toNatClampNeg < xs.length ∧ e = .inl (0, .inl (xs.set i.toNatClampNeg x)) := by
  unfold jsi at he
  simp only [jnth_eq] at he
  split at he
  · rename_i xs e1
    obtain ⟨h1, rfl⟩ := jif_some he
    simp only [Bool.and_eq_true, Bool.not_eq_true', decide_eq_false_iff_not, decide_eq_true_eq] at h1
    exact ⟨xs, e1, h1.1, h1.2, rfl⟩
  · cases he
noncomputable def jsb (h : jH) (a : Nat) (i : Int32) (x : Int32) : Option jEt := match jnth h a with
  | some (.inl (2, .inl xs)) => jif (!(decide (i < 0)) && decide (i.toNatClampNeg < xs.length)) (.inl (2, .inl (xs.set i.toNatClampNeg (vp_nar .byte x))))
  | _ => none
theorem jsb_ok {h : jH} {a : Nat} {i : Int32} {x : Int32} {e : jEt} (he : jsb h a i x = some e) : ∃ xs, h[a]? = some (.inl (2, .inl xs)) ∧ ¬ i < 0 ∧ i.toNatClampNeg < xs.length ∧ e = .inl (2, .inl (xs.set i.toNatClampNeg (vp_nar .byte x))) := by
  unfold jsb at he
  simp only [jnth_eq] at he
  split at he
  · rename_i xs e1
    obtain ⟨h1, rfl⟩ := jif_some he
    simp only [Bool.and_eq_true, Bool.not_eq_true', decide_eq_false_iff_not, decide_eq_true_eq] at h1
    exact ⟨xs, e1, h1.1, h1.2, rfl⟩
  · cases he
noncomputable def jsz (h : jH) (a : Nat) (i : Int32) (x : Int32) : Option jEt := match jnth h a with
  | some (.inl (3, .inl xs)) => jif (!(decide (i < 0)) && decide (i.toNatClampNeg < xs.length)) (.inl (3, .inl (xs.set i.toNatClampNeg (vp_nar .boolean x))))
  | _ => none
theorem jsz_ok {h : jH} {a : Nat} {i : Int32} {x : Int32} {e : jEt} (he : jsz h a i x = some e) : ∃ xs, h[a]? = some (.inl (3, .inl xs)) ∧ ¬ i < 0 ∧ i.toNatClampNeg < xs.length ∧ e = .inl (3, .inl (xs.set i.toNatClampNeg (vp_nar .boolean x))) := by
  unfold jsz at he
  simp only [jnth_eq] at he
  split at he
  · rename_i xs e1
    obtain ⟨h1, rfl⟩ := jif_some he
    simp only [Bool.and_eq_true, Bool.not_eq_true', decide_eq_false_iff_not, decide_eq_true_eq] at h1
    exact ⟨xs, e1, h1.1, h1.2, rfl⟩
  · cases he
noncomputable def jsl (h : jH) (a : Nat) (i : Int32) (x : Int64) : Option jEt := match jnth h a with
  | some (.inl (1, .inr (.inl xs))) => jif (!(decide (i < 0)) && decide (i.toNatClampNeg < xs.length)) (.inl (1, .inr (.inl (xs.set i.toNatClampNeg x))))
  | _ => none
theorem jsl_ok {h : jH} {a : Nat} {i : Int32} {x : Int64} {e : jEt} (he : jsl h a i x = some e) : ∃ xs, h[a]? = some (.inl (1, .inr (.inl xs))) ∧ ¬ i < 0 ∧ i.toNatClampNeg < xs.length ∧ e = .inl (1, .inr (.inl (xs.set i.toNatClampNeg x))) := by
  unfold jsl at he
  simp only [jnth_eq] at he
  split at he
  · rename_i xs e1
    obtain ⟨h1, rfl⟩ := jif_some he
    simp only [Bool.and_eq_true, Bool.not_eq_true', decide_eq_false_iff_not, decide_eq_true_eq] at h1
    exact ⟨xs, e1, h1.1, h1.2, rfl⟩
  · cases he
noncomputable def jaa (h : jH) (a : Nat) (i : Int32) : Option Nat := match jnth h a with
  | some (.inl (t, .inr (.inr rs))) => cond (decide (i < 0) || !(Nat.beq t 4 || Nat.beq t 5)) none (match jnth rs i.toNatClampNeg with | some (some r) => some r | _ => none)
  | _ => none
theorem jaa_ok {h : jH} {a r : Nat} {i : Int32} (he : jaa h a i = some r) : ∃ t rs, h[a]? = some (.inl (t, .inr (.inr rs))) ∧ (t = 4 ∨ t = 5) ∧ ¬ i < 0 ∧ rs[i.toNatClampNeg]? = some (some r) := by
  unfold jaa at he
  simp only [jnth_eq] at he
  split at he
  · rename_i t rs e1
    cases hb : (decide (i < 0) || !(Nat.beq t 4 || Nat.beq t 5)) with
    | true => rw [hb] at he; cases he
    | false =>
      rw [hb] at he
      simp only [Bool.or_eq_false_iff, Bool.not_eq_false', Bool.or_eq_true, decide_eq_false_iff_not] at hb
      refine ⟨t, rs, e1, ?_, hb.1, ?_⟩
      · rcases hb.2 with h2 | h2
        · exact Or.inl (Nat.eq_of_beq_eq_true h2)
        · exact Or.inr (Nat.eq_of_beq_eq_true h2)
      · simp only [cond_false] at he
        split at he
        · rename_i r' e2; cases he; exact e2
        · cases he
  · cases he
noncomputable def jsa (h : jH) (a : Nat) (i : Int32) (r : Nat) : Option jEt := match jnth h a with
  | some (.inl (t, .inr (.inr rs))) => match jnth h r with
    | some (.inr (ci, _)) => jif ((Nat.beq t 4 && Nat.beq ci 5 || Nat.beq t 5 && Nat.beq ci 3) && (!(decide (i < 0)) && decide (i.toNatClampNeg < rs.length))) (.inl (t, .inr (.inr (rs.set i.toNatClampNeg (some r)))))
    | _ => none
  | _ => none
theorem jsa_ok {h : jH} {a r : Nat} {i : Int32} {e : jEt} (he : jsa h a i r = some e) : ∃ t rs ci fs, h[a]? = some (.inl (t, .inr (.inr rs))) ∧ h[r]? = some (.inr (ci, fs)) ∧ ((t = 4 ∧ ci = 5) ∨ (t = 5 ∧ ci = 3)) ∧ ¬ i < 0 ∧ i.toNatClampNeg < rs.length ∧ e = .inl (t, .inr (.inr (rs.set i.toNatClampNeg (some r)))) := by
  unfold jsa at he
  simp only [jnth_eq] at he
  split at he
  · rename_i t rs e1
    split at he
    · rename_i ci fs e2
      obtain ⟨h1, rfl⟩ := jif_some he
      simp only [Bool.and_eq_true, Bool.or_eq_true, Bool.not_eq_true', decide_eq_false_iff_not, decide_eq_true_eq] at h1
      refine ⟨t, rs, ci, fs, e1, e2, ?_, h1.2.1, h1.2.2, rfl⟩
      rcases h1.1 with ⟨a1, a2⟩ | ⟨a1, a2⟩
      · exact Or.inl ⟨Nat.eq_of_beq_eq_true a1, Nat.eq_of_beq_eq_true a2⟩
      · exact Or.inr ⟨Nat.eq_of_beq_eq_true a1, Nat.eq_of_beq_eq_true a2⟩
    · cases he
  · cases he
noncomputable def jcp (h : jH) (n dp : Int32) (a1 : Nat) (sp : Int32) (a0 : Nat) : Option jEt := match jnth h a0 with
  | some (.inl (0, .inl xa)) => match jnth h a1 with
    | some (.inl (0, .inl ya)) => jif (!(decide (sp < 0)) && (!(decide (dp < 0)) && (!(decide (n < 0)) && (decide (sp.toNatClampNeg + n.toNatClampNeg ≤ xa.length) && decide (dp.toNatClampNeg + n.toNatClampNeg ≤ ya.length))))) (.inl (0, .inl (jcpy2 xa ya sp.toNatClampNeg dp.toNatClampNeg n.toNatClampNeg)))
    | _ => none
  | _ => none
theorem jcp_ok {h : jH} {n dp sp : Int32} {a0 a1 : Nat} {e : jEt} (he : jcp h n dp a1 sp a0 = some e) : ∃ xa ya, h[a0]? = some (.inl (0, .inl xa)) ∧ h[a1]? = some (.inl (0, .inl ya)) ∧ ¬ sp < 0 ∧ ¬ dp < 0 ∧ ¬ n < 0 ∧ sp.toNatClampNeg + n.toNatClampNeg ≤ xa.length ∧ dp.toNatClampNeg + n.toNatClampNeg ≤ ya.length ∧ e = .inl (0, .inl (jcpy xa ya sp.toNatClampNeg dp.toNatClampNeg n.toNatClampNeg)) := by
  unfold jcp at he
  simp only [jnth_eq] at he
  split at he
  · rename_i xa e1
    split at he
    · rename_i ya e2
      obtain ⟨h1, rfl⟩ := jif_some he
      simp only [Bool.and_eq_true, Bool.not_eq_true', decide_eq_false_iff_not, decide_eq_true_eq] at h1
      exact ⟨xa, ya, e1, e2, h1.1, h1.2.1, h1.2.2.1, h1.2.2.2.1, h1.2.2.2.2, by rw [jcpy2_eq h1.2.2.2.1 h1.2.2.2.2]⟩
    · cases he
  · cases he
def jnt (a : ArrayType) : Option Nat := match a with
  | .int => some 0
  | .byte => some 2
  | .boolean => some 3
  | _ => none
theorem J_ifc {M : jM} {on : Bool} {L : Nat} {xs : Nat → Int32} {d kc ks pc : Nat} {lv : jLv} {st : List Value} {h : jH} {Q : Option Value → jH → Prop} {c : Jvm.ClassFile.Cond} {x : Int32} {off : Int} {tgt : Nat} (ht : (pc : Int) + off = (tgt : Int)) (hd : decode M.2.2.1 pc = .ok (.ifCond c off, 3)) (kt : jC c x 0 → J M on L xs d kc ks tgt lv st h Q) (kf : ¬ jC c x 0 → J M on L xs d kc ks (pc + 3) lv st h Q) : J M on L xs d kc ks pc lv (.int x :: st) h Q := by
  cases c
  · exact J_if_eq ht hd kt kf
  · exact J_if_ne ht hd kt kf
  · exact J_if_lt ht hd kt kf
  · exact J_if_ge ht hd kt kf
  · exact J_if_gt ht hd kt kf
  · exact J_if_le ht hd kt kf
theorem J_icmpc {M : jM} {on : Bool} {L : Nat} {xs : Nat → Int32} {d kc ks pc : Nat} {lv : jLv} {st : List Value} {h : jH} {Q : Option Value → jH → Prop} {c : Jvm.ClassFile.Cond} {x y : Int32} {off : Int} {tgt : Nat} (ht : (pc : Int) + off = (tgt : Int)) (hd : decode M.2.2.1 pc = .ok (.if_icmp c off, 3)) (kt : jC c x y → J M on L xs d kc ks tgt lv st h Q) (kf : ¬ jC c x y → J M on L xs d kc ks (pc + 3) lv st h Q) : J M on L xs d kc ks pc lv (.int y :: .int x :: st) h Q := by
  cases c
  · exact J_icmp_eq ht hd kt kf
  · exact J_icmp_ne ht hd kt kf
  · exact J_icmp_lt ht hd kt kf
  · exact J_icmp_ge ht hd kt kf
  · exact J_icmp_gt ht hd kt kf
  · exact J_icmp_le ht hd kt kf
def jsum (st : List Value) : Nat := (st.map fun v => v.category).sum
noncomputable def jstep (M : jM) (i : Instr) (n pc : Nat) (lv : jLv) (st0 : List Value) (h : jH) : Option jNx := match i, st0 with
  | .iconst m, st => jif (Nat.beq n 1) (pc + 1, lv, .int (Int32.ofInt m) :: st, none)
  | .bipush m, st => jif (Nat.beq n 2) (pc + 2, lv, .int (Int8.ofInt m).toInt32 :: st, none)
  | .sipush m, st => jif (Nat.beq n 3) (pc + 3, lv, .int (Int16.ofInt m).toInt32 :: st, none)
  | .lconst m, st => jif (Nat.beq n 1) (pc + 1, lv, .long (Int64.ofNat (m : Nat)) :: st, none)
  | .aconst_null, st => jif (Nat.beq n 1) (pc + 1, lv, .null :: st, none)
  | .iadd, .int y :: .int x :: st => jif (Nat.beq n 1) (pc + 1, lv, .int (x + y) :: st, none)
  | .isub, .int y :: .int x :: st => jif (Nat.beq n 1) (pc + 1, lv, .int (x - y) :: st, none)
  | .imul, .int y :: .int x :: st => jif (Nat.beq n 1) (pc + 1, lv, .int (x * y) :: st, none)
  | .iand, .int y :: .int x :: st => jif (Nat.beq n 1) (pc + 1, lv, .int (x &&& y) :: st, none)
  | .ior, .int y :: .int x :: st => jif (Nat.beq n 1) (pc + 1, lv, .int (x ||| y) :: st, none)
  | .ixor, .int y :: .int x :: st => jif (Nat.beq n 1) (pc + 1, lv, .int (x ^^^ y) :: st, none)
  | .ishl, .int y :: .int x :: st => jif (Nat.beq n 1) (pc + 1, lv, .int (x <<< (y &&& 31)) :: st, none)
  | .ishr, .int y :: .int x :: st => jif (Nat.beq n 1) (pc + 1, lv, .int (x >>> (y &&& 31)) :: st, none)
  | .idiv, .int y :: .int x :: st => jif (Nat.beq n 1 && !(decide (y = 0))) (pc + 1, lv, .int (x / y) :: st, none)
  | .irem, .int y :: .int x :: st => jif (Nat.beq n 1 && !(decide (y = 0))) (pc + 1, lv, .int (x - x / y * y) :: st, none)
  | .iushr, .int y :: .int x :: st => jif (Nat.beq n 1) (pc + 1, lv, .int (x.toUInt32 >>> (y.toUInt32 &&& Int32.toUInt32 31)).toInt32 :: st, none)
  | .ineg, .int x :: st => jif (Nat.beq n 1) (pc + 1, lv, .int (-x) :: st, none)
  | .land, .long y :: .long x :: st => jif (Nat.beq n 1) (pc + 1, lv, .long (x &&& y) :: st, none)
  | .lor, .long y :: .long x :: st => jif (Nat.beq n 1) (pc + 1, lv, .long (x ||| y) :: st, none)
  | .lshl, .int y :: .long x :: st => jif (Nat.beq n 1) (pc + 1, lv, .long (x <<< (y.toInt64 &&& 63)) :: st, none)
  | .lcmp, .long y :: .long x :: st => jif (Nat.beq n 1) (pc + 1, lv, .int (lg_cmp x y) :: st, none)
  | .i2l, .int x :: st => jif (Nat.beq n 1) (pc + 1, lv, .long x.toInt64 :: st, none)
  | .l2i, .long x :: st => jif (Nat.beq n 1) (pc + 1, lv, .int x.toInt32 :: st, none)
  | .i2b, .int x :: st => jif (Nat.beq n 1) (pc + 1, lv, .int x.toInt8.toInt32 :: st, none)
  | .i2s, .int x :: st => jif (Nat.beq n 1) (pc + 1, lv, .int x.toInt16.toInt32 :: st, none)
  | .dup, v :: st => jif (Nat.beq n 1 && Nat.beq v.category 1) (pc + 1, lv, v :: v :: st, none)
  | .pop, v :: st => jif (Nat.beq n 1 && Nat.beq v.category 1) (pc + 1, lv, st, none)
  | .dup2, v :: w :: st => jif (Nat.beq n 1 && (Nat.beq v.category 1 && Nat.beq w.category 1)) (pc + 1, lv, v :: w :: v :: w :: st, none)
  | .ldc idx, st => (jct M.1 idx).bind fun v => jif (Nat.beq n 2) (pc + 2, lv, .int v :: st, none)
  | .ldc_w idx, st => (jct M.1 idx).bind fun v => jif (Nat.beq n 3) (pc + 3, lv, .int v :: st, none)
  | .ldc2_w idx, st => (jctl M.1 idx).bind fun v => jif (Nat.beq n 3) (pc + 3, lv, .long v :: st, none)
  | .iload_n a, st => (jgi lv a.val).bind fun v => jif (Nat.beq n 1) (pc + 1, lv, .int v :: st, none)
  | .iload a, st => (jgi lv a).bind fun v => jif (Nat.beq n 2) (pc + 2, lv, .int v :: st, none)
  | .lload_n a, st => (jgl lv a.val).bind fun v => jif (Nat.beq n 1) (pc + 1, lv, .long v :: st, none)
  | .lload a, st => (jgl lv a).bind fun v => jif (Nat.beq n 2) (pc + 2, lv, .long v :: st, none)
  | .aload_n a, st => (jga lv a.val).bind fun v => jif (Nat.beq n 1) (pc + 1, lv, .ref v :: st, none)
  | .aload a, st => (jga lv a).bind fun v => jif (Nat.beq n 2) (pc + 2, lv, .ref v :: st, none)
  | .istore_n a, .int x :: st => jif (Nat.beq n 1 && decide (a.val < M.2.2.2.1)) (pc + 1, jset lv a.val (.int x), st, none)
  | .istore a, .int x :: st => jif (Nat.beq n 2 && decide (a < M.2.2.2.1)) (pc + 2, jset lv a (.int x), st, none)
  | .astore_n a, .ref x :: st => jif (Nat.beq n 1 && decide (a.val < M.2.2.2.1)) (pc + 1, jset lv a.val (.ref x), st, none)
  | .astore a, .ref x :: st => jif (Nat.beq n 2 && decide (a < M.2.2.2.1)) (pc + 2, jset lv a (.ref x), st, none)
  | .iinc a c, st => (jgi lv a).bind fun x => jif (Nat.beq n 3 && decide (a < M.2.2.2.1)) (pc + 3, jset lv a (.int (x + Int32.ofInt c)), st, none)
  | .ifCond c off, .int x :: st => (jtg pc off).bind fun t => jif (Nat.beq n 3) (cond (jCB c x 0) t (pc + 3), lv, st, none)
  | .if_icmp c off, .int y :: .int x :: st => (jtg pc off).bind fun t => jif (Nat.beq n 3) (cond (jCB c x y) t (pc + 3), lv, st, none)
  | .goto off, st => (jtg pc off).bind fun t => jif (Nat.beq n 3) (t, lv, st, none)
  | .tableswitch df lo hi offs, .int x :: st => (cond (decide (x.toInt < lo ∨ hi < x.toInt)) (some df) (offs[(x.toInt - lo).toNat]?)).bind fun off => (jtg pc off).bind fun t => some (t, lv, st, none)
  | .lookupswitch df ps, .int x :: st => (jtg pc (Op.lookupswitch.offset ps.toList df x.toInt)).bind fun t => jif ((ps.toList.zip (ps.toList.drop 1)).all (fun (a, next) => a.1 < next.1)) (t, lv, st, none)
  | .getfield idx, .ref a :: st => (jgetf M idx a h).bind fun v => jif (Nat.beq n 3) (pc + 3, lv, v :: st, none)
  | .putfield idx, v :: .ref a :: st => (jputf M idx a v h).bind fun e => jif (Nat.beq n 3) (pc + 3, lv, st, some (some a, e, 0))
  | .iaload, .int i :: .ref a :: st => (jai h a i).bind fun v => jif (Nat.beq n 1) (pc + 1, lv, .int v :: st, none)
  | .baload, .int i :: .ref a :: st => match jaz h a i with
    | some v => jif (Nat.beq n 1) (pc + 1, lv, .int v :: st, none)
    | none => (jab h a i).bind fun v => jif (Nat.beq n 1) (pc + 1, lv, .int v :: st, none)
  | .laload, .int i :: .ref a :: st => (jal h a i).bind fun v => jif (Nat.beq n 1) (pc + 1, lv, .long v :: st, none)
  | .aaload, .int i :: .ref a :: st => (jaa h a i).bind fun v => jif (Nat.beq n 1) (pc + 1, lv, .ref v :: st, none)
  | .iastore, .int x :: .int i :: .ref a :: st => (jsi h a i x).bind fun e => jif (Nat.beq n 1) (pc + 1, lv, st, some (some a, e, 0))
  | .bastore, .int x :: .int i :: .ref a :: st => match jsz h a i x with
    | some e => jif (Nat.beq n 1) (pc + 1, lv, st, some (some a, e, 0))
    | none => (jsb h a i x).bind fun e => jif (Nat.beq n 1) (pc + 1, lv, st, some (some a, e, 0))
  | .lastore, .long x :: .int i :: .ref a :: st => (jsl h a i x).bind fun e => jif (Nat.beq n 1) (pc + 1, lv, st, some (some a, e, 0))
  | .aastore, .ref r :: .int i :: .ref a :: st => (jsa h a i r).bind fun e => jif (Nat.beq n 1) (pc + 1, lv, st, some (some a, e, 0))
  | .new idx, st => (jnw M.1 idx).bind fun ci => (vwCl[ci]?).bind fun q => jif (Nat.beq n 3) (pc + 3, lv, .ref h.length :: st, some (none, .inr (ci, jdf ci), q.2.2))
  | .newarray ty, .int m :: st => match ty with
    | .long => jif (Nat.beq n 2 && (!(decide (m < 0)) && decide (m.toNatClampNeg ≤ 1000))) (pc + 2, lv, .ref h.length :: st, some (none, .inl (1, .inr (.inl (List.replicate m.toNatClampNeg 0))), m.toNatClampNeg))
    | ty => (jnt ty).bind fun t => jif (Nat.beq n 2 && (!(decide (m < 0)) && decide (m.toNatClampNeg ≤ 1000))) (pc + 2, lv, .ref h.length :: st, some (none, .inl (t, .inl (List.replicate m.toNatClampNeg 0)), m.toNatClampNeg))
  | .anewarray idx, .int m :: st => (jnw M.1 idx).bind fun ci => jif (Nat.beq n 3 && ((!(decide (m < 0)) && decide (m.toNatClampNeg ≤ 1000)) && (Nat.beq ci 5 || Nat.beq ci 3))) (pc + 3, lv, .ref h.length :: st, some (none, .inl (cond (Nat.beq ci 5) 4 5, .inr (.inr (List.replicate m.toNatClampNeg none))), m.toNatClampNeg))
  | .invokespecial idx, .ref v :: st => jif (Nat.beq n 3 && (Nat.beq idx (joi M.1) && (decide (M.1 < 8) && decide (jsum st ≤ 8)))) (pc + 3, lv, st, none)
  | .invokestatic idx, .int m :: .int dp :: .ref a1 :: .int sp :: .ref a0 :: st => (jcp h m dp a1 sp a0).bind fun e => jif (Nat.beq n 3 && (jac M.1 idx && decide (jsum st ≤ 8))) (pc + 3, lv, st, some (some a1, e, 0))
  | _, _ => none
set_option maxHeartbeats 4000000 in
theorem J_step {M : jM} {on : Bool} {L : Nat} {xs : Nat → Int32} {d kc ks pc n pc' : Nat} {lv lv' : jLv} {st0 st' : List Value} {h : jH} {Q : Option Value → jH → Prop} {i : Instr} {up : Option (Option Nat × jEt × Nat)} (hR : jR M.1 = M.2.1.cls) (h1 : 1 ≤ d) (hd : decode M.2.2.1 pc = .ok (i, n)) (he : jstep M i n pc lv st0 h = some (pc', lv', st', up))
    (hwf : ∀ e s, up = some (none, e, s) → jwF h.length lv st0 = true ∧ jwH h = true) (k : J M on L xs d kc ks pc' lv' st' (jup h up) Q) : J M on L xs d (kc + jupc up) (ks + jups up) pc lv st0 h Q := by
  unfold jstep at he
  split at he
  · rename_i m st
    obtain ⟨hn, he⟩ := jif_some he
    cases he
    cases Nat.eq_of_beq_eq_true hn
    exact J_iconst rfl hd k
  · rename_i m st
    obtain ⟨hn, he⟩ := jif_some he
    cases he
    cases Nat.eq_of_beq_eq_true hn
    exact J_bipush rfl hd k
  · rename_i m st
    obtain ⟨hn, he⟩ := jif_some he
    cases he
    cases Nat.eq_of_beq_eq_true hn
    exact J_sipush rfl hd k
  · rename_i m st
    obtain ⟨hn, he⟩ := jif_some he
    cases he
    cases Nat.eq_of_beq_eq_true hn
    exact J_lconst rfl hd k
  · rename_i st
    obtain ⟨hn, he⟩ := jif_some he
    cases he
    cases Nat.eq_of_beq_eq_true hn
    exact J_null hd k
  · rename_i y x st
    obtain ⟨hn, he⟩ := jif_some he
    cases he
    cases Nat.eq_of_beq_eq_true hn
    exact J_iadd hd k
  · rename_i y x st
    obtain ⟨hn, he⟩ := jif_some he
    cases he
    cases Nat.eq_of_beq_eq_true hn
    exact J_isub hd k
  · rename_i y x st
    obtain ⟨hn, he⟩ := jif_some he
    cases he
    cases Nat.eq_of_beq_eq_true hn
    exact J_imul hd k
  · rename_i y x st
    obtain ⟨hn, he⟩ := jif_some he
    cases he
    cases Nat.eq_of_beq_eq_true hn
    exact J_iand hd k
  · rename_i y x st
    obtain ⟨hn, he⟩ := jif_some he
    cases he
    cases Nat.eq_of_beq_eq_true hn
    exact J_ior hd k
  · rename_i y x st
    obtain ⟨hn, he⟩ := jif_some he
    cases he
    cases Nat.eq_of_beq_eq_true hn
    exact J_ixor hd k
  · rename_i y x st
    obtain ⟨hn, he⟩ := jif_some he
    cases he
    cases Nat.eq_of_beq_eq_true hn
    exact J_ishl hd k
  · rename_i y x st
    obtain ⟨hn, he⟩ := jif_some he
    cases he
    cases Nat.eq_of_beq_eq_true hn
    exact J_ishr hd k
  · rename_i y x st
    obtain ⟨hn, he⟩ := jif_some he
    cases he
    obtain ⟨hn, h0⟩ := Bool.and_eq_true_iff.mp hn
    cases Nat.eq_of_beq_eq_true hn
    exact J_idiv (fun z => by rw [z] at h0; cases h0) hd k
  · rename_i y x st
    obtain ⟨hn, he⟩ := jif_some he
    cases he
    obtain ⟨hn, h0⟩ := Bool.and_eq_true_iff.mp hn
    cases Nat.eq_of_beq_eq_true hn
    exact J_irem (fun z => by rw [z] at h0; cases h0) hd k
  · rename_i y x st
    obtain ⟨hn, he⟩ := jif_some he
    cases he
    cases Nat.eq_of_beq_eq_true hn
    exact J_iushr rfl hd k
  · rename_i x st
    obtain ⟨hn, he⟩ := jif_some he
    cases he
    cases Nat.eq_of_beq_eq_true hn
    exact J_ineg hd k
  · rename_i y x st
    obtain ⟨hn, he⟩ := jif_some he
    cases he
    cases Nat.eq_of_beq_eq_true hn
    exact J_land hd k
  · rename_i y x st
    obtain ⟨hn, he⟩ := jif_some he
    cases he
    cases Nat.eq_of_beq_eq_true hn
    exact J_lor hd k
  · rename_i y x st
    obtain ⟨hn, he⟩ := jif_some he
    cases he
    cases Nat.eq_of_beq_eq_true hn
    exact J_lshl rfl hd k
  · rename_i y x st
    obtain ⟨hn, he⟩ := jif_some he
    cases he
    cases Nat.eq_of_beq_eq_true hn
    exact J_lcmp hd k
  · rename_i x st
    obtain ⟨hn, he⟩ := jif_some he
    cases he
    cases Nat.eq_of_beq_eq_true hn
    exact J_i2l hd k
  · rename_i x st
    obtain ⟨hn, he⟩ := jif_some he
    cases he
    cases Nat.eq_of_beq_eq_true hn
    exact J_l2i hd k
  · rename_i x st
    obtain ⟨hn, he⟩ := jif_some he
    cases he
    cases Nat.eq_of_beq_eq_true hn
    exact J_i2b hd k
  · rename_i x st
    obtain ⟨hn, he⟩ := jif_some he
    cases he
    cases Nat.eq_of_beq_eq_true hn
    exact J_i2s hd k
  · rename_i v st
    obtain ⟨hn, he⟩ := jif_some he
    cases he
    obtain ⟨hn, h0⟩ := Bool.and_eq_true_iff.mp hn
    cases Nat.eq_of_beq_eq_true hn
    exact J_dup (Nat.eq_of_beq_eq_true h0) hd k
  · rename_i v st
    obtain ⟨hn, he⟩ := jif_some he
    cases he
    obtain ⟨hn, h0⟩ := Bool.and_eq_true_iff.mp hn
    cases Nat.eq_of_beq_eq_true hn
    exact J_pop (Nat.eq_of_beq_eq_true h0) hd k
  · rename_i v w st
    obtain ⟨hn, he⟩ := jif_some he
    cases he
    obtain ⟨hn, h0⟩ := Bool.and_eq_true_iff.mp hn
    cases Nat.eq_of_beq_eq_true hn
    exact J_dup2 (Nat.eq_of_beq_eq_true (Bool.and_eq_true_iff.mp h0).1) (Nat.eq_of_beq_eq_true (Bool.and_eq_true_iff.mp h0).2) hd k
  · rename_i idx st
    obtain ⟨v1, hv1, he⟩ := Option.bind_eq_some_iff.mp he
    obtain ⟨hn, he⟩ := jif_some he
    cases he
    cases Nat.eq_of_beq_eq_true hn
    exact J_ldc (by rw [← hR]; exact jct_ok hv1) hd k
  · rename_i idx st
    obtain ⟨v1, hv1, he⟩ := Option.bind_eq_some_iff.mp he
    obtain ⟨hn, he⟩ := jif_some he
    cases he
    cases Nat.eq_of_beq_eq_true hn
    exact J_ldcw (by rw [← hR]; exact jct_ok hv1) hd k
  · rename_i idx st
    obtain ⟨v1, hv1, he⟩ := Option.bind_eq_some_iff.mp he
    obtain ⟨hn, he⟩ := jif_some he
    cases he
    cases Nat.eq_of_beq_eq_true hn
    exact J_ldc2 (by rw [← hR]; exact jctl_ok hv1) hd k
  · rename_i a st
    obtain ⟨v1, hv1, he⟩ := Option.bind_eq_some_iff.mp he
    obtain ⟨hn, he⟩ := jif_some he
    cases he
    cases Nat.eq_of_beq_eq_true hn
    exact J_iload_n rfl (jgi_ok hv1) hd k
  · rename_i a st
    obtain ⟨v1, hv1, he⟩ := Option.bind_eq_some_iff.mp he
    obtain ⟨hn, he⟩ := jif_some he
    cases he
    cases Nat.eq_of_beq_eq_true hn
    exact J_iload (jgi_ok hv1) hd k
  · rename_i a st
    obtain ⟨v1, hv1, he⟩ := Option.bind_eq_some_iff.mp he
    obtain ⟨hn, he⟩ := jif_some he
    cases he
    cases Nat.eq_of_beq_eq_true hn
    exact J_lload_n rfl (jgl_ok hv1) hd k
  · rename_i a st
    obtain ⟨v1, hv1, he⟩ := Option.bind_eq_some_iff.mp he
    obtain ⟨hn, he⟩ := jif_some he
    cases he
    cases Nat.eq_of_beq_eq_true hn
    exact J_lload (jgl_ok hv1) hd k
  · rename_i a st
    obtain ⟨v1, hv1, he⟩ := Option.bind_eq_some_iff.mp he
    obtain ⟨hn, he⟩ := jif_some he
    cases he
    cases Nat.eq_of_beq_eq_true hn
    exact J_aload_n rfl (jga_ok hv1) hd k
  · rename_i a st
    obtain ⟨v1, hv1, he⟩ := Option.bind_eq_some_iff.mp he
    obtain ⟨hn, he⟩ := jif_some he
    cases he
    cases Nat.eq_of_beq_eq_true hn
    exact J_aload (jga_ok hv1) hd k
  · rename_i a x st
    obtain ⟨hn, he⟩ := jif_some he
    cases he
    obtain ⟨hn, h0⟩ := Bool.and_eq_true_iff.mp hn
    cases Nat.eq_of_beq_eq_true hn
    exact J_istore_n rfl (of_decide_eq_true h0) hd k
  · rename_i a x st
    obtain ⟨hn, he⟩ := jif_some he
    cases he
    obtain ⟨hn, h0⟩ := Bool.and_eq_true_iff.mp hn
    cases Nat.eq_of_beq_eq_true hn
    exact J_istore (of_decide_eq_true h0) hd k
  · rename_i a x st
    obtain ⟨hn, he⟩ := jif_some he
    cases he
    obtain ⟨hn, h0⟩ := Bool.and_eq_true_iff.mp hn
    cases Nat.eq_of_beq_eq_true hn
    exact J_astore_n rfl (of_decide_eq_true h0) hd k
  · rename_i a x st
    obtain ⟨hn, he⟩ := jif_some he
    cases he
    obtain ⟨hn, h0⟩ := Bool.and_eq_true_iff.mp hn
    cases Nat.eq_of_beq_eq_true hn
    exact J_astore (of_decide_eq_true h0) hd k
  · rename_i a c st
    obtain ⟨v1, hv1, he⟩ := Option.bind_eq_some_iff.mp he
    obtain ⟨hn, he⟩ := jif_some he
    cases he
    obtain ⟨hn, h0⟩ := Bool.and_eq_true_iff.mp hn
    cases Nat.eq_of_beq_eq_true hn
    exact J_iinc (jgi_ok hv1) rfl (of_decide_eq_true h0) hd k
  · rename_i c off x st
    obtain ⟨t1, ht1, he⟩ := Option.bind_eq_some_iff.mp he
    obtain ⟨hn, he⟩ := jif_some he
    cases he
    cases Nat.eq_of_beq_eq_true hn
    refine J_ifc (jtg_ok ht1) hd (fun hc => ?_) (fun hc => ?_)
    · rw [jCB_ok.mpr hc] at k; exact k
    · rw [Bool.eq_false_iff.mpr (fun z => hc (jCB_ok.mp z))] at k; exact k
  · rename_i c off y x st
    obtain ⟨t1, ht1, he⟩ := Option.bind_eq_some_iff.mp he
    obtain ⟨hn, he⟩ := jif_some he
    cases he
    cases Nat.eq_of_beq_eq_true hn
    refine J_icmpc (jtg_ok ht1) hd (fun hc => ?_) (fun hc => ?_)
    · rw [jCB_ok.mpr hc] at k; exact k
    · rw [Bool.eq_false_iff.mpr (fun z => hc (jCB_ok.mp z))] at k; exact k
  · rename_i off st
    obtain ⟨t1, ht1, he⟩ := Option.bind_eq_some_iff.mp he
    obtain ⟨hn, he⟩ := jif_some he
    cases he
    cases Nat.eq_of_beq_eq_true hn
    exact J_goto (jtg_ok ht1) hd k
  · rename_i df lo hi offs x st
    obtain ⟨o1, ho1, he⟩ := Option.bind_eq_some_iff.mp he
    obtain ⟨t1, ht1, he⟩ := Option.bind_eq_some_iff.mp he
    cases he
    by_cases hc : x.toInt < lo ∨ hi < x.toInt
    · rw [decide_eq_true hc] at ho1
      cases ho1
      exact J_tout hc (jtg_ok ht1) hd k
    · rw [decide_eq_false hc] at ho1
      exact J_tin (fun z => hc (Or.inl z)) (fun z => hc (Or.inr z)) ho1 (jtg_ok ht1) hd k
  · rename_i df ps x st
    obtain ⟨t1, ht1, he⟩ := Option.bind_eq_some_iff.mp he
    obtain ⟨hn, he⟩ := jif_some he
    cases he
    exact J_look hn rfl (jtg_ok ht1) hd k
  · rename_i idx a st
    obtain ⟨v1, hv1, he⟩ := Option.bind_eq_some_iff.mp he
    obtain ⟨hn, he⟩ := jif_some he
    cases he
    cases Nat.eq_of_beq_eq_true hn
    obtain ⟨ci, k', fs, g1, g2, g3⟩ := jgetf_ok hv1
    rw [hR] at g1
    exact J_getf g1 g2 g3 hd k
  · rename_i idx v a st
    obtain ⟨v1, hv1, he⟩ := Option.bind_eq_some_iff.mp he
    obtain ⟨hn, he⟩ := jif_some he
    cases he
    cases Nat.eq_of_beq_eq_true hn
    exact jstep_putf hR hv1 hd k
  · rename_i i a st
    obtain ⟨v1, hv1, he⟩ := Option.bind_eq_some_iff.mp he
    obtain ⟨hn, he⟩ := jif_some he
    cases he
    cases Nat.eq_of_beq_eq_true hn
    obtain ⟨xs', g1, g2, g3⟩ := jai_ok hv1
    exact J_iald g1 g2 g3 hd k
  · rename_i i a st
    cases hz : jaz h a i with
    | some v1 =>
      rw [hz] at he
      obtain ⟨hn, he⟩ := jif_some he
      cases he
      cases Nat.eq_of_beq_eq_true hn
      obtain ⟨xs', g1, g2, g3⟩ := jaz_ok hz
      exact J_zald g1 g2 g3 hd k
    | none =>
      rw [hz] at he
      obtain ⟨v1, hv1, he⟩ := Option.bind_eq_some_iff.mp he
      obtain ⟨hn, he⟩ := jif_some he
      cases he
      cases Nat.eq_of_beq_eq_true hn
      obtain ⟨xs', g1, g2, g3⟩ := jab_ok hv1
      exact J_bald g1 g2 g3 hd k
  · rename_i i a st
    obtain ⟨v1, hv1, he⟩ := Option.bind_eq_some_iff.mp he
    obtain ⟨hn, he⟩ := jif_some he
    cases he
    cases Nat.eq_of_beq_eq_true hn
    obtain ⟨xs', g1, g2, g3⟩ := jal_ok hv1
    exact J_lald g1 g2 g3 hd k
  · rename_i i a st
    obtain ⟨v1, hv1, he⟩ := Option.bind_eq_some_iff.mp he
    obtain ⟨hn, he⟩ := jif_some he
    cases he
    cases Nat.eq_of_beq_eq_true hn
    obtain ⟨t, rs, g1, g2, g3, g4⟩ := jaa_ok hv1
    exact J_aald g2 g1 g3 g4 hd k
  · rename_i x i a st
    obtain ⟨v1, hv1, he⟩ := Option.bind_eq_some_iff.mp he
    obtain ⟨hn, he⟩ := jif_some he
    cases he
    cases Nat.eq_of_beq_eq_true hn
    obtain ⟨xs', g1, g2, g3, rfl⟩ := jsi_ok hv1
    exact J_iast g1 g2 g3 hd k
  · rename_i x i a st
    cases hz : jsz h a i x with
    | some v1 =>
      rw [hz] at he
      obtain ⟨hn, he⟩ := jif_some he
      cases he
      cases Nat.eq_of_beq_eq_true hn
      obtain ⟨xs', g1, g2, g3, rfl⟩ := jsz_ok hz
      exact J_zast g1 g2 g3 hd k
    | none =>
      rw [hz] at he
      obtain ⟨v1, hv1, he⟩ := Option.bind_eq_some_iff.mp he
      obtain ⟨hn, he⟩ := jif_some he
      cases he
      cases Nat.eq_of_beq_eq_true hn
      obtain ⟨xs', g1, g2, g3, rfl⟩ := jsb_ok hv1
      exact J_bast g1 g2 g3 hd k
  · rename_i x i a st
    obtain ⟨v1, hv1, he⟩ := Option.bind_eq_some_iff.mp he
    obtain ⟨hn, he⟩ := jif_some he
    cases he
    cases Nat.eq_of_beq_eq_true hn
    obtain ⟨xs', g1, g2, g3, rfl⟩ := jsl_ok hv1
    exact J_last g1 g2 g3 hd k
  · rename_i r i a st
    obtain ⟨v1, hv1, he⟩ := Option.bind_eq_some_iff.mp he
    obtain ⟨hn, he⟩ := jif_some he
    cases he
    cases Nat.eq_of_beq_eq_true hn
    obtain ⟨t, rs, ci, fs, g1, g2, g3, g4, g5, rfl⟩ := jsa_ok hv1
    exact J_aast g3 g1 g2 g4 g5 hd k
  · rename_i idx st
    obtain ⟨ci, hci, he⟩ := Option.bind_eq_some_iff.mp he
    obtain ⟨q, hq, he⟩ := Option.bind_eq_some_iff.mp he
    obtain ⟨hn, he⟩ := jif_some he
    cases he
    cases Nat.eq_of_beq_eq_true hn
    obtain ⟨q', g1, g2, g3, g4⟩ := jnw_ok hci
    cases hq.symm.trans g1
    rw [hR] at g2
    exact J_new hq g2 g3 g4 (jdf_ok hq).1 (jdf_ok hq).2 (hwf _ _ rfl).1 (hwf _ _ rfl).2 hd k
  · rename_i ty m st
    have hwr : ∀ e s, up = some (none, e, s) → jwF h.length lv st = true ∧ jwH h = true := fun e s z => by
      have h1 := hwf e s z
      refine ⟨?_, h1.2⟩
      have h2 := h1.1
      unfold jwF at h2 ⊢
      simp only [List.all_cons, Bool.and_eq_true] at h2 ⊢
      exact ⟨h2.1, h2.2.2⟩
    have fin : ∀ {c : Bool}, (Nat.beq n 2 && (!(decide (m < 0)) && c)) = true → n = 2 ∧ ¬ m < 0 ∧ c = true := fun hc => by
      simp only [Bool.and_eq_true, Bool.not_eq_true', decide_eq_false_iff_not] at hc
      exact ⟨Nat.eq_of_beq_eq_true hc.1, hc.2.1, hc.2.2⟩
    split at he
    · obtain ⟨hn, he⟩ := jif_some he
      cases he
      obtain ⟨rfl, g1, g2⟩ := fin hn
      have g3 := of_decide_eq_true g2
      exact J_newL (N := m.toNatClampNeg) g1 rfl (by omega) (hwr _ _ rfl).1 (hwr _ _ rfl).2 hd k
    · obtain ⟨t, ht, he⟩ := Option.bind_eq_some_iff.mp he
      obtain ⟨hn, he⟩ := jif_some he
      cases he
      obtain ⟨rfl, g1, g2⟩ := fin hn
      have g3 := of_decide_eq_true g2
      unfold jnt at ht
      split at ht
      · cases ht
        exact J_newI (N := m.toNatClampNeg) (atype := .int) (Or.inl rfl) rfl ar_int g1 rfl (by omega) (hwr _ _ rfl).1 (hwr _ _ rfl).2 hd k
      · cases ht
        exact J_newI (N := m.toNatClampNeg) (atype := .byte) (Or.inr (Or.inl rfl)) rfl ar_byte g1 rfl (by omega) (hwr _ _ rfl).1 (hwr _ _ rfl).2 hd k
      · cases ht
        exact J_newI (N := m.toNatClampNeg) (atype := .boolean) (Or.inr (Or.inr rfl)) rfl ar_boolean g1 rfl (by omega) (hwr _ _ rfl).1 (hwr _ _ rfl).2 hd k
      · cases ht
  · rename_i idx m st
    have hwr : ∀ e s, up = some (none, e, s) → jwF h.length lv st = true ∧ jwH h = true := fun e s z => by
      have h1 := hwf e s z
      refine ⟨?_, h1.2⟩
      have h2 := h1.1
      unfold jwF at h2 ⊢
      simp only [List.all_cons, Bool.and_eq_true] at h2 ⊢
      exact ⟨h2.1, h2.2.2⟩
    obtain ⟨ci, hci, he⟩ := Option.bind_eq_some_iff.mp he
    obtain ⟨hn, he⟩ := jif_some he
    cases he
    simp only [Bool.and_eq_true, Bool.or_eq_true, Bool.not_eq_true', decide_eq_false_iff_not, decide_eq_true_eq] at hn
    obtain ⟨hn, ⟨g1, g2⟩, g3⟩ := hn
    cases Nat.eq_of_beq_eq_true hn
    obtain ⟨q', f1, f2, f3, f4⟩ := jnw_ok hci
    rw [hR] at f2
    rcases g3 with g3 | g3
    · cases Nat.eq_of_beq_eq_true g3
      cases f1
      exact J_newq (N := m.toNatClampNeg) (t := 4) (C := RX5) (by decide) rfl (fun _ z => z.1) f2 g1 rfl (by omega) (hwr _ _ rfl).1 (hwr _ _ rfl).2 hd k
    · cases Nat.eq_of_beq_eq_true g3
      cases f1
      exact J_newq (N := m.toNatClampNeg) (t := 5) (C := RX3) (by decide) rfl (fun _ z => z.2.1) f2 g1 rfl (by omega) (hwr _ _ rfl).1 (hwr _ _ rfl).2 hd k
  · rename_i idx v st
    obtain ⟨hn, he⟩ := jif_some he
    cases he
    simp only [Bool.and_eq_true, decide_eq_true_eq] at hn
    obtain ⟨hn, g1, g2, g3⟩ := hn
    cases Nat.eq_of_beq_eq_true hn
    cases Nat.eq_of_beq_eq_true g1
    exact J_oinit (by rw [← hR]; exact joi_ok g2) g3 h1 hd k
  · rename_i idx m dp a1 sp a0 st
    obtain ⟨v1, hv1, he⟩ := Option.bind_eq_some_iff.mp he
    obtain ⟨hn, he⟩ := jif_some he
    cases he
    simp only [Bool.and_eq_true, decide_eq_true_eq] at hn
    obtain ⟨hn, g1, g2⟩ := hn
    cases Nat.eq_of_beq_eq_true hn
    obtain ⟨xa, ya, f1, f2, f3, f4, f5, f6, f7, rfl⟩ := jcp_ok hv1
    exact J_copyi (by rw [← hR]; exact jac_ok g1) g2 h1 f1 f2 f3 f4 f5 f6 f7 hd k
  · cases he
end
-- 05c.run.lean.txt
section
/-! RUNNING: values are brought to their numbers as it goes (fc..), which changes nothing -/
noncomputable def fcN {α : Type} (n : Nat) (k : Nat → α) : α := Nat.rec (k 0) (fun m _ => k (Nat.succ m)) n
theorem fcN_eq {α : Type} (n : Nat) (k : Nat → α) : fcN n k = k n := by cases n <;> rfl
noncomputable def fcI {α : Type} (x : Int32) (k : Int32 → α) : α := fcN x.toBitVec.toNat (fun n => k ⟨⟨BitVec.ofNat 32 n⟩⟩)
theorem fcI_eq {α : Type} (x : Int32) (k : Int32 → α) : fcI x k = k x := by
  unfold fcI
  rw [fcN_eq]
  have h : (⟨⟨BitVec.ofNat 32 x.toBitVec.toNat⟩⟩ : Int32) = x := by
    rw [BitVec.ofNat_toNat, BitVec.setWidth_eq]; rfl
  rw [h]
noncomputable def fcV {α : Type} (v : Value) (k : Value → α) : α := match v with
  | .int x => fcI x (fun x => k (.int x))
  | .ref a => fcN a (fun a => k (.ref a))
  | v => k v
theorem fcV_eq {α : Type} (v : Value) (k : Value → α) : fcV v k = k v := by
  cases v <;> first | rfl | skip
  case int x => exact fcI_eq x (fun x => k (.int x))
  case ref a => exact fcN_eq a (fun a => k (.ref a))
noncomputable def fcVs {α : Type} (vs : List Value) (k : List Value → α) : α := List.rec (motive := fun _ => (List Value → α) → α) (fun k => k []) (fun v _ ih k => fcV v (fun v => ih (fun vs => k (v :: vs)))) vs k
theorem fcVs_eq {α : Type} : ∀ (vs : List Value) (k : List Value → α), fcVs vs k = k vs
  | [], _ => rfl
  | v :: vs, k => by
    show fcV v (fun v => fcVs vs (fun vs => k (v :: vs))) = _
    rw [fcV_eq, fcVs_eq vs]
noncomputable def fcIs {α : Type} (vs : List Int32) (k : List Int32 → α) : α := List.rec (motive := fun _ => (List Int32 → α) → α) (fun k => k []) (fun v _ ih k => fcI v (fun v => ih (fun vs => k (v :: vs)))) vs k
theorem fcIs_eq {α : Type} : ∀ (vs : List Int32) (k : List Int32 → α), fcIs vs k = k vs
  | [], _ => rfl
  | v :: vs, k => by
    show fcI v (fun v => fcIs vs (fun vs => k (v :: vs))) = _
    rw [fcI_eq, fcIs_eq vs]
noncomputable def fcL {β α : Type} (vs : List β) (k : List β → α) : α := List.rec (motive := fun _ => (List β → α) → α) (fun k => k []) (fun v _ ih k => ih (fun vs => k (v :: vs))) vs k
theorem fcL_eq {β α : Type} : ∀ (vs : List β) (k : List β → α), fcL vs k = k vs
  | [], _ => rfl
  | v :: vs, k => by
    show fcL vs (fun vs => k (v :: vs)) = _
    rw [fcL_eq vs]
noncomputable def fcLv {α : Type} (vs : jLv) (k : jLv → α) : α := match vs with
  | [] => k []
  | (i, v) :: t => fcV v fun v => fcL t fun t => k ((i, v) :: t)
theorem fcLv_eq {α : Type} : ∀ (vs : jLv) (k : jLv → α), fcLv vs k = k vs
  | [], _ => rfl
  | (i, v) :: t, k => (fcV_eq v (fun v => fcL t fun t => k ((i, v) :: t))).trans (fcL_eq t (fun t => k ((i, v) :: t)))
noncomputable def fcSt {α : Type} (vs : List Value) (k : List Value → α) : α := match vs with
  | [] => k []
  | v :: t => fcV v fun v => k (v :: t)
theorem fcSt_eq {α : Type} : ∀ (vs : List Value) (k : List Value → α), fcSt vs k = k vs
  | [], _ => rfl
  | v :: t, k => fcV_eq v (fun v => k (v :: t))
noncomputable def fcSet {α : Type} (h : jH) : Nat → jEt → (jH → α) → α := List.rec (motive := fun _ => Nat → jEt → (jH → α) → α) (fun _ _ k => k []) (fun x t ih a e k => Nat.rec (k (e :: t)) (fun m _ => ih m e (fun t' => k (x :: t'))) a) h
theorem fcSet_eq {α : Type} : ∀ (h : jH) (a : Nat) (e : jEt) (k : jH → α), fcSet h a e k = k (h.set a e)
  | [], _, _, _ => rfl
  | x :: t, 0, e, k => rfl
  | x :: t, a + 1, e, k => by
    show fcSet t a e (fun t' => k (x :: t')) = _
    rw [fcSet_eq t]; rfl
noncomputable def fcE {α : Type} (e : jEt) (k : jEt → α) : α := match e with
  | .inl (t, .inl xs) => fcN t (fun t => fcL xs (fun xs => k (.inl (t, .inl xs))))
  | .inl (t, .inr (.inl xs)) => fcL xs (fun xs => k (.inl (t, .inr (.inl xs))))
  | .inl (t, .inr (.inr rs)) => fcN t (fun t => fcL rs (fun rs => k (.inl (t, .inr (.inr rs)))))
  | .inr (ci, fs) => fcL fs (fun fs => k (.inr (ci, fs)))
theorem fcE_eq {α : Type} (e : jEt) (k : jEt → α) : fcE e k = k e := by
  match e with
  | .inl (t, .inl xs) =>
    exact (fcN_eq t (fun t => fcL xs (fun xs => k (.inl (t, .inl xs))))).trans (fcL_eq xs (fun xs => k (.inl (t, .inl xs))))
  | .inl (t, .inr (.inl xs)) => exact fcL_eq _ _
  | .inl (t, .inr (.inr rs)) =>
    exact (fcN_eq t (fun t => fcL rs (fun rs => k (.inl (t, .inr (.inr rs)))))).trans (fcL_eq rs (fun rs => k (.inl (t, .inr (.inr rs)))))
  | .inr (ci, fs) => exact fcL_eq _ _
/-! nest mates' constructors -/
def jns (M : jM) (idx : Nat) : Option Nat := match M.1, idx with
  | 6, 17 => some 26
  | 6, 30 => some 0
  | 6, 66 => some 22
  | _, _ => none
theorem jns_ok {M : jM} {idx mid : Nat} (hR : jR M.1 = M.2.1.cls) (h : jns M idx = some mid) : ∃ M' : jM, jmsL[mid]? = some M' ∧ jinit M' ∧ (∀ s, jN s → va_Nw (.methodLinkNest M.2.1.cls idx M'.2.1 RX6) s) ∧ (parseMethodDescriptor M'.2.1.desc).map (fun d => d.parameters.length) = some 0 := by
  unfold jns at h
  split at h
  · rename_i e1
    cases h
    rw [← hR, e1]
    exact ⟨m_X4_init, rfl, in_X4_init, fun _ z => z.2.2.1, by decide +kernel⟩
  · rename_i e1
    cases h
    rw [← hR, e1]
    exact ⟨m_X0_init, rfl, in_X0_init, fun _ z => z.2.2.2.1, by decide +kernel⟩
  · rename_i e1
    cases h
    rw [← hR, e1]
    exact ⟨m_X3_init, rfl, in_X3_init, fun _ z => z.2.2.2.2, by decide +kernel⟩
  · cases h
abbrev jRs : Type := Option Value × jH × Nat × Nat
/-- an end: what is answered -/
def jret (M : jM) (i : Instr) (n : Nat) (st : List Value) : Option (Option Value) := match i, st with
  | .return_, [] => cond (Nat.beq n 1) (match M.2.2.2.2.1 with | none => some none | _ => none) none
  | .ireturn, [.int x] => cond (Nat.beq n 1) (match M.2.2.2.2.1 with
    | some .int => some (some (.int x))
    | some .boolean => cond (decide (x = 0 ∨ x = 1)) (some (some (.int x))) none
    | _ => none) none
  | .lreturn, [.long x] => cond (Nat.beq n 1) (match M.2.2.2.2.1 with | some .long => some (some (.long x)) | _ => none) none
  | _, _ => none
/-- a call: of which, with what, and what is left on the stack -/
noncomputable def jcall (M : jM) (i : Instr) (n : Nat) (st : List Value) (h : jH) : Option (Nat × List Value × List Value) := match i with
  | .invokevirtual idx => match jlk idx (jcl M.1) with
    | some (mid, k, 0) => match st.drop k with
      | .ref b :: rest => match jnth h b, jnth jmsL mid with
        | some (.inr (ci, _)), some M' => jif (Nat.beq n 3 && (Nat.beq ci M'.1 && (decide (M'.1 < 8) && decide (jsum rest ≤ 8)))) (mid, .ref b :: (st.take k).reverse, rest)
        | _, _ => none
      | _ => none
    | _ => none
  | .invokespecial idx => match jlk idx (jcl M.1) with
    | some (mid, k, 1) => match st.drop k with
      | .ref b :: rest => jif (Nat.beq n 3 && decide (jsum rest ≤ 8)) (mid, .ref b :: (st.take k).reverse, rest)
      | _ => none
    | _ => match jns M idx with
      | some mid => match st with
        | .ref b :: rest => jif (Nat.beq n 3 && decide (jsum rest ≤ 8)) (mid, [.ref b], rest)
        | _ => none
      | none => none
  | .invokestatic idx => match jlk idx (jcl M.1) with
    | some (mid, k, 2) => jif (Nat.beq n 3 && (decide (k ≤ st.length) && decide (jsum (st.drop k) ≤ 8))) (mid, (st.take k).reverse, st.drop k)
    | _ => none
  | _ => none
noncomputable def jbody (ce : Nat → List Value → jH → Option jRs) (M : jM) (ih : Nat → jLv → List Value → jH → Nat → Nat → Option jRs) (pc : Nat) (lv : jLv) (st : List Value) (h : jH) (ac as : Nat) : Option jRs :=
  match M.2.2.2.2.2 pc with
  | none => none
  | some (i, n) => match jret M i n st with
    | some v => some (v, h, ac, as)
    | none => match jcall M i n st h with
      | some (mid, As, rest) => fcVs As fun As => match ce mid As h with
        | some (r, h', dc, ds) => cond (Nat.beq dc 0 || jwF h.length lv rest) (fcN (pc + 3) fun pc => fcSt (r.toList ++ rest) fun st => fcN (ac + dc) fun ac => fcN (as + ds) fun as => ih pc lv st h' ac as) none
        | none => none
      | none => match jstep M i n pc lv st h with
        | some (pc', lv', st', up) => fcN pc' fun pc => fcLv lv' fun lv1 => fcSt st' fun st1 => match up with
          | none => ih pc lv1 st1 h ac as
          | some (some a, e, _) => fcE e fun e => fcSet h a e fun h => ih pc lv1 st1 h ac as
          | some (none, e, s) => cond (jwF h.length lv st && jwH h) (fcE e fun e => fcL (h ++ [e]) fun h => fcN (ac + 1) fun ac => fcN (as + s) fun as => ih pc lv1 st1 h ac as) none
        | none => none
noncomputable def jrun (ce : Nat → List Value → jH → Option jRs) (M : jM) (F : Nat) : Nat → jLv → List Value → jH → Nat → Nat → Option jRs :=
  Nat.rec (motive := fun _ => Nat → jLv → List Value → jH → Nat → Nat → Option jRs) (fun _ _ _ _ _ _ => none) (fun _ ih => jbody ce M ih) F
theorem jrun_s (ce : Nat → List Value → jH → Option jRs) (M : jM) (F : Nat) : jrun ce M (F + 1) = jbody ce M (jrun ce M F) := rfl
noncomputable def jebody (F : Nat) (ih : Nat → List Value → jH → Option jRs) (mid : Nat) (args : List Value) (h : jH) : Option jRs := match jnth jmsL mid with
  | some M => cond (decide (jsum args ≤ M.2.2.2.1)) (fcLv (lv_args 0 args) fun lv => jrun ih M F 0 lv [] h 0 0) none
  | none => none
noncomputable def jev (F d : Nat) : Nat → List Value → jH → Option jRs :=
  Nat.rec (motive := fun _ => Nat → List Value → jH → Option jRs) (fun _ _ _ => none) (fun _ ih => jebody F ih) d
theorem jev_s (F d : Nat) : jev F (d + 1) = jebody F (jev F d) := rfl
theorem jslen (vs : List Value) : (lg_sl vs).length = jsum vs := by
  induction vs with
  | nil => rfl
  | cons v vs ih =>
    unfold jsum lg_sl at *
    rw [List.flatMap_cons, List.length_append, ih, List.map_cons, List.sum_cons]
    congr 1
    rcases lv_cat v with hv | hv <;> rw [hv] <;> rfl
theorem jsum_map {sb : Nat → Nat} {ad : Nat → Nat} {vs : List Value} : jsum (vs.map (jV sb ad)) = jsum vs := by
  unfold jsum
  rw [List.map_map]
  rw [show ((fun v : Value => v.category) ∘ jV sb ad) = (fun v => v.category) from funext fun v => jV_cat sb ad v]
theorem jret_ok {M : jM} {on : Bool} {L : Nat} {xs : Nat → Int32} {d kc ks pc n : Nat} {lv : jLv} {st : List Value} {h : jH} {Q : Option Value → jH → Prop} {i : Instr} {v : Option Value} (hd : decode M.2.2.1 pc = .ok (i, n)) (he : jret M i n st = some v) (hq : Q v h) : J M on L xs d kc ks pc lv st h Q := by
  unfold jret at he
  split at he
  · cases hn : Nat.beq n 1 with
    | false => rw [hn] at he; cases he
    | true =>
      rw [hn] at he
      cases Nat.eq_of_beq_eq_true hn
      simp only [cond_true] at he
      split at he
      · rename_i hr
        cases he
        exact J_vret hr hd hq
      · cases he
  · cases hn : Nat.beq n 1 with
    | false => rw [hn] at he; cases he
    | true =>
      rw [hn] at he
      cases Nat.eq_of_beq_eq_true hn
      simp only [cond_true] at he
      split at he
      · rename_i hr
        cases he
        exact J_iret hr rfl hd hq
      · rename_i hr
        cases hb : decide (_ = (0 : Int32) ∨ _ = (1 : Int32)) with
        | false => rw [hb] at he; cases he
        | true =>
          rw [hb] at he
          cases he
          have h2 := of_decide_eq_true hb
          exact J_iret hr (by rcases h2 with rfl | rfl <;> rfl) hd hq
      · cases he
  · cases hn : Nat.beq n 1 with
    | false => rw [hn] at he; cases he
    | true =>
      rw [hn] at he
      cases Nat.eq_of_beq_eq_true hn
      simp only [cond_true] at he
      split at he
      · rename_i hr
        cases he
        exact J_lret hr hd hq
      · cases he
  · cases he
theorem jms_get {mid : Nat} {M : jM} (h : jmsL[mid]? = some M) : jMp M := jms_ok M (List.mem_of_getElem? h)
theorem jcall_ok {M : jM} {on : Bool} {L : Nat} {xs : Nat → Int32} {d kc ks kc' ks' pc n mid : Nat} {lv : jLv} {st As rest : List Value} {h : jH} {Q Q' : Option Value → jH → Prop} {i : Instr} (hR : jR M.1 = M.2.1.cls) (hd : decode M.2.2.1 pc = .ok (i, n)) (he : jcall M i n st h = some (mid, As, rest))
    {M' : jM} (hM' : jmsL[mid]? = some M') (hc : jCt M' d kc' ks' As h Q') (hwf : kc' = 0 ∨ jwF h.length lv rest = true)
    (k : ∀ r h', Q' r h' → h.length ≤ h'.length → J M on L xs (d + 1) kc ks (pc + 3) lv (r.toList ++ rest) h' Q) : J M on L xs (d + 1) (kc' + kc) (ks' + ks) pc lv st h Q := by
  have hp := jms_get hM'
  unfold jcall at he
  simp only [jnth_eq] at he
  split at he
  · rename_i idx
    split at he
    · rename_i mid' k' e1
      obtain ⟨M1, a1, a2, a3, a4, a5, a6⟩ := jcl_ok M.1 _ (jlk_mem e1)
      split at he
      · rename_i b rest' e2
        split at he
        · rename_i ci fs M2 e3 e4
          obtain ⟨hn, he⟩ := jif_some he
          cases he
          cases a1.symm.trans hM'
          cases e4.symm.trans hM'
          simp only [Bool.and_eq_true, decide_eq_true_eq] at hn
          obtain ⟨hn, g1, g2, g3⟩ := hn
          cases Nat.eq_of_beq_eq_true hn
          cases Nat.eq_of_beq_eq_true g1
          have hlen : k' < st.length := by
            rcases Nat.lt_or_ge k' st.length with z | z
            · exact z
            · rw [List.drop_eq_nil_of_le z] at e2; cases e2
          have hst : st = ((st.take k').reverse).reverse ++ .ref b :: rest := by rw [List.reverse_reverse, ← e2, List.take_append_drop]
          have hkl : (st.take k').reverse.length = k' := by rw [List.length_reverse, List.length_take]; omega
          obtain ⟨q, hq⟩ : ∃ q, vwCl[M'.1]? = some q := ⟨_, List.getElem?_eq_getElem (l := vwCl) g2⟩
          rw [hst]
          rw [hR] at a2
          exact J_callV hp.1 (a4 rfl) a2 a3 hkl e3 hq (hp.2.2 q hq) g3 hwf (Nat.le_refl _) hd hc k
        · cases he
      · cases he
    · cases he
  · rename_i idx
    split at he
    · rename_i mid' k' e1
      obtain ⟨M1, a1, a2, a3, a4, a5, a6⟩ := jcl_ok M.1 _ (jlk_mem e1)
      split at he
      · rename_i b rest' e2
        obtain ⟨hn, he⟩ := jif_some he
        cases he
        cases a1.symm.trans hM'
        simp only [Bool.and_eq_true, decide_eq_true_eq] at hn
        obtain ⟨hn, g3⟩ := hn
        cases Nat.eq_of_beq_eq_true hn
        have hlen : k' < st.length := by
          rcases Nat.lt_or_ge k' st.length with z | z
          · exact z
          · rw [List.drop_eq_nil_of_le z] at e2; cases e2
        have hst : st = ((st.take k').reverse).reverse ++ .ref b :: rest := by rw [List.reverse_reverse, ← e2, List.take_append_drop]
        have hkl : (st.take k').reverse.length = k' := by rw [List.length_reverse, List.length_take]; omega
        rw [hst]
        rw [hR] at a2
        exact J_callI hp.1 (a5 rfl) a2 a3 hkl g3 hwf (Nat.le_refl _) hd hc k
      · cases he
    · split at he
      · rename_i mid' e1
        split at he
        · rename_i b rest' _
          obtain ⟨hn, he⟩ := jif_some he
          cases he
          simp only [Bool.and_eq_true, decide_eq_true_eq] at hn
          obtain ⟨hn, g3⟩ := hn
          cases Nat.eq_of_beq_eq_true hn
          obtain ⟨M1, a1, a2, a3, a4⟩ := jns_ok hR e1
          cases a1.symm.trans hM'
          exact J_callN (As := []) hp.1 a2 a3 a4 rfl g3 hwf (Nat.le_refl _) hd hc k
        · cases he
      · cases he
  · rename_i idx
    split at he
    · rename_i mid' k' e1
      obtain ⟨M1, a1, a2, a3, a4, a5, a6⟩ := jcl_ok M.1 _ (jlk_mem e1)
      obtain ⟨hn, he⟩ := jif_some he
      cases he
      cases a1.symm.trans hM'
      simp only [Bool.and_eq_true, decide_eq_true_eq] at hn
      obtain ⟨hn, g2, g3⟩ := hn
      cases Nat.eq_of_beq_eq_true hn
      have hst : st = ((st.take k').reverse).reverse ++ st.drop k' := by rw [List.reverse_reverse, List.take_append_drop]
      have hkl : (st.take k').reverse.length = k' := by rw [List.length_reverse, List.length_take]; omega
      have hk2 : ∀ r h', Q' r h' → h.length ≤ h'.length → J M on L xs (d + 1) kc ks (pc + 3) lv (r.toList ++ st.drop k') h' Q := k
      generalize hdr : st.drop k' = dr at *
      rw [hst]
      rw [hR] at a2
      exact J_callS hp.1 (a6 rfl).1 a2 ((a6 rfl).2.trans hR) a3 hkl g3 hwf (Nat.le_refl _) hd hc hk2
    · cases he
  · cases he
theorem jrun_ok {ce : Nat → List Value → jH → Option jRs} {M : jM} {on : Bool} {L : Nat} {xs : Nat → Int32} {d : Nat} (hM : jMp M ∨ (jR M.1 = M.2.1.cls ∧ ∀ pc q, M.2.2.2.2.2 pc = some q → decode M.2.2.1 pc = .ok q))
    (hce : ∀ mid args h r h' dc ds, ce mid args h = some (r, h', dc, ds) → ∃ M', jmsL[mid]? = some M' ∧ jCt M' d dc ds args h (fun v k => v = r ∧ k = h') ∧ h.length ≤ h'.length) :
    ∀ (F pc : Nat) (lv : jLv) (st : List Value) (h : jH) (ac as : Nat) (r : Option Value) (h' : jH) (A S : Nat), jrun ce M F pc lv st h ac as = some (r, h', A, S) → ac ≤ A ∧ as ≤ S ∧ h.length ≤ h'.length ∧ J M on L xs (d + 1) (A - ac) (S - as) pc lv st h (fun v k => v = r ∧ k = h') := by
  have hR : jR M.1 = M.2.1.cls := by
    rcases hM with z | z
    · exact z.2.1
    · exact z.1
  have hdec : ∀ pc q, M.2.2.2.2.2 pc = some q → decode M.2.2.1 pc = .ok q := by
    rcases hM with z | z
    · exact z.1.1
    · exact z.2
  intro F
  induction F with
  | zero => intro pc lv st h ac as r h' A S he; cases he
  | succ F ih =>
    intro pc lv st h ac as r h' A S he
    rw [jrun_s] at he
    unfold jbody at he
    cases hcode : M.2.2.2.2.2 pc with
    | none => simp only [hcode] at he; cases he
    | some q =>
      obtain ⟨i, n⟩ := q
      simp only [hcode] at he
      have hd := hdec pc (i, n) hcode
      cases hret : jret M i n st with
      | some v =>
        simp only [hret] at he
        cases he
        exact ⟨Nat.le_refl _, Nat.le_refl _, Nat.le_refl _, jret_ok hd hret ⟨rfl, rfl⟩⟩
      | none =>
        simp only [hret] at he
        cases hcall : jcall M i n st h with
        | some q =>
          obtain ⟨mid, As, rest⟩ := q
          simp only [hcall, fcVs_eq] at he
          cases hc : ce mid As h with
          | none => simp only [hc] at he; cases he
          | some q =>
            obtain ⟨r1, h1, dc, ds⟩ := q
            simp only [hc, fcN_eq, fcSt_eq] at he
            obtain ⟨M', hM', hct, hl1⟩ := hce mid As h r1 h1 dc ds hc
            cases hw : (Nat.beq dc 0 || jwF h.length lv rest) with
            | false => rw [hw] at he; cases he
            | true =>
              rw [hw] at he
              obtain ⟨b1, b2, b3, b4⟩ := ih _ _ _ _ _ _ _ _ _ _ (show jrun ce M F (pc + 3) lv (r1.toList ++ rest) h1 (ac + dc) (as + ds) = _ from he)
              refine ⟨by omega, by omega, by omega, ?_⟩
              have hwf : dc = 0 ∨ jwF h.length lv rest = true := by
                rcases Bool.or_eq_true_iff.mp hw with z | z
                · exact Or.inl (Nat.eq_of_beq_eq_true z)
                · exact Or.inr z
              have e1 : A - ac = dc + (A - (ac + dc)) := by omega
              have e2 : S - as = ds + (S - (as + ds)) := by omega
              rw [e1, e2]
              exact jcall_ok hR hd hcall hM' hct hwf (fun r2 h2 hq _ => by
                obtain ⟨rfl, rfl⟩ := hq
                exact b4)
        | none =>
          simp only [hcall] at he
          cases hs : jstep M i n pc lv st h with
          | none => simp only [hs] at he; cases he
          | some q =>
            obtain ⟨pc', lv', st', up⟩ := q
            simp only [hs, fcN_eq, fcLv_eq, fcSt_eq, fcE_eq, fcL_eq, fcSet_eq] at he
            match up, hs, he with
            | none, hs, he =>
              obtain ⟨b1, b2, b3, b4⟩ := ih _ _ _ _ _ _ _ _ _ _ (show jrun ce M F pc' lv' st' h ac as = _ from he)
              exact ⟨b1, b2, b3, J_step hR (Nat.succ_le_succ (Nat.zero_le d)) hd hs (fun e s z => by cases z) b4⟩
            | some (some a, e, s), hs, he =>
              obtain ⟨b1, b2, b3, b4⟩ := ih _ _ _ _ _ _ _ _ _ _ (show jrun ce M F pc' lv' st' (h.set a e) ac as = _ from he)
              exact ⟨b1, b2, by simpa using b3, J_step hR (Nat.succ_le_succ (Nat.zero_le d)) hd hs (fun e s z => by cases z) b4⟩
            | some (none, e, s), hs, he =>
              cases hw : (jwF h.length lv st && jwH h) with
              | false => rw [hw] at he; cases he
              | true =>
                rw [hw] at he
                obtain ⟨b1, b2, b3, b4⟩ := ih _ _ _ _ _ _ _ _ _ _ (show jrun ce M F pc' lv' st' (h ++ [e]) (ac + 1) (as + s) = _ from he)
                rw [List.length_append] at b3
                refine ⟨by omega, by omega, by omega, ?_⟩
                have e1 : A - ac = (A - (ac + 1)) + 1 := by omega
                have e2 : S - as = (S - (as + s)) + s := by omega
                rw [e1, e2]
                exact J_step (up := some (none, e, s)) hR (Nat.succ_le_succ (Nat.zero_le d)) hd hs (fun _ _ _ => Bool.and_eq_true_iff.mp hw) b4
theorem jev_ok (F : Nat) : ∀ (d mid : Nat) (args : List Value) (h : jH) (r : Option Value) (h' : jH) (A S : Nat), jev F d mid args h = some (r, h', A, S) → ∃ M', jmsL[mid]? = some M' ∧ jCt M' d A S args h (fun v k => v = r ∧ k = h') ∧ h.length ≤ h'.length := by
  intro d
  induction d with
  | zero => intro mid args h r h' A S he; cases he
  | succ d ih =>
    intro mid args h r h' A S he
    rw [jev_s] at he
    unfold jebody at he
    simp only [jnth_eq] at he
    cases hM : jmsL[mid]? with
    | none => simp only [hM] at he; cases he
    | some M =>
      simp only [hM, fcLv_eq] at he
      cases hn : decide (jsum args ≤ M.2.2.2.1) with
      | false => rw [hn] at he; cases he
      | true =>
        rw [hn] at he
        have hp := jms_get hM
        obtain ⟨b1, b2, b3, b4⟩ := jrun_ok (on := false) (L := 0) (xs := fun _ => 0) (Or.inl hp) ih F 0 (lv_args 0 args) [] h 0 0 r h' A S he
        refine ⟨M, rfl, jCt_of hp.1 (fun sb ad => by rw [jslen, jsum_map]; exact of_decide_eq_true hn) b4, b3⟩
end
-- 05d.eq.lean.txt
section
/-! heaps compared by program -/
def jqE (a b : jEt) : Bool := match a, b with
  | .inl (t, .inl xs), .inl (u, .inl ys) => Nat.beq t u && decide (xs = ys)
  | .inl (t, .inr (.inl xs)), .inl (u, .inr (.inl ys)) => Nat.beq t u && decide (xs = ys)
  | .inl (t, .inr (.inr xs)), .inl (u, .inr (.inr ys)) => Nat.beq t u && decide (xs = ys)
  | .inr (c, fs), .inr (c', gs) => Nat.beq c c' && decide (fs = gs)
  | _, _ => false
theorem jqE_ok {a b : jEt} (h : jqE a b = true) : a = b := by
  unfold jqE at h
  split at h
  · obtain ⟨h1, h2⟩ := Bool.and_eq_true_iff.mp h
    rw [Nat.eq_of_beq_eq_true h1, of_decide_eq_true h2]
  · obtain ⟨h1, h2⟩ := Bool.and_eq_true_iff.mp h
    rw [Nat.eq_of_beq_eq_true h1, of_decide_eq_true h2]
  · obtain ⟨h1, h2⟩ := Bool.and_eq_true_iff.mp h
    rw [Nat.eq_of_beq_eq_true h1, of_decide_eq_true h2]
  · obtain ⟨h1, h2⟩ := Bool.and_eq_true_iff.mp h
    rw [Nat.eq_of_beq_eq_true h1, of_decide_eq_true h2]
  · cases h
def jqH : jH → jH → Bool
  | [], [] => true
  | a :: as, b :: bs => jqE a b && jqH as bs
  | _, _ => false
theorem jqH_ok : ∀ {a b : jH}, jqH a b = true → a = b
  | [], [], _ => rfl
  | a :: as, b :: bs, h => by
    obtain ⟨h1, h2⟩ := Bool.and_eq_true_iff.mp h
    rw [jqE_ok h1, jqH_ok h2]
  | [], _ :: _, h => by cases h
  | _ :: _, [], h => by cases h
def jqR (x : Option jRs) (r : Option Value) (h : jH) (A S : Nat) : Bool := match x with
  | some (r', h', A', S') => decide (r' = r) && (jqH h' h && (Nat.beq A' A && Nat.beq S' S))
  | none => false
theorem jqR_ok {x : Option jRs} {r : Option Value} {h : jH} {A S : Nat} (hq : jqR x r h A S = true) : x = some (r, h, A, S) := by
  unfold jqR at hq
  split at hq
  · simp only [Bool.and_eq_true] at hq
    rw [of_decide_eq_true hq.1, jqH_ok hq.2.1, Nat.eq_of_beq_eq_true hq.2.2.1, Nat.eq_of_beq_eq_true hq.2.2.2]
  · cases hq
end
