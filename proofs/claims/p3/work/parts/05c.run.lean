/-! RUNNING: values are brought to their numbers as it goes (fc..), which changes nothing -/
noncomputable def fcN {α : Type} (n : Nat) (k : Nat → α) : α := Nat.rec (k 0) (fun m _ => k (Nat.succ m)) n
theorem fcN_eq {α : Type} (n : Nat) (k : Nat → α) : fcN n k = k n := by cases n <;> rfl
noncomputable def fcI {α : Type} (x : Int32) (k : Int32 → α) : α := fcN x.toBitVec.toNat (fun n => k ⟨⟨BitVec.ofNat 32 n⟩⟩)
theorem fcI_eq {α : Type} (x : Int32) (k : Int32 → α) : fcI x k = k x := by
  unfold fcI
  rw [fcN_eq]
  have h : (⟨⟨BitVec.ofNat 32 x.toBitVec.toNat⟩⟩ : Int32) = x := by
    rw [BitVec.ofNat_toNat, BitVec.setWidth_eq]; rfl
  rw [h]
noncomputable def fcV {α : Type} (v : Value) (k : Value → α) : α := match v with
  | .int x => fcI x (fun x => k (.int x))
  | .ref a => fcN a (fun a => k (.ref a))
  | v => k v
theorem fcV_eq {α : Type} (v : Value) (k : Value → α) : fcV v k = k v := by
  cases v <;> first | rfl | skip
  case int x => exact fcI_eq x (fun x => k (.int x))
  case ref a => exact fcN_eq a (fun a => k (.ref a))
noncomputable def fcVs {α : Type} (vs : List Value) (k : List Value → α) : α := List.rec (motive := fun _ => (List Value → α) → α) (fun k => k []) (fun v _ ih k => fcV v (fun v => ih (fun vs => k (v :: vs)))) vs k
theorem fcVs_eq {α : Type} : ∀ (vs : List Value) (k : List Value → α), fcVs vs k = k vs
  | [], _ => rfl
  | v :: vs, k => by
    show fcV v (fun v => fcVs vs (fun vs => k (v :: vs))) = _
    rw [fcV_eq, fcVs_eq vs]
noncomputable def fcIs {α : Type} (vs : List Int32) (k : List Int32 → α) : α := List.rec (motive := fun _ => (List Int32 → α) → α) (fun k => k []) (fun v _ ih k => fcI v (fun v => ih (fun vs => k (v :: vs)))) vs k
theorem fcIs_eq {α : Type} : ∀ (vs : List Int32) (k : List Int32 → α), fcIs vs k = k vs
  | [], _ => rfl
  | v :: vs, k => by
    show fcI v (fun v => fcIs vs (fun vs => k (v :: vs))) = _
    rw [fcI_eq, fcIs_eq vs]
noncomputable def fcL {β α : Type} (vs : List β) (k : List β → α) : α := List.rec (motive := fun _ => (List β → α) → α) (fun k => k []) (fun v _ ih k => ih (fun vs => k (v :: vs))) vs k
theorem fcL_eq {β α : Type} : ∀ (vs : List β) (k : List β → α), fcL vs k = k vs
  | [], _ => rfl
  | v :: vs, k => by
    show fcL vs (fun vs => k (v :: vs)) = _
    rw [fcL_eq vs]
noncomputable def fcLv {α : Type} (vs : jLv) (k : jLv → α) : α := match vs with
  | [] => k []
  | (i, v) :: t => fcV v fun v => fcL t fun t => k ((i, v) :: t)
theorem fcLv_eq {α : Type} : ∀ (vs : jLv) (k : jLv → α), fcLv vs k = k vs
  | [], _ => rfl
  | (i, v) :: t, k => (fcV_eq v (fun v => fcL t fun t => k ((i, v) :: t))).trans (fcL_eq t (fun t => k ((i, v) :: t)))
noncomputable def fcSt {α : Type} (vs : List Value) (k : List Value → α) : α := match vs with
  | [] => k []
  | v :: t => fcV v fun v => k (v :: t)
theorem fcSt_eq {α : Type} : ∀ (vs : List Value) (k : List Value → α), fcSt vs k = k vs
  | [], _ => rfl
  | v :: t, k => fcV_eq v (fun v => k (v :: t))
noncomputable def fcSet {α : Type} (h : jH) : Nat → jEt → (jH → α) → α := List.rec (motive := fun _ => Nat → jEt → (jH → α) → α) (fun _ _ k => k []) (fun x t ih a e k => Nat.rec (k (e :: t)) (fun m _ => ih m e (fun t' => k (x :: t'))) a) h
theorem fcSet_eq {α : Type} : ∀ (h : jH) (a : Nat) (e : jEt) (k : jH → α), fcSet h a e k = k (h.set a e)
  | [], _, _, _ => rfl
  | x :: t, 0, e, k => rfl
  | x :: t, a + 1, e, k => by
    show fcSet t a e (fun t' => k (x :: t')) = _
    rw [fcSet_eq t]; rfl
noncomputable def fcE {α : Type} (e : jEt) (k : jEt → α) : α := match e with
  | .inl (t, .inl xs) => fcN t (fun t => fcL xs (fun xs => k (.inl (t, .inl xs))))
  | .inl (t, .inr (.inl xs)) => fcL xs (fun xs => k (.inl (t, .inr (.inl xs))))
  | .inl (t, .inr (.inr rs)) => fcN t (fun t => fcL rs (fun rs => k (.inl (t, .inr (.inr rs)))))
  | .inr (ci, fs) => fcL fs (fun fs => k (.inr (ci, fs)))
theorem fcE_eq {α : Type} (e : jEt) (k : jEt → α) : fcE e k = k e := by
  match e with
  | .inl (t, .inl xs) =>
    exact (fcN_eq t (fun t => fcL xs (fun xs => k (.inl (t, .inl xs))))).trans (fcL_eq xs (fun xs => k (.inl (t, .inl xs))))
  | .inl (t, .inr (.inl xs)) => exact fcL_eq _ _
  | .inl (t, .inr (.inr rs)) =>
    exact (fcN_eq t (fun t => fcL rs (fun rs => k (.inl (t, .inr (.inr rs)))))).trans (fcL_eq rs (fun rs => k (.inl (t, .inr (.inr rs)))))
  | .inr (ci, fs) => exact fcL_eq _ _
/-! nest mates' constructors -/
def jns (M : jM) (idx : Nat) : Option Nat := match M.1, idx with
  | 6, 17 => some 26
  | 6, 30 => some 0
  | 6, 66 => some 22
  | _, _ => none
theorem jns_ok {M : jM} {idx mid : Nat} (hR : jR M.1 = M.2.1.cls) (h : jns M idx = some mid) : ∃ M' : jM, jmsL[mid]? = some M' ∧ jinit M' ∧ (∀ s, jN s → va_Nw (.methodLinkNest M.2.1.cls idx M'.2.1 RX6) s) ∧ (parseMethodDescriptor M'.2.1.desc).map (fun d => d.parameters.length) = some 0 := by
  unfold jns at h
  split at h
  · rename_i e1
    cases h
    rw [← hR, e1]
    exact ⟨m_X4_init, rfl, in_X4_init, fun _ z => z.2.2.1, by decide +kernel⟩
  · rename_i e1
    cases h
    rw [← hR, e1]
    exact ⟨m_X0_init, rfl, in_X0_init, fun _ z => z.2.2.2.1, by decide +kernel⟩
  · rename_i e1
    cases h
    rw [← hR, e1]
    exact ⟨m_X3_init, rfl, in_X3_init, fun _ z => z.2.2.2.2, by decide +kernel⟩
  · cases h
abbrev jRs : Type := Option Value × jH × Nat × Nat
/-- an end: what is answered -/
def jret (M : jM) (i : Instr) (n : Nat) (st : List Value) : Option (Option Value) := match i, st with
  | .return_, [] => cond (Nat.beq n 1) (match M.2.2.2.2.1 with | none => some none | _ => none) none
  | .ireturn, [.int x] => cond (Nat.beq n 1) (match M.2.2.2.2.1 with
    | some .int => some (some (.int x))
    | some .boolean => cond (decide (x = 0 ∨ x = 1)) (some (some (.int x))) none
    | _ => none) none
  | .lreturn, [.long x] => cond (Nat.beq n 1) (match M.2.2.2.2.1 with | some .long => some (some (.long x)) | _ => none) none
  | _, _ => none
/-- a call: of which, with what, and what is left on the stack -/
noncomputable def jcall (M : jM) (i : Instr) (n : Nat) (st : List Value) (h : jH) : Option (Nat × List Value × List Value) := match i with
  | .invokevirtual idx => match jlk idx (jcl M.1) with
    | some (mid, k, 0) => match st.drop k with
      | .ref b :: rest => match jnth h b, jnth jmsL mid with
        | some (.inr (ci, _)), some M' => jif (Nat.beq n 3 && (Nat.beq ci M'.1 && (decide (M'.1 < 8) && decide (jsum rest ≤ 8)))) (mid, .ref b :: (st.take k).reverse, rest)
        | _, _ => none
      | _ => none
    | _ => none
  | .invokespecial idx => match jlk idx (jcl M.1) with
    | some (mid, k, 1) => match st.drop k with
      | .ref b :: rest => jif (Nat.beq n 3 && decide (jsum rest ≤ 8)) (mid, .ref b :: (st.take k).reverse, rest)
      | _ => none
    | _ => match jns M idx with
      | some mid => match st with
        | .ref b :: rest => jif (Nat.beq n 3 && decide (jsum rest ≤ 8)) (mid, [.ref b], rest)
        | _ => none
      | none => none
  | .invokestatic idx => match jlk idx (jcl M.1) with
    | some (mid, k, 2) => jif (Nat.beq n 3 && (decide (k ≤ st.length) && decide (jsum (st.drop k) ≤ 8))) (mid, (st.take k).reverse, st.drop k)
    | _ => none
  | _ => none
noncomputable def jbody (ce : Nat → List Value → jH → Option jRs) (M : jM) (ih : Nat → jLv → List Value → jH → Nat → Nat → Option jRs) (pc : Nat) (lv : jLv) (st : List Value) (h : jH) (ac as : Nat) : Option jRs :=
  match M.2.2.2.2.2 pc with
  | none => none
  | some (i, n) => match jret M i n st with
    | some v => some (v, h, ac, as)
    | none => match jcall M i n st h with
      | some (mid, As, rest) => fcVs As fun As => match ce mid As h with
        | some (r, h', dc, ds) => cond (Nat.beq dc 0 || jwF h.length lv rest) (fcN (pc + 3) fun pc => fcSt (r.toList ++ rest) fun st => fcN (ac + dc) fun ac => fcN (as + ds) fun as => ih pc lv st h' ac as) none
        | none => none
      | none => match jstep M i n pc lv st h with
        | some (pc', lv', st', up) => fcN pc' fun pc => fcLv lv' fun lv1 => fcSt st' fun st1 => match up with
          | none => ih pc lv1 st1 h ac as
          | some (some a, e, _) => fcE e fun e => fcSet h a e fun h => ih pc lv1 st1 h ac as
          | some (none, e, s) => cond (jwF h.length lv st && jwH h) (fcE e fun e => fcL (h ++ [e]) fun h => fcN (ac + 1) fun ac => fcN (as + s) fun as => ih pc lv1 st1 h ac as) none
        | none => none
noncomputable def jrun (ce : Nat → List Value → jH → Option jRs) (M : jM) (F : Nat) : Nat → jLv → List Value → jH → Nat → Nat → Option jRs :=
  Nat.rec (motive := fun _ => Nat → jLv → List Value → jH → Nat → Nat → Option jRs) (fun _ _ _ _ _ _ => none) (fun _ ih => jbody ce M ih) F
theorem jrun_s (ce : Nat → List Value → jH → Option jRs) (M : jM) (F : Nat) : jrun ce M (F + 1) = jbody ce M (jrun ce M F) := rfl
noncomputable def jebody (F : Nat) (ih : Nat → List Value → jH → Option jRs) (mid : Nat) (args : List Value) (h : jH) : Option jRs := match jnth jmsL mid with
  | some M => cond (decide (jsum args ≤ M.2.2.2.1)) (fcLv (lv_args 0 args) fun lv => jrun ih M F 0 lv [] h 0 0) none
  | none => none
noncomputable def jev (F d : Nat) : Nat → List Value → jH → Option jRs :=
  Nat.rec (motive := fun _ => Nat → List Value → jH → Option jRs) (fun _ _ _ => none) (fun _ ih => jebody F ih) d
theorem jev_s (F d : Nat) : jev F (d + 1) = jebody F (jev F d) := rfl
theorem jslen (vs : List Value) : (lg_sl vs).length = jsum vs := by
  induction vs with
  | nil => rfl
  | cons v vs ih =>
    unfold jsum lg_sl at *
    rw [List.flatMap_cons, List.length_append, ih, List.map_cons, List.sum_cons]
    congr 1
    rcases lv_cat v with hv | hv <;> rw [hv] <;> rfl
theorem jsum_map {sb : Nat → Nat} {ad : Nat → Nat} {vs : List Value} : jsum (vs.map (jV sb ad)) = jsum vs := by
  unfold jsum
  rw [List.map_map]
  rw [show ((fun v : Value => v.category) ∘ jV sb ad) = (fun v => v.category) from funext fun v => jV_cat sb ad v]
theorem jret_ok {M : jM} {on : Bool} {L : Nat} {xs : Nat → Int32} {d kc ks pc n : Nat} {lv : jLv} {st : List Value} {h : jH} {Q : Option Value → jH → Prop} {i : Instr} {v : Option Value} (hd : decode M.2.2.1 pc = .ok (i, n)) (he : jret M i n st = some v) (hq : Q v h) : J M on L xs d kc ks pc lv st h Q := by
  unfold jret at he
  split at he
  · cases hn : Nat.beq n 1 with
    | false => rw [hn] at he; cases he
    | true =>
      rw [hn] at he
      cases Nat.eq_of_beq_eq_true hn
      simp only [cond_true] at he
      split at he
      · rename_i hr
        cases he
        exact J_vret hr hd hq
      · cases he
  · cases hn : Nat.beq n 1 with
    | false => rw [hn] at he; cases he
    | true =>
      rw [hn] at he
      cases Nat.eq_of_beq_eq_true hn
      simp only [cond_true] at he
      split at he
      · rename_i hr
        cases he
        exact J_iret hr rfl hd hq
      · rename_i hr
        cases hb : decide (_ = (0 : Int32) ∨ _ = (1 : Int32)) with
        | false => rw [hb] at he; cases he
        | true =>
          rw [hb] at he
          cases he
          have h2 := of_decide_eq_true hb
          exact J_iret hr (by rcases h2 with rfl | rfl <;> rfl) hd hq
      · cases he
  · cases hn : Nat.beq n 1 with
    | false => rw [hn] at he; cases he
    | true =>
      rw [hn] at he
      cases Nat.eq_of_beq_eq_true hn
      simp only [cond_true] at he
      split at he
      · rename_i hr
        cases he
        exact J_lret hr hd hq
      · cases he
  · cases he
theorem jms_get {mid : Nat} {M : jM} (h : jmsL[mid]? = some M) : jMp M := jms_ok M (List.mem_of_getElem? h)
theorem jcall_ok {M : jM} {on : Bool} {L : Nat} {xs : Nat → Int32} {d kc ks kc' ks' pc n mid : Nat} {lv : jLv} {st As rest : List Value} {h : jH} {Q Q' : Option Value → jH → Prop} {i : Instr} (hR : jR M.1 = M.2.1.cls) (hd : decode M.2.2.1 pc = .ok (i, n)) (he : jcall M i n st h = some (mid, As, rest))
    {M' : jM} (hM' : jmsL[mid]? = some M') (hc : jCt M' d kc' ks' As h Q') (hwf : kc' = 0 ∨ jwF h.length lv rest = true)
    (k : ∀ r h', Q' r h' → h.length ≤ h'.length → J M on L xs (d + 1) kc ks (pc + 3) lv (r.toList ++ rest) h' Q) : J M on L xs (d + 1) (kc' + kc) (ks' + ks) pc lv st h Q := by
  have hp := jms_get hM'
  unfold jcall at he
  simp only [jnth_eq] at he
  split at he
  · rename_i idx
    split at he
    · rename_i mid' k' e1
      obtain ⟨M1, a1, a2, a3, a4, a5, a6⟩ := jcl_ok M.1 _ (jlk_mem e1)
      split at he
      · rename_i b rest' e2
        split at he
        · rename_i ci fs M2 e3 e4
          obtain ⟨hn, he⟩ := jif_some he
          cases he
          cases a1.symm.trans hM'
          cases e4.symm.trans hM'
          simp only [Bool.and_eq_true, decide_eq_true_eq] at hn
          obtain ⟨hn, g1, g2, g3⟩ := hn
          cases Nat.eq_of_beq_eq_true hn
          cases Nat.eq_of_beq_eq_true g1
          have hlen : k' < st.length := by
            rcases Nat.lt_or_ge k' st.length with z | z
            · exact z
            · rw [List.drop_eq_nil_of_le z] at e2; cases e2
          have hst : st = ((st.take k').reverse).reverse ++ .ref b :: rest := by rw [List.reverse_reverse, ← e2, List.take_append_drop]
          have hkl : (st.take k').reverse.length = k' := by rw [List.length_reverse, List.length_take]; omega
          obtain ⟨q, hq⟩ : ∃ q, vwCl[M'.1]? = some q := ⟨_, List.getElem?_eq_getElem (l := vwCl) g2⟩
          rw [hst]
          rw [hR] at a2
          exact J_callV hp.1 (a4 rfl) a2 a3 hkl e3 hq (hp.2.2 q hq) g3 hwf (Nat.le_refl _) hd hc k
        · cases he
      · cases he
    · cases he
  · rename_i idx
    split at he
    · rename_i mid' k' e1
      obtain ⟨M1, a1, a2, a3, a4, a5, a6⟩ := jcl_ok M.1 _ (jlk_mem e1)
      split at he
      · rename_i b rest' e2
        obtain ⟨hn, he⟩ := jif_some he
        cases he
        cases a1.symm.trans hM'
        simp only [Bool.and_eq_true, decide_eq_true_eq] at hn
        obtain ⟨hn, g3⟩ := hn
        cases Nat.eq_of_beq_eq_true hn
        have hlen : k' < st.length := by
          rcases Nat.lt_or_ge k' st.length with z | z
          · exact z
          · rw [List.drop_eq_nil_of_le z] at e2; cases e2
        have hst : st = ((st.take k').reverse).reverse ++ .ref b :: rest := by rw [List.reverse_reverse, ← e2, List.take_append_drop]
        have hkl : (st.take k').reverse.length = k' := by rw [List.length_reverse, List.length_take]; omega
        rw [hst]
        rw [hR] at a2
        exact J_callI hp.1 (a5 rfl) a2 a3 hkl g3 hwf (Nat.le_refl _) hd hc k
      · cases he
    · split at he
      · rename_i mid' e1
        split at he
        · rename_i b rest' _
          obtain ⟨hn, he⟩ := jif_some he
          cases he
          simp only [Bool.and_eq_true, decide_eq_true_eq] at hn
          obtain ⟨hn, g3⟩ := hn
          cases Nat.eq_of_beq_eq_true hn
          obtain ⟨M1, a1, a2, a3, a4⟩ := jns_ok hR e1
          cases a1.symm.trans hM'
          exact J_callN (As := []) hp.1 a2 a3 a4 rfl g3 hwf (Nat.le_refl _) hd hc k
        · cases he
      · cases he
  · rename_i idx
    split at he
    · rename_i mid' k' e1
      obtain ⟨M1, a1, a2, a3, a4, a5, a6⟩ := jcl_ok M.1 _ (jlk_mem e1)
      obtain ⟨hn, he⟩ := jif_some he
      cases he
      cases a1.symm.trans hM'
      simp only [Bool.and_eq_true, decide_eq_true_eq] at hn
      obtain ⟨hn, g2, g3⟩ := hn
      cases Nat.eq_of_beq_eq_true hn
      have hst : st = ((st.take k').reverse).reverse ++ st.drop k' := by rw [List.reverse_reverse, List.take_append_drop]
      have hkl : (st.take k').reverse.length = k' := by rw [List.length_reverse, List.length_take]; omega
      have hk2 : ∀ r h', Q' r h' → h.length ≤ h'.length → J M on L xs (d + 1) kc ks (pc + 3) lv (r.toList ++ st.drop k') h' Q := k
      generalize hdr : st.drop k' = dr at *
      rw [hst]
      rw [hR] at a2
      exact J_callS hp.1 (a6 rfl).1 a2 ((a6 rfl).2.trans hR) a3 hkl g3 hwf (Nat.le_refl _) hd hc hk2
    · cases he
  · cases he
theorem jrun_ok {ce : Nat → List Value → jH → Option jRs} {M : jM} {on : Bool} {L : Nat} {xs : Nat → Int32} {d : Nat} (hM : jMp M ∨ (jR M.1 = M.2.1.cls ∧ ∀ pc q, M.2.2.2.2.2 pc = some q → decode M.2.2.1 pc = .ok q))
    (hce : ∀ mid args h r h' dc ds, ce mid args h = some (r, h', dc, ds) → ∃ M', jmsL[mid]? = some M' ∧ jCt M' d dc ds args h (fun v k => v = r ∧ k = h') ∧ h.length ≤ h'.length) :
    ∀ (F pc : Nat) (lv : jLv) (st : List Value) (h : jH) (ac as : Nat) (r : Option Value) (h' : jH) (A S : Nat), jrun ce M F pc lv st h ac as = some (r, h', A, S) → ac ≤ A ∧ as ≤ S ∧ h.length ≤ h'.length ∧ J M on L xs (d + 1) (A - ac) (S - as) pc lv st h (fun v k => v = r ∧ k = h') := by
  have hR : jR M.1 = M.2.1.cls := by
    rcases hM with z | z
    · exact z.2.1
    · exact z.1
  have hdec : ∀ pc q, M.2.2.2.2.2 pc = some q → decode M.2.2.1 pc = .ok q := by
    rcases hM with z | z
    · exact z.1.1
    · exact z.2
  intro F
  induction F with
  | zero => intro pc lv st h ac as r h' A S he; cases he
  | succ F ih =>
    intro pc lv st h ac as r h' A S he
    rw [jrun_s] at he
    unfold jbody at he
    cases hcode : M.2.2.2.2.2 pc with
    | none => simp only [hcode] at he; cases he
    | some q =>
      obtain ⟨i, n⟩ := q
      simp only [hcode] at he
      have hd := hdec pc (i, n) hcode
      cases hret : jret M i n st with
      | some v =>
        simp only [hret] at he
        cases he
        exact ⟨Nat.le_refl _, Nat.le_refl _, Nat.le_refl _, jret_ok hd hret ⟨rfl, rfl⟩⟩
      | none =>
        simp only [hret] at he
        cases hcall : jcall M i n st h with
        | some q =>
          obtain ⟨mid, As, rest⟩ := q
          simp only [hcall, fcVs_eq] at he
          cases hc : ce mid As h with
          | none => simp only [hc] at he; cases he
          | some q =>
            obtain ⟨r1, h1, dc, ds⟩ := q
            simp only [hc, fcN_eq, fcSt_eq] at he
            obtain ⟨M', hM', hct, hl1⟩ := hce mid As h r1 h1 dc ds hc
            cases hw : (Nat.beq dc 0 || jwF h.length lv rest) with
            | false => rw [hw] at he; cases he
            | true =>
              rw [hw] at he
              obtain ⟨b1, b2, b3, b4⟩ := ih _ _ _ _ _ _ _ _ _ _ (show jrun ce M F (pc + 3) lv (r1.toList ++ rest) h1 (ac + dc) (as + ds) = _ from he)
              refine ⟨by omega, by omega, by omega, ?_⟩
              have hwf : dc = 0 ∨ jwF h.length lv rest = true := by
                rcases Bool.or_eq_true_iff.mp hw with z | z
                · exact Or.inl (Nat.eq_of_beq_eq_true z)
                · exact Or.inr z
              have e1 : A - ac = dc + (A - (ac + dc)) := by omega
              have e2 : S - as = ds + (S - (as + ds)) := by omega
              rw [e1, e2]
              exact jcall_ok hR hd hcall hM' hct hwf (fun r2 h2 hq _ => by
                obtain ⟨rfl, rfl⟩ := hq
                exact b4)
        | none =>
          simp only [hcall] at he
          cases hs : jstep M i n pc lv st h with
          | none => simp only [hs] at he; cases he
          | some q =>
            obtain ⟨pc', lv', st', up⟩ := q
            simp only [hs, fcN_eq, fcLv_eq, fcSt_eq, fcE_eq, fcL_eq, fcSet_eq] at he
            match up, hs, he with
            | none, hs, he =>
              obtain ⟨b1, b2, b3, b4⟩ := ih _ _ _ _ _ _ _ _ _ _ (show jrun ce M F pc' lv' st' h ac as = _ from he)
              exact ⟨b1, b2, b3, J_step hR (Nat.succ_le_succ (Nat.zero_le d)) hd hs (fun e s z => by cases z) b4⟩
            | some (some a, e, s), hs, he =>
              obtain ⟨b1, b2, b3, b4⟩ := ih _ _ _ _ _ _ _ _ _ _ (show jrun ce M F pc' lv' st' (h.set a e) ac as = _ from he)
              exact ⟨b1, b2, by simpa using b3, J_step hR (Nat.succ_le_succ (Nat.zero_le d)) hd hs (fun e s z => by cases z) b4⟩
            | some (none, e, s), hs, he =>
              cases hw : (jwF h.length lv st && jwH h) with
              | false => rw [hw] at he; cases he
              | true =>
                rw [hw] at he
                obtain ⟨b1, b2, b3, b4⟩ := ih _ _ _ _ _ _ _ _ _ _ (show jrun ce M F pc' lv' st' (h ++ [e]) (ac + 1) (as + s) = _ from he)
                rw [List.length_append] at b3
                refine ⟨by omega, by omega, by omega, ?_⟩
                have e1 : A - ac = (A - (ac + 1)) + 1 := by omega
                have e2 : S - as = (S - (as + s)) + s := by omega
                rw [e1, e2]
                exact J_step (up := some (none, e, s)) hR (Nat.succ_le_succ (Nat.zero_le d)) hd hs (fun _ _ _ => Bool.and_eq_true_iff.mp hw) b4
theorem jev_ok (F : Nat) : ∀ (d mid : Nat) (args : List Value) (h : jH) (r : Option Value) (h' : jH) (A S : Nat), jev F d mid args h = some (r, h', A, S) → ∃ M', jmsL[mid]? = some M' ∧ jCt M' d A S args h (fun v k => v = r ∧ k = h') ∧ h.length ≤ h'.length := by
  intro d
  induction d with
  | zero => intro mid args h r h' A S he; cases he
  | succ d ih =>
    intro mid args h r h' A S he
    rw [jev_s] at he
    unfold jebody at he
    simp only [jnth_eq] at he
    cases hM : jmsL[mid]? with
    | none => simp only [hM] at he; cases he
    | some M =>
      simp only [hM, fcLv_eq] at he
      cases hn : decide (jsum args ≤ M.2.2.2.1) with
      | false => rw [hn] at he; cases he
      | true =>
        rw [hn] at he
        have hp := jms_get hM
        obtain ⟨b1, b2, b3, b4⟩ := jrun_ok (on := false) (L := 0) (xs := fun _ => 0) (Or.inl hp) ih F 0 (lv_args 0 args) [] h 0 0 r h' A S he
        refine ⟨M, rfl, jCt_of hp.1 (fun sb ad => by rw [jslen, jsum_map]; exact of_decide_eq_true hn) b4, b3⟩
