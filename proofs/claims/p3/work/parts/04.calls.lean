/-! CONTRACTS over the abstract machine, and calls -/
def jQc (Q : Option Value → jH → Prop) (D : va_G) (dA : Nat → Nat) (sb : Nat → Nat) (ad : Nat → Nat) (h : jH) (kc sz : Nat) : Array Value → State → Outcome → State → Prop := fun _ st oc t =>
  (∃ (r : Option Value) (h' : jH) (ad' : Nat → Nat), oc = .returned (r.map (jV sb ad')) ∧ Q r h' ∧ h.length ≤ h'.length ∧ (∀ i, i < h.length → ad' i = ad i) ∧ (kc = 0 → ad' = ad) ∧ va_P D vwCl (jWs sb dA ad' h') t.heap ∧ va_D (va_A (jWs sb dA ad h) sz) (jWs sb dA ad' h')) ∧ va_F (va_A (jWs sb dA ad h) sz) st t
def jWords (M : jM) : List Cond := Cond.code M.2.1 M.2.2.1 M.2.2.2.1 M.2.2.2.2.1 :: jG
def jRoom (d kc ks : Nat) : Room := { frames := d, cells := kc, slots := ks, locals := d * jK0 }
def jPc (D : va_G) (dA : Nat → Nat) (sb : Nat → Nat) (ad : Nat → Nat) (args : List Value) (h : jH) (sz : Nat) : Array Value → State → Prop :=
  va_Pc (args.map (jV sb ad)) (fun U => U.heap.size = sz ∧ va_P D vwCl (jWs sb dA ad h) U.heap ∧ jK D dA U ∧ va_D (fun _ => True) (jWs sb dA ad h) ∧ jO sb (va_A (jWs sb dA ad h) sz) U U.heap)
/-- a method's contract: from the arguments and the heap it comes to an answer and a heap with Q -/
def jCt (M : jM) (d kc ks : Nat) (args : List Value) (h : jH) (Q : Option Value → jH → Prop) : Prop :=
  ∀ (l : Launch) (D : va_G) (dA : Nat → Nat) (sb : Nat → Nat) (ad : Nat → Nat) (sz : Nat),
    Met l M.2.1 (jWords M) (jRoom d kc ks) (jPc D dA sb ad args h sz) (jQc Q D dA sb ad h kc sz) kc ks (va_A (jWs sb dA ad h) sz)
theorem jArgs (sb : Nat → Nat) (ad : Nat → Nat) : ∀ (vs : List Value) (i : Nat), lv_args i (vs.map (jV sb ad)) = jL sb ad (lv_args i vs)
  | [], _ => rfl
  | v :: vs, i => by
    show (i, jV sb ad v) :: lv_args (if (jV sb ad v).category = 2 then i + 2 else i + 1) (vs.map (jV sb ad)) = (i, jV sb ad v) :: jL sb ad (lv_args (if v.category = 2 then i + 2 else i + 1) vs)
    rw [jV_cat, jArgs sb ad vs]
theorem jBlind {D : va_G} {dA : Nat → Nat} {sb : Nat → Nat} {ad : Nat → Nat} {args : List Value} {h : jH} {sz : Nat} : FrameBlind (jPc D dA sb ad args h sz) :=
  fun a U g mk q => by
    obtain ⟨q0, q1, qP, qK, qD, qO⟩ := q
    exact ⟨q0, q1, qP, jK.same (u := U) (U := U.calling g mk a) rfl qK, qD, jO.same (u := U) (U := U.calling g mk a) rfl qO⟩
theorem jCt_of {M : jM} {d kc ks : Nat} {args : List Value} {h : jH} {Q : Option Value → jH → Prop} (hok : jok M) (hargs : ∀ sb ad, (lg_sl (args.map (jV sb ad))).length ≤ M.2.2.2.1) (hJ : J M false 0 (fun _ => 0) d kc ks 0 (lv_args 0 args) [] h Q) : jCt M d kc ks args h Q := by
  intro l D dA sb ad sz
  refine Met.ofW (cc := M.2.2.1) (maxL := M.2.2.2.1) (ret := M.2.2.2.2.1) hok.2.2.2.1 rfl ?_
  intro p e s m args' below meth c s₁ B hml hv
  obtain ⟨rfl, hsz, hP, hK, hD0, hO0⟩ := hv
  have hx := B.exec
  have hb := B.bytes
  have hr := B.returns
  have hts0 := atoms_spec (ws := jWords M) B.pre
  have hts : ∀ w ∈ jG, w.before (args.map (jV sb ad)).toArray s = true := fun w hw => hts0 w (List.mem_cons_of_mem _ hw)
  have hown : s.vm.findClass M.2.1.cls = some m.cls := findClass_of_methodNamed B.named
  have hlocks := B.notSynchronized
  have hname : meth.name = M.2.1.name := (name_of_methodNamed B.named B.method).1
  subst hsz
  have hl := lv_entry (args.map (jV sb ad)) (n := M.2.2.2.1) (hargs sb ad)
  rw [jArgs] at hl
  rw [lg_entry_eq]
  generalize (lg_sl (args.map (jV sb ad)) ++ List.replicate (M.2.2.2.1 - (lg_sl (args.map (jV sb ad))).length) Slot.unset).toArray = ls at hl ⊢
  refine hJ p l e _ s m _ below meth c D dA sb (va_A (jWs sb dA ad h) s.heap.size) s.heap h.length ad kc ks _ ⟨hx, hb, hml, hown, hts, hK, hlocks, hr, fun z => hname.trans z⟩ ⟨(fun z => by cases z), hO0, rfl⟩ (fun q hq => Or.inr hq) ⟨Nat.le_refl _, Nat.le_refl _, Nat.le_refl _, Nat.le_refl _⟩ ?_ ad s.heap [] 0 0 ls ⟨hP, hD0.self, va_S.rf, Nat.le_refl _, fun _ _ => rfl, fun _ => rfl⟩ hl (by omega) (by omega)
  intro v h' ad' H' locs' cells' slots' pc' ls' hq hw hc hs hri
  obtain ⟨w1, w2, w3, w4, w5, w6⟩ := hw
  refine W.widen hc hs ?_
  have hend : ∀ t : State, t.heap = H' → jQc Q D dA sb ad h kc s.heap.size (args.map (jV sb ad)).toArray s (.returned (v.map (jV sb ad'))) t := fun t ht =>
    ⟨⟨v, h', ad', rfl, hq, w4, w5, w6, by rw [ht]; exact w1, w2⟩, w3.F ht⟩
  match v, hri with
  | none, hri =>
    exact W.vret hx hb (hr.trans hri.2) (fun t ht hW => hend t ht) w3.2.2 hri.1
  | some (.int x), hri =>
    obtain ⟨hd, ty, h1, h2⟩ := hri
    exact W.zret (v := x) hx hb (hr.trans h1) h2 (fun t ht hW => hend t ht) w3.2.2 hd
  | some (.long x), hri =>
    exact W.lret (v := x) hx hb (hr.trans hri.2) (fun t ht hW => hend t ht) w3.2.2 hri.1
theorem jCt.mono {M : jM} {d kc ks : Nat} {args : List Value} {h : jH} {Q Q' : Option Value → jH → Prop} (hq : ∀ v h', Q v h' → Q' v h') (k : jCt M d kc ks args h Q) : jCt M d kc ks args h Q' := by
  intro l D dA sb ad sz
  have h1 := k l D dA sb ad sz
  intro p e ha hc hk s m args' below hf happ hp hx
  obtain ⟨n, o, a1, a2, a3, ⟨⟨⟨r, h', ad', e1, e2, e3⟩, e4⟩, e5⟩⟩ := h1 p e ha hc hk s m args' below hf happ hp hx
  exact ⟨n, o, a1, a2, a3, ⟨⟨⟨r, h', ad', e1, hq _ _ e2, e3⟩, e4⟩, e5⟩⟩
section JCALLS
variable {M M' : jM} {on : Bool} {L : Nat} {xs : Nat → Int32} {d d' kc ks kc' ks' pc : Nat} {lv : List (Nat × Value)} {st : List Value} {h : jH} {Q Q' : Option Value → jH → Prop}
/-- behind a call -/
theorem J_run {stk As : List Value} (hwf : kc' = 0 ∨ jwF h.length lv st = true) (hc : jCt M' d' kc' ks' As h Q') (hd' : d' + 1 ≤ d) (hlocs : M'.2.2.2.1 ≤ 12)
    (hr : ∀ {p : Program} {l : Launch} {e : Env} {R : Room} {s : State} {m : MethodId} {args : Array Value} {below : List Frame} {meth : Method} {c : Code} {D : va_G} {dA : Nat → Nat} {sb : Nat → Nat} {ad : Nat → Nat} {H : Heap} {locs : List Loc} {cells slots : Nat} {ls : Array Slot},
      jFix M p s m args meth c D dA → Met l M'.2.1 (jWords M') (jRoom d' kc' ks') (jPc D dA sb ad As h H.size) (jQc Q' D dA sb ad h kc' H.size) kc' ks' (va_A (jWs sb dA ad h) H.size) →
      va_P D vwCl (jWs sb dA ad h) H → va_D (fun _ => True) (jWs sb dA ad h) → jO sb (va_A (jWs sb dA ad h) H.size) s H → ls.size = M.2.2.2.1 → d' + 1 ≤ R.frames → 8 + (M'.2.2.2.1 + 11) + d' * jK0 ≤ R.locals → cells + kc' ≤ R.cells ∧ slots + ks' ≤ R.slots →
      ∃ a, va_Run p l e R s m args below meth c H locs cells slots kc' ks' (F0 m pc ls (stk.map (jV sb ad))) (st.map (jV sb ad)) (jQc Q' D dA sb ad h kc' H.size a) (va_A (jWs sb dA ad h) H.size))
    (k : ∀ r h', Q' r h' → h.length ≤ h'.length → J M on L xs d kc ks (pc + 3) lv (r.toList ++ st) h' Q) : J M on L xs d (kc' + kc) (ks' + ks) pc lv stk h Q := by
  intro p l e R s m args below meth c D dA sb A H0 n0 ad0 CB SB QQ hF hX hA hR hT ad H locs cells slots ls hw hls h4 h5
  obtain ⟨w1, w2, w3, w4, w5, w6⟩ := hw
  have hmul : (d' + 1) * jK0 ≤ d * jK0 := Nat.mul_le_mul_right _ hd'
  have hj : (d' + 1) * jK0 = d' * jK0 + 40 := by rw [Nat.add_mul]; rfl
  have hA1 : ∀ q, va_A (jWs sb dA ad h) H.size q → A q := fun q hq => by
    rcases hq with ⟨k, e, hk⟩ | hq
    · exact w2.2 k (q, e) hk
    · exact hA q (Nat.le_trans w3.1 hq)
  obtain ⟨a, hrun⟩ := hr (l := l) (e := e) (below := below) (locs := locs) (cells := cells) (slots := slots) (ls := ls) hF (hc l D dA sb ad H.size) w1 (w2.weaken (fun _ _ _ _ => trivial)) ((hX.2.1.kept w3.2.1).narrow hA1) hls.1 (Nat.le_trans hd' hR.1) (by have := hR.2.1; omega) ⟨by have := hR.2.2.1; omega, by have := hR.2.2.2; omega⟩
  intro T hT1 X
  obtain ⟨v, st₀, t, T', LL, h0, X', hL, e1, e2, ⟨⟨r, h', ad', hv, hq, hlen, hag, hz0, hP', hD'⟩, hz, hk⟩, hst⟩ := hrun T hT1 X
  cases hv
  rw [h0] at hz hk
  have hS' : va_S A H0 T'.heap (locs ++ LL) := ⟨Nat.le_trans w3.1 (by rw [e1]; exact hz), fun q h1 h2 => by
      rw [e1, hk q (Nat.lt_of_lt_of_le h1 w3.1) (fun z => h2 (hA1 q z))]
      exact w3.2.1 q h1 h2, fun q hq => by
      rcases List.mem_append.mp hq with h | h
      · exact w3.2.2 q h
      · exact hA1 _ (hL q h)⟩
  have hlst : jL sb ad' lv = jL sb ad lv ∧ st.map (jV sb ad') = st.map (jV sb ad) := by
    rcases hwf with hwf | hwf
    · rw [hz0 hwf]; exact ⟨rfl, rfl⟩
    · unfold jwF at hwf
      obtain ⟨f1, f2⟩ := Bool.and_eq_true_iff.mp hwf
      exact ⟨jL_ext f1 hag, jVs_ext f2 hag⟩
  have hk2 := k r h' hq hlen p l e R s m args below meth c D dA sb A H0 n0 ad0 CB SB QQ hF hX hA hR hT ad' T'.heap (locs ++ LL) (cells + kc') (slots + ks') ls
    ⟨by rw [e1]; exact hP', hD'.weaken (fun _ q _ hq => hA1 q.1 hq), hS', by omega, fun i hi => by rw [hag i (by omega)]; exact w5 i hi, fun z => by rw [hz0 (by omega)]; exact w6 z⟩ (by rw [hlst.1]; exact hls) (by omega) (by omega)
  rw [List.map_append, hlst.2] at hk2
  obtain ⟨t2, a1, b1⟩ := hk2 T' rfl X'
  refine ⟨t2, hst t2 ?_, b1⟩
  cases r <;> exact a1
theorem jSum {sb : Nat → Nat} {ad : Nat → Nat} (hs : (st.map fun v => v.category).sum ≤ 8) : ((st.map (jV sb ad)).map fun v => v.category).sum ≤ 8 := by
  rw [List.map_map]
  rw [show ((fun v : Value => v.category) ∘ jV sb ad) = (fun v => v.category) from funext fun v => jV_cat sb ad v]
  exact hs
theorem jGoodWs (hok : jok M') : GoodIn jG (jWords M') := fun w hw => by
  rcases List.mem_cons.mp hw with rfl | hw
  · exact jG_good _ hok.2.1
  · exact jG_good w hw
theorem J_callV {idx n b ci : Nat} {fs As : List Value} {q : vw_C} (hok : jok M') (hv : jvirt M') (hl : Cond.methodLink M.2.1.cls idx M'.2.1 ∈ jG) (hpn : (parseMethodDescriptor M'.2.1.desc).map (fun d => d.parameters.length) = some n) (hn : As.length = n) (hb : h[b]? = some (.inr (ci, fs))) (hq : vwCl[ci]? = some q) (hqc : q.1 = M'.2.1.cls) (hs : (st.map fun v => v.category).sum ≤ 8)
    (hwf : kc' = 0 ∨ jwF h.length lv st = true) (hd' : d' + 1 ≤ d) (hd : decode M.2.2.1 pc = .ok (.invokevirtual idx, 3)) (hc : jCt M' d' kc' ks' (.ref b :: As) h Q')
    (k : ∀ r h', Q' r h' → h.length ≤ h'.length → J M on L xs d kc ks (pc + 3) lv (r.toList ++ st) h' Q) : J M on L xs d (kc' + kc) (ks' + ks) pc lv (As.reverse ++ .ref b :: st) h Q := by
  refine J_run (As := .ref b :: As) hwf hc hd' hok.2.2.2.2.2 ?_ k
  intro p l e R s m args below meth c D dA sb ad H locs cells slots ls hF hM hP hD hO hsz hr1 hr2 hr3
  have hT : GoodIn jG (wsV M.2.1.cls idx M'.2.1.cls M'.2.1 (jWords M')) := fun w hw => by
    rcases List.mem_append.mp hw with hw | hw
    · simp only [List.mem_cons, List.not_mem_nil, or_false] at hw
      rcases hw with rfl | rfl | rfl | rfl
      · exact jG_good _ hl
      · exact jG_good _ hv.1
      · exact jG_good _ hv.2
      · exact jG_good _ hok.2.2.1
    · exact jGoodWs hok w hw
  have hcw := cwV (R := R) (rm := jRoom d' kc' ks') (mc := kc') (ms := ks') (maxL := M'.2.2.2.1) (bytes := M'.2.2.1) (ret := M'.2.2.2.2.1) n hF.2.2.2.2.1 hT rfl rfl rfl ⟨rfl, hok.2.2.2.2.1.1, hok.2.2.2.2.1.2, hpn⟩ ⟨hr1, hr2⟩
  have hrv := va_recv (q0 := b) hF.2.2.2.2.2.1.1 hP hq (jWs_get hb)
  rw [hqc] at hrv
  refine ⟨_, va_runV (As := As.map (jV sb ad)) (rest := st.map (jV sb ad)) (b := ad b) ⟨hF.1, hF.2.1, hF.2.2.1, hF.2.2.2.1, hF.2.2.2.2.1⟩ hM hcw ⟨jBlind, hrv, fun U hU hW => ⟨rfl, by rw [hU], by rw [hU]; exact hP, jK.moved hW hF.2.2.2.2.2.1, hD, by rw [hU]; exact jO.moved hW hO⟩⟩ rfl (by rw [List.length_map]; exact hn) hsz ?_ (lv_room (jSum hs)) hd hr3⟩
  show (As.reverse ++ Value.ref b :: st).map (jV sb ad) = _
  rw [List.map_append, List.map_reverse]; rfl
theorem J_callI {idx n b : Nat} {As : List Value} (hok : jok M') (hv : jinit M') (hl : Cond.methodLink M.2.1.cls idx M'.2.1 ∈ jG) (hpn : (parseMethodDescriptor M'.2.1.desc).map (fun d => d.parameters.length) = some n) (hn : As.length = n) (hs : (st.map fun v => v.category).sum ≤ 8)
    (hwf : kc' = 0 ∨ jwF h.length lv st = true) (hd' : d' + 1 ≤ d) (hd : decode M.2.2.1 pc = .ok (.invokespecial idx, 3)) (hc : jCt M' d' kc' ks' (.ref b :: As) h Q')
    (k : ∀ r h', Q' r h' → h.length ≤ h'.length → J M on L xs d kc ks (pc + 3) lv (r.toList ++ st) h' Q) : J M on L xs d (kc' + kc) (ks' + ks) pc lv (As.reverse ++ .ref b :: st) h Q := by
  refine J_run (As := .ref b :: As) hwf hc hd' hok.2.2.2.2.2 ?_ k
  intro p l e R s m args below meth c D dA sb ad H locs cells slots ls hF hM hP hD hO hsz hr1 hr2 hr3
  have hcw := cwI (R := R) (rm := jRoom d' kc' ks') (mc := kc') (ms := ks') (maxL := M'.2.2.2.1) (bytes := M'.2.2.1) n hF.2.2.2.2.1 (jGoodWs hok) (by unfold jWords; rw [hv.2.2]) rfl rfl (hF.2.2.2.2.1 _ hok.2.2.1) (hF.2.2.2.2.1 _ hl) (hF.2.2.2.2.1 _ hv.2.1) hv.1 ⟨hok.2.2.2.2.1.1, hok.2.2.2.2.1.2, hpn⟩ ⟨hr1, hr2⟩
  refine ⟨_, va_runI (As := As.map (jV sb ad)) (rest := st.map (jV sb ad)) (b := ad b) ⟨hF.1, hF.2.1, hF.2.2.1, hF.2.2.2.1, hF.2.2.2.2.1⟩ hM hcw ⟨jBlind, fun U hU hW => ⟨rfl, by rw [hU], by rw [hU]; exact hP, jK.moved hW hF.2.2.2.2.2.1, hD, by rw [hU]; exact jO.moved hW hO⟩⟩ rfl (by rw [List.length_map]; exact hn) hsz ?_ (lv_room (jSum hs)) hd hr3⟩
  show (As.reverse ++ Value.ref b :: st).map (jV sb ad) = _
  rw [List.map_append, List.map_reverse]; rfl
theorem J_callN {idx n b : Nat} {host : String} {As : List Value} (hok : jok M') (hv : jinit M') (hl : ∀ s, jN s → va_Nw (.methodLinkNest M.2.1.cls idx M'.2.1 host) s) (hpn : (parseMethodDescriptor M'.2.1.desc).map (fun d => d.parameters.length) = some n) (hn : As.length = n) (hs : (st.map fun v => v.category).sum ≤ 8)
    (hwf : kc' = 0 ∨ jwF h.length lv st = true) (hd' : d' + 1 ≤ d) (hd : decode M.2.2.1 pc = .ok (.invokespecial idx, 3)) (hc : jCt M' d' kc' ks' (.ref b :: As) h Q')
    (k : ∀ r h', Q' r h' → h.length ≤ h'.length → J M on L xs d kc ks (pc + 3) lv (r.toList ++ st) h' Q) : J M on L xs d (kc' + kc) (ks' + ks) pc lv (As.reverse ++ .ref b :: st) h Q := by
  refine J_run (As := .ref b :: As) hwf hc hd' hok.2.2.2.2.2 ?_ k
  intro p l e R s m args below meth c D dA sb ad H locs cells slots ls hF hM hP hD hO hsz hr1 hr2 hr3
  have hcw := va_cnB (R := R) (rm := jRoom d' kc' ks') (mc := kc') (ms := ks') (maxL := M'.2.2.2.1) (bytes := M'.2.2.1) (ret := none) n hF.2.2.2.2.1 (jGoodWs hok) (by unfold jWords; rw [hv.2.2]) rfl rfl (hl _ hF.2.2.2.2.2.1.2) (hF.2.2.2.2.1 _ hok.2.2.1) ⟨hok.2.2.2.2.1.1, hok.2.2.2.2.1.2, hpn⟩ ⟨hr1, hr2⟩
  refine ⟨_, va_runIN (As := As.map (jV sb ad)) (rest := st.map (jV sb ad)) (b := ad b) ⟨hF.1, hF.2.1, hF.2.2.1, hF.2.2.2.1, hF.2.2.2.2.1⟩ hM ⟨hcw, hv.1, hF.2.2.2.2.1 _ hv.2.1⟩ ⟨jBlind, fun U hU hW => ⟨rfl, by rw [hU], by rw [hU]; exact hP, jK.moved hW hF.2.2.2.2.2.1, hD, by rw [hU]; exact jO.moved hW hO⟩⟩ rfl (by rw [List.length_map]; exact hn) hsz ?_ (lv_room (jSum hs)) hd hr3⟩
  show (As.reverse ++ Value.ref b :: st).map (jV sb ad) = _
  rw [List.map_append, List.map_reverse]; rfl
theorem J_callS {idx n : Nat} {As : List Value} (hok : jok M') (hv : jstat M') (hl : Cond.methodLink M.2.1.cls idx M'.2.1 ∈ jG) (hcl : M'.2.1.cls = M.2.1.cls) (hpn : (parseMethodDescriptor M'.2.1.desc).map (fun d => d.parameters.length) = some n) (hn : As.length = n) (hs : (st.map fun v => v.category).sum ≤ 8)
    (hwf : kc' = 0 ∨ jwF h.length lv st = true) (hd' : d' + 1 ≤ d) (hd : decode M.2.2.1 pc = .ok (.invokestatic idx, 3)) (hc : jCt M' d' kc' ks' As h Q')
    (k : ∀ r h', Q' r h' → h.length ≤ h'.length → J M on L xs d kc ks (pc + 3) lv (r.toList ++ st) h' Q) : J M on L xs d (kc' + kc) (ks' + ks) pc lv (As.reverse ++ st) h Q := by
  refine J_run (As := As) hwf hc hd' hok.2.2.2.2.2 ?_ k
  intro p l e R s m args below meth c D dA sb ad H locs cells slots ls hF hM hP hD hO hsz hr1 hr2 hr3
  have hT : GoodIn jG (wsS M.2.1.cls idx M'.2.1 (jWords M')) := fun w hw => by
    rcases List.mem_append.mp hw with hw | hw
    · simp only [List.mem_cons, List.not_mem_nil, or_false] at hw
      rcases hw with rfl | rfl | rfl
      · exact jG_good _ hl
      · exact jG_good _ hv
      · rw [← hcl]; exact jG_good _ hok.2.2.1
    · exact jGoodWs hok w hw
  have hcw := cwS (R := R) (rm := jRoom d' kc' ks') (mc := kc') (ms := ks') (maxL := M'.2.2.2.1) (bytes := M'.2.2.1) (ret := M'.2.2.2.2.1) n hF.2.2.2.2.1 hT rfl rfl rfl ⟨hcl, hok.2.2.2.2.1.1, hok.2.2.2.2.1.2, hpn⟩ ⟨hr1, hr2⟩
  refine ⟨_, va_runS (As := As.map (jV sb ad)) (rest := st.map (jV sb ad)) ⟨hF.1, hF.2.1, hF.2.2.1, hF.2.2.2.1, hF.2.2.2.2.1⟩ hM hcw ⟨jBlind, fun U hU hW => ⟨rfl, by rw [hU], by rw [hU]; exact hP, jK.moved hW hF.2.2.2.2.2.1, hD, by rw [hU]; exact jO.moved hW hO⟩⟩ rfl (by rw [List.length_map]; exact hn) hsz ?_ (lv_room (jSum hs)) hd hr3⟩
  show (As.reverse ++ st).map (jV sb ad) = _
  rw [List.map_append, List.map_reverse]
end JCALLS
