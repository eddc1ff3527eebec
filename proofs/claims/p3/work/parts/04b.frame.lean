/-! THE FRAME RULE: a call on an object whose cells are a stretch of the heap -/
def jShV (n : Nat) (v : Value) : Value := match v with
  | .ref k => .ref (k + n)
  | v => v
def jSh (n : Nat) (e : jEt) : jEt := match e with
  | .inl (t, .inr (.inr rs)) => .inl (t, .inr (.inr (rs.map (fun r => r.map (fun k => k + n)))))
  | .inl x => .inl x
  | .inr (ci, fs) => .inr (ci, fs.map (jShV n))
def jnr (v : Value) : Bool := match v with
  | .ref _ => false
  | _ => true
theorem jV_sh {n : Nat} {sb : Nat → Nat} {ad : Nat → Nat} (v : Value) : jV sb ad (jShV n v) = jV sb (fun k => ad (k + n)) v := by
  cases v <;> rfl
theorem jV_nr {sb : Nat → Nat} {ad ad' : Nat → Nat} {v : Value} (h : jnr v = true) : jV sb ad v = jV sb ad' v := by
  cases v <;> first | rfl | cases h
theorem jE_sh {n : Nat} {sb : Nat → Nat} {dA ad : Nat → Nat} (e : jEt) : jE sb dA ad (jSh n e) = jE sb dA (fun k => ad (k + n)) e := by
  match e with
  | .inl (t, .inl xs) => rfl
  | .inl (t, .inr (.inl xs)) => rfl
  | .inl (t, .inr (.inr rs)) =>
    show (Sum.inl (dA t, (rs.map (fun r => r.map (fun k => k + n))).length, _) : va_E) = Sum.inl (dA t, rs.length, _)
    rw [List.length_map]
    refine congrArg (fun z => (Sum.inl (dA t, rs.length, Sum.inr (Sum.inr (Sum.inr (Sum.inr z)))) : va_E)) (funext fun j => ?_)
    rw [List.getD_eq_getElem?_getD, List.getD_eq_getElem?_getD, List.getElem?_map]
    cases rs[j]? with
    | none => rfl
    | some r => cases r <;> rfl
  | .inr (ci, fs) =>
    show (Sum.inr (ci, (fs.map (jShV n)).map (jV sb ad)) : va_E) = Sum.inr (ci, fs.map (jV sb (fun k => ad (k + n))))
    rw [List.map_map]
    congr 2
    exact List.map_congr_left fun v _ => jV_sh v
/-- the middle stretch of a world -/
theorem jMid {sb : Nat → Nat} {dA ad : Nat → Nat} {h1 h2 h3 : jH} {k : Nat} {q : Nat × va_E} (hk : (jWs sb dA (fun k => ad (k + h1.length)) h2)[k]? = some q) : (jWs sb dA ad (h1 ++ (h2.map (jSh h1.length) ++ h3)))[k + h1.length]? = some q := by
  rw [jWs_at] at hk ⊢
  cases he : h2[k]? with
  | none => rw [he] at hk; cases hk
  | some e =>
    rw [he] at hk
    have hl : k < h2.length := (List.getElem?_eq_some_iff.mp he).1
    rw [List.getElem?_append_right (by omega), List.getElem?_append_left (by rw [List.length_map]; omega), List.getElem?_map, show k + h1.length - h1.length = k by omega, he]
    rw [← hk]
    show some (ad (k + h1.length), jE sb dA ad (jSh h1.length e)) = some (ad (k + h1.length), _)
    rw [jE_sh]
theorem jD_addr {A : Nat → Prop} {sb : Nat → Nat} {dA ad : Nat → Nat} {h h' : jH} (hl : h'.length = h.length) (hD : va_D A (jWs sb dA ad h)) : va_D A (jWs sb dA ad h') := by
  have key : ∀ {k : Nat} {q : Nat × va_E}, (jWs sb dA ad h')[k]? = some q → q.1 = ad k ∧ ∃ e, (jWs sb dA ad h)[k]? = some (ad k, e) := by
    intro k q hq
    have hlt : k < h'.length := by
      have := (List.getElem?_eq_some_iff.mp hq).1
      simpa [jWs] using this
    rw [jWs_at] at hq
    cases he : h'[k]? with
    | none => rw [he] at hq; cases hq
    | some e =>
      rw [he] at hq
      cases hq
      exact ⟨rfl, _, jWs_get (List.getElem?_eq_getElem (by omega))⟩
  refine ⟨fun i j p q hi hj hpq => ?_, fun k q hk => ?_⟩
  · obtain ⟨a1, e1, b1⟩ := key hi
    obtain ⟨a2, e2, b2⟩ := key hj
    exact hD.1 i j _ _ b1 b2 (by rw [← a1, ← a2]; exact hpq)
  · obtain ⟨a1, e1, b1⟩ := key hk
    rw [a1]
    exact hD.2 k _ b1
theorem jOut {h1 m m' h3 : jH} {k : Nat} (hl : m'.length = m.length) (hk : ¬ (h1.length ≤ k ∧ k < h1.length + m.length)) : (h1 ++ (m' ++ h3))[k]? = (h1 ++ (m ++ h3))[k]? := by
  by_cases hlo : k < h1.length
  · rw [List.getElem?_append_left hlo, List.getElem?_append_left hlo]
  · have a : ∀ x : jH, x.length = m.length → (h1 ++ (x ++ h3))[k]? = h3[k - h1.length - m.length]? := fun x hx => by
      rw [List.getElem?_append_right (by omega), List.getElem?_append_right (by omega), hx]
    rw [a m' hl, a m rfl]
section JFRAME
variable {M M' : jM} {on : Bool} {L : Nat} {xs : Nat → Int32} {d d' kc ks pc : Nat} {lv : List (Nat × Value)} {st : List Value} {h1 h2 h3 : jH} {Q Q' : Option Value → jH → Prop}
theorem J_callVF {idx n b ci : Nat} {fs As : List Value} {q : vw_C} (hok : jok M') (hv : jvirt M') (hl : Cond.methodLink M.2.1.cls idx M'.2.1 ∈ jG) (hpn : (parseMethodDescriptor M'.2.1.desc).map (fun d => d.parameters.length) = some n) (hn : As.length = n) (hb : h2[b]? = some (.inr (ci, fs))) (hq : vwCl[ci]? = some q) (hqc : q.1 = M'.2.1.cls) (hs : (st.map fun v => v.category).sum ≤ 8)
    (hd' : d' + 1 ≤ d) (hd : decode M.2.2.1 pc = .ok (.invokevirtual idx, 3)) (hAs : As.all jnr = true) (hc : jCt M' d' 0 0 (.ref b :: As) h2 Q') (hQ : ∀ r h', Q' r h' → h'.length = h2.length ∧ r.toList.all jnr = true)
    (k : ∀ r h', Q' r h' → J M on L xs d kc ks (pc + 3) lv (r.toList ++ st) (h1 ++ (h'.map (jSh h1.length) ++ h3)) Q) : J M on L xs d kc ks pc lv (As.reverse ++ .ref (b + h1.length) :: st) (h1 ++ (h2.map (jSh h1.length) ++ h3)) Q := by
  intro p l e R s m args below meth c D dA sb A H0 n0 ad0 CB SB QQ hF hX hA hR hT ad H locs cells slots ls hw hls h4 h5
  obtain ⟨w1, w2, w3, w4, w5, w6⟩ := hw
  have hmul : (d' + 1) * jK0 ≤ d * jK0 := Nat.mul_le_mul_right _ hd'
  have hj : (d' + 1) * jK0 = d' * jK0 + 40 := by rw [Nat.add_mul]; rfl
  have hml := hok.2.2.2.2.2
  have hPm : va_P D vwCl (jWs sb dA (fun k => ad (k + h1.length)) h2) H := fun k q hk => w1 _ q (jMid hk)
  have hDm : va_D A (jWs sb dA (fun k => ad (k + h1.length)) h2) := ⟨fun i j p q hi hj hpq => by
      have := w2.1 _ _ p q (jMid (h3 := h3) hi) (jMid (h3 := h3) hj) hpq
      omega, fun k q hk => w2.2 _ q (jMid hk)⟩
  have hTg : GoodIn jG (wsV M.2.1.cls idx M'.2.1.cls M'.2.1 (jWords M')) := fun w hw => by
    rcases List.mem_append.mp hw with hw | hw
    · simp only [List.mem_cons, List.not_mem_nil, or_false] at hw
      rcases hw with rfl | rfl | rfl | rfl
      · exact jG_good _ hl
      · exact jG_good _ hv.1
      · exact jG_good _ hv.2
      · exact jG_good _ hok.2.2.1
    · exact jGoodWs hok w hw
  have hcw := cwV (R := R) (rm := jRoom d' 0 0) (mc := 0) (ms := 0) (maxL := M'.2.2.2.1) (bytes := M'.2.2.1) (ret := M'.2.2.2.2.1) n hF.2.2.2.2.1 hTg rfl rfl rfl ⟨rfl, hok.2.2.2.2.1.1, hok.2.2.2.2.1.2, hpn⟩ ⟨Nat.le_trans hd' hR.1, by show 8 + (M'.2.2.2.1 + 11) + d' * jK0 ≤ R.locals; have := hR.2.1; omega⟩
  have hrv := va_recv (q0 := b) hF.2.2.2.2.2.1.1 hPm hq (jWs_get hb)
  rw [hqc] at hrv
  have hA1 : ∀ q, va_A (jWs sb dA (fun k => ad (k + h1.length)) h2) H.size q → A q := fun q hq => by
    rcases hq with ⟨k, e, hk⟩ | hq
    · exact hDm.2 k (q, e) hk
    · exact hA q (Nat.le_trans w3.1 hq)
  have hrun := va_runV (l := l) (e := e) (below := below) (meth := meth) (locs := locs) (cells := cells) (slots := slots) (As := As.map (jV sb (fun k => ad (k + h1.length)))) (rest := st.map (jV sb ad)) (b := ad (b + h1.length)) (g := F0 m pc ls ((As.reverse ++ .ref (b + h1.length) :: st).map (jV sb ad))) ⟨hF.1, hF.2.1, hF.2.2.1, hF.2.2.2.1, hF.2.2.2.2.1⟩ (hc l D dA sb (fun k => ad (k + h1.length)) H.size) hcw ⟨jBlind, hrv, fun U hU hW => ⟨rfl, by rw [hU], by rw [hU]; exact hPm, jK.moved hW hF.2.2.2.2.2.1, hDm.weaken (fun _ _ _ _ => trivial), by rw [hU]; exact jO.moved hW ((hX.2.1.kept w3.2.1).narrow hA1)⟩⟩ rfl (by rw [List.length_map]; exact hn) hls.1 (by
      show (As.reverse ++ Value.ref (b + h1.length) :: st).map (jV sb ad) = _
      rw [List.map_append, List.map_reverse]
      have : As.map (jV sb ad) = As.map (jV sb (fun k => ad (k + h1.length))) := List.map_congr_left fun v hm => jV_nr (List.all_eq_true.mp hAs v hm)
      rw [this]; rfl) (lv_room (jSum hs)) hd ⟨by have := hR.2.2.1; omega, by have := hR.2.2.2; omega⟩
  intro T hT1 X
  obtain ⟨v, st₀, t, T', LL, h0, X', hL, e1, e2, ⟨⟨r, h', ad', hv, hq', hlen, hag, hz0, hP', hD'⟩, hz, hk⟩, hst⟩ := hrun T hT1 X
  cases hv
  cases hz0 rfl
  rw [h0] at hz hk
  obtain ⟨hl2, hrn⟩ := hQ r h' hq'
  have hS' : va_S A H0 T'.heap (locs ++ LL) := ⟨Nat.le_trans w3.1 (by rw [e1]; exact hz), fun q h1 h2 => by
      rw [e1, hk q (Nat.lt_of_lt_of_le h1 w3.1) (fun z => h2 (hA1 q z))]
      exact w3.2.1 q h1 h2, fun q hq => by
      rcases List.mem_append.mp hq with h | h
      · exact w3.2.2 q h
      · exact hA1 _ (hL q h)⟩
  have hll : (h1 ++ (h'.map (jSh h1.length) ++ h3)).length = (h1 ++ (h2.map (jSh h1.length) ++ h3)).length := by simp [hl2]
  have hP2 : va_P D vwCl (jWs sb dA ad (h1 ++ (h'.map (jSh h1.length) ++ h3))) t.heap := by
    intro k q hq
    have hklt : k < (h1 ++ (h'.map (jSh h1.length) ++ h3)).length := by
      have := (List.getElem?_eq_some_iff.mp hq).1
      simpa [jWs] using this
    by_cases hin : h1.length ≤ k ∧ k < h1.length + h2.length
    · have hj : (jWs sb dA (fun k => ad (k + h1.length)) h')[k - h1.length]? = some q := by
        cases he : (jWs sb dA (fun k => ad (k + h1.length)) h')[k - h1.length]? with
        | none =>
          have := List.getElem?_eq_none_iff.mp he
          simp only [jWs, List.length_mapIdx] at this
          omega
        | some q2 =>
          have := jMid (h1 := h1) (h3 := h3) he
          rw [show k - h1.length + h1.length = k by omega, hq] at this
          exact this.symm ▸ rfl
      exact hP' _ q hj
    · have hold : (jWs sb dA ad (h1 ++ (h2.map (jSh h1.length) ++ h3)))[k]? = some q := by
        rw [← hq, jWs_at, jWs_at]
        congr 1
        exact (jOut (by rw [List.length_map, List.length_map, hl2]) (by rw [List.length_map]; exact hin)).symm
      have hat := w1 k q hold
      refine hat.kept (hk q.1 hat.lt ?_)
      rintro (⟨j, e', hj⟩ | hj)
      · have hjl : j < h2.length := by
          have := (List.getElem?_eq_some_iff.mp hj).1
          simpa [jWs] using this
        have := w2.1 k (j + h1.length) q (q.1, e') hold (jMid (h3 := h3) hj) rfl
        omega
      · have := hat.lt
        omega
  have hk2 := k r h' hq' p l e R s m args below meth c D dA sb A H0 n0 ad0 CB SB QQ hF hX hA hR hT ad T'.heap (locs ++ LL) (cells + 0) (slots + 0) ls
    ⟨by rw [e1]; exact hP2, jD_addr hll w2, hS', by rw [hll]; exact w4, w5, w6⟩ hls (by omega) (by omega)
  rw [List.map_append] at hk2
  obtain ⟨t2, a1, b1⟩ := hk2 T' rfl X'
  refine ⟨t2, hst t2 ?_, b1⟩
  have hre : r.toList.map (jV sb (fun k => ad (k + h1.length))) = r.toList.map (jV sb ad) := List.map_congr_left fun v hm => jV_nr (List.all_eq_true.mp hrn v hm)
  cases r with
  | none => exact a1
  | some v =>
    have hvv : jV sb (fun k => ad (k + h1.length)) v = jV sb ad v := by
      have h9 := hre
      simp only [Option.toList_some, List.map_cons, List.map_nil, List.cons.injEq, and_true] at h9
      exact h9
    show Steps _ _ _ (_ : State) t2
    simp only [Option.map_some, Option.toList_some]
    rw [hvv]
    exact a1
end JFRAME
