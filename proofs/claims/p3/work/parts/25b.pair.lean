/-! THE LAW: both objects side by side in one heap -/
section PAIR
theorem jShV0 (v : Value) : jShV 0 v = v := by cases v <;> rfl
theorem jSh0 (e : jEt) : jSh 0 e = e := by
  match e with
  | .inl (t, .inl xs) => rfl
  | .inl (t, .inr (.inl xs)) => rfl
  | .inl (t, .inr (.inr rs)) =>
    show Sum.inl (t, Sum.inr (Sum.inr _)) = _
    have : rs.map (fun r => r.map (fun k => k + 0)) = rs := by
      conv => rhs; rw [← List.map_id rs]
      refine List.map_congr_left fun r _ => ?_
      cases r <;> rfl
    exact congrArg (fun z => (Sum.inl (t, Sum.inr (Sum.inr z)) : jEt)) this
  | .inr (ci, fs) =>
    have : fs.map (jShV 0) = fs := by
      conv => rhs; rw [← List.map_id fs]
      exact List.map_congr_left fun v _ => jShV0 v
    exact congrArg (fun z => (Sum.inr (ci, z) : jEt)) this
theorem mapSh0 (h : jH) : h.map (jSh ([] : jH).length) = h := by
  conv => rhs; rw [← List.map_id h]
  exact List.map_congr_left fun e _ => jSh0 e
def HH (mx mm : mM) : jH := mH true mx ++ ((mH false mm).map (jSh 94) ++ [])
theorem mHx_len {m : mM} : (mH true m).length = 94 := mH_len
section C
variable {M M' : jM} {on : Bool} {L : Nat} {xs : Nat → Int32} {d d' kc ks pc idx n : Nat} {lv : List (Nat × Value)} {st As : List Value} {mx mm : mM} {Q : Option Value → jH → Prop} {R : Type} {ι : R → Option Value}
theorem J_xc {mx' : mM} {r : R} {e : fR R} (hok : jok M') (hv : jvirt M') (hl : Cond.methodLink M.2.1.cls idx M'.2.1 ∈ jG) (hpn : (parseMethodDescriptor M'.2.1.desc).map (fun d => d.parameters.length) = some n) (hn : As.length = n) (hqc : RX6 = M'.2.1.cls) (hs : (st.map fun v => v.category).sum ≤ 8)
    (hd' : d' + 1 ≤ d) (hd : decode M.2.2.1 pc = .ok (.invokevirtual idx, 3)) (hAs : As.all jnr = true) (hc : cF true ι M' d' (.ref 0 :: As) mx e) (he : e = some (r, mx')) (hι : (ι r).toList.all jnr = true)
    (k : J M on L xs d kc ks (pc + 3) lv ((ι r).toList ++ st) (HH mx' mm) Q) : J M on L xs d kc ks pc lv (As.reverse ++ .ref 0 :: st) (HH mx mm) Q := by
  have h0 : (mH true mx)[0]? = some (.inr (6, ([16, 25, 34, 0, 43, 3, 4, 6, 0, 7, 9] : List Nat).mapIdx (fun k f => mF mx 0 k f))) := mH_get (w := true) (m := mx) (c := 0) (y := .inl (6, [16, 25, 34, 0, 43, 3, 4, 6, 0, 7, 9])) rfl
  have h1 := J_callVF (Q' := fun r1 h1 => r1 = ι r ∧ h1 = mH true mx') (h1 := []) (h2 := mH true mx) (h3 := (mH false mm).map (jSh 94) ++ []) (b := 0) (As := As) (st := st) (lv := lv) (Q := Q) (on := on) (L := L) (xs := xs) (kc := kc) (ks := ks) hok hv hl hpn hn (ci := 6) h0 rfl hqc hs hd' hd hAs (hc r mx' he) (fun r1 h' hq => ⟨by rw [hq.2, mHx_len, mHx_len], by rw [hq.1]; exact hι⟩) (fun r1 h' hq => by
    rw [hq.1, hq.2, mapSh0, List.nil_append]; exact k)
  rw [mapSh0, List.nil_append] at h1
  exact h1
theorem J_mc {mm' : mM} {r : R} {e : fR R} (hok : jok M') (hv : jvirt M') (hl : Cond.methodLink M.2.1.cls idx M'.2.1 ∈ jG) (hpn : (parseMethodDescriptor M'.2.1.desc).map (fun d => d.parameters.length) = some n) (hn : As.length = n) (hqc : RX7 = M'.2.1.cls) (hs : (st.map fun v => v.category).sum ≤ 8)
    (hd' : d' + 1 ≤ d) (hd : decode M.2.2.1 pc = .ok (.invokevirtual idx, 3)) (hAs : As.all jnr = true) (hc : cF false ι M' d' (.ref 0 :: As) mm e) (he : e = some (r, mm')) (hι : (ι r).toList.all jnr = true)
    (k : J M on L xs d kc ks (pc + 3) lv ((ι r).toList ++ st) (HH mx mm') Q) : J M on L xs d kc ks pc lv (As.reverse ++ .ref 94 :: st) (HH mx mm) Q := by
  have h0 : (mH false mm)[0]? = some (mE mm 0 (.inl (7, [0, 0, 0, 3, 4, 5, 6, 7, 8, 9, 0, 0, 0, 0, 0, 10, 11, 12, 13, 14, 15, 16, 17, 0, 0, 0, 18, 0, 19, 20, 21, 0, 0, 22, 0, 0, 23, 24, 0, 25, 0, 0, 0, 0, 0, 0, 26, 27, 28, 29, 30, 31, 32, 33, 0, 34, 35, 36, 37, 38]))) := mH_get (w := false) (m := mm) (c := 0) rfl
  have h1 := J_callVF (Q' := fun r1 h1 => r1 = ι r ∧ h1 = mH false mm') (h1 := mH true mx) (h2 := mH false mm) (h3 := []) (b := 0) (As := As) (st := st) (lv := lv) (Q := Q) (on := on) (L := L) (xs := xs) (kc := kc) (ks := ks) hok hv hl hpn hn (ci := 7) (fs := (([0, 0, 0, 3, 4, 5, 6, 7, 8, 9, 0, 0, 0, 0, 0, 10, 11, 12, 13, 14, 15, 16, 17, 0, 0, 0, 18, 0, 19, 20, 21, 0, 0, 22, 0, 0, 23, 24, 0, 25, 0, 0, 0, 0, 0, 0, 26, 27, 28, 29, 30, 31, 32, 33, 0, 34, 35, 36, 37, 38] : List Nat).mapIdx (fun k f => mF mm 0 k f))) h0 rfl hqc hs hd' hd hAs (hc r mm' he) (fun r1 h' hq => ⟨by rw [hq.2, mH_len, mH_len], by rw [hq.1]; exact hι⟩) (fun r1 h' hq => by
    rw [hq.1, hq.2, mHx_len]; exact k)
  rw [mHx_len] at h1
  exact h1
end C
end PAIR
/-! both objects new: they are alike -/
section NEW
def toM (h : jH) : mM := (fun n => match h[n / 64]? with
    | some (.inr (_, fs)) => (match fs[n % 64]? with
      | some (.int x) => x
      | _ => 0)
    | _ => 0, fun c => match h[c]? with
    | some (.inl (_, .inl xs)) => xs
    | _ => [], fun c => match h[c]? with
    | some (.inl (_, .inr (.inl xs))) => xs
    | _ => [], fun n => match h[n / 64]? with
    | some (.inr (_, fs)) => (match fs[n % 64]? with
      | some (.ref k) => k
      | _ => 0)
    | _ => 0)
def mx0 : mM := toM hN0
def mm0 : mM := toM hM0
set_option maxRecDepth 1000000 in
theorem HH0 : hN1 = HH mx0 mm0 := jqH_ok (by decide +kernel)
set_option maxRecDepth 100000 in
theorem RR0 : RR mx0 mm0 := by
  have i0' : ∀ {α : Type} (P : Nat → α → Prop) (i : Nat), i < 0 → False := fun _ i h => absurd h (Nat.not_lt_zero i)
  refine ⟨0, (0, fun _ _ => 0, fun _ => 0, 0, 0, [], 0), ⟨⟨⟨rfl, rfl, rfl, rfl, rfl, rfl, by unfold b01; decide +kernel⟩, rfl, rfl⟩, ⟨⟨rfl, rfl, rfl, rfl, rfl⟩, fun p hp => absurd hp (Nat.not_lt_zero p), fun p hp => absurd hp (Nat.not_lt_zero p), fun p hp => absurd hp (Nat.not_lt_zero p)⟩, ⟨⟨rfl, rfl, rfl, rfl, rfl, rfl, by unfold b01; decide +kernel⟩, rfl, rfl⟩, ⟨⟨rfl, rfl, rfl, rfl, rfl⟩, fun p hp => absurd hp (Nat.not_lt_zero p), fun p hp => absurd hp (Nat.not_lt_zero p), fun p hp => absurd hp (Nat.not_lt_zero p)⟩⟩, ⟨⟨Nat.zero_le _, fun p hp => absurd hp (Nat.not_lt_zero p)⟩, by decide, by decide, by decide, Nat.le_refl _, fun p hp => absurd hp (Nat.not_lt_zero p), fun p hp => absurd hp (Nat.not_lt_zero p)⟩, ⟨⟨⟨rfl, rfl, rfl, rfl, rfl, rfl, by unfold b01; decide +kernel⟩, rfl, rfl⟩, ⟨⟨rfl, rfl, rfl, rfl, rfl, rfl, by unfold b01; decide +kernel⟩, rfl, rfl⟩, false, rfl, rfl, fun z => by cases z⟩, ⟨⟨⟨rfl, rfl, rfl, rfl, rfl, rfl, by unfold b01; decide +kernel⟩, rfl, rfl⟩, rfl, rfl, rfl, rfl, rfl⟩, ⟨rfl, rfl, rfl, rfl, rfl, rfl, rfl⟩, ⟨rfl, rfl, 0, fun _ => 0, Nat.zero_le _, rfl, rfl, fun p hp => absurd hp (Nat.not_lt_zero p)⟩, ⟨by decide, rfl, rfl, fun t ht => ?_, ⟨rfl, rfl, rfl, rfl, rfl, rfl, rfl, rfl⟩, fun t ht => ?_⟩, ⟨rfl, rfl, 0, by decide, rfl, rfl, fun i _ hi => absurd hi (Nat.not_lt_zero i)⟩, ⟨rfl, rfl, rfl, rfl, fun t ht => ?_⟩⟩
  · match t, ht with
    | 0, _ => exact ⟨rfl, rfl, rfl, rfl, rfl⟩
    | 1, _ => exact ⟨rfl, rfl, rfl, rfl, rfl⟩
    | 2, _ => exact ⟨rfl, rfl, rfl, rfl, rfl⟩
    | 3, _ => exact ⟨rfl, rfl, rfl, rfl, rfl⟩
    | 4, _ => exact ⟨rfl, rfl, rfl, rfl, rfl⟩
    | 5, _ => exact ⟨rfl, rfl, rfl, rfl, rfl⟩
    | 6, _ => exact ⟨rfl, rfl, rfl, rfl, rfl⟩
  · obtain rfl : t = 0 := Nat.le_zero.mp ht
    exact ⟨[], fun c hc => absurd hc List.not_mem_nil, ⟨⟨rfl, rfl, rfl, rfl⟩, fun p hp => absurd hp (Nat.not_lt_zero p), by decide, fun p hp => absurd hp (Nat.not_lt_zero p)⟩, fun _ => rfl, fun z => absurd z (Nat.lt_irrefl 0)⟩
  · match t, ht with
    | 0, _ => exact ⟨0, 0, by decide, by decide, fun _ => rfl, rfl, rfl, rfl, rfl, rfl, fun i hi => absurd hi (Nat.not_lt_zero i)⟩
    | 1, _ => exact ⟨0, 0, by decide, by decide, fun _ => rfl, rfl, rfl, rfl, rfl, rfl, fun i hi => absurd hi (Nat.not_lt_zero i)⟩
    | 2, _ => exact ⟨0, 0, by decide, by decide, fun _ => rfl, rfl, rfl, rfl, rfl, rfl, fun i hi => absurd hi (Nat.not_lt_zero i)⟩
    | 3, _ => exact ⟨0, 0, by decide, by decide, fun _ => rfl, rfl, rfl, rfl, rfl, rfl, fun i hi => absurd hi (Nat.not_lt_zero i)⟩
    | 4, _ => exact ⟨0, 0, by decide, by decide, fun _ => rfl, rfl, rfl, rfl, rfl, rfl, fun i hi => absurd hi (Nat.not_lt_zero i)⟩
    | 5, _ => exact ⟨0, 0, by decide, by decide, fun _ => rfl, rfl, rfl, rfl, rfl, rfl, fun i hi => absurd hi (Nat.not_lt_zero i)⟩
end NEW
