-- 25a.start.lean.txt
section
/-! THE START: both objects new -/
def hN0 : jH := [.inr (6, [.ref 14, .ref 23, .ref 32, .int (0), .ref 41, .ref 1, .ref 2, .ref 4, .int (0), .ref 5, .ref 7]),
  .inl (0, .inl (List.replicate 12 0)),
  .inr (4, [.ref 3, .int (0), .int (0), .int (0)]),
  .inl (2, .inl (List.replicate 100 0)),
  .inl (4, .inr (.inr [(some 46), (some 52), (some 58), (some 64), (some 70), (some 76)])),
  .inr (0, [.ref 6, .int (0), .int (0), .int (0), .int (0)]),
  .inl (0, .inl (List.replicate 20 0)),
  .inl (5, .inr (.inr [(some 82), (some 84), (some 86), (some 88), (some 90), (some 92)])),
  .inr (5, [.int (10), .int (1), .int (99), .int (0), .int (0), .ref 9, .ref 10, .ref 11, .ref 12, .ref 13]),
  .inl (0, .inl (List.replicate 100 0)),
  .inl (0, .inl (List.replicate 100 0)),
  .inl (0, .inl (List.replicate 100 0)),
  .inl (0, .inl (List.replicate 10 0)),
  .inl (0, .inl (List.replicate 10 0)),
  .inr (2, [.int (0), .int (0), .int (0), .int (0), .ref 8, .ref 15, .ref 16, .ref 17, .ref 18, .ref 19, .ref 20, .ref 21, .ref 22]),
  .inl (0, .inl (List.replicate 7 0)),
  .inl (0, .inl (List.replicate 7 0)),
  .inl (0, .inl (List.replicate 7 0)),
  .inl (0, .inl (List.replicate 7 0)),
  .inl (0, .inl (List.replicate 7 0)),
  .inl (3, .inl (List.replicate 7 0)),
  .inl (0, .inl (List.replicate 28 0)),
  .inl (0, .inl (List.replicate 12 0)),
  .inr (2, [.int (0), .int (0), .int (0), .int (0), .ref 8, .ref 24, .ref 25, .ref 26, .ref 27, .ref 28, .ref 29, .ref 30, .ref 31]),
  .inl (0, .inl (List.replicate 7 0)),
  .inl (0, .inl (List.replicate 7 0)),
  .inl (0, .inl (List.replicate 7 0)),
  .inl (0, .inl (List.replicate 7 0)),
  .inl (0, .inl (List.replicate 7 0)),
  .inl (3, .inl (List.replicate 7 0)),
  .inl (0, .inl (List.replicate 28 0)),
  .inl (0, .inl (List.replicate 12 0)),
  .inr (2, [.int (0), .int (0), .int (0), .int (0), .ref 8, .ref 33, .ref 34, .ref 35, .ref 36, .ref 37, .ref 38, .ref 39, .ref 40]),
  .inl (0, .inl (List.replicate 7 0)),
  .inl (0, .inl (List.replicate 7 0)),
  .inl (0, .inl (List.replicate 7 0)),
  .inl (0, .inl (List.replicate 7 0)),
  .inl (0, .inl (List.replicate 7 0)),
  .inl (3, .inl (List.replicate 7 0)),
  .inl (0, .inl (List.replicate 28 0)),
  .inl (0, .inl (List.replicate 12 0)),
  .inr (1, [.ref 14, .int (0), .int (0), .int (0), .int (0), .ref 42, .ref 43, .ref 44, .ref 45]),
  .inl (0, .inl (List.replicate 7 0)),
  .inl (0, .inl (List.replicate 7 0)),
  .inl (0, .inl (List.replicate 7 0)),
  .inl (0, .inl (List.replicate 12 0)),
  .inr (5, [.int (10), .int (1), .int (99), .int (0), .int (0), .ref 47, .ref 48, .ref 49, .ref 50, .ref 51]),
  .inl (0, .inl (List.replicate 100 0)),
  .inl (0, .inl (List.replicate 100 0)),
  .inl (0, .inl (List.replicate 100 0)),
  .inl (0, .inl (List.replicate 10 0)),
  .inl (0, .inl (List.replicate 10 0)),
  .inr (5, [.int (10), .int (1), .int (99), .int (0), .int (0), .ref 53, .ref 54, .ref 55, .ref 56, .ref 57]),
  .inl (0, .inl (List.replicate 100 0)),
  .inl (0, .inl (List.replicate 100 0)),
  .inl (0, .inl (List.replicate 100 0)),
  .inl (0, .inl (List.replicate 10 0)),
  .inl (0, .inl (List.replicate 10 0)),
  .inr (5, [.int (10), .int (1), .int (99), .int (0), .int (0), .ref 59, .ref 60, .ref 61, .ref 62, .ref 63]),
  .inl (0, .inl (List.replicate 100 0)),
  .inl (0, .inl (List.replicate 100 0)),
  .inl (0, .inl (List.replicate 100 0)),
  .inl (0, .inl (List.replicate 10 0)),
  .inl (0, .inl (List.replicate 10 0)),
  .inr (5, [.int (10), .int (1), .int (99), .int (0), .int (0), .ref 65, .ref 66, .ref 67, .ref 68, .ref 69]),
  .inl (0, .inl (List.replicate 100 0)),
  .inl (0, .inl (List.replicate 100 0)),
  .inl (0, .inl (List.replicate 100 0)),
  .inl (0, .inl (List.replicate 10 0)),
  .inl (0, .inl (List.replicate 10 0)),
  .inr (5, [.int (10), .int (1), .int (99), .int (0), .int (0), .ref 71, .ref 72, .ref 73, .ref 74, .ref 75]),
  .inl (0, .inl (List.replicate 100 0)),
  .inl (0, .inl (List.replicate 100 0)),
  .inl (0, .inl (List.replicate 100 0)),
  .inl (0, .inl (List.replicate 10 0)),
  .inl (0, .inl (List.replicate 10 0)),
  .inr (5, [.int (10), .int (1), .int (99), .int (0), .int (0), .ref 77, .ref 78, .ref 79, .ref 80, .ref 81]),
  .inl (0, .inl (List.replicate 100 0)),
  .inl (0, .inl (List.replicate 100 0)),
  .inl (0, .inl (List.replicate 100 0)),
  .inl (0, .inl (List.replicate 10 0)),
  .inl (0, .inl (List.replicate 10 0)),
  .inr (3, [.int (-1), .int (0), .ref 83]),
  .inl (1, .inr (.inl (List.replicate 60 0))),
  .inr (3, [.int (-1), .int (0), .ref 85]),
  .inl (1, .inr (.inl (List.replicate 60 0))),
  .inr (3, [.int (-1), .int (0), .ref 87]),
  .inl (1, .inr (.inl (List.replicate 60 0))),
  .inr (3, [.int (-1), .int (0), .ref 89]),
  .inl (1, .inr (.inl (List.replicate 60 0))),
  .inr (3, [.int (-1), .int (0), .ref 91]),
  .inl (1, .inr (.inl (List.replicate 60 0))),
  .inr (3, [.int (-1), .int (0), .ref 93]),
  .inl (1, .inr (.inl (List.replicate 60 0)))]
def hM0 : jH := [.inr (7, [.int (0), .int (0), .int (0), .ref 1, .ref 2, .ref 3, .ref 4, .ref 5, .ref 6, .ref 7, .int (0), .int (-1), .int (0), .int (0), .int (0), .ref 8, .ref 9, .ref 10, .ref 11, .ref 12, .ref 13, .ref 14, .ref 15, .int (0), .int (0), .int (0), .ref 16, .int (-1), .ref 17, .ref 18, .ref 19, .int (0), .int (0), .ref 20, .int (0), .int (0), .ref 21, .ref 22, .int (0), .ref 23, .int (0), .int (-1), .int (0), .int (0), .int (0), .int (0), .ref 24, .ref 25, .ref 26, .ref 27, .ref 28, .ref 29, .ref 30, .ref 31, .int (0), .ref 32, .ref 33, .ref 34, .ref 35, .ref 36]),
  .inl (0, .inl (List.replicate 7 0)),
  .inl (0, .inl (List.replicate 7 0)),
  .inl (0, .inl (List.replicate 7 0)),
  .inl (0, .inl (List.replicate 7 0)),
  .inl (0, .inl (List.replicate 7 0)),
  .inl (0, .inl (List.replicate 28 0)),
  .inl (3, .inl (List.replicate 7 0)),
  .inl (0, .inl (List.replicate 100 0)),
  .inl (0, .inl (List.replicate 6 0)),
  .inl (0, .inl (List.replicate 60 0)),
  .inl (0, .inl (List.replicate 60 0)),
  .inl (0, .inl (List.replicate 60 0)),
  .inl (0, .inl (List.replicate 60 0)),
  .inl (0, .inl (List.replicate 600 0)),
  .inl (0, .inl (List.replicate 101 0)),
  .inl (0, .inl [116, 97, 107, 101, 100, 117, 101, 99, 111, 115, 116, 102, 101, 97, 115, 116]),
  .inl (3, .inl (List.replicate 100 0)),
  .inl (0, .inl (List.replicate 7 0)),
  .inl (0, .inl (List.replicate 7 0)),
  .inl (0, .inl (List.replicate 7 0)),
  .inl (0, .inl (List.replicate 7 0)),
  .inl (0, .inl (List.replicate 7 0)),
  .inl (0, .inl (List.replicate 12 0)),
  .inl (0, .inl (List.replicate 7 0)),
  .inl (0, .inl (List.replicate 7 0)),
  .inl (0, .inl (List.replicate 7 0)),
  .inl (0, .inl (List.replicate 7 0)),
  .inl (0, .inl (List.replicate 7 0)),
  .inl (0, .inl (List.replicate 28 0)),
  .inl (0, .inl (List.replicate 12 0)),
  .inl (3, .inl (List.replicate 7 0)),
  .inl (0, .inl (List.replicate 20 0)),
  .inl (0, .inl (List.replicate 6 (-1))),
  .inl (0, .inl (List.replicate 6 0)),
  .inl (1, .inr (.inl (List.replicate 360 0))),
  .inl (1, .inr (.inl (List.replicate 60 0)))]
set_option maxRecDepth 1000000 in
theorem r_newX : jev 10000 4 41 [.ref 0] [.inr (6, jdf 6)] = some (none, hN0, 93, 3168) := jqR_ok (by decide +kernel)
def hN1 : jH := hN0 ++ (hM0.map (jSh 94) ++ [])
set_option maxRecDepth 1000000 in
theorem r_newM : jev 10000 4 91 [.ref 94] (hN0 ++ [.inr (7, jdf 7)]) = some (none, hN1, 36, 1814) := jqR_ok (by decide +kernel)
end
-- 25b.pair.lean.txt
section
/-! THE LAW: both objects side by side in one heap -/
section PAIR
theorem jShV0 (v : Value) : jShV 0 v = v := by cases v <;> rfl
theorem jSh0 (e : jEt) : jSh 0 e = e := by
  match e with
  | .inl (t, .inl xs) => rfl
  | .inl (t, .inr (.inl xs)) => rfl
  | .inl (t, .inr (.inr rs)) =>
    show Sum.inl (t, Sum.inr (Sum.inr _)) = _
    have : rs.map (fun r => r.map (fun k => k + 0)) = rs := by
      conv => rhs; rw [← List.map_id rs]
      refine List.map_congr_left fun r _ => ?_
      cases r <;> rfl
    exact congrArg (fun z => (Sum.inl (t, Sum.inr (Sum.inr z)) : jEt)) this
  | .inr (ci, fs) =>
    have : fs.map (jShV 0) = fs := by
      conv => rhs; rw [← List.map_id fs]
      exact List.map_congr_left fun v _ => jShV0 v
    exact congrArg (fun z => (Sum.inr (ci, z) : jEt)) this
theorem mapSh0 (h : jH) : h.map (jSh ([] : jH).length) = h := by
  conv => rhs; rw [← List.map_id h]
  exact List.map_congr_left fun e _ => jSh0 e
def HH (mx mm : mM) : jH := mH true mx ++ ((mH false mm).map (jSh 94) ++ [])
theorem mHx_len {m : mM} : (mH true m).length = 94 := mH_len
section C
variable {M M' : jM} {on : Bool} {L : Nat} {xs : Nat → Int32} {d d' kc ks pc idx n : Nat} {lv : List (Nat × Value)} {st As : List Value} {mx mm : mM} {Q : Option Value → jH → Prop} {R : Type} {ι : R → Option Value}
theorem J_xc {mx' : mM} {r : R} {e : fR R} (hok : jok M') (hv : jvirt M') (hl : Cond.methodLink M.2.1.cls idx M'.2.1 ∈ jG) (hpn : (parseMethodDescriptor M'.2.1.desc).map (fun d => d.parameters.length) = some n) (hn : As.length = n) (hqc : RX6 = M'.2.1.cls) (hs : (st.map fun v => v.category).sum ≤ 8)
    (hd' : d' + 1 ≤ d) (hd : decode M.2.2.1 pc = .ok (.invokevirtual idx, 3)) (hAs : As.all jnr = true) (hc : cF true ι M' d' (.ref 0 :: As) mx e) (he : e = some (r, mx')) (hι : (ι r).toList.all jnr = true)
    (k : J M on L xs d kc ks (pc + 3) lv ((ι r).toList ++ st) (HH mx' mm) Q) : J M on L xs d kc ks pc lv (As.reverse ++ .ref 0 :: st) (HH mx mm) Q := by
  have h0 : (mH true mx)[0]? = some (.inr (6, ([16, 25, 34, 0, 43, 3, 4, 6, 0, 7, 9] : List Nat).mapIdx (fun k f => mF mx 0 k f))) := mH_get (w := true) (m := mx) (c := 0) (y := .inl (6, [16, 25, 34, 0, 43, 3, 4, 6, 0, 7, 9])) rfl
  have h1 := J_callVF (Q' := fun r1 h1 => r1 = ι r ∧ h1 = mH true mx') (h1 := []) (h2 := mH true mx) (h3 := (mH false mm).map (jSh 94) ++ []) (b := 0) (As := As) (st := st) (lv := lv) (Q := Q) (on := on) (L := L) (xs := xs) (kc := kc) (ks := ks) hok hv hl hpn hn (ci := 6) h0 rfl hqc hs hd' hd hAs (hc r mx' he) (fun r1 h' hq => ⟨by rw [hq.2, mHx_len, mHx_len], by rw [hq.1]; exact hι⟩) (fun r1 h' hq => by
    rw [hq.1, hq.2, mapSh0, List.nil_append]; exact k)
  rw [mapSh0, List.nil_append] at h1
  exact h1
theorem J_mc {mm' : mM} {r : R} {e : fR R} (hok : jok M') (hv : jvirt M') (hl : Cond.methodLink M.2.1.cls idx M'.2.1 ∈ jG) (hpn : (parseMethodDescriptor M'.2.1.desc).map (fun d => d.parameters.length) = some n) (hn : As.length = n) (hqc : RX7 = M'.2.1.cls) (hs : (st.map fun v => v.category).sum ≤ 8)
    (hd' : d' + 1 ≤ d) (hd : decode M.2.2.1 pc = .ok (.invokevirtual idx, 3)) (hAs : As.all jnr = true) (hc : cF false ι M' d' (.ref 0 :: As) mm e) (he : e = some (r, mm')) (hι : (ι r).toList.all jnr = true)
    (k : J M on L xs d kc ks (pc + 3) lv ((ι r).toList ++ st) (HH mx mm') Q) : J M on L xs d kc ks pc lv (As.reverse ++ .ref 94 :: st) (HH mx mm) Q := by
  have h0 : (mH false mm)[0]? = some (mE mm 0 (.inl (7, [0, 0, 0, 3, 4, 5, 6, 7, 8, 9, 0, 0, 0, 0, 0, 10, 11, 12, 13, 14, 15, 16, 17, 0, 0, 0, 18, 0, 19, 20, 21, 0, 0, 22, 0, 0, 23, 24, 0, 25, 0, 0, 0, 0, 0, 0, 26, 27, 28, 29, 30, 31, 32, 33, 0, 34, 35, 36, 37, 38]))) := mH_get (w := false) (m := mm) (c := 0) rfl
  have h1 := J_callVF (Q' := fun r1 h1 => r1 = ι r ∧ h1 = mH false mm') (h1 := mH true mx) (h2 := mH false mm) (h3 := []) (b := 0) (As := As) (st := st) (lv := lv) (Q := Q) (on := on) (L := L) (xs := xs) (kc := kc) (ks := ks) hok hv hl hpn hn (ci := 7) (fs := (([0, 0, 0, 3, 4, 5, 6, 7, 8, 9, 0, 0, 0, 0, 0, 10, 11, 12, 13, 14, 15, 16, 17, 0, 0, 0, 18, 0, 19, 20, 21, 0, 0, 22, 0, 0, 23, 24, 0, 25, 0, 0, 0, 0, 0, 0, 26, 27, 28, 29, 30, 31, 32, 33, 0, 34, 35, 36, 37, 38] : List Nat).mapIdx (fun k f => mF mm 0 k f))) h0 rfl hqc hs hd' hd hAs (hc r mm' he) (fun r1 h' hq => ⟨by rw [hq.2, mH_len, mH_len], by rw [hq.1]; exact hι⟩) (fun r1 h' hq => by
    rw [hq.1, hq.2, mHx_len]; exact k)
  rw [mHx_len] at h1
  exact h1
end C
end PAIR
/-! both objects new: they are alike -/
section NEW
def toM (h : jH) : mM := (fun n => match h[n / 64]? with
    | some (.inr (_, fs)) => (match fs[n % 64]? with
      | some (.int x) => x
      | _ => 0)
    | _ => 0, fun c => match h[c]? with
    | some (.inl (_, .inl xs)) => xs
    | _ => [], fun c => match h[c]? with
    | some (.inl (_, .inr (.inl xs))) => xs
    | _ => [], fun n => match h[n / 64]? with
    | some (.inr (_, fs)) => (match fs[n % 64]? with
      | some (.ref k) => k
      | _ => 0)
    | _ => 0)
def mx0 : mM := toM hN0
def mm0 : mM := toM hM0
set_option maxRecDepth 1000000 in
theorem HH0 : hN1 = HH mx0 mm0 := jqH_ok (by decide +kernel)
set_option maxRecDepth 100000 in
theorem RR0 : RR mx0 mm0 := by
  have i0' : ∀ {α : Type} (P : Nat → α → Prop) (i : Nat), i < 0 → False := fun _ i h => absurd h (Nat.not_lt_zero i)
  refine ⟨0, (0, fun _ _ => 0, fun _ => 0, 0, 0, [], 0), ⟨⟨⟨rfl, rfl, rfl, rfl, rfl, rfl, by unfold b01; decide +kernel⟩, rfl, rfl⟩, ⟨⟨rfl, rfl, rfl, rfl, rfl⟩, fun p hp => absurd hp (Nat.not_lt_zero p), fun p hp => absurd hp (Nat.not_lt_zero p), fun p hp => absurd hp (Nat.not_lt_zero p)⟩, ⟨⟨rfl, rfl, rfl, rfl, rfl, rfl, by unfold b01; decide +kernel⟩, rfl, rfl⟩, ⟨⟨rfl, rfl, rfl, rfl, rfl⟩, fun p hp => absurd hp (Nat.not_lt_zero p), fun p hp => absurd hp (Nat.not_lt_zero p), fun p hp => absurd hp (Nat.not_lt_zero p)⟩⟩, ⟨⟨Nat.zero_le _, fun p hp => absurd hp (Nat.not_lt_zero p)⟩, by decide, by decide, by decide, Nat.le_refl _, fun p hp => absurd hp (Nat.not_lt_zero p), fun p hp => absurd hp (Nat.not_lt_zero p)⟩, ⟨⟨⟨rfl, rfl, rfl, rfl, rfl, rfl, by unfold b01; decide +kernel⟩, rfl, rfl⟩, ⟨⟨rfl, rfl, rfl, rfl, rfl, rfl, by unfold b01; decide +kernel⟩, rfl, rfl⟩, false, rfl, rfl, fun z => by cases z⟩, ⟨⟨⟨rfl, rfl, rfl, rfl, rfl, rfl, by unfold b01; decide +kernel⟩, rfl, rfl⟩, rfl, rfl, rfl, rfl, rfl⟩, ⟨rfl, rfl, rfl, rfl, rfl, rfl, rfl⟩, ⟨rfl, rfl, 0, fun _ => 0, Nat.zero_le _, rfl, rfl, fun p hp => absurd hp (Nat.not_lt_zero p)⟩, ⟨by decide, rfl, rfl, fun t ht => ?_, ⟨rfl, rfl, rfl, rfl, rfl, rfl, rfl, rfl⟩, fun t ht => ?_⟩, ⟨rfl, rfl, 0, by decide, rfl, rfl, fun i _ hi => absurd hi (Nat.not_lt_zero i)⟩, ⟨rfl, rfl, rfl, rfl, fun t ht => ?_⟩⟩
  · match t, ht with
    | 0, _ => exact ⟨rfl, rfl, rfl, rfl, rfl⟩
    | 1, _ => exact ⟨rfl, rfl, rfl, rfl, rfl⟩
    | 2, _ => exact ⟨rfl, rfl, rfl, rfl, rfl⟩
    | 3, _ => exact ⟨rfl, rfl, rfl, rfl, rfl⟩
    | 4, _ => exact ⟨rfl, rfl, rfl, rfl, rfl⟩
    | 5, _ => exact ⟨rfl, rfl, rfl, rfl, rfl⟩
    | 6, _ => exact ⟨rfl, rfl, rfl, rfl, rfl⟩
  · obtain rfl : t = 0 := Nat.le_zero.mp ht
    exact ⟨[], fun c hc => absurd hc List.not_mem_nil, ⟨⟨rfl, rfl, rfl, rfl⟩, fun p hp => absurd hp (Nat.not_lt_zero p), by decide, fun p hp => absurd hp (Nat.not_lt_zero p)⟩, fun _ => rfl, fun z => absurd z (Nat.lt_irrefl 0)⟩
  · match t, ht with
    | 0, _ => exact ⟨0, 0, by decide, by decide, fun _ => rfl, rfl, rfl, rfl, rfl, rfl, fun i hi => absurd hi (Nat.not_lt_zero i)⟩
    | 1, _ => exact ⟨0, 0, by decide, by decide, fun _ => rfl, rfl, rfl, rfl, rfl, rfl, fun i hi => absurd hi (Nat.not_lt_zero i)⟩
    | 2, _ => exact ⟨0, 0, by decide, by decide, fun _ => rfl, rfl, rfl, rfl, rfl, rfl, fun i hi => absurd hi (Nat.not_lt_zero i)⟩
    | 3, _ => exact ⟨0, 0, by decide, by decide, fun _ => rfl, rfl, rfl, rfl, rfl, rfl, fun i hi => absurd hi (Nat.not_lt_zero i)⟩
    | 4, _ => exact ⟨0, 0, by decide, by decide, fun _ => rfl, rfl, rfl, rfl, rfl, rfl, fun i hi => absurd hi (Nat.not_lt_zero i)⟩
    | 5, _ => exact ⟨0, 0, by decide, by decide, fun _ => rfl, rfl, rfl, rfl, rfl, rfl, fun i hi => absurd hi (Nat.not_lt_zero i)⟩
end NEW
end
-- 25c.rows.lean.txt
section
/-! THE LAW: rows -/
section LROWS
variable {M M' : jM} {on : Bool} {L : Nat} {xs : Nat → Int32} {d d' kc ks pc : Nat} {lv : List (Nat × Value)} {st : List Value} {h h' : jH} {Q : Option Value → jH → Prop}
theorem J_ifT {c : Jvm.ClassFile.Cond} {x : Int32} {off : Int} {tgt : Nat} (ht : (pc : Int) + off = (tgt : Int)) (hd : decode M.2.2.1 pc = .ok (.ifCond c off, 3)) (hc : jC c x 0) (k : J M on L xs d kc ks tgt lv st h Q) : J M on L xs d kc ks pc lv (.int x :: st) h Q := J_ifc ht hd (fun _ => k) (fun z => absurd hc z)
theorem J_icT {c : Jvm.ClassFile.Cond} {x y : Int32} {off : Int} {tgt : Nat} (ht : (pc : Int) + off = (tgt : Int)) (hd : decode M.2.2.1 pc = .ok (.if_icmp c off, 3)) (hc : jC c x y) (k : J M on L xs d kc ks tgt lv st h Q) : J M on L xs d kc ks pc lv (.int y :: .int x :: st) h Q := J_icmpc ht hd (fun _ => k) (fun z => absurd hc z)
theorem J_icF {c : Jvm.ClassFile.Cond} {x y : Int32} {off : Int} {tgt : Nat} (ht : (pc : Int) + off = (tgt : Int)) (hd : decode M.2.2.1 pc = .ok (.if_icmp c off, 3)) (hc : ¬ jC c x y) (k : J M on L xs d kc ks (pc + 3) lv st h Q) : J M on L xs d kc ks pc lv (.int y :: .int x :: st) h Q := J_icmpc ht hd (fun z => absurd z hc) (fun _ => k)
theorem J_iaddC {x y v : Int32} (hv : x + y = v) (hd : decode M.2.2.1 pc = .ok (.iadd, 1)) (k : J M on L xs d kc ks (pc + 1) lv (.int v :: st) h Q) : J M on L xs d kc ks pc lv (.int y :: .int x :: st) h Q := by subst hv; exact J_iadd hd k
theorem J_isubC {x y v : Int32} (hv : x - y = v) (hd : decode M.2.2.1 pc = .ok (.isub, 1)) (k : J M on L xs d kc ks (pc + 1) lv (.int v :: st) h Q) : J M on L xs d kc ks pc lv (.int y :: .int x :: st) h Q := by subst hv; exact J_isub hd k
theorem J_sldC {i v : Int32} (ho : on = true) (hin : vp_in i L) (hv : xs i.toNatClampNeg = v) (hd : decode M.2.2.1 pc = .ok (.iaload, 1)) (k : J M on L xs d kc ks (pc + 1) lv (.int v :: st) h Q) : J M on L xs d kc ks pc lv (.int i :: .retAddr 0 :: st) h Q := by subst hv; exact J_sld ho hin hd k
theorem J_pop2 {v : Value} (hc : v.category = 2) (hd : decode M.2.2.1 pc = .ok (.pop2, 1)) (k : J M on L xs d kc ks (pc + 1) lv st h Q) : J M on L xs d kc ks pc lv (v :: st) h Q := J_st (fun hx hb hown hts k => lv_pop2_2 hx hb hd (by rw [jV_cat]; exact hc) k) k
end LROWS
abbrev zI (i : Nat) : List (Nat × Value) := [(3, .int (nI i)), (2, .ref 94), (1, .ref 0), (0, .retAddr 0)]
def lawQ : Option Value → jH → Prop := fun v _ => v = some (.int 1)
section LROWS2
variable {M : jM} {L : Nat} {xs : Nat → Int32} {d kc ks pc : Nat} {st : List Value} {h : jH} {Q : Option Value → jH → Prop}
/-- the script's k-th int of this call -/
theorem J_sarg {i k : Nat} {kk : Int} (h0 : decode M.2.2.1 pc = .ok (.aload_n 0, 1)) (h1 : decode M.2.2.1 (pc + 1) = .ok (.iload_n 3, 1)) (h2 : decode M.2.2.1 (pc + 2) = .ok (.iconst kk, 1)) (hk : Int32.ofInt kk = nI k) (h3 : decode M.2.2.1 (pc + 3) = .ok (.iadd, 1)) (h4 : decode M.2.2.1 (pc + 4) = .ok (.iaload, 1)) (hi : i + k < L) (hL : L < 2 ^ 31) (K : J M true L xs d kc ks (pc + 5) (zI i) (.int (xs (i + k)) :: st) h Q) : J M true L xs d kc ks pc (zI i) st h Q := by
  refine J_sload_n (i := 0) (a := 0) rfl rfl h0 ?_
  refine J_iload_n (i := 3) (a := 3) rfl rfl h1 ?_
  refine J_iconst hk h2 ?_
  refine J_iaddC (nI_add i k) h3 ?_
  refine J_sldC (v := xs (i + k)) rfl (vp_in_nI hi hL) (by rw [nI_clamp (by omega)]) h4 ?_
  exact K
end LROWS2
theorem jI_sub {x y : Int32} {p q : Int} (hx : x.toInt = p) (hy : y.toInt = q) (h1 : -2147483648 ≤ p - q) (h2 : p - q ≤ 2147483647) : (x - y).toInt = p - q := by
  rw [Int32.toInt_sub, hx, hy]
  exact Int.bmod_eq_of_le (by omega) (by omega)
theorem sub6 {L : Nat} (hL : L ≤ 3072) : (nI L - 6).toInt = (L : Int) - 6 := jI_sub (nI_toInt (by omega)) (by decide) (by omega) (by omega)
/-- a contract with what it makes -/
theorem jev_ctA {F d mid A S : Nat} {args : List Value} {h h' : jH} {r : Option Value} {M : jM} (hM : jmsL[mid]? = some M) (he : jev F d mid args h = some (r, h', A, S)) : jCt M d A S args h (fun v k => v = r ∧ k = h') := by
  obtain ⟨M', h1, h2, -⟩ := jev_ok F d mid args h r h' A S he
  cases h1.symm.trans hM
  exact h2
set_option maxRecDepth 100000 in
theorem lX : hN0.length = 94 := rfl
end
