/-- a contract with what it makes -/
theorem jev_ctA {F d mid A S : Nat} {args : List Value} {h h' : jH} {r : Option Value} {M : jM} (hM : jmsL[mid]? = some M) (he : jev F d mid args h = some (r, h', A, S)) : jCt M d A S args h (fun v k => v = r ∧ k = h') := by
  obtain ⟨M', h1, h2, -⟩ := jev_ok F d mid args h r h' A S he
  cases h1.symm.trans hM
  exact h2
section LAW3
variable {xs : Nat → Int32} {kc ks : Nat}
set_option maxRecDepth 1000000 in
theorem law_head {L : Nat} (hL : L ≤ 6) : J m_L_law true L xs 20 kc ks 18 zL [] hN1 lawQ := by
  have short : ∀ v : Int32, Int32.ofNat L - 6 = v → (0 : Int32) > v → J m_L_law true L xs 20 kc ks 18 zL [] hN1 lawQ := by
    intro v hv h0
    refine J_iload_n (i := 3) (a := 3) rfl rfl (dk_L_law 18 _ rfl) ?_
    refine J_sload_n (i := 0) (a := 0) rfl rfl (dk_L_law 19 _ rfl) ?_
    refine J_slen rfl rfl (dk_L_law 20 _ rfl) ?_
    refine J_bipush (v := 6) (by decide) (dk_L_law 21 _ rfl) ?_
    refine J_isubC hv (dk_L_law 23 _ rfl) ?_
    refine J_icT (tgt := 1315) (by decide) (dk_L_law 24 _ rfl) h0 ?_
    refine J_iconst (v := 1) (by decide) (dk_L_law 1315 _ rfl) ?_
    exact J_iret rfl rfl (dk_L_law 1316 _ rfl) rfl
  match L, hL, short with
  | 0, _, short => exact short (-6) (by decide) (by decide)
  | 1, _, short => exact short (-5) (by decide) (by decide)
  | 2, _, short => exact short (-4) (by decide) (by decide)
  | 3, _, short => exact short (-3) (by decide) (by decide)
  | 4, _, short => exact short (-2) (by decide) (by decide)
  | 5, _, short => exact short (-1) (by decide) (by decide)
  | 6, _, _ =>
    refine J_iload_n (i := 3) (a := 3) rfl rfl (dk_L_law 18 _ rfl) ?_
    refine J_sload_n (i := 0) (a := 0) rfl rfl (dk_L_law 19 _ rfl) ?_
    refine J_slen (v := 6) rfl (by decide) (dk_L_law 20 _ rfl) ?_
    refine J_bipush (v := 6) (by decide) (dk_L_law 21 _ rfl) ?_
    refine J_isubC (v := 0) (by decide) (dk_L_law 23 _ rfl) ?_
    refine J_icF (tgt := 1315) (by decide) (dk_L_law 24 _ rfl) (jI_nlt (by decide : (0 : Int32).toInt = 0) (by decide : (0 : Int32).toInt = 0) (by omega)) ?_
    rw [hN2_eq]
    exact law_six
  | n + 7, hL, _ => exact absurd hL (by omega)
set_option maxRecDepth 1000000 in
theorem law_all {L : Nat} (hL : L ≤ 6) : J m_L_law true L xs 20 600000 7302250 0 [(0, .retAddr 0)] [] [] lawQ := by
  refine J_new (kc := 599999) (ks := 7302239) (ci := 6) (q := (RX6, TX6, 11)) rfl kl_8_7 is_6 ic_6 (jdf_ok rfl).1 (jdf_ok rfl).2 (by decide +kernel) (by decide +kernel) (dk_L_law 0 _ rfl) ?_
  refine J_dup rfl (dk_L_law 3 _ rfl) ?_
  refine J_callI (kc' := 93) (ks' := 3168) (kc := 599906) (ks := 7299071) (As := []) (b := 0) ok_X6_init in_X6_init cl_8_9 (n := 0) (by decide +kernel) rfl (by decide) (Or.inr (by decide +kernel)) (by decide) (dk_L_law 4 _ rfl) (jev_ctA rfl r_newX) (fun r h' hq _ => ?_)
  obtain ⟨rfl, rfl⟩ := hq
  show J _ _ _ _ _ _ _ _ _ [.ref 0] _ _
  refine J_astore_n (i := 1) (a := 1) rfl (by decide) (dk_L_law 7 _ rfl) ?_
  show J _ _ _ _ _ _ _ _ [(1, .ref 0), (0, .retAddr 0)] _ _ _
  refine J_new (kc := 599905) (ks := 7299011) (ci := 7) (q := (RX7, TX7, 60)) rfl kl_8_10 is_7 ic_7 (jdf_ok rfl).1 (jdf_ok rfl).2 (by decide +kernel) (by decide +kernel) (dk_L_law 8 _ rfl) ?_
  rw [lX]
  refine J_dup rfl (dk_L_law 11 _ rfl) ?_
  refine J_callI (kc' := 36) (ks' := 1814) (kc := 599869) (ks := 7297197) (As := []) (b := 94) ok_X7_init in_X7_init cl_8_12 (n := 0) (by decide +kernel) rfl (by decide) (Or.inr (by decide +kernel)) (by decide) (dk_L_law 12 _ rfl) (jev_ctA rfl r_newM) (fun r h' hq _ => ?_)
  obtain ⟨rfl, rfl⟩ := hq
  show J _ _ _ _ _ _ _ _ _ [.ref 94] _ _
  refine J_astore_n (i := 2) (a := 2) rfl (by decide) (dk_L_law 15 _ rfl) ?_
  refine J_iconst (v := 0) (by decide) (dk_L_law 16 _ rfl) ?_
  refine J_istore_n (i := 3) (a := 3) rfl (by decide) (dk_L_law 17 _ rfl) ?_
  show J _ _ _ _ _ _ _ _ zL _ _ _
  exact law_head hL
end LAW3
/-- the class of the arrays of a kind, at the start -/
theorem st_arr {s : State} {args : Array Value} {ty : FieldType} (hnr : ∀ C, ty ≠ .object C) (h : (Cond.arrayClass ty).before args s = true) : ∃ c : ClassId, ArrOfT s c ty ∧ s.vm.findClass ("[" ++ ty.toString) = some c := by
  obtain ⟨c, k, comp, h1, h2, h3⟩ := Cond.arrayClass_spec h
  exact ⟨c, fun n z => ⟨fun x y => (by cases y), k, h2, comp, h3⟩, h1⟩
theorem st_arq {s : State} {args : Array Value} {C : String} (h : (Cond.arrayOver (.object C)).before args s = true) : ∃ c : ClassId, ArrOfT s c (.object C) ∧ va_RA s c (.object C) := by
  obtain ⟨comp, c, k, h1, h2, h3, h4, h5⟩ := Cond.arrayOver_spec h
  exact ⟨c, fun n z => ⟨fun x y => (by cases y), k, h3, comp, h4⟩, k, comp, h3, h4, h1, h5⟩
theorem st_K {s : State} {args : Array Value} (hts : ∀ w ∈ lw_tbl, w.before args s = true) : ∃ (D : va_G) (dA : Nat → Nat), jK D dA s := by
  have hg : ∀ w ∈ jG, w.before args s = true := fun w hw => hts w (jG_tbl w hw)
  obtain ⟨c0, i0, k0⟩ := u_known (C := RX0) (T := TX0) (N := 5) (n := 5) hg jin0 (hg _ is_0)
  obtain ⟨c1, i1, k1⟩ := u_known (C := RX1) (T := TX1) (N := 9) (n := 9) hg jin1 (hg _ is_1)
  obtain ⟨c2, i2, k2⟩ := u_known (C := RX2) (T := TX2) (N := 13) (n := 13) hg jin2 (hg _ is_2)
  obtain ⟨c3, i3, k3⟩ := u_known (C := RX3) (T := TX3) (N := 3) (n := 3) hg jin3 (hg _ is_3)
  obtain ⟨c4, i4, k4⟩ := u_known (C := RX4) (T := TX4) (N := 4) (n := 4) hg jin4 (hg _ is_4)
  obtain ⟨c5, i5, k5⟩ := u_known (C := RX5) (T := TX5) (N := 10) (n := 10) hg jin5 (hg _ is_5)
  obtain ⟨c6, i6, k6⟩ := u_known (C := RX6) (T := TX6) (N := 11) (n := 11) hg jin6 (hg _ is_6)
  obtain ⟨c7, i7, k7⟩ := u_known (C := RX7) (T := TX7) (N := 60) (n := 60) hg jin7 (hg _ is_7)
  obtain ⟨a0, b0, e0⟩ := st_arr (ty := .int) (fun C h => by cases h) (hg _ ar_int)
  obtain ⟨a1, b1, e1⟩ := st_arr (ty := .long) (fun C h => by cases h) (hg _ ar_long)
  obtain ⟨a2, b2, e2⟩ := st_arr (ty := .byte) (fun C h => by cases h) (hg _ ar_byte)
  obtain ⟨a3, b3, e3⟩ := st_arr (ty := .boolean) (fun C h => by cases h) (hg _ ar_boolean)
  obtain ⟨a4, b4, e4⟩ := st_arq (C := RX5) (hts _ ao_5)
  obtain ⟨a5, b5, e5⟩ := st_arq (C := RX3) (hts _ ao_3)
  refine ⟨(fun k => match k with | 0 => c0 | 1 => c1 | 2 => c2 | 3 => c3 | 4 => c4 | 5 => c5 | 6 => c6 | _ => c7, fun k => match k with | 0 => i0 | 1 => i1 | 2 => i2 | 3 => i3 | 4 => i4 | 5 => i5 | 6 => i6 | _ => i7), fun k => match k with | 0 => a0 | 1 => a1 | 2 => a2 | 3 => a3 | 4 => a4 | _ => a5, ⟨fun k q hq => ?_, fun k q hq => ?_⟩, va_AO.of (hts _ ao_5), va_AO.of (hts _ ao_3), va_Nw.of rfl (hts _ ns_6_17), va_Nw.of rfl (hts _ ns_6_30), va_Nw.of rfl (hts _ ns_6_66)⟩
  · match k, hq with
    | 0, hq => cases hq; exact k0
    | 1, hq => cases hq; exact k1
    | 2, hq => cases hq; exact k2
    | 3, hq => cases hq; exact k3
    | 4, hq => cases hq; exact k4
    | 5, hq => cases hq; exact k5
    | 6, hq => cases hq; exact k6
    | 7, hq => cases hq; exact k7
    | n + 8, hq => simp [vwCl] at hq
  · match k, hq with
    | 0, hq => cases hq; exact ⟨b0, e0⟩
    | 1, hq => cases hq; exact ⟨b1, e1⟩
    | 2, hq => cases hq; exact ⟨b2, e2⟩
    | 3, hq => cases hq; exact ⟨b3, e3⟩
    | 4, hq => cases hq; exact ⟨b4, e4⟩
    | 5, hq => cases hq; exact ⟨b5, e5⟩
    | n + 6, hq => simp [jT] at hq
