/-! ROWS OF JF: texts, ABOVE, Math.abs, copies of longs; the methods of String that texts want. By program (wip/gen/mkext.py). -/
def m_J_len : jM := (9, yJ0_length_8abf5, prog_11_method_54_code, 1, (some .int), fun _ => none)
set_option maxRecDepth 100000 in
theorem ok_J_len : jok m_J_len := ⟨fun _ _ h => (by cases h), jG_in 471 rfl rfl, jG_in 95 rfl rfl, by decide +kernel, by decide +kernel, by decide⟩
set_option maxRecDepth 100000 in
theorem vi_J_len : jvirt m_J_len := ⟨jG_in 469 rfl rfl, jG_in 470 rfl rfl⟩
def m_J_cod : jM := (9, yJ0_coder_7d493, prog_11_method_152_code, 1, (some .byte), fun _ => none)
set_option maxRecDepth 100000 in
theorem ok_J_cod : jok m_J_cod := ⟨fun _ _ h => (by cases h), jG_in 475 rfl rfl, jG_in 95 rfl rfl, by decide +kernel, by decide +kernel, by decide⟩
set_option maxRecDepth 100000 in
theorem vi_J_cod : jvirt m_J_cod := ⟨jG_in 473 rfl rfl, jG_in 474 rfl rfl⟩
def m_J_cha : jM := (9, yJ0_charAt_5068e, prog_11_method_56_code, 2, (some .char), fun _ => none)
set_option maxRecDepth 100000 in
theorem ok_J_cha : jok m_J_cha := ⟨fun _ _ h => (by cases h), jG_in 481 rfl rfl, jG_in 95 rfl rfl, by decide +kernel, by decide +kernel, by decide⟩
set_option maxRecDepth 100000 in
theorem vi_J_cha : jvirt m_J_cha := ⟨jG_in 479 rfl rfl, jG_in 480 rfl rfl⟩
def m_J_la1 : jM := (9, yJ0_isLatin1_aae02, prog_11_method_154_code, 1, (some .boolean), fun _ => none)
set_option maxRecDepth 100000 in
theorem ok_J_la1 : jok m_J_la1 := ⟨fun _ _ h => (by cases h), jG_in 485 rfl rfl, jG_in 95 rfl rfl, by decide +kernel, by decide +kernel, by decide⟩
set_option maxRecDepth 100000 in
theorem vi_J_la1 : jvirt m_J_la1 := ⟨jG_in 483 rfl rfl, jG_in 484 rfl rfl⟩
def m_J_ci : jM := (9, yJ0_checkIndex_df160, prog_11_method_155_code, 2, none, fun _ => none)
set_option maxRecDepth 100000 in
theorem ok_J_ci : jok m_J_ci := ⟨fun _ _ h => (by cases h), jG_in 491 rfl rfl, jG_in 95 rfl rfl, by decide +kernel, by decide +kernel, by decide⟩
set_option maxRecDepth 100000 in
theorem st_J_ci : jstat m_J_ci := jG_in 490 rfl rfl
def m_J_lch : jM := (9, yJ1_charAt_3b067, prog_12_method_2_code, 2, (some .char), fun _ => none)
set_option maxRecDepth 100000 in
theorem ok_J_lch : jok m_J_lch := ⟨fun _ _ h => (by cases h), jG_in 488 rfl rfl, jG_in 96 rfl rfl, by decide +kernel, by decide +kernel, by decide⟩
set_option maxRecDepth 100000 in
theorem st_J_lch : jstat m_J_lch := jG_in 487 rfl rfl
def m_J_pci : jM := (9, yJ3_checkIndex_8e157, prog_15_method_11_code, 3, (some .int), fun _ => none)
set_option maxRecDepth 100000 in
theorem ok_J_pci : jok m_J_pci := ⟨fun _ _ h => (by cases h), jG_in 496 rfl rfl, jG_in 97 rfl rfl, by decide +kernel, by decide +kernel, by decide⟩
set_option maxRecDepth 100000 in
theorem st_J_pci : jstat m_J_pci := jG_in 495 rfl rfl
set_option maxRecDepth 100000 in
theorem lk_cod : Cond.methodLink "java/lang/String" 335 yJ0_coder_7d493 ∈ jG := jG_in 472 rfl rfl
set_option maxRecDepth 100000 in
theorem lk_la1 : Cond.methodLink "java/lang/String" 492 yJ0_isLatin1_aae02 ∈ jG := jG_in 482 rfl rfl
set_option maxRecDepth 100000 in
theorem lk_lch : Cond.methodLink "java/lang/String" 495 yJ1_charAt_3b067 ∈ jG := jG_in 486 rfl rfl
set_option maxRecDepth 100000 in
theorem lk_ci : Cond.methodLink "java/lang/StringLatin1" 9 yJ0_checkIndex_df160 ∈ jG := jG_in 489 rfl rfl
set_option maxRecDepth 100000 in
theorem lk_pci : Cond.methodLink "java/lang/String" 1059 yJ3_checkIndex_8e157 ∈ jG := jG_in 494 rfl rfl
set_option maxRecDepth 100000 in
theorem lf_cmp : Cond.fieldLink "java/lang/String" 38 "java/lang/String" "COMPACT_STRINGS" "Z" ∈ jG := jG_in 476 rfl rfl
set_option maxRecDepth 100000 in
theorem lf_val : Cond.fieldLink "java/lang/String" 9 "java/lang/String" "value" "[B" ∈ jG := jG_in 1344 rfl rfl
set_option maxRecDepth 100000 in
theorem lf_cod : Cond.fieldLink "java/lang/String" 15 "java/lang/String" "coder" "B" ∈ jG := jG_in 1345 rfl rfl
set_option maxRecDepth 100000 in
theorem lf_sio : Cond.fieldLink "java/lang/String" 1053 "jdk/internal/util/Preconditions" "SIOOBE_FORMATTER" "Ljava/util/function/BiFunction;" ∈ jG := jG_in 492 rfl rfl
set_option maxRecDepth 100000 in
theorem ab_st : Cond.static ⟨"java/lang/Math", "abs", "(I)I"⟩ ∈ jG := jG_in 689 rfl rfl
set_option maxRecDepth 100000 in
theorem ab_ini : Cond.initialized "java/lang/Math" ∈ jG := jG_in 100 rfl rfl
set_option maxRecDepth 100000 in
theorem ab_code : Cond.code Lib.Math.abs.name Lib.Math.abs.code 1 (some .int) ∈ jG := jG_in 690 rfl rfl
def stL (z : Nat) : Option Int32 := if 2 ≤ z then (oxL[z - 2]?).map (fun n => Int32.ofNat n) else none
def stA (z : Nat) (i : Int32) : Option Int32 := if 2 ≤ z ∧ ¬ i < 0 then (oxB.getD (z - 2) [])[i.toNatClampNeg]? else none
def abI (x : Int32) : Int32 := if 0 ≤ x then x else 0 - x
def jcpyL (xs ys : List Int64) (sp dp n : Nat) : List Int64 := (List.range ys.length).map (fun k => if dp ≤ k ∧ k < dp + n then xs.getD (sp + (k - dp)) 0 else ys.getD k 0)
theorem jcpyL_eq {xs ys : List Int64} {sp dp n : Nat} (h : dp + n ≤ ys.length) : (fun j => (jcpyL xs ys sp dp n).getD j 0) = va_cpy (fun j => xs.getD j 0) (fun j => ys.getD j 0) sp dp n := by
  funext j
  rw [List.getD_eq_getElem?_getD]
  unfold jcpyL va_cpy
  rw [List.getElem?_map]
  by_cases hj : j < ys.length
  · rw [List.getElem?_range hj]; rfl
  · rw [List.getElem?_eq_none (by simpa using hj), if_neg (by omega)]
    show (0 : Int64) = ys.getD j 0
    rw [List.getD_eq_getElem?_getD, List.getElem?_eq_none (by omega)]; rfl
def cpL (m : mM) (a0 : Nat) (sp : Int32) (a1 : Nat) (dp n : Int32) : Option mM := if ¬ sp < 0 ∧ ¬ dp < 0 ∧ ¬ n < 0 ∧ sp.toNatClampNeg + n.toNatClampNeg ≤ (mL m a0).length ∧ dp.toNatClampNeg + n.toNatClampNeg ≤ (mL m a1).length then some (wL m a1 (jcpyL (mL m a0) (mL m a1) sp.toNatClampNeg dp.toNatClampNeg n.toNatClampNeg)) else none
section FEXT0
variable {M M' : jM} {on : Bool} {L : Nat} {xs : Nat → Int32} {d d' kc ks pc : Nat} {lv : List (Nat × Value)} {st : List Value} {h : jH} {Q Q' : Option Value → jH → Prop}
theorem J_i2c {x v : Int32} (hv : (x.toUInt32 % 65536).toInt32 = v) (hd : decode M.2.2.1 pc = .ok (.i2c, 1)) (k : J M on L xs d kc ks (pc + 1) lv (.int v :: st) h Q) : J M on L xs d kc ks pc lv (.int x :: st) h Q := J_st (fun hx hb hown hts k => lv_i2c hx hb hd hv k) k
theorem J_ogets {C n ds : String} {idx : Nat} {v : Value} (hnr : jnr v = true) (hl : Cond.fieldLink M.2.1.cls idx C n ds ∈ jG) (hZ : ∀ sb A s H, jO sb A s H → va_Z C n ds (jV sb (fun _ => 0) v) A s H) (hd : decode M.2.2.1 pc = .ok (.getstatic idx, 3)) (k : J M on L xs d kc ks (pc + 3) lv (v :: st) h Q) : J M on L xs d kc ks pc lv st h Q := by
  intro p l e R s m args below meth c D dA sb A H0 n0 ad0 CB SB QQ hF hX hA hR hT ad H locs cells slots ls hw hls h4 h5
  obtain ⟨hX1, hO, rfl⟩ := hX
  have hk := k p l e R s m args below meth c D dA sb A s.heap n0 ad0 CB SB QQ hF ⟨hX1, hO, rfl⟩ hA hR hT ad H locs cells slots ls hw hls h4 h5
  rw [List.map_cons, jV_nr (ad' := fun _ => 0) hnr] at hk
  exact va_gets hF.1 hF.2.1 (hZ sb A s _ hO) hw.2.2.1 hF.2.2.2.1 (hF.2.2.2.2.1 _ hl) (fun _ z => z) hd hk
theorem J_osio {idx : Nat} (hl : Cond.fieldLink M.2.1.cls idx "jdk/internal/util/Preconditions" "SIOOBE_FORMATTER" "Ljava/util/function/BiFunction;" ∈ jG) (hd : decode M.2.2.1 pc = .ok (.getstatic idx, 3)) (k : ∀ v, v = .null ∨ v = .retAddr 50 → J M on L xs d kc ks (pc + 3) lv (v :: st) h Q) : J M on L xs d kc ks pc lv st h Q := by
  intro p l e R s m args below meth c D dA sb A H0 n0 ad0 CB SB QQ hF hX hA hR hT ad H locs cells slots ls hw hls h4 h5
  obtain ⟨hX1, hO, rfl⟩ := hX
  obtain ⟨-, -, -, -, -, hS⟩ := id hO
  rcases hS with hZ | hZ
  · exact va_gets hF.1 hF.2.1 hZ hw.2.2.1 hF.2.2.2.1 (hF.2.2.2.2.1 _ hl) (fun _ z => z) hd (k _ (Or.inl rfl) p l e R s m args below meth c D dA sb A s.heap n0 ad0 CB SB QQ hF ⟨hX1, hO, rfl⟩ hA hR hT ad H locs cells slots ls hw hls h4 h5)
  · exact va_gets hF.1 hF.2.1 hZ hw.2.2.1 hF.2.2.2.1 (hF.2.2.2.2.1 _ hl) (fun _ z => z) hd (k _ (Or.inr rfl) p l e R s m args below meth c D dA sb A s.heap n0 ad0 CB SB QQ hF ⟨hX1, hO, rfl⟩ hA hR hT ad H locs cells slots ls hw hls h4 h5)
theorem J_ogetf {n ds : String} {idx z : Nat} {v : Value} (hnr : jnr v = true) (hl : Cond.fieldLink M.2.1.cls idx "java/lang/String" n ds ∈ jG) (hE : ∀ sb A s H, jO sb A s H → va_OF "java/lang/String" n ds (jV sb (fun _ => 0) v) (sb z) A s H) (hd : decode M.2.2.1 pc = .ok (.getfield idx, 3)) (k : J M on L xs d kc ks (pc + 3) lv (v :: st) h Q) : J M on L xs d kc ks pc lv (.retAddr z :: st) h Q := by
  intro p l e R s m args below meth c D dA sb A H0 n0 ad0 CB SB QQ hF hX hA hR hT ad H locs cells slots ls hw hls h4 h5
  obtain ⟨hX1, hO, rfl⟩ := hX
  have hk := k p l e R s m args below meth c D dA sb A s.heap n0 ad0 CB SB QQ hF ⟨hX1, hO, rfl⟩ hA hR hT ad H locs cells slots ls hw hls h4 h5
  rw [List.map_cons, jV_nr (ad' := fun _ => 0) hnr] at hk
  exact vk_getf hF.1 hF.2.1 (hE sb A s _ hO) hw.2.2.1 hF.2.2.2.1 (hF.2.2.2.2.1 _ hl) (fun _ z => z) hd hk
theorem J_oxlen {z N : Nat} {ty : FieldType} {f : Nat → Value} {v : Int32} (hv : Int32.ofNat N = v) (hT0 : ∀ sb A s H, jO sb A s H → va_T ty (sb z) N f A s H) (hd : decode M.2.2.1 pc = .ok (.arraylength, 1)) (k : J M on L xs d kc ks (pc + 1) lv (.int v :: st) h Q) : J M on L xs d kc ks pc lv (.retAddr z :: st) h Q := by
  intro p l e R s m args below meth c D dA sb A H0 n0 ad0 CB SB QQ hF hX hA hR hT ad H locs cells slots ls hw hls h4 h5
  obtain ⟨hX1, hO, rfl⟩ := hX
  exact va_tlen hF.1 hF.2.1 (hT0 sb A s _ hO) hw.2.2.1 hv hd (k p l e R s m args below meth c D dA sb A s.heap n0 ad0 CB SB QQ hF ⟨hX1, hO, rfl⟩ hA hR hT ad H locs cells slots ls hw hls h4 h5)
theorem J_oxti {z N : Nat} {f : Nat → Value} {i x : Int32} (h0 : ¬ i < 0) (hlt : i.toNatClampNeg < N) (hT0 : ∀ sb A s H, jO sb A s H → va_T .int (sb z) N f A s H) (hx : f i.toNatClampNeg = .int x) (hd : decode M.2.2.1 pc = .ok (.iaload, 1)) (k : J M on L xs d kc ks (pc + 1) lv (.int x :: st) h Q) : J M on L xs d kc ks pc lv (.int i :: .retAddr z :: st) h Q := by
  intro p l e R s m args below meth c D dA sb A H0 n0 ad0 CB SB QQ hF hX hA hR hT ad H locs cells slots ls hw hls h4 h5
  obtain ⟨hX1, hO, rfl⟩ := hX
  exact va_ti hF.1 hF.2.1 (hT0 sb A s _ hO) hw.2.2.1 (fun q => q.elim h0 (fun q => Nat.not_lt.mpr q hlt)) hx hd (k p l e R s m args below meth c D dA sb A s.heap n0 ad0 CB SB QQ hF ⟨hX1, hO, rfl⟩ hA hR hT ad H locs cells slots ls hw hls h4 h5)
theorem J_oxtb {z N : Nat} {f : Nat → Value} {i x : Int32} (h0 : ¬ i < 0) (hlt : i.toNatClampNeg < N) (hT0 : ∀ sb A s H, jO sb A s H → va_T .byte (sb z) N f A s H) (hx : f i.toNatClampNeg = .int x) (hd : decode M.2.2.1 pc = .ok (.baload, 1)) (k : J M on L xs d kc ks (pc + 1) lv (.int x :: st) h Q) : J M on L xs d kc ks pc lv (.int i :: .retAddr z :: st) h Q := by
  intro p l e R s m args below meth c D dA sb A H0 n0 ad0 CB SB QQ hF hX hA hR hT ad H locs cells slots ls hw hls h4 h5
  obtain ⟨hX1, hO, rfl⟩ := hX
  exact va_tb hF.1 hF.2.1 (hT0 sb A s _ hO) hw.2.2.1 (fun q => q.elim h0 (fun q => Nat.not_lt.mpr q hlt)) hx hd (k p l e R s m args below meth c D dA sb A s.heap n0 ad0 CB SB QQ hF ⟨hX1, hO, rfl⟩ hA hR hT ad H locs cells slots ls hw hls h4 h5)
theorem J_callO {idx n i : Nat} {As : List Value} (hi : i < 7) (hcl : M'.2.1.cls = "java/lang/String") (hok : jok M') (hv : jvirt M') (hl : Cond.methodLink M.2.1.cls idx M'.2.1 ∈ jG) (hpn : (parseMethodDescriptor M'.2.1.desc).map (fun d => d.parameters.length) = some n) (hn : As.length = n) (hs : (st.map fun v => v.category).sum ≤ 8)
    (hd' : d' + 1 ≤ d) (hd : decode M.2.2.1 pc = .ok (.invokevirtual idx, 3)) (hc : jCt M' d' 0 0 (.retAddr (i + 2) :: As) h Q')
    (k : ∀ r h', Q' r h' → h.length ≤ h'.length → J M on L xs d kc ks (pc + 3) lv (r.toList ++ st) h' Q) : J M on L xs d kc ks pc lv (As.reverse ++ .retAddr (i + 2) :: st) h Q := by
  have := J_run (kc := kc) (ks := ks) (on := on) (L := L) (xs := xs) (stk := As.reverse ++ .retAddr (i + 2) :: st) (pc := pc) (Q := Q) (As := .retAddr (i + 2) :: As) (M := M) (lv := lv) (st := st) (Or.inl rfl) hc hd' hok.2.2.2.2.2 ?_ k
  · simpa using this
  intro p l e R s m args below meth c D dA sb ad H locs cells slots ls hF hM hP hD hO hsz hr1 hr2 hr3
  have hT : GoodIn jG (wsV M.2.1.cls idx M'.2.1.cls M'.2.1 (jWords M')) := fun w hw => by
    rcases List.mem_append.mp hw with hw | hw
    · simp only [List.mem_cons, List.not_mem_nil, or_false] at hw
      rcases hw with rfl | rfl | rfl | rfl
      · exact jG_good _ hl
      · exact jG_good _ hv.1
      · exact jG_good _ hv.2
      · exact jG_good _ hok.2.2.1
    · exact jGoodWs hok w hw
  have hcw := cwV (R := R) (rm := jRoom d' 0 0) (mc := 0) (ms := 0) (maxL := M'.2.2.2.1) (bytes := M'.2.2.1) (ret := M'.2.2.2.2.1) n hF.2.2.2.2.1 hT rfl rfl rfl ⟨rfl, hok.2.2.2.2.1.1, hok.2.2.2.2.1.2, hpn⟩ ⟨hr1, hr2⟩
  have hrv : ∃ cell : Cell, H[sb (i + 2)]? = some cell ∧ cell.vm.isStatics = false ∧ s.vm.findClass M'.2.1.cls = some cell.cls := by
    obtain ⟨-, -, -, -, h5, -⟩ := hO
    obtain ⟨cell, h1, h2, h3, -⟩ := (h5.1 i hi).1
    exact ⟨cell, h1, h2, by rw [hcl]; exact h3⟩
  refine ⟨_, va_runV (As := As.map (jV sb ad)) (rest := st.map (jV sb ad)) (b := sb (i + 2)) ⟨hF.1, hF.2.1, hF.2.2.1, hF.2.2.2.1, hF.2.2.2.2.1⟩ hM hcw ⟨jBlind, hrv, fun U hU hW => ⟨rfl, by rw [hU], by rw [hU]; exact hP, jK.moved hW hF.2.2.2.2.2.1, hD, by rw [hU]; exact jO.moved hW hO⟩⟩ rfl (by rw [List.length_map]; exact hn) hsz ?_ (lv_room (jSum hs)) hd hr3⟩
  show (As.reverse ++ Value.retAddr (i + 2) :: st).map (jV sb ad) = _
  rw [List.map_append, List.map_reverse]; rfl
theorem J_callS2 {idx n : Nat} {As : List Value} (hok : jok M') (hv : jstat M') (hl : Cond.methodLink M.2.1.cls idx M'.2.1 ∈ jG) (hpn : (parseMethodDescriptor M'.2.1.desc).map (fun d => d.parameters.length) = some n) (hn : As.length = n) (hs : (st.map fun v => v.category).sum ≤ 8)
    (hd' : d' + 1 ≤ d) (hd : decode M.2.2.1 pc = .ok (.invokestatic idx, 3)) (hc : jCt M' d' 0 0 As h Q')
    (k : ∀ r h', Q' r h' → h.length ≤ h'.length → J M on L xs d kc ks (pc + 3) lv (r.toList ++ st) h' Q) : J M on L xs d kc ks pc lv (As.reverse ++ st) h Q := by
  have := J_run (kc := kc) (ks := ks) (on := on) (L := L) (xs := xs) (stk := As.reverse ++ st) (pc := pc) (Q := Q) (As := As) (M := M) (lv := lv) (st := st) (Or.inl rfl) hc hd' hok.2.2.2.2.2 ?_ k
  · simpa using this
  intro p l e R s m args below meth c D dA sb ad H locs cells slots ls hF hM hP hD hO hsz hr1 hr2 hr3
  have hT : GoodIn jG (va_wsS M.2.1.cls idx M'.2.1 (jWords M')) := fun w hw => by
    rcases List.mem_append.mp hw with hw | hw
    · simp only [List.mem_cons, List.not_mem_nil, or_false] at hw
      rcases hw with rfl | rfl | rfl
      · exact jG_good _ hl
      · exact jG_good _ hv
      · exact jG_good _ hok.2.2.1
    · exact jGoodWs hok w hw
  have hcw := va_cwS (R := R) (rm := jRoom d' 0 0) (mc := 0) (ms := 0) (maxL := M'.2.2.2.1) (bytes := M'.2.2.1) (ret := M'.2.2.2.2.1) n hF.2.2.2.2.1 hT rfl rfl rfl ⟨hok.2.2.2.2.1.1, hok.2.2.2.2.1.2, hpn⟩ ⟨hr1, hr2⟩
  refine ⟨_, va_runS (As := As.map (jV sb ad)) (rest := st.map (jV sb ad)) ⟨hF.1, hF.2.1, hF.2.2.1, hF.2.2.2.1, hF.2.2.2.2.1⟩ hM hcw ⟨jBlind, fun U hU hW => ⟨rfl, by rw [hU], by rw [hU]; exact hP, jK.moved hW hF.2.2.2.2.2.1, hD, by rw [hU]; exact jO.moved hW hO⟩⟩ rfl (by rw [List.length_map]; exact hn) hsz ?_ (lv_room (jSum hs)) hd hr3⟩
  show (As.reverse ++ st).map (jV sb ad) = _
  rw [List.map_append, List.map_reverse]
theorem ox_val {i : Nat} (hi : i < 7) : ∀ sb A s H, jO sb A s H → va_OF "java/lang/String" "value" "[B" (jV sb (fun _ => 0) (.retAddr (i + 20))) (sb (i + 2)) A s H := fun _ _ _ _ h => (h.2.2.2.2.1.1 i hi).2.2.1
theorem ox_cod {i : Nat} (hi : i < 7) : ∀ sb A s H, jO sb A s H → va_OF "java/lang/String" "coder" "B" (jV sb (fun _ => 0) (.int 0)) (sb (i + 2)) A s H := fun _ _ _ _ h => (h.2.2.2.2.1.1 i hi).2.1
theorem ox_row {i : Nat} (hi : i < 7) : ∀ sb A s H, jO sb A s H → va_T .byte (sb (i + 20)) (oxL.getD i 0) (fun j => .int ((oxB.getD i []).getD j 0)) A s H := fun _ _ _ _ h => (h.2.2.2.2.1.1 i hi).2.2.2
theorem ox_cmp : ∀ sb A s H, jO sb A s H → va_Z "java/lang/String" "COMPACT_STRINGS" "Z" (jV sb (fun _ => 0) (.int 1)) A s H := fun _ _ _ _ h => h.2.2.1
theorem ct_cod {i : Nat} (hi : i < 7) : jCt m_J_cod 1 0 0 [.retAddr (i + 2)] h (fun r h' => r = some (.int 0) ∧ h' = h) := by
  refine jCt_of ok_J_cod (fun _ _ => Nat.le_of_ble_eq_true rfl) ?_
  show J _ _ _ _ _ _ _ _ [(0, .retAddr (i + 2))] _ _ _
  refine J_ogets (v := .int 1) rfl lf_cmp ox_cmp (by decide +kernel) ?_
  refine J_if_eq (tgt := 13) (off := 10) (by decide) (by decide +kernel) (fun z => absurd (show (1 : Int32) = 0 from z) (by decide)) (fun _ => ?_)
  refine J_sload_n (i := 0) (a := 0) rfl rfl (by decide +kernel) ?_
  refine J_ogetf (v := .int 0) rfl lf_cod (ox_cod hi) (by decide +kernel) ?_
  refine J_goto (tgt := 14) (off := 4) (by decide) (by decide +kernel) ?_
  exact J_iret rfl rfl (by decide +kernel) ⟨rfl, rfl⟩
theorem ct_la1 {i : Nat} (hi : i < 7) : jCt m_J_la1 1 0 0 [.retAddr (i + 2)] h (fun r h' => r = some (.int 1) ∧ h' = h) := by
  refine jCt_of ok_J_la1 (fun _ _ => Nat.le_of_ble_eq_true rfl) ?_
  show J _ _ _ _ _ _ _ _ [(0, .retAddr (i + 2))] _ _ _
  refine J_ogets (v := .int 1) rfl lf_cmp ox_cmp (by decide +kernel) ?_
  refine J_if_eq (tgt := 17) (off := 14) (by decide) (by decide +kernel) (fun z => absurd (show (1 : Int32) = 0 from z) (by decide)) (fun _ => ?_)
  refine J_sload_n (i := 0) (a := 0) rfl rfl (by decide +kernel) ?_
  refine J_ogetf (v := .int 0) rfl lf_cod (ox_cod hi) (by decide +kernel) ?_
  refine J_if_ne (tgt := 17) (off := 7) (by decide) (by decide +kernel) (fun z => absurd rfl z) (fun _ => ?_)
  refine J_iconst (n := 1) (v := 1) (by decide) (by decide +kernel) ?_
  refine J_goto (tgt := 18) (off := 4) (by decide) (by decide +kernel) ?_
  exact J_iret rfl rfl (by decide +kernel) ⟨rfl, rfl⟩
theorem ct_len {i : Nat} (hi : i < 7) : jCt m_J_len 2 0 0 [.retAddr (i + 2)] h (fun r h' => r = some (.int (Int32.ofNat (oxL.getD i 0))) ∧ h' = h) := by
  have hs : ∀ i, i < 7 → (Int32.ofNat (oxL.getD i 0)) >>> ((0 : Int32) &&& 31) = Int32.ofNat (oxL.getD i 0) := by decide
  refine jCt_of ok_J_len (fun _ _ => Nat.le_of_ble_eq_true rfl) ?_
  show J _ _ _ _ _ _ _ _ [(0, .retAddr (i + 2))] _ _ _
  refine J_sload_n (i := 0) (a := 0) rfl rfl (by decide +kernel) ?_
  refine J_ogetf (v := .retAddr (i + 20)) rfl lf_val (ox_val hi) (by decide +kernel) ?_
  refine J_oxlen rfl (ox_row hi) (by decide +kernel) ?_
  refine J_sload_n (i := 0) (a := 0) rfl rfl (by decide +kernel) ?_
  refine J_callO (M' := m_J_cod) (As := []) hi rfl ok_J_cod vi_J_cod lk_cod (n := 0) (by decide +kernel) rfl (Nat.le_of_ble_eq_true rfl) (Nat.le_refl _) (by decide +kernel) (ct_cod hi) (fun r h' hq _ => ?_)
  obtain ⟨rfl, rfl⟩ := hq
  show J _ _ _ _ _ _ _ _ _ [.int 0, .int (Int32.ofNat (oxL.getD i 0))] _ _
  refine J_ishr (by decide +kernel) ?_
  rw [hs i hi]
  exact J_iret rfl rfl (by decide +kernel) ⟨rfl, rfl⟩
theorem ct_pci {x n : Int32} {v : Value} (hv : v = .null ∨ v = .retAddr 50) (h0 : ¬ x < 0) (hx : x < n) : jCt m_J_pci 1 0 0 [.int x, .int n, v] h (fun r h' => r = some (.int x) ∧ h' = h) := by
  refine jCt_of ok_J_pci (fun _ _ => by rcases hv with rfl | rfl <;> exact Nat.le_of_ble_eq_true rfl) ?_
  have e : lv_args 0 [.int x, .int n, v] = [(0, .int x), (1, .int n), (2, v)] := by rcases hv with rfl | rfl <;> rfl
  rw [e]
  refine J_iload_n (i := 0) (a := 0) rfl rfl (by decide +kernel) ?_
  refine J_if_lt (tgt := 9) (off := 8) (by decide) (by decide +kernel) (fun z => absurd z h0) (fun _ => ?_)
  refine J_iload_n (i := 0) (a := 0) rfl rfl (by decide +kernel) ?_
  refine J_iload_n (i := 1) (a := 1) rfl rfl (by decide +kernel) ?_
  refine J_icmp_lt (tgt := 16) (off := 10) (by decide) (by decide +kernel) (fun _ => ?_) (fun z => absurd hx z)
  refine J_iload_n (i := 0) (a := 0) rfl rfl (by decide +kernel) ?_
  exact J_iret rfl rfl (by decide +kernel) ⟨rfl, rfl⟩
theorem ct_ci {x n : Int32} (h0 : ¬ x < 0) (hx : x < n) : jCt m_J_ci 2 0 0 [.int x, .int n] h (fun r h' => r = none ∧ h' = h) := by
  refine jCt_of ok_J_ci (fun _ _ => Nat.le_of_ble_eq_true rfl) ?_
  show J _ _ _ _ _ _ _ _ [(0, .int x), (1, .int n)] _ _ _
  refine J_iload_n (i := 0) (a := 0) rfl rfl (by decide +kernel) ?_
  refine J_iload_n (i := 1) (a := 1) rfl rfl (by decide +kernel) ?_
  refine J_osio lf_sio (by decide +kernel) (fun v hv => ?_)
  refine J_callS2 (M' := m_J_pci) (As := [.int x, .int n, v]) (st := []) ok_J_pci st_J_pci lk_pci (n := 3) (by decide +kernel) rfl (Nat.le_of_ble_eq_true rfl) (Nat.le_refl _) (by decide +kernel) (ct_pci hv h0 hx) (fun r h' hq _ => ?_)
  obtain ⟨rfl, rfl⟩ := hq
  show J _ _ _ _ _ _ _ _ _ [.int x] _ _
  refine J_pop rfl (by decide +kernel) ?_
  exact J_vret rfl (by decide +kernel) ⟨rfl, rfl⟩
theorem ox_by : ∀ i, i < 7 → (oxL.getD i 0 = (oxB.getD i []).length ∧ ∀ b ∈ oxB.getD i [], ((b &&& 255).toUInt32 % 65536).toInt32 = b ∧ narrow .char (.int b) = .int b) := by decide +kernel
theorem ox_lt {x : Int32} {n : Nat} (hn : n < 100) (h0 : ¬ x < 0) (h : x.toNatClampNeg < n) : x < Int32.ofNat n := by
  have e : x.toNatClampNeg = x.toInt.toNat := rfl
  have h1 : 0 ≤ x.toInt := by
    have e0 : (0 : Int32).toInt = 0 := rfl
    rw [Int32.lt_iff_toInt_lt, e0] at h0
    omega
  rw [Int32.lt_iff_toInt_lt, Int32.toInt_ofNat_of_lt (by omega)]
  omega
theorem ct_lch {i : Nat} {x b : Int32} (hi : i < 7) (h0 : ¬ x < 0) (hb : (oxB.getD i [])[x.toNatClampNeg]? = some b) : jCt m_J_lch 3 0 0 [.retAddr (i + 20), .int x] h (fun r h' => r = some (.int b) ∧ h' = h) := by
  obtain ⟨g1, g2⟩ := ox_by i hi
  have hlt : x.toNatClampNeg < oxL.getD i 0 := by rw [g1]; exact (List.getElem?_eq_some_iff.mp hb).1
  have hl : ∀ i, i < 7 → oxL.getD i 0 < 100 := by decide
  obtain ⟨g3, g4⟩ := g2 b (List.mem_of_getElem? hb)
  refine jCt_of ok_J_lch (fun _ _ => Nat.le_of_ble_eq_true rfl) ?_
  show J _ _ _ _ _ _ _ _ [(0, .retAddr (i + 20)), (1, .int x)] _ _ _
  refine J_iload_n (i := 1) (a := 1) rfl rfl (by decide +kernel) ?_
  refine J_sload_n (i := 0) (a := 0) rfl rfl (by decide +kernel) ?_
  refine J_oxlen rfl (ox_row hi) (by decide +kernel) ?_
  refine J_callS2 (M' := m_J_ci) (As := [.int x, .int (Int32.ofNat (oxL.getD i 0))]) (st := []) ok_J_ci st_J_ci lk_ci (n := 2) (by decide +kernel) rfl (Nat.le_of_ble_eq_true rfl) (Nat.le_refl _) (by decide +kernel) (ct_ci h0 (ox_lt (hl i hi) h0 hlt)) (fun r h' hq _ => ?_)
  obtain ⟨rfl, rfl⟩ := hq
  show J _ _ _ _ _ _ _ _ _ [] _ _
  refine J_sload_n (i := 0) (a := 0) rfl rfl (by decide +kernel) ?_
  refine J_iload_n (i := 1) (a := 1) rfl rfl (by decide +kernel) ?_
  refine J_oxtb (x := b) h0 hlt (ox_row hi) (by
    show Value.int ((oxB.getD i []).getD x.toNatClampNeg 0) = _
    rw [List.getD_eq_getElem?_getD, hb]; rfl) (by decide +kernel) ?_
  refine J_sipush (n := 255) (v := 255) (by decide) (by decide +kernel) ?_
  refine J_iand (by decide +kernel) ?_
  refine J_i2c g3 (by decide +kernel) ?_
  exact J_iret rfl g4 (by decide +kernel) ⟨rfl, rfl⟩
theorem ct_cha {i : Nat} {x b : Int32} (hi : i < 7) (h0 : ¬ x < 0) (hb : (oxB.getD i [])[x.toNatClampNeg]? = some b) : jCt m_J_cha 4 0 0 [.retAddr (i + 2), .int x] h (fun r h' => r = some (.int b) ∧ h' = h) := by
  obtain ⟨g1, g2⟩ := ox_by i hi
  obtain ⟨g3, g4⟩ := g2 b (List.mem_of_getElem? hb)
  refine jCt_of ok_J_cha (fun _ _ => Nat.le_of_ble_eq_true rfl) ?_
  show J _ _ _ _ _ _ _ _ [(0, .retAddr (i + 2)), (1, .int x)] _ _ _
  refine J_sload_n (i := 0) (a := 0) rfl rfl (by decide +kernel) ?_
  refine J_callO (M' := m_J_la1) (As := []) (st := []) hi rfl ok_J_la1 vi_J_la1 lk_la1 (n := 0) (by decide +kernel) rfl (Nat.le_of_ble_eq_true rfl) (by decide) (by decide +kernel) (ct_la1 hi) (fun r h' hq _ => ?_)
  obtain ⟨rfl, rfl⟩ := hq
  show J _ _ _ _ _ _ _ _ _ [.int 1] _ _
  refine J_if_eq (tgt := 16) (off := 12) (by decide) (by decide +kernel) (fun z => absurd (show (1 : Int32) = 0 from z) (by decide)) (fun _ => ?_)
  refine J_sload_n (i := 0) (a := 0) rfl rfl (by decide +kernel) ?_
  refine J_ogetf (v := .retAddr (i + 20)) rfl lf_val (ox_val hi) (by decide +kernel) ?_
  refine J_iload_n (i := 1) (a := 1) rfl rfl (by decide +kernel) ?_
  refine J_callS2 (M' := m_J_lch) (As := [.retAddr (i + 20), .int x]) (st := []) ok_J_lch st_J_lch lk_lch (n := 2) (by decide +kernel) rfl (Nat.le_of_ble_eq_true rfl) (Nat.le_refl _) (by decide +kernel) (ct_lch hi h0 hb) (fun r h' hq _ => ?_)
  obtain ⟨rfl, rfl⟩ := hq
  show J _ _ _ _ _ _ _ _ _ [.int b] _ _
  exact J_iret rfl g4 (by decide +kernel) ⟨rfl, rfl⟩
end FEXT0
section FEXT
variable {R : Type} {w : Bool} {ι : R → Option Value} {M : jM} {d pc tgt : Nat} {lv : jLv} {st : List Value} {m : mM} {e : fR R}
theorem F_sldc {z i : Nat} {tx : String} (hi : M.2.1.cls = RX4) (hz : ∀ {sb s}, oxR sb s → vk_R RX4 i tx (sb z) s) (hd : decode M.2.2.1 pc = .ok (.ldc i, 2)) (K : JF w ι M d (pc + 2) lv (.retAddr z :: st) m e) : JF w ι M d pc lv st m e := by
  intro r h' he p l e R s mm args below meth c D dA sb A H0 n0 ad0 CB SB QQ hF hX hA hR hT ad H locs cells slots ls hw hls h4 h5
  exact va_ldcS (own := M.2.1.cls) hF.1 hF.2.1 hF.2.2.2.1 (by rw [hi]; exact hz hX.2.1.2.2.2.1) hd (K r h' he p l e R s mm args below meth c D dA sb A H0 n0 ad0 CB SB QQ hF hX hA hR hT ad H locs cells slots ls hw hls h4 h5)
theorem st_app {st : List Value} (hs : (st.map fun v => v.category).sum ≤ 8) : (st.map fun v => v.category).sum ≤ 8 := hs
theorem F_slen {z idx : Nat} {k : Int32 → fR R} (hl : Cond.methodLink M.2.1.cls idx ⟨"java/lang/String", "length", "()I"⟩ ∈ jG) (hs : (st.map fun v => v.category).sum ≤ 8) (hd1 : 3 ≤ d) (hd : decode M.2.2.1 pc = .ok (.invokevirtual idx, 3)) (K : ∀ x, JF w ι M d (pc + 3) lv (.int x :: st) m (k x)) : JF w ι M d pc lv (.retAddr z :: st) m ((stL z).bind k) := fun r h' he => by
  obtain ⟨x, hx, he⟩ := Option.bind_eq_some_iff.mp he
  unfold stL at hx
  split at hx
  · rename_i hz
    obtain ⟨n, h1, rfl⟩ := Option.map_eq_some_iff.mp hx
    have hi : z - 2 < 7 := (List.getElem?_eq_some_iff.mp h1).1
    have e1 : oxL.getD (z - 2) 0 = n := by rw [List.getD_eq_getElem?_getD, h1]; rfl
    have e2 : z = (z - 2) + 2 := by omega
    have hq := ct_len (h := mH w m) hi
    rw [e1] at hq
    rw [e2]
    exact J_callO (M' := m_J_len) (As := []) (n := 0) (d' := 2) hi rfl ok_J_len vi_J_len hl (by decide +kernel) rfl hs (by omega) hd hq (fun r1 h1 hq _ => by
      obtain ⟨rfl, rfl⟩ := hq
      exact K _ r h' he)
  · cases hx
theorem F_sat {z idx : Nat} {i : Int32} {k : Int32 → fR R} (hl : Cond.methodLink M.2.1.cls idx ⟨"java/lang/String", "charAt", "(I)C"⟩ ∈ jG) (hs : (st.map fun v => v.category).sum ≤ 8) (hd1 : 5 ≤ d) (hd : decode M.2.2.1 pc = .ok (.invokevirtual idx, 3)) (K : ∀ x, JF w ι M d (pc + 3) lv (.int x :: st) m (k x)) : JF w ι M d pc lv (.int i :: .retAddr z :: st) m ((stA z i).bind k) := fun r h' he => by
  obtain ⟨x, hx, he⟩ := Option.bind_eq_some_iff.mp he
  unfold stA at hx
  split at hx
  · rename_i hz
    have hi : z - 2 < 7 := by
      rcases Nat.lt_or_ge (z - 2) 7 with q | q
      · exact q
      · rw [List.getD_eq_getElem?_getD, List.getElem?_eq_none (show oxB.length ≤ z - 2 from q)] at hx
        cases hx
    have e2 : z = (z - 2) + 2 := by omega
    rw [e2]
    exact J_callO (M' := m_J_cha) (As := [.int i]) (n := 1) (d' := 4) hi rfl ok_J_cha vi_J_cha hl (by decide +kernel) rfl hs (by omega) hd (ct_cha hi hz.2 hx) (fun r1 h1 hq _ => by
      obtain ⟨rfl, rfl⟩ := hq
      exact K _ r h' he)
  · cases hx
theorem F_gets {idx : Nat} (hl : Cond.fieldLink M.2.1.cls idx RX6 "ABOVE" "[I" ∈ jG) (hd : decode M.2.2.1 pc = .ok (.getstatic idx, 3)) (K : JF w ι M d (pc + 3) lv (.retAddr 1 :: st) m e) : JF w ι M d pc lv st m e := fun r h' he =>
  J_ogets (v := .retAddr 1) rfl hl (fun _ _ _ _ h => h.1) hd (K r h' he)
theorem F_abld {i : Int32} {k : Int32 → fR R} (hd : decode M.2.2.1 pc = .ok (.iaload, 1)) (K : ∀ x, JF w ι M d (pc + 1) lv (.int x :: st) m (k x)) : JF w ι M d pc lv (.int i :: .retAddr 1 :: st) m ((gA oxA i).bind k) := fun r h' he => by
  obtain ⟨x, hx, he⟩ := Option.bind_eq_some_iff.mp he
  unfold gA at hx
  split at hx
  · rename_i h0
    have hlt : i.toNatClampNeg < 7 := (List.getElem?_eq_some_iff.mp hx).1
    refine J_oxti (N := 7) (f := fun j => .int (oxA.getD j 0)) h0 hlt (fun _ _ _ _ h => h.2.1) (by
      show Value.int (oxA.getD i.toNatClampNeg 0) = _
      rw [List.getD_eq_getElem?_getD, hx]; rfl) hd (K x r h' he)
  · cases hx
theorem F_abs {idx : Nat} {x : Int32} (hl : Cond.methodLink M.2.1.cls idx ⟨"java/lang/Math", "abs", "(I)I"⟩ ∈ jG) (hs : (st.map fun v => v.category).sum ≤ 8) (hd1 : 1 ≤ d) (hd : decode M.2.2.1 pc = .ok (.invokestatic idx, 3)) (K : JF w ι M d (pc + 3) lv (.int (abI x) :: st) m e) : JF w ι M d pc lv (.int x :: st) m e := by
  intro r h' he p l e R s mm args below meth c D dA sb A H0 n0 ad0 CB SB QQ hF hX hA hR hT ad H locs cells slots ls hw hls h4 h5
  have hmul : 1 * jK0 ≤ d * jK0 := Nat.mul_le_mul_right _ hd1
  have hj : jK0 = 40 := rfl
  have hsm := jSum (sb := sb) (ad := ad) hs
  exact va_mabs hF.1 hF.2.1 (hF.2.2.1.trans hls.1.symm) hF.2.2.2.1 (hF.2.2.2.2.1 _ hl) (hF.2.2.2.2.1 _ ab_st) (hF.2.2.2.2.1 _ ab_ini) (hF.2.2.2.2.1 _ ab_code) (by have := hR.1; omega) (by have := hR.2.1; omega) (by have := hR.2.2.1; omega) (by have := hR.2.2.2; omega) hd (K r h' he p l e R s mm args below meth c D dA sb A H0 n0 ad0 CB SB QQ hF hX hA hR hT ad H locs cells slots ls hw hls h4 h5)
theorem F_copyl {idx a0 a1 : Nat} {sp dp n : Int32} {k : mM → fR R} (h0 : isA w 1 a0 = true) (h1 : isA w 1 a1 = true) (hl : Cond.methodLink M.2.1.cls idx arraycopyName ∈ jG) (hs : (st.map fun v => v.category).sum ≤ 8) (hd1 : 1 ≤ d) (hd : decode M.2.2.1 pc = .ok (.invokestatic idx, 3)) (K : ∀ m1, JF w ι M d (pc + 3) lv st m1 (k m1)) : JF w ι M d pc lv (.int n :: .int dp :: .ref a1 :: .int sp :: .ref a0 :: st) m ((cpL m a0 sp a1 dp n).bind k) := fun r h' he => by
  obtain ⟨m1, hx, he⟩ := Option.bind_eq_some_iff.mp he
  unfold cpL at hx
  split at hx
  · rename_i hc
    obtain ⟨c1, c2, c3, c6, c7⟩ := hc
    cases hx
    have hk := K _ r h' he
    rw [← mH_wL (isA_ok h1)] at hk
    intro p l e R s mm args below meth c D dA sb A H0 n0 ad0 CB SB QQ hF hX hA hR hT ad H locs cells slots ls hw hls h4 h5
    obtain ⟨w1, w2, w3, w4, w5, w6⟩ := hw
    have hroom : nativeFrameWords "java/lang/System" "arraycopy" 5 + 11 ≤ 18 := by decide +kernel
    have hmul : 1 * jK0 ≤ d * jK0 := Nat.mul_le_mul_right _ hd1
    have hj : jK0 = 40 := rfl
    have hcat := jSum (sb := sb) (ad := ad) hs
    refine va_copyl hF.1 hF.2.1 (hF.2.2.1.trans hls.1.symm) hF.2.2.2.1 (hF.2.2.2.2.1 _ hl) (hF.2.2.2.2.1 _ ac_nat) (hF.2.2.2.2.1 _ ac_stat) (hF.2.2.2.2.1 _ ac_ini) hF.2.2.2.2.2.1.1 w1 w2 w3 a0 a1 1 1 (jWs_get (mE_rowL h0)) (jWs_get (mE_rowL h1)) (jT_at (by decide)) (jT_at (by decide)) rfl c1 c2 c3 c6 c7 (fun _ _ => rfl) (by have := hR.1; omega) (by have := hR.2.1; omega) hd (fun H1 locs1 x1 x2 x3 => ?_)
    have e1 : (jWs sb dA ad (mH w m)).set a1 (ad a1, jE sb dA ad (.inl (1, .inr (.inl (jcpyL (mL m a0) (mL m a1) sp.toNatClampNeg dp.toNatClampNeg n.toNatClampNeg))))) = jWs sb dA ad ((mH w m).set a1 (.inl (1, .inr (.inl (jcpyL (mL m a0) (mL m a1) sp.toNatClampNeg dp.toNatClampNeg n.toNatClampNeg))))) := jWs_set
    rw [show jE sb dA ad (.inl (1, .inr (.inl (jcpyL (mL m a0) (mL m a1) sp.toNatClampNeg dp.toNatClampNeg n.toNatClampNeg)))) = .inl (dA 1, (mL m a1).length, .inr (.inl (fun j => (jcpyL (mL m a0) (mL m a1) sp.toNatClampNeg dp.toNatClampNeg n.toNatClampNeg).getD j 0))) by
      show (Sum.inl (dA 1, (jcpyL (mL m a0) (mL m a1) _ _ _).length, _) : va_E) = Sum.inl (dA 1, (mL m a1).length, _)
      rw [show (jcpyL (mL m a0) (mL m a1) sp.toNatClampNeg dp.toNatClampNeg n.toNatClampNeg).length = (mL m a1).length by simp [jcpyL]], jcpyL_eq c7] at e1
    rw [e1] at x1 x2
    exact hk p l e R s mm args below meth c D dA sb A H0 n0 ad0 CB SB QQ hF hX hA hR hT ad H1 locs1 cells slots ls ⟨x1, x2, x3, by simpa using w4, w5, w6⟩ hls h4 h5
  · cases hx
end FEXT
