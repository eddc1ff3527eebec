/-! THE LAW -/
abbrev zL : List (Nat × Value) := [(3, .int 0), (2, .ref 94), (1, .ref 0), (0, .retAddr 0)]
def hN2 : jH := [] ++ (hN0.map (jSh ([] : jH).length) ++ (hM0.map (jSh 94) ++ []))
set_option maxRecDepth 1000000 in
theorem hN2_eq : hN1 = hN2 := jqH_ok (by decide +kernel)
def lawQ : Option Value → jH → Prop := fun v _ => v = some (.int 1)
theorem jSumN : (([] : List Value).map fun v => v.category).sum ≤ 8 := by decide
section LAW
variable {xs : Nat → Int32} {kc ks : Nat}
theorem law_end {lv : List (Nat × Value)} {h : jH} : J m_L_law true 6 xs 20 kc ks 1315 lv [] h lawQ := by
  refine J_iconst (v := 1) (by decide) (dk_L_law 1315 _ rfl) ?_
  exact J_iret rfl rfl (dk_L_law 1316 _ rfl) rfl
theorem law_next {h : jH} : J m_L_law true 6 xs 20 kc ks 1309 zL [] h lawQ := by
  refine J_iinc (i := 3) (v := 6) rfl (by decide) (by decide) (dk_L_law 1309 _ rfl) ?_
  refine J_goto (tgt := 18) (by decide) (dk_L_law 1312 _ rfl) ?_
  show J _ _ _ _ _ _ _ _ [(3, .int 6), (2, .ref 94), (1, .ref 0), (0, .retAddr 0)] _ _ _
  refine J_iload_n (i := 3) (a := 3) rfl rfl (dk_L_law 18 _ rfl) ?_
  refine J_sload_n (i := 0) (a := 0) rfl rfl (dk_L_law 19 _ rfl) ?_
  refine J_slen (v := 6) rfl (by decide) (dk_L_law 20 _ rfl) ?_
  refine J_bipush (v := 6) (by decide) (dk_L_law 21 _ rfl) ?_
  refine J_isubC (v := 0) (by decide) (dk_L_law 23 _ rfl) ?_
  refine J_icT (tgt := 1315) (by decide) (dk_L_law 24 _ rfl) (jI_lt (by decide : (0 : Int32).toInt = 0) (by decide : (6 : Int32).toInt = 6) (by omega)) ?_
  exact law_end
theorem vp6 {k : Nat} (hk : k < 6) : vp_in (nI k) 6 := vp_in_nI hk (by omega)
/-- the reference's call: its cells lie from place 94 on -/
theorem jVF94 {M M' : jM} {on : Bool} {L : Nat} {xs : Nat → Int32} {d d' kc ks pc idx n : Nat} {lv : List (Nat × Value)} {st As : List Value} {hh : jH} {Q Q' : Option Value → jH → Prop} (hl2 : hh.length = 94) (hok : jok M') (hv : jvirt M') (hl : Cond.methodLink M.2.1.cls idx M'.2.1 ∈ jG) (hpn : (parseMethodDescriptor M'.2.1.desc).map (fun d => d.parameters.length) = some n) (hn : As.length = n) (hqc : RX7 = M'.2.1.cls) (hs : (st.map fun v => v.category).sum ≤ 8)
    (hd' : d' + 1 ≤ d) (hd : decode M.2.2.1 pc = .ok (.invokevirtual idx, 3)) (hAs : As.all jnr = true) (hc : jCt M' d' 0 0 (.ref 0 :: As) hM0 Q') (hQ : ∀ r h', Q' r h' → h'.length = hM0.length ∧ r.toList.all jnr = true)
    (k : ∀ r h', Q' r h' → J M on L xs d kc ks (pc + 3) lv (r.toList ++ st) (hh ++ (h'.map (jSh 94) ++ [])) Q) : J M on L xs d kc ks pc lv (As.reverse ++ .ref 94 :: st) (hh ++ (hM0.map (jSh 94) ++ [])) Q := by
  have h1 := J_callVF (h1 := hh) (h2 := hM0) (h3 := []) (b := 0) (As := As) (st := st) (lv := lv) (Q := Q) (on := on) (L := L) (xs := xs) (kc := kc) (ks := ks) hok hv hl hpn hn (ci := 7) rfl rfl hqc hs hd' hd hAs hc hQ (by rw [hl2]; exact k)
  rw [hl2] at h1
  exact h1
set_option maxHeartbeats 4000000 in
set_option maxRecDepth 1000000 in
theorem law_c0 : J m_L_law true 6 xs 20 kc ks 192 zL [] hN2 lawQ := by
  obtain ⟨rv, hX, hM⟩ := o_person (xs 1) (xs 2) (xs 3) (xs 4)
  refine J_aload_n (i := 1) (a := 1) rfl rfl (dk_L_law 192 _ rfl) ?_
  refine J_sload_n (i := 0) (a := 0) rfl rfl (dk_L_law 193 _ rfl) ?_
  refine J_iload_n (i := 3) (a := 3) rfl rfl (dk_L_law 194 _ rfl) ?_
  refine J_iconst (v := 1) (by decide) (dk_L_law 195 _ rfl) ?_
  refine J_iaddC (v := 1) (by decide) (dk_L_law 196 _ rfl) ?_
  refine J_sldC (v := xs 1) rfl (vp6 (k := 1) (by decide)) rfl (dk_L_law 197 _ rfl) ?_
  refine J_sload_n (i := 0) (a := 0) rfl rfl (dk_L_law 198 _ rfl) ?_
  refine J_iload_n (i := 3) (a := 3) rfl rfl (dk_L_law 199 _ rfl) ?_
  refine J_iconst (v := 2) (by decide) (dk_L_law 200 _ rfl) ?_
  refine J_iaddC (v := 2) (by decide) (dk_L_law 201 _ rfl) ?_
  refine J_sldC (v := xs 2) rfl (vp6 (k := 2) (by decide)) rfl (dk_L_law 202 _ rfl) ?_
  refine J_sload_n (i := 0) (a := 0) rfl rfl (dk_L_law 203 _ rfl) ?_
  refine J_iload_n (i := 3) (a := 3) rfl rfl (dk_L_law 204 _ rfl) ?_
  refine J_iconst (v := 3) (by decide) (dk_L_law 205 _ rfl) ?_
  refine J_iaddC (v := 3) (by decide) (dk_L_law 206 _ rfl) ?_
  refine J_sldC (v := xs 3) rfl (vp6 (k := 3) (by decide)) rfl (dk_L_law 207 _ rfl) ?_
  refine J_sload_n (i := 0) (a := 0) rfl rfl (dk_L_law 208 _ rfl) ?_
  refine J_iload_n (i := 3) (a := 3) rfl rfl (dk_L_law 209 _ rfl) ?_
  refine J_iconst (v := 4) (by decide) (dk_L_law 210 _ rfl) ?_
  refine J_iaddC (v := 4) (by decide) (dk_L_law 211 _ rfl) ?_
  refine J_sldC (v := xs 4) rfl (vp6 (k := 4) (by decide)) rfl (dk_L_law 212 _ rfl) ?_
  refine J_callVF (h1 := []) (h2 := hN0) (h3 := hM0.map (jSh 94) ++ []) (b := 0) (d' := 12) (As := [.int (xs 1), .int (xs 2), .int (xs 3), .int (xs 4)]) ok_X6_person vi_X6_person cl_8_13 (n := 4) (by decide +kernel) rfl rfl rfl rfl jSumN (by decide) (dk_L_law 213 _ rfl) rfl hX (fun r h' hq => ⟨hq.2.trans lX.symm, by rw [hq.1]; rfl⟩) (fun r h' hq => ?_)
  obtain ⟨rfl, hl⟩ := hq
  have hl2 : (h'.map (jSh ([] : jH).length)).length = 94 := by rw [List.length_map]; exact hl
  generalize h'.map (jSh ([] : jH).length) = hh at hl2 ⊢
  show J _ _ _ _ _ _ _ _ _ [.int rv] (hh ++ (hM0.map (jSh 94) ++ [])) _
  refine J_aload_n (i := 2) (a := 2) rfl rfl (dk_L_law 216 _ rfl) ?_
  refine J_sload_n (i := 0) (a := 0) rfl rfl (dk_L_law 217 _ rfl) ?_
  refine J_iload_n (i := 3) (a := 3) rfl rfl (dk_L_law 218 _ rfl) ?_
  refine J_iconst (v := 1) (by decide) (dk_L_law 219 _ rfl) ?_
  refine J_iaddC (v := 1) (by decide) (dk_L_law 220 _ rfl) ?_
  refine J_sldC (v := xs 1) rfl (vp6 (k := 1) (by decide)) rfl (dk_L_law 221 _ rfl) ?_
  refine J_sload_n (i := 0) (a := 0) rfl rfl (dk_L_law 222 _ rfl) ?_
  refine J_iload_n (i := 3) (a := 3) rfl rfl (dk_L_law 223 _ rfl) ?_
  refine J_iconst (v := 2) (by decide) (dk_L_law 224 _ rfl) ?_
  refine J_iaddC (v := 2) (by decide) (dk_L_law 225 _ rfl) ?_
  refine J_sldC (v := xs 2) rfl (vp6 (k := 2) (by decide)) rfl (dk_L_law 226 _ rfl) ?_
  refine J_sload_n (i := 0) (a := 0) rfl rfl (dk_L_law 227 _ rfl) ?_
  refine J_iload_n (i := 3) (a := 3) rfl rfl (dk_L_law 228 _ rfl) ?_
  refine J_iconst (v := 3) (by decide) (dk_L_law 229 _ rfl) ?_
  refine J_iaddC (v := 3) (by decide) (dk_L_law 230 _ rfl) ?_
  refine J_sldC (v := xs 3) rfl (vp6 (k := 3) (by decide)) rfl (dk_L_law 231 _ rfl) ?_
  refine J_sload_n (i := 0) (a := 0) rfl rfl (dk_L_law 232 _ rfl) ?_
  refine J_iload_n (i := 3) (a := 3) rfl rfl (dk_L_law 233 _ rfl) ?_
  refine J_iconst (v := 4) (by decide) (dk_L_law 234 _ rfl) ?_
  refine J_iaddC (v := 4) (by decide) (dk_L_law 235 _ rfl) ?_
  refine J_sldC (v := xs 4) rfl (vp6 (k := 4) (by decide)) rfl (dk_L_law 236 _ rfl) ?_
  refine jVF94 hl2 (d' := 12) (As := [.int (xs 1), .int (xs 2), .int (xs 3), .int (xs 4)]) ok_X7_person vi_X7_person cl_8_17 (n := 4) (by decide +kernel) rfl rfl (Nat.le_of_ble_eq_true rfl) (by decide) (dk_L_law 237 _ rfl) rfl hM (fun r h' hq => ⟨hq.2.trans lM.symm, by rw [hq.1]; rfl⟩) (fun r h' hq => ?_)
  obtain ⟨rfl, -⟩ := hq
  show J _ _ _ _ _ _ _ _ _ [.int rv, .int rv] _ _
  refine J_icT (tgt := 1309) (by decide) (dk_L_law 240 _ rfl) (rfl) ?_
  exact law_next
set_option maxHeartbeats 4000000 in
set_option maxRecDepth 1000000 in
theorem law_c1 : J m_L_law true 6 xs 20 kc ks 245 zL [] hN2 lawQ := by
  obtain ⟨rv, hX, hM⟩ := o_of (xs 1) (xs 2)
  refine J_aload_n (i := 1) (a := 1) rfl rfl (dk_L_law 245 _ rfl) ?_
  refine J_sload_n (i := 0) (a := 0) rfl rfl (dk_L_law 246 _ rfl) ?_
  refine J_iload_n (i := 3) (a := 3) rfl rfl (dk_L_law 247 _ rfl) ?_
  refine J_iconst (v := 1) (by decide) (dk_L_law 248 _ rfl) ?_
  refine J_iaddC (v := 1) (by decide) (dk_L_law 249 _ rfl) ?_
  refine J_sldC (v := xs 1) rfl (vp6 (k := 1) (by decide)) rfl (dk_L_law 250 _ rfl) ?_
  refine J_sload_n (i := 0) (a := 0) rfl rfl (dk_L_law 251 _ rfl) ?_
  refine J_iload_n (i := 3) (a := 3) rfl rfl (dk_L_law 252 _ rfl) ?_
  refine J_iconst (v := 2) (by decide) (dk_L_law 253 _ rfl) ?_
  refine J_iaddC (v := 2) (by decide) (dk_L_law 254 _ rfl) ?_
  refine J_sldC (v := xs 2) rfl (vp6 (k := 2) (by decide)) rfl (dk_L_law 255 _ rfl) ?_
  refine J_callVF (h1 := []) (h2 := hN0) (h3 := hM0.map (jSh 94) ++ []) (b := 0) (d' := 12) (As := [.int (xs 1), .int (xs 2)]) ok_X6_of vi_X6_of cl_8_18 (n := 2) (by decide +kernel) rfl rfl rfl rfl jSumN (by decide) (dk_L_law 256 _ rfl) rfl hX (fun r h' hq => ⟨hq.2.trans lX.symm, by rw [hq.1]; rfl⟩) (fun r h' hq => ?_)
  obtain ⟨rfl, hl⟩ := hq
  have hl2 : (h'.map (jSh ([] : jH).length)).length = 94 := by rw [List.length_map]; exact hl
  generalize h'.map (jSh ([] : jH).length) = hh at hl2 ⊢
  show J _ _ _ _ _ _ _ _ _ [.int rv] (hh ++ (hM0.map (jSh 94) ++ [])) _
  refine J_aload_n (i := 2) (a := 2) rfl rfl (dk_L_law 259 _ rfl) ?_
  refine J_sload_n (i := 0) (a := 0) rfl rfl (dk_L_law 260 _ rfl) ?_
  refine J_iload_n (i := 3) (a := 3) rfl rfl (dk_L_law 261 _ rfl) ?_
  refine J_iconst (v := 1) (by decide) (dk_L_law 262 _ rfl) ?_
  refine J_iaddC (v := 1) (by decide) (dk_L_law 263 _ rfl) ?_
  refine J_sldC (v := xs 1) rfl (vp6 (k := 1) (by decide)) rfl (dk_L_law 264 _ rfl) ?_
  refine J_sload_n (i := 0) (a := 0) rfl rfl (dk_L_law 265 _ rfl) ?_
  refine J_iload_n (i := 3) (a := 3) rfl rfl (dk_L_law 266 _ rfl) ?_
  refine J_iconst (v := 2) (by decide) (dk_L_law 267 _ rfl) ?_
  refine J_iaddC (v := 2) (by decide) (dk_L_law 268 _ rfl) ?_
  refine J_sldC (v := xs 2) rfl (vp6 (k := 2) (by decide)) rfl (dk_L_law 269 _ rfl) ?_
  refine jVF94 hl2 (d' := 12) (As := [.int (xs 1), .int (xs 2)]) ok_X7_of vi_X7_of cl_8_22 (n := 2) (by decide +kernel) rfl rfl (Nat.le_of_ble_eq_true rfl) (by decide) (dk_L_law 270 _ rfl) rfl hM (fun r h' hq => ⟨hq.2.trans lM.symm, by rw [hq.1]; rfl⟩) (fun r h' hq => ?_)
  obtain ⟨rfl, -⟩ := hq
  show J _ _ _ _ _ _ _ _ _ [.int rv, .int rv] _ _
  refine J_icT (tgt := 1309) (by decide) (dk_L_law 273 _ rfl) (rfl) ?_
  exact law_next
set_option maxHeartbeats 4000000 in
set_option maxRecDepth 1000000 in
theorem law_c2 : J m_L_law true 6 xs 20 kc ks 278 zL [] hN2 lawQ := by
  obtain ⟨rv, hX, hM⟩ := o_set (xs 1) (xs 2) (xs 3)
  refine J_aload_n (i := 1) (a := 1) rfl rfl (dk_L_law 278 _ rfl) ?_
  refine J_sload_n (i := 0) (a := 0) rfl rfl (dk_L_law 279 _ rfl) ?_
  refine J_iload_n (i := 3) (a := 3) rfl rfl (dk_L_law 280 _ rfl) ?_
  refine J_iconst (v := 1) (by decide) (dk_L_law 281 _ rfl) ?_
  refine J_iaddC (v := 1) (by decide) (dk_L_law 282 _ rfl) ?_
  refine J_sldC (v := xs 1) rfl (vp6 (k := 1) (by decide)) rfl (dk_L_law 283 _ rfl) ?_
  refine J_sload_n (i := 0) (a := 0) rfl rfl (dk_L_law 284 _ rfl) ?_
  refine J_iload_n (i := 3) (a := 3) rfl rfl (dk_L_law 285 _ rfl) ?_
  refine J_iconst (v := 2) (by decide) (dk_L_law 286 _ rfl) ?_
  refine J_iaddC (v := 2) (by decide) (dk_L_law 287 _ rfl) ?_
  refine J_sldC (v := xs 2) rfl (vp6 (k := 2) (by decide)) rfl (dk_L_law 288 _ rfl) ?_
  refine J_sload_n (i := 0) (a := 0) rfl rfl (dk_L_law 289 _ rfl) ?_
  refine J_iload_n (i := 3) (a := 3) rfl rfl (dk_L_law 290 _ rfl) ?_
  refine J_iconst (v := 3) (by decide) (dk_L_law 291 _ rfl) ?_
  refine J_iaddC (v := 3) (by decide) (dk_L_law 292 _ rfl) ?_
  refine J_sldC (v := xs 3) rfl (vp6 (k := 3) (by decide)) rfl (dk_L_law 293 _ rfl) ?_
  refine J_callVF (h1 := []) (h2 := hN0) (h3 := hM0.map (jSh 94) ++ []) (b := 0) (d' := 12) (As := [.int (xs 1), .int (xs 2), .int (xs 3)]) ok_X6_set vi_X6_set cl_8_23 (n := 3) (by decide +kernel) rfl rfl rfl rfl jSumN (by decide) (dk_L_law 294 _ rfl) rfl hX (fun r h' hq => ⟨hq.2.trans lX.symm, by rw [hq.1]; rfl⟩) (fun r h' hq => ?_)
  obtain ⟨rfl, hl⟩ := hq
  have hl2 : (h'.map (jSh ([] : jH).length)).length = 94 := by rw [List.length_map]; exact hl
  generalize h'.map (jSh ([] : jH).length) = hh at hl2 ⊢
  show J _ _ _ _ _ _ _ _ _ [.int rv] (hh ++ (hM0.map (jSh 94) ++ [])) _
  refine J_aload_n (i := 2) (a := 2) rfl rfl (dk_L_law 297 _ rfl) ?_
  refine J_sload_n (i := 0) (a := 0) rfl rfl (dk_L_law 298 _ rfl) ?_
  refine J_iload_n (i := 3) (a := 3) rfl rfl (dk_L_law 299 _ rfl) ?_
  refine J_iconst (v := 1) (by decide) (dk_L_law 300 _ rfl) ?_
  refine J_iaddC (v := 1) (by decide) (dk_L_law 301 _ rfl) ?_
  refine J_sldC (v := xs 1) rfl (vp6 (k := 1) (by decide)) rfl (dk_L_law 302 _ rfl) ?_
  refine J_sload_n (i := 0) (a := 0) rfl rfl (dk_L_law 303 _ rfl) ?_
  refine J_iload_n (i := 3) (a := 3) rfl rfl (dk_L_law 304 _ rfl) ?_
  refine J_iconst (v := 2) (by decide) (dk_L_law 305 _ rfl) ?_
  refine J_iaddC (v := 2) (by decide) (dk_L_law 306 _ rfl) ?_
  refine J_sldC (v := xs 2) rfl (vp6 (k := 2) (by decide)) rfl (dk_L_law 307 _ rfl) ?_
  refine J_sload_n (i := 0) (a := 0) rfl rfl (dk_L_law 308 _ rfl) ?_
  refine J_iload_n (i := 3) (a := 3) rfl rfl (dk_L_law 309 _ rfl) ?_
  refine J_iconst (v := 3) (by decide) (dk_L_law 310 _ rfl) ?_
  refine J_iaddC (v := 3) (by decide) (dk_L_law 311 _ rfl) ?_
  refine J_sldC (v := xs 3) rfl (vp6 (k := 3) (by decide)) rfl (dk_L_law 312 _ rfl) ?_
  refine jVF94 hl2 (d' := 12) (As := [.int (xs 1), .int (xs 2), .int (xs 3)]) ok_X7_set vi_X7_set cl_8_27 (n := 3) (by decide +kernel) rfl rfl (Nat.le_of_ble_eq_true rfl) (by decide) (dk_L_law 313 _ rfl) rfl hM (fun r h' hq => ⟨hq.2.trans lM.symm, by rw [hq.1]; rfl⟩) (fun r h' hq => ?_)
  obtain ⟨rfl, -⟩ := hq
  show J _ _ _ _ _ _ _ _ _ [.int rv, .int rv] _ _
  refine J_icT (tgt := 1309) (by decide) (dk_L_law 316 _ rfl) (rfl) ?_
  exact law_next
set_option maxHeartbeats 4000000 in
set_option maxRecDepth 1000000 in
theorem law_c3 : J m_L_law true 6 xs 20 kc ks 321 zL [] hN2 lawQ := by
  have kx : ∀ b : Int32, (b = if xs 2 = 0 then 0 else 1) → J m_L_law true 6 xs 20 kc ks 340 zL [.int b, .int (xs 1), .ref 0] hN2 lawQ := by
    intro b hb
    obtain ⟨rv, hX, hM⟩ := o_there (xs 1) b
    refine J_callVF (h1 := []) (h2 := hN0) (h3 := hM0.map (jSh 94) ++ []) (b := 0) (d' := 12) (As := [.int (xs 1), .int (b)]) ok_X6_there vi_X6_there cl_8_28 (n := 2) (by decide +kernel) rfl rfl rfl rfl jSumN (by decide) (dk_L_law 340 _ rfl) rfl hX (fun r h' hq => ⟨hq.2.trans lX.symm, by rw [hq.1]; rfl⟩) (fun r h' hq => ?_)
    obtain ⟨rfl, hl⟩ := hq
    have hl2 : (h'.map (jSh ([] : jH).length)).length = 94 := by rw [List.length_map]; exact hl
    generalize h'.map (jSh ([] : jH).length) = hh at hl2 ⊢
    show J _ _ _ _ _ _ _ _ _ [.int rv] (hh ++ (hM0.map (jSh 94) ++ [])) _
    refine J_aload_n (i := 2) (a := 2) rfl rfl (dk_L_law 343 _ rfl) ?_
    refine J_sload_n (i := 0) (a := 0) rfl rfl (dk_L_law 344 _ rfl) ?_
    refine J_iload_n (i := 3) (a := 3) rfl rfl (dk_L_law 345 _ rfl) ?_
    refine J_iconst (v := 1) (by decide) (dk_L_law 346 _ rfl) ?_
    refine J_iaddC (v := 1) (by decide) (dk_L_law 347 _ rfl) ?_
    refine J_sldC (v := xs 1) rfl (vp6 (k := 1) (by decide)) rfl (dk_L_law 348 _ rfl) ?_
    refine J_sload_n (i := 0) (a := 0) rfl rfl (dk_L_law 349 _ rfl) ?_
    refine J_iload_n (i := 3) (a := 3) rfl rfl (dk_L_law 350 _ rfl) ?_
    refine J_iconst (v := 2) (by decide) (dk_L_law 351 _ rfl) ?_
    refine J_iaddC (v := 2) (by decide) (dk_L_law 352 _ rfl) ?_
    refine J_sldC (v := xs 2) rfl (vp6 (k := 2) (by decide)) rfl (dk_L_law 353 _ rfl) ?_
    have km : J m_L_law true 6 xs 20 kc ks 362 zL [.int b, .int (xs 1), .ref 94, .int rv] (hh ++ (hM0.map (jSh 94) ++ [])) lawQ := by
      refine jVF94 hl2 (d' := 12) (As := [.int (xs 1), .int (b)]) ok_X7_there vi_X7_there cl_8_32 (n := 2) (by decide +kernel) rfl rfl (Nat.le_of_ble_eq_true rfl) (by decide) (dk_L_law 362 _ rfl) rfl hM (fun r h' hq => ⟨hq.2.trans lM.symm, by rw [hq.1]; rfl⟩) (fun r h' hq => ?_)
      obtain ⟨rfl, -⟩ := hq
      show J _ _ _ _ _ _ _ _ _ [.int rv, .int rv] _ _
      refine J_icT (tgt := 1309) (by decide) (dk_L_law 365 _ rfl) (rfl) ?_
      exact law_next
    refine J_if_eq (tgt := 361) (by decide) (dk_L_law 354 _ rfl) (fun hc => ?_) (fun hc => ?_)
    · have hz : xs 2 = 0 := hc
      refine J_iconst (v := 0) (by decide) (dk_L_law 361 _ rfl) ?_
      rw [if_pos hz] at hb; subst hb; exact km
    · have hz : ¬ xs 2 = 0 := hc
      refine J_iconst (v := 1) (by decide) (dk_L_law 357 _ rfl) ?_
      refine J_goto (tgt := 362) (by decide) (dk_L_law 358 _ rfl) ?_
      rw [if_neg hz] at hb; subst hb; exact km
  refine J_aload_n (i := 1) (a := 1) rfl rfl (dk_L_law 321 _ rfl) ?_
  refine J_sload_n (i := 0) (a := 0) rfl rfl (dk_L_law 322 _ rfl) ?_
  refine J_iload_n (i := 3) (a := 3) rfl rfl (dk_L_law 323 _ rfl) ?_
  refine J_iconst (v := 1) (by decide) (dk_L_law 324 _ rfl) ?_
  refine J_iaddC (v := 1) (by decide) (dk_L_law 325 _ rfl) ?_
  refine J_sldC (v := xs 1) rfl (vp6 (k := 1) (by decide)) rfl (dk_L_law 326 _ rfl) ?_
  refine J_sload_n (i := 0) (a := 0) rfl rfl (dk_L_law 327 _ rfl) ?_
  refine J_iload_n (i := 3) (a := 3) rfl rfl (dk_L_law 328 _ rfl) ?_
  refine J_iconst (v := 2) (by decide) (dk_L_law 329 _ rfl) ?_
  refine J_iaddC (v := 2) (by decide) (dk_L_law 330 _ rfl) ?_
  refine J_sldC (v := xs 2) rfl (vp6 (k := 2) (by decide)) rfl (dk_L_law 331 _ rfl) ?_
  refine J_if_eq (tgt := 339) (by decide) (dk_L_law 332 _ rfl) (fun hc => ?_) (fun hc => ?_)
  · have hz : xs 2 = 0 := hc
    refine J_iconst (v := 0) (by decide) (dk_L_law 339 _ rfl) ?_
    exact kx 0 (by rw [if_pos hz])
  · have hz : ¬ xs 2 = 0 := hc
    refine J_iconst (v := 1) (by decide) (dk_L_law 335 _ rfl) ?_
    refine J_goto (tgt := 340) (by decide) (dk_L_law 336 _ rfl) ?_
    exact kx 1 (by rw [if_neg hz])
set_option maxHeartbeats 4000000 in
set_option maxRecDepth 1000000 in
theorem law_c4 : J m_L_law true 6 xs 20 kc ks 370 zL [] hN2 lawQ := by
  obtain ⟨rv, hX, hM⟩ := o_row (xs 1) (xs 2) (xs 3)
  refine J_aload_n (i := 1) (a := 1) rfl rfl (dk_L_law 370 _ rfl) ?_
  refine J_sload_n (i := 0) (a := 0) rfl rfl (dk_L_law 371 _ rfl) ?_
  refine J_iload_n (i := 3) (a := 3) rfl rfl (dk_L_law 372 _ rfl) ?_
  refine J_iconst (v := 1) (by decide) (dk_L_law 373 _ rfl) ?_
  refine J_iaddC (v := 1) (by decide) (dk_L_law 374 _ rfl) ?_
  refine J_sldC (v := xs 1) rfl (vp6 (k := 1) (by decide)) rfl (dk_L_law 375 _ rfl) ?_
  refine J_sload_n (i := 0) (a := 0) rfl rfl (dk_L_law 376 _ rfl) ?_
  refine J_iload_n (i := 3) (a := 3) rfl rfl (dk_L_law 377 _ rfl) ?_
  refine J_iconst (v := 2) (by decide) (dk_L_law 378 _ rfl) ?_
  refine J_iaddC (v := 2) (by decide) (dk_L_law 379 _ rfl) ?_
  refine J_sldC (v := xs 2) rfl (vp6 (k := 2) (by decide)) rfl (dk_L_law 380 _ rfl) ?_
  refine J_sload_n (i := 0) (a := 0) rfl rfl (dk_L_law 381 _ rfl) ?_
  refine J_iload_n (i := 3) (a := 3) rfl rfl (dk_L_law 382 _ rfl) ?_
  refine J_iconst (v := 3) (by decide) (dk_L_law 383 _ rfl) ?_
  refine J_iaddC (v := 3) (by decide) (dk_L_law 384 _ rfl) ?_
  refine J_sldC (v := xs 3) rfl (vp6 (k := 3) (by decide)) rfl (dk_L_law 385 _ rfl) ?_
  refine J_callVF (h1 := []) (h2 := hN0) (h3 := hM0.map (jSh 94) ++ []) (b := 0) (d' := 12) (As := [.int (xs 1), .int (xs 2), .int (xs 3)]) ok_X6_row vi_X6_row cl_8_33 (n := 3) (by decide +kernel) rfl rfl rfl rfl jSumN (by decide) (dk_L_law 386 _ rfl) rfl hX (fun r h' hq => ⟨hq.2.trans lX.symm, by rw [hq.1]; rfl⟩) (fun r h' hq => ?_)
  obtain ⟨rfl, hl⟩ := hq
  have hl2 : (h'.map (jSh ([] : jH).length)).length = 94 := by rw [List.length_map]; exact hl
  generalize h'.map (jSh ([] : jH).length) = hh at hl2 ⊢
  show J _ _ _ _ _ _ _ _ _ [.int rv] (hh ++ (hM0.map (jSh 94) ++ [])) _
  refine J_aload_n (i := 2) (a := 2) rfl rfl (dk_L_law 389 _ rfl) ?_
  refine J_sload_n (i := 0) (a := 0) rfl rfl (dk_L_law 390 _ rfl) ?_
  refine J_iload_n (i := 3) (a := 3) rfl rfl (dk_L_law 391 _ rfl) ?_
  refine J_iconst (v := 1) (by decide) (dk_L_law 392 _ rfl) ?_
  refine J_iaddC (v := 1) (by decide) (dk_L_law 393 _ rfl) ?_
  refine J_sldC (v := xs 1) rfl (vp6 (k := 1) (by decide)) rfl (dk_L_law 394 _ rfl) ?_
  refine J_sload_n (i := 0) (a := 0) rfl rfl (dk_L_law 395 _ rfl) ?_
  refine J_iload_n (i := 3) (a := 3) rfl rfl (dk_L_law 396 _ rfl) ?_
  refine J_iconst (v := 2) (by decide) (dk_L_law 397 _ rfl) ?_
  refine J_iaddC (v := 2) (by decide) (dk_L_law 398 _ rfl) ?_
  refine J_sldC (v := xs 2) rfl (vp6 (k := 2) (by decide)) rfl (dk_L_law 399 _ rfl) ?_
  refine J_sload_n (i := 0) (a := 0) rfl rfl (dk_L_law 400 _ rfl) ?_
  refine J_iload_n (i := 3) (a := 3) rfl rfl (dk_L_law 401 _ rfl) ?_
  refine J_iconst (v := 3) (by decide) (dk_L_law 402 _ rfl) ?_
  refine J_iaddC (v := 3) (by decide) (dk_L_law 403 _ rfl) ?_
  refine J_sldC (v := xs 3) rfl (vp6 (k := 3) (by decide)) rfl (dk_L_law 404 _ rfl) ?_
  refine jVF94 hl2 (d' := 12) (As := [.int (xs 1), .int (xs 2), .int (xs 3)]) ok_X7_row vi_X7_row cl_8_36 (n := 3) (by decide +kernel) rfl rfl (Nat.le_of_ble_eq_true rfl) (by decide) (dk_L_law 405 _ rfl) rfl hM (fun r h' hq => ⟨hq.2.trans lM.symm, by rw [hq.1]; rfl⟩) (fun r h' hq => ?_)
  obtain ⟨rfl, -⟩ := hq
  show J _ _ _ _ _ _ _ _ _ [.int rv, .int rv] _ _
  refine J_icT (tgt := 1309) (by decide) (dk_L_law 408 _ rfl) (rfl) ?_
  exact law_next
set_option maxHeartbeats 4000000 in
set_option maxRecDepth 1000000 in
theorem law_c5 : J m_L_law true 6 xs 20 kc ks 413 zL [] hN2 lawQ := by
  obtain ⟨rv, hX, hM⟩ := o_feed (xs 1)
  refine J_aload_n (i := 1) (a := 1) rfl rfl (dk_L_law 413 _ rfl) ?_
  refine J_sload_n (i := 0) (a := 0) rfl rfl (dk_L_law 414 _ rfl) ?_
  refine J_iload_n (i := 3) (a := 3) rfl rfl (dk_L_law 415 _ rfl) ?_
  refine J_iconst (v := 1) (by decide) (dk_L_law 416 _ rfl) ?_
  refine J_iaddC (v := 1) (by decide) (dk_L_law 417 _ rfl) ?_
  refine J_sldC (v := xs 1) rfl (vp6 (k := 1) (by decide)) rfl (dk_L_law 418 _ rfl) ?_
  refine J_callVF (h1 := []) (h2 := hN0) (h3 := hM0.map (jSh 94) ++ []) (b := 0) (d' := 12) (As := [.int (xs 1)]) ok_X6_feed vi_X6_feed cl_8_37 (n := 1) (by decide +kernel) rfl rfl rfl rfl jSumN (by decide) (dk_L_law 419 _ rfl) rfl hX (fun r h' hq => ⟨hq.2.trans lX.symm, by rw [hq.1]; rfl⟩) (fun r h' hq => ?_)
  obtain ⟨rfl, hl⟩ := hq
  have hl2 : (h'.map (jSh ([] : jH).length)).length = 94 := by rw [List.length_map]; exact hl
  generalize h'.map (jSh ([] : jH).length) = hh at hl2 ⊢
  show J _ _ _ _ _ _ _ _ _ [.int rv] (hh ++ (hM0.map (jSh 94) ++ [])) _
  refine J_aload_n (i := 2) (a := 2) rfl rfl (dk_L_law 422 _ rfl) ?_
  refine J_sload_n (i := 0) (a := 0) rfl rfl (dk_L_law 423 _ rfl) ?_
  refine J_iload_n (i := 3) (a := 3) rfl rfl (dk_L_law 424 _ rfl) ?_
  refine J_iconst (v := 1) (by decide) (dk_L_law 425 _ rfl) ?_
  refine J_iaddC (v := 1) (by decide) (dk_L_law 426 _ rfl) ?_
  refine J_sldC (v := xs 1) rfl (vp6 (k := 1) (by decide)) rfl (dk_L_law 427 _ rfl) ?_
  refine jVF94 hl2 (d' := 12) (As := [.int (xs 1)]) ok_X7_feed vi_X7_feed cl_8_41 (n := 1) (by decide +kernel) rfl rfl (Nat.le_of_ble_eq_true rfl) (by decide) (dk_L_law 428 _ rfl) rfl hM (fun r h' hq => ⟨hq.2.trans lM.symm, by rw [hq.1]; rfl⟩) (fun r h' hq => ?_)
  obtain ⟨rfl, -⟩ := hq
  show J _ _ _ _ _ _ _ _ _ [.int rv, .int rv] _ _
  refine J_icT (tgt := 1309) (by decide) (dk_L_law 431 _ rfl) (rfl) ?_
  exact law_next
set_option maxHeartbeats 4000000 in
set_option maxRecDepth 1000000 in
theorem law_c6 : J m_L_law true 6 xs 20 kc ks 436 zL [] hN2 lawQ := by
  obtain ⟨rv, hX, hM⟩ := o_town 
  refine J_aload_n (i := 1) (a := 1) rfl rfl (dk_L_law 436 _ rfl) ?_
  refine J_callVF (h1 := []) (h2 := hN0) (h3 := hM0.map (jSh 94) ++ []) (b := 0) (d' := 12) (As := []) ok_X6_town vi_X6_town cl_8_42 (n := 0) (by decide +kernel) rfl rfl rfl rfl jSumN (by decide) (dk_L_law 437 _ rfl) rfl hX (fun r h' hq => ⟨hq.2.trans lX.symm, by rw [hq.1]; rfl⟩) (fun r h' hq => ?_)
  obtain ⟨rfl, hl⟩ := hq
  have hl2 : (h'.map (jSh ([] : jH).length)).length = 94 := by rw [List.length_map]; exact hl
  generalize h'.map (jSh ([] : jH).length) = hh at hl2 ⊢
  show J _ _ _ _ _ _ _ _ _ [.int rv] (hh ++ (hM0.map (jSh 94) ++ [])) _
  refine J_aload_n (i := 2) (a := 2) rfl rfl (dk_L_law 440 _ rfl) ?_
  refine jVF94 hl2 (d' := 12) (As := []) ok_X7_town vi_X7_town cl_8_46 (n := 0) (by decide +kernel) rfl rfl (Nat.le_of_ble_eq_true rfl) (by decide) (dk_L_law 441 _ rfl) rfl hM (fun r h' hq => ⟨hq.2.trans lM.symm, by rw [hq.1]; rfl⟩) (fun r h' hq => ?_)
  obtain ⟨rfl, -⟩ := hq
  show J _ _ _ _ _ _ _ _ _ [.int rv, .int rv] _ _
  refine J_icT (tgt := 1309) (by decide) (dk_L_law 444 _ rfl) (rfl) ?_
  exact law_next
set_option maxHeartbeats 4000000 in
set_option maxRecDepth 1000000 in
theorem law_c7 : J m_L_law true 6 xs 20 kc ks 449 zL [] hN2 lawQ := by
  obtain ⟨rv, hX, hM⟩ := o_told (xs 1)
  refine J_aload_n (i := 1) (a := 1) rfl rfl (dk_L_law 449 _ rfl) ?_
  refine J_sload_n (i := 0) (a := 0) rfl rfl (dk_L_law 450 _ rfl) ?_
  refine J_iload_n (i := 3) (a := 3) rfl rfl (dk_L_law 451 _ rfl) ?_
  refine J_iconst (v := 1) (by decide) (dk_L_law 452 _ rfl) ?_
  refine J_iaddC (v := 1) (by decide) (dk_L_law 453 _ rfl) ?_
  refine J_sldC (v := xs 1) rfl (vp6 (k := 1) (by decide)) rfl (dk_L_law 454 _ rfl) ?_
  refine J_callVF (h1 := []) (h2 := hN0) (h3 := hM0.map (jSh 94) ++ []) (b := 0) (d' := 12) (As := [.int (xs 1)]) ok_X6_told vi_X6_told cl_8_47 (n := 1) (by decide +kernel) rfl rfl rfl rfl jSumN (by decide) (dk_L_law 455 _ rfl) rfl hX (fun r h' hq => ⟨hq.2.trans lX.symm, by rw [hq.1]; rfl⟩) (fun r h' hq => ?_)
  obtain ⟨rfl, hl⟩ := hq
  have hl2 : (h'.map (jSh ([] : jH).length)).length = 94 := by rw [List.length_map]; exact hl
  generalize h'.map (jSh ([] : jH).length) = hh at hl2 ⊢
  show J _ _ _ _ _ _ _ _ _ [.int rv] (hh ++ (hM0.map (jSh 94) ++ [])) _
  refine J_aload_n (i := 2) (a := 2) rfl rfl (dk_L_law 458 _ rfl) ?_
  refine J_sload_n (i := 0) (a := 0) rfl rfl (dk_L_law 459 _ rfl) ?_
  refine J_iload_n (i := 3) (a := 3) rfl rfl (dk_L_law 460 _ rfl) ?_
  refine J_iconst (v := 1) (by decide) (dk_L_law 461 _ rfl) ?_
  refine J_iaddC (v := 1) (by decide) (dk_L_law 462 _ rfl) ?_
  refine J_sldC (v := xs 1) rfl (vp6 (k := 1) (by decide)) rfl (dk_L_law 463 _ rfl) ?_
  refine jVF94 hl2 (d' := 12) (As := [.int (xs 1)]) ok_X7_told vi_X7_told cl_8_50 (n := 1) (by decide +kernel) rfl rfl (Nat.le_of_ble_eq_true rfl) (by decide) (dk_L_law 464 _ rfl) rfl hM (fun r h' hq => ⟨hq.2.trans lM.symm, by rw [hq.1]; rfl⟩) (fun r h' hq => ?_)
  obtain ⟨rfl, -⟩ := hq
  show J _ _ _ _ _ _ _ _ _ [.int rv, .int rv] _ _
  refine J_icT (tgt := 1309) (by decide) (dk_L_law 467 _ rfl) (rfl) ?_
  exact law_next
set_option maxHeartbeats 4000000 in
set_option maxRecDepth 1000000 in
theorem law_c8 : J m_L_law true 6 xs 20 kc ks 472 zL [] hN2 lawQ := by
  obtain ⟨rv, hX, hM⟩ := o_day 
  refine J_aload_n (i := 1) (a := 1) rfl rfl (dk_L_law 472 _ rfl) ?_
  refine J_callVF (h1 := []) (h2 := hN0) (h3 := hM0.map (jSh 94) ++ []) (b := 0) (d' := 12) (As := []) ok_X6_day vi_X6_day cl_8_51 (n := 0) (by decide +kernel) rfl rfl rfl rfl jSumN (by decide) (dk_L_law 473 _ rfl) rfl hX (fun r h' hq => ⟨hq.2.trans lX.symm, by rw [hq.1]; rfl⟩) (fun r h' hq => ?_)
  obtain ⟨rfl, hl⟩ := hq
  have hl2 : (h'.map (jSh ([] : jH).length)).length = 94 := by rw [List.length_map]; exact hl
  generalize h'.map (jSh ([] : jH).length) = hh at hl2 ⊢
  show J _ _ _ _ _ _ _ _ _ [.int rv] (hh ++ (hM0.map (jSh 94) ++ [])) _
  refine J_aload_n (i := 2) (a := 2) rfl rfl (dk_L_law 476 _ rfl) ?_
  refine jVF94 hl2 (d' := 12) (As := []) ok_X7_day vi_X7_day cl_8_54 (n := 0) (by decide +kernel) rfl rfl (Nat.le_of_ble_eq_true rfl) (by decide) (dk_L_law 477 _ rfl) rfl hM (fun r h' hq => ⟨hq.2.trans lM.symm, by rw [hq.1]; rfl⟩) (fun r h' hq => ?_)
  obtain ⟨rfl, -⟩ := hq
  show J _ _ _ _ _ _ _ _ _ [.int rv, .int rv] _ _
  refine J_icT (tgt := 1309) (by decide) (dk_L_law 480 _ rfl) (rfl) ?_
  exact law_next
set_option maxHeartbeats 4000000 in
set_option maxRecDepth 1000000 in
theorem law_c9 : J m_L_law true 6 xs 20 kc ks 485 zL [] hN2 lawQ := by
  obtain ⟨rv, hX, hM⟩ := o_by (xs 1) (xs 2) (xs 3)
  refine J_aload_n (i := 1) (a := 1) rfl rfl (dk_L_law 485 _ rfl) ?_
  refine J_sload_n (i := 0) (a := 0) rfl rfl (dk_L_law 486 _ rfl) ?_
  refine J_iload_n (i := 3) (a := 3) rfl rfl (dk_L_law 487 _ rfl) ?_
  refine J_iconst (v := 1) (by decide) (dk_L_law 488 _ rfl) ?_
  refine J_iaddC (v := 1) (by decide) (dk_L_law 489 _ rfl) ?_
  refine J_sldC (v := xs 1) rfl (vp6 (k := 1) (by decide)) rfl (dk_L_law 490 _ rfl) ?_
  refine J_sload_n (i := 0) (a := 0) rfl rfl (dk_L_law 491 _ rfl) ?_
  refine J_iload_n (i := 3) (a := 3) rfl rfl (dk_L_law 492 _ rfl) ?_
  refine J_iconst (v := 2) (by decide) (dk_L_law 493 _ rfl) ?_
  refine J_iaddC (v := 2) (by decide) (dk_L_law 494 _ rfl) ?_
  refine J_sldC (v := xs 2) rfl (vp6 (k := 2) (by decide)) rfl (dk_L_law 495 _ rfl) ?_
  refine J_sload_n (i := 0) (a := 0) rfl rfl (dk_L_law 496 _ rfl) ?_
  refine J_iload_n (i := 3) (a := 3) rfl rfl (dk_L_law 497 _ rfl) ?_
  refine J_iconst (v := 3) (by decide) (dk_L_law 498 _ rfl) ?_
  refine J_iaddC (v := 3) (by decide) (dk_L_law 499 _ rfl) ?_
  refine J_sldC (v := xs 3) rfl (vp6 (k := 3) (by decide)) rfl (dk_L_law 500 _ rfl) ?_
  refine J_callVF (h1 := []) (h2 := hN0) (h3 := hM0.map (jSh 94) ++ []) (b := 0) (d' := 12) (As := [.int (xs 1), .int (xs 2), .int (xs 3)]) ok_X6_by vi_X6_by cl_8_55 (n := 3) (by decide +kernel) rfl rfl rfl rfl jSumN (by decide) (dk_L_law 501 _ rfl) rfl hX (fun r h' hq => ⟨hq.2.trans lX.symm, by rw [hq.1]; rfl⟩) (fun r h' hq => ?_)
  obtain ⟨rfl, hl⟩ := hq
  have hl2 : (h'.map (jSh ([] : jH).length)).length = 94 := by rw [List.length_map]; exact hl
  generalize h'.map (jSh ([] : jH).length) = hh at hl2 ⊢
  show J _ _ _ _ _ _ _ _ _ [.int rv] (hh ++ (hM0.map (jSh 94) ++ [])) _
  refine J_aload_n (i := 2) (a := 2) rfl rfl (dk_L_law 504 _ rfl) ?_
  refine J_sload_n (i := 0) (a := 0) rfl rfl (dk_L_law 505 _ rfl) ?_
  refine J_iload_n (i := 3) (a := 3) rfl rfl (dk_L_law 506 _ rfl) ?_
  refine J_iconst (v := 1) (by decide) (dk_L_law 507 _ rfl) ?_
  refine J_iaddC (v := 1) (by decide) (dk_L_law 508 _ rfl) ?_
  refine J_sldC (v := xs 1) rfl (vp6 (k := 1) (by decide)) rfl (dk_L_law 509 _ rfl) ?_
  refine J_sload_n (i := 0) (a := 0) rfl rfl (dk_L_law 510 _ rfl) ?_
  refine J_iload_n (i := 3) (a := 3) rfl rfl (dk_L_law 511 _ rfl) ?_
  refine J_iconst (v := 2) (by decide) (dk_L_law 512 _ rfl) ?_
  refine J_iaddC (v := 2) (by decide) (dk_L_law 513 _ rfl) ?_
  refine J_sldC (v := xs 2) rfl (vp6 (k := 2) (by decide)) rfl (dk_L_law 514 _ rfl) ?_
  refine J_sload_n (i := 0) (a := 0) rfl rfl (dk_L_law 515 _ rfl) ?_
  refine J_iload_n (i := 3) (a := 3) rfl rfl (dk_L_law 516 _ rfl) ?_
  refine J_iconst (v := 3) (by decide) (dk_L_law 517 _ rfl) ?_
  refine J_iaddC (v := 3) (by decide) (dk_L_law 518 _ rfl) ?_
  refine J_sldC (v := xs 3) rfl (vp6 (k := 3) (by decide)) rfl (dk_L_law 519 _ rfl) ?_
  refine jVF94 hl2 (d' := 12) (As := [.int (xs 1), .int (xs 2), .int (xs 3)]) ok_X7_by vi_X7_by cl_8_58 (n := 3) (by decide +kernel) rfl rfl (Nat.le_of_ble_eq_true rfl) (by decide) (dk_L_law 520 _ rfl) rfl hM (fun r h' hq => ⟨hq.2.trans lM.symm, by rw [hq.1]; rfl⟩) (fun r h' hq => ?_)
  obtain ⟨rfl, -⟩ := hq
  show J _ _ _ _ _ _ _ _ _ [.int rv, .int rv] _ _
  refine J_icT (tgt := 1309) (by decide) (dk_L_law 523 _ rfl) (rfl) ?_
  exact law_next
set_option maxHeartbeats 4000000 in
set_option maxRecDepth 1000000 in
theorem law_c10 : J m_L_law true 6 xs 20 kc ks 528 zL [] hN2 lawQ := by
  obtain ⟨rv, hX, hM⟩ := o_years (xs 1)
  refine J_aload_n (i := 1) (a := 1) rfl rfl (dk_L_law 528 _ rfl) ?_
  refine J_sload_n (i := 0) (a := 0) rfl rfl (dk_L_law 529 _ rfl) ?_
  refine J_iload_n (i := 3) (a := 3) rfl rfl (dk_L_law 530 _ rfl) ?_
  refine J_iconst (v := 1) (by decide) (dk_L_law 531 _ rfl) ?_
  refine J_iaddC (v := 1) (by decide) (dk_L_law 532 _ rfl) ?_
  refine J_sldC (v := xs 1) rfl (vp6 (k := 1) (by decide)) rfl (dk_L_law 533 _ rfl) ?_
  refine J_callVF (h1 := []) (h2 := hN0) (h3 := hM0.map (jSh 94) ++ []) (b := 0) (d' := 12) (As := [.int (xs 1)]) ok_X6_years vi_X6_years cl_8_59 (n := 1) (by decide +kernel) rfl rfl rfl rfl jSumN (by decide) (dk_L_law 534 _ rfl) rfl hX (fun r h' hq => ⟨hq.2.trans lX.symm, by rw [hq.1]; rfl⟩) (fun r h' hq => ?_)
  obtain ⟨rfl, hl⟩ := hq
  have hl2 : (h'.map (jSh ([] : jH).length)).length = 94 := by rw [List.length_map]; exact hl
  generalize h'.map (jSh ([] : jH).length) = hh at hl2 ⊢
  show J _ _ _ _ _ _ _ _ _ [.int rv] (hh ++ (hM0.map (jSh 94) ++ [])) _
  refine J_aload_n (i := 2) (a := 2) rfl rfl (dk_L_law 537 _ rfl) ?_
  refine J_sload_n (i := 0) (a := 0) rfl rfl (dk_L_law 538 _ rfl) ?_
  refine J_iload_n (i := 3) (a := 3) rfl rfl (dk_L_law 539 _ rfl) ?_
  refine J_iconst (v := 1) (by decide) (dk_L_law 540 _ rfl) ?_
  refine J_iaddC (v := 1) (by decide) (dk_L_law 541 _ rfl) ?_
  refine J_sldC (v := xs 1) rfl (vp6 (k := 1) (by decide)) rfl (dk_L_law 542 _ rfl) ?_
  refine jVF94 hl2 (d' := 12) (As := [.int (xs 1)]) ok_X7_years vi_X7_years cl_8_62 (n := 1) (by decide +kernel) rfl rfl (Nat.le_of_ble_eq_true rfl) (by decide) (dk_L_law 543 _ rfl) rfl hM (fun r h' hq => ⟨hq.2.trans lM.symm, by rw [hq.1]; rfl⟩) (fun r h' hq => ?_)
  obtain ⟨rfl, -⟩ := hq
  show J _ _ _ _ _ _ _ _ _ [.int rv, .int rv] _ _
  refine J_icT (tgt := 1309) (by decide) (dk_L_law 546 _ rfl) (rfl) ?_
  exact law_next
set_option maxHeartbeats 4000000 in
set_option maxRecDepth 1000000 in
theorem law_c11 : J m_L_law true 6 xs 20 kc ks 551 zL [] hN2 lawQ := by
  obtain ⟨rv, hX, hM⟩ := o_birth (xs 1) (xs 2)
  refine J_aload_n (i := 1) (a := 1) rfl rfl (dk_L_law 551 _ rfl) ?_
  refine J_sload_n (i := 0) (a := 0) rfl rfl (dk_L_law 552 _ rfl) ?_
  refine J_iload_n (i := 3) (a := 3) rfl rfl (dk_L_law 553 _ rfl) ?_
  refine J_iconst (v := 1) (by decide) (dk_L_law 554 _ rfl) ?_
  refine J_iaddC (v := 1) (by decide) (dk_L_law 555 _ rfl) ?_
  refine J_sldC (v := xs 1) rfl (vp6 (k := 1) (by decide)) rfl (dk_L_law 556 _ rfl) ?_
  refine J_sload_n (i := 0) (a := 0) rfl rfl (dk_L_law 557 _ rfl) ?_
  refine J_iload_n (i := 3) (a := 3) rfl rfl (dk_L_law 558 _ rfl) ?_
  refine J_iconst (v := 2) (by decide) (dk_L_law 559 _ rfl) ?_
  refine J_iaddC (v := 2) (by decide) (dk_L_law 560 _ rfl) ?_
  refine J_sldC (v := xs 2) rfl (vp6 (k := 2) (by decide)) rfl (dk_L_law 561 _ rfl) ?_
  refine J_callVF (h1 := []) (h2 := hN0) (h3 := hM0.map (jSh 94) ++ []) (b := 0) (d' := 12) (As := [.int (xs 1), .int (xs 2)]) ok_X6_birth vi_X6_birth cl_8_63 (n := 2) (by decide +kernel) rfl rfl rfl rfl jSumN (by decide) (dk_L_law 562 _ rfl) rfl hX (fun r h' hq => ⟨hq.2.trans lX.symm, by rw [hq.1]; rfl⟩) (fun r h' hq => ?_)
  obtain ⟨rfl, hl⟩ := hq
  have hl2 : (h'.map (jSh ([] : jH).length)).length = 94 := by rw [List.length_map]; exact hl
  generalize h'.map (jSh ([] : jH).length) = hh at hl2 ⊢
  show J _ _ _ _ _ _ _ _ _ [.int rv] (hh ++ (hM0.map (jSh 94) ++ [])) _
  refine J_aload_n (i := 2) (a := 2) rfl rfl (dk_L_law 565 _ rfl) ?_
  refine J_sload_n (i := 0) (a := 0) rfl rfl (dk_L_law 566 _ rfl) ?_
  refine J_iload_n (i := 3) (a := 3) rfl rfl (dk_L_law 567 _ rfl) ?_
  refine J_iconst (v := 1) (by decide) (dk_L_law 568 _ rfl) ?_
  refine J_iaddC (v := 1) (by decide) (dk_L_law 569 _ rfl) ?_
  refine J_sldC (v := xs 1) rfl (vp6 (k := 1) (by decide)) rfl (dk_L_law 570 _ rfl) ?_
  refine J_sload_n (i := 0) (a := 0) rfl rfl (dk_L_law 571 _ rfl) ?_
  refine J_iload_n (i := 3) (a := 3) rfl rfl (dk_L_law 572 _ rfl) ?_
  refine J_iconst (v := 2) (by decide) (dk_L_law 573 _ rfl) ?_
  refine J_iaddC (v := 2) (by decide) (dk_L_law 574 _ rfl) ?_
  refine J_sldC (v := xs 2) rfl (vp6 (k := 2) (by decide)) rfl (dk_L_law 575 _ rfl) ?_
  refine jVF94 hl2 (d' := 12) (As := [.int (xs 1), .int (xs 2)]) ok_X7_birth vi_X7_birth cl_8_66 (n := 2) (by decide +kernel) rfl rfl (Nat.le_of_ble_eq_true rfl) (by decide) (dk_L_law 576 _ rfl) rfl hM (fun r h' hq => ⟨hq.2.trans lM.symm, by rw [hq.1]; rfl⟩) (fun r h' hq => ?_)
  obtain ⟨rfl, -⟩ := hq
  show J _ _ _ _ _ _ _ _ _ [.int rv, .int rv] _ _
  refine J_icT (tgt := 1309) (by decide) (dk_L_law 579 _ rfl) (rfl) ?_
  exact law_next
set_option maxHeartbeats 4000000 in
set_option maxRecDepth 1000000 in
theorem law_c12 : J m_L_law true 6 xs 20 kc ks 584 zL [] hN2 lawQ := by
  obtain ⟨rv, hX, hM⟩ := o_plan (xs 1) (xs 2)
  refine J_aload_n (i := 1) (a := 1) rfl rfl (dk_L_law 584 _ rfl) ?_
  refine J_sload_n (i := 0) (a := 0) rfl rfl (dk_L_law 585 _ rfl) ?_
  refine J_iload_n (i := 3) (a := 3) rfl rfl (dk_L_law 586 _ rfl) ?_
  refine J_iconst (v := 1) (by decide) (dk_L_law 587 _ rfl) ?_
  refine J_iaddC (v := 1) (by decide) (dk_L_law 588 _ rfl) ?_
  refine J_sldC (v := xs 1) rfl (vp6 (k := 1) (by decide)) rfl (dk_L_law 589 _ rfl) ?_
  refine J_sload_n (i := 0) (a := 0) rfl rfl (dk_L_law 590 _ rfl) ?_
  refine J_iload_n (i := 3) (a := 3) rfl rfl (dk_L_law 591 _ rfl) ?_
  refine J_iconst (v := 2) (by decide) (dk_L_law 592 _ rfl) ?_
  refine J_iaddC (v := 2) (by decide) (dk_L_law 593 _ rfl) ?_
  refine J_sldC (v := xs 2) rfl (vp6 (k := 2) (by decide)) rfl (dk_L_law 594 _ rfl) ?_
  refine J_callVF (h1 := []) (h2 := hN0) (h3 := hM0.map (jSh 94) ++ []) (b := 0) (d' := 12) (As := [.int (xs 1), .int (xs 2)]) ok_X6_plan vi_X6_plan cl_8_67 (n := 2) (by decide +kernel) rfl rfl rfl rfl jSumN (by decide) (dk_L_law 595 _ rfl) rfl hX (fun r h' hq => ⟨hq.2.trans lX.symm, by rw [hq.1]; rfl⟩) (fun r h' hq => ?_)
  obtain ⟨rfl, hl⟩ := hq
  have hl2 : (h'.map (jSh ([] : jH).length)).length = 94 := by rw [List.length_map]; exact hl
  generalize h'.map (jSh ([] : jH).length) = hh at hl2 ⊢
  show J _ _ _ _ _ _ _ _ _ [.int rv] (hh ++ (hM0.map (jSh 94) ++ [])) _
  refine J_aload_n (i := 2) (a := 2) rfl rfl (dk_L_law 598 _ rfl) ?_
  refine J_sload_n (i := 0) (a := 0) rfl rfl (dk_L_law 599 _ rfl) ?_
  refine J_iload_n (i := 3) (a := 3) rfl rfl (dk_L_law 600 _ rfl) ?_
  refine J_iconst (v := 1) (by decide) (dk_L_law 601 _ rfl) ?_
  refine J_iaddC (v := 1) (by decide) (dk_L_law 602 _ rfl) ?_
  refine J_sldC (v := xs 1) rfl (vp6 (k := 1) (by decide)) rfl (dk_L_law 603 _ rfl) ?_
  refine J_sload_n (i := 0) (a := 0) rfl rfl (dk_L_law 604 _ rfl) ?_
  refine J_iload_n (i := 3) (a := 3) rfl rfl (dk_L_law 605 _ rfl) ?_
  refine J_iconst (v := 2) (by decide) (dk_L_law 606 _ rfl) ?_
  refine J_iaddC (v := 2) (by decide) (dk_L_law 607 _ rfl) ?_
  refine J_sldC (v := xs 2) rfl (vp6 (k := 2) (by decide)) rfl (dk_L_law 608 _ rfl) ?_
  refine jVF94 hl2 (d' := 12) (As := [.int (xs 1), .int (xs 2)]) ok_X7_plan vi_X7_plan cl_8_70 (n := 2) (by decide +kernel) rfl rfl (Nat.le_of_ble_eq_true rfl) (by decide) (dk_L_law 609 _ rfl) rfl hM (fun r h' hq => ⟨hq.2.trans lM.symm, by rw [hq.1]; rfl⟩) (fun r h' hq => ?_)
  obtain ⟨rfl, -⟩ := hq
  show J _ _ _ _ _ _ _ _ _ [.int rv, .int rv] _ _
  refine J_icT (tgt := 1309) (by decide) (dk_L_law 612 _ rfl) (rfl) ?_
  exact law_next
set_option maxHeartbeats 4000000 in
set_option maxRecDepth 1000000 in
theorem law_c13 : J m_L_law true 6 xs 20 kc ks 617 zL [] hN2 lawQ := by
  obtain ⟨rv, hX, hM⟩ := o_quiet 
  refine J_aload_n (i := 1) (a := 1) rfl rfl (dk_L_law 617 _ rfl) ?_
  refine J_callVF (h1 := []) (h2 := hN0) (h3 := hM0.map (jSh 94) ++ []) (b := 0) (d' := 12) (As := []) ok_X6_quiet vi_X6_quiet cl_8_71 (n := 0) (by decide +kernel) rfl rfl rfl rfl jSumN (by decide) (dk_L_law 618 _ rfl) rfl hX (fun r h' hq => ⟨hq.2.trans lX.symm, by rw [hq.1]; rfl⟩) (fun r h' hq => ?_)
  obtain ⟨rfl, hl⟩ := hq
  have hl2 : (h'.map (jSh ([] : jH).length)).length = 94 := by rw [List.length_map]; exact hl
  generalize h'.map (jSh ([] : jH).length) = hh at hl2 ⊢
  show J _ _ _ _ _ _ _ _ _ [.int rv] (hh ++ (hM0.map (jSh 94) ++ [])) _
  refine J_aload_n (i := 2) (a := 2) rfl rfl (dk_L_law 621 _ rfl) ?_
  refine jVF94 hl2 (d' := 12) (As := []) ok_X7_quiet vi_X7_quiet cl_8_74 (n := 0) (by decide +kernel) rfl rfl (Nat.le_of_ble_eq_true rfl) (by decide) (dk_L_law 622 _ rfl) rfl hM (fun r h' hq => ⟨hq.2.trans lM.symm, by rw [hq.1]; rfl⟩) (fun r h' hq => ?_)
  obtain ⟨rfl, -⟩ := hq
  show J _ _ _ _ _ _ _ _ _ [.int rv, .int rv] _ _
  refine J_icT (tgt := 1309) (by decide) (dk_L_law 625 _ rfl) (rfl) ?_
  exact law_next
set_option maxHeartbeats 4000000 in
set_option maxRecDepth 1000000 in
theorem law_c14 : J m_L_law true 6 xs 20 kc ks 630 zL [] hN2 lawQ := by
  obtain ⟨rv, hX, hM⟩ := o_foundling (xs 1) (xs 2)
  refine J_aload_n (i := 1) (a := 1) rfl rfl (dk_L_law 630 _ rfl) ?_
  refine J_sload_n (i := 0) (a := 0) rfl rfl (dk_L_law 631 _ rfl) ?_
  refine J_iload_n (i := 3) (a := 3) rfl rfl (dk_L_law 632 _ rfl) ?_
  refine J_iconst (v := 1) (by decide) (dk_L_law 633 _ rfl) ?_
  refine J_iaddC (v := 1) (by decide) (dk_L_law 634 _ rfl) ?_
  refine J_sldC (v := xs 1) rfl (vp6 (k := 1) (by decide)) rfl (dk_L_law 635 _ rfl) ?_
  refine J_sload_n (i := 0) (a := 0) rfl rfl (dk_L_law 636 _ rfl) ?_
  refine J_iload_n (i := 3) (a := 3) rfl rfl (dk_L_law 637 _ rfl) ?_
  refine J_iconst (v := 2) (by decide) (dk_L_law 638 _ rfl) ?_
  refine J_iaddC (v := 2) (by decide) (dk_L_law 639 _ rfl) ?_
  refine J_sldC (v := xs 2) rfl (vp6 (k := 2) (by decide)) rfl (dk_L_law 640 _ rfl) ?_
  refine J_callVF (h1 := []) (h2 := hN0) (h3 := hM0.map (jSh 94) ++ []) (b := 0) (d' := 12) (As := [.int (xs 1), .int (xs 2)]) ok_X6_foundling vi_X6_foundling cl_8_75 (n := 2) (by decide +kernel) rfl rfl rfl rfl jSumN (by decide) (dk_L_law 641 _ rfl) rfl hX (fun r h' hq => ⟨hq.2.trans lX.symm, by rw [hq.1]; rfl⟩) (fun r h' hq => ?_)
  obtain ⟨rfl, hl⟩ := hq
  have hl2 : (h'.map (jSh ([] : jH).length)).length = 94 := by rw [List.length_map]; exact hl
  generalize h'.map (jSh ([] : jH).length) = hh at hl2 ⊢
  show J _ _ _ _ _ _ _ _ _ [.int rv] (hh ++ (hM0.map (jSh 94) ++ [])) _
  refine J_aload_n (i := 2) (a := 2) rfl rfl (dk_L_law 644 _ rfl) ?_
  refine J_sload_n (i := 0) (a := 0) rfl rfl (dk_L_law 645 _ rfl) ?_
  refine J_iload_n (i := 3) (a := 3) rfl rfl (dk_L_law 646 _ rfl) ?_
  refine J_iconst (v := 1) (by decide) (dk_L_law 647 _ rfl) ?_
  refine J_iaddC (v := 1) (by decide) (dk_L_law 648 _ rfl) ?_
  refine J_sldC (v := xs 1) rfl (vp6 (k := 1) (by decide)) rfl (dk_L_law 649 _ rfl) ?_
  refine J_sload_n (i := 0) (a := 0) rfl rfl (dk_L_law 650 _ rfl) ?_
  refine J_iload_n (i := 3) (a := 3) rfl rfl (dk_L_law 651 _ rfl) ?_
  refine J_iconst (v := 2) (by decide) (dk_L_law 652 _ rfl) ?_
  refine J_iaddC (v := 2) (by decide) (dk_L_law 653 _ rfl) ?_
  refine J_sldC (v := xs 2) rfl (vp6 (k := 2) (by decide)) rfl (dk_L_law 654 _ rfl) ?_
  refine jVF94 hl2 (d' := 12) (As := [.int (xs 1), .int (xs 2)]) ok_X7_foundling vi_X7_foundling cl_8_78 (n := 2) (by decide +kernel) rfl rfl (Nat.le_of_ble_eq_true rfl) (by decide) (dk_L_law 655 _ rfl) rfl hM (fun r h' hq => ⟨hq.2.trans lM.symm, by rw [hq.1]; rfl⟩) (fun r h' hq => ?_)
  obtain ⟨rfl, -⟩ := hq
  show J _ _ _ _ _ _ _ _ _ [.int rv, .int rv] _ _
  refine J_icT (tgt := 1309) (by decide) (dk_L_law 658 _ rfl) (rfl) ?_
  exact law_next
set_option maxHeartbeats 4000000 in
set_option maxRecDepth 1000000 in
theorem law_c15 : J m_L_law true 6 xs 20 kc ks 663 zL [] hN2 lawQ := by
  obtain ⟨rv, hX, hM⟩ := o_forged (xs 1)
  refine J_aload_n (i := 1) (a := 1) rfl rfl (dk_L_law 663 _ rfl) ?_
  refine J_sload_n (i := 0) (a := 0) rfl rfl (dk_L_law 664 _ rfl) ?_
  refine J_iload_n (i := 3) (a := 3) rfl rfl (dk_L_law 665 _ rfl) ?_
  refine J_iconst (v := 1) (by decide) (dk_L_law 666 _ rfl) ?_
  refine J_iaddC (v := 1) (by decide) (dk_L_law 667 _ rfl) ?_
  refine J_sldC (v := xs 1) rfl (vp6 (k := 1) (by decide)) rfl (dk_L_law 668 _ rfl) ?_
  refine J_callVF (h1 := []) (h2 := hN0) (h3 := hM0.map (jSh 94) ++ []) (b := 0) (d' := 12) (As := [.int (xs 1)]) ok_X6_forged vi_X6_forged cl_8_79 (n := 1) (by decide +kernel) rfl rfl rfl rfl jSumN (by decide) (dk_L_law 669 _ rfl) rfl hX (fun r h' hq => ⟨hq.2.trans lX.symm, by rw [hq.1]; rfl⟩) (fun r h' hq => ?_)
  obtain ⟨rfl, hl⟩ := hq
  have hl2 : (h'.map (jSh ([] : jH).length)).length = 94 := by rw [List.length_map]; exact hl
  generalize h'.map (jSh ([] : jH).length) = hh at hl2 ⊢
  show J _ _ _ _ _ _ _ _ _ [.int rv] (hh ++ (hM0.map (jSh 94) ++ [])) _
  refine J_aload_n (i := 2) (a := 2) rfl rfl (dk_L_law 672 _ rfl) ?_
  refine J_sload_n (i := 0) (a := 0) rfl rfl (dk_L_law 673 _ rfl) ?_
  refine J_iload_n (i := 3) (a := 3) rfl rfl (dk_L_law 674 _ rfl) ?_
  refine J_iconst (v := 1) (by decide) (dk_L_law 675 _ rfl) ?_
  refine J_iaddC (v := 1) (by decide) (dk_L_law 676 _ rfl) ?_
  refine J_sldC (v := xs 1) rfl (vp6 (k := 1) (by decide)) rfl (dk_L_law 677 _ rfl) ?_
  refine jVF94 hl2 (d' := 12) (As := [.int (xs 1)]) ok_X7_forged vi_X7_forged cl_8_82 (n := 1) (by decide +kernel) rfl rfl (Nat.le_of_ble_eq_true rfl) (by decide) (dk_L_law 678 _ rfl) rfl hM (fun r h' hq => ⟨hq.2.trans lM.symm, by rw [hq.1]; rfl⟩) (fun r h' hq => ?_)
  obtain ⟨rfl, -⟩ := hq
  show J _ _ _ _ _ _ _ _ _ [.int rv, .int rv] _ _
  refine J_icT (tgt := 1309) (by decide) (dk_L_law 681 _ rfl) (rfl) ?_
  exact law_next
set_option maxHeartbeats 4000000 in
set_option maxRecDepth 1000000 in
theorem law_c16 : J m_L_law true 6 xs 20 kc ks 686 zL [] hN2 lawQ := by
  obtain ⟨rv, hX, hM⟩ := o_change (xs 1)
  refine J_aload_n (i := 1) (a := 1) rfl rfl (dk_L_law 686 _ rfl) ?_
  refine J_sload_n (i := 0) (a := 0) rfl rfl (dk_L_law 687 _ rfl) ?_
  refine J_iload_n (i := 3) (a := 3) rfl rfl (dk_L_law 688 _ rfl) ?_
  refine J_iconst (v := 1) (by decide) (dk_L_law 689 _ rfl) ?_
  refine J_iaddC (v := 1) (by decide) (dk_L_law 690 _ rfl) ?_
  refine J_sldC (v := xs 1) rfl (vp6 (k := 1) (by decide)) rfl (dk_L_law 691 _ rfl) ?_
  refine J_callVF (h1 := []) (h2 := hN0) (h3 := hM0.map (jSh 94) ++ []) (b := 0) (d' := 12) (As := [.int (xs 1)]) ok_X6_change vi_X6_change cl_8_83 (n := 1) (by decide +kernel) rfl rfl rfl rfl jSumN (by decide) (dk_L_law 692 _ rfl) rfl hX (fun r h' hq => ⟨hq.2.trans lX.symm, by rw [hq.1]; rfl⟩) (fun r h' hq => ?_)
  obtain ⟨rfl, hl⟩ := hq
  have hl2 : (h'.map (jSh ([] : jH).length)).length = 94 := by rw [List.length_map]; exact hl
  generalize h'.map (jSh ([] : jH).length) = hh at hl2 ⊢
  show J _ _ _ _ _ _ _ _ _ [.int rv] (hh ++ (hM0.map (jSh 94) ++ [])) _
  refine J_aload_n (i := 2) (a := 2) rfl rfl (dk_L_law 695 _ rfl) ?_
  refine J_sload_n (i := 0) (a := 0) rfl rfl (dk_L_law 696 _ rfl) ?_
  refine J_iload_n (i := 3) (a := 3) rfl rfl (dk_L_law 697 _ rfl) ?_
  refine J_iconst (v := 1) (by decide) (dk_L_law 698 _ rfl) ?_
  refine J_iaddC (v := 1) (by decide) (dk_L_law 699 _ rfl) ?_
  refine J_sldC (v := xs 1) rfl (vp6 (k := 1) (by decide)) rfl (dk_L_law 700 _ rfl) ?_
  refine jVF94 hl2 (d' := 12) (As := [.int (xs 1)]) ok_X7_change vi_X7_change cl_8_86 (n := 1) (by decide +kernel) rfl rfl (Nat.le_of_ble_eq_true rfl) (by decide) (dk_L_law 701 _ rfl) rfl hM (fun r h' hq => ⟨hq.2.trans lM.symm, by rw [hq.1]; rfl⟩) (fun r h' hq => ?_)
  obtain ⟨rfl, -⟩ := hq
  show J _ _ _ _ _ _ _ _ _ [.int rv, .int rv] _ _
  refine J_icT (tgt := 1309) (by decide) (dk_L_law 704 _ rfl) (rfl) ?_
  exact law_next
set_option maxHeartbeats 4000000 in
set_option maxRecDepth 1000000 in
theorem law_c17 : J m_L_law true 6 xs 20 kc ks 709 zL [] hN2 lawQ := by
  obtain ⟨rv, hX, hM⟩ := o_rest (xs 1)
  refine J_aload_n (i := 1) (a := 1) rfl rfl (dk_L_law 709 _ rfl) ?_
  refine J_sload_n (i := 0) (a := 0) rfl rfl (dk_L_law 710 _ rfl) ?_
  refine J_iload_n (i := 3) (a := 3) rfl rfl (dk_L_law 711 _ rfl) ?_
  refine J_iconst (v := 1) (by decide) (dk_L_law 712 _ rfl) ?_
  refine J_iaddC (v := 1) (by decide) (dk_L_law 713 _ rfl) ?_
  refine J_sldC (v := xs 1) rfl (vp6 (k := 1) (by decide)) rfl (dk_L_law 714 _ rfl) ?_
  refine J_callVF (h1 := []) (h2 := hN0) (h3 := hM0.map (jSh 94) ++ []) (b := 0) (d' := 12) (As := [.int (xs 1)]) ok_X6_rest vi_X6_rest cl_8_87 (n := 1) (by decide +kernel) rfl rfl rfl rfl jSumN (by decide) (dk_L_law 715 _ rfl) rfl hX (fun r h' hq => ⟨hq.2.trans lX.symm, by rw [hq.1]; rfl⟩) (fun r h' hq => ?_)
  obtain ⟨rfl, hl⟩ := hq
  have hl2 : (h'.map (jSh ([] : jH).length)).length = 94 := by rw [List.length_map]; exact hl
  generalize h'.map (jSh ([] : jH).length) = hh at hl2 ⊢
  show J _ _ _ _ _ _ _ _ _ [.int rv] (hh ++ (hM0.map (jSh 94) ++ [])) _
  refine J_aload_n (i := 2) (a := 2) rfl rfl (dk_L_law 718 _ rfl) ?_
  refine J_sload_n (i := 0) (a := 0) rfl rfl (dk_L_law 719 _ rfl) ?_
  refine J_iload_n (i := 3) (a := 3) rfl rfl (dk_L_law 720 _ rfl) ?_
  refine J_iconst (v := 1) (by decide) (dk_L_law 721 _ rfl) ?_
  refine J_iaddC (v := 1) (by decide) (dk_L_law 722 _ rfl) ?_
  refine J_sldC (v := xs 1) rfl (vp6 (k := 1) (by decide)) rfl (dk_L_law 723 _ rfl) ?_
  refine jVF94 hl2 (d' := 12) (As := [.int (xs 1)]) ok_X7_rest vi_X7_rest cl_8_90 (n := 1) (by decide +kernel) rfl rfl (Nat.le_of_ble_eq_true rfl) (by decide) (dk_L_law 724 _ rfl) rfl hM (fun r h' hq => ⟨hq.2.trans lM.symm, by rw [hq.1]; rfl⟩) (fun r h' hq => ?_)
  obtain ⟨rfl, -⟩ := hq
  show J _ _ _ _ _ _ _ _ _ [.int rv, .int rv] _ _
  refine J_icT (tgt := 1309) (by decide) (dk_L_law 727 _ rfl) (rfl) ?_
  exact law_next
set_option maxHeartbeats 4000000 in
set_option maxRecDepth 1000000 in
theorem law_c18 : J m_L_law true 6 xs 20 kc ks 732 zL [] hN2 lawQ := by
  obtain ⟨rv, hX, hM⟩ := o_reckoning (xs 1)
  refine J_aload_n (i := 1) (a := 1) rfl rfl (dk_L_law 732 _ rfl) ?_
  refine J_sload_n (i := 0) (a := 0) rfl rfl (dk_L_law 733 _ rfl) ?_
  refine J_iload_n (i := 3) (a := 3) rfl rfl (dk_L_law 734 _ rfl) ?_
  refine J_iconst (v := 1) (by decide) (dk_L_law 735 _ rfl) ?_
  refine J_iaddC (v := 1) (by decide) (dk_L_law 736 _ rfl) ?_
  refine J_sldC (v := xs 1) rfl (vp6 (k := 1) (by decide)) rfl (dk_L_law 737 _ rfl) ?_
  refine J_callVF (h1 := []) (h2 := hN0) (h3 := hM0.map (jSh 94) ++ []) (b := 0) (d' := 12) (As := [.int (xs 1)]) ok_X6_reckoning vi_X6_reckoning cl_8_91 (n := 1) (by decide +kernel) rfl rfl rfl rfl jSumN (by decide) (dk_L_law 738 _ rfl) rfl hX (fun r h' hq => ⟨hq.2.trans lX.symm, by rw [hq.1]; rfl⟩) (fun r h' hq => ?_)
  obtain ⟨rfl, hl⟩ := hq
  have hl2 : (h'.map (jSh ([] : jH).length)).length = 94 := by rw [List.length_map]; exact hl
  generalize h'.map (jSh ([] : jH).length) = hh at hl2 ⊢
  show J _ _ _ _ _ _ _ _ _ [.int rv] (hh ++ (hM0.map (jSh 94) ++ [])) _
  refine J_aload_n (i := 2) (a := 2) rfl rfl (dk_L_law 741 _ rfl) ?_
  refine J_sload_n (i := 0) (a := 0) rfl rfl (dk_L_law 742 _ rfl) ?_
  refine J_iload_n (i := 3) (a := 3) rfl rfl (dk_L_law 743 _ rfl) ?_
  refine J_iconst (v := 1) (by decide) (dk_L_law 744 _ rfl) ?_
  refine J_iaddC (v := 1) (by decide) (dk_L_law 745 _ rfl) ?_
  refine J_sldC (v := xs 1) rfl (vp6 (k := 1) (by decide)) rfl (dk_L_law 746 _ rfl) ?_
  refine jVF94 hl2 (d' := 12) (As := [.int (xs 1)]) ok_X7_reckoning vi_X7_reckoning cl_8_94 (n := 1) (by decide +kernel) rfl rfl (Nat.le_of_ble_eq_true rfl) (by decide) (dk_L_law 747 _ rfl) rfl hM (fun r h' hq => ⟨hq.2.trans lM.symm, by rw [hq.1]; rfl⟩) (fun r h' hq => ?_)
  obtain ⟨rfl, -⟩ := hq
  show J _ _ _ _ _ _ _ _ _ [.int rv, .int rv] _ _
  refine J_icT (tgt := 1309) (by decide) (dk_L_law 750 _ rfl) (rfl) ?_
  exact law_next
set_option maxHeartbeats 4000000 in
set_option maxRecDepth 1000000 in
theorem law_c19 : J m_L_law true 6 xs 20 kc ks 755 zL [] hN2 lawQ := by
  obtain ⟨rv, hX, hM⟩ := o_high (xs 1)
  refine J_aload_n (i := 1) (a := 1) rfl rfl (dk_L_law 755 _ rfl) ?_
  refine J_sload_n (i := 0) (a := 0) rfl rfl (dk_L_law 756 _ rfl) ?_
  refine J_iload_n (i := 3) (a := 3) rfl rfl (dk_L_law 757 _ rfl) ?_
  refine J_iconst (v := 1) (by decide) (dk_L_law 758 _ rfl) ?_
  refine J_iaddC (v := 1) (by decide) (dk_L_law 759 _ rfl) ?_
  refine J_sldC (v := xs 1) rfl (vp6 (k := 1) (by decide)) rfl (dk_L_law 760 _ rfl) ?_
  refine J_callVF (h1 := []) (h2 := hN0) (h3 := hM0.map (jSh 94) ++ []) (b := 0) (d' := 12) (As := [.int (xs 1)]) ok_X6_high vi_X6_high cl_8_95 (n := 1) (by decide +kernel) rfl rfl rfl rfl jSumN (by decide) (dk_L_law 761 _ rfl) rfl hX (fun r h' hq => ⟨hq.2.trans lX.symm, by rw [hq.1]; rfl⟩) (fun r h' hq => ?_)
  obtain ⟨rfl, hl⟩ := hq
  have hl2 : (h'.map (jSh ([] : jH).length)).length = 94 := by rw [List.length_map]; exact hl
  generalize h'.map (jSh ([] : jH).length) = hh at hl2 ⊢
  show J _ _ _ _ _ _ _ _ _ [.int rv] (hh ++ (hM0.map (jSh 94) ++ [])) _
  refine J_aload_n (i := 2) (a := 2) rfl rfl (dk_L_law 764 _ rfl) ?_
  refine J_sload_n (i := 0) (a := 0) rfl rfl (dk_L_law 765 _ rfl) ?_
  refine J_iload_n (i := 3) (a := 3) rfl rfl (dk_L_law 766 _ rfl) ?_
  refine J_iconst (v := 1) (by decide) (dk_L_law 767 _ rfl) ?_
  refine J_iaddC (v := 1) (by decide) (dk_L_law 768 _ rfl) ?_
  refine J_sldC (v := xs 1) rfl (vp6 (k := 1) (by decide)) rfl (dk_L_law 769 _ rfl) ?_
  refine jVF94 hl2 (d' := 12) (As := [.int (xs 1)]) ok_X7_high vi_X7_high cl_8_98 (n := 1) (by decide +kernel) rfl rfl (Nat.le_of_ble_eq_true rfl) (by decide) (dk_L_law 770 _ rfl) rfl hM (fun r h' hq => ⟨hq.2.trans lM.symm, by rw [hq.1]; rfl⟩) (fun r h' hq => ?_)
  obtain ⟨rfl, -⟩ := hq
  show J _ _ _ _ _ _ _ _ _ [.int rv, .int rv] _ _
  refine J_icT (tgt := 1309) (by decide) (dk_L_law 773 _ rfl) (rfl) ?_
  exact law_next
set_option maxHeartbeats 4000000 in
set_option maxRecDepth 1000000 in
theorem law_c20 : J m_L_law true 6 xs 20 kc ks 778 zL [] hN2 lawQ := by
  obtain ⟨rv, hX, hM⟩ := o_last (xs 1)
  refine J_aload_n (i := 1) (a := 1) rfl rfl (dk_L_law 778 _ rfl) ?_
  refine J_sload_n (i := 0) (a := 0) rfl rfl (dk_L_law 779 _ rfl) ?_
  refine J_iload_n (i := 3) (a := 3) rfl rfl (dk_L_law 780 _ rfl) ?_
  refine J_iconst (v := 1) (by decide) (dk_L_law 781 _ rfl) ?_
  refine J_iaddC (v := 1) (by decide) (dk_L_law 782 _ rfl) ?_
  refine J_sldC (v := xs 1) rfl (vp6 (k := 1) (by decide)) rfl (dk_L_law 783 _ rfl) ?_
  refine J_callVF (h1 := []) (h2 := hN0) (h3 := hM0.map (jSh 94) ++ []) (b := 0) (d' := 12) (As := [.int (xs 1)]) ok_X6_last vi_X6_last cl_8_99 (n := 1) (by decide +kernel) rfl rfl rfl rfl jSumN (by decide) (dk_L_law 784 _ rfl) rfl hX (fun r h' hq => ⟨hq.2.trans lX.symm, by rw [hq.1]; rfl⟩) (fun r h' hq => ?_)
  obtain ⟨rfl, hl⟩ := hq
  have hl2 : (h'.map (jSh ([] : jH).length)).length = 94 := by rw [List.length_map]; exact hl
  generalize h'.map (jSh ([] : jH).length) = hh at hl2 ⊢
  show J _ _ _ _ _ _ _ _ _ [.int rv] (hh ++ (hM0.map (jSh 94) ++ [])) _
  refine J_aload_n (i := 2) (a := 2) rfl rfl (dk_L_law 787 _ rfl) ?_
  refine J_sload_n (i := 0) (a := 0) rfl rfl (dk_L_law 788 _ rfl) ?_
  refine J_iload_n (i := 3) (a := 3) rfl rfl (dk_L_law 789 _ rfl) ?_
  refine J_iconst (v := 1) (by decide) (dk_L_law 790 _ rfl) ?_
  refine J_iaddC (v := 1) (by decide) (dk_L_law 791 _ rfl) ?_
  refine J_sldC (v := xs 1) rfl (vp6 (k := 1) (by decide)) rfl (dk_L_law 792 _ rfl) ?_
  refine jVF94 hl2 (d' := 12) (As := [.int (xs 1)]) ok_X7_last vi_X7_last cl_8_102 (n := 1) (by decide +kernel) rfl rfl (Nat.le_of_ble_eq_true rfl) (by decide) (dk_L_law 793 _ rfl) rfl hM (fun r h' hq => ⟨hq.2.trans lM.symm, by rw [hq.1]; rfl⟩) (fun r h' hq => ?_)
  obtain ⟨rfl, -⟩ := hq
  show J _ _ _ _ _ _ _ _ _ [.int rv, .int rv] _ _
  refine J_icT (tgt := 1309) (by decide) (dk_L_law 796 _ rfl) (rfl) ?_
  exact law_next
set_option maxHeartbeats 4000000 in
set_option maxRecDepth 1000000 in
theorem law_c21 : J m_L_law true 6 xs 20 kc ks 801 zL [] hN2 lawQ := by
  obtain ⟨rv, hX, hM⟩ := o_odds (xs 1) (xs 2) (xs 3)
  refine J_aload_n (i := 1) (a := 1) rfl rfl (dk_L_law 801 _ rfl) ?_
  refine J_sload_n (i := 0) (a := 0) rfl rfl (dk_L_law 802 _ rfl) ?_
  refine J_iload_n (i := 3) (a := 3) rfl rfl (dk_L_law 803 _ rfl) ?_
  refine J_iconst (v := 1) (by decide) (dk_L_law 804 _ rfl) ?_
  refine J_iaddC (v := 1) (by decide) (dk_L_law 805 _ rfl) ?_
  refine J_sldC (v := xs 1) rfl (vp6 (k := 1) (by decide)) rfl (dk_L_law 806 _ rfl) ?_
  refine J_sload_n (i := 0) (a := 0) rfl rfl (dk_L_law 807 _ rfl) ?_
  refine J_iload_n (i := 3) (a := 3) rfl rfl (dk_L_law 808 _ rfl) ?_
  refine J_iconst (v := 2) (by decide) (dk_L_law 809 _ rfl) ?_
  refine J_iaddC (v := 2) (by decide) (dk_L_law 810 _ rfl) ?_
  refine J_sldC (v := xs 2) rfl (vp6 (k := 2) (by decide)) rfl (dk_L_law 811 _ rfl) ?_
  refine J_sload_n (i := 0) (a := 0) rfl rfl (dk_L_law 812 _ rfl) ?_
  refine J_iload_n (i := 3) (a := 3) rfl rfl (dk_L_law 813 _ rfl) ?_
  refine J_iconst (v := 3) (by decide) (dk_L_law 814 _ rfl) ?_
  refine J_iaddC (v := 3) (by decide) (dk_L_law 815 _ rfl) ?_
  refine J_sldC (v := xs 3) rfl (vp6 (k := 3) (by decide)) rfl (dk_L_law 816 _ rfl) ?_
  refine J_callVF (h1 := []) (h2 := hN0) (h3 := hM0.map (jSh 94) ++ []) (b := 0) (d' := 12) (As := [.int (xs 1), .int (xs 2), .int (xs 3)]) ok_X6_odds vi_X6_odds cl_8_103 (n := 3) (by decide +kernel) rfl rfl rfl rfl jSumN (by decide) (dk_L_law 817 _ rfl) rfl hX (fun r h' hq => ⟨hq.2.trans lX.symm, by rw [hq.1]; rfl⟩) (fun r h' hq => ?_)
  obtain ⟨rfl, hl⟩ := hq
  have hl2 : (h'.map (jSh ([] : jH).length)).length = 94 := by rw [List.length_map]; exact hl
  generalize h'.map (jSh ([] : jH).length) = hh at hl2 ⊢
  show J _ _ _ _ _ _ _ _ _ [.long rv] (hh ++ (hM0.map (jSh 94) ++ [])) _
  refine J_aload_n (i := 2) (a := 2) rfl rfl (dk_L_law 820 _ rfl) ?_
  refine J_sload_n (i := 0) (a := 0) rfl rfl (dk_L_law 821 _ rfl) ?_
  refine J_iload_n (i := 3) (a := 3) rfl rfl (dk_L_law 822 _ rfl) ?_
  refine J_iconst (v := 1) (by decide) (dk_L_law 823 _ rfl) ?_
  refine J_iaddC (v := 1) (by decide) (dk_L_law 824 _ rfl) ?_
  refine J_sldC (v := xs 1) rfl (vp6 (k := 1) (by decide)) rfl (dk_L_law 825 _ rfl) ?_
  refine J_sload_n (i := 0) (a := 0) rfl rfl (dk_L_law 826 _ rfl) ?_
  refine J_iload_n (i := 3) (a := 3) rfl rfl (dk_L_law 827 _ rfl) ?_
  refine J_iconst (v := 2) (by decide) (dk_L_law 828 _ rfl) ?_
  refine J_iaddC (v := 2) (by decide) (dk_L_law 829 _ rfl) ?_
  refine J_sldC (v := xs 2) rfl (vp6 (k := 2) (by decide)) rfl (dk_L_law 830 _ rfl) ?_
  refine J_sload_n (i := 0) (a := 0) rfl rfl (dk_L_law 831 _ rfl) ?_
  refine J_iload_n (i := 3) (a := 3) rfl rfl (dk_L_law 832 _ rfl) ?_
  refine J_iconst (v := 3) (by decide) (dk_L_law 833 _ rfl) ?_
  refine J_iaddC (v := 3) (by decide) (dk_L_law 834 _ rfl) ?_
  refine J_sldC (v := xs 3) rfl (vp6 (k := 3) (by decide)) rfl (dk_L_law 835 _ rfl) ?_
  refine jVF94 hl2 (d' := 12) (As := [.int (xs 1), .int (xs 2), .int (xs 3)]) ok_X7_odds vi_X7_odds cl_8_107 (n := 3) (by decide +kernel) rfl rfl (Nat.le_of_ble_eq_true rfl) (by decide) (dk_L_law 836 _ rfl) rfl hM (fun r h' hq => ⟨hq.2.trans lM.symm, by rw [hq.1]; rfl⟩) (fun r h' hq => ?_)
  obtain ⟨rfl, -⟩ := hq
  show J _ _ _ _ _ _ _ _ _ [.long rv, .long rv] _ _
  refine J_lcmp (dk_L_law 839 _ rfl) ?_
  refine J_ifT (tgt := 1309) (by decide) (dk_L_law 840 _ rfl) (by show lg_cmp rv rv = 0; simp [lg_cmp]) ?_
  exact law_next
set_option maxHeartbeats 4000000 in
set_option maxRecDepth 1000000 in
theorem law_c22 : J m_L_law true 6 xs 20 kc ks 845 zL [] hN2 lawQ := by
  obtain ⟨rv, hX, hM⟩ := o_mean (xs 1)
  refine J_aload_n (i := 1) (a := 1) rfl rfl (dk_L_law 845 _ rfl) ?_
  refine J_sload_n (i := 0) (a := 0) rfl rfl (dk_L_law 846 _ rfl) ?_
  refine J_iload_n (i := 3) (a := 3) rfl rfl (dk_L_law 847 _ rfl) ?_
  refine J_iconst (v := 1) (by decide) (dk_L_law 848 _ rfl) ?_
  refine J_iaddC (v := 1) (by decide) (dk_L_law 849 _ rfl) ?_
  refine J_sldC (v := xs 1) rfl (vp6 (k := 1) (by decide)) rfl (dk_L_law 850 _ rfl) ?_
  refine J_callVF (h1 := []) (h2 := hN0) (h3 := hM0.map (jSh 94) ++ []) (b := 0) (d' := 12) (As := [.int (xs 1)]) ok_X6_mean vi_X6_mean cl_8_108 (n := 1) (by decide +kernel) rfl rfl rfl rfl jSumN (by decide) (dk_L_law 851 _ rfl) rfl hX (fun r h' hq => ⟨hq.2.trans lX.symm, by rw [hq.1]; rfl⟩) (fun r h' hq => ?_)
  obtain ⟨rfl, hl⟩ := hq
  have hl2 : (h'.map (jSh ([] : jH).length)).length = 94 := by rw [List.length_map]; exact hl
  generalize h'.map (jSh ([] : jH).length) = hh at hl2 ⊢
  show J _ _ _ _ _ _ _ _ _ [.long rv] (hh ++ (hM0.map (jSh 94) ++ [])) _
  refine J_aload_n (i := 2) (a := 2) rfl rfl (dk_L_law 854 _ rfl) ?_
  refine J_sload_n (i := 0) (a := 0) rfl rfl (dk_L_law 855 _ rfl) ?_
  refine J_iload_n (i := 3) (a := 3) rfl rfl (dk_L_law 856 _ rfl) ?_
  refine J_iconst (v := 1) (by decide) (dk_L_law 857 _ rfl) ?_
  refine J_iaddC (v := 1) (by decide) (dk_L_law 858 _ rfl) ?_
  refine J_sldC (v := xs 1) rfl (vp6 (k := 1) (by decide)) rfl (dk_L_law 859 _ rfl) ?_
  refine jVF94 hl2 (d' := 12) (As := [.int (xs 1)]) ok_X7_mean vi_X7_mean cl_8_112 (n := 1) (by decide +kernel) rfl rfl (Nat.le_of_ble_eq_true rfl) (by decide) (dk_L_law 860 _ rfl) rfl hM (fun r h' hq => ⟨hq.2.trans lM.symm, by rw [hq.1]; rfl⟩) (fun r h' hq => ?_)
  obtain ⟨rfl, -⟩ := hq
  show J _ _ _ _ _ _ _ _ _ [.long rv, .long rv] _ _
  refine J_lcmp (dk_L_law 863 _ rfl) ?_
  refine J_ifT (tgt := 1309) (by decide) (dk_L_law 864 _ rfl) (by show lg_cmp rv rv = 0; simp [lg_cmp]) ?_
  exact law_next
set_option maxHeartbeats 4000000 in
set_option maxRecDepth 1000000 in
theorem law_c23 : J m_L_law true 6 xs 20 kc ks 869 zL [] hN2 lawQ := by
  obtain ⟨rv, hX, hM⟩ := o_book (xs 1)
  refine J_aload_n (i := 1) (a := 1) rfl rfl (dk_L_law 869 _ rfl) ?_
  refine J_sload_n (i := 0) (a := 0) rfl rfl (dk_L_law 870 _ rfl) ?_
  refine J_iload_n (i := 3) (a := 3) rfl rfl (dk_L_law 871 _ rfl) ?_
  refine J_iconst (v := 1) (by decide) (dk_L_law 872 _ rfl) ?_
  refine J_iaddC (v := 1) (by decide) (dk_L_law 873 _ rfl) ?_
  refine J_sldC (v := xs 1) rfl (vp6 (k := 1) (by decide)) rfl (dk_L_law 874 _ rfl) ?_
  refine J_callVF (h1 := []) (h2 := hN0) (h3 := hM0.map (jSh 94) ++ []) (b := 0) (d' := 12) (As := [.int (xs 1)]) ok_X6_book vi_X6_book cl_8_113 (n := 1) (by decide +kernel) rfl rfl rfl rfl jSumN (by decide) (dk_L_law 875 _ rfl) rfl hX (fun r h' hq => ⟨hq.2.trans lX.symm, by rw [hq.1]; rfl⟩) (fun r h' hq => ?_)
  obtain ⟨rfl, hl⟩ := hq
  have hl2 : (h'.map (jSh ([] : jH).length)).length = 94 := by rw [List.length_map]; exact hl
  generalize h'.map (jSh ([] : jH).length) = hh at hl2 ⊢
  show J _ _ _ _ _ _ _ _ _ [.int rv] (hh ++ (hM0.map (jSh 94) ++ [])) _
  refine J_aload_n (i := 2) (a := 2) rfl rfl (dk_L_law 878 _ rfl) ?_
  refine J_sload_n (i := 0) (a := 0) rfl rfl (dk_L_law 879 _ rfl) ?_
  refine J_iload_n (i := 3) (a := 3) rfl rfl (dk_L_law 880 _ rfl) ?_
  refine J_iconst (v := 1) (by decide) (dk_L_law 881 _ rfl) ?_
  refine J_iaddC (v := 1) (by decide) (dk_L_law 882 _ rfl) ?_
  refine J_sldC (v := xs 1) rfl (vp6 (k := 1) (by decide)) rfl (dk_L_law 883 _ rfl) ?_
  refine jVF94 hl2 (d' := 12) (As := [.int (xs 1)]) ok_X7_book vi_X7_book cl_8_116 (n := 1) (by decide +kernel) rfl rfl (Nat.le_of_ble_eq_true rfl) (by decide) (dk_L_law 884 _ rfl) rfl hM (fun r h' hq => ⟨hq.2.trans lM.symm, by rw [hq.1]; rfl⟩) (fun r h' hq => ?_)
  obtain ⟨rfl, -⟩ := hq
  show J _ _ _ _ _ _ _ _ _ [.int rv, .int rv] _ _
  refine J_icT (tgt := 1309) (by decide) (dk_L_law 887 _ rfl) (rfl) ?_
  exact law_next
set_option maxHeartbeats 4000000 in
set_option maxRecDepth 1000000 in
theorem law_c24 : J m_L_law true 6 xs 20 kc ks 892 zL [] hN2 lawQ := by
  obtain ⟨rv, hX, hM⟩ := o_looked (xs 1)
  refine J_aload_n (i := 1) (a := 1) rfl rfl (dk_L_law 892 _ rfl) ?_
  refine J_sload_n (i := 0) (a := 0) rfl rfl (dk_L_law 893 _ rfl) ?_
  refine J_iload_n (i := 3) (a := 3) rfl rfl (dk_L_law 894 _ rfl) ?_
  refine J_iconst (v := 1) (by decide) (dk_L_law 895 _ rfl) ?_
  refine J_iaddC (v := 1) (by decide) (dk_L_law 896 _ rfl) ?_
  refine J_sldC (v := xs 1) rfl (vp6 (k := 1) (by decide)) rfl (dk_L_law 897 _ rfl) ?_
  refine J_callVF (h1 := []) (h2 := hN0) (h3 := hM0.map (jSh 94) ++ []) (b := 0) (d' := 12) (As := [.int (xs 1)]) ok_X6_looked vi_X6_looked cl_8_117 (n := 1) (by decide +kernel) rfl rfl rfl rfl jSumN (by decide) (dk_L_law 898 _ rfl) rfl hX (fun r h' hq => ⟨hq.2.trans lX.symm, by rw [hq.1]; rfl⟩) (fun r h' hq => ?_)
  obtain ⟨rfl, hl⟩ := hq
  have hl2 : (h'.map (jSh ([] : jH).length)).length = 94 := by rw [List.length_map]; exact hl
  generalize h'.map (jSh ([] : jH).length) = hh at hl2 ⊢
  show J _ _ _ _ _ _ _ _ _ [.int rv] (hh ++ (hM0.map (jSh 94) ++ [])) _
  refine J_aload_n (i := 2) (a := 2) rfl rfl (dk_L_law 901 _ rfl) ?_
  refine J_sload_n (i := 0) (a := 0) rfl rfl (dk_L_law 902 _ rfl) ?_
  refine J_iload_n (i := 3) (a := 3) rfl rfl (dk_L_law 903 _ rfl) ?_
  refine J_iconst (v := 1) (by decide) (dk_L_law 904 _ rfl) ?_
  refine J_iaddC (v := 1) (by decide) (dk_L_law 905 _ rfl) ?_
  refine J_sldC (v := xs 1) rfl (vp6 (k := 1) (by decide)) rfl (dk_L_law 906 _ rfl) ?_
  refine jVF94 hl2 (d' := 12) (As := [.int (xs 1)]) ok_X7_looked vi_X7_looked cl_8_120 (n := 1) (by decide +kernel) rfl rfl (Nat.le_of_ble_eq_true rfl) (by decide) (dk_L_law 907 _ rfl) rfl hM (fun r h' hq => ⟨hq.2.trans lM.symm, by rw [hq.1]; rfl⟩) (fun r h' hq => ?_)
  obtain ⟨rfl, -⟩ := hq
  show J _ _ _ _ _ _ _ _ _ [.int rv, .int rv] _ _
  refine J_icT (tgt := 1309) (by decide) (dk_L_law 910 _ rfl) (rfl) ?_
  exact law_next
set_option maxHeartbeats 4000000 in
set_option maxRecDepth 1000000 in
theorem law_c25 : J m_L_law true 6 xs 20 kc ks 915 zL [] hN2 lawQ := by
  obtain ⟨rv, hX, hM⟩ := o_judge (xs 1) (xs 2)
  refine J_aload_n (i := 1) (a := 1) rfl rfl (dk_L_law 915 _ rfl) ?_
  refine J_sload_n (i := 0) (a := 0) rfl rfl (dk_L_law 916 _ rfl) ?_
  refine J_iload_n (i := 3) (a := 3) rfl rfl (dk_L_law 917 _ rfl) ?_
  refine J_iconst (v := 1) (by decide) (dk_L_law 918 _ rfl) ?_
  refine J_iaddC (v := 1) (by decide) (dk_L_law 919 _ rfl) ?_
  refine J_sldC (v := xs 1) rfl (vp6 (k := 1) (by decide)) rfl (dk_L_law 920 _ rfl) ?_
  refine J_sload_n (i := 0) (a := 0) rfl rfl (dk_L_law 921 _ rfl) ?_
  refine J_iload_n (i := 3) (a := 3) rfl rfl (dk_L_law 922 _ rfl) ?_
  refine J_iconst (v := 2) (by decide) (dk_L_law 923 _ rfl) ?_
  refine J_iaddC (v := 2) (by decide) (dk_L_law 924 _ rfl) ?_
  refine J_sldC (v := xs 2) rfl (vp6 (k := 2) (by decide)) rfl (dk_L_law 925 _ rfl) ?_
  refine J_callVF (h1 := []) (h2 := hN0) (h3 := hM0.map (jSh 94) ++ []) (b := 0) (d' := 12) (As := [.int (xs 1), .int (xs 2)]) ok_X6_judge vi_X6_judge cl_8_121 (n := 2) (by decide +kernel) rfl rfl rfl rfl jSumN (by decide) (dk_L_law 926 _ rfl) rfl hX (fun r h' hq => ⟨hq.2.trans lX.symm, by rw [hq.1]; rfl⟩) (fun r h' hq => ?_)
  obtain ⟨rfl, hl⟩ := hq
  have hl2 : (h'.map (jSh ([] : jH).length)).length = 94 := by rw [List.length_map]; exact hl
  generalize h'.map (jSh ([] : jH).length) = hh at hl2 ⊢
  show J _ _ _ _ _ _ _ _ _ [.int rv] (hh ++ (hM0.map (jSh 94) ++ [])) _
  refine J_aload_n (i := 2) (a := 2) rfl rfl (dk_L_law 929 _ rfl) ?_
  refine J_sload_n (i := 0) (a := 0) rfl rfl (dk_L_law 930 _ rfl) ?_
  refine J_iload_n (i := 3) (a := 3) rfl rfl (dk_L_law 931 _ rfl) ?_
  refine J_iconst (v := 1) (by decide) (dk_L_law 932 _ rfl) ?_
  refine J_iaddC (v := 1) (by decide) (dk_L_law 933 _ rfl) ?_
  refine J_sldC (v := xs 1) rfl (vp6 (k := 1) (by decide)) rfl (dk_L_law 934 _ rfl) ?_
  refine J_sload_n (i := 0) (a := 0) rfl rfl (dk_L_law 935 _ rfl) ?_
  refine J_iload_n (i := 3) (a := 3) rfl rfl (dk_L_law 936 _ rfl) ?_
  refine J_iconst (v := 2) (by decide) (dk_L_law 937 _ rfl) ?_
  refine J_iaddC (v := 2) (by decide) (dk_L_law 938 _ rfl) ?_
  refine J_sldC (v := xs 2) rfl (vp6 (k := 2) (by decide)) rfl (dk_L_law 939 _ rfl) ?_
  refine jVF94 hl2 (d' := 12) (As := [.int (xs 1), .int (xs 2)]) ok_X7_judge vi_X7_judge cl_8_124 (n := 2) (by decide +kernel) rfl rfl (Nat.le_of_ble_eq_true rfl) (by decide) (dk_L_law 940 _ rfl) rfl hM (fun r h' hq => ⟨hq.2.trans lM.symm, by rw [hq.1]; rfl⟩) (fun r h' hq => ?_)
  obtain ⟨rfl, -⟩ := hq
  show J _ _ _ _ _ _ _ _ _ [.int rv, .int rv] _ _
  refine J_icT (tgt := 1309) (by decide) (dk_L_law 943 _ rfl) (rfl) ?_
  exact law_next
set_option maxHeartbeats 4000000 in
set_option maxRecDepth 1000000 in
theorem law_c26 : J m_L_law true 6 xs 20 kc ks 948 zL [] hN2 lawQ := by
  obtain ⟨rv, hX, hM⟩ := o_image 
  refine J_aload_n (i := 1) (a := 1) rfl rfl (dk_L_law 948 _ rfl) ?_
  refine J_callVF (h1 := []) (h2 := hN0) (h3 := hM0.map (jSh 94) ++ []) (b := 0) (d' := 12) (As := []) ok_X6_image vi_X6_image cl_8_125 (n := 0) (by decide +kernel) rfl rfl rfl rfl jSumN (by decide) (dk_L_law 949 _ rfl) rfl hX (fun r h' hq => ⟨hq.2.trans lX.symm, by rw [hq.1]; rfl⟩) (fun r h' hq => ?_)
  obtain ⟨rfl, hl⟩ := hq
  have hl2 : (h'.map (jSh ([] : jH).length)).length = 94 := by rw [List.length_map]; exact hl
  generalize h'.map (jSh ([] : jH).length) = hh at hl2 ⊢
  show J _ _ _ _ _ _ _ _ _ [.int rv] (hh ++ (hM0.map (jSh 94) ++ [])) _
  refine J_aload_n (i := 2) (a := 2) rfl rfl (dk_L_law 952 _ rfl) ?_
  refine jVF94 hl2 (d' := 12) (As := []) ok_X7_image vi_X7_image cl_8_128 (n := 0) (by decide +kernel) rfl rfl (Nat.le_of_ble_eq_true rfl) (by decide) (dk_L_law 953 _ rfl) rfl hM (fun r h' hq => ⟨hq.2.trans lM.symm, by rw [hq.1]; rfl⟩) (fun r h' hq => ?_)
  obtain ⟨rfl, -⟩ := hq
  show J _ _ _ _ _ _ _ _ _ [.int rv, .int rv] _ _
  refine J_icT (tgt := 1309) (by decide) (dk_L_law 956 _ rfl) (rfl) ?_
  exact law_next
set_option maxHeartbeats 4000000 in
set_option maxRecDepth 1000000 in
theorem law_c27 : J m_L_law true 6 xs 20 kc ks 961 zL [] hN2 lawQ := by
  obtain ⟨rv, hX, hM⟩ := o_undo 
  refine J_aload_n (i := 1) (a := 1) rfl rfl (dk_L_law 961 _ rfl) ?_
  refine J_callVF (h1 := []) (h2 := hN0) (h3 := hM0.map (jSh 94) ++ []) (b := 0) (d' := 12) (As := []) ok_X6_undo vi_X6_undo cl_8_129 (n := 0) (by decide +kernel) rfl rfl rfl rfl jSumN (by decide) (dk_L_law 962 _ rfl) rfl hX (fun r h' hq => ⟨hq.2.trans lX.symm, by rw [hq.1]; rfl⟩) (fun r h' hq => ?_)
  obtain ⟨rfl, hl⟩ := hq
  have hl2 : (h'.map (jSh ([] : jH).length)).length = 94 := by rw [List.length_map]; exact hl
  generalize h'.map (jSh ([] : jH).length) = hh at hl2 ⊢
  show J _ _ _ _ _ _ _ _ _ [.int rv] (hh ++ (hM0.map (jSh 94) ++ [])) _
  refine J_aload_n (i := 2) (a := 2) rfl rfl (dk_L_law 965 _ rfl) ?_
  refine jVF94 hl2 (d' := 12) (As := []) ok_X7_undo vi_X7_undo cl_8_132 (n := 0) (by decide +kernel) rfl rfl (Nat.le_of_ble_eq_true rfl) (by decide) (dk_L_law 966 _ rfl) rfl hM (fun r h' hq => ⟨hq.2.trans lM.symm, by rw [hq.1]; rfl⟩) (fun r h' hq => ?_)
  obtain ⟨rfl, -⟩ := hq
  show J _ _ _ _ _ _ _ _ _ [.int rv, .int rv] _ _
  refine J_icT (tgt := 1309) (by decide) (dk_L_law 969 _ rfl) (rfl) ?_
  exact law_next
set_option maxHeartbeats 4000000 in
set_option maxRecDepth 1000000 in
theorem law_c28 : J m_L_law true 6 xs 20 kc ks 974 zL [] hN2 lawQ := by
  obtain ⟨rv, hX, hM⟩ := o_act (xs 1) (xs 2) (xs 3)
  refine J_aload_n (i := 1) (a := 1) rfl rfl (dk_L_law 974 _ rfl) ?_
  refine J_sload_n (i := 0) (a := 0) rfl rfl (dk_L_law 975 _ rfl) ?_
  refine J_iload_n (i := 3) (a := 3) rfl rfl (dk_L_law 976 _ rfl) ?_
  refine J_iconst (v := 1) (by decide) (dk_L_law 977 _ rfl) ?_
  refine J_iaddC (v := 1) (by decide) (dk_L_law 978 _ rfl) ?_
  refine J_sldC (v := xs 1) rfl (vp6 (k := 1) (by decide)) rfl (dk_L_law 979 _ rfl) ?_
  refine J_sload_n (i := 0) (a := 0) rfl rfl (dk_L_law 980 _ rfl) ?_
  refine J_iload_n (i := 3) (a := 3) rfl rfl (dk_L_law 981 _ rfl) ?_
  refine J_iconst (v := 2) (by decide) (dk_L_law 982 _ rfl) ?_
  refine J_iaddC (v := 2) (by decide) (dk_L_law 983 _ rfl) ?_
  refine J_sldC (v := xs 2) rfl (vp6 (k := 2) (by decide)) rfl (dk_L_law 984 _ rfl) ?_
  refine J_sload_n (i := 0) (a := 0) rfl rfl (dk_L_law 985 _ rfl) ?_
  refine J_iload_n (i := 3) (a := 3) rfl rfl (dk_L_law 986 _ rfl) ?_
  refine J_iconst (v := 3) (by decide) (dk_L_law 987 _ rfl) ?_
  refine J_iaddC (v := 3) (by decide) (dk_L_law 988 _ rfl) ?_
  refine J_sldC (v := xs 3) rfl (vp6 (k := 3) (by decide)) rfl (dk_L_law 989 _ rfl) ?_
  refine J_callVF (h1 := []) (h2 := hN0) (h3 := hM0.map (jSh 94) ++ []) (b := 0) (d' := 12) (As := [.int (xs 1), .int (xs 2), .int (xs 3)]) ok_X6_act vi_X6_act cl_8_133 (n := 3) (by decide +kernel) rfl rfl rfl rfl jSumN (by decide) (dk_L_law 990 _ rfl) rfl hX (fun r h' hq => ⟨hq.2.trans lX.symm, by rw [hq.1]; rfl⟩) (fun r h' hq => ?_)
  obtain ⟨rfl, hl⟩ := hq
  have hl2 : (h'.map (jSh ([] : jH).length)).length = 94 := by rw [List.length_map]; exact hl
  generalize h'.map (jSh ([] : jH).length) = hh at hl2 ⊢
  show J _ _ _ _ _ _ _ _ _ [.int rv] (hh ++ (hM0.map (jSh 94) ++ [])) _
  refine J_aload_n (i := 2) (a := 2) rfl rfl (dk_L_law 993 _ rfl) ?_
  refine J_sload_n (i := 0) (a := 0) rfl rfl (dk_L_law 994 _ rfl) ?_
  refine J_iload_n (i := 3) (a := 3) rfl rfl (dk_L_law 995 _ rfl) ?_
  refine J_iconst (v := 1) (by decide) (dk_L_law 996 _ rfl) ?_
  refine J_iaddC (v := 1) (by decide) (dk_L_law 997 _ rfl) ?_
  refine J_sldC (v := xs 1) rfl (vp6 (k := 1) (by decide)) rfl (dk_L_law 998 _ rfl) ?_
  refine J_sload_n (i := 0) (a := 0) rfl rfl (dk_L_law 999 _ rfl) ?_
  refine J_iload_n (i := 3) (a := 3) rfl rfl (dk_L_law 1000 _ rfl) ?_
  refine J_iconst (v := 2) (by decide) (dk_L_law 1001 _ rfl) ?_
  refine J_iaddC (v := 2) (by decide) (dk_L_law 1002 _ rfl) ?_
  refine J_sldC (v := xs 2) rfl (vp6 (k := 2) (by decide)) rfl (dk_L_law 1003 _ rfl) ?_
  refine J_sload_n (i := 0) (a := 0) rfl rfl (dk_L_law 1004 _ rfl) ?_
  refine J_iload_n (i := 3) (a := 3) rfl rfl (dk_L_law 1005 _ rfl) ?_
  refine J_iconst (v := 3) (by decide) (dk_L_law 1006 _ rfl) ?_
  refine J_iaddC (v := 3) (by decide) (dk_L_law 1007 _ rfl) ?_
  refine J_sldC (v := xs 3) rfl (vp6 (k := 3) (by decide)) rfl (dk_L_law 1008 _ rfl) ?_
  refine jVF94 hl2 (d' := 12) (As := [.int (xs 1), .int (xs 2), .int (xs 3)]) ok_X7_act vi_X7_act cl_8_136 (n := 3) (by decide +kernel) rfl rfl (Nat.le_of_ble_eq_true rfl) (by decide) (dk_L_law 1009 _ rfl) rfl hM (fun r h' hq => ⟨hq.2.trans lM.symm, by rw [hq.1]; rfl⟩) (fun r h' hq => ?_)
  obtain ⟨rfl, -⟩ := hq
  show J _ _ _ _ _ _ _ _ _ [.int rv, .int rv] _ _
  refine J_icT (tgt := 1309) (by decide) (dk_L_law 1012 _ rfl) (rfl) ?_
  exact law_next
set_option maxHeartbeats 4000000 in
set_option maxRecDepth 1000000 in
theorem law_c29 : J m_L_law true 6 xs 20 kc ks 1017 zL [] hN2 lawQ := by
  obtain ⟨rv, hX, hM⟩ := o_trace (xs 1)
  refine J_aload_n (i := 1) (a := 1) rfl rfl (dk_L_law 1017 _ rfl) ?_
  refine J_sload_n (i := 0) (a := 0) rfl rfl (dk_L_law 1018 _ rfl) ?_
  refine J_iload_n (i := 3) (a := 3) rfl rfl (dk_L_law 1019 _ rfl) ?_
  refine J_iconst (v := 1) (by decide) (dk_L_law 1020 _ rfl) ?_
  refine J_iaddC (v := 1) (by decide) (dk_L_law 1021 _ rfl) ?_
  refine J_sldC (v := xs 1) rfl (vp6 (k := 1) (by decide)) rfl (dk_L_law 1022 _ rfl) ?_
  refine J_callVF (h1 := []) (h2 := hN0) (h3 := hM0.map (jSh 94) ++ []) (b := 0) (d' := 12) (As := [.int (xs 1)]) ok_X6_trace vi_X6_trace cl_8_137 (n := 1) (by decide +kernel) rfl rfl rfl rfl jSumN (by decide) (dk_L_law 1023 _ rfl) rfl hX (fun r h' hq => ⟨hq.2.trans lX.symm, by rw [hq.1]; rfl⟩) (fun r h' hq => ?_)
  obtain ⟨rfl, hl⟩ := hq
  have hl2 : (h'.map (jSh ([] : jH).length)).length = 94 := by rw [List.length_map]; exact hl
  generalize h'.map (jSh ([] : jH).length) = hh at hl2 ⊢
  show J _ _ _ _ _ _ _ _ _ [.int rv] (hh ++ (hM0.map (jSh 94) ++ [])) _
  refine J_aload_n (i := 2) (a := 2) rfl rfl (dk_L_law 1026 _ rfl) ?_
  refine J_sload_n (i := 0) (a := 0) rfl rfl (dk_L_law 1027 _ rfl) ?_
  refine J_iload_n (i := 3) (a := 3) rfl rfl (dk_L_law 1028 _ rfl) ?_
  refine J_iconst (v := 1) (by decide) (dk_L_law 1029 _ rfl) ?_
  refine J_iaddC (v := 1) (by decide) (dk_L_law 1030 _ rfl) ?_
  refine J_sldC (v := xs 1) rfl (vp6 (k := 1) (by decide)) rfl (dk_L_law 1031 _ rfl) ?_
  refine jVF94 hl2 (d' := 12) (As := [.int (xs 1)]) ok_X7_trace vi_X7_trace cl_8_140 (n := 1) (by decide +kernel) rfl rfl (Nat.le_of_ble_eq_true rfl) (by decide) (dk_L_law 1032 _ rfl) rfl hM (fun r h' hq => ⟨hq.2.trans lM.symm, by rw [hq.1]; rfl⟩) (fun r h' hq => ?_)
  obtain ⟨rfl, -⟩ := hq
  show J _ _ _ _ _ _ _ _ _ [.int rv, .int rv] _ _
  refine J_icT (tgt := 1309) (by decide) (dk_L_law 1035 _ rfl) (rfl) ?_
  exact law_next
set_option maxHeartbeats 4000000 in
set_option maxRecDepth 1000000 in
theorem law_c30 : J m_L_law true 6 xs 20 kc ks 1040 zL [] hN2 lawQ := by
  obtain ⟨rv, hX, hM⟩ := o_taken (xs 1) (xs 2)
  refine J_aload_n (i := 1) (a := 1) rfl rfl (dk_L_law 1040 _ rfl) ?_
  refine J_sload_n (i := 0) (a := 0) rfl rfl (dk_L_law 1041 _ rfl) ?_
  refine J_iload_n (i := 3) (a := 3) rfl rfl (dk_L_law 1042 _ rfl) ?_
  refine J_iconst (v := 1) (by decide) (dk_L_law 1043 _ rfl) ?_
  refine J_iaddC (v := 1) (by decide) (dk_L_law 1044 _ rfl) ?_
  refine J_sldC (v := xs 1) rfl (vp6 (k := 1) (by decide)) rfl (dk_L_law 1045 _ rfl) ?_
  refine J_sload_n (i := 0) (a := 0) rfl rfl (dk_L_law 1046 _ rfl) ?_
  refine J_iload_n (i := 3) (a := 3) rfl rfl (dk_L_law 1047 _ rfl) ?_
  refine J_iconst (v := 2) (by decide) (dk_L_law 1048 _ rfl) ?_
  refine J_iaddC (v := 2) (by decide) (dk_L_law 1049 _ rfl) ?_
  refine J_sldC (v := xs 2) rfl (vp6 (k := 2) (by decide)) rfl (dk_L_law 1050 _ rfl) ?_
  refine J_callVF (h1 := []) (h2 := hN0) (h3 := hM0.map (jSh 94) ++ []) (b := 0) (d' := 12) (As := [.int (xs 1), .int (xs 2)]) ok_X6_taken vi_X6_taken cl_8_141 (n := 2) (by decide +kernel) rfl rfl rfl rfl jSumN (by decide) (dk_L_law 1051 _ rfl) rfl hX (fun r h' hq => ⟨hq.2.trans lX.symm, by rw [hq.1]; rfl⟩) (fun r h' hq => ?_)
  obtain ⟨rfl, hl⟩ := hq
  have hl2 : (h'.map (jSh ([] : jH).length)).length = 94 := by rw [List.length_map]; exact hl
  generalize h'.map (jSh ([] : jH).length) = hh at hl2 ⊢
  show J _ _ _ _ _ _ _ _ _ [.int rv] (hh ++ (hM0.map (jSh 94) ++ [])) _
  refine J_aload_n (i := 2) (a := 2) rfl rfl (dk_L_law 1054 _ rfl) ?_
  refine J_sload_n (i := 0) (a := 0) rfl rfl (dk_L_law 1055 _ rfl) ?_
  refine J_iload_n (i := 3) (a := 3) rfl rfl (dk_L_law 1056 _ rfl) ?_
  refine J_iconst (v := 1) (by decide) (dk_L_law 1057 _ rfl) ?_
  refine J_iaddC (v := 1) (by decide) (dk_L_law 1058 _ rfl) ?_
  refine J_sldC (v := xs 1) rfl (vp6 (k := 1) (by decide)) rfl (dk_L_law 1059 _ rfl) ?_
  refine J_sload_n (i := 0) (a := 0) rfl rfl (dk_L_law 1060 _ rfl) ?_
  refine J_iload_n (i := 3) (a := 3) rfl rfl (dk_L_law 1061 _ rfl) ?_
  refine J_iconst (v := 2) (by decide) (dk_L_law 1062 _ rfl) ?_
  refine J_iaddC (v := 2) (by decide) (dk_L_law 1063 _ rfl) ?_
  refine J_sldC (v := xs 2) rfl (vp6 (k := 2) (by decide)) rfl (dk_L_law 1064 _ rfl) ?_
  refine jVF94 hl2 (d' := 12) (As := [.int (xs 1), .int (xs 2)]) ok_X7_taken vi_X7_taken cl_8_144 (n := 2) (by decide +kernel) rfl rfl (Nat.le_of_ble_eq_true rfl) (by decide) (dk_L_law 1065 _ rfl) rfl hM (fun r h' hq => ⟨hq.2.trans lM.symm, by rw [hq.1]; rfl⟩) (fun r h' hq => ?_)
  obtain ⟨rfl, -⟩ := hq
  show J _ _ _ _ _ _ _ _ _ [.int rv, .int rv] _ _
  refine J_icT (tgt := 1309) (by decide) (dk_L_law 1068 _ rfl) (rfl) ?_
  exact law_next
set_option maxHeartbeats 4000000 in
set_option maxRecDepth 1000000 in
theorem law_c31 : J m_L_law true 6 xs 20 kc ks 1073 zL [] hN2 lawQ := by
  obtain ⟨rv, hX, hM⟩ := o_count (xs 1)
  refine J_aload_n (i := 1) (a := 1) rfl rfl (dk_L_law 1073 _ rfl) ?_
  refine J_sload_n (i := 0) (a := 0) rfl rfl (dk_L_law 1074 _ rfl) ?_
  refine J_iload_n (i := 3) (a := 3) rfl rfl (dk_L_law 1075 _ rfl) ?_
  refine J_iconst (v := 1) (by decide) (dk_L_law 1076 _ rfl) ?_
  refine J_iaddC (v := 1) (by decide) (dk_L_law 1077 _ rfl) ?_
  refine J_sldC (v := xs 1) rfl (vp6 (k := 1) (by decide)) rfl (dk_L_law 1078 _ rfl) ?_
  refine J_callVF (h1 := []) (h2 := hN0) (h3 := hM0.map (jSh 94) ++ []) (b := 0) (d' := 12) (As := [.int (xs 1)]) ok_X6_count vi_X6_count cl_8_145 (n := 1) (by decide +kernel) rfl rfl rfl rfl jSumN (by decide) (dk_L_law 1079 _ rfl) rfl hX (fun r h' hq => ⟨hq.2.trans lX.symm, by rw [hq.1]; rfl⟩) (fun r h' hq => ?_)
  obtain ⟨rfl, hl⟩ := hq
  have hl2 : (h'.map (jSh ([] : jH).length)).length = 94 := by rw [List.length_map]; exact hl
  generalize h'.map (jSh ([] : jH).length) = hh at hl2 ⊢
  show J _ _ _ _ _ _ _ _ _ [.int rv] (hh ++ (hM0.map (jSh 94) ++ [])) _
  refine J_aload_n (i := 2) (a := 2) rfl rfl (dk_L_law 1082 _ rfl) ?_
  refine J_sload_n (i := 0) (a := 0) rfl rfl (dk_L_law 1083 _ rfl) ?_
  refine J_iload_n (i := 3) (a := 3) rfl rfl (dk_L_law 1084 _ rfl) ?_
  refine J_iconst (v := 1) (by decide) (dk_L_law 1085 _ rfl) ?_
  refine J_iaddC (v := 1) (by decide) (dk_L_law 1086 _ rfl) ?_
  refine J_sldC (v := xs 1) rfl (vp6 (k := 1) (by decide)) rfl (dk_L_law 1087 _ rfl) ?_
  refine jVF94 hl2 (d' := 12) (As := [.int (xs 1)]) ok_X7_count vi_X7_count cl_8_148 (n := 1) (by decide +kernel) rfl rfl (Nat.le_of_ble_eq_true rfl) (by decide) (dk_L_law 1088 _ rfl) rfl hM (fun r h' hq => ⟨hq.2.trans lM.symm, by rw [hq.1]; rfl⟩) (fun r h' hq => ?_)
  obtain ⟨rfl, -⟩ := hq
  show J _ _ _ _ _ _ _ _ _ [.int rv, .int rv] _ _
  refine J_icT (tgt := 1309) (by decide) (dk_L_law 1091 _ rfl) (rfl) ?_
  exact law_next
set_option maxHeartbeats 4000000 in
set_option maxRecDepth 1000000 in
theorem law_c32 : J m_L_law true 6 xs 20 kc ks 1096 zL [] hN2 lawQ := by
  obtain ⟨rv, hX, hM⟩ := o_tape (xs 1) (xs 2) (xs 3)
  refine J_aload_n (i := 1) (a := 1) rfl rfl (dk_L_law 1096 _ rfl) ?_
  refine J_sload_n (i := 0) (a := 0) rfl rfl (dk_L_law 1097 _ rfl) ?_
  refine J_iload_n (i := 3) (a := 3) rfl rfl (dk_L_law 1098 _ rfl) ?_
  refine J_iconst (v := 1) (by decide) (dk_L_law 1099 _ rfl) ?_
  refine J_iaddC (v := 1) (by decide) (dk_L_law 1100 _ rfl) ?_
  refine J_sldC (v := xs 1) rfl (vp6 (k := 1) (by decide)) rfl (dk_L_law 1101 _ rfl) ?_
  refine J_sload_n (i := 0) (a := 0) rfl rfl (dk_L_law 1102 _ rfl) ?_
  refine J_iload_n (i := 3) (a := 3) rfl rfl (dk_L_law 1103 _ rfl) ?_
  refine J_iconst (v := 2) (by decide) (dk_L_law 1104 _ rfl) ?_
  refine J_iaddC (v := 2) (by decide) (dk_L_law 1105 _ rfl) ?_
  refine J_sldC (v := xs 2) rfl (vp6 (k := 2) (by decide)) rfl (dk_L_law 1106 _ rfl) ?_
  refine J_sload_n (i := 0) (a := 0) rfl rfl (dk_L_law 1107 _ rfl) ?_
  refine J_iload_n (i := 3) (a := 3) rfl rfl (dk_L_law 1108 _ rfl) ?_
  refine J_iconst (v := 3) (by decide) (dk_L_law 1109 _ rfl) ?_
  refine J_iaddC (v := 3) (by decide) (dk_L_law 1110 _ rfl) ?_
  refine J_sldC (v := xs 3) rfl (vp6 (k := 3) (by decide)) rfl (dk_L_law 1111 _ rfl) ?_
  refine J_callVF (h1 := []) (h2 := hN0) (h3 := hM0.map (jSh 94) ++ []) (b := 0) (d' := 12) (As := [.int (xs 1), .int (xs 2), .int (xs 3)]) ok_X6_tape vi_X6_tape cl_8_149 (n := 3) (by decide +kernel) rfl rfl rfl rfl jSumN (by decide) (dk_L_law 1112 _ rfl) rfl hX (fun r h' hq => ⟨hq.2.trans lX.symm, by rw [hq.1]; rfl⟩) (fun r h' hq => ?_)
  obtain ⟨rfl, hl⟩ := hq
  have hl2 : (h'.map (jSh ([] : jH).length)).length = 94 := by rw [List.length_map]; exact hl
  generalize h'.map (jSh ([] : jH).length) = hh at hl2 ⊢
  show J _ _ _ _ _ _ _ _ _ [.int rv] (hh ++ (hM0.map (jSh 94) ++ [])) _
  refine J_aload_n (i := 2) (a := 2) rfl rfl (dk_L_law 1115 _ rfl) ?_
  refine J_sload_n (i := 0) (a := 0) rfl rfl (dk_L_law 1116 _ rfl) ?_
  refine J_iload_n (i := 3) (a := 3) rfl rfl (dk_L_law 1117 _ rfl) ?_
  refine J_iconst (v := 1) (by decide) (dk_L_law 1118 _ rfl) ?_
  refine J_iaddC (v := 1) (by decide) (dk_L_law 1119 _ rfl) ?_
  refine J_sldC (v := xs 1) rfl (vp6 (k := 1) (by decide)) rfl (dk_L_law 1120 _ rfl) ?_
  refine J_sload_n (i := 0) (a := 0) rfl rfl (dk_L_law 1121 _ rfl) ?_
  refine J_iload_n (i := 3) (a := 3) rfl rfl (dk_L_law 1122 _ rfl) ?_
  refine J_iconst (v := 2) (by decide) (dk_L_law 1123 _ rfl) ?_
  refine J_iaddC (v := 2) (by decide) (dk_L_law 1124 _ rfl) ?_
  refine J_sldC (v := xs 2) rfl (vp6 (k := 2) (by decide)) rfl (dk_L_law 1125 _ rfl) ?_
  refine J_sload_n (i := 0) (a := 0) rfl rfl (dk_L_law 1126 _ rfl) ?_
  refine J_iload_n (i := 3) (a := 3) rfl rfl (dk_L_law 1127 _ rfl) ?_
  refine J_iconst (v := 3) (by decide) (dk_L_law 1128 _ rfl) ?_
  refine J_iaddC (v := 3) (by decide) (dk_L_law 1129 _ rfl) ?_
  refine J_sldC (v := xs 3) rfl (vp6 (k := 3) (by decide)) rfl (dk_L_law 1130 _ rfl) ?_
  refine jVF94 hl2 (d' := 12) (As := [.int (xs 1), .int (xs 2), .int (xs 3)]) ok_X7_tape vi_X7_tape cl_8_152 (n := 3) (by decide +kernel) rfl rfl (Nat.le_of_ble_eq_true rfl) (by decide) (dk_L_law 1131 _ rfl) rfl hM (fun r h' hq => ⟨hq.2.trans lM.symm, by rw [hq.1]; rfl⟩) (fun r h' hq => ?_)
  obtain ⟨rfl, -⟩ := hq
  show J _ _ _ _ _ _ _ _ _ [.int rv, .int rv] _ _
  refine J_icT (tgt := 1309) (by decide) (dk_L_law 1134 _ rfl) (rfl) ?_
  exact law_next
set_option maxHeartbeats 4000000 in
set_option maxRecDepth 1000000 in
theorem law_c33 : J m_L_law true 6 xs 20 kc ks 1139 zL [] hN2 lawQ := by
  obtain ⟨rv, hX, hM⟩ := o_item (xs 1) (xs 2) ((((xs 3).toInt64 <<< ((32 : Int32).toInt64 &&& 63)) ||| ((xs 4).toInt64 &&& 4294967295)))
  refine J_aload_n (i := 1) (a := 1) rfl rfl (dk_L_law 1139 _ rfl) ?_
  refine J_sload_n (i := 0) (a := 0) rfl rfl (dk_L_law 1140 _ rfl) ?_
  refine J_iload_n (i := 3) (a := 3) rfl rfl (dk_L_law 1141 _ rfl) ?_
  refine J_iconst (v := 1) (by decide) (dk_L_law 1142 _ rfl) ?_
  refine J_iaddC (v := 1) (by decide) (dk_L_law 1143 _ rfl) ?_
  refine J_sldC (v := xs 1) rfl (vp6 (k := 1) (by decide)) rfl (dk_L_law 1144 _ rfl) ?_
  refine J_sload_n (i := 0) (a := 0) rfl rfl (dk_L_law 1145 _ rfl) ?_
  refine J_iload_n (i := 3) (a := 3) rfl rfl (dk_L_law 1146 _ rfl) ?_
  refine J_iconst (v := 2) (by decide) (dk_L_law 1147 _ rfl) ?_
  refine J_iaddC (v := 2) (by decide) (dk_L_law 1148 _ rfl) ?_
  refine J_sldC (v := xs 2) rfl (vp6 (k := 2) (by decide)) rfl (dk_L_law 1149 _ rfl) ?_
  refine J_sload_n (i := 0) (a := 0) rfl rfl (dk_L_law 1150 _ rfl) ?_
  refine J_iload_n (i := 3) (a := 3) rfl rfl (dk_L_law 1151 _ rfl) ?_
  refine J_iconst (v := 3) (by decide) (dk_L_law 1152 _ rfl) ?_
  refine J_iaddC (v := 3) (by decide) (dk_L_law 1153 _ rfl) ?_
  refine J_sldC (v := xs 3) rfl (vp6 (k := 3) (by decide)) rfl (dk_L_law 1154 _ rfl) ?_
  refine J_i2l (dk_L_law 1155 _ rfl) ?_
  refine J_bipush (v := 32) (by decide) (dk_L_law 1156 _ rfl) ?_
  refine J_lshl rfl (dk_L_law 1158 _ rfl) ?_
  refine J_sload_n (i := 0) (a := 0) rfl rfl (dk_L_law 1159 _ rfl) ?_
  refine J_iload_n (i := 3) (a := 3) rfl rfl (dk_L_law 1160 _ rfl) ?_
  refine J_iconst (v := 4) (by decide) (dk_L_law 1161 _ rfl) ?_
  refine J_iaddC (v := 4) (by decide) (dk_L_law 1162 _ rfl) ?_
  refine J_sldC (v := xs 4) rfl (vp6 (k := 4) (by decide)) rfl (dk_L_law 1163 _ rfl) ?_
  refine J_i2l (dk_L_law 1164 _ rfl) ?_
  refine J_ldc2 (v := 4294967295) ctl_8_153 (dk_L_law 1165 _ rfl) ?_
  refine J_land (dk_L_law 1168 _ rfl) ?_
  refine J_lor (dk_L_law 1169 _ rfl) ?_
  refine J_callVF (h1 := []) (h2 := hN0) (h3 := hM0.map (jSh 94) ++ []) (b := 0) (d' := 12) (As := [.int (xs 1), .int (xs 2), .long ((((xs 3).toInt64 <<< ((32 : Int32).toInt64 &&& 63)) ||| ((xs 4).toInt64 &&& 4294967295)))]) ok_X6_item vi_X6_item cl_8_155 (n := 3) (by decide +kernel) rfl rfl rfl rfl jSumN (by decide) (dk_L_law 1170 _ rfl) rfl hX (fun r h' hq => ⟨hq.2.trans lX.symm, by rw [hq.1]; rfl⟩) (fun r h' hq => ?_)
  obtain ⟨rfl, hl⟩ := hq
  have hl2 : (h'.map (jSh ([] : jH).length)).length = 94 := by rw [List.length_map]; exact hl
  generalize h'.map (jSh ([] : jH).length) = hh at hl2 ⊢
  show J _ _ _ _ _ _ _ _ _ [.int rv] (hh ++ (hM0.map (jSh 94) ++ [])) _
  refine J_aload_n (i := 2) (a := 2) rfl rfl (dk_L_law 1173 _ rfl) ?_
  refine J_sload_n (i := 0) (a := 0) rfl rfl (dk_L_law 1174 _ rfl) ?_
  refine J_iload_n (i := 3) (a := 3) rfl rfl (dk_L_law 1175 _ rfl) ?_
  refine J_iconst (v := 1) (by decide) (dk_L_law 1176 _ rfl) ?_
  refine J_iaddC (v := 1) (by decide) (dk_L_law 1177 _ rfl) ?_
  refine J_sldC (v := xs 1) rfl (vp6 (k := 1) (by decide)) rfl (dk_L_law 1178 _ rfl) ?_
  refine J_sload_n (i := 0) (a := 0) rfl rfl (dk_L_law 1179 _ rfl) ?_
  refine J_iload_n (i := 3) (a := 3) rfl rfl (dk_L_law 1180 _ rfl) ?_
  refine J_iconst (v := 2) (by decide) (dk_L_law 1181 _ rfl) ?_
  refine J_iaddC (v := 2) (by decide) (dk_L_law 1182 _ rfl) ?_
  refine J_sldC (v := xs 2) rfl (vp6 (k := 2) (by decide)) rfl (dk_L_law 1183 _ rfl) ?_
  refine J_sload_n (i := 0) (a := 0) rfl rfl (dk_L_law 1184 _ rfl) ?_
  refine J_iload_n (i := 3) (a := 3) rfl rfl (dk_L_law 1185 _ rfl) ?_
  refine J_iconst (v := 3) (by decide) (dk_L_law 1186 _ rfl) ?_
  refine J_iaddC (v := 3) (by decide) (dk_L_law 1187 _ rfl) ?_
  refine J_sldC (v := xs 3) rfl (vp6 (k := 3) (by decide)) rfl (dk_L_law 1188 _ rfl) ?_
  refine J_i2l (dk_L_law 1189 _ rfl) ?_
  refine J_bipush (v := 32) (by decide) (dk_L_law 1190 _ rfl) ?_
  refine J_lshl rfl (dk_L_law 1192 _ rfl) ?_
  refine J_sload_n (i := 0) (a := 0) rfl rfl (dk_L_law 1193 _ rfl) ?_
  refine J_iload_n (i := 3) (a := 3) rfl rfl (dk_L_law 1194 _ rfl) ?_
  refine J_iconst (v := 4) (by decide) (dk_L_law 1195 _ rfl) ?_
  refine J_iaddC (v := 4) (by decide) (dk_L_law 1196 _ rfl) ?_
  refine J_sldC (v := xs 4) rfl (vp6 (k := 4) (by decide)) rfl (dk_L_law 1197 _ rfl) ?_
  refine J_i2l (dk_L_law 1198 _ rfl) ?_
  refine J_ldc2 (v := 4294967295) ctl_8_153 (dk_L_law 1199 _ rfl) ?_
  refine J_land (dk_L_law 1202 _ rfl) ?_
  refine J_lor (dk_L_law 1203 _ rfl) ?_
  refine jVF94 hl2 (d' := 12) (As := [.int (xs 1), .int (xs 2), .long ((((xs 3).toInt64 <<< ((32 : Int32).toInt64 &&& 63)) ||| ((xs 4).toInt64 &&& 4294967295)))]) ok_X7_item vi_X7_item cl_8_159 (n := 3) (by decide +kernel) rfl rfl (Nat.le_of_ble_eq_true rfl) (by decide) (dk_L_law 1204 _ rfl) rfl hM (fun r h' hq => ⟨hq.2.trans lM.symm, by rw [hq.1]; rfl⟩) (fun r h' hq => ?_)
  obtain ⟨rfl, -⟩ := hq
  show J _ _ _ _ _ _ _ _ _ [.int rv, .int rv] _ _
  refine J_icT (tgt := 1309) (by decide) (dk_L_law 1207 _ rfl) (rfl) ?_
  exact law_next
set_option maxHeartbeats 4000000 in
set_option maxRecDepth 1000000 in
theorem law_c34 : J m_L_law true 6 xs 20 kc ks 1212 zL [] hN2 lawQ := by
  obtain ⟨rv, hX, hM⟩ := o_read (xs 1) (xs 2)
  refine J_aload_n (i := 1) (a := 1) rfl rfl (dk_L_law 1212 _ rfl) ?_
  refine J_sload_n (i := 0) (a := 0) rfl rfl (dk_L_law 1213 _ rfl) ?_
  refine J_iload_n (i := 3) (a := 3) rfl rfl (dk_L_law 1214 _ rfl) ?_
  refine J_iconst (v := 1) (by decide) (dk_L_law 1215 _ rfl) ?_
  refine J_iaddC (v := 1) (by decide) (dk_L_law 1216 _ rfl) ?_
  refine J_sldC (v := xs 1) rfl (vp6 (k := 1) (by decide)) rfl (dk_L_law 1217 _ rfl) ?_
  refine J_sload_n (i := 0) (a := 0) rfl rfl (dk_L_law 1218 _ rfl) ?_
  refine J_iload_n (i := 3) (a := 3) rfl rfl (dk_L_law 1219 _ rfl) ?_
  refine J_iconst (v := 2) (by decide) (dk_L_law 1220 _ rfl) ?_
  refine J_iaddC (v := 2) (by decide) (dk_L_law 1221 _ rfl) ?_
  refine J_sldC (v := xs 2) rfl (vp6 (k := 2) (by decide)) rfl (dk_L_law 1222 _ rfl) ?_
  refine J_callVF (h1 := []) (h2 := hN0) (h3 := hM0.map (jSh 94) ++ []) (b := 0) (d' := 12) (As := [.int (xs 1), .int (xs 2)]) ok_X6_read vi_X6_read cl_8_160 (n := 2) (by decide +kernel) rfl rfl rfl rfl jSumN (by decide) (dk_L_law 1223 _ rfl) rfl hX (fun r h' hq => ⟨hq.2.trans lX.symm, by rw [hq.1]; rfl⟩) (fun r h' hq => ?_)
  obtain ⟨rfl, hl⟩ := hq
  have hl2 : (h'.map (jSh ([] : jH).length)).length = 94 := by rw [List.length_map]; exact hl
  generalize h'.map (jSh ([] : jH).length) = hh at hl2 ⊢
  show J _ _ _ _ _ _ _ _ _ [.long rv] (hh ++ (hM0.map (jSh 94) ++ [])) _
  refine J_aload_n (i := 2) (a := 2) rfl rfl (dk_L_law 1226 _ rfl) ?_
  refine J_sload_n (i := 0) (a := 0) rfl rfl (dk_L_law 1227 _ rfl) ?_
  refine J_iload_n (i := 3) (a := 3) rfl rfl (dk_L_law 1228 _ rfl) ?_
  refine J_iconst (v := 1) (by decide) (dk_L_law 1229 _ rfl) ?_
  refine J_iaddC (v := 1) (by decide) (dk_L_law 1230 _ rfl) ?_
  refine J_sldC (v := xs 1) rfl (vp6 (k := 1) (by decide)) rfl (dk_L_law 1231 _ rfl) ?_
  refine J_sload_n (i := 0) (a := 0) rfl rfl (dk_L_law 1232 _ rfl) ?_
  refine J_iload_n (i := 3) (a := 3) rfl rfl (dk_L_law 1233 _ rfl) ?_
  refine J_iconst (v := 2) (by decide) (dk_L_law 1234 _ rfl) ?_
  refine J_iaddC (v := 2) (by decide) (dk_L_law 1235 _ rfl) ?_
  refine J_sldC (v := xs 2) rfl (vp6 (k := 2) (by decide)) rfl (dk_L_law 1236 _ rfl) ?_
  refine jVF94 hl2 (d' := 12) (As := [.int (xs 1), .int (xs 2)]) ok_X7_read vi_X7_read cl_8_164 (n := 2) (by decide +kernel) rfl rfl (Nat.le_of_ble_eq_true rfl) (by decide) (dk_L_law 1237 _ rfl) rfl hM (fun r h' hq => ⟨hq.2.trans lM.symm, by rw [hq.1]; rfl⟩) (fun r h' hq => ?_)
  obtain ⟨rfl, -⟩ := hq
  show J _ _ _ _ _ _ _ _ _ [.long rv, .long rv] _ _
  refine J_lcmp (dk_L_law 1240 _ rfl) ?_
  refine J_ifT (tgt := 1309) (by decide) (dk_L_law 1241 _ rfl) (by show lg_cmp rv rv = 0; simp [lg_cmp]) ?_
  exact law_next
set_option maxHeartbeats 4000000 in
set_option maxRecDepth 1000000 in
theorem law_c35 : J m_L_law true 6 xs 20 kc ks 1246 zL [] hN2 lawQ := by
  obtain ⟨rv, hX, hM⟩ := o_shift (xs 1) (xs 2) (xs 3) (xs 4) (xs 5)
  refine J_aload_n (i := 1) (a := 1) rfl rfl (dk_L_law 1246 _ rfl) ?_
  refine J_sload_n (i := 0) (a := 0) rfl rfl (dk_L_law 1247 _ rfl) ?_
  refine J_iload_n (i := 3) (a := 3) rfl rfl (dk_L_law 1248 _ rfl) ?_
  refine J_iconst (v := 1) (by decide) (dk_L_law 1249 _ rfl) ?_
  refine J_iaddC (v := 1) (by decide) (dk_L_law 1250 _ rfl) ?_
  refine J_sldC (v := xs 1) rfl (vp6 (k := 1) (by decide)) rfl (dk_L_law 1251 _ rfl) ?_
  refine J_sload_n (i := 0) (a := 0) rfl rfl (dk_L_law 1252 _ rfl) ?_
  refine J_iload_n (i := 3) (a := 3) rfl rfl (dk_L_law 1253 _ rfl) ?_
  refine J_iconst (v := 2) (by decide) (dk_L_law 1254 _ rfl) ?_
  refine J_iaddC (v := 2) (by decide) (dk_L_law 1255 _ rfl) ?_
  refine J_sldC (v := xs 2) rfl (vp6 (k := 2) (by decide)) rfl (dk_L_law 1256 _ rfl) ?_
  refine J_sload_n (i := 0) (a := 0) rfl rfl (dk_L_law 1257 _ rfl) ?_
  refine J_iload_n (i := 3) (a := 3) rfl rfl (dk_L_law 1258 _ rfl) ?_
  refine J_iconst (v := 3) (by decide) (dk_L_law 1259 _ rfl) ?_
  refine J_iaddC (v := 3) (by decide) (dk_L_law 1260 _ rfl) ?_
  refine J_sldC (v := xs 3) rfl (vp6 (k := 3) (by decide)) rfl (dk_L_law 1261 _ rfl) ?_
  refine J_sload_n (i := 0) (a := 0) rfl rfl (dk_L_law 1262 _ rfl) ?_
  refine J_iload_n (i := 3) (a := 3) rfl rfl (dk_L_law 1263 _ rfl) ?_
  refine J_iconst (v := 4) (by decide) (dk_L_law 1264 _ rfl) ?_
  refine J_iaddC (v := 4) (by decide) (dk_L_law 1265 _ rfl) ?_
  refine J_sldC (v := xs 4) rfl (vp6 (k := 4) (by decide)) rfl (dk_L_law 1266 _ rfl) ?_
  refine J_sload_n (i := 0) (a := 0) rfl rfl (dk_L_law 1267 _ rfl) ?_
  refine J_iload_n (i := 3) (a := 3) rfl rfl (dk_L_law 1268 _ rfl) ?_
  refine J_iconst (v := 5) (by decide) (dk_L_law 1269 _ rfl) ?_
  refine J_iaddC (v := 5) (by decide) (dk_L_law 1270 _ rfl) ?_
  refine J_sldC (v := xs 5) rfl (vp6 (k := 5) (by decide)) rfl (dk_L_law 1271 _ rfl) ?_
  refine J_callVF (h1 := []) (h2 := hN0) (h3 := hM0.map (jSh 94) ++ []) (b := 0) (d' := 12) (As := [.int (xs 1), .int (xs 2), .int (xs 3), .int (xs 4), .int (xs 5)]) ok_X6_shift vi_X6_shift cl_8_165 (n := 5) (by decide +kernel) rfl rfl rfl rfl jSumN (by decide) (dk_L_law 1272 _ rfl) rfl hX (fun r h' hq => ⟨hq.2.trans lX.symm, by rw [hq.1]; rfl⟩) (fun r h' hq => ?_)
  obtain ⟨rfl, hl⟩ := hq
  have hl2 : (h'.map (jSh ([] : jH).length)).length = 94 := by rw [List.length_map]; exact hl
  generalize h'.map (jSh ([] : jH).length) = hh at hl2 ⊢
  show J _ _ _ _ _ _ _ _ _ [.int rv] (hh ++ (hM0.map (jSh 94) ++ [])) _
  refine J_aload_n (i := 2) (a := 2) rfl rfl (dk_L_law 1275 _ rfl) ?_
  refine J_sload_n (i := 0) (a := 0) rfl rfl (dk_L_law 1276 _ rfl) ?_
  refine J_iload_n (i := 3) (a := 3) rfl rfl (dk_L_law 1277 _ rfl) ?_
  refine J_iconst (v := 1) (by decide) (dk_L_law 1278 _ rfl) ?_
  refine J_iaddC (v := 1) (by decide) (dk_L_law 1279 _ rfl) ?_
  refine J_sldC (v := xs 1) rfl (vp6 (k := 1) (by decide)) rfl (dk_L_law 1280 _ rfl) ?_
  refine J_sload_n (i := 0) (a := 0) rfl rfl (dk_L_law 1281 _ rfl) ?_
  refine J_iload_n (i := 3) (a := 3) rfl rfl (dk_L_law 1282 _ rfl) ?_
  refine J_iconst (v := 2) (by decide) (dk_L_law 1283 _ rfl) ?_
  refine J_iaddC (v := 2) (by decide) (dk_L_law 1284 _ rfl) ?_
  refine J_sldC (v := xs 2) rfl (vp6 (k := 2) (by decide)) rfl (dk_L_law 1285 _ rfl) ?_
  refine J_sload_n (i := 0) (a := 0) rfl rfl (dk_L_law 1286 _ rfl) ?_
  refine J_iload_n (i := 3) (a := 3) rfl rfl (dk_L_law 1287 _ rfl) ?_
  refine J_iconst (v := 3) (by decide) (dk_L_law 1288 _ rfl) ?_
  refine J_iaddC (v := 3) (by decide) (dk_L_law 1289 _ rfl) ?_
  refine J_sldC (v := xs 3) rfl (vp6 (k := 3) (by decide)) rfl (dk_L_law 1290 _ rfl) ?_
  refine J_sload_n (i := 0) (a := 0) rfl rfl (dk_L_law 1291 _ rfl) ?_
  refine J_iload_n (i := 3) (a := 3) rfl rfl (dk_L_law 1292 _ rfl) ?_
  refine J_iconst (v := 4) (by decide) (dk_L_law 1293 _ rfl) ?_
  refine J_iaddC (v := 4) (by decide) (dk_L_law 1294 _ rfl) ?_
  refine J_sldC (v := xs 4) rfl (vp6 (k := 4) (by decide)) rfl (dk_L_law 1295 _ rfl) ?_
  refine J_sload_n (i := 0) (a := 0) rfl rfl (dk_L_law 1296 _ rfl) ?_
  refine J_iload_n (i := 3) (a := 3) rfl rfl (dk_L_law 1297 _ rfl) ?_
  refine J_iconst (v := 5) (by decide) (dk_L_law 1298 _ rfl) ?_
  refine J_iaddC (v := 5) (by decide) (dk_L_law 1299 _ rfl) ?_
  refine J_sldC (v := xs 5) rfl (vp6 (k := 5) (by decide)) rfl (dk_L_law 1300 _ rfl) ?_
  refine jVF94 hl2 (d' := 12) (As := [.int (xs 1), .int (xs 2), .int (xs 3), .int (xs 4), .int (xs 5)]) ok_X7_shift vi_X7_shift cl_8_169 (n := 5) (by decide +kernel) rfl rfl (Nat.le_of_ble_eq_true rfl) (by decide) (dk_L_law 1301 _ rfl) rfl hM (fun r h' hq => ⟨hq.2.trans lM.symm, by rw [hq.1]; rfl⟩) (fun r h' hq => ?_)
  obtain ⟨rfl, -⟩ := hq
  show J _ _ _ _ _ _ _ _ _ [.int rv, .int rv] _ _
  refine J_icT (tgt := 1309) (by decide) (dk_L_law 1304 _ rfl) (rfl) ?_
  exact law_next
end LAW
