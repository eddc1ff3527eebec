/-! what lies outside the heap, at the start (by program: wip/gen/law2.py) -/
set_option maxRecDepth 100000 in
theorem z_above : Cond.laysStatic RX6 "ABOVE" "[I" ∈ lw_tbl := List.mem_of_getElem? (i := 743) rfl
set_option maxRecDepth 100000 in
theorem z_compact : Cond.laysStatic "java/lang/String" "COMPACT_STRINGS" "Z" ∈ lw_tbl := List.mem_of_getElem? (i := 477) rfl
set_option maxRecDepth 100000 in
theorem z_sioobe : Cond.laysStatic "jdk/internal/util/Preconditions" "SIOOBE_FORMATTER" "Ljava/util/function/BiFunction;" ∈ lw_tbl := List.mem_of_getElem? (i := 493) rfl
set_option maxRecDepth 100000 in
theorem z_i6 : Cond.initialized RX6 ∈ lw_tbl := List.mem_of_getElem? (i := 87) rfl
set_option maxRecDepth 100000 in
theorem z_iS : Cond.initialized "java/lang/String" ∈ lw_tbl := List.mem_of_getElem? (i := 95) rfl
set_option maxRecDepth 100000 in
theorem z_iP : Cond.initialized "jdk/internal/util/Preconditions" ∈ lw_tbl := List.mem_of_getElem? (i := 97) rfl
set_option maxRecDepth 100000 in
theorem z_s2 : Cond.stringRef RX4 35 ";" ∈ lw_tbl := List.mem_of_getElem? (i := 553) rfl
set_option maxRecDepth 100000 in
theorem z_s3 : Cond.stringRef RX4 53 "take " ∈ lw_tbl := List.mem_of_getElem? (i := 463) rfl
set_option maxRecDepth 100000 in
theorem z_s4 : Cond.stringRef RX4 58 " " ∈ lw_tbl := List.mem_of_getElem? (i := 520) rfl
set_option maxRecDepth 100000 in
theorem z_s5 : Cond.stringRef RX4 68 "due " ∈ lw_tbl := List.mem_of_getElem? (i := 550) rfl
set_option maxRecDepth 100000 in
theorem z_s6 : Cond.stringRef RX4 73 "cost " ∈ lw_tbl := List.mem_of_getElem? (i := 551) rfl
set_option maxRecDepth 100000 in
theorem z_s7 : Cond.stringRef RX4 78 "feast " ∈ lw_tbl := List.mem_of_getElem? (i := 552) rfl
set_option maxRecDepth 100000 in
theorem z_s8 : Cond.stringRef RX4 100 ")" ∈ lw_tbl := List.mem_of_getElem? (i := 545) rfl
def tmS : Nat → Term
  | 0 => .string RX4 35
  | 1 => .string RX4 53
  | 2 => .string RX4 58
  | 3 => .string RX4 68
  | 4 => .string RX4 73
  | 5 => .string RX4 78
  | _ => .string RX4 100
set_option maxRecDepth 100000 in
theorem tS_ex {args : Array Value} {s : State} (hs : ∀ w ∈ flatC (Jvm.Cond.and given_1 narrow_1), w.before args s = true) : ∀ i, i < 7 → (Cond.exactly (tmS i) "java/lang/String").before args s = true := fun i hi => by
  match i, hi with
  | 0, _ => exact hs _ (by decide +kernel)
  | 1, _ => exact hs _ (by decide +kernel)
  | 2, _ => exact hs _ (by decide +kernel)
  | 3, _ => exact hs _ (by decide +kernel)
  | 4, _ => exact hs _ (by decide +kernel)
  | 5, _ => exact hs _ (by decide +kernel)
  | 6, _ => exact hs _ (by decide +kernel)
set_option maxRecDepth 100000 in
theorem tS_co {args : Array Value} {s : State} (hs : ∀ w ∈ flatC (Jvm.Cond.and given_1 narrow_1), w.before args s = true) : ∀ i, i < 7 → (Cond.eq (.field (tmS i) "java/lang/String" "coder" "B") (.int 0)).before args s = true := fun i hi => by
  match i, hi with
  | 0, _ => exact hs _ (by decide +kernel)
  | 1, _ => exact hs _ (by decide +kernel)
  | 2, _ => exact hs _ (by decide +kernel)
  | 3, _ => exact hs _ (by decide +kernel)
  | 4, _ => exact hs _ (by decide +kernel)
  | 5, _ => exact hs _ (by decide +kernel)
  | 6, _ => exact hs _ (by decide +kernel)
set_option maxRecDepth 100000 in
theorem tS_ar {args : Array Value} {s : State} (hs : ∀ w ∈ flatC (Jvm.Cond.and given_1 narrow_1), w.before args s = true) : ∀ i, i < 7 → (Cond.arrayOf (.field (tmS i) "java/lang/String" "value" "[B") .byte).before args s = true := fun i hi => by
  match i, hi with
  | 0, _ => exact hs _ (by decide +kernel)
  | 1, _ => exact hs _ (by decide +kernel)
  | 2, _ => exact hs _ (by decide +kernel)
  | 3, _ => exact hs _ (by decide +kernel)
  | 4, _ => exact hs _ (by decide +kernel)
  | 5, _ => exact hs _ (by decide +kernel)
  | 6, _ => exact hs _ (by decide +kernel)
set_option maxRecDepth 100000 in
theorem tS_le {args : Array Value} {s : State} (hs : ∀ w ∈ flatC (Jvm.Cond.and given_1 narrow_1), w.before args s = true) : ∀ i, i < 7 → (Cond.eq (.length (.field (tmS i) "java/lang/String" "value" "[B")) (.int (Int32.ofNat (oxL.getD i 0)))).before args s = true := fun i hi => by
  match i, hi with
  | 0, _ => exact hs _ (by decide +kernel)
  | 1, _ => exact hs _ (by decide +kernel)
  | 2, _ => exact hs _ (by decide +kernel)
  | 3, _ => exact hs _ (by decide +kernel)
  | 4, _ => exact hs _ (by decide +kernel)
  | 5, _ => exact hs _ (by decide +kernel)
  | 6, _ => exact hs _ (by decide +kernel)
set_option maxRecDepth 100000 in
theorem tS_el {args : Array Value} {s : State} (hs : ∀ w ∈ flatC (Jvm.Cond.and given_1 narrow_1), w.before args s = true) : ∀ i, i < 7 → ∀ j, j < oxL.getD i 0 → (Cond.eq (.elem (.field (tmS i) "java/lang/String" "value" "[B") (.int (Int32.ofNat j))) (.int ((oxB.getD i []).getD j 0))).before args s = true := fun i hi j hj => by
  match i, hi with
  | 0, _ =>
    match j, hj with
    | 0, _ => exact hs _ (by decide +kernel)
  | 1, _ =>
    match j, hj with
    | 0, _ => exact hs _ (by decide +kernel)
    | 1, _ => exact hs _ (by decide +kernel)
    | 2, _ => exact hs _ (by decide +kernel)
    | 3, _ => exact hs _ (by decide +kernel)
    | 4, _ => exact hs _ (by decide +kernel)
  | 2, _ =>
    match j, hj with
    | 0, _ => exact hs _ (by decide +kernel)
  | 3, _ =>
    match j, hj with
    | 0, _ => exact hs _ (by decide +kernel)
    | 1, _ => exact hs _ (by decide +kernel)
    | 2, _ => exact hs _ (by decide +kernel)
    | 3, _ => exact hs _ (by decide +kernel)
  | 4, _ =>
    match j, hj with
    | 0, _ => exact hs _ (by decide +kernel)
    | 1, _ => exact hs _ (by decide +kernel)
    | 2, _ => exact hs _ (by decide +kernel)
    | 3, _ => exact hs _ (by decide +kernel)
    | 4, _ => exact hs _ (by decide +kernel)
  | 5, _ =>
    match j, hj with
    | 0, _ => exact hs _ (by decide +kernel)
    | 1, _ => exact hs _ (by decide +kernel)
    | 2, _ => exact hs _ (by decide +kernel)
    | 3, _ => exact hs _ (by decide +kernel)
    | 4, _ => exact hs _ (by decide +kernel)
    | 5, _ => exact hs _ (by decide +kernel)
  | 6, _ =>
    match j, hj with
    | 0, _ => exact hs _ (by decide +kernel)
set_option maxRecDepth 100000 in
theorem tS_ne {args : Array Value} {s : State} (hs : ∀ w ∈ flatC (Jvm.Cond.and given_1 narrow_1), w.before args s = true) : ∀ i j, i < 7 → j < 7 → i ≠ j → (Cond.not (Cond.eq (tmS i) (tmS j))).before args s = true ∨ (Cond.not (Cond.eq (tmS j) (tmS i))).before args s = true := fun i j hi hj hij => by
  match i, hi, j, hj with
  | 0, _, 0, _ => exact absurd rfl hij
  | 0, _, 1, _ => exact Or.inr (hs _ (by decide +kernel))
  | 0, _, 2, _ => exact Or.inr (hs _ (by decide +kernel))
  | 0, _, 3, _ => exact Or.inr (hs _ (by decide +kernel))
  | 0, _, 4, _ => exact Or.inr (hs _ (by decide +kernel))
  | 0, _, 5, _ => exact Or.inr (hs _ (by decide +kernel))
  | 0, _, 6, _ => exact Or.inr (hs _ (by decide +kernel))
  | 1, _, 0, _ => exact Or.inl (hs _ (by decide +kernel))
  | 1, _, 1, _ => exact absurd rfl hij
  | 1, _, 2, _ => exact Or.inl (hs _ (by decide +kernel))
  | 1, _, 3, _ => exact Or.inl (hs _ (by decide +kernel))
  | 1, _, 4, _ => exact Or.inl (hs _ (by decide +kernel))
  | 1, _, 5, _ => exact Or.inl (hs _ (by decide +kernel))
  | 1, _, 6, _ => exact Or.inl (hs _ (by decide +kernel))
  | 2, _, 0, _ => exact Or.inl (hs _ (by decide +kernel))
  | 2, _, 1, _ => exact Or.inr (hs _ (by decide +kernel))
  | 2, _, 2, _ => exact absurd rfl hij
  | 2, _, 3, _ => exact Or.inl (hs _ (by decide +kernel))
  | 2, _, 4, _ => exact Or.inl (hs _ (by decide +kernel))
  | 2, _, 5, _ => exact Or.inl (hs _ (by decide +kernel))
  | 2, _, 6, _ => exact Or.inl (hs _ (by decide +kernel))
  | 3, _, 0, _ => exact Or.inl (hs _ (by decide +kernel))
  | 3, _, 1, _ => exact Or.inr (hs _ (by decide +kernel))
  | 3, _, 2, _ => exact Or.inr (hs _ (by decide +kernel))
  | 3, _, 3, _ => exact absurd rfl hij
  | 3, _, 4, _ => exact Or.inl (hs _ (by decide +kernel))
  | 3, _, 5, _ => exact Or.inl (hs _ (by decide +kernel))
  | 3, _, 6, _ => exact Or.inr (hs _ (by decide +kernel))
  | 4, _, 0, _ => exact Or.inl (hs _ (by decide +kernel))
  | 4, _, 1, _ => exact Or.inr (hs _ (by decide +kernel))
  | 4, _, 2, _ => exact Or.inr (hs _ (by decide +kernel))
  | 4, _, 3, _ => exact Or.inr (hs _ (by decide +kernel))
  | 4, _, 4, _ => exact absurd rfl hij
  | 4, _, 5, _ => exact Or.inl (hs _ (by decide +kernel))
  | 4, _, 6, _ => exact Or.inr (hs _ (by decide +kernel))
  | 5, _, 0, _ => exact Or.inl (hs _ (by decide +kernel))
  | 5, _, 1, _ => exact Or.inr (hs _ (by decide +kernel))
  | 5, _, 2, _ => exact Or.inr (hs _ (by decide +kernel))
  | 5, _, 3, _ => exact Or.inr (hs _ (by decide +kernel))
  | 5, _, 4, _ => exact Or.inr (hs _ (by decide +kernel))
  | 5, _, 5, _ => exact absurd rfl hij
  | 5, _, 6, _ => exact Or.inr (hs _ (by decide +kernel))
  | 6, _, 0, _ => exact Or.inl (hs _ (by decide +kernel))
  | 6, _, 1, _ => exact Or.inr (hs _ (by decide +kernel))
  | 6, _, 2, _ => exact Or.inr (hs _ (by decide +kernel))
  | 6, _, 3, _ => exact Or.inl (hs _ (by decide +kernel))
  | 6, _, 4, _ => exact Or.inl (hs _ (by decide +kernel))
  | 6, _, 5, _ => exact Or.inl (hs _ (by decide +kernel))
  | 6, _, 6, _ => exact absurd rfl hij
set_option maxRecDepth 100000 in
theorem tA_el {args : Array Value} {s : State} (hs : ∀ w ∈ flatC (Jvm.Cond.and given_1 narrow_1), w.before args s = true) : ∀ j, j < 7 → (Cond.eq (.elem (.static RX6 "ABOVE" "[I") (.int (Int32.ofNat j))) (.int (oxA.getD j 0))).before args s = true := fun j hj => by
  match j, hj with
  | 0, _ => exact hs _ (by decide +kernel)
  | 1, _ => exact hs _ (by decide +kernel)
  | 2, _ => exact hs _ (by decide +kernel)
  | 3, _ => exact hs _ (by decide +kernel)
  | 4, _ => exact hs _ (by decide +kernel)
  | 5, _ => exact hs _ (by decide +kernel)
  | 6, _ => exact hs _ (by decide +kernel)
def sbF (b tA tF : Nat) (adK adV : Nat → Nat) : Nat → Nat := fun k => if k = 0 then b else if k = 1 then tA else if k = 50 then tF else if k < 20 then adK (k - 2) else adV (k - 20)
set_option maxRecDepth 100000 in
theorem st_O {b : Nat} {s : State} {args : Array Value} (hgv : (Jvm.Cond.and given_1 narrow_1).before args s = true) (hts : ∀ w ∈ lw_tbl, w.before args s = true) : ∃ sb : Nat → Nat, sb 0 = b ∧ jO sb (fun q => s.heap.size ≤ q) s s.heap := by
  have hs := flat_of_before _ hgv
  have hA : ∀ a : Nat, a < s.heap.size → ¬ s.heap.size ≤ a := fun a h => Nat.not_le.mpr h
  obtain ⟨tA, e1, hT⟩ := va_Tof (tm := .static RX6 "ABOVE" "[I") (ty := .int) (N := 7) (f := fun j => .int (oxA.getD j 0)) (A := fun q => s.heap.size ≤ q) (by decide) (hs _ (by decide +kernel)) (va_eqt (hs _ (by decide +kernel))) (fun j hj => va_eqt (tA_el hs j hj)) hA
  obtain ⟨adK, adV, hS, eS⟩ := vk_Sof (args := args) (s := s) (N := 7) (tm := tmS) (len := oxL) (byt := oxB) (A := fun q => s.heap.size ≤ q) (by decide) (tS_ex hs) (tS_co hs) (tS_ar hs) (tS_le hs) (tS_el hs) (tS_ne hs) hA
  have hZq := va_Zqof (hts _ z_sioobe) (hts _ z_iP) (hs _ (by decide +kernel)) hA
  have key : ∀ tF, (va_Z "jdk/internal/util/Preconditions" "SIOOBE_FORMATTER" "Ljava/util/function/BiFunction;" .null (fun q => s.heap.size ≤ q) s s.heap ∨ va_Z "jdk/internal/util/Preconditions" "SIOOBE_FORMATTER" "Ljava/util/function/BiFunction;" (.ref tF) (fun q => s.heap.size ≤ q) s s.heap) → ∃ sb : Nat → Nat, sb 0 = b ∧ jO sb (fun q => s.heap.size ≤ q) s s.heap := fun tF hF => by
    refine ⟨sbF b tA tF adK adV, rfl, va_Zref (hts _ z_above) (hts _ z_i6) e1 hA, hT, va_Zof (hts _ z_compact) (hts _ z_iS) (va_eqt (hs _ (by decide +kernel))) hA, ⟨vk_R.of (hts _ z_s2) (eS 0 (by decide)), vk_R.of (hts _ z_s3) (eS 1 (by decide)), vk_R.of (hts _ z_s4) (eS 2 (by decide)), vk_R.of (hts _ z_s5) (eS 3 (by decide)), vk_R.of (hts _ z_s6) (eS 4 (by decide)), vk_R.of (hts _ z_s7) (eS 5 (by decide)), vk_R.of (hts _ z_s8) (eS 6 (by decide))⟩, ⟨fun i hi => ?_, fun i j hi hj e => ?_⟩, hF⟩
    · have e1 : sbF b tA tF adK adV (i + 2) = adK i := by
        unfold sbF; rw [if_neg (by omega), if_neg (by omega), if_neg (by omega), if_pos (by omega), show i + 2 - 2 = i by omega]
      have e2 : sbF b tA tF adK adV (i + 20) = adV i := by
        unfold sbF; rw [if_neg (by omega), if_neg (by omega), if_neg (by omega), if_neg (by omega), show i + 20 - 20 = i by omega]
      have := hS.1 i hi
      show va_O _ (sbF b tA tF adK adV (i + 2)) _ _ _ ∧ va_OF _ _ _ _ (sbF b tA tF adK adV (i + 2)) _ _ _ ∧ va_OF _ _ _ (.ref (sbF b tA tF adK adV (i + 20))) (sbF b tA tF adK adV (i + 2)) _ _ _ ∧ va_T _ (sbF b tA tF adK adV (i + 20)) _ _ _ _ _
      rw [e1, e2]; exact this
    · have e1 : ∀ i, i < 7 → sbF b tA tF adK adV (i + 2) = adK i := fun i hi => by
        unfold sbF; rw [if_neg (by omega), if_neg (by omega), if_neg (by omega), if_pos (by omega), show i + 2 - 2 = i by omega]
      exact hS.2 i j hi hj ((e1 i hi).symm.trans (e.trans (e1 j hj)))
  rcases hZq with h | ⟨tF, h⟩
  · exact key 0 (Or.inl h)
  · exact key tF (Or.inr h)
