/-! ACTS -/
section ACTS
variable {mx0 mm0 : mM} {i kd vv : Nat}
/-- how far it has run: only the trace has changed -/
def AA (mx0 mm0 : mM) (b : Nat) (mx mm : mM) : Prop := ∃ l l' r, r ≤ b ∧ mx = wI (wA mx0 6 l) 321 (nI r) ∧ mm = wI (wA mm0 32 l') 54 (nI r) ∧ l.length = 20 ∧ l'.length = 20 ∧ ∀ i, i < 20 → i < r → l.getD i 0 = l'.getD i 0
def ARs (mx0 mm0 : mM) (b : Nat) (e1 e2 : fR Int32) : Prop := ∃ v mx mm, e1 = some (v, mx) ∧ e2 = some (v, mm) ∧ AA mx0 mm0 b mx mm
theorem AA.le {b b' : Nat} {mx mm : mM} (hb : b ≤ b') (h : AA mx0 mm0 b mx mm) : AA mx0 mm0 b' mx mm := by
  obtain ⟨l, l', r, hr, h⟩ := h
  exact ⟨l, l', r, by omega, h⟩
theorem ARs.le {b b' : Nat} {e1 e2 : fR Int32} (hb : b ≤ b') (h : ARs mx0 mm0 b e1 e2) : ARs mx0 mm0 b' e1 e2 := by
  obtain ⟨v, mx, mm, h1, h2, h3⟩ := h
  exact ⟨v, mx, mm, h1, h2, h3.le hb⟩
theorem wI_wA {m : mM} {n c : Nat} {v : Int32} {l : List Int32} : wA (wI m n v) c l = wI (wA m c l) n v := rfl
theorem a_run {b : Nat} {mx mm : mM} (hb : b < 900) (h : AA mx0 mm0 b mx mm) (k : Int32) : ∃ mx' mm', f_X0_runs mx k = some ((), mx') ∧ f_X7_body mm k = some ((), mm') ∧ AA mx0 mm0 (b + 1) mx' mm' := by
  obtain ⟨l, l', r, hr, rfl, rfl, h1, h2, h3⟩ := h
  unfold f_X0_runs f_X7_body f_X0_runs_19 f_X7_body_19
  rw [show mI (wI (wA mx0 6 l) 321 (nI r)) 321 = nI r from rfl, show mI (wI (wA mm0 32 l') 54 (nI r)) 54 = nI r from rfl]
  by_cases hc : 20 ≤ r
  · have hc' : (20 : Int32) ≤ nI r := (nI_le hc (by omega) : nI 20 ≤ nI r)
    rw [if_pos hc', if_pos hc', nmM_eq, nmM_eq, nI_1, wI_wI, wI_wI]
    exact ⟨_, _, rfl, rfl, l, l', r + 1, by omega, rfl, rfl, h1, h2, fun i hi hr => h3 i hi (by omega)⟩
  · have hc' : ¬ (20 : Int32) ≤ nI r := (nI_ge (by omega) (by decide) : ¬ nI 20 ≤ nI r)
    rw [if_neg hc', if_neg hc', sA_at0 (show r < (mA (wI (wA mx0 6 l) 321 (nI r)) 6).length by rw [mA_wI, mA_eq, h1]; omega) (by omega), sA_at0 (show r < (mA (wI (wA mm0 32 l') 54 (nI r)) 32).length by rw [mA_wI, mA_eq, h2]; omega) (by omega), Option.bind_some, Option.bind_some, nmM_eq, nmM_eq]
    refine ⟨_, _, rfl, rfl, l.set r k, l'.set r k, r + 1, by omega, ?_, ?_, by rw [List.length_set, h1], by rw [List.length_set, h2], fun i hi hr => ?_⟩
    · rw [mI_wA, mI_wI, if_pos rfl, nI_1, mA_wI, mA_eq, wI_wA, wA_wA, wI_wI]
    · rw [mI_wA, mI_wI, if_pos rfl, nI_1, mA_wI, mA_eq, wI_wA, wA_wA, wI_wI]
    · rw [gd_set, gd_set, h1, h2]
      by_cases e : r = i
      · rw [if_pos ⟨e, by omega⟩, if_pos ⟨e, by omega⟩]
      · rw [if_neg (fun z => e z.1), if_neg (fun z => e z.1)]; exact h3 i hi (by omega)
/-- what an act knows -/
def AK (mx0 mm0 : mM) (i kd vv : Nat) : Prop := i < 7 ∧ kd < 7 ∧ mI mx0 322 = nI kd ∧ mI mx0 323 = nI i ∧ mI mx0 324 = nI vv ∧ (mA mm0 1).length = 7 ∧ (mA mm0 2).length = 7 ∧ (mA mm0 1).getD i 0 = nI kd ∧ (mA mm0 2).getD i 0 = nI vv
theorem AA.x {b : Nat} {mx mm : mM} (hK : AK mx0 mm0 i kd vv) (h : AA mx0 mm0 b mx mm) : mI mx 322 = nI kd ∧ mI mx 323 = nI i ∧ mI mx 324 = nI vv ∧ gA (mA mm 1) (nI i) = some (nI kd) ∧ gA (mA mm 2) (nI i) = some (nI vv) := by
  obtain ⟨l, l', r, hr, rfl, rfl, h1, h2, h3⟩ := h
  obtain ⟨a1, a2, a3, a4, a5, a6, a7, a8, a9⟩ := hK
  refine ⟨a3, a4, a5, ?_, ?_⟩
  · rw [mA_wI, mA_ne (by decide), gA_at (by rw [a6]; exact a1) (by omega), a8]
  · rw [mA_wI, mA_ne (by decide), gA_at (by rw [a7]; exact a1) (by omega), a9]
theorem a_seller {b D : Nat} {mx mm : mM} (hK : AK mx0 mm0 i kd vv) (hb : b < 900) (h : AA mx0 mm0 b mx mm) (from_ x : Int32) (hf : from_ = 0 ∨ from_ = 1 ∨ from_ = 3) : ARs mx0 mm0 (b + 1) (f_X0_sells (D + 1) mx from_ x) (f_X7_sellerSells mm (nI i) x) := by
  obtain ⟨mx', mm', r1, r2, h'⟩ := a_run hb h 10
  have e : f_X0_sells (D + 1) mx from_ x = bnd (f_X0_runs mx 10) (fun _ m => some (x + mI m 323, m)) := by rcases hf with rfl | rfl | rfl <;> rfl
  rw [e, r1, bnd_some]
  unfold f_X7_sellerSells
  rw [r2, bnd_some, (h'.x hK).2.1]
  exact ⟨_, _, _, rfl, rfl, h'⟩
theorem a_sells {b : Nat} {mx mm : mM} (hK : AK mx0 mm0 i kd vv) (hb : b < 800) (h : AA mx0 mm0 b mx mm) (x : Int32) : ARs mx0 mm0 (b + 2) (f_X0_sells 3 mx (nI kd) x) (f_X7_sellsAct mm (nI i) x) := by
  unfold f_X7_sellsAct
  rw [(h.x hK).2.2.2.1, Option.bind_some]
  have hkd := hK.2.1
  match kd, hkd with
  | 0, _ =>
    obtain ⟨v, mx', mm', q1, q2, q3⟩ := a_seller (D := 2) hK (by omega) h 0 x (by simp)
    exact ⟨v, mx', mm', q1, by show bnd (f_X7_sellerSells mm (nI i) x) _ = _; rw [q2]; rfl, q3.le (by omega)⟩
  | 1, _ =>
    obtain ⟨v, mx', mm', q1, q2, q3⟩ := a_seller (D := 2) hK (by omega) h 1 x (by simp)
    exact ⟨v, mx', mm', q1, by show bnd (f_X7_sellerSells mm (nI i) x) _ = _; rw [q2]; rfl, q3.le (by omega)⟩
  | 3, _ =>
    obtain ⟨v, mx', mm', q1, q2, q3⟩ := a_seller (D := 2) hK (by omega) h 3 x (by simp)
    exact ⟨v, mx', mm', q1, by show bnd (f_X7_sellerSells mm (nI i) x) _ = _; rw [q2]; rfl, q3.le (by omega)⟩
  | 2, _ =>
    obtain ⟨mx1, mm1, r1, r2, h1⟩ := a_run (by omega) h 30
    obtain ⟨v, mx', mm', q1, q2, q3⟩ := a_seller (D := 1) hK (by omega) h1 0 (x * 3) (by simp)
    refine ⟨v, mx', mm', ?_, ?_, q3⟩
    · show bnd (f_X0_runs mx 30) _ = _; rw [r1]; show bnd (f_X0_sells 2 mx1 0 (x * 3)) _ = _; rw [q1]; rfl
    · show bnd (f_X7_body mm 30) _ = _; rw [r2]; show bnd (f_X7_sellerSells mm1 (nI i) (x * 3)) _ = _; rw [q2]; rfl
  | 5, _ =>
    obtain ⟨mx1, mm1, r1, r2, h1⟩ := a_run (by omega) h 30
    obtain ⟨v, mx', mm', q1, q2, q3⟩ := a_seller (D := 1) hK (by omega) h1 0 (x * 3) (by simp)
    refine ⟨v, mx', mm', ?_, ?_, q3⟩
    · show bnd (f_X0_runs mx 30) _ = _; rw [r1]; show bnd (f_X0_sells 2 mx1 0 (x * 3)) _ = _; rw [q1]; rfl
    · show bnd (f_X7_body mm 30) _ = _; rw [r2]; show bnd (f_X7_sellerSells mm1 (nI i) (x * 3)) _ = _; rw [q2]; rfl
  | 4, _ =>
    obtain ⟨mx1, mm1, r1, r2, h1⟩ := a_run (by omega) h 50
    obtain ⟨v, mx', mm', q1, q2, q3⟩ := a_seller (D := 1) hK (by omega) h1 1 x (by simp)
    refine ⟨-v, mx', mm', ?_, ?_, q3⟩
    · show bnd (f_X0_runs mx 50) _ = _; rw [r1]; show bnd (f_X0_sells 2 mx1 1 x) _ = _; rw [q1]; rfl
    · show bnd (f_X7_body mm 50) _ = _; rw [r2]; show bnd (f_X7_sellerSells mm1 (nI i) x) _ = _; rw [q2]; rfl
  | 6, _ =>
    obtain ⟨mx1, mm1, r1, r2, h1⟩ := a_run (by omega) h 71
    obtain ⟨v, mx', mm', q1, q2, q3⟩ := a_seller (D := 1) hK (by omega) h1 3 x (by simp)
    refine ⟨v ^^^ nI vv, mx', mm', ?_, ?_, q3⟩
    · show bnd (f_X0_runs mx 71) _ = _; rw [r1]; show bnd (f_X0_sells 2 mx1 3 x) _ = _; rw [q1, bnd_some, (q3.x hK).2.2.1]
    · show bnd (f_X7_body mm 71) _ = _; rw [r2]; show bnd (f_X7_sellerSells mm1 (nI i) x) _ = _; rw [q2, bnd_some, (q3.x hK).2.2.2.2]; rfl
theorem a_sgives {b D : Nat} {mx mm : mM} (hK : AK mx0 mm0 i kd vv) (hb : b < 700) (h : AA mx0 mm0 b mx mm) (from_ x : Int32) (hf : from_ = 0 ∨ from_ = 2 ∨ from_ = 3 ∨ from_ = 5) : ARs mx0 mm0 (b + 3) (f_X0_gives (D + 1) mx from_ x) (f_X7_sellerGives mm (nI i) x) := by
  obtain ⟨mx1, mm1, r1, r2, h1⟩ := a_run (by omega) h 11
  obtain ⟨v, mx', mm', q1, q2, q3⟩ := a_sells hK (by omega) h1 x
  have e : f_X0_gives (D + 1) mx from_ x = bnd (f_X0_runs mx 11) (fun _ m => bnd (f_X0_sells 3 m (mI m 322) x) fun y m2 => some (y - mI m2 324, m2)) := by rcases hf with rfl | rfl | rfl | rfl <;> rfl
  rw [e, r1, bnd_some, (h1.x hK).1, q1, bnd_some, (q3.x hK).2.2.1]
  unfold f_X7_sellerGives
  rw [r2, bnd_some, q2, bnd_some, (q3.x hK).2.2.2.2]
  exact ⟨_, _, _, rfl, rfl, q3⟩
theorem a_hgives {b D : Nat} {mx mm : mM} (hK : AK mx0 mm0 i kd vv) (hb : b < 600) (h : AA mx0 mm0 b mx mm) (x : Int32) : ARs mx0 mm0 (b + 4) (f_X0_gives (D + 2) mx 1 x) (f_X7_haterGives mm (nI i) x) := by
  obtain ⟨mx1, mm1, r1, r2, h1⟩ := a_run (by omega) h 20
  obtain ⟨v, mx', mm', q1, q2, q3⟩ := a_sgives (D := D) hK (by omega) h1 0 x (by simp)
  refine ⟨v ^^^ 6, mx', mm', ?_, ?_, q3⟩
  · show bnd (f_X0_runs mx 20) _ = _; rw [r1]; show bnd (f_X0_gives (D + 1) mx1 0 x) _ = _; rw [q1]; rfl
  · unfold f_X7_haterGives; rw [r2, bnd_some, q2]; rfl
theorem a_gives {b : Nat} {mx mm : mM} (hK : AK mx0 mm0 i kd vv) (hb : b < 500) (h : AA mx0 mm0 b mx mm) (x : Int32) : ARs mx0 mm0 (b + 6) (f_X0_gives 3 mx (nI kd) x) (f_X7_givesAct mm (nI i) x) := by
  unfold f_X7_givesAct
  rw [(h.x hK).2.2.2.1, Option.bind_some]
  have hkd := hK.2.1
  match kd, hkd with
  | 0, _ =>
    obtain ⟨v, mx', mm', q1, q2, q3⟩ := a_sgives (D := 2) hK (by omega) h 0 x (by simp)
    exact ⟨v, mx', mm', q1, by show bnd (f_X7_sellerGives mm (nI i) x) _ = _; rw [q2]; rfl, q3.le (by omega)⟩
  | 2, _ =>
    obtain ⟨v, mx', mm', q1, q2, q3⟩ := a_sgives (D := 2) hK (by omega) h 2 x (by simp)
    exact ⟨v, mx', mm', q1, by show bnd (f_X7_sellerGives mm (nI i) x) _ = _; rw [q2]; rfl, q3.le (by omega)⟩
  | 3, _ =>
    obtain ⟨v, mx', mm', q1, q2, q3⟩ := a_sgives (D := 2) hK (by omega) h 3 x (by simp)
    exact ⟨v, mx', mm', q1, by show bnd (f_X7_sellerGives mm (nI i) x) _ = _; rw [q2]; rfl, q3.le (by omega)⟩
  | 5, _ =>
    obtain ⟨v, mx', mm', q1, q2, q3⟩ := a_sgives (D := 2) hK (by omega) h 5 x (by simp)
    exact ⟨v, mx', mm', q1, by show bnd (f_X7_sellerGives mm (nI i) x) _ = _; rw [q2]; rfl, q3.le (by omega)⟩
  | 1, _ =>
    obtain ⟨v, mx', mm', q1, q2, q3⟩ := a_hgives (D := 1) hK (by omega) h x
    exact ⟨v, mx', mm', q1, by show bnd (f_X7_haterGives mm (nI i) x) _ = _; rw [q2]; rfl, q3.le (by omega)⟩
  | 4, _ =>
    obtain ⟨mx1, mm1, r1, r2, h1⟩ := a_run (by omega) h 51
    obtain ⟨v, mx', mm', q1, q2, q3⟩ := a_hgives (D := 0) hK (by omega) h1 (x + 1)
    refine ⟨v, mx', mm', ?_, ?_, q3.le (by omega)⟩
    · show bnd (f_X0_runs mx 51) _ = _; rw [r1]; show bnd (f_X0_gives 2 mx1 1 (x + 1)) _ = _; rw [q1]; rfl
    · show bnd (f_X7_body mm 51) _ = _; rw [r2]; show bnd (f_X7_haterGives mm1 (nI i) (x + 1)) _ = _; rw [q2]; rfl
  | 6, _ =>
    obtain ⟨mx1, mm1, r1, r2, h1⟩ := a_run (by omega) h 70
    obtain ⟨v, mx2, mm2, q1, q2, q3⟩ := a_sgives (D := 1) hK (by omega) h1 3 x (by simp)
    obtain ⟨w, mx', mm', p1, p2, p3⟩ := a_seller (D := 2) hK (by omega) q3 3 2 (by simp)
    refine ⟨v + w, mx', mm', ?_, ?_, p3.le (by omega)⟩
    · show bnd (f_X0_runs mx 70) _ = _; rw [r1]; show bnd (f_X0_gives 2 mx1 3 x) _ = _; rw [q1]; show bnd (f_X0_sells 3 mx2 3 2) _ = _; rw [p1]; rfl
    · show bnd (f_X7_body mm 70) _ = _; rw [r2]; show bnd (f_X7_sellerGives mm1 (nI i) x) _ = _; rw [q2]; show bnd (f_X7_sellerSells mm2 (nI i) 2) _ = _; rw [p2]; rfl
theorem a_stells {b D : Nat} {mx mm : mM} (hK : AK mx0 mm0 i kd vv) (hb : b < 400) (h : AA mx0 mm0 b mx mm) (from_ x : Int32) (hf : from_ = 0 ∨ from_ = 1 ∨ from_ = 2 ∨ from_ = 4) : ARs mx0 mm0 (b + 7) (f_X0_tells (D + 1) mx from_ x) (f_X7_sellerTells mm (nI i) x) := by
  obtain ⟨mx1, mm1, r1, r2, h1⟩ := a_run (by omega) h 12
  obtain ⟨v, mx', mm', q1, q2, q3⟩ := a_gives hK (by omega) h1 x
  have e : f_X0_tells (D + 1) mx from_ x = bnd (f_X0_runs mx 12) (fun _ m => bnd (f_X0_gives 3 m (mI m 322) x) fun y m2 => some (y * 2, m2)) := by rcases hf with rfl | rfl | rfl | rfl <;> rfl
  rw [e, r1, bnd_some, (h1.x hK).1, q1, bnd_some]
  unfold f_X7_sellerTells
  rw [r2, bnd_some, q2, bnd_some]
  exact ⟨_, _, _, rfl, rfl, q3⟩
theorem a_tells {b : Nat} {mx mm : mM} (hK : AK mx0 mm0 i kd vv) (hb : b < 300) (h : AA mx0 mm0 b mx mm) (x : Int32) : ARs mx0 mm0 (b + 14) (f_X0_tells 3 mx (nI kd) x) (f_X7_tellsAct mm (nI i) x) := by
  unfold f_X7_tellsAct
  rw [(h.x hK).2.2.2.1, Option.bind_some]
  have hkd := hK.2.1
  match kd, hkd with
  | 0, _ =>
    obtain ⟨v, mx', mm', q1, q2, q3⟩ := a_stells (D := 2) hK (by omega) h 0 x (by simp)
    exact ⟨v, mx', mm', q1, by show bnd (f_X7_sellerTells mm (nI i) x) _ = _; rw [q2]; rfl, q3.le (by omega)⟩
  | 1, _ =>
    obtain ⟨v, mx', mm', q1, q2, q3⟩ := a_stells (D := 2) hK (by omega) h 1 x (by simp)
    exact ⟨v, mx', mm', q1, by show bnd (f_X7_sellerTells mm (nI i) x) _ = _; rw [q2]; rfl, q3.le (by omega)⟩
  | 2, _ =>
    obtain ⟨v, mx', mm', q1, q2, q3⟩ := a_stells (D := 2) hK (by omega) h 2 x (by simp)
    exact ⟨v, mx', mm', q1, by show bnd (f_X7_sellerTells mm (nI i) x) _ = _; rw [q2]; rfl, q3.le (by omega)⟩
  | 4, _ =>
    obtain ⟨v, mx', mm', q1, q2, q3⟩ := a_stells (D := 2) hK (by omega) h 4 x (by simp)
    exact ⟨v, mx', mm', q1, by show bnd (f_X7_sellerTells mm (nI i) x) _ = _; rw [q2]; rfl, q3.le (by omega)⟩
  | 5, _ =>
    obtain ⟨mx1, mm1, r1, r2, h1⟩ := a_run (by omega) h 60
    obtain ⟨v, mx', mm', q1, q2, q3⟩ := a_stells (D := 1) hK (by omega) h1 2 (x - nI i) (by simp)
    refine ⟨v, mx', mm', ?_, ?_, q3.le (by omega)⟩
    · show bnd (f_X0_runs mx 60) _ = _; rw [r1]; show bnd (f_X0_tells 2 mx1 2 (x - mI mx1 323)) _ = _; rw [(h1.x hK).2.1, q1]; rfl
    · show bnd (f_X7_body mm 60) _ = _; rw [r2]; show bnd (f_X7_sellerTells mm1 (nI i) (x - nI i)) _ = _; rw [q2]; rfl
  | 3, _ =>
    obtain ⟨mx1, mm1, r1, r2, h1⟩ := a_run (by omega) h 40
    obtain ⟨v, mx2, mm2, q1, q2, q3⟩ := a_stells (D := 1) hK (by omega) h1 0 x (by simp)
    obtain ⟨w, mx', mm', p1, p2, p3⟩ := a_gives hK (by omega) q3 1
    refine ⟨v + w, mx', mm', ?_, ?_, p3.le (by omega)⟩
    · show bnd (f_X0_runs mx 40) _ = _; rw [r1]; show bnd (f_X0_tells 2 mx1 0 x) _ = _; rw [q1]; show bnd (f_X0_gives 3 mx2 (mI mx2 322) 1) _ = _; rw [(q3.x hK).1, p1]; rfl
    · show bnd (f_X7_body mm 40) _ = _; rw [r2]; show bnd (f_X7_sellerTells mm1 (nI i) x) _ = _; rw [q2]; show bnd (f_X7_givesAct mm2 (nI i) 1) _ = _; rw [p2]; rfl
  | 6, _ =>
    obtain ⟨mx1, mm1, r1, r2, h1⟩ := a_run (by omega) h 40
    obtain ⟨v, mx2, mm2, q1, q2, q3⟩ := a_stells (D := 1) hK (by omega) h1 0 x (by simp)
    obtain ⟨w, mx', mm', p1, p2, p3⟩ := a_gives hK (by omega) q3 1
    refine ⟨v + w, mx', mm', ?_, ?_, p3.le (by omega)⟩
    · show bnd (f_X0_runs mx 40) _ = _; rw [r1]; show bnd (f_X0_tells 2 mx1 0 x) _ = _; rw [q1]; show bnd (f_X0_gives 3 mx2 (mI mx2 322) 1) _ = _; rw [(q3.x hK).1, p1]; rfl
    · show bnd (f_X7_body mm 40) _ = _; rw [r2]; show bnd (f_X7_sellerTells mm1 (nI i) x) _ = _; rw [q2]; show bnd (f_X7_givesAct mm2 (nI i) 1) _ = _; rw [p2]; rfl
theorem op_act {mx mm : mM} (h : RR mx mm) (p a x : Int32) : OPe (f_X6_act mx p a x) (f_X7_act mm p a x) := by
  obtain ⟨W, S, ⟨hX, hS, hM, hQ⟩, hO, hK, hC, hC2, hT, hW, ⟨l1, l2, -⟩, hP⟩ := id h
  have hR0 : RR (wI mx 321 0) (wI mm 54 0) := ⟨W, S, ⟨hX, hS, hM, hQ⟩, hO, hK, hC, hC2, hT, hW.fr (fun k hk => if_neg (by omega)) (fun _ _ => rfl) rfl (fun _ _ => rfl), ⟨l1, l2, 0, by decide, rfl, rfl, fun i _ hi => absurd hi (Nat.not_lt_zero i)⟩, hP.fr (fun k hk => if_neg (by omega)) (fun _ _ => rfl) ⟨rfl, rfl⟩ ⟨rfl, rfl⟩⟩
  unfold f_X6_act f_X7_act
  rw [nmM_eq, nmM_eq, op_isPerson (m := wI mx 321 0) (n := S.1) hS.1.1, op7_isPerson (m := wI mm 54 0) (n := S.1) hQ.1.1 (by have := hO.1.1; omega), bnd_some, bnd_some]
  cases hb : inR S.1 p with
  | false => exact ⟨_, _, _, rfl, rfl, hR0⟩
  | true =>
    obtain ⟨j, hj, rfl⟩ := inR_t (by have := hO.1.1; omega) hb
    have hn := hO.1.1
    rw [zB_t, if_neg i0, if_neg i0]
    have k1 := hX.1.1
    have k2 := hX.1.2.1
    have e1 := (hS.2.1 j hj).1
    have e2 := (hS.2.1 j hj).2.1
    rw [show mA (wI mx 321 0) 15 = mA mx (14 + 1) from rfl, show mA (wI mx 321 0) 16 = mA mx (14 + 2) from rfl, gA_at (by rw [k1]; omega) (by omega), gA_at (by rw [k2]; omega) (by omega), Option.bind_some, Option.bind_some, e1, e2]
    unfold f_X0_becomes
    rw [nmM_eq, nmM_eq, nmM_eq, bnd_some]
    have hR1 : RR (wI (wI (wI (wI mx 321 0) 323 (nI j)) 322 (nI (S.2.1 0 j))) 324 (nI (S.2.1 1 j))) (wI mm 54 0) := ⟨W, S, ⟨hX, hS, hM, hQ⟩, hO, hK, hC, hC2, hT, hW.fr (fun k hk => by rw [mI_wI, if_neg (by omega), mI_wI, if_neg (by omega), mI_wI, if_neg (by omega), mI_wI, if_neg (by omega)]) (fun _ _ => rfl) rfl (fun _ _ => rfl), ⟨l1, l2, 0, by decide, rfl, rfl, fun i _ hi => absurd hi (Nat.not_lt_zero i)⟩, hP.fr (fun k hk => by rw [mI_wI, if_neg (by omega), mI_wI, if_neg (by omega), mI_wI, if_neg (by omega), mI_wI, if_neg (by omega)]) (fun _ _ => rfl) ⟨rfl, rfl⟩ ⟨rfl, rfl⟩⟩
    generalize hmx : wI (wI (wI (wI mx 321 0) 323 (nI j)) 322 (nI (S.2.1 0 j))) 324 (nI (S.2.1 1 j)) = mx1 at hR1
    have hKK : AK mx1 (wI mm 54 0) j (S.2.1 0 j) (S.2.1 1 j) := by
      subst hmx
      exact ⟨by omega, (hO.1.2 j hj).1, rfl, rfl, rfl, hM.1.1, hM.1.2.1, (hQ.2.1 j hj).1, (hQ.2.1 j hj).2.1⟩
    have hA0 : AA mx1 (wI mm 54 0) 0 mx1 (wI mm 54 0) := by
      subst hmx
      exact ⟨mA mx 6, mA mm 32, 0, Nat.le_refl _, by
        show _ = wI (wA (wI (wI (wI (wI mx 321 0) 323 (nI j)) 322 (nI (S.2.1 0 j))) 324 (nI (S.2.1 1 j))) 6 (mA (wI (wI (wI (wI mx 321 0) 323 (nI j)) 322 (nI (S.2.1 0 j))) 324 (nI (S.2.1 1 j))) 6)) 321 (mI (wI (wI (wI (wI mx 321 0) 323 (nI j)) 322 (nI (S.2.1 0 j))) 324 (nI (S.2.1 1 j))) 321)
        rw [wA_self, wI_self], by
        show _ = wI (wA (wI mm 54 0) 32 (mA (wI mm 54 0) 32)) 54 (mI (wI mm 54 0) 54)
        rw [wA_self, wI_self], l1, l2, fun i _ hi => absurd hi (Nat.not_lt_zero i)⟩
    have fin : ∀ {b e1 e2}, b < 1000 → ARs mx1 (wI mm 54 0) b e1 e2 → OPe e1 e2 := by
      intro b e1 e2 hb hA
      obtain ⟨v, mx', mm', q1, q2, l, l', r, hr, rfl, rfl, g1, g2, g3⟩ := hA
      obtain ⟨W', S', ⟨hX, hS, hM, hQ⟩, hO, hK, hC, hC2, hT, hW, hA, hP⟩ := hR1
      exact ⟨v, _, _, q1, q2, W', S', ⟨hX, hS, hM, hQ⟩, hO, hK, hC, hC2, hT, hW.fr (fun k hk => if_neg (by omega)) (fun c hc => if_neg (by omega)) rfl (fun c hc => if_neg (by omega)), ⟨g1, g2, r, by omega, rfl, rfl, g3⟩, hP.fr (fun k hk => if_neg (by omega)) (fun _ _ => rfl) ⟨rfl, rfl⟩ ⟨rfl, rfl⟩⟩
    rw [op_in (n := 3) (in_lit (by decide) (by decide)), bnd_some]
    unfold f_X0_answer
    rw [show mI mx1 322 = nI (S.2.1 0 j) from hKK.2.2.1]
    by_cases a0 : a = 0
    · subst a0
      obtain ⟨v, mx', mm', q1, q2, q3⟩ := a_sells hKK (by omega) hA0 x
      refine fin (b := 20) (by decide) ⟨v, mx', mm', ?_, ?_, q3.le (by omega)⟩
      · show bnd (bnd (f_X0_sells 3 mx1 (nI (S.2.1 0 j)) x) _) _ = _; rw [q1]; rfl
      · show bnd (f_X7_sellsAct (wI mm 54 0) (nI j) x) _ = _; rw [q2]; rfl
    · by_cases a1 : a = 1
      · subst a1
        obtain ⟨v, mx', mm', q1, q2, q3⟩ := a_gives hKK (by omega) hA0 x
        refine fin (b := 20) (by decide) ⟨v, mx', mm', ?_, ?_, q3.le (by omega)⟩
        · show bnd (bnd (f_X0_gives 3 mx1 (nI (S.2.1 0 j)) x) _) _ = _; rw [q1]; rfl
        · show bnd (f_X7_givesAct (wI mm 54 0) (nI j) x) _ = _; rw [q2]; rfl
      · by_cases a2 : a = 2
        · subst a2
          obtain ⟨v, mx', mm', q1, q2, q3⟩ := a_tells hKK (by omega) hA0 x
          refine fin (b := 20) (by decide) ⟨v, mx', mm', ?_, ?_, q3.le (by omega)⟩
          · show bnd (bnd (f_X0_tells 3 mx1 (nI (S.2.1 0 j)) x) _) _ = _; rw [q1]; rfl
          · show bnd (f_X7_tellsAct (wI mm 54 0) (nI j) x) _ = _; rw [q2]; rfl
        · have hin : inR 3 a = false := by
            cases hc : inR 3 a with
            | false => rfl
            | true =>
              obtain ⟨k, hk, rfl⟩ := inR_t (by decide) hc
              match k, hk with
              | 0, _ => exact absurd rfl a0
              | 1, _ => exact absurd rfl a1
              | 2, _ => exact absurd rfl a2
          rw [if_neg a0, if_neg a1, if_neg a2, hin, bnd_some]
          exact ⟨_, _, _, rfl, rfl, hR1⟩
end ACTS
