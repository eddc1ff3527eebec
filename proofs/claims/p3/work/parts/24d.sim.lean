/-! TOWN: an E, both side by side -/
section SIM
def tlE (K22 : mM → Int32 → Int32 → fR Int32) (m14 : mM) (y1 y2 x4 : Int32) : fR Int32 := (sA 0 m14 13 y1 (mI m14 23)).bind fun m16 => (if (mI m16 24) = 0 then some (1, m16) else (if x4 = 41 then nmM (wI m16 24 (((mI m16 24) - 1))) fun m17 => nmM (wI m17 25 (((mI m17 25) - 1))) fun m18 => nmM (wI m18 13 (((mI m18 13) + 1))) fun m19 => bnd (f_X7_whole m19 ) fun (x20 : Unit) (m21 : mM) => (K22 m21 y1 y2) else some (0, m16)))
def OPS (w : Nat) (ops : List Int32) : Prop := ∀ d rest, d + 2 * (4 - w) < 31 → wfc (d + 1) rest → wfc d (ops ++ rest)
/-- class and reference at an F -/
def simR (mx m0 m1 : mM) (a W L p : Nat) (ch : Nat → Nat) (T : Nat × Nat × Nat) (tk : List (Nat × Nat)) (rc : mM → Nat → Int32 → fR Unit) (w : Nat) : Prop := ∀ (mX nM : mM) (pos : Nat) (all st : List Int32) (F : Nat), LX mx mX a L pos T tk all → LM m0 m1 nM W L p pos ch all → SK nM st → dep st = w → all.length + st.length ≤ pos → L + 1 ≤ F + pos → ∃ mX', rc mX a (nI w) = some ((), mX') ∧ ((∃ pos' ops nM' F', pos < pos' ∧ ops.length + pos ≤ pos' ∧ LX mx mX' a L pos' T tk (all ++ ops) ∧ f_X7_takesE_22 F nM (nI p) 1 = f_X7_takesE_22 F' nM' (nI p) 0 ∧ LM m0 m1 nM' W L p pos' ch ((all ++ ops) ++ List.replicate (nb st) (-33)) ∧ SK nM' (db st) ∧ L + 1 ≤ F' + pos' ∧ OPS w ops) ∨ (∃ pos' nM' all', DX mx mX' a L pos' ∧ f_X7_takesE_22 F nM (nI p) 1 = some (0, nM') ∧ LM m0 m1 nM' W L p pos' ch all'))
def deadR (mx : mM) (a L : Nat) (rc : mM → Nat → Int32 → fR Unit) : Prop := ∀ (mX : mM) (pos : Nat) (w : Int32), DX mx mX a L pos → ∃ mX', rc mX a w = some ((), mX') ∧ DX mx mX' a L pos
section S
variable {mx m0 m1 : mM} {a W L p w : Nat} {ch : Nat → Nat} {T : Nat × Nat × Nat} {tk : List (Nat × Nat)} {rc : mM → Nat → Int32 → fR Unit}
theorem fb_E0 {nM : mM} {pos : Nat} {all : List Int32} {y1 : Int32} {K : mM → Int32 → Int32 → fR Int32} (h : LM m0 m1 nM W L p pos ch all) (h1 : ¬ nx ch L pos = 38) (h2 : ¬ nx ch L pos = 124) : fb_X7_takesE_22 K nM y1 0 = bnd (f_X7_settle nM 124) fun _ m14 => tlE K m14 y1 0 (nx ch L pos) := by
  unfold fb_X7_takesE_22
  rw [h.2.2.1.next, bnd_some, if_pos rfl, if_neg h1, if_neg h2]; rfl
theorem fb_E0s {nM : mM} {pos : Nat} {all : List Int32} {y1 : Int32} {K : mM → Int32 → Int32 → fR Int32} (h : LM m0 m1 nM W L p pos ch all) {x : Int32} (h1 : nx ch L pos = x) (hx : x = 38 ∨ x = 124) : fb_X7_takesE_22 K nM y1 0 = f_X7_takesE_122 K nM y1 x := by
  unfold fb_X7_takesE_22
  rw [h.2.2.1.next, bnd_some, if_pos rfl, h1]
  rcases hx with e | e
  · rw [if_pos e]
  · rw [if_neg (by rw [e]; decide), if_pos e]
theorem dead_loop {mX : mM} {pos F : Nat} {y2 y3 y4 : Int32} (h : DX mx mX a L pos) : ∃ mX', f_X4_either_11 rc (F + 1) mX a y2 y3 y4 = some ((), mX') ∧ DX mx mX' a L pos := by
  have h99 : ∃ mX', f_X4_either_99 rc mX a y3 = some ((), mX') ∧ DX mx mX' a L pos := by
    unfold f_X4_either_99
    by_cases c : y3 = 0
    · rw [if_pos c]; exact ⟨mX, rfl, h⟩
    · obtain ⟨m', g1, g2⟩ := h.joint (s := 124)
      rw [if_neg c, g1, bnd_some]; exact ⟨m', rfl, g2⟩
  show ∃ mX', fb_X4_either_11 _ _ _ _ _ _ _ = _ ∧ _
  unfold fb_X4_either_11
  by_cases c : 100 ≤ y4
  · rw [if_pos c]; exact h99
  · rw [if_neg c, h.next, bnd_some, if_neg (by decide), h.next, bnd_some, if_neg (by decide)]; exact h99
def jn (j : Bool) : Nat := match j with
  | true => 1
  | false => 0
theorem cl_jn {b : Bool} {x : Int32} : (cl b x).length = jn b := by cases b <;> rfl
theorem zB_jn {b : Bool} : zB b = 0 ↔ b = false := zB_e
theorem wfc_and {d : Nat} {rest : List Int32} (h : wfc (d + 1) rest) : wfc (d + 2) (-38 :: rest) := Or.inr (Or.inl ⟨Or.inl rfl, by omega, h⟩)
theorem wfc_or {d : Nat} {rest : List Int32} (h : wfc (d + 1) rest) : wfc (d + 2) (-124 :: rest) := Or.inr (Or.inl ⟨Or.inr rfl, by omega, h⟩)
theorem wfc_not {d : Nat} {rest : List Int32} (h : wfc (d + 1) rest) : wfc (d + 1) (-33 :: rest) := Or.inl ⟨rfl, by omega, h⟩
theorem wfc_cl {d : Nat} {j : Bool} {rest : List Int32} (h : wfc (d + 1) rest) : wfc (d + 1 + jn j) (cl j (-124) ++ rest) := by
  cases j with
  | false => exact h
  | true => exact wfc_or h
theorem sim_loop (hT : TXT mx m0 L ch) (hR : simR mx m0 m1 a W L p ch T tk rc w) (hD : deadR mx a L rc) (hw : w ≤ 4) : ∀ (μ : Nat) (mX nM : mM) (pos : Nat) (allM st : List Int32) (an j : Bool) (F F2 i : Nat), L - pos ≤ μ → LX mx mX a L pos T tk (allM ++ cl an (-38)) → LM m0 m1 nM W L p pos ch allM → SK nM (cl an 38 ++ (cl j 124 ++ st)) → base st → dep st = w → allM.length + (cl an 38 ++ (cl j 124 ++ st)).length ≤ pos → L + 1 ≤ F + pos → i + 1 ≤ pos → μ < F2 →
    ∃ mX', f_X4_either_11 rc F2 mX a (nI w) (zB j) (nI i) = some ((), mX') ∧ ((∃ pos' ops nM' F', pos ≤ pos' ∧ ops.length + pos ≤ pos' + jn j ∧ LX mx mX' a L pos' T tk ((allM ++ cl an (-38)) ++ ops) ∧ f_X7_takesE_22 F nM (nI p) 0 = tlE (f_X7_takesE_22 F') nM' (nI p) 0 (nx ch L pos') ∧ LM m0 m1 nM' W L p pos' ch ((allM ++ cl an (-38)) ++ ops) ∧ SK nM' st ∧ L ≤ F' + pos' ∧ (∀ d rest, d + 2 * (4 - w) + 2 < 31 → wfc (d + 1) rest → wfc (d + 1 + jn j) (ops ++ rest))) ∨ (∃ pos' nM' all', DX mx mX' a L pos' ∧ f_X7_takesE_22 F nM (nI p) 0 = some (0, nM') ∧ LM m0 m1 nM' W L p pos' ch all')) := by
  intro μ
  induction μ with
  | zero =>
    intro mX nM pos allM st an j F F2 i hμ hX hM hS hb hd hl hF hi hF2
    obtain ⟨F', rfl⟩ : ∃ F', F = F' + 1 := ⟨F - 1, by have := hX.2.2.2.1; omega⟩
    obtain ⟨F2', rfl⟩ : ∃ F', F2 = F' + 1 := ⟨F2 - 1, by omega⟩
    have hL : L ≤ 100 := hX.2.2.2.2.1
    have hpL : pos ≤ L := hX.2.2.2.1
    have en : nx ch L pos = -1 := if_neg (by omega)
    rw [List.length_append, List.length_append, cl_jn, cl_jn] at hl
    have e0 : f_X7_takesE_22 (F' + 1) nM (nI p) 0 = fb_X7_takesE_22 (f_X7_takesE_22 F') nM (nI p) 0 := rfl
    obtain ⟨mM2, g1, g2, g3⟩ := m_settle124 hM hS hb (by rw [List.length_append, List.length_append, cl_jn, cl_jn]; exact hl)
    rw [e0, fb_E0 hM (by rw [en]; decide) (by rw [en]; decide), g1, bnd_some]
    show ∃ mX', fb_X4_either_11 _ _ _ _ _ _ _ = _ ∧ _
    unfold fb_X4_either_11
    rw [if_neg (show ¬ (100 : Int32) ≤ nI i from (nI_ge (by omega) (by decide) : ¬ nI 100 ≤ nI i)), hX.next hT, bnd_some, en, if_neg (by decide), hX.next hT, bnd_some, en, if_neg (by decide)]
    unfold f_X4_either_99
    cases j with
    | false =>
      rw [if_pos zB_f]
      refine ⟨mX, rfl, Or.inl ⟨pos, [], mM2, F', Nat.le_refl _, by show 0 + pos ≤ pos + 0; omega, by rw [List.append_nil]; exact hX, by rw [en], g2, g3, by omega, fun d rest _ h => h⟩⟩
    | true =>
      have hl : allM.length + (jn an + (1 + st.length)) ≤ pos := hl
      obtain ⟨m', q1, q2⟩ := hX.joint (s := 124) (by rw [List.length_append, cl_jn]; omega) (Or.inr (Or.inr rfl))
      rw [zB_t, if_neg i0, q1, bnd_some]
      exact ⟨m', rfl, Or.inl ⟨pos, [-124], mM2, F', Nat.le_refl _, by show 1 + pos ≤ pos + 1; omega, q2, by rw [en], g2, g3, by omega, fun d rest _ h => wfc_or h⟩⟩
  | succ μ ih =>
    intro mX nM pos allM st an j F F2 i hμ hX hM hS hb hd hl hF hi hF2
    obtain ⟨F', rfl⟩ : ∃ F', F = F' + 1 := ⟨F - 1, by have := hX.2.2.2.1; omega⟩
    obtain ⟨F2', rfl⟩ : ∃ F', F2 = F' + 1 := ⟨F2 - 1, by omega⟩
    have hL : L ≤ 100 := hX.2.2.2.2.1
    have hpL : pos ≤ L := hX.2.2.2.1
    have hl0 := hl
    rw [List.length_append, List.length_append, cl_jn, cl_jn] at hl
    have e0 : f_X7_takesE_22 (F' + 1) nM (nI p) 0 = fb_X7_takesE_22 (f_X7_takesE_22 F') nM (nI p) 0 := rfl
    show ∃ mX', fb_X4_either_11 _ _ _ _ _ _ _ = _ ∧ _
    unfold fb_X4_either_11
    rw [if_neg (show ¬ (100 : Int32) ≤ nI i from (nI_ge (by omega) (by decide) : ¬ nI 100 ≤ nI i)), hX.next hT, bnd_some, e0]
    have hal : (allM ++ cl an (-38)).length = allM.length + jn an := by rw [List.length_append, cl_jn]
    by_cases c38 : nx ch L pos = 38
    · have hpl : pos < L := nx_lt (c := 38) (by decide) c38
      have hst := m_settle38 hM hS hb hl0
      obtain ⟨mM2, g1, g2, g3⟩ := m_push122 (y1 := nI p) (K := f_X7_takesE_22 F') hst hpl (by rw [hal, List.length_append, cl_jn]; omega) (Or.inl rfl)
      rw [if_pos c38, fb_E0s hM c38 (Or.inl rfl), g1]
      unfold f_X4_either_36
      rw [hX.next hT, bnd_some, nmM_eq, c38, if_neg (by decide)]
      unfold f_X4_either_69
      have hX1 := hX.adv hpl
      have edep : dep (38 :: (cl j 124 ++ st)) = w := by
        rw [← hd]; cases j <;> rfl
      obtain ⟨mX2, r1, r2⟩ := hR _ mM2 (pos + 1) _ (38 :: (cl j 124 ++ st)) F' hX1 g2 g3 edep (by rw [hal]; show _ + ((cl j 124 ++ st).length + 1) ≤ _; rw [List.length_append, cl_jn]; omega) (by omega)
      rw [r1, bnd_some, if_pos rfl]
      rcases r2 with ⟨pos2, ops2, mM3, F3, s1, s2, s3, s4, s5, s6, s7, s8⟩ | ⟨pos2, mM3, all3, s1, s2, s3⟩
      · obtain ⟨mX3, q1, q2⟩ := s3.joint (s := 38) (by rw [List.length_append, hal]; omega) (Or.inr (Or.inl rfl))
        have s5 : LM m0 m1 mM3 W L p pos2 ch (((allM ++ cl an (-38)) ++ ops2) ++ []) := s5
        rw [List.append_nil] at s5
        have hp2 := s3.2.2.2.1
        rw [q1, bnd_some, nI_1, s4]
        obtain ⟨mX4, t1, t2⟩ := ih mX3 mM3 pos2 ((allM ++ cl an (-38)) ++ ops2) st true j F3 F2' (i + 1) (by omega) q2 s5 s6 hb hd (by show _ + ((cl j 124 ++ st).length + 1) ≤ _; rw [List.length_append, hal, List.length_append, cl_jn]; omega) s7 (by omega) (by omega)
        refine ⟨mX4, t1, ?_⟩
        rcases t2 with ⟨pos4, ops4, mM4, F4, u1, u2, u3, u4, u5, u6, u7, u8⟩ | t2
        · left
          have eo : (allM ++ cl an (-38)) ++ (ops2 ++ (-38 :: ops4)) = (((allM ++ cl an (-38)) ++ ops2) ++ cl true (-38)) ++ ops4 := by
            simp only [List.append_assoc]; rfl
          refine ⟨pos4, ops2 ++ (-38 :: ops4), mM4, F4, by omega, ?_, by rw [eo]; exact u3, u4, by rw [eo]; exact u5, u6, u7, fun d rest hd2 hr => ?_⟩
          · rw [List.length_append]; show _ + (ops4.length + 1) + _ ≤ _; omega
          · have h3 := u8 d rest hd2 hr
            rw [List.append_assoc]
            refine s8 (d + 1 + jn j) _ (by have : jn j ≤ 1 := (by cases j <;> decide); omega) ?_
            have e2 : d + 1 + jn j + 1 = (d + jn j) + 2 := by omega
            rw [e2]
            refine wfc_and ?_
            have e3 : d + jn j + 1 = d + 1 + jn j := by omega
            rw [e3]; exact h3
        · exact Or.inr t2
      · obtain ⟨mX3, q1, q2⟩ := s1.joint (s := 38)
        obtain ⟨F2'', rfl⟩ : ∃ F', F2' = F' + 1 := ⟨F2' - 1, by omega⟩
        obtain ⟨mX4, t1, t2⟩ := dead_loop (rc := rc) (F := F2'') (y2 := nI w) (y3 := zB j) (y4 := nI i + 1) q2
        rw [q1, bnd_some]
        exact ⟨mX4, t1, Or.inr ⟨pos2, mM3, all3, t2, s2, s3⟩⟩
    · rw [if_neg c38, hX.next hT, bnd_some]
      by_cases c124 : nx ch L pos = 124
      · have hpl : pos < L := nx_lt (c := 124) (by decide) c124
        have hst := m_settle124 hM hS hb hl0
        obtain ⟨mM2, g1, g2, g3⟩ := m_push122 (y1 := nI p) (K := f_X7_takesE_22 F') hst hpl (by rw [List.length_append, hal, cl_jn]; omega) (Or.inr rfl)
        rw [if_pos c124, fb_E0s hM c124 (Or.inr rfl), g1]
        unfold f_X4_either_36
        rw [hX.next hT, bnd_some, nmM_eq, c124, if_pos rfl]
        have hX1 := hX.adv hpl
        have edep : dep (124 :: st) = w := by rw [← hd]; rfl
        -- the class's own | ahead of the next T
        have hJ : ∃ mXj, (if zB j = 0 then f_X4_either_69 rc (f_X4_either_11 rc F2') (wI mX 130 (mI mX 130 + 1)) a (nI w) (zB j) (nI i) 124 else bnd (f_X5_addJoint (wI mX 130 (mI mX 130 + 1)) a 124) fun (x20 : Unit) (m21 : mM) => f_X4_either_69 rc (f_X4_either_11 rc F2') m21 a (nI w) (zB j) (nI i) 124) = f_X4_either_69 rc (f_X4_either_11 rc F2') mXj a (nI w) (zB j) (nI i) 124 ∧ LX mx mXj a L (pos + 1) T tk ((allM ++ cl an (-38)) ++ cl j (-124)) := by
          cases j with
          | false =>
            rw [if_pos zB_f]
            refine ⟨_, rfl, ?_⟩
            show LX _ _ _ _ _ _ _ ((allM ++ cl an (-38)) ++ []); rw [List.append_nil]; exact hX1
          | true =>
            have hl : allM.length + (jn an + (1 + st.length)) ≤ pos := hl
            obtain ⟨m', q1, q2⟩ := hX1.joint (s := 124) (by rw [hal]; omega) (Or.inr (Or.inr rfl))
            rw [zB_t, if_neg i0, q1, bnd_some]
            exact ⟨m', rfl, q2⟩
        obtain ⟨mXj, j1, j2⟩ := hJ
        rw [j1]
        unfold f_X4_either_69
        have hal2 : ((allM ++ cl an (-38)) ++ cl j (-124)).length = allM.length + jn an + jn j := by rw [List.length_append, hal, cl_jn]
        obtain ⟨mX2, r1, r2⟩ := hR _ mM2 (pos + 1) _ (124 :: st) F' j2 g2 g3 edep (by rw [hal2]; show _ + (st.length + 1) ≤ _; omega) (by omega)
        rw [r1, bnd_some, if_neg (by decide)]
        rcases r2 with ⟨pos2, ops2, mM3, F3, s1, s2, s3, s4, s5, s6, s7, s8⟩ | ⟨pos2, mM3, all3, s1, s2, s3⟩
        · have s5 : LM m0 m1 mM3 W L p pos2 ch ((((allM ++ cl an (-38)) ++ cl j (-124)) ++ ops2) ++ []) := s5
          rw [List.append_nil] at s5
          have hp2 := s3.2.2.2.1
          rw [nI_1, s4]
          obtain ⟨mX4, t1, t2⟩ := ih mX2 mM3 pos2 (((allM ++ cl an (-38)) ++ cl j (-124)) ++ ops2) st false true F3 F2' (i + 1) (by omega) (by show LX _ _ _ _ _ _ _ (_ ++ []); rw [List.append_nil]; exact s3) s5 s6 hb hd (by show _ + (st.length + 1) ≤ _; rw [List.length_append, hal2]; omega) s7 (by omega) (by omega)
          refine ⟨mX4, t1, ?_⟩
          rcases t2 with ⟨pos4, ops4, mM4, F4, u1, u2, u3, u4, u5, u6, u7, u8⟩ | t2
          · left
            have u2 : ops4.length + pos2 ≤ pos4 + 1 := u2
            have eo : (allM ++ cl an (-38)) ++ (cl j (-124) ++ (ops2 ++ ops4)) = ((((allM ++ cl an (-38)) ++ cl j (-124)) ++ ops2) ++ cl false (-38)) ++ ops4 := by
              show _ = ((((allM ++ cl an (-38)) ++ cl j (-124)) ++ ops2) ++ []) ++ ops4
              rw [List.append_nil]
              simp only [List.append_assoc]
            refine ⟨pos4, cl j (-124) ++ (ops2 ++ ops4), mM4, F4, by omega, ?_, by rw [eo]; exact u3, u4, by rw [eo]; exact u5, u6, u7, fun d rest hd2 hr => ?_⟩
            · rw [List.length_append, List.length_append, cl_jn]; omega
            · have h3 := u8 d rest hd2 hr
              rw [List.append_assoc, List.append_assoc]
              exact wfc_cl (s8 (d + 1) _ (by omega) h3)
          · exact Or.inr t2
        · obtain ⟨F2'', rfl⟩ : ∃ F', F2' = F' + 1 := ⟨F2' - 1, by omega⟩
          obtain ⟨mX4, t1, t2⟩ := dead_loop (rc := rc) (F := F2'') (y2 := nI w) (y3 := 1) (y4 := nI i + 1) s1
          exact ⟨mX4, t1, Or.inr ⟨pos2, mM3, all3, t2, s2, s3⟩⟩
      · obtain ⟨mM2, g1, g2, g3⟩ := m_settle124 hM hS hb hl0
        rw [if_neg c124, fb_E0 hM c38 c124, g1, bnd_some]
        unfold f_X4_either_99
        cases j with
        | false =>
          rw [if_pos zB_f]
          refine ⟨mX, rfl, Or.inl ⟨pos, [], mM2, F', Nat.le_refl _, by show 0 + pos ≤ pos + 0; omega, by rw [List.append_nil]; exact hX, rfl, g2, g3, by omega, fun d rest _ h => h⟩⟩
        | true =>
          have hl : allM.length + (jn an + (1 + st.length)) ≤ pos := hl
          obtain ⟨m', q1, q2⟩ := hX.joint (s := 124) (by rw [hal]; omega) (Or.inr (Or.inr rfl))
          rw [zB_t, if_neg i0, q1, bnd_some]
          exact ⟨m', rfl, Or.inl ⟨pos, [-124], mM2, F', Nat.le_refl _, by show 1 + pos ≤ pos + 1; omega, q2, rfl, g2, g3, by omega, fun d rest _ h => wfc_or h⟩⟩
theorem dead_either {mX : mM} {pos : Nat} {y2 : Int32} (hD : deadR mx a L rc) (h : DX mx mX a L pos) : ∃ mX', f_X4_either rc mX a y2 = some ((), mX') ∧ DX mx mX' a L pos := by
  obtain ⟨m2, q1, q2⟩ := hD mX pos y2 h
  unfold f_X4_either
  rw [q1, bnd_some]
  exact dead_loop (F := 999) q2
theorem sim_either (hT : TXT mx m0 L ch) (hR : simR mx m0 m1 a W L p ch T tk rc w) (hD : deadR mx a L rc) (hw : w ≤ 4) {mX nM : mM} {pos : Nat} {all st : List Int32} {F : Nat} (hX : LX mx mX a L pos T tk all) (hM : LM m0 m1 nM W L p pos ch all) (hS : SK nM st) (hb : base st) (hd : dep st = w) (hl : all.length + st.length ≤ pos) (hF : L + 1 ≤ F + pos) :
    ∃ mX', f_X4_either rc mX a (nI w) = some ((), mX') ∧ ((∃ pos' ops nM' F', pos < pos' ∧ ops.length + pos ≤ pos' ∧ LX mx mX' a L pos' T tk (all ++ ops) ∧ f_X7_takesE_22 F nM (nI p) 1 = tlE (f_X7_takesE_22 F') nM' (nI p) 0 (nx ch L pos') ∧ LM m0 m1 nM' W L p pos' ch (all ++ ops) ∧ SK nM' st ∧ L ≤ F' + pos' ∧ (∀ d rest, d + 2 * (4 - w) + 2 < 31 → wfc (d + 1) rest → wfc d (ops ++ rest))) ∨ (∃ pos' nM' all', DX mx mX' a L pos' ∧ f_X7_takesE_22 F nM (nI p) 1 = some (0, nM') ∧ LM m0 m1 nM' W L p pos' ch all')) := by
  unfold f_X4_either
  obtain ⟨mX2, r1, r2⟩ := hR mX nM pos all st F hX hM hS hd hl hF
  rw [r1, bnd_some]
  have e1 : nb st = 0 := by rcases hb with rfl | ⟨xs, rfl⟩ <;> rfl
  have e2 : db st = st := by rcases hb with rfl | ⟨xs, rfl⟩ <;> rfl
  rcases r2 with ⟨pos2, ops2, mM3, F3, s1, s2, s3, s4, s5, s6, s7, s8⟩ | ⟨pos2, mM3, all3, s1, s2, s3⟩
  · rw [e1] at s5
    rw [e2] at s6
    have s5 : LM m0 m1 mM3 W L p pos2 ch ((all ++ ops2) ++ []) := s5
    rw [List.append_nil] at s5
    have hp2 := s3.2.2.2.1
    have hL := s3.2.2.2.2.1
    obtain ⟨mX4, t1, t2⟩ := sim_loop hT hR hD hw (L - pos2) mX2 mM3 pos2 (all ++ ops2) st false false F3 1000 0 (Nat.le_refl _) (by show LX _ _ _ _ _ _ _ (_ ++ []); rw [List.append_nil]; exact s3) s5 s6 hb hd (by show _ + st.length ≤ _; rw [List.length_append]; omega) s7 (by omega) (by omega)
    refine ⟨mX4, t1, ?_⟩
    rcases t2 with ⟨pos4, ops4, mM4, F4, u1, u2, u3, u4, u5, u6, u7, u8⟩ | ⟨pos4, mM4, all4, u1, u2, u3⟩
    · left
      have u2 : ops4.length + pos2 ≤ pos4 + 0 := u2
      have eo : all ++ (ops2 ++ ops4) = ((all ++ ops2) ++ cl false (-38)) ++ ops4 := by
        show _ = ((all ++ ops2) ++ []) ++ ops4
        rw [List.append_nil, List.append_assoc]
      refine ⟨pos4, ops2 ++ ops4, mM4, F4, by omega, by rw [List.length_append]; omega, by rw [eo]; exact u3, by rw [s4, u4], by rw [eo]; exact u5, u6, u7, fun d rest hd2 hr => ?_⟩
      have h3 := u8 d rest hd2 hr
      rw [List.append_assoc]
      exact s8 d _ (by omega) h3
    · exact Or.inr ⟨pos4, mM4, all4, u1, by rw [s4, u2], u3⟩
  · obtain ⟨mX4, t1, t2⟩ := dead_loop (rc := rc) (F := 999) (y2 := nI w) (y3 := 0) (y4 := 0) s1
    exact ⟨mX4, t1, Or.inr ⟨pos2, mM3, all3, t2, s2, s3⟩⟩
end S
end SIM
