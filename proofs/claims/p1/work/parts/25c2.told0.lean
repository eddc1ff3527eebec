/-! TOLD where nobody is -/
section TOLD0
variable {mx mm : mM}
theorem op_told0 (h : RR mx mm) (h0 : mI mx 896 = 0) (p : Int32) : OPe (f_X6_told mx p) (f_X7_told mm p) := by
  by_cases hp : p < 30 ∨ 41 < p
  · exact (op_told_t h p).2 hp
  have p1 : ¬ p < 30 := fun z => hp (Or.inl z)
  have p2 : ¬ 41 < p := fun z => hp (Or.inr z)
  obtain ⟨W, S, hr⟩ := id h
  obtain ⟨cs, hg⟩ := RRs.rg hr
  have hn := hg.2.1.1.1
  obtain ⟨hX, hS, hM, hQ⟩ := id hg.1
  have hmr := hg.mr
  have htw := hg.tw
  have hS1 : mI mx 896 = nI S.1 := hS.1.1
  have e0 : S.1 = 0 := (nI_eq (by omega) (by decide)).mp (hS1.symm.trans h0)
  have i10 : (10 : Int32).toInt = 10 := by decide
  have i21 : (21 : Int32).toInt = 21 := by decide
  have i22 : (22 : Int32).toInt = 22 := by decide
  have i30 : (30 : Int32).toInt = 30 := by decide
  have i41 : (41 : Int32).toInt = 41 := by decide
  have i42 : (42 : Int32).toInt = 42 := by decide
  have q1 := p1
  have q2 := p2
  rw [Int32.lt_iff_toInt_lt] at q1 q2
  obtain ⟨m1, s1, s2, s3, s4⟩ := hg.start (due := nI (clLast 1 10 cs))
  have hx : f_X6_sellingOn mx (p - 30) = some (0, m1) := by
    unfold f_X6_sellingOn
    rw [chR_t htw.1, htw.2.1, s1, bnd_some]
    obtain ⟨⟨a1, _⟩, _⟩ := s2
    have h1 : mI m1 896 = nI S.1 := a1.2.1
    show fb_X6_sellingOn_25 _ _ _ _ _ = _
    unfold fb_X6_sellingOn_25
    rw [h1, e0, if_pos (show nI 0 ≤ (0 : Int32) by decide)]
  have hm : f_X7_sellOn mm (p - 30) = some (0, mm) := by
    have := m_sellOn hmr.1 hmr.2.2.2.1 (by have := hmr.2.2.2.2.2.1; omega) (p - 30)
    rw [this, e0]; rfl
  unfold f_X6_told f_X7_told f_X6_told_21
  rw [if_neg (show ¬ p < 10 by rw [Int32.lt_iff_toInt_lt]; omega), if_pos (show (22 : Int32) ≤ p by rw [Int32.le_iff_toInt_le]; omega), if_neg p1, if_neg (show ¬ (42 : Int32) ≤ p by rw [Int32.le_iff_toInt_le]; omega), hx, bnd_some]
  rw [in_g, bnd_some, in_g, bnd_some, if_neg (show ¬ p < 10 by rw [Int32.lt_iff_toInt_lt]; omega), if_pos (show (21 : Int32) < p by rw [Int32.lt_iff_toInt_lt]; omega), if_pos rfl, if_neg p1, if_neg p2, if_neg (show ¬ (1 : Int32) = 0 by decide), hm, bnd_some]
  exact ⟨_, m1, mm, rfl, rfl, h.frS s4 (FSM.rfl hg.2.2.2.2.1)⟩
end TOLD0
