/-! REST: what the reference keeps and puts back; the class alone -/
section REST
theorem m_rest_keep {m : mM} (l4 : (mA m 4).length = 7) (l21 : (mA m 21).length = 7) : f_X7_layRest m = f_X7_layRest_32 1000 (wA m 21 (mA m 4)) 0 0 0 := by
  unfold f_X7_layRest
  have main : ∀ (j k : Nat) (l : List Int32) (F : Nat), k + j = 7 → j < F → l.length = 7 → (∀ q, q < k → l.getD q 0 = (mA m 4).getD q 0) → f_X7_layRest_2 F (wA m 21 l) (nI k) = f_X7_layRest_32 1000 (wA m 21 (mA m 4)) 0 0 0 := by
    intro j
    induction j with
    | zero =>
      intro k l F hk hF hl h
      obtain ⟨F', rfl⟩ : ∃ F', F = F' + 1 := ⟨F - 1, by omega⟩
      obtain rfl : k = 7 := by omega
      have e : l = mA m 4 := lext hl l4 h
      show fb_X7_layRest_2 _ _ _ = _
      unfold fb_X7_layRest_2
      rw [if_pos (show (7 : Int32) ≤ nI 7 by decide), e]
    | succ j ih =>
      intro k l F hk hF hl h
      obtain ⟨F', rfl⟩ : ∃ F', F = F' + 1 := ⟨F - 1, by omega⟩
      show fb_X7_layRest_2 _ _ _ = _
      unfold fb_X7_layRest_2
      rw [if_neg (show ¬ (7 : Int32) ≤ nI k from (nI_ge (by omega) (by decide) : ¬ nI 7 ≤ nI k)), show mA (wA m 21 l) 4 = mA m 4 from rfl, gA_at (by omega) (by omega), Option.bind_some, sA_at0 (by show k < l.length; omega) (by omega), Option.bind_some, wA_wA, show mA (wA m 21 l) 21 = l from rfl, nI_1]
      refine ih (k + 1) _ F' (by omega) (by omega) (by rw [List.length_set]; exact hl) (fun q hq => ?_)
      rw [gd_set]
      by_cases e : k = q
      · subst e; rw [if_pos ⟨rfl, by omega⟩]
      · rw [if_neg (fun z => e z.1)]; exact h q (by omega)
  have := main 7 0 (mA m 21) 1000 (by omega) (by omega) l21 (fun q hq => absurd hq (Nat.not_lt_zero q))
  rw [wA_self] at this
  exact this
theorem m_rest_end {m : mM} {c : Int32} (l4 : (mA m 4).length = 7) (l21 : (mA m 21).length = 7) (l22 : (mA m 22).length = 7) : f_X7_layRest_126 1000 m c 0 = some (if c ≤ 8 then c else -5, wA (wA m 22 (mA m 4)) 4 (mA m 21)) := by
  have main : ∀ (j k : Nat) (a b : List Int32) (F : Nat), k + j = 7 → j < F → a.length = 7 → b.length = 7 → (∀ q, q < 7 → a.getD q 0 = if q < k then (mA m 4).getD q 0 else (mA m 22).getD q 0) → (∀ q, q < 7 → b.getD q 0 = if q < k then (mA m 21).getD q 0 else (mA m 4).getD q 0) → f_X7_layRest_126 F (wA (wA m 22 a) 4 b) c (nI k) = some (if c ≤ 8 then c else -5, wA (wA m 22 (mA m 4)) 4 (mA m 21)) := by
    intro j
    induction j with
    | zero =>
      intro k a b F hk hF ha hb h1 h2
      obtain ⟨F', rfl⟩ : ∃ F', F = F' + 1 := ⟨F - 1, by omega⟩
      obtain rfl : k = 7 := by omega
      have ea : a = mA m 4 := lext ha l4 (fun q hq => by rw [h1 q hq, if_pos hq])
      have eb : b = mA m 21 := lext hb l21 (fun q hq => by rw [h2 q hq, if_pos hq])
      show fb_X7_layRest_126 _ _ _ _ = _
      unfold fb_X7_layRest_126
      rw [if_pos (show (7 : Int32) ≤ nI 7 by decide), ea, eb]
      by_cases z : c ≤ 8
      · rw [if_pos z, if_pos z]
      · rw [if_neg z, if_neg z]
    | succ j ih =>
      intro k a b F hk hF ha hb h1 h2
      obtain ⟨F', rfl⟩ : ∃ F', F = F' + 1 := ⟨F - 1, by omega⟩
      show fb_X7_layRest_126 _ _ _ _ = _
      unfold fb_X7_layRest_126
      have em : wA (wA (wA (wA m 22 a) 4 b) 22 (a.set k (b.getD k 0))) 4 (b.set k ((mA m 21).getD k 0)) = wA (wA m 22 (a.set k (b.getD k 0))) 4 (b.set k ((mA m 21).getD k 0)) := by
        refine Prod.ext rfl (Prod.ext ?_ rfl)
        funext d
        show (if d = 4 then _ else if d = 22 then _ else if d = 4 then _ else if d = 22 then _ else _) = (if d = 4 then _ else if d = 22 then _ else _)
        by_cases c1 : d = 4
        · rw [if_pos c1, if_pos c1]
        · rw [if_neg c1, if_neg c1]
          by_cases c2 : d = 22
          · rw [if_pos c2, if_pos c2, if_neg c1]
          · rw [if_neg c2, if_neg c2, if_neg c1, if_neg c2]
      rw [if_neg (show ¬ (7 : Int32) ≤ nI k from (nI_ge (by omega) (by decide) : ¬ nI 7 ≤ nI k)), show mA (wA (wA m 22 a) 4 b) 4 = b from rfl, gA_at (by omega) (by omega), Option.bind_some, sA_at0 (by show k < a.length; omega) (by omega), Option.bind_some, show mA (wA (wA (wA m 22 a) 4 b) 22 ((mA (wA (wA m 22 a) 4 b) 22).set k (b.getD k 0))) 21 = mA m 21 from rfl, gA_at (by omega) (by omega), Option.bind_some, sA_at0 (by show k < b.length; omega) (by omega), Option.bind_some, show mA (wA (wA m 22 a) 4 b) 22 = a from rfl, show mA (wA (wA (wA m 22 a) 4 b) 22 (a.set k (b.getD k 0))) 4 = b from rfl, em, nI_1]
      refine ih (k + 1) _ _ F' (by omega) (by omega) (by rw [List.length_set]; exact ha) (by rw [List.length_set]; exact hb) (fun q hq => ?_) (fun q hq => ?_)
      · rw [gd_set]
        by_cases e : k = q
        · subst e; rw [if_pos ⟨rfl, by omega⟩, if_pos (by omega), h2 k hq, if_neg (by omega)]
        · rw [if_neg (fun z => e z.1), h1 q hq]
          by_cases e2 : q < k
          · rw [if_pos e2, if_pos (by omega)]
          · rw [if_neg e2, if_neg (by omega)]
      · rw [gd_set]
        by_cases e : k = q
        · subst e; rw [if_pos ⟨rfl, by omega⟩, if_pos (by omega)]
        · rw [if_neg (fun z => e z.1), h2 q hq]
          by_cases e2 : q < k
          · rw [if_pos e2, if_pos (by omega)]
          · rw [if_neg e2, if_neg (by omega)]
  have e0 : wA (wA m 22 (mA m 22)) 4 (mA m 4) = m := by rw [wA_self]; exact wA_self
  have := main 7 0 (mA m 22) (mA m 4) 1000 (by omega) (by omega) l22 l4 (fun q hq => by rw [if_neg (by omega)]) (fun q hq => by rw [if_neg (by omega)])
  rw [e0] at this
  exact this
end REST
