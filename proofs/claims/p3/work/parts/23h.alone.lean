/-! REST: the class alone, from any place on -/
section ALONE
theorem x_rest_alone {mx : mM} {n : Nat} {t : Nat} {cs : List CL} {dt yr : Nat} {y1 : Int32} (hn : n ≤ 7) : ∀ (μ r p : Nat) (m : mM) (pd : Nat → Nat → Nat) (c : Nat) (q : Int32) (F44 F60 : Nat), μ = (9 - r) * (n + 1) + (n - p) → r ≤ 8 → p ≤ n → n - p < F60 → 9 - r < F44 → (q = 0 ∨ q = 1) → FSX mx m → TR m n pd t cs dt yr → ∃ m' pd' c', f_X6_rest_60 (f_X6_rest_44 F44) F60 m y1 (nI c) q (nI r) (nI p) = f_X6_rest_160 m' y1 (nI c') ∧ FSX mx m' ∧ TR m' n pd' t cs dt yr ∧ c ≤ c' ∧ c' ≤ c + μ ∧ ((∀ k, k < n → ¬ wnt n pd cs dt yr k) → pd' = pd ∧ c' = c) := by
  intro μ
  induction μ using Nat.strongRecOn with
  | ind μ ih =>
    intro r p m pd c q F44 F60 hμ hr hp hF hF4 hq hf h
    obtain ⟨F60, rfl⟩ : ∃ F', F60 = F' + 1 := ⟨F60 - 1, by omega⟩
    by_cases hpn : p = n
    · obtain ⟨F44, rfl⟩ : ∃ F', F44 = F' + 1 := ⟨F44 - 1, by omega⟩
      have e : f_X6_rest_60 (f_X6_rest_44 (F44 + 1)) (F60 + 1) m y1 (nI c) q (nI r) (nI p) = fb_X6_rest_44 (f_X6_rest_44 F44) m y1 (nI c) q (nI (r + 1)) := by
        show fb_X6_rest_60 _ _ _ _ _ _ _ _ = _
        unfold fb_X6_rest_60
        rw [show mI m 2048 = nI n from h.1.2.1, if_pos (nI_le (by omega) (by omega)), nI_1]; rfl
      rw [e]
      unfold fb_X6_rest_44
      by_cases h8 : r = 8
      · rw [if_pos (show (8 : Int32) < nI (r + 1) from (nI_lt (by omega) (by omega) : nI 8 < nI (r + 1)))]
        exact ⟨m, pd, c, rfl, hf, h, Nat.le_refl _, by omega, fun _ => ⟨rfl, rfl⟩⟩
      · rw [if_neg (show ¬ (8 : Int32) < nI (r + 1) from (nI_nlt (by omega) (by omega) : ¬ nI 8 < nI (r + 1)))]
        have hm : (9 - (r + 1)) * (n + 1) + (n - 0) < μ := by
          have : (9 - r) * (n + 1) = (9 - (r + 1)) * (n + 1) + (n + 1) := by
            rw [show 9 - r = (9 - (r + 1)) + 1 by omega, Nat.succ_mul]
          omega
        rcases hq with rfl | rfl
        · rw [if_pos rfl]
          obtain ⟨m', pd', c', g1, g2, g3, g4, g5, g6⟩ := ih _ hm (r + 1) 0 m pd c 1 F44 1000 rfl (by omega) (by omega) (by omega) (by omega) (Or.inr rfl) hf h
          exact ⟨m', pd', c', g1, g2, g3, g4, by omega, g6⟩
        · rw [if_neg (show ¬ (1 : Int32) = 0 by decide)]
          exact ⟨m, pd, c, rfl, hf, h, Nat.le_refl _, by omega, fun _ => ⟨rfl, rfl⟩⟩
    · have hk : p < n := by omega
      obtain ⟨m1, s1, s2, s3⟩ := x_rest_step (K44 := f_X6_rest_44 F44) (K60 := fun m a b c d e => f_X6_rest_60 (f_X6_rest_44 F44) F60 m a b c d e) (y1 := y1) (c := nI c) (q := q) (r := nI r) hf h hk
      have e : f_X6_rest_60 (f_X6_rest_44 F44) (F60 + 1) m y1 (nI c) q (nI r) (nI p) = _ := s1
      rw [e]
      by_cases w : wnt n pd cs dt yr p
      · rw [if_pos w, nI_1]
        obtain ⟨m', pd', c', g1, g2, g3, g4, g5, g6⟩ := ih ((9 - r) * (n + 1) + (n - (p + 1))) (by omega) r (p + 1) m1 _ (c + 1) 0 F44 F60 rfl hr (by omega) (by omega) hF4 (Or.inl rfl) s2 s3
        exact ⟨m', pd', c', g1, g2, g3, by omega, by omega, fun z => absurd w (z p hk)⟩
      · rw [if_neg w]
        have es : stp n pd cs dt yr p = pd := by unfold stp; rw [if_neg w]
        rw [es] at s3
        obtain ⟨m', pd', c', g1, g2, g3, g4, g5, g6⟩ := ih ((9 - r) * (n + 1) + (n - (p + 1))) (by omega) r (p + 1) m1 pd c q F44 F60 rfl hr (by omega) (by omega) hF4 hq s2 s3
        exact ⟨m', pd', c', g1, g2, g3, g4, by omega, g6⟩
end ALONE
