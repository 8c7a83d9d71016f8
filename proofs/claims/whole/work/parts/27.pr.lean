/-! ===== pure layer R: the image, copied (by program: wip/gen/copies.py) ===== -/
theorem c_image_63 (N : Nat) : ∀ (j i n : Nat) (μ : St), i + j = 6 → j < n → ∃ μ', l_X8_image_63 N n μ (nI i) = l_X8_image_125 N N μ' 0 ∧ (∀ x, i ≤ x → x < 6 → μ' 49 x = μ 3 x ∧ μ' 50 x = μ 4 x ∧ μ' 51 x = μ 5 x ∧ μ' 53 x = μ 7 x) ∧ (∀ x, x < i → μ' 49 x = μ 49 x ∧ μ' 50 x = μ 50 x ∧ μ' 51 x = μ 51 x ∧ μ' 53 x = μ 53 x) ∧ ∀ k, k ≠ 49 → k ≠ 50 → k ≠ 51 → k ≠ 53 → μ' k = μ k := by
  intro j
  induction j with
  | zero =>
    intro i n μ hi hn
    obtain ⟨n, rfl⟩ : ∃ m, n = m + 1 := ⟨n - 1, by omega⟩
    obtain rfl : i = 6 := by omega
    exact ⟨μ, by rw [l_X8_image_63, if_pos (show (6 : Int32) ≤ nI 6 from by decide)], fun x h1 h2 => by omega, fun x _ => by simp, fun k _ _ _ _ => rfl⟩
  | succ j ih =>
    intro i n μ hi hn
    obtain ⟨n, rfl⟩ : ∃ m, n = m + 1 := ⟨n - 1, by omega⟩
    obtain ⟨μ', e, h1, h2, h3⟩ := ih (i + 1) n (sA (sA (sA (sA (μ) 49 (upd (μ 49) i (μ 3 i))) 50 (upd (μ 50) i (μ 4 i))) 51 (upd (μ 51) i (μ 5 i))) 53 (upd (μ 53) i (μ 7 i))) (by omega) (by omega)
    have hx : ∀ x, x < i + 1 → μ' 49 x = upd (μ 49) i (μ 3 i) x ∧ μ' 50 x = upd (μ 50) i (μ 4 i) x ∧ μ' 51 x = upd (μ 51) i (μ 5 i) x ∧ μ' 53 x = upd (μ 53) i (μ 7 i) x := fun x hx => by
      have := h2 x hx
      simp (disch := omega) only [sA_n, sA_s] at this
      exact this
    refine ⟨μ', ?_, fun x hx1 hx2 => ?_, fun x hx1 => ?_, fun k a0 a1 a2 a3 => ?_⟩
    · rw [l_X8_image_63, if_neg (show ¬ (6 : Int32) ≤ nI i from nI_ge (b := 6) (by omega) (by omega))]
      simp (disch := omega) only [nm_d, ck_n, nI_clamp, sA_n, nI_1]
      exact e
    · by_cases hxi : x = i
      · subst hxi
        have := hx x (by omega)
        simpa only [upd_s] using this
      · have := h1 x (by omega) hx2
        simp (disch := omega) only [sA_n] at this
        exact this
    · have := hx x (by omega)
      have hne : x ≠ i := by omega
      simpa only [upd_n hne] using this
    · rw [h3 k a0 a1 a2 a3]
      simp (disch := omega) only [sA_n]
theorem c_image_125 (N : Nat) : ∀ (j i n : Nat) (μ : St), i + j = 24 → j < n → ∃ μ', l_X8_image_125 N n μ (nI i) = l_X8_image_151 N N μ' 0 ∧ (∀ x, i ≤ x → x < 24 → μ' 52 x = μ 6 x) ∧ (∀ x, x < i → μ' 52 x = μ 52 x) ∧ ∀ k, k ≠ 52 → μ' k = μ k := by
  intro j
  induction j with
  | zero =>
    intro i n μ hi hn
    obtain ⟨n, rfl⟩ : ∃ m, n = m + 1 := ⟨n - 1, by omega⟩
    obtain rfl : i = 24 := by omega
    exact ⟨μ, by rw [l_X8_image_125, if_pos (show (24 : Int32) ≤ nI 24 from by decide)], fun x h1 h2 => by omega, fun x _ => by simp, fun k _ => rfl⟩
  | succ j ih =>
    intro i n μ hi hn
    obtain ⟨n, rfl⟩ : ∃ m, n = m + 1 := ⟨n - 1, by omega⟩
    obtain ⟨μ', e, h1, h2, h3⟩ := ih (i + 1) n (sA (μ) 52 (upd (μ 52) i (μ 6 i))) (by omega) (by omega)
    have hx : ∀ x, x < i + 1 → μ' 52 x = upd (μ 52) i (μ 6 i) x := fun x hx => by
      have := h2 x hx
      simp (disch := omega) only [sA_n, sA_s] at this
      exact this
    refine ⟨μ', ?_, fun x hx1 hx2 => ?_, fun x hx1 => ?_, fun k a0 => ?_⟩
    · rw [l_X8_image_125, if_neg (show ¬ (24 : Int32) ≤ nI i from nI_ge (b := 24) (by omega) (by omega))]
      simp (disch := omega) only [nm_d, ck_n, nI_clamp, sA_n, nI_1]
      exact e
    · by_cases hxi : x = i
      · subst hxi
        have := hx x (by omega)
        simpa only [upd_s] using this
      · have := h1 x (by omega) hx2
        simp (disch := omega) only [sA_n] at this
        exact this
    · have := hx x (by omega)
      have hne : x ≠ i := by omega
      simpa only [upd_n hne] using this
    · rw [h3 k a0]
      simp (disch := omega) only [sA_n]
theorem c_image_151 (N : Nat) : ∀ (j i n : Nat) (μ : St), i + j = 5 → j < n → ∃ μ', l_X8_image_151 N n μ (nI i) = l_X8_image_200 N N μ' 0 ∧ (∀ x, i ≤ x → x < 5 → μ' 54 x = μ 32 x ∧ μ' 60 x = vp_nar .boolean (μ 34 x) ∧ μ' 55 x = μ 33 x) ∧ (∀ x, x < i → μ' 54 x = μ 54 x ∧ μ' 60 x = μ 60 x ∧ μ' 55 x = μ 55 x) ∧ ∀ k, k ≠ 54 → k ≠ 60 → k ≠ 55 → μ' k = μ k := by
  intro j
  induction j with
  | zero =>
    intro i n μ hi hn
    obtain ⟨n, rfl⟩ : ∃ m, n = m + 1 := ⟨n - 1, by omega⟩
    obtain rfl : i = 5 := by omega
    exact ⟨μ, by rw [l_X8_image_151, if_pos (show (5 : Int32) ≤ nI 5 from by decide)], fun x h1 h2 => by omega, fun x _ => by simp, fun k _ _ _ => rfl⟩
  | succ j ih =>
    intro i n μ hi hn
    obtain ⟨n, rfl⟩ : ∃ m, n = m + 1 := ⟨n - 1, by omega⟩
    obtain ⟨μ', e, h1, h2, h3⟩ := ih (i + 1) n (sA (sA (sA (μ) 54 (upd (μ 54) i (μ 32 i))) 60 (upd (μ 60) i (vp_nar .boolean (μ 34 i)))) 55 (upd (μ 55) i (μ 33 i))) (by omega) (by omega)
    have hx : ∀ x, x < i + 1 → μ' 54 x = upd (μ 54) i (μ 32 i) x ∧ μ' 60 x = upd (μ 60) i (vp_nar .boolean (μ 34 i)) x ∧ μ' 55 x = upd (μ 55) i (μ 33 i) x := fun x hx => by
      have := h2 x hx
      simp (disch := omega) only [sA_n, sA_s] at this
      exact this
    refine ⟨μ', ?_, fun x hx1 hx2 => ?_, fun x hx1 => ?_, fun k a0 a1 a2 => ?_⟩
    · rw [l_X8_image_151, if_neg (show ¬ (5 : Int32) ≤ nI i from nI_ge (b := 5) (by omega) (by omega))]
      simp (disch := omega) only [nm_d, ck_n, nI_clamp, sA_n, nI_1]
      exact e
    · by_cases hxi : x = i
      · subst hxi
        have := hx x (by omega)
        simpa only [upd_s] using this
      · have := h1 x (by omega) hx2
        simp (disch := omega) only [sA_n] at this
        exact this
    · have := hx x (by omega)
      have hne : x ≠ i := by omega
      simpa only [upd_n hne] using this
    · rw [h3 k a0 a1 a2]
      simp (disch := omega) only [sA_n]
theorem c_image_200 (N : Nat) : ∀ (j i n : Nat) (μ : St), i + j = 10 → j < n → ∃ μ', l_X8_image_200 N n μ (nI i) = l_X8_image_238 N N μ' 0 ∧ (∀ x, i ≤ x → x < 10 → μ' 56 x = μ 37 x ∧ μ' 57 x = μ 38 x) ∧ (∀ x, x < i → μ' 56 x = μ 56 x ∧ μ' 57 x = μ 57 x) ∧ ∀ k, k ≠ 56 → k ≠ 57 → μ' k = μ k := by
  intro j
  induction j with
  | zero =>
    intro i n μ hi hn
    obtain ⟨n, rfl⟩ : ∃ m, n = m + 1 := ⟨n - 1, by omega⟩
    obtain rfl : i = 10 := by omega
    exact ⟨μ, by rw [l_X8_image_200, if_pos (show (10 : Int32) ≤ nI 10 from by decide)], fun x h1 h2 => by omega, fun x _ => by simp, fun k _ _ => rfl⟩
  | succ j ih =>
    intro i n μ hi hn
    obtain ⟨n, rfl⟩ : ∃ m, n = m + 1 := ⟨n - 1, by omega⟩
    obtain ⟨μ', e, h1, h2, h3⟩ := ih (i + 1) n (sA (sA (μ) 56 (upd (μ 56) i (μ 37 i))) 57 (upd (μ 57) i (μ 38 i))) (by omega) (by omega)
    have hx : ∀ x, x < i + 1 → μ' 56 x = upd (μ 56) i (μ 37 i) x ∧ μ' 57 x = upd (μ 57) i (μ 38 i) x := fun x hx => by
      have := h2 x hx
      simp (disch := omega) only [sA_n, sA_s] at this
      exact this
    refine ⟨μ', ?_, fun x hx1 hx2 => ?_, fun x hx1 => ?_, fun k a0 a1 => ?_⟩
    · rw [l_X8_image_200, if_neg (show ¬ (10 : Int32) ≤ nI i from nI_ge (b := 10) (by omega) (by omega))]
      simp (disch := omega) only [nm_d, ck_n, nI_clamp, sA_n, nI_1]
      exact e
    · by_cases hxi : x = i
      · subst hxi
        have := hx x (by omega)
        simpa only [upd_s] using this
      · have := h1 x (by omega) hx2
        simp (disch := omega) only [sA_n] at this
        exact this
    · have := hx x (by omega)
      have hne : x ≠ i := by omega
      simpa only [upd_n hne] using this
    · rw [h3 k a0 a1]
      simp (disch := omega) only [sA_n]
theorem c_image_238 (N : Nat) : ∀ (j i n : Nat) (μ : St), i + j = 8 → j < n → ∃ μ', l_X8_image_238 N n μ (nI i) = some (μ' 0 0, μ') ∧ (∀ x, i ≤ x → x < 8 → μ' 58 x = μ 39 x ∧ μ' 59 x = μ 40 x) ∧ (∀ x, x < i → μ' 58 x = μ 58 x ∧ μ' 59 x = μ 59 x) ∧ ∀ k, k ≠ 58 → k ≠ 59 → μ' k = μ k := by
  intro j
  induction j with
  | zero =>
    intro i n μ hi hn
    obtain ⟨n, rfl⟩ : ∃ m, n = m + 1 := ⟨n - 1, by omega⟩
    obtain rfl : i = 8 := by omega
    exact ⟨μ, by rw [l_X8_image_238, if_pos (show (8 : Int32) ≤ nI 8 from by decide)], fun x h1 h2 => by omega, fun x _ => by simp, fun k _ _ => rfl⟩
  | succ j ih =>
    intro i n μ hi hn
    obtain ⟨n, rfl⟩ : ∃ m, n = m + 1 := ⟨n - 1, by omega⟩
    obtain ⟨μ', e, h1, h2, h3⟩ := ih (i + 1) n (sA (sA (μ) 58 (upd (μ 58) i (μ 39 i))) 59 (upd (μ 59) i (μ 40 i))) (by omega) (by omega)
    have hx : ∀ x, x < i + 1 → μ' 58 x = upd (μ 58) i (μ 39 i) x ∧ μ' 59 x = upd (μ 59) i (μ 40 i) x := fun x hx => by
      have := h2 x hx
      simp (disch := omega) only [sA_n, sA_s] at this
      exact this
    refine ⟨μ', ?_, fun x hx1 hx2 => ?_, fun x hx1 => ?_, fun k a0 a1 => ?_⟩
    · rw [l_X8_image_238, if_neg (show ¬ (8 : Int32) ≤ nI i from nI_ge (b := 8) (by omega) (by omega))]
      simp (disch := omega) only [nm_d, ck_n, nI_clamp, sA_n, nI_1]
      exact e
    · by_cases hxi : x = i
      · subst hxi
        have := hx x (by omega)
        simpa only [upd_s] using this
      · have := h1 x (by omega) hx2
        simp (disch := omega) only [sA_n] at this
        exact this
    · have := hx x (by omega)
      have hne : x ≠ i := by omega
      simpa only [upd_n hne] using this
    · rw [h3 k a0 a1]
      simp (disch := omega) only [sA_n]
theorem c_undo_68 (N : Nat) : ∀ (j i n : Nat) (μ : St), i + j = 6 → j < n → ∃ μ', l_X8_undo_68 N n μ (nI i) = l_X8_undo_130 N N μ' 0 ∧ (∀ x, i ≤ x → x < 6 → μ' 3 x = μ 49 x ∧ μ' 4 x = μ 50 x ∧ μ' 5 x = μ 51 x ∧ μ' 7 x = μ 53 x) ∧ (∀ x, x < i → μ' 3 x = μ 3 x ∧ μ' 4 x = μ 4 x ∧ μ' 5 x = μ 5 x ∧ μ' 7 x = μ 7 x) ∧ ∀ k, k ≠ 3 → k ≠ 4 → k ≠ 5 → k ≠ 7 → μ' k = μ k := by
  intro j
  induction j with
  | zero =>
    intro i n μ hi hn
    obtain ⟨n, rfl⟩ : ∃ m, n = m + 1 := ⟨n - 1, by omega⟩
    obtain rfl : i = 6 := by omega
    exact ⟨μ, by rw [l_X8_undo_68, if_pos (show (6 : Int32) ≤ nI 6 from by decide)], fun x h1 h2 => by omega, fun x _ => by simp, fun k _ _ _ _ => rfl⟩
  | succ j ih =>
    intro i n μ hi hn
    obtain ⟨n, rfl⟩ : ∃ m, n = m + 1 := ⟨n - 1, by omega⟩
    obtain ⟨μ', e, h1, h2, h3⟩ := ih (i + 1) n (sA (sA (sA (sA (μ) 3 (upd (μ 3) i (μ 49 i))) 4 (upd (μ 4) i (μ 50 i))) 5 (upd (μ 5) i (μ 51 i))) 7 (upd (μ 7) i (μ 53 i))) (by omega) (by omega)
    have hx : ∀ x, x < i + 1 → μ' 3 x = upd (μ 3) i (μ 49 i) x ∧ μ' 4 x = upd (μ 4) i (μ 50 i) x ∧ μ' 5 x = upd (μ 5) i (μ 51 i) x ∧ μ' 7 x = upd (μ 7) i (μ 53 i) x := fun x hx => by
      have := h2 x hx
      simp (disch := omega) only [sA_n, sA_s] at this
      exact this
    refine ⟨μ', ?_, fun x hx1 hx2 => ?_, fun x hx1 => ?_, fun k a0 a1 a2 a3 => ?_⟩
    · rw [l_X8_undo_68, if_neg (show ¬ (6 : Int32) ≤ nI i from nI_ge (b := 6) (by omega) (by omega))]
      simp (disch := omega) only [nm_d, ck_n, nI_clamp, sA_n, nI_1]
      exact e
    · by_cases hxi : x = i
      · subst hxi
        have := hx x (by omega)
        simpa only [upd_s] using this
      · have := h1 x (by omega) hx2
        simp (disch := omega) only [sA_n] at this
        exact this
    · have := hx x (by omega)
      have hne : x ≠ i := by omega
      simpa only [upd_n hne] using this
    · rw [h3 k a0 a1 a2 a3]
      simp (disch := omega) only [sA_n]
theorem c_undo_130 (N : Nat) : ∀ (j i n : Nat) (μ : St), i + j = 24 → j < n → ∃ μ', l_X8_undo_130 N n μ (nI i) = l_X8_undo_156 N N μ' 0 ∧ (∀ x, i ≤ x → x < 24 → μ' 6 x = μ 52 x) ∧ (∀ x, x < i → μ' 6 x = μ 6 x) ∧ ∀ k, k ≠ 6 → μ' k = μ k := by
  intro j
  induction j with
  | zero =>
    intro i n μ hi hn
    obtain ⟨n, rfl⟩ : ∃ m, n = m + 1 := ⟨n - 1, by omega⟩
    obtain rfl : i = 24 := by omega
    exact ⟨μ, by rw [l_X8_undo_130, if_pos (show (24 : Int32) ≤ nI 24 from by decide)], fun x h1 h2 => by omega, fun x _ => by simp, fun k _ => rfl⟩
  | succ j ih =>
    intro i n μ hi hn
    obtain ⟨n, rfl⟩ : ∃ m, n = m + 1 := ⟨n - 1, by omega⟩
    obtain ⟨μ', e, h1, h2, h3⟩ := ih (i + 1) n (sA (μ) 6 (upd (μ 6) i (μ 52 i))) (by omega) (by omega)
    have hx : ∀ x, x < i + 1 → μ' 6 x = upd (μ 6) i (μ 52 i) x := fun x hx => by
      have := h2 x hx
      simp (disch := omega) only [sA_n, sA_s] at this
      exact this
    refine ⟨μ', ?_, fun x hx1 hx2 => ?_, fun x hx1 => ?_, fun k a0 => ?_⟩
    · rw [l_X8_undo_130, if_neg (show ¬ (24 : Int32) ≤ nI i from nI_ge (b := 24) (by omega) (by omega))]
      simp (disch := omega) only [nm_d, ck_n, nI_clamp, sA_n, nI_1]
      exact e
    · by_cases hxi : x = i
      · subst hxi
        have := hx x (by omega)
        simpa only [upd_s] using this
      · have := h1 x (by omega) hx2
        simp (disch := omega) only [sA_n] at this
        exact this
    · have := hx x (by omega)
      have hne : x ≠ i := by omega
      simpa only [upd_n hne] using this
    · rw [h3 k a0]
      simp (disch := omega) only [sA_n]
theorem c_undo_156 (N : Nat) : ∀ (j i n : Nat) (μ : St), i + j = 5 → j < n → ∃ μ', l_X8_undo_156 N n μ (nI i) = l_X8_undo_205 N N μ' 0 ∧ (∀ x, i ≤ x → x < 5 → μ' 32 x = μ 54 x ∧ μ' 34 x = vp_nar .boolean (μ 60 x) ∧ μ' 33 x = μ 55 x) ∧ (∀ x, x < i → μ' 32 x = μ 32 x ∧ μ' 34 x = μ 34 x ∧ μ' 33 x = μ 33 x) ∧ ∀ k, k ≠ 32 → k ≠ 34 → k ≠ 33 → μ' k = μ k := by
  intro j
  induction j with
  | zero =>
    intro i n μ hi hn
    obtain ⟨n, rfl⟩ : ∃ m, n = m + 1 := ⟨n - 1, by omega⟩
    obtain rfl : i = 5 := by omega
    exact ⟨μ, by rw [l_X8_undo_156, if_pos (show (5 : Int32) ≤ nI 5 from by decide)], fun x h1 h2 => by omega, fun x _ => by simp, fun k _ _ _ => rfl⟩
  | succ j ih =>
    intro i n μ hi hn
    obtain ⟨n, rfl⟩ : ∃ m, n = m + 1 := ⟨n - 1, by omega⟩
    obtain ⟨μ', e, h1, h2, h3⟩ := ih (i + 1) n (sA (sA (sA (μ) 32 (upd (μ 32) i (μ 54 i))) 34 (upd (μ 34) i (vp_nar .boolean (μ 60 i)))) 33 (upd (μ 33) i (μ 55 i))) (by omega) (by omega)
    have hx : ∀ x, x < i + 1 → μ' 32 x = upd (μ 32) i (μ 54 i) x ∧ μ' 34 x = upd (μ 34) i (vp_nar .boolean (μ 60 i)) x ∧ μ' 33 x = upd (μ 33) i (μ 55 i) x := fun x hx => by
      have := h2 x hx
      simp (disch := omega) only [sA_n, sA_s] at this
      exact this
    refine ⟨μ', ?_, fun x hx1 hx2 => ?_, fun x hx1 => ?_, fun k a0 a1 a2 => ?_⟩
    · rw [l_X8_undo_156, if_neg (show ¬ (5 : Int32) ≤ nI i from nI_ge (b := 5) (by omega) (by omega))]
      simp (disch := omega) only [nm_d, ck_n, nI_clamp, sA_n, nI_1]
      exact e
    · by_cases hxi : x = i
      · subst hxi
        have := hx x (by omega)
        simpa only [upd_s] using this
      · have := h1 x (by omega) hx2
        simp (disch := omega) only [sA_n] at this
        exact this
    · have := hx x (by omega)
      have hne : x ≠ i := by omega
      simpa only [upd_n hne] using this
    · rw [h3 k a0 a1 a2]
      simp (disch := omega) only [sA_n]
theorem c_undo_205 (N : Nat) : ∀ (j i n : Nat) (μ : St), i + j = 10 → j < n → ∃ μ', l_X8_undo_205 N n μ (nI i) = l_X8_undo_243 N N μ' 0 ∧ (∀ x, i ≤ x → x < 10 → μ' 37 x = μ 56 x ∧ μ' 38 x = μ 57 x) ∧ (∀ x, x < i → μ' 37 x = μ 37 x ∧ μ' 38 x = μ 38 x) ∧ ∀ k, k ≠ 37 → k ≠ 38 → μ' k = μ k := by
  intro j
  induction j with
  | zero =>
    intro i n μ hi hn
    obtain ⟨n, rfl⟩ : ∃ m, n = m + 1 := ⟨n - 1, by omega⟩
    obtain rfl : i = 10 := by omega
    exact ⟨μ, by rw [l_X8_undo_205, if_pos (show (10 : Int32) ≤ nI 10 from by decide)], fun x h1 h2 => by omega, fun x _ => by simp, fun k _ _ => rfl⟩
  | succ j ih =>
    intro i n μ hi hn
    obtain ⟨n, rfl⟩ : ∃ m, n = m + 1 := ⟨n - 1, by omega⟩
    obtain ⟨μ', e, h1, h2, h3⟩ := ih (i + 1) n (sA (sA (μ) 37 (upd (μ 37) i (μ 56 i))) 38 (upd (μ 38) i (μ 57 i))) (by omega) (by omega)
    have hx : ∀ x, x < i + 1 → μ' 37 x = upd (μ 37) i (μ 56 i) x ∧ μ' 38 x = upd (μ 38) i (μ 57 i) x := fun x hx => by
      have := h2 x hx
      simp (disch := omega) only [sA_n, sA_s] at this
      exact this
    refine ⟨μ', ?_, fun x hx1 hx2 => ?_, fun x hx1 => ?_, fun k a0 a1 => ?_⟩
    · rw [l_X8_undo_205, if_neg (show ¬ (10 : Int32) ≤ nI i from nI_ge (b := 10) (by omega) (by omega))]
      simp (disch := omega) only [nm_d, ck_n, nI_clamp, sA_n, nI_1]
      exact e
    · by_cases hxi : x = i
      · subst hxi
        have := hx x (by omega)
        simpa only [upd_s] using this
      · have := h1 x (by omega) hx2
        simp (disch := omega) only [sA_n] at this
        exact this
    · have := hx x (by omega)
      have hne : x ≠ i := by omega
      simpa only [upd_n hne] using this
    · rw [h3 k a0 a1]
      simp (disch := omega) only [sA_n]
theorem c_undo_243 (N : Nat) : ∀ (j i n : Nat) (μ : St), i + j = 8 → j < n → ∃ μ', l_X8_undo_243 N n μ (nI i) = some (μ' 0 0, μ') ∧ (∀ x, i ≤ x → x < 8 → μ' 39 x = μ 58 x ∧ μ' 40 x = μ 59 x) ∧ (∀ x, x < i → μ' 39 x = μ 39 x ∧ μ' 40 x = μ 40 x) ∧ ∀ k, k ≠ 39 → k ≠ 40 → μ' k = μ k := by
  intro j
  induction j with
  | zero =>
    intro i n μ hi hn
    obtain ⟨n, rfl⟩ : ∃ m, n = m + 1 := ⟨n - 1, by omega⟩
    obtain rfl : i = 8 := by omega
    exact ⟨μ, by rw [l_X8_undo_243, if_pos (show (8 : Int32) ≤ nI 8 from by decide)], fun x h1 h2 => by omega, fun x _ => by simp, fun k _ _ => rfl⟩
  | succ j ih =>
    intro i n μ hi hn
    obtain ⟨n, rfl⟩ : ∃ m, n = m + 1 := ⟨n - 1, by omega⟩
    obtain ⟨μ', e, h1, h2, h3⟩ := ih (i + 1) n (sA (sA (μ) 39 (upd (μ 39) i (μ 58 i))) 40 (upd (μ 40) i (μ 59 i))) (by omega) (by omega)
    have hx : ∀ x, x < i + 1 → μ' 39 x = upd (μ 39) i (μ 58 i) x ∧ μ' 40 x = upd (μ 40) i (μ 59 i) x := fun x hx => by
      have := h2 x hx
      simp (disch := omega) only [sA_n, sA_s] at this
      exact this
    refine ⟨μ', ?_, fun x hx1 hx2 => ?_, fun x hx1 => ?_, fun k a0 a1 => ?_⟩
    · rw [l_X8_undo_243, if_neg (show ¬ (8 : Int32) ≤ nI i from nI_ge (b := 8) (by omega) (by omega))]
      simp (disch := omega) only [nm_d, ck_n, nI_clamp, sA_n, nI_1]
      exact e
    · by_cases hxi : x = i
      · subst hxi
        have := hx x (by omega)
        simpa only [upd_s] using this
      · have := h1 x (by omega) hx2
        simp (disch := omega) only [sA_n] at this
        exact this
    · have := hx x (by omega)
      have hne : x ≠ i := by omega
      simpa only [upd_n hne] using this
    · rw [h3 k a0 a1]
      simp (disch := omega) only [sA_n]
