/-! ===== pure layer V: shift ===== -/
section
variable {N : Nat} {μ s : St} {t9 τ : Lt}
theorem big_neg {l : Nat} {p : Int32} (hl : l ≤ 60) (hp : nI 61 ≤ p) : nI l - p < 0 := by
  obtain ⟨m, hm, rfl⟩ := nI_of (x := p) (by rw [i32_nlt]; exact Int32.le_trans (nI_pos' (n := 61) (by omega)) hp)
  have h61 : 61 ≤ m := (nI_leI (by omega) hm).mp hp
  rw [Int32.lt_iff_toInt_lt, Int32.toInt_sub, nI_toInt (by omega), nI_toInt hm, show (0 : Int32).toInt = 0 from by decide, Int.bmod_eq_of_le (by omega) (by omega)]
  omega
/-- whether a stretch is there -/
theorem x_stretch {t l : Nat} (ht : t < 6) (hl : l ≤ 60) (h1 : s 1 t = nI l) (p q : Int32) : ∃ b, f_X6_hasStretch N s (nI t) p q = some (b2i b) ∧ (b = true ↔ ¬ q < 0 ∧ ¬ p < 0 ∧ ∃ i n, p = nI i ∧ q = nI n ∧ i + n ≤ l) ∧ (¬ q < 0 → ¬ p < 0 → (nI l - q < p ↔ b = false)) := by
  unfold f_X6_hasStretch
  by_cases hq : q < 0
  · rw [if_pos hq]; exact ⟨false, rfl, by simp [hq], fun z => absurd hq z⟩
  rw [if_neg hq]
  by_cases hp : p < 0
  · rw [if_pos hp]; exact ⟨false, rfl, by simp [hp], fun _ z => absurd hp z⟩
  rw [if_neg hp, ck_n ht (by omega), ck_n ht (by omega), nI_clamp (by omega), h1]
  obtain ⟨i, hi, rfl⟩ := nI_of hp
  rcases pk_ix q (n := 61) (by omega) with z | hq2 | ⟨n, hn, rfl⟩
  · exact absurd z hq
  · obtain ⟨m, hm, rfl⟩ := nI_of hq
    have h61 : 61 ≤ m := (nI_leI (by omega) hm).mp hq2
    rw [if_pos (nI_lt (by omega) hm)]
    refine ⟨false, rfl, ⟨fun z => absurd z (by decide), fun ⟨_, _, i', n', _, e2, h⟩ => ?_⟩, fun _ _ => ⟨fun _ => rfl, fun _ => Int32.lt_of_lt_of_le (big_neg hl hq2) (nI_pos' hi)⟩⟩
    by_cases hn' : n' < 2 ^ 31
    · have := (nI_eq hm hn').mp e2; omega
    · omega
  · by_cases hln : l < n
    · rw [if_pos (nI_lt hln (by omega))]
      refine ⟨false, rfl, ⟨fun z => absurd z (by decide), fun ⟨_, _, i', n', _, e2, h⟩ => ?_⟩, fun _ _ => ⟨fun _ => rfl, fun _ => Int32.lt_of_lt_of_le (pk_sneg (by omega) hln) (nI_pos' hi)⟩⟩
      have := (nI_eq (a := n) (b := n') (by omega) (by omega)).mp e2; omega
    · rw [if_neg (nI_nlt (by omega) (by omega)), pk_sub (by omega)]
      by_cases hli : l - n < i
      · rw [if_pos (nI_lt hli hi)]
        refine ⟨false, rfl, ⟨fun z => absurd z (by decide), fun ⟨_, _, i', n', e1, e2, h⟩ => ?_⟩, fun _ _ => ⟨fun _ => rfl, fun _ => nI_lt hli hi⟩⟩
        have a1 := (nI_eq (a := n) (b := n') (by omega) (by omega)).mp e2
        have a2 := (nI_eq (a := i) (b := i') hi (by omega)).mp e1
        omega
      · rw [if_neg (nI_nlt (by omega) (by omega))]
        exact ⟨true, rfl, ⟨fun _ => ⟨hq, hp, i, n, rfl, rfl, by omega⟩, fun _ => rfl⟩, fun _ _ => ⟨fun z => absurd z (nI_nlt (by omega) (by omega)), fun z => absurd z (by decide)⟩⟩
theorem ix3 (t i k : Nat) : 60 * nI t + nI i + nI k = nI (60 * t + i + k) := by rw [ix2, nI_add]
theorem l_aside {t o i j n : Nat} {μ : St} (ht : t < 6) (hi : i + n ≤ 60) : ∀ (r k f : Nat) (τ : Lt), k + r = n → r < f → ∃ w, l_X8_shift_104 N μ (nI t) (nI i) (nI o) (nI j) (nI n) f τ (nI k) = l_X8_shift_141 N μ (nI o) (nI j) (nI n) N w 0 ∧ (∀ x, k ≤ x → x < n → w 66 x = τ 65 (60 * t + i + x)) ∧ (∀ x, x < k → w 66 x = τ 66 x) ∧ w 65 = τ 65 := by
  intro r
  induction r with
  | zero =>
    intro k f τ hk hf
    obtain ⟨f, rfl⟩ : ∃ m, f = m + 1 := ⟨f - 1, by omega⟩
    rw [l_X8_shift_104, if_pos (nI_le (by omega) (by omega))]
    exact ⟨τ, rfl, fun x h1 h2 => by omega, fun _ _ => rfl, rfl⟩
  | succ r ih =>
    intro k f τ hk hf
    obtain ⟨f, rfl⟩ : ∃ m, f = m + 1 := ⟨f - 1, by omega⟩
    obtain ⟨w, e, h1, h2, h3⟩ := ih (k + 1) f (sA τ 66 (vp_updL (τ 66) k (τ 65 (60 * t + i + k)))) (by omega) (by omega)
    rw [l_X8_shift_104, if_neg (nI_ge (by omega) (by omega)), ix3, ck_n (by omega) (by omega), ck_n (by omega) (by omega), nm_d, nm_d, nI_1, nI_clamp (by omega), nI_clamp (by omega)]
    rw [sA_n _ _ (show 65 ≠ 66 by decide)] at h3
    refine ⟨w, e, fun x hx1 hx2 => ?_, fun x hx => ?_, h3⟩
    · by_cases hxk : x = k
      · rw [hxk, h2 k (by omega), sA_s, uL_s]
      · rw [h1 x (by omega) hx2, sA_n _ _ (show 65 ≠ 66 by decide)]
    · rw [h2 x (by omega), sA_s, uL_n (by omega)]
theorem l_paste {o j n : Nat} {μ : St} (ho : o < 6) (hj : j + n ≤ 60) : ∀ (r k f : Nat) (τ : Lt), k + r = n → r < f → ∃ w, l_X8_shift_141 N μ (nI o) (nI j) (nI n) f τ (nI k) = some (nI n, w) ∧ (∀ x, k ≤ x → x < n → w 65 (60 * o + j + x) = τ 66 x) ∧ (∀ y, (y < 60 * o + j + k ∨ 60 * o + j + n ≤ y) → w 65 y = τ 65 y) := by
  intro r
  induction r with
  | zero =>
    intro k f τ hk hf
    obtain ⟨f, rfl⟩ : ∃ m, f = m + 1 := ⟨f - 1, by omega⟩
    rw [l_X8_shift_141, if_pos (nI_le (by omega) (by omega))]
    exact ⟨τ, rfl, fun x h1 h2 => by omega, fun _ _ => rfl⟩
  | succ r ih =>
    intro k f τ hk hf
    obtain ⟨f, rfl⟩ : ∃ m, f = m + 1 := ⟨f - 1, by omega⟩
    obtain ⟨w, e, h1, h2⟩ := ih (k + 1) f (sA τ 65 (vp_updL (τ 65) (60 * o + j + k) (τ 66 k))) (by omega) (by omega)
    rw [l_X8_shift_141, if_neg (nI_ge (by omega) (by omega)), ix3, ck_n (by omega) (by omega), ck_n (by omega) (by omega), nm_d, nm_d, nI_1, nI_clamp (by omega), nI_clamp (by omega)]
    refine ⟨w, e, fun x hx1 hx2 => ?_, fun y hy => ?_⟩
    · by_cases hxk : x = k
      · rw [hxk, h2 _ (by omega), sA_s, uL_s]
      · rw [h1 x (by omega) hx2, sA_n _ _ (show 66 ≠ 65 by decide)]
    · rw [h2 y (by omega), sA_s, uL_n (by omega)]
theorem op_shift (hN : 1000 ≤ N) (hP : TPR s t9 μ τ) (p1 p2 p3 p4 p5 : Int32) : ∃ a u w, f_X7_shift N s t9 p1 p2 p3 p4 p5 = some (a, u) ∧ f_X8_shift N μ τ p1 p2 p3 p4 p5 = some (a, w) ∧ TPR s u μ w := by
  unfold f_X7_shift f_X8_shift
  rcases two_tapes (N := N) p1 with ⟨a, b⟩ | ⟨a, b, t, ht, rfl⟩
  · rw [a, b, cl_s, cl_s, i0, i0]; exact ⟨_, _, _, rfl, rfl, hP⟩
  rcases two_tapes (N := N) p3 with ⟨a2, b2⟩ | ⟨a2, b2, o, ho, rfl⟩
  · rw [a, b, cl_s, cl_s, i1, i1, a2, b2, cl_s, cl_s, i0, i0]; exact ⟨_, _, _, rfl, rfl, hP⟩
  obtain ⟨q1, q2, l, hl, q3, q4, q5⟩ := hP t ht
  obtain ⟨r1, r2, m, hm, r3, r4, r5⟩ := hP o ho
  have hs := sort_sign q4
  have hs2 := sort_sign r4
  rw [a, b, cl_s, cl_s, i1, i1, a2, b2, cl_s, cl_s, i1, i1]
  simp only [ck_n ht (show 6 < 2 ^ 31 by omega), ck_n ho (show 6 < 2 ^ 31 by omega), nI_clamp (show t < 2 ^ 31 by omega), nI_clamp (show o < 2 ^ 31 by omega)]
  rw [← q1]
  by_cases hz : s 0 t = -1
  · rw [if_pos hz, if_pos (hs.1.mp hz)]; exact ⟨_, _, _, rfl, rfl, hP⟩
  rw [if_neg hz, if_neg (fun z => hz (hs.1.mpr z)), ← r1]
  by_cases hz2 : s 0 o = -1
  · rw [if_pos hz2, if_neg (hs2.2.mp hz2)]; exact ⟨_, _, _, rfl, rfl, hP⟩
  rw [if_neg hz2, if_pos (Decidable.not_not.mp (fun z => hz2 (hs2.2.mpr z)))]
  by_cases hst : s 0 t = s 0 o
  · obtain ⟨c1, e1, d1, f1⟩ := x_stretch (N := N) ht hl q3 p2 p5
    obtain ⟨c2, e2, d2, f2⟩ := x_stretch (N := N) ho hm r3 p4 p5
    rw [if_pos hst, if_pos hst, e1, cl_s]
    have no : ∀ (hb : c1 = false ∨ c2 = false), (if b2i c1 = 0 then some ((-13 : Int32), t9) else cl (f_X6_hasStretch N s (nI o) p4 p5) fun q100 => if q100 = 0 then some (-13, t9) else cl (f_X6_copyItems N t9 (nI t) p2 (nI o) p4 p5) fun q120 => some (p5, q120)) = some (-13, t9) := by
      intro hb
      cases hc : c1
      · rw [i0]
      · rw [i1, e2, cl_s]
        rcases hb with z | z
        · rw [hc] at z; cases z
        · rw [z, i0]
    by_cases h5 : p5 < 0
    · have : c1 = false := by
        cases hc : c1
        · rfl
        · exact absurd h5 (d1.mp hc).1
      rw [no (Or.inl this), if_pos h5]; exact ⟨_, _, _, rfl, rfl, hP⟩
    rw [if_neg h5]
    by_cases h2 : p2 < 0
    · have : c1 = false := by
        cases hc : c1
        · rfl
        · exact absurd h2 (d1.mp hc).2.1
      rw [no (Or.inl this), if_pos h2]; exact ⟨_, _, _, rfl, rfl, hP⟩
    rw [if_neg h2]
    by_cases h4 : p4 < 0
    · have : c2 = false := by
        cases hc : c2
        · rfl
        · exact absurd h4 (d2.mp hc).2.1
      rw [no (Or.inr this), if_pos h4]; exact ⟨_, _, _, rfl, rfl, hP⟩
    rw [if_neg h4, ← q2, q3]
    by_cases k1 : nI l - p5 < p2
    · rw [if_pos k1, no (Or.inl ((f1 h5 h2).mp k1))]; exact ⟨_, _, _, rfl, rfl, hP⟩
    rw [if_neg k1, ← r2, r3]
    by_cases k2 : nI m - p5 < p4
    · rw [if_neg (fun z => i32_nlt.mpr z k2), no (Or.inr ((f2 h5 h4).mp k2))]; exact ⟨_, _, _, rfl, rfl, hP⟩
    have t1 : c1 = true := by
      cases hc : c1
      · exact absurd ((f1 h5 h2).mpr hc) k1
      · rfl
    have t2 : c2 = true := by
      cases hc : c2
      · exact absurd ((f2 h5 h4).mpr hc) k2
      · rfl
    obtain ⟨-, -, i, n, rfl, rfl, hin⟩ := d1.mp t1
    obtain ⟨-, -, j, n', rfl, en, hjn⟩ := d2.mp t2
    have hnn : n = n' := (nI_eq (by omega) (by omega)).mp en
    subst hnn
    rw [if_pos (i32_nlt.mp k2), t1, i1, e2, cl_s, t2, i1]
    obtain ⟨w1, g1, g2, -, g3⟩ := l_aside (N := N) (o := o) (j := j) (μ := μ) ht (show i + n ≤ 60 by omega) n 0 N τ (by omega) (by omega)
    obtain ⟨w2, g4, g5, g6⟩ := l_paste (N := N) (μ := μ) ho (show j + n ≤ 60 by omega) n 0 N w1 (by omega) (by omega)
    have g1' : l_X8_shift_104 N μ (nI t) (nI i) (nI o) (nI j) (nI n) N τ 0 = _ := g1
    have g4' : l_X8_shift_141 N μ (nI o) (nI j) (nI n) N w1 0 = _ := g4
    unfold f_X6_copyItems
    rw [g1', g4', ix1, ix1, cpy_t ⟨nI_pos (by omega), nI_pos (by omega), nI_pos (by omega), by rw [nI_clamp (by omega), nI_clamp (by omega)]; omega, by rw [nI_clamp (by omega), nI_clamp (by omega)]; omega⟩, nm_d, cl_s, nI_clamp (by omega), nI_clamp (by omega), nI_clamp (by omega)]
    refine ⟨_, _, _, rfl, rfl, fun u hu => ?_⟩
    obtain ⟨z1, z2, l', z3, z4, z5, z6⟩ := hP u hu
    refine ⟨z1, z2, l', z3, z4, z5, fun x hx => ?_⟩
    rw [sA_s]
    by_cases hin2 : 60 * o + j ≤ 60 * u + x ∧ 60 * u + x < 60 * o + j + n
    · rw [pk_cpy_in hin2.1 hin2.2]
      obtain ⟨y, hy⟩ : ∃ y, 60 * u + x = 60 * o + j + y := ⟨60 * u + x - (60 * o + j), by omega⟩
      rw [hy, g5 y (by omega) (by omega), g2 y (by omega) (by omega), show 60 * t + i + (60 * o + j + y - (60 * o + j)) = 60 * t + (i + y) by omega, q5 (i + y) (by omega), Nat.add_assoc]
    · rw [pk_cpy_out (by omega), g6 _ (by omega), g3]; exact z6 x hx
  · rw [if_neg hst, if_neg hst]; exact ⟨_, _, _, rfl, rfl, hP⟩
end
