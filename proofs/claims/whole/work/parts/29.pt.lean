/-! ===== pure layer T: acts ===== -/
def XA (s : St) (bl : List Int32) : Prop := s 1 0 = nI bl.length ∧ ∀ (i : Nat) (b : Int32), i < 20 → bl[i]? = some b → s 0 i = b
def MA (μ : St) (bl : List Int32) : Prop := μ 61 0 = nI bl.length ∧ ∀ (i : Nat) (b : Int32), i < 20 → bl[i]? = some b → μ 62 i = b
def frA (s s' : St) : Prop := ∀ k, k ≠ 0 → k ≠ 1 → s' k = s k
def frB (μ μ' : St) : Prop := ∀ k, k ≠ 61 → k ≠ 62 → μ' k = μ k
theorem frA.tr {a b c : St} (h1 : frA a b) (h2 : frA b c) : frA a c := fun k x y => (h2 k x y).trans (h1 k x y)
theorem frB.tr {a b c : St} (h1 : frB a b) (h2 : frB b c) : frB a c := fun k x y => (h2 k x y).trans (h1 k x y)
/-- what an act answers, and the bodies that run, by the kind -/
def liesS (k : Nat) (i v x : Int32) : Int32 × List Int32 := match k with
  | 2 => (x * 3 + i, [30, 10])
  | 4 => (-(x + i), [50, 10])
  | 5 => (x * 3 + i, [30, 10])
  | 6 => ((x + i) ^^^ v, [71, 10])
  | _ => (x + i, [10])
def fit0 (k : Nat) (i v x : Int32) : Int32 × List Int32 := ((liesS k i v x).1 - v, 11 :: (liesS k i v x).2)
def fitsS (K k : Nat) (i v x : Int32) : Int32 × List Int32 := match k with
  | 1 => ((fit0 K i v x).1 ^^^ 6, 20 :: (fit0 K i v x).2)
  | 4 => ((fit0 K i v (x + 1)).1 ^^^ 6, 51 :: 20 :: (fit0 K i v (x + 1)).2)
  | 6 => ((fit0 K i v x).1 + (2 + i), 70 :: ((fit0 K i v x).2 ++ [10]))
  | _ => fit0 K i v x
def tel0 (K : Nat) (i v x : Int32) : Int32 × List Int32 := ((fitsS K K i v x).1 * 2, 12 :: (fitsS K K i v x).2)
def tellsS (K k : Nat) (i v x : Int32) : Int32 × List Int32 := match k with
  | 3 => ((tel0 K i v x).1 + (fitsS K K i v 1).1, 40 :: ((tel0 K i v x).2 ++ (fitsS K K i v 1).2))
  | 5 => ((tel0 K i v (x - i)).1, 60 :: (tel0 K i v (x - i)).2)
  | 6 => ((tel0 K i v x).1 + (fitsS K K i v 1).1, 40 :: ((tel0 K i v x).2 ++ (fitsS K K i v 1).2))
  | _ => tel0 K i v x
theorem seven {k : Nat} (h : k ≤ 6) : k = 0 ∨ k = 1 ∨ k = 2 ∨ k = 3 ∨ k = 4 ∨ k = 5 ∨ k = 6 := by omega
theorem lies_len {k : Nat} (h : k ≤ 6) (i v x : Int32) : (liesS k i v x).2.length ≤ 2 := by
  rcases seven h with rfl | rfl | rfl | rfl | rfl | rfl | rfl <;> simp [liesS]
theorem fit0_len {k : Nat} (h : k ≤ 6) (i v x : Int32) : (fit0 k i v x).2.length ≤ 3 := by
  have := lies_len h i v x
  simp only [fit0, List.length_cons]; omega
theorem fits_len {K k : Nat} (hK : K ≤ 6) (h : k ≤ 6) (i v x : Int32) : (fitsS K k i v x).2.length ≤ 5 := by
  have h1 := fit0_len hK i v x
  have h2 := fit0_len hK i v (x + 1)
  rcases seven h with rfl | rfl | rfl | rfl | rfl | rfl | rfl <;> simp only [fitsS, List.length_cons, List.length_append, List.length_nil] <;> omega
theorem tel0_len {K : Nat} (hK : K ≤ 6) (i v x : Int32) : (tel0 K i v x).2.length ≤ 6 := by
  have := fits_len hK hK i v x
  simp only [tel0, List.length_cons]; omega
theorem tells_len {K k : Nat} (hK : K ≤ 6) (h : k ≤ 6) (i v x : Int32) : (tellsS K k i v x).2.length ≤ 12 := by
  have h1 := tel0_len hK i v x
  have h2 := tel0_len hK i v (x - i)
  have h3 := fits_len hK hK i v 1
  rcases seven h with rfl | rfl | rfl | rfl | rfl | rfl | rfl <;> simp only [tellsS, List.length_cons, List.length_append] <;> omega
section
variable {N D e : Nat} {s μ : St} {bl : List Int32} {x : Int32}
theorem x_begin (b : Int32) (hx : XA s bl) (hb : bl.length < 100) : ∃ s', f_X0_begin N s b = some s' ∧ XA s' (bl ++ [b]) ∧ frA s s' := by
  obtain ⟨a0, a1⟩ := hx
  unfold f_X0_begin
  rw [a0]
  by_cases h20 : 20 ≤ bl.length
  · rw [if_pos (show (20 : Int32) ≤ nI bl.length from nI_le (a := 20) h20 (by omega)), nm_d, nI_1]
    refine ⟨_, rfl, ⟨by rw [sI_s]; simp, fun i c hi hc => ?_⟩, fun k _ h1 => sI_n _ _ h1⟩
    rw [sI_n _ _ (show 0 ≠ 1 by decide)]
    rcases ga hc with ⟨hl, z⟩ | ⟨hl, z⟩
    · exact a1 i c hi z
    · omega
  · rw [if_neg (show ¬ (20 : Int32) ≤ nI bl.length from nI_ge (b := 20) (by omega) (by omega)), ck_n (by omega) (by omega), nm_d, nm_d, nI_clamp (by omega), sA_n _ _ (show 1 ≠ 0 by decide), a0, nI_1]
    refine ⟨_, rfl, ⟨by rw [sI_s]; simp, fun i c hi hc => ?_⟩, fun k h0 h1 => by rw [sI_n _ _ h1, sA_n _ _ h0]⟩
    rw [sI_n _ _ (show 0 ≠ 1 by decide), sA_s]
    rcases ga hc with ⟨hl, z⟩ | ⟨hl, z⟩
    · rw [upd_n (by omega)]; exact a1 i c hi z
    · rw [hl, z, upd_s]
theorem m_body (b : Int32) (hx : MA μ bl) (hb : bl.length < 100) : ∃ μ', f_X8_body N μ b = some μ' ∧ MA μ' (bl ++ [b]) ∧ frB μ μ' := by
  obtain ⟨a0, a1⟩ := hx
  unfold f_X8_body
  rw [a0]
  by_cases h20 : 20 ≤ bl.length
  · rw [if_pos (show (20 : Int32) ≤ nI bl.length from nI_le (a := 20) h20 (by omega)), nm_d, nI_1]
    refine ⟨_, rfl, ⟨by rw [sI_s]; simp, fun i c hi hc => ?_⟩, fun k h1 _ => sI_n _ _ h1⟩
    rw [sI_n _ _ (show 62 ≠ 61 by decide)]
    rcases ga hc with ⟨hl, z⟩ | ⟨hl, z⟩
    · exact a1 i c hi z
    · omega
  · rw [if_neg (show ¬ (20 : Int32) ≤ nI bl.length from nI_ge (b := 20) (by omega) (by omega)), ck_n (by omega) (by omega), nm_d, nm_d, nI_clamp (by omega), sA_n _ _ (show 61 ≠ 62 by decide), a0, nI_1]
    refine ⟨_, rfl, ⟨by rw [sI_s]; simp, fun i c hi hc => ?_⟩, fun k h0 h1 => by rw [sI_n _ _ h0, sA_n _ _ h1]⟩
    rw [sI_n _ _ (show 62 ≠ 61 by decide), sA_s]
    rcases ga hc with ⟨hl, z⟩ | ⟨hl, z⟩
    · rw [upd_n (by omega)]; exact a1 i c hi z
    · rw [hl, z, upd_s]
theorem ab1 : f_X0_above N 1 = some 0 := by unfold f_X0_above; rw [if_neg (by decide), if_neg (by decide), ck_t (by decide)]; rfl
theorem ab2 : f_X0_above N 2 = some 0 := by unfold f_X0_above; rw [if_neg (by decide), if_neg (by decide), ck_t (by decide)]; rfl
theorem ab3 : f_X0_above N 3 = some 0 := by unfold f_X0_above; rw [if_neg (by decide), if_neg (by decide), ck_t (by decide)]; rfl
theorem ab4 : f_X0_above N 4 = some 1 := by unfold f_X0_above; rw [if_neg (by decide), if_neg (by decide), ck_t (by decide)]; rfl
theorem ab5 : f_X0_above N 5 = some 2 := by unfold f_X0_above; rw [if_neg (by decide), if_neg (by decide), ck_t (by decide)]; rfl
theorem ab6 : f_X0_above N 6 = some 3 := by unfold f_X0_above; rw [if_neg (by decide), if_neg (by decide), ck_t (by decide)]; rfl
theorem d30 (he : e ≤ 30) : (nI e : Int32) ≤ 30 := nI_le (b := 30) he (by omega)
theorem x_lies0 (he : e ≤ 30) (hx : XA s bl) (hb : bl.length < 90) : ∃ s', f_X0_runLies N (D + 1) s 0 x (nI e) = some (x + s 3 0, s') ∧ XA s' (bl ++ [10]) ∧ frA s s' := by
  obtain ⟨s1, e1, x1, f1⟩ := x_begin (N := N) 10 hx (by omega)
  rw [f_X0_runLies, if_pos (d30 he), if_pos rfl, e1, cl_s, f1 3 (by decide) (by decide)]
  exact ⟨s1, rfl, x1, f1⟩
theorem x_lies1 (he : e ≤ 29) (hx : XA s bl) (hb : bl.length < 90) : ∃ s', f_X0_runLies N (D + 2) s 1 x (nI e) = some (x + s 3 0, s') ∧ XA s' (bl ++ [10]) ∧ frA s s' := by
  obtain ⟨s1, e1, x1, f1⟩ := x_lies0 (N := N) (D := D) (e := e + 1) (x := x) (by omega) hx hb
  rw [f_X0_runLies, if_pos (d30 (by omega)), if_neg (by decide), if_pos rfl, ab1, cl_s, nI_1, e1, cl_s]
  exact ⟨s1, rfl, x1, f1⟩
theorem x_lies3 (he : e ≤ 29) (hx : XA s bl) (hb : bl.length < 90) : ∃ s', f_X0_runLies N (D + 2) s 3 x (nI e) = some (x + s 3 0, s') ∧ XA s' (bl ++ [10]) ∧ frA s s' := by
  obtain ⟨s1, e1, x1, f1⟩ := x_lies0 (N := N) (D := D) (e := e + 1) (x := x) (by omega) hx hb
  rw [f_X0_runLies, if_pos (d30 (by omega)), if_neg (by decide), if_neg (by decide), if_neg (by decide), if_pos rfl, ab3, cl_s, nI_1, e1, cl_s]
  exact ⟨s1, rfl, x1, f1⟩
theorem x_lies2 (he : e ≤ 29) (hx : XA s bl) (hb : bl.length < 80) : ∃ s', f_X0_runLies N (D + 2) s 2 x (nI e) = some (x * 3 + s 3 0, s') ∧ XA s' (bl ++ [30, 10]) ∧ frA s s' := by
  obtain ⟨s0, e0, x0, f0⟩ := x_begin (N := N) 30 hx (by omega)
  obtain ⟨s1, e1, x1, f1⟩ := x_lies0 (N := N) (D := D) (e := e + 1) (x := x * 3) (by omega) x0 (by simp; omega)
  rw [f_X0_runLies, if_pos (d30 (by omega)), if_neg (by decide), if_neg (by decide), if_pos rfl, e0, cl_s, ab2, cl_s, nI_1, e1, cl_s, f0 3 (by decide) (by decide)]
  rw [List.append_assoc] at x1
  exact ⟨s1, rfl, x1, f0.tr f1⟩
theorem x_lies {k : Nat} (hk : k ≤ 6) (he : e ≤ 28) (hx : XA s bl) (hb : bl.length < 80) : ∃ s', f_X0_runLies N (D + 3) s (nI k) x (nI e) = some ((liesS k (s 3 0) (s 4 0) x).1, s') ∧ XA s' (bl ++ (liesS k (s 3 0) (s 4 0) x).2) ∧ frA s s' := by
  rcases seven hk with rfl | rfl | rfl | rfl | rfl | rfl | rfl
  · exact x_lies0 (D := D + 2) (by omega) hx (by omega)
  · exact x_lies1 (D := D + 1) (by omega) hx (by omega)
  · exact x_lies2 (D := D + 1) (by omega) hx (by omega)
  · exact x_lies3 (D := D + 1) (by omega) hx (by omega)
  · obtain ⟨s0, e0, x0, f0⟩ := x_begin (N := N) 50 hx (by omega)
    obtain ⟨s1, e1, x1, f1⟩ := x_lies1 (N := N) (D := D) (e := e + 1) (x := x) (by omega) x0 (by simp; omega)
    rw [f_X0_runLies, if_pos (d30 (by omega)), if_neg (by decide), if_neg (by decide), if_neg (by decide), if_neg (by decide), if_pos (show nI 4 = 4 from rfl), e0, cl_s, ab4, cl_s, nI_1, e1, cl_s, f0 3 (by decide) (by decide)]
    rw [List.append_assoc] at x1
    exact ⟨s1, rfl, x1, f0.tr f1⟩
  · obtain ⟨s1, e1, x1, f1⟩ := x_lies2 (N := N) (D := D) (e := e + 1) (x := x) (by omega) hx hb
    rw [f_X0_runLies, if_pos (d30 (by omega)), if_neg (by decide), if_neg (by decide), if_neg (by decide), if_neg (by decide), if_neg (by decide), if_pos (show nI 5 = 5 from rfl), show (nI 5 : Int32) = 5 from rfl, ab5, cl_s, nI_1, e1, cl_s]
    exact ⟨s1, rfl, x1, f1⟩
  · obtain ⟨s0, e0, x0, f0⟩ := x_begin (N := N) 71 hx (by omega)
    obtain ⟨s1, e1, x1, f1⟩ := x_lies3 (N := N) (D := D) (e := e + 1) (x := x) (by omega) x0 (by simp; omega)
    rw [f_X0_runLies, if_pos (d30 (by omega)), if_neg (by decide), if_neg (by decide), if_neg (by decide), if_neg (by decide), if_neg (by decide), if_neg (by decide), if_pos (show nI 6 = 6 from rfl), e0, cl_s, ab6, cl_s, nI_1, e1, cl_s, f0 3 (by decide) (by decide)]
    dsimp only
    rw [f1 4 (by decide) (by decide), f0 4 (by decide) (by decide)]
    rw [List.append_assoc] at x1
    exact ⟨s1, rfl, x1, f0.tr f1⟩
theorem x_fit0 {K : Nat} (hK : K ≤ 6) (h2 : s 2 0 = nI K) (he : e ≤ 27) (hx : XA s bl) (hb : bl.length < 70) : ∃ s', f_X0_runFits N (D + 4) s 0 x (nI e) = some ((fit0 K (s 3 0) (s 4 0) x).1, s') ∧ XA s' (bl ++ (fit0 K (s 3 0) (s 4 0) x).2) ∧ frA s s' := by
  obtain ⟨s0, e0, x0, f0⟩ := x_begin (N := N) 11 hx (by omega)
  obtain ⟨s1, e1, x1, f1⟩ := x_lies (N := N) (D := D) (e := e + 1) (x := x) hK (by omega) x0 (by simp; omega)
  rw [f0 3 (by decide) (by decide), f0 4 (by decide) (by decide)] at e1 x1
  rw [f_X0_runFits, if_pos (d30 (by omega)), if_pos rfl, e0, cl_s, f0 2 (by decide) (by decide), h2, nI_1, e1, cl_s]
  dsimp only
  rw [f1 4 (by decide) (by decide), f0 4 (by decide) (by decide)]
  rw [List.append_assoc] at x1
  exact ⟨s1, rfl, x1, f0.tr f1⟩
theorem x_fit1 {K : Nat} (hK : K ≤ 6) (h2 : s 2 0 = nI K) (he : e ≤ 26) (hx : XA s bl) (hb : bl.length < 65) : ∃ s', f_X0_runFits N (D + 5) s 1 x (nI e) = some ((fitsS K 1 (s 3 0) (s 4 0) x).1, s') ∧ XA s' (bl ++ (fitsS K 1 (s 3 0) (s 4 0) x).2) ∧ frA s s' := by
  obtain ⟨s0, e0, x0, f0⟩ := x_begin (N := N) 20 hx (by omega)
  obtain ⟨s1, e1, x1, f1⟩ := x_fit0 (N := N) (D := D) (e := e + 1) (x := x) hK ((congrFun (f0 2 (by decide) (by decide)) 0).trans h2) (by omega) x0 (by simp; omega)
  rw [f0 3 (by decide) (by decide), f0 4 (by decide) (by decide)] at e1 x1
  rw [f_X0_runFits, if_pos (d30 (by omega)), if_neg (by decide), if_pos rfl, e0, cl_s, ab1, cl_s, nI_1, e1, cl_s]
  rw [List.append_assoc] at x1
  exact ⟨s1, rfl, x1, f0.tr f1⟩
theorem x_fitn {K : Nat} (hK : K ≤ 6) (h2 : s 2 0 = nI K) (he : e ≤ 26) (hx : XA s bl) (hb : bl.length < 65) (k : Nat) (hk : k = 2 ∨ k = 3) : ∃ s', f_X0_runFits N (D + 5) s (nI k) x (nI e) = some ((fit0 K (s 3 0) (s 4 0) x).1, s') ∧ XA s' (bl ++ (fit0 K (s 3 0) (s 4 0) x).2) ∧ frA s s' := by
  obtain ⟨s1, e1, x1, f1⟩ := x_fit0 (N := N) (D := D) (e := e + 1) (x := x) hK h2 (by omega) hx (by omega)
  rcases hk with rfl | rfl
  · rw [f_X0_runFits, if_pos (d30 (by omega)), if_neg (by decide), if_neg (by decide), if_pos (show nI 2 = 2 from rfl), show (nI 2 : Int32) = 2 from rfl, ab2, cl_s, nI_1, e1, cl_s]
    exact ⟨s1, rfl, x1, f1⟩
  · rw [f_X0_runFits, if_pos (d30 (by omega)), if_neg (by decide), if_neg (by decide), if_neg (by decide), if_pos (show nI 3 = 3 from rfl), show (nI 3 : Int32) = 3 from rfl, ab3, cl_s, nI_1, e1, cl_s]
    exact ⟨s1, rfl, x1, f1⟩
theorem x_fits {K k : Nat} (hK : K ≤ 6) (hk : k ≤ 6) (h2 : s 2 0 = nI K) (he : e ≤ 25) (hx : XA s bl) (hb : bl.length < 60) : ∃ s', f_X0_runFits N (D + 6) s (nI k) x (nI e) = some ((fitsS K k (s 3 0) (s 4 0) x).1, s') ∧ XA s' (bl ++ (fitsS K k (s 3 0) (s 4 0) x).2) ∧ frA s s' := by
  rcases seven hk with rfl | rfl | rfl | rfl | rfl | rfl | rfl
  · exact x_fit0 (D := D + 2) hK h2 (by omega) hx (by omega)
  · exact x_fit1 (D := D + 1) hK h2 (by omega) hx (by omega)
  · exact x_fitn (D := D + 1) hK h2 (by omega) hx (by omega) 2 (Or.inl rfl)
  · exact x_fitn (D := D + 1) hK h2 (by omega) hx (by omega) 3 (Or.inr rfl)
  · obtain ⟨s0, e0, x0, f0⟩ := x_begin (N := N) 51 hx (by omega)
    obtain ⟨s1, e1, x1, f1⟩ := x_fit1 (N := N) (D := D) (e := e + 1) (x := x + 1) hK ((congrFun (f0 2 (by decide) (by decide)) 0).trans h2) (by omega) x0 (by simp; omega)
    rw [f0 3 (by decide) (by decide), f0 4 (by decide) (by decide)] at e1 x1
    rw [f_X0_runFits, if_pos (d30 (by omega)), if_neg (by decide), if_neg (by decide), if_neg (by decide), if_neg (by decide), if_pos (show nI 4 = 4 from rfl), e0, cl_s, ab4, cl_s, nI_1, e1, cl_s]
    rw [List.append_assoc] at x1
    exact ⟨s1, rfl, x1, f0.tr f1⟩
  · obtain ⟨s1, e1, x1, f1⟩ := x_fitn (N := N) (D := D) (e := e + 1) (x := x) hK h2 (by omega) hx (by omega) 2 (Or.inl rfl)
    have e1' : f_X0_runFits N (D + 5) s 2 x (nI (e + 1)) = _ := e1
    rw [f_X0_runFits, if_pos (d30 (by omega)), if_neg (by decide), if_neg (by decide), if_neg (by decide), if_neg (by decide), if_neg (by decide), if_pos (show nI 5 = 5 from rfl), show (nI 5 : Int32) = 5 from rfl, ab5, cl_s, nI_1, e1', cl_s]
    exact ⟨s1, rfl, x1, f1⟩
  · obtain ⟨s0, e0, x0, f0⟩ := x_begin (N := N) 70 hx (by omega)
    obtain ⟨s1, e1, x1, f1⟩ := x_fitn (N := N) (D := D) (e := e + 1) (x := x) hK ((congrFun (f0 2 (by decide) (by decide)) 0).trans h2) (by omega) x0 (by simp; omega) 3 (Or.inr rfl)
    rw [f0 3 (by decide) (by decide), f0 4 (by decide) (by decide)] at e1 x1
    have hl := fit0_len hK (s 3 0) (s 4 0) x
    obtain ⟨s2, e2, x2, f2⟩ := x_lies3 (N := N) (D := D + 3) (e := e + 1) (x := 2) (by omega) x1 (by simp; omega)
    have e1' : f_X0_runFits N (D + 5) s0 3 x (nI (e + 1)) = _ := e1
    rw [f1 3 (by decide) (by decide), f0 3 (by decide) (by decide)] at e2
    rw [f_X0_runFits, if_pos (d30 (by omega)), if_neg (by decide), if_neg (by decide), if_neg (by decide), if_neg (by decide), if_neg (by decide), if_neg (by decide), if_pos (show nI 6 = 6 from rfl), e0, cl_s, ab6, cl_s, nI_1, e1', cl_s, cl_s, e2, cl_s]
    rw [List.append_assoc, List.append_assoc] at x2
    exact ⟨s2, rfl, x2, (f0.tr f1).tr f2⟩
theorem x_tel0 {K : Nat} (hK : K ≤ 6) (h2 : s 2 0 = nI K) (he : e ≤ 24) (hx : XA s bl) (hb : bl.length < 50) : ∃ s', f_X0_runTells N (D + 7) s 0 x (nI e) = some ((tel0 K (s 3 0) (s 4 0) x).1, s') ∧ XA s' (bl ++ (tel0 K (s 3 0) (s 4 0) x).2) ∧ frA s s' := by
  obtain ⟨s0, e0, x0, f0⟩ := x_begin (N := N) 12 hx (by omega)
  obtain ⟨s1, e1, x1, f1⟩ := x_fits (N := N) (D := D) (e := e + 1) (x := x) hK hK ((congrFun (f0 2 (by decide) (by decide)) 0).trans h2) (by omega) x0 (by simp; omega)
  rw [f0 3 (by decide) (by decide), f0 4 (by decide) (by decide)] at e1 x1
  rw [f_X0_runTells, if_pos (d30 (by omega)), if_pos rfl, e0, cl_s, f0 2 (by decide) (by decide), h2, nI_1, e1, cl_s]
  rw [List.append_assoc] at x1
  exact ⟨s1, rfl, x1, f0.tr f1⟩
theorem x_tel3 {K : Nat} (hK : K ≤ 6) (h2 : s 2 0 = nI K) (he : e ≤ 23) (hx : XA s bl) (hb : bl.length < 45) : ∃ s', f_X0_runTells N (D + 8) s 3 x (nI e) = some ((tellsS K 3 (s 3 0) (s 4 0) x).1, s') ∧ XA s' (bl ++ (tellsS K 3 (s 3 0) (s 4 0) x).2) ∧ frA s s' := by
  obtain ⟨s0, e0, x0, f0⟩ := x_begin (N := N) 40 hx (by omega)
  obtain ⟨s1, e1, x1, f1⟩ := x_tel0 (N := N) (D := D) (e := e + 1) (x := x) hK ((congrFun (f0 2 (by decide) (by decide)) 0).trans h2) (by omega) x0 (by simp; omega)
  rw [f0 3 (by decide) (by decide), f0 4 (by decide) (by decide)] at e1 x1
  have hl := tel0_len hK (s 3 0) (s 4 0) x
  have f01 := f0.tr f1
  obtain ⟨s2, e2, x2, f2⟩ := x_fits (N := N) (D := D + 1) (e := e + 1) (x := 1) hK hK ((congrFun (f01 2 (by decide) (by decide)) 0).trans h2) (by omega) x1 (by simp; omega)
  rw [f01 3 (by decide) (by decide), f01 4 (by decide) (by decide)] at e2 x2
  rw [f_X0_runTells, if_pos (d30 (by omega)), if_neg (by decide), if_pos rfl, e0, cl_s, ab3, cl_s, nI_1, e1, cl_s]
  dsimp only
  rw [f01 2 (by decide) (by decide), h2, e2, cl_s]
  rw [List.append_assoc, List.append_assoc] at x2
  exact ⟨s2, rfl, x2, f01.tr f2⟩
theorem x_teln {K : Nat} (hK : K ≤ 6) (h2 : s 2 0 = nI K) (he : e ≤ 23) (hx : XA s bl) (hb : bl.length < 45) (k : Nat) (hk : k = 1 ∨ k = 2) : ∃ s', f_X0_runTells N (D + 8) s (nI k) x (nI e) = some ((tel0 K (s 3 0) (s 4 0) x).1, s') ∧ XA s' (bl ++ (tel0 K (s 3 0) (s 4 0) x).2) ∧ frA s s' := by
  obtain ⟨s1, e1, x1, f1⟩ := x_tel0 (N := N) (D := D) (e := e + 1) (x := x) hK h2 (by omega) hx (by omega)
  rcases hk with rfl | rfl
  · rw [f_X0_runTells, if_pos (d30 (by omega)), if_neg (by decide), if_neg (by decide), if_neg (by decide), show (nI 1 : Int32) = 1 from rfl, ab1, cl_s, nI_1, e1, cl_s]
    exact ⟨s1, rfl, x1, f1⟩
  · rw [f_X0_runTells, if_pos (d30 (by omega)), if_neg (by decide), if_neg (by decide), if_neg (by decide), show (nI 2 : Int32) = 2 from rfl, ab2, cl_s, nI_1, e1, cl_s]
    exact ⟨s1, rfl, x1, f1⟩
theorem x_tells {K k : Nat} (hK : K ≤ 6) (hk : k ≤ 6) (h2 : s 2 0 = nI K) (he : e ≤ 22) (hx : XA s bl) (hb : bl.length < 40) : ∃ s', f_X0_runTells N (D + 9) s (nI k) x (nI e) = some ((tellsS K k (s 3 0) (s 4 0) x).1, s') ∧ XA s' (bl ++ (tellsS K k (s 3 0) (s 4 0) x).2) ∧ frA s s' := by
  rcases seven hk with rfl | rfl | rfl | rfl | rfl | rfl | rfl
  · exact x_tel0 (D := D + 2) hK h2 (by omega) hx (by omega)
  · exact x_teln (D := D + 1) hK h2 (by omega) hx (by omega) 1 (Or.inl rfl)
  · exact x_teln (D := D + 1) hK h2 (by omega) hx (by omega) 2 (Or.inr rfl)
  · exact x_tel3 (D := D + 1) hK h2 (by omega) hx (by omega)
  · obtain ⟨s1, e1, x1, f1⟩ := x_teln (N := N) (D := D) (e := e + 1) (x := x) hK h2 (by omega) hx (by omega) 1 (Or.inl rfl)
    have e1' : f_X0_runTells N (D + 8) s 1 x (nI (e + 1)) = _ := e1
    rw [f_X0_runTells, if_pos (d30 (by omega)), if_neg (by decide), if_neg (by decide), if_neg (by decide), show (nI 4 : Int32) = 4 from rfl, ab4, cl_s, nI_1, e1', cl_s]
    exact ⟨s1, rfl, x1, f1⟩
  · obtain ⟨s0, e0, x0, f0⟩ := x_begin (N := N) 60 hx (by omega)
    obtain ⟨s1, e1, x1, f1⟩ := x_teln (N := N) (D := D) (e := e + 1) (x := x - s 3 0) hK ((congrFun (f0 2 (by decide) (by decide)) 0).trans h2) (by omega) x0 (by simp; omega) 2 (Or.inr rfl)
    rw [f0 3 (by decide) (by decide), f0 4 (by decide) (by decide)] at e1 x1
    have e1' : f_X0_runTells N (D + 8) s0 2 (x - s 3 0) (nI (e + 1)) = _ := e1
    rw [f_X0_runTells, if_pos (d30 (by omega)), if_neg (by decide), if_neg (by decide), if_pos (show nI 5 = 5 from rfl), e0, cl_s, ab5, cl_s, f0 3 (by decide) (by decide), nI_1, e1', cl_s]
    rw [List.append_assoc] at x1
    exact ⟨s1, rfl, x1, f0.tr f1⟩
  · obtain ⟨s1, e1, x1, f1⟩ := x_tel3 (N := N) (D := D) (e := e + 1) (x := x) hK h2 (by omega) hx (by omega)
    rw [f_X0_runTells, if_pos (d30 (by omega)), if_neg (by decide), if_neg (by decide), if_neg (by decide), show (nI 6 : Int32) = 6 from rfl, ab6, cl_s, nI_1, e1, cl_s]
    exact ⟨s1, rfl, x1, f1⟩
/-! the reference -/
theorem m_thingLies {t : Nat} (hx : MA μ bl) (hb : bl.length < 90) : ∃ μ', f_X8_thingLies N μ (nI t) x = some (x + nI t, μ') ∧ MA μ' (bl ++ [10]) ∧ frB μ μ' := by
  obtain ⟨s1, e1, x1, f1⟩ := m_body (N := N) 10 hx (by omega)
  unfold f_X8_thingLies
  rw [e1, cl_s]
  exact ⟨s1, rfl, x1, f1⟩
theorem m_lies {t k : Nat} {v : Int32} (ht : t < 6) (hk : k ≤ 6) (h3 : μ 3 t = nI k) (h4 : μ 4 t = v) (hx : MA μ bl) (hb : bl.length < 80) : ∃ μ', f_X8_liesAct N μ (nI t) x = some ((liesS k (nI t) v x).1, μ') ∧ MA μ' (bl ++ (liesS k (nI t) v x).2) ∧ frB μ μ' := by
  unfold f_X8_liesAct
  rw [ck_n ht (by omega), nI_clamp (by omega), h3]
  rcases seven hk with rfl | rfl | rfl | rfl | rfl | rfl | rfl
  · obtain ⟨s1, e1, x1, f1⟩ := m_thingLies (N := N) (x := x) (t := t) hx (by omega)
    rw [if_neg (by decide), if_neg (by decide), if_neg (by decide), if_neg (by decide), if_neg (by decide), e1, cl_s]
    exact ⟨s1, rfl, x1, f1⟩
  · obtain ⟨s1, e1, x1, f1⟩ := m_thingLies (N := N) (x := x) (t := t) hx (by omega)
    rw [if_neg (by decide), if_neg (by decide), if_neg (by decide), if_neg (by decide), if_neg (by decide), e1, cl_s]
    exact ⟨s1, rfl, x1, f1⟩
  · obtain ⟨s0, e0, x0, f0⟩ := m_body (N := N) 30 hx (by omega)
    obtain ⟨s1, e1, x1, f1⟩ := m_thingLies (N := N) (x := x * 3) (t := t) x0 (by simp; omega)
    rw [if_pos (show nI 2 = 2 from rfl), e0, cl_s, e1, cl_s]
    rw [List.append_assoc] at x1
    exact ⟨s1, rfl, x1, f0.tr f1⟩
  · obtain ⟨s1, e1, x1, f1⟩ := m_thingLies (N := N) (x := x) (t := t) hx (by omega)
    rw [if_neg (by decide), if_pos (show nI 3 = 3 from rfl), e1, cl_s]
    exact ⟨s1, rfl, x1, f1⟩
  · obtain ⟨s0, e0, x0, f0⟩ := m_body (N := N) 50 hx (by omega)
    obtain ⟨s1, e1, x1, f1⟩ := m_thingLies (N := N) (x := x) (t := t) x0 (by simp; omega)
    rw [if_neg (by decide), if_neg (by decide), if_pos (show nI 4 = 4 from rfl), e0, cl_s, e1, cl_s]
    rw [List.append_assoc] at x1
    exact ⟨s1, rfl, x1, f0.tr f1⟩
  · obtain ⟨s0, e0, x0, f0⟩ := m_body (N := N) 30 hx (by omega)
    obtain ⟨s1, e1, x1, f1⟩ := m_thingLies (N := N) (x := x * 3) (t := t) x0 (by simp; omega)
    rw [if_neg (by decide), if_neg (by decide), if_neg (by decide), if_pos (show nI 5 = 5 from rfl), e0, cl_s, e1, cl_s]
    rw [List.append_assoc] at x1
    exact ⟨s1, rfl, x1, f0.tr f1⟩
  · obtain ⟨s0, e0, x0, f0⟩ := m_body (N := N) 71 hx (by omega)
    obtain ⟨s1, e1, x1, f1⟩ := m_thingLies (N := N) (x := x) (t := t) x0 (by simp; omega)
    rw [if_neg (by decide), if_neg (by decide), if_neg (by decide), if_neg (by decide), if_pos (show nI 6 = 6 from rfl), e0, cl_s, e1, cl_s, ck_n ht (by omega)]
    dsimp only
    rw [f1 4 (by decide) (by decide), f0 4 (by decide) (by decide), h4]
    rw [List.append_assoc] at x1
    exact ⟨s1, rfl, x1, f0.tr f1⟩
theorem m_fit0 {t k : Nat} {v : Int32} (ht : t < 6) (hk : k ≤ 6) (h3 : μ 3 t = nI k) (h4 : μ 4 t = v) (hx : MA μ bl) (hb : bl.length < 70) : ∃ μ', f_X8_thingFits N μ (nI t) x = some ((fit0 k (nI t) v x).1, μ') ∧ MA μ' (bl ++ (fit0 k (nI t) v x).2) ∧ frB μ μ' := by
  obtain ⟨s0, e0, x0, f0⟩ := m_body (N := N) 11 hx (by omega)
  obtain ⟨s1, e1, x1, f1⟩ := m_lies (N := N) (x := x) (t := t) (v := v) ht hk (by rw [f0 3 (by decide) (by decide)]; exact h3) (by rw [f0 4 (by decide) (by decide)]; exact h4) x0 (by simp; omega)
  unfold f_X8_thingFits
  rw [e0, cl_s, e1, cl_s, ck_n ht (by omega)]
  dsimp only
  rw [nI_clamp (by omega), f1 4 (by decide) (by decide), f0 4 (by decide) (by decide), h4]
  rw [List.append_assoc] at x1
  exact ⟨s1, rfl, x1, f0.tr f1⟩
theorem m_fit1 {t k : Nat} {v : Int32} (ht : t < 6) (hk : k ≤ 6) (h3 : μ 3 t = nI k) (h4 : μ 4 t = v) (hx : MA μ bl) (hb : bl.length < 65) : ∃ μ', f_X8_gloveFits N μ (nI t) x = some ((fitsS k 1 (nI t) v x).1, μ') ∧ MA μ' (bl ++ (fitsS k 1 (nI t) v x).2) ∧ frB μ μ' := by
  obtain ⟨s0, e0, x0, f0⟩ := m_body (N := N) 20 hx (by omega)
  obtain ⟨s1, e1, x1, f1⟩ := m_fit0 (N := N) (x := x) (t := t) (v := v) ht hk (by rw [f0 3 (by decide) (by decide)]; exact h3) (by rw [f0 4 (by decide) (by decide)]; exact h4) x0 (by simp; omega)
  unfold f_X8_gloveFits
  rw [e0, cl_s, e1, cl_s]
  rw [List.append_assoc] at x1
  exact ⟨s1, rfl, x1, f0.tr f1⟩
theorem m_fits {t k : Nat} {v : Int32} (ht : t < 6) (hk : k ≤ 6) (h3 : μ 3 t = nI k) (h4 : μ 4 t = v) (hx : MA μ bl) (hb : bl.length < 60) : ∃ μ', f_X8_fitsAct N μ (nI t) x = some ((fitsS k k (nI t) v x).1, μ') ∧ MA μ' (bl ++ (fitsS k k (nI t) v x).2) ∧ frB μ μ' := by
  unfold f_X8_fitsAct
  rw [ck_n ht (by omega), nI_clamp (by omega), h3]
  have plain : ∃ μ', f_X8_thingFits N μ (nI t) x = some ((fit0 k (nI t) v x).1, μ') ∧ MA μ' (bl ++ (fit0 k (nI t) v x).2) ∧ frB μ μ' := m_fit0 (N := N) (x := x) ht hk h3 h4 hx (by omega)
  rcases seven hk with rfl | rfl | rfl | rfl | rfl | rfl | rfl
  · obtain ⟨s1, e1, x1, f1⟩ := plain
    rw [if_neg (by decide), if_neg (by decide), if_neg (by decide), e1, cl_s]
    exact ⟨s1, rfl, x1, f1⟩
  · obtain ⟨s1, e1, x1, f1⟩ := m_fit1 (N := N) (x := x) (t := t) (v := v) ht hk h3 h4 hx (by omega)
    rw [if_pos (show nI 1 = 1 from rfl), e1, cl_s]
    exact ⟨s1, rfl, x1, f1⟩
  · obtain ⟨s1, e1, x1, f1⟩ := plain
    rw [if_neg (by decide), if_neg (by decide), if_neg (by decide), e1, cl_s]
    exact ⟨s1, rfl, x1, f1⟩
  · obtain ⟨s1, e1, x1, f1⟩ := plain
    rw [if_neg (by decide), if_neg (by decide), if_neg (by decide), e1, cl_s]
    exact ⟨s1, rfl, x1, f1⟩
  · obtain ⟨s0, e0, x0, f0⟩ := m_body (N := N) 51 hx (by omega)
    obtain ⟨s1, e1, x1, f1⟩ := m_fit1 (N := N) (x := x + 1) (t := t) (v := v) ht hk (by rw [f0 3 (by decide) (by decide)]; exact h3) (by rw [f0 4 (by decide) (by decide)]; exact h4) x0 (by simp; omega)
    rw [if_neg (by decide), if_pos (show nI 4 = 4 from rfl), e0, cl_s, e1, cl_s]
    rw [List.append_assoc] at x1
    exact ⟨s1, rfl, x1, f0.tr f1⟩
  · obtain ⟨s1, e1, x1, f1⟩ := plain
    rw [if_neg (by decide), if_neg (by decide), if_neg (by decide), e1, cl_s]
    exact ⟨s1, rfl, x1, f1⟩
  · obtain ⟨s0, e0, x0, f0⟩ := m_body (N := N) 70 hx (by omega)
    obtain ⟨s1, e1, x1, f1⟩ := m_fit0 (N := N) (x := x) (t := t) (v := v) ht hk (by rw [f0 3 (by decide) (by decide)]; exact h3) (by rw [f0 4 (by decide) (by decide)]; exact h4) x0 (by simp; omega)
    have hl := fit0_len hk (nI t) v x
    obtain ⟨s2, e2, x2, f2⟩ := m_thingLies (N := N) (x := 2) (t := t) x1 (by simp; omega)
    rw [if_neg (by decide), if_neg (by decide), if_pos (show nI 6 = 6 from rfl), e0, cl_s, e1, cl_s, nm_d, e2, cl_s]
    rw [List.append_assoc, List.append_assoc] at x2
    exact ⟨s2, rfl, x2, (f0.tr f1).tr f2⟩
theorem m_tel0 {t k : Nat} {v : Int32} (ht : t < 6) (hk : k ≤ 6) (h3 : μ 3 t = nI k) (h4 : μ 4 t = v) (hx : MA μ bl) (hb : bl.length < 50) : ∃ μ', f_X8_thingTells N μ (nI t) x = some ((tel0 k (nI t) v x).1, μ') ∧ MA μ' (bl ++ (tel0 k (nI t) v x).2) ∧ frB μ μ' := by
  obtain ⟨s0, e0, x0, f0⟩ := m_body (N := N) 12 hx (by omega)
  obtain ⟨s1, e1, x1, f1⟩ := m_fits (N := N) (x := x) (t := t) (v := v) ht hk (by rw [f0 3 (by decide) (by decide)]; exact h3) (by rw [f0 4 (by decide) (by decide)]; exact h4) x0 (by simp; omega)
  unfold f_X8_thingTells
  rw [e0, cl_s, e1, cl_s]
  rw [List.append_assoc] at x1
  exact ⟨s1, rfl, x1, f0.tr f1⟩
theorem m_tells {t k : Nat} {v : Int32} (ht : t < 6) (hk : k ≤ 6) (h3 : μ 3 t = nI k) (h4 : μ 4 t = v) (hx : MA μ bl) (hb : bl.length < 40) : ∃ μ', f_X8_tellsAct N μ (nI t) x = some ((tellsS k k (nI t) v x).1, μ') ∧ MA μ' (bl ++ (tellsS k k (nI t) v x).2) ∧ frB μ μ' := by
  unfold f_X8_tellsAct
  rw [ck_n ht (by omega), nI_clamp (by omega), h3]
  have plain : ∃ μ', f_X8_thingTells N μ (nI t) x = some ((tel0 k (nI t) v x).1, μ') ∧ MA μ' (bl ++ (tel0 k (nI t) v x).2) ∧ frB μ μ' := m_tel0 (N := N) (x := x) ht hk h3 h4 hx (by omega)
  have forty : ∃ s0 s1 s2, f_X8_body N μ 40 = some s0 ∧ f_X8_thingTells N s0 (nI t) x = some ((tel0 k (nI t) v x).1, s1) ∧ f_X8_fitsAct N s1 (nI t) 1 = some ((fitsS k k (nI t) v 1).1, s2) ∧ MA s2 (bl ++ (40 :: ((tel0 k (nI t) v x).2 ++ (fitsS k k (nI t) v 1).2))) ∧ frB μ s2 := by
    obtain ⟨s0, e0, x0, f0⟩ := m_body (N := N) 40 hx (by omega)
    obtain ⟨s1, e1, x1, f1⟩ := m_tel0 (N := N) (x := x) (t := t) (v := v) ht hk (by rw [f0 3 (by decide) (by decide)]; exact h3) (by rw [f0 4 (by decide) (by decide)]; exact h4) x0 (by simp; omega)
    have hl := tel0_len hk (nI t) v x
    have f01 := f0.tr f1
    obtain ⟨s2, e2, x2, f2⟩ := m_fits (N := N) (x := 1) (t := t) (v := v) ht hk (by rw [f01 3 (by decide) (by decide)]; exact h3) (by rw [f01 4 (by decide) (by decide)]; exact h4) x1 (by simp; omega)
    rw [List.append_assoc, List.append_assoc] at x2
    exact ⟨s0, s1, s2, e0, e1, e2, x2, f01.tr f2⟩
  rcases seven hk with rfl | rfl | rfl | rfl | rfl | rfl | rfl
  · obtain ⟨s1, e1, x1, f1⟩ := plain
    rw [if_neg (by decide), if_neg (by decide), if_neg (by decide), if_neg (by decide), e1, cl_s]
    exact ⟨s1, rfl, x1, f1⟩
  · obtain ⟨s1, e1, x1, f1⟩ := plain
    rw [if_neg (by decide), if_neg (by decide), if_neg (by decide), if_neg (by decide), e1, cl_s]
    exact ⟨s1, rfl, x1, f1⟩
  · obtain ⟨s1, e1, x1, f1⟩ := plain
    rw [if_neg (by decide), if_neg (by decide), if_neg (by decide), if_neg (by decide), e1, cl_s]
    exact ⟨s1, rfl, x1, f1⟩
  · obtain ⟨s0, s1, s2, e0, e1, e2, x2, f2⟩ := forty
    rw [if_pos (show nI 3 = 3 from rfl), e0, cl_s, e1, cl_s, nm_d, e2, cl_s]
    exact ⟨s2, rfl, x2, f2⟩
  · obtain ⟨s1, e1, x1, f1⟩ := plain
    rw [if_neg (by decide), if_pos (show nI 4 = 4 from rfl), e1, cl_s]
    exact ⟨s1, rfl, x1, f1⟩
  · obtain ⟨s0, e0, x0, f0⟩ := m_body (N := N) 60 hx (by omega)
    obtain ⟨s1, e1, x1, f1⟩ := m_tel0 (N := N) (x := x - nI t) (t := t) (v := v) ht hk (by rw [f0 3 (by decide) (by decide)]; exact h3) (by rw [f0 4 (by decide) (by decide)]; exact h4) x0 (by simp; omega)
    rw [if_neg (by decide), if_neg (by decide), if_pos (show nI 5 = 5 from rfl), e0, cl_s, e1, cl_s]
    rw [List.append_assoc] at x1
    exact ⟨s1, rfl, x1, f0.tr f1⟩
  · obtain ⟨s0, s1, s2, e0, e1, e2, x2, f2⟩ := forty
    rw [if_neg (by decide), if_neg (by decide), if_neg (by decide), if_pos (show nI 6 = 6 from rfl), e0, cl_s, e1, cl_s, nm_d, e2, cl_s]
    exact ⟨s2, rfl, x2, f2⟩
end
