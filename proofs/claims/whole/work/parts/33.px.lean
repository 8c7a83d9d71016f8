/-! ===== pure layer X: an E, as the class reads it ===== -/
abbrev Rd : Type := Bool × Nat × List Nat
def rBothL (rp : Nat → Rd) (T : List Nat) : Nat → Nat → List Nat → Rd
  | 0, p, acc => (true, p, acc)
  | k + 1, p, acc => if chr T p = 38 then (if (rp (p + 1)).1 = true then rBothL rp T k (rp (p + 1)).2.1 (acc ++ (rp (p + 1)).2.2 ++ [1]) else (false, (rp (p + 1)).2.1, [])) else (true, p, acc)
def rBoth (rp : Nat → Rd) (T : List Nat) (p : Nat) : Rd := if (rp p).1 = true then rBothL rp T 100 (rp p).2.1 (rp p).2.2 else (false, (rp p).2.1, [])
def rEitherL (rp : Nat → Rd) (T : List Nat) : Nat → Nat → List Nat → Rd
  | 0, p, acc => (true, p, acc)
  | k + 1, p, acc => if chr T p = 124 then (if (rBoth rp T (p + 1)).1 = true then rEitherL rp T k (rBoth rp T (p + 1)).2.1 (acc ++ (rBoth rp T (p + 1)).2.2 ++ [2]) else (false, (rBoth rp T (p + 1)).2.1, [])) else (true, p, acc)
def rEither (rp : Nat → Rd) (T : List Nat) (p : Nat) : Rd := if (rBoth rp T p).1 = true then rEitherL rp T 100 (rBoth rp T p).2.1 (rBoth rp T p).2.2 else (false, (rBoth rp T p).2.1, [])
def rPart (T : List Nat) : Nat → Nat → Nat → Rd
  | 0, _, p => (false, p, [])
  | D + 1, d, p => if chr T p = 33 then (if d < 4 then (if (rPart T D (d + 1) (p + 1)).1 = true then (true, (rPart T D (d + 1) (p + 1)).2.1, (rPart T D (d + 1) (p + 1)).2.2 ++ [0]) else (false, (rPart T D (d + 1) (p + 1)).2.1, [])) else (false, p, []))
    else if chr T p = 40 then (if d < 4 then (if (rEither (rPart T D (d + 1)) T (p + 1)).1 = true then (if chr T (rEither (rPart T D (d + 1)) T (p + 1)).2.1 = 41 then (true, (rEither (rPart T D (d + 1)) T (p + 1)).2.1 + 1, (rEither (rPart T D (d + 1)) T (p + 1)).2.2) else (false, (rEither (rPart T D (d + 1)) T (p + 1)).2.1, [])) else (false, (rEither (rPart T D (d + 1)) T (p + 1)).2.1, [])) else (false, p, []))
    else rtest T p
/-- a reader goes on within the text, and takes a sign for each token -/
def Pok (T : List Nat) (rp : Nat → Rd) : Prop := ∀ p, p ≤ T.length → p ≤ (rp p).2.1 ∧ (rp p).2.1 ≤ T.length ∧ ((rp p).1 = true → p + (rp p).2.2.length ≤ (rp p).2.1 ∧ p < (rp p).2.1)
theorem lix200 : lix 200 = 6 := rfl
theorem rix200 : rix 200 = 3 := rfl
theorem test_ok {T : List Nat} (h : TxOk T) : Pok T (rtest T) := by
  intro p hp
  have h1 := rtest_le h p
  refine ⟨h1.1, ?_, fun z => ⟨(h1.2.1 z).1, (h1.2.1 z).2.2⟩⟩
  have hr := rnum_le h (p + 2)
  unfold rtest
  by_cases h1 : lix (chr T p) = 6
  · rw [if_pos h1]; exact hp
  rw [if_neg h1]
  have b1 : p < T.length := by
    rcases chr_lt h (p := p) with ⟨a, -⟩ | ⟨-, b, -⟩
    · rw [a] at h1; exact absurd lix200 h1
    · exact b
  by_cases h2 : rix (chr T (p + 1)) = 3
  · rw [if_pos h2]; exact b1
  rw [if_neg h2]
  have b2 : p + 1 < T.length := by
    rcases chr_lt h (p := p + 1) with ⟨a, -⟩ | ⟨-, b, -⟩
    · rw [a] at h2; exact absurd rix200 h2
    · exact b
  by_cases h3 : (rnum T (p + 2)).1 = true
  · rw [if_pos h3]; exact (hr.2.2.1 h3).2
  · rw [if_neg h3]
    have := hr.2.2.2.2 (by rw [Bool.not_eq_true] at h3; exact h3)
    show (rnum T (p + 2)).2.1 ≤ T.length
    omega
theorem bothL_ok {T : List Nat} {rp : Nat → Rd} (hT : TxOk T) (h : Pok T rp) : ∀ (k p p0 : Nat) (acc : List Nat), p ≤ T.length → p0 + acc.length ≤ p → p0 < p → p ≤ (rBothL rp T k p acc).2.1 ∧ (rBothL rp T k p acc).2.1 ≤ T.length ∧ ((rBothL rp T k p acc).1 = true → p0 + (rBothL rp T k p acc).2.2.length ≤ (rBothL rp T k p acc).2.1 ∧ (100 < k + p → chr T (rBothL rp T k p acc).2.1 ≠ 38)) := by
  intro k
  induction k with
  | zero =>
    intro p p0 acc hp hl hpp
    refine ⟨Nat.le_refl _, hp, fun _ => ⟨hl, fun hk z => ?_⟩⟩
    have := chr_in hT z (by omega)
    have := hT.1
    have e : (rBothL rp T 0 p acc).2.1 = p := rfl
    omega
  | succ k ih =>
    intro p p0 acc hp hl hpp
    rw [rBothL]
    by_cases h1 : chr T p = 38
    · have hlt := chr_in hT h1 (by omega)
      obtain ⟨a, b, c⟩ := h (p + 1) (by omega)
      rw [if_pos h1]
      by_cases h2 : (rp (p + 1)).1 = true
      · rw [if_pos h2]
        obtain ⟨c1, c2⟩ := c h2
        obtain ⟨d1, d2, d3⟩ := ih (rp (p + 1)).2.1 p0 (acc ++ (rp (p + 1)).2.2 ++ [1]) b (by simp only [List.length_append, List.length_cons, List.length_nil]; omega) (by omega)
        exact ⟨by omega, d2, fun z => ⟨(d3 z).1, fun hk => (d3 z).2 (by omega)⟩⟩
      · rw [if_neg h2]
        exact ⟨by show p ≤ (rp (p + 1)).2.1; omega, b, fun z => (by cases z)⟩
    · rw [if_neg h1]
      exact ⟨Nat.le_refl _, hp, fun _ => ⟨hl, fun _ => h1⟩⟩
theorem both_ok {T : List Nat} {rp : Nat → Rd} (hT : TxOk T) (h : Pok T rp) : Pok T (rBoth rp T) ∧ ∀ p, p ≤ T.length → (rBoth rp T p).1 = true → chr T (rBoth rp T p).2.1 ≠ 38 := by
  have key : ∀ p, p ≤ T.length → p ≤ (rBoth rp T p).2.1 ∧ (rBoth rp T p).2.1 ≤ T.length ∧ ((rBoth rp T p).1 = true → (p + (rBoth rp T p).2.2.length ≤ (rBoth rp T p).2.1 ∧ p < (rBoth rp T p).2.1) ∧ chr T (rBoth rp T p).2.1 ≠ 38) := by
    intro p hp
    obtain ⟨a, b, c⟩ := h p hp
    unfold rBoth
    by_cases h2 : (rp p).1 = true
    · rw [if_pos h2]
      obtain ⟨c1, c2⟩ := c h2
      obtain ⟨d1, d2, d3⟩ := bothL_ok hT h 100 (rp p).2.1 p (rp p).2.2 b c1 c2
      exact ⟨by omega, d2, fun z => ⟨⟨(d3 z).1, by omega⟩, (d3 z).2 (by omega)⟩⟩
    · rw [if_neg h2]; exact ⟨a, b, fun z => (by cases z)⟩
  exact ⟨fun p hp => ⟨(key p hp).1, (key p hp).2.1, fun z => ((key p hp).2.2 z).1⟩, fun p hp z => ((key p hp).2.2 z).2⟩
theorem eitherL_ok {T : List Nat} {rp : Nat → Rd} (hT : TxOk T) (h : Pok T rp) : ∀ (k p p0 : Nat) (acc : List Nat), p ≤ T.length → p0 + acc.length ≤ p → p0 < p → chr T p ≠ 38 → p ≤ (rEitherL rp T k p acc).2.1 ∧ (rEitherL rp T k p acc).2.1 ≤ T.length ∧ ((rEitherL rp T k p acc).1 = true → p0 + (rEitherL rp T k p acc).2.2.length ≤ (rEitherL rp T k p acc).2.1 ∧ chr T (rEitherL rp T k p acc).2.1 ≠ 38 ∧ (100 < k + p → chr T (rEitherL rp T k p acc).2.1 ≠ 124)) := by
  have hB := both_ok hT h
  intro k
  induction k with
  | zero =>
    intro p p0 acc hp hl hpp h38
    refine ⟨Nat.le_refl _, hp, fun _ => ⟨hl, h38, fun hk z => ?_⟩⟩
    have := chr_in hT z (by omega)
    have := hT.1
    have e : (rEitherL rp T 0 p acc).2.1 = p := rfl
    omega
  | succ k ih =>
    intro p p0 acc hp hl hpp h38
    rw [rEitherL]
    by_cases h1 : chr T p = 124
    · have hlt := chr_in hT h1 (by omega)
      obtain ⟨a, b, c⟩ := hB.1 (p + 1) (by omega)
      rw [if_pos h1]
      by_cases h2 : (rBoth rp T (p + 1)).1 = true
      · rw [if_pos h2]
        obtain ⟨c1, c2⟩ := c h2
        obtain ⟨d1, d2, d3⟩ := ih (rBoth rp T (p + 1)).2.1 p0 (acc ++ (rBoth rp T (p + 1)).2.2 ++ [2]) b (by simp only [List.length_append, List.length_cons, List.length_nil]; omega) (by omega) (hB.2 (p + 1) (by omega) h2)
        exact ⟨by omega, d2, fun z => ⟨(d3 z).1, (d3 z).2.1, fun hk => (d3 z).2.2 (by omega)⟩⟩
      · rw [if_neg h2]
        exact ⟨by show p ≤ (rBoth rp T (p + 1)).2.1; omega, b, fun z => (by cases z)⟩
    · rw [if_neg h1]
      exact ⟨Nat.le_refl _, hp, fun _ => ⟨hl, h38, fun _ => h1⟩⟩
theorem either_ok {T : List Nat} {rp : Nat → Rd} (hT : TxOk T) (h : Pok T rp) : Pok T (rEither rp T) ∧ ∀ p, p ≤ T.length → (rEither rp T p).1 = true → chr T (rEither rp T p).2.1 ≠ 38 ∧ chr T (rEither rp T p).2.1 ≠ 124 := by
  have hB := both_ok hT h
  have key : ∀ p, p ≤ T.length → p ≤ (rEither rp T p).2.1 ∧ (rEither rp T p).2.1 ≤ T.length ∧ ((rEither rp T p).1 = true → (p + (rEither rp T p).2.2.length ≤ (rEither rp T p).2.1 ∧ p < (rEither rp T p).2.1) ∧ chr T (rEither rp T p).2.1 ≠ 38 ∧ chr T (rEither rp T p).2.1 ≠ 124) := by
    intro p hp
    obtain ⟨a, b, c⟩ := hB.1 p hp
    unfold rEither
    by_cases h2 : (rBoth rp T p).1 = true
    · rw [if_pos h2]
      obtain ⟨c1, c2⟩ := c h2
      obtain ⟨d1, d2, d3⟩ := eitherL_ok hT h 100 (rBoth rp T p).2.1 p (rBoth rp T p).2.2 b c1 c2 (hB.2 p hp h2)
      exact ⟨by omega, d2, fun z => ⟨⟨(d3 z).1, by omega⟩, (d3 z).2.1, (d3 z).2.2 (by omega)⟩⟩
    · rw [if_neg h2]; exact ⟨a, b, fun z => (by cases z)⟩
  exact ⟨fun p hp => ⟨(key p hp).1, (key p hp).2.1, fun z => ((key p hp).2.2 z).1⟩, fun p hp z => ((key p hp).2.2 z).2⟩
theorem part_ok {T : List Nat} (hT : TxOk T) : ∀ D d, Pok T (rPart T D d) := by
  intro D
  induction D with
  | zero => intro d p hp; exact ⟨Nat.le_refl _, hp, fun z => (by cases z)⟩
  | succ D ih =>
    intro d p hp
    have hE := (either_ok hT (ih (d + 1))).1
    rw [rPart]
    by_cases h1 : chr T p = 33
    · have hlt := chr_in hT h1 (by omega)
      obtain ⟨a, b, c⟩ := ih (d + 1) (p + 1) (by omega)
      rw [if_pos h1]
      by_cases hd : d < 4
      · rw [if_pos hd]
        by_cases h2 : (rPart T D (d + 1) (p + 1)).1 = true
        · rw [if_pos h2]
          obtain ⟨c1, c2⟩ := c h2
          exact ⟨by show p ≤ (rPart T D (d + 1) (p + 1)).2.1; omega, b, fun _ => ⟨by simp only [List.length_append, List.length_cons, List.length_nil]; omega, by show p < (rPart T D (d + 1) (p + 1)).2.1; omega⟩⟩
        · rw [if_neg h2]; exact ⟨by show p ≤ (rPart T D (d + 1) (p + 1)).2.1; omega, b, fun z => (by cases z)⟩
      · rw [if_neg hd]; exact ⟨Nat.le_refl _, hp, fun z => (by cases z)⟩
    rw [if_neg h1]
    by_cases h4 : chr T p = 40
    · have hlt := chr_in hT h4 (by omega)
      obtain ⟨a, b, c⟩ := hE (p + 1) (by omega)
      rw [if_pos h4]
      by_cases hd : d < 4
      · rw [if_pos hd]
        by_cases h2 : (rEither (rPart T D (d + 1)) T (p + 1)).1 = true
        · rw [if_pos h2]
          obtain ⟨c1, c2⟩ := c h2
          by_cases h5 : chr T (rEither (rPart T D (d + 1)) T (p + 1)).2.1 = 41
          · have hlt2 := chr_in hT h5 (by omega)
            rw [if_pos h5]
            exact ⟨by show p ≤ (rEither (rPart T D (d + 1)) T (p + 1)).2.1 + 1; omega, by show (rEither (rPart T D (d + 1)) T (p + 1)).2.1 + 1 ≤ T.length; omega, fun _ => ⟨by show p + (rEither (rPart T D (d + 1)) T (p + 1)).2.2.length ≤ (rEither (rPart T D (d + 1)) T (p + 1)).2.1 + 1; omega, by show p < (rEither (rPart T D (d + 1)) T (p + 1)).2.1 + 1; omega⟩⟩
          · rw [if_neg h5]; exact ⟨by show p ≤ (rEither (rPart T D (d + 1)) T (p + 1)).2.1; omega, b, fun z => (by cases z)⟩
        · rw [if_neg h2]; exact ⟨by show p ≤ (rEither (rPart T D (d + 1)) T (p + 1)).2.1; omega, b, fun z => (by cases z)⟩
      · rw [if_neg hd]; exact ⟨Nat.le_refl _, hp, fun z => (by cases z)⟩
    · rw [if_neg h4]; exact test_ok hT p hp
/-- the class reads as rp does -/
def CR (T : List Nat) (rp : Nat → Rd) (f : St → Option (Int32 × St)) : Prop := ∀ (s : St) (p : Nat) (acc : List Int32), p ≤ T.length → acc.length ≤ p → R5 s T p acc → ∃ s', f s = some (b2i (rp p).1, s') ∧ TX s' T ∧ s' 6 0 = nI (rp p).2.1 ∧ ((rp p).1 = true → R5 s' T (rp p).2.1 (acc ++ (rp p).2.2.map tokX)) ∧ fr5 s s'
section
variable {N : Nat} {T : List Nat} {rp : Nat → Rd} {f : St → Int32 → Option (Int32 × St)} {v1 : Int32}
theorem R5.one {s : St} {p : Nat} {acc : List Int32} (h : R5 s T p acc) : R5 (sI s 6 (nI (p + 1))) T (p + 1) acc ∧ fr5 s (sI s 6 (nI (p + 1))) := ⟨h.go (by rw [sI_s]) (fun k a _ => sI_n _ _ a), fun k _ _ a _ => sI_n _ _ a⟩
theorem x_bothL (hT : TxOk T) (hP : Pok T rp) (hC : CR T rp (fun s => f s v1)) : ∀ (k v n : Nat) (s : St) (p p0 : Nat) (acc : List Int32) (toks : List Nat), v + k = 100 → k < n → p ≤ T.length → acc.length ≤ p0 → p0 + toks.length ≤ p → p0 < p → R5 s T p (acc ++ toks.map tokX) → ∃ s', l_X5_readBoth_12 f N v1 n s (nI v) = some (b2i (rBothL rp T k p toks).1, s') ∧ TX s' T ∧ s' 6 0 = nI (rBothL rp T k p toks).2.1 ∧ ((rBothL rp T k p toks).1 = true → R5 s' T (rBothL rp T k p toks).2.1 (acc ++ (rBothL rp T k p toks).2.2.map tokX)) ∧ fr5 s s' := by
  have h100 := hT.1
  intro k
  induction k with
  | zero =>
    intro v n s p p0 acc toks hv hn hp ha hl hpp hR
    obtain ⟨n, rfl⟩ : ∃ m, n = m + 1 := ⟨n - 1, by omega⟩
    obtain rfl : v = 100 := by omega
    rw [l_X5_readBoth_12, if_pos (show (100 : Int32) ≤ nI 100 from by decide)]
    exact ⟨s, rfl, hR.1, hR.2.1, fun _ => hR, fr5.rf s⟩
  | succ k ih =>
    intro v n s p p0 acc toks hv hn hp ha hl hpp hR
    obtain ⟨n, rfl⟩ : ∃ m, n = m + 1 := ⟨n - 1, by omega⟩
    rw [l_X5_readBoth_12, if_neg (show ¬ (100 : Int32) ≤ nI v from nI_ge (b := 100) (by omega) (by omega)), x_next hT hR (by omega), cl_s, rBothL]
    by_cases h1 : chr T p = 38
    · have hlt := chr_in hT h1 (by omega)
      rw [if_pos (show nxI T p = 38 from (nx_eq hT (c := 38) (by omega)).mpr h1), if_pos h1, nm_d, hR.2.1, nI_1]
      obtain ⟨hR1, f1⟩ := hR.one
      obtain ⟨a, b, c⟩ := hP (p + 1) (by omega)
      obtain ⟨s2, e2, t2, q2, r2, f2⟩ := hC _ (p + 1) _ (by omega) (by simp only [List.length_append, List.length_map]; omega) hR1
      dsimp only at e2
      rw [e2, cl_s]
      dsimp only
      cases hb : (rp (p + 1)).1
      · rw [i0, if_neg (by decide)]
        exact ⟨s2, rfl, t2, q2, fun z => (by cases z), f1.tr f2⟩
      · obtain ⟨c1, c2⟩ := c hb
        obtain ⟨s3, e3, r3, f3, -⟩ := x_add (N := N) 2 (r2 hb) (by simp only [List.length_append, List.length_map]; omega)
        rw [i1, if_pos rfl, e3, cl_s, nm_d, nI_1]
        have e4 : acc ++ List.map tokX toks ++ List.map tokX (rp (p + 1)).2.2 ++ [2] = acc ++ List.map tokX (toks ++ (rp (p + 1)).2.2 ++ [1]) := by
          rw [List.map_append, List.map_append, List.append_assoc, List.append_assoc, List.append_assoc]; rfl
        rw [e4] at r3
        obtain ⟨s5, e5, t5, q5, r5, f5⟩ := ih (v + 1) n s3 (rp (p + 1)).2.1 p0 acc (toks ++ (rp (p + 1)).2.2 ++ [1]) (by omega) (by omega) b ha (by simp only [List.length_append, List.length_cons, List.length_nil]; omega) (by omega) r3
        exact ⟨s5, e5, t5, q5, r5, ((f1.tr f2).tr f3).tr f5⟩
    · rw [if_neg (show ¬ nxI T p = 38 from fun z => h1 ((nx_eq hT (c := 38) (by omega)).mp z)), if_neg h1]
      exact ⟨s, rfl, hR.1, hR.2.1, fun _ => hR, fr5.rf s⟩
theorem x_both (hN : 1000 ≤ N) (hT : TxOk T) (hP : Pok T rp) (hC : CR T rp (fun s => f s v1)) : CR T (rBoth rp T) (fun s => f_X5_readBoth f N s v1) := by
  intro s p acc hp ha hR
  obtain ⟨a, b, c⟩ := hP p hp
  obtain ⟨s2, e2, t2, q2, r2, f2⟩ := hC s p acc hp ha hR
  dsimp only at e2 ⊢
  unfold f_X5_readBoth rBoth
  rw [e2, cl_s]
  dsimp only
  cases hb : (rp p).1
  · rw [i0, if_neg (by decide)]
    exact ⟨s2, rfl, t2, q2, fun z => (by cases z), f2⟩
  · obtain ⟨c1, c2⟩ := c hb
    rw [i1, if_pos rfl]
    obtain ⟨s5, e5, t5, q5, r5, f5⟩ := x_bothL (N := N) hT hP hC 100 0 N s2 (rp p).2.1 p acc (rp p).2.2 (by omega) (by omega) b ha c1 c2 (r2 hb)
    exact ⟨s5, e5, t5, q5, r5, f2.tr f5⟩
theorem x_eitherL (hN : 1000 ≤ N) (hT : TxOk T) (hP : Pok T rp) (hC : CR T rp (fun s => f s v1)) : ∀ (k v n : Nat) (s : St) (p p0 : Nat) (acc : List Int32) (toks : List Nat), v + k = 100 → k < n → p ≤ T.length → acc.length ≤ p0 → p0 + toks.length ≤ p → p0 < p → R5 s T p (acc ++ toks.map tokX) → ∃ s', l_X5_readEither_12 f N v1 n s (nI v) = some (b2i (rEitherL rp T k p toks).1, s') ∧ TX s' T ∧ s' 6 0 = nI (rEitherL rp T k p toks).2.1 ∧ ((rEitherL rp T k p toks).1 = true → R5 s' T (rEitherL rp T k p toks).2.1 (acc ++ (rEitherL rp T k p toks).2.2.map tokX)) ∧ fr5 s s' := by
  have h100 := hT.1
  have hB := (both_ok hT hP).1
  have hCB := x_both hN hT hP hC
  intro k
  induction k with
  | zero =>
    intro v n s p p0 acc toks hv hn hp ha hl hpp hR
    obtain ⟨n, rfl⟩ : ∃ m, n = m + 1 := ⟨n - 1, by omega⟩
    obtain rfl : v = 100 := by omega
    rw [l_X5_readEither_12, if_pos (show (100 : Int32) ≤ nI 100 from by decide)]
    exact ⟨s, rfl, hR.1, hR.2.1, fun _ => hR, fr5.rf s⟩
  | succ k ih =>
    intro v n s p p0 acc toks hv hn hp ha hl hpp hR
    obtain ⟨n, rfl⟩ : ∃ m, n = m + 1 := ⟨n - 1, by omega⟩
    rw [l_X5_readEither_12, if_neg (show ¬ (100 : Int32) ≤ nI v from nI_ge (b := 100) (by omega) (by omega)), x_next hT hR (by omega), cl_s, rEitherL]
    by_cases h1 : chr T p = 124
    · have hlt := chr_in hT h1 (by omega)
      rw [if_pos (show nxI T p = 124 from (nx_eq hT (c := 124) (by omega)).mpr h1), if_pos h1, nm_d, hR.2.1, nI_1]
      obtain ⟨hR1, f1⟩ := hR.one
      obtain ⟨a, b, c⟩ := hB (p + 1) (by omega)
      obtain ⟨s2, e2, t2, q2, r2, f2⟩ := hCB _ (p + 1) _ (by omega) (by simp only [List.length_append, List.length_map]; omega) hR1
      dsimp only at e2
      rw [e2, cl_s]
      dsimp only
      cases hb : (rBoth rp T (p + 1)).1
      · rw [i0, if_neg (by decide)]
        exact ⟨s2, rfl, t2, q2, fun z => (by cases z), f1.tr f2⟩
      · obtain ⟨c1, c2⟩ := c hb
        obtain ⟨s3, e3, r3, f3, -⟩ := x_add (N := N) 3 (r2 hb) (by simp only [List.length_append, List.length_map]; omega)
        rw [i1, if_pos rfl, e3, cl_s, nm_d, nI_1]
        have e4 : acc ++ List.map tokX toks ++ List.map tokX (rBoth rp T (p + 1)).2.2 ++ [3] = acc ++ List.map tokX (toks ++ (rBoth rp T (p + 1)).2.2 ++ [2]) := by
          rw [List.map_append, List.map_append, List.append_assoc, List.append_assoc, List.append_assoc]; rfl
        rw [e4] at r3
        obtain ⟨s5, e5, t5, q5, r5, f5⟩ := ih (v + 1) n s3 (rBoth rp T (p + 1)).2.1 p0 acc (toks ++ (rBoth rp T (p + 1)).2.2 ++ [2]) (by omega) (by omega) b ha (by simp only [List.length_append, List.length_cons, List.length_nil]; omega) (by omega) r3
        exact ⟨s5, e5, t5, q5, r5, ((f1.tr f2).tr f3).tr f5⟩
    · rw [if_neg (show ¬ nxI T p = 124 from fun z => h1 ((nx_eq hT (c := 124) (by omega)).mp z)), if_neg h1]
      exact ⟨s, rfl, hR.1, hR.2.1, fun _ => hR, fr5.rf s⟩
theorem x_either (hN : 1000 ≤ N) (hT : TxOk T) (hP : Pok T rp) (hC : CR T rp (fun s => f s v1)) : CR T (rEither rp T) (fun s => f_X5_readEither f N s v1) := by
  intro s p acc hp ha hR
  obtain ⟨a, b, c⟩ := (both_ok hT hP).1 p hp
  obtain ⟨s2, e2, t2, q2, r2, f2⟩ := x_both hN hT hP hC s p acc hp ha hR
  dsimp only at e2 ⊢
  unfold f_X5_readEither rEither
  rw [e2, cl_s]
  dsimp only
  cases hb : (rBoth rp T p).1
  · rw [i0, if_neg (by decide)]
    exact ⟨s2, rfl, t2, q2, fun z => (by cases z), f2⟩
  · obtain ⟨c1, c2⟩ := c hb
    rw [i1, if_pos rfl]
    obtain ⟨s5, e5, t5, q5, r5, f5⟩ := x_eitherL (N := N) hN hT hP hC 100 0 N s2 (rBoth rp T p).2.1 p acc (rBoth rp T p).2.2 (by omega) (by omega) b ha c1 c2 (r2 hb)
    exact ⟨s5, e5, t5, q5, r5, f2.tr f5⟩
theorem x_part (hN : 1000 ≤ N) (hT : TxOk T) : ∀ (D d : Nat), 5 ≤ D + d → d ≤ 4 → CR T (rPart T D d) (fun s => f_X5_readPart N D s (nI d)) := by
  have h100 := hT.1
  intro D
  induction D with
  | zero => intro d h1 h2; omega
  | succ D ih =>
    intro d hD hd4 s p acc hp ha hR
    dsimp only
    rw [f_X5_readPart, x_next hT hR (by omega), cl_s, rPart]
    by_cases h1 : chr T p = 33
    · have hlt := chr_in hT h1 (by omega)
      unfold j_X5_readPart_23
      rw [if_pos (show nxI T p = 33 from (nx_eq hT (c := 33) (by omega)).mpr h1), if_pos h1]
      by_cases hd : d < 4
      · obtain ⟨hR1, f1⟩ := hR.one
        obtain ⟨a, b, c⟩ := part_ok hT D (d + 1) (p + 1) (by omega)
        obtain ⟨s2, e2, t2, q2, r2, f2⟩ := ih (d + 1) (by omega) (by omega) _ (p + 1) acc (by omega) (by omega) hR1
        dsimp only at e2
        rw [if_pos hd, if_pos (show nI d < 4 from nI_lt (b := 4) hd (by omega)), nm_d, if_neg (show ¬ nxI T p = 40 from fun z => by have := (nx_eq hT (c := 40) (by omega)).mp z; omega), hR.2.1, nI_1, nI_1, e2, cl_s]
        dsimp only
        cases hb : (rPart T D (d + 1) (p + 1)).1
        · rw [i0, if_neg (by decide)]
          exact ⟨s2, rfl, t2, q2, fun z => (by cases z), f1.tr f2⟩
        · obtain ⟨c1, c2⟩ := c hb
          obtain ⟨s3, e3, r3, f3, -⟩ := x_add (N := N) 1 (r2 hb) (by simp only [List.length_append, List.length_map]; omega)
          rw [i1, if_pos rfl, e3, cl_s]
          have e4 : acc ++ List.map tokX (rPart T D (d + 1) (p + 1)).2.2 ++ [1] = acc ++ List.map tokX ((rPart T D (d + 1) (p + 1)).2.2 ++ [0]) := by
            rw [List.map_append, List.append_assoc]; rfl
          rw [e4] at r3
          exact ⟨s3, rfl, r3.1, r3.2.1, fun _ => r3, (f1.tr f2).tr f3⟩
      · rw [if_neg hd, if_neg (show ¬ nI d < 4 from nI_nlt (b := 4) (by omega) (by omega))]
        exact ⟨s, rfl, hR.1, hR.2.1, fun z => (by cases z), fr5.rf s⟩
    rw [if_neg (show ¬ nxI T p = 33 from fun z => h1 ((nx_eq hT (c := 33) (by omega)).mp z)), if_neg h1]
    by_cases h4 : chr T p = 40
    · have hlt := chr_in hT h4 (by omega)
      have e40 : nxI T p = 40 := (nx_eq hT (c := 40) (by omega)).mpr h4
      unfold j_X5_readPart_23
      rw [if_pos e40, if_pos h4]
      by_cases hd : d < 4
      · obtain ⟨hR1, f1⟩ := hR.one
        have hPk := part_ok hT D (d + 1)
        obtain ⟨a, b, c⟩ := (either_ok hT hPk).1 (p + 1) (by omega)
        obtain ⟨s2, e2, t2, q2, r2, f2⟩ := x_either (v1 := nI (d + 1)) hN hT hPk (ih (d + 1) (by omega) (by omega)) _ (p + 1) acc (by omega) (by omega) hR1
        dsimp only at e2
        rw [if_pos hd, if_pos (show nI d < 4 from nI_lt (b := 4) hd (by omega)), nm_d, if_pos e40, hR.2.1, nI_1, nI_1, e2, cl_s]
        dsimp only
        cases hb : (rEither (rPart T D (d + 1)) T (p + 1)).1
        · rw [i0, if_neg (by decide)]
          exact ⟨s2, rfl, t2, q2, fun z => (by cases z), f1.tr f2⟩
        · obtain ⟨s3, e3, r3, f3, -⟩ := x_sign (N := N) hT (r2 hb) (by omega) 41 (by omega)
          have e3' : f_X5_readSign N s2 41 = _ := e3
          rw [i1, if_pos rfl, e3', cl_s]
          dsimp only
          by_cases h5 : chr T (rEither (rPart T D (d + 1)) T (p + 1)).2.1 = 41
          · rw [if_pos h5] at r3 ⊢
            rw [show decide (chr T (rEither (rPart T D (d + 1)) T (p + 1)).2.1 = 41) = true from by simp [h5], i1]
            exact ⟨s3, rfl, r3.1, r3.2.1, fun _ => r3, (f1.tr f2).tr f3⟩
          · rw [if_neg h5] at r3 ⊢
            rw [show decide (chr T (rEither (rPart T D (d + 1)) T (p + 1)).2.1 = 41) = false from by simp [h5], i0]
            exact ⟨s3, rfl, r3.1, r3.2.1, fun z => (by cases z), (f1.tr f2).tr f3⟩
      · rw [if_neg hd, if_neg (show ¬ nI d < 4 from nI_nlt (b := 4) (by omega) (by omega))]
        exact ⟨s, rfl, hR.1, hR.2.1, fun z => (by cases z), fr5.rf s⟩
    · rw [if_neg (show ¬ nxI T p = 40 from fun z => h4 ((nx_eq hT (c := 40) (by omega)).mp z)), if_neg h4]
      obtain ⟨s2, e2, t2, q2, r2, f2⟩ := x_test hN hT hR (by omega) ha
      rw [e2, cl_s, cb_t (b2i_01 _)]
      exact ⟨s2, rfl, t2, q2, r2, f2⟩
end
