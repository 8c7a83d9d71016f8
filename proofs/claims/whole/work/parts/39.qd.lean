/-! ===== pure layer QD: a street, as both read it ===== -/
def rSt (T : List Nat) : Nat → Nat → List Cz → Bool × Nat × List Cz
  | 0, p, _ => (false, p, [])
  | k + 1, p, cs => if (rClause T p).1 = true then (if T.length ≤ (rClause T p).2.1 then (true, (rClause T p).2.1, cs ++ [(rClause T p).2.2]) else if k = 0 then (false, (rClause T p).2.1, []) else if chr T (rClause T p).2.1 = 59 then rSt T k ((rClause T p).2.1 + 1) (cs ++ [(rClause T p).2.2]) else (false, (rClause T p).2.1, [])) else (false, (rClause T p).2.1, [])
def csX : List Cz → List Int32
  | [] => []
  | z :: l => clX z ++ csX l
def csR : List Cz → List Int32
  | [] => []
  | z :: l => clR z ++ csR l
theorem csX_app (cs : List Cz) (z : Cz) : csX (cs ++ [z]) = csX cs ++ clX z := by
  induction cs with
  | nil => simp [csX]
  | cons y l ih => rw [List.cons_append, csX, csX, ih, List.append_assoc]
theorem csR_app (cs : List Cz) (z : Cz) : csR (cs ++ [z]) = csR cs ++ clR z := by
  induction cs with
  | nil => simp [csR]
  | cons y l ih => rw [List.cons_append, csR, csR, ih, List.append_assoc]
def needF (cs : List Cz) : Nat := cs.foldl (fun a z => if z.1 = 2 then z.2.1 else a) 1
def holdF (cs : List Cz) : Nat := cs.foldl (fun a z => if z.1 = 3 then max 1 z.2.1 else a) 6
theorem needF_app (cs : List Cz) (z : Cz) : needF (cs ++ [z]) = if z.1 = 2 then z.2.1 else needF cs := by unfold needF; rw [List.foldl_append]; rfl
theorem holdF_app (cs : List Cz) (z : Cz) : holdF (cs ++ [z]) = if z.1 = 3 then max 1 z.2.1 else holdF cs := by unfold holdF; rw [List.foldl_append]; rfl
theorem clX_len (z : Cz) : (clX z).length ≤ z.2.2.length + 1 := by unfold clX; split <;> simp
theorem clR_len (z : Cz) : (clR z).length ≤ z.2.2.length := by unfold clR; split <;> simp
section
variable {N : Nat} {T : List Nat}
theorem x_streetL (hN : 1000 ≤ N) (hT : TxOk T) : ∀ (k v n : Nat) (s : St) (p : Nat) (cs : List Cz), v + k = 11 → 1 ≤ k → k < n → p ≤ T.length → (csX cs).length ≤ p → R5 s T p (csX cs) → s 4 0 = nI (needF cs) → s 5 0 = nI (holdF cs) → ∃ s', l_X5_readStreet_23 N n s (nI v) = some (b2i (rSt T k p cs).1, s') ∧ s' 6 0 = nI (rSt T k p cs).2.1 ∧ ((rSt T k p cs).1 = true → R5 s' T (rSt T k p cs).2.1 (csX (rSt T k p cs).2.2) ∧ s' 4 0 = nI (needF (rSt T k p cs).2.2) ∧ s' 5 0 = nI (holdF (rSt T k p cs).2.2)) ∧ ∀ j, j ≠ 2 → j ≠ 3 → j ≠ 4 → j ≠ 5 → j ≠ 6 → j ≠ 7 → s' j = s j := by
  have h100 := hT.1
  intro k
  induction k with
  | zero => intro v n s p cs hv hk; omega
  | succ k ih =>
    intro v n s p cs hv hk hn hp hl hR h4 h5
    obtain ⟨n, rfl⟩ : ∃ m, n = m + 1 := ⟨n - 1, by omega⟩
    obtain ⟨s1, e1, t1, q1, r1, f1⟩ := x_clause (N := N) hN hT hR hp hl
    obtain ⟨k1, k2, k3⟩ := clause_ok hT hp
    rw [l_X5_readStreet_23, if_neg (show ¬ (10 : Int32) < nI v from nI_nlt (a := 10) (by omega) (by omega)), e1, cl_s, rSt]
    dsimp only
    cases hb : (rClause T p).1
    · rw [i0, if_neg (show ¬ false = true from by decide)]
      exact ⟨s1, rfl, q1, fun z => (by cases z), f1⟩
    obtain ⟨r2, n4, n5⟩ := r1 hb
    obtain ⟨b1, b2, b3⟩ := k3 hb
    have hcl := clX_len (rClause T p).2.2
    rw [← csX_app] at r2
    have e4 : s1 4 0 = nI (needF (cs ++ [(rClause T p).2.2])) := by
      rw [n4, needF_app, h4]; split <;> rfl
    have e5 : s1 5 0 = nI (holdF (cs ++ [(rClause T p).2.2])) := by
      rw [n5, holdF_app, h5]; split <;> rfl
    rw [i1, if_pos rfl]
    by_cases hend : T.length ≤ (rClause T p).2.1
    · rw [if_neg (show ¬ s1 6 0 < s1 1 0 from by rw [q1, t1.1]; exact nI_nlt hend (by omega)), if_pos hend]
      exact ⟨s1, rfl, q1, fun _ => ⟨r2, e4, e5⟩, f1⟩
    rw [if_pos (show s1 6 0 < s1 1 0 from by rw [q1, t1.1]; exact nI_lt (by omega) (by omega)), if_neg hend]
    by_cases hk0 : k = 0
    · rw [if_pos (show nI v = 10 from by rw [show v = 10 by omega]; rfl), if_pos hk0]
      exact ⟨s1, rfl, q1, fun z => (by cases z), f1⟩
    rw [if_neg (show ¬ nI v = 10 from fun z => by have := (nI_eq (b := 10) (by omega) (by omega)).mp z; omega), if_neg hk0]
    obtain ⟨s2, e2, r3, f2, -⟩ := x_sign (N := N) hT r2 (by omega) 59 (by omega)
    have e2' : f_X5_readSign N s1 59 = _ := e2
    have frs : ∀ j, j ≠ 2 → j ≠ 3 → j ≠ 4 → j ≠ 5 → j ≠ 6 → j ≠ 7 → s2 j = s j := fun j a b c d e f => by rw [f2 j a b e f]; exact f1 j a b c d e f
    rw [e2', cl_s]
    dsimp only
    by_cases h59 : chr T (rClause T p).2.1 = 59
    · rw [if_pos h59] at r3 ⊢
      rw [show decide (chr T (rClause T p).2.1 = 59) = true from decide_eq_true h59, i1, nm_d, nI_1]
      obtain ⟨s3, e3, q3, g3, f3⟩ := ih (v + 1) n s2 ((rClause T p).2.1 + 1) (cs ++ [(rClause T p).2.2]) (by omega) (by omega) (by omega) (by omega) (by rw [csX_app, List.length_append]; omega) r3 (by rw [f2 4 (by decide) (by decide) (by decide) (by decide)]; exact e4) (by rw [f2 5 (by decide) (by decide) (by decide) (by decide)]; exact e5)
      exact ⟨s3, e3, q3, g3, fun j a b c d e f => by rw [f3 j a b c d e f]; exact frs j a b c d e f⟩
    · rw [if_neg h59] at r3 ⊢
      rw [show decide (chr T (rClause T p).2.1 = 59) = false from decide_eq_false h59, i0]
      exact ⟨s2, rfl, r3.2.1, fun z => (by cases z), frs⟩
theorem x_readStreet {s : St} (hN : 1000 ≤ N) (hT : TxOk T) (hX : TX s T) : ∃ s', f_X5_readStreet N s = some (b2i (rSt T 10 0 []).1, s') ∧ s' 6 0 = nI (rSt T 10 0 []).2.1 ∧ ((rSt T 10 0 []).1 = true → R5 s' T (rSt T 10 0 []).2.1 (csX (rSt T 10 0 []).2.2) ∧ s' 4 0 = nI (needF (rSt T 10 0 []).2.2) ∧ s' 5 0 = nI (holdF (rSt T 10 0 []).2.2)) ∧ ∀ j, j ≠ 2 → j ≠ 3 → j ≠ 4 → j ≠ 5 → j ≠ 6 → j ≠ 7 → s' j = s j := by
  unfold f_X5_readStreet
  rw [nm_d, nm_d, nm_d, nm_d]
  obtain ⟨h1, h2⟩ := hX
  obtain ⟨s', e, q, g, f⟩ := x_streetL (N := N) hN hT 10 1 N (sI (sI (sI (sI s 6 0) 3 0) 4 1) 5 6) 0 [] rfl (by omega) (by omega) (by omega) (by simp [csX]) ⟨⟨by simp (disch := omega) only [sI_n]; exact h1, fun i c hc => by simp (disch := omega) only [sI_n]; exact h2 i c hc⟩, by simp (disch := omega) only [sI_n, sI_s]; rfl, by simp (disch := omega) only [sI_n, sI_s]; rfl, fun i z hz => by simp [csX] at hz⟩ (by simp (disch := omega) only [sI_n, sI_s]; rfl) (by simp (disch := omega) only [sI_s]; rfl)
  exact ⟨s', e, q, g, fun j a b c d e f' => by rw [f j a b c d e f']; simp (disch := omega) only [sI_n]⟩
/-- what reading street f may change in the reference -/
def frS (f : Nat) (μ μ' : St) : Prop := (∀ k, (k < 11 ∨ k = 13 ∨ 23 < k) → μ' k = μ k) ∧ (∀ i, i ≠ f → μ' 14 i = μ 14 i) ∧ (∀ i, i < 100 * f → μ' 19 i = μ 19 i) ∧ ∀ i, (i < 10 * f ∨ 10 * f + 10 ≤ i) → μ' 15 i = μ 15 i ∧ μ' 16 i = μ 16 i ∧ μ' 17 i = μ 17 i ∧ μ' 18 i = μ 18 i
theorem frS.rf (f : Nat) (μ : St) : frS f μ μ := ⟨fun _ _ => rfl, fun _ _ => rfl, fun _ _ => rfl, fun _ _ => ⟨rfl, rfl, rfl, rfl⟩⟩
theorem frS.tr {f : Nat} {a b d : St} (h1 : frS f a b) (h2 : frS f b d) : frS f a d := ⟨fun k hk => (h2.1 k hk).trans (h1.1 k hk), fun i hi => (h2.2.1 i hi).trans (h1.2.1 i hi), fun i hi => (h2.2.2.1 i hi).trans (h1.2.2.1 i hi), fun i hi => ⟨(h2.2.2.2 i hi).1.trans (h1.2.2.2 i hi).1, (h2.2.2.2 i hi).2.1.trans (h1.2.2.2 i hi).2.1, (h2.2.2.2 i hi).2.2.1.trans (h1.2.2.2 i hi).2.2.1, (h2.2.2.2 i hi).2.2.2.trans (h1.2.2.2 i hi).2.2.2⟩⟩
theorem frC.s {f q : Nat} {μ μ' : St} (hq : q < 10) (h : frC (100 * f) (10 * f + q) μ μ') : frS f μ μ' := ⟨fun k hk => h.1 k (by omega), fun i _ => by rw [h.1 14 (by omega)], h.2.1, fun i hi => h.2.2 i (by omega)⟩
theorem CLA.mono {μ μ' : St} {c B : Nat} {acc x : List Int32} {z : Cz} (h : CLA μ c B acc z) (h15 : μ' 15 c = μ 15 c) (h16 : μ' 16 c = μ 16 c) (h17 : μ' 17 c = μ 17 c) (h18 : μ' 18 c = μ 18 c) : CLA μ' c B (acc ++ x) z := by
  obtain ⟨a, b, e⟩ := h
  refine ⟨by rw [h15]; exact a, by rw [h16]; exact b, fun hz => ?_⟩
  obtain ⟨o, o1, o2, o3, o4⟩ := e hz
  exact ⟨o, by rw [List.length_append]; omega, by rw [h17]; exact o2, by rw [h18]; exact o3, fun i t ht => by
    have := o4 i t ht
    rw [List.getElem?_append_left (glt this)]; exact this⟩
theorem m_streetL {f : Nat} (hN : 1000 ≤ N) (hT : TxOk T) (hf6 : f < 6) : ∀ (k n : Nat) (μ : St) (p : Nat) (cs : List Cz), cs.length + k = 10 → 1 ≤ k → k < n → p ≤ T.length → (csR cs).length ≤ p → LET μ → RS0 μ T p (100 * f) (csR cs) → (∀ (j : Nat) (z : Cz), cs[j]? = some z → CLA μ (10 * f + j) (100 * f) (csR cs) z) → ∃ μ', l_X8_goesText_15 N (nI f) n μ (nI cs.length) = some (b2i (rSt T k p cs).1, μ') ∧ μ' 11 0 = nI (rSt T k p cs).2.1 ∧ ((rSt T k p cs).1 = true → (rSt T k p cs).2.2.length ≤ 10 ∧ (csR (rSt T k p cs).2.2).length ≤ 100 ∧ μ' 14 f = nI (rSt T k p cs).2.2.length ∧ (∀ (i : Nat) (z : Int32), (csR (rSt T k p cs).2.2)[i]? = some z → μ' 19 (100 * f + i) = z) ∧ ∀ (j : Nat) (z : Cz), (rSt T k p cs).2.2[j]? = some z → CLA μ' (10 * f + j) (100 * f) (csR (rSt T k p cs).2.2) z) ∧ frS f μ μ' := by
  have h100 := hT.1
  intro k
  induction k with
  | zero => intro n μ p cs hc hk; omega
  | succ k ih =>
    intro n μ p cs hc hk hn hp hl hL hR hA
    obtain ⟨n, rfl⟩ : ∃ m, n = m + 1 := ⟨n - 1, by omega⟩
    obtain ⟨μ1, e1, q1, r1, f1⟩ := m_clause (N := N) (c := 10 * f + cs.length) hN hT hL hR (by omega) (by omega) hl hp
    obtain ⟨k1, k2, k3⟩ := clause_ok hT hp
    have F1 := frC.s (f := f) (q := cs.length) (by omega) f1
    have ec : 10 * nI f + nI cs.length = nI (10 * f + cs.length) := by rw [show (10 : Int32) = nI 10 from rfl, pk_mul, nI_add]
    rw [l_X8_goesText_15, ec, e1, cl_s, rSt]
    dsimp only
    cases hb : (rClause T p).1
    · rw [i0, if_neg (show ¬ false = true from by decide)]
      exact ⟨μ1, rfl, q1, fun z => (by cases z), F1⟩
    obtain ⟨R1, A1⟩ := r1 hb
    obtain ⟨b1, b2, b3⟩ := k3 hb
    have hcl := clR_len (rClause T p).2.2
    rw [← csR_app] at R1 A1
    have hln : (csR (cs ++ [(rClause T p).2.2])).length ≤ (rClause T p).2.1 := by rw [csR_app, List.length_append]; omega
    rw [i1, if_pos rfl, nm_d, ck_n hf6 (by omega), nm_d, nI_clamp (by omega), nI_1]
    generalize hμ2 : sA μ1 14 (upd (μ1 14) f (nI (cs.length + 1))) = μ2
    have g2 : ∀ j, j ≠ 14 → μ2 j = μ1 j := fun j hj => by rw [← hμ2, sA_n _ _ hj]
    have F2 : frS f μ1 μ2 := ⟨fun j hj => g2 j (by omega), fun i hi => by rw [← hμ2, sA_s, upd_n hi], fun i _ => by rw [g2 19 (by decide)], fun i _ => ⟨by rw [g2 15 (by decide)], by rw [g2 16 (by decide)], by rw [g2 17 (by decide)], by rw [g2 18 (by decide)]⟩⟩
    have c14 : μ2 14 f = nI (cs.length + 1) := by rw [← hμ2, sA_s, upd_s]
    have R2 : RS0 μ2 T (rClause T p).2.1 (100 * f) (csR (cs ++ [(rClause T p).2.2])) := R1.go (by rw [g2 11 (by decide)]; exact R1.2.1) (fun j hj => g2 j (by omega))
    have A2 : ∀ (j : Nat) (z : Cz), (cs ++ [(rClause T p).2.2])[j]? = some z → CLA μ2 (10 * f + j) (100 * f) (csR (cs ++ [(rClause T p).2.2])) z := by
      intro j z hz
      rcases ga hz with ⟨hj, w⟩ | ⟨hj, w⟩
      · have hne : 10 * f + j ≠ 10 * f + cs.length := by omega
        obtain ⟨u1, u2, u3, u4⟩ := f1.2.2 _ hne
        rw [csR_app]
        exact (hA j z w).mono (by rw [g2 15 (by decide)]; exact u1) (by rw [g2 16 (by decide)]; exact u2) (by rw [g2 17 (by decide)]; exact u3) (by rw [g2 18 (by decide)]; exact u4)
      · subst hj; subst w
        have := A1.mono (μ' := μ2) (x := []) (by rw [g2 15 (by decide)]) (by rw [g2 16 (by decide)]) (by rw [g2 17 (by decide)]) (by rw [g2 18 (by decide)])
        rw [List.append_nil] at this; exact this
    rw [R2.2.1, R2.1.1]
    by_cases hend : T.length ≤ (rClause T p).2.1
    · have he : (rClause T p).2.1 = T.length := by omega
      rw [if_pos (by rw [he]), if_pos hend]
      exact ⟨μ2, rfl, R2.2.1, fun _ => ⟨by show (cs ++ [(rClause T p).2.2]).length ≤ 10; rw [List.length_append]; simp only [List.length_cons, List.length_nil]; omega, by show (csR (cs ++ [(rClause T p).2.2])).length ≤ 100; omega, by show μ2 14 f = nI (cs ++ [(rClause T p).2.2]).length; rw [c14, List.length_append]; rfl, R2.2.2.2, A2⟩, F1.tr F2⟩
    rw [if_neg (fun z => hend (by have := (nI_eq (by omega) (by omega)).mp z; omega)), if_neg hend]
    by_cases hk0 : k = 0
    · rw [if_pos (show nI (cs.length + 1) = 10 from by rw [show cs.length + 1 = 10 by omega]; rfl), if_pos hk0]
      exact ⟨μ2, rfl, R2.2.1, fun z => (by cases z), F1.tr F2⟩
    rw [if_neg (show ¬ nI (cs.length + 1) = 10 from fun z => by have := (nI_eq (b := 10) (by omega) (by omega)).mp z; omega), if_neg hk0]
    have e2 : f_X8_takes N μ2 59 = _ := m_takes (N := N) hT R2.1 R2.2.1 (by omega) 59 (by omega)
    rw [e2, cl_s]
    dsimp only
    by_cases h59 : chr T (rClause T p).2.1 = 59
    · rw [if_pos h59, if_pos h59, show decide (chr T (rClause T p).2.1 = 59) = true from decide_eq_true h59, i1]
      have g3 : ∀ j, j ≠ 11 → sI μ2 11 (nI ((rClause T p).2.1 + 1)) j = μ2 j := fun j hj => sI_n _ _ hj
      have F3 : frS f μ2 (sI μ2 11 (nI ((rClause T p).2.1 + 1))) := ⟨fun j hj => g3 j (by omega), fun i _ => by rw [g3 14 (by decide)], fun i _ => by rw [g3 19 (by decide)], fun i _ => ⟨by rw [g3 15 (by decide)], by rw [g3 16 (by decide)], by rw [g3 17 (by decide)], by rw [g3 18 (by decide)]⟩⟩
      have hlen : (cs ++ [(rClause T p).2.2]).length = cs.length + 1 := by simp
      obtain ⟨μ4, e4, q4, r4, f4⟩ := ih n (sI μ2 11 (nI ((rClause T p).2.1 + 1))) ((rClause T p).2.1 + 1) (cs ++ [(rClause T p).2.2]) (by omega) (by omega) (by omega) (by omega) (by omega) (fun i hi => by rw [g3 24 (by decide), g2 24 (by decide), f1.1 24 (by omega)]; exact hL i hi) (R2.go (by rw [sI_s]) (fun j hj => g3 j (by omega))) (fun j z hz => by
        have := (A2 j z hz).mono (μ' := sI μ2 11 (nI ((rClause T p).2.1 + 1))) (x := []) (by rw [g3 15 (by decide)]) (by rw [g3 16 (by decide)]) (by rw [g3 17 (by decide)]) (by rw [g3 18 (by decide)])
        rw [List.append_nil] at this; exact this)
      rw [hlen] at e4
      exact ⟨μ4, e4, q4, r4, ((F1.tr F2).tr F3).tr f4⟩
    · rw [if_neg h59, if_neg h59, show decide (chr T (rClause T p).2.1 = 59) = false from decide_eq_false h59, i0]
      exact ⟨μ2, rfl, R2.2.1, fun z => (by cases z), F1.tr F2⟩
/-- the reference's street f is cs -/
def Dt (μ : St) (f : Nat) (cs : List Cz) : Prop := cs.length ≤ 10 ∧ μ 14 f = nI cs.length ∧ ∀ (j : Nat) (z : Cz), cs[j]? = some z → μ 15 (10 * f + j) = nI z.1 ∧ μ 16 (10 * f + j) = nI z.2.1 ∧ (z.1 ≤ 1 → ∃ o : Nat, o + z.2.2.length ≤ 100 ∧ μ 17 (10 * f + j) = nI (100 * f + o) ∧ μ 18 (10 * f + j) = nI (100 * f + o + z.2.2.length) ∧ ∀ i t : Nat, z.2.2[i]? = some t → μ 19 (100 * f + (o + i)) = tokR t)
theorem Dt.fr {μ μ' : St} {f g : Nat} {cs : List Cz} (h : Dt μ g cs) (hf : frS f μ μ') (hg : g < f) : Dt μ' g cs := by
  obtain ⟨h1, h2, h3⟩ := h
  refine ⟨h1, by rw [hf.2.1 g (by omega)]; exact h2, fun j z hz => ?_⟩
  have hj := glt hz
  obtain ⟨a, b, e⟩ := h3 j z hz
  obtain ⟨u1, u2, u3, u4⟩ := hf.2.2.2 (10 * g + j) (by omega)
  refine ⟨by rw [u1]; exact a, by rw [u2]; exact b, fun hz1 => ?_⟩
  obtain ⟨o, o1, o2, o3, o4⟩ := e hz1
  exact ⟨o, o1, by rw [u3]; exact o2, by rw [u4]; exact o3, fun i t ht => by
    have := glt ht
    rw [hf.2.2.1 _ (by omega)]; exact o4 i t ht⟩
theorem m_goesText {f : Nat} {μ : St} (hN : 1000 ≤ N) (hT : TxOk T) (hf6 : f < 6) (hX : TXm μ T) (hL : LET μ) : ∃ μ', f_X8_goesText N μ (nI f) = some (b2i (rSt T 10 0 []).1, μ') ∧ μ' 11 0 = nI (rSt T 10 0 []).2.1 ∧ ((rSt T 10 0 []).1 = true → Dt μ' f (rSt T 10 0 []).2.2) ∧ frS f μ μ' := by
  unfold f_X8_goesText
  rw [nm_d, nm_d]
  have e100 : 100 * nI f = nI (100 * f) := by rw [show (100 : Int32) = nI 100 from rfl, pk_mul]
  rw [e100]
  obtain ⟨h1, h2⟩ := hX
  have g0 : ∀ k, k ≠ 11 → k ≠ 21 → sI (sI μ 11 0) 21 (nI (100 * f)) k = μ k := fun k a b => by rw [sI_n _ _ b, sI_n _ _ a]
  obtain ⟨μ', e, q, r, f'⟩ := m_streetL (N := N) hN hT hf6 10 N (sI (sI μ 11 0) 21 (nI (100 * f))) 0 [] rfl (by omega) (by omega) (by omega) (by simp [csR]) (fun i hi => by rw [g0 24 (by decide) (by decide)]; exact hL i hi) ⟨⟨by rw [g0 10 (by decide) (by decide)]; exact h1, fun i c hc => by rw [g0 13 (by decide) (by decide)]; exact h2 i c hc⟩, by rw [sI_n _ _ (by decide), sI_s]; rfl, by rw [sI_s]; rfl, fun i z hz => by simp [csR] at hz⟩ (fun j z hz => by simp at hz)
  refine ⟨μ', e, q, fun z => ?_, ⟨fun k hk => by rw [f'.1 k hk, g0 k (by omega) (by omega)], fun i hi => by rw [f'.2.1 i hi, g0 14 (by decide) (by decide)], fun i hi => by rw [f'.2.2.1 i hi, g0 19 (by decide) (by decide)], fun i hi => ?_⟩⟩
  · obtain ⟨r1, r2, r3, r4, r5⟩ := r z
    refine ⟨r1, r3, fun j y hy => ?_⟩
    obtain ⟨a, b, d⟩ := r5 j y hy
    refine ⟨a, b, fun hy1 => ?_⟩
    obtain ⟨o, o1, o2, o3, o4⟩ := d hy1
    exact ⟨o, by omega, o2, o3, fun i t ht => r4 _ _ (o4 i t ht)⟩
  · obtain ⟨u1, u2, u3, u4⟩ := f'.2.2.2 i hi
    rw [g0 15 (by decide) (by decide)] at u1
    rw [g0 16 (by decide) (by decide)] at u2
    rw [g0 17 (by decide) (by decide)] at u3
    rw [g0 18 (by decide) (by decide)] at u4
    exact ⟨u1, u2, u3, u4⟩
end
