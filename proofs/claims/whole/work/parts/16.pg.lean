/-! ===== pure layer G: the longest row, in the reference ===== -/
theorem i0 {α : Type} (a b : α) : (if b2i false = 0 then a else b) = a := rfl
theorem i1 {α : Type} (a b : α) : (if b2i true = 0 then a else b) = b := rfl
/-- one step over thing t, with the row so far -/
def astep (C : Cr) (S : Sn) (d : Nat) (r : List Nat → List Nat) (H pre : List Nat) (acc : List Nat) (t : Nat) : List Nat := if goesS C S H d t = true then longer acc (pre ++ t :: r (H ++ [t])) else acc
theorem astep_b (C : Cr) (S : Sn) (d : Nat) (r : List Nat → List Nat) (H pre acc : List Nat) : ∀ (l p : List Nat), l.foldl (astep C S d r H pre) (longer acc (pre ++ p)) = longer acc (pre ++ l.foldl (bstep C S d r H) p) := by
  intro l
  induction l with
  | nil => intro p; rfl
  | cons t l ih =>
    intro p
    rw [List.foldl_cons, List.foldl_cons, ← ih]
    congr 1
    unfold astep bstep
    by_cases h : goesS C S H d t = true
    · rw [if_pos h, if_pos h, longer_app, longer_assoc]
    · rw [if_neg h, if_neg h]
/-- at depth none goes any more -/
theorem none_goes {C : Cr} {S : Sn} {H : List Nat} {d t : Nat} (hC : Wf C) (hH : WfH C H d) (ht : t < cT C) (h6 : 6 ≤ H.length) : goesS C S H d t = false := by
  cases h : goesS C S H d t
  · rfl
  · have := hH.lt ht (goes_new h).1
    have := hC.1
    omega
theorem foldl_none {C : Cr} {S : Sn} {H : List Nat} {d : Nat} (hC : Wf C) (hH : WfH C H d) (h6 : 6 ≤ H.length) {r : List Nat → List Nat} : ∀ (l : List Nat), (∀ t ∈ l, t < cT C) → l.foldl (bstep C S d r H) [] = [] := by
  intro l
  induction l with
  | nil => intro _; rfl
  | cons t l ih =>
    intro hl
    rw [List.foldl_cons]
    have : bstep C S d r H [] t = [] := by unfold bstep; rw [if_neg (by rw [none_goes hC hH (hl t List.mem_cons_self) h6]; decide)]
    rw [this]
    exact ih (fun u hu => hl u (List.mem_cons_of_mem _ hu))
/-- the search's rows in the reference: tried (with j on top), best -/
def MR (μ : St) (pre : List Nat) (j : Nat) : Prop := (∀ i u : Nat, pre[i]? = some u → μ 29 i = nI u) ∧ μ 29 pre.length = nI j
def MB (μ : St) (acc : List Nat) : Prop := ∀ i u : Nat, acc[i]? = some u → μ 30 i = nI u
def frM (μ μ' : St) : Prop := ∀ k, k ≠ 1 → k ≠ 7 → k ≠ 25 → k ≠ 29 → k ≠ 30 → μ' k = μ k
theorem frM.tr {a b c : St} (h1 : frM a b) (h2 : frM b c) : frM a c := fun k x y z u v => (h2 k x y z u v).trans (h1 k x y z u v)
theorem frM.mt {μ μ' : St} {S : Sn} (h : MT μ S) (hf : frM μ μ') : MT μ' S := h.mono (fun k hk => hf k (by omega) (by omega) (by omega) (by omega) (by omega))
theorem MS.other {μ μ' : St} {C : Cr} {H : List Nat} {d : Nat} (h : MS μ C H d) (e : ∀ k, k ≤ 7 → μ' k = μ k) : MS μ' C H d := by
  unfold MS at h ⊢
  rw [e 0 (by omega), e 1 (by omega), e 2 (by omega), e 3 (by omega), e 4 (by omega), e 5 (by omega), e 6 (by omega), e 7 (by omega)]
  exact h
/-- the copy of the row had since the search began -/
theorem m_copy {N : Nat} {H0 pre : List Nat} {C : Cr} {d : Nat} (hC : Wf C) (hH : WfH C (H0 ++ pre) d) : ∀ (j i n : Nat) (μ : St), i + j = pre.length → j < n → MS μ C (H0 ++ pre) d → (∀ x u : Nat, x < i → pre[x]? = some u → μ 30 x = nI u) →
    ∃ μ', (∀ K : St → Int32 → Int32 → Option (Int32 × St), l_X8_mostNow_102 N K (nI H0.length) (nI pre.length) (nI pre.length) n μ (nI i) = K μ' (nI pre.length) (nI pre.length)) ∧ MB μ' pre ∧ ∀ k, k ≠ 30 → μ' k = μ k := by
  have hT := hC.1
  have hl := hH.len
  simp only [List.length_append] at hl
  intro j
  induction j with
  | zero =>
    intro i n μ hi hn hM hb
    obtain ⟨n, rfl⟩ : ∃ m, n = m + 1 := ⟨n - 1, by omega⟩
    refine ⟨μ, fun K => by rw [l_X8_mostNow_102, if_pos (nI_le (by omega) (by omega))], fun x u hu => hb x u (by have := (List.getElem?_eq_some_iff.mp hu).1; omega) hu, fun _ _ => rfl⟩
  | succ j ih =>
    intro i n μ hi hn hM hb
    obtain ⟨n, rfl⟩ : ∃ m, n = m + 1 := ⟨n - 1, by omega⟩
    obtain ⟨u, hu, -⟩ := idx_get (H := pre) (i := i) (by omega)
    have hu2 : (H0 ++ pre)[H0.length + i]? = some u := by
      rw [List.getElem?_append_right (by omega), Nat.add_sub_cancel_left]; exact hu
    obtain ⟨μ', e, hb', hf⟩ := ih (i + 1) n (sA μ 30 (upd (μ 30) i (nI u))) (by omega) (by omega) (hM.other (fun k hk => sA_n _ _ (by omega))) (fun x w hx hw => by
      rw [sA_s]
      by_cases hxi : x = i
      · rw [hxi, upd_s]; rw [hxi, hu] at hw; rw [Option.some.inj hw]
      · rw [upd_n hxi]; exact hb x w (by omega) hw)
    exact ⟨μ', fun K => by rw [l_X8_mostNow_102, if_neg (nI_ge (by omega) (by omega)), nI_add, ck_n (by omega) (by omega), ck_n (by omega) (by omega), nm_d, nm_d, nI_1, nI_clamp (by omega), nI_clamp (by omega), hM.2.2.2.2.2.2.1 _ u hu2]; exact e K, hb', fun k hk => by rw [hf k hk, sA_n _ _ hk]⟩
/-- the rows behind a thing, f deep -/
def rlv (C : Cr) (S : Sn) (d : Nat) : Nat → List Nat → List Nat
  | 0 => bestR C S d 0
  | f + 1 => bestR C S d f
/-- how many steps a thing costs, f deep -/
def cst : Nat → Nat
  | 0 => 1
  | f + 1 => 2 + 6 * cst f
theorem m_level {N : Nat} {S : Sn} {C : Cr} {d : Nat} (hN : 1000 ≤ N) (hC : Wf C) (hO : SnOk S) (H0 : List Nat) :
    ∀ (f : Nat) (pre : List Nat), pre.length + f = 6 → WfH C (H0 ++ pre) d → ∀ (r j : Nat) (acc : List Nat) (μ : St), j + r = cT C → MS μ C (H0 ++ pre) d → MT μ S → MR μ pre j → MB μ acc → pre.length ≤ acc.length → acc.length ≤ 6 →
      ∃ (c : Nat) (μ' : St), c ≤ r * cst f ∧ (∀ n : Nat, l_X8_mostNow_16 N (nI H0.length) (n + c) μ (nI acc.length) (nI pre.length) = l_X8_mostNow_16 N (nI H0.length) n μ' (nI (((List.range (cT C)).drop j).foldl (astep C S d (rlv C S d f) (H0 ++ pre) pre) acc).length) (nI pre.length)) ∧
        MS μ' C (H0 ++ pre) d ∧ MR μ' pre (cT C) ∧ MB μ' (((List.range (cT C)).drop j).foldl (astep C S d (rlv C S d f) (H0 ++ pre) pre) acc) ∧ frM μ μ' ∧ (((List.range (cT C)).drop j).foldl (astep C S d (rlv C S d f) (H0 ++ pre) pre) acc).length ≤ 6 := by
  have hT := hC.1
  intro f
  induction f with
  | zero =>
    intro pre hp hH r
    induction r with
    | zero =>
      intro j acc μ hj hM hS hR hB hpa ha
      have : j = cT C := by omega
      subst this
      refine ⟨0, μ, by omega, fun n => ?_, hM, hR, ?_, fun _ _ _ _ _ _ => rfl, ?_⟩ <;> simp [List.drop_eq_nil_of_le, hB, ha]
    | succ r ih =>
      intro j acc μ hj hM hS hR hB hpa ha
      have hng : goesS C S (H0 ++ pre) d j = false := none_goes hC hH (by omega) (by simp; omega)
      obtain ⟨g, hg⟩ := m_goes (N := N) (t := j) hN hC hH hM (by omega) hS
      rw [hng] at hg
      have hdrop : (List.range (cT C)).drop j = j :: (List.range (cT C)).drop (j + 1) := drop_cons (by simp; omega) (by rw [List.getElem?_range (by omega)])
      have hfold : ((List.range (cT C)).drop j).foldl (astep C S d (rlv C S d 0) (H0 ++ pre) pre) acc = ((List.range (cT C)).drop (j + 1)).foldl (astep C S d (rlv C S d 0) (H0 ++ pre) pre) acc := by
        rw [hdrop, List.foldl_cons]
        congr 1
        unfold astep; rw [if_neg (by rw [hng]; decide)]
      obtain ⟨c, μ', hc, e, h1, h2, h3, h4, h5⟩ := ih (j + 1) acc (sA (sA μ 25 g) 29 (upd (sA μ 25 g 29) pre.length (sA μ 25 g 29 pre.length + 1))) (by omega) ((hM.t25 g).other (fun k hk => sA_n _ _ (by omega))) ((hS.t25 g).mono (fun k hk => sA_n _ _ (by omega)))
        ⟨fun i u hu => by
          rw [sA_s, upd_n (by have := (List.getElem?_eq_some_iff.mp hu).1; omega), sA_n _ _ (show 29 ≠ 25 by decide)]; exact hR.1 i u hu, by
          rw [sA_s, upd_s, sA_n _ _ (show 29 ≠ 25 by decide), hR.2, nI_1]⟩ (fun i u hu => by rw [sA_n _ _ (show 30 ≠ 29 by decide), sA_n _ _ (show 30 ≠ 25 by decide)]; exact hB i u hu) hpa ha
      refine ⟨c + 1, μ', by simp only [cst] at hc ⊢; omega, fun n => ?_, h1, h2, by rw [hfold]; exact h3, fun k a1 a2 a3 a4 a5 => by rw [h4 k a1 a2 a3 a4 a5, sA_n _ _ a4, sA_n _ _ a3], by rw [hfold]; exact h5⟩
      rw [hfold, ← e n]
      rw [show n + (c + 1) = (n + c) + 1 from rfl, l_X8_mostNow_16, if_neg (nI_pos (by omega)), ck_n (by omega) (by omega), nm_d, nI_clamp (by omega), hR.2, hM.1, if_neg (fun z => by have := (nI_eq (by omega) (by omega)).mp z; omega), hg, cl_s]
      show (if b2i false = 0 then _ else _) = _
      rw [i0, ck_n (by omega) (by omega), ck_n (by omega) (by omega), nm_d]
  | succ f ihf =>
    intro pre hp hH r
    induction r with
    | zero =>
      intro j acc μ hj hM hS hR hB hpa ha
      have : j = cT C := by omega
      subst this
      refine ⟨0, μ, by omega, fun n => ?_, hM, hR, ?_, fun _ _ _ _ _ _ => rfl, ?_⟩ <;> simp [List.drop_eq_nil_of_le, hB, ha]
    | succ r ih =>
      intro j acc μ hj hM hS hR hB hpa ha
      obtain ⟨g, hg⟩ := m_goes (N := N) (t := j) hN hC hH hM (by omega) hS
      have hdrop : (List.range (cT C)).drop j = j :: (List.range (cT C)).drop (j + 1) := drop_cons (by simp; omega) (by rw [List.getElem?_range (by omega)])
      have hM2 := hM.t25 g
      have hS2 := hS.t25 g
      cases hb : goesS C S (H0 ++ pre) d j
      · rw [hb] at hg
        have hfold : ((List.range (cT C)).drop j).foldl (astep C S d (rlv C S d (f + 1)) (H0 ++ pre) pre) acc = ((List.range (cT C)).drop (j + 1)).foldl (astep C S d (rlv C S d (f + 1)) (H0 ++ pre) pre) acc := by
          rw [hdrop, List.foldl_cons]
          congr 1
          unfold astep; rw [if_neg (by rw [hb]; decide)]
        obtain ⟨c, μ', hc, e, h1, h2, h3, h4, h5⟩ := ih (j + 1) acc (sA (sA μ 25 g) 29 (upd (sA μ 25 g 29) pre.length (sA μ 25 g 29 pre.length + 1))) (by omega) (hM2.other (fun k hk => sA_n _ _ (by omega))) (hS2.mono (fun k hk => sA_n _ _ (by omega)))
          ⟨fun i u hu => by
            rw [sA_s, upd_n (by have := (List.getElem?_eq_some_iff.mp hu).1; omega), sA_n _ _ (show 29 ≠ 25 by decide)]; exact hR.1 i u hu, by
            rw [sA_s, upd_s, sA_n _ _ (show 29 ≠ 25 by decide), hR.2, nI_1]⟩ (fun i u hu => by rw [sA_n _ _ (show 30 ≠ 29 by decide), sA_n _ _ (show 30 ≠ 25 by decide)]; exact hB i u hu) hpa ha
        refine ⟨c + 1, μ', by rw [Nat.add_mul]; have : 1 ≤ 1 * cst (f + 1) := by simp only [cst]; omega
                              omega, fun n => ?_, h1, h2, by rw [hfold]; exact h3, fun k a1 a2 a3 a4 a5 => by rw [h4 k a1 a2 a3 a4 a5, sA_n _ _ a4, sA_n _ _ a3], by rw [hfold]; exact h5⟩
        rw [hfold, ← e n]
        rw [show n + (c + 1) = (n + c) + 1 from rfl, l_X8_mostNow_16, if_neg (nI_pos (by omega)), ck_n (by omega) (by omega), nm_d, nI_clamp (by omega), hR.2, hM.1, if_neg (fun z => by have := (nI_eq (by omega) (by omega)).mp z; omega), hg, cl_s]
        show (if b2i false = 0 then _ else _) = _
        rw [i0, ck_n (by omega) (by omega), ck_n (by omega) (by omega), nm_d]
      · rw [hb] at hg
        have hgn := goes_new hb
        have hHk := hH.push (show j < cT C by omega) hgn.1
        have hlt := hH.lt (show j < cT C by omega) hgn.1
        simp only [List.length_append] at hlt
        have hap : H0 ++ pre ++ [j] = H0 ++ (pre ++ [j]) := List.append_assoc _ _ _
        obtain ⟨μ3, e3, hM3, f3⟩ := m_pushes (N := N) hC hH hM2 (show j < cT C by omega) hgn.1
        rw [hap] at hM3 hHk
        -- tried[k + 1] = 0
        generalize hμ4 : sA μ3 29 (upd (μ3 29) (pre.length + 1) 0) = μ4
        have g4 : ∀ k, k ≠ 29 → μ4 k = μ3 k := fun k hk => by rw [← hμ4, sA_n _ _ hk]
        have hM4 : MS μ4 C (H0 ++ (pre ++ [j])) d := hM3.other (fun k hk => g4 k (by omega))
        have hR4 : MR μ4 (pre ++ [j]) 0 := by
          refine ⟨fun i u hu => ?_, by rw [← hμ4, sA_s]; simp [upd_s, nI_0]⟩
          rw [← hμ4, sA_s]
          have hi := (List.getElem?_eq_some_iff.mp hu).1
          simp at hi
          rw [upd_n (by omega), f3 29 (by decide) (by decide), sA_n _ _ (show 29 ≠ 25 by decide)]
          rcases get_app hu with ⟨_, z⟩ | ⟨z1, z2⟩
          · exact hR.1 i u z
          · rw [z1, z2]; exact hR.2
        have hB4 : MB μ4 acc := fun i u hu => by rw [g4 30 (by decide), f3 30 (by decide) (by decide), sA_n _ _ (show 30 ≠ 25 by decide)]; exact hB i u hu
        have hS4 : MT μ4 S := hS2.mono (fun k hk => by rw [g4 k (by omega), f3 k (by omega) (by omega)])
        -- the record
        obtain ⟨μ5, hstep, hM5, hR5, hB5, hS5, f5⟩ : ∃ μ5, (∀ n : Nat, l_X8_mostNow_16 N (nI H0.length) (n + 1) μ (nI acc.length) (nI pre.length) = l_X8_mostNow_16 N (nI H0.length) n μ5 (nI (longer acc (pre ++ [j])).length) (nI (pre ++ [j]).length)) ∧ MS μ5 C (H0 ++ (pre ++ [j])) d ∧ MR μ5 (pre ++ [j]) 0 ∧ MB μ5 (longer acc (pre ++ [j])) ∧ MT μ5 S ∧ frM μ μ5 := by
          have hl1 : (pre ++ [j]).length = pre.length + 1 := by simp
          have pre1 : ∀ n : Nat, l_X8_mostNow_16 N (nI H0.length) (n + 1) μ (nI acc.length) (nI pre.length) = (if nI (pre.length + 1) ≤ nI acc.length then l_X8_mostNow_16 N (nI H0.length) n μ4 (nI acc.length) (nI (pre.length + 1)) else l_X8_mostNow_102 N (l_X8_mostNow_16 N (nI H0.length) n) (nI H0.length) (nI (pre.length + 1)) (nI (pre.length + 1)) N μ4 0) := by
            intro n
            rw [l_X8_mostNow_16, if_neg (nI_pos (by omega)), ck_n (by omega) (by omega), nm_d, nI_clamp (by omega), hR.2, hM.1, if_neg (fun z => by have := (nI_eq (by omega) (by omega)).mp z; omega), hg, cl_s]
            show (if b2i true = 0 then _ else _) = _
            rw [if_neg (by decide), e3, cl_s, nm_d, nI_1, ck_n (by omega) (by omega), nm_d, nI_clamp (by omega), hμ4]
          have fr4 : frM μ μ4 := fun k a1 a2 a3 a4 a5 => by rw [g4 k a4, f3 k a1 a2, sA_n _ _ a3]
          by_cases hlong : acc.length < (pre ++ [j]).length
          · obtain ⟨μ5, e5, hB5, f5⟩ := m_copy (N := N) (d := d) hC hHk (pre ++ [j]).length 0 N μ4 (by omega) (by omega) hM4 (fun x u hx => by omega)
            refine ⟨μ5, fun n => ?_, hM4.other (fun k hk => f5 k (by omega)), ?_, ?_, hS4.mono (fun k hk => f5 k (by omega)), fun k a1 a2 a3 a4 a5 => by rw [f5 k a5, fr4 k a1 a2 a3 a4 a5]⟩
            · rw [pre1 n, if_neg (nI_ge (by omega) (by omega))]
              have e6 := e5 (l_X8_mostNow_16 N (nI H0.length) n)
              rw [hl1] at e6
              have : longer acc (pre ++ [j]) = pre ++ [j] := by unfold longer; rw [if_pos hlong]
              rw [show (0 : Int32) = nI 0 from rfl, e6, this, hl1]
            · exact ⟨fun i u hu => by rw [f5 29 (by decide)]; exact hR4.1 i u hu, by rw [f5 29 (by decide)]; exact hR4.2⟩
            · have : longer acc (pre ++ [j]) = pre ++ [j] := by unfold longer; rw [if_pos hlong]
              rw [this]; exact hB5
          · refine ⟨μ4, fun n => ?_, hM4, hR4, ?_, hS4, fr4⟩
            · rw [pre1 n, if_pos (nI_le (by omega) (by omega)), longer_le (by omega), hl1]
            · rw [longer_le (by omega)]; exact hB4
        have hlen5 : (longer acc (pre ++ [j])).length ≤ 6 := by
          unfold longer; split
          · simp; omega
          · exact ha
        have hpl5 : (pre ++ [j]).length ≤ (longer acc (pre ++ [j])).length := by
          unfold longer; split <;> omega
        obtain ⟨c1, μ6, hc1, e6, hM6, hR6, hB6, f6, l6⟩ := ihf (pre ++ [j]) (by simp; omega) hHk (cT C) 0 _ μ5 (by omega) hM5 hS5 hR5 hB5 hpl5 hlen5
        rw [List.drop_zero] at e6 hB6 l6
        have hbest : (List.range (cT C)).foldl (astep C S d (rlv C S d f) (H0 ++ (pre ++ [j])) (pre ++ [j])) (longer acc (pre ++ [j])) = longer acc (pre ++ j :: bestR C S d f (H0 ++ pre ++ [j])) := by
          have := astep_b C S d (rlv C S d f) (H0 ++ (pre ++ [j])) (pre ++ [j]) acc (List.range (cT C)) []
          rw [List.append_nil] at this
          rw [this, hap]
          have hb0 : (List.range (cT C)).foldl (bstep C S d (rlv C S d f) (H0 ++ (pre ++ [j]))) [] = bestR C S d f (H0 ++ (pre ++ [j])) := by
            cases f with
            | zero => exact foldl_none hC hHk (by simp; omega) _ (fun t ht => List.mem_range.mp ht)
            | succ f => rfl
          rw [hb0]
          simp
        rw [hbest] at e6 hB6 l6
        -- the pop
        generalize hμ7 : sA (sI μ6 1 (nI (H0 ++ pre).length)) 29 (upd (μ6 29) pre.length (nI (j + 1))) = μ7
        have g7 : ∀ k, k ≠ 1 → k ≠ 29 → μ7 k = μ6 k := fun k a b => by rw [← hμ7, sA_n _ _ b, sI_n _ _ a]
        have hpop : ∀ (n : Nat) (v2 : Int32), l_X8_mostNow_16 N (nI H0.length) (n + 1) μ6 v2 (nI (pre ++ [j]).length) = l_X8_mostNow_16 N (nI H0.length) n μ7 v2 (nI pre.length) := by
          intro n v2
          have h6r : μ6 29 pre.length = nI j := hR6.1 pre.length j (by simp)
          have el : (H0 ++ (pre ++ [j])).length = (H0 ++ pre).length + 1 := by
            simp only [List.length_append, List.length_cons, List.length_nil]; omega
          have h61 : μ6 1 0 = nI ((H0 ++ pre).length + 1) := by rw [hM6.2.2.2.2.2.1, el]
          rw [l_X8_mostNow_16, if_neg (nI_pos (by simp; omega)), ck_n (by simp; omega) (by omega), nm_d, nI_clamp (by simp; omega), hR6.2, hM6.1, if_pos rfl, nm_d]
          have em1 : nI (pre ++ [j]).length + -1 = nI pre.length := by rw [show (pre ++ [j]).length = pre.length + 1 by simp]; exact pk_m1 _
          rw [em1, if_neg (nI_pos (by omega)), nm_d, ck_n (by omega) (by omega), ck_n (by omega) (by omega), nm_d, nI_clamp (by omega), sI_n _ _ (show 29 ≠ 1 by decide), h6r, nI_1, h61, nI_pred, hμ7]
        have hM7 : MS μ7 C (H0 ++ pre) d := by
          obtain ⟨a0, a1, a2, a3, a4, a6, a5, a8⟩ := hM6
          refine ⟨by rw [g7 0 (by decide) (by decide)]; exact a0, fun i hi => by rw [g7 3 (by decide) (by decide)]; exact a1 i hi, fun i hi => by rw [g7 4 (by decide) (by decide)]; exact a2 i hi, fun i hi => by rw [g7 5 (by decide) (by decide)]; exact a3 i hi, fun i hi => by rw [g7 6 (by decide) (by decide)]; exact a4 i hi, ?_, fun i u hu => ?_, by rw [g7 2 (by decide) (by decide)]; exact a8⟩
          · rw [← hμ7, sA_n _ _ (show 1 ≠ 29 by decide), sI_s]
          · rw [g7 7 (by decide) (by decide)]
            exact a5 i u (by rw [← hap, List.getElem?_append_left (List.getElem?_eq_some_iff.mp hu).1]; exact hu)
        have hR7 : MR μ7 pre (j + 1) := by
          refine ⟨fun i u hu => ?_, by rw [← hμ7, sA_s, upd_s]⟩
          have hi := (List.getElem?_eq_some_iff.mp hu).1
          rw [← hμ7, sA_s, upd_n (by omega)]
          exact hR6.1 i u (by rw [List.getElem?_append_left hi]; exact hu)
        have hS6 : MT μ6 S := f6.mt hS5
        obtain ⟨c, μ', hc, e, h1, h2, h3, h4, h5⟩ := ih (j + 1) (longer acc (pre ++ j :: bestR C S d f (H0 ++ pre ++ [j]))) μ7 (by omega) hM7 (hS6.mono (fun k hk => g7 k (by omega) (by omega))) hR7 (fun i u hu => by rw [g7 30 (by decide) (by decide)]; exact hB6 i u hu) (by rw [longer_len]; omega) l6
        have hfold : ((List.range (cT C)).drop j).foldl (astep C S d (rlv C S d (f + 1)) (H0 ++ pre) pre) acc = ((List.range (cT C)).drop (j + 1)).foldl (astep C S d (rlv C S d (f + 1)) (H0 ++ pre) pre) (longer acc (pre ++ j :: bestR C S d f (H0 ++ pre ++ [j]))) := by
          rw [hdrop, List.foldl_cons]
          congr 1
          unfold astep; rw [if_pos hb]; rfl
        refine ⟨c + 1 + c1 + 1, μ', ?_, fun n => ?_, h1, h2, by rw [hfold]; exact h3, ?_, by rw [hfold]; exact h5⟩
        · rw [Nat.add_mul]
          have h6c : cT C * cst f ≤ 6 * cst f := Nat.mul_le_mul_right _ hT
          have : 1 * cst (f + 1) = 2 + 6 * cst f := by simp only [cst]; omega
          omega
        · rw [hfold, ← e n, show n + (c + 1 + c1 + 1) = ((n + c + 1) + c1) + 1 by omega, hstep, e6, hpop]
        · intro k a1 a2 a3 a4 a5
          rw [h4 k a1 a2 a3 a4 a5, g7 k a1 a4, f6 k a1 a2 a3 a4 a5, f5 k a1 a2 a3 a4 a5]
theorem cst_6 : cst 6 = 65318 := by decide
/-- mostNow: how many, and the row -/
theorem m_mostNow {N : Nat} {S : Sn} {C : Cr} {H : List Nat} {d : Nat} {μ : St} (hN : 500000 ≤ N) (hC : Wf C) (hO : SnOk S) (hH : WfH C H d) (hM : MS μ C H d) (hS : MT μ S) : ∃ μ', f_X8_mostNow N μ = some (nI (bestR C S d 6 H).length, μ') ∧ MS μ' C H d ∧ MB μ' (bestR C S d 6 H) ∧ frM μ μ' ∧ (bestR C S d 6 H).length ≤ 6 := by
  have hT := hC.1
  have h6 := len6 hC hH
  unfold f_X8_mostNow
  have c0 : (0 : Int32).toNatClampNeg = 0 := by decide
  rw [nm_d, ck_t (by decide), nm_d, hM.2.2.2.2.2.1, c0]
  generalize hμ1 : sA μ 29 (upd (μ 29) 0 0) = μ1
  have g1 : ∀ k, k ≠ 29 → μ1 k = μ k := fun k hk => by rw [← hμ1, sA_n _ _ hk]
  have hM1 : MS μ1 C (H ++ []) d := by rw [List.append_nil]; exact hM.other (fun k hk => g1 k (by omega))
  obtain ⟨c, μ2, hc, e, h1, h2, h3, h4, h5⟩ := m_level (N := N) (by omega) hC hO H 6 [] rfl (by rw [List.append_nil]; exact hH) (cT C) 0 [] μ1 (by omega) hM1 (hS.mono (fun k hk => g1 k (by omega))) ⟨fun i u hu => by simp at hu, by rw [← hμ1, sA_s]; exact upd_s _ _ _⟩ (fun i u hu => by simp at hu) (Nat.le_refl _) (by simp)
  have hfold : ((List.range (cT C)).drop 0).foldl (astep C S d (rlv C S d 6) (H ++ []) []) [] = bestR C S d 6 H := by
    have := astep_b C S d (rlv C S d 6) (H ++ []) [] [] (List.range (cT C)) []
    rw [show longer [] ([] ++ []) = [] from rfl] at this
    rw [List.drop_zero, this, List.append_nil]
    show longer [] (bestR C S d 6 H) = _
    unfold longer
    split
    · rfl
    · rename_i z; simp at z; exact z.symm
  rw [hfold] at e h3 h5
  rw [List.append_nil] at h1
  obtain ⟨n, hn⟩ : ∃ n, N = (n + 2) + c := ⟨N - 2 - c, by
    have hc6 : cT C * cst 6 ≤ 6 * cst 6 := Nat.mul_le_mul_right _ hT
    rw [cst_6] at hc hc6
    omega⟩
  refine ⟨μ2, ?_, h1, h3, fun k a1 a2 a3 a4 a5 => by rw [h4 k a1 a2 a3 a4 a5, g1 k a4], h5⟩
  have e2 := e (n + 2)
  rw [← hn] at e2
  rw [show (0 : Int32) = nI ([] : List Nat).length from rfl, e2]
  have t0 : μ2 29 0 = nI (cT C) := h2.2
  rw [l_X8_mostNow_16, if_neg (nI_pos (by simp)), ck_n (by simp) (by omega), nm_d, nI_clamp (by simp)]
  show (if μ2 29 0 = μ2 0 0 then _ else _) = _
  rw [t0, h1.1, if_pos rfl, nm_d]
  rw [if_pos (by decide), l_X8_mostNow_16, if_pos (by decide)]
