/-! ===== pure layer J: back, reach ===== -/
/-- out of those had -/
def outH (H : List Nat) (t : Nat) : List Nat := H.filter (fun u => decide (¬ u = t))
theorem outH_app (H : List Nat) (t u : Nat) : outH (H ++ [u]) t = if u = t then outH H t else outH H t ++ [u] := by
  unfold outH
  rw [List.filter_append]
  by_cases h : u = t <;> simp [h]
/-- what is laid together so far: the first i are looked at -/
def CI (H : List Nat) (t i kept : Nat) (g : Nat → Int32) : Prop := kept = (outH (H.take i) t).length ∧ kept ≤ i ∧ (∀ x u : Nat, (outH (H.take i) t)[x]? = some u → g x = nI u) ∧ ∀ x u : Nat, i ≤ x → H[x]? = some u → g x = nI u
theorem take_app {H : List Nat} {i u : Nat} (h : H[i]? = some u) : H.take (i + 1) = H.take i ++ [u] := by
  rw [List.take_add_one, h]; rfl
theorem CI.skip {H : List Nat} {t i kept : Nat} {g : Nat → Int32} (h : CI H t i kept g) (hu : H[i]? = some t) : CI H t (i + 1) kept g := by
  obtain ⟨h1, h2, h3, h4⟩ := h
  have e : outH (H.take (i + 1)) t = outH (H.take i) t := by rw [take_app hu, outH_app, if_pos rfl]
  exact ⟨by rw [e]; exact h1, by omega, by rw [e]; exact h3, fun x u hx hu => h4 x u (by omega) hu⟩
theorem CI.keep {H : List Nat} {t i kept u : Nat} {g : Nat → Int32} (h : CI H t i kept g) (hu : H[i]? = some u) (hne : ¬ u = t) : CI H t (i + 1) (kept + 1) (upd g kept (nI u)) := by
  obtain ⟨h1, h2, h3, h4⟩ := h
  have e : outH (H.take (i + 1)) t = outH (H.take i) t ++ [u] := by rw [take_app hu, outH_app, if_neg hne]
  refine ⟨by rw [e]; simp; exact h1, by omega, fun x v hv => ?_, fun x v hx hv => ?_⟩
  · rw [e] at hv
    rcases get_app hv with ⟨a, b⟩ | ⟨a, b⟩
    · rw [upd_n (by omega)]; exact h3 x v b
    · rw [a, b, ← h1, upd_s]
  · rw [upd_n (by omega)]; exact h4 x v (by omega) hv
theorem bit63 {t i : Nat} (ht : t < 6) (hi : i < 6) : (63 - 2 ^ t).testBit i = decide (¬ i = t) := by
  have h : (List.range 6).all (fun t => (List.range 6).all (fun i => (63 - 2 ^ t).testBit i == decide (¬ i = t))) = true := by decide +kernel
  exact eq_of_beq (List.all_eq_true.mp (List.all_eq_true.mp h t (List.mem_range.mpr ht)) i (List.mem_range.mpr hi))
theorem clr_u : ∀ b : Nat, b < 64 → ∀ t : Nat, t < 6 → nI b &&& (((1 : Int32) <<< (nI t &&& 31)) ^^^ (-1)) = nI (b &&& (63 - 2 ^ t)) := by
  have h : (List.range 64).all (fun b => (List.range 6).all (fun t => decide (nI b &&& (((1 : Int32) <<< (nI t &&& 31)) ^^^ (-1)) = nI (b &&& (63 - 2 ^ t))))) = true := by decide +kernel
  intro b hb t ht
  exact of_decide_eq_true (List.all_eq_true.mp (List.all_eq_true.mp h b (List.mem_range.mpr hb)) t (List.mem_range.mpr ht))
theorem bs_out {H : List Nat} {t : Nat} (h : ∀ u ∈ H, u < 6) (ht : t < 6) : bs (outH H t) = bs H &&& (63 - 2 ^ t) := by
  refine Nat.eq_of_testBit_eq (fun i => ?_)
  rw [Nat.testBit_and, bs_bit, bs_bit]
  by_cases hi : i < 6
  · rw [bit63 ht hi]
    unfold outH
    by_cases h1 : i ∈ H <;> by_cases h2 : i = t <;> simp [h1, h2, List.mem_filter]
  · have h1 : ¬ i ∈ H := fun z => hi (h i z)
    have h2 : ¬ i ∈ outH H t := fun z => h1 (List.mem_filter.mp z).1
    simp [h1, h2]
section
variable {N : Nat} {L : List SR} {h h2 : Option SR} {σ σ2 μ s : St} {C : Cr} {S : Sn} {H : List Nat} {d : Nat}
theorem WfH.out (hH : WfH C H d) (t : Nat) : WfH C (outH H t) d := ⟨hH.1.filter _, fun u hu => hH.2.1 u (List.mem_filter.mp hu).1, hH.2.2⟩
theorem x_lay {t : Nat} (hN : 1000 ≤ N) (hC : Wf C) (hH : WfH C H d) (hX : XS σ C H d) (ht : t < cT C) : ∃ σ', f_X2_layDown N σ (nI t) = some σ' ∧ XS σ' C (outH H t) d := by
  have hT := hC.1
  have h6 := len6 hC hH
  obtain ⟨a0, a1, a2, a3, a4, a4', a6, a5, a7, a8⟩ := hX
  have key : ∀ (j i n kept : Nat) (g : Nat → Int32), i + j = H.length → j < n → CI H t i kept g → ∃ g', l_X2_layDown_4 N (nI t) n (sA σ 5 g) (nI kept) (nI i) = some (sI (sI (sA σ 5 g') 6 (nI (outH H t).length)) 7 (σ 7 0 &&& (((1 : Int32) <<< (nI t &&& 31)) ^^^ (-1)))) ∧ ∀ x u : Nat, (outH H t)[x]? = some u → g' x = nI u := by
    intro j
    induction j with
    | zero =>
      intro i n kept g hi hn hI
      obtain ⟨n, rfl⟩ : ∃ m, n = m + 1 := ⟨n - 1, by omega⟩
      obtain rfl : i = H.length := by omega
      obtain ⟨c1, c2, c3, c4⟩ := hI
      rw [List.take_length] at c1 c3
      refine ⟨g, ?_, c3⟩
      rw [l_X2_layDown_4, sA_n _ _ (show 6 ≠ 5 by decide), a6, if_pos (nI_le (Nat.le_refl _) (by omega)), nm_d, nm_d, sI_n _ _ (show 7 ≠ 6 by decide), sA_n _ _ (show 7 ≠ 5 by decide), c1]
    | succ j ih =>
      intro i n kept g hi hn hI
      obtain ⟨n, rfl⟩ : ∃ m, n = m + 1 := ⟨n - 1, by omega⟩
      obtain ⟨u, hu, hm⟩ := idx_get (H := H) (i := i) (by omega)
      have huT := hH.2.1 u hm
      have hg : g i = nI u := hI.2.2.2 i u (Nat.le_refl _) hu
      have hk := hI.2.1
      rw [l_X2_layDown_4, sA_n _ _ (show 6 ≠ 5 by decide), a6, if_neg (nI_ge (by omega) (by omega)), ck_n (by omega) (by omega), nI_clamp (by omega), sA_s, hg]
      by_cases hut : u = t
      · subst hut
        rw [if_pos rfl, nm_d, nI_1]
        exact ih (i + 1) n kept g (by omega) (by omega) (hI.skip hu)
      · rw [if_neg (fun z => hut ((nI_eq (by omega) (by omega)).mp z)), ck_n (by omega) (by omega), ck_n (by omega) (by omega), nm_d, nm_d, nm_d, nI_1, nI_1, nI_clamp (by omega)]
        obtain ⟨g', e, hg'⟩ := ih (i + 1) n (kept + 1) (upd g kept (nI u)) (by omega) (by omega) (hI.keep hu hut)
        refine ⟨g', ?_, hg'⟩
        have es : sA (sA σ 5 g) 5 (upd g kept (nI u)) = sA σ 5 (upd g kept (nI u)) := by
          funext x
          by_cases hx : x = 5
          · subst hx; rw [sA_s, sA_s]
          · rw [sA_n _ _ hx, sA_n _ _ hx, sA_n _ _ hx]
        rw [es]; exact e
  have same : sA σ 5 (σ 5) = σ := by
    funext x
    by_cases hx : x = 5
    · subst hx; rw [sA_s]
    · rw [sA_n _ _ hx]
  obtain ⟨g', e, hg'⟩ := key H.length 0 N 0 (σ 5) (by omega) (by omega) ⟨rfl, Nat.le_refl _, fun x u hu => by simp [outH] at hu, fun x u _ hu => a5 x u hu⟩
  rw [same] at e
  have hb : bs H < 64 := bs_lt (fun u hu => by have := hH.2.1 u hu; omega)
  unfold f_X2_layDown
  refine ⟨_, e, ⟨by simp [sI_n, sA_n, a0], fun i hi => by simp [sI_n, sA_n, a1 i hi], fun i hi => by simp [sI_n, sA_n, a2 i hi], fun i hi => by simp [sI_n, sA_n, a3 i hi], fun i hi => by simp [sI_n, sA_n, a4 i hi], fun i hi hj => by simp [sI_n, sA_n, a4' i hi hj], by rw [sI_n _ _ (show 6 ≠ 7 by decide), sI_s], fun i u hu => ?_, ?_, by simp [sI_n, sA_n, a8]⟩⟩
  · rw [sI_n _ _ (show 5 ≠ 7 by decide), sI_n _ _ (show 5 ≠ 6 by decide), sA_s]; exact hg' i u hu
  · rw [sI_s, a7, clr_u _ hb t (by omega), bs_out (fun u hu => by have := hH.2.1 u hu; omega) (by omega)]
theorem m_putsBack {t : Nat} (hN : 1000 ≤ N) (hC : Wf C) (hH : WfH C H d) (hM : MS μ C H d) (ht : t < cT C) : ∃ μ', f_X8_putsBack N μ (nI t) = some μ' ∧ MS μ' C (outH H t) d ∧ ∀ k, k ≠ 1 → k ≠ 7 → μ' k = μ k := by
  have hT := hC.1
  have h6 := len6 hC hH
  obtain ⟨a0, a1, a2, a3, a4, a6, a5, a8⟩ := hM
  have key : ∀ (j i n kept : Nat) (g : Nat → Int32), i + j = H.length → j < n → CI H t i kept g → ∃ g', l_X8_putsBack_4 N (nI t) n (sA μ 7 g) (nI kept) (nI i) = some (sI (sA μ 7 g') 1 (nI (outH H t).length)) ∧ ∀ x u : Nat, (outH H t)[x]? = some u → g' x = nI u := by
    intro j
    induction j with
    | zero =>
      intro i n kept g hi hn hI
      obtain ⟨n, rfl⟩ : ∃ m, n = m + 1 := ⟨n - 1, by omega⟩
      obtain rfl : i = H.length := by omega
      obtain ⟨c1, c2, c3, c4⟩ := hI
      rw [List.take_length] at c1 c3
      refine ⟨g, ?_, c3⟩
      rw [l_X8_putsBack_4, sA_n _ _ (show 1 ≠ 7 by decide), a6, if_pos (nI_le (Nat.le_refl _) (by omega)), nm_d, c1]
    | succ j ih =>
      intro i n kept g hi hn hI
      obtain ⟨n, rfl⟩ : ∃ m, n = m + 1 := ⟨n - 1, by omega⟩
      obtain ⟨u, hu, hm⟩ := idx_get (H := H) (i := i) (by omega)
      have huT := hH.2.1 u hm
      have hg : g i = nI u := hI.2.2.2 i u (Nat.le_refl _) hu
      have hk := hI.2.1
      rw [l_X8_putsBack_4, sA_n _ _ (show 1 ≠ 7 by decide), a6, if_neg (nI_ge (by omega) (by omega)), ck_n (by omega) (by omega), nI_clamp (by omega), sA_s, hg]
      by_cases hut : u = t
      · subst hut
        rw [if_pos rfl, nm_d, nI_1]
        exact ih (i + 1) n kept g (by omega) (by omega) (hI.skip hu)
      · rw [if_neg (fun z => hut ((nI_eq (by omega) (by omega)).mp z)), ck_n (by omega) (by omega), ck_n (by omega) (by omega), nm_d, nm_d, nm_d, nI_1, nI_1, nI_clamp (by omega)]
        obtain ⟨g', e, hg'⟩ := ih (i + 1) n (kept + 1) (upd g kept (nI u)) (by omega) (by omega) (hI.keep hu hut)
        refine ⟨g', ?_, hg'⟩
        have es : sA (sA μ 7 g) 7 (upd g kept (nI u)) = sA μ 7 (upd g kept (nI u)) := by
          funext x
          by_cases hx : x = 7
          · subst hx; rw [sA_s, sA_s]
          · rw [sA_n _ _ hx, sA_n _ _ hx, sA_n _ _ hx]
        rw [es]; exact e
  have same : sA μ 7 (μ 7) = μ := by
    funext x
    by_cases hx : x = 7
    · subst hx; rw [sA_s]
    · rw [sA_n _ _ hx]
  obtain ⟨g', e, hg'⟩ := key H.length 0 N 0 (μ 7) (by omega) (by omega) ⟨rfl, Nat.le_refl _, fun x u hu => by simp [outH] at hu, fun x u _ hu => a5 x u hu⟩
  rw [same] at e
  unfold f_X8_putsBack
  refine ⟨_, e, ⟨by simp [sI_n, sA_n, a0], fun i hi => by simp [sI_n, sA_n, a1 i hi], fun i hi => by simp [sI_n, sA_n, a2 i hi], fun i hi => by simp [sI_n, sA_n, a3 i hi], fun i hi => by simp [sI_n, sA_n, a4 i hi], by rw [sI_s], fun i u hu => ?_, by simp [sI_n, sA_n, a8]⟩, fun k h1 h7 => by rw [sI_n _ _ h1, sA_n _ _ h7]⟩
  rw [sI_n _ _ (show 7 ≠ 1 by decide), sA_s]; exact hg' i u hu
theorem l_backOf (hN : 500000 ≤ N) (hC : Wf C) (hO : SnOk S) (hH : WfH C H d) (hX : XS σ C H d) (hS : XT L h S) (hR : MT μ S) : ∀ (j k n n' g : Nat) (b : Int32) (σ2 s : St) (h2 : Option SR) (ν : St), k + j = cT C → j < n → j < n' → g ≤ 12 → MS ν C H d → frR μ ν →
    ∃ a, (∃ z, l_X7_bestBack_36 N L σ h n σ2 h2 s (nI g) b (nI k) = some (a, z)) ∧ ∃ μ', l_X8_backOf_15 N n' ν b (nI g) (nI k) = some (a, μ') ∧ MS μ' C H d ∧ frR μ μ' := by
  have hT := hC.1
  have h6 := len6 hC hH
  have hl6 : ∀ H, WfH C H d → (bestR C S d 6 H).length ≤ 6 := fun H hH => by
    rcases bestR_len (d := d) hC hO 6 H hH with z | z
    · rw [z]; simp
    · have : lim C S ≤ 6 := by unfold lim; omega
      omega
  intro j
  induction j with
  | zero =>
    intro k n n' g b σ2 s h2 ν hk hn hn' hg hM hf
    obtain ⟨n, rfl⟩ : ∃ m, n = m + 1 := ⟨n - 1, by omega⟩
    obtain ⟨n', rfl⟩ : ∃ m, n' = m + 1 := ⟨n' - 1, by omega⟩
    obtain rfl : k = cT C := by omega
    rw [l_X7_bestBack_36, l_X8_backOf_15, hX.1, hM.1, if_pos (nI_le (Nat.le_refl _) (by omega)), if_pos (nI_le (Nat.le_refl _) (by omega))]
    exact ⟨_, ⟨_, rfl⟩, ν, rfl, hM, hf⟩
  | succ j ih =>
    intro k n n' g b σ2 s h2 ν hk hn hn' hg hM hf
    obtain ⟨n, rfl⟩ : ∃ m, n = m + 1 := ⟨n - 1, by omega⟩
    obtain ⟨n', rfl⟩ : ∃ m, n' = m + 1 := ⟨n' - 1, by omega⟩
    rw [l_X7_bestBack_36, l_X8_backOf_15, hX.1, hM.1, if_neg (nI_ge (by omega) (by omega)), if_neg (nI_ge (by omega) (by omega)), x_isHad hC hH hX (by omega), m_isHad (by omega) hC hH hM (by omega), cl_s, cl_s]
    cases hq : decide (k ∈ H)
    · rw [i0, i0, nm_d, nm_d, nI_1]
      exact ih (k + 1) n n' g b σ2 s h2 ν (by omega) (by omega) (by omega) hg hM hf
    · have hHo := hH.out k
      have ho6 := len6 hC hHo
      obtain ⟨σ3, e3, x3⟩ := x_become (N := N) (σ0 := σ2) (h0 := h2) (h := h) hC hH hX
      obtain ⟨σ4, e4, x4⟩ := x_lay (N := N) (t := k) (by omega) hC hH x3 (by omega)
      obtain ⟨s5, σ5, e5, x5, b5⟩ := x_longest (N := N) (s := s) (by omega) hC hHo x4 hS hO
      obtain ⟨ν3, f3, k3, m3, r3⟩ := m_save (N := N) (by omega) hC hH hM
      obtain ⟨ν4, f4, m4, r4⟩ := m_putsBack (N := N) (t := k) (by omega) hC hH m3 (by omega)
      obtain ⟨ν5, f5, m5, c5, r5, l5⟩ := m_mostNow (N := N) hN hC hO hHo m4 (frR.mt hR ((hf.tr (frK r3)).tr (fr2 r4)))
      obtain ⟨ν6, f6, m6, r6⟩ := m_back (N := N) (by omega) hC hH ((k3.mono (fun k hk => r4 k (by omega) (by omega))).mono (fun k hk => r5 k (by omega) (by omega) (by omega) (by omega) (by omega))) m5
      have hr : frR μ ν6 := (((hf.tr (frK r3)).tr (fr2 r4)).tr r5.r).tr (fr3 r6)
      have hlo := hl6 _ hHo
      rw [i1, i1, e3, cl_s, f3, cl_s]
      dsimp only
      rw [e4, cl_s, f4, cl_s, e5, cl_s, f5, cl_s]
      simp only [nm_d]
      rw [f6, cl_s, x4.2.2.2.2.2.2.1, m4.2.2.2.2.2.1, nI_add]
      by_cases hc : g < (outH H k).length + (bestR C S d 6 (outH H k)).length
      · rw [if_neg (nI_ge hc (by omega)), if_pos (nI_lt hc (by omega)), nI_1]
        exact ih (k + 1) n n' _ _ _ _ _ ν6 (by omega) (by omega) (by omega) (by omega) m6 hr
      · rw [if_pos (nI_le (by omega) (by omega)), if_neg (nI_nlt (by omega) (by omega)), nI_1]
        exact ih (k + 1) n n' _ _ _ _ _ ν6 (by omega) (by omega) (by omega) hg m6 hr
theorem op_best (hN : 500000 ≤ N) (hG : GI L h σ μ C S H d) (p1 : Int32) : Asked μ C H d (f_X7_best N L σ h σ2 h2 s p1) (f_X8_best N μ p1) := by
  obtain ⟨hC, hH, hX, hM, hS, hR, hO, hd⟩ := hG
  have h6 := len6 hC hH
  unfold f_X7_best f_X8_best
  by_cases p0 : p1 = 0
  · rw [if_pos p0, if_pos p0]
    obtain ⟨z, hz⟩ := x_start (N := N) (σ2 := σ2) (h2 := h2) (s := s) hN hC hH hX hS hO
    obtain ⟨μ', e, hm, hr⟩ := m_startOf (N := N) hN hC hO hH hM hR
    rw [hz, e, cl_s, cl_s]
    exact ⟨_, ⟨_, rfl⟩, μ', rfl, hr, hm⟩
  rw [if_neg p0, if_neg p0]
  by_cases p1' : p1 = 1
  · rw [if_pos p1', if_pos p1']
    obtain ⟨σ3, e3, x3⟩ := x_become (N := N) (σ0 := σ2) (h0 := h2) (h := h) hC hH hX
    obtain ⟨s4, σ4, e4, x4, b4⟩ := x_longest (N := N) (s := s) (by omega) hC hH x3 hS hO
    obtain ⟨μ4, f4, m4, b5, r4, l4⟩ := m_mostNow (N := N) hN hC hO hH hM hR
    unfold f_X7_bestBack f_X8_backOf
    rw [e3, cl_s, nm_d, f4, cl_s]
    dsimp only
    rw [e4, cl_s, nm_d, nm_d, nm_d, hX.2.2.2.2.2.2.1, hM.2.2.2.2.2.1, nI_add]
    obtain ⟨a, ⟨z, hz⟩, μ', e, hm, hr⟩ := l_backOf (N := N) hN hC hO hH hX hS hR (cT C) 0 N N (H.length + (bestR C S d 6 H).length) (-5) σ4 s4 h μ4 (by omega) (by have := hC.1; omega) (by have := hC.1; omega) (by omega) m4 r4.r
    have hz' : l_X7_bestBack_36 N L σ h N σ4 h s4 (nI (H.length + (bestR C S d 6 H).length)) (-5) 0 = some (a, z) := hz
    have e' : l_X8_backOf_15 N N μ4 (-5) (nI (H.length + (bestR C S d 6 H).length)) 0 = some (a, μ') := e
    dsimp only
    rw [hz', e', cl_s, cl_s]
    exact ⟨_, ⟨_, rfl⟩, μ', rfl, hr, hm⟩
  · rw [if_neg p1', if_neg p1']; exact ⟨_, ⟨_, rfl⟩, μ, rfl, frR.rf μ, hM⟩
end
