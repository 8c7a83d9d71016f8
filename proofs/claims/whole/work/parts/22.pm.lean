/-! ===== pure layer M: fitting, what goes now, told, of ===== -/
section
variable {N : Nat} {L : List SR} {h h2 : Option SR} {σ σ2 μ s : St} {C : Cr} {S : Sn} {H : List Nat} {d : Nat}
/-- the class counts upwards -/
theorem l_x_fit {t : Nat} {w : Int32} (hN : 1000 ≤ N) (hC : Wf C) (hH : WfH C H d) (hS : XT L h S) (hO : SnOk S) (ht : t < cT C) : ∀ (j k n a m0 : Nat) (l : Int32) (σ2 : St), k + j = 256 → j < n → a ≤ k → (a = 0 → l = -5) → XS σ2 (setM C t m0) H d →
    ∃ z, l_X7_fitting_42 N L σ h (nI t) w n σ2 h (nI a) l (nI k) = some ((if w = 0 then nI (a + cd (fun m => goesS (setM C t m) S H d t) j k) else if a = 0 then fans (ffind (fun m => goesS (setM C t m) S H d t) j k) else l), z) := by
  have hT := hC.1
  intro j
  induction j with
  | zero =>
    intro k n a m0 l σ2 hk hn ha hl hX
    obtain ⟨n, rfl⟩ : ∃ m, n = m + 1 := ⟨n - 1, by omega⟩
    obtain rfl : k = 256 := by omega
    rw [l_X7_fitting_42, if_pos (show (255 : Int32) < nI 256 from by decide)]
    by_cases hw : w = 0
    · rw [if_pos hw, if_pos hw]; exact ⟨_, rfl⟩
    · rw [if_neg hw, if_neg hw]
      refine ⟨(σ2, h), ?_⟩
      congr 2
      by_cases h0 : a = 0
      · rw [if_pos h0, hl h0]; rfl
      · rw [if_neg h0]
  | succ j ih =>
    intro k n a m0 l σ2 hk hn ha hl hX
    obtain ⟨n, rfl⟩ : ∃ m, n = m + 1 := ⟨n - 1, by omega⟩
    have hX1 := hX.setM (t := t) (m := k)
    rw [setM_setM] at hX1
    obtain ⟨g, hg⟩ := x_goes (N := N) (t := t) hN (hC.setM (t := t) (m := k) (by omega)) hH hX1 ht hS hO
    have hX2 := hX1.t10 g
    rw [l_X7_fitting_42, if_neg (show ¬ (255 : Int32) < nI k from nI_nlt (a := 255) (by omega) (by omega)), ck_n (by omega) (by omega), nm_d, nI_clamp (by omega), hg, cl_s]
    dsimp only
    rw [cd, ffind]
    cases hb : goesS (setM C t k) S H d t
    · rw [i0, nm_d, nI_1, if_neg (show ¬ (false = true) from by decide), if_neg (show ¬ (false = true) from by decide), Nat.zero_add]
      exact ih (k + 1) n a k l _ (by omega) (by omega) (by omega) hl hX2
    · rw [i1, if_pos rfl, if_pos rfl]
      by_cases h0 : a = 0
      · subst h0
        rw [if_pos (show nI 0 = 0 from rfl), nm_d, nm_d, nI_1, nI_1]
        obtain ⟨z, hz⟩ := ih (k + 1) n 1 k (nI k) _ (by omega) (by omega) (by omega) (fun z => by omega) hX2
        rw [if_neg (show ¬ (1 = 0) from by omega)] at hz
        rw [if_pos rfl, ← Nat.add_assoc]
        exact ⟨z, hz⟩
      · rw [if_neg (nI_ne0 (by omega) (by omega)), nm_d, nm_d, nI_1, nI_1]
        obtain ⟨z, hz⟩ := ih (k + 1) n (a + 1) k l _ (by omega) (by omega) (by omega) (fun z => by omega) hX2
        rw [if_neg (show ¬ (a + 1 = 0) from by omega)] at hz
        rw [if_neg h0, ← Nat.add_assoc]
        exact ⟨z, hz⟩
/-- the reference counts downwards -/
theorem l_m_fit {t : Nat} {w : Int32} (hN : 1000 ≤ N) (hC : Wf C) (hH : WfH C H d) (hR : MT μ S) (ht : t < cT C) : ∀ (k n m0 : Nat) (ν : St), k ≤ 256 → k < n → MS ν (setM C t m0) H d → frR μ ν →
    ∃ μ', l_X8_fitting_39 N (nI t) w (nI (cM C t)) n ν (nI (cd (fun m => goesS (setM C t m) S H d t) (256 - k) k)) (fans (ffind (fun m => goesS (setM C t m) S H d t) (256 - k) k)) (nI k + (-1)) = some ((if w = 0 then nI (cd (fun m => goesS (setM C t m) S H d t) 256 0) else fans (ffind (fun m => goesS (setM C t m) S H d t) 256 0)), μ') ∧ frR μ μ' ∧ MS μ' C H d := by
  have hT := hC.1
  intro k
  induction k with
  | zero =>
    intro n m0 ν hk hn hM hf
    obtain ⟨n, rfl⟩ : ∃ m, n = m + 1 := ⟨n - 1, by omega⟩
    rw [l_X8_fitting_39, if_pos (by decide), ck_n (by omega) (by omega), nm_d, nI_clamp (by omega)]
    have hM1 := hM.setM (t := t) (m := cM C t)
    rw [setM_setM, setM_self] at hM1
    refine ⟨_, ?_, hf.tr (fun k hk => sA_n _ _ (scr_ne hk rfl)), hM1⟩
    by_cases hw : w = 0
    · rw [if_pos hw, if_pos hw]
    · rw [if_neg hw, if_neg hw]
  | succ k ih =>
    intro n m0 ν hk hn hM hf
    obtain ⟨n, rfl⟩ : ∃ m, n = m + 1 := ⟨n - 1, by omega⟩
    have hM1 := hM.setM (t := t) (m := k)
    rw [setM_setM] at hM1
    have hf1 : frR μ (sA ν 5 (upd (ν 5) t (nI k))) := hf.tr (fun k hk => sA_n _ _ (scr_ne hk rfl))
    obtain ⟨g, hg⟩ := m_goes (N := N) (t := t) hN (hC.setM (t := t) (m := k) (by omega)) hH hM1 ht (frR.mt hR hf1)
    have hM2 := hM1.t25 g
    have hf2 := hf1.tr (fr25 g)
    rw [l_X8_fitting_39, pk_m1, if_neg (nI_pos (by omega)), ck_n (by omega) (by omega), nm_d, nI_clamp (by omega), hg, cl_s]
    dsimp only
    have e1 : 256 - k = (256 - (k + 1)) + 1 := by omega
    have i2 := ih n k _ (by omega) (by omega) hM2 hf2
    rw [e1, cd, ffind] at i2
    cases hb : goesS (setM C t k) S H d t
    · rw [hb, if_neg (by decide), if_neg (by decide), Nat.zero_add] at i2
      rw [i0, nm_d]
      exact i2
    · rw [hb, if_pos rfl, if_pos rfl] at i2
      rw [i1, nm_d, nm_d, nI_1, Nat.add_comm]
      exact i2
theorem op_fitting (hN : 1000 ≤ N) (hG : GI L h σ μ C S H d) (p1 p2 : Int32) : Asked μ C H d (f_X7_fitting N L σ h σ2 h2 p1 p2) (f_X8_fitting N μ p1 p2) := by
  obtain ⟨hC, hH, hX, hM, hS, hR, hO, hd⟩ := hG
  have hT := hC.1
  unfold f_X7_fitting f_X8_fitting
  rcases two_things (N := N) hC hX hM p1 with ⟨a, b⟩ | ⟨a, b, t, ht, rfl⟩
  · rw [a, b, cl_s, cl_s, i0, i0]; exact ⟨_, ⟨_, rfl⟩, μ, rfl, frR.rf μ, hM⟩
  rw [a, b, cl_s, cl_s, i1, i1, f_within, cl_s, f_in, cl_s]
  cases hw : wn p2 0 1
  · rw [i0, i0]; exact ⟨_, ⟨_, rfl⟩, μ, rfl, frR.rf μ, hM⟩
  obtain ⟨σ3, e3, x3⟩ := x_become (N := N) (σ0 := σ2) (h0 := h2) (h := h) hC hH hX
  have x3' := x3
  rw [← setM_self C t] at x3'
  have hM' := hM
  rw [← setM_self C t] at hM'
  rw [i1, i1, nm_d, e3, cl_s, ck_n (by omega) (by omega), nm_d, nm_d, nI_clamp (by omega), hM.2.2.2.1 t ht]
  obtain ⟨z, hz⟩ := l_x_fit (σ := σ) (w := p2) (L := L) (h := h) (S := S) hN hC hH hS hO ht 256 0 N 0 (cM C t) (-5) σ3 (by omega) (by omega) (by omega) (fun _ => rfl) x3'
  obtain ⟨μ4, f4, r4, m4⟩ := l_m_fit (w := p2) (S := S) hN hC hH hR ht 256 N (cM C t) μ (by omega) (by omega) hM' (frR.rf μ)
  rw [if_pos rfl, Nat.zero_add] at hz
  exact ⟨_, ⟨z, hz⟩, μ4, f4, r4, m4⟩
/-- which go now, bits -/
def goB (C : Cr) (S : Sn) (H : List Nat) (d k : Nat) : Nat := bs ((List.range k).filter (fun t => goesS C S H d t))
theorem goB_s (C : Cr) (S : Sn) (H : List Nat) (d k : Nat) : goB C S H d (k + 1) = if goesS C S H d k = true then goB C S H d k ||| 2 ^ k else goB C S H d k := by
  unfold goB
  rw [List.range_succ, List.filter_append]
  by_cases h : goesS C S H d k = true
  · rw [if_pos h, show [k].filter (fun t => goesS C S H d t) = [k] from by simp [h], bs_app]
  · rw [if_neg h, show [k].filter (fun t => goesS C S H d t) = [] from by simp [h], List.append_nil]
theorem x_goingBits (hN : 1000 ≤ N) (hC : Wf C) (hH : WfH C H d) (hX : XS σ C H d) (hS : XT L h S) (hO : SnOk S) : ∃ g, f_X2_goingBits N L σ h = some (nI (goB C S H d (cT C)), sA σ 10 g) := by
  have hT := hC.1
  have key : ∀ (j k n : Nat) (f : Nat → Int32), k + j = cT C → j < n → ∃ g, l_X2_goingBits_4 N L h n (sA σ 10 f) (nI (goB C S H d k)) (nI k) = some (nI (goB C S H d (cT C)), sA σ 10 g) := by
    intro j
    induction j with
    | zero =>
      intro k n f hk hn
      obtain ⟨n, rfl⟩ : ∃ m, n = m + 1 := ⟨n - 1, by omega⟩
      obtain rfl : k = cT C := by omega
      rw [l_X2_goingBits_4, (hX.t10 f).1, if_pos (nI_le (Nat.le_refl _) (by omega))]
      exact ⟨f, rfl⟩
    | succ j ih =>
      intro k n f hk hn
      obtain ⟨n, rfl⟩ : ∃ m, n = m + 1 := ⟨n - 1, by omega⟩
      obtain ⟨g, hg⟩ := x_goes (N := N) (t := k) hN hC hH (hX.t10 f) (by omega) hS hO
      have es : sA (sA σ 10 f) 10 g = sA σ 10 g := by
        funext x
        by_cases hx : x = 10
        · subst hx; rw [sA_s, sA_s]
        · rw [sA_n _ _ hx, sA_n _ _ hx, sA_n _ _ hx]
      have i2 := ih (k + 1) n g (by omega) (by omega)
      rw [goB_s] at i2
      rw [l_X2_goingBits_4, (hX.t10 f).1, if_neg (nI_ge (by omega) (by omega)), hg, cl_s, es]
      dsimp only
      cases hb : goesS C S H d k
      · rw [hb, if_neg (by decide)] at i2
        rw [i0, nm_d, nI_1]; exact i2
      · rw [hb, if_pos rfl] at i2
        rw [i1, nm_d, nm_d, nI_1, shl_t k (by omega), nI_or]; exact i2
  have same : sA σ 10 (σ 10) = σ := by
    funext x
    by_cases hx : x = 10
    · subst hx; rw [sA_s]
    · rw [sA_n _ _ hx]
  obtain ⟨g, hg⟩ := key (cT C) 0 N (σ 10) (by omega) (by omega)
  rw [same] at hg
  exact ⟨g, hg⟩
theorem m_goingSet (hN : 1000 ≤ N) (hC : Wf C) (hH : WfH C H d) (hM : MS μ C H d) (hR : MT μ S) : ∃ μ', f_X8_goingSet N μ = some (nI (goB C S H d (cT C)), μ') ∧ frR μ μ' ∧ MS μ' C H d := by
  have hT := hC.1
  have key : ∀ (j k n : Nat) (ν : St), k + j = cT C → j < n → frR μ ν → MS ν C H d → ∃ μ', l_X8_goingSet_4 N n ν (nI (goB C S H d k)) (nI k) = some (nI (goB C S H d (cT C)), μ') ∧ frR μ μ' ∧ MS μ' C H d := by
    intro j
    induction j with
    | zero =>
      intro k n ν hk hn hf hM
      obtain ⟨n, rfl⟩ : ∃ m, n = m + 1 := ⟨n - 1, by omega⟩
      obtain rfl : k = cT C := by omega
      rw [l_X8_goingSet_4, hM.1, if_pos (nI_le (Nat.le_refl _) (by omega))]
      exact ⟨ν, rfl, hf, hM⟩
    | succ j ih =>
      intro k n ν hk hn hf hM
      obtain ⟨n, rfl⟩ : ∃ m, n = m + 1 := ⟨n - 1, by omega⟩
      obtain ⟨g, hg⟩ := m_goes (N := N) (t := k) hN hC hH hM (by omega) (frR.mt hR hf)
      have i2 := ih (k + 1) n _ (by omega) (by omega) (hf.tr (fr25 g)) (hM.t25 g)
      rw [goB_s] at i2
      rw [l_X8_goingSet_4, hM.1, if_neg (nI_ge (by omega) (by omega)), hg, cl_s]
      dsimp only
      cases hb : goesS C S H d k
      · rw [hb, if_neg (by decide)] at i2
        rw [i0, nm_d, nm_d, nI_1, show (0 : Int32) = nI 0 from rfl, nI_or, Nat.or_zero]; exact i2
      · rw [hb, if_pos rfl] at i2
        rw [i1, nm_d, nm_d, nI_1, shl_t k (by omega), nI_or]; exact i2
  exact key (cT C) 0 N μ (by omega) (by omega) (frR.rf μ) hM
/-- only asked, but for the class's own note of what a test asks -/
def Noted {α : Type} (σ μ : St) (C : Cr) (H : List Nat) (d : Nat) (o : Option (α × St)) (r : Option (α × St)) : Prop := ∃ a, (∃ g, o = some (a, sA σ 10 g)) ∧ ∃ μ', r = some (a, μ') ∧ frR μ μ' ∧ MS μ' C H d
theorem same10 (σ : St) : sA σ 10 (σ 10) = σ := by
  funext x
  by_cases hx : x = 10
  · subst hx; rw [sA_s]
  · rw [sA_n _ _ hx]
theorem Noted.mk {α : Type} (hM : MS μ C H d) (a : α) : Noted σ μ C H d (some (a, σ)) (some (a, μ)) := ⟨a, ⟨σ 10, by rw [same10]⟩, μ, rfl, frR.rf μ, hM⟩
theorem op_told (hN : 1000 ≤ N) (hG : GI L h σ μ C S H d) (p1 : Int32) : Noted σ μ C H d (f_X7_told N L σ h p1) (f_X8_told N μ p1) := by
  obtain ⟨hC, hH, hX, hM, hS, hR, hO, hd⟩ := hG
  have hT := hC.1
  have hr := hR μ (fun _ _ => rfl) N hN
  unfold f_X7_told f_X8_told
  by_cases c0 : p1 = 0
  · rw [if_pos c0, if_pos c0, hX.2.2.2.2.2.2.2.2.2, hM.2.2.2.2.2.2.2]; exact Noted.mk hM _
  rw [if_neg c0, if_neg c0]
  by_cases c1 : p1 = 1
  · rw [if_pos c1, if_pos c1, x_needNow hS, hr.1, cl_s, cl_s]; exact Noted.mk hM _
  rw [if_neg c1, if_neg c1]
  by_cases c2 : p1 = 2
  · rw [if_pos c2, if_pos c2, x_holdNow hS, hr.2.1, cl_s, cl_s]; exact Noted.mk hM _
  rw [if_neg c2, if_neg c2]
  by_cases c3 : p1 = 3
  · rw [if_pos c3, if_pos c3, hX.2.2.2.2.2.2.2.2.1, m_hadSet hN hC hH hM, cl_s]; exact Noted.mk hM _
  rw [if_neg c3, if_neg c3]
  by_cases c4 : p1 = 4
  · obtain ⟨g, hg⟩ := x_goingBits (N := N) hN hC hH hX hS hO
    obtain ⟨μ', e, hf, hm⟩ := m_goingSet (N := N) hN hC hH hM hR
    rw [if_pos c4, if_pos c4, hg, e, cl_s, cl_s]
    exact ⟨_, ⟨g, rfl⟩, μ', rfl, hf, hm⟩
  rw [if_neg c4, if_neg c4]
  by_cases c5 : p1 = 5
  · rw [if_pos c5, if_pos c5, x_marksHad hN hC hH hX, m_hadMarks hN hC hH hM, cl_s, cl_s]; exact Noted.mk hM _
  rw [if_neg c5, if_neg c5]
  by_cases c6' : p1 = 6
  · obtain ⟨a, e1, e2⟩ := op_twins (N := N) hN hC hX hM
    rw [if_pos c6', if_pos c6', e1, e2, cl_s, cl_s]; exact Noted.mk hM _
  rw [if_neg c6', if_neg c6']
  by_cases c7 : p1 = 7
  · obtain ⟨a, e1, e2⟩ := op_cover (N := N) hN hC hX hM
    rw [if_pos c7, if_pos c7, e1, e2, cl_s, cl_s]; exact Noted.mk hM _
  rw [if_neg c7, if_neg c7]
  exact Noted.mk hM _
theorem op_of (hN : 1000 ≤ N) (hG : GI L h σ μ C S H d) (p1 p2 : Int32) : Noted σ μ C H d (f_X7_of N L σ h p1 p2) (f_X8_of N μ p1 p2) := by
  obtain ⟨hC, hH, hX, hM, hS, hR, hO, hd⟩ := hG
  have hT := hC.1
  have hr := hR μ (fun _ _ => rfl) N hN
  unfold f_X7_of f_X8_of
  rcases two_things (N := N) hC hX hM p1 with ⟨a, b⟩ | ⟨a, b, t, ht, rfl⟩
  · rw [a, b, cl_s, cl_s, i0, i0]; exact Noted.mk hM _
  rw [a, b, cl_s, cl_s, i1, i1]
  by_cases c0 : p2 = 0
  · rw [if_pos c0, if_pos c0, ck_n (by omega) (by omega), ck_n (by omega) (by omega), nI_clamp (by omega), hX.2.1 t ht, hM.2.1 t ht]; exact Noted.mk hM _
  rw [if_neg c0, if_neg c0]
  by_cases c1 : p2 = 1
  · rw [if_pos c1, if_pos c1, ck_n (by omega) (by omega), ck_n (by omega) (by omega), nI_clamp (by omega), hX.2.2.1 t ht, hM.2.2.1 t ht]; exact Noted.mk hM _
  rw [if_neg c1, if_neg c1]
  by_cases c2 : p2 = 2
  · rw [if_pos c2, if_pos c2, ck_n (by omega) (by omega), ck_n (by omega) (by omega), nI_clamp (by omega), hX.2.2.2.1 t ht, hM.2.2.2.1 t ht]; exact Noted.mk hM _
  rw [if_neg c2, if_neg c2]
  by_cases c3 : p2 = 3
  · rw [if_pos c3, if_pos c3, x_placeInHad hN hC hH hX ht, m_placeOf hN hC hH hM ht, cl_s, cl_s]; exact Noted.mk hM _
  rw [if_neg c3, if_neg c3]
  by_cases c4 : p2 = 4
  · obtain ⟨g, hg⟩ := x_tasteOf (N := N) hN hC hH hX ht hS hO
    obtain ⟨f, hf⟩ := hr.2.2 C H d t hC hH hM ht
    rw [if_pos c4, if_pos c4, hg, hf, cl_s, cl_s]
    exact ⟨_, ⟨g, rfl⟩, _, rfl, fr25 f, hM.t25 f⟩
  rw [if_neg c4, if_neg c4]
  by_cases c5 : p2 = 5
  · rw [if_pos c5, if_pos c5, x_alikeOf hN hC hH hX ht, m_alikeOf hN hC hH hM ht, cl_s, cl_s]; exact Noted.mk hM _
  rw [if_neg c5, if_neg c5]
  by_cases c6' : p2 = 6
  · obtain ⟨g, hg⟩ := x_goes (N := N) (t := t) hN hC hH hX ht hS hO
    obtain ⟨f, hf⟩ := m_goes (N := N) (t := t) hN hC hH hM ht hR
    rw [if_pos c6', if_pos c6', hg, hf, cl_s, cl_s]
    dsimp only
    cases hb : goesS C S H d t
    · rw [i0, i0]; exact ⟨_, ⟨g, rfl⟩, _, rfl, fr25 f, hM.t25 f⟩
    · rw [i1, i1]; exact ⟨_, ⟨g, rfl⟩, _, rfl, fr25 f, hM.t25 f⟩
  rw [if_neg c6', if_neg c6']
  exact Noted.mk hM _
end
