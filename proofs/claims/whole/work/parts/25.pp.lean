/-! ===== pure layer P: odds, mean, ends ===== -/
section
variable {N : Nat} {L : List SR} {h h2 : Option SR} {σ σ2 μ s : St} {C : Cr} {S : Sn} {H : List Nat} {d : Nat} {P : Nt}
theorem eu : ∀ (B a b n n' k : Nat), b ≤ B → (0 < a ∨ 0 < b) → a < 2 ^ 20 → b < 2 ^ 20 → k + B < 100 → B < n → B < n' → ∃ g, 0 < g ∧ g < 2 ^ 20 ∧ l_X7_greatestDivisor_7 N n (nI a) (nI b) (nI k) = some (nI g) ∧ l_X8_divisor_5 N n' (nI a) (nI b) = some (nI g) := by
  intro B
  induction B with
  | zero =>
    intro a b n n' k hb hp ha hb2 hk hn hn'
    obtain ⟨n, rfl⟩ : ∃ m, n = m + 1 := ⟨n - 1, by omega⟩
    obtain ⟨n', rfl⟩ : ∃ m, n' = m + 1 := ⟨n' - 1, by omega⟩
    obtain rfl : b = 0 := by omega
    rw [l_X7_greatestDivisor_7, l_X8_divisor_5, if_neg (show ¬ (100 : Int32) ≤ nI k from nI_ge (b := 100) (by omega) (by omega)), if_pos (show nI 0 = 0 from rfl), if_pos (show nI 0 = 0 from rfl)]
    exact ⟨a, by omega, ha, rfl, rfl⟩
  | succ B ih =>
    intro a b n n' k hb hp ha hb2 hk hn hn'
    obtain ⟨n, rfl⟩ : ∃ m, n = m + 1 := ⟨n - 1, by omega⟩
    obtain ⟨n', rfl⟩ : ∃ m, n' = m + 1 := ⟨n' - 1, by omega⟩
    rw [l_X7_greatestDivisor_7, l_X8_divisor_5, if_neg (show ¬ (100 : Int32) ≤ nI k from nI_ge (b := 100) (by omega) (by omega))]
    by_cases h0 : b = 0
    · subst h0
      rw [if_pos (show nI 0 = 0 from rfl), if_pos (show nI 0 = 0 from rfl)]
      exact ⟨a, by omega, ha, rfl, rfl⟩
    · have hne : ¬ nI b = 0 := nI_ne0 (by omega) (by omega)
      have hlt : a % b < b := Nat.mod_lt _ (by omega)
      rw [if_neg hne, if_neg hne, cz_f hne, cz_f hne, nm_d, nm_d, nm_d, pk_rem (by omega) (by omega) (by omega), nI_1]
      exact ih b (a % b) n n' (k + 1) (by omega) (Or.inl (by omega)) (by omega) (by omega) (by omega) (by omega) (by omega)
theorem frac (hN : 1000 ≤ N) (a b : Nat) (ha : a ≤ 48) (hb : b ≤ 6) (part : Int32) : ∃ r, f_X7_partOfFraction N (nI a) (nI b) part = some r ∧ (wn part 0 1 = true → 0 < b → f_X8_lowest N (nI a) (nI b) part = some r) ∧ (wn part 0 1 = false ∨ b = 0 → r = -9223372036854775808) := by
  unfold f_X7_partOfFraction f_X8_lowest
  by_cases h0 : b = 0
  · subst h0
    rw [if_pos (show nI 0 ≤ 0 from by decide)]
    exact ⟨_, rfl, fun _ z => by omega, fun _ => rfl⟩
  rw [if_neg (nI_nle (by omega) (by omega)), f_within, cl_s]
  cases hw : wn part 0 1
  · rw [i0]; exact ⟨_, rfl, fun z => absurd z (by decide), fun _ => rfl⟩
  obtain ⟨g, hg, hg2, e1, e2⟩ := eu (N := N) 6 a b N N 0 hb (Or.inr (by omega)) (by omega) (by omega) (by omega) (by omega) (by omega)
  have e1' : f_X7_greatestDivisor N (nI a) (nI b) = some (nI g) := e1
  have e2' : f_X8_divisor N (nI a) (nI b) = some (nI g) := e2
  rw [i1, e1', e2', cl_s, cl_s, if_pos (show (0 : Int32) < nI g from nI_lt (a := 0) hg (by omega))]
  have hne : ¬ nI g = 0 := nI_ne0 hg (by omega)
  by_cases hp : part = 0
  · rw [if_pos hp, cz_f hne]; exact ⟨_, rfl, fun _ _ => rfl, fun z => z.elim (fun z => absurd z (by decide)) (fun z => absurd z h0)⟩
  · rw [if_neg hp, cz_f hne]; exact ⟨_, rfl, fun _ _ => rfl, fun z => z.elim (fun z => absurd z (by decide)) (fun z => absurd z h0)⟩
/-- whether q are had behind m days, if t's marks are lost -/
def lost (C : Cr) (S : Sn) (H : List Nat) (d m : Nat) (q : Int32) (t : Nat) : Bool := decide (q ≤ nI (dH (setM C t 0) S H d m).length)
theorem l_x_odds {m : Nat} {q part : Int32} {r : Int64} {tot : Nat} (hN : 1000 ≤ N) (hC : Wf C) (hH : WfH C H d) (hX : XS σ C H d) (hS : XT L h S) (hO : SnOk S) (hd : d ≤ 9999) (hm : m ≤ 60) (hr : f_X7_partOfFraction N (nI tot) (nI (cT C)) part = some r) : ∀ (j k n a : Nat) (σ2 : St) (h2 : Option SR), k + j = cT C → j < n → a + cd (lost C S H d m q) j k = tot → ∃ z, l_X7_odds_30 N L σ h (nI m) q part n σ2 h2 (nI a) (nI k) = some (r, z) := by
  have hT := hC.1
  intro j
  induction j with
  | zero =>
    intro k n a σ2 h2 hk hn ht
    obtain ⟨n, rfl⟩ : ∃ m, n = m + 1 := ⟨n - 1, by omega⟩
    rw [cd, Nat.add_zero] at ht
    rw [l_X7_odds_30, hX.1, if_pos (nI_le (by omega) (by omega)), ht, hr, cl_s]
    exact ⟨_, rfl⟩
  | succ j ih =>
    intro k n a σ2 h2 hk hn ht
    obtain ⟨n, rfl⟩ : ∃ m, n = m + 1 := ⟨n - 1, by omega⟩
    rw [cd] at ht
    obtain ⟨σ3, e3, x3⟩ := x_become (N := N) (σ0 := σ2) (h0 := h2) (h := h) hC hH hX
    have x4 := x3.setM (t := k) (m := 0)
    obtain ⟨σ5, e5, x5⟩ := x_daysGo (n := m) hN (hC.setM (t := k) (m := 0) (by omega)) hH x4 hS hO (by omega) (by omega)
    rw [l_X7_odds_30, hX.1, if_neg (nI_ge (by omega) (by omega)), e3, cl_s, ck_n (by omega) (by omega), nm_d, nI_clamp (by omega)]
    dsimp only
    have e5' : f_X2_daysGo N L (sA σ3 3 (upd (σ3 3) k 0)) h (nI m) = some σ5 := e5
    rw [e5', cl_s, x5.2.2.2.2.2.2.1]
    by_cases hq : nI (dH (setM C k 0) S H d m).length < q
    · have hl : lost C S H d m q k = false := by unfold lost; rw [decide_eq_false_iff_not, ← i32_nlt]; exact fun z => z hq
      rw [hl, if_neg (by decide), Nat.zero_add] at ht
      rw [if_pos hq, nm_d, nI_1]
      exact ih (k + 1) n a σ5 h (by omega) (by omega) ht
    · have hl : lost C S H d m q k = true := by unfold lost; rw [decide_eq_true_eq, ← i32_nlt]; exact hq
      rw [hl, if_pos rfl] at ht
      rw [if_neg hq, nm_d, nm_d, nI_1, nI_1]
      exact ih (k + 1) n (a + 1) σ5 h (by omega) (by omega) (by omega)
theorem l_m_odds {m : Nat} {q part : Int32} {r : Int64} {tot : Nat} (hN : 1000 ≤ N) (hC : Wf C) (hH : WfH C H d) (hR : MT μ S) (hd : d ≤ 9999) (hm : m ≤ 60) (hr : f_X8_lowest N (nI tot) (nI (cT C)) part = some r) : ∀ (j k n a : Nat) (ν : St), k + j = cT C → j < n → a + cd (lost C S H d m q) j k = tot → MS ν C H d → frR μ ν → ∃ μ', l_X8_odds_43 N (nI m) q part n ν (nI a) (nI k) = some (r, μ') ∧ frR μ μ' ∧ MS μ' C H d := by
  have hT := hC.1
  intro j
  induction j with
  | zero =>
    intro k n a ν hk hn ht hM hf
    obtain ⟨n, rfl⟩ : ∃ m, n = m + 1 := ⟨n - 1, by omega⟩
    rw [cd, Nat.add_zero] at ht
    rw [l_X8_odds_43, hM.1, if_pos (nI_le (by omega) (by omega)), ht, hr, cl_s]
    exact ⟨ν, rfl, hf, hM⟩
  | succ j ih =>
    intro k n a ν hk hn ht hM hf
    obtain ⟨n, rfl⟩ : ∃ m, n = m + 1 := ⟨n - 1, by omega⟩
    rw [cd] at ht
    have m1 := hM.setM (t := k) (m := 0)
    have hC0 := hC.setM (t := k) (m := 0) (by omega)
    have hf1 : frR μ (sA ν 5 (upd (ν 5) k (nI 0))) := hf.tr (fun k hk => sA_n _ _ (scr_ne hk rfl))
    obtain ⟨ν3, f3, k3, m3, r3⟩ := m_save (N := N) hN hC0 hH m1
    have hf3 := hf1.tr (frK r3)
    obtain ⟨ν4, f4, m4, r4⟩ := m_goDays (N := N) (n := m) hN hC0 hH m3 (frR.mt hR hf3) (by omega) (by omega)
    have hf4 := hf3.tr (fr4 r4)
    obtain ⟨ν5, f5, m5, r5⟩ := m_back (N := N) hN hC0 hH (k3.mono (fun k hk => r4 k (by omega) (by omega) (by omega) (by omega))) m4
    have hf5 := hf4.tr (fr3 r5)
    have m6 := m5.setM (t := k) (m := cM C k)
    rw [setM_setM, setM_self] at m6
    have hf6 : frR μ (sA ν5 5 (upd (ν5 5) k (nI (cM C k)))) := hf5.tr (fun k hk => sA_n _ _ (scr_ne hk rfl))
    have f3' : f_X8_save N (sA ν 5 (upd (ν 5) k 0)) = some ν3 := f3
    rw [l_X8_odds_43, hM.1, if_neg (nI_ge (by omega) (by omega)), ck_n (by omega) (by omega), nm_d, ck_n (by omega) (by omega), nm_d, nI_clamp (by omega), hM.2.2.2.1 k (by omega), f3', cl_s, f4, cl_s, m4.2.2.2.2.2.1]
    by_cases hq : nI (dH (setM C k 0) S H d m).length < q
    · have hl : lost C S H d m q k = false := by unfold lost; rw [decide_eq_false_iff_not, ← i32_nlt]; exact fun z => z hq
      rw [hl, if_neg (by decide), Nat.zero_add] at ht
      rw [if_pos hq, nm_d, f5, cl_s, ck_n (by omega) (by omega), nm_d, nm_d, nI_1, show (0 : Int32) = nI 0 from rfl, nI_add, Nat.add_zero]
      exact ih (k + 1) n a _ (by omega) (by omega) ht m6 hf6
    · have hl : lost C S H d m q k = true := by unfold lost; rw [decide_eq_true_eq, ← i32_nlt]; exact hq
      rw [hl, if_pos rfl] at ht
      rw [if_neg hq, nm_d, f5, cl_s, ck_n (by omega) (by omega), nm_d, nm_d, nI_1, nI_1]
      exact ih (k + 1) n (a + 1) _ (by omega) (by omega) (by omega) m6 hf6
theorem op_odds (hN : 1000 ≤ N) (hG : GI L h σ μ C S H d) (p1 p2 p3 : Int32) : Asked μ C H d (f_X7_odds N L σ h σ2 h2 p1 p2 p3) (f_X8_odds N μ p1 p2 p3) := by
  obtain ⟨hC, hH, hX, hM, hS, hR, hO, hd⟩ := hG
  have hT := hC.1
  unfold f_X7_odds f_X8_odds
  rw [f_within, cl_s, f_isDays, cl_s]
  cases hw : wn p1 0 60
  · rw [i0, i0]; exact ⟨_, ⟨_, rfl⟩, μ, rfl, frR.rf μ, hM⟩
  obtain ⟨m, hm, rfl⟩ := wn_nat (n := 60) (by omega) hw
  rw [i1, i1, f_within, cl_s, f_isMany, cl_s]
  cases hw2 : wn p2 0 6
  · rw [i0, i0]; exact ⟨_, ⟨_, rfl⟩, μ, rfl, frR.rf μ, hM⟩
  rw [i1, i1]
  have hc := cd_le (lost C S H d m p2) (cT C) 0
  obtain ⟨r, r1, r2, r3⟩ := frac (N := N) hN (cd (lost C S H d m p2) (cT C) 0) (cT C) (by omega) hT p3
  obtain ⟨z, hz⟩ := l_x_odds (σ := σ) (q := p2) (part := p3) (L := L) (h := h) (S := S) hN hC hH hX hS hO hd hm r1 (cT C) 0 N 0 σ2 h2 (by omega) (by omega) (by omega)
  have hz' : l_X7_odds_30 N L σ h (nI m) p2 p3 N σ2 h2 0 0 = some (r, z) := hz
  rw [hz', f_in, cl_s]
  cases hw3 : wn p3 0 1
  · rw [i0, r3 (Or.inl hw3)]; exact ⟨_, ⟨_, rfl⟩, μ, rfl, frR.rf μ, hM⟩
  rw [i1, hM.1]
  by_cases h0 : cT C = 0
  · rw [h0, if_pos (show nI 0 = 0 from rfl), r3 (Or.inr h0)]; exact ⟨_, ⟨_, rfl⟩, μ, rfl, frR.rf μ, hM⟩
  · rw [if_neg (nI_ne0 (by omega) (by omega))]
    obtain ⟨μ', e, hf, hm'⟩ := l_m_odds (q := p2) (part := p3) (S := S) hN hC hH hR hd hm (r2 hw3 (by omega)) (cT C) 0 N 0 μ (by omega) (by omega) (by omega) hM (frR.rf μ)
    exact ⟨r, ⟨_, rfl⟩, μ', e, hf, hm'⟩
/-- all marks counted, from k on -/
def smM (C : Cr) : Nat → Nat → Nat
  | 0, _ => 0
  | j + 1, k => pn (cM C k) + smM C j (k + 1)
theorem smM_le (hC : Wf C) : ∀ j k, k + j ≤ cT C → smM C j k ≤ 8 * j
  | 0, _, _ => Nat.le_refl _
  | j + 1, k, hk => by
    have h1 := smM_le hC j (k + 1) (by omega)
    have h2 := (pc_pn (cM C k) (by have := hC.2.2.2.1 k (by omega); omega)).2
    unfold smM; omega
theorem op_mean (hN : 1000 ≤ N) (hG : GI L h σ μ C S H d) (p1 : Int32) : ∃ a, f_X7_mean N σ p1 = some a ∧ f_X8_mean N μ p1 = some a := by
  obtain ⟨hC, hH, hX, hM, hS, hR, hO, hd⟩ := hG
  have hT := hC.1
  have hc := smM_le hC (cT C) 0 (by omega)
  obtain ⟨r, r1, r2, r3⟩ := frac (N := N) hN (smM C (cT C) 0) (cT C) (by omega) hT p1
  have kx : ∀ (j k n a : Nat), k + j = cT C → j < n → a + smM C j k = smM C (cT C) 0 → l_X7_mean_4 N σ p1 n (nI a) (nI k) = some r := by
    intro j
    induction j with
    | zero =>
      intro k n a hk hn ht
      obtain ⟨n, rfl⟩ : ∃ m, n = m + 1 := ⟨n - 1, by omega⟩
      rw [smM, Nat.add_zero] at ht
      rw [l_X7_mean_4, hX.1, if_pos (nI_le (by omega) (by omega)), ht, r1, cl_s]
    | succ j ih =>
      intro k n a hk hn ht
      obtain ⟨n, rfl⟩ : ∃ m, n = m + 1 := ⟨n - 1, by omega⟩
      rw [smM] at ht
      rw [l_X7_mean_4, hX.1, if_neg (nI_ge (by omega) (by omega)), ck_n (by omega) (by omega), f_bitCount, cl_s, nI_clamp (by omega), hX.2.2.2.1 k (by omega), (pc_pn (cM C k) (by have := hC.2.2.2.1 k (by omega); omega)).1, nI_add, nm_d, nm_d, nI_1]
      exact ih (k + 1) n _ (by omega) (by omega) (by omega)
  have km : wn p1 0 1 = true → 0 < cT C → ∀ (j k n a : Nat), k + j = cT C → j < n → a + smM C j k = smM C (cT C) 0 → l_X8_mean_25 N μ p1 n (nI a) (nI k) = some r := by
    intro hw hp j
    induction j with
    | zero =>
      intro k n a hk hn ht
      obtain ⟨n, rfl⟩ : ∃ m, n = m + 1 := ⟨n - 1, by omega⟩
      rw [smM, Nat.add_zero] at ht
      rw [l_X8_mean_25, hM.1, if_pos (nI_le (by omega) (by omega)), ht, r2 hw hp, cl_s]
    | succ j ih =>
      intro k n a hk hn ht
      obtain ⟨n, rfl⟩ : ∃ m, n = m + 1 := ⟨n - 1, by omega⟩
      rw [smM] at ht
      have hmk := hC.2.2.2.1 k (by omega)
      rw [l_X8_mean_25, hM.1, if_neg (nI_ge (by omega) (by omega)), ck_n (by omega) (by omega), nI_clamp (by omega), hM.2.2.2.1 k (by omega), f_bits (by omega) (by omega), cl_s, (pc_pn (cM C k) (by omega)).1, nI_add, nm_d, nm_d, nI_1]
      exact ih (k + 1) n _ (by omega) (by omega) (by omega)
  unfold f_X7_mean f_X8_mean
  refine ⟨r, kx (cT C) 0 N 0 (by omega) (by omega) (by omega), ?_⟩
  rw [f_in, cl_s]
  cases hw : wn p1 0 1
  · rw [i0, r3 (Or.inl hw)]
  rw [i1, hM.1]
  by_cases h0 : cT C = 0
  · rw [h0, if_pos (show nI 0 = 0 from rfl), r3 (Or.inr h0)]
  · rw [if_neg (nI_ne0 (by omega) (by omega))]
    exact km hw (by omega) (cT C) 0 N 0 (by omega) (by omega) (by omega)
/-- a row of the week -/
def wstep (C : Cr) (S : Sn) (q : List Nat × Nat) (e : Nat × Nat) : List Nat × Nat := if e.1 = 0 then (dayS C S q.1 q.2, q.2 + 1) else if e.1 = 1 then (q.1.dropLast, q.2) else if goesS C S q.1 q.2 e.2 = true then (q.1 ++ [e.2], q.2) else q
theorem drop_last (hl : ¬ H = []) : ∃ H0 t, H = H0 ++ [t] ∧ H.dropLast = H0 := ⟨H.dropLast, H.getLast hl, (List.dropLast_concat_getLast hl).symm, rfl⟩
theorem wstep_wf {e : Nat × Nat} (hH : WfH C H d) (hd : d < 20000) (he : e.1 ≤ 2 ∧ (e.1 = 2 → e.2 < cT C)) : WfH C (wstep C S (H, d) e).1 (wstep C S (H, d) e).2 ∧ (wstep C S (H, d) e).2 ≤ d + 1 := by
  unfold wstep
  by_cases h0 : e.1 = 0
  · rw [if_pos h0]; exact ⟨dayS_wf hH (by omega), Nat.le_refl _⟩
  rw [if_neg h0]
  by_cases h1 : e.1 = 1
  · rw [if_pos h1]
    by_cases hl : H = []
    · subst hl; exact ⟨hH, by simp⟩
    · obtain ⟨H0, t, e1, e2⟩ := drop_last hl
      dsimp only
      rw [e2]; rw [e1] at hH
      exact ⟨hH.pop.1, by omega⟩
  rw [if_neg h1]
  by_cases hg : goesS C S H d e.2 = true
  · rw [if_pos hg]; exact ⟨hH.push (he.2 (by omega)) (goes_new hg).1, by simp⟩
  · rw [if_neg hg]; exact ⟨hH, by simp⟩
theorem x_week (hN : 1000 ≤ N) (hC : Wf C) (hS : XT L h S) (hO : SnOk S) (hx : XN s P) (hw : WfN (cT C) P) : ∀ (j i n : Nat) (H : List Nat) (d : Nat) (σ : St), i + j = P.2.1.length → j < n → d + j < 20000 → WfH C H d → XS σ C H d → ∃ σ', l_X1_goThroughWeek_2 N L s h n σ (nI i) = some σ' ∧ XS σ' C ((P.2.1.drop i).foldl (wstep C S) (H, d)).1 ((P.2.1.drop i).foldl (wstep C S) (H, d)).2 ∧ WfH C ((P.2.1.drop i).foldl (wstep C S) (H, d)).1 ((P.2.1.drop i).foldl (wstep C S) (H, d)).2 := by
  have hT := hC.1
  have hw3 := hw.2.2.1
  intro j
  induction j with
  | zero =>
    intro i n H d σ hi hn hd hH hX
    obtain ⟨n, rfl⟩ : ∃ m, n = m + 1 := ⟨n - 1, by omega⟩
    rw [l_X1_goThroughWeek_2, hx.2.2.1, if_pos (nI_le (by omega) (by omega)), List.drop_eq_nil_of_le (by omega)]
    exact ⟨σ, rfl, hX, hH⟩
  | succ j ih =>
    intro i n H d σ hi hn hd hH hX
    obtain ⟨n, rfl⟩ : ∃ m, n = m + 1 := ⟨n - 1, by omega⟩
    obtain ⟨e, he, hme⟩ := idxG (l := P.2.1) (i := i) (by omega)
    have hwe := hw.2.2.2.1 e hme
    obtain ⟨s1, s2⟩ := hx.2.2.2.1 i e he
    have hws := wstep_wf (S := S) hH (by omega) hwe
    rw [l_X1_goThroughWeek_2, hx.2.2.1, if_neg (nI_ge (by omega) (by omega)), ck_n (by omega) (by omega), nI_clamp (by omega), s1, dropC he, List.foldl_cons]
    by_cases h0 : e.1 = 0
    · obtain ⟨σ3, e3, x3⟩ := x_dayGoes (N := N) hN hC hH hX hS hO
      rw [if_pos (by rw [h0]; rfl), e3, cl_s, nm_d, nI_1]
      have hs : wstep C S (H, d) e = (dayS C S H d, d + 1) := by unfold wstep; rw [if_pos h0]
      rw [hs] at hws ⊢
      exact ih (i + 1) n _ _ σ3 (by omega) (by omega) (by omega) hws.1 x3
    have h0' : ¬ nI e.1 = 0 := nI_ne0 (by omega) (by omega)
    rw [if_neg h0', ck_n (by omega) (by omega)]
    by_cases h1 : e.1 = 1
    · have hs : wstep C S (H, d) e = (H.dropLast, d) := by unfold wstep; rw [if_neg h0, if_pos h1]
      rw [hs] at hws ⊢
      rw [if_pos (by rw [h1]; rfl)]
      by_cases hl : H = []
      · subst hl
        unfold f_X2_layDownNewest
        rw [hX.2.2.2.2.2.2.1, if_pos (show nI ([] : List Nat).length = 0 from rfl), cl_s, nm_d, nI_1]
        exact ih (i + 1) n _ _ σ (by omega) (by omega) (by omega) hws.1 hX
      · obtain ⟨H0, t, e1, e2⟩ := drop_last hl
        rw [e2] at hws ⊢
        rw [e1] at hH hX
        obtain ⟨σ3, e3, x3⟩ := x_layDown (N := N) hC hH hX
        rw [e3, cl_s, nm_d, nI_1]
        exact ih (i + 1) n _ _ σ3 (by omega) (by omega) (by omega) hws.1 x3
    have h1' : ¬ nI e.1 = 1 := fun z => h1 ((nI_eq (b := 1) (by omega) (by omega)).mp z)
    have ht := hwe.2 (by omega)
    rw [if_neg h1', ck_n (by omega) (by omega), s2 (by omega)]
    rcases x_hasThing (N := N) hC hX (nI e.2) with ⟨z1, z2⟩ | ⟨z1, z2⟩
    · exact absurd ⟨e.2, ht, rfl⟩ z2
    obtain ⟨g, hg⟩ := x_goes (N := N) (t := e.2) hN hC hH hX ht hS hO
    rw [z1, cl_s, if_neg (by decide), ck_n (by omega) (by omega), hg, cl_s]
    dsimp only
    cases hb : goesS C S H d e.2
    · have hs : wstep C S (H, d) e = (H, d) := by unfold wstep; rw [if_neg h0, if_neg h1, if_neg (by rw [hb]; decide)]
      rw [hs] at hws ⊢
      rw [i0, nm_d, nI_1]
      exact ih (i + 1) n _ _ _ (by omega) (by omega) (by omega) hws.1 (hX.t10 g)
    · have hs : wstep C S (H, d) e = (H ++ [e.2], d) := by unfold wstep; rw [if_neg h0, if_neg h1, if_pos hb]
      rw [hs] at hws ⊢
      obtain ⟨σ3, e3, x3⟩ := x_pickUp (N := N) hC hH (hX.t10 g) ht (goes_new hb).1
      rw [i1, ck_n (by omega) (by omega), e3, cl_s, nm_d, nI_1]
      exact ih (i + 1) n _ _ σ3 (by omega) (by omega) (by omega) hws.1 x3
theorem m_goWeek {e : Nat × Nat} {v2 : Int32} (hN : 1000 ≤ N) (hC : Wf C) (hH : WfH C H d) (hM : MS μ C H d) (hR : MT μ S) (he : e.1 ≤ 2 ∧ (e.1 = 2 → e.2 < cT C)) (hv : e.1 = 2 → v2 = nI e.2) : ∃ μ', f_X8_goWeek N μ (nI e.1) v2 = some μ' ∧ MS μ' C (wstep C S (H, d) e).1 (wstep C S (H, d) e).2 ∧ ∀ k, k ≠ 1 → k ≠ 2 → k ≠ 7 → k ≠ 25 → μ' k = μ k := by
  have hT := hC.1
  have h6 := len6 hC hH
  unfold f_X8_goWeek
  by_cases h0 : e.1 = 0
  · have hs : wstep C S (H, d) e = (dayS C S H d, d + 1) := by unfold wstep; rw [if_pos h0]
    obtain ⟨μ', e3, x3, r3⟩ := m_goDay (N := N) hN hC hH hM hR
    unfold j_X8_goWeek_8
    rw [hs, h0, if_pos (show nI 0 = 0 from rfl), e3, cl_s, if_neg (show ¬ nI 0 = 1 from by decide), if_neg (show ¬ nI 0 = 2 from by decide)]
    exact ⟨μ', rfl, x3, r3⟩
  have h0' : ¬ nI e.1 = 0 := nI_ne0 (by omega) (by omega)
  unfold j_X8_goWeek_8
  rw [if_neg h0']
  by_cases h1 : e.1 = 1
  · have hs : wstep C S (H, d) e = (H.dropLast, d) := by unfold wstep; rw [if_neg h0, if_pos h1]
    rw [hs, h1, if_pos (show nI 1 = 1 from rfl), hM.2.2.2.2.2.1, if_neg (show ¬ nI 1 = 2 from by decide)]
    by_cases hl : H = []
    · subst hl
      rw [if_pos (show nI ([] : List Nat).length ≤ 0 from by decide)]
      exact ⟨μ, rfl, hM, fun _ _ _ _ _ => rfl⟩
    · obtain ⟨H0, t, e1, e2⟩ := drop_last hl
      have hp : 0 < H.length := List.length_pos_iff.mpr hl
      rw [if_neg (nI_nle hp (by omega)), nm_d, if_neg (show ¬ nI 1 = 2 from by decide)]
      rw [e1] at hM
      have := m_pop hM
      rw [hM.2.2.2.2.2.1, ← e1] at this
      dsimp only
      rw [e2]
      exact ⟨_, rfl, this, fun k h1 _ _ _ => sI_n _ _ h1⟩
  have h1' : ¬ nI e.1 = 1 := fun z => h1 ((nI_eq (b := 1) (by omega) (by omega)).mp z)
  have h2 : e.1 = 2 := by omega
  have ht := he.2 h2
  obtain ⟨g, hg⟩ := m_goes (N := N) (t := e.2) hN hC hH hM ht hR
  rw [if_neg h1', if_pos (by rw [h2]; rfl), hv h2, hg, cl_s]
  dsimp only
  cases hb : goesS C S H d e.2
  · have hs : wstep C S (H, d) e = (H, d) := by unfold wstep; rw [if_neg h0, if_neg h1, if_neg (by rw [hb]; decide)]
    rw [hs, i0]
    exact ⟨_, rfl, hM.t25 g, fun k _ _ _ h25 => sA_n _ _ h25⟩
  · have hs : wstep C S (H, d) e = (H ++ [e.2], d) := by unfold wstep; rw [if_neg h0, if_neg h1, if_pos hb]
    obtain ⟨μ3, e3, x3, r3⟩ := m_pushes (N := N) hC hH (hM.t25 g) ht (goes_new hb).1
    rw [hs, i1, e3, cl_s]
    exact ⟨μ3, rfl, x3, fun k h1 _ h7 h25 => by rw [r3 k h1 h7, sA_n _ _ h25]⟩
theorem l_m_ends {H0 : List Nat} {d0 : Nat} {p1 : Int32} (hN : 1000 ≤ N) (hC : Wf C) (hH0 : WfH C H0 d0) (hR : MT μ S) (hmn : MN μ P) (hw : WfN (cT C) P) : ∀ (j i n : Nat) (H : List Nat) (d : Nat) (ν : St), i + j = P.2.1.length → j < n → d + j < 20000 → WfH C H d → MS ν C H d → KS ν H0 d0 → frR μ ν → ∃ μ', l_X8_ends_18 N p1 n ν (nI i) = some ((if p1 = 0 then nI (bs ((P.2.1.drop i).foldl (wstep C S) (H, d)).1) else pc (nI (hm C ((P.2.1.drop i).foldl (wstep C S) (H, d)).1))), μ') ∧ frR μ μ' ∧ MS μ' C H0 d0 := by
  have hT := hC.1
  have hw3 := hw.2.2.1
  intro j
  induction j with
  | zero =>
    intro i n H d ν hi hn hd hH hM hK hf
    obtain ⟨n, rfl⟩ : ∃ m, n = m + 1 := ⟨n - 1, by omega⟩
    obtain ⟨μ5, f5, m5, r5⟩ := m_back (N := N) hN hC hH0 hK hM
    rw [l_X8_ends_18, (frR.mn hmn hf).2.2.1, if_pos (nI_le (by omega) (by omega)), List.drop_eq_nil_of_le (by omega)]
    by_cases hp : p1 = 0
    · rw [if_pos hp, if_pos hp, m_hadSet hN hC hH hM, cl_s, f5, cl_s]
      exact ⟨μ5, rfl, hf.tr (fr3 r5), m5⟩
    · rw [if_neg hp, if_neg hp, m_hadMarks hN hC hH hM, cl_s, f_bits (by omega) (hm_lt hC hH), cl_s, f5, cl_s]
      exact ⟨μ5, rfl, hf.tr (fr3 r5), m5⟩
  | succ j ih =>
    intro i n H d ν hi hn hd hH hM hK hf
    obtain ⟨n, rfl⟩ : ∃ m, n = m + 1 := ⟨n - 1, by omega⟩
    obtain ⟨e, he, hme⟩ := idxG (l := P.2.1) (i := i) (by omega)
    have hwe := hw.2.2.2.1 e hme
    have hm2 := frR.mn hmn hf
    obtain ⟨s1, s2⟩ := hm2.2.2.2.1 i e he
    have hws := wstep_wf (S := S) hH (by omega) hwe
    obtain ⟨ν3, e3, m3, r3⟩ := m_goWeek (N := N) (v2 := ν 38 i) hN hC hH hM (frR.mt hR hf) hwe s2
    rw [l_X8_ends_18, hm2.2.2.1, if_neg (nI_ge (by omega) (by omega)), ck_n (by omega) (by omega), ck_n (by omega) (by omega), nI_clamp (by omega), s1, e3, cl_s, nm_d, nI_1, dropC he, List.foldl_cons]
    generalize hq : wstep C S (H, d) e = q at hws m3 ⊢
    exact ih (i + 1) n q.1 q.2 ν3 (by omega) (by omega) (by have := hws.2; omega) hws.1 m3 (hK.mono (fun k hk => r3 k (by omega) (by omega) (by omega) (by omega))) (hf.tr (fr4 r3))
theorem op_ends (hN : 1000 ≤ N) (hG : GI L h σ μ C S H d) (hx : XN s P) (hmn : MN μ P) (hw : WfN (cT C) P) (p1 : Int32) : Asked μ C H d (f_X7_ends N L σ h σ2 h2 s p1) (f_X8_ends N μ p1) := by
  obtain ⟨hC, hH, hX, hM, hS, hR, hO, hd⟩ := hG
  have hT := hC.1
  have hw3 := hw.2.2.1
  unfold f_X7_ends f_X8_ends
  rw [f_within, cl_s, f_in, cl_s]
  cases hwn : wn p1 0 1
  · rw [i0, i0]; exact ⟨_, ⟨_, rfl⟩, μ, rfl, frR.rf μ, hM⟩
  obtain ⟨σ3, e3, x3⟩ := x_become (N := N) (σ0 := σ2) (h0 := h2) (h := h) hC hH hX
  obtain ⟨σ4, e4, x4, w4⟩ := x_week (N := N) (L := L) (h := h) (S := S) hN hC hS hO hx hw P.2.1.length 0 N H d σ3 (by omega) (by omega) (by omega) hH x3
  obtain ⟨μ3, f3, k3, m3, r3⟩ := m_save (N := N) hN hC hH hM
  obtain ⟨μ4, f4, r4, m4⟩ := l_m_ends (N := N) (p1 := p1) (S := S) hN hC hH hR hmn hw P.2.1.length 0 N H d μ3 (by omega) (by omega) (by omega) hH m3 k3 (frK r3)
  have e4' : f_X1_goThroughWeek N L s σ3 h = some σ4 := e4
  have f4' : l_X8_ends_18 N p1 N μ3 0 = _ := f4
  rw [i1, i1, e3, cl_s, f3, cl_s, f4']
  dsimp only
  rw [e4', cl_s]
  by_cases hp : p1 = 0
  · rw [if_pos hp, if_pos hp, x4.2.2.2.2.2.2.2.2.1]
    exact ⟨_, ⟨_, rfl⟩, μ4, rfl, r4, m4⟩
  · rw [if_neg hp, if_neg hp, x_marksHad hN hC w4 x4, cl_s, f_bitCount, cl_s]
    exact ⟨_, ⟨_, rfl⟩, μ4, rfl, r4, m4⟩
end
