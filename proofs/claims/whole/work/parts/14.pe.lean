/-! ===== pure layer E: taking, putting back, days ===== -/
theorem upd_s (f : Nat → Int32) (k : Nat) (x : Int32) : upd f k x k = x := pk_us
theorem upd_n {f : Nat → Int32} {k j : Nat} {x : Int32} (h : j ≠ k) : upd f k x j = f j := pk_un h
theorem get_app {H : List Nat} {t i u : Nat} (h : (H ++ [t])[i]? = some u) : (i < H.length ∧ H[i]? = some u) ∨ (i = H.length ∧ u = t) := by
  by_cases hi : i < H.length
  · rw [List.getElem?_append_left hi] at h; exact Or.inl ⟨hi, h⟩
  · rw [List.getElem?_append_right (by omega)] at h
    have : i - H.length < 1 := (List.getElem?_eq_some_iff.mp h).1
    have e : i = H.length := by omega
    rw [e, Nat.sub_self] at h
    exact Or.inr ⟨e, (Option.some.inj h).symm⟩
theorem bs_app (H : List Nat) (t : Nat) : bs (H ++ [t]) = bs H ||| 2 ^ t := by unfold bs; rw [orL_app]; simp [orL]
theorem goes_new {C : Cr} {S : Sn} {H : List Nat} {d t : Nat} (h : goesS C S H d t = true) : ¬ t ∈ H ∧ ¬ S.2.2 ≤ nI H.length := by
  unfold goesS at h
  by_cases hc : t ∈ H ∨ S.2.2 ≤ nI H.length
  · rw [if_pos hc] at h; cases h
  · exact ⟨fun z => hc (Or.inl z), fun z => hc (Or.inr z)⟩
theorem WfH.push {C : Cr} {H : List Nat} {d t : Nat} (h : WfH C H d) (ht : t < cT C) (hn : ¬ t ∈ H) : WfH C (H ++ [t]) d := by
  refine ⟨List.nodup_append.mpr ⟨h.1, by simp, fun a ha b hb => ?_⟩, fun u hu => ?_, h.2.2⟩
  · rw [List.mem_singleton] at hb; rw [hb]; exact fun e => hn (e ▸ ha)
  · rcases List.mem_append.mp hu with z | z
    · exact h.2.1 u z
    · rw [List.mem_singleton] at z; rw [z]; exact ht
theorem WfH.lt {C : Cr} {H : List Nat} {d t : Nat} (h : WfH C H d) (ht : t < cT C) (hn : ¬ t ∈ H) : H.length < cT C := by
  have := (h.push ht hn).len
  simp at this
  omega
theorem WfH.day {C : Cr} {H : List Nat} {d e : Nat} (h : WfH C H d) (he : e < 2 ^ 20) : WfH C H e := ⟨h.1, h.2.1, he⟩
theorem x_pickUp {N : Nat} {σ : St} {C : Cr} {H : List Nat} {d t : Nat} (hC : Wf C) (hH : WfH C H d) (hX : XS σ C H d) (ht : t < cT C) (hn : ¬ t ∈ H) : ∃ σ', f_X2_pickUp N σ (nI t) = some σ' ∧ XS σ' C (H ++ [t]) d := by
  have hT := hC.1
  have hl := hH.lt ht hn
  unfold f_X2_pickUp
  have h6 : ¬ (6 : Int32) ≤ σ 6 0 := by rw [hX.2.2.2.2.2.2.1]; exact nI_ge (b := 6) (by omega) (by omega)
  rw [if_neg h6, x_isHad hC hH hX ht, cl_s]
  have e1 : b2i (decide (t ∈ H)) = 0 := by simp [hn, b2i]
  rw [e1, if_pos rfl, hX.2.2.2.2.2.2.1, ck_n (by omega) (by omega), nm_d, nm_d, nm_d, nI_clamp (by omega)]
  refine ⟨_, rfl, ?_⟩
  obtain ⟨a0, a1, a2, a3, a4, a4', a6, a5, a7, a8⟩ := hX
  refine ⟨by simp [sI_n, sA_n, a0], fun i hi => by simp [sI_n, sA_n, a1 i hi], fun i hi => by simp [sI_n, sA_n, a2 i hi], fun i hi => by simp [sI_n, sA_n, a3 i hi], fun i hi => by simp [sI_n, sA_n, a4 i hi], fun i hi hj => by simp [sI_n, sA_n, a4' i hi hj], ?_, fun i u hu => ?_, ?_, by simp [sI_n, sA_n, a8]⟩
  · simp only [sI_n _ _ (show 6 ≠ 7 by decide), sI_s, sA_n _ _ (show 6 ≠ 5 by decide), a6, nI_1, List.length_append, List.length_cons, List.length_nil]
  · simp only [sI_n _ _ (show 5 ≠ 7 by decide), sI_n _ _ (show 5 ≠ 6 by decide), sA_s]
    rcases get_app hu with ⟨hi, h⟩ | ⟨hi, h⟩
    · rw [upd_n (by omega)]; exact a5 i u h
    · rw [hi, h, upd_s]
  · simp only [sI_s, sI_n _ _ (show 7 ≠ 6 by decide), sA_n _ _ (show 7 ≠ 5 by decide), a7]
    rw [shl_t t (by omega), nI_or, bs_app]
theorem m_pushes {N : Nat} {μ : St} {C : Cr} {H : List Nat} {d t : Nat} (hC : Wf C) (hH : WfH C H d) (hM : MS μ C H d) (ht : t < cT C) (hn : ¬ t ∈ H) : ∃ μ', f_X8_pushes N μ (nI t) = some μ' ∧ MS μ' C (H ++ [t]) d ∧ ∀ k, k ≠ 1 → k ≠ 7 → μ' k = μ k := by
  have hT := hC.1
  have hl := hH.lt ht hn
  unfold f_X8_pushes
  rw [hM.2.2.2.2.2.1, ck_n (by omega) (by omega), nm_d, nm_d, nI_clamp (by omega)]
  refine ⟨_, rfl, ?_, fun k h1 h7 => by rw [sI_n _ _ h1, sA_n _ _ h7]⟩
  obtain ⟨a0, a1, a2, a3, a4, a6, a5, a8⟩ := hM
  refine ⟨by simp [sI_n, sA_n, a0], fun i hi => by simp [sI_n, sA_n, a1 i hi], fun i hi => by simp [sI_n, sA_n, a2 i hi], fun i hi => by simp [sI_n, sA_n, a3 i hi], fun i hi => by simp [sI_n, sA_n, a4 i hi], ?_, fun i u hu => ?_, by simp [sI_n, sA_n, a8]⟩
  · simp only [sI_s, sA_n _ _ (show 1 ≠ 7 by decide), a6, nI_1, List.length_append, List.length_cons, List.length_nil]
  · simp only [sI_n _ _ (show 7 ≠ 1 by decide), sA_s]
    rcases get_app hu with ⟨hi, h⟩ | ⟨hi, h⟩
    · rw [upd_n (by omega)]; exact a5 i u h
    · rw [hi, h, upd_s]
/-- the had behind a day -/
def dayS (C : Cr) (S : Sn) (H : List Nat) (d : Nat) : List Nat := if 0 < cT C ∧ goesS C S H d (d % cT C) = true then H ++ [d % cT C] else H
theorem dayS_wf {C : Cr} {S : Sn} {H : List Nat} {d : Nat} (hH : WfH C H d) (hd : d + 1 < 2 ^ 20) : WfH C (dayS C S H d) (d + 1) := by
  unfold dayS
  by_cases h : 0 < cT C ∧ goesS C S H d (d % cT C) = true
  · rw [if_pos h]
    exact (hH.push (Nat.mod_lt _ h.1) (goes_new h.2).1).day hd
  · rw [if_neg h]; exact hH.day hd
theorem XS.day {σ : St} {C : Cr} {H : List Nat} {d e : Nat} (h : XS σ C H d) : XS (sI σ 8 (nI e)) C H e := by
  obtain ⟨a0, a1, a2, a3, a4, a4', a6, a5, a7, a8⟩ := h
  exact ⟨by simp [sI_n, a0], fun i hi => by simp [sI_n, a1 i hi], fun i hi => by simp [sI_n, a2 i hi], fun i hi => by simp [sI_n, a3 i hi], fun i hi => by simp [sI_n, a4 i hi], fun i hi hj => by simp [sI_n, a4' i hi hj], by simp [sI_n, a6], fun i u hu => by simp [sI_n, a5 i u hu], by simp [sI_n, a7], by simp [sI_s]⟩
theorem MS.day {μ : St} {C : Cr} {H : List Nat} {d e : Nat} (h : MS μ C H d) : MS (sI μ 2 (nI e)) C H e := by
  obtain ⟨a0, a1, a2, a3, a4, a6, a5, a8⟩ := h
  exact ⟨by simp [sI_n, a0], fun i hi => by simp [sI_n, a1 i hi], fun i hi => by simp [sI_n, a2 i hi], fun i hi => by simp [sI_n, a3 i hi], fun i hi => by simp [sI_n, a4 i hi], by simp [sI_n, a6], fun i u hu => by simp [sI_n, a5 i u hu], by simp [sI_s]⟩
theorem x_dayGoes {N : Nat} {L : List SR} {h : Option SR} {S : Sn} {σ : St} {C : Cr} {H : List Nat} {d : Nat} (hN : 1000 ≤ N) (hC : Wf C) (hH : WfH C H d) (hX : XS σ C H d) (hS : XT L h S) (hO : SnOk S) : ∃ σ', f_X2_dayGoes N L σ h = some σ' ∧ XS σ' C (dayS C S H d) (d + 1) := by
  have hT := hC.1
  have hd := hH.2.2
  unfold f_X2_dayGoes
  rw [hX.1]
  by_cases h0 : cT C = 0
  · rw [h0, if_pos (by decide), nm_d, hX.2.2.2.2.2.2.2.2.2, nI_1]
    refine ⟨_, rfl, ?_⟩
    unfold dayS
    rw [if_neg (by omega)]
    exact hX.day
  · have hpos : 0 < cT C := by omega
    rw [if_neg (nI_nle hpos (by omega)), cz_f (nI_ne0 hpos (by omega)), nm_d, hX.2.2.2.2.2.2.2.2.2, pk_rem (by omega) hpos (by omega)]
    obtain ⟨g, hg⟩ := x_goes (t := d % cT C) hN hC hH hX (Nat.mod_lt _ hpos) hS hO
    rw [hg, cl_s]
    unfold dayS
    cases hb : goesS C S H d (d % cT C)
    · rw [if_neg (show ¬ (0 < cT C ∧ false = true) by simp)]
      show ∃ σ', (if b2i false = 0 then _ else _) = some σ' ∧ _
      rw [if_pos (show b2i false = 0 from rfl), nm_d]
      refine ⟨_, rfl, ?_⟩
      have := (hX.t10 g).day (e := d + 1)
      dsimp only
      rw [(hX.t10 g).2.2.2.2.2.2.2.2.2, nI_1]
      exact this
    · rw [if_pos (show 0 < cT C ∧ true = true from ⟨hpos, rfl⟩)]
      show ∃ σ', (if b2i true = 0 then _ else _) = some σ' ∧ _
      obtain ⟨σ2, e2, x2⟩ := x_pickUp (N := N) hC hH (hX.t10 g) (Nat.mod_lt _ hpos) (goes_new hb).1
      rw [if_neg (by decide), e2, cl_s, nm_d, x2.2.2.2.2.2.2.2.2.2, nI_1]
      exact ⟨_, rfl, x2.day⟩
theorem m_goDay {N : Nat} {μ : St} {S : Sn} {C : Cr} {H : List Nat} {d : Nat} (hN : 1000 ≤ N) (hC : Wf C) (hH : WfH C H d) (hM : MS μ C H d) (hS : MT μ S) : ∃ μ', f_X8_goDay N μ = some μ' ∧ MS μ' C (dayS C S H d) (d + 1) ∧ ∀ k, k ≠ 1 → k ≠ 2 → k ≠ 7 → k ≠ 25 → μ' k = μ k := by
  have hT := hC.1
  have hd := hH.2.2
  unfold f_X8_goDay
  rw [hM.1]
  by_cases h0 : cT C = 0
  · rw [h0, if_pos (by decide), nm_d, hM.2.2.2.2.2.2.2, nI_1]
    refine ⟨_, rfl, ?_, fun k _ h2 _ _ => sI_n _ _ h2⟩
    unfold dayS
    rw [if_neg (by omega)]
    exact hM.day
  · have hpos : 0 < cT C := by omega
    rw [if_neg (nI_nle hpos (by omega)), cz_f (nI_ne0 hpos (by omega)), hM.2.2.2.2.2.2.2, pk_rem (by omega) hpos (by omega)]
    obtain ⟨g, hg⟩ := m_goes (t := d % cT C) hN hC hH hM (Nat.mod_lt _ hpos) hS
    rw [hg, cl_s]
    have hM2 := hM.t25 g
    unfold dayS
    cases hb : goesS C S H d (d % cT C)
    · rw [if_neg (show ¬ (0 < cT C ∧ false = true) by simp)]
      show ∃ σ', (if b2i false = 0 then _ else _) = some σ' ∧ _
      dsimp only
      rw [if_pos (show b2i false = 0 from rfl), nm_d, hM2.2.2.2.2.2.2.2, nI_1]
      exact ⟨_, rfl, hM2.day, fun k _ h2 _ h25 => by rw [sI_n _ _ h2, sA_n _ _ h25]⟩
    · rw [if_pos (show 0 < cT C ∧ true = true from ⟨hpos, rfl⟩)]
      show ∃ σ', (if b2i true = 0 then _ else _) = some σ' ∧ _
      obtain ⟨μ2, e2, x2, f2⟩ := m_pushes (N := N) hC hH hM2 (Nat.mod_lt _ hpos) (goes_new hb).1
      dsimp only
      rw [if_neg (by decide), hM2.1, cz_f (nI_ne0 hpos (by omega)), hM2.2.2.2.2.2.2.2, pk_rem (by omega) hpos (by omega), e2, cl_s, nm_d, x2.2.2.2.2.2.2.2, nI_1]
      exact ⟨_, rfl, x2.day, fun k h1 h2 h7 h25 => by rw [sI_n _ _ h2, f2 k h1 h7, sA_n _ _ h25]⟩
/-- the had behind n days -/
def dH (C : Cr) (S : Sn) (H : List Nat) (d : Nat) : Nat → List Nat
  | 0 => H
  | n + 1 => dayS C S (dH C S H d n) (d + n)
theorem dH_wf {C : Cr} {S : Sn} {H : List Nat} {d : Nat} (hH : WfH C H d) : ∀ n : Nat, d + n < 2 ^ 20 → WfH C (dH C S H d n) (d + n)
  | 0, _ => hH
  | n + 1, h => dayS_wf (dH_wf hH n (by omega)) (by omega)
theorem x_daysGo {N : Nat} {L : List SR} {h : Option SR} {S : Sn} {σ : St} {C : Cr} {H : List Nat} {d n : Nat} (hN : 1000 ≤ N) (hC : Wf C) (hH : WfH C H d) (hX : XS σ C H d) (hS : XT L h S) (hO : SnOk S) (hn : n < 900) (hd : d + n < 2 ^ 20) : ∃ σ', f_X2_daysGo N L σ h (nI n) = some σ' ∧ XS σ' C (dH C S H d n) (d + n) := by
  have key : ∀ (j k f : Nat) (σ : St), k + j = n → j < f → XS σ C (dH C S H d k) (d + k) → ∃ σ', l_X2_daysGo_2 N L h (nI n) f σ (nI k) = some σ' ∧ XS σ' C (dH C S H d n) (d + n) := by
    intro j
    induction j with
    | zero =>
      intro k f σ hk hf hX
      obtain ⟨f, rfl⟩ : ∃ m, f = m + 1 := ⟨f - 1, by omega⟩
      have : k = n := by omega
      subst this
      rw [l_X2_daysGo_2, if_pos (nI_le (Nat.le_refl _) (by omega))]
      exact ⟨σ, rfl, hX⟩
    | succ j ih =>
      intro k f σ hk hf hX
      obtain ⟨f, rfl⟩ : ∃ m, f = m + 1 := ⟨f - 1, by omega⟩
      obtain ⟨σ2, e2, x2⟩ := x_dayGoes (N := N) hN hC (dH_wf hH k (by omega)) hX hS hO
      rw [l_X2_daysGo_2, if_neg (nI_ge (by omega) (by omega)), e2, cl_s, nm_d, nI_1]
      exact ih (k + 1) f σ2 (by omega) (by omega) x2
  exact key n 0 N σ (by omega) (by omega) hX
theorem m_goDays {N : Nat} {μ : St} {S : Sn} {C : Cr} {H : List Nat} {d n : Nat} (hN : 1000 ≤ N) (hC : Wf C) (hH : WfH C H d) (hM : MS μ C H d) (hS : MT μ S) (hn : n < 900) (hd : d + n < 2 ^ 20) : ∃ μ', f_X8_goDays N μ (nI n) = some μ' ∧ MS μ' C (dH C S H d n) (d + n) ∧ ∀ k, k ≠ 1 → k ≠ 2 → k ≠ 7 → k ≠ 25 → μ' k = μ k := by
  have key : ∀ (j k f : Nat) (ν : St), k + j = n → j < f → MS ν C (dH C S H d k) (d + k) → (∀ i, i ≠ 1 → i ≠ 2 → i ≠ 7 → i ≠ 25 → ν i = μ i) → ∃ μ', l_X8_goDays_2 N (nI n) f ν (nI k) = some μ' ∧ MS μ' C (dH C S H d n) (d + n) ∧ ∀ i, i ≠ 1 → i ≠ 2 → i ≠ 7 → i ≠ 25 → μ' i = μ i := by
    intro j
    induction j with
    | zero =>
      intro k f ν hk hf hM hfr
      obtain ⟨f, rfl⟩ : ∃ m, f = m + 1 := ⟨f - 1, by omega⟩
      have : k = n := by omega
      subst this
      rw [l_X8_goDays_2, if_pos (nI_le (Nat.le_refl _) (by omega))]
      exact ⟨ν, rfl, hM, hfr⟩
    | succ j ih =>
      intro k f ν hk hf hM hfr
      obtain ⟨f, rfl⟩ : ∃ m, f = m + 1 := ⟨f - 1, by omega⟩
      obtain ⟨σ2, e2, x2, f2⟩ := m_goDay (N := N) hN hC (dH_wf hH k (by omega)) hM (hS.mono (fun i hi => hfr i (by omega) (by omega) (by omega) (by omega)))
      rw [l_X8_goDays_2, if_neg (nI_ge (by omega) (by omega)), e2, cl_s, nm_d, nI_1]
      exact ih (k + 1) f σ2 (by omega) (by omega) x2 (fun i h1 h2 h7 h25 => (f2 i h1 h2 h7 h25).trans (hfr i h1 h2 h7 h25))
  exact key n 0 N μ (by omega) (by omega) hM (fun _ _ _ _ _ => rfl)
