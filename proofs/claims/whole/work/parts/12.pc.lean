/-! ===== pure layer C: what goes, in the class ===== -/
theorem fin_ex {σ σ' : St} {a b : Int32} (ha : a = b) (hs : ∀ j, j ≠ 10 → σ' j = σ j) : ∃ f, some (a, σ') = some (b, sA σ 10 f) := by
  refine ⟨σ' 10, ?_⟩
  have e : σ' = sA σ 10 (σ' 10) := by
    funext j
    by_cases hj : j = 10
    · subst hj; rfl
    · rw [sA_n _ _ hj]; exact hs j hj
  rw [ha, ← e]
theorem idx_get {H : List Nat} {i : Nat} (h : i < H.length) : ∃ t, H[i]? = some t ∧ t ∈ H := ⟨H[i], List.getElem?_eq_getElem h, List.getElem_mem h⟩
theorem len6 {C : Cr} {H : List Nat} {d : Nat} (hC : Wf C) (hH : WfH C H d) : H.length ≤ 6 := Nat.le_trans hH.len hC.1
/-- marksOf: all marks of a set -/
theorem l_marksOf {N : Nat} {σ : St} {C : Cr} {H : List Nat} {d : Nat} (hC : Wf C) (hX : XS σ C H d) (s : Nat) (hs : s < 64) : ∀ (j k n : Nat), k + j = cT C → j < n → l_X2_marksOf_4 N σ (nI s) n (nI (orL (cM C) ((List.range k).filter (fun t => s.testBit t)))) (nI k) = some (nI (orL (cM C) ((List.range (cT C)).filter (fun t => s.testBit t)))) := by
  have hT := hC.1
  intro j
  induction j with
  | zero =>
    intro k n hk hn
    obtain ⟨n, rfl⟩ : ∃ m, n = m + 1 := ⟨n - 1, by omega⟩
    have : k = cT C := by omega
    subst this
    rw [l_X2_marksOf_4, hX.1, if_pos (nI_le (Nat.le_refl _) (by omega))]
  | succ j ih =>
    intro k n hk hn
    obtain ⟨n, rfl⟩ : ∃ m, n = m + 1 := ⟨n - 1, by omega⟩
    have h1 := ih (k + 1) n (by omega) (by omega)
    rw [List.range_succ, List.filter_append] at h1
    rw [l_X2_marksOf_4, hX.1, if_neg (nI_ge (by omega) (by omega))]
    by_cases hb : s.testBit k = true
    · rw [if_pos ((bit_t s hs k (by omega)).mpr hb), ck_n (by omega) (by omega), nm_d, nm_d, nI_clamp (by omega), hX.2.2.2.1 k (by omega), nI_or, nI_1]
      rw [show [k].filter (fun t => s.testBit t) = [k] from by simp [hb], orL_app] at h1
      simpa [orL] using h1
    · rw [if_neg (fun z => hb ((bit_t s hs k (by omega)).mp z)), nm_d, nI_1]
      rw [show [k].filter (fun t => s.testBit t) = [] from by simp [hb], List.append_nil] at h1
      exact h1
theorem x_marksOf {N : Nat} {σ : St} {C : Cr} {H : List Nat} {d : Nat} (hN : 1000 ≤ N) (hC : Wf C) (hX : XS σ C H d) (s : Nat) (hs : s < 64) : f_X2_marksOf N σ (nI s) = some (nI (orL (cM C) ((List.range (cT C)).filter (fun t => s.testBit t)))) := by
  have hT := hC.1
  exact l_marksOf hC hX s hs (cT C) 0 N (by omega) (by omega)
theorem x_marksHad {N : Nat} {σ : St} {C : Cr} {H : List Nat} {d : Nat} (hN : 1000 ≤ N) (hC : Wf C) (hH : WfH C H d) (hX : XS σ C H d) : f_X2_marksOf N σ (σ 7 0) = some (nI (hm C H)) := by
  have hT := hC.1
  rw [hX.2.2.2.2.2.2.2.2.1, x_marksOf hN hC hX (bs H) (bs_lt (fun u hu => by have := hH.2.1 u hu; omega))]
  rw [show orL (cM C) ((List.range (cT C)).filter (fun t => (bs H).testBit t)) = hm C H from orL_mem (fun t => by
    rw [List.mem_filter, List.mem_range, bs_bit, decide_eq_true_eq]
    exact ⟨fun h => h.2, fun h => ⟨hH.2.1 t h, h⟩⟩)]
theorem x_alikeOf {N : Nat} {σ : St} {C : Cr} {H : List Nat} {d t : Nat} (hN : 1000 ≤ N) (hC : Wf C) (hH : WfH C H d) (hX : XS σ C H d) (ht : t < cT C) : f_X2_alikeOf N σ (nI t) = some (alike C H t) := by
  have hT := hC.1
  unfold f_X2_alikeOf
  rw [ck_n (by omega) (by omega), x_marksHad hN hC hH hX, cl_s, nI_clamp (by omega), hX.2.2.2.1 t ht, nI_and, f_bitCount, cl_s]
  rfl
theorem x_holdNow {N : Nat} {L : List SR} {h : Option SR} {S : Sn} (hS : XT L h S) : f_X2_holdNow N L h = some S.2.2 := by
  unfold f_X2_holdNow
  cases h with
  | none => rw [onl_none]; unfold XT at hS; rw [hS]
  | some R => rw [onl_some, cp_t hS.1, hS.2.2.1]
theorem x_needNow {N : Nat} {L : List SR} {h : Option SR} {S : Sn} (hS : XT L h S) : f_X2_needNow N L h = some S.2.1 := by
  unfold f_X2_needNow
  cases h with
  | none => rw [onl_none]; unfold XT at hS; rw [hS]
  | some R => rw [onl_some, cp_t hS.1, hS.2.1]
theorem x_tasteOf {N : Nat} {L : List SR} {h : Option SR} {S : Sn} {σ : St} {C : Cr} {H : List Nat} {d t : Nat} (hN : 1000 ≤ N) (hC : Wf C) (hH : WfH C H d) (hX : XS σ C H d) (ht : t < cT C) (hS : XT L h S) (hO : SnOk S) : ∃ g : Nat → Int32, f_X2_tasteOf N L σ h (nI t) = some (S.1 (fct C H d t), sA σ 10 g) := by
  have hT := hC.1
  unfold f_X2_tasteOf
  cases h with
  | none =>
    unfold XT at hS
    refine ⟨σ 10, ?_⟩
    rw [onl_none, hS]
    have : sA σ 10 (σ 10) = σ := by
      funext j
      by_cases hj : j = 10
      · subst hj; rfl
      · exact sA_n σ _ hj
    rw [this]
  | some R =>
    obtain ⟨hR, -, -, hF⟩ := hS
    rw [onl_some, cp_t hR]
    simp only [nm_d, ck_n (show t < 6 by omega) (show 6 < 2 ^ 31 by omega), f_bitCount, cl_s]
    rw [ck_t (by decide), ck_t (by decide), ck_t (by decide), ck_t (by decide), ck_t (by decide), cz_f (by decide), ck_t (by decide), hF N _ hN, cl_s]
    refine fin_ex ?_ (fun j hj => by simp only [sA_n _ _ hj])
    · refine hO.1 _ _ (fun i hi => ?_)
      have e0 : (nI t).toNatClampNeg = t := nI_clamp (by omega)
      obtain ⟨-, h1, h2, h3, -, -, h6, -, -, h8⟩ := hX
      have c0 : (0 : Int32).toNatClampNeg = 0 := by decide
      have c1 : (1 : Int32).toNatClampNeg = 1 := by decide
      have c2 : (2 : Int32).toNatClampNeg = 2 := by decide
      have c3 : (3 : Int32).toNatClampNeg = 3 := by decide
      have c4 : (4 : Int32).toNatClampNeg = 4 := by decide
      have c5 : (5 : Int32).toNatClampNeg = 5 := by decide
      have hd : nI d - nI d / 10 * 10 = nI (d % 10) := pk_rem (d := 10) (by have := hH.2.2; omega) (by omega) (by omega)
      rcases (show i = 0 ∨ i = 1 ∨ i = 2 ∨ i = 3 ∨ i = 4 ∨ i = 5 by omega) with rfl | rfl | rfl | rfl | rfl | rfl <;> simp [sA_s, sA_n, fct, upd, c0, c1, c2, c3, c4, c5, e0, h1 t ht, h2 t ht, h3 t ht, h6, h8, hd]
theorem x_hasEqual {N : Nat} {σ : St} {C : Cr} {H : List Nat} {d t : Nat} (hN : 1000 ≤ N) (hC : Wf C) (hH : WfH C H d) (hX : XS σ C H d) (ht : t < cT C) : f_X2_hasEqual N σ (nI t) = some (b2i (peer C H t)) := by
  have hT := hC.1
  have h6 := len6 hC hH
  have key : ∀ (j k n : Nat), k + j = H.length → j < n → l_X2_hasEqual_12 N σ (pc (nI (cM C t))) n (nI k) = some (b2i ((H.drop k).any (fun u => pc (nI (cM C u)) == pc (nI (cM C t))))) := by
    intro j
    induction j with
    | zero =>
      intro k n hk hn
      obtain ⟨n, rfl⟩ : ∃ m, n = m + 1 := ⟨n - 1, by omega⟩
      rw [l_X2_hasEqual_12, hX.2.2.2.2.2.2.1, if_pos (nI_le (by omega) (by omega)), List.drop_eq_nil_of_le (by omega)]
      rfl
    | succ j ih =>
      intro k n hk hn
      obtain ⟨n, rfl⟩ : ∃ m, n = m + 1 := ⟨n - 1, by omega⟩
      obtain ⟨u, hu, hm⟩ := idx_get (H := H) (i := k) (by omega)
      have huT := hH.2.1 u hm
      have hdrop : H.drop k = u :: H.drop (k + 1) := by
        rw [List.drop_eq_getElem_cons (by omega)]
        congr 1
        exact Option.some.inj (by rw [← List.getElem?_eq_getElem, hu])
      rw [l_X2_hasEqual_12, hX.2.2.2.2.2.2.1, if_neg (nI_ge (by omega) (by omega)), ck_n (by omega) (by omega), nI_clamp (by omega), hX.2.2.2.2.2.2.2.1 k u hu, ck_n (by omega) (by omega), nI_clamp (by omega), hX.2.2.2.1 u huT, f_bitCount, cl_s, hdrop]
      by_cases he : pc (nI (cM C u)) = pc (nI (cM C t))
      · rw [if_pos he]; simp [he, b2i]
      · have hb : (pc (nI (cM C u)) == pc (nI (cM C t))) = false := beq_eq_false_iff_ne.mpr he
        rw [if_neg he, nm_d, nI_1, ih (k + 1) n (by omega) (by omega)]
        simp only [List.any_cons, hb, Bool.false_or]
  unfold f_X2_hasEqual
  rw [ck_n (by omega) (by omega), nI_clamp (by omega), hX.2.2.2.1 t ht, f_bitCount, cl_s]
  exact key H.length 0 N (by omega) (by omega)
theorem x_hasFewer {N : Nat} {σ : St} {C : Cr} {H : List Nat} {d u t : Nat} (hC : Wf C) (hX : XS σ C H d) (hu : u < cT C) (ht : t < cT C) : f_X2_hasFewer N σ (nI u) (nI t) = some (b2i (decide (pc (nI (cM C u)) < pc (nI (cM C t))))) := by
  have hT := hC.1
  unfold f_X2_hasFewer
  rw [ck_n (by omega) (by omega), nI_clamp (by omega), hX.2.2.2.1 u hu, f_bitCount, cl_s, ck_n (by omega) (by omega), nI_clamp (by omega), hX.2.2.2.1 t ht, f_bitCount, cl_s]
  by_cases h : pc (nI (cM C t)) ≤ pc (nI (cM C u))
  · rw [if_pos h]
    have : ¬ pc (nI (cM C u)) < pc (nI (cM C t)) := i32_nlt.mpr h
    simp [this, b2i]
  · rw [if_neg h]
    have : pc (nI (cM C u)) < pc (nI (cM C t)) := by
      rw [← i32_nlt] at h; exact Decidable.not_not.mp h
    simp [this, b2i]
theorem new_get {H : List Nat} (h : ¬ H.length = 0) : H[H.length - 1]? = some (newest H) ∧ newest H ∈ H := by
  have h1 : H ≠ [] := fun e => h (by rw [e]; rfl)
  have e : newest H = H.getLast h1 := by unfold newest; rw [List.getLastD_eq_getLast?, List.getLast?_eq_some_getLast h1]; rfl
  refine ⟨?_, by rw [e]; exact List.getLast_mem h1⟩
  rw [e, ← List.getLast?_eq_getElem?, List.getLast?_eq_some_getLast h1]
theorem cK_lt {C : Cr} (hC : Wf C) {t : Nat} (ht : t < cT C) : cK C t = 0 ∨ cK C t = 1 ∨ cK C t = 2 ∨ cK C t = 3 ∨ cK C t = 4 ∨ cK C t = 5 ∨ cK C t = 6 := by
  have := hC.2.1 t ht
  omega
theorem j_goes {N : Nat} {L : List SR} {h : Option SR} {S : Sn} {σ : St} {C : Cr} {H : List Nat} {d t : Nat} (hN : 1000 ≤ N) (hC : Wf C) (hH : WfH C H d) (hX : XS σ C H d) (ht : t < cT C) (hnh : ¬ t ∈ H) (hh : ¬ S.2.2 ≤ nI H.length) (h0 : ¬ H.length = 0) : j_X2_goesNow_53 N L σ h (nI t) (b2i (liked C S H d t)) = some (b2i (goesS C S H d t), σ) := by
  have hT := hC.1
  have h6 := len6 hC hH
  obtain ⟨hn1, hn2⟩ := new_get h0
  have hnT := hH.2.1 _ hn2
  have hd20 := hH.2.2
  have el : nI H.length - 1 = nI (H.length - 1) := by
    obtain ⟨k, hk⟩ : ∃ k, H.length = k + 1 := ⟨H.length - 1, by omega⟩
    rw [hk]; exact nI_pred k
  have hd2 : nI d - nI d / 2 * 2 = nI (d % 2) := pk_rem (d := 2) (by omega) (by omega) (by omega)
  have hd4 : nI d - nI d / 4 * 4 = nI (d % 4) := pk_rem (d := 4) (by omega) (by omega) (by omega)
  have hg : goesS C S H d t = (match cK C t with
    | 1 => liked C S H d t && peer C H t
    | 2 => liked C S H d t && keyed C H t
    | 3 => !liked C S H d t && fewer C H t
    | 4 => (liked C S H d t && peer C H t) || decide (cV C t < H.length)
    | 5 => liked C S H d t && (decide (d % 2 = 1) || keyed C H t)
    | 6 => (!liked C S H d t && fewer C H t) || rowIs C H d t
    | _ => liked C S H d t) := by
    unfold goesS
    rw [if_neg (by intro z; rcases z with z | z; exact hnh z; exact hh z), if_neg h0]
    rfl
  have hrow : j_X2_goesNow_254 N L σ h (nI t) = some (b2i (rowIs C H d t), σ) := by
    unfold j_X2_goesNow_254
    have e4 : nI t * 4 + nI (d % 4) = nI (4 * t + d % 4) := by
      rw [show (4 : Int32) = nI 4 from rfl, pk_mul, nI_add, Nat.mul_comm]
    rw [cz_f (by decide), hX.2.2.2.2.2.2.2.2.2, hd4, e4, ck_n (by omega) (by omega), nI_clamp (by omega), hX.2.2.2.2.1 _ (by omega), hX.2.2.2.2.2.2.1]
    unfold rowIs
    by_cases hr : nI (cR C (4 * t + d % 4)) = nI H.length
    · rw [if_pos hr]; simp [hr, b2i]
    · rw [if_neg hr]; simp [hr, b2i]
  unfold j_X2_goesNow_53
  have hc1 : (nI (H.length - 1)).toNatClampNeg = H.length - 1 := nI_clamp (by omega)
  have hc2 : (nI t).toNatClampNeg = t := nI_clamp (by omega)
  rw [hX.2.2.2.2.2.2.1, el, ck_n (by omega) (by omega), nm_d, hc1, hX.2.2.2.2.2.2.2.1 _ _ hn1, ck_n (by omega) (by omega), hc2, hX.2.1 t ht, hg]
  have hkey : ((σ 3 t) &&& (σ 3 (nI (newest H)).toNatClampNeg) = 0) ↔ keyed C H t = true := by
    rw [nI_clamp (by omega), hX.2.2.2.1 t ht, hX.2.2.2.1 _ hnT, nI_and]
    unfold keyed; rw [decide_eq_true_eq]
  have hvk : (nI H.length ≤ σ 2 t) ↔ ¬ cV C t < H.length := by
    have := hC.2.2.1 t ht
    rw [hX.2.2.1 t ht, nI_leI (by omega) (by omega)]; omega
  rcases cK_lt hC ht with hk | hk | hk | hk | hk | hk | hk <;> rw [hk]
  · rw [if_neg (by decide), if_neg (by decide), if_neg (by decide), if_neg (by decide), if_neg (by decide), if_neg (by decide), cb_t (b2i_01 _)]
    rfl
  · rw [if_pos (by decide)]
    cases hl : liked C S H d t
    · rfl
    · rw [if_neg (by decide), x_hasEqual hN hC hH hX ht, cl_s]
      cases hp : peer C H t <;> rfl
  · rw [if_neg (by decide), if_pos (by decide)]
    cases hl : liked C S H d t
    · rfl
    · rw [if_neg (by decide), ck_n (by omega) (by omega), ck_n (by omega) (by omega)]
      by_cases hq : keyed C H t = true
      · rw [if_pos (hkey.mpr hq), hq]; rfl
      · rw [if_neg (fun z => hq (hkey.mp z))]; simp [hq, b2i]
  · rw [if_neg (by decide), if_neg (by decide), if_pos (by decide)]
    cases hl : liked C S H d t
    · rw [if_pos (show b2i false = 0 from rfl), x_hasFewer hC hX hnT ht, cl_s]
      show (if b2i (fewer C H t) = 0 then _ else _) = _
      cases hp : fewer C H t <;> rfl
    · rw [if_neg (by decide)]; rfl
  · rw [if_neg (by decide), if_neg (by decide), if_neg (by decide), if_pos (by decide)]
    have hv : ck (nI t) 6 (if nI H.length ≤ σ 2 t then some ((0 : Int32), σ) else some (1, σ)) = some (b2i (decide (cV C t < H.length)), σ) := by
      rw [ck_n (by omega) (by omega)]
      by_cases hq : cV C t < H.length
      · rw [if_neg (fun z => hvk.mp z hq)]; simp [hq, b2i]
      · rw [if_pos (hvk.mpr hq)]; simp [hq, b2i]
    cases hl : liked C S H d t
    · rw [if_pos (show b2i false = 0 from rfl), hv]; rfl
    · rw [if_neg (by decide), x_hasEqual hN hC hH hX ht, cl_s]
      cases hp : peer C H t
      · rw [if_pos (show b2i false = 0 from rfl), hv]; rfl
      · rw [if_neg (by decide)]; rfl
  · rw [if_neg (by decide), if_neg (by decide), if_neg (by decide), if_neg (by decide), if_pos (by decide)]
    cases hl : liked C S H d t
    · rfl
    · rw [if_neg (by decide), cz_f (by decide), hX.2.2.2.2.2.2.2.2.2, hd2]
      rcases Nat.mod_two_eq_zero_or_one d with h2 | h2
      · rw [h2, if_pos (show nI 0 = 0 from rfl), ck_n (by omega) (by omega), ck_n (by omega) (by omega)]
        by_cases hq : keyed C H t = true
        · rw [if_pos (hkey.mpr hq), hq]; rfl
        · rw [if_neg (fun z => hq (hkey.mp z))]; simp [hq, b2i]
      · rw [h2, if_neg (by decide)]; simp [b2i]
  · rw [if_neg (by decide), if_neg (by decide), if_neg (by decide), if_neg (by decide), if_neg (by decide), if_pos (by decide)]
    cases hl : liked C S H d t
    · rw [if_pos (show b2i false = 0 from rfl), x_hasFewer hC hX hnT ht, cl_s]
      show (if b2i (fewer C H t) = 0 then _ else _) = _
      cases hp : fewer C H t
      · rw [if_pos (show b2i false = 0 from rfl), hrow]; rfl
      · rw [if_neg (by decide)]; rfl
    · rw [if_neg (by decide), hrow]; rfl
/-- goesNow, in the class -/
theorem x_goes {N : Nat} {L : List SR} {h : Option SR} {S : Sn} {σ : St} {C : Cr} {H : List Nat} {d t : Nat} (hN : 1000 ≤ N) (hC : Wf C) (hH : WfH C H d) (hX : XS σ C H d) (ht : t < cT C) (hS : XT L h S) (hO : SnOk S) : ∃ g : Nat → Int32, f_X2_goesNow N L σ h (nI t) = some (b2i (goesS C S H d t), sA σ 10 g) := by
  have hT := hC.1
  have h6 := len6 hC hH
  have same : sA σ 10 (σ 10) = σ := by
      funext j
      by_cases hj : j = 10
      · subst hj; rfl
      · exact sA_n σ _ hj
  obtain ⟨k, hk, hk1, hk2⟩ := hO.2
  unfold f_X2_goesNow
  rw [x_isHad hC hH hX ht, cl_s]
  by_cases hm : t ∈ H
  · refine ⟨σ 10, ?_⟩
    rw [same, show goesS C S H d t = false from by unfold goesS; rw [if_pos (Or.inl hm)]]
    simp [hm, b2i]
  · have e1 : b2i (decide (t ∈ H)) = 0 := by simp [hm, b2i]
    rw [e1, if_pos rfl, x_holdNow hS, cl_s, hX.2.2.2.2.2.2.1]
    by_cases hh : nI H.length < S.2.2
    · rw [if_pos hh]
      have hh' : ¬ S.2.2 ≤ nI H.length := by
        rw [← i32_nlt]; exact fun z => z hh
      by_cases h0 : H.length = 0
      · refine ⟨σ 10, ?_⟩
        rw [if_pos (by rw [h0]; rfl), same, show goesS C S H d t = true from by unfold goesS; rw [if_neg (by intro z; rcases z with z | z; exact hm z; exact hh' z), if_pos h0]]
        rfl
      · rw [if_neg (nI_ne0 (by omega) (by omega)), x_alikeOf hN hC hH hX ht, cl_s]
        obtain ⟨g, hg⟩ := x_tasteOf hN hC hH hX ht hS hO
        rw [hg, cl_s, x_needNow hS, cl_s]
        refine ⟨g, ?_⟩
        have hj := j_goes (L := L) (h := h) (S := S) hN hC hH (hX.t10 g) ht hm hh' h0
        by_cases hl : alike C H t + S.1 (fct C H d t) < S.2.1
        · rw [if_pos hl]
          have : liked C S H d t = false := by
            unfold liked; rw [decide_eq_false_iff_not, ← i32_nlt]; exact fun z => z hl
          rw [this] at hj
          exact hj
        · rw [if_neg hl]
          have : liked C S H d t = true := by
            unfold liked; rw [decide_eq_true_eq]; exact i32_nlt.mp hl
          rw [this] at hj
          exact hj
    · refine ⟨σ 10, ?_⟩
      rw [if_neg hh, same, show goesS C S H d t = false from by unfold goesS; rw [if_pos (Or.inr (i32_nlt.mp hh))]]
      rfl
