/-! ===== pure layer D: what goes, in the reference ===== -/
theorem drop_cons {H : List Nat} {k u : Nat} (hk : k < H.length) (hu : H[k]? = some u) : H.drop k = u :: H.drop (k + 1) := by
  rw [List.drop_eq_getElem_cons hk]
  congr 1
  exact Option.some.inj (by rw [← List.getElem?_eq_getElem, hu])
/-- the place of t in a row that begins at k; -5: none -/
def pl (t : Nat) : List Nat → Nat → Int32
  | [], _ => -5
  | u :: l, k => if u = t then nI k else pl t l (k + 1)
theorem pl_neg (t : Nat) : ∀ (l : List Nat) (k : Nat), k + l.length < 2 ^ 31 → (pl t l k < 0 ↔ ¬ t ∈ l) := by
  intro l
  induction l with
  | nil => intro k _; simp only [pl, List.not_mem_nil, not_false_eq_true, iff_true]; decide
  | cons u l ih =>
    intro k hk
    simp only [List.length_cons] at hk
    unfold pl
    by_cases h : u = t
    · rw [if_pos h]
      simp only [h, List.mem_cons, true_or, not_true_eq_false, iff_false]
      exact nI_pos (by omega)
    · rw [if_neg h, ih (k + 1) (by omega)]
      have : ¬ t = u := fun e => h e.symm
      simp [this]
theorem x_placeInHad {N : Nat} {σ : St} {C : Cr} {H : List Nat} {d t : Nat} (hN : 1000 ≤ N) (hC : Wf C) (hH : WfH C H d) (hX : XS σ C H d) (ht : t < cT C) : f_X2_placeInHad N σ (nI t) = some (pl t H 0) := by
  have hT := hC.1
  have h6 := len6 hC hH
  have key : ∀ (j k n : Nat), k + j = H.length → j < n → l_X2_placeInHad_2 N σ (nI t) n (nI k) = some (pl t (H.drop k) k) := by
    intro j
    induction j with
    | zero =>
      intro k n hk hn
      obtain ⟨n, rfl⟩ : ∃ m, n = m + 1 := ⟨n - 1, by omega⟩
      rw [l_X2_placeInHad_2, hX.2.2.2.2.2.2.1, if_pos (nI_le (by omega) (by omega)), List.drop_eq_nil_of_le (by omega)]
      rfl
    | succ j ih =>
      intro k n hk hn
      obtain ⟨n, rfl⟩ : ∃ m, n = m + 1 := ⟨n - 1, by omega⟩
      obtain ⟨u, hu, hm⟩ := idx_get (H := H) (i := k) (by omega)
      have huT := hH.2.1 u hm
      rw [l_X2_placeInHad_2, hX.2.2.2.2.2.2.1, if_neg (nI_ge (by omega) (by omega)), ck_n (by omega) (by omega), nI_clamp (by omega), hX.2.2.2.2.2.2.2.1 k u hu, drop_cons (by omega) hu]
      unfold pl
      by_cases he : u = t
      · rw [if_pos (by rw [he]), if_pos he]
      · rw [if_neg (fun z => he ((nI_eq (by omega) (by omega)).mp z)), if_neg he, nm_d, nI_1, ih (k + 1) n (by omega) (by omega)]
  exact key H.length 0 N (by omega) (by omega)
theorem m_placeOf {N : Nat} {μ : St} {C : Cr} {H : List Nat} {d t : Nat} (hN : 1000 ≤ N) (hC : Wf C) (hH : WfH C H d) (hM : MS μ C H d) (ht : t < cT C) : f_X8_placeOf N μ (nI t) = some (pl t H 0) := by
  have hT := hC.1
  have h6 := len6 hC hH
  have key : ∀ (j k n : Nat), k + j = H.length → j < n → l_X8_placeOf_2 N μ (nI t) n (nI k) = some (pl t (H.drop k) k) := by
    intro j
    induction j with
    | zero =>
      intro k n hk hn
      obtain ⟨n, rfl⟩ : ∃ m, n = m + 1 := ⟨n - 1, by omega⟩
      rw [l_X8_placeOf_2, hM.2.2.2.2.2.1, if_pos (nI_le (by omega) (by omega)), List.drop_eq_nil_of_le (by omega)]
      rfl
    | succ j ih =>
      intro k n hk hn
      obtain ⟨n, rfl⟩ : ∃ m, n = m + 1 := ⟨n - 1, by omega⟩
      obtain ⟨u, hu, hm⟩ := idx_get (H := H) (i := k) (by omega)
      have huT := hH.2.1 u hm
      rw [l_X8_placeOf_2, hM.2.2.2.2.2.1, if_neg (nI_ge (by omega) (by omega)), ck_n (by omega) (by omega), nI_clamp (by omega), hM.2.2.2.2.2.2.1 k u hu, drop_cons (by omega) hu]
      unfold pl
      by_cases he : u = t
      · rw [if_pos (by rw [he]), if_pos he]
      · rw [if_neg (fun z => he ((nI_eq (by omega) (by omega)).mp z)), if_neg he, nm_d, nI_1, ih (k + 1) n (by omega) (by omega)]
  exact key H.length 0 N (by omega) (by omega)
theorem m_isHad {N : Nat} {μ : St} {C : Cr} {H : List Nat} {d t : Nat} (hN : 1000 ≤ N) (hC : Wf C) (hH : WfH C H d) (hM : MS μ C H d) (ht : t < cT C) : f_X8_isHad N μ (nI t) = some (b2i (decide (t ∈ H))) := by
  have hT := hC.1
  have h6 := len6 hC hH
  unfold f_X8_isHad
  rw [m_placeOf hN hC hH hM ht, cl_s]
  by_cases h : t ∈ H
  · rw [if_neg (fun z => ((pl_neg t H 0 (by omega)).mp z) h)]; simp [h, b2i]
  · rw [if_pos ((pl_neg t H 0 (by omega)).mpr h)]; simp [h, b2i]
theorem m_hadMarks {N : Nat} {μ : St} {C : Cr} {H : List Nat} {d : Nat} (hN : 1000 ≤ N) (hC : Wf C) (hH : WfH C H d) (hM : MS μ C H d) : f_X8_hadMarks N μ = some (nI (hm C H)) := by
  have hT := hC.1
  have h6 := len6 hC hH
  have key : ∀ (j k n a : Nat), k + j = H.length → j < n → l_X8_hadMarks_4 N μ n (nI a) (nI k) = some (nI (a ||| orL (cM C) (H.drop k))) := by
    intro j
    induction j with
    | zero =>
      intro k n a hk hn
      obtain ⟨n, rfl⟩ : ∃ m, n = m + 1 := ⟨n - 1, by omega⟩
      rw [l_X8_hadMarks_4, hM.2.2.2.2.2.1, if_pos (nI_le (by omega) (by omega)), List.drop_eq_nil_of_le (by omega)]
      simp [orL]
    | succ j ih =>
      intro k n a hk hn
      obtain ⟨n, rfl⟩ : ∃ m, n = m + 1 := ⟨n - 1, by omega⟩
      obtain ⟨u, hu, hm⟩ := idx_get (H := H) (i := k) (by omega)
      have huT := hH.2.1 u hm
      rw [l_X8_hadMarks_4, hM.2.2.2.2.2.1, if_neg (nI_ge (by omega) (by omega)), ck_n (by omega) (by omega), nI_clamp (by omega), hM.2.2.2.2.2.2.1 k u hu, ck_n (by omega) (by omega), nI_clamp (by omega), hM.2.2.2.1 u huT, nm_d, nm_d, nI_or, nI_1, ih (k + 1) n _ (by omega) (by omega), drop_cons (by omega) hu, orL, Nat.or_assoc]
  have := key H.length 0 N 0 (by omega) (by omega)
  rw [Nat.zero_or, List.drop_zero] at this
  unfold f_X8_hadMarks
  exact this
theorem m_hadSet {N : Nat} {μ : St} {C : Cr} {H : List Nat} {d : Nat} (hN : 1000 ≤ N) (hC : Wf C) (hH : WfH C H d) (hM : MS μ C H d) : f_X8_hadSet N μ = some (nI (bs H)) := by
  have hT := hC.1
  have h6 := len6 hC hH
  have key : ∀ (j k n a : Nat), k + j = H.length → j < n → l_X8_hadSet_4 N μ n (nI a) (nI k) = some (nI (a ||| bs (H.drop k))) := by
    intro j
    induction j with
    | zero =>
      intro k n a hk hn
      obtain ⟨n, rfl⟩ : ∃ m, n = m + 1 := ⟨n - 1, by omega⟩
      rw [l_X8_hadSet_4, hM.2.2.2.2.2.1, if_pos (nI_le (by omega) (by omega)), List.drop_eq_nil_of_le (by omega)]
      simp [orL, bs]
    | succ j ih =>
      intro k n a hk hn
      obtain ⟨n, rfl⟩ : ∃ m, n = m + 1 := ⟨n - 1, by omega⟩
      obtain ⟨u, hu, hm⟩ := idx_get (H := H) (i := k) (by omega)
      have huT := hH.2.1 u hm
      rw [l_X8_hadSet_4, hM.2.2.2.2.2.1, if_neg (nI_ge (by omega) (by omega)), ck_n (by omega) (by omega), nI_clamp (by omega), hM.2.2.2.2.2.2.1 k u hu, shl_t u (by omega), nm_d, nm_d, nI_or, nI_1, ih (k + 1) n _ (by omega) (by omega), drop_cons (by omega) hu]
      simp only [bs, orL, Nat.or_assoc]
  have := key H.length 0 N 0 (by omega) (by omega)
  rw [Nat.zero_or, List.drop_zero] at this
  unfold f_X8_hadSet
  exact this
theorem m_alikeOf {N : Nat} {μ : St} {C : Cr} {H : List Nat} {d t : Nat} (hN : 1000 ≤ N) (hC : Wf C) (hH : WfH C H d) (hM : MS μ C H d) (ht : t < cT C) : f_X8_alikeOf N μ (nI t) = some (alike C H t) := by
  have hT := hC.1
  unfold f_X8_alikeOf
  rw [ck_n (by omega) (by omega), m_hadMarks hN hC hH hM, cl_s, nI_clamp (by omega), hM.2.2.2.1 t ht, nI_and, f_bits (by omega) (Nat.lt_of_le_of_lt Nat.and_le_left (by have := hC.2.2.2.1 t ht; omega)), cl_s]
  rfl
/-- the street's own places stay -/
def sameS (μ μ' : St) : Prop := ∀ k, k = 9 ∨ (14 ≤ k ∧ k ≤ 19) → μ' k = μ k
theorem MT.mono {μ μ' : St} {S : Sn} (h : MT μ S) (hs : sameS μ μ') : MT μ' S := fun μ2 h2 N hN => h μ2 (fun k hk => (h2 k hk).trans (hs k hk)) N hN
theorem MT.t25 {μ : St} {S : Sn} (h : MT μ S) (g : Nat → Int32) : MT (sA μ 25 g) S := h.mono (fun k hk => sA_n _ _ (by omega))
theorem m_isLiked {N : Nat} {μ : St} {C : Cr} {S : Sn} {H : List Nat} {d t : Nat} (hN : 1000 ≤ N) (hC : Wf C) (hH : WfH C H d) (hM : MS μ C H d) (ht : t < cT C) (hS : MT μ S) : ∃ g : Nat → Int32, f_X8_isLiked N μ (nI t) = some (b2i (liked C S H d t), sA μ 25 g) := by
  obtain ⟨g, hg⟩ := (hS μ (fun _ _ => rfl) N hN).2.2 C H d t hC hH hM ht
  refine ⟨g, ?_⟩
  unfold f_X8_isLiked
  rw [m_alikeOf hN hC hH hM ht, cl_s, hg, cl_s, ((hS.t25 g) _ (fun _ _ => rfl) N hN).1, cl_s]
  by_cases hl : alike C H t + S.1 (fct C H d t) < S.2.1
  · rw [if_pos hl]
    have : liked C S H d t = false := by
      unfold liked; rw [decide_eq_false_iff_not, ← i32_nlt]; exact fun z => z hl
    rw [this]; rfl
  · rw [if_neg hl]
    have : liked C S H d t = true := by
      unfold liked; rw [decide_eq_true_eq]; exact i32_nlt.mp hl
    rw [this]; rfl
theorem m_newest {N : Nat} {μ : St} {C : Cr} {H : List Nat} {d : Nat} (hC : Wf C) (hH : WfH C H d) (hM : MS μ C H d) (h0 : ¬ H.length = 0) : f_X8_newest N μ = some (nI (cM C (newest H))) := by
  have hT := hC.1
  have h6 := len6 hC hH
  obtain ⟨hn1, hn2⟩ := new_get h0
  have hnT := hH.2.1 _ hn2
  have el : nI H.length - 1 = nI (H.length - 1) := by
    obtain ⟨k, hk⟩ : ∃ k, H.length = k + 1 := ⟨H.length - 1, by omega⟩
    rw [hk]; exact nI_pred k
  unfold f_X8_newest
  rw [hM.2.2.2.2.2.1, el, ck_n (by omega) (by omega), nI_clamp (by omega), hM.2.2.2.2.2.2.1 _ _ hn1, ck_n (by omega) (by omega), nI_clamp (by omega), hM.2.2.2.1 _ hnT]
theorem m_hasPeer {N : Nat} {μ : St} {C : Cr} {H : List Nat} {d t : Nat} (hN : 1000 ≤ N) (hC : Wf C) (hH : WfH C H d) (hM : MS μ C H d) (ht : t < cT C) : f_X8_hasPeer N μ (nI t) = some (b2i (peer C H t)) := by
  have hT := hC.1
  have h6 := len6 hC hH
  have hmt := hC.2.2.2.1 t ht
  have key : ∀ (j k n : Nat), k + j = H.length → j < n → l_X8_hasPeer_2 N μ (nI t) n (nI k) = some (b2i ((H.drop k).any (fun u => pc (nI (cM C u)) == pc (nI (cM C t))))) := by
    intro j
    induction j with
    | zero =>
      intro k n hk hn
      obtain ⟨n, rfl⟩ : ∃ m, n = m + 1 := ⟨n - 1, by omega⟩
      rw [l_X8_hasPeer_2, hM.2.2.2.2.2.1, if_pos (nI_le (by omega) (by omega)), List.drop_eq_nil_of_le (by omega)]
      rfl
    | succ j ih =>
      intro k n hk hn
      obtain ⟨n, rfl⟩ : ∃ m, n = m + 1 := ⟨n - 1, by omega⟩
      obtain ⟨u, hu, hm⟩ := idx_get (H := H) (i := k) (by omega)
      have huT := hH.2.1 u hm
      have hmu := hC.2.2.2.1 u huT
      rw [l_X8_hasPeer_2, hM.2.2.2.2.2.1, if_neg (nI_ge (by omega) (by omega)), ck_n (by omega) (by omega), nI_clamp (by omega), hM.2.2.2.2.2.2.1 k u hu, ck_n (by omega) (by omega), nI_clamp (by omega), hM.2.2.2.1 u huT, f_bits (by omega) (by omega), cl_s, ck_n (by omega) (by omega), nI_clamp (by omega), hM.2.2.2.1 t ht, f_bits (by omega) (by omega), cl_s, drop_cons (by omega) hu]
      by_cases he : pc (nI (cM C u)) = pc (nI (cM C t))
      · rw [if_pos he]; simp [he, b2i]
      · have hb : (pc (nI (cM C u)) == pc (nI (cM C t))) = false := beq_eq_false_iff_ne.mpr he
        rw [if_neg he, nm_d, nI_1, ih (k + 1) n (by omega) (by omega)]
        simp only [List.any_cons, hb, Bool.false_or]
  exact key H.length 0 N (by omega) (by omega)
theorem m_isKeyed {N : Nat} {μ : St} {C : Cr} {S : Sn} {H : List Nat} {d t : Nat} (hN : 1000 ≤ N) (hC : Wf C) (hH : WfH C H d) (hM : MS μ C H d) (ht : t < cT C) (hS : MT μ S) (h0 : ¬ H.length = 0) : ∃ g : Nat → Int32, f_X8_isKeyed N μ (nI t) = some (b2i (liked C S H d t && keyed C H t), sA μ 25 g) := by
  have hT := hC.1
  obtain ⟨g, hg⟩ := m_isLiked hN hC hH hM ht hS
  refine ⟨g, ?_⟩
  unfold f_X8_isKeyed
  rw [hg, cl_s]
  cases hl : liked C S H d t
  · rfl
  · dsimp only
    rw [if_neg (by decide), ck_n (by omega) (by omega), m_newest hC hH (hM.t25 g) h0, cl_s, nI_clamp (by omega)]
    simp only [(hM.t25 g).2.2.2.1 t ht, nI_and]
    by_cases hq : nI (cM C t &&& cM C (newest H)) = 0
    · rw [if_pos hq]; simp [keyed, hq, b2i]
    · rw [if_neg hq]; simp [keyed, hq, b2i]
theorem m_isLettered {N : Nat} {μ : St} {C : Cr} {S : Sn} {H : List Nat} {d t : Nat} (hN : 1000 ≤ N) (hC : Wf C) (hH : WfH C H d) (hM : MS μ C H d) (ht : t < cT C) (hS : MT μ S) (h0 : ¬ H.length = 0) : ∃ g : Nat → Int32, f_X8_isLettered N μ (nI t) = some (b2i (!liked C S H d t && fewer C H t), sA μ 25 g) := by
  have hT := hC.1
  obtain ⟨g, hg⟩ := m_isLiked hN hC hH hM ht hS
  have hmt := hC.2.2.2.1 t ht
  have hnT := hH.2.1 _ (new_get h0).2
  have hmn := hC.2.2.2.1 _ hnT
  refine ⟨g, ?_⟩
  unfold f_X8_isLettered
  rw [hg, cl_s]
  cases hl : liked C S H d t
  · dsimp only
    rw [if_pos (show b2i false = 0 from rfl), m_newest hC hH (hM.t25 g) h0, cl_s, f_bits (by omega) (by omega), cl_s, ck_n (by omega) (by omega), nI_clamp (by omega), (hM.t25 g).2.2.2.1 t ht, f_bits (by omega) (by omega), cl_s]
    by_cases hq : pc (nI (cM C t)) ≤ pc (nI (cM C (newest H)))
    · rw [if_pos hq]
      have : ¬ pc (nI (cM C (newest H))) < pc (nI (cM C t)) := i32_nlt.mpr hq
      simp [fewer, this, b2i]
    · rw [if_neg hq]
      have : pc (nI (cM C (newest H))) < pc (nI (cM C t)) := by rw [← i32_nlt] at hq; exact Decidable.not_not.mp hq
      simp [fewer, this, b2i]
  · rfl
theorem m_goes {N : Nat} {μ : St} {C : Cr} {S : Sn} {H : List Nat} {d t : Nat} (hN : 1000 ≤ N) (hC : Wf C) (hH : WfH C H d) (hM : MS μ C H d) (ht : t < cT C) (hS : MT μ S) : ∃ g : Nat → Int32, f_X8_goes N μ (nI t) = some (b2i (goesS C S H d t), sA μ 25 g) := by
  have hT := hC.1
  have h6 := len6 hC hH
  have hd20 := hH.2.2
  have same : sA μ 25 (μ 25) = μ := by
    funext j
    by_cases hj : j = 25
    · subst hj; rfl
    · exact sA_n μ _ hj
  have hh := (hS μ (fun _ _ => rfl) N hN).2.1
  have hd2 : nI d - nI d / 2 * 2 = nI (d % 2) := pk_rem (d := 2) (by omega) (by omega) (by omega)
  have hd4 : nI d - nI d / 4 * 4 = nI (d % 4) := pk_rem (d := 4) (by omega) (by omega) (by omega)
  unfold f_X8_goes
  rw [hh, cl_s, hM.2.2.2.2.2.1]
  by_cases hq : S.2.2 ≤ nI H.length
  · refine ⟨μ 25, ?_⟩
    rw [if_pos hq, same, show goesS C S H d t = false from by unfold goesS; rw [if_pos (Or.inr hq)]]
    rfl
  · rw [if_neg hq, m_isHad hN hC hH hM ht, cl_s]
    by_cases hm : t ∈ H
    · refine ⟨μ 25, ?_⟩
      rw [same, show goesS C S H d t = false from by unfold goesS; rw [if_pos (Or.inl hm)]]
      simp [hm, b2i]
    · have e1 : b2i (decide (t ∈ H)) = 0 := by simp [hm, b2i]
      rw [e1, if_pos rfl]
      by_cases h0 : H.length = 0
      · refine ⟨μ 25, ?_⟩
        rw [if_pos (by rw [h0]; rfl), same, show goesS C S H d t = true from by unfold goesS; rw [if_neg (by intro z; rcases z with z | z; exact hm z; exact hq z), if_pos h0]]
        rfl
      · have hg : goesS C S H d t = (match cK C t with
          | 1 => liked C S H d t && peer C H t
          | 2 => liked C S H d t && keyed C H t
          | 3 => !liked C S H d t && fewer C H t
          | 4 => (liked C S H d t && peer C H t) || decide (cV C t < H.length)
          | 5 => liked C S H d t && (decide (d % 2 = 1) || keyed C H t)
          | 6 => (!liked C S H d t && fewer C H t) || rowIs C H d t
          | _ => liked C S H d t) := by
          unfold goesS
          rw [if_neg (by intro z; rcases z with z | z; exact hm z; exact hq z), if_neg h0]
          rfl
        obtain ⟨gl, hgl⟩ := m_isLiked hN hC hH hM ht hS
        obtain ⟨gk, hgk⟩ := m_isKeyed hN hC hH hM ht hS h0
        obtain ⟨ge, hge⟩ := m_isLettered hN hC hH hM ht hS h0
        rw [if_neg (nI_ne0 (by omega) (by omega)), ck_n (by omega) (by omega), nI_clamp (by omega), hM.2.1 t ht, hg]
        rcases cK_lt hC ht with hk | hk | hk | hk | hk | hk | hk <;> rw [hk]
        · refine ⟨gl, ?_⟩
          rw [if_neg (by decide), if_neg (by decide), if_neg (by decide), if_neg (by decide), if_neg (by decide), if_neg (by decide), hgl, cl_s, cb_t (b2i_01 _)]
          rfl
        · refine ⟨gl, ?_⟩
          rw [if_pos (by decide), hgl, cl_s]
          cases hl : liked C S H d t
          · rfl
          · dsimp only
            rw [if_neg (by decide), m_hasPeer hN hC hH (hM.t25 gl) ht, cl_s]
            cases hp : peer C H t <;> rfl
        · refine ⟨gk, ?_⟩
          rw [if_neg (by decide), if_pos (by decide), hgk, cl_s, cb_t (b2i_01 _)]
          rfl
        · refine ⟨ge, ?_⟩
          rw [if_neg (by decide), if_neg (by decide), if_pos (by decide), hge, cl_s, cb_t (b2i_01 _)]
          rfl
        · rw [if_neg (by decide), if_neg (by decide), if_neg (by decide), if_pos (by decide), ck_n (by omega) (by omega)]
          have hv9 := hC.2.2.1 t ht
          have hvk : (μ 4 t < nI H.length) ↔ cV C t < H.length := by
            rw [hM.2.2.1 t ht, nI_ltI (by omega) (by omega)]
          by_cases hv : cV C t < H.length
          · refine ⟨μ 25, ?_⟩
            rw [if_pos (hvk.mpr hv), same]
            simp [hv, b2i]
          · refine ⟨gl, ?_⟩
            rw [if_neg (fun z => hv (hvk.mp z)), hgl, cl_s]
            cases hl : liked C S H d t
            · simp [hv, b2i]
            · dsimp only
              rw [if_neg (by decide), m_hasPeer hN hC hH (hM.t25 gl) ht, cl_s]
              cases hp : peer C H t <;> simp [hv, b2i]
        · rw [if_neg (by decide), if_neg (by decide), if_neg (by decide), if_neg (by decide), if_pos (by decide), cz_f (by decide), hM.2.2.2.2.2.2.2, hd2]
          rcases Nat.mod_two_eq_zero_or_one d with h2 | h2
          · refine ⟨gk, ?_⟩
            rw [h2, if_pos (show nI 0 = 0 from rfl), hgk, cl_s, cb_t (b2i_01 _)]
            simp
          · refine ⟨gl, ?_⟩
            rw [h2, if_neg (by decide), hgl, cl_s, cb_t (b2i_01 _)]
            simp
        · have e4 : 4 * nI t + nI (d % 4) = nI (4 * t + d % 4) := by
            rw [show (4 : Int32) = nI 4 from rfl, pk_mul, nI_add]
          rw [if_neg (by decide), if_neg (by decide), if_neg (by decide), if_neg (by decide), if_neg (by decide), if_pos (by decide), cz_f (by decide), hM.2.2.2.2.2.2.2, hd4, e4, ck_n (by omega) (by omega), nI_clamp (by omega), hM.2.2.2.2.1 _ (by omega)]
          by_cases hr : nI H.length = nI (cR C (4 * t + d % 4))
          · refine ⟨μ 25, ?_⟩
            rw [if_pos hr, same]
            have : rowIs C H d t = true := by unfold rowIs; rw [decide_eq_true_eq]; exact hr.symm
            simp [this, b2i]
          · refine ⟨ge, ?_⟩
            have : rowIs C H d t = false := by unfold rowIs; rw [decide_eq_false_iff_not]; exact fun z => hr z.symm
            rw [if_neg hr, hge, cl_s, this, Bool.or_false]
            cases hz : (!liked C S H d t && fewer C H t) <;> rfl
