/-! ===== pure layer Z: an E, as the reference reads it ===== -/
/-- what waits of one E: & and | -/
def tk (c : Nat) : Nat := if c = 38 then 1 else 2
def em (pend : List Nat) : List Nat := pend.reverse.map tk
theorem em_app (pend : List Nat) (c : Nat) : em (pend ++ [c]) = tk c :: em pend := by unfold em; rw [List.reverse_append]; rfl
theorem tk_neg {c : Nat} (h : c = 38 ∨ c = 124) : tokR (tk c) = -(nI c) := by rcases h with rfl | rfl <;> rfl
section
variable {N : Nat} {T : List Nat} {B c : Nat}
theorem settle_pop {p o x : Nat} {v1 : Int32} {μ : St} {W : List Nat} {acc : List Int32} (h : RM μ T p (W ++ [x]) o B acc) (hx : x = 38 ∨ x = 124) (hv : x = 38 ∨ ¬ v1 = 38) (hB : B ≤ 500) (hb : acc.length + W.length < 100) : ∃ μ', (∀ n, l_X8_settle_0 N v1 (n + 1) μ = l_X8_settle_0 N v1 n μ') ∧ RM μ' T p W o B (acc ++ [tokR (tk x)]) ∧ ∀ c, frE B c μ μ' := by
  obtain ⟨h2, f2, h22, h20⟩ := h.pop
  obtain ⟨μ3, e3, h3, f3, -⟩ := m_emits (N := N) (tokR (tk x)) h2 hB (by omega)
  have ej : ∀ n, j_X8_settle_45 N (l_X8_settle_0 N v1 n) μ v1 = l_X8_settle_0 N v1 n μ3 := by
    intro n
    unfold j_X8_settle_45
    rw [nm_d, h22, nI_pred, sI_s, ck_n (by omega) (by omega), nI_clamp (by omega), sI_n _ _ (show 20 ≠ 22 by decide), h20, ← tk_neg hx, e3, cl_s]
  refine ⟨μ3, fun n => ?_, h3, fun c => (f2 c).tr (f3 c)⟩
  rw [l_X8_settle_0, h22, if_neg (nI_nle (by omega) (by omega)), nI_pred, ck_n (by omega) (by omega), nI_clamp (by omega), h20]
  rcases hx with rfl | rfl
  · rw [if_pos (show nI 38 = 38 from rfl)]; exact ej n
  · have hv' : ¬ v1 = 38 := by
      rcases hv with z | z
      · omega
      · exact z
    rw [if_neg (show ¬ nI 124 = 38 from by decide), ck_n (by omega) (by omega), if_pos (show nI 124 = 124 from rfl), if_neg hv']; exact ej n
theorem settle_stop {n p o : Nat} {v1 : Int32} {μ : St} {W : List Nat} {acc : List Int32} (h : RM μ T p W o B acc) (hW : ∀ x ∈ W, x < 128) (hl : W.length ≤ 100) (h38 : W.getLast? ≠ some 38) (h124 : W.getLast? ≠ some 124 ∨ v1 = 38) : l_X8_settle_0 N v1 (n + 1) μ = some μ := by
  rw [l_X8_settle_0, h.2.2.1]
  by_cases h0 : W = []
  · subst h0; rw [if_pos (show nI ([] : List Nat).length ≤ 0 from by decide)]
  · obtain ⟨W0, x, e, -⟩ := drop_last h0
    subst e
    have hx2 := hW x (by simp)
    have hg := h.2.2.2.1 W0.length x last_get
    have hx38 : x ≠ 38 := fun z => h38 (by rw [z]; simp)
    simp only [List.length_append, List.length_cons, List.length_nil] at hl ⊢
    rw [if_neg (nI_nle (by omega) (by omega)), nI_pred, ck_n (by omega) (by omega), nI_clamp (by omega), hg, if_neg (show ¬ nI x = 38 from fun z => hx38 ((nI_eq (b := 38) (by omega) (by omega)).mp z)), ck_n (by omega) (by omega)]
    by_cases hx : x = 124
    · have hv : v1 = 38 := by
        rcases h124 with z | z
        · exact absurd (by rw [hx]; simp) z
        · exact z
      rw [if_pos (show nI x = 124 from by rw [hx]; rfl), if_pos hv]
    · rw [if_neg (show ¬ nI x = 124 from fun z => hx ((nI_eq (b := 124) (by omega) (by omega)).mp z))]
/-- all that waits is laid -/
theorem settle_all {v1 : Int32} {W : List Nat} (hv : ¬ v1 = 38) (hB : B ≤ 500) (hW : ∀ x ∈ W, x < 128) (h38 : W.getLast? ≠ some 38) (h124 : W.getLast? ≠ some 124) : ∀ (m n p o : Nat) (μ : St) (pend : List Nat) (acc : List Int32), pend.length = m → m < n → RM μ T p (W ++ pend) o B acc → (∀ x ∈ pend, x = 38 ∨ x = 124) → acc.length + (W.length + pend.length) ≤ 100 → ∃ μ', l_X8_settle_0 N v1 n μ = some μ' ∧ RM μ' T p W o B (acc ++ (em pend).map tokR) ∧ ∀ c, frE B c μ μ' := by
  intro m
  induction m with
  | zero =>
    intro n p o μ pend acc hm hn h hp hb
    obtain ⟨n, rfl⟩ : ∃ m, n = m + 1 := ⟨n - 1, by omega⟩
    obtain rfl : pend = [] := List.length_eq_zero_iff.mp hm
    rw [List.append_nil] at h
    refine ⟨μ, settle_stop h hW (by simp at hb; omega) h38 (Or.inl h124), ?_, fun c => frE.rf B c μ⟩
    simpa [em] using h
  | succ m ih =>
    intro n p o μ pend acc hm hn h hp hb
    obtain ⟨n, rfl⟩ : ∃ m, n = m + 1 := ⟨n - 1, by omega⟩
    obtain ⟨q, x, e, -⟩ := drop_last (H := pend) (fun z => by rw [z] at hm; simp at hm)
    subst e
    rw [← List.append_assoc] at h
    simp only [List.length_append, List.length_cons, List.length_nil] at hm hb
    obtain ⟨μ1, e1, h1, f1⟩ := settle_pop (N := N) (v1 := v1) h (hp x (by simp)) (Or.inr hv) hB (by simp only [List.length_append]; omega)
    obtain ⟨μ2, e2, h2, f2⟩ := ih n p o μ1 q _ (by omega) (by omega) h1 (fun y hy => hp y (by simp [hy])) (by simp only [List.length_append, List.length_cons, List.length_nil]; omega)
    refine ⟨μ2, by rw [e1, e2], ?_, fun c => (f1 c).tr (f2 c)⟩
    rw [List.append_assoc] at h2
    rw [em_app, List.map_cons]
    exact h2
/-- the reference goes on from a part that is wanted to what is behind it -/
def PM (N : Nat) (T : List Nat) (B c d : Nat) (rp : Nat → Rd) : Prop := ∀ (p k : Nat) (W : List Nat) (acc : List Int32) (μ : St), RM μ T p (W ++ List.replicate k 33) d B acc → k ≤ d → W.getLast? ≠ some 33 → (∀ x ∈ W, x < 128) → acc.length + (W.length + k) ≤ p → p ≤ T.length →
  ((rp p).1 = true → ∃ (w : Nat) (μ' : St), w ≤ (rp p).2.1 - p ∧ (∀ n, l_X8_takesE_22 N (nI c) (n + w) μ 1 = l_X8_takesE_22 N (nI c) n μ' 0) ∧ RM μ' T (rp p).2.1 W (d - k) B (acc ++ (rp p).2.2.map tokR ++ List.replicate k (-33)) ∧ frE B c μ μ') ∧
  ((rp p).1 = false → ∀ n, T.length - p < n → ∃ μ', l_X8_takesE_22 N (nI c) n μ 1 = some (0, μ') ∧ μ' 11 0 = nI (rp p).2.1 ∧ frE B c μ μ')
/-- the same of parts with & between -/
def BM (N : Nat) (T : List Nat) (B c d : Nat) (rb : Nat → Rd) : Prop := ∀ (p : Nat) (W : List Nat) (acc : List Int32) (μ : St), RM μ T p W d B acc → W.getLast? ≠ some 33 → W.getLast? ≠ some 38 → (∀ x ∈ W, x < 128) → acc.length + W.length ≤ p → p ≤ T.length →
  ((rb p).1 = true → ∃ (w : Nat) (μ' : St) (pend toks : List Nat), (pend = [] ∨ pend = [38]) ∧ (rb p).2.2 = toks ++ em pend ∧ w ≤ (rb p).2.1 - p ∧ (∀ n, l_X8_takesE_22 N (nI c) (n + w) μ 1 = l_X8_takesE_22 N (nI c) n μ' 0) ∧ RM μ' T (rb p).2.1 (W ++ pend) d B (acc ++ toks.map tokR) ∧ frE B c μ μ') ∧
  ((rb p).1 = false → ∀ n, T.length - p < n → ∃ μ', l_X8_takesE_22 N (nI c) n μ 1 = some (0, μ') ∧ μ' 11 0 = nI (rb p).2.1 ∧ frE B c μ μ')
/-- the same of an E -/
def EM (N : Nat) (T : List Nat) (B c d : Nat) (re : Nat → Rd) : Prop := ∀ (p : Nat) (W : List Nat) (acc : List Int32) (μ : St), RM μ T p W d B acc → W.getLast? ≠ some 33 → W.getLast? ≠ some 38 → W.getLast? ≠ some 124 → (∀ x ∈ W, x < 128) → acc.length + W.length ≤ p → p ≤ T.length →
  ((re p).1 = true → ∃ (w : Nat) (μ' : St) (pend toks : List Nat), (∀ x ∈ pend, x = 38 ∨ x = 124) ∧ (re p).2.2 = toks ++ em pend ∧ w ≤ (re p).2.1 - p ∧ (∀ n, l_X8_takesE_22 N (nI c) (n + w) μ 1 = l_X8_takesE_22 N (nI c) n μ' 0) ∧ RM μ' T (re p).2.1 (W ++ pend) d B (acc ++ toks.map tokR) ∧ frE B c μ μ' ∧ acc.length + toks.length + (W.length + pend.length) ≤ (re p).2.1) ∧
  ((re p).1 = false → ∀ n, T.length - p < n → ∃ μ', l_X8_takesE_22 N (nI c) n μ 1 = some (0, μ') ∧ μ' 11 0 = nI (re p).2.1 ∧ frE B c μ μ')
theorem wants_push {p o x : Nat} {μ : St} {W : List Nat} {acc : List Int32} (hT : TxOk T) (h : RM μ T p W o B acc) (hx : x = 33 ∨ x = 40) (hc : chr T p = x) (ho : o < 4) (hl : W.length ≤ 100) : ∃ μ', (∀ n, l_X8_takesE_22 N (nI c) (n + 1) μ 1 = l_X8_takesE_22 N (nI c) n μ' 1) ∧ RM μ' T (p + 1) (W ++ [x]) (o + 1) B acc ∧ ∀ c, frE B c μ μ' := by
  have h100 := hT.1
  have hp := chr_in hT hc (by omega)
  obtain ⟨h1, f1⟩ := h.opn (q := o + 1)
  obtain ⟨h2, f2⟩ := h1.push (x := x)
  obtain ⟨h3, f3⟩ := h2.at' (q := p + 1)
  have hnx : nxI T p = nI x := (nx_eq hT (by omega)).mpr hc
  have ej : ∀ n, j_X8_takesE_43 N (l_X8_takesE_22 N (nI c) n) μ (nI c) 1 (nI x) = l_X8_takesE_22 N (nI c) n (sI (sI (sA (sI μ 23 (nI (o + 1))) 20 (upd (sI μ 23 (nI (o + 1)) 20) W.length (nI x))) 22 (nI (W.length + 1))) 11 (nI (p + 1))) 1 := by
    intro n
    unfold j_X8_takesE_43
    rw [h.2.2.2.2.1, if_neg (show ¬ nI o = 4 from fun z => by have := (nI_eq (b := 4) (by omega) (by omega)).mp z; omega), nm_d, nI_1, sI_n _ _ (show 22 ≠ 23 by decide), h.2.2.1, ck_n (by omega) (by omega), nm_d, nm_d, nm_d, nI_clamp (by omega), sA_n _ _ (show 22 ≠ 20 by decide), sI_n _ _ (show 22 ≠ 23 by decide), h.2.2.1, nI_1]
    rw [sI_n _ _ (show 11 ≠ 22 by decide), sA_n _ _ (show 11 ≠ 20 by decide), sI_n _ _ (show 11 ≠ 23 by decide), h.2.1, nI_1]
  refine ⟨_, fun n => ?_, h3, fun c => ((f1 c).tr (f2 c)).tr (f3 c)⟩
  rw [l_X8_takesE_22, m_next hT h.1 h.2.1 (by omega), cl_s, if_neg (show ¬ (1 : Int32) = 0 from by decide), hnx]
  rcases hx with rfl | rfl
  · rw [if_pos (show nI 33 = 33 from rfl)]; exact ej n
  · rw [if_neg (show ¬ nI 40 = 33 from by decide), if_pos (show nI 40 = 40 from rfl)]; exact ej n
theorem wants_full {p o x n : Nat} {μ : St} {W : List Nat} {acc : List Int32} (hT : TxOk T) (h : RM μ T p W o B acc) (hx : x = 33 ∨ x = 40) (hc : chr T p = x) (ho : o = 4) : l_X8_takesE_22 N (nI c) (n + 1) μ 1 = some (0, μ) := by
  have h100 := hT.1
  have hp := chr_in hT hc (by omega)
  have hnx : nxI T p = nI x := (nx_eq hT (by omega)).mpr hc
  have ej : j_X8_takesE_43 N (l_X8_takesE_22 N (nI c) n) μ (nI c) 1 (nI x) = some (0, μ) := by
    unfold j_X8_takesE_43
    rw [h.2.2.2.2.1, ho, if_pos (show nI 4 = 4 from rfl)]
  rw [l_X8_takesE_22, m_next hT h.1 h.2.1 (by omega), cl_s, if_neg (show ¬ (1 : Int32) = 0 from by decide), hnx]
  rcases hx with rfl | rfl
  · rw [if_pos (show nI 33 = 33 from rfl)]; exact ej
  · rw [if_neg (show ¬ nI 40 = 33 from by decide), if_pos (show nI 40 = 40 from rfl)]; exact ej
/-- & or | behind a part: what waits is settled, and it waits itself -/
theorem has_sign {p o x : Nat} {μ μ1 : St} {W : List Nat} {acc : List Int32} (hT : TxOk T) (hX : TXm μ T) (h11 : μ 11 0 = nI p) (hx : x = 38 ∨ x = 124) (hc : chr T p = x) (hs : f_X8_settle N μ (nI x) = some μ1) (h1 : RM μ1 T p W o B acc) (hl : W.length ≤ 100) : ∃ μ', (∀ n, l_X8_takesE_22 N (nI c) (n + 1) μ 0 = l_X8_takesE_22 N (nI c) n μ' 1) ∧ RM μ' T (p + 1) (W ++ [x]) o B acc ∧ ∀ c, frE B c μ1 μ' := by
  have h100 := hT.1
  have hp := chr_in hT hc (by omega)
  have hnx : nxI T p = nI x := (nx_eq hT (by omega)).mpr hc
  obtain ⟨h2, f2⟩ := h1.push (x := x)
  obtain ⟨h3, f3⟩ := h2.at' (q := p + 1)
  have ej : ∀ n, j_X8_takesE_122 N (l_X8_takesE_22 N (nI c) n) μ (nI c) (nI x) = l_X8_takesE_22 N (nI c) n (sI (sI (sA μ1 20 (upd (μ1 20) W.length (nI x))) 22 (nI (W.length + 1))) 11 (nI (p + 1))) 1 := by
    intro n
    unfold j_X8_takesE_122
    rw [hs, cl_s, h1.2.2.1, ck_n (by omega) (by omega), nm_d, nm_d, nm_d, nI_clamp (by omega), sA_n _ _ (show 22 ≠ 20 by decide), h1.2.2.1, nI_1]
    rw [sI_n _ _ (show 11 ≠ 22 by decide), sA_n _ _ (show 11 ≠ 20 by decide), h1.2.1, nI_1]
  refine ⟨_, fun n => ?_, h3, fun c => (f2 c).tr (f3 c)⟩
  rw [l_X8_takesE_22, m_next hT hX h11 (by omega), cl_s, if_pos rfl, hnx]
  rcases hx with rfl | rfl
  · rw [if_pos (show nI 38 = 38 from rfl)]; exact ej n
  · rw [if_neg (show ¬ nI 124 = 38 from by decide), if_pos (show nI 124 = 124 from rfl)]; exact ej n
theorem last_app {W : List Nat} {x : Nat} : (W ++ [x]).getLast? = some x := by simp
theorem m_bothL {d : Nat} {rp : Nat → Rd} (hN : 1000 ≤ N) (hT : TxOk T) (hB : B ≤ 500) (hP : Pok T rp) (hM : PM N T B c d rp) (W : List Nat) (hW33 : W.getLast? ≠ some 33) (hW38 : W.getLast? ≠ some 38) (hW : ∀ x ∈ W, x < 128) (acc : List Int32) :
    ∀ (k p : Nat) (pend toks : List Nat) (μ : St), (pend = [] ∨ pend = [38]) → RM μ T p (W ++ pend) d B (acc ++ toks.map tokR) → acc.length + toks.length + (W.length + pend.length) ≤ p → p ≤ T.length →
      ((rBothL rp T k p (toks ++ em pend)).1 = true → ∃ (w : Nat) (μ' : St) (pend' toks' : List Nat), (pend' = [] ∨ pend' = [38]) ∧ (rBothL rp T k p (toks ++ em pend)).2.2 = toks' ++ em pend' ∧ p + w ≤ (rBothL rp T k p (toks ++ em pend)).2.1 ∧ (∀ n, l_X8_takesE_22 N (nI c) (n + w) μ 0 = l_X8_takesE_22 N (nI c) n μ' 0) ∧ RM μ' T (rBothL rp T k p (toks ++ em pend)).2.1 (W ++ pend') d B (acc ++ toks'.map tokR) ∧ frE B c μ μ') ∧
      ((rBothL rp T k p (toks ++ em pend)).1 = false → ∀ n, T.length - p < n → ∃ μ', l_X8_takesE_22 N (nI c) n μ 0 = some (0, μ') ∧ μ' 11 0 = nI (rBothL rp T k p (toks ++ em pend)).2.1 ∧ frE B c μ μ') := by
  have h100 := hT.1
  intro k
  induction k with
  | zero =>
    intro p pend toks μ hpd h hb hp
    exact ⟨fun _ => ⟨0, μ, pend, toks, hpd, rfl, Nat.le_refl _, fun n => rfl, h, frE.rf B c μ⟩, fun z => (by cases z)⟩
  | succ k ih =>
    intro p pend toks μ hpd h hb hp
    rw [rBothL]
    by_cases h1 : chr T p = 38
    · have hlt := chr_in hT h1 (by omega)
      rw [if_pos h1]
      -- settle what waits
      obtain ⟨μ1, e1, hR1, f1⟩ : ∃ μ1, f_X8_settle N μ (nI 38) = some μ1 ∧ RM μ1 T p W d B (acc ++ (toks ++ em pend).map tokR) ∧ ∀ c, frE B c μ μ1 := by
        obtain ⟨N', rfl⟩ : ∃ m, N = m + 2 := ⟨N - 2, by omega⟩
        unfold f_X8_settle
        rcases hpd with rfl | rfl
        · rw [List.append_nil] at h
          refine ⟨μ, settle_stop h hW (by simp at hb; omega) hW38 (Or.inr rfl), ?_, fun c => frE.rf B c μ⟩
          simpa [em] using h
        · simp only [List.length_cons, List.length_nil] at hb
          obtain ⟨μ1, e1, h2, f1⟩ := settle_pop (N := N' + 2) (v1 := nI 38) h (Or.inl rfl) (Or.inl rfl) hB (by simp only [List.length_append, List.length_map]; omega)
          refine ⟨μ1, by rw [e1]; exact settle_stop h2 hW (by omega) hW38 (Or.inr rfl), ?_, f1⟩
          rw [List.append_assoc] at h2
          rw [List.map_append]
          exact h2
      have hemlen : (em pend).length = pend.length := by unfold em; simp
      obtain ⟨μ2, e2, hR2, f2⟩ := has_sign (N := N) (c := c) hT h.1 h.2.1 (Or.inl rfl) h1 e1 hR1 (by omega)
      obtain ⟨a, b, cc⟩ := hP (p + 1) (by omega)
      have hRk : RM μ2 T (p + 1) ((W ++ [38]) ++ List.replicate 0 33) d B (acc ++ (toks ++ em pend).map tokR) := by
        rw [List.replicate_zero, List.append_nil]; exact hR2
      have hm := hM (p + 1) 0 (W ++ [38]) _ μ2 hRk (Nat.zero_le _) (by rw [last_app]; simp) (mem_app hW (by omega)) (by simp only [List.length_append, List.length_map, List.length_cons, List.length_nil]; omega) (by omega)
      cases hb1 : (rp (p + 1)).1
      · rw [if_neg (by decide)]
        refine ⟨fun z => (by cases z), fun _ n hn => ?_⟩
        obtain ⟨n, rfl⟩ : ∃ m, n = m + 1 := ⟨n - 1, by omega⟩
        obtain ⟨μ3, e3, p3, f3⟩ := hm.2 hb1 n (by omega)
        exact ⟨μ3, by rw [e2, e3], p3, ((f1 c).tr (f2 c)).tr f3⟩
      · rw [if_pos rfl]
        obtain ⟨w, μ3, hw, e3, hR3, f3⟩ := hm.1 hb1
        obtain ⟨c1, c2⟩ := cc hb1
        have hR3' : RM μ3 T (rp (p + 1)).2.1 (W ++ [38]) d B (acc ++ (toks ++ em pend ++ (rp (p + 1)).2.2).map tokR) := by
          rw [List.replicate_zero, List.append_nil, Nat.sub_zero, List.append_assoc, ← List.map_append] at hR3
          exact hR3
        have i2 := ih (rp (p + 1)).2.1 [38] (toks ++ em pend ++ (rp (p + 1)).2.2) μ3 (Or.inr rfl) hR3' (by simp only [List.length_append, List.length_cons, List.length_nil]; omega) b
        have e38 : em [38] = [1] := rfl
        rw [e38] at i2
        refine ⟨fun z => ?_, fun z n hn => ?_⟩
        · obtain ⟨w', μ', pend', toks', q1, q2, q3, q4, q5, q6⟩ := i2.1 z
          exact ⟨w' + w + 1, μ', pend', toks', q1, q2, by omega, fun n => by rw [show n + (w' + w + 1) = ((n + w') + w) + 1 by omega, e2, e3, q4], q5, (((f1 c).tr (f2 c)).tr f3).tr q6⟩
        · obtain ⟨m, rfl⟩ : ∃ m, n = (m + w) + 1 := ⟨n - 1 - w, by omega⟩
          obtain ⟨μ', q1, q2, q3⟩ := i2.2 z m (by omega)
          exact ⟨μ', by rw [e2, e3, q1], q2, (((f1 c).tr (f2 c)).tr f3).tr q3⟩
    · rw [if_neg h1]
      exact ⟨fun _ => ⟨0, μ, pend, toks, hpd, rfl, Nat.le_refl _, fun n => rfl, h, frE.rf B c μ⟩, fun z => (by cases z)⟩
end
