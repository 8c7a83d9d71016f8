/-! ===== pure layer QC: clauses, in the reference ===== -/
def lts : List Nat := [108, 105, 107, 101, 109, 105, 110, 100, 110, 101, 101, 100, 104, 111, 108, 100]
def LET (μ : St) : Prop := ∀ i : Nat, i < 16 → μ 24 i = nI (lts.getD i 0)
def RS0 (μ : St) (T : List Nat) (p B : Nat) (acc : List Int32) : Prop := TXm μ T ∧ μ 11 0 = nI p ∧ μ 21 0 = nI (B + acc.length) ∧ ∀ (i : Nat) (z : Int32), acc[i]? = some z → μ 19 (B + i) = z
def frC (B c : Nat) (μ μ' : St) : Prop := (∀ k, (k < 11 ∨ k = 13 ∨ k = 14 ∨ 23 < k) → μ' k = μ k) ∧ (∀ i, i < B → μ' 19 i = μ 19 i) ∧ ∀ i, i ≠ c → μ' 15 i = μ 15 i ∧ μ' 16 i = μ 16 i ∧ μ' 17 i = μ 17 i ∧ μ' 18 i = μ 18 i
theorem frC.rf (B c : Nat) (μ : St) : frC B c μ μ := ⟨fun _ _ => rfl, fun _ _ => rfl, fun _ _ => ⟨rfl, rfl, rfl, rfl⟩⟩
theorem frC.tr {B c : Nat} {a b d : St} (h1 : frC B c a b) (h2 : frC B c b d) : frC B c a d := ⟨fun k hk => (h2.1 k hk).trans (h1.1 k hk), fun i hi => (h2.2.1 i hi).trans (h1.2.1 i hi), fun i hi => ⟨(h2.2.2 i hi).1.trans (h1.2.2 i hi).1, (h2.2.2 i hi).2.1.trans (h1.2.2 i hi).2.1, (h2.2.2 i hi).2.2.1.trans (h1.2.2 i hi).2.2.1, (h2.2.2 i hi).2.2.2.trans (h1.2.2 i hi).2.2.2⟩⟩
theorem frE.c {B c : Nat} {μ μ' : St} (h : frE B c μ μ') : frC B c μ μ' := ⟨fun k hk => h.1 k (by omega) (by omega) (by omega) (by omega) (by omega) (by omega) (by omega) (by omega), h.2.1, fun i hi => ⟨by rw [h.1 15 (by decide) (by decide) (by decide) (by decide) (by decide) (by decide) (by decide) (by decide)], by rw [h.1 16 (by decide) (by decide) (by decide) (by decide) (by decide) (by decide) (by decide) (by decide)], by rw [h.1 17 (by decide) (by decide) (by decide) (by decide) (by decide) (by decide) (by decide) (by decide)], h.2.2 i hi⟩⟩
/-- scalars of the reader alone -/
theorem frC.sc {B c : Nat} {μ μ' : St} (h : ∀ k, k ≠ 11 → k ≠ 12 → k ≠ 20 → k ≠ 22 → k ≠ 23 → μ' k = μ k) : frC B c μ μ' := ⟨fun k hk => h k (by omega) (by omega) (by omega) (by omega) (by omega), fun i _ => by rw [h 19 (by decide) (by decide) (by decide) (by decide) (by decide)], fun i _ => ⟨by rw [h 15 (by decide) (by decide) (by decide) (by decide) (by decide)], by rw [h 16 (by decide) (by decide) (by decide) (by decide) (by decide)], by rw [h 17 (by decide) (by decide) (by decide) (by decide) (by decide)], by rw [h 18 (by decide) (by decide) (by decide) (by decide) (by decide)]⟩⟩
/-- one cell of a clause -/
theorem frC.cell {B c j : Nat} {μ : St} {x : Int32} (hj : j = 15 ∨ j = 16 ∨ j = 17 ∨ j = 18) : frC B c μ (sA μ j (upd (μ j) c x)) := by
  refine ⟨fun k hk => sA_n _ _ (by omega), fun i _ => by rw [sA_n _ _ (by omega)], fun i hi => ?_⟩
  rcases hj with rfl | rfl | rfl | rfl
  · exact ⟨by rw [sA_s, upd_n hi], by rw [sA_n _ _ (by decide)], by rw [sA_n _ _ (by decide)], by rw [sA_n _ _ (by decide)]⟩
  · exact ⟨by rw [sA_n _ _ (by decide)], by rw [sA_s, upd_n hi], by rw [sA_n _ _ (by decide)], by rw [sA_n _ _ (by decide)]⟩
  · exact ⟨by rw [sA_n _ _ (by decide)], by rw [sA_n _ _ (by decide)], by rw [sA_s, upd_n hi], by rw [sA_n _ _ (by decide)]⟩
  · exact ⟨by rw [sA_n _ _ (by decide)], by rw [sA_n _ _ (by decide)], by rw [sA_n _ _ (by decide)], by rw [sA_s, upd_n hi]⟩
theorem TXm.c {B c : Nat} {μ μ' : St} {T : List Nat} (h : TXm μ T) (hf : frC B c μ μ') : TXm μ' T := by
  unfold TXm at h ⊢
  rw [hf.1 10 (by omega), hf.1 13 (by omega)]; exact h
/-- a clause's cells: word, number, and where its signs lie within acc -/
def CLA (μ : St) (c B : Nat) (acc : List Int32) (z : Cz) : Prop := μ 15 c = nI z.1 ∧ μ 16 c = nI z.2.1 ∧ (z.1 ≤ 1 → ∃ o : Nat, o + z.2.2.length ≤ acc.length ∧ μ 17 c = nI (B + o) ∧ μ 18 c = nI (B + o + z.2.2.length) ∧ ∀ i t : Nat, z.2.2[i]? = some t → acc[o + i]? = some (tokR t))
def clR (z : Cz) : List Int32 := if z.1 ≤ 1 then z.2.2.map tokR else []
section
variable {N : Nat} {T : List Nat} {B c p : Nat} {μ : St} {acc : List Int32}
theorem lts_w : ∀ w : Nat, w < 4 → ∀ i : Nat, i < 4 → lts.getD (4 * w + i) 0 = (wl w).getD i 0 := by decide
/-- RS0 over a change that leaves text, signs and their number -/
theorem RS0.go {μ' : St} {q : Nat} (h : RS0 μ T p B acc) (hq : μ' 11 0 = nI q) (hf : ∀ k, k = 10 ∨ k = 13 ∨ k = 19 ∨ k = 21 → μ' k = μ k) : RS0 μ' T q B acc := by
  obtain ⟨⟨h1, h2⟩, h3, h4, h5⟩ := h
  exact ⟨⟨by rw [hf 10 (by omega)]; exact h1, fun i c hc => by rw [hf 13 (by omega)]; exact h2 i c hc⟩, hq, by rw [hf 21 (by omega)]; exact h4, fun i z hz => by rw [hf 19 (by omega)]; exact h5 i z hz⟩
theorem m_word {w : Nat} (hT : TxOk T) (hw : w < 4) : ∀ (j i n : Nat) (μ : St) (p : Nat), i + j = 4 → j < n → p ≤ T.length → TXm μ T → LET μ → μ 11 0 = nI p → ∃ μ', l_X8_takesWord_2 N (nI (4 * w)) 4 n μ (nI i) = some (b2i (rLit T ((wl w).drop i ++ [32]) p).1, μ') ∧ μ' 11 0 = nI (rLit T ((wl w).drop i ++ [32]) p).2 ∧ ∀ k, k ≠ 11 → μ' k = μ k := by
  have h100 := hT.1
  have hl := wl_len hw
  intro j
  induction j with
  | zero =>
    intro i n μ p hi hn hp hX hL h11
    obtain ⟨n, rfl⟩ : ∃ m, n = m + 1 := ⟨n - 1, by omega⟩
    obtain rfl : i = 4 := by omega
    have e1 : f_X8_takes N μ 32 = _ := m_takes (N := N) hT hX h11 (by omega) 32 (by omega)
    rw [l_X8_takesWord_2, if_pos (show (4 : Int32) ≤ nI 4 from by decide), e1, cl_s, List.drop_eq_nil_of_le (by omega), List.nil_append, rLit]
    dsimp only
    by_cases h : chr T p = 32
    · rw [if_pos h, if_pos h, show decide (chr T p = 32) = true from decide_eq_true h, cb_t (b2i_01 _)]
      exact ⟨_, rfl, by rw [sI_s]; rfl, fun k hk => sI_n _ _ hk⟩
    · rw [if_neg h, if_neg h, show decide (chr T p = 32) = false from decide_eq_false h, cb_t (b2i_01 _)]
      exact ⟨_, rfl, h11, fun k hk => rfl⟩
  | succ j ih =>
    intro i n μ p hi hn hp hX hL h11
    obtain ⟨n, rfl⟩ : ∃ m, n = m + 1 := ⟨n - 1, by omega⟩
    have hc : (wl w).getD i 0 < 128 := by
      rw [List.getD_eq_getElem?_getD, List.getElem?_eq_getElem (by omega)]
      exact wl_lt hw _ (List.getElem_mem _)
    have e1 := m_takes (N := N) hT hX h11 (by omega) ((wl w).getD i 0) hc
    rw [l_X8_takesWord_2, if_neg (show ¬ (4 : Int32) ≤ nI i from nI_ge (b := 4) (by omega) (by omega)), nI_add, ck_n (by omega) (by omega), nI_clamp (by omega), hL _ (by omega), lts_w w hw i (by omega), e1, cl_s, drop_get hw (by omega), List.cons_append, rLit]
    dsimp only
    by_cases h : chr T p = (wl w).getD i 0
    · have hlt := chr_in hT h hc
      rw [if_pos h, if_pos h, show decide (chr T p = (wl w).getD i 0) = true from decide_eq_true h, i1, nm_d, nI_1]
      obtain ⟨μ', e2, q2, f2⟩ := ih (i + 1) n (sI μ 11 (nI (p + 1))) (p + 1) (by omega) (by omega) (by omega) (by unfold TXm; rw [sI_n _ _ (by decide), sI_n _ _ (by decide)]; exact hX) (fun i hi => by rw [sI_n _ _ (by decide)]; exact hL i hi) (by rw [sI_s])
      exact ⟨μ', e2, q2, fun k hk => by rw [f2 k hk, sI_n _ _ hk]⟩
    · rw [if_neg h, if_neg h, show decide (chr T p = (wl w).getD i 0) = false from decide_eq_false h, i0]
      exact ⟨μ, rfl, h11, fun k hk => rfl⟩
theorem m_head (hN : 1000 ≤ N) (hT : TxOk T) (hX : TXm μ T) (hL : LET μ) (h11 : μ 11 0 = nI p) (hp : p ≤ T.length) (hc : c < 60) : ∃ μ', f_X8_takesHead N μ (nI c) = some (b2i (if wx (chr T p) = 4 then false else (rLit T (wl (wx (chr T p)) ++ [32]) p).1), μ') ∧ μ' 11 0 = nI (if wx (chr T p) = 4 then p else (rLit T (wl (wx (chr T p)) ++ [32]) p).2) ∧ (wx (chr T p) < 4 → μ' 15 c = nI (wx (chr T p))) ∧ (∀ k, k ≠ 11 → k ≠ 15 → μ' k = μ k) ∧ ∀ i, i ≠ c → μ' 15 i = μ 15 i := by
  have h100 := hT.1
  have hx : ∀ c : Nat, c < 128 → (nxI T p = nI c ↔ chr T p = c) := fun c hc => nx_eq hT hc
  have word : ∀ w, w < 4 → ∃ μ', f_X8_takesWord N (sA μ 15 (upd (μ 15) c (nI w))) (nI (4 * w)) 4 = some (b2i (rLit T (wl w ++ [32]) p).1, μ') ∧ μ' 11 0 = nI (rLit T (wl w ++ [32]) p).2 ∧ μ' 15 c = nI w ∧ (∀ k, k ≠ 11 → k ≠ 15 → μ' k = μ k) ∧ ∀ i, i ≠ c → μ' 15 i = μ 15 i := by
    intro w hw
    obtain ⟨μ', e, q, f⟩ := m_word (N := N) hT hw 4 0 N (sA μ 15 (upd (μ 15) c (nI w))) p rfl (by omega) hp (by unfold TXm; rw [sA_n _ _ (by decide), sA_n _ _ (by decide)]; exact hX) (fun i hi => by rw [sA_n _ _ (by decide)]; exact hL i hi) (by rw [sA_n _ _ (by decide)]; exact h11)
    rw [List.drop_zero] at e q
    exact ⟨μ', e, q, by rw [f 15 (by decide), sA_s, upd_s], fun k a b => by rw [f k a, sA_n _ _ b], fun i hi => by rw [f 15 (by decide), sA_s, upd_n hi]⟩
  unfold f_X8_takesHead
  rw [m_next hT hX h11 (by omega), cl_s]
  by_cases z1 : chr T p = 108
  · have ew : wx (chr T p) = 0 := by unfold wx; rw [if_pos z1]
    obtain ⟨μ', e, q, w, f1, f2⟩ := word 0 (by omega)
    have e' : f_X8_takesWord N (sA μ 15 (upd (μ 15) c 0)) 0 4 = _ := e
    rw [if_pos (show nxI T p = 108 from (hx 108 (by omega)).mpr z1), ck_n hc (by omega), nm_d, nI_clamp (by omega), e', cl_s, cb_t (b2i_01 _), ew, if_neg (by decide), if_neg (by decide)]
    exact ⟨μ', rfl, q, fun _ => w, f1, f2⟩
  rw [if_neg (show ¬ nxI T p = 108 from fun z => z1 ((hx 108 (by omega)).mp z))]
  by_cases z2 : chr T p = 109
  · have ew : wx (chr T p) = 1 := by unfold wx; rw [if_neg z1, if_pos z2]
    obtain ⟨μ', e, q, w, f1, f2⟩ := word 1 (by omega)
    have e' : f_X8_takesWord N (sA μ 15 (upd (μ 15) c 1)) 4 4 = _ := e
    rw [if_pos (show nxI T p = 109 from (hx 109 (by omega)).mpr z2), ck_n hc (by omega), nm_d, nI_clamp (by omega), e', cl_s, cb_t (b2i_01 _), ew, if_neg (by decide), if_neg (by decide)]
    exact ⟨μ', rfl, q, fun _ => w, f1, f2⟩
  rw [if_neg (show ¬ nxI T p = 109 from fun z => z2 ((hx 109 (by omega)).mp z))]
  by_cases z3 : chr T p = 110
  · have ew : wx (chr T p) = 2 := by unfold wx; rw [if_neg z1, if_neg z2, if_pos z3]
    obtain ⟨μ', e, q, w, f1, f2⟩ := word 2 (by omega)
    have e' : f_X8_takesWord N (sA μ 15 (upd (μ 15) c 2)) 8 4 = _ := e
    rw [if_pos (show nxI T p = 110 from (hx 110 (by omega)).mpr z3), ck_n hc (by omega), nm_d, nI_clamp (by omega), e', cl_s, cb_t (b2i_01 _), ew, if_neg (by decide), if_neg (by decide)]
    exact ⟨μ', rfl, q, fun _ => w, f1, f2⟩
  rw [if_neg (show ¬ nxI T p = 110 from fun z => z3 ((hx 110 (by omega)).mp z))]
  obtain ⟨μ', e, q, w, f1, f2⟩ := word 3 (by omega)
  have e' : f_X8_takesWord N (sA μ 15 (upd (μ 15) c 3)) 12 4 = _ := e
  rw [ck_n hc (by omega), nm_d, nI_clamp (by omega), e', cl_s, cb_t (b2i_01 _)]
  by_cases z4 : chr T p = 104
  · have ew : wx (chr T p) = 3 := by unfold wx; rw [if_neg z1, if_neg z2, if_neg z3, if_pos z4]
    rw [ew, if_neg (by decide), if_neg (by decide)]
    exact ⟨μ', rfl, q, fun _ => w, f1, f2⟩
  · have ew : wx (chr T p) = 4 := by unfold wx; rw [if_neg z1, if_neg z2, if_neg z3, if_neg z4]
    have el : rLit T (wl 3 ++ [32]) p = (false, p) := by
      show rLit T (104 :: _) p = _
      rw [rLit, if_neg z4]
    rw [el] at q ⊢
    rw [ew, if_pos rfl, if_pos rfl]
    exact ⟨μ', rfl, q, fun z => by omega, f1, f2⟩
theorem m_takesE (hN : 1000 ≤ N) (hT : TxOk T) (h : RS0 μ T p B acc) (hB : B ≤ 500) (hc : c < 60) (ha : acc.length ≤ p) (hp : p ≤ T.length) : ∃ μ', f_X8_takesE N μ (nI c) = some (b2i (rE T p).1, μ') ∧ μ' 11 0 = nI (rE T p).2.1 ∧ ((rE T p).1 = true → RS0 μ' T (rE T p).2.1 B (acc ++ (rE T p).2.2.map tokR) ∧ μ' 17 c = nI (B + acc.length) ∧ μ' 18 c = nI (B + acc.length + (rE T p).2.2.length)) ∧ frC B c μ μ' ∧ μ' 15 = μ 15 ∧ μ' 16 = μ 16 := by
  have h100 := hT.1
  obtain ⟨⟨h1, h2⟩, h3, h4, h5⟩ := h
  unfold f_X8_takesE
  rw [nm_d, nm_d, ck_n hc (by omega), nm_d, nI_clamp (by omega), sI_n _ _ (show 21 ≠ 23 by decide), sI_n _ _ (show 21 ≠ 22 by decide), h4, sI_n _ _ (show 17 ≠ 23 by decide), sI_n _ _ (show 17 ≠ 22 by decide)]
  generalize hμ1 : sA (sI (sI μ 22 0) 23 0) 17 (upd (μ 17) c (nI (B + acc.length))) = μ1
  have f1 : ∀ k, k ≠ 17 → k ≠ 22 → k ≠ 23 → μ1 k = μ k := fun k a b d => by rw [← hμ1, sA_n _ _ a, sI_n _ _ d, sI_n _ _ b]
  have g1 : frC B c μ μ1 := ⟨fun k hk => f1 k (by omega) (by omega) (by omega), fun i _ => by rw [f1 19 (by decide) (by decide) (by decide)], fun i hi => ⟨by rw [f1 15 (by decide) (by decide) (by decide)], by rw [f1 16 (by decide) (by decide) (by decide)], by rw [← hμ1, sA_s, upd_n hi], by rw [f1 18 (by decide) (by decide) (by decide)]⟩⟩
  have c17 : μ1 17 c = nI (B + acc.length) := by rw [← hμ1, sA_s, upd_s]
  have hR : RM μ1 T p [] 0 B acc := ⟨⟨by rw [f1 10 (by decide) (by decide) (by decide)]; exact h1, fun i c hc => by rw [f1 13 (by decide) (by decide) (by decide)]; exact h2 i c hc⟩, by rw [f1 11 (by decide) (by decide) (by decide)]; exact h3, by rw [← hμ1, sA_n _ _ (by decide), sI_n _ _ (by decide), sI_s]; rfl, fun i c hc => by simp at hc, by rw [← hμ1, sA_n _ _ (by decide), sI_s]; rfl, by rw [f1 21 (by decide) (by decide) (by decide)]; exact h4, fun i z hz => by rw [f1 19 (by decide) (by decide) (by decide)]; exact h5 i z hz⟩
  have hPk := part_ok hT 8 0
  have hE := m_either hN hT hB hPk (m_part (N := N) (c := c) hN hT hB hc 8 0 (by omega) (by omega)) p [] acc μ1 hR (by simp) (by simp) (by simp) (fun x hx => by simp at hx) (by simpa using ha) hp
  obtain ⟨p1, p2, p3⟩ := rE_ok hT p hp
  have eE : rEither (rPart T 8 0) T p = rE T p := rfl
  rw [eE] at hE
  cases hb : (rE T p).1
  · obtain ⟨μ', e, q, f⟩ := hE.2 hb N (by omega)
    have e15 := f.1 15 (by decide) (by decide) (by decide) (by decide) (by decide) (by decide) (by decide) (by decide)
    have e16 := f.1 16 (by decide) (by decide) (by decide) (by decide) (by decide) (by decide) (by decide) (by decide)
    exact ⟨μ', e, q, fun z => (by cases z), g1.tr f.c, by rw [e15, f1 15 (by decide) (by decide) (by decide)], by rw [e16, f1 16 (by decide) (by decide) (by decide)]⟩
  · obtain ⟨w, μ2, pend, toks, hpd, etk, hw, e2, hR2, f2, hb2⟩ := hE.1 hb
    obtain ⟨c38, c124⟩ := (either_ok hT hPk).2 p hp hb
    rw [eE] at c38 c124
    simp only [List.length_nil, Nat.zero_add] at hb2
    obtain ⟨μ3, hR3, f3, c18, e3⟩ := has_end (N := N) (c := c) hN hT hB hc hR2 hpd (by simp) (by simp) (fun x hx => by simp at hx) (by simp only [List.length_append, List.length_map, List.length_nil]; omega) p2 (by simp only [List.length_append, List.length_map, List.length_nil]; omega) c38 c124
    obtain ⟨n, hn⟩ : ∃ n, N = n + 1 + w := ⟨N - 1 - w, by omega⟩
    have e4 : l_X8_takesE_22 N (nI c) N μ1 1 = some (1, μ3) := by
      have a := e2 (n + 1)
      rw [← hn] at a
      rw [a, e3, if_pos (show nI ([] : List Nat).length = 0 from rfl)]
    have e5 : (acc ++ toks.map tokR ++ (em pend).map tokR) = acc ++ (rE T p).2.2.map tokR := by rw [etk, List.map_append, List.append_assoc]
    rw [e5] at hR3
    have e6 : B + (acc ++ toks.map tokR).length + pend.length = B + acc.length + (rE T p).2.2.length := by
      rw [etk]; simp only [List.length_append, List.length_map, em_len]; omega
    rw [e6] at c18
    have e15 := (f2.tr f3).1 15 (by decide) (by decide) (by decide) (by decide) (by decide) (by decide) (by decide) (by decide)
    have e16 := (f2.tr f3).1 16 (by decide) (by decide) (by decide) (by decide) (by decide) (by decide) (by decide) (by decide)
    have e17 := (f2.tr f3).1 17 (by decide) (by decide) (by decide) (by decide) (by decide) (by decide) (by decide) (by decide)
    exact ⟨μ3, e4, hR3.2.1, fun _ => ⟨⟨hR3.1, hR3.2.1, hR3.2.2.2.2.2.1, hR3.2.2.2.2.2.2⟩, by rw [e17]; exact c17, c18⟩, g1.tr (f2.tr f3).c, by rw [e15, f1 15 (by decide) (by decide) (by decide)], by rw [e16, f1 16 (by decide) (by decide) (by decide)]⟩
theorem m_clause (hN : 1000 ≤ N) (hT : TxOk T) (hL : LET μ) (h : RS0 μ T p B acc) (hB : B ≤ 500) (hc : c < 60) (ha : acc.length ≤ p) (hp : p ≤ T.length) : ∃ μ', f_X8_takesClause N μ (nI c) = some (b2i (rClause T p).1, μ') ∧ μ' 11 0 = nI (rClause T p).2.1 ∧ ((rClause T p).1 = true → RS0 μ' T (rClause T p).2.1 B (acc ++ clR (rClause T p).2.2) ∧ CLA μ' c B (acc ++ clR (rClause T p).2.2) (rClause T p).2.2) ∧ frC B c μ μ' := by
  have h100 := hT.1
  have h0 := h
  obtain ⟨μ1, e1, q1, w1, f1, g1⟩ := m_head (N := N) hN hT h.1 hL h.2.1 hp hc
  have F1 : frC B c μ μ1 := ⟨fun k hk => f1 k (by omega) (by omega), fun i _ => by rw [f1 19 (by decide) (by decide)], fun i hi => ⟨g1 i hi, by rw [f1 16 (by decide) (by decide)], by rw [f1 17 (by decide) (by decide)], by rw [f1 18 (by decide) (by decide)]⟩⟩
  unfold f_X8_takesClause
  rw [e1, cl_s]
  dsimp only
  unfold rClause
  by_cases h4 : wx (chr T p) = 4
  · rw [if_pos h4] at q1
    rw [if_pos h4, if_pos h4, i0]
    exact ⟨μ1, rfl, q1, fun z => (by cases z), F1⟩
  have hw : wx (chr T p) < 4 := by have := wx_le (chr T p); omega
  rw [if_neg h4] at q1
  rw [if_neg h4, if_neg h4]
  obtain ⟨hh1, hh2, hh3, n9⟩ := hd_ok hT hp hw
  obtain ⟨l1, l2, l3⟩ := lit_ok hT (wl (wx (chr T p)) ++ [32]) p (mem_app (wl_lt hw) (by omega)) hp
  cases hb0 : (rLit T (wl (wx (chr T p)) ++ [32]) p).1
  · have eh : rHd T p = (false, (rLit T (wl (wx (chr T p)) ++ [32]) p).2, 0) := by unfold rHd; rw [hb0, if_neg (by decide)]
    rw [i0, eh, if_neg (show ¬ false = true from by decide)]
    exact ⟨μ1, rfl, q1, fun z => (by cases z), F1⟩
  have eh : rHd T p = rnum T (rLit T (wl (wx (chr T p)) ++ [32]) p).2 := by unfold rHd; rw [hb0, if_pos rfl]
  rw [i1]
  have R1 : RS0 μ1 T (rLit T (wl (wx (chr T p)) ++ [32]) p).2 B acc := h.go q1 (fun k hk => f1 k (by omega) (by omega))
  obtain ⟨μ2, e2, q2, d2, f2⟩ := m_num (N := N) hN hT R1.1 R1.2.1 (by omega)
  rw [← eh] at e2 q2 d2
  have F2 : frC B c μ1 μ2 := frC.sc (fun k a b _ _ _ => f2 k a b)
  rw [e2, cl_s]
  dsimp only
  cases hb : (rHd T p).1
  · rw [i0, if_neg (show ¬ false = true from by decide)]
    exact ⟨μ2, rfl, q2, fun z => (by cases z), F1.tr F2⟩
  have hh := hh3 hb
  rw [i1, if_pos rfl, ck_n hc (by omega), nm_d, nI_clamp (by omega), d2 hb, ck_n hc (by omega), sA_n _ _ (show 15 ≠ 16 by decide), f2 15 (by decide) (by decide), w1 hw]
  generalize hμ3 : sA μ2 16 (upd (μ2 16) c (nI (rHd T p).2.2)) = μ3
  have F3 : frC B c μ2 μ3 := by rw [← hμ3]; exact frC.cell (by omega)
  have f3 : ∀ k, k ≠ 16 → μ3 k = μ2 k := fun k hk => by rw [← hμ3, sA_n _ _ hk]
  have c16 : μ3 16 c = nI (rHd T p).2.2 := by rw [← hμ3, sA_s, upd_s]
  have c15 : μ3 15 c = nI (wx (chr T p)) := by rw [f3 15 (by decide), f2 15 (by decide) (by decide), w1 hw]
  have R3 : RS0 μ3 T (rHd T p).2.1 B acc := R1.go (by rw [f3 11 (by decide)]; exact q2) (fun k hk => by rw [f3 k (by omega), f2 k (by omega) (by omega)])
  by_cases h2 : 2 ≤ wx (chr T p)
  · rw [if_pos h2, if_pos (show (2 : Int32) ≤ nI (wx (chr T p)) from nI_le (a := 2) h2 (by omega))]
    have ec : clR (wx (chr T p), (rHd T p).2.2, []) = [] := by unfold clR; rw [if_neg (by show ¬ wx (chr T p) ≤ 1; omega)]
    refine ⟨μ3, rfl, R3.2.1, fun _ => ?_, (F1.tr F2).tr F3⟩
    dsimp only
    rw [ec, List.append_nil]
    exact ⟨R3, c15, c16, fun z => by have : wx (chr T p) ≤ 1 := z; omega⟩
  · rw [if_neg h2, if_neg (show ¬ (2 : Int32) ≤ nI (wx (chr T p)) from nI_ge (b := 2) (by omega) (by omega))]
    have e4 : f_X8_takes N μ3 32 = _ := m_takes (N := N) hT R3.1 R3.2.1 (by omega) 32 (by omega)
    rw [e4, cl_s]
    dsimp only
    by_cases h32 : chr T (rHd T p).2.1 = 32
    · have hlt := chr_in hT h32 (by omega)
      rw [if_pos h32, if_pos h32, show decide (chr T (rHd T p).2.1 = 32) = true from decide_eq_true h32, i1]
      have F4 : frC B c μ3 (sI μ3 11 (nI ((rHd T p).2.1 + 1))) := frC.sc (fun k a _ _ _ _ => sI_n _ _ a)
      have R4 : RS0 (sI μ3 11 (nI ((rHd T p).2.1 + 1))) T ((rHd T p).2.1 + 1) B acc := R3.go (by rw [sI_s]) (fun k hk => sI_n _ _ (by omega))
      obtain ⟨μ5, e5, q5, r5, F5, a15, a16⟩ := m_takesE (N := N) (c := c) hN hT R4 hB hc (by omega) (by omega)
      rw [e5, cl_s]
      dsimp only
      cases hE : (rE T ((rHd T p).2.1 + 1)).1
      · rw [i0, if_neg (show ¬ false = true from by decide)]
        exact ⟨μ5, rfl, q5, fun z => (by cases z), (((F1.tr F2).tr F3).tr F4).tr F5⟩
      · obtain ⟨b1, b2, b3⟩ := r5 hE
        rw [i1, if_pos rfl]
        have ec : clR (wx (chr T p), (rHd T p).2.2, (rE T ((rHd T p).2.1 + 1)).2.2) = (rE T ((rHd T p).2.1 + 1)).2.2.map tokR := by unfold clR; rw [if_pos (by show wx (chr T p) ≤ 1; omega)]
        refine ⟨μ5, rfl, q5, fun _ => ?_, (((F1.tr F2).tr F3).tr F4).tr F5⟩
        dsimp only
        rw [ec]
        refine ⟨b1, by show μ5 15 c = _; rw [a15, sI_n _ _ (by decide)]; exact c15, by show μ5 16 c = _; rw [a16, sI_n _ _ (by decide)]; exact c16, fun _ => ⟨acc.length, by simp only [List.length_append, List.length_map]; omega, b2, b3, fun i t ht => ?_⟩⟩
        rw [List.getElem?_append_right (by omega), Nat.add_sub_cancel_left, List.getElem?_map]
        have ht' : (rE T ((rHd T p).2.1 + 1)).2.2[i]? = some t := ht
        rw [ht']; rfl
    · rw [if_neg h32, if_neg h32, show decide (chr T (rHd T p).2.1 = 32) = false from decide_eq_false h32, i0]
      exact ⟨μ3, rfl, R3.2.1, fun z => (by cases z), (F1.tr F2).tr F3⟩
end
