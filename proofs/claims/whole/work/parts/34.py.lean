/-! ===== pure layer Y: the reference's reader, up to a test ===== -/
def TXm (μ : St) (T : List Nat) : Prop := μ 10 0 = nI T.length ∧ ∀ i c : Nat, T[i]? = some c → μ 13 i = nI c
/-- what waits, how much is not shut, the signs laid from B on -/
def RM (μ : St) (T : List Nat) (p : Nat) (W : List Nat) (o B : Nat) (acc : List Int32) : Prop :=
  TXm μ T ∧ μ 11 0 = nI p ∧ μ 22 0 = nI W.length ∧ (∀ i c : Nat, W[i]? = some c → μ 20 i = nI c) ∧ μ 23 0 = nI o ∧ μ 21 0 = nI (B + acc.length) ∧ ∀ (i : Nat) (z : Int32), acc[i]? = some z → μ 19 (B + i) = z
def frE (B c : Nat) (μ μ' : St) : Prop := (∀ k, k ≠ 11 → k ≠ 12 → k ≠ 18 → k ≠ 19 → k ≠ 20 → k ≠ 21 → k ≠ 22 → k ≠ 23 → μ' k = μ k) ∧ (∀ i, i < B → μ' 19 i = μ 19 i) ∧ ∀ i, i ≠ c → μ' 18 i = μ 18 i
theorem frE.rf (B c : Nat) (μ : St) : frE B c μ μ := ⟨fun _ _ _ _ _ _ _ _ _ => rfl, fun _ _ => rfl, fun _ _ => rfl⟩
theorem frE.tr {B c : Nat} {a b d : St} (h1 : frE B c a b) (h2 : frE B c b d) : frE B c a d := ⟨fun k x1 x2 x3 x4 x5 x6 x7 x8 => (h2.1 k x1 x2 x3 x4 x5 x6 x7 x8).trans (h1.1 k x1 x2 x3 x4 x5 x6 x7 x8), fun i hi => (h2.2.1 i hi).trans (h1.2.1 i hi), fun i hi => (h2.2.2 i hi).trans (h1.2.2 i hi)⟩
/-- only scalars of the reader change -/
theorem frE.sc {B c : Nat} {μ μ' : St} (h : ∀ k, k ≠ 11 → k ≠ 12 → k ≠ 20 → k ≠ 22 → k ≠ 23 → μ' k = μ k) : frE B c μ μ' := ⟨fun k a b _ _ x _ y z => h k a b x y z, fun i _ => by rw [h 19 (by decide) (by decide) (by decide) (by decide) (by decide)], fun i _ => by rw [h 18 (by decide) (by decide) (by decide) (by decide) (by decide)]⟩
theorem TXm.fr {μ μ' : St} {T : List Nat} {B c : Nat} (h : TXm μ T) (hf : frE B c μ μ') : TXm μ' T := by
  unfold TXm at h ⊢
  rw [hf.1 10 (by decide) (by decide) (by decide) (by decide) (by decide) (by decide) (by decide) (by decide), hf.1 13 (by decide) (by decide) (by decide) (by decide) (by decide) (by decide) (by decide) (by decide)]; exact h
section
variable {N : Nat} {μ : St} {T : List Nat} {p o B c : Nat} {W : List Nat} {acc : List Int32}
theorem m_next (hT : TxOk T) (hX : TXm μ T) (h11 : μ 11 0 = nI p) (hp : p < 1000) : f_X8_next N μ = some (nxI T p) := by
  obtain ⟨h1, h2⟩ := hX
  have h100 := hT.1
  unfold f_X8_next nxI
  rw [h11, h1]
  rcases chr_lt hT (p := p) with ⟨a, b⟩ | ⟨a, b, c⟩
  · rw [if_pos (nI_le b (by omega)), if_pos a]
  · rw [if_neg (nI_ge b (by omega)), ck_n (by omega) (by omega), nI_clamp (by omega), h2 p _ c, if_neg (by omega)]
theorem m_takes (hT : TxOk T) (hX : TXm μ T) (h11 : μ 11 0 = nI p) (hp : p < 1000) (c : Nat) (hc : c < 128) : f_X8_takes N μ (nI c) = some (b2i (decide (chr T p = c)), if chr T p = c then sI μ 11 (nI (p + 1)) else μ) := by
  unfold f_X8_takes
  rw [m_next hT hX h11 hp, cl_s]
  by_cases h : chr T p = c
  · rw [if_pos ((nx_eq hT hc).mpr h), nm_d, h11, nI_1, if_pos h]; simp [h, b2i]
  · rw [if_neg (fun z => h ((nx_eq hT hc).mp z)), if_neg h]; simp [h, b2i]
theorem RM.at' {q : Nat} (h : RM μ T p W o B acc) : RM (sI μ 11 (nI q)) T q W o B acc ∧ ∀ c, frE B c μ (sI μ 11 (nI q)) := by
  obtain ⟨⟨h1, h2⟩, h3, h4, h5, h6, h7, h8⟩ := h
  refine ⟨⟨⟨by rw [sI_n _ _ (by decide)]; exact h1, fun i c hc => by rw [sI_n _ _ (by decide)]; exact h2 i c hc⟩, by rw [sI_s], by rw [sI_n _ _ (by decide)]; exact h4, fun i c hc => by rw [sI_n _ _ (by decide)]; exact h5 i c hc, by rw [sI_n _ _ (by decide)]; exact h6, by rw [sI_n _ _ (by decide)]; exact h7, fun i z hz => by rw [sI_n _ _ (by decide)]; exact h8 i z hz⟩, fun c => frE.sc (fun k a _ _ _ _ => sI_n _ _ a)⟩
theorem m_digit (hT : TxOk T) (hX : TXm μ T) (h11 : μ 11 0 = nI p) (hp : p < 1000) : f_X8_isDigit N μ = some (b2i (dg T p)) := by
  unfold f_X8_isDigit dg
  rw [m_next hT hX h11 hp, cl_s, f_in, cl_s, cb_t (b2i_01 _)]
  congr 2
  unfold wn nxI
  rcases chr_lt hT (p := p) with ⟨a, b⟩ | ⟨a, b, c⟩
  · rw [if_pos a, a]; decide
  · rw [if_neg (by omega), decide_eq_decide]
    exact ⟨fun ⟨h1, h2⟩ => ⟨(nI_leI (a := 48) (by omega) (by omega)).mp h1, (nI_leI (b := 57) (by omega) (by omega)).mp h2⟩, fun ⟨h1, h2⟩ => ⟨(nI_leI (a := 48) (by omega) (by omega)).mpr h1, (nI_leI (b := 57) (by omega) (by omega)).mpr h2⟩⟩
theorem m_dig1 (hT : TxOk T) (hX : TXm μ T) (h11 : μ 11 0 = nI p) (hp : p < 1000) (v m n : Nat) (hv : v < 2) (h12 : μ 12 0 = nI m) (hm : m < 1000) : (dg T p = true → l_X8_takesNumber_16 N (n + 1) μ (nI v) = l_X8_takesNumber_16 N n (sI (sI μ 12 (nI (10 * m + (chr T p - 48)))) 11 (nI (p + 1))) (nI (v + 1))) ∧ (dg T p = false → l_X8_takesNumber_16 N (n + 1) μ (nI v) = some (1, μ)) := by
  constructor
  · intro hd
    have hd' := of_decide_eq_true hd
    have e : 10 * nI m + nxI T p - 48 = nI (10 * m + (chr T p - 48)) := by
      unfold nxI
      rw [if_neg (by omega), show (10 : Int32) = nI 10 from rfl, show (48 : Int32) = nI 48 from rfl, pk_mul, nI_add, pk_sub (by omega)]
      congr 1; omega
    rw [l_X8_takesNumber_16, if_neg (show ¬ (2 : Int32) ≤ nI v from nI_ge (b := 2) hv (by omega)), m_digit hT hX h11 hp, cl_s, hd, i1, m_next hT hX h11 hp, cl_s, nm_d, nm_d, nm_d, h12, e, sI_n _ _ (show 11 ≠ 12 by decide), h11, nI_1, nI_1]
  · intro hd
    rw [l_X8_takesNumber_16, if_neg (show ¬ (2 : Int32) ≤ nI v from nI_ge (b := 2) hv (by omega)), m_digit hT hX h11 hp, cl_s, hd, i0]
/-- a number: the place and the digits alone change -/
theorem m_num (hN : 1000 ≤ N) (hT : TxOk T) (hX : TXm μ T) (h11 : μ 11 0 = nI p) (hp : p < 900) : ∃ μ', f_X8_takesNumber N μ = some (b2i (rnum T p).1, μ') ∧ μ' 11 0 = nI (rnum T p).2.1 ∧ ((rnum T p).1 = true → μ' 12 0 = nI (rnum T p).2.2) ∧ ∀ k, k ≠ 11 → k ≠ 12 → μ' k = μ k := by
  obtain ⟨n, rfl⟩ : ∃ n, N = n + 3 := ⟨N - 3, by omega⟩
  unfold f_X8_takesNumber rnum
  rw [m_digit hT hX h11 (by omega), cl_s]
  cases hd : dg T p
  · rw [i0, if_neg (by decide)]
    exact ⟨μ, rfl, h11, fun z => (by cases z), fun _ _ _ => rfl⟩
  · have hd' := of_decide_eq_true hd
    have hX0 : TXm (sI μ 12 0) T := by unfold TXm; rw [sI_n _ _ (by decide), sI_n _ _ (by decide)]; exact hX
    have h110 : sI μ 12 0 11 0 = nI p := by rw [sI_n _ _ (by decide)]; exact h11
    have e := (m_dig1 (N := n + 3) hT hX0 h110 (by omega) 0 0 (n + 2) (by omega) (by rw [sI_s]; rfl) (by omega)).1 hd
    have e' : l_X8_takesNumber_16 (n + 3) (n + 3) (sI μ 12 0) 0 = _ := e
    rw [i1, nm_d, e', if_pos rfl]
    generalize hμ1 : sI (sI (sI μ 12 0) 12 (nI (10 * 0 + (chr T p - 48)))) 11 (nI (p + 1)) = μ1
    have f1 : ∀ k, k ≠ 11 → k ≠ 12 → μ1 k = μ k := fun k a b => by rw [← hμ1, sI_n _ _ a, sI_n _ _ b, sI_n _ _ b]
    have hX1 : TXm μ1 T := by unfold TXm; rw [f1 10 (by decide) (by decide), f1 13 (by decide) (by decide)]; exact hX
    have h111 : μ1 11 0 = nI (p + 1) := by rw [← hμ1, sI_s]
    have h121 : μ1 12 0 = nI (chr T p - 48) := by rw [← hμ1, sI_n _ _ (by decide), sI_s]; congr 1; omega
    have s1 := m_dig1 (N := n + 3) hT hX1 h111 (by omega) 1 _ (n + 1) (by omega) h121 (by omega)
    cases hd2 : dg T (p + 1)
    · rw [if_neg (by decide), s1.2 hd2]
      exact ⟨μ1, rfl, h111, fun _ => h121, f1⟩
    · rw [if_pos rfl, s1.1 hd2, l_X8_takesNumber_16, if_pos (show (2 : Int32) ≤ nI (1 + 1) from by decide)]
      exact ⟨_, rfl, by rw [sI_s], fun _ => by rw [sI_n _ _ (by decide), sI_s], fun k a b => by rw [sI_n _ _ a, sI_n _ _ b]; exact f1 k a b⟩
theorem place_t : ∀ c : Nat, c < 128 → f_X8_place 0 (nI c) = some (if lix c = 6 then -1 else nI (lix c)) := by
  have h : (List.range 128).all (fun c => decide (f_X8_place 0 (nI c) = some (if lix c = 6 then -1 else nI (lix c)))) = true := by decide +kernel
  intro c hc
  exact of_decide_eq_true (List.all_eq_true.mp h c (List.mem_range.mpr hc))
theorem m_place (hT : TxOk T) : f_X8_place N (nxI T p) = some (if lix (chr T p) = 6 then -1 else nI (lix (chr T p))) := by
  unfold nxI
  rcases chr_lt hT (p := p) with ⟨a, b⟩ | ⟨a, b, c⟩
  · rw [if_pos a, a]; rfl
  · rw [if_neg (by omega)]; exact place_t _ a
theorem m_emits (z : Int32) (h : RM μ T p W o B acc) (hB : B ≤ 500) (hl : acc.length < 100) : ∃ μ', f_X8_emits N μ z = some μ' ∧ RM μ' T p W o B (acc ++ [z]) ∧ (∀ c, frE B c μ μ') ∧ ∀ k, k ≠ 19 → k ≠ 21 → μ' k = μ k := by
  obtain ⟨⟨h1, h2⟩, h3, h4, h5, h6, h7, h8⟩ := h
  unfold f_X8_emits
  rw [h7, ck_n (by omega) (by omega), nm_d, nm_d, nI_clamp (by omega), sA_n _ _ (show 21 ≠ 19 by decide), h7, nI_1]
  have hf : ∀ k, k ≠ 19 → k ≠ 21 → sI (sA μ 19 (upd (μ 19) (B + acc.length) z)) 21 (nI (B + acc.length + 1)) k = μ k := fun k a b => by rw [sI_n _ _ b, sA_n _ _ a]
  have h19 : ∀ i, i ≠ B + acc.length → sI (sA μ 19 (upd (μ 19) (B + acc.length) z)) 21 (nI (B + acc.length + 1)) 19 i = μ 19 i := fun i hi => by rw [sI_n _ _ (by decide), sA_s, upd_n hi]
  refine ⟨_, rfl, ⟨⟨by rw [hf 10 (by decide) (by decide)]; exact h1, fun i c hc => by rw [hf 13 (by decide) (by decide)]; exact h2 i c hc⟩, by rw [hf 11 (by decide) (by decide)]; exact h3, by rw [hf 22 (by decide) (by decide)]; exact h4, fun i c hc => by rw [hf 20 (by decide) (by decide)]; exact h5 i c hc, by rw [hf 23 (by decide) (by decide)]; exact h6, by rw [sI_s, List.length_append, List.length_cons, List.length_nil]; rfl, fun i y hy => ?_⟩, fun c => ⟨fun k a b x y z w u v => hf k y w, fun i hi => h19 i (by omega), fun i _ => by rw [hf 18 (by decide) (by decide)]⟩, hf⟩
  rcases ga hy with ⟨hi, w⟩ | ⟨hi, w⟩
  · rw [h19 _ (by omega)]; exact h8 i y w
  · rw [hi, w, sI_n _ _ (by decide), sA_s, upd_s]
theorem last_get {l : List Nat} {a : Nat} : (l ++ [a])[l.length]? = some a := by simp
theorem RM.pop {x : Nat} (h : RM μ T p (W ++ [x]) o B acc) : RM (sI μ 22 (nI W.length)) T p W o B acc ∧ (∀ c, frE B c μ (sI μ 22 (nI W.length))) ∧ μ 22 0 = nI (W.length + 1) ∧ μ 20 W.length = nI x := by
  obtain ⟨⟨h1, h2⟩, h3, h4, h5, h6, h7, h8⟩ := h
  refine ⟨⟨⟨by rw [sI_n _ _ (by decide)]; exact h1, fun i c hc => by rw [sI_n _ _ (by decide)]; exact h2 i c hc⟩, by rw [sI_n _ _ (by decide)]; exact h3, by rw [sI_s], fun i c hc => ?_, by rw [sI_n _ _ (by decide)]; exact h6, by rw [sI_n _ _ (by decide)]; exact h7, fun i z hz => by rw [sI_n _ _ (by decide)]; exact h8 i z hz⟩, fun c => frE.sc (fun k _ _ _ b _ => sI_n _ _ b), ?_, h5 _ _ last_get⟩
  · rw [sI_n _ _ (by decide)]; exact h5 i c (by rw [List.getElem?_append_left (glt hc)]; exact hc)
  · rw [h4]; simp
theorem RM.opn {q : Nat} (h : RM μ T p W o B acc) : RM (sI μ 23 (nI q)) T p W q B acc ∧ ∀ c, frE B c μ (sI μ 23 (nI q)) := by
  obtain ⟨⟨h1, h2⟩, h3, h4, h5, h6, h7, h8⟩ := h
  refine ⟨⟨⟨by rw [sI_n _ _ (by decide)]; exact h1, fun i c hc => by rw [sI_n _ _ (by decide)]; exact h2 i c hc⟩, by rw [sI_n _ _ (by decide)]; exact h3, by rw [sI_n _ _ (by decide)]; exact h4, fun i c hc => by rw [sI_n _ _ (by decide)]; exact h5 i c hc, by rw [sI_s], by rw [sI_n _ _ (by decide)]; exact h7, fun i z hz => by rw [sI_n _ _ (by decide)]; exact h8 i z hz⟩, fun c => frE.sc (fun k _ _ _ _ b => sI_n _ _ b)⟩
theorem RM.push {x : Nat} (h : RM μ T p W o B acc) : RM (sI (sA μ 20 (upd (μ 20) W.length (nI x))) 22 (nI (W.length + 1))) T p (W ++ [x]) o B acc ∧ ∀ c, frE B c μ (sI (sA μ 20 (upd (μ 20) W.length (nI x))) 22 (nI (W.length + 1))) := by
  obtain ⟨⟨h1, h2⟩, h3, h4, h5, h6, h7, h8⟩ := h
  have hf : ∀ k, k ≠ 20 → k ≠ 22 → sI (sA μ 20 (upd (μ 20) W.length (nI x))) 22 (nI (W.length + 1)) k = μ k := fun k a b => by rw [sI_n _ _ b, sA_n _ _ a]
  refine ⟨⟨⟨by rw [hf 10 (by decide) (by decide)]; exact h1, fun i c hc => by rw [hf 13 (by decide) (by decide)]; exact h2 i c hc⟩, by rw [hf 11 (by decide) (by decide)]; exact h3, by rw [sI_s]; simp, fun i c hc => ?_, by rw [hf 23 (by decide) (by decide)]; exact h6, by rw [hf 21 (by decide) (by decide)]; exact h7, fun i z hz => by rw [hf 19 (by decide) (by decide)]; exact h8 i z hz⟩, fun c => frE.sc (fun k _ _ a b _ => hf k a b)⟩
  rw [sI_n _ _ (by decide), sA_s]
  rcases ga hc with ⟨hi, w⟩ | ⟨hi, w⟩
  · rw [upd_n (by omega)]; exact h5 i c w
  · rw [hi, w, upd_s]
/-- what is on top does not stop whole() -/
theorem m_whole (hB : B ≤ 500) : ∀ (k n o : Nat) (μ : St) (acc : List Int32), k < n → RM μ T p (W ++ List.replicate k 33) (o + k) B acc → W.getLast? ≠ some 33 → acc.length + (W.length + k) ≤ 100 → (∀ x ∈ W, x < 128) → ∃ μ', l_X8_whole_0 N n μ = some μ' ∧ RM μ' T p W o B (acc ++ List.replicate k (-33)) ∧ ∀ c, frE B c μ μ' := by
  intro k
  induction k with
  | zero =>
    intro n o μ acc hn h hl hb hW
    obtain ⟨n, rfl⟩ : ∃ m, n = m + 1 := ⟨n - 1, by omega⟩
    rw [List.replicate_zero, List.append_nil] at h ⊢
    rw [l_X8_whole_0, h.2.2.1]
    by_cases h0 : W = []
    · subst h0
      rw [if_pos (show nI ([] : List Nat).length ≤ 0 from by decide)]; exact ⟨μ, rfl, h, fun c => frE.rf B c μ⟩
    · obtain ⟨W0, x, e, -⟩ := drop_last h0
      subst e
      have hx : x ≠ 33 := fun z => hl (by rw [z]; simp)
      have hx2 := hW x (by simp)
      have hg := h.2.2.2.1 W0.length x last_get
      simp only [List.length_append, List.length_cons, List.length_nil] at hb ⊢
      rw [if_neg (nI_nle (by omega) (by omega)), nI_pred, ck_n (by omega) (by omega), nI_clamp (by omega), hg, if_neg (show ¬ nI x = 33 from fun z => hx ((nI_eq (b := 33) (by omega) (by omega)).mp z))]
      exact ⟨μ, rfl, h, fun c => frE.rf B c μ⟩
  | succ k ih =>
    intro n o μ acc hn h hl hb hW
    obtain ⟨n, rfl⟩ : ∃ m, n = m + 1 := ⟨n - 1, by omega⟩
    rw [List.replicate_succ', ← List.append_assoc] at h
    have hlen : (W ++ List.replicate k 33).length = W.length + k := by simp
    obtain ⟨μ1, e1, h1, f1, g1⟩ := m_emits (N := N) (-33) h hB (by omega)
    obtain ⟨h2, f2, h22, h20⟩ := h1.pop
    obtain ⟨h3, f3⟩ := h2.opn (q := o + k)
    have q22 : μ 22 0 = nI (W.length + k + 1) := by rw [← hlen, ← h22, g1 22 (by decide) (by decide)]
    have q20 : μ 20 (W.length + k) = nI 33 := by rw [← hlen, ← h20, g1 20 (by decide) (by decide)]
    have q23 : sI μ1 22 (nI (W ++ List.replicate k 33).length) 23 0 = nI (o + k + 1) := by
      rw [sI_n _ _ (by decide), g1 23 (by decide) (by decide), h.2.2.2.2.1]; congr 1
    rw [l_X8_whole_0, q22, if_neg (nI_nle (by omega) (by omega)), nI_pred, ck_n (by omega) (by omega), nI_clamp (by omega), q20, if_pos (show nI 33 = 33 from rfl), e1, cl_s, nm_d, nm_d, h22, nI_pred, q23, nI_pred]
    obtain ⟨μ', e, h4, f4⟩ := ih n o _ (acc ++ [-33]) (by omega) h3 hl (by simp only [List.length_append, List.length_cons, List.length_nil]; omega) hW
    refine ⟨μ', e, ?_, fun c => (((f1 c).tr (f2 c)).tr (f3 c)).tr (f4 c)⟩
    rw [List.append_assoc] at h4
    rw [List.replicate_succ]
    exact h4
/-- a test, and what was minded ahead of it -/
theorem m_test {k : Nat} (hN : 1000 ≤ N) (hT : TxOk T) (h : RM μ T p (W ++ List.replicate k 33) (o + k) B acc) (hB : B ≤ 500) (hl : W.getLast? ≠ some 33) (hb : acc.length + (W.length + k) ≤ p) (hp : p ≤ T.length) (hW : ∀ x ∈ W, x < 128) : ∃ μ', f_X8_takesTest N μ = some (b2i (rtest T p).1, μ') ∧ μ' 11 0 = nI (rtest T p).2.1 ∧ ((rtest T p).1 = true → RM μ' T (rtest T p).2.1 W o B (acc ++ (rtest T p).2.2.map tokR ++ List.replicate k (-33))) ∧ ∀ c, frE B c μ μ' := by
  have h100 := hT.1
  unfold f_X8_takesTest rtest
  rw [m_next hT h.1 h.2.1 (by omega), cl_s, m_place hT, cl_s]
  by_cases h6 : lix (chr T p) = 6
  · rw [if_pos h6, if_pos h6, if_neg (by decide)]
    exact ⟨μ, rfl, h.2.1, fun z => (by cases z), fun c => frE.rf B c μ⟩
  have hlx := lix_le (chr T p)
  rw [if_neg h6, if_neg h6, if_pos (nI_pos' (by omega)), nm_d, h.2.1, nI_1]
  obtain ⟨h1, f1⟩ := h.at' (q := p + 1)
  rw [m_next hT h1.1 h1.2.1 (by omega), cl_s, f_in, cl_s]
  have hwn : wn (nxI T (p + 1)) 60 62 = decide (¬ rix (chr T (p + 1)) = 3) := by
    unfold wn nxI rix
    rcases chr_lt hT (p := p + 1) with ⟨a, b⟩ | ⟨a, b, c⟩
    · rw [if_pos a, a]; decide
    · rw [if_neg (by omega), decide_eq_decide]
      have q1 : (60 : Int32) ≤ nI (chr T (p + 1)) ↔ 60 ≤ chr T (p + 1) := nI_leI (a := 60) (by omega) (by omega)
      have q2 : nI (chr T (p + 1)) ≤ (62 : Int32) ↔ chr T (p + 1) ≤ 62 := nI_leI (b := 62) (by omega) (by omega)
      rw [q1, q2]
      by_cases z1 : chr T (p + 1) = 60
      · rw [z1]; decide
      by_cases z2 : chr T (p + 1) = 61
      · rw [z2]; decide
      by_cases z3 : chr T (p + 1) = 62
      · rw [z3]; decide
      rw [if_neg z1, if_neg z2, if_neg z3]
      exact ⟨fun z => by omega, fun z => absurd rfl z⟩
  rw [hwn]
  by_cases h3 : rix (chr T (p + 1)) = 3
  · have e : decide (¬ rix (chr T (p + 1)) = 3) = false := by simp [h3]
    rw [if_pos h3, e, i0]
    exact ⟨_, rfl, h1.2.1, fun z => (by cases z), f1⟩
  have hrx := rix_le (chr T (p + 1))
  have e : decide (¬ rix (chr T (p + 1)) = 3) = true := by simp [h3]
  have hnx : nxI T (p + 1) - 60 = nI (rix (chr T (p + 1))) := by
    unfold nxI rix
    by_cases z1 : chr T (p + 1) = 60
    · rw [z1]; rfl
    by_cases z2 : chr T (p + 1) = 61
    · rw [z2]; rfl
    by_cases z3 : chr T (p + 1) = 62
    · rw [z3]; rfl
    exfalso; apply h3; unfold rix; rw [if_neg z1, if_neg z2, if_neg z3]
  obtain ⟨h2, f2⟩ := h1.at' (q := p + 1 + 1)
  rw [if_neg h3, e, i1, nm_d, h1.2.1, nI_1]
  obtain ⟨μ3, e3, p3, d3, g3⟩ := m_num (N := N) hN hT h2.1 h2.2.1 (by omega)
  have hr := rnum_le hT (p + 2)
  have f3 : ∀ c, frE B c (sI (sI μ 11 (nI (p + 1))) 11 (nI (p + 1 + 1))) μ3 := fun c => frE.sc (fun k a b _ _ _ => g3 k a b)
  rw [e3, cl_s]
  dsimp only
  cases hb3 : (rnum T (p + 2)).1
  · have hb3' : (rnum T (p + 1 + 1)).1 = false := hb3
    rw [i0, if_neg (by decide)]
    exact ⟨μ3, rfl, p3, fun z => (by cases z), fun c => ((f1 c).tr (f2 c)).tr (f3 c)⟩
  · have hb3' : (rnum T (p + 1 + 1)).1 = true := hb3
    have hpl := hr.2.2.1 hb3
    have hlen : (W ++ List.replicate k 33).length = W.length + k := by simp
    have h3R : RM μ3 T (rnum T (p + 2)).2.1 (W ++ List.replicate k 33) (o + k) B acc := by
      obtain ⟨⟨a1, a2⟩, a3, a4, a5, a6, a7, a8⟩ := h2
      exact ⟨⟨by rw [g3 10 (by decide) (by decide)]; exact a1, fun i c hc => by rw [g3 13 (by decide) (by decide)]; exact a2 i c hc⟩, p3, by rw [g3 22 (by decide) (by decide)]; exact a4, fun i c hc => by rw [g3 20 (by decide) (by decide)]; exact a5 i c hc, by rw [g3 23 (by decide) (by decide)]; exact a6, by rw [g3 21 (by decide) (by decide)]; exact a7, fun i z hz => by rw [g3 19 (by decide) (by decide)]; exact a8 i z hz⟩
    have et : 1000 * nI (lix (chr T p)) + 100 * nI (rix (chr T (p + 1))) + nI (rnum T (p + 2)).2.2 = tokR (3 + (1000 * lix (chr T p) + 100 * rix (chr T (p + 1)) + (rnum T (p + 2)).2.2)) := by
      rw [show (1000 : Int32) = nI 1000 from rfl, show (100 : Int32) = nI 100 from rfl, pk_mul, pk_mul, nI_add, nI_add, Nat.add_comm 3]
      rfl
    obtain ⟨μ4, e4, h4, f4, -⟩ := m_emits (N := N) (tokR (3 + (1000 * lix (chr T p) + 100 * rix (chr T (p + 1)) + (rnum T (p + 2)).2.2))) h3R hB (by omega)
    obtain ⟨μ5, e5, h5, f5⟩ := m_whole (N := N) hB k N o μ4 _ (by omega) h4 hl (by simp only [List.length_append, List.length_cons, List.length_nil]; omega) hW
    have d3' : μ3 12 0 = nI (rnum T (p + 2)).2.2 := d3 hb3'
    rw [i1, if_pos rfl, hnx, d3', et, e4, cl_s]
    unfold f_X8_whole
    rw [e5, cl_s]
    exact ⟨μ5, rfl, h5.2.1, fun _ => h5, fun c => ((((f1 c).tr (f2 c)).tr (f3 c)).tr (f4 c)).tr (f5 c)⟩
end
