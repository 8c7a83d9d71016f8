/-! ===== pure layer QA: an E, as the reference reads it (2) ===== -/
section
variable {N : Nat} {T : List Nat} {B c : Nat}
theorem RM.oe {p o o' : Nat} {μ : St} {W : List Nat} {acc : List Int32} (h : RM μ T p W o B acc) (e : o = o') : RM μ T p W o' B acc := e ▸ h
theorem em_len (pend : List Nat) : (em pend).length = pend.length := by unfold em; simp
theorem m_both {d : Nat} {rp : Nat → Rd} (hN : 1000 ≤ N) (hT : TxOk T) (hB : B ≤ 500) (hP : Pok T rp) (hM : PM N T B c d rp) : BM N T B c d (rBoth rp T) := by
  intro p W acc μ h h33 h38 hW hb hp
  have hRk : RM μ T p (W ++ List.replicate 0 33) d B acc := by rw [List.replicate_zero, List.append_nil]; exact h
  have hm := hM p 0 W acc μ hRk (Nat.zero_le _) h33 hW (by omega) hp
  obtain ⟨a, b, cc⟩ := hP p hp
  unfold rBoth
  cases hb1 : (rp p).1
  · rw [if_neg (by decide)]
    exact ⟨fun z => (by cases z), fun _ n hn => hm.2 hb1 n hn⟩
  · rw [if_pos rfl]
    obtain ⟨w, μ3, hw, e3, hR3, f3⟩ := hm.1 hb1
    obtain ⟨c1, c2⟩ := cc hb1
    have hR3' : RM μ3 T (rp p).2.1 (W ++ []) d B (acc ++ (rp p).2.2.map tokR) := by
      rw [List.replicate_zero, List.append_nil, Nat.sub_zero] at hR3
      rw [List.append_nil]; exact hR3
    have i2 := m_bothL (N := N) hN hT hB hP hM W h33 h38 hW acc 100 (rp p).2.1 [] (rp p).2.2 μ3 (Or.inl rfl) hR3' (by simp only [List.length_nil]; omega) b
    have e0 : (rp p).2.2 ++ em [] = (rp p).2.2 := by unfold em; simp
    rw [e0] at i2
    refine ⟨fun z => ?_, fun z n hn => ?_⟩
    · obtain ⟨w', μ', pend', toks', q1, q2, q3, q4, q5, q6⟩ := i2.1 z
      exact ⟨w' + w, μ', pend', toks', q1, q2, by omega, fun n => by rw [show n + (w' + w) = (n + w') + w by omega, e3, q4], q5, f3.tr q6⟩
    · obtain ⟨m, rfl⟩ : ∃ m, n = m + w := ⟨n - w, by omega⟩
      obtain ⟨μ', q1, q2, q3⟩ := i2.2 z m (by omega)
      exact ⟨μ', by rw [e3, q1], q2, f3.tr q3⟩
theorem m_eitherL {d : Nat} {rp : Nat → Rd} (hN : 1000 ≤ N) (hT : TxOk T) (hB : B ≤ 500) (hP : Pok T rp) (hM : PM N T B c d rp) (W : List Nat) (hW38 : W.getLast? ≠ some 38) (hW124 : W.getLast? ≠ some 124) (hW : ∀ x ∈ W, x < 128) (acc : List Int32) :
    ∀ (k p : Nat) (pend toks : List Nat) (μ : St), (∀ x ∈ pend, x = 38 ∨ x = 124) → RM μ T p (W ++ pend) d B (acc ++ toks.map tokR) → acc.length + toks.length + (W.length + pend.length) ≤ p → p ≤ T.length →
      ((rEitherL rp T k p (toks ++ em pend)).1 = true → ∃ (w : Nat) (μ' : St) (pend' toks' : List Nat), (∀ x ∈ pend', x = 38 ∨ x = 124) ∧ (rEitherL rp T k p (toks ++ em pend)).2.2 = toks' ++ em pend' ∧ p + w ≤ (rEitherL rp T k p (toks ++ em pend)).2.1 ∧ (∀ n, l_X8_takesE_22 N (nI c) (n + w) μ 0 = l_X8_takesE_22 N (nI c) n μ' 0) ∧ RM μ' T (rEitherL rp T k p (toks ++ em pend)).2.1 (W ++ pend') d B (acc ++ toks'.map tokR) ∧ frE B c μ μ' ∧ acc.length + toks'.length + (W.length + pend'.length) ≤ (rEitherL rp T k p (toks ++ em pend)).2.1) ∧
      ((rEitherL rp T k p (toks ++ em pend)).1 = false → ∀ n, T.length - p < n → ∃ μ', l_X8_takesE_22 N (nI c) n μ 0 = some (0, μ') ∧ μ' 11 0 = nI (rEitherL rp T k p (toks ++ em pend)).2.1 ∧ frE B c μ μ') := by
  have h100 := hT.1
  have hBok := (both_ok hT hP).1
  have hBM := m_both hN hT hB hP hM
  intro k
  induction k with
  | zero =>
    intro p pend toks μ hpd h hb hp
    exact ⟨fun _ => ⟨0, μ, pend, toks, hpd, rfl, Nat.le_refl _, fun n => rfl, h, frE.rf B c μ, hb⟩, fun z => (by cases z)⟩
  | succ k ih =>
    intro p pend toks μ hpd h hb hp
    rw [rEitherL]
    by_cases h1 : chr T p = 124
    · have hlt := chr_in hT h1 (by omega)
      rw [if_pos h1]
      have hel := em_len pend
      obtain ⟨μ1, e1, hR1, f1⟩ := settle_all (N := N) (v1 := nI 124) (show ¬ nI 124 = 38 from by decide) hB hW hW38 hW124 pend.length N p d μ pend _ rfl (by omega) h hpd (by simp only [List.length_append, List.length_map]; omega)
      have e1' : f_X8_settle N μ (nI 124) = some μ1 := e1
      rw [List.append_assoc, ← List.map_append] at hR1
      obtain ⟨μ2, e2, hR2, f2⟩ := has_sign (N := N) (c := c) hT h.1 h.2.1 (Or.inr rfl) h1 e1' hR1 (by omega)
      obtain ⟨a, b, cc⟩ := hBok (p + 1) (by omega)
      have hm := hBM (p + 1) (W ++ [124]) _ μ2 hR2 (by rw [last_app]; simp) (by rw [last_app]; simp) (mem_app hW (by omega)) (by simp only [List.length_append, List.length_map, List.length_cons, List.length_nil]; omega) (by omega)
      cases hb1 : (rBoth rp T (p + 1)).1
      · rw [if_neg (by decide)]
        refine ⟨fun z => (by cases z), fun _ n hn => ?_⟩
        obtain ⟨n, rfl⟩ : ∃ m, n = m + 1 := ⟨n - 1, by omega⟩
        obtain ⟨μ3, e3, p3, f3⟩ := hm.2 hb1 n (by omega)
        exact ⟨μ3, by rw [e2, e3], p3, ((f1 c).tr (f2 c)).tr f3⟩
      · rw [if_pos rfl]
        obtain ⟨w, μ3, pb, tb, hpb, etb, hw, e3, hR3, f3⟩ := hm.1 hb1
        obtain ⟨c1, c2⟩ := cc hb1
        have hR3' : RM μ3 T (rBoth rp T (p + 1)).2.1 (W ++ ([124] ++ pb)) d B (acc ++ (toks ++ em pend ++ tb).map tokR) := by
          rw [List.append_assoc, List.append_assoc, ← List.map_append] at hR3
          exact hR3
        have hpbl : tb.length + pb.length = (rBoth rp T (p + 1)).2.2.length := by rw [etb, List.length_append, em_len]
        have i2 := ih (rBoth rp T (p + 1)).2.1 ([124] ++ pb) (toks ++ em pend ++ tb) μ3 (fun x hx => by
          rcases List.mem_append.mp hx with z | z
          · rw [List.mem_singleton] at z; exact Or.inr z
          · rcases hpb with y | y
            · rw [y] at z; simp at z
            · rw [y, List.mem_singleton] at z; exact Or.inl z) hR3' (by simp only [List.length_append, List.length_cons, List.length_nil]; omega) b
        have e124 : toks ++ em pend ++ tb ++ em ([124] ++ pb) = toks ++ em pend ++ (rBoth rp T (p + 1)).2.2 ++ [2] := by
          have : em ([124] ++ pb) = em pb ++ [2] := by unfold em; simp [tk]
          rw [this, etb, List.append_assoc, List.append_assoc, List.append_assoc, List.append_assoc, List.append_assoc]
        rw [e124] at i2
        refine ⟨fun z => ?_, fun z n hn => ?_⟩
        · obtain ⟨w', μ', pend', toks', q1, q2, q3, q4, q5, q6, q7⟩ := i2.1 z
          exact ⟨w' + w + 1, μ', pend', toks', q1, q2, by omega, fun n => by rw [show n + (w' + w + 1) = ((n + w') + w) + 1 by omega, e2, e3, q4], q5, (((f1 c).tr (f2 c)).tr f3).tr q6, q7⟩
        · obtain ⟨m, rfl⟩ : ∃ m, n = (m + w) + 1 := ⟨n - 1 - w, by omega⟩
          obtain ⟨μ', q1, q2, q3⟩ := i2.2 z m (by omega)
          exact ⟨μ', by rw [e2, e3, q1], q2, (((f1 c).tr (f2 c)).tr f3).tr q3⟩
    · rw [if_neg h1]
      exact ⟨fun _ => ⟨0, μ, pend, toks, hpd, rfl, Nat.le_refl _, fun n => rfl, h, frE.rf B c μ, hb⟩, fun z => (by cases z)⟩
theorem m_either {d : Nat} {rp : Nat → Rd} (hN : 1000 ≤ N) (hT : TxOk T) (hB : B ≤ 500) (hP : Pok T rp) (hM : PM N T B c d rp) : EM N T B c d (rEither rp T) := by
  intro p W acc μ h h33 h38 h124 hW hb hp
  have hm := m_both hN hT hB hP hM p W acc μ h h33 h38 hW hb hp
  obtain ⟨a, b, cc⟩ := (both_ok hT hP).1 p hp
  unfold rEither
  cases hb1 : (rBoth rp T p).1
  · rw [if_neg (by decide)]
    exact ⟨fun z => (by cases z), fun _ n hn => hm.2 hb1 n hn⟩
  · rw [if_pos rfl]
    obtain ⟨w, μ3, pb, tb, hpb, etb, hw, e3, hR3, f3⟩ := hm.1 hb1
    obtain ⟨c1, c2⟩ := cc hb1
    have hpbl : tb.length + pb.length = (rBoth rp T p).2.2.length := by rw [etb, List.length_append, em_len]
    have i2 := m_eitherL (N := N) hN hT hB hP hM W h38 h124 hW acc 100 (rBoth rp T p).2.1 pb tb μ3 (fun x hx => by
      rcases hpb with y | y
      · rw [y] at hx; simp at hx
      · rw [y, List.mem_singleton] at hx; exact Or.inl hx) hR3 (by omega) b
    rw [← etb] at i2
    refine ⟨fun z => ?_, fun z n hn => ?_⟩
    · obtain ⟨w', μ', pend', toks', q1, q2, q3, q4, q5, q6, q7⟩ := i2.1 z
      exact ⟨w' + w, μ', pend', toks', q1, q2, by omega, fun n => by rw [show n + (w' + w) = (n + w') + w by omega, e3, q4], q5, f3.tr q6, q7⟩
    · obtain ⟨m, rfl⟩ : ∃ m, n = m + w := ⟨n - w, by omega⟩
      obtain ⟨μ', q1, q2, q3⟩ := i2.2 z m (by omega)
      exact ⟨μ', by rw [e3, q1], q2, f3.tr q3⟩
/-- behind an E: neither & nor |: all that waits of it is laid -/
theorem has_end {p o : Nat} {μ : St} {W pend : List Nat} {acc : List Int32} (hN : 1000 ≤ N) (hT : TxOk T) (hB : B ≤ 500) (hc60 : c < 60) (h : RM μ T p (W ++ pend) o B acc) (hpd : ∀ x ∈ pend, x = 38 ∨ x = 124) (h38 : W.getLast? ≠ some 38) (h124 : W.getLast? ≠ some 124) (hW : ∀ x ∈ W, x < 128) (hb : acc.length + (W.length + pend.length) ≤ p) (hp : p ≤ T.length) (hl : acc.length + (W.length + pend.length) ≤ 100) (c38 : chr T p ≠ 38) (c124 : chr T p ≠ 124) :
    ∃ μ1, RM μ1 T p W o B (acc ++ (em pend).map tokR) ∧ frE B c μ μ1 ∧ μ1 18 c = nI (B + acc.length + pend.length) ∧ ∀ n, l_X8_takesE_22 N (nI c) (n + 1) μ 0 = (if nI W.length = 0 then some (1, μ1) else if chr T p = 41 then cl (f_X8_whole N (sI (sI (sI μ1 22 (nI W.length - 1)) 23 (nI o - 1)) 11 (nI (p + 1)))) (fun q226 => l_X8_takesE_22 N (nI c) n q226 0) else some (0, μ1)) := by
  have h100 := hT.1
  obtain ⟨μ0, e0, hR0, f0⟩ := settle_all (N := N) (v1 := 124) (show ¬ (124 : Int32) = 38 from by decide) hB hW h38 h124 pend.length N p o μ pend _ rfl (by omega) h hpd hl
  have e0' : f_X8_settle N μ 124 = some μ0 := e0
  have hlen : (acc ++ (em pend).map tokR).length = acc.length + pend.length := by rw [List.length_append, List.length_map, em_len]
  obtain ⟨⟨a1, a2⟩, a3, a4, a5, a6, a7, a8⟩ := hR0
  have hf : ∀ k, k ≠ 18 → sA μ0 18 (upd (μ0 18) c (nI (B + (acc ++ (em pend).map tokR).length))) k = μ0 k := fun k hk => sA_n _ _ hk
  refine ⟨sA μ0 18 (upd (μ0 18) c (nI (B + (acc ++ (em pend).map tokR).length))), ⟨⟨by rw [hf 10 (by decide)]; exact a1, fun i x hx => by rw [hf 13 (by decide)]; exact a2 i x hx⟩, by rw [hf 11 (by decide)]; exact a3, by rw [hf 22 (by decide)]; exact a4, fun i x hx => by rw [hf 20 (by decide)]; exact a5 i x hx, by rw [hf 23 (by decide)]; exact a6, by rw [hf 21 (by decide)]; exact a7, fun i z hz => by rw [hf 19 (by decide)]; exact a8 i z hz⟩, (f0 c).tr ⟨fun k _ _ x _ _ _ _ _ => hf k x, fun i _ => by rw [hf 19 (by decide)], fun i hi => by rw [sA_s, upd_n hi]⟩, by rw [sA_s, upd_s, hlen, Nat.add_assoc], fun n => ?_⟩
  rw [l_X8_takesE_22, m_next hT h.1 h.2.1 (by omega), cl_s, if_pos rfl, if_neg (show ¬ nxI T p = 38 from fun z => c38 ((nx_eq hT (c := 38) (by omega)).mp z)), if_neg (show ¬ nxI T p = 124 from fun z => c124 ((nx_eq hT (c := 124) (by omega)).mp z)), e0', cl_s, ck_n hc60 (by omega), nm_d, nI_clamp (by omega), a7]
  simp only [hf 22 (by decide), a4]
  by_cases hw0 : nI W.length = 0
  · rw [if_pos hw0, if_pos hw0]
  · rw [if_neg hw0, if_neg hw0]
    by_cases h41 : chr T p = 41
    · rw [if_pos (show nxI T p = 41 from (nx_eq hT (c := 41) (by omega)).mpr h41), if_pos h41, nm_d, nm_d, nm_d]
      simp (disch := omega) only [sI_n, hf 23 (by decide), hf 11 (by decide), a6, a3, nI_1]
    · rw [if_neg (show ¬ nxI T p = 41 from fun z => h41 ((nx_eq hT (c := 41) (by omega)).mp z)), if_neg h41]
theorem m_part (hN : 1000 ≤ N) (hT : TxOk T) (hB : B ≤ 500) (hc60 : c < 60) : ∀ (D d : Nat), 5 ≤ D + d → d ≤ 4 → PM N T B c d (rPart T D d) := by
  have h100 := hT.1
  intro D
  induction D with
  | zero => intro d h1 h2; omega
  | succ D ih =>
    intro d hD hd4 p k W acc μ h hk h33 hW hb hp
    have hWk : ∀ x ∈ W ++ List.replicate k 33, x < 128 := fun x hx => by
      rcases List.mem_append.mp hx with z | z
      · exact hW x z
      · rw [List.eq_of_mem_replicate z]; omega
    have hlk : (W ++ List.replicate k 33).length = W.length + k := by simp
    rw [rPart]
    by_cases h1 : chr T p = 33
    · have hlt := chr_in hT h1 (by omega)
      rw [if_pos h1]
      by_cases hd : d < 4
      · rw [if_pos hd]
        obtain ⟨μ1, e1, hR1, f1⟩ := wants_push (N := N) (c := c) hT h (Or.inl rfl) h1 hd (by omega)
        rw [List.append_assoc, ← List.replicate_succ'] at hR1
        have hm := ih (d + 1) (by omega) (by omega) (p + 1) (k + 1) W acc μ1 hR1 (by omega) h33 hW (by omega) (by omega)
        obtain ⟨a, b, cc⟩ := part_ok hT D (d + 1) (p + 1) (by omega)
        cases hb1 : (rPart T D (d + 1) (p + 1)).1
        · rw [if_neg (by decide)]
          refine ⟨fun z => (by cases z), fun _ n hn => ?_⟩
          obtain ⟨n, rfl⟩ : ∃ m, n = m + 1 := ⟨n - 1, by omega⟩
          obtain ⟨μ3, e3, p3, f3⟩ := hm.2 hb1 n (by omega)
          exact ⟨μ3, by rw [e1, e3], p3, (f1 c).tr f3⟩
        · rw [if_pos rfl]
          obtain ⟨w, μ3, hw, e3, hR3, f3⟩ := hm.1 hb1
          refine ⟨fun _ => ⟨w + 1, μ3, by show w + 1 ≤ (rPart T D (d + 1) (p + 1)).2.1 - p; omega, fun n => by rw [show n + (w + 1) = (n + w) + 1 from rfl, e1, e3], ?_, (f1 c).tr f3⟩, fun z => (by cases z)⟩
          rw [show d + 1 - (k + 1) = d - k by omega, List.replicate_succ] at hR3
          rw [List.map_append, List.append_assoc, List.append_assoc]
          rw [List.append_assoc] at hR3
          exact hR3
      · rw [if_neg hd]
        refine ⟨fun z => (by cases z), fun _ n hn => ?_⟩
        obtain ⟨n, rfl⟩ : ∃ m, n = m + 1 := ⟨n - 1, by omega⟩
        exact ⟨μ, wants_full (N := N) hT h (Or.inl rfl) h1 (by omega), h.2.1, frE.rf B c μ⟩
    rw [if_neg h1]
    by_cases h4 : chr T p = 40
    · have hlt := chr_in hT h4 (by omega)
      rw [if_pos h4]
      by_cases hd : d < 4
      · rw [if_pos hd]
        obtain ⟨μ1, e1, hR1, f1⟩ := wants_push (N := N) (c := c) hT h (Or.inr rfl) h4 hd (by omega)
        have hPk := part_ok hT D (d + 1)
        have hm := m_either hN hT hB hPk (ih (d + 1) (by omega) (by omega)) (p + 1) (W ++ List.replicate k 33 ++ [40]) acc μ1 hR1 (by rw [last_app]; simp) (by rw [last_app]; simp) (by rw [last_app]; simp) (mem_app hWk (by omega)) (by rw [List.length_append, hlk]; simp only [List.length_cons, List.length_nil]; omega) (by omega)
        have hEok := either_ok hT hPk
        obtain ⟨a, b, cc⟩ := hEok.1 (p + 1) (by omega)
        cases hb1 : (rEither (rPart T D (d + 1)) T (p + 1)).1
        · rw [if_neg (by decide)]
          refine ⟨fun z => (by cases z), fun _ n hn => ?_⟩
          obtain ⟨n, rfl⟩ : ∃ m, n = m + 1 := ⟨n - 1, by omega⟩
          obtain ⟨μ3, e3, p3, f3⟩ := hm.2 hb1 n (by omega)
          exact ⟨μ3, by rw [e1, e3], p3, (f1 c).tr f3⟩
        · rw [if_pos rfl]
          obtain ⟨w, μ3, pend, toks, hpd, etk, hw, e3, hR3, f3, hb3⟩ := hm.1 hb1
          obtain ⟨c38, c124⟩ := hEok.2 (p + 1) (by omega) hb1
          have hlen1 : (W ++ List.replicate k 33 ++ [40]).length = W.length + k + 1 := by rw [List.length_append, hlk]; rfl
          rw [hlen1] at hb3
          -- what waits of it is less than a hundred: the sign behind it is not one of the text's last
          obtain ⟨μ4, hR4, f4, -, e4⟩ := has_end (N := N) (c := c) hN hT hB hc60 hR3 hpd (by rw [last_app]; simp) (by rw [last_app]; simp) (mem_app hWk (by omega)) (by rw [hlen1, List.length_append, List.length_map]; omega) b (by rw [hlen1, List.length_append, List.length_map]; omega) c38 c124
          have hR4' : RM μ4 T (rEither (rPart T D (d + 1)) T (p + 1)).2.1 (W ++ List.replicate k 33 ++ [40]) (d + 1) B (acc ++ (rEither (rPart T D (d + 1)) T (p + 1)).2.2.map tokR) := by
            rw [etk, List.map_append, ← List.append_assoc]; exact hR4
          have hne0 : ¬ nI (W ++ List.replicate k 33 ++ [40]).length = 0 := nI_ne0 (by omega) (by omega)
          have hnp : ∀ n, l_X8_takesE_22 N (nI c) (n + 1 + w + 1) μ 1 = l_X8_takesE_22 N (nI c) (n + 1) μ3 0 := fun n => by rw [e1, e3]
          by_cases h5 : chr T (rEither (rPart T D (d + 1)) T (p + 1)).2.1 = 41
          · have hlt2 := chr_in hT h5 (by omega)
            rw [if_pos h5]
            obtain ⟨h6, g6, h622, -⟩ := hR4'.pop
            obtain ⟨h7, g7⟩ := h6.opn (q := d)
            obtain ⟨h8, g8⟩ := h7.at' (q := (rEither (rPart T D (d + 1)) T (p + 1)).2.1 + 1)
            have hdk : d = (d - k) + k := by omega
            have htl : (rEither (rPart T D (d + 1)) T (p + 1)).2.2.length = toks.length + pend.length := by rw [etk, List.length_append, em_len]
            obtain ⟨μ9, e9, hR9, f9⟩ := m_whole (N := N) hB k N (d - k) _ _ (by omega) (h8.oe hdk) h33 (by rw [List.length_append, List.length_map]; omega) hW
            refine ⟨fun _ => ⟨w + 2, μ9, by show w + 2 ≤ (rEither (rPart T D (d + 1)) T (p + 1)).2.1 + 1 - p; omega, fun n => ?_, ?_, ((((f1 c).tr f3).tr f4).tr ((g6 c).tr ((g7 c).tr (g8 c)))).tr (f9 c)⟩, fun z => (by cases z)⟩
            · rw [show n + (w + 2) = n + 1 + w + 1 by omega, hnp, e4, if_neg hne0, if_pos h5, hlen1, nI_pred, nI_pred]
              have e9' : f_X8_whole N (sI (sI (sI μ4 22 (nI (W.length + k))) 23 (nI d)) 11 (nI ((rEither (rPart T D (d + 1)) T (p + 1)).2.1 + 1))) = some μ9 := by
                unfold f_X8_whole
                rw [← hlk]; exact e9
              rw [e9', cl_s]
            · exact hR9
          · rw [if_neg h5]
            refine ⟨fun z => (by cases z), fun _ n hn => ?_⟩
            obtain ⟨m, rfl⟩ : ∃ m, n = m + 1 + w + 1 := ⟨n - 2 - w, by omega⟩
            exact ⟨μ4, by rw [hnp, e4, if_neg hne0, if_neg h5], hR4.2.1, ((f1 c).tr f3).tr f4⟩
      · rw [if_neg hd]
        refine ⟨fun z => (by cases z), fun _ n hn => ?_⟩
        obtain ⟨n, rfl⟩ : ∃ m, n = m + 1 := ⟨n - 1, by omega⟩
        exact ⟨μ, wants_full (N := N) hT h (Or.inr rfl) h4 (by omega), h.2.1, frE.rf B c μ⟩
    · rw [if_neg h4]
      have hdk : d = (d - k) + k := by omega
      rw [hdk] at h
      obtain ⟨μ1, e1, q1, r1, f1⟩ := m_test (N := N) hN hT h hB h33 (by omega) hp hW
      have hstep : ∀ n, l_X8_takesE_22 N (nI c) (n + 1) μ 1 = (if (b2i (rtest T p).1) = 0 then some (0, μ1) else l_X8_takesE_22 N (nI c) n μ1 0) := fun n => by
        rw [l_X8_takesE_22, m_next hT h.1 h.2.1 (by omega), cl_s, if_neg (show ¬ (1 : Int32) = 0 from by decide), if_neg (show ¬ nxI T p = 33 from fun z => h1 ((nx_eq hT (c := 33) (by omega)).mp z)), if_neg (show ¬ nxI T p = 40 from fun z => h4 ((nx_eq hT (c := 40) (by omega)).mp z)), e1, cl_s]
      have hok := test_ok hT p hp
      refine ⟨fun z => ⟨1, μ1, by have := (hok.2.2 z).2; omega, fun n => by rw [hstep, z, i1], r1 z, f1 c⟩, fun z n hn => ?_⟩
      obtain ⟨n, rfl⟩ : ∃ m, n = m + 1 := ⟨n - 1, by omega⟩
      exact ⟨μ1, by rw [hstep, z, i0], q1, f1 c⟩
end
