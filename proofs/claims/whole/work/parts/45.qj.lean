/-! ===== pure layer QJ: feed, count, street, image, undo, act, tapes, between two calls ===== -/
section
variable {N : Nat} {L : List SR} {h1 h2 h4 : Option SR} {s0 s1 s2 s3 s4 s5 s6 s7 s8 s9 μ : St} {t9 τ : Lt}
theorem in_feed (hI : Inv L s0 s1 h1 s3 s4 h4 s5 s6 s8 s9 t9 μ τ) (p1 : Int32) : ∃ a s6' μ', f_X7_feed N s6 p1 = some (a, s6') ∧ f_X8_feed N μ p1 = some (a, μ') ∧ Inv L s0 s1 h1 s3 s4 h4 s5 s6' s8 s9 t9 μ' τ := by
  have hI0 := hI
  obtain ⟨cnt, hg, ⟨a1, a2, a3⟩, ⟨T, b1, b2, b3⟩, c1, d1, e1, kept, f1, f2, f3⟩ := hI
  have h100 := b3.1
  unfold f_X7_feed f_X8_feed
  rw [f_within, cl_s, f_in, cl_s]
  cases hw : wn p1 0 127
  · rw [i0, i0]; exact ⟨_, _, _, rfl, rfl, hI0⟩
  rw [i1, i1, b1.1, b2.1]
  obtain ⟨c, hc, rfl⟩ := wn_nat (n := 127) (by omega) hw
  by_cases hl : T.length = 100
  · rw [hl, if_neg (show ¬ nI 100 < 100 by decide), if_pos (show nI 100 = 100 from rfl)]; exact ⟨_, _, _, rfl, rfl, hI0⟩
  rw [if_pos (show nI T.length < 100 from nI_lt (b := 100) (by omega) (by omega)), if_neg (show ¬ nI T.length = 100 from fun z => hl ((nI_eq (b := 100) (by omega) (by omega)).mp z))]
  have eA : f_X5_addSign N s6 (nI c) = some (nI (T.length + 1), sI (sA s6 0 (upd (s6 0) T.length (nI c))) 1 (nI (T.length + 1))) := by
    unfold f_X5_addSign
    rw [b1.1, if_neg (show ¬ (100 : Int32) ≤ nI T.length from nI_ge (b := 100) (by omega) (by omega)), ck_n (by omega) (by omega), nm_d, nI_clamp (by omega), nm_d, sA_n _ _ (show 1 ≠ 0 by decide), b1.1, nI_1, sI_s]
  rw [eA, cl_s, ck_n (by omega) (by omega), nm_d, nI_clamp (by omega), nm_d, sA_n _ _ (show 10 ≠ 13 by decide), b2.1, nI_1, sI_s]
  have hz : ∀ k, k ≠ 10 → k ≠ 13 → sI (sA μ 13 (upd (μ 13) T.length (nI c))) 10 (nI (T.length + 1)) k = μ k := fun k x y => by rw [sI_n _ _ x, sA_n _ _ y]
  refine ⟨_, sI (sA s6 0 (upd (s6 0) T.length (nI c))) 1 (nI (T.length + 1)), sI (sA μ 13 (upd (μ 13) T.length (nI c))) 10 (nI (T.length + 1)), rfl, rfl, cnt, hg.up (fun _ a => a) (fun _ a => a.same (fun k hk => hz k (by omega) (by omega))) (fun k hk => hz k (by omega) (by omega)) (fun k x y => hz k (by omega) (by omega)), ⟨a1, a2, by rw [hz 8 (by decide) (by decide)]; exact a3⟩, ⟨T ++ [c], ⟨by rw [sI_s, List.length_append]; rfl, fun i y hy => ?_⟩, ⟨by rw [sI_s, List.length_append]; rfl, fun i y hy => ?_⟩, ⟨by rw [List.length_append, List.length_singleton]; omega, fun y hy => ?_⟩⟩, fun i hi => by rw [hz 24 (by decide) (by decide)]; exact c1 i hi, ?_, e1.sm (hz 63 (by decide) (by decide)) (hz 64 (by decide) (by decide)), kept, f1, by rw [hz 41 (by decide) (by decide)]; exact f2, fun hk => kept_sm (f3 hk) (fun k hk => hz k (by omega) (by omega))⟩
  · rw [sI_n _ _ (by decide), sA_s]
    rcases ga hy with ⟨q1, q2⟩ | ⟨q1, q2⟩
    · rw [pk_un (by omega)]; exact b1.2 i y q2
    · subst q1; subst q2; rw [pk_us]
  · rw [sI_n _ _ (by decide), sA_s]
    rcases ga hy with ⟨q1, q2⟩ | ⟨q1, q2⟩
    · rw [pk_un (by omega)]; exact b2.2 i y q2
    · subst q1; subst q2; rw [pk_us]
  · rcases List.mem_append.mp hy with q | q
    · exact b3.2 y q
    · rw [List.mem_singleton.mp q]; omega
  · obtain ⟨bl, d1, d2, d3⟩ := d1
    exact ⟨bl, d1, d2.sm (hz 61 (by decide) (by decide)) (hz 62 (by decide) (by decide)), d3⟩
theorem in_count (hI : Inv L s0 s1 h1 s3 s4 h4 s5 s6 s8 s9 t9 μ τ) (p1 : Int32) : ∃ a, f_X7_count N s0 s1 s3 s6 s8 p1 = some a ∧ f_X8_count N μ p1 = some a := by
  obtain ⟨cnt, ⟨C, H, d, S, P, g1, g2, g3, g4, g5, g6, g7, g8, g9, g10⟩, ⟨a1, a2, a3⟩, ⟨T, b1, b2, b3⟩, c1, ⟨bl, d1, d2, d3⟩, e1, kept, f1, f2, f3⟩ := hI
  unfold f_X7_count f_X8_count
  by_cases c0 : p1 = 0
  · rw [if_pos c0, if_pos c0, g3.1, g4.1]; exact ⟨_, rfl, rfl⟩
  rw [if_neg c0, if_neg c0]
  by_cases c1 : p1 = 1
  · rw [if_pos c1, if_pos c1, a2, a3]; exact ⟨_, rfl, rfl⟩
  rw [if_neg c1, if_neg c1]
  by_cases c2 : p1 = 2
  · rw [if_pos c2, if_pos c2, g3.2.2.2.2.2.2.1, g4.2.2.2.2.2.1]; exact ⟨_, rfl, rfl⟩
  rw [if_neg c2, if_neg c2]
  by_cases c3 : p1 = 3
  · rw [if_pos c3, if_pos c3, g8.1, g9.1]; exact ⟨_, rfl, rfl⟩
  rw [if_neg c3, if_neg c3]
  by_cases c4 : p1 = 4
  · rw [if_pos c4, if_pos c4, g8.2.2.1, g9.2.2.1]; exact ⟨_, rfl, rfl⟩
  rw [if_neg c4, if_neg c4]
  by_cases c5 : p1 = 5
  · rw [if_pos c5, if_pos c5, g8.2.2.2.2.1, g9.2.2.2.2.1]; exact ⟨_, rfl, rfl⟩
  rw [if_neg c5, if_neg c5]
  by_cases c6 : p1 = 6
  · rw [if_pos c6, if_pos c6, b1.1, b2.1]; exact ⟨_, rfl, rfl⟩
  rw [if_neg c6, if_neg c6]
  by_cases c7 : p1 = 7
  · rw [if_pos c7, if_pos c7, d1.1, d2.1]; exact ⟨_, rfl, rfl⟩
  rw [if_neg c7, if_neg c7]
  exact ⟨_, rfl, rfl⟩
theorem in_act (hI : Inv L s0 s1 h1 s3 s4 h4 s5 s6 s8 s9 t9 μ τ) (p1 p2 p3 : Int32) : ∃ a s8' μ', f_X7_act N s1 s8 p1 p2 p3 = some (a, s8') ∧ f_X8_act N μ p1 p2 p3 = some (a, μ') ∧ Inv L s0 s1 h1 s3 s4 h4 s5 s6 s8' s9 t9 μ' τ := by
  obtain ⟨cnt, ⟨C, H, d, S, P, g⟩, ⟨a1, a2, a3⟩, ⟨T, b1, b2, b3⟩, c1, ⟨bl, d1, d2, d3⟩, e1, kept, f1, f2, f3⟩ := hI
  obtain ⟨a, s', μ', bl', ez, er, x1, x2, x3, hf⟩ := op_act (N := N) (s := s8) g.gi d2 p1 p2 p3
  have hz : ∀ k, k ≠ 61 → k ≠ 62 → μ' k = μ k := hf
  refine ⟨a, s', μ', ez, er, cnt, GK.up ⟨C, H, d, S, P, g⟩ (fun _ a => a) (fun _ a => a.same (fun k hk => hz k (by omega) (by omega))) (fun k hk => hz k (by omega) (by omega)) (fun k x y => hz k (by omega) (by omega)), ⟨a1, a2, by rw [hz 8 (by decide) (by decide)]; exact a3⟩, ⟨T, b1, b2.sm (hz 10 (by decide) (by decide)) (hz 13 (by decide) (by decide)), b3⟩, fun i hi => by rw [hz 24 (by decide) (by decide)]; exact c1 i hi, ⟨bl', x1, x2, x3⟩, e1.sm (hz 63 (by decide) (by decide)) (hz 64 (by decide) (by decide)), kept, f1, by rw [hz 41 (by decide) (by decide)]; exact f2, fun hk => kept_sm (f3 hk) (fun k hk => hz k (by omega) (by omega))⟩
theorem in_tape (hN : 1000 ≤ N) (hI : Inv L s0 s1 h1 s3 s4 h4 s5 s6 s8 s9 t9 μ τ) (p1 p2 p3 : Int32) : ∃ a s9' t9' μ' τ', f_X7_tape N s9 t9 p1 p2 p3 = some (a, s9', t9') ∧ f_X8_tape N μ τ p1 p2 p3 = some (a, μ', τ') ∧ Inv L s0 s1 h1 s3 s4 h4 s5 s6 s8 s9' t9' μ' τ' := by
  obtain ⟨cnt, hg, ⟨a1, a2, a3⟩, ⟨T, b1, b2, b3⟩, c1, ⟨bl, d1, d2, d3⟩, e1, kept, f1, f2, f3⟩ := hI
  obtain ⟨a, s', u, μ', w, ez, er, x1, hz⟩ := op_tape hN e1 p1 p2 p3
  exact ⟨a, s', u, μ', w, ez, er, cnt, hg.up (fun _ a => a) (fun _ a => a.same (fun k hk => hz k (by omega) (by omega))) (fun k hk => hz k (by omega) (by omega)) (fun k x y => hz k (by omega) (by omega)), ⟨a1, a2, by rw [hz 8 (by decide) (by decide)]; exact a3⟩, ⟨T, b1, b2.sm (hz 10 (by decide) (by decide)) (hz 13 (by decide) (by decide)), b3⟩, fun i hi => by rw [hz 24 (by decide) (by decide)]; exact c1 i hi, ⟨bl, d1, d2.sm (hz 61 (by decide) (by decide)) (hz 62 (by decide) (by decide)), d3⟩, x1, kept, f1, by rw [hz 41 (by decide) (by decide)]; exact f2, fun hk => kept_sm (f3 hk) (fun k hk => hz k (by omega) (by omega))⟩
theorem Inv.tp {t9' τ' : Lt} (hI : Inv L s0 s1 h1 s3 s4 h4 s5 s6 s8 s9 t9 μ τ) (hP : TPR s9 t9' μ τ') : Inv L s0 s1 h1 s3 s4 h4 s5 s6 s8 s9 t9' μ τ' := by
  obtain ⟨cnt, hg, a, b, c, d, -, e⟩ := hI
  exact ⟨cnt, hg, a, b, c, d, hP, e⟩
theorem Inv.tpr (hI : Inv L s0 s1 h1 s3 s4 h4 s5 s6 s8 s9 t9 μ τ) : TPR s9 t9 μ τ := by
  obtain ⟨cnt, hg, a, b, c, d, h, e⟩ := hI
  exact h
theorem in_item (hI : Inv L s0 s1 h1 s3 s4 h4 s5 s6 s8 s9 t9 μ τ) (p1 p2 : Int32) (v : Int64) : ∃ a t9' τ', f_X7_item N s9 t9 p1 p2 v = some (a, t9') ∧ f_X8_item N μ τ p1 p2 v = some (a, τ') ∧ Inv L s0 s1 h1 s3 s4 h4 s5 s6 s8 s9 t9' μ τ' := by
  obtain ⟨a, u, w, e1, e2, hP⟩ := op_item (N := N) hI.tpr p1 p2 v
  exact ⟨a, u, w, e1, e2, hI.tp hP⟩
theorem in_shift (hN : 1000 ≤ N) (hI : Inv L s0 s1 h1 s3 s4 h4 s5 s6 s8 s9 t9 μ τ) (p1 p2 p3 p4 p5 : Int32) : ∃ a t9' τ', f_X7_shift N s9 t9 p1 p2 p3 p4 p5 = some (a, t9') ∧ f_X8_shift N μ τ p1 p2 p3 p4 p5 = some (a, τ') ∧ Inv L s0 s1 h1 s3 s4 h4 s5 s6 s8 s9 t9' μ τ' := by
  obtain ⟨a, u, w, e1, e2, hP⟩ := op_shift hN hI.tpr p1 p2 p3 p4 p5
  exact ⟨a, u, w, e1, e2, hI.tp hP⟩
/-- what an image holds, as the state -/
theorem RS.cp {ν : St} {cnt : Nat} {S : Sn} (h : RS μ cnt S) (h9 : ν 9 0 = μ 9 0) (hs : ∀ k, 14 ≤ k → k ≤ 19 → ν k = μ k) : RS ν cnt S := by
  rcases h with ⟨a, b⟩ | ⟨f, cs, q1, q2, q3, q4, q5⟩
  · exact Or.inl ⟨by rw [h9]; exact a, b⟩
  · exact Or.inr ⟨f, cs, by rw [h9]; exact q1, q2, q3, q4.same hs, q5⟩
theorem in_image (hN : 1000 ≤ N) (hI : Inv L s0 s1 h1 s3 s4 h4 s5 s6 s8 s9 t9 μ τ) : ∃ a s0' s4' h4' s5' μ', f_X7_image N s0 s1 h1 s3 s4 h4 s5 = some (a, s0', s4', h4', s5') ∧ f_X8_image N μ = some (a, μ') ∧ Inv L s0' s1 h1 s3 s4' h4' s5' s6 s8 s9 t9 μ' τ := by
  obtain ⟨cnt, ⟨C, H, d, S, P, g1, g2, g3, g4, g5, g6, g7, g8, g9, g10⟩, ⟨a1, a2, a3⟩, ⟨T, b1, b2, b3⟩, c1, ⟨bl, d1, d2, d3⟩, e1, kept, f1, f2, f3⟩ := hI
  obtain ⟨s4', e4, x4⟩ := x_become (N := N) (h := h1) (σ0 := s4) (h0 := h4) g1 g2 g3
  obtain ⟨s5', e5, x5⟩ := x_noteAs (N := N) (s0 := s5) g10 g8
  obtain ⟨μ', er, hc, h41, hz⟩ := m_image (N := N) (μ := μ) hN
  refine ⟨nI (cT C), sI s0 5 1, s4', h1, s5', μ', by unfold f_X7_image; rw [e4, cl_s, e5, cl_s, nm_d, g3.1], by rw [er, g4.1], cnt, GK.up ⟨C, H, d, S, P, g1, g2, g3, g4, g5, g6, g7, g8, g9, g10⟩ (fun _ a => a) (fun _ a => a.same (fun k hk => hz k (by omega))) (fun k hk => hz k (by omega)) (fun k x y => hz k (by omega)), ⟨a1, by rw [sI_n _ _ (by decide)]; exact a2, by rw [hz 8 (by omega)]; exact a3⟩, ⟨T, b1, b2.sm (hz 10 (by omega)) (hz 13 (by omega)), b3⟩, fun i hi => by rw [hz 24 (by omega)]; exact c1 i hi, ⟨bl, d1, d2.sm (hz 61 (by omega)) (hz 62 (by omega)), d3⟩, e1.sm (hz 63 (by omega)) (hz 64 (by omega)), true, by rw [sI_s]; rfl, by rw [h41]; rfl, fun _ => ⟨C, H, d, S, P, g1, g2, x4, hc.ms g1 g2 g4, g5, ?_, g7, x5, hc.mn g10 g9, g10⟩⟩
  exact g6.cp hc.1.2.2.2.1 (fun k x y => by rw [imgV_im _ _ (by omega), im_id k (by omega) x]; exact hz k (by omega))
theorem in_undo (hN : 1000 ≤ N) (hI : Inv L s0 s1 h1 s3 s4 h4 s5 s6 s8 s9 t9 μ τ) : ∃ a s1' h1' s3' μ', f_X7_undo N s0 s1 h1 s3 s4 h4 s5 = some (a, s1', h1', s3') ∧ f_X8_undo N μ = some (a, μ') ∧ Inv L s0 s1' h1' s3' s4 h4 s5 s6 s8 s9 t9 μ' τ := by
  have hI0 := hI
  obtain ⟨cnt, hg, ⟨a1, a2, a3⟩, ⟨T, b1, b2, b3⟩, c1, ⟨bl, d1, d2, d3⟩, e1, kept, f1, f2, f3⟩ := hI
  cases kept
  · refine ⟨-3, s1, h1, s3, μ, ?_, ?_, hI0⟩
    · unfold f_X7_undo; rw [f1, i0]
    · unfold f_X8_undo; rw [f2, i0]
  · obtain ⟨C, H, d, S, P, g1, g2, g3, g4, g5, g6, g7, g8, g9, g10⟩ := f3 rfl
    obtain ⟨s1', e4, x4⟩ := x_become (N := N) (h := h4) (σ0 := s1) (h0 := h1) g1 g2 g3
    obtain ⟨s3', e5, x5⟩ := x_noteAs (N := N) (s0 := s3) g10 g8
    obtain ⟨μ', er, hc, hz⟩ := m_undo (N := N) (μ := μ) hN (by rw [f2]; decide)
    have e0 : μ 43 0 = s1' 0 0 := by rw [x4.1]; exact g4.1
    refine ⟨s1' 0 0, s1', h4, s3', μ', by unfold f_X7_undo; rw [f1, i1, e4, cl_s, e5, cl_s], by rw [er, e0], cnt, ⟨C, H, d, S, P, g1, g2, x4, hc.ms g1 g2 g4, g5, ?_, g7, x5, hc.mn g10 g9, g10⟩, ⟨a1, a2, by rw [hz 8 (by omega)]; exact a3⟩, ⟨T, b1, b2.sm (hz 10 (by omega)) (hz 13 (by omega)), b3⟩, fun i hi => by rw [hz 24 (by omega)]; exact c1 i hi, ⟨bl, d1, d2.sm (hz 61 (by omega)) (hz 62 (by omega)), d3⟩, e1.sm (hz 63 (by omega)) (hz 64 (by omega)), true, f1, by rw [hz 41 (by omega)]; exact f2, fun hk => kept_sm (f3 hk) (fun k hk => hz k (by omega))⟩
    exact g6.cp hc.1.2.2.2.1 (fun k x y => by rw [imgV_im _ _ (by omega), im_id k (by omega) x]; exact hz k (by omega))
end
