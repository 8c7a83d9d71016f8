/-! ===== pure layer S: image, undo ===== -/
/-- the image, seen as the state that it is of -/
def imgV (μ : St) : St := fun k => match k with
  | 0 => μ 43
  | 1 => μ 44
  | 2 => μ 45
  | 3 => μ 49
  | 4 => μ 50
  | 5 => μ 51
  | 6 => μ 52
  | 7 => μ 53
  | 9 => μ 42
  | 31 => μ 46
  | 35 => μ 47
  | 36 => μ 48
  | 32 => μ 54
  | 34 => μ 60
  | 33 => μ 55
  | 37 => μ 56
  | 38 => μ 57
  | 39 => μ 58
  | 40 => μ 59
  | k => μ k
/-- ν holds what μ holds of all that an image has -/
def CpR (ν μ : St) : Prop := (ν 0 0 = μ 0 0 ∧ ν 1 0 = μ 1 0 ∧ ν 2 0 = μ 2 0 ∧ ν 9 0 = μ 9 0 ∧ ν 31 0 = μ 31 0 ∧ ν 35 0 = μ 35 0 ∧ ν 36 0 = μ 36 0) ∧
  (∀ x : Nat, x < 6 → ν 3 x = μ 3 x ∧ ν 4 x = μ 4 x ∧ ν 5 x = μ 5 x ∧ ν 7 x = μ 7 x) ∧ (∀ x : Nat, x < 24 → ν 6 x = μ 6 x) ∧
  (∀ x : Nat, x < 5 → ν 32 x = μ 32 x ∧ ν 34 x = vp_nar .boolean (μ 34 x) ∧ ν 33 x = μ 33 x) ∧ (∀ x : Nat, x < 10 → ν 37 x = μ 37 x ∧ ν 38 x = μ 38 x) ∧ ∀ x : Nat, x < 8 → ν 39 x = μ 39 x ∧ ν 40 x = μ 40 x
section
variable {N : Nat} {L : List SR} {h h2 : Option SR} {σ σ2 μ ν s : St} {C : Cr} {S : Sn} {H : List Nat} {d : Nat} {P : Nt}
theorem CpR.ms (hc : CpR ν μ) (hC : Wf C) (hH : WfH C H d) (hM : MS μ C H d) : MS ν C H d := by
  have hT := hC.1
  have h6 := len6 hC hH
  obtain ⟨⟨c0, c1, c2, -, -, -, -⟩, e1, e2, -, -, -⟩ := hc
  obtain ⟨b0, b1, b2, b3, b4, b6, b5, b8⟩ := hM
  exact ⟨by rw [c0]; exact b0, fun i hi => by rw [(e1 i (by omega)).1]; exact b1 i hi, fun i hi => by rw [(e1 i (by omega)).2.1]; exact b2 i hi, fun i hi => by rw [(e1 i (by omega)).2.2.1]; exact b3 i hi, fun i hi => by rw [e2 i (by omega)]; exact b4 i hi, by rw [c1]; exact b6, fun i u hu => by rw [(e1 i (by have := get_lt hu; omega)).2.2.2]; exact b5 i u hu, by rw [c2]; exact b8⟩
theorem glt {α : Type} {l : List α} {i : Nat} {e : α} (h : l[i]? = some e) : i < l.length := (List.getElem?_eq_some_iff.mp h).1
theorem CpR.mn {T : Nat} (hc : CpR ν μ) (hw : WfN T P) (hM : MN μ P) : MN ν P := by
  obtain ⟨⟨-, -, -, -, c31, c35, c36⟩, -, -, e3, e4, e5⟩ := hc
  obtain ⟨hw1, -, hw3, -, hw5, -⟩ := hw
  obtain ⟨b0, b1, b2, b3, b4, b5⟩ := hM
  refine ⟨by rw [c31]; exact b0, fun i e he => ?_, by rw [c35]; exact b2, fun i e he => ?_, by rw [c36]; exact b4, fun i e he => ?_⟩
  · have hl := glt he
    obtain ⟨q1, q2, q3⟩ := e3 i (by omega)
    obtain ⟨r1, r2, r3⟩ := b1 i e he
    exact ⟨by rw [q1]; exact r1, by rw [q2, r2]; exact nar_b2 _, by rw [q3]; exact r3⟩
  · have hl := glt he
    obtain ⟨q1, q2⟩ := e4 i (by omega)
    obtain ⟨r1, r2⟩ := b3 i e he
    exact ⟨by rw [q1]; exact r1, fun z => by rw [q2]; exact r2 z⟩
  · have hl := glt he
    obtain ⟨q1, q2⟩ := e5 i (by omega)
    obtain ⟨r1, r2⟩ := b5 i e he
    exact ⟨by rw [q1]; exact r1, by rw [q2]; exact r2⟩
theorem x_noteAs {s0 : St} {T : Nat} (hw : WfN T P) (hx : XN s P) : ∃ s', f_X1_becomeAs N s0 s = some s' ∧ XN s' P := by
  have k0 : (0 : Int32).toNatClampNeg = 0 := by decide
  have k5 : (5 : Int32).toNatClampNeg = 5 := by decide
  have k8 : (8 : Int32).toNatClampNeg = 8 := by decide
  have k10 : (10 : Int32).toNatClampNeg = 10 := by decide
  obtain ⟨hw1, -, hw3, -, hw5, -⟩ := hw
  obtain ⟨b0, b1, b2, b3, b4, b5⟩ := hx
  unfold f_X1_becomeAs
  rw [cpy_t (by decide), nm_d, cpy_t (by decide), nm_d, cpy_t (by decide), nm_d, nm_d, cpy_t (by decide), nm_d, cpy_t (by decide), nm_d, nm_d, cpy_t (by decide), nm_d, cpy_t (by decide), nm_d, nm_d, k0, k5, k8, k10]
  refine ⟨_, rfl, ?_, fun i e he => ?_, ?_, fun i e he => ?_, ?_, fun i e he => ?_⟩
  · simp (disch := omega) only [sA_n, sI_n, sI_s, b0]
  · have hl := glt he
    simp (disch := omega) only [sA_n, sI_n, sA_s]
    rw [c6 (by omega), c6 (by omega), c6 (by omega)]; exact b1 i e he
  · simp (disch := omega) only [sA_n, sI_n, sI_s, b2]
  · have hl := glt he
    simp (disch := omega) only [sA_n, sI_n, sA_s]
    rw [c6 (by omega), c6 (by omega)]; exact b3 i e he
  · simp (disch := omega) only [sI_s, b4]
  · have hl := glt he
    simp (disch := omega) only [sA_n, sI_n, sA_s]
    rw [c6 (by omega), c6 (by omega)]; exact b5 i e he
theorem m_image (hN : 1000 ≤ N) : ∃ μ', f_X8_image N μ = some (μ 0 0, μ') ∧ CpR (imgV μ') μ ∧ μ' 41 0 = 1 ∧ ∀ k, (k < 41 ∨ 60 < k) → μ' k = μ k := by
  unfold f_X8_image
  simp (disch := omega) only [nm_d, sI_n]
  generalize hμ1 : sI (sI (sI (sI (sI (sI (sI (sI μ 41 1) 42 (μ 9 0)) 43 (μ 0 0)) 44 (μ 1 0)) 45 (μ 2 0)) 46 (μ 31 0)) 47 (μ 35 0)) 48 (μ 36 0) = μ1
  have f1 : ∀ k, (k < 41 ∨ 48 < k) → μ1 k = μ k := fun k hk => by rw [← hμ1]; simp (disch := omega) only [sI_n]
  obtain ⟨μ2, e2, a2, -, f2⟩ := c_image_63 N 6 0 N μ1 rfl (by omega)
  obtain ⟨μ3, e3, a3, -, f3⟩ := c_image_125 N 24 0 N μ2 rfl (by omega)
  obtain ⟨μ4, e4, a4, -, f4⟩ := c_image_151 N 5 0 N μ3 rfl (by omega)
  obtain ⟨μ5, e5, a5, -, f5⟩ := c_image_200 N 10 0 N μ4 rfl (by omega)
  obtain ⟨μ6, e6, a6, -, f6⟩ := c_image_238 N 8 0 N μ5 rfl (by omega)
  have e2' : l_X8_image_63 N N μ1 0 = _ := e2
  have e3' : l_X8_image_125 N N μ2 0 = _ := e3
  have e4' : l_X8_image_151 N N μ3 0 = _ := e4
  have e5' : l_X8_image_200 N N μ4 0 = _ := e5
  have e6' : l_X8_image_238 N N μ5 0 = _ := e6
  have g5 : ∀ k, k ≠ 58 → k ≠ 59 → μ6 k = μ5 k := f6
  have g4 : ∀ k, k ≠ 58 → k ≠ 59 → k ≠ 56 → k ≠ 57 → μ6 k = μ4 k := fun k a b c d => (g5 k a b).trans (f5 k c d)
  have g3 : ∀ k, k ≠ 58 → k ≠ 59 → k ≠ 56 → k ≠ 57 → k ≠ 54 → k ≠ 60 → k ≠ 55 → μ6 k = μ3 k := fun k a b c d e f g => (g4 k a b c d).trans (f4 k e f g)
  have g2 : ∀ k, k ≠ 52 → k ≠ 58 → k ≠ 59 → k ≠ 56 → k ≠ 57 → k ≠ 54 → k ≠ 60 → k ≠ 55 → μ6 k = μ2 k := fun k z a b c d e f g => (g3 k a b c d e f g).trans (f3 k z)
  have h1 : ∀ k, (k < 49 ∨ 60 < k) → μ6 k = μ1 k := fun k hk => by rw [g2 k (by omega) (by omega) (by omega) (by omega) (by omega) (by omega) (by omega) (by omega), f2 k (by omega) (by omega) (by omega) (by omega)]
  rw [e2', e3', e4', e5', e6']
  have v0 : μ6 0 0 = μ 0 0 := by rw [h1 0 (by omega), f1 0 (by omega)]
  refine ⟨μ6, by rw [v0], ⟨⟨?_, ?_, ?_, ?_, ?_, ?_, ?_⟩, fun x hx => ?_, fun x hx => ?_, fun x hx => ?_, fun x hx => ?_, fun x hx => ?_⟩, ?_, fun k hk => by rw [h1 k (by omega), f1 k (by omega)]⟩
  · show μ6 43 0 = _; rw [h1 43 (by omega), ← hμ1]; simp (disch := omega) only [sI_n, sI_s]
  · show μ6 44 0 = _; rw [h1 44 (by omega), ← hμ1]; simp (disch := omega) only [sI_n, sI_s]
  · show μ6 45 0 = _; rw [h1 45 (by omega), ← hμ1]; simp (disch := omega) only [sI_n, sI_s]
  · show μ6 42 0 = _; rw [h1 42 (by omega), ← hμ1]; simp (disch := omega) only [sI_n, sI_s]
  · show μ6 46 0 = _; rw [h1 46 (by omega), ← hμ1]; simp (disch := omega) only [sI_n, sI_s]
  · show μ6 47 0 = _; rw [h1 47 (by omega), ← hμ1]; simp (disch := omega) only [sI_n, sI_s]
  · show μ6 48 0 = _; rw [h1 48 (by omega), ← hμ1]; simp (disch := omega) only [sI_n, sI_s]
  · show μ6 49 x = _ ∧ μ6 50 x = _ ∧ μ6 51 x = _ ∧ μ6 53 x = _
    have := a2 x (by omega) hx
    rw [f1 3 (by omega), f1 4 (by omega), f1 5 (by omega), f1 7 (by omega)] at this
    rw [g2 49 (by omega) (by omega) (by omega) (by omega) (by omega) (by omega) (by omega) (by omega), g2 50 (by omega) (by omega) (by omega) (by omega) (by omega) (by omega) (by omega) (by omega), g2 51 (by omega) (by omega) (by omega) (by omega) (by omega) (by omega) (by omega) (by omega), g2 53 (by omega) (by omega) (by omega) (by omega) (by omega) (by omega) (by omega) (by omega)]
    exact this
  · show μ6 52 x = _
    have := a3 x (by omega) hx
    rw [g3 52 (by omega) (by omega) (by omega) (by omega) (by omega) (by omega) (by omega), this, f2 6 (by omega) (by omega) (by omega) (by omega), f1 6 (by omega)]
  · show μ6 54 x = _ ∧ μ6 60 x = _ ∧ μ6 55 x = _
    have := a4 x (by omega) hx
    rw [f3 32 (by omega), f3 33 (by omega), f3 34 (by omega), f2 32 (by omega) (by omega) (by omega) (by omega), f2 33 (by omega) (by omega) (by omega) (by omega), f2 34 (by omega) (by omega) (by omega) (by omega), f1 32 (by omega), f1 33 (by omega), f1 34 (by omega)] at this
    rw [g4 54 (by omega) (by omega) (by omega) (by omega), g4 60 (by omega) (by omega) (by omega) (by omega), g4 55 (by omega) (by omega) (by omega) (by omega)]
    exact this
  · show μ6 56 x = _ ∧ μ6 57 x = _
    have := a5 x (by omega) hx
    rw [f4 37 (by omega) (by omega) (by omega), f4 38 (by omega) (by omega) (by omega), f3 37 (by omega), f3 38 (by omega), f2 37 (by omega) (by omega) (by omega) (by omega), f2 38 (by omega) (by omega) (by omega) (by omega), f1 37 (by omega), f1 38 (by omega)] at this
    rw [g5 56 (by omega) (by omega), g5 57 (by omega) (by omega)]
    exact this
  · show μ6 58 x = _ ∧ μ6 59 x = _
    have := a6 x (by omega) hx
    rw [f5 39 (by omega) (by omega), f5 40 (by omega) (by omega), f4 39 (by omega) (by omega) (by omega), f4 40 (by omega) (by omega) (by omega), f3 39 (by omega), f3 40 (by omega), f2 39 (by omega) (by omega) (by omega) (by omega), f2 40 (by omega) (by omega) (by omega) (by omega), f1 39 (by omega), f1 40 (by omega)] at this
    exact this
  · rw [h1 41 (by omega), ← hμ1]; simp (disch := omega) only [sI_n, sI_s]
theorem m_undo (hN : 1000 ≤ N) (h41 : ¬ μ 41 0 = 0) : ∃ μ', f_X8_undo N μ = some (μ 43 0, μ') ∧ CpR μ' (imgV μ) ∧ ∀ k, ¬ (k ≤ 7 ∨ k = 9 ∨ (31 ≤ k ∧ k ≤ 40)) → μ' k = μ k := by
  unfold f_X8_undo
  rw [if_neg h41]
  simp (disch := omega) only [nm_d, sI_n]
  generalize hμ1 : sI (sI (sI (sI (sI (sI (sI μ 9 (μ 42 0)) 0 (μ 43 0)) 1 (μ 44 0)) 2 (μ 45 0)) 31 (μ 46 0)) 35 (μ 47 0)) 36 (μ 48 0) = μ1
  have f1 : ∀ k, k ≠ 9 → k ≠ 0 → k ≠ 1 → k ≠ 2 → k ≠ 31 → k ≠ 35 → k ≠ 36 → μ1 k = μ k := fun k _ _ _ _ _ _ _ => by rw [← hμ1]; simp (disch := omega) only [sI_n]
  obtain ⟨μ2, e2, a2, -, f2⟩ := c_undo_68 N 6 0 N μ1 rfl (by omega)
  obtain ⟨μ3, e3, a3, -, f3⟩ := c_undo_130 N 24 0 N μ2 rfl (by omega)
  obtain ⟨μ4, e4, a4, -, f4⟩ := c_undo_156 N 5 0 N μ3 rfl (by omega)
  obtain ⟨μ5, e5, a5, -, f5⟩ := c_undo_205 N 10 0 N μ4 rfl (by omega)
  obtain ⟨μ6, e6, a6, -, f6⟩ := c_undo_243 N 8 0 N μ5 rfl (by omega)
  have e2' : l_X8_undo_68 N N μ1 0 = _ := e2
  have e3' : l_X8_undo_130 N N μ2 0 = _ := e3
  have e4' : l_X8_undo_156 N N μ3 0 = _ := e4
  have e5' : l_X8_undo_205 N N μ4 0 = _ := e5
  have e6' : l_X8_undo_243 N N μ5 0 = _ := e6
  have g5 : ∀ k, k ≠ 39 → k ≠ 40 → μ6 k = μ5 k := f6
  have g4 : ∀ k, k ≠ 39 → k ≠ 40 → k ≠ 37 → k ≠ 38 → μ6 k = μ4 k := fun k a b c d => (g5 k a b).trans (f5 k c d)
  have g3 : ∀ k, k ≠ 39 → k ≠ 40 → k ≠ 37 → k ≠ 38 → k ≠ 32 → k ≠ 34 → k ≠ 33 → μ6 k = μ3 k := fun k a b c d e f g => (g4 k a b c d).trans (f4 k e f g)
  have g2 : ∀ k, k ≠ 6 → k ≠ 39 → k ≠ 40 → k ≠ 37 → k ≠ 38 → k ≠ 32 → k ≠ 34 → k ≠ 33 → μ6 k = μ2 k := fun k z a b c d e f g => (g3 k a b c d e f g).trans (f3 k z)
  have h1 : ∀ k, k ≠ 3 → k ≠ 4 → k ≠ 5 → k ≠ 7 → k ≠ 6 → k ≠ 39 → k ≠ 40 → k ≠ 37 → k ≠ 38 → k ≠ 32 → k ≠ 34 → k ≠ 33 → μ6 k = μ1 k := fun k _ _ _ _ _ _ _ _ _ _ _ _ => by rw [g2 k (by omega) (by omega) (by omega) (by omega) (by omega) (by omega) (by omega) (by omega), f2 k (by omega) (by omega) (by omega) (by omega)]
  rw [e2', e3', e4', e5', e6']
  have hv : ∀ k, (k = 0 ∨ k = 1 ∨ k = 2 ∨ k = 9 ∨ k = 31 ∨ k = 35 ∨ k = 36) → μ6 k = μ1 k := fun k hk => h1 k (by omega) (by omega) (by omega) (by omega) (by omega) (by omega) (by omega) (by omega) (by omega) (by omega) (by omega) (by omega)
  have s1 : ∀ k, 41 ≤ k → μ1 k = μ k := fun k hk => f1 k (by omega) (by omega) (by omega) (by omega) (by omega) (by omega) (by omega)
  have s2 : ∀ k, 41 ≤ k → μ2 k = μ k := fun k hk => by rw [f2 k (by omega) (by omega) (by omega) (by omega), s1 k hk]
  have s3 : ∀ k, 41 ≤ k → μ3 k = μ k := fun k hk => by rw [f3 k (by omega), s2 k hk]
  have s4 : ∀ k, 41 ≤ k → μ4 k = μ k := fun k hk => by rw [f4 k (by omega) (by omega) (by omega), s3 k hk]
  have s5 : ∀ k, 41 ≤ k → μ5 k = μ k := fun k hk => by rw [f5 k (by omega) (by omega), s4 k hk]
  have v0 : μ6 0 0 = μ 43 0 := by rw [hv 0 (by omega), ← hμ1]; simp (disch := omega) only [sI_n, sI_s]
  refine ⟨μ6, by rw [v0], ⟨⟨?_, ?_, ?_, ?_, ?_, ?_, ?_⟩, fun x hx => ?_, fun x hx => ?_, fun x hx => ?_, fun x hx => ?_, fun x hx => ?_⟩, fun k hk => by rw [h1 k (by omega) (by omega) (by omega) (by omega) (by omega) (by omega) (by omega) (by omega) (by omega) (by omega) (by omega) (by omega), f1 k (by omega) (by omega) (by omega) (by omega) (by omega) (by omega) (by omega)]⟩
  · show _ = μ 43 0; exact v0
  · show _ = μ 44 0; rw [hv 1 (by omega), ← hμ1]; simp (disch := omega) only [sI_n, sI_s]
  · show _ = μ 45 0; rw [hv 2 (by omega), ← hμ1]; simp (disch := omega) only [sI_n, sI_s]
  · show _ = μ 42 0; rw [hv 9 (by omega), ← hμ1]; simp (disch := omega) only [sI_n, sI_s]
  · show _ = μ 46 0; rw [hv 31 (by omega), ← hμ1]; simp (disch := omega) only [sI_n, sI_s]
  · show _ = μ 47 0; rw [hv 35 (by omega), ← hμ1]; simp (disch := omega) only [sI_n, sI_s]
  · show _ = μ 48 0; rw [hv 36 (by omega), ← hμ1]; simp (disch := omega) only [sI_n, sI_s]
  · show _ = μ 49 x ∧ _ = μ 50 x ∧ _ = μ 51 x ∧ _ = μ 53 x
    have := a2 x (by omega) hx
    rw [s1 49 (by omega), s1 50 (by omega), s1 51 (by omega), s1 53 (by omega)] at this
    rw [g2 3 (by omega) (by omega) (by omega) (by omega) (by omega) (by omega) (by omega) (by omega), g2 4 (by omega) (by omega) (by omega) (by omega) (by omega) (by omega) (by omega) (by omega), g2 5 (by omega) (by omega) (by omega) (by omega) (by omega) (by omega) (by omega) (by omega), g2 7 (by omega) (by omega) (by omega) (by omega) (by omega) (by omega) (by omega) (by omega)]
    exact this
  · show _ = μ 52 x
    have := a3 x (by omega) hx
    rw [g3 6 (by omega) (by omega) (by omega) (by omega) (by omega) (by omega) (by omega), this, s2 52 (by omega)]
  · show _ = μ 54 x ∧ _ = vp_nar .boolean (μ 60 x) ∧ _ = μ 55 x
    have := a4 x (by omega) hx
    rw [s3 54 (by omega), s3 60 (by omega), s3 55 (by omega)] at this
    rw [g4 32 (by omega) (by omega) (by omega) (by omega), g4 34 (by omega) (by omega) (by omega) (by omega), g4 33 (by omega) (by omega) (by omega) (by omega)]
    exact this
  · show _ = μ 56 x ∧ _ = μ 57 x
    have := a5 x (by omega) hx
    rw [s4 56 (by omega), s4 57 (by omega)] at this
    rw [g5 37 (by omega) (by omega), g5 38 (by omega) (by omega)]
    exact this
  · show _ = μ 58 x ∧ _ = μ 59 x
    have := a6 x (by omega) hx
    rw [s5 58 (by omega), s5 59 (by omega)] at this
    exact this
end
