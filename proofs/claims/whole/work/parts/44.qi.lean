/-! ===== pure layer QI: what holds between two calls ===== -/
theorem csX_le {T : List Nat} (hT : TxOk T) : ∀ (k p : Nat) (cs : List Cz), p ≤ T.length → (csX cs).length ≤ p → (rSt T k p cs).1 = true → (csX (rSt T k p cs).2.2).length ≤ T.length := by
  intro k
  induction k with
  | zero => intro p cs _ _ z; cases z
  | succ k ih =>
    intro p cs hp hc
    have hk := clause_ok hT hp
    rw [rSt]
    cases hb : (rClause T p).1
    · rw [if_neg (by decide)]; exact fun z => (by cases z)
    have hcl := clX_len (rClause T p).2.2
    obtain ⟨b1, b2, b3⟩ := hk.2.2 hb
    rw [if_pos rfl]
    by_cases hend : T.length ≤ (rClause T p).2.1
    · rw [if_pos hend]; intro _; show (csX (cs ++ [_])).length ≤ _; rw [csX_app, List.length_append]; omega
    rw [if_neg hend]
    by_cases hk0 : k = 0
    · rw [if_pos hk0]; exact fun z => (by cases z)
    rw [if_neg hk0]
    by_cases h59 : chr T (rClause T p).2.1 = 59
    · rw [if_pos h59]; exact ih _ _ (by omega) (by rw [csX_app, List.length_append]; omega)
    · rw [if_neg h59]; exact fun z => (by cases z)
/-- the game and its notes, on both sides -/
def GP (L : List SR) (cnt : Nat) (h : Option SR) (σ n μ : St) (C : Cr) (H : List Nat) (d : Nat) (S : Sn) (P : Nt) : Prop := Wf C ∧ WfH C H d ∧ XS σ C H d ∧ MS μ C H d ∧ XT L h S ∧ RS μ cnt S ∧ d ≤ 9999 ∧ XN n P ∧ MN μ P ∧ WfN (cT C) P
def GK (L : List SR) (cnt : Nat) (h : Option SR) (σ n μ : St) : Prop := ∃ C H d S P, GP L cnt h σ n μ C H d S P
theorem GP.gi {L : List SR} {cnt : Nat} {h : Option SR} {σ n μ : St} {C : Cr} {H : List Nat} {d : Nat} {S : Sn} {P : Nt} (g : GP L cnt h σ n μ C H d S P) : GI L h σ μ C S H d := ⟨g.1, g.2.1, g.2.2.1, g.2.2.2.1, g.2.2.2.2.1, g.2.2.2.2.2.1.mt, g.2.2.2.2.2.1.ok, g.2.2.2.2.2.2.1⟩
theorem GK.up {L L' : List SR} {cnt cnt' : Nat} {h : Option SR} {σ n μ μ' : St} (g : GK L cnt h σ n μ) (hL : ∀ S, XT L h S → XT L' h S) (hR : ∀ S, RS μ cnt S → RS μ' cnt' S) (h7 : ∀ k, k ≤ 7 → μ' k = μ k) (hN : ∀ k, 31 ≤ k → k ≤ 40 → μ' k = μ k) : GK L' cnt' h σ n μ' := by
  obtain ⟨C, H, d, S, P, a1, a2, a3, a4, a5, a6, a7, a8, a9, a10⟩ := g
  exact ⟨C, H, d, S, P, a1, a2, a3, a4.other h7, hL S a5, hR S a6, a7, a8, a9.mono hN, a10⟩
/-- where the image keeps what -/
def im (k : Nat) : Nat := if k = 0 then 43 else if k = 1 then 44 else if k = 2 then 45 else if k = 3 then 49 else if k = 4 then 50 else if k = 5 then 51 else if k = 6 then 52 else if k = 7 then 53 else if k = 9 then 42 else if k = 31 then 46 else if k = 35 then 47 else if k = 36 then 48 else if k = 32 then 54 else if k = 34 then 60 else if k = 33 then 55 else if k = 37 then 56 else if k = 38 then 57 else if k = 39 then 58 else if k = 40 then 59 else k
theorem imgV_im (μ : St) (k : Nat) (hk : k ≤ 40) : imgV μ k = μ (im k) := by
  have key : ∀ j : Nat, j < 41 → imgV μ j = μ (im j) := by
    intro j hj
    iterate 41 (first | (rcases j with _ | j; · rfl) | skip)
    omega
  exact key k (by omega)
theorem im_in : ∀ k : Nat, k < 41 → (k ≤ 7 ∨ k = 9 ∨ 31 ≤ k) → 41 ≤ im k ∧ im k ≤ 60 := by decide
theorem im_id : ∀ k : Nat, k < 20 → 14 ≤ k → im k = k := by decide
theorem img_same {μ μ' : St} (h : ∀ k, (14 ≤ k ∧ k ≤ 19) ∨ (41 ≤ k ∧ k ≤ 60) → μ' k = μ k) {k : Nat} (hk : k ≤ 7 ∨ k = 9 ∨ (14 ≤ k ∧ k ≤ 19) ∨ (31 ≤ k ∧ k ≤ 40)) : imgV μ' k = imgV μ k := by
  rw [imgV_im μ' k (by omega), imgV_im μ k (by omega)]
  by_cases h1 : 14 ≤ k ∧ k ≤ 19
  · rw [im_id k (by omega) h1.1]; exact h k (Or.inl h1)
  · exact h _ (Or.inr (im_in k (by omega) (by omega)))
/-- what no call but few writes -/
def frZ (μ μ' : St) : Prop := ∀ k, (k = 8 ∨ k = 10 ∨ k = 13 ∨ (14 ≤ k ∧ k ≤ 19) ∨ k = 24 ∨ 41 ≤ k) → μ' k = μ k
theorem scr_z {k : Nat} (h : k = 8 ∨ k = 10 ∨ k = 13 ∨ (14 ≤ k ∧ k ≤ 19) ∨ k = 24 ∨ 41 ≤ k) : scr k = false := by
  by_cases h41 : 41 ≤ k
  · cases hs : scr k
    · rfl
    · have hm : k ∈ [0, 1, 2, 3, 4, 5, 6, 7, 25, 26, 27, 28, 29, 30] := List.elem_iff.mp hs
      simp only [List.mem_cons, List.not_mem_nil, or_false] at hm
      omega
  · rcases (show k = 8 ∨ k = 10 ∨ k = 13 ∨ k = 14 ∨ k = 15 ∨ k = 16 ∨ k = 17 ∨ k = 18 ∨ k = 19 ∨ k = 24 by omega) with rfl | rfl | rfl | rfl | rfl | rfl | rfl | rfl | rfl | rfl <;> rfl
theorem frR.z {μ μ' : St} (h : frR μ μ') : frZ μ μ' := fun k hk => h k (scr_z hk)
theorem frN.z {μ μ' : St} (h : frN μ μ') : frZ μ μ' := fun k hk => h k (by omega)
/-- the rest: how many streets, the text, the acts, the tapes, what is kept -/
def RE (L : List SR) (cnt : Nat) (s0 s4 : St) (h4 : Option SR) (s5 s6 s8 s9 : St) (t9 : Lt) (μ : St) (τ : Lt) : Prop :=
  (cnt ≤ 6 ∧ s0 7 0 = nI cnt ∧ μ 8 0 = nI cnt) ∧ (∃ T, TX s6 T ∧ TXm μ T ∧ TxOk T) ∧ LET μ ∧ (∃ bl, XA s8 bl ∧ MA μ bl ∧ bl.length ≤ 20) ∧ TPR s9 t9 μ τ ∧ ∃ kept : Bool, s0 5 0 = b2i kept ∧ μ 41 0 = b2i kept ∧ (kept = true → GK L cnt h4 s4 s5 (imgV μ))
/-- all that holds between two calls -/
def Inv (L : List SR) (s0 s1 : St) (h1 : Option SR) (s3 s4 : St) (h4 : Option SR) (s5 s6 s8 s9 : St) (t9 : Lt) (μ : St) (τ : Lt) : Prop := ∃ cnt : Nat, GK L cnt h1 s1 s3 μ ∧ RE L cnt s0 s4 h4 s5 s6 s8 s9 t9 μ τ
theorem TXm.sm {μ μ' : St} {T : List Nat} (h : TXm μ T) (h10 : μ' 10 = μ 10) (h13 : μ' 13 = μ 13) : TXm μ' T := by
  unfold TXm at h ⊢
  rw [h10, h13]; exact h
theorem TPR.sm {s : St} {t9 τ : Lt} {μ μ' : St} (h : TPR s t9 μ τ) (h63 : μ' 63 = μ 63) (h64 : μ' 64 = μ 64) : TPR s t9 μ' τ := by
  unfold TPR at h ⊢
  rw [h63, h64]; exact h
theorem MA.sm {μ μ' : St} {bl : List Int32} (h : MA μ bl) (h61 : μ' 61 = μ 61) (h62 : μ' 62 = μ 62) : MA μ' bl := by
  unfold MA at h ⊢
  rw [h61, h62]; exact h
theorem kept_sm {L : List SR} {cnt : Nat} {h : Option SR} {σ n μ μ' : St} (g : GK L cnt h σ n (imgV μ)) (hz : ∀ k, (14 ≤ k ∧ k ≤ 19) ∨ (41 ≤ k ∧ k ≤ 60) → μ' k = μ k) : GK L cnt h σ n (imgV μ') :=
  g.up (fun _ a => a) (fun _ a => a.same (fun k hk => img_same hz (by omega))) (fun k hk => img_same hz (by omega)) (fun k a b => img_same hz (by omega))
theorem RE.z {L : List SR} {cnt : Nat} {s0 s4 : St} {h4 : Option SR} {s5 s6 s8 s9 : St} {t9 : Lt} {μ μ' : St} {τ : Lt} (h : RE L cnt s0 s4 h4 s5 s6 s8 s9 t9 μ τ) (hz : frZ μ μ') : RE L cnt s0 s4 h4 s5 s6 s8 s9 t9 μ' τ := by
  obtain ⟨⟨a1, a2, a3⟩, ⟨T, b1, b2, b3⟩, c1, ⟨bl, d1, d2, d3⟩, e1, kept, f1, f2, f3⟩ := h
  exact ⟨⟨a1, a2, by rw [hz 8 (by omega)]; exact a3⟩, ⟨T, b1, b2.sm (hz 10 (by omega)) (hz 13 (by omega)), b3⟩, fun i hi => by rw [hz 24 (by omega)]; exact c1 i hi, ⟨bl, d1, d2.sm (hz 61 (by omega)) (hz 62 (by omega)), d3⟩, e1.sm (hz 63 (by omega)) (hz 64 (by omega)), kept, f1, by rw [hz 41 (by omega)]; exact f2, fun hk => kept_sm (f3 hk) (fun k hk => hz k (by omega))⟩
section
variable {N : Nat} {L : List SR} {h1 h2 h4 : Option SR} {s0 s1 s2 s3 s4 s5 s6 s7 s8 s9 μ : St} {t9 τ : Lt}
/-- asked: nothing stays changed -/
theorem Inv.asked {α β : Type} {o : Option (α × β)} {r : Option (α × St)} (hI : Inv L s0 s1 h1 s3 s4 h4 s5 s6 s8 s9 t9 μ τ) (hA : ∀ C H d S P cnt, GP L cnt h1 s1 s3 μ C H d S P → Asked μ C H d o r) : ∃ a z μ', o = some (a, z) ∧ r = some (a, μ') ∧ Inv L s0 s1 h1 s3 s4 h4 s5 s6 s8 s9 t9 μ' τ := by
  obtain ⟨cnt, ⟨C, H, d, S, P, g⟩, hr⟩ := hI
  obtain ⟨a, ⟨z, ez⟩, μ', er, hf, hM⟩ := hA C H d S P cnt g
  obtain ⟨a1, a2, a3, a4, a5, a6, a7, a8, a9, a10⟩ := g
  exact ⟨a, z, μ', ez, er, cnt, ⟨C, H, d, S, P, a1, a2, a3, hM, a5, a6.same (fun k hk => hf k (scr_st hk)), a7, a8, frR.mn a9 hf, a10⟩, hr.z hf.z⟩
/-- told: the scene's pile alone is written -/
theorem Inv.noted {α : Type} {o r : Option (α × St)} (hI : Inv L s0 s1 h1 s3 s4 h4 s5 s6 s8 s9 t9 μ τ) (hA : ∀ C H d S P cnt, GP L cnt h1 s1 s3 μ C H d S P → Noted s1 μ C H d o r) : ∃ a s1' μ', o = some (a, s1') ∧ r = some (a, μ') ∧ Inv L s0 s1' h1 s3 s4 h4 s5 s6 s8 s9 t9 μ' τ := by
  obtain ⟨cnt, ⟨C, H, d, S, P, g⟩, hr⟩ := hI
  obtain ⟨a, ⟨z, ez⟩, μ', er, hf, hM⟩ := hA C H d S P cnt g
  obtain ⟨a1, a2, a3, a4, a5, a6, a7, a8, a9, a10⟩ := g
  exact ⟨a, _, μ', ez, er, cnt, ⟨C, H, d, S, P, a1, a2, a3.t10 z, hM, a5, a6.same (fun k hk => hf k (scr_st hk)), a7, a8, frR.mn a9 hf, a10⟩, hr.z hf.z⟩
/-- moved: another game -/
theorem WfN.up {T T' : Nat} {P : Nt} (h : WfN T P) (hT : T ≤ T') : WfN T' P := by
  obtain ⟨w1, w2, w3, w4, w5, w6⟩ := h
  exact ⟨w1, fun e he => ⟨by have := (w2 e he).1; omega, (w2 e he).2⟩, w3, fun e he => ⟨(w4 e he).1, fun z => by have := (w4 e he).2 z; omega⟩, w5, fun e he => ⟨by have := (w6 e he).1; omega, (w6 e he).2⟩⟩
theorem Inv.moved {o r : Option (Int32 × St)} (hI : Inv L s0 s1 h1 s3 s4 h4 s5 s6 s8 s9 t9 μ τ) (hA : ∀ C H d S P cnt, GP L cnt h1 s1 s3 μ C H d S P → Moved L h1 μ C S o r) : ∃ a s1' μ', o = some (a, s1') ∧ r = some (a, μ') ∧ Inv L s0 s1' h1 s3 s4 h4 s5 s6 s8 s9 t9 μ' τ := by
  obtain ⟨cnt, ⟨C, H, d, S, P, g⟩, hr⟩ := hI
  obtain ⟨a, σ', μ', C', H', d', ez, er, hg, hT, hf⟩ := hA C H d S P cnt g
  obtain ⟨a1, a2, a3, a4, a5, a6, a7, a8, a9, a10⟩ := g
  obtain ⟨b1, b2, b3, b4, b5, b6, b7, b8⟩ := hg
  exact ⟨a, σ', μ', ez, er, cnt, ⟨C', H', d', S, P, b1, b2, b3, b4, a5, a6.same (fun k hk => hf k (scr_st hk)), b8, a8, frR.mn a9 hf, a10.up hT⟩, hr.z hf.z⟩
/-- told by hand: other notes -/
theorem Inv.told {o r : Option (Int32 × St)} (hI : Inv L s0 s1 h1 s3 s4 h4 s5 s6 s8 s9 t9 μ τ) (hA : ∀ C H d S P cnt, GP L cnt h1 s1 s3 μ C H d S P → Told μ (cT C) o r) : ∃ a s3' μ', o = some (a, s3') ∧ r = some (a, μ') ∧ Inv L s0 s1 h1 s3' s4 h4 s5 s6 s8 s9 t9 μ' τ := by
  obtain ⟨cnt, ⟨C, H, d, S, P, g⟩, hr⟩ := hI
  obtain ⟨a, s', μ', P', ez, er, hx, hm, hw, hf⟩ := hA C H d S P cnt g
  obtain ⟨a1, a2, a3, a4, a5, a6, a7, a8, a9, a10⟩ := g
  exact ⟨a, s', μ', ez, er, cnt, ⟨C, H, d, S, P', a1, a2, a3, a4.other (fun k hk => hf k (by omega)), a5, a6.same (fun k hk => hf k (by omega)), a7, hx, hm, hw⟩, hr.z hf.z⟩
/-- both the same, nothing written -/
theorem Inv.both {α : Type} {o r : Option α} (hI : Inv L s0 s1 h1 s3 s4 h4 s5 s6 s8 s9 t9 μ τ) (hA : ∀ C H d S P cnt, GP L cnt h1 s1 s3 μ C H d S P → RE L cnt s0 s4 h4 s5 s6 s8 s9 t9 μ τ → ∃ a, o = some a ∧ r = some a) : ∃ a, o = some a ∧ r = some a := by
  obtain ⟨cnt, ⟨C, H, d, S, P, g⟩, hr⟩ := hI
  exact hA C H d S P cnt g hr
end
