/-! ===== pure layer N: what is told by hand: seen, week, book ===== -/
abbrev Nt : Type := List (Nat × Bool × Nat) × List (Nat × Nat) × List (Nat × Nat)
def XN (s : St) (P : Nt) : Prop :=
  s 3 0 = nI P.1.length ∧ (∀ (i : Nat) (e : Nat × Bool × Nat), P.1[i]? = some e → s 0 i = nI e.1 ∧ s 1 i = b2i e.2.1 ∧ s 2 i = nI e.2.2) ∧
  s 6 0 = nI P.2.1.length ∧ (∀ (i : Nat) (e : Nat × Nat), P.2.1[i]? = some e → s 4 i = nI e.1 ∧ (e.1 = 2 → s 5 i = nI e.2)) ∧
  s 9 0 = nI P.2.2.length ∧ ∀ (i : Nat) (e : Nat × Nat), P.2.2[i]? = some e → s 7 i = nI e.1 ∧ s 8 i = nI e.2
def MN (μ : St) (P : Nt) : Prop :=
  μ 31 0 = nI P.1.length ∧ (∀ (i : Nat) (e : Nat × Bool × Nat), P.1[i]? = some e → μ 32 i = nI e.1 ∧ μ 34 i = b2i e.2.1 ∧ μ 33 i = nI e.2.2) ∧
  μ 35 0 = nI P.2.1.length ∧ (∀ (i : Nat) (e : Nat × Nat), P.2.1[i]? = some e → μ 37 i = nI e.1 ∧ (e.1 = 2 → μ 38 i = nI e.2)) ∧
  μ 36 0 = nI P.2.2.length ∧ ∀ (i : Nat) (e : Nat × Nat), P.2.2[i]? = some e → μ 39 i = nI e.1 ∧ μ 40 i = nI e.2
def WfN (T : Nat) (P : Nt) : Prop :=
  P.1.length ≤ 5 ∧ (∀ e ∈ P.1, e.1 < T ∧ e.2.2 ≤ 20) ∧ P.2.1.length ≤ 10 ∧ (∀ e ∈ P.2.1, e.1 ≤ 2 ∧ (e.1 = 2 → e.2 < T)) ∧ P.2.2.length ≤ 8 ∧ ∀ e ∈ P.2.2, e.1 < T ∧ e.2 ≤ 255
def frN (μ μ' : St) : Prop := ∀ k, (k < 31 ∨ 40 < k) → μ' k = μ k
theorem MN.mono {μ μ' : St} {P : Nt} (h : MN μ P) (hf : ∀ k, 31 ≤ k → k ≤ 40 → μ' k = μ k) : MN μ' P := by
  unfold MN at h ⊢
  rw [hf 31 (by omega) (by omega), hf 32 (by omega) (by omega), hf 33 (by omega) (by omega), hf 34 (by omega) (by omega), hf 35 (by omega) (by omega), hf 36 (by omega) (by omega), hf 37 (by omega) (by omega), hf 38 (by omega) (by omega), hf 39 (by omega) (by omega), hf 40 (by omega) (by omega)]
  exact h
theorem scr_n {k : Nat} (h1 : 31 ≤ k) (h2 : k ≤ 40) : scr k = false := by
  rcases (show k = 31 ∨ k = 32 ∨ k = 33 ∨ k = 34 ∨ k = 35 ∨ k = 36 ∨ k = 37 ∨ k = 38 ∨ k = 39 ∨ k = 40 by omega) with rfl | rfl | rfl | rfl | rfl | rfl | rfl | rfl | rfl | rfl <;> rfl
theorem frR.mn {μ μ' : St} {P : Nt} (h : MN μ P) (hf : frR μ μ') : MN μ' P := h.mono (fun k h1 h2 => hf k (scr_n h1 h2))
theorem ga {α : Type} {l : List α} {a e : α} {i : Nat} (h : (l ++ [a])[i]? = some e) : (i < l.length ∧ l[i]? = some e) ∨ (i = l.length ∧ e = a) := by
  by_cases hi : i < l.length
  · rw [List.getElem?_append_left hi] at h; exact Or.inl ⟨hi, h⟩
  · rw [List.getElem?_append_right (by omega)] at h
    have : i - l.length < 1 := (List.getElem?_eq_some_iff.mp h).1
    have e : i = l.length := by omega
    rw [e, Nat.sub_self] at h
    exact Or.inr ⟨e, (Option.some.inj h).symm⟩
theorem nar_b2 (b : Bool) : vp_nar .boolean (b2i b) = b2i b := by cases b <;> rfl
theorem mem_app {α : Type} {l : List α} {a : α} {p : α → Prop} (h : ∀ e ∈ l, p e) (ha : p a) : ∀ e ∈ l ++ [a], p e := fun e he => (List.mem_append.mp he).elim (h e) (fun z => by rw [List.mem_singleton] at z; rw [z]; exact ha)
section
variable {N : Nat} {L : List SR} {h h2 : Option SR} {σ σ2 μ s : St} {C : Cr} {S : Sn} {H : List Nat} {d : Nat} {P : Nt}
theorem x_addSeen (hN : XN s P) (hl : P.1.length < 5) (t n : Nat) (b : Bool) : ∃ s', f_X1_addSeen N s (nI t) (b2i b) (nI n) = some (nI (P.1.length + 1), s') ∧ XN s' (P.1 ++ [(t, b, n)], P.2) := by
  obtain ⟨a0, a1, a2, a3, a4, a5⟩ := hN
  have hbb : ∀ X : Int32 → Option (Int32 × St), (if b2i b = 0 then X 0 else X 1) = X (b2i b) := by intro X; cases b <;> rfl
  unfold f_X1_addSeen
  rw [a0, if_neg (show ¬ (5 : Int32) ≤ nI P.1.length from nI_ge (b := 5) (by omega) (by omega)), ck_n (by omega) (by omega), nm_d, hbb (fun y => j_X1_addSeen_35 N (sA s 0 (upd (s 0) (nI P.1.length).toNatClampNeg (nI t))) (nI n) y (sA s 0 (upd (s 0) (nI P.1.length).toNatClampNeg (nI t)) 3 0))]
  unfold j_X1_addSeen_35
  simp (disch := omega) only [nm_d, sA_n, sI_n, sI_s, sA_s, a0, ck_n, nI_clamp, nI_1]
  refine ⟨_, rfl, by simp [sI_s], fun i e he => ?_, by simp (disch := omega) only [sA_n, sI_n, a2], fun i e he => by simp (disch := omega) only [sA_n, sI_n]; exact a3 i e he, by simp (disch := omega) only [sA_n, sI_n, a4], fun i e he => by simp (disch := omega) only [sA_n, sI_n]; exact a5 i e he⟩
  simp (disch := omega) only [sA_n, sI_n, sA_s]
  rcases ga he with ⟨hi, z⟩ | ⟨hi, z⟩
  · rw [upd_n (by omega), upd_n (by omega), upd_n (by omega)]; exact a1 i e z
  · subst hi; subst z; rw [upd_s, upd_s, upd_s]; exact ⟨rfl, rfl, rfl⟩
/-- a row that is told by hand comes, or none does -/
def Told (μ : St) (T : Nat) (o r : Option (Int32 × St)) : Prop := ∃ a s' μ' P', o = some (a, s') ∧ r = some (a, μ') ∧ XN s' P' ∧ MN μ' P' ∧ WfN T P' ∧ frN μ μ'
theorem op_see (hG : GI L h σ μ C S H d) (hx : XN s P) (hm : MN μ P) (hw : WfN (cT C) P) (p1 : Int32) (b : Bool) (p3 : Int32) : Told μ (cT C) (f_X7_see N σ s p1 (b2i b) p3) (f_X8_see N μ p1 (b2i b) p3) := by
  obtain ⟨hC, hH, hX, hM, hS, hR, hO, hd⟩ := hG
  have hT := hC.1
  unfold f_X7_see f_X8_see
  by_cases q1 : p1 = -1
  · rw [if_pos q1, if_pos q1, nm_d, nm_d]
    refine ⟨0, _, _, ([], P.2), rfl, rfl, ?_, ?_, ⟨by simp, fun e he => by simp at he, hw.2.2⟩, fun k hk => sI_n _ _ (by omega)⟩
    · obtain ⟨a0, a1, a2, a3, a4, a5⟩ := hx
      exact ⟨by rw [sI_s]; rfl, fun i e he => by simp at he, by rw [sI_n _ _ (by decide)]; exact a2, fun i e he => by rw [sI_n _ _ (by decide), sI_n _ _ (by decide)]; exact a3 i e he, by rw [sI_n _ _ (by decide)]; exact a4, fun i e he => by rw [sI_n _ _ (by decide), sI_n _ _ (by decide)]; exact a5 i e he⟩
    · obtain ⟨a0, a1, a2, a3, a4, a5⟩ := hm
      exact ⟨by rw [sI_s]; rfl, fun i e he => by simp at he, by rw [sI_n _ _ (by decide)]; exact a2, fun i e he => by rw [sI_n _ _ (by decide), sI_n _ _ (by decide)]; exact a3 i e he, by rw [sI_n _ _ (by decide)]; exact a4, fun i e he => by rw [sI_n _ _ (by decide), sI_n _ _ (by decide)]; exact a5 i e he⟩
  rw [if_neg q1, if_neg q1]
  rcases two_things (N := N) hC hX hM p1 with ⟨a, b'⟩ | ⟨a, b', t, ht, rfl⟩
  · rw [a, b', cl_s, cl_s, i0, i0]; exact ⟨_, _, _, P, rfl, rfl, hx, hm, hw, fun _ _ => rfl⟩
  rw [a, b', cl_s, cl_s, i1, i1, f_within, cl_s, f_in, cl_s]
  cases hwn : wn p3 0 20
  · rw [i0, i0]; exact ⟨_, _, _, P, rfl, rfl, hx, hm, hw, fun _ _ => rfl⟩
  obtain ⟨n, hn, rfl⟩ := wn_nat (n := 20) (by omega) hwn
  rw [i1, i1, hx.1, hm.1]
  have h5 := hw.1
  by_cases hl : P.1.length = 5
  · rw [hl, if_neg (show ¬ nI 5 < 5 from by decide), if_pos (show nI 5 = 5 from rfl)]
    exact ⟨_, _, _, P, rfl, rfl, hx, hm, hw, fun _ _ => rfl⟩
  · obtain ⟨s', e', x'⟩ := x_addSeen (N := N) hx (by omega) t n b
    rw [if_pos (show nI P.1.length < 5 from nI_lt (b := 5) (by omega) (by omega)), if_neg (show ¬ nI P.1.length = 5 from fun z => hl ((nI_eq (b := 5) (by omega) (by omega)).mp z)), e', cl_s, ck_n (by omega) (by omega), nm_d, nar_b2]
    simp (disch := omega) only [nm_d, sA_n, sI_n, sI_s, sA_s, hm.1, ck_n, nI_clamp, nI_1]
    refine ⟨_, s', _, (P.1 ++ [(t, b, n)], P.2), rfl, rfl, x', ?_, ⟨by simp; omega, mem_app hw.2.1 ⟨ht, hn⟩, hw.2.2⟩, fun k hk => by simp (disch := omega) only [sA_n, sI_n]⟩
    obtain ⟨a0, a1, a2, a3, a4, a5⟩ := hm
    refine ⟨by simp [sI_s], fun i e he => ?_, by simp (disch := omega) only [sA_n, sI_n, a2], fun i e he => by simp (disch := omega) only [sA_n, sI_n]; exact a3 i e he, by simp (disch := omega) only [sA_n, sI_n, a4], fun i e he => by simp (disch := omega) only [sA_n, sI_n]; exact a5 i e he⟩
    simp (disch := omega) only [sA_n, sI_n, sA_s]
    rcases ga he with ⟨hi, z⟩ | ⟨hi, z⟩
    · rw [upd_n (by omega), upd_n (by omega), upd_n (by omega)]; exact a1 i e z
    · subst hi; subst z; rw [upd_s, upd_s, upd_s]; exact ⟨rfl, rfl, rfl⟩
theorem op_book (hG : GI L h σ μ C S H d) (hx : XN s P) (hm : MN μ P) (hw : WfN (cT C) P) (p1 p2 : Int32) : Told μ (cT C) (f_X7_book N σ s p1 p2) (f_X8_book N μ p1 p2) := by
  obtain ⟨hC, hH, hX, hM, hS, hR, hO, hd⟩ := hG
  have hT := hC.1
  unfold f_X7_book f_X8_book
  by_cases q1 : p1 = -1
  · rw [if_pos q1, if_pos q1, nm_d, nm_d]
    refine ⟨0, _, _, (P.1, P.2.1, []), rfl, rfl, ?_, ?_, ⟨hw.1, hw.2.1, hw.2.2.1, hw.2.2.2.1, by simp, fun e he => by simp at he⟩, fun k hk => sI_n _ _ (by omega)⟩
    · obtain ⟨a0, a1, a2, a3, a4, a5⟩ := hx
      exact ⟨by rw [sI_n _ _ (by decide)]; exact a0, fun i e he => by rw [sI_n _ _ (by decide), sI_n _ _ (by decide), sI_n _ _ (by decide)]; exact a1 i e he, by rw [sI_n _ _ (by decide)]; exact a2, fun i e he => by rw [sI_n _ _ (by decide), sI_n _ _ (by decide)]; exact a3 i e he, by rw [sI_s]; rfl, fun i e he => by simp at he⟩
    · obtain ⟨a0, a1, a2, a3, a4, a5⟩ := hm
      exact ⟨by rw [sI_n _ _ (by decide)]; exact a0, fun i e he => by rw [sI_n _ _ (by decide), sI_n _ _ (by decide), sI_n _ _ (by decide)]; exact a1 i e he, by rw [sI_n _ _ (by decide)]; exact a2, fun i e he => by rw [sI_n _ _ (by decide), sI_n _ _ (by decide)]; exact a3 i e he, by rw [sI_s]; rfl, fun i e he => by simp at he⟩
  rw [if_neg q1, if_neg q1]
  rcases two_things (N := N) hC hX hM p1 with ⟨a, b'⟩ | ⟨a, b', t, ht, rfl⟩
  · rw [a, b', cl_s, cl_s, i0, i0]; exact ⟨_, _, _, P, rfl, rfl, hx, hm, hw, fun _ _ => rfl⟩
  rw [a, b', cl_s, cl_s, i1, i1, f_within, cl_s, f_isMarks, cl_s]
  cases hwn : wn p2 0 255
  · rw [i0, i0]; exact ⟨_, _, _, P, rfl, rfl, hx, hm, hw, fun _ _ => rfl⟩
  obtain ⟨n, hn, rfl⟩ := wn_nat (n := 255) (by omega) hwn
  obtain ⟨hw1, hw2, hw3, hw4, hw5, hw6⟩ := hw
  rw [i1, i1, hx.2.2.2.2.1, hm.2.2.2.2.1]
  by_cases hl : P.2.2.length = 8
  · rw [hl, if_neg (show ¬ nI 8 < 8 from by decide), if_pos (show nI 8 = 8 from rfl)]
    exact ⟨_, _, _, P, rfl, rfl, hx, hm, ⟨hw1, hw2, hw3, hw4, hw5, hw6⟩, fun _ _ => rfl⟩
  · obtain ⟨a0, a1, a2, a3, a4, a5⟩ := hx
    obtain ⟨b0, b1, b2, b3, b4, b5⟩ := hm
    rw [if_pos (show nI P.2.2.length < 8 from nI_lt (b := 8) (by omega) (by omega)), if_neg (show ¬ nI P.2.2.length = 8 from fun z => hl ((nI_eq (b := 8) (by omega) (by omega)).mp z))]
    unfold f_X1_addToBook
    rw [a4, if_neg (show ¬ (8 : Int32) ≤ nI P.2.2.length from nI_ge (b := 8) (by omega) (by omega))]
    simp (disch := omega) only [nm_d, sA_n, sI_n, sI_s, sA_s, a4, b4, ck_n, nI_clamp, nI_1, cl_s]
    refine ⟨_, _, _, (P.1, P.2.1, P.2.2 ++ [(t, n)]), rfl, rfl, ?_, ?_, ⟨hw1, hw2, hw3, hw4, by simp; omega, mem_app hw6 ⟨ht, hn⟩⟩, fun k hk => by simp (disch := omega) only [sA_n, sI_n]⟩
    · refine ⟨by simp (disch := omega) only [sA_n, sI_n, a0], fun i e he => by simp (disch := omega) only [sA_n, sI_n]; exact a1 i e he, by simp (disch := omega) only [sA_n, sI_n, a2], fun i e he => by simp (disch := omega) only [sA_n, sI_n]; exact a3 i e he, by simp [sI_s], fun i e he => ?_⟩
      simp (disch := omega) only [sA_n, sI_n, sA_s]
      rcases ga he with ⟨hi, z⟩ | ⟨hi, z⟩
      · rw [upd_n (by omega), upd_n (by omega)]; exact a5 i e z
      · subst hi; subst z; rw [upd_s, upd_s]; exact ⟨rfl, rfl⟩
    · refine ⟨by simp (disch := omega) only [sA_n, sI_n, b0], fun i e he => by simp (disch := omega) only [sA_n, sI_n]; exact b1 i e he, by simp (disch := omega) only [sA_n, sI_n, b2], fun i e he => by simp (disch := omega) only [sA_n, sI_n]; exact b3 i e he, by simp [sI_s], fun i e he => ?_⟩
      simp (disch := omega) only [sA_n, sI_n, sA_s]
      rcases ga he with ⟨hi, z⟩ | ⟨hi, z⟩
      · rw [upd_n (by omega), upd_n (by omega)]; exact b5 i e z
      · subst hi; subst z; rw [upd_s, upd_s]; exact ⟨rfl, rfl⟩
/-- one more row of the week, on both sides -/
theorem week_add (hx : XN s P) (hm : MN μ P) (hw : WfN (cT C) P) (hl : ¬ P.2.1.length = 10) (w : Nat) (hw2 : w ≤ 2) (p2 : Int32) (t : Nat) (hwt : w = 2 → p2 = nI t ∧ t < cT C) : Told μ (cT C) (cl (f_X1_addToWeek N s (nI w) p2) (fun q65 => some (q65.1, q65.2))) (j_X8_week_37 N μ (nI w) p2) := by
  obtain ⟨hw1, hw2', hw3, hw4, hw5, hw6⟩ := hw
  obtain ⟨a0, a1, a2, a3, a4, a5⟩ := hx
  obtain ⟨b0, b1, b2, b3, b4, b5⟩ := hm
  unfold f_X1_addToWeek j_X8_week_37
  rw [a2, b2, if_neg (show ¬ (10 : Int32) ≤ nI P.2.1.length from nI_ge (b := 10) (by omega) (by omega)), if_neg (show ¬ nI P.2.1.length = 10 from fun z => hl ((nI_eq (b := 10) (by omega) (by omega)).mp z))]
  have hif : ∀ X : Int32 → Option (Int32 × St), (if nI w = 2 then X p2 else X 0) = X (if w = 2 then p2 else 0) := by
    intro X
    by_cases h : w = 2
    · rw [if_pos h, if_pos (by rw [h]; rfl)]
    · rw [if_neg h, if_neg (show ¬ nI w = 2 from fun z => h ((nI_eq (b := 2) (by omega) (by omega)).mp z))]
  simp (disch := omega) only [nm_d, sA_n, sI_n, sI_s, sA_s, a2, b2, ck_n, nI_clamp, nI_1, cl_s]
  have e := hif (fun y => some (nI (P.2.1.length + 1), sI (sA (sA μ 37 (upd (μ 37) P.2.1.length (nI w))) 38 (upd (μ 38) P.2.1.length y)) 35 (nI (P.2.1.length + 1))))
  rw [e]
  refine ⟨_, _, _, (P.1, P.2.1 ++ [(w, t)], P.2.2), rfl, rfl, ?_, ?_, ⟨hw1, hw2', by simp; omega, mem_app hw4 ⟨hw2, fun z => (hwt z).2⟩, hw5, hw6⟩, fun k hk => by simp (disch := omega) only [sA_n, sI_n]⟩
  · refine ⟨by simp (disch := omega) only [sA_n, sI_n, a0], fun i e he => by simp (disch := omega) only [sA_n, sI_n]; exact a1 i e he, by simp [sI_s], fun i e he => ?_, by simp (disch := omega) only [sA_n, sI_n, a4], fun i e he => by simp (disch := omega) only [sA_n, sI_n]; exact a5 i e he⟩
    simp (disch := omega) only [sA_n, sI_n, sA_s]
    rcases ga he with ⟨hi, z⟩ | ⟨hi, z⟩
    · rw [upd_n (by omega), upd_n (by omega)]; exact a3 i e z
    · subst hi; subst z; rw [upd_s, upd_s]; exact ⟨rfl, fun z => (hwt z).1⟩
  · refine ⟨by simp (disch := omega) only [sA_n, sI_n, b0], fun i e he => by simp (disch := omega) only [sA_n, sI_n]; exact b1 i e he, by simp [sI_s], fun i e he => ?_, by simp (disch := omega) only [sA_n, sI_n, b4], fun i e he => by simp (disch := omega) only [sA_n, sI_n]; exact b5 i e he⟩
    simp (disch := omega) only [sA_n, sI_n, sA_s]
    rcases ga he with ⟨hi, z⟩ | ⟨hi, z⟩
    · rw [upd_n (by omega), upd_n (by omega)]; exact b3 i e z
    · subst hi; subst z; rw [upd_s, upd_s]; exact ⟨rfl, fun z => by rw [if_pos z]; exact (hwt z).1⟩
theorem op_week (hG : GI L h σ μ C S H d) (hx : XN s P) (hm : MN μ P) (hw : WfN (cT C) P) (p1 p2 : Int32) : Told μ (cT C) (f_X7_week N σ s p1 p2) (f_X8_week N μ p1 p2) := by
  obtain ⟨hC, hH, hX, hM, hS, hR, hO, hd⟩ := hG
  have hT := hC.1
  unfold f_X7_week f_X8_week
  by_cases q1 : p1 = -1
  · rw [if_pos q1, if_pos q1, nm_d, nm_d]
    refine ⟨0, _, _, (P.1, [], P.2.2), rfl, rfl, ?_, ?_, ⟨hw.1, hw.2.1, by simp, fun e he => by simp at he, hw.2.2.2.2⟩, fun k hk => sI_n _ _ (by omega)⟩
    · obtain ⟨a0, a1, a2, a3, a4, a5⟩ := hx
      exact ⟨by rw [sI_n _ _ (by decide)]; exact a0, fun i e he => by rw [sI_n _ _ (by decide), sI_n _ _ (by decide), sI_n _ _ (by decide)]; exact a1 i e he, by rw [sI_s]; rfl, fun i e he => by simp at he, by rw [sI_n _ _ (by decide)]; exact a4, fun i e he => by rw [sI_n _ _ (by decide), sI_n _ _ (by decide)]; exact a5 i e he⟩
    · obtain ⟨a0, a1, a2, a3, a4, a5⟩ := hm
      exact ⟨by rw [sI_n _ _ (by decide)]; exact a0, fun i e he => by rw [sI_n _ _ (by decide), sI_n _ _ (by decide), sI_n _ _ (by decide)]; exact a1 i e he, by rw [sI_s]; rfl, fun i e he => by simp at he, by rw [sI_n _ _ (by decide)]; exact a4, fun i e he => by rw [sI_n _ _ (by decide), sI_n _ _ (by decide)]; exact a5 i e he⟩
  rw [if_neg q1, if_neg q1, f_within, f_in, cl_s, cl_s]
  cases hwn : wn p1 0 2
  · rw [i0, i0]; exact ⟨_, _, _, P, rfl, rfl, hx, hm, hw, fun _ _ => rfl⟩
  obtain ⟨w, hw2, rfl⟩ := wn_nat (n := 2) (by omega) hwn
  rw [i1, i1]
  have full : ∀ (hl : P.2.1.length = 10) (p2 : Int32), Told μ (cT C) (if s 6 0 < 10 then cl (f_X1_addToWeek N s (nI w) p2) (fun q65 => some (q65.1, q65.2)) else some (-4, s)) (j_X8_week_37 N μ (nI w) p2) := by
    intro hl p2
    unfold j_X8_week_37
    rw [hx.2.2.1, hm.2.2.1, hl, if_neg (show ¬ nI 10 < 10 from by decide), if_pos (show nI 10 = 10 from rfl)]
    exact ⟨_, _, _, P, rfl, rfl, hx, hm, hw, fun _ _ => rfl⟩
  have room : ∀ (hl : ¬ P.2.1.length = 10), s 6 0 < 10 := fun hl => by rw [hx.2.2.1]; exact nI_lt (b := 10) (by have := hw.2.2.1; omega) (by omega)
  by_cases hw22 : w = 2
  · subst hw22
    rw [if_pos (show nI 2 = 2 from rfl), if_pos (show nI 2 = 2 from rfl)]
    rcases two_things (N := N) hC hX hM p2 with ⟨a, b'⟩ | ⟨a, b', t, ht, rfl⟩
    · rw [a, b', cl_s, cl_s, i0, i0]; exact ⟨_, _, _, P, rfl, rfl, hx, hm, hw, fun _ _ => rfl⟩
    rw [a, b', cl_s, cl_s, i1, i1]
    by_cases hl : P.2.1.length = 10
    · exact full hl _
    · rw [if_pos (room hl)]
      exact week_add (N := N) hx hm hw hl 2 (by omega) _ t (fun _ => ⟨rfl, ht⟩)
  · have hne : ¬ nI w = 2 := fun z => hw22 ((nI_eq (b := 2) (by omega) (by omega)).mp z)
    rw [if_neg hne, if_neg hne]
    by_cases hl : P.2.1.length = 10
    · exact full hl _
    · rw [if_pos (room hl)]
      exact week_add (N := N) hx hm hw hl w hw2 _ 0 (fun z => absurd z hw22)
/-- the first row of the book that is otherwise -/
def lk (C : Cr) : List (Nat × Nat) → Nat → Int32
  | [], _ => -5
  | e :: l, k => if cM C e.1 = e.2 then lk C l (k + 1) else nI k
theorem dropC {α : Type} {l : List α} {k : Nat} {e : α} (h : l[k]? = some e) : l.drop k = e :: l.drop (k + 1) := by
  rw [List.drop_eq_getElem_cons (List.getElem?_eq_some_iff.mp h).1]
  congr 1
  exact (List.getElem?_eq_some_iff.mp h).2
theorem idxG {α : Type} {l : List α} {i : Nat} (h : i < l.length) : ∃ e, l[i]? = some e ∧ e ∈ l := ⟨l[i], List.getElem?_eq_getElem h, List.getElem_mem h⟩
theorem op_looked (hN : 1000 ≤ N) (hG : GI L h σ μ C S H d) (hx : XN s P) (hm : MN μ P) (hw : WfN (cT C) P) : ∃ a, f_X7_looked N σ s = some a ∧ f_X8_looked N μ = some a := by
  obtain ⟨hC, hH, hX, hM, hS, hR, hO, hd⟩ := hG
  have hT := hC.1
  obtain ⟨a0, a1, a2, a3, a4, a5⟩ := hx
  obtain ⟨b0, b1, b2, b3, b4, b5⟩ := hm
  obtain ⟨hw1, hw2, hw3, hw4, hw5, hw6⟩ := hw
  have key : ∀ (j k n n' : Nat), k + j = P.2.2.length → j < n → j < n' → l_X1_firstOtherwise_2 N s σ n (nI k) = some (lk C (P.2.2.drop k) k) ∧ l_X8_looked_2 N μ n' (nI k) = some (lk C (P.2.2.drop k) k) := by
    intro j
    induction j with
    | zero =>
      intro k n n' hk hn hn'
      obtain ⟨n, rfl⟩ : ∃ m, n = m + 1 := ⟨n - 1, by omega⟩
      obtain ⟨n', rfl⟩ : ∃ m, n' = m + 1 := ⟨n' - 1, by omega⟩
      rw [l_X1_firstOtherwise_2, l_X8_looked_2, a4, b4, if_pos (nI_le (by omega) (by omega)), if_pos (nI_le (by omega) (by omega)), List.drop_eq_nil_of_le (by omega)]
      exact ⟨rfl, rfl⟩
    | succ j ih =>
      intro k n n' hk hn hn'
      obtain ⟨n, rfl⟩ : ∃ m, n = m + 1 := ⟨n - 1, by omega⟩
      obtain ⟨n', rfl⟩ : ∃ m, n' = m + 1 := ⟨n' - 1, by omega⟩
      obtain ⟨e, he, hme⟩ := idxG (l := P.2.2) (i := k) (by omega)
      have hwe := hw6 e hme
      have hmk := hC.2.2.2.1 e.1 hwe.1
      rw [l_X1_firstOtherwise_2, l_X8_looked_2, a4, b4, if_neg (nI_ge (by omega) (by omega)), if_neg (nI_ge (by omega) (by omega)), ck_n (by omega) (by omega), ck_n (by omega) (by omega), nm_d, nI_clamp (by omega), (a5 k e he).1, (a5 k e he).2, (b5 k e he).1, (b5 k e he).2]
      rcases x_hasThing (N := N) hC hX (nI e.1) with ⟨z1, z2⟩ | ⟨z1, z2⟩
      · exact absurd ⟨e.1, hwe.1, rfl⟩ z2
      rw [z1, cl_s, if_neg (by decide), ck_n (by omega) (by omega), ck_n (by omega) (by omega), ck_n (by omega) (by omega), ck_n (by omega) (by omega), nI_clamp (by omega), hX.2.2.2.1 e.1 hwe.1, hM.2.2.2.1 e.1 hwe.1, dropC he, lk]
      have ih2 := ih (k + 1) n n' (by omega) (by omega) (by omega)
      by_cases hq : cM C e.1 = e.2
      · rw [if_pos (by rw [hq]), if_pos hq, if_pos (by rw [hq]), nm_d, nm_d, nI_1]; exact ih2
      · have hq2 : ¬ nI (cM C e.1) = nI e.2 := fun z => hq ((nI_eq (by omega) (by omega)).mp z)
        rw [if_neg hq2, if_neg hq, if_neg hq2]; exact ⟨rfl, rfl⟩
  obtain ⟨e1, e2⟩ := key P.2.2.length 0 N N (by omega) (by omega) (by omega)
  unfold f_X7_looked f_X1_firstOtherwise f_X8_looked
  have e1' : l_X1_firstOtherwise_2 N s σ N 0 = some (lk C (P.2.2.drop 0) 0) := e1
  rw [e1', cl_s]
  exact ⟨_, rfl, e2⟩
end
