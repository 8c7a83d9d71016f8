/-! ===== pure layer Q: thing, mark, row, take, put, pass ===== -/
/-- one thing more -/
def addT (C : Cr) (k v m : Nat) : Cr := (cT C + 1, (fun i => if i = cT C then k else cK C i), (fun i => if i = cT C then v else cV C i), (fun i => if i = cT C then m else cM C i), (fun i => if i < 4 * cT C then cR C i else 0))
def setR (C : Cr) (a n : Nat) : Cr := (cT C, cK C, cV C, cM C, (fun i => if i = a then n else cR C i))
/-- the game goes on: the class's scene, the reference -/
def Moved (L : List SR) (h : Option SR) (μ : St) (C : Cr) (S : Sn) (o r : Option (Int32 × St)) : Prop := ∃ a σ' μ' C' H' d', o = some (a, σ') ∧ r = some (a, μ') ∧ GI L h σ' μ' C' S H' d' ∧ cT C ≤ cT C' ∧ frR μ μ'
section
variable {N : Nat} {L : List SR} {h h2 : Option SR} {σ σ2 μ s : St} {C : Cr} {S : Sn} {H : List Nat} {d : Nat} {P : Nt}
theorem Noted.moved {o r : Option (Int32 × St)} (hG : GI L h σ μ C S H d) (hn : Noted σ μ C H d o r) : Moved L h μ C S o r := by
  obtain ⟨hC, hH, hX, hM, hS, hR, hO, hd⟩ := hG
  obtain ⟨a, ⟨g, e⟩, μ', e2, hf, hm⟩ := hn
  exact ⟨a, _, μ', C, H, d, e, e2, ⟨hC, hH, hX.t10 g, hm, hS, frR.mt hR hf, hO, hd⟩, Nat.le_refl _, hf⟩
theorem Moved.same (hG : GI L h σ μ C S H d) (a : Int32) : Moved L h μ C S (some (a, σ)) (some (a, μ)) := ⟨a, σ, μ, C, H, d, rfl, rfl, hG, Nat.le_refl _, frR.rf μ⟩
theorem l_thing_rows (N : Nat) : ∀ (j i n : Nat) (μ : St) (T : Nat), i + j = 4 → j < n → T < 6 → μ 0 0 = nI T → (∀ x, 4 * T ≤ x → x < 4 * T + i → μ 6 x = 0) → ∃ f, l_X8_thing_80 N n μ (nI i) = some (nI T, sI (sA μ 6 f) 0 (nI (T + 1))) ∧ (∀ x, 4 * T ≤ x → x < 4 * T + 4 → f x = 0) ∧ ∀ x, x < 4 * T → f x = μ 6 x := by
  intro j
  induction j with
  | zero =>
    intro i n μ T hi hn hT h0 hz
    obtain ⟨n, rfl⟩ : ∃ m, n = m + 1 := ⟨n - 1, by omega⟩
    obtain rfl : i = 4 := by omega
    refine ⟨μ 6, ?_, hz, fun x hx => rfl⟩
    have same : sA μ 6 (μ 6) = μ := by
      funext x
      by_cases hx : x = 6
      · subst hx; rw [sA_s]
      · rw [sA_n _ _ hx]
    rw [l_X8_thing_80, if_pos (show (4 : Int32) ≤ nI 4 from by decide), nm_d, h0, nI_1, sI_s, nI_pred, same]
  | succ j ih =>
    intro i n μ T hi hn hT h0 hz
    obtain ⟨n, rfl⟩ : ∃ m, n = m + 1 := ⟨n - 1, by omega⟩
    have e4 : 4 * nI T + nI i = nI (4 * T + i) := by rw [show (4 : Int32) = nI 4 from rfl, pk_mul, nI_add]
    obtain ⟨f, e, h1, h2⟩ := ih (i + 1) n (sA μ 6 (upd (μ 6) (4 * T + i) 0)) T (by omega) (by omega) hT (by rw [sA_n _ _ (by decide)]; exact h0) (fun x hx hx2 => by
      rw [sA_s]
      by_cases hxi : x = 4 * T + i
      · rw [hxi, upd_s]
      · rw [upd_n hxi]; exact hz x hx (by omega))
    refine ⟨f, ?_, h1, fun x hx => by rw [h2 x hx, sA_s, upd_n (by omega)]⟩
    rw [l_X8_thing_80, if_neg (show ¬ (4 : Int32) ≤ nI i from nI_ge (b := 4) (by omega) (by omega)), h0, e4, ck_n (by omega) (by omega), nm_d, nm_d, nI_1, nI_clamp (by omega), e]
    congr 2
    funext x
    by_cases hx : x = 0
    · subst hx; rfl
    · rw [sI_n _ _ hx, sI_n _ _ hx]
      by_cases hx6 : x = 6
      · subst hx6; rw [sA_s, sA_s]
      · rw [sA_n _ _ hx6, sA_n _ _ hx6, sA_n _ _ hx6]
theorem MT.other {μ' : St} (h : MT μ S) (hf : ∀ k, 8 ≤ k → μ' k = μ k) : MT μ' S := h.mono (fun k hk => hf k (by omega))
theorem op_thing (hN : 1000 ≤ N) (hG : GI L h σ μ C S H d) (p1 p2 p3 : Int32) : Moved L h μ C S (f_X7_thing N σ p1 p2 p3) (f_X8_thing N μ p1 p2 p3) := by
  have hG0 := hG
  obtain ⟨hC, hH, hX, hM, hS, hR, hO, hd⟩ := hG
  have hT := hC.1
  unfold f_X7_thing f_X8_thing
  rw [f_within, f_in, cl_s, cl_s]
  cases hw1 : wn p1 0 6
  · rw [i0, i0]; exact Moved.same hG0 _
  rw [i1, i1, f_within, f_in, cl_s, cl_s]
  cases hw2 : wn p2 0 9
  · rw [i0, i0]; exact Moved.same hG0 _
  rw [i1, i1, f_within, f_isMarks, cl_s, cl_s]
  cases hw3 : wn p3 0 255
  · rw [i0, i0]; exact Moved.same hG0 _
  obtain ⟨k, hk, rfl⟩ := wn_nat (n := 6) (by omega) hw1
  obtain ⟨v, hv, rfl⟩ := wn_nat (n := 9) (by omega) hw2
  obtain ⟨m, hm, rfl⟩ := wn_nat (n := 255) (by omega) hw3
  rw [i1, i1, hX.1, hM.1]
  by_cases h6 : cT C = 6
  · rw [h6, if_neg (show ¬ nI 6 < 6 from by decide), if_pos (show nI 6 = 6 from rfl)]; exact Moved.same hG0 _
  have hlt : (nI (cT C) : Int32) < 6 := nI_lt (b := 6) (by omega) (by omega)
  rw [if_pos hlt, if_neg (show ¬ nI (cT C) = 6 from fun z => h6 ((nI_eq (b := 6) (by omega) (by omega)).mp z))]
  obtain ⟨f, ef, f1, f2⟩ := l_thing_rows N 4 0 N (sA (sA (sA μ 3 (upd (μ 3) (cT C) (nI k))) 4 (upd (μ 4) (cT C) (nI v))) 5 (upd (μ 5) (cT C) (nI m))) (cT C) rfl (by omega) (by omega) (by rw [sA_n _ _ (by decide), sA_n _ _ (by decide), sA_n _ _ (by decide)]; exact hM.1) (fun x hx hx2 => by omega)
  have ef' : l_X8_thing_80 N N (sA (sA (sA μ 3 (upd (μ 3) (cT C) (nI k))) 4 (upd (μ 4) (cT C) (nI v))) 5 (upd (μ 5) (cT C) (nI m))) 0 = _ := ef
  unfold f_X2_addThing
  rw [hX.1]
  have hck : ∀ (i : Int32), i = nI (cT C) → ∀ q : Option (Int32 × St), ck i 6 q = q := fun i hi q => by rw [hi]; exact ck_n (by omega) (by omega) q
  simp (disch := omega) only [nm_d, cl_s, sA_n, sI_n, sI_s, sA_s, hM.1, ck_n, nI_clamp, if_pos hlt, nI_1]
  rw [ef']
  obtain ⟨a0, a1, a2, a3, a4, a4', a6, a5, a7, a8⟩ := hX
  obtain ⟨b0, b1, b2, b3, b4, b6, b5, b8⟩ := hM
  have hR2 : ∀ i, 4 * cT C ≤ i → (if i < 4 * cT C then cR C i else 0) = 0 := fun i hi => if_neg (by omega)
  refine ⟨nI (cT C), _, _, addT C k v m, H, d, rfl, rfl, ⟨⟨?_, ?_, ?_, ?_, ?_⟩, ⟨hH.1, fun t ht => ?_, hH.2.2⟩, ⟨?_, ?_, ?_, ?_, ?_, ?_, ?_, ?_, ?_, ?_⟩, ⟨?_, ?_, ?_, ?_, ?_, ?_, ?_, ?_⟩, hS, ?_, hO, hd⟩, Nat.le_succ _, ?_⟩
  · show cT C + 1 ≤ 6; omega
  · intro t ht
    show (if t = cT C then k else cK C t) ≤ 6
    split
    · exact hk
    · exact hC.2.1 t (by have : t < cT C + 1 := ht; omega)
  · intro t ht
    show (if t = cT C then v else cV C t) ≤ 9
    split
    · exact hv
    · exact hC.2.2.1 t (by have : t < cT C + 1 := ht; omega)
  · intro t ht
    show (if t = cT C then m else cM C t) ≤ 255
    split
    · exact hm
    · exact hC.2.2.2.1 t (by have : t < cT C + 1 := ht; omega)
  · intro i hi
    show (if i < 4 * cT C then cR C i else 0) ≤ 9
    split
    · rename_i hlt; exact hC.2.2.2.2 i hlt
    · omega
  · have := hH.2.1 t ht
    show t < cT C + 1; omega
  · simp (disch := omega) only [sA_n, sI_n, sI_s]; rfl
  · intro i hi
    have hi' : i < cT C + 1 := hi
    simp (disch := omega) only [sA_n, sI_n, sA_s]
    show upd (σ 1) (cT C) (nI k) i = nI (if i = cT C then k else cK C i)
    by_cases hq : i = cT C
    · rw [hq, upd_s, if_pos rfl]
    · rw [upd_n hq, if_neg hq]; exact a1 i (by omega)
  · intro i hi
    have hi' : i < cT C + 1 := hi
    simp (disch := omega) only [sA_n, sI_n, sA_s]
    show upd (σ 2) (cT C) (nI v) i = nI (if i = cT C then v else cV C i)
    by_cases hq : i = cT C
    · rw [hq, upd_s, if_pos rfl]
    · rw [upd_n hq, if_neg hq]; exact a2 i (by omega)
  · intro i hi
    have hi' : i < cT C + 1 := hi
    simp (disch := omega) only [sA_n, sI_n, sA_s]
    show upd (σ 3) (cT C) (nI m) i = nI (if i = cT C then m else cM C i)
    by_cases hq : i = cT C
    · rw [hq, upd_s, if_pos rfl]
    · rw [upd_n hq, if_neg hq]; exact a3 i (by omega)
  · intro i hi
    have hi' : i < 4 * (cT C + 1) := hi
    simp (disch := omega) only [sA_n, sI_n]
    show σ 4 i = nI (if i < 4 * cT C then cR C i else 0)
    by_cases hq : i < 4 * cT C
    · rw [if_pos hq]; exact a4 i hq
    · rw [if_neg hq]; exact a4' i (by omega) (by omega)
  · intro i hi hj
    have hi' : 4 * (cT C + 1) ≤ i := hi
    simp (disch := omega) only [sA_n, sI_n]
    exact a4' i (by omega) hj
  · simp (disch := omega) only [sA_n, sI_n]; exact a6
  · intro i u hu
    simp (disch := omega) only [sA_n, sI_n]; exact a5 i u hu
  · simp (disch := omega) only [sA_n, sI_n]; exact a7
  · simp (disch := omega) only [sA_n, sI_n]; exact a8
  · simp (disch := omega) only [sI_s]; rfl
  · intro i hi
    have hi' : i < cT C + 1 := hi
    simp (disch := omega) only [sA_n, sI_n, sA_s]
    show upd (μ 3) (cT C) (nI k) i = nI (if i = cT C then k else cK C i)
    by_cases hq : i = cT C
    · rw [hq, upd_s, if_pos rfl]
    · rw [upd_n hq, if_neg hq]; exact b1 i (by omega)
  · intro i hi
    have hi' : i < cT C + 1 := hi
    simp (disch := omega) only [sA_n, sI_n, sA_s]
    show upd (μ 4) (cT C) (nI v) i = nI (if i = cT C then v else cV C i)
    by_cases hq : i = cT C
    · rw [hq, upd_s, if_pos rfl]
    · rw [upd_n hq, if_neg hq]; exact b2 i (by omega)
  · intro i hi
    have hi' : i < cT C + 1 := hi
    simp (disch := omega) only [sA_n, sI_n, sA_s]
    show upd (μ 5) (cT C) (nI m) i = nI (if i = cT C then m else cM C i)
    by_cases hq : i = cT C
    · rw [hq, upd_s, if_pos rfl]
    · rw [upd_n hq, if_neg hq]; exact b3 i (by omega)
  · intro i hi
    have hi' : i < 4 * (cT C + 1) := hi
    simp (disch := omega) only [sI_n, sA_s]
    show f i = nI (if i < 4 * cT C then cR C i else 0)
    by_cases hq : i < 4 * cT C
    · rw [if_pos hq, f2 i hq]
      simp (disch := omega) only [sA_n]
      exact b4 i hq
    · rw [if_neg hq]; exact f1 i (by omega) (by omega)
  · simp (disch := omega) only [sA_n, sI_n]; exact b6
  · intro i u hu
    simp (disch := omega) only [sA_n, sI_n]; exact b5 i u hu
  · simp (disch := omega) only [sA_n, sI_n]; exact b8
  · exact hR.other (fun q hq => by simp (disch := omega) only [sA_n, sI_n])
  · intro q hq
    have h0 := scr_ne hq (j := 0) rfl
    have h3 := scr_ne hq (j := 3) rfl
    have h4 := scr_ne hq (j := 4) rfl
    have h5 := scr_ne hq (j := 5) rfl
    have h6 := scr_ne hq (j := 6) rfl
    rw [sI_n _ _ h0, sA_n _ _ h6, sA_n _ _ h5, sA_n _ _ h4, sA_n _ _ h3]
theorem op_mark (hN : 1000 ≤ N) (hG : GI L h σ μ C S H d) (p1 p2 : Int32) : Moved L h μ C S (f_X7_mark N σ p1 p2) (f_X8_mark N μ p1 p2) := by
  have hG0 := hG
  obtain ⟨hC, hH, hX, hM, hS, hR, hO, hd⟩ := hG
  have hT := hC.1
  unfold f_X7_mark f_X8_mark
  rcases two_things (N := N) hC hX hM p1 with ⟨a, b⟩ | ⟨a, b, t, ht, rfl⟩
  · rw [a, b, cl_s, cl_s, i0, i0]; exact Moved.same hG0 _
  rw [a, b, cl_s, cl_s, i1, i1, f_within, cl_s, f_isMarks, cl_s]
  cases hw : wn p2 0 255
  · rw [i0, i0]; exact Moved.same hG0 _
  obtain ⟨m, hm, rfl⟩ := wn_nat (n := 255) (by omega) hw
  rw [i1, i1]
  simp (disch := omega) only [nm_d, ck_n, nI_clamp]
  rw [hX.2.2.2.1 t ht, hM.2.2.2.1 t ht]
  exact ⟨_, _, _, setM C t m, H, d, rfl, rfl, ⟨hC.setM hm, hH, hX.setM, hM.setM, hS, hR.other (fun k hk => sA_n _ _ (by omega)), hO, hd⟩, Nat.le_refl _, fun k hk => sA_n _ _ (scr_ne hk rfl)⟩
theorem op_row (hN : 1000 ≤ N) (hG : GI L h σ μ C S H d) (p1 p2 p3 : Int32) : Moved L h μ C S (f_X7_row N σ p1 p2 p3) (f_X8_row N μ p1 p2 p3) := by
  have hG0 := hG
  obtain ⟨hC, hH, hX, hM, hS, hR, hO, hd⟩ := hG
  have hT := hC.1
  unfold f_X7_row f_X8_row
  rcases two_things (N := N) hC hX hM p1 with ⟨a, b⟩ | ⟨a, b, t, ht, rfl⟩
  · rw [a, b, cl_s, cl_s, i0, i0]; exact Moved.same hG0 _
  rw [a, b, cl_s, cl_s, i1, i1, f_within, cl_s, f_in, cl_s]
  cases hw : wn p2 0 3
  · rw [i0, i0]; exact Moved.same hG0 _
  obtain ⟨k, hk, rfl⟩ := wn_nat (n := 3) (by omega) hw
  rw [i1, i1, f_within, cl_s, f_in, cl_s]
  cases hw : wn p3 0 9
  · rw [i0, i0]; exact Moved.same hG0 _
  obtain ⟨n, hn, rfl⟩ := wn_nat (n := 9) (by omega) hw
  have hK := hC.2.1 t ht
  have e4 : 4 * nI t + nI k = nI (4 * t + k) := by rw [show (4 : Int32) = nI 4 from rfl, pk_mul, nI_add]
  have e5 : nI t * 4 + nI k = nI (4 * t + k) := by rw [show (4 : Int32) = nI 4 from rfl, pk_mul, nI_add, Nat.mul_comm]
  rw [i1, i1, ck_n (by omega) (by omega), ck_n (by omega) (by omega), nI_clamp (by omega), hX.2.1 t ht, hM.2.1 t ht]
  by_cases h6 : nI (cK C t) = 6
  · rw [if_pos h6, if_pos h6, e4, e5]
    simp (disch := omega) only [nm_d, ck_n, nI_clamp]
    rw [hX.2.2.2.2.1 _ (by omega), hM.2.2.2.2.1 _ (by omega)]
    obtain ⟨a0, a1, a2, a3, a4, a4', a6, a5, a7, a8⟩ := hX
    obtain ⟨b0, b1, b2, b3, b4, b6, b5, b8⟩ := hM
    refine ⟨_, _, _, setR C (4 * t + k) n, H, d, rfl, rfl, ⟨⟨hC.1, hC.2.1, hC.2.2.1, hC.2.2.2.1, fun i hi => ?_⟩, hH, ⟨by rw [sA_n _ _ (by decide)]; exact a0, fun i hi => by rw [sA_n _ _ (by decide)]; exact a1 i hi, fun i hi => by rw [sA_n _ _ (by decide)]; exact a2 i hi, fun i hi => by rw [sA_n _ _ (by decide)]; exact a3 i hi, fun i hi => ?_, fun i hi hj => ?_, by rw [sA_n _ _ (by decide)]; exact a6, fun i u hu => by rw [sA_n _ _ (by decide)]; exact a5 i u hu, by rw [sA_n _ _ (by decide)]; exact a7, by rw [sA_n _ _ (by decide)]; exact a8⟩, ⟨by rw [sA_n _ _ (by decide)]; exact b0, fun i hi => by rw [sA_n _ _ (by decide)]; exact b1 i hi, fun i hi => by rw [sA_n _ _ (by decide)]; exact b2 i hi, fun i hi => by rw [sA_n _ _ (by decide)]; exact b3 i hi, fun i hi => ?_, by rw [sA_n _ _ (by decide)]; exact b6, fun i u hu => by rw [sA_n _ _ (by decide)]; exact b5 i u hu, by rw [sA_n _ _ (by decide)]; exact b8⟩, hS, hR.other (fun k hk => sA_n _ _ (by omega)), hO, hd⟩, Nat.le_refl _, fun k hk => sA_n _ _ (scr_ne hk rfl)⟩
    · show (if i = 4 * t + k then n else cR C i) ≤ 9
      split
      · exact hn
      · exact hC.2.2.2.2 i hi
    · show sA σ 4 (upd (σ 4) (4 * t + k) (nI n)) 4 i = nI (if i = 4 * t + k then n else cR C i)
      rw [sA_s]
      by_cases hq : i = 4 * t + k
      · rw [hq, upd_s, if_pos rfl]
      · rw [upd_n hq, if_neg hq]; exact a4 i hi
    · have hi' : 4 * cT C ≤ i := hi
      rw [sA_s, upd_n (by omega)]; exact a4' i hi hj
    · show sA μ 6 (upd (μ 6) (4 * t + k) (nI n)) 6 i = nI (if i = 4 * t + k then n else cR C i)
      rw [sA_s]
      by_cases hq : i = 4 * t + k
      · rw [hq, upd_s, if_pos rfl]
      · rw [upd_n hq, if_neg hq]; exact b4 i hi
  · rw [if_neg h6, if_neg h6]; exact Moved.same hG0 _
theorem op_take (hN : 1000 ≤ N) (hG : GI L h σ μ C S H d) (p1 : Int32) : Moved L h μ C S (f_X7_take N L σ h p1) (f_X8_take N μ p1) := by
  have hG0 := hG
  obtain ⟨hC, hH, hX, hM, hS, hR, hO, hd⟩ := hG
  have hT := hC.1
  unfold f_X7_take f_X8_take
  rcases two_things (N := N) hC hX hM p1 with ⟨a, b⟩ | ⟨a, b, t, ht, rfl⟩
  · rw [a, b, cl_s, cl_s, i0, i0]; exact Moved.same hG0 _
  obtain ⟨g, hg⟩ := x_goes (N := N) (t := t) hN hC hH hX ht hS hO
  obtain ⟨f, hf⟩ := m_goes (N := N) (t := t) hN hC hH hM ht hR
  rw [a, b, cl_s, cl_s, i1, i1, hg, hf, cl_s, cl_s]
  dsimp only
  cases hb : goesS C S H d t
  · rw [i0, i0]; exact ⟨_, _, _, C, H, d, rfl, rfl, ⟨hC, hH, hX.t10 g, hM.t25 f, hS, hR.t25 f, hO, hd⟩, Nat.le_refl _, fr25 f⟩
  · obtain ⟨σ3, e3, x3⟩ := x_pickUp (N := N) hC hH (hX.t10 g) ht (goes_new hb).1
    obtain ⟨μ3, f3, m3, r3⟩ := m_pushes (N := N) hC hH (hM.t25 f) ht (goes_new hb).1
    have hfr : frR μ μ3 := (fr25 f).tr (fr2 r3)
    rw [i1, i1, e3, f3, cl_s, cl_s]
    exact ⟨_, σ3, μ3, C, H ++ [t], d, by rw [x3.2.2.2.2.2.2.1], by rw [m3.2.2.2.2.2.1], ⟨hC, hH.push ht (goes_new hb).1, x3, m3, hS, frR.mt hR hfr, hO, hd⟩, Nat.le_refl _, hfr⟩
theorem op_put (hG : GI L h σ μ C S H d) : Moved L h μ C S (f_X7_put N σ) (f_X8_put N μ) := by
  have hG0 := hG
  obtain ⟨hC, hH, hX, hM, hS, hR, hO, hd⟩ := hG
  have hT := hC.1
  have h6 := len6 hC hH
  unfold f_X7_put f_X8_put
  rw [hX.2.2.2.2.2.2.1, hM.2.2.2.2.2.1]
  by_cases hl : H = []
  · subst hl
    rw [if_pos (show nI ([] : List Nat).length = 0 from rfl), if_pos (show nI ([] : List Nat).length = 0 from rfl)]; exact Moved.same hG0 _
  have hp : 0 < H.length := List.length_pos_iff.mpr hl
  rw [if_neg (nI_ne0 hp (by omega)), if_neg (nI_ne0 hp (by omega))]
  obtain ⟨H0, t, e1, -⟩ := drop_last hl
  subst e1
  obtain ⟨σ3, e3, x3⟩ := x_layDown (N := N) hC hH hX
  have m3 := m_pop hM
  have hlen : (H0 ++ [t]).length = H0.length + 1 := by simp
  rw [hM.2.2.2.2.2.1, hlen, nI_pred] at m3
  have ht := hM.2.2.2.2.2.2.1 H0.length t (by simp)
  rw [hlen] at h6
  rw [e3, cl_s, nm_d, hlen, nI_pred, sI_s, ck_n (by omega) (by omega), nI_clamp (by omega), sI_n _ _ (show 7 ≠ 1 by decide), ht]
  exact ⟨_, σ3, _, C, H0, d, rfl, rfl, ⟨hC, hH.pop.1, x3, m3, hS, hR.other (fun k hk => sI_n _ _ (by omega)), hO, hd⟩, Nat.le_refl _, fun k hk => sI_n _ _ (scr_ne hk rfl)⟩
theorem op_pass (hN : 1000 ≤ N) (hG : GI L h σ μ C S H d) (p1 : Int32) : Moved L h μ C S (f_X7_pass N L σ h p1) (f_X8_pass N μ p1) := by
  have hG0 := hG
  obtain ⟨hC, hH, hX, hM, hS, hR, hO, hd⟩ := hG
  unfold f_X7_pass f_X8_pass
  rw [f_within, cl_s, f_isDays, cl_s]
  cases hw : wn p1 0 60
  · rw [i0, i0]; exact Moved.same hG0 _
  obtain ⟨n, hn, rfl⟩ := wn_nat (n := 60) (by omega) hw
  rw [i1, i1, hX.2.2.2.2.2.2.2.2.2, hM.2.2.2.2.2.2.2, nI_add]
  by_cases hq : d + n ≤ 9999
  · have hle : (nI (d + n) : Int32) ≤ 9999 := nI_le (b := 9999) hq (by omega)
    obtain ⟨σ4, e4, x4⟩ := x_daysGo (n := n) hN hC hH hX hS hO (by omega) (by omega)
    obtain ⟨μ4, f4, m4, r4⟩ := m_goDays (n := n) hN hC hH hM hR (by omega) (by omega)
    rw [if_pos hle, if_pos hle, e4, f4, cl_s, cl_s]
    exact ⟨_, σ4, μ4, C, dH C S H d n, d + n, by rw [x4.2.2.2.2.2.2.1], by rw [m4.2.2.2.2.2.1], ⟨hC, dH_wf hH n (by omega), x4, m4, hS, frR.mt hR (fr4 r4), hO, hq⟩, Nat.le_refl _, fr4 r4⟩
  · have hle : ¬ (nI (d + n) : Int32) ≤ 9999 := nI_ge (b := d + n) (a := 9999) (by omega) (by omega)
    rw [if_neg hle, if_neg hle]; exact Moved.same hG0 _
end
