/-! ===== pure layer U: act, trace, taken, tapes, judge ===== -/
def und (K k : Nat) : Bool := decide (K = k ∨ k = 0 ∨ (k = 1 ∧ K = 4) ∨ (k = 2 ∧ K = 5) ∨ (k = 3 ∧ K = 6))
theorem x_under (n K k : Nat) (hK : K ≤ 6) (hk : k ≤ 6) : f_X7_isUnder (n + 7) (nI K) (nI k) = some (b2i (und K k)) := by
  rcases seven hK with rfl | rfl | rfl | rfl | rfl | rfl | rfl <;> rcases seven hk with rfl | rfl | rfl | rfl | rfl | rfl | rfl <;> rfl
theorem m_under (N : Nat) (μ : St) (K k : Nat) (hK : K ≤ 6) (hk : k ≤ 6) : (if nI k = 0 then some (nI K) else if nI K = nI k then some (nI K) else if nI k = 1 then (if nI K = 4 then some (nI K) else j_X8_taken_51 N μ (nI k) (nI K)) else j_X8_taken_51 N μ (nI k) (nI K)) = some (if und K k = true then nI K else -12) := by
  rcases seven hK with rfl | rfl | rfl | rfl | rfl | rfl | rfl <;> rcases seven hk with rfl | rfl | rfl | rfl | rfl | rfl | rfl <;> rfl
section
variable {N : Nat} {L : List SR} {h h2 : Option SR} {σ σ2 μ s : St} {C : Cr} {S : Sn} {H : List Nat} {d : Nat} {P : Nt} {bl : List Int32}
theorem op_act (hG : GI L h σ μ C S H d) (hm : MA μ bl) (p1 p2 p3 : Int32) : ∃ a s' μ' bl', f_X7_act N σ s p1 p2 p3 = some (a, s') ∧ f_X8_act N μ p1 p2 p3 = some (a, μ') ∧ XA s' bl' ∧ MA μ' bl' ∧ bl'.length ≤ 20 ∧ frB μ μ' := by
  obtain ⟨hC, hH, hX, hM, hS, hR, hO, hd⟩ := hG
  have hT := hC.1
  have x0 : XA (sI s 1 0) [] := ⟨by rw [sI_s]; rfl, fun i b _ hb => by simp at hb⟩
  have m0 : MA (sI μ 61 0) [] := ⟨by rw [sI_s]; rfl, fun i b _ hb => by simp at hb⟩
  have fb : frB μ (sI μ 61 0) := fun k h1 _ => sI_n _ _ h1
  have hM2 : MS (sI μ 61 0) C H d := hM.other (fun k hk => sI_n _ _ (by omega))
  unfold f_X7_act f_X8_act f_X0_forget
  rw [nm_d, cl_s, nm_d]
  rcases two_things (N := N) hC hX hM2 p1 with ⟨a, b⟩ | ⟨a, b, t, ht, rfl⟩
  · rw [a, b, cl_s, cl_s, i0, i0]; exact ⟨0, _, _, [], rfl, rfl, x0, m0, by simp, fb⟩
  rw [a, b, cl_s, cl_s, i1, i1, f_within, f_in, cl_s, cl_s]
  cases hw : wn p2 0 2
  · rw [i0, i0]; exact ⟨0, _, _, [], rfl, rfl, x0, m0, by simp, fb⟩
  obtain ⟨w, hw2, rfl⟩ := wn_nat (n := 2) (by omega) hw
  have hK := hC.2.1 t ht
  rw [i1, i1, ck_n (by omega) (by omega), ck_n (by omega) (by omega), nI_clamp (by omega), hX.2.1 t ht, hX.2.2.1 t ht]
  unfold f_X0_perform
  rw [nm_d, nm_d, nm_d]
  generalize hs1 : sI (sI (sI (sI s 1 0) 2 (nI (cK C t))) 3 (nI t)) 4 (nI (cV C t)) = s1
  have x1 : XA s1 [] := by rw [← hs1]; exact ⟨by simp (disch := omega) only [sI_n, sI_s]; rfl, fun i b _ hb => by simp at hb⟩
  have k2 : s1 2 0 = nI (cK C t) := by rw [← hs1]; simp (disch := omega) only [sI_n, sI_s]
  have k3 : s1 3 0 = nI t := by rw [← hs1]; simp (disch := omega) only [sI_n, sI_s]
  have k4 : s1 4 0 = nI (cV C t) := by rw [← hs1]; simp (disch := omega) only [sI_n, sI_s]
  have r3 : sI μ 61 0 3 t = nI (cK C t) := by rw [sI_n _ _ (by decide)]; exact hM.2.1 t ht
  have r4 : sI μ 61 0 4 t = nI (cV C t) := by rw [sI_n _ _ (by decide)]; exact hM.2.2.1 t ht
  rcases (show w = 0 ∨ w = 1 ∨ w = 2 by omega) with rfl | rfl | rfl
  · obtain ⟨s2, e2, x2, -⟩ := x_lies (N := N) (D := 37) (e := 0) (x := p3) hK (by omega) x1 (by simp)
    obtain ⟨μ2, f2, m2, g2⟩ := m_lies (N := N) (x := p3) (show t < 6 by omega) hK r3 r4 m0 (by simp)
    have e2' : f_X0_runLies N 40 s1 (nI (cK C t)) p3 0 = _ := e2
    rw [if_pos (show nI 0 = 0 from rfl), if_pos (show nI 0 = 0 from rfl), k2, e2', f2, cl_s, cl_s, cl_s, k3, k4]
    rw [k3, k4] at x2
    exact ⟨_, s2, μ2, _, rfl, rfl, x2, m2, by have := lies_len hK (nI t) (nI (cV C t)) p3; simp; omega, fb.tr g2⟩
  · obtain ⟨s2, e2, x2, -⟩ := x_fits (N := N) (D := 74) (e := 0) (x := p3) hK hK k2 (by omega) x1 (by simp)
    obtain ⟨μ2, f2, m2, g2⟩ := m_fits (N := N) (x := p3) (show t < 6 by omega) hK r3 r4 m0 (by simp)
    have e2' : f_X0_runFits N 80 s1 (nI (cK C t)) p3 0 = _ := e2
    rw [if_neg (show ¬ nI 1 = 0 from by decide), if_neg (show ¬ nI 1 = 0 from by decide), if_pos (show nI 1 = 1 from rfl), if_pos (show nI 1 = 1 from rfl), k2, e2', f2, cl_s, cl_s, cl_s, k3, k4]
    rw [k3, k4] at x2
    exact ⟨_, s2, μ2, _, rfl, rfl, x2, m2, by have := fits_len hK hK (nI t) (nI (cV C t)) p3; simp; omega, fb.tr g2⟩
  · obtain ⟨s2, e2, x2, -⟩ := x_tells (N := N) (D := 111) (e := 0) (x := p3) hK hK k2 (by omega) x1 (by simp)
    obtain ⟨μ2, f2, m2, g2⟩ := m_tells (N := N) (x := p3) (show t < 6 by omega) hK r3 r4 m0 (by simp)
    have e2' : f_X0_runTells N 120 s1 (nI (cK C t)) p3 0 = _ := e2
    rw [if_neg (show ¬ nI 2 = 0 from by decide), if_neg (show ¬ nI 2 = 0 from by decide), if_neg (show ¬ nI 2 = 1 from by decide), if_neg (show ¬ nI 2 = 1 from by decide), k2, e2', f2, cl_s, cl_s, cl_s, k3, k4]
    rw [k3, k4] at x2
    exact ⟨_, s2, μ2, _, rfl, rfl, x2, m2, by have := tells_len hK hK (nI t) (nI (cV C t)) p3; simp; omega, fb.tr g2⟩
theorem op_trace (hx : XA s bl) (hm : MA μ bl) (hl : bl.length ≤ 20) (p1 : Int32) : ∃ a, f_X7_trace N s p1 = some a ∧ f_X8_trace N μ p1 = some a := by
  unfold f_X7_trace f_X8_trace f_X0_keptCount
  rw [hx.1, hm.1, cl_s, f_in, cl_s, if_neg (show ¬ (20 : Int32) < nI bl.length from nI_nlt (a := 20) (by omega) (by omega))]
  rcases pk_ix p1 (n := bl.length) (by omega) with hp | hp | ⟨j, hj, rfl⟩
  · have hw : wn p1 0 19 = false := by
      simp only [wn, decide_eq_false_iff_not]; rintro ⟨h1, -⟩; exact i32_nlt.mpr h1 hp
    rw [if_pos hp, hw, i0]; exact ⟨_, rfl, rfl⟩
  · have h0 : ¬ p1 < 0 := by rw [i32_nlt]; exact Int32.le_trans (nI_pos' (by omega)) hp
    rw [if_neg h0, if_pos hp]
    cases hw : wn p1 0 19
    · rw [i0]; exact ⟨_, rfl, rfl⟩
    · rw [i1, if_pos hp]; exact ⟨_, rfl, rfl⟩
  · have hw : wn (nI j) 0 19 = true := by
      have := wn_nI (j := j) (n := 19) (by omega) (by omega)
      have h2 : decide (j ≤ 19) = true := by simp; omega
      rw [h2] at this; exact this
    obtain ⟨b, hb, -⟩ := idxG hj
    rw [if_neg (nI_pos (by omega)), if_neg (nI_ge hj (by omega)), ck_n (by omega) (by omega), nI_clamp (by omega), hx.2 j b (by omega) hb, hw, i1, if_neg (nI_ge hj (by omega)), ck_n (by omega) (by omega), hm.2 j b (by omega) hb]
    exact ⟨_, rfl, rfl⟩
theorem op_taken (hN : 1000 ≤ N) (hG : GI L h σ μ C S H d) (p1 p2 : Int32) : ∃ a, f_X7_taken N σ p1 p2 = some a ∧ f_X8_taken N μ p1 p2 = some a := by
  obtain ⟨hC, hH, hX, hM, hS, hR, hO, hd⟩ := hG
  have hT := hC.1
  unfold f_X7_taken f_X8_taken
  rw [f_within, f_in, cl_s, cl_s]
  cases hw : wn p2 0 6
  · rw [i0, i0]; exact ⟨_, rfl, rfl⟩
  obtain ⟨k, hk, rfl⟩ := wn_nat (n := 6) (by omega) hw
  rw [i1, i1]
  rcases two_things (N := N) hC hX hM p1 with ⟨a, b⟩ | ⟨a, b, t, ht, rfl⟩
  · rw [a, b, cl_s, cl_s, i0, i0]; exact ⟨_, rfl, rfl⟩
  have hK := hC.2.1 t ht
  obtain ⟨n, rfl⟩ : ∃ n, N = n + 7 := ⟨N - 7, by omega⟩
  rw [a, b, cl_s, cl_s, i1, i1, ck_n (by omega) (by omega), ck_n (by omega) (by omega), nm_d, nm_d, nI_clamp (by omega), hX.2.1 t ht, hM.2.1 t ht, x_under n _ _ hK hk, cl_s, m_under (n + 7) μ _ _ hK hk]
  cases hb : und (cK C t) k
  · rw [i0]; exact ⟨_, rfl, rfl⟩
  · rw [i1]; exact ⟨_, rfl, rfl⟩
end
abbrev Lt : Type := Nat → Nat → Int64
def TPR (s : St) (t9 : Lt) (μ : St) (τ : Lt) : Prop := ∀ t : Nat, t < 6 → s 0 t = μ 63 t ∧ s 1 t = μ 64 t ∧ ∃ l : Nat, l ≤ 60 ∧ s 1 t = nI l ∧ ((s 0 t = -1 ∧ l = 0) ∨ ∃ q : Nat, q ≤ 4 ∧ s 0 t = nI q) ∧ ∀ i : Nat, i < l → t9 2 (60 * t + i) = τ 65 (60 * t + i)
theorem uL_s (f : Nat → Int64) (k : Nat) (x : Int64) : vp_updL f k x k = x := pk_uLs
theorem uL_n {f : Nat → Int64} {k j : Nat} {x : Int64} (h : j ≠ k) : vp_updL f k x j = f j := pk_uLn h
section
variable {N : Nat} {L : List SR} {h h2 : Option SR} {σ σ2 μ s : St} {t9 τ : Lt} {C : Cr} {S : Sn} {H : List Nat} {d : Nat}
theorem f_isTape (a : Int32) : f_X8_isTape N a = some (b2i (wn a 0 5)) := by unfold f_X8_isTape; rw [f_in, cl_s, cb_t (b2i_01 _)]
theorem two_tapes (p : Int32) : (f_X6_hasTape N p = some (b2i false) ∧ f_X8_isTape N p = some (b2i false)) ∨ (f_X6_hasTape N p = some (b2i true) ∧ f_X8_isTape N p = some (b2i true) ∧ ∃ t, t < 6 ∧ p = nI t) := by
  rw [f_isTape]
  unfold f_X6_hasTape
  rcases pk_ix p (n := 6) (by omega) with hp | hp | ⟨t, ht, rfl⟩
  · have hw : wn p 0 5 = false := by
      simp only [wn, decide_eq_false_iff_not]; rintro ⟨h1, -⟩; exact i32_nlt.mpr h1 hp
    rw [if_pos hp, hw]; exact Or.inl ⟨rfl, rfl⟩
  · have h0 : ¬ p < 0 := by rw [i32_nlt]; exact Int32.le_trans (nI_pos' (n := 6) (by omega)) hp
    have hw : wn p 0 5 = false := by
      simp only [wn, decide_eq_false_iff_not]
      rintro ⟨-, h2⟩
      have := Int32.le_trans hp h2
      exact absurd this (by decide)
    rw [if_neg h0, if_pos (show (6 : Int32) ≤ p from hp), hw]; exact Or.inl ⟨rfl, rfl⟩
  · have hw : wn (nI t) 0 5 = true := by
      have := wn_nI (j := t) (n := 5) (by omega) (by omega)
      have h2 : decide (t ≤ 5) = true := by simp; omega
      rw [h2] at this; exact this
    rw [if_neg (nI_pos (by omega)), if_neg (show ¬ (6 : Int32) ≤ nI t from nI_ge (b := 6) ht (by omega)), hw]; exact Or.inr ⟨rfl, rfl, t, ht, rfl⟩
theorem m1_ne {q : Nat} (h : q ≤ 4) : ¬ (nI q : Int32) = -1 := by
  intro z
  have h1 := nI_pos (n := q) (by omega)
  rw [z] at h1; exact h1 (by decide)
theorem sort_sign {x : Int32} {l : Nat} (h : (x = -1 ∧ l = 0) ∨ ∃ q : Nat, q ≤ 4 ∧ x = nI q) : (x = -1 ↔ x < 0) ∧ (x = -1 ↔ ¬ 0 ≤ x) := by
  rcases h with ⟨h, -⟩ | ⟨q, hq, h⟩
  · subst h; decide
  · subst h
    have h1 := nI_pos (n := q) (by omega)
    have h2 := nI_pos' (n := q) (by omega)
    exact ⟨⟨fun z => absurd z (m1_ne hq), fun z => absurd z h1⟩, ⟨fun z => absurd z (m1_ne hq), fun z => absurd h2 z⟩⟩
/-- a place of a tape: both sides' index -/
theorem ix1 (t i : Nat) : nI t * 60 + nI i = nI (60 * t + i) := by rw [show (60 : Int32) = nI 60 from rfl, pk_mul, nI_add, Nat.mul_comm]
theorem ix2 (t i : Nat) : 60 * nI t + nI i = nI (60 * t + i) := by rw [show (60 : Int32) = nI 60 from rfl, pk_mul, nI_add]
/-- a place that is there, on both sides -/
theorem two_places {t l : Nat} (ht : t < 6) (hl : l ≤ 60) (h1 : s 1 t = nI l) (p : Int32) : (f_X6_hasPlace N s (nI t) p = some (b2i false) ∧ wn p 0 (nI l - 1) = false) ∨ (f_X6_hasPlace N s (nI t) p = some (b2i true) ∧ wn p 0 (nI l - 1) = true ∧ ∃ i, i < l ∧ p = nI i) := by
  unfold f_X6_hasPlace
  have hsub : (nI l - 1).toInt = (l : Int) - 1 := pk_sub_toInt (b := 1) (by omega) (by omega)
  rcases pk_ix p (n := l) (by omega) with hp | hp | ⟨i, hi, rfl⟩
  · have hw : wn p 0 (nI l - 1) = false := by
      simp only [wn, decide_eq_false_iff_not]; rintro ⟨h1, -⟩; exact i32_nlt.mpr h1 hp
    rw [if_pos hp, hw]; exact Or.inl ⟨rfl, rfl⟩
  · have h0 : ¬ p < 0 := by rw [i32_nlt]; exact Int32.le_trans (nI_pos' (by omega)) hp
    have hw : wn p 0 (nI l - 1) = false := by
      simp only [wn, decide_eq_false_iff_not]
      rintro ⟨-, h2⟩
      rw [Int32.le_iff_toInt_le, hsub] at h2
      rw [Int32.le_iff_toInt_le, nI_toInt (by omega)] at hp
      omega
    rw [if_neg h0, ck_n ht (by omega), nI_clamp (by omega), h1, if_pos hp, hw]; exact Or.inl ⟨rfl, rfl⟩
  · have hw : wn (nI i) 0 (nI l - 1) = true := by
      simp only [wn, decide_eq_true_eq]
      refine ⟨nI_pos' (by omega), ?_⟩
      rw [Int32.le_iff_toInt_le, hsub, nI_toInt (by omega)]; omega
    rw [if_neg (nI_pos (by omega)), ck_n ht (by omega), nI_clamp (by omega), h1, if_neg (nI_ge hi (by omega)), hw]; exact Or.inr ⟨rfl, rfl, i, hi, rfl⟩
theorem op_read (hP : TPR s t9 μ τ) (p1 p2 : Int32) : ∃ a, f_X7_read N s t9 p1 p2 = some a ∧ f_X8_read N μ τ p1 p2 = some a := by
  unfold f_X7_read f_X8_read
  rcases two_tapes (N := N) p1 with ⟨a, b⟩ | ⟨a, b, t, ht, rfl⟩
  · rw [a, b, cl_s, cl_s, i0, i0]; exact ⟨_, rfl, rfl⟩
  obtain ⟨q1, q2, l, hl, q3, q4, q5⟩ := hP t ht
  have hs := sort_sign q4
  rw [a, b, cl_s, cl_s, i1, i1, ck_n (by omega) (by omega), nI_clamp (by omega), ← q1]
  rcases two_places (N := N) ht hl q3 p2 with ⟨c, e⟩ | ⟨c, e, i, hi, rfl⟩
  · rw [c, cl_s, i0]
    by_cases hz : s 0 t < 0
    · rw [if_pos hz]; exact ⟨_, rfl, rfl⟩
    · rw [if_neg hz, ck_n (by omega) (by omega), ← q2, q3, f_in, cl_s, e, i0]; exact ⟨_, rfl, rfl⟩
  · have hz : ¬ s 0 t < 0 := by
      rcases q4 with ⟨z1, z2⟩ | ⟨q, hq, z⟩
      · omega
      · rw [z]; exact nI_pos (by omega)
    unfold f_X6_itemAt
    rw [c, cl_s, i1, if_neg hz, ck_n (by omega) (by omega), ← q2, q3, f_in, cl_s, e, i1, ix1, ix2, ck_n (by omega) (by omega), ck_n (by omega) (by omega), cl_s, nI_clamp (by omega), q5 i hi]
    exact ⟨_, rfl, rfl⟩
theorem two_narrow {q : Nat} (hq : q ≤ 4) (v : Int64) : ∃ r, f_X6_cutTo N (nI q) v = some r ∧ f_X8_narrow N (nI q) v = some r := by
  rcases (show q = 0 ∨ q = 1 ∨ q = 2 ∨ q = 3 ∨ q = 4 by omega) with rfl | rfl | rfl | rfl | rfl
  · exact ⟨v.toInt32.toInt8.toInt32.toInt64, rfl, rfl⟩
  · exact ⟨v.toInt32.toInt16.toInt32.toInt64, rfl, rfl⟩
  · exact ⟨v.toInt32.toInt64, rfl, rfl⟩
  · exact ⟨v, rfl, rfl⟩
  · have e1 : f_X6_cutTo N (nI 4) v = if lg_cmp v 0 = 0 then some 0 else some 1 := rfl
    have e2 : f_X8_narrow N (nI 4) v = if lg_cmp v 0 = 0 then some 0 else some 1 := rfl
    rw [e1, e2]
    by_cases h : lg_cmp v 0 = 0
    · rw [if_pos h]; exact ⟨_, rfl, rfl⟩
    · rw [if_neg h]; exact ⟨_, rfl, rfl⟩
theorem op_item (hP : TPR s t9 μ τ) (p1 p2 : Int32) (v : Int64) : ∃ a u w, f_X7_item N s t9 p1 p2 v = some (a, u) ∧ f_X8_item N μ τ p1 p2 v = some (a, w) ∧ TPR s u μ w := by
  unfold f_X7_item f_X8_item
  rcases two_tapes (N := N) p1 with ⟨a, b⟩ | ⟨a, b, t, ht, rfl⟩
  · rw [a, b, cl_s, cl_s, i0, i0]; exact ⟨_, _, _, rfl, rfl, hP⟩
  obtain ⟨q1, q2, l, hl, q3, q4, q5⟩ := hP t ht
  have hs := sort_sign q4
  rw [a, b, cl_s, cl_s, i1, i1, ck_n (by omega) (by omega), ck_n (by omega) (by omega), nI_clamp (by omega), ← q1]
  by_cases hz : s 0 t = -1
  · rw [if_pos hz, if_neg (hs.2.mp hz)]; exact ⟨_, _, _, rfl, rfl, hP⟩
  have hz2 : 0 ≤ s 0 t := Decidable.not_not.mp (fun z => hz (hs.2.mpr z))
  rw [if_neg hz, if_pos hz2, ck_n (by omega) (by omega), ← q2, q3, f_in, cl_s]
  rcases two_places (N := N) ht hl q3 p2 with ⟨c, e⟩ | ⟨c, e, i, hi, rfl⟩
  · rw [c, e, cl_s, i0, i0]; exact ⟨_, _, _, rfl, rfl, hP⟩
  obtain ⟨q, hq, hqs⟩ : ∃ q : Nat, q ≤ 4 ∧ s 0 t = nI q := by
    rcases q4 with ⟨z1, z2⟩ | z
    · exact absurd z1 hz
    · exact z
  obtain ⟨r, e1, e2⟩ := two_narrow (N := N) hq v
  unfold f_X6_setItem
  rw [c, e, cl_s, i1, i1, ck_n (by omega) (by omega), ck_n (by omega) (by omega), nI_clamp (by omega), hqs, e1, e2, cl_s, cl_s, ix1, ix2, ck_n (by omega) (by omega), ck_n (by omega) (by omega), nm_d, nm_d, cl_s, nI_clamp (by omega)]
  refine ⟨_, _, _, rfl, rfl, fun u hu => ?_⟩
  obtain ⟨w1, w2, l', w3, w4, w5, w6⟩ := hP u hu
  refine ⟨w1, w2, l', w3, w4, w5, fun x hx => ?_⟩
  rw [sA_s, sA_s]
  by_cases hxe : 60 * u + x = 60 * t + i
  · rw [hxe, uL_s, uL_s]
  · rw [uL_n hxe, uL_n hxe]; exact w6 x hx
theorem l_makeRow {t n : Nat} (ht : t < 6) (hn : n ≤ 60) : ∀ (j i f : Nat) (s : St) (t9 : Lt), i + j = n → j < f → ∃ u, l_X6_makeRow_17 N (nI t) (nI n) f s t9 (nI i) = some (s, u) ∧ (∀ x, i ≤ x → x < n → u 2 (60 * t + x) = 0) ∧ ∀ y, (y < 60 * t + i ∨ 60 * t + n ≤ y) → u 2 y = t9 2 y := by
  intro j
  induction j with
  | zero =>
    intro i f s t9 hi hf
    obtain ⟨f, rfl⟩ : ∃ m, f = m + 1 := ⟨f - 1, by omega⟩
    rw [l_X6_makeRow_17, if_pos (nI_le (by omega) (by omega))]
    exact ⟨t9, rfl, fun x h1 h2 => by omega, fun y _ => rfl⟩
  | succ j ih =>
    intro i f s t9 hi hf
    obtain ⟨f, rfl⟩ : ∃ m, f = m + 1 := ⟨f - 1, by omega⟩
    obtain ⟨u, e, h1, h2⟩ := ih (i + 1) f s (sA t9 2 (vp_updL (t9 2) (60 * t + i) 0)) (by omega) (by omega)
    rw [l_X6_makeRow_17, if_neg (nI_ge (by omega) (by omega)), ix1, ck_n (by omega) (by omega), nm_d, nm_d, nI_1, nI_clamp (by omega)]
    refine ⟨u, e, fun x hx1 hx2 => ?_, fun y hy => ?_⟩
    · by_cases hxi : x = i
      · rw [hxi, h2 (60 * t + i) (by omega), sA_s, uL_s]
      · exact h1 x (by omega) hx2
    · rw [h2 y (by omega), sA_s, uL_n (by omega)]
theorem l_tape {t : Nat} (ht : t < 6) : ∀ (j i f : Nat) (μ : St) (τ : Lt), i + j = 60 → j < f → ∃ w, l_X8_tape_69 N (nI t) f μ τ (nI i) = some (1, μ, w) ∧ (∀ x, i ≤ x → x < 60 → w 65 (60 * t + x) = 0) ∧ ∀ y, (y < 60 * t + i ∨ 60 * t + 60 ≤ y) → w 65 y = τ 65 y := by
  intro j
  induction j with
  | zero =>
    intro i f μ τ hi hf
    obtain ⟨f, rfl⟩ : ∃ m, f = m + 1 := ⟨f - 1, by omega⟩
    obtain rfl : i = 60 := by omega
    rw [l_X8_tape_69, if_pos (show (60 : Int32) ≤ nI 60 from by decide)]
    exact ⟨τ, rfl, fun x h1 h2 => by omega, fun y _ => rfl⟩
  | succ j ih =>
    intro i f μ τ hi hf
    obtain ⟨f, rfl⟩ : ∃ m, f = m + 1 := ⟨f - 1, by omega⟩
    obtain ⟨w, e, h1, h2⟩ := ih (i + 1) f μ (sA τ 65 (vp_updL (τ 65) (60 * t + i) 0)) (by omega) (by omega)
    rw [l_X8_tape_69, if_neg (show ¬ (60 : Int32) ≤ nI i from nI_ge (b := 60) (by omega) (by omega)), ix2, ck_n (by omega) (by omega), nm_d, nm_d, nI_1, nI_clamp (by omega)]
    refine ⟨w, e, fun x hx1 hx2 => ?_, fun y hy => ?_⟩
    · by_cases hxi : x = i
      · rw [hxi, h2 (60 * t + i) (by omega), sA_s, uL_s]
      · exact h1 x (by omega) hx2
    · rw [h2 y (by omega), sA_s, uL_n (by omega)]
/-- a row is made, on both sides -/
theorem made {t n : Nat} {so : Int32} (hN : 1000 ≤ N) (hP : TPR s t9 μ τ) (ht : t < 6) (hn : n ≤ 60) (hso : (so = -1 ∧ n = 0) ∨ ∃ q : Nat, q ≤ 4 ∧ so = nI q) : ∃ s' u μ' w, f_X6_makeRow N s t9 (nI t) so (nI n) = some (s', u) ∧ (∀ v3, (so < 0 ∨ v3 = nI n) → j_X8_tape_44 N μ τ (nI t) so v3 = some (1, μ', w)) ∧ TPR s' u μ' w ∧ ∀ k, k ≠ 63 → k ≠ 64 → μ' k = μ k := by
  have hs := sort_sign hso
  obtain ⟨u, e1, h1, h2⟩ := l_makeRow (N := N) ht hn n 0 N (sA (sA s 0 (upd (s 0) t so)) 1 (upd (s 1) t (nI n))) t9 (by omega) (by omega)
  obtain ⟨w, e2, g1, g2⟩ := l_tape (N := N) ht 60 0 N (sA (sA μ 63 (upd (μ 63) t so)) 64 (upd (μ 64) t (nI n))) τ (by omega) (by omega)
  have e1' : l_X6_makeRow_17 N (nI t) (nI n) N (sA (sA s 0 (upd (s 0) t so)) 1 (upd (s 1) t (nI n))) t9 0 = _ := e1
  have e2' : l_X8_tape_69 N (nI t) N (sA (sA μ 63 (upd (μ 63) t so)) 64 (upd (μ 64) t (nI n))) τ 0 = _ := e2
  refine ⟨sA (sA s 0 (upd (s 0) t so)) 1 (upd (s 1) t (nI n)), u, sA (sA μ 63 (upd (μ 63) t so)) 64 (upd (μ 64) t (nI n)), w, ?_, fun v3 hv3 => ?_, fun q hq => ?_, fun k a b => ?_⟩
  · unfold f_X6_makeRow
    rw [ck_n ht (by omega), nm_d, ck_n ht (by omega), nm_d, nI_clamp (by omega), sA_n _ _ (show 1 ≠ 0 by decide)]
    exact e1'
  · unfold j_X8_tape_44
    rw [ck_n ht (by omega), nm_d, nI_clamp (by omega)]
    by_cases hz : 0 ≤ so
    · have hv : v3 = nI n := by
        rcases hv3 with z | z
        · exact absurd z (i32_nlt.mpr hz)
        · exact z
      rw [if_pos hz, ck_n ht (by omega), nm_d, sA_n _ _ (show 64 ≠ 63 by decide), hv]
      exact e2'
    · have hn0 : n = 0 := by
        rcases hso with ⟨-, z⟩ | ⟨q, hq, z⟩
        · exact z
        · rw [z] at hz; exact absurd (nI_pos' (by omega)) hz
      rw [if_neg hz, ck_n ht (by omega), nm_d, sA_n _ _ (show 64 ≠ 63 by decide)]
      rw [hn0] at e2'
      rw [hn0]
      exact e2'
  · obtain ⟨w1, w2, l', w3, w4, w5, w6⟩ := hP q hq
    simp (disch := omega) only [sA_n, sA_s]
    by_cases hqt : q = t
    · subst hqt
      rw [upd_s, upd_s, upd_s, upd_s]
      exact ⟨rfl, rfl, n, hn, rfl, hso, fun i hi => by rw [h1 i (by omega) hi, g1 i (by omega) (by omega)]⟩
    · rw [upd_n hqt, upd_n hqt, upd_n hqt, upd_n hqt]
      refine ⟨w1, w2, l', w3, w4, w5, fun i hi => ?_⟩
      have ho : 60 * q + i < 60 * t ∨ 60 * t + 60 ≤ 60 * q + i := by omega
      rw [h2 _ (by omega), g2 _ (by omega)]
      exact w6 i hi
  · rw [sA_n _ _ b, sA_n _ _ a]
theorem op_tape (hN : 1000 ≤ N) (hP : TPR s t9 μ τ) (p1 p2 p3 : Int32) : ∃ a s' u μ' w, f_X7_tape N s t9 p1 p2 p3 = some (a, s', u) ∧ f_X8_tape N μ τ p1 p2 p3 = some (a, μ', w) ∧ TPR s' u μ' w ∧ ∀ k, k ≠ 63 → k ≠ 64 → μ' k = μ k := by
  unfold f_X7_tape f_X8_tape
  rcases two_tapes (N := N) p1 with ⟨a, b⟩ | ⟨a, b, t, ht, rfl⟩
  · rw [a, b, cl_s, cl_s, i0, i0]; exact ⟨_, _, _, _, _, rfl, rfl, hP, fun _ _ _ => rfl⟩
  rw [a, b, cl_s, cl_s, i1, i1, f_in, cl_s]
  by_cases hm : p2 = -1
  · subst hm
    obtain ⟨s', u, μ', w, e1, e2, e3, e4⟩ := made (N := N) (t := t) (n := 0) (so := -1) hN hP ht (by omega) (Or.inl ⟨rfl, rfl⟩)
    have e1' : f_X6_makeRow N s t9 (nI t) (-1) 0 = _ := e1
    unfold j_X8_tape_33
    rw [if_pos rfl, e1', cl_s, show wn (-1) (-1) 4 = true from by decide, i1, if_pos (by decide), if_pos (by decide), e2 _ (Or.inl (by decide))]
    exact ⟨_, _, _, _, _, rfl, rfl, e3, e4⟩
  rw [if_neg hm, f_within, cl_s]
  cases hw : wn p2 0 4
  · have hw2 : wn p2 (-1) 4 = false := by
      simp only [wn, decide_eq_false_iff_not] at hw ⊢
      rintro ⟨h1, h2⟩
      refine hw ⟨?_, h2⟩
      rw [Int32.le_iff_toInt_le] at h1 ⊢
      have e1 : (-1 : Int32).toInt = -1 := by decide
      have e0 : (0 : Int32).toInt = 0 := by decide
      have hne : p2.toInt ≠ -1 := fun z => hm (Int32.toInt_inj.mp (by rw [z, e1]))
      omega
    rw [i0, hw2, i0]; exact ⟨_, _, _, _, _, rfl, rfl, hP, fun _ _ _ => rfl⟩
  obtain ⟨q, hq, rfl⟩ := wn_nat (n := 4) (by omega) hw
  have hw2 : wn (nI q) (-1) 4 = true := by
    simp only [wn, decide_eq_true_eq] at hw ⊢
    exact ⟨Int32.le_trans (by decide) hw.1, hw.2⟩
  have hq0 : ¬ nI q < 0 := nI_pos (by omega)
  rw [i1, hw2, i1, if_neg hq0]
  by_cases h60 : p3 ≤ 60
  · unfold j_X8_tape_33
    rw [if_pos h60, if_pos h60, if_neg hq0]
    by_cases h0 : 0 ≤ p3
    · obtain ⟨n, hn, rfl⟩ : ∃ n, n ≤ 60 ∧ p3 = nI n := by
        have : wn p3 0 60 = true := by simp only [wn, decide_eq_true_eq]; exact ⟨h0, h60⟩
        exact wn_nat (n := 60) (by omega) this
      obtain ⟨s', u, μ', w, e1, e2, e3, e4⟩ := made (N := N) (t := t) (n := n) (so := nI q) hN hP ht hn (Or.inr ⟨q, hq, rfl⟩)
      rw [if_pos h0, if_pos h0, e1, cl_s, e2 _ (Or.inr rfl)]
      exact ⟨_, _, _, _, _, rfl, rfl, e3, e4⟩
    · rw [if_neg h0, if_neg h0]; exact ⟨_, _, _, _, _, rfl, rfl, hP, fun _ _ _ => rfl⟩
  · rw [if_neg h60, if_neg h60]; exact ⟨_, _, _, _, _, rfl, rfl, hP, fun _ _ _ => rfl⟩
/-- how far a stretch may begin -/
theorem sub_le1 {l t : Nat} (hl : l ≤ 60) (ht : t ≤ 60) (x : Int32) : (x ≤ nI l - nI t - 1 ↔ x < nI l - nI t) := by
  have e1 : (nI l - nI t).toInt = (l : Int) - t := pk_sub_toInt (by omega) (by omega)
  have e2 : (nI l - nI t - 1).toInt = (l : Int) - t - 1 := by
    rw [Int32.toInt_sub, e1, show (1 : Int32).toInt = 1 from by decide]
    exact Int.bmod_eq_of_le (by omega) (by omega)
  rw [Int32.le_iff_toInt_le, Int32.lt_iff_toInt_lt, e1, e2]; omega
theorem op_judge (hN : 1000 ≤ N) (hG : GI L h σ μ C S H d) (hP : TPR s t9 μ τ) (p1 p2 : Int32) : ∃ a, f_X7_judge N σ s t9 p1 p2 = some a ∧ f_X8_judge N μ τ p1 p2 = some a := by
  obtain ⟨hC, hH, hX, hM, hS, hR, hO, hd⟩ := hG
  have hT := hC.1
  unfold f_X7_judge f_X8_judge
  rcases two_tapes (N := N) p1 with ⟨a, b⟩ | ⟨a, b, t, ht, rfl⟩
  · rw [a, b, cl_s, cl_s, i0, i0]; exact ⟨_, rfl, rfl⟩
  obtain ⟨q1, q2, l, hl, q3, q4, q5⟩ := hP t ht
  have hs := sort_sign q4
  rw [a, b, cl_s, cl_s, i1, i1, ck_n (by omega) (by omega), ck_n (by omega) (by omega), ck_n (by omega) (by omega), ck_n (by omega) (by omega), nI_clamp (by omega), ← q1]
  have key : (s 0 t = 1 ∨ s 0 t = -1) → ∀ (j k n n' : Nat), k + j = cT C → j < n → j < n' → ∃ a, l_X7_judge_44 N σ s t9 (nI t) p2 n (nI k) = some a ∧ l_X8_judge_34 N μ τ (nI t) p2 n' (nI k) = some a := by
    intro hso j
    induction j with
    | zero =>
      intro k n n' hk hn hn'
      obtain ⟨n, rfl⟩ : ∃ m, n = m + 1 := ⟨n - 1, by omega⟩
      obtain ⟨n', rfl⟩ : ∃ m, n' = m + 1 := ⟨n' - 1, by omega⟩
      rw [l_X7_judge_44, l_X8_judge_34, hX.1, hM.1, if_pos (nI_le (by omega) (by omega)), if_pos (nI_le (by omega) (by omega))]
      exact ⟨_, rfl, rfl⟩
    | succ j ih =>
      intro k n n' hk hn hn'
      obtain ⟨n, rfl⟩ : ∃ m, n = m + 1 := ⟨n - 1, by omega⟩
      obtain ⟨n', rfl⟩ : ∃ m, n' = m + 1 := ⟨n' - 1, by omega⟩
      rw [l_X7_judge_44, l_X8_judge_34, hX.1, hM.1, if_neg (nI_ge (by omega) (by omega)), if_neg (nI_ge (by omega) (by omega)), ck_n ht (by omega), ck_n ht (by omega), ck_n ht (by omega), nI_clamp (by omega), ← q1, ← q2, q3]
      have hlt : ∀ p : Int32, ¬ p < 0 → p < nI l - nI k → ∃ i, p = nI i ∧ i + k < l := by
        intro p hp hq
        obtain ⟨i, hi, rfl⟩ := nI_of hp
        rw [Int32.lt_iff_toInt_lt, nI_toInt hi, pk_sub_toInt (by omega) (by omega)] at hq
        exact ⟨i, rfl, by omega⟩
      by_cases hp : p2 < 0
      · rw [if_pos hp, if_pos hp]
        by_cases hz : s 0 t < 0
        · rw [if_pos hz]; exact ⟨_, rfl, rfl⟩
        · rw [if_neg hz]; exact ⟨_, rfl, rfl⟩
      · rw [if_neg hp, if_neg hp]
        by_cases hq : p2 < nI l - nI k
        · obtain ⟨i, rfl, hik⟩ := hlt p2 hp hq
          have hz : ¬ s 0 t < 0 := by
            rcases q4 with ⟨-, z2⟩ | ⟨q, hq, z⟩
            · omega
            · rw [z]; exact nI_pos (by omega)
          unfold f_X6_itemAt
          rw [if_pos hq, if_neg hz, if_pos ((sub_le1 hl (by omega) _).mpr hq), ix2, nI_add, nI_add, ix1, ck_n (by omega) (by omega), ck_n (by omega) (by omega), cl_s, ck_n (by omega) (by omega), ck_n (by omega) (by omega), nI_clamp (by omega), nI_clamp (by omega), nI_clamp (by omega), q5 (i + k) hik, Nat.add_assoc, hX.2.2.2.1 k (by omega), hM.2.2.2.1 k (by omega)]
          by_cases hc : lg_cmp (τ 65 (60 * t + (i + k))) (nI (cM C k)).toInt64 = 0
          · rw [if_pos hc, if_pos hc, nm_d, nm_d, nI_1]
            exact ih (k + 1) n n' (by omega) (by omega) (by omega)
          · rw [if_neg hc, if_neg hc]; exact ⟨_, rfl, rfl⟩
        · rw [if_neg hq]
          by_cases hz : s 0 t < 0
          · rw [if_pos hz]; exact ⟨_, rfl, rfl⟩
          · rw [if_neg hz, if_neg (fun z => hq ((sub_le1 hl (by omega) _).mp z))]; exact ⟨_, rfl, rfl⟩
  by_cases h1 : s 0 t = 1
  · obtain ⟨r, e1, e2⟩ := key (Or.inl h1) (cT C) 0 N N (by omega) (by omega) (by omega)
    rw [if_pos h1, if_neg (by rw [h1]; decide), if_pos h1]
    exact ⟨r, e1, e2⟩
  · rw [if_neg h1]
    by_cases h2 : s 0 t = -1
    · obtain ⟨r, e1, e2⟩ := key (Or.inr h2) (cT C) 0 N N (by omega) (by omega) (by omega)
      rw [if_pos h2, if_pos (hs.1.mp h2)]
      exact ⟨r, e1, e2⟩
    · rw [if_neg h2, if_neg (fun z => h2 (hs.1.mpr z)), if_neg h1]; exact ⟨_, rfl, rfl⟩
end
