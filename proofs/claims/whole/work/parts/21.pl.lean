/-! ===== pure layer L: twins, cover, fitting, told, of ===== -/
theorem nI_xor (a b : Nat) : nI a ^^^ nI b = nI (a ^^^ b) := by
  unfold nI; rw [← Int32.toBitVec_inj, Int32.toBitVec_xor]
  show BitVec.ofNat 32 a ^^^ BitVec.ofNat 32 b = BitVec.ofNat 32 (a ^^^ b)
  first
    | exact BitVec.ofNat_xor.symm
    | exact (BitVec.ofNat_xor _ _).symm
    | (apply BitVec.eq_of_toNat_eq; simp [Nat.xor_mod_two_pow])
/-- the least so far: of the class, of the reference -/
def TW (v f l : Int32) : Prop := (v = -5 ∧ f = 255) ∨ (¬ v < 0 ∧ f = l)
theorem i32_lt_max {n : Nat} (h : n < 100) : ¬ (255 : Int32) ≤ nI n := nI_ge (b := 255) (by omega) (by omega)
theorem tw_step {v f l : Int32} {a b q : Nat} (h : TW v f l) (ha : a < 6) (hb : b < 6) (hq : q < 100) {α β : Type} (X : Int32 → Int32 → α) (Y : Int32 → Int32 → β) :
    ∃ v' f' l', TW v' f' l' ∧ (if f ≤ nI q then X v f else X (10 * nI a + nI b) (nI q)) = X v' f' ∧ (if v < 0 then Y (10 * nI a + nI b) (nI q) else if nI q < l then Y (10 * nI a + nI b) (nI q) else Y v l) = Y v' l' := by
  have e : 10 * nI a + nI b = nI (10 * a + b) := by rw [show (10 : Int32) = nI 10 from rfl, pk_mul, nI_add]
  rw [e]
  have hp : ¬ nI (10 * a + b) < 0 := nI_pos (by omega)
  rcases h with ⟨h1, h2⟩ | ⟨h1, h2⟩
  · subst h1; subst h2
    exact ⟨_, _, nI q, Or.inr ⟨hp, rfl⟩, by rw [if_neg (i32_lt_max hq)], by rw [if_pos (by decide)]⟩
  · subst h2
    by_cases hc : f ≤ nI q
    · exact ⟨v, f, f, Or.inr ⟨h1, rfl⟩, by rw [if_pos hc], by rw [if_neg h1, if_neg (i32_nlt.mpr hc)]⟩
    · have hc2 : nI q < f := by rw [← i32_nlt] at hc; exact Decidable.not_not.mp hc
      exact ⟨_, _, nI q, Or.inr ⟨hp, rfl⟩, by rw [if_neg hc], by rw [if_neg h1, if_pos hc2]⟩
/-- all marks of a set -/
def mo (C : Cr) (s : Nat) : Nat := orL (cM C) ((List.range (cT C)).filter (fun t => s.testBit t))
theorem all_t : ∀ T : Nat, T < 7 → ((1 : Int32) <<< (nI T &&& 31)) - 1 = nI (2 ^ T - 1) ∧ 2 ^ T - 1 < 64 := by
  have h : (List.range 7).all (fun T => decide (((1 : Int32) <<< (nI T &&& 31)) - 1 = nI (2 ^ T - 1) ∧ 2 ^ T - 1 < 64)) = true := by decide +kernel
  intro T hT
  exact of_decide_eq_true (List.all_eq_true.mp h T (List.mem_range.mpr hT))
theorem pn_all : ∀ T : Nat, T < 7 → ∀ k : Nat, k < 64 → k < 2 ^ T - 1 → pn k < pn (2 ^ T - 1) := by
  have h : (List.range 7).all (fun T => (List.range 64).all (fun k => decide (k < 2 ^ T - 1 → pn k < pn (2 ^ T - 1)))) = true := by decide +kernel
  intro T hT k hk
  exact of_decide_eq_true (List.all_eq_true.mp (List.all_eq_true.mp h T (List.mem_range.mpr hT)) k (List.mem_range.mpr hk))
theorem pc_le {a b : Nat} (ha : a < 256) (hb : b < 256) : pc (nI a) ≤ pc (nI b) ↔ pn a ≤ pn b := by
  rw [(pc_pn a ha).1, (pc_pn b hb).1, nI_leI (by have := (pc_pn a ha).2; omega) (by have := (pc_pn b hb).2; omega)]
theorem pc_lt {a b : Nat} (ha : a < 256) (hb : b < 256) : pc (nI a) < pc (nI b) ↔ pn a < pn b := by
  rw [(pc_pn a ha).1, (pc_pn b hb).1, nI_ltI (by have := (pc_pn a ha).2; omega) (by have := (pc_pn b hb).2; omega)]
/-- how many of n from k on -/
def cd (p : Nat → Bool) : Nat → Nat → Nat
  | 0, _ => 0
  | n + 1, k => (if p k = true then 1 else 0) + cd p n (k + 1)
theorem cd_le (p : Nat → Bool) : ∀ n k, cd p n k ≤ n
  | 0, _ => Nat.le_refl _
  | n + 1, k => by
    unfold cd
    have := cd_le p n (k + 1)
    split <;> omega
def setM (C : Cr) (t m : Nat) : Cr := (cT C, cK C, cV C, (fun i => if i = t then m else cM C i), cR C)
def setV (C : Cr) (t v : Nat) : Cr := (cT C, cK C, (fun i => if i = t then v else cV C i), cM C, cR C)
theorem setM_setM (C : Cr) (t a b : Nat) : setM (setM C t a) t b = setM C t b := by
  unfold setM
  show (cT C, cK C, cV C, _, cR C) = (cT C, cK C, cV C, _, cR C)
  congr 4
  funext i
  show (if i = t then b else (if i = t then a else cM C i)) = (if i = t then b else cM C i)
  by_cases h : i = t
  · rw [if_pos h, if_pos h]
  · rw [if_neg h, if_neg h, if_neg h]
theorem setM_self (C : Cr) (t : Nat) : setM C t (cM C t) = C := by
  unfold setM
  have : (fun i => if i = t then cM C t else cM C i) = cM C := by
    funext i
    by_cases h : i = t <;> simp [h]
  rw [this]
theorem setV_setV (C : Cr) (t a b : Nat) : setV (setV C t a) t b = setV C t b := by
  unfold setV
  show (cT C, cK C, _, cM C, cR C) = (cT C, cK C, _, cM C, cR C)
  congr 3
  congr 1
  funext i
  show (if i = t then b else (if i = t then a else cV C i)) = (if i = t then b else cV C i)
  by_cases h : i = t
  · rw [if_pos h, if_pos h]
  · rw [if_neg h, if_neg h, if_neg h]
theorem setV_self (C : Cr) (t : Nat) : setV C t (cV C t) = C := by
  unfold setV
  have : (fun i => if i = t then cV C t else cV C i) = cV C := by
    funext i
    by_cases h : i = t <;> simp [h]
  rw [this]
section
variable {N : Nat} {L : List SR} {h h2 : Option SR} {σ σ2 μ s : St} {C : Cr} {S : Sn} {H : List Nat} {d : Nat}
theorem Wf.setM {t m : Nat} (hC : Wf C) (hm : m ≤ 255) : Wf (setM C t m) := by
  obtain ⟨a, b, c, e, f⟩ := hC
  refine ⟨a, b, c, fun i hi => ?_, f⟩
  show (if i = t then m else cM C i) ≤ 255
  split
  · exact hm
  · exact e i hi
theorem Wf.setV {t m : Nat} (hC : Wf C) (hm : m ≤ 9) : Wf (setV C t m) := by
  obtain ⟨a, b, c, e, f⟩ := hC
  refine ⟨a, b, fun i hi => ?_, e, f⟩
  show (if i = t then m else cV C i) ≤ 9
  split
  · exact hm
  · exact c i hi
theorem XS.setM {t m : Nat} (hX : XS σ C H d) : XS (sA σ 3 (upd (σ 3) t (nI m))) (setM C t m) H d := by
  obtain ⟨a0, a1, a2, a3, a4, a4', a6, a5, a7, a8⟩ := hX
  refine ⟨by rw [sA_n _ _ (by decide)]; exact a0, fun i hi => by rw [sA_n _ _ (by decide)]; exact a1 i hi, fun i hi => by rw [sA_n _ _ (by decide)]; exact a2 i hi, fun i hi => ?_, fun i hi => by rw [sA_n _ _ (by decide)]; exact a4 i hi, fun i hi hj => by rw [sA_n _ _ (by decide)]; exact a4' i hi hj, by rw [sA_n _ _ (by decide)]; exact a6, fun i u hu => by rw [sA_n _ _ (by decide)]; exact a5 i u hu, by rw [sA_n _ _ (by decide)]; exact a7, by rw [sA_n _ _ (by decide)]; exact a8⟩
  show sA σ 3 (upd (σ 3) t (nI m)) 3 i = nI (if i = t then m else cM C i)
  rw [sA_s]
  by_cases h : i = t
  · rw [h, upd_s, if_pos rfl]
  · rw [upd_n h, if_neg h]; exact a3 i hi
theorem MS.setM {t m : Nat} (hM : MS μ C H d) : MS (sA μ 5 (upd (μ 5) t (nI m))) (setM C t m) H d := by
  obtain ⟨a0, a1, a2, a3, a4, a6, a5, a8⟩ := hM
  refine ⟨by rw [sA_n _ _ (by decide)]; exact a0, fun i hi => by rw [sA_n _ _ (by decide)]; exact a1 i hi, fun i hi => by rw [sA_n _ _ (by decide)]; exact a2 i hi, fun i hi => ?_, fun i hi => by rw [sA_n _ _ (by decide)]; exact a4 i hi, by rw [sA_n _ _ (by decide)]; exact a6, fun i u hu => by rw [sA_n _ _ (by decide)]; exact a5 i u hu, by rw [sA_n _ _ (by decide)]; exact a8⟩
  show sA μ 5 (upd (μ 5) t (nI m)) 5 i = nI (if i = t then m else cM C i)
  rw [sA_s]
  by_cases h : i = t
  · rw [h, upd_s, if_pos rfl]
  · rw [upd_n h, if_neg h]; exact a3 i hi
theorem XS.setV {t m : Nat} (hX : XS σ C H d) : XS (sA σ 2 (upd (σ 2) t (nI m))) (setV C t m) H d := by
  obtain ⟨a0, a1, a2, a3, a4, a4', a6, a5, a7, a8⟩ := hX
  refine ⟨by rw [sA_n _ _ (by decide)]; exact a0, fun i hi => by rw [sA_n _ _ (by decide)]; exact a1 i hi, fun i hi => ?_, fun i hi => by rw [sA_n _ _ (by decide)]; exact a3 i hi, fun i hi => by rw [sA_n _ _ (by decide)]; exact a4 i hi, fun i hi hj => by rw [sA_n _ _ (by decide)]; exact a4' i hi hj, by rw [sA_n _ _ (by decide)]; exact a6, fun i u hu => by rw [sA_n _ _ (by decide)]; exact a5 i u hu, by rw [sA_n _ _ (by decide)]; exact a7, by rw [sA_n _ _ (by decide)]; exact a8⟩
  show sA σ 2 (upd (σ 2) t (nI m)) 2 i = nI (if i = t then m else cV C i)
  rw [sA_s]
  by_cases h : i = t
  · rw [h, upd_s, if_pos rfl]
  · rw [upd_n h, if_neg h]; exact a2 i hi
theorem MS.setV {t m : Nat} (hM : MS μ C H d) : MS (sA μ 4 (upd (μ 4) t (nI m))) (setV C t m) H d := by
  obtain ⟨a0, a1, a2, a3, a4, a6, a5, a8⟩ := hM
  refine ⟨by rw [sA_n _ _ (by decide)]; exact a0, fun i hi => by rw [sA_n _ _ (by decide)]; exact a1 i hi, fun i hi => ?_, fun i hi => by rw [sA_n _ _ (by decide)]; exact a3 i hi, fun i hi => by rw [sA_n _ _ (by decide)]; exact a4 i hi, by rw [sA_n _ _ (by decide)]; exact a6, fun i u hu => by rw [sA_n _ _ (by decide)]; exact a5 i u hu, by rw [sA_n _ _ (by decide)]; exact a8⟩
  show sA μ 4 (upd (μ 4) t (nI m)) 4 i = nI (if i = t then m else cV C i)
  rw [sA_s]
  by_cases h : i = t
  · rw [h, upd_s, if_pos rfl]
  · rw [upd_n h, if_neg h]; exact a2 i hi
theorem l_twins_in (hN : 1000 ≤ N) (hC : Wf C) (hX : XS σ C H d) (hM : MS μ C H d) {a : Nat} (ha : a < cT C) : ∀ (j b n n' : Nat) (v f l : Int32), b + j = cT C → j < n → j < n' → TW v f l → ∃ v' f' l', TW v' f' l' ∧ (∀ K, l_X7_twinsNow_25 N K σ (nI a) n v f (nI b) = K v' f' (nI (a + 1))) ∧ (∀ K, l_X8_twins_20 N K μ (nI a) n' v l (nI b) = K v' l' (nI (a + 1))) := by
  have hT := hC.1
  intro j
  induction j with
  | zero =>
    intro b n n' v f l hb hn hn' hw
    obtain ⟨n, rfl⟩ : ∃ m, n = m + 1 := ⟨n - 1, by omega⟩
    obtain ⟨n', rfl⟩ : ∃ m, n' = m + 1 := ⟨n' - 1, by omega⟩
    obtain rfl : b = cT C := by omega
    exact ⟨v, f, l, hw, fun K => by rw [l_X7_twinsNow_25, hX.1, if_pos (nI_le (Nat.le_refl _) (by omega)), nm_d, nI_1], fun K => by rw [l_X8_twins_20, hM.1, if_pos (nI_le (Nat.le_refl _) (by omega)), nm_d, nI_1]⟩
  | succ j ih =>
    intro b n n' v f l hb hn hn' hw
    obtain ⟨n, rfl⟩ : ∃ m, n = m + 1 := ⟨n - 1, by omega⟩
    obtain ⟨n', rfl⟩ : ∃ m, n' = m + 1 := ⟨n' - 1, by omega⟩
    have ma := hC.2.2.2.1 a ha
    have mb := hC.2.2.2.1 b (by omega)
    have hx : cM C a ^^^ cM C b < 256 := Nat.xor_lt_two_pow (n := 8) (by omega) (by omega)
    obtain ⟨hpe, hp8⟩ := pc_pn _ hx
    obtain ⟨v1, f1, l1, hw1, e1, e2⟩ : ∃ v' f' l', TW v' f' l' ∧ (∀ K, l_X7_twinsNow_25 N K σ (nI a) (n + 1) v f (nI b) = l_X7_twinsNow_25 N K σ (nI a) n v' f' (nI (b + 1))) ∧ (∀ K, l_X8_twins_20 N K μ (nI a) (n' + 1) v l (nI b) = l_X8_twins_20 N K μ (nI a) n' v' l' (nI (b + 1))) := by
      obtain ⟨v', f', l', h0, -, -⟩ := tw_step hw (show a < 6 by omega) (show b < 6 by omega) (show pn (cM C a ^^^ cM C b) < 100 by omega) (fun x y => (x, y)) (fun x y => (x, y))
      have g := fun K => tw_step hw (show a < 6 by omega) (show b < 6 by omega) (show pn (cM C a ^^^ cM C b) < 100 by omega) (fun x y => (x, y)) (fun x y => (x, y))
      rcases hw with ⟨h1, h2⟩ | ⟨h1, h2⟩
      · subst h1; subst h2
        refine ⟨nI (10 * a + b), nI (pn (cM C a ^^^ cM C b)), nI (pn (cM C a ^^^ cM C b)), Or.inr ⟨nI_pos (by omega), rfl⟩, fun K => ?_, fun K => ?_⟩
        · rw [l_X7_twinsNow_25, hX.1, if_neg (nI_ge (by omega) (by omega)), ck_n (by omega) (by omega), ck_n (by omega) (by omega), nI_clamp (by omega), nI_clamp (by omega), hX.2.2.2.1 a ha, hX.2.2.2.1 b (by omega), nI_xor, f_bitCount, cl_s, hpe, if_neg (i32_lt_max (by omega)), nm_d, nm_d, nI_1, show (10 : Int32) = nI 10 from rfl, pk_mul, nI_add]
        · rw [l_X8_twins_20, hM.1, if_neg (nI_ge (by omega) (by omega)), ck_n (by omega) (by omega), ck_n (by omega) (by omega), nI_clamp (by omega), nI_clamp (by omega), hM.2.2.2.1 a ha, hM.2.2.2.1 b (by omega), nI_xor, f_bits (by omega) hx, cl_s, hpe, if_pos (by decide), nm_d, nm_d, nI_1, show (10 : Int32) = nI 10 from rfl, pk_mul, nI_add]
      · subst h2
        by_cases hc : f ≤ nI (pn (cM C a ^^^ cM C b))
        · refine ⟨v, f, f, Or.inr ⟨h1, rfl⟩, fun K => ?_, fun K => ?_⟩
          · rw [l_X7_twinsNow_25, hX.1, if_neg (nI_ge (by omega) (by omega)), ck_n (by omega) (by omega), ck_n (by omega) (by omega), nI_clamp (by omega), nI_clamp (by omega), hX.2.2.2.1 a ha, hX.2.2.2.1 b (by omega), nI_xor, f_bitCount, cl_s, hpe, if_pos hc, nm_d, nI_1]
          · rw [l_X8_twins_20, hM.1, if_neg (nI_ge (by omega) (by omega)), ck_n (by omega) (by omega), ck_n (by omega) (by omega), nI_clamp (by omega), nI_clamp (by omega), hM.2.2.2.1 a ha, hM.2.2.2.1 b (by omega), nI_xor, f_bits (by omega) hx, cl_s, hpe, if_neg h1, if_neg (i32_nlt.mpr hc), nm_d, nI_1]
        · have hc2 : nI (pn (cM C a ^^^ cM C b)) < f := by rw [← i32_nlt] at hc; exact Decidable.not_not.mp hc
          refine ⟨nI (10 * a + b), nI (pn (cM C a ^^^ cM C b)), nI (pn (cM C a ^^^ cM C b)), Or.inr ⟨nI_pos (by omega), rfl⟩, fun K => ?_, fun K => ?_⟩
          · rw [l_X7_twinsNow_25, hX.1, if_neg (nI_ge (by omega) (by omega)), ck_n (by omega) (by omega), ck_n (by omega) (by omega), nI_clamp (by omega), nI_clamp (by omega), hX.2.2.2.1 a ha, hX.2.2.2.1 b (by omega), nI_xor, f_bitCount, cl_s, hpe, if_neg hc, nm_d, nm_d, nI_1, show (10 : Int32) = nI 10 from rfl, pk_mul, nI_add]
          · rw [l_X8_twins_20, hM.1, if_neg (nI_ge (by omega) (by omega)), ck_n (by omega) (by omega), ck_n (by omega) (by omega), nI_clamp (by omega), nI_clamp (by omega), hM.2.2.2.1 a ha, hM.2.2.2.1 b (by omega), nI_xor, f_bits (by omega) hx, cl_s, hpe, if_neg h1, if_pos hc2, nm_d, nm_d, nI_1, show (10 : Int32) = nI 10 from rfl, pk_mul, nI_add]
    obtain ⟨v2, f2, l2, hw2, e3, e4⟩ := ih (b + 1) n n' v1 f1 l1 (by omega) (by omega) (by omega) hw1
    exact ⟨v2, f2, l2, hw2, fun K => by rw [e1, e3], fun K => by rw [e2, e4]⟩
theorem op_twins (hN : 1000 ≤ N) (hC : Wf C) (hX : XS σ C H d) (hM : MS μ C H d) : ∃ a, f_X7_twinsNow N σ = some a ∧ f_X8_twins N μ = some a := by
  have hT := hC.1
  have key : ∀ (j a n n' : Nat) (v f l : Int32), a + j = cT C → j < n → j < n' → TW v f l → ∃ r, l_X7_twinsNow_9 N σ n v f (nI a) = some r ∧ l_X8_twins_7 N μ n' v l (nI a) = some r := by
    intro j
    induction j with
    | zero =>
      intro a n n' v f l ha hn hn' hw
      obtain ⟨n, rfl⟩ : ∃ m, n = m + 1 := ⟨n - 1, by omega⟩
      obtain ⟨n', rfl⟩ : ∃ m, n' = m + 1 := ⟨n' - 1, by omega⟩
      obtain rfl : a = cT C := by omega
      exact ⟨v, by rw [l_X7_twinsNow_9, hX.1, if_pos (nI_le (Nat.le_refl _) (by omega))], by rw [l_X8_twins_7, hM.1, if_pos (nI_le (Nat.le_refl _) (by omega))]⟩
    | succ j ih =>
      intro a n n' v f l ha hn hn' hw
      obtain ⟨n, rfl⟩ : ∃ m, n = m + 1 := ⟨n - 1, by omega⟩
      obtain ⟨n', rfl⟩ : ∃ m, n' = m + 1 := ⟨n' - 1, by omega⟩
      obtain ⟨v1, f1, l1, hw1, e1, e2⟩ := l_twins_in (N := N) hN hC hX hM (show a < cT C by omega) j (a + 1) N N v f l (by omega) (by omega) (by omega) hw
      rw [l_X7_twinsNow_9, hX.1, if_neg (nI_ge (by omega) (by omega)), l_X8_twins_7, hM.1, if_neg (nI_ge (by omega) (by omega)), nm_d, nm_d, nI_1, e1, e2]
      exact ih (a + 1) n n' v1 f1 l1 (by omega) (by omega) (by omega) hw1
  unfold f_X7_twinsNow f_X8_twins
  rw [nm_d, nm_d]
  exact key (cT C) 0 N N (-5) 255 0 (by omega) (by omega) (by omega) (Or.inl ⟨rfl, rfl⟩)
theorem m_marksOf (hN : 1000 ≤ N) (hC : Wf C) (hM : MS μ C H d) (s : Nat) (hs : s < 64) : f_X8_marksOf N μ (nI s) = some (nI (mo C s)) := by
  have hT := hC.1
  have key : ∀ (j k n : Nat), k + j = cT C → j < n → l_X8_marksOf_4 N μ (nI s) n (nI (orL (cM C) ((List.range k).filter (fun t => s.testBit t)))) (nI k) = some (nI (mo C s)) := by
    intro j
    induction j with
    | zero =>
      intro k n hk hn
      obtain ⟨n, rfl⟩ : ∃ m, n = m + 1 := ⟨n - 1, by omega⟩
      obtain rfl : k = cT C := by omega
      rw [l_X8_marksOf_4, hM.1, if_pos (nI_le (Nat.le_refl _) (by omega))]; rfl
    | succ j ih =>
      intro k n hk hn
      obtain ⟨n, rfl⟩ : ∃ m, n = m + 1 := ⟨n - 1, by omega⟩
      have h1 := ih (k + 1) n (by omega) (by omega)
      rw [List.range_succ, List.filter_append] at h1
      rw [l_X8_marksOf_4, hM.1, if_neg (nI_ge (by omega) (by omega)), f_has, cl_s]
      by_cases hb : s.testBit k = true
      · have e := (bit_t s hs k (by omega)).mpr hb
        simp only [e, decide_true]
        rw [i1, ck_n (by omega) (by omega), nm_d, nm_d, nI_clamp (by omega), hM.2.2.2.1 k (by omega), nI_or, nI_1]
        rw [show [k].filter (fun t => s.testBit t) = [k] from by simp [hb], orL_app] at h1
        simpa [orL] using h1
      · have e : ¬ (nI s >>> (nI k &&& 31)) &&& 1 = 1 := fun z => hb ((bit_t s hs k (by omega)).mp z)
        simp only [e, decide_false]
        rw [i0, nm_d, nm_d, nI_1, show (0 : Int32) = nI 0 from rfl, nI_or, Nat.or_zero]
        rw [show [k].filter (fun t => s.testBit t) = [] from by simp [hb], List.append_nil] at h1
        exact h1
  exact key (cT C) 0 N (by omega) (by omega)
/-- v is the best of those with p among the q's -/
def CB (C : Cr) (q : Nat → Prop) (v : Nat) : Prop := mo C v = mo C (2 ^ cT C - 1) ∧ v ≤ 2 ^ cT C - 1 ∧ ∀ s, s ≤ 2 ^ cT C - 1 → q s → mo C s = mo C (2 ^ cT C - 1) → pn v < pn s ∨ (pn v = pn s ∧ v ≤ s)
theorem CB_one {a b : Nat} (ha : CB C (fun _ => True) a) (hb : CB C (fun _ => True) b) : a = b := by
  have h1 := ha.2.2 b hb.2.1 trivial hb.1
  have h2 := hb.2.2 a ha.2.1 trivial ha.1
  omega
theorem op_cover (hN : 1000 ≤ N) (hC : Wf C) (hX : XS σ C H d) (hM : MS μ C H d) : ∃ a, f_X7_coverNow N σ = some a ∧ f_X8_cover N μ = some a := by
  have hT := hC.1
  obtain ⟨hall, ha64⟩ := all_t (cT C) (by omega)
  have hxm : ∀ s, s < 64 → f_X2_marksOf N σ (nI s) = some (nI (mo C s)) := fun s hs => x_marksOf hN hC hX s hs
  have hmm : ∀ s, s < 64 → f_X8_marksOf N μ (nI s) = some (nI (mo C s)) := fun s hs => m_marksOf hN hC hM s hs
  have mo_lt : ∀ s, mo C s < 256 := fun s => orL_lt (k := 8) (fun t ht => by have := hC.2.2.2.1 t (List.mem_range.mp (List.mem_filter.mp ht).1); omega)
  have kx : ∀ (j k n v : Nat), k + j = 2 ^ cT C - 1 → j < n → (v < k ∨ v = 2 ^ cT C - 1) → CB C (fun s => s < k ∨ s = 2 ^ cT C - 1) v → ∃ a, l_X7_coverNow_26 N σ (nI (2 ^ cT C - 1)) (nI (mo C (2 ^ cT C - 1))) n (nI v) (nI k) = some (nI a) ∧ CB C (fun _ => True) a := by
    intro j
    induction j with
    | zero =>
      intro k n v hk hn hv hb
      obtain ⟨n, rfl⟩ : ∃ m, n = m + 1 := ⟨n - 1, by omega⟩
      rw [l_X7_coverNow_26, if_pos (nI_le (by omega) (by omega))]
      exact ⟨v, rfl, hb.1, hb.2.1, fun s hs _ => hb.2.2 s hs (by omega)⟩
    | succ j ih =>
      intro k n v hk hn hv hb
      obtain ⟨n, rfl⟩ : ∃ m, n = m + 1 := ⟨n - 1, by omega⟩
      have hv64 := hb.2.1
      have hpa := pn_all (cT C) (by omega) k (by omega) (by omega)
      rw [l_X7_coverNow_26, if_neg (nI_ge (by omega) (by omega)), f_bitCount, cl_s, f_bitCount, cl_s]
      unfold j_X7_coverNow_49
      by_cases hq : pn v ≤ pn k
      · rw [if_pos ((pc_le (by omega) (by omega)).mpr hq), if_pos rfl, nm_d, nI_1]
        refine ih (k + 1) n v (by omega) (by omega) (by omega) ⟨hb.1, hb.2.1, fun s hs h1 h2 => ?_⟩
        by_cases hsk : s = k
        · subst hsk
          rcases hv with hv | hv
          · omega
          · rw [hv] at hq; omega
        · exact hb.2.2 s hs (by omega) h2
      · rw [if_neg (fun z => hq ((pc_le (by omega) (by omega)).mp z)), if_neg (show ¬ (1 : Int32) = 0 from by decide), hxm k (by omega), cl_s]
        by_cases hp : mo C k = mo C (2 ^ cT C - 1)
        · rw [if_pos (by rw [hp]), nm_d, nI_1]
          refine ih (k + 1) n k (by omega) (by omega) (by omega) ⟨hp, by omega, fun s hs h1 h2 => ?_⟩
          by_cases hsk : s = k
          · subst hsk; omega
          · have := hb.2.2 s hs (by omega) h2; omega
        · rw [if_neg (fun z => hp ((nI_eq (by have := mo_lt k; omega) (by have := mo_lt (2 ^ cT C - 1); omega)).mp z)), nm_d, nI_1]
          refine ih (k + 1) n v (by omega) (by omega) (by omega) ⟨hb.1, hb.2.1, fun s hs h1 h2 => ?_⟩
          by_cases hsk : s = k
          · subst hsk; exact absurd h2 hp
          · exact hb.2.2 s hs (by omega) h2
  have km : ∀ (k n v : Nat), k ≤ 2 ^ cT C → k < n → (k ≤ v ∨ v = 2 ^ cT C - 1) → CB C (fun s => k ≤ s ∨ s = 2 ^ cT C - 1) v → ∃ a, l_X8_cover_13 N μ (nI (2 ^ cT C - 1)) n (nI v) (nI k + (-1)) = some (nI a) ∧ CB C (fun _ => True) a := by
    intro k
    induction k with
    | zero =>
      intro n v hk hn hv hb
      obtain ⟨n, rfl⟩ : ∃ m, n = m + 1 := ⟨n - 1, by omega⟩
      rw [l_X8_cover_13, if_pos (by decide)]
      exact ⟨v, rfl, hb.1, hb.2.1, fun s hs _ => hb.2.2 s hs (by omega)⟩
    | succ k ih =>
      intro n v hk hn hv hb
      obtain ⟨n, rfl⟩ : ∃ m, n = m + 1 := ⟨n - 1, by omega⟩
      have hv64 := hb.2.1
      rw [l_X8_cover_13, pk_m1, if_neg (nI_pos (by omega)), f_bits (by omega) (by omega), cl_s, f_bits (by omega) (by omega), cl_s]
      by_cases hq : pn v < pn k
      · rw [if_pos ((pc_lt (by omega) (by omega)).mpr hq), nm_d]
        refine ih n v (by omega) (by omega) (by omega) ⟨hb.1, hb.2.1, fun s hs h1 h2 => ?_⟩
        by_cases hsk : s = k
        · subst hsk; omega
        · exact hb.2.2 s hs (by omega) h2
      · rw [if_neg (fun z => hq ((pc_lt (by omega) (by omega)).mp z)), hmm k (by omega), cl_s, hmm _ ha64, cl_s]
        by_cases hp : mo C k = mo C (2 ^ cT C - 1)
        · rw [if_pos (by rw [hp]), nm_d]
          refine ih n k (by omega) (by omega) (by omega) ⟨hp, by omega, fun s hs h1 h2 => ?_⟩
          by_cases hsk : s = k
          · subst hsk; omega
          · have := hb.2.2 s hs (by omega) h2; omega
        · rw [if_neg (fun z => hp ((nI_eq (by have := mo_lt k; omega) (by have := mo_lt (2 ^ cT C - 1); omega)).mp z)), nm_d]
          refine ih n v (by omega) (by omega) (by omega) ⟨hb.1, hb.2.1, fun s hs h1 h2 => ?_⟩
          by_cases hsk : s = k
          · subst hsk; exact absurd h2 hp
          · exact hb.2.2 s hs (by omega) h2
  have hb0 : CB C (fun s => s < 0 ∨ s = 2 ^ cT C - 1) (2 ^ cT C - 1) := ⟨rfl, Nat.le_refl _, fun s hs h1 _ => by
    have : s = 2 ^ cT C - 1 := by omega
    rw [this]; omega⟩
  have hb1 : CB C (fun s => 2 ^ cT C ≤ s ∨ s = 2 ^ cT C - 1) (2 ^ cT C - 1) := ⟨rfl, Nat.le_refl _, fun s hs h1 _ => by
    have h2 : 0 < 2 ^ cT C := Nat.two_pow_pos _
    have : s = 2 ^ cT C - 1 := by omega
    rw [this]; omega⟩
  obtain ⟨a, ea, ca⟩ := kx (2 ^ cT C - 1) 0 N (2 ^ cT C - 1) (by omega) (by omega) (Or.inr rfl) hb0
  obtain ⟨b, eb, cb'⟩ := km (2 ^ cT C) N (2 ^ cT C - 1) (Nat.le_refl _) (by omega) (Or.inr rfl) hb1
  have hab := CB_one ca cb'
  subst hab
  refine ⟨nI a, ?_, ?_⟩
  · unfold f_X7_coverNow
    rw [hX.1, hall, nm_d, hxm _ ha64, cl_s]; exact ea
  · unfold f_X8_cover
    rw [hM.1, hall, nm_d]
    have e1 : nI (2 ^ cT C) + (-1) = nI (2 ^ cT C - 1) := by
      obtain ⟨q, hq⟩ : ∃ q, 2 ^ cT C = q + 1 := ⟨2 ^ cT C - 1, by have : 0 < 2 ^ cT C := Nat.two_pow_pos _; omega⟩
      rw [hq, pk_m1]; rfl
    rw [e1] at eb; exact eb
end
