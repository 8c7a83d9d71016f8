/-! ===== pure layer W: how a text is read; the class's reader, up to a test ===== -/
/-- the sign at p; 200: none -/
def chr (T : List Nat) (p : Nat) : Nat := T.getD p 200
def nxI (T : List Nat) (p : Nat) : Int32 := if chr T p = 200 then -1 else nI (chr T p)
def TxOk (T : List Nat) : Prop := T.length ≤ 100 ∧ ∀ c ∈ T, c < 128
theorem chr_lt {T : List Nat} (h : TxOk T) {p : Nat} : (chr T p = 200 ∧ T.length ≤ p) ∨ (chr T p < 128 ∧ p < T.length ∧ T[p]? = some (chr T p)) := by
  unfold chr
  by_cases hp : p < T.length
  · obtain ⟨c, hc, hm⟩ := idxG hp
    have e : T.getD p 200 = c := by rw [List.getD_eq_getElem?_getD, hc]; rfl
    rw [e]; exact Or.inr ⟨h.2 c hm, hp, hc⟩
  · have e : T.getD p 200 = 200 := by rw [List.getD_eq_getElem?_getD, List.getElem?_eq_none (by omega)]; rfl
    rw [e]; exact Or.inl ⟨rfl, by omega⟩
theorem chr_in {T : List Nat} (h : TxOk T) {p c : Nat} (e : chr T p = c) (hc : c < 128) : p < T.length := by
  rcases chr_lt h (p := p) with ⟨a, -⟩ | ⟨-, b, -⟩
  · omega
  · exact b
theorem nx_eq {T : List Nat} (h : TxOk T) {p c : Nat} (hc : c < 128) : nxI T p = nI c ↔ chr T p = c := by
  unfold nxI
  rcases chr_lt h (p := p) with ⟨a, -⟩ | ⟨a, b, -⟩
  · rw [if_pos a, a]
    refine ⟨fun z => ?_, fun z => by omega⟩
    have := nI_pos (n := c) (by omega)
    rw [← z] at this; exact absurd (by decide) this
  · rw [if_neg (by omega)]
    exact nI_eq (by omega) (by omega)
/-- a digit -/
def dg (T : List Nat) (p : Nat) : Bool := decide (48 ≤ chr T p ∧ chr T p ≤ 57)
/-- a number: whether one is there, the place behind, the number -/
def rnum (T : List Nat) (p : Nat) : Bool × Nat × Nat := if dg T p = true then (if dg T (p + 1) = true then (true, p + 2, 10 * (chr T p - 48) + (chr T (p + 1) - 48)) else (true, p + 1, chr T p - 48)) else (false, p, 0)
def lix (c : Nat) : Nat := if c = 116 then 0 else if c = 107 then 1 else if c = 118 then 2 else if c = 109 then 3 else if c = 119 then 4 else if c = 100 then 5 else 6
def rix (c : Nat) : Nat := if c = 60 then 0 else if c = 61 then 1 else if c = 62 then 2 else 3
/-- tokens: 0 not, 1 and, 2 or, 3 and more a test -/
def rtest (T : List Nat) (p : Nat) : Bool × Nat × List Nat := if lix (chr T p) = 6 then (false, p, []) else if rix (chr T (p + 1)) = 3 then (false, p + 1, []) else if (rnum T (p + 2)).1 = true then (true, (rnum T (p + 2)).2.1, [3 + (1000 * lix (chr T p) + 100 * rix (chr T (p + 1)) + (rnum T (p + 2)).2.2)]) else (false, (rnum T (p + 2)).2.1, [])
def tokX : Nat → Int32
  | 0 => 1
  | 1 => 2
  | 2 => 3
  | t + 3 => nI (t + 1000)
def tokR : Nat → Int32
  | 0 => -33
  | 1 => -38
  | 2 => -124
  | t + 3 => nI t
theorem rnum_le {T : List Nat} (h : TxOk T) (p : Nat) : p ≤ (rnum T p).2.1 ∧ (rnum T p).2.2 ≤ 99 ∧ ((rnum T p).1 = true → p < (rnum T p).2.1 ∧ (rnum T p).2.1 ≤ T.length) ∧ (rnum T p).2.1 ≤ p + 2 ∧ ((rnum T p).1 = false → (rnum T p).2.1 = p) := by
  unfold rnum
  by_cases h1 : dg T p = true
  · rw [if_pos h1]
    have h1' := of_decide_eq_true h1
    have b1 := chr_in h (c := chr T p) rfl (by omega)
    by_cases h2 : dg T (p + 1) = true
    · rw [if_pos h2]
      have h2' := of_decide_eq_true h2
      have b2 := chr_in h (c := chr T (p + 1)) rfl (by omega)
      exact ⟨by simp, by simp only; omega, fun _ => ⟨by simp, by simp only; omega⟩, by simp, fun z => by cases z⟩
    · rw [if_neg h2]
      exact ⟨by simp, by simp only; omega, fun _ => ⟨by simp, by simp only; omega⟩, by simp, fun z => by cases z⟩
  · rw [if_neg h1]
    exact ⟨Nat.le_refl _, by simp, fun z => (by cases z), by simp, fun _ => rfl⟩
theorem rtest_le {T : List Nat} (h : TxOk T) (p : Nat) : p ≤ (rtest T p).2.1 ∧ ((rtest T p).1 = true → p + (rtest T p).2.2.length ≤ (rtest T p).2.1 ∧ (rtest T p).2.1 ≤ T.length ∧ p < (rtest T p).2.1) ∧ (rtest T p).2.1 ≤ p + 4 := by
  have hr := rnum_le h (p + 2)
  unfold rtest
  by_cases h1 : lix (chr T p) = 6
  · rw [if_pos h1]; exact ⟨Nat.le_refl _, fun z => (by cases z), by simp⟩
  rw [if_neg h1]
  by_cases h2 : rix (chr T (p + 1)) = 3
  · rw [if_pos h2]; exact ⟨by simp, fun z => (by cases z), by simp⟩
  rw [if_neg h2]
  by_cases h3 : (rnum T (p + 2)).1 = true
  · rw [if_pos h3]
    have := hr.2.2.1 h3
    exact ⟨by simp only; omega, fun _ => ⟨by simp only [List.length_cons, List.length_nil]; omega, this.2, by simp only; omega⟩, by simp only; omega⟩
  · rw [if_neg h3]; exact ⟨by simp only; omega, fun z => (by cases z), by simp only; omega⟩
/-- the reader holds the text -/
def TX (s : St) (T : List Nat) : Prop := s 1 0 = nI T.length ∧ ∀ i c : Nat, T[i]? = some c → s 0 i = nI c
def R5 (s : St) (T : List Nat) (p : Nat) (acc : List Int32) : Prop := TX s T ∧ s 6 0 = nI p ∧ s 3 0 = nI acc.length ∧ ∀ (i : Nat) (z : Int32), acc[i]? = some z → s 2 i = z
def fr5 (s s' : St) : Prop := ∀ k, k ≠ 2 → k ≠ 3 → k ≠ 6 → k ≠ 7 → s' k = s k
theorem fr5.rf (s : St) : fr5 s s := fun _ _ _ _ _ => rfl
theorem fr5.tr {a b c : St} (h1 : fr5 a b) (h2 : fr5 b c) : fr5 a c := fun k x y z w => (h2 k x y z w).trans (h1 k x y z w)
theorem TX.fr {s s' : St} {T : List Nat} (h : TX s T) (hf : fr5 s s') : TX s' T := by
  unfold TX at h ⊢
  rw [hf 0 (by decide) (by decide) (by decide) (by decide), hf 1 (by decide) (by decide) (by decide) (by decide)]; exact h
/-- place and number alone have changed -/
theorem R5.go {s s' : St} {T : List Nat} {p q : Nat} {acc : List Int32} (h : R5 s T p acc) (hq : s' 6 0 = nI q) (hf : ∀ k, k ≠ 6 → k ≠ 7 → s' k = s k) : R5 s' T q acc := by
  obtain ⟨⟨h1, h2⟩, h3, h4, h5⟩ := h
  exact ⟨⟨by rw [hf 1 (by decide) (by decide)]; exact h1, fun i c hc => by rw [hf 0 (by decide) (by decide)]; exact h2 i c hc⟩, hq, by rw [hf 3 (by decide) (by decide)]; exact h4, fun i z hz => by rw [hf 2 (by decide) (by decide)]; exact h5 i z hz⟩
section
variable {N : Nat} {s : St} {T : List Nat} {p : Nat} {acc : List Int32}
theorem x_next (hT : TxOk T) (hR : R5 s T p acc) (hp : p < 1000) : f_X5_nextSign N s = some (nxI T p) := by
  obtain ⟨⟨h1, h2⟩, h3, -, -⟩ := hR
  have h100 := hT.1
  unfold f_X5_nextSign nxI
  rw [h3, h1, if_neg (nI_pos (by omega))]
  rcases chr_lt hT (p := p) with ⟨a, b⟩ | ⟨a, b, c⟩
  · rw [if_pos (nI_le b (by omega)), if_pos a]
  · rw [if_neg (nI_ge b (by omega)), if_neg (show ¬ (100 : Int32) ≤ nI p from nI_ge (b := 100) (by omega) (by omega)), ck_n (by omega) (by omega), nI_clamp (by omega), h2 p _ c, if_neg (by omega)]
theorem x_sign (hT : TxOk T) (hR : R5 s T p acc) (hp : p < 1000) (c : Nat) (hc : c < 128) : ∃ s', f_X5_readSign N s (nI c) = some (b2i (decide (chr T p = c)), s') ∧ R5 s' T (if chr T p = c then p + 1 else p) acc ∧ fr5 s s' ∧ s' 7 = s 7 := by
  unfold f_X5_readSign
  rw [x_next hT hR hp, cl_s]
  by_cases h : chr T p = c
  · rw [if_pos ((nx_eq hT hc).mpr h), nm_d, hR.2.1, nI_1, if_pos h]
    exact ⟨sI s 6 (nI (p + 1)), by simp [h, b2i], hR.go (by rw [sI_s]) (fun k a _ => sI_n _ _ a), fun k _ _ a _ => sI_n _ _ a, sI_n _ _ (by decide)⟩
  · rw [if_neg (fun z => h ((nx_eq hT hc).mp z)), if_neg h]
    exact ⟨s, by simp [h, b2i], hR, fr5.rf s, rfl⟩
theorem l_num (hT : TxOk T) (hR : R5 s T p acc) (hp : p < 1000) (v m n : Nat) (hv : v < 2) (h7 : s 7 0 = nI m) (hm : m < 1000) : (dg T p = true → ∃ s', l_X5_readNumber_7 N (n + 1) s (nI v) = l_X5_readNumber_7 N n s' (nI (v + 1)) ∧ R5 s' T (p + 1) acc ∧ s' 7 0 = nI (10 * m + (chr T p - 48)) ∧ fr5 s s') ∧ (dg T p = false → l_X5_readNumber_7 N (n + 1) s (nI v) = some (if v = 0 then 0 else 1, s)) := by
  have hR0 := hR
  obtain ⟨⟨h1, h2⟩, h3, -, -⟩ := hR
  have h100 := hT.1
  have hend : (if nI v ≤ 0 then some ((0 : Int32), s) else some (1, s)) = some (if v = 0 then 0 else 1, s) := by
    by_cases hv0 : v = 0
    · subst hv0; rfl
    · rw [if_neg (nI_nle (by omega) (by omega)), if_neg hv0]
  constructor
  · intro hd
    have hd' := of_decide_eq_true hd
    rcases chr_lt hT (p := p) with ⟨a, b⟩ | ⟨a, b, c⟩
    · omega
    · rw [l_X5_readNumber_7, if_neg (show ¬ (2 : Int32) ≤ nI v from nI_ge (b := 2) hv (by omega)), h1, h3, if_neg (nI_ge b (by omega)), ck_n (by omega) (by omega), nI_clamp (by omega), h2 p _ c, if_neg (show ¬ nI (chr T p) < 48 from nI_nlt (b := 48) (by omega) (by omega)), ck_n (by omega) (by omega), if_neg (show ¬ (57 : Int32) < nI (chr T p) from nI_nlt (a := 57) (by omega) (by omega)), ck_n (by omega) (by omega), nm_d, nm_d, nm_d, nI_1, h7, sI_n _ _ (show 6 ≠ 7 by decide), h3, nI_1]
      have e : nI m * 10 + nI (chr T p) - 48 = nI (10 * m + (chr T p - 48)) := by
        rw [show (10 : Int32) = nI 10 from rfl, show (48 : Int32) = nI 48 from rfl, pk_mul, nI_add, pk_sub (by omega)]
        congr 1; omega
      rw [e]
      exact ⟨_, rfl, hR0.go (by rw [sI_s]) (fun k a b => by rw [sI_n _ _ a, sI_n _ _ b]), by rw [sI_n _ _ (show 7 ≠ 6 by decide), sI_s], fun k _ _ a b => by rw [sI_n _ _ a, sI_n _ _ b]⟩
  · intro hd
    have hd' := of_decide_eq_false hd
    rw [l_X5_readNumber_7, if_neg (show ¬ (2 : Int32) ≤ nI v from nI_ge (b := 2) hv (by omega)), h1, h3]
    rcases chr_lt hT (p := p) with ⟨a, b⟩ | ⟨a, b, c⟩
    · rw [if_pos (nI_le b (by omega)), hend]
    · rw [if_neg (nI_ge b (by omega)), ck_n (by omega) (by omega), nI_clamp (by omega), h2 p _ c]
      by_cases h48 : chr T p < 48
      · rw [if_pos (show nI (chr T p) < 48 from nI_lt (b := 48) h48 (by omega)), hend]
      · rw [if_neg (show ¬ nI (chr T p) < 48 from nI_nlt (b := 48) (by omega) (by omega)), ck_n (by omega) (by omega), if_pos (show (57 : Int32) < nI (chr T p) from nI_lt (a := 57) (by omega) (by omega)), hend]
theorem x_num (hN : 1000 ≤ N) (hT : TxOk T) (hR : R5 s T p acc) (hp : p < 900) : ∃ s', f_X5_readNumber N s = some (b2i (rnum T p).1, s') ∧ R5 s' T (rnum T p).2.1 acc ∧ ((rnum T p).1 = true → s' 7 0 = nI (rnum T p).2.2) ∧ fr5 s s' := by
  obtain ⟨n, rfl⟩ : ∃ n, N = n + 3 := ⟨N - 3, by omega⟩
  unfold f_X5_readNumber rnum
  rw [nm_d]
  have hR0 : R5 (sI s 7 0) T p acc := hR.go (by rw [sI_n _ _ (by decide)]; exact hR.2.1) (fun k _ b => sI_n _ _ b)
  have f0 : fr5 s (sI s 7 0) := fun k _ _ _ b => sI_n _ _ b
  have s0 := l_num (N := n + 3) hT hR0 (by omega) 0 0 (n + 2) (by omega) (by rw [sI_s]; rfl) (by omega)
  cases hd : dg T p
  · rw [if_neg (by decide)]
    have e := s0.2 hd
    have e' : l_X5_readNumber_7 (n + 3) (n + 3) (sI s 7 0) 0 = some (0, sI s 7 0) := e
    rw [e']
    exact ⟨_, rfl, hR0, fun z => (by cases z), f0⟩
  · rw [if_pos rfl]
    obtain ⟨s1, e, hR1, h71, f1⟩ := s0.1 hd
    have e' : l_X5_readNumber_7 (n + 3) (n + 3) (sI s 7 0) 0 = l_X5_readNumber_7 (n + 3) (n + 2) s1 (nI 1) := e
    rw [e']
    have hd' := of_decide_eq_true hd
    have s1' := l_num (N := n + 3) hT hR1 (by omega) 1 _ (n + 1) (by omega) h71 (by omega)
    cases hd2 : dg T (p + 1)
    · rw [if_neg (by decide), s1'.2 hd2]
      exact ⟨_, rfl, hR1, fun _ => by rw [h71]; dsimp only; congr 1; omega, f0.tr f1⟩
    · rw [if_pos rfl]
      obtain ⟨s2, e2, hR2, h72, f2⟩ := s1'.1 hd2
      rw [e2, l_X5_readNumber_7, if_pos (show (2 : Int32) ≤ nI (1 + 1) from by decide), if_neg (show ¬ nI (1 + 1) ≤ 0 from by decide)]
      exact ⟨_, rfl, hR2, fun _ => by rw [h72]; dsimp only; congr 1; omega, (f0.tr f1).tr f2⟩
theorem char_id : ∀ c : Nat, c < 128 → ((nI c).toUInt32 % 65536).toInt32 = nI c ∧ (nI c).toInt8.toInt32 = nI c := by
  have h : (List.range 128).all (fun c => decide (((nI c).toUInt32 % 65536).toInt32 = nI c ∧ (nI c).toInt8.toInt32 = nI c)) = true := by decide +kernel
  intro c hc
  exact of_decide_eq_true (List.all_eq_true.mp h c (List.mem_range.mpr hc))
theorem ix_loop5 (n : Nat) (x : Int32) : l_J1_indexOfChar_4cfef_7 (n + 8) 5 6 x (n + 8) 0 = (if (116 : Int32) = x then some 0 else if (107 : Int32) = x then some 1 else if (118 : Int32) = x then some 2 else if (109 : Int32) = x then some 3 else if (119 : Int32) = x then some 4 else if (100 : Int32) = x then some 5 else some (-1)) := rfl
theorem ix_loop6 (n : Nat) (x : Int32) : l_J1_indexOfChar_4cfef_7 (n + 8) 6 3 x (n + 8) 0 = (if (60 : Int32) = x then some 0 else if (61 : Int32) = x then some 1 else if (62 : Int32) = x then some 2 else some (-1)) := rfl
theorem ix5 (n c : Nat) (hc : c < 128) : f_J0_indexOf_0f7a4 (n + 8) 5 (nI c) = some (if lix c = 6 then -1 else nI (lix c)) := by
  have e0 : f_J0_indexOf_0f7a4 (n + 8) 5 (nI c) = cl (f_J1_indexOf_4cfef (n + 8) 5 (nI c) 0 6) (fun q17 => some q17) := by
    have a1 : f_J0_isLatin1_aae02 (n + 8) 5 = some 1 := rfl
    have a2 : f_J0_length_8abf5 (n + 8) 5 = some 6 := rfl
    unfold f_J0_indexOf_0f7a4 f_J0_indexOf_7cf53
    rw [a1, cl_s, cp_t (p := 5 < 7) (by decide), if_neg (by decide), cp_t (p := 5 < 7) (by decide), a2, cl_s, cp_t (p := 5 < 7) (by decide)]
    cases f_J1_indexOf_4cfef (n + 8) 5 (nI c) 0 6 <;> rfl
  have e1 : f_J1_indexOf_4cfef (n + 8) 5 (nI c) 0 6 = l_J1_indexOfChar_4cfef_7 (n + 8) 5 6 (nI c) (n + 8) 0 := by
    unfold f_J1_indexOf_4cfef f_J1_canEncode_9a6ad
    rw [if_neg (nI_pos (by omega)), if_neg (show ¬ (255 : Int32) < nI c from nI_nlt (a := 255) (by omega) (by omega)), cl_s, if_neg (by decide), nm_d, cp_t (p := 5 < 7) (by decide), nm_d]
    have e2 : f_J1_indexOfChar_4cfef (n + 8) 5 (nI c) 0 6 = l_J1_indexOfChar_4cfef_7 (n + 8) 5 6 (nI c) (n + 8) 0 := by
      unfold f_J1_indexOfChar_4cfef
      rw [nm_d, (char_id c hc).2]
    show cl (f_J1_indexOfChar_4cfef (n + 8) 5 (nI c) 0 6) (fun q33 => some q33) = _
    rw [e2]
    cases l_J1_indexOfChar_4cfef_7 (n + 8) 5 6 (nI c) (n + 8) 0 <;> rfl
  rw [e0, e1, ix_loop5]
  have q : ∀ k : Nat, k < 128 → ((nI k : Int32) = nI c ↔ c = k) := fun k hk => ⟨fun z => ((nI_eq (by omega) (by omega)).mp z).symm, fun z => by rw [z]⟩
  have g : (if (116 : Int32) = nI c then some (0 : Int32) else if (107 : Int32) = nI c then some 1 else if (118 : Int32) = nI c then some 2 else if (109 : Int32) = nI c then some 3 else if (119 : Int32) = nI c then some 4 else if (100 : Int32) = nI c then some 5 else some (-1)) = some (if lix c = 6 then -1 else nI (lix c)) := by
    unfold lix
    by_cases h1 : c = 116
    · subst h1; rfl
    rw [if_neg (show ¬ (116 : Int32) = nI c from fun z => h1 ((q 116 (by omega)).mp z)), if_neg h1]
    by_cases h2 : c = 107
    · subst h2; rfl
    rw [if_neg (show ¬ (107 : Int32) = nI c from fun z => h2 ((q 107 (by omega)).mp z)), if_neg h2]
    by_cases h3 : c = 118
    · subst h3; rfl
    rw [if_neg (show ¬ (118 : Int32) = nI c from fun z => h3 ((q 118 (by omega)).mp z)), if_neg h3]
    by_cases h4 : c = 109
    · subst h4; rfl
    rw [if_neg (show ¬ (109 : Int32) = nI c from fun z => h4 ((q 109 (by omega)).mp z)), if_neg h4]
    by_cases h5 : c = 119
    · subst h5; rfl
    rw [if_neg (show ¬ (119 : Int32) = nI c from fun z => h5 ((q 119 (by omega)).mp z)), if_neg h5]
    by_cases h6 : c = 100
    · subst h6; rfl
    rw [if_neg (show ¬ (100 : Int32) = nI c from fun z => h6 ((q 100 (by omega)).mp z)), if_neg h6]
    rfl
  rw [g, cl_s]
theorem ix6 (n c : Nat) (hc : c < 128) : f_J0_indexOf_0f7a4 (n + 8) 6 (nI c) = some (if rix c = 3 then -1 else nI (rix c)) := by
  have e0 : f_J0_indexOf_0f7a4 (n + 8) 6 (nI c) = cl (f_J1_indexOf_4cfef (n + 8) 6 (nI c) 0 3) (fun q17 => some q17) := by
    have a1 : f_J0_isLatin1_aae02 (n + 8) 6 = some 1 := rfl
    have a2 : f_J0_length_8abf5 (n + 8) 6 = some 3 := rfl
    unfold f_J0_indexOf_0f7a4 f_J0_indexOf_7cf53
    rw [a1, cl_s, cp_t (p := 6 < 7) (by decide), if_neg (by decide), cp_t (p := 6 < 7) (by decide), a2, cl_s, cp_t (p := 6 < 7) (by decide)]
    cases f_J1_indexOf_4cfef (n + 8) 6 (nI c) 0 3 <;> rfl
  have e1 : f_J1_indexOf_4cfef (n + 8) 6 (nI c) 0 3 = l_J1_indexOfChar_4cfef_7 (n + 8) 6 3 (nI c) (n + 8) 0 := by
    unfold f_J1_indexOf_4cfef f_J1_canEncode_9a6ad
    rw [if_neg (nI_pos (by omega)), if_neg (show ¬ (255 : Int32) < nI c from nI_nlt (a := 255) (by omega) (by omega)), cl_s, if_neg (by decide), nm_d, cp_t (p := 6 < 7) (by decide), nm_d]
    have e2 : f_J1_indexOfChar_4cfef (n + 8) 6 (nI c) 0 3 = l_J1_indexOfChar_4cfef_7 (n + 8) 6 3 (nI c) (n + 8) 0 := by
      unfold f_J1_indexOfChar_4cfef
      rw [nm_d, (char_id c hc).2]
    show cl (f_J1_indexOfChar_4cfef (n + 8) 6 (nI c) 0 3) (fun q33 => some q33) = _
    rw [e2]
    cases l_J1_indexOfChar_4cfef_7 (n + 8) 6 3 (nI c) (n + 8) 0 <;> rfl
  rw [e0, e1, ix_loop6]
  have q : ∀ k : Nat, k < 128 → ((nI k : Int32) = nI c ↔ c = k) := fun k hk => ⟨fun z => ((nI_eq (by omega) (by omega)).mp z).symm, fun z => by rw [z]⟩
  have g : (if (60 : Int32) = nI c then some (0 : Int32) else if (61 : Int32) = nI c then some 1 else if (62 : Int32) = nI c then some 2 else some (-1)) = some (if rix c = 3 then -1 else nI (rix c)) := by
    unfold rix
    by_cases h1 : c = 60
    · subst h1; rfl
    rw [if_neg (show ¬ (60 : Int32) = nI c from fun z => h1 ((q 60 (by omega)).mp z)), if_neg h1]
    by_cases h2 : c = 61
    · subst h2; rfl
    rw [if_neg (show ¬ (61 : Int32) = nI c from fun z => h2 ((q 61 (by omega)).mp z)), if_neg h2]
    by_cases h3 : c = 62
    · subst h3; rfl
    rw [if_neg (show ¬ (62 : Int32) = nI c from fun z => h3 ((q 62 (by omega)).mp z)), if_neg h3]
    rfl
  rw [g, cl_s]
theorem x_add (z : Int32) (hR : R5 s T p acc) (hl : acc.length < 100) : ∃ s', f_X5_addStep N s z = some s' ∧ R5 s' T p (acc ++ [z]) ∧ fr5 s s' ∧ s' 7 = s 7 := by
  obtain ⟨⟨h1, h2⟩, h3, h4, h5⟩ := hR
  unfold f_X5_addStep
  rw [h4, if_neg (show ¬ (100 : Int32) ≤ nI acc.length from nI_ge (b := 100) hl (by omega)), ck_n (by omega) (by omega), nm_d, nm_d, nI_clamp (by omega), sA_n _ _ (show 3 ≠ 2 by decide), h4, nI_1]
  refine ⟨_, rfl, ⟨⟨by simp (disch := omega) only [sI_n, sA_n]; exact h1, fun i c hc => by simp (disch := omega) only [sI_n, sA_n]; exact h2 i c hc⟩, by simp (disch := omega) only [sI_n, sA_n]; exact h3, by rw [sI_s]; simp, fun i c hc => ?_⟩, fun k a b _ _ => by rw [sI_n _ _ b, sA_n _ _ a], by simp (disch := omega) only [sI_n, sA_n]⟩
  rw [sI_n _ _ (show 2 ≠ 3 by decide), sA_s]
  rcases ga hc with ⟨hi, w⟩ | ⟨hi, w⟩
  · rw [upd_n (by omega)]; exact h5 i c w
  · rw [hi, w, upd_s]
theorem lix_le (c : Nat) : lix c ≤ 6 := by unfold lix; (repeat' split) <;> omega
theorem rix_le (c : Nat) : rix c ≤ 3 := by unfold rix; (repeat' split) <;> omega
theorem x_test (hN : 1000 ≤ N) (hT : TxOk T) (hR : R5 s T p acc) (hp : p < 800) (hl : acc.length ≤ p) : ∃ s', f_X5_readTest N s (nxI T p) = some (b2i (rtest T p).1, s') ∧ TX s' T ∧ s' 6 0 = nI (rtest T p).2.1 ∧ ((rtest T p).1 = true → R5 s' T (rtest T p).2.1 (acc ++ (rtest T p).2.2.map tokX)) ∧ fr5 s s' := by
  obtain ⟨n, rfl⟩ : ∃ n, N = n + 8 := ⟨N - 8, by omega⟩
  unfold f_X5_readTest rtest
  have hneg : j_X5_readTest_15 (n + 8) s (-1) = some (0, s) := by unfold j_X5_readTest_15; rw [if_neg (by decide)]
  rcases chr_lt hT (p := p) with ⟨a, b⟩ | ⟨a, b, -⟩
  · have e : nxI T p = -1 := by unfold nxI; rw [if_pos a]
    rw [e, if_neg (by decide), hneg, a, if_pos (show lix 200 = 6 from rfl)]
    exact ⟨s, rfl, hR.1, hR.2.1, fun z => (by cases z), fr5.rf s⟩
  have e : nxI T p = nI (chr T p) := by unfold nxI; rw [if_neg (by omega)]
  rw [e, if_pos (nI_pos' (by omega)), (char_id _ a).1, ix5 n _ a, cl_s]
  by_cases h6 : lix (chr T p) = 6
  · rw [if_pos h6, if_pos h6, hneg]
    exact ⟨s, rfl, hR.1, hR.2.1, fun z => (by cases z), fr5.rf s⟩
  rw [if_neg h6, if_neg h6]
  have hlx := lix_le (chr T p)
  unfold j_X5_readTest_15
  rw [if_pos (nI_pos' (by omega)), nm_d, hR.2.1, nI_1]
  have hR1 : R5 (sI s 6 (nI (p + 1))) T (p + 1) acc := hR.go (by rw [sI_s]) (fun k a _ => sI_n _ _ a)
  have f1 : fr5 s (sI s 6 (nI (p + 1))) := fun k _ _ a _ => sI_n _ _ a
  rw [x_next hT hR1 (by omega), cl_s]
  have hneg2 : ∀ v2, j_X5_readTest_52 (n + 8) (sI s 6 (nI (p + 1))) v2 (-1) = some (0, sI s 6 (nI (p + 1))) := fun v2 => by unfold j_X5_readTest_52; rw [if_neg (by decide)]
  rcases chr_lt hT (p := p + 1) with ⟨a2, b2⟩ | ⟨a2, b2, -⟩
  · have e : nxI T (p + 1) = -1 := by unfold nxI; rw [if_pos a2]
    rw [e, if_neg (by decide), hneg2, a2, if_pos (show rix 200 = 3 from rfl)]
    exact ⟨_, rfl, hR1.1, hR1.2.1, fun z => (by cases z), f1⟩
  have e : nxI T (p + 1) = nI (chr T (p + 1)) := by unfold nxI; rw [if_neg (by omega)]
  rw [e, if_pos (nI_pos' (by omega)), (char_id _ a2).1, ix6 n _ a2, cl_s]
  by_cases h3 : rix (chr T (p + 1)) = 3
  · rw [if_pos h3, if_pos h3, hneg2]
    exact ⟨_, rfl, hR1.1, hR1.2.1, fun z => (by cases z), f1⟩
  rw [if_neg h3, if_neg h3]
  have hrx := rix_le (chr T (p + 1))
  unfold j_X5_readTest_52
  rw [if_pos (nI_pos' (by omega)), nm_d, hR1.2.1, nI_1]
  have hR2 : R5 (sI (sI s 6 (nI (p + 1))) 6 (nI (p + 1 + 1))) T (p + 2) acc := hR1.go (by rw [sI_s]) (fun k a _ => sI_n _ _ a)
  have f2 : fr5 s (sI (sI s 6 (nI (p + 1))) 6 (nI (p + 1 + 1))) := f1.tr (fun k _ _ a _ => sI_n _ _ a)
  obtain ⟨s3, e3, hR3, h73, f3⟩ := x_num hN hT hR2 (by omega)
  have hr := rnum_le hT (p + 2)
  rw [e3, cl_s]
  dsimp only
  cases hb : (rnum T (p + 2)).1
  · rw [i0, if_neg (by decide)]
    exact ⟨_, rfl, hR3.1, hR3.2.1, fun z => (by cases z), f2.tr f3⟩
  · rw [i1, if_pos rfl, h73 hb]
    have hpl := hr.2.2.1 hb
    have h100 := hT.1
    obtain ⟨s4, e4, hR4, f4, -⟩ := x_add (N := n + 8) (1000 + nI (lix (chr T p)) * 1000 + nI (rix (chr T (p + 1))) * 100 + nI (rnum T (p + 2)).2.2) hR3 (by omega)
    rw [e4, cl_s]
    have et : 1000 + nI (lix (chr T p)) * 1000 + nI (rix (chr T (p + 1))) * 100 + nI (rnum T (p + 2)).2.2 = tokX (3 + (1000 * lix (chr T p) + 100 * rix (chr T (p + 1)) + (rnum T (p + 2)).2.2)) := by
      rw [show (1000 : Int32) = nI 1000 from rfl, show (100 : Int32) = nI 100 from rfl, pk_mul, pk_mul, nI_add, nI_add, nI_add, Nat.add_comm 3]
      show _ = nI _
      congr 1; omega
    refine ⟨s4, rfl, hR4.1, hR4.2.1, fun _ => ?_, (f2.tr f3).tr f4⟩
    rw [et] at hR4
    exact hR4
end
