/-! ===== pure layer B: lists, the core of a game ===== -/
theorem nodup_len : ∀ (n : Nat) (l : List Nat), l.Nodup → (∀ t ∈ l, t < n) → l.length ≤ n := by
  intro n
  induction n with
  | zero =>
    intro l _ h
    cases l with
    | nil => simp
    | cons a l => exact absurd (h a List.mem_cons_self) (by omega)
  | succ n ih =>
    intro l hn h
    by_cases hm : n ∈ l
    · have h1 := ih (l.erase n) (hn.erase n) (fun t ht => by
        have h2 := (hn.mem_erase_iff).mp ht
        have := h t h2.2
        have := h2.1
        omega)
      have h2 := List.length_erase_of_mem hm
      omega
    · have := ih l hn (fun t ht => by
        have h1 := h t ht
        have : t ≠ n := fun e => hm (e ▸ ht)
        omega)
      omega
def orL (f : Nat → Nat) : List Nat → Nat
  | [] => 0
  | t :: l => f t ||| orL f l
theorem orL_bit (f : Nat → Nat) (l : List Nat) (i : Nat) : (orL f l).testBit i = l.any (fun t => (f t).testBit i) := by
  induction l with
  | nil => simp [orL]
  | cons a l ih => simp [orL, Nat.testBit_or, ih]
theorem orL_lt {f : Nat → Nat} {k : Nat} {l : List Nat} (h : ∀ t ∈ l, f t < 2 ^ k) : orL f l < 2 ^ k := by
  induction l with
  | nil => exact Nat.two_pow_pos k
  | cons a l ih => exact Nat.or_lt_two_pow (h a List.mem_cons_self) (ih (fun t ht => h t (List.mem_cons_of_mem _ ht)))
theorem orL_app (f : Nat → Nat) (l m : List Nat) : orL f (l ++ m) = orL f l ||| orL f m := by
  induction l with
  | nil => simp [orL]
  | cons a l ih => simp [orL, ih, Nat.or_assoc]
theorem orL_mem {f : Nat → Nat} {l m : List Nat} (h : ∀ t, t ∈ l ↔ t ∈ m) : orL f l = orL f m := by
  refine Nat.eq_of_testBit_eq (fun i => ?_)
  rw [orL_bit, orL_bit, Bool.eq_iff_iff, List.any_eq_true, List.any_eq_true]
  exact ⟨fun ⟨t, h1, h2⟩ => ⟨t, (h t).mp h1, h2⟩, fun ⟨t, h1, h2⟩ => ⟨t, (h t).mpr h1, h2⟩⟩
theorem nI_or (a b : Nat) : nI a ||| nI b = nI (a ||| b) := by
  unfold nI; rw [← Int32.toBitVec_inj, Int32.toBitVec_or]
  show BitVec.ofNat 32 a ||| BitVec.ofNat 32 b = BitVec.ofNat 32 (a ||| b)
  first
    | exact BitVec.ofNat_or.symm
    | exact (BitVec.ofNat_or _ _).symm
    | (apply BitVec.eq_of_toNat_eq; simp [Nat.or_mod_two_pow])
theorem nI_and (a b : Nat) : nI a &&& nI b = nI (a &&& b) := by
  unfold nI; rw [← Int32.toBitVec_inj, Int32.toBitVec_and]
  show BitVec.ofNat 32 a &&& BitVec.ofNat 32 b = BitVec.ofNat 32 (a &&& b)
  first
    | exact BitVec.ofNat_and.symm
    | exact (BitVec.ofNat_and _ _).symm
    | (apply BitVec.eq_of_toNat_eq; simp [Nat.and_mod_two_pow])
/-- a set's bits -/
def bs (l : List Nat) : Nat := orL (fun t => 2 ^ t) l
theorem bs_bit (l : List Nat) (t : Nat) : (bs l).testBit t = decide (t ∈ l) := by
  unfold bs
  rw [orL_bit, Bool.eq_iff_iff, List.any_eq_true, decide_eq_true_eq]
  constructor
  · rintro ⟨u, h1, h2⟩
    rw [Nat.testBit_two_pow] at h2
    have : u = t := by simpa using h2
    exact this ▸ h1
  · intro h
    exact ⟨t, h, by rw [Nat.testBit_two_pow]; simp⟩
theorem bs_lt {l : List Nat} (h : ∀ t ∈ l, t < 6) : bs l < 64 := orL_lt (k := 6) (fun t ht => Nat.pow_lt_pow_right (by omega) (h t ht))
theorem bit_t : ∀ b : Nat, b < 64 → ∀ t : Nat, t < 6 → ((nI b >>> (nI t &&& 31)) &&& 1 = 1 ↔ b.testBit t = true) := by
  have h : (List.range 64).all (fun b => (List.range 6).all (fun t => decide ((nI b >>> (nI t &&& 31)) &&& 1 = 1 ↔ b.testBit t = true))) = true := by decide +kernel
  intro b hb t ht
  exact of_decide_eq_true (List.all_eq_true.mp (List.all_eq_true.mp h b (List.mem_range.mpr hb)) t (List.mem_range.mpr ht))
theorem shl_t : ∀ t : Nat, t < 6 → (1 : Int32) <<< (nI t &&& 31) = nI (2 ^ t) := by
  have h : (List.range 6).all (fun t => decide ((1 : Int32) <<< (nI t &&& 31) = nI (2 ^ t))) = true := by decide +kernel
  intro t ht
  exact of_decide_eq_true (List.all_eq_true.mp h t (List.mem_range.mpr ht))
/-- what a game is made of: how many things, kinds, numbers, marks, rows -/
abbrev Cr : Type := Nat × (Nat → Nat) × (Nat → Nat) × (Nat → Nat) × (Nat → Nat)
/-- what a street means: taste by facts, need, hold -/
abbrev Sn : Type := ((Nat → Int32) → Int32) × Int32 × Int32
abbrev cT (C : Cr) : Nat := C.1
abbrev cK (C : Cr) : Nat → Nat := C.2.1
abbrev cV (C : Cr) : Nat → Nat := C.2.2.1
abbrev cM (C : Cr) : Nat → Nat := C.2.2.2.1
abbrev cR (C : Cr) : Nat → Nat := C.2.2.2.2
def Wf (C : Cr) : Prop := cT C ≤ 6 ∧ (∀ t, t < cT C → cK C t ≤ 6) ∧ (∀ t, t < cT C → cV C t ≤ 9) ∧ (∀ t, t < cT C → cM C t ≤ 255) ∧ ∀ i, i < 4 * cT C → cR C i ≤ 9
def WfH (C : Cr) (H : List Nat) (d : Nat) : Prop := H.Nodup ∧ (∀ t ∈ H, t < cT C) ∧ d < 2 ^ 20
theorem WfH.len {C : Cr} {H : List Nat} {d : Nat} (h : WfH C H d) : H.length ≤ cT C := nodup_len _ _ h.1 h.2.1
/-- the class's scene holds it -/
def XS (σ : St) (C : Cr) (H : List Nat) (d : Nat) : Prop :=
  σ 0 0 = nI (cT C) ∧ (∀ i, i < cT C → σ 1 i = nI (cK C i)) ∧ (∀ i, i < cT C → σ 2 i = nI (cV C i)) ∧ (∀ i, i < cT C → σ 3 i = nI (cM C i)) ∧ (∀ i, i < 4 * cT C → σ 4 i = nI (cR C i)) ∧ (∀ i, 4 * cT C ≤ i → i < 24 → σ 4 i = 0) ∧
  σ 6 0 = nI H.length ∧ (∀ i t : Nat, H[i]? = some t → σ 5 i = nI t) ∧ σ 7 0 = nI (bs H) ∧ σ 8 0 = nI d
/-- the reference holds it -/
def MS (μ : St) (C : Cr) (H : List Nat) (d : Nat) : Prop :=
  μ 0 0 = nI (cT C) ∧ (∀ i, i < cT C → μ 3 i = nI (cK C i)) ∧ (∀ i, i < cT C → μ 4 i = nI (cV C i)) ∧ (∀ i, i < cT C → μ 5 i = nI (cM C i)) ∧ (∀ i, i < 4 * cT C → μ 6 i = nI (cR C i)) ∧
  μ 1 0 = nI H.length ∧ (∀ i t : Nat, H[i]? = some t → μ 7 i = nI t) ∧ μ 2 0 = nI d
theorem XS.t10 {σ : St} {C : Cr} {H : List Nat} {d : Nat} (h : XS σ C H d) (g : Nat → Int32) : XS (sA σ 10 g) C H d := by
  unfold XS at h ⊢
  simpa [sA_n] using h
theorem MS.t25 {μ : St} {C : Cr} {H : List Nat} {d : Nat} (h : MS μ C H d) (g : Nat → Int32) : MS (sA μ 25 g) C H d := by
  unfold MS at h ⊢
  simpa [sA_n] using h
/-- all marks of those had -/
def hm (C : Cr) (H : List Nat) : Nat := orL (cM C) H
theorem hm_lt {C : Cr} {H : List Nat} {d : Nat} (hC : Wf C) (hH : WfH C H d) : hm C H < 256 := orL_lt (k := 8) (fun t ht => by have := hC.2.2.2.1 t (hH.2.1 t ht); omega)
/-- the facts that a test may ask for -/
def fct (C : Cr) (H : List Nat) (d t : Nat) : Nat → Int32 := fun i => match i with
  | 0 => nI t
  | 1 => nI (cK C t)
  | 2 => nI (cV C t)
  | 3 => pc (nI (cM C t))
  | 4 => nI H.length
  | _ => nI (d % 10)
def SnOk (S : Sn) : Prop := (∀ f g : Nat → Int32, (∀ i, i < 6 → f i = g i) → S.1 f = S.1 g) ∧ ∃ k : Nat, S.2.2 = nI k ∧ 1 ≤ k ∧ k ≤ 99
def alike (C : Cr) (H : List Nat) (t : Nat) : Int32 := pc (nI (cM C t &&& hm C H))
def liked (C : Cr) (S : Sn) (H : List Nat) (d t : Nat) : Bool := decide (S.2.1 ≤ alike C H t + S.1 (fct C H d t))
def peer (C : Cr) (H : List Nat) (t : Nat) : Bool := H.any (fun u => pc (nI (cM C u)) == pc (nI (cM C t)))
def newest (H : List Nat) : Nat := H.getLastD 0
def keyed (C : Cr) (H : List Nat) (t : Nat) : Bool := decide (nI (cM C t &&& cM C (newest H)) = 0)
def fewer (C : Cr) (H : List Nat) (t : Nat) : Bool := decide (pc (nI (cM C (newest H))) < pc (nI (cM C t)))
def rowIs (C : Cr) (H : List Nat) (d t : Nat) : Bool := decide (nI (cR C (4 * t + d % 4)) = nI H.length)
/-- whether a thing goes -/
def goesS (C : Cr) (S : Sn) (H : List Nat) (d t : Nat) : Bool :=
  if t ∈ H ∨ S.2.2 ≤ nI H.length then false
  else if H.length = 0 then true
  else match cK C t with
    | 1 => liked C S H d t && peer C H t
    | 2 => liked C S H d t && keyed C H t
    | 3 => !liked C S H d t && fewer C H t
    | 4 => (liked C S H d t && peer C H t) || decide (cV C t < H.length)
    | 5 => liked C S H d t && (decide (d % 2 = 1) || keyed C H t)
    | 6 => (!liked C S H d t && fewer C H t) || rowIs C H d t
    | _ => liked C S H d t
/-- the class's street means S -/
def XT (L : List SR) (h : Option SR) (S : Sn) : Prop := match h with
  | none => S = ((fun _ => 0), 1, 6)
  | some R => R ∈ L ∧ R.2.2.2.2.1 = S.2.1 ∧ R.2.2.2.2.2 = S.2.2 ∧ ∀ (N : Nat) (f : Nat → Int32), 1000 ≤ N → f_X4_sumFor N 6 R f = some (S.1 f)
/-- the reference's street means S -/
def MT (μ : St) (S : Sn) : Prop := ∀ μ' : St, (∀ k, k = 9 ∨ (14 ≤ k ∧ k ≤ 19) → μ' k = μ k) → ∀ N : Nat, 1000 ≤ N → f_X8_need N μ' = some S.2.1 ∧ f_X8_hold N μ' = some S.2.2 ∧
  ∀ (C : Cr) (H : List Nat) (d t : Nat), Wf C → WfH C H d → MS μ' C H d → t < cT C → ∃ g : Nat → Int32, f_X8_taste N μ' (nI t) = some (S.1 (fct C H d t), sA μ' 25 g)
theorem x_isHad {N : Nat} {σ : St} {C : Cr} {H : List Nat} {d t : Nat} (hC : Wf C) (hH : WfH C H d) (hX : XS σ C H d) (ht : t < cT C) : f_X2_isHad N σ (nI t) = some (b2i (decide (t ∈ H))) := by
  have hT := hC.1
  have hb : bs H < 64 := bs_lt (fun u hu => by have := hH.2.1 u hu; omega)
  unfold f_X2_isHad
  rw [hX.2.2.2.2.2.2.2.2.1]
  by_cases h : t ∈ H
  · rw [if_pos ((bit_t _ hb t (by omega)).mpr (by rw [bs_bit]; simpa using h))]; simp [h, b2i]
  · rw [if_neg (fun z => h (by have := (bit_t _ hb t (by omega)).mp z; rw [bs_bit] at this; simpa using this))]; simp [h, b2i]
theorem x_hasThing {N : Nat} {σ : St} {C : Cr} {H : List Nat} {d : Nat} (hC : Wf C) (hX : XS σ C H d) (p : Int32) : (f_X2_hasThing N σ p = some 0 ∧ ¬ ∃ t, t < cT C ∧ p = nI t) ∨ (f_X2_hasThing N σ p = some 1 ∧ ∃ t, t < cT C ∧ p = nI t) := by
  have hT := hC.1
  unfold f_X2_hasThing
  rw [hX.1]
  rcases pk_ix p (n := cT C) (by omega) with h | h | ⟨j, hj, rfl⟩
  · exact Or.inl ⟨by rw [if_pos h], fun ⟨t, ht, e⟩ => by rw [e] at h; exact nI_pos (by omega) h⟩
  · refine Or.inl ⟨?_, fun ⟨t, ht, e⟩ => by rw [e] at h; exact nI_ge ht (by omega) h⟩
    by_cases h0 : p < 0
    · rw [if_pos h0]
    · rw [if_neg h0, if_pos h]
  · exact Or.inr ⟨by rw [if_neg (nI_pos (by omega)), if_neg (nI_ge hj (by omega))], j, hj, rfl⟩
theorem m_isThing {N : Nat} {μ : St} {C : Cr} {H : List Nat} {d : Nat} (hC : Wf C) (hM : MS μ C H d) (p : Int32) : (f_X8_isThing N μ p = some 0 ∧ ¬ ∃ t, t < cT C ∧ p = nI t) ∨ (f_X8_isThing N μ p = some 1 ∧ ∃ t, t < cT C ∧ p = nI t) := by
  have hT := hC.1
  unfold f_X8_isThing
  rw [hM.1, f_in, cl_s, cb_t (b2i_01 _)]
  cases hT0 : cT C with
  | zero =>
    refine Or.inl ⟨?_, fun ⟨t, ht, _⟩ => by omega⟩
    have : wn p 0 (nI 0 - 1) = false := by
      simp only [wn, decide_eq_false_iff_not]
      rintro ⟨h1, h2⟩
      rw [Int32.le_iff_toInt_le] at h1 h2
      have e1 : (nI 0 - 1).toInt = -1 := by decide
      have e2 : (0 : Int32).toInt = 0 := by decide
      omega
    rw [this]; rfl
  | succ n =>
    have e1 : nI (n + 1) - 1 = nI n := nI_pred n
    rw [e1]
    by_cases h : wn p 0 (nI n) = true
    · obtain ⟨j, hj, rfl⟩ := wn_nat (by omega) h
      exact Or.inr ⟨by rw [h]; rfl, j, by omega, rfl⟩
    · refine Or.inl ⟨by rw [Bool.not_eq_true] at h; rw [h]; rfl, fun ⟨t, ht, e⟩ => h ?_⟩
      rw [e, wn_nI (by omega) (by omega)]
      simp; omega
