/-! ===== pure layer A: numbers, bits, the forms of the decompiled functions ===== -/
theorem nm_d {α β : Type} (e : α) (k : α → Option β) : nm e k = k e := rfl
theorem cl_s {α β : Type} (a : α) (k : α → Option β) : cl (some a) k = k a := rfl
theorem cl_of {α β : Type} {o : Option α} {a : α} (h : o = some a) (k : α → Option β) : cl o k = k a := by rw [h]; rfl
theorem ck_n {β : Type} {j n : Nat} (h : j < n) (hn : n < 2 ^ 31) (k : Option β) : ck (nI j) n k = k := by
  unfold ck
  rw [nI_toInt (by omega), if_pos ⟨by omega, by omega⟩]
theorem ck_t {β : Type} {i : Int32} {n : Nat} (h : 0 ≤ i.toInt ∧ i.toInt < n) (k : Option β) : ck i n k = k := by unfold ck; rw [if_pos h]
theorem cz_f {β : Type} {y : Int32} (h : ¬ y = 0) (k : Option β) : cz y k = k := by unfold cz; rw [if_neg h]
theorem cb_t {β : Type} {v : Int32} (h : v = 0 ∨ v = 1) (k : Option β) : cb v k = k := by unfold cb; rw [if_pos h]
theorem cp_t {β : Type} {p : Prop} {d : Decidable p} (h : p) (k : Option β) : cp p d k = k := by unfold cp; rw [if_pos h]
theorem onl_none {β : Type} (a : β) (b : SR → β) : onl none a b = a := rfl
theorem onl_some {β : Type} (R : SR) (a : β) (b : SR → β) : onl (some R) a b = b R := rfl
theorem sA_s {α : Type} (σ : Nat → α) (k : Nat) (f : α) : sA σ k f k = f := by simp [sA]
theorem sA_n {α : Type} (σ : Nat → α) {k j : Nat} (f : α) (h : j ≠ k) : sA σ k f j = σ j := by
  have e : j.beq k = false := Bool.eq_false_iff.mpr (fun h' => h (Nat.eq_of_beq_eq_true h'))
  show (bif j.beq k then f else σ j) = σ j
  rw [e]; rfl
theorem sI_s (σ : St) (k : Nat) (v : Int32) (i : Nat) : sI σ k v k i = v := by simp [sI, sA]
theorem sI_n (σ : St) {k j : Nat} (v : Int32) (h : j ≠ k) : sI σ k v j = σ j := sA_n σ _ h
/-- truth as an int -/
def b2i (b : Bool) : Int32 := if b then 1 else 0
theorem b2i_01 (b : Bool) : b2i b = 0 ∨ b2i b = 1 := by cases b <;> simp [b2i]
theorem b2i_0 {b : Bool} : b2i b = 0 ↔ b = false := by cases b <;> simp [b2i]
theorem b2i_1 {b : Bool} : b2i b = 1 ↔ b = true := by cases b <;> simp [b2i]
theorem b2i_t : b2i true = 1 := rfl
theorem b2i_f : b2i false = 0 := rfl
/-- within bounds -/
def wn (a lo hi : Int32) : Bool := decide (lo ≤ a ∧ a ≤ hi)
theorem i32_nlt {a b : Int32} : ¬ a < b ↔ b ≤ a := by rw [Int32.lt_iff_toInt_lt, Int32.le_iff_toInt_le]; omega
theorem f_in (N : Nat) (a lo hi : Int32) : f_X8_in N a lo hi = some (b2i (wn a lo hi)) := by
  unfold f_X8_in wn b2i
  by_cases h1 : a < lo
  · have : ¬ lo ≤ a := by rw [← i32_nlt]; exact fun h => h h1
    simp [h1, this]
  · by_cases h2 : hi < a
    · have : ¬ a ≤ hi := by rw [← i32_nlt]; exact fun h => h h2
      simp [h1, h2, this]
    · simp [h1, h2, i32_nlt.mp h1, i32_nlt.mp h2]
theorem f_within (N : Nat) (a lo hi : Int32) : f_X7_isWithin N a lo hi = some (b2i (wn a lo hi)) := by rw [← f_in N]; rfl
theorem wn_nat {a : Int32} {n : Nat} (hn : n < 2 ^ 31) (h : wn a 0 (nI n) = true) : ∃ j : Nat, j ≤ n ∧ a = nI j := by
  simp only [wn, decide_eq_true_eq] at h
  obtain ⟨j, hj, rfl⟩ := nI_of (x := a) (by rw [i32_nlt]; exact h.1)
  exact ⟨j, (nI_leI hj hn).mp h.2, rfl⟩
theorem wn_nI {j n : Nat} (hj : j < 2 ^ 31) (hn : n < 2 ^ 31) : wn (nI j) 0 (nI n) = decide (j ≤ n) := by
  simp only [wn]
  have h0 : (0 : Int32) ≤ nI j := nI_pos' hj
  simp [h0, nI_leI hj hn]
/-- how many bits are set: the JDK's way -/
def pcA (x : Int32) : Int32 := x - ((x.toUInt32 >>> ((1 : Int32).toUInt32 &&& Int32.toUInt32 31)).toInt32 &&& 1431655765)
def pcB (x : Int32) : Int32 := (x &&& 858993459) + ((x.toUInt32 >>> ((2 : Int32).toUInt32 &&& Int32.toUInt32 31)).toInt32 &&& 858993459)
def pcC (x : Int32) : Int32 := (x + (x.toUInt32 >>> ((4 : Int32).toUInt32 &&& Int32.toUInt32 31)).toInt32) &&& 252645135
def pcD (x : Int32) : Int32 := x + (x.toUInt32 >>> ((8 : Int32).toUInt32 &&& Int32.toUInt32 31)).toInt32
def pcE (x : Int32) : Int32 := x + (x.toUInt32 >>> ((16 : Int32).toUInt32 &&& Int32.toUInt32 31)).toInt32
def pc (x : Int32) : Int32 := pcE (pcD (pcC (pcB (pcA x)))) &&& 63
theorem f_bitCount (N : Nat) (x : Int32) : f_J6_bitCount_0f7a4 N x = some (pc x) := rfl
theorem f_has (N : Nat) (s k : Int32) : f_X8_has N s k = some (b2i (decide ((s >>> (k &&& 31)) &&& 1 = 1))) := by
  unfold f_X8_has b2i
  by_cases h : (s >>> (k &&& 31)) &&& 1 = 1 <;> simp [h]
/-- the reference's way: bit by bit -/
def pb (s : Int32) : Nat → Int32
  | 0 => 0
  | k + 1 => pb s k + b2i (decide ((s >>> (nI k &&& 31)) &&& 1 = 1))
theorem l_bits (N : Nat) (s : Int32) : ∀ (k j n : Nat), k + j = 8 → j < n → l_X8_bits_4 N s n (pb s k) (nI k) = some (pb s 8) := by
  intro k j
  induction j generalizing k with
  | zero =>
    intro n hk hn
    obtain ⟨n, rfl⟩ : ∃ m, n = m + 1 := ⟨n - 1, by omega⟩
    rw [l_X8_bits_4]
    have : k = 8 := by omega
    subst this
    simp [show (8 : Int32) ≤ nI 8 from by decide]
  | succ j ih =>
    intro n hk hn
    obtain ⟨n, rfl⟩ : ∃ m, n = m + 1 := ⟨n - 1, by omega⟩
    rw [l_X8_bits_4]
    have h8 : ¬ (8 : Int32) ≤ nI k := nI_ge (b := 8) (by omega) (by omega)
    rw [if_neg h8, f_has, cl_s]
    have hs : nI k + 1 = nI (k + 1) := nI_1 k
    by_cases hb : (s >>> (nI k &&& 31)) &&& 1 = 1
    · simp only [hb, decide_true, b2i_t, nm_d]
      rw [if_neg (by decide), hs]
      have := ih (k + 1) n (by omega) (by omega)
      rw [show pb s (k + 1) = pb s k + 1 from by simp [pb, hb, b2i]] at this
      exact this
    · simp only [hb, decide_false, b2i_f, nm_d]
      rw [if_pos (show True from trivial), hs]
      have := ih (k + 1) n (by omega) (by omega)
      rw [show pb s (k + 1) = pb s k + 0 from by simp [pb, hb, b2i]] at this
      exact this
theorem f_bits8 {N : Nat} (hN : 9 ≤ N) (s : Int32) : f_X8_bits N s = some (pb s 8) := l_bits N s 0 8 N rfl (by omega)
theorem pc_pb : ∀ n : Nat, n < 256 → pb (nI n) 8 = pc (nI n) := by
  have h : (List.range 256).all (fun n => decide (pb (nI n) 8 = pc (nI n))) = true := by decide +kernel
  intro n hn
  exact of_decide_eq_true (List.all_eq_true.mp h n (List.mem_range.mpr hn))
theorem f_bits {N n : Nat} (hN : 9 ≤ N) (hn : n < 256) : f_X8_bits N (nI n) = some (pc (nI n)) := by rw [f_bits8 hN, pc_pb n hn]
/-- the count as a number -/
def pn (n : Nat) : Nat := (pc (nI n)).toNatClampNeg
theorem pc_pn : ∀ n : Nat, n < 256 → pc (nI n) = nI (pn n) ∧ pn n ≤ 8 := by
  have h : (List.range 256).all (fun n => decide (pc (nI n) = nI (pn n) ∧ pn n ≤ 8)) = true := by decide +kernel
  intro n hn
  exact of_decide_eq_true (List.all_eq_true.mp h n (List.mem_range.mpr hn))
