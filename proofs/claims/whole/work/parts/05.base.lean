/-! ===== base: pure words of the decompiled functions, worlds, calls ===== -/
/-- base address, addresses of the text constants and of their bytes, KIND_ABOVE's row -/
abbrev Gp : Type := Nat × (Nat → Nat) × (Nat → Nat) × Nat
/-- tables, array classes (int, long, boolean), the globals -/
abbrev Ev : Type := va_G × ClassId × ClassId × ClassId × Gp
abbrev tyL (E : Ev) : List (ClassId × FieldType) := [(E.2.1, .int), (E.2.2.1, .long), (E.2.2.2.1, .boolean)]
theorem nm_st {α β : Type} {P : α → Prop} {e : α} {k : α → Option β} {o : Option β} (hP : P e) (hf : nm e k = o) : ∃ z, P z ∧ k z = o := ⟨e, hP, hf⟩
theorem nm_st' {α β : Type} {P : α → Prop} {e : α} {k : α → Option β} {o : Option β} (hf : nm e k = o) (hP : P e) : ∃ z, P z ∧ k z = o := ⟨e, hP, hf⟩
theorem nm_q {α β : Type} {e x : α} {k : α → Option β} {o : Option β} (hx : x = e) (hf : nm e k = o) : k x = o := by rw [hx]; exact hf
theorem ck_e {β : Type} {i : Int32} {n : Nat} {k : Option β} {q : β} (hf : ck i n k = some q) : vp_in i n ∧ k = some q := by
  unfold ck at hf
  by_cases h : 0 ≤ i.toInt ∧ i.toInt < n
  · rw [if_pos h] at hf; exact ⟨vp_in_iff.mpr h, hf⟩
  · rw [if_neg h] at hf; cases hf
theorem cz_e {β : Type} {y : Int32} {k : Option β} {q : β} (hf : cz y k = some q) : ¬ y = 0 ∧ k = some q := by
  unfold cz at hf
  by_cases h : y = 0
  · rw [if_pos h] at hf; cases hf
  · rw [if_neg h] at hf; exact ⟨h, hf⟩
theorem czL_e {β : Type} {y : Int64} {k : Option β} {q : β} (hf : czL y k = some q) : ¬ y = 0 ∧ k = some q := by
  unfold czL at hf
  by_cases h : y = 0
  · rw [if_pos h] at hf; cases hf
  · rw [if_neg h] at hf; exact ⟨h, hf⟩
theorem cb_e {β : Type} {v : Int32} {k : Option β} {q : β} (hf : cb v k = some q) : (v = 0 ∨ v = 1) ∧ k = some q := by
  unfold cb at hf
  by_cases h : v = 0 ∨ v = 1
  · rw [if_pos h] at hf; exact ⟨h, hf⟩
  · rw [if_neg h] at hf; cases hf
theorem cp_e {β : Type} {p : Prop} {d : Decidable p} {k : Option β} {q : β} (hf : cp p d k = some q) : p ∧ k = some q := by
  unfold cp at hf
  by_cases h : p
  · rw [if_pos h] at hf; exact ⟨h, hf⟩
  · rw [if_neg h] at hf; cases hf
theorem cpy_e {β : Type} {sp dp n : Int32} {n0 n1 : Nat} {k : Option β} {q : β} (hf : cpy sp dp n n0 n1 k = some q) : (¬ sp < 0 ∧ ¬ dp < 0 ∧ ¬ n < 0 ∧ sp.toNatClampNeg + n.toNatClampNeg ≤ n0 ∧ dp.toNatClampNeg + n.toNatClampNeg ≤ n1) ∧ k = some q := by
  unfold cpy at hf
  by_cases h : ¬ sp < 0 ∧ ¬ dp < 0 ∧ ¬ n < 0 ∧ sp.toNatClampNeg + n.toNatClampNeg ≤ n0 ∧ dp.toNatClampNeg + n.toNatClampNeg ≤ n1
  · rw [if_pos h] at hf; exact ⟨h, hf⟩
  · rw [if_neg h] at hf; cases hf
theorem fst_e {α β : Type} {a : α} {b : β} {q : α × β} (h : (a, b) = q) : a = q.1 := congrArg Prod.fst h
theorem rtP {R : Type} {P : R → Prop} {a q : R} (e : a = q) (h : P a) : P q := e ▸ h
theorem cl_e {α β : Type} {o : Option α} {k : α → Option β} {q : β} (hf : cl o k = some q) : ∃ a, o = some a ∧ k a = some q := by
  cases o with
  | none => cases hf
  | some a => exact ⟨a, rfl, hf⟩
theorem ite_t {β : Type} {c : Prop} {d : Decidable c} {a b o : β} (h : c) (hf : @ite _ c d a b = o) : a = o := by rw [← hf, if_pos h]
theorem ite_f {β : Type} {c : Prop} {d : Decidable c} {a b o : β} (h : ¬ c) (hf : @ite _ c d a b = o) : b = o := by rw [← hf, if_neg h]
theorem onl_n {β : Type} {o : Option SR} {a z : β} {b : SR → β} (h : o = none) (hf : onl o a b = z) : a = z := by rw [h] at hf; exact hf
theorem onl_s {β : Type} {o : Option SR} {a z : β} {b : SR → β} {R : SR} (h : o = some R) (hf : onl o a b = z) : b R = z := by rw [h] at hf; exact hf
theorem opt_or (o : Option SR) : o = none ∨ ∃ R, o = some R := by cases o with
  | none => exact Or.inl rfl
  | some R => exact Or.inr ⟨R, rfl⟩
theorem nar_b {v : Int32} (h : v = 0 ∨ v = 1) : narrow .boolean (.int v) = .int v := by rcases h with rfl | rfl <;> rfl
theorem fit_b {v : Int32} (h : v = 0 ∨ v = 1) : fits .boolean (.int v) = true := by rcases h with rfl | rfl <;> rfl
/-- the cell of a reference to a street -/
def hv (o : Option SR) : Value := match o with
  | none => .null
  | some R => .ref R.1
theorem hv_nar (o : Option SR) (n : String) : narrow (.object n) (hv o) = hv o := by cases o <;> rfl
theorem hv_fit (o : Option SR) (n : String) : fits (.object n) (hv o) = true := by cases o <;> rfl
def sW (cI : ClassId) : List SR → va_W
  | [] => []
  | R :: L => (R.1, .inr (4, [.ref R.2.1, .int R.2.2.2.2.1, .int R.2.2.2.2.2])) :: (R.2.1, .inl (cI, R.2.2.1, .inl R.2.2.2.1)) :: sW cI L
theorem sW_get {cI : ClassId} {L : List SR} {R : SR} (h : R ∈ L) : ∃ p : Nat, (sW cI L)[p]? = some (R.1, .inr (4, [.ref R.2.1, .int R.2.2.2.2.1, .int R.2.2.2.2.2])) ∧ (sW cI L)[p + 1]? = some (R.2.1, .inl (cI, R.2.2.1, .inl R.2.2.2.1)) := by
  induction L with
  | nil => cases h
  | cons S L ih =>
    rcases List.mem_cons.mp h with rfl | h
    · exact ⟨0, rfl, rfl⟩
    · obtain ⟨p, h1, h2⟩ := ih h
      exact ⟨p + 2, h1, h2⟩
theorem suf_at {α : Type} {w s : List α} {p : Nat} {x : α} (n : Nat) (hn : w.length = n) (h : s[p]? = some x) : (w ++ s)[n + p]? = some x := by
  subst hn
  rw [List.getElem?_append_right (Nat.le_add_right _ _), Nat.add_sub_cancel_left]
  exact h
/-! worlds, by class -/
def wX0 (E : Ev) (a : Nat → Nat) (σ : St) : va_W := [(a 0, .inr (0, [.ref (a 1), .int (σ 1 0), .int (σ 2 0), .int (σ 3 0), .int (σ 4 0)])), (a 1, .inl (E.2.1, 20, .inl (σ 0)))]
def wX1 (E : Ev) (a : Nat → Nat) (σ : St) : va_W := [(a 0, .inr (1, [.ref (a 1), .ref (a 2), .ref (a 3), .int (σ 3 0), .ref (a 4), .ref (a 5), .int (σ 6 0), .ref (a 6), .ref (a 7), .int (σ 9 0)])), (a 1, .inl (E.2.1, 5, .inl (σ 0))), (a 2, .inl (E.2.1, 5, .inl (σ 1))), (a 3, .inl (E.2.1, 5, .inl (σ 2))), (a 4, .inl (E.2.1, 10, .inl (σ 4))), (a 5, .inl (E.2.1, 10, .inl (σ 5))), (a 6, .inl (E.2.1, 8, .inl (σ 7))), (a 7, .inl (E.2.1, 8, .inl (σ 8)))]
def wX2 (E : Ev) (a : Nat → Nat) (σ : St) (h : Option SR) : va_W := [(a 0, .inr (2, [.int (σ 0 0), .ref (a 1), .ref (a 2), .ref (a 3), .ref (a 4), .ref (a 5), .int (σ 6 0), .int (σ 7 0), .int (σ 8 0), hv h, .ref (a 6)])), (a 1, .inl (E.2.1, 6, .inl (σ 1))), (a 2, .inl (E.2.1, 6, .inl (σ 2))), (a 3, .inl (E.2.1, 6, .inl (σ 3))), (a 4, .inl (E.2.1, 24, .inl (σ 4))), (a 5, .inl (E.2.1, 6, .inl (σ 5))), (a 6, .inl (E.2.1, 6, .inl (σ 10)))]
def wX3 (E : Ev) (a : Nat → Nat) (σ : St) : va_W := [(a 0, .inr (3, [.ref (a 1), .ref (a 2), .int (σ 2 0), .int (σ 3 0)])), (a 1, .inl (E.2.1, 6, .inl (σ 0))), (a 2, .inl (E.2.1, 6, .inl (σ 1)))]
def wX5 (E : Ev) (a : Nat → Nat) (σ : St) : va_W := [(a 0, .inr (5, [.ref (a 1), .int (σ 1 0), .ref (a 2), .int (σ 3 0), .int (σ 4 0), .int (σ 5 0), .int (σ 6 0), .int (σ 7 0)])), (a 1, .inl (E.2.1, 100, .inl (σ 0))), (a 2, .inl (E.2.1, 100, .inl (σ 2)))]
def wX6 (E : Ev) (a : Nat → Nat) (σ : St) (τ : Nat → Nat → Int64) : va_W := [(a 0, .inr (6, [.ref (a 1), .ref (a 2), .ref (a 3)])), (a 1, .inl (E.2.1, 6, .inl (σ 0))), (a 2, .inl (E.2.1, 6, .inl (σ 1))), (a 3, .inl (E.2.2.1, 360, .inr (.inl (τ 2))))]
def wA (E : Ev) (a : Nat) (n : Nat) (f : Nat → Int32) : va_W := [(a, .inl (E.2.1, n, .inl f))]
def wX8 (E : Ev) (a : Nat → Nat) (σ : St) (τ : Nat → Nat → Int64) : va_W := [(a 0, .inr (8, [.int (σ 0 0), .int (σ 1 0), .int (σ 2 0), .ref (a 1), .ref (a 2), .ref (a 3), .ref (a 4), .ref (a 5), .int (σ 8 0), .int (σ 9 0), .int (σ 10 0), .int (σ 11 0), .int (σ 12 0), .ref (a 6), .ref (a 7), .ref (a 8), .ref (a 9), .ref (a 10), .ref (a 11), .ref (a 12), .ref (a 13), .int (σ 21 0), .int (σ 22 0), .int (σ 23 0), .ref (a 14), .ref (a 15), .int (σ 26 0), .int (σ 27 0), .ref (a 16), .ref (a 17), .ref (a 18), .int (σ 31 0), .ref (a 19), .ref (a 20), .ref (a 21), .int (σ 35 0), .int (σ 36 0), .ref (a 22), .ref (a 23), .ref (a 24), .ref (a 25), .int (σ 41 0), .int (σ 42 0), .int (σ 43 0), .int (σ 44 0), .int (σ 45 0), .int (σ 46 0), .int (σ 47 0), .int (σ 48 0), .ref (a 26), .ref (a 27), .ref (a 28), .ref (a 29), .ref (a 30), .ref (a 31), .ref (a 32), .ref (a 33), .ref (a 34), .ref (a 35), .ref (a 36), .ref (a 37), .int (σ 61 0), .ref (a 38), .ref (a 39), .ref (a 40), .ref (a 41), .ref (a 42)])), (a 1, .inl (E.2.1, 6, .inl (σ 3))), (a 2, .inl (E.2.1, 6, .inl (σ 4))), (a 3, .inl (E.2.1, 6, .inl (σ 5))), (a 4, .inl (E.2.1, 24, .inl (σ 6))), (a 5, .inl (E.2.1, 6, .inl (σ 7))), (a 6, .inl (E.2.1, 100, .inl (σ 13))), (a 7, .inl (E.2.1, 6, .inl (σ 14))), (a 8, .inl (E.2.1, 60, .inl (σ 15))), (a 9, .inl (E.2.1, 60, .inl (σ 16))), (a 10, .inl (E.2.1, 60, .inl (σ 17))), (a 11, .inl (E.2.1, 60, .inl (σ 18))), (a 12, .inl (E.2.1, 600, .inl (σ 19))), (a 13, .inl (E.2.1, 101, .inl (σ 20))), (a 14, .inl (E.2.1, 16, .inl (σ 24))), (a 15, .inl (E.2.2.2.1, 100, .inl (σ 25))), (a 16, .inl (E.2.1, 6, .inl (σ 28))), (a 17, .inl (E.2.1, 8, .inl (σ 29))), (a 18, .inl (E.2.1, 6, .inl (σ 30))), (a 19, .inl (E.2.1, 5, .inl (σ 32))), (a 20, .inl (E.2.1, 5, .inl (σ 33))), (a 21, .inl (E.2.2.2.1, 5, .inl (σ 34))), (a 22, .inl (E.2.1, 10, .inl (σ 37))), (a 23, .inl (E.2.1, 10, .inl (σ 38))), (a 24, .inl (E.2.1, 8, .inl (σ 39))), (a 25, .inl (E.2.1, 8, .inl (σ 40))), (a 26, .inl (E.2.1, 6, .inl (σ 49))), (a 27, .inl (E.2.1, 6, .inl (σ 50))), (a 28, .inl (E.2.1, 6, .inl (σ 51))), (a 29, .inl (E.2.1, 24, .inl (σ 52))), (a 30, .inl (E.2.1, 6, .inl (σ 53))), (a 31, .inl (E.2.1, 5, .inl (σ 54))), (a 32, .inl (E.2.1, 5, .inl (σ 55))), (a 33, .inl (E.2.1, 10, .inl (σ 56))), (a 34, .inl (E.2.1, 10, .inl (σ 57))), (a 35, .inl (E.2.1, 8, .inl (σ 58))), (a 36, .inl (E.2.1, 8, .inl (σ 59))), (a 37, .inl (E.2.2.2.1, 5, .inl (σ 60))), (a 38, .inl (E.2.1, 20, .inl (σ 62))), (a 39, .inl (E.2.1, 6, .inl (σ 63))), (a 40, .inl (E.2.1, 6, .inl (σ 64))), (a 41, .inl (E.2.2.1, 360, .inr (.inl (τ 65)))), (a 42, .inl (E.2.2.1, 60, .inr (.inl (τ 66))))]
def wX7o (E : Ev) (a a1 a2 a3 a4 a5 a6 a7 a8 a9 : Nat → Nat) (σ : St) : va_W := [(a 0, .inr (7, [.ref (a1 0), .ref (a2 0), .ref (a3 0), .ref (a4 0), .ref (a5 0), .int (σ 5 0), .ref (a6 0), .int (σ 7 0), .ref (a7 0), .ref (a8 0), .ref (a9 0)]))]
/-! globals: what no method ever writes -/
def kRef : List (Nat × String × Nat) := [(72, "like", 0), (74, "mind", 1), (76, "need", 2), (77, "hold", 3), (78, "", 4), (103, "tkvmwd", 5), (109, "<=>", 6)]
def isNw (w : Cond) : Bool := match w with
  | .fieldLinkNest _ _ _ _ _ _ => true
  | .methodLinkNest _ _ _ _ => true
  | _ => false
def nestW : List Cond := [.fieldLinkNest "PickedMatch" 101 "PickedMatch$Scene" "rows" "[I" "PickedMatch", .fieldLinkNest "PickedMatch" 108 "PickedMatch$Scene" "hadCount" "I" "PickedMatch", .fieldLinkNest "PickedMatch" 115 "PickedMatch$StreetReader" "length" "I" "PickedMatch", .fieldLinkNest "PickedMatch" 128 "PickedMatch$StreetReader" "place" "I" "PickedMatch", .fieldLinkNest "PickedMatch" 133 "PickedMatch$StreetReader" "code" "[I" "PickedMatch", .fieldLinkNest "PickedMatch" 136 "PickedMatch$StreetReader" "size" "I" "PickedMatch", .fieldLinkNest "PickedMatch" 139 "PickedMatch$StreetReader" "need" "I" "PickedMatch", .fieldLinkNest "PickedMatch" 142 "PickedMatch$StreetReader" "hold" "I" "PickedMatch", .fieldLinkNest "PickedMatch" 148 "PickedMatch$Scene" "held" "LPickedMatch$Street;" "PickedMatch", .fieldLinkNest "PickedMatch" 152 "PickedMatch$Scene" "day" "I" "PickedMatch", .fieldLinkNest "PickedMatch" 161 "PickedMatch$Scene" "hadBits" "I" "PickedMatch", .fieldLinkNest "PickedMatch" 193 "PickedMatch$Search" "best" "[I" "PickedMatch", .fieldLinkNest "PickedMatch" 206 "PickedMatch$Notes" "seenCount" "I" "PickedMatch", .fieldLinkNest "PickedMatch" 228 "PickedMatch$Notes" "weekCount" "I" "PickedMatch", .fieldLinkNest "PickedMatch" 238 "PickedMatch$Notes" "bookCount" "I" "PickedMatch", .fieldLinkNest "PickedMatch" 250 "PickedMatch$Tapes" "sorts" "[I" "PickedMatch", .fieldLinkNest "PickedMatch" 253 "PickedMatch$Tapes" "lengths" "[I" "PickedMatch", .fieldLinkNest "PickedMatch" 277 "PickedMatch$Acts" "bodies" "[I" "PickedMatch", .fieldLinkNest "PickedMatch" 284 "PickedMatch$Acts" "ran" "I" "PickedMatch", .fieldLinkNest "PickedMatch" 66 "PickedMatch$Scene" "things" "I" "PickedMatch", .fieldLinkNest "PickedMatch" 78 "PickedMatch$Scene" "kinds" "[I" "PickedMatch", .fieldLinkNest "PickedMatch" 82 "PickedMatch$Scene" "numbers" "[I" "PickedMatch", .fieldLinkNest "PickedMatch" 85 "PickedMatch$Scene" "marks" "[I" "PickedMatch", .fieldLinkNest "PickedMatch$Acts" 44 "PickedMatch" "KIND_ABOVE" "[I" "PickedMatch", .fieldLinkNest "PickedMatch$Notes" 82 "PickedMatch$Scene" "marks" "[I" "PickedMatch", .fieldLinkNest "PickedMatch$Scene" 59 "PickedMatch$Street" "need" "I" "PickedMatch", .fieldLinkNest "PickedMatch$Scene" 62 "PickedMatch$Street" "hold" "I" "PickedMatch", .fieldLinkNest "PickedMatch$Search" 22 "PickedMatch$Scene" "things" "I" "PickedMatch", .fieldLinkNest "PickedMatch$Search" 37 "PickedMatch$Scene" "hadCount" "I" "PickedMatch", .methodLinkNest "PickedMatch" 104 ⟨"PickedMatch$Scene", "pickUp", "(I)V"⟩ "PickedMatch", .methodLinkNest "PickedMatch" 11 ⟨"PickedMatch$Scene", "<init>", "()V"⟩ "PickedMatch", .methodLinkNest "PickedMatch" 111 ⟨"PickedMatch$Scene", "layDownNewest", "()I"⟩ "PickedMatch", .methodLinkNest "PickedMatch" 118 ⟨"PickedMatch$StreetReader", "addSign", "(I)I"⟩ "PickedMatch", .methodLinkNest "PickedMatch" 124 ⟨"PickedMatch$StreetReader", "readStreet", "()Z"⟩ "PickedMatch", .methodLinkNest "PickedMatch" 145 ⟨"PickedMatch$Street", "<init>", "([IIII)V"⟩ "PickedMatch", .methodLinkNest "PickedMatch" 155 ⟨"PickedMatch$Scene", "needNow", "()I"⟩ "PickedMatch", .methodLinkNest "PickedMatch" 158 ⟨"PickedMatch$Scene", "holdNow", "()I"⟩ "PickedMatch", .methodLinkNest "PickedMatch" 164 ⟨"PickedMatch$Scene", "goingBits", "()I"⟩ "PickedMatch", .methodLinkNest "PickedMatch" 167 ⟨"PickedMatch$Scene", "marksOf", "(I)I"⟩ "PickedMatch", .methodLinkNest "PickedMatch" 176 ⟨"PickedMatch$Scene", "daysGo", "(I)V"⟩ "PickedMatch", .methodLinkNest "PickedMatch" 179 ⟨"PickedMatch$Scene", "becomeAs", "(LPickedMatch$Scene;)V"⟩ "PickedMatch", .methodLinkNest "PickedMatch" 183 ⟨"PickedMatch$Scene", "dayGoes", "()V"⟩ "PickedMatch", .methodLinkNest "PickedMatch" 186 ⟨"PickedMatch$Scene", "isHad", "(I)Z"⟩ "PickedMatch", .methodLinkNest "PickedMatch" 189 ⟨"PickedMatch$Search", "longestRow", "(LPickedMatch$Scene;)I"⟩ "PickedMatch", .methodLinkNest "PickedMatch" 202 ⟨"PickedMatch$Search", "fewestAhead", "(LPickedMatch$Scene;I)I"⟩ "PickedMatch", .methodLinkNest "PickedMatch" 209 ⟨"PickedMatch$Notes", "addSeen", "(IZI)I"⟩ "PickedMatch", .methodLinkNest "PickedMatch" 213 ⟨"PickedMatch$Notes", "isAllSeen", "(LPickedMatch$Scene;)Z"⟩ "PickedMatch", .methodLinkNest "PickedMatch" 23 ⟨"PickedMatch$Notes", "<init>", "()V"⟩ "PickedMatch", .methodLinkNest "PickedMatch" 231 ⟨"PickedMatch$Notes", "addToWeek", "(II)I"⟩ "PickedMatch", .methodLinkNest "PickedMatch" 235 ⟨"PickedMatch$Notes", "goThroughWeek", "(LPickedMatch$Scene;)V"⟩ "PickedMatch", .methodLinkNest "PickedMatch" 241 ⟨"PickedMatch$Notes", "addToBook", "(II)I"⟩ "PickedMatch", .methodLinkNest "PickedMatch" 244 ⟨"PickedMatch$Notes", "firstOtherwise", "(LPickedMatch$Scene;)I"⟩ "PickedMatch", .methodLinkNest "PickedMatch" 247 ⟨"PickedMatch$Tapes", "hasTape", "(I)Z"⟩ "PickedMatch", .methodLinkNest "PickedMatch" 256 ⟨"PickedMatch$Tapes", "itemAt", "(II)J"⟩ "PickedMatch", .methodLinkNest "PickedMatch" 260 ⟨"PickedMatch$Notes", "becomeAs", "(LPickedMatch$Notes;)V"⟩ "PickedMatch", .methodLinkNest "PickedMatch" 267 ⟨"PickedMatch$Acts", "forget", "()V"⟩ "PickedMatch", .methodLinkNest "PickedMatch" 270 ⟨"PickedMatch$Acts", "perform", "(IIIII)I"⟩ "PickedMatch", .methodLinkNest "PickedMatch" 274 ⟨"PickedMatch$Acts", "keptCount", "()I"⟩ "PickedMatch", .methodLinkNest "PickedMatch" 287 ⟨"PickedMatch$Tapes", "makeRow", "(III)V"⟩ "PickedMatch", .methodLinkNest "PickedMatch" 291 ⟨"PickedMatch$Tapes", "hasPlace", "(II)Z"⟩ "PickedMatch", .methodLinkNest "PickedMatch" 294 ⟨"PickedMatch$Tapes", "setItem", "(IIJ)V"⟩ "PickedMatch", .methodLinkNest "PickedMatch" 298 ⟨"PickedMatch$Tapes", "hasStretch", "(III)Z"⟩ "PickedMatch", .methodLinkNest "PickedMatch" 301 ⟨"PickedMatch$Tapes", "copyItems", "(IIIII)V"⟩ "PickedMatch", .methodLinkNest "PickedMatch" 311 ⟨"PickedMatch$Scene", "layDown", "(I)V"⟩ "PickedMatch", .methodLinkNest "PickedMatch" 36 ⟨"PickedMatch$StreetReader", "<init>", "()V"⟩ "PickedMatch", .methodLinkNest "PickedMatch" 43 ⟨"PickedMatch$Search", "<init>", "()V"⟩ "PickedMatch", .methodLinkNest "PickedMatch" 50 ⟨"PickedMatch$Acts", "<init>", "()V"⟩ "PickedMatch", .methodLinkNest "PickedMatch" 57 ⟨"PickedMatch$Tapes", "<init>", "()V"⟩ "PickedMatch", .methodLinkNest "PickedMatch" 70 ⟨"PickedMatch$Scene", "addThing", "(III)I"⟩ "PickedMatch", .methodLinkNest "PickedMatch" 74 ⟨"PickedMatch$Scene", "hasThing", "(I)Z"⟩ "PickedMatch", .methodLinkNest "PickedMatch" 88 ⟨"PickedMatch$Scene", "placeInHad", "(I)I"⟩ "PickedMatch", .methodLinkNest "PickedMatch" 92 ⟨"PickedMatch$Scene", "tasteOf", "(I)I"⟩ "PickedMatch", .methodLinkNest "PickedMatch" 95 ⟨"PickedMatch$Scene", "alikeOf", "(I)I"⟩ "PickedMatch", .methodLinkNest "PickedMatch" 98 ⟨"PickedMatch$Scene", "goesNow", "(I)Z"⟩ "PickedMatch", .methodLinkNest "PickedMatch$Notes" 59 ⟨"PickedMatch$Scene", "dayGoes", "()V"⟩ "PickedMatch", .methodLinkNest "PickedMatch$Notes" 64 ⟨"PickedMatch$Scene", "isHad", "(I)Z"⟩ "PickedMatch", .methodLinkNest "PickedMatch$Notes" 68 ⟨"PickedMatch$Scene", "layDownNewest", "()I"⟩ "PickedMatch", .methodLinkNest "PickedMatch$Notes" 72 ⟨"PickedMatch$Scene", "hasThing", "(I)Z"⟩ "PickedMatch", .methodLinkNest "PickedMatch$Notes" 75 ⟨"PickedMatch$Scene", "goesNow", "(I)Z"⟩ "PickedMatch", .methodLinkNest "PickedMatch$Notes" 78 ⟨"PickedMatch$Scene", "pickUp", "(I)V"⟩ "PickedMatch", .methodLinkNest "PickedMatch$Scene" 74 ⟨"PickedMatch$Street", "sumFor", "([I)I"⟩ "PickedMatch", .methodLinkNest "PickedMatch$Search" 27 ⟨"PickedMatch$Scene", "holdNow", "()I"⟩ "PickedMatch", .methodLinkNest "PickedMatch$Search" 44 ⟨"PickedMatch$Scene", "goesNow", "(I)Z"⟩ "PickedMatch", .methodLinkNest "PickedMatch$Search" 52 ⟨"PickedMatch$Scene", "pickUp", "(I)V"⟩ "PickedMatch", .methodLinkNest "PickedMatch$Search" 55 ⟨"PickedMatch$Scene", "layDownNewest", "()I"⟩ "PickedMatch"]
theorem nestW_ok : nestW.all isNw = true := by decide +kernel
theorem nw_warm {w : Cond} (hw : isNw w = true) {s U : State} (hW : s.WarmedH U.vm) (h : va_Nw w s) : va_Nw w U := by
  cases w with
  | fieldLinkNest a i b n d k => exact va_Nw.warmF hW h
  | methodLinkNest a i x k => exact va_Nw.warmM hW h
  | _ => cases hw
theorem nw_same {w : Cond} (hw : isNw w = true) {s U : State} (hv : s.vm = U.vm) (h : va_Nw w s) : va_Nw w U := by
  cases w with
  | fieldLinkNest a i b n d k => exact va_tabs rfl hv h
  | methodLinkNest a i x k => exact va_tabs rfl hv h
  | _ => cases hw
def GH (g : Gp) (U : State) (H : Heap) : Prop :=
  va_Z "PickedMatch" "KIND_ABOVE" "[I" (.ref g.2.2.2) (fun q => g.1 ≤ q) U H ∧ va_T .int g.2.2.2 7 (fun j => .int (ka j)) (fun q => g.1 ≤ q) U H ∧ va_Z "java/lang/String" "COMPACT_STRINGS" "Z" (.int 1) (fun q => g.1 ≤ q) U H ∧ va_Zq "jdk/internal/util/Preconditions" "SIOOBE_FORMATTER" "Ljava/util/function/BiFunction;" (fun q => g.1 ≤ q) U H ∧ vk_S 7 kLen kByt g.2.1 g.2.2.1 (fun q => g.1 ≤ q) U H
def GG (g : Gp) (U : State) (H : Heap) : Prop := (∀ w ∈ nestW, va_Nw w U) ∧ (∀ r ∈ kRef, vk_R RX5 r.1 r.2.1 (g.2.1 r.2.2) U) ∧ GH g U H ∧ g.1 ≤ H.size
theorem GH.moved {g : Gp} {u U : State} {H : Heap} (hvm : u.vm.Alike U.vm) (h : GH g u H) : GH g U H := by
  obtain ⟨h1, h2, h3, h4, h5⟩ := h
  exact ⟨h1.moved hvm, h2.moved hvm, h3.moved hvm, h4.moved hvm, h5.moved hvm⟩
theorem GH.kept {g : Gp} {U : State} {H H1 : Heap} (h : GH g U H) (hq : ∀ a : Nat, a < H.size → ¬ g.1 ≤ a → H1[a]? = H[a]?) : GH g U H1 := by
  obtain ⟨h1, h2, h3, h4, h5⟩ := h
  exact ⟨h1.kept hq, h2.kept hq, h3.kept hq, h4.kept hq, h5.kept hq⟩
theorem GG.at {g : Gp} {s U : State} {A : Nat → Prop} {H : Heap} {locs : List Loc} (h : GG g s s.heap) (hS : va_S A s.heap H locs) (hAB : ∀ q, A q → g.1 ≤ q) (hU : U.heap = H) (hW : s.WarmedH U.vm) : GG g U U.heap := by
  obtain ⟨h1, h2, h3, h4⟩ := h
  refine ⟨fun w hw => nw_warm (List.all_eq_true.mp nestW_ok w hw) hW (h1 w hw), fun r hr => (h2 r hr).warm hW, ?_, by rw [hU]; exact Nat.le_trans h4 hS.1⟩
  rw [hU]
  exact (h3.kept (fun a ha hn => hS.2.1 a ha (fun z => hn (hAB a z)))).moved hW.alike
theorem GG.blind {g : Gp} {U : State} (h : GG g U U.heap) (f : JFrame) (mk : MethodId) (a : Array Value) : GG g (U.calling f mk a) (U.calling f mk a).heap := by
  obtain ⟨h1, h2, h3, h4⟩ := h
  exact ⟨fun w hw => nw_same (List.all_eq_true.mp nestW_ok w hw) (s := U) (U := U.calling f mk a) rfl (h1 w hw), fun r hr => vk_R.same (u := U) (U := U.calling f mk a) rfl (h2 r hr), GH.moved (u := U) (U := U.calling f mk a) (Vm.Alike.refl U.vm) h3, h4⟩
theorem nwG {g : Gp} {U : State} {H : Heap} {w : Cond} {args : Array Value} (hG : GG g U H) (hm : w ∈ nestW) : w.before args U = true := by
  have h1 := hG.1 w hm
  have h2 := List.all_eq_true.mp nestW_ok w hm
  cases w with
  | fieldLinkNest a i b n d k => exact va_tabs rfl (rfl : U.vm = U.vm) h1
  | methodLinkNest a i x k => exact va_tabs rfl (rfl : U.vm = U.vm) h1
  | _ => cases h2
/-! contracts: before, after -/
def PcW (E : Ev) (av : List Value) (ws : va_W) (sz : Nat) : Array Value → State → Prop := va_Pc av (fun U => U.heap.size = sz ∧ va_P E.1 vwCl ws U.heap ∧ va_K E.1 vwCl (tyL E) U ∧ va_D (fun q => E.2.2.2.2.1 ≤ q) ws ∧ GG E.2.2.2.2 U U.heap)
theorem pcw_blind {E : Ev} {av : List Value} {ws : va_W} {sz : Nat} : FrameBlind (PcW E av ws sz) := fun a U g mk h => by
  obtain ⟨q0, q1, qP, qK, qD, qG⟩ := h
  exact ⟨q0, q1, qP, va_K.moved (u := U) (U := U.calling g mk a) (Vm.Alike.refl U.vm) qK, qD, qG.blind g mk a⟩
def Ci (l : Launch) (y : MethodName) (wl : List Cond) (rm : Room) (E : Ev) (av : List Value) (ws ws' : va_W) (r : Int32) : Prop := ∀ sz : Nat, Met l y wl rm (PcW E av ws sz) (va_Qi (fun (r' : Int32) (_ : Unit) => r' = r) (fun _ t => va_P E.1 vwCl ws' t.heap) (va_A ws sz)) 0 0 (va_A ws sz)
def Cl (l : Launch) (y : MethodName) (wl : List Cond) (rm : Room) (E : Ev) (av : List Value) (ws ws' : va_W) (r : Int64) : Prop := ∀ sz : Nat, Met l y wl rm (PcW E av ws sz) (va_Ql (fun (r' : Int64) (_ : Unit) => r' = r) (fun _ t => va_P E.1 vwCl ws' t.heap) (va_A ws sz)) 0 0 (va_A ws sz)
def Cv (l : Launch) (y : MethodName) (wl : List Cond) (rm : Room) (E : Ev) (av : List Value) (ws ws' : va_W) : Prop := ∀ sz : Nat, Met l y wl rm (PcW E av ws sz) (va_Qv (fun (_ : Unit) => True) (fun _ t => va_P E.1 vwCl ws' t.heap) (va_A ws sz)) 0 0 (va_A ws sz)
def Ca (l : Launch) (y : MethodName) (wl : List Cond) (rm : Room) (E : Ev) (av : List Value) (ws ws' : va_W) (r : Nat) : Prop := ∀ sz : Nat, Met l y wl rm (PcW E av ws sz) (va_Qr (fun (_ : Unit) => True) (fun _ a t => a = r ∧ va_P E.1 vwCl ws' t.heap) (va_A ws sz)) 0 0 (va_A ws sz)
/-! parts of a world -/
theorem vD_addr {A : Nat → Prop} {ws ws' : va_W} (h : va_D A ws) (e : ws'.map Prod.fst = ws.map Prod.fst) : va_D A ws' := by
  have key : ∀ (k : Nat) (q : Nat × va_E), ws'[k]? = some q → ∃ q0, ws[k]? = some q0 ∧ q0.1 = q.1 := by
    intro k q hq
    have h1 : (ws'.map Prod.fst)[k]? = some q.1 := by rw [List.getElem?_map, hq]; rfl
    rw [e, List.getElem?_map] at h1
    cases h2 : ws[k]? with
    | none => rw [h2] at h1; cases h1
    | some q0 => rw [h2] at h1; exact ⟨q0, rfl, Option.some.inj h1⟩
  refine ⟨fun i j p q hi hj hpq => ?_, fun k q hq => ?_⟩
  · obtain ⟨p0, a1, a2⟩ := key i p hi
    obtain ⟨q0, b1, b2⟩ := key j q hj
    exact h.1 i j p0 q0 a1 b1 (by rw [a2, b2]; exact hpq)
  · obtain ⟨q0, b1, b2⟩ := key k q hq
    rw [← b2]; exact h.2 k q0 b1
theorem vP_mem {D : va_G} {cls : List vw_C} {ws : va_W} {H : Heap} : va_P D cls ws H ↔ ∀ q ∈ ws, va_at D cls q H :=
  ⟨fun h q hq => by obtain ⟨k, hk⟩ := List.getElem?_of_mem hq; exact h k q hk, fun h k q hk => h q (List.mem_of_getElem? hk)⟩
/-- the callee's world wc (and sc behind it: the rest of the world, or nothing) out of the caller's, by places -/
theorem sub_mem {ws wc suf : va_W} (is : List Nat) (h : is.map (fun i => ws[i]?) = wc.map some) : ∀ q ∈ wc, q ∈ ws := by
  intro q hq
  have h1 : some q ∈ wc.map some := List.mem_map.mpr ⟨q, hq, rfl⟩
  rw [← h] at h1
  obtain ⟨i, -, hi⟩ := List.mem_map.mp h1
  exact List.mem_of_getElem? hi
theorem app_mem {α : Type} {a b s : List α} (h : ∀ q ∈ a, q ∈ b) : ∀ q ∈ a ++ s, q ∈ b ++ s := fun q hq => (List.mem_append.mp hq).elim (fun z => List.mem_append.mpr (Or.inl (h q z))) (fun z => List.mem_append.mpr (Or.inr z))
theorem inl_mem {α : Type} {a b s : List α} (h : ∀ q ∈ a, q ∈ b) : ∀ q ∈ a, q ∈ b ++ s := fun q hq => List.mem_append.mpr (Or.inl (h q hq))
theorem sub_P {D : va_G} {cls : List vw_C} {ws wc : va_W} {H : Heap} (hm : ∀ q ∈ wc, q ∈ ws) (h : va_P D cls ws H) : va_P D cls wc H := vP_mem.mpr (fun q hq => vP_mem.mp h q (hm q hq))
theorem vD_nd {A : Nat → Prop} {ws : va_W} : va_D A ws ↔ (ws.map Prod.fst).Nodup ∧ ∀ q ∈ ws, A q.1 := by
  constructor
  · intro h
    refine ⟨?_, fun q hq => by obtain ⟨k, hk⟩ := List.getElem?_of_mem hq; exact h.2 k q hk⟩
    rw [List.nodup_iff_pairwise_ne, List.pairwise_iff_getElem]
    intro i j hi hj hij he
    simp only [List.length_map] at hi hj
    simp only [List.getElem_map] at he
    have := h.1 i j ws[i] ws[j] (List.getElem?_eq_getElem hi) (List.getElem?_eq_getElem hj) he
    omega
  · intro h
    refine ⟨fun i j p q hi hj hpq => ?_, fun k q hk => h.2 q (List.mem_of_getElem? hk)⟩
    have e1 : (ws.map Prod.fst)[i]? = some p.1 := by rw [List.getElem?_map, hi]; rfl
    have e2 : (ws.map Prod.fst)[j]? = some p.1 := by rw [List.getElem?_map, hj, hpq]; rfl
    exact (List.getElem?_inj (by rw [List.length_map]; exact (List.getElem?_eq_some_iff.mp hi).1) h.1).mp (by rw [e1, e2])
theorem sub_D {A : Nat → Prop} {ws wc : va_W} (is : List Nat) (hn : va_nd is = true) (h : is.map (fun i => ws[i]?) = wc.map some) (hD : va_D A ws) : va_D A wc := hD.sub is hn h
theorem sub_Ds {A : Nat → Prop} {ws wc suf : va_W} (is : List Nat) (hn : va_nd is = true) (h : is.map (fun i => ws[i]?) = wc.map some) (hD : va_D A (ws ++ suf)) : va_D A (wc ++ suf) := by
  have hl : va_D A ws := by
    have h1 := vD_nd.mp hD
    refine vD_nd.mpr ⟨?_, fun q hq => h1.2 q (List.mem_append.mpr (Or.inl hq))⟩
    have h2 := h1.1
    rw [List.map_append] at h2
    exact (List.nodup_append.mp h2).1
  have hc := hl.sub is hn h
  have h1 := vD_nd.mp hD
  have h2 := h1.1
  rw [List.map_append] at h2
  have h3 := List.nodup_append.mp h2
  refine vD_nd.mpr ⟨?_, fun q hq => ?_⟩
  · rw [List.map_append]
    refine List.nodup_append.mpr ⟨(vD_nd.mp hc).1, h3.2.1, fun a ha b hb => h3.2.2 a ?_ b hb⟩
    obtain ⟨q, hq, rfl⟩ := List.mem_map.mp ha
    exact List.mem_map.mpr ⟨q, sub_mem (suf := suf) is h q hq, rfl⟩
  · rcases List.mem_append.mp hq with z | z
    · exact h1.2 q (List.mem_append.mpr (Or.inl (sub_mem (suf := suf) is h q z)))
    · exact h1.2 q (List.mem_append.mpr (Or.inr z))
theorem sub_Dn {A : Nat → Prop} {ws wc suf : va_W} (is : List Nat) (hn : va_nd is = true) (h : is.map (fun i => ws[i]?) = wc.map some) (hD : va_D A (ws ++ suf)) : va_D A wc := by
  have h1 := vD_nd.mp (sub_Ds (suf := suf) is hn h hD)
  refine vD_nd.mpr ⟨?_, fun q hq => h1.2 q (List.mem_append.mpr (Or.inl hq))⟩
  have h2 := h1.1
  rw [List.map_append] at h2
  exact (List.nodup_append.mp h2).1
theorem w_free {A0 : Nat → Prop} {ws wc : va_W} {H0 H : Heap} {locs : List Loc} (hD : va_D A0 ws) (hS : va_S A0 H0 H locs) (hA : ∀ q, H0.size ≤ q → A0 q) (hm : ∀ q ∈ wc, q ∈ ws) : ∀ q, va_A wc H.size q → A0 q := by
  intro q h
  rcases h with ⟨k, e, h⟩ | h
  · exact (vD_nd.mp hD).2 (q, e) (hm _ (List.mem_of_getElem? h))
  · exact hA q (Nat.le_trans hS.1 h)
/-- which cells of the new world come from the callee (inr j), which stay (inl: at their own place) -/
def pick (ws wc : va_W) : List (Option Nat) → Nat → List (Option (Nat × va_E))
  | [], _ => []
  | none :: t, i => ws[i]? :: pick ws wc t (i + 1)
  | some j :: t, i => wc[j]? :: pick ws wc t (i + 1)
def selOk (is : List Nat) : List (Option Nat) → Nat → Bool
  | [], _ => true
  | none :: t, i => !(is.contains i) && selOk is t (i + 1)
  | some _ :: t, i => selOk is t (i + 1)
theorem pick_mem {ws wc : va_W} {is : List Nat} : ∀ (sel : List (Option Nat)) (i0 : Nat), selOk is sel i0 = true → ∀ q : Nat × va_E, some q ∈ pick ws wc sel i0 → q ∈ wc ∨ ∃ i : Nat, ws[i]? = some q ∧ i ∉ is := by
  intro sel
  induction sel with
  | nil => intro i0 _ q h; cases h
  | cons a t ih =>
    intro i0 hs q hq
    cases a with
    | none =>
      simp only [selOk, Bool.and_eq_true, Bool.not_eq_true'] at hs
      simp only [pick, List.mem_cons] at hq
      rcases hq with h | h
      · exact Or.inr ⟨i0, h.symm, by simpa using hs.1⟩
      · exact ih (i0 + 1) hs.2 q h
    | some j =>
      simp only [selOk] at hs
      simp only [pick, List.mem_cons] at hq
      rcases hq with h | h
      · exact Or.inl (List.mem_of_getElem? h.symm)
      · exact ih (i0 + 1) hs q h
/-- behind a call: without the suffix in the callee's world -/
theorem w_join {D : va_G} {cls : List vw_C} {A0 : Nat → Prop} {ws wc wc' ws' suf : va_W} {H H1 : Heap} (hP : va_P D cls (ws ++ suf) H) (hD : va_D A0 (ws ++ suf)) (is : List Nat) (hC : is.map (fun i => ws[i]?) = wc.map some) (sel : List (Option Nat)) (hsel : ws'.map some = pick ws wc' sel 0) (hok : selOk is sel 0 = true)
    (hk : ∀ q : Nat, q < H.size → ¬ va_A wc H.size q → H1[q]? = H[q]?) (hP1 : va_P D cls wc' H1) : va_P D cls (ws' ++ suf) H1 := by
  have idx : ∀ r ∈ wc, ∃ i ∈ is, ws[i]? = some r := by
    intro r hr
    have h1 : some r ∈ wc.map some := List.mem_map.mpr ⟨r, hr, rfl⟩
    rw [← hC] at h1
    obtain ⟨i, hi, he⟩ := List.mem_map.mp h1
    exact ⟨i, hi, he⟩
  have lt_of : ∀ {i : Nat} {r : Nat × va_E}, ws[i]? = some r → (ws ++ suf)[i]? = some r := fun {i r} h => by
    rw [List.getElem?_append_left (List.getElem?_eq_some_iff.mp h).1]; exact h
  have stay : ∀ (k : Nat) (q : Nat × va_E), (ws ++ suf)[k]? = some q → k ∉ is → va_at D cls q H1 := by
    intro k q hkq hni
    refine (hP k q hkq).kept (hk q.1 (hP k q hkq).lt ?_)
    intro h
    rcases h with ⟨k2, e, h⟩ | h
    · obtain ⟨i, hi, he⟩ := idx _ (List.mem_of_getElem? h)
      have := hD.1 i k (q.1, e) q (lt_of he) hkq rfl
      subst this
      exact hni hi
    · have := (hP k q hkq).lt
      omega
  refine vP_mem.mpr (fun q hq => ?_)
  rcases List.mem_append.mp hq with h | h
  · have h1 : some q ∈ ws'.map some := List.mem_map.mpr ⟨q, h, rfl⟩
    rw [hsel] at h1
    rcases pick_mem sel 0 hok q h1 with z | ⟨i, hi, hni⟩
    · exact vP_mem.mp hP1 q z
    · exact stay i q (lt_of hi) hni
  · obtain ⟨k, hkk⟩ := List.getElem?_of_mem h
    refine stay (ws.length + k) q ?_ ?_
    · rw [List.getElem?_append_right (Nat.le_add_right _ _), Nat.add_sub_cancel_left]; exact hkk
    · intro hi
      have h2 : ws[ws.length + k]? ∈ is.map (fun i => ws[i]?) := List.mem_map.mpr ⟨_, hi, rfl⟩
      rw [hC] at h2
      obtain ⟨r, -, hr⟩ := List.mem_map.mp h2
      have := (List.getElem?_eq_some_iff.mp hr.symm).1
      omega
/-- behind a call: the suffix stands in the callee's world, too -/
theorem w_joins {D : va_G} {cls : List vw_C} {A0 : Nat → Prop} {ws wc wc' ws' suf : va_W} {H H1 : Heap} (hP : va_P D cls (ws ++ suf) H) (hD : va_D A0 (ws ++ suf)) (is : List Nat) (hC : is.map (fun i => ws[i]?) = wc.map some) (sel : List (Option Nat)) (hsel : ws'.map some = pick ws wc' sel 0) (hok : selOk is sel 0 = true)
    (hk : ∀ q : Nat, q < H.size → ¬ va_A (wc ++ suf) H.size q → H1[q]? = H[q]?) (hP1 : va_P D cls (wc' ++ suf) H1) : va_P D cls (ws' ++ suf) H1 := by
  have lt_of : ∀ {i : Nat} {r : Nat × va_E}, ws[i]? = some r → (ws ++ suf)[i]? = some r := fun {i r} h => by
    rw [List.getElem?_append_left (List.getElem?_eq_some_iff.mp h).1]; exact h
  refine vP_mem.mpr (fun q hq => ?_)
  rcases List.mem_append.mp hq with h | h
  · have h1 : some q ∈ ws'.map some := List.mem_map.mpr ⟨q, h, rfl⟩
    rw [hsel] at h1
    rcases pick_mem sel 0 hok q h1 with z | ⟨i, hi, hni⟩
    · exact vP_mem.mp hP1 q (List.mem_append.mpr (Or.inl z))
    · refine (hP i q (lt_of hi)).kept (hk q.1 (hP i q (lt_of hi)).lt ?_)
      intro h
      rcases h with ⟨k2, e, h⟩ | h
      · rcases List.mem_append.mp (List.mem_of_getElem? h) with z | z
        · have h2 : some (q.1, e) ∈ wc.map some := List.mem_map.mpr ⟨_, z, rfl⟩
          rw [← hC] at h2
          obtain ⟨i2, hi2, he2⟩ := List.mem_map.mp h2
          have := hD.1 i2 i (q.1, e) q (lt_of he2) (lt_of hi) rfl
          subst this
          exact hni hi2
        · obtain ⟨k3, hk3⟩ := List.getElem?_of_mem z
          have h4 : (ws ++ suf)[ws.length + k3]? = some (q.1, e) := by
            rw [List.getElem?_append_right (Nat.le_add_right _ _), Nat.add_sub_cancel_left]; exact hk3
          have := hD.1 (ws.length + k3) i (q.1, e) q h4 (lt_of hi) rfl
          have := (List.getElem?_eq_some_iff.mp hi).1
          omega
      · have := (hP i q (lt_of hi)).lt
        omega
  · exact vP_mem.mp hP1 q (List.mem_append.mpr (Or.inr h))
theorem w_join0 {D : va_G} {cls : List vw_C} {A0 : Nat → Prop} {ws wc wc' ws' : va_W} {H H1 : Heap} (hP : va_P D cls ws H) (hD : va_D A0 ws) (is : List Nat) (hC : is.map (fun i => ws[i]?) = wc.map some) (sel : List (Option Nat)) (hsel : ws'.map some = pick ws wc' sel 0) (hok : selOk is sel 0 = true)
    (hk : ∀ q : Nat, q < H.size → ¬ va_A wc H.size q → H1[q]? = H[q]?) (hP1 : va_P D cls wc' H1) : va_P D cls ws' H1 := by
  have h := w_join (suf := []) (by rw [List.append_nil]; exact hP) (by rw [List.append_nil]; exact hD) is hC sel hsel hok hk hP1
  rw [List.append_nil] at h
  exact h
theorem w_kept0 {D : va_G} {cls : List vw_C} {ws : va_W} {H H1 : Heap} (hP : va_P D cls ws H) (hk : ∀ q : Nat, q < H.size → ¬ va_A ([] : va_W) H.size q → H1[q]? = H[q]?) : va_P D cls ws H1 :=
  hP.kept (fun k q hq => hk q.1 (hP k q hq).lt (fun h => by
    have := (hP k q hq).lt
    rcases h with ⟨k2, e, h⟩ | h
    · simp at h
    · omega))
theorem va_D_nil {A : Nat → Prop} : va_D A [] := ⟨fun i j p q h => by simp at h, fun k q h => by simp at h⟩
theorem va_P_nil {D : va_G} {cls : List vw_C} {H : Heap} : va_P D cls [] H := fun k q h => by simp at h
theorem free_nil {A0 : Nat → Prop} {H0 H : Heap} {locs : List Loc} (hS : va_S A0 H0 H locs) (hA : ∀ q, H0.size ≤ q → A0 q) : ∀ q, va_A ([] : va_W) H.size q → A0 q := fun q h => by
  rcases h with ⟨k, e, h⟩ | h
  · simp at h
  · exact hA q (Nat.le_trans hS.1 h)
section B
variable {p : Program} {l : Launch} {e : Env} {R : Room} {s : State} {m : MethodId} {args : Array Value} {below : List Frame} {meth : Method} {c : Code} {H : Heap} {locs : List Loc} {cells slots : Nat} {Q : State → Prop}
variable {E : Ev} {A0 : Nat → Prop} {wc wc' : va_W} {pc : Nat} {ls : Array Slot} {rest st0 : List Value} {a : Array Value}
theorem pre_v {q : vw_C} {b q0 ci : Nat} {fs As : List Value} (hK : va_K E.1 vwCl (tyL E) s) (hP : va_P E.1 vwCl wc H) (hD : va_D A0 wc) (hS : va_S A0 s.heap H locs) (hG : GG E.2.2.2.2 s s.heap) (hAB : ∀ q, A0 q → E.2.2.2.2.1 ≤ q) (hc : vwCl[ci]? = some q) (he : wc[q0]? = some (b, .inr (ci, fs))) : PreV s H q.1 b (PcW E (.ref b :: As) wc H.size) As :=
  ⟨pcw_blind, va_recv hK hP hc he, fun U hU hW => ⟨rfl, by rw [hU], by rw [hU]; exact hP, va_K.moved hW.alike hK, hD.weaken (fun _ x _ h => hAB x.1 h), hG.at hS hAB hU hW⟩⟩
theorem pre_s {As : List Value} (hK : va_K E.1 vwCl (tyL E) s) (hP : va_P E.1 vwCl wc H) (hD : va_D A0 wc) (hS : va_S A0 s.heap H locs) (hG : GG E.2.2.2.2 s s.heap) (hAB : ∀ q, A0 q → E.2.2.2.2.1 ≤ q) : PreS s H (PcW E As wc H.size) As :=
  ⟨pcw_blind, fun U hU hW => ⟨rfl, by rw [hU], by rw [hU]; exact hP, va_K.moved hW.alike hK, hD.weaken (fun _ x _ h => hAB x.1 h), hG.at hS hAB hU hW⟩⟩
theorem pre_k {i : Nat} {As : List Value} (hK : va_K E.1 vwCl (tyL E) s) (hP : va_P E.1 vwCl wc H) (hD : va_D A0 wc) (hS : va_S A0 s.heap H locs) (hG : GG E.2.2.2.2 s s.heap) (hAB : ∀ q, A0 q → E.2.2.2.2.1 ≤ q) (hi : i < 7) : PreV s H "java/lang/String" (E.2.2.2.2.2.1 i) (PcW E (.ref (E.2.2.2.2.2.1 i) :: As) wc H.size) As :=
  ⟨pcw_blind, vk_recv (hG.2.2.1.2.2.2.2.narrow hAB) hi hS, fun U hU hW => ⟨rfl, by rw [hU], by rw [hU]; exact hP, va_K.moved hW.alike hK, hD.weaken (fun _ x _ h => hAB x.1 h), hG.at hS hAB hU hW⟩⟩
theorem fin_i {r : Int32} (hr : va_Run p l e R s m args below meth c H locs cells slots 0 0 (F0 m pc ls st0) rest (va_Qi (fun (r' : Int32) (_ : Unit) => r' = r) (fun _ t => va_P E.1 vwCl wc' t.heap) (va_A wc H.size) a) (va_A wc H.size)) (hS : va_S A0 s.heap H locs) (hF : ∀ q, va_A wc H.size q → A0 q)
    (kk : ∀ (H1 : Heap) (locs1 : List Loc), va_P E.1 vwCl wc' H1 → (∀ q : Nat, q < H.size → ¬ va_A wc H.size q → H1[q]? = H[q]?) → va_S A0 s.heap H1 locs1 → W p l e R s m args below meth c H1 locs1 cells slots Q (F0 m (pc + 3) ls (.int r :: rest))) : W p l e R s m args below meth c H locs cells slots Q (F0 m pc ls st0) :=
  va_calli hr hS (fun q _ h => hF q h) hF (fun r' u t H1 locs1 ht _ hw hB _ hk hS => by subst ht; subst hw; exact kk _ _ hB hk hS)
theorem fin_l {r : Int64} (hr : va_Run p l e R s m args below meth c H locs cells slots 0 0 (F0 m pc ls st0) rest (va_Ql (fun (r' : Int64) (_ : Unit) => r' = r) (fun _ t => va_P E.1 vwCl wc' t.heap) (va_A wc H.size) a) (va_A wc H.size)) (hS : va_S A0 s.heap H locs) (hF : ∀ q, va_A wc H.size q → A0 q)
    (kk : ∀ (H1 : Heap) (locs1 : List Loc), va_P E.1 vwCl wc' H1 → (∀ q : Nat, q < H.size → ¬ va_A wc H.size q → H1[q]? = H[q]?) → va_S A0 s.heap H1 locs1 → W p l e R s m args below meth c H1 locs1 cells slots Q (F0 m (pc + 3) ls (.long r :: rest))) : W p l e R s m args below meth c H locs cells slots Q (F0 m pc ls st0) :=
  va_calll hr hS (fun q _ h => hF q h) hF (fun r' u t H1 locs1 ht _ hw hB _ hk hS => by subst ht; subst hw; exact kk _ _ hB hk hS)
theorem fin_v (hr : va_Run p l e R s m args below meth c H locs cells slots 0 0 (F0 m pc ls st0) rest (va_Qv (fun (_ : Unit) => True) (fun _ t => va_P E.1 vwCl wc' t.heap) (va_A wc H.size) a) (va_A wc H.size)) (hS : va_S A0 s.heap H locs) (hF : ∀ q, va_A wc H.size q → A0 q)
    (kk : ∀ (H1 : Heap) (locs1 : List Loc), va_P E.1 vwCl wc' H1 → (∀ q : Nat, q < H.size → ¬ va_A wc H.size q → H1[q]? = H[q]?) → va_S A0 s.heap H1 locs1 → W p l e R s m args below meth c H1 locs1 cells slots Q (F0 m (pc + 3) ls rest)) : W p l e R s m args below meth c H locs cells slots Q (F0 m pc ls st0) :=
  va_callv hr hS (fun q _ h => hF q h) hF (fun u t H1 locs1 ht _ _ hB _ hk hS => by subst ht; exact kk _ _ hB hk hS)
theorem fin_a {r : Nat} (hr : va_Run p l e R s m args below meth c H locs cells slots 0 0 (F0 m pc ls st0) rest (va_Qr (fun (_ : Unit) => True) (fun _ a t => a = r ∧ va_P E.1 vwCl wc' t.heap) (va_A wc H.size) a) (va_A wc H.size)) (hS : va_S A0 s.heap H locs) (hF : ∀ q, va_A wc H.size q → A0 q)
    (kk : ∀ (H1 : Heap) (locs1 : List Loc), va_P E.1 vwCl wc' H1 → (∀ q : Nat, q < H.size → ¬ va_A wc H.size q → H1[q]? = H[q]?) → va_S A0 s.heap H1 locs1 → W p l e R s m args below meth c H1 locs1 cells slots Q (F0 m (pc + 3) ls (.ref r :: rest))) : W p l e R s m args below meth c H locs cells slots Q (F0 m pc ls st0) :=
  va_callr hr hS (fun q _ h => hF q h) hF (fun u ra t H1 locs1 ht _ _ hB _ hk hS => by obtain ⟨e1, hB⟩ := hB; subst ht; subst e1; exact kk _ _ hB hk hS)
end B
section RT
variable {p : Program} {l : Launch} {e : Env} {R : Room} {s : State} {m : MethodId} {args : Array Value} {below : List Frame} {meth : Method} {c : Code} {H : Heap} {locs : List Loc} {cc : ByteArray}
variable {E : Ev} {A : Nat → Prop} {ws : va_W} {pc : Nat} {ls : Array Slot}
theorem rt_i {v r : Int32} (hx : p.tables.exec = Jvm.exec) (hb : c.code = cc) (hr : meth.sig.returnType = some .int) (hlocks : meth.locks = false) (hv : v = r) (hP : va_P E.1 vwCl ws H) (hS : va_S A s.heap H locs) (hd : decode cc pc = .ok (.ireturn, 1)) : W p l e R s m args below meth c H locs 0 0 (MQ below (va_Qi (fun (r' : Int32) (_ : Unit) => r' = r) (fun _ t => va_P E.1 vwCl ws t.heap) A) args s 0 0 A) (F0 m pc ls [.int v]) :=
  W.iret (v := v) hx hb hr (fun t ht _ => ⟨⟨v, (), rfl, hv, by subst ht; exact hP⟩, hS.F ht⟩) hS.2.2 hd
theorem rt_z {ty : FieldType} {v r : Int32} (hx : p.tables.exec = Jvm.exec) (hb : c.code = cc) (hr : meth.sig.returnType = some ty) (hn : narrow ty (.int v) = .int v) (hlocks : meth.locks = false) (hv : v = r) (hP : va_P E.1 vwCl ws H) (hS : va_S A s.heap H locs) (hd : decode cc pc = .ok (.ireturn, 1)) : W p l e R s m args below meth c H locs 0 0 (MQ below (va_Qi (fun (r' : Int32) (_ : Unit) => r' = r) (fun _ t => va_P E.1 vwCl ws t.heap) A) args s 0 0 A) (F0 m pc ls [.int v]) :=
  W.zret (v := v) hx hb hr hn (fun t ht _ => ⟨⟨v, (), rfl, hv, by subst ht; exact hP⟩, hS.F ht⟩) hS.2.2 hd
theorem rt_l {v r : Int64} (hx : p.tables.exec = Jvm.exec) (hb : c.code = cc) (hr : meth.sig.returnType = some .long) (hlocks : meth.locks = false) (hv : v = r) (hP : va_P E.1 vwCl ws H) (hS : va_S A s.heap H locs) (hd : decode cc pc = .ok (.lreturn, 1)) : W p l e R s m args below meth c H locs 0 0 (MQ below (va_Ql (fun (r' : Int64) (_ : Unit) => r' = r) (fun _ t => va_P E.1 vwCl ws t.heap) A) args s 0 0 A) (F0 m pc ls [.long v]) :=
  W.lret (v := v) hx hb hr (fun t ht _ => ⟨⟨v, (), rfl, hv, by subst ht; exact hP⟩, hS.F ht⟩) hS.2.2 hd
theorem rt_v (hx : p.tables.exec = Jvm.exec) (hb : c.code = cc) (hr : meth.sig.returnType = none) (hlocks : meth.locks = false) (hP : va_P E.1 vwCl ws H) (hS : va_S A s.heap H locs) (hd : decode cc pc = .ok (.return_, 1)) : W p l e R s m args below meth c H locs 0 0 (MQ below (va_Qv (fun (_ : Unit) => True) (fun _ t => va_P E.1 vwCl ws t.heap) A) args s 0 0 A) (F0 m pc ls []) :=
  W.vret hx hb hr (fun t ht _ => ⟨⟨(), rfl, trivial, by subst ht; exact hP⟩, hS.F ht⟩) hS.2.2 hd
theorem rt_a {r v : Nat} {n : String} (hx : p.tables.exec = Jvm.exec) (hb : c.code = cc) (hr : meth.sig.returnType = some (.object n)) (hlocks : meth.locks = false) (hv : v = r) (hP : va_P E.1 vwCl ws H) (hS : va_S A s.heap H locs) (hd : decode cc pc = .ok (.areturn, 1)) : W p l e R s m args below meth c H locs 0 0 (MQ below (va_Qr (fun (_ : Unit) => True) (fun _ a t => a = r ∧ va_P E.1 vwCl ws t.heap) A) args s 0 0 A) (F0 m pc ls [.ref v]) :=
  W.aret hx hb hr (Or.inl ⟨n, rfl⟩) (Or.inr ⟨v, rfl⟩) (fun t ht _ => ⟨⟨(), v, rfl, trivial, hv, by subst ht; exact hP⟩, hS.F ht⟩) hS.2.2 hd
/-- a method's start: what its body has at hand -/
theorem start {av : List Value} {sz : Nat} (h : PcW E av ws sz args s) : args = av.toArray ∧ s.heap.size = sz ∧ va_P E.1 vwCl ws s.heap ∧ va_K E.1 vwCl (tyL E) s ∧ va_D (va_A ws sz) ws ∧ GG E.2.2.2.2 s s.heap ∧ (∀ q : Nat, s.heap.size ≤ q → va_A ws sz q) ∧ (∀ q : Nat, va_A ws sz q → E.2.2.2.2.1 ≤ q) := by
  obtain ⟨h1, h2, h3, h4, h5, h6⟩ := h
  refine ⟨h1, h2, h3, h4, h5.self, h6, fun q hq => Or.inr (by rw [← h2]; exact hq), fun q hq => ?_⟩
  rcases hq with ⟨k, e, h⟩ | h
  · exact h5.2 k _ h
  · exact Nat.le_trans h6.2.2.2 (by rw [h2]; exact h)
end RT
