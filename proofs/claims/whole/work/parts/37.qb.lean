/-! ===== pure layer QB: clauses, in the class ===== -/
/-- a clause: which word, its number, its tokens -/
abbrev Cz : Type := Nat × Nat × List Nat
def rLit (T : List Nat) : List Nat → Nat → Bool × Nat
  | [], p => (true, p)
  | w :: ws, p => if chr T p = w then rLit T ws (p + 1) else (false, p)
def wx (c : Nat) : Nat := if c = 108 then 0 else if c = 109 then 1 else if c = 110 then 2 else if c = 104 then 3 else 4
def wl (w : Nat) : List Nat := ([[108, 105, 107, 101], [109, 105, 110, 100], [110, 101, 101, 100], [104, 111, 108, 100]] : List (List Nat)).getD w []
/-- the word and its number -/
def rHd (T : List Nat) (p : Nat) : Bool × Nat × Nat := if (rLit T (wl (wx (chr T p)) ++ [32]) p).1 = true then rnum T (rLit T (wl (wx (chr T p)) ++ [32]) p).2 else (false, (rLit T (wl (wx (chr T p)) ++ [32]) p).2, 0)
def rE (T : List Nat) : Nat → Rd := rEither (rPart T 8 0) T
def rClause (T : List Nat) (p : Nat) : Bool × Nat × Cz :=
  if wx (chr T p) = 4 then (false, p, (0, 0, []))
  else if (rHd T p).1 = true then
    (if 2 ≤ wx (chr T p) then (true, (rHd T p).2.1, (wx (chr T p), (rHd T p).2.2, []))
     else if chr T (rHd T p).2.1 = 32 then
       (if (rE T ((rHd T p).2.1 + 1)).1 = true then (true, (rE T ((rHd T p).2.1 + 1)).2.1, (wx (chr T p), (rHd T p).2.2, (rE T ((rHd T p).2.1 + 1)).2.2)) else (false, (rE T ((rHd T p).2.1 + 1)).2.1, (0, 0, [])))
     else (false, (rHd T p).2.1, (0, 0, [])))
  else (false, (rHd T p).2.1, (0, 0, []))
theorem wx_le (c : Nat) : wx c ≤ 4 := by unfold wx; (repeat' split) <;> omega
theorem wl_len {w : Nat} (h : w < 4) : (wl w).length = 4 := by
  rcases (show w = 0 ∨ w = 1 ∨ w = 2 ∨ w = 3 by omega) with rfl | rfl | rfl | rfl <;> rfl
theorem wl_lt {w : Nat} (h : w < 4) : ∀ c ∈ wl w, c < 128 := by
  rcases (show w = 0 ∨ w = 1 ∨ w = 2 ∨ w = 3 by omega) with rfl | rfl | rfl | rfl <;> decide
theorem lit_ok {T : List Nat} (hT : TxOk T) : ∀ (ws : List Nat) (p : Nat), (∀ c ∈ ws, c < 128) → p ≤ T.length → p ≤ (rLit T ws p).2 ∧ (rLit T ws p).2 ≤ T.length ∧ ((rLit T ws p).1 = true → (rLit T ws p).2 = p + ws.length) := by
  intro ws
  induction ws with
  | nil => intro p _ hp; exact ⟨Nat.le_refl _, hp, fun _ => rfl⟩
  | cons w ws ih =>
    intro p hw hp
    rw [rLit]
    by_cases h : chr T p = w
    · have hlt := chr_in hT h (hw w List.mem_cons_self)
      obtain ⟨a, b, c⟩ := ih (p + 1) (fun x hx => hw x (List.mem_cons_of_mem _ hx)) (by omega)
      rw [if_pos h]
      exact ⟨by omega, b, fun z => by rw [c z, List.length_cons]; omega⟩
    · rw [if_neg h]; exact ⟨Nat.le_refl _, hp, fun z => (by cases z)⟩
theorem lit_app (T : List Nat) : ∀ (a b : List Nat) (p : Nat), rLit T (a ++ b) p = if (rLit T a p).1 = true then rLit T b (rLit T a p).2 else rLit T a p := by
  intro a
  induction a with
  | nil => intro b p; rfl
  | cons w ws ih =>
    intro b p
    rw [List.cons_append, rLit, rLit]
    by_cases h : chr T p = w
    · rw [if_pos h, if_pos h, ih]
    · rw [if_neg h, if_neg h, if_neg (show ¬ false = true from by decide)]
theorem hd_ok {T : List Nat} (hT : TxOk T) {p : Nat} (hp : p ≤ T.length) (hw : wx (chr T p) < 4) : p ≤ (rHd T p).2.1 ∧ (rHd T p).2.1 ≤ T.length ∧ ((rHd T p).1 = true → p + 5 < (rHd T p).2.1) ∧ (rHd T p).2.2 ≤ 99 := by
  obtain ⟨a, b, c⟩ := lit_ok hT (wl (wx (chr T p)) ++ [32]) p (mem_app (wl_lt hw) (by omega)) hp
  unfold rHd
  cases h : (rLit T (wl (wx (chr T p)) ++ [32]) p).1
  · rw [if_neg (by decide)]; exact ⟨a, b, fun z => (by cases z), by simp⟩
  · rw [if_pos rfl]
    have hc := c h
    rw [List.length_append, wl_len hw] at hc
    simp only [List.length_cons, List.length_nil] at hc
    obtain ⟨r1, r2, r3, r4, r5⟩ := rnum_le hT (rLit T (wl (wx (chr T p)) ++ [32]) p).2
    refine ⟨by omega, ?_, fun z => by have := r3 z; omega, r2⟩
    cases hb : (rnum T (rLit T (wl (wx (chr T p)) ++ [32]) p).2).1
    · rw [r5 hb]; exact b
    · exact (r3 hb).2
theorem rE_ok {T : List Nat} (hT : TxOk T) : Pok T (rE T) := (either_ok hT (part_ok hT 8 0)).1
theorem clause_ok {T : List Nat} (hT : TxOk T) {p : Nat} (hp : p ≤ T.length) : p ≤ (rClause T p).2.1 ∧ (rClause T p).2.1 ≤ T.length ∧ ((rClause T p).1 = true → p + (rClause T p).2.2.2.2.length + 1 ≤ (rClause T p).2.1 ∧ (rClause T p).2.2.1 < 4 ∧ (rClause T p).2.2.2.1 ≤ 99) := by
  unfold rClause
  by_cases h4 : wx (chr T p) = 4
  · rw [if_pos h4]; exact ⟨Nat.le_refl _, hp, fun z => (by cases z)⟩
  have hw := wx_le (chr T p)
  obtain ⟨a, b, c, n9⟩ := hd_ok hT hp (by omega)
  rw [if_neg h4]
  cases h : (rHd T p).1
  · rw [if_neg (by decide)]; exact ⟨a, b, fun z => (by cases z)⟩
  have hc := c h
  rw [if_pos rfl]
  by_cases h2 : 2 ≤ wx (chr T p)
  · rw [if_pos h2]; exact ⟨a, b, fun _ => ⟨by show p + 0 + 1 ≤ (rHd T p).2.1; omega, by show wx (chr T p) < 4; omega, n9⟩⟩
  rw [if_neg h2]
  by_cases h32 : chr T (rHd T p).2.1 = 32
  · have hlt := chr_in hT h32 (by omega)
    obtain ⟨e1, e2, e3⟩ := rE_ok hT ((rHd T p).2.1 + 1) (by omega)
    rw [if_pos h32]
    cases hE : (rE T ((rHd T p).2.1 + 1)).1
    · rw [if_neg (by decide)]; exact ⟨by show p ≤ (rE T ((rHd T p).2.1 + 1)).2.1; omega, e2, fun z => (by cases z)⟩
    · rw [if_pos rfl]
      have := e3 hE
      exact ⟨by show p ≤ (rE T ((rHd T p).2.1 + 1)).2.1; omega, e2, fun _ => ⟨by show p + (rE T ((rHd T p).2.1 + 1)).2.2.length + 1 ≤ (rE T ((rHd T p).2.1 + 1)).2.1; omega, by show wx (chr T p) < 4; omega, n9⟩⟩
  · rw [if_neg h32]; exact ⟨a, b, fun z => (by cases z)⟩
/-- the class's steps for a clause -/
def clX (z : Cz) : List Int32 := if z.1 ≤ 1 then z.2.2.map tokX ++ [nI (100 + 100 * z.1 + z.2.1)] else []
section
variable {N : Nat} {s : St} {T : List Nat} {p : Nat} {acc : List Int32}
theorem byte_t : ∀ w : Nat, w < 4 → ∀ i : Nat, i < 4 → ((((kByt.getD w []).getD i 0) &&& 255).toUInt32 % 65536).toInt32 = nI ((wl w).getD i 0) ∧ kLen.getD w 0 = 4 := by
  have h : (List.range 4).all (fun w => (List.range 4).all (fun i => decide (((((kByt.getD w []).getD i 0) &&& 255).toUInt32 % 65536).toInt32 = nI ((wl w).getD i 0) ∧ kLen.getD w 0 = 4))) = true := by decide +kernel
  intro w hw i hi
  exact of_decide_eq_true (List.all_eq_true.mp (List.all_eq_true.mp h w (List.mem_range.mpr hw)) i (List.mem_range.mpr hi))
theorem x_len {w : Nat} (hw : w < 4) : f_J0_length_8abf5 N w = some (nI 4) := by
  rcases (show w = 0 ∨ w = 1 ∨ w = 2 ∨ w = 3 by omega) with rfl | rfl | rfl | rfl <;> rfl
theorem x_char {w i : Nat} (hw : w < 4) (hi : i < 4) : f_J0_charAt_5068e N w (nI i) = some (nI ((wl w).getD i 0)) := by
  obtain ⟨e1, e2⟩ := byte_t w hw i hi
  have h7 : w < 7 := by omega
  have hlt : (wl w).getD i 0 < 128 := by
    have hl := wl_len hw
    rw [List.getD_eq_getElem?_getD, List.getElem?_eq_getElem (by omega)]
    exact wl_lt hw _ (List.getElem_mem _)
  have hn := (pk_charN (q := (wl w).getD i 0) (by omega)).1
  have e3 : f_J1_charAt_3b067 N w (nI i) = some (nI ((wl w).getD i 0)) := by
    unfold f_J1_charAt_3b067 f_J0_checkIndex_df160 f_J3_checkIndex_8e157
    rw [cp_t h7, e2, if_neg (nI_pos (by omega)), if_pos (nI_lt hi (by omega)), cl_s, cl_s, ck_n hi (by omega), cp_t h7, nI_clamp (by omega), e1, cp_t hn]
  unfold f_J0_charAt_5068e f_J0_isLatin1_aae02
  rw [cp_t h7, cl_s, cp_t h7, if_neg (show ¬ (1 : Int32) = 0 from by decide), cp_t h7, e3, cl_s, cp_t hn]
theorem drop_get {w i : Nat} (hw : w < 4) (hi : i < 4) : (wl w).drop i = (wl w).getD i 0 :: (wl w).drop (i + 1) := by
  have hl := wl_len hw
  have e : (wl w)[i]? = some ((wl w).getD i 0) := by rw [List.getD_eq_getElem?_getD, List.getElem?_eq_getElem (by omega)]; rfl
  exact dropC e
theorem x_numbered {w : Nat} (hN : 1000 ≤ N) (hT : TxOk T) (hw : w < 4) : ∀ (j i n : Nat) (s : St) (p : Nat), i + j = 4 → j < n → p ≤ T.length → R5 s T p acc → ∃ s', l_X5_readNumbered_11 N w n s (nI i) = some (b2i (if (rLit T ((wl w).drop i ++ [32]) p).1 = true then (rnum T (rLit T ((wl w).drop i ++ [32]) p).2).1 else false), s') ∧ R5 s' T (if (rLit T ((wl w).drop i ++ [32]) p).1 = true then (rnum T (rLit T ((wl w).drop i ++ [32]) p).2).2.1 else (rLit T ((wl w).drop i ++ [32]) p).2) acc ∧ ((rLit T ((wl w).drop i ++ [32]) p).1 = true → (rnum T (rLit T ((wl w).drop i ++ [32]) p).2).1 = true → s' 7 0 = nI (rnum T (rLit T ((wl w).drop i ++ [32]) p).2).2.2) ∧ fr5 s s' := by
  have h100 := hT.1
  have hl := wl_len hw
  intro j
  induction j with
  | zero =>
    intro i n s p hi hn hp hR
    obtain ⟨n, rfl⟩ : ∃ m, n = m + 1 := ⟨n - 1, by omega⟩
    obtain rfl : i = 4 := by omega
    obtain ⟨s1, e1, r1, f1, -⟩ := x_sign (N := N) hT hR (by omega) 32 (by omega)
    have e1' : f_X5_readSign N s 32 = _ := e1
    rw [l_X5_readNumbered_11, x_len hw, cl_s, cp_t (show w < 7 by omega), if_pos (show nI 4 ≤ nI 4 from by decide), e1', cl_s, List.drop_eq_nil_of_le (by omega), List.nil_append, rLit]
    dsimp only
    by_cases h : chr T p = 32
    · rw [if_pos h] at r1 ⊢
      have hlt := chr_in hT h (by omega)
      obtain ⟨s2, e2, r2, n2, f2⟩ := x_num (N := N) hN hT r1 (by omega)
      rw [show decide (chr T p = 32) = true from by simp [h], i1, e2, cl_s]
      dsimp only
      have eL : rLit T [] (p + 1) = (true, p + 1) := rfl
      rw [eL]
      dsimp only
      rw [if_pos rfl, if_pos rfl]
      cases hb : (rnum T (p + 1)).1
      · rw [i0]; exact ⟨s2, rfl, r2, fun _ z => (by cases z), f1.tr f2⟩
      · rw [i1]; exact ⟨s2, rfl, r2, fun _ _ => n2 hb, f1.tr f2⟩
    · rw [if_neg h] at r1 ⊢
      rw [show decide (chr T p = 32) = false from by simp [h], i0, if_neg (show ¬ false = true from by decide), if_neg (show ¬ false = true from by decide)]
      exact ⟨s1, rfl, r1, fun z => (by cases z), f1⟩
  | succ j ih =>
    intro i n s p hi hn hp hR
    obtain ⟨n, rfl⟩ : ∃ m, n = m + 1 := ⟨n - 1, by omega⟩
    have hc : (wl w).getD i 0 < 128 := by
      rw [List.getD_eq_getElem?_getD, List.getElem?_eq_getElem (by omega)]
      exact wl_lt hw _ (List.getElem_mem _)
    obtain ⟨s1, e1, r1, f1, -⟩ := x_sign (N := N) hT hR (by omega) ((wl w).getD i 0) hc
    rw [l_X5_readNumbered_11, x_len hw, cl_s, cp_t (show w < 7 by omega), if_neg (nI_ge (by omega) (by omega)), x_char hw (by omega), cl_s, cp_t (show w < 7 by omega), e1, cl_s, drop_get hw (by omega), List.cons_append, rLit]
    dsimp only
    by_cases h : chr T p = (wl w).getD i 0
    · rw [if_pos h] at r1 ⊢
      have hlt := chr_in hT h hc
      rw [show decide (chr T p = (wl w).getD i 0) = true from decide_eq_true h, i1, nm_d, nI_1]
      obtain ⟨s2, e2, r2, n2, f2⟩ := ih (i + 1) n s1 (p + 1) (by omega) (by omega) (by omega) r1
      exact ⟨s2, e2, r2, n2, f1.tr f2⟩
    · rw [if_neg h] at r1 ⊢
      rw [show decide (chr T p = (wl w).getD i 0) = false from decide_eq_false h, i0, if_neg (show ¬ false = true from by decide), if_neg (show ¬ false = true from by decide)]
      exact ⟨s1, rfl, r1, fun z => (by cases z), f1⟩
theorem x_wordFrom (hT : TxOk T) : f_X5_wordFrom N (nxI T p) = some (wx (chr T p)) := by
  have h : (List.range 128).all (fun c => decide (f_X5_wordFrom 0 (nI c) = some (wx c))) = true := by decide +kernel
  unfold nxI
  rcases chr_lt hT (p := p) with ⟨a, b⟩ | ⟨a, b, c⟩
  · rw [if_pos a, a]; rfl
  · rw [if_neg (by omega)]
    exact of_decide_eq_true (List.all_eq_true.mp h _ (List.mem_range.mpr a))
theorem x_clause (hN : 1000 ≤ N) (hT : TxOk T) (hR : R5 s T p acc) (hp : p ≤ T.length) (ha : acc.length ≤ p) : ∃ s', f_X5_readClause N s = some (b2i (rClause T p).1, s') ∧ TX s' T ∧ s' 6 0 = nI (rClause T p).2.1 ∧ ((rClause T p).1 = true → R5 s' T (rClause T p).2.1 (acc ++ clX (rClause T p).2.2) ∧ s' 4 0 = (if (rClause T p).2.2.1 = 2 then nI (rClause T p).2.2.2.1 else s 4 0) ∧ s' 5 0 = (if (rClause T p).2.2.1 = 3 then nI (max 1 (rClause T p).2.2.2.1) else s 5 0)) ∧ ∀ k, k ≠ 2 → k ≠ 3 → k ≠ 4 → k ≠ 5 → k ≠ 6 → k ≠ 7 → s' k = s k := by
  have h100 := hT.1
  unfold f_X5_readClause
  rw [x_next hT hR (by omega), cl_s, x_wordFrom hT, cl_s]
  unfold rClause
  by_cases h4 : wx (chr T p) = 4
  · rw [h4, if_pos rfl]
    have e : f_X5_readNumbered N 4 s = some (0, s) := rfl
    rw [e, cl_s]
    exact ⟨s, rfl, hR.1, hR.2.1, fun z => (by cases z), fun _ _ _ _ _ _ _ => rfl⟩
  have hw : wx (chr T p) < 4 := by have := wx_le (chr T p); omega
  rw [if_neg h4]
  obtain ⟨hh1, hh2, hh3, n9⟩ := hd_ok hT hp hw
  obtain ⟨s1, e1, r1, n1, f1⟩ := x_numbered (N := N) (acc := acc) hN hT hw 4 0 N s p rfl (by omega) hp hR
  rw [List.drop_zero] at e1 r1 n1
  have eE : f_J0_isEmpty_aae02 N (wx (chr T p)) = some 0 := by
    rcases (show wx (chr T p) = 0 ∨ wx (chr T p) = 1 ∨ wx (chr T p) = 2 ∨ wx (chr T p) = 3 by omega) with z | z | z | z <;> rw [z] <;> rfl
  have e2 : f_X5_readNumbered N (wx (chr T p)) s = some (b2i (rHd T p).1, s1) ∧ R5 s1 T (rHd T p).2.1 acc ∧ ((rHd T p).1 = true → s1 7 0 = nI (rHd T p).2.2) := by
    unfold f_X5_readNumbered rHd
    have e1' : l_X5_readNumbered_11 N (wx (chr T p)) N s 0 = _ := e1
    rw [eE, cl_s, cp_t (show wx (chr T p) < 7 by omega), if_pos rfl, e1']
    cases hb : (rLit T (wl (wx (chr T p)) ++ [32]) p).1
    · rw [hb, if_neg (show ¬ false = true from by decide)] at r1
      rw [if_neg (show ¬ false = true from by decide), if_neg (show ¬ false = true from by decide)]
      exact ⟨rfl, r1, fun z => (by cases z)⟩
    · rw [hb, if_pos rfl] at r1
      rw [if_pos rfl, if_pos rfl]
      exact ⟨rfl, r1, fun z => n1 hb z⟩
  obtain ⟨e2, r2, n2⟩ := e2
  rw [e2, cl_s]
  dsimp only
  have fr0 : ∀ k, k ≠ 2 → k ≠ 3 → k ≠ 4 → k ≠ 5 → k ≠ 6 → k ≠ 7 → s1 k = s k := fun k a b _ _ c d => f1 k a b c d
  cases hb : (rHd T p).1
  · rw [i0, if_neg (show ¬ false = true from by decide)]
    exact ⟨s1, rfl, r2.1, r2.2.1, fun z => (by cases z), fr0⟩
  have hh := hh3 hb
  have hx : ∀ c : Nat, c < 128 → (nxI T p = nI c ↔ chr T p = c) := fun c hc => nx_eq hT hc
  have s4 : s1 4 0 = s 4 0 := by rw [f1 4 (by decide) (by decide) (by decide) (by decide)]
  have s5 : s1 5 0 = s 5 0 := by rw [f1 5 (by decide) (by decide) (by decide) (by decide)]
  rw [i1, if_pos rfl, nm_d, n2 hb]
  have wcase : (wx (chr T p) = 0 ∧ chr T p = 108) ∨ (wx (chr T p) = 1 ∧ chr T p = 109) ∨ (wx (chr T p) = 2 ∧ chr T p = 110) ∨ (wx (chr T p) = 3 ∧ chr T p = 104) := by
    unfold wx at h4 ⊢
    by_cases z1 : chr T p = 108
    · rw [if_pos z1]; exact Or.inl ⟨rfl, z1⟩
    by_cases z2 : chr T p = 109
    · rw [if_neg z1, if_pos z2]; exact Or.inr (Or.inl ⟨rfl, z2⟩)
    by_cases z3 : chr T p = 110
    · rw [if_neg z1, if_neg z2, if_pos z3]; exact Or.inr (Or.inr (Or.inl ⟨rfl, z3⟩))
    by_cases z4 : chr T p = 104
    · rw [if_neg z1, if_neg z2, if_neg z3, if_pos z4]; exact Or.inr (Or.inr (Or.inr ⟨rfl, z4⟩))
    rw [if_neg z1, if_neg z2, if_neg z3, if_neg z4] at h4; exact absurd rfl h4
  -- like and mind
  have both : ∀ (w0 : Nat), wx (chr T p) = w0 → w0 ≤ 1 → (∀ (s : St) (n : Nat), (if nxI T p = 108 then cl (f_X5_addStep N s (100 + nI n)) (fun q91 => some ((1 : Int32), q91)) else cl (f_X5_addStep N s (200 + nI n)) (fun q91 => some (1, q91))) = cl (f_X5_addStep N s (nI (100 + 100 * w0 + n))) (fun q91 => some (1, q91))) → ∃ s', cl (f_X5_readSign N s1 32) (fun q56 => if q56.1 = 0 then some ((0 : Int32), q56.2) else cl (f_X5_readEither (f_X5_readPart N 8) N q56.2 0) (fun q64 => if q64.1 = 0 then some (0, q64.2) else if nxI T p = 108 then cl (f_X5_addStep N q64.2 (100 + nI (rHd T p).2.2)) (fun q91 => some (1, q91)) else cl (f_X5_addStep N q64.2 (200 + nI (rHd T p).2.2)) (fun q91 => some (1, q91)))) = some (b2i (if chr T (rHd T p).2.1 = 32 then (if (rE T ((rHd T p).2.1 + 1)).1 = true then (true, (rE T ((rHd T p).2.1 + 1)).2.1, (w0, (rHd T p).2.2, (rE T ((rHd T p).2.1 + 1)).2.2)) else (false, (rE T ((rHd T p).2.1 + 1)).2.1, (0, 0, []))) else (false, (rHd T p).2.1, (0, 0, [])) : Bool × Nat × Cz).1, s') ∧ TX s' T ∧ s' 6 0 = nI (if chr T (rHd T p).2.1 = 32 then (if (rE T ((rHd T p).2.1 + 1)).1 = true then (true, (rE T ((rHd T p).2.1 + 1)).2.1, (w0, (rHd T p).2.2, (rE T ((rHd T p).2.1 + 1)).2.2)) else (false, (rE T ((rHd T p).2.1 + 1)).2.1, (0, 0, []))) else (false, (rHd T p).2.1, (0, 0, [])) : Bool × Nat × Cz).2.1 ∧ ((if chr T (rHd T p).2.1 = 32 then (if (rE T ((rHd T p).2.1 + 1)).1 = true then (true, (rE T ((rHd T p).2.1 + 1)).2.1, (w0, (rHd T p).2.2, (rE T ((rHd T p).2.1 + 1)).2.2)) else (false, (rE T ((rHd T p).2.1 + 1)).2.1, (0, 0, []))) else (false, (rHd T p).2.1, (0, 0, [])) : Bool × Nat × Cz).1 = true → R5 s' T (rE T ((rHd T p).2.1 + 1)).2.1 (acc ++ clX (w0, (rHd T p).2.2, (rE T ((rHd T p).2.1 + 1)).2.2)) ∧ s' 4 0 = s 4 0 ∧ s' 5 0 = s 5 0 ∧ chr T (rHd T p).2.1 = 32 ∧ (rE T ((rHd T p).2.1 + 1)).1 = true) ∧ ∀ k, k ≠ 2 → k ≠ 3 → k ≠ 4 → k ≠ 5 → k ≠ 6 → k ≠ 7 → s' k = s k := by
    intro w0 hw0 hw1 hadd
    obtain ⟨s2, e3, r3, f3, -⟩ := x_sign (N := N) hT r2 (by omega) 32 (by omega)
    have e3' : f_X5_readSign N s1 32 = _ := e3
    rw [e3', cl_s]
    dsimp only
    by_cases h32 : chr T (rHd T p).2.1 = 32
    · rw [if_pos h32] at r3
      simp only [if_pos h32]
      have hlt := chr_in hT h32 (by omega)
      rw [show decide (chr T (rHd T p).2.1 = 32) = true from decide_eq_true h32, i1]
      have hPk := part_ok hT 8 0
      obtain ⟨p1, p2, p3⟩ := rE_ok hT ((rHd T p).2.1 + 1) (by omega)
      obtain ⟨s3, e4, t4, q4, r4, f4⟩ := x_either (N := N) (v1 := nI 0) hN hT hPk (x_part hN hT 8 0 (by omega) (by omega)) s2 ((rHd T p).2.1 + 1) acc (by omega) (by omega) r3
      have e4' : f_X5_readEither (f_X5_readPart N 8) N s2 0 = some (b2i (rE T ((rHd T p).2.1 + 1)).1, s3) := e4
      rw [e4', cl_s]
      dsimp only
      have frs : ∀ k, k ≠ 2 → k ≠ 3 → k ≠ 4 → k ≠ 5 → k ≠ 6 → k ≠ 7 → s3 k = s k := fun k a b c d e f => by rw [f4 k a b e f, f3 k a b e f]; exact fr0 k a b c d e f
      cases hE : (rE T ((rHd T p).2.1 + 1)).1
      · rw [i0, if_neg (show ¬ false = true from by decide)]
        exact ⟨s3, rfl, t4, q4, fun z => (by cases z), frs⟩
      · have hpl := p3 hE
        rw [i1, if_pos rfl, hadd]
        obtain ⟨s6, e6, r6, f6, -⟩ := x_add (N := N) (nI (100 + 100 * w0 + (rHd T p).2.2)) (r4 hE) (by have e : rEither (rPart T 8 0) T ((rHd T p).2.1 + 1) = rE T ((rHd T p).2.1 + 1) := rfl; rw [e]; simp only [List.length_append, List.length_map]; omega)
        rw [e6, cl_s]
        have ecl : acc ++ List.map tokX (rEither (rPart T 8 0) T ((rHd T p).2.1 + 1)).2.2 ++ [nI (100 + 100 * w0 + (rHd T p).2.2)] = acc ++ clX (w0, (rHd T p).2.2, (rE T ((rHd T p).2.1 + 1)).2.2) := by
          unfold clX
          rw [if_pos hw1, List.append_assoc]; rfl
        rw [ecl] at r6
        exact ⟨s6, rfl, r6.1, r6.2.1, fun _ => ⟨r6, by rw [f6 4 (by decide) (by decide) (by decide) (by decide), f4 4 (by decide) (by decide) (by decide) (by decide), f3 4 (by decide) (by decide) (by decide) (by decide), s4], by rw [f6 5 (by decide) (by decide) (by decide) (by decide), f4 5 (by decide) (by decide) (by decide) (by decide), f3 5 (by decide) (by decide) (by decide) (by decide), s5], h32, rfl⟩, fun k a b c d e f => by rw [f6 k a b e f]; exact frs k a b c d e f⟩
    · rw [if_neg h32] at r3
      simp only [if_neg h32]
      rw [show decide (chr T (rHd T p).2.1 = 32) = false from decide_eq_false h32, i0]
      exact ⟨s2, rfl, r3.1, r3.2.1, fun z => (by cases z), fun k a b c d e f => by rw [f3 k a b e f]; exact fr0 k a b c d e f⟩
  rcases wcase with ⟨z1, z2⟩ | ⟨z1, z2⟩ | ⟨z1, z2⟩ | ⟨z1, z2⟩
  · rw [if_neg (show ¬ nxI T p = 110 from fun z => by have := (hx 110 (by omega)).mp z; omega), if_neg (show ¬ nxI T p = 104 from fun z => by have := (hx 104 (by omega)).mp z; omega), z1, if_neg (show ¬ 2 ≤ 0 by omega)]
    obtain ⟨s', q1, q2, q3, q4, q5⟩ := both 0 z1 (by omega) (fun s n => by rw [if_pos (show nxI T p = 108 from (hx 108 (by omega)).mpr z2), show (100 : Int32) = nI 100 from rfl, nI_add])
    refine ⟨s', q1, q2, q3, fun z => ?_, q5⟩
    obtain ⟨w1, w2, w3, w4, w5⟩ := q4 z
    rw [if_pos w4, if_pos w5]
    exact ⟨w1, by rw [if_neg (by show ¬ 0 = 2; omega)]; exact w2, by rw [if_neg (by show ¬ 0 = 3; omega)]; exact w3⟩
  · rw [if_neg (show ¬ nxI T p = 110 from fun z => by have := (hx 110 (by omega)).mp z; omega), if_neg (show ¬ nxI T p = 104 from fun z => by have := (hx 104 (by omega)).mp z; omega), z1, if_neg (show ¬ 2 ≤ 1 by omega)]
    obtain ⟨s', q1, q2, q3, q4, q5⟩ := both 1 z1 (by omega) (fun s n => by rw [if_neg (show ¬ nxI T p = 108 from fun z => by have := (hx 108 (by omega)).mp z; omega), show (200 : Int32) = nI 200 from rfl, nI_add])
    refine ⟨s', q1, q2, q3, fun z => ?_, q5⟩
    obtain ⟨w1, w2, w3, w4, w5⟩ := q4 z
    rw [if_pos w4, if_pos w5]
    exact ⟨w1, by rw [if_neg (by show ¬ 1 = 2; omega)]; exact w2, by rw [if_neg (by show ¬ 1 = 3; omega)]; exact w3⟩
  · rw [if_pos (show nxI T p = 110 from (hx 110 (by omega)).mpr z2), z1, if_pos (show 2 ≤ 2 by omega), nm_d]
    obtain ⟨⟨a1, a2⟩, a3, a4, a5⟩ := r2
    have hR' : R5 (sI s1 4 (nI (rHd T p).2.2)) T (rHd T p).2.1 (acc ++ []) := by
      rw [List.append_nil]
      exact ⟨⟨by rw [sI_n _ _ (by decide)]; exact a1, fun i c hc => by rw [sI_n _ _ (by decide)]; exact a2 i c hc⟩, by rw [sI_n _ _ (by decide)]; exact a3, by rw [sI_n _ _ (by decide)]; exact a4, fun i y hy => by rw [sI_n _ _ (by decide)]; exact a5 i y hy⟩
    exact ⟨_, rfl, hR'.1, hR'.2.1, fun _ => ⟨hR', by rw [if_pos (by rfl), sI_s], by rw [if_neg (by show ¬ 2 = 3; omega), sI_n _ _ (by decide)]; exact s5⟩, fun k a b c d e f => by rw [sI_n _ _ c]; exact fr0 k a b c d e f⟩
  · rw [if_neg (show ¬ nxI T p = 110 from fun z => by have := (hx 110 (by omega)).mp z; omega), if_pos (show nxI T p = 104 from (hx 104 (by omega)).mpr z2), z1, if_pos (show 2 ≤ 3 by omega), nm_d]
    have emax : (if (1 : Int32) < nI (rHd T p).2.2 then nI (rHd T p).2.2 else 1) = nI (max 1 (rHd T p).2.2) := by
      by_cases q : 1 < (rHd T p).2.2
      · rw [if_pos (show (1 : Int32) < nI (rHd T p).2.2 from nI_lt (a := 1) q (by omega)), Nat.max_eq_right (by omega)]
      · rw [if_neg (show ¬ (1 : Int32) < nI (rHd T p).2.2 from nI_nlt (a := 1) (by omega) (by omega)), Nat.max_eq_left (by omega)]; rfl
    rw [emax]
    obtain ⟨⟨a1, a2⟩, a3, a4, a5⟩ := r2
    have hR' : R5 (sI s1 5 (nI (max 1 (rHd T p).2.2))) T (rHd T p).2.1 (acc ++ []) := by
      rw [List.append_nil]
      exact ⟨⟨by rw [sI_n _ _ (by decide)]; exact a1, fun i c hc => by rw [sI_n _ _ (by decide)]; exact a2 i c hc⟩, by rw [sI_n _ _ (by decide)]; exact a3, by rw [sI_n _ _ (by decide)]; exact a4, fun i y hy => by rw [sI_n _ _ (by decide)]; exact a5 i y hy⟩
    exact ⟨_, rfl, hR'.1, hR'.2.1, fun _ => ⟨hR', by rw [if_neg (by show ¬ 3 = 2; omega), sI_n _ _ (by decide)]; exact s4, by rw [if_pos (by rfl), sI_s]⟩, fun k a b c d e f => by rw [sI_n _ _ d]; exact fr0 k a b c d e f⟩
end
