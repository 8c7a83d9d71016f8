/-! ===== pure layer QF: a taste, in the class ===== -/
theorem bits_t : ∀ n : Nat, n < 4096 → n ^^^ 1 = (if n % 2 = 0 then n + 1 else n - 1) ∧ n ||| 1 = n / 2 * 2 + 1 ∧ n &&& 4294967294 = n / 2 * 2 := by
  have h : (List.range 4096).all (fun n => decide (n ^^^ 1 = (if n % 2 = 0 then n + 1 else n - 1) ∧ n ||| 1 = n / 2 * 2 + 1 ∧ n &&& 4294967294 = n / 2 * 2)) = true := by decide +kernel
  intro n hn
  exact of_decide_eq_true (List.all_eq_true.mp h n (List.mem_range.mpr hn))
def bt : List Bool → Nat
  | [] => 0
  | b :: l => (if b = true then 1 else 0) + 2 * bt l
theorem bt_lt : ∀ l : List Bool, bt l < 2 ^ l.length := by
  intro l
  induction l with
  | nil => exact Nat.zero_lt_one
  | cons b l ih =>
    rw [bt, List.length_cons, Nat.pow_succ]
    split <;> omega
theorem bt_t (l : List Bool) : bt (true :: l) = 1 + 2 * bt l := by rw [bt, if_pos rfl]
theorem bt_f (l : List Bool) : bt (false :: l) = 2 * bt l := by rw [bt, if_neg (by decide), Nat.zero_add]
theorem bt_12 {l : List Bool} (h : l.length ≤ 12) : bt l < 4096 := Nat.lt_of_lt_of_le (bt_lt l) (Nat.pow_le_pow_right (by omega) h)
theorem x_isSo {N : Nat} (f : Nat → Int32) {t : Nat} (ht : t < 6000) : f_X4_isSo N 6 f (nI (t + 1000)) = some (b2i (tst f t)) := by
  have e1 : nI (t + 1000) / 1000 = nI (t / 1000 + 1) := by
    rw [show (1000 : Int32) = nI 1000 from rfl, pk_div (by omega) (by omega) (by omega), show (t + 1000) / 1000 = t / 1000 + 1 by omega]
  have e2 : nI (t + 1000) - nI (t + 1000) / 100 * 100 = nI (t % 100) := by
    rw [show (100 : Int32) = nI 100 from rfl, pk_rem (by omega) (by omega) (by omega), show (t + 1000) % 100 = t % 100 by omega]
  have e3 : (nI (t + 1000) - nI (t + 1000) / 1000 * 1000) / 100 = nI (t / 100 % 10) := by
    rw [show (1000 : Int32) = nI 1000 from rfl, pk_rem (by omega) (by omega) (by omega), show (100 : Int32) = nI 100 from rfl, pk_div (by omega) (by omega) (by omega), show (t + 1000) % 1000 / 100 = t / 100 % 10 by omega]
  unfold f_X4_isSo
  rw [e3, e2, e1, nI_pred, cz_f (by decide), nm_d, if_neg (nI_pos (by omega)), if_pos (nI_lt (by omega) (by omega)), ck_n (by omega) (by omega), nm_d, nI_clamp (by omega), cz_f (by decide), nm_d, cz_f (by decide), cz_f (by decide)]
  unfold tst
  by_cases h0 : t / 100 % 10 = 0
  · rw [h0, if_pos (show nI 0 = 0 from rfl), if_pos rfl]
    by_cases hc : nI (t % 100) ≤ f (t / 1000)
    · rw [if_pos hc, decide_eq_false (i32_nlt.mpr hc)]; rfl
    · rw [if_neg hc, decide_eq_true (Decidable.not_not.mp (fun z => hc (i32_nlt.mp z)))]; rfl
  · rw [if_neg (nI_ne0 (by omega) (by omega)), if_neg h0]
    by_cases h1 : t / 100 % 10 = 1
    · rw [h1, if_pos (show nI 1 = 1 from rfl), if_pos rfl]
      by_cases hc : f (t / 1000) = nI (t % 100)
      · rw [if_pos hc, decide_eq_true hc]; rfl
      · rw [if_neg hc, decide_eq_false hc]; rfl
    · rw [if_neg (show ¬ nI (t / 100 % 10) = 1 from fun z => h1 ((nI_eq (b := 1) (by omega) (by omega)).mp z)), if_neg h1]
      by_cases hc : f (t / 1000) ≤ nI (t % 100)
      · rw [if_pos hc, decide_eq_false (i32_nlt.mpr hc)]; rfl
      · rw [if_neg hc, decide_eq_true (Decidable.not_not.mp (fun z => hc (i32_nlt.mp z)))]; rfl
section
variable {N n i : Nat} {R : SR} {f : Nat → Int32} {a : Int32}
theorem m2I : (-2 : Int32) = nI 4294967294 := by decide
theorem x_tok (hL : R.2.2.1 ≤ 1000) {t : Nat} {st st' : List Bool} (hs : stp f 12 t st = some st') (hl : st.length ≤ 12) (ht : t < 6000) (hi : i < R.2.2.1) (hc : R.2.2.2.1 i = tokX t) : l_X4_sumFor_7 N 6 R f (n + 1) a (nI (bt st)) (nI i) = l_X4_sumFor_7 N 6 R f n a (nI (bt st')) (nI (i + 1)) ∧ st'.length ≤ 12 := by
  have hb := bt_12 hl
  have e1 : nI (bt st) &&& 1 = nI (bt st % 2) := pk_andN (by omega) 1 (by decide)
  have e2 : ((nI (bt st)).toUInt32 >>> ((1 : Int32).toUInt32 &&& Int32.toUInt32 31)).toInt32 = nI (bt st / 2) := pk_ushrN (by omega) 1 1 (by decide)
  rw [l_X4_sumFor_7, if_neg (nI_ge hi (by omega)), ck_n hi (by omega), nm_d, nI_clamp (by omega), hc, nm_d, nm_d, e1, e2]
  by_cases h0 : t = 0
  · subst h0
    match st, hs with
    | b :: l, hs =>
      have hs' : some ((!b) :: l) = some st' := hs
      cases hs'
      rw [show tokX 0 = (1 : Int32) from rfl, if_pos (by decide), if_pos (by decide), if_pos (by decide), if_pos rfl, nm_d, nm_d, nI_1]
      refine ⟨?_, by simpa using hl⟩
      have : nI (bt (b :: l)) ^^^ 1 = nI (bt ((!b) :: l)) := by
        rw [show (1 : Int32) = nI 1 from rfl, nI_xor, (bits_t _ hb).1]
        cases b
        · rw [Bool.not_false, bt_t, bt_f, if_pos (by omega), Nat.add_comm]
        · rw [Bool.not_true, bt_t, bt_f, if_neg (by omega), show 1 + 2 * bt l - 1 = 2 * bt l by omega]
      rw [this]
  by_cases h1 : t = 1
  · subst h1
    match st, hs with
    | b :: c :: l, hs =>
      have hs' : some ((c && b) :: l) = some st' := hs
      cases hs'
      have hlen : l.length + 1 + 1 ≤ 12 := hl
      refine ⟨?_, by rw [List.length_cons]; omega⟩
      rw [show tokX 1 = (2 : Int32) from rfl, if_pos (by decide), if_pos (by decide), if_pos (by decide), if_neg (by decide), if_pos rfl]
      cases b
      · rw [bt_f (c :: l)] at hb ⊢
        rw [if_neg (show ¬ nI (2 * bt (c :: l) % 2) = 1 by rw [show 2 * bt (c :: l) % 2 = 0 by omega]; decide), nm_d, nm_d, nI_1, show 2 * bt (c :: l) / 2 = bt (c :: l) by omega, m2I, nI_and, (bits_t _ (by omega)).2.2, Bool.and_false, bt_f]
        congr 2
        rw [bt]; split <;> omega
      · rw [bt_t (c :: l)] at hb ⊢
        rw [if_pos (show nI ((1 + 2 * bt (c :: l)) % 2) = 1 by rw [show (1 + 2 * bt (c :: l)) % 2 = 1 by omega]; rfl), nm_d, nI_1, show (1 + 2 * bt (c :: l)) / 2 = bt (c :: l) by omega, Bool.and_true]
  by_cases h2 : t = 2
  · subst h2
    match st, hs with
    | b :: c :: l, hs =>
      have hs' : some ((c || b) :: l) = some st' := hs
      cases hs'
      have hlen : l.length + 1 + 1 ≤ 12 := hl
      refine ⟨?_, by rw [List.length_cons]; omega⟩
      rw [show tokX 2 = (3 : Int32) from rfl, if_pos (by decide), if_pos (by decide), if_pos (by decide), if_neg (by decide), if_neg (by decide), nm_d, nm_d, nI_1, nI_or]
      cases b
      · rw [bt_f (c :: l), Bool.or_false, show 2 * bt (c :: l) / 2 = bt (c :: l) by omega, show 2 * bt (c :: l) % 2 = 0 by omega, Nat.or_zero]
      · rw [bt_t (c :: l)] at hb ⊢
        rw [Bool.or_true, show (1 + 2 * bt (c :: l)) / 2 = bt (c :: l) by omega, show (1 + 2 * bt (c :: l)) % 2 = 1 by omega, (bits_t _ (by omega)).2.1, bt_t]
        congr 2
        rw [bt]; split <;> omega
  · obtain ⟨u, rfl⟩ : ∃ u, t = u + 3 := ⟨t - 3, by omega⟩
    have hs' : (if st.length < 12 then some (tst f u :: st) else none) = some st' := hs
    by_cases hq : st.length < 12
    · rw [if_pos hq] at hs'
      cases hs'
      refine ⟨?_, by rw [List.length_cons]; omega⟩
      have hb2 : bt st < 2048 := Nat.lt_of_lt_of_le (bt_lt st) (Nat.pow_le_pow_right (n := 2) (j := 11) (by omega) (by omega))
      have es : nI (bt st) <<< (1 &&& 31 : Int32) = nI (bt st * 2) := pk_shlN (1 &&& 31) 1 (by decide) (by omega)
      rw [show tokX (u + 3) = nI (u + 1000) from rfl, if_neg (show ¬ nI (u + 1000) < 1000 from nI_nlt (b := 1000) (by omega) (by omega)), x_isSo f (by omega), cl_s, es]
      cases tst f u
      · rw [i0, nm_d, nm_d, nI_1, show (0 : Int32) = nI 0 from rfl, nI_or, Nat.or_zero, bt_f, Nat.mul_comm]
      · rw [i1, nm_d, nm_d, nI_1, show (1 : Int32) = nI 1 from rfl, nI_or, (bits_t _ (by omega)).2.1, bt_t]
        congr 2
        omega
    · rw [if_neg hq] at hs'; cases hs'
theorem x_toks (hL : R.2.2.1 ≤ 1000) : ∀ (toks : List Nat) (i n : Nat) (st st' : List Bool), runB f 12 toks st = some st' → st.length ≤ 12 → (∀ t ∈ toks, t < 6000) → i + toks.length ≤ R.2.2.1 → (∀ j t : Nat, toks[j]? = some t → R.2.2.2.1 (i + j) = tokX t) → l_X4_sumFor_7 N 6 R f (n + toks.length) a (nI (bt st)) (nI i) = l_X4_sumFor_7 N 6 R f n a (nI (bt st')) (nI (i + toks.length)) := by
  intro toks
  induction toks with
  | nil =>
    intro i n st st' h _ _ _ _
    have h' : some st = some st' := h
    cases h'; rfl
  | cons t l ih =>
    intro i n st st' h hl h6 hi hc
    rw [List.length_cons] at hi
    rw [runB] at h
    cases hs : stp f 12 t st with
    | none => rw [hs] at h; cases h
    | some s2 =>
      rw [hs, cl_s] at h
      obtain ⟨e, q⟩ := x_tok (N := N) (n := n + l.length) (a := a) hL hs hl (h6 t List.mem_cons_self) (show i < R.2.2.1 by omega) (hc 0 t rfl)
      rw [List.length_cons, ← Nat.add_assoc, e, ih (i + 1) n s2 st' h q (fun y hy => h6 y (List.mem_cons_of_mem _ hy)) (by omega) (fun j y hy => by rw [show i + 1 + j = i + (j + 1) by omega]; exact hc (j + 1) y hy), show i + 1 + l.length = i + (l.length + 1) by omega]
theorem x_sum (hL : R.2.2.1 ≤ 1000) : ∀ (cs : List Cz) (i n : Nat) (a : Int32), (∀ z ∈ cs, GC z) → i + (csX cs).length = R.2.2.1 → (csX cs).length < n → (∀ (j : Nat) (z : Int32), (csX cs)[j]? = some z → R.2.2.2.1 (i + j) = z) → l_X4_sumFor_7 N 6 R f n a (nI (bt [])) (nI i) = some (sumZ f cs a) := by
  intro cs
  induction cs with
  | nil =>
    intro i n a _ hi hn _
    obtain ⟨n, rfl⟩ : ∃ m, n = m + 1 := ⟨n - 1, by omega⟩
    rw [l_X4_sumFor_7, if_pos (nI_le (by simpa [csX] using Nat.le_of_eq hi.symm) (by omega)), sumZ_nil]
  | cons z cs ih =>
    intro i n a hz hi hn hc
    have hz0 := hz z List.mem_cons_self
    have hzl : ∀ y ∈ cs, GC y := fun y hy => hz y (List.mem_cons_of_mem _ hy)
    rw [csX, List.length_append] at hi hn
    rw [csX] at hc
    rw [sumZ_cons]
    by_cases h1 : z.1 ≤ 1
    · obtain ⟨v, hv⟩ := hz0.2.2 h1
      have eX : clX z = z.2.2.map tokX ++ [nI (100 + 100 * z.1 + z.2.1)] := by unfold clX; rw [if_pos h1]
      rw [eX, List.length_append, List.length_map, List.length_singleton] at hi hn
      rw [eX] at hc
      obtain ⟨m, rfl⟩ : ∃ m, n = (m + 1) + z.2.2.length := ⟨n - 1 - z.2.2.length, by omega⟩
      have h9 := hz0.2.1
      rw [x_toks hL z.2.2 i (m + 1) [] [v f] (hv.ev f).1 (by simp) hv.2.2 (by omega) (fun j t ht => by
        have hj := glt ht
        refine hc j _ ?_
        rw [List.append_assoc, List.getElem?_append_left (by simpa using hj), List.getElem?_map, ht]; rfl)]
      have hstep : R.2.2.2.1 (i + z.2.2.length) = nI (100 + 100 * z.1 + z.2.1) := by
        refine hc z.2.2.length _ ?_
        rw [List.append_assoc, List.getElem?_append_right (by simp), List.length_map, Nat.sub_self]; rfl
      have hb : bt [v f] < 4096 := bt_12 (by simp)
      have e1 : nI (bt [v f]) &&& 1 = nI (bt [v f] % 2) := pk_andN (by omega) 1 (by decide)
      have e2 : ((nI (bt [v f])).toUInt32 >>> ((1 : Int32).toUInt32 &&& Int32.toUInt32 31)).toInt32 = nI (bt []) := by
        rw [pk_ushrN (by omega) 1 1 (by decide)]
        congr 1
        cases v f
        · rw [bt_f]; rfl
        · rw [bt_t]; rfl
      have hev := (hv.ev f).2
      rw [l_X4_sumFor_7, if_neg (nI_ge (by omega) (by omega)), ck_n (by omega) (by omega), nm_d, nI_clamp (by omega), hstep, nm_d, nm_d, e1, e2, if_pos (show nI (100 + 100 * z.1 + z.2.1) < 1000 from nI_lt (b := 1000) (by omega) (by omega))]
      have hnext := fun a' => ih (i + z.2.2.length + 1) m a' hzl (by omega) (by omega) (fun j y hy => by
        rw [show i + z.2.2.length + 1 + j = i + (z.2.2.length + 1 + j) by omega]
        refine hc _ _ ?_
        rw [List.getElem?_append_right (by simp), List.length_append, List.length_map, List.length_singleton, show z.2.2.length + 1 + j - (z.2.2.length + 1) = j by omega]
        exact hy)
      by_cases hz1 : z.1 = 0
      · have ez : 100 + 100 * z.1 + z.2.1 = 100 + z.2.1 := by omega
        rw [ez, if_pos (show nI (100 + z.2.1) < 200 from nI_lt (b := 200) (by omega) (by omega)), if_neg (show ¬ nI (100 + z.2.1) < 100 from nI_nlt (b := 100) (by omega) (by omega)), nm_d, nm_d, nI_1, show nI (100 + z.2.1) - 100 = nI z.2.1 by rw [show (100 : Int32) = nI 100 from rfl, pk_sub (by omega), Nat.add_sub_cancel_left], hnext]
        congr 2
        unfold cvz
        rw [if_pos h1, hev, if_pos hz1]
        cases v f
        · rw [if_neg (by decide), bt_f]
          show a + nI 0 * _ = _
          rw [show nI 0 = 0 from rfl, Int32.zero_mul]
        · rw [if_pos rfl, bt_t]
          show a + nI 1 * _ = _
          rw [show nI 1 = 1 from rfl, Int32.one_mul]
      · have ez : 100 + 100 * z.1 + z.2.1 = 200 + z.2.1 := by omega
        rw [ez, if_neg (show ¬ nI (200 + z.2.1) < 200 from nI_nlt (b := 200) (by omega) (by omega)), nm_d, nm_d, nI_1, show nI (200 + z.2.1) - 200 = nI z.2.1 by rw [show (200 : Int32) = nI 200 from rfl, pk_sub (by omega), Nat.add_sub_cancel_left], hnext]
        congr 2
        unfold cvz
        rw [if_pos h1, hev, if_neg hz1]
        cases v f
        · rw [if_neg (by decide), bt_f]
          show a - nI 0 * _ = _
          rw [show nI 0 = 0 from rfl, Int32.zero_mul, Int32.sub_eq_add_neg, show -(0 : Int32) = 0 from rfl]
        · rw [if_pos rfl, bt_t]
          show a - nI 1 * _ = _
          rw [show nI 1 = 1 from rfl, Int32.one_mul, Int32.sub_eq_add_neg]
    · have eX : clX z = [] := by unfold clX; rw [if_neg h1]
      rw [eX, List.length_nil] at hi hn
      rw [eX, List.nil_append] at hc
      have ec : cvz f z = 0 := by unfold cvz; rw [if_neg h1]
      rw [ec, Int32.add_zero]
      exact ih i n a hzl (by omega) (by omega) hc
theorem x_sumFor (hN : 1000 ≤ N) {cs : List Cz} (hz : ∀ z ∈ cs, GC z) (hl : (csX cs).length ≤ 100) (hR : R.2.2.1 = (csX cs).length) (hc : ∀ (j : Nat) (z : Int32), (csX cs)[j]? = some z → R.2.2.2.1 j = z) : f_X4_sumFor N 6 R f = some ((SnZ cs).1 f) := by
  unfold f_X4_sumFor
  rw [SnZ_1]
  exact x_sum (by omega) cs 0 N 0 hz (by omega) (by omega) (fun j z hj => by rw [Nat.zero_add]; exact hc j z hj)
end
