/-! ===== pure layer O: seen, marked, can, odds, mean, ends ===== -/
/-- one row of what is seen is so -/
def okS (C : Cr) (S : Sn) (H : List Nat) (d : Nat) (e : Nat × Bool × Nat) : Bool := decide (e.1 ∈ dH C S H d e.2.2) == e.2.1
def allS (C : Cr) (S : Sn) (H : List Nat) (d : Nat) (P : Nt) : Bool := P.1.all (okS C S H d)
theorem all_drop {α : Type} {l : List α} {k : Nat} {e : α} {p : α → Bool} (h : l[k]? = some e) : (l.drop k).all p = (p e && (l.drop (k + 1)).all p) := by rw [dropC h, List.all_cons]
theorem b2i_and (a b : Bool) : b2i (a && b) = if b2i a = 0 then 0 else b2i b := by cases a <;> rfl
section
variable {N : Nat} {L : List SR} {h h2 : Option SR} {σ σ2 μ s : St} {C : Cr} {S : Sn} {H : List Nat} {d : Nat} {P : Nt}
theorem x_seenBehind {H' : List Nat} {d' k : Nat} (hN : 1000 ≤ N) (hC : Wf C) (hH : WfH C H' d') (hX : XS σ C H' d') (hx : XN s P) (hw : WfN (cT C) P) (hk : k ≤ 20) : f_X1_isSeenBehind N s σ (nI k) = some (b2i (P.1.all (fun e => !decide (e.2.2 = k) || (decide (e.1 ∈ H') == e.2.1)))) := by
  have hT := hC.1
  have hw1 := hw.1
  have key : ∀ (j i n : Nat), i + j = P.1.length → j < n → l_X1_isSeenBehind_2 N s σ (nI k) n (nI i) = some (b2i ((P.1.drop i).all (fun e => !decide (e.2.2 = k) || (decide (e.1 ∈ H') == e.2.1)))) := by
    intro j
    induction j with
    | zero =>
      intro i n hi hn
      obtain ⟨n, rfl⟩ : ∃ m, n = m + 1 := ⟨n - 1, by omega⟩
      rw [l_X1_isSeenBehind_2, hx.1, if_pos (nI_le (by omega) (by omega)), List.drop_eq_nil_of_le (by omega)]; rfl
    | succ j ih =>
      intro i n hi hn
      obtain ⟨n, rfl⟩ : ∃ m, n = m + 1 := ⟨n - 1, by omega⟩
      obtain ⟨e, he, hme⟩ := idxG (l := P.1) (i := i) (by omega)
      obtain ⟨q1, q2⟩ := hw.2.1 e hme
      obtain ⟨s1, s2, s3⟩ := hx.2.1 i e he
      rw [l_X1_isSeenBehind_2, hx.1, if_neg (nI_ge (by omega) (by omega)), ck_n (by omega) (by omega), nI_clamp (by omega), s1, s2, s3, all_drop he]
      by_cases hek : e.2.2 = k
      · rw [if_pos (by rw [hek]), ck_n (by omega) (by omega), x_isHad hC hH hX q1, cl_s, ck_n (by omega) (by omega)]
        have e1 : decide (e.2.2 = k) = true := by simp [hek]
        rw [e1, Bool.not_true, Bool.false_or]
        have i2 := ih (i + 1) n (by omega) (by omega)
        cases hb : e.2.1 <;> cases hd : decide (e.1 ∈ H')
        · rw [if_neg (show ¬ b2i false = 1 from by decide), i0, nm_d, nI_1, i2]; rfl
        · rw [if_neg (show ¬ b2i false = 1 from by decide), i1]; rfl
        · rw [if_pos (show b2i true = 1 from rfl), if_neg (show ¬ b2i false = 1 from by decide)]; rfl
        · rw [if_pos (show b2i true = 1 from rfl), if_pos (show b2i true = 1 from rfl), nm_d, nI_1, i2]; rfl
      · rw [if_neg (fun z => hek ((nI_eq (by omega) (by omega)).mp z)), nm_d, nI_1, ih (i + 1) n (by omega) (by omega)]
        have e1 : decide (e.2.2 = k) = false := by simp [hek]
        rw [e1, Bool.not_false, Bool.true_or, Bool.true_and]
  unfold f_X1_isSeenBehind
  exact key P.1.length 0 N (by omega) (by omega)
theorem x_allSeen (hN : 1000 ≤ N) (hC : Wf C) (hH : WfH C H d) (hX : XS σ C H d) (hS : XT L h S) (hO : SnOk S) (hd : d ≤ 9999) (hx : XN s P) (hw : WfN (cT C) P) : ∃ σ', f_X1_isAllSeen N L s σ h = some (b2i (allS C S H d P), σ') := by
  have hT := hC.1
  have hw1 := hw.1
  -- the days
  have k2 : ∀ (M j k n : Nat) (σ2 : St), M ≤ 20 → (∀ e ∈ P.1, e.2.2 ≤ M) → k + j = M + 1 → j < n → XS σ2 C (dH C S H d k) (d + k) → (∀ e ∈ P.1, e.2.2 < k → okS C S H d e = true) → ∃ σ', l_X1_isAllSeen_31 N L s h (nI M) n σ2 (nI k) = some (b2i (allS C S H d P), σ') := by
    intro M j
    induction j with
    | zero =>
      intro k n σ2 hM hM2 hk hn hX hall
      obtain ⟨n, rfl⟩ : ∃ m, n = m + 1 := ⟨n - 1, by omega⟩
      rw [l_X1_isAllSeen_31, if_pos (nI_lt (by omega) (by omega))]
      have : allS C S H d P = true := List.all_eq_true.mpr (fun e he => hall e he (by have := hM2 e he; omega))
      rw [this]; exact ⟨σ2, rfl⟩
    | succ j ih =>
      intro k n σ2 hM hM2 hk hn hX hall
      obtain ⟨n, rfl⟩ : ∃ m, n = m + 1 := ⟨n - 1, by omega⟩
      have hHk := dH_wf (C := C) (S := S) hH k (by omega)
      rw [l_X1_isAllSeen_31, if_neg (nI_nlt (by omega) (by omega)), x_seenBehind hN hC hHk hX hx hw (by omega), cl_s]
      cases hb : P.1.all (fun e => !decide (e.2.2 = k) || (decide (e.1 ∈ dH C S H d k) == e.2.1))
      · rw [i0]
        have : allS C S H d P = false := by
          rw [← Bool.not_eq_true]
          intro z
          rw [← Bool.not_eq_true] at hb
          refine hb (List.all_eq_true.mpr (fun e he => ?_))
          have := List.all_eq_true.mp z e he
          by_cases hek : e.2.2 = k
          · unfold okS at this; rw [hek] at this; simp [hek, this]
          · simp [hek]
        rw [this]; exact ⟨σ2, rfl⟩
      · obtain ⟨σ3, e3, x3⟩ := x_dayGoes (N := N) hN hC hHk hX hS hO
        rw [i1, e3, cl_s, nm_d, nI_1]
        refine ih (k + 1) n σ3 hM hM2 (by omega) (by omega) x3 (fun e he hlt => ?_)
        by_cases hek : e.2.2 = k
        · have := List.all_eq_true.mp hb e he
          simp only [hek, decide_true, Bool.not_true, Bool.false_or] at this
          unfold okS; rw [hek]; exact this
        · exact hall e he (by omega)
  -- the last of them
  have k1 : ∀ (j i n M : Nat), i + j = P.1.length → j < n → M ≤ 20 → (∀ (x : Nat) (e : Nat × Bool × Nat), x < i → P.1[x]? = some e → e.2.2 ≤ M) → ∃ σ', l_X1_isAllSeen_4 N L s h n σ (nI M) (nI i) = some (b2i (allS C S H d P), σ') := by
    intro j
    induction j with
    | zero =>
      intro i n M hi hn hM hall
      obtain ⟨n, rfl⟩ : ∃ m, n = m + 1 := ⟨n - 1, by omega⟩
      rw [l_X1_isAllSeen_4, hx.1, if_pos (nI_le (by omega) (by omega))]
      exact k2 M (M + 1) 0 N σ hM (fun e he => by
        obtain ⟨x, hx⟩ := List.getElem?_of_mem he
        exact hall x e (by have := (List.getElem?_eq_some_iff.mp hx).1; omega) hx) (by omega) (by omega) hX (fun e he hlt => by omega)
    | succ j ih =>
      intro i n M hi hn hM hall
      obtain ⟨n, rfl⟩ : ∃ m, n = m + 1 := ⟨n - 1, by omega⟩
      obtain ⟨e, he, hme⟩ := idxG (l := P.1) (i := i) (by omega)
      obtain ⟨q1, q2⟩ := hw.2.1 e hme
      rw [l_X1_isAllSeen_4, hx.1, if_neg (nI_ge (by omega) (by omega)), ck_n (by omega) (by omega), nm_d, nm_d, nI_clamp (by omega), (hx.2.1 i e he).2.2, nI_1]
      have hmax : (if nI M < nI e.2.2 then nI e.2.2 else nI M) = nI (max M e.2.2) := by
        by_cases hq : M < e.2.2
        · rw [if_pos (nI_lt hq (by omega)), Nat.max_eq_right (by omega)]
        · rw [if_neg (nI_nlt (by omega) (by omega)), Nat.max_eq_left (by omega)]
      rw [hmax]
      refine ih (i + 1) n (max M e.2.2) (by omega) (by omega) (by omega) (fun x f hx hf => ?_)
      by_cases hxi : x = i
      · rw [hxi, he] at hf; rw [← Option.some.inj hf]; omega
      · have := hall x f (by omega) hf; omega
  unfold f_X1_isAllSeen
  exact k1 P.1.length 0 N 0 (by omega) (by omega) (by omega) (fun x e hx => by omega)
theorem m_isSeen (hN : 1000 ≤ N) (hC : Wf C) (hH : WfH C H d) (hM : MS μ C H d) (hR : MT μ S) (hd : d ≤ 9999) (hm : MN μ P) (hw : WfN (cT C) P) : ∃ μ', f_X8_isSeen N μ = some (b2i (allS C S H d P), μ') ∧ frR μ μ' ∧ MS μ' C H d := by
  have hT := hC.1
  have hw1 := hw.1
  have key : ∀ (j k n : Nat) (b : Bool) (ν : St), k + j = P.1.length → j < n → MS ν C H d → frR μ ν → ∃ μ', l_X8_isSeen_4 N n ν (b2i b) (nI k) = some (b2i (b && (P.1.drop k).all (okS C S H d)), μ') ∧ frR μ μ' ∧ MS μ' C H d := by
    intro j
    induction j with
    | zero =>
      intro k n b ν hk hn hM hf
      obtain ⟨n, rfl⟩ : ∃ m, n = m + 1 := ⟨n - 1, by omega⟩
      have hm2 := frR.mn hm hf
      rw [l_X8_isSeen_4, hm2.1, if_pos (nI_le (by omega) (by omega)), cb_t (b2i_01 _), List.drop_eq_nil_of_le (by omega)]
      exact ⟨ν, by simp, hf, hM⟩
    | succ j ih =>
      intro k n b ν hk hn hM hf
      obtain ⟨n, rfl⟩ : ∃ m, n = m + 1 := ⟨n - 1, by omega⟩
      have hm2 := frR.mn hm hf
      rw [l_X8_isSeen_4, hm2.1, if_neg (nI_ge (by omega) (by omega))]
      cases b
      · rw [i0, cb_t (b2i_01 _)]; exact ⟨ν, by simp, hf, hM⟩
      · obtain ⟨e, he, hme⟩ := idxG (l := P.1) (i := k) (by omega)
        obtain ⟨q1, q2⟩ := hw.2.1 e hme
        obtain ⟨ν3, f3, k3, m3, r3⟩ := m_save (N := N) hN hC hH hM
        have hf3 := hf.tr (frK r3)
        have hm3 := frR.mn hm hf3
        obtain ⟨ν4, f4, m4, r4⟩ := m_goDays (N := N) (n := e.2.2) hN hC hH m3 (frR.mt hR hf3) (by omega) (by omega)
        have hf4 := hf3.tr (fr4 r4)
        have hm4 := frR.mn hm hf4
        have hH4 := dH_wf (C := C) (S := S) hH e.2.2 (by omega)
        obtain ⟨ν5, f5, m5, r5⟩ := m_back (N := N) hN hC hH (k3.mono (fun k hk => r4 k (by omega) (by omega) (by omega) (by omega))) m4
        have hf5 := hf4.tr (fr3 r5)
        have i2 := fun b => ih (k + 1) n b ν5 (by omega) (by omega) m5 hf5
        rw [i1, f3, cl_s, ck_n (by omega) (by omega), nI_clamp (by omega), (hm3.2.1 k e he).2.2, f4, cl_s, ck_n (by omega) (by omega), (hm4.2.1 k e he).1, m_isHad hN hC hH4 m4 q1, cl_s, ck_n (by omega) (by omega), (hm4.2.1 k e he).2.1, f5, cl_s, cl_s, nm_d, nm_d, nI_1, all_drop he, Bool.true_and]
        have hok : okS C S H d e = (decide (e.1 ∈ dH C S H d e.2.2) == e.2.1) := rfl
        rw [hok]
        cases hb : e.2.1 <;> cases hdd : decide (e.1 ∈ dH C S H d e.2.2)
        · rw [if_pos rfl]; exact i2 true
        · rw [if_neg (by decide)]; exact i2 false
        · rw [if_neg (by decide)]; exact i2 false
        · rw [if_pos rfl]; exact i2 true
  unfold f_X8_isSeen
  obtain ⟨μ', e, h1, h2⟩ := key P.1.length 0 N true μ (by omega) (by omega) hM (frR.rf μ)
  exact ⟨μ', by rw [List.drop_zero, Bool.true_and] at e; exact e, h1, h2⟩
theorem l_x_marked {t : Nat} {w : Int32} (hN : 1000 ≤ N) (hC : Wf C) (hH : WfH C H d) (hX : XS σ C H d) (hS : XT L h S) (hO : SnOk S) (hd : d ≤ 9999) (hx : XN s P) (hw : WfN (cT C) P) (ht : t < cT C) : ∀ (j k n a : Nat) (l : Int32) (σ2 : St) (h2 : Option SR), k + j = 256 → j < n → a ≤ k → (a = 0 → l = -5) →
    ∃ z, l_X7_marked_31 N L σ h s (nI t) w n σ2 h2 (nI a) l (nI k) = some ((if w = 0 then nI (a + cd (fun m => allS (setM C t m) S H d P) j k) else if a = 0 then fans (ffind (fun m => allS (setM C t m) S H d P) j k) else l), z) := by
  have hT := hC.1
  intro j
  induction j with
  | zero =>
    intro k n a l σ2 h2 hk hn ha hl
    obtain ⟨n, rfl⟩ : ∃ m, n = m + 1 := ⟨n - 1, by omega⟩
    obtain rfl : k = 256 := by omega
    rw [l_X7_marked_31, if_pos (show (255 : Int32) < nI 256 from by decide)]
    by_cases hw : w = 0
    · rw [if_pos hw, if_pos hw]; exact ⟨_, rfl⟩
    · rw [if_neg hw, if_neg hw]
      refine ⟨(σ2, h2), ?_⟩
      congr 2
      by_cases h0 : a = 0
      · rw [if_pos h0, hl h0]; rfl
      · rw [if_neg h0]
  | succ j ih =>
    intro k n a l σ2 h2 hk hn ha hl
    obtain ⟨n, rfl⟩ : ∃ m, n = m + 1 := ⟨n - 1, by omega⟩
    obtain ⟨σ3, e3, x3⟩ := x_become (N := N) (σ0 := σ2) (h0 := h2) (h := h) hC hH hX
    obtain ⟨σ4, e4⟩ := x_allSeen (N := N) (L := L) (h := h) (S := S) (P := P) (s := s) hN (hC.setM (t := t) (m := k) (by omega)) hH (x3.setM (t := t) (m := k)) hS hO hd hx hw
    rw [l_X7_marked_31, if_neg (show ¬ (255 : Int32) < nI k from nI_nlt (a := 255) (by omega) (by omega)), e3, cl_s, ck_n (by omega) (by omega), nm_d, nI_clamp (by omega)]
    dsimp only
    rw [e4, cl_s]
    dsimp only
    rw [cd, ffind]
    cases hb : allS (setM C t k) S H d P
    · rw [i0, nm_d, nI_1, if_neg (show ¬ (false = true) from by decide), if_neg (show ¬ (false = true) from by decide), Nat.zero_add]
      exact ih (k + 1) n a l _ _ (by omega) (by omega) (by omega) hl
    · rw [i1, if_pos rfl, if_pos rfl]
      by_cases h0 : a = 0
      · subst h0
        rw [if_pos (show nI 0 = 0 from rfl), nm_d, nm_d, nI_1, nI_1]
        obtain ⟨z, hz⟩ := ih (k + 1) n 1 (nI k) σ4 h (by omega) (by omega) (by omega) (fun z => by omega)
        rw [if_neg (show ¬ (1 = 0) from by omega)] at hz
        rw [if_pos rfl, ← Nat.add_assoc]
        exact ⟨z, hz⟩
      · rw [if_neg (nI_ne0 (by omega) (by omega)), nm_d, nm_d, nI_1, nI_1]
        obtain ⟨z, hz⟩ := ih (k + 1) n (a + 1) l σ4 h (by omega) (by omega) (by omega) (fun z => by omega)
        rw [if_neg (show ¬ (a + 1 = 0) from by omega)] at hz
        rw [if_neg h0, ← Nat.add_assoc]
        exact ⟨z, hz⟩
theorem l_m_marked {t : Nat} {w : Int32} (hN : 1000 ≤ N) (hC : Wf C) (hH : WfH C H d) (hR : MT μ S) (hd : d ≤ 9999) (hm : MN μ P) (hw : WfN (cT C) P) (ht : t < cT C) : ∀ (k n m0 : Nat) (ν : St), k ≤ 256 → k < n → MS ν (setM C t m0) H d → frR μ ν →
    ∃ μ', l_X8_marked_39 N (nI t) w (nI (cM C t)) n ν (nI (cd (fun m => allS (setM C t m) S H d P) (256 - k) k)) (fans (ffind (fun m => allS (setM C t m) S H d P) (256 - k) k)) (nI k + (-1)) = some ((if w = 0 then nI (cd (fun m => allS (setM C t m) S H d P) 256 0) else fans (ffind (fun m => allS (setM C t m) S H d P) 256 0)), μ') ∧ frR μ μ' ∧ MS μ' C H d := by
  have hT := hC.1
  intro k
  induction k with
  | zero =>
    intro n m0 ν hk hn hM hf
    obtain ⟨n, rfl⟩ : ∃ m, n = m + 1 := ⟨n - 1, by omega⟩
    rw [l_X8_marked_39, if_pos (by decide), ck_n (by omega) (by omega), nm_d, nI_clamp (by omega)]
    have hM1 := hM.setM (t := t) (m := cM C t)
    rw [setM_setM, setM_self] at hM1
    refine ⟨_, ?_, hf.tr (fun k hk => sA_n _ _ (scr_ne hk rfl)), hM1⟩
    by_cases hw : w = 0
    · rw [if_pos hw, if_pos hw]
    · rw [if_neg hw, if_neg hw]
  | succ k ih =>
    intro n m0 ν hk hn hM hf
    obtain ⟨n, rfl⟩ : ∃ m, n = m + 1 := ⟨n - 1, by omega⟩
    have hM1 := hM.setM (t := t) (m := k)
    rw [setM_setM] at hM1
    have hf1 : frR μ (sA ν 5 (upd (ν 5) t (nI k))) := hf.tr (fun k hk => sA_n _ _ (scr_ne hk rfl))
    obtain ⟨ν2, hg, hf2, hM2⟩ := m_isSeen (N := N) (P := P) hN (hC.setM (t := t) (m := k) (by omega)) hH hM1 (frR.mt hR hf1) hd (frR.mn hm hf1) hw
    have hf3 := hf1.tr hf2
    rw [l_X8_marked_39, pk_m1, if_neg (nI_pos (by omega)), ck_n (by omega) (by omega), nm_d, nI_clamp (by omega), hg, cl_s]
    dsimp only
    have e1 : 256 - k = (256 - (k + 1)) + 1 := by omega
    have i2 := ih n k _ (by omega) (by omega) hM2 hf3
    rw [e1, cd, ffind] at i2
    cases hb : allS (setM C t k) S H d P
    · rw [hb, if_neg (by decide), if_neg (by decide), Nat.zero_add] at i2
      rw [i0, nm_d]
      exact i2
    · rw [hb, if_pos rfl, if_pos rfl] at i2
      rw [i1, nm_d, nm_d, nI_1, Nat.add_comm]
      exact i2
theorem op_marked (hN : 1000 ≤ N) (hG : GI L h σ μ C S H d) (hx : XN s P) (hm : MN μ P) (hw : WfN (cT C) P) (p1 p2 : Int32) : Asked μ C H d (f_X7_marked N L σ h σ2 h2 s p1 p2) (f_X8_marked N μ p1 p2) := by
  obtain ⟨hC, hH, hX, hM, hS, hR, hO, hd⟩ := hG
  have hT := hC.1
  unfold f_X7_marked f_X8_marked
  rcases two_things (N := N) hC hX hM p1 with ⟨a, b⟩ | ⟨a, b, t, ht, rfl⟩
  · rw [a, b, cl_s, cl_s, i0, i0]; exact ⟨_, ⟨_, rfl⟩, μ, rfl, frR.rf μ, hM⟩
  rw [a, b, cl_s, cl_s, i1, i1, f_within, cl_s, f_in, cl_s]
  cases hwn : wn p2 0 1
  · rw [i0, i0]; exact ⟨_, ⟨_, rfl⟩, μ, rfl, frR.rf μ, hM⟩
  have hM' := hM
  rw [← setM_self C t] at hM'
  rw [i1, i1, nm_d, ck_n (by omega) (by omega), nm_d, nm_d, nI_clamp (by omega), hM.2.2.2.1 t ht]
  obtain ⟨z, hz⟩ := l_x_marked (σ := σ) (w := p2) (L := L) (h := h) (S := S) (P := P) (s := s) hN hC hH hX hS hO hd hx hw ht 256 0 N 0 (-5) σ2 h2 (by omega) (by omega) (by omega) (fun _ => rfl)
  obtain ⟨μ4, f4, r4, m4⟩ := l_m_marked (w := p2) (S := S) (P := P) hN hC hH hR hd hm hw ht 256 N (cM C t) μ (by omega) (by omega) hM' (frR.rf μ)
  rw [if_pos rfl, Nat.zero_add] at hz
  exact ⟨_, ⟨z, hz⟩, μ4, f4, r4, m4⟩
theorem l_x_can {t : Nat} {w : Int32} (hN : 1000 ≤ N) (hC : Wf C) (hH : WfH C H d) (hX : XS σ C H d) (hS : XT L h S) (hO : SnOk S) (hd : d ≤ 9999) (hx : XN s P) (hw : WfN (cT C) P) (ht : t < cT C) : ∀ (j k n a : Nat) (l : Int32) (σ2 : St) (h2 : Option SR), k + j = 10 → j < n → a ≤ k → (a = 0 → l = -5) →
    ∃ z, l_X7_can_31 N L σ h s (nI t) w n σ2 h2 (nI a) l (nI k) = some ((if w = 0 then nI (a + cd (fun m => allS (setV C t m) S H d P) j k) else if a = 0 then fans (ffind (fun m => allS (setV C t m) S H d P) j k) else l), z) := by
  have hT := hC.1
  intro j
  induction j with
  | zero =>
    intro k n a l σ2 h2 hk hn ha hl
    obtain ⟨n, rfl⟩ : ∃ m, n = m + 1 := ⟨n - 1, by omega⟩
    obtain rfl : k = 10 := by omega
    rw [l_X7_can_31, if_pos (show (9 : Int32) < nI 10 from by decide)]
    by_cases hw : w = 0
    · rw [if_pos hw, if_pos hw]; exact ⟨_, rfl⟩
    · rw [if_neg hw, if_neg hw]
      refine ⟨(σ2, h2), ?_⟩
      congr 2
      by_cases h0 : a = 0
      · rw [if_pos h0, hl h0]; rfl
      · rw [if_neg h0]
  | succ j ih =>
    intro k n a l σ2 h2 hk hn ha hl
    obtain ⟨n, rfl⟩ : ∃ m, n = m + 1 := ⟨n - 1, by omega⟩
    obtain ⟨σ3, e3, x3⟩ := x_become (N := N) (σ0 := σ2) (h0 := h2) (h := h) hC hH hX
    obtain ⟨σ4, e4⟩ := x_allSeen (N := N) (L := L) (h := h) (S := S) (P := P) (s := s) hN (hC.setV (t := t) (m := k) (by omega)) hH (x3.setV (t := t) (m := k)) hS hO hd hx hw
    rw [l_X7_can_31, if_neg (show ¬ (9 : Int32) < nI k from nI_nlt (a := 9) (by omega) (by omega)), e3, cl_s, ck_n (by omega) (by omega), nm_d, nI_clamp (by omega)]
    dsimp only
    rw [e4, cl_s]
    dsimp only
    rw [cd, ffind]
    cases hb : allS (setV C t k) S H d P
    · rw [i0, nm_d, nI_1, if_neg (show ¬ (false = true) from by decide), if_neg (show ¬ (false = true) from by decide), Nat.zero_add]
      exact ih (k + 1) n a l _ _ (by omega) (by omega) (by omega) hl
    · rw [i1, if_pos rfl, if_pos rfl]
      by_cases h0 : a = 0
      · subst h0
        rw [if_pos (show nI 0 = 0 from rfl), nm_d, nm_d, nI_1, nI_1]
        obtain ⟨z, hz⟩ := ih (k + 1) n 1 (nI k) σ4 h (by omega) (by omega) (by omega) (fun z => by omega)
        rw [if_neg (show ¬ (1 = 0) from by omega)] at hz
        rw [if_pos rfl, ← Nat.add_assoc]
        exact ⟨z, hz⟩
      · rw [if_neg (nI_ne0 (by omega) (by omega)), nm_d, nm_d, nI_1, nI_1]
        obtain ⟨z, hz⟩ := ih (k + 1) n (a + 1) l σ4 h (by omega) (by omega) (by omega) (fun z => by omega)
        rw [if_neg (show ¬ (a + 1 = 0) from by omega)] at hz
        rw [if_neg h0, ← Nat.add_assoc]
        exact ⟨z, hz⟩
theorem l_m_can {t : Nat} {w : Int32} (hN : 1000 ≤ N) (hC : Wf C) (hH : WfH C H d) (hR : MT μ S) (hd : d ≤ 9999) (hm : MN μ P) (hw : WfN (cT C) P) (ht : t < cT C) : ∀ (k n m0 : Nat) (ν : St), k ≤ 10 → k < n → MS ν (setV C t m0) H d → frR μ ν →
    ∃ μ', l_X8_can_38 N (nI t) w (nI (cV C t)) n ν (nI (cd (fun m => allS (setV C t m) S H d P) (10 - k) k)) (fans (ffind (fun m => allS (setV C t m) S H d P) (10 - k) k)) (nI k + (-1)) = some ((if w = 0 then nI (cd (fun m => allS (setV C t m) S H d P) 10 0) else fans (ffind (fun m => allS (setV C t m) S H d P) 10 0)), μ') ∧ frR μ μ' ∧ MS μ' C H d := by
  have hT := hC.1
  intro k
  induction k with
  | zero =>
    intro n m0 ν hk hn hM hf
    obtain ⟨n, rfl⟩ : ∃ m, n = m + 1 := ⟨n - 1, by omega⟩
    rw [l_X8_can_38, if_pos (by decide), ck_n (by omega) (by omega), nm_d, nI_clamp (by omega)]
    have hM1 := hM.setV (t := t) (m := cV C t)
    rw [setV_setV, setV_self] at hM1
    refine ⟨_, ?_, hf.tr (fun k hk => sA_n _ _ (scr_ne hk rfl)), hM1⟩
    by_cases hw : w = 0
    · rw [if_pos hw, if_pos hw]
    · rw [if_neg hw, if_neg hw]
  | succ k ih =>
    intro n m0 ν hk hn hM hf
    obtain ⟨n, rfl⟩ : ∃ m, n = m + 1 := ⟨n - 1, by omega⟩
    have hM1 := hM.setV (t := t) (m := k)
    rw [setV_setV] at hM1
    have hf1 : frR μ (sA ν 4 (upd (ν 4) t (nI k))) := hf.tr (fun k hk => sA_n _ _ (scr_ne hk rfl))
    obtain ⟨ν2, hg, hf2, hM2⟩ := m_isSeen (N := N) (P := P) hN (hC.setV (t := t) (m := k) (by omega)) hH hM1 (frR.mt hR hf1) hd (frR.mn hm hf1) hw
    have hf3 := hf1.tr hf2
    rw [l_X8_can_38, pk_m1, if_neg (nI_pos (by omega)), ck_n (by omega) (by omega), nm_d, nI_clamp (by omega), hg, cl_s]
    dsimp only
    have e1 : 10 - k = (10 - (k + 1)) + 1 := by omega
    have i2 := ih n k _ (by omega) (by omega) hM2 hf3
    rw [e1, cd, ffind] at i2
    cases hb : allS (setV C t k) S H d P
    · rw [hb, if_neg (by decide), if_neg (by decide), Nat.zero_add] at i2
      rw [i0, nm_d]
      exact i2
    · rw [hb, if_pos rfl, if_pos rfl] at i2
      rw [i1, nm_d, nm_d, nI_1, Nat.add_comm]
      exact i2
theorem op_can (hN : 1000 ≤ N) (hG : GI L h σ μ C S H d) (hx : XN s P) (hm : MN μ P) (hw : WfN (cT C) P) (p1 p2 : Int32) : Asked μ C H d (f_X7_can N L σ h σ2 h2 s p1 p2) (f_X8_can N μ p1 p2) := by
  obtain ⟨hC, hH, hX, hM, hS, hR, hO, hd⟩ := hG
  have hT := hC.1
  unfold f_X7_can f_X8_can
  rcases two_things (N := N) hC hX hM p1 with ⟨a, b⟩ | ⟨a, b, t, ht, rfl⟩
  · rw [a, b, cl_s, cl_s, i0, i0]; exact ⟨_, ⟨_, rfl⟩, μ, rfl, frR.rf μ, hM⟩
  rw [a, b, cl_s, cl_s, i1, i1, f_within, cl_s, f_in, cl_s]
  cases hwn : wn p2 0 1
  · rw [i0, i0]; exact ⟨_, ⟨_, rfl⟩, μ, rfl, frR.rf μ, hM⟩
  have hM' := hM
  rw [← setV_self C t] at hM'
  rw [i1, i1, nm_d, ck_n (by omega) (by omega), nm_d, nm_d, nI_clamp (by omega), hM.2.2.1 t ht]
  obtain ⟨z, hz⟩ := l_x_can (σ := σ) (w := p2) (L := L) (h := h) (S := S) (P := P) (s := s) hN hC hH hX hS hO hd hx hw ht 10 0 N 0 (-5) σ2 h2 (by omega) (by omega) (by omega) (fun _ => rfl)
  obtain ⟨μ4, f4, r4, m4⟩ := l_m_can (w := p2) (S := S) (P := P) hN hC hH hR hd hm hw ht 10 N (cV C t) μ (by omega) (by omega) hM' (frR.rf μ)
  rw [if_pos rfl, Nat.zero_add] at hz
  exact ⟨_, ⟨z, hz⟩, μ4, f4, r4, m4⟩
end
