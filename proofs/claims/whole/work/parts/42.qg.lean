/-! ===== pure layer QG: a taste, in the reference ===== -/
theorem sA_ss {α : Type} (σ : Nat → α) (k : Nat) (f g : α) : sA (sA σ k f) k g = sA σ k g := by
  funext j
  by_cases h : j = k
  · subst h; rw [sA_s, sA_s]
  · rw [sA_n _ _ h, sA_n _ _ h, sA_n _ _ h]
theorem sA_id {α : Type} (σ : Nat → α) (k : Nat) : sA σ k (σ k) = σ := by
  funext j
  by_cases h : j = k
  · subst h; rw [sA_s]
  · rw [sA_n _ _ h]
def Pl (ν : St) : List Bool → Prop
  | [] => True
  | b :: l => ν 25 l.length = b2i b ∧ Pl ν l
theorem Pl.up {ν : St} {g : Nat → Int32} : ∀ {l : List Bool}, Pl ν l → (∀ k, k < l.length → g k = ν 25 k) → Pl (sA ν 25 g) l := by
  intro l
  induction l with
  | nil => intro _ _; trivial
  | cons b l ih =>
    intro h hg
    exact ⟨by rw [sA_s, hg _ (by rw [List.length_cons]; omega)]; exact h.1, ih h.2 (fun k hk => hg k (by rw [List.length_cons]; omega))⟩
theorem Pl.set {ν : St} {l : List Bool} (h : Pl ν l) (v : Bool) : Pl (sA ν 25 (upd (ν 25) l.length (b2i v))) (v :: l) := ⟨by rw [sA_s, pk_us], h.up (fun k hk => pk_un (by omega))⟩
section
variable {N : Nat} {ν : St} {C : Cr} {H : List Nat} {d t : Nat}
theorem m_fact (hN : 1000 ≤ N) (hC : Wf C) (hM : MS ν C H d) (ht : t < cT C) (hd : d < 2 ^ 20) {i : Nat} (hi : i < 6) : f_X8_factOf N ν (nI i) (nI t) = some (fct C H d t i) := by
  have hT := hC.1
  unfold f_X8_factOf
  rcases (show i = 0 ∨ i = 1 ∨ i = 2 ∨ i = 3 ∨ i = 4 ∨ i = 5 by omega) with rfl | rfl | rfl | rfl | rfl | rfl
  · rw [if_pos (by decide)]; rfl
  · rw [if_neg (by decide), if_pos (by decide), ck_n (by omega) (by omega), nI_clamp (by omega), hM.2.1 t ht]; rfl
  · rw [if_neg (by decide), if_neg (by decide), if_pos (by decide), ck_n (by omega) (by omega), nI_clamp (by omega), hM.2.2.1 t ht]; rfl
  · rw [if_neg (by decide), if_neg (by decide), if_neg (by decide), if_pos (by decide), ck_n (by omega) (by omega), nI_clamp (by omega), hM.2.2.2.1 t ht, f_bits (by omega) (by have := hC.2.2.2.1 t ht; omega), cl_s]; rfl
  · rw [if_neg (by decide), if_neg (by decide), if_neg (by decide), if_neg (by decide), if_pos (by decide), hM.2.2.2.2.2.1]; rfl
  · rw [if_neg (by decide), if_neg (by decide), if_neg (by decide), if_neg (by decide), if_neg (by decide), cz_f (by decide), hM.2.2.2.2.2.2.2, show (10 : Int32) = nI 10 from rfl, pk_rem (by omega) (by omega) (by omega)]; rfl
theorem m_tok {n c e i u : Nat} {st st' : List Bool} (hN : 1000 ≤ N) (hC : Wf C) (hM : MS ν C H d) (ht : t < cT C) (hd : d < 2 ^ 20) (hs : stp (fct C H d t) 12 u st = some st') (hl : st.length ≤ 12) (hu : u < 6000) (hP : Pl ν st) (hc : c < 60) (h18 : ν 18 c = nI e) (hi : i < e) (he : e ≤ 600) (h19 : ν 19 i = tokR u) : ∃ g, l_X8_holds_10 N (nI c) (nI t) (n + 1) ν (nI st.length) (nI i) = l_X8_holds_10 N (nI c) (nI t) n (sA ν 25 g) (nI st'.length) (nI (i + 1)) ∧ Pl (sA ν 25 g) st' ∧ st'.length ≤ 12 := by
  rw [l_X8_holds_10, ck_n hc (by omega), nI_clamp (show c < 2 ^ 31 by omega), h18, if_neg (nI_ge hi (by omega)), ck_n (show i < 600 by omega) (by omega), nm_d, nI_clamp (show i < 2 ^ 31 by omega), h19]
  have nf : vp_nar .boolean 0 = b2i false := rfl
  have nt : vp_nar .boolean 1 = b2i true := rfl
  by_cases h0 : u = 0
  · subst h0
    match st, hs, hP with
    | b :: l, hs, hP =>
      have hs' : some ((!b) :: l) = some st' := hs
      cases hs'
      have hlen : l.length + 1 ≤ 12 := hl
      have hb : ν 25 l.length = b2i b := hP.1
      rw [show tokR 0 = (-33 : Int32) from rfl, if_pos rfl, List.length_cons, nI_pred, ck_n (show l.length < 100 by omega) (by omega), nI_clamp (show l.length < 2 ^ 31 by omega), hb]
      cases b
      · rw [i0, ck_n (show l.length < 100 by omega) (by omega), nm_d, nm_d, nI_1, nt]
        exact ⟨_, rfl, hP.2.set true, by rw [List.length_cons]; omega⟩
      · rw [i1, ck_n (show l.length < 100 by omega) (by omega), nm_d, nm_d, nI_1, nf]
        exact ⟨_, rfl, hP.2.set false, by rw [List.length_cons]; omega⟩
  by_cases h1 : u = 1
  · subst h1
    match st, hs, hP with
    | b :: a :: l, hs, hP =>
      have hs' : some ((a && b) :: l) = some st' := hs
      cases hs'
      have hlen : l.length + 1 + 1 ≤ 12 := hl
      have hb : ν 25 (l.length + 1) = b2i b := hP.1
      have ha : ν 25 l.length = b2i a := hP.2.1
      rw [show tokR 1 = (-38 : Int32) from rfl, if_neg (by decide), if_neg (by decide), nm_d, if_pos rfl, List.length_cons, pk_m1, List.length_cons, nI_pred, ck_n (show l.length < 100 by omega) (by omega), nI_clamp (show l.length < 2 ^ 31 by omega), ha]
      cases a
      · rw [i0, ck_n (show l.length < 100 by omega) (by omega), nm_d, nm_d, nI_1, nf]
        exact ⟨_, rfl, hP.2.2.set false, by rw [List.length_cons]; omega⟩
      · rw [i1, ck_n (show l.length + 1 < 100 by omega) (by omega), nI_clamp (show l.length + 1 < 2 ^ 31 by omega), hb]
        cases b
        · rw [i0, ck_n (show l.length < 100 by omega) (by omega), nm_d, nm_d, nI_1, nf]
          exact ⟨_, rfl, hP.2.2.set false, by rw [List.length_cons]; omega⟩
        · rw [i1, ck_n (show l.length < 100 by omega) (by omega), nm_d, nm_d, nI_1, nt]
          exact ⟨_, rfl, hP.2.2.set true, by rw [List.length_cons]; omega⟩
  by_cases h2 : u = 2
  · subst h2
    match st, hs, hP with
    | b :: a :: l, hs, hP =>
      have hs' : some ((a || b) :: l) = some st' := hs
      cases hs'
      have hlen : l.length + 1 + 1 ≤ 12 := hl
      have hb : ν 25 (l.length + 1) = b2i b := hP.1
      have ha : ν 25 l.length = b2i a := hP.2.1
      rw [show tokR 2 = (-124 : Int32) from rfl, if_neg (by decide), if_neg (by decide), nm_d, if_neg (by decide), List.length_cons, pk_m1, List.length_cons, nI_pred, ck_n (show l.length < 100 by omega) (by omega), nI_clamp (show l.length < 2 ^ 31 by omega), ha]
      cases a
      · rw [i0, ck_n (show l.length + 1 < 100 by omega) (by omega), nI_clamp (show l.length + 1 < 2 ^ 31 by omega), hb]
        cases b
        · rw [i0, ck_n (show l.length < 100 by omega) (by omega), nm_d, nm_d, nI_1, nf]
          exact ⟨_, rfl, hP.2.2.set false, by rw [List.length_cons]; omega⟩
        · rw [i1, ck_n (show l.length < 100 by omega) (by omega), nm_d, nm_d, nI_1, nt]
          exact ⟨_, rfl, hP.2.2.set true, by rw [List.length_cons]; omega⟩
      · rw [i1, ck_n (show l.length < 100 by omega) (by omega), nm_d, nm_d, nI_1, nt]
        exact ⟨_, rfl, hP.2.2.set true, by rw [List.length_cons]; omega⟩
  · obtain ⟨u, rfl⟩ : ∃ w, u = w + 3 := ⟨u - 3, by omega⟩
    have hs' : (if st.length < 12 then some (tst (fct C H d t) u :: st) else none) = some st' := hs
    by_cases hq : st.length < 12
    · rw [if_pos hq] at hs'
      cases hs'
      have e1 : nI u / 1000 = nI (u / 1000) := by rw [show (1000 : Int32) = nI 1000 from rfl, pk_div (by omega) (by omega) (by omega)]
      have e2 : nI u - nI u / 100 * 100 = nI (u % 100) := by rw [show (100 : Int32) = nI 100 from rfl, pk_rem (by omega) (by omega) (by omega)]
      have e3 : nI u / 100 - nI u / 100 / 10 * 10 = nI (u / 100 % 10) := by
        rw [show (100 : Int32) = nI 100 from rfl, pk_div (by omega) (by omega) (by omega), show (10 : Int32) = nI 10 from rfl, pk_rem (by omega) (by omega) (by omega)]
      rw [show tokR (u + 3) = nI u from rfl, e3, e2, e1, if_neg (show ¬ nI u = -33 from fun z => nI_pos (n := u) (by omega) (by rw [z]; decide)), if_pos (nI_pos' (by omega)), cz_f (by decide), m_fact hN hC hM ht hd (show u / 1000 < 6 by omega), cl_s, cz_f (by decide), cz_f (by decide), nm_d]
      have key : ∃ g, l_X8_holds_10 N (nI c) (nI t) n (sA ν 25 (upd (ν 25) st.length (b2i (tst (fct C H d t) u)))) (nI (st.length + 1)) (nI (i + 1)) = l_X8_holds_10 N (nI c) (nI t) n (sA ν 25 g) (nI (tst (fct C H d t) u :: st).length) (nI (i + 1)) ∧ Pl (sA ν 25 g) (tst (fct C H d t) u :: st) ∧ (tst (fct C H d t) u :: st).length ≤ 12 := ⟨_, by rw [List.length_cons], hP.set _, by rw [List.length_cons]; omega⟩
      have pT : tst (fct C H d t) u = true → nm (sA ν 25 (upd (ν 25) (nI st.length).toNatClampNeg (vp_nar .boolean 1))) (fun (s0_233 : St) => nm (nI st.length + 1) (fun (x234 : Int32) => nm (nI i + 1) (fun (x237 : Int32) => l_X8_holds_10 N (nI c) (nI t) n s0_233 x234 x237))) = l_X8_holds_10 N (nI c) (nI t) n (sA ν 25 (upd (ν 25) st.length (b2i (tst (fct C H d t) u)))) (nI (st.length + 1)) (nI (i + 1)) := fun z => by
        rw [nm_d, nm_d, nm_d, nI_1, nI_1, nI_clamp (show st.length < 2 ^ 31 by omega), z, nt]
      have pF : tst (fct C H d t) u = false → nm (sA ν 25 (upd (ν 25) (nI st.length).toNatClampNeg (vp_nar .boolean 0))) (fun (s0_233 : St) => nm (nI st.length + 1) (fun (x234 : Int32) => nm (nI i + 1) (fun (x237 : Int32) => l_X8_holds_10 N (nI c) (nI t) n s0_233 x234 x237))) = l_X8_holds_10 N (nI c) (nI t) n (sA ν 25 (upd (ν 25) st.length (b2i (tst (fct C H d t) u)))) (nI (st.length + 1)) (nI (i + 1)) := fun z => by
        rw [nm_d, nm_d, nm_d, nI_1, nI_1, nI_clamp (show st.length < 2 ^ 31 by omega), z, nf]
      have hk : ∀ X : Option (Int32 × St), ck (nI st.length) 100 X = X := fun X => ck_n (show st.length < 100 by omega) (by omega) X
      by_cases q0 : u / 100 % 10 = 0
      · have et : tst (fct C H d t) u = decide (fct C H d t (u / 1000) < nI (u % 100)) := by unfold tst; rw [if_pos q0]
        rw [q0, if_pos (show nI 0 = 0 from rfl), cz_f (by decide)]
        by_cases hcc : nI (u % 100) ≤ fct C H d t (u / 1000)
        · rw [if_pos hcc, hk, pF (by rw [et]; exact decide_eq_false (i32_nlt.mpr hcc))]; exact key
        · rw [if_neg hcc, hk, pT (by rw [et]; exact decide_eq_true (Decidable.not_not.mp (fun z => hcc (i32_nlt.mp z))))]; exact key
      · rw [if_neg (nI_ne0 (by omega) (by omega))]
        by_cases q1 : u / 100 % 10 = 1
        · have et : tst (fct C H d t) u = decide (fct C H d t (u / 1000) = nI (u % 100)) := by unfold tst; rw [if_neg q0, if_pos q1]
          rw [q1, if_pos (show nI 1 = 1 from rfl), cz_f (by decide)]
          by_cases hcc : fct C H d t (u / 1000) = nI (u % 100)
          · rw [if_pos hcc, hk, pT (by rw [et]; exact decide_eq_true hcc)]; exact key
          · rw [if_neg hcc, hk, pF (by rw [et]; exact decide_eq_false hcc)]; exact key
        · have et : tst (fct C H d t) u = decide (nI (u % 100) < fct C H d t (u / 1000)) := by unfold tst; rw [if_neg q0, if_neg q1]
          rw [if_neg (show ¬ nI (u / 100 % 10) = 1 from fun z => q1 ((nI_eq (b := 1) (by omega) (by omega)).mp z)), cz_f (by decide)]
          by_cases hcc : fct C H d t (u / 1000) ≤ nI (u % 100)
          · rw [if_pos hcc, hk, pF (by rw [et]; exact decide_eq_false (i32_nlt.mpr hcc))]; exact key
          · rw [if_neg hcc, hk, pT (by rw [et]; exact decide_eq_true (Decidable.not_not.mp (fun z => hcc (i32_nlt.mp z))))]; exact key
    · rw [if_neg hq] at hs'; cases hs'
theorem m_toks {c e : Nat} (hN : 1000 ≤ N) (hC : Wf C) (ht : t < cT C) (hd : d < 2 ^ 20) (hc : c < 60) (he : e ≤ 600) : ∀ (toks : List Nat) (i n : Nat) (ν : St) (st st' : List Bool), runB (fct C H d t) 12 toks st = some st' → MS ν C H d → ν 18 c = nI e → st.length ≤ 12 → Pl ν st → (∀ y ∈ toks, y < 6000) → i + toks.length = e → (∀ j y : Nat, toks[j]? = some y → ν 19 (i + j) = tokR y) → ∃ g, l_X8_holds_10 N (nI c) (nI t) (n + toks.length) ν (nI st.length) (nI i) = l_X8_holds_10 N (nI c) (nI t) n (sA ν 25 g) (nI st'.length) (nI e) ∧ Pl (sA ν 25 g) st' := by
  intro toks
  induction toks with
  | nil =>
    intro i n ν st st' h _ _ _ hP _ hi _
    have h' : some st = some st' := h
    cases h'
    have hi' : i = e := hi
    subst hi'
    exact ⟨ν 25, by rw [sA_id]; rfl, by rw [sA_id]; exact hP⟩
  | cons y l ih =>
    intro i n ν st st' h hM h18 hl hP h6 hi h19
    rw [List.length_cons] at hi
    rw [runB] at h
    cases hs : stp (fct C H d t) 12 y st with
    | none => rw [hs] at h; cases h
    | some s2 =>
      rw [hs, cl_s] at h
      obtain ⟨g, e1, P1, q⟩ := m_tok (N := N) (n := n + l.length) hN hC hM ht hd hs hl (h6 y List.mem_cons_self) hP hc h18 (show i < e by omega) he (h19 0 y rfl)
      obtain ⟨g2, e2, P2⟩ := ih (i + 1) n (sA ν 25 g) s2 st' h (hM.t25 g) (by rw [sA_n _ _ (by decide)]; exact h18) q P1 (fun z hz => h6 z (List.mem_cons_of_mem _ hz)) (by omega) (fun j z hz => by rw [sA_n _ _ (by decide), show i + 1 + j = i + (j + 1) by omega]; exact h19 (j + 1) z hz)
      rw [sA_ss] at e2 P2
      exact ⟨g2, by rw [List.length_cons, ← Nat.add_assoc, e1, e2], P2⟩
theorem m_holds {c B : Nat} {toks : List Nat} {v : (Nat → Int32) → Bool} (hN : 1000 ≤ N) (hC : Wf C) (hM : MS ν C H d) (ht : t < cT C) (hd : d < 2 ^ 20) (hG : Gd 11 toks v) (hc : c < 60) (h17 : ν 17 c = nI B) (h18 : ν 18 c = nI (B + toks.length)) (he : B + toks.length ≤ 600) (h19 : ∀ j y : Nat, toks[j]? = some y → ν 19 (B + j) = tokR y) : ∃ g, f_X8_holds N ν (nI c) (nI t) = some (b2i (v (fct C H d t)), sA ν 25 g) := by
  unfold f_X8_holds
  obtain ⟨m, hm⟩ : ∃ m, N = (m + 1) + toks.length := ⟨N - 1 - toks.length, by omega⟩
  obtain ⟨g, e, P⟩ := m_toks (N := N) hN hC ht hd hc he toks B (m + 1) ν [] [v (fct C H d t)] (hG.ev _).1 hM h18 (by simp) trivial hG.2.2 rfl h19
  refine ⟨g, ?_⟩
  rw [ck_n hc (by omega), nI_clamp (show c < 2 ^ 31 by omega), h17, nm_d]
  have e' : l_X8_holds_10 N (nI c) (nI t) N ν 0 (nI B) = l_X8_holds_10 N (nI c) (nI t) (m + 1) (sA ν 25 g) (nI [v (fct C H d t)].length) (nI (B + toks.length)) := by
    rw [← hm] at e
    exact e
  rw [e', l_X8_holds_10, ck_n hc (by omega), nI_clamp (show c < 2 ^ 31 by omega), sA_n _ _ (show 18 ≠ 25 by decide), h18, if_pos (nI_le (Nat.le_refl _) (by omega))]
  have p0 : sA ν 25 g 25 (0 : Int32).toNatClampNeg = b2i (v (fct C H d t)) := P.1
  rw [p0]
  show ck (nI 0) 100 _ = _
  rw [ck_n (by omega) (by omega), cb_t (b2i_01 _)]
end
