/-! ===== pure layer K: reach ===== -/
def rstep (C : Cr) (S : Sn) (d : Nat) (r : List Nat → Nat) (g : Nat) (H : List Nat) (acc t : Nat) : Nat := if ¬ t = g ∧ goesS C S H d t = true then min acc (1 + (if goesS C S (H ++ [t]) d g = true then 0 else r (H ++ [t]))) else acc
/-- how few others ahead, if it does not go at once; f deep at most; 100: by none -/
def gaR (C : Cr) (S : Sn) (d g : Nat) : Nat → List Nat → Nat
  | 0, _ => 100
  | f + 1, H => (List.range (cT C)).foldl (rstep C S d (gaR C S d g f) g H) 100
def faR (C : Cr) (S : Sn) (d g f : Nat) (H : List Nat) : Nat := if goesS C S H d g = true then 0 else gaR C S d g f H
def rast (C : Cr) (S : Sn) (d : Nat) (r : List Nat → Nat) (g : Nat) (H : List Nat) (k acc t : Nat) : Nat := if ¬ t = g ∧ goesS C S H d t = true then min acc (k + 1 + (if goesS C S (H ++ [t]) d g = true then 0 else r (H ++ [t]))) else acc
theorem rast_b (C : Cr) (S : Sn) (d : Nat) (r : List Nat → Nat) (g : Nat) (H : List Nat) (k a : Nat) : ∀ (l : List Nat) (p : Nat), l.foldl (rast C S d r g H k) (min a (k + p)) = min a (k + l.foldl (rstep C S d r g H) p) := by
  intro l
  induction l with
  | nil => intro p; rfl
  | cons t l ih =>
    intro p
    rw [List.foldl_cons, List.foldl_cons, ← ih]
    congr 1
    unfold rast rstep
    by_cases h : ¬ t = g ∧ goesS C S H d t = true
    · rw [if_pos h, if_pos h]; omega
    · rw [if_neg h, if_neg h]
theorem rstep_none {C : Cr} {S : Sn} {H : List Nat} {d g : Nat} (hC : Wf C) (hH : WfH C H d) (h6 : 6 ≤ H.length) {r : List Nat → Nat} : ∀ (l : List Nat) (acc : Nat), (∀ t ∈ l, t < cT C) → l.foldl (rstep C S d r g H) acc = acc := by
  intro l
  induction l with
  | nil => intro _ _; rfl
  | cons t l ih =>
    intro acc hl
    rw [List.foldl_cons]
    have : rstep C S d r g H acc t = acc := by unfold rstep; rw [if_neg (fun z => by rw [none_goes hC hH (hl t List.mem_cons_self) h6] at z; exact absurd z.2 (by decide))]
    rw [this]
    exact ih acc (fun u hu => hl u (List.mem_cons_of_mem _ hu))
theorem gaR_b {C : Cr} {S : Sn} {d g : Nat} (hC : Wf C) (hg : g < cT C) : ∀ (f : Nat) (H : List Nat), WfH C H d → gaR C S d g f H = 100 ∨ H.length + gaR C S d g f H < cT C := by
  have hT := hC.1
  intro f
  induction f with
  | zero => intro H _; exact Or.inl rfl
  | succ f ih =>
    intro H hH
    have key : ∀ (l : List Nat) (acc : Nat), (∀ t ∈ l, t < cT C) → (acc = 100 ∨ H.length + acc < cT C) → (l.foldl (rstep C S d (gaR C S d g f) g H) acc = 100 ∨ H.length + l.foldl (rstep C S d (gaR C S d g f) g H) acc < cT C) := by
      intro l
      induction l with
      | nil => intro acc _ h; exact h
      | cons t l ihl =>
        intro acc hl ha
        refine ihl _ (fun u hu => hl u (List.mem_cons_of_mem _ hu)) ?_
        unfold rstep
        by_cases h : ¬ t = g ∧ goesS C S H d t = true
        · rw [if_pos h]
          have hHt := hH.push (hl t List.mem_cons_self) (goes_new h.2).1
          by_cases h2 : goesS C S (H ++ [t]) d g = true
          · rw [if_pos h2]
            have := hHt.lt hg (goes_new h2).1
            simp only [List.length_append, List.length_cons, List.length_nil] at this
            omega
          · rw [if_neg h2]
            have := ih (H ++ [t]) hHt
            simp only [List.length_append, List.length_cons, List.length_nil] at this
            omega
        · rw [if_neg h]; exact ha
    exact key _ 100 (fun t ht => List.mem_range.mp ht) (Or.inl rfl)
theorem x_seek {N : Nat} {L : List SR} {h : Option SR} {S : Sn} {C : Cr} {d g : Nat} (hN : 1000 ≤ N) (hC : Wf C) (hS : XT L h S) (hO : SnOk S) (hg : g < cT C) :
    ∀ (f D k w : Nat) (H : List Nat) (s σ : St), k + f = 6 → f < D → w ≤ 6 → WfH C H d → XS σ C H d → s 3 0 = nI w →
      ∃ s' σ', f_X3_seekTarget N D L s σ h (nI g) (nI k) = some (s', σ') ∧ XS σ' C H d ∧ s' 3 0 = nI (min w (k + faR C S d g f H)) := by
  have hT := hC.1
  intro f
  induction f with
  | zero =>
    intro D k w H s σ hk hD hw hH hX h3
    obtain ⟨D, rfl⟩ : ∃ m, D = m + 1 := ⟨D - 1, by omega⟩
    rw [f_X3_seekTarget, h3, if_neg (nI_nlt (by omega) (by omega))]
    exact ⟨s, σ, rfl, hX, by rw [h3, Nat.min_eq_left (by omega)]⟩
  | succ f ih =>
    intro D k w H s σ hk hD hw hH hX h3
    obtain ⟨D, rfl⟩ : ∃ m, D = m + 1 := ⟨D - 1, by omega⟩
    rw [f_X3_seekTarget, h3]
    by_cases hkw : k < w
    · obtain ⟨g0, hg0⟩ := x_goes (N := N) (t := g) hN hC hH hX hg hS hO
      have hX2 := hX.t10 g0
      rw [if_pos (nI_lt hkw (by omega)), hg0, cl_s]
      dsimp only
      unfold faR
      cases hb : goesS C S H d g
      · rw [i0, if_neg (by decide)]
        have key : ∀ (j i n part : Nat) (s2 σ2 : St), i + j = cT C → j < n → part = (List.range i).foldl (rstep C S d (gaR C S d g f) g H) 100 → XS σ2 C H d → s2 3 0 = nI (min w (k + part)) →
            ∃ s' σ', l_X3_seekTarget_26 (f_X3_seekTarget N D L) N D L h (nI g) (nI k) n s2 σ2 (nI i) = some (s', σ') ∧ XS σ' C H d ∧ s' 3 0 = nI (min w (k + gaR C S d g (f + 1) H)) := by
          intro j
          induction j with
          | zero =>
            intro i n part s2 σ2 hi hn hp hX2 h32
            obtain ⟨n, rfl⟩ : ∃ m, n = m + 1 := ⟨n - 1, by omega⟩
            obtain rfl : i = cT C := by omega
            rw [l_X3_seekTarget_26, hX2.1, if_pos (nI_le (Nat.le_refl _) (by omega))]
            exact ⟨s2, σ2, rfl, hX2, by rw [h32, hp]; rfl⟩
          | succ j ihj =>
            intro i n part s2 σ2 hi hn hp hX2 h32
            obtain ⟨n, rfl⟩ : ∃ m, n = m + 1 := ⟨n - 1, by omega⟩
            have hnext : (List.range (i + 1)).foldl (rstep C S d (gaR C S d g f) g H) 100 = rstep C S d (gaR C S d g f) g H part i := by rw [List.range_succ, List.foldl_append, ← hp]; rfl
            rw [l_X3_seekTarget_26, hX2.1, if_neg (nI_ge (by omega) (by omega))]
            by_cases hig : i = g
            · rw [if_pos (by rw [hig]), nm_d, nI_1]
              have e : rstep C S d (gaR C S d g f) g H part i = part := by unfold rstep; rw [if_neg (fun z => z.1 hig)]
              exact ihj (i + 1) n part s2 σ2 (by omega) (by omega) (by rw [hnext, e]) hX2 h32
            · rw [if_neg (fun z => hig ((nI_eq (by omega) (by omega)).mp z))]
              obtain ⟨g1, hg1⟩ := x_goes (N := N) (t := i) hN hC hH hX2 (by omega) hS hO
              have hX3 := hX2.t10 g1
              rw [hg1, cl_s]
              dsimp only
              cases hb2 : goesS C S H d i
              · rw [i0, nm_d, nI_1]
                have e : rstep C S d (gaR C S d g f) g H part i = part := by unfold rstep; rw [if_neg (fun z => by rw [hb2] at z; exact absurd z.2 (by decide))]
                exact ihj (i + 1) n part s2 _ (by omega) (by omega) (by rw [hnext, e]) hX3 h32
              · have hgn := goes_new hb2
                have hHi := hH.push (show i < cT C by omega) hgn.1
                obtain ⟨σ4, e4, x4⟩ := x_pickUp (N := N) hC hH hX3 (show i < cT C by omega) hgn.1
                obtain ⟨s5, σ5, e5, x5, h35⟩ := ih D (k + 1) (min w (k + part)) (H ++ [i]) s2 σ4 (by omega) (by omega) (by omega) hHi x4 h32
                obtain ⟨σ6, e6, x6⟩ := x_layDown (N := N) hC hHi x5
                rw [i1, e4, cl_s, nI_1, e5, cl_s]
                dsimp only
                rw [e6, cl_s, nm_d, nI_1]
                refine ihj (i + 1) n (rstep C S d (gaR C S d g f) g H part i) s5 σ6 (by omega) (by omega) hnext.symm x6 ?_
                have e9 : rstep C S d (gaR C S d g f) g H part i = min part (1 + faR C S d g f (H ++ [i])) := by
                  unfold rstep faR; exact if_pos ⟨hig, hb2⟩
                rw [h35, e9]
                congr 1
                omega
        exact key (cT C) 0 N 100 s _ (by omega) (by omega) rfl hX2 (by rw [h3, Nat.min_eq_left (by omega)])
      · rw [i1, nm_d, if_pos rfl]
        exact ⟨_, _, rfl, hX2, by rw [sI_s, Nat.min_eq_right (by omega)]; rfl⟩
    · rw [if_neg (nI_nlt (by omega) (by omega))]
      exact ⟨s, σ, rfl, hX, by rw [h3, Nat.min_eq_left (by omega)]⟩
/-- a number, or -5 -/
def rp (a : Nat) : Int32 := if a = 100 then -5 else nI a
def rlg (C : Cr) (S : Sn) (d g : Nat) : Nat → List Nat → Nat
  | 0 => gaR C S d g 0
  | f + 1 => gaR C S d g f
theorem rp_min {acc k1 : Nat} (h : acc = 100 ∨ acc ≤ 6) (hk : k1 ≤ 6) {α : Type} (x : Int32 → α) : (if rp acc < 0 then x (nI k1) else if rp acc ≤ nI k1 then x (rp acc) else x (nI k1)) = x (rp (min acc k1)) := by
  have e1 : rp k1 = nI k1 := by unfold rp; rw [if_neg (by omega)]
  rcases h with h | h
  · subst h
    rw [if_pos (by decide), Nat.min_eq_right (by omega), e1]
  · have e2 : rp acc = nI acc := by unfold rp; rw [if_neg (by omega)]
    rw [e2, if_neg (nI_pos (by omega))]
    by_cases hq : acc ≤ k1
    · rw [if_pos (nI_le hq (by omega)), Nat.min_eq_left hq, e2]
    · rw [if_neg (nI_ge (by omega) (by omega)), Nat.min_eq_right (by omega), e1]
theorem m_rlevel {N : Nat} {S : Sn} {C : Cr} {d g : Nat} (hN : 1000 ≤ N) (hC : Wf C) (hO : SnOk S) (hg : g < cT C) (H0 : List Nat) :
    ∀ (f : Nat) (pre : List Nat), pre.length + f = 6 → WfH C (H0 ++ pre) d → ∀ (r j acc : Nat) (μ : St), j + r = cT C → MS μ C (H0 ++ pre) d → MT μ S → MR μ pre j → (acc = 100 ∨ acc ≤ 6) →
      ∃ (c : Nat) (μ' : St), c ≤ r * cst f ∧ (∀ n : Nat, l_X8_fewestAhead_22 N (nI g) (n + c) μ (rp acc) (nI pre.length) = l_X8_fewestAhead_22 N (nI g) n μ' (rp (((List.range (cT C)).drop j).foldl (rast C S d (rlg C S d g f) g (H0 ++ pre) pre.length) acc)) (nI pre.length)) ∧
        MS μ' C (H0 ++ pre) d ∧ MR μ' pre (cT C) ∧ frM μ μ' ∧ ((((List.range (cT C)).drop j).foldl (rast C S d (rlg C S d g f) g (H0 ++ pre) pre.length) acc) = 100 ∨ (((List.range (cT C)).drop j).foldl (rast C S d (rlg C S d g f) g (H0 ++ pre) pre.length) acc) ≤ 6) := by
  have hT := hC.1
  intro f
  induction f with
  | zero =>
    intro pre hp hH r
    induction r with
    | zero =>
      intro j acc μ hj hM hS hR ha
      have : j = cT C := by omega
      subst this
      refine ⟨0, μ, by omega, fun n => ?_, hM, hR, fun _ _ _ _ _ _ => rfl, ?_⟩ <;> simp [List.drop_eq_nil_of_le, ha]
    | succ r ih =>
      intro j acc μ hj hM hS hR ha
      have hng : goesS C S (H0 ++ pre) d j = false := none_goes hC hH (by omega) (by simp; omega)
      obtain ⟨g1, hg1⟩ := m_goes (N := N) (t := j) hN hC hH hM (by omega) hS
      rw [hng] at hg1
      have hdrop : (List.range (cT C)).drop j = j :: (List.range (cT C)).drop (j + 1) := drop_cons (by simp; omega) (by rw [List.getElem?_range (by omega)])
      have hfold : ((List.range (cT C)).drop j).foldl (rast C S d (rlg C S d g 0) g (H0 ++ pre) pre.length) acc = ((List.range (cT C)).drop (j + 1)).foldl (rast C S d (rlg C S d g 0) g (H0 ++ pre) pre.length) acc := by
        rw [hdrop, List.foldl_cons]
        congr 1
        unfold rast; rw [if_neg (fun z => by rw [hng] at z; exact absurd z.2 (by decide))]
      -- one more is tried: with or without having asked whether it goes
      obtain ⟨μ1, hM1, hS1, hR1, hf1, e1⟩ : ∃ μ1, MS μ1 C (H0 ++ pre) d ∧ MT μ1 S ∧ MR μ1 pre (j + 1) ∧ frM μ μ1 ∧ ∀ n, l_X8_fewestAhead_22 N (nI g) (n + 1) μ (rp acc) (nI pre.length) = l_X8_fewestAhead_22 N (nI g) n μ1 (rp acc) (nI pre.length) := by
        by_cases hjg : j = g
        · refine ⟨sA μ 29 (upd (μ 29) pre.length (μ 29 pre.length + 1)), hM.other (fun k hk => sA_n _ _ (by omega)), hS.mono (fun k hk => sA_n _ _ (by omega)), ⟨fun i u hu => by
            rw [sA_s, upd_n (by have := get_lt hu; omega)]; exact hR.1 i u hu, by rw [sA_s, upd_s, hR.2, nI_1]⟩, fun k a1 a2 a3 a4 a5 => sA_n _ _ a4, fun n => ?_⟩
          rw [l_X8_fewestAhead_22, if_neg (nI_pos (by omega)), ck_n (by omega) (by omega), nm_d, nI_clamp (by omega), hR.2, hM.1, if_neg (fun z => by have := (nI_eq (by omega) (by omega)).mp z; omega), if_pos (by rw [hjg]), ck_n (by omega) (by omega), ck_n (by omega) (by omega), nm_d]
        · refine ⟨sA (sA μ 25 g1) 29 (upd (sA μ 25 g1 29) pre.length (sA μ 25 g1 29 pre.length + 1)), (hM.t25 g1).other (fun k hk => sA_n _ _ (by omega)), (hS.t25 g1).mono (fun k hk => sA_n _ _ (by omega)), ⟨fun i u hu => by
            rw [sA_s, upd_n (by have := get_lt hu; omega), sA_n _ _ (show 29 ≠ 25 by decide)]; exact hR.1 i u hu, by rw [sA_s, upd_s, sA_n _ _ (show 29 ≠ 25 by decide), hR.2, nI_1]⟩, fun k a1 a2 a3 a4 a5 => by rw [sA_n _ _ a4, sA_n _ _ a3], fun n => ?_⟩
          rw [l_X8_fewestAhead_22, if_neg (nI_pos (by omega)), ck_n (by omega) (by omega), nm_d, nI_clamp (by omega), hR.2, hM.1, if_neg (fun z => by have := (nI_eq (by omega) (by omega)).mp z; omega), if_neg (fun z => hjg ((nI_eq (by omega) (by omega)).mp z)), hg1, cl_s]
          dsimp only
          rw [i0, ck_n (by omega) (by omega), ck_n (by omega) (by omega), nm_d]
      obtain ⟨c, μ', hc, e, h1, h2, h4, h5⟩ := ih (j + 1) acc μ1 (by omega) hM1 hS1 hR1 ha
      exact ⟨c + 1, μ', by simp only [cst] at hc ⊢; omega, fun n => by rw [hfold, ← e n, show n + (c + 1) = (n + c) + 1 from rfl, e1], h1, h2, hf1.tr h4, by rw [hfold]; exact h5⟩
  | succ f ihf =>
    intro pre hp hH r
    induction r with
    | zero =>
      intro j acc μ hj hM hS hR ha
      have : j = cT C := by omega
      subst this
      refine ⟨0, μ, by omega, fun n => ?_, hM, hR, fun _ _ _ _ _ _ => rfl, ?_⟩ <;> simp [List.drop_eq_nil_of_le, ha]
    | succ r ih =>
      intro j acc μ hj hM hS hR ha
      obtain ⟨g1, hg1⟩ := m_goes (N := N) (t := j) hN hC hH hM (by omega) hS
      have hdrop : (List.range (cT C)).drop j = j :: (List.range (cT C)).drop (j + 1) := drop_cons (by simp; omega) (by rw [List.getElem?_range (by omega)])
      by_cases hgo : ¬ j = g ∧ goesS C S (H0 ++ pre) d j = true
      · obtain ⟨hjg, hb⟩ := hgo
        rw [hb] at hg1
        have hM2 := hM.t25 g1
        have hS2 := hS.t25 g1
        have hgn := goes_new hb
        have hHk := hH.push (show j < cT C by omega) hgn.1
        have hlt := hH.lt (show j < cT C by omega) hgn.1
        simp only [List.length_append] at hlt
        have hap : H0 ++ pre ++ [j] = H0 ++ (pre ++ [j]) := List.append_assoc _ _ _
        obtain ⟨μ3, e3, hM3, f3⟩ := m_pushes (N := N) hC hH hM2 (show j < cT C by omega) hgn.1
        rw [hap] at hM3 hHk
        have hl1 : (pre ++ [j]).length = pre.length + 1 := by simp
        generalize hμ4 : sA μ3 29 (upd (μ3 29) (pre.length + 1) 0) = μ4
        have g4 : ∀ k, k ≠ 29 → μ4 k = μ3 k := fun k hk => by rw [← hμ4, sA_n _ _ hk]
        have hM4 : MS μ4 C (H0 ++ (pre ++ [j])) d := hM3.other (fun k hk => g4 k (by omega))
        have hR4 : MR μ4 (pre ++ [j]) 0 := by
          refine ⟨fun i u hu => ?_, by rw [← hμ4, sA_s]; simp [upd_s, nI_0]⟩
          rw [← hμ4, sA_s]
          have hi := get_lt hu
          simp at hi
          rw [upd_n (by omega), f3 29 (by decide) (by decide), sA_n _ _ (show 29 ≠ 25 by decide)]
          rcases get_app hu with ⟨_, z⟩ | ⟨z1, z2⟩
          · exact hR.1 i u z
          · rw [z1, z2]; exact hR.2
        have hS4 : MT μ4 S := hS2.mono (fun k hk => by rw [g4 k (by omega), f3 k (by omega) (by omega)])
        have fr4' : frM μ μ4 := fun k a1 a2 a3 a4 a5 => by rw [g4 k a4, f3 k a1 a2, sA_n _ _ a3]
        obtain ⟨g5, hg5⟩ := m_goes (N := N) (t := g) hN hC hHk hM4 hg hS4
        have hM5 := hM4.t25 g5
        have hS5 := hS4.t25 g5
        have hR5 : MR (sA μ4 25 g5) (pre ++ [j]) 0 := ⟨fun i u hu => by rw [sA_n _ _ (show 29 ≠ 25 by decide)]; exact hR4.1 i u hu, by rw [sA_n _ _ (show 29 ≠ 25 by decide)]; exact hR4.2⟩
        have f5 : frM μ (sA μ4 25 g5) := fr4'.tr (fun k a1 a2 a3 a4 a5 => sA_n _ _ a3)
        obtain ⟨acc1, hacc1, hb1, hstep⟩ : ∃ acc1, acc1 = (if goesS C S (H0 ++ (pre ++ [j])) d g = true then min acc (pre.length + 1) else acc) ∧ (acc1 = 100 ∨ acc1 ≤ 6) ∧ ∀ n : Nat, l_X8_fewestAhead_22 N (nI g) (n + 1) μ (rp acc) (nI pre.length) = l_X8_fewestAhead_22 N (nI g) n (sA μ4 25 g5) (rp acc1) (nI (pre ++ [j]).length) := by
          refine ⟨_, rfl, by split <;> omega, fun n => ?_⟩
          rw [l_X8_fewestAhead_22, if_neg (nI_pos (by omega)), ck_n (by omega) (by omega), nm_d, nI_clamp (by omega), hR.2, hM.1, if_neg (fun z => by have := (nI_eq (by omega) (by omega)).mp z; omega), if_neg (fun z => hjg ((nI_eq (by omega) (by omega)).mp z)), hg1, cl_s]
          dsimp only
          rw [i1, e3, cl_s, nm_d, nI_1, ck_n (by omega) (by omega), nm_d, nI_clamp (by omega), hμ4, hg5, cl_s, hl1]
          dsimp only
          cases hb5 : goesS C S (H0 ++ (pre ++ [j])) d g
          · rw [i0, if_neg (by decide)]
          · rw [i1, if_pos rfl]
            exact rp_min ha (by omega) (fun v => l_X8_fewestAhead_22 N (nI g) n (sA μ4 25 g5) v (nI (pre.length + 1)))
        obtain ⟨c1, μ6, hc1, e6, hM6, hR6, f6, l6⟩ := ihf (pre ++ [j]) (by simp; omega) hHk (cT C) 0 acc1 (sA μ4 25 g5) (by omega) hM5 hS5 hR5 hb1
        rw [List.drop_zero] at e6 l6
        have hbest : (List.range (cT C)).foldl (rast C S d (rlg C S d g f) g (H0 ++ (pre ++ [j])) (pre ++ [j]).length) acc1 = min acc (pre.length + 1 + (if goesS C S (H0 ++ pre ++ [j]) d g = true then 0 else gaR C S d g f (H0 ++ pre ++ [j]))) := by
          have hx : acc1 = min acc1 ((pre ++ [j]).length + 100) := by rw [Nat.min_eq_left (by omega)]
          rw [hx, rast_b, hap, hl1]
          have hb0 : (List.range (cT C)).foldl (rstep C S d (rlg C S d g f) g (H0 ++ (pre ++ [j]))) 100 = gaR C S d g f (H0 ++ (pre ++ [j])) := by
            cases f with
            | zero => exact rstep_none hC hHk (by simp; omega) _ 100 (fun t ht => List.mem_range.mp ht)
            | succ f => rfl
          rw [hb0, hacc1]
          split <;> omega
        rw [hbest] at e6 l6
        generalize hμ7 : sA (sI μ6 1 (nI (H0 ++ pre).length)) 29 (upd (μ6 29) pre.length (nI (j + 1))) = μ7
        have g7 : ∀ k, k ≠ 1 → k ≠ 29 → μ7 k = μ6 k := fun k a b => by rw [← hμ7, sA_n _ _ b, sI_n _ _ a]
        have el : (H0 ++ (pre ++ [j])).length = (H0 ++ pre).length + 1 := by
          simp only [List.length_append, List.length_cons, List.length_nil]; omega
        have hpop : ∀ (n : Nat) (v2 : Int32), l_X8_fewestAhead_22 N (nI g) (n + 1) μ6 v2 (nI (pre ++ [j]).length) = l_X8_fewestAhead_22 N (nI g) n μ7 v2 (nI pre.length) := by
          intro n v2
          have h6r : μ6 29 pre.length = nI j := hR6.1 pre.length j (by simp)
          have h61 : μ6 1 0 = nI ((H0 ++ pre).length + 1) := by rw [hM6.2.2.2.2.2.1, el]
          rw [l_X8_fewestAhead_22, if_neg (nI_pos (by simp; omega)), ck_n (by simp; omega) (by omega), nm_d, nI_clamp (by simp; omega), hR6.2, hM6.1, if_pos rfl, nm_d]
          have em1 : nI (pre ++ [j]).length + -1 = nI pre.length := by rw [hl1]; exact pk_m1 _
          rw [em1, if_neg (nI_pos (by omega)), nm_d, ck_n (by omega) (by omega), ck_n (by omega) (by omega), nm_d, nI_clamp (by omega), sI_n _ _ (show 29 ≠ 1 by decide), h6r, nI_1, h61, nI_pred, hμ7]
        have hM7 : MS μ7 C (H0 ++ pre) d := by
          obtain ⟨a0, a1, a2, a3, a4, a6, a5, a8⟩ := hM6
          refine ⟨by rw [g7 0 (by decide) (by decide)]; exact a0, fun i hi => by rw [g7 3 (by decide) (by decide)]; exact a1 i hi, fun i hi => by rw [g7 4 (by decide) (by decide)]; exact a2 i hi, fun i hi => by rw [g7 5 (by decide) (by decide)]; exact a3 i hi, fun i hi => by rw [g7 6 (by decide) (by decide)]; exact a4 i hi, ?_, fun i u hu => ?_, by rw [g7 2 (by decide) (by decide)]; exact a8⟩
          · rw [← hμ7, sA_n _ _ (show 1 ≠ 29 by decide), sI_s]
          · rw [g7 7 (by decide) (by decide)]
            exact a5 i u (by rw [← hap, List.getElem?_append_left (get_lt hu)]; exact hu)
        have hR7 : MR μ7 pre (j + 1) := by
          refine ⟨fun i u hu => ?_, by rw [← hμ7, sA_s, upd_s]⟩
          have hi := get_lt hu
          rw [← hμ7, sA_s, upd_n (by omega)]
          exact hR6.1 i u (by rw [List.getElem?_append_left hi]; exact hu)
        have hS6 : MT μ6 S := f6.mt hS5
        obtain ⟨c, μ', hc, e, h1, h2, h4, h5⟩ := ih (j + 1) (min acc (pre.length + 1 + (if goesS C S (H0 ++ pre ++ [j]) d g = true then 0 else gaR C S d g f (H0 ++ pre ++ [j])))) μ7 (by omega) hM7 (hS6.mono (fun k hk => g7 k (by omega) (by omega))) hR7 l6
        have hfold : ((List.range (cT C)).drop j).foldl (rast C S d (rlg C S d g (f + 1)) g (H0 ++ pre) pre.length) acc = ((List.range (cT C)).drop (j + 1)).foldl (rast C S d (rlg C S d g (f + 1)) g (H0 ++ pre) pre.length) (min acc (pre.length + 1 + (if goesS C S (H0 ++ pre ++ [j]) d g = true then 0 else gaR C S d g f (H0 ++ pre ++ [j])))) := by
          rw [hdrop, List.foldl_cons]
          congr 1
          unfold rast; rw [if_pos ⟨hjg, hb⟩]; rfl
        refine ⟨c + 1 + c1 + 1, μ', ?_, fun n => ?_, h1, h2, ?_, by rw [hfold]; exact h5⟩
        · rw [Nat.add_mul]
          have h6c : cT C * cst f ≤ 6 * cst f := Nat.mul_le_mul_right _ hT
          have : 1 * cst (f + 1) = 2 + 6 * cst f := by simp only [cst]; omega
          omega
        · rw [hfold, ← e n, show n + (c + 1 + c1 + 1) = ((n + c + 1) + c1) + 1 by omega, hstep, e6, hpop]
        · intro k a1 a2 a3 a4 a5
          rw [h4 k a1 a2 a3 a4 a5, g7 k a1 a4, f6 k a1 a2 a3 a4 a5, f5 k a1 a2 a3 a4 a5]
      · have hfold : ((List.range (cT C)).drop j).foldl (rast C S d (rlg C S d g (f + 1)) g (H0 ++ pre) pre.length) acc = ((List.range (cT C)).drop (j + 1)).foldl (rast C S d (rlg C S d g (f + 1)) g (H0 ++ pre) pre.length) acc := by
          rw [hdrop, List.foldl_cons]
          congr 1
          unfold rast; rw [if_neg hgo]
        obtain ⟨μ1, hM1, hS1, hR1, hf1, e1⟩ : ∃ μ1, MS μ1 C (H0 ++ pre) d ∧ MT μ1 S ∧ MR μ1 pre (j + 1) ∧ frM μ μ1 ∧ ∀ n, l_X8_fewestAhead_22 N (nI g) (n + 1) μ (rp acc) (nI pre.length) = l_X8_fewestAhead_22 N (nI g) n μ1 (rp acc) (nI pre.length) := by
          by_cases hjg : j = g
          · refine ⟨sA μ 29 (upd (μ 29) pre.length (μ 29 pre.length + 1)), hM.other (fun k hk => sA_n _ _ (by omega)), hS.mono (fun k hk => sA_n _ _ (by omega)), ⟨fun i u hu => by
              rw [sA_s, upd_n (by have := get_lt hu; omega)]; exact hR.1 i u hu, by rw [sA_s, upd_s, hR.2, nI_1]⟩, fun k a1 a2 a3 a4 a5 => sA_n _ _ a4, fun n => ?_⟩
            rw [l_X8_fewestAhead_22, if_neg (nI_pos (by omega)), ck_n (by omega) (by omega), nm_d, nI_clamp (by omega), hR.2, hM.1, if_neg (fun z => by have := (nI_eq (by omega) (by omega)).mp z; omega), if_pos (by rw [hjg]), ck_n (by omega) (by omega), ck_n (by omega) (by omega), nm_d]
          · have hb : goesS C S (H0 ++ pre) d j = false := by
              cases hb : goesS C S (H0 ++ pre) d j
              · rfl
              · exact absurd ⟨hjg, hb⟩ hgo
            rw [hb] at hg1
            refine ⟨sA (sA μ 25 g1) 29 (upd (sA μ 25 g1 29) pre.length (sA μ 25 g1 29 pre.length + 1)), (hM.t25 g1).other (fun k hk => sA_n _ _ (by omega)), (hS.t25 g1).mono (fun k hk => sA_n _ _ (by omega)), ⟨fun i u hu => by
              rw [sA_s, upd_n (by have := get_lt hu; omega), sA_n _ _ (show 29 ≠ 25 by decide)]; exact hR.1 i u hu, by rw [sA_s, upd_s, sA_n _ _ (show 29 ≠ 25 by decide), hR.2, nI_1]⟩, fun k a1 a2 a3 a4 a5 => by rw [sA_n _ _ a4, sA_n _ _ a3], fun n => ?_⟩
            rw [l_X8_fewestAhead_22, if_neg (nI_pos (by omega)), ck_n (by omega) (by omega), nm_d, nI_clamp (by omega), hR.2, hM.1, if_neg (fun z => by have := (nI_eq (by omega) (by omega)).mp z; omega), if_neg (fun z => hjg ((nI_eq (by omega) (by omega)).mp z)), hg1, cl_s]
            dsimp only
            rw [i0, ck_n (by omega) (by omega), ck_n (by omega) (by omega), nm_d]
        obtain ⟨c, μ', hc, e, h1, h2, h4, h5⟩ := ih (j + 1) acc μ1 (by omega) hM1 hS1 hR1 ha
        refine ⟨c + 1, μ', ?_, fun n => by rw [hfold, ← e n, show n + (c + 1) = (n + c) + 1 from rfl, e1], h1, h2, hf1.tr h4, by rw [hfold]; exact h5⟩
        rw [Nat.add_mul]
        have : 1 ≤ 1 * cst (f + 1) := by simp only [cst]; omega
        omega
section
variable {N : Nat} {L : List SR} {h h2 : Option SR} {σ σ2 μ s : St} {C : Cr} {S : Sn} {H : List Nat} {d : Nat}
theorem m_fewest {g : Nat} (hN : 500000 ≤ N) (hC : Wf C) (hO : SnOk S) (hH : WfH C H d) (hM : MS μ C H d) (hS : MT μ S) (hg : g < cT C) : ∃ μ', f_X8_fewestAhead N μ (nI g) = some (rp (faR C S d g 6 H), μ') ∧ MS μ' C H d ∧ frM μ μ' := by
  have hT := hC.1
  have h6 := len6 hC hH
  have c0 : (0 : Int32).toNatClampNeg = 0 := by decide
  unfold f_X8_fewestAhead
  rw [nm_d, ck_t (by decide), nm_d, c0]
  generalize hμ1 : sA μ 29 (upd (μ 29) 0 0) = μ1
  have g1 : ∀ k, k ≠ 29 → μ1 k = μ k := fun k hk => by rw [← hμ1, sA_n _ _ hk]
  have hM1 : MS μ1 C H d := hM.other (fun k hk => g1 k (by omega))
  have hS1 : MT μ1 S := hS.mono (fun k hk => g1 k (by omega))
  obtain ⟨g2, hg2⟩ := m_goes (N := N) (t := g) (by omega) hC hH hM1 hg hS1
  rw [hg2, cl_s]
  dsimp only
  have f2 : frM μ (sA μ1 25 g2) := fun k a1 a2 a3 a4 a5 => by rw [sA_n _ _ a3, g1 k a4]
  unfold faR
  cases hb : goesS C S H d g
  · rw [i0, if_neg (by decide)]
    obtain ⟨c, μ2, hc, e, h1, h2, h4, h5⟩ := m_rlevel (N := N) (by omega) hC hO hg H 6 [] rfl (by rw [List.append_nil]; exact hH) (cT C) 0 100 (sA μ1 25 g2) (by omega) (by rw [List.append_nil]; exact hM1.t25 g2) (hS1.t25 g2) ⟨fun i u hu => by simp at hu, by rw [sA_n _ _ (show 29 ≠ 25 by decide), ← hμ1, sA_s]; exact upd_s _ _ _⟩ (Or.inl rfl)
    have hfold : ((List.range (cT C)).drop 0).foldl (rast C S d (rlg C S d g 6) g (H ++ []) ([] : List Nat).length) 100 = gaR C S d g 6 H := by
      have := rast_b C S d (rlg C S d g 6) g (H ++ []) 0 100 (List.range (cT C)) 100
      rw [show min 100 (0 + 100) = 100 from rfl] at this
      rw [List.drop_zero, List.length_nil, this, List.append_nil]
      have hb2 := gaR_b (S := S) (d := d) hC hg 6 H hH
      have e2 : (List.range (cT C)).foldl (rstep C S d (rlg C S d g 6) g H) 100 = gaR C S d g 6 H := rfl
      rw [e2]; omega
    rw [hfold] at e
    rw [List.append_nil] at h1
    obtain ⟨n, hn⟩ : ∃ n, N = (n + 2) + c := ⟨N - 2 - c, by
      have hc6 : cT C * cst 6 ≤ 6 * cst 6 := Nat.mul_le_mul_right _ hT
      rw [cst_6] at hc hc6
      omega⟩
    refine ⟨μ2, ?_, h1, f2.tr h4⟩
    have e2 := e (n + 2)
    rw [← hn] at e2
    rw [show (-5 : Int32) = rp 100 from rfl, show (0 : Int32) = nI ([] : List Nat).length from rfl, e2]
    have t0 : μ2 29 0 = nI (cT C) := h2.2
    rw [l_X8_fewestAhead_22, if_neg (nI_pos (by simp)), ck_n (by simp) (by omega), nm_d, nI_clamp (by simp)]
    show (if μ2 29 0 = μ2 0 0 then _ else _) = _
    rw [t0, h1.1, if_pos rfl, nm_d]
    rw [if_pos (by decide), l_X8_fewestAhead_22, if_pos (by decide)]
  · rw [i1, if_pos rfl]
    exact ⟨_, rfl, hM1.t25 g2, f2⟩
theorem op_reach (hN : 500000 ≤ N) (hG : GI L h σ μ C S H d) (p1 : Int32) : Asked μ C H d (f_X7_reach N L σ h σ2 h2 s p1) (f_X8_reach N μ p1) := by
  obtain ⟨hC, hH, hX, hM, hS, hR, hO, hd⟩ := hG
  have hT := hC.1
  unfold f_X7_reach f_X8_reach
  rcases two_things (N := N) hC hX hM p1 with ⟨a, b⟩ | ⟨a, b, t, ht, rfl⟩
  · rw [a, b, cl_s, cl_s, i0, i0]; exact ⟨_, ⟨_, rfl⟩, μ, rfl, frR.rf μ, hM⟩
  rw [a, b, cl_s, cl_s, i1, i1, x_isHad hC hH hX ht, m_isHad (by omega) hC hH hM ht, cl_s, cl_s]
  cases hq : decide (t ∈ H)
  · obtain ⟨σ3, e3, x3⟩ := x_become (N := N) (σ0 := σ2) (h0 := h2) (h := h) hC hH hX
    obtain ⟨s4, σ4, e4, x4, h4⟩ := x_seek (N := N) (L := L) (h := h) (S := S) (d := d) (g := t) (by omega) hC hS hO ht 6 8 0 6 H (sI s 3 6) σ3 rfl (by omega) (Nat.le_refl _) hH x3 (by rw [sI_s]; rfl)
    obtain ⟨μ5, f5, m5, r5⟩ := m_fewest (N := N) hN hC hO hH hM hR ht
    have e4' : f_X3_seekTarget N 8 L (sI s 3 6) σ3 h (nI t) 0 = some (s4, σ4) := e4
    rw [i0, i0, e3, cl_s, f5, cl_s]
    unfold f_X3_fewestAhead
    rw [nm_d]
    dsimp only
    rw [e4', cl_s]
    dsimp only
    have hb := gaR_b (S := S) (d := d) hC ht 6 H hH
    have hf : faR C S d t 6 H = 100 ∨ faR C S d t 6 H < 6 := by
      unfold faR; split
      · omega
      · omega
    rcases hf with hf | hf
    · have h9 : (6 : Int32) ≤ s4 3 0 := by rw [h4, hf]; decide
      rw [if_pos h9, hf, cl_s]
      exact ⟨_, ⟨_, rfl⟩, μ5, rfl, r5.r, m5⟩
    · have h4' : s4 3 0 = nI (faR C S d t 6 H) := by rw [h4, Nat.zero_add, Nat.min_eq_right (by omega)]
      have h9 : ¬ (6 : Int32) ≤ s4 3 0 := by rw [h4']; exact nI_ge (b := 6) hf (by omega)
      have e6 : rp (faR C S d t 6 H) = nI (faR C S d t 6 H) := by unfold rp; rw [if_neg (by omega)]
      rw [if_neg h9, cl_s, e6]
      exact ⟨_, ⟨_, by rw [h4']⟩, μ5, rfl, r5.r, m5⟩
  · rw [i1, i1]; exact ⟨_, ⟨_, rfl⟩, μ, rfl, frR.rf μ, hM⟩
end
