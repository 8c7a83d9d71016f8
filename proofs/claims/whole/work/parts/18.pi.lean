/-! ===== pure layer I: most, start, back ===== -/
theorem toN {S : Sn} {k : Nat} (hk : S.2.2 = nI k) (h2 : k ≤ 99) : S.2.2.toNatClampNeg = k := by rw [hk]; exact nI_clamp (by omega)
section
variable {N : Nat} {L : List SR} {h h2 : Option SR} {σ σ2 μ s : St} {C : Cr} {S : Sn} {H : List Nat} {d : Nat}
theorem none_lim (hC : Wf C) (hO : SnOk S) (hH : WfH C H d) (hl : lim C S < H.length) {t : Nat} (ht : t < cT C) : goesS C S H d t = false := by
  cases hb : goesS C S H d t
  · rfl
  · have := goes_lim hC hO hH ht hb; omega
theorem bestR_none (hC : Wf C) (hO : SnOk S) (hH : WfH C H d) (hl : lim C S < H.length) (f : Nat) : bestR C S d f H = [] := by
  cases f with
  | zero => rfl
  | succ f =>
    have key : ∀ l : List Nat, (∀ t ∈ l, t < cT C) → l.foldl (bstep C S d (bestR C S d f) H) [] = [] := by
      intro l
      induction l with
      | nil => intro _; rfl
      | cons t l ih =>
        intro hl2
        rw [List.foldl_cons]
        have : bstep C S d (bestR C S d f) H [] t = [] := by unfold bstep; rw [if_neg (by rw [none_lim hC hO hH hl (hl2 t List.mem_cons_self)]; decide)]
        rw [this]
        exact ih (fun u hu => hl2 u (List.mem_cons_of_mem _ hu))
    exact key _ (fun t ht => List.mem_range.mp ht)
theorem longer_nil (b : List Nat) : longer [] b = b := by
  unfold longer
  cases b <;> simp
theorem x_longest (hN : 1000 ≤ N) (hC : Wf C) (hH : WfH C H d) (hX : XS σ C H d) (hS : XT L h S) (hO : SnOk S) : ∃ s' σ', f_X3_longestRow N L s σ h = some (nI (bestR C S d 6 H).length, s', σ') ∧ XS σ' C H d ∧ XB s' (bestR C S d 6 H) := by
  have hT := hC.1
  have h6 := len6 hC hH
  obtain ⟨k, hk, hk1, hk2⟩ := hO.2
  have hlim : lim C S = min (cT C) k := by unfold lim; rw [toN hk hk2]
  have hmin : (if S.2.2 < nI (cT C) then S.2.2 else nI (cT C)) = nI (lim C S) := by
    rw [hk, hlim]
    by_cases hq : k < cT C
    · rw [if_pos ((nI_ltI (by omega) (by omega)).mpr hq), Nat.min_eq_right (by omega)]
    · rw [if_neg (fun z => hq ((nI_ltI (by omega) (by omega)).mp z)), Nat.min_eq_left (by omega)]
  unfold f_X3_longestRow
  rw [nm_d, x_holdNow hS, cl_s, nm_d, hX.1, hX.2.2.2.2.2.2.1, hmin]
  by_cases hl : H.length ≤ lim C S
  · rw [pk_sub hl]
    have hA : H ++ [] = H := List.append_nil H
    obtain ⟨s', σ', e, x1, x2, -, -⟩ := x_extend (N := N) (L := L) (h := h) (d := d) hN hC hS hO H hl 6 8 [] [] (sI s 2 0) σ rfl (by omega) (by rw [hA]; exact hH) (by rw [hA]; exact hX) ⟨by rw [sI_s]; rfl, fun i u hu => by simp at hu⟩ (fun i u hu => by simp at hu) (Nat.le_refl _) (by simp)
    rw [hA] at x1 x2
    rw [List.nil_append, longer_nil] at x2
    have e' : f_X3_extendRow N 8 L (sI s 2 0) σ h 0 (nI (lim C S - H.length)) = some (s', σ') := e
    rw [e', cl_s]
    exact ⟨s', σ', by dsimp only; rw [x2.1], x1, x2⟩
  · have hb := bestR_none (d := d) hC hO hH (by omega) 6
    have hneg : nI (lim C S) - nI H.length < 0 := pk_sneg (by omega) (by omega)
    refine ⟨sI s 2 0, σ, ?_, hX, ?_⟩
    · rw [f_X3_extendRow, if_pos (show (0 : Int32) < 6 from by decide)]
      obtain ⟨n, rfl⟩ : ∃ m, N = m + 1 := ⟨N - 1, by omega⟩
      rw [l_X3_extendRow_10, sI_s, hb]
      by_cases h0 : σ 0 0 ≤ 0
      · rw [if_pos h0, cl_s]; rfl
      · rw [if_neg h0, if_pos (Int32.le_of_lt hneg), cl_s]; rfl
    · rw [hb]; exact ⟨by rw [sI_s]; rfl, fun i u hu => by simp at hu⟩
theorem op_most (hN : 500000 ≤ N) (hG : GI L h σ μ C S H d) (p1 : Int32) : Asked μ C H d (f_X7_most N L σ h σ2 h2 s p1) (f_X8_most N μ p1) := by
  obtain ⟨hC, hH, hX, hM, hS, hR, hO, hd⟩ := hG
  unfold f_X7_most f_X8_most
  rw [f_within, cl_s, f_in, cl_s]
  cases hw : wn p1 (-1) 5
  · rw [i0, i0]; exact ⟨_, ⟨_, rfl⟩, μ, rfl, frR.rf μ, hM⟩
  obtain ⟨σ3, e3, x3⟩ := x_become (N := N) (σ0 := σ2) (h0 := h2) (h := h) hC hH hX
  obtain ⟨s4, σ4, e4, x4, b4⟩ := x_longest (N := N) (s := s) (by omega) hC hH x3 hS hO
  obtain ⟨μ4, f4, m4, b5, r4, l4⟩ := m_mostNow (N := N) hN hC hO hH hM hR
  rw [i1, i1, e3, cl_s, f4, cl_s]
  dsimp only
  rw [e4, cl_s]
  simp only [nm_d]
  rcases pk_ix p1 (n := (bestR C S d 6 H).length) (by omega) with hp | hp | ⟨j, hj, rfl⟩
  · have h0 : ¬ 0 ≤ p1 := by rw [← i32_nlt]; exact fun z => z hp
    rw [if_neg h0, if_neg h0]
    exact ⟨_, ⟨_, rfl⟩, μ4, rfl, r4.r, m4⟩
  · have h0 : 0 ≤ p1 := Int32.le_trans (nI_pos' (by omega)) hp
    rw [if_pos h0, if_pos h0, if_pos hp, if_pos hp]
    exact ⟨_, ⟨_, rfl⟩, μ4, rfl, r4.r, m4⟩
  · have h0 : 0 ≤ nI j := nI_pos' (by omega)
    obtain ⟨u, hu, -⟩ := idx_get (H := bestR C S d 6 H) (i := j) hj
    rw [if_pos h0, if_pos h0, if_neg (nI_ge hj (by omega)), if_neg (nI_ge hj (by omega)), ck_n (by omega) (by omega), ck_n (by omega) (by omega), nI_clamp (by omega), b4.2 j u hu, b5 j u hu]
    exact ⟨_, ⟨_, rfl⟩, μ4, rfl, r4.r, m4⟩
/-- deeper than there are things is no deeper -/
theorem bestR_fuel (hC : Wf C) : ∀ (f : Nat) (H : List Nat), 6 ≤ f + H.length → WfH C H d → bestR C S d (f + 1) H = bestR C S d f H := by
  intro f
  induction f with
  | zero => intro H h6 hH; exact foldl_none hC hH (by omega) _ (fun t ht => List.mem_range.mp ht)
  | succ f ih =>
    intro H h6 hH
    have key : ∀ (l acc : List Nat), (∀ t ∈ l, t < cT C) → l.foldl (bstep C S d (bestR C S d (f + 1)) H) acc = l.foldl (bstep C S d (bestR C S d f) H) acc := by
      intro l
      induction l with
      | nil => intro _ _; rfl
      | cons t l ihl =>
        intro acc hl
        rw [List.foldl_cons, List.foldl_cons]
        have : bstep C S d (bestR C S d (f + 1)) H acc t = bstep C S d (bestR C S d f) H acc t := by
          unfold bstep
          by_cases hg : goesS C S H d t = true
          · rw [if_pos hg, if_pos hg, ih (H ++ [t]) (by simp; omega) (hH.push (hl t List.mem_cons_self) (goes_new hg).1)]
          · rw [if_neg hg, if_neg hg]
        rw [this]
        exact ihl _ (fun u hu => hl u (List.mem_cons_of_mem _ hu))
    exact key _ [] (fun t ht => List.mem_range.mp ht)
theorem m_pop {t : Nat} (hM : MS μ C (H ++ [t]) d) : MS (sI μ 1 (μ 1 0 - 1)) C H d := by
  obtain ⟨a0, a1, a2, a3, a4, a6, a5, a8⟩ := hM
  refine ⟨by rw [sI_n _ _ (by decide)]; exact a0, fun i hi => by rw [sI_n _ _ (by decide)]; exact a1 i hi, fun i hi => by rw [sI_n _ _ (by decide)]; exact a2 i hi, fun i hi => by rw [sI_n _ _ (by decide)]; exact a3 i hi, fun i hi => by rw [sI_n _ _ (by decide)]; exact a4 i hi, ?_, fun i u hu => ?_, by rw [sI_n _ _ (by decide)]; exact a8⟩
  · rw [sI_s, a6, List.length_append, List.length_cons, List.length_nil, nI_pred]
  · rw [sI_n _ _ (by decide)]; exact a5 i u (by rw [List.getElem?_append_left (get_lt hu)]; exact hu)
/-- the head of a row, or -5 -/
def hd5 (l : List Nat) : Int32 := match l with
  | [] => -5
  | t :: _ => nI t
def tl1 (l : List Nat) : Int32 := match l with
  | [] => 0
  | _ :: l => nI l.length
theorem m_startOf (hN : 500000 ≤ N) (hC : Wf C) (hO : SnOk S) (hH : WfH C H d) (hM : MS μ C H d) (hR : MT μ S) : ∃ μ', f_X8_startOf N μ = some (hd5 (bestR C S d 6 H), μ') ∧ MS μ' C H d ∧ frR μ μ' := by
  have hT := hC.1
  have key : ∀ (j k n : Nat) (part : List Nat) (ν : St), k + j = cT C → j < n → part = (List.range k).foldl (bstep C S d (bestR C S d 5) H) [] → part.length ≤ 6 → (∀ t ∈ part, t < 6) → MS ν C H d → frR μ ν →
      ∃ μ', l_X8_startOf_7 N n ν (hd5 part) (tl1 part) (nI k) = some (hd5 (bestR C S d 6 H), μ') ∧ MS μ' C H d ∧ frR μ μ' := by
    intro j
    induction j with
    | zero =>
      intro k n part ν hk hn hp hp6 hpt hM hf
      obtain ⟨n, rfl⟩ : ∃ m, n = m + 1 := ⟨n - 1, by omega⟩
      obtain rfl : k = cT C := by omega
      rw [l_X8_startOf_7, hM.1, if_pos (nI_le (Nat.le_refl _) (by omega))]
      exact ⟨ν, by rw [hp]; rfl, hM, hf⟩
    | succ j ih =>
      intro k n part ν hk hn hp hp6 hpt hM hf
      obtain ⟨n, rfl⟩ : ∃ m, n = m + 1 := ⟨n - 1, by omega⟩
      obtain ⟨g, hg⟩ := m_goes (N := N) (t := k) (by omega) hC hH hM (by omega) (frR.mt hR hf)
      have hM2 := hM.t25 g
      have hf2 : frR μ (sA ν 25 g) := hf.tr (fr25 g)
      have hnext : (List.range (k + 1)).foldl (bstep C S d (bestR C S d 5) H) [] = bstep C S d (bestR C S d 5) H part k := by rw [List.range_succ, List.foldl_append, ← hp]; rfl
      rw [l_X8_startOf_7, hM.1, if_neg (nI_ge (by omega) (by omega)), hg, cl_s]
      dsimp only
      cases hb : goesS C S H d k
      · rw [i0, nm_d, nI_1]
        have e : bstep C S d (bestR C S d 5) H part k = part := by unfold bstep; rw [if_neg (by rw [hb]; decide)]
        exact ih (k + 1) n part _ (by omega) (by omega) (by rw [hnext, e]) hp6 hpt hM2 hf2
      · have hgn := goes_new hb
        have hHk := hH.push (show k < cT C by omega) hgn.1
        obtain ⟨μ3, e3, m3, f3⟩ := m_pushes (N := N) hC hH hM2 (show k < cT C by omega) hgn.1
        obtain ⟨μ4, e4, m4, b4, r4, l4⟩ := m_mostNow (N := N) hN hC hO hHk m3 (frR.mt hR (hf2.tr (fr2 f3)))
        rw [bestR_fuel hC 5 (H ++ [k]) (by simp; omega) hHk] at e4 l4
        rw [i1, e3, cl_s, e4, cl_s, nm_d, nm_d]
        dsimp only
        have m5 := m_pop m4
        have hf5 : frR μ (sI μ4 1 (μ4 1 0 - 1)) := (hf2.tr ((fr2 f3).tr r4.r)).tr (fun k hk => sI_n _ _ (scr_ne hk rfl))
        have hr5 : (bestR C S d 5 (H ++ [k])).length ≤ 5 := by
          rcases bestR_len (d := d) hC hO 5 (H ++ [k]) hHk with z | z
          · rw [z]; simp
          · have : lim C S ≤ 6 := by unfold lim; omega
            simp only [List.length_append, List.length_cons, List.length_nil] at z; omega
        have hrm : ∀ t ∈ bestR C S d 5 (H ++ [k]), t < 6 := by
          have : ∀ (f : Nat) (H : List Nat), ∀ t ∈ bestR C S d f H, t < cT C := by
            intro f
            induction f with
            | zero => intro H t ht; simp [bestR] at ht
            | succ f ihf =>
              intro H
              have k2 : ∀ (l acc : List Nat), (∀ t ∈ l, t < cT C) → (∀ t ∈ acc, t < cT C) → ∀ t ∈ l.foldl (bstep C S d (bestR C S d f) H) acc, t < cT C := by
                intro l
                induction l with
                | nil => intro acc _ h; exact h
                | cons u l ihl =>
                  intro acc hl ha
                  refine ihl _ (fun v hv => hl v (List.mem_cons_of_mem _ hv)) ?_
                  unfold bstep longer
                  intro t ht
                  split at ht
                  · split at ht
                    · rcases List.mem_cons.mp ht with rfl | z
                      · exact hl _ List.mem_cons_self
                      · exact ihf _ t z
                    · exact ha t ht
                  · exact ha t ht
              exact k2 _ [] (fun t ht => List.mem_range.mp ht) (fun t ht => by simp at ht)
          intro t ht; have := this _ _ t ht; omega
        have hbs : bstep C S d (bestR C S d 5) H part k = longer part (k :: bestR C S d 5 (H ++ [k])) := by unfold bstep; rw [if_pos hb]
        have hcase : (if hd5 part < 0 then l_X8_startOf_7 N n (sI μ4 1 (μ4 1 0 - 1)) (nI k) (nI (bestR C S d 5 (H ++ [k])).length) (nI k + 1) else if tl1 part < nI (bestR C S d 5 (H ++ [k])).length then l_X8_startOf_7 N n (sI μ4 1 (μ4 1 0 - 1)) (nI k) (nI (bestR C S d 5 (H ++ [k])).length) (nI k + 1) else l_X8_startOf_7 N n (sI μ4 1 (μ4 1 0 - 1)) (hd5 part) (tl1 part) (nI k + 1)) = l_X8_startOf_7 N n (sI μ4 1 (μ4 1 0 - 1)) (hd5 (longer part (k :: bestR C S d 5 (H ++ [k])))) (tl1 (longer part (k :: bestR C S d 5 (H ++ [k])))) (nI (k + 1)) := by
          rw [nI_1]
          cases hpc : part with
          | nil => rw [if_pos (by decide), longer_nil]; rfl
          | cons a l =>
            rw [hpc] at hp6 hpt
            simp only [List.length_cons] at hp6
            have ha := hpt a List.mem_cons_self
            rw [if_neg (show ¬ hd5 (a :: l) < 0 from nI_pos (by omega))]
            unfold longer
            by_cases hlt : l.length < (bestR C S d 5 (H ++ [k])).length
            · rw [if_pos (show tl1 (a :: l) < _ from nI_lt hlt (by omega)), if_pos (by simp; omega)]; rfl
            · rw [if_neg (show ¬ tl1 (a :: l) < _ from nI_nlt (by omega) (by omega)), if_neg (by simp; omega)]
        simp only [nm_d]
        rw [hcase]
        refine ih (k + 1) n _ _ (by omega) (by omega) (by rw [hnext, hbs]) ?_ ?_ m5 hf5
        · rw [longer_len, List.length_cons]; omega
        · unfold longer
          split
          · intro t ht
            rcases List.mem_cons.mp ht with rfl | z
            · omega
            · exact hrm t z
          · exact hpt
  unfold f_X8_startOf
  rw [nm_d]
  exact key (cT C) 0 N [] μ (by omega) (by omega) rfl (by simp) (fun t ht => by simp at ht) hM (frR.rf μ)
theorem x_start (hN : 500000 ≤ N) (hC : Wf C) (hH : WfH C H d) (hX : XS σ C H d) (hS : XT L h S) (hO : SnOk S) : ∃ z, f_X7_bestStart N L σ h σ2 h2 s = some (hd5 (bestR C S d 6 H), z) := by
  obtain ⟨σ3, e3, x3⟩ := x_become (N := N) (σ0 := σ2) (h0 := h2) (h := h) hC hH hX
  obtain ⟨s4, σ4, e4, x4, b4⟩ := x_longest (N := N) (s := s) (by omega) hC hH x3 hS hO
  unfold f_X7_bestStart
  rw [e3, cl_s]
  dsimp only
  rw [e4, cl_s]
  dsimp only
  cases hb : bestR C S d 6 H with
  | nil => rw [if_pos (by decide)]; exact ⟨_, rfl⟩
  | cons a l =>
    have hl6 : (bestR C S d 6 H).length ≤ 6 := by
      have hT := hC.1
      rcases bestR_len (d := d) hC hO 6 H hH with z | z
      · rw [z]; simp
      · have : lim C S ≤ 6 := by unfold lim; omega
        omega
    rw [hb, List.length_cons] at hl6
    rw [hb] at b4
    rw [if_neg (nI_nle (by simp) (by simp; omega)), ck_t (by decide), b4.2 _ a rfl]
    exact ⟨_, rfl⟩
end
