/-! ===== pure layer F: the longest row, in the class ===== -/
theorem clr_t : ∀ b : Nat, b < 64 → ∀ t : Nat, t < 6 → b.testBit t = false → nI (b ||| 2 ^ t) &&& (((1 : Int32) <<< (nI t &&& 31)) ^^^ (-1)) = nI b := by
  have h : (List.range 64).all (fun b => (List.range 6).all (fun t => decide (b.testBit t = false → nI (b ||| 2 ^ t) &&& (((1 : Int32) <<< (nI t &&& 31)) ^^^ (-1)) = nI b))) = true := by decide +kernel
  intro b hb t ht
  exact of_decide_eq_true (List.all_eq_true.mp (List.all_eq_true.mp h b (List.mem_range.mpr hb)) t (List.mem_range.mpr ht))
theorem WfH.pop {C : Cr} {H : List Nat} {d t : Nat} (h : WfH C (H ++ [t]) d) : WfH C H d ∧ ¬ t ∈ H ∧ t < cT C := by
  have h1 := List.nodup_append.mp h.1
  exact ⟨⟨h1.1, fun u hu => h.2.1 u (List.mem_append.mpr (Or.inl hu)), h.2.2⟩, fun z => h1.2.2 t z t (List.mem_singleton.mpr rfl) rfl, h.2.1 t (List.mem_append.mpr (Or.inr (List.mem_singleton.mpr rfl)))⟩
theorem x_layDown {N : Nat} {σ : St} {C : Cr} {H : List Nat} {d t : Nat} (hC : Wf C) (hH : WfH C (H ++ [t]) d) (hX : XS σ C (H ++ [t]) d) : ∃ σ', f_X2_layDownNewest N σ = some (nI t, σ') ∧ XS σ' C H d := by
  have hT := hC.1
  obtain ⟨hH0, hn, ht⟩ := hH.pop
  have hl := hH0.lt ht hn
  obtain ⟨a0, a1, a2, a3, a4, a4', a6, a5, a7, a8⟩ := hX
  have e6 : σ 6 0 = nI (H.length + 1) := by rw [a6]; simp
  have hb : bs H < 64 := bs_lt (fun u hu => by have := hH0.2.1 u hu; omega)
  unfold f_X2_layDownNewest
  rw [e6, if_neg (nI_ne0 (by omega) (by omega)), nm_d, nI_pred, sI_s, ck_n (by omega) (by omega), nI_clamp (by omega), sI_n _ _ (show 5 ≠ 6 by decide), a5 H.length t (by simp), nm_d, nm_d]
  refine ⟨_, rfl, ⟨by simp [sI_n, a0], fun i hi => by simp [sI_n, a1 i hi], fun i hi => by simp [sI_n, a2 i hi], fun i hi => by simp [sI_n, a3 i hi], fun i hi => by simp [sI_n, a4 i hi], fun i hi hj => by simp [sI_n, a4' i hi hj], ?_, fun i u hu => ?_, ?_, by simp [sI_n, a8]⟩⟩
  · rw [sI_n _ _ (show 6 ≠ 7 by decide), sI_s]
  · rw [sI_n _ _ (show 5 ≠ 7 by decide), sI_n _ _ (show 5 ≠ 6 by decide)]
    exact a5 i u (by rw [List.getElem?_append_left (List.getElem?_eq_some_iff.mp hu).1]; exact hu)
  · rw [sI_s, sI_n _ _ (show 7 ≠ 6 by decide), a7, bs_app, clr_t _ hb t (by omega) (by rw [bs_bit]; simp [hn])]
/-- the longer of two rows; the first, if they are as long -/
def longer (a b : List Nat) : List Nat := if a.length < b.length then b else a
theorem longer_assoc (a b c : List Nat) : longer (longer a b) c = longer a (longer b c) := by
  unfold longer
  by_cases h1 : a.length < b.length <;> by_cases h2 : b.length < c.length <;> by_cases h3 : a.length < c.length <;> simp [h1, h2, h3] <;> omega
theorem longer_app (p a b : List Nat) : p ++ longer a b = longer (p ++ a) (p ++ b) := by
  unfold longer
  by_cases h : a.length < b.length <;> simp [h]
theorem longer_len (a b : List Nat) : (longer a b).length = max a.length b.length := by
  unfold longer
  by_cases h : a.length < b.length
  · rw [if_pos h]; omega
  · rw [if_neg h]; omega
theorem longer_le {a b : List Nat} (h : b.length ≤ a.length) : longer a b = a := by unfold longer; rw [if_neg (by omega)]
theorem longer_pre (a b r : List Nat) : longer (longer a b) (b ++ r) = longer a (b ++ r) := by
  rw [longer_assoc]
  congr 1
  unfold longer
  by_cases h : r = []
  · simp [h]
  · have : 0 < r.length := List.length_pos_iff.mpr h
    simp [this]
/-- one step over thing t -/
def bstep (C : Cr) (S : Sn) (d : Nat) (r : List Nat → List Nat) (H : List Nat) (acc : List Nat) (t : Nat) : List Nat := if goesS C S H d t = true then longer acc (t :: r (H ++ [t])) else acc
/-- the first of the longest rows from here on, f deep at most -/
def bestR (C : Cr) (S : Sn) (d : Nat) : Nat → List Nat → List Nat
  | 0, _ => []
  | f + 1, H => (List.range (cT C)).foldl (bstep C S d (bestR C S d f) H) []
/-- how long a row can be -/
def lim (C : Cr) (S : Sn) : Nat := min (cT C) S.2.2.toNatClampNeg
theorem goes_lim {C : Cr} {S : Sn} {H : List Nat} {d t : Nat} (hC : Wf C) (hO : SnOk S) (hH : WfH C H d) (ht : t < cT C) (h : goesS C S H d t = true) : H.length < lim C S := by
  have hT := hC.1
  obtain ⟨k, hk, h1, h2⟩ := hO.2
  have hg := goes_new h
  have hl := hH.lt ht hg.1
  unfold lim
  rw [hk, nI_clamp (by omega)]
  have : ¬ k ≤ H.length := fun z => hg.2 (by rw [hk]; exact (nI_leI (by omega) (by omega)).mpr z)
  omega
theorem bestR_len {C : Cr} {S : Sn} {d : Nat} (hC : Wf C) (hO : SnOk S) : ∀ (f : Nat) (H : List Nat), WfH C H d → bestR C S d f H = [] ∨ H.length + (bestR C S d f H).length ≤ lim C S := by
  intro f
  induction f with
  | zero => intro H _; exact Or.inl rfl
  | succ f ih =>
    intro H hH
    have key : ∀ (l : List Nat) (acc : List Nat), (∀ t ∈ l, t < cT C) → (acc = [] ∨ H.length + acc.length ≤ lim C S) → (l.foldl (bstep C S d (bestR C S d f) H) acc = [] ∨ H.length + (l.foldl (bstep C S d (bestR C S d f) H) acc).length ≤ lim C S) := by
      intro l
      induction l with
      | nil => intro acc _ h; exact h
      | cons t l ihl =>
        intro acc hl ha
        refine ihl _ (fun u hu => hl u (List.mem_cons_of_mem _ hu)) ?_
        unfold bstep
        by_cases hg : goesS C S H d t = true
        · rw [if_pos hg]
          unfold longer
          by_cases hlt : acc.length < (t :: bestR C S d f (H ++ [t])).length
          · rw [if_pos hlt]
            refine Or.inr ?_
            have ht := hl t List.mem_cons_self
            have hgl := goes_lim hC hO hH ht hg
            rcases ih (H ++ [t]) (hH.push ht (goes_new hg).1) with z | z
            · rw [z]; simp; omega
            · simp only [List.length_append, List.length_cons, List.length_nil] at z ⊢; omega
          · rw [if_neg hlt]; exact ha
        · rw [if_neg hg]; exact ha
    exact key _ [] (fun t ht => List.mem_range.mp ht) (Or.inl rfl)
/-- the search's best row, and the row that is tried -/
def XB (s : St) (acc : List Nat) : Prop := s 2 0 = nI acc.length ∧ ∀ i u : Nat, acc[i]? = some u → s 1 i = nI u
def XR (s : St) (row : List Nat) : Prop := ∀ i u : Nat, row[i]? = some u → s 0 i = nI u
theorem XR.pre {s : St} {row : List Nat} {t : Nat} (h : XR s (row ++ [t])) : XR s row := fun i u hu => h i u (by rw [List.getElem?_append_left (List.getElem?_eq_some_iff.mp hu).1]; exact hu)
theorem x_keep {N : Nat} {s : St} {acc row : List Nat} (hB : XB s acc) (hR : XR s row) (hr : row.length ≤ 6) (ha : acc.length ≤ 6) : ∃ s', f_X3_keepIfLonger N s (nI row.length) = some s' ∧ XB s' (longer acc row) ∧ s' 0 = s 0 ∧ s' 3 = s 3 := by
  unfold f_X3_keepIfLonger
  rw [hB.1]
  by_cases h : acc.length < row.length
  · rw [if_neg (nI_ge h (by omega)), if_neg (by rw [show (6 : Int32) = nI 6 from rfl, nI_ltI (by omega) (by omega)]; omega)]
    have c0 : (0 : Int32).toNatClampNeg = 0 := by decide
    unfold cpy
    rw [if_pos ⟨by decide, by decide, nI_pos (by omega), by rw [c0, nI_clamp (by omega)]; omega, by rw [c0, nI_clamp (by omega)]; omega⟩, nm_d, nm_d, c0, nI_clamp (by omega)]
    refine ⟨_, rfl, ⟨?_, fun i u hu => ?_⟩, ?_, ?_⟩
    · rw [sI_s]; unfold longer; rw [if_pos h]
    · rw [sI_n _ _ (show 1 ≠ 2 by decide), sA_s]
      unfold longer at hu; rw [if_pos h] at hu
      rw [pk_cpy_in (by omega) (by have := (List.getElem?_eq_some_iff.mp hu).1; omega)]
      rw [show 0 + (i - 0) = i by omega]
      exact hR i u hu
    · rw [sI_n _ _ (show 0 ≠ 2 by decide), sA_n _ _ (show 0 ≠ 1 by decide)]
    · rw [sI_n _ _ (show 3 ≠ 2 by decide), sA_n _ _ (show 3 ≠ 1 by decide)]
  · rw [if_pos (nI_le (by omega) (by omega))]
    exact ⟨s, rfl, by unfold longer; rw [if_neg h]; exact hB, rfl, rfl⟩
/-- extendRow: from the row pre on (H0 had before), f deep at most, the best so far acc -/
theorem x_extend {N : Nat} {L : List SR} {h : Option SR} {S : Sn} {C : Cr} {d : Nat} (hN : 1000 ≤ N) (hC : Wf C) (hS : XT L h S) (hO : SnOk S) (H0 : List Nat) (hl0 : H0.length ≤ lim C S) :
    ∀ (f D : Nat) (pre acc : List Nat) (s σ : St), pre.length + f = 6 → f < D → WfH C (H0 ++ pre) d → XS σ C (H0 ++ pre) d → XB s acc → XR s pre → pre.length ≤ acc.length → acc.length ≤ 6 →
      ∃ s' σ', f_X3_extendRow N D L s σ h (nI pre.length) (nI (lim C S - H0.length)) = some (s', σ') ∧ XS σ' C (H0 ++ pre) d ∧ XB s' (longer acc (pre ++ bestR C S d f (H0 ++ pre))) ∧ XR s' pre ∧ s' 3 = s 3 := by
  have hT := hC.1
  have hlim : lim C S ≤ 6 := by unfold lim; omega
  intro f
  induction f with
  | zero =>
    intro D pre acc s σ hp hD hH hX hB hR hpa ha
    obtain ⟨D, rfl⟩ : ∃ m, D = m + 1 := ⟨D - 1, by omega⟩
    rw [f_X3_extendRow, if_neg (by rw [show (6 : Int32) = nI 6 from rfl, nI_ltI (by omega) (by omega)]; omega)]
    refine ⟨s, σ, rfl, hX, ?_, hR, rfl⟩
    rw [show bestR C S d 0 (H0 ++ pre) = [] from rfl, List.append_nil, longer_le hpa]
    exact hB
  | succ f ih =>
    intro D pre acc s σ hp hD hH hX hB hR hpa ha
    obtain ⟨D, rfl⟩ : ∃ m, D = m + 1 := ⟨D - 1, by omega⟩
    rw [f_X3_extendRow, if_pos (by rw [show (6 : Int32) = nI 6 from rfl, nI_ltI (by omega) (by omega)]; omega)]
    -- the loop over the things
    have key : ∀ (j k n : Nat) (part : List Nat) (s2 σ2 : St), k + j = cT C → j < n → part = (List.range k).foldl (bstep C S d (bestR C S d f) (H0 ++ pre)) [] → XS σ2 C (H0 ++ pre) d → XB s2 (longer acc (pre ++ part)) → XR s2 pre → (longer acc (pre ++ part)).length ≤ 6 → s2 3 = s 3 →
        ∃ s' σ', l_X3_extendRow_10 (f_X3_extendRow N D L) N D L h (nI pre.length) (nI (lim C S - H0.length)) n s2 σ2 (nI k) = some (s', σ') ∧ XS σ' C (H0 ++ pre) d ∧ XB s' (longer acc (pre ++ bestR C S d (f + 1) (H0 ++ pre))) ∧ XR s' pre ∧ s' 3 = s 3 := by
      intro j
      induction j with
      | zero =>
        intro k n part s2 σ2 hk hn hpart hX2 hB2 hR2 h6 h3
        obtain ⟨n, rfl⟩ : ∃ m, n = m + 1 := ⟨n - 1, by omega⟩
        have : k = cT C := by omega
        subst this
        rw [l_X3_extendRow_10, hX2.1, if_pos (nI_le (Nat.le_refl _) (by omega))]
        refine ⟨s2, σ2, rfl, hX2, ?_, hR2, h3⟩
        rw [bestR, ← hpart]; exact hB2
      | succ j ihj =>
        intro k n part s2 σ2 hk hn hpart hX2 hB2 hR2 h6 h3
        obtain ⟨n, rfl⟩ : ∃ m, n = m + 1 := ⟨n - 1, by omega⟩
        rw [l_X3_extendRow_10, hX2.1, if_neg (nI_ge (by omega) (by omega)), hB2.1]
        have hall : ∀ r : List Nat, (r = [] ∨ (H0 ++ pre).length + r.length ≤ lim C S) → lim C S - H0.length ≤ (longer acc (pre ++ part)).length → longer (longer acc (pre ++ part)) (pre ++ r) = longer acc (pre ++ part) := by
          intro r hr hge
          refine longer_le ?_
          have hpl : pre.length ≤ (longer acc (pre ++ part)).length := by
            unfold longer
            by_cases z : acc.length < (pre ++ part).length
            · rw [if_pos z]; simp
            · rw [if_neg z]; exact hpa
          rcases hr with hr | hr
          · rw [hr, List.append_nil]; exact hpl
          · simp only [List.length_append] at hr ⊢; omega
        by_cases hge : lim C S - H0.length ≤ (longer acc (pre ++ part)).length
        · rw [if_pos (nI_le hge (by omega))]
          refine ⟨s2, σ2, rfl, hX2, ?_, hR2, h3⟩
          -- the rest of the fold changes nothing
          have rest : ∀ (l : List Nat) (p : List Nat), (∀ t ∈ l, t < cT C) → longer acc (pre ++ p) = longer acc (pre ++ part) → longer acc (pre ++ l.foldl (bstep C S d (bestR C S d f) (H0 ++ pre)) p) = longer acc (pre ++ part) := by
            intro l
            induction l with
            | nil => intro p _ e; exact e
            | cons t l ihl =>
              intro p hl e
              refine ihl _ (fun u hu => hl u (List.mem_cons_of_mem _ hu)) ?_
              unfold bstep
              by_cases hg : goesS C S (H0 ++ pre) d t = true
              · rw [if_pos hg, longer_app, ← longer_assoc, e]
                have ht := hl t List.mem_cons_self
                have hgl := goes_lim hC hO hH ht hg
                refine hall _ (Or.inr ?_) hge
                rcases bestR_len hC hO f ((H0 ++ pre) ++ [t]) (hH.push ht (goes_new hg).1) with z | z
                · rw [z]; simp only [List.length_cons, List.length_nil]; omega
                · simp only [List.length_append, List.length_cons, List.length_nil] at z hgl ⊢; omega
              · rw [if_neg hg]; exact e
          have hsplit : List.range (cT C) = List.range k ++ (List.range (cT C)).drop k := by
            conv => lhs; rw [← List.take_append_drop k (List.range (cT C))]
            rw [List.take_range]
            rw [Nat.min_eq_left (by omega)]
          rw [bestR, hsplit, List.foldl_append, ← hpart, rest _ part (fun t ht => List.mem_range.mp (List.mem_of_mem_drop ht)) rfl]
          exact hB2
        · rw [if_neg (nI_ge (by omega) (by omega))]
          obtain ⟨g, hg⟩ := x_goes (N := N) (t := k) hN hC hH hX2 (by omega) hS hO
          have hX3 := hX2.t10 g
          rw [hg, cl_s]
          have hnext : (List.range (k + 1)).foldl (bstep C S d (bestR C S d f) (H0 ++ pre)) [] = bstep C S d (bestR C S d f) (H0 ++ pre) part k := by rw [List.range_succ, List.foldl_append, ← hpart]; rfl
          cases hb : goesS C S (H0 ++ pre) d k
          · show ∃ s' σ', (if b2i false = 0 then _ else _) = some (s', σ') ∧ _
            rw [if_pos (show b2i false = 0 from rfl), nm_d, nI_1]
            have e : bstep C S d (bestR C S d f) (H0 ++ pre) part k = part := by unfold bstep; rw [if_neg (by rw [hb]; decide)]
            exact ihj (k + 1) n part s2 _ (by omega) (by omega) (by rw [hnext, e]) hX3 hB2 hR2 h6 h3
          · show ∃ s' σ', (if b2i true = 0 then _ else _) = some (s', σ') ∧ _
            have hgn := goes_new hb
            have hgl := goes_lim hC hO hH (show k < cT C by omega) hb
            have hHk := hH.push (show k < cT C by omega) hgn.1
            simp only [List.length_append] at hgl
            rw [if_neg (by decide), ck_n (by omega) (by omega), nm_d, nI_clamp (by omega)]
            -- tried[depth] = k
            have hR3 : XR (sA s2 0 (upd (s2 0) pre.length (nI k))) (pre ++ [k]) := by
              intro i u hu
              rw [sA_s]
              rcases get_app hu with ⟨hi, z⟩ | ⟨hi, z⟩
              · rw [upd_n (by omega)]; exact hR2 i u z
              · rw [hi, z, upd_s]
            have hB3 : XB (sA s2 0 (upd (s2 0) pre.length (nI k))) (longer acc (pre ++ part)) := ⟨by rw [sA_n _ _ (show 2 ≠ 0 by decide)]; exact hB2.1, fun i u hu => by rw [sA_n _ _ (show 1 ≠ 0 by decide)]; exact hB2.2 i u hu⟩
            obtain ⟨s4, e4, hB4, k0, k3⟩ := x_keep (N := N) hB3 hR3 (by simp; omega) h6
            have e4' : f_X3_keepIfLonger N (sA s2 0 (upd (s2 0) pre.length (nI k))) (nI pre.length + 1) = some s4 := by rw [nI_1]; simpa using e4
            rw [e4', cl_s]
            obtain ⟨σ5, e5, hX5⟩ := x_pickUp (N := N) hC hH hX3 (show k < cT C by omega) hgn.1
            rw [e5, cl_s]
            have hR4 : XR s4 (pre ++ [k]) := fun i u hu => by rw [k0]; exact hR3 i u hu
            have hap : H0 ++ pre ++ [k] = H0 ++ (pre ++ [k]) := List.append_assoc _ _ _
            rw [hap] at hX5 hHk
            have hlen4 : (longer (longer acc (pre ++ part)) (pre ++ [k])).length ≤ 6 := by
              simp only [longer_len, List.length_append, List.length_cons, List.length_nil] at h6 ⊢
              omega
            have hpl4 : (pre ++ [k]).length ≤ (longer (longer acc (pre ++ part)) (pre ++ [k])).length := by
              simp only [longer_len, List.length_append, List.length_cons, List.length_nil]
              omega
            obtain ⟨s6, σ6, e6, hX6, hB6, hR6, k6⟩ := ih D (pre ++ [k]) _ s4 σ5 (by simp; omega) (by omega) hHk hX5 hB4 hR4 hpl4 hlen4
            have e6' : f_X3_extendRow N D L s4 σ5 h (nI pre.length + 1) (nI (lim C S - H0.length)) = some (s6, σ6) := by rw [nI_1]; simpa using e6
            rw [e6', cl_s]
            rw [← hap] at hX6 hHk
            obtain ⟨σ7, e7, hX7⟩ := x_layDown (N := N) hC hHk hX6
            rw [e7, cl_s, nm_d, nI_1]
            have e8 : longer (longer (longer acc (pre ++ part)) (pre ++ [k])) ((pre ++ [k]) ++ bestR C S d f (H0 ++ (pre ++ [k]))) = longer acc (pre ++ bstep C S d (bestR C S d f) (H0 ++ pre) part k) := by
              rw [longer_pre]
              unfold bstep
              rw [if_pos hb, longer_app, ← longer_assoc, hap]
              simp
            refine ihj (k + 1) n (bstep C S d (bestR C S d f) (H0 ++ pre) part k) s6 σ7 (by omega) (by omega) hnext.symm hX7 (by rw [← e8]; exact hB6) hR6.pre ?_ ?_
            · rw [← e8]
              rcases bestR_len hC hO f (H0 ++ (pre ++ [k])) (by rw [← hap]; exact hHk) with z | z
              · rw [z]
                simp only [longer_len, List.length_append, List.length_cons, List.length_nil] at hlen4 ⊢
                omega
              · simp only [longer_len, List.length_append, List.length_cons, List.length_nil] at hlen4 z ⊢
                omega
            · rw [k6, k3, sA_n _ _ (show 3 ≠ 0 by decide), h3]
    have h00 : longer acc (pre ++ []) = acc := by rw [List.append_nil]; exact longer_le hpa
    exact key (cT C) 0 N [] s σ (by omega) (by omega) rfl hX (by rw [h00]; exact hB) hR (by rw [h00]; exact ha) rfl
