/-! ===== pure layer H: asked and put back; on, soon, when, pass ===== -/
theorem cpy_t {β : Type} {sp dp n : Int32} {n0 n1 : Nat} (h : ¬ sp < 0 ∧ ¬ dp < 0 ∧ ¬ n < 0 ∧ sp.toNatClampNeg + n.toNatClampNeg ≤ n0 ∧ dp.toNatClampNeg + n.toNatClampNeg ≤ n1) (k : Option β) : cpy sp dp n n0 n1 k = k := by unfold cpy; rw [if_pos h]
theorem f_isDays (N : Nat) (a : Int32) : f_X8_isDays N a = some (b2i (wn a 0 60)) := by unfold f_X8_isDays; rw [f_in, cl_s, cb_t (b2i_01 _)]
theorem f_isMany (N : Nat) (a : Int32) : f_X8_isMany N a = some (b2i (wn a 0 6)) := by unfold f_X8_isMany; rw [f_in, cl_s, cb_t (b2i_01 _)]
theorem f_isMarks (N : Nat) (a : Int32) : f_X8_isMarks N a = some (b2i (wn a 0 255)) := by unfold f_X8_isMarks; rw [f_in, cl_s, cb_t (b2i_01 _)]
/-- what the reference may write while it is only asked -/
def scr (k : Nat) : Bool := [0, 1, 2, 3, 4, 5, 6, 7, 25, 26, 27, 28, 29, 30].contains k
def frR (μ μ' : St) : Prop := ∀ k, scr k = false → μ' k = μ k
theorem scr_ne {k j : Nat} (h : scr k = false) (hj : scr j = true) : k ≠ j := by rintro rfl; rw [h] at hj; cases hj
theorem frR.rf (μ : St) : frR μ μ := fun _ _ => rfl
theorem frR.tr {a b c : St} (h1 : frR a b) (h2 : frR b c) : frR a c := fun k hk => (h2 k hk).trans (h1 k hk)
theorem scr_st {k : Nat} (h : k = 9 ∨ (14 ≤ k ∧ k ≤ 19)) : scr k = false := by
  rcases (show k = 9 ∨ k = 14 ∨ k = 15 ∨ k = 16 ∨ k = 17 ∨ k = 18 ∨ k = 19 by omega) with rfl | rfl | rfl | rfl | rfl | rfl | rfl <;> rfl
theorem frR.mt {μ μ' : St} {S : Sn} (h : MT μ S) (hf : frR μ μ') : MT μ' S := h.mono (fun k hk => hf k (scr_st hk))
theorem frM.r {μ μ' : St} (h : frM μ μ') : frR μ μ' := fun k hk => h k (scr_ne hk rfl) (scr_ne hk rfl) (scr_ne hk rfl) (scr_ne hk rfl) (scr_ne hk rfl)
theorem fr25 {μ : St} (g : Nat → Int32) : frR μ (sA μ 25 g) := fun k hk => sA_n _ _ (scr_ne hk rfl)
theorem fr4 {μ μ' : St} (h : ∀ k, k ≠ 1 → k ≠ 2 → k ≠ 7 → k ≠ 25 → μ' k = μ k) : frR μ μ' := fun k hk => h k (scr_ne hk rfl) (scr_ne hk rfl) (scr_ne hk rfl) (scr_ne hk rfl)
theorem fr3 {μ μ' : St} (h : ∀ k, k ≠ 1 → k ≠ 2 → k ≠ 7 → μ' k = μ k) : frR μ μ' := fun k hk => h k (scr_ne hk rfl) (scr_ne hk rfl) (scr_ne hk rfl)
theorem fr2 {μ μ' : St} (h : ∀ k, k ≠ 1 → k ≠ 7 → μ' k = μ k) : frR μ μ' := fun k hk => h k (scr_ne hk rfl) (scr_ne hk rfl)
theorem frK {μ μ' : St} (h : ∀ k, k ≠ 26 → k ≠ 27 → k ≠ 28 → μ' k = μ k) : frR μ μ' := fun k hk => h k (scr_ne hk rfl) (scr_ne hk rfl) (scr_ne hk rfl)
/-- what is had and the day, kept -/
def KS (μ : St) (H : List Nat) (d : Nat) : Prop := μ 26 0 = nI H.length ∧ μ 27 0 = nI d ∧ ∀ i t : Nat, H[i]? = some t → μ 28 i = nI t
theorem KS.mono {μ μ' : St} {H : List Nat} {d : Nat} (h : KS μ H d) (hf : ∀ k, k = 26 ∨ k = 27 ∨ k = 28 → μ' k = μ k) : KS μ' H d := by
  unfold KS at h ⊢
  rw [hf 26 (by omega), hf 27 (by omega), hf 28 (by omega)]; exact h
theorem l_save (N : Nat) : ∀ (j i n : Nat) (μ : St), i + j = 6 → j < n → (∀ x, x < i → μ 28 x = μ 7 x) → ∃ μ', l_X8_save_18 N n μ (nI i) = some μ' ∧ (∀ x, x < 6 → μ' 28 x = μ 7 x) ∧ ∀ k, k ≠ 28 → μ' k = μ k := by
  intro j
  induction j with
  | zero =>
    intro i n μ hi hn h
    obtain ⟨n, rfl⟩ : ∃ m, n = m + 1 := ⟨n - 1, by omega⟩
    obtain rfl : i = 6 := by omega
    rw [l_X8_save_18, if_pos (show (6 : Int32) ≤ nI 6 from by decide)]
    exact ⟨μ, rfl, h, fun _ _ => rfl⟩
  | succ j ih =>
    intro i n μ hi hn h
    obtain ⟨n, rfl⟩ : ∃ m, n = m + 1 := ⟨n - 1, by omega⟩
    rw [l_X8_save_18, if_neg (show ¬ (6 : Int32) ≤ nI i from nI_ge (b := 6) (by omega) (by omega)), ck_n (by omega) (by omega), ck_n (by omega) (by omega), nm_d, nm_d, nI_1, nI_clamp (by omega)]
    obtain ⟨μ', e, h1, h2⟩ := ih (i + 1) n (sA μ 28 (upd (μ 28) i (μ 7 i))) (by omega) (by omega) (fun x hx => by
      rw [sA_s, sA_n _ _ (show 7 ≠ 28 by decide)]
      by_cases hxi : x = i
      · rw [hxi, upd_s]
      · rw [upd_n hxi]; exact h x (by omega))
    exact ⟨μ', e, fun x hx => by rw [h1 x hx, sA_n _ _ (show 7 ≠ 28 by decide)], fun k hk => by rw [h2 k hk, sA_n _ _ hk]⟩
theorem l_back (N : Nat) : ∀ (j i n : Nat) (μ : St), i + j = 6 → j < n → (∀ x, x < i → μ 7 x = μ 28 x) → ∃ μ', l_X8_putBack_18 N n μ (nI i) = some μ' ∧ (∀ x, x < 6 → μ' 7 x = μ 28 x) ∧ ∀ k, k ≠ 7 → μ' k = μ k := by
  intro j
  induction j with
  | zero =>
    intro i n μ hi hn h
    obtain ⟨n, rfl⟩ : ∃ m, n = m + 1 := ⟨n - 1, by omega⟩
    obtain rfl : i = 6 := by omega
    rw [l_X8_putBack_18, if_pos (show (6 : Int32) ≤ nI 6 from by decide)]
    exact ⟨μ, rfl, h, fun _ _ => rfl⟩
  | succ j ih =>
    intro i n μ hi hn h
    obtain ⟨n, rfl⟩ : ∃ m, n = m + 1 := ⟨n - 1, by omega⟩
    rw [l_X8_putBack_18, if_neg (show ¬ (6 : Int32) ≤ nI i from nI_ge (b := 6) (by omega) (by omega)), ck_n (by omega) (by omega), ck_n (by omega) (by omega), nm_d, nm_d, nI_1, nI_clamp (by omega)]
    obtain ⟨μ', e, h1, h2⟩ := ih (i + 1) n (sA μ 7 (upd (μ 7) i (μ 28 i))) (by omega) (by omega) (fun x hx => by
      rw [sA_s, sA_n _ _ (show 28 ≠ 7 by decide)]
      by_cases hxi : x = i
      · rw [hxi, upd_s]
      · rw [upd_n hxi]; exact h x (by omega))
    exact ⟨μ', e, fun x hx => by rw [h1 x hx, sA_n _ _ (show 28 ≠ 7 by decide)], fun k hk => by rw [h2 k hk, sA_n _ _ hk]⟩
section
variable {N : Nat} {L : List SR} {h h2 : Option SR} {σ σ2 μ : St} {C : Cr} {S : Sn} {H : List Nat} {d : Nat}
theorem get_lt {H : List Nat} {i t : Nat} (h : H[i]? = some t) : i < H.length := (List.getElem?_eq_some_iff.mp h).1
theorem m_save (hN : 1000 ≤ N) (hC : Wf C) (hH : WfH C H d) (hM : MS μ C H d) : ∃ μ', f_X8_save N μ = some μ' ∧ KS μ' H d ∧ MS μ' C H d ∧ ∀ k, k ≠ 26 → k ≠ 27 → k ≠ 28 → μ' k = μ k := by
  have h6 := len6 hC hH
  unfold f_X8_save
  rw [nm_d, nm_d]
  obtain ⟨μ', e, h1, h2⟩ := l_save N 6 0 N (sI (sI μ 26 (μ 1 0)) 27 (sI μ 26 (μ 1 0) 2 0)) (by omega) (by omega) (fun x hx => by omega)
  have fr : ∀ k, k ≠ 26 → k ≠ 27 → k ≠ 28 → μ' k = μ k := fun k a b c => by rw [h2 k c, sI_n _ _ b, sI_n _ _ a]
  refine ⟨μ', e, ⟨?_, ?_, fun i t hi => ?_⟩, hM.other (fun k hk => fr k (by omega) (by omega) (by omega)), fr⟩
  · rw [h2 26 (by decide), sI_n _ _ (show 26 ≠ 27 by decide), sI_s, hM.2.2.2.2.2.1]
  · rw [h2 27 (by decide), sI_s, sI_n _ _ (show 2 ≠ 26 by decide), hM.2.2.2.2.2.2.2]
  · have := get_lt hi
    rw [h1 i (by omega), sI_n _ _ (show 7 ≠ 27 by decide), sI_n _ _ (show 7 ≠ 26 by decide)]
    exact hM.2.2.2.2.2.2.1 i t hi
theorem m_back {H' : List Nat} {d' : Nat} (hN : 1000 ≤ N) (hC : Wf C) (hH : WfH C H d) (hK : KS μ H d) (hM : MS μ C H' d') : ∃ μ', f_X8_putBack N μ = some μ' ∧ MS μ' C H d ∧ ∀ k, k ≠ 1 → k ≠ 2 → k ≠ 7 → μ' k = μ k := by
  have h6 := len6 hC hH
  unfold f_X8_putBack
  rw [nm_d, nm_d]
  obtain ⟨μ', e, h1, h2⟩ := l_back N 6 0 N (sI (sI μ 1 (μ 26 0)) 2 (sI μ 1 (μ 26 0) 27 0)) (by omega) (by omega) (fun x hx => by omega)
  have fr : ∀ k, k ≠ 1 → k ≠ 2 → k ≠ 7 → μ' k = μ k := fun k a b c => by rw [h2 k c, sI_n _ _ b, sI_n _ _ a]
  obtain ⟨a0, a1, a2, a3, a4, a6, a5, a8⟩ := hM
  refine ⟨μ', e, ⟨?_, fun i hi => ?_, fun i hi => ?_, fun i hi => ?_, fun i hi => ?_, ?_, fun i t hi => ?_, ?_⟩, fr⟩
  · rw [fr 0 (by decide) (by decide) (by decide)]; exact a0
  · rw [fr 3 (by decide) (by decide) (by decide)]; exact a1 i hi
  · rw [fr 4 (by decide) (by decide) (by decide)]; exact a2 i hi
  · rw [fr 5 (by decide) (by decide) (by decide)]; exact a3 i hi
  · rw [fr 6 (by decide) (by decide) (by decide)]; exact a4 i hi
  · rw [h2 1 (by decide), sI_n _ _ (show 1 ≠ 2 by decide), sI_s, hK.1]
  · have := get_lt hi
    rw [h1 i (by omega), sI_n _ _ (show 28 ≠ 2 by decide), sI_n _ _ (show 28 ≠ 1 by decide)]
    exact hK.2.2 i t hi
  · rw [h2 2 (by decide), sI_s, sI_n _ _ (show 27 ≠ 1 by decide), hK.2.1]
theorem c6 {α : Type} {f g : Nat → α} {n i : Nat} (h : i < n) : va_cpy f g 0 0 n i = f i := by
  rw [pk_cpy_in (by omega) (by omega)]; congr 1; omega
/-- becomeAs -/
theorem x_become {σ0 : St} {h0 : Option SR} (hC : Wf C) (hH : WfH C H d) (hX : XS σ C H d) : ∃ σ', f_X2_becomeAs N σ0 h0 σ h = some (σ', h) ∧ XS σ' C H d := by
  have h6 := len6 hC hH
  have hT := hC.1
  have k0 : (0 : Int32).toNatClampNeg = 0 := by decide
  have k6 : (6 : Int32).toNatClampNeg = 6 := by decide
  have k24 : (24 : Int32).toNatClampNeg = 24 := by decide
  unfold f_X2_becomeAs
  rw [nm_d, cpy_t (by decide), nm_d, cpy_t (by decide), nm_d, cpy_t (by decide), nm_d, cpy_t (by decide), nm_d, cpy_t (by decide), nm_d, nm_d, nm_d, nm_d, nm_d, k0, k6, k24]
  refine ⟨_, rfl, ?_⟩
  obtain ⟨a0, a1, a2, a3, a4, a4', a6, a5, a7, a8⟩ := hX
  refine ⟨by simp [sI_n, sA_n, sI_s, a0], fun i hi => ?_, fun i hi => ?_, fun i hi => ?_, fun i hi => ?_, fun i hi hj => ?_, by simp [sI_n, sA_n, sI_s, a6], fun i u hu => ?_, by simp [sI_n, sA_n, sI_s, a7], by simp [sI_n, sA_n, sI_s, a8]⟩
  · simp only [sI_n _ _ (show 1 ≠ 8 by decide), sI_n _ _ (show 1 ≠ 7 by decide), sI_n _ _ (show 1 ≠ 6 by decide), sA_n _ _ (show 1 ≠ 5 by decide), sA_n _ _ (show 1 ≠ 4 by decide), sA_n _ _ (show 1 ≠ 3 by decide), sA_n _ _ (show 1 ≠ 2 by decide), sA_s]
    rw [c6 (by omega)]; exact a1 i hi
  · simp only [sI_n _ _ (show 2 ≠ 8 by decide), sI_n _ _ (show 2 ≠ 7 by decide), sI_n _ _ (show 2 ≠ 6 by decide), sA_n _ _ (show 2 ≠ 5 by decide), sA_n _ _ (show 2 ≠ 4 by decide), sA_n _ _ (show 2 ≠ 3 by decide), sA_s]
    rw [c6 (by omega)]; exact a2 i hi
  · simp only [sI_n _ _ (show 3 ≠ 8 by decide), sI_n _ _ (show 3 ≠ 7 by decide), sI_n _ _ (show 3 ≠ 6 by decide), sA_n _ _ (show 3 ≠ 5 by decide), sA_n _ _ (show 3 ≠ 4 by decide), sA_s]
    rw [c6 (by omega)]; exact a3 i hi
  · simp only [sI_n _ _ (show 4 ≠ 8 by decide), sI_n _ _ (show 4 ≠ 7 by decide), sI_n _ _ (show 4 ≠ 6 by decide), sA_n _ _ (show 4 ≠ 5 by decide), sA_s]
    rw [c6 (by omega)]; exact a4 i hi
  · simp only [sI_n _ _ (show 4 ≠ 8 by decide), sI_n _ _ (show 4 ≠ 7 by decide), sI_n _ _ (show 4 ≠ 6 by decide), sA_n _ _ (show 4 ≠ 5 by decide), sA_s]
    rw [c6 (by omega)]; exact a4' i hi hj
  · have := get_lt hu
    simp only [sI_n _ _ (show 5 ≠ 8 by decide), sI_n _ _ (show 5 ≠ 7 by decide), sI_n _ _ (show 5 ≠ 6 by decide), sA_s]
    rw [c6 (by omega)]; exact a5 i u hu
/-- all that stands between calls, of the game itself -/
def GI (L : List SR) (h : Option SR) (σ μ : St) (C : Cr) (S : Sn) (H : List Nat) (d : Nat) : Prop := Wf C ∧ WfH C H d ∧ XS σ C H d ∧ MS μ C H d ∧ XT L h S ∧ MT μ S ∧ SnOk S ∧ d ≤ 9999
/-- only asked: the class's answer, and the reference's, that leaves all as it was -/
def Asked {α β : Type} (μ : St) (C : Cr) (H : List Nat) (d : Nat) (o : Option (α × β)) (r : Option (α × St)) : Prop := ∃ a, (∃ z, o = some (a, z)) ∧ ∃ μ', r = some (a, μ') ∧ frR μ μ' ∧ MS μ' C H d
theorem op_on (hN : 1000 ≤ N) (hG : GI L h σ μ C S H d) (p1 p2 : Int32) : Asked μ C H d (f_X7_on N L σ h σ2 h2 p1 p2) (f_X8_on N μ p1 p2) := by
  obtain ⟨hC, hH, hX, hM, hS, hR, hO, hd⟩ := hG
  unfold f_X7_on f_X8_on
  rw [f_within, cl_s, f_in, cl_s]
  cases hw : wn p2 0 1
  · rw [i0, i0]; exact ⟨_, ⟨_, rfl⟩, μ, rfl, frR.rf μ, hM⟩
  rw [i1, i1, f_within, cl_s, f_isDays, cl_s]
  cases hw1 : wn p1 0 60
  · rw [i0, i0]; exact ⟨_, ⟨_, rfl⟩, μ, rfl, frR.rf μ, hM⟩
  obtain ⟨n, hn, rfl⟩ := wn_nat (n := 60) (by omega) hw1
  rw [i1, i1]
  obtain ⟨σ3, e3, x3⟩ := x_become (N := N) (σ0 := σ2) (h0 := h2) (h := h) hC hH hX
  obtain ⟨σ4, e4, x4⟩ := x_daysGo (n := n) hN hC hH x3 hS hO (by omega) (by have := hH.2.2; omega)
  obtain ⟨μ3, f3, k3, m3, r3⟩ := m_save hN hC hH hM
  obtain ⟨μ4, f4, m4, r4⟩ := m_goDays (n := n) hN hC hH m3 (frR.mt hR (frK r3)) (by omega) (by omega)
  obtain ⟨μ5, f5, m5, r5⟩ := m_back hN hC hH (k3.mono (fun k hk => r4 k (by omega) (by omega) (by omega) (by omega))) m4
  have hr : frR μ μ5 := ((frK r3).tr (fr4 r4)).tr (fr3 r5)
  have hH4 := dH_wf (C := C) (S := S) hH n (by omega)
  rw [e3, cl_s, f3, cl_s, f4, cl_s]
  dsimp only
  rw [e4, cl_s]
  by_cases h0 : p2 = 0
  · rw [if_pos h0, if_pos h0, m_hadSet hN hC hH4 m4, cl_s, f5, cl_s]
    exact ⟨_, ⟨_, by rw [x4.2.2.2.2.2.2.2.2.1]⟩, μ5, rfl, hr, m5⟩
  · rw [if_neg h0, if_neg h0, nm_d, f5, cl_s]
    exact ⟨_, ⟨_, by rw [x4.2.2.2.2.2.2.1]⟩, μ5, by rw [m4.2.2.2.2.2.1], hr, m5⟩
/-- the first k from k0 on, of n, at which it is so -/
def ffind (p : Nat → Bool) : Nat → Nat → Option Nat
  | 0, _ => none
  | n + 1, k => if p k = true then some k else ffind p n (k + 1)
def fans (o : Option Nat) : Int32 := match o with
  | none => -5
  | some k => nI k
theorem l_x_soon {q : Int32} (hN : 1000 ≤ N) (hC : Wf C) (hH : WfH C H d) (hS : XT L h S) (hO : SnOk S) (hd : d ≤ 9999) : ∀ (j k n : Nat) (σ2 : St), k + j = 61 → j < n → XS σ2 C (dH C S H d k) (d + k) → ∃ z, l_X7_soon_26 N L σ h q n σ2 h (nI k) = some (fans (ffind (fun k => decide (q ≤ nI (dH C S H d k).length)) j k), z) := by
  intro j
  induction j with
  | zero =>
    intro k n σ2 hk hn hX
    obtain ⟨n, rfl⟩ : ∃ m, n = m + 1 := ⟨n - 1, by omega⟩
    obtain rfl : k = 61 := by omega
    rw [l_X7_soon_26, if_pos (show (60 : Int32) < nI 61 from by decide)]
    exact ⟨_, rfl⟩
  | succ j ih =>
    intro k n σ2 hk hn hX
    obtain ⟨n, rfl⟩ : ∃ m, n = m + 1 := ⟨n - 1, by omega⟩
    rw [l_X7_soon_26, if_neg (show ¬ (60 : Int32) < nI k from nI_nlt (a := 60) (by omega) (by omega)), hX.2.2.2.2.2.2.1, ffind]
    by_cases hq : nI (dH C S H d k).length < q
    · obtain ⟨σ3, e3, x3⟩ := x_dayGoes hN hC (dH_wf hH k (by omega)) hX hS hO
      rw [if_pos hq, if_neg (by rw [decide_eq_true_eq, ← i32_nlt]; exact fun z => z hq), e3, cl_s, nm_d, nI_1]
      exact ih (k + 1) n σ3 (by omega) (by omega) x3
    · rw [if_neg hq, if_pos (by rw [decide_eq_true_eq, ← i32_nlt]; exact hq)]
      exact ⟨_, rfl⟩
theorem l_m_soon {q : Int32} {H0 : List Nat} {d0 : Nat} (hN : 1000 ≤ N) (hC : Wf C) (hH0 : WfH C H0 d0) (hH : WfH C H d) (hR : MT μ S) (hd : d ≤ 9999) : ∀ (j k n : Nat) (ν : St), k + j = 61 → j < n → MS ν C (dH C S H d k) (d + k) → KS ν H0 d0 → frR μ ν → ∃ μ', l_X8_soon_17 N q n ν (nI k) = some (fans (ffind (fun k => decide (q ≤ nI (dH C S H d k).length)) j k), μ') ∧ frR μ μ' ∧ MS μ' C H0 d0 := by
  intro j
  induction j with
  | zero =>
    intro k n ν hk hn hM hK hf
    obtain ⟨n, rfl⟩ : ∃ m, n = m + 1 := ⟨n - 1, by omega⟩
    obtain rfl : k = 61 := by omega
    obtain ⟨μ5, f5, m5, r5⟩ := m_back hN hC hH0 hK hM
    rw [l_X8_soon_17, if_pos (show (61 : Int32) ≤ nI 61 from by decide), f5, cl_s, if_pos (show (61 : Int32) ≤ nI 61 from by decide)]
    exact ⟨_, rfl, hf.tr (fr3 r5), m5⟩
  | succ j ih =>
    intro k n ν hk hn hM hK hf
    obtain ⟨n, rfl⟩ : ∃ m, n = m + 1 := ⟨n - 1, by omega⟩
    have h61 : ¬ (61 : Int32) ≤ nI k := nI_ge (b := 61) (by omega) (by omega)
    rw [l_X8_soon_17, if_neg h61, hM.2.2.2.2.2.1, ffind]
    by_cases hq : q ≤ nI (dH C S H d k).length
    · obtain ⟨μ5, f5, m5, r5⟩ := m_back hN hC hH0 hK hM
      rw [if_pos hq, if_pos (by rw [decide_eq_true_eq]; exact hq), f5, cl_s, if_neg h61]
      exact ⟨_, rfl, hf.tr (fr3 r5), m5⟩
    · obtain ⟨ν3, e3, x3, r3⟩ := m_goDay hN hC (dH_wf hH k (by omega)) hM (frR.mt hR hf)
      rw [if_neg hq, if_neg (by rw [decide_eq_true_eq]; exact hq), e3, cl_s, nm_d, nI_1]
      exact ih (k + 1) n ν3 (by omega) (by omega) x3 (hK.mono (fun k hk => r3 k (by omega) (by omega) (by omega) (by omega))) (hf.tr (fr4 r3))
theorem op_soon (hN : 1000 ≤ N) (hG : GI L h σ μ C S H d) (p1 : Int32) : Asked μ C H d (f_X7_soon N L σ h σ2 h2 p1) (f_X8_soon N μ p1) := by
  obtain ⟨hC, hH, hX, hM, hS, hR, hO, hd⟩ := hG
  unfold f_X7_soon f_X8_soon
  rw [f_within, cl_s, f_isMany, cl_s]
  cases hw : wn p1 0 6
  · rw [i0, i0]; exact ⟨_, ⟨_, rfl⟩, μ, rfl, frR.rf μ, hM⟩
  obtain ⟨σ3, e3, x3⟩ := x_become (N := N) (σ0 := σ2) (h0 := h2) (h := h) hC hH hX
  obtain ⟨μ3, f3, k3, m3, r3⟩ := m_save hN hC hH hM
  rw [i1, i1, e3, cl_s, f3, cl_s]
  obtain ⟨z, hz⟩ := l_x_soon (σ := σ) (q := p1) hN hC hH hS hO hd 61 0 N σ3 (by omega) (by omega) x3
  obtain ⟨μ4, f4, r4, m4⟩ := l_m_soon (q := p1) hN hC hH hH hR hd 61 0 N μ3 (by omega) (by omega) m3 k3 (frK r3)
  exact ⟨_, ⟨z, hz⟩, μ4, f4, r4, m4⟩
theorem l_x_when {t : Nat} (hN : 1000 ≤ N) (hC : Wf C) (hH : WfH C H d) (hS : XT L h S) (hO : SnOk S) (hd : d ≤ 9999) (ht : t < cT C) : ∀ (j k n : Nat) (σ2 : St), k + j = 61 → j < n → XS σ2 C (dH C S H d k) (d + k) → ∃ z, l_X7_when_26 N L σ h (nI t) n σ2 h (nI k) = some (fans (ffind (fun k => decide (t ∈ dH C S H d k)) j k), z) := by
  intro j
  induction j with
  | zero =>
    intro k n σ2 hk hn hX
    obtain ⟨n, rfl⟩ : ∃ m, n = m + 1 := ⟨n - 1, by omega⟩
    obtain rfl : k = 61 := by omega
    rw [l_X7_when_26, if_pos (show (60 : Int32) < nI 61 from by decide)]
    exact ⟨_, rfl⟩
  | succ j ih =>
    intro k n σ2 hk hn hX
    obtain ⟨n, rfl⟩ : ∃ m, n = m + 1 := ⟨n - 1, by omega⟩
    have hHk := dH_wf (C := C) (S := S) hH k (by omega)
    rw [l_X7_when_26, if_neg (show ¬ (60 : Int32) < nI k from nI_nlt (a := 60) (by omega) (by omega)), x_isHad hC hHk hX ht, cl_s, ffind]
    cases hq : decide (t ∈ dH C S H d k)
    · obtain ⟨σ3, e3, x3⟩ := x_dayGoes hN hC hHk hX hS hO
      rw [i0, if_neg (by simp), e3, cl_s, nm_d, nI_1]
      exact ih (k + 1) n σ3 (by omega) (by omega) x3
    · rw [i1, if_pos rfl]
      exact ⟨_, rfl⟩
theorem l_m_when {t : Nat} {H0 : List Nat} {d0 : Nat} (hN : 1000 ≤ N) (hC : Wf C) (hH0 : WfH C H0 d0) (hH : WfH C H d) (hR : MT μ S) (hd : d ≤ 9999) (ht : t < cT C) : ∀ (j k n : Nat) (ν : St), k + j = 61 → j < n → MS ν C (dH C S H d k) (d + k) → KS ν H0 d0 → frR μ ν → ∃ μ', l_X8_when_16 N (nI t) n ν (nI k) = some (fans (ffind (fun k => decide (t ∈ dH C S H d k)) j k), μ') ∧ frR μ μ' ∧ MS μ' C H0 d0 := by
  intro j
  induction j with
  | zero =>
    intro k n ν hk hn hM hK hf
    obtain ⟨n, rfl⟩ : ∃ m, n = m + 1 := ⟨n - 1, by omega⟩
    obtain rfl : k = 61 := by omega
    obtain ⟨μ5, f5, m5, r5⟩ := m_back hN hC hH0 hK hM
    rw [l_X8_when_16, if_pos (show (61 : Int32) ≤ nI 61 from by decide), f5, cl_s, if_pos (show (61 : Int32) ≤ nI 61 from by decide)]
    exact ⟨_, rfl, hf.tr (fr3 r5), m5⟩
  | succ j ih =>
    intro k n ν hk hn hM hK hf
    obtain ⟨n, rfl⟩ : ∃ m, n = m + 1 := ⟨n - 1, by omega⟩
    have hHk := dH_wf (C := C) (S := S) hH k (by omega)
    have h61 : ¬ (61 : Int32) ≤ nI k := nI_ge (b := 61) (by omega) (by omega)
    rw [l_X8_when_16, if_neg h61, m_isHad hN hC hHk hM ht, cl_s, ffind]
    cases hq : decide (t ∈ dH C S H d k)
    · obtain ⟨ν3, e3, x3, r3⟩ := m_goDay hN hC hHk hM (frR.mt hR hf)
      rw [i0, if_neg (by simp), e3, cl_s, nm_d, nI_1]
      exact ih (k + 1) n ν3 (by omega) (by omega) x3 (hK.mono (fun k hk => r3 k (by omega) (by omega) (by omega) (by omega))) (hf.tr (fr4 r3))
    · obtain ⟨μ5, f5, m5, r5⟩ := m_back hN hC hH0 hK hM
      rw [i1, if_pos rfl, f5, cl_s, if_neg h61]
      exact ⟨_, rfl, hf.tr (fr3 r5), m5⟩
/-- which thing a call names: none, or t -/
theorem two_things (hC : Wf C) (hX : XS σ C H d) (hM : MS μ C H d) (p : Int32) : (f_X2_hasThing N σ p = some (b2i false) ∧ f_X8_isThing N μ p = some (b2i false)) ∨ (f_X2_hasThing N σ p = some (b2i true) ∧ f_X8_isThing N μ p = some (b2i true) ∧ ∃ t, t < cT C ∧ p = nI t) := by
  rcases x_hasThing (N := N) hC hX p with ⟨a, b⟩ | ⟨a, b⟩
  · rcases m_isThing (N := N) hC hM p with ⟨c, e⟩ | ⟨c, e⟩
    · exact Or.inl ⟨a, c⟩
    · exact absurd e b
  · rcases m_isThing (N := N) hC hM p with ⟨c, e⟩ | ⟨c, e⟩
    · exact absurd b e
    · exact Or.inr ⟨a, c, b⟩
theorem op_when (hN : 1000 ≤ N) (hG : GI L h σ μ C S H d) (p1 : Int32) : Asked μ C H d (f_X7_when N L σ h σ2 h2 p1) (f_X8_when N μ p1) := by
  obtain ⟨hC, hH, hX, hM, hS, hR, hO, hd⟩ := hG
  unfold f_X7_when f_X8_when
  rcases two_things (N := N) hC hX hM p1 with ⟨a, b⟩ | ⟨a, b, t, ht, rfl⟩
  · rw [a, b, cl_s, cl_s, i0, i0]; exact ⟨_, ⟨_, rfl⟩, μ, rfl, frR.rf μ, hM⟩
  obtain ⟨σ3, e3, x3⟩ := x_become (N := N) (σ0 := σ2) (h0 := h2) (h := h) hC hH hX
  obtain ⟨μ3, f3, k3, m3, r3⟩ := m_save hN hC hH hM
  rw [a, b, cl_s, cl_s, i1, i1, e3, cl_s, f3, cl_s]
  obtain ⟨z, hz⟩ := l_x_when (σ := σ) hN hC hH hS hO hd ht 61 0 N σ3 (by omega) (by omega) x3
  obtain ⟨μ4, f4, r4, m4⟩ := l_m_when hN hC hH hH hR hd ht 61 0 N μ3 (by omega) (by omega) m3 k3 (frK r3)
  exact ⟨_, ⟨z, hz⟩, μ4, f4, r4, m4⟩
end
