/-! ===== pure layer QH: what the reference's street means ===== -/
theorem Dt.same {μ μ' : St} {f : Nat} {cs : List Cz} (h : Dt μ f cs) (hs : ∀ k, 14 ≤ k → k ≤ 19 → μ' k = μ k) : Dt μ' f cs := by
  unfold Dt at h ⊢
  rw [hs 14 (by omega) (by omega), hs 15 (by omega) (by omega), hs 16 (by omega) (by omega), hs 17 (by omega) (by omega), hs 18 (by omega) (by omega), hs 19 (by omega) (by omega)]
  exact h
theorem Dt.t25 {μ : St} {f : Nat} {cs : List Cz} (h : Dt μ f cs) (g : Nat → Int32) : Dt (sA μ 25 g) f cs := h.same (fun k _ _ => sA_n _ _ (by omega))
def lastF (w : Nat) (l : List Cz) (v : Nat) : Nat := l.foldl (fun a z => if z.1 = w then z.2.1 else a) v
theorem lastF_cons (w : Nat) (z : Cz) (l : List Cz) (v : Nat) : lastF w (z :: l) v = lastF w l (if z.1 = w then z.2.1 else v) := by unfold lastF; rw [List.foldl_cons]
theorem lastF_need (cs : List Cz) : lastF 2 cs 1 = needF cs := by unfold lastF needF; rfl
theorem lastF_99 {w : Nat} : ∀ (l : List Cz) (v : Nat), (∀ z ∈ l, GC z) → v ≤ 99 → lastF w l v ≤ 99 := by
  intro l
  induction l with
  | nil => intro v _ h; exact h
  | cons z l ih =>
    intro v hz h
    rw [lastF_cons]
    have := (hz z List.mem_cons_self).2.1
    exact ih _ (fun y hy => hz y (List.mem_cons_of_mem _ hy)) (by split <;> omega)
theorem lastF_hold (cs : List Cz) : holdF cs = max 1 (lastF 3 cs 6) := by
  have key : ∀ (l : List Cz) (v : Nat), l.foldl (fun a z => if z.1 = 3 then max 1 z.2.1 else a) (max 1 v) = max 1 (lastF 3 l v) := by
    intro l
    induction l with
    | nil => intro v; rfl
    | cons z l ih =>
      intro v
      rw [lastF_cons, List.foldl_cons]
      by_cases h : z.1 = 3
      · rw [if_pos h, if_pos h]; exact ih _
      · rw [if_neg h, if_neg h]; exact ih _
  exact key cs 6
section
variable {N : Nat} {ν : St} {C : Cr} {H : List Nat} {d t f : Nat} {cs : List Cz}
theorem m_begin (h9 : ν 9 0 = nI f) (hf : f < 6) : f_X8_begin N ν = some (nI (10 * f)) := by
  unfold f_X8_begin
  rw [h9, if_pos (nI_pos' (by omega)), show (10 : Int32) = nI 10 from rfl, pk_mul]
theorem m_behind (h9 : ν 9 0 = nI f) (hf : f < 6) (hD : Dt ν f cs) : f_X8_behind N ν = some (nI (10 * f + cs.length)) := by
  unfold f_X8_behind
  rw [h9, if_pos (nI_pos' (by omega)), ck_n hf (by omega), nI_clamp (by omega), hD.2.1, show (10 : Int32) = nI 10 from rfl, pk_mul, nI_add]
theorem m_lastL {w : Nat} (hw : w < 4) (h9 : ν 9 0 = nI f) (hf : f < 6) (hD : Dt ν f cs) (hz : ∀ z ∈ cs, GC z) : ∀ (rest : List Cz) (q n v : Nat), (∀ (j : Nat) (z : Cz), rest[j]? = some z → cs[q + j]? = some z) → q + rest.length = cs.length → rest.length < n → l_X8_lastOf_8 N ν (nI w) n (nI v) (nI (10 * f + q)) = some (nI (lastF w rest v)) := by
  have hlen := hD.1
  intro rest
  induction rest with
  | nil =>
    intro q n v _ hq hn
    obtain ⟨n, rfl⟩ : ∃ m, n = m + 1 := ⟨n - 1, by omega⟩
    rw [List.length_nil] at hq
    rw [l_X8_lastOf_8, m_behind h9 hf hD, cl_s, if_pos (nI_le (by omega) (by omega))]; rfl
  | cons z l ih =>
    intro q n v hr hq hn
    rw [List.length_cons] at hq hn
    obtain ⟨n, rfl⟩ : ∃ m, n = m + 1 := ⟨n - 1, by omega⟩
    have hz0 : cs[q]? = some z := hr 0 z rfl
    have hg := hz z (List.mem_of_getElem? hz0)
    obtain ⟨D15, D16, _⟩ := hD.2.2 q z hz0
    have hg1 := hg.1
    rw [l_X8_lastOf_8, m_behind h9 hf hD, cl_s, if_neg (nI_ge (by omega) (by omega)), ck_n (by omega) (by omega), nI_clamp (by omega), D15, lastF_cons]
    have hnext := fun v' => ih (q + 1) n v' (fun j y hy => by rw [show q + 1 + j = q + (j + 1) by omega]; exact hr (j + 1) y hy) (by omega) (by omega)
    by_cases hw1 : z.1 = w
    · rw [if_pos (show nI z.1 = nI w by rw [hw1]), if_pos hw1, ck_n (by omega) (by omega), nm_d, nm_d, D16, nI_1]
      exact hnext _
    · rw [if_neg (fun e => hw1 ((nI_eq (by omega) (by omega)).mp e)), if_neg hw1, nm_d, nI_1]
      exact hnext _
theorem m_need (hN : 1000 ≤ N) (h9 : ν 9 0 = nI f) (hf : f < 6) (hD : Dt ν f cs) (hz : ∀ z ∈ cs, GC z) : f_X8_need N ν = some (nI (needF cs)) := by
  have hlen := hD.1
  unfold f_X8_need f_X8_lastOf
  have e := m_lastL (N := N) (w := 2) (by omega) h9 hf hD hz cs 0 N 1 (fun j z h => by rw [Nat.zero_add]; exact h) (by omega) (by omega)
  rw [lastF_need] at e
  have e' : l_X8_lastOf_8 N ν 2 N 1 (nI (10 * f)) = some (nI (needF cs)) := e
  rw [m_begin h9 hf, cl_s, e', cl_s]
theorem m_hold (hN : 1000 ≤ N) (h9 : ν 9 0 = nI f) (hf : f < 6) (hD : Dt ν f cs) (hz : ∀ z ∈ cs, GC z) : f_X8_hold N ν = some (nI (holdF cs)) := by
  have hlen := hD.1
  unfold f_X8_hold f_X8_lastOf
  have e := m_lastL (N := N) (w := 3) (by omega) h9 hf hD hz cs 0 N 6 (fun j z h => by rw [Nat.zero_add]; exact h) (by omega) (by omega)
  have e' : l_X8_lastOf_8 N ν 3 N 6 (nI (10 * f)) = some (nI (lastF 3 cs 6)) := e
  have h99 := lastF_99 (w := 3) cs 6 hz (by omega)
  rw [m_begin h9 hf, cl_s, e', cl_s, lastF_hold]
  by_cases h1 : 1 ≤ lastF 3 cs 6
  · rw [if_pos (show (1 : Int32) ≤ nI (lastF 3 cs 6) from nI_le (a := 1) h1 (by omega)), Nat.max_eq_right h1]
  · rw [if_neg (show ¬ (1 : Int32) ≤ nI (lastF 3 cs 6) from nI_ge (b := 1) (by omega) (by omega)), Nat.max_eq_left (by omega)]; rfl
theorem m_tasteL (hN : 1000 ≤ N) (hC : Wf C) (ht : t < cT C) (hd : d < 2 ^ 20) (hf : f < 6) (hz : ∀ z ∈ cs, GC z) : ∀ (rest : List Cz) (q n : Nat) (ν : St) (a : Int32), MS ν C H d → ν 9 0 = nI f → Dt ν f cs → (∀ (j : Nat) (z : Cz), rest[j]? = some z → cs[q + j]? = some z) → q + rest.length = cs.length → rest.length < n → ∃ g, l_X8_taste_7 N (nI t) n ν a (nI (10 * f + q)) = some (sumZ (fct C H d t) rest a, sA ν 25 g) := by
  intro rest
  induction rest with
  | nil =>
    intro q n ν a hM h9 hD _ hq hn
    have hlen := hD.1
    obtain ⟨n, rfl⟩ : ∃ m, n = m + 1 := ⟨n - 1, by omega⟩
    rw [List.length_nil] at hq
    refine ⟨ν 25, ?_⟩
    rw [l_X8_taste_7, m_behind h9 hf hD, cl_s, if_pos (nI_le (by omega) (by omega)), sumZ_nil, sA_id]
  | cons z l ih =>
    intro q n ν a hM h9 hD hr hq hn
    have hlen := hD.1
    rw [List.length_cons] at hq hn
    obtain ⟨n, rfl⟩ : ∃ m, n = m + 1 := ⟨n - 1, by omega⟩
    have hz0 : cs[q]? = some z := hr 0 z rfl
    have hg := hz z (List.mem_of_getElem? hz0)
    obtain ⟨D15, D16, D17⟩ := hD.2.2 q z hz0
    have hg1 := hg.1
    have hg2 := hg.2.1
    rw [l_X8_taste_7, m_behind h9 hf hD, cl_s, if_neg (nI_ge (by omega) (by omega)), ck_n (by omega) (by omega), nI_clamp (by omega), D15, sumZ_cons]
    have hnext := fun g a' => ih (q + 1) n (sA ν 25 g) a' (hM.t25 g) (by rw [sA_n _ _ (by decide)]; exact h9) (hD.t25 g) (fun j y hy => by rw [show q + 1 + j = q + (j + 1) by omega]; exact hr (j + 1) y hy) (by omega) (by omega)
    by_cases h1 : z.1 ≤ 1
    · rw [if_neg (show ¬ (1 : Int32) < nI z.1 from nI_nlt (a := 1) h1 (by omega))]
      obtain ⟨v, hv⟩ := hg.2.2 h1
      obtain ⟨o, o1, o2, o3, o4⟩ := D17 h1
      obtain ⟨g, eg⟩ := m_holds (N := N) (B := 100 * f + o) hN hC hM ht hd hv (show 10 * f + q < 60 by omega) o2 o3 (by omega) (fun j y hy => by
        have := o4 j y hy
        rw [show 100 * f + o + j = 100 * f + (o + j) by omega]; exact this)
      have hev := (hv.ev (fct C H d t)).2
      rw [eg, cl_s]
      dsimp only
      have c15 : sA ν 25 g 15 (10 * f + q) = nI z.1 := by rw [sA_n _ _ (by decide)]; exact D15
      have c16 : sA ν 25 g 16 (10 * f + q) = nI z.2.1 := by rw [sA_n _ _ (by decide)]; exact D16
      have hcv : cvz (fct C H d t) z = if v (fct C H d t) = true then (if z.1 = 0 then nI z.2.1 else -(nI z.2.1)) else 0 := by unfold cvz; rw [if_pos h1, hev]
      rw [hcv]
      cases v (fct C H d t)
      · rw [i0, nm_d, nI_1, if_neg (by decide), Int32.add_zero]
        obtain ⟨g2, e2⟩ := hnext g a
        rw [sA_ss] at e2
        exact ⟨g2, e2⟩
      · rw [i1, ck_n (by omega) (by omega), if_pos (show true = true from rfl)]
        by_cases hz1 : z.1 = 0
        · rw [if_pos (show sA ν 25 g 15 (10 * f + q) = 0 by rw [c15, hz1]; rfl), if_pos hz1, ck_n (by omega) (by omega), nm_d, nm_d, nI_1, c16]
          obtain ⟨g2, e2⟩ := hnext g (a + nI z.2.1)
          rw [sA_ss] at e2
          exact ⟨g2, e2⟩
        · rw [if_neg (show ¬ sA ν 25 g 15 (10 * f + q) = 0 by rw [c15]; exact nI_ne0 (by omega) (by omega)), if_neg hz1, ck_n (by omega) (by omega), nm_d, nm_d, nI_1, c16]
          obtain ⟨g2, e2⟩ := hnext g (a + -(nI z.2.1))
          rw [sA_ss] at e2
          exact ⟨g2, e2⟩
    · have hcv : cvz (fct C H d t) z = 0 := by unfold cvz; rw [if_neg h1]
      rw [if_pos (show (1 : Int32) < nI z.1 from nI_lt (a := 1) (by omega) (by omega)), nm_d, nI_1, hcv, Int32.add_zero]
      obtain ⟨g2, e2⟩ := hnext (ν 25) a
      rw [sA_id] at e2
      exact ⟨g2, e2⟩
theorem m_taste (hN : 1000 ≤ N) (hC : Wf C) (ht : t < cT C) (hd : d < 2 ^ 20) (hf : f < 6) (hz : ∀ z ∈ cs, GC z) (hM : MS ν C H d) (h9 : ν 9 0 = nI f) (hD : Dt ν f cs) : ∃ g, f_X8_taste N ν (nI t) = some (sumZ (fct C H d t) cs 0, sA ν 25 g) := by
  have hlen := hD.1
  unfold f_X8_taste
  rw [m_begin h9 hf, cl_s]
  exact m_tasteL hN hC ht hd hf hz cs 0 N ν 0 hM h9 hD (fun j z h => by rw [Nat.zero_add]; exact h) (by omega) (by omega)
end
/-- the reference's street: none, or one of cnt -/
def RS (μ : St) (cnt : Nat) (S : Sn) : Prop := (μ 9 0 = -1 ∧ S = ((fun _ => 0), 1, 6)) ∨ ∃ (f : Nat) (cs : List Cz), μ 9 0 = nI f ∧ f < cnt ∧ cnt ≤ 6 ∧ Dt μ f cs ∧ (∀ z ∈ cs, GC z) ∧ S = SnZ cs
theorem RS.same {μ μ' : St} {cnt : Nat} {S : Sn} (h : RS μ cnt S) (hs : sameS μ μ') : RS μ' cnt S := by
  rcases h with ⟨a, b⟩ | ⟨f, cs, h1, h2, h3, h4, h5⟩
  · exact Or.inl ⟨by rw [hs 9 (Or.inl rfl)]; exact a, b⟩
  · exact Or.inr ⟨f, cs, by rw [hs 9 (Or.inl rfl)]; exact h1, h2, h3, h4.same (fun k a b => hs k (Or.inr ⟨a, b⟩)), h5⟩
theorem RS.ok {μ : St} {cnt : Nat} {S : Sn} (h : RS μ cnt S) : SnOk S := by
  rcases h with ⟨_, b⟩ | ⟨f, cs, h1, h2, h3, h4, h5, h6⟩
  · subst b; exact ⟨fun _ _ _ => rfl, 6, rfl, by omega, by omega⟩
  · rw [h6]; exact SnZ_ok h5
theorem RS.mt {μ : St} {cnt : Nat} {S : Sn} (h : RS μ cnt S) : MT μ S := by
  intro μ' hs N hN
  have h' : RS μ' cnt S := h.same hs
  rcases h' with ⟨a, b⟩ | ⟨f, cs, h1, h2, h3, h4, h5, h6⟩
  · subst b
    obtain ⟨n, rfl⟩ : ∃ m, N = m + 1 := ⟨N - 1, by omega⟩
    have hb : f_X8_begin (n + 1) μ' = some 0 := by unfold f_X8_begin; rw [a, if_neg (by decide)]
    have hh : f_X8_behind (n + 1) μ' = some 0 := by unfold f_X8_behind; rw [a, if_neg (by decide)]
    have hl : ∀ w v, f_X8_lastOf (n + 1) μ' w v = some v := by
      intro w v; unfold f_X8_lastOf; rw [hb, cl_s, l_X8_lastOf_8, hh, cl_s, if_pos (by decide)]
    refine ⟨?_, ?_, fun C H d t _ _ _ _ => ⟨μ' 25, ?_⟩⟩
    · unfold f_X8_need; rw [hl, cl_s]
    · unfold f_X8_hold; rw [hl, cl_s, if_pos (by decide)]
    · unfold f_X8_taste; rw [hb, cl_s, l_X8_taste_7, hh, cl_s, if_pos (by decide), sA_id]
  · subst h6
    refine ⟨?_, ?_, fun C H d t hC hH hM ht => ?_⟩
    · rw [SnZ_n]; exact m_need hN h1 (by omega) h4 h5
    · rw [SnZ_2]; exact m_hold hN h1 (by omega) h4 h5
    · rw [SnZ_1]; exact m_taste hN hC ht hH.2.2 (by omega) h5 hM h1 h4
