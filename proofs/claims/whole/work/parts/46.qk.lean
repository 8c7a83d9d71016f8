/-! ===== pure layer QK: street, the start, and each call ===== -/
theorem XT.app {L : List SR} {h : Option SR} {S : Sn} (hx : XT L h S) (R : SR) : XT (L ++ [R]) h S := by
  cases h with
  | none => exact hx
  | some Q => exact ⟨List.mem_append_left _ hx.1, hx.2⟩
theorem RS.fs {ν ν' : St} {cnt cnt' : Nat} {S : Sn} (h : RS ν cnt S) (h9 : ν' 9 0 = ν 9 0) (hD : ∀ f cs, f < cnt → Dt ν f cs → Dt ν' f cs) (hc : cnt ≤ cnt') (h6 : cnt' ≤ 6) : RS ν' cnt' S := by
  rcases h with ⟨a, b⟩ | ⟨f, cs, q1, q2, q3, q4, q5⟩
  · exact Or.inl ⟨by rw [h9]; exact a, b⟩
  · exact Or.inr ⟨f, cs, by rw [h9]; exact q1, by omega, h6, hD f cs q2 q4, q5⟩
theorem img_dt {μ : St} {f : Nat} {cs : List Cz} : Dt (imgV μ) f cs ↔ Dt μ f cs := by
  have e : ∀ k, 14 ≤ k → k ≤ 19 → imgV μ k = μ k := fun k a b => by rw [imgV_im _ _ (by omega), im_id k (by omega) a]
  exact ⟨fun h => h.same (fun k a b => (e k a b).symm), fun h => h.same e⟩
theorem lenS_ok {len : Nat} (h : len ≤ 100) : lenS (nI len) 100 = nI len := by
  unfold lenS
  have e : (if nI 100 < nI len then nI 100 else nI len) = nI len := if_neg (nI_nlt h (by omega))
  rw [e]
  by_cases h0 : len = 0
  · subst h0; rfl
  · exact if_pos (nI_lt (a := 0) (by omega) (by omega))
section
variable {N : Nat} {L : List SR} {h1 h2 h4 : Option SR} {s0 s1 s2 s3 s4 s5 s6 s7 s8 s9 μ : St} {t9 τ : Lt}
theorem in_street (hN : 1000 ≤ N) (hI : Inv L s0 s1 h1 s3 s4 h4 s5 s6 s8 s9 t9 μ τ) : ∃ a s0' s6' o μ', f_X7_street N s0 s6 = some (a, s0', s6', o) ∧ f_X8_street N μ = some (a, μ') ∧ (o = none → Inv L s0' s1 h1 s3 s4 h4 s5 s6' s8 s9 t9 μ' τ) ∧ ∀ x, o = some x → ∀ qa qb : Nat, Inv (L ++ [(qa, qb, x)]) s0' s1 (some (qa, qb, x)) s3 s4 h4 s5 s6' s8 s9 t9 μ' τ := by
  have hI0 := hI
  obtain ⟨cnt, hg, ⟨a1, a2, a3⟩, ⟨T, b1, b2, b3⟩, c1, ⟨bl, d1, d2, d3⟩, e1, kept, f1, f2, f3⟩ := hI
  unfold f_X7_street f_X8_street
  rw [a2, a3]
  by_cases h6 : cnt = 6
  · subst h6
    rw [if_neg (show ¬ nI 6 < 6 by decide), if_pos (show nI 6 = 6 from rfl)]
    exact ⟨_, s0, s6, none, μ, rfl, rfl, fun _ => hI0, fun x z => (by cases z)⟩
  have hc6 : cnt < 6 := by omega
  obtain ⟨s', eX, q6, qR, qF⟩ := x_readStreet hN b3 b1
  obtain ⟨μ1, eM, r11, rD, rF⟩ := m_goesText hN b3 hc6 b2 c1
  rw [if_pos (show nI cnt < 6 from nI_lt (b := 6) hc6 (by omega)), if_neg (show ¬ nI cnt = 6 from fun z => h6 ((nI_eq (b := 6) (by omega) (by omega)).mp z)), eX, cl_s, eM, cl_s]
  dsimp only
  rw [nm_d, nm_d, nm_d, nm_d, nm_d, nm_d, sI_n _ _ (show 6 ≠ 1 by decide), q6, sI_n _ _ (show 11 ≠ 10 by decide), r11]
  have fD : ∀ f cs, f < cnt → Dt μ f cs → Dt μ1 f cs := fun f cs hf h => h.fr rF hf
  have tx : TX (sI s' 1 0) [] := ⟨by rw [sI_s]; rfl, fun i c z => (by simp at z)⟩
  have ok0 : TxOk [] := ⟨by simp, fun c z => (by simp at z)⟩
  cases hb : (rSt T 10 0 []).1
  · rw [i0, i0]
    have hz : ∀ k, k ≠ 10 → (k < 11 ∨ k = 13 ∨ 23 < k) → sI μ1 10 0 k = μ k := fun k x y => by rw [sI_n _ _ x, rF.1 k y]
    have fD2 : ∀ f cs, f < cnt → Dt μ f cs → Dt (sI μ1 10 0) f cs := fun f cs hf h => (fD f cs hf h).same (fun k x y => sI_n _ _ (by omega))
    refine ⟨_, s0, sI s' 1 0, none, sI μ1 10 0, rfl, rfl, fun _ => ⟨cnt, hg.up (fun _ a => a) (fun _ a => a.fs (by rw [hz 9 (by decide) (by omega)]) fD2 (Nat.le_refl _) a1) (fun k hk => hz k (by omega) (by omega)) (fun k x y => hz k (by omega) (by omega)), ⟨a1, a2, by rw [hz 8 (by decide) (by omega)]; exact a3⟩, ⟨[], tx, ⟨by rw [sI_s]; rfl, fun i c z => (by simp at z)⟩, ok0⟩, fun i hi => by rw [hz 24 (by decide) (by omega)]; exact c1 i hi, ⟨bl, d1, d2.sm (hz 61 (by decide) (by omega)) (hz 62 (by decide) (by omega)), d3⟩, e1.sm (hz 63 (by decide) (by omega)) (hz 64 (by decide) (by omega)), kept, f1, by rw [hz 41 (by decide) (by omega)]; exact f2, fun hk => ?_⟩, fun x z => (by cases z)⟩
    have im7 : ∀ k, (k ≤ 7 ∨ k = 9 ∨ (31 ≤ k ∧ k ≤ 40)) → imgV (sI μ1 10 0) k = imgV μ k := fun k hk => by
      have := im_in k (by omega) (by omega)
      rw [imgV_im _ _ (by omega), imgV_im _ _ (by omega)]; exact hz _ (by omega) (by omega)
    exact (f3 hk).up (fun _ a => a) (fun _ a => a.fs (by rw [im7 9 (by omega)]) (fun f cs hf h => img_dt.mpr (fD2 f cs hf (img_dt.mp h))) (Nat.le_refl _) a1) (fun k hk => im7 k (by omega)) (fun k x y => im7 k (by omega))
  · rw [i1, i1]
    obtain ⟨r5, rn, rh⟩ := qR hb
    have hD := rD hb
    have hlen : (csX (rSt T 10 0 []).2.2).length ≤ 100 := Nat.le_trans (csX_le b3 10 0 [] (by omega) (by simp [csX]) hb) b3.1
    have hGC := gc_street b3 10 0 [] (by omega) (fun z hz => by simp at hz) hb
    generalize hcs : (rSt T 10 0 []).2.2 = cs at *
    have eL : lenS (sI s' 1 0 3 0) 100 = nI (csX cs).length := by rw [sI_n _ _ (by decide), r5.2.2.1, lenS_ok hlen]
    rw [eL, cp_t ⟨nI_pos (by omega), by rw [nI_clamp (by omega)]; exact hlen⟩, nm_d, nm_d, nI_clamp (show (csX cs).length < 2 ^ 31 by omega)]
    simp only [sI_n _ _ (show 2 ≠ 1 by decide), sI_n _ _ (show 4 ≠ 1 by decide), sI_n _ _ (show 5 ≠ 1 by decide), sI_n _ _ (show 8 ≠ 10 by decide), sI_n _ _ (show 8 ≠ 9 by decide), sI_n _ _ (show 9 ≠ 8 by decide), sI_s, rn, rh, rF.1 8 (by omega), a3, nI_1, nI_pred]
    have hz : ∀ k, k ≠ 8 → k ≠ 9 → k ≠ 10 → (k < 11 ∨ k = 13 ∨ 23 < k) → sI (sI (sI μ1 10 0) 9 (nI cnt)) 8 (nI (cnt + 1)) k = μ k := fun k x y w z => by rw [sI_n _ _ x, sI_n _ _ y, sI_n _ _ w, rF.1 k z]
    have hs : ∀ k, 14 ≤ k → k ≤ 19 → sI (sI (sI μ1 10 0) 9 (nI cnt)) 8 (nI (cnt + 1)) k = μ1 k := fun k x y => by rw [sI_n _ _ (by omega), sI_n _ _ (by omega), sI_n _ _ (by omega)]
    have fD2 : ∀ f cs, f < cnt → Dt μ f cs → Dt (sI (sI (sI μ1 10 0) 9 (nI cnt)) 8 (nI (cnt + 1))) f cs := fun f cs hf h => (fD f cs hf h).same hs
    refine ⟨_, sI s0 7 (nI (cnt + 1)), sI s' 1 0, _, sI (sI (sI μ1 10 0) 9 (nI cnt)) 8 (nI (cnt + 1)), rfl, rfl, fun z => (by cases z), fun x hx qa qb => ?_⟩
    cases hx
    obtain ⟨C, H, d, S, P, g1, g2, g3, g4, g5, g6, g7, g8, g9, g10⟩ := hg
    refine ⟨cnt + 1, ⟨C, H, d, SnZ cs, P, g1, g2, g3, g4.other (fun k hk => hz k (by omega) (by omega) (by omega) (by omega)), ⟨List.mem_append_right _ List.mem_cons_self, by rw [SnZ_n], by rw [SnZ_2], fun N' f hN' => x_sumFor hN' hGC hlen rfl (fun j z hj => ?_)⟩, Or.inr ⟨cnt, cs, by rw [sI_n _ _ (by decide), sI_s], by omega, by omega, hD.same hs, hGC, rfl⟩, g7, g8, g9.mono (fun k x y => hz k (by omega) (by omega) (by omega) (by omega)), g10⟩, ⟨by omega, by rw [sI_s], by rw [sI_s]⟩, ⟨[], tx, ⟨by rw [sI_n _ _ (by decide), sI_n _ _ (by decide), sI_s]; rfl, fun i c z => (by simp at z)⟩, ok0⟩, fun i hi => by rw [hz 24 (by decide) (by decide) (by decide) (by omega)]; exact c1 i hi, ⟨bl, d1, d2.sm (hz 61 (by decide) (by decide) (by decide) (by omega)) (hz 62 (by decide) (by decide) (by decide) (by omega)), d3⟩, e1.sm (hz 63 (by decide) (by decide) (by decide) (by omega)) (hz 64 (by decide) (by decide) (by decide) (by omega)), kept, by rw [sI_n _ _ (by decide)]; exact f1, by rw [hz 41 (by decide) (by decide) (by decide) (by omega)]; exact f2, fun hk => ?_⟩
    · have hj' := glt hj
      show va_cpy (s' 2) (fun _ => 0) 0 0 (csX cs).length j = z
      rw [c6 hj']; exact r5.2.2.2 j z hj
    · have im7 : ∀ k, (k ≤ 7 ∨ k = 9 ∨ (31 ≤ k ∧ k ≤ 40)) → imgV (sI (sI (sI μ1 10 0) 9 (nI cnt)) 8 (nI (cnt + 1))) k = imgV μ k := fun k hk => by
        have := im_in k (by omega) (by omega)
        rw [imgV_im _ _ (by omega), imgV_im _ _ (by omega)]; exact hz _ (by omega) (by omega) (by omega) (by omega)
      exact (f3 hk).up (fun _ a => a.app _) (fun _ a => a.fs (by rw [im7 9 (by omega)]) (fun f cs hf h => img_dt.mpr (fD2 f cs hf (img_dt.mp h))) (by omega) (by omega)) (fun k hk => im7 k (by omega)) (fun k x y => im7 k (by omega))
end
