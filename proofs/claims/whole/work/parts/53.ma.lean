/-! ===== the law: street ===== -/
section
variable {p : Program} {l : Launch} {e : Env} {s : State} {m : MethodId} {below : List Frame} {meth : Method} {c : Code} {E : Ev} {bs Ls : Nat} {xs : Nat → Int32} {b : Nat → Nat → Nat} {ax : Nat → Nat} {cells slots N : Nat} {Q : State → Prop} {ls : Array Slot} {x3 : Int32}
variable {L : List SR} {h1 h2 h4 : Option SR} {s0 s1 s2 s3 s4 s5 s6 s7 s8 s9 μ : St} {t9 τ : Nat → Nat → Int64} {H : Heap} {locs : List Loc}
set_option maxHeartbeats 8000000 in
set_option maxRecDepth 100000 in
theorem lo_street (hC : LCx p s m meth c E bs Ls xs) (hN : 500000 ≤ N) (hl : lv_has ls 4 [(0, .ref bs), (1, .ref (b 0 0)), (2, .ref (ax 0)), (3, .int x3)]) (hI : Inv L s0 s1 h1 s3 s4 h4 s5 s6 s8 s9 t9 μ τ) (hP : va_P E.1 vwCl (wX8 E ax μ τ ++ w7 E b L s0 s1 h1 s2 h2 s3 s4 h4 s5 s6 s7 s8 s9 t9) H) (hD : va_D (LA s) (wX8 E ax μ τ ++ w7 E b L s0 s1 h1 s2 h2 s3 s4 h4 s5 s6 s7 s8 s9 t9)) (hS : va_S (LA s) s.heap H locs) (hcl : cells + 2 ≤ 600000) (hsl : slots + 103 ≤ 7302250) (K : LK p l e s m below meth c E b ax bs (cells + 2) (slots + 103) Q ls) : W p l e room_1 s m #[Value.ref bs] below meth c H locs cells slots Q (F0 m 407 ls []) := by
  obtain ⟨hx, hb, hml, hown, hts, hX, hbl, hK, hG, hg⟩ := hC
  have hA : ∀ q : Nat, s.heap.size ≤ q → LA s q := fun _ h => h
  have hAB : ∀ q : Nat, LA s q → E.2.2.2.2.1 ≤ q := fun q h => by rw [hg]; exact h
  have hbA : ¬ LA s bs := Nat.not_le.mpr hbl
  have hc2 : cells + 2 + 0 ≤ room_1.cells := hcl
  have hs2 : slots + 103 + 0 ≤ room_1.slots := hsl
  have hc0 : cells + 0 ≤ room_1.cells := Nat.le_trans (Nat.le_add_right cells 2) hcl
  have hs0 : slots + 0 ≤ room_1.slots := Nat.le_trans (Nat.le_add_right slots 103) hsl
  obtain ⟨a, z0, z6, o, μ1, e1, e2, hJn, hJs⟩ := in_street (N := N) (Nat.le_trans (Nat.le_of_ble_eq_true rfl) hN) hI
  refine lv_aload_n hx hb dL_law_407 rfl (lv_at hl 1 rfl) ?_
  refine va_calli (A0 := LA s) (va_runV (As := []) (rest := []) ⟨hx, hb, hml, hown, hts⟩ (k_X7_street l E (b 0) (b 1) (b 2) (b 3) (b 4) (b 5) (b 6) (b 7) (b 8) (b 9) L N s0 s1 h1 s2 h2 s3 s4 h4 s5 s6 s7 s8 s9 t9 (a, z0, z6, o) e1 _) (cwV 0 hts gl_X7_street rfl rfl rfl (by decide +kernel) ⟨(Nat.le_of_ble_eq_true rfl), (Nat.le_of_ble_eq_true rfl)⟩) (pre_v (ci := 7) (q0 := 0) hK (ap_P.mp hP).2 (ap_D2 hD) hS hG hAB rfl rfl) rfl rfl hl.1 rfl (lv_room (Nat.le_of_ble_eq_true rfl)) dL_law_408 ⟨hcl, hsl⟩) hS (fun q _ h => w_free (ap_D2 hD) hS hA (fun _ h => h) q h) (w_free (ap_D2 hD) hS hA (fun _ h => h)) (fun r u t H1 locs ht hvm hw hB hz1 hk hS1 => ?_)
  have hw2 : a = r := hw.symm
  subst hw2
  obtain ⟨qa, qb, hP1, hD1⟩ := hB
  rw [ht] at hP1
  have hFw := w_free (ap_D2 hD) hS hA (fun _ h => h)
  have hS := hS1
  cases o with
  | none =>
    have hP := jn_B (B' := w7 E b L z0 s1 h1 s2 h2 s3 s4 h4 s5 z6 s7 s8 s9 t9) hP hD hk hP1
    have hD := wD hD z0 s1 h1 s2 h2 s3 s4 h4 s5 z6 s7 s8 s9 t9 μ τ
    refine lv_aload_n hx hb dL_law_411 rfl (lv_at hl 2 rfl) ?_
    refine fin_i (E := E) (r := a) (wc := wX8 E ax μ τ) (wc' := wX8 E ax μ1 τ) (va_runV (As := []) (rest := [.int a]) ⟨hx, hb, hml, hown, hts⟩ (k_X8_street l E ax N μ τ (a, μ1) e2 _) (cwV 0 hts gl_X8_street rfl rfl rfl (by decide +kernel) ⟨(Nat.le_of_ble_eq_true rfl), (Nat.le_of_ble_eq_true rfl)⟩) (pre_v (ci := 8) (q0 := 0) hK (ap_P.mp hP).1 (ap_D1 hD) hS hG hAB rfl rfl) rfl rfl hl.1 rfl (lv_room (Nat.le_of_ble_eq_true rfl)) dL_law_412 ⟨hc2, hs2⟩) hS (w_free (ap_D1 hD) hS hA (fun _ h => h)) (fun H2 locs hP1 hk hS => ?_)
    have hP := jn_A hP hD hk hP1
    have hD := wD hD z0 s1 h1 s2 h2 s3 s4 h4 s5 z6 s7 s8 s9 t9 μ1 τ
    exact lv_icmp_eq (tgt := 1336) hx hb dL_law_415 (by decide) (fun _ => K _ _ _ _ _ _ _ _ _ _ _ _ _ _ _ _ _ _ _ (hJn rfl) hP hD hS) (fun c9 => absurd rfl c9)
  | some x =>
    have hP2 := jn_B (B' := w7 E b (L ++ [(qa, qb, x)]) z0 s1 (some (qa, qb, x)) s2 h2 s3 s4 h4 s5 z6 s7 s8 s9 t9) hP hD hk hP1
    have hD := jn_D (B' := w7 E b (L ++ [(qa, qb, x)]) z0 s1 (some (qa, qb, x)) s2 h2 s3 s4 h4 s5 z6 s7 s8 s9 t9) hP hD hFw hD1
    have hP := hP2
    refine lv_aload_n hx hb dL_law_411 rfl (lv_at hl 2 rfl) ?_
    refine fin_i (E := E) (r := a) (wc := wX8 E ax μ τ) (wc' := wX8 E ax μ1 τ) (va_runV (As := []) (rest := [.int a]) ⟨hx, hb, hml, hown, hts⟩ (k_X8_street l E ax N μ τ (a, μ1) e2 _) (cwV 0 hts gl_X8_street rfl rfl rfl (by decide +kernel) ⟨(Nat.le_of_ble_eq_true rfl), (Nat.le_of_ble_eq_true rfl)⟩) (pre_v (ci := 8) (q0 := 0) hK (ap_P.mp hP).1 (ap_D1 hD) hS hG hAB rfl rfl) rfl rfl hl.1 rfl (lv_room (Nat.le_of_ble_eq_true rfl)) dL_law_412 ⟨hc2, hs2⟩) hS (w_free (ap_D1 hD) hS hA (fun _ h => h)) (fun H2 locs hP1 hk hS => ?_)
    have hP := jn_A hP hD hk hP1
    have hD := wD hD z0 s1 (some (qa, qb, x)) s2 h2 s3 s4 h4 s5 z6 s7 s8 s9 t9 μ1 τ
    exact lv_icmp_eq (tgt := 1336) hx hb dL_law_415 (by decide) (fun _ => K _ _ _ _ _ _ _ _ _ _ _ _ _ _ _ _ _ _ _ (hJs x rfl qa qb) hP hD hS) (fun c9 => absurd rfl c9)
end
