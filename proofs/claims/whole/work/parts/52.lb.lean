/-! ===== the law, call by call (2) ===== -/
section
variable {p : Program} {l : Launch} {e : Env} {s : State} {m : MethodId} {below : List Frame} {meth : Method} {c : Code} {E : Ev} {bs Ls : Nat} {xs : Nat → Int32} {b : Nat → Nat → Nat} {ax : Nat → Nat} {cells slots N : Nat} {Q : State → Prop} {ls : Array Slot} {x3 : Int32}
variable {L : List SR} {h1 h2 h4 : Option SR} {s0 s1 s2 s3 s4 s5 s6 s7 s8 s9 μ : St} {t9 τ : Nat → Nat → Int64} {H : Heap} {locs : List Loc}
set_option maxHeartbeats 8000000 in
set_option maxRecDepth 100000 in
theorem lo_on (hC : LCx p s m meth c E bs Ls xs) (hN : 500000 ≤ N) (v1 : vp_in (x3 + 1) Ls) (v2 : vp_in (x3 + 2) Ls) (hl : lv_has ls 4 [(0, .ref bs), (1, .ref (b 0 0)), (2, .ref (ax 0)), (3, .int x3)]) (hI : Inv L s0 s1 h1 s3 s4 h4 s5 s6 s8 s9 t9 μ τ) (hP : va_P E.1 vwCl (wX8 E ax μ τ ++ w7 E b L s0 s1 h1 s2 h2 s3 s4 h4 s5 s6 s7 s8 s9 t9) H) (hD : va_D (LA s) (wX8 E ax μ τ ++ w7 E b L s0 s1 h1 s2 h2 s3 s4 h4 s5 s6 s7 s8 s9 t9)) (hS : va_S (LA s) s.heap H locs) (hcl : cells + 2 ≤ 600000) (hsl : slots + 103 ≤ 7302250) (K : LK p l e s m below meth c E b ax bs cells slots Q ls) : W p l e room_1 s m #[Value.ref bs] below meth c H locs cells slots Q (F0 m 466 ls []) := by
  obtain ⟨hx, hb, hml, hown, hts, hX, hbl, hK, hG, hg⟩ := hC
  have hA : ∀ q : Nat, s.heap.size ≤ q → LA s q := fun _ h => h
  have hAB : ∀ q : Nat, LA s q → E.2.2.2.2.1 ≤ q := fun q h => by rw [hg]; exact h
  have hbA : ¬ LA s bs := Nat.not_le.mpr hbl
  have hc0 : cells + 0 ≤ room_1.cells := Nat.le_trans (Nat.le_add_right cells 2) hcl
  have hs0 : slots + 0 ≤ room_1.slots := Nat.le_trans (Nat.le_add_right slots 103) hsl
  obtain ⟨a, ⟨z1, z2⟩, μ1, e1, e2, hJ⟩ := in_on (N := N) (s2 := s2) (h2 := h2) hN hI (xs (x3 + 1).toNatClampNeg) (xs (x3 + 2).toNatClampNeg)
  refine lv_aload_n hx hb dL_law_466 rfl (lv_at hl 1 rfl) ?_
  refine lv_aload_n hx hb dL_law_467 rfl (lv_at hl 0 rfl) ?_
  refine lv_iload_n hx hb dL_law_468 rfl (lv_at hl 3 rfl) ?_
  refine lv_iconst (v := 1) hx hb dL_law_469 (by decide) ?_
  refine lv_iadd hx hb dL_law_470 ?_
  refine va_sld hx hb hX hbl hbA hS v1 dL_law_471 ?_
  refine lv_aload_n hx hb dL_law_472 rfl (lv_at hl 0 rfl) ?_
  refine lv_iload_n hx hb dL_law_473 rfl (lv_at hl 3 rfl) ?_
  refine lv_iconst (v := 2) hx hb dL_law_474 (by decide) ?_
  refine lv_iadd hx hb dL_law_475 ?_
  refine va_sld hx hb hX hbl hbA hS v2 dL_law_476 ?_
  refine fin_i (E := E) (r := a) (wc := w7 E b L s0 s1 h1 s2 h2 s3 s4 h4 s5 s6 s7 s8 s9 t9) (wc' := w7 E b L s0 s1 h1 z1 z2 s3 s4 h4 s5 s6 s7 s8 s9 t9) (va_runV (As := [.int (xs (x3 + 1).toNatClampNeg), .int (xs (x3 + 2).toNatClampNeg)]) (rest := []) ⟨hx, hb, hml, hown, hts⟩ (k_X7_on l E (b 0) (b 1) (b 2) (b 3) (b 4) (b 5) (b 6) (b 7) (b 8) (b 9) L N s0 s1 h1 s2 h2 s3 s4 h4 s5 s6 s7 s8 s9 t9 (xs (x3 + 1).toNatClampNeg) (xs (x3 + 2).toNatClampNeg) (a, z1, z2) e1 _) (cwV 2 hts gl_X7_on rfl rfl rfl (by decide +kernel) ⟨(Nat.le_of_ble_eq_true rfl), (Nat.le_of_ble_eq_true rfl)⟩) (pre_v (ci := 7) (q0 := 0) hK (ap_P.mp hP).2 (ap_D2 hD) hS hG hAB rfl rfl) rfl rfl hl.1 rfl (lv_room (Nat.le_of_ble_eq_true rfl)) dL_law_477 ⟨hc0, hs0⟩) hS (w_free (ap_D2 hD) hS hA (fun _ h => h)) (fun H1 locs hP1 hk hS => ?_)
  have hP := jn_B hP hD hk hP1
  have hD := wD hD s0 s1 h1 z1 z2 s3 s4 h4 s5 s6 s7 s8 s9 t9 μ τ
  clear hP1 hk
  refine lv_aload_n hx hb dL_law_480 rfl (lv_at hl 2 rfl) ?_
  refine lv_aload_n hx hb dL_law_481 rfl (lv_at hl 0 rfl) ?_
  refine lv_iload_n hx hb dL_law_482 rfl (lv_at hl 3 rfl) ?_
  refine lv_iconst (v := 1) hx hb dL_law_483 (by decide) ?_
  refine lv_iadd hx hb dL_law_484 ?_
  refine va_sld hx hb hX hbl hbA hS v1 dL_law_485 ?_
  refine lv_aload_n hx hb dL_law_486 rfl (lv_at hl 0 rfl) ?_
  refine lv_iload_n hx hb dL_law_487 rfl (lv_at hl 3 rfl) ?_
  refine lv_iconst (v := 2) hx hb dL_law_488 (by decide) ?_
  refine lv_iadd hx hb dL_law_489 ?_
  refine va_sld hx hb hX hbl hbA hS v2 dL_law_490 ?_
  refine fin_i (E := E) (r := a) (wc := wX8 E ax μ τ) (wc' := wX8 E ax μ1 τ) (va_runV (As := [.int (xs (x3 + 1).toNatClampNeg), .int (xs (x3 + 2).toNatClampNeg)]) (rest := [.int a]) ⟨hx, hb, hml, hown, hts⟩ (k_X8_on l E ax N μ τ (xs (x3 + 1).toNatClampNeg) (xs (x3 + 2).toNatClampNeg) (a, μ1) e2 _) (cwV 2 hts gl_X8_on rfl rfl rfl (by decide +kernel) ⟨(Nat.le_of_ble_eq_true rfl), (Nat.le_of_ble_eq_true rfl)⟩) (pre_v (ci := 8) (q0 := 0) hK (ap_P.mp hP).1 (ap_D1 hD) hS hG hAB rfl rfl) rfl rfl hl.1 rfl (lv_room (Nat.le_of_ble_eq_true rfl)) dL_law_491 ⟨hc0, hs0⟩) hS (w_free (ap_D1 hD) hS hA (fun _ h => h)) (fun H2 locs hP1 hk hS => ?_)
  have hP := jn_A hP hD hk hP1
  have hD := wD hD s0 s1 h1 z1 z2 s3 s4 h4 s5 s6 s7 s8 s9 t9 μ1 τ
  exact lv_icmp_eq (tgt := 1336) hx hb dL_law_494 (by decide) (fun _ => K _ _ _ _ _ _ _ _ _ _ _ _ _ _ _ _ _ _ _ hJ hP hD hS) (fun c9 => absurd rfl c9)
set_option maxHeartbeats 8000000 in
set_option maxRecDepth 100000 in
theorem lo_soon (hC : LCx p s m meth c E bs Ls xs) (hN : 500000 ≤ N) (v1 : vp_in (x3 + 1) Ls) (hl : lv_has ls 4 [(0, .ref bs), (1, .ref (b 0 0)), (2, .ref (ax 0)), (3, .int x3)]) (hI : Inv L s0 s1 h1 s3 s4 h4 s5 s6 s8 s9 t9 μ τ) (hP : va_P E.1 vwCl (wX8 E ax μ τ ++ w7 E b L s0 s1 h1 s2 h2 s3 s4 h4 s5 s6 s7 s8 s9 t9) H) (hD : va_D (LA s) (wX8 E ax μ τ ++ w7 E b L s0 s1 h1 s2 h2 s3 s4 h4 s5 s6 s7 s8 s9 t9)) (hS : va_S (LA s) s.heap H locs) (hcl : cells + 2 ≤ 600000) (hsl : slots + 103 ≤ 7302250) (K : LK p l e s m below meth c E b ax bs cells slots Q ls) : W p l e room_1 s m #[Value.ref bs] below meth c H locs cells slots Q (F0 m 499 ls []) := by
  obtain ⟨hx, hb, hml, hown, hts, hX, hbl, hK, hG, hg⟩ := hC
  have hA : ∀ q : Nat, s.heap.size ≤ q → LA s q := fun _ h => h
  have hAB : ∀ q : Nat, LA s q → E.2.2.2.2.1 ≤ q := fun q h => by rw [hg]; exact h
  have hbA : ¬ LA s bs := Nat.not_le.mpr hbl
  have hc0 : cells + 0 ≤ room_1.cells := Nat.le_trans (Nat.le_add_right cells 2) hcl
  have hs0 : slots + 0 ≤ room_1.slots := Nat.le_trans (Nat.le_add_right slots 103) hsl
  obtain ⟨a, ⟨z1, z2⟩, μ1, e1, e2, hJ⟩ := in_soon (N := N) (s2 := s2) (h2 := h2) hN hI (xs (x3 + 1).toNatClampNeg)
  refine lv_aload_n hx hb dL_law_499 rfl (lv_at hl 1 rfl) ?_
  refine lv_aload_n hx hb dL_law_500 rfl (lv_at hl 0 rfl) ?_
  refine lv_iload_n hx hb dL_law_501 rfl (lv_at hl 3 rfl) ?_
  refine lv_iconst (v := 1) hx hb dL_law_502 (by decide) ?_
  refine lv_iadd hx hb dL_law_503 ?_
  refine va_sld hx hb hX hbl hbA hS v1 dL_law_504 ?_
  refine fin_i (E := E) (r := a) (wc := w7 E b L s0 s1 h1 s2 h2 s3 s4 h4 s5 s6 s7 s8 s9 t9) (wc' := w7 E b L s0 s1 h1 z1 z2 s3 s4 h4 s5 s6 s7 s8 s9 t9) (va_runV (As := [.int (xs (x3 + 1).toNatClampNeg)]) (rest := []) ⟨hx, hb, hml, hown, hts⟩ (k_X7_soon l E (b 0) (b 1) (b 2) (b 3) (b 4) (b 5) (b 6) (b 7) (b 8) (b 9) L N s0 s1 h1 s2 h2 s3 s4 h4 s5 s6 s7 s8 s9 t9 (xs (x3 + 1).toNatClampNeg) (a, z1, z2) e1 _) (cwV 1 hts gl_X7_soon rfl rfl rfl (by decide +kernel) ⟨(Nat.le_of_ble_eq_true rfl), (Nat.le_of_ble_eq_true rfl)⟩) (pre_v (ci := 7) (q0 := 0) hK (ap_P.mp hP).2 (ap_D2 hD) hS hG hAB rfl rfl) rfl rfl hl.1 rfl (lv_room (Nat.le_of_ble_eq_true rfl)) dL_law_505 ⟨hc0, hs0⟩) hS (w_free (ap_D2 hD) hS hA (fun _ h => h)) (fun H1 locs hP1 hk hS => ?_)
  have hP := jn_B hP hD hk hP1
  have hD := wD hD s0 s1 h1 z1 z2 s3 s4 h4 s5 s6 s7 s8 s9 t9 μ τ
  clear hP1 hk
  refine lv_aload_n hx hb dL_law_508 rfl (lv_at hl 2 rfl) ?_
  refine lv_aload_n hx hb dL_law_509 rfl (lv_at hl 0 rfl) ?_
  refine lv_iload_n hx hb dL_law_510 rfl (lv_at hl 3 rfl) ?_
  refine lv_iconst (v := 1) hx hb dL_law_511 (by decide) ?_
  refine lv_iadd hx hb dL_law_512 ?_
  refine va_sld hx hb hX hbl hbA hS v1 dL_law_513 ?_
  refine fin_i (E := E) (r := a) (wc := wX8 E ax μ τ) (wc' := wX8 E ax μ1 τ) (va_runV (As := [.int (xs (x3 + 1).toNatClampNeg)]) (rest := [.int a]) ⟨hx, hb, hml, hown, hts⟩ (k_X8_soon l E ax N μ τ (xs (x3 + 1).toNatClampNeg) (a, μ1) e2 _) (cwV 1 hts gl_X8_soon rfl rfl rfl (by decide +kernel) ⟨(Nat.le_of_ble_eq_true rfl), (Nat.le_of_ble_eq_true rfl)⟩) (pre_v (ci := 8) (q0 := 0) hK (ap_P.mp hP).1 (ap_D1 hD) hS hG hAB rfl rfl) rfl rfl hl.1 rfl (lv_room (Nat.le_of_ble_eq_true rfl)) dL_law_514 ⟨hc0, hs0⟩) hS (w_free (ap_D1 hD) hS hA (fun _ h => h)) (fun H2 locs hP1 hk hS => ?_)
  have hP := jn_A hP hD hk hP1
  have hD := wD hD s0 s1 h1 z1 z2 s3 s4 h4 s5 s6 s7 s8 s9 t9 μ1 τ
  exact lv_icmp_eq (tgt := 1336) hx hb dL_law_517 (by decide) (fun _ => K _ _ _ _ _ _ _ _ _ _ _ _ _ _ _ _ _ _ _ hJ hP hD hS) (fun c9 => absurd rfl c9)
set_option maxHeartbeats 8000000 in
set_option maxRecDepth 100000 in
theorem lo_when (hC : LCx p s m meth c E bs Ls xs) (hN : 500000 ≤ N) (v1 : vp_in (x3 + 1) Ls) (hl : lv_has ls 4 [(0, .ref bs), (1, .ref (b 0 0)), (2, .ref (ax 0)), (3, .int x3)]) (hI : Inv L s0 s1 h1 s3 s4 h4 s5 s6 s8 s9 t9 μ τ) (hP : va_P E.1 vwCl (wX8 E ax μ τ ++ w7 E b L s0 s1 h1 s2 h2 s3 s4 h4 s5 s6 s7 s8 s9 t9) H) (hD : va_D (LA s) (wX8 E ax μ τ ++ w7 E b L s0 s1 h1 s2 h2 s3 s4 h4 s5 s6 s7 s8 s9 t9)) (hS : va_S (LA s) s.heap H locs) (hcl : cells + 2 ≤ 600000) (hsl : slots + 103 ≤ 7302250) (K : LK p l e s m below meth c E b ax bs cells slots Q ls) : W p l e room_1 s m #[Value.ref bs] below meth c H locs cells slots Q (F0 m 522 ls []) := by
  obtain ⟨hx, hb, hml, hown, hts, hX, hbl, hK, hG, hg⟩ := hC
  have hA : ∀ q : Nat, s.heap.size ≤ q → LA s q := fun _ h => h
  have hAB : ∀ q : Nat, LA s q → E.2.2.2.2.1 ≤ q := fun q h => by rw [hg]; exact h
  have hbA : ¬ LA s bs := Nat.not_le.mpr hbl
  have hc0 : cells + 0 ≤ room_1.cells := Nat.le_trans (Nat.le_add_right cells 2) hcl
  have hs0 : slots + 0 ≤ room_1.slots := Nat.le_trans (Nat.le_add_right slots 103) hsl
  obtain ⟨a, ⟨z1, z2⟩, μ1, e1, e2, hJ⟩ := in_when (N := N) (s2 := s2) (h2 := h2) hN hI (xs (x3 + 1).toNatClampNeg)
  refine lv_aload_n hx hb dL_law_522 rfl (lv_at hl 1 rfl) ?_
  refine lv_aload_n hx hb dL_law_523 rfl (lv_at hl 0 rfl) ?_
  refine lv_iload_n hx hb dL_law_524 rfl (lv_at hl 3 rfl) ?_
  refine lv_iconst (v := 1) hx hb dL_law_525 (by decide) ?_
  refine lv_iadd hx hb dL_law_526 ?_
  refine va_sld hx hb hX hbl hbA hS v1 dL_law_527 ?_
  refine fin_i (E := E) (r := a) (wc := w7 E b L s0 s1 h1 s2 h2 s3 s4 h4 s5 s6 s7 s8 s9 t9) (wc' := w7 E b L s0 s1 h1 z1 z2 s3 s4 h4 s5 s6 s7 s8 s9 t9) (va_runV (As := [.int (xs (x3 + 1).toNatClampNeg)]) (rest := []) ⟨hx, hb, hml, hown, hts⟩ (k_X7_when l E (b 0) (b 1) (b 2) (b 3) (b 4) (b 5) (b 6) (b 7) (b 8) (b 9) L N s0 s1 h1 s2 h2 s3 s4 h4 s5 s6 s7 s8 s9 t9 (xs (x3 + 1).toNatClampNeg) (a, z1, z2) e1 _) (cwV 1 hts gl_X7_when rfl rfl rfl (by decide +kernel) ⟨(Nat.le_of_ble_eq_true rfl), (Nat.le_of_ble_eq_true rfl)⟩) (pre_v (ci := 7) (q0 := 0) hK (ap_P.mp hP).2 (ap_D2 hD) hS hG hAB rfl rfl) rfl rfl hl.1 rfl (lv_room (Nat.le_of_ble_eq_true rfl)) dL_law_528 ⟨hc0, hs0⟩) hS (w_free (ap_D2 hD) hS hA (fun _ h => h)) (fun H1 locs hP1 hk hS => ?_)
  have hP := jn_B hP hD hk hP1
  have hD := wD hD s0 s1 h1 z1 z2 s3 s4 h4 s5 s6 s7 s8 s9 t9 μ τ
  clear hP1 hk
  refine lv_aload_n hx hb dL_law_531 rfl (lv_at hl 2 rfl) ?_
  refine lv_aload_n hx hb dL_law_532 rfl (lv_at hl 0 rfl) ?_
  refine lv_iload_n hx hb dL_law_533 rfl (lv_at hl 3 rfl) ?_
  refine lv_iconst (v := 1) hx hb dL_law_534 (by decide) ?_
  refine lv_iadd hx hb dL_law_535 ?_
  refine va_sld hx hb hX hbl hbA hS v1 dL_law_536 ?_
  refine fin_i (E := E) (r := a) (wc := wX8 E ax μ τ) (wc' := wX8 E ax μ1 τ) (va_runV (As := [.int (xs (x3 + 1).toNatClampNeg)]) (rest := [.int a]) ⟨hx, hb, hml, hown, hts⟩ (k_X8_when l E ax N μ τ (xs (x3 + 1).toNatClampNeg) (a, μ1) e2 _) (cwV 1 hts gl_X8_when rfl rfl rfl (by decide +kernel) ⟨(Nat.le_of_ble_eq_true rfl), (Nat.le_of_ble_eq_true rfl)⟩) (pre_v (ci := 8) (q0 := 0) hK (ap_P.mp hP).1 (ap_D1 hD) hS hG hAB rfl rfl) rfl rfl hl.1 rfl (lv_room (Nat.le_of_ble_eq_true rfl)) dL_law_537 ⟨hc0, hs0⟩) hS (w_free (ap_D1 hD) hS hA (fun _ h => h)) (fun H2 locs hP1 hk hS => ?_)
  have hP := jn_A hP hD hk hP1
  have hD := wD hD s0 s1 h1 z1 z2 s3 s4 h4 s5 s6 s7 s8 s9 t9 μ1 τ
  exact lv_icmp_eq (tgt := 1336) hx hb dL_law_540 (by decide) (fun _ => K _ _ _ _ _ _ _ _ _ _ _ _ _ _ _ _ _ _ _ hJ hP hD hS) (fun c9 => absurd rfl c9)
set_option maxHeartbeats 8000000 in
set_option maxRecDepth 100000 in
theorem lo_most (hC : LCx p s m meth c E bs Ls xs) (hN : 500000 ≤ N) (v1 : vp_in (x3 + 1) Ls) (hl : lv_has ls 4 [(0, .ref bs), (1, .ref (b 0 0)), (2, .ref (ax 0)), (3, .int x3)]) (hI : Inv L s0 s1 h1 s3 s4 h4 s5 s6 s8 s9 t9 μ τ) (hP : va_P E.1 vwCl (wX8 E ax μ τ ++ w7 E b L s0 s1 h1 s2 h2 s3 s4 h4 s5 s6 s7 s8 s9 t9) H) (hD : va_D (LA s) (wX8 E ax μ τ ++ w7 E b L s0 s1 h1 s2 h2 s3 s4 h4 s5 s6 s7 s8 s9 t9)) (hS : va_S (LA s) s.heap H locs) (hcl : cells + 2 ≤ 600000) (hsl : slots + 103 ≤ 7302250) (K : LK p l e s m below meth c E b ax bs cells slots Q ls) : W p l e room_1 s m #[Value.ref bs] below meth c H locs cells slots Q (F0 m 545 ls []) := by
  obtain ⟨hx, hb, hml, hown, hts, hX, hbl, hK, hG, hg⟩ := hC
  have hA : ∀ q : Nat, s.heap.size ≤ q → LA s q := fun _ h => h
  have hAB : ∀ q : Nat, LA s q → E.2.2.2.2.1 ≤ q := fun q h => by rw [hg]; exact h
  have hbA : ¬ LA s bs := Nat.not_le.mpr hbl
  have hc0 : cells + 0 ≤ room_1.cells := Nat.le_trans (Nat.le_add_right cells 2) hcl
  have hs0 : slots + 0 ≤ room_1.slots := Nat.le_trans (Nat.le_add_right slots 103) hsl
  obtain ⟨a, ⟨z1, z2, z3⟩, μ1, e1, e2, hJ⟩ := in_most (N := N) (s2 := s2) (h2 := h2) (s7 := s7) hN hI (xs (x3 + 1).toNatClampNeg)
  refine lv_aload_n hx hb dL_law_545 rfl (lv_at hl 1 rfl) ?_
  refine lv_aload_n hx hb dL_law_546 rfl (lv_at hl 0 rfl) ?_
  refine lv_iload_n hx hb dL_law_547 rfl (lv_at hl 3 rfl) ?_
  refine lv_iconst (v := 1) hx hb dL_law_548 (by decide) ?_
  refine lv_iadd hx hb dL_law_549 ?_
  refine va_sld hx hb hX hbl hbA hS v1 dL_law_550 ?_
  refine fin_i (E := E) (r := a) (wc := w7 E b L s0 s1 h1 s2 h2 s3 s4 h4 s5 s6 s7 s8 s9 t9) (wc' := w7 E b L s0 s1 h1 z1 z2 s3 s4 h4 s5 s6 z3 s8 s9 t9) (va_runV (As := [.int (xs (x3 + 1).toNatClampNeg)]) (rest := []) ⟨hx, hb, hml, hown, hts⟩ (k_X7_most l E (b 0) (b 1) (b 2) (b 3) (b 4) (b 5) (b 6) (b 7) (b 8) (b 9) L N s0 s1 h1 s2 h2 s3 s4 h4 s5 s6 s7 s8 s9 t9 (xs (x3 + 1).toNatClampNeg) (a, z1, z2, z3) e1 _) (cwV 1 hts gl_X7_most rfl rfl rfl (by decide +kernel) ⟨(Nat.le_of_ble_eq_true rfl), (Nat.le_of_ble_eq_true rfl)⟩) (pre_v (ci := 7) (q0 := 0) hK (ap_P.mp hP).2 (ap_D2 hD) hS hG hAB rfl rfl) rfl rfl hl.1 rfl (lv_room (Nat.le_of_ble_eq_true rfl)) dL_law_551 ⟨hc0, hs0⟩) hS (w_free (ap_D2 hD) hS hA (fun _ h => h)) (fun H1 locs hP1 hk hS => ?_)
  have hP := jn_B hP hD hk hP1
  have hD := wD hD s0 s1 h1 z1 z2 s3 s4 h4 s5 s6 z3 s8 s9 t9 μ τ
  clear hP1 hk
  refine lv_aload_n hx hb dL_law_554 rfl (lv_at hl 2 rfl) ?_
  refine lv_aload_n hx hb dL_law_555 rfl (lv_at hl 0 rfl) ?_
  refine lv_iload_n hx hb dL_law_556 rfl (lv_at hl 3 rfl) ?_
  refine lv_iconst (v := 1) hx hb dL_law_557 (by decide) ?_
  refine lv_iadd hx hb dL_law_558 ?_
  refine va_sld hx hb hX hbl hbA hS v1 dL_law_559 ?_
  refine fin_i (E := E) (r := a) (wc := wX8 E ax μ τ) (wc' := wX8 E ax μ1 τ) (va_runV (As := [.int (xs (x3 + 1).toNatClampNeg)]) (rest := [.int a]) ⟨hx, hb, hml, hown, hts⟩ (k_X8_most l E ax N μ τ (xs (x3 + 1).toNatClampNeg) (a, μ1) e2 _) (cwV 1 hts gl_X8_most rfl rfl rfl (by decide +kernel) ⟨(Nat.le_of_ble_eq_true rfl), (Nat.le_of_ble_eq_true rfl)⟩) (pre_v (ci := 8) (q0 := 0) hK (ap_P.mp hP).1 (ap_D1 hD) hS hG hAB rfl rfl) rfl rfl hl.1 rfl (lv_room (Nat.le_of_ble_eq_true rfl)) dL_law_560 ⟨hc0, hs0⟩) hS (w_free (ap_D1 hD) hS hA (fun _ h => h)) (fun H2 locs hP1 hk hS => ?_)
  have hP := jn_A hP hD hk hP1
  have hD := wD hD s0 s1 h1 z1 z2 s3 s4 h4 s5 s6 z3 s8 s9 t9 μ1 τ
  exact lv_icmp_eq (tgt := 1336) hx hb dL_law_563 (by decide) (fun _ => K _ _ _ _ _ _ _ _ _ _ _ _ _ _ _ _ _ _ _ hJ hP hD hS) (fun c9 => absurd rfl c9)
set_option maxHeartbeats 8000000 in
set_option maxRecDepth 100000 in
theorem lo_best (hC : LCx p s m meth c E bs Ls xs) (hN : 500000 ≤ N) (v1 : vp_in (x3 + 1) Ls) (hl : lv_has ls 4 [(0, .ref bs), (1, .ref (b 0 0)), (2, .ref (ax 0)), (3, .int x3)]) (hI : Inv L s0 s1 h1 s3 s4 h4 s5 s6 s8 s9 t9 μ τ) (hP : va_P E.1 vwCl (wX8 E ax μ τ ++ w7 E b L s0 s1 h1 s2 h2 s3 s4 h4 s5 s6 s7 s8 s9 t9) H) (hD : va_D (LA s) (wX8 E ax μ τ ++ w7 E b L s0 s1 h1 s2 h2 s3 s4 h4 s5 s6 s7 s8 s9 t9)) (hS : va_S (LA s) s.heap H locs) (hcl : cells + 2 ≤ 600000) (hsl : slots + 103 ≤ 7302250) (K : LK p l e s m below meth c E b ax bs cells slots Q ls) : W p l e room_1 s m #[Value.ref bs] below meth c H locs cells slots Q (F0 m 568 ls []) := by
  obtain ⟨hx, hb, hml, hown, hts, hX, hbl, hK, hG, hg⟩ := hC
  have hA : ∀ q : Nat, s.heap.size ≤ q → LA s q := fun _ h => h
  have hAB : ∀ q : Nat, LA s q → E.2.2.2.2.1 ≤ q := fun q h => by rw [hg]; exact h
  have hbA : ¬ LA s bs := Nat.not_le.mpr hbl
  have hc0 : cells + 0 ≤ room_1.cells := Nat.le_trans (Nat.le_add_right cells 2) hcl
  have hs0 : slots + 0 ≤ room_1.slots := Nat.le_trans (Nat.le_add_right slots 103) hsl
  obtain ⟨a, ⟨z1, z2, z3⟩, μ1, e1, e2, hJ⟩ := in_best (N := N) (s2 := s2) (h2 := h2) (s7 := s7) hN hI (xs (x3 + 1).toNatClampNeg)
  refine lv_aload_n hx hb dL_law_568 rfl (lv_at hl 1 rfl) ?_
  refine lv_aload_n hx hb dL_law_569 rfl (lv_at hl 0 rfl) ?_
  refine lv_iload_n hx hb dL_law_570 rfl (lv_at hl 3 rfl) ?_
  refine lv_iconst (v := 1) hx hb dL_law_571 (by decide) ?_
  refine lv_iadd hx hb dL_law_572 ?_
  refine va_sld hx hb hX hbl hbA hS v1 dL_law_573 ?_
  refine fin_i (E := E) (r := a) (wc := w7 E b L s0 s1 h1 s2 h2 s3 s4 h4 s5 s6 s7 s8 s9 t9) (wc' := w7 E b L s0 s1 h1 z1 z2 s3 s4 h4 s5 s6 z3 s8 s9 t9) (va_runV (As := [.int (xs (x3 + 1).toNatClampNeg)]) (rest := []) ⟨hx, hb, hml, hown, hts⟩ (k_X7_best l E (b 0) (b 1) (b 2) (b 3) (b 4) (b 5) (b 6) (b 7) (b 8) (b 9) L N s0 s1 h1 s2 h2 s3 s4 h4 s5 s6 s7 s8 s9 t9 (xs (x3 + 1).toNatClampNeg) (a, z1, z2, z3) e1 _) (cwV 1 hts gl_X7_best rfl rfl rfl (by decide +kernel) ⟨(Nat.le_of_ble_eq_true rfl), (Nat.le_of_ble_eq_true rfl)⟩) (pre_v (ci := 7) (q0 := 0) hK (ap_P.mp hP).2 (ap_D2 hD) hS hG hAB rfl rfl) rfl rfl hl.1 rfl (lv_room (Nat.le_of_ble_eq_true rfl)) dL_law_574 ⟨hc0, hs0⟩) hS (w_free (ap_D2 hD) hS hA (fun _ h => h)) (fun H1 locs hP1 hk hS => ?_)
  have hP := jn_B hP hD hk hP1
  have hD := wD hD s0 s1 h1 z1 z2 s3 s4 h4 s5 s6 z3 s8 s9 t9 μ τ
  clear hP1 hk
  refine lv_aload_n hx hb dL_law_577 rfl (lv_at hl 2 rfl) ?_
  refine lv_aload_n hx hb dL_law_578 rfl (lv_at hl 0 rfl) ?_
  refine lv_iload_n hx hb dL_law_579 rfl (lv_at hl 3 rfl) ?_
  refine lv_iconst (v := 1) hx hb dL_law_580 (by decide) ?_
  refine lv_iadd hx hb dL_law_581 ?_
  refine va_sld hx hb hX hbl hbA hS v1 dL_law_582 ?_
  refine fin_i (E := E) (r := a) (wc := wX8 E ax μ τ) (wc' := wX8 E ax μ1 τ) (va_runV (As := [.int (xs (x3 + 1).toNatClampNeg)]) (rest := [.int a]) ⟨hx, hb, hml, hown, hts⟩ (k_X8_best l E ax N μ τ (xs (x3 + 1).toNatClampNeg) (a, μ1) e2 _) (cwV 1 hts gl_X8_best rfl rfl rfl (by decide +kernel) ⟨(Nat.le_of_ble_eq_true rfl), (Nat.le_of_ble_eq_true rfl)⟩) (pre_v (ci := 8) (q0 := 0) hK (ap_P.mp hP).1 (ap_D1 hD) hS hG hAB rfl rfl) rfl rfl hl.1 rfl (lv_room (Nat.le_of_ble_eq_true rfl)) dL_law_583 ⟨hc0, hs0⟩) hS (w_free (ap_D1 hD) hS hA (fun _ h => h)) (fun H2 locs hP1 hk hS => ?_)
  have hP := jn_A hP hD hk hP1
  have hD := wD hD s0 s1 h1 z1 z2 s3 s4 h4 s5 s6 z3 s8 s9 t9 μ1 τ
  exact lv_icmp_eq (tgt := 1336) hx hb dL_law_586 (by decide) (fun _ => K _ _ _ _ _ _ _ _ _ _ _ _ _ _ _ _ _ _ _ hJ hP hD hS) (fun c9 => absurd rfl c9)
set_option maxHeartbeats 8000000 in
set_option maxRecDepth 100000 in
theorem lo_reach (hC : LCx p s m meth c E bs Ls xs) (hN : 500000 ≤ N) (v1 : vp_in (x3 + 1) Ls) (hl : lv_has ls 4 [(0, .ref bs), (1, .ref (b 0 0)), (2, .ref (ax 0)), (3, .int x3)]) (hI : Inv L s0 s1 h1 s3 s4 h4 s5 s6 s8 s9 t9 μ τ) (hP : va_P E.1 vwCl (wX8 E ax μ τ ++ w7 E b L s0 s1 h1 s2 h2 s3 s4 h4 s5 s6 s7 s8 s9 t9) H) (hD : va_D (LA s) (wX8 E ax μ τ ++ w7 E b L s0 s1 h1 s2 h2 s3 s4 h4 s5 s6 s7 s8 s9 t9)) (hS : va_S (LA s) s.heap H locs) (hcl : cells + 2 ≤ 600000) (hsl : slots + 103 ≤ 7302250) (K : LK p l e s m below meth c E b ax bs cells slots Q ls) : W p l e room_1 s m #[Value.ref bs] below meth c H locs cells slots Q (F0 m 591 ls []) := by
  obtain ⟨hx, hb, hml, hown, hts, hX, hbl, hK, hG, hg⟩ := hC
  have hA : ∀ q : Nat, s.heap.size ≤ q → LA s q := fun _ h => h
  have hAB : ∀ q : Nat, LA s q → E.2.2.2.2.1 ≤ q := fun q h => by rw [hg]; exact h
  have hbA : ¬ LA s bs := Nat.not_le.mpr hbl
  have hc0 : cells + 0 ≤ room_1.cells := Nat.le_trans (Nat.le_add_right cells 2) hcl
  have hs0 : slots + 0 ≤ room_1.slots := Nat.le_trans (Nat.le_add_right slots 103) hsl
  obtain ⟨a, ⟨z1, z2, z3⟩, μ1, e1, e2, hJ⟩ := in_reach (N := N) (s2 := s2) (h2 := h2) (s7 := s7) hN hI (xs (x3 + 1).toNatClampNeg)
  refine lv_aload_n hx hb dL_law_591 rfl (lv_at hl 1 rfl) ?_
  refine lv_aload_n hx hb dL_law_592 rfl (lv_at hl 0 rfl) ?_
  refine lv_iload_n hx hb dL_law_593 rfl (lv_at hl 3 rfl) ?_
  refine lv_iconst (v := 1) hx hb dL_law_594 (by decide) ?_
  refine lv_iadd hx hb dL_law_595 ?_
  refine va_sld hx hb hX hbl hbA hS v1 dL_law_596 ?_
  refine fin_i (E := E) (r := a) (wc := w7 E b L s0 s1 h1 s2 h2 s3 s4 h4 s5 s6 s7 s8 s9 t9) (wc' := w7 E b L s0 s1 h1 z1 z2 s3 s4 h4 s5 s6 z3 s8 s9 t9) (va_runV (As := [.int (xs (x3 + 1).toNatClampNeg)]) (rest := []) ⟨hx, hb, hml, hown, hts⟩ (k_X7_reach l E (b 0) (b 1) (b 2) (b 3) (b 4) (b 5) (b 6) (b 7) (b 8) (b 9) L N s0 s1 h1 s2 h2 s3 s4 h4 s5 s6 s7 s8 s9 t9 (xs (x3 + 1).toNatClampNeg) (a, z1, z2, z3) e1 _) (cwV 1 hts gl_X7_reach rfl rfl rfl (by decide +kernel) ⟨(Nat.le_of_ble_eq_true rfl), (Nat.le_of_ble_eq_true rfl)⟩) (pre_v (ci := 7) (q0 := 0) hK (ap_P.mp hP).2 (ap_D2 hD) hS hG hAB rfl rfl) rfl rfl hl.1 rfl (lv_room (Nat.le_of_ble_eq_true rfl)) dL_law_597 ⟨hc0, hs0⟩) hS (w_free (ap_D2 hD) hS hA (fun _ h => h)) (fun H1 locs hP1 hk hS => ?_)
  have hP := jn_B hP hD hk hP1
  have hD := wD hD s0 s1 h1 z1 z2 s3 s4 h4 s5 s6 z3 s8 s9 t9 μ τ
  clear hP1 hk
  refine lv_aload_n hx hb dL_law_600 rfl (lv_at hl 2 rfl) ?_
  refine lv_aload_n hx hb dL_law_601 rfl (lv_at hl 0 rfl) ?_
  refine lv_iload_n hx hb dL_law_602 rfl (lv_at hl 3 rfl) ?_
  refine lv_iconst (v := 1) hx hb dL_law_603 (by decide) ?_
  refine lv_iadd hx hb dL_law_604 ?_
  refine va_sld hx hb hX hbl hbA hS v1 dL_law_605 ?_
  refine fin_i (E := E) (r := a) (wc := wX8 E ax μ τ) (wc' := wX8 E ax μ1 τ) (va_runV (As := [.int (xs (x3 + 1).toNatClampNeg)]) (rest := [.int a]) ⟨hx, hb, hml, hown, hts⟩ (k_X8_reach l E ax N μ τ (xs (x3 + 1).toNatClampNeg) (a, μ1) e2 _) (cwV 1 hts gl_X8_reach rfl rfl rfl (by decide +kernel) ⟨(Nat.le_of_ble_eq_true rfl), (Nat.le_of_ble_eq_true rfl)⟩) (pre_v (ci := 8) (q0 := 0) hK (ap_P.mp hP).1 (ap_D1 hD) hS hG hAB rfl rfl) rfl rfl hl.1 rfl (lv_room (Nat.le_of_ble_eq_true rfl)) dL_law_606 ⟨hc0, hs0⟩) hS (w_free (ap_D1 hD) hS hA (fun _ h => h)) (fun H2 locs hP1 hk hS => ?_)
  have hP := jn_A hP hD hk hP1
  have hD := wD hD s0 s1 h1 z1 z2 s3 s4 h4 s5 s6 z3 s8 s9 t9 μ1 τ
  exact lv_icmp_eq (tgt := 1336) hx hb dL_law_609 (by decide) (fun _ => K _ _ _ _ _ _ _ _ _ _ _ _ _ _ _ _ _ _ _ hJ hP hD hS) (fun c9 => absurd rfl c9)
set_option maxHeartbeats 8000000 in
set_option maxRecDepth 100000 in
theorem lo_fitting (hC : LCx p s m meth c E bs Ls xs) (hN : 500000 ≤ N) (v1 : vp_in (x3 + 1) Ls) (v2 : vp_in (x3 + 2) Ls) (hl : lv_has ls 4 [(0, .ref bs), (1, .ref (b 0 0)), (2, .ref (ax 0)), (3, .int x3)]) (hI : Inv L s0 s1 h1 s3 s4 h4 s5 s6 s8 s9 t9 μ τ) (hP : va_P E.1 vwCl (wX8 E ax μ τ ++ w7 E b L s0 s1 h1 s2 h2 s3 s4 h4 s5 s6 s7 s8 s9 t9) H) (hD : va_D (LA s) (wX8 E ax μ τ ++ w7 E b L s0 s1 h1 s2 h2 s3 s4 h4 s5 s6 s7 s8 s9 t9)) (hS : va_S (LA s) s.heap H locs) (hcl : cells + 2 ≤ 600000) (hsl : slots + 103 ≤ 7302250) (K : LK p l e s m below meth c E b ax bs cells slots Q ls) : W p l e room_1 s m #[Value.ref bs] below meth c H locs cells slots Q (F0 m 614 ls []) := by
  obtain ⟨hx, hb, hml, hown, hts, hX, hbl, hK, hG, hg⟩ := hC
  have hA : ∀ q : Nat, s.heap.size ≤ q → LA s q := fun _ h => h
  have hAB : ∀ q : Nat, LA s q → E.2.2.2.2.1 ≤ q := fun q h => by rw [hg]; exact h
  have hbA : ¬ LA s bs := Nat.not_le.mpr hbl
  have hc0 : cells + 0 ≤ room_1.cells := Nat.le_trans (Nat.le_add_right cells 2) hcl
  have hs0 : slots + 0 ≤ room_1.slots := Nat.le_trans (Nat.le_add_right slots 103) hsl
  obtain ⟨a, ⟨z1, z2⟩, μ1, e1, e2, hJ⟩ := in_fitting (N := N) (s2 := s2) (h2 := h2) hN hI (xs (x3 + 1).toNatClampNeg) (xs (x3 + 2).toNatClampNeg)
  refine lv_aload_n hx hb dL_law_614 rfl (lv_at hl 1 rfl) ?_
  refine lv_aload_n hx hb dL_law_615 rfl (lv_at hl 0 rfl) ?_
  refine lv_iload_n hx hb dL_law_616 rfl (lv_at hl 3 rfl) ?_
  refine lv_iconst (v := 1) hx hb dL_law_617 (by decide) ?_
  refine lv_iadd hx hb dL_law_618 ?_
  refine va_sld hx hb hX hbl hbA hS v1 dL_law_619 ?_
  refine lv_aload_n hx hb dL_law_620 rfl (lv_at hl 0 rfl) ?_
  refine lv_iload_n hx hb dL_law_621 rfl (lv_at hl 3 rfl) ?_
  refine lv_iconst (v := 2) hx hb dL_law_622 (by decide) ?_
  refine lv_iadd hx hb dL_law_623 ?_
  refine va_sld hx hb hX hbl hbA hS v2 dL_law_624 ?_
  refine fin_i (E := E) (r := a) (wc := w7 E b L s0 s1 h1 s2 h2 s3 s4 h4 s5 s6 s7 s8 s9 t9) (wc' := w7 E b L s0 s1 h1 z1 z2 s3 s4 h4 s5 s6 s7 s8 s9 t9) (va_runV (As := [.int (xs (x3 + 1).toNatClampNeg), .int (xs (x3 + 2).toNatClampNeg)]) (rest := []) ⟨hx, hb, hml, hown, hts⟩ (k_X7_fitting l E (b 0) (b 1) (b 2) (b 3) (b 4) (b 5) (b 6) (b 7) (b 8) (b 9) L N s0 s1 h1 s2 h2 s3 s4 h4 s5 s6 s7 s8 s9 t9 (xs (x3 + 1).toNatClampNeg) (xs (x3 + 2).toNatClampNeg) (a, z1, z2) e1 _) (cwV 2 hts gl_X7_fitting rfl rfl rfl (by decide +kernel) ⟨(Nat.le_of_ble_eq_true rfl), (Nat.le_of_ble_eq_true rfl)⟩) (pre_v (ci := 7) (q0 := 0) hK (ap_P.mp hP).2 (ap_D2 hD) hS hG hAB rfl rfl) rfl rfl hl.1 rfl (lv_room (Nat.le_of_ble_eq_true rfl)) dL_law_625 ⟨hc0, hs0⟩) hS (w_free (ap_D2 hD) hS hA (fun _ h => h)) (fun H1 locs hP1 hk hS => ?_)
  have hP := jn_B hP hD hk hP1
  have hD := wD hD s0 s1 h1 z1 z2 s3 s4 h4 s5 s6 s7 s8 s9 t9 μ τ
  clear hP1 hk
  refine lv_aload_n hx hb dL_law_628 rfl (lv_at hl 2 rfl) ?_
  refine lv_aload_n hx hb dL_law_629 rfl (lv_at hl 0 rfl) ?_
  refine lv_iload_n hx hb dL_law_630 rfl (lv_at hl 3 rfl) ?_
  refine lv_iconst (v := 1) hx hb dL_law_631 (by decide) ?_
  refine lv_iadd hx hb dL_law_632 ?_
  refine va_sld hx hb hX hbl hbA hS v1 dL_law_633 ?_
  refine lv_aload_n hx hb dL_law_634 rfl (lv_at hl 0 rfl) ?_
  refine lv_iload_n hx hb dL_law_635 rfl (lv_at hl 3 rfl) ?_
  refine lv_iconst (v := 2) hx hb dL_law_636 (by decide) ?_
  refine lv_iadd hx hb dL_law_637 ?_
  refine va_sld hx hb hX hbl hbA hS v2 dL_law_638 ?_
  refine fin_i (E := E) (r := a) (wc := wX8 E ax μ τ) (wc' := wX8 E ax μ1 τ) (va_runV (As := [.int (xs (x3 + 1).toNatClampNeg), .int (xs (x3 + 2).toNatClampNeg)]) (rest := [.int a]) ⟨hx, hb, hml, hown, hts⟩ (k_X8_fitting l E ax N μ τ (xs (x3 + 1).toNatClampNeg) (xs (x3 + 2).toNatClampNeg) (a, μ1) e2 _) (cwV 2 hts gl_X8_fitting rfl rfl rfl (by decide +kernel) ⟨(Nat.le_of_ble_eq_true rfl), (Nat.le_of_ble_eq_true rfl)⟩) (pre_v (ci := 8) (q0 := 0) hK (ap_P.mp hP).1 (ap_D1 hD) hS hG hAB rfl rfl) rfl rfl hl.1 rfl (lv_room (Nat.le_of_ble_eq_true rfl)) dL_law_639 ⟨hc0, hs0⟩) hS (w_free (ap_D1 hD) hS hA (fun _ h => h)) (fun H2 locs hP1 hk hS => ?_)
  have hP := jn_A hP hD hk hP1
  have hD := wD hD s0 s1 h1 z1 z2 s3 s4 h4 s5 s6 s7 s8 s9 t9 μ1 τ
  exact lv_icmp_eq (tgt := 1336) hx hb dL_law_642 (by decide) (fun _ => K _ _ _ _ _ _ _ _ _ _ _ _ _ _ _ _ _ _ _ hJ hP hD hS) (fun c9 => absurd rfl c9)
set_option maxHeartbeats 8000000 in
set_option maxRecDepth 100000 in
theorem lo_see (hC : LCx p s m meth c E bs Ls xs) (hN : 500000 ≤ N) (v1 : vp_in (x3 + 1) Ls) (v2 : vp_in (x3 + 2) Ls) (v3 : vp_in (x3 + 3) Ls) (hl : lv_has ls 4 [(0, .ref bs), (1, .ref (b 0 0)), (2, .ref (ax 0)), (3, .int x3)]) (hI : Inv L s0 s1 h1 s3 s4 h4 s5 s6 s8 s9 t9 μ τ) (hP : va_P E.1 vwCl (wX8 E ax μ τ ++ w7 E b L s0 s1 h1 s2 h2 s3 s4 h4 s5 s6 s7 s8 s9 t9) H) (hD : va_D (LA s) (wX8 E ax μ τ ++ w7 E b L s0 s1 h1 s2 h2 s3 s4 h4 s5 s6 s7 s8 s9 t9)) (hS : va_S (LA s) s.heap H locs) (hcl : cells + 2 ≤ 600000) (hsl : slots + 103 ≤ 7302250) (K : LK p l e s m below meth c E b ax bs cells slots Q ls) : W p l e room_1 s m #[Value.ref bs] below meth c H locs cells slots Q (F0 m 647 ls []) := by
  obtain ⟨hx, hb, hml, hown, hts, hX, hbl, hK, hG, hg⟩ := hC
  have hA : ∀ q : Nat, s.heap.size ≤ q → LA s q := fun _ h => h
  have hAB : ∀ q : Nat, LA s q → E.2.2.2.2.1 ≤ q := fun q h => by rw [hg]; exact h
  have hbA : ¬ LA s bs := Nat.not_le.mpr hbl
  have hc0 : cells + 0 ≤ room_1.cells := Nat.le_trans (Nat.le_add_right cells 2) hcl
  have hs0 : slots + 0 ≤ room_1.slots := Nat.le_trans (Nat.le_add_right slots 103) hsl
  by_cases c0 : xs (x3 + 2).toNatClampNeg = 0
  · obtain ⟨a, z, μ1, e1, e2, hJ⟩ := in_see (N := N) hN hI (xs (x3 + 1).toNatClampNeg) 0 (xs (x3 + 3).toNatClampNeg) (Or.inl rfl)
    refine lv_aload_n hx hb dL_law_647 rfl (lv_at hl 1 rfl) ?_
    refine lv_aload_n hx hb dL_law_648 rfl (lv_at hl 0 rfl) ?_
    refine lv_iload_n hx hb dL_law_649 rfl (lv_at hl 3 rfl) ?_
    refine lv_iconst (v := 1) hx hb dL_law_650 (by decide) ?_
    refine lv_iadd hx hb dL_law_651 ?_
    refine va_sld hx hb hX hbl hbA hS v1 dL_law_652 ?_
    refine lv_aload_n hx hb dL_law_653 rfl (lv_at hl 0 rfl) ?_
    refine lv_iload_n hx hb dL_law_654 rfl (lv_at hl 3 rfl) ?_
    refine lv_iconst (v := 2) hx hb dL_law_655 (by decide) ?_
    refine lv_iadd hx hb dL_law_656 ?_
    refine va_sld hx hb hX hbl hbA hS v2 dL_law_657 ?_
    refine lv_if_eq (tgt := 665) hx hb dL_law_658 (by decide) (fun _ => ?_) (fun c9 => absurd c0 c9)
    refine lv_iconst (v := 0) hx hb dL_law_665 (by decide) ?_
    refine lv_aload_n hx hb dL_law_666 rfl (lv_at hl 0 rfl) ?_
    refine lv_iload_n hx hb dL_law_667 rfl (lv_at hl 3 rfl) ?_
    refine lv_iconst (v := 3) hx hb dL_law_668 (by decide) ?_
    refine lv_iadd hx hb dL_law_669 ?_
    refine va_sld hx hb hX hbl hbA hS v3 dL_law_670 ?_
    refine fin_i (E := E) (r := a) (wc := w7 E b L s0 s1 h1 s2 h2 s3 s4 h4 s5 s6 s7 s8 s9 t9) (wc' := w7 E b L s0 s1 h1 s2 h2 z s4 h4 s5 s6 s7 s8 s9 t9) (va_runV (As := [.int (xs (x3 + 1).toNatClampNeg), .int 0, .int (xs (x3 + 3).toNatClampNeg)]) (rest := []) ⟨hx, hb, hml, hown, hts⟩ (k_X7_see l E (b 0) (b 1) (b 2) (b 3) (b 4) (b 5) (b 6) (b 7) (b 8) (b 9) L N s0 s1 h1 s2 h2 s3 s4 h4 s5 s6 s7 s8 s9 t9 (xs (x3 + 1).toNatClampNeg) 0 (xs (x3 + 3).toNatClampNeg) (a, z) e1 _) (cwV 3 hts gl_X7_see rfl rfl rfl (by decide +kernel) ⟨(Nat.le_of_ble_eq_true rfl), (Nat.le_of_ble_eq_true rfl)⟩) (pre_v (ci := 7) (q0 := 0) hK (ap_P.mp hP).2 (ap_D2 hD) hS hG hAB rfl rfl) rfl rfl hl.1 rfl (lv_room (Nat.le_of_ble_eq_true rfl)) dL_law_671 ⟨hc0, hs0⟩) hS (w_free (ap_D2 hD) hS hA (fun _ h => h)) (fun H1 locs hP1 hk hS => ?_)
    have hP := jn_B hP hD hk hP1
    have hD := wD hD s0 s1 h1 s2 h2 z s4 h4 s5 s6 s7 s8 s9 t9 μ τ
    clear hP1 hk
    refine lv_aload_n hx hb dL_law_674 rfl (lv_at hl 2 rfl) ?_
    refine lv_aload_n hx hb dL_law_675 rfl (lv_at hl 0 rfl) ?_
    refine lv_iload_n hx hb dL_law_676 rfl (lv_at hl 3 rfl) ?_
    refine lv_iconst (v := 1) hx hb dL_law_677 (by decide) ?_
    refine lv_iadd hx hb dL_law_678 ?_
    refine va_sld hx hb hX hbl hbA hS v1 dL_law_679 ?_
    refine lv_aload_n hx hb dL_law_680 rfl (lv_at hl 0 rfl) ?_
    refine lv_iload_n hx hb dL_law_681 rfl (lv_at hl 3 rfl) ?_
    refine lv_iconst (v := 2) hx hb dL_law_682 (by decide) ?_
    refine lv_iadd hx hb dL_law_683 ?_
    refine va_sld hx hb hX hbl hbA hS v2 dL_law_684 ?_
    refine lv_if_eq (tgt := 692) hx hb dL_law_685 (by decide) (fun _ => ?_) (fun c9 => absurd c0 c9)
    refine lv_iconst (v := 0) hx hb dL_law_692 (by decide) ?_
    refine lv_aload_n hx hb dL_law_693 rfl (lv_at hl 0 rfl) ?_
    refine lv_iload_n hx hb dL_law_694 rfl (lv_at hl 3 rfl) ?_
    refine lv_iconst (v := 3) hx hb dL_law_695 (by decide) ?_
    refine lv_iadd hx hb dL_law_696 ?_
    refine va_sld hx hb hX hbl hbA hS v3 dL_law_697 ?_
    refine fin_i (E := E) (r := a) (wc := wX8 E ax μ τ) (wc' := wX8 E ax μ1 τ) (va_runV (As := [.int (xs (x3 + 1).toNatClampNeg), .int 0, .int (xs (x3 + 3).toNatClampNeg)]) (rest := [.int a]) ⟨hx, hb, hml, hown, hts⟩ (k_X8_see l E ax N μ τ (xs (x3 + 1).toNatClampNeg) 0 (xs (x3 + 3).toNatClampNeg) (a, μ1) e2 _) (cwV 3 hts gl_X8_see rfl rfl rfl (by decide +kernel) ⟨(Nat.le_of_ble_eq_true rfl), (Nat.le_of_ble_eq_true rfl)⟩) (pre_v (ci := 8) (q0 := 0) hK (ap_P.mp hP).1 (ap_D1 hD) hS hG hAB rfl rfl) rfl rfl hl.1 rfl (lv_room (Nat.le_of_ble_eq_true rfl)) dL_law_698 ⟨hc0, hs0⟩) hS (w_free (ap_D1 hD) hS hA (fun _ h => h)) (fun H2 locs hP1 hk hS => ?_)
    have hP := jn_A hP hD hk hP1
    have hD := wD hD s0 s1 h1 s2 h2 z s4 h4 s5 s6 s7 s8 s9 t9 μ1 τ
    exact lv_icmp_eq (tgt := 1336) hx hb dL_law_701 (by decide) (fun _ => K _ _ _ _ _ _ _ _ _ _ _ _ _ _ _ _ _ _ _ hJ hP hD hS) (fun c9 => absurd rfl c9)
  · obtain ⟨a, z, μ1, e1, e2, hJ⟩ := in_see (N := N) hN hI (xs (x3 + 1).toNatClampNeg) 1 (xs (x3 + 3).toNatClampNeg) (Or.inr rfl)
    refine lv_aload_n hx hb dL_law_647 rfl (lv_at hl 1 rfl) ?_
    refine lv_aload_n hx hb dL_law_648 rfl (lv_at hl 0 rfl) ?_
    refine lv_iload_n hx hb dL_law_649 rfl (lv_at hl 3 rfl) ?_
    refine lv_iconst (v := 1) hx hb dL_law_650 (by decide) ?_
    refine lv_iadd hx hb dL_law_651 ?_
    refine va_sld hx hb hX hbl hbA hS v1 dL_law_652 ?_
    refine lv_aload_n hx hb dL_law_653 rfl (lv_at hl 0 rfl) ?_
    refine lv_iload_n hx hb dL_law_654 rfl (lv_at hl 3 rfl) ?_
    refine lv_iconst (v := 2) hx hb dL_law_655 (by decide) ?_
    refine lv_iadd hx hb dL_law_656 ?_
    refine va_sld hx hb hX hbl hbA hS v2 dL_law_657 ?_
    refine lv_if_eq (tgt := 665) hx hb dL_law_658 (by decide) (fun c9 => absurd c9 c0) (fun _ => ?_)
    refine lv_iconst (v := 1) hx hb dL_law_661 (by decide) ?_
    refine lv_goto (tgt := 666) hx hb dL_law_662 (by decide) ?_
    refine lv_aload_n hx hb dL_law_666 rfl (lv_at hl 0 rfl) ?_
    refine lv_iload_n hx hb dL_law_667 rfl (lv_at hl 3 rfl) ?_
    refine lv_iconst (v := 3) hx hb dL_law_668 (by decide) ?_
    refine lv_iadd hx hb dL_law_669 ?_
    refine va_sld hx hb hX hbl hbA hS v3 dL_law_670 ?_
    refine fin_i (E := E) (r := a) (wc := w7 E b L s0 s1 h1 s2 h2 s3 s4 h4 s5 s6 s7 s8 s9 t9) (wc' := w7 E b L s0 s1 h1 s2 h2 z s4 h4 s5 s6 s7 s8 s9 t9) (va_runV (As := [.int (xs (x3 + 1).toNatClampNeg), .int 1, .int (xs (x3 + 3).toNatClampNeg)]) (rest := []) ⟨hx, hb, hml, hown, hts⟩ (k_X7_see l E (b 0) (b 1) (b 2) (b 3) (b 4) (b 5) (b 6) (b 7) (b 8) (b 9) L N s0 s1 h1 s2 h2 s3 s4 h4 s5 s6 s7 s8 s9 t9 (xs (x3 + 1).toNatClampNeg) 1 (xs (x3 + 3).toNatClampNeg) (a, z) e1 _) (cwV 3 hts gl_X7_see rfl rfl rfl (by decide +kernel) ⟨(Nat.le_of_ble_eq_true rfl), (Nat.le_of_ble_eq_true rfl)⟩) (pre_v (ci := 7) (q0 := 0) hK (ap_P.mp hP).2 (ap_D2 hD) hS hG hAB rfl rfl) rfl rfl hl.1 rfl (lv_room (Nat.le_of_ble_eq_true rfl)) dL_law_671 ⟨hc0, hs0⟩) hS (w_free (ap_D2 hD) hS hA (fun _ h => h)) (fun H1 locs hP1 hk hS => ?_)
    have hP := jn_B hP hD hk hP1
    have hD := wD hD s0 s1 h1 s2 h2 z s4 h4 s5 s6 s7 s8 s9 t9 μ τ
    clear hP1 hk
    refine lv_aload_n hx hb dL_law_674 rfl (lv_at hl 2 rfl) ?_
    refine lv_aload_n hx hb dL_law_675 rfl (lv_at hl 0 rfl) ?_
    refine lv_iload_n hx hb dL_law_676 rfl (lv_at hl 3 rfl) ?_
    refine lv_iconst (v := 1) hx hb dL_law_677 (by decide) ?_
    refine lv_iadd hx hb dL_law_678 ?_
    refine va_sld hx hb hX hbl hbA hS v1 dL_law_679 ?_
    refine lv_aload_n hx hb dL_law_680 rfl (lv_at hl 0 rfl) ?_
    refine lv_iload_n hx hb dL_law_681 rfl (lv_at hl 3 rfl) ?_
    refine lv_iconst (v := 2) hx hb dL_law_682 (by decide) ?_
    refine lv_iadd hx hb dL_law_683 ?_
    refine va_sld hx hb hX hbl hbA hS v2 dL_law_684 ?_
    refine lv_if_eq (tgt := 692) hx hb dL_law_685 (by decide) (fun c9 => absurd c9 c0) (fun _ => ?_)
    refine lv_iconst (v := 1) hx hb dL_law_688 (by decide) ?_
    refine lv_goto (tgt := 693) hx hb dL_law_689 (by decide) ?_
    refine lv_aload_n hx hb dL_law_693 rfl (lv_at hl 0 rfl) ?_
    refine lv_iload_n hx hb dL_law_694 rfl (lv_at hl 3 rfl) ?_
    refine lv_iconst (v := 3) hx hb dL_law_695 (by decide) ?_
    refine lv_iadd hx hb dL_law_696 ?_
    refine va_sld hx hb hX hbl hbA hS v3 dL_law_697 ?_
    refine fin_i (E := E) (r := a) (wc := wX8 E ax μ τ) (wc' := wX8 E ax μ1 τ) (va_runV (As := [.int (xs (x3 + 1).toNatClampNeg), .int 1, .int (xs (x3 + 3).toNatClampNeg)]) (rest := [.int a]) ⟨hx, hb, hml, hown, hts⟩ (k_X8_see l E ax N μ τ (xs (x3 + 1).toNatClampNeg) 1 (xs (x3 + 3).toNatClampNeg) (a, μ1) e2 _) (cwV 3 hts gl_X8_see rfl rfl rfl (by decide +kernel) ⟨(Nat.le_of_ble_eq_true rfl), (Nat.le_of_ble_eq_true rfl)⟩) (pre_v (ci := 8) (q0 := 0) hK (ap_P.mp hP).1 (ap_D1 hD) hS hG hAB rfl rfl) rfl rfl hl.1 rfl (lv_room (Nat.le_of_ble_eq_true rfl)) dL_law_698 ⟨hc0, hs0⟩) hS (w_free (ap_D1 hD) hS hA (fun _ h => h)) (fun H2 locs hP1 hk hS => ?_)
    have hP := jn_A hP hD hk hP1
    have hD := wD hD s0 s1 h1 s2 h2 z s4 h4 s5 s6 s7 s8 s9 t9 μ1 τ
    exact lv_icmp_eq (tgt := 1336) hx hb dL_law_701 (by decide) (fun _ => K _ _ _ _ _ _ _ _ _ _ _ _ _ _ _ _ _ _ _ hJ hP hD hS) (fun c9 => absurd rfl c9)
set_option maxHeartbeats 8000000 in
set_option maxRecDepth 100000 in
theorem lo_marked (hC : LCx p s m meth c E bs Ls xs) (hN : 500000 ≤ N) (v1 : vp_in (x3 + 1) Ls) (v2 : vp_in (x3 + 2) Ls) (hl : lv_has ls 4 [(0, .ref bs), (1, .ref (b 0 0)), (2, .ref (ax 0)), (3, .int x3)]) (hI : Inv L s0 s1 h1 s3 s4 h4 s5 s6 s8 s9 t9 μ τ) (hP : va_P E.1 vwCl (wX8 E ax μ τ ++ w7 E b L s0 s1 h1 s2 h2 s3 s4 h4 s5 s6 s7 s8 s9 t9) H) (hD : va_D (LA s) (wX8 E ax μ τ ++ w7 E b L s0 s1 h1 s2 h2 s3 s4 h4 s5 s6 s7 s8 s9 t9)) (hS : va_S (LA s) s.heap H locs) (hcl : cells + 2 ≤ 600000) (hsl : slots + 103 ≤ 7302250) (K : LK p l e s m below meth c E b ax bs cells slots Q ls) : W p l e room_1 s m #[Value.ref bs] below meth c H locs cells slots Q (F0 m 706 ls []) := by
  obtain ⟨hx, hb, hml, hown, hts, hX, hbl, hK, hG, hg⟩ := hC
  have hA : ∀ q : Nat, s.heap.size ≤ q → LA s q := fun _ h => h
  have hAB : ∀ q : Nat, LA s q → E.2.2.2.2.1 ≤ q := fun q h => by rw [hg]; exact h
  have hbA : ¬ LA s bs := Nat.not_le.mpr hbl
  have hc0 : cells + 0 ≤ room_1.cells := Nat.le_trans (Nat.le_add_right cells 2) hcl
  have hs0 : slots + 0 ≤ room_1.slots := Nat.le_trans (Nat.le_add_right slots 103) hsl
  obtain ⟨a, ⟨z1, z2⟩, μ1, e1, e2, hJ⟩ := in_marked (N := N) (s2 := s2) (h2 := h2) hN hI (xs (x3 + 1).toNatClampNeg) (xs (x3 + 2).toNatClampNeg)
  refine lv_aload_n hx hb dL_law_706 rfl (lv_at hl 1 rfl) ?_
  refine lv_aload_n hx hb dL_law_707 rfl (lv_at hl 0 rfl) ?_
  refine lv_iload_n hx hb dL_law_708 rfl (lv_at hl 3 rfl) ?_
  refine lv_iconst (v := 1) hx hb dL_law_709 (by decide) ?_
  refine lv_iadd hx hb dL_law_710 ?_
  refine va_sld hx hb hX hbl hbA hS v1 dL_law_711 ?_
  refine lv_aload_n hx hb dL_law_712 rfl (lv_at hl 0 rfl) ?_
  refine lv_iload_n hx hb dL_law_713 rfl (lv_at hl 3 rfl) ?_
  refine lv_iconst (v := 2) hx hb dL_law_714 (by decide) ?_
  refine lv_iadd hx hb dL_law_715 ?_
  refine va_sld hx hb hX hbl hbA hS v2 dL_law_716 ?_
  refine fin_i (E := E) (r := a) (wc := w7 E b L s0 s1 h1 s2 h2 s3 s4 h4 s5 s6 s7 s8 s9 t9) (wc' := w7 E b L s0 s1 h1 z1 z2 s3 s4 h4 s5 s6 s7 s8 s9 t9) (va_runV (As := [.int (xs (x3 + 1).toNatClampNeg), .int (xs (x3 + 2).toNatClampNeg)]) (rest := []) ⟨hx, hb, hml, hown, hts⟩ (k_X7_marked l E (b 0) (b 1) (b 2) (b 3) (b 4) (b 5) (b 6) (b 7) (b 8) (b 9) L N s0 s1 h1 s2 h2 s3 s4 h4 s5 s6 s7 s8 s9 t9 (xs (x3 + 1).toNatClampNeg) (xs (x3 + 2).toNatClampNeg) (a, z1, z2) e1 _) (cwV 2 hts gl_X7_marked rfl rfl rfl (by decide +kernel) ⟨(Nat.le_of_ble_eq_true rfl), (Nat.le_of_ble_eq_true rfl)⟩) (pre_v (ci := 7) (q0 := 0) hK (ap_P.mp hP).2 (ap_D2 hD) hS hG hAB rfl rfl) rfl rfl hl.1 rfl (lv_room (Nat.le_of_ble_eq_true rfl)) dL_law_717 ⟨hc0, hs0⟩) hS (w_free (ap_D2 hD) hS hA (fun _ h => h)) (fun H1 locs hP1 hk hS => ?_)
  have hP := jn_B hP hD hk hP1
  have hD := wD hD s0 s1 h1 z1 z2 s3 s4 h4 s5 s6 s7 s8 s9 t9 μ τ
  clear hP1 hk
  refine lv_aload_n hx hb dL_law_720 rfl (lv_at hl 2 rfl) ?_
  refine lv_aload_n hx hb dL_law_721 rfl (lv_at hl 0 rfl) ?_
  refine lv_iload_n hx hb dL_law_722 rfl (lv_at hl 3 rfl) ?_
  refine lv_iconst (v := 1) hx hb dL_law_723 (by decide) ?_
  refine lv_iadd hx hb dL_law_724 ?_
  refine va_sld hx hb hX hbl hbA hS v1 dL_law_725 ?_
  refine lv_aload_n hx hb dL_law_726 rfl (lv_at hl 0 rfl) ?_
  refine lv_iload_n hx hb dL_law_727 rfl (lv_at hl 3 rfl) ?_
  refine lv_iconst (v := 2) hx hb dL_law_728 (by decide) ?_
  refine lv_iadd hx hb dL_law_729 ?_
  refine va_sld hx hb hX hbl hbA hS v2 dL_law_730 ?_
  refine fin_i (E := E) (r := a) (wc := wX8 E ax μ τ) (wc' := wX8 E ax μ1 τ) (va_runV (As := [.int (xs (x3 + 1).toNatClampNeg), .int (xs (x3 + 2).toNatClampNeg)]) (rest := [.int a]) ⟨hx, hb, hml, hown, hts⟩ (k_X8_marked l E ax N μ τ (xs (x3 + 1).toNatClampNeg) (xs (x3 + 2).toNatClampNeg) (a, μ1) e2 _) (cwV 2 hts gl_X8_marked rfl rfl rfl (by decide +kernel) ⟨(Nat.le_of_ble_eq_true rfl), (Nat.le_of_ble_eq_true rfl)⟩) (pre_v (ci := 8) (q0 := 0) hK (ap_P.mp hP).1 (ap_D1 hD) hS hG hAB rfl rfl) rfl rfl hl.1 rfl (lv_room (Nat.le_of_ble_eq_true rfl)) dL_law_731 ⟨hc0, hs0⟩) hS (w_free (ap_D1 hD) hS hA (fun _ h => h)) (fun H2 locs hP1 hk hS => ?_)
  have hP := jn_A hP hD hk hP1
  have hD := wD hD s0 s1 h1 z1 z2 s3 s4 h4 s5 s6 s7 s8 s9 t9 μ1 τ
  exact lv_icmp_eq (tgt := 1336) hx hb dL_law_734 (by decide) (fun _ => K _ _ _ _ _ _ _ _ _ _ _ _ _ _ _ _ _ _ _ hJ hP hD hS) (fun c9 => absurd rfl c9)
end
