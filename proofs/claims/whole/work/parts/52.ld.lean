/-! ===== the law, call by call (4) ===== -/
section
variable {p : Program} {l : Launch} {e : Env} {s : State} {m : MethodId} {below : List Frame} {meth : Method} {c : Code} {E : Ev} {bs Ls : Nat} {xs : Nat → Int32} {b : Nat → Nat → Nat} {ax : Nat → Nat} {cells slots N : Nat} {Q : State → Prop} {ls : Array Slot} {x3 : Int32}
variable {L : List SR} {h1 h2 h4 : Option SR} {s0 s1 s2 s3 s4 s5 s6 s7 s8 s9 μ : St} {t9 τ : Nat → Nat → Int64} {H : Heap} {locs : List Loc}
set_option maxHeartbeats 8000000 in
set_option maxRecDepth 100000 in
theorem lo_undo (hC : LCx p s m meth c E bs Ls xs) (hN : 500000 ≤ N) (hl : lv_has ls 4 [(0, .ref bs), (1, .ref (b 0 0)), (2, .ref (ax 0)), (3, .int x3)]) (hI : Inv L s0 s1 h1 s3 s4 h4 s5 s6 s8 s9 t9 μ τ) (hP : va_P E.1 vwCl (wX8 E ax μ τ ++ w7 E b L s0 s1 h1 s2 h2 s3 s4 h4 s5 s6 s7 s8 s9 t9) H) (hD : va_D (LA s) (wX8 E ax μ τ ++ w7 E b L s0 s1 h1 s2 h2 s3 s4 h4 s5 s6 s7 s8 s9 t9)) (hS : va_S (LA s) s.heap H locs) (hcl : cells + 2 ≤ 600000) (hsl : slots + 103 ≤ 7302250) (K : LK p l e s m below meth c E b ax bs cells slots Q ls) : W p l e room_1 s m #[Value.ref bs] below meth c H locs cells slots Q (F0 m 988 ls []) := by
  obtain ⟨hx, hb, hml, hown, hts, hX, hbl, hK, hG, hg⟩ := hC
  have hA : ∀ q : Nat, s.heap.size ≤ q → LA s q := fun _ h => h
  have hAB : ∀ q : Nat, LA s q → E.2.2.2.2.1 ≤ q := fun q h => by rw [hg]; exact h
  have hbA : ¬ LA s bs := Nat.not_le.mpr hbl
  have hc0 : cells + 0 ≤ room_1.cells := Nat.le_trans (Nat.le_add_right cells 2) hcl
  have hs0 : slots + 0 ≤ room_1.slots := Nat.le_trans (Nat.le_add_right slots 103) hsl
  obtain ⟨a, z1, z2, z3, μ1, e1, e2, hJ⟩ := in_undo (N := N) (Nat.le_trans (Nat.le_of_ble_eq_true rfl) hN) hI
  refine lv_aload_n hx hb dL_law_988 rfl (lv_at hl 1 rfl) ?_
  refine fin_i (E := E) (r := a) (wc := w7 E b L s0 s1 h1 s2 h2 s3 s4 h4 s5 s6 s7 s8 s9 t9) (wc' := w7 E b L s0 z1 z2 s2 h2 z3 s4 h4 s5 s6 s7 s8 s9 t9) (va_runV (As := []) (rest := []) ⟨hx, hb, hml, hown, hts⟩ (k_X7_undo l E (b 0) (b 1) (b 2) (b 3) (b 4) (b 5) (b 6) (b 7) (b 8) (b 9) L N s0 s1 h1 s2 h2 s3 s4 h4 s5 s6 s7 s8 s9 t9 (a, z1, z2, z3) e1 _) (cwV 0 hts gl_X7_undo rfl rfl rfl (by decide +kernel) ⟨(Nat.le_of_ble_eq_true rfl), (Nat.le_of_ble_eq_true rfl)⟩) (pre_v (ci := 7) (q0 := 0) hK (ap_P.mp hP).2 (ap_D2 hD) hS hG hAB rfl rfl) rfl rfl hl.1 rfl (lv_room (Nat.le_of_ble_eq_true rfl)) dL_law_989 ⟨hc0, hs0⟩) hS (w_free (ap_D2 hD) hS hA (fun _ h => h)) (fun H1 locs hP1 hk hS => ?_)
  have hP := jn_B hP hD hk hP1
  have hD := wD hD s0 z1 z2 s2 h2 z3 s4 h4 s5 s6 s7 s8 s9 t9 μ τ
  clear hP1 hk
  refine lv_aload_n hx hb dL_law_992 rfl (lv_at hl 2 rfl) ?_
  refine fin_i (E := E) (r := a) (wc := wX8 E ax μ τ) (wc' := wX8 E ax μ1 τ) (va_runV (As := []) (rest := [.int a]) ⟨hx, hb, hml, hown, hts⟩ (k_X8_undo l E ax N μ τ (a, μ1) e2 _) (cwV 0 hts gl_X8_undo rfl rfl rfl (by decide +kernel) ⟨(Nat.le_of_ble_eq_true rfl), (Nat.le_of_ble_eq_true rfl)⟩) (pre_v (ci := 8) (q0 := 0) hK (ap_P.mp hP).1 (ap_D1 hD) hS hG hAB rfl rfl) rfl rfl hl.1 rfl (lv_room (Nat.le_of_ble_eq_true rfl)) dL_law_993 ⟨hc0, hs0⟩) hS (w_free (ap_D1 hD) hS hA (fun _ h => h)) (fun H2 locs hP1 hk hS => ?_)
  have hP := jn_A hP hD hk hP1
  have hD := wD hD s0 z1 z2 s2 h2 z3 s4 h4 s5 s6 s7 s8 s9 t9 μ1 τ
  exact lv_icmp_eq (tgt := 1336) hx hb dL_law_996 (by decide) (fun _ => K _ _ _ _ _ _ _ _ _ _ _ _ _ _ _ _ _ _ _ hJ hP hD hS) (fun c9 => absurd rfl c9)
set_option maxHeartbeats 8000000 in
set_option maxRecDepth 100000 in
theorem lo_act (hC : LCx p s m meth c E bs Ls xs) (hN : 500000 ≤ N) (v1 : vp_in (x3 + 1) Ls) (v2 : vp_in (x3 + 2) Ls) (v3 : vp_in (x3 + 3) Ls) (hl : lv_has ls 4 [(0, .ref bs), (1, .ref (b 0 0)), (2, .ref (ax 0)), (3, .int x3)]) (hI : Inv L s0 s1 h1 s3 s4 h4 s5 s6 s8 s9 t9 μ τ) (hP : va_P E.1 vwCl (wX8 E ax μ τ ++ w7 E b L s0 s1 h1 s2 h2 s3 s4 h4 s5 s6 s7 s8 s9 t9) H) (hD : va_D (LA s) (wX8 E ax μ τ ++ w7 E b L s0 s1 h1 s2 h2 s3 s4 h4 s5 s6 s7 s8 s9 t9)) (hS : va_S (LA s) s.heap H locs) (hcl : cells + 2 ≤ 600000) (hsl : slots + 103 ≤ 7302250) (K : LK p l e s m below meth c E b ax bs cells slots Q ls) : W p l e room_1 s m #[Value.ref bs] below meth c H locs cells slots Q (F0 m 1001 ls []) := by
  obtain ⟨hx, hb, hml, hown, hts, hX, hbl, hK, hG, hg⟩ := hC
  have hA : ∀ q : Nat, s.heap.size ≤ q → LA s q := fun _ h => h
  have hAB : ∀ q : Nat, LA s q → E.2.2.2.2.1 ≤ q := fun q h => by rw [hg]; exact h
  have hbA : ¬ LA s bs := Nat.not_le.mpr hbl
  have hc0 : cells + 0 ≤ room_1.cells := Nat.le_trans (Nat.le_add_right cells 2) hcl
  have hs0 : slots + 0 ≤ room_1.slots := Nat.le_trans (Nat.le_add_right slots 103) hsl
  obtain ⟨a, z, μ1, e1, e2, hJ⟩ := in_act (N := N) hI (xs (x3 + 1).toNatClampNeg) (xs (x3 + 2).toNatClampNeg) (xs (x3 + 3).toNatClampNeg)
  refine lv_aload_n hx hb dL_law_1001 rfl (lv_at hl 1 rfl) ?_
  refine lv_aload_n hx hb dL_law_1002 rfl (lv_at hl 0 rfl) ?_
  refine lv_iload_n hx hb dL_law_1003 rfl (lv_at hl 3 rfl) ?_
  refine lv_iconst (v := 1) hx hb dL_law_1004 (by decide) ?_
  refine lv_iadd hx hb dL_law_1005 ?_
  refine va_sld hx hb hX hbl hbA hS v1 dL_law_1006 ?_
  refine lv_aload_n hx hb dL_law_1007 rfl (lv_at hl 0 rfl) ?_
  refine lv_iload_n hx hb dL_law_1008 rfl (lv_at hl 3 rfl) ?_
  refine lv_iconst (v := 2) hx hb dL_law_1009 (by decide) ?_
  refine lv_iadd hx hb dL_law_1010 ?_
  refine va_sld hx hb hX hbl hbA hS v2 dL_law_1011 ?_
  refine lv_aload_n hx hb dL_law_1012 rfl (lv_at hl 0 rfl) ?_
  refine lv_iload_n hx hb dL_law_1013 rfl (lv_at hl 3 rfl) ?_
  refine lv_iconst (v := 3) hx hb dL_law_1014 (by decide) ?_
  refine lv_iadd hx hb dL_law_1015 ?_
  refine va_sld hx hb hX hbl hbA hS v3 dL_law_1016 ?_
  refine fin_i (E := E) (r := a) (wc := w7 E b L s0 s1 h1 s2 h2 s3 s4 h4 s5 s6 s7 s8 s9 t9) (wc' := w7 E b L s0 s1 h1 s2 h2 s3 s4 h4 s5 s6 s7 z s9 t9) (va_runV (As := [.int (xs (x3 + 1).toNatClampNeg), .int (xs (x3 + 2).toNatClampNeg), .int (xs (x3 + 3).toNatClampNeg)]) (rest := []) ⟨hx, hb, hml, hown, hts⟩ (k_X7_act l E (b 0) (b 1) (b 2) (b 3) (b 4) (b 5) (b 6) (b 7) (b 8) (b 9) L N s0 s1 h1 s2 h2 s3 s4 h4 s5 s6 s7 s8 s9 t9 (xs (x3 + 1).toNatClampNeg) (xs (x3 + 2).toNatClampNeg) (xs (x3 + 3).toNatClampNeg) (a, z) e1 _) (cwV 3 hts gl_X7_act rfl rfl rfl (by decide +kernel) ⟨(Nat.le_of_ble_eq_true rfl), (Nat.le_of_ble_eq_true rfl)⟩) (pre_v (ci := 7) (q0 := 0) hK (ap_P.mp hP).2 (ap_D2 hD) hS hG hAB rfl rfl) rfl rfl hl.1 rfl (lv_room (Nat.le_of_ble_eq_true rfl)) dL_law_1017 ⟨hc0, hs0⟩) hS (w_free (ap_D2 hD) hS hA (fun _ h => h)) (fun H1 locs hP1 hk hS => ?_)
  have hP := jn_B hP hD hk hP1
  have hD := wD hD s0 s1 h1 s2 h2 s3 s4 h4 s5 s6 s7 z s9 t9 μ τ
  clear hP1 hk
  refine lv_aload_n hx hb dL_law_1020 rfl (lv_at hl 2 rfl) ?_
  refine lv_aload_n hx hb dL_law_1021 rfl (lv_at hl 0 rfl) ?_
  refine lv_iload_n hx hb dL_law_1022 rfl (lv_at hl 3 rfl) ?_
  refine lv_iconst (v := 1) hx hb dL_law_1023 (by decide) ?_
  refine lv_iadd hx hb dL_law_1024 ?_
  refine va_sld hx hb hX hbl hbA hS v1 dL_law_1025 ?_
  refine lv_aload_n hx hb dL_law_1026 rfl (lv_at hl 0 rfl) ?_
  refine lv_iload_n hx hb dL_law_1027 rfl (lv_at hl 3 rfl) ?_
  refine lv_iconst (v := 2) hx hb dL_law_1028 (by decide) ?_
  refine lv_iadd hx hb dL_law_1029 ?_
  refine va_sld hx hb hX hbl hbA hS v2 dL_law_1030 ?_
  refine lv_aload_n hx hb dL_law_1031 rfl (lv_at hl 0 rfl) ?_
  refine lv_iload_n hx hb dL_law_1032 rfl (lv_at hl 3 rfl) ?_
  refine lv_iconst (v := 3) hx hb dL_law_1033 (by decide) ?_
  refine lv_iadd hx hb dL_law_1034 ?_
  refine va_sld hx hb hX hbl hbA hS v3 dL_law_1035 ?_
  refine fin_i (E := E) (r := a) (wc := wX8 E ax μ τ) (wc' := wX8 E ax μ1 τ) (va_runV (As := [.int (xs (x3 + 1).toNatClampNeg), .int (xs (x3 + 2).toNatClampNeg), .int (xs (x3 + 3).toNatClampNeg)]) (rest := [.int a]) ⟨hx, hb, hml, hown, hts⟩ (k_X8_act l E ax N μ τ (xs (x3 + 1).toNatClampNeg) (xs (x3 + 2).toNatClampNeg) (xs (x3 + 3).toNatClampNeg) (a, μ1) e2 _) (cwV 3 hts gl_X8_act rfl rfl rfl (by decide +kernel) ⟨(Nat.le_of_ble_eq_true rfl), (Nat.le_of_ble_eq_true rfl)⟩) (pre_v (ci := 8) (q0 := 0) hK (ap_P.mp hP).1 (ap_D1 hD) hS hG hAB rfl rfl) rfl rfl hl.1 rfl (lv_room (Nat.le_of_ble_eq_true rfl)) dL_law_1036 ⟨hc0, hs0⟩) hS (w_free (ap_D1 hD) hS hA (fun _ h => h)) (fun H2 locs hP1 hk hS => ?_)
  have hP := jn_A hP hD hk hP1
  have hD := wD hD s0 s1 h1 s2 h2 s3 s4 h4 s5 s6 s7 z s9 t9 μ1 τ
  exact lv_icmp_eq (tgt := 1336) hx hb dL_law_1039 (by decide) (fun _ => K _ _ _ _ _ _ _ _ _ _ _ _ _ _ _ _ _ _ _ hJ hP hD hS) (fun c9 => absurd rfl c9)
set_option maxHeartbeats 8000000 in
set_option maxRecDepth 100000 in
theorem lo_trace (hC : LCx p s m meth c E bs Ls xs) (hN : 500000 ≤ N) (v1 : vp_in (x3 + 1) Ls) (hl : lv_has ls 4 [(0, .ref bs), (1, .ref (b 0 0)), (2, .ref (ax 0)), (3, .int x3)]) (hI : Inv L s0 s1 h1 s3 s4 h4 s5 s6 s8 s9 t9 μ τ) (hP : va_P E.1 vwCl (wX8 E ax μ τ ++ w7 E b L s0 s1 h1 s2 h2 s3 s4 h4 s5 s6 s7 s8 s9 t9) H) (hD : va_D (LA s) (wX8 E ax μ τ ++ w7 E b L s0 s1 h1 s2 h2 s3 s4 h4 s5 s6 s7 s8 s9 t9)) (hS : va_S (LA s) s.heap H locs) (hcl : cells + 2 ≤ 600000) (hsl : slots + 103 ≤ 7302250) (K : LK p l e s m below meth c E b ax bs cells slots Q ls) : W p l e room_1 s m #[Value.ref bs] below meth c H locs cells slots Q (F0 m 1044 ls []) := by
  obtain ⟨hx, hb, hml, hown, hts, hX, hbl, hK, hG, hg⟩ := hC
  have hA : ∀ q : Nat, s.heap.size ≤ q → LA s q := fun _ h => h
  have hAB : ∀ q : Nat, LA s q → E.2.2.2.2.1 ≤ q := fun q h => by rw [hg]; exact h
  have hbA : ¬ LA s bs := Nat.not_le.mpr hbl
  have hc0 : cells + 0 ≤ room_1.cells := Nat.le_trans (Nat.le_add_right cells 2) hcl
  have hs0 : slots + 0 ≤ room_1.slots := Nat.le_trans (Nat.le_add_right slots 103) hsl
  obtain ⟨a, e1, e2⟩ := in_trace (N := N) hN hI (xs (x3 + 1).toNatClampNeg)
  refine lv_aload_n hx hb dL_law_1044 rfl (lv_at hl 1 rfl) ?_
  refine lv_aload_n hx hb dL_law_1045 rfl (lv_at hl 0 rfl) ?_
  refine lv_iload_n hx hb dL_law_1046 rfl (lv_at hl 3 rfl) ?_
  refine lv_iconst (v := 1) hx hb dL_law_1047 (by decide) ?_
  refine lv_iadd hx hb dL_law_1048 ?_
  refine va_sld hx hb hX hbl hbA hS v1 dL_law_1049 ?_
  refine fin_i (E := E) (r := a) (wc := w7 E b L s0 s1 h1 s2 h2 s3 s4 h4 s5 s6 s7 s8 s9 t9) (wc' := w7 E b L s0 s1 h1 s2 h2 s3 s4 h4 s5 s6 s7 s8 s9 t9) (va_runV (As := [.int (xs (x3 + 1).toNatClampNeg)]) (rest := []) ⟨hx, hb, hml, hown, hts⟩ (k_X7_trace l E (b 0) (b 1) (b 2) (b 3) (b 4) (b 5) (b 6) (b 7) (b 8) (b 9) L N s0 s1 h1 s2 h2 s3 s4 h4 s5 s6 s7 s8 s9 t9 (xs (x3 + 1).toNatClampNeg) a e1 _) (cwV 1 hts gl_X7_trace rfl rfl rfl (by decide +kernel) ⟨(Nat.le_of_ble_eq_true rfl), (Nat.le_of_ble_eq_true rfl)⟩) (pre_v (ci := 7) (q0 := 0) hK (ap_P.mp hP).2 (ap_D2 hD) hS hG hAB rfl rfl) rfl rfl hl.1 rfl (lv_room (Nat.le_of_ble_eq_true rfl)) dL_law_1050 ⟨hc0, hs0⟩) hS (w_free (ap_D2 hD) hS hA (fun _ h => h)) (fun H1 locs hP1 hk hS => ?_)
  have hP := jn_B hP hD hk hP1
  have hD := wD hD s0 s1 h1 s2 h2 s3 s4 h4 s5 s6 s7 s8 s9 t9 μ τ
  clear hP1 hk
  refine lv_aload_n hx hb dL_law_1053 rfl (lv_at hl 2 rfl) ?_
  refine lv_aload_n hx hb dL_law_1054 rfl (lv_at hl 0 rfl) ?_
  refine lv_iload_n hx hb dL_law_1055 rfl (lv_at hl 3 rfl) ?_
  refine lv_iconst (v := 1) hx hb dL_law_1056 (by decide) ?_
  refine lv_iadd hx hb dL_law_1057 ?_
  refine va_sld hx hb hX hbl hbA hS v1 dL_law_1058 ?_
  refine fin_i (E := E) (r := a) (wc := wX8 E ax μ τ) (wc' := wX8 E ax μ τ) (va_runV (As := [.int (xs (x3 + 1).toNatClampNeg)]) (rest := [.int a]) ⟨hx, hb, hml, hown, hts⟩ (k_X8_trace l E ax N μ τ (xs (x3 + 1).toNatClampNeg) a e2 _) (cwV 1 hts gl_X8_trace rfl rfl rfl (by decide +kernel) ⟨(Nat.le_of_ble_eq_true rfl), (Nat.le_of_ble_eq_true rfl)⟩) (pre_v (ci := 8) (q0 := 0) hK (ap_P.mp hP).1 (ap_D1 hD) hS hG hAB rfl rfl) rfl rfl hl.1 rfl (lv_room (Nat.le_of_ble_eq_true rfl)) dL_law_1059 ⟨hc0, hs0⟩) hS (w_free (ap_D1 hD) hS hA (fun _ h => h)) (fun H2 locs hP1 hk hS => ?_)
  have hP := jn_A hP hD hk hP1
  have hD := wD hD s0 s1 h1 s2 h2 s3 s4 h4 s5 s6 s7 s8 s9 t9 μ τ
  exact lv_icmp_eq (tgt := 1336) hx hb dL_law_1062 (by decide) (fun _ => K _ _ _ _ _ _ _ _ _ _ _ _ _ _ _ _ _ _ _ hI hP hD hS) (fun c9 => absurd rfl c9)
set_option maxHeartbeats 8000000 in
set_option maxRecDepth 100000 in
theorem lo_taken (hC : LCx p s m meth c E bs Ls xs) (hN : 500000 ≤ N) (v1 : vp_in (x3 + 1) Ls) (v2 : vp_in (x3 + 2) Ls) (hl : lv_has ls 4 [(0, .ref bs), (1, .ref (b 0 0)), (2, .ref (ax 0)), (3, .int x3)]) (hI : Inv L s0 s1 h1 s3 s4 h4 s5 s6 s8 s9 t9 μ τ) (hP : va_P E.1 vwCl (wX8 E ax μ τ ++ w7 E b L s0 s1 h1 s2 h2 s3 s4 h4 s5 s6 s7 s8 s9 t9) H) (hD : va_D (LA s) (wX8 E ax μ τ ++ w7 E b L s0 s1 h1 s2 h2 s3 s4 h4 s5 s6 s7 s8 s9 t9)) (hS : va_S (LA s) s.heap H locs) (hcl : cells + 2 ≤ 600000) (hsl : slots + 103 ≤ 7302250) (K : LK p l e s m below meth c E b ax bs cells slots Q ls) : W p l e room_1 s m #[Value.ref bs] below meth c H locs cells slots Q (F0 m 1067 ls []) := by
  obtain ⟨hx, hb, hml, hown, hts, hX, hbl, hK, hG, hg⟩ := hC
  have hA : ∀ q : Nat, s.heap.size ≤ q → LA s q := fun _ h => h
  have hAB : ∀ q : Nat, LA s q → E.2.2.2.2.1 ≤ q := fun q h => by rw [hg]; exact h
  have hbA : ¬ LA s bs := Nat.not_le.mpr hbl
  have hc0 : cells + 0 ≤ room_1.cells := Nat.le_trans (Nat.le_add_right cells 2) hcl
  have hs0 : slots + 0 ≤ room_1.slots := Nat.le_trans (Nat.le_add_right slots 103) hsl
  obtain ⟨a, e1, e2⟩ := in_taken (N := N) hN hI (xs (x3 + 1).toNatClampNeg) (xs (x3 + 2).toNatClampNeg)
  refine lv_aload_n hx hb dL_law_1067 rfl (lv_at hl 1 rfl) ?_
  refine lv_aload_n hx hb dL_law_1068 rfl (lv_at hl 0 rfl) ?_
  refine lv_iload_n hx hb dL_law_1069 rfl (lv_at hl 3 rfl) ?_
  refine lv_iconst (v := 1) hx hb dL_law_1070 (by decide) ?_
  refine lv_iadd hx hb dL_law_1071 ?_
  refine va_sld hx hb hX hbl hbA hS v1 dL_law_1072 ?_
  refine lv_aload_n hx hb dL_law_1073 rfl (lv_at hl 0 rfl) ?_
  refine lv_iload_n hx hb dL_law_1074 rfl (lv_at hl 3 rfl) ?_
  refine lv_iconst (v := 2) hx hb dL_law_1075 (by decide) ?_
  refine lv_iadd hx hb dL_law_1076 ?_
  refine va_sld hx hb hX hbl hbA hS v2 dL_law_1077 ?_
  refine fin_i (E := E) (r := a) (wc := w7 E b L s0 s1 h1 s2 h2 s3 s4 h4 s5 s6 s7 s8 s9 t9) (wc' := w7 E b L s0 s1 h1 s2 h2 s3 s4 h4 s5 s6 s7 s8 s9 t9) (va_runV (As := [.int (xs (x3 + 1).toNatClampNeg), .int (xs (x3 + 2).toNatClampNeg)]) (rest := []) ⟨hx, hb, hml, hown, hts⟩ (k_X7_taken l E (b 0) (b 1) (b 2) (b 3) (b 4) (b 5) (b 6) (b 7) (b 8) (b 9) L N s0 s1 h1 s2 h2 s3 s4 h4 s5 s6 s7 s8 s9 t9 (xs (x3 + 1).toNatClampNeg) (xs (x3 + 2).toNatClampNeg) a e1 _) (cwV 2 hts gl_X7_taken rfl rfl rfl (by decide +kernel) ⟨(Nat.le_of_ble_eq_true rfl), (Nat.le_of_ble_eq_true rfl)⟩) (pre_v (ci := 7) (q0 := 0) hK (ap_P.mp hP).2 (ap_D2 hD) hS hG hAB rfl rfl) rfl rfl hl.1 rfl (lv_room (Nat.le_of_ble_eq_true rfl)) dL_law_1078 ⟨hc0, hs0⟩) hS (w_free (ap_D2 hD) hS hA (fun _ h => h)) (fun H1 locs hP1 hk hS => ?_)
  have hP := jn_B hP hD hk hP1
  have hD := wD hD s0 s1 h1 s2 h2 s3 s4 h4 s5 s6 s7 s8 s9 t9 μ τ
  clear hP1 hk
  refine lv_aload_n hx hb dL_law_1081 rfl (lv_at hl 2 rfl) ?_
  refine lv_aload_n hx hb dL_law_1082 rfl (lv_at hl 0 rfl) ?_
  refine lv_iload_n hx hb dL_law_1083 rfl (lv_at hl 3 rfl) ?_
  refine lv_iconst (v := 1) hx hb dL_law_1084 (by decide) ?_
  refine lv_iadd hx hb dL_law_1085 ?_
  refine va_sld hx hb hX hbl hbA hS v1 dL_law_1086 ?_
  refine lv_aload_n hx hb dL_law_1087 rfl (lv_at hl 0 rfl) ?_
  refine lv_iload_n hx hb dL_law_1088 rfl (lv_at hl 3 rfl) ?_
  refine lv_iconst (v := 2) hx hb dL_law_1089 (by decide) ?_
  refine lv_iadd hx hb dL_law_1090 ?_
  refine va_sld hx hb hX hbl hbA hS v2 dL_law_1091 ?_
  refine fin_i (E := E) (r := a) (wc := wX8 E ax μ τ) (wc' := wX8 E ax μ τ) (va_runV (As := [.int (xs (x3 + 1).toNatClampNeg), .int (xs (x3 + 2).toNatClampNeg)]) (rest := [.int a]) ⟨hx, hb, hml, hown, hts⟩ (k_X8_taken l E ax N μ τ (xs (x3 + 1).toNatClampNeg) (xs (x3 + 2).toNatClampNeg) a e2 _) (cwV 2 hts gl_X8_taken rfl rfl rfl (by decide +kernel) ⟨(Nat.le_of_ble_eq_true rfl), (Nat.le_of_ble_eq_true rfl)⟩) (pre_v (ci := 8) (q0 := 0) hK (ap_P.mp hP).1 (ap_D1 hD) hS hG hAB rfl rfl) rfl rfl hl.1 rfl (lv_room (Nat.le_of_ble_eq_true rfl)) dL_law_1092 ⟨hc0, hs0⟩) hS (w_free (ap_D1 hD) hS hA (fun _ h => h)) (fun H2 locs hP1 hk hS => ?_)
  have hP := jn_A hP hD hk hP1
  have hD := wD hD s0 s1 h1 s2 h2 s3 s4 h4 s5 s6 s7 s8 s9 t9 μ τ
  exact lv_icmp_eq (tgt := 1336) hx hb dL_law_1095 (by decide) (fun _ => K _ _ _ _ _ _ _ _ _ _ _ _ _ _ _ _ _ _ _ hI hP hD hS) (fun c9 => absurd rfl c9)
set_option maxHeartbeats 8000000 in
set_option maxRecDepth 100000 in
theorem lo_count (hC : LCx p s m meth c E bs Ls xs) (hN : 500000 ≤ N) (v1 : vp_in (x3 + 1) Ls) (hl : lv_has ls 4 [(0, .ref bs), (1, .ref (b 0 0)), (2, .ref (ax 0)), (3, .int x3)]) (hI : Inv L s0 s1 h1 s3 s4 h4 s5 s6 s8 s9 t9 μ τ) (hP : va_P E.1 vwCl (wX8 E ax μ τ ++ w7 E b L s0 s1 h1 s2 h2 s3 s4 h4 s5 s6 s7 s8 s9 t9) H) (hD : va_D (LA s) (wX8 E ax μ τ ++ w7 E b L s0 s1 h1 s2 h2 s3 s4 h4 s5 s6 s7 s8 s9 t9)) (hS : va_S (LA s) s.heap H locs) (hcl : cells + 2 ≤ 600000) (hsl : slots + 103 ≤ 7302250) (K : LK p l e s m below meth c E b ax bs cells slots Q ls) : W p l e room_1 s m #[Value.ref bs] below meth c H locs cells slots Q (F0 m 1100 ls []) := by
  obtain ⟨hx, hb, hml, hown, hts, hX, hbl, hK, hG, hg⟩ := hC
  have hA : ∀ q : Nat, s.heap.size ≤ q → LA s q := fun _ h => h
  have hAB : ∀ q : Nat, LA s q → E.2.2.2.2.1 ≤ q := fun q h => by rw [hg]; exact h
  have hbA : ¬ LA s bs := Nat.not_le.mpr hbl
  have hc0 : cells + 0 ≤ room_1.cells := Nat.le_trans (Nat.le_add_right cells 2) hcl
  have hs0 : slots + 0 ≤ room_1.slots := Nat.le_trans (Nat.le_add_right slots 103) hsl
  obtain ⟨a, e1, e2⟩ := in_count (N := N) hI (xs (x3 + 1).toNatClampNeg)
  refine lv_aload_n hx hb dL_law_1100 rfl (lv_at hl 1 rfl) ?_
  refine lv_aload_n hx hb dL_law_1101 rfl (lv_at hl 0 rfl) ?_
  refine lv_iload_n hx hb dL_law_1102 rfl (lv_at hl 3 rfl) ?_
  refine lv_iconst (v := 1) hx hb dL_law_1103 (by decide) ?_
  refine lv_iadd hx hb dL_law_1104 ?_
  refine va_sld hx hb hX hbl hbA hS v1 dL_law_1105 ?_
  refine fin_i (E := E) (r := a) (wc := w7 E b L s0 s1 h1 s2 h2 s3 s4 h4 s5 s6 s7 s8 s9 t9) (wc' := w7 E b L s0 s1 h1 s2 h2 s3 s4 h4 s5 s6 s7 s8 s9 t9) (va_runV (As := [.int (xs (x3 + 1).toNatClampNeg)]) (rest := []) ⟨hx, hb, hml, hown, hts⟩ (k_X7_count l E (b 0) (b 1) (b 2) (b 3) (b 4) (b 5) (b 6) (b 7) (b 8) (b 9) L N s0 s1 h1 s2 h2 s3 s4 h4 s5 s6 s7 s8 s9 t9 (xs (x3 + 1).toNatClampNeg) a e1 _) (cwV 1 hts gl_X7_count rfl rfl rfl (by decide +kernel) ⟨(Nat.le_of_ble_eq_true rfl), (Nat.le_of_ble_eq_true rfl)⟩) (pre_v (ci := 7) (q0 := 0) hK (ap_P.mp hP).2 (ap_D2 hD) hS hG hAB rfl rfl) rfl rfl hl.1 rfl (lv_room (Nat.le_of_ble_eq_true rfl)) dL_law_1106 ⟨hc0, hs0⟩) hS (w_free (ap_D2 hD) hS hA (fun _ h => h)) (fun H1 locs hP1 hk hS => ?_)
  have hP := jn_B hP hD hk hP1
  have hD := wD hD s0 s1 h1 s2 h2 s3 s4 h4 s5 s6 s7 s8 s9 t9 μ τ
  clear hP1 hk
  refine lv_aload_n hx hb dL_law_1109 rfl (lv_at hl 2 rfl) ?_
  refine lv_aload_n hx hb dL_law_1110 rfl (lv_at hl 0 rfl) ?_
  refine lv_iload_n hx hb dL_law_1111 rfl (lv_at hl 3 rfl) ?_
  refine lv_iconst (v := 1) hx hb dL_law_1112 (by decide) ?_
  refine lv_iadd hx hb dL_law_1113 ?_
  refine va_sld hx hb hX hbl hbA hS v1 dL_law_1114 ?_
  refine fin_i (E := E) (r := a) (wc := wX8 E ax μ τ) (wc' := wX8 E ax μ τ) (va_runV (As := [.int (xs (x3 + 1).toNatClampNeg)]) (rest := [.int a]) ⟨hx, hb, hml, hown, hts⟩ (k_X8_count l E ax N μ τ (xs (x3 + 1).toNatClampNeg) a e2 _) (cwV 1 hts gl_X8_count rfl rfl rfl (by decide +kernel) ⟨(Nat.le_of_ble_eq_true rfl), (Nat.le_of_ble_eq_true rfl)⟩) (pre_v (ci := 8) (q0 := 0) hK (ap_P.mp hP).1 (ap_D1 hD) hS hG hAB rfl rfl) rfl rfl hl.1 rfl (lv_room (Nat.le_of_ble_eq_true rfl)) dL_law_1115 ⟨hc0, hs0⟩) hS (w_free (ap_D1 hD) hS hA (fun _ h => h)) (fun H2 locs hP1 hk hS => ?_)
  have hP := jn_A hP hD hk hP1
  have hD := wD hD s0 s1 h1 s2 h2 s3 s4 h4 s5 s6 s7 s8 s9 t9 μ τ
  exact lv_icmp_eq (tgt := 1336) hx hb dL_law_1118 (by decide) (fun _ => K _ _ _ _ _ _ _ _ _ _ _ _ _ _ _ _ _ _ _ hI hP hD hS) (fun c9 => absurd rfl c9)
set_option maxHeartbeats 8000000 in
set_option maxRecDepth 100000 in
theorem lo_tape (hC : LCx p s m meth c E bs Ls xs) (hN : 500000 ≤ N) (v1 : vp_in (x3 + 1) Ls) (v2 : vp_in (x3 + 2) Ls) (v3 : vp_in (x3 + 3) Ls) (hl : lv_has ls 4 [(0, .ref bs), (1, .ref (b 0 0)), (2, .ref (ax 0)), (3, .int x3)]) (hI : Inv L s0 s1 h1 s3 s4 h4 s5 s6 s8 s9 t9 μ τ) (hP : va_P E.1 vwCl (wX8 E ax μ τ ++ w7 E b L s0 s1 h1 s2 h2 s3 s4 h4 s5 s6 s7 s8 s9 t9) H) (hD : va_D (LA s) (wX8 E ax μ τ ++ w7 E b L s0 s1 h1 s2 h2 s3 s4 h4 s5 s6 s7 s8 s9 t9)) (hS : va_S (LA s) s.heap H locs) (hcl : cells + 2 ≤ 600000) (hsl : slots + 103 ≤ 7302250) (K : LK p l e s m below meth c E b ax bs cells slots Q ls) : W p l e room_1 s m #[Value.ref bs] below meth c H locs cells slots Q (F0 m 1123 ls []) := by
  obtain ⟨hx, hb, hml, hown, hts, hX, hbl, hK, hG, hg⟩ := hC
  have hA : ∀ q : Nat, s.heap.size ≤ q → LA s q := fun _ h => h
  have hAB : ∀ q : Nat, LA s q → E.2.2.2.2.1 ≤ q := fun q h => by rw [hg]; exact h
  have hbA : ¬ LA s bs := Nat.not_le.mpr hbl
  have hc0 : cells + 0 ≤ room_1.cells := Nat.le_trans (Nat.le_add_right cells 2) hcl
  have hs0 : slots + 0 ≤ room_1.slots := Nat.le_trans (Nat.le_add_right slots 103) hsl
  obtain ⟨a, z1, z2, μ1, τ1, e1, e2, hJ⟩ := in_tape (N := N) (Nat.le_trans (Nat.le_of_ble_eq_true rfl) hN) hI (xs (x3 + 1).toNatClampNeg) (xs (x3 + 2).toNatClampNeg) (xs (x3 + 3).toNatClampNeg)
  refine lv_aload_n hx hb dL_law_1123 rfl (lv_at hl 1 rfl) ?_
  refine lv_aload_n hx hb dL_law_1124 rfl (lv_at hl 0 rfl) ?_
  refine lv_iload_n hx hb dL_law_1125 rfl (lv_at hl 3 rfl) ?_
  refine lv_iconst (v := 1) hx hb dL_law_1126 (by decide) ?_
  refine lv_iadd hx hb dL_law_1127 ?_
  refine va_sld hx hb hX hbl hbA hS v1 dL_law_1128 ?_
  refine lv_aload_n hx hb dL_law_1129 rfl (lv_at hl 0 rfl) ?_
  refine lv_iload_n hx hb dL_law_1130 rfl (lv_at hl 3 rfl) ?_
  refine lv_iconst (v := 2) hx hb dL_law_1131 (by decide) ?_
  refine lv_iadd hx hb dL_law_1132 ?_
  refine va_sld hx hb hX hbl hbA hS v2 dL_law_1133 ?_
  refine lv_aload_n hx hb dL_law_1134 rfl (lv_at hl 0 rfl) ?_
  refine lv_iload_n hx hb dL_law_1135 rfl (lv_at hl 3 rfl) ?_
  refine lv_iconst (v := 3) hx hb dL_law_1136 (by decide) ?_
  refine lv_iadd hx hb dL_law_1137 ?_
  refine va_sld hx hb hX hbl hbA hS v3 dL_law_1138 ?_
  refine fin_i (E := E) (r := a) (wc := w7 E b L s0 s1 h1 s2 h2 s3 s4 h4 s5 s6 s7 s8 s9 t9) (wc' := w7 E b L s0 s1 h1 s2 h2 s3 s4 h4 s5 s6 s7 s8 z1 z2) (va_runV (As := [.int (xs (x3 + 1).toNatClampNeg), .int (xs (x3 + 2).toNatClampNeg), .int (xs (x3 + 3).toNatClampNeg)]) (rest := []) ⟨hx, hb, hml, hown, hts⟩ (k_X7_tape l E (b 0) (b 1) (b 2) (b 3) (b 4) (b 5) (b 6) (b 7) (b 8) (b 9) L N s0 s1 h1 s2 h2 s3 s4 h4 s5 s6 s7 s8 s9 t9 (xs (x3 + 1).toNatClampNeg) (xs (x3 + 2).toNatClampNeg) (xs (x3 + 3).toNatClampNeg) (a, z1, z2) e1 _) (cwV 3 hts gl_X7_tape rfl rfl rfl (by decide +kernel) ⟨(Nat.le_of_ble_eq_true rfl), (Nat.le_of_ble_eq_true rfl)⟩) (pre_v (ci := 7) (q0 := 0) hK (ap_P.mp hP).2 (ap_D2 hD) hS hG hAB rfl rfl) rfl rfl hl.1 rfl (lv_room (Nat.le_of_ble_eq_true rfl)) dL_law_1139 ⟨hc0, hs0⟩) hS (w_free (ap_D2 hD) hS hA (fun _ h => h)) (fun H1 locs hP1 hk hS => ?_)
  have hP := jn_B hP hD hk hP1
  have hD := wD hD s0 s1 h1 s2 h2 s3 s4 h4 s5 s6 s7 s8 z1 z2 μ τ
  clear hP1 hk
  refine lv_aload_n hx hb dL_law_1142 rfl (lv_at hl 2 rfl) ?_
  refine lv_aload_n hx hb dL_law_1143 rfl (lv_at hl 0 rfl) ?_
  refine lv_iload_n hx hb dL_law_1144 rfl (lv_at hl 3 rfl) ?_
  refine lv_iconst (v := 1) hx hb dL_law_1145 (by decide) ?_
  refine lv_iadd hx hb dL_law_1146 ?_
  refine va_sld hx hb hX hbl hbA hS v1 dL_law_1147 ?_
  refine lv_aload_n hx hb dL_law_1148 rfl (lv_at hl 0 rfl) ?_
  refine lv_iload_n hx hb dL_law_1149 rfl (lv_at hl 3 rfl) ?_
  refine lv_iconst (v := 2) hx hb dL_law_1150 (by decide) ?_
  refine lv_iadd hx hb dL_law_1151 ?_
  refine va_sld hx hb hX hbl hbA hS v2 dL_law_1152 ?_
  refine lv_aload_n hx hb dL_law_1153 rfl (lv_at hl 0 rfl) ?_
  refine lv_iload_n hx hb dL_law_1154 rfl (lv_at hl 3 rfl) ?_
  refine lv_iconst (v := 3) hx hb dL_law_1155 (by decide) ?_
  refine lv_iadd hx hb dL_law_1156 ?_
  refine va_sld hx hb hX hbl hbA hS v3 dL_law_1157 ?_
  refine fin_i (E := E) (r := a) (wc := wX8 E ax μ τ) (wc' := wX8 E ax μ1 τ1) (va_runV (As := [.int (xs (x3 + 1).toNatClampNeg), .int (xs (x3 + 2).toNatClampNeg), .int (xs (x3 + 3).toNatClampNeg)]) (rest := [.int a]) ⟨hx, hb, hml, hown, hts⟩ (k_X8_tape l E ax N μ τ (xs (x3 + 1).toNatClampNeg) (xs (x3 + 2).toNatClampNeg) (xs (x3 + 3).toNatClampNeg) (a, μ1, τ1) e2 _) (cwV 3 hts gl_X8_tape rfl rfl rfl (by decide +kernel) ⟨(Nat.le_of_ble_eq_true rfl), (Nat.le_of_ble_eq_true rfl)⟩) (pre_v (ci := 8) (q0 := 0) hK (ap_P.mp hP).1 (ap_D1 hD) hS hG hAB rfl rfl) rfl rfl hl.1 rfl (lv_room (Nat.le_of_ble_eq_true rfl)) dL_law_1158 ⟨hc0, hs0⟩) hS (w_free (ap_D1 hD) hS hA (fun _ h => h)) (fun H2 locs hP1 hk hS => ?_)
  have hP := jn_A hP hD hk hP1
  have hD := wD hD s0 s1 h1 s2 h2 s3 s4 h4 s5 s6 s7 s8 z1 z2 μ1 τ1
  exact lv_icmp_eq (tgt := 1336) hx hb dL_law_1161 (by decide) (fun _ => K _ _ _ _ _ _ _ _ _ _ _ _ _ _ _ _ _ _ _ hJ hP hD hS) (fun c9 => absurd rfl c9)
set_option maxHeartbeats 8000000 in
set_option maxRecDepth 100000 in
theorem lo_item (hC : LCx p s m meth c E bs Ls xs) (hN : 500000 ≤ N) (v1 : vp_in (x3 + 1) Ls) (v2 : vp_in (x3 + 2) Ls) (v3 : vp_in (x3 + 3) Ls) (v4 : vp_in (x3 + 4) Ls) (hl : lv_has ls 4 [(0, .ref bs), (1, .ref (b 0 0)), (2, .ref (ax 0)), (3, .int x3)]) (hI : Inv L s0 s1 h1 s3 s4 h4 s5 s6 s8 s9 t9 μ τ) (hP : va_P E.1 vwCl (wX8 E ax μ τ ++ w7 E b L s0 s1 h1 s2 h2 s3 s4 h4 s5 s6 s7 s8 s9 t9) H) (hD : va_D (LA s) (wX8 E ax μ τ ++ w7 E b L s0 s1 h1 s2 h2 s3 s4 h4 s5 s6 s7 s8 s9 t9)) (hS : va_S (LA s) s.heap H locs) (hcl : cells + 2 ≤ 600000) (hsl : slots + 103 ≤ 7302250) (K : LK p l e s m below meth c E b ax bs cells slots Q ls) : W p l e room_1 s m #[Value.ref bs] below meth c H locs cells slots Q (F0 m 1166 ls []) := by
  obtain ⟨hx, hb, hml, hown, hts, hX, hbl, hK, hG, hg⟩ := hC
  have hA : ∀ q : Nat, s.heap.size ≤ q → LA s q := fun _ h => h
  have hAB : ∀ q : Nat, LA s q → E.2.2.2.2.1 ≤ q := fun q h => by rw [hg]; exact h
  have hbA : ¬ LA s bs := Nat.not_le.mpr hbl
  have hc0 : cells + 0 ≤ room_1.cells := Nat.le_trans (Nat.le_add_right cells 2) hcl
  have hs0 : slots + 0 ≤ room_1.slots := Nat.le_trans (Nat.le_add_right slots 103) hsl
  obtain ⟨V, hV⟩ : ∃ V : Int64, V = ((xs (x3 + 3).toNatClampNeg).toInt64 <<< ((32 : Int32).toInt64 &&& 63)) ||| ((xs (x3 + 4).toNatClampNeg).toInt64 &&& 4294967295) := ⟨_, rfl⟩
  obtain ⟨a, z, τ1, e1, e2, hJ⟩ := in_item (N := N) hI (xs (x3 + 1).toNatClampNeg) (xs (x3 + 2).toNatClampNeg) V
  refine lv_aload_n hx hb dL_law_1166 rfl (lv_at hl 1 rfl) ?_
  refine lv_aload_n hx hb dL_law_1167 rfl (lv_at hl 0 rfl) ?_
  refine lv_iload_n hx hb dL_law_1168 rfl (lv_at hl 3 rfl) ?_
  refine lv_iconst (v := 1) hx hb dL_law_1169 (by decide) ?_
  refine lv_iadd hx hb dL_law_1170 ?_
  refine va_sld hx hb hX hbl hbA hS v1 dL_law_1171 ?_
  refine lv_aload_n hx hb dL_law_1172 rfl (lv_at hl 0 rfl) ?_
  refine lv_iload_n hx hb dL_law_1173 rfl (lv_at hl 3 rfl) ?_
  refine lv_iconst (v := 2) hx hb dL_law_1174 (by decide) ?_
  refine lv_iadd hx hb dL_law_1175 ?_
  refine va_sld hx hb hX hbl hbA hS v2 dL_law_1176 ?_
  refine lv_aload_n hx hb dL_law_1177 rfl (lv_at hl 0 rfl) ?_
  refine lv_iload_n hx hb dL_law_1178 rfl (lv_at hl 3 rfl) ?_
  refine lv_iconst (v := 3) hx hb dL_law_1179 (by decide) ?_
  refine lv_iadd hx hb dL_law_1180 ?_
  refine va_sld hx hb hX hbl hbA hS v3 dL_law_1181 ?_
  refine lv_i2l hx hb dL_law_1182 rfl ?_
  refine lv_bipush (v := 32) hx hb dL_law_1183 (by decide) ?_
  refine lv_lshl hx hb dL_law_1185 rfl ?_
  refine lv_aload_n hx hb dL_law_1186 rfl (lv_at hl 0 rfl) ?_
  refine lv_iload_n hx hb dL_law_1187 rfl (lv_at hl 3 rfl) ?_
  refine lv_iconst (v := 4) hx hb dL_law_1188 (by decide) ?_
  refine lv_iadd hx hb dL_law_1189 ?_
  refine va_sld hx hb hX hbl hbA hS v4 dL_law_1190 ?_
  refine lv_i2l hx hb dL_law_1191 rfl ?_
  refine lv_ldc2 (v := 4294967295) hx hb hown (hts _ (lt7 (List.mem_of_getElem? (i := 47) rfl))) dL_law_1192 ?_
  refine lv_land hx hb dL_law_1195 ?_
  refine lv_lor hx hb dL_law_1196 ?_
  refine lv_topl (fun y1196 ey => ?_)
  rw [← hV] at ey
  have ey1196 : V = y1196 := ey.symm
  subst ey1196
  refine fin_i (E := E) (r := a) (wc := w7 E b L s0 s1 h1 s2 h2 s3 s4 h4 s5 s6 s7 s8 s9 t9) (wc' := w7 E b L s0 s1 h1 s2 h2 s3 s4 h4 s5 s6 s7 s8 s9 z) (va_runV (As := [.int (xs (x3 + 1).toNatClampNeg), .int (xs (x3 + 2).toNatClampNeg), .long V]) (rest := []) ⟨hx, hb, hml, hown, hts⟩ (k_X7_item l E (b 0) (b 1) (b 2) (b 3) (b 4) (b 5) (b 6) (b 7) (b 8) (b 9) L N s0 s1 h1 s2 h2 s3 s4 h4 s5 s6 s7 s8 s9 t9 (xs (x3 + 1).toNatClampNeg) (xs (x3 + 2).toNatClampNeg) V (a, z) e1 _) (cwV 3 hts gl_X7_item rfl rfl rfl (by decide +kernel) ⟨(Nat.le_of_ble_eq_true rfl), (Nat.le_of_ble_eq_true rfl)⟩) (pre_v (ci := 7) (q0 := 0) hK (ap_P.mp hP).2 (ap_D2 hD) hS hG hAB rfl rfl) rfl rfl hl.1 rfl (lv_room (Nat.le_of_ble_eq_true rfl)) dL_law_1197 ⟨hc0, hs0⟩) hS (w_free (ap_D2 hD) hS hA (fun _ h => h)) (fun H1 locs hP1 hk hS => ?_)
  have hP := jn_B hP hD hk hP1
  have hD := wD hD s0 s1 h1 s2 h2 s3 s4 h4 s5 s6 s7 s8 s9 z μ τ
  clear hP1 hk
  refine lv_aload_n hx hb dL_law_1200 rfl (lv_at hl 2 rfl) ?_
  refine lv_aload_n hx hb dL_law_1201 rfl (lv_at hl 0 rfl) ?_
  refine lv_iload_n hx hb dL_law_1202 rfl (lv_at hl 3 rfl) ?_
  refine lv_iconst (v := 1) hx hb dL_law_1203 (by decide) ?_
  refine lv_iadd hx hb dL_law_1204 ?_
  refine va_sld hx hb hX hbl hbA hS v1 dL_law_1205 ?_
  refine lv_aload_n hx hb dL_law_1206 rfl (lv_at hl 0 rfl) ?_
  refine lv_iload_n hx hb dL_law_1207 rfl (lv_at hl 3 rfl) ?_
  refine lv_iconst (v := 2) hx hb dL_law_1208 (by decide) ?_
  refine lv_iadd hx hb dL_law_1209 ?_
  refine va_sld hx hb hX hbl hbA hS v2 dL_law_1210 ?_
  refine lv_aload_n hx hb dL_law_1211 rfl (lv_at hl 0 rfl) ?_
  refine lv_iload_n hx hb dL_law_1212 rfl (lv_at hl 3 rfl) ?_
  refine lv_iconst (v := 3) hx hb dL_law_1213 (by decide) ?_
  refine lv_iadd hx hb dL_law_1214 ?_
  refine va_sld hx hb hX hbl hbA hS v3 dL_law_1215 ?_
  refine lv_i2l hx hb dL_law_1216 rfl ?_
  refine lv_bipush (v := 32) hx hb dL_law_1217 (by decide) ?_
  refine lv_lshl hx hb dL_law_1219 rfl ?_
  refine lv_aload_n hx hb dL_law_1220 rfl (lv_at hl 0 rfl) ?_
  refine lv_iload_n hx hb dL_law_1221 rfl (lv_at hl 3 rfl) ?_
  refine lv_iconst (v := 4) hx hb dL_law_1222 (by decide) ?_
  refine lv_iadd hx hb dL_law_1223 ?_
  refine va_sld hx hb hX hbl hbA hS v4 dL_law_1224 ?_
  refine lv_i2l hx hb dL_law_1225 rfl ?_
  refine lv_ldc2 (v := 4294967295) hx hb hown (hts _ (lt7 (List.mem_of_getElem? (i := 47) rfl))) dL_law_1226 ?_
  refine lv_land hx hb dL_law_1229 ?_
  refine lv_lor hx hb dL_law_1230 ?_
  refine lv_topl (fun y1230 ey => ?_)
  rw [← hV] at ey
  have ey1230 : V = y1230 := ey.symm
  subst ey1230
  refine fin_i (E := E) (r := a) (wc := wX8 E ax μ τ) (wc' := wX8 E ax μ τ1) (va_runV (As := [.int (xs (x3 + 1).toNatClampNeg), .int (xs (x3 + 2).toNatClampNeg), .long V]) (rest := [.int a]) ⟨hx, hb, hml, hown, hts⟩ (k_X8_item l E ax N μ τ (xs (x3 + 1).toNatClampNeg) (xs (x3 + 2).toNatClampNeg) V (a, τ1) e2 _) (cwV 3 hts gl_X8_item rfl rfl rfl (by decide +kernel) ⟨(Nat.le_of_ble_eq_true rfl), (Nat.le_of_ble_eq_true rfl)⟩) (pre_v (ci := 8) (q0 := 0) hK (ap_P.mp hP).1 (ap_D1 hD) hS hG hAB rfl rfl) rfl rfl hl.1 rfl (lv_room (Nat.le_of_ble_eq_true rfl)) dL_law_1231 ⟨hc0, hs0⟩) hS (w_free (ap_D1 hD) hS hA (fun _ h => h)) (fun H2 locs hP1 hk hS => ?_)
  have hP := jn_A hP hD hk hP1
  have hD := wD hD s0 s1 h1 s2 h2 s3 s4 h4 s5 s6 s7 s8 s9 z μ τ1
  exact lv_icmp_eq (tgt := 1336) hx hb dL_law_1234 (by decide) (fun _ => K _ _ _ _ _ _ _ _ _ _ _ _ _ _ _ _ _ _ _ hJ hP hD hS) (fun c9 => absurd rfl c9)
set_option maxHeartbeats 8000000 in
set_option maxRecDepth 100000 in
theorem lo_read (hC : LCx p s m meth c E bs Ls xs) (hN : 500000 ≤ N) (v1 : vp_in (x3 + 1) Ls) (v2 : vp_in (x3 + 2) Ls) (hl : lv_has ls 4 [(0, .ref bs), (1, .ref (b 0 0)), (2, .ref (ax 0)), (3, .int x3)]) (hI : Inv L s0 s1 h1 s3 s4 h4 s5 s6 s8 s9 t9 μ τ) (hP : va_P E.1 vwCl (wX8 E ax μ τ ++ w7 E b L s0 s1 h1 s2 h2 s3 s4 h4 s5 s6 s7 s8 s9 t9) H) (hD : va_D (LA s) (wX8 E ax μ τ ++ w7 E b L s0 s1 h1 s2 h2 s3 s4 h4 s5 s6 s7 s8 s9 t9)) (hS : va_S (LA s) s.heap H locs) (hcl : cells + 2 ≤ 600000) (hsl : slots + 103 ≤ 7302250) (K : LK p l e s m below meth c E b ax bs cells slots Q ls) : W p l e room_1 s m #[Value.ref bs] below meth c H locs cells slots Q (F0 m 1239 ls []) := by
  obtain ⟨hx, hb, hml, hown, hts, hX, hbl, hK, hG, hg⟩ := hC
  have hA : ∀ q : Nat, s.heap.size ≤ q → LA s q := fun _ h => h
  have hAB : ∀ q : Nat, LA s q → E.2.2.2.2.1 ≤ q := fun q h => by rw [hg]; exact h
  have hbA : ¬ LA s bs := Nat.not_le.mpr hbl
  have hc0 : cells + 0 ≤ room_1.cells := Nat.le_trans (Nat.le_add_right cells 2) hcl
  have hs0 : slots + 0 ≤ room_1.slots := Nat.le_trans (Nat.le_add_right slots 103) hsl
  obtain ⟨a, e1, e2⟩ := in_read (N := N) hN hI (xs (x3 + 1).toNatClampNeg) (xs (x3 + 2).toNatClampNeg)
  refine lv_aload_n hx hb dL_law_1239 rfl (lv_at hl 1 rfl) ?_
  refine lv_aload_n hx hb dL_law_1240 rfl (lv_at hl 0 rfl) ?_
  refine lv_iload_n hx hb dL_law_1241 rfl (lv_at hl 3 rfl) ?_
  refine lv_iconst (v := 1) hx hb dL_law_1242 (by decide) ?_
  refine lv_iadd hx hb dL_law_1243 ?_
  refine va_sld hx hb hX hbl hbA hS v1 dL_law_1244 ?_
  refine lv_aload_n hx hb dL_law_1245 rfl (lv_at hl 0 rfl) ?_
  refine lv_iload_n hx hb dL_law_1246 rfl (lv_at hl 3 rfl) ?_
  refine lv_iconst (v := 2) hx hb dL_law_1247 (by decide) ?_
  refine lv_iadd hx hb dL_law_1248 ?_
  refine va_sld hx hb hX hbl hbA hS v2 dL_law_1249 ?_
  refine fin_l (E := E) (r := a) (wc := w7 E b L s0 s1 h1 s2 h2 s3 s4 h4 s5 s6 s7 s8 s9 t9) (wc' := w7 E b L s0 s1 h1 s2 h2 s3 s4 h4 s5 s6 s7 s8 s9 t9) (va_runV (As := [.int (xs (x3 + 1).toNatClampNeg), .int (xs (x3 + 2).toNatClampNeg)]) (rest := []) ⟨hx, hb, hml, hown, hts⟩ (k_X7_read l E (b 0) (b 1) (b 2) (b 3) (b 4) (b 5) (b 6) (b 7) (b 8) (b 9) L N s0 s1 h1 s2 h2 s3 s4 h4 s5 s6 s7 s8 s9 t9 (xs (x3 + 1).toNatClampNeg) (xs (x3 + 2).toNatClampNeg) a e1 _) (cwV 2 hts gl_X7_read rfl rfl rfl (by decide +kernel) ⟨(Nat.le_of_ble_eq_true rfl), (Nat.le_of_ble_eq_true rfl)⟩) (pre_v (ci := 7) (q0 := 0) hK (ap_P.mp hP).2 (ap_D2 hD) hS hG hAB rfl rfl) rfl rfl hl.1 rfl (lv_room (Nat.le_of_ble_eq_true rfl)) dL_law_1250 ⟨hc0, hs0⟩) hS (w_free (ap_D2 hD) hS hA (fun _ h => h)) (fun H1 locs hP1 hk hS => ?_)
  have hP := jn_B hP hD hk hP1
  have hD := wD hD s0 s1 h1 s2 h2 s3 s4 h4 s5 s6 s7 s8 s9 t9 μ τ
  clear hP1 hk
  refine lv_aload_n hx hb dL_law_1253 rfl (lv_at hl 2 rfl) ?_
  refine lv_aload_n hx hb dL_law_1254 rfl (lv_at hl 0 rfl) ?_
  refine lv_iload_n hx hb dL_law_1255 rfl (lv_at hl 3 rfl) ?_
  refine lv_iconst (v := 1) hx hb dL_law_1256 (by decide) ?_
  refine lv_iadd hx hb dL_law_1257 ?_
  refine va_sld hx hb hX hbl hbA hS v1 dL_law_1258 ?_
  refine lv_aload_n hx hb dL_law_1259 rfl (lv_at hl 0 rfl) ?_
  refine lv_iload_n hx hb dL_law_1260 rfl (lv_at hl 3 rfl) ?_
  refine lv_iconst (v := 2) hx hb dL_law_1261 (by decide) ?_
  refine lv_iadd hx hb dL_law_1262 ?_
  refine va_sld hx hb hX hbl hbA hS v2 dL_law_1263 ?_
  refine fin_l (E := E) (r := a) (wc := wX8 E ax μ τ) (wc' := wX8 E ax μ τ) (va_runV (As := [.int (xs (x3 + 1).toNatClampNeg), .int (xs (x3 + 2).toNatClampNeg)]) (rest := [.long a]) ⟨hx, hb, hml, hown, hts⟩ (k_X8_read l E ax N μ τ (xs (x3 + 1).toNatClampNeg) (xs (x3 + 2).toNatClampNeg) a e2 _) (cwV 2 hts gl_X8_read rfl rfl rfl (by decide +kernel) ⟨(Nat.le_of_ble_eq_true rfl), (Nat.le_of_ble_eq_true rfl)⟩) (pre_v (ci := 8) (q0 := 0) hK (ap_P.mp hP).1 (ap_D1 hD) hS hG hAB rfl rfl) rfl rfl hl.1 rfl (lv_room (Nat.le_of_ble_eq_true rfl)) dL_law_1264 ⟨hc0, hs0⟩) hS (w_free (ap_D1 hD) hS hA (fun _ h => h)) (fun H2 locs hP1 hk hS => ?_)
  have hP := jn_A hP hD hk hP1
  have hD := wD hD s0 s1 h1 s2 h2 s3 s4 h4 s5 s6 s7 s8 s9 t9 μ τ
  refine W.lcmp hx hb dL_law_1267 ?_
  exact lv_if_eq (tgt := 1336) hx hb dL_law_1268 (by decide) (fun _ => K _ _ _ _ _ _ _ _ _ _ _ _ _ _ _ _ _ _ _ hI hP hD hS) (fun c9 => absurd (lcmp_self a) c9)
set_option maxHeartbeats 8000000 in
set_option maxRecDepth 100000 in
theorem lo_shift (hC : LCx p s m meth c E bs Ls xs) (hN : 500000 ≤ N) (v1 : vp_in (x3 + 1) Ls) (v2 : vp_in (x3 + 2) Ls) (v3 : vp_in (x3 + 3) Ls) (v4 : vp_in (x3 + 4) Ls) (v5 : vp_in (x3 + 5) Ls) (hl : lv_has ls 4 [(0, .ref bs), (1, .ref (b 0 0)), (2, .ref (ax 0)), (3, .int x3)]) (hI : Inv L s0 s1 h1 s3 s4 h4 s5 s6 s8 s9 t9 μ τ) (hP : va_P E.1 vwCl (wX8 E ax μ τ ++ w7 E b L s0 s1 h1 s2 h2 s3 s4 h4 s5 s6 s7 s8 s9 t9) H) (hD : va_D (LA s) (wX8 E ax μ τ ++ w7 E b L s0 s1 h1 s2 h2 s3 s4 h4 s5 s6 s7 s8 s9 t9)) (hS : va_S (LA s) s.heap H locs) (hcl : cells + 2 ≤ 600000) (hsl : slots + 103 ≤ 7302250) (K : LK p l e s m below meth c E b ax bs cells slots Q ls) : W p l e room_1 s m #[Value.ref bs] below meth c H locs cells slots Q (F0 m 1273 ls []) := by
  obtain ⟨hx, hb, hml, hown, hts, hX, hbl, hK, hG, hg⟩ := hC
  have hA : ∀ q : Nat, s.heap.size ≤ q → LA s q := fun _ h => h
  have hAB : ∀ q : Nat, LA s q → E.2.2.2.2.1 ≤ q := fun q h => by rw [hg]; exact h
  have hbA : ¬ LA s bs := Nat.not_le.mpr hbl
  have hc0 : cells + 0 ≤ room_1.cells := Nat.le_trans (Nat.le_add_right cells 2) hcl
  have hs0 : slots + 0 ≤ room_1.slots := Nat.le_trans (Nat.le_add_right slots 103) hsl
  obtain ⟨a, z, τ1, e1, e2, hJ⟩ := in_shift (N := N) (Nat.le_trans (Nat.le_of_ble_eq_true rfl) hN) hI (xs (x3 + 1).toNatClampNeg) (xs (x3 + 2).toNatClampNeg) (xs (x3 + 3).toNatClampNeg) (xs (x3 + 4).toNatClampNeg) (xs (x3 + 5).toNatClampNeg)
  refine lv_aload_n hx hb dL_law_1273 rfl (lv_at hl 1 rfl) ?_
  refine lv_aload_n hx hb dL_law_1274 rfl (lv_at hl 0 rfl) ?_
  refine lv_iload_n hx hb dL_law_1275 rfl (lv_at hl 3 rfl) ?_
  refine lv_iconst (v := 1) hx hb dL_law_1276 (by decide) ?_
  refine lv_iadd hx hb dL_law_1277 ?_
  refine va_sld hx hb hX hbl hbA hS v1 dL_law_1278 ?_
  refine lv_aload_n hx hb dL_law_1279 rfl (lv_at hl 0 rfl) ?_
  refine lv_iload_n hx hb dL_law_1280 rfl (lv_at hl 3 rfl) ?_
  refine lv_iconst (v := 2) hx hb dL_law_1281 (by decide) ?_
  refine lv_iadd hx hb dL_law_1282 ?_
  refine va_sld hx hb hX hbl hbA hS v2 dL_law_1283 ?_
  refine lv_aload_n hx hb dL_law_1284 rfl (lv_at hl 0 rfl) ?_
  refine lv_iload_n hx hb dL_law_1285 rfl (lv_at hl 3 rfl) ?_
  refine lv_iconst (v := 3) hx hb dL_law_1286 (by decide) ?_
  refine lv_iadd hx hb dL_law_1287 ?_
  refine va_sld hx hb hX hbl hbA hS v3 dL_law_1288 ?_
  refine lv_aload_n hx hb dL_law_1289 rfl (lv_at hl 0 rfl) ?_
  refine lv_iload_n hx hb dL_law_1290 rfl (lv_at hl 3 rfl) ?_
  refine lv_iconst (v := 4) hx hb dL_law_1291 (by decide) ?_
  refine lv_iadd hx hb dL_law_1292 ?_
  refine va_sld hx hb hX hbl hbA hS v4 dL_law_1293 ?_
  refine lv_aload_n hx hb dL_law_1294 rfl (lv_at hl 0 rfl) ?_
  refine lv_iload_n hx hb dL_law_1295 rfl (lv_at hl 3 rfl) ?_
  refine lv_iconst (v := 5) hx hb dL_law_1296 (by decide) ?_
  refine lv_iadd hx hb dL_law_1297 ?_
  refine va_sld hx hb hX hbl hbA hS v5 dL_law_1298 ?_
  refine fin_i (E := E) (r := a) (wc := w7 E b L s0 s1 h1 s2 h2 s3 s4 h4 s5 s6 s7 s8 s9 t9) (wc' := w7 E b L s0 s1 h1 s2 h2 s3 s4 h4 s5 s6 s7 s8 s9 z) (va_runV (As := [.int (xs (x3 + 1).toNatClampNeg), .int (xs (x3 + 2).toNatClampNeg), .int (xs (x3 + 3).toNatClampNeg), .int (xs (x3 + 4).toNatClampNeg), .int (xs (x3 + 5).toNatClampNeg)]) (rest := []) ⟨hx, hb, hml, hown, hts⟩ (k_X7_shift l E (b 0) (b 1) (b 2) (b 3) (b 4) (b 5) (b 6) (b 7) (b 8) (b 9) L N s0 s1 h1 s2 h2 s3 s4 h4 s5 s6 s7 s8 s9 t9 (xs (x3 + 1).toNatClampNeg) (xs (x3 + 2).toNatClampNeg) (xs (x3 + 3).toNatClampNeg) (xs (x3 + 4).toNatClampNeg) (xs (x3 + 5).toNatClampNeg) (a, z) e1 _) (cwV 5 hts gl_X7_shift rfl rfl rfl (by decide +kernel) ⟨(Nat.le_of_ble_eq_true rfl), (Nat.le_of_ble_eq_true rfl)⟩) (pre_v (ci := 7) (q0 := 0) hK (ap_P.mp hP).2 (ap_D2 hD) hS hG hAB rfl rfl) rfl rfl hl.1 rfl (lv_room (Nat.le_of_ble_eq_true rfl)) dL_law_1299 ⟨hc0, hs0⟩) hS (w_free (ap_D2 hD) hS hA (fun _ h => h)) (fun H1 locs hP1 hk hS => ?_)
  have hP := jn_B hP hD hk hP1
  have hD := wD hD s0 s1 h1 s2 h2 s3 s4 h4 s5 s6 s7 s8 s9 z μ τ
  clear hP1 hk
  refine lv_aload_n hx hb dL_law_1302 rfl (lv_at hl 2 rfl) ?_
  refine lv_aload_n hx hb dL_law_1303 rfl (lv_at hl 0 rfl) ?_
  refine lv_iload_n hx hb dL_law_1304 rfl (lv_at hl 3 rfl) ?_
  refine lv_iconst (v := 1) hx hb dL_law_1305 (by decide) ?_
  refine lv_iadd hx hb dL_law_1306 ?_
  refine va_sld hx hb hX hbl hbA hS v1 dL_law_1307 ?_
  refine lv_aload_n hx hb dL_law_1308 rfl (lv_at hl 0 rfl) ?_
  refine lv_iload_n hx hb dL_law_1309 rfl (lv_at hl 3 rfl) ?_
  refine lv_iconst (v := 2) hx hb dL_law_1310 (by decide) ?_
  refine lv_iadd hx hb dL_law_1311 ?_
  refine va_sld hx hb hX hbl hbA hS v2 dL_law_1312 ?_
  refine lv_aload_n hx hb dL_law_1313 rfl (lv_at hl 0 rfl) ?_
  refine lv_iload_n hx hb dL_law_1314 rfl (lv_at hl 3 rfl) ?_
  refine lv_iconst (v := 3) hx hb dL_law_1315 (by decide) ?_
  refine lv_iadd hx hb dL_law_1316 ?_
  refine va_sld hx hb hX hbl hbA hS v3 dL_law_1317 ?_
  refine lv_aload_n hx hb dL_law_1318 rfl (lv_at hl 0 rfl) ?_
  refine lv_iload_n hx hb dL_law_1319 rfl (lv_at hl 3 rfl) ?_
  refine lv_iconst (v := 4) hx hb dL_law_1320 (by decide) ?_
  refine lv_iadd hx hb dL_law_1321 ?_
  refine va_sld hx hb hX hbl hbA hS v4 dL_law_1322 ?_
  refine lv_aload_n hx hb dL_law_1323 rfl (lv_at hl 0 rfl) ?_
  refine lv_iload_n hx hb dL_law_1324 rfl (lv_at hl 3 rfl) ?_
  refine lv_iconst (v := 5) hx hb dL_law_1325 (by decide) ?_
  refine lv_iadd hx hb dL_law_1326 ?_
  refine va_sld hx hb hX hbl hbA hS v5 dL_law_1327 ?_
  refine fin_i (E := E) (r := a) (wc := wX8 E ax μ τ) (wc' := wX8 E ax μ τ1) (va_runV (As := [.int (xs (x3 + 1).toNatClampNeg), .int (xs (x3 + 2).toNatClampNeg), .int (xs (x3 + 3).toNatClampNeg), .int (xs (x3 + 4).toNatClampNeg), .int (xs (x3 + 5).toNatClampNeg)]) (rest := [.int a]) ⟨hx, hb, hml, hown, hts⟩ (k_X8_shift l E ax N μ τ (xs (x3 + 1).toNatClampNeg) (xs (x3 + 2).toNatClampNeg) (xs (x3 + 3).toNatClampNeg) (xs (x3 + 4).toNatClampNeg) (xs (x3 + 5).toNatClampNeg) (a, τ1) e2 _) (cwV 5 hts gl_X8_shift rfl rfl rfl (by decide +kernel) ⟨(Nat.le_of_ble_eq_true rfl), (Nat.le_of_ble_eq_true rfl)⟩) (pre_v (ci := 8) (q0 := 0) hK (ap_P.mp hP).1 (ap_D1 hD) hS hG hAB rfl rfl) rfl rfl hl.1 rfl (lv_room (Nat.le_of_ble_eq_true rfl)) dL_law_1328 ⟨hc0, hs0⟩) hS (w_free (ap_D1 hD) hS hA (fun _ h => h)) (fun H2 locs hP1 hk hS => ?_)
  have hP := jn_A hP hD hk hP1
  have hD := wD hD s0 s1 h1 s2 h2 s3 s4 h4 s5 s6 s7 s8 s9 z μ τ1
  exact lv_icmp_eq (tgt := 1336) hx hb dL_law_1331 (by decide) (fun _ => K _ _ _ _ _ _ _ _ _ _ _ _ _ _ _ _ _ _ _ hJ hP hD hS) (fun c9 => absurd rfl c9)
end
