/-! ===== the law, call by call (3) ===== -/
section
variable {p : Program} {l : Launch} {e : Env} {s : State} {m : MethodId} {below : List Frame} {meth : Method} {c : Code} {E : Ev} {bs Ls : Nat} {xs : Nat → Int32} {b : Nat → Nat → Nat} {ax : Nat → Nat} {cells slots N : Nat} {Q : State → Prop} {ls : Array Slot} {x3 : Int32}
variable {L : List SR} {h1 h2 h4 : Option SR} {s0 s1 s2 s3 s4 s5 s6 s7 s8 s9 μ : St} {t9 τ : Nat → Nat → Int64} {H : Heap} {locs : List Loc}
set_option maxHeartbeats 8000000 in
set_option maxRecDepth 100000 in
theorem lo_can (hC : LCx p s m meth c E bs Ls xs) (hN : 500000 ≤ N) (v1 : vp_in (x3 + 1) Ls) (v2 : vp_in (x3 + 2) Ls) (hl : lv_has ls 4 [(0, .ref bs), (1, .ref (b 0 0)), (2, .ref (ax 0)), (3, .int x3)]) (hI : Inv L s0 s1 h1 s3 s4 h4 s5 s6 s8 s9 t9 μ τ) (hP : va_P E.1 vwCl (wX8 E ax μ τ ++ w7 E b L s0 s1 h1 s2 h2 s3 s4 h4 s5 s6 s7 s8 s9 t9) H) (hD : va_D (LA s) (wX8 E ax μ τ ++ w7 E b L s0 s1 h1 s2 h2 s3 s4 h4 s5 s6 s7 s8 s9 t9)) (hS : va_S (LA s) s.heap H locs) (hcl : cells + 2 ≤ 600000) (hsl : slots + 103 ≤ 7302250) (K : LK p l e s m below meth c E b ax bs cells slots Q ls) : W p l e room_1 s m #[Value.ref bs] below meth c H locs cells slots Q (F0 m 739 ls []) := by
  obtain ⟨hx, hb, hml, hown, hts, hX, hbl, hK, hG, hg⟩ := hC
  have hA : ∀ q : Nat, s.heap.size ≤ q → LA s q := fun _ h => h
  have hAB : ∀ q : Nat, LA s q → E.2.2.2.2.1 ≤ q := fun q h => by rw [hg]; exact h
  have hbA : ¬ LA s bs := Nat.not_le.mpr hbl
  have hc0 : cells + 0 ≤ room_1.cells := Nat.le_trans (Nat.le_add_right cells 2) hcl
  have hs0 : slots + 0 ≤ room_1.slots := Nat.le_trans (Nat.le_add_right slots 103) hsl
  obtain ⟨a, ⟨z1, z2⟩, μ1, e1, e2, hJ⟩ := in_can (N := N) (s2 := s2) (h2 := h2) hN hI (xs (x3 + 1).toNatClampNeg) (xs (x3 + 2).toNatClampNeg)
  refine lv_aload_n hx hb dL_law_739 rfl (lv_at hl 1 rfl) ?_
  refine lv_aload_n hx hb dL_law_740 rfl (lv_at hl 0 rfl) ?_
  refine lv_iload_n hx hb dL_law_741 rfl (lv_at hl 3 rfl) ?_
  refine lv_iconst (v := 1) hx hb dL_law_742 (by decide) ?_
  refine lv_iadd hx hb dL_law_743 ?_
  refine va_sld hx hb hX hbl hbA hS v1 dL_law_744 ?_
  refine lv_aload_n hx hb dL_law_745 rfl (lv_at hl 0 rfl) ?_
  refine lv_iload_n hx hb dL_law_746 rfl (lv_at hl 3 rfl) ?_
  refine lv_iconst (v := 2) hx hb dL_law_747 (by decide) ?_
  refine lv_iadd hx hb dL_law_748 ?_
  refine va_sld hx hb hX hbl hbA hS v2 dL_law_749 ?_
  refine fin_i (E := E) (r := a) (wc := w7 E b L s0 s1 h1 s2 h2 s3 s4 h4 s5 s6 s7 s8 s9 t9) (wc' := w7 E b L s0 s1 h1 z1 z2 s3 s4 h4 s5 s6 s7 s8 s9 t9) (va_runV (As := [.int (xs (x3 + 1).toNatClampNeg), .int (xs (x3 + 2).toNatClampNeg)]) (rest := []) ⟨hx, hb, hml, hown, hts⟩ (k_X7_can l E (b 0) (b 1) (b 2) (b 3) (b 4) (b 5) (b 6) (b 7) (b 8) (b 9) L N s0 s1 h1 s2 h2 s3 s4 h4 s5 s6 s7 s8 s9 t9 (xs (x3 + 1).toNatClampNeg) (xs (x3 + 2).toNatClampNeg) (a, z1, z2) e1 _) (cwV 2 hts gl_X7_can rfl rfl rfl (by decide +kernel) ⟨(Nat.le_of_ble_eq_true rfl), (Nat.le_of_ble_eq_true rfl)⟩) (pre_v (ci := 7) (q0 := 0) hK (ap_P.mp hP).2 (ap_D2 hD) hS hG hAB rfl rfl) rfl rfl hl.1 rfl (lv_room (Nat.le_of_ble_eq_true rfl)) dL_law_750 ⟨hc0, hs0⟩) hS (w_free (ap_D2 hD) hS hA (fun _ h => h)) (fun H1 locs hP1 hk hS => ?_)
  have hP := jn_B hP hD hk hP1
  have hD := wD hD s0 s1 h1 z1 z2 s3 s4 h4 s5 s6 s7 s8 s9 t9 μ τ
  clear hP1 hk
  refine lv_aload_n hx hb dL_law_753 rfl (lv_at hl 2 rfl) ?_
  refine lv_aload_n hx hb dL_law_754 rfl (lv_at hl 0 rfl) ?_
  refine lv_iload_n hx hb dL_law_755 rfl (lv_at hl 3 rfl) ?_
  refine lv_iconst (v := 1) hx hb dL_law_756 (by decide) ?_
  refine lv_iadd hx hb dL_law_757 ?_
  refine va_sld hx hb hX hbl hbA hS v1 dL_law_758 ?_
  refine lv_aload_n hx hb dL_law_759 rfl (lv_at hl 0 rfl) ?_
  refine lv_iload_n hx hb dL_law_760 rfl (lv_at hl 3 rfl) ?_
  refine lv_iconst (v := 2) hx hb dL_law_761 (by decide) ?_
  refine lv_iadd hx hb dL_law_762 ?_
  refine va_sld hx hb hX hbl hbA hS v2 dL_law_763 ?_
  refine fin_i (E := E) (r := a) (wc := wX8 E ax μ τ) (wc' := wX8 E ax μ1 τ) (va_runV (As := [.int (xs (x3 + 1).toNatClampNeg), .int (xs (x3 + 2).toNatClampNeg)]) (rest := [.int a]) ⟨hx, hb, hml, hown, hts⟩ (k_X8_can l E ax N μ τ (xs (x3 + 1).toNatClampNeg) (xs (x3 + 2).toNatClampNeg) (a, μ1) e2 _) (cwV 2 hts gl_X8_can rfl rfl rfl (by decide +kernel) ⟨(Nat.le_of_ble_eq_true rfl), (Nat.le_of_ble_eq_true rfl)⟩) (pre_v (ci := 8) (q0 := 0) hK (ap_P.mp hP).1 (ap_D1 hD) hS hG hAB rfl rfl) rfl rfl hl.1 rfl (lv_room (Nat.le_of_ble_eq_true rfl)) dL_law_764 ⟨hc0, hs0⟩) hS (w_free (ap_D1 hD) hS hA (fun _ h => h)) (fun H2 locs hP1 hk hS => ?_)
  have hP := jn_A hP hD hk hP1
  have hD := wD hD s0 s1 h1 z1 z2 s3 s4 h4 s5 s6 s7 s8 s9 t9 μ1 τ
  exact lv_icmp_eq (tgt := 1336) hx hb dL_law_767 (by decide) (fun _ => K _ _ _ _ _ _ _ _ _ _ _ _ _ _ _ _ _ _ _ hJ hP hD hS) (fun c9 => absurd rfl c9)
set_option maxHeartbeats 8000000 in
set_option maxRecDepth 100000 in
theorem lo_odds (hC : LCx p s m meth c E bs Ls xs) (hN : 500000 ≤ N) (v1 : vp_in (x3 + 1) Ls) (v2 : vp_in (x3 + 2) Ls) (v3 : vp_in (x3 + 3) Ls) (hl : lv_has ls 4 [(0, .ref bs), (1, .ref (b 0 0)), (2, .ref (ax 0)), (3, .int x3)]) (hI : Inv L s0 s1 h1 s3 s4 h4 s5 s6 s8 s9 t9 μ τ) (hP : va_P E.1 vwCl (wX8 E ax μ τ ++ w7 E b L s0 s1 h1 s2 h2 s3 s4 h4 s5 s6 s7 s8 s9 t9) H) (hD : va_D (LA s) (wX8 E ax μ τ ++ w7 E b L s0 s1 h1 s2 h2 s3 s4 h4 s5 s6 s7 s8 s9 t9)) (hS : va_S (LA s) s.heap H locs) (hcl : cells + 2 ≤ 600000) (hsl : slots + 103 ≤ 7302250) (K : LK p l e s m below meth c E b ax bs cells slots Q ls) : W p l e room_1 s m #[Value.ref bs] below meth c H locs cells slots Q (F0 m 772 ls []) := by
  obtain ⟨hx, hb, hml, hown, hts, hX, hbl, hK, hG, hg⟩ := hC
  have hA : ∀ q : Nat, s.heap.size ≤ q → LA s q := fun _ h => h
  have hAB : ∀ q : Nat, LA s q → E.2.2.2.2.1 ≤ q := fun q h => by rw [hg]; exact h
  have hbA : ¬ LA s bs := Nat.not_le.mpr hbl
  have hc0 : cells + 0 ≤ room_1.cells := Nat.le_trans (Nat.le_add_right cells 2) hcl
  have hs0 : slots + 0 ≤ room_1.slots := Nat.le_trans (Nat.le_add_right slots 103) hsl
  obtain ⟨a, ⟨z1, z2⟩, μ1, e1, e2, hJ⟩ := in_odds (N := N) (s2 := s2) (h2 := h2) hN hI (xs (x3 + 1).toNatClampNeg) (xs (x3 + 2).toNatClampNeg) (xs (x3 + 3).toNatClampNeg)
  refine lv_aload_n hx hb dL_law_772 rfl (lv_at hl 1 rfl) ?_
  refine lv_aload_n hx hb dL_law_773 rfl (lv_at hl 0 rfl) ?_
  refine lv_iload_n hx hb dL_law_774 rfl (lv_at hl 3 rfl) ?_
  refine lv_iconst (v := 1) hx hb dL_law_775 (by decide) ?_
  refine lv_iadd hx hb dL_law_776 ?_
  refine va_sld hx hb hX hbl hbA hS v1 dL_law_777 ?_
  refine lv_aload_n hx hb dL_law_778 rfl (lv_at hl 0 rfl) ?_
  refine lv_iload_n hx hb dL_law_779 rfl (lv_at hl 3 rfl) ?_
  refine lv_iconst (v := 2) hx hb dL_law_780 (by decide) ?_
  refine lv_iadd hx hb dL_law_781 ?_
  refine va_sld hx hb hX hbl hbA hS v2 dL_law_782 ?_
  refine lv_aload_n hx hb dL_law_783 rfl (lv_at hl 0 rfl) ?_
  refine lv_iload_n hx hb dL_law_784 rfl (lv_at hl 3 rfl) ?_
  refine lv_iconst (v := 3) hx hb dL_law_785 (by decide) ?_
  refine lv_iadd hx hb dL_law_786 ?_
  refine va_sld hx hb hX hbl hbA hS v3 dL_law_787 ?_
  refine fin_l (E := E) (r := a) (wc := w7 E b L s0 s1 h1 s2 h2 s3 s4 h4 s5 s6 s7 s8 s9 t9) (wc' := w7 E b L s0 s1 h1 z1 z2 s3 s4 h4 s5 s6 s7 s8 s9 t9) (va_runV (As := [.int (xs (x3 + 1).toNatClampNeg), .int (xs (x3 + 2).toNatClampNeg), .int (xs (x3 + 3).toNatClampNeg)]) (rest := []) ⟨hx, hb, hml, hown, hts⟩ (k_X7_odds l E (b 0) (b 1) (b 2) (b 3) (b 4) (b 5) (b 6) (b 7) (b 8) (b 9) L N s0 s1 h1 s2 h2 s3 s4 h4 s5 s6 s7 s8 s9 t9 (xs (x3 + 1).toNatClampNeg) (xs (x3 + 2).toNatClampNeg) (xs (x3 + 3).toNatClampNeg) (a, z1, z2) e1 _) (cwV 3 hts gl_X7_odds rfl rfl rfl (by decide +kernel) ⟨(Nat.le_of_ble_eq_true rfl), (Nat.le_of_ble_eq_true rfl)⟩) (pre_v (ci := 7) (q0 := 0) hK (ap_P.mp hP).2 (ap_D2 hD) hS hG hAB rfl rfl) rfl rfl hl.1 rfl (lv_room (Nat.le_of_ble_eq_true rfl)) dL_law_788 ⟨hc0, hs0⟩) hS (w_free (ap_D2 hD) hS hA (fun _ h => h)) (fun H1 locs hP1 hk hS => ?_)
  have hP := jn_B hP hD hk hP1
  have hD := wD hD s0 s1 h1 z1 z2 s3 s4 h4 s5 s6 s7 s8 s9 t9 μ τ
  clear hP1 hk
  refine lv_aload_n hx hb dL_law_791 rfl (lv_at hl 2 rfl) ?_
  refine lv_aload_n hx hb dL_law_792 rfl (lv_at hl 0 rfl) ?_
  refine lv_iload_n hx hb dL_law_793 rfl (lv_at hl 3 rfl) ?_
  refine lv_iconst (v := 1) hx hb dL_law_794 (by decide) ?_
  refine lv_iadd hx hb dL_law_795 ?_
  refine va_sld hx hb hX hbl hbA hS v1 dL_law_796 ?_
  refine lv_aload_n hx hb dL_law_797 rfl (lv_at hl 0 rfl) ?_
  refine lv_iload_n hx hb dL_law_798 rfl (lv_at hl 3 rfl) ?_
  refine lv_iconst (v := 2) hx hb dL_law_799 (by decide) ?_
  refine lv_iadd hx hb dL_law_800 ?_
  refine va_sld hx hb hX hbl hbA hS v2 dL_law_801 ?_
  refine lv_aload_n hx hb dL_law_802 rfl (lv_at hl 0 rfl) ?_
  refine lv_iload_n hx hb dL_law_803 rfl (lv_at hl 3 rfl) ?_
  refine lv_iconst (v := 3) hx hb dL_law_804 (by decide) ?_
  refine lv_iadd hx hb dL_law_805 ?_
  refine va_sld hx hb hX hbl hbA hS v3 dL_law_806 ?_
  refine fin_l (E := E) (r := a) (wc := wX8 E ax μ τ) (wc' := wX8 E ax μ1 τ) (va_runV (As := [.int (xs (x3 + 1).toNatClampNeg), .int (xs (x3 + 2).toNatClampNeg), .int (xs (x3 + 3).toNatClampNeg)]) (rest := [.long a]) ⟨hx, hb, hml, hown, hts⟩ (k_X8_odds l E ax N μ τ (xs (x3 + 1).toNatClampNeg) (xs (x3 + 2).toNatClampNeg) (xs (x3 + 3).toNatClampNeg) (a, μ1) e2 _) (cwV 3 hts gl_X8_odds rfl rfl rfl (by decide +kernel) ⟨(Nat.le_of_ble_eq_true rfl), (Nat.le_of_ble_eq_true rfl)⟩) (pre_v (ci := 8) (q0 := 0) hK (ap_P.mp hP).1 (ap_D1 hD) hS hG hAB rfl rfl) rfl rfl hl.1 rfl (lv_room (Nat.le_of_ble_eq_true rfl)) dL_law_807 ⟨hc0, hs0⟩) hS (w_free (ap_D1 hD) hS hA (fun _ h => h)) (fun H2 locs hP1 hk hS => ?_)
  have hP := jn_A hP hD hk hP1
  have hD := wD hD s0 s1 h1 z1 z2 s3 s4 h4 s5 s6 s7 s8 s9 t9 μ1 τ
  refine W.lcmp hx hb dL_law_810 ?_
  exact lv_if_eq (tgt := 1336) hx hb dL_law_811 (by decide) (fun _ => K _ _ _ _ _ _ _ _ _ _ _ _ _ _ _ _ _ _ _ hJ hP hD hS) (fun c9 => absurd (lcmp_self a) c9)
set_option maxHeartbeats 8000000 in
set_option maxRecDepth 100000 in
theorem lo_mean (hC : LCx p s m meth c E bs Ls xs) (hN : 500000 ≤ N) (v1 : vp_in (x3 + 1) Ls) (hl : lv_has ls 4 [(0, .ref bs), (1, .ref (b 0 0)), (2, .ref (ax 0)), (3, .int x3)]) (hI : Inv L s0 s1 h1 s3 s4 h4 s5 s6 s8 s9 t9 μ τ) (hP : va_P E.1 vwCl (wX8 E ax μ τ ++ w7 E b L s0 s1 h1 s2 h2 s3 s4 h4 s5 s6 s7 s8 s9 t9) H) (hD : va_D (LA s) (wX8 E ax μ τ ++ w7 E b L s0 s1 h1 s2 h2 s3 s4 h4 s5 s6 s7 s8 s9 t9)) (hS : va_S (LA s) s.heap H locs) (hcl : cells + 2 ≤ 600000) (hsl : slots + 103 ≤ 7302250) (K : LK p l e s m below meth c E b ax bs cells slots Q ls) : W p l e room_1 s m #[Value.ref bs] below meth c H locs cells slots Q (F0 m 816 ls []) := by
  obtain ⟨hx, hb, hml, hown, hts, hX, hbl, hK, hG, hg⟩ := hC
  have hA : ∀ q : Nat, s.heap.size ≤ q → LA s q := fun _ h => h
  have hAB : ∀ q : Nat, LA s q → E.2.2.2.2.1 ≤ q := fun q h => by rw [hg]; exact h
  have hbA : ¬ LA s bs := Nat.not_le.mpr hbl
  have hc0 : cells + 0 ≤ room_1.cells := Nat.le_trans (Nat.le_add_right cells 2) hcl
  have hs0 : slots + 0 ≤ room_1.slots := Nat.le_trans (Nat.le_add_right slots 103) hsl
  obtain ⟨a, e1, e2⟩ := in_mean (N := N) hN hI (xs (x3 + 1).toNatClampNeg)
  refine lv_aload_n hx hb dL_law_816 rfl (lv_at hl 1 rfl) ?_
  refine lv_aload_n hx hb dL_law_817 rfl (lv_at hl 0 rfl) ?_
  refine lv_iload_n hx hb dL_law_818 rfl (lv_at hl 3 rfl) ?_
  refine lv_iconst (v := 1) hx hb dL_law_819 (by decide) ?_
  refine lv_iadd hx hb dL_law_820 ?_
  refine va_sld hx hb hX hbl hbA hS v1 dL_law_821 ?_
  refine fin_l (E := E) (r := a) (wc := w7 E b L s0 s1 h1 s2 h2 s3 s4 h4 s5 s6 s7 s8 s9 t9) (wc' := w7 E b L s0 s1 h1 s2 h2 s3 s4 h4 s5 s6 s7 s8 s9 t9) (va_runV (As := [.int (xs (x3 + 1).toNatClampNeg)]) (rest := []) ⟨hx, hb, hml, hown, hts⟩ (k_X7_mean l E (b 0) (b 1) (b 2) (b 3) (b 4) (b 5) (b 6) (b 7) (b 8) (b 9) L N s0 s1 h1 s2 h2 s3 s4 h4 s5 s6 s7 s8 s9 t9 (xs (x3 + 1).toNatClampNeg) a e1 _) (cwV 1 hts gl_X7_mean rfl rfl rfl (by decide +kernel) ⟨(Nat.le_of_ble_eq_true rfl), (Nat.le_of_ble_eq_true rfl)⟩) (pre_v (ci := 7) (q0 := 0) hK (ap_P.mp hP).2 (ap_D2 hD) hS hG hAB rfl rfl) rfl rfl hl.1 rfl (lv_room (Nat.le_of_ble_eq_true rfl)) dL_law_822 ⟨hc0, hs0⟩) hS (w_free (ap_D2 hD) hS hA (fun _ h => h)) (fun H1 locs hP1 hk hS => ?_)
  have hP := jn_B hP hD hk hP1
  have hD := wD hD s0 s1 h1 s2 h2 s3 s4 h4 s5 s6 s7 s8 s9 t9 μ τ
  clear hP1 hk
  refine lv_aload_n hx hb dL_law_825 rfl (lv_at hl 2 rfl) ?_
  refine lv_aload_n hx hb dL_law_826 rfl (lv_at hl 0 rfl) ?_
  refine lv_iload_n hx hb dL_law_827 rfl (lv_at hl 3 rfl) ?_
  refine lv_iconst (v := 1) hx hb dL_law_828 (by decide) ?_
  refine lv_iadd hx hb dL_law_829 ?_
  refine va_sld hx hb hX hbl hbA hS v1 dL_law_830 ?_
  refine fin_l (E := E) (r := a) (wc := wX8 E ax μ τ) (wc' := wX8 E ax μ τ) (va_runV (As := [.int (xs (x3 + 1).toNatClampNeg)]) (rest := [.long a]) ⟨hx, hb, hml, hown, hts⟩ (k_X8_mean l E ax N μ τ (xs (x3 + 1).toNatClampNeg) a e2 _) (cwV 1 hts gl_X8_mean rfl rfl rfl (by decide +kernel) ⟨(Nat.le_of_ble_eq_true rfl), (Nat.le_of_ble_eq_true rfl)⟩) (pre_v (ci := 8) (q0 := 0) hK (ap_P.mp hP).1 (ap_D1 hD) hS hG hAB rfl rfl) rfl rfl hl.1 rfl (lv_room (Nat.le_of_ble_eq_true rfl)) dL_law_831 ⟨hc0, hs0⟩) hS (w_free (ap_D1 hD) hS hA (fun _ h => h)) (fun H2 locs hP1 hk hS => ?_)
  have hP := jn_A hP hD hk hP1
  have hD := wD hD s0 s1 h1 s2 h2 s3 s4 h4 s5 s6 s7 s8 s9 t9 μ τ
  refine W.lcmp hx hb dL_law_834 ?_
  exact lv_if_eq (tgt := 1336) hx hb dL_law_835 (by decide) (fun _ => K _ _ _ _ _ _ _ _ _ _ _ _ _ _ _ _ _ _ _ hI hP hD hS) (fun c9 => absurd (lcmp_self a) c9)
set_option maxHeartbeats 8000000 in
set_option maxRecDepth 100000 in
theorem lo_week (hC : LCx p s m meth c E bs Ls xs) (hN : 500000 ≤ N) (v1 : vp_in (x3 + 1) Ls) (v2 : vp_in (x3 + 2) Ls) (hl : lv_has ls 4 [(0, .ref bs), (1, .ref (b 0 0)), (2, .ref (ax 0)), (3, .int x3)]) (hI : Inv L s0 s1 h1 s3 s4 h4 s5 s6 s8 s9 t9 μ τ) (hP : va_P E.1 vwCl (wX8 E ax μ τ ++ w7 E b L s0 s1 h1 s2 h2 s3 s4 h4 s5 s6 s7 s8 s9 t9) H) (hD : va_D (LA s) (wX8 E ax μ τ ++ w7 E b L s0 s1 h1 s2 h2 s3 s4 h4 s5 s6 s7 s8 s9 t9)) (hS : va_S (LA s) s.heap H locs) (hcl : cells + 2 ≤ 600000) (hsl : slots + 103 ≤ 7302250) (K : LK p l e s m below meth c E b ax bs cells slots Q ls) : W p l e room_1 s m #[Value.ref bs] below meth c H locs cells slots Q (F0 m 840 ls []) := by
  obtain ⟨hx, hb, hml, hown, hts, hX, hbl, hK, hG, hg⟩ := hC
  have hA : ∀ q : Nat, s.heap.size ≤ q → LA s q := fun _ h => h
  have hAB : ∀ q : Nat, LA s q → E.2.2.2.2.1 ≤ q := fun q h => by rw [hg]; exact h
  have hbA : ¬ LA s bs := Nat.not_le.mpr hbl
  have hc0 : cells + 0 ≤ room_1.cells := Nat.le_trans (Nat.le_add_right cells 2) hcl
  have hs0 : slots + 0 ≤ room_1.slots := Nat.le_trans (Nat.le_add_right slots 103) hsl
  obtain ⟨a, z, μ1, e1, e2, hJ⟩ := in_week (N := N) hN hI (xs (x3 + 1).toNatClampNeg) (xs (x3 + 2).toNatClampNeg)
  refine lv_aload_n hx hb dL_law_840 rfl (lv_at hl 1 rfl) ?_
  refine lv_aload_n hx hb dL_law_841 rfl (lv_at hl 0 rfl) ?_
  refine lv_iload_n hx hb dL_law_842 rfl (lv_at hl 3 rfl) ?_
  refine lv_iconst (v := 1) hx hb dL_law_843 (by decide) ?_
  refine lv_iadd hx hb dL_law_844 ?_
  refine va_sld hx hb hX hbl hbA hS v1 dL_law_845 ?_
  refine lv_aload_n hx hb dL_law_846 rfl (lv_at hl 0 rfl) ?_
  refine lv_iload_n hx hb dL_law_847 rfl (lv_at hl 3 rfl) ?_
  refine lv_iconst (v := 2) hx hb dL_law_848 (by decide) ?_
  refine lv_iadd hx hb dL_law_849 ?_
  refine va_sld hx hb hX hbl hbA hS v2 dL_law_850 ?_
  refine fin_i (E := E) (r := a) (wc := w7 E b L s0 s1 h1 s2 h2 s3 s4 h4 s5 s6 s7 s8 s9 t9) (wc' := w7 E b L s0 s1 h1 s2 h2 z s4 h4 s5 s6 s7 s8 s9 t9) (va_runV (As := [.int (xs (x3 + 1).toNatClampNeg), .int (xs (x3 + 2).toNatClampNeg)]) (rest := []) ⟨hx, hb, hml, hown, hts⟩ (k_X7_week l E (b 0) (b 1) (b 2) (b 3) (b 4) (b 5) (b 6) (b 7) (b 8) (b 9) L N s0 s1 h1 s2 h2 s3 s4 h4 s5 s6 s7 s8 s9 t9 (xs (x3 + 1).toNatClampNeg) (xs (x3 + 2).toNatClampNeg) (a, z) e1 _) (cwV 2 hts gl_X7_week rfl rfl rfl (by decide +kernel) ⟨(Nat.le_of_ble_eq_true rfl), (Nat.le_of_ble_eq_true rfl)⟩) (pre_v (ci := 7) (q0 := 0) hK (ap_P.mp hP).2 (ap_D2 hD) hS hG hAB rfl rfl) rfl rfl hl.1 rfl (lv_room (Nat.le_of_ble_eq_true rfl)) dL_law_851 ⟨hc0, hs0⟩) hS (w_free (ap_D2 hD) hS hA (fun _ h => h)) (fun H1 locs hP1 hk hS => ?_)
  have hP := jn_B hP hD hk hP1
  have hD := wD hD s0 s1 h1 s2 h2 z s4 h4 s5 s6 s7 s8 s9 t9 μ τ
  clear hP1 hk
  refine lv_aload_n hx hb dL_law_854 rfl (lv_at hl 2 rfl) ?_
  refine lv_aload_n hx hb dL_law_855 rfl (lv_at hl 0 rfl) ?_
  refine lv_iload_n hx hb dL_law_856 rfl (lv_at hl 3 rfl) ?_
  refine lv_iconst (v := 1) hx hb dL_law_857 (by decide) ?_
  refine lv_iadd hx hb dL_law_858 ?_
  refine va_sld hx hb hX hbl hbA hS v1 dL_law_859 ?_
  refine lv_aload_n hx hb dL_law_860 rfl (lv_at hl 0 rfl) ?_
  refine lv_iload_n hx hb dL_law_861 rfl (lv_at hl 3 rfl) ?_
  refine lv_iconst (v := 2) hx hb dL_law_862 (by decide) ?_
  refine lv_iadd hx hb dL_law_863 ?_
  refine va_sld hx hb hX hbl hbA hS v2 dL_law_864 ?_
  refine fin_i (E := E) (r := a) (wc := wX8 E ax μ τ) (wc' := wX8 E ax μ1 τ) (va_runV (As := [.int (xs (x3 + 1).toNatClampNeg), .int (xs (x3 + 2).toNatClampNeg)]) (rest := [.int a]) ⟨hx, hb, hml, hown, hts⟩ (k_X8_week l E ax N μ τ (xs (x3 + 1).toNatClampNeg) (xs (x3 + 2).toNatClampNeg) (a, μ1) e2 _) (cwV 2 hts gl_X8_week rfl rfl rfl (by decide +kernel) ⟨(Nat.le_of_ble_eq_true rfl), (Nat.le_of_ble_eq_true rfl)⟩) (pre_v (ci := 8) (q0 := 0) hK (ap_P.mp hP).1 (ap_D1 hD) hS hG hAB rfl rfl) rfl rfl hl.1 rfl (lv_room (Nat.le_of_ble_eq_true rfl)) dL_law_865 ⟨hc0, hs0⟩) hS (w_free (ap_D1 hD) hS hA (fun _ h => h)) (fun H2 locs hP1 hk hS => ?_)
  have hP := jn_A hP hD hk hP1
  have hD := wD hD s0 s1 h1 s2 h2 z s4 h4 s5 s6 s7 s8 s9 t9 μ1 τ
  exact lv_icmp_eq (tgt := 1336) hx hb dL_law_868 (by decide) (fun _ => K _ _ _ _ _ _ _ _ _ _ _ _ _ _ _ _ _ _ _ hJ hP hD hS) (fun c9 => absurd rfl c9)
set_option maxHeartbeats 8000000 in
set_option maxRecDepth 100000 in
theorem lo_ends (hC : LCx p s m meth c E bs Ls xs) (hN : 500000 ≤ N) (v1 : vp_in (x3 + 1) Ls) (hl : lv_has ls 4 [(0, .ref bs), (1, .ref (b 0 0)), (2, .ref (ax 0)), (3, .int x3)]) (hI : Inv L s0 s1 h1 s3 s4 h4 s5 s6 s8 s9 t9 μ τ) (hP : va_P E.1 vwCl (wX8 E ax μ τ ++ w7 E b L s0 s1 h1 s2 h2 s3 s4 h4 s5 s6 s7 s8 s9 t9) H) (hD : va_D (LA s) (wX8 E ax μ τ ++ w7 E b L s0 s1 h1 s2 h2 s3 s4 h4 s5 s6 s7 s8 s9 t9)) (hS : va_S (LA s) s.heap H locs) (hcl : cells + 2 ≤ 600000) (hsl : slots + 103 ≤ 7302250) (K : LK p l e s m below meth c E b ax bs cells slots Q ls) : W p l e room_1 s m #[Value.ref bs] below meth c H locs cells slots Q (F0 m 873 ls []) := by
  obtain ⟨hx, hb, hml, hown, hts, hX, hbl, hK, hG, hg⟩ := hC
  have hA : ∀ q : Nat, s.heap.size ≤ q → LA s q := fun _ h => h
  have hAB : ∀ q : Nat, LA s q → E.2.2.2.2.1 ≤ q := fun q h => by rw [hg]; exact h
  have hbA : ¬ LA s bs := Nat.not_le.mpr hbl
  have hc0 : cells + 0 ≤ room_1.cells := Nat.le_trans (Nat.le_add_right cells 2) hcl
  have hs0 : slots + 0 ≤ room_1.slots := Nat.le_trans (Nat.le_add_right slots 103) hsl
  obtain ⟨a, ⟨z1, z2⟩, μ1, e1, e2, hJ⟩ := in_ends (N := N) (s2 := s2) (h2 := h2) hN hI (xs (x3 + 1).toNatClampNeg)
  refine lv_aload_n hx hb dL_law_873 rfl (lv_at hl 1 rfl) ?_
  refine lv_aload_n hx hb dL_law_874 rfl (lv_at hl 0 rfl) ?_
  refine lv_iload_n hx hb dL_law_875 rfl (lv_at hl 3 rfl) ?_
  refine lv_iconst (v := 1) hx hb dL_law_876 (by decide) ?_
  refine lv_iadd hx hb dL_law_877 ?_
  refine va_sld hx hb hX hbl hbA hS v1 dL_law_878 ?_
  refine fin_i (E := E) (r := a) (wc := w7 E b L s0 s1 h1 s2 h2 s3 s4 h4 s5 s6 s7 s8 s9 t9) (wc' := w7 E b L s0 s1 h1 z1 z2 s3 s4 h4 s5 s6 s7 s8 s9 t9) (va_runV (As := [.int (xs (x3 + 1).toNatClampNeg)]) (rest := []) ⟨hx, hb, hml, hown, hts⟩ (k_X7_ends l E (b 0) (b 1) (b 2) (b 3) (b 4) (b 5) (b 6) (b 7) (b 8) (b 9) L N s0 s1 h1 s2 h2 s3 s4 h4 s5 s6 s7 s8 s9 t9 (xs (x3 + 1).toNatClampNeg) (a, z1, z2) e1 _) (cwV 1 hts gl_X7_ends rfl rfl rfl (by decide +kernel) ⟨(Nat.le_of_ble_eq_true rfl), (Nat.le_of_ble_eq_true rfl)⟩) (pre_v (ci := 7) (q0 := 0) hK (ap_P.mp hP).2 (ap_D2 hD) hS hG hAB rfl rfl) rfl rfl hl.1 rfl (lv_room (Nat.le_of_ble_eq_true rfl)) dL_law_879 ⟨hc0, hs0⟩) hS (w_free (ap_D2 hD) hS hA (fun _ h => h)) (fun H1 locs hP1 hk hS => ?_)
  have hP := jn_B hP hD hk hP1
  have hD := wD hD s0 s1 h1 z1 z2 s3 s4 h4 s5 s6 s7 s8 s9 t9 μ τ
  clear hP1 hk
  refine lv_aload_n hx hb dL_law_882 rfl (lv_at hl 2 rfl) ?_
  refine lv_aload_n hx hb dL_law_883 rfl (lv_at hl 0 rfl) ?_
  refine lv_iload_n hx hb dL_law_884 rfl (lv_at hl 3 rfl) ?_
  refine lv_iconst (v := 1) hx hb dL_law_885 (by decide) ?_
  refine lv_iadd hx hb dL_law_886 ?_
  refine va_sld hx hb hX hbl hbA hS v1 dL_law_887 ?_
  refine fin_i (E := E) (r := a) (wc := wX8 E ax μ τ) (wc' := wX8 E ax μ1 τ) (va_runV (As := [.int (xs (x3 + 1).toNatClampNeg)]) (rest := [.int a]) ⟨hx, hb, hml, hown, hts⟩ (k_X8_ends l E ax N μ τ (xs (x3 + 1).toNatClampNeg) (a, μ1) e2 _) (cwV 1 hts gl_X8_ends rfl rfl rfl (by decide +kernel) ⟨(Nat.le_of_ble_eq_true rfl), (Nat.le_of_ble_eq_true rfl)⟩) (pre_v (ci := 8) (q0 := 0) hK (ap_P.mp hP).1 (ap_D1 hD) hS hG hAB rfl rfl) rfl rfl hl.1 rfl (lv_room (Nat.le_of_ble_eq_true rfl)) dL_law_888 ⟨hc0, hs0⟩) hS (w_free (ap_D1 hD) hS hA (fun _ h => h)) (fun H2 locs hP1 hk hS => ?_)
  have hP := jn_A hP hD hk hP1
  have hD := wD hD s0 s1 h1 z1 z2 s3 s4 h4 s5 s6 s7 s8 s9 t9 μ1 τ
  exact lv_icmp_eq (tgt := 1336) hx hb dL_law_891 (by decide) (fun _ => K _ _ _ _ _ _ _ _ _ _ _ _ _ _ _ _ _ _ _ hJ hP hD hS) (fun c9 => absurd rfl c9)
set_option maxHeartbeats 8000000 in
set_option maxRecDepth 100000 in
theorem lo_book (hC : LCx p s m meth c E bs Ls xs) (hN : 500000 ≤ N) (v1 : vp_in (x3 + 1) Ls) (v2 : vp_in (x3 + 2) Ls) (hl : lv_has ls 4 [(0, .ref bs), (1, .ref (b 0 0)), (2, .ref (ax 0)), (3, .int x3)]) (hI : Inv L s0 s1 h1 s3 s4 h4 s5 s6 s8 s9 t9 μ τ) (hP : va_P E.1 vwCl (wX8 E ax μ τ ++ w7 E b L s0 s1 h1 s2 h2 s3 s4 h4 s5 s6 s7 s8 s9 t9) H) (hD : va_D (LA s) (wX8 E ax μ τ ++ w7 E b L s0 s1 h1 s2 h2 s3 s4 h4 s5 s6 s7 s8 s9 t9)) (hS : va_S (LA s) s.heap H locs) (hcl : cells + 2 ≤ 600000) (hsl : slots + 103 ≤ 7302250) (K : LK p l e s m below meth c E b ax bs cells slots Q ls) : W p l e room_1 s m #[Value.ref bs] below meth c H locs cells slots Q (F0 m 896 ls []) := by
  obtain ⟨hx, hb, hml, hown, hts, hX, hbl, hK, hG, hg⟩ := hC
  have hA : ∀ q : Nat, s.heap.size ≤ q → LA s q := fun _ h => h
  have hAB : ∀ q : Nat, LA s q → E.2.2.2.2.1 ≤ q := fun q h => by rw [hg]; exact h
  have hbA : ¬ LA s bs := Nat.not_le.mpr hbl
  have hc0 : cells + 0 ≤ room_1.cells := Nat.le_trans (Nat.le_add_right cells 2) hcl
  have hs0 : slots + 0 ≤ room_1.slots := Nat.le_trans (Nat.le_add_right slots 103) hsl
  obtain ⟨a, z, μ1, e1, e2, hJ⟩ := in_book (N := N) hN hI (xs (x3 + 1).toNatClampNeg) (xs (x3 + 2).toNatClampNeg)
  refine lv_aload_n hx hb dL_law_896 rfl (lv_at hl 1 rfl) ?_
  refine lv_aload_n hx hb dL_law_897 rfl (lv_at hl 0 rfl) ?_
  refine lv_iload_n hx hb dL_law_898 rfl (lv_at hl 3 rfl) ?_
  refine lv_iconst (v := 1) hx hb dL_law_899 (by decide) ?_
  refine lv_iadd hx hb dL_law_900 ?_
  refine va_sld hx hb hX hbl hbA hS v1 dL_law_901 ?_
  refine lv_aload_n hx hb dL_law_902 rfl (lv_at hl 0 rfl) ?_
  refine lv_iload_n hx hb dL_law_903 rfl (lv_at hl 3 rfl) ?_
  refine lv_iconst (v := 2) hx hb dL_law_904 (by decide) ?_
  refine lv_iadd hx hb dL_law_905 ?_
  refine va_sld hx hb hX hbl hbA hS v2 dL_law_906 ?_
  refine fin_i (E := E) (r := a) (wc := w7 E b L s0 s1 h1 s2 h2 s3 s4 h4 s5 s6 s7 s8 s9 t9) (wc' := w7 E b L s0 s1 h1 s2 h2 z s4 h4 s5 s6 s7 s8 s9 t9) (va_runV (As := [.int (xs (x3 + 1).toNatClampNeg), .int (xs (x3 + 2).toNatClampNeg)]) (rest := []) ⟨hx, hb, hml, hown, hts⟩ (k_X7_book l E (b 0) (b 1) (b 2) (b 3) (b 4) (b 5) (b 6) (b 7) (b 8) (b 9) L N s0 s1 h1 s2 h2 s3 s4 h4 s5 s6 s7 s8 s9 t9 (xs (x3 + 1).toNatClampNeg) (xs (x3 + 2).toNatClampNeg) (a, z) e1 _) (cwV 2 hts gl_X7_book rfl rfl rfl (by decide +kernel) ⟨(Nat.le_of_ble_eq_true rfl), (Nat.le_of_ble_eq_true rfl)⟩) (pre_v (ci := 7) (q0 := 0) hK (ap_P.mp hP).2 (ap_D2 hD) hS hG hAB rfl rfl) rfl rfl hl.1 rfl (lv_room (Nat.le_of_ble_eq_true rfl)) dL_law_907 ⟨hc0, hs0⟩) hS (w_free (ap_D2 hD) hS hA (fun _ h => h)) (fun H1 locs hP1 hk hS => ?_)
  have hP := jn_B hP hD hk hP1
  have hD := wD hD s0 s1 h1 s2 h2 z s4 h4 s5 s6 s7 s8 s9 t9 μ τ
  clear hP1 hk
  refine lv_aload_n hx hb dL_law_910 rfl (lv_at hl 2 rfl) ?_
  refine lv_aload_n hx hb dL_law_911 rfl (lv_at hl 0 rfl) ?_
  refine lv_iload_n hx hb dL_law_912 rfl (lv_at hl 3 rfl) ?_
  refine lv_iconst (v := 1) hx hb dL_law_913 (by decide) ?_
  refine lv_iadd hx hb dL_law_914 ?_
  refine va_sld hx hb hX hbl hbA hS v1 dL_law_915 ?_
  refine lv_aload_n hx hb dL_law_916 rfl (lv_at hl 0 rfl) ?_
  refine lv_iload_n hx hb dL_law_917 rfl (lv_at hl 3 rfl) ?_
  refine lv_iconst (v := 2) hx hb dL_law_918 (by decide) ?_
  refine lv_iadd hx hb dL_law_919 ?_
  refine va_sld hx hb hX hbl hbA hS v2 dL_law_920 ?_
  refine fin_i (E := E) (r := a) (wc := wX8 E ax μ τ) (wc' := wX8 E ax μ1 τ) (va_runV (As := [.int (xs (x3 + 1).toNatClampNeg), .int (xs (x3 + 2).toNatClampNeg)]) (rest := [.int a]) ⟨hx, hb, hml, hown, hts⟩ (k_X8_book l E ax N μ τ (xs (x3 + 1).toNatClampNeg) (xs (x3 + 2).toNatClampNeg) (a, μ1) e2 _) (cwV 2 hts gl_X8_book rfl rfl rfl (by decide +kernel) ⟨(Nat.le_of_ble_eq_true rfl), (Nat.le_of_ble_eq_true rfl)⟩) (pre_v (ci := 8) (q0 := 0) hK (ap_P.mp hP).1 (ap_D1 hD) hS hG hAB rfl rfl) rfl rfl hl.1 rfl (lv_room (Nat.le_of_ble_eq_true rfl)) dL_law_921 ⟨hc0, hs0⟩) hS (w_free (ap_D1 hD) hS hA (fun _ h => h)) (fun H2 locs hP1 hk hS => ?_)
  have hP := jn_A hP hD hk hP1
  have hD := wD hD s0 s1 h1 s2 h2 z s4 h4 s5 s6 s7 s8 s9 t9 μ1 τ
  exact lv_icmp_eq (tgt := 1336) hx hb dL_law_924 (by decide) (fun _ => K _ _ _ _ _ _ _ _ _ _ _ _ _ _ _ _ _ _ _ hJ hP hD hS) (fun c9 => absurd rfl c9)
set_option maxHeartbeats 8000000 in
set_option maxRecDepth 100000 in
theorem lo_looked (hC : LCx p s m meth c E bs Ls xs) (hN : 500000 ≤ N) (hl : lv_has ls 4 [(0, .ref bs), (1, .ref (b 0 0)), (2, .ref (ax 0)), (3, .int x3)]) (hI : Inv L s0 s1 h1 s3 s4 h4 s5 s6 s8 s9 t9 μ τ) (hP : va_P E.1 vwCl (wX8 E ax μ τ ++ w7 E b L s0 s1 h1 s2 h2 s3 s4 h4 s5 s6 s7 s8 s9 t9) H) (hD : va_D (LA s) (wX8 E ax μ τ ++ w7 E b L s0 s1 h1 s2 h2 s3 s4 h4 s5 s6 s7 s8 s9 t9)) (hS : va_S (LA s) s.heap H locs) (hcl : cells + 2 ≤ 600000) (hsl : slots + 103 ≤ 7302250) (K : LK p l e s m below meth c E b ax bs cells slots Q ls) : W p l e room_1 s m #[Value.ref bs] below meth c H locs cells slots Q (F0 m 929 ls []) := by
  obtain ⟨hx, hb, hml, hown, hts, hX, hbl, hK, hG, hg⟩ := hC
  have hA : ∀ q : Nat, s.heap.size ≤ q → LA s q := fun _ h => h
  have hAB : ∀ q : Nat, LA s q → E.2.2.2.2.1 ≤ q := fun q h => by rw [hg]; exact h
  have hbA : ¬ LA s bs := Nat.not_le.mpr hbl
  have hc0 : cells + 0 ≤ room_1.cells := Nat.le_trans (Nat.le_add_right cells 2) hcl
  have hs0 : slots + 0 ≤ room_1.slots := Nat.le_trans (Nat.le_add_right slots 103) hsl
  obtain ⟨a, e1, e2⟩ := in_looked (N := N) hN hI
  refine lv_aload_n hx hb dL_law_929 rfl (lv_at hl 1 rfl) ?_
  refine fin_i (E := E) (r := a) (wc := w7 E b L s0 s1 h1 s2 h2 s3 s4 h4 s5 s6 s7 s8 s9 t9) (wc' := w7 E b L s0 s1 h1 s2 h2 s3 s4 h4 s5 s6 s7 s8 s9 t9) (va_runV (As := []) (rest := []) ⟨hx, hb, hml, hown, hts⟩ (k_X7_looked l E (b 0) (b 1) (b 2) (b 3) (b 4) (b 5) (b 6) (b 7) (b 8) (b 9) L N s0 s1 h1 s2 h2 s3 s4 h4 s5 s6 s7 s8 s9 t9 a e1 _) (cwV 0 hts gl_X7_looked rfl rfl rfl (by decide +kernel) ⟨(Nat.le_of_ble_eq_true rfl), (Nat.le_of_ble_eq_true rfl)⟩) (pre_v (ci := 7) (q0 := 0) hK (ap_P.mp hP).2 (ap_D2 hD) hS hG hAB rfl rfl) rfl rfl hl.1 rfl (lv_room (Nat.le_of_ble_eq_true rfl)) dL_law_930 ⟨hc0, hs0⟩) hS (w_free (ap_D2 hD) hS hA (fun _ h => h)) (fun H1 locs hP1 hk hS => ?_)
  have hP := jn_B hP hD hk hP1
  have hD := wD hD s0 s1 h1 s2 h2 s3 s4 h4 s5 s6 s7 s8 s9 t9 μ τ
  clear hP1 hk
  refine lv_aload_n hx hb dL_law_933 rfl (lv_at hl 2 rfl) ?_
  refine fin_i (E := E) (r := a) (wc := wX8 E ax μ τ) (wc' := wX8 E ax μ τ) (va_runV (As := []) (rest := [.int a]) ⟨hx, hb, hml, hown, hts⟩ (k_X8_looked l E ax N μ τ a e2 _) (cwV 0 hts gl_X8_looked rfl rfl rfl (by decide +kernel) ⟨(Nat.le_of_ble_eq_true rfl), (Nat.le_of_ble_eq_true rfl)⟩) (pre_v (ci := 8) (q0 := 0) hK (ap_P.mp hP).1 (ap_D1 hD) hS hG hAB rfl rfl) rfl rfl hl.1 rfl (lv_room (Nat.le_of_ble_eq_true rfl)) dL_law_934 ⟨hc0, hs0⟩) hS (w_free (ap_D1 hD) hS hA (fun _ h => h)) (fun H2 locs hP1 hk hS => ?_)
  have hP := jn_A hP hD hk hP1
  have hD := wD hD s0 s1 h1 s2 h2 s3 s4 h4 s5 s6 s7 s8 s9 t9 μ τ
  exact lv_icmp_eq (tgt := 1336) hx hb dL_law_937 (by decide) (fun _ => K _ _ _ _ _ _ _ _ _ _ _ _ _ _ _ _ _ _ _ hI hP hD hS) (fun c9 => absurd rfl c9)
set_option maxHeartbeats 8000000 in
set_option maxRecDepth 100000 in
theorem lo_judge (hC : LCx p s m meth c E bs Ls xs) (hN : 500000 ≤ N) (v1 : vp_in (x3 + 1) Ls) (v2 : vp_in (x3 + 2) Ls) (hl : lv_has ls 4 [(0, .ref bs), (1, .ref (b 0 0)), (2, .ref (ax 0)), (3, .int x3)]) (hI : Inv L s0 s1 h1 s3 s4 h4 s5 s6 s8 s9 t9 μ τ) (hP : va_P E.1 vwCl (wX8 E ax μ τ ++ w7 E b L s0 s1 h1 s2 h2 s3 s4 h4 s5 s6 s7 s8 s9 t9) H) (hD : va_D (LA s) (wX8 E ax μ τ ++ w7 E b L s0 s1 h1 s2 h2 s3 s4 h4 s5 s6 s7 s8 s9 t9)) (hS : va_S (LA s) s.heap H locs) (hcl : cells + 2 ≤ 600000) (hsl : slots + 103 ≤ 7302250) (K : LK p l e s m below meth c E b ax bs cells slots Q ls) : W p l e room_1 s m #[Value.ref bs] below meth c H locs cells slots Q (F0 m 942 ls []) := by
  obtain ⟨hx, hb, hml, hown, hts, hX, hbl, hK, hG, hg⟩ := hC
  have hA : ∀ q : Nat, s.heap.size ≤ q → LA s q := fun _ h => h
  have hAB : ∀ q : Nat, LA s q → E.2.2.2.2.1 ≤ q := fun q h => by rw [hg]; exact h
  have hbA : ¬ LA s bs := Nat.not_le.mpr hbl
  have hc0 : cells + 0 ≤ room_1.cells := Nat.le_trans (Nat.le_add_right cells 2) hcl
  have hs0 : slots + 0 ≤ room_1.slots := Nat.le_trans (Nat.le_add_right slots 103) hsl
  obtain ⟨a, e1, e2⟩ := in_judge (N := N) hN hI (xs (x3 + 1).toNatClampNeg) (xs (x3 + 2).toNatClampNeg)
  refine lv_aload_n hx hb dL_law_942 rfl (lv_at hl 1 rfl) ?_
  refine lv_aload_n hx hb dL_law_943 rfl (lv_at hl 0 rfl) ?_
  refine lv_iload_n hx hb dL_law_944 rfl (lv_at hl 3 rfl) ?_
  refine lv_iconst (v := 1) hx hb dL_law_945 (by decide) ?_
  refine lv_iadd hx hb dL_law_946 ?_
  refine va_sld hx hb hX hbl hbA hS v1 dL_law_947 ?_
  refine lv_aload_n hx hb dL_law_948 rfl (lv_at hl 0 rfl) ?_
  refine lv_iload_n hx hb dL_law_949 rfl (lv_at hl 3 rfl) ?_
  refine lv_iconst (v := 2) hx hb dL_law_950 (by decide) ?_
  refine lv_iadd hx hb dL_law_951 ?_
  refine va_sld hx hb hX hbl hbA hS v2 dL_law_952 ?_
  refine fin_i (E := E) (r := a) (wc := w7 E b L s0 s1 h1 s2 h2 s3 s4 h4 s5 s6 s7 s8 s9 t9) (wc' := w7 E b L s0 s1 h1 s2 h2 s3 s4 h4 s5 s6 s7 s8 s9 t9) (va_runV (As := [.int (xs (x3 + 1).toNatClampNeg), .int (xs (x3 + 2).toNatClampNeg)]) (rest := []) ⟨hx, hb, hml, hown, hts⟩ (k_X7_judge l E (b 0) (b 1) (b 2) (b 3) (b 4) (b 5) (b 6) (b 7) (b 8) (b 9) L N s0 s1 h1 s2 h2 s3 s4 h4 s5 s6 s7 s8 s9 t9 (xs (x3 + 1).toNatClampNeg) (xs (x3 + 2).toNatClampNeg) a e1 _) (cwV 2 hts gl_X7_judge rfl rfl rfl (by decide +kernel) ⟨(Nat.le_of_ble_eq_true rfl), (Nat.le_of_ble_eq_true rfl)⟩) (pre_v (ci := 7) (q0 := 0) hK (ap_P.mp hP).2 (ap_D2 hD) hS hG hAB rfl rfl) rfl rfl hl.1 rfl (lv_room (Nat.le_of_ble_eq_true rfl)) dL_law_953 ⟨hc0, hs0⟩) hS (w_free (ap_D2 hD) hS hA (fun _ h => h)) (fun H1 locs hP1 hk hS => ?_)
  have hP := jn_B hP hD hk hP1
  have hD := wD hD s0 s1 h1 s2 h2 s3 s4 h4 s5 s6 s7 s8 s9 t9 μ τ
  clear hP1 hk
  refine lv_aload_n hx hb dL_law_956 rfl (lv_at hl 2 rfl) ?_
  refine lv_aload_n hx hb dL_law_957 rfl (lv_at hl 0 rfl) ?_
  refine lv_iload_n hx hb dL_law_958 rfl (lv_at hl 3 rfl) ?_
  refine lv_iconst (v := 1) hx hb dL_law_959 (by decide) ?_
  refine lv_iadd hx hb dL_law_960 ?_
  refine va_sld hx hb hX hbl hbA hS v1 dL_law_961 ?_
  refine lv_aload_n hx hb dL_law_962 rfl (lv_at hl 0 rfl) ?_
  refine lv_iload_n hx hb dL_law_963 rfl (lv_at hl 3 rfl) ?_
  refine lv_iconst (v := 2) hx hb dL_law_964 (by decide) ?_
  refine lv_iadd hx hb dL_law_965 ?_
  refine va_sld hx hb hX hbl hbA hS v2 dL_law_966 ?_
  refine fin_i (E := E) (r := a) (wc := wX8 E ax μ τ) (wc' := wX8 E ax μ τ) (va_runV (As := [.int (xs (x3 + 1).toNatClampNeg), .int (xs (x3 + 2).toNatClampNeg)]) (rest := [.int a]) ⟨hx, hb, hml, hown, hts⟩ (k_X8_judge l E ax N μ τ (xs (x3 + 1).toNatClampNeg) (xs (x3 + 2).toNatClampNeg) a e2 _) (cwV 2 hts gl_X8_judge rfl rfl rfl (by decide +kernel) ⟨(Nat.le_of_ble_eq_true rfl), (Nat.le_of_ble_eq_true rfl)⟩) (pre_v (ci := 8) (q0 := 0) hK (ap_P.mp hP).1 (ap_D1 hD) hS hG hAB rfl rfl) rfl rfl hl.1 rfl (lv_room (Nat.le_of_ble_eq_true rfl)) dL_law_967 ⟨hc0, hs0⟩) hS (w_free (ap_D1 hD) hS hA (fun _ h => h)) (fun H2 locs hP1 hk hS => ?_)
  have hP := jn_A hP hD hk hP1
  have hD := wD hD s0 s1 h1 s2 h2 s3 s4 h4 s5 s6 s7 s8 s9 t9 μ τ
  exact lv_icmp_eq (tgt := 1336) hx hb dL_law_970 (by decide) (fun _ => K _ _ _ _ _ _ _ _ _ _ _ _ _ _ _ _ _ _ _ hI hP hD hS) (fun c9 => absurd rfl c9)
set_option maxHeartbeats 8000000 in
set_option maxRecDepth 100000 in
theorem lo_image (hC : LCx p s m meth c E bs Ls xs) (hN : 500000 ≤ N) (hl : lv_has ls 4 [(0, .ref bs), (1, .ref (b 0 0)), (2, .ref (ax 0)), (3, .int x3)]) (hI : Inv L s0 s1 h1 s3 s4 h4 s5 s6 s8 s9 t9 μ τ) (hP : va_P E.1 vwCl (wX8 E ax μ τ ++ w7 E b L s0 s1 h1 s2 h2 s3 s4 h4 s5 s6 s7 s8 s9 t9) H) (hD : va_D (LA s) (wX8 E ax μ τ ++ w7 E b L s0 s1 h1 s2 h2 s3 s4 h4 s5 s6 s7 s8 s9 t9)) (hS : va_S (LA s) s.heap H locs) (hcl : cells + 2 ≤ 600000) (hsl : slots + 103 ≤ 7302250) (K : LK p l e s m below meth c E b ax bs cells slots Q ls) : W p l e room_1 s m #[Value.ref bs] below meth c H locs cells slots Q (F0 m 975 ls []) := by
  obtain ⟨hx, hb, hml, hown, hts, hX, hbl, hK, hG, hg⟩ := hC
  have hA : ∀ q : Nat, s.heap.size ≤ q → LA s q := fun _ h => h
  have hAB : ∀ q : Nat, LA s q → E.2.2.2.2.1 ≤ q := fun q h => by rw [hg]; exact h
  have hbA : ¬ LA s bs := Nat.not_le.mpr hbl
  have hc0 : cells + 0 ≤ room_1.cells := Nat.le_trans (Nat.le_add_right cells 2) hcl
  have hs0 : slots + 0 ≤ room_1.slots := Nat.le_trans (Nat.le_add_right slots 103) hsl
  obtain ⟨a, z0, z4, z5, z6, μ1, e1, e2, hJ⟩ := in_image (N := N) (Nat.le_trans (Nat.le_of_ble_eq_true rfl) hN) hI
  refine lv_aload_n hx hb dL_law_975 rfl (lv_at hl 1 rfl) ?_
  refine fin_i (E := E) (r := a) (wc := w7 E b L s0 s1 h1 s2 h2 s3 s4 h4 s5 s6 s7 s8 s9 t9) (wc' := w7 E b L z0 s1 h1 s2 h2 s3 z4 z5 z6 s6 s7 s8 s9 t9) (va_runV (As := []) (rest := []) ⟨hx, hb, hml, hown, hts⟩ (k_X7_image l E (b 0) (b 1) (b 2) (b 3) (b 4) (b 5) (b 6) (b 7) (b 8) (b 9) L N s0 s1 h1 s2 h2 s3 s4 h4 s5 s6 s7 s8 s9 t9 (a, z0, z4, z5, z6) e1 _) (cwV 0 hts gl_X7_image rfl rfl rfl (by decide +kernel) ⟨(Nat.le_of_ble_eq_true rfl), (Nat.le_of_ble_eq_true rfl)⟩) (pre_v (ci := 7) (q0 := 0) hK (ap_P.mp hP).2 (ap_D2 hD) hS hG hAB rfl rfl) rfl rfl hl.1 rfl (lv_room (Nat.le_of_ble_eq_true rfl)) dL_law_976 ⟨hc0, hs0⟩) hS (w_free (ap_D2 hD) hS hA (fun _ h => h)) (fun H1 locs hP1 hk hS => ?_)
  have hP := jn_B hP hD hk hP1
  have hD := wD hD z0 s1 h1 s2 h2 s3 z4 z5 z6 s6 s7 s8 s9 t9 μ τ
  clear hP1 hk
  refine lv_aload_n hx hb dL_law_979 rfl (lv_at hl 2 rfl) ?_
  refine fin_i (E := E) (r := a) (wc := wX8 E ax μ τ) (wc' := wX8 E ax μ1 τ) (va_runV (As := []) (rest := [.int a]) ⟨hx, hb, hml, hown, hts⟩ (k_X8_image l E ax N μ τ (a, μ1) e2 _) (cwV 0 hts gl_X8_image rfl rfl rfl (by decide +kernel) ⟨(Nat.le_of_ble_eq_true rfl), (Nat.le_of_ble_eq_true rfl)⟩) (pre_v (ci := 8) (q0 := 0) hK (ap_P.mp hP).1 (ap_D1 hD) hS hG hAB rfl rfl) rfl rfl hl.1 rfl (lv_room (Nat.le_of_ble_eq_true rfl)) dL_law_980 ⟨hc0, hs0⟩) hS (w_free (ap_D1 hD) hS hA (fun _ h => h)) (fun H2 locs hP1 hk hS => ?_)
  have hP := jn_A hP hD hk hP1
  have hD := wD hD z0 s1 h1 s2 h2 s3 z4 z5 z6 s6 s7 s8 s9 t9 μ1 τ
  exact lv_icmp_eq (tgt := 1336) hx hb dL_law_983 (by decide) (fun _ => K _ _ _ _ _ _ _ _ _ _ _ _ _ _ _ _ _ _ _ hJ hP hD hS) (fun c9 => absurd rfl c9)
end
