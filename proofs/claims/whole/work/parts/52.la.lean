/-! ===== the law, call by call (1) ===== -/
section
variable {p : Program} {l : Launch} {e : Env} {s : State} {m : MethodId} {below : List Frame} {meth : Method} {c : Code} {E : Ev} {bs Ls : Nat} {xs : Nat → Int32} {b : Nat → Nat → Nat} {ax : Nat → Nat} {cells slots N : Nat} {Q : State → Prop} {ls : Array Slot} {x3 : Int32}
variable {L : List SR} {h1 h2 h4 : Option SR} {s0 s1 s2 s3 s4 s5 s6 s7 s8 s9 μ : St} {t9 τ : Nat → Nat → Int64} {H : Heap} {locs : List Loc}
theorem lcmp_self (a : Int64) : lg_cmp a a = 0 := by simp [lg_cmp]
set_option maxHeartbeats 8000000 in
set_option maxRecDepth 100000 in
theorem lo_thing (hC : LCx p s m meth c E bs Ls xs) (hN : 500000 ≤ N) (v1 : vp_in (x3 + 1) Ls) (v2 : vp_in (x3 + 2) Ls) (v3 : vp_in (x3 + 3) Ls) (hl : lv_has ls 4 [(0, .ref bs), (1, .ref (b 0 0)), (2, .ref (ax 0)), (3, .int x3)]) (hI : Inv L s0 s1 h1 s3 s4 h4 s5 s6 s8 s9 t9 μ τ) (hP : va_P E.1 vwCl (wX8 E ax μ τ ++ w7 E b L s0 s1 h1 s2 h2 s3 s4 h4 s5 s6 s7 s8 s9 t9) H) (hD : va_D (LA s) (wX8 E ax μ τ ++ w7 E b L s0 s1 h1 s2 h2 s3 s4 h4 s5 s6 s7 s8 s9 t9)) (hS : va_S (LA s) s.heap H locs) (hcl : cells + 2 ≤ 600000) (hsl : slots + 103 ≤ 7302250) (K : LK p l e s m below meth c E b ax bs cells slots Q ls) : W p l e room_1 s m #[Value.ref bs] below meth c H locs cells slots Q (F0 m 196 ls []) := by
  obtain ⟨hx, hb, hml, hown, hts, hX, hbl, hK, hG, hg⟩ := hC
  have hA : ∀ q : Nat, s.heap.size ≤ q → LA s q := fun _ h => h
  have hAB : ∀ q : Nat, LA s q → E.2.2.2.2.1 ≤ q := fun q h => by rw [hg]; exact h
  have hbA : ¬ LA s bs := Nat.not_le.mpr hbl
  have hc0 : cells + 0 ≤ room_1.cells := Nat.le_trans (Nat.le_add_right cells 2) hcl
  have hs0 : slots + 0 ≤ room_1.slots := Nat.le_trans (Nat.le_add_right slots 103) hsl
  obtain ⟨a, z, μ1, e1, e2, hJ⟩ := in_thing (N := N) hN hI (xs (x3 + 1).toNatClampNeg) (xs (x3 + 2).toNatClampNeg) (xs (x3 + 3).toNatClampNeg)
  refine lv_aload_n hx hb dL_law_196 rfl (lv_at hl 1 rfl) ?_
  refine lv_aload_n hx hb dL_law_197 rfl (lv_at hl 0 rfl) ?_
  refine lv_iload_n hx hb dL_law_198 rfl (lv_at hl 3 rfl) ?_
  refine lv_iconst (v := 1) hx hb dL_law_199 (by decide) ?_
  refine lv_iadd hx hb dL_law_200 ?_
  refine va_sld hx hb hX hbl hbA hS v1 dL_law_201 ?_
  refine lv_aload_n hx hb dL_law_202 rfl (lv_at hl 0 rfl) ?_
  refine lv_iload_n hx hb dL_law_203 rfl (lv_at hl 3 rfl) ?_
  refine lv_iconst (v := 2) hx hb dL_law_204 (by decide) ?_
  refine lv_iadd hx hb dL_law_205 ?_
  refine va_sld hx hb hX hbl hbA hS v2 dL_law_206 ?_
  refine lv_aload_n hx hb dL_law_207 rfl (lv_at hl 0 rfl) ?_
  refine lv_iload_n hx hb dL_law_208 rfl (lv_at hl 3 rfl) ?_
  refine lv_iconst (v := 3) hx hb dL_law_209 (by decide) ?_
  refine lv_iadd hx hb dL_law_210 ?_
  refine va_sld hx hb hX hbl hbA hS v3 dL_law_211 ?_
  refine fin_i (E := E) (r := a) (wc := w7 E b L s0 s1 h1 s2 h2 s3 s4 h4 s5 s6 s7 s8 s9 t9) (wc' := w7 E b L s0 z h1 s2 h2 s3 s4 h4 s5 s6 s7 s8 s9 t9) (va_runV (As := [.int (xs (x3 + 1).toNatClampNeg), .int (xs (x3 + 2).toNatClampNeg), .int (xs (x3 + 3).toNatClampNeg)]) (rest := []) ⟨hx, hb, hml, hown, hts⟩ (k_X7_thing l E (b 0) (b 1) (b 2) (b 3) (b 4) (b 5) (b 6) (b 7) (b 8) (b 9) L N s0 s1 h1 s2 h2 s3 s4 h4 s5 s6 s7 s8 s9 t9 (xs (x3 + 1).toNatClampNeg) (xs (x3 + 2).toNatClampNeg) (xs (x3 + 3).toNatClampNeg) (a, z) e1 _) (cwV 3 hts gl_X7_thing rfl rfl rfl (by decide +kernel) ⟨(Nat.le_of_ble_eq_true rfl), (Nat.le_of_ble_eq_true rfl)⟩) (pre_v (ci := 7) (q0 := 0) hK (ap_P.mp hP).2 (ap_D2 hD) hS hG hAB rfl rfl) rfl rfl hl.1 rfl (lv_room (Nat.le_of_ble_eq_true rfl)) dL_law_212 ⟨hc0, hs0⟩) hS (w_free (ap_D2 hD) hS hA (fun _ h => h)) (fun H1 locs hP1 hk hS => ?_)
  have hP := jn_B hP hD hk hP1
  have hD := wD hD s0 z h1 s2 h2 s3 s4 h4 s5 s6 s7 s8 s9 t9 μ τ
  clear hP1 hk
  refine lv_aload_n hx hb dL_law_215 rfl (lv_at hl 2 rfl) ?_
  refine lv_aload_n hx hb dL_law_216 rfl (lv_at hl 0 rfl) ?_
  refine lv_iload_n hx hb dL_law_217 rfl (lv_at hl 3 rfl) ?_
  refine lv_iconst (v := 1) hx hb dL_law_218 (by decide) ?_
  refine lv_iadd hx hb dL_law_219 ?_
  refine va_sld hx hb hX hbl hbA hS v1 dL_law_220 ?_
  refine lv_aload_n hx hb dL_law_221 rfl (lv_at hl 0 rfl) ?_
  refine lv_iload_n hx hb dL_law_222 rfl (lv_at hl 3 rfl) ?_
  refine lv_iconst (v := 2) hx hb dL_law_223 (by decide) ?_
  refine lv_iadd hx hb dL_law_224 ?_
  refine va_sld hx hb hX hbl hbA hS v2 dL_law_225 ?_
  refine lv_aload_n hx hb dL_law_226 rfl (lv_at hl 0 rfl) ?_
  refine lv_iload_n hx hb dL_law_227 rfl (lv_at hl 3 rfl) ?_
  refine lv_iconst (v := 3) hx hb dL_law_228 (by decide) ?_
  refine lv_iadd hx hb dL_law_229 ?_
  refine va_sld hx hb hX hbl hbA hS v3 dL_law_230 ?_
  refine fin_i (E := E) (r := a) (wc := wX8 E ax μ τ) (wc' := wX8 E ax μ1 τ) (va_runV (As := [.int (xs (x3 + 1).toNatClampNeg), .int (xs (x3 + 2).toNatClampNeg), .int (xs (x3 + 3).toNatClampNeg)]) (rest := [.int a]) ⟨hx, hb, hml, hown, hts⟩ (k_X8_thing l E ax N μ τ (xs (x3 + 1).toNatClampNeg) (xs (x3 + 2).toNatClampNeg) (xs (x3 + 3).toNatClampNeg) (a, μ1) e2 _) (cwV 3 hts gl_X8_thing rfl rfl rfl (by decide +kernel) ⟨(Nat.le_of_ble_eq_true rfl), (Nat.le_of_ble_eq_true rfl)⟩) (pre_v (ci := 8) (q0 := 0) hK (ap_P.mp hP).1 (ap_D1 hD) hS hG hAB rfl rfl) rfl rfl hl.1 rfl (lv_room (Nat.le_of_ble_eq_true rfl)) dL_law_231 ⟨hc0, hs0⟩) hS (w_free (ap_D1 hD) hS hA (fun _ h => h)) (fun H2 locs hP1 hk hS => ?_)
  have hP := jn_A hP hD hk hP1
  have hD := wD hD s0 z h1 s2 h2 s3 s4 h4 s5 s6 s7 s8 s9 t9 μ1 τ
  exact lv_icmp_eq (tgt := 1336) hx hb dL_law_234 (by decide) (fun _ => K _ _ _ _ _ _ _ _ _ _ _ _ _ _ _ _ _ _ _ hJ hP hD hS) (fun c9 => absurd rfl c9)
set_option maxHeartbeats 8000000 in
set_option maxRecDepth 100000 in
theorem lo_of (hC : LCx p s m meth c E bs Ls xs) (hN : 500000 ≤ N) (v1 : vp_in (x3 + 1) Ls) (v2 : vp_in (x3 + 2) Ls) (hl : lv_has ls 4 [(0, .ref bs), (1, .ref (b 0 0)), (2, .ref (ax 0)), (3, .int x3)]) (hI : Inv L s0 s1 h1 s3 s4 h4 s5 s6 s8 s9 t9 μ τ) (hP : va_P E.1 vwCl (wX8 E ax μ τ ++ w7 E b L s0 s1 h1 s2 h2 s3 s4 h4 s5 s6 s7 s8 s9 t9) H) (hD : va_D (LA s) (wX8 E ax μ τ ++ w7 E b L s0 s1 h1 s2 h2 s3 s4 h4 s5 s6 s7 s8 s9 t9)) (hS : va_S (LA s) s.heap H locs) (hcl : cells + 2 ≤ 600000) (hsl : slots + 103 ≤ 7302250) (K : LK p l e s m below meth c E b ax bs cells slots Q ls) : W p l e room_1 s m #[Value.ref bs] below meth c H locs cells slots Q (F0 m 239 ls []) := by
  obtain ⟨hx, hb, hml, hown, hts, hX, hbl, hK, hG, hg⟩ := hC
  have hA : ∀ q : Nat, s.heap.size ≤ q → LA s q := fun _ h => h
  have hAB : ∀ q : Nat, LA s q → E.2.2.2.2.1 ≤ q := fun q h => by rw [hg]; exact h
  have hbA : ¬ LA s bs := Nat.not_le.mpr hbl
  have hc0 : cells + 0 ≤ room_1.cells := Nat.le_trans (Nat.le_add_right cells 2) hcl
  have hs0 : slots + 0 ≤ room_1.slots := Nat.le_trans (Nat.le_add_right slots 103) hsl
  obtain ⟨a, z, μ1, e1, e2, hJ⟩ := in_of (N := N) hN hI (xs (x3 + 1).toNatClampNeg) (xs (x3 + 2).toNatClampNeg)
  refine lv_aload_n hx hb dL_law_239 rfl (lv_at hl 1 rfl) ?_
  refine lv_aload_n hx hb dL_law_240 rfl (lv_at hl 0 rfl) ?_
  refine lv_iload_n hx hb dL_law_241 rfl (lv_at hl 3 rfl) ?_
  refine lv_iconst (v := 1) hx hb dL_law_242 (by decide) ?_
  refine lv_iadd hx hb dL_law_243 ?_
  refine va_sld hx hb hX hbl hbA hS v1 dL_law_244 ?_
  refine lv_aload_n hx hb dL_law_245 rfl (lv_at hl 0 rfl) ?_
  refine lv_iload_n hx hb dL_law_246 rfl (lv_at hl 3 rfl) ?_
  refine lv_iconst (v := 2) hx hb dL_law_247 (by decide) ?_
  refine lv_iadd hx hb dL_law_248 ?_
  refine va_sld hx hb hX hbl hbA hS v2 dL_law_249 ?_
  refine fin_i (E := E) (r := a) (wc := w7 E b L s0 s1 h1 s2 h2 s3 s4 h4 s5 s6 s7 s8 s9 t9) (wc' := w7 E b L s0 z h1 s2 h2 s3 s4 h4 s5 s6 s7 s8 s9 t9) (va_runV (As := [.int (xs (x3 + 1).toNatClampNeg), .int (xs (x3 + 2).toNatClampNeg)]) (rest := []) ⟨hx, hb, hml, hown, hts⟩ (k_X7_of l E (b 0) (b 1) (b 2) (b 3) (b 4) (b 5) (b 6) (b 7) (b 8) (b 9) L N s0 s1 h1 s2 h2 s3 s4 h4 s5 s6 s7 s8 s9 t9 (xs (x3 + 1).toNatClampNeg) (xs (x3 + 2).toNatClampNeg) (a, z) e1 _) (cwV 2 hts gl_X7_of rfl rfl rfl (by decide +kernel) ⟨(Nat.le_of_ble_eq_true rfl), (Nat.le_of_ble_eq_true rfl)⟩) (pre_v (ci := 7) (q0 := 0) hK (ap_P.mp hP).2 (ap_D2 hD) hS hG hAB rfl rfl) rfl rfl hl.1 rfl (lv_room (Nat.le_of_ble_eq_true rfl)) dL_law_250 ⟨hc0, hs0⟩) hS (w_free (ap_D2 hD) hS hA (fun _ h => h)) (fun H1 locs hP1 hk hS => ?_)
  have hP := jn_B hP hD hk hP1
  have hD := wD hD s0 z h1 s2 h2 s3 s4 h4 s5 s6 s7 s8 s9 t9 μ τ
  clear hP1 hk
  refine lv_aload_n hx hb dL_law_253 rfl (lv_at hl 2 rfl) ?_
  refine lv_aload_n hx hb dL_law_254 rfl (lv_at hl 0 rfl) ?_
  refine lv_iload_n hx hb dL_law_255 rfl (lv_at hl 3 rfl) ?_
  refine lv_iconst (v := 1) hx hb dL_law_256 (by decide) ?_
  refine lv_iadd hx hb dL_law_257 ?_
  refine va_sld hx hb hX hbl hbA hS v1 dL_law_258 ?_
  refine lv_aload_n hx hb dL_law_259 rfl (lv_at hl 0 rfl) ?_
  refine lv_iload_n hx hb dL_law_260 rfl (lv_at hl 3 rfl) ?_
  refine lv_iconst (v := 2) hx hb dL_law_261 (by decide) ?_
  refine lv_iadd hx hb dL_law_262 ?_
  refine va_sld hx hb hX hbl hbA hS v2 dL_law_263 ?_
  refine fin_i (E := E) (r := a) (wc := wX8 E ax μ τ) (wc' := wX8 E ax μ1 τ) (va_runV (As := [.int (xs (x3 + 1).toNatClampNeg), .int (xs (x3 + 2).toNatClampNeg)]) (rest := [.int a]) ⟨hx, hb, hml, hown, hts⟩ (k_X8_of l E ax N μ τ (xs (x3 + 1).toNatClampNeg) (xs (x3 + 2).toNatClampNeg) (a, μ1) e2 _) (cwV 2 hts gl_X8_of rfl rfl rfl (by decide +kernel) ⟨(Nat.le_of_ble_eq_true rfl), (Nat.le_of_ble_eq_true rfl)⟩) (pre_v (ci := 8) (q0 := 0) hK (ap_P.mp hP).1 (ap_D1 hD) hS hG hAB rfl rfl) rfl rfl hl.1 rfl (lv_room (Nat.le_of_ble_eq_true rfl)) dL_law_264 ⟨hc0, hs0⟩) hS (w_free (ap_D1 hD) hS hA (fun _ h => h)) (fun H2 locs hP1 hk hS => ?_)
  have hP := jn_A hP hD hk hP1
  have hD := wD hD s0 z h1 s2 h2 s3 s4 h4 s5 s6 s7 s8 s9 t9 μ1 τ
  exact lv_icmp_eq (tgt := 1336) hx hb dL_law_267 (by decide) (fun _ => K _ _ _ _ _ _ _ _ _ _ _ _ _ _ _ _ _ _ _ hJ hP hD hS) (fun c9 => absurd rfl c9)
set_option maxHeartbeats 8000000 in
set_option maxRecDepth 100000 in
theorem lo_mark (hC : LCx p s m meth c E bs Ls xs) (hN : 500000 ≤ N) (v1 : vp_in (x3 + 1) Ls) (v2 : vp_in (x3 + 2) Ls) (hl : lv_has ls 4 [(0, .ref bs), (1, .ref (b 0 0)), (2, .ref (ax 0)), (3, .int x3)]) (hI : Inv L s0 s1 h1 s3 s4 h4 s5 s6 s8 s9 t9 μ τ) (hP : va_P E.1 vwCl (wX8 E ax μ τ ++ w7 E b L s0 s1 h1 s2 h2 s3 s4 h4 s5 s6 s7 s8 s9 t9) H) (hD : va_D (LA s) (wX8 E ax μ τ ++ w7 E b L s0 s1 h1 s2 h2 s3 s4 h4 s5 s6 s7 s8 s9 t9)) (hS : va_S (LA s) s.heap H locs) (hcl : cells + 2 ≤ 600000) (hsl : slots + 103 ≤ 7302250) (K : LK p l e s m below meth c E b ax bs cells slots Q ls) : W p l e room_1 s m #[Value.ref bs] below meth c H locs cells slots Q (F0 m 272 ls []) := by
  obtain ⟨hx, hb, hml, hown, hts, hX, hbl, hK, hG, hg⟩ := hC
  have hA : ∀ q : Nat, s.heap.size ≤ q → LA s q := fun _ h => h
  have hAB : ∀ q : Nat, LA s q → E.2.2.2.2.1 ≤ q := fun q h => by rw [hg]; exact h
  have hbA : ¬ LA s bs := Nat.not_le.mpr hbl
  have hc0 : cells + 0 ≤ room_1.cells := Nat.le_trans (Nat.le_add_right cells 2) hcl
  have hs0 : slots + 0 ≤ room_1.slots := Nat.le_trans (Nat.le_add_right slots 103) hsl
  obtain ⟨a, z, μ1, e1, e2, hJ⟩ := in_mark (N := N) hN hI (xs (x3 + 1).toNatClampNeg) (xs (x3 + 2).toNatClampNeg)
  refine lv_aload_n hx hb dL_law_272 rfl (lv_at hl 1 rfl) ?_
  refine lv_aload_n hx hb dL_law_273 rfl (lv_at hl 0 rfl) ?_
  refine lv_iload_n hx hb dL_law_274 rfl (lv_at hl 3 rfl) ?_
  refine lv_iconst (v := 1) hx hb dL_law_275 (by decide) ?_
  refine lv_iadd hx hb dL_law_276 ?_
  refine va_sld hx hb hX hbl hbA hS v1 dL_law_277 ?_
  refine lv_aload_n hx hb dL_law_278 rfl (lv_at hl 0 rfl) ?_
  refine lv_iload_n hx hb dL_law_279 rfl (lv_at hl 3 rfl) ?_
  refine lv_iconst (v := 2) hx hb dL_law_280 (by decide) ?_
  refine lv_iadd hx hb dL_law_281 ?_
  refine va_sld hx hb hX hbl hbA hS v2 dL_law_282 ?_
  refine fin_i (E := E) (r := a) (wc := w7 E b L s0 s1 h1 s2 h2 s3 s4 h4 s5 s6 s7 s8 s9 t9) (wc' := w7 E b L s0 z h1 s2 h2 s3 s4 h4 s5 s6 s7 s8 s9 t9) (va_runV (As := [.int (xs (x3 + 1).toNatClampNeg), .int (xs (x3 + 2).toNatClampNeg)]) (rest := []) ⟨hx, hb, hml, hown, hts⟩ (k_X7_mark l E (b 0) (b 1) (b 2) (b 3) (b 4) (b 5) (b 6) (b 7) (b 8) (b 9) L N s0 s1 h1 s2 h2 s3 s4 h4 s5 s6 s7 s8 s9 t9 (xs (x3 + 1).toNatClampNeg) (xs (x3 + 2).toNatClampNeg) (a, z) e1 _) (cwV 2 hts gl_X7_mark rfl rfl rfl (by decide +kernel) ⟨(Nat.le_of_ble_eq_true rfl), (Nat.le_of_ble_eq_true rfl)⟩) (pre_v (ci := 7) (q0 := 0) hK (ap_P.mp hP).2 (ap_D2 hD) hS hG hAB rfl rfl) rfl rfl hl.1 rfl (lv_room (Nat.le_of_ble_eq_true rfl)) dL_law_283 ⟨hc0, hs0⟩) hS (w_free (ap_D2 hD) hS hA (fun _ h => h)) (fun H1 locs hP1 hk hS => ?_)
  have hP := jn_B hP hD hk hP1
  have hD := wD hD s0 z h1 s2 h2 s3 s4 h4 s5 s6 s7 s8 s9 t9 μ τ
  clear hP1 hk
  refine lv_aload_n hx hb dL_law_286 rfl (lv_at hl 2 rfl) ?_
  refine lv_aload_n hx hb dL_law_287 rfl (lv_at hl 0 rfl) ?_
  refine lv_iload_n hx hb dL_law_288 rfl (lv_at hl 3 rfl) ?_
  refine lv_iconst (v := 1) hx hb dL_law_289 (by decide) ?_
  refine lv_iadd hx hb dL_law_290 ?_
  refine va_sld hx hb hX hbl hbA hS v1 dL_law_291 ?_
  refine lv_aload_n hx hb dL_law_292 rfl (lv_at hl 0 rfl) ?_
  refine lv_iload_n hx hb dL_law_293 rfl (lv_at hl 3 rfl) ?_
  refine lv_iconst (v := 2) hx hb dL_law_294 (by decide) ?_
  refine lv_iadd hx hb dL_law_295 ?_
  refine va_sld hx hb hX hbl hbA hS v2 dL_law_296 ?_
  refine fin_i (E := E) (r := a) (wc := wX8 E ax μ τ) (wc' := wX8 E ax μ1 τ) (va_runV (As := [.int (xs (x3 + 1).toNatClampNeg), .int (xs (x3 + 2).toNatClampNeg)]) (rest := [.int a]) ⟨hx, hb, hml, hown, hts⟩ (k_X8_mark l E ax N μ τ (xs (x3 + 1).toNatClampNeg) (xs (x3 + 2).toNatClampNeg) (a, μ1) e2 _) (cwV 2 hts gl_X8_mark rfl rfl rfl (by decide +kernel) ⟨(Nat.le_of_ble_eq_true rfl), (Nat.le_of_ble_eq_true rfl)⟩) (pre_v (ci := 8) (q0 := 0) hK (ap_P.mp hP).1 (ap_D1 hD) hS hG hAB rfl rfl) rfl rfl hl.1 rfl (lv_room (Nat.le_of_ble_eq_true rfl)) dL_law_297 ⟨hc0, hs0⟩) hS (w_free (ap_D1 hD) hS hA (fun _ h => h)) (fun H2 locs hP1 hk hS => ?_)
  have hP := jn_A hP hD hk hP1
  have hD := wD hD s0 z h1 s2 h2 s3 s4 h4 s5 s6 s7 s8 s9 t9 μ1 τ
  exact lv_icmp_eq (tgt := 1336) hx hb dL_law_300 (by decide) (fun _ => K _ _ _ _ _ _ _ _ _ _ _ _ _ _ _ _ _ _ _ hJ hP hD hS) (fun c9 => absurd rfl c9)
set_option maxHeartbeats 8000000 in
set_option maxRecDepth 100000 in
theorem lo_row (hC : LCx p s m meth c E bs Ls xs) (hN : 500000 ≤ N) (v1 : vp_in (x3 + 1) Ls) (v2 : vp_in (x3 + 2) Ls) (v3 : vp_in (x3 + 3) Ls) (hl : lv_has ls 4 [(0, .ref bs), (1, .ref (b 0 0)), (2, .ref (ax 0)), (3, .int x3)]) (hI : Inv L s0 s1 h1 s3 s4 h4 s5 s6 s8 s9 t9 μ τ) (hP : va_P E.1 vwCl (wX8 E ax μ τ ++ w7 E b L s0 s1 h1 s2 h2 s3 s4 h4 s5 s6 s7 s8 s9 t9) H) (hD : va_D (LA s) (wX8 E ax μ τ ++ w7 E b L s0 s1 h1 s2 h2 s3 s4 h4 s5 s6 s7 s8 s9 t9)) (hS : va_S (LA s) s.heap H locs) (hcl : cells + 2 ≤ 600000) (hsl : slots + 103 ≤ 7302250) (K : LK p l e s m below meth c E b ax bs cells slots Q ls) : W p l e room_1 s m #[Value.ref bs] below meth c H locs cells slots Q (F0 m 305 ls []) := by
  obtain ⟨hx, hb, hml, hown, hts, hX, hbl, hK, hG, hg⟩ := hC
  have hA : ∀ q : Nat, s.heap.size ≤ q → LA s q := fun _ h => h
  have hAB : ∀ q : Nat, LA s q → E.2.2.2.2.1 ≤ q := fun q h => by rw [hg]; exact h
  have hbA : ¬ LA s bs := Nat.not_le.mpr hbl
  have hc0 : cells + 0 ≤ room_1.cells := Nat.le_trans (Nat.le_add_right cells 2) hcl
  have hs0 : slots + 0 ≤ room_1.slots := Nat.le_trans (Nat.le_add_right slots 103) hsl
  obtain ⟨a, z, μ1, e1, e2, hJ⟩ := in_row (N := N) hN hI (xs (x3 + 1).toNatClampNeg) (xs (x3 + 2).toNatClampNeg) (xs (x3 + 3).toNatClampNeg)
  refine lv_aload_n hx hb dL_law_305 rfl (lv_at hl 1 rfl) ?_
  refine lv_aload_n hx hb dL_law_306 rfl (lv_at hl 0 rfl) ?_
  refine lv_iload_n hx hb dL_law_307 rfl (lv_at hl 3 rfl) ?_
  refine lv_iconst (v := 1) hx hb dL_law_308 (by decide) ?_
  refine lv_iadd hx hb dL_law_309 ?_
  refine va_sld hx hb hX hbl hbA hS v1 dL_law_310 ?_
  refine lv_aload_n hx hb dL_law_311 rfl (lv_at hl 0 rfl) ?_
  refine lv_iload_n hx hb dL_law_312 rfl (lv_at hl 3 rfl) ?_
  refine lv_iconst (v := 2) hx hb dL_law_313 (by decide) ?_
  refine lv_iadd hx hb dL_law_314 ?_
  refine va_sld hx hb hX hbl hbA hS v2 dL_law_315 ?_
  refine lv_aload_n hx hb dL_law_316 rfl (lv_at hl 0 rfl) ?_
  refine lv_iload_n hx hb dL_law_317 rfl (lv_at hl 3 rfl) ?_
  refine lv_iconst (v := 3) hx hb dL_law_318 (by decide) ?_
  refine lv_iadd hx hb dL_law_319 ?_
  refine va_sld hx hb hX hbl hbA hS v3 dL_law_320 ?_
  refine fin_i (E := E) (r := a) (wc := w7 E b L s0 s1 h1 s2 h2 s3 s4 h4 s5 s6 s7 s8 s9 t9) (wc' := w7 E b L s0 z h1 s2 h2 s3 s4 h4 s5 s6 s7 s8 s9 t9) (va_runV (As := [.int (xs (x3 + 1).toNatClampNeg), .int (xs (x3 + 2).toNatClampNeg), .int (xs (x3 + 3).toNatClampNeg)]) (rest := []) ⟨hx, hb, hml, hown, hts⟩ (k_X7_row l E (b 0) (b 1) (b 2) (b 3) (b 4) (b 5) (b 6) (b 7) (b 8) (b 9) L N s0 s1 h1 s2 h2 s3 s4 h4 s5 s6 s7 s8 s9 t9 (xs (x3 + 1).toNatClampNeg) (xs (x3 + 2).toNatClampNeg) (xs (x3 + 3).toNatClampNeg) (a, z) e1 _) (cwV 3 hts gl_X7_row rfl rfl rfl (by decide +kernel) ⟨(Nat.le_of_ble_eq_true rfl), (Nat.le_of_ble_eq_true rfl)⟩) (pre_v (ci := 7) (q0 := 0) hK (ap_P.mp hP).2 (ap_D2 hD) hS hG hAB rfl rfl) rfl rfl hl.1 rfl (lv_room (Nat.le_of_ble_eq_true rfl)) dL_law_321 ⟨hc0, hs0⟩) hS (w_free (ap_D2 hD) hS hA (fun _ h => h)) (fun H1 locs hP1 hk hS => ?_)
  have hP := jn_B hP hD hk hP1
  have hD := wD hD s0 z h1 s2 h2 s3 s4 h4 s5 s6 s7 s8 s9 t9 μ τ
  clear hP1 hk
  refine lv_aload_n hx hb dL_law_324 rfl (lv_at hl 2 rfl) ?_
  refine lv_aload_n hx hb dL_law_325 rfl (lv_at hl 0 rfl) ?_
  refine lv_iload_n hx hb dL_law_326 rfl (lv_at hl 3 rfl) ?_
  refine lv_iconst (v := 1) hx hb dL_law_327 (by decide) ?_
  refine lv_iadd hx hb dL_law_328 ?_
  refine va_sld hx hb hX hbl hbA hS v1 dL_law_329 ?_
  refine lv_aload_n hx hb dL_law_330 rfl (lv_at hl 0 rfl) ?_
  refine lv_iload_n hx hb dL_law_331 rfl (lv_at hl 3 rfl) ?_
  refine lv_iconst (v := 2) hx hb dL_law_332 (by decide) ?_
  refine lv_iadd hx hb dL_law_333 ?_
  refine va_sld hx hb hX hbl hbA hS v2 dL_law_334 ?_
  refine lv_aload_n hx hb dL_law_335 rfl (lv_at hl 0 rfl) ?_
  refine lv_iload_n hx hb dL_law_336 rfl (lv_at hl 3 rfl) ?_
  refine lv_iconst (v := 3) hx hb dL_law_337 (by decide) ?_
  refine lv_iadd hx hb dL_law_338 ?_
  refine va_sld hx hb hX hbl hbA hS v3 dL_law_339 ?_
  refine fin_i (E := E) (r := a) (wc := wX8 E ax μ τ) (wc' := wX8 E ax μ1 τ) (va_runV (As := [.int (xs (x3 + 1).toNatClampNeg), .int (xs (x3 + 2).toNatClampNeg), .int (xs (x3 + 3).toNatClampNeg)]) (rest := [.int a]) ⟨hx, hb, hml, hown, hts⟩ (k_X8_row l E ax N μ τ (xs (x3 + 1).toNatClampNeg) (xs (x3 + 2).toNatClampNeg) (xs (x3 + 3).toNatClampNeg) (a, μ1) e2 _) (cwV 3 hts gl_X8_row rfl rfl rfl (by decide +kernel) ⟨(Nat.le_of_ble_eq_true rfl), (Nat.le_of_ble_eq_true rfl)⟩) (pre_v (ci := 8) (q0 := 0) hK (ap_P.mp hP).1 (ap_D1 hD) hS hG hAB rfl rfl) rfl rfl hl.1 rfl (lv_room (Nat.le_of_ble_eq_true rfl)) dL_law_340 ⟨hc0, hs0⟩) hS (w_free (ap_D1 hD) hS hA (fun _ h => h)) (fun H2 locs hP1 hk hS => ?_)
  have hP := jn_A hP hD hk hP1
  have hD := wD hD s0 z h1 s2 h2 s3 s4 h4 s5 s6 s7 s8 s9 t9 μ1 τ
  exact lv_icmp_eq (tgt := 1336) hx hb dL_law_343 (by decide) (fun _ => K _ _ _ _ _ _ _ _ _ _ _ _ _ _ _ _ _ _ _ hJ hP hD hS) (fun c9 => absurd rfl c9)
set_option maxHeartbeats 8000000 in
set_option maxRecDepth 100000 in
theorem lo_take (hC : LCx p s m meth c E bs Ls xs) (hN : 500000 ≤ N) (v1 : vp_in (x3 + 1) Ls) (hl : lv_has ls 4 [(0, .ref bs), (1, .ref (b 0 0)), (2, .ref (ax 0)), (3, .int x3)]) (hI : Inv L s0 s1 h1 s3 s4 h4 s5 s6 s8 s9 t9 μ τ) (hP : va_P E.1 vwCl (wX8 E ax μ τ ++ w7 E b L s0 s1 h1 s2 h2 s3 s4 h4 s5 s6 s7 s8 s9 t9) H) (hD : va_D (LA s) (wX8 E ax μ τ ++ w7 E b L s0 s1 h1 s2 h2 s3 s4 h4 s5 s6 s7 s8 s9 t9)) (hS : va_S (LA s) s.heap H locs) (hcl : cells + 2 ≤ 600000) (hsl : slots + 103 ≤ 7302250) (K : LK p l e s m below meth c E b ax bs cells slots Q ls) : W p l e room_1 s m #[Value.ref bs] below meth c H locs cells slots Q (F0 m 348 ls []) := by
  obtain ⟨hx, hb, hml, hown, hts, hX, hbl, hK, hG, hg⟩ := hC
  have hA : ∀ q : Nat, s.heap.size ≤ q → LA s q := fun _ h => h
  have hAB : ∀ q : Nat, LA s q → E.2.2.2.2.1 ≤ q := fun q h => by rw [hg]; exact h
  have hbA : ¬ LA s bs := Nat.not_le.mpr hbl
  have hc0 : cells + 0 ≤ room_1.cells := Nat.le_trans (Nat.le_add_right cells 2) hcl
  have hs0 : slots + 0 ≤ room_1.slots := Nat.le_trans (Nat.le_add_right slots 103) hsl
  obtain ⟨a, z, μ1, e1, e2, hJ⟩ := in_take (N := N) hN hI (xs (x3 + 1).toNatClampNeg)
  refine lv_aload_n hx hb dL_law_348 rfl (lv_at hl 1 rfl) ?_
  refine lv_aload_n hx hb dL_law_349 rfl (lv_at hl 0 rfl) ?_
  refine lv_iload_n hx hb dL_law_350 rfl (lv_at hl 3 rfl) ?_
  refine lv_iconst (v := 1) hx hb dL_law_351 (by decide) ?_
  refine lv_iadd hx hb dL_law_352 ?_
  refine va_sld hx hb hX hbl hbA hS v1 dL_law_353 ?_
  refine fin_i (E := E) (r := a) (wc := w7 E b L s0 s1 h1 s2 h2 s3 s4 h4 s5 s6 s7 s8 s9 t9) (wc' := w7 E b L s0 z h1 s2 h2 s3 s4 h4 s5 s6 s7 s8 s9 t9) (va_runV (As := [.int (xs (x3 + 1).toNatClampNeg)]) (rest := []) ⟨hx, hb, hml, hown, hts⟩ (k_X7_take l E (b 0) (b 1) (b 2) (b 3) (b 4) (b 5) (b 6) (b 7) (b 8) (b 9) L N s0 s1 h1 s2 h2 s3 s4 h4 s5 s6 s7 s8 s9 t9 (xs (x3 + 1).toNatClampNeg) (a, z) e1 _) (cwV 1 hts gl_X7_take rfl rfl rfl (by decide +kernel) ⟨(Nat.le_of_ble_eq_true rfl), (Nat.le_of_ble_eq_true rfl)⟩) (pre_v (ci := 7) (q0 := 0) hK (ap_P.mp hP).2 (ap_D2 hD) hS hG hAB rfl rfl) rfl rfl hl.1 rfl (lv_room (Nat.le_of_ble_eq_true rfl)) dL_law_354 ⟨hc0, hs0⟩) hS (w_free (ap_D2 hD) hS hA (fun _ h => h)) (fun H1 locs hP1 hk hS => ?_)
  have hP := jn_B hP hD hk hP1
  have hD := wD hD s0 z h1 s2 h2 s3 s4 h4 s5 s6 s7 s8 s9 t9 μ τ
  clear hP1 hk
  refine lv_aload_n hx hb dL_law_357 rfl (lv_at hl 2 rfl) ?_
  refine lv_aload_n hx hb dL_law_358 rfl (lv_at hl 0 rfl) ?_
  refine lv_iload_n hx hb dL_law_359 rfl (lv_at hl 3 rfl) ?_
  refine lv_iconst (v := 1) hx hb dL_law_360 (by decide) ?_
  refine lv_iadd hx hb dL_law_361 ?_
  refine va_sld hx hb hX hbl hbA hS v1 dL_law_362 ?_
  refine fin_i (E := E) (r := a) (wc := wX8 E ax μ τ) (wc' := wX8 E ax μ1 τ) (va_runV (As := [.int (xs (x3 + 1).toNatClampNeg)]) (rest := [.int a]) ⟨hx, hb, hml, hown, hts⟩ (k_X8_take l E ax N μ τ (xs (x3 + 1).toNatClampNeg) (a, μ1) e2 _) (cwV 1 hts gl_X8_take rfl rfl rfl (by decide +kernel) ⟨(Nat.le_of_ble_eq_true rfl), (Nat.le_of_ble_eq_true rfl)⟩) (pre_v (ci := 8) (q0 := 0) hK (ap_P.mp hP).1 (ap_D1 hD) hS hG hAB rfl rfl) rfl rfl hl.1 rfl (lv_room (Nat.le_of_ble_eq_true rfl)) dL_law_363 ⟨hc0, hs0⟩) hS (w_free (ap_D1 hD) hS hA (fun _ h => h)) (fun H2 locs hP1 hk hS => ?_)
  have hP := jn_A hP hD hk hP1
  have hD := wD hD s0 z h1 s2 h2 s3 s4 h4 s5 s6 s7 s8 s9 t9 μ1 τ
  exact lv_icmp_eq (tgt := 1336) hx hb dL_law_366 (by decide) (fun _ => K _ _ _ _ _ _ _ _ _ _ _ _ _ _ _ _ _ _ _ hJ hP hD hS) (fun c9 => absurd rfl c9)
set_option maxHeartbeats 8000000 in
set_option maxRecDepth 100000 in
theorem lo_put (hC : LCx p s m meth c E bs Ls xs) (hN : 500000 ≤ N) (hl : lv_has ls 4 [(0, .ref bs), (1, .ref (b 0 0)), (2, .ref (ax 0)), (3, .int x3)]) (hI : Inv L s0 s1 h1 s3 s4 h4 s5 s6 s8 s9 t9 μ τ) (hP : va_P E.1 vwCl (wX8 E ax μ τ ++ w7 E b L s0 s1 h1 s2 h2 s3 s4 h4 s5 s6 s7 s8 s9 t9) H) (hD : va_D (LA s) (wX8 E ax μ τ ++ w7 E b L s0 s1 h1 s2 h2 s3 s4 h4 s5 s6 s7 s8 s9 t9)) (hS : va_S (LA s) s.heap H locs) (hcl : cells + 2 ≤ 600000) (hsl : slots + 103 ≤ 7302250) (K : LK p l e s m below meth c E b ax bs cells slots Q ls) : W p l e room_1 s m #[Value.ref bs] below meth c H locs cells slots Q (F0 m 371 ls []) := by
  obtain ⟨hx, hb, hml, hown, hts, hX, hbl, hK, hG, hg⟩ := hC
  have hA : ∀ q : Nat, s.heap.size ≤ q → LA s q := fun _ h => h
  have hAB : ∀ q : Nat, LA s q → E.2.2.2.2.1 ≤ q := fun q h => by rw [hg]; exact h
  have hbA : ¬ LA s bs := Nat.not_le.mpr hbl
  have hc0 : cells + 0 ≤ room_1.cells := Nat.le_trans (Nat.le_add_right cells 2) hcl
  have hs0 : slots + 0 ≤ room_1.slots := Nat.le_trans (Nat.le_add_right slots 103) hsl
  obtain ⟨a, z, μ1, e1, e2, hJ⟩ := in_put (N := N) hN hI
  refine lv_aload_n hx hb dL_law_371 rfl (lv_at hl 1 rfl) ?_
  refine fin_i (E := E) (r := a) (wc := w7 E b L s0 s1 h1 s2 h2 s3 s4 h4 s5 s6 s7 s8 s9 t9) (wc' := w7 E b L s0 z h1 s2 h2 s3 s4 h4 s5 s6 s7 s8 s9 t9) (va_runV (As := []) (rest := []) ⟨hx, hb, hml, hown, hts⟩ (k_X7_put l E (b 0) (b 1) (b 2) (b 3) (b 4) (b 5) (b 6) (b 7) (b 8) (b 9) L N s0 s1 h1 s2 h2 s3 s4 h4 s5 s6 s7 s8 s9 t9 (a, z) e1 _) (cwV 0 hts gl_X7_put rfl rfl rfl (by decide +kernel) ⟨(Nat.le_of_ble_eq_true rfl), (Nat.le_of_ble_eq_true rfl)⟩) (pre_v (ci := 7) (q0 := 0) hK (ap_P.mp hP).2 (ap_D2 hD) hS hG hAB rfl rfl) rfl rfl hl.1 rfl (lv_room (Nat.le_of_ble_eq_true rfl)) dL_law_372 ⟨hc0, hs0⟩) hS (w_free (ap_D2 hD) hS hA (fun _ h => h)) (fun H1 locs hP1 hk hS => ?_)
  have hP := jn_B hP hD hk hP1
  have hD := wD hD s0 z h1 s2 h2 s3 s4 h4 s5 s6 s7 s8 s9 t9 μ τ
  clear hP1 hk
  refine lv_aload_n hx hb dL_law_375 rfl (lv_at hl 2 rfl) ?_
  refine fin_i (E := E) (r := a) (wc := wX8 E ax μ τ) (wc' := wX8 E ax μ1 τ) (va_runV (As := []) (rest := [.int a]) ⟨hx, hb, hml, hown, hts⟩ (k_X8_put l E ax N μ τ (a, μ1) e2 _) (cwV 0 hts gl_X8_put rfl rfl rfl (by decide +kernel) ⟨(Nat.le_of_ble_eq_true rfl), (Nat.le_of_ble_eq_true rfl)⟩) (pre_v (ci := 8) (q0 := 0) hK (ap_P.mp hP).1 (ap_D1 hD) hS hG hAB rfl rfl) rfl rfl hl.1 rfl (lv_room (Nat.le_of_ble_eq_true rfl)) dL_law_376 ⟨hc0, hs0⟩) hS (w_free (ap_D1 hD) hS hA (fun _ h => h)) (fun H2 locs hP1 hk hS => ?_)
  have hP := jn_A hP hD hk hP1
  have hD := wD hD s0 z h1 s2 h2 s3 s4 h4 s5 s6 s7 s8 s9 t9 μ1 τ
  exact lv_icmp_eq (tgt := 1336) hx hb dL_law_379 (by decide) (fun _ => K _ _ _ _ _ _ _ _ _ _ _ _ _ _ _ _ _ _ _ hJ hP hD hS) (fun c9 => absurd rfl c9)
set_option maxHeartbeats 8000000 in
set_option maxRecDepth 100000 in
theorem lo_feed (hC : LCx p s m meth c E bs Ls xs) (hN : 500000 ≤ N) (v1 : vp_in (x3 + 1) Ls) (hl : lv_has ls 4 [(0, .ref bs), (1, .ref (b 0 0)), (2, .ref (ax 0)), (3, .int x3)]) (hI : Inv L s0 s1 h1 s3 s4 h4 s5 s6 s8 s9 t9 μ τ) (hP : va_P E.1 vwCl (wX8 E ax μ τ ++ w7 E b L s0 s1 h1 s2 h2 s3 s4 h4 s5 s6 s7 s8 s9 t9) H) (hD : va_D (LA s) (wX8 E ax μ τ ++ w7 E b L s0 s1 h1 s2 h2 s3 s4 h4 s5 s6 s7 s8 s9 t9)) (hS : va_S (LA s) s.heap H locs) (hcl : cells + 2 ≤ 600000) (hsl : slots + 103 ≤ 7302250) (K : LK p l e s m below meth c E b ax bs cells slots Q ls) : W p l e room_1 s m #[Value.ref bs] below meth c H locs cells slots Q (F0 m 384 ls []) := by
  obtain ⟨hx, hb, hml, hown, hts, hX, hbl, hK, hG, hg⟩ := hC
  have hA : ∀ q : Nat, s.heap.size ≤ q → LA s q := fun _ h => h
  have hAB : ∀ q : Nat, LA s q → E.2.2.2.2.1 ≤ q := fun q h => by rw [hg]; exact h
  have hbA : ¬ LA s bs := Nat.not_le.mpr hbl
  have hc0 : cells + 0 ≤ room_1.cells := Nat.le_trans (Nat.le_add_right cells 2) hcl
  have hs0 : slots + 0 ≤ room_1.slots := Nat.le_trans (Nat.le_add_right slots 103) hsl
  obtain ⟨a, z, μ1, e1, e2, hJ⟩ := in_feed (N := N) hI (xs (x3 + 1).toNatClampNeg)
  refine lv_aload_n hx hb dL_law_384 rfl (lv_at hl 1 rfl) ?_
  refine lv_aload_n hx hb dL_law_385 rfl (lv_at hl 0 rfl) ?_
  refine lv_iload_n hx hb dL_law_386 rfl (lv_at hl 3 rfl) ?_
  refine lv_iconst (v := 1) hx hb dL_law_387 (by decide) ?_
  refine lv_iadd hx hb dL_law_388 ?_
  refine va_sld hx hb hX hbl hbA hS v1 dL_law_389 ?_
  refine fin_i (E := E) (r := a) (wc := w7 E b L s0 s1 h1 s2 h2 s3 s4 h4 s5 s6 s7 s8 s9 t9) (wc' := w7 E b L s0 s1 h1 s2 h2 s3 s4 h4 s5 z s7 s8 s9 t9) (va_runV (As := [.int (xs (x3 + 1).toNatClampNeg)]) (rest := []) ⟨hx, hb, hml, hown, hts⟩ (k_X7_feed l E (b 0) (b 1) (b 2) (b 3) (b 4) (b 5) (b 6) (b 7) (b 8) (b 9) L N s0 s1 h1 s2 h2 s3 s4 h4 s5 s6 s7 s8 s9 t9 (xs (x3 + 1).toNatClampNeg) (a, z) e1 _) (cwV 1 hts gl_X7_feed rfl rfl rfl (by decide +kernel) ⟨(Nat.le_of_ble_eq_true rfl), (Nat.le_of_ble_eq_true rfl)⟩) (pre_v (ci := 7) (q0 := 0) hK (ap_P.mp hP).2 (ap_D2 hD) hS hG hAB rfl rfl) rfl rfl hl.1 rfl (lv_room (Nat.le_of_ble_eq_true rfl)) dL_law_390 ⟨hc0, hs0⟩) hS (w_free (ap_D2 hD) hS hA (fun _ h => h)) (fun H1 locs hP1 hk hS => ?_)
  have hP := jn_B hP hD hk hP1
  have hD := wD hD s0 s1 h1 s2 h2 s3 s4 h4 s5 z s7 s8 s9 t9 μ τ
  clear hP1 hk
  refine lv_aload_n hx hb dL_law_393 rfl (lv_at hl 2 rfl) ?_
  refine lv_aload_n hx hb dL_law_394 rfl (lv_at hl 0 rfl) ?_
  refine lv_iload_n hx hb dL_law_395 rfl (lv_at hl 3 rfl) ?_
  refine lv_iconst (v := 1) hx hb dL_law_396 (by decide) ?_
  refine lv_iadd hx hb dL_law_397 ?_
  refine va_sld hx hb hX hbl hbA hS v1 dL_law_398 ?_
  refine fin_i (E := E) (r := a) (wc := wX8 E ax μ τ) (wc' := wX8 E ax μ1 τ) (va_runV (As := [.int (xs (x3 + 1).toNatClampNeg)]) (rest := [.int a]) ⟨hx, hb, hml, hown, hts⟩ (k_X8_feed l E ax N μ τ (xs (x3 + 1).toNatClampNeg) (a, μ1) e2 _) (cwV 1 hts gl_X8_feed rfl rfl rfl (by decide +kernel) ⟨(Nat.le_of_ble_eq_true rfl), (Nat.le_of_ble_eq_true rfl)⟩) (pre_v (ci := 8) (q0 := 0) hK (ap_P.mp hP).1 (ap_D1 hD) hS hG hAB rfl rfl) rfl rfl hl.1 rfl (lv_room (Nat.le_of_ble_eq_true rfl)) dL_law_399 ⟨hc0, hs0⟩) hS (w_free (ap_D1 hD) hS hA (fun _ h => h)) (fun H2 locs hP1 hk hS => ?_)
  have hP := jn_A hP hD hk hP1
  have hD := wD hD s0 s1 h1 s2 h2 s3 s4 h4 s5 z s7 s8 s9 t9 μ1 τ
  exact lv_icmp_eq (tgt := 1336) hx hb dL_law_402 (by decide) (fun _ => K _ _ _ _ _ _ _ _ _ _ _ _ _ _ _ _ _ _ _ hJ hP hD hS) (fun c9 => absurd rfl c9)
set_option maxHeartbeats 8000000 in
set_option maxRecDepth 100000 in
theorem lo_told (hC : LCx p s m meth c E bs Ls xs) (hN : 500000 ≤ N) (v1 : vp_in (x3 + 1) Ls) (hl : lv_has ls 4 [(0, .ref bs), (1, .ref (b 0 0)), (2, .ref (ax 0)), (3, .int x3)]) (hI : Inv L s0 s1 h1 s3 s4 h4 s5 s6 s8 s9 t9 μ τ) (hP : va_P E.1 vwCl (wX8 E ax μ τ ++ w7 E b L s0 s1 h1 s2 h2 s3 s4 h4 s5 s6 s7 s8 s9 t9) H) (hD : va_D (LA s) (wX8 E ax μ τ ++ w7 E b L s0 s1 h1 s2 h2 s3 s4 h4 s5 s6 s7 s8 s9 t9)) (hS : va_S (LA s) s.heap H locs) (hcl : cells + 2 ≤ 600000) (hsl : slots + 103 ≤ 7302250) (K : LK p l e s m below meth c E b ax bs cells slots Q ls) : W p l e room_1 s m #[Value.ref bs] below meth c H locs cells slots Q (F0 m 420 ls []) := by
  obtain ⟨hx, hb, hml, hown, hts, hX, hbl, hK, hG, hg⟩ := hC
  have hA : ∀ q : Nat, s.heap.size ≤ q → LA s q := fun _ h => h
  have hAB : ∀ q : Nat, LA s q → E.2.2.2.2.1 ≤ q := fun q h => by rw [hg]; exact h
  have hbA : ¬ LA s bs := Nat.not_le.mpr hbl
  have hc0 : cells + 0 ≤ room_1.cells := Nat.le_trans (Nat.le_add_right cells 2) hcl
  have hs0 : slots + 0 ≤ room_1.slots := Nat.le_trans (Nat.le_add_right slots 103) hsl
  obtain ⟨a, z, μ1, e1, e2, hJ⟩ := in_told (N := N) hN hI (xs (x3 + 1).toNatClampNeg)
  refine lv_aload_n hx hb dL_law_420 rfl (lv_at hl 1 rfl) ?_
  refine lv_aload_n hx hb dL_law_421 rfl (lv_at hl 0 rfl) ?_
  refine lv_iload_n hx hb dL_law_422 rfl (lv_at hl 3 rfl) ?_
  refine lv_iconst (v := 1) hx hb dL_law_423 (by decide) ?_
  refine lv_iadd hx hb dL_law_424 ?_
  refine va_sld hx hb hX hbl hbA hS v1 dL_law_425 ?_
  refine fin_i (E := E) (r := a) (wc := w7 E b L s0 s1 h1 s2 h2 s3 s4 h4 s5 s6 s7 s8 s9 t9) (wc' := w7 E b L s0 z h1 s2 h2 s3 s4 h4 s5 s6 s7 s8 s9 t9) (va_runV (As := [.int (xs (x3 + 1).toNatClampNeg)]) (rest := []) ⟨hx, hb, hml, hown, hts⟩ (k_X7_told l E (b 0) (b 1) (b 2) (b 3) (b 4) (b 5) (b 6) (b 7) (b 8) (b 9) L N s0 s1 h1 s2 h2 s3 s4 h4 s5 s6 s7 s8 s9 t9 (xs (x3 + 1).toNatClampNeg) (a, z) e1 _) (cwV 1 hts gl_X7_told rfl rfl rfl (by decide +kernel) ⟨(Nat.le_of_ble_eq_true rfl), (Nat.le_of_ble_eq_true rfl)⟩) (pre_v (ci := 7) (q0 := 0) hK (ap_P.mp hP).2 (ap_D2 hD) hS hG hAB rfl rfl) rfl rfl hl.1 rfl (lv_room (Nat.le_of_ble_eq_true rfl)) dL_law_426 ⟨hc0, hs0⟩) hS (w_free (ap_D2 hD) hS hA (fun _ h => h)) (fun H1 locs hP1 hk hS => ?_)
  have hP := jn_B hP hD hk hP1
  have hD := wD hD s0 z h1 s2 h2 s3 s4 h4 s5 s6 s7 s8 s9 t9 μ τ
  clear hP1 hk
  refine lv_aload_n hx hb dL_law_429 rfl (lv_at hl 2 rfl) ?_
  refine lv_aload_n hx hb dL_law_430 rfl (lv_at hl 0 rfl) ?_
  refine lv_iload_n hx hb dL_law_431 rfl (lv_at hl 3 rfl) ?_
  refine lv_iconst (v := 1) hx hb dL_law_432 (by decide) ?_
  refine lv_iadd hx hb dL_law_433 ?_
  refine va_sld hx hb hX hbl hbA hS v1 dL_law_434 ?_
  refine fin_i (E := E) (r := a) (wc := wX8 E ax μ τ) (wc' := wX8 E ax μ1 τ) (va_runV (As := [.int (xs (x3 + 1).toNatClampNeg)]) (rest := [.int a]) ⟨hx, hb, hml, hown, hts⟩ (k_X8_told l E ax N μ τ (xs (x3 + 1).toNatClampNeg) (a, μ1) e2 _) (cwV 1 hts gl_X8_told rfl rfl rfl (by decide +kernel) ⟨(Nat.le_of_ble_eq_true rfl), (Nat.le_of_ble_eq_true rfl)⟩) (pre_v (ci := 8) (q0 := 0) hK (ap_P.mp hP).1 (ap_D1 hD) hS hG hAB rfl rfl) rfl rfl hl.1 rfl (lv_room (Nat.le_of_ble_eq_true rfl)) dL_law_435 ⟨hc0, hs0⟩) hS (w_free (ap_D1 hD) hS hA (fun _ h => h)) (fun H2 locs hP1 hk hS => ?_)
  have hP := jn_A hP hD hk hP1
  have hD := wD hD s0 z h1 s2 h2 s3 s4 h4 s5 s6 s7 s8 s9 t9 μ1 τ
  exact lv_icmp_eq (tgt := 1336) hx hb dL_law_438 (by decide) (fun _ => K _ _ _ _ _ _ _ _ _ _ _ _ _ _ _ _ _ _ _ hJ hP hD hS) (fun c9 => absurd rfl c9)
set_option maxHeartbeats 8000000 in
set_option maxRecDepth 100000 in
theorem lo_pass (hC : LCx p s m meth c E bs Ls xs) (hN : 500000 ≤ N) (v1 : vp_in (x3 + 1) Ls) (hl : lv_has ls 4 [(0, .ref bs), (1, .ref (b 0 0)), (2, .ref (ax 0)), (3, .int x3)]) (hI : Inv L s0 s1 h1 s3 s4 h4 s5 s6 s8 s9 t9 μ τ) (hP : va_P E.1 vwCl (wX8 E ax μ τ ++ w7 E b L s0 s1 h1 s2 h2 s3 s4 h4 s5 s6 s7 s8 s9 t9) H) (hD : va_D (LA s) (wX8 E ax μ τ ++ w7 E b L s0 s1 h1 s2 h2 s3 s4 h4 s5 s6 s7 s8 s9 t9)) (hS : va_S (LA s) s.heap H locs) (hcl : cells + 2 ≤ 600000) (hsl : slots + 103 ≤ 7302250) (K : LK p l e s m below meth c E b ax bs cells slots Q ls) : W p l e room_1 s m #[Value.ref bs] below meth c H locs cells slots Q (F0 m 443 ls []) := by
  obtain ⟨hx, hb, hml, hown, hts, hX, hbl, hK, hG, hg⟩ := hC
  have hA : ∀ q : Nat, s.heap.size ≤ q → LA s q := fun _ h => h
  have hAB : ∀ q : Nat, LA s q → E.2.2.2.2.1 ≤ q := fun q h => by rw [hg]; exact h
  have hbA : ¬ LA s bs := Nat.not_le.mpr hbl
  have hc0 : cells + 0 ≤ room_1.cells := Nat.le_trans (Nat.le_add_right cells 2) hcl
  have hs0 : slots + 0 ≤ room_1.slots := Nat.le_trans (Nat.le_add_right slots 103) hsl
  obtain ⟨a, z, μ1, e1, e2, hJ⟩ := in_pass (N := N) hN hI (xs (x3 + 1).toNatClampNeg)
  refine lv_aload_n hx hb dL_law_443 rfl (lv_at hl 1 rfl) ?_
  refine lv_aload_n hx hb dL_law_444 rfl (lv_at hl 0 rfl) ?_
  refine lv_iload_n hx hb dL_law_445 rfl (lv_at hl 3 rfl) ?_
  refine lv_iconst (v := 1) hx hb dL_law_446 (by decide) ?_
  refine lv_iadd hx hb dL_law_447 ?_
  refine va_sld hx hb hX hbl hbA hS v1 dL_law_448 ?_
  refine fin_i (E := E) (r := a) (wc := w7 E b L s0 s1 h1 s2 h2 s3 s4 h4 s5 s6 s7 s8 s9 t9) (wc' := w7 E b L s0 z h1 s2 h2 s3 s4 h4 s5 s6 s7 s8 s9 t9) (va_runV (As := [.int (xs (x3 + 1).toNatClampNeg)]) (rest := []) ⟨hx, hb, hml, hown, hts⟩ (k_X7_pass l E (b 0) (b 1) (b 2) (b 3) (b 4) (b 5) (b 6) (b 7) (b 8) (b 9) L N s0 s1 h1 s2 h2 s3 s4 h4 s5 s6 s7 s8 s9 t9 (xs (x3 + 1).toNatClampNeg) (a, z) e1 _) (cwV 1 hts gl_X7_pass rfl rfl rfl (by decide +kernel) ⟨(Nat.le_of_ble_eq_true rfl), (Nat.le_of_ble_eq_true rfl)⟩) (pre_v (ci := 7) (q0 := 0) hK (ap_P.mp hP).2 (ap_D2 hD) hS hG hAB rfl rfl) rfl rfl hl.1 rfl (lv_room (Nat.le_of_ble_eq_true rfl)) dL_law_449 ⟨hc0, hs0⟩) hS (w_free (ap_D2 hD) hS hA (fun _ h => h)) (fun H1 locs hP1 hk hS => ?_)
  have hP := jn_B hP hD hk hP1
  have hD := wD hD s0 z h1 s2 h2 s3 s4 h4 s5 s6 s7 s8 s9 t9 μ τ
  clear hP1 hk
  refine lv_aload_n hx hb dL_law_452 rfl (lv_at hl 2 rfl) ?_
  refine lv_aload_n hx hb dL_law_453 rfl (lv_at hl 0 rfl) ?_
  refine lv_iload_n hx hb dL_law_454 rfl (lv_at hl 3 rfl) ?_
  refine lv_iconst (v := 1) hx hb dL_law_455 (by decide) ?_
  refine lv_iadd hx hb dL_law_456 ?_
  refine va_sld hx hb hX hbl hbA hS v1 dL_law_457 ?_
  refine fin_i (E := E) (r := a) (wc := wX8 E ax μ τ) (wc' := wX8 E ax μ1 τ) (va_runV (As := [.int (xs (x3 + 1).toNatClampNeg)]) (rest := [.int a]) ⟨hx, hb, hml, hown, hts⟩ (k_X8_pass l E ax N μ τ (xs (x3 + 1).toNatClampNeg) (a, μ1) e2 _) (cwV 1 hts gl_X8_pass rfl rfl rfl (by decide +kernel) ⟨(Nat.le_of_ble_eq_true rfl), (Nat.le_of_ble_eq_true rfl)⟩) (pre_v (ci := 8) (q0 := 0) hK (ap_P.mp hP).1 (ap_D1 hD) hS hG hAB rfl rfl) rfl rfl hl.1 rfl (lv_room (Nat.le_of_ble_eq_true rfl)) dL_law_458 ⟨hc0, hs0⟩) hS (w_free (ap_D1 hD) hS hA (fun _ h => h)) (fun H2 locs hP1 hk hS => ?_)
  have hP := jn_A hP hD hk hP1
  have hD := wD hD s0 z h1 s2 h2 s3 s4 h4 s5 s6 s7 s8 s9 t9 μ1 τ
  exact lv_icmp_eq (tgt := 1336) hx hb dL_law_461 (by decide) (fun _ => K _ _ _ _ _ _ _ _ _ _ _ _ _ _ _ _ _ _ _ hJ hP hD hS) (fun c9 => absurd rfl c9)
end
