/-! ===== the law: its loop ===== -/
section
variable {p : Program} {l : Launch} {e : Env} {s : State} {m : MethodId} {below : List Frame} {meth : Method} {c : Code} {E : Ev} {bs Ls : Nat} {xs : Nat → Int32} {b : Nat → Nat → Nat} {ax : Nat → Nat} {N : Nat} {Q : State → Prop}
set_option maxHeartbeats 8000000 in
set_option maxRecDepth 100000 in
theorem law_turn (hC : LCx p s m meth c E bs Ls xs) (hN : 500000 ≤ N) (hL : Ls ≤ 3072) {cells slots i : Nat} (hcl : cells + 2 ≤ 600000) (hsl : slots + 103 ≤ 7302250) (hi : i + 6 ≤ Ls) {ls : Array Slot} (hl : lv_has ls 4 [(0, .ref bs), (1, .ref (b 0 0)), (2, .ref (ax 0)), (3, .int (nI i))]) {L : List SR} {h1 h2 h4 : Option SR} {s0 s1 s2 s3 s4 s5 s6 s7 s8 s9 μ : St} {t9 τ : Nat → Nat → Int64} {H : Heap} {locs : List Loc} (hI : Inv L s0 s1 h1 s3 s4 h4 s5 s6 s8 s9 t9 μ τ) (hP : va_P E.1 vwCl (wX8 E ax μ τ ++ w7 E b L s0 s1 h1 s2 h2 s3 s4 h4 s5 s6 s7 s8 s9 t9) H) (hD : va_D (LA s) (wX8 E ax μ τ ++ w7 E b L s0 s1 h1 s2 h2 s3 s4 h4 s5 s6 s7 s8 s9 t9)) (hS : va_S (LA s) s.heap H locs) (K : ∀ k n : Nat, k ≤ cells + 2 → n ≤ slots + 103 → LK p l e s m below meth c E b ax bs k n Q ls) : W p l e room_1 s m #[Value.ref bs] below meth c H locs cells slots Q (F0 m 27 ls []) := by
  have hC0 := hC
  obtain ⟨hx, hb, hml, hown, hts, hX, hbl, hK, hG, hg⟩ := hC
  have hbA : ¬ LA s bs := Nat.not_le.mpr hbl
  have vin : ∀ k : Nat, k < 6 → vp_in (nI i + nI k) Ls := fun k hk => by rw [nI_add]; exact vp_in_nI (by omega) (by omega)
  have v0 : vp_in (nI i) Ls := vp_in_nI (by omega) (by omega)
  have v1 : vp_in (nI i + 1) Ls := vin 1 (by omega)
  have v2 : vp_in (nI i + 2) Ls := vin 2 (by omega)
  have v3 : vp_in (nI i + 3) Ls := vin 3 (by omega)
  have v4 : vp_in (nI i + 4) Ls := vin 4 (by omega)
  have v5 : vp_in (nI i + 5) Ls := vin 5 (by omega)
  have K0 := K cells slots (Nat.le_add_right _ _) (Nat.le_add_right _ _)
  refine lv_aload_n hx hb dL_law_27 rfl (lv_at hl 0 rfl) ?_
  refine lv_iload_n hx hb dL_law_28 rfl (lv_at hl 3 rfl) ?_
  refine va_sld hx hb hX hbl hbA hS v0 dL_law_29 ?_
  refine lv_bipush (v := 63) hx hb dL_law_30 (by decide) ?_
  refine lv_iand hx hb dL_law_32 ?_
  obtain ⟨k, hk, ek⟩ := pk_andE (xs (nI i).toNatClampNeg) (m := 63) 6 (by decide)
  rw [ek]
  clear ek
  have hk : k < 64 := hk
  rcases (show k = 0 ∨ k = 1 ∨ k = 2 ∨ k = 3 ∨ k = 4 ∨ k = 5 ∨ k = 6 ∨ k = 7 ∨ k = 8 ∨ k = 9 ∨ k = 10 ∨ k = 11 ∨ k = 12 ∨ k = 13 ∨ k = 14 ∨ k = 15 ∨ k = 16 ∨ k = 17 ∨ k = 18 ∨ k = 19 ∨ k = 20 ∨ k = 21 ∨ k = 22 ∨ k = 23 ∨ k = 24 ∨ k = 25 ∨ k = 26 ∨ k = 27 ∨ k = 28 ∨ k = 29 ∨ k = 30 ∨ k = 31 ∨ k = 32 ∨ k = 33 ∨ k = 34 ∨ k = 35 ∨ k = 36 ∨ 37 ≤ k by omega) with rfl | rfl | rfl | rfl | rfl | rfl | rfl | rfl | rfl | rfl | rfl | rfl | rfl | rfl | rfl | rfl | rfl | rfl | rfl | rfl | rfl | rfl | rfl | rfl | rfl | rfl | rfl | rfl | rfl | rfl | rfl | rfl | rfl | rfl | rfl | rfl | rfl | h37
  · exact lv_tableIn (tgt := 196) (off := 163) hx hb dL_law_33 (by decide) (by decide) (by decide) (by decide) (lo_thing hC0 hN v1 v2 v3 hl hI hP hD hS hcl hsl K0)
  · exact lv_tableIn (tgt := 239) (off := 206) hx hb dL_law_33 (by decide) (by decide) (by decide) (by decide) (lo_of hC0 hN v1 v2 hl hI hP hD hS hcl hsl K0)
  · exact lv_tableIn (tgt := 272) (off := 239) hx hb dL_law_33 (by decide) (by decide) (by decide) (by decide) (lo_mark hC0 hN v1 v2 hl hI hP hD hS hcl hsl K0)
  · exact lv_tableIn (tgt := 305) (off := 272) hx hb dL_law_33 (by decide) (by decide) (by decide) (by decide) (lo_row hC0 hN v1 v2 v3 hl hI hP hD hS hcl hsl K0)
  · exact lv_tableIn (tgt := 348) (off := 315) hx hb dL_law_33 (by decide) (by decide) (by decide) (by decide) (lo_take hC0 hN v1 hl hI hP hD hS hcl hsl K0)
  · exact lv_tableIn (tgt := 371) (off := 338) hx hb dL_law_33 (by decide) (by decide) (by decide) (by decide) (lo_put hC0 hN hl hI hP hD hS hcl hsl K0)
  · exact lv_tableIn (tgt := 384) (off := 351) hx hb dL_law_33 (by decide) (by decide) (by decide) (by decide) (lo_feed hC0 hN v1 hl hI hP hD hS hcl hsl K0)
  · exact lv_tableIn (tgt := 407) (off := 374) hx hb dL_law_33 (by decide) (by decide) (by decide) (by decide) (lo_street hC0 hN hl hI hP hD hS hcl hsl (K (cells + 2) (slots + 103) (Nat.le_refl _) (Nat.le_refl _)))
  · exact lv_tableIn (tgt := 420) (off := 387) hx hb dL_law_33 (by decide) (by decide) (by decide) (by decide) (lo_told hC0 hN v1 hl hI hP hD hS hcl hsl K0)
  · exact lv_tableIn (tgt := 443) (off := 410) hx hb dL_law_33 (by decide) (by decide) (by decide) (by decide) (lo_pass hC0 hN v1 hl hI hP hD hS hcl hsl K0)
  · exact lv_tableIn (tgt := 466) (off := 433) hx hb dL_law_33 (by decide) (by decide) (by decide) (by decide) (lo_on hC0 hN v1 v2 hl hI hP hD hS hcl hsl K0)
  · exact lv_tableIn (tgt := 499) (off := 466) hx hb dL_law_33 (by decide) (by decide) (by decide) (by decide) (lo_soon hC0 hN v1 hl hI hP hD hS hcl hsl K0)
  · exact lv_tableIn (tgt := 522) (off := 489) hx hb dL_law_33 (by decide) (by decide) (by decide) (by decide) (lo_when hC0 hN v1 hl hI hP hD hS hcl hsl K0)
  · exact lv_tableIn (tgt := 545) (off := 512) hx hb dL_law_33 (by decide) (by decide) (by decide) (by decide) (lo_most hC0 hN v1 hl hI hP hD hS hcl hsl K0)
  · exact lv_tableIn (tgt := 568) (off := 535) hx hb dL_law_33 (by decide) (by decide) (by decide) (by decide) (lo_best hC0 hN v1 hl hI hP hD hS hcl hsl K0)
  · exact lv_tableIn (tgt := 591) (off := 558) hx hb dL_law_33 (by decide) (by decide) (by decide) (by decide) (lo_reach hC0 hN v1 hl hI hP hD hS hcl hsl K0)
  · exact lv_tableIn (tgt := 614) (off := 581) hx hb dL_law_33 (by decide) (by decide) (by decide) (by decide) (lo_fitting hC0 hN v1 v2 hl hI hP hD hS hcl hsl K0)
  · exact lv_tableIn (tgt := 647) (off := 614) hx hb dL_law_33 (by decide) (by decide) (by decide) (by decide) (lo_see hC0 hN v1 v2 v3 hl hI hP hD hS hcl hsl K0)
  · exact lv_tableIn (tgt := 706) (off := 673) hx hb dL_law_33 (by decide) (by decide) (by decide) (by decide) (lo_marked hC0 hN v1 v2 hl hI hP hD hS hcl hsl K0)
  · exact lv_tableIn (tgt := 739) (off := 706) hx hb dL_law_33 (by decide) (by decide) (by decide) (by decide) (lo_can hC0 hN v1 v2 hl hI hP hD hS hcl hsl K0)
  · exact lv_tableIn (tgt := 772) (off := 739) hx hb dL_law_33 (by decide) (by decide) (by decide) (by decide) (lo_odds hC0 hN v1 v2 v3 hl hI hP hD hS hcl hsl K0)
  · exact lv_tableIn (tgt := 816) (off := 783) hx hb dL_law_33 (by decide) (by decide) (by decide) (by decide) (lo_mean hC0 hN v1 hl hI hP hD hS hcl hsl K0)
  · exact lv_tableIn (tgt := 840) (off := 807) hx hb dL_law_33 (by decide) (by decide) (by decide) (by decide) (lo_week hC0 hN v1 v2 hl hI hP hD hS hcl hsl K0)
  · exact lv_tableIn (tgt := 873) (off := 840) hx hb dL_law_33 (by decide) (by decide) (by decide) (by decide) (lo_ends hC0 hN v1 hl hI hP hD hS hcl hsl K0)
  · exact lv_tableIn (tgt := 896) (off := 863) hx hb dL_law_33 (by decide) (by decide) (by decide) (by decide) (lo_book hC0 hN v1 v2 hl hI hP hD hS hcl hsl K0)
  · exact lv_tableIn (tgt := 929) (off := 896) hx hb dL_law_33 (by decide) (by decide) (by decide) (by decide) (lo_looked hC0 hN hl hI hP hD hS hcl hsl K0)
  · exact lv_tableIn (tgt := 942) (off := 909) hx hb dL_law_33 (by decide) (by decide) (by decide) (by decide) (lo_judge hC0 hN v1 v2 hl hI hP hD hS hcl hsl K0)
  · exact lv_tableIn (tgt := 975) (off := 942) hx hb dL_law_33 (by decide) (by decide) (by decide) (by decide) (lo_image hC0 hN hl hI hP hD hS hcl hsl K0)
  · exact lv_tableIn (tgt := 988) (off := 955) hx hb dL_law_33 (by decide) (by decide) (by decide) (by decide) (lo_undo hC0 hN hl hI hP hD hS hcl hsl K0)
  · exact lv_tableIn (tgt := 1001) (off := 968) hx hb dL_law_33 (by decide) (by decide) (by decide) (by decide) (lo_act hC0 hN v1 v2 v3 hl hI hP hD hS hcl hsl K0)
  · exact lv_tableIn (tgt := 1044) (off := 1011) hx hb dL_law_33 (by decide) (by decide) (by decide) (by decide) (lo_trace hC0 hN v1 hl hI hP hD hS hcl hsl K0)
  · exact lv_tableIn (tgt := 1067) (off := 1034) hx hb dL_law_33 (by decide) (by decide) (by decide) (by decide) (lo_taken hC0 hN v1 v2 hl hI hP hD hS hcl hsl K0)
  · exact lv_tableIn (tgt := 1100) (off := 1067) hx hb dL_law_33 (by decide) (by decide) (by decide) (by decide) (lo_count hC0 hN v1 hl hI hP hD hS hcl hsl K0)
  · exact lv_tableIn (tgt := 1123) (off := 1090) hx hb dL_law_33 (by decide) (by decide) (by decide) (by decide) (lo_tape hC0 hN v1 v2 v3 hl hI hP hD hS hcl hsl K0)
  · exact lv_tableIn (tgt := 1166) (off := 1133) hx hb dL_law_33 (by decide) (by decide) (by decide) (by decide) (lo_item hC0 hN v1 v2 v3 v4 hl hI hP hD hS hcl hsl K0)
  · exact lv_tableIn (tgt := 1239) (off := 1206) hx hb dL_law_33 (by decide) (by decide) (by decide) (by decide) (lo_read hC0 hN v1 v2 hl hI hP hD hS hcl hsl K0)
  · exact lv_tableIn (tgt := 1273) (off := 1240) hx hb dL_law_33 (by decide) (by decide) (by decide) (by decide) (lo_shift hC0 hN v1 v2 v3 v4 v5 hl hI hP hD hS hcl hsl K0)
  · refine lv_tableOut (tgt := 1336) hx hb dL_law_33 (Or.inr ?_) (by decide) (K0 _ _ _ _ _ _ _ _ _ _ _ _ _ _ _ _ _ _ _ hI hP hD hS)
    rw [nI_toInt (by omega)]
    omega
set_option maxHeartbeats 8000000 in
set_option maxRecDepth 100000 in
/-- the loop, from its head; end is what the law does behind it -/
theorem law_loop (hC : LCx p s m meth c E bs Ls xs) (hN : 500000 ≤ N) (hL : Ls ≤ 3072) (hend : ∀ (H : Heap) (locs : List Loc) (ls : Array Slot), va_S (LA s) s.heap H locs → W p l e room_1 s m #[Value.ref bs] below meth c H locs 600000 7302250 Q (F0 m 1342 ls [])) : ∀ (n j : Nat), 6 * j ≤ Ls → Ls < 6 * (j + n) → ∀ (ls : Array Slot), lv_has ls 4 [(0, .ref bs), (1, .ref (b 0 0)), (2, .ref (ax 0)), (3, .int (nI (6 * j)))] → ∀ (L : List SR) (s0 s1 : St) (h1 : Option SR) (s2 : St) (h2 : Option SR) (s3 s4 : St) (h4 : Option SR) (s5 s6 s7 s8 s9 : St) (t9 : Nat → Nat → Int64) (μ : St) (τ : Nat → Nat → Int64) (H : Heap) (locs : List Loc), Inv L s0 s1 h1 s3 s4 h4 s5 s6 s8 s9 t9 μ τ → va_P E.1 vwCl (wX8 E ax μ τ ++ w7 E b L s0 s1 h1 s2 h2 s3 s4 h4 s5 s6 s7 s8 s9 t9) H → va_D (LA s) (wX8 E ax μ τ ++ w7 E b L s0 s1 h1 s2 h2 s3 s4 h4 s5 s6 s7 s8 s9 t9) → va_S (LA s) s.heap H locs → W p l e room_1 s m #[Value.ref bs] below meth c H locs (93 + 2 * j) (2852 + 103 * j) Q (F0 m 18 ls []) := by
  have hC0 := hC
  obtain ⟨hx, hb, hml, hown, hts, hX, hbl, hK, hG, hg⟩ := hC
  have hbA : ¬ LA s bs := Nat.not_le.mpr hbl
  intro n
  induction n with
  | zero => intro j h1 h2; exact absurd h2 (by omega)
  | succ n ih =>
    intro j hj hn ls hl L s0 s1 h1 s2 h2 s3 s4 h4 s5 s6 s7 s8 s9 t9 μ τ H locs hI hP hD hS
    refine lv_iload_n hx hb dL_law_18 rfl (lv_at hl 3 rfl) ?_
    refine lv_aload_n hx hb dL_law_19 rfl (lv_at hl 0 rfl) ?_
    refine va_slen hx hb hX hbl hbA hS dL_law_20 ?_
    refine lv_bipush (v := 6) hx hb dL_law_21 (by decide) ?_
    refine lv_isub hx hb dL_law_23 ?_
    have e6 : (nI Ls - 6).toInt = (Ls : Int) - 6 := pk_sub_toInt (a := Ls) (b := 6) (by omega) (by omega)
    have ej : (nI (6 * j)).toInt = ((6 * j : Nat) : Int) := nI_toInt (by omega)
    refine lv_icmp_gt (tgt := 1342) hx hb dL_law_24 (by decide) (fun c1 => ?_) (fun c1 => ?_)
    · refine W.widen (k := 600000) (n := 7302250) (by omega) (by omega) ?_
      exact hend H locs ls hS
    · have hlt : 6 * j + 6 ≤ Ls := by
        have c2 : ¬ (nI Ls - 6) < nI (6 * j) := c1
        rw [Int32.lt_iff_toInt_lt, e6, ej] at c2
        omega
      refine law_turn hC0 hN hL (by omega) (by omega) hlt hl hI hP hD hS (fun k q hk hq => ?_)
      intro L s0 s1 h1 s2 h2 s3 s4 h4 s5 s6 s7 s8 s9 t9 μ τ H locs hI hP hD hS
      refine W.widen (k := 93 + 2 * (j + 1)) (n := 2852 + 103 * (j + 1)) (by omega) (by omega) ?_
      refine lv_iinc (v := nI (6 * (j + 1))) (lv' := [(3, .int (nI (6 * (j + 1)))), (0, .ref bs), (1, .ref (b 0 0)), (2, .ref (ax 0))]) hx hb dL_law_1336 hl (k := 3) rfl ?_ (by decide) rfl (fun ls hl => ?_)
      · show nI (6 * j) + nI 6 = nI (6 * (j + 1))
        rw [nI_add]; rfl
      refine lv_goto (tgt := 18) hx hb dL_law_1339 (by decide) ?_
      exact ih (j + 1) hlt (by omega) ls (lv_sub hl [1, 2, 3, 0] rfl) L s0 s1 h1 s2 h2 s3 s4 h4 s5 s6 s7 s8 s9 t9 μ τ H locs hI hP hD hS
end
