/-! ===== what the methods compute, and that they do: by program out of the bytecode (wip/gen) ===== -/
noncomputable def f_X7_put (N : Nat) (s1 : St) : Option (Int32 × St) := (if (s1 6 0) = 0 then some ((-3), s1) else cl (f_X2_layDownNewest N s1) (fun q17 => some (q17.1, q17.2)))
noncomputable def f_X7_feed (N : Nat) (s6 : St) (p1 : Int32) : Option (Int32 × St) := cl (f_X7_isWithin N p1 0 127) (fun q4 => (if q4 = 0 then some ((-2), s6) else (if (s6 1 0) < 100 then cl (f_X5_addSign N s6 p1) (fun q33 => some (q33.1, q33.2)) else some ((-4), s6))))
noncomputable def l_X7_twinsNow_25 (N : Nat) (k_9 : Int32 → Int32 → Int32 → Option (Int32)) (s1 : St) (v3 : Int32) : Nat → Int32 → Int32 → Int32 → Option (Int32)
  | 0, _, _, _ => none
  | n + 1, v1, v2, v4 => (if (s1 0 0) ≤ v4 then nm (v3 + 1) (fun (x85 : Int32) => k_9 v1 v2 x85) else ck v3 6 (ck v4 6 (cl (f_J6_bitCount_0f7a4 N ((s1 3 v3.toNatClampNeg) ^^^ (s1 3 v4.toNatClampNeg))) (fun q57 => (if v2 ≤ q57 then nm (v4 + 1) (fun (x79 : Int32) => l_X7_twinsNow_25 N k_9 s1 v3 n v1 v2 x79) else nm ((10 * v3) + v4) (fun (x78 : Int32) => nm (v4 + 1) (fun (x79 : Int32) => l_X7_twinsNow_25 N k_9 s1 v3 n x78 q57 x79)))))))
noncomputable def l_X7_twinsNow_9 (N : Nat) (s1 : St) : Nat → Int32 → Int32 → Int32 → Option (Int32)
  | 0, _, _, _ => none
  | n + 1, v1, v2, v3 => (if (s1 0 0) ≤ v3 then some v1 else nm (v3 + 1) (fun (x23 : Int32) => l_X7_twinsNow_25 N (l_X7_twinsNow_9 N s1 n) s1 v3 N v1 v2 x23))
noncomputable def f_X7_twinsNow (N : Nat) (s1 : St) : Option (Int32) := nm (-5) (fun (x2 : Int32) => l_X7_twinsNow_9 N s1 N x2 2147483647 0)
noncomputable def j_X7_coverNow_49 (N : Nat) (k_26 : Int32 → Int32 → Option (Int32)) (s1 : St) (v1 : Int32) (v2 : Int32) (v3 : Int32) (v4 : Int32) (y0 : Int32) : Option (Int32) := (if y0 = 0 then nm (v4 + 1) (fun (x72 : Int32) => k_26 v3 x72) else cl (f_X2_marksOf N s1 v4) (fun q62 => (if q62 = v2 then nm (v4 + 1) (fun (x72 : Int32) => k_26 v4 x72) else nm (v4 + 1) (fun (x72 : Int32) => k_26 v3 x72))))
noncomputable def l_X7_coverNow_26 (N : Nat) (s1 : St) (v1 : Int32) (v2 : Int32) : Nat → Int32 → Int32 → Option (Int32)
  | 0, _, _ => none
  | n + 1, v3, v4 => (if v1 ≤ v4 then some v3 else cl (f_J6_bitCount_0f7a4 N v4) (fun q34 => cl (f_J6_bitCount_0f7a4 N v3) (fun q38 => (if q38 ≤ q34 then j_X7_coverNow_49 N (l_X7_coverNow_26 N s1 v1 v2 n) s1 v1 v2 v3 v4 0 else j_X7_coverNow_49 N (l_X7_coverNow_26 N s1 v1 v2 n) s1 v1 v2 v3 v4 1))))
noncomputable def f_X7_coverNow (N : Nat) (s1 : St) : Option (Int32) := nm ((1 <<< ((s1 0 0) &&& 31)) - 1) (fun (x11 : Int32) => cl (f_X2_marksOf N s1 x11) (fun q17 => l_X7_coverNow_26 N s1 x11 q17 N x11 0))
noncomputable def f_X7_told (N : Nat) (L : List SR) (s1 : St) (h1 : Option SR) (p1 : Int32) : Option (Int32 × St) := (if p1 = 0 then some (s1 8 0, s1) else (if p1 = 1 then cl (f_X2_needNow N L h1) (fun q60 => some (q60, s1)) else (if p1 = 2 then cl (f_X2_holdNow N L h1) (fun q68 => some (q68, s1)) else (if p1 = 3 then some (s1 7 0, s1) else (if p1 = 4 then cl (f_X2_goingBits N L s1 h1) (fun q84 => some (q84.1, q84.2)) else (if p1 = 5 then cl (f_X2_marksOf N s1 (s1 7 0)) (fun q99 => some (q99, s1)) else (if p1 = 6 then cl (f_X7_twinsNow N s1) (fun q104 => some (q104, s1)) else (if p1 = 7 then cl (f_X7_coverNow N s1) (fun q109 => some (q109, s1)) else some ((-1), s1)))))))))
noncomputable def f_X7_pass (N : Nat) (L : List SR) (s1 : St) (h1 : Option SR) (p1 : Int32) : Option (Int32 × St) := cl (f_X7_isWithin N p1 0 60) (fun q4 => (if q4 = 0 then some ((-2), s1) else (if ((s1 8 0) + p1) ≤ 9999 then cl (f_X2_daysGo N L s1 h1 p1) (fun q36 => some (q36 6 0, q36)) else some ((-3), s1))))
noncomputable def f_X7_on (N : Nat) (L : List SR) (s1 : St) (h1 : Option SR) (s2 : St) (h2 : Option SR) (p1 : Int32) (p2 : Int32) : Option (Int32 × St × (Option SR)) := cl (f_X7_isWithin N p2 0 1) (fun q3 => (if q3 = 0 then some ((-1), s2, h2) else cl (f_X7_isWithin N p1 0 60) (fun q15 => (if q15 = 0 then some ((-2), s2, h2) else cl (f_X2_becomeAs N s2 h2 s1 h1) (fun q32 => cl (f_X2_daysGo N L q32.1 q32.2 p1) (fun q40 => (if p2 = 0 then some (q40 7 0, q40, q32.2) else some (q40 6 0, q40, q32.2))))))))
noncomputable def l_X7_soon_26 (N : Nat) (L : List SR) (s1 : St) (h1 : Option SR) (v1 : Int32) : Nat → St → Option SR → Int32 → Option (Int32 × St × (Option SR))
  | 0, _, _, _ => none
  | n + 1, s2, h2, v2 => (if 60 < v2 then some ((-5), s2, h2) else (if (s2 6 0) < v1 then cl (f_X2_dayGoes N L s2 h2) (fun q49 => nm (v2 + 1) (fun (x52 : Int32) => l_X7_soon_26 N L s1 h1 v1 n q49 h2 x52)) else some (v2, s2, h2)))
noncomputable def f_X7_soon (N : Nat) (L : List SR) (s1 : St) (h1 : Option SR) (s2 : St) (h2 : Option SR) (p1 : Int32) : Option (Int32 × St × (Option SR)) := cl (f_X7_isWithin N p1 0 6) (fun q4 => (if q4 = 0 then some ((-2), s2, h2) else cl (f_X2_becomeAs N s2 h2 s1 h1) (fun q21 => l_X7_soon_26 N L s1 h1 p1 N q21.1 q21.2 0)))
noncomputable def l_X7_when_26 (N : Nat) (L : List SR) (s1 : St) (h1 : Option SR) (v1 : Int32) : Nat → St → Option SR → Int32 → Option (Int32 × St × (Option SR))
  | 0, _, _, _ => none
  | n + 1, s2, h2, v2 => (if 60 < v2 then some ((-5), s2, h2) else cl (f_X2_isHad N s2 v1) (fun q37 => (if q37 = 0 then cl (f_X2_dayGoes N L s2 h2) (fun q49 => nm (v2 + 1) (fun (x52 : Int32) => l_X7_when_26 N L s1 h1 v1 n q49 h2 x52)) else some (v2, s2, h2))))
noncomputable def f_X7_when (N : Nat) (L : List SR) (s1 : St) (h1 : Option SR) (s2 : St) (h2 : Option SR) (p1 : Int32) : Option (Int32 × St × (Option SR)) := cl (f_X2_hasThing N s1 p1) (fun q5 => (if q5 = 0 then some ((-1), s2, h2) else cl (f_X2_becomeAs N s2 h2 s1 h1) (fun q21 => l_X7_when_26 N L s1 h1 p1 N q21.1 q21.2 0)))
noncomputable def f_X7_most (N : Nat) (L : List SR) (s1 : St) (h1 : Option SR) (s2 : St) (h2 : Option SR) (s7 : St) (p1 : Int32) : Option (Int32 × St × (Option SR) × St) := cl (f_X7_isWithin N p1 (-1) 5) (fun q3 => (if q3 = 0 then some ((-1), s2, h2, s7) else cl (f_X2_becomeAs N s2 h2 s1 h1) (fun q19 => cl (f_X3_longestRow N L s7 q19.1 q19.2) (fun q30 => nm q30.1 (fun (x33 : Int32) => (if 0 ≤ p1 then (if x33 ≤ p1 then some ((-5), q30.2.2, q19.2, q30.2.1) else ck p1 6 (some (q30.2.1 1 p1.toNatClampNeg, q30.2.2, q19.2, q30.2.1))) else some (x33, q30.2.2, q19.2, q30.2.1)))))))
abbrev rm_X7_put : Room := { frames := 1, cells := 0, slots := 0, locals := 21 }
theorem m_X7_put_265b14 : Cond.fieldLink RX7 12 "PickedMatch" "scene" "LPickedMatch$Scene;" ∈ wsX7_put := by decide +kernel
theorem i_X7_put_X7 : ∀ w ∈ wsX70, w ∈ wsX7_put := fun _ h => List.mem_cons_of_mem _ (List.mem_append_left _ (List.mem_append_right _ h))
theorem i_X7_put_X2 : ∀ w ∈ wsX20, w ∈ wsX7_put := fun _ h => List.mem_cons_of_mem _ (List.mem_append_right _ h)
theorem m_X7_put_4cf9d8 : Cond.initialized RX2 ∈ wsX7_put := by decide +kernel
theorem m_X7_put_6978fc : Cond.instanceMethod yX2_layDownNewest ∈ wsX7_put := by decide +kernel
theorem m_X7_put_998862 : Cond.selects RX2 yX2_layDownNewest yX2_layDownNewest ∈ wsX7_put := by decide +kernel
set_option maxHeartbeats 8000000 in
set_option maxRecDepth 100000 in
theorem k_X7_put (l : Launch) (E : Ev) (a0 : Nat → Nat) (a1 : Nat → Nat) (a2 : Nat → Nat) (a3 : Nat → Nat) (a4 : Nat → Nat) (a5 : Nat → Nat) (a6 : Nat → Nat) (a7 : Nat → Nat) (a8 : Nat → Nat) (a9 : Nat → Nat) (L : List SR) (N : Nat) (s0 : St) (s1 : St) (h1 : Option SR) (s2 : St) (h2 : Option SR) (s3 : St) (s4 : St) (h4 : Option SR) (s5 : St) (s6 : St) (s7 : St) (s8 : St) (s9 : St) (t9 : Nat → Nat → Int64) (q : (Int32 × St)) (hf : f_X7_put N s1 = some q) : Ci l yX7_put wsX7_put rm_X7_put E [.ref (a0 0)] ((wX7o E a0 a1 a2 a3 a4 a5 a6 a7 a8 a9 s0 ++ (wX2 E a1 s1 h1 ++ (wX2 E a2 s2 h2 ++ (wX1 E a3 s3 ++ (wX2 E a4 s4 h4 ++ (wX1 E a5 s5 ++ (wX5 E a6 s6 ++ (wX3 E a7 s7 ++ (wX0 E a8 s8 ++ (wX6 E a9 s9 t9)))))))))) ++ sW E.2.1 L) ((wX7o E a0 a1 a2 a3 a4 a5 a6 a7 a8 a9 s0 ++ (wX2 E a1 q.2 h1 ++ (wX2 E a2 s2 h2 ++ (wX1 E a3 s3 ++ (wX2 E a4 s4 h4 ++ (wX1 E a5 s5 ++ (wX5 E a6 s6 ++ (wX3 E a7 s7 ++ (wX0 E a8 s8 ++ (wX6 E a9 s9 t9)))))))))) ++ sW E.2.1 L) q.1 := by
  unfold f_X7_put at hf
  intro sz
  refine Met.ofW (cc := cX7_put) (maxL := 1) (ret := (some .int)) (by decide) rfl ?_
  intro p e s m args below meth c s₁ B hml hpre
  obtain ⟨rfl, hsz, hP, hK, hD0, hG, hA, hAB⟩ := start hpre
  have hx := B.exec
  have hb := B.bytes
  have hr := B.returns
  have hts := atoms_spec (ws := wsX7_put) B.pre
  have hown : s.vm.findClass RX7 = some m.cls := findClass_of_methodNamed B.named
  have hlocks := B.notSynchronized
  subst hsz
  generalize va_A ((wX7o E a0 a1 a2 a3 a4 a5 a6 a7 a8 a9 s0 ++ (wX2 E a1 s1 h1 ++ (wX2 E a2 s2 h2 ++ (wX1 E a3 s3 ++ (wX2 E a4 s4 h4 ++ (wX1 E a5 s5 ++ (wX5 E a6 s6 ++ (wX3 E a7 s7 ++ (wX0 E a8 s8 ++ (wX6 E a9 s9 t9)))))))))) ++ sW E.2.1 L) s.heap.size = A0 at hD0 hA hAB ⊢
  have hDD : ∀ (s0 : St) (s1 : St) (h1 : Option SR) (s2 : St) (h2 : Option SR) (s3 : St) (s4 : St) (h4 : Option SR) (s5 : St) (s6 : St) (s7 : St) (s8 : St) (s9 : St) (t9 : Nat → Nat → Int64), va_D A0 ((wX7o E a0 a1 a2 a3 a4 a5 a6 a7 a8 a9 s0 ++ (wX2 E a1 s1 h1 ++ (wX2 E a2 s2 h2 ++ (wX1 E a3 s3 ++ (wX2 E a4 s4 h4 ++ (wX1 E a5 s5 ++ (wX5 E a6 s6 ++ (wX3 E a7 s7 ++ (wX0 E a8 s8 ++ (wX6 E a9 s9 t9)))))))))) ++ sW E.2.1 L) := fun s0 s1 h1 s2 h2 s3 s4 h4 s5 s6 s7 s8 s9 t9 => vD_addr hD0 rfl
  have hS : va_S A0 s.heap s.heap [] := va_S.rf
  have hl := lv_entry ([.ref (a0 0)]) (n := 1) (Nat.le_of_ble_eq_true rfl)
  rw [lg_entry_eq]
  generalize (lg_sl ([.ref (a0 0)]) ++ List.replicate (1 - (lg_sl ([.ref (a0 0)])).length) Slot.unset).toArray = ls at hl ⊢
  have hl : lv_has ls 1 [(0, .ref (a0 0))] := hl
  refine lv_aload_n hx hb dX7_put_0 rfl (lv_at hl 0 rfl) ?_
  refine va_get (ci := 7) (C := RX7) (T := TX7) (N := 11) (v := .ref (a1 0)) hx hb hts i_X7_put_X7 hown hK hP 0 rfl rfl 0 (by decide) (hts _ m_X7_put_265b14) (fun _ h9 => h9) rfl dX7_put_1 ?_
  refine va_getN (ci := 2) (C := RX2) (T := TX2) (N := 11) (v := .int (s1 6 0)) hx hb hts i_X7_put_X2 hown hK hP 1 rfl rfl 6 (by decide) (nwG hG (w := .fieldLinkNest "PickedMatch" 108 "PickedMatch$Scene" "hadCount" "I" "PickedMatch") (by decide +kernel)) (fun _ h9 => h9) rfl dX7_put_4 ?_
  refine lv_if_ne (tgt := 13) hx hb dX7_put_7 (by decide) (fun c_7 => ?_) (fun c_7 => ?_)
  · have hf := ite_f c_7 hf
    refine lv_aload_n hx hb dX7_put_13 rfl (lv_at hl 0 rfl) ?_
    refine va_get (ci := 7) (C := RX7) (T := TX7) (N := 11) (v := .ref (a1 0)) hx hb hts i_X7_put_X7 hown hK hP 0 rfl rfl 0 (by decide) (hts _ m_X7_put_265b14) (fun _ h9 => h9) rfl dX7_put_14 ?_
    obtain ⟨q17, hc_17, hf⟩ := cl_e hf
    have hm_17 : ∀ q ∈ (wX2 E a1 s1 h1) ++ sW E.2.1 L, q ∈ (wX7o E a0 a1 a2 a3 a4 a5 a6 a7 a8 a9 s0 ++ (wX2 E a1 s1 h1 ++ (wX2 E a2 s2 h2 ++ (wX1 E a3 s3 ++ (wX2 E a4 s4 h4 ++ (wX1 E a5 s5 ++ (wX5 E a6 s6 ++ (wX3 E a7 s7 ++ (wX0 E a8 s8 ++ (wX6 E a9 s9 t9)))))))))) ++ sW E.2.1 L := (app_mem (sub_mem (suf := []) [1, 2, 3, 4, 5, 6, 7] rfl))
    refine fin_i (E := E) (wc := (wX2 E a1 s1 h1) ++ sW E.2.1 L) (wc' := (wX2 E a1 q17.2 h1) ++ sW E.2.1 L) (va_runVN (As := []) (rest := []) ⟨hx, hb, hml, hown, hts⟩ (k_X2_layDownNewest l E a1 L N s1 h1 q17 hc_17 _) ⟨va_cnB 0 hts gX7_put_X2_layDownNewest_n111 rfl rfl rfl (hG.1 (.methodLinkNest "PickedMatch" 111 yX2_layDownNewest "PickedMatch") (by decide +kernel)) (hts _ m_X7_put_4cf9d8) (by decide +kernel) ⟨(Nat.le_of_ble_eq_true rfl), (Nat.le_of_ble_eq_true rfl)⟩, (hts _ m_X7_put_6978fc), (hts _ m_X7_put_998862)⟩ (pre_v (ci := 2) (q0 := 0) hK (sub_P hm_17 hP) (sub_Ds (wc := wX2 E a1 s1 h1) [1, 2, 3, 4, 5, 6, 7] (by decide) rfl (hDD s0 s1 h1 s2 h2 s3 s4 h4 s5 s6 s7 s8 s9 t9)) hS hG hAB rfl rfl) rfl rfl hl.1 rfl (lv_room (Nat.le_of_ble_eq_true rfl)) dX7_put_17 ⟨Nat.zero_le _, Nat.zero_le _⟩) hS (w_free (hDD s0 s1 h1 s2 h2 s3 s4 h4 s5 s6 s7 s8 s9 t9) hS hA hm_17) (fun H locs hP1 hk hS => ?_)
    have hP := w_joins (ws' := wX7o E a0 a1 a2 a3 a4 a5 a6 a7 a8 a9 s0 ++ (wX2 E a1 q17.2 h1 ++ (wX2 E a2 s2 h2 ++ (wX1 E a3 s3 ++ (wX2 E a4 s4 h4 ++ (wX1 E a5 s5 ++ (wX5 E a6 s6 ++ (wX3 E a7 s7 ++ (wX0 E a8 s8 ++ (wX6 E a9 s9 t9)))))))))) (wc := wX2 E a1 s1 h1) (wc' := wX2 E a1 q17.2 h1) hP (hDD s0 s1 h1 s2 h2 s3 s4 h4 s5 s6 s7 s8 s9 t9) [1, 2, 3, 4, 5, 6, 7] rfl [none, some 0, some 1, some 2, some 3, some 4, some 5, some 6, none, none, none, none, none, none, none, none, none, none, none, none, none, none, none, none, none, none, none, none, none, none, none, none, none, none, none, none, none, none, none, none, none, none, none, none, none, none, none, none, none, none] rfl rfl hk hP1
    have e9 := Option.some.inj hf
    exact rt_i hx hb hr hlocks (fst_e e9) (rtP (P := fun z => va_P E.1 vwCl ((wX7o E a0 a1 a2 a3 a4 a5 a6 a7 a8 a9 s0 ++ (wX2 E a1 z.2 h1 ++ (wX2 E a2 s2 h2 ++ (wX1 E a3 s3 ++ (wX2 E a4 s4 h4 ++ (wX1 E a5 s5 ++ (wX5 E a6 s6 ++ (wX3 E a7 s7 ++ (wX0 E a8 s8 ++ (wX6 E a9 s9 t9)))))))))) ++ sW E.2.1 L) H) e9 hP) hS dX7_put_20
  · have hf := ite_t c_7 hf
    refine lv_bipush (v := (-3)) hx hb dX7_put_10 (by decide) ?_
    have e9 := Option.some.inj hf
    exact rt_i hx hb hr hlocks (fst_e e9) (rtP (P := fun z => va_P E.1 vwCl ((wX7o E a0 a1 a2 a3 a4 a5 a6 a7 a8 a9 s0 ++ (wX2 E a1 z.2 h1 ++ (wX2 E a2 s2 h2 ++ (wX1 E a3 s3 ++ (wX2 E a4 s4 h4 ++ (wX1 E a5 s5 ++ (wX5 E a6 s6 ++ (wX3 E a7 s7 ++ (wX0 E a8 s8 ++ (wX6 E a9 s9 t9)))))))))) ++ sW E.2.1 L) s.heap) e9 hP) hS dX7_put_12
abbrev rm_X7_feed : Room := { frames := 1, cells := 0, slots := 0, locals := 22 }
theorem m_X7_feed_d00ad8 : Cond.fieldLink RX7 37 "PickedMatch" "reader" "LPickedMatch$StreetReader;" ∈ wsX7_feed := by decide +kernel
theorem i_X7_feed_X7 : ∀ w ∈ wsX70, w ∈ wsX7_feed := fun _ h => List.mem_cons_of_mem _ (List.mem_append_left _ (List.mem_append_right _ h))
theorem i_X7_feed_X5 : ∀ w ∈ wsX50, w ∈ wsX7_feed := fun _ h => List.mem_cons_of_mem _ (List.mem_append_right _ h)
theorem m_X7_feed_ba2631 : Cond.initialized RX5 ∈ wsX7_feed := by decide +kernel
theorem m_X7_feed_fc85eb : Cond.instanceMethod yX5_addSign ∈ wsX7_feed := by decide +kernel
theorem m_X7_feed_d1b99c : Cond.selects RX5 yX5_addSign yX5_addSign ∈ wsX7_feed := by decide +kernel
set_option maxHeartbeats 8000000 in
set_option maxRecDepth 100000 in
theorem k_X7_feed (l : Launch) (E : Ev) (a0 : Nat → Nat) (a1 : Nat → Nat) (a2 : Nat → Nat) (a3 : Nat → Nat) (a4 : Nat → Nat) (a5 : Nat → Nat) (a6 : Nat → Nat) (a7 : Nat → Nat) (a8 : Nat → Nat) (a9 : Nat → Nat) (L : List SR) (N : Nat) (s0 : St) (s1 : St) (h1 : Option SR) (s2 : St) (h2 : Option SR) (s3 : St) (s4 : St) (h4 : Option SR) (s5 : St) (s6 : St) (s7 : St) (s8 : St) (s9 : St) (t9 : Nat → Nat → Int64) (p1 : Int32) (q : (Int32 × St)) (hf : f_X7_feed N s6 p1 = some q) : Ci l yX7_feed wsX7_feed rm_X7_feed E [.ref (a0 0), .int p1] ((wX7o E a0 a1 a2 a3 a4 a5 a6 a7 a8 a9 s0 ++ (wX2 E a1 s1 h1 ++ (wX2 E a2 s2 h2 ++ (wX1 E a3 s3 ++ (wX2 E a4 s4 h4 ++ (wX1 E a5 s5 ++ (wX5 E a6 s6 ++ (wX3 E a7 s7 ++ (wX0 E a8 s8 ++ (wX6 E a9 s9 t9)))))))))) ++ sW E.2.1 L) ((wX7o E a0 a1 a2 a3 a4 a5 a6 a7 a8 a9 s0 ++ (wX2 E a1 s1 h1 ++ (wX2 E a2 s2 h2 ++ (wX1 E a3 s3 ++ (wX2 E a4 s4 h4 ++ (wX1 E a5 s5 ++ (wX5 E a6 q.2 ++ (wX3 E a7 s7 ++ (wX0 E a8 s8 ++ (wX6 E a9 s9 t9)))))))))) ++ sW E.2.1 L) q.1 := by
  unfold f_X7_feed at hf
  intro sz
  refine Met.ofW (cc := cX7_feed) (maxL := 2) (ret := (some .int)) (by decide) rfl ?_
  intro p e s m args below meth c s₁ B hml hpre
  obtain ⟨rfl, hsz, hP, hK, hD0, hG, hA, hAB⟩ := start hpre
  have hx := B.exec
  have hb := B.bytes
  have hr := B.returns
  have hts := atoms_spec (ws := wsX7_feed) B.pre
  have hown : s.vm.findClass RX7 = some m.cls := findClass_of_methodNamed B.named
  have hlocks := B.notSynchronized
  subst hsz
  generalize va_A ((wX7o E a0 a1 a2 a3 a4 a5 a6 a7 a8 a9 s0 ++ (wX2 E a1 s1 h1 ++ (wX2 E a2 s2 h2 ++ (wX1 E a3 s3 ++ (wX2 E a4 s4 h4 ++ (wX1 E a5 s5 ++ (wX5 E a6 s6 ++ (wX3 E a7 s7 ++ (wX0 E a8 s8 ++ (wX6 E a9 s9 t9)))))))))) ++ sW E.2.1 L) s.heap.size = A0 at hD0 hA hAB ⊢
  have hDD : ∀ (s0 : St) (s1 : St) (h1 : Option SR) (s2 : St) (h2 : Option SR) (s3 : St) (s4 : St) (h4 : Option SR) (s5 : St) (s6 : St) (s7 : St) (s8 : St) (s9 : St) (t9 : Nat → Nat → Int64), va_D A0 ((wX7o E a0 a1 a2 a3 a4 a5 a6 a7 a8 a9 s0 ++ (wX2 E a1 s1 h1 ++ (wX2 E a2 s2 h2 ++ (wX1 E a3 s3 ++ (wX2 E a4 s4 h4 ++ (wX1 E a5 s5 ++ (wX5 E a6 s6 ++ (wX3 E a7 s7 ++ (wX0 E a8 s8 ++ (wX6 E a9 s9 t9)))))))))) ++ sW E.2.1 L) := fun s0 s1 h1 s2 h2 s3 s4 h4 s5 s6 s7 s8 s9 t9 => vD_addr hD0 rfl
  have hS : va_S A0 s.heap s.heap [] := va_S.rf
  have hl := lv_entry ([.ref (a0 0), .int p1]) (n := 2) (Nat.le_of_ble_eq_true rfl)
  rw [lg_entry_eq]
  generalize (lg_sl ([.ref (a0 0), .int p1]) ++ List.replicate (2 - (lg_sl ([.ref (a0 0), .int p1])).length) Slot.unset).toArray = ls at hl ⊢
  have hl : lv_has ls 2 [(0, .ref (a0 0)), (1, .int p1)] := hl
  refine lv_iload_n hx hb dX7_feed_0 rfl (lv_at hl 1 rfl) ?_
  refine lv_iconst (v := 0) hx hb dX7_feed_1 (by decide) ?_
  refine lv_bipush (v := 127) hx hb dX7_feed_2 (by decide) ?_
  obtain ⟨q4, hc_4, hf⟩ := cl_e hf
  refine fin_i (E := E) (wc := ([] : va_W)) (wc' := ([] : va_W)) (va_runS (As := [.int p1, .int 0, .int 127]) (rest := []) ⟨hx, hb, hml, hown, hts⟩ (k_X7_isWithin l E N p1 0 127 q4 hc_4 _) (va_cwS 3 hts gX7_feed_X7_isWithin rfl rfl rfl (by decide +kernel) ⟨(Nat.le_of_ble_eq_true rfl), (Nat.le_of_ble_eq_true rfl)⟩) (pre_s hK va_P_nil va_D_nil hS hG hAB) rfl rfl hl.1 rfl (lv_room (Nat.le_of_ble_eq_true rfl)) dX7_feed_4 ⟨Nat.zero_le _, Nat.zero_le _⟩) hS (free_nil hS hA) (fun H locs hP1 hk hS => ?_)
  have hP := w_kept0 hP hk
  refine lv_if_ne (tgt := 13) hx hb dX7_feed_7 (by decide) (fun c_7 => ?_) (fun c_7 => ?_)
  · have hf := ite_f c_7 hf
    refine lv_aload_n hx hb dX7_feed_13 rfl (lv_at hl 0 rfl) ?_
    refine va_get (ci := 7) (C := RX7) (T := TX7) (N := 11) (v := .ref (a6 0)) hx hb hts i_X7_feed_X7 hown hK hP 0 rfl rfl 6 (by decide) (hts _ m_X7_feed_d00ad8) (fun _ h9 => h9) rfl dX7_feed_14 ?_
    refine va_getN (ci := 5) (C := RX5) (T := TX5) (N := 8) (v := .int (s6 1 0)) hx hb hts i_X7_feed_X5 hown hK hP 38 rfl rfl 1 (by decide) (nwG hG (w := .fieldLinkNest "PickedMatch" 115 "PickedMatch$StreetReader" "length" "I" "PickedMatch") (by decide +kernel)) (fun _ h9 => h9) rfl dX7_feed_17 ?_
    refine lv_bipush (v := 100) hx hb dX7_feed_20 (by decide) ?_
    refine lv_icmp_lt (tgt := 28) hx hb dX7_feed_22 (by decide) (fun c_22 => ?_) (fun c_22 => ?_)
    · have hf := ite_t c_22 hf
      refine lv_aload_n hx hb dX7_feed_28 rfl (lv_at hl 0 rfl) ?_
      refine va_get (ci := 7) (C := RX7) (T := TX7) (N := 11) (v := .ref (a6 0)) hx hb hts i_X7_feed_X7 hown hK hP 0 rfl rfl 6 (by decide) (hts _ m_X7_feed_d00ad8) (fun _ h9 => h9) rfl dX7_feed_29 ?_
      refine lv_iload_n hx hb dX7_feed_32 rfl (lv_at hl 1 rfl) ?_
      obtain ⟨q33, hc_33, hf⟩ := cl_e hf
      have hm_33 : ∀ q ∈ wX5 E a6 s6, q ∈ (wX7o E a0 a1 a2 a3 a4 a5 a6 a7 a8 a9 s0 ++ (wX2 E a1 s1 h1 ++ (wX2 E a2 s2 h2 ++ (wX1 E a3 s3 ++ (wX2 E a4 s4 h4 ++ (wX1 E a5 s5 ++ (wX5 E a6 s6 ++ (wX3 E a7 s7 ++ (wX0 E a8 s8 ++ (wX6 E a9 s9 t9)))))))))) ++ sW E.2.1 L := (inl_mem (sub_mem (suf := []) [38, 39, 40] rfl))
      refine fin_i (E := E) (wc := wX5 E a6 s6) (wc' := wX5 E a6 q33.2) (va_runVN (As := [.int p1]) (rest := []) ⟨hx, hb, hml, hown, hts⟩ (k_X5_addSign l E a6 N s6 p1 q33 hc_33 _) ⟨va_cnB 1 hts gX7_feed_X5_addSign_n118 rfl rfl rfl (hG.1 (.methodLinkNest "PickedMatch" 118 yX5_addSign "PickedMatch") (by decide +kernel)) (hts _ m_X7_feed_ba2631) (by decide +kernel) ⟨(Nat.le_of_ble_eq_true rfl), (Nat.le_of_ble_eq_true rfl)⟩, (hts _ m_X7_feed_fc85eb), (hts _ m_X7_feed_d1b99c)⟩ (pre_v (ci := 5) (q0 := 0) hK (sub_P hm_33 hP) (sub_Dn (suf := sW E.2.1 L) [38, 39, 40] (by decide) rfl (hDD s0 s1 h1 s2 h2 s3 s4 h4 s5 s6 s7 s8 s9 t9)) hS hG hAB rfl rfl) rfl rfl hl.1 rfl (lv_room (Nat.le_of_ble_eq_true rfl)) dX7_feed_33 ⟨Nat.zero_le _, Nat.zero_le _⟩) hS (w_free (hDD s0 s1 h1 s2 h2 s3 s4 h4 s5 s6 s7 s8 s9 t9) hS hA hm_33) (fun H locs hP1 hk hS => ?_)
      have hP := w_join (ws' := wX7o E a0 a1 a2 a3 a4 a5 a6 a7 a8 a9 s0 ++ (wX2 E a1 s1 h1 ++ (wX2 E a2 s2 h2 ++ (wX1 E a3 s3 ++ (wX2 E a4 s4 h4 ++ (wX1 E a5 s5 ++ (wX5 E a6 q33.2 ++ (wX3 E a7 s7 ++ (wX0 E a8 s8 ++ (wX6 E a9 s9 t9)))))))))) hP (hDD s0 s1 h1 s2 h2 s3 s4 h4 s5 s6 s7 s8 s9 t9) [38, 39, 40] rfl [none, none, none, none, none, none, none, none, none, none, none, none, none, none, none, none, none, none, none, none, none, none, none, none, none, none, none, none, none, none, none, none, none, none, none, none, none, none, some 0, some 1, some 2, none, none, none, none, none, none, none, none, none] rfl rfl hk hP1
      have e9 := Option.some.inj hf
      exact rt_i hx hb hr hlocks (fst_e e9) (rtP (P := fun z => va_P E.1 vwCl ((wX7o E a0 a1 a2 a3 a4 a5 a6 a7 a8 a9 s0 ++ (wX2 E a1 s1 h1 ++ (wX2 E a2 s2 h2 ++ (wX1 E a3 s3 ++ (wX2 E a4 s4 h4 ++ (wX1 E a5 s5 ++ (wX5 E a6 z.2 ++ (wX3 E a7 s7 ++ (wX0 E a8 s8 ++ (wX6 E a9 s9 t9)))))))))) ++ sW E.2.1 L) H) e9 hP) hS dX7_feed_36
    · have hf := ite_f c_22 hf
      refine lv_bipush (v := (-4)) hx hb dX7_feed_25 (by decide) ?_
      have e9 := Option.some.inj hf
      exact rt_i hx hb hr hlocks (fst_e e9) (rtP (P := fun z => va_P E.1 vwCl ((wX7o E a0 a1 a2 a3 a4 a5 a6 a7 a8 a9 s0 ++ (wX2 E a1 s1 h1 ++ (wX2 E a2 s2 h2 ++ (wX1 E a3 s3 ++ (wX2 E a4 s4 h4 ++ (wX1 E a5 s5 ++ (wX5 E a6 z.2 ++ (wX3 E a7 s7 ++ (wX0 E a8 s8 ++ (wX6 E a9 s9 t9)))))))))) ++ sW E.2.1 L) H) e9 hP) hS dX7_feed_27
  · have hf := ite_t c_7 hf
    refine lv_bipush (v := (-2)) hx hb dX7_feed_10 (by decide) ?_
    have e9 := Option.some.inj hf
    exact rt_i hx hb hr hlocks (fst_e e9) (rtP (P := fun z => va_P E.1 vwCl ((wX7o E a0 a1 a2 a3 a4 a5 a6 a7 a8 a9 s0 ++ (wX2 E a1 s1 h1 ++ (wX2 E a2 s2 h2 ++ (wX1 E a3 s3 ++ (wX2 E a4 s4 h4 ++ (wX1 E a5 s5 ++ (wX5 E a6 z.2 ++ (wX3 E a7 s7 ++ (wX0 E a8 s8 ++ (wX6 E a9 s9 t9)))))))))) ++ sW E.2.1 L) H) e9 hP) hS dX7_feed_12
abbrev rm_X7_twinsNow : Room := { frames := 1, cells := 0, slots := 0, locals := 20 }
theorem m_X7_twinsNow_265b14 : Cond.fieldLink RX7 12 "PickedMatch" "scene" "LPickedMatch$Scene;" ∈ wsX7_twinsNow := by decide +kernel
theorem i_X7_twinsNow_X7 : ∀ w ∈ wsX70, w ∈ wsX7_twinsNow := fun _ h => List.mem_cons_of_mem _ (List.mem_append_left _ (List.mem_append_right _ h))
theorem i_X7_twinsNow_X2 : ∀ w ∈ wsX20, w ∈ wsX7_twinsNow := fun _ h => List.mem_cons_of_mem _ (List.mem_append_right _ h)
theorem m_X7_twinsNow_fb798c : Cond.constant RX7 311 (2147483647) ∈ wsX7_twinsNow := by decide +kernel
set_option maxHeartbeats 8000000 in
set_option maxRecDepth 100000 in
theorem k_X7_twinsNow (l : Launch) (E : Ev) (a0 : Nat → Nat) (a1 : Nat → Nat) (a2 : Nat → Nat) (a3 : Nat → Nat) (a4 : Nat → Nat) (a5 : Nat → Nat) (a6 : Nat → Nat) (a7 : Nat → Nat) (a8 : Nat → Nat) (a9 : Nat → Nat) (L : List SR) (N : Nat) (s0 : St) (s1 : St) (h1 : Option SR) (s2 : St) (h2 : Option SR) (s3 : St) (s4 : St) (h4 : Option SR) (s5 : St) (s6 : St) (s7 : St) (s8 : St) (s9 : St) (t9 : Nat → Nat → Int64) (q : (Int32)) (hf : f_X7_twinsNow N s1 = some q) : Ci l yX7_twinsNow wsX7_twinsNow rm_X7_twinsNow E [.ref (a0 0)] ((wX7o E a0 a1 a2 a3 a4 a5 a6 a7 a8 a9 s0 ++ (wX2 E a1 s1 h1 ++ (wX2 E a2 s2 h2 ++ (wX1 E a3 s3 ++ (wX2 E a4 s4 h4 ++ (wX1 E a5 s5 ++ (wX5 E a6 s6 ++ (wX3 E a7 s7 ++ (wX0 E a8 s8 ++ (wX6 E a9 s9 t9)))))))))) ++ sW E.2.1 L) ((wX7o E a0 a1 a2 a3 a4 a5 a6 a7 a8 a9 s0 ++ (wX2 E a1 s1 h1 ++ (wX2 E a2 s2 h2 ++ (wX1 E a3 s3 ++ (wX2 E a4 s4 h4 ++ (wX1 E a5 s5 ++ (wX5 E a6 s6 ++ (wX3 E a7 s7 ++ (wX0 E a8 s8 ++ (wX6 E a9 s9 t9)))))))))) ++ sW E.2.1 L) q := by
  unfold f_X7_twinsNow at hf
  intro sz
  refine Met.ofW (cc := cX7_twinsNow) (maxL := 6) (ret := (some .int)) (by decide) rfl ?_
  intro p e s m args below meth c s₁ B hml hpre
  obtain ⟨rfl, hsz, hP, hK, hD0, hG, hA, hAB⟩ := start hpre
  have hx := B.exec
  have hb := B.bytes
  have hr := B.returns
  have hts := atoms_spec (ws := wsX7_twinsNow) B.pre
  have hown : s.vm.findClass RX7 = some m.cls := findClass_of_methodNamed B.named
  have hlocks := B.notSynchronized
  subst hsz
  generalize va_A ((wX7o E a0 a1 a2 a3 a4 a5 a6 a7 a8 a9 s0 ++ (wX2 E a1 s1 h1 ++ (wX2 E a2 s2 h2 ++ (wX1 E a3 s3 ++ (wX2 E a4 s4 h4 ++ (wX1 E a5 s5 ++ (wX5 E a6 s6 ++ (wX3 E a7 s7 ++ (wX0 E a8 s8 ++ (wX6 E a9 s9 t9)))))))))) ++ sW E.2.1 L) s.heap.size = A0 at hD0 hA hAB ⊢
  have hDD : ∀ (s0 : St) (s1 : St) (h1 : Option SR) (s2 : St) (h2 : Option SR) (s3 : St) (s4 : St) (h4 : Option SR) (s5 : St) (s6 : St) (s7 : St) (s8 : St) (s9 : St) (t9 : Nat → Nat → Int64), va_D A0 ((wX7o E a0 a1 a2 a3 a4 a5 a6 a7 a8 a9 s0 ++ (wX2 E a1 s1 h1 ++ (wX2 E a2 s2 h2 ++ (wX1 E a3 s3 ++ (wX2 E a4 s4 h4 ++ (wX1 E a5 s5 ++ (wX5 E a6 s6 ++ (wX3 E a7 s7 ++ (wX0 E a8 s8 ++ (wX6 E a9 s9 t9)))))))))) ++ sW E.2.1 L) := fun s0 s1 h1 s2 h2 s3 s4 h4 s5 s6 s7 s8 s9 t9 => vD_addr hD0 rfl
  have hS : va_S A0 s.heap s.heap [] := va_S.rf
  have hl := lv_entry ([.ref (a0 0)]) (n := 6) (Nat.le_of_ble_eq_true rfl)
  rw [lg_entry_eq]
  generalize (lg_sl ([.ref (a0 0)]) ++ List.replicate (6 - (lg_sl ([.ref (a0 0)])).length) Slot.unset).toArray = ls at hl ⊢
  have hl : lv_has ls 6 [(0, .ref (a0 0))] := hl
  have hL_9 : ∀ (s1 : St) (n_9 : Nat) (v1 : Int32) (v2 : Int32) (v3 : Int32), l_X7_twinsNow_9 N s1 n_9 v1 v2 v3 = some q → ∀ (H : Heap) (locs : List Loc) (ls : Array Slot), va_P E.1 vwCl ((wX7o E a0 a1 a2 a3 a4 a5 a6 a7 a8 a9 s0 ++ (wX2 E a1 s1 h1 ++ (wX2 E a2 s2 h2 ++ (wX1 E a3 s3 ++ (wX2 E a4 s4 h4 ++ (wX1 E a5 s5 ++ (wX5 E a6 s6 ++ (wX3 E a7 s7 ++ (wX0 E a8 s8 ++ (wX6 E a9 s9 t9)))))))))) ++ sW E.2.1 L) H → va_S A0 s.heap H locs → lv_has ls 6 [(0, .ref (a0 0)), (1, .int v1), (2, .int v2), (3, .int v3)] → W p l e rm_X7_twinsNow s m ([.ref (a0 0)] : List Value).toArray below meth c H locs 0 0 (MQ below (va_Qi (fun (r' : Int32) (_ : Unit) => r' = q) (fun _ t => va_P E.1 vwCl ((wX7o E a0 a1 a2 a3 a4 a5 a6 a7 a8 a9 s0 ++ (wX2 E a1 s1 h1 ++ (wX2 E a2 s2 h2 ++ (wX1 E a3 s3 ++ (wX2 E a4 s4 h4 ++ (wX1 E a5 s5 ++ (wX5 E a6 s6 ++ (wX3 E a7 s7 ++ (wX0 E a8 s8 ++ (wX6 E a9 s9 t9)))))))))) ++ sW E.2.1 L) t.heap) A0) ([.ref (a0 0)] : List Value).toArray s 0 0 A0) (F0 m 9 ls []) := by
    intro s1 n_9
    induction n_9 with
    | zero => intro v1 v2 v3 hf; rw [l_X7_twinsNow_9] at hf; cases hf
    | succ n_9 ih_9 =>
      intro v1 v2 v3 hf H locs ls hP hS hl
      rw [l_X7_twinsNow_9] at hf
      have hL_25 : ∀ (v3 : Int32) (n_25 : Nat) (v1 : Int32) (v2 : Int32) (v4 : Int32), l_X7_twinsNow_25 N (l_X7_twinsNow_9 N s1 n_9) s1 v3 n_25 v1 v2 v4 = some q → ∀ (H : Heap) (locs : List Loc) (ls : Array Slot), va_P E.1 vwCl ((wX7o E a0 a1 a2 a3 a4 a5 a6 a7 a8 a9 s0 ++ (wX2 E a1 s1 h1 ++ (wX2 E a2 s2 h2 ++ (wX1 E a3 s3 ++ (wX2 E a4 s4 h4 ++ (wX1 E a5 s5 ++ (wX5 E a6 s6 ++ (wX3 E a7 s7 ++ (wX0 E a8 s8 ++ (wX6 E a9 s9 t9)))))))))) ++ sW E.2.1 L) H → va_S A0 s.heap H locs → lv_has ls 6 [(0, .ref (a0 0)), (1, .int v1), (2, .int v2), (3, .int v3), (4, .int v4)] → W p l e rm_X7_twinsNow s m ([.ref (a0 0)] : List Value).toArray below meth c H locs 0 0 (MQ below (va_Qi (fun (r' : Int32) (_ : Unit) => r' = q) (fun _ t => va_P E.1 vwCl ((wX7o E a0 a1 a2 a3 a4 a5 a6 a7 a8 a9 s0 ++ (wX2 E a1 s1 h1 ++ (wX2 E a2 s2 h2 ++ (wX1 E a3 s3 ++ (wX2 E a4 s4 h4 ++ (wX1 E a5 s5 ++ (wX5 E a6 s6 ++ (wX3 E a7 s7 ++ (wX0 E a8 s8 ++ (wX6 E a9 s9 t9)))))))))) ++ sW E.2.1 L) t.heap) A0) ([.ref (a0 0)] : List Value).toArray s 0 0 A0) (F0 m 25 ls []) := by
        intro v3 n_25
        induction n_25 with
        | zero => intro v1 v2 v4 hf; rw [l_X7_twinsNow_25] at hf; cases hf
        | succ n_25 ih_25 =>
          intro v1 v2 v4 hf H locs ls hP hS hl
          rw [l_X7_twinsNow_25] at hf
          refine lv_iload hx hb dX7_twinsNow_25 (lv_at hl 4 rfl) ?_
          refine lv_aload_n hx hb dX7_twinsNow_27 rfl (lv_at hl 0 rfl) ?_
          refine va_get (ci := 7) (C := RX7) (T := TX7) (N := 11) (v := .ref (a1 0)) hx hb hts i_X7_twinsNow_X7 hown hK hP 0 rfl rfl 0 (by decide) (hts _ m_X7_twinsNow_265b14) (fun _ h9 => h9) rfl dX7_twinsNow_28 ?_
          refine va_getN (ci := 2) (C := RX2) (T := TX2) (N := 11) (v := .int (s1 0 0)) hx hb hts i_X7_twinsNow_X2 hown hK hP 1 rfl rfl 0 (by decide) (nwG hG (w := .fieldLinkNest "PickedMatch" 66 "PickedMatch$Scene" "things" "I" "PickedMatch") (by decide +kernel)) (fun _ h9 => h9) rfl dX7_twinsNow_31 ?_
          refine lv_icmp_ge (tgt := 85) hx hb dX7_twinsNow_34 (by decide) (fun c_34 => ?_) (fun c_34 => ?_)
          · have hf := ite_t c_34 hf
            obtain ⟨x85, e_x85⟩ : ∃ y : Int32, y = v3 + 1 := ⟨_, rfl⟩
            have hf := nm_q e_x85 hf
            refine lv_iinc (v := x85) (lv' := [(3, .int x85), (0, .ref (a0 0)), (1, .int v1), (2, .int v2), (4, .int v4)]) hx hb dX7_twinsNow_85 hl (k := 3) rfl (by rw [e_x85]; rfl) (Nat.le_of_ble_eq_true rfl) rfl (fun ls hl => ?_)
            refine lv_goto (tgt := 9) hx hb dX7_twinsNow_88 (by decide) ?_
            exact ih_9 v1 v2 x85 hf _ _ _ hP hS (lv_sub hl [1, 2, 3, 0] rfl)
          · have hf := ite_f c_34 hf
            refine lv_aload_n hx hb dX7_twinsNow_37 rfl (lv_at hl 0 rfl) ?_
            refine va_get (ci := 7) (C := RX7) (T := TX7) (N := 11) (v := .ref (a1 0)) hx hb hts i_X7_twinsNow_X7 hown hK hP 0 rfl rfl 0 (by decide) (hts _ m_X7_twinsNow_265b14) (fun _ h9 => h9) rfl dX7_twinsNow_38 ?_
            refine va_getN (ci := 2) (C := RX2) (T := TX2) (N := 11) (v := .ref (a1 3)) hx hb hts i_X7_twinsNow_X2 hown hK hP 1 rfl rfl 3 (by decide) (nwG hG (w := .fieldLinkNest "PickedMatch" 85 "PickedMatch$Scene" "marks" "[I" "PickedMatch") (by decide +kernel)) (fun _ h9 => h9) rfl dX7_twinsNow_41 ?_
            refine lv_iload_n hx hb dX7_twinsNow_44 rfl (lv_at hl 3 rfl) ?_
            obtain ⟨h_45, hf⟩ := ck_e hf
            refine va_iald (cA := E.2.1) (n := 6) (f := s1 3) hx hb hK hP 4 0 rfl rfl h_45 dX7_twinsNow_45 ?_
            refine lv_aload_n hx hb dX7_twinsNow_46 rfl (lv_at hl 0 rfl) ?_
            refine va_get (ci := 7) (C := RX7) (T := TX7) (N := 11) (v := .ref (a1 0)) hx hb hts i_X7_twinsNow_X7 hown hK hP 0 rfl rfl 0 (by decide) (hts _ m_X7_twinsNow_265b14) (fun _ h9 => h9) rfl dX7_twinsNow_47 ?_
            refine va_getN (ci := 2) (C := RX2) (T := TX2) (N := 11) (v := .ref (a1 3)) hx hb hts i_X7_twinsNow_X2 hown hK hP 1 rfl rfl 3 (by decide) (nwG hG (w := .fieldLinkNest "PickedMatch" 85 "PickedMatch$Scene" "marks" "[I" "PickedMatch") (by decide +kernel)) (fun _ h9 => h9) rfl dX7_twinsNow_50 ?_
            refine lv_iload hx hb dX7_twinsNow_53 (lv_at hl 4 rfl) ?_
            obtain ⟨h_55, hf⟩ := ck_e hf
            refine va_iald (cA := E.2.1) (n := 6) (f := s1 3) hx hb hK hP 4 0 rfl rfl h_55 dX7_twinsNow_55 ?_
            refine lv_ixor hx hb dX7_twinsNow_56 ?_
            obtain ⟨q57, hc_57, hf⟩ := cl_e hf
            refine fin_i (E := E) (wc := ([] : va_W)) (wc' := ([] : va_W)) (va_runS (As := [.int ((s1 3 v3.toNatClampNeg) ^^^ (s1 3 v4.toNatClampNeg))]) (rest := []) ⟨hx, hb, hml, hown, hts⟩ (k_J6_bitCount_0f7a4 l E N ((s1 3 v3.toNatClampNeg) ^^^ (s1 3 v4.toNatClampNeg)) q57 hc_57 _) (va_cwS 1 hts gX7_twinsNow_J6_bitCount_0f7a4 rfl rfl rfl (by decide +kernel) ⟨(Nat.le_of_ble_eq_true rfl), (Nat.le_of_ble_eq_true rfl)⟩) (pre_s hK va_P_nil va_D_nil hS hG hAB) rfl rfl hl.1 rfl (lv_room (Nat.le_of_ble_eq_true rfl)) dX7_twinsNow_57 ⟨Nat.zero_le _, Nat.zero_le _⟩) hS (free_nil hS hA) (fun H locs hP1 hk hS => ?_)
            have hP := w_kept0 hP hk
            refine lv_istore (lv' := [(5, .int q57), (0, .ref (a0 0)), (1, .int v1), (2, .int v2), (3, .int v3), (4, .int v4)]) hx hb dX7_twinsNow_60 hl (Nat.le_of_ble_eq_true rfl) rfl (fun ls hl => ?_)
            refine lv_iload hx hb dX7_twinsNow_62 (lv_at hl 0 rfl) ?_
            refine lv_iload_n hx hb dX7_twinsNow_64 rfl (lv_at hl 3 rfl) ?_
            refine lv_icmp_ge (tgt := 79) hx hb dX7_twinsNow_65 (by decide) (fun c_65 => ?_) (fun c_65 => ?_)
            · have hf := ite_t c_65 hf
              obtain ⟨x79, e_x79⟩ : ∃ y : Int32, y = v4 + 1 := ⟨_, rfl⟩
              have hf := nm_q e_x79 hf
              refine lv_iinc (v := x79) (lv' := [(4, .int x79), (5, .int q57), (0, .ref (a0 0)), (1, .int v1), (2, .int v2), (3, .int v3)]) hx hb dX7_twinsNow_79 hl (k := 5) rfl (by rw [e_x79]; rfl) (Nat.le_of_ble_eq_true rfl) rfl (fun ls hl => ?_)
              refine lv_goto (tgt := 25) hx hb dX7_twinsNow_82 (by decide) ?_
              exact ih_25 v1 v2 x79 hf _ _ _ hP hS (lv_sub hl [2, 3, 4, 5, 0] rfl)
            · have hf := ite_f c_65 hf
              refine lv_iload hx hb dX7_twinsNow_68 (lv_at hl 0 rfl) ?_
              refine lv_istore_n (lv' := [(2, .int q57), (5, .int q57), (0, .ref (a0 0)), (1, .int v1), (3, .int v3), (4, .int v4)]) hx hb dX7_twinsNow_70 rfl hl (Nat.le_of_ble_eq_true rfl) rfl (fun ls hl => ?_)
              refine lv_bipush (v := 10) hx hb dX7_twinsNow_71 (by decide) ?_
              refine lv_iload_n hx hb dX7_twinsNow_73 rfl (lv_at hl 4 rfl) ?_
              refine lv_imul hx hb dX7_twinsNow_74 ?_
              refine lv_iload hx hb dX7_twinsNow_75 (lv_at hl 5 rfl) ?_
              refine lv_iadd hx hb dX7_twinsNow_77 ?_
              refine lv_topi (fun x78 e_x78 => ?_)
              have hf := nm_q e_x78 hf
              refine lv_istore_n (lv' := [(1, .int x78), (2, .int q57), (5, .int q57), (0, .ref (a0 0)), (3, .int v3), (4, .int v4)]) hx hb dX7_twinsNow_78 rfl hl (Nat.le_of_ble_eq_true rfl) rfl (fun ls hl => ?_)
              obtain ⟨x79, e_x79⟩ : ∃ y : Int32, y = v4 + 1 := ⟨_, rfl⟩
              have hf := nm_q e_x79 hf
              refine lv_iinc (v := x79) (lv' := [(4, .int x79), (1, .int x78), (2, .int q57), (5, .int q57), (0, .ref (a0 0)), (3, .int v3)]) hx hb dX7_twinsNow_79 hl (k := 5) rfl (by rw [e_x79]; rfl) (Nat.le_of_ble_eq_true rfl) rfl (fun ls hl => ?_)
              refine lv_goto (tgt := 25) hx hb dX7_twinsNow_82 (by decide) ?_
              exact ih_25 x78 q57 x79 hf _ _ _ hP hS (lv_sub hl [4, 1, 2, 5, 0] rfl)
      refine lv_iload_n hx hb dX7_twinsNow_9 rfl (lv_at hl 3 rfl) ?_
      refine lv_aload_n hx hb dX7_twinsNow_10 rfl (lv_at hl 0 rfl) ?_
      refine va_get (ci := 7) (C := RX7) (T := TX7) (N := 11) (v := .ref (a1 0)) hx hb hts i_X7_twinsNow_X7 hown hK hP 0 rfl rfl 0 (by decide) (hts _ m_X7_twinsNow_265b14) (fun _ h9 => h9) rfl dX7_twinsNow_11 ?_
      refine va_getN (ci := 2) (C := RX2) (T := TX2) (N := 11) (v := .int (s1 0 0)) hx hb hts i_X7_twinsNow_X2 hown hK hP 1 rfl rfl 0 (by decide) (nwG hG (w := .fieldLinkNest "PickedMatch" 66 "PickedMatch$Scene" "things" "I" "PickedMatch") (by decide +kernel)) (fun _ h9 => h9) rfl dX7_twinsNow_14 ?_
      refine lv_icmp_ge (tgt := 91) hx hb dX7_twinsNow_17 (by decide) (fun c_17 => ?_) (fun c_17 => ?_)
      · have hf := ite_t c_17 hf
        refine lv_iload_n hx hb dX7_twinsNow_91 rfl (lv_at hl 1 rfl) ?_
        have e9 := Option.some.inj hf
        exact rt_i hx hb hr hlocks e9 hP hS dX7_twinsNow_92
      · have hf := ite_f c_17 hf
        refine lv_iload_n hx hb dX7_twinsNow_20 rfl (lv_at hl 3 rfl) ?_
        refine lv_iconst (v := 1) hx hb dX7_twinsNow_21 (by decide) ?_
        refine lv_iadd hx hb dX7_twinsNow_22 ?_
        refine lv_topi (fun x23 e_x23 => ?_)
        have hf := nm_q e_x23 hf
        refine lv_istore (lv' := [(4, .int x23), (0, .ref (a0 0)), (1, .int v1), (2, .int v2), (3, .int v3)]) hx hb dX7_twinsNow_23 hl (Nat.le_of_ble_eq_true rfl) rfl (fun ls hl => ?_)
        exact hL_25 v3 N v1 v2 x23 hf _ _ _ hP hS (lv_sub hl [1, 2, 3, 4, 0] rfl)
  refine lv_bipush (v := (-5)) hx hb dX7_twinsNow_0 (by decide) ?_
  refine lv_topi (fun x2 e_x2 => ?_)
  have hf := nm_q e_x2 hf
  refine lv_istore_n (lv' := [(1, .int x2), (0, .ref (a0 0))]) hx hb dX7_twinsNow_2 rfl hl (Nat.le_of_ble_eq_true rfl) rfl (fun ls hl => ?_)
  refine lv_ldcw (v := 2147483647) hx hb hown (hts _ m_X7_twinsNow_fb798c) dX7_twinsNow_3 ?_
  refine lv_istore_n (lv' := [(2, .int 2147483647), (1, .int x2), (0, .ref (a0 0))]) hx hb dX7_twinsNow_6 rfl hl (Nat.le_of_ble_eq_true rfl) rfl (fun ls hl => ?_)
  refine lv_iconst (v := 0) hx hb dX7_twinsNow_7 (by decide) ?_
  refine lv_istore_n (lv' := [(3, .int 0), (2, .int 2147483647), (1, .int x2), (0, .ref (a0 0))]) hx hb dX7_twinsNow_8 rfl hl (Nat.le_of_ble_eq_true rfl) rfl (fun ls hl => ?_)
  exact hL_9 s1 N x2 2147483647 0 hf _ _ _ hP hS (lv_sub hl [3, 2, 1, 0] rfl)
abbrev rm_X7_coverNow : Room := { frames := 1, cells := 0, slots := 0, locals := 23 }
theorem m_X7_coverNow_265b14 : Cond.fieldLink RX7 12 "PickedMatch" "scene" "LPickedMatch$Scene;" ∈ wsX7_coverNow := by decide +kernel
theorem i_X7_coverNow_X7 : ∀ w ∈ wsX70, w ∈ wsX7_coverNow := fun _ h => List.mem_cons_of_mem _ (List.mem_append_left _ (List.mem_append_right _ h))
theorem m_X7_coverNow_4cf9d8 : Cond.initialized RX2 ∈ wsX7_coverNow := by decide +kernel
theorem m_X7_coverNow_b0e80c : Cond.instanceMethod yX2_marksOf ∈ wsX7_coverNow := by decide +kernel
theorem m_X7_coverNow_f506b3 : Cond.selects RX2 yX2_marksOf yX2_marksOf ∈ wsX7_coverNow := by decide +kernel
theorem i_X7_coverNow_X2 : ∀ w ∈ wsX20, w ∈ wsX7_coverNow := fun _ h => List.mem_cons_of_mem _ (List.mem_append_right _ h)
set_option maxHeartbeats 8000000 in
set_option maxRecDepth 100000 in
theorem k_X7_coverNow (l : Launch) (E : Ev) (a0 : Nat → Nat) (a1 : Nat → Nat) (a2 : Nat → Nat) (a3 : Nat → Nat) (a4 : Nat → Nat) (a5 : Nat → Nat) (a6 : Nat → Nat) (a7 : Nat → Nat) (a8 : Nat → Nat) (a9 : Nat → Nat) (L : List SR) (N : Nat) (s0 : St) (s1 : St) (h1 : Option SR) (s2 : St) (h2 : Option SR) (s3 : St) (s4 : St) (h4 : Option SR) (s5 : St) (s6 : St) (s7 : St) (s8 : St) (s9 : St) (t9 : Nat → Nat → Int64) (q : (Int32)) (hf : f_X7_coverNow N s1 = some q) : Ci l yX7_coverNow wsX7_coverNow rm_X7_coverNow E [.ref (a0 0)] ((wX7o E a0 a1 a2 a3 a4 a5 a6 a7 a8 a9 s0 ++ (wX2 E a1 s1 h1 ++ (wX2 E a2 s2 h2 ++ (wX1 E a3 s3 ++ (wX2 E a4 s4 h4 ++ (wX1 E a5 s5 ++ (wX5 E a6 s6 ++ (wX3 E a7 s7 ++ (wX0 E a8 s8 ++ (wX6 E a9 s9 t9)))))))))) ++ sW E.2.1 L) ((wX7o E a0 a1 a2 a3 a4 a5 a6 a7 a8 a9 s0 ++ (wX2 E a1 s1 h1 ++ (wX2 E a2 s2 h2 ++ (wX1 E a3 s3 ++ (wX2 E a4 s4 h4 ++ (wX1 E a5 s5 ++ (wX5 E a6 s6 ++ (wX3 E a7 s7 ++ (wX0 E a8 s8 ++ (wX6 E a9 s9 t9)))))))))) ++ sW E.2.1 L) q := by
  unfold f_X7_coverNow at hf
  intro sz
  refine Met.ofW (cc := cX7_coverNow) (maxL := 6) (ret := (some .int)) (by decide) rfl ?_
  intro p e s m args below meth c s₁ B hml hpre
  obtain ⟨rfl, hsz, hP, hK, hD0, hG, hA, hAB⟩ := start hpre
  have hx := B.exec
  have hb := B.bytes
  have hr := B.returns
  have hts := atoms_spec (ws := wsX7_coverNow) B.pre
  have hown : s.vm.findClass RX7 = some m.cls := findClass_of_methodNamed B.named
  have hlocks := B.notSynchronized
  subst hsz
  generalize va_A ((wX7o E a0 a1 a2 a3 a4 a5 a6 a7 a8 a9 s0 ++ (wX2 E a1 s1 h1 ++ (wX2 E a2 s2 h2 ++ (wX1 E a3 s3 ++ (wX2 E a4 s4 h4 ++ (wX1 E a5 s5 ++ (wX5 E a6 s6 ++ (wX3 E a7 s7 ++ (wX0 E a8 s8 ++ (wX6 E a9 s9 t9)))))))))) ++ sW E.2.1 L) s.heap.size = A0 at hD0 hA hAB ⊢
  have hDD : ∀ (s0 : St) (s1 : St) (h1 : Option SR) (s2 : St) (h2 : Option SR) (s3 : St) (s4 : St) (h4 : Option SR) (s5 : St) (s6 : St) (s7 : St) (s8 : St) (s9 : St) (t9 : Nat → Nat → Int64), va_D A0 ((wX7o E a0 a1 a2 a3 a4 a5 a6 a7 a8 a9 s0 ++ (wX2 E a1 s1 h1 ++ (wX2 E a2 s2 h2 ++ (wX1 E a3 s3 ++ (wX2 E a4 s4 h4 ++ (wX1 E a5 s5 ++ (wX5 E a6 s6 ++ (wX3 E a7 s7 ++ (wX0 E a8 s8 ++ (wX6 E a9 s9 t9)))))))))) ++ sW E.2.1 L) := fun s0 s1 h1 s2 h2 s3 s4 h4 s5 s6 s7 s8 s9 t9 => vD_addr hD0 rfl
  have hS : va_S A0 s.heap s.heap [] := va_S.rf
  have hl := lv_entry ([.ref (a0 0)]) (n := 6) (Nat.le_of_ble_eq_true rfl)
  rw [lg_entry_eq]
  generalize (lg_sl ([.ref (a0 0)]) ++ List.replicate (6 - (lg_sl ([.ref (a0 0)])).length) Slot.unset).toArray = ls at hl ⊢
  have hl : lv_has ls 6 [(0, .ref (a0 0))] := hl
  have hL_26 : ∀ (s1 : St) (v1 : Int32) (v2 : Int32) (n_26 : Nat) (v3 : Int32) (v4 : Int32), l_X7_coverNow_26 N s1 v1 v2 n_26 v3 v4 = some q → ∀ (H : Heap) (locs : List Loc) (ls : Array Slot), va_P E.1 vwCl ((wX7o E a0 a1 a2 a3 a4 a5 a6 a7 a8 a9 s0 ++ (wX2 E a1 s1 h1 ++ (wX2 E a2 s2 h2 ++ (wX1 E a3 s3 ++ (wX2 E a4 s4 h4 ++ (wX1 E a5 s5 ++ (wX5 E a6 s6 ++ (wX3 E a7 s7 ++ (wX0 E a8 s8 ++ (wX6 E a9 s9 t9)))))))))) ++ sW E.2.1 L) H → va_S A0 s.heap H locs → lv_has ls 6 [(0, .ref (a0 0)), (1, .int v1), (2, .int v2), (3, .int v3), (4, .int v4)] → W p l e rm_X7_coverNow s m ([.ref (a0 0)] : List Value).toArray below meth c H locs 0 0 (MQ below (va_Qi (fun (r' : Int32) (_ : Unit) => r' = q) (fun _ t => va_P E.1 vwCl ((wX7o E a0 a1 a2 a3 a4 a5 a6 a7 a8 a9 s0 ++ (wX2 E a1 s1 h1 ++ (wX2 E a2 s2 h2 ++ (wX1 E a3 s3 ++ (wX2 E a4 s4 h4 ++ (wX1 E a5 s5 ++ (wX5 E a6 s6 ++ (wX3 E a7 s7 ++ (wX0 E a8 s8 ++ (wX6 E a9 s9 t9)))))))))) ++ sW E.2.1 L) t.heap) A0) ([.ref (a0 0)] : List Value).toArray s 0 0 A0) (F0 m 26 ls []) := by
    intro s1 v1 v2 n_26
    induction n_26 with
    | zero => intro v3 v4 hf; rw [l_X7_coverNow_26] at hf; cases hf
    | succ n_26 ih_26 =>
      intro v3 v4 hf H locs ls hP hS hl
      rw [l_X7_coverNow_26] at hf
      have hL_49 : ∀ (v3 : Int32) (v4 : Int32) (y0 : Int32), j_X7_coverNow_49 N (l_X7_coverNow_26 N s1 v1 v2 n_26) s1 v1 v2 v3 v4 y0 = some q → ∀ (H : Heap) (locs : List Loc) (ls : Array Slot), va_P E.1 vwCl ((wX7o E a0 a1 a2 a3 a4 a5 a6 a7 a8 a9 s0 ++ (wX2 E a1 s1 h1 ++ (wX2 E a2 s2 h2 ++ (wX1 E a3 s3 ++ (wX2 E a4 s4 h4 ++ (wX1 E a5 s5 ++ (wX5 E a6 s6 ++ (wX3 E a7 s7 ++ (wX0 E a8 s8 ++ (wX6 E a9 s9 t9)))))))))) ++ sW E.2.1 L) H → va_S A0 s.heap H locs → lv_has ls 6 [(0, .ref (a0 0)), (1, .int v1), (2, .int v2), (3, .int v3), (4, .int v4)] → W p l e rm_X7_coverNow s m ([.ref (a0 0)] : List Value).toArray below meth c H locs 0 0 (MQ below (va_Qi (fun (r' : Int32) (_ : Unit) => r' = q) (fun _ t => va_P E.1 vwCl ((wX7o E a0 a1 a2 a3 a4 a5 a6 a7 a8 a9 s0 ++ (wX2 E a1 s1 h1 ++ (wX2 E a2 s2 h2 ++ (wX1 E a3 s3 ++ (wX2 E a4 s4 h4 ++ (wX1 E a5 s5 ++ (wX5 E a6 s6 ++ (wX3 E a7 s7 ++ (wX0 E a8 s8 ++ (wX6 E a9 s9 t9)))))))))) ++ sW E.2.1 L) t.heap) A0) ([.ref (a0 0)] : List Value).toArray s 0 0 A0) (F0 m 49 ls [.int y0]) := by
        intro v3 v4 y0 hf H locs ls hP hS hl
        unfold j_X7_coverNow_49 at hf
        refine lv_istore (lv' := [(5, .int y0), (0, .ref (a0 0)), (1, .int v1), (2, .int v2), (3, .int v3), (4, .int v4)]) hx hb dX7_coverNow_49 hl (Nat.le_of_ble_eq_true rfl) rfl (fun ls hl => ?_)
        refine lv_iload hx hb dX7_coverNow_51 (lv_at hl 0 rfl) ?_
        refine lv_if_eq (tgt := 72) hx hb dX7_coverNow_53 (by decide) (fun c_53 => ?_) (fun c_53 => ?_)
        · have hf := ite_t c_53 hf
          obtain ⟨x72, e_x72⟩ : ∃ y : Int32, y = v4 + 1 := ⟨_, rfl⟩
          have hf := nm_q e_x72 hf
          refine lv_iinc (v := x72) (lv' := [(4, .int x72), (5, .int y0), (0, .ref (a0 0)), (1, .int v1), (2, .int v2), (3, .int v3)]) hx hb dX7_coverNow_72 hl (k := 5) rfl (by rw [e_x72]; rfl) (Nat.le_of_ble_eq_true rfl) rfl (fun ls hl => ?_)
          refine lv_goto (tgt := 26) hx hb dX7_coverNow_75 (by decide) ?_
          exact ih_26 v3 x72 hf _ _ _ hP hS (lv_sub hl [2, 3, 4, 5, 0] rfl)
        · have hf := ite_f c_53 hf
          refine lv_aload_n hx hb dX7_coverNow_56 rfl (lv_at hl 1 rfl) ?_
          refine va_get (ci := 7) (C := RX7) (T := TX7) (N := 11) (v := .ref (a1 0)) hx hb hts i_X7_coverNow_X7 hown hK hP 0 rfl rfl 0 (by decide) (hts _ m_X7_coverNow_265b14) (fun _ h9 => h9) rfl dX7_coverNow_57 ?_
          refine lv_iload hx hb dX7_coverNow_60 (lv_at hl 5 rfl) ?_
          obtain ⟨q62, hc_62, hf⟩ := cl_e hf
          have hm_62 : ∀ q ∈ (wX2 E a1 s1 h1) ++ sW E.2.1 L, q ∈ (wX7o E a0 a1 a2 a3 a4 a5 a6 a7 a8 a9 s0 ++ (wX2 E a1 s1 h1 ++ (wX2 E a2 s2 h2 ++ (wX1 E a3 s3 ++ (wX2 E a4 s4 h4 ++ (wX1 E a5 s5 ++ (wX5 E a6 s6 ++ (wX3 E a7 s7 ++ (wX0 E a8 s8 ++ (wX6 E a9 s9 t9)))))))))) ++ sW E.2.1 L := (app_mem (sub_mem (suf := []) [1, 2, 3, 4, 5, 6, 7] rfl))
          refine fin_i (E := E) (wc := (wX2 E a1 s1 h1) ++ sW E.2.1 L) (wc' := (wX2 E a1 s1 h1) ++ sW E.2.1 L) (va_runVN (As := [.int v4]) (rest := []) ⟨hx, hb, hml, hown, hts⟩ (k_X2_marksOf l E a1 L N s1 h1 v4 q62 hc_62 _) ⟨va_cnB 1 hts gX7_coverNow_X2_marksOf_n167 rfl rfl rfl (hG.1 (.methodLinkNest "PickedMatch" 167 yX2_marksOf "PickedMatch") (by decide +kernel)) (hts _ m_X7_coverNow_4cf9d8) (by decide +kernel) ⟨(Nat.le_of_ble_eq_true rfl), (Nat.le_of_ble_eq_true rfl)⟩, (hts _ m_X7_coverNow_b0e80c), (hts _ m_X7_coverNow_f506b3)⟩ (pre_v (ci := 2) (q0 := 0) hK (sub_P hm_62 hP) (sub_Ds (wc := wX2 E a1 s1 h1) [1, 2, 3, 4, 5, 6, 7] (by decide) rfl (hDD s0 s1 h1 s2 h2 s3 s4 h4 s5 s6 s7 s8 s9 t9)) hS hG hAB rfl rfl) rfl rfl hl.1 rfl (lv_room (Nat.le_of_ble_eq_true rfl)) dX7_coverNow_62 ⟨Nat.zero_le _, Nat.zero_le _⟩) hS (w_free (hDD s0 s1 h1 s2 h2 s3 s4 h4 s5 s6 s7 s8 s9 t9) hS hA hm_62) (fun H locs hP1 hk hS => ?_)
          have hP := w_joins (ws' := wX7o E a0 a1 a2 a3 a4 a5 a6 a7 a8 a9 s0 ++ (wX2 E a1 s1 h1 ++ (wX2 E a2 s2 h2 ++ (wX1 E a3 s3 ++ (wX2 E a4 s4 h4 ++ (wX1 E a5 s5 ++ (wX5 E a6 s6 ++ (wX3 E a7 s7 ++ (wX0 E a8 s8 ++ (wX6 E a9 s9 t9)))))))))) (wc := wX2 E a1 s1 h1) (wc' := wX2 E a1 s1 h1) hP (hDD s0 s1 h1 s2 h2 s3 s4 h4 s5 s6 s7 s8 s9 t9) [1, 2, 3, 4, 5, 6, 7] rfl [none, some 0, some 1, some 2, some 3, some 4, some 5, some 6, none, none, none, none, none, none, none, none, none, none, none, none, none, none, none, none, none, none, none, none, none, none, none, none, none, none, none, none, none, none, none, none, none, none, none, none, none, none, none, none, none, none] rfl rfl hk hP1
          refine lv_iload_n hx hb dX7_coverNow_65 rfl (lv_at hl 3 rfl) ?_
          refine lv_icmp_ne (tgt := 72) hx hb dX7_coverNow_66 (by decide) (fun c_66 => ?_) (fun c_66 => ?_)
          · have hf := ite_f c_66 hf
            obtain ⟨x72, e_x72⟩ : ∃ y : Int32, y = v4 + 1 := ⟨_, rfl⟩
            have hf := nm_q e_x72 hf
            refine lv_iinc (v := x72) (lv' := [(4, .int x72), (5, .int y0), (0, .ref (a0 0)), (1, .int v1), (2, .int v2), (3, .int v3)]) hx hb dX7_coverNow_72 hl (k := 5) rfl (by rw [e_x72]; rfl) (Nat.le_of_ble_eq_true rfl) rfl (fun ls hl => ?_)
            refine lv_goto (tgt := 26) hx hb dX7_coverNow_75 (by decide) ?_
            exact ih_26 v3 x72 hf _ _ _ hP hS (lv_sub hl [2, 3, 4, 5, 0] rfl)
          · have hf := ite_t c_66 hf
            refine lv_iload hx hb dX7_coverNow_69 (lv_at hl 5 rfl) ?_
            refine lv_istore_n (lv' := [(3, .int v4), (5, .int y0), (0, .ref (a0 0)), (1, .int v1), (2, .int v2), (4, .int v4)]) hx hb dX7_coverNow_71 rfl hl (Nat.le_of_ble_eq_true rfl) rfl (fun ls hl => ?_)
            obtain ⟨x72, e_x72⟩ : ∃ y : Int32, y = v4 + 1 := ⟨_, rfl⟩
            have hf := nm_q e_x72 hf
            refine lv_iinc (v := x72) (lv' := [(4, .int x72), (3, .int v4), (5, .int y0), (0, .ref (a0 0)), (1, .int v1), (2, .int v2)]) hx hb dX7_coverNow_72 hl (k := 5) rfl (by rw [e_x72]; rfl) (Nat.le_of_ble_eq_true rfl) rfl (fun ls hl => ?_)
            refine lv_goto (tgt := 26) hx hb dX7_coverNow_75 (by decide) ?_
            exact ih_26 v4 x72 hf _ _ _ hP hS (lv_sub hl [3, 4, 5, 1, 0] rfl)
      refine lv_iload hx hb dX7_coverNow_26 (lv_at hl 4 rfl) ?_
      refine lv_iload_n hx hb dX7_coverNow_28 rfl (lv_at hl 1 rfl) ?_
      refine lv_icmp_ge (tgt := 78) hx hb dX7_coverNow_29 (by decide) (fun c_29 => ?_) (fun c_29 => ?_)
      · have hf := ite_t c_29 hf
        refine lv_iload_n hx hb dX7_coverNow_78 rfl (lv_at hl 3 rfl) ?_
        have e9 := Option.some.inj hf
        exact rt_i hx hb hr hlocks e9 hP hS dX7_coverNow_79
      · have hf := ite_f c_29 hf
        refine lv_iload hx hb dX7_coverNow_32 (lv_at hl 4 rfl) ?_
        obtain ⟨q34, hc_34, hf⟩ := cl_e hf
        refine fin_i (E := E) (wc := ([] : va_W)) (wc' := ([] : va_W)) (va_runS (As := [.int v4]) (rest := []) ⟨hx, hb, hml, hown, hts⟩ (k_J6_bitCount_0f7a4 l E N v4 q34 hc_34 _) (va_cwS 1 hts gX7_coverNow_J6_bitCount_0f7a4 rfl rfl rfl (by decide +kernel) ⟨(Nat.le_of_ble_eq_true rfl), (Nat.le_of_ble_eq_true rfl)⟩) (pre_s hK va_P_nil va_D_nil hS hG hAB) rfl rfl hl.1 rfl (lv_room (Nat.le_of_ble_eq_true rfl)) dX7_coverNow_34 ⟨Nat.zero_le _, Nat.zero_le _⟩) hS (free_nil hS hA) (fun H locs hP1 hk hS => ?_)
        have hP := w_kept0 hP hk
        refine lv_iload_n hx hb dX7_coverNow_37 rfl (lv_at hl 3 rfl) ?_
        obtain ⟨q38, hc_38, hf⟩ := cl_e hf
        refine fin_i (E := E) (wc := ([] : va_W)) (wc' := ([] : va_W)) (va_runS (As := [.int v3]) (rest := [.int q34]) ⟨hx, hb, hml, hown, hts⟩ (k_J6_bitCount_0f7a4 l E N v3 q38 hc_38 _) (va_cwS 1 hts gX7_coverNow_J6_bitCount_0f7a4 rfl rfl rfl (by decide +kernel) ⟨(Nat.le_of_ble_eq_true rfl), (Nat.le_of_ble_eq_true rfl)⟩) (pre_s hK va_P_nil va_D_nil hS hG hAB) rfl rfl hl.1 rfl (lv_room (Nat.le_of_ble_eq_true rfl)) dX7_coverNow_38 ⟨Nat.zero_le _, Nat.zero_le _⟩) hS (free_nil hS hA) (fun H locs hP1 hk hS => ?_)
        have hP := w_kept0 hP hk
        refine lv_icmp_ge (tgt := 48) hx hb dX7_coverNow_41 (by decide) (fun c_41 => ?_) (fun c_41 => ?_)
        · have hf := ite_t c_41 hf
          refine lv_iconst (v := 0) hx hb dX7_coverNow_48 (by decide) ?_
          exact hL_49 v3 v4 0 hf _ _ _ hP hS (lv_sub hl [0, 1, 2, 3, 4] rfl)
        · have hf := ite_f c_41 hf
          refine lv_iconst (v := 1) hx hb dX7_coverNow_44 (by decide) ?_
          refine lv_goto (tgt := 49) hx hb dX7_coverNow_45 (by decide) ?_
          exact hL_49 v3 v4 1 hf _ _ _ hP hS (lv_sub hl [0, 1, 2, 3, 4] rfl)
  refine lv_iconst (v := 1) hx hb dX7_coverNow_0 (by decide) ?_
  refine lv_aload_n hx hb dX7_coverNow_1 rfl (lv_at hl 0 rfl) ?_
  refine va_get (ci := 7) (C := RX7) (T := TX7) (N := 11) (v := .ref (a1 0)) hx hb hts i_X7_coverNow_X7 hown hK hP 0 rfl rfl 0 (by decide) (hts _ m_X7_coverNow_265b14) (fun _ h9 => h9) rfl dX7_coverNow_2 ?_
  refine va_getN (ci := 2) (C := RX2) (T := TX2) (N := 11) (v := .int (s1 0 0)) hx hb hts i_X7_coverNow_X2 hown hK hP 1 rfl rfl 0 (by decide) (nwG hG (w := .fieldLinkNest "PickedMatch" 66 "PickedMatch$Scene" "things" "I" "PickedMatch") (by decide +kernel)) (fun _ h9 => h9) rfl dX7_coverNow_5 ?_
  refine lv_ishl hx hb dX7_coverNow_8 ?_
  refine lv_iconst (v := 1) hx hb dX7_coverNow_9 (by decide) ?_
  refine lv_isub hx hb dX7_coverNow_10 ?_
  refine lv_topi (fun x11 e_x11 => ?_)
  have hf := nm_q e_x11 hf
  refine lv_istore_n (lv' := [(1, .int x11), (0, .ref (a0 0))]) hx hb dX7_coverNow_11 rfl hl (Nat.le_of_ble_eq_true rfl) rfl (fun ls hl => ?_)
  refine lv_aload_n hx hb dX7_coverNow_12 rfl (lv_at hl 1 rfl) ?_
  refine va_get (ci := 7) (C := RX7) (T := TX7) (N := 11) (v := .ref (a1 0)) hx hb hts i_X7_coverNow_X7 hown hK hP 0 rfl rfl 0 (by decide) (hts _ m_X7_coverNow_265b14) (fun _ h9 => h9) rfl dX7_coverNow_13 ?_
  refine lv_iload_n hx hb dX7_coverNow_16 rfl (lv_at hl 0 rfl) ?_
  obtain ⟨q17, hc_17, hf⟩ := cl_e hf
  have hm_17 : ∀ q ∈ (wX2 E a1 s1 h1) ++ sW E.2.1 L, q ∈ (wX7o E a0 a1 a2 a3 a4 a5 a6 a7 a8 a9 s0 ++ (wX2 E a1 s1 h1 ++ (wX2 E a2 s2 h2 ++ (wX1 E a3 s3 ++ (wX2 E a4 s4 h4 ++ (wX1 E a5 s5 ++ (wX5 E a6 s6 ++ (wX3 E a7 s7 ++ (wX0 E a8 s8 ++ (wX6 E a9 s9 t9)))))))))) ++ sW E.2.1 L := (app_mem (sub_mem (suf := []) [1, 2, 3, 4, 5, 6, 7] rfl))
  refine fin_i (E := E) (wc := (wX2 E a1 s1 h1) ++ sW E.2.1 L) (wc' := (wX2 E a1 s1 h1) ++ sW E.2.1 L) (va_runVN (As := [.int x11]) (rest := []) ⟨hx, hb, hml, hown, hts⟩ (k_X2_marksOf l E a1 L N s1 h1 x11 q17 hc_17 _) ⟨va_cnB 1 hts gX7_coverNow_X2_marksOf_n167 rfl rfl rfl (hG.1 (.methodLinkNest "PickedMatch" 167 yX2_marksOf "PickedMatch") (by decide +kernel)) (hts _ m_X7_coverNow_4cf9d8) (by decide +kernel) ⟨(Nat.le_of_ble_eq_true rfl), (Nat.le_of_ble_eq_true rfl)⟩, (hts _ m_X7_coverNow_b0e80c), (hts _ m_X7_coverNow_f506b3)⟩ (pre_v (ci := 2) (q0 := 0) hK (sub_P hm_17 hP) (sub_Ds (wc := wX2 E a1 s1 h1) [1, 2, 3, 4, 5, 6, 7] (by decide) rfl (hDD s0 s1 h1 s2 h2 s3 s4 h4 s5 s6 s7 s8 s9 t9)) hS hG hAB rfl rfl) rfl rfl hl.1 rfl (lv_room (Nat.le_of_ble_eq_true rfl)) dX7_coverNow_17 ⟨Nat.zero_le _, Nat.zero_le _⟩) hS (w_free (hDD s0 s1 h1 s2 h2 s3 s4 h4 s5 s6 s7 s8 s9 t9) hS hA hm_17) (fun H locs hP1 hk hS => ?_)
  have hP := w_joins (ws' := wX7o E a0 a1 a2 a3 a4 a5 a6 a7 a8 a9 s0 ++ (wX2 E a1 s1 h1 ++ (wX2 E a2 s2 h2 ++ (wX1 E a3 s3 ++ (wX2 E a4 s4 h4 ++ (wX1 E a5 s5 ++ (wX5 E a6 s6 ++ (wX3 E a7 s7 ++ (wX0 E a8 s8 ++ (wX6 E a9 s9 t9)))))))))) (wc := wX2 E a1 s1 h1) (wc' := wX2 E a1 s1 h1) hP (hDD s0 s1 h1 s2 h2 s3 s4 h4 s5 s6 s7 s8 s9 t9) [1, 2, 3, 4, 5, 6, 7] rfl [none, some 0, some 1, some 2, some 3, some 4, some 5, some 6, none, none, none, none, none, none, none, none, none, none, none, none, none, none, none, none, none, none, none, none, none, none, none, none, none, none, none, none, none, none, none, none, none, none, none, none, none, none, none, none, none, none] rfl rfl hk hP1
  refine lv_istore_n (lv' := [(2, .int q17), (1, .int x11), (0, .ref (a0 0))]) hx hb dX7_coverNow_20 rfl hl (Nat.le_of_ble_eq_true rfl) rfl (fun ls hl => ?_)
  refine lv_iload_n hx hb dX7_coverNow_21 rfl (lv_at hl 1 rfl) ?_
  refine lv_istore_n (lv' := [(3, .int x11), (2, .int q17), (1, .int x11), (0, .ref (a0 0))]) hx hb dX7_coverNow_22 rfl hl (Nat.le_of_ble_eq_true rfl) rfl (fun ls hl => ?_)
  refine lv_iconst (v := 0) hx hb dX7_coverNow_23 (by decide) ?_
  refine lv_istore (lv' := [(4, .int 0), (3, .int x11), (2, .int q17), (1, .int x11), (0, .ref (a0 0))]) hx hb dX7_coverNow_24 hl (Nat.le_of_ble_eq_true rfl) rfl (fun ls hl => ?_)
  exact hL_26 s1 x11 q17 N x11 0 hf _ _ _ hP hS (lv_sub hl [4, 3, 2, 1, 0] rfl)
abbrev rm_X7_told : Room := { frames := 5, cells := 0, slots := 0, locals := 117 }
theorem m_X7_told_265b14 : Cond.fieldLink RX7 12 "PickedMatch" "scene" "LPickedMatch$Scene;" ∈ wsX7_told := by decide +kernel
theorem i_X7_told_X7 : ∀ w ∈ wsX70, w ∈ wsX7_told := fun _ h => List.mem_cons_of_mem _ (List.mem_append_left _ (List.mem_append_left _ (List.mem_append_right _ h)))
theorem i_X7_told_X2 : ∀ w ∈ wsX20, w ∈ wsX7_told := fun _ h => List.mem_cons_of_mem _ (List.mem_append_left _ (List.mem_append_right _ h))
theorem m_X7_told_4cf9d8 : Cond.initialized RX2 ∈ wsX7_told := by decide +kernel
theorem m_X7_told_aa7d6f : Cond.instanceMethod yX2_needNow ∈ wsX7_told := by decide +kernel
theorem m_X7_told_813212 : Cond.selects RX2 yX2_needNow yX2_needNow ∈ wsX7_told := by decide +kernel
theorem m_X7_told_6b9562 : Cond.instanceMethod yX2_holdNow ∈ wsX7_told := by decide +kernel
theorem m_X7_told_b35831 : Cond.selects RX2 yX2_holdNow yX2_holdNow ∈ wsX7_told := by decide +kernel
theorem m_X7_told_9409db : Cond.instanceMethod yX2_goingBits ∈ wsX7_told := by decide +kernel
theorem m_X7_told_433acd : Cond.selects RX2 yX2_goingBits yX2_goingBits ∈ wsX7_told := by decide +kernel
theorem m_X7_told_b0e80c : Cond.instanceMethod yX2_marksOf ∈ wsX7_told := by decide +kernel
theorem m_X7_told_f506b3 : Cond.selects RX2 yX2_marksOf yX2_marksOf ∈ wsX7_told := by decide +kernel
set_option maxHeartbeats 8000000 in
set_option maxRecDepth 100000 in
theorem k_X7_told (l : Launch) (E : Ev) (a0 : Nat → Nat) (a1 : Nat → Nat) (a2 : Nat → Nat) (a3 : Nat → Nat) (a4 : Nat → Nat) (a5 : Nat → Nat) (a6 : Nat → Nat) (a7 : Nat → Nat) (a8 : Nat → Nat) (a9 : Nat → Nat) (L : List SR) (N : Nat) (s0 : St) (s1 : St) (h1 : Option SR) (s2 : St) (h2 : Option SR) (s3 : St) (s4 : St) (h4 : Option SR) (s5 : St) (s6 : St) (s7 : St) (s8 : St) (s9 : St) (t9 : Nat → Nat → Int64) (p1 : Int32) (q : (Int32 × St)) (hf : f_X7_told N L s1 h1 p1 = some q) : Ci l yX7_told wsX7_told rm_X7_told E [.ref (a0 0), .int p1] ((wX7o E a0 a1 a2 a3 a4 a5 a6 a7 a8 a9 s0 ++ (wX2 E a1 s1 h1 ++ (wX2 E a2 s2 h2 ++ (wX1 E a3 s3 ++ (wX2 E a4 s4 h4 ++ (wX1 E a5 s5 ++ (wX5 E a6 s6 ++ (wX3 E a7 s7 ++ (wX0 E a8 s8 ++ (wX6 E a9 s9 t9)))))))))) ++ sW E.2.1 L) ((wX7o E a0 a1 a2 a3 a4 a5 a6 a7 a8 a9 s0 ++ (wX2 E a1 q.2 h1 ++ (wX2 E a2 s2 h2 ++ (wX1 E a3 s3 ++ (wX2 E a4 s4 h4 ++ (wX1 E a5 s5 ++ (wX5 E a6 s6 ++ (wX3 E a7 s7 ++ (wX0 E a8 s8 ++ (wX6 E a9 s9 t9)))))))))) ++ sW E.2.1 L) q.1 := by
  unfold f_X7_told at hf
  intro sz
  refine Met.ofW (cc := cX7_told) (maxL := 2) (ret := (some .int)) (by decide) rfl ?_
  intro p e s m args below meth c s₁ B hml hpre
  obtain ⟨rfl, hsz, hP, hK, hD0, hG, hA, hAB⟩ := start hpre
  have hx := B.exec
  have hb := B.bytes
  have hr := B.returns
  have hts := atoms_spec (ws := wsX7_told) B.pre
  have hown : s.vm.findClass RX7 = some m.cls := findClass_of_methodNamed B.named
  have hlocks := B.notSynchronized
  subst hsz
  generalize va_A ((wX7o E a0 a1 a2 a3 a4 a5 a6 a7 a8 a9 s0 ++ (wX2 E a1 s1 h1 ++ (wX2 E a2 s2 h2 ++ (wX1 E a3 s3 ++ (wX2 E a4 s4 h4 ++ (wX1 E a5 s5 ++ (wX5 E a6 s6 ++ (wX3 E a7 s7 ++ (wX0 E a8 s8 ++ (wX6 E a9 s9 t9)))))))))) ++ sW E.2.1 L) s.heap.size = A0 at hD0 hA hAB ⊢
  have hDD : ∀ (s0 : St) (s1 : St) (h1 : Option SR) (s2 : St) (h2 : Option SR) (s3 : St) (s4 : St) (h4 : Option SR) (s5 : St) (s6 : St) (s7 : St) (s8 : St) (s9 : St) (t9 : Nat → Nat → Int64), va_D A0 ((wX7o E a0 a1 a2 a3 a4 a5 a6 a7 a8 a9 s0 ++ (wX2 E a1 s1 h1 ++ (wX2 E a2 s2 h2 ++ (wX1 E a3 s3 ++ (wX2 E a4 s4 h4 ++ (wX1 E a5 s5 ++ (wX5 E a6 s6 ++ (wX3 E a7 s7 ++ (wX0 E a8 s8 ++ (wX6 E a9 s9 t9)))))))))) ++ sW E.2.1 L) := fun s0 s1 h1 s2 h2 s3 s4 h4 s5 s6 s7 s8 s9 t9 => vD_addr hD0 rfl
  have hS : va_S A0 s.heap s.heap [] := va_S.rf
  have hl := lv_entry ([.ref (a0 0), .int p1]) (n := 2) (Nat.le_of_ble_eq_true rfl)
  rw [lg_entry_eq]
  generalize (lg_sl ([.ref (a0 0), .int p1]) ++ List.replicate (2 - (lg_sl ([.ref (a0 0), .int p1])).length) Slot.unset).toArray = ls at hl ⊢
  have hl : lv_has ls 2 [(0, .ref (a0 0)), (1, .int p1)] := hl
  refine lv_iload_n hx hb dX7_told_0 rfl (lv_at hl 1 rfl) ?_
  by_cases c_1_0 : p1 = 0
  · have hf := ite_t c_1_0 hf
    refine lv_tableIn (off := 47) (tgt := 48) hx hb dX7_told_1 (by rw [c_1_0]; decide) (by rw [c_1_0]; decide) (by rw [c_1_0]; rfl) (by decide) ?_
    refine lv_aload_n hx hb dX7_told_48 rfl (lv_at hl 0 rfl) ?_
    refine va_get (ci := 7) (C := RX7) (T := TX7) (N := 11) (v := .ref (a1 0)) hx hb hts i_X7_told_X7 hown hK hP 0 rfl rfl 0 (by decide) (hts _ m_X7_told_265b14) (fun _ h9 => h9) rfl dX7_told_49 ?_
    refine va_getN (ci := 2) (C := RX2) (T := TX2) (N := 11) (v := .int (s1 8 0)) hx hb hts i_X7_told_X2 hown hK hP 1 rfl rfl 8 (by decide) (nwG hG (w := .fieldLinkNest "PickedMatch" 152 "PickedMatch$Scene" "day" "I" "PickedMatch") (by decide +kernel)) (fun _ h9 => h9) rfl dX7_told_52 ?_
    have e9 := Option.some.inj hf
    exact rt_i hx hb hr hlocks (fst_e e9) (rtP (P := fun z => va_P E.1 vwCl ((wX7o E a0 a1 a2 a3 a4 a5 a6 a7 a8 a9 s0 ++ (wX2 E a1 z.2 h1 ++ (wX2 E a2 s2 h2 ++ (wX1 E a3 s3 ++ (wX2 E a4 s4 h4 ++ (wX1 E a5 s5 ++ (wX5 E a6 s6 ++ (wX3 E a7 s7 ++ (wX0 E a8 s8 ++ (wX6 E a9 s9 t9)))))))))) ++ sW E.2.1 L) s.heap) e9 hP) hS dX7_told_55
  · have hf := ite_f c_1_0 hf
    by_cases c_1_1 : p1 = 1
    · have hf := ite_t c_1_1 hf
      refine lv_tableIn (off := 55) (tgt := 56) hx hb dX7_told_1 (by rw [c_1_1]; decide) (by rw [c_1_1]; decide) (by rw [c_1_1]; rfl) (by decide) ?_
      refine lv_aload_n hx hb dX7_told_56 rfl (lv_at hl 0 rfl) ?_
      refine va_get (ci := 7) (C := RX7) (T := TX7) (N := 11) (v := .ref (a1 0)) hx hb hts i_X7_told_X7 hown hK hP 0 rfl rfl 0 (by decide) (hts _ m_X7_told_265b14) (fun _ h9 => h9) rfl dX7_told_57 ?_
      obtain ⟨q60, hc_60, hf⟩ := cl_e hf
      have hm_60 : ∀ q ∈ (wX2 E a1 s1 h1) ++ sW E.2.1 L, q ∈ (wX7o E a0 a1 a2 a3 a4 a5 a6 a7 a8 a9 s0 ++ (wX2 E a1 s1 h1 ++ (wX2 E a2 s2 h2 ++ (wX1 E a3 s3 ++ (wX2 E a4 s4 h4 ++ (wX1 E a5 s5 ++ (wX5 E a6 s6 ++ (wX3 E a7 s7 ++ (wX0 E a8 s8 ++ (wX6 E a9 s9 t9)))))))))) ++ sW E.2.1 L := (app_mem (sub_mem (suf := []) [1, 2, 3, 4, 5, 6, 7] rfl))
      refine fin_i (E := E) (wc := (wX2 E a1 s1 h1) ++ sW E.2.1 L) (wc' := (wX2 E a1 s1 h1) ++ sW E.2.1 L) (va_runVN (As := []) (rest := []) ⟨hx, hb, hml, hown, hts⟩ (k_X2_needNow l E a1 L N s1 h1 q60 hc_60 _) ⟨va_cnB 0 hts gX7_told_X2_needNow_n155 rfl rfl rfl (hG.1 (.methodLinkNest "PickedMatch" 155 yX2_needNow "PickedMatch") (by decide +kernel)) (hts _ m_X7_told_4cf9d8) (by decide +kernel) ⟨(Nat.le_of_ble_eq_true rfl), (Nat.le_of_ble_eq_true rfl)⟩, (hts _ m_X7_told_aa7d6f), (hts _ m_X7_told_813212)⟩ (pre_v (ci := 2) (q0 := 0) hK (sub_P hm_60 hP) (sub_Ds (wc := wX2 E a1 s1 h1) [1, 2, 3, 4, 5, 6, 7] (by decide) rfl (hDD s0 s1 h1 s2 h2 s3 s4 h4 s5 s6 s7 s8 s9 t9)) hS hG hAB rfl rfl) rfl rfl hl.1 rfl (lv_room (Nat.le_of_ble_eq_true rfl)) dX7_told_60 ⟨Nat.zero_le _, Nat.zero_le _⟩) hS (w_free (hDD s0 s1 h1 s2 h2 s3 s4 h4 s5 s6 s7 s8 s9 t9) hS hA hm_60) (fun H locs hP1 hk hS => ?_)
      have hP := w_joins (ws' := wX7o E a0 a1 a2 a3 a4 a5 a6 a7 a8 a9 s0 ++ (wX2 E a1 s1 h1 ++ (wX2 E a2 s2 h2 ++ (wX1 E a3 s3 ++ (wX2 E a4 s4 h4 ++ (wX1 E a5 s5 ++ (wX5 E a6 s6 ++ (wX3 E a7 s7 ++ (wX0 E a8 s8 ++ (wX6 E a9 s9 t9)))))))))) (wc := wX2 E a1 s1 h1) (wc' := wX2 E a1 s1 h1) hP (hDD s0 s1 h1 s2 h2 s3 s4 h4 s5 s6 s7 s8 s9 t9) [1, 2, 3, 4, 5, 6, 7] rfl [none, some 0, some 1, some 2, some 3, some 4, some 5, some 6, none, none, none, none, none, none, none, none, none, none, none, none, none, none, none, none, none, none, none, none, none, none, none, none, none, none, none, none, none, none, none, none, none, none, none, none, none, none, none, none, none, none] rfl rfl hk hP1
      have e9 := Option.some.inj hf
      exact rt_i hx hb hr hlocks (fst_e e9) (rtP (P := fun z => va_P E.1 vwCl ((wX7o E a0 a1 a2 a3 a4 a5 a6 a7 a8 a9 s0 ++ (wX2 E a1 z.2 h1 ++ (wX2 E a2 s2 h2 ++ (wX1 E a3 s3 ++ (wX2 E a4 s4 h4 ++ (wX1 E a5 s5 ++ (wX5 E a6 s6 ++ (wX3 E a7 s7 ++ (wX0 E a8 s8 ++ (wX6 E a9 s9 t9)))))))))) ++ sW E.2.1 L) H) e9 hP) hS dX7_told_63
    · have hf := ite_f c_1_1 hf
      by_cases c_1_2 : p1 = 2
      · have hf := ite_t c_1_2 hf
        refine lv_tableIn (off := 63) (tgt := 64) hx hb dX7_told_1 (by rw [c_1_2]; decide) (by rw [c_1_2]; decide) (by rw [c_1_2]; rfl) (by decide) ?_
        refine lv_aload_n hx hb dX7_told_64 rfl (lv_at hl 0 rfl) ?_
        refine va_get (ci := 7) (C := RX7) (T := TX7) (N := 11) (v := .ref (a1 0)) hx hb hts i_X7_told_X7 hown hK hP 0 rfl rfl 0 (by decide) (hts _ m_X7_told_265b14) (fun _ h9 => h9) rfl dX7_told_65 ?_
        obtain ⟨q68, hc_68, hf⟩ := cl_e hf
        have hm_68 : ∀ q ∈ (wX2 E a1 s1 h1) ++ sW E.2.1 L, q ∈ (wX7o E a0 a1 a2 a3 a4 a5 a6 a7 a8 a9 s0 ++ (wX2 E a1 s1 h1 ++ (wX2 E a2 s2 h2 ++ (wX1 E a3 s3 ++ (wX2 E a4 s4 h4 ++ (wX1 E a5 s5 ++ (wX5 E a6 s6 ++ (wX3 E a7 s7 ++ (wX0 E a8 s8 ++ (wX6 E a9 s9 t9)))))))))) ++ sW E.2.1 L := (app_mem (sub_mem (suf := []) [1, 2, 3, 4, 5, 6, 7] rfl))
        refine fin_i (E := E) (wc := (wX2 E a1 s1 h1) ++ sW E.2.1 L) (wc' := (wX2 E a1 s1 h1) ++ sW E.2.1 L) (va_runVN (As := []) (rest := []) ⟨hx, hb, hml, hown, hts⟩ (k_X2_holdNow l E a1 L N s1 h1 q68 hc_68 _) ⟨va_cnB 0 hts gX7_told_X2_holdNow_n158 rfl rfl rfl (hG.1 (.methodLinkNest "PickedMatch" 158 yX2_holdNow "PickedMatch") (by decide +kernel)) (hts _ m_X7_told_4cf9d8) (by decide +kernel) ⟨(Nat.le_of_ble_eq_true rfl), (Nat.le_of_ble_eq_true rfl)⟩, (hts _ m_X7_told_6b9562), (hts _ m_X7_told_b35831)⟩ (pre_v (ci := 2) (q0 := 0) hK (sub_P hm_68 hP) (sub_Ds (wc := wX2 E a1 s1 h1) [1, 2, 3, 4, 5, 6, 7] (by decide) rfl (hDD s0 s1 h1 s2 h2 s3 s4 h4 s5 s6 s7 s8 s9 t9)) hS hG hAB rfl rfl) rfl rfl hl.1 rfl (lv_room (Nat.le_of_ble_eq_true rfl)) dX7_told_68 ⟨Nat.zero_le _, Nat.zero_le _⟩) hS (w_free (hDD s0 s1 h1 s2 h2 s3 s4 h4 s5 s6 s7 s8 s9 t9) hS hA hm_68) (fun H locs hP1 hk hS => ?_)
        have hP := w_joins (ws' := wX7o E a0 a1 a2 a3 a4 a5 a6 a7 a8 a9 s0 ++ (wX2 E a1 s1 h1 ++ (wX2 E a2 s2 h2 ++ (wX1 E a3 s3 ++ (wX2 E a4 s4 h4 ++ (wX1 E a5 s5 ++ (wX5 E a6 s6 ++ (wX3 E a7 s7 ++ (wX0 E a8 s8 ++ (wX6 E a9 s9 t9)))))))))) (wc := wX2 E a1 s1 h1) (wc' := wX2 E a1 s1 h1) hP (hDD s0 s1 h1 s2 h2 s3 s4 h4 s5 s6 s7 s8 s9 t9) [1, 2, 3, 4, 5, 6, 7] rfl [none, some 0, some 1, some 2, some 3, some 4, some 5, some 6, none, none, none, none, none, none, none, none, none, none, none, none, none, none, none, none, none, none, none, none, none, none, none, none, none, none, none, none, none, none, none, none, none, none, none, none, none, none, none, none, none, none] rfl rfl hk hP1
        have e9 := Option.some.inj hf
        exact rt_i hx hb hr hlocks (fst_e e9) (rtP (P := fun z => va_P E.1 vwCl ((wX7o E a0 a1 a2 a3 a4 a5 a6 a7 a8 a9 s0 ++ (wX2 E a1 z.2 h1 ++ (wX2 E a2 s2 h2 ++ (wX1 E a3 s3 ++ (wX2 E a4 s4 h4 ++ (wX1 E a5 s5 ++ (wX5 E a6 s6 ++ (wX3 E a7 s7 ++ (wX0 E a8 s8 ++ (wX6 E a9 s9 t9)))))))))) ++ sW E.2.1 L) H) e9 hP) hS dX7_told_71
      · have hf := ite_f c_1_2 hf
        by_cases c_1_3 : p1 = 3
        · have hf := ite_t c_1_3 hf
          refine lv_tableIn (off := 71) (tgt := 72) hx hb dX7_told_1 (by rw [c_1_3]; decide) (by rw [c_1_3]; decide) (by rw [c_1_3]; rfl) (by decide) ?_
          refine lv_aload_n hx hb dX7_told_72 rfl (lv_at hl 0 rfl) ?_
          refine va_get (ci := 7) (C := RX7) (T := TX7) (N := 11) (v := .ref (a1 0)) hx hb hts i_X7_told_X7 hown hK hP 0 rfl rfl 0 (by decide) (hts _ m_X7_told_265b14) (fun _ h9 => h9) rfl dX7_told_73 ?_
          refine va_getN (ci := 2) (C := RX2) (T := TX2) (N := 11) (v := .int (s1 7 0)) hx hb hts i_X7_told_X2 hown hK hP 1 rfl rfl 7 (by decide) (nwG hG (w := .fieldLinkNest "PickedMatch" 161 "PickedMatch$Scene" "hadBits" "I" "PickedMatch") (by decide +kernel)) (fun _ h9 => h9) rfl dX7_told_76 ?_
          have e9 := Option.some.inj hf
          exact rt_i hx hb hr hlocks (fst_e e9) (rtP (P := fun z => va_P E.1 vwCl ((wX7o E a0 a1 a2 a3 a4 a5 a6 a7 a8 a9 s0 ++ (wX2 E a1 z.2 h1 ++ (wX2 E a2 s2 h2 ++ (wX1 E a3 s3 ++ (wX2 E a4 s4 h4 ++ (wX1 E a5 s5 ++ (wX5 E a6 s6 ++ (wX3 E a7 s7 ++ (wX0 E a8 s8 ++ (wX6 E a9 s9 t9)))))))))) ++ sW E.2.1 L) s.heap) e9 hP) hS dX7_told_79
        · have hf := ite_f c_1_3 hf
          by_cases c_1_4 : p1 = 4
          · have hf := ite_t c_1_4 hf
            refine lv_tableIn (off := 79) (tgt := 80) hx hb dX7_told_1 (by rw [c_1_4]; decide) (by rw [c_1_4]; decide) (by rw [c_1_4]; rfl) (by decide) ?_
            refine lv_aload_n hx hb dX7_told_80 rfl (lv_at hl 0 rfl) ?_
            refine va_get (ci := 7) (C := RX7) (T := TX7) (N := 11) (v := .ref (a1 0)) hx hb hts i_X7_told_X7 hown hK hP 0 rfl rfl 0 (by decide) (hts _ m_X7_told_265b14) (fun _ h9 => h9) rfl dX7_told_81 ?_
            obtain ⟨q84, hc_84, hf⟩ := cl_e hf
            have hm_84 : ∀ q ∈ (wX2 E a1 s1 h1) ++ sW E.2.1 L, q ∈ (wX7o E a0 a1 a2 a3 a4 a5 a6 a7 a8 a9 s0 ++ (wX2 E a1 s1 h1 ++ (wX2 E a2 s2 h2 ++ (wX1 E a3 s3 ++ (wX2 E a4 s4 h4 ++ (wX1 E a5 s5 ++ (wX5 E a6 s6 ++ (wX3 E a7 s7 ++ (wX0 E a8 s8 ++ (wX6 E a9 s9 t9)))))))))) ++ sW E.2.1 L := (app_mem (sub_mem (suf := []) [1, 2, 3, 4, 5, 6, 7] rfl))
            refine fin_i (E := E) (wc := (wX2 E a1 s1 h1) ++ sW E.2.1 L) (wc' := (wX2 E a1 q84.2 h1) ++ sW E.2.1 L) (va_runVN (As := []) (rest := []) ⟨hx, hb, hml, hown, hts⟩ (k_X2_goingBits l E a1 L N s1 h1 q84 hc_84 _) ⟨va_cnB 0 hts gX7_told_X2_goingBits_n164 rfl rfl rfl (hG.1 (.methodLinkNest "PickedMatch" 164 yX2_goingBits "PickedMatch") (by decide +kernel)) (hts _ m_X7_told_4cf9d8) (by decide +kernel) ⟨(Nat.le_of_ble_eq_true rfl), (Nat.le_of_ble_eq_true rfl)⟩, (hts _ m_X7_told_9409db), (hts _ m_X7_told_433acd)⟩ (pre_v (ci := 2) (q0 := 0) hK (sub_P hm_84 hP) (sub_Ds (wc := wX2 E a1 s1 h1) [1, 2, 3, 4, 5, 6, 7] (by decide) rfl (hDD s0 s1 h1 s2 h2 s3 s4 h4 s5 s6 s7 s8 s9 t9)) hS hG hAB rfl rfl) rfl rfl hl.1 rfl (lv_room (Nat.le_of_ble_eq_true rfl)) dX7_told_84 ⟨Nat.zero_le _, Nat.zero_le _⟩) hS (w_free (hDD s0 s1 h1 s2 h2 s3 s4 h4 s5 s6 s7 s8 s9 t9) hS hA hm_84) (fun H locs hP1 hk hS => ?_)
            have hP := w_joins (ws' := wX7o E a0 a1 a2 a3 a4 a5 a6 a7 a8 a9 s0 ++ (wX2 E a1 q84.2 h1 ++ (wX2 E a2 s2 h2 ++ (wX1 E a3 s3 ++ (wX2 E a4 s4 h4 ++ (wX1 E a5 s5 ++ (wX5 E a6 s6 ++ (wX3 E a7 s7 ++ (wX0 E a8 s8 ++ (wX6 E a9 s9 t9)))))))))) (wc := wX2 E a1 s1 h1) (wc' := wX2 E a1 q84.2 h1) hP (hDD s0 s1 h1 s2 h2 s3 s4 h4 s5 s6 s7 s8 s9 t9) [1, 2, 3, 4, 5, 6, 7] rfl [none, some 0, some 1, some 2, some 3, some 4, some 5, some 6, none, none, none, none, none, none, none, none, none, none, none, none, none, none, none, none, none, none, none, none, none, none, none, none, none, none, none, none, none, none, none, none, none, none, none, none, none, none, none, none, none, none] rfl rfl hk hP1
            have e9 := Option.some.inj hf
            exact rt_i hx hb hr hlocks (fst_e e9) (rtP (P := fun z => va_P E.1 vwCl ((wX7o E a0 a1 a2 a3 a4 a5 a6 a7 a8 a9 s0 ++ (wX2 E a1 z.2 h1 ++ (wX2 E a2 s2 h2 ++ (wX1 E a3 s3 ++ (wX2 E a4 s4 h4 ++ (wX1 E a5 s5 ++ (wX5 E a6 s6 ++ (wX3 E a7 s7 ++ (wX0 E a8 s8 ++ (wX6 E a9 s9 t9)))))))))) ++ sW E.2.1 L) H) e9 hP) hS dX7_told_87
          · have hf := ite_f c_1_4 hf
            by_cases c_1_5 : p1 = 5
            · have hf := ite_t c_1_5 hf
              refine lv_tableIn (off := 87) (tgt := 88) hx hb dX7_told_1 (by rw [c_1_5]; decide) (by rw [c_1_5]; decide) (by rw [c_1_5]; rfl) (by decide) ?_
              refine lv_aload_n hx hb dX7_told_88 rfl (lv_at hl 0 rfl) ?_
              refine va_get (ci := 7) (C := RX7) (T := TX7) (N := 11) (v := .ref (a1 0)) hx hb hts i_X7_told_X7 hown hK hP 0 rfl rfl 0 (by decide) (hts _ m_X7_told_265b14) (fun _ h9 => h9) rfl dX7_told_89 ?_
              refine lv_aload_n hx hb dX7_told_92 rfl (lv_at hl 0 rfl) ?_
              refine va_get (ci := 7) (C := RX7) (T := TX7) (N := 11) (v := .ref (a1 0)) hx hb hts i_X7_told_X7 hown hK hP 0 rfl rfl 0 (by decide) (hts _ m_X7_told_265b14) (fun _ h9 => h9) rfl dX7_told_93 ?_
              refine va_getN (ci := 2) (C := RX2) (T := TX2) (N := 11) (v := .int (s1 7 0)) hx hb hts i_X7_told_X2 hown hK hP 1 rfl rfl 7 (by decide) (nwG hG (w := .fieldLinkNest "PickedMatch" 161 "PickedMatch$Scene" "hadBits" "I" "PickedMatch") (by decide +kernel)) (fun _ h9 => h9) rfl dX7_told_96 ?_
              obtain ⟨q99, hc_99, hf⟩ := cl_e hf
              have hm_99 : ∀ q ∈ (wX2 E a1 s1 h1) ++ sW E.2.1 L, q ∈ (wX7o E a0 a1 a2 a3 a4 a5 a6 a7 a8 a9 s0 ++ (wX2 E a1 s1 h1 ++ (wX2 E a2 s2 h2 ++ (wX1 E a3 s3 ++ (wX2 E a4 s4 h4 ++ (wX1 E a5 s5 ++ (wX5 E a6 s6 ++ (wX3 E a7 s7 ++ (wX0 E a8 s8 ++ (wX6 E a9 s9 t9)))))))))) ++ sW E.2.1 L := (app_mem (sub_mem (suf := []) [1, 2, 3, 4, 5, 6, 7] rfl))
              refine fin_i (E := E) (wc := (wX2 E a1 s1 h1) ++ sW E.2.1 L) (wc' := (wX2 E a1 s1 h1) ++ sW E.2.1 L) (va_runVN (As := [.int (s1 7 0)]) (rest := []) ⟨hx, hb, hml, hown, hts⟩ (k_X2_marksOf l E a1 L N s1 h1 (s1 7 0) q99 hc_99 _) ⟨va_cnB 1 hts gX7_told_X2_marksOf_n167 rfl rfl rfl (hG.1 (.methodLinkNest "PickedMatch" 167 yX2_marksOf "PickedMatch") (by decide +kernel)) (hts _ m_X7_told_4cf9d8) (by decide +kernel) ⟨(Nat.le_of_ble_eq_true rfl), (Nat.le_of_ble_eq_true rfl)⟩, (hts _ m_X7_told_b0e80c), (hts _ m_X7_told_f506b3)⟩ (pre_v (ci := 2) (q0 := 0) hK (sub_P hm_99 hP) (sub_Ds (wc := wX2 E a1 s1 h1) [1, 2, 3, 4, 5, 6, 7] (by decide) rfl (hDD s0 s1 h1 s2 h2 s3 s4 h4 s5 s6 s7 s8 s9 t9)) hS hG hAB rfl rfl) rfl rfl hl.1 rfl (lv_room (Nat.le_of_ble_eq_true rfl)) dX7_told_99 ⟨Nat.zero_le _, Nat.zero_le _⟩) hS (w_free (hDD s0 s1 h1 s2 h2 s3 s4 h4 s5 s6 s7 s8 s9 t9) hS hA hm_99) (fun H locs hP1 hk hS => ?_)
              have hP := w_joins (ws' := wX7o E a0 a1 a2 a3 a4 a5 a6 a7 a8 a9 s0 ++ (wX2 E a1 s1 h1 ++ (wX2 E a2 s2 h2 ++ (wX1 E a3 s3 ++ (wX2 E a4 s4 h4 ++ (wX1 E a5 s5 ++ (wX5 E a6 s6 ++ (wX3 E a7 s7 ++ (wX0 E a8 s8 ++ (wX6 E a9 s9 t9)))))))))) (wc := wX2 E a1 s1 h1) (wc' := wX2 E a1 s1 h1) hP (hDD s0 s1 h1 s2 h2 s3 s4 h4 s5 s6 s7 s8 s9 t9) [1, 2, 3, 4, 5, 6, 7] rfl [none, some 0, some 1, some 2, some 3, some 4, some 5, some 6, none, none, none, none, none, none, none, none, none, none, none, none, none, none, none, none, none, none, none, none, none, none, none, none, none, none, none, none, none, none, none, none, none, none, none, none, none, none, none, none, none, none] rfl rfl hk hP1
              have e9 := Option.some.inj hf
              exact rt_i hx hb hr hlocks (fst_e e9) (rtP (P := fun z => va_P E.1 vwCl ((wX7o E a0 a1 a2 a3 a4 a5 a6 a7 a8 a9 s0 ++ (wX2 E a1 z.2 h1 ++ (wX2 E a2 s2 h2 ++ (wX1 E a3 s3 ++ (wX2 E a4 s4 h4 ++ (wX1 E a5 s5 ++ (wX5 E a6 s6 ++ (wX3 E a7 s7 ++ (wX0 E a8 s8 ++ (wX6 E a9 s9 t9)))))))))) ++ sW E.2.1 L) H) e9 hP) hS dX7_told_102
            · have hf := ite_f c_1_5 hf
              by_cases c_1_6 : p1 = 6
              · have hf := ite_t c_1_6 hf
                refine lv_tableIn (off := 102) (tgt := 103) hx hb dX7_told_1 (by rw [c_1_6]; decide) (by rw [c_1_6]; decide) (by rw [c_1_6]; rfl) (by decide) ?_
                refine lv_aload_n hx hb dX7_told_103 rfl (lv_at hl 0 rfl) ?_
                obtain ⟨q104, hc_104, hf⟩ := cl_e hf
                refine fin_i (E := E) (wc := (wX7o E a0 a1 a2 a3 a4 a5 a6 a7 a8 a9 s0 ++ (wX2 E a1 s1 h1 ++ (wX2 E a2 s2 h2 ++ (wX1 E a3 s3 ++ (wX2 E a4 s4 h4 ++ (wX1 E a5 s5 ++ (wX5 E a6 s6 ++ (wX3 E a7 s7 ++ (wX0 E a8 s8 ++ (wX6 E a9 s9 t9)))))))))) ++ sW E.2.1 L) (wc' := (wX7o E a0 a1 a2 a3 a4 a5 a6 a7 a8 a9 s0 ++ (wX2 E a1 s1 h1 ++ (wX2 E a2 s2 h2 ++ (wX1 E a3 s3 ++ (wX2 E a4 s4 h4 ++ (wX1 E a5 s5 ++ (wX5 E a6 s6 ++ (wX3 E a7 s7 ++ (wX0 E a8 s8 ++ (wX6 E a9 s9 t9)))))))))) ++ sW E.2.1 L) (va_runV (As := []) (rest := []) ⟨hx, hb, hml, hown, hts⟩ (k_X7_twinsNow l E a0 a1 a2 a3 a4 a5 a6 a7 a8 a9 L N s0 s1 h1 s2 h2 s3 s4 h4 s5 s6 s7 s8 s9 t9 q104 hc_104 _) (cwV 0 hts gX7_told_X7_twinsNow rfl rfl rfl (by decide +kernel) ⟨(Nat.le_of_ble_eq_true rfl), (Nat.le_of_ble_eq_true rfl)⟩) (pre_v (ci := 7) (q0 := 0) hK hP (hDD s0 s1 h1 s2 h2 s3 s4 h4 s5 s6 s7 s8 s9 t9) hS hG hAB rfl rfl) rfl rfl hl.1 rfl (lv_room (Nat.le_of_ble_eq_true rfl)) dX7_told_104 ⟨Nat.zero_le _, Nat.zero_le _⟩) hS (w_free (hDD s0 s1 h1 s2 h2 s3 s4 h4 s5 s6 s7 s8 s9 t9) hS hA (fun _ h => h)) (fun H locs hP1 hk hS => ?_)
                have hP := hP1
                have e9 := Option.some.inj hf
                exact rt_i hx hb hr hlocks (fst_e e9) (rtP (P := fun z => va_P E.1 vwCl ((wX7o E a0 a1 a2 a3 a4 a5 a6 a7 a8 a9 s0 ++ (wX2 E a1 z.2 h1 ++ (wX2 E a2 s2 h2 ++ (wX1 E a3 s3 ++ (wX2 E a4 s4 h4 ++ (wX1 E a5 s5 ++ (wX5 E a6 s6 ++ (wX3 E a7 s7 ++ (wX0 E a8 s8 ++ (wX6 E a9 s9 t9)))))))))) ++ sW E.2.1 L) H) e9 hP) hS dX7_told_107
              · have hf := ite_f c_1_6 hf
                by_cases c_1_7 : p1 = 7
                · have hf := ite_t c_1_7 hf
                  refine lv_tableIn (off := 107) (tgt := 108) hx hb dX7_told_1 (by rw [c_1_7]; decide) (by rw [c_1_7]; decide) (by rw [c_1_7]; rfl) (by decide) ?_
                  refine lv_aload_n hx hb dX7_told_108 rfl (lv_at hl 0 rfl) ?_
                  obtain ⟨q109, hc_109, hf⟩ := cl_e hf
                  refine fin_i (E := E) (wc := (wX7o E a0 a1 a2 a3 a4 a5 a6 a7 a8 a9 s0 ++ (wX2 E a1 s1 h1 ++ (wX2 E a2 s2 h2 ++ (wX1 E a3 s3 ++ (wX2 E a4 s4 h4 ++ (wX1 E a5 s5 ++ (wX5 E a6 s6 ++ (wX3 E a7 s7 ++ (wX0 E a8 s8 ++ (wX6 E a9 s9 t9)))))))))) ++ sW E.2.1 L) (wc' := (wX7o E a0 a1 a2 a3 a4 a5 a6 a7 a8 a9 s0 ++ (wX2 E a1 s1 h1 ++ (wX2 E a2 s2 h2 ++ (wX1 E a3 s3 ++ (wX2 E a4 s4 h4 ++ (wX1 E a5 s5 ++ (wX5 E a6 s6 ++ (wX3 E a7 s7 ++ (wX0 E a8 s8 ++ (wX6 E a9 s9 t9)))))))))) ++ sW E.2.1 L) (va_runV (As := []) (rest := []) ⟨hx, hb, hml, hown, hts⟩ (k_X7_coverNow l E a0 a1 a2 a3 a4 a5 a6 a7 a8 a9 L N s0 s1 h1 s2 h2 s3 s4 h4 s5 s6 s7 s8 s9 t9 q109 hc_109 _) (cwV 0 hts gX7_told_X7_coverNow rfl rfl rfl (by decide +kernel) ⟨(Nat.le_of_ble_eq_true rfl), (Nat.le_of_ble_eq_true rfl)⟩) (pre_v (ci := 7) (q0 := 0) hK hP (hDD s0 s1 h1 s2 h2 s3 s4 h4 s5 s6 s7 s8 s9 t9) hS hG hAB rfl rfl) rfl rfl hl.1 rfl (lv_room (Nat.le_of_ble_eq_true rfl)) dX7_told_109 ⟨Nat.zero_le _, Nat.zero_le _⟩) hS (w_free (hDD s0 s1 h1 s2 h2 s3 s4 h4 s5 s6 s7 s8 s9 t9) hS hA (fun _ h => h)) (fun H locs hP1 hk hS => ?_)
                  have hP := hP1
                  have e9 := Option.some.inj hf
                  exact rt_i hx hb hr hlocks (fst_e e9) (rtP (P := fun z => va_P E.1 vwCl ((wX7o E a0 a1 a2 a3 a4 a5 a6 a7 a8 a9 s0 ++ (wX2 E a1 z.2 h1 ++ (wX2 E a2 s2 h2 ++ (wX1 E a3 s3 ++ (wX2 E a4 s4 h4 ++ (wX1 E a5 s5 ++ (wX5 E a6 s6 ++ (wX3 E a7 s7 ++ (wX0 E a8 s8 ++ (wX6 E a9 s9 t9)))))))))) ++ sW E.2.1 L) H) e9 hP) hS dX7_told_112
                · have hf := ite_f c_1_7 hf
                  refine lv_tableOut (tgt := 113) hx hb dX7_told_1 (by have n0 := lv_neT (a := 0) c_1_0 (by decide); have n1 := lv_neT (a := 1) c_1_1 (by decide); have n2 := lv_neT (a := 2) c_1_2 (by decide); have n3 := lv_neT (a := 3) c_1_3 (by decide); have n4 := lv_neT (a := 4) c_1_4 (by decide); have n5 := lv_neT (a := 5) c_1_5 (by decide); have n6 := lv_neT (a := 6) c_1_6 (by decide); have n7 := lv_neT (a := 7) c_1_7 (by decide); omega) (by decide) ?_
                  refine lv_iconst (v := (-1)) hx hb dX7_told_113 (by decide) ?_
                  have e9 := Option.some.inj hf
                  exact rt_i hx hb hr hlocks (fst_e e9) (rtP (P := fun z => va_P E.1 vwCl ((wX7o E a0 a1 a2 a3 a4 a5 a6 a7 a8 a9 s0 ++ (wX2 E a1 z.2 h1 ++ (wX2 E a2 s2 h2 ++ (wX1 E a3 s3 ++ (wX2 E a4 s4 h4 ++ (wX1 E a5 s5 ++ (wX5 E a6 s6 ++ (wX3 E a7 s7 ++ (wX0 E a8 s8 ++ (wX6 E a9 s9 t9)))))))))) ++ sW E.2.1 L) s.heap) e9 hP) hS dX7_told_114
abbrev rm_X7_pass : Room := { frames := 6, cells := 0, slots := 0, locals := 138 }
theorem m_X7_pass_265b14 : Cond.fieldLink RX7 12 "PickedMatch" "scene" "LPickedMatch$Scene;" ∈ wsX7_pass := by decide +kernel
theorem i_X7_pass_X7 : ∀ w ∈ wsX70, w ∈ wsX7_pass := fun _ h => List.mem_cons_of_mem _ (List.mem_append_left _ (List.mem_append_left _ (List.mem_append_right _ h)))
theorem i_X7_pass_X2 : ∀ w ∈ wsX20, w ∈ wsX7_pass := fun _ h => List.mem_cons_of_mem _ (List.mem_append_left _ (List.mem_append_right _ h))
theorem m_X7_pass_4cf9d8 : Cond.initialized RX2 ∈ wsX7_pass := by decide +kernel
theorem m_X7_pass_9de039 : Cond.instanceMethod yX2_daysGo ∈ wsX7_pass := by decide +kernel
theorem m_X7_pass_a576f3 : Cond.selects RX2 yX2_daysGo yX2_daysGo ∈ wsX7_pass := by decide +kernel
set_option maxHeartbeats 8000000 in
set_option maxRecDepth 100000 in
theorem k_X7_pass (l : Launch) (E : Ev) (a0 : Nat → Nat) (a1 : Nat → Nat) (a2 : Nat → Nat) (a3 : Nat → Nat) (a4 : Nat → Nat) (a5 : Nat → Nat) (a6 : Nat → Nat) (a7 : Nat → Nat) (a8 : Nat → Nat) (a9 : Nat → Nat) (L : List SR) (N : Nat) (s0 : St) (s1 : St) (h1 : Option SR) (s2 : St) (h2 : Option SR) (s3 : St) (s4 : St) (h4 : Option SR) (s5 : St) (s6 : St) (s7 : St) (s8 : St) (s9 : St) (t9 : Nat → Nat → Int64) (p1 : Int32) (q : (Int32 × St)) (hf : f_X7_pass N L s1 h1 p1 = some q) : Ci l yX7_pass wsX7_pass rm_X7_pass E [.ref (a0 0), .int p1] ((wX7o E a0 a1 a2 a3 a4 a5 a6 a7 a8 a9 s0 ++ (wX2 E a1 s1 h1 ++ (wX2 E a2 s2 h2 ++ (wX1 E a3 s3 ++ (wX2 E a4 s4 h4 ++ (wX1 E a5 s5 ++ (wX5 E a6 s6 ++ (wX3 E a7 s7 ++ (wX0 E a8 s8 ++ (wX6 E a9 s9 t9)))))))))) ++ sW E.2.1 L) ((wX7o E a0 a1 a2 a3 a4 a5 a6 a7 a8 a9 s0 ++ (wX2 E a1 q.2 h1 ++ (wX2 E a2 s2 h2 ++ (wX1 E a3 s3 ++ (wX2 E a4 s4 h4 ++ (wX1 E a5 s5 ++ (wX5 E a6 s6 ++ (wX3 E a7 s7 ++ (wX0 E a8 s8 ++ (wX6 E a9 s9 t9)))))))))) ++ sW E.2.1 L) q.1 := by
  unfold f_X7_pass at hf
  intro sz
  refine Met.ofW (cc := cX7_pass) (maxL := 2) (ret := (some .int)) (by decide) rfl ?_
  intro p e s m args below meth c s₁ B hml hpre
  obtain ⟨rfl, hsz, hP, hK, hD0, hG, hA, hAB⟩ := start hpre
  have hx := B.exec
  have hb := B.bytes
  have hr := B.returns
  have hts := atoms_spec (ws := wsX7_pass) B.pre
  have hown : s.vm.findClass RX7 = some m.cls := findClass_of_methodNamed B.named
  have hlocks := B.notSynchronized
  subst hsz
  generalize va_A ((wX7o E a0 a1 a2 a3 a4 a5 a6 a7 a8 a9 s0 ++ (wX2 E a1 s1 h1 ++ (wX2 E a2 s2 h2 ++ (wX1 E a3 s3 ++ (wX2 E a4 s4 h4 ++ (wX1 E a5 s5 ++ (wX5 E a6 s6 ++ (wX3 E a7 s7 ++ (wX0 E a8 s8 ++ (wX6 E a9 s9 t9)))))))))) ++ sW E.2.1 L) s.heap.size = A0 at hD0 hA hAB ⊢
  have hDD : ∀ (s0 : St) (s1 : St) (h1 : Option SR) (s2 : St) (h2 : Option SR) (s3 : St) (s4 : St) (h4 : Option SR) (s5 : St) (s6 : St) (s7 : St) (s8 : St) (s9 : St) (t9 : Nat → Nat → Int64), va_D A0 ((wX7o E a0 a1 a2 a3 a4 a5 a6 a7 a8 a9 s0 ++ (wX2 E a1 s1 h1 ++ (wX2 E a2 s2 h2 ++ (wX1 E a3 s3 ++ (wX2 E a4 s4 h4 ++ (wX1 E a5 s5 ++ (wX5 E a6 s6 ++ (wX3 E a7 s7 ++ (wX0 E a8 s8 ++ (wX6 E a9 s9 t9)))))))))) ++ sW E.2.1 L) := fun s0 s1 h1 s2 h2 s3 s4 h4 s5 s6 s7 s8 s9 t9 => vD_addr hD0 rfl
  have hS : va_S A0 s.heap s.heap [] := va_S.rf
  have hl := lv_entry ([.ref (a0 0), .int p1]) (n := 2) (Nat.le_of_ble_eq_true rfl)
  rw [lg_entry_eq]
  generalize (lg_sl ([.ref (a0 0), .int p1]) ++ List.replicate (2 - (lg_sl ([.ref (a0 0), .int p1])).length) Slot.unset).toArray = ls at hl ⊢
  have hl : lv_has ls 2 [(0, .ref (a0 0)), (1, .int p1)] := hl
  refine lv_iload_n hx hb dX7_pass_0 rfl (lv_at hl 1 rfl) ?_
  refine lv_iconst (v := 0) hx hb dX7_pass_1 (by decide) ?_
  refine lv_bipush (v := 60) hx hb dX7_pass_2 (by decide) ?_
  obtain ⟨q4, hc_4, hf⟩ := cl_e hf
  refine fin_i (E := E) (wc := ([] : va_W)) (wc' := ([] : va_W)) (va_runS (As := [.int p1, .int 0, .int 60]) (rest := []) ⟨hx, hb, hml, hown, hts⟩ (k_X7_isWithin l E N p1 0 60 q4 hc_4 _) (va_cwS 3 hts gX7_pass_X7_isWithin rfl rfl rfl (by decide +kernel) ⟨(Nat.le_of_ble_eq_true rfl), (Nat.le_of_ble_eq_true rfl)⟩) (pre_s hK va_P_nil va_D_nil hS hG hAB) rfl rfl hl.1 rfl (lv_room (Nat.le_of_ble_eq_true rfl)) dX7_pass_4 ⟨Nat.zero_le _, Nat.zero_le _⟩) hS (free_nil hS hA) (fun H locs hP1 hk hS => ?_)
  have hP := w_kept0 hP hk
  refine lv_if_ne (tgt := 13) hx hb dX7_pass_7 (by decide) (fun c_7 => ?_) (fun c_7 => ?_)
  · have hf := ite_f c_7 hf
    refine lv_aload_n hx hb dX7_pass_13 rfl (lv_at hl 0 rfl) ?_
    refine va_get (ci := 7) (C := RX7) (T := TX7) (N := 11) (v := .ref (a1 0)) hx hb hts i_X7_pass_X7 hown hK hP 0 rfl rfl 0 (by decide) (hts _ m_X7_pass_265b14) (fun _ h9 => h9) rfl dX7_pass_14 ?_
    refine va_getN (ci := 2) (C := RX2) (T := TX2) (N := 11) (v := .int (s1 8 0)) hx hb hts i_X7_pass_X2 hown hK hP 1 rfl rfl 8 (by decide) (nwG hG (w := .fieldLinkNest "PickedMatch" 152 "PickedMatch$Scene" "day" "I" "PickedMatch") (by decide +kernel)) (fun _ h9 => h9) rfl dX7_pass_17 ?_
    refine lv_iload_n hx hb dX7_pass_20 rfl (lv_at hl 1 rfl) ?_
    refine lv_iadd hx hb dX7_pass_21 ?_
    refine lv_sipush (v := 9999) hx hb dX7_pass_22 (by decide) ?_
    refine lv_icmp_le (tgt := 31) hx hb dX7_pass_25 (by decide) (fun c_25 => ?_) (fun c_25 => ?_)
    · have hf := ite_t c_25 hf
      refine lv_aload_n hx hb dX7_pass_31 rfl (lv_at hl 0 rfl) ?_
      refine va_get (ci := 7) (C := RX7) (T := TX7) (N := 11) (v := .ref (a1 0)) hx hb hts i_X7_pass_X7 hown hK hP 0 rfl rfl 0 (by decide) (hts _ m_X7_pass_265b14) (fun _ h9 => h9) rfl dX7_pass_32 ?_
      refine lv_iload_n hx hb dX7_pass_35 rfl (lv_at hl 1 rfl) ?_
      obtain ⟨q36, hc_36, hf⟩ := cl_e hf
      have hm_36 : ∀ q ∈ (wX2 E a1 s1 h1) ++ sW E.2.1 L, q ∈ (wX7o E a0 a1 a2 a3 a4 a5 a6 a7 a8 a9 s0 ++ (wX2 E a1 s1 h1 ++ (wX2 E a2 s2 h2 ++ (wX1 E a3 s3 ++ (wX2 E a4 s4 h4 ++ (wX1 E a5 s5 ++ (wX5 E a6 s6 ++ (wX3 E a7 s7 ++ (wX0 E a8 s8 ++ (wX6 E a9 s9 t9)))))))))) ++ sW E.2.1 L := (app_mem (sub_mem (suf := []) [1, 2, 3, 4, 5, 6, 7] rfl))
      refine fin_v (E := E) (wc := (wX2 E a1 s1 h1) ++ sW E.2.1 L) (wc' := (wX2 E a1 q36 h1) ++ sW E.2.1 L) (va_runVN (As := [.int p1]) (rest := []) ⟨hx, hb, hml, hown, hts⟩ (k_X2_daysGo l E a1 L N s1 h1 p1 q36 hc_36 _) ⟨va_cnB 1 hts gX7_pass_X2_daysGo_n176 rfl rfl rfl (hG.1 (.methodLinkNest "PickedMatch" 176 yX2_daysGo "PickedMatch") (by decide +kernel)) (hts _ m_X7_pass_4cf9d8) (by decide +kernel) ⟨(Nat.le_of_ble_eq_true rfl), (Nat.le_of_ble_eq_true rfl)⟩, (hts _ m_X7_pass_9de039), (hts _ m_X7_pass_a576f3)⟩ (pre_v (ci := 2) (q0 := 0) hK (sub_P hm_36 hP) (sub_Ds (wc := wX2 E a1 s1 h1) [1, 2, 3, 4, 5, 6, 7] (by decide) rfl (hDD s0 s1 h1 s2 h2 s3 s4 h4 s5 s6 s7 s8 s9 t9)) hS hG hAB rfl rfl) rfl rfl hl.1 rfl (lv_room (Nat.le_of_ble_eq_true rfl)) dX7_pass_36 ⟨Nat.zero_le _, Nat.zero_le _⟩) hS (w_free (hDD s0 s1 h1 s2 h2 s3 s4 h4 s5 s6 s7 s8 s9 t9) hS hA hm_36) (fun H locs hP1 hk hS => ?_)
      have hP := w_joins (ws' := wX7o E a0 a1 a2 a3 a4 a5 a6 a7 a8 a9 s0 ++ (wX2 E a1 q36 h1 ++ (wX2 E a2 s2 h2 ++ (wX1 E a3 s3 ++ (wX2 E a4 s4 h4 ++ (wX1 E a5 s5 ++ (wX5 E a6 s6 ++ (wX3 E a7 s7 ++ (wX0 E a8 s8 ++ (wX6 E a9 s9 t9)))))))))) (wc := wX2 E a1 s1 h1) (wc' := wX2 E a1 q36 h1) hP (hDD s0 s1 h1 s2 h2 s3 s4 h4 s5 s6 s7 s8 s9 t9) [1, 2, 3, 4, 5, 6, 7] rfl [none, some 0, some 1, some 2, some 3, some 4, some 5, some 6, none, none, none, none, none, none, none, none, none, none, none, none, none, none, none, none, none, none, none, none, none, none, none, none, none, none, none, none, none, none, none, none, none, none, none, none, none, none, none, none, none, none] rfl rfl hk hP1
      refine lv_aload_n hx hb dX7_pass_39 rfl (lv_at hl 0 rfl) ?_
      refine va_get (ci := 7) (C := RX7) (T := TX7) (N := 11) (v := .ref (a1 0)) hx hb hts i_X7_pass_X7 hown hK hP 0 rfl rfl 0 (by decide) (hts _ m_X7_pass_265b14) (fun _ h9 => h9) rfl dX7_pass_40 ?_
      refine va_getN (ci := 2) (C := RX2) (T := TX2) (N := 11) (v := .int (q36 6 0)) hx hb hts i_X7_pass_X2 hown hK hP 1 rfl rfl 6 (by decide) (nwG hG (w := .fieldLinkNest "PickedMatch" 108 "PickedMatch$Scene" "hadCount" "I" "PickedMatch") (by decide +kernel)) (fun _ h9 => h9) rfl dX7_pass_43 ?_
      have e9 := Option.some.inj hf
      exact rt_i hx hb hr hlocks (fst_e e9) (rtP (P := fun z => va_P E.1 vwCl ((wX7o E a0 a1 a2 a3 a4 a5 a6 a7 a8 a9 s0 ++ (wX2 E a1 z.2 h1 ++ (wX2 E a2 s2 h2 ++ (wX1 E a3 s3 ++ (wX2 E a4 s4 h4 ++ (wX1 E a5 s5 ++ (wX5 E a6 s6 ++ (wX3 E a7 s7 ++ (wX0 E a8 s8 ++ (wX6 E a9 s9 t9)))))))))) ++ sW E.2.1 L) H) e9 hP) hS dX7_pass_46
    · have hf := ite_f c_25 hf
      refine lv_bipush (v := (-3)) hx hb dX7_pass_28 (by decide) ?_
      have e9 := Option.some.inj hf
      exact rt_i hx hb hr hlocks (fst_e e9) (rtP (P := fun z => va_P E.1 vwCl ((wX7o E a0 a1 a2 a3 a4 a5 a6 a7 a8 a9 s0 ++ (wX2 E a1 z.2 h1 ++ (wX2 E a2 s2 h2 ++ (wX1 E a3 s3 ++ (wX2 E a4 s4 h4 ++ (wX1 E a5 s5 ++ (wX5 E a6 s6 ++ (wX3 E a7 s7 ++ (wX0 E a8 s8 ++ (wX6 E a9 s9 t9)))))))))) ++ sW E.2.1 L) H) e9 hP) hS dX7_pass_30
  · have hf := ite_t c_7 hf
    refine lv_bipush (v := (-2)) hx hb dX7_pass_10 (by decide) ?_
    have e9 := Option.some.inj hf
    exact rt_i hx hb hr hlocks (fst_e e9) (rtP (P := fun z => va_P E.1 vwCl ((wX7o E a0 a1 a2 a3 a4 a5 a6 a7 a8 a9 s0 ++ (wX2 E a1 z.2 h1 ++ (wX2 E a2 s2 h2 ++ (wX1 E a3 s3 ++ (wX2 E a4 s4 h4 ++ (wX1 E a5 s5 ++ (wX5 E a6 s6 ++ (wX3 E a7 s7 ++ (wX0 E a8 s8 ++ (wX6 E a9 s9 t9)))))))))) ++ sW E.2.1 L) H) e9 hP) hS dX7_pass_12
abbrev rm_X7_on : Room := { frames := 6, cells := 0, slots := 0, locals := 138 }
theorem m_X7_on_5dfb42 : Cond.fieldLink RX7 18 "PickedMatch" "trial" "LPickedMatch$Scene;" ∈ wsX7_on := by decide +kernel
theorem i_X7_on_X7 : ∀ w ∈ wsX70, w ∈ wsX7_on := fun _ h => List.mem_cons_of_mem _ (List.mem_append_left _ (List.mem_append_left _ (List.mem_append_right _ h)))
theorem m_X7_on_265b14 : Cond.fieldLink RX7 12 "PickedMatch" "scene" "LPickedMatch$Scene;" ∈ wsX7_on := by decide +kernel
theorem m_X7_on_4cf9d8 : Cond.initialized RX2 ∈ wsX7_on := by decide +kernel
theorem m_X7_on_c21ce8 : Cond.instanceMethod yX2_becomeAs ∈ wsX7_on := by decide +kernel
theorem m_X7_on_986579 : Cond.selects RX2 yX2_becomeAs yX2_becomeAs ∈ wsX7_on := by decide +kernel
theorem m_X7_on_9de039 : Cond.instanceMethod yX2_daysGo ∈ wsX7_on := by decide +kernel
theorem m_X7_on_a576f3 : Cond.selects RX2 yX2_daysGo yX2_daysGo ∈ wsX7_on := by decide +kernel
theorem i_X7_on_X2 : ∀ w ∈ wsX20, w ∈ wsX7_on := fun _ h => List.mem_cons_of_mem _ (List.mem_append_left _ (List.mem_append_right _ h))
set_option maxHeartbeats 8000000 in
set_option maxRecDepth 100000 in
theorem k_X7_on (l : Launch) (E : Ev) (a0 : Nat → Nat) (a1 : Nat → Nat) (a2 : Nat → Nat) (a3 : Nat → Nat) (a4 : Nat → Nat) (a5 : Nat → Nat) (a6 : Nat → Nat) (a7 : Nat → Nat) (a8 : Nat → Nat) (a9 : Nat → Nat) (L : List SR) (N : Nat) (s0 : St) (s1 : St) (h1 : Option SR) (s2 : St) (h2 : Option SR) (s3 : St) (s4 : St) (h4 : Option SR) (s5 : St) (s6 : St) (s7 : St) (s8 : St) (s9 : St) (t9 : Nat → Nat → Int64) (p1 : Int32) (p2 : Int32) (q : (Int32 × St × (Option SR))) (hf : f_X7_on N L s1 h1 s2 h2 p1 p2 = some q) : Ci l yX7_on wsX7_on rm_X7_on E [.ref (a0 0), .int p1, .int p2] ((wX7o E a0 a1 a2 a3 a4 a5 a6 a7 a8 a9 s0 ++ (wX2 E a1 s1 h1 ++ (wX2 E a2 s2 h2 ++ (wX1 E a3 s3 ++ (wX2 E a4 s4 h4 ++ (wX1 E a5 s5 ++ (wX5 E a6 s6 ++ (wX3 E a7 s7 ++ (wX0 E a8 s8 ++ (wX6 E a9 s9 t9)))))))))) ++ sW E.2.1 L) ((wX7o E a0 a1 a2 a3 a4 a5 a6 a7 a8 a9 s0 ++ (wX2 E a1 s1 h1 ++ (wX2 E a2 q.2.1 q.2.2 ++ (wX1 E a3 s3 ++ (wX2 E a4 s4 h4 ++ (wX1 E a5 s5 ++ (wX5 E a6 s6 ++ (wX3 E a7 s7 ++ (wX0 E a8 s8 ++ (wX6 E a9 s9 t9)))))))))) ++ sW E.2.1 L) q.1 := by
  unfold f_X7_on at hf
  intro sz
  refine Met.ofW (cc := cX7_on) (maxL := 3) (ret := (some .int)) (by decide) rfl ?_
  intro p e s m args below meth c s₁ B hml hpre
  obtain ⟨rfl, hsz, hP, hK, hD0, hG, hA, hAB⟩ := start hpre
  have hx := B.exec
  have hb := B.bytes
  have hr := B.returns
  have hts := atoms_spec (ws := wsX7_on) B.pre
  have hown : s.vm.findClass RX7 = some m.cls := findClass_of_methodNamed B.named
  have hlocks := B.notSynchronized
  subst hsz
  generalize va_A ((wX7o E a0 a1 a2 a3 a4 a5 a6 a7 a8 a9 s0 ++ (wX2 E a1 s1 h1 ++ (wX2 E a2 s2 h2 ++ (wX1 E a3 s3 ++ (wX2 E a4 s4 h4 ++ (wX1 E a5 s5 ++ (wX5 E a6 s6 ++ (wX3 E a7 s7 ++ (wX0 E a8 s8 ++ (wX6 E a9 s9 t9)))))))))) ++ sW E.2.1 L) s.heap.size = A0 at hD0 hA hAB ⊢
  have hDD : ∀ (s0 : St) (s1 : St) (h1 : Option SR) (s2 : St) (h2 : Option SR) (s3 : St) (s4 : St) (h4 : Option SR) (s5 : St) (s6 : St) (s7 : St) (s8 : St) (s9 : St) (t9 : Nat → Nat → Int64), va_D A0 ((wX7o E a0 a1 a2 a3 a4 a5 a6 a7 a8 a9 s0 ++ (wX2 E a1 s1 h1 ++ (wX2 E a2 s2 h2 ++ (wX1 E a3 s3 ++ (wX2 E a4 s4 h4 ++ (wX1 E a5 s5 ++ (wX5 E a6 s6 ++ (wX3 E a7 s7 ++ (wX0 E a8 s8 ++ (wX6 E a9 s9 t9)))))))))) ++ sW E.2.1 L) := fun s0 s1 h1 s2 h2 s3 s4 h4 s5 s6 s7 s8 s9 t9 => vD_addr hD0 rfl
  have hS : va_S A0 s.heap s.heap [] := va_S.rf
  have hl := lv_entry ([.ref (a0 0), .int p1, .int p2]) (n := 3) (Nat.le_of_ble_eq_true rfl)
  rw [lg_entry_eq]
  generalize (lg_sl ([.ref (a0 0), .int p1, .int p2]) ++ List.replicate (3 - (lg_sl ([.ref (a0 0), .int p1, .int p2])).length) Slot.unset).toArray = ls at hl ⊢
  have hl : lv_has ls 3 [(0, .ref (a0 0)), (1, .int p1), (2, .int p2)] := hl
  refine lv_iload_n hx hb dX7_on_0 rfl (lv_at hl 2 rfl) ?_
  refine lv_iconst (v := 0) hx hb dX7_on_1 (by decide) ?_
  refine lv_iconst (v := 1) hx hb dX7_on_2 (by decide) ?_
  obtain ⟨q3, hc_3, hf⟩ := cl_e hf
  refine fin_i (E := E) (wc := ([] : va_W)) (wc' := ([] : va_W)) (va_runS (As := [.int p2, .int 0, .int 1]) (rest := []) ⟨hx, hb, hml, hown, hts⟩ (k_X7_isWithin l E N p2 0 1 q3 hc_3 _) (va_cwS 3 hts gX7_on_X7_isWithin rfl rfl rfl (by decide +kernel) ⟨(Nat.le_of_ble_eq_true rfl), (Nat.le_of_ble_eq_true rfl)⟩) (pre_s hK va_P_nil va_D_nil hS hG hAB) rfl rfl hl.1 rfl (lv_room (Nat.le_of_ble_eq_true rfl)) dX7_on_3 ⟨Nat.zero_le _, Nat.zero_le _⟩) hS (free_nil hS hA) (fun H locs hP1 hk hS => ?_)
  have hP := w_kept0 hP hk
  refine lv_if_ne (tgt := 11) hx hb dX7_on_6 (by decide) (fun c_6 => ?_) (fun c_6 => ?_)
  · have hf := ite_f c_6 hf
    refine lv_iload_n hx hb dX7_on_11 rfl (lv_at hl 1 rfl) ?_
    refine lv_iconst (v := 0) hx hb dX7_on_12 (by decide) ?_
    refine lv_bipush (v := 60) hx hb dX7_on_13 (by decide) ?_
    obtain ⟨q15, hc_15, hf⟩ := cl_e hf
    refine fin_i (E := E) (wc := ([] : va_W)) (wc' := ([] : va_W)) (va_runS (As := [.int p1, .int 0, .int 60]) (rest := []) ⟨hx, hb, hml, hown, hts⟩ (k_X7_isWithin l E N p1 0 60 q15 hc_15 _) (va_cwS 3 hts gX7_on_X7_isWithin rfl rfl rfl (by decide +kernel) ⟨(Nat.le_of_ble_eq_true rfl), (Nat.le_of_ble_eq_true rfl)⟩) (pre_s hK va_P_nil va_D_nil hS hG hAB) rfl rfl hl.1 rfl (lv_room (Nat.le_of_ble_eq_true rfl)) dX7_on_15 ⟨Nat.zero_le _, Nat.zero_le _⟩) hS (free_nil hS hA) (fun H locs hP1 hk hS => ?_)
    have hP := w_kept0 hP hk
    refine lv_if_ne (tgt := 24) hx hb dX7_on_18 (by decide) (fun c_18 => ?_) (fun c_18 => ?_)
    · have hf := ite_f c_18 hf
      refine lv_aload_n hx hb dX7_on_24 rfl (lv_at hl 0 rfl) ?_
      refine va_get (ci := 7) (C := RX7) (T := TX7) (N := 11) (v := .ref (a2 0)) hx hb hts i_X7_on_X7 hown hK hP 0 rfl rfl 1 (by decide) (hts _ m_X7_on_5dfb42) (fun _ h9 => h9) rfl dX7_on_25 ?_
      refine lv_aload_n hx hb dX7_on_28 rfl (lv_at hl 0 rfl) ?_
      refine va_get (ci := 7) (C := RX7) (T := TX7) (N := 11) (v := .ref (a1 0)) hx hb hts i_X7_on_X7 hown hK hP 0 rfl rfl 0 (by decide) (hts _ m_X7_on_265b14) (fun _ h9 => h9) rfl dX7_on_29 ?_
      obtain ⟨q32, hc_32, hf⟩ := cl_e hf
      have hm_32 : ∀ q ∈ (wX2 E a2 s2 h2 ++ (wX2 E a1 s1 h1)) ++ sW E.2.1 L, q ∈ (wX7o E a0 a1 a2 a3 a4 a5 a6 a7 a8 a9 s0 ++ (wX2 E a1 s1 h1 ++ (wX2 E a2 s2 h2 ++ (wX1 E a3 s3 ++ (wX2 E a4 s4 h4 ++ (wX1 E a5 s5 ++ (wX5 E a6 s6 ++ (wX3 E a7 s7 ++ (wX0 E a8 s8 ++ (wX6 E a9 s9 t9)))))))))) ++ sW E.2.1 L := (app_mem (sub_mem (suf := []) [8, 9, 10, 11, 12, 13, 14, 1, 2, 3, 4, 5, 6, 7] rfl))
      refine fin_v (E := E) (wc := (wX2 E a2 s2 h2 ++ (wX2 E a1 s1 h1)) ++ sW E.2.1 L) (wc' := (wX2 E a2 q32.1 q32.2 ++ (wX2 E a1 s1 h1)) ++ sW E.2.1 L) (va_runVN (As := [.ref (a1 0)]) (rest := []) ⟨hx, hb, hml, hown, hts⟩ (k_X2_becomeAs l E a2 a1 L N s2 h2 s1 h1 q32 hc_32 _) ⟨va_cnB 1 hts gX7_on_X2_becomeAs_n179 rfl rfl rfl (hG.1 (.methodLinkNest "PickedMatch" 179 yX2_becomeAs "PickedMatch") (by decide +kernel)) (hts _ m_X7_on_4cf9d8) (by decide +kernel) ⟨(Nat.le_of_ble_eq_true rfl), (Nat.le_of_ble_eq_true rfl)⟩, (hts _ m_X7_on_c21ce8), (hts _ m_X7_on_986579)⟩ (pre_v (ci := 2) (q0 := 0) hK (sub_P hm_32 hP) (sub_Ds (wc := wX2 E a2 s2 h2 ++ (wX2 E a1 s1 h1)) [8, 9, 10, 11, 12, 13, 14, 1, 2, 3, 4, 5, 6, 7] (by decide) rfl (hDD s0 s1 h1 s2 h2 s3 s4 h4 s5 s6 s7 s8 s9 t9)) hS hG hAB rfl rfl) rfl rfl hl.1 rfl (lv_room (Nat.le_of_ble_eq_true rfl)) dX7_on_32 ⟨Nat.zero_le _, Nat.zero_le _⟩) hS (w_free (hDD s0 s1 h1 s2 h2 s3 s4 h4 s5 s6 s7 s8 s9 t9) hS hA hm_32) (fun H locs hP1 hk hS => ?_)
      have hP := w_joins (ws' := wX7o E a0 a1 a2 a3 a4 a5 a6 a7 a8 a9 s0 ++ (wX2 E a1 s1 h1 ++ (wX2 E a2 q32.1 q32.2 ++ (wX1 E a3 s3 ++ (wX2 E a4 s4 h4 ++ (wX1 E a5 s5 ++ (wX5 E a6 s6 ++ (wX3 E a7 s7 ++ (wX0 E a8 s8 ++ (wX6 E a9 s9 t9)))))))))) (wc := wX2 E a2 s2 h2 ++ (wX2 E a1 s1 h1)) (wc' := wX2 E a2 q32.1 q32.2 ++ (wX2 E a1 s1 h1)) hP (hDD s0 s1 h1 s2 h2 s3 s4 h4 s5 s6 s7 s8 s9 t9) [8, 9, 10, 11, 12, 13, 14, 1, 2, 3, 4, 5, 6, 7] rfl [none, some 7, some 8, some 9, some 10, some 11, some 12, some 13, some 0, some 1, some 2, some 3, some 4, some 5, some 6, none, none, none, none, none, none, none, none, none, none, none, none, none, none, none, none, none, none, none, none, none, none, none, none, none, none, none, none, none, none, none, none, none, none, none] rfl rfl hk hP1
      refine lv_aload_n hx hb dX7_on_35 rfl (lv_at hl 0 rfl) ?_
      refine va_get (ci := 7) (C := RX7) (T := TX7) (N := 11) (v := .ref (a2 0)) hx hb hts i_X7_on_X7 hown hK hP 0 rfl rfl 1 (by decide) (hts _ m_X7_on_5dfb42) (fun _ h9 => h9) rfl dX7_on_36 ?_
      refine lv_iload_n hx hb dX7_on_39 rfl (lv_at hl 1 rfl) ?_
      obtain ⟨q40, hc_40, hf⟩ := cl_e hf
      have hm_40 : ∀ q ∈ (wX2 E a2 q32.1 q32.2) ++ sW E.2.1 L, q ∈ (wX7o E a0 a1 a2 a3 a4 a5 a6 a7 a8 a9 s0 ++ (wX2 E a1 s1 h1 ++ (wX2 E a2 q32.1 q32.2 ++ (wX1 E a3 s3 ++ (wX2 E a4 s4 h4 ++ (wX1 E a5 s5 ++ (wX5 E a6 s6 ++ (wX3 E a7 s7 ++ (wX0 E a8 s8 ++ (wX6 E a9 s9 t9)))))))))) ++ sW E.2.1 L := (app_mem (sub_mem (suf := []) [8, 9, 10, 11, 12, 13, 14] rfl))
      refine fin_v (E := E) (wc := (wX2 E a2 q32.1 q32.2) ++ sW E.2.1 L) (wc' := (wX2 E a2 q40 q32.2) ++ sW E.2.1 L) (va_runVN (As := [.int p1]) (rest := []) ⟨hx, hb, hml, hown, hts⟩ (k_X2_daysGo l E a2 L N q32.1 q32.2 p1 q40 hc_40 _) ⟨va_cnB 1 hts gX7_on_X2_daysGo_n176 rfl rfl rfl (hG.1 (.methodLinkNest "PickedMatch" 176 yX2_daysGo "PickedMatch") (by decide +kernel)) (hts _ m_X7_on_4cf9d8) (by decide +kernel) ⟨(Nat.le_of_ble_eq_true rfl), (Nat.le_of_ble_eq_true rfl)⟩, (hts _ m_X7_on_9de039), (hts _ m_X7_on_a576f3)⟩ (pre_v (ci := 2) (q0 := 0) hK (sub_P hm_40 hP) (sub_Ds (wc := wX2 E a2 q32.1 q32.2) [8, 9, 10, 11, 12, 13, 14] (by decide) rfl (hDD s0 s1 h1 q32.1 q32.2 s3 s4 h4 s5 s6 s7 s8 s9 t9)) hS hG hAB rfl rfl) rfl rfl hl.1 rfl (lv_room (Nat.le_of_ble_eq_true rfl)) dX7_on_40 ⟨Nat.zero_le _, Nat.zero_le _⟩) hS (w_free (hDD s0 s1 h1 q32.1 q32.2 s3 s4 h4 s5 s6 s7 s8 s9 t9) hS hA hm_40) (fun H locs hP1 hk hS => ?_)
      have hP := w_joins (ws' := wX7o E a0 a1 a2 a3 a4 a5 a6 a7 a8 a9 s0 ++ (wX2 E a1 s1 h1 ++ (wX2 E a2 q40 q32.2 ++ (wX1 E a3 s3 ++ (wX2 E a4 s4 h4 ++ (wX1 E a5 s5 ++ (wX5 E a6 s6 ++ (wX3 E a7 s7 ++ (wX0 E a8 s8 ++ (wX6 E a9 s9 t9)))))))))) (wc := wX2 E a2 q32.1 q32.2) (wc' := wX2 E a2 q40 q32.2) hP (hDD s0 s1 h1 q32.1 q32.2 s3 s4 h4 s5 s6 s7 s8 s9 t9) [8, 9, 10, 11, 12, 13, 14] rfl [none, none, none, none, none, none, none, none, some 0, some 1, some 2, some 3, some 4, some 5, some 6, none, none, none, none, none, none, none, none, none, none, none, none, none, none, none, none, none, none, none, none, none, none, none, none, none, none, none, none, none, none, none, none, none, none, none] rfl rfl hk hP1
      refine lv_iload_n hx hb dX7_on_43 rfl (lv_at hl 2 rfl) ?_
      refine lv_if_ne (tgt := 57) hx hb dX7_on_44 (by decide) (fun c_44 => ?_) (fun c_44 => ?_)
      · have hf := ite_f c_44 hf
        refine lv_aload_n hx hb dX7_on_57 rfl (lv_at hl 0 rfl) ?_
        refine va_get (ci := 7) (C := RX7) (T := TX7) (N := 11) (v := .ref (a2 0)) hx hb hts i_X7_on_X7 hown hK hP 0 rfl rfl 1 (by decide) (hts _ m_X7_on_5dfb42) (fun _ h9 => h9) rfl dX7_on_58 ?_
        refine va_getN (ci := 2) (C := RX2) (T := TX2) (N := 11) (v := .int (q40 6 0)) hx hb hts i_X7_on_X2 hown hK hP 8 rfl rfl 6 (by decide) (nwG hG (w := .fieldLinkNest "PickedMatch" 108 "PickedMatch$Scene" "hadCount" "I" "PickedMatch") (by decide +kernel)) (fun _ h9 => h9) rfl dX7_on_61 ?_
        have e9 := Option.some.inj hf
        exact rt_i hx hb hr hlocks (fst_e e9) (rtP (P := fun z => va_P E.1 vwCl ((wX7o E a0 a1 a2 a3 a4 a5 a6 a7 a8 a9 s0 ++ (wX2 E a1 s1 h1 ++ (wX2 E a2 z.2.1 z.2.2 ++ (wX1 E a3 s3 ++ (wX2 E a4 s4 h4 ++ (wX1 E a5 s5 ++ (wX5 E a6 s6 ++ (wX3 E a7 s7 ++ (wX0 E a8 s8 ++ (wX6 E a9 s9 t9)))))))))) ++ sW E.2.1 L) H) e9 hP) hS dX7_on_64
      · have hf := ite_t c_44 hf
        refine lv_aload_n hx hb dX7_on_47 rfl (lv_at hl 0 rfl) ?_
        refine va_get (ci := 7) (C := RX7) (T := TX7) (N := 11) (v := .ref (a2 0)) hx hb hts i_X7_on_X7 hown hK hP 0 rfl rfl 1 (by decide) (hts _ m_X7_on_5dfb42) (fun _ h9 => h9) rfl dX7_on_48 ?_
        refine va_getN (ci := 2) (C := RX2) (T := TX2) (N := 11) (v := .int (q40 7 0)) hx hb hts i_X7_on_X2 hown hK hP 8 rfl rfl 7 (by decide) (nwG hG (w := .fieldLinkNest "PickedMatch" 161 "PickedMatch$Scene" "hadBits" "I" "PickedMatch") (by decide +kernel)) (fun _ h9 => h9) rfl dX7_on_51 ?_
        refine lv_goto (tgt := 64) hx hb dX7_on_54 (by decide) ?_
        have e9 := Option.some.inj hf
        exact rt_i hx hb hr hlocks (fst_e e9) (rtP (P := fun z => va_P E.1 vwCl ((wX7o E a0 a1 a2 a3 a4 a5 a6 a7 a8 a9 s0 ++ (wX2 E a1 s1 h1 ++ (wX2 E a2 z.2.1 z.2.2 ++ (wX1 E a3 s3 ++ (wX2 E a4 s4 h4 ++ (wX1 E a5 s5 ++ (wX5 E a6 s6 ++ (wX3 E a7 s7 ++ (wX0 E a8 s8 ++ (wX6 E a9 s9 t9)))))))))) ++ sW E.2.1 L) H) e9 hP) hS dX7_on_64
    · have hf := ite_t c_18 hf
      refine lv_bipush (v := (-2)) hx hb dX7_on_21 (by decide) ?_
      have e9 := Option.some.inj hf
      exact rt_i hx hb hr hlocks (fst_e e9) (rtP (P := fun z => va_P E.1 vwCl ((wX7o E a0 a1 a2 a3 a4 a5 a6 a7 a8 a9 s0 ++ (wX2 E a1 s1 h1 ++ (wX2 E a2 z.2.1 z.2.2 ++ (wX1 E a3 s3 ++ (wX2 E a4 s4 h4 ++ (wX1 E a5 s5 ++ (wX5 E a6 s6 ++ (wX3 E a7 s7 ++ (wX0 E a8 s8 ++ (wX6 E a9 s9 t9)))))))))) ++ sW E.2.1 L) H) e9 hP) hS dX7_on_23
  · have hf := ite_t c_6 hf
    refine lv_iconst (v := (-1)) hx hb dX7_on_9 (by decide) ?_
    have e9 := Option.some.inj hf
    exact rt_i hx hb hr hlocks (fst_e e9) (rtP (P := fun z => va_P E.1 vwCl ((wX7o E a0 a1 a2 a3 a4 a5 a6 a7 a8 a9 s0 ++ (wX2 E a1 s1 h1 ++ (wX2 E a2 z.2.1 z.2.2 ++ (wX1 E a3 s3 ++ (wX2 E a4 s4 h4 ++ (wX1 E a5 s5 ++ (wX5 E a6 s6 ++ (wX3 E a7 s7 ++ (wX0 E a8 s8 ++ (wX6 E a9 s9 t9)))))))))) ++ sW E.2.1 L) H) e9 hP) hS dX7_on_10
abbrev rm_X7_soon : Room := { frames := 5, cells := 0, slots := 0, locals := 116 }
theorem m_X7_soon_5dfb42 : Cond.fieldLink RX7 18 "PickedMatch" "trial" "LPickedMatch$Scene;" ∈ wsX7_soon := by decide +kernel
theorem i_X7_soon_X7 : ∀ w ∈ wsX70, w ∈ wsX7_soon := fun _ h => List.mem_cons_of_mem _ (List.mem_append_left _ (List.mem_append_left _ (List.mem_append_right _ h)))
theorem i_X7_soon_X2 : ∀ w ∈ wsX20, w ∈ wsX7_soon := fun _ h => List.mem_cons_of_mem _ (List.mem_append_left _ (List.mem_append_right _ h))
theorem m_X7_soon_4cf9d8 : Cond.initialized RX2 ∈ wsX7_soon := by decide +kernel
theorem m_X7_soon_4d7acd : Cond.instanceMethod yX2_dayGoes ∈ wsX7_soon := by decide +kernel
theorem m_X7_soon_3b6c31 : Cond.selects RX2 yX2_dayGoes yX2_dayGoes ∈ wsX7_soon := by decide +kernel
theorem m_X7_soon_265b14 : Cond.fieldLink RX7 12 "PickedMatch" "scene" "LPickedMatch$Scene;" ∈ wsX7_soon := by decide +kernel
theorem m_X7_soon_c21ce8 : Cond.instanceMethod yX2_becomeAs ∈ wsX7_soon := by decide +kernel
theorem m_X7_soon_986579 : Cond.selects RX2 yX2_becomeAs yX2_becomeAs ∈ wsX7_soon := by decide +kernel
set_option maxHeartbeats 8000000 in
set_option maxRecDepth 100000 in
theorem k_X7_soon (l : Launch) (E : Ev) (a0 : Nat → Nat) (a1 : Nat → Nat) (a2 : Nat → Nat) (a3 : Nat → Nat) (a4 : Nat → Nat) (a5 : Nat → Nat) (a6 : Nat → Nat) (a7 : Nat → Nat) (a8 : Nat → Nat) (a9 : Nat → Nat) (L : List SR) (N : Nat) (s0 : St) (s1 : St) (h1 : Option SR) (s2 : St) (h2 : Option SR) (s3 : St) (s4 : St) (h4 : Option SR) (s5 : St) (s6 : St) (s7 : St) (s8 : St) (s9 : St) (t9 : Nat → Nat → Int64) (p1 : Int32) (q : (Int32 × St × (Option SR))) (hf : f_X7_soon N L s1 h1 s2 h2 p1 = some q) : Ci l yX7_soon wsX7_soon rm_X7_soon E [.ref (a0 0), .int p1] ((wX7o E a0 a1 a2 a3 a4 a5 a6 a7 a8 a9 s0 ++ (wX2 E a1 s1 h1 ++ (wX2 E a2 s2 h2 ++ (wX1 E a3 s3 ++ (wX2 E a4 s4 h4 ++ (wX1 E a5 s5 ++ (wX5 E a6 s6 ++ (wX3 E a7 s7 ++ (wX0 E a8 s8 ++ (wX6 E a9 s9 t9)))))))))) ++ sW E.2.1 L) ((wX7o E a0 a1 a2 a3 a4 a5 a6 a7 a8 a9 s0 ++ (wX2 E a1 s1 h1 ++ (wX2 E a2 q.2.1 q.2.2 ++ (wX1 E a3 s3 ++ (wX2 E a4 s4 h4 ++ (wX1 E a5 s5 ++ (wX5 E a6 s6 ++ (wX3 E a7 s7 ++ (wX0 E a8 s8 ++ (wX6 E a9 s9 t9)))))))))) ++ sW E.2.1 L) q.1 := by
  unfold f_X7_soon at hf
  intro sz
  refine Met.ofW (cc := cX7_soon) (maxL := 3) (ret := (some .int)) (by decide) rfl ?_
  intro p e s m args below meth c s₁ B hml hpre
  obtain ⟨rfl, hsz, hP, hK, hD0, hG, hA, hAB⟩ := start hpre
  have hx := B.exec
  have hb := B.bytes
  have hr := B.returns
  have hts := atoms_spec (ws := wsX7_soon) B.pre
  have hown : s.vm.findClass RX7 = some m.cls := findClass_of_methodNamed B.named
  have hlocks := B.notSynchronized
  subst hsz
  generalize va_A ((wX7o E a0 a1 a2 a3 a4 a5 a6 a7 a8 a9 s0 ++ (wX2 E a1 s1 h1 ++ (wX2 E a2 s2 h2 ++ (wX1 E a3 s3 ++ (wX2 E a4 s4 h4 ++ (wX1 E a5 s5 ++ (wX5 E a6 s6 ++ (wX3 E a7 s7 ++ (wX0 E a8 s8 ++ (wX6 E a9 s9 t9)))))))))) ++ sW E.2.1 L) s.heap.size = A0 at hD0 hA hAB ⊢
  have hDD : ∀ (s0 : St) (s1 : St) (h1 : Option SR) (s2 : St) (h2 : Option SR) (s3 : St) (s4 : St) (h4 : Option SR) (s5 : St) (s6 : St) (s7 : St) (s8 : St) (s9 : St) (t9 : Nat → Nat → Int64), va_D A0 ((wX7o E a0 a1 a2 a3 a4 a5 a6 a7 a8 a9 s0 ++ (wX2 E a1 s1 h1 ++ (wX2 E a2 s2 h2 ++ (wX1 E a3 s3 ++ (wX2 E a4 s4 h4 ++ (wX1 E a5 s5 ++ (wX5 E a6 s6 ++ (wX3 E a7 s7 ++ (wX0 E a8 s8 ++ (wX6 E a9 s9 t9)))))))))) ++ sW E.2.1 L) := fun s0 s1 h1 s2 h2 s3 s4 h4 s5 s6 s7 s8 s9 t9 => vD_addr hD0 rfl
  have hS : va_S A0 s.heap s.heap [] := va_S.rf
  have hl := lv_entry ([.ref (a0 0), .int p1]) (n := 3) (Nat.le_of_ble_eq_true rfl)
  rw [lg_entry_eq]
  generalize (lg_sl ([.ref (a0 0), .int p1]) ++ List.replicate (3 - (lg_sl ([.ref (a0 0), .int p1])).length) Slot.unset).toArray = ls at hl ⊢
  have hl : lv_has ls 3 [(0, .ref (a0 0)), (1, .int p1)] := hl
  have hL_26 : ∀ (s1 : St) (h1 : Option SR) (v1 : Int32) (n_26 : Nat) (s2 : St) (h2 : Option SR) (v2 : Int32), l_X7_soon_26 N L s1 h1 v1 n_26 s2 h2 v2 = some q → ∀ (H : Heap) (locs : List Loc) (ls : Array Slot), va_P E.1 vwCl ((wX7o E a0 a1 a2 a3 a4 a5 a6 a7 a8 a9 s0 ++ (wX2 E a1 s1 h1 ++ (wX2 E a2 s2 h2 ++ (wX1 E a3 s3 ++ (wX2 E a4 s4 h4 ++ (wX1 E a5 s5 ++ (wX5 E a6 s6 ++ (wX3 E a7 s7 ++ (wX0 E a8 s8 ++ (wX6 E a9 s9 t9)))))))))) ++ sW E.2.1 L) H → va_S A0 s.heap H locs → lv_has ls 3 [(0, .ref (a0 0)), (1, .int v1), (2, .int v2)] → W p l e rm_X7_soon s m ([.ref (a0 0), .int p1] : List Value).toArray below meth c H locs 0 0 (MQ below (va_Qi (fun (r' : Int32) (_ : Unit) => r' = q.1) (fun _ t => va_P E.1 vwCl ((wX7o E a0 a1 a2 a3 a4 a5 a6 a7 a8 a9 s0 ++ (wX2 E a1 s1 h1 ++ (wX2 E a2 q.2.1 q.2.2 ++ (wX1 E a3 s3 ++ (wX2 E a4 s4 h4 ++ (wX1 E a5 s5 ++ (wX5 E a6 s6 ++ (wX3 E a7 s7 ++ (wX0 E a8 s8 ++ (wX6 E a9 s9 t9)))))))))) ++ sW E.2.1 L) t.heap) A0) ([.ref (a0 0), .int p1] : List Value).toArray s 0 0 A0) (F0 m 26 ls []) := by
    intro s1 h1 v1 n_26
    induction n_26 with
    | zero => intro s2 h2 v2 hf; rw [l_X7_soon_26] at hf; cases hf
    | succ n_26 ih_26 =>
      intro s2 h2 v2 hf H locs ls hP hS hl
      rw [l_X7_soon_26] at hf
      refine lv_iload_n hx hb dX7_soon_26 rfl (lv_at hl 2 rfl) ?_
      refine lv_bipush (v := 60) hx hb dX7_soon_27 (by decide) ?_
      refine lv_icmp_gt (tgt := 58) hx hb dX7_soon_29 (by decide) (fun c_29 => ?_) (fun c_29 => ?_)
      · have hf := ite_t c_29 hf
        refine lv_bipush (v := (-5)) hx hb dX7_soon_58 (by decide) ?_
        have e9 := Option.some.inj hf
        exact rt_i hx hb hr hlocks (fst_e e9) (rtP (P := fun z => va_P E.1 vwCl ((wX7o E a0 a1 a2 a3 a4 a5 a6 a7 a8 a9 s0 ++ (wX2 E a1 s1 h1 ++ (wX2 E a2 z.2.1 z.2.2 ++ (wX1 E a3 s3 ++ (wX2 E a4 s4 h4 ++ (wX1 E a5 s5 ++ (wX5 E a6 s6 ++ (wX3 E a7 s7 ++ (wX0 E a8 s8 ++ (wX6 E a9 s9 t9)))))))))) ++ sW E.2.1 L) H) e9 hP) hS dX7_soon_60
      · have hf := ite_f c_29 hf
        refine lv_aload_n hx hb dX7_soon_32 rfl (lv_at hl 0 rfl) ?_
        refine va_get (ci := 7) (C := RX7) (T := TX7) (N := 11) (v := .ref (a2 0)) hx hb hts i_X7_soon_X7 hown hK hP 0 rfl rfl 1 (by decide) (hts _ m_X7_soon_5dfb42) (fun _ h9 => h9) rfl dX7_soon_33 ?_
        refine va_getN (ci := 2) (C := RX2) (T := TX2) (N := 11) (v := .int (s2 6 0)) hx hb hts i_X7_soon_X2 hown hK hP 8 rfl rfl 6 (by decide) (nwG hG (w := .fieldLinkNest "PickedMatch" 108 "PickedMatch$Scene" "hadCount" "I" "PickedMatch") (by decide +kernel)) (fun _ h9 => h9) rfl dX7_soon_36 ?_
        refine lv_iload_n hx hb dX7_soon_39 rfl (lv_at hl 1 rfl) ?_
        refine lv_icmp_lt (tgt := 45) hx hb dX7_soon_40 (by decide) (fun c_40 => ?_) (fun c_40 => ?_)
        · have hf := ite_t c_40 hf
          refine lv_aload_n hx hb dX7_soon_45 rfl (lv_at hl 0 rfl) ?_
          refine va_get (ci := 7) (C := RX7) (T := TX7) (N := 11) (v := .ref (a2 0)) hx hb hts i_X7_soon_X7 hown hK hP 0 rfl rfl 1 (by decide) (hts _ m_X7_soon_5dfb42) (fun _ h9 => h9) rfl dX7_soon_46 ?_
          obtain ⟨q49, hc_49, hf⟩ := cl_e hf
          have hm_49 : ∀ q ∈ (wX2 E a2 s2 h2) ++ sW E.2.1 L, q ∈ (wX7o E a0 a1 a2 a3 a4 a5 a6 a7 a8 a9 s0 ++ (wX2 E a1 s1 h1 ++ (wX2 E a2 s2 h2 ++ (wX1 E a3 s3 ++ (wX2 E a4 s4 h4 ++ (wX1 E a5 s5 ++ (wX5 E a6 s6 ++ (wX3 E a7 s7 ++ (wX0 E a8 s8 ++ (wX6 E a9 s9 t9)))))))))) ++ sW E.2.1 L := (app_mem (sub_mem (suf := []) [8, 9, 10, 11, 12, 13, 14] rfl))
          refine fin_v (E := E) (wc := (wX2 E a2 s2 h2) ++ sW E.2.1 L) (wc' := (wX2 E a2 q49 h2) ++ sW E.2.1 L) (va_runVN (As := []) (rest := []) ⟨hx, hb, hml, hown, hts⟩ (k_X2_dayGoes l E a2 L N s2 h2 q49 hc_49 _) ⟨va_cnB 0 hts gX7_soon_X2_dayGoes_n183 rfl rfl rfl (hG.1 (.methodLinkNest "PickedMatch" 183 yX2_dayGoes "PickedMatch") (by decide +kernel)) (hts _ m_X7_soon_4cf9d8) (by decide +kernel) ⟨(Nat.le_of_ble_eq_true rfl), (Nat.le_of_ble_eq_true rfl)⟩, (hts _ m_X7_soon_4d7acd), (hts _ m_X7_soon_3b6c31)⟩ (pre_v (ci := 2) (q0 := 0) hK (sub_P hm_49 hP) (sub_Ds (wc := wX2 E a2 s2 h2) [8, 9, 10, 11, 12, 13, 14] (by decide) rfl (hDD s0 s1 h1 s2 h2 s3 s4 h4 s5 s6 s7 s8 s9 t9)) hS hG hAB rfl rfl) rfl rfl hl.1 rfl (lv_room (Nat.le_of_ble_eq_true rfl)) dX7_soon_49 ⟨Nat.zero_le _, Nat.zero_le _⟩) hS (w_free (hDD s0 s1 h1 s2 h2 s3 s4 h4 s5 s6 s7 s8 s9 t9) hS hA hm_49) (fun H locs hP1 hk hS => ?_)
          have hP := w_joins (ws' := wX7o E a0 a1 a2 a3 a4 a5 a6 a7 a8 a9 s0 ++ (wX2 E a1 s1 h1 ++ (wX2 E a2 q49 h2 ++ (wX1 E a3 s3 ++ (wX2 E a4 s4 h4 ++ (wX1 E a5 s5 ++ (wX5 E a6 s6 ++ (wX3 E a7 s7 ++ (wX0 E a8 s8 ++ (wX6 E a9 s9 t9)))))))))) (wc := wX2 E a2 s2 h2) (wc' := wX2 E a2 q49 h2) hP (hDD s0 s1 h1 s2 h2 s3 s4 h4 s5 s6 s7 s8 s9 t9) [8, 9, 10, 11, 12, 13, 14] rfl [none, none, none, none, none, none, none, none, some 0, some 1, some 2, some 3, some 4, some 5, some 6, none, none, none, none, none, none, none, none, none, none, none, none, none, none, none, none, none, none, none, none, none, none, none, none, none, none, none, none, none, none, none, none, none, none, none] rfl rfl hk hP1
          obtain ⟨x52, e_x52⟩ : ∃ y : Int32, y = v2 + 1 := ⟨_, rfl⟩
          have hf := nm_q e_x52 hf
          refine lv_iinc (v := x52) (lv' := [(2, .int x52), (0, .ref (a0 0)), (1, .int v1)]) hx hb dX7_soon_52 hl (k := 2) rfl (by rw [e_x52]; rfl) (Nat.le_of_ble_eq_true rfl) rfl (fun ls hl => ?_)
          refine lv_goto (tgt := 26) hx hb dX7_soon_55 (by decide) ?_
          exact ih_26 q49 h2 x52 hf _ _ _ hP hS (lv_sub hl [1, 2, 0] rfl)
        · have hf := ite_f c_40 hf
          refine lv_iload_n hx hb dX7_soon_43 rfl (lv_at hl 2 rfl) ?_
          have e9 := Option.some.inj hf
          exact rt_i hx hb hr hlocks (fst_e e9) (rtP (P := fun z => va_P E.1 vwCl ((wX7o E a0 a1 a2 a3 a4 a5 a6 a7 a8 a9 s0 ++ (wX2 E a1 s1 h1 ++ (wX2 E a2 z.2.1 z.2.2 ++ (wX1 E a3 s3 ++ (wX2 E a4 s4 h4 ++ (wX1 E a5 s5 ++ (wX5 E a6 s6 ++ (wX3 E a7 s7 ++ (wX0 E a8 s8 ++ (wX6 E a9 s9 t9)))))))))) ++ sW E.2.1 L) H) e9 hP) hS dX7_soon_44
  refine lv_iload_n hx hb dX7_soon_0 rfl (lv_at hl 1 rfl) ?_
  refine lv_iconst (v := 0) hx hb dX7_soon_1 (by decide) ?_
  refine lv_bipush (v := 6) hx hb dX7_soon_2 (by decide) ?_
  obtain ⟨q4, hc_4, hf⟩ := cl_e hf
  refine fin_i (E := E) (wc := ([] : va_W)) (wc' := ([] : va_W)) (va_runS (As := [.int p1, .int 0, .int 6]) (rest := []) ⟨hx, hb, hml, hown, hts⟩ (k_X7_isWithin l E N p1 0 6 q4 hc_4 _) (va_cwS 3 hts gX7_soon_X7_isWithin rfl rfl rfl (by decide +kernel) ⟨(Nat.le_of_ble_eq_true rfl), (Nat.le_of_ble_eq_true rfl)⟩) (pre_s hK va_P_nil va_D_nil hS hG hAB) rfl rfl hl.1 rfl (lv_room (Nat.le_of_ble_eq_true rfl)) dX7_soon_4 ⟨Nat.zero_le _, Nat.zero_le _⟩) hS (free_nil hS hA) (fun H locs hP1 hk hS => ?_)
  have hP := w_kept0 hP hk
  refine lv_if_ne (tgt := 13) hx hb dX7_soon_7 (by decide) (fun c_7 => ?_) (fun c_7 => ?_)
  · have hf := ite_f c_7 hf
    refine lv_aload_n hx hb dX7_soon_13 rfl (lv_at hl 0 rfl) ?_
    refine va_get (ci := 7) (C := RX7) (T := TX7) (N := 11) (v := .ref (a2 0)) hx hb hts i_X7_soon_X7 hown hK hP 0 rfl rfl 1 (by decide) (hts _ m_X7_soon_5dfb42) (fun _ h9 => h9) rfl dX7_soon_14 ?_
    refine lv_aload_n hx hb dX7_soon_17 rfl (lv_at hl 0 rfl) ?_
    refine va_get (ci := 7) (C := RX7) (T := TX7) (N := 11) (v := .ref (a1 0)) hx hb hts i_X7_soon_X7 hown hK hP 0 rfl rfl 0 (by decide) (hts _ m_X7_soon_265b14) (fun _ h9 => h9) rfl dX7_soon_18 ?_
    obtain ⟨q21, hc_21, hf⟩ := cl_e hf
    have hm_21 : ∀ q ∈ (wX2 E a2 s2 h2 ++ (wX2 E a1 s1 h1)) ++ sW E.2.1 L, q ∈ (wX7o E a0 a1 a2 a3 a4 a5 a6 a7 a8 a9 s0 ++ (wX2 E a1 s1 h1 ++ (wX2 E a2 s2 h2 ++ (wX1 E a3 s3 ++ (wX2 E a4 s4 h4 ++ (wX1 E a5 s5 ++ (wX5 E a6 s6 ++ (wX3 E a7 s7 ++ (wX0 E a8 s8 ++ (wX6 E a9 s9 t9)))))))))) ++ sW E.2.1 L := (app_mem (sub_mem (suf := []) [8, 9, 10, 11, 12, 13, 14, 1, 2, 3, 4, 5, 6, 7] rfl))
    refine fin_v (E := E) (wc := (wX2 E a2 s2 h2 ++ (wX2 E a1 s1 h1)) ++ sW E.2.1 L) (wc' := (wX2 E a2 q21.1 q21.2 ++ (wX2 E a1 s1 h1)) ++ sW E.2.1 L) (va_runVN (As := [.ref (a1 0)]) (rest := []) ⟨hx, hb, hml, hown, hts⟩ (k_X2_becomeAs l E a2 a1 L N s2 h2 s1 h1 q21 hc_21 _) ⟨va_cnB 1 hts gX7_soon_X2_becomeAs_n179 rfl rfl rfl (hG.1 (.methodLinkNest "PickedMatch" 179 yX2_becomeAs "PickedMatch") (by decide +kernel)) (hts _ m_X7_soon_4cf9d8) (by decide +kernel) ⟨(Nat.le_of_ble_eq_true rfl), (Nat.le_of_ble_eq_true rfl)⟩, (hts _ m_X7_soon_c21ce8), (hts _ m_X7_soon_986579)⟩ (pre_v (ci := 2) (q0 := 0) hK (sub_P hm_21 hP) (sub_Ds (wc := wX2 E a2 s2 h2 ++ (wX2 E a1 s1 h1)) [8, 9, 10, 11, 12, 13, 14, 1, 2, 3, 4, 5, 6, 7] (by decide) rfl (hDD s0 s1 h1 s2 h2 s3 s4 h4 s5 s6 s7 s8 s9 t9)) hS hG hAB rfl rfl) rfl rfl hl.1 rfl (lv_room (Nat.le_of_ble_eq_true rfl)) dX7_soon_21 ⟨Nat.zero_le _, Nat.zero_le _⟩) hS (w_free (hDD s0 s1 h1 s2 h2 s3 s4 h4 s5 s6 s7 s8 s9 t9) hS hA hm_21) (fun H locs hP1 hk hS => ?_)
    have hP := w_joins (ws' := wX7o E a0 a1 a2 a3 a4 a5 a6 a7 a8 a9 s0 ++ (wX2 E a1 s1 h1 ++ (wX2 E a2 q21.1 q21.2 ++ (wX1 E a3 s3 ++ (wX2 E a4 s4 h4 ++ (wX1 E a5 s5 ++ (wX5 E a6 s6 ++ (wX3 E a7 s7 ++ (wX0 E a8 s8 ++ (wX6 E a9 s9 t9)))))))))) (wc := wX2 E a2 s2 h2 ++ (wX2 E a1 s1 h1)) (wc' := wX2 E a2 q21.1 q21.2 ++ (wX2 E a1 s1 h1)) hP (hDD s0 s1 h1 s2 h2 s3 s4 h4 s5 s6 s7 s8 s9 t9) [8, 9, 10, 11, 12, 13, 14, 1, 2, 3, 4, 5, 6, 7] rfl [none, some 7, some 8, some 9, some 10, some 11, some 12, some 13, some 0, some 1, some 2, some 3, some 4, some 5, some 6, none, none, none, none, none, none, none, none, none, none, none, none, none, none, none, none, none, none, none, none, none, none, none, none, none, none, none, none, none, none, none, none, none, none, none] rfl rfl hk hP1
    refine lv_iconst (v := 0) hx hb dX7_soon_24 (by decide) ?_
    refine lv_istore_n (lv' := [(2, .int 0), (0, .ref (a0 0)), (1, .int p1)]) hx hb dX7_soon_25 rfl hl (Nat.le_of_ble_eq_true rfl) rfl (fun ls hl => ?_)
    exact hL_26 s1 h1 p1 N q21.1 q21.2 0 hf _ _ _ hP hS (lv_sub hl [1, 2, 0] rfl)
  · have hf := ite_t c_7 hf
    refine lv_bipush (v := (-2)) hx hb dX7_soon_10 (by decide) ?_
    have e9 := Option.some.inj hf
    exact rt_i hx hb hr hlocks (fst_e e9) (rtP (P := fun z => va_P E.1 vwCl ((wX7o E a0 a1 a2 a3 a4 a5 a6 a7 a8 a9 s0 ++ (wX2 E a1 s1 h1 ++ (wX2 E a2 z.2.1 z.2.2 ++ (wX1 E a3 s3 ++ (wX2 E a4 s4 h4 ++ (wX1 E a5 s5 ++ (wX5 E a6 s6 ++ (wX3 E a7 s7 ++ (wX0 E a8 s8 ++ (wX6 E a9 s9 t9)))))))))) ++ sW E.2.1 L) H) e9 hP) hS dX7_soon_12
abbrev rm_X7_when : Room := { frames := 5, cells := 0, slots := 0, locals := 116 }
theorem m_X7_when_5dfb42 : Cond.fieldLink RX7 18 "PickedMatch" "trial" "LPickedMatch$Scene;" ∈ wsX7_when := by decide +kernel
theorem i_X7_when_X7 : ∀ w ∈ wsX70, w ∈ wsX7_when := fun _ h => List.mem_cons_of_mem _ (List.mem_append_left _ (List.mem_append_left _ (List.mem_append_right _ h)))
theorem m_X7_when_4cf9d8 : Cond.initialized RX2 ∈ wsX7_when := by decide +kernel
theorem m_X7_when_ab92ab : Cond.instanceMethod yX2_isHad ∈ wsX7_when := by decide +kernel
theorem m_X7_when_8e582f : Cond.selects RX2 yX2_isHad yX2_isHad ∈ wsX7_when := by decide +kernel
theorem m_X7_when_4d7acd : Cond.instanceMethod yX2_dayGoes ∈ wsX7_when := by decide +kernel
theorem m_X7_when_3b6c31 : Cond.selects RX2 yX2_dayGoes yX2_dayGoes ∈ wsX7_when := by decide +kernel
theorem m_X7_when_265b14 : Cond.fieldLink RX7 12 "PickedMatch" "scene" "LPickedMatch$Scene;" ∈ wsX7_when := by decide +kernel
theorem m_X7_when_0211d8 : Cond.instanceMethod yX2_hasThing ∈ wsX7_when := by decide +kernel
theorem m_X7_when_6099ba : Cond.selects RX2 yX2_hasThing yX2_hasThing ∈ wsX7_when := by decide +kernel
theorem m_X7_when_c21ce8 : Cond.instanceMethod yX2_becomeAs ∈ wsX7_when := by decide +kernel
theorem m_X7_when_986579 : Cond.selects RX2 yX2_becomeAs yX2_becomeAs ∈ wsX7_when := by decide +kernel
set_option maxHeartbeats 8000000 in
set_option maxRecDepth 100000 in
theorem k_X7_when (l : Launch) (E : Ev) (a0 : Nat → Nat) (a1 : Nat → Nat) (a2 : Nat → Nat) (a3 : Nat → Nat) (a4 : Nat → Nat) (a5 : Nat → Nat) (a6 : Nat → Nat) (a7 : Nat → Nat) (a8 : Nat → Nat) (a9 : Nat → Nat) (L : List SR) (N : Nat) (s0 : St) (s1 : St) (h1 : Option SR) (s2 : St) (h2 : Option SR) (s3 : St) (s4 : St) (h4 : Option SR) (s5 : St) (s6 : St) (s7 : St) (s8 : St) (s9 : St) (t9 : Nat → Nat → Int64) (p1 : Int32) (q : (Int32 × St × (Option SR))) (hf : f_X7_when N L s1 h1 s2 h2 p1 = some q) : Ci l yX7_when wsX7_when rm_X7_when E [.ref (a0 0), .int p1] ((wX7o E a0 a1 a2 a3 a4 a5 a6 a7 a8 a9 s0 ++ (wX2 E a1 s1 h1 ++ (wX2 E a2 s2 h2 ++ (wX1 E a3 s3 ++ (wX2 E a4 s4 h4 ++ (wX1 E a5 s5 ++ (wX5 E a6 s6 ++ (wX3 E a7 s7 ++ (wX0 E a8 s8 ++ (wX6 E a9 s9 t9)))))))))) ++ sW E.2.1 L) ((wX7o E a0 a1 a2 a3 a4 a5 a6 a7 a8 a9 s0 ++ (wX2 E a1 s1 h1 ++ (wX2 E a2 q.2.1 q.2.2 ++ (wX1 E a3 s3 ++ (wX2 E a4 s4 h4 ++ (wX1 E a5 s5 ++ (wX5 E a6 s6 ++ (wX3 E a7 s7 ++ (wX0 E a8 s8 ++ (wX6 E a9 s9 t9)))))))))) ++ sW E.2.1 L) q.1 := by
  unfold f_X7_when at hf
  intro sz
  refine Met.ofW (cc := cX7_when) (maxL := 3) (ret := (some .int)) (by decide) rfl ?_
  intro p e s m args below meth c s₁ B hml hpre
  obtain ⟨rfl, hsz, hP, hK, hD0, hG, hA, hAB⟩ := start hpre
  have hx := B.exec
  have hb := B.bytes
  have hr := B.returns
  have hts := atoms_spec (ws := wsX7_when) B.pre
  have hown : s.vm.findClass RX7 = some m.cls := findClass_of_methodNamed B.named
  have hlocks := B.notSynchronized
  subst hsz
  generalize va_A ((wX7o E a0 a1 a2 a3 a4 a5 a6 a7 a8 a9 s0 ++ (wX2 E a1 s1 h1 ++ (wX2 E a2 s2 h2 ++ (wX1 E a3 s3 ++ (wX2 E a4 s4 h4 ++ (wX1 E a5 s5 ++ (wX5 E a6 s6 ++ (wX3 E a7 s7 ++ (wX0 E a8 s8 ++ (wX6 E a9 s9 t9)))))))))) ++ sW E.2.1 L) s.heap.size = A0 at hD0 hA hAB ⊢
  have hDD : ∀ (s0 : St) (s1 : St) (h1 : Option SR) (s2 : St) (h2 : Option SR) (s3 : St) (s4 : St) (h4 : Option SR) (s5 : St) (s6 : St) (s7 : St) (s8 : St) (s9 : St) (t9 : Nat → Nat → Int64), va_D A0 ((wX7o E a0 a1 a2 a3 a4 a5 a6 a7 a8 a9 s0 ++ (wX2 E a1 s1 h1 ++ (wX2 E a2 s2 h2 ++ (wX1 E a3 s3 ++ (wX2 E a4 s4 h4 ++ (wX1 E a5 s5 ++ (wX5 E a6 s6 ++ (wX3 E a7 s7 ++ (wX0 E a8 s8 ++ (wX6 E a9 s9 t9)))))))))) ++ sW E.2.1 L) := fun s0 s1 h1 s2 h2 s3 s4 h4 s5 s6 s7 s8 s9 t9 => vD_addr hD0 rfl
  have hS : va_S A0 s.heap s.heap [] := va_S.rf
  have hl := lv_entry ([.ref (a0 0), .int p1]) (n := 3) (Nat.le_of_ble_eq_true rfl)
  rw [lg_entry_eq]
  generalize (lg_sl ([.ref (a0 0), .int p1]) ++ List.replicate (3 - (lg_sl ([.ref (a0 0), .int p1])).length) Slot.unset).toArray = ls at hl ⊢
  have hl : lv_has ls 3 [(0, .ref (a0 0)), (1, .int p1)] := hl
  have hL_26 : ∀ (s1 : St) (h1 : Option SR) (v1 : Int32) (n_26 : Nat) (s2 : St) (h2 : Option SR) (v2 : Int32), l_X7_when_26 N L s1 h1 v1 n_26 s2 h2 v2 = some q → ∀ (H : Heap) (locs : List Loc) (ls : Array Slot), va_P E.1 vwCl ((wX7o E a0 a1 a2 a3 a4 a5 a6 a7 a8 a9 s0 ++ (wX2 E a1 s1 h1 ++ (wX2 E a2 s2 h2 ++ (wX1 E a3 s3 ++ (wX2 E a4 s4 h4 ++ (wX1 E a5 s5 ++ (wX5 E a6 s6 ++ (wX3 E a7 s7 ++ (wX0 E a8 s8 ++ (wX6 E a9 s9 t9)))))))))) ++ sW E.2.1 L) H → va_S A0 s.heap H locs → lv_has ls 3 [(0, .ref (a0 0)), (1, .int v1), (2, .int v2)] → W p l e rm_X7_when s m ([.ref (a0 0), .int p1] : List Value).toArray below meth c H locs 0 0 (MQ below (va_Qi (fun (r' : Int32) (_ : Unit) => r' = q.1) (fun _ t => va_P E.1 vwCl ((wX7o E a0 a1 a2 a3 a4 a5 a6 a7 a8 a9 s0 ++ (wX2 E a1 s1 h1 ++ (wX2 E a2 q.2.1 q.2.2 ++ (wX1 E a3 s3 ++ (wX2 E a4 s4 h4 ++ (wX1 E a5 s5 ++ (wX5 E a6 s6 ++ (wX3 E a7 s7 ++ (wX0 E a8 s8 ++ (wX6 E a9 s9 t9)))))))))) ++ sW E.2.1 L) t.heap) A0) ([.ref (a0 0), .int p1] : List Value).toArray s 0 0 A0) (F0 m 26 ls []) := by
    intro s1 h1 v1 n_26
    induction n_26 with
    | zero => intro s2 h2 v2 hf; rw [l_X7_when_26] at hf; cases hf
    | succ n_26 ih_26 =>
      intro s2 h2 v2 hf H locs ls hP hS hl
      rw [l_X7_when_26] at hf
      refine lv_iload_n hx hb dX7_when_26 rfl (lv_at hl 2 rfl) ?_
      refine lv_bipush (v := 60) hx hb dX7_when_27 (by decide) ?_
      refine lv_icmp_gt (tgt := 58) hx hb dX7_when_29 (by decide) (fun c_29 => ?_) (fun c_29 => ?_)
      · have hf := ite_t c_29 hf
        refine lv_bipush (v := (-5)) hx hb dX7_when_58 (by decide) ?_
        have e9 := Option.some.inj hf
        exact rt_i hx hb hr hlocks (fst_e e9) (rtP (P := fun z => va_P E.1 vwCl ((wX7o E a0 a1 a2 a3 a4 a5 a6 a7 a8 a9 s0 ++ (wX2 E a1 s1 h1 ++ (wX2 E a2 z.2.1 z.2.2 ++ (wX1 E a3 s3 ++ (wX2 E a4 s4 h4 ++ (wX1 E a5 s5 ++ (wX5 E a6 s6 ++ (wX3 E a7 s7 ++ (wX0 E a8 s8 ++ (wX6 E a9 s9 t9)))))))))) ++ sW E.2.1 L) H) e9 hP) hS dX7_when_60
      · have hf := ite_f c_29 hf
        refine lv_aload_n hx hb dX7_when_32 rfl (lv_at hl 0 rfl) ?_
        refine va_get (ci := 7) (C := RX7) (T := TX7) (N := 11) (v := .ref (a2 0)) hx hb hts i_X7_when_X7 hown hK hP 0 rfl rfl 1 (by decide) (hts _ m_X7_when_5dfb42) (fun _ h9 => h9) rfl dX7_when_33 ?_
        refine lv_iload_n hx hb dX7_when_36 rfl (lv_at hl 1 rfl) ?_
        obtain ⟨q37, hc_37, hf⟩ := cl_e hf
        have hm_37 : ∀ q ∈ (wX2 E a2 s2 h2) ++ sW E.2.1 L, q ∈ (wX7o E a0 a1 a2 a3 a4 a5 a6 a7 a8 a9 s0 ++ (wX2 E a1 s1 h1 ++ (wX2 E a2 s2 h2 ++ (wX1 E a3 s3 ++ (wX2 E a4 s4 h4 ++ (wX1 E a5 s5 ++ (wX5 E a6 s6 ++ (wX3 E a7 s7 ++ (wX0 E a8 s8 ++ (wX6 E a9 s9 t9)))))))))) ++ sW E.2.1 L := (app_mem (sub_mem (suf := []) [8, 9, 10, 11, 12, 13, 14] rfl))
        refine fin_i (E := E) (wc := (wX2 E a2 s2 h2) ++ sW E.2.1 L) (wc' := (wX2 E a2 s2 h2) ++ sW E.2.1 L) (va_runVN (As := [.int v1]) (rest := []) ⟨hx, hb, hml, hown, hts⟩ (k_X2_isHad l E a2 L N s2 h2 v1 q37 hc_37 _) ⟨va_cnB 1 hts gX7_when_X2_isHad_n186 rfl rfl rfl (hG.1 (.methodLinkNest "PickedMatch" 186 yX2_isHad "PickedMatch") (by decide +kernel)) (hts _ m_X7_when_4cf9d8) (by decide +kernel) ⟨(Nat.le_of_ble_eq_true rfl), (Nat.le_of_ble_eq_true rfl)⟩, (hts _ m_X7_when_ab92ab), (hts _ m_X7_when_8e582f)⟩ (pre_v (ci := 2) (q0 := 0) hK (sub_P hm_37 hP) (sub_Ds (wc := wX2 E a2 s2 h2) [8, 9, 10, 11, 12, 13, 14] (by decide) rfl (hDD s0 s1 h1 s2 h2 s3 s4 h4 s5 s6 s7 s8 s9 t9)) hS hG hAB rfl rfl) rfl rfl hl.1 rfl (lv_room (Nat.le_of_ble_eq_true rfl)) dX7_when_37 ⟨Nat.zero_le _, Nat.zero_le _⟩) hS (w_free (hDD s0 s1 h1 s2 h2 s3 s4 h4 s5 s6 s7 s8 s9 t9) hS hA hm_37) (fun H locs hP1 hk hS => ?_)
        have hP := w_joins (ws' := wX7o E a0 a1 a2 a3 a4 a5 a6 a7 a8 a9 s0 ++ (wX2 E a1 s1 h1 ++ (wX2 E a2 s2 h2 ++ (wX1 E a3 s3 ++ (wX2 E a4 s4 h4 ++ (wX1 E a5 s5 ++ (wX5 E a6 s6 ++ (wX3 E a7 s7 ++ (wX0 E a8 s8 ++ (wX6 E a9 s9 t9)))))))))) (wc := wX2 E a2 s2 h2) (wc' := wX2 E a2 s2 h2) hP (hDD s0 s1 h1 s2 h2 s3 s4 h4 s5 s6 s7 s8 s9 t9) [8, 9, 10, 11, 12, 13, 14] rfl [none, none, none, none, none, none, none, none, some 0, some 1, some 2, some 3, some 4, some 5, some 6, none, none, none, none, none, none, none, none, none, none, none, none, none, none, none, none, none, none, none, none, none, none, none, none, none, none, none, none, none, none, none, none, none, none, none] rfl rfl hk hP1
        refine lv_if_eq (tgt := 45) hx hb dX7_when_40 (by decide) (fun c_40 => ?_) (fun c_40 => ?_)
        · have hf := ite_t c_40 hf
          refine lv_aload_n hx hb dX7_when_45 rfl (lv_at hl 0 rfl) ?_
          refine va_get (ci := 7) (C := RX7) (T := TX7) (N := 11) (v := .ref (a2 0)) hx hb hts i_X7_when_X7 hown hK hP 0 rfl rfl 1 (by decide) (hts _ m_X7_when_5dfb42) (fun _ h9 => h9) rfl dX7_when_46 ?_
          obtain ⟨q49, hc_49, hf⟩ := cl_e hf
          have hm_49 : ∀ q ∈ (wX2 E a2 s2 h2) ++ sW E.2.1 L, q ∈ (wX7o E a0 a1 a2 a3 a4 a5 a6 a7 a8 a9 s0 ++ (wX2 E a1 s1 h1 ++ (wX2 E a2 s2 h2 ++ (wX1 E a3 s3 ++ (wX2 E a4 s4 h4 ++ (wX1 E a5 s5 ++ (wX5 E a6 s6 ++ (wX3 E a7 s7 ++ (wX0 E a8 s8 ++ (wX6 E a9 s9 t9)))))))))) ++ sW E.2.1 L := (app_mem (sub_mem (suf := []) [8, 9, 10, 11, 12, 13, 14] rfl))
          refine fin_v (E := E) (wc := (wX2 E a2 s2 h2) ++ sW E.2.1 L) (wc' := (wX2 E a2 q49 h2) ++ sW E.2.1 L) (va_runVN (As := []) (rest := []) ⟨hx, hb, hml, hown, hts⟩ (k_X2_dayGoes l E a2 L N s2 h2 q49 hc_49 _) ⟨va_cnB 0 hts gX7_when_X2_dayGoes_n183 rfl rfl rfl (hG.1 (.methodLinkNest "PickedMatch" 183 yX2_dayGoes "PickedMatch") (by decide +kernel)) (hts _ m_X7_when_4cf9d8) (by decide +kernel) ⟨(Nat.le_of_ble_eq_true rfl), (Nat.le_of_ble_eq_true rfl)⟩, (hts _ m_X7_when_4d7acd), (hts _ m_X7_when_3b6c31)⟩ (pre_v (ci := 2) (q0 := 0) hK (sub_P hm_49 hP) (sub_Ds (wc := wX2 E a2 s2 h2) [8, 9, 10, 11, 12, 13, 14] (by decide) rfl (hDD s0 s1 h1 s2 h2 s3 s4 h4 s5 s6 s7 s8 s9 t9)) hS hG hAB rfl rfl) rfl rfl hl.1 rfl (lv_room (Nat.le_of_ble_eq_true rfl)) dX7_when_49 ⟨Nat.zero_le _, Nat.zero_le _⟩) hS (w_free (hDD s0 s1 h1 s2 h2 s3 s4 h4 s5 s6 s7 s8 s9 t9) hS hA hm_49) (fun H locs hP1 hk hS => ?_)
          have hP := w_joins (ws' := wX7o E a0 a1 a2 a3 a4 a5 a6 a7 a8 a9 s0 ++ (wX2 E a1 s1 h1 ++ (wX2 E a2 q49 h2 ++ (wX1 E a3 s3 ++ (wX2 E a4 s4 h4 ++ (wX1 E a5 s5 ++ (wX5 E a6 s6 ++ (wX3 E a7 s7 ++ (wX0 E a8 s8 ++ (wX6 E a9 s9 t9)))))))))) (wc := wX2 E a2 s2 h2) (wc' := wX2 E a2 q49 h2) hP (hDD s0 s1 h1 s2 h2 s3 s4 h4 s5 s6 s7 s8 s9 t9) [8, 9, 10, 11, 12, 13, 14] rfl [none, none, none, none, none, none, none, none, some 0, some 1, some 2, some 3, some 4, some 5, some 6, none, none, none, none, none, none, none, none, none, none, none, none, none, none, none, none, none, none, none, none, none, none, none, none, none, none, none, none, none, none, none, none, none, none, none] rfl rfl hk hP1
          obtain ⟨x52, e_x52⟩ : ∃ y : Int32, y = v2 + 1 := ⟨_, rfl⟩
          have hf := nm_q e_x52 hf
          refine lv_iinc (v := x52) (lv' := [(2, .int x52), (0, .ref (a0 0)), (1, .int v1)]) hx hb dX7_when_52 hl (k := 2) rfl (by rw [e_x52]; rfl) (Nat.le_of_ble_eq_true rfl) rfl (fun ls hl => ?_)
          refine lv_goto (tgt := 26) hx hb dX7_when_55 (by decide) ?_
          exact ih_26 q49 h2 x52 hf _ _ _ hP hS (lv_sub hl [1, 2, 0] rfl)
        · have hf := ite_f c_40 hf
          refine lv_iload_n hx hb dX7_when_43 rfl (lv_at hl 2 rfl) ?_
          have e9 := Option.some.inj hf
          exact rt_i hx hb hr hlocks (fst_e e9) (rtP (P := fun z => va_P E.1 vwCl ((wX7o E a0 a1 a2 a3 a4 a5 a6 a7 a8 a9 s0 ++ (wX2 E a1 s1 h1 ++ (wX2 E a2 z.2.1 z.2.2 ++ (wX1 E a3 s3 ++ (wX2 E a4 s4 h4 ++ (wX1 E a5 s5 ++ (wX5 E a6 s6 ++ (wX3 E a7 s7 ++ (wX0 E a8 s8 ++ (wX6 E a9 s9 t9)))))))))) ++ sW E.2.1 L) H) e9 hP) hS dX7_when_44
  refine lv_aload_n hx hb dX7_when_0 rfl (lv_at hl 0 rfl) ?_
  refine va_get (ci := 7) (C := RX7) (T := TX7) (N := 11) (v := .ref (a1 0)) hx hb hts i_X7_when_X7 hown hK hP 0 rfl rfl 0 (by decide) (hts _ m_X7_when_265b14) (fun _ h9 => h9) rfl dX7_when_1 ?_
  refine lv_iload_n hx hb dX7_when_4 rfl (lv_at hl 1 rfl) ?_
  obtain ⟨q5, hc_5, hf⟩ := cl_e hf
  have hm_5 : ∀ q ∈ (wX2 E a1 s1 h1) ++ sW E.2.1 L, q ∈ (wX7o E a0 a1 a2 a3 a4 a5 a6 a7 a8 a9 s0 ++ (wX2 E a1 s1 h1 ++ (wX2 E a2 s2 h2 ++ (wX1 E a3 s3 ++ (wX2 E a4 s4 h4 ++ (wX1 E a5 s5 ++ (wX5 E a6 s6 ++ (wX3 E a7 s7 ++ (wX0 E a8 s8 ++ (wX6 E a9 s9 t9)))))))))) ++ sW E.2.1 L := (app_mem (sub_mem (suf := []) [1, 2, 3, 4, 5, 6, 7] rfl))
  refine fin_i (E := E) (wc := (wX2 E a1 s1 h1) ++ sW E.2.1 L) (wc' := (wX2 E a1 s1 h1) ++ sW E.2.1 L) (va_runVN (As := [.int p1]) (rest := []) ⟨hx, hb, hml, hown, hts⟩ (k_X2_hasThing l E a1 L N s1 h1 p1 q5 hc_5 _) ⟨va_cnB 1 hts gX7_when_X2_hasThing_n74 rfl rfl rfl (hG.1 (.methodLinkNest "PickedMatch" 74 yX2_hasThing "PickedMatch") (by decide +kernel)) (hts _ m_X7_when_4cf9d8) (by decide +kernel) ⟨(Nat.le_of_ble_eq_true rfl), (Nat.le_of_ble_eq_true rfl)⟩, (hts _ m_X7_when_0211d8), (hts _ m_X7_when_6099ba)⟩ (pre_v (ci := 2) (q0 := 0) hK (sub_P hm_5 hP) (sub_Ds (wc := wX2 E a1 s1 h1) [1, 2, 3, 4, 5, 6, 7] (by decide) rfl (hDD s0 s1 h1 s2 h2 s3 s4 h4 s5 s6 s7 s8 s9 t9)) hS hG hAB rfl rfl) rfl rfl hl.1 rfl (lv_room (Nat.le_of_ble_eq_true rfl)) dX7_when_5 ⟨Nat.zero_le _, Nat.zero_le _⟩) hS (w_free (hDD s0 s1 h1 s2 h2 s3 s4 h4 s5 s6 s7 s8 s9 t9) hS hA hm_5) (fun H locs hP1 hk hS => ?_)
  have hP := w_joins (ws' := wX7o E a0 a1 a2 a3 a4 a5 a6 a7 a8 a9 s0 ++ (wX2 E a1 s1 h1 ++ (wX2 E a2 s2 h2 ++ (wX1 E a3 s3 ++ (wX2 E a4 s4 h4 ++ (wX1 E a5 s5 ++ (wX5 E a6 s6 ++ (wX3 E a7 s7 ++ (wX0 E a8 s8 ++ (wX6 E a9 s9 t9)))))))))) (wc := wX2 E a1 s1 h1) (wc' := wX2 E a1 s1 h1) hP (hDD s0 s1 h1 s2 h2 s3 s4 h4 s5 s6 s7 s8 s9 t9) [1, 2, 3, 4, 5, 6, 7] rfl [none, some 0, some 1, some 2, some 3, some 4, some 5, some 6, none, none, none, none, none, none, none, none, none, none, none, none, none, none, none, none, none, none, none, none, none, none, none, none, none, none, none, none, none, none, none, none, none, none, none, none, none, none, none, none, none, none] rfl rfl hk hP1
  refine lv_if_ne (tgt := 13) hx hb dX7_when_8 (by decide) (fun c_8 => ?_) (fun c_8 => ?_)
  · have hf := ite_f c_8 hf
    refine lv_aload_n hx hb dX7_when_13 rfl (lv_at hl 0 rfl) ?_
    refine va_get (ci := 7) (C := RX7) (T := TX7) (N := 11) (v := .ref (a2 0)) hx hb hts i_X7_when_X7 hown hK hP 0 rfl rfl 1 (by decide) (hts _ m_X7_when_5dfb42) (fun _ h9 => h9) rfl dX7_when_14 ?_
    refine lv_aload_n hx hb dX7_when_17 rfl (lv_at hl 0 rfl) ?_
    refine va_get (ci := 7) (C := RX7) (T := TX7) (N := 11) (v := .ref (a1 0)) hx hb hts i_X7_when_X7 hown hK hP 0 rfl rfl 0 (by decide) (hts _ m_X7_when_265b14) (fun _ h9 => h9) rfl dX7_when_18 ?_
    obtain ⟨q21, hc_21, hf⟩ := cl_e hf
    have hm_21 : ∀ q ∈ (wX2 E a2 s2 h2 ++ (wX2 E a1 s1 h1)) ++ sW E.2.1 L, q ∈ (wX7o E a0 a1 a2 a3 a4 a5 a6 a7 a8 a9 s0 ++ (wX2 E a1 s1 h1 ++ (wX2 E a2 s2 h2 ++ (wX1 E a3 s3 ++ (wX2 E a4 s4 h4 ++ (wX1 E a5 s5 ++ (wX5 E a6 s6 ++ (wX3 E a7 s7 ++ (wX0 E a8 s8 ++ (wX6 E a9 s9 t9)))))))))) ++ sW E.2.1 L := (app_mem (sub_mem (suf := []) [8, 9, 10, 11, 12, 13, 14, 1, 2, 3, 4, 5, 6, 7] rfl))
    refine fin_v (E := E) (wc := (wX2 E a2 s2 h2 ++ (wX2 E a1 s1 h1)) ++ sW E.2.1 L) (wc' := (wX2 E a2 q21.1 q21.2 ++ (wX2 E a1 s1 h1)) ++ sW E.2.1 L) (va_runVN (As := [.ref (a1 0)]) (rest := []) ⟨hx, hb, hml, hown, hts⟩ (k_X2_becomeAs l E a2 a1 L N s2 h2 s1 h1 q21 hc_21 _) ⟨va_cnB 1 hts gX7_when_X2_becomeAs_n179 rfl rfl rfl (hG.1 (.methodLinkNest "PickedMatch" 179 yX2_becomeAs "PickedMatch") (by decide +kernel)) (hts _ m_X7_when_4cf9d8) (by decide +kernel) ⟨(Nat.le_of_ble_eq_true rfl), (Nat.le_of_ble_eq_true rfl)⟩, (hts _ m_X7_when_c21ce8), (hts _ m_X7_when_986579)⟩ (pre_v (ci := 2) (q0 := 0) hK (sub_P hm_21 hP) (sub_Ds (wc := wX2 E a2 s2 h2 ++ (wX2 E a1 s1 h1)) [8, 9, 10, 11, 12, 13, 14, 1, 2, 3, 4, 5, 6, 7] (by decide) rfl (hDD s0 s1 h1 s2 h2 s3 s4 h4 s5 s6 s7 s8 s9 t9)) hS hG hAB rfl rfl) rfl rfl hl.1 rfl (lv_room (Nat.le_of_ble_eq_true rfl)) dX7_when_21 ⟨Nat.zero_le _, Nat.zero_le _⟩) hS (w_free (hDD s0 s1 h1 s2 h2 s3 s4 h4 s5 s6 s7 s8 s9 t9) hS hA hm_21) (fun H locs hP1 hk hS => ?_)
    have hP := w_joins (ws' := wX7o E a0 a1 a2 a3 a4 a5 a6 a7 a8 a9 s0 ++ (wX2 E a1 s1 h1 ++ (wX2 E a2 q21.1 q21.2 ++ (wX1 E a3 s3 ++ (wX2 E a4 s4 h4 ++ (wX1 E a5 s5 ++ (wX5 E a6 s6 ++ (wX3 E a7 s7 ++ (wX0 E a8 s8 ++ (wX6 E a9 s9 t9)))))))))) (wc := wX2 E a2 s2 h2 ++ (wX2 E a1 s1 h1)) (wc' := wX2 E a2 q21.1 q21.2 ++ (wX2 E a1 s1 h1)) hP (hDD s0 s1 h1 s2 h2 s3 s4 h4 s5 s6 s7 s8 s9 t9) [8, 9, 10, 11, 12, 13, 14, 1, 2, 3, 4, 5, 6, 7] rfl [none, some 7, some 8, some 9, some 10, some 11, some 12, some 13, some 0, some 1, some 2, some 3, some 4, some 5, some 6, none, none, none, none, none, none, none, none, none, none, none, none, none, none, none, none, none, none, none, none, none, none, none, none, none, none, none, none, none, none, none, none, none, none, none] rfl rfl hk hP1
    refine lv_iconst (v := 0) hx hb dX7_when_24 (by decide) ?_
    refine lv_istore_n (lv' := [(2, .int 0), (0, .ref (a0 0)), (1, .int p1)]) hx hb dX7_when_25 rfl hl (Nat.le_of_ble_eq_true rfl) rfl (fun ls hl => ?_)
    exact hL_26 s1 h1 p1 N q21.1 q21.2 0 hf _ _ _ hP hS (lv_sub hl [1, 2, 0] rfl)
  · have hf := ite_t c_8 hf
    refine lv_iconst (v := (-1)) hx hb dX7_when_11 (by decide) ?_
    have e9 := Option.some.inj hf
    exact rt_i hx hb hr hlocks (fst_e e9) (rtP (P := fun z => va_P E.1 vwCl ((wX7o E a0 a1 a2 a3 a4 a5 a6 a7 a8 a9 s0 ++ (wX2 E a1 s1 h1 ++ (wX2 E a2 z.2.1 z.2.2 ++ (wX1 E a3 s3 ++ (wX2 E a4 s4 h4 ++ (wX1 E a5 s5 ++ (wX5 E a6 s6 ++ (wX3 E a7 s7 ++ (wX0 E a8 s8 ++ (wX6 E a9 s9 t9)))))))))) ++ sW E.2.1 L) H) e9 hP) hS dX7_when_12
abbrev rm_X7_most : Room := { frames := 15, cells := 0, slots := 0, locals := 421 }
theorem m_X7_most_5dfb42 : Cond.fieldLink RX7 18 "PickedMatch" "trial" "LPickedMatch$Scene;" ∈ wsX7_most := by decide +kernel
theorem i_X7_most_X7 : ∀ w ∈ wsX70, w ∈ wsX7_most := fun _ h => List.mem_cons_of_mem _ (List.mem_append_left _ (List.mem_append_left _ (List.mem_append_left _ (List.mem_append_right _ h))))
theorem m_X7_most_265b14 : Cond.fieldLink RX7 12 "PickedMatch" "scene" "LPickedMatch$Scene;" ∈ wsX7_most := by decide +kernel
theorem m_X7_most_4cf9d8 : Cond.initialized RX2 ∈ wsX7_most := by decide +kernel
theorem m_X7_most_c21ce8 : Cond.instanceMethod yX2_becomeAs ∈ wsX7_most := by decide +kernel
theorem m_X7_most_986579 : Cond.selects RX2 yX2_becomeAs yX2_becomeAs ∈ wsX7_most := by decide +kernel
theorem m_X7_most_4537e5 : Cond.fieldLink RX7 44 "PickedMatch" "search" "LPickedMatch$Search;" ∈ wsX7_most := by decide +kernel
theorem m_X7_most_7824fe : Cond.initialized RX3 ∈ wsX7_most := by decide +kernel
theorem m_X7_most_b30271 : Cond.instanceMethod yX3_longestRow ∈ wsX7_most := by decide +kernel
theorem m_X7_most_ee9e1b : Cond.selects RX3 yX3_longestRow yX3_longestRow ∈ wsX7_most := by decide +kernel
theorem i_X7_most_X3 : ∀ w ∈ wsX30, w ∈ wsX7_most := fun _ h => List.mem_cons_of_mem _ (List.mem_append_left _ (List.mem_append_left _ (List.mem_append_right _ h)))
set_option maxHeartbeats 8000000 in
set_option maxRecDepth 100000 in
theorem k_X7_most (l : Launch) (E : Ev) (a0 : Nat → Nat) (a1 : Nat → Nat) (a2 : Nat → Nat) (a3 : Nat → Nat) (a4 : Nat → Nat) (a5 : Nat → Nat) (a6 : Nat → Nat) (a7 : Nat → Nat) (a8 : Nat → Nat) (a9 : Nat → Nat) (L : List SR) (N : Nat) (s0 : St) (s1 : St) (h1 : Option SR) (s2 : St) (h2 : Option SR) (s3 : St) (s4 : St) (h4 : Option SR) (s5 : St) (s6 : St) (s7 : St) (s8 : St) (s9 : St) (t9 : Nat → Nat → Int64) (p1 : Int32) (q : (Int32 × St × (Option SR) × St)) (hf : f_X7_most N L s1 h1 s2 h2 s7 p1 = some q) : Ci l yX7_most wsX7_most rm_X7_most E [.ref (a0 0), .int p1] ((wX7o E a0 a1 a2 a3 a4 a5 a6 a7 a8 a9 s0 ++ (wX2 E a1 s1 h1 ++ (wX2 E a2 s2 h2 ++ (wX1 E a3 s3 ++ (wX2 E a4 s4 h4 ++ (wX1 E a5 s5 ++ (wX5 E a6 s6 ++ (wX3 E a7 s7 ++ (wX0 E a8 s8 ++ (wX6 E a9 s9 t9)))))))))) ++ sW E.2.1 L) ((wX7o E a0 a1 a2 a3 a4 a5 a6 a7 a8 a9 s0 ++ (wX2 E a1 s1 h1 ++ (wX2 E a2 q.2.1 q.2.2.1 ++ (wX1 E a3 s3 ++ (wX2 E a4 s4 h4 ++ (wX1 E a5 s5 ++ (wX5 E a6 s6 ++ (wX3 E a7 q.2.2.2 ++ (wX0 E a8 s8 ++ (wX6 E a9 s9 t9)))))))))) ++ sW E.2.1 L) q.1 := by
  unfold f_X7_most at hf
  intro sz
  refine Met.ofW (cc := cX7_most) (maxL := 3) (ret := (some .int)) (by decide) rfl ?_
  intro p e s m args below meth c s₁ B hml hpre
  obtain ⟨rfl, hsz, hP, hK, hD0, hG, hA, hAB⟩ := start hpre
  have hx := B.exec
  have hb := B.bytes
  have hr := B.returns
  have hts := atoms_spec (ws := wsX7_most) B.pre
  have hown : s.vm.findClass RX7 = some m.cls := findClass_of_methodNamed B.named
  have hlocks := B.notSynchronized
  subst hsz
  generalize va_A ((wX7o E a0 a1 a2 a3 a4 a5 a6 a7 a8 a9 s0 ++ (wX2 E a1 s1 h1 ++ (wX2 E a2 s2 h2 ++ (wX1 E a3 s3 ++ (wX2 E a4 s4 h4 ++ (wX1 E a5 s5 ++ (wX5 E a6 s6 ++ (wX3 E a7 s7 ++ (wX0 E a8 s8 ++ (wX6 E a9 s9 t9)))))))))) ++ sW E.2.1 L) s.heap.size = A0 at hD0 hA hAB ⊢
  have hDD : ∀ (s0 : St) (s1 : St) (h1 : Option SR) (s2 : St) (h2 : Option SR) (s3 : St) (s4 : St) (h4 : Option SR) (s5 : St) (s6 : St) (s7 : St) (s8 : St) (s9 : St) (t9 : Nat → Nat → Int64), va_D A0 ((wX7o E a0 a1 a2 a3 a4 a5 a6 a7 a8 a9 s0 ++ (wX2 E a1 s1 h1 ++ (wX2 E a2 s2 h2 ++ (wX1 E a3 s3 ++ (wX2 E a4 s4 h4 ++ (wX1 E a5 s5 ++ (wX5 E a6 s6 ++ (wX3 E a7 s7 ++ (wX0 E a8 s8 ++ (wX6 E a9 s9 t9)))))))))) ++ sW E.2.1 L) := fun s0 s1 h1 s2 h2 s3 s4 h4 s5 s6 s7 s8 s9 t9 => vD_addr hD0 rfl
  have hS : va_S A0 s.heap s.heap [] := va_S.rf
  have hl := lv_entry ([.ref (a0 0), .int p1]) (n := 3) (Nat.le_of_ble_eq_true rfl)
  rw [lg_entry_eq]
  generalize (lg_sl ([.ref (a0 0), .int p1]) ++ List.replicate (3 - (lg_sl ([.ref (a0 0), .int p1])).length) Slot.unset).toArray = ls at hl ⊢
  have hl : lv_has ls 3 [(0, .ref (a0 0)), (1, .int p1)] := hl
  refine lv_iload_n hx hb dX7_most_0 rfl (lv_at hl 1 rfl) ?_
  refine lv_iconst (v := (-1)) hx hb dX7_most_1 (by decide) ?_
  refine lv_iconst (v := 5) hx hb dX7_most_2 (by decide) ?_
  obtain ⟨q3, hc_3, hf⟩ := cl_e hf
  refine fin_i (E := E) (wc := ([] : va_W)) (wc' := ([] : va_W)) (va_runS (As := [.int p1, .int (-1), .int 5]) (rest := []) ⟨hx, hb, hml, hown, hts⟩ (k_X7_isWithin l E N p1 (-1) 5 q3 hc_3 _) (va_cwS 3 hts gX7_most_X7_isWithin rfl rfl rfl (by decide +kernel) ⟨(Nat.le_of_ble_eq_true rfl), (Nat.le_of_ble_eq_true rfl)⟩) (pre_s hK va_P_nil va_D_nil hS hG hAB) rfl rfl hl.1 rfl (lv_room (Nat.le_of_ble_eq_true rfl)) dX7_most_3 ⟨Nat.zero_le _, Nat.zero_le _⟩) hS (free_nil hS hA) (fun H locs hP1 hk hS => ?_)
  have hP := w_kept0 hP hk
  refine lv_if_ne (tgt := 11) hx hb dX7_most_6 (by decide) (fun c_6 => ?_) (fun c_6 => ?_)
  · have hf := ite_f c_6 hf
    refine lv_aload_n hx hb dX7_most_11 rfl (lv_at hl 0 rfl) ?_
    refine va_get (ci := 7) (C := RX7) (T := TX7) (N := 11) (v := .ref (a2 0)) hx hb hts i_X7_most_X7 hown hK hP 0 rfl rfl 1 (by decide) (hts _ m_X7_most_5dfb42) (fun _ h9 => h9) rfl dX7_most_12 ?_
    refine lv_aload_n hx hb dX7_most_15 rfl (lv_at hl 0 rfl) ?_
    refine va_get (ci := 7) (C := RX7) (T := TX7) (N := 11) (v := .ref (a1 0)) hx hb hts i_X7_most_X7 hown hK hP 0 rfl rfl 0 (by decide) (hts _ m_X7_most_265b14) (fun _ h9 => h9) rfl dX7_most_16 ?_
    obtain ⟨q19, hc_19, hf⟩ := cl_e hf
    have hm_19 : ∀ q ∈ (wX2 E a2 s2 h2 ++ (wX2 E a1 s1 h1)) ++ sW E.2.1 L, q ∈ (wX7o E a0 a1 a2 a3 a4 a5 a6 a7 a8 a9 s0 ++ (wX2 E a1 s1 h1 ++ (wX2 E a2 s2 h2 ++ (wX1 E a3 s3 ++ (wX2 E a4 s4 h4 ++ (wX1 E a5 s5 ++ (wX5 E a6 s6 ++ (wX3 E a7 s7 ++ (wX0 E a8 s8 ++ (wX6 E a9 s9 t9)))))))))) ++ sW E.2.1 L := (app_mem (sub_mem (suf := []) [8, 9, 10, 11, 12, 13, 14, 1, 2, 3, 4, 5, 6, 7] rfl))
    refine fin_v (E := E) (wc := (wX2 E a2 s2 h2 ++ (wX2 E a1 s1 h1)) ++ sW E.2.1 L) (wc' := (wX2 E a2 q19.1 q19.2 ++ (wX2 E a1 s1 h1)) ++ sW E.2.1 L) (va_runVN (As := [.ref (a1 0)]) (rest := []) ⟨hx, hb, hml, hown, hts⟩ (k_X2_becomeAs l E a2 a1 L N s2 h2 s1 h1 q19 hc_19 _) ⟨va_cnB 1 hts gX7_most_X2_becomeAs_n179 rfl rfl rfl (hG.1 (.methodLinkNest "PickedMatch" 179 yX2_becomeAs "PickedMatch") (by decide +kernel)) (hts _ m_X7_most_4cf9d8) (by decide +kernel) ⟨(Nat.le_of_ble_eq_true rfl), (Nat.le_of_ble_eq_true rfl)⟩, (hts _ m_X7_most_c21ce8), (hts _ m_X7_most_986579)⟩ (pre_v (ci := 2) (q0 := 0) hK (sub_P hm_19 hP) (sub_Ds (wc := wX2 E a2 s2 h2 ++ (wX2 E a1 s1 h1)) [8, 9, 10, 11, 12, 13, 14, 1, 2, 3, 4, 5, 6, 7] (by decide) rfl (hDD s0 s1 h1 s2 h2 s3 s4 h4 s5 s6 s7 s8 s9 t9)) hS hG hAB rfl rfl) rfl rfl hl.1 rfl (lv_room (Nat.le_of_ble_eq_true rfl)) dX7_most_19 ⟨Nat.zero_le _, Nat.zero_le _⟩) hS (w_free (hDD s0 s1 h1 s2 h2 s3 s4 h4 s5 s6 s7 s8 s9 t9) hS hA hm_19) (fun H locs hP1 hk hS => ?_)
    have hP := w_joins (ws' := wX7o E a0 a1 a2 a3 a4 a5 a6 a7 a8 a9 s0 ++ (wX2 E a1 s1 h1 ++ (wX2 E a2 q19.1 q19.2 ++ (wX1 E a3 s3 ++ (wX2 E a4 s4 h4 ++ (wX1 E a5 s5 ++ (wX5 E a6 s6 ++ (wX3 E a7 s7 ++ (wX0 E a8 s8 ++ (wX6 E a9 s9 t9)))))))))) (wc := wX2 E a2 s2 h2 ++ (wX2 E a1 s1 h1)) (wc' := wX2 E a2 q19.1 q19.2 ++ (wX2 E a1 s1 h1)) hP (hDD s0 s1 h1 s2 h2 s3 s4 h4 s5 s6 s7 s8 s9 t9) [8, 9, 10, 11, 12, 13, 14, 1, 2, 3, 4, 5, 6, 7] rfl [none, some 7, some 8, some 9, some 10, some 11, some 12, some 13, some 0, some 1, some 2, some 3, some 4, some 5, some 6, none, none, none, none, none, none, none, none, none, none, none, none, none, none, none, none, none, none, none, none, none, none, none, none, none, none, none, none, none, none, none, none, none, none, none] rfl rfl hk hP1
    refine lv_aload_n hx hb dX7_most_22 rfl (lv_at hl 0 rfl) ?_
    refine va_get (ci := 7) (C := RX7) (T := TX7) (N := 11) (v := .ref (a7 0)) hx hb hts i_X7_most_X7 hown hK hP 0 rfl rfl 8 (by decide) (hts _ m_X7_most_4537e5) (fun _ h9 => h9) rfl dX7_most_23 ?_
    refine lv_aload_n hx hb dX7_most_26 rfl (lv_at hl 0 rfl) ?_
    refine va_get (ci := 7) (C := RX7) (T := TX7) (N := 11) (v := .ref (a2 0)) hx hb hts i_X7_most_X7 hown hK hP 0 rfl rfl 1 (by decide) (hts _ m_X7_most_5dfb42) (fun _ h9 => h9) rfl dX7_most_27 ?_
    obtain ⟨q30, hc_30, hf⟩ := cl_e hf
    have hm_30 : ∀ q ∈ (wX3 E a7 s7 ++ (wX2 E a2 q19.1 q19.2)) ++ sW E.2.1 L, q ∈ (wX7o E a0 a1 a2 a3 a4 a5 a6 a7 a8 a9 s0 ++ (wX2 E a1 s1 h1 ++ (wX2 E a2 q19.1 q19.2 ++ (wX1 E a3 s3 ++ (wX2 E a4 s4 h4 ++ (wX1 E a5 s5 ++ (wX5 E a6 s6 ++ (wX3 E a7 s7 ++ (wX0 E a8 s8 ++ (wX6 E a9 s9 t9)))))))))) ++ sW E.2.1 L := (app_mem (sub_mem (suf := []) [41, 42, 43, 8, 9, 10, 11, 12, 13, 14] rfl))
    refine fin_i (E := E) (wc := (wX3 E a7 s7 ++ (wX2 E a2 q19.1 q19.2)) ++ sW E.2.1 L) (wc' := (wX3 E a7 q30.2.1 ++ (wX2 E a2 q30.2.2 q19.2)) ++ sW E.2.1 L) (va_runVN (As := [.ref (a2 0)]) (rest := []) ⟨hx, hb, hml, hown, hts⟩ (k_X3_longestRow l E a7 a2 L N s7 q19.1 q19.2 q30 hc_30 _) ⟨va_cnB 1 hts gX7_most_X3_longestRow_n189 rfl rfl rfl (hG.1 (.methodLinkNest "PickedMatch" 189 yX3_longestRow "PickedMatch") (by decide +kernel)) (hts _ m_X7_most_7824fe) (by decide +kernel) ⟨(Nat.le_of_ble_eq_true rfl), (Nat.le_of_ble_eq_true rfl)⟩, (hts _ m_X7_most_b30271), (hts _ m_X7_most_ee9e1b)⟩ (pre_v (ci := 3) (q0 := 0) hK (sub_P hm_30 hP) (sub_Ds (wc := wX3 E a7 s7 ++ (wX2 E a2 q19.1 q19.2)) [41, 42, 43, 8, 9, 10, 11, 12, 13, 14] (by decide) rfl (hDD s0 s1 h1 q19.1 q19.2 s3 s4 h4 s5 s6 s7 s8 s9 t9)) hS hG hAB rfl rfl) rfl rfl hl.1 rfl (lv_room (Nat.le_of_ble_eq_true rfl)) dX7_most_30 ⟨Nat.zero_le _, Nat.zero_le _⟩) hS (w_free (hDD s0 s1 h1 q19.1 q19.2 s3 s4 h4 s5 s6 s7 s8 s9 t9) hS hA hm_30) (fun H locs hP1 hk hS => ?_)
    have hP := w_joins (ws' := wX7o E a0 a1 a2 a3 a4 a5 a6 a7 a8 a9 s0 ++ (wX2 E a1 s1 h1 ++ (wX2 E a2 q30.2.2 q19.2 ++ (wX1 E a3 s3 ++ (wX2 E a4 s4 h4 ++ (wX1 E a5 s5 ++ (wX5 E a6 s6 ++ (wX3 E a7 q30.2.1 ++ (wX0 E a8 s8 ++ (wX6 E a9 s9 t9)))))))))) (wc := wX3 E a7 s7 ++ (wX2 E a2 q19.1 q19.2)) (wc' := wX3 E a7 q30.2.1 ++ (wX2 E a2 q30.2.2 q19.2)) hP (hDD s0 s1 h1 q19.1 q19.2 s3 s4 h4 s5 s6 s7 s8 s9 t9) [41, 42, 43, 8, 9, 10, 11, 12, 13, 14] rfl [none, none, none, none, none, none, none, none, some 3, some 4, some 5, some 6, some 7, some 8, some 9, none, none, none, none, none, none, none, none, none, none, none, none, none, none, none, none, none, none, none, none, none, none, none, none, none, none, some 0, some 1, some 2, none, none, none, none, none, none] rfl rfl hk hP1
    refine lv_topi (fun x33 e_x33 => ?_)
    have hf := nm_q e_x33 hf
    refine lv_istore_n (lv' := [(2, .int x33), (0, .ref (a0 0)), (1, .int p1)]) hx hb dX7_most_33 rfl hl (Nat.le_of_ble_eq_true rfl) rfl (fun ls hl => ?_)
    refine lv_iload_n hx hb dX7_most_34 rfl (lv_at hl 2 rfl) ?_
    refine lv_if_ge (tgt := 40) hx hb dX7_most_35 (by decide) (fun c_35 => ?_) (fun c_35 => ?_)
    · have hf := ite_t c_35 hf
      refine lv_iload_n hx hb dX7_most_40 rfl (lv_at hl 2 rfl) ?_
      refine lv_iload_n hx hb dX7_most_41 rfl (lv_at hl 0 rfl) ?_
      refine lv_icmp_ge (tgt := 57) hx hb dX7_most_42 (by decide) (fun c_42 => ?_) (fun c_42 => ?_)
      · have hf := ite_t c_42 hf
        refine lv_bipush (v := (-5)) hx hb dX7_most_57 (by decide) ?_
        have e9 := Option.some.inj hf
        exact rt_i hx hb hr hlocks (fst_e e9) (rtP (P := fun z => va_P E.1 vwCl ((wX7o E a0 a1 a2 a3 a4 a5 a6 a7 a8 a9 s0 ++ (wX2 E a1 s1 h1 ++ (wX2 E a2 z.2.1 z.2.2.1 ++ (wX1 E a3 s3 ++ (wX2 E a4 s4 h4 ++ (wX1 E a5 s5 ++ (wX5 E a6 s6 ++ (wX3 E a7 z.2.2.2 ++ (wX0 E a8 s8 ++ (wX6 E a9 s9 t9)))))))))) ++ sW E.2.1 L) H) e9 hP) hS dX7_most_59
      · have hf := ite_f c_42 hf
        refine lv_aload_n hx hb dX7_most_45 rfl (lv_at hl 1 rfl) ?_
        refine va_get (ci := 7) (C := RX7) (T := TX7) (N := 11) (v := .ref (a7 0)) hx hb hts i_X7_most_X7 hown hK hP 0 rfl rfl 8 (by decide) (hts _ m_X7_most_4537e5) (fun _ h9 => h9) rfl dX7_most_46 ?_
        refine va_getN (ci := 3) (C := RX3) (T := TX3) (N := 4) (v := .ref (a7 2)) hx hb hts i_X7_most_X3 hown hK hP 41 rfl rfl 1 (by decide) (nwG hG (w := .fieldLinkNest "PickedMatch" 193 "PickedMatch$Search" "best" "[I" "PickedMatch") (by decide +kernel)) (fun _ h9 => h9) rfl dX7_most_49 ?_
        refine lv_iload_n hx hb dX7_most_52 rfl (lv_at hl 2 rfl) ?_
        obtain ⟨h_53, hf⟩ := ck_e hf
        refine va_iald (cA := E.2.1) (n := 6) (f := q30.2.1 1) hx hb hK hP 43 0 rfl rfl h_53 dX7_most_53 ?_
        refine lv_goto (tgt := 59) hx hb dX7_most_54 (by decide) ?_
        have e9 := Option.some.inj hf
        exact rt_i hx hb hr hlocks (fst_e e9) (rtP (P := fun z => va_P E.1 vwCl ((wX7o E a0 a1 a2 a3 a4 a5 a6 a7 a8 a9 s0 ++ (wX2 E a1 s1 h1 ++ (wX2 E a2 z.2.1 z.2.2.1 ++ (wX1 E a3 s3 ++ (wX2 E a4 s4 h4 ++ (wX1 E a5 s5 ++ (wX5 E a6 s6 ++ (wX3 E a7 z.2.2.2 ++ (wX0 E a8 s8 ++ (wX6 E a9 s9 t9)))))))))) ++ sW E.2.1 L) H) e9 hP) hS dX7_most_59
    · have hf := ite_f c_35 hf
      refine lv_iload_n hx hb dX7_most_38 rfl (lv_at hl 0 rfl) ?_
      have e9 := Option.some.inj hf
      exact rt_i hx hb hr hlocks (fst_e e9) (rtP (P := fun z => va_P E.1 vwCl ((wX7o E a0 a1 a2 a3 a4 a5 a6 a7 a8 a9 s0 ++ (wX2 E a1 s1 h1 ++ (wX2 E a2 z.2.1 z.2.2.1 ++ (wX1 E a3 s3 ++ (wX2 E a4 s4 h4 ++ (wX1 E a5 s5 ++ (wX5 E a6 s6 ++ (wX3 E a7 z.2.2.2 ++ (wX0 E a8 s8 ++ (wX6 E a9 s9 t9)))))))))) ++ sW E.2.1 L) H) e9 hP) hS dX7_most_39
  · have hf := ite_t c_6 hf
    refine lv_iconst (v := (-1)) hx hb dX7_most_9 (by decide) ?_
    have e9 := Option.some.inj hf
    exact rt_i hx hb hr hlocks (fst_e e9) (rtP (P := fun z => va_P E.1 vwCl ((wX7o E a0 a1 a2 a3 a4 a5 a6 a7 a8 a9 s0 ++ (wX2 E a1 s1 h1 ++ (wX2 E a2 z.2.1 z.2.2.1 ++ (wX1 E a3 s3 ++ (wX2 E a4 s4 h4 ++ (wX1 E a5 s5 ++ (wX5 E a6 s6 ++ (wX3 E a7 z.2.2.2 ++ (wX0 E a8 s8 ++ (wX6 E a9 s9 t9)))))))))) ++ sW E.2.1 L) H) e9 hP) hS dX7_most_10
