/-! ===== what the methods compute, and that they do: by program out of the bytecode (wip/gen) ===== -/
noncomputable def f_X7_bestStart (N : Nat) (L : List SR) (s1 : St) (h1 : Option SR) (s2 : St) (h2 : Option SR) (s7 : St) : Option (Int32 × St × (Option SR) × St) := cl (f_X2_becomeAs N s2 h2 s1 h1) (fun q8 => cl (f_X3_longestRow N L s7 q8.1 q8.2) (fun q19 => (if q19.1 ≤ 0 then some ((-5), q19.2.2, q8.2, q19.2.1) else ck 0 6 (some (q19.2.1 1 (0 : Int32).toNatClampNeg, q19.2.2, q8.2, q19.2.1)))))
noncomputable def l_X7_bestBack_36 (N : Nat) (L : List SR) (s1 : St) (h1 : Option SR) : Nat → St → Option SR → St → Int32 → Int32 → Int32 → Option (Int32 × St × (Option SR) × St)
  | 0, _, _, _, _, _, _ => none
  | n + 1, s2, h2, s7, v1, v2, v3 => (if (s1 0 0) ≤ v3 then some (v2, s2, h2, s7) else cl (f_X2_isHad N s1 v3) (fun q52 => (if q52 = 0 then nm (v3 + 1) (fun (x109 : Int32) => l_X7_bestBack_36 N L s1 h1 n s2 h2 s7 v1 v2 x109) else cl (f_X2_becomeAs N s2 h2 s1 h1) (fun q66 => cl (f_X2_layDown N q66.1 v3) (fun q74 => cl (f_X3_longestRow N L s7 q74 q66.2) (fun q92 => nm ((q74 6 0) + q92.1) (fun (x96 : Int32) => (if x96 ≤ v1 then nm (v3 + 1) (fun (x109 : Int32) => l_X7_bestBack_36 N L s1 h1 n q92.2.2 q66.2 q92.2.1 v1 v2 x109) else nm (v3 + 1) (fun (x109 : Int32) => l_X7_bestBack_36 N L s1 h1 n q92.2.2 q66.2 q92.2.1 x96 v3 x109)))))))))
noncomputable def f_X7_bestBack (N : Nat) (L : List SR) (s1 : St) (h1 : Option SR) (s2 : St) (h2 : Option SR) (s7 : St) : Option (Int32 × St × (Option SR) × St) := cl (f_X2_becomeAs N s2 h2 s1 h1) (fun q8 => cl (f_X3_longestRow N L s7 q8.1 q8.2) (fun q26 => nm ((s1 6 0) + q26.1) (fun (x30 : Int32) => nm (-5) (fun (x33 : Int32) => l_X7_bestBack_36 N L s1 h1 N q26.2.2 q8.2 q26.2.1 x30 x33 0))))
noncomputable def f_X7_best (N : Nat) (L : List SR) (s1 : St) (h1 : Option SR) (s2 : St) (h2 : Option SR) (s7 : St) (p1 : Int32) : Option (Int32 × St × (Option SR) × St) := (if p1 = 0 then cl (f_X7_bestStart N L s1 h1 s2 h2 s7) (fun q5 => some (q5.1, q5.2.1, q5.2.2.1, q5.2.2.2)) else (if p1 = 1 then cl (f_X7_bestBack N L s1 h1 s2 h2 s7) (fun q15 => some (q15.1, q15.2.1, q15.2.2.1, q15.2.2.2)) else some ((-1), s2, h2, s7)))
noncomputable def f_X7_reach (N : Nat) (L : List SR) (s1 : St) (h1 : Option SR) (s2 : St) (h2 : Option SR) (s7 : St) (p1 : Int32) : Option (Int32 × St × (Option SR) × St) := cl (f_X2_hasThing N s1 p1) (fun q5 => (if q5 = 0 then some ((-1), s2, h2, s7) else cl (f_X2_isHad N s1 p1) (fun q18 => (if q18 = 0 then cl (f_X2_becomeAs N s2 h2 s1 h1) (fun q35 => cl (f_X3_fewestAhead N L s7 q35.1 q35.2 p1) (fun q47 => some (q47.1, q47.2.2, q35.2, q47.2.1))) else some ((-5), s2, h2, s7)))))
noncomputable def l_X7_fitting_42 (N : Nat) (L : List SR) (s1 : St) (h1 : Option SR) (v1 : Int32) (v2 : Int32) : Nat → St → Option SR → Int32 → Int32 → Int32 → Option (Int32 × St × (Option SR))
  | 0, _, _, _, _, _ => none
  | n + 1, s2, h2, v3, v4, v5 => (if 255 < v5 then (if v2 = 0 then some (v3, s2, h2) else some (v4, s2, h2)) else ck v1 6 (nm (sA s2 3 (upd (s2 3) v1.toNatClampNeg v5)) (fun (s2_60 : St) => cl (f_X2_goesNow N L s2_60 h2 v1) (fun q66 => (if q66.1 = 0 then nm (v5 + 1) (fun (x88 : Int32) => l_X7_fitting_42 N L s1 h1 v1 v2 n q66.2 h2 v3 v4 x88) else (if v3 = 0 then nm (v3 + 1) (fun (x85 : Int32) => nm (v5 + 1) (fun (x88 : Int32) => l_X7_fitting_42 N L s1 h1 v1 v2 n q66.2 h2 x85 v5 x88)) else nm (v3 + 1) (fun (x85 : Int32) => nm (v5 + 1) (fun (x88 : Int32) => l_X7_fitting_42 N L s1 h1 v1 v2 n q66.2 h2 x85 v4 x88))))))))
noncomputable def f_X7_fitting (N : Nat) (L : List SR) (s1 : St) (h1 : Option SR) (s2 : St) (h2 : Option SR) (p1 : Int32) (p2 : Int32) : Option (Int32 × St × (Option SR)) := cl (f_X2_hasThing N s1 p1) (fun q5 => (if q5 = 0 then some ((-1), s2, h2) else cl (f_X7_isWithin N p2 0 1) (fun q14 => (if q14 = 0 then some ((-1), s2, h2) else nm (-5) (fun (x26 : Int32) => cl (f_X2_becomeAs N s2 h2 s1 h1) (fun q36 => l_X7_fitting_42 N L s1 h1 p1 p2 N q36.1 q36.2 0 x26 0))))))
noncomputable def f_X7_see (N : Nat) (s1 : St) (s3 : St) (p1 : Int32) (p2 : Int32) (p3 : Int32) : Option (Int32 × St) := (if p1 = (-1) then nm (sI s3 3 0) (fun (s3_10 : St) => some (0, s3_10)) else cl (f_X2_hasThing N s1 p1) (fun q20 => (if q20 = 0 then some ((-1), s3) else cl (f_X7_isWithin N p3 0 20) (fun q32 => (if q32 = 0 then some ((-2), s3) else (if (s3 3 0) < 5 then cl (f_X1_addSeen N s3 p1 p2 p3) (fun q62 => some (q62.1, q62.2)) else some ((-4), s3)))))))
noncomputable def l_X7_marked_31 (N : Nat) (L : List SR) (s1 : St) (h1 : Option SR) (s3 : St) (v1 : Int32) (v2 : Int32) : Nat → St → Option SR → Int32 → Int32 → Int32 → Option (Int32 × St × (Option SR))
  | 0, _, _, _, _, _ => none
  | n + 1, s2, h2, v3, v4, v5 => (if 255 < v5 then (if v2 = 0 then some (v3, s2, h2) else some (v4, s2, h2)) else cl (f_X2_becomeAs N s2 h2 s1 h1) (fun q47 => ck v1 6 (nm (sA q47.1 3 (upd (q47.1 3) v1.toNatClampNeg v5)) (fun (s2_60 : St) => cl (f_X1_isAllSeen N L s3 s2_60 q47.2) (fun q69 => (if q69.1 = 0 then nm (v5 + 1) (fun (x91 : Int32) => l_X7_marked_31 N L s1 h1 s3 v1 v2 n q69.2 q47.2 v3 v4 x91) else (if v3 = 0 then nm (v3 + 1) (fun (x88 : Int32) => nm (v5 + 1) (fun (x91 : Int32) => l_X7_marked_31 N L s1 h1 s3 v1 v2 n q69.2 q47.2 x88 v5 x91)) else nm (v3 + 1) (fun (x88 : Int32) => nm (v5 + 1) (fun (x91 : Int32) => l_X7_marked_31 N L s1 h1 s3 v1 v2 n q69.2 q47.2 x88 v4 x91)))))))))
noncomputable def f_X7_marked (N : Nat) (L : List SR) (s1 : St) (h1 : Option SR) (s2 : St) (h2 : Option SR) (s3 : St) (p1 : Int32) (p2 : Int32) : Option (Int32 × St × (Option SR)) := cl (f_X2_hasThing N s1 p1) (fun q5 => (if q5 = 0 then some ((-1), s2, h2) else cl (f_X7_isWithin N p2 0 1) (fun q14 => (if q14 = 0 then some ((-1), s2, h2) else nm (-5) (fun (x26 : Int32) => l_X7_marked_31 N L s1 h1 s3 p1 p2 N s2 h2 0 x26 0)))))
noncomputable def l_X7_can_31 (N : Nat) (L : List SR) (s1 : St) (h1 : Option SR) (s3 : St) (v1 : Int32) (v2 : Int32) : Nat → St → Option SR → Int32 → Int32 → Int32 → Option (Int32 × St × (Option SR))
  | 0, _, _, _, _, _ => none
  | n + 1, s2, h2, v3, v4, v5 => (if 9 < v5 then (if v2 = 0 then some (v3, s2, h2) else some (v4, s2, h2)) else cl (f_X2_becomeAs N s2 h2 s1 h1) (fun q46 => ck v1 6 (nm (sA q46.1 2 (upd (q46.1 2) v1.toNatClampNeg v5)) (fun (s2_59 : St) => cl (f_X1_isAllSeen N L s3 s2_59 q46.2) (fun q68 => (if q68.1 = 0 then nm (v5 + 1) (fun (x90 : Int32) => l_X7_can_31 N L s1 h1 s3 v1 v2 n q68.2 q46.2 v3 v4 x90) else (if v3 = 0 then nm (v3 + 1) (fun (x87 : Int32) => nm (v5 + 1) (fun (x90 : Int32) => l_X7_can_31 N L s1 h1 s3 v1 v2 n q68.2 q46.2 x87 v5 x90)) else nm (v3 + 1) (fun (x87 : Int32) => nm (v5 + 1) (fun (x90 : Int32) => l_X7_can_31 N L s1 h1 s3 v1 v2 n q68.2 q46.2 x87 v4 x90)))))))))
noncomputable def f_X7_can (N : Nat) (L : List SR) (s1 : St) (h1 : Option SR) (s2 : St) (h2 : Option SR) (s3 : St) (p1 : Int32) (p2 : Int32) : Option (Int32 × St × (Option SR)) := cl (f_X2_hasThing N s1 p1) (fun q5 => (if q5 = 0 then some ((-1), s2, h2) else cl (f_X7_isWithin N p2 0 1) (fun q14 => (if q14 = 0 then some ((-1), s2, h2) else nm (-5) (fun (x26 : Int32) => l_X7_can_31 N L s1 h1 s3 p1 p2 N s2 h2 0 x26 0)))))
noncomputable def l_X7_greatestDivisor_7 (N : Nat) : Nat → Int32 → Int32 → Int32 → Option (Int32)
  | 0, _, _, _ => none
  | n + 1, v2, v3, v4 => (if 100 ≤ v4 then some v2 else (if v3 = 0 then some v2 else cz v3 (nm (v2 - v2 / v3 * v3) (fun (x21 : Int32) => nm (v4 + 1) (fun (x28 : Int32) => l_X7_greatestDivisor_7 N n v3 x21 x28)))))
noncomputable def f_X7_greatestDivisor (N : Nat) (p0 : Int32) (p1 : Int32) : Option (Int32) := l_X7_greatestDivisor_7 N N p0 p1 0
abbrev rm_X7_bestStart : Room := { frames := 15, cells := 0, slots := 0, locals := 421 }
theorem m_X7_bestStart_5dfb42 : Cond.fieldLink RX7 18 "PickedMatch" "trial" "LPickedMatch$Scene;" ∈ wsX7_bestStart := by decide +kernel
theorem i_X7_bestStart_X7 : ∀ w ∈ wsX70, w ∈ wsX7_bestStart := fun _ h => List.mem_cons_of_mem _ (List.mem_append_left _ (List.mem_append_left _ (List.mem_append_left _ (List.mem_append_right _ h))))
theorem m_X7_bestStart_265b14 : Cond.fieldLink RX7 12 "PickedMatch" "scene" "LPickedMatch$Scene;" ∈ wsX7_bestStart := by decide +kernel
theorem m_X7_bestStart_4cf9d8 : Cond.initialized RX2 ∈ wsX7_bestStart := by decide +kernel
theorem m_X7_bestStart_c21ce8 : Cond.instanceMethod yX2_becomeAs ∈ wsX7_bestStart := by decide +kernel
theorem m_X7_bestStart_986579 : Cond.selects RX2 yX2_becomeAs yX2_becomeAs ∈ wsX7_bestStart := by decide +kernel
theorem m_X7_bestStart_4537e5 : Cond.fieldLink RX7 44 "PickedMatch" "search" "LPickedMatch$Search;" ∈ wsX7_bestStart := by decide +kernel
theorem m_X7_bestStart_7824fe : Cond.initialized RX3 ∈ wsX7_bestStart := by decide +kernel
theorem m_X7_bestStart_b30271 : Cond.instanceMethod yX3_longestRow ∈ wsX7_bestStart := by decide +kernel
theorem m_X7_bestStart_ee9e1b : Cond.selects RX3 yX3_longestRow yX3_longestRow ∈ wsX7_bestStart := by decide +kernel
theorem i_X7_bestStart_X3 : ∀ w ∈ wsX30, w ∈ wsX7_bestStart := fun _ h => List.mem_cons_of_mem _ (List.mem_append_left _ (List.mem_append_left _ (List.mem_append_right _ h)))
set_option maxHeartbeats 8000000 in
set_option maxRecDepth 100000 in
theorem k_X7_bestStart (l : Launch) (E : Ev) (a0 : Nat → Nat) (a1 : Nat → Nat) (a2 : Nat → Nat) (a3 : Nat → Nat) (a4 : Nat → Nat) (a5 : Nat → Nat) (a6 : Nat → Nat) (a7 : Nat → Nat) (a8 : Nat → Nat) (a9 : Nat → Nat) (L : List SR) (N : Nat) (s0 : St) (s1 : St) (h1 : Option SR) (s2 : St) (h2 : Option SR) (s3 : St) (s4 : St) (h4 : Option SR) (s5 : St) (s6 : St) (s7 : St) (s8 : St) (s9 : St) (t9 : Nat → Nat → Int64) (q : (Int32 × St × (Option SR) × St)) (hf : f_X7_bestStart N L s1 h1 s2 h2 s7 = some q) : Ci l yX7_bestStart wsX7_bestStart rm_X7_bestStart E [.ref (a0 0)] ((wX7o E a0 a1 a2 a3 a4 a5 a6 a7 a8 a9 s0 ++ (wX2 E a1 s1 h1 ++ (wX2 E a2 s2 h2 ++ (wX1 E a3 s3 ++ (wX2 E a4 s4 h4 ++ (wX1 E a5 s5 ++ (wX5 E a6 s6 ++ (wX3 E a7 s7 ++ (wX0 E a8 s8 ++ (wX6 E a9 s9 t9)))))))))) ++ sW E.2.1 L) ((wX7o E a0 a1 a2 a3 a4 a5 a6 a7 a8 a9 s0 ++ (wX2 E a1 s1 h1 ++ (wX2 E a2 q.2.1 q.2.2.1 ++ (wX1 E a3 s3 ++ (wX2 E a4 s4 h4 ++ (wX1 E a5 s5 ++ (wX5 E a6 s6 ++ (wX3 E a7 q.2.2.2 ++ (wX0 E a8 s8 ++ (wX6 E a9 s9 t9)))))))))) ++ sW E.2.1 L) q.1 := by
  unfold f_X7_bestStart at hf
  intro sz
  refine Met.ofW (cc := cX7_bestStart) (maxL := 1) (ret := (some .int)) (by decide) rfl ?_
  intro p e s m args below meth c s₁ B hml hpre
  obtain ⟨rfl, hsz, hP, hK, hD0, hG, hA, hAB⟩ := start hpre
  have hx := B.exec
  have hb := B.bytes
  have hr := B.returns
  have hts := atoms_spec (ws := wsX7_bestStart) B.pre
  have hown : s.vm.findClass RX7 = some m.cls := findClass_of_methodNamed B.named
  have hlocks := B.notSynchronized
  subst hsz
  generalize va_A ((wX7o E a0 a1 a2 a3 a4 a5 a6 a7 a8 a9 s0 ++ (wX2 E a1 s1 h1 ++ (wX2 E a2 s2 h2 ++ (wX1 E a3 s3 ++ (wX2 E a4 s4 h4 ++ (wX1 E a5 s5 ++ (wX5 E a6 s6 ++ (wX3 E a7 s7 ++ (wX0 E a8 s8 ++ (wX6 E a9 s9 t9)))))))))) ++ sW E.2.1 L) s.heap.size = A0 at hD0 hA hAB ⊢
  have hDD : ∀ (s0 : St) (s1 : St) (h1 : Option SR) (s2 : St) (h2 : Option SR) (s3 : St) (s4 : St) (h4 : Option SR) (s5 : St) (s6 : St) (s7 : St) (s8 : St) (s9 : St) (t9 : Nat → Nat → Int64), va_D A0 ((wX7o E a0 a1 a2 a3 a4 a5 a6 a7 a8 a9 s0 ++ (wX2 E a1 s1 h1 ++ (wX2 E a2 s2 h2 ++ (wX1 E a3 s3 ++ (wX2 E a4 s4 h4 ++ (wX1 E a5 s5 ++ (wX5 E a6 s6 ++ (wX3 E a7 s7 ++ (wX0 E a8 s8 ++ (wX6 E a9 s9 t9)))))))))) ++ sW E.2.1 L) := fun s0 s1 h1 s2 h2 s3 s4 h4 s5 s6 s7 s8 s9 t9 => vD_addr hD0 rfl
  have hS : va_S A0 s.heap s.heap [] := va_S.rf
  have hl := lv_entry ([.ref (a0 0)]) (n := 1) (Nat.le_of_ble_eq_true rfl)
  rw [lg_entry_eq]
  generalize (lg_sl ([.ref (a0 0)]) ++ List.replicate (1 - (lg_sl ([.ref (a0 0)])).length) Slot.unset).toArray = ls at hl ⊢
  have hl : lv_has ls 1 [(0, .ref (a0 0))] := hl
  refine lv_aload_n hx hb dX7_bestStart_0 rfl (lv_at hl 0 rfl) ?_
  refine va_get (ci := 7) (C := RX7) (T := TX7) (N := 11) (v := .ref (a2 0)) hx hb hts i_X7_bestStart_X7 hown hK hP 0 rfl rfl 1 (by decide) (hts _ m_X7_bestStart_5dfb42) (fun _ h9 => h9) rfl dX7_bestStart_1 ?_
  refine lv_aload_n hx hb dX7_bestStart_4 rfl (lv_at hl 0 rfl) ?_
  refine va_get (ci := 7) (C := RX7) (T := TX7) (N := 11) (v := .ref (a1 0)) hx hb hts i_X7_bestStart_X7 hown hK hP 0 rfl rfl 0 (by decide) (hts _ m_X7_bestStart_265b14) (fun _ h9 => h9) rfl dX7_bestStart_5 ?_
  obtain ⟨q8, hc_8, hf⟩ := cl_e hf
  have hm_8 : ∀ q ∈ (wX2 E a2 s2 h2 ++ (wX2 E a1 s1 h1)) ++ sW E.2.1 L, q ∈ (wX7o E a0 a1 a2 a3 a4 a5 a6 a7 a8 a9 s0 ++ (wX2 E a1 s1 h1 ++ (wX2 E a2 s2 h2 ++ (wX1 E a3 s3 ++ (wX2 E a4 s4 h4 ++ (wX1 E a5 s5 ++ (wX5 E a6 s6 ++ (wX3 E a7 s7 ++ (wX0 E a8 s8 ++ (wX6 E a9 s9 t9)))))))))) ++ sW E.2.1 L := (app_mem (sub_mem (suf := []) [8, 9, 10, 11, 12, 13, 14, 1, 2, 3, 4, 5, 6, 7] rfl))
  refine fin_v (E := E) (wc := (wX2 E a2 s2 h2 ++ (wX2 E a1 s1 h1)) ++ sW E.2.1 L) (wc' := (wX2 E a2 q8.1 q8.2 ++ (wX2 E a1 s1 h1)) ++ sW E.2.1 L) (va_runVN (As := [.ref (a1 0)]) (rest := []) ⟨hx, hb, hml, hown, hts⟩ (k_X2_becomeAs l E a2 a1 L N s2 h2 s1 h1 q8 hc_8 _) ⟨va_cnB 1 hts gX7_bestStart_X2_becomeAs_n179 rfl rfl rfl (hG.1 (.methodLinkNest "PickedMatch" 179 yX2_becomeAs "PickedMatch") (by decide +kernel)) (hts _ m_X7_bestStart_4cf9d8) (by decide +kernel) ⟨(Nat.le_of_ble_eq_true rfl), (Nat.le_of_ble_eq_true rfl)⟩, (hts _ m_X7_bestStart_c21ce8), (hts _ m_X7_bestStart_986579)⟩ (pre_v (ci := 2) (q0 := 0) hK (sub_P hm_8 hP) (sub_Ds (wc := wX2 E a2 s2 h2 ++ (wX2 E a1 s1 h1)) [8, 9, 10, 11, 12, 13, 14, 1, 2, 3, 4, 5, 6, 7] (by decide) rfl (hDD s0 s1 h1 s2 h2 s3 s4 h4 s5 s6 s7 s8 s9 t9)) hS hG hAB rfl rfl) rfl rfl hl.1 rfl (lv_room (Nat.le_of_ble_eq_true rfl)) dX7_bestStart_8 ⟨Nat.zero_le _, Nat.zero_le _⟩) hS (w_free (hDD s0 s1 h1 s2 h2 s3 s4 h4 s5 s6 s7 s8 s9 t9) hS hA hm_8) (fun H locs hP1 hk hS => ?_)
  have hP := w_joins (ws' := wX7o E a0 a1 a2 a3 a4 a5 a6 a7 a8 a9 s0 ++ (wX2 E a1 s1 h1 ++ (wX2 E a2 q8.1 q8.2 ++ (wX1 E a3 s3 ++ (wX2 E a4 s4 h4 ++ (wX1 E a5 s5 ++ (wX5 E a6 s6 ++ (wX3 E a7 s7 ++ (wX0 E a8 s8 ++ (wX6 E a9 s9 t9)))))))))) (wc := wX2 E a2 s2 h2 ++ (wX2 E a1 s1 h1)) (wc' := wX2 E a2 q8.1 q8.2 ++ (wX2 E a1 s1 h1)) hP (hDD s0 s1 h1 s2 h2 s3 s4 h4 s5 s6 s7 s8 s9 t9) [8, 9, 10, 11, 12, 13, 14, 1, 2, 3, 4, 5, 6, 7] rfl [none, some 7, some 8, some 9, some 10, some 11, some 12, some 13, some 0, some 1, some 2, some 3, some 4, some 5, some 6, none, none, none, none, none, none, none, none, none, none, none, none, none, none, none, none, none, none, none, none, none, none, none, none, none, none, none, none, none, none, none, none, none, none, none] rfl rfl hk hP1
  refine lv_aload_n hx hb dX7_bestStart_11 rfl (lv_at hl 0 rfl) ?_
  refine va_get (ci := 7) (C := RX7) (T := TX7) (N := 11) (v := .ref (a7 0)) hx hb hts i_X7_bestStart_X7 hown hK hP 0 rfl rfl 8 (by decide) (hts _ m_X7_bestStart_4537e5) (fun _ h9 => h9) rfl dX7_bestStart_12 ?_
  refine lv_aload_n hx hb dX7_bestStart_15 rfl (lv_at hl 0 rfl) ?_
  refine va_get (ci := 7) (C := RX7) (T := TX7) (N := 11) (v := .ref (a2 0)) hx hb hts i_X7_bestStart_X7 hown hK hP 0 rfl rfl 1 (by decide) (hts _ m_X7_bestStart_5dfb42) (fun _ h9 => h9) rfl dX7_bestStart_16 ?_
  obtain ⟨q19, hc_19, hf⟩ := cl_e hf
  have hm_19 : ∀ q ∈ (wX3 E a7 s7 ++ (wX2 E a2 q8.1 q8.2)) ++ sW E.2.1 L, q ∈ (wX7o E a0 a1 a2 a3 a4 a5 a6 a7 a8 a9 s0 ++ (wX2 E a1 s1 h1 ++ (wX2 E a2 q8.1 q8.2 ++ (wX1 E a3 s3 ++ (wX2 E a4 s4 h4 ++ (wX1 E a5 s5 ++ (wX5 E a6 s6 ++ (wX3 E a7 s7 ++ (wX0 E a8 s8 ++ (wX6 E a9 s9 t9)))))))))) ++ sW E.2.1 L := (app_mem (sub_mem (suf := []) [41, 42, 43, 8, 9, 10, 11, 12, 13, 14] rfl))
  refine fin_i (E := E) (wc := (wX3 E a7 s7 ++ (wX2 E a2 q8.1 q8.2)) ++ sW E.2.1 L) (wc' := (wX3 E a7 q19.2.1 ++ (wX2 E a2 q19.2.2 q8.2)) ++ sW E.2.1 L) (va_runVN (As := [.ref (a2 0)]) (rest := []) ⟨hx, hb, hml, hown, hts⟩ (k_X3_longestRow l E a7 a2 L N s7 q8.1 q8.2 q19 hc_19 _) ⟨va_cnB 1 hts gX7_bestStart_X3_longestRow_n189 rfl rfl rfl (hG.1 (.methodLinkNest "PickedMatch" 189 yX3_longestRow "PickedMatch") (by decide +kernel)) (hts _ m_X7_bestStart_7824fe) (by decide +kernel) ⟨(Nat.le_of_ble_eq_true rfl), (Nat.le_of_ble_eq_true rfl)⟩, (hts _ m_X7_bestStart_b30271), (hts _ m_X7_bestStart_ee9e1b)⟩ (pre_v (ci := 3) (q0 := 0) hK (sub_P hm_19 hP) (sub_Ds (wc := wX3 E a7 s7 ++ (wX2 E a2 q8.1 q8.2)) [41, 42, 43, 8, 9, 10, 11, 12, 13, 14] (by decide) rfl (hDD s0 s1 h1 q8.1 q8.2 s3 s4 h4 s5 s6 s7 s8 s9 t9)) hS hG hAB rfl rfl) rfl rfl hl.1 rfl (lv_room (Nat.le_of_ble_eq_true rfl)) dX7_bestStart_19 ⟨Nat.zero_le _, Nat.zero_le _⟩) hS (w_free (hDD s0 s1 h1 q8.1 q8.2 s3 s4 h4 s5 s6 s7 s8 s9 t9) hS hA hm_19) (fun H locs hP1 hk hS => ?_)
  have hP := w_joins (ws' := wX7o E a0 a1 a2 a3 a4 a5 a6 a7 a8 a9 s0 ++ (wX2 E a1 s1 h1 ++ (wX2 E a2 q19.2.2 q8.2 ++ (wX1 E a3 s3 ++ (wX2 E a4 s4 h4 ++ (wX1 E a5 s5 ++ (wX5 E a6 s6 ++ (wX3 E a7 q19.2.1 ++ (wX0 E a8 s8 ++ (wX6 E a9 s9 t9)))))))))) (wc := wX3 E a7 s7 ++ (wX2 E a2 q8.1 q8.2)) (wc' := wX3 E a7 q19.2.1 ++ (wX2 E a2 q19.2.2 q8.2)) hP (hDD s0 s1 h1 q8.1 q8.2 s3 s4 h4 s5 s6 s7 s8 s9 t9) [41, 42, 43, 8, 9, 10, 11, 12, 13, 14] rfl [none, none, none, none, none, none, none, none, some 3, some 4, some 5, some 6, some 7, some 8, some 9, none, none, none, none, none, none, none, none, none, none, none, none, none, none, none, none, none, none, none, none, none, none, none, none, none, none, some 0, some 1, some 2, none, none, none, none, none, none] rfl rfl hk hP1
  refine lv_if_le (tgt := 37) hx hb dX7_bestStart_22 (by decide) (fun c_22 => ?_) (fun c_22 => ?_)
  · have hf := ite_t c_22 hf
    refine lv_bipush (v := (-5)) hx hb dX7_bestStart_37 (by decide) ?_
    have e9 := Option.some.inj hf
    exact rt_i hx hb hr hlocks (fst_e e9) (rtP (P := fun z => va_P E.1 vwCl ((wX7o E a0 a1 a2 a3 a4 a5 a6 a7 a8 a9 s0 ++ (wX2 E a1 s1 h1 ++ (wX2 E a2 z.2.1 z.2.2.1 ++ (wX1 E a3 s3 ++ (wX2 E a4 s4 h4 ++ (wX1 E a5 s5 ++ (wX5 E a6 s6 ++ (wX3 E a7 z.2.2.2 ++ (wX0 E a8 s8 ++ (wX6 E a9 s9 t9)))))))))) ++ sW E.2.1 L) H) e9 hP) hS dX7_bestStart_39
  · have hf := ite_f c_22 hf
    refine lv_aload_n hx hb dX7_bestStart_25 rfl (lv_at hl 0 rfl) ?_
    refine va_get (ci := 7) (C := RX7) (T := TX7) (N := 11) (v := .ref (a7 0)) hx hb hts i_X7_bestStart_X7 hown hK hP 0 rfl rfl 8 (by decide) (hts _ m_X7_bestStart_4537e5) (fun _ h9 => h9) rfl dX7_bestStart_26 ?_
    refine va_getN (ci := 3) (C := RX3) (T := TX3) (N := 4) (v := .ref (a7 2)) hx hb hts i_X7_bestStart_X3 hown hK hP 41 rfl rfl 1 (by decide) (nwG hG (w := .fieldLinkNest "PickedMatch" 193 "PickedMatch$Search" "best" "[I" "PickedMatch") (by decide +kernel)) (fun _ h9 => h9) rfl dX7_bestStart_29 ?_
    refine lv_iconst (v := 0) hx hb dX7_bestStart_32 (by decide) ?_
    obtain ⟨h_33, hf⟩ := ck_e hf
    refine va_iald (cA := E.2.1) (n := 6) (f := q19.2.1 1) hx hb hK hP 43 0 rfl rfl h_33 dX7_bestStart_33 ?_
    refine lv_goto (tgt := 39) hx hb dX7_bestStart_34 (by decide) ?_
    have e9 := Option.some.inj hf
    exact rt_i hx hb hr hlocks (fst_e e9) (rtP (P := fun z => va_P E.1 vwCl ((wX7o E a0 a1 a2 a3 a4 a5 a6 a7 a8 a9 s0 ++ (wX2 E a1 s1 h1 ++ (wX2 E a2 z.2.1 z.2.2.1 ++ (wX1 E a3 s3 ++ (wX2 E a4 s4 h4 ++ (wX1 E a5 s5 ++ (wX5 E a6 s6 ++ (wX3 E a7 z.2.2.2 ++ (wX0 E a8 s8 ++ (wX6 E a9 s9 t9)))))))))) ++ sW E.2.1 L) H) e9 hP) hS dX7_bestStart_39
abbrev rm_X7_bestBack : Room := { frames := 15, cells := 0, slots := 0, locals := 421 }
theorem m_X7_bestBack_265b14 : Cond.fieldLink RX7 12 "PickedMatch" "scene" "LPickedMatch$Scene;" ∈ wsX7_bestBack := by decide +kernel
theorem i_X7_bestBack_X7 : ∀ w ∈ wsX70, w ∈ wsX7_bestBack := fun _ h => List.mem_cons_of_mem _ (List.mem_append_left _ (List.mem_append_left _ (List.mem_append_left _ (List.mem_append_right _ h))))
theorem i_X7_bestBack_X2 : ∀ w ∈ wsX20, w ∈ wsX7_bestBack := fun _ h => List.mem_cons_of_mem _ (List.mem_append_left _ (List.mem_append_left _ (List.mem_append_right _ h)))
theorem m_X7_bestBack_4cf9d8 : Cond.initialized RX2 ∈ wsX7_bestBack := by decide +kernel
theorem m_X7_bestBack_ab92ab : Cond.instanceMethod yX2_isHad ∈ wsX7_bestBack := by decide +kernel
theorem m_X7_bestBack_8e582f : Cond.selects RX2 yX2_isHad yX2_isHad ∈ wsX7_bestBack := by decide +kernel
theorem m_X7_bestBack_5dfb42 : Cond.fieldLink RX7 18 "PickedMatch" "trial" "LPickedMatch$Scene;" ∈ wsX7_bestBack := by decide +kernel
theorem m_X7_bestBack_c21ce8 : Cond.instanceMethod yX2_becomeAs ∈ wsX7_bestBack := by decide +kernel
theorem m_X7_bestBack_986579 : Cond.selects RX2 yX2_becomeAs yX2_becomeAs ∈ wsX7_bestBack := by decide +kernel
theorem m_X7_bestBack_a3c303 : Cond.instanceMethod yX2_layDown ∈ wsX7_bestBack := by decide +kernel
theorem m_X7_bestBack_530824 : Cond.selects RX2 yX2_layDown yX2_layDown ∈ wsX7_bestBack := by decide +kernel
theorem m_X7_bestBack_4537e5 : Cond.fieldLink RX7 44 "PickedMatch" "search" "LPickedMatch$Search;" ∈ wsX7_bestBack := by decide +kernel
theorem m_X7_bestBack_7824fe : Cond.initialized RX3 ∈ wsX7_bestBack := by decide +kernel
theorem m_X7_bestBack_b30271 : Cond.instanceMethod yX3_longestRow ∈ wsX7_bestBack := by decide +kernel
theorem m_X7_bestBack_ee9e1b : Cond.selects RX3 yX3_longestRow yX3_longestRow ∈ wsX7_bestBack := by decide +kernel
set_option maxHeartbeats 8000000 in
set_option maxRecDepth 100000 in
theorem k_X7_bestBack (l : Launch) (E : Ev) (a0 : Nat → Nat) (a1 : Nat → Nat) (a2 : Nat → Nat) (a3 : Nat → Nat) (a4 : Nat → Nat) (a5 : Nat → Nat) (a6 : Nat → Nat) (a7 : Nat → Nat) (a8 : Nat → Nat) (a9 : Nat → Nat) (L : List SR) (N : Nat) (s0 : St) (s1 : St) (h1 : Option SR) (s2 : St) (h2 : Option SR) (s3 : St) (s4 : St) (h4 : Option SR) (s5 : St) (s6 : St) (s7 : St) (s8 : St) (s9 : St) (t9 : Nat → Nat → Int64) (q : (Int32 × St × (Option SR) × St)) (hf : f_X7_bestBack N L s1 h1 s2 h2 s7 = some q) : Ci l yX7_bestBack wsX7_bestBack rm_X7_bestBack E [.ref (a0 0)] ((wX7o E a0 a1 a2 a3 a4 a5 a6 a7 a8 a9 s0 ++ (wX2 E a1 s1 h1 ++ (wX2 E a2 s2 h2 ++ (wX1 E a3 s3 ++ (wX2 E a4 s4 h4 ++ (wX1 E a5 s5 ++ (wX5 E a6 s6 ++ (wX3 E a7 s7 ++ (wX0 E a8 s8 ++ (wX6 E a9 s9 t9)))))))))) ++ sW E.2.1 L) ((wX7o E a0 a1 a2 a3 a4 a5 a6 a7 a8 a9 s0 ++ (wX2 E a1 s1 h1 ++ (wX2 E a2 q.2.1 q.2.2.1 ++ (wX1 E a3 s3 ++ (wX2 E a4 s4 h4 ++ (wX1 E a5 s5 ++ (wX5 E a6 s6 ++ (wX3 E a7 q.2.2.2 ++ (wX0 E a8 s8 ++ (wX6 E a9 s9 t9)))))))))) ++ sW E.2.1 L) q.1 := by
  unfold f_X7_bestBack at hf
  intro sz
  refine Met.ofW (cc := cX7_bestBack) (maxL := 5) (ret := (some .int)) (by decide) rfl ?_
  intro p e s m args below meth c s₁ B hml hpre
  obtain ⟨rfl, hsz, hP, hK, hD0, hG, hA, hAB⟩ := start hpre
  have hx := B.exec
  have hb := B.bytes
  have hr := B.returns
  have hts := atoms_spec (ws := wsX7_bestBack) B.pre
  have hown : s.vm.findClass RX7 = some m.cls := findClass_of_methodNamed B.named
  have hlocks := B.notSynchronized
  subst hsz
  generalize va_A ((wX7o E a0 a1 a2 a3 a4 a5 a6 a7 a8 a9 s0 ++ (wX2 E a1 s1 h1 ++ (wX2 E a2 s2 h2 ++ (wX1 E a3 s3 ++ (wX2 E a4 s4 h4 ++ (wX1 E a5 s5 ++ (wX5 E a6 s6 ++ (wX3 E a7 s7 ++ (wX0 E a8 s8 ++ (wX6 E a9 s9 t9)))))))))) ++ sW E.2.1 L) s.heap.size = A0 at hD0 hA hAB ⊢
  have hDD : ∀ (s0 : St) (s1 : St) (h1 : Option SR) (s2 : St) (h2 : Option SR) (s3 : St) (s4 : St) (h4 : Option SR) (s5 : St) (s6 : St) (s7 : St) (s8 : St) (s9 : St) (t9 : Nat → Nat → Int64), va_D A0 ((wX7o E a0 a1 a2 a3 a4 a5 a6 a7 a8 a9 s0 ++ (wX2 E a1 s1 h1 ++ (wX2 E a2 s2 h2 ++ (wX1 E a3 s3 ++ (wX2 E a4 s4 h4 ++ (wX1 E a5 s5 ++ (wX5 E a6 s6 ++ (wX3 E a7 s7 ++ (wX0 E a8 s8 ++ (wX6 E a9 s9 t9)))))))))) ++ sW E.2.1 L) := fun s0 s1 h1 s2 h2 s3 s4 h4 s5 s6 s7 s8 s9 t9 => vD_addr hD0 rfl
  have hS : va_S A0 s.heap s.heap [] := va_S.rf
  have hl := lv_entry ([.ref (a0 0)]) (n := 5) (Nat.le_of_ble_eq_true rfl)
  rw [lg_entry_eq]
  generalize (lg_sl ([.ref (a0 0)]) ++ List.replicate (5 - (lg_sl ([.ref (a0 0)])).length) Slot.unset).toArray = ls at hl ⊢
  have hl : lv_has ls 5 [(0, .ref (a0 0))] := hl
  have hL_36 : ∀ (s1 : St) (h1 : Option SR) (n_36 : Nat) (s2 : St) (h2 : Option SR) (s7 : St) (v1 : Int32) (v2 : Int32) (v3 : Int32), l_X7_bestBack_36 N L s1 h1 n_36 s2 h2 s7 v1 v2 v3 = some q → ∀ (H : Heap) (locs : List Loc) (ls : Array Slot), va_P E.1 vwCl ((wX7o E a0 a1 a2 a3 a4 a5 a6 a7 a8 a9 s0 ++ (wX2 E a1 s1 h1 ++ (wX2 E a2 s2 h2 ++ (wX1 E a3 s3 ++ (wX2 E a4 s4 h4 ++ (wX1 E a5 s5 ++ (wX5 E a6 s6 ++ (wX3 E a7 s7 ++ (wX0 E a8 s8 ++ (wX6 E a9 s9 t9)))))))))) ++ sW E.2.1 L) H → va_S A0 s.heap H locs → lv_has ls 5 [(0, .ref (a0 0)), (1, .int v1), (2, .int v2), (3, .int v3)] → W p l e rm_X7_bestBack s m ([.ref (a0 0)] : List Value).toArray below meth c H locs 0 0 (MQ below (va_Qi (fun (r' : Int32) (_ : Unit) => r' = q.1) (fun _ t => va_P E.1 vwCl ((wX7o E a0 a1 a2 a3 a4 a5 a6 a7 a8 a9 s0 ++ (wX2 E a1 s1 h1 ++ (wX2 E a2 q.2.1 q.2.2.1 ++ (wX1 E a3 s3 ++ (wX2 E a4 s4 h4 ++ (wX1 E a5 s5 ++ (wX5 E a6 s6 ++ (wX3 E a7 q.2.2.2 ++ (wX0 E a8 s8 ++ (wX6 E a9 s9 t9)))))))))) ++ sW E.2.1 L) t.heap) A0) ([.ref (a0 0)] : List Value).toArray s 0 0 A0) (F0 m 36 ls []) := by
    intro s1 h1 n_36
    induction n_36 with
    | zero => intro s2 h2 s7 v1 v2 v3 hf; rw [l_X7_bestBack_36] at hf; cases hf
    | succ n_36 ih_36 =>
      intro s2 h2 s7 v1 v2 v3 hf H locs ls hP hS hl
      rw [l_X7_bestBack_36] at hf
      refine lv_iload_n hx hb dX7_bestBack_36 rfl (lv_at hl 3 rfl) ?_
      refine lv_aload_n hx hb dX7_bestBack_37 rfl (lv_at hl 0 rfl) ?_
      refine va_get (ci := 7) (C := RX7) (T := TX7) (N := 11) (v := .ref (a1 0)) hx hb hts i_X7_bestBack_X7 hown hK hP 0 rfl rfl 0 (by decide) (hts _ m_X7_bestBack_265b14) (fun _ h9 => h9) rfl dX7_bestBack_38 ?_
      refine va_getN (ci := 2) (C := RX2) (T := TX2) (N := 11) (v := .int (s1 0 0)) hx hb hts i_X7_bestBack_X2 hown hK hP 1 rfl rfl 0 (by decide) (nwG hG (w := .fieldLinkNest "PickedMatch" 66 "PickedMatch$Scene" "things" "I" "PickedMatch") (by decide +kernel)) (fun _ h9 => h9) rfl dX7_bestBack_41 ?_
      refine lv_icmp_ge (tgt := 115) hx hb dX7_bestBack_44 (by decide) (fun c_44 => ?_) (fun c_44 => ?_)
      · have hf := ite_t c_44 hf
        refine lv_iload_n hx hb dX7_bestBack_115 rfl (lv_at hl 2 rfl) ?_
        have e9 := Option.some.inj hf
        exact rt_i hx hb hr hlocks (fst_e e9) (rtP (P := fun z => va_P E.1 vwCl ((wX7o E a0 a1 a2 a3 a4 a5 a6 a7 a8 a9 s0 ++ (wX2 E a1 s1 h1 ++ (wX2 E a2 z.2.1 z.2.2.1 ++ (wX1 E a3 s3 ++ (wX2 E a4 s4 h4 ++ (wX1 E a5 s5 ++ (wX5 E a6 s6 ++ (wX3 E a7 z.2.2.2 ++ (wX0 E a8 s8 ++ (wX6 E a9 s9 t9)))))))))) ++ sW E.2.1 L) H) e9 hP) hS dX7_bestBack_116
      · have hf := ite_f c_44 hf
        refine lv_aload_n hx hb dX7_bestBack_47 rfl (lv_at hl 0 rfl) ?_
        refine va_get (ci := 7) (C := RX7) (T := TX7) (N := 11) (v := .ref (a1 0)) hx hb hts i_X7_bestBack_X7 hown hK hP 0 rfl rfl 0 (by decide) (hts _ m_X7_bestBack_265b14) (fun _ h9 => h9) rfl dX7_bestBack_48 ?_
        refine lv_iload_n hx hb dX7_bestBack_51 rfl (lv_at hl 3 rfl) ?_
        obtain ⟨q52, hc_52, hf⟩ := cl_e hf
        have hm_52 : ∀ q ∈ (wX2 E a1 s1 h1) ++ sW E.2.1 L, q ∈ (wX7o E a0 a1 a2 a3 a4 a5 a6 a7 a8 a9 s0 ++ (wX2 E a1 s1 h1 ++ (wX2 E a2 s2 h2 ++ (wX1 E a3 s3 ++ (wX2 E a4 s4 h4 ++ (wX1 E a5 s5 ++ (wX5 E a6 s6 ++ (wX3 E a7 s7 ++ (wX0 E a8 s8 ++ (wX6 E a9 s9 t9)))))))))) ++ sW E.2.1 L := (app_mem (sub_mem (suf := []) [1, 2, 3, 4, 5, 6, 7] rfl))
        refine fin_i (E := E) (wc := (wX2 E a1 s1 h1) ++ sW E.2.1 L) (wc' := (wX2 E a1 s1 h1) ++ sW E.2.1 L) (va_runVN (As := [.int v3]) (rest := []) ⟨hx, hb, hml, hown, hts⟩ (k_X2_isHad l E a1 L N s1 h1 v3 q52 hc_52 _) ⟨va_cnB 1 hts gX7_bestBack_X2_isHad_n186 rfl rfl rfl (hG.1 (.methodLinkNest "PickedMatch" 186 yX2_isHad "PickedMatch") (by decide +kernel)) (hts _ m_X7_bestBack_4cf9d8) (by decide +kernel) ⟨(Nat.le_of_ble_eq_true rfl), (Nat.le_of_ble_eq_true rfl)⟩, (hts _ m_X7_bestBack_ab92ab), (hts _ m_X7_bestBack_8e582f)⟩ (pre_v (ci := 2) (q0 := 0) hK (sub_P hm_52 hP) (sub_Ds (wc := wX2 E a1 s1 h1) [1, 2, 3, 4, 5, 6, 7] (by decide) rfl (hDD s0 s1 h1 s2 h2 s3 s4 h4 s5 s6 s7 s8 s9 t9)) hS hG hAB rfl rfl) rfl rfl hl.1 rfl (lv_room (Nat.le_of_ble_eq_true rfl)) dX7_bestBack_52 ⟨Nat.zero_le _, Nat.zero_le _⟩) hS (w_free (hDD s0 s1 h1 s2 h2 s3 s4 h4 s5 s6 s7 s8 s9 t9) hS hA hm_52) (fun H locs hP1 hk hS => ?_)
        have hP := w_joins (ws' := wX7o E a0 a1 a2 a3 a4 a5 a6 a7 a8 a9 s0 ++ (wX2 E a1 s1 h1 ++ (wX2 E a2 s2 h2 ++ (wX1 E a3 s3 ++ (wX2 E a4 s4 h4 ++ (wX1 E a5 s5 ++ (wX5 E a6 s6 ++ (wX3 E a7 s7 ++ (wX0 E a8 s8 ++ (wX6 E a9 s9 t9)))))))))) (wc := wX2 E a1 s1 h1) (wc' := wX2 E a1 s1 h1) hP (hDD s0 s1 h1 s2 h2 s3 s4 h4 s5 s6 s7 s8 s9 t9) [1, 2, 3, 4, 5, 6, 7] rfl [none, some 0, some 1, some 2, some 3, some 4, some 5, some 6, none, none, none, none, none, none, none, none, none, none, none, none, none, none, none, none, none, none, none, none, none, none, none, none, none, none, none, none, none, none, none, none, none, none, none, none, none, none, none, none, none, none] rfl rfl hk hP1
        refine lv_if_eq (tgt := 109) hx hb dX7_bestBack_55 (by decide) (fun c_55 => ?_) (fun c_55 => ?_)
        · have hf := ite_t c_55 hf
          obtain ⟨x109, e_x109⟩ : ∃ y : Int32, y = v3 + 1 := ⟨_, rfl⟩
          have hf := nm_q e_x109 hf
          refine lv_iinc (v := x109) (lv' := [(3, .int x109), (0, .ref (a0 0)), (1, .int v1), (2, .int v2)]) hx hb dX7_bestBack_109 hl (k := 3) rfl (by rw [e_x109]; rfl) (Nat.le_of_ble_eq_true rfl) rfl (fun ls hl => ?_)
          refine lv_goto (tgt := 36) hx hb dX7_bestBack_112 (by decide) ?_
          exact ih_36 s2 h2 s7 v1 v2 x109 hf _ _ _ hP hS (lv_sub hl [1, 2, 3, 0] rfl)
        · have hf := ite_f c_55 hf
          refine lv_aload_n hx hb dX7_bestBack_58 rfl (lv_at hl 0 rfl) ?_
          refine va_get (ci := 7) (C := RX7) (T := TX7) (N := 11) (v := .ref (a2 0)) hx hb hts i_X7_bestBack_X7 hown hK hP 0 rfl rfl 1 (by decide) (hts _ m_X7_bestBack_5dfb42) (fun _ h9 => h9) rfl dX7_bestBack_59 ?_
          refine lv_aload_n hx hb dX7_bestBack_62 rfl (lv_at hl 0 rfl) ?_
          refine va_get (ci := 7) (C := RX7) (T := TX7) (N := 11) (v := .ref (a1 0)) hx hb hts i_X7_bestBack_X7 hown hK hP 0 rfl rfl 0 (by decide) (hts _ m_X7_bestBack_265b14) (fun _ h9 => h9) rfl dX7_bestBack_63 ?_
          obtain ⟨q66, hc_66, hf⟩ := cl_e hf
          have hm_66 : ∀ q ∈ (wX2 E a2 s2 h2 ++ (wX2 E a1 s1 h1)) ++ sW E.2.1 L, q ∈ (wX7o E a0 a1 a2 a3 a4 a5 a6 a7 a8 a9 s0 ++ (wX2 E a1 s1 h1 ++ (wX2 E a2 s2 h2 ++ (wX1 E a3 s3 ++ (wX2 E a4 s4 h4 ++ (wX1 E a5 s5 ++ (wX5 E a6 s6 ++ (wX3 E a7 s7 ++ (wX0 E a8 s8 ++ (wX6 E a9 s9 t9)))))))))) ++ sW E.2.1 L := (app_mem (sub_mem (suf := []) [8, 9, 10, 11, 12, 13, 14, 1, 2, 3, 4, 5, 6, 7] rfl))
          refine fin_v (E := E) (wc := (wX2 E a2 s2 h2 ++ (wX2 E a1 s1 h1)) ++ sW E.2.1 L) (wc' := (wX2 E a2 q66.1 q66.2 ++ (wX2 E a1 s1 h1)) ++ sW E.2.1 L) (va_runVN (As := [.ref (a1 0)]) (rest := []) ⟨hx, hb, hml, hown, hts⟩ (k_X2_becomeAs l E a2 a1 L N s2 h2 s1 h1 q66 hc_66 _) ⟨va_cnB 1 hts gX7_bestBack_X2_becomeAs_n179 rfl rfl rfl (hG.1 (.methodLinkNest "PickedMatch" 179 yX2_becomeAs "PickedMatch") (by decide +kernel)) (hts _ m_X7_bestBack_4cf9d8) (by decide +kernel) ⟨(Nat.le_of_ble_eq_true rfl), (Nat.le_of_ble_eq_true rfl)⟩, (hts _ m_X7_bestBack_c21ce8), (hts _ m_X7_bestBack_986579)⟩ (pre_v (ci := 2) (q0 := 0) hK (sub_P hm_66 hP) (sub_Ds (wc := wX2 E a2 s2 h2 ++ (wX2 E a1 s1 h1)) [8, 9, 10, 11, 12, 13, 14, 1, 2, 3, 4, 5, 6, 7] (by decide) rfl (hDD s0 s1 h1 s2 h2 s3 s4 h4 s5 s6 s7 s8 s9 t9)) hS hG hAB rfl rfl) rfl rfl hl.1 rfl (lv_room (Nat.le_of_ble_eq_true rfl)) dX7_bestBack_66 ⟨Nat.zero_le _, Nat.zero_le _⟩) hS (w_free (hDD s0 s1 h1 s2 h2 s3 s4 h4 s5 s6 s7 s8 s9 t9) hS hA hm_66) (fun H locs hP1 hk hS => ?_)
          have hP := w_joins (ws' := wX7o E a0 a1 a2 a3 a4 a5 a6 a7 a8 a9 s0 ++ (wX2 E a1 s1 h1 ++ (wX2 E a2 q66.1 q66.2 ++ (wX1 E a3 s3 ++ (wX2 E a4 s4 h4 ++ (wX1 E a5 s5 ++ (wX5 E a6 s6 ++ (wX3 E a7 s7 ++ (wX0 E a8 s8 ++ (wX6 E a9 s9 t9)))))))))) (wc := wX2 E a2 s2 h2 ++ (wX2 E a1 s1 h1)) (wc' := wX2 E a2 q66.1 q66.2 ++ (wX2 E a1 s1 h1)) hP (hDD s0 s1 h1 s2 h2 s3 s4 h4 s5 s6 s7 s8 s9 t9) [8, 9, 10, 11, 12, 13, 14, 1, 2, 3, 4, 5, 6, 7] rfl [none, some 7, some 8, some 9, some 10, some 11, some 12, some 13, some 0, some 1, some 2, some 3, some 4, some 5, some 6, none, none, none, none, none, none, none, none, none, none, none, none, none, none, none, none, none, none, none, none, none, none, none, none, none, none, none, none, none, none, none, none, none, none, none] rfl rfl hk hP1
          refine lv_aload_n hx hb dX7_bestBack_69 rfl (lv_at hl 0 rfl) ?_
          refine va_get (ci := 7) (C := RX7) (T := TX7) (N := 11) (v := .ref (a2 0)) hx hb hts i_X7_bestBack_X7 hown hK hP 0 rfl rfl 1 (by decide) (hts _ m_X7_bestBack_5dfb42) (fun _ h9 => h9) rfl dX7_bestBack_70 ?_
          refine lv_iload_n hx hb dX7_bestBack_73 rfl (lv_at hl 3 rfl) ?_
          obtain ⟨q74, hc_74, hf⟩ := cl_e hf
          have hm_74 : ∀ q ∈ (wX2 E a2 q66.1 q66.2) ++ sW E.2.1 L, q ∈ (wX7o E a0 a1 a2 a3 a4 a5 a6 a7 a8 a9 s0 ++ (wX2 E a1 s1 h1 ++ (wX2 E a2 q66.1 q66.2 ++ (wX1 E a3 s3 ++ (wX2 E a4 s4 h4 ++ (wX1 E a5 s5 ++ (wX5 E a6 s6 ++ (wX3 E a7 s7 ++ (wX0 E a8 s8 ++ (wX6 E a9 s9 t9)))))))))) ++ sW E.2.1 L := (app_mem (sub_mem (suf := []) [8, 9, 10, 11, 12, 13, 14] rfl))
          refine fin_v (E := E) (wc := (wX2 E a2 q66.1 q66.2) ++ sW E.2.1 L) (wc' := (wX2 E a2 q74 q66.2) ++ sW E.2.1 L) (va_runVN (As := [.int v3]) (rest := []) ⟨hx, hb, hml, hown, hts⟩ (k_X2_layDown l E a2 L N q66.1 q66.2 v3 q74 hc_74 _) ⟨va_cnB 1 hts gX7_bestBack_X2_layDown_n312 rfl rfl rfl (hG.1 (.methodLinkNest "PickedMatch" 312 yX2_layDown "PickedMatch") (by decide +kernel)) (hts _ m_X7_bestBack_4cf9d8) (by decide +kernel) ⟨(Nat.le_of_ble_eq_true rfl), (Nat.le_of_ble_eq_true rfl)⟩, (hts _ m_X7_bestBack_a3c303), (hts _ m_X7_bestBack_530824)⟩ (pre_v (ci := 2) (q0 := 0) hK (sub_P hm_74 hP) (sub_Ds (wc := wX2 E a2 q66.1 q66.2) [8, 9, 10, 11, 12, 13, 14] (by decide) rfl (hDD s0 s1 h1 q66.1 q66.2 s3 s4 h4 s5 s6 s7 s8 s9 t9)) hS hG hAB rfl rfl) rfl rfl hl.1 rfl (lv_room (Nat.le_of_ble_eq_true rfl)) dX7_bestBack_74 ⟨Nat.zero_le _, Nat.zero_le _⟩) hS (w_free (hDD s0 s1 h1 q66.1 q66.2 s3 s4 h4 s5 s6 s7 s8 s9 t9) hS hA hm_74) (fun H locs hP1 hk hS => ?_)
          have hP := w_joins (ws' := wX7o E a0 a1 a2 a3 a4 a5 a6 a7 a8 a9 s0 ++ (wX2 E a1 s1 h1 ++ (wX2 E a2 q74 q66.2 ++ (wX1 E a3 s3 ++ (wX2 E a4 s4 h4 ++ (wX1 E a5 s5 ++ (wX5 E a6 s6 ++ (wX3 E a7 s7 ++ (wX0 E a8 s8 ++ (wX6 E a9 s9 t9)))))))))) (wc := wX2 E a2 q66.1 q66.2) (wc' := wX2 E a2 q74 q66.2) hP (hDD s0 s1 h1 q66.1 q66.2 s3 s4 h4 s5 s6 s7 s8 s9 t9) [8, 9, 10, 11, 12, 13, 14] rfl [none, none, none, none, none, none, none, none, some 0, some 1, some 2, some 3, some 4, some 5, some 6, none, none, none, none, none, none, none, none, none, none, none, none, none, none, none, none, none, none, none, none, none, none, none, none, none, none, none, none, none, none, none, none, none, none, none] rfl rfl hk hP1
          refine lv_aload_n hx hb dX7_bestBack_77 rfl (lv_at hl 0 rfl) ?_
          refine va_get (ci := 7) (C := RX7) (T := TX7) (N := 11) (v := .ref (a2 0)) hx hb hts i_X7_bestBack_X7 hown hK hP 0 rfl rfl 1 (by decide) (hts _ m_X7_bestBack_5dfb42) (fun _ h9 => h9) rfl dX7_bestBack_78 ?_
          refine va_getN (ci := 2) (C := RX2) (T := TX2) (N := 11) (v := .int (q74 6 0)) hx hb hts i_X7_bestBack_X2 hown hK hP 8 rfl rfl 6 (by decide) (nwG hG (w := .fieldLinkNest "PickedMatch" 108 "PickedMatch$Scene" "hadCount" "I" "PickedMatch") (by decide +kernel)) (fun _ h9 => h9) rfl dX7_bestBack_81 ?_
          refine lv_aload_n hx hb dX7_bestBack_84 rfl (lv_at hl 0 rfl) ?_
          refine va_get (ci := 7) (C := RX7) (T := TX7) (N := 11) (v := .ref (a7 0)) hx hb hts i_X7_bestBack_X7 hown hK hP 0 rfl rfl 8 (by decide) (hts _ m_X7_bestBack_4537e5) (fun _ h9 => h9) rfl dX7_bestBack_85 ?_
          refine lv_aload_n hx hb dX7_bestBack_88 rfl (lv_at hl 0 rfl) ?_
          refine va_get (ci := 7) (C := RX7) (T := TX7) (N := 11) (v := .ref (a2 0)) hx hb hts i_X7_bestBack_X7 hown hK hP 0 rfl rfl 1 (by decide) (hts _ m_X7_bestBack_5dfb42) (fun _ h9 => h9) rfl dX7_bestBack_89 ?_
          obtain ⟨q92, hc_92, hf⟩ := cl_e hf
          have hm_92 : ∀ q ∈ (wX3 E a7 s7 ++ (wX2 E a2 q74 q66.2)) ++ sW E.2.1 L, q ∈ (wX7o E a0 a1 a2 a3 a4 a5 a6 a7 a8 a9 s0 ++ (wX2 E a1 s1 h1 ++ (wX2 E a2 q74 q66.2 ++ (wX1 E a3 s3 ++ (wX2 E a4 s4 h4 ++ (wX1 E a5 s5 ++ (wX5 E a6 s6 ++ (wX3 E a7 s7 ++ (wX0 E a8 s8 ++ (wX6 E a9 s9 t9)))))))))) ++ sW E.2.1 L := (app_mem (sub_mem (suf := []) [41, 42, 43, 8, 9, 10, 11, 12, 13, 14] rfl))
          refine fin_i (E := E) (wc := (wX3 E a7 s7 ++ (wX2 E a2 q74 q66.2)) ++ sW E.2.1 L) (wc' := (wX3 E a7 q92.2.1 ++ (wX2 E a2 q92.2.2 q66.2)) ++ sW E.2.1 L) (va_runVN (As := [.ref (a2 0)]) (rest := [.int (q74 6 0)]) ⟨hx, hb, hml, hown, hts⟩ (k_X3_longestRow l E a7 a2 L N s7 q74 q66.2 q92 hc_92 _) ⟨va_cnB 1 hts gX7_bestBack_X3_longestRow_n189 rfl rfl rfl (hG.1 (.methodLinkNest "PickedMatch" 189 yX3_longestRow "PickedMatch") (by decide +kernel)) (hts _ m_X7_bestBack_7824fe) (by decide +kernel) ⟨(Nat.le_of_ble_eq_true rfl), (Nat.le_of_ble_eq_true rfl)⟩, (hts _ m_X7_bestBack_b30271), (hts _ m_X7_bestBack_ee9e1b)⟩ (pre_v (ci := 3) (q0 := 0) hK (sub_P hm_92 hP) (sub_Ds (wc := wX3 E a7 s7 ++ (wX2 E a2 q74 q66.2)) [41, 42, 43, 8, 9, 10, 11, 12, 13, 14] (by decide) rfl (hDD s0 s1 h1 q74 q66.2 s3 s4 h4 s5 s6 s7 s8 s9 t9)) hS hG hAB rfl rfl) rfl rfl hl.1 rfl (lv_room (Nat.le_of_ble_eq_true rfl)) dX7_bestBack_92 ⟨Nat.zero_le _, Nat.zero_le _⟩) hS (w_free (hDD s0 s1 h1 q74 q66.2 s3 s4 h4 s5 s6 s7 s8 s9 t9) hS hA hm_92) (fun H locs hP1 hk hS => ?_)
          have hP := w_joins (ws' := wX7o E a0 a1 a2 a3 a4 a5 a6 a7 a8 a9 s0 ++ (wX2 E a1 s1 h1 ++ (wX2 E a2 q92.2.2 q66.2 ++ (wX1 E a3 s3 ++ (wX2 E a4 s4 h4 ++ (wX1 E a5 s5 ++ (wX5 E a6 s6 ++ (wX3 E a7 q92.2.1 ++ (wX0 E a8 s8 ++ (wX6 E a9 s9 t9)))))))))) (wc := wX3 E a7 s7 ++ (wX2 E a2 q74 q66.2)) (wc' := wX3 E a7 q92.2.1 ++ (wX2 E a2 q92.2.2 q66.2)) hP (hDD s0 s1 h1 q74 q66.2 s3 s4 h4 s5 s6 s7 s8 s9 t9) [41, 42, 43, 8, 9, 10, 11, 12, 13, 14] rfl [none, none, none, none, none, none, none, none, some 3, some 4, some 5, some 6, some 7, some 8, some 9, none, none, none, none, none, none, none, none, none, none, none, none, none, none, none, none, none, none, none, none, none, none, none, none, none, none, some 0, some 1, some 2, none, none, none, none, none, none] rfl rfl hk hP1
          refine lv_iadd hx hb dX7_bestBack_95 ?_
          refine lv_topi (fun x96 e_x96 => ?_)
          have hf := nm_q e_x96 hf
          refine lv_istore (lv' := [(4, .int x96), (0, .ref (a0 0)), (1, .int v1), (2, .int v2), (3, .int v3)]) hx hb dX7_bestBack_96 hl (Nat.le_of_ble_eq_true rfl) rfl (fun ls hl => ?_)
          refine lv_iload hx hb dX7_bestBack_98 (lv_at hl 0 rfl) ?_
          refine lv_iload_n hx hb dX7_bestBack_100 rfl (lv_at hl 2 rfl) ?_
          refine lv_icmp_le (tgt := 109) hx hb dX7_bestBack_101 (by decide) (fun c_101 => ?_) (fun c_101 => ?_)
          · have hf := ite_t c_101 hf
            obtain ⟨x109, e_x109⟩ : ∃ y : Int32, y = v3 + 1 := ⟨_, rfl⟩
            have hf := nm_q e_x109 hf
            refine lv_iinc (v := x109) (lv' := [(3, .int x109), (4, .int x96), (0, .ref (a0 0)), (1, .int v1), (2, .int v2)]) hx hb dX7_bestBack_109 hl (k := 4) rfl (by rw [e_x109]; rfl) (Nat.le_of_ble_eq_true rfl) rfl (fun ls hl => ?_)
            refine lv_goto (tgt := 36) hx hb dX7_bestBack_112 (by decide) ?_
            exact ih_36 q92.2.2 q66.2 q92.2.1 v1 v2 x109 hf _ _ _ hP hS (lv_sub hl [2, 3, 4, 0] rfl)
          · have hf := ite_f c_101 hf
            refine lv_iload hx hb dX7_bestBack_104 (lv_at hl 0 rfl) ?_
            refine lv_istore_n (lv' := [(1, .int x96), (4, .int x96), (0, .ref (a0 0)), (2, .int v2), (3, .int v3)]) hx hb dX7_bestBack_106 rfl hl (Nat.le_of_ble_eq_true rfl) rfl (fun ls hl => ?_)
            refine lv_iload_n hx hb dX7_bestBack_107 rfl (lv_at hl 4 rfl) ?_
            refine lv_istore_n (lv' := [(2, .int v3), (1, .int x96), (4, .int x96), (0, .ref (a0 0)), (3, .int v3)]) hx hb dX7_bestBack_108 rfl hl (Nat.le_of_ble_eq_true rfl) rfl (fun ls hl => ?_)
            obtain ⟨x109, e_x109⟩ : ∃ y : Int32, y = v3 + 1 := ⟨_, rfl⟩
            have hf := nm_q e_x109 hf
            refine lv_iinc (v := x109) (lv' := [(3, .int x109), (2, .int v3), (1, .int x96), (4, .int x96), (0, .ref (a0 0))]) hx hb dX7_bestBack_109 hl (k := 4) rfl (by rw [e_x109]; rfl) (Nat.le_of_ble_eq_true rfl) rfl (fun ls hl => ?_)
            refine lv_goto (tgt := 36) hx hb dX7_bestBack_112 (by decide) ?_
            exact ih_36 q92.2.2 q66.2 q92.2.1 x96 v3 x109 hf _ _ _ hP hS (lv_sub hl [4, 2, 1, 0] rfl)
  refine lv_aload_n hx hb dX7_bestBack_0 rfl (lv_at hl 0 rfl) ?_
  refine va_get (ci := 7) (C := RX7) (T := TX7) (N := 11) (v := .ref (a2 0)) hx hb hts i_X7_bestBack_X7 hown hK hP 0 rfl rfl 1 (by decide) (hts _ m_X7_bestBack_5dfb42) (fun _ h9 => h9) rfl dX7_bestBack_1 ?_
  refine lv_aload_n hx hb dX7_bestBack_4 rfl (lv_at hl 0 rfl) ?_
  refine va_get (ci := 7) (C := RX7) (T := TX7) (N := 11) (v := .ref (a1 0)) hx hb hts i_X7_bestBack_X7 hown hK hP 0 rfl rfl 0 (by decide) (hts _ m_X7_bestBack_265b14) (fun _ h9 => h9) rfl dX7_bestBack_5 ?_
  obtain ⟨q8, hc_8, hf⟩ := cl_e hf
  have hm_8 : ∀ q ∈ (wX2 E a2 s2 h2 ++ (wX2 E a1 s1 h1)) ++ sW E.2.1 L, q ∈ (wX7o E a0 a1 a2 a3 a4 a5 a6 a7 a8 a9 s0 ++ (wX2 E a1 s1 h1 ++ (wX2 E a2 s2 h2 ++ (wX1 E a3 s3 ++ (wX2 E a4 s4 h4 ++ (wX1 E a5 s5 ++ (wX5 E a6 s6 ++ (wX3 E a7 s7 ++ (wX0 E a8 s8 ++ (wX6 E a9 s9 t9)))))))))) ++ sW E.2.1 L := (app_mem (sub_mem (suf := []) [8, 9, 10, 11, 12, 13, 14, 1, 2, 3, 4, 5, 6, 7] rfl))
  refine fin_v (E := E) (wc := (wX2 E a2 s2 h2 ++ (wX2 E a1 s1 h1)) ++ sW E.2.1 L) (wc' := (wX2 E a2 q8.1 q8.2 ++ (wX2 E a1 s1 h1)) ++ sW E.2.1 L) (va_runVN (As := [.ref (a1 0)]) (rest := []) ⟨hx, hb, hml, hown, hts⟩ (k_X2_becomeAs l E a2 a1 L N s2 h2 s1 h1 q8 hc_8 _) ⟨va_cnB 1 hts gX7_bestBack_X2_becomeAs_n179 rfl rfl rfl (hG.1 (.methodLinkNest "PickedMatch" 179 yX2_becomeAs "PickedMatch") (by decide +kernel)) (hts _ m_X7_bestBack_4cf9d8) (by decide +kernel) ⟨(Nat.le_of_ble_eq_true rfl), (Nat.le_of_ble_eq_true rfl)⟩, (hts _ m_X7_bestBack_c21ce8), (hts _ m_X7_bestBack_986579)⟩ (pre_v (ci := 2) (q0 := 0) hK (sub_P hm_8 hP) (sub_Ds (wc := wX2 E a2 s2 h2 ++ (wX2 E a1 s1 h1)) [8, 9, 10, 11, 12, 13, 14, 1, 2, 3, 4, 5, 6, 7] (by decide) rfl (hDD s0 s1 h1 s2 h2 s3 s4 h4 s5 s6 s7 s8 s9 t9)) hS hG hAB rfl rfl) rfl rfl hl.1 rfl (lv_room (Nat.le_of_ble_eq_true rfl)) dX7_bestBack_8 ⟨Nat.zero_le _, Nat.zero_le _⟩) hS (w_free (hDD s0 s1 h1 s2 h2 s3 s4 h4 s5 s6 s7 s8 s9 t9) hS hA hm_8) (fun H locs hP1 hk hS => ?_)
  have hP := w_joins (ws' := wX7o E a0 a1 a2 a3 a4 a5 a6 a7 a8 a9 s0 ++ (wX2 E a1 s1 h1 ++ (wX2 E a2 q8.1 q8.2 ++ (wX1 E a3 s3 ++ (wX2 E a4 s4 h4 ++ (wX1 E a5 s5 ++ (wX5 E a6 s6 ++ (wX3 E a7 s7 ++ (wX0 E a8 s8 ++ (wX6 E a9 s9 t9)))))))))) (wc := wX2 E a2 s2 h2 ++ (wX2 E a1 s1 h1)) (wc' := wX2 E a2 q8.1 q8.2 ++ (wX2 E a1 s1 h1)) hP (hDD s0 s1 h1 s2 h2 s3 s4 h4 s5 s6 s7 s8 s9 t9) [8, 9, 10, 11, 12, 13, 14, 1, 2, 3, 4, 5, 6, 7] rfl [none, some 7, some 8, some 9, some 10, some 11, some 12, some 13, some 0, some 1, some 2, some 3, some 4, some 5, some 6, none, none, none, none, none, none, none, none, none, none, none, none, none, none, none, none, none, none, none, none, none, none, none, none, none, none, none, none, none, none, none, none, none, none, none] rfl rfl hk hP1
  refine lv_aload_n hx hb dX7_bestBack_11 rfl (lv_at hl 0 rfl) ?_
  refine va_get (ci := 7) (C := RX7) (T := TX7) (N := 11) (v := .ref (a1 0)) hx hb hts i_X7_bestBack_X7 hown hK hP 0 rfl rfl 0 (by decide) (hts _ m_X7_bestBack_265b14) (fun _ h9 => h9) rfl dX7_bestBack_12 ?_
  refine va_getN (ci := 2) (C := RX2) (T := TX2) (N := 11) (v := .int (s1 6 0)) hx hb hts i_X7_bestBack_X2 hown hK hP 1 rfl rfl 6 (by decide) (nwG hG (w := .fieldLinkNest "PickedMatch" 108 "PickedMatch$Scene" "hadCount" "I" "PickedMatch") (by decide +kernel)) (fun _ h9 => h9) rfl dX7_bestBack_15 ?_
  refine lv_aload_n hx hb dX7_bestBack_18 rfl (lv_at hl 0 rfl) ?_
  refine va_get (ci := 7) (C := RX7) (T := TX7) (N := 11) (v := .ref (a7 0)) hx hb hts i_X7_bestBack_X7 hown hK hP 0 rfl rfl 8 (by decide) (hts _ m_X7_bestBack_4537e5) (fun _ h9 => h9) rfl dX7_bestBack_19 ?_
  refine lv_aload_n hx hb dX7_bestBack_22 rfl (lv_at hl 0 rfl) ?_
  refine va_get (ci := 7) (C := RX7) (T := TX7) (N := 11) (v := .ref (a2 0)) hx hb hts i_X7_bestBack_X7 hown hK hP 0 rfl rfl 1 (by decide) (hts _ m_X7_bestBack_5dfb42) (fun _ h9 => h9) rfl dX7_bestBack_23 ?_
  obtain ⟨q26, hc_26, hf⟩ := cl_e hf
  have hm_26 : ∀ q ∈ (wX3 E a7 s7 ++ (wX2 E a2 q8.1 q8.2)) ++ sW E.2.1 L, q ∈ (wX7o E a0 a1 a2 a3 a4 a5 a6 a7 a8 a9 s0 ++ (wX2 E a1 s1 h1 ++ (wX2 E a2 q8.1 q8.2 ++ (wX1 E a3 s3 ++ (wX2 E a4 s4 h4 ++ (wX1 E a5 s5 ++ (wX5 E a6 s6 ++ (wX3 E a7 s7 ++ (wX0 E a8 s8 ++ (wX6 E a9 s9 t9)))))))))) ++ sW E.2.1 L := (app_mem (sub_mem (suf := []) [41, 42, 43, 8, 9, 10, 11, 12, 13, 14] rfl))
  refine fin_i (E := E) (wc := (wX3 E a7 s7 ++ (wX2 E a2 q8.1 q8.2)) ++ sW E.2.1 L) (wc' := (wX3 E a7 q26.2.1 ++ (wX2 E a2 q26.2.2 q8.2)) ++ sW E.2.1 L) (va_runVN (As := [.ref (a2 0)]) (rest := [.int (s1 6 0)]) ⟨hx, hb, hml, hown, hts⟩ (k_X3_longestRow l E a7 a2 L N s7 q8.1 q8.2 q26 hc_26 _) ⟨va_cnB 1 hts gX7_bestBack_X3_longestRow_n189 rfl rfl rfl (hG.1 (.methodLinkNest "PickedMatch" 189 yX3_longestRow "PickedMatch") (by decide +kernel)) (hts _ m_X7_bestBack_7824fe) (by decide +kernel) ⟨(Nat.le_of_ble_eq_true rfl), (Nat.le_of_ble_eq_true rfl)⟩, (hts _ m_X7_bestBack_b30271), (hts _ m_X7_bestBack_ee9e1b)⟩ (pre_v (ci := 3) (q0 := 0) hK (sub_P hm_26 hP) (sub_Ds (wc := wX3 E a7 s7 ++ (wX2 E a2 q8.1 q8.2)) [41, 42, 43, 8, 9, 10, 11, 12, 13, 14] (by decide) rfl (hDD s0 s1 h1 q8.1 q8.2 s3 s4 h4 s5 s6 s7 s8 s9 t9)) hS hG hAB rfl rfl) rfl rfl hl.1 rfl (lv_room (Nat.le_of_ble_eq_true rfl)) dX7_bestBack_26 ⟨Nat.zero_le _, Nat.zero_le _⟩) hS (w_free (hDD s0 s1 h1 q8.1 q8.2 s3 s4 h4 s5 s6 s7 s8 s9 t9) hS hA hm_26) (fun H locs hP1 hk hS => ?_)
  have hP := w_joins (ws' := wX7o E a0 a1 a2 a3 a4 a5 a6 a7 a8 a9 s0 ++ (wX2 E a1 s1 h1 ++ (wX2 E a2 q26.2.2 q8.2 ++ (wX1 E a3 s3 ++ (wX2 E a4 s4 h4 ++ (wX1 E a5 s5 ++ (wX5 E a6 s6 ++ (wX3 E a7 q26.2.1 ++ (wX0 E a8 s8 ++ (wX6 E a9 s9 t9)))))))))) (wc := wX3 E a7 s7 ++ (wX2 E a2 q8.1 q8.2)) (wc' := wX3 E a7 q26.2.1 ++ (wX2 E a2 q26.2.2 q8.2)) hP (hDD s0 s1 h1 q8.1 q8.2 s3 s4 h4 s5 s6 s7 s8 s9 t9) [41, 42, 43, 8, 9, 10, 11, 12, 13, 14] rfl [none, none, none, none, none, none, none, none, some 3, some 4, some 5, some 6, some 7, some 8, some 9, none, none, none, none, none, none, none, none, none, none, none, none, none, none, none, none, none, none, none, none, none, none, none, none, none, none, some 0, some 1, some 2, none, none, none, none, none, none] rfl rfl hk hP1
  refine lv_iadd hx hb dX7_bestBack_29 ?_
  refine lv_topi (fun x30 e_x30 => ?_)
  have hf := nm_q e_x30 hf
  refine lv_istore_n (lv' := [(1, .int x30), (0, .ref (a0 0))]) hx hb dX7_bestBack_30 rfl hl (Nat.le_of_ble_eq_true rfl) rfl (fun ls hl => ?_)
  refine lv_bipush (v := (-5)) hx hb dX7_bestBack_31 (by decide) ?_
  refine lv_topi (fun x33 e_x33 => ?_)
  have hf := nm_q e_x33 hf
  refine lv_istore_n (lv' := [(2, .int x33), (1, .int x30), (0, .ref (a0 0))]) hx hb dX7_bestBack_33 rfl hl (Nat.le_of_ble_eq_true rfl) rfl (fun ls hl => ?_)
  refine lv_iconst (v := 0) hx hb dX7_bestBack_34 (by decide) ?_
  refine lv_istore_n (lv' := [(3, .int 0), (2, .int x33), (1, .int x30), (0, .ref (a0 0))]) hx hb dX7_bestBack_35 rfl hl (Nat.le_of_ble_eq_true rfl) rfl (fun ls hl => ?_)
  exact hL_36 s1 h1 N q26.2.2 q8.2 q26.2.1 x30 x33 0 hf _ _ _ hP hS (lv_sub hl [3, 2, 1, 0] rfl)
abbrev rm_X7_best : Room := { frames := 16, cells := 0, slots := 0, locals := 445 }
set_option maxHeartbeats 8000000 in
set_option maxRecDepth 100000 in
theorem k_X7_best (l : Launch) (E : Ev) (a0 : Nat → Nat) (a1 : Nat → Nat) (a2 : Nat → Nat) (a3 : Nat → Nat) (a4 : Nat → Nat) (a5 : Nat → Nat) (a6 : Nat → Nat) (a7 : Nat → Nat) (a8 : Nat → Nat) (a9 : Nat → Nat) (L : List SR) (N : Nat) (s0 : St) (s1 : St) (h1 : Option SR) (s2 : St) (h2 : Option SR) (s3 : St) (s4 : St) (h4 : Option SR) (s5 : St) (s6 : St) (s7 : St) (s8 : St) (s9 : St) (t9 : Nat → Nat → Int64) (p1 : Int32) (q : (Int32 × St × (Option SR) × St)) (hf : f_X7_best N L s1 h1 s2 h2 s7 p1 = some q) : Ci l yX7_best wsX7_best rm_X7_best E [.ref (a0 0), .int p1] ((wX7o E a0 a1 a2 a3 a4 a5 a6 a7 a8 a9 s0 ++ (wX2 E a1 s1 h1 ++ (wX2 E a2 s2 h2 ++ (wX1 E a3 s3 ++ (wX2 E a4 s4 h4 ++ (wX1 E a5 s5 ++ (wX5 E a6 s6 ++ (wX3 E a7 s7 ++ (wX0 E a8 s8 ++ (wX6 E a9 s9 t9)))))))))) ++ sW E.2.1 L) ((wX7o E a0 a1 a2 a3 a4 a5 a6 a7 a8 a9 s0 ++ (wX2 E a1 s1 h1 ++ (wX2 E a2 q.2.1 q.2.2.1 ++ (wX1 E a3 s3 ++ (wX2 E a4 s4 h4 ++ (wX1 E a5 s5 ++ (wX5 E a6 s6 ++ (wX3 E a7 q.2.2.2 ++ (wX0 E a8 s8 ++ (wX6 E a9 s9 t9)))))))))) ++ sW E.2.1 L) q.1 := by
  unfold f_X7_best at hf
  intro sz
  refine Met.ofW (cc := cX7_best) (maxL := 2) (ret := (some .int)) (by decide) rfl ?_
  intro p e s m args below meth c s₁ B hml hpre
  obtain ⟨rfl, hsz, hP, hK, hD0, hG, hA, hAB⟩ := start hpre
  have hx := B.exec
  have hb := B.bytes
  have hr := B.returns
  have hts := atoms_spec (ws := wsX7_best) B.pre
  have hown : s.vm.findClass RX7 = some m.cls := findClass_of_methodNamed B.named
  have hlocks := B.notSynchronized
  subst hsz
  generalize va_A ((wX7o E a0 a1 a2 a3 a4 a5 a6 a7 a8 a9 s0 ++ (wX2 E a1 s1 h1 ++ (wX2 E a2 s2 h2 ++ (wX1 E a3 s3 ++ (wX2 E a4 s4 h4 ++ (wX1 E a5 s5 ++ (wX5 E a6 s6 ++ (wX3 E a7 s7 ++ (wX0 E a8 s8 ++ (wX6 E a9 s9 t9)))))))))) ++ sW E.2.1 L) s.heap.size = A0 at hD0 hA hAB ⊢
  have hDD : ∀ (s0 : St) (s1 : St) (h1 : Option SR) (s2 : St) (h2 : Option SR) (s3 : St) (s4 : St) (h4 : Option SR) (s5 : St) (s6 : St) (s7 : St) (s8 : St) (s9 : St) (t9 : Nat → Nat → Int64), va_D A0 ((wX7o E a0 a1 a2 a3 a4 a5 a6 a7 a8 a9 s0 ++ (wX2 E a1 s1 h1 ++ (wX2 E a2 s2 h2 ++ (wX1 E a3 s3 ++ (wX2 E a4 s4 h4 ++ (wX1 E a5 s5 ++ (wX5 E a6 s6 ++ (wX3 E a7 s7 ++ (wX0 E a8 s8 ++ (wX6 E a9 s9 t9)))))))))) ++ sW E.2.1 L) := fun s0 s1 h1 s2 h2 s3 s4 h4 s5 s6 s7 s8 s9 t9 => vD_addr hD0 rfl
  have hS : va_S A0 s.heap s.heap [] := va_S.rf
  have hl := lv_entry ([.ref (a0 0), .int p1]) (n := 2) (Nat.le_of_ble_eq_true rfl)
  rw [lg_entry_eq]
  generalize (lg_sl ([.ref (a0 0), .int p1]) ++ List.replicate (2 - (lg_sl ([.ref (a0 0), .int p1])).length) Slot.unset).toArray = ls at hl ⊢
  have hl : lv_has ls 2 [(0, .ref (a0 0)), (1, .int p1)] := hl
  refine lv_iload_n hx hb dX7_best_0 rfl (lv_at hl 1 rfl) ?_
  refine lv_if_ne (tgt := 9) hx hb dX7_best_1 (by decide) (fun c_1 => ?_) (fun c_1 => ?_)
  · have hf := ite_f c_1 hf
    refine lv_iload_n hx hb dX7_best_9 rfl (lv_at hl 1 rfl) ?_
    refine lv_iconst (v := 1) hx hb dX7_best_10 (by decide) ?_
    refine lv_icmp_ne (tgt := 19) hx hb dX7_best_11 (by decide) (fun c_11 => ?_) (fun c_11 => ?_)
    · have hf := ite_f c_11 hf
      refine lv_iconst (v := (-1)) hx hb dX7_best_19 (by decide) ?_
      have e9 := Option.some.inj hf
      exact rt_i hx hb hr hlocks (fst_e e9) (rtP (P := fun z => va_P E.1 vwCl ((wX7o E a0 a1 a2 a3 a4 a5 a6 a7 a8 a9 s0 ++ (wX2 E a1 s1 h1 ++ (wX2 E a2 z.2.1 z.2.2.1 ++ (wX1 E a3 s3 ++ (wX2 E a4 s4 h4 ++ (wX1 E a5 s5 ++ (wX5 E a6 s6 ++ (wX3 E a7 z.2.2.2 ++ (wX0 E a8 s8 ++ (wX6 E a9 s9 t9)))))))))) ++ sW E.2.1 L) s.heap) e9 hP) hS dX7_best_20
    · have hf := ite_t c_11 hf
      refine lv_aload_n hx hb dX7_best_14 rfl (lv_at hl 0 rfl) ?_
      obtain ⟨q15, hc_15, hf⟩ := cl_e hf
      refine fin_i (E := E) (wc := (wX7o E a0 a1 a2 a3 a4 a5 a6 a7 a8 a9 s0 ++ (wX2 E a1 s1 h1 ++ (wX2 E a2 s2 h2 ++ (wX1 E a3 s3 ++ (wX2 E a4 s4 h4 ++ (wX1 E a5 s5 ++ (wX5 E a6 s6 ++ (wX3 E a7 s7 ++ (wX0 E a8 s8 ++ (wX6 E a9 s9 t9)))))))))) ++ sW E.2.1 L) (wc' := (wX7o E a0 a1 a2 a3 a4 a5 a6 a7 a8 a9 s0 ++ (wX2 E a1 s1 h1 ++ (wX2 E a2 q15.2.1 q15.2.2.1 ++ (wX1 E a3 s3 ++ (wX2 E a4 s4 h4 ++ (wX1 E a5 s5 ++ (wX5 E a6 s6 ++ (wX3 E a7 q15.2.2.2 ++ (wX0 E a8 s8 ++ (wX6 E a9 s9 t9)))))))))) ++ sW E.2.1 L) (va_runV (As := []) (rest := []) ⟨hx, hb, hml, hown, hts⟩ (k_X7_bestBack l E a0 a1 a2 a3 a4 a5 a6 a7 a8 a9 L N s0 s1 h1 s2 h2 s3 s4 h4 s5 s6 s7 s8 s9 t9 q15 hc_15 _) (cwV 0 hts gX7_best_X7_bestBack rfl rfl rfl (by decide +kernel) ⟨(Nat.le_of_ble_eq_true rfl), (Nat.le_of_ble_eq_true rfl)⟩) (pre_v (ci := 7) (q0 := 0) hK hP (hDD s0 s1 h1 s2 h2 s3 s4 h4 s5 s6 s7 s8 s9 t9) hS hG hAB rfl rfl) rfl rfl hl.1 rfl (lv_room (Nat.le_of_ble_eq_true rfl)) dX7_best_15 ⟨Nat.zero_le _, Nat.zero_le _⟩) hS (w_free (hDD s0 s1 h1 s2 h2 s3 s4 h4 s5 s6 s7 s8 s9 t9) hS hA (fun _ h => h)) (fun H locs hP1 hk hS => ?_)
      have hP := hP1
      have e9 := Option.some.inj hf
      exact rt_i hx hb hr hlocks (fst_e e9) (rtP (P := fun z => va_P E.1 vwCl ((wX7o E a0 a1 a2 a3 a4 a5 a6 a7 a8 a9 s0 ++ (wX2 E a1 s1 h1 ++ (wX2 E a2 z.2.1 z.2.2.1 ++ (wX1 E a3 s3 ++ (wX2 E a4 s4 h4 ++ (wX1 E a5 s5 ++ (wX5 E a6 s6 ++ (wX3 E a7 z.2.2.2 ++ (wX0 E a8 s8 ++ (wX6 E a9 s9 t9)))))))))) ++ sW E.2.1 L) H) e9 hP) hS dX7_best_18
  · have hf := ite_t c_1 hf
    refine lv_aload_n hx hb dX7_best_4 rfl (lv_at hl 0 rfl) ?_
    obtain ⟨q5, hc_5, hf⟩ := cl_e hf
    refine fin_i (E := E) (wc := (wX7o E a0 a1 a2 a3 a4 a5 a6 a7 a8 a9 s0 ++ (wX2 E a1 s1 h1 ++ (wX2 E a2 s2 h2 ++ (wX1 E a3 s3 ++ (wX2 E a4 s4 h4 ++ (wX1 E a5 s5 ++ (wX5 E a6 s6 ++ (wX3 E a7 s7 ++ (wX0 E a8 s8 ++ (wX6 E a9 s9 t9)))))))))) ++ sW E.2.1 L) (wc' := (wX7o E a0 a1 a2 a3 a4 a5 a6 a7 a8 a9 s0 ++ (wX2 E a1 s1 h1 ++ (wX2 E a2 q5.2.1 q5.2.2.1 ++ (wX1 E a3 s3 ++ (wX2 E a4 s4 h4 ++ (wX1 E a5 s5 ++ (wX5 E a6 s6 ++ (wX3 E a7 q5.2.2.2 ++ (wX0 E a8 s8 ++ (wX6 E a9 s9 t9)))))))))) ++ sW E.2.1 L) (va_runV (As := []) (rest := []) ⟨hx, hb, hml, hown, hts⟩ (k_X7_bestStart l E a0 a1 a2 a3 a4 a5 a6 a7 a8 a9 L N s0 s1 h1 s2 h2 s3 s4 h4 s5 s6 s7 s8 s9 t9 q5 hc_5 _) (cwV 0 hts gX7_best_X7_bestStart rfl rfl rfl (by decide +kernel) ⟨(Nat.le_of_ble_eq_true rfl), (Nat.le_of_ble_eq_true rfl)⟩) (pre_v (ci := 7) (q0 := 0) hK hP (hDD s0 s1 h1 s2 h2 s3 s4 h4 s5 s6 s7 s8 s9 t9) hS hG hAB rfl rfl) rfl rfl hl.1 rfl (lv_room (Nat.le_of_ble_eq_true rfl)) dX7_best_5 ⟨Nat.zero_le _, Nat.zero_le _⟩) hS (w_free (hDD s0 s1 h1 s2 h2 s3 s4 h4 s5 s6 s7 s8 s9 t9) hS hA (fun _ h => h)) (fun H locs hP1 hk hS => ?_)
    have hP := hP1
    have e9 := Option.some.inj hf
    exact rt_i hx hb hr hlocks (fst_e e9) (rtP (P := fun z => va_P E.1 vwCl ((wX7o E a0 a1 a2 a3 a4 a5 a6 a7 a8 a9 s0 ++ (wX2 E a1 s1 h1 ++ (wX2 E a2 z.2.1 z.2.2.1 ++ (wX1 E a3 s3 ++ (wX2 E a4 s4 h4 ++ (wX1 E a5 s5 ++ (wX5 E a6 s6 ++ (wX3 E a7 z.2.2.2 ++ (wX0 E a8 s8 ++ (wX6 E a9 s9 t9)))))))))) ++ sW E.2.1 L) H) e9 hP) hS dX7_best_8
abbrev rm_X7_reach : Room := { frames := 15, cells := 0, slots := 0, locals := 421 }
theorem m_X7_reach_265b14 : Cond.fieldLink RX7 12 "PickedMatch" "scene" "LPickedMatch$Scene;" ∈ wsX7_reach := by decide +kernel
theorem i_X7_reach_X7 : ∀ w ∈ wsX70, w ∈ wsX7_reach := fun _ h => List.mem_cons_of_mem _ (List.mem_append_left _ (List.mem_append_left _ (List.mem_append_left _ (List.mem_append_right _ h))))
theorem m_X7_reach_4cf9d8 : Cond.initialized RX2 ∈ wsX7_reach := by decide +kernel
theorem m_X7_reach_0211d8 : Cond.instanceMethod yX2_hasThing ∈ wsX7_reach := by decide +kernel
theorem m_X7_reach_6099ba : Cond.selects RX2 yX2_hasThing yX2_hasThing ∈ wsX7_reach := by decide +kernel
theorem m_X7_reach_ab92ab : Cond.instanceMethod yX2_isHad ∈ wsX7_reach := by decide +kernel
theorem m_X7_reach_8e582f : Cond.selects RX2 yX2_isHad yX2_isHad ∈ wsX7_reach := by decide +kernel
theorem m_X7_reach_5dfb42 : Cond.fieldLink RX7 18 "PickedMatch" "trial" "LPickedMatch$Scene;" ∈ wsX7_reach := by decide +kernel
theorem m_X7_reach_c21ce8 : Cond.instanceMethod yX2_becomeAs ∈ wsX7_reach := by decide +kernel
theorem m_X7_reach_986579 : Cond.selects RX2 yX2_becomeAs yX2_becomeAs ∈ wsX7_reach := by decide +kernel
theorem m_X7_reach_4537e5 : Cond.fieldLink RX7 44 "PickedMatch" "search" "LPickedMatch$Search;" ∈ wsX7_reach := by decide +kernel
theorem m_X7_reach_7824fe : Cond.initialized RX3 ∈ wsX7_reach := by decide +kernel
theorem m_X7_reach_9015ad : Cond.instanceMethod yX3_fewestAhead ∈ wsX7_reach := by decide +kernel
theorem m_X7_reach_aea146 : Cond.selects RX3 yX3_fewestAhead yX3_fewestAhead ∈ wsX7_reach := by decide +kernel
set_option maxHeartbeats 8000000 in
set_option maxRecDepth 100000 in
theorem k_X7_reach (l : Launch) (E : Ev) (a0 : Nat → Nat) (a1 : Nat → Nat) (a2 : Nat → Nat) (a3 : Nat → Nat) (a4 : Nat → Nat) (a5 : Nat → Nat) (a6 : Nat → Nat) (a7 : Nat → Nat) (a8 : Nat → Nat) (a9 : Nat → Nat) (L : List SR) (N : Nat) (s0 : St) (s1 : St) (h1 : Option SR) (s2 : St) (h2 : Option SR) (s3 : St) (s4 : St) (h4 : Option SR) (s5 : St) (s6 : St) (s7 : St) (s8 : St) (s9 : St) (t9 : Nat → Nat → Int64) (p1 : Int32) (q : (Int32 × St × (Option SR) × St)) (hf : f_X7_reach N L s1 h1 s2 h2 s7 p1 = some q) : Ci l yX7_reach wsX7_reach rm_X7_reach E [.ref (a0 0), .int p1] ((wX7o E a0 a1 a2 a3 a4 a5 a6 a7 a8 a9 s0 ++ (wX2 E a1 s1 h1 ++ (wX2 E a2 s2 h2 ++ (wX1 E a3 s3 ++ (wX2 E a4 s4 h4 ++ (wX1 E a5 s5 ++ (wX5 E a6 s6 ++ (wX3 E a7 s7 ++ (wX0 E a8 s8 ++ (wX6 E a9 s9 t9)))))))))) ++ sW E.2.1 L) ((wX7o E a0 a1 a2 a3 a4 a5 a6 a7 a8 a9 s0 ++ (wX2 E a1 s1 h1 ++ (wX2 E a2 q.2.1 q.2.2.1 ++ (wX1 E a3 s3 ++ (wX2 E a4 s4 h4 ++ (wX1 E a5 s5 ++ (wX5 E a6 s6 ++ (wX3 E a7 q.2.2.2 ++ (wX0 E a8 s8 ++ (wX6 E a9 s9 t9)))))))))) ++ sW E.2.1 L) q.1 := by
  unfold f_X7_reach at hf
  intro sz
  refine Met.ofW (cc := cX7_reach) (maxL := 2) (ret := (some .int)) (by decide) rfl ?_
  intro p e s m args below meth c s₁ B hml hpre
  obtain ⟨rfl, hsz, hP, hK, hD0, hG, hA, hAB⟩ := start hpre
  have hx := B.exec
  have hb := B.bytes
  have hr := B.returns
  have hts := atoms_spec (ws := wsX7_reach) B.pre
  have hown : s.vm.findClass RX7 = some m.cls := findClass_of_methodNamed B.named
  have hlocks := B.notSynchronized
  subst hsz
  generalize va_A ((wX7o E a0 a1 a2 a3 a4 a5 a6 a7 a8 a9 s0 ++ (wX2 E a1 s1 h1 ++ (wX2 E a2 s2 h2 ++ (wX1 E a3 s3 ++ (wX2 E a4 s4 h4 ++ (wX1 E a5 s5 ++ (wX5 E a6 s6 ++ (wX3 E a7 s7 ++ (wX0 E a8 s8 ++ (wX6 E a9 s9 t9)))))))))) ++ sW E.2.1 L) s.heap.size = A0 at hD0 hA hAB ⊢
  have hDD : ∀ (s0 : St) (s1 : St) (h1 : Option SR) (s2 : St) (h2 : Option SR) (s3 : St) (s4 : St) (h4 : Option SR) (s5 : St) (s6 : St) (s7 : St) (s8 : St) (s9 : St) (t9 : Nat → Nat → Int64), va_D A0 ((wX7o E a0 a1 a2 a3 a4 a5 a6 a7 a8 a9 s0 ++ (wX2 E a1 s1 h1 ++ (wX2 E a2 s2 h2 ++ (wX1 E a3 s3 ++ (wX2 E a4 s4 h4 ++ (wX1 E a5 s5 ++ (wX5 E a6 s6 ++ (wX3 E a7 s7 ++ (wX0 E a8 s8 ++ (wX6 E a9 s9 t9)))))))))) ++ sW E.2.1 L) := fun s0 s1 h1 s2 h2 s3 s4 h4 s5 s6 s7 s8 s9 t9 => vD_addr hD0 rfl
  have hS : va_S A0 s.heap s.heap [] := va_S.rf
  have hl := lv_entry ([.ref (a0 0), .int p1]) (n := 2) (Nat.le_of_ble_eq_true rfl)
  rw [lg_entry_eq]
  generalize (lg_sl ([.ref (a0 0), .int p1]) ++ List.replicate (2 - (lg_sl ([.ref (a0 0), .int p1])).length) Slot.unset).toArray = ls at hl ⊢
  have hl : lv_has ls 2 [(0, .ref (a0 0)), (1, .int p1)] := hl
  refine lv_aload_n hx hb dX7_reach_0 rfl (lv_at hl 0 rfl) ?_
  refine va_get (ci := 7) (C := RX7) (T := TX7) (N := 11) (v := .ref (a1 0)) hx hb hts i_X7_reach_X7 hown hK hP 0 rfl rfl 0 (by decide) (hts _ m_X7_reach_265b14) (fun _ h9 => h9) rfl dX7_reach_1 ?_
  refine lv_iload_n hx hb dX7_reach_4 rfl (lv_at hl 1 rfl) ?_
  obtain ⟨q5, hc_5, hf⟩ := cl_e hf
  have hm_5 : ∀ q ∈ (wX2 E a1 s1 h1) ++ sW E.2.1 L, q ∈ (wX7o E a0 a1 a2 a3 a4 a5 a6 a7 a8 a9 s0 ++ (wX2 E a1 s1 h1 ++ (wX2 E a2 s2 h2 ++ (wX1 E a3 s3 ++ (wX2 E a4 s4 h4 ++ (wX1 E a5 s5 ++ (wX5 E a6 s6 ++ (wX3 E a7 s7 ++ (wX0 E a8 s8 ++ (wX6 E a9 s9 t9)))))))))) ++ sW E.2.1 L := (app_mem (sub_mem (suf := []) [1, 2, 3, 4, 5, 6, 7] rfl))
  refine fin_i (E := E) (wc := (wX2 E a1 s1 h1) ++ sW E.2.1 L) (wc' := (wX2 E a1 s1 h1) ++ sW E.2.1 L) (va_runVN (As := [.int p1]) (rest := []) ⟨hx, hb, hml, hown, hts⟩ (k_X2_hasThing l E a1 L N s1 h1 p1 q5 hc_5 _) ⟨va_cnB 1 hts gX7_reach_X2_hasThing_n74 rfl rfl rfl (hG.1 (.methodLinkNest "PickedMatch" 74 yX2_hasThing "PickedMatch") (by decide +kernel)) (hts _ m_X7_reach_4cf9d8) (by decide +kernel) ⟨(Nat.le_of_ble_eq_true rfl), (Nat.le_of_ble_eq_true rfl)⟩, (hts _ m_X7_reach_0211d8), (hts _ m_X7_reach_6099ba)⟩ (pre_v (ci := 2) (q0 := 0) hK (sub_P hm_5 hP) (sub_Ds (wc := wX2 E a1 s1 h1) [1, 2, 3, 4, 5, 6, 7] (by decide) rfl (hDD s0 s1 h1 s2 h2 s3 s4 h4 s5 s6 s7 s8 s9 t9)) hS hG hAB rfl rfl) rfl rfl hl.1 rfl (lv_room (Nat.le_of_ble_eq_true rfl)) dX7_reach_5 ⟨Nat.zero_le _, Nat.zero_le _⟩) hS (w_free (hDD s0 s1 h1 s2 h2 s3 s4 h4 s5 s6 s7 s8 s9 t9) hS hA hm_5) (fun H locs hP1 hk hS => ?_)
  have hP := w_joins (ws' := wX7o E a0 a1 a2 a3 a4 a5 a6 a7 a8 a9 s0 ++ (wX2 E a1 s1 h1 ++ (wX2 E a2 s2 h2 ++ (wX1 E a3 s3 ++ (wX2 E a4 s4 h4 ++ (wX1 E a5 s5 ++ (wX5 E a6 s6 ++ (wX3 E a7 s7 ++ (wX0 E a8 s8 ++ (wX6 E a9 s9 t9)))))))))) (wc := wX2 E a1 s1 h1) (wc' := wX2 E a1 s1 h1) hP (hDD s0 s1 h1 s2 h2 s3 s4 h4 s5 s6 s7 s8 s9 t9) [1, 2, 3, 4, 5, 6, 7] rfl [none, some 0, some 1, some 2, some 3, some 4, some 5, some 6, none, none, none, none, none, none, none, none, none, none, none, none, none, none, none, none, none, none, none, none, none, none, none, none, none, none, none, none, none, none, none, none, none, none, none, none, none, none, none, none, none, none] rfl rfl hk hP1
  refine lv_if_ne (tgt := 13) hx hb dX7_reach_8 (by decide) (fun c_8 => ?_) (fun c_8 => ?_)
  · have hf := ite_f c_8 hf
    refine lv_aload_n hx hb dX7_reach_13 rfl (lv_at hl 0 rfl) ?_
    refine va_get (ci := 7) (C := RX7) (T := TX7) (N := 11) (v := .ref (a1 0)) hx hb hts i_X7_reach_X7 hown hK hP 0 rfl rfl 0 (by decide) (hts _ m_X7_reach_265b14) (fun _ h9 => h9) rfl dX7_reach_14 ?_
    refine lv_iload_n hx hb dX7_reach_17 rfl (lv_at hl 1 rfl) ?_
    obtain ⟨q18, hc_18, hf⟩ := cl_e hf
    have hm_18 : ∀ q ∈ (wX2 E a1 s1 h1) ++ sW E.2.1 L, q ∈ (wX7o E a0 a1 a2 a3 a4 a5 a6 a7 a8 a9 s0 ++ (wX2 E a1 s1 h1 ++ (wX2 E a2 s2 h2 ++ (wX1 E a3 s3 ++ (wX2 E a4 s4 h4 ++ (wX1 E a5 s5 ++ (wX5 E a6 s6 ++ (wX3 E a7 s7 ++ (wX0 E a8 s8 ++ (wX6 E a9 s9 t9)))))))))) ++ sW E.2.1 L := (app_mem (sub_mem (suf := []) [1, 2, 3, 4, 5, 6, 7] rfl))
    refine fin_i (E := E) (wc := (wX2 E a1 s1 h1) ++ sW E.2.1 L) (wc' := (wX2 E a1 s1 h1) ++ sW E.2.1 L) (va_runVN (As := [.int p1]) (rest := []) ⟨hx, hb, hml, hown, hts⟩ (k_X2_isHad l E a1 L N s1 h1 p1 q18 hc_18 _) ⟨va_cnB 1 hts gX7_reach_X2_isHad_n186 rfl rfl rfl (hG.1 (.methodLinkNest "PickedMatch" 186 yX2_isHad "PickedMatch") (by decide +kernel)) (hts _ m_X7_reach_4cf9d8) (by decide +kernel) ⟨(Nat.le_of_ble_eq_true rfl), (Nat.le_of_ble_eq_true rfl)⟩, (hts _ m_X7_reach_ab92ab), (hts _ m_X7_reach_8e582f)⟩ (pre_v (ci := 2) (q0 := 0) hK (sub_P hm_18 hP) (sub_Ds (wc := wX2 E a1 s1 h1) [1, 2, 3, 4, 5, 6, 7] (by decide) rfl (hDD s0 s1 h1 s2 h2 s3 s4 h4 s5 s6 s7 s8 s9 t9)) hS hG hAB rfl rfl) rfl rfl hl.1 rfl (lv_room (Nat.le_of_ble_eq_true rfl)) dX7_reach_18 ⟨Nat.zero_le _, Nat.zero_le _⟩) hS (w_free (hDD s0 s1 h1 s2 h2 s3 s4 h4 s5 s6 s7 s8 s9 t9) hS hA hm_18) (fun H locs hP1 hk hS => ?_)
    have hP := w_joins (ws' := wX7o E a0 a1 a2 a3 a4 a5 a6 a7 a8 a9 s0 ++ (wX2 E a1 s1 h1 ++ (wX2 E a2 s2 h2 ++ (wX1 E a3 s3 ++ (wX2 E a4 s4 h4 ++ (wX1 E a5 s5 ++ (wX5 E a6 s6 ++ (wX3 E a7 s7 ++ (wX0 E a8 s8 ++ (wX6 E a9 s9 t9)))))))))) (wc := wX2 E a1 s1 h1) (wc' := wX2 E a1 s1 h1) hP (hDD s0 s1 h1 s2 h2 s3 s4 h4 s5 s6 s7 s8 s9 t9) [1, 2, 3, 4, 5, 6, 7] rfl [none, some 0, some 1, some 2, some 3, some 4, some 5, some 6, none, none, none, none, none, none, none, none, none, none, none, none, none, none, none, none, none, none, none, none, none, none, none, none, none, none, none, none, none, none, none, none, none, none, none, none, none, none, none, none, none, none] rfl rfl hk hP1
    refine lv_if_eq (tgt := 27) hx hb dX7_reach_21 (by decide) (fun c_21 => ?_) (fun c_21 => ?_)
    · have hf := ite_t c_21 hf
      refine lv_aload_n hx hb dX7_reach_27 rfl (lv_at hl 0 rfl) ?_
      refine va_get (ci := 7) (C := RX7) (T := TX7) (N := 11) (v := .ref (a2 0)) hx hb hts i_X7_reach_X7 hown hK hP 0 rfl rfl 1 (by decide) (hts _ m_X7_reach_5dfb42) (fun _ h9 => h9) rfl dX7_reach_28 ?_
      refine lv_aload_n hx hb dX7_reach_31 rfl (lv_at hl 0 rfl) ?_
      refine va_get (ci := 7) (C := RX7) (T := TX7) (N := 11) (v := .ref (a1 0)) hx hb hts i_X7_reach_X7 hown hK hP 0 rfl rfl 0 (by decide) (hts _ m_X7_reach_265b14) (fun _ h9 => h9) rfl dX7_reach_32 ?_
      obtain ⟨q35, hc_35, hf⟩ := cl_e hf
      have hm_35 : ∀ q ∈ (wX2 E a2 s2 h2 ++ (wX2 E a1 s1 h1)) ++ sW E.2.1 L, q ∈ (wX7o E a0 a1 a2 a3 a4 a5 a6 a7 a8 a9 s0 ++ (wX2 E a1 s1 h1 ++ (wX2 E a2 s2 h2 ++ (wX1 E a3 s3 ++ (wX2 E a4 s4 h4 ++ (wX1 E a5 s5 ++ (wX5 E a6 s6 ++ (wX3 E a7 s7 ++ (wX0 E a8 s8 ++ (wX6 E a9 s9 t9)))))))))) ++ sW E.2.1 L := (app_mem (sub_mem (suf := []) [8, 9, 10, 11, 12, 13, 14, 1, 2, 3, 4, 5, 6, 7] rfl))
      refine fin_v (E := E) (wc := (wX2 E a2 s2 h2 ++ (wX2 E a1 s1 h1)) ++ sW E.2.1 L) (wc' := (wX2 E a2 q35.1 q35.2 ++ (wX2 E a1 s1 h1)) ++ sW E.2.1 L) (va_runVN (As := [.ref (a1 0)]) (rest := []) ⟨hx, hb, hml, hown, hts⟩ (k_X2_becomeAs l E a2 a1 L N s2 h2 s1 h1 q35 hc_35 _) ⟨va_cnB 1 hts gX7_reach_X2_becomeAs_n179 rfl rfl rfl (hG.1 (.methodLinkNest "PickedMatch" 179 yX2_becomeAs "PickedMatch") (by decide +kernel)) (hts _ m_X7_reach_4cf9d8) (by decide +kernel) ⟨(Nat.le_of_ble_eq_true rfl), (Nat.le_of_ble_eq_true rfl)⟩, (hts _ m_X7_reach_c21ce8), (hts _ m_X7_reach_986579)⟩ (pre_v (ci := 2) (q0 := 0) hK (sub_P hm_35 hP) (sub_Ds (wc := wX2 E a2 s2 h2 ++ (wX2 E a1 s1 h1)) [8, 9, 10, 11, 12, 13, 14, 1, 2, 3, 4, 5, 6, 7] (by decide) rfl (hDD s0 s1 h1 s2 h2 s3 s4 h4 s5 s6 s7 s8 s9 t9)) hS hG hAB rfl rfl) rfl rfl hl.1 rfl (lv_room (Nat.le_of_ble_eq_true rfl)) dX7_reach_35 ⟨Nat.zero_le _, Nat.zero_le _⟩) hS (w_free (hDD s0 s1 h1 s2 h2 s3 s4 h4 s5 s6 s7 s8 s9 t9) hS hA hm_35) (fun H locs hP1 hk hS => ?_)
      have hP := w_joins (ws' := wX7o E a0 a1 a2 a3 a4 a5 a6 a7 a8 a9 s0 ++ (wX2 E a1 s1 h1 ++ (wX2 E a2 q35.1 q35.2 ++ (wX1 E a3 s3 ++ (wX2 E a4 s4 h4 ++ (wX1 E a5 s5 ++ (wX5 E a6 s6 ++ (wX3 E a7 s7 ++ (wX0 E a8 s8 ++ (wX6 E a9 s9 t9)))))))))) (wc := wX2 E a2 s2 h2 ++ (wX2 E a1 s1 h1)) (wc' := wX2 E a2 q35.1 q35.2 ++ (wX2 E a1 s1 h1)) hP (hDD s0 s1 h1 s2 h2 s3 s4 h4 s5 s6 s7 s8 s9 t9) [8, 9, 10, 11, 12, 13, 14, 1, 2, 3, 4, 5, 6, 7] rfl [none, some 7, some 8, some 9, some 10, some 11, some 12, some 13, some 0, some 1, some 2, some 3, some 4, some 5, some 6, none, none, none, none, none, none, none, none, none, none, none, none, none, none, none, none, none, none, none, none, none, none, none, none, none, none, none, none, none, none, none, none, none, none, none] rfl rfl hk hP1
      refine lv_aload_n hx hb dX7_reach_38 rfl (lv_at hl 0 rfl) ?_
      refine va_get (ci := 7) (C := RX7) (T := TX7) (N := 11) (v := .ref (a7 0)) hx hb hts i_X7_reach_X7 hown hK hP 0 rfl rfl 8 (by decide) (hts _ m_X7_reach_4537e5) (fun _ h9 => h9) rfl dX7_reach_39 ?_
      refine lv_aload_n hx hb dX7_reach_42 rfl (lv_at hl 0 rfl) ?_
      refine va_get (ci := 7) (C := RX7) (T := TX7) (N := 11) (v := .ref (a2 0)) hx hb hts i_X7_reach_X7 hown hK hP 0 rfl rfl 1 (by decide) (hts _ m_X7_reach_5dfb42) (fun _ h9 => h9) rfl dX7_reach_43 ?_
      refine lv_iload_n hx hb dX7_reach_46 rfl (lv_at hl 1 rfl) ?_
      obtain ⟨q47, hc_47, hf⟩ := cl_e hf
      have hm_47 : ∀ q ∈ (wX3 E a7 s7 ++ (wX2 E a2 q35.1 q35.2)) ++ sW E.2.1 L, q ∈ (wX7o E a0 a1 a2 a3 a4 a5 a6 a7 a8 a9 s0 ++ (wX2 E a1 s1 h1 ++ (wX2 E a2 q35.1 q35.2 ++ (wX1 E a3 s3 ++ (wX2 E a4 s4 h4 ++ (wX1 E a5 s5 ++ (wX5 E a6 s6 ++ (wX3 E a7 s7 ++ (wX0 E a8 s8 ++ (wX6 E a9 s9 t9)))))))))) ++ sW E.2.1 L := (app_mem (sub_mem (suf := []) [41, 42, 43, 8, 9, 10, 11, 12, 13, 14] rfl))
      refine fin_i (E := E) (wc := (wX3 E a7 s7 ++ (wX2 E a2 q35.1 q35.2)) ++ sW E.2.1 L) (wc' := (wX3 E a7 q47.2.1 ++ (wX2 E a2 q47.2.2 q35.2)) ++ sW E.2.1 L) (va_runVN (As := [.ref (a2 0), .int p1]) (rest := []) ⟨hx, hb, hml, hown, hts⟩ (k_X3_fewestAhead l E a7 a2 L N s7 q35.1 q35.2 p1 q47 hc_47 _) ⟨va_cnB 2 hts gX7_reach_X3_fewestAhead_n202 rfl rfl rfl (hG.1 (.methodLinkNest "PickedMatch" 202 yX3_fewestAhead "PickedMatch") (by decide +kernel)) (hts _ m_X7_reach_7824fe) (by decide +kernel) ⟨(Nat.le_of_ble_eq_true rfl), (Nat.le_of_ble_eq_true rfl)⟩, (hts _ m_X7_reach_9015ad), (hts _ m_X7_reach_aea146)⟩ (pre_v (ci := 3) (q0 := 0) hK (sub_P hm_47 hP) (sub_Ds (wc := wX3 E a7 s7 ++ (wX2 E a2 q35.1 q35.2)) [41, 42, 43, 8, 9, 10, 11, 12, 13, 14] (by decide) rfl (hDD s0 s1 h1 q35.1 q35.2 s3 s4 h4 s5 s6 s7 s8 s9 t9)) hS hG hAB rfl rfl) rfl rfl hl.1 rfl (lv_room (Nat.le_of_ble_eq_true rfl)) dX7_reach_47 ⟨Nat.zero_le _, Nat.zero_le _⟩) hS (w_free (hDD s0 s1 h1 q35.1 q35.2 s3 s4 h4 s5 s6 s7 s8 s9 t9) hS hA hm_47) (fun H locs hP1 hk hS => ?_)
      have hP := w_joins (ws' := wX7o E a0 a1 a2 a3 a4 a5 a6 a7 a8 a9 s0 ++ (wX2 E a1 s1 h1 ++ (wX2 E a2 q47.2.2 q35.2 ++ (wX1 E a3 s3 ++ (wX2 E a4 s4 h4 ++ (wX1 E a5 s5 ++ (wX5 E a6 s6 ++ (wX3 E a7 q47.2.1 ++ (wX0 E a8 s8 ++ (wX6 E a9 s9 t9)))))))))) (wc := wX3 E a7 s7 ++ (wX2 E a2 q35.1 q35.2)) (wc' := wX3 E a7 q47.2.1 ++ (wX2 E a2 q47.2.2 q35.2)) hP (hDD s0 s1 h1 q35.1 q35.2 s3 s4 h4 s5 s6 s7 s8 s9 t9) [41, 42, 43, 8, 9, 10, 11, 12, 13, 14] rfl [none, none, none, none, none, none, none, none, some 3, some 4, some 5, some 6, some 7, some 8, some 9, none, none, none, none, none, none, none, none, none, none, none, none, none, none, none, none, none, none, none, none, none, none, none, none, none, none, some 0, some 1, some 2, none, none, none, none, none, none] rfl rfl hk hP1
      have e9 := Option.some.inj hf
      exact rt_i hx hb hr hlocks (fst_e e9) (rtP (P := fun z => va_P E.1 vwCl ((wX7o E a0 a1 a2 a3 a4 a5 a6 a7 a8 a9 s0 ++ (wX2 E a1 s1 h1 ++ (wX2 E a2 z.2.1 z.2.2.1 ++ (wX1 E a3 s3 ++ (wX2 E a4 s4 h4 ++ (wX1 E a5 s5 ++ (wX5 E a6 s6 ++ (wX3 E a7 z.2.2.2 ++ (wX0 E a8 s8 ++ (wX6 E a9 s9 t9)))))))))) ++ sW E.2.1 L) H) e9 hP) hS dX7_reach_50
    · have hf := ite_f c_21 hf
      refine lv_bipush (v := (-5)) hx hb dX7_reach_24 (by decide) ?_
      have e9 := Option.some.inj hf
      exact rt_i hx hb hr hlocks (fst_e e9) (rtP (P := fun z => va_P E.1 vwCl ((wX7o E a0 a1 a2 a3 a4 a5 a6 a7 a8 a9 s0 ++ (wX2 E a1 s1 h1 ++ (wX2 E a2 z.2.1 z.2.2.1 ++ (wX1 E a3 s3 ++ (wX2 E a4 s4 h4 ++ (wX1 E a5 s5 ++ (wX5 E a6 s6 ++ (wX3 E a7 z.2.2.2 ++ (wX0 E a8 s8 ++ (wX6 E a9 s9 t9)))))))))) ++ sW E.2.1 L) H) e9 hP) hS dX7_reach_26
  · have hf := ite_t c_8 hf
    refine lv_iconst (v := (-1)) hx hb dX7_reach_11 (by decide) ?_
    have e9 := Option.some.inj hf
    exact rt_i hx hb hr hlocks (fst_e e9) (rtP (P := fun z => va_P E.1 vwCl ((wX7o E a0 a1 a2 a3 a4 a5 a6 a7 a8 a9 s0 ++ (wX2 E a1 s1 h1 ++ (wX2 E a2 z.2.1 z.2.2.1 ++ (wX1 E a3 s3 ++ (wX2 E a4 s4 h4 ++ (wX1 E a5 s5 ++ (wX5 E a6 s6 ++ (wX3 E a7 z.2.2.2 ++ (wX0 E a8 s8 ++ (wX6 E a9 s9 t9)))))))))) ++ sW E.2.1 L) H) e9 hP) hS dX7_reach_12
abbrev rm_X7_fitting : Room := { frames := 4, cells := 0, slots := 0, locals := 95 }
theorem m_X7_fitting_5dfb42 : Cond.fieldLink RX7 18 "PickedMatch" "trial" "LPickedMatch$Scene;" ∈ wsX7_fitting := by decide +kernel
theorem i_X7_fitting_X7 : ∀ w ∈ wsX70, w ∈ wsX7_fitting := fun _ h => List.mem_cons_of_mem _ (List.mem_append_left _ (List.mem_append_left _ (List.mem_append_right _ h)))
theorem i_X7_fitting_X2 : ∀ w ∈ wsX20, w ∈ wsX7_fitting := fun _ h => List.mem_cons_of_mem _ (List.mem_append_left _ (List.mem_append_right _ h))
theorem m_X7_fitting_4cf9d8 : Cond.initialized RX2 ∈ wsX7_fitting := by decide +kernel
theorem m_X7_fitting_e42de2 : Cond.instanceMethod yX2_goesNow ∈ wsX7_fitting := by decide +kernel
theorem m_X7_fitting_678d5f : Cond.selects RX2 yX2_goesNow yX2_goesNow ∈ wsX7_fitting := by decide +kernel
theorem m_X7_fitting_265b14 : Cond.fieldLink RX7 12 "PickedMatch" "scene" "LPickedMatch$Scene;" ∈ wsX7_fitting := by decide +kernel
theorem m_X7_fitting_0211d8 : Cond.instanceMethod yX2_hasThing ∈ wsX7_fitting := by decide +kernel
theorem m_X7_fitting_6099ba : Cond.selects RX2 yX2_hasThing yX2_hasThing ∈ wsX7_fitting := by decide +kernel
theorem m_X7_fitting_c21ce8 : Cond.instanceMethod yX2_becomeAs ∈ wsX7_fitting := by decide +kernel
theorem m_X7_fitting_986579 : Cond.selects RX2 yX2_becomeAs yX2_becomeAs ∈ wsX7_fitting := by decide +kernel
set_option maxHeartbeats 8000000 in
set_option maxRecDepth 100000 in
theorem k_X7_fitting (l : Launch) (E : Ev) (a0 : Nat → Nat) (a1 : Nat → Nat) (a2 : Nat → Nat) (a3 : Nat → Nat) (a4 : Nat → Nat) (a5 : Nat → Nat) (a6 : Nat → Nat) (a7 : Nat → Nat) (a8 : Nat → Nat) (a9 : Nat → Nat) (L : List SR) (N : Nat) (s0 : St) (s1 : St) (h1 : Option SR) (s2 : St) (h2 : Option SR) (s3 : St) (s4 : St) (h4 : Option SR) (s5 : St) (s6 : St) (s7 : St) (s8 : St) (s9 : St) (t9 : Nat → Nat → Int64) (p1 : Int32) (p2 : Int32) (q : (Int32 × St × (Option SR))) (hf : f_X7_fitting N L s1 h1 s2 h2 p1 p2 = some q) : Ci l yX7_fitting wsX7_fitting rm_X7_fitting E [.ref (a0 0), .int p1, .int p2] ((wX7o E a0 a1 a2 a3 a4 a5 a6 a7 a8 a9 s0 ++ (wX2 E a1 s1 h1 ++ (wX2 E a2 s2 h2 ++ (wX1 E a3 s3 ++ (wX2 E a4 s4 h4 ++ (wX1 E a5 s5 ++ (wX5 E a6 s6 ++ (wX3 E a7 s7 ++ (wX0 E a8 s8 ++ (wX6 E a9 s9 t9)))))))))) ++ sW E.2.1 L) ((wX7o E a0 a1 a2 a3 a4 a5 a6 a7 a8 a9 s0 ++ (wX2 E a1 s1 h1 ++ (wX2 E a2 q.2.1 q.2.2 ++ (wX1 E a3 s3 ++ (wX2 E a4 s4 h4 ++ (wX1 E a5 s5 ++ (wX5 E a6 s6 ++ (wX3 E a7 s7 ++ (wX0 E a8 s8 ++ (wX6 E a9 s9 t9)))))))))) ++ sW E.2.1 L) q.1 := by
  unfold f_X7_fitting at hf
  intro sz
  refine Met.ofW (cc := cX7_fitting) (maxL := 6) (ret := (some .int)) (by decide) rfl ?_
  intro p e s m args below meth c s₁ B hml hpre
  obtain ⟨rfl, hsz, hP, hK, hD0, hG, hA, hAB⟩ := start hpre
  have hx := B.exec
  have hb := B.bytes
  have hr := B.returns
  have hts := atoms_spec (ws := wsX7_fitting) B.pre
  have hown : s.vm.findClass RX7 = some m.cls := findClass_of_methodNamed B.named
  have hlocks := B.notSynchronized
  subst hsz
  generalize va_A ((wX7o E a0 a1 a2 a3 a4 a5 a6 a7 a8 a9 s0 ++ (wX2 E a1 s1 h1 ++ (wX2 E a2 s2 h2 ++ (wX1 E a3 s3 ++ (wX2 E a4 s4 h4 ++ (wX1 E a5 s5 ++ (wX5 E a6 s6 ++ (wX3 E a7 s7 ++ (wX0 E a8 s8 ++ (wX6 E a9 s9 t9)))))))))) ++ sW E.2.1 L) s.heap.size = A0 at hD0 hA hAB ⊢
  have hDD : ∀ (s0 : St) (s1 : St) (h1 : Option SR) (s2 : St) (h2 : Option SR) (s3 : St) (s4 : St) (h4 : Option SR) (s5 : St) (s6 : St) (s7 : St) (s8 : St) (s9 : St) (t9 : Nat → Nat → Int64), va_D A0 ((wX7o E a0 a1 a2 a3 a4 a5 a6 a7 a8 a9 s0 ++ (wX2 E a1 s1 h1 ++ (wX2 E a2 s2 h2 ++ (wX1 E a3 s3 ++ (wX2 E a4 s4 h4 ++ (wX1 E a5 s5 ++ (wX5 E a6 s6 ++ (wX3 E a7 s7 ++ (wX0 E a8 s8 ++ (wX6 E a9 s9 t9)))))))))) ++ sW E.2.1 L) := fun s0 s1 h1 s2 h2 s3 s4 h4 s5 s6 s7 s8 s9 t9 => vD_addr hD0 rfl
  have hS : va_S A0 s.heap s.heap [] := va_S.rf
  have hl := lv_entry ([.ref (a0 0), .int p1, .int p2]) (n := 6) (Nat.le_of_ble_eq_true rfl)
  rw [lg_entry_eq]
  generalize (lg_sl ([.ref (a0 0), .int p1, .int p2]) ++ List.replicate (6 - (lg_sl ([.ref (a0 0), .int p1, .int p2])).length) Slot.unset).toArray = ls at hl ⊢
  have hl : lv_has ls 6 [(0, .ref (a0 0)), (1, .int p1), (2, .int p2)] := hl
  have hL_42 : ∀ (s1 : St) (h1 : Option SR) (v1 : Int32) (v2 : Int32) (n_42 : Nat) (s2 : St) (h2 : Option SR) (v3 : Int32) (v4 : Int32) (v5 : Int32), l_X7_fitting_42 N L s1 h1 v1 v2 n_42 s2 h2 v3 v4 v5 = some q → ∀ (H : Heap) (locs : List Loc) (ls : Array Slot), va_P E.1 vwCl ((wX7o E a0 a1 a2 a3 a4 a5 a6 a7 a8 a9 s0 ++ (wX2 E a1 s1 h1 ++ (wX2 E a2 s2 h2 ++ (wX1 E a3 s3 ++ (wX2 E a4 s4 h4 ++ (wX1 E a5 s5 ++ (wX5 E a6 s6 ++ (wX3 E a7 s7 ++ (wX0 E a8 s8 ++ (wX6 E a9 s9 t9)))))))))) ++ sW E.2.1 L) H → va_S A0 s.heap H locs → lv_has ls 6 [(0, .ref (a0 0)), (1, .int v1), (2, .int v2), (3, .int v3), (4, .int v4), (5, .int v5)] → W p l e rm_X7_fitting s m ([.ref (a0 0), .int p1, .int p2] : List Value).toArray below meth c H locs 0 0 (MQ below (va_Qi (fun (r' : Int32) (_ : Unit) => r' = q.1) (fun _ t => va_P E.1 vwCl ((wX7o E a0 a1 a2 a3 a4 a5 a6 a7 a8 a9 s0 ++ (wX2 E a1 s1 h1 ++ (wX2 E a2 q.2.1 q.2.2 ++ (wX1 E a3 s3 ++ (wX2 E a4 s4 h4 ++ (wX1 E a5 s5 ++ (wX5 E a6 s6 ++ (wX3 E a7 s7 ++ (wX0 E a8 s8 ++ (wX6 E a9 s9 t9)))))))))) ++ sW E.2.1 L) t.heap) A0) ([.ref (a0 0), .int p1, .int p2] : List Value).toArray s 0 0 A0) (F0 m 42 ls []) := by
    intro s1 h1 v1 v2 n_42
    induction n_42 with
    | zero => intro s2 h2 v3 v4 v5 hf; rw [l_X7_fitting_42] at hf; cases hf
    | succ n_42 ih_42 =>
      intro s2 h2 v3 v4 v5 hf H locs ls hP hS hl
      rw [l_X7_fitting_42] at hf
      refine lv_iload hx hb dX7_fitting_42 (lv_at hl 5 rfl) ?_
      refine lv_sipush (v := 255) hx hb dX7_fitting_44 (by decide) ?_
      refine lv_icmp_gt (tgt := 94) hx hb dX7_fitting_47 (by decide) (fun c_47 => ?_) (fun c_47 => ?_)
      · have hf := ite_t c_47 hf
        refine lv_iload_n hx hb dX7_fitting_94 rfl (lv_at hl 2 rfl) ?_
        refine lv_if_ne (tgt := 102) hx hb dX7_fitting_95 (by decide) (fun c_95 => ?_) (fun c_95 => ?_)
        · have hf := ite_f c_95 hf
          refine lv_iload hx hb dX7_fitting_102 (lv_at hl 4 rfl) ?_
          have e9 := Option.some.inj hf
          exact rt_i hx hb hr hlocks (fst_e e9) (rtP (P := fun z => va_P E.1 vwCl ((wX7o E a0 a1 a2 a3 a4 a5 a6 a7 a8 a9 s0 ++ (wX2 E a1 s1 h1 ++ (wX2 E a2 z.2.1 z.2.2 ++ (wX1 E a3 s3 ++ (wX2 E a4 s4 h4 ++ (wX1 E a5 s5 ++ (wX5 E a6 s6 ++ (wX3 E a7 s7 ++ (wX0 E a8 s8 ++ (wX6 E a9 s9 t9)))))))))) ++ sW E.2.1 L) H) e9 hP) hS dX7_fitting_104
        · have hf := ite_t c_95 hf
          refine lv_iload_n hx hb dX7_fitting_98 rfl (lv_at hl 3 rfl) ?_
          refine lv_goto (tgt := 104) hx hb dX7_fitting_99 (by decide) ?_
          have e9 := Option.some.inj hf
          exact rt_i hx hb hr hlocks (fst_e e9) (rtP (P := fun z => va_P E.1 vwCl ((wX7o E a0 a1 a2 a3 a4 a5 a6 a7 a8 a9 s0 ++ (wX2 E a1 s1 h1 ++ (wX2 E a2 z.2.1 z.2.2 ++ (wX1 E a3 s3 ++ (wX2 E a4 s4 h4 ++ (wX1 E a5 s5 ++ (wX5 E a6 s6 ++ (wX3 E a7 s7 ++ (wX0 E a8 s8 ++ (wX6 E a9 s9 t9)))))))))) ++ sW E.2.1 L) H) e9 hP) hS dX7_fitting_104
      · have hf := ite_f c_47 hf
        refine lv_aload_n hx hb dX7_fitting_50 rfl (lv_at hl 0 rfl) ?_
        refine va_get (ci := 7) (C := RX7) (T := TX7) (N := 11) (v := .ref (a2 0)) hx hb hts i_X7_fitting_X7 hown hK hP 0 rfl rfl 1 (by decide) (hts _ m_X7_fitting_5dfb42) (fun _ h9 => h9) rfl dX7_fitting_51 ?_
        refine va_getN (ci := 2) (C := RX2) (T := TX2) (N := 11) (v := .ref (a2 3)) hx hb hts i_X7_fitting_X2 hown hK hP 8 rfl rfl 3 (by decide) (nwG hG (w := .fieldLinkNest "PickedMatch" 85 "PickedMatch$Scene" "marks" "[I" "PickedMatch") (by decide +kernel)) (fun _ h9 => h9) rfl dX7_fitting_54 ?_
        refine lv_iload_n hx hb dX7_fitting_57 rfl (lv_at hl 1 rfl) ?_
        refine lv_iload hx hb dX7_fitting_58 (lv_at hl 5 rfl) ?_
        obtain ⟨h_60, hf⟩ := ck_e hf
        refine va_iast (cA := E.2.1) (n := 6) (f := s2 3) (x := v5) hx hb hK hP (hDD s0 s1 h1 s2 h2 s3 s4 h4 s5 s6 s7 s8 s9 t9) hS 11 0 rfl rfl h_60 dX7_fitting_60 (fun H locs hP _ hS => ?_)
        obtain ⟨s2_60, hP, hf⟩ := nm_st' (P := fun z => va_P E.1 vwCl ((wX7o E a0 a1 a2 a3 a4 a5 a6 a7 a8 a9 s0 ++ (wX2 E a1 s1 h1 ++ (wX2 E a2 z h2 ++ (wX1 E a3 s3 ++ (wX2 E a4 s4 h4 ++ (wX1 E a5 s5 ++ (wX5 E a6 s6 ++ (wX3 E a7 s7 ++ (wX0 E a8 s8 ++ (wX6 E a9 s9 t9)))))))))) ++ sW E.2.1 L) H) hf hP
        refine lv_aload_n hx hb dX7_fitting_61 rfl (lv_at hl 0 rfl) ?_
        refine va_get (ci := 7) (C := RX7) (T := TX7) (N := 11) (v := .ref (a2 0)) hx hb hts i_X7_fitting_X7 hown hK hP 0 rfl rfl 1 (by decide) (hts _ m_X7_fitting_5dfb42) (fun _ h9 => h9) rfl dX7_fitting_62 ?_
        refine lv_iload_n hx hb dX7_fitting_65 rfl (lv_at hl 1 rfl) ?_
        obtain ⟨q66, hc_66, hf⟩ := cl_e hf
        have hm_66 : ∀ q ∈ (wX2 E a2 s2_60 h2) ++ sW E.2.1 L, q ∈ (wX7o E a0 a1 a2 a3 a4 a5 a6 a7 a8 a9 s0 ++ (wX2 E a1 s1 h1 ++ (wX2 E a2 s2_60 h2 ++ (wX1 E a3 s3 ++ (wX2 E a4 s4 h4 ++ (wX1 E a5 s5 ++ (wX5 E a6 s6 ++ (wX3 E a7 s7 ++ (wX0 E a8 s8 ++ (wX6 E a9 s9 t9)))))))))) ++ sW E.2.1 L := (app_mem (sub_mem (suf := []) [8, 9, 10, 11, 12, 13, 14] rfl))
        refine fin_i (E := E) (wc := (wX2 E a2 s2_60 h2) ++ sW E.2.1 L) (wc' := (wX2 E a2 q66.2 h2) ++ sW E.2.1 L) (va_runVN (As := [.int v1]) (rest := []) ⟨hx, hb, hml, hown, hts⟩ (k_X2_goesNow l E a2 L N s2_60 h2 v1 q66 hc_66 _) ⟨va_cnB 1 hts gX7_fitting_X2_goesNow_n98 rfl rfl rfl (hG.1 (.methodLinkNest "PickedMatch" 98 yX2_goesNow "PickedMatch") (by decide +kernel)) (hts _ m_X7_fitting_4cf9d8) (by decide +kernel) ⟨(Nat.le_of_ble_eq_true rfl), (Nat.le_of_ble_eq_true rfl)⟩, (hts _ m_X7_fitting_e42de2), (hts _ m_X7_fitting_678d5f)⟩ (pre_v (ci := 2) (q0 := 0) hK (sub_P hm_66 hP) (sub_Ds (wc := wX2 E a2 s2_60 h2) [8, 9, 10, 11, 12, 13, 14] (by decide) rfl (hDD s0 s1 h1 s2_60 h2 s3 s4 h4 s5 s6 s7 s8 s9 t9)) hS hG hAB rfl rfl) rfl rfl hl.1 rfl (lv_room (Nat.le_of_ble_eq_true rfl)) dX7_fitting_66 ⟨Nat.zero_le _, Nat.zero_le _⟩) hS (w_free (hDD s0 s1 h1 s2_60 h2 s3 s4 h4 s5 s6 s7 s8 s9 t9) hS hA hm_66) (fun H locs hP1 hk hS => ?_)
        have hP := w_joins (ws' := wX7o E a0 a1 a2 a3 a4 a5 a6 a7 a8 a9 s0 ++ (wX2 E a1 s1 h1 ++ (wX2 E a2 q66.2 h2 ++ (wX1 E a3 s3 ++ (wX2 E a4 s4 h4 ++ (wX1 E a5 s5 ++ (wX5 E a6 s6 ++ (wX3 E a7 s7 ++ (wX0 E a8 s8 ++ (wX6 E a9 s9 t9)))))))))) (wc := wX2 E a2 s2_60 h2) (wc' := wX2 E a2 q66.2 h2) hP (hDD s0 s1 h1 s2_60 h2 s3 s4 h4 s5 s6 s7 s8 s9 t9) [8, 9, 10, 11, 12, 13, 14] rfl [none, none, none, none, none, none, none, none, some 0, some 1, some 2, some 3, some 4, some 5, some 6, none, none, none, none, none, none, none, none, none, none, none, none, none, none, none, none, none, none, none, none, none, none, none, none, none, none, none, none, none, none, none, none, none, none, none] rfl rfl hk hP1
        refine lv_if_eq (tgt := 88) hx hb dX7_fitting_69 (by decide) (fun c_69 => ?_) (fun c_69 => ?_)
        · have hf := ite_t c_69 hf
          obtain ⟨x88, e_x88⟩ : ∃ y : Int32, y = v5 + 1 := ⟨_, rfl⟩
          have hf := nm_q e_x88 hf
          refine lv_iinc (v := x88) (lv' := [(5, .int x88), (0, .ref (a0 0)), (1, .int v1), (2, .int v2), (3, .int v3), (4, .int v4)]) hx hb dX7_fitting_88 hl (k := 5) rfl (by rw [e_x88]; rfl) (Nat.le_of_ble_eq_true rfl) rfl (fun ls hl => ?_)
          refine lv_goto (tgt := 42) hx hb dX7_fitting_91 (by decide) ?_
          exact ih_42 q66.2 h2 v3 v4 x88 hf _ _ _ hP hS (lv_sub hl [1, 2, 3, 4, 5, 0] rfl)
        · have hf := ite_f c_69 hf
          refine lv_iload_n hx hb dX7_fitting_72 rfl (lv_at hl 3 rfl) ?_
          refine lv_if_ne (tgt := 81) hx hb dX7_fitting_73 (by decide) (fun c_73 => ?_) (fun c_73 => ?_)
          · have hf := ite_f c_73 hf
            refine lv_iload hx hb dX7_fitting_81 (lv_at hl 4 rfl) ?_
            refine lv_istore (lv' := [(4, .int v4), (0, .ref (a0 0)), (1, .int v1), (2, .int v2), (3, .int v3), (5, .int v5)]) hx hb dX7_fitting_83 hl (Nat.le_of_ble_eq_true rfl) rfl (fun ls hl => ?_)
            obtain ⟨x85, e_x85⟩ : ∃ y : Int32, y = v3 + 1 := ⟨_, rfl⟩
            have hf := nm_q e_x85 hf
            refine lv_iinc (v := x85) (lv' := [(3, .int x85), (4, .int v4), (0, .ref (a0 0)), (1, .int v1), (2, .int v2), (5, .int v5)]) hx hb dX7_fitting_85 hl (k := 4) rfl (by rw [e_x85]; rfl) (Nat.le_of_ble_eq_true rfl) rfl (fun ls hl => ?_)
            obtain ⟨x88, e_x88⟩ : ∃ y : Int32, y = v5 + 1 := ⟨_, rfl⟩
            have hf := nm_q e_x88 hf
            refine lv_iinc (v := x88) (lv' := [(5, .int x88), (3, .int x85), (4, .int v4), (0, .ref (a0 0)), (1, .int v1), (2, .int v2)]) hx hb dX7_fitting_88 hl (k := 5) rfl (by rw [e_x88]; rfl) (Nat.le_of_ble_eq_true rfl) rfl (fun ls hl => ?_)
            refine lv_goto (tgt := 42) hx hb dX7_fitting_91 (by decide) ?_
            exact ih_42 q66.2 h2 x85 v4 x88 hf _ _ _ hP hS (lv_sub hl [3, 4, 5, 1, 2, 0] rfl)
          · have hf := ite_t c_73 hf
            refine lv_iload hx hb dX7_fitting_76 (lv_at hl 5 rfl) ?_
            refine lv_goto (tgt := 83) hx hb dX7_fitting_78 (by decide) ?_
            refine lv_istore (lv' := [(4, .int v5), (0, .ref (a0 0)), (1, .int v1), (2, .int v2), (3, .int v3), (5, .int v5)]) hx hb dX7_fitting_83 hl (Nat.le_of_ble_eq_true rfl) rfl (fun ls hl => ?_)
            obtain ⟨x85, e_x85⟩ : ∃ y : Int32, y = v3 + 1 := ⟨_, rfl⟩
            have hf := nm_q e_x85 hf
            refine lv_iinc (v := x85) (lv' := [(3, .int x85), (4, .int v5), (0, .ref (a0 0)), (1, .int v1), (2, .int v2), (5, .int v5)]) hx hb dX7_fitting_85 hl (k := 4) rfl (by rw [e_x85]; rfl) (Nat.le_of_ble_eq_true rfl) rfl (fun ls hl => ?_)
            obtain ⟨x88, e_x88⟩ : ∃ y : Int32, y = v5 + 1 := ⟨_, rfl⟩
            have hf := nm_q e_x88 hf
            refine lv_iinc (v := x88) (lv' := [(5, .int x88), (3, .int x85), (4, .int v5), (0, .ref (a0 0)), (1, .int v1), (2, .int v2)]) hx hb dX7_fitting_88 hl (k := 5) rfl (by rw [e_x88]; rfl) (Nat.le_of_ble_eq_true rfl) rfl (fun ls hl => ?_)
            refine lv_goto (tgt := 42) hx hb dX7_fitting_91 (by decide) ?_
            exact ih_42 q66.2 h2 x85 v5 x88 hf _ _ _ hP hS (lv_sub hl [3, 4, 5, 1, 2, 0] rfl)
  refine lv_aload_n hx hb dX7_fitting_0 rfl (lv_at hl 0 rfl) ?_
  refine va_get (ci := 7) (C := RX7) (T := TX7) (N := 11) (v := .ref (a1 0)) hx hb hts i_X7_fitting_X7 hown hK hP 0 rfl rfl 0 (by decide) (hts _ m_X7_fitting_265b14) (fun _ h9 => h9) rfl dX7_fitting_1 ?_
  refine lv_iload_n hx hb dX7_fitting_4 rfl (lv_at hl 1 rfl) ?_
  obtain ⟨q5, hc_5, hf⟩ := cl_e hf
  have hm_5 : ∀ q ∈ (wX2 E a1 s1 h1) ++ sW E.2.1 L, q ∈ (wX7o E a0 a1 a2 a3 a4 a5 a6 a7 a8 a9 s0 ++ (wX2 E a1 s1 h1 ++ (wX2 E a2 s2 h2 ++ (wX1 E a3 s3 ++ (wX2 E a4 s4 h4 ++ (wX1 E a5 s5 ++ (wX5 E a6 s6 ++ (wX3 E a7 s7 ++ (wX0 E a8 s8 ++ (wX6 E a9 s9 t9)))))))))) ++ sW E.2.1 L := (app_mem (sub_mem (suf := []) [1, 2, 3, 4, 5, 6, 7] rfl))
  refine fin_i (E := E) (wc := (wX2 E a1 s1 h1) ++ sW E.2.1 L) (wc' := (wX2 E a1 s1 h1) ++ sW E.2.1 L) (va_runVN (As := [.int p1]) (rest := []) ⟨hx, hb, hml, hown, hts⟩ (k_X2_hasThing l E a1 L N s1 h1 p1 q5 hc_5 _) ⟨va_cnB 1 hts gX7_fitting_X2_hasThing_n74 rfl rfl rfl (hG.1 (.methodLinkNest "PickedMatch" 74 yX2_hasThing "PickedMatch") (by decide +kernel)) (hts _ m_X7_fitting_4cf9d8) (by decide +kernel) ⟨(Nat.le_of_ble_eq_true rfl), (Nat.le_of_ble_eq_true rfl)⟩, (hts _ m_X7_fitting_0211d8), (hts _ m_X7_fitting_6099ba)⟩ (pre_v (ci := 2) (q0 := 0) hK (sub_P hm_5 hP) (sub_Ds (wc := wX2 E a1 s1 h1) [1, 2, 3, 4, 5, 6, 7] (by decide) rfl (hDD s0 s1 h1 s2 h2 s3 s4 h4 s5 s6 s7 s8 s9 t9)) hS hG hAB rfl rfl) rfl rfl hl.1 rfl (lv_room (Nat.le_of_ble_eq_true rfl)) dX7_fitting_5 ⟨Nat.zero_le _, Nat.zero_le _⟩) hS (w_free (hDD s0 s1 h1 s2 h2 s3 s4 h4 s5 s6 s7 s8 s9 t9) hS hA hm_5) (fun H locs hP1 hk hS => ?_)
  have hP := w_joins (ws' := wX7o E a0 a1 a2 a3 a4 a5 a6 a7 a8 a9 s0 ++ (wX2 E a1 s1 h1 ++ (wX2 E a2 s2 h2 ++ (wX1 E a3 s3 ++ (wX2 E a4 s4 h4 ++ (wX1 E a5 s5 ++ (wX5 E a6 s6 ++ (wX3 E a7 s7 ++ (wX0 E a8 s8 ++ (wX6 E a9 s9 t9)))))))))) (wc := wX2 E a1 s1 h1) (wc' := wX2 E a1 s1 h1) hP (hDD s0 s1 h1 s2 h2 s3 s4 h4 s5 s6 s7 s8 s9 t9) [1, 2, 3, 4, 5, 6, 7] rfl [none, some 0, some 1, some 2, some 3, some 4, some 5, some 6, none, none, none, none, none, none, none, none, none, none, none, none, none, none, none, none, none, none, none, none, none, none, none, none, none, none, none, none, none, none, none, none, none, none, none, none, none, none, none, none, none, none] rfl rfl hk hP1
  refine lv_if_eq (tgt := 20) hx hb dX7_fitting_8 (by decide) (fun c_8 => ?_) (fun c_8 => ?_)
  · have hf := ite_t c_8 hf
    refine lv_iconst (v := (-1)) hx hb dX7_fitting_20 (by decide) ?_
    have e9 := Option.some.inj hf
    exact rt_i hx hb hr hlocks (fst_e e9) (rtP (P := fun z => va_P E.1 vwCl ((wX7o E a0 a1 a2 a3 a4 a5 a6 a7 a8 a9 s0 ++ (wX2 E a1 s1 h1 ++ (wX2 E a2 z.2.1 z.2.2 ++ (wX1 E a3 s3 ++ (wX2 E a4 s4 h4 ++ (wX1 E a5 s5 ++ (wX5 E a6 s6 ++ (wX3 E a7 s7 ++ (wX0 E a8 s8 ++ (wX6 E a9 s9 t9)))))))))) ++ sW E.2.1 L) H) e9 hP) hS dX7_fitting_21
  · have hf := ite_f c_8 hf
    refine lv_iload_n hx hb dX7_fitting_11 rfl (lv_at hl 2 rfl) ?_
    refine lv_iconst (v := 0) hx hb dX7_fitting_12 (by decide) ?_
    refine lv_iconst (v := 1) hx hb dX7_fitting_13 (by decide) ?_
    obtain ⟨q14, hc_14, hf⟩ := cl_e hf
    refine fin_i (E := E) (wc := ([] : va_W)) (wc' := ([] : va_W)) (va_runS (As := [.int p2, .int 0, .int 1]) (rest := []) ⟨hx, hb, hml, hown, hts⟩ (k_X7_isWithin l E N p2 0 1 q14 hc_14 _) (va_cwS 3 hts gX7_fitting_X7_isWithin rfl rfl rfl (by decide +kernel) ⟨(Nat.le_of_ble_eq_true rfl), (Nat.le_of_ble_eq_true rfl)⟩) (pre_s hK va_P_nil va_D_nil hS hG hAB) rfl rfl hl.1 rfl (lv_room (Nat.le_of_ble_eq_true rfl)) dX7_fitting_14 ⟨Nat.zero_le _, Nat.zero_le _⟩) hS (free_nil hS hA) (fun H locs hP1 hk hS => ?_)
    have hP := w_kept0 hP hk
    refine lv_if_ne (tgt := 22) hx hb dX7_fitting_17 (by decide) (fun c_17 => ?_) (fun c_17 => ?_)
    · have hf := ite_f c_17 hf
      refine lv_iconst (v := 0) hx hb dX7_fitting_22 (by decide) ?_
      refine lv_istore_n (lv' := [(3, .int 0), (0, .ref (a0 0)), (1, .int p1), (2, .int p2)]) hx hb dX7_fitting_23 rfl hl (Nat.le_of_ble_eq_true rfl) rfl (fun ls hl => ?_)
      refine lv_bipush (v := (-5)) hx hb dX7_fitting_24 (by decide) ?_
      refine lv_topi (fun x26 e_x26 => ?_)
      have hf := nm_q e_x26 hf
      refine lv_istore (lv' := [(4, .int x26), (3, .int 0), (0, .ref (a0 0)), (1, .int p1), (2, .int p2)]) hx hb dX7_fitting_26 hl (Nat.le_of_ble_eq_true rfl) rfl (fun ls hl => ?_)
      refine lv_aload_n hx hb dX7_fitting_28 rfl (lv_at hl 2 rfl) ?_
      refine va_get (ci := 7) (C := RX7) (T := TX7) (N := 11) (v := .ref (a2 0)) hx hb hts i_X7_fitting_X7 hown hK hP 0 rfl rfl 1 (by decide) (hts _ m_X7_fitting_5dfb42) (fun _ h9 => h9) rfl dX7_fitting_29 ?_
      refine lv_aload_n hx hb dX7_fitting_32 rfl (lv_at hl 2 rfl) ?_
      refine va_get (ci := 7) (C := RX7) (T := TX7) (N := 11) (v := .ref (a1 0)) hx hb hts i_X7_fitting_X7 hown hK hP 0 rfl rfl 0 (by decide) (hts _ m_X7_fitting_265b14) (fun _ h9 => h9) rfl dX7_fitting_33 ?_
      obtain ⟨q36, hc_36, hf⟩ := cl_e hf
      have hm_36 : ∀ q ∈ (wX2 E a2 s2 h2 ++ (wX2 E a1 s1 h1)) ++ sW E.2.1 L, q ∈ (wX7o E a0 a1 a2 a3 a4 a5 a6 a7 a8 a9 s0 ++ (wX2 E a1 s1 h1 ++ (wX2 E a2 s2 h2 ++ (wX1 E a3 s3 ++ (wX2 E a4 s4 h4 ++ (wX1 E a5 s5 ++ (wX5 E a6 s6 ++ (wX3 E a7 s7 ++ (wX0 E a8 s8 ++ (wX6 E a9 s9 t9)))))))))) ++ sW E.2.1 L := (app_mem (sub_mem (suf := []) [8, 9, 10, 11, 12, 13, 14, 1, 2, 3, 4, 5, 6, 7] rfl))
      refine fin_v (E := E) (wc := (wX2 E a2 s2 h2 ++ (wX2 E a1 s1 h1)) ++ sW E.2.1 L) (wc' := (wX2 E a2 q36.1 q36.2 ++ (wX2 E a1 s1 h1)) ++ sW E.2.1 L) (va_runVN (As := [.ref (a1 0)]) (rest := []) ⟨hx, hb, hml, hown, hts⟩ (k_X2_becomeAs l E a2 a1 L N s2 h2 s1 h1 q36 hc_36 _) ⟨va_cnB 1 hts gX7_fitting_X2_becomeAs_n179 rfl rfl rfl (hG.1 (.methodLinkNest "PickedMatch" 179 yX2_becomeAs "PickedMatch") (by decide +kernel)) (hts _ m_X7_fitting_4cf9d8) (by decide +kernel) ⟨(Nat.le_of_ble_eq_true rfl), (Nat.le_of_ble_eq_true rfl)⟩, (hts _ m_X7_fitting_c21ce8), (hts _ m_X7_fitting_986579)⟩ (pre_v (ci := 2) (q0 := 0) hK (sub_P hm_36 hP) (sub_Ds (wc := wX2 E a2 s2 h2 ++ (wX2 E a1 s1 h1)) [8, 9, 10, 11, 12, 13, 14, 1, 2, 3, 4, 5, 6, 7] (by decide) rfl (hDD s0 s1 h1 s2 h2 s3 s4 h4 s5 s6 s7 s8 s9 t9)) hS hG hAB rfl rfl) rfl rfl hl.1 rfl (lv_room (Nat.le_of_ble_eq_true rfl)) dX7_fitting_36 ⟨Nat.zero_le _, Nat.zero_le _⟩) hS (w_free (hDD s0 s1 h1 s2 h2 s3 s4 h4 s5 s6 s7 s8 s9 t9) hS hA hm_36) (fun H locs hP1 hk hS => ?_)
      have hP := w_joins (ws' := wX7o E a0 a1 a2 a3 a4 a5 a6 a7 a8 a9 s0 ++ (wX2 E a1 s1 h1 ++ (wX2 E a2 q36.1 q36.2 ++ (wX1 E a3 s3 ++ (wX2 E a4 s4 h4 ++ (wX1 E a5 s5 ++ (wX5 E a6 s6 ++ (wX3 E a7 s7 ++ (wX0 E a8 s8 ++ (wX6 E a9 s9 t9)))))))))) (wc := wX2 E a2 s2 h2 ++ (wX2 E a1 s1 h1)) (wc' := wX2 E a2 q36.1 q36.2 ++ (wX2 E a1 s1 h1)) hP (hDD s0 s1 h1 s2 h2 s3 s4 h4 s5 s6 s7 s8 s9 t9) [8, 9, 10, 11, 12, 13, 14, 1, 2, 3, 4, 5, 6, 7] rfl [none, some 7, some 8, some 9, some 10, some 11, some 12, some 13, some 0, some 1, some 2, some 3, some 4, some 5, some 6, none, none, none, none, none, none, none, none, none, none, none, none, none, none, none, none, none, none, none, none, none, none, none, none, none, none, none, none, none, none, none, none, none, none, none] rfl rfl hk hP1
      refine lv_iconst (v := 0) hx hb dX7_fitting_39 (by decide) ?_
      refine lv_istore (lv' := [(5, .int 0), (4, .int x26), (3, .int 0), (0, .ref (a0 0)), (1, .int p1), (2, .int p2)]) hx hb dX7_fitting_40 hl (Nat.le_of_ble_eq_true rfl) rfl (fun ls hl => ?_)
      exact hL_42 s1 h1 p1 p2 N q36.1 q36.2 0 x26 0 hf _ _ _ hP hS (lv_sub hl [3, 4, 5, 2, 1, 0] rfl)
    · have hf := ite_t c_17 hf
      refine lv_iconst (v := (-1)) hx hb dX7_fitting_20 (by decide) ?_
      have e9 := Option.some.inj hf
      exact rt_i hx hb hr hlocks (fst_e e9) (rtP (P := fun z => va_P E.1 vwCl ((wX7o E a0 a1 a2 a3 a4 a5 a6 a7 a8 a9 s0 ++ (wX2 E a1 s1 h1 ++ (wX2 E a2 z.2.1 z.2.2 ++ (wX1 E a3 s3 ++ (wX2 E a4 s4 h4 ++ (wX1 E a5 s5 ++ (wX5 E a6 s6 ++ (wX3 E a7 s7 ++ (wX0 E a8 s8 ++ (wX6 E a9 s9 t9)))))))))) ++ sW E.2.1 L) H) e9 hP) hS dX7_fitting_21
abbrev rm_X7_see : Room := { frames := 1, cells := 0, slots := 0, locals := 23 }
theorem m_X7_see_265b14 : Cond.fieldLink RX7 12 "PickedMatch" "scene" "LPickedMatch$Scene;" ∈ wsX7_see := by decide +kernel
theorem i_X7_see_X7 : ∀ w ∈ wsX70, w ∈ wsX7_see := fun _ h => List.mem_cons_of_mem _ (List.mem_append_left _ (List.mem_append_left _ (List.mem_append_right _ h)))
theorem m_X7_see_4cf9d8 : Cond.initialized RX2 ∈ wsX7_see := by decide +kernel
theorem m_X7_see_0211d8 : Cond.instanceMethod yX2_hasThing ∈ wsX7_see := by decide +kernel
theorem m_X7_see_6099ba : Cond.selects RX2 yX2_hasThing yX2_hasThing ∈ wsX7_see := by decide +kernel
theorem m_X7_see_6a5209 : Cond.fieldLink RX7 24 "PickedMatch" "notes" "LPickedMatch$Notes;" ∈ wsX7_see := by decide +kernel
theorem i_X7_see_X1 : ∀ w ∈ wsX10, w ∈ wsX7_see := fun _ h => List.mem_cons_of_mem _ (List.mem_append_left _ (List.mem_append_right _ h))
theorem m_X7_see_6e074f : Cond.initialized RX1 ∈ wsX7_see := by decide +kernel
theorem m_X7_see_4b7d33 : Cond.instanceMethod yX1_addSeen ∈ wsX7_see := by decide +kernel
theorem m_X7_see_32800e : Cond.selects RX1 yX1_addSeen yX1_addSeen ∈ wsX7_see := by decide +kernel
set_option maxHeartbeats 8000000 in
set_option maxRecDepth 100000 in
theorem k_X7_see (l : Launch) (E : Ev) (a0 : Nat → Nat) (a1 : Nat → Nat) (a2 : Nat → Nat) (a3 : Nat → Nat) (a4 : Nat → Nat) (a5 : Nat → Nat) (a6 : Nat → Nat) (a7 : Nat → Nat) (a8 : Nat → Nat) (a9 : Nat → Nat) (L : List SR) (N : Nat) (s0 : St) (s1 : St) (h1 : Option SR) (s2 : St) (h2 : Option SR) (s3 : St) (s4 : St) (h4 : Option SR) (s5 : St) (s6 : St) (s7 : St) (s8 : St) (s9 : St) (t9 : Nat → Nat → Int64) (p1 : Int32) (p2 : Int32) (p3 : Int32) (q : (Int32 × St)) (hf : f_X7_see N s1 s3 p1 p2 p3 = some q) : Ci l yX7_see wsX7_see rm_X7_see E [.ref (a0 0), .int p1, .int p2, .int p3] ((wX7o E a0 a1 a2 a3 a4 a5 a6 a7 a8 a9 s0 ++ (wX2 E a1 s1 h1 ++ (wX2 E a2 s2 h2 ++ (wX1 E a3 s3 ++ (wX2 E a4 s4 h4 ++ (wX1 E a5 s5 ++ (wX5 E a6 s6 ++ (wX3 E a7 s7 ++ (wX0 E a8 s8 ++ (wX6 E a9 s9 t9)))))))))) ++ sW E.2.1 L) ((wX7o E a0 a1 a2 a3 a4 a5 a6 a7 a8 a9 s0 ++ (wX2 E a1 s1 h1 ++ (wX2 E a2 s2 h2 ++ (wX1 E a3 q.2 ++ (wX2 E a4 s4 h4 ++ (wX1 E a5 s5 ++ (wX5 E a6 s6 ++ (wX3 E a7 s7 ++ (wX0 E a8 s8 ++ (wX6 E a9 s9 t9)))))))))) ++ sW E.2.1 L) q.1 := by
  unfold f_X7_see at hf
  intro sz
  refine Met.ofW (cc := cX7_see) (maxL := 4) (ret := (some .int)) (by decide) rfl ?_
  intro p e s m args below meth c s₁ B hml hpre
  obtain ⟨rfl, hsz, hP, hK, hD0, hG, hA, hAB⟩ := start hpre
  have hx := B.exec
  have hb := B.bytes
  have hr := B.returns
  have hts := atoms_spec (ws := wsX7_see) B.pre
  have hown : s.vm.findClass RX7 = some m.cls := findClass_of_methodNamed B.named
  have hlocks := B.notSynchronized
  subst hsz
  generalize va_A ((wX7o E a0 a1 a2 a3 a4 a5 a6 a7 a8 a9 s0 ++ (wX2 E a1 s1 h1 ++ (wX2 E a2 s2 h2 ++ (wX1 E a3 s3 ++ (wX2 E a4 s4 h4 ++ (wX1 E a5 s5 ++ (wX5 E a6 s6 ++ (wX3 E a7 s7 ++ (wX0 E a8 s8 ++ (wX6 E a9 s9 t9)))))))))) ++ sW E.2.1 L) s.heap.size = A0 at hD0 hA hAB ⊢
  have hDD : ∀ (s0 : St) (s1 : St) (h1 : Option SR) (s2 : St) (h2 : Option SR) (s3 : St) (s4 : St) (h4 : Option SR) (s5 : St) (s6 : St) (s7 : St) (s8 : St) (s9 : St) (t9 : Nat → Nat → Int64), va_D A0 ((wX7o E a0 a1 a2 a3 a4 a5 a6 a7 a8 a9 s0 ++ (wX2 E a1 s1 h1 ++ (wX2 E a2 s2 h2 ++ (wX1 E a3 s3 ++ (wX2 E a4 s4 h4 ++ (wX1 E a5 s5 ++ (wX5 E a6 s6 ++ (wX3 E a7 s7 ++ (wX0 E a8 s8 ++ (wX6 E a9 s9 t9)))))))))) ++ sW E.2.1 L) := fun s0 s1 h1 s2 h2 s3 s4 h4 s5 s6 s7 s8 s9 t9 => vD_addr hD0 rfl
  have hS : va_S A0 s.heap s.heap [] := va_S.rf
  have hl := lv_entry ([.ref (a0 0), .int p1, .int p2, .int p3]) (n := 4) (Nat.le_of_ble_eq_true rfl)
  rw [lg_entry_eq]
  generalize (lg_sl ([.ref (a0 0), .int p1, .int p2, .int p3]) ++ List.replicate (4 - (lg_sl ([.ref (a0 0), .int p1, .int p2, .int p3])).length) Slot.unset).toArray = ls at hl ⊢
  have hl : lv_has ls 4 [(0, .ref (a0 0)), (1, .int p1), (2, .int p2), (3, .int p3)] := hl
  refine lv_iload_n hx hb dX7_see_0 rfl (lv_at hl 1 rfl) ?_
  refine lv_iconst (v := (-1)) hx hb dX7_see_1 (by decide) ?_
  refine lv_icmp_ne (tgt := 15) hx hb dX7_see_2 (by decide) (fun c_2 => ?_) (fun c_2 => ?_)
  · have hf := ite_f c_2 hf
    refine lv_aload_n hx hb dX7_see_15 rfl (lv_at hl 0 rfl) ?_
    refine va_get (ci := 7) (C := RX7) (T := TX7) (N := 11) (v := .ref (a1 0)) hx hb hts i_X7_see_X7 hown hK hP 0 rfl rfl 0 (by decide) (hts _ m_X7_see_265b14) (fun _ h9 => h9) rfl dX7_see_16 ?_
    refine lv_iload_n hx hb dX7_see_19 rfl (lv_at hl 1 rfl) ?_
    obtain ⟨q20, hc_20, hf⟩ := cl_e hf
    have hm_20 : ∀ q ∈ (wX2 E a1 s1 h1) ++ sW E.2.1 L, q ∈ (wX7o E a0 a1 a2 a3 a4 a5 a6 a7 a8 a9 s0 ++ (wX2 E a1 s1 h1 ++ (wX2 E a2 s2 h2 ++ (wX1 E a3 s3 ++ (wX2 E a4 s4 h4 ++ (wX1 E a5 s5 ++ (wX5 E a6 s6 ++ (wX3 E a7 s7 ++ (wX0 E a8 s8 ++ (wX6 E a9 s9 t9)))))))))) ++ sW E.2.1 L := (app_mem (sub_mem (suf := []) [1, 2, 3, 4, 5, 6, 7] rfl))
    refine fin_i (E := E) (wc := (wX2 E a1 s1 h1) ++ sW E.2.1 L) (wc' := (wX2 E a1 s1 h1) ++ sW E.2.1 L) (va_runVN (As := [.int p1]) (rest := []) ⟨hx, hb, hml, hown, hts⟩ (k_X2_hasThing l E a1 L N s1 h1 p1 q20 hc_20 _) ⟨va_cnB 1 hts gX7_see_X2_hasThing_n74 rfl rfl rfl (hG.1 (.methodLinkNest "PickedMatch" 74 yX2_hasThing "PickedMatch") (by decide +kernel)) (hts _ m_X7_see_4cf9d8) (by decide +kernel) ⟨(Nat.le_of_ble_eq_true rfl), (Nat.le_of_ble_eq_true rfl)⟩, (hts _ m_X7_see_0211d8), (hts _ m_X7_see_6099ba)⟩ (pre_v (ci := 2) (q0 := 0) hK (sub_P hm_20 hP) (sub_Ds (wc := wX2 E a1 s1 h1) [1, 2, 3, 4, 5, 6, 7] (by decide) rfl (hDD s0 s1 h1 s2 h2 s3 s4 h4 s5 s6 s7 s8 s9 t9)) hS hG hAB rfl rfl) rfl rfl hl.1 rfl (lv_room (Nat.le_of_ble_eq_true rfl)) dX7_see_20 ⟨Nat.zero_le _, Nat.zero_le _⟩) hS (w_free (hDD s0 s1 h1 s2 h2 s3 s4 h4 s5 s6 s7 s8 s9 t9) hS hA hm_20) (fun H locs hP1 hk hS => ?_)
    have hP := w_joins (ws' := wX7o E a0 a1 a2 a3 a4 a5 a6 a7 a8 a9 s0 ++ (wX2 E a1 s1 h1 ++ (wX2 E a2 s2 h2 ++ (wX1 E a3 s3 ++ (wX2 E a4 s4 h4 ++ (wX1 E a5 s5 ++ (wX5 E a6 s6 ++ (wX3 E a7 s7 ++ (wX0 E a8 s8 ++ (wX6 E a9 s9 t9)))))))))) (wc := wX2 E a1 s1 h1) (wc' := wX2 E a1 s1 h1) hP (hDD s0 s1 h1 s2 h2 s3 s4 h4 s5 s6 s7 s8 s9 t9) [1, 2, 3, 4, 5, 6, 7] rfl [none, some 0, some 1, some 2, some 3, some 4, some 5, some 6, none, none, none, none, none, none, none, none, none, none, none, none, none, none, none, none, none, none, none, none, none, none, none, none, none, none, none, none, none, none, none, none, none, none, none, none, none, none, none, none, none, none] rfl rfl hk hP1
    refine lv_if_ne (tgt := 28) hx hb dX7_see_23 (by decide) (fun c_23 => ?_) (fun c_23 => ?_)
    · have hf := ite_f c_23 hf
      refine lv_iload_n hx hb dX7_see_28 rfl (lv_at hl 3 rfl) ?_
      refine lv_iconst (v := 0) hx hb dX7_see_29 (by decide) ?_
      refine lv_bipush (v := 20) hx hb dX7_see_30 (by decide) ?_
      obtain ⟨q32, hc_32, hf⟩ := cl_e hf
      refine fin_i (E := E) (wc := ([] : va_W)) (wc' := ([] : va_W)) (va_runS (As := [.int p3, .int 0, .int 20]) (rest := []) ⟨hx, hb, hml, hown, hts⟩ (k_X7_isWithin l E N p3 0 20 q32 hc_32 _) (va_cwS 3 hts gX7_see_X7_isWithin rfl rfl rfl (by decide +kernel) ⟨(Nat.le_of_ble_eq_true rfl), (Nat.le_of_ble_eq_true rfl)⟩) (pre_s hK va_P_nil va_D_nil hS hG hAB) rfl rfl hl.1 rfl (lv_room (Nat.le_of_ble_eq_true rfl)) dX7_see_32 ⟨Nat.zero_le _, Nat.zero_le _⟩) hS (free_nil hS hA) (fun H locs hP1 hk hS => ?_)
      have hP := w_kept0 hP hk
      refine lv_if_ne (tgt := 41) hx hb dX7_see_35 (by decide) (fun c_35 => ?_) (fun c_35 => ?_)
      · have hf := ite_f c_35 hf
        refine lv_aload_n hx hb dX7_see_41 rfl (lv_at hl 0 rfl) ?_
        refine va_get (ci := 7) (C := RX7) (T := TX7) (N := 11) (v := .ref (a3 0)) hx hb hts i_X7_see_X7 hown hK hP 0 rfl rfl 2 (by decide) (hts _ m_X7_see_6a5209) (fun _ h9 => h9) rfl dX7_see_42 ?_
        refine va_getN (ci := 1) (C := RX1) (T := TX1) (N := 10) (v := .int (s3 3 0)) hx hb hts i_X7_see_X1 hown hK hP 15 rfl rfl 3 (by decide) (nwG hG (w := .fieldLinkNest "PickedMatch" 206 "PickedMatch$Notes" "seenCount" "I" "PickedMatch") (by decide +kernel)) (fun _ h9 => h9) rfl dX7_see_45 ?_
        refine lv_iconst (v := 5) hx hb dX7_see_48 (by decide) ?_
        refine lv_icmp_lt (tgt := 55) hx hb dX7_see_49 (by decide) (fun c_49 => ?_) (fun c_49 => ?_)
        · have hf := ite_t c_49 hf
          refine lv_aload_n hx hb dX7_see_55 rfl (lv_at hl 0 rfl) ?_
          refine va_get (ci := 7) (C := RX7) (T := TX7) (N := 11) (v := .ref (a3 0)) hx hb hts i_X7_see_X7 hown hK hP 0 rfl rfl 2 (by decide) (hts _ m_X7_see_6a5209) (fun _ h9 => h9) rfl dX7_see_56 ?_
          refine lv_iload_n hx hb dX7_see_59 rfl (lv_at hl 1 rfl) ?_
          refine lv_iload_n hx hb dX7_see_60 rfl (lv_at hl 2 rfl) ?_
          refine lv_iload_n hx hb dX7_see_61 rfl (lv_at hl 3 rfl) ?_
          obtain ⟨q62, hc_62, hf⟩ := cl_e hf
          have hm_62 : ∀ q ∈ wX1 E a3 s3, q ∈ (wX7o E a0 a1 a2 a3 a4 a5 a6 a7 a8 a9 s0 ++ (wX2 E a1 s1 h1 ++ (wX2 E a2 s2 h2 ++ (wX1 E a3 s3 ++ (wX2 E a4 s4 h4 ++ (wX1 E a5 s5 ++ (wX5 E a6 s6 ++ (wX3 E a7 s7 ++ (wX0 E a8 s8 ++ (wX6 E a9 s9 t9)))))))))) ++ sW E.2.1 L := (inl_mem (sub_mem (suf := []) [15, 16, 17, 18, 19, 20, 21, 22] rfl))
          refine fin_i (E := E) (wc := wX1 E a3 s3) (wc' := wX1 E a3 q62.2) (va_runVN (As := [.int p1, .int p2, .int p3]) (rest := []) ⟨hx, hb, hml, hown, hts⟩ (k_X1_addSeen l E a3 N s3 p1 p2 p3 q62 hc_62 _) ⟨va_cnB 3 hts gX7_see_X1_addSeen_n209 rfl rfl rfl (hG.1 (.methodLinkNest "PickedMatch" 209 yX1_addSeen "PickedMatch") (by decide +kernel)) (hts _ m_X7_see_6e074f) (by decide +kernel) ⟨(Nat.le_of_ble_eq_true rfl), (Nat.le_of_ble_eq_true rfl)⟩, (hts _ m_X7_see_4b7d33), (hts _ m_X7_see_32800e)⟩ (pre_v (ci := 1) (q0 := 0) hK (sub_P hm_62 hP) (sub_Dn (suf := sW E.2.1 L) [15, 16, 17, 18, 19, 20, 21, 22] (by decide) rfl (hDD s0 s1 h1 s2 h2 s3 s4 h4 s5 s6 s7 s8 s9 t9)) hS hG hAB rfl rfl) rfl rfl hl.1 rfl (lv_room (Nat.le_of_ble_eq_true rfl)) dX7_see_62 ⟨Nat.zero_le _, Nat.zero_le _⟩) hS (w_free (hDD s0 s1 h1 s2 h2 s3 s4 h4 s5 s6 s7 s8 s9 t9) hS hA hm_62) (fun H locs hP1 hk hS => ?_)
          have hP := w_join (ws' := wX7o E a0 a1 a2 a3 a4 a5 a6 a7 a8 a9 s0 ++ (wX2 E a1 s1 h1 ++ (wX2 E a2 s2 h2 ++ (wX1 E a3 q62.2 ++ (wX2 E a4 s4 h4 ++ (wX1 E a5 s5 ++ (wX5 E a6 s6 ++ (wX3 E a7 s7 ++ (wX0 E a8 s8 ++ (wX6 E a9 s9 t9)))))))))) hP (hDD s0 s1 h1 s2 h2 s3 s4 h4 s5 s6 s7 s8 s9 t9) [15, 16, 17, 18, 19, 20, 21, 22] rfl [none, none, none, none, none, none, none, none, none, none, none, none, none, none, none, some 0, some 1, some 2, some 3, some 4, some 5, some 6, some 7, none, none, none, none, none, none, none, none, none, none, none, none, none, none, none, none, none, none, none, none, none, none, none, none, none, none, none] rfl rfl hk hP1
          have e9 := Option.some.inj hf
          exact rt_i hx hb hr hlocks (fst_e e9) (rtP (P := fun z => va_P E.1 vwCl ((wX7o E a0 a1 a2 a3 a4 a5 a6 a7 a8 a9 s0 ++ (wX2 E a1 s1 h1 ++ (wX2 E a2 s2 h2 ++ (wX1 E a3 z.2 ++ (wX2 E a4 s4 h4 ++ (wX1 E a5 s5 ++ (wX5 E a6 s6 ++ (wX3 E a7 s7 ++ (wX0 E a8 s8 ++ (wX6 E a9 s9 t9)))))))))) ++ sW E.2.1 L) H) e9 hP) hS dX7_see_65
        · have hf := ite_f c_49 hf
          refine lv_bipush (v := (-4)) hx hb dX7_see_52 (by decide) ?_
          have e9 := Option.some.inj hf
          exact rt_i hx hb hr hlocks (fst_e e9) (rtP (P := fun z => va_P E.1 vwCl ((wX7o E a0 a1 a2 a3 a4 a5 a6 a7 a8 a9 s0 ++ (wX2 E a1 s1 h1 ++ (wX2 E a2 s2 h2 ++ (wX1 E a3 z.2 ++ (wX2 E a4 s4 h4 ++ (wX1 E a5 s5 ++ (wX5 E a6 s6 ++ (wX3 E a7 s7 ++ (wX0 E a8 s8 ++ (wX6 E a9 s9 t9)))))))))) ++ sW E.2.1 L) H) e9 hP) hS dX7_see_54
      · have hf := ite_t c_35 hf
        refine lv_bipush (v := (-2)) hx hb dX7_see_38 (by decide) ?_
        have e9 := Option.some.inj hf
        exact rt_i hx hb hr hlocks (fst_e e9) (rtP (P := fun z => va_P E.1 vwCl ((wX7o E a0 a1 a2 a3 a4 a5 a6 a7 a8 a9 s0 ++ (wX2 E a1 s1 h1 ++ (wX2 E a2 s2 h2 ++ (wX1 E a3 z.2 ++ (wX2 E a4 s4 h4 ++ (wX1 E a5 s5 ++ (wX5 E a6 s6 ++ (wX3 E a7 s7 ++ (wX0 E a8 s8 ++ (wX6 E a9 s9 t9)))))))))) ++ sW E.2.1 L) H) e9 hP) hS dX7_see_40
    · have hf := ite_t c_23 hf
      refine lv_iconst (v := (-1)) hx hb dX7_see_26 (by decide) ?_
      have e9 := Option.some.inj hf
      exact rt_i hx hb hr hlocks (fst_e e9) (rtP (P := fun z => va_P E.1 vwCl ((wX7o E a0 a1 a2 a3 a4 a5 a6 a7 a8 a9 s0 ++ (wX2 E a1 s1 h1 ++ (wX2 E a2 s2 h2 ++ (wX1 E a3 z.2 ++ (wX2 E a4 s4 h4 ++ (wX1 E a5 s5 ++ (wX5 E a6 s6 ++ (wX3 E a7 s7 ++ (wX0 E a8 s8 ++ (wX6 E a9 s9 t9)))))))))) ++ sW E.2.1 L) H) e9 hP) hS dX7_see_27
  · have hf := ite_t c_2 hf
    refine lv_aload_n hx hb dX7_see_5 rfl (lv_at hl 0 rfl) ?_
    refine va_get (ci := 7) (C := RX7) (T := TX7) (N := 11) (v := .ref (a3 0)) hx hb hts i_X7_see_X7 hown hK hP 0 rfl rfl 2 (by decide) (hts _ m_X7_see_6a5209) (fun _ h9 => h9) rfl dX7_see_6 ?_
    refine lv_iconst (v := 0) hx hb dX7_see_9 (by decide) ?_
    refine va_putN (ci := 1) (v := .int 0) (ty := .int) (C := RX1) (T := TX1) (N := 10) hx hb hts i_X7_see_X1 tyX1 tyX1_ok nmX1 hown hK hP (hDD s0 s1 h1 s2 h2 s3 s4 h4 s5 s6 s7 s8 s9 t9) hS 15 rfl rfl 3 (by decide) (nwG hG (w := .fieldLinkNest "PickedMatch" 206 "PickedMatch$Notes" "seenCount" "I" "PickedMatch") (by decide +kernel)) (fun _ h9 => h9) rfl (by decide +kernel) rfl rfl (Nat.le_of_ble_eq_true rfl) dX7_see_10 (fun H locs hP _ hS => ?_)
    obtain ⟨s3_10, hP, hf⟩ := nm_st' (P := fun z => va_P E.1 vwCl ((wX7o E a0 a1 a2 a3 a4 a5 a6 a7 a8 a9 s0 ++ (wX2 E a1 s1 h1 ++ (wX2 E a2 s2 h2 ++ (wX1 E a3 z ++ (wX2 E a4 s4 h4 ++ (wX1 E a5 s5 ++ (wX5 E a6 s6 ++ (wX3 E a7 s7 ++ (wX0 E a8 s8 ++ (wX6 E a9 s9 t9)))))))))) ++ sW E.2.1 L) H) hf hP
    refine lv_iconst (v := 0) hx hb dX7_see_13 (by decide) ?_
    have e9 := Option.some.inj hf
    exact rt_i hx hb hr hlocks (fst_e e9) (rtP (P := fun z => va_P E.1 vwCl ((wX7o E a0 a1 a2 a3 a4 a5 a6 a7 a8 a9 s0 ++ (wX2 E a1 s1 h1 ++ (wX2 E a2 s2 h2 ++ (wX1 E a3 z.2 ++ (wX2 E a4 s4 h4 ++ (wX1 E a5 s5 ++ (wX5 E a6 s6 ++ (wX3 E a7 s7 ++ (wX0 E a8 s8 ++ (wX6 E a9 s9 t9)))))))))) ++ sW E.2.1 L) H) e9 hP) hS dX7_see_14
abbrev rm_X7_marked : Room := { frames := 6, cells := 0, slots := 0, locals := 139 }
theorem m_X7_marked_5dfb42 : Cond.fieldLink RX7 18 "PickedMatch" "trial" "LPickedMatch$Scene;" ∈ wsX7_marked := by decide +kernel
theorem i_X7_marked_X7 : ∀ w ∈ wsX70, w ∈ wsX7_marked := fun _ h => List.mem_cons_of_mem _ (List.mem_append_left _ (List.mem_append_left _ (List.mem_append_left _ (List.mem_append_right _ h))))
theorem m_X7_marked_265b14 : Cond.fieldLink RX7 12 "PickedMatch" "scene" "LPickedMatch$Scene;" ∈ wsX7_marked := by decide +kernel
theorem m_X7_marked_4cf9d8 : Cond.initialized RX2 ∈ wsX7_marked := by decide +kernel
theorem m_X7_marked_c21ce8 : Cond.instanceMethod yX2_becomeAs ∈ wsX7_marked := by decide +kernel
theorem m_X7_marked_986579 : Cond.selects RX2 yX2_becomeAs yX2_becomeAs ∈ wsX7_marked := by decide +kernel
theorem i_X7_marked_X2 : ∀ w ∈ wsX20, w ∈ wsX7_marked := fun _ h => List.mem_cons_of_mem _ (List.mem_append_left _ (List.mem_append_left _ (List.mem_append_right _ h)))
theorem m_X7_marked_6a5209 : Cond.fieldLink RX7 24 "PickedMatch" "notes" "LPickedMatch$Notes;" ∈ wsX7_marked := by decide +kernel
theorem m_X7_marked_6e074f : Cond.initialized RX1 ∈ wsX7_marked := by decide +kernel
theorem m_X7_marked_a5feb1 : Cond.instanceMethod yX1_isAllSeen ∈ wsX7_marked := by decide +kernel
theorem m_X7_marked_85aea1 : Cond.selects RX1 yX1_isAllSeen yX1_isAllSeen ∈ wsX7_marked := by decide +kernel
theorem m_X7_marked_0211d8 : Cond.instanceMethod yX2_hasThing ∈ wsX7_marked := by decide +kernel
theorem m_X7_marked_6099ba : Cond.selects RX2 yX2_hasThing yX2_hasThing ∈ wsX7_marked := by decide +kernel
set_option maxHeartbeats 8000000 in
set_option maxRecDepth 100000 in
theorem k_X7_marked (l : Launch) (E : Ev) (a0 : Nat → Nat) (a1 : Nat → Nat) (a2 : Nat → Nat) (a3 : Nat → Nat) (a4 : Nat → Nat) (a5 : Nat → Nat) (a6 : Nat → Nat) (a7 : Nat → Nat) (a8 : Nat → Nat) (a9 : Nat → Nat) (L : List SR) (N : Nat) (s0 : St) (s1 : St) (h1 : Option SR) (s2 : St) (h2 : Option SR) (s3 : St) (s4 : St) (h4 : Option SR) (s5 : St) (s6 : St) (s7 : St) (s8 : St) (s9 : St) (t9 : Nat → Nat → Int64) (p1 : Int32) (p2 : Int32) (q : (Int32 × St × (Option SR))) (hf : f_X7_marked N L s1 h1 s2 h2 s3 p1 p2 = some q) : Ci l yX7_marked wsX7_marked rm_X7_marked E [.ref (a0 0), .int p1, .int p2] ((wX7o E a0 a1 a2 a3 a4 a5 a6 a7 a8 a9 s0 ++ (wX2 E a1 s1 h1 ++ (wX2 E a2 s2 h2 ++ (wX1 E a3 s3 ++ (wX2 E a4 s4 h4 ++ (wX1 E a5 s5 ++ (wX5 E a6 s6 ++ (wX3 E a7 s7 ++ (wX0 E a8 s8 ++ (wX6 E a9 s9 t9)))))))))) ++ sW E.2.1 L) ((wX7o E a0 a1 a2 a3 a4 a5 a6 a7 a8 a9 s0 ++ (wX2 E a1 s1 h1 ++ (wX2 E a2 q.2.1 q.2.2 ++ (wX1 E a3 s3 ++ (wX2 E a4 s4 h4 ++ (wX1 E a5 s5 ++ (wX5 E a6 s6 ++ (wX3 E a7 s7 ++ (wX0 E a8 s8 ++ (wX6 E a9 s9 t9)))))))))) ++ sW E.2.1 L) q.1 := by
  unfold f_X7_marked at hf
  intro sz
  refine Met.ofW (cc := cX7_marked) (maxL := 6) (ret := (some .int)) (by decide) rfl ?_
  intro p e s m args below meth c s₁ B hml hpre
  obtain ⟨rfl, hsz, hP, hK, hD0, hG, hA, hAB⟩ := start hpre
  have hx := B.exec
  have hb := B.bytes
  have hr := B.returns
  have hts := atoms_spec (ws := wsX7_marked) B.pre
  have hown : s.vm.findClass RX7 = some m.cls := findClass_of_methodNamed B.named
  have hlocks := B.notSynchronized
  subst hsz
  generalize va_A ((wX7o E a0 a1 a2 a3 a4 a5 a6 a7 a8 a9 s0 ++ (wX2 E a1 s1 h1 ++ (wX2 E a2 s2 h2 ++ (wX1 E a3 s3 ++ (wX2 E a4 s4 h4 ++ (wX1 E a5 s5 ++ (wX5 E a6 s6 ++ (wX3 E a7 s7 ++ (wX0 E a8 s8 ++ (wX6 E a9 s9 t9)))))))))) ++ sW E.2.1 L) s.heap.size = A0 at hD0 hA hAB ⊢
  have hDD : ∀ (s0 : St) (s1 : St) (h1 : Option SR) (s2 : St) (h2 : Option SR) (s3 : St) (s4 : St) (h4 : Option SR) (s5 : St) (s6 : St) (s7 : St) (s8 : St) (s9 : St) (t9 : Nat → Nat → Int64), va_D A0 ((wX7o E a0 a1 a2 a3 a4 a5 a6 a7 a8 a9 s0 ++ (wX2 E a1 s1 h1 ++ (wX2 E a2 s2 h2 ++ (wX1 E a3 s3 ++ (wX2 E a4 s4 h4 ++ (wX1 E a5 s5 ++ (wX5 E a6 s6 ++ (wX3 E a7 s7 ++ (wX0 E a8 s8 ++ (wX6 E a9 s9 t9)))))))))) ++ sW E.2.1 L) := fun s0 s1 h1 s2 h2 s3 s4 h4 s5 s6 s7 s8 s9 t9 => vD_addr hD0 rfl
  have hS : va_S A0 s.heap s.heap [] := va_S.rf
  have hl := lv_entry ([.ref (a0 0), .int p1, .int p2]) (n := 6) (Nat.le_of_ble_eq_true rfl)
  rw [lg_entry_eq]
  generalize (lg_sl ([.ref (a0 0), .int p1, .int p2]) ++ List.replicate (6 - (lg_sl ([.ref (a0 0), .int p1, .int p2])).length) Slot.unset).toArray = ls at hl ⊢
  have hl : lv_has ls 6 [(0, .ref (a0 0)), (1, .int p1), (2, .int p2)] := hl
  have hL_31 : ∀ (s1 : St) (h1 : Option SR) (s3 : St) (v1 : Int32) (v2 : Int32) (n_31 : Nat) (s2 : St) (h2 : Option SR) (v3 : Int32) (v4 : Int32) (v5 : Int32), l_X7_marked_31 N L s1 h1 s3 v1 v2 n_31 s2 h2 v3 v4 v5 = some q → ∀ (H : Heap) (locs : List Loc) (ls : Array Slot), va_P E.1 vwCl ((wX7o E a0 a1 a2 a3 a4 a5 a6 a7 a8 a9 s0 ++ (wX2 E a1 s1 h1 ++ (wX2 E a2 s2 h2 ++ (wX1 E a3 s3 ++ (wX2 E a4 s4 h4 ++ (wX1 E a5 s5 ++ (wX5 E a6 s6 ++ (wX3 E a7 s7 ++ (wX0 E a8 s8 ++ (wX6 E a9 s9 t9)))))))))) ++ sW E.2.1 L) H → va_S A0 s.heap H locs → lv_has ls 6 [(0, .ref (a0 0)), (1, .int v1), (2, .int v2), (3, .int v3), (4, .int v4), (5, .int v5)] → W p l e rm_X7_marked s m ([.ref (a0 0), .int p1, .int p2] : List Value).toArray below meth c H locs 0 0 (MQ below (va_Qi (fun (r' : Int32) (_ : Unit) => r' = q.1) (fun _ t => va_P E.1 vwCl ((wX7o E a0 a1 a2 a3 a4 a5 a6 a7 a8 a9 s0 ++ (wX2 E a1 s1 h1 ++ (wX2 E a2 q.2.1 q.2.2 ++ (wX1 E a3 s3 ++ (wX2 E a4 s4 h4 ++ (wX1 E a5 s5 ++ (wX5 E a6 s6 ++ (wX3 E a7 s7 ++ (wX0 E a8 s8 ++ (wX6 E a9 s9 t9)))))))))) ++ sW E.2.1 L) t.heap) A0) ([.ref (a0 0), .int p1, .int p2] : List Value).toArray s 0 0 A0) (F0 m 31 ls []) := by
    intro s1 h1 s3 v1 v2 n_31
    induction n_31 with
    | zero => intro s2 h2 v3 v4 v5 hf; rw [l_X7_marked_31] at hf; cases hf
    | succ n_31 ih_31 =>
      intro s2 h2 v3 v4 v5 hf H locs ls hP hS hl
      rw [l_X7_marked_31] at hf
      refine lv_iload hx hb dX7_marked_31 (lv_at hl 5 rfl) ?_
      refine lv_sipush (v := 255) hx hb dX7_marked_33 (by decide) ?_
      refine lv_icmp_gt (tgt := 97) hx hb dX7_marked_36 (by decide) (fun c_36 => ?_) (fun c_36 => ?_)
      · have hf := ite_t c_36 hf
        refine lv_iload_n hx hb dX7_marked_97 rfl (lv_at hl 2 rfl) ?_
        refine lv_if_ne (tgt := 105) hx hb dX7_marked_98 (by decide) (fun c_98 => ?_) (fun c_98 => ?_)
        · have hf := ite_f c_98 hf
          refine lv_iload hx hb dX7_marked_105 (lv_at hl 4 rfl) ?_
          have e9 := Option.some.inj hf
          exact rt_i hx hb hr hlocks (fst_e e9) (rtP (P := fun z => va_P E.1 vwCl ((wX7o E a0 a1 a2 a3 a4 a5 a6 a7 a8 a9 s0 ++ (wX2 E a1 s1 h1 ++ (wX2 E a2 z.2.1 z.2.2 ++ (wX1 E a3 s3 ++ (wX2 E a4 s4 h4 ++ (wX1 E a5 s5 ++ (wX5 E a6 s6 ++ (wX3 E a7 s7 ++ (wX0 E a8 s8 ++ (wX6 E a9 s9 t9)))))))))) ++ sW E.2.1 L) H) e9 hP) hS dX7_marked_107
        · have hf := ite_t c_98 hf
          refine lv_iload_n hx hb dX7_marked_101 rfl (lv_at hl 3 rfl) ?_
          refine lv_goto (tgt := 107) hx hb dX7_marked_102 (by decide) ?_
          have e9 := Option.some.inj hf
          exact rt_i hx hb hr hlocks (fst_e e9) (rtP (P := fun z => va_P E.1 vwCl ((wX7o E a0 a1 a2 a3 a4 a5 a6 a7 a8 a9 s0 ++ (wX2 E a1 s1 h1 ++ (wX2 E a2 z.2.1 z.2.2 ++ (wX1 E a3 s3 ++ (wX2 E a4 s4 h4 ++ (wX1 E a5 s5 ++ (wX5 E a6 s6 ++ (wX3 E a7 s7 ++ (wX0 E a8 s8 ++ (wX6 E a9 s9 t9)))))))))) ++ sW E.2.1 L) H) e9 hP) hS dX7_marked_107
      · have hf := ite_f c_36 hf
        refine lv_aload_n hx hb dX7_marked_39 rfl (lv_at hl 0 rfl) ?_
        refine va_get (ci := 7) (C := RX7) (T := TX7) (N := 11) (v := .ref (a2 0)) hx hb hts i_X7_marked_X7 hown hK hP 0 rfl rfl 1 (by decide) (hts _ m_X7_marked_5dfb42) (fun _ h9 => h9) rfl dX7_marked_40 ?_
        refine lv_aload_n hx hb dX7_marked_43 rfl (lv_at hl 0 rfl) ?_
        refine va_get (ci := 7) (C := RX7) (T := TX7) (N := 11) (v := .ref (a1 0)) hx hb hts i_X7_marked_X7 hown hK hP 0 rfl rfl 0 (by decide) (hts _ m_X7_marked_265b14) (fun _ h9 => h9) rfl dX7_marked_44 ?_
        obtain ⟨q47, hc_47, hf⟩ := cl_e hf
        have hm_47 : ∀ q ∈ (wX2 E a2 s2 h2 ++ (wX2 E a1 s1 h1)) ++ sW E.2.1 L, q ∈ (wX7o E a0 a1 a2 a3 a4 a5 a6 a7 a8 a9 s0 ++ (wX2 E a1 s1 h1 ++ (wX2 E a2 s2 h2 ++ (wX1 E a3 s3 ++ (wX2 E a4 s4 h4 ++ (wX1 E a5 s5 ++ (wX5 E a6 s6 ++ (wX3 E a7 s7 ++ (wX0 E a8 s8 ++ (wX6 E a9 s9 t9)))))))))) ++ sW E.2.1 L := (app_mem (sub_mem (suf := []) [8, 9, 10, 11, 12, 13, 14, 1, 2, 3, 4, 5, 6, 7] rfl))
        refine fin_v (E := E) (wc := (wX2 E a2 s2 h2 ++ (wX2 E a1 s1 h1)) ++ sW E.2.1 L) (wc' := (wX2 E a2 q47.1 q47.2 ++ (wX2 E a1 s1 h1)) ++ sW E.2.1 L) (va_runVN (As := [.ref (a1 0)]) (rest := []) ⟨hx, hb, hml, hown, hts⟩ (k_X2_becomeAs l E a2 a1 L N s2 h2 s1 h1 q47 hc_47 _) ⟨va_cnB 1 hts gX7_marked_X2_becomeAs_n179 rfl rfl rfl (hG.1 (.methodLinkNest "PickedMatch" 179 yX2_becomeAs "PickedMatch") (by decide +kernel)) (hts _ m_X7_marked_4cf9d8) (by decide +kernel) ⟨(Nat.le_of_ble_eq_true rfl), (Nat.le_of_ble_eq_true rfl)⟩, (hts _ m_X7_marked_c21ce8), (hts _ m_X7_marked_986579)⟩ (pre_v (ci := 2) (q0 := 0) hK (sub_P hm_47 hP) (sub_Ds (wc := wX2 E a2 s2 h2 ++ (wX2 E a1 s1 h1)) [8, 9, 10, 11, 12, 13, 14, 1, 2, 3, 4, 5, 6, 7] (by decide) rfl (hDD s0 s1 h1 s2 h2 s3 s4 h4 s5 s6 s7 s8 s9 t9)) hS hG hAB rfl rfl) rfl rfl hl.1 rfl (lv_room (Nat.le_of_ble_eq_true rfl)) dX7_marked_47 ⟨Nat.zero_le _, Nat.zero_le _⟩) hS (w_free (hDD s0 s1 h1 s2 h2 s3 s4 h4 s5 s6 s7 s8 s9 t9) hS hA hm_47) (fun H locs hP1 hk hS => ?_)
        have hP := w_joins (ws' := wX7o E a0 a1 a2 a3 a4 a5 a6 a7 a8 a9 s0 ++ (wX2 E a1 s1 h1 ++ (wX2 E a2 q47.1 q47.2 ++ (wX1 E a3 s3 ++ (wX2 E a4 s4 h4 ++ (wX1 E a5 s5 ++ (wX5 E a6 s6 ++ (wX3 E a7 s7 ++ (wX0 E a8 s8 ++ (wX6 E a9 s9 t9)))))))))) (wc := wX2 E a2 s2 h2 ++ (wX2 E a1 s1 h1)) (wc' := wX2 E a2 q47.1 q47.2 ++ (wX2 E a1 s1 h1)) hP (hDD s0 s1 h1 s2 h2 s3 s4 h4 s5 s6 s7 s8 s9 t9) [8, 9, 10, 11, 12, 13, 14, 1, 2, 3, 4, 5, 6, 7] rfl [none, some 7, some 8, some 9, some 10, some 11, some 12, some 13, some 0, some 1, some 2, some 3, some 4, some 5, some 6, none, none, none, none, none, none, none, none, none, none, none, none, none, none, none, none, none, none, none, none, none, none, none, none, none, none, none, none, none, none, none, none, none, none, none] rfl rfl hk hP1
        refine lv_aload_n hx hb dX7_marked_50 rfl (lv_at hl 0 rfl) ?_
        refine va_get (ci := 7) (C := RX7) (T := TX7) (N := 11) (v := .ref (a2 0)) hx hb hts i_X7_marked_X7 hown hK hP 0 rfl rfl 1 (by decide) (hts _ m_X7_marked_5dfb42) (fun _ h9 => h9) rfl dX7_marked_51 ?_
        refine va_getN (ci := 2) (C := RX2) (T := TX2) (N := 11) (v := .ref (a2 3)) hx hb hts i_X7_marked_X2 hown hK hP 8 rfl rfl 3 (by decide) (nwG hG (w := .fieldLinkNest "PickedMatch" 85 "PickedMatch$Scene" "marks" "[I" "PickedMatch") (by decide +kernel)) (fun _ h9 => h9) rfl dX7_marked_54 ?_
        refine lv_iload_n hx hb dX7_marked_57 rfl (lv_at hl 1 rfl) ?_
        refine lv_iload hx hb dX7_marked_58 (lv_at hl 5 rfl) ?_
        obtain ⟨h_60, hf⟩ := ck_e hf
        refine va_iast (cA := E.2.1) (n := 6) (f := q47.1 3) (x := v5) hx hb hK hP (hDD s0 s1 h1 q47.1 q47.2 s3 s4 h4 s5 s6 s7 s8 s9 t9) hS 11 0 rfl rfl h_60 dX7_marked_60 (fun H locs hP _ hS => ?_)
        obtain ⟨s2_60, hP, hf⟩ := nm_st' (P := fun z => va_P E.1 vwCl ((wX7o E a0 a1 a2 a3 a4 a5 a6 a7 a8 a9 s0 ++ (wX2 E a1 s1 h1 ++ (wX2 E a2 z q47.2 ++ (wX1 E a3 s3 ++ (wX2 E a4 s4 h4 ++ (wX1 E a5 s5 ++ (wX5 E a6 s6 ++ (wX3 E a7 s7 ++ (wX0 E a8 s8 ++ (wX6 E a9 s9 t9)))))))))) ++ sW E.2.1 L) H) hf hP
        refine lv_aload_n hx hb dX7_marked_61 rfl (lv_at hl 0 rfl) ?_
        refine va_get (ci := 7) (C := RX7) (T := TX7) (N := 11) (v := .ref (a3 0)) hx hb hts i_X7_marked_X7 hown hK hP 0 rfl rfl 2 (by decide) (hts _ m_X7_marked_6a5209) (fun _ h9 => h9) rfl dX7_marked_62 ?_
        refine lv_aload_n hx hb dX7_marked_65 rfl (lv_at hl 0 rfl) ?_
        refine va_get (ci := 7) (C := RX7) (T := TX7) (N := 11) (v := .ref (a2 0)) hx hb hts i_X7_marked_X7 hown hK hP 0 rfl rfl 1 (by decide) (hts _ m_X7_marked_5dfb42) (fun _ h9 => h9) rfl dX7_marked_66 ?_
        obtain ⟨q69, hc_69, hf⟩ := cl_e hf
        have hm_69 : ∀ q ∈ (wX1 E a3 s3 ++ (wX2 E a2 s2_60 q47.2)) ++ sW E.2.1 L, q ∈ (wX7o E a0 a1 a2 a3 a4 a5 a6 a7 a8 a9 s0 ++ (wX2 E a1 s1 h1 ++ (wX2 E a2 s2_60 q47.2 ++ (wX1 E a3 s3 ++ (wX2 E a4 s4 h4 ++ (wX1 E a5 s5 ++ (wX5 E a6 s6 ++ (wX3 E a7 s7 ++ (wX0 E a8 s8 ++ (wX6 E a9 s9 t9)))))))))) ++ sW E.2.1 L := (app_mem (sub_mem (suf := []) [15, 16, 17, 18, 19, 20, 21, 22, 8, 9, 10, 11, 12, 13, 14] rfl))
        refine fin_i (E := E) (wc := (wX1 E a3 s3 ++ (wX2 E a2 s2_60 q47.2)) ++ sW E.2.1 L) (wc' := (wX1 E a3 s3 ++ (wX2 E a2 q69.2 q47.2)) ++ sW E.2.1 L) (va_runVN (As := [.ref (a2 0)]) (rest := []) ⟨hx, hb, hml, hown, hts⟩ (k_X1_isAllSeen l E a3 a2 L N s3 s2_60 q47.2 q69 hc_69 _) ⟨va_cnB 1 hts gX7_marked_X1_isAllSeen_n213 rfl rfl rfl (hG.1 (.methodLinkNest "PickedMatch" 213 yX1_isAllSeen "PickedMatch") (by decide +kernel)) (hts _ m_X7_marked_6e074f) (by decide +kernel) ⟨(Nat.le_of_ble_eq_true rfl), (Nat.le_of_ble_eq_true rfl)⟩, (hts _ m_X7_marked_a5feb1), (hts _ m_X7_marked_85aea1)⟩ (pre_v (ci := 1) (q0 := 0) hK (sub_P hm_69 hP) (sub_Ds (wc := wX1 E a3 s3 ++ (wX2 E a2 s2_60 q47.2)) [15, 16, 17, 18, 19, 20, 21, 22, 8, 9, 10, 11, 12, 13, 14] (by decide) rfl (hDD s0 s1 h1 s2_60 q47.2 s3 s4 h4 s5 s6 s7 s8 s9 t9)) hS hG hAB rfl rfl) rfl rfl hl.1 rfl (lv_room (Nat.le_of_ble_eq_true rfl)) dX7_marked_69 ⟨Nat.zero_le _, Nat.zero_le _⟩) hS (w_free (hDD s0 s1 h1 s2_60 q47.2 s3 s4 h4 s5 s6 s7 s8 s9 t9) hS hA hm_69) (fun H locs hP1 hk hS => ?_)
        have hP := w_joins (ws' := wX7o E a0 a1 a2 a3 a4 a5 a6 a7 a8 a9 s0 ++ (wX2 E a1 s1 h1 ++ (wX2 E a2 q69.2 q47.2 ++ (wX1 E a3 s3 ++ (wX2 E a4 s4 h4 ++ (wX1 E a5 s5 ++ (wX5 E a6 s6 ++ (wX3 E a7 s7 ++ (wX0 E a8 s8 ++ (wX6 E a9 s9 t9)))))))))) (wc := wX1 E a3 s3 ++ (wX2 E a2 s2_60 q47.2)) (wc' := wX1 E a3 s3 ++ (wX2 E a2 q69.2 q47.2)) hP (hDD s0 s1 h1 s2_60 q47.2 s3 s4 h4 s5 s6 s7 s8 s9 t9) [15, 16, 17, 18, 19, 20, 21, 22, 8, 9, 10, 11, 12, 13, 14] rfl [none, none, none, none, none, none, none, none, some 8, some 9, some 10, some 11, some 12, some 13, some 14, some 0, some 1, some 2, some 3, some 4, some 5, some 6, some 7, none, none, none, none, none, none, none, none, none, none, none, none, none, none, none, none, none, none, none, none, none, none, none, none, none, none, none] rfl rfl hk hP1
        refine lv_if_eq (tgt := 91) hx hb dX7_marked_72 (by decide) (fun c_72 => ?_) (fun c_72 => ?_)
        · have hf := ite_t c_72 hf
          obtain ⟨x91, e_x91⟩ : ∃ y : Int32, y = v5 + 1 := ⟨_, rfl⟩
          have hf := nm_q e_x91 hf
          refine lv_iinc (v := x91) (lv' := [(5, .int x91), (0, .ref (a0 0)), (1, .int v1), (2, .int v2), (3, .int v3), (4, .int v4)]) hx hb dX7_marked_91 hl (k := 5) rfl (by rw [e_x91]; rfl) (Nat.le_of_ble_eq_true rfl) rfl (fun ls hl => ?_)
          refine lv_goto (tgt := 31) hx hb dX7_marked_94 (by decide) ?_
          exact ih_31 q69.2 q47.2 v3 v4 x91 hf _ _ _ hP hS (lv_sub hl [1, 2, 3, 4, 5, 0] rfl)
        · have hf := ite_f c_72 hf
          refine lv_iload_n hx hb dX7_marked_75 rfl (lv_at hl 3 rfl) ?_
          refine lv_if_ne (tgt := 84) hx hb dX7_marked_76 (by decide) (fun c_76 => ?_) (fun c_76 => ?_)
          · have hf := ite_f c_76 hf
            refine lv_iload hx hb dX7_marked_84 (lv_at hl 4 rfl) ?_
            refine lv_istore (lv' := [(4, .int v4), (0, .ref (a0 0)), (1, .int v1), (2, .int v2), (3, .int v3), (5, .int v5)]) hx hb dX7_marked_86 hl (Nat.le_of_ble_eq_true rfl) rfl (fun ls hl => ?_)
            obtain ⟨x88, e_x88⟩ : ∃ y : Int32, y = v3 + 1 := ⟨_, rfl⟩
            have hf := nm_q e_x88 hf
            refine lv_iinc (v := x88) (lv' := [(3, .int x88), (4, .int v4), (0, .ref (a0 0)), (1, .int v1), (2, .int v2), (5, .int v5)]) hx hb dX7_marked_88 hl (k := 4) rfl (by rw [e_x88]; rfl) (Nat.le_of_ble_eq_true rfl) rfl (fun ls hl => ?_)
            obtain ⟨x91, e_x91⟩ : ∃ y : Int32, y = v5 + 1 := ⟨_, rfl⟩
            have hf := nm_q e_x91 hf
            refine lv_iinc (v := x91) (lv' := [(5, .int x91), (3, .int x88), (4, .int v4), (0, .ref (a0 0)), (1, .int v1), (2, .int v2)]) hx hb dX7_marked_91 hl (k := 5) rfl (by rw [e_x91]; rfl) (Nat.le_of_ble_eq_true rfl) rfl (fun ls hl => ?_)
            refine lv_goto (tgt := 31) hx hb dX7_marked_94 (by decide) ?_
            exact ih_31 q69.2 q47.2 x88 v4 x91 hf _ _ _ hP hS (lv_sub hl [3, 4, 5, 1, 2, 0] rfl)
          · have hf := ite_t c_76 hf
            refine lv_iload hx hb dX7_marked_79 (lv_at hl 5 rfl) ?_
            refine lv_goto (tgt := 86) hx hb dX7_marked_81 (by decide) ?_
            refine lv_istore (lv' := [(4, .int v5), (0, .ref (a0 0)), (1, .int v1), (2, .int v2), (3, .int v3), (5, .int v5)]) hx hb dX7_marked_86 hl (Nat.le_of_ble_eq_true rfl) rfl (fun ls hl => ?_)
            obtain ⟨x88, e_x88⟩ : ∃ y : Int32, y = v3 + 1 := ⟨_, rfl⟩
            have hf := nm_q e_x88 hf
            refine lv_iinc (v := x88) (lv' := [(3, .int x88), (4, .int v5), (0, .ref (a0 0)), (1, .int v1), (2, .int v2), (5, .int v5)]) hx hb dX7_marked_88 hl (k := 4) rfl (by rw [e_x88]; rfl) (Nat.le_of_ble_eq_true rfl) rfl (fun ls hl => ?_)
            obtain ⟨x91, e_x91⟩ : ∃ y : Int32, y = v5 + 1 := ⟨_, rfl⟩
            have hf := nm_q e_x91 hf
            refine lv_iinc (v := x91) (lv' := [(5, .int x91), (3, .int x88), (4, .int v5), (0, .ref (a0 0)), (1, .int v1), (2, .int v2)]) hx hb dX7_marked_91 hl (k := 5) rfl (by rw [e_x91]; rfl) (Nat.le_of_ble_eq_true rfl) rfl (fun ls hl => ?_)
            refine lv_goto (tgt := 31) hx hb dX7_marked_94 (by decide) ?_
            exact ih_31 q69.2 q47.2 x88 v5 x91 hf _ _ _ hP hS (lv_sub hl [3, 4, 5, 1, 2, 0] rfl)
  refine lv_aload_n hx hb dX7_marked_0 rfl (lv_at hl 0 rfl) ?_
  refine va_get (ci := 7) (C := RX7) (T := TX7) (N := 11) (v := .ref (a1 0)) hx hb hts i_X7_marked_X7 hown hK hP 0 rfl rfl 0 (by decide) (hts _ m_X7_marked_265b14) (fun _ h9 => h9) rfl dX7_marked_1 ?_
  refine lv_iload_n hx hb dX7_marked_4 rfl (lv_at hl 1 rfl) ?_
  obtain ⟨q5, hc_5, hf⟩ := cl_e hf
  have hm_5 : ∀ q ∈ (wX2 E a1 s1 h1) ++ sW E.2.1 L, q ∈ (wX7o E a0 a1 a2 a3 a4 a5 a6 a7 a8 a9 s0 ++ (wX2 E a1 s1 h1 ++ (wX2 E a2 s2 h2 ++ (wX1 E a3 s3 ++ (wX2 E a4 s4 h4 ++ (wX1 E a5 s5 ++ (wX5 E a6 s6 ++ (wX3 E a7 s7 ++ (wX0 E a8 s8 ++ (wX6 E a9 s9 t9)))))))))) ++ sW E.2.1 L := (app_mem (sub_mem (suf := []) [1, 2, 3, 4, 5, 6, 7] rfl))
  refine fin_i (E := E) (wc := (wX2 E a1 s1 h1) ++ sW E.2.1 L) (wc' := (wX2 E a1 s1 h1) ++ sW E.2.1 L) (va_runVN (As := [.int p1]) (rest := []) ⟨hx, hb, hml, hown, hts⟩ (k_X2_hasThing l E a1 L N s1 h1 p1 q5 hc_5 _) ⟨va_cnB 1 hts gX7_marked_X2_hasThing_n74 rfl rfl rfl (hG.1 (.methodLinkNest "PickedMatch" 74 yX2_hasThing "PickedMatch") (by decide +kernel)) (hts _ m_X7_marked_4cf9d8) (by decide +kernel) ⟨(Nat.le_of_ble_eq_true rfl), (Nat.le_of_ble_eq_true rfl)⟩, (hts _ m_X7_marked_0211d8), (hts _ m_X7_marked_6099ba)⟩ (pre_v (ci := 2) (q0 := 0) hK (sub_P hm_5 hP) (sub_Ds (wc := wX2 E a1 s1 h1) [1, 2, 3, 4, 5, 6, 7] (by decide) rfl (hDD s0 s1 h1 s2 h2 s3 s4 h4 s5 s6 s7 s8 s9 t9)) hS hG hAB rfl rfl) rfl rfl hl.1 rfl (lv_room (Nat.le_of_ble_eq_true rfl)) dX7_marked_5 ⟨Nat.zero_le _, Nat.zero_le _⟩) hS (w_free (hDD s0 s1 h1 s2 h2 s3 s4 h4 s5 s6 s7 s8 s9 t9) hS hA hm_5) (fun H locs hP1 hk hS => ?_)
  have hP := w_joins (ws' := wX7o E a0 a1 a2 a3 a4 a5 a6 a7 a8 a9 s0 ++ (wX2 E a1 s1 h1 ++ (wX2 E a2 s2 h2 ++ (wX1 E a3 s3 ++ (wX2 E a4 s4 h4 ++ (wX1 E a5 s5 ++ (wX5 E a6 s6 ++ (wX3 E a7 s7 ++ (wX0 E a8 s8 ++ (wX6 E a9 s9 t9)))))))))) (wc := wX2 E a1 s1 h1) (wc' := wX2 E a1 s1 h1) hP (hDD s0 s1 h1 s2 h2 s3 s4 h4 s5 s6 s7 s8 s9 t9) [1, 2, 3, 4, 5, 6, 7] rfl [none, some 0, some 1, some 2, some 3, some 4, some 5, some 6, none, none, none, none, none, none, none, none, none, none, none, none, none, none, none, none, none, none, none, none, none, none, none, none, none, none, none, none, none, none, none, none, none, none, none, none, none, none, none, none, none, none] rfl rfl hk hP1
  refine lv_if_eq (tgt := 20) hx hb dX7_marked_8 (by decide) (fun c_8 => ?_) (fun c_8 => ?_)
  · have hf := ite_t c_8 hf
    refine lv_iconst (v := (-1)) hx hb dX7_marked_20 (by decide) ?_
    have e9 := Option.some.inj hf
    exact rt_i hx hb hr hlocks (fst_e e9) (rtP (P := fun z => va_P E.1 vwCl ((wX7o E a0 a1 a2 a3 a4 a5 a6 a7 a8 a9 s0 ++ (wX2 E a1 s1 h1 ++ (wX2 E a2 z.2.1 z.2.2 ++ (wX1 E a3 s3 ++ (wX2 E a4 s4 h4 ++ (wX1 E a5 s5 ++ (wX5 E a6 s6 ++ (wX3 E a7 s7 ++ (wX0 E a8 s8 ++ (wX6 E a9 s9 t9)))))))))) ++ sW E.2.1 L) H) e9 hP) hS dX7_marked_21
  · have hf := ite_f c_8 hf
    refine lv_iload_n hx hb dX7_marked_11 rfl (lv_at hl 2 rfl) ?_
    refine lv_iconst (v := 0) hx hb dX7_marked_12 (by decide) ?_
    refine lv_iconst (v := 1) hx hb dX7_marked_13 (by decide) ?_
    obtain ⟨q14, hc_14, hf⟩ := cl_e hf
    refine fin_i (E := E) (wc := ([] : va_W)) (wc' := ([] : va_W)) (va_runS (As := [.int p2, .int 0, .int 1]) (rest := []) ⟨hx, hb, hml, hown, hts⟩ (k_X7_isWithin l E N p2 0 1 q14 hc_14 _) (va_cwS 3 hts gX7_marked_X7_isWithin rfl rfl rfl (by decide +kernel) ⟨(Nat.le_of_ble_eq_true rfl), (Nat.le_of_ble_eq_true rfl)⟩) (pre_s hK va_P_nil va_D_nil hS hG hAB) rfl rfl hl.1 rfl (lv_room (Nat.le_of_ble_eq_true rfl)) dX7_marked_14 ⟨Nat.zero_le _, Nat.zero_le _⟩) hS (free_nil hS hA) (fun H locs hP1 hk hS => ?_)
    have hP := w_kept0 hP hk
    refine lv_if_ne (tgt := 22) hx hb dX7_marked_17 (by decide) (fun c_17 => ?_) (fun c_17 => ?_)
    · have hf := ite_f c_17 hf
      refine lv_iconst (v := 0) hx hb dX7_marked_22 (by decide) ?_
      refine lv_istore_n (lv' := [(3, .int 0), (0, .ref (a0 0)), (1, .int p1), (2, .int p2)]) hx hb dX7_marked_23 rfl hl (Nat.le_of_ble_eq_true rfl) rfl (fun ls hl => ?_)
      refine lv_bipush (v := (-5)) hx hb dX7_marked_24 (by decide) ?_
      refine lv_topi (fun x26 e_x26 => ?_)
      have hf := nm_q e_x26 hf
      refine lv_istore (lv' := [(4, .int x26), (3, .int 0), (0, .ref (a0 0)), (1, .int p1), (2, .int p2)]) hx hb dX7_marked_26 hl (Nat.le_of_ble_eq_true rfl) rfl (fun ls hl => ?_)
      refine lv_iconst (v := 0) hx hb dX7_marked_28 (by decide) ?_
      refine lv_istore (lv' := [(5, .int 0), (4, .int x26), (3, .int 0), (0, .ref (a0 0)), (1, .int p1), (2, .int p2)]) hx hb dX7_marked_29 hl (Nat.le_of_ble_eq_true rfl) rfl (fun ls hl => ?_)
      exact hL_31 s1 h1 s3 p1 p2 N s2 h2 0 x26 0 hf _ _ _ hP hS (lv_sub hl [3, 4, 5, 2, 1, 0] rfl)
    · have hf := ite_t c_17 hf
      refine lv_iconst (v := (-1)) hx hb dX7_marked_20 (by decide) ?_
      have e9 := Option.some.inj hf
      exact rt_i hx hb hr hlocks (fst_e e9) (rtP (P := fun z => va_P E.1 vwCl ((wX7o E a0 a1 a2 a3 a4 a5 a6 a7 a8 a9 s0 ++ (wX2 E a1 s1 h1 ++ (wX2 E a2 z.2.1 z.2.2 ++ (wX1 E a3 s3 ++ (wX2 E a4 s4 h4 ++ (wX1 E a5 s5 ++ (wX5 E a6 s6 ++ (wX3 E a7 s7 ++ (wX0 E a8 s8 ++ (wX6 E a9 s9 t9)))))))))) ++ sW E.2.1 L) H) e9 hP) hS dX7_marked_21
abbrev rm_X7_can : Room := { frames := 6, cells := 0, slots := 0, locals := 139 }
theorem m_X7_can_5dfb42 : Cond.fieldLink RX7 18 "PickedMatch" "trial" "LPickedMatch$Scene;" ∈ wsX7_can := by decide +kernel
theorem i_X7_can_X7 : ∀ w ∈ wsX70, w ∈ wsX7_can := fun _ h => List.mem_cons_of_mem _ (List.mem_append_left _ (List.mem_append_left _ (List.mem_append_left _ (List.mem_append_right _ h))))
theorem m_X7_can_265b14 : Cond.fieldLink RX7 12 "PickedMatch" "scene" "LPickedMatch$Scene;" ∈ wsX7_can := by decide +kernel
theorem m_X7_can_4cf9d8 : Cond.initialized RX2 ∈ wsX7_can := by decide +kernel
theorem m_X7_can_c21ce8 : Cond.instanceMethod yX2_becomeAs ∈ wsX7_can := by decide +kernel
theorem m_X7_can_986579 : Cond.selects RX2 yX2_becomeAs yX2_becomeAs ∈ wsX7_can := by decide +kernel
theorem i_X7_can_X2 : ∀ w ∈ wsX20, w ∈ wsX7_can := fun _ h => List.mem_cons_of_mem _ (List.mem_append_left _ (List.mem_append_left _ (List.mem_append_right _ h)))
theorem m_X7_can_6a5209 : Cond.fieldLink RX7 24 "PickedMatch" "notes" "LPickedMatch$Notes;" ∈ wsX7_can := by decide +kernel
theorem m_X7_can_6e074f : Cond.initialized RX1 ∈ wsX7_can := by decide +kernel
theorem m_X7_can_a5feb1 : Cond.instanceMethod yX1_isAllSeen ∈ wsX7_can := by decide +kernel
theorem m_X7_can_85aea1 : Cond.selects RX1 yX1_isAllSeen yX1_isAllSeen ∈ wsX7_can := by decide +kernel
theorem m_X7_can_0211d8 : Cond.instanceMethod yX2_hasThing ∈ wsX7_can := by decide +kernel
theorem m_X7_can_6099ba : Cond.selects RX2 yX2_hasThing yX2_hasThing ∈ wsX7_can := by decide +kernel
set_option maxHeartbeats 8000000 in
set_option maxRecDepth 100000 in
theorem k_X7_can (l : Launch) (E : Ev) (a0 : Nat → Nat) (a1 : Nat → Nat) (a2 : Nat → Nat) (a3 : Nat → Nat) (a4 : Nat → Nat) (a5 : Nat → Nat) (a6 : Nat → Nat) (a7 : Nat → Nat) (a8 : Nat → Nat) (a9 : Nat → Nat) (L : List SR) (N : Nat) (s0 : St) (s1 : St) (h1 : Option SR) (s2 : St) (h2 : Option SR) (s3 : St) (s4 : St) (h4 : Option SR) (s5 : St) (s6 : St) (s7 : St) (s8 : St) (s9 : St) (t9 : Nat → Nat → Int64) (p1 : Int32) (p2 : Int32) (q : (Int32 × St × (Option SR))) (hf : f_X7_can N L s1 h1 s2 h2 s3 p1 p2 = some q) : Ci l yX7_can wsX7_can rm_X7_can E [.ref (a0 0), .int p1, .int p2] ((wX7o E a0 a1 a2 a3 a4 a5 a6 a7 a8 a9 s0 ++ (wX2 E a1 s1 h1 ++ (wX2 E a2 s2 h2 ++ (wX1 E a3 s3 ++ (wX2 E a4 s4 h4 ++ (wX1 E a5 s5 ++ (wX5 E a6 s6 ++ (wX3 E a7 s7 ++ (wX0 E a8 s8 ++ (wX6 E a9 s9 t9)))))))))) ++ sW E.2.1 L) ((wX7o E a0 a1 a2 a3 a4 a5 a6 a7 a8 a9 s0 ++ (wX2 E a1 s1 h1 ++ (wX2 E a2 q.2.1 q.2.2 ++ (wX1 E a3 s3 ++ (wX2 E a4 s4 h4 ++ (wX1 E a5 s5 ++ (wX5 E a6 s6 ++ (wX3 E a7 s7 ++ (wX0 E a8 s8 ++ (wX6 E a9 s9 t9)))))))))) ++ sW E.2.1 L) q.1 := by
  unfold f_X7_can at hf
  intro sz
  refine Met.ofW (cc := cX7_can) (maxL := 6) (ret := (some .int)) (by decide) rfl ?_
  intro p e s m args below meth c s₁ B hml hpre
  obtain ⟨rfl, hsz, hP, hK, hD0, hG, hA, hAB⟩ := start hpre
  have hx := B.exec
  have hb := B.bytes
  have hr := B.returns
  have hts := atoms_spec (ws := wsX7_can) B.pre
  have hown : s.vm.findClass RX7 = some m.cls := findClass_of_methodNamed B.named
  have hlocks := B.notSynchronized
  subst hsz
  generalize va_A ((wX7o E a0 a1 a2 a3 a4 a5 a6 a7 a8 a9 s0 ++ (wX2 E a1 s1 h1 ++ (wX2 E a2 s2 h2 ++ (wX1 E a3 s3 ++ (wX2 E a4 s4 h4 ++ (wX1 E a5 s5 ++ (wX5 E a6 s6 ++ (wX3 E a7 s7 ++ (wX0 E a8 s8 ++ (wX6 E a9 s9 t9)))))))))) ++ sW E.2.1 L) s.heap.size = A0 at hD0 hA hAB ⊢
  have hDD : ∀ (s0 : St) (s1 : St) (h1 : Option SR) (s2 : St) (h2 : Option SR) (s3 : St) (s4 : St) (h4 : Option SR) (s5 : St) (s6 : St) (s7 : St) (s8 : St) (s9 : St) (t9 : Nat → Nat → Int64), va_D A0 ((wX7o E a0 a1 a2 a3 a4 a5 a6 a7 a8 a9 s0 ++ (wX2 E a1 s1 h1 ++ (wX2 E a2 s2 h2 ++ (wX1 E a3 s3 ++ (wX2 E a4 s4 h4 ++ (wX1 E a5 s5 ++ (wX5 E a6 s6 ++ (wX3 E a7 s7 ++ (wX0 E a8 s8 ++ (wX6 E a9 s9 t9)))))))))) ++ sW E.2.1 L) := fun s0 s1 h1 s2 h2 s3 s4 h4 s5 s6 s7 s8 s9 t9 => vD_addr hD0 rfl
  have hS : va_S A0 s.heap s.heap [] := va_S.rf
  have hl := lv_entry ([.ref (a0 0), .int p1, .int p2]) (n := 6) (Nat.le_of_ble_eq_true rfl)
  rw [lg_entry_eq]
  generalize (lg_sl ([.ref (a0 0), .int p1, .int p2]) ++ List.replicate (6 - (lg_sl ([.ref (a0 0), .int p1, .int p2])).length) Slot.unset).toArray = ls at hl ⊢
  have hl : lv_has ls 6 [(0, .ref (a0 0)), (1, .int p1), (2, .int p2)] := hl
  have hL_31 : ∀ (s1 : St) (h1 : Option SR) (s3 : St) (v1 : Int32) (v2 : Int32) (n_31 : Nat) (s2 : St) (h2 : Option SR) (v3 : Int32) (v4 : Int32) (v5 : Int32), l_X7_can_31 N L s1 h1 s3 v1 v2 n_31 s2 h2 v3 v4 v5 = some q → ∀ (H : Heap) (locs : List Loc) (ls : Array Slot), va_P E.1 vwCl ((wX7o E a0 a1 a2 a3 a4 a5 a6 a7 a8 a9 s0 ++ (wX2 E a1 s1 h1 ++ (wX2 E a2 s2 h2 ++ (wX1 E a3 s3 ++ (wX2 E a4 s4 h4 ++ (wX1 E a5 s5 ++ (wX5 E a6 s6 ++ (wX3 E a7 s7 ++ (wX0 E a8 s8 ++ (wX6 E a9 s9 t9)))))))))) ++ sW E.2.1 L) H → va_S A0 s.heap H locs → lv_has ls 6 [(0, .ref (a0 0)), (1, .int v1), (2, .int v2), (3, .int v3), (4, .int v4), (5, .int v5)] → W p l e rm_X7_can s m ([.ref (a0 0), .int p1, .int p2] : List Value).toArray below meth c H locs 0 0 (MQ below (va_Qi (fun (r' : Int32) (_ : Unit) => r' = q.1) (fun _ t => va_P E.1 vwCl ((wX7o E a0 a1 a2 a3 a4 a5 a6 a7 a8 a9 s0 ++ (wX2 E a1 s1 h1 ++ (wX2 E a2 q.2.1 q.2.2 ++ (wX1 E a3 s3 ++ (wX2 E a4 s4 h4 ++ (wX1 E a5 s5 ++ (wX5 E a6 s6 ++ (wX3 E a7 s7 ++ (wX0 E a8 s8 ++ (wX6 E a9 s9 t9)))))))))) ++ sW E.2.1 L) t.heap) A0) ([.ref (a0 0), .int p1, .int p2] : List Value).toArray s 0 0 A0) (F0 m 31 ls []) := by
    intro s1 h1 s3 v1 v2 n_31
    induction n_31 with
    | zero => intro s2 h2 v3 v4 v5 hf; rw [l_X7_can_31] at hf; cases hf
    | succ n_31 ih_31 =>
      intro s2 h2 v3 v4 v5 hf H locs ls hP hS hl
      rw [l_X7_can_31] at hf
      refine lv_iload hx hb dX7_can_31 (lv_at hl 5 rfl) ?_
      refine lv_bipush (v := 9) hx hb dX7_can_33 (by decide) ?_
      refine lv_icmp_gt (tgt := 96) hx hb dX7_can_35 (by decide) (fun c_35 => ?_) (fun c_35 => ?_)
      · have hf := ite_t c_35 hf
        refine lv_iload_n hx hb dX7_can_96 rfl (lv_at hl 2 rfl) ?_
        refine lv_if_ne (tgt := 104) hx hb dX7_can_97 (by decide) (fun c_97 => ?_) (fun c_97 => ?_)
        · have hf := ite_f c_97 hf
          refine lv_iload hx hb dX7_can_104 (lv_at hl 4 rfl) ?_
          have e9 := Option.some.inj hf
          exact rt_i hx hb hr hlocks (fst_e e9) (rtP (P := fun z => va_P E.1 vwCl ((wX7o E a0 a1 a2 a3 a4 a5 a6 a7 a8 a9 s0 ++ (wX2 E a1 s1 h1 ++ (wX2 E a2 z.2.1 z.2.2 ++ (wX1 E a3 s3 ++ (wX2 E a4 s4 h4 ++ (wX1 E a5 s5 ++ (wX5 E a6 s6 ++ (wX3 E a7 s7 ++ (wX0 E a8 s8 ++ (wX6 E a9 s9 t9)))))))))) ++ sW E.2.1 L) H) e9 hP) hS dX7_can_106
        · have hf := ite_t c_97 hf
          refine lv_iload_n hx hb dX7_can_100 rfl (lv_at hl 3 rfl) ?_
          refine lv_goto (tgt := 106) hx hb dX7_can_101 (by decide) ?_
          have e9 := Option.some.inj hf
          exact rt_i hx hb hr hlocks (fst_e e9) (rtP (P := fun z => va_P E.1 vwCl ((wX7o E a0 a1 a2 a3 a4 a5 a6 a7 a8 a9 s0 ++ (wX2 E a1 s1 h1 ++ (wX2 E a2 z.2.1 z.2.2 ++ (wX1 E a3 s3 ++ (wX2 E a4 s4 h4 ++ (wX1 E a5 s5 ++ (wX5 E a6 s6 ++ (wX3 E a7 s7 ++ (wX0 E a8 s8 ++ (wX6 E a9 s9 t9)))))))))) ++ sW E.2.1 L) H) e9 hP) hS dX7_can_106
      · have hf := ite_f c_35 hf
        refine lv_aload_n hx hb dX7_can_38 rfl (lv_at hl 0 rfl) ?_
        refine va_get (ci := 7) (C := RX7) (T := TX7) (N := 11) (v := .ref (a2 0)) hx hb hts i_X7_can_X7 hown hK hP 0 rfl rfl 1 (by decide) (hts _ m_X7_can_5dfb42) (fun _ h9 => h9) rfl dX7_can_39 ?_
        refine lv_aload_n hx hb dX7_can_42 rfl (lv_at hl 0 rfl) ?_
        refine va_get (ci := 7) (C := RX7) (T := TX7) (N := 11) (v := .ref (a1 0)) hx hb hts i_X7_can_X7 hown hK hP 0 rfl rfl 0 (by decide) (hts _ m_X7_can_265b14) (fun _ h9 => h9) rfl dX7_can_43 ?_
        obtain ⟨q46, hc_46, hf⟩ := cl_e hf
        have hm_46 : ∀ q ∈ (wX2 E a2 s2 h2 ++ (wX2 E a1 s1 h1)) ++ sW E.2.1 L, q ∈ (wX7o E a0 a1 a2 a3 a4 a5 a6 a7 a8 a9 s0 ++ (wX2 E a1 s1 h1 ++ (wX2 E a2 s2 h2 ++ (wX1 E a3 s3 ++ (wX2 E a4 s4 h4 ++ (wX1 E a5 s5 ++ (wX5 E a6 s6 ++ (wX3 E a7 s7 ++ (wX0 E a8 s8 ++ (wX6 E a9 s9 t9)))))))))) ++ sW E.2.1 L := (app_mem (sub_mem (suf := []) [8, 9, 10, 11, 12, 13, 14, 1, 2, 3, 4, 5, 6, 7] rfl))
        refine fin_v (E := E) (wc := (wX2 E a2 s2 h2 ++ (wX2 E a1 s1 h1)) ++ sW E.2.1 L) (wc' := (wX2 E a2 q46.1 q46.2 ++ (wX2 E a1 s1 h1)) ++ sW E.2.1 L) (va_runVN (As := [.ref (a1 0)]) (rest := []) ⟨hx, hb, hml, hown, hts⟩ (k_X2_becomeAs l E a2 a1 L N s2 h2 s1 h1 q46 hc_46 _) ⟨va_cnB 1 hts gX7_can_X2_becomeAs_n179 rfl rfl rfl (hG.1 (.methodLinkNest "PickedMatch" 179 yX2_becomeAs "PickedMatch") (by decide +kernel)) (hts _ m_X7_can_4cf9d8) (by decide +kernel) ⟨(Nat.le_of_ble_eq_true rfl), (Nat.le_of_ble_eq_true rfl)⟩, (hts _ m_X7_can_c21ce8), (hts _ m_X7_can_986579)⟩ (pre_v (ci := 2) (q0 := 0) hK (sub_P hm_46 hP) (sub_Ds (wc := wX2 E a2 s2 h2 ++ (wX2 E a1 s1 h1)) [8, 9, 10, 11, 12, 13, 14, 1, 2, 3, 4, 5, 6, 7] (by decide) rfl (hDD s0 s1 h1 s2 h2 s3 s4 h4 s5 s6 s7 s8 s9 t9)) hS hG hAB rfl rfl) rfl rfl hl.1 rfl (lv_room (Nat.le_of_ble_eq_true rfl)) dX7_can_46 ⟨Nat.zero_le _, Nat.zero_le _⟩) hS (w_free (hDD s0 s1 h1 s2 h2 s3 s4 h4 s5 s6 s7 s8 s9 t9) hS hA hm_46) (fun H locs hP1 hk hS => ?_)
        have hP := w_joins (ws' := wX7o E a0 a1 a2 a3 a4 a5 a6 a7 a8 a9 s0 ++ (wX2 E a1 s1 h1 ++ (wX2 E a2 q46.1 q46.2 ++ (wX1 E a3 s3 ++ (wX2 E a4 s4 h4 ++ (wX1 E a5 s5 ++ (wX5 E a6 s6 ++ (wX3 E a7 s7 ++ (wX0 E a8 s8 ++ (wX6 E a9 s9 t9)))))))))) (wc := wX2 E a2 s2 h2 ++ (wX2 E a1 s1 h1)) (wc' := wX2 E a2 q46.1 q46.2 ++ (wX2 E a1 s1 h1)) hP (hDD s0 s1 h1 s2 h2 s3 s4 h4 s5 s6 s7 s8 s9 t9) [8, 9, 10, 11, 12, 13, 14, 1, 2, 3, 4, 5, 6, 7] rfl [none, some 7, some 8, some 9, some 10, some 11, some 12, some 13, some 0, some 1, some 2, some 3, some 4, some 5, some 6, none, none, none, none, none, none, none, none, none, none, none, none, none, none, none, none, none, none, none, none, none, none, none, none, none, none, none, none, none, none, none, none, none, none, none] rfl rfl hk hP1
        refine lv_aload_n hx hb dX7_can_49 rfl (lv_at hl 0 rfl) ?_
        refine va_get (ci := 7) (C := RX7) (T := TX7) (N := 11) (v := .ref (a2 0)) hx hb hts i_X7_can_X7 hown hK hP 0 rfl rfl 1 (by decide) (hts _ m_X7_can_5dfb42) (fun _ h9 => h9) rfl dX7_can_50 ?_
        refine va_getN (ci := 2) (C := RX2) (T := TX2) (N := 11) (v := .ref (a2 2)) hx hb hts i_X7_can_X2 hown hK hP 8 rfl rfl 2 (by decide) (nwG hG (w := .fieldLinkNest "PickedMatch" 82 "PickedMatch$Scene" "numbers" "[I" "PickedMatch") (by decide +kernel)) (fun _ h9 => h9) rfl dX7_can_53 ?_
        refine lv_iload_n hx hb dX7_can_56 rfl (lv_at hl 1 rfl) ?_
        refine lv_iload hx hb dX7_can_57 (lv_at hl 5 rfl) ?_
        obtain ⟨h_59, hf⟩ := ck_e hf
        refine va_iast (cA := E.2.1) (n := 6) (f := q46.1 2) (x := v5) hx hb hK hP (hDD s0 s1 h1 q46.1 q46.2 s3 s4 h4 s5 s6 s7 s8 s9 t9) hS 10 0 rfl rfl h_59 dX7_can_59 (fun H locs hP _ hS => ?_)
        obtain ⟨s2_59, hP, hf⟩ := nm_st' (P := fun z => va_P E.1 vwCl ((wX7o E a0 a1 a2 a3 a4 a5 a6 a7 a8 a9 s0 ++ (wX2 E a1 s1 h1 ++ (wX2 E a2 z q46.2 ++ (wX1 E a3 s3 ++ (wX2 E a4 s4 h4 ++ (wX1 E a5 s5 ++ (wX5 E a6 s6 ++ (wX3 E a7 s7 ++ (wX0 E a8 s8 ++ (wX6 E a9 s9 t9)))))))))) ++ sW E.2.1 L) H) hf hP
        refine lv_aload_n hx hb dX7_can_60 rfl (lv_at hl 0 rfl) ?_
        refine va_get (ci := 7) (C := RX7) (T := TX7) (N := 11) (v := .ref (a3 0)) hx hb hts i_X7_can_X7 hown hK hP 0 rfl rfl 2 (by decide) (hts _ m_X7_can_6a5209) (fun _ h9 => h9) rfl dX7_can_61 ?_
        refine lv_aload_n hx hb dX7_can_64 rfl (lv_at hl 0 rfl) ?_
        refine va_get (ci := 7) (C := RX7) (T := TX7) (N := 11) (v := .ref (a2 0)) hx hb hts i_X7_can_X7 hown hK hP 0 rfl rfl 1 (by decide) (hts _ m_X7_can_5dfb42) (fun _ h9 => h9) rfl dX7_can_65 ?_
        obtain ⟨q68, hc_68, hf⟩ := cl_e hf
        have hm_68 : ∀ q ∈ (wX1 E a3 s3 ++ (wX2 E a2 s2_59 q46.2)) ++ sW E.2.1 L, q ∈ (wX7o E a0 a1 a2 a3 a4 a5 a6 a7 a8 a9 s0 ++ (wX2 E a1 s1 h1 ++ (wX2 E a2 s2_59 q46.2 ++ (wX1 E a3 s3 ++ (wX2 E a4 s4 h4 ++ (wX1 E a5 s5 ++ (wX5 E a6 s6 ++ (wX3 E a7 s7 ++ (wX0 E a8 s8 ++ (wX6 E a9 s9 t9)))))))))) ++ sW E.2.1 L := (app_mem (sub_mem (suf := []) [15, 16, 17, 18, 19, 20, 21, 22, 8, 9, 10, 11, 12, 13, 14] rfl))
        refine fin_i (E := E) (wc := (wX1 E a3 s3 ++ (wX2 E a2 s2_59 q46.2)) ++ sW E.2.1 L) (wc' := (wX1 E a3 s3 ++ (wX2 E a2 q68.2 q46.2)) ++ sW E.2.1 L) (va_runVN (As := [.ref (a2 0)]) (rest := []) ⟨hx, hb, hml, hown, hts⟩ (k_X1_isAllSeen l E a3 a2 L N s3 s2_59 q46.2 q68 hc_68 _) ⟨va_cnB 1 hts gX7_can_X1_isAllSeen_n213 rfl rfl rfl (hG.1 (.methodLinkNest "PickedMatch" 213 yX1_isAllSeen "PickedMatch") (by decide +kernel)) (hts _ m_X7_can_6e074f) (by decide +kernel) ⟨(Nat.le_of_ble_eq_true rfl), (Nat.le_of_ble_eq_true rfl)⟩, (hts _ m_X7_can_a5feb1), (hts _ m_X7_can_85aea1)⟩ (pre_v (ci := 1) (q0 := 0) hK (sub_P hm_68 hP) (sub_Ds (wc := wX1 E a3 s3 ++ (wX2 E a2 s2_59 q46.2)) [15, 16, 17, 18, 19, 20, 21, 22, 8, 9, 10, 11, 12, 13, 14] (by decide) rfl (hDD s0 s1 h1 s2_59 q46.2 s3 s4 h4 s5 s6 s7 s8 s9 t9)) hS hG hAB rfl rfl) rfl rfl hl.1 rfl (lv_room (Nat.le_of_ble_eq_true rfl)) dX7_can_68 ⟨Nat.zero_le _, Nat.zero_le _⟩) hS (w_free (hDD s0 s1 h1 s2_59 q46.2 s3 s4 h4 s5 s6 s7 s8 s9 t9) hS hA hm_68) (fun H locs hP1 hk hS => ?_)
        have hP := w_joins (ws' := wX7o E a0 a1 a2 a3 a4 a5 a6 a7 a8 a9 s0 ++ (wX2 E a1 s1 h1 ++ (wX2 E a2 q68.2 q46.2 ++ (wX1 E a3 s3 ++ (wX2 E a4 s4 h4 ++ (wX1 E a5 s5 ++ (wX5 E a6 s6 ++ (wX3 E a7 s7 ++ (wX0 E a8 s8 ++ (wX6 E a9 s9 t9)))))))))) (wc := wX1 E a3 s3 ++ (wX2 E a2 s2_59 q46.2)) (wc' := wX1 E a3 s3 ++ (wX2 E a2 q68.2 q46.2)) hP (hDD s0 s1 h1 s2_59 q46.2 s3 s4 h4 s5 s6 s7 s8 s9 t9) [15, 16, 17, 18, 19, 20, 21, 22, 8, 9, 10, 11, 12, 13, 14] rfl [none, none, none, none, none, none, none, none, some 8, some 9, some 10, some 11, some 12, some 13, some 14, some 0, some 1, some 2, some 3, some 4, some 5, some 6, some 7, none, none, none, none, none, none, none, none, none, none, none, none, none, none, none, none, none, none, none, none, none, none, none, none, none, none, none] rfl rfl hk hP1
        refine lv_if_eq (tgt := 90) hx hb dX7_can_71 (by decide) (fun c_71 => ?_) (fun c_71 => ?_)
        · have hf := ite_t c_71 hf
          obtain ⟨x90, e_x90⟩ : ∃ y : Int32, y = v5 + 1 := ⟨_, rfl⟩
          have hf := nm_q e_x90 hf
          refine lv_iinc (v := x90) (lv' := [(5, .int x90), (0, .ref (a0 0)), (1, .int v1), (2, .int v2), (3, .int v3), (4, .int v4)]) hx hb dX7_can_90 hl (k := 5) rfl (by rw [e_x90]; rfl) (Nat.le_of_ble_eq_true rfl) rfl (fun ls hl => ?_)
          refine lv_goto (tgt := 31) hx hb dX7_can_93 (by decide) ?_
          exact ih_31 q68.2 q46.2 v3 v4 x90 hf _ _ _ hP hS (lv_sub hl [1, 2, 3, 4, 5, 0] rfl)
        · have hf := ite_f c_71 hf
          refine lv_iload_n hx hb dX7_can_74 rfl (lv_at hl 3 rfl) ?_
          refine lv_if_ne (tgt := 83) hx hb dX7_can_75 (by decide) (fun c_75 => ?_) (fun c_75 => ?_)
          · have hf := ite_f c_75 hf
            refine lv_iload hx hb dX7_can_83 (lv_at hl 4 rfl) ?_
            refine lv_istore (lv' := [(4, .int v4), (0, .ref (a0 0)), (1, .int v1), (2, .int v2), (3, .int v3), (5, .int v5)]) hx hb dX7_can_85 hl (Nat.le_of_ble_eq_true rfl) rfl (fun ls hl => ?_)
            obtain ⟨x87, e_x87⟩ : ∃ y : Int32, y = v3 + 1 := ⟨_, rfl⟩
            have hf := nm_q e_x87 hf
            refine lv_iinc (v := x87) (lv' := [(3, .int x87), (4, .int v4), (0, .ref (a0 0)), (1, .int v1), (2, .int v2), (5, .int v5)]) hx hb dX7_can_87 hl (k := 4) rfl (by rw [e_x87]; rfl) (Nat.le_of_ble_eq_true rfl) rfl (fun ls hl => ?_)
            obtain ⟨x90, e_x90⟩ : ∃ y : Int32, y = v5 + 1 := ⟨_, rfl⟩
            have hf := nm_q e_x90 hf
            refine lv_iinc (v := x90) (lv' := [(5, .int x90), (3, .int x87), (4, .int v4), (0, .ref (a0 0)), (1, .int v1), (2, .int v2)]) hx hb dX7_can_90 hl (k := 5) rfl (by rw [e_x90]; rfl) (Nat.le_of_ble_eq_true rfl) rfl (fun ls hl => ?_)
            refine lv_goto (tgt := 31) hx hb dX7_can_93 (by decide) ?_
            exact ih_31 q68.2 q46.2 x87 v4 x90 hf _ _ _ hP hS (lv_sub hl [3, 4, 5, 1, 2, 0] rfl)
          · have hf := ite_t c_75 hf
            refine lv_iload hx hb dX7_can_78 (lv_at hl 5 rfl) ?_
            refine lv_goto (tgt := 85) hx hb dX7_can_80 (by decide) ?_
            refine lv_istore (lv' := [(4, .int v5), (0, .ref (a0 0)), (1, .int v1), (2, .int v2), (3, .int v3), (5, .int v5)]) hx hb dX7_can_85 hl (Nat.le_of_ble_eq_true rfl) rfl (fun ls hl => ?_)
            obtain ⟨x87, e_x87⟩ : ∃ y : Int32, y = v3 + 1 := ⟨_, rfl⟩
            have hf := nm_q e_x87 hf
            refine lv_iinc (v := x87) (lv' := [(3, .int x87), (4, .int v5), (0, .ref (a0 0)), (1, .int v1), (2, .int v2), (5, .int v5)]) hx hb dX7_can_87 hl (k := 4) rfl (by rw [e_x87]; rfl) (Nat.le_of_ble_eq_true rfl) rfl (fun ls hl => ?_)
            obtain ⟨x90, e_x90⟩ : ∃ y : Int32, y = v5 + 1 := ⟨_, rfl⟩
            have hf := nm_q e_x90 hf
            refine lv_iinc (v := x90) (lv' := [(5, .int x90), (3, .int x87), (4, .int v5), (0, .ref (a0 0)), (1, .int v1), (2, .int v2)]) hx hb dX7_can_90 hl (k := 5) rfl (by rw [e_x90]; rfl) (Nat.le_of_ble_eq_true rfl) rfl (fun ls hl => ?_)
            refine lv_goto (tgt := 31) hx hb dX7_can_93 (by decide) ?_
            exact ih_31 q68.2 q46.2 x87 v5 x90 hf _ _ _ hP hS (lv_sub hl [3, 4, 5, 1, 2, 0] rfl)
  refine lv_aload_n hx hb dX7_can_0 rfl (lv_at hl 0 rfl) ?_
  refine va_get (ci := 7) (C := RX7) (T := TX7) (N := 11) (v := .ref (a1 0)) hx hb hts i_X7_can_X7 hown hK hP 0 rfl rfl 0 (by decide) (hts _ m_X7_can_265b14) (fun _ h9 => h9) rfl dX7_can_1 ?_
  refine lv_iload_n hx hb dX7_can_4 rfl (lv_at hl 1 rfl) ?_
  obtain ⟨q5, hc_5, hf⟩ := cl_e hf
  have hm_5 : ∀ q ∈ (wX2 E a1 s1 h1) ++ sW E.2.1 L, q ∈ (wX7o E a0 a1 a2 a3 a4 a5 a6 a7 a8 a9 s0 ++ (wX2 E a1 s1 h1 ++ (wX2 E a2 s2 h2 ++ (wX1 E a3 s3 ++ (wX2 E a4 s4 h4 ++ (wX1 E a5 s5 ++ (wX5 E a6 s6 ++ (wX3 E a7 s7 ++ (wX0 E a8 s8 ++ (wX6 E a9 s9 t9)))))))))) ++ sW E.2.1 L := (app_mem (sub_mem (suf := []) [1, 2, 3, 4, 5, 6, 7] rfl))
  refine fin_i (E := E) (wc := (wX2 E a1 s1 h1) ++ sW E.2.1 L) (wc' := (wX2 E a1 s1 h1) ++ sW E.2.1 L) (va_runVN (As := [.int p1]) (rest := []) ⟨hx, hb, hml, hown, hts⟩ (k_X2_hasThing l E a1 L N s1 h1 p1 q5 hc_5 _) ⟨va_cnB 1 hts gX7_can_X2_hasThing_n74 rfl rfl rfl (hG.1 (.methodLinkNest "PickedMatch" 74 yX2_hasThing "PickedMatch") (by decide +kernel)) (hts _ m_X7_can_4cf9d8) (by decide +kernel) ⟨(Nat.le_of_ble_eq_true rfl), (Nat.le_of_ble_eq_true rfl)⟩, (hts _ m_X7_can_0211d8), (hts _ m_X7_can_6099ba)⟩ (pre_v (ci := 2) (q0 := 0) hK (sub_P hm_5 hP) (sub_Ds (wc := wX2 E a1 s1 h1) [1, 2, 3, 4, 5, 6, 7] (by decide) rfl (hDD s0 s1 h1 s2 h2 s3 s4 h4 s5 s6 s7 s8 s9 t9)) hS hG hAB rfl rfl) rfl rfl hl.1 rfl (lv_room (Nat.le_of_ble_eq_true rfl)) dX7_can_5 ⟨Nat.zero_le _, Nat.zero_le _⟩) hS (w_free (hDD s0 s1 h1 s2 h2 s3 s4 h4 s5 s6 s7 s8 s9 t9) hS hA hm_5) (fun H locs hP1 hk hS => ?_)
  have hP := w_joins (ws' := wX7o E a0 a1 a2 a3 a4 a5 a6 a7 a8 a9 s0 ++ (wX2 E a1 s1 h1 ++ (wX2 E a2 s2 h2 ++ (wX1 E a3 s3 ++ (wX2 E a4 s4 h4 ++ (wX1 E a5 s5 ++ (wX5 E a6 s6 ++ (wX3 E a7 s7 ++ (wX0 E a8 s8 ++ (wX6 E a9 s9 t9)))))))))) (wc := wX2 E a1 s1 h1) (wc' := wX2 E a1 s1 h1) hP (hDD s0 s1 h1 s2 h2 s3 s4 h4 s5 s6 s7 s8 s9 t9) [1, 2, 3, 4, 5, 6, 7] rfl [none, some 0, some 1, some 2, some 3, some 4, some 5, some 6, none, none, none, none, none, none, none, none, none, none, none, none, none, none, none, none, none, none, none, none, none, none, none, none, none, none, none, none, none, none, none, none, none, none, none, none, none, none, none, none, none, none] rfl rfl hk hP1
  refine lv_if_eq (tgt := 20) hx hb dX7_can_8 (by decide) (fun c_8 => ?_) (fun c_8 => ?_)
  · have hf := ite_t c_8 hf
    refine lv_iconst (v := (-1)) hx hb dX7_can_20 (by decide) ?_
    have e9 := Option.some.inj hf
    exact rt_i hx hb hr hlocks (fst_e e9) (rtP (P := fun z => va_P E.1 vwCl ((wX7o E a0 a1 a2 a3 a4 a5 a6 a7 a8 a9 s0 ++ (wX2 E a1 s1 h1 ++ (wX2 E a2 z.2.1 z.2.2 ++ (wX1 E a3 s3 ++ (wX2 E a4 s4 h4 ++ (wX1 E a5 s5 ++ (wX5 E a6 s6 ++ (wX3 E a7 s7 ++ (wX0 E a8 s8 ++ (wX6 E a9 s9 t9)))))))))) ++ sW E.2.1 L) H) e9 hP) hS dX7_can_21
  · have hf := ite_f c_8 hf
    refine lv_iload_n hx hb dX7_can_11 rfl (lv_at hl 2 rfl) ?_
    refine lv_iconst (v := 0) hx hb dX7_can_12 (by decide) ?_
    refine lv_iconst (v := 1) hx hb dX7_can_13 (by decide) ?_
    obtain ⟨q14, hc_14, hf⟩ := cl_e hf
    refine fin_i (E := E) (wc := ([] : va_W)) (wc' := ([] : va_W)) (va_runS (As := [.int p2, .int 0, .int 1]) (rest := []) ⟨hx, hb, hml, hown, hts⟩ (k_X7_isWithin l E N p2 0 1 q14 hc_14 _) (va_cwS 3 hts gX7_can_X7_isWithin rfl rfl rfl (by decide +kernel) ⟨(Nat.le_of_ble_eq_true rfl), (Nat.le_of_ble_eq_true rfl)⟩) (pre_s hK va_P_nil va_D_nil hS hG hAB) rfl rfl hl.1 rfl (lv_room (Nat.le_of_ble_eq_true rfl)) dX7_can_14 ⟨Nat.zero_le _, Nat.zero_le _⟩) hS (free_nil hS hA) (fun H locs hP1 hk hS => ?_)
    have hP := w_kept0 hP hk
    refine lv_if_ne (tgt := 22) hx hb dX7_can_17 (by decide) (fun c_17 => ?_) (fun c_17 => ?_)
    · have hf := ite_f c_17 hf
      refine lv_iconst (v := 0) hx hb dX7_can_22 (by decide) ?_
      refine lv_istore_n (lv' := [(3, .int 0), (0, .ref (a0 0)), (1, .int p1), (2, .int p2)]) hx hb dX7_can_23 rfl hl (Nat.le_of_ble_eq_true rfl) rfl (fun ls hl => ?_)
      refine lv_bipush (v := (-5)) hx hb dX7_can_24 (by decide) ?_
      refine lv_topi (fun x26 e_x26 => ?_)
      have hf := nm_q e_x26 hf
      refine lv_istore (lv' := [(4, .int x26), (3, .int 0), (0, .ref (a0 0)), (1, .int p1), (2, .int p2)]) hx hb dX7_can_26 hl (Nat.le_of_ble_eq_true rfl) rfl (fun ls hl => ?_)
      refine lv_iconst (v := 0) hx hb dX7_can_28 (by decide) ?_
      refine lv_istore (lv' := [(5, .int 0), (4, .int x26), (3, .int 0), (0, .ref (a0 0)), (1, .int p1), (2, .int p2)]) hx hb dX7_can_29 hl (Nat.le_of_ble_eq_true rfl) rfl (fun ls hl => ?_)
      exact hL_31 s1 h1 s3 p1 p2 N s2 h2 0 x26 0 hf _ _ _ hP hS (lv_sub hl [3, 4, 5, 2, 1, 0] rfl)
    · have hf := ite_t c_17 hf
      refine lv_iconst (v := (-1)) hx hb dX7_can_20 (by decide) ?_
      have e9 := Option.some.inj hf
      exact rt_i hx hb hr hlocks (fst_e e9) (rtP (P := fun z => va_P E.1 vwCl ((wX7o E a0 a1 a2 a3 a4 a5 a6 a7 a8 a9 s0 ++ (wX2 E a1 s1 h1 ++ (wX2 E a2 z.2.1 z.2.2 ++ (wX1 E a3 s3 ++ (wX2 E a4 s4 h4 ++ (wX1 E a5 s5 ++ (wX5 E a6 s6 ++ (wX3 E a7 s7 ++ (wX0 E a8 s8 ++ (wX6 E a9 s9 t9)))))))))) ++ sW E.2.1 L) H) e9 hP) hS dX7_can_21
abbrev rm_X7_greatestDivisor : Room := { frames := 0, cells := 0, slots := 0, locals := 0 }
set_option maxHeartbeats 8000000 in
set_option maxRecDepth 100000 in
theorem k_X7_greatestDivisor (l : Launch) (E : Ev) (N : Nat) (p0 : Int32) (p1 : Int32) (q : (Int32)) (hf : f_X7_greatestDivisor N p0 p1 = some q) : Ci l yX7_greatestDivisor wsX7_greatestDivisor rm_X7_greatestDivisor E [.int p0, .int p1] (([] : va_W)) (([] : va_W)) q := by
  unfold f_X7_greatestDivisor at hf
  intro sz
  refine Met.ofW (cc := cX7_greatestDivisor) (maxL := 6) (ret := (some .int)) (by decide) rfl ?_
  intro p e s m args below meth c s₁ B hml hv
  obtain ⟨rfl, hsz, hP, hK, hD0, hG, hA, hAB⟩ := start hv
  have hx := B.exec
  have hb := B.bytes
  have hr := B.returns
  have hts := atoms_spec (ws := wsX7_greatestDivisor) B.pre
  have hown : s.vm.findClass RX7 = some m.cls := findClass_of_methodNamed B.named
  have hlocks := B.notSynchronized
  subst hsz
  generalize va_A (([] : va_W)) s.heap.size = A0 at hD0 hA hAB ⊢
  have hDD : va_D A0 (([] : va_W)) := hD0
  have hS : va_S A0 s.heap s.heap [] := va_S.rf
  have hl := lv_entry ([.int p0, .int p1]) (n := 6) (Nat.le_of_ble_eq_true rfl)
  rw [lg_entry_eq]
  generalize (lg_sl ([.int p0, .int p1]) ++ List.replicate (6 - (lg_sl ([.int p0, .int p1])).length) Slot.unset).toArray = ls at hl ⊢
  have hl : lv_has ls 6 [(0, .int p0), (1, .int p1)] := hl
  have hL_7 : ∀ (n_7 : Nat) (v2 : Int32) (v3 : Int32) (v4 : Int32), l_X7_greatestDivisor_7 N n_7 v2 v3 v4 = some q → ∀ (H : Heap) (locs : List Loc) (ls : Array Slot), va_P E.1 vwCl (([] : va_W)) H → va_S A0 s.heap H locs → lv_has ls 6 [(2, .int v2), (3, .int v3), (4, .int v4)] → W p l e rm_X7_greatestDivisor s m ([.int p0, .int p1] : List Value).toArray below meth c H locs 0 0 (MQ below (va_Qi (fun (r' : Int32) (_ : Unit) => r' = q) (fun _ t => va_P E.1 vwCl (([] : va_W)) t.heap) A0) ([.int p0, .int p1] : List Value).toArray s 0 0 A0) (F0 m 7 ls []) := by
    intro n_7
    induction n_7 with
    | zero => intro v2 v3 v4 hf; rw [l_X7_greatestDivisor_7] at hf; cases hf
    | succ n_7 ih_7 =>
      intro v2 v3 v4 hf H locs ls hP hS hl
      rw [l_X7_greatestDivisor_7] at hf
      refine lv_iload hx hb dX7_greatestDivisor_7 (lv_at hl 2 rfl) ?_
      refine lv_bipush (v := 100) hx hb dX7_greatestDivisor_9 (by decide) ?_
      refine lv_icmp_ge (tgt := 34) hx hb dX7_greatestDivisor_11 (by decide) (fun c_11 => ?_) (fun c_11 => ?_)
      · have hf := ite_t c_11 hf
        refine lv_iload_n hx hb dX7_greatestDivisor_34 rfl (lv_at hl 0 rfl) ?_
        have e9 := Option.some.inj hf
        exact rt_i hx hb hr hlocks e9 hP hS dX7_greatestDivisor_35
      · have hf := ite_f c_11 hf
        refine lv_iload_n hx hb dX7_greatestDivisor_14 rfl (lv_at hl 1 rfl) ?_
        refine lv_if_eq (tgt := 34) hx hb dX7_greatestDivisor_15 (by decide) (fun c_15 => ?_) (fun c_15 => ?_)
        · have hf := ite_t c_15 hf
          refine lv_iload_n hx hb dX7_greatestDivisor_34 rfl (lv_at hl 0 rfl) ?_
          have e9 := Option.some.inj hf
          exact rt_i hx hb hr hlocks e9 hP hS dX7_greatestDivisor_35
        · have hf := ite_f c_15 hf
          refine lv_iload_n hx hb dX7_greatestDivisor_18 rfl (lv_at hl 0 rfl) ?_
          refine lv_iload_n hx hb dX7_greatestDivisor_19 rfl (lv_at hl 1 rfl) ?_
          obtain ⟨hz_20, hf⟩ := cz_e hf
          refine lv_irem hx hb dX7_greatestDivisor_20 hz_20 ?_
          refine lv_topi (fun x21 e_x21 => ?_)
          have hf := nm_q e_x21 hf
          refine lv_istore (lv' := [(5, .int x21), (2, .int v2), (3, .int v3), (4, .int v4)]) hx hb dX7_greatestDivisor_21 hl (Nat.le_of_ble_eq_true rfl) rfl (fun ls hl => ?_)
          refine lv_iload_n hx hb dX7_greatestDivisor_23 rfl (lv_at hl 2 rfl) ?_
          refine lv_istore_n (lv' := [(2, .int v3), (5, .int x21), (3, .int v3), (4, .int v4)]) hx hb dX7_greatestDivisor_24 rfl hl (Nat.le_of_ble_eq_true rfl) rfl (fun ls hl => ?_)
          refine lv_iload hx hb dX7_greatestDivisor_25 (lv_at hl 1 rfl) ?_
          refine lv_istore_n (lv' := [(3, .int x21), (2, .int v3), (5, .int x21), (4, .int v4)]) hx hb dX7_greatestDivisor_27 rfl hl (Nat.le_of_ble_eq_true rfl) rfl (fun ls hl => ?_)
          obtain ⟨x28, e_x28⟩ : ∃ y : Int32, y = v4 + 1 := ⟨_, rfl⟩
          have hf := nm_q e_x28 hf
          refine lv_iinc (v := x28) (lv' := [(4, .int x28), (3, .int x21), (2, .int v3), (5, .int x21)]) hx hb dX7_greatestDivisor_28 hl (k := 3) rfl (by rw [e_x28]; rfl) (Nat.le_of_ble_eq_true rfl) rfl (fun ls hl => ?_)
          refine lv_goto (tgt := 7) hx hb dX7_greatestDivisor_31 (by decide) ?_
          exact ih_7 v3 x21 x28 hf _ _ _ hP hS (lv_sub hl [2, 1, 0] rfl)
  refine lv_iload_n hx hb dX7_greatestDivisor_0 rfl (lv_at hl 0 rfl) ?_
  refine lv_istore_n (lv' := [(2, .int p0), (0, .int p0), (1, .int p1)]) hx hb dX7_greatestDivisor_1 rfl hl (Nat.le_of_ble_eq_true rfl) rfl (fun ls hl => ?_)
  refine lv_iload_n hx hb dX7_greatestDivisor_2 rfl (lv_at hl 2 rfl) ?_
  refine lv_istore_n (lv' := [(3, .int p1), (2, .int p0), (0, .int p0), (1, .int p1)]) hx hb dX7_greatestDivisor_3 rfl hl (Nat.le_of_ble_eq_true rfl) rfl (fun ls hl => ?_)
  refine lv_iconst (v := 0) hx hb dX7_greatestDivisor_4 (by decide) ?_
  refine lv_istore (lv' := [(4, .int 0), (3, .int p1), (2, .int p0), (0, .int p0), (1, .int p1)]) hx hb dX7_greatestDivisor_5 hl (Nat.le_of_ble_eq_true rfl) rfl (fun ls hl => ?_)
  exact hL_7 N p0 p1 0 hf _ _ _ hP hS (lv_sub hl [2, 1, 0] rfl)
