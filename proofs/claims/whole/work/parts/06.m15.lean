/-! ===== what the methods compute, and that they do: by program out of the bytecode (wip/gen) ===== -/
abbrev rm_X7_reach : Room := { frames := 15, cells := 0, slots := 0, locals := 421 }
theorem m_X7_reach_265b14 : Cond.fieldLink RX7 12 "PickedMatch" "scene" "LPickedMatch$Scene;" ∈ wsX7_reach := by decide +kernel
theorem i_X7_reach_X7 : ∀ w ∈ wsX70, w ∈ wsX7_reach := fun _ h => List.mem_cons_of_mem _ (List.mem_append_left _ (List.mem_append_left _ (List.mem_append_left _ (List.mem_append_right _ h))))
theorem m_X7_reach_4cf9d8 : Cond.initialized RX2 ∈ wsX7_reach := by decide +kernel
theorem m_X7_reach_0211d8 : Cond.instanceMethod yX2_hasThing ∈ wsX7_reach := by decide +kernel
theorem m_X7_reach_6099ba : Cond.selects RX2 yX2_hasThing yX2_hasThing ∈ wsX7_reach := by decide +kernel
theorem m_X7_reach_ab92ab : Cond.instanceMethod yX2_isHad ∈ wsX7_reach := by decide +kernel
theorem m_X7_reach_8e582f : Cond.selects RX2 yX2_isHad yX2_isHad ∈ wsX7_reach := by decide +kernel
theorem m_X7_reach_5dfb42 : Cond.fieldLink RX7 18 "PickedMatch" "trial" "LPickedMatch$Scene;" ∈ wsX7_reach := by decide +kernel
theorem m_X7_reach_c21ce8 : Cond.instanceMethod yX2_becomeAs ∈ wsX7_reach := by decide +kernel
theorem m_X7_reach_986579 : Cond.selects RX2 yX2_becomeAs yX2_becomeAs ∈ wsX7_reach := by decide +kernel
theorem m_X7_reach_4537e5 : Cond.fieldLink RX7 44 "PickedMatch" "search" "LPickedMatch$Search;" ∈ wsX7_reach := by decide +kernel
theorem m_X7_reach_7824fe : Cond.initialized RX3 ∈ wsX7_reach := by decide +kernel
theorem m_X7_reach_9015ad : Cond.instanceMethod yX3_fewestAhead ∈ wsX7_reach := by decide +kernel
theorem m_X7_reach_aea146 : Cond.selects RX3 yX3_fewestAhead yX3_fewestAhead ∈ wsX7_reach := by decide +kernel
set_option maxHeartbeats 8000000 in
set_option maxRecDepth 100000 in
theorem k_X7_reach (l : Launch) (E : Ev) (a0 : Nat → Nat) (a1 : Nat → Nat) (a2 : Nat → Nat) (a3 : Nat → Nat) (a4 : Nat → Nat) (a5 : Nat → Nat) (a6 : Nat → Nat) (a7 : Nat → Nat) (a8 : Nat → Nat) (a9 : Nat → Nat) (L : List SR) (N : Nat) (s0 : St) (s1 : St) (h1 : Option SR) (s2 : St) (h2 : Option SR) (s3 : St) (s4 : St) (h4 : Option SR) (s5 : St) (s6 : St) (s7 : St) (s8 : St) (s9 : St) (t9 : Nat → Nat → Int64) (p1 : Int32) (q : (Int32 × St × (Option SR) × St)) (hf : f_X7_reach N L s1 h1 s2 h2 s7 p1 = some q) : Ci l yX7_reach wsX7_reach rm_X7_reach E [.ref (a0 0), .int p1] ((wX7o E a0 a1 a2 a3 a4 a5 a6 a7 a8 a9 s0 ++ (wX2 E a1 s1 h1 ++ (wX2 E a2 s2 h2 ++ (wX1 E a3 s3 ++ (wX2 E a4 s4 h4 ++ (wX1 E a5 s5 ++ (wX5 E a6 s6 ++ (wX3 E a7 s7 ++ (wX0 E a8 s8 ++ (wX6 E a9 s9 t9)))))))))) ++ sW E.2.1 L) ((wX7o E a0 a1 a2 a3 a4 a5 a6 a7 a8 a9 s0 ++ (wX2 E a1 s1 h1 ++ (wX2 E a2 q.2.1 q.2.2.1 ++ (wX1 E a3 s3 ++ (wX2 E a4 s4 h4 ++ (wX1 E a5 s5 ++ (wX5 E a6 s6 ++ (wX3 E a7 q.2.2.2 ++ (wX0 E a8 s8 ++ (wX6 E a9 s9 t9)))))))))) ++ sW E.2.1 L) q.1 := by
  unfold f_X7_reach at hf
  intro sz
  refine Met.ofW (cc := cX7_reach) (maxL := 2) (ret := (some .int)) (by decide) rfl ?_
  intro p e s m args below meth c s₁ B hml hpre
  obtain ⟨rfl, hsz, hP, hK, hD0, hG, hA, hAB⟩ := start hpre
  have hx := B.exec
  have hb := B.bytes
  have hr := B.returns
  have hts := atoms_spec (ws := wsX7_reach) B.pre
  have hown : s.vm.findClass RX7 = some m.cls := findClass_of_methodNamed B.named
  have hlocks := B.notSynchronized
  subst hsz
  generalize va_A ((wX7o E a0 a1 a2 a3 a4 a5 a6 a7 a8 a9 s0 ++ (wX2 E a1 s1 h1 ++ (wX2 E a2 s2 h2 ++ (wX1 E a3 s3 ++ (wX2 E a4 s4 h4 ++ (wX1 E a5 s5 ++ (wX5 E a6 s6 ++ (wX3 E a7 s7 ++ (wX0 E a8 s8 ++ (wX6 E a9 s9 t9)))))))))) ++ sW E.2.1 L) s.heap.size = A0 at hD0 hA hAB ⊢
  have hDD : ∀ (s0 : St) (s1 : St) (h1 : Option SR) (s2 : St) (h2 : Option SR) (s3 : St) (s4 : St) (h4 : Option SR) (s5 : St) (s6 : St) (s7 : St) (s8 : St) (s9 : St) (t9 : Nat → Nat → Int64), va_D A0 ((wX7o E a0 a1 a2 a3 a4 a5 a6 a7 a8 a9 s0 ++ (wX2 E a1 s1 h1 ++ (wX2 E a2 s2 h2 ++ (wX1 E a3 s3 ++ (wX2 E a4 s4 h4 ++ (wX1 E a5 s5 ++ (wX5 E a6 s6 ++ (wX3 E a7 s7 ++ (wX0 E a8 s8 ++ (wX6 E a9 s9 t9)))))))))) ++ sW E.2.1 L) := fun s0 s1 h1 s2 h2 s3 s4 h4 s5 s6 s7 s8 s9 t9 => vD_addr hD0 rfl
  have hS : va_S A0 s.heap s.heap [] := va_S.rf
  have hl := lv_entry ([.ref (a0 0), .int p1]) (n := 2) (Nat.le_of_ble_eq_true rfl)
  rw [lg_entry_eq]
  generalize (lg_sl ([.ref (a0 0), .int p1]) ++ List.replicate (2 - (lg_sl ([.ref (a0 0), .int p1])).length) Slot.unset).toArray = ls at hl ⊢
  have hl : lv_has ls 2 [(0, .ref (a0 0)), (1, .int p1)] := hl
  refine lv_aload_n hx hb dX7_reach_0 rfl (lv_at hl 0 rfl) ?_
  refine va_get (ci := 7) (C := RX7) (T := TX7) (N := 11) (v := .ref (a1 0)) hx hb hts i_X7_reach_X7 hown hK hP 0 rfl rfl 0 (by decide) (hts _ m_X7_reach_265b14) (fun _ h9 => h9) rfl dX7_reach_1 ?_
  refine lv_iload_n hx hb dX7_reach_4 rfl (lv_at hl 1 rfl) ?_
  obtain ⟨q5, hc_5, hf⟩ := cl_e hf
  have hm_5 : ∀ q ∈ (wX2 E a1 s1 h1) ++ sW E.2.1 L, q ∈ (wX7o E a0 a1 a2 a3 a4 a5 a6 a7 a8 a9 s0 ++ (wX2 E a1 s1 h1 ++ (wX2 E a2 s2 h2 ++ (wX1 E a3 s3 ++ (wX2 E a4 s4 h4 ++ (wX1 E a5 s5 ++ (wX5 E a6 s6 ++ (wX3 E a7 s7 ++ (wX0 E a8 s8 ++ (wX6 E a9 s9 t9)))))))))) ++ sW E.2.1 L := (app_mem (sub_mem (suf := []) [1, 2, 3, 4, 5, 6, 7] rfl))
  refine fin_i (E := E) (wc := (wX2 E a1 s1 h1) ++ sW E.2.1 L) (wc' := (wX2 E a1 s1 h1) ++ sW E.2.1 L) (va_runVN (As := [.int p1]) (rest := []) ⟨hx, hb, hml, hown, hts⟩ (k_X2_hasThing l E a1 L N s1 h1 p1 q5 hc_5 _) ⟨va_cnB 1 hts gX7_reach_X2_hasThing_n74 rfl rfl rfl (hG.1 (.methodLinkNest "PickedMatch" 74 yX2_hasThing "PickedMatch") (by decide +kernel)) (hts _ m_X7_reach_4cf9d8) (by decide +kernel) ⟨(Nat.le_of_ble_eq_true rfl), (Nat.le_of_ble_eq_true rfl)⟩, (hts _ m_X7_reach_0211d8), (hts _ m_X7_reach_6099ba)⟩ (pre_v (ci := 2) (q0 := 0) hK (sub_P hm_5 hP) (sub_Ds (ws := wX7o E a0 a1 a2 a3 a4 a5 a6 a7 a8 a9 s0 ++ (wX2 E a1 s1 h1 ++ (wX2 E a2 s2 h2 ++ (wX1 E a3 s3 ++ (wX2 E a4 s4 h4 ++ (wX1 E a5 s5 ++ (wX5 E a6 s6 ++ (wX3 E a7 s7 ++ (wX0 E a8 s8 ++ (wX6 E a9 s9 t9)))))))))) (wc := wX2 E a1 s1 h1) (suf := sW E.2.1 L) [1, 2, 3, 4, 5, 6, 7] (by decide) rfl (hDD s0 s1 h1 s2 h2 s3 s4 h4 s5 s6 s7 s8 s9 t9)) hS hG hAB rfl rfl) rfl rfl hl.1 rfl (lv_room (Nat.le_of_ble_eq_true rfl)) dX7_reach_5 ⟨Nat.zero_le _, Nat.zero_le _⟩) hS (w_free (hDD s0 s1 h1 s2 h2 s3 s4 h4 s5 s6 s7 s8 s9 t9) hS hA hm_5) (fun H locs hP1 hk hS => ?_)
  have hP := w_joins (ws' := wX7o E a0 a1 a2 a3 a4 a5 a6 a7 a8 a9 s0 ++ (wX2 E a1 s1 h1 ++ (wX2 E a2 s2 h2 ++ (wX1 E a3 s3 ++ (wX2 E a4 s4 h4 ++ (wX1 E a5 s5 ++ (wX5 E a6 s6 ++ (wX3 E a7 s7 ++ (wX0 E a8 s8 ++ (wX6 E a9 s9 t9)))))))))) (wc := wX2 E a1 s1 h1) (wc' := wX2 E a1 s1 h1) hP (hDD s0 s1 h1 s2 h2 s3 s4 h4 s5 s6 s7 s8 s9 t9) [1, 2, 3, 4, 5, 6, 7] rfl [none, some 0, some 1, some 2, some 3, some 4, some 5, some 6, none, none, none, none, none, none, none, none, none, none, none, none, none, none, none, none, none, none, none, none, none, none, none, none, none, none, none, none, none, none, none, none, none, none, none, none, none, none, none, none, none, none] rfl rfl hk hP1
  refine lv_if_ne (tgt := 13) hx hb dX7_reach_8 (by decide) (fun c_8 => ?_) (fun c_8 => ?_)
  · have hf := ite_f c_8 hf
    refine lv_aload_n hx hb dX7_reach_13 rfl (lv_at hl 0 rfl) ?_
    refine va_get (ci := 7) (C := RX7) (T := TX7) (N := 11) (v := .ref (a1 0)) hx hb hts i_X7_reach_X7 hown hK hP 0 rfl rfl 0 (by decide) (hts _ m_X7_reach_265b14) (fun _ h9 => h9) rfl dX7_reach_14 ?_
    refine lv_iload_n hx hb dX7_reach_17 rfl (lv_at hl 1 rfl) ?_
    obtain ⟨q18, hc_18, hf⟩ := cl_e hf
    have hm_18 : ∀ q ∈ (wX2 E a1 s1 h1) ++ sW E.2.1 L, q ∈ (wX7o E a0 a1 a2 a3 a4 a5 a6 a7 a8 a9 s0 ++ (wX2 E a1 s1 h1 ++ (wX2 E a2 s2 h2 ++ (wX1 E a3 s3 ++ (wX2 E a4 s4 h4 ++ (wX1 E a5 s5 ++ (wX5 E a6 s6 ++ (wX3 E a7 s7 ++ (wX0 E a8 s8 ++ (wX6 E a9 s9 t9)))))))))) ++ sW E.2.1 L := (app_mem (sub_mem (suf := []) [1, 2, 3, 4, 5, 6, 7] rfl))
    refine fin_i (E := E) (wc := (wX2 E a1 s1 h1) ++ sW E.2.1 L) (wc' := (wX2 E a1 s1 h1) ++ sW E.2.1 L) (va_runVN (As := [.int p1]) (rest := []) ⟨hx, hb, hml, hown, hts⟩ (k_X2_isHad l E a1 L N s1 h1 p1 q18 hc_18 _) ⟨va_cnB 1 hts gX7_reach_X2_isHad_n186 rfl rfl rfl (hG.1 (.methodLinkNest "PickedMatch" 186 yX2_isHad "PickedMatch") (by decide +kernel)) (hts _ m_X7_reach_4cf9d8) (by decide +kernel) ⟨(Nat.le_of_ble_eq_true rfl), (Nat.le_of_ble_eq_true rfl)⟩, (hts _ m_X7_reach_ab92ab), (hts _ m_X7_reach_8e582f)⟩ (pre_v (ci := 2) (q0 := 0) hK (sub_P hm_18 hP) (sub_Ds (ws := wX7o E a0 a1 a2 a3 a4 a5 a6 a7 a8 a9 s0 ++ (wX2 E a1 s1 h1 ++ (wX2 E a2 s2 h2 ++ (wX1 E a3 s3 ++ (wX2 E a4 s4 h4 ++ (wX1 E a5 s5 ++ (wX5 E a6 s6 ++ (wX3 E a7 s7 ++ (wX0 E a8 s8 ++ (wX6 E a9 s9 t9)))))))))) (wc := wX2 E a1 s1 h1) (suf := sW E.2.1 L) [1, 2, 3, 4, 5, 6, 7] (by decide) rfl (hDD s0 s1 h1 s2 h2 s3 s4 h4 s5 s6 s7 s8 s9 t9)) hS hG hAB rfl rfl) rfl rfl hl.1 rfl (lv_room (Nat.le_of_ble_eq_true rfl)) dX7_reach_18 ⟨Nat.zero_le _, Nat.zero_le _⟩) hS (w_free (hDD s0 s1 h1 s2 h2 s3 s4 h4 s5 s6 s7 s8 s9 t9) hS hA hm_18) (fun H locs hP1 hk hS => ?_)
    have hP := w_joins (ws' := wX7o E a0 a1 a2 a3 a4 a5 a6 a7 a8 a9 s0 ++ (wX2 E a1 s1 h1 ++ (wX2 E a2 s2 h2 ++ (wX1 E a3 s3 ++ (wX2 E a4 s4 h4 ++ (wX1 E a5 s5 ++ (wX5 E a6 s6 ++ (wX3 E a7 s7 ++ (wX0 E a8 s8 ++ (wX6 E a9 s9 t9)))))))))) (wc := wX2 E a1 s1 h1) (wc' := wX2 E a1 s1 h1) hP (hDD s0 s1 h1 s2 h2 s3 s4 h4 s5 s6 s7 s8 s9 t9) [1, 2, 3, 4, 5, 6, 7] rfl [none, some 0, some 1, some 2, some 3, some 4, some 5, some 6, none, none, none, none, none, none, none, none, none, none, none, none, none, none, none, none, none, none, none, none, none, none, none, none, none, none, none, none, none, none, none, none, none, none, none, none, none, none, none, none, none, none] rfl rfl hk hP1
    refine lv_if_eq (tgt := 27) hx hb dX7_reach_21 (by decide) (fun c_21 => ?_) (fun c_21 => ?_)
    · have hf := ite_t c_21 hf
      refine lv_aload_n hx hb dX7_reach_27 rfl (lv_at hl 0 rfl) ?_
      refine va_get (ci := 7) (C := RX7) (T := TX7) (N := 11) (v := .ref (a2 0)) hx hb hts i_X7_reach_X7 hown hK hP 0 rfl rfl 1 (by decide) (hts _ m_X7_reach_5dfb42) (fun _ h9 => h9) rfl dX7_reach_28 ?_
      refine lv_aload_n hx hb dX7_reach_31 rfl (lv_at hl 0 rfl) ?_
      refine va_get (ci := 7) (C := RX7) (T := TX7) (N := 11) (v := .ref (a1 0)) hx hb hts i_X7_reach_X7 hown hK hP 0 rfl rfl 0 (by decide) (hts _ m_X7_reach_265b14) (fun _ h9 => h9) rfl dX7_reach_32 ?_
      obtain ⟨q35, hc_35, hf⟩ := cl_e hf
      have hm_35 : ∀ q ∈ (wX2 E a2 s2 h2 ++ (wX2 E a1 s1 h1)) ++ sW E.2.1 L, q ∈ (wX7o E a0 a1 a2 a3 a4 a5 a6 a7 a8 a9 s0 ++ (wX2 E a1 s1 h1 ++ (wX2 E a2 s2 h2 ++ (wX1 E a3 s3 ++ (wX2 E a4 s4 h4 ++ (wX1 E a5 s5 ++ (wX5 E a6 s6 ++ (wX3 E a7 s7 ++ (wX0 E a8 s8 ++ (wX6 E a9 s9 t9)))))))))) ++ sW E.2.1 L := (app_mem (sub_mem (suf := []) [8, 9, 10, 11, 12, 13, 14, 1, 2, 3, 4, 5, 6, 7] rfl))
      refine fin_v (E := E) (wc := (wX2 E a2 s2 h2 ++ (wX2 E a1 s1 h1)) ++ sW E.2.1 L) (wc' := (wX2 E a2 q35.1 q35.2 ++ (wX2 E a1 s1 h1)) ++ sW E.2.1 L) (va_runVN (As := [.ref (a1 0)]) (rest := []) ⟨hx, hb, hml, hown, hts⟩ (k_X2_becomeAs l E a2 a1 L N s2 h2 s1 h1 q35 hc_35 _) ⟨va_cnB 1 hts gX7_reach_X2_becomeAs_n179 rfl rfl rfl (hG.1 (.methodLinkNest "PickedMatch" 179 yX2_becomeAs "PickedMatch") (by decide +kernel)) (hts _ m_X7_reach_4cf9d8) (by decide +kernel) ⟨(Nat.le_of_ble_eq_true rfl), (Nat.le_of_ble_eq_true rfl)⟩, (hts _ m_X7_reach_c21ce8), (hts _ m_X7_reach_986579)⟩ (pre_v (ci := 2) (q0 := 0) hK (sub_P hm_35 hP) (sub_Ds (ws := wX7o E a0 a1 a2 a3 a4 a5 a6 a7 a8 a9 s0 ++ (wX2 E a1 s1 h1 ++ (wX2 E a2 s2 h2 ++ (wX1 E a3 s3 ++ (wX2 E a4 s4 h4 ++ (wX1 E a5 s5 ++ (wX5 E a6 s6 ++ (wX3 E a7 s7 ++ (wX0 E a8 s8 ++ (wX6 E a9 s9 t9)))))))))) (wc := wX2 E a2 s2 h2 ++ (wX2 E a1 s1 h1)) (suf := sW E.2.1 L) [8, 9, 10, 11, 12, 13, 14, 1, 2, 3, 4, 5, 6, 7] (by decide) rfl (hDD s0 s1 h1 s2 h2 s3 s4 h4 s5 s6 s7 s8 s9 t9)) hS hG hAB rfl rfl) rfl rfl hl.1 rfl (lv_room (Nat.le_of_ble_eq_true rfl)) dX7_reach_35 ⟨Nat.zero_le _, Nat.zero_le _⟩) hS (w_free (hDD s0 s1 h1 s2 h2 s3 s4 h4 s5 s6 s7 s8 s9 t9) hS hA hm_35) (fun H locs hP1 hk hS => ?_)
      have hP := w_joins (ws' := wX7o E a0 a1 a2 a3 a4 a5 a6 a7 a8 a9 s0 ++ (wX2 E a1 s1 h1 ++ (wX2 E a2 q35.1 q35.2 ++ (wX1 E a3 s3 ++ (wX2 E a4 s4 h4 ++ (wX1 E a5 s5 ++ (wX5 E a6 s6 ++ (wX3 E a7 s7 ++ (wX0 E a8 s8 ++ (wX6 E a9 s9 t9)))))))))) (wc := wX2 E a2 s2 h2 ++ (wX2 E a1 s1 h1)) (wc' := wX2 E a2 q35.1 q35.2 ++ (wX2 E a1 s1 h1)) hP (hDD s0 s1 h1 s2 h2 s3 s4 h4 s5 s6 s7 s8 s9 t9) [8, 9, 10, 11, 12, 13, 14, 1, 2, 3, 4, 5, 6, 7] rfl [none, some 7, some 8, some 9, some 10, some 11, some 12, some 13, some 0, some 1, some 2, some 3, some 4, some 5, some 6, none, none, none, none, none, none, none, none, none, none, none, none, none, none, none, none, none, none, none, none, none, none, none, none, none, none, none, none, none, none, none, none, none, none, none] rfl rfl hk hP1
      refine lv_aload_n hx hb dX7_reach_38 rfl (lv_at hl 0 rfl) ?_
      refine va_get (ci := 7) (C := RX7) (T := TX7) (N := 11) (v := .ref (a7 0)) hx hb hts i_X7_reach_X7 hown hK hP 0 rfl rfl 8 (by decide) (hts _ m_X7_reach_4537e5) (fun _ h9 => h9) rfl dX7_reach_39 ?_
      refine lv_aload_n hx hb dX7_reach_42 rfl (lv_at hl 0 rfl) ?_
      refine va_get (ci := 7) (C := RX7) (T := TX7) (N := 11) (v := .ref (a2 0)) hx hb hts i_X7_reach_X7 hown hK hP 0 rfl rfl 1 (by decide) (hts _ m_X7_reach_5dfb42) (fun _ h9 => h9) rfl dX7_reach_43 ?_
      refine lv_iload_n hx hb dX7_reach_46 rfl (lv_at hl 1 rfl) ?_
      obtain ⟨q47, hc_47, hf⟩ := cl_e hf
      have hm_47 : ∀ q ∈ (wX3 E a7 s7 ++ (wX2 E a2 q35.1 q35.2)) ++ sW E.2.1 L, q ∈ (wX7o E a0 a1 a2 a3 a4 a5 a6 a7 a8 a9 s0 ++ (wX2 E a1 s1 h1 ++ (wX2 E a2 q35.1 q35.2 ++ (wX1 E a3 s3 ++ (wX2 E a4 s4 h4 ++ (wX1 E a5 s5 ++ (wX5 E a6 s6 ++ (wX3 E a7 s7 ++ (wX0 E a8 s8 ++ (wX6 E a9 s9 t9)))))))))) ++ sW E.2.1 L := (app_mem (sub_mem (suf := []) [41, 42, 43, 8, 9, 10, 11, 12, 13, 14] rfl))
      refine fin_i (E := E) (wc := (wX3 E a7 s7 ++ (wX2 E a2 q35.1 q35.2)) ++ sW E.2.1 L) (wc' := (wX3 E a7 q47.2.1 ++ (wX2 E a2 q47.2.2 q35.2)) ++ sW E.2.1 L) (va_runVN (As := [.ref (a2 0), .int p1]) (rest := []) ⟨hx, hb, hml, hown, hts⟩ (k_X3_fewestAhead l E a7 a2 L N s7 q35.1 q35.2 p1 q47 hc_47 _) ⟨va_cnB 2 hts gX7_reach_X3_fewestAhead_n202 rfl rfl rfl (hG.1 (.methodLinkNest "PickedMatch" 202 yX3_fewestAhead "PickedMatch") (by decide +kernel)) (hts _ m_X7_reach_7824fe) (by decide +kernel) ⟨(Nat.le_of_ble_eq_true rfl), (Nat.le_of_ble_eq_true rfl)⟩, (hts _ m_X7_reach_9015ad), (hts _ m_X7_reach_aea146)⟩ (pre_v (ci := 3) (q0 := 0) hK (sub_P hm_47 hP) (sub_Ds (ws := wX7o E a0 a1 a2 a3 a4 a5 a6 a7 a8 a9 s0 ++ (wX2 E a1 s1 h1 ++ (wX2 E a2 q35.1 q35.2 ++ (wX1 E a3 s3 ++ (wX2 E a4 s4 h4 ++ (wX1 E a5 s5 ++ (wX5 E a6 s6 ++ (wX3 E a7 s7 ++ (wX0 E a8 s8 ++ (wX6 E a9 s9 t9)))))))))) (wc := wX3 E a7 s7 ++ (wX2 E a2 q35.1 q35.2)) (suf := sW E.2.1 L) [41, 42, 43, 8, 9, 10, 11, 12, 13, 14] (by decide) rfl (hDD s0 s1 h1 q35.1 q35.2 s3 s4 h4 s5 s6 s7 s8 s9 t9)) hS hG hAB rfl rfl) rfl rfl hl.1 rfl (lv_room (Nat.le_of_ble_eq_true rfl)) dX7_reach_47 ⟨Nat.zero_le _, Nat.zero_le _⟩) hS (w_free (hDD s0 s1 h1 q35.1 q35.2 s3 s4 h4 s5 s6 s7 s8 s9 t9) hS hA hm_47) (fun H locs hP1 hk hS => ?_)
      have hP := w_joins (ws' := wX7o E a0 a1 a2 a3 a4 a5 a6 a7 a8 a9 s0 ++ (wX2 E a1 s1 h1 ++ (wX2 E a2 q47.2.2 q35.2 ++ (wX1 E a3 s3 ++ (wX2 E a4 s4 h4 ++ (wX1 E a5 s5 ++ (wX5 E a6 s6 ++ (wX3 E a7 q47.2.1 ++ (wX0 E a8 s8 ++ (wX6 E a9 s9 t9)))))))))) (wc := wX3 E a7 s7 ++ (wX2 E a2 q35.1 q35.2)) (wc' := wX3 E a7 q47.2.1 ++ (wX2 E a2 q47.2.2 q35.2)) hP (hDD s0 s1 h1 q35.1 q35.2 s3 s4 h4 s5 s6 s7 s8 s9 t9) [41, 42, 43, 8, 9, 10, 11, 12, 13, 14] rfl [none, none, none, none, none, none, none, none, some 3, some 4, some 5, some 6, some 7, some 8, some 9, none, none, none, none, none, none, none, none, none, none, none, none, none, none, none, none, none, none, none, none, none, none, none, none, none, none, some 0, some 1, some 2, none, none, none, none, none, none] rfl rfl hk hP1
      have e9 := Option.some.inj hf
      have h9_0 : q47.2.2 = q.2.1 := congrArg (fun z => z.2.1) e9
      have h9_1 : q35.2 = q.2.2.1 := congrArg (fun z => z.2.2.1) e9
      have h9_2 : q47.2.1 = q.2.2.2 := congrArg (fun z => z.2.2.2) e9
      have hP9 : va_P E.1 vwCl ((wX7o E a0 a1 a2 a3 a4 a5 a6 a7 a8 a9 s0 ++ (wX2 E a1 s1 h1 ++ (wX2 E a2 q.2.1 q.2.2.1 ++ (wX1 E a3 s3 ++ (wX2 E a4 s4 h4 ++ (wX1 E a5 s5 ++ (wX5 E a6 s6 ++ (wX3 E a7 q.2.2.2 ++ (wX0 E a8 s8 ++ (wX6 E a9 s9 t9)))))))))) ++ sW E.2.1 L) H := by rw [← h9_0, ← h9_1, ← h9_2]; exact hP
      exact rt_i hx hb hr hlocks (fst_e e9) hP9 hS dX7_reach_50
    · have hf := ite_f c_21 hf
      refine lv_bipush (v := (-5)) hx hb dX7_reach_24 (by decide) ?_
      have e9 := Option.some.inj hf
      have h9_0 : s2 = q.2.1 := congrArg (fun z => z.2.1) e9
      have h9_1 : h2 = q.2.2.1 := congrArg (fun z => z.2.2.1) e9
      have h9_2 : s7 = q.2.2.2 := congrArg (fun z => z.2.2.2) e9
      have hP9 : va_P E.1 vwCl ((wX7o E a0 a1 a2 a3 a4 a5 a6 a7 a8 a9 s0 ++ (wX2 E a1 s1 h1 ++ (wX2 E a2 q.2.1 q.2.2.1 ++ (wX1 E a3 s3 ++ (wX2 E a4 s4 h4 ++ (wX1 E a5 s5 ++ (wX5 E a6 s6 ++ (wX3 E a7 q.2.2.2 ++ (wX0 E a8 s8 ++ (wX6 E a9 s9 t9)))))))))) ++ sW E.2.1 L) H := by rw [← h9_0, ← h9_1, ← h9_2]; exact hP
      exact rt_i hx hb hr hlocks (fst_e e9) hP9 hS dX7_reach_26
  · have hf := ite_t c_8 hf
    refine lv_iconst (v := (-1)) hx hb dX7_reach_11 (by decide) ?_
    have e9 := Option.some.inj hf
    have h9_0 : s2 = q.2.1 := congrArg (fun z => z.2.1) e9
    have h9_1 : h2 = q.2.2.1 := congrArg (fun z => z.2.2.1) e9
    have h9_2 : s7 = q.2.2.2 := congrArg (fun z => z.2.2.2) e9
    have hP9 : va_P E.1 vwCl ((wX7o E a0 a1 a2 a3 a4 a5 a6 a7 a8 a9 s0 ++ (wX2 E a1 s1 h1 ++ (wX2 E a2 q.2.1 q.2.2.1 ++ (wX1 E a3 s3 ++ (wX2 E a4 s4 h4 ++ (wX1 E a5 s5 ++ (wX5 E a6 s6 ++ (wX3 E a7 q.2.2.2 ++ (wX0 E a8 s8 ++ (wX6 E a9 s9 t9)))))))))) ++ sW E.2.1 L) H := by rw [← h9_0, ← h9_1, ← h9_2]; exact hP
    exact rt_i hx hb hr hlocks (fst_e e9) hP9 hS dX7_reach_12
abbrev rm_X7_fitting : Room := { frames := 4, cells := 0, slots := 0, locals := 95 }
theorem m_X7_fitting_5dfb42 : Cond.fieldLink RX7 18 "PickedMatch" "trial" "LPickedMatch$Scene;" ∈ wsX7_fitting := by decide +kernel
theorem i_X7_fitting_X7 : ∀ w ∈ wsX70, w ∈ wsX7_fitting := fun _ h => List.mem_cons_of_mem _ (List.mem_append_left _ (List.mem_append_left _ (List.mem_append_right _ h)))
theorem i_X7_fitting_X2 : ∀ w ∈ wsX20, w ∈ wsX7_fitting := fun _ h => List.mem_cons_of_mem _ (List.mem_append_left _ (List.mem_append_right _ h))
theorem m_X7_fitting_4cf9d8 : Cond.initialized RX2 ∈ wsX7_fitting := by decide +kernel
theorem m_X7_fitting_e42de2 : Cond.instanceMethod yX2_goesNow ∈ wsX7_fitting := by decide +kernel
theorem m_X7_fitting_678d5f : Cond.selects RX2 yX2_goesNow yX2_goesNow ∈ wsX7_fitting := by decide +kernel
theorem m_X7_fitting_265b14 : Cond.fieldLink RX7 12 "PickedMatch" "scene" "LPickedMatch$Scene;" ∈ wsX7_fitting := by decide +kernel
theorem m_X7_fitting_0211d8 : Cond.instanceMethod yX2_hasThing ∈ wsX7_fitting := by decide +kernel
theorem m_X7_fitting_6099ba : Cond.selects RX2 yX2_hasThing yX2_hasThing ∈ wsX7_fitting := by decide +kernel
theorem m_X7_fitting_c21ce8 : Cond.instanceMethod yX2_becomeAs ∈ wsX7_fitting := by decide +kernel
theorem m_X7_fitting_986579 : Cond.selects RX2 yX2_becomeAs yX2_becomeAs ∈ wsX7_fitting := by decide +kernel
set_option maxHeartbeats 8000000 in
set_option maxRecDepth 100000 in
theorem k_X7_fitting (l : Launch) (E : Ev) (a0 : Nat → Nat) (a1 : Nat → Nat) (a2 : Nat → Nat) (a3 : Nat → Nat) (a4 : Nat → Nat) (a5 : Nat → Nat) (a6 : Nat → Nat) (a7 : Nat → Nat) (a8 : Nat → Nat) (a9 : Nat → Nat) (L : List SR) (N : Nat) (s0 : St) (s1 : St) (h1 : Option SR) (s2 : St) (h2 : Option SR) (s3 : St) (s4 : St) (h4 : Option SR) (s5 : St) (s6 : St) (s7 : St) (s8 : St) (s9 : St) (t9 : Nat → Nat → Int64) (p1 : Int32) (p2 : Int32) (q : (Int32 × St × (Option SR))) (hf : f_X7_fitting N L s1 h1 s2 h2 p1 p2 = some q) : Ci l yX7_fitting wsX7_fitting rm_X7_fitting E [.ref (a0 0), .int p1, .int p2] ((wX7o E a0 a1 a2 a3 a4 a5 a6 a7 a8 a9 s0 ++ (wX2 E a1 s1 h1 ++ (wX2 E a2 s2 h2 ++ (wX1 E a3 s3 ++ (wX2 E a4 s4 h4 ++ (wX1 E a5 s5 ++ (wX5 E a6 s6 ++ (wX3 E a7 s7 ++ (wX0 E a8 s8 ++ (wX6 E a9 s9 t9)))))))))) ++ sW E.2.1 L) ((wX7o E a0 a1 a2 a3 a4 a5 a6 a7 a8 a9 s0 ++ (wX2 E a1 s1 h1 ++ (wX2 E a2 q.2.1 q.2.2 ++ (wX1 E a3 s3 ++ (wX2 E a4 s4 h4 ++ (wX1 E a5 s5 ++ (wX5 E a6 s6 ++ (wX3 E a7 s7 ++ (wX0 E a8 s8 ++ (wX6 E a9 s9 t9)))))))))) ++ sW E.2.1 L) q.1 := by
  unfold f_X7_fitting at hf
  intro sz
  refine Met.ofW (cc := cX7_fitting) (maxL := 6) (ret := (some .int)) (by decide) rfl ?_
  intro p e s m args below meth c s₁ B hml hpre
  obtain ⟨rfl, hsz, hP, hK, hD0, hG, hA, hAB⟩ := start hpre
  have hx := B.exec
  have hb := B.bytes
  have hr := B.returns
  have hts := atoms_spec (ws := wsX7_fitting) B.pre
  have hown : s.vm.findClass RX7 = some m.cls := findClass_of_methodNamed B.named
  have hlocks := B.notSynchronized
  subst hsz
  generalize va_A ((wX7o E a0 a1 a2 a3 a4 a5 a6 a7 a8 a9 s0 ++ (wX2 E a1 s1 h1 ++ (wX2 E a2 s2 h2 ++ (wX1 E a3 s3 ++ (wX2 E a4 s4 h4 ++ (wX1 E a5 s5 ++ (wX5 E a6 s6 ++ (wX3 E a7 s7 ++ (wX0 E a8 s8 ++ (wX6 E a9 s9 t9)))))))))) ++ sW E.2.1 L) s.heap.size = A0 at hD0 hA hAB ⊢
  have hDD : ∀ (s0 : St) (s1 : St) (h1 : Option SR) (s2 : St) (h2 : Option SR) (s3 : St) (s4 : St) (h4 : Option SR) (s5 : St) (s6 : St) (s7 : St) (s8 : St) (s9 : St) (t9 : Nat → Nat → Int64), va_D A0 ((wX7o E a0 a1 a2 a3 a4 a5 a6 a7 a8 a9 s0 ++ (wX2 E a1 s1 h1 ++ (wX2 E a2 s2 h2 ++ (wX1 E a3 s3 ++ (wX2 E a4 s4 h4 ++ (wX1 E a5 s5 ++ (wX5 E a6 s6 ++ (wX3 E a7 s7 ++ (wX0 E a8 s8 ++ (wX6 E a9 s9 t9)))))))))) ++ sW E.2.1 L) := fun s0 s1 h1 s2 h2 s3 s4 h4 s5 s6 s7 s8 s9 t9 => vD_addr hD0 rfl
  have hS : va_S A0 s.heap s.heap [] := va_S.rf
  have hl := lv_entry ([.ref (a0 0), .int p1, .int p2]) (n := 6) (Nat.le_of_ble_eq_true rfl)
  rw [lg_entry_eq]
  generalize (lg_sl ([.ref (a0 0), .int p1, .int p2]) ++ List.replicate (6 - (lg_sl ([.ref (a0 0), .int p1, .int p2])).length) Slot.unset).toArray = ls at hl ⊢
  have hl : lv_has ls 6 [(0, .ref (a0 0)), (1, .int p1), (2, .int p2)] := hl
  have hL_42 : ∀ (s1 : St) (h1 : Option SR) (v1 : Int32) (v2 : Int32) (n_42 : Nat) (s2 : St) (h2 : Option SR) (v3 : Int32) (v4 : Int32) (v5 : Int32), l_X7_fitting_42 N L s1 h1 v1 v2 n_42 s2 h2 v3 v4 v5 = some q → ∀ (H : Heap) (locs : List Loc) (ls : Array Slot), va_P E.1 vwCl ((wX7o E a0 a1 a2 a3 a4 a5 a6 a7 a8 a9 s0 ++ (wX2 E a1 s1 h1 ++ (wX2 E a2 s2 h2 ++ (wX1 E a3 s3 ++ (wX2 E a4 s4 h4 ++ (wX1 E a5 s5 ++ (wX5 E a6 s6 ++ (wX3 E a7 s7 ++ (wX0 E a8 s8 ++ (wX6 E a9 s9 t9)))))))))) ++ sW E.2.1 L) H → va_S A0 s.heap H locs → lv_has ls 6 [(0, .ref (a0 0)), (1, .int v1), (2, .int v2), (3, .int v3), (4, .int v4), (5, .int v5)] → W p l e rm_X7_fitting s m ([.ref (a0 0), .int p1, .int p2] : List Value).toArray below meth c H locs 0 0 (MQ below (va_Qi (fun (r' : Int32) (_ : Unit) => r' = q.1) (fun _ t => va_P E.1 vwCl ((wX7o E a0 a1 a2 a3 a4 a5 a6 a7 a8 a9 s0 ++ (wX2 E a1 s1 h1 ++ (wX2 E a2 q.2.1 q.2.2 ++ (wX1 E a3 s3 ++ (wX2 E a4 s4 h4 ++ (wX1 E a5 s5 ++ (wX5 E a6 s6 ++ (wX3 E a7 s7 ++ (wX0 E a8 s8 ++ (wX6 E a9 s9 t9)))))))))) ++ sW E.2.1 L) t.heap) A0) ([.ref (a0 0), .int p1, .int p2] : List Value).toArray s 0 0 A0) (F0 m 42 ls []) := by
    intro s1 h1 v1 v2 n_42
    induction n_42 with
    | zero => intro s2 h2 v3 v4 v5 hf; rw [l_X7_fitting_42] at hf; cases hf
    | succ n_42 ih_42 =>
      intro s2 h2 v3 v4 v5 hf H locs ls hP hS hl
      rw [l_X7_fitting_42] at hf
      refine lv_iload hx hb dX7_fitting_42 (lv_at hl 5 rfl) ?_
      refine lv_sipush (v := 255) hx hb dX7_fitting_44 (by decide) ?_
      refine lv_icmp_gt (tgt := 94) hx hb dX7_fitting_47 (by decide) (fun c_47 => ?_) (fun c_47 => ?_)
      · have hf := ite_t c_47 hf
        refine lv_iload_n hx hb dX7_fitting_94 rfl (lv_at hl 2 rfl) ?_
        refine lv_if_ne (tgt := 102) hx hb dX7_fitting_95 (by decide) (fun c_95 => ?_) (fun c_95 => ?_)
        · have hf := ite_f c_95 hf
          refine lv_iload hx hb dX7_fitting_102 (lv_at hl 4 rfl) ?_
          have e9 := Option.some.inj hf
          have h9_0 : s2 = q.2.1 := congrArg (fun z => z.2.1) e9
          have h9_1 : h2 = q.2.2 := congrArg (fun z => z.2.2) e9
          have hP9 : va_P E.1 vwCl ((wX7o E a0 a1 a2 a3 a4 a5 a6 a7 a8 a9 s0 ++ (wX2 E a1 s1 h1 ++ (wX2 E a2 q.2.1 q.2.2 ++ (wX1 E a3 s3 ++ (wX2 E a4 s4 h4 ++ (wX1 E a5 s5 ++ (wX5 E a6 s6 ++ (wX3 E a7 s7 ++ (wX0 E a8 s8 ++ (wX6 E a9 s9 t9)))))))))) ++ sW E.2.1 L) H := by rw [← h9_0, ← h9_1]; exact hP
          exact rt_i hx hb hr hlocks (fst_e e9) hP9 hS dX7_fitting_104
        · have hf := ite_t c_95 hf
          refine lv_iload_n hx hb dX7_fitting_98 rfl (lv_at hl 3 rfl) ?_
          refine lv_goto (tgt := 104) hx hb dX7_fitting_99 (by decide) ?_
          have e9 := Option.some.inj hf
          have h9_0 : s2 = q.2.1 := congrArg (fun z => z.2.1) e9
          have h9_1 : h2 = q.2.2 := congrArg (fun z => z.2.2) e9
          have hP9 : va_P E.1 vwCl ((wX7o E a0 a1 a2 a3 a4 a5 a6 a7 a8 a9 s0 ++ (wX2 E a1 s1 h1 ++ (wX2 E a2 q.2.1 q.2.2 ++ (wX1 E a3 s3 ++ (wX2 E a4 s4 h4 ++ (wX1 E a5 s5 ++ (wX5 E a6 s6 ++ (wX3 E a7 s7 ++ (wX0 E a8 s8 ++ (wX6 E a9 s9 t9)))))))))) ++ sW E.2.1 L) H := by rw [← h9_0, ← h9_1]; exact hP
          exact rt_i hx hb hr hlocks (fst_e e9) hP9 hS dX7_fitting_104
      · have hf := ite_f c_47 hf
        refine lv_aload_n hx hb dX7_fitting_50 rfl (lv_at hl 0 rfl) ?_
        refine va_get (ci := 7) (C := RX7) (T := TX7) (N := 11) (v := .ref (a2 0)) hx hb hts i_X7_fitting_X7 hown hK hP 0 rfl rfl 1 (by decide) (hts _ m_X7_fitting_5dfb42) (fun _ h9 => h9) rfl dX7_fitting_51 ?_
        refine va_getN (ci := 2) (C := RX2) (T := TX2) (N := 11) (v := .ref (a2 3)) hx hb hts i_X7_fitting_X2 hown hK hP 8 rfl rfl 3 (by decide) (nwG hG (w := .fieldLinkNest "PickedMatch" 85 "PickedMatch$Scene" "marks" "[I" "PickedMatch") (by decide +kernel)) (fun _ h9 => h9) rfl dX7_fitting_54 ?_
        refine lv_iload_n hx hb dX7_fitting_57 rfl (lv_at hl 1 rfl) ?_
        refine lv_iload hx hb dX7_fitting_58 (lv_at hl 5 rfl) ?_
        obtain ⟨h_60, hf⟩ := ck_e hf
        refine va_iast (cA := E.2.1) (n := 6) (f := s2 3) (x := v5) hx hb hK hP (hDD s0 s1 h1 s2 h2 s3 s4 h4 s5 s6 s7 s8 s9 t9) hS 11 0 rfl rfl h_60 dX7_fitting_60 (fun H locs hP _ hS => ?_)
        obtain ⟨s2_60, hP, hf⟩ := nm_st' (P := fun z => va_P E.1 vwCl ((wX7o E a0 a1 a2 a3 a4 a5 a6 a7 a8 a9 s0 ++ (wX2 E a1 s1 h1 ++ (wX2 E a2 z h2 ++ (wX1 E a3 s3 ++ (wX2 E a4 s4 h4 ++ (wX1 E a5 s5 ++ (wX5 E a6 s6 ++ (wX3 E a7 s7 ++ (wX0 E a8 s8 ++ (wX6 E a9 s9 t9)))))))))) ++ sW E.2.1 L) H) hf hP
        refine lv_aload_n hx hb dX7_fitting_61 rfl (lv_at hl 0 rfl) ?_
        refine va_get (ci := 7) (C := RX7) (T := TX7) (N := 11) (v := .ref (a2 0)) hx hb hts i_X7_fitting_X7 hown hK hP 0 rfl rfl 1 (by decide) (hts _ m_X7_fitting_5dfb42) (fun _ h9 => h9) rfl dX7_fitting_62 ?_
        refine lv_iload_n hx hb dX7_fitting_65 rfl (lv_at hl 1 rfl) ?_
        obtain ⟨q66, hc_66, hf⟩ := cl_e hf
        have hm_66 : ∀ q ∈ (wX2 E a2 s2_60 h2) ++ sW E.2.1 L, q ∈ (wX7o E a0 a1 a2 a3 a4 a5 a6 a7 a8 a9 s0 ++ (wX2 E a1 s1 h1 ++ (wX2 E a2 s2_60 h2 ++ (wX1 E a3 s3 ++ (wX2 E a4 s4 h4 ++ (wX1 E a5 s5 ++ (wX5 E a6 s6 ++ (wX3 E a7 s7 ++ (wX0 E a8 s8 ++ (wX6 E a9 s9 t9)))))))))) ++ sW E.2.1 L := (app_mem (sub_mem (suf := []) [8, 9, 10, 11, 12, 13, 14] rfl))
        refine fin_i (E := E) (wc := (wX2 E a2 s2_60 h2) ++ sW E.2.1 L) (wc' := (wX2 E a2 q66.2 h2) ++ sW E.2.1 L) (va_runVN (As := [.int v1]) (rest := []) ⟨hx, hb, hml, hown, hts⟩ (k_X2_goesNow l E a2 L N s2_60 h2 v1 q66 hc_66 _) ⟨va_cnB 1 hts gX7_fitting_X2_goesNow_n98 rfl rfl rfl (hG.1 (.methodLinkNest "PickedMatch" 98 yX2_goesNow "PickedMatch") (by decide +kernel)) (hts _ m_X7_fitting_4cf9d8) (by decide +kernel) ⟨(Nat.le_of_ble_eq_true rfl), (Nat.le_of_ble_eq_true rfl)⟩, (hts _ m_X7_fitting_e42de2), (hts _ m_X7_fitting_678d5f)⟩ (pre_v (ci := 2) (q0 := 0) hK (sub_P hm_66 hP) (sub_Ds (ws := wX7o E a0 a1 a2 a3 a4 a5 a6 a7 a8 a9 s0 ++ (wX2 E a1 s1 h1 ++ (wX2 E a2 s2_60 h2 ++ (wX1 E a3 s3 ++ (wX2 E a4 s4 h4 ++ (wX1 E a5 s5 ++ (wX5 E a6 s6 ++ (wX3 E a7 s7 ++ (wX0 E a8 s8 ++ (wX6 E a9 s9 t9)))))))))) (wc := wX2 E a2 s2_60 h2) (suf := sW E.2.1 L) [8, 9, 10, 11, 12, 13, 14] (by decide) rfl (hDD s0 s1 h1 s2_60 h2 s3 s4 h4 s5 s6 s7 s8 s9 t9)) hS hG hAB rfl rfl) rfl rfl hl.1 rfl (lv_room (Nat.le_of_ble_eq_true rfl)) dX7_fitting_66 ⟨Nat.zero_le _, Nat.zero_le _⟩) hS (w_free (hDD s0 s1 h1 s2_60 h2 s3 s4 h4 s5 s6 s7 s8 s9 t9) hS hA hm_66) (fun H locs hP1 hk hS => ?_)
        have hP := w_joins (ws' := wX7o E a0 a1 a2 a3 a4 a5 a6 a7 a8 a9 s0 ++ (wX2 E a1 s1 h1 ++ (wX2 E a2 q66.2 h2 ++ (wX1 E a3 s3 ++ (wX2 E a4 s4 h4 ++ (wX1 E a5 s5 ++ (wX5 E a6 s6 ++ (wX3 E a7 s7 ++ (wX0 E a8 s8 ++ (wX6 E a9 s9 t9)))))))))) (wc := wX2 E a2 s2_60 h2) (wc' := wX2 E a2 q66.2 h2) hP (hDD s0 s1 h1 s2_60 h2 s3 s4 h4 s5 s6 s7 s8 s9 t9) [8, 9, 10, 11, 12, 13, 14] rfl [none, none, none, none, none, none, none, none, some 0, some 1, some 2, some 3, some 4, some 5, some 6, none, none, none, none, none, none, none, none, none, none, none, none, none, none, none, none, none, none, none, none, none, none, none, none, none, none, none, none, none, none, none, none, none, none, none] rfl rfl hk hP1
        refine lv_if_eq (tgt := 88) hx hb dX7_fitting_69 (by decide) (fun c_69 => ?_) (fun c_69 => ?_)
        · have hf := ite_t c_69 hf
          obtain ⟨x88, e_x88⟩ : ∃ y : Int32, y = v5 + 1 := ⟨_, rfl⟩
          have hf := nm_q e_x88 hf
          refine lv_iinc (v := x88) (lv' := [(5, .int x88), (0, .ref (a0 0)), (1, .int v1), (2, .int v2), (3, .int v3), (4, .int v4)]) hx hb dX7_fitting_88 hl (k := 5) rfl (by rw [e_x88]; rfl) (Nat.le_of_ble_eq_true rfl) rfl (fun ls hl => ?_)
          refine lv_goto (tgt := 42) hx hb dX7_fitting_91 (by decide) ?_
          exact ih_42 q66.2 h2 v3 v4 x88 hf _ _ _ hP hS (lv_sub hl [1, 2, 3, 4, 5, 0] rfl)
        · have hf := ite_f c_69 hf
          refine lv_iload_n hx hb dX7_fitting_72 rfl (lv_at hl 3 rfl) ?_
          refine lv_if_ne (tgt := 81) hx hb dX7_fitting_73 (by decide) (fun c_73 => ?_) (fun c_73 => ?_)
          · have hf := ite_f c_73 hf
            refine lv_iload hx hb dX7_fitting_81 (lv_at hl 4 rfl) ?_
            refine lv_istore (lv' := [(4, .int v4), (0, .ref (a0 0)), (1, .int v1), (2, .int v2), (3, .int v3), (5, .int v5)]) hx hb dX7_fitting_83 hl (Nat.le_of_ble_eq_true rfl) rfl (fun ls hl => ?_)
            obtain ⟨x85, e_x85⟩ : ∃ y : Int32, y = v3 + 1 := ⟨_, rfl⟩
            have hf := nm_q e_x85 hf
            refine lv_iinc (v := x85) (lv' := [(3, .int x85), (4, .int v4), (0, .ref (a0 0)), (1, .int v1), (2, .int v2), (5, .int v5)]) hx hb dX7_fitting_85 hl (k := 4) rfl (by rw [e_x85]; rfl) (Nat.le_of_ble_eq_true rfl) rfl (fun ls hl => ?_)
            obtain ⟨x88, e_x88⟩ : ∃ y : Int32, y = v5 + 1 := ⟨_, rfl⟩
            have hf := nm_q e_x88 hf
            refine lv_iinc (v := x88) (lv' := [(5, .int x88), (3, .int x85), (4, .int v4), (0, .ref (a0 0)), (1, .int v1), (2, .int v2)]) hx hb dX7_fitting_88 hl (k := 5) rfl (by rw [e_x88]; rfl) (Nat.le_of_ble_eq_true rfl) rfl (fun ls hl => ?_)
            refine lv_goto (tgt := 42) hx hb dX7_fitting_91 (by decide) ?_
            exact ih_42 q66.2 h2 x85 v4 x88 hf _ _ _ hP hS (lv_sub hl [3, 4, 5, 1, 2, 0] rfl)
          · have hf := ite_t c_73 hf
            refine lv_iload hx hb dX7_fitting_76 (lv_at hl 5 rfl) ?_
            refine lv_goto (tgt := 83) hx hb dX7_fitting_78 (by decide) ?_
            refine lv_istore (lv' := [(4, .int v5), (0, .ref (a0 0)), (1, .int v1), (2, .int v2), (3, .int v3), (5, .int v5)]) hx hb dX7_fitting_83 hl (Nat.le_of_ble_eq_true rfl) rfl (fun ls hl => ?_)
            obtain ⟨x85, e_x85⟩ : ∃ y : Int32, y = v3 + 1 := ⟨_, rfl⟩
            have hf := nm_q e_x85 hf
            refine lv_iinc (v := x85) (lv' := [(3, .int x85), (4, .int v5), (0, .ref (a0 0)), (1, .int v1), (2, .int v2), (5, .int v5)]) hx hb dX7_fitting_85 hl (k := 4) rfl (by rw [e_x85]; rfl) (Nat.le_of_ble_eq_true rfl) rfl (fun ls hl => ?_)
            obtain ⟨x88, e_x88⟩ : ∃ y : Int32, y = v5 + 1 := ⟨_, rfl⟩
            have hf := nm_q e_x88 hf
            refine lv_iinc (v := x88) (lv' := [(5, .int x88), (3, .int x85), (4, .int v5), (0, .ref (a0 0)), (1, .int v1), (2, .int v2)]) hx hb dX7_fitting_88 hl (k := 5) rfl (by rw [e_x88]; rfl) (Nat.le_of_ble_eq_true rfl) rfl (fun ls hl => ?_)
            refine lv_goto (tgt := 42) hx hb dX7_fitting_91 (by decide) ?_
            exact ih_42 q66.2 h2 x85 v5 x88 hf _ _ _ hP hS (lv_sub hl [3, 4, 5, 1, 2, 0] rfl)
  refine lv_aload_n hx hb dX7_fitting_0 rfl (lv_at hl 0 rfl) ?_
  refine va_get (ci := 7) (C := RX7) (T := TX7) (N := 11) (v := .ref (a1 0)) hx hb hts i_X7_fitting_X7 hown hK hP 0 rfl rfl 0 (by decide) (hts _ m_X7_fitting_265b14) (fun _ h9 => h9) rfl dX7_fitting_1 ?_
  refine lv_iload_n hx hb dX7_fitting_4 rfl (lv_at hl 1 rfl) ?_
  obtain ⟨q5, hc_5, hf⟩ := cl_e hf
  have hm_5 : ∀ q ∈ (wX2 E a1 s1 h1) ++ sW E.2.1 L, q ∈ (wX7o E a0 a1 a2 a3 a4 a5 a6 a7 a8 a9 s0 ++ (wX2 E a1 s1 h1 ++ (wX2 E a2 s2 h2 ++ (wX1 E a3 s3 ++ (wX2 E a4 s4 h4 ++ (wX1 E a5 s5 ++ (wX5 E a6 s6 ++ (wX3 E a7 s7 ++ (wX0 E a8 s8 ++ (wX6 E a9 s9 t9)))))))))) ++ sW E.2.1 L := (app_mem (sub_mem (suf := []) [1, 2, 3, 4, 5, 6, 7] rfl))
  refine fin_i (E := E) (wc := (wX2 E a1 s1 h1) ++ sW E.2.1 L) (wc' := (wX2 E a1 s1 h1) ++ sW E.2.1 L) (va_runVN (As := [.int p1]) (rest := []) ⟨hx, hb, hml, hown, hts⟩ (k_X2_hasThing l E a1 L N s1 h1 p1 q5 hc_5 _) ⟨va_cnB 1 hts gX7_fitting_X2_hasThing_n74 rfl rfl rfl (hG.1 (.methodLinkNest "PickedMatch" 74 yX2_hasThing "PickedMatch") (by decide +kernel)) (hts _ m_X7_fitting_4cf9d8) (by decide +kernel) ⟨(Nat.le_of_ble_eq_true rfl), (Nat.le_of_ble_eq_true rfl)⟩, (hts _ m_X7_fitting_0211d8), (hts _ m_X7_fitting_6099ba)⟩ (pre_v (ci := 2) (q0 := 0) hK (sub_P hm_5 hP) (sub_Ds (ws := wX7o E a0 a1 a2 a3 a4 a5 a6 a7 a8 a9 s0 ++ (wX2 E a1 s1 h1 ++ (wX2 E a2 s2 h2 ++ (wX1 E a3 s3 ++ (wX2 E a4 s4 h4 ++ (wX1 E a5 s5 ++ (wX5 E a6 s6 ++ (wX3 E a7 s7 ++ (wX0 E a8 s8 ++ (wX6 E a9 s9 t9)))))))))) (wc := wX2 E a1 s1 h1) (suf := sW E.2.1 L) [1, 2, 3, 4, 5, 6, 7] (by decide) rfl (hDD s0 s1 h1 s2 h2 s3 s4 h4 s5 s6 s7 s8 s9 t9)) hS hG hAB rfl rfl) rfl rfl hl.1 rfl (lv_room (Nat.le_of_ble_eq_true rfl)) dX7_fitting_5 ⟨Nat.zero_le _, Nat.zero_le _⟩) hS (w_free (hDD s0 s1 h1 s2 h2 s3 s4 h4 s5 s6 s7 s8 s9 t9) hS hA hm_5) (fun H locs hP1 hk hS => ?_)
  have hP := w_joins (ws' := wX7o E a0 a1 a2 a3 a4 a5 a6 a7 a8 a9 s0 ++ (wX2 E a1 s1 h1 ++ (wX2 E a2 s2 h2 ++ (wX1 E a3 s3 ++ (wX2 E a4 s4 h4 ++ (wX1 E a5 s5 ++ (wX5 E a6 s6 ++ (wX3 E a7 s7 ++ (wX0 E a8 s8 ++ (wX6 E a9 s9 t9)))))))))) (wc := wX2 E a1 s1 h1) (wc' := wX2 E a1 s1 h1) hP (hDD s0 s1 h1 s2 h2 s3 s4 h4 s5 s6 s7 s8 s9 t9) [1, 2, 3, 4, 5, 6, 7] rfl [none, some 0, some 1, some 2, some 3, some 4, some 5, some 6, none, none, none, none, none, none, none, none, none, none, none, none, none, none, none, none, none, none, none, none, none, none, none, none, none, none, none, none, none, none, none, none, none, none, none, none, none, none, none, none, none, none] rfl rfl hk hP1
  refine lv_if_eq (tgt := 20) hx hb dX7_fitting_8 (by decide) (fun c_8 => ?_) (fun c_8 => ?_)
  · have hf := ite_t c_8 hf
    refine lv_iconst (v := (-1)) hx hb dX7_fitting_20 (by decide) ?_
    have e9 := Option.some.inj hf
    have h9_0 : s2 = q.2.1 := congrArg (fun z => z.2.1) e9
    have h9_1 : h2 = q.2.2 := congrArg (fun z => z.2.2) e9
    have hP9 : va_P E.1 vwCl ((wX7o E a0 a1 a2 a3 a4 a5 a6 a7 a8 a9 s0 ++ (wX2 E a1 s1 h1 ++ (wX2 E a2 q.2.1 q.2.2 ++ (wX1 E a3 s3 ++ (wX2 E a4 s4 h4 ++ (wX1 E a5 s5 ++ (wX5 E a6 s6 ++ (wX3 E a7 s7 ++ (wX0 E a8 s8 ++ (wX6 E a9 s9 t9)))))))))) ++ sW E.2.1 L) H := by rw [← h9_0, ← h9_1]; exact hP
    exact rt_i hx hb hr hlocks (fst_e e9) hP9 hS dX7_fitting_21
  · have hf := ite_f c_8 hf
    refine lv_iload_n hx hb dX7_fitting_11 rfl (lv_at hl 2 rfl) ?_
    refine lv_iconst (v := 0) hx hb dX7_fitting_12 (by decide) ?_
    refine lv_iconst (v := 1) hx hb dX7_fitting_13 (by decide) ?_
    obtain ⟨q14, hc_14, hf⟩ := cl_e hf
    refine fin_i (E := E) (wc := ([] : va_W)) (wc' := ([] : va_W)) (va_runS (As := [.int p2, .int 0, .int 1]) (rest := []) ⟨hx, hb, hml, hown, hts⟩ (k_X7_isWithin l E N p2 0 1 q14 hc_14 _) (va_cwS 3 hts gX7_fitting_X7_isWithin rfl rfl rfl (by decide +kernel) ⟨(Nat.le_of_ble_eq_true rfl), (Nat.le_of_ble_eq_true rfl)⟩) (pre_s hK va_P_nil va_D_nil hS hG hAB) rfl rfl hl.1 rfl (lv_room (Nat.le_of_ble_eq_true rfl)) dX7_fitting_14 ⟨Nat.zero_le _, Nat.zero_le _⟩) hS (free_nil hS hA) (fun H locs hP1 hk hS => ?_)
    have hP := w_kept0 hP hk
    refine lv_if_ne (tgt := 22) hx hb dX7_fitting_17 (by decide) (fun c_17 => ?_) (fun c_17 => ?_)
    · have hf := ite_f c_17 hf
      refine lv_iconst (v := 0) hx hb dX7_fitting_22 (by decide) ?_
      refine lv_istore_n (lv' := [(3, .int 0), (0, .ref (a0 0)), (1, .int p1), (2, .int p2)]) hx hb dX7_fitting_23 rfl hl (Nat.le_of_ble_eq_true rfl) rfl (fun ls hl => ?_)
      refine lv_bipush (v := (-5)) hx hb dX7_fitting_24 (by decide) ?_
      refine lv_topi (fun x26 e_x26 => ?_)
      have hf := nm_q e_x26 hf
      refine lv_istore (lv' := [(4, .int x26), (3, .int 0), (0, .ref (a0 0)), (1, .int p1), (2, .int p2)]) hx hb dX7_fitting_26 hl (Nat.le_of_ble_eq_true rfl) rfl (fun ls hl => ?_)
      refine lv_aload_n hx hb dX7_fitting_28 rfl (lv_at hl 2 rfl) ?_
      refine va_get (ci := 7) (C := RX7) (T := TX7) (N := 11) (v := .ref (a2 0)) hx hb hts i_X7_fitting_X7 hown hK hP 0 rfl rfl 1 (by decide) (hts _ m_X7_fitting_5dfb42) (fun _ h9 => h9) rfl dX7_fitting_29 ?_
      refine lv_aload_n hx hb dX7_fitting_32 rfl (lv_at hl 2 rfl) ?_
      refine va_get (ci := 7) (C := RX7) (T := TX7) (N := 11) (v := .ref (a1 0)) hx hb hts i_X7_fitting_X7 hown hK hP 0 rfl rfl 0 (by decide) (hts _ m_X7_fitting_265b14) (fun _ h9 => h9) rfl dX7_fitting_33 ?_
      obtain ⟨q36, hc_36, hf⟩ := cl_e hf
      have hm_36 : ∀ q ∈ (wX2 E a2 s2 h2 ++ (wX2 E a1 s1 h1)) ++ sW E.2.1 L, q ∈ (wX7o E a0 a1 a2 a3 a4 a5 a6 a7 a8 a9 s0 ++ (wX2 E a1 s1 h1 ++ (wX2 E a2 s2 h2 ++ (wX1 E a3 s3 ++ (wX2 E a4 s4 h4 ++ (wX1 E a5 s5 ++ (wX5 E a6 s6 ++ (wX3 E a7 s7 ++ (wX0 E a8 s8 ++ (wX6 E a9 s9 t9)))))))))) ++ sW E.2.1 L := (app_mem (sub_mem (suf := []) [8, 9, 10, 11, 12, 13, 14, 1, 2, 3, 4, 5, 6, 7] rfl))
      refine fin_v (E := E) (wc := (wX2 E a2 s2 h2 ++ (wX2 E a1 s1 h1)) ++ sW E.2.1 L) (wc' := (wX2 E a2 q36.1 q36.2 ++ (wX2 E a1 s1 h1)) ++ sW E.2.1 L) (va_runVN (As := [.ref (a1 0)]) (rest := []) ⟨hx, hb, hml, hown, hts⟩ (k_X2_becomeAs l E a2 a1 L N s2 h2 s1 h1 q36 hc_36 _) ⟨va_cnB 1 hts gX7_fitting_X2_becomeAs_n179 rfl rfl rfl (hG.1 (.methodLinkNest "PickedMatch" 179 yX2_becomeAs "PickedMatch") (by decide +kernel)) (hts _ m_X7_fitting_4cf9d8) (by decide +kernel) ⟨(Nat.le_of_ble_eq_true rfl), (Nat.le_of_ble_eq_true rfl)⟩, (hts _ m_X7_fitting_c21ce8), (hts _ m_X7_fitting_986579)⟩ (pre_v (ci := 2) (q0 := 0) hK (sub_P hm_36 hP) (sub_Ds (ws := wX7o E a0 a1 a2 a3 a4 a5 a6 a7 a8 a9 s0 ++ (wX2 E a1 s1 h1 ++ (wX2 E a2 s2 h2 ++ (wX1 E a3 s3 ++ (wX2 E a4 s4 h4 ++ (wX1 E a5 s5 ++ (wX5 E a6 s6 ++ (wX3 E a7 s7 ++ (wX0 E a8 s8 ++ (wX6 E a9 s9 t9)))))))))) (wc := wX2 E a2 s2 h2 ++ (wX2 E a1 s1 h1)) (suf := sW E.2.1 L) [8, 9, 10, 11, 12, 13, 14, 1, 2, 3, 4, 5, 6, 7] (by decide) rfl (hDD s0 s1 h1 s2 h2 s3 s4 h4 s5 s6 s7 s8 s9 t9)) hS hG hAB rfl rfl) rfl rfl hl.1 rfl (lv_room (Nat.le_of_ble_eq_true rfl)) dX7_fitting_36 ⟨Nat.zero_le _, Nat.zero_le _⟩) hS (w_free (hDD s0 s1 h1 s2 h2 s3 s4 h4 s5 s6 s7 s8 s9 t9) hS hA hm_36) (fun H locs hP1 hk hS => ?_)
      have hP := w_joins (ws' := wX7o E a0 a1 a2 a3 a4 a5 a6 a7 a8 a9 s0 ++ (wX2 E a1 s1 h1 ++ (wX2 E a2 q36.1 q36.2 ++ (wX1 E a3 s3 ++ (wX2 E a4 s4 h4 ++ (wX1 E a5 s5 ++ (wX5 E a6 s6 ++ (wX3 E a7 s7 ++ (wX0 E a8 s8 ++ (wX6 E a9 s9 t9)))))))))) (wc := wX2 E a2 s2 h2 ++ (wX2 E a1 s1 h1)) (wc' := wX2 E a2 q36.1 q36.2 ++ (wX2 E a1 s1 h1)) hP (hDD s0 s1 h1 s2 h2 s3 s4 h4 s5 s6 s7 s8 s9 t9) [8, 9, 10, 11, 12, 13, 14, 1, 2, 3, 4, 5, 6, 7] rfl [none, some 7, some 8, some 9, some 10, some 11, some 12, some 13, some 0, some 1, some 2, some 3, some 4, some 5, some 6, none, none, none, none, none, none, none, none, none, none, none, none, none, none, none, none, none, none, none, none, none, none, none, none, none, none, none, none, none, none, none, none, none, none, none] rfl rfl hk hP1
      refine lv_iconst (v := 0) hx hb dX7_fitting_39 (by decide) ?_
      refine lv_istore (lv' := [(5, .int 0), (4, .int x26), (3, .int 0), (0, .ref (a0 0)), (1, .int p1), (2, .int p2)]) hx hb dX7_fitting_40 hl (Nat.le_of_ble_eq_true rfl) rfl (fun ls hl => ?_)
      exact hL_42 s1 h1 p1 p2 N q36.1 q36.2 0 x26 0 hf _ _ _ hP hS (lv_sub hl [3, 4, 5, 2, 1, 0] rfl)
    · have hf := ite_t c_17 hf
      refine lv_iconst (v := (-1)) hx hb dX7_fitting_20 (by decide) ?_
      have e9 := Option.some.inj hf
      have h9_0 : s2 = q.2.1 := congrArg (fun z => z.2.1) e9
      have h9_1 : h2 = q.2.2 := congrArg (fun z => z.2.2) e9
      have hP9 : va_P E.1 vwCl ((wX7o E a0 a1 a2 a3 a4 a5 a6 a7 a8 a9 s0 ++ (wX2 E a1 s1 h1 ++ (wX2 E a2 q.2.1 q.2.2 ++ (wX1 E a3 s3 ++ (wX2 E a4 s4 h4 ++ (wX1 E a5 s5 ++ (wX5 E a6 s6 ++ (wX3 E a7 s7 ++ (wX0 E a8 s8 ++ (wX6 E a9 s9 t9)))))))))) ++ sW E.2.1 L) H := by rw [← h9_0, ← h9_1]; exact hP
      exact rt_i hx hb hr hlocks (fst_e e9) hP9 hS dX7_fitting_21
abbrev rm_X7_see : Room := { frames := 1, cells := 0, slots := 0, locals := 23 }
theorem m_X7_see_265b14 : Cond.fieldLink RX7 12 "PickedMatch" "scene" "LPickedMatch$Scene;" ∈ wsX7_see := by decide +kernel
theorem i_X7_see_X7 : ∀ w ∈ wsX70, w ∈ wsX7_see := fun _ h => List.mem_cons_of_mem _ (List.mem_append_left _ (List.mem_append_left _ (List.mem_append_right _ h)))
theorem m_X7_see_4cf9d8 : Cond.initialized RX2 ∈ wsX7_see := by decide +kernel
theorem m_X7_see_0211d8 : Cond.instanceMethod yX2_hasThing ∈ wsX7_see := by decide +kernel
theorem m_X7_see_6099ba : Cond.selects RX2 yX2_hasThing yX2_hasThing ∈ wsX7_see := by decide +kernel
theorem m_X7_see_6a5209 : Cond.fieldLink RX7 24 "PickedMatch" "notes" "LPickedMatch$Notes;" ∈ wsX7_see := by decide +kernel
theorem i_X7_see_X1 : ∀ w ∈ wsX10, w ∈ wsX7_see := fun _ h => List.mem_cons_of_mem _ (List.mem_append_left _ (List.mem_append_right _ h))
theorem m_X7_see_6e074f : Cond.initialized RX1 ∈ wsX7_see := by decide +kernel
theorem m_X7_see_4b7d33 : Cond.instanceMethod yX1_addSeen ∈ wsX7_see := by decide +kernel
theorem m_X7_see_32800e : Cond.selects RX1 yX1_addSeen yX1_addSeen ∈ wsX7_see := by decide +kernel
set_option maxHeartbeats 8000000 in
set_option maxRecDepth 100000 in
theorem k_X7_see (l : Launch) (E : Ev) (a0 : Nat → Nat) (a1 : Nat → Nat) (a2 : Nat → Nat) (a3 : Nat → Nat) (a4 : Nat → Nat) (a5 : Nat → Nat) (a6 : Nat → Nat) (a7 : Nat → Nat) (a8 : Nat → Nat) (a9 : Nat → Nat) (L : List SR) (N : Nat) (s0 : St) (s1 : St) (h1 : Option SR) (s2 : St) (h2 : Option SR) (s3 : St) (s4 : St) (h4 : Option SR) (s5 : St) (s6 : St) (s7 : St) (s8 : St) (s9 : St) (t9 : Nat → Nat → Int64) (p1 : Int32) (p2 : Int32) (p3 : Int32) (q : (Int32 × St)) (hf : f_X7_see N s1 s3 p1 p2 p3 = some q) : Ci l yX7_see wsX7_see rm_X7_see E [.ref (a0 0), .int p1, .int p2, .int p3] ((wX7o E a0 a1 a2 a3 a4 a5 a6 a7 a8 a9 s0 ++ (wX2 E a1 s1 h1 ++ (wX2 E a2 s2 h2 ++ (wX1 E a3 s3 ++ (wX2 E a4 s4 h4 ++ (wX1 E a5 s5 ++ (wX5 E a6 s6 ++ (wX3 E a7 s7 ++ (wX0 E a8 s8 ++ (wX6 E a9 s9 t9)))))))))) ++ sW E.2.1 L) ((wX7o E a0 a1 a2 a3 a4 a5 a6 a7 a8 a9 s0 ++ (wX2 E a1 s1 h1 ++ (wX2 E a2 s2 h2 ++ (wX1 E a3 q.2 ++ (wX2 E a4 s4 h4 ++ (wX1 E a5 s5 ++ (wX5 E a6 s6 ++ (wX3 E a7 s7 ++ (wX0 E a8 s8 ++ (wX6 E a9 s9 t9)))))))))) ++ sW E.2.1 L) q.1 := by
  unfold f_X7_see at hf
  intro sz
  refine Met.ofW (cc := cX7_see) (maxL := 4) (ret := (some .int)) (by decide) rfl ?_
  intro p e s m args below meth c s₁ B hml hpre
  obtain ⟨rfl, hsz, hP, hK, hD0, hG, hA, hAB⟩ := start hpre
  have hx := B.exec
  have hb := B.bytes
  have hr := B.returns
  have hts := atoms_spec (ws := wsX7_see) B.pre
  have hown : s.vm.findClass RX7 = some m.cls := findClass_of_methodNamed B.named
  have hlocks := B.notSynchronized
  subst hsz
  generalize va_A ((wX7o E a0 a1 a2 a3 a4 a5 a6 a7 a8 a9 s0 ++ (wX2 E a1 s1 h1 ++ (wX2 E a2 s2 h2 ++ (wX1 E a3 s3 ++ (wX2 E a4 s4 h4 ++ (wX1 E a5 s5 ++ (wX5 E a6 s6 ++ (wX3 E a7 s7 ++ (wX0 E a8 s8 ++ (wX6 E a9 s9 t9)))))))))) ++ sW E.2.1 L) s.heap.size = A0 at hD0 hA hAB ⊢
  have hDD : ∀ (s0 : St) (s1 : St) (h1 : Option SR) (s2 : St) (h2 : Option SR) (s3 : St) (s4 : St) (h4 : Option SR) (s5 : St) (s6 : St) (s7 : St) (s8 : St) (s9 : St) (t9 : Nat → Nat → Int64), va_D A0 ((wX7o E a0 a1 a2 a3 a4 a5 a6 a7 a8 a9 s0 ++ (wX2 E a1 s1 h1 ++ (wX2 E a2 s2 h2 ++ (wX1 E a3 s3 ++ (wX2 E a4 s4 h4 ++ (wX1 E a5 s5 ++ (wX5 E a6 s6 ++ (wX3 E a7 s7 ++ (wX0 E a8 s8 ++ (wX6 E a9 s9 t9)))))))))) ++ sW E.2.1 L) := fun s0 s1 h1 s2 h2 s3 s4 h4 s5 s6 s7 s8 s9 t9 => vD_addr hD0 rfl
  have hS : va_S A0 s.heap s.heap [] := va_S.rf
  have hl := lv_entry ([.ref (a0 0), .int p1, .int p2, .int p3]) (n := 4) (Nat.le_of_ble_eq_true rfl)
  rw [lg_entry_eq]
  generalize (lg_sl ([.ref (a0 0), .int p1, .int p2, .int p3]) ++ List.replicate (4 - (lg_sl ([.ref (a0 0), .int p1, .int p2, .int p3])).length) Slot.unset).toArray = ls at hl ⊢
  have hl : lv_has ls 4 [(0, .ref (a0 0)), (1, .int p1), (2, .int p2), (3, .int p3)] := hl
  refine lv_iload_n hx hb dX7_see_0 rfl (lv_at hl 1 rfl) ?_
  refine lv_iconst (v := (-1)) hx hb dX7_see_1 (by decide) ?_
  refine lv_icmp_ne (tgt := 15) hx hb dX7_see_2 (by decide) (fun c_2 => ?_) (fun c_2 => ?_)
  · have hf := ite_f c_2 hf
    refine lv_aload_n hx hb dX7_see_15 rfl (lv_at hl 0 rfl) ?_
    refine va_get (ci := 7) (C := RX7) (T := TX7) (N := 11) (v := .ref (a1 0)) hx hb hts i_X7_see_X7 hown hK hP 0 rfl rfl 0 (by decide) (hts _ m_X7_see_265b14) (fun _ h9 => h9) rfl dX7_see_16 ?_
    refine lv_iload_n hx hb dX7_see_19 rfl (lv_at hl 1 rfl) ?_
    obtain ⟨q20, hc_20, hf⟩ := cl_e hf
    have hm_20 : ∀ q ∈ (wX2 E a1 s1 h1) ++ sW E.2.1 L, q ∈ (wX7o E a0 a1 a2 a3 a4 a5 a6 a7 a8 a9 s0 ++ (wX2 E a1 s1 h1 ++ (wX2 E a2 s2 h2 ++ (wX1 E a3 s3 ++ (wX2 E a4 s4 h4 ++ (wX1 E a5 s5 ++ (wX5 E a6 s6 ++ (wX3 E a7 s7 ++ (wX0 E a8 s8 ++ (wX6 E a9 s9 t9)))))))))) ++ sW E.2.1 L := (app_mem (sub_mem (suf := []) [1, 2, 3, 4, 5, 6, 7] rfl))
    refine fin_i (E := E) (wc := (wX2 E a1 s1 h1) ++ sW E.2.1 L) (wc' := (wX2 E a1 s1 h1) ++ sW E.2.1 L) (va_runVN (As := [.int p1]) (rest := []) ⟨hx, hb, hml, hown, hts⟩ (k_X2_hasThing l E a1 L N s1 h1 p1 q20 hc_20 _) ⟨va_cnB 1 hts gX7_see_X2_hasThing_n74 rfl rfl rfl (hG.1 (.methodLinkNest "PickedMatch" 74 yX2_hasThing "PickedMatch") (by decide +kernel)) (hts _ m_X7_see_4cf9d8) (by decide +kernel) ⟨(Nat.le_of_ble_eq_true rfl), (Nat.le_of_ble_eq_true rfl)⟩, (hts _ m_X7_see_0211d8), (hts _ m_X7_see_6099ba)⟩ (pre_v (ci := 2) (q0 := 0) hK (sub_P hm_20 hP) (sub_Ds (ws := wX7o E a0 a1 a2 a3 a4 a5 a6 a7 a8 a9 s0 ++ (wX2 E a1 s1 h1 ++ (wX2 E a2 s2 h2 ++ (wX1 E a3 s3 ++ (wX2 E a4 s4 h4 ++ (wX1 E a5 s5 ++ (wX5 E a6 s6 ++ (wX3 E a7 s7 ++ (wX0 E a8 s8 ++ (wX6 E a9 s9 t9)))))))))) (wc := wX2 E a1 s1 h1) (suf := sW E.2.1 L) [1, 2, 3, 4, 5, 6, 7] (by decide) rfl (hDD s0 s1 h1 s2 h2 s3 s4 h4 s5 s6 s7 s8 s9 t9)) hS hG hAB rfl rfl) rfl rfl hl.1 rfl (lv_room (Nat.le_of_ble_eq_true rfl)) dX7_see_20 ⟨Nat.zero_le _, Nat.zero_le _⟩) hS (w_free (hDD s0 s1 h1 s2 h2 s3 s4 h4 s5 s6 s7 s8 s9 t9) hS hA hm_20) (fun H locs hP1 hk hS => ?_)
    have hP := w_joins (ws' := wX7o E a0 a1 a2 a3 a4 a5 a6 a7 a8 a9 s0 ++ (wX2 E a1 s1 h1 ++ (wX2 E a2 s2 h2 ++ (wX1 E a3 s3 ++ (wX2 E a4 s4 h4 ++ (wX1 E a5 s5 ++ (wX5 E a6 s6 ++ (wX3 E a7 s7 ++ (wX0 E a8 s8 ++ (wX6 E a9 s9 t9)))))))))) (wc := wX2 E a1 s1 h1) (wc' := wX2 E a1 s1 h1) hP (hDD s0 s1 h1 s2 h2 s3 s4 h4 s5 s6 s7 s8 s9 t9) [1, 2, 3, 4, 5, 6, 7] rfl [none, some 0, some 1, some 2, some 3, some 4, some 5, some 6, none, none, none, none, none, none, none, none, none, none, none, none, none, none, none, none, none, none, none, none, none, none, none, none, none, none, none, none, none, none, none, none, none, none, none, none, none, none, none, none, none, none] rfl rfl hk hP1
    refine lv_if_ne (tgt := 28) hx hb dX7_see_23 (by decide) (fun c_23 => ?_) (fun c_23 => ?_)
    · have hf := ite_f c_23 hf
      refine lv_iload_n hx hb dX7_see_28 rfl (lv_at hl 3 rfl) ?_
      refine lv_iconst (v := 0) hx hb dX7_see_29 (by decide) ?_
      refine lv_bipush (v := 20) hx hb dX7_see_30 (by decide) ?_
      obtain ⟨q32, hc_32, hf⟩ := cl_e hf
      refine fin_i (E := E) (wc := ([] : va_W)) (wc' := ([] : va_W)) (va_runS (As := [.int p3, .int 0, .int 20]) (rest := []) ⟨hx, hb, hml, hown, hts⟩ (k_X7_isWithin l E N p3 0 20 q32 hc_32 _) (va_cwS 3 hts gX7_see_X7_isWithin rfl rfl rfl (by decide +kernel) ⟨(Nat.le_of_ble_eq_true rfl), (Nat.le_of_ble_eq_true rfl)⟩) (pre_s hK va_P_nil va_D_nil hS hG hAB) rfl rfl hl.1 rfl (lv_room (Nat.le_of_ble_eq_true rfl)) dX7_see_32 ⟨Nat.zero_le _, Nat.zero_le _⟩) hS (free_nil hS hA) (fun H locs hP1 hk hS => ?_)
      have hP := w_kept0 hP hk
      refine lv_if_ne (tgt := 41) hx hb dX7_see_35 (by decide) (fun c_35 => ?_) (fun c_35 => ?_)
      · have hf := ite_f c_35 hf
        refine lv_aload_n hx hb dX7_see_41 rfl (lv_at hl 0 rfl) ?_
        refine va_get (ci := 7) (C := RX7) (T := TX7) (N := 11) (v := .ref (a3 0)) hx hb hts i_X7_see_X7 hown hK hP 0 rfl rfl 2 (by decide) (hts _ m_X7_see_6a5209) (fun _ h9 => h9) rfl dX7_see_42 ?_
        refine va_getN (ci := 1) (C := RX1) (T := TX1) (N := 10) (v := .int (s3 3 0)) hx hb hts i_X7_see_X1 hown hK hP 15 rfl rfl 3 (by decide) (nwG hG (w := .fieldLinkNest "PickedMatch" 206 "PickedMatch$Notes" "seenCount" "I" "PickedMatch") (by decide +kernel)) (fun _ h9 => h9) rfl dX7_see_45 ?_
        refine lv_iconst (v := 5) hx hb dX7_see_48 (by decide) ?_
        refine lv_icmp_lt (tgt := 55) hx hb dX7_see_49 (by decide) (fun c_49 => ?_) (fun c_49 => ?_)
        · have hf := ite_t c_49 hf
          refine lv_aload_n hx hb dX7_see_55 rfl (lv_at hl 0 rfl) ?_
          refine va_get (ci := 7) (C := RX7) (T := TX7) (N := 11) (v := .ref (a3 0)) hx hb hts i_X7_see_X7 hown hK hP 0 rfl rfl 2 (by decide) (hts _ m_X7_see_6a5209) (fun _ h9 => h9) rfl dX7_see_56 ?_
          refine lv_iload_n hx hb dX7_see_59 rfl (lv_at hl 1 rfl) ?_
          refine lv_iload_n hx hb dX7_see_60 rfl (lv_at hl 2 rfl) ?_
          refine lv_iload_n hx hb dX7_see_61 rfl (lv_at hl 3 rfl) ?_
          obtain ⟨q62, hc_62, hf⟩ := cl_e hf
          have hm_62 : ∀ q ∈ wX1 E a3 s3, q ∈ (wX7o E a0 a1 a2 a3 a4 a5 a6 a7 a8 a9 s0 ++ (wX2 E a1 s1 h1 ++ (wX2 E a2 s2 h2 ++ (wX1 E a3 s3 ++ (wX2 E a4 s4 h4 ++ (wX1 E a5 s5 ++ (wX5 E a6 s6 ++ (wX3 E a7 s7 ++ (wX0 E a8 s8 ++ (wX6 E a9 s9 t9)))))))))) ++ sW E.2.1 L := (inl_mem (sub_mem (suf := []) [15, 16, 17, 18, 19, 20, 21, 22] rfl))
          refine fin_i (E := E) (wc := wX1 E a3 s3) (wc' := wX1 E a3 q62.2) (va_runVN (As := [.int p1, .int p2, .int p3]) (rest := []) ⟨hx, hb, hml, hown, hts⟩ (k_X1_addSeen l E a3 N s3 p1 p2 p3 q62 hc_62 _) ⟨va_cnB 3 hts gX7_see_X1_addSeen_n209 rfl rfl rfl (hG.1 (.methodLinkNest "PickedMatch" 209 yX1_addSeen "PickedMatch") (by decide +kernel)) (hts _ m_X7_see_6e074f) (by decide +kernel) ⟨(Nat.le_of_ble_eq_true rfl), (Nat.le_of_ble_eq_true rfl)⟩, (hts _ m_X7_see_4b7d33), (hts _ m_X7_see_32800e)⟩ (pre_v (ci := 1) (q0 := 0) hK (sub_P hm_62 hP) (sub_Dn (ws := wX7o E a0 a1 a2 a3 a4 a5 a6 a7 a8 a9 s0 ++ (wX2 E a1 s1 h1 ++ (wX2 E a2 s2 h2 ++ (wX1 E a3 s3 ++ (wX2 E a4 s4 h4 ++ (wX1 E a5 s5 ++ (wX5 E a6 s6 ++ (wX3 E a7 s7 ++ (wX0 E a8 s8 ++ (wX6 E a9 s9 t9)))))))))) (wc := wX1 E a3 s3) (suf := sW E.2.1 L) [15, 16, 17, 18, 19, 20, 21, 22] (by decide) rfl (hDD s0 s1 h1 s2 h2 s3 s4 h4 s5 s6 s7 s8 s9 t9)) hS hG hAB rfl rfl) rfl rfl hl.1 rfl (lv_room (Nat.le_of_ble_eq_true rfl)) dX7_see_62 ⟨Nat.zero_le _, Nat.zero_le _⟩) hS (w_free (hDD s0 s1 h1 s2 h2 s3 s4 h4 s5 s6 s7 s8 s9 t9) hS hA hm_62) (fun H locs hP1 hk hS => ?_)
          have hP := w_join (ws' := wX7o E a0 a1 a2 a3 a4 a5 a6 a7 a8 a9 s0 ++ (wX2 E a1 s1 h1 ++ (wX2 E a2 s2 h2 ++ (wX1 E a3 q62.2 ++ (wX2 E a4 s4 h4 ++ (wX1 E a5 s5 ++ (wX5 E a6 s6 ++ (wX3 E a7 s7 ++ (wX0 E a8 s8 ++ (wX6 E a9 s9 t9)))))))))) (wc := wX1 E a3 s3) (wc' := wX1 E a3 q62.2) hP (hDD s0 s1 h1 s2 h2 s3 s4 h4 s5 s6 s7 s8 s9 t9) [15, 16, 17, 18, 19, 20, 21, 22] rfl [none, none, none, none, none, none, none, none, none, none, none, none, none, none, none, some 0, some 1, some 2, some 3, some 4, some 5, some 6, some 7, none, none, none, none, none, none, none, none, none, none, none, none, none, none, none, none, none, none, none, none, none, none, none, none, none, none, none] rfl rfl hk hP1
          have e9 := Option.some.inj hf
          have h9_0 : q62.2 = q.2 := congrArg (fun z => z.2) e9
          have hP9 : va_P E.1 vwCl ((wX7o E a0 a1 a2 a3 a4 a5 a6 a7 a8 a9 s0 ++ (wX2 E a1 s1 h1 ++ (wX2 E a2 s2 h2 ++ (wX1 E a3 q.2 ++ (wX2 E a4 s4 h4 ++ (wX1 E a5 s5 ++ (wX5 E a6 s6 ++ (wX3 E a7 s7 ++ (wX0 E a8 s8 ++ (wX6 E a9 s9 t9)))))))))) ++ sW E.2.1 L) H := by rw [← h9_0]; exact hP
          exact rt_i hx hb hr hlocks (fst_e e9) hP9 hS dX7_see_65
        · have hf := ite_f c_49 hf
          refine lv_bipush (v := (-4)) hx hb dX7_see_52 (by decide) ?_
          have e9 := Option.some.inj hf
          have h9_0 : s3 = q.2 := congrArg (fun z => z.2) e9
          have hP9 : va_P E.1 vwCl ((wX7o E a0 a1 a2 a3 a4 a5 a6 a7 a8 a9 s0 ++ (wX2 E a1 s1 h1 ++ (wX2 E a2 s2 h2 ++ (wX1 E a3 q.2 ++ (wX2 E a4 s4 h4 ++ (wX1 E a5 s5 ++ (wX5 E a6 s6 ++ (wX3 E a7 s7 ++ (wX0 E a8 s8 ++ (wX6 E a9 s9 t9)))))))))) ++ sW E.2.1 L) H := by rw [← h9_0]; exact hP
          exact rt_i hx hb hr hlocks (fst_e e9) hP9 hS dX7_see_54
      · have hf := ite_t c_35 hf
        refine lv_bipush (v := (-2)) hx hb dX7_see_38 (by decide) ?_
        have e9 := Option.some.inj hf
        have h9_0 : s3 = q.2 := congrArg (fun z => z.2) e9
        have hP9 : va_P E.1 vwCl ((wX7o E a0 a1 a2 a3 a4 a5 a6 a7 a8 a9 s0 ++ (wX2 E a1 s1 h1 ++ (wX2 E a2 s2 h2 ++ (wX1 E a3 q.2 ++ (wX2 E a4 s4 h4 ++ (wX1 E a5 s5 ++ (wX5 E a6 s6 ++ (wX3 E a7 s7 ++ (wX0 E a8 s8 ++ (wX6 E a9 s9 t9)))))))))) ++ sW E.2.1 L) H := by rw [← h9_0]; exact hP
        exact rt_i hx hb hr hlocks (fst_e e9) hP9 hS dX7_see_40
    · have hf := ite_t c_23 hf
      refine lv_iconst (v := (-1)) hx hb dX7_see_26 (by decide) ?_
      have e9 := Option.some.inj hf
      have h9_0 : s3 = q.2 := congrArg (fun z => z.2) e9
      have hP9 : va_P E.1 vwCl ((wX7o E a0 a1 a2 a3 a4 a5 a6 a7 a8 a9 s0 ++ (wX2 E a1 s1 h1 ++ (wX2 E a2 s2 h2 ++ (wX1 E a3 q.2 ++ (wX2 E a4 s4 h4 ++ (wX1 E a5 s5 ++ (wX5 E a6 s6 ++ (wX3 E a7 s7 ++ (wX0 E a8 s8 ++ (wX6 E a9 s9 t9)))))))))) ++ sW E.2.1 L) H := by rw [← h9_0]; exact hP
      exact rt_i hx hb hr hlocks (fst_e e9) hP9 hS dX7_see_27
  · have hf := ite_t c_2 hf
    refine lv_aload_n hx hb dX7_see_5 rfl (lv_at hl 0 rfl) ?_
    refine va_get (ci := 7) (C := RX7) (T := TX7) (N := 11) (v := .ref (a3 0)) hx hb hts i_X7_see_X7 hown hK hP 0 rfl rfl 2 (by decide) (hts _ m_X7_see_6a5209) (fun _ h9 => h9) rfl dX7_see_6 ?_
    refine lv_iconst (v := 0) hx hb dX7_see_9 (by decide) ?_
    refine va_putN (ci := 1) (v := .int 0) (ty := .int) (C := RX1) (T := TX1) (N := 10) hx hb hts i_X7_see_X1 tyX1 tyX1_ok nmX1 hown hK hP (hDD s0 s1 h1 s2 h2 s3 s4 h4 s5 s6 s7 s8 s9 t9) hS 15 rfl rfl 3 (by decide) (nwG hG (w := .fieldLinkNest "PickedMatch" 206 "PickedMatch$Notes" "seenCount" "I" "PickedMatch") (by decide +kernel)) (fun _ h9 => h9) rfl (by decide +kernel) rfl rfl (Nat.le_of_ble_eq_true rfl) dX7_see_10 (fun H locs hP _ hS => ?_)
    obtain ⟨s3_10, hP, hf⟩ := nm_st' (P := fun z => va_P E.1 vwCl ((wX7o E a0 a1 a2 a3 a4 a5 a6 a7 a8 a9 s0 ++ (wX2 E a1 s1 h1 ++ (wX2 E a2 s2 h2 ++ (wX1 E a3 z ++ (wX2 E a4 s4 h4 ++ (wX1 E a5 s5 ++ (wX5 E a6 s6 ++ (wX3 E a7 s7 ++ (wX0 E a8 s8 ++ (wX6 E a9 s9 t9)))))))))) ++ sW E.2.1 L) H) hf hP
    refine lv_iconst (v := 0) hx hb dX7_see_13 (by decide) ?_
    have e9 := Option.some.inj hf
    have h9_0 : s3_10 = q.2 := congrArg (fun z => z.2) e9
    have hP9 : va_P E.1 vwCl ((wX7o E a0 a1 a2 a3 a4 a5 a6 a7 a8 a9 s0 ++ (wX2 E a1 s1 h1 ++ (wX2 E a2 s2 h2 ++ (wX1 E a3 q.2 ++ (wX2 E a4 s4 h4 ++ (wX1 E a5 s5 ++ (wX5 E a6 s6 ++ (wX3 E a7 s7 ++ (wX0 E a8 s8 ++ (wX6 E a9 s9 t9)))))))))) ++ sW E.2.1 L) H := by rw [← h9_0]; exact hP
    exact rt_i hx hb hr hlocks (fst_e e9) hP9 hS dX7_see_14
abbrev rm_X7_marked : Room := { frames := 6, cells := 0, slots := 0, locals := 139 }
theorem m_X7_marked_5dfb42 : Cond.fieldLink RX7 18 "PickedMatch" "trial" "LPickedMatch$Scene;" ∈ wsX7_marked := by decide +kernel
theorem i_X7_marked_X7 : ∀ w ∈ wsX70, w ∈ wsX7_marked := fun _ h => List.mem_cons_of_mem _ (List.mem_append_left _ (List.mem_append_left _ (List.mem_append_left _ (List.mem_append_right _ h))))
theorem m_X7_marked_265b14 : Cond.fieldLink RX7 12 "PickedMatch" "scene" "LPickedMatch$Scene;" ∈ wsX7_marked := by decide +kernel
theorem m_X7_marked_4cf9d8 : Cond.initialized RX2 ∈ wsX7_marked := by decide +kernel
theorem m_X7_marked_c21ce8 : Cond.instanceMethod yX2_becomeAs ∈ wsX7_marked := by decide +kernel
theorem m_X7_marked_986579 : Cond.selects RX2 yX2_becomeAs yX2_becomeAs ∈ wsX7_marked := by decide +kernel
theorem i_X7_marked_X2 : ∀ w ∈ wsX20, w ∈ wsX7_marked := fun _ h => List.mem_cons_of_mem _ (List.mem_append_left _ (List.mem_append_left _ (List.mem_append_right _ h)))
theorem m_X7_marked_6a5209 : Cond.fieldLink RX7 24 "PickedMatch" "notes" "LPickedMatch$Notes;" ∈ wsX7_marked := by decide +kernel
theorem m_X7_marked_6e074f : Cond.initialized RX1 ∈ wsX7_marked := by decide +kernel
theorem m_X7_marked_a5feb1 : Cond.instanceMethod yX1_isAllSeen ∈ wsX7_marked := by decide +kernel
theorem m_X7_marked_85aea1 : Cond.selects RX1 yX1_isAllSeen yX1_isAllSeen ∈ wsX7_marked := by decide +kernel
theorem m_X7_marked_0211d8 : Cond.instanceMethod yX2_hasThing ∈ wsX7_marked := by decide +kernel
theorem m_X7_marked_6099ba : Cond.selects RX2 yX2_hasThing yX2_hasThing ∈ wsX7_marked := by decide +kernel
set_option maxHeartbeats 8000000 in
set_option maxRecDepth 100000 in
theorem k_X7_marked (l : Launch) (E : Ev) (a0 : Nat → Nat) (a1 : Nat → Nat) (a2 : Nat → Nat) (a3 : Nat → Nat) (a4 : Nat → Nat) (a5 : Nat → Nat) (a6 : Nat → Nat) (a7 : Nat → Nat) (a8 : Nat → Nat) (a9 : Nat → Nat) (L : List SR) (N : Nat) (s0 : St) (s1 : St) (h1 : Option SR) (s2 : St) (h2 : Option SR) (s3 : St) (s4 : St) (h4 : Option SR) (s5 : St) (s6 : St) (s7 : St) (s8 : St) (s9 : St) (t9 : Nat → Nat → Int64) (p1 : Int32) (p2 : Int32) (q : (Int32 × St × (Option SR))) (hf : f_X7_marked N L s1 h1 s2 h2 s3 p1 p2 = some q) : Ci l yX7_marked wsX7_marked rm_X7_marked E [.ref (a0 0), .int p1, .int p2] ((wX7o E a0 a1 a2 a3 a4 a5 a6 a7 a8 a9 s0 ++ (wX2 E a1 s1 h1 ++ (wX2 E a2 s2 h2 ++ (wX1 E a3 s3 ++ (wX2 E a4 s4 h4 ++ (wX1 E a5 s5 ++ (wX5 E a6 s6 ++ (wX3 E a7 s7 ++ (wX0 E a8 s8 ++ (wX6 E a9 s9 t9)))))))))) ++ sW E.2.1 L) ((wX7o E a0 a1 a2 a3 a4 a5 a6 a7 a8 a9 s0 ++ (wX2 E a1 s1 h1 ++ (wX2 E a2 q.2.1 q.2.2 ++ (wX1 E a3 s3 ++ (wX2 E a4 s4 h4 ++ (wX1 E a5 s5 ++ (wX5 E a6 s6 ++ (wX3 E a7 s7 ++ (wX0 E a8 s8 ++ (wX6 E a9 s9 t9)))))))))) ++ sW E.2.1 L) q.1 := by
  unfold f_X7_marked at hf
  intro sz
  refine Met.ofW (cc := cX7_marked) (maxL := 6) (ret := (some .int)) (by decide) rfl ?_
  intro p e s m args below meth c s₁ B hml hpre
  obtain ⟨rfl, hsz, hP, hK, hD0, hG, hA, hAB⟩ := start hpre
  have hx := B.exec
  have hb := B.bytes
  have hr := B.returns
  have hts := atoms_spec (ws := wsX7_marked) B.pre
  have hown : s.vm.findClass RX7 = some m.cls := findClass_of_methodNamed B.named
  have hlocks := B.notSynchronized
  subst hsz
  generalize va_A ((wX7o E a0 a1 a2 a3 a4 a5 a6 a7 a8 a9 s0 ++ (wX2 E a1 s1 h1 ++ (wX2 E a2 s2 h2 ++ (wX1 E a3 s3 ++ (wX2 E a4 s4 h4 ++ (wX1 E a5 s5 ++ (wX5 E a6 s6 ++ (wX3 E a7 s7 ++ (wX0 E a8 s8 ++ (wX6 E a9 s9 t9)))))))))) ++ sW E.2.1 L) s.heap.size = A0 at hD0 hA hAB ⊢
  have hDD : ∀ (s0 : St) (s1 : St) (h1 : Option SR) (s2 : St) (h2 : Option SR) (s3 : St) (s4 : St) (h4 : Option SR) (s5 : St) (s6 : St) (s7 : St) (s8 : St) (s9 : St) (t9 : Nat → Nat → Int64), va_D A0 ((wX7o E a0 a1 a2 a3 a4 a5 a6 a7 a8 a9 s0 ++ (wX2 E a1 s1 h1 ++ (wX2 E a2 s2 h2 ++ (wX1 E a3 s3 ++ (wX2 E a4 s4 h4 ++ (wX1 E a5 s5 ++ (wX5 E a6 s6 ++ (wX3 E a7 s7 ++ (wX0 E a8 s8 ++ (wX6 E a9 s9 t9)))))))))) ++ sW E.2.1 L) := fun s0 s1 h1 s2 h2 s3 s4 h4 s5 s6 s7 s8 s9 t9 => vD_addr hD0 rfl
  have hS : va_S A0 s.heap s.heap [] := va_S.rf
  have hl := lv_entry ([.ref (a0 0), .int p1, .int p2]) (n := 6) (Nat.le_of_ble_eq_true rfl)
  rw [lg_entry_eq]
  generalize (lg_sl ([.ref (a0 0), .int p1, .int p2]) ++ List.replicate (6 - (lg_sl ([.ref (a0 0), .int p1, .int p2])).length) Slot.unset).toArray = ls at hl ⊢
  have hl : lv_has ls 6 [(0, .ref (a0 0)), (1, .int p1), (2, .int p2)] := hl
  have hL_31 : ∀ (s1 : St) (h1 : Option SR) (s3 : St) (v1 : Int32) (v2 : Int32) (n_31 : Nat) (s2 : St) (h2 : Option SR) (v3 : Int32) (v4 : Int32) (v5 : Int32), l_X7_marked_31 N L s1 h1 s3 v1 v2 n_31 s2 h2 v3 v4 v5 = some q → ∀ (H : Heap) (locs : List Loc) (ls : Array Slot), va_P E.1 vwCl ((wX7o E a0 a1 a2 a3 a4 a5 a6 a7 a8 a9 s0 ++ (wX2 E a1 s1 h1 ++ (wX2 E a2 s2 h2 ++ (wX1 E a3 s3 ++ (wX2 E a4 s4 h4 ++ (wX1 E a5 s5 ++ (wX5 E a6 s6 ++ (wX3 E a7 s7 ++ (wX0 E a8 s8 ++ (wX6 E a9 s9 t9)))))))))) ++ sW E.2.1 L) H → va_S A0 s.heap H locs → lv_has ls 6 [(0, .ref (a0 0)), (1, .int v1), (2, .int v2), (3, .int v3), (4, .int v4), (5, .int v5)] → W p l e rm_X7_marked s m ([.ref (a0 0), .int p1, .int p2] : List Value).toArray below meth c H locs 0 0 (MQ below (va_Qi (fun (r' : Int32) (_ : Unit) => r' = q.1) (fun _ t => va_P E.1 vwCl ((wX7o E a0 a1 a2 a3 a4 a5 a6 a7 a8 a9 s0 ++ (wX2 E a1 s1 h1 ++ (wX2 E a2 q.2.1 q.2.2 ++ (wX1 E a3 s3 ++ (wX2 E a4 s4 h4 ++ (wX1 E a5 s5 ++ (wX5 E a6 s6 ++ (wX3 E a7 s7 ++ (wX0 E a8 s8 ++ (wX6 E a9 s9 t9)))))))))) ++ sW E.2.1 L) t.heap) A0) ([.ref (a0 0), .int p1, .int p2] : List Value).toArray s 0 0 A0) (F0 m 31 ls []) := by
    intro s1 h1 s3 v1 v2 n_31
    induction n_31 with
    | zero => intro s2 h2 v3 v4 v5 hf; rw [l_X7_marked_31] at hf; cases hf
    | succ n_31 ih_31 =>
      intro s2 h2 v3 v4 v5 hf H locs ls hP hS hl
      rw [l_X7_marked_31] at hf
      refine lv_iload hx hb dX7_marked_31 (lv_at hl 5 rfl) ?_
      refine lv_sipush (v := 255) hx hb dX7_marked_33 (by decide) ?_
      refine lv_icmp_gt (tgt := 97) hx hb dX7_marked_36 (by decide) (fun c_36 => ?_) (fun c_36 => ?_)
      · have hf := ite_t c_36 hf
        refine lv_iload_n hx hb dX7_marked_97 rfl (lv_at hl 2 rfl) ?_
        refine lv_if_ne (tgt := 105) hx hb dX7_marked_98 (by decide) (fun c_98 => ?_) (fun c_98 => ?_)
        · have hf := ite_f c_98 hf
          refine lv_iload hx hb dX7_marked_105 (lv_at hl 4 rfl) ?_
          have e9 := Option.some.inj hf
          have h9_0 : s2 = q.2.1 := congrArg (fun z => z.2.1) e9
          have h9_1 : h2 = q.2.2 := congrArg (fun z => z.2.2) e9
          have hP9 : va_P E.1 vwCl ((wX7o E a0 a1 a2 a3 a4 a5 a6 a7 a8 a9 s0 ++ (wX2 E a1 s1 h1 ++ (wX2 E a2 q.2.1 q.2.2 ++ (wX1 E a3 s3 ++ (wX2 E a4 s4 h4 ++ (wX1 E a5 s5 ++ (wX5 E a6 s6 ++ (wX3 E a7 s7 ++ (wX0 E a8 s8 ++ (wX6 E a9 s9 t9)))))))))) ++ sW E.2.1 L) H := by rw [← h9_0, ← h9_1]; exact hP
          exact rt_i hx hb hr hlocks (fst_e e9) hP9 hS dX7_marked_107
        · have hf := ite_t c_98 hf
          refine lv_iload_n hx hb dX7_marked_101 rfl (lv_at hl 3 rfl) ?_
          refine lv_goto (tgt := 107) hx hb dX7_marked_102 (by decide) ?_
          have e9 := Option.some.inj hf
          have h9_0 : s2 = q.2.1 := congrArg (fun z => z.2.1) e9
          have h9_1 : h2 = q.2.2 := congrArg (fun z => z.2.2) e9
          have hP9 : va_P E.1 vwCl ((wX7o E a0 a1 a2 a3 a4 a5 a6 a7 a8 a9 s0 ++ (wX2 E a1 s1 h1 ++ (wX2 E a2 q.2.1 q.2.2 ++ (wX1 E a3 s3 ++ (wX2 E a4 s4 h4 ++ (wX1 E a5 s5 ++ (wX5 E a6 s6 ++ (wX3 E a7 s7 ++ (wX0 E a8 s8 ++ (wX6 E a9 s9 t9)))))))))) ++ sW E.2.1 L) H := by rw [← h9_0, ← h9_1]; exact hP
          exact rt_i hx hb hr hlocks (fst_e e9) hP9 hS dX7_marked_107
      · have hf := ite_f c_36 hf
        refine lv_aload_n hx hb dX7_marked_39 rfl (lv_at hl 0 rfl) ?_
        refine va_get (ci := 7) (C := RX7) (T := TX7) (N := 11) (v := .ref (a2 0)) hx hb hts i_X7_marked_X7 hown hK hP 0 rfl rfl 1 (by decide) (hts _ m_X7_marked_5dfb42) (fun _ h9 => h9) rfl dX7_marked_40 ?_
        refine lv_aload_n hx hb dX7_marked_43 rfl (lv_at hl 0 rfl) ?_
        refine va_get (ci := 7) (C := RX7) (T := TX7) (N := 11) (v := .ref (a1 0)) hx hb hts i_X7_marked_X7 hown hK hP 0 rfl rfl 0 (by decide) (hts _ m_X7_marked_265b14) (fun _ h9 => h9) rfl dX7_marked_44 ?_
        obtain ⟨q47, hc_47, hf⟩ := cl_e hf
        have hm_47 : ∀ q ∈ (wX2 E a2 s2 h2 ++ (wX2 E a1 s1 h1)) ++ sW E.2.1 L, q ∈ (wX7o E a0 a1 a2 a3 a4 a5 a6 a7 a8 a9 s0 ++ (wX2 E a1 s1 h1 ++ (wX2 E a2 s2 h2 ++ (wX1 E a3 s3 ++ (wX2 E a4 s4 h4 ++ (wX1 E a5 s5 ++ (wX5 E a6 s6 ++ (wX3 E a7 s7 ++ (wX0 E a8 s8 ++ (wX6 E a9 s9 t9)))))))))) ++ sW E.2.1 L := (app_mem (sub_mem (suf := []) [8, 9, 10, 11, 12, 13, 14, 1, 2, 3, 4, 5, 6, 7] rfl))
        refine fin_v (E := E) (wc := (wX2 E a2 s2 h2 ++ (wX2 E a1 s1 h1)) ++ sW E.2.1 L) (wc' := (wX2 E a2 q47.1 q47.2 ++ (wX2 E a1 s1 h1)) ++ sW E.2.1 L) (va_runVN (As := [.ref (a1 0)]) (rest := []) ⟨hx, hb, hml, hown, hts⟩ (k_X2_becomeAs l E a2 a1 L N s2 h2 s1 h1 q47 hc_47 _) ⟨va_cnB 1 hts gX7_marked_X2_becomeAs_n179 rfl rfl rfl (hG.1 (.methodLinkNest "PickedMatch" 179 yX2_becomeAs "PickedMatch") (by decide +kernel)) (hts _ m_X7_marked_4cf9d8) (by decide +kernel) ⟨(Nat.le_of_ble_eq_true rfl), (Nat.le_of_ble_eq_true rfl)⟩, (hts _ m_X7_marked_c21ce8), (hts _ m_X7_marked_986579)⟩ (pre_v (ci := 2) (q0 := 0) hK (sub_P hm_47 hP) (sub_Ds (ws := wX7o E a0 a1 a2 a3 a4 a5 a6 a7 a8 a9 s0 ++ (wX2 E a1 s1 h1 ++ (wX2 E a2 s2 h2 ++ (wX1 E a3 s3 ++ (wX2 E a4 s4 h4 ++ (wX1 E a5 s5 ++ (wX5 E a6 s6 ++ (wX3 E a7 s7 ++ (wX0 E a8 s8 ++ (wX6 E a9 s9 t9)))))))))) (wc := wX2 E a2 s2 h2 ++ (wX2 E a1 s1 h1)) (suf := sW E.2.1 L) [8, 9, 10, 11, 12, 13, 14, 1, 2, 3, 4, 5, 6, 7] (by decide) rfl (hDD s0 s1 h1 s2 h2 s3 s4 h4 s5 s6 s7 s8 s9 t9)) hS hG hAB rfl rfl) rfl rfl hl.1 rfl (lv_room (Nat.le_of_ble_eq_true rfl)) dX7_marked_47 ⟨Nat.zero_le _, Nat.zero_le _⟩) hS (w_free (hDD s0 s1 h1 s2 h2 s3 s4 h4 s5 s6 s7 s8 s9 t9) hS hA hm_47) (fun H locs hP1 hk hS => ?_)
        have hP := w_joins (ws' := wX7o E a0 a1 a2 a3 a4 a5 a6 a7 a8 a9 s0 ++ (wX2 E a1 s1 h1 ++ (wX2 E a2 q47.1 q47.2 ++ (wX1 E a3 s3 ++ (wX2 E a4 s4 h4 ++ (wX1 E a5 s5 ++ (wX5 E a6 s6 ++ (wX3 E a7 s7 ++ (wX0 E a8 s8 ++ (wX6 E a9 s9 t9)))))))))) (wc := wX2 E a2 s2 h2 ++ (wX2 E a1 s1 h1)) (wc' := wX2 E a2 q47.1 q47.2 ++ (wX2 E a1 s1 h1)) hP (hDD s0 s1 h1 s2 h2 s3 s4 h4 s5 s6 s7 s8 s9 t9) [8, 9, 10, 11, 12, 13, 14, 1, 2, 3, 4, 5, 6, 7] rfl [none, some 7, some 8, some 9, some 10, some 11, some 12, some 13, some 0, some 1, some 2, some 3, some 4, some 5, some 6, none, none, none, none, none, none, none, none, none, none, none, none, none, none, none, none, none, none, none, none, none, none, none, none, none, none, none, none, none, none, none, none, none, none, none] rfl rfl hk hP1
        refine lv_aload_n hx hb dX7_marked_50 rfl (lv_at hl 0 rfl) ?_
        refine va_get (ci := 7) (C := RX7) (T := TX7) (N := 11) (v := .ref (a2 0)) hx hb hts i_X7_marked_X7 hown hK hP 0 rfl rfl 1 (by decide) (hts _ m_X7_marked_5dfb42) (fun _ h9 => h9) rfl dX7_marked_51 ?_
        refine va_getN (ci := 2) (C := RX2) (T := TX2) (N := 11) (v := .ref (a2 3)) hx hb hts i_X7_marked_X2 hown hK hP 8 rfl rfl 3 (by decide) (nwG hG (w := .fieldLinkNest "PickedMatch" 85 "PickedMatch$Scene" "marks" "[I" "PickedMatch") (by decide +kernel)) (fun _ h9 => h9) rfl dX7_marked_54 ?_
        refine lv_iload_n hx hb dX7_marked_57 rfl (lv_at hl 1 rfl) ?_
        refine lv_iload hx hb dX7_marked_58 (lv_at hl 5 rfl) ?_
        obtain ⟨h_60, hf⟩ := ck_e hf
        refine va_iast (cA := E.2.1) (n := 6) (f := q47.1 3) (x := v5) hx hb hK hP (hDD s0 s1 h1 q47.1 q47.2 s3 s4 h4 s5 s6 s7 s8 s9 t9) hS 11 0 rfl rfl h_60 dX7_marked_60 (fun H locs hP _ hS => ?_)
        obtain ⟨s2_60, hP, hf⟩ := nm_st' (P := fun z => va_P E.1 vwCl ((wX7o E a0 a1 a2 a3 a4 a5 a6 a7 a8 a9 s0 ++ (wX2 E a1 s1 h1 ++ (wX2 E a2 z q47.2 ++ (wX1 E a3 s3 ++ (wX2 E a4 s4 h4 ++ (wX1 E a5 s5 ++ (wX5 E a6 s6 ++ (wX3 E a7 s7 ++ (wX0 E a8 s8 ++ (wX6 E a9 s9 t9)))))))))) ++ sW E.2.1 L) H) hf hP
        refine lv_aload_n hx hb dX7_marked_61 rfl (lv_at hl 0 rfl) ?_
        refine va_get (ci := 7) (C := RX7) (T := TX7) (N := 11) (v := .ref (a3 0)) hx hb hts i_X7_marked_X7 hown hK hP 0 rfl rfl 2 (by decide) (hts _ m_X7_marked_6a5209) (fun _ h9 => h9) rfl dX7_marked_62 ?_
        refine lv_aload_n hx hb dX7_marked_65 rfl (lv_at hl 0 rfl) ?_
        refine va_get (ci := 7) (C := RX7) (T := TX7) (N := 11) (v := .ref (a2 0)) hx hb hts i_X7_marked_X7 hown hK hP 0 rfl rfl 1 (by decide) (hts _ m_X7_marked_5dfb42) (fun _ h9 => h9) rfl dX7_marked_66 ?_
        obtain ⟨q69, hc_69, hf⟩ := cl_e hf
        have hm_69 : ∀ q ∈ (wX1 E a3 s3 ++ (wX2 E a2 s2_60 q47.2)) ++ sW E.2.1 L, q ∈ (wX7o E a0 a1 a2 a3 a4 a5 a6 a7 a8 a9 s0 ++ (wX2 E a1 s1 h1 ++ (wX2 E a2 s2_60 q47.2 ++ (wX1 E a3 s3 ++ (wX2 E a4 s4 h4 ++ (wX1 E a5 s5 ++ (wX5 E a6 s6 ++ (wX3 E a7 s7 ++ (wX0 E a8 s8 ++ (wX6 E a9 s9 t9)))))))))) ++ sW E.2.1 L := (app_mem (sub_mem (suf := []) [15, 16, 17, 18, 19, 20, 21, 22, 8, 9, 10, 11, 12, 13, 14] rfl))
        refine fin_i (E := E) (wc := (wX1 E a3 s3 ++ (wX2 E a2 s2_60 q47.2)) ++ sW E.2.1 L) (wc' := (wX1 E a3 s3 ++ (wX2 E a2 q69.2 q47.2)) ++ sW E.2.1 L) (va_runVN (As := [.ref (a2 0)]) (rest := []) ⟨hx, hb, hml, hown, hts⟩ (k_X1_isAllSeen l E a3 a2 L N s3 s2_60 q47.2 q69 hc_69 _) ⟨va_cnB 1 hts gX7_marked_X1_isAllSeen_n213 rfl rfl rfl (hG.1 (.methodLinkNest "PickedMatch" 213 yX1_isAllSeen "PickedMatch") (by decide +kernel)) (hts _ m_X7_marked_6e074f) (by decide +kernel) ⟨(Nat.le_of_ble_eq_true rfl), (Nat.le_of_ble_eq_true rfl)⟩, (hts _ m_X7_marked_a5feb1), (hts _ m_X7_marked_85aea1)⟩ (pre_v (ci := 1) (q0 := 0) hK (sub_P hm_69 hP) (sub_Ds (ws := wX7o E a0 a1 a2 a3 a4 a5 a6 a7 a8 a9 s0 ++ (wX2 E a1 s1 h1 ++ (wX2 E a2 s2_60 q47.2 ++ (wX1 E a3 s3 ++ (wX2 E a4 s4 h4 ++ (wX1 E a5 s5 ++ (wX5 E a6 s6 ++ (wX3 E a7 s7 ++ (wX0 E a8 s8 ++ (wX6 E a9 s9 t9)))))))))) (wc := wX1 E a3 s3 ++ (wX2 E a2 s2_60 q47.2)) (suf := sW E.2.1 L) [15, 16, 17, 18, 19, 20, 21, 22, 8, 9, 10, 11, 12, 13, 14] (by decide) rfl (hDD s0 s1 h1 s2_60 q47.2 s3 s4 h4 s5 s6 s7 s8 s9 t9)) hS hG hAB rfl rfl) rfl rfl hl.1 rfl (lv_room (Nat.le_of_ble_eq_true rfl)) dX7_marked_69 ⟨Nat.zero_le _, Nat.zero_le _⟩) hS (w_free (hDD s0 s1 h1 s2_60 q47.2 s3 s4 h4 s5 s6 s7 s8 s9 t9) hS hA hm_69) (fun H locs hP1 hk hS => ?_)
        have hP := w_joins (ws' := wX7o E a0 a1 a2 a3 a4 a5 a6 a7 a8 a9 s0 ++ (wX2 E a1 s1 h1 ++ (wX2 E a2 q69.2 q47.2 ++ (wX1 E a3 s3 ++ (wX2 E a4 s4 h4 ++ (wX1 E a5 s5 ++ (wX5 E a6 s6 ++ (wX3 E a7 s7 ++ (wX0 E a8 s8 ++ (wX6 E a9 s9 t9)))))))))) (wc := wX1 E a3 s3 ++ (wX2 E a2 s2_60 q47.2)) (wc' := wX1 E a3 s3 ++ (wX2 E a2 q69.2 q47.2)) hP (hDD s0 s1 h1 s2_60 q47.2 s3 s4 h4 s5 s6 s7 s8 s9 t9) [15, 16, 17, 18, 19, 20, 21, 22, 8, 9, 10, 11, 12, 13, 14] rfl [none, none, none, none, none, none, none, none, some 8, some 9, some 10, some 11, some 12, some 13, some 14, some 0, some 1, some 2, some 3, some 4, some 5, some 6, some 7, none, none, none, none, none, none, none, none, none, none, none, none, none, none, none, none, none, none, none, none, none, none, none, none, none, none, none] rfl rfl hk hP1
        refine lv_if_eq (tgt := 91) hx hb dX7_marked_72 (by decide) (fun c_72 => ?_) (fun c_72 => ?_)
        · have hf := ite_t c_72 hf
          obtain ⟨x91, e_x91⟩ : ∃ y : Int32, y = v5 + 1 := ⟨_, rfl⟩
          have hf := nm_q e_x91 hf
          refine lv_iinc (v := x91) (lv' := [(5, .int x91), (0, .ref (a0 0)), (1, .int v1), (2, .int v2), (3, .int v3), (4, .int v4)]) hx hb dX7_marked_91 hl (k := 5) rfl (by rw [e_x91]; rfl) (Nat.le_of_ble_eq_true rfl) rfl (fun ls hl => ?_)
          refine lv_goto (tgt := 31) hx hb dX7_marked_94 (by decide) ?_
          exact ih_31 q69.2 q47.2 v3 v4 x91 hf _ _ _ hP hS (lv_sub hl [1, 2, 3, 4, 5, 0] rfl)
        · have hf := ite_f c_72 hf
          refine lv_iload_n hx hb dX7_marked_75 rfl (lv_at hl 3 rfl) ?_
          refine lv_if_ne (tgt := 84) hx hb dX7_marked_76 (by decide) (fun c_76 => ?_) (fun c_76 => ?_)
          · have hf := ite_f c_76 hf
            refine lv_iload hx hb dX7_marked_84 (lv_at hl 4 rfl) ?_
            refine lv_istore (lv' := [(4, .int v4), (0, .ref (a0 0)), (1, .int v1), (2, .int v2), (3, .int v3), (5, .int v5)]) hx hb dX7_marked_86 hl (Nat.le_of_ble_eq_true rfl) rfl (fun ls hl => ?_)
            obtain ⟨x88, e_x88⟩ : ∃ y : Int32, y = v3 + 1 := ⟨_, rfl⟩
            have hf := nm_q e_x88 hf
            refine lv_iinc (v := x88) (lv' := [(3, .int x88), (4, .int v4), (0, .ref (a0 0)), (1, .int v1), (2, .int v2), (5, .int v5)]) hx hb dX7_marked_88 hl (k := 4) rfl (by rw [e_x88]; rfl) (Nat.le_of_ble_eq_true rfl) rfl (fun ls hl => ?_)
            obtain ⟨x91, e_x91⟩ : ∃ y : Int32, y = v5 + 1 := ⟨_, rfl⟩
            have hf := nm_q e_x91 hf
            refine lv_iinc (v := x91) (lv' := [(5, .int x91), (3, .int x88), (4, .int v4), (0, .ref (a0 0)), (1, .int v1), (2, .int v2)]) hx hb dX7_marked_91 hl (k := 5) rfl (by rw [e_x91]; rfl) (Nat.le_of_ble_eq_true rfl) rfl (fun ls hl => ?_)
            refine lv_goto (tgt := 31) hx hb dX7_marked_94 (by decide) ?_
            exact ih_31 q69.2 q47.2 x88 v4 x91 hf _ _ _ hP hS (lv_sub hl [3, 4, 5, 1, 2, 0] rfl)
          · have hf := ite_t c_76 hf
            refine lv_iload hx hb dX7_marked_79 (lv_at hl 5 rfl) ?_
            refine lv_goto (tgt := 86) hx hb dX7_marked_81 (by decide) ?_
            refine lv_istore (lv' := [(4, .int v5), (0, .ref (a0 0)), (1, .int v1), (2, .int v2), (3, .int v3), (5, .int v5)]) hx hb dX7_marked_86 hl (Nat.le_of_ble_eq_true rfl) rfl (fun ls hl => ?_)
            obtain ⟨x88, e_x88⟩ : ∃ y : Int32, y = v3 + 1 := ⟨_, rfl⟩
            have hf := nm_q e_x88 hf
            refine lv_iinc (v := x88) (lv' := [(3, .int x88), (4, .int v5), (0, .ref (a0 0)), (1, .int v1), (2, .int v2), (5, .int v5)]) hx hb dX7_marked_88 hl (k := 4) rfl (by rw [e_x88]; rfl) (Nat.le_of_ble_eq_true rfl) rfl (fun ls hl => ?_)
            obtain ⟨x91, e_x91⟩ : ∃ y : Int32, y = v5 + 1 := ⟨_, rfl⟩
            have hf := nm_q e_x91 hf
            refine lv_iinc (v := x91) (lv' := [(5, .int x91), (3, .int x88), (4, .int v5), (0, .ref (a0 0)), (1, .int v1), (2, .int v2)]) hx hb dX7_marked_91 hl (k := 5) rfl (by rw [e_x91]; rfl) (Nat.le_of_ble_eq_true rfl) rfl (fun ls hl => ?_)
            refine lv_goto (tgt := 31) hx hb dX7_marked_94 (by decide) ?_
            exact ih_31 q69.2 q47.2 x88 v5 x91 hf _ _ _ hP hS (lv_sub hl [3, 4, 5, 1, 2, 0] rfl)
  refine lv_aload_n hx hb dX7_marked_0 rfl (lv_at hl 0 rfl) ?_
  refine va_get (ci := 7) (C := RX7) (T := TX7) (N := 11) (v := .ref (a1 0)) hx hb hts i_X7_marked_X7 hown hK hP 0 rfl rfl 0 (by decide) (hts _ m_X7_marked_265b14) (fun _ h9 => h9) rfl dX7_marked_1 ?_
  refine lv_iload_n hx hb dX7_marked_4 rfl (lv_at hl 1 rfl) ?_
  obtain ⟨q5, hc_5, hf⟩ := cl_e hf
  have hm_5 : ∀ q ∈ (wX2 E a1 s1 h1) ++ sW E.2.1 L, q ∈ (wX7o E a0 a1 a2 a3 a4 a5 a6 a7 a8 a9 s0 ++ (wX2 E a1 s1 h1 ++ (wX2 E a2 s2 h2 ++ (wX1 E a3 s3 ++ (wX2 E a4 s4 h4 ++ (wX1 E a5 s5 ++ (wX5 E a6 s6 ++ (wX3 E a7 s7 ++ (wX0 E a8 s8 ++ (wX6 E a9 s9 t9)))))))))) ++ sW E.2.1 L := (app_mem (sub_mem (suf := []) [1, 2, 3, 4, 5, 6, 7] rfl))
  refine fin_i (E := E) (wc := (wX2 E a1 s1 h1) ++ sW E.2.1 L) (wc' := (wX2 E a1 s1 h1) ++ sW E.2.1 L) (va_runVN (As := [.int p1]) (rest := []) ⟨hx, hb, hml, hown, hts⟩ (k_X2_hasThing l E a1 L N s1 h1 p1 q5 hc_5 _) ⟨va_cnB 1 hts gX7_marked_X2_hasThing_n74 rfl rfl rfl (hG.1 (.methodLinkNest "PickedMatch" 74 yX2_hasThing "PickedMatch") (by decide +kernel)) (hts _ m_X7_marked_4cf9d8) (by decide +kernel) ⟨(Nat.le_of_ble_eq_true rfl), (Nat.le_of_ble_eq_true rfl)⟩, (hts _ m_X7_marked_0211d8), (hts _ m_X7_marked_6099ba)⟩ (pre_v (ci := 2) (q0 := 0) hK (sub_P hm_5 hP) (sub_Ds (ws := wX7o E a0 a1 a2 a3 a4 a5 a6 a7 a8 a9 s0 ++ (wX2 E a1 s1 h1 ++ (wX2 E a2 s2 h2 ++ (wX1 E a3 s3 ++ (wX2 E a4 s4 h4 ++ (wX1 E a5 s5 ++ (wX5 E a6 s6 ++ (wX3 E a7 s7 ++ (wX0 E a8 s8 ++ (wX6 E a9 s9 t9)))))))))) (wc := wX2 E a1 s1 h1) (suf := sW E.2.1 L) [1, 2, 3, 4, 5, 6, 7] (by decide) rfl (hDD s0 s1 h1 s2 h2 s3 s4 h4 s5 s6 s7 s8 s9 t9)) hS hG hAB rfl rfl) rfl rfl hl.1 rfl (lv_room (Nat.le_of_ble_eq_true rfl)) dX7_marked_5 ⟨Nat.zero_le _, Nat.zero_le _⟩) hS (w_free (hDD s0 s1 h1 s2 h2 s3 s4 h4 s5 s6 s7 s8 s9 t9) hS hA hm_5) (fun H locs hP1 hk hS => ?_)
  have hP := w_joins (ws' := wX7o E a0 a1 a2 a3 a4 a5 a6 a7 a8 a9 s0 ++ (wX2 E a1 s1 h1 ++ (wX2 E a2 s2 h2 ++ (wX1 E a3 s3 ++ (wX2 E a4 s4 h4 ++ (wX1 E a5 s5 ++ (wX5 E a6 s6 ++ (wX3 E a7 s7 ++ (wX0 E a8 s8 ++ (wX6 E a9 s9 t9)))))))))) (wc := wX2 E a1 s1 h1) (wc' := wX2 E a1 s1 h1) hP (hDD s0 s1 h1 s2 h2 s3 s4 h4 s5 s6 s7 s8 s9 t9) [1, 2, 3, 4, 5, 6, 7] rfl [none, some 0, some 1, some 2, some 3, some 4, some 5, some 6, none, none, none, none, none, none, none, none, none, none, none, none, none, none, none, none, none, none, none, none, none, none, none, none, none, none, none, none, none, none, none, none, none, none, none, none, none, none, none, none, none, none] rfl rfl hk hP1
  refine lv_if_eq (tgt := 20) hx hb dX7_marked_8 (by decide) (fun c_8 => ?_) (fun c_8 => ?_)
  · have hf := ite_t c_8 hf
    refine lv_iconst (v := (-1)) hx hb dX7_marked_20 (by decide) ?_
    have e9 := Option.some.inj hf
    have h9_0 : s2 = q.2.1 := congrArg (fun z => z.2.1) e9
    have h9_1 : h2 = q.2.2 := congrArg (fun z => z.2.2) e9
    have hP9 : va_P E.1 vwCl ((wX7o E a0 a1 a2 a3 a4 a5 a6 a7 a8 a9 s0 ++ (wX2 E a1 s1 h1 ++ (wX2 E a2 q.2.1 q.2.2 ++ (wX1 E a3 s3 ++ (wX2 E a4 s4 h4 ++ (wX1 E a5 s5 ++ (wX5 E a6 s6 ++ (wX3 E a7 s7 ++ (wX0 E a8 s8 ++ (wX6 E a9 s9 t9)))))))))) ++ sW E.2.1 L) H := by rw [← h9_0, ← h9_1]; exact hP
    exact rt_i hx hb hr hlocks (fst_e e9) hP9 hS dX7_marked_21
  · have hf := ite_f c_8 hf
    refine lv_iload_n hx hb dX7_marked_11 rfl (lv_at hl 2 rfl) ?_
    refine lv_iconst (v := 0) hx hb dX7_marked_12 (by decide) ?_
    refine lv_iconst (v := 1) hx hb dX7_marked_13 (by decide) ?_
    obtain ⟨q14, hc_14, hf⟩ := cl_e hf
    refine fin_i (E := E) (wc := ([] : va_W)) (wc' := ([] : va_W)) (va_runS (As := [.int p2, .int 0, .int 1]) (rest := []) ⟨hx, hb, hml, hown, hts⟩ (k_X7_isWithin l E N p2 0 1 q14 hc_14 _) (va_cwS 3 hts gX7_marked_X7_isWithin rfl rfl rfl (by decide +kernel) ⟨(Nat.le_of_ble_eq_true rfl), (Nat.le_of_ble_eq_true rfl)⟩) (pre_s hK va_P_nil va_D_nil hS hG hAB) rfl rfl hl.1 rfl (lv_room (Nat.le_of_ble_eq_true rfl)) dX7_marked_14 ⟨Nat.zero_le _, Nat.zero_le _⟩) hS (free_nil hS hA) (fun H locs hP1 hk hS => ?_)
    have hP := w_kept0 hP hk
    refine lv_if_ne (tgt := 22) hx hb dX7_marked_17 (by decide) (fun c_17 => ?_) (fun c_17 => ?_)
    · have hf := ite_f c_17 hf
      refine lv_iconst (v := 0) hx hb dX7_marked_22 (by decide) ?_
      refine lv_istore_n (lv' := [(3, .int 0), (0, .ref (a0 0)), (1, .int p1), (2, .int p2)]) hx hb dX7_marked_23 rfl hl (Nat.le_of_ble_eq_true rfl) rfl (fun ls hl => ?_)
      refine lv_bipush (v := (-5)) hx hb dX7_marked_24 (by decide) ?_
      refine lv_topi (fun x26 e_x26 => ?_)
      have hf := nm_q e_x26 hf
      refine lv_istore (lv' := [(4, .int x26), (3, .int 0), (0, .ref (a0 0)), (1, .int p1), (2, .int p2)]) hx hb dX7_marked_26 hl (Nat.le_of_ble_eq_true rfl) rfl (fun ls hl => ?_)
      refine lv_iconst (v := 0) hx hb dX7_marked_28 (by decide) ?_
      refine lv_istore (lv' := [(5, .int 0), (4, .int x26), (3, .int 0), (0, .ref (a0 0)), (1, .int p1), (2, .int p2)]) hx hb dX7_marked_29 hl (Nat.le_of_ble_eq_true rfl) rfl (fun ls hl => ?_)
      exact hL_31 s1 h1 s3 p1 p2 N s2 h2 0 x26 0 hf _ _ _ hP hS (lv_sub hl [3, 4, 5, 2, 1, 0] rfl)
    · have hf := ite_t c_17 hf
      refine lv_iconst (v := (-1)) hx hb dX7_marked_20 (by decide) ?_
      have e9 := Option.some.inj hf
      have h9_0 : s2 = q.2.1 := congrArg (fun z => z.2.1) e9
      have h9_1 : h2 = q.2.2 := congrArg (fun z => z.2.2) e9
      have hP9 : va_P E.1 vwCl ((wX7o E a0 a1 a2 a3 a4 a5 a6 a7 a8 a9 s0 ++ (wX2 E a1 s1 h1 ++ (wX2 E a2 q.2.1 q.2.2 ++ (wX1 E a3 s3 ++ (wX2 E a4 s4 h4 ++ (wX1 E a5 s5 ++ (wX5 E a6 s6 ++ (wX3 E a7 s7 ++ (wX0 E a8 s8 ++ (wX6 E a9 s9 t9)))))))))) ++ sW E.2.1 L) H := by rw [← h9_0, ← h9_1]; exact hP
      exact rt_i hx hb hr hlocks (fst_e e9) hP9 hS dX7_marked_21
abbrev rm_X7_can : Room := { frames := 6, cells := 0, slots := 0, locals := 139 }
theorem m_X7_can_5dfb42 : Cond.fieldLink RX7 18 "PickedMatch" "trial" "LPickedMatch$Scene;" ∈ wsX7_can := by decide +kernel
theorem i_X7_can_X7 : ∀ w ∈ wsX70, w ∈ wsX7_can := fun _ h => List.mem_cons_of_mem _ (List.mem_append_left _ (List.mem_append_left _ (List.mem_append_left _ (List.mem_append_right _ h))))
theorem m_X7_can_265b14 : Cond.fieldLink RX7 12 "PickedMatch" "scene" "LPickedMatch$Scene;" ∈ wsX7_can := by decide +kernel
theorem m_X7_can_4cf9d8 : Cond.initialized RX2 ∈ wsX7_can := by decide +kernel
theorem m_X7_can_c21ce8 : Cond.instanceMethod yX2_becomeAs ∈ wsX7_can := by decide +kernel
theorem m_X7_can_986579 : Cond.selects RX2 yX2_becomeAs yX2_becomeAs ∈ wsX7_can := by decide +kernel
theorem i_X7_can_X2 : ∀ w ∈ wsX20, w ∈ wsX7_can := fun _ h => List.mem_cons_of_mem _ (List.mem_append_left _ (List.mem_append_left _ (List.mem_append_right _ h)))
theorem m_X7_can_6a5209 : Cond.fieldLink RX7 24 "PickedMatch" "notes" "LPickedMatch$Notes;" ∈ wsX7_can := by decide +kernel
theorem m_X7_can_6e074f : Cond.initialized RX1 ∈ wsX7_can := by decide +kernel
theorem m_X7_can_a5feb1 : Cond.instanceMethod yX1_isAllSeen ∈ wsX7_can := by decide +kernel
theorem m_X7_can_85aea1 : Cond.selects RX1 yX1_isAllSeen yX1_isAllSeen ∈ wsX7_can := by decide +kernel
theorem m_X7_can_0211d8 : Cond.instanceMethod yX2_hasThing ∈ wsX7_can := by decide +kernel
theorem m_X7_can_6099ba : Cond.selects RX2 yX2_hasThing yX2_hasThing ∈ wsX7_can := by decide +kernel
set_option maxHeartbeats 8000000 in
set_option maxRecDepth 100000 in
theorem k_X7_can (l : Launch) (E : Ev) (a0 : Nat → Nat) (a1 : Nat → Nat) (a2 : Nat → Nat) (a3 : Nat → Nat) (a4 : Nat → Nat) (a5 : Nat → Nat) (a6 : Nat → Nat) (a7 : Nat → Nat) (a8 : Nat → Nat) (a9 : Nat → Nat) (L : List SR) (N : Nat) (s0 : St) (s1 : St) (h1 : Option SR) (s2 : St) (h2 : Option SR) (s3 : St) (s4 : St) (h4 : Option SR) (s5 : St) (s6 : St) (s7 : St) (s8 : St) (s9 : St) (t9 : Nat → Nat → Int64) (p1 : Int32) (p2 : Int32) (q : (Int32 × St × (Option SR))) (hf : f_X7_can N L s1 h1 s2 h2 s3 p1 p2 = some q) : Ci l yX7_can wsX7_can rm_X7_can E [.ref (a0 0), .int p1, .int p2] ((wX7o E a0 a1 a2 a3 a4 a5 a6 a7 a8 a9 s0 ++ (wX2 E a1 s1 h1 ++ (wX2 E a2 s2 h2 ++ (wX1 E a3 s3 ++ (wX2 E a4 s4 h4 ++ (wX1 E a5 s5 ++ (wX5 E a6 s6 ++ (wX3 E a7 s7 ++ (wX0 E a8 s8 ++ (wX6 E a9 s9 t9)))))))))) ++ sW E.2.1 L) ((wX7o E a0 a1 a2 a3 a4 a5 a6 a7 a8 a9 s0 ++ (wX2 E a1 s1 h1 ++ (wX2 E a2 q.2.1 q.2.2 ++ (wX1 E a3 s3 ++ (wX2 E a4 s4 h4 ++ (wX1 E a5 s5 ++ (wX5 E a6 s6 ++ (wX3 E a7 s7 ++ (wX0 E a8 s8 ++ (wX6 E a9 s9 t9)))))))))) ++ sW E.2.1 L) q.1 := by
  unfold f_X7_can at hf
  intro sz
  refine Met.ofW (cc := cX7_can) (maxL := 6) (ret := (some .int)) (by decide) rfl ?_
  intro p e s m args below meth c s₁ B hml hpre
  obtain ⟨rfl, hsz, hP, hK, hD0, hG, hA, hAB⟩ := start hpre
  have hx := B.exec
  have hb := B.bytes
  have hr := B.returns
  have hts := atoms_spec (ws := wsX7_can) B.pre
  have hown : s.vm.findClass RX7 = some m.cls := findClass_of_methodNamed B.named
  have hlocks := B.notSynchronized
  subst hsz
  generalize va_A ((wX7o E a0 a1 a2 a3 a4 a5 a6 a7 a8 a9 s0 ++ (wX2 E a1 s1 h1 ++ (wX2 E a2 s2 h2 ++ (wX1 E a3 s3 ++ (wX2 E a4 s4 h4 ++ (wX1 E a5 s5 ++ (wX5 E a6 s6 ++ (wX3 E a7 s7 ++ (wX0 E a8 s8 ++ (wX6 E a9 s9 t9)))))))))) ++ sW E.2.1 L) s.heap.size = A0 at hD0 hA hAB ⊢
  have hDD : ∀ (s0 : St) (s1 : St) (h1 : Option SR) (s2 : St) (h2 : Option SR) (s3 : St) (s4 : St) (h4 : Option SR) (s5 : St) (s6 : St) (s7 : St) (s8 : St) (s9 : St) (t9 : Nat → Nat → Int64), va_D A0 ((wX7o E a0 a1 a2 a3 a4 a5 a6 a7 a8 a9 s0 ++ (wX2 E a1 s1 h1 ++ (wX2 E a2 s2 h2 ++ (wX1 E a3 s3 ++ (wX2 E a4 s4 h4 ++ (wX1 E a5 s5 ++ (wX5 E a6 s6 ++ (wX3 E a7 s7 ++ (wX0 E a8 s8 ++ (wX6 E a9 s9 t9)))))))))) ++ sW E.2.1 L) := fun s0 s1 h1 s2 h2 s3 s4 h4 s5 s6 s7 s8 s9 t9 => vD_addr hD0 rfl
  have hS : va_S A0 s.heap s.heap [] := va_S.rf
  have hl := lv_entry ([.ref (a0 0), .int p1, .int p2]) (n := 6) (Nat.le_of_ble_eq_true rfl)
  rw [lg_entry_eq]
  generalize (lg_sl ([.ref (a0 0), .int p1, .int p2]) ++ List.replicate (6 - (lg_sl ([.ref (a0 0), .int p1, .int p2])).length) Slot.unset).toArray = ls at hl ⊢
  have hl : lv_has ls 6 [(0, .ref (a0 0)), (1, .int p1), (2, .int p2)] := hl
  have hL_31 : ∀ (s1 : St) (h1 : Option SR) (s3 : St) (v1 : Int32) (v2 : Int32) (n_31 : Nat) (s2 : St) (h2 : Option SR) (v3 : Int32) (v4 : Int32) (v5 : Int32), l_X7_can_31 N L s1 h1 s3 v1 v2 n_31 s2 h2 v3 v4 v5 = some q → ∀ (H : Heap) (locs : List Loc) (ls : Array Slot), va_P E.1 vwCl ((wX7o E a0 a1 a2 a3 a4 a5 a6 a7 a8 a9 s0 ++ (wX2 E a1 s1 h1 ++ (wX2 E a2 s2 h2 ++ (wX1 E a3 s3 ++ (wX2 E a4 s4 h4 ++ (wX1 E a5 s5 ++ (wX5 E a6 s6 ++ (wX3 E a7 s7 ++ (wX0 E a8 s8 ++ (wX6 E a9 s9 t9)))))))))) ++ sW E.2.1 L) H → va_S A0 s.heap H locs → lv_has ls 6 [(0, .ref (a0 0)), (1, .int v1), (2, .int v2), (3, .int v3), (4, .int v4), (5, .int v5)] → W p l e rm_X7_can s m ([.ref (a0 0), .int p1, .int p2] : List Value).toArray below meth c H locs 0 0 (MQ below (va_Qi (fun (r' : Int32) (_ : Unit) => r' = q.1) (fun _ t => va_P E.1 vwCl ((wX7o E a0 a1 a2 a3 a4 a5 a6 a7 a8 a9 s0 ++ (wX2 E a1 s1 h1 ++ (wX2 E a2 q.2.1 q.2.2 ++ (wX1 E a3 s3 ++ (wX2 E a4 s4 h4 ++ (wX1 E a5 s5 ++ (wX5 E a6 s6 ++ (wX3 E a7 s7 ++ (wX0 E a8 s8 ++ (wX6 E a9 s9 t9)))))))))) ++ sW E.2.1 L) t.heap) A0) ([.ref (a0 0), .int p1, .int p2] : List Value).toArray s 0 0 A0) (F0 m 31 ls []) := by
    intro s1 h1 s3 v1 v2 n_31
    induction n_31 with
    | zero => intro s2 h2 v3 v4 v5 hf; rw [l_X7_can_31] at hf; cases hf
    | succ n_31 ih_31 =>
      intro s2 h2 v3 v4 v5 hf H locs ls hP hS hl
      rw [l_X7_can_31] at hf
      refine lv_iload hx hb dX7_can_31 (lv_at hl 5 rfl) ?_
      refine lv_bipush (v := 9) hx hb dX7_can_33 (by decide) ?_
      refine lv_icmp_gt (tgt := 96) hx hb dX7_can_35 (by decide) (fun c_35 => ?_) (fun c_35 => ?_)
      · have hf := ite_t c_35 hf
        refine lv_iload_n hx hb dX7_can_96 rfl (lv_at hl 2 rfl) ?_
        refine lv_if_ne (tgt := 104) hx hb dX7_can_97 (by decide) (fun c_97 => ?_) (fun c_97 => ?_)
        · have hf := ite_f c_97 hf
          refine lv_iload hx hb dX7_can_104 (lv_at hl 4 rfl) ?_
          have e9 := Option.some.inj hf
          have h9_0 : s2 = q.2.1 := congrArg (fun z => z.2.1) e9
          have h9_1 : h2 = q.2.2 := congrArg (fun z => z.2.2) e9
          have hP9 : va_P E.1 vwCl ((wX7o E a0 a1 a2 a3 a4 a5 a6 a7 a8 a9 s0 ++ (wX2 E a1 s1 h1 ++ (wX2 E a2 q.2.1 q.2.2 ++ (wX1 E a3 s3 ++ (wX2 E a4 s4 h4 ++ (wX1 E a5 s5 ++ (wX5 E a6 s6 ++ (wX3 E a7 s7 ++ (wX0 E a8 s8 ++ (wX6 E a9 s9 t9)))))))))) ++ sW E.2.1 L) H := by rw [← h9_0, ← h9_1]; exact hP
          exact rt_i hx hb hr hlocks (fst_e e9) hP9 hS dX7_can_106
        · have hf := ite_t c_97 hf
          refine lv_iload_n hx hb dX7_can_100 rfl (lv_at hl 3 rfl) ?_
          refine lv_goto (tgt := 106) hx hb dX7_can_101 (by decide) ?_
          have e9 := Option.some.inj hf
          have h9_0 : s2 = q.2.1 := congrArg (fun z => z.2.1) e9
          have h9_1 : h2 = q.2.2 := congrArg (fun z => z.2.2) e9
          have hP9 : va_P E.1 vwCl ((wX7o E a0 a1 a2 a3 a4 a5 a6 a7 a8 a9 s0 ++ (wX2 E a1 s1 h1 ++ (wX2 E a2 q.2.1 q.2.2 ++ (wX1 E a3 s3 ++ (wX2 E a4 s4 h4 ++ (wX1 E a5 s5 ++ (wX5 E a6 s6 ++ (wX3 E a7 s7 ++ (wX0 E a8 s8 ++ (wX6 E a9 s9 t9)))))))))) ++ sW E.2.1 L) H := by rw [← h9_0, ← h9_1]; exact hP
          exact rt_i hx hb hr hlocks (fst_e e9) hP9 hS dX7_can_106
      · have hf := ite_f c_35 hf
        refine lv_aload_n hx hb dX7_can_38 rfl (lv_at hl 0 rfl) ?_
        refine va_get (ci := 7) (C := RX7) (T := TX7) (N := 11) (v := .ref (a2 0)) hx hb hts i_X7_can_X7 hown hK hP 0 rfl rfl 1 (by decide) (hts _ m_X7_can_5dfb42) (fun _ h9 => h9) rfl dX7_can_39 ?_
        refine lv_aload_n hx hb dX7_can_42 rfl (lv_at hl 0 rfl) ?_
        refine va_get (ci := 7) (C := RX7) (T := TX7) (N := 11) (v := .ref (a1 0)) hx hb hts i_X7_can_X7 hown hK hP 0 rfl rfl 0 (by decide) (hts _ m_X7_can_265b14) (fun _ h9 => h9) rfl dX7_can_43 ?_
        obtain ⟨q46, hc_46, hf⟩ := cl_e hf
        have hm_46 : ∀ q ∈ (wX2 E a2 s2 h2 ++ (wX2 E a1 s1 h1)) ++ sW E.2.1 L, q ∈ (wX7o E a0 a1 a2 a3 a4 a5 a6 a7 a8 a9 s0 ++ (wX2 E a1 s1 h1 ++ (wX2 E a2 s2 h2 ++ (wX1 E a3 s3 ++ (wX2 E a4 s4 h4 ++ (wX1 E a5 s5 ++ (wX5 E a6 s6 ++ (wX3 E a7 s7 ++ (wX0 E a8 s8 ++ (wX6 E a9 s9 t9)))))))))) ++ sW E.2.1 L := (app_mem (sub_mem (suf := []) [8, 9, 10, 11, 12, 13, 14, 1, 2, 3, 4, 5, 6, 7] rfl))
        refine fin_v (E := E) (wc := (wX2 E a2 s2 h2 ++ (wX2 E a1 s1 h1)) ++ sW E.2.1 L) (wc' := (wX2 E a2 q46.1 q46.2 ++ (wX2 E a1 s1 h1)) ++ sW E.2.1 L) (va_runVN (As := [.ref (a1 0)]) (rest := []) ⟨hx, hb, hml, hown, hts⟩ (k_X2_becomeAs l E a2 a1 L N s2 h2 s1 h1 q46 hc_46 _) ⟨va_cnB 1 hts gX7_can_X2_becomeAs_n179 rfl rfl rfl (hG.1 (.methodLinkNest "PickedMatch" 179 yX2_becomeAs "PickedMatch") (by decide +kernel)) (hts _ m_X7_can_4cf9d8) (by decide +kernel) ⟨(Nat.le_of_ble_eq_true rfl), (Nat.le_of_ble_eq_true rfl)⟩, (hts _ m_X7_can_c21ce8), (hts _ m_X7_can_986579)⟩ (pre_v (ci := 2) (q0 := 0) hK (sub_P hm_46 hP) (sub_Ds (ws := wX7o E a0 a1 a2 a3 a4 a5 a6 a7 a8 a9 s0 ++ (wX2 E a1 s1 h1 ++ (wX2 E a2 s2 h2 ++ (wX1 E a3 s3 ++ (wX2 E a4 s4 h4 ++ (wX1 E a5 s5 ++ (wX5 E a6 s6 ++ (wX3 E a7 s7 ++ (wX0 E a8 s8 ++ (wX6 E a9 s9 t9)))))))))) (wc := wX2 E a2 s2 h2 ++ (wX2 E a1 s1 h1)) (suf := sW E.2.1 L) [8, 9, 10, 11, 12, 13, 14, 1, 2, 3, 4, 5, 6, 7] (by decide) rfl (hDD s0 s1 h1 s2 h2 s3 s4 h4 s5 s6 s7 s8 s9 t9)) hS hG hAB rfl rfl) rfl rfl hl.1 rfl (lv_room (Nat.le_of_ble_eq_true rfl)) dX7_can_46 ⟨Nat.zero_le _, Nat.zero_le _⟩) hS (w_free (hDD s0 s1 h1 s2 h2 s3 s4 h4 s5 s6 s7 s8 s9 t9) hS hA hm_46) (fun H locs hP1 hk hS => ?_)
        have hP := w_joins (ws' := wX7o E a0 a1 a2 a3 a4 a5 a6 a7 a8 a9 s0 ++ (wX2 E a1 s1 h1 ++ (wX2 E a2 q46.1 q46.2 ++ (wX1 E a3 s3 ++ (wX2 E a4 s4 h4 ++ (wX1 E a5 s5 ++ (wX5 E a6 s6 ++ (wX3 E a7 s7 ++ (wX0 E a8 s8 ++ (wX6 E a9 s9 t9)))))))))) (wc := wX2 E a2 s2 h2 ++ (wX2 E a1 s1 h1)) (wc' := wX2 E a2 q46.1 q46.2 ++ (wX2 E a1 s1 h1)) hP (hDD s0 s1 h1 s2 h2 s3 s4 h4 s5 s6 s7 s8 s9 t9) [8, 9, 10, 11, 12, 13, 14, 1, 2, 3, 4, 5, 6, 7] rfl [none, some 7, some 8, some 9, some 10, some 11, some 12, some 13, some 0, some 1, some 2, some 3, some 4, some 5, some 6, none, none, none, none, none, none, none, none, none, none, none, none, none, none, none, none, none, none, none, none, none, none, none, none, none, none, none, none, none, none, none, none, none, none, none] rfl rfl hk hP1
        refine lv_aload_n hx hb dX7_can_49 rfl (lv_at hl 0 rfl) ?_
        refine va_get (ci := 7) (C := RX7) (T := TX7) (N := 11) (v := .ref (a2 0)) hx hb hts i_X7_can_X7 hown hK hP 0 rfl rfl 1 (by decide) (hts _ m_X7_can_5dfb42) (fun _ h9 => h9) rfl dX7_can_50 ?_
        refine va_getN (ci := 2) (C := RX2) (T := TX2) (N := 11) (v := .ref (a2 2)) hx hb hts i_X7_can_X2 hown hK hP 8 rfl rfl 2 (by decide) (nwG hG (w := .fieldLinkNest "PickedMatch" 82 "PickedMatch$Scene" "numbers" "[I" "PickedMatch") (by decide +kernel)) (fun _ h9 => h9) rfl dX7_can_53 ?_
        refine lv_iload_n hx hb dX7_can_56 rfl (lv_at hl 1 rfl) ?_
        refine lv_iload hx hb dX7_can_57 (lv_at hl 5 rfl) ?_
        obtain ⟨h_59, hf⟩ := ck_e hf
        refine va_iast (cA := E.2.1) (n := 6) (f := q46.1 2) (x := v5) hx hb hK hP (hDD s0 s1 h1 q46.1 q46.2 s3 s4 h4 s5 s6 s7 s8 s9 t9) hS 10 0 rfl rfl h_59 dX7_can_59 (fun H locs hP _ hS => ?_)
        obtain ⟨s2_59, hP, hf⟩ := nm_st' (P := fun z => va_P E.1 vwCl ((wX7o E a0 a1 a2 a3 a4 a5 a6 a7 a8 a9 s0 ++ (wX2 E a1 s1 h1 ++ (wX2 E a2 z q46.2 ++ (wX1 E a3 s3 ++ (wX2 E a4 s4 h4 ++ (wX1 E a5 s5 ++ (wX5 E a6 s6 ++ (wX3 E a7 s7 ++ (wX0 E a8 s8 ++ (wX6 E a9 s9 t9)))))))))) ++ sW E.2.1 L) H) hf hP
        refine lv_aload_n hx hb dX7_can_60 rfl (lv_at hl 0 rfl) ?_
        refine va_get (ci := 7) (C := RX7) (T := TX7) (N := 11) (v := .ref (a3 0)) hx hb hts i_X7_can_X7 hown hK hP 0 rfl rfl 2 (by decide) (hts _ m_X7_can_6a5209) (fun _ h9 => h9) rfl dX7_can_61 ?_
        refine lv_aload_n hx hb dX7_can_64 rfl (lv_at hl 0 rfl) ?_
        refine va_get (ci := 7) (C := RX7) (T := TX7) (N := 11) (v := .ref (a2 0)) hx hb hts i_X7_can_X7 hown hK hP 0 rfl rfl 1 (by decide) (hts _ m_X7_can_5dfb42) (fun _ h9 => h9) rfl dX7_can_65 ?_
        obtain ⟨q68, hc_68, hf⟩ := cl_e hf
        have hm_68 : ∀ q ∈ (wX1 E a3 s3 ++ (wX2 E a2 s2_59 q46.2)) ++ sW E.2.1 L, q ∈ (wX7o E a0 a1 a2 a3 a4 a5 a6 a7 a8 a9 s0 ++ (wX2 E a1 s1 h1 ++ (wX2 E a2 s2_59 q46.2 ++ (wX1 E a3 s3 ++ (wX2 E a4 s4 h4 ++ (wX1 E a5 s5 ++ (wX5 E a6 s6 ++ (wX3 E a7 s7 ++ (wX0 E a8 s8 ++ (wX6 E a9 s9 t9)))))))))) ++ sW E.2.1 L := (app_mem (sub_mem (suf := []) [15, 16, 17, 18, 19, 20, 21, 22, 8, 9, 10, 11, 12, 13, 14] rfl))
        refine fin_i (E := E) (wc := (wX1 E a3 s3 ++ (wX2 E a2 s2_59 q46.2)) ++ sW E.2.1 L) (wc' := (wX1 E a3 s3 ++ (wX2 E a2 q68.2 q46.2)) ++ sW E.2.1 L) (va_runVN (As := [.ref (a2 0)]) (rest := []) ⟨hx, hb, hml, hown, hts⟩ (k_X1_isAllSeen l E a3 a2 L N s3 s2_59 q46.2 q68 hc_68 _) ⟨va_cnB 1 hts gX7_can_X1_isAllSeen_n213 rfl rfl rfl (hG.1 (.methodLinkNest "PickedMatch" 213 yX1_isAllSeen "PickedMatch") (by decide +kernel)) (hts _ m_X7_can_6e074f) (by decide +kernel) ⟨(Nat.le_of_ble_eq_true rfl), (Nat.le_of_ble_eq_true rfl)⟩, (hts _ m_X7_can_a5feb1), (hts _ m_X7_can_85aea1)⟩ (pre_v (ci := 1) (q0 := 0) hK (sub_P hm_68 hP) (sub_Ds (ws := wX7o E a0 a1 a2 a3 a4 a5 a6 a7 a8 a9 s0 ++ (wX2 E a1 s1 h1 ++ (wX2 E a2 s2_59 q46.2 ++ (wX1 E a3 s3 ++ (wX2 E a4 s4 h4 ++ (wX1 E a5 s5 ++ (wX5 E a6 s6 ++ (wX3 E a7 s7 ++ (wX0 E a8 s8 ++ (wX6 E a9 s9 t9)))))))))) (wc := wX1 E a3 s3 ++ (wX2 E a2 s2_59 q46.2)) (suf := sW E.2.1 L) [15, 16, 17, 18, 19, 20, 21, 22, 8, 9, 10, 11, 12, 13, 14] (by decide) rfl (hDD s0 s1 h1 s2_59 q46.2 s3 s4 h4 s5 s6 s7 s8 s9 t9)) hS hG hAB rfl rfl) rfl rfl hl.1 rfl (lv_room (Nat.le_of_ble_eq_true rfl)) dX7_can_68 ⟨Nat.zero_le _, Nat.zero_le _⟩) hS (w_free (hDD s0 s1 h1 s2_59 q46.2 s3 s4 h4 s5 s6 s7 s8 s9 t9) hS hA hm_68) (fun H locs hP1 hk hS => ?_)
        have hP := w_joins (ws' := wX7o E a0 a1 a2 a3 a4 a5 a6 a7 a8 a9 s0 ++ (wX2 E a1 s1 h1 ++ (wX2 E a2 q68.2 q46.2 ++ (wX1 E a3 s3 ++ (wX2 E a4 s4 h4 ++ (wX1 E a5 s5 ++ (wX5 E a6 s6 ++ (wX3 E a7 s7 ++ (wX0 E a8 s8 ++ (wX6 E a9 s9 t9)))))))))) (wc := wX1 E a3 s3 ++ (wX2 E a2 s2_59 q46.2)) (wc' := wX1 E a3 s3 ++ (wX2 E a2 q68.2 q46.2)) hP (hDD s0 s1 h1 s2_59 q46.2 s3 s4 h4 s5 s6 s7 s8 s9 t9) [15, 16, 17, 18, 19, 20, 21, 22, 8, 9, 10, 11, 12, 13, 14] rfl [none, none, none, none, none, none, none, none, some 8, some 9, some 10, some 11, some 12, some 13, some 14, some 0, some 1, some 2, some 3, some 4, some 5, some 6, some 7, none, none, none, none, none, none, none, none, none, none, none, none, none, none, none, none, none, none, none, none, none, none, none, none, none, none, none] rfl rfl hk hP1
        refine lv_if_eq (tgt := 90) hx hb dX7_can_71 (by decide) (fun c_71 => ?_) (fun c_71 => ?_)
        · have hf := ite_t c_71 hf
          obtain ⟨x90, e_x90⟩ : ∃ y : Int32, y = v5 + 1 := ⟨_, rfl⟩
          have hf := nm_q e_x90 hf
          refine lv_iinc (v := x90) (lv' := [(5, .int x90), (0, .ref (a0 0)), (1, .int v1), (2, .int v2), (3, .int v3), (4, .int v4)]) hx hb dX7_can_90 hl (k := 5) rfl (by rw [e_x90]; rfl) (Nat.le_of_ble_eq_true rfl) rfl (fun ls hl => ?_)
          refine lv_goto (tgt := 31) hx hb dX7_can_93 (by decide) ?_
          exact ih_31 q68.2 q46.2 v3 v4 x90 hf _ _ _ hP hS (lv_sub hl [1, 2, 3, 4, 5, 0] rfl)
        · have hf := ite_f c_71 hf
          refine lv_iload_n hx hb dX7_can_74 rfl (lv_at hl 3 rfl) ?_
          refine lv_if_ne (tgt := 83) hx hb dX7_can_75 (by decide) (fun c_75 => ?_) (fun c_75 => ?_)
          · have hf := ite_f c_75 hf
            refine lv_iload hx hb dX7_can_83 (lv_at hl 4 rfl) ?_
            refine lv_istore (lv' := [(4, .int v4), (0, .ref (a0 0)), (1, .int v1), (2, .int v2), (3, .int v3), (5, .int v5)]) hx hb dX7_can_85 hl (Nat.le_of_ble_eq_true rfl) rfl (fun ls hl => ?_)
            obtain ⟨x87, e_x87⟩ : ∃ y : Int32, y = v3 + 1 := ⟨_, rfl⟩
            have hf := nm_q e_x87 hf
            refine lv_iinc (v := x87) (lv' := [(3, .int x87), (4, .int v4), (0, .ref (a0 0)), (1, .int v1), (2, .int v2), (5, .int v5)]) hx hb dX7_can_87 hl (k := 4) rfl (by rw [e_x87]; rfl) (Nat.le_of_ble_eq_true rfl) rfl (fun ls hl => ?_)
            obtain ⟨x90, e_x90⟩ : ∃ y : Int32, y = v5 + 1 := ⟨_, rfl⟩
            have hf := nm_q e_x90 hf
            refine lv_iinc (v := x90) (lv' := [(5, .int x90), (3, .int x87), (4, .int v4), (0, .ref (a0 0)), (1, .int v1), (2, .int v2)]) hx hb dX7_can_90 hl (k := 5) rfl (by rw [e_x90]; rfl) (Nat.le_of_ble_eq_true rfl) rfl (fun ls hl => ?_)
            refine lv_goto (tgt := 31) hx hb dX7_can_93 (by decide) ?_
            exact ih_31 q68.2 q46.2 x87 v4 x90 hf _ _ _ hP hS (lv_sub hl [3, 4, 5, 1, 2, 0] rfl)
          · have hf := ite_t c_75 hf
            refine lv_iload hx hb dX7_can_78 (lv_at hl 5 rfl) ?_
            refine lv_goto (tgt := 85) hx hb dX7_can_80 (by decide) ?_
            refine lv_istore (lv' := [(4, .int v5), (0, .ref (a0 0)), (1, .int v1), (2, .int v2), (3, .int v3), (5, .int v5)]) hx hb dX7_can_85 hl (Nat.le_of_ble_eq_true rfl) rfl (fun ls hl => ?_)
            obtain ⟨x87, e_x87⟩ : ∃ y : Int32, y = v3 + 1 := ⟨_, rfl⟩
            have hf := nm_q e_x87 hf
            refine lv_iinc (v := x87) (lv' := [(3, .int x87), (4, .int v5), (0, .ref (a0 0)), (1, .int v1), (2, .int v2), (5, .int v5)]) hx hb dX7_can_87 hl (k := 4) rfl (by rw [e_x87]; rfl) (Nat.le_of_ble_eq_true rfl) rfl (fun ls hl => ?_)
            obtain ⟨x90, e_x90⟩ : ∃ y : Int32, y = v5 + 1 := ⟨_, rfl⟩
            have hf := nm_q e_x90 hf
            refine lv_iinc (v := x90) (lv' := [(5, .int x90), (3, .int x87), (4, .int v5), (0, .ref (a0 0)), (1, .int v1), (2, .int v2)]) hx hb dX7_can_90 hl (k := 5) rfl (by rw [e_x90]; rfl) (Nat.le_of_ble_eq_true rfl) rfl (fun ls hl => ?_)
            refine lv_goto (tgt := 31) hx hb dX7_can_93 (by decide) ?_
            exact ih_31 q68.2 q46.2 x87 v5 x90 hf _ _ _ hP hS (lv_sub hl [3, 4, 5, 1, 2, 0] rfl)
  refine lv_aload_n hx hb dX7_can_0 rfl (lv_at hl 0 rfl) ?_
  refine va_get (ci := 7) (C := RX7) (T := TX7) (N := 11) (v := .ref (a1 0)) hx hb hts i_X7_can_X7 hown hK hP 0 rfl rfl 0 (by decide) (hts _ m_X7_can_265b14) (fun _ h9 => h9) rfl dX7_can_1 ?_
  refine lv_iload_n hx hb dX7_can_4 rfl (lv_at hl 1 rfl) ?_
  obtain ⟨q5, hc_5, hf⟩ := cl_e hf
  have hm_5 : ∀ q ∈ (wX2 E a1 s1 h1) ++ sW E.2.1 L, q ∈ (wX7o E a0 a1 a2 a3 a4 a5 a6 a7 a8 a9 s0 ++ (wX2 E a1 s1 h1 ++ (wX2 E a2 s2 h2 ++ (wX1 E a3 s3 ++ (wX2 E a4 s4 h4 ++ (wX1 E a5 s5 ++ (wX5 E a6 s6 ++ (wX3 E a7 s7 ++ (wX0 E a8 s8 ++ (wX6 E a9 s9 t9)))))))))) ++ sW E.2.1 L := (app_mem (sub_mem (suf := []) [1, 2, 3, 4, 5, 6, 7] rfl))
  refine fin_i (E := E) (wc := (wX2 E a1 s1 h1) ++ sW E.2.1 L) (wc' := (wX2 E a1 s1 h1) ++ sW E.2.1 L) (va_runVN (As := [.int p1]) (rest := []) ⟨hx, hb, hml, hown, hts⟩ (k_X2_hasThing l E a1 L N s1 h1 p1 q5 hc_5 _) ⟨va_cnB 1 hts gX7_can_X2_hasThing_n74 rfl rfl rfl (hG.1 (.methodLinkNest "PickedMatch" 74 yX2_hasThing "PickedMatch") (by decide +kernel)) (hts _ m_X7_can_4cf9d8) (by decide +kernel) ⟨(Nat.le_of_ble_eq_true rfl), (Nat.le_of_ble_eq_true rfl)⟩, (hts _ m_X7_can_0211d8), (hts _ m_X7_can_6099ba)⟩ (pre_v (ci := 2) (q0 := 0) hK (sub_P hm_5 hP) (sub_Ds (ws := wX7o E a0 a1 a2 a3 a4 a5 a6 a7 a8 a9 s0 ++ (wX2 E a1 s1 h1 ++ (wX2 E a2 s2 h2 ++ (wX1 E a3 s3 ++ (wX2 E a4 s4 h4 ++ (wX1 E a5 s5 ++ (wX5 E a6 s6 ++ (wX3 E a7 s7 ++ (wX0 E a8 s8 ++ (wX6 E a9 s9 t9)))))))))) (wc := wX2 E a1 s1 h1) (suf := sW E.2.1 L) [1, 2, 3, 4, 5, 6, 7] (by decide) rfl (hDD s0 s1 h1 s2 h2 s3 s4 h4 s5 s6 s7 s8 s9 t9)) hS hG hAB rfl rfl) rfl rfl hl.1 rfl (lv_room (Nat.le_of_ble_eq_true rfl)) dX7_can_5 ⟨Nat.zero_le _, Nat.zero_le _⟩) hS (w_free (hDD s0 s1 h1 s2 h2 s3 s4 h4 s5 s6 s7 s8 s9 t9) hS hA hm_5) (fun H locs hP1 hk hS => ?_)
  have hP := w_joins (ws' := wX7o E a0 a1 a2 a3 a4 a5 a6 a7 a8 a9 s0 ++ (wX2 E a1 s1 h1 ++ (wX2 E a2 s2 h2 ++ (wX1 E a3 s3 ++ (wX2 E a4 s4 h4 ++ (wX1 E a5 s5 ++ (wX5 E a6 s6 ++ (wX3 E a7 s7 ++ (wX0 E a8 s8 ++ (wX6 E a9 s9 t9)))))))))) (wc := wX2 E a1 s1 h1) (wc' := wX2 E a1 s1 h1) hP (hDD s0 s1 h1 s2 h2 s3 s4 h4 s5 s6 s7 s8 s9 t9) [1, 2, 3, 4, 5, 6, 7] rfl [none, some 0, some 1, some 2, some 3, some 4, some 5, some 6, none, none, none, none, none, none, none, none, none, none, none, none, none, none, none, none, none, none, none, none, none, none, none, none, none, none, none, none, none, none, none, none, none, none, none, none, none, none, none, none, none, none] rfl rfl hk hP1
  refine lv_if_eq (tgt := 20) hx hb dX7_can_8 (by decide) (fun c_8 => ?_) (fun c_8 => ?_)
  · have hf := ite_t c_8 hf
    refine lv_iconst (v := (-1)) hx hb dX7_can_20 (by decide) ?_
    have e9 := Option.some.inj hf
    have h9_0 : s2 = q.2.1 := congrArg (fun z => z.2.1) e9
    have h9_1 : h2 = q.2.2 := congrArg (fun z => z.2.2) e9
    have hP9 : va_P E.1 vwCl ((wX7o E a0 a1 a2 a3 a4 a5 a6 a7 a8 a9 s0 ++ (wX2 E a1 s1 h1 ++ (wX2 E a2 q.2.1 q.2.2 ++ (wX1 E a3 s3 ++ (wX2 E a4 s4 h4 ++ (wX1 E a5 s5 ++ (wX5 E a6 s6 ++ (wX3 E a7 s7 ++ (wX0 E a8 s8 ++ (wX6 E a9 s9 t9)))))))))) ++ sW E.2.1 L) H := by rw [← h9_0, ← h9_1]; exact hP
    exact rt_i hx hb hr hlocks (fst_e e9) hP9 hS dX7_can_21
  · have hf := ite_f c_8 hf
    refine lv_iload_n hx hb dX7_can_11 rfl (lv_at hl 2 rfl) ?_
    refine lv_iconst (v := 0) hx hb dX7_can_12 (by decide) ?_
    refine lv_iconst (v := 1) hx hb dX7_can_13 (by decide) ?_
    obtain ⟨q14, hc_14, hf⟩ := cl_e hf
    refine fin_i (E := E) (wc := ([] : va_W)) (wc' := ([] : va_W)) (va_runS (As := [.int p2, .int 0, .int 1]) (rest := []) ⟨hx, hb, hml, hown, hts⟩ (k_X7_isWithin l E N p2 0 1 q14 hc_14 _) (va_cwS 3 hts gX7_can_X7_isWithin rfl rfl rfl (by decide +kernel) ⟨(Nat.le_of_ble_eq_true rfl), (Nat.le_of_ble_eq_true rfl)⟩) (pre_s hK va_P_nil va_D_nil hS hG hAB) rfl rfl hl.1 rfl (lv_room (Nat.le_of_ble_eq_true rfl)) dX7_can_14 ⟨Nat.zero_le _, Nat.zero_le _⟩) hS (free_nil hS hA) (fun H locs hP1 hk hS => ?_)
    have hP := w_kept0 hP hk
    refine lv_if_ne (tgt := 22) hx hb dX7_can_17 (by decide) (fun c_17 => ?_) (fun c_17 => ?_)
    · have hf := ite_f c_17 hf
      refine lv_iconst (v := 0) hx hb dX7_can_22 (by decide) ?_
      refine lv_istore_n (lv' := [(3, .int 0), (0, .ref (a0 0)), (1, .int p1), (2, .int p2)]) hx hb dX7_can_23 rfl hl (Nat.le_of_ble_eq_true rfl) rfl (fun ls hl => ?_)
      refine lv_bipush (v := (-5)) hx hb dX7_can_24 (by decide) ?_
      refine lv_topi (fun x26 e_x26 => ?_)
      have hf := nm_q e_x26 hf
      refine lv_istore (lv' := [(4, .int x26), (3, .int 0), (0, .ref (a0 0)), (1, .int p1), (2, .int p2)]) hx hb dX7_can_26 hl (Nat.le_of_ble_eq_true rfl) rfl (fun ls hl => ?_)
      refine lv_iconst (v := 0) hx hb dX7_can_28 (by decide) ?_
      refine lv_istore (lv' := [(5, .int 0), (4, .int x26), (3, .int 0), (0, .ref (a0 0)), (1, .int p1), (2, .int p2)]) hx hb dX7_can_29 hl (Nat.le_of_ble_eq_true rfl) rfl (fun ls hl => ?_)
      exact hL_31 s1 h1 s3 p1 p2 N s2 h2 0 x26 0 hf _ _ _ hP hS (lv_sub hl [3, 4, 5, 2, 1, 0] rfl)
    · have hf := ite_t c_17 hf
      refine lv_iconst (v := (-1)) hx hb dX7_can_20 (by decide) ?_
      have e9 := Option.some.inj hf
      have h9_0 : s2 = q.2.1 := congrArg (fun z => z.2.1) e9
      have h9_1 : h2 = q.2.2 := congrArg (fun z => z.2.2) e9
      have hP9 : va_P E.1 vwCl ((wX7o E a0 a1 a2 a3 a4 a5 a6 a7 a8 a9 s0 ++ (wX2 E a1 s1 h1 ++ (wX2 E a2 q.2.1 q.2.2 ++ (wX1 E a3 s3 ++ (wX2 E a4 s4 h4 ++ (wX1 E a5 s5 ++ (wX5 E a6 s6 ++ (wX3 E a7 s7 ++ (wX0 E a8 s8 ++ (wX6 E a9 s9 t9)))))))))) ++ sW E.2.1 L) H := by rw [← h9_0, ← h9_1]; exact hP
      exact rt_i hx hb hr hlocks (fst_e e9) hP9 hS dX7_can_21
abbrev rm_X7_greatestDivisor : Room := { frames := 0, cells := 0, slots := 0, locals := 0 }
set_option maxHeartbeats 8000000 in
set_option maxRecDepth 100000 in
theorem k_X7_greatestDivisor (l : Launch) (E : Ev) (N : Nat) (p0 : Int32) (p1 : Int32) (q : (Int32)) (hf : f_X7_greatestDivisor N p0 p1 = some q) : Ci l yX7_greatestDivisor wsX7_greatestDivisor rm_X7_greatestDivisor E [.int p0, .int p1] (([] : va_W)) (([] : va_W)) q := by
  unfold f_X7_greatestDivisor at hf
  intro sz
  refine Met.ofW (cc := cX7_greatestDivisor) (maxL := 6) (ret := (some .int)) (by decide) rfl ?_
  intro p e s m args below meth c s₁ B hml hv
  obtain ⟨rfl, hsz, hP, hK, hD0, hG, hA, hAB⟩ := start hv
  have hx := B.exec
  have hb := B.bytes
  have hr := B.returns
  have hts := atoms_spec (ws := wsX7_greatestDivisor) B.pre
  have hown : s.vm.findClass RX7 = some m.cls := findClass_of_methodNamed B.named
  have hlocks := B.notSynchronized
  subst hsz
  generalize va_A (([] : va_W)) s.heap.size = A0 at hD0 hA hAB ⊢
  have hDD : va_D A0 (([] : va_W)) := hD0
  have hS : va_S A0 s.heap s.heap [] := va_S.rf
  have hl := lv_entry ([.int p0, .int p1]) (n := 6) (Nat.le_of_ble_eq_true rfl)
  rw [lg_entry_eq]
  generalize (lg_sl ([.int p0, .int p1]) ++ List.replicate (6 - (lg_sl ([.int p0, .int p1])).length) Slot.unset).toArray = ls at hl ⊢
  have hl : lv_has ls 6 [(0, .int p0), (1, .int p1)] := hl
  have hL_7 : ∀ (n_7 : Nat) (v2 : Int32) (v3 : Int32) (v4 : Int32), l_X7_greatestDivisor_7 N n_7 v2 v3 v4 = some q → ∀ (H : Heap) (locs : List Loc) (ls : Array Slot), va_P E.1 vwCl (([] : va_W)) H → va_S A0 s.heap H locs → lv_has ls 6 [(2, .int v2), (3, .int v3), (4, .int v4)] → W p l e rm_X7_greatestDivisor s m ([.int p0, .int p1] : List Value).toArray below meth c H locs 0 0 (MQ below (va_Qi (fun (r' : Int32) (_ : Unit) => r' = q) (fun _ t => va_P E.1 vwCl (([] : va_W)) t.heap) A0) ([.int p0, .int p1] : List Value).toArray s 0 0 A0) (F0 m 7 ls []) := by
    intro n_7
    induction n_7 with
    | zero => intro v2 v3 v4 hf; rw [l_X7_greatestDivisor_7] at hf; cases hf
    | succ n_7 ih_7 =>
      intro v2 v3 v4 hf H locs ls hP hS hl
      rw [l_X7_greatestDivisor_7] at hf
      refine lv_iload hx hb dX7_greatestDivisor_7 (lv_at hl 2 rfl) ?_
      refine lv_bipush (v := 100) hx hb dX7_greatestDivisor_9 (by decide) ?_
      refine lv_icmp_ge (tgt := 34) hx hb dX7_greatestDivisor_11 (by decide) (fun c_11 => ?_) (fun c_11 => ?_)
      · have hf := ite_t c_11 hf
        refine lv_iload_n hx hb dX7_greatestDivisor_34 rfl (lv_at hl 0 rfl) ?_
        have e9 := Option.some.inj hf
        exact rt_i hx hb hr hlocks e9 hP hS dX7_greatestDivisor_35
      · have hf := ite_f c_11 hf
        refine lv_iload_n hx hb dX7_greatestDivisor_14 rfl (lv_at hl 1 rfl) ?_
        refine lv_if_eq (tgt := 34) hx hb dX7_greatestDivisor_15 (by decide) (fun c_15 => ?_) (fun c_15 => ?_)
        · have hf := ite_t c_15 hf
          refine lv_iload_n hx hb dX7_greatestDivisor_34 rfl (lv_at hl 0 rfl) ?_
          have e9 := Option.some.inj hf
          exact rt_i hx hb hr hlocks e9 hP hS dX7_greatestDivisor_35
        · have hf := ite_f c_15 hf
          refine lv_iload_n hx hb dX7_greatestDivisor_18 rfl (lv_at hl 0 rfl) ?_
          refine lv_iload_n hx hb dX7_greatestDivisor_19 rfl (lv_at hl 1 rfl) ?_
          obtain ⟨hz_20, hf⟩ := cz_e hf
          refine lv_irem hx hb dX7_greatestDivisor_20 hz_20 ?_
          refine lv_topi (fun x21 e_x21 => ?_)
          have hf := nm_q e_x21 hf
          refine lv_istore (lv' := [(5, .int x21), (2, .int v2), (3, .int v3), (4, .int v4)]) hx hb dX7_greatestDivisor_21 hl (Nat.le_of_ble_eq_true rfl) rfl (fun ls hl => ?_)
          refine lv_iload_n hx hb dX7_greatestDivisor_23 rfl (lv_at hl 2 rfl) ?_
          refine lv_istore_n (lv' := [(2, .int v3), (5, .int x21), (3, .int v3), (4, .int v4)]) hx hb dX7_greatestDivisor_24 rfl hl (Nat.le_of_ble_eq_true rfl) rfl (fun ls hl => ?_)
          refine lv_iload hx hb dX7_greatestDivisor_25 (lv_at hl 1 rfl) ?_
          refine lv_istore_n (lv' := [(3, .int x21), (2, .int v3), (5, .int x21), (4, .int v4)]) hx hb dX7_greatestDivisor_27 rfl hl (Nat.le_of_ble_eq_true rfl) rfl (fun ls hl => ?_)
          obtain ⟨x28, e_x28⟩ : ∃ y : Int32, y = v4 + 1 := ⟨_, rfl⟩
          have hf := nm_q e_x28 hf
          refine lv_iinc (v := x28) (lv' := [(4, .int x28), (3, .int x21), (2, .int v3), (5, .int x21)]) hx hb dX7_greatestDivisor_28 hl (k := 3) rfl (by rw [e_x28]; rfl) (Nat.le_of_ble_eq_true rfl) rfl (fun ls hl => ?_)
          refine lv_goto (tgt := 7) hx hb dX7_greatestDivisor_31 (by decide) ?_
          exact ih_7 v3 x21 x28 hf _ _ _ hP hS (lv_sub hl [2, 1, 0] rfl)
  refine lv_iload_n hx hb dX7_greatestDivisor_0 rfl (lv_at hl 0 rfl) ?_
  refine lv_istore_n (lv' := [(2, .int p0), (0, .int p0), (1, .int p1)]) hx hb dX7_greatestDivisor_1 rfl hl (Nat.le_of_ble_eq_true rfl) rfl (fun ls hl => ?_)
  refine lv_iload_n hx hb dX7_greatestDivisor_2 rfl (lv_at hl 2 rfl) ?_
  refine lv_istore_n (lv' := [(3, .int p1), (2, .int p0), (0, .int p0), (1, .int p1)]) hx hb dX7_greatestDivisor_3 rfl hl (Nat.le_of_ble_eq_true rfl) rfl (fun ls hl => ?_)
  refine lv_iconst (v := 0) hx hb dX7_greatestDivisor_4 (by decide) ?_
  refine lv_istore (lv' := [(4, .int 0), (3, .int p1), (2, .int p0), (0, .int p0), (1, .int p1)]) hx hb dX7_greatestDivisor_5 hl (Nat.le_of_ble_eq_true rfl) rfl (fun ls hl => ?_)
  exact hL_7 N p0 p1 0 hf _ _ _ hP hS (lv_sub hl [2, 1, 0] rfl)
abbrev rm_X7_partOfFraction : Room := { frames := 1, cells := 0, slots := 0, locals := 25 }
theorem m_X7_partOfFraction_a4198b : Cond.constantLong RX7 217 (-9223372036854775808) ∈ wsX7_partOfFraction := by decide +kernel
set_option maxHeartbeats 8000000 in
set_option maxRecDepth 100000 in
theorem k_X7_partOfFraction (l : Launch) (E : Ev) (N : Nat) (p0 : Int32) (p1 : Int32) (p2 : Int32) (q : (Int64)) (hf : f_X7_partOfFraction N p0 p1 p2 = some q) : Cl l yX7_partOfFraction wsX7_partOfFraction rm_X7_partOfFraction E [.int p0, .int p1, .int p2] (([] : va_W)) (([] : va_W)) q := by
  unfold f_X7_partOfFraction at hf
  intro sz
  refine Met.ofW (cc := cX7_partOfFraction) (maxL := 4) (ret := (some .long)) (by decide) rfl ?_
  intro p e s m args below meth c s₁ B hml hv
  obtain ⟨rfl, hsz, hP, hK, hD0, hG, hA, hAB⟩ := start hv
  have hx := B.exec
  have hb := B.bytes
  have hr := B.returns
  have hts := atoms_spec (ws := wsX7_partOfFraction) B.pre
  have hown : s.vm.findClass RX7 = some m.cls := findClass_of_methodNamed B.named
  have hlocks := B.notSynchronized
  subst hsz
  generalize va_A (([] : va_W)) s.heap.size = A0 at hD0 hA hAB ⊢
  have hDD : va_D A0 (([] : va_W)) := hD0
  have hS : va_S A0 s.heap s.heap [] := va_S.rf
  have hl := lv_entry ([.int p0, .int p1, .int p2]) (n := 4) (Nat.le_of_ble_eq_true rfl)
  rw [lg_entry_eq]
  generalize (lg_sl ([.int p0, .int p1, .int p2]) ++ List.replicate (4 - (lg_sl ([.int p0, .int p1, .int p2])).length) Slot.unset).toArray = ls at hl ⊢
  have hl : lv_has ls 4 [(0, .int p0), (1, .int p1), (2, .int p2)] := hl
  refine lv_iload_n hx hb dX7_partOfFraction_0 rfl (lv_at hl 1 rfl) ?_
  refine lv_if_le (tgt := 13) hx hb dX7_partOfFraction_1 (by decide) (fun c_1 => ?_) (fun c_1 => ?_)
  · have hf := ite_t c_1 hf
    refine lv_ldc2 (v := (-9223372036854775808)) hx hb hown (hts _ m_X7_partOfFraction_a4198b) dX7_partOfFraction_13 ?_
    have e9 := Option.some.inj hf
    exact rt_l hx hb hr hlocks e9 hP hS dX7_partOfFraction_16
  · have hf := ite_f c_1 hf
    refine lv_iload_n hx hb dX7_partOfFraction_4 rfl (lv_at hl 2 rfl) ?_
    refine lv_iconst (v := 0) hx hb dX7_partOfFraction_5 (by decide) ?_
    refine lv_iconst (v := 1) hx hb dX7_partOfFraction_6 (by decide) ?_
    obtain ⟨q7, hc_7, hf⟩ := cl_e hf
    refine fin_i (E := E) (wc := ([] : va_W)) (wc' := ([] : va_W)) (va_runS (As := [.int p2, .int 0, .int 1]) (rest := []) ⟨hx, hb, hml, hown, hts⟩ (k_X7_isWithin l E N p2 0 1 q7 hc_7 _) (va_cwS 3 hts gX7_partOfFraction_X7_isWithin rfl rfl rfl (by decide +kernel) ⟨(Nat.le_of_ble_eq_true rfl), (Nat.le_of_ble_eq_true rfl)⟩) (pre_s hK va_P_nil va_D_nil hS hG hAB) rfl rfl hl.1 rfl (lv_room (Nat.le_of_ble_eq_true rfl)) dX7_partOfFraction_7 ⟨Nat.zero_le _, Nat.zero_le _⟩) hS (free_nil hS hA) (fun H locs hP1 hk hS => ?_)
    have hP := w_kept0 hP hk
    refine lv_if_ne (tgt := 17) hx hb dX7_partOfFraction_10 (by decide) (fun c_10 => ?_) (fun c_10 => ?_)
    · have hf := ite_f c_10 hf
      refine lv_iload_n hx hb dX7_partOfFraction_17 rfl (lv_at hl 0 rfl) ?_
      refine lv_iload_n hx hb dX7_partOfFraction_18 rfl (lv_at hl 1 rfl) ?_
      obtain ⟨q19, hc_19, hf⟩ := cl_e hf
      refine fin_i (E := E) (wc := ([] : va_W)) (wc' := ([] : va_W)) (va_runS (As := [.int p0, .int p1]) (rest := []) ⟨hx, hb, hml, hown, hts⟩ (k_X7_greatestDivisor l E N p0 p1 q19 hc_19 _) (va_cwS 2 hts gX7_partOfFraction_X7_greatestDivisor rfl rfl rfl (by decide +kernel) ⟨(Nat.le_of_ble_eq_true rfl), (Nat.le_of_ble_eq_true rfl)⟩) (pre_s hK va_P_nil va_D_nil hS hG hAB) rfl rfl hl.1 rfl (lv_room (Nat.le_of_ble_eq_true rfl)) dX7_partOfFraction_19 ⟨Nat.zero_le _, Nat.zero_le _⟩) hS (free_nil hS hA) (fun H locs hP1 hk hS => ?_)
      have hP := w_kept0 hP hk
      refine lv_istore_n (lv' := [(3, .int q19), (0, .int p0), (1, .int p1), (2, .int p2)]) hx hb dX7_partOfFraction_22 rfl hl (Nat.le_of_ble_eq_true rfl) rfl (fun ls hl => ?_)
      refine lv_iload_n hx hb dX7_partOfFraction_23 rfl (lv_at hl 0 rfl) ?_
      refine lv_if_gt (tgt := 31) hx hb dX7_partOfFraction_24 (by decide) (fun c_24 => ?_) (fun c_24 => ?_)
      · have hf := ite_t c_24 hf
        refine lv_iload_n hx hb dX7_partOfFraction_31 rfl (lv_at hl 3 rfl) ?_
        refine lv_if_ne (tgt := 42) hx hb dX7_partOfFraction_32 (by decide) (fun c_32 => ?_) (fun c_32 => ?_)
        · have hf := ite_f c_32 hf
          refine lv_iload_n hx hb dX7_partOfFraction_42 rfl (lv_at hl 2 rfl) ?_
          refine lv_iload_n hx hb dX7_partOfFraction_43 rfl (lv_at hl 0 rfl) ?_
          obtain ⟨hz_44, hf⟩ := cz_e hf
          refine lv_idiv hx hb dX7_partOfFraction_44 hz_44 ?_
          refine lv_i2l (v := (p1 / q19).toInt64) hx hb dX7_partOfFraction_45 rfl ?_
          have e9 := Option.some.inj hf
          exact rt_l hx hb hr hlocks e9 hP hS dX7_partOfFraction_46
        · have hf := ite_t c_32 hf
          refine lv_iload_n hx hb dX7_partOfFraction_35 rfl (lv_at hl 1 rfl) ?_
          refine lv_iload_n hx hb dX7_partOfFraction_36 rfl (lv_at hl 0 rfl) ?_
          obtain ⟨hz_37, hf⟩ := cz_e hf
          refine lv_idiv hx hb dX7_partOfFraction_37 hz_37 ?_
          refine lv_i2l (v := (p0 / q19).toInt64) hx hb dX7_partOfFraction_38 rfl ?_
          refine lv_goto (tgt := 46) hx hb dX7_partOfFraction_39 (by decide) ?_
          have e9 := Option.some.inj hf
          exact rt_l hx hb hr hlocks e9 hP hS dX7_partOfFraction_46
      · have hf := ite_f c_24 hf
        refine lv_ldc2 (v := (-9223372036854775808)) hx hb hown (hts _ m_X7_partOfFraction_a4198b) dX7_partOfFraction_27 ?_
        have e9 := Option.some.inj hf
        exact rt_l hx hb hr hlocks e9 hP hS dX7_partOfFraction_30
    · have hf := ite_t c_10 hf
      refine lv_ldc2 (v := (-9223372036854775808)) hx hb hown (hts _ m_X7_partOfFraction_a4198b) dX7_partOfFraction_13 ?_
      have e9 := Option.some.inj hf
      exact rt_l hx hb hr hlocks e9 hP hS dX7_partOfFraction_16
abbrev rm_X7_odds : Room := { frames := 6, cells := 0, slots := 0, locals := 138 }
theorem m_X7_odds_265b14 : Cond.fieldLink RX7 12 "PickedMatch" "scene" "LPickedMatch$Scene;" ∈ wsX7_odds := by decide +kernel
theorem i_X7_odds_X7 : ∀ w ∈ wsX70, w ∈ wsX7_odds := fun _ h => List.mem_cons_of_mem _ (List.mem_append_left _ (List.mem_append_left _ (List.mem_append_right _ h)))
theorem i_X7_odds_X2 : ∀ w ∈ wsX20, w ∈ wsX7_odds := fun _ h => List.mem_cons_of_mem _ (List.mem_append_left _ (List.mem_append_right _ h))
theorem m_X7_odds_5dfb42 : Cond.fieldLink RX7 18 "PickedMatch" "trial" "LPickedMatch$Scene;" ∈ wsX7_odds := by decide +kernel
theorem m_X7_odds_4cf9d8 : Cond.initialized RX2 ∈ wsX7_odds := by decide +kernel
theorem m_X7_odds_c21ce8 : Cond.instanceMethod yX2_becomeAs ∈ wsX7_odds := by decide +kernel
theorem m_X7_odds_986579 : Cond.selects RX2 yX2_becomeAs yX2_becomeAs ∈ wsX7_odds := by decide +kernel
theorem m_X7_odds_9de039 : Cond.instanceMethod yX2_daysGo ∈ wsX7_odds := by decide +kernel
theorem m_X7_odds_a576f3 : Cond.selects RX2 yX2_daysGo yX2_daysGo ∈ wsX7_odds := by decide +kernel
theorem m_X7_odds_a4198b : Cond.constantLong RX7 217 (-9223372036854775808) ∈ wsX7_odds := by decide +kernel
set_option maxHeartbeats 8000000 in
set_option maxRecDepth 100000 in
theorem k_X7_odds (l : Launch) (E : Ev) (a0 : Nat → Nat) (a1 : Nat → Nat) (a2 : Nat → Nat) (a3 : Nat → Nat) (a4 : Nat → Nat) (a5 : Nat → Nat) (a6 : Nat → Nat) (a7 : Nat → Nat) (a8 : Nat → Nat) (a9 : Nat → Nat) (L : List SR) (N : Nat) (s0 : St) (s1 : St) (h1 : Option SR) (s2 : St) (h2 : Option SR) (s3 : St) (s4 : St) (h4 : Option SR) (s5 : St) (s6 : St) (s7 : St) (s8 : St) (s9 : St) (t9 : Nat → Nat → Int64) (p1 : Int32) (p2 : Int32) (p3 : Int32) (q : (Int64 × St × (Option SR))) (hf : f_X7_odds N L s1 h1 s2 h2 p1 p2 p3 = some q) : Cl l yX7_odds wsX7_odds rm_X7_odds E [.ref (a0 0), .int p1, .int p2, .int p3] ((wX7o E a0 a1 a2 a3 a4 a5 a6 a7 a8 a9 s0 ++ (wX2 E a1 s1 h1 ++ (wX2 E a2 s2 h2 ++ (wX1 E a3 s3 ++ (wX2 E a4 s4 h4 ++ (wX1 E a5 s5 ++ (wX5 E a6 s6 ++ (wX3 E a7 s7 ++ (wX0 E a8 s8 ++ (wX6 E a9 s9 t9)))))))))) ++ sW E.2.1 L) ((wX7o E a0 a1 a2 a3 a4 a5 a6 a7 a8 a9 s0 ++ (wX2 E a1 s1 h1 ++ (wX2 E a2 q.2.1 q.2.2 ++ (wX1 E a3 s3 ++ (wX2 E a4 s4 h4 ++ (wX1 E a5 s5 ++ (wX5 E a6 s6 ++ (wX3 E a7 s7 ++ (wX0 E a8 s8 ++ (wX6 E a9 s9 t9)))))))))) ++ sW E.2.1 L) q.1 := by
  unfold f_X7_odds at hf
  intro sz
  refine Met.ofW (cc := cX7_odds) (maxL := 6) (ret := (some .long)) (by decide) rfl ?_
  intro p e s m args below meth c s₁ B hml hpre
  obtain ⟨rfl, hsz, hP, hK, hD0, hG, hA, hAB⟩ := start hpre
  have hx := B.exec
  have hb := B.bytes
  have hr := B.returns
  have hts := atoms_spec (ws := wsX7_odds) B.pre
  have hown : s.vm.findClass RX7 = some m.cls := findClass_of_methodNamed B.named
  have hlocks := B.notSynchronized
  subst hsz
  generalize va_A ((wX7o E a0 a1 a2 a3 a4 a5 a6 a7 a8 a9 s0 ++ (wX2 E a1 s1 h1 ++ (wX2 E a2 s2 h2 ++ (wX1 E a3 s3 ++ (wX2 E a4 s4 h4 ++ (wX1 E a5 s5 ++ (wX5 E a6 s6 ++ (wX3 E a7 s7 ++ (wX0 E a8 s8 ++ (wX6 E a9 s9 t9)))))))))) ++ sW E.2.1 L) s.heap.size = A0 at hD0 hA hAB ⊢
  have hDD : ∀ (s0 : St) (s1 : St) (h1 : Option SR) (s2 : St) (h2 : Option SR) (s3 : St) (s4 : St) (h4 : Option SR) (s5 : St) (s6 : St) (s7 : St) (s8 : St) (s9 : St) (t9 : Nat → Nat → Int64), va_D A0 ((wX7o E a0 a1 a2 a3 a4 a5 a6 a7 a8 a9 s0 ++ (wX2 E a1 s1 h1 ++ (wX2 E a2 s2 h2 ++ (wX1 E a3 s3 ++ (wX2 E a4 s4 h4 ++ (wX1 E a5 s5 ++ (wX5 E a6 s6 ++ (wX3 E a7 s7 ++ (wX0 E a8 s8 ++ (wX6 E a9 s9 t9)))))))))) ++ sW E.2.1 L) := fun s0 s1 h1 s2 h2 s3 s4 h4 s5 s6 s7 s8 s9 t9 => vD_addr hD0 rfl
  have hS : va_S A0 s.heap s.heap [] := va_S.rf
  have hl := lv_entry ([.ref (a0 0), .int p1, .int p2, .int p3]) (n := 6) (Nat.le_of_ble_eq_true rfl)
  rw [lg_entry_eq]
  generalize (lg_sl ([.ref (a0 0), .int p1, .int p2, .int p3]) ++ List.replicate (6 - (lg_sl ([.ref (a0 0), .int p1, .int p2, .int p3])).length) Slot.unset).toArray = ls at hl ⊢
  have hl : lv_has ls 6 [(0, .ref (a0 0)), (1, .int p1), (2, .int p2), (3, .int p3)] := hl
  have hL_30 : ∀ (s1 : St) (h1 : Option SR) (v1 : Int32) (v2 : Int32) (v3 : Int32) (n_30 : Nat) (s2 : St) (h2 : Option SR) (v4 : Int32) (v5 : Int32), l_X7_odds_30 N L s1 h1 v1 v2 v3 n_30 s2 h2 v4 v5 = some q → ∀ (H : Heap) (locs : List Loc) (ls : Array Slot), va_P E.1 vwCl ((wX7o E a0 a1 a2 a3 a4 a5 a6 a7 a8 a9 s0 ++ (wX2 E a1 s1 h1 ++ (wX2 E a2 s2 h2 ++ (wX1 E a3 s3 ++ (wX2 E a4 s4 h4 ++ (wX1 E a5 s5 ++ (wX5 E a6 s6 ++ (wX3 E a7 s7 ++ (wX0 E a8 s8 ++ (wX6 E a9 s9 t9)))))))))) ++ sW E.2.1 L) H → va_S A0 s.heap H locs → lv_has ls 6 [(0, .ref (a0 0)), (1, .int v1), (2, .int v2), (3, .int v3), (4, .int v4), (5, .int v5)] → W p l e rm_X7_odds s m ([.ref (a0 0), .int p1, .int p2, .int p3] : List Value).toArray below meth c H locs 0 0 (MQ below (va_Ql (fun (r' : Int64) (_ : Unit) => r' = q.1) (fun _ t => va_P E.1 vwCl ((wX7o E a0 a1 a2 a3 a4 a5 a6 a7 a8 a9 s0 ++ (wX2 E a1 s1 h1 ++ (wX2 E a2 q.2.1 q.2.2 ++ (wX1 E a3 s3 ++ (wX2 E a4 s4 h4 ++ (wX1 E a5 s5 ++ (wX5 E a6 s6 ++ (wX3 E a7 s7 ++ (wX0 E a8 s8 ++ (wX6 E a9 s9 t9)))))))))) ++ sW E.2.1 L) t.heap) A0) ([.ref (a0 0), .int p1, .int p2, .int p3] : List Value).toArray s 0 0 A0) (F0 m 30 ls []) := by
    intro s1 h1 v1 v2 v3 n_30
    induction n_30 with
    | zero => intro s2 h2 v4 v5 hf; rw [l_X7_odds_30] at hf; cases hf
    | succ n_30 ih_30 =>
      intro s2 h2 v4 v5 hf H locs ls hP hS hl
      rw [l_X7_odds_30] at hf
      refine lv_iload hx hb dX7_odds_30 (lv_at hl 5 rfl) ?_
      refine lv_aload_n hx hb dX7_odds_32 rfl (lv_at hl 0 rfl) ?_
      refine va_get (ci := 7) (C := RX7) (T := TX7) (N := 11) (v := .ref (a1 0)) hx hb hts i_X7_odds_X7 hown hK hP 0 rfl rfl 0 (by decide) (hts _ m_X7_odds_265b14) (fun _ h9 => h9) rfl dX7_odds_33 ?_
      refine va_getN (ci := 2) (C := RX2) (T := TX2) (N := 11) (v := .int (s1 0 0)) hx hb hts i_X7_odds_X2 hown hK hP 1 rfl rfl 0 (by decide) (nwG hG (w := .fieldLinkNest "PickedMatch" 66 "PickedMatch$Scene" "things" "I" "PickedMatch") (by decide +kernel)) (fun _ h9 => h9) rfl dX7_odds_36 ?_
      refine lv_icmp_ge (tgt := 92) hx hb dX7_odds_39 (by decide) (fun c_39 => ?_) (fun c_39 => ?_)
      · have hf := ite_t c_39 hf
        refine lv_iload hx hb dX7_odds_92 (lv_at hl 4 rfl) ?_
        refine lv_aload_n hx hb dX7_odds_94 rfl (lv_at hl 0 rfl) ?_
        refine va_get (ci := 7) (C := RX7) (T := TX7) (N := 11) (v := .ref (a1 0)) hx hb hts i_X7_odds_X7 hown hK hP 0 rfl rfl 0 (by decide) (hts _ m_X7_odds_265b14) (fun _ h9 => h9) rfl dX7_odds_95 ?_
        refine va_getN (ci := 2) (C := RX2) (T := TX2) (N := 11) (v := .int (s1 0 0)) hx hb hts i_X7_odds_X2 hown hK hP 1 rfl rfl 0 (by decide) (nwG hG (w := .fieldLinkNest "PickedMatch" 66 "PickedMatch$Scene" "things" "I" "PickedMatch") (by decide +kernel)) (fun _ h9 => h9) rfl dX7_odds_98 ?_
        refine lv_iload_n hx hb dX7_odds_101 rfl (lv_at hl 3 rfl) ?_
        obtain ⟨q102, hc_102, hf⟩ := cl_e hf
        refine fin_l (E := E) (wc := ([] : va_W)) (wc' := ([] : va_W)) (va_runS (As := [.int v4, .int (s1 0 0), .int v3]) (rest := []) ⟨hx, hb, hml, hown, hts⟩ (k_X7_partOfFraction l E N v4 (s1 0 0) v3 q102 hc_102 _) (va_cwS 3 hts gX7_odds_X7_partOfFraction rfl rfl rfl (by decide +kernel) ⟨(Nat.le_of_ble_eq_true rfl), (Nat.le_of_ble_eq_true rfl)⟩) (pre_s hK va_P_nil va_D_nil hS hG hAB) rfl rfl hl.1 rfl (lv_room (Nat.le_of_ble_eq_true rfl)) dX7_odds_102 ⟨Nat.zero_le _, Nat.zero_le _⟩) hS (free_nil hS hA) (fun H locs hP1 hk hS => ?_)
        have hP := w_kept0 hP hk
        have e9 := Option.some.inj hf
        have h9_0 : s2 = q.2.1 := congrArg (fun z => z.2.1) e9
        have h9_1 : h2 = q.2.2 := congrArg (fun z => z.2.2) e9
        have hP9 : va_P E.1 vwCl ((wX7o E a0 a1 a2 a3 a4 a5 a6 a7 a8 a9 s0 ++ (wX2 E a1 s1 h1 ++ (wX2 E a2 q.2.1 q.2.2 ++ (wX1 E a3 s3 ++ (wX2 E a4 s4 h4 ++ (wX1 E a5 s5 ++ (wX5 E a6 s6 ++ (wX3 E a7 s7 ++ (wX0 E a8 s8 ++ (wX6 E a9 s9 t9)))))))))) ++ sW E.2.1 L) H := by rw [← h9_0, ← h9_1]; exact hP
        exact rt_l hx hb hr hlocks (fst_e e9) hP9 hS dX7_odds_105
      · have hf := ite_f c_39 hf
        refine lv_aload_n hx hb dX7_odds_42 rfl (lv_at hl 0 rfl) ?_
        refine va_get (ci := 7) (C := RX7) (T := TX7) (N := 11) (v := .ref (a2 0)) hx hb hts i_X7_odds_X7 hown hK hP 0 rfl rfl 1 (by decide) (hts _ m_X7_odds_5dfb42) (fun _ h9 => h9) rfl dX7_odds_43 ?_
        refine lv_aload_n hx hb dX7_odds_46 rfl (lv_at hl 0 rfl) ?_
        refine va_get (ci := 7) (C := RX7) (T := TX7) (N := 11) (v := .ref (a1 0)) hx hb hts i_X7_odds_X7 hown hK hP 0 rfl rfl 0 (by decide) (hts _ m_X7_odds_265b14) (fun _ h9 => h9) rfl dX7_odds_47 ?_
        obtain ⟨q50, hc_50, hf⟩ := cl_e hf
        have hm_50 : ∀ q ∈ (wX2 E a2 s2 h2 ++ (wX2 E a1 s1 h1)) ++ sW E.2.1 L, q ∈ (wX7o E a0 a1 a2 a3 a4 a5 a6 a7 a8 a9 s0 ++ (wX2 E a1 s1 h1 ++ (wX2 E a2 s2 h2 ++ (wX1 E a3 s3 ++ (wX2 E a4 s4 h4 ++ (wX1 E a5 s5 ++ (wX5 E a6 s6 ++ (wX3 E a7 s7 ++ (wX0 E a8 s8 ++ (wX6 E a9 s9 t9)))))))))) ++ sW E.2.1 L := (app_mem (sub_mem (suf := []) [8, 9, 10, 11, 12, 13, 14, 1, 2, 3, 4, 5, 6, 7] rfl))
        refine fin_v (E := E) (wc := (wX2 E a2 s2 h2 ++ (wX2 E a1 s1 h1)) ++ sW E.2.1 L) (wc' := (wX2 E a2 q50.1 q50.2 ++ (wX2 E a1 s1 h1)) ++ sW E.2.1 L) (va_runVN (As := [.ref (a1 0)]) (rest := []) ⟨hx, hb, hml, hown, hts⟩ (k_X2_becomeAs l E a2 a1 L N s2 h2 s1 h1 q50 hc_50 _) ⟨va_cnB 1 hts gX7_odds_X2_becomeAs_n179 rfl rfl rfl (hG.1 (.methodLinkNest "PickedMatch" 179 yX2_becomeAs "PickedMatch") (by decide +kernel)) (hts _ m_X7_odds_4cf9d8) (by decide +kernel) ⟨(Nat.le_of_ble_eq_true rfl), (Nat.le_of_ble_eq_true rfl)⟩, (hts _ m_X7_odds_c21ce8), (hts _ m_X7_odds_986579)⟩ (pre_v (ci := 2) (q0 := 0) hK (sub_P hm_50 hP) (sub_Ds (ws := wX7o E a0 a1 a2 a3 a4 a5 a6 a7 a8 a9 s0 ++ (wX2 E a1 s1 h1 ++ (wX2 E a2 s2 h2 ++ (wX1 E a3 s3 ++ (wX2 E a4 s4 h4 ++ (wX1 E a5 s5 ++ (wX5 E a6 s6 ++ (wX3 E a7 s7 ++ (wX0 E a8 s8 ++ (wX6 E a9 s9 t9)))))))))) (wc := wX2 E a2 s2 h2 ++ (wX2 E a1 s1 h1)) (suf := sW E.2.1 L) [8, 9, 10, 11, 12, 13, 14, 1, 2, 3, 4, 5, 6, 7] (by decide) rfl (hDD s0 s1 h1 s2 h2 s3 s4 h4 s5 s6 s7 s8 s9 t9)) hS hG hAB rfl rfl) rfl rfl hl.1 rfl (lv_room (Nat.le_of_ble_eq_true rfl)) dX7_odds_50 ⟨Nat.zero_le _, Nat.zero_le _⟩) hS (w_free (hDD s0 s1 h1 s2 h2 s3 s4 h4 s5 s6 s7 s8 s9 t9) hS hA hm_50) (fun H locs hP1 hk hS => ?_)
        have hP := w_joins (ws' := wX7o E a0 a1 a2 a3 a4 a5 a6 a7 a8 a9 s0 ++ (wX2 E a1 s1 h1 ++ (wX2 E a2 q50.1 q50.2 ++ (wX1 E a3 s3 ++ (wX2 E a4 s4 h4 ++ (wX1 E a5 s5 ++ (wX5 E a6 s6 ++ (wX3 E a7 s7 ++ (wX0 E a8 s8 ++ (wX6 E a9 s9 t9)))))))))) (wc := wX2 E a2 s2 h2 ++ (wX2 E a1 s1 h1)) (wc' := wX2 E a2 q50.1 q50.2 ++ (wX2 E a1 s1 h1)) hP (hDD s0 s1 h1 s2 h2 s3 s4 h4 s5 s6 s7 s8 s9 t9) [8, 9, 10, 11, 12, 13, 14, 1, 2, 3, 4, 5, 6, 7] rfl [none, some 7, some 8, some 9, some 10, some 11, some 12, some 13, some 0, some 1, some 2, some 3, some 4, some 5, some 6, none, none, none, none, none, none, none, none, none, none, none, none, none, none, none, none, none, none, none, none, none, none, none, none, none, none, none, none, none, none, none, none, none, none, none] rfl rfl hk hP1
        refine lv_aload_n hx hb dX7_odds_53 rfl (lv_at hl 0 rfl) ?_
        refine va_get (ci := 7) (C := RX7) (T := TX7) (N := 11) (v := .ref (a2 0)) hx hb hts i_X7_odds_X7 hown hK hP 0 rfl rfl 1 (by decide) (hts _ m_X7_odds_5dfb42) (fun _ h9 => h9) rfl dX7_odds_54 ?_
        refine va_getN (ci := 2) (C := RX2) (T := TX2) (N := 11) (v := .ref (a2 3)) hx hb hts i_X7_odds_X2 hown hK hP 8 rfl rfl 3 (by decide) (nwG hG (w := .fieldLinkNest "PickedMatch" 85 "PickedMatch$Scene" "marks" "[I" "PickedMatch") (by decide +kernel)) (fun _ h9 => h9) rfl dX7_odds_57 ?_
        refine lv_iload hx hb dX7_odds_60 (lv_at hl 5 rfl) ?_
        refine lv_iconst (v := 0) hx hb dX7_odds_62 (by decide) ?_
        obtain ⟨h_63, hf⟩ := ck_e hf
        refine va_iast (cA := E.2.1) (n := 6) (f := q50.1 3) (x := 0) hx hb hK hP (hDD s0 s1 h1 q50.1 q50.2 s3 s4 h4 s5 s6 s7 s8 s9 t9) hS 11 0 rfl rfl h_63 dX7_odds_63 (fun H locs hP _ hS => ?_)
        obtain ⟨s2_63, hP, hf⟩ := nm_st' (P := fun z => va_P E.1 vwCl ((wX7o E a0 a1 a2 a3 a4 a5 a6 a7 a8 a9 s0 ++ (wX2 E a1 s1 h1 ++ (wX2 E a2 z q50.2 ++ (wX1 E a3 s3 ++ (wX2 E a4 s4 h4 ++ (wX1 E a5 s5 ++ (wX5 E a6 s6 ++ (wX3 E a7 s7 ++ (wX0 E a8 s8 ++ (wX6 E a9 s9 t9)))))))))) ++ sW E.2.1 L) H) hf hP
        refine lv_aload_n hx hb dX7_odds_64 rfl (lv_at hl 0 rfl) ?_
        refine va_get (ci := 7) (C := RX7) (T := TX7) (N := 11) (v := .ref (a2 0)) hx hb hts i_X7_odds_X7 hown hK hP 0 rfl rfl 1 (by decide) (hts _ m_X7_odds_5dfb42) (fun _ h9 => h9) rfl dX7_odds_65 ?_
        refine lv_iload_n hx hb dX7_odds_68 rfl (lv_at hl 1 rfl) ?_
        obtain ⟨q69, hc_69, hf⟩ := cl_e hf
        have hm_69 : ∀ q ∈ (wX2 E a2 s2_63 q50.2) ++ sW E.2.1 L, q ∈ (wX7o E a0 a1 a2 a3 a4 a5 a6 a7 a8 a9 s0 ++ (wX2 E a1 s1 h1 ++ (wX2 E a2 s2_63 q50.2 ++ (wX1 E a3 s3 ++ (wX2 E a4 s4 h4 ++ (wX1 E a5 s5 ++ (wX5 E a6 s6 ++ (wX3 E a7 s7 ++ (wX0 E a8 s8 ++ (wX6 E a9 s9 t9)))))))))) ++ sW E.2.1 L := (app_mem (sub_mem (suf := []) [8, 9, 10, 11, 12, 13, 14] rfl))
        refine fin_v (E := E) (wc := (wX2 E a2 s2_63 q50.2) ++ sW E.2.1 L) (wc' := (wX2 E a2 q69 q50.2) ++ sW E.2.1 L) (va_runVN (As := [.int v1]) (rest := []) ⟨hx, hb, hml, hown, hts⟩ (k_X2_daysGo l E a2 L N s2_63 q50.2 v1 q69 hc_69 _) ⟨va_cnB 1 hts gX7_odds_X2_daysGo_n176 rfl rfl rfl (hG.1 (.methodLinkNest "PickedMatch" 176 yX2_daysGo "PickedMatch") (by decide +kernel)) (hts _ m_X7_odds_4cf9d8) (by decide +kernel) ⟨(Nat.le_of_ble_eq_true rfl), (Nat.le_of_ble_eq_true rfl)⟩, (hts _ m_X7_odds_9de039), (hts _ m_X7_odds_a576f3)⟩ (pre_v (ci := 2) (q0 := 0) hK (sub_P hm_69 hP) (sub_Ds (ws := wX7o E a0 a1 a2 a3 a4 a5 a6 a7 a8 a9 s0 ++ (wX2 E a1 s1 h1 ++ (wX2 E a2 s2_63 q50.2 ++ (wX1 E a3 s3 ++ (wX2 E a4 s4 h4 ++ (wX1 E a5 s5 ++ (wX5 E a6 s6 ++ (wX3 E a7 s7 ++ (wX0 E a8 s8 ++ (wX6 E a9 s9 t9)))))))))) (wc := wX2 E a2 s2_63 q50.2) (suf := sW E.2.1 L) [8, 9, 10, 11, 12, 13, 14] (by decide) rfl (hDD s0 s1 h1 s2_63 q50.2 s3 s4 h4 s5 s6 s7 s8 s9 t9)) hS hG hAB rfl rfl) rfl rfl hl.1 rfl (lv_room (Nat.le_of_ble_eq_true rfl)) dX7_odds_69 ⟨Nat.zero_le _, Nat.zero_le _⟩) hS (w_free (hDD s0 s1 h1 s2_63 q50.2 s3 s4 h4 s5 s6 s7 s8 s9 t9) hS hA hm_69) (fun H locs hP1 hk hS => ?_)
        have hP := w_joins (ws' := wX7o E a0 a1 a2 a3 a4 a5 a6 a7 a8 a9 s0 ++ (wX2 E a1 s1 h1 ++ (wX2 E a2 q69 q50.2 ++ (wX1 E a3 s3 ++ (wX2 E a4 s4 h4 ++ (wX1 E a5 s5 ++ (wX5 E a6 s6 ++ (wX3 E a7 s7 ++ (wX0 E a8 s8 ++ (wX6 E a9 s9 t9)))))))))) (wc := wX2 E a2 s2_63 q50.2) (wc' := wX2 E a2 q69 q50.2) hP (hDD s0 s1 h1 s2_63 q50.2 s3 s4 h4 s5 s6 s7 s8 s9 t9) [8, 9, 10, 11, 12, 13, 14] rfl [none, none, none, none, none, none, none, none, some 0, some 1, some 2, some 3, some 4, some 5, some 6, none, none, none, none, none, none, none, none, none, none, none, none, none, none, none, none, none, none, none, none, none, none, none, none, none, none, none, none, none, none, none, none, none, none, none] rfl rfl hk hP1
        refine lv_aload_n hx hb dX7_odds_72 rfl (lv_at hl 0 rfl) ?_
        refine va_get (ci := 7) (C := RX7) (T := TX7) (N := 11) (v := .ref (a2 0)) hx hb hts i_X7_odds_X7 hown hK hP 0 rfl rfl 1 (by decide) (hts _ m_X7_odds_5dfb42) (fun _ h9 => h9) rfl dX7_odds_73 ?_
        refine va_getN (ci := 2) (C := RX2) (T := TX2) (N := 11) (v := .int (q69 6 0)) hx hb hts i_X7_odds_X2 hown hK hP 8 rfl rfl 6 (by decide) (nwG hG (w := .fieldLinkNest "PickedMatch" 108 "PickedMatch$Scene" "hadCount" "I" "PickedMatch") (by decide +kernel)) (fun _ h9 => h9) rfl dX7_odds_76 ?_
        refine lv_iload_n hx hb dX7_odds_79 rfl (lv_at hl 2 rfl) ?_
        refine lv_icmp_lt (tgt := 86) hx hb dX7_odds_80 (by decide) (fun c_80 => ?_) (fun c_80 => ?_)
        · have hf := ite_t c_80 hf
          obtain ⟨x86, e_x86⟩ : ∃ y : Int32, y = v5 + 1 := ⟨_, rfl⟩
          have hf := nm_q e_x86 hf
          refine lv_iinc (v := x86) (lv' := [(5, .int x86), (0, .ref (a0 0)), (1, .int v1), (2, .int v2), (3, .int v3), (4, .int v4)]) hx hb dX7_odds_86 hl (k := 5) rfl (by rw [e_x86]; rfl) (Nat.le_of_ble_eq_true rfl) rfl (fun ls hl => ?_)
          refine lv_goto (tgt := 30) hx hb dX7_odds_89 (by decide) ?_
          exact ih_30 q69 q50.2 v4 x86 hf _ _ _ hP hS (lv_sub hl [1, 2, 3, 4, 5, 0] rfl)
        · have hf := ite_f c_80 hf
          obtain ⟨x83, e_x83⟩ : ∃ y : Int32, y = v4 + 1 := ⟨_, rfl⟩
          have hf := nm_q e_x83 hf
          refine lv_iinc (v := x83) (lv' := [(4, .int x83), (0, .ref (a0 0)), (1, .int v1), (2, .int v2), (3, .int v3), (5, .int v5)]) hx hb dX7_odds_83 hl (k := 4) rfl (by rw [e_x83]; rfl) (Nat.le_of_ble_eq_true rfl) rfl (fun ls hl => ?_)
          obtain ⟨x86, e_x86⟩ : ∃ y : Int32, y = v5 + 1 := ⟨_, rfl⟩
          have hf := nm_q e_x86 hf
          refine lv_iinc (v := x86) (lv' := [(5, .int x86), (4, .int x83), (0, .ref (a0 0)), (1, .int v1), (2, .int v2), (3, .int v3)]) hx hb dX7_odds_86 hl (k := 5) rfl (by rw [e_x86]; rfl) (Nat.le_of_ble_eq_true rfl) rfl (fun ls hl => ?_)
          refine lv_goto (tgt := 30) hx hb dX7_odds_89 (by decide) ?_
          exact ih_30 q69 q50.2 x83 x86 hf _ _ _ hP hS (lv_sub hl [2, 3, 4, 5, 1, 0] rfl)
  refine lv_iload_n hx hb dX7_odds_0 rfl (lv_at hl 1 rfl) ?_
  refine lv_iconst (v := 0) hx hb dX7_odds_1 (by decide) ?_
  refine lv_bipush (v := 60) hx hb dX7_odds_2 (by decide) ?_
  obtain ⟨q4, hc_4, hf⟩ := cl_e hf
  refine fin_i (E := E) (wc := ([] : va_W)) (wc' := ([] : va_W)) (va_runS (As := [.int p1, .int 0, .int 60]) (rest := []) ⟨hx, hb, hml, hown, hts⟩ (k_X7_isWithin l E N p1 0 60 q4 hc_4 _) (va_cwS 3 hts gX7_odds_X7_isWithin rfl rfl rfl (by decide +kernel) ⟨(Nat.le_of_ble_eq_true rfl), (Nat.le_of_ble_eq_true rfl)⟩) (pre_s hK va_P_nil va_D_nil hS hG hAB) rfl rfl hl.1 rfl (lv_room (Nat.le_of_ble_eq_true rfl)) dX7_odds_4 ⟨Nat.zero_le _, Nat.zero_le _⟩) hS (free_nil hS hA) (fun H locs hP1 hk hS => ?_)
  have hP := w_kept0 hP hk
  refine lv_if_eq (tgt := 20) hx hb dX7_odds_7 (by decide) (fun c_7 => ?_) (fun c_7 => ?_)
  · have hf := ite_t c_7 hf
    refine lv_ldc2 (v := (-9223372036854775808)) hx hb hown (hts _ m_X7_odds_a4198b) dX7_odds_20 ?_
    have e9 := Option.some.inj hf
    have h9_0 : s2 = q.2.1 := congrArg (fun z => z.2.1) e9
    have h9_1 : h2 = q.2.2 := congrArg (fun z => z.2.2) e9
    have hP9 : va_P E.1 vwCl ((wX7o E a0 a1 a2 a3 a4 a5 a6 a7 a8 a9 s0 ++ (wX2 E a1 s1 h1 ++ (wX2 E a2 q.2.1 q.2.2 ++ (wX1 E a3 s3 ++ (wX2 E a4 s4 h4 ++ (wX1 E a5 s5 ++ (wX5 E a6 s6 ++ (wX3 E a7 s7 ++ (wX0 E a8 s8 ++ (wX6 E a9 s9 t9)))))))))) ++ sW E.2.1 L) H := by rw [← h9_0, ← h9_1]; exact hP
    exact rt_l hx hb hr hlocks (fst_e e9) hP9 hS dX7_odds_23
  · have hf := ite_f c_7 hf
    refine lv_iload_n hx hb dX7_odds_10 rfl (lv_at hl 2 rfl) ?_
    refine lv_iconst (v := 0) hx hb dX7_odds_11 (by decide) ?_
    refine lv_bipush (v := 6) hx hb dX7_odds_12 (by decide) ?_
    obtain ⟨q14, hc_14, hf⟩ := cl_e hf
    refine fin_i (E := E) (wc := ([] : va_W)) (wc' := ([] : va_W)) (va_runS (As := [.int p2, .int 0, .int 6]) (rest := []) ⟨hx, hb, hml, hown, hts⟩ (k_X7_isWithin l E N p2 0 6 q14 hc_14 _) (va_cwS 3 hts gX7_odds_X7_isWithin rfl rfl rfl (by decide +kernel) ⟨(Nat.le_of_ble_eq_true rfl), (Nat.le_of_ble_eq_true rfl)⟩) (pre_s hK va_P_nil va_D_nil hS hG hAB) rfl rfl hl.1 rfl (lv_room (Nat.le_of_ble_eq_true rfl)) dX7_odds_14 ⟨Nat.zero_le _, Nat.zero_le _⟩) hS (free_nil hS hA) (fun H locs hP1 hk hS => ?_)
    have hP := w_kept0 hP hk
    refine lv_if_ne (tgt := 24) hx hb dX7_odds_17 (by decide) (fun c_17 => ?_) (fun c_17 => ?_)
    · have hf := ite_f c_17 hf
      refine lv_iconst (v := 0) hx hb dX7_odds_24 (by decide) ?_
      refine lv_istore (lv' := [(4, .int 0), (0, .ref (a0 0)), (1, .int p1), (2, .int p2), (3, .int p3)]) hx hb dX7_odds_25 hl (Nat.le_of_ble_eq_true rfl) rfl (fun ls hl => ?_)
      refine lv_iconst (v := 0) hx hb dX7_odds_27 (by decide) ?_
      refine lv_istore (lv' := [(5, .int 0), (4, .int 0), (0, .ref (a0 0)), (1, .int p1), (2, .int p2), (3, .int p3)]) hx hb dX7_odds_28 hl (Nat.le_of_ble_eq_true rfl) rfl (fun ls hl => ?_)
      exact hL_30 s1 h1 p1 p2 p3 N s2 h2 0 0 hf _ _ _ hP hS (lv_sub hl [2, 3, 4, 5, 1, 0] rfl)
    · have hf := ite_t c_17 hf
      refine lv_ldc2 (v := (-9223372036854775808)) hx hb hown (hts _ m_X7_odds_a4198b) dX7_odds_20 ?_
      have e9 := Option.some.inj hf
      have h9_0 : s2 = q.2.1 := congrArg (fun z => z.2.1) e9
      have h9_1 : h2 = q.2.2 := congrArg (fun z => z.2.2) e9
      have hP9 : va_P E.1 vwCl ((wX7o E a0 a1 a2 a3 a4 a5 a6 a7 a8 a9 s0 ++ (wX2 E a1 s1 h1 ++ (wX2 E a2 q.2.1 q.2.2 ++ (wX1 E a3 s3 ++ (wX2 E a4 s4 h4 ++ (wX1 E a5 s5 ++ (wX5 E a6 s6 ++ (wX3 E a7 s7 ++ (wX0 E a8 s8 ++ (wX6 E a9 s9 t9)))))))))) ++ sW E.2.1 L) H := by rw [← h9_0, ← h9_1]; exact hP
      exact rt_l hx hb hr hlocks (fst_e e9) hP9 hS dX7_odds_23
abbrev rm_X7_mean : Room := { frames := 2, cells := 0, slots := 0, locals := 48 }
theorem m_X7_mean_265b14 : Cond.fieldLink RX7 12 "PickedMatch" "scene" "LPickedMatch$Scene;" ∈ wsX7_mean := by decide +kernel
theorem i_X7_mean_X7 : ∀ w ∈ wsX70, w ∈ wsX7_mean := fun _ h => List.mem_cons_of_mem _ (List.mem_append_left _ (List.mem_append_right _ h))
theorem i_X7_mean_X2 : ∀ w ∈ wsX20, w ∈ wsX7_mean := fun _ h => List.mem_cons_of_mem _ (List.mem_append_right _ h)
set_option maxHeartbeats 8000000 in
set_option maxRecDepth 100000 in
theorem k_X7_mean (l : Launch) (E : Ev) (a0 : Nat → Nat) (a1 : Nat → Nat) (a2 : Nat → Nat) (a3 : Nat → Nat) (a4 : Nat → Nat) (a5 : Nat → Nat) (a6 : Nat → Nat) (a7 : Nat → Nat) (a8 : Nat → Nat) (a9 : Nat → Nat) (L : List SR) (N : Nat) (s0 : St) (s1 : St) (h1 : Option SR) (s2 : St) (h2 : Option SR) (s3 : St) (s4 : St) (h4 : Option SR) (s5 : St) (s6 : St) (s7 : St) (s8 : St) (s9 : St) (t9 : Nat → Nat → Int64) (p1 : Int32) (q : (Int64)) (hf : f_X7_mean N s1 p1 = some q) : Cl l yX7_mean wsX7_mean rm_X7_mean E [.ref (a0 0), .int p1] ((wX7o E a0 a1 a2 a3 a4 a5 a6 a7 a8 a9 s0 ++ (wX2 E a1 s1 h1 ++ (wX2 E a2 s2 h2 ++ (wX1 E a3 s3 ++ (wX2 E a4 s4 h4 ++ (wX1 E a5 s5 ++ (wX5 E a6 s6 ++ (wX3 E a7 s7 ++ (wX0 E a8 s8 ++ (wX6 E a9 s9 t9)))))))))) ++ sW E.2.1 L) ((wX7o E a0 a1 a2 a3 a4 a5 a6 a7 a8 a9 s0 ++ (wX2 E a1 s1 h1 ++ (wX2 E a2 s2 h2 ++ (wX1 E a3 s3 ++ (wX2 E a4 s4 h4 ++ (wX1 E a5 s5 ++ (wX5 E a6 s6 ++ (wX3 E a7 s7 ++ (wX0 E a8 s8 ++ (wX6 E a9 s9 t9)))))))))) ++ sW E.2.1 L) q := by
  unfold f_X7_mean at hf
  intro sz
  refine Met.ofW (cc := cX7_mean) (maxL := 4) (ret := (some .long)) (by decide) rfl ?_
  intro p e s m args below meth c s₁ B hml hpre
  obtain ⟨rfl, hsz, hP, hK, hD0, hG, hA, hAB⟩ := start hpre
  have hx := B.exec
  have hb := B.bytes
  have hr := B.returns
  have hts := atoms_spec (ws := wsX7_mean) B.pre
  have hown : s.vm.findClass RX7 = some m.cls := findClass_of_methodNamed B.named
  have hlocks := B.notSynchronized
  subst hsz
  generalize va_A ((wX7o E a0 a1 a2 a3 a4 a5 a6 a7 a8 a9 s0 ++ (wX2 E a1 s1 h1 ++ (wX2 E a2 s2 h2 ++ (wX1 E a3 s3 ++ (wX2 E a4 s4 h4 ++ (wX1 E a5 s5 ++ (wX5 E a6 s6 ++ (wX3 E a7 s7 ++ (wX0 E a8 s8 ++ (wX6 E a9 s9 t9)))))))))) ++ sW E.2.1 L) s.heap.size = A0 at hD0 hA hAB ⊢
  have hDD : ∀ (s0 : St) (s1 : St) (h1 : Option SR) (s2 : St) (h2 : Option SR) (s3 : St) (s4 : St) (h4 : Option SR) (s5 : St) (s6 : St) (s7 : St) (s8 : St) (s9 : St) (t9 : Nat → Nat → Int64), va_D A0 ((wX7o E a0 a1 a2 a3 a4 a5 a6 a7 a8 a9 s0 ++ (wX2 E a1 s1 h1 ++ (wX2 E a2 s2 h2 ++ (wX1 E a3 s3 ++ (wX2 E a4 s4 h4 ++ (wX1 E a5 s5 ++ (wX5 E a6 s6 ++ (wX3 E a7 s7 ++ (wX0 E a8 s8 ++ (wX6 E a9 s9 t9)))))))))) ++ sW E.2.1 L) := fun s0 s1 h1 s2 h2 s3 s4 h4 s5 s6 s7 s8 s9 t9 => vD_addr hD0 rfl
  have hS : va_S A0 s.heap s.heap [] := va_S.rf
  have hl := lv_entry ([.ref (a0 0), .int p1]) (n := 4) (Nat.le_of_ble_eq_true rfl)
  rw [lg_entry_eq]
  generalize (lg_sl ([.ref (a0 0), .int p1]) ++ List.replicate (4 - (lg_sl ([.ref (a0 0), .int p1])).length) Slot.unset).toArray = ls at hl ⊢
  have hl : lv_has ls 4 [(0, .ref (a0 0)), (1, .int p1)] := hl
  have hL_4 : ∀ (s1 : St) (v1 : Int32) (n_4 : Nat) (v2 : Int32) (v3 : Int32), l_X7_mean_4 N s1 v1 n_4 v2 v3 = some q → ∀ (H : Heap) (locs : List Loc) (ls : Array Slot), va_P E.1 vwCl ((wX7o E a0 a1 a2 a3 a4 a5 a6 a7 a8 a9 s0 ++ (wX2 E a1 s1 h1 ++ (wX2 E a2 s2 h2 ++ (wX1 E a3 s3 ++ (wX2 E a4 s4 h4 ++ (wX1 E a5 s5 ++ (wX5 E a6 s6 ++ (wX3 E a7 s7 ++ (wX0 E a8 s8 ++ (wX6 E a9 s9 t9)))))))))) ++ sW E.2.1 L) H → va_S A0 s.heap H locs → lv_has ls 4 [(0, .ref (a0 0)), (1, .int v1), (2, .int v2), (3, .int v3)] → W p l e rm_X7_mean s m ([.ref (a0 0), .int p1] : List Value).toArray below meth c H locs 0 0 (MQ below (va_Ql (fun (r' : Int64) (_ : Unit) => r' = q) (fun _ t => va_P E.1 vwCl ((wX7o E a0 a1 a2 a3 a4 a5 a6 a7 a8 a9 s0 ++ (wX2 E a1 s1 h1 ++ (wX2 E a2 s2 h2 ++ (wX1 E a3 s3 ++ (wX2 E a4 s4 h4 ++ (wX1 E a5 s5 ++ (wX5 E a6 s6 ++ (wX3 E a7 s7 ++ (wX0 E a8 s8 ++ (wX6 E a9 s9 t9)))))))))) ++ sW E.2.1 L) t.heap) A0) ([.ref (a0 0), .int p1] : List Value).toArray s 0 0 A0) (F0 m 4 ls []) := by
    intro s1 v1 n_4
    induction n_4 with
    | zero => intro v2 v3 hf; rw [l_X7_mean_4] at hf; cases hf
    | succ n_4 ih_4 =>
      intro v2 v3 hf H locs ls hP hS hl
      rw [l_X7_mean_4] at hf
      refine lv_iload_n hx hb dX7_mean_4 rfl (lv_at hl 3 rfl) ?_
      refine lv_aload_n hx hb dX7_mean_5 rfl (lv_at hl 0 rfl) ?_
      refine va_get (ci := 7) (C := RX7) (T := TX7) (N := 11) (v := .ref (a1 0)) hx hb hts i_X7_mean_X7 hown hK hP 0 rfl rfl 0 (by decide) (hts _ m_X7_mean_265b14) (fun _ h9 => h9) rfl dX7_mean_6 ?_
      refine va_getN (ci := 2) (C := RX2) (T := TX2) (N := 11) (v := .int (s1 0 0)) hx hb hts i_X7_mean_X2 hown hK hP 1 rfl rfl 0 (by decide) (nwG hG (w := .fieldLinkNest "PickedMatch" 66 "PickedMatch$Scene" "things" "I" "PickedMatch") (by decide +kernel)) (fun _ h9 => h9) rfl dX7_mean_9 ?_
      refine lv_icmp_ge (tgt := 36) hx hb dX7_mean_12 (by decide) (fun c_12 => ?_) (fun c_12 => ?_)
      · have hf := ite_t c_12 hf
        refine lv_iload_n hx hb dX7_mean_36 rfl (lv_at hl 2 rfl) ?_
        refine lv_aload_n hx hb dX7_mean_37 rfl (lv_at hl 0 rfl) ?_
        refine va_get (ci := 7) (C := RX7) (T := TX7) (N := 11) (v := .ref (a1 0)) hx hb hts i_X7_mean_X7 hown hK hP 0 rfl rfl 0 (by decide) (hts _ m_X7_mean_265b14) (fun _ h9 => h9) rfl dX7_mean_38 ?_
        refine va_getN (ci := 2) (C := RX2) (T := TX2) (N := 11) (v := .int (s1 0 0)) hx hb hts i_X7_mean_X2 hown hK hP 1 rfl rfl 0 (by decide) (nwG hG (w := .fieldLinkNest "PickedMatch" 66 "PickedMatch$Scene" "things" "I" "PickedMatch") (by decide +kernel)) (fun _ h9 => h9) rfl dX7_mean_41 ?_
        refine lv_iload_n hx hb dX7_mean_44 rfl (lv_at hl 1 rfl) ?_
        obtain ⟨q45, hc_45, hf⟩ := cl_e hf
        refine fin_l (E := E) (wc := ([] : va_W)) (wc' := ([] : va_W)) (va_runS (As := [.int v2, .int (s1 0 0), .int v1]) (rest := []) ⟨hx, hb, hml, hown, hts⟩ (k_X7_partOfFraction l E N v2 (s1 0 0) v1 q45 hc_45 _) (va_cwS 3 hts gX7_mean_X7_partOfFraction rfl rfl rfl (by decide +kernel) ⟨(Nat.le_of_ble_eq_true rfl), (Nat.le_of_ble_eq_true rfl)⟩) (pre_s hK va_P_nil va_D_nil hS hG hAB) rfl rfl hl.1 rfl (lv_room (Nat.le_of_ble_eq_true rfl)) dX7_mean_45 ⟨Nat.zero_le _, Nat.zero_le _⟩) hS (free_nil hS hA) (fun H locs hP1 hk hS => ?_)
        have hP := w_kept0 hP hk
        have e9 := Option.some.inj hf
        exact rt_l hx hb hr hlocks e9 hP hS dX7_mean_48
      · have hf := ite_f c_12 hf
        refine lv_iload_n hx hb dX7_mean_15 rfl (lv_at hl 2 rfl) ?_
        refine lv_aload_n hx hb dX7_mean_16 rfl (lv_at hl 0 rfl) ?_
        refine va_get (ci := 7) (C := RX7) (T := TX7) (N := 11) (v := .ref (a1 0)) hx hb hts i_X7_mean_X7 hown hK hP 0 rfl rfl 0 (by decide) (hts _ m_X7_mean_265b14) (fun _ h9 => h9) rfl dX7_mean_17 ?_
        refine va_getN (ci := 2) (C := RX2) (T := TX2) (N := 11) (v := .ref (a1 3)) hx hb hts i_X7_mean_X2 hown hK hP 1 rfl rfl 3 (by decide) (nwG hG (w := .fieldLinkNest "PickedMatch" 85 "PickedMatch$Scene" "marks" "[I" "PickedMatch") (by decide +kernel)) (fun _ h9 => h9) rfl dX7_mean_20 ?_
        refine lv_iload_n hx hb dX7_mean_23 rfl (lv_at hl 3 rfl) ?_
        obtain ⟨h_24, hf⟩ := ck_e hf
        refine va_iald (cA := E.2.1) (n := 6) (f := s1 3) hx hb hK hP 4 0 rfl rfl h_24 dX7_mean_24 ?_
        obtain ⟨q25, hc_25, hf⟩ := cl_e hf
        refine fin_i (E := E) (wc := ([] : va_W)) (wc' := ([] : va_W)) (va_runS (As := [.int (s1 3 v3.toNatClampNeg)]) (rest := [.int v2]) ⟨hx, hb, hml, hown, hts⟩ (k_J6_bitCount_0f7a4 l E N (s1 3 v3.toNatClampNeg) q25 hc_25 _) (va_cwS 1 hts gX7_mean_J6_bitCount_0f7a4 rfl rfl rfl (by decide +kernel) ⟨(Nat.le_of_ble_eq_true rfl), (Nat.le_of_ble_eq_true rfl)⟩) (pre_s hK va_P_nil va_D_nil hS hG hAB) rfl rfl hl.1 rfl (lv_room (Nat.le_of_ble_eq_true rfl)) dX7_mean_25 ⟨Nat.zero_le _, Nat.zero_le _⟩) hS (free_nil hS hA) (fun H locs hP1 hk hS => ?_)
        have hP := w_kept0 hP hk
        refine lv_iadd hx hb dX7_mean_28 ?_
        refine lv_topi (fun x29 e_x29 => ?_)
        have hf := nm_q e_x29 hf
        refine lv_istore_n (lv' := [(2, .int x29), (0, .ref (a0 0)), (1, .int v1), (3, .int v3)]) hx hb dX7_mean_29 rfl hl (Nat.le_of_ble_eq_true rfl) rfl (fun ls hl => ?_)
        obtain ⟨x30, e_x30⟩ : ∃ y : Int32, y = v3 + 1 := ⟨_, rfl⟩
        have hf := nm_q e_x30 hf
        refine lv_iinc (v := x30) (lv' := [(3, .int x30), (2, .int x29), (0, .ref (a0 0)), (1, .int v1)]) hx hb dX7_mean_30 hl (k := 3) rfl (by rw [e_x30]; rfl) (Nat.le_of_ble_eq_true rfl) rfl (fun ls hl => ?_)
        refine lv_goto (tgt := 4) hx hb dX7_mean_33 (by decide) ?_
        exact ih_4 x29 x30 hf _ _ _ hP hS (lv_sub hl [2, 3, 1, 0] rfl)
  refine lv_iconst (v := 0) hx hb dX7_mean_0 (by decide) ?_
  refine lv_istore_n (lv' := [(2, .int 0), (0, .ref (a0 0)), (1, .int p1)]) hx hb dX7_mean_1 rfl hl (Nat.le_of_ble_eq_true rfl) rfl (fun ls hl => ?_)
  refine lv_iconst (v := 0) hx hb dX7_mean_2 (by decide) ?_
  refine lv_istore_n (lv' := [(3, .int 0), (2, .int 0), (0, .ref (a0 0)), (1, .int p1)]) hx hb dX7_mean_3 rfl hl (Nat.le_of_ble_eq_true rfl) rfl (fun ls hl => ?_)
  exact hL_4 s1 p1 N 0 0 hf _ _ _ hP hS (lv_sub hl [2, 3, 1, 0] rfl)
