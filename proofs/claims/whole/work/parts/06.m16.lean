/-! ===== what the methods compute, and that they do: by program out of the bytecode (wip/gen) ===== -/
abbrev rm_X7_week : Room := { frames := 1, cells := 0, slots := 0, locals := 22 }
theorem m_X7_week_6a5209 : Cond.fieldLink RX7 24 "PickedMatch" "notes" "LPickedMatch$Notes;" ∈ wsX7_week := by decide +kernel
theorem i_X7_week_X7 : ∀ w ∈ wsX70, w ∈ wsX7_week := fun _ h => List.mem_cons_of_mem _ (List.mem_append_left _ (List.mem_append_left _ (List.mem_append_right _ h)))
theorem i_X7_week_X1 : ∀ w ∈ wsX10, w ∈ wsX7_week := fun _ h => List.mem_cons_of_mem _ (List.mem_append_left _ (List.mem_append_right _ h))
theorem m_X7_week_6e074f : Cond.initialized RX1 ∈ wsX7_week := by decide +kernel
theorem m_X7_week_b4787c : Cond.instanceMethod yX1_addToWeek ∈ wsX7_week := by decide +kernel
theorem m_X7_week_c14597 : Cond.selects RX1 yX1_addToWeek yX1_addToWeek ∈ wsX7_week := by decide +kernel
theorem m_X7_week_265b14 : Cond.fieldLink RX7 12 "PickedMatch" "scene" "LPickedMatch$Scene;" ∈ wsX7_week := by decide +kernel
theorem m_X7_week_4cf9d8 : Cond.initialized RX2 ∈ wsX7_week := by decide +kernel
theorem m_X7_week_0211d8 : Cond.instanceMethod yX2_hasThing ∈ wsX7_week := by decide +kernel
theorem m_X7_week_6099ba : Cond.selects RX2 yX2_hasThing yX2_hasThing ∈ wsX7_week := by decide +kernel
set_option maxHeartbeats 8000000 in
set_option maxRecDepth 100000 in
theorem k_X7_week (l : Launch) (E : Ev) (a0 : Nat → Nat) (a1 : Nat → Nat) (a2 : Nat → Nat) (a3 : Nat → Nat) (a4 : Nat → Nat) (a5 : Nat → Nat) (a6 : Nat → Nat) (a7 : Nat → Nat) (a8 : Nat → Nat) (a9 : Nat → Nat) (L : List SR) (N : Nat) (s0 : St) (s1 : St) (h1 : Option SR) (s2 : St) (h2 : Option SR) (s3 : St) (s4 : St) (h4 : Option SR) (s5 : St) (s6 : St) (s7 : St) (s8 : St) (s9 : St) (t9 : Nat → Nat → Int64) (p1 : Int32) (p2 : Int32) (q : (Int32 × St)) (hf : f_X7_week N s1 s3 p1 p2 = some q) : Ci l yX7_week wsX7_week rm_X7_week E [.ref (a0 0), .int p1, .int p2] ((wX7o E a0 a1 a2 a3 a4 a5 a6 a7 a8 a9 s0 ++ (wX2 E a1 s1 h1 ++ (wX2 E a2 s2 h2 ++ (wX1 E a3 s3 ++ (wX2 E a4 s4 h4 ++ (wX1 E a5 s5 ++ (wX5 E a6 s6 ++ (wX3 E a7 s7 ++ (wX0 E a8 s8 ++ (wX6 E a9 s9 t9)))))))))) ++ sW E.2.1 L) ((wX7o E a0 a1 a2 a3 a4 a5 a6 a7 a8 a9 s0 ++ (wX2 E a1 s1 h1 ++ (wX2 E a2 s2 h2 ++ (wX1 E a3 q.2 ++ (wX2 E a4 s4 h4 ++ (wX1 E a5 s5 ++ (wX5 E a6 s6 ++ (wX3 E a7 s7 ++ (wX0 E a8 s8 ++ (wX6 E a9 s9 t9)))))))))) ++ sW E.2.1 L) q.1 := by
  unfold f_X7_week at hf
  intro sz
  refine Met.ofW (cc := cX7_week) (maxL := 3) (ret := (some .int)) (by decide) rfl ?_
  intro p e s m args below meth c s₁ B hml hpre
  obtain ⟨rfl, hsz, hP, hK, hD0, hG, hA, hAB⟩ := start hpre
  have hx := B.exec
  have hb := B.bytes
  have hr := B.returns
  have hts := atoms_spec (ws := wsX7_week) B.pre
  have hown : s.vm.findClass RX7 = some m.cls := findClass_of_methodNamed B.named
  have hlocks := B.notSynchronized
  subst hsz
  generalize va_A ((wX7o E a0 a1 a2 a3 a4 a5 a6 a7 a8 a9 s0 ++ (wX2 E a1 s1 h1 ++ (wX2 E a2 s2 h2 ++ (wX1 E a3 s3 ++ (wX2 E a4 s4 h4 ++ (wX1 E a5 s5 ++ (wX5 E a6 s6 ++ (wX3 E a7 s7 ++ (wX0 E a8 s8 ++ (wX6 E a9 s9 t9)))))))))) ++ sW E.2.1 L) s.heap.size = A0 at hD0 hA hAB ⊢
  have hDD : ∀ (s0 : St) (s1 : St) (h1 : Option SR) (s2 : St) (h2 : Option SR) (s3 : St) (s4 : St) (h4 : Option SR) (s5 : St) (s6 : St) (s7 : St) (s8 : St) (s9 : St) (t9 : Nat → Nat → Int64), va_D A0 ((wX7o E a0 a1 a2 a3 a4 a5 a6 a7 a8 a9 s0 ++ (wX2 E a1 s1 h1 ++ (wX2 E a2 s2 h2 ++ (wX1 E a3 s3 ++ (wX2 E a4 s4 h4 ++ (wX1 E a5 s5 ++ (wX5 E a6 s6 ++ (wX3 E a7 s7 ++ (wX0 E a8 s8 ++ (wX6 E a9 s9 t9)))))))))) ++ sW E.2.1 L) := fun s0 s1 h1 s2 h2 s3 s4 h4 s5 s6 s7 s8 s9 t9 => vD_addr hD0 rfl
  have hS : va_S A0 s.heap s.heap [] := va_S.rf
  have hl := lv_entry ([.ref (a0 0), .int p1, .int p2]) (n := 3) (Nat.le_of_ble_eq_true rfl)
  rw [lg_entry_eq]
  generalize (lg_sl ([.ref (a0 0), .int p1, .int p2]) ++ List.replicate (3 - (lg_sl ([.ref (a0 0), .int p1, .int p2])).length) Slot.unset).toArray = ls at hl ⊢
  have hl : lv_has ls 3 [(0, .ref (a0 0)), (1, .int p1), (2, .int p2)] := hl
  refine lv_iload_n hx hb dX7_week_0 rfl (lv_at hl 1 rfl) ?_
  refine lv_iconst (v := (-1)) hx hb dX7_week_1 (by decide) ?_
  refine lv_icmp_ne (tgt := 15) hx hb dX7_week_2 (by decide) (fun c_2 => ?_) (fun c_2 => ?_)
  · have hf := ite_f c_2 hf
    refine lv_iload_n hx hb dX7_week_15 rfl (lv_at hl 1 rfl) ?_
    refine lv_iconst (v := 0) hx hb dX7_week_16 (by decide) ?_
    refine lv_iconst (v := 2) hx hb dX7_week_17 (by decide) ?_
    obtain ⟨q18, hc_18, hf⟩ := cl_e hf
    refine fin_i (E := E) (wc := ([] : va_W)) (wc' := ([] : va_W)) (va_runS (As := [.int p1, .int 0, .int 2]) (rest := []) ⟨hx, hb, hml, hown, hts⟩ (k_X7_isWithin l E N p1 0 2 q18 hc_18 _) (va_cwS 3 hts gX7_week_X7_isWithin rfl rfl rfl (by decide +kernel) ⟨(Nat.le_of_ble_eq_true rfl), (Nat.le_of_ble_eq_true rfl)⟩) (pre_s hK va_P_nil va_D_nil hS hG hAB) rfl rfl hl.1 rfl (lv_room (Nat.le_of_ble_eq_true rfl)) dX7_week_18 ⟨Nat.zero_le _, Nat.zero_le _⟩) hS (free_nil hS hA) (fun H locs hP1 hk hS => ?_)
    have hP := w_kept0 hP hk
    refine lv_if_ne (tgt := 26) hx hb dX7_week_21 (by decide) (fun c_21 => ?_) (fun c_21 => ?_)
    · have hf := ite_f c_21 hf
      refine lv_iload_n hx hb dX7_week_26 rfl (lv_at hl 1 rfl) ?_
      refine lv_iconst (v := 2) hx hb dX7_week_27 (by decide) ?_
      refine lv_icmp_ne (tgt := 44) hx hb dX7_week_28 (by decide) (fun c_28 => ?_) (fun c_28 => ?_)
      · have hf := ite_f c_28 hf
        refine lv_aload_n hx hb dX7_week_44 rfl (lv_at hl 0 rfl) ?_
        refine va_get (ci := 7) (C := RX7) (T := TX7) (N := 11) (v := .ref (a3 0)) hx hb hts i_X7_week_X7 hown hK hP 0 rfl rfl 2 (by decide) (hts _ m_X7_week_6a5209) (fun _ h9 => h9) rfl dX7_week_45 ?_
        refine va_getN (ci := 1) (C := RX1) (T := TX1) (N := 10) (v := .int (s3 6 0)) hx hb hts i_X7_week_X1 hown hK hP 15 rfl rfl 6 (by decide) (nwG hG (w := .fieldLinkNest "PickedMatch" 228 "PickedMatch$Notes" "weekCount" "I" "PickedMatch") (by decide +kernel)) (fun _ h9 => h9) rfl dX7_week_48 ?_
        refine lv_bipush (v := 10) hx hb dX7_week_51 (by decide) ?_
        refine lv_icmp_lt (tgt := 59) hx hb dX7_week_53 (by decide) (fun c_53 => ?_) (fun c_53 => ?_)
        · have hf := ite_t c_53 hf
          refine lv_aload_n hx hb dX7_week_59 rfl (lv_at hl 0 rfl) ?_
          refine va_get (ci := 7) (C := RX7) (T := TX7) (N := 11) (v := .ref (a3 0)) hx hb hts i_X7_week_X7 hown hK hP 0 rfl rfl 2 (by decide) (hts _ m_X7_week_6a5209) (fun _ h9 => h9) rfl dX7_week_60 ?_
          refine lv_iload_n hx hb dX7_week_63 rfl (lv_at hl 1 rfl) ?_
          refine lv_iload_n hx hb dX7_week_64 rfl (lv_at hl 2 rfl) ?_
          obtain ⟨q65, hc_65, hf⟩ := cl_e hf
          have hm_65 : ∀ q ∈ wX1 E a3 s3, q ∈ (wX7o E a0 a1 a2 a3 a4 a5 a6 a7 a8 a9 s0 ++ (wX2 E a1 s1 h1 ++ (wX2 E a2 s2 h2 ++ (wX1 E a3 s3 ++ (wX2 E a4 s4 h4 ++ (wX1 E a5 s5 ++ (wX5 E a6 s6 ++ (wX3 E a7 s7 ++ (wX0 E a8 s8 ++ (wX6 E a9 s9 t9)))))))))) ++ sW E.2.1 L := (inl_mem (sub_mem (suf := []) [15, 16, 17, 18, 19, 20, 21, 22] rfl))
          refine fin_i (E := E) (wc := wX1 E a3 s3) (wc' := wX1 E a3 q65.2) (va_runVN (As := [.int p1, .int p2]) (rest := []) ⟨hx, hb, hml, hown, hts⟩ (k_X1_addToWeek l E a3 N s3 p1 p2 q65 hc_65 _) ⟨va_cnB 2 hts gX7_week_X1_addToWeek_n231 rfl rfl rfl (hG.1 (.methodLinkNest "PickedMatch" 231 yX1_addToWeek "PickedMatch") (by decide +kernel)) (hts _ m_X7_week_6e074f) (by decide +kernel) ⟨(Nat.le_of_ble_eq_true rfl), (Nat.le_of_ble_eq_true rfl)⟩, (hts _ m_X7_week_b4787c), (hts _ m_X7_week_c14597)⟩ (pre_v (ci := 1) (q0 := 0) hK (sub_P hm_65 hP) (sub_Dn (ws := wX7o E a0 a1 a2 a3 a4 a5 a6 a7 a8 a9 s0 ++ (wX2 E a1 s1 h1 ++ (wX2 E a2 s2 h2 ++ (wX1 E a3 s3 ++ (wX2 E a4 s4 h4 ++ (wX1 E a5 s5 ++ (wX5 E a6 s6 ++ (wX3 E a7 s7 ++ (wX0 E a8 s8 ++ (wX6 E a9 s9 t9)))))))))) (wc := wX1 E a3 s3) (suf := sW E.2.1 L) [15, 16, 17, 18, 19, 20, 21, 22] (by decide) rfl (hDD s0 s1 h1 s2 h2 s3 s4 h4 s5 s6 s7 s8 s9 t9)) hS hG hAB rfl rfl) rfl rfl hl.1 rfl (lv_room (Nat.le_of_ble_eq_true rfl)) dX7_week_65 ⟨Nat.zero_le _, Nat.zero_le _⟩) hS (w_free (hDD s0 s1 h1 s2 h2 s3 s4 h4 s5 s6 s7 s8 s9 t9) hS hA hm_65) (fun H locs hP1 hk hS => ?_)
          have hP := w_join (ws' := wX7o E a0 a1 a2 a3 a4 a5 a6 a7 a8 a9 s0 ++ (wX2 E a1 s1 h1 ++ (wX2 E a2 s2 h2 ++ (wX1 E a3 q65.2 ++ (wX2 E a4 s4 h4 ++ (wX1 E a5 s5 ++ (wX5 E a6 s6 ++ (wX3 E a7 s7 ++ (wX0 E a8 s8 ++ (wX6 E a9 s9 t9)))))))))) (wc := wX1 E a3 s3) (wc' := wX1 E a3 q65.2) hP (hDD s0 s1 h1 s2 h2 s3 s4 h4 s5 s6 s7 s8 s9 t9) [15, 16, 17, 18, 19, 20, 21, 22] rfl [none, none, none, none, none, none, none, none, none, none, none, none, none, none, none, some 0, some 1, some 2, some 3, some 4, some 5, some 6, some 7, none, none, none, none, none, none, none, none, none, none, none, none, none, none, none, none, none, none, none, none, none, none, none, none, none, none, none] rfl rfl hk hP1
          have e9 := Option.some.inj hf
          have h9_0 : q65.2 = q.2 := congrArg (fun z => z.2) e9
          have hP9 : va_P E.1 vwCl ((wX7o E a0 a1 a2 a3 a4 a5 a6 a7 a8 a9 s0 ++ (wX2 E a1 s1 h1 ++ (wX2 E a2 s2 h2 ++ (wX1 E a3 q.2 ++ (wX2 E a4 s4 h4 ++ (wX1 E a5 s5 ++ (wX5 E a6 s6 ++ (wX3 E a7 s7 ++ (wX0 E a8 s8 ++ (wX6 E a9 s9 t9)))))))))) ++ sW E.2.1 L) H := by rw [← h9_0]; exact hP
          exact rt_i hx hb hr hlocks (fst_e e9) hP9 hS dX7_week_68
        · have hf := ite_f c_53 hf
          refine lv_bipush (v := (-4)) hx hb dX7_week_56 (by decide) ?_
          have e9 := Option.some.inj hf
          have h9_0 : s3 = q.2 := congrArg (fun z => z.2) e9
          have hP9 : va_P E.1 vwCl ((wX7o E a0 a1 a2 a3 a4 a5 a6 a7 a8 a9 s0 ++ (wX2 E a1 s1 h1 ++ (wX2 E a2 s2 h2 ++ (wX1 E a3 q.2 ++ (wX2 E a4 s4 h4 ++ (wX1 E a5 s5 ++ (wX5 E a6 s6 ++ (wX3 E a7 s7 ++ (wX0 E a8 s8 ++ (wX6 E a9 s9 t9)))))))))) ++ sW E.2.1 L) H := by rw [← h9_0]; exact hP
          exact rt_i hx hb hr hlocks (fst_e e9) hP9 hS dX7_week_58
      · have hf := ite_t c_28 hf
        refine lv_aload_n hx hb dX7_week_31 rfl (lv_at hl 0 rfl) ?_
        refine va_get (ci := 7) (C := RX7) (T := TX7) (N := 11) (v := .ref (a1 0)) hx hb hts i_X7_week_X7 hown hK hP 0 rfl rfl 0 (by decide) (hts _ m_X7_week_265b14) (fun _ h9 => h9) rfl dX7_week_32 ?_
        refine lv_iload_n hx hb dX7_week_35 rfl (lv_at hl 2 rfl) ?_
        obtain ⟨q36, hc_36, hf⟩ := cl_e hf
        have hm_36 : ∀ q ∈ (wX2 E a1 s1 h1) ++ sW E.2.1 L, q ∈ (wX7o E a0 a1 a2 a3 a4 a5 a6 a7 a8 a9 s0 ++ (wX2 E a1 s1 h1 ++ (wX2 E a2 s2 h2 ++ (wX1 E a3 s3 ++ (wX2 E a4 s4 h4 ++ (wX1 E a5 s5 ++ (wX5 E a6 s6 ++ (wX3 E a7 s7 ++ (wX0 E a8 s8 ++ (wX6 E a9 s9 t9)))))))))) ++ sW E.2.1 L := (app_mem (sub_mem (suf := []) [1, 2, 3, 4, 5, 6, 7] rfl))
        refine fin_i (E := E) (wc := (wX2 E a1 s1 h1) ++ sW E.2.1 L) (wc' := (wX2 E a1 s1 h1) ++ sW E.2.1 L) (va_runVN (As := [.int p2]) (rest := []) ⟨hx, hb, hml, hown, hts⟩ (k_X2_hasThing l E a1 L N s1 h1 p2 q36 hc_36 _) ⟨va_cnB 1 hts gX7_week_X2_hasThing_n74 rfl rfl rfl (hG.1 (.methodLinkNest "PickedMatch" 74 yX2_hasThing "PickedMatch") (by decide +kernel)) (hts _ m_X7_week_4cf9d8) (by decide +kernel) ⟨(Nat.le_of_ble_eq_true rfl), (Nat.le_of_ble_eq_true rfl)⟩, (hts _ m_X7_week_0211d8), (hts _ m_X7_week_6099ba)⟩ (pre_v (ci := 2) (q0 := 0) hK (sub_P hm_36 hP) (sub_Ds (ws := wX7o E a0 a1 a2 a3 a4 a5 a6 a7 a8 a9 s0 ++ (wX2 E a1 s1 h1 ++ (wX2 E a2 s2 h2 ++ (wX1 E a3 s3 ++ (wX2 E a4 s4 h4 ++ (wX1 E a5 s5 ++ (wX5 E a6 s6 ++ (wX3 E a7 s7 ++ (wX0 E a8 s8 ++ (wX6 E a9 s9 t9)))))))))) (wc := wX2 E a1 s1 h1) (suf := sW E.2.1 L) [1, 2, 3, 4, 5, 6, 7] (by decide) rfl (hDD s0 s1 h1 s2 h2 s3 s4 h4 s5 s6 s7 s8 s9 t9)) hS hG hAB rfl rfl) rfl rfl hl.1 rfl (lv_room (Nat.le_of_ble_eq_true rfl)) dX7_week_36 ⟨Nat.zero_le _, Nat.zero_le _⟩) hS (w_free (hDD s0 s1 h1 s2 h2 s3 s4 h4 s5 s6 s7 s8 s9 t9) hS hA hm_36) (fun H locs hP1 hk hS => ?_)
        have hP := w_joins (ws' := wX7o E a0 a1 a2 a3 a4 a5 a6 a7 a8 a9 s0 ++ (wX2 E a1 s1 h1 ++ (wX2 E a2 s2 h2 ++ (wX1 E a3 s3 ++ (wX2 E a4 s4 h4 ++ (wX1 E a5 s5 ++ (wX5 E a6 s6 ++ (wX3 E a7 s7 ++ (wX0 E a8 s8 ++ (wX6 E a9 s9 t9)))))))))) (wc := wX2 E a1 s1 h1) (wc' := wX2 E a1 s1 h1) hP (hDD s0 s1 h1 s2 h2 s3 s4 h4 s5 s6 s7 s8 s9 t9) [1, 2, 3, 4, 5, 6, 7] rfl [none, some 0, some 1, some 2, some 3, some 4, some 5, some 6, none, none, none, none, none, none, none, none, none, none, none, none, none, none, none, none, none, none, none, none, none, none, none, none, none, none, none, none, none, none, none, none, none, none, none, none, none, none, none, none, none, none] rfl rfl hk hP1
        refine lv_if_ne (tgt := 44) hx hb dX7_week_39 (by decide) (fun c_39 => ?_) (fun c_39 => ?_)
        · have hf := ite_f c_39 hf
          refine lv_aload_n hx hb dX7_week_44 rfl (lv_at hl 0 rfl) ?_
          refine va_get (ci := 7) (C := RX7) (T := TX7) (N := 11) (v := .ref (a3 0)) hx hb hts i_X7_week_X7 hown hK hP 0 rfl rfl 2 (by decide) (hts _ m_X7_week_6a5209) (fun _ h9 => h9) rfl dX7_week_45 ?_
          refine va_getN (ci := 1) (C := RX1) (T := TX1) (N := 10) (v := .int (s3 6 0)) hx hb hts i_X7_week_X1 hown hK hP 15 rfl rfl 6 (by decide) (nwG hG (w := .fieldLinkNest "PickedMatch" 228 "PickedMatch$Notes" "weekCount" "I" "PickedMatch") (by decide +kernel)) (fun _ h9 => h9) rfl dX7_week_48 ?_
          refine lv_bipush (v := 10) hx hb dX7_week_51 (by decide) ?_
          refine lv_icmp_lt (tgt := 59) hx hb dX7_week_53 (by decide) (fun c_53 => ?_) (fun c_53 => ?_)
          · have hf := ite_t c_53 hf
            refine lv_aload_n hx hb dX7_week_59 rfl (lv_at hl 0 rfl) ?_
            refine va_get (ci := 7) (C := RX7) (T := TX7) (N := 11) (v := .ref (a3 0)) hx hb hts i_X7_week_X7 hown hK hP 0 rfl rfl 2 (by decide) (hts _ m_X7_week_6a5209) (fun _ h9 => h9) rfl dX7_week_60 ?_
            refine lv_iload_n hx hb dX7_week_63 rfl (lv_at hl 1 rfl) ?_
            refine lv_iload_n hx hb dX7_week_64 rfl (lv_at hl 2 rfl) ?_
            obtain ⟨q65, hc_65, hf⟩ := cl_e hf
            have hm_65 : ∀ q ∈ wX1 E a3 s3, q ∈ (wX7o E a0 a1 a2 a3 a4 a5 a6 a7 a8 a9 s0 ++ (wX2 E a1 s1 h1 ++ (wX2 E a2 s2 h2 ++ (wX1 E a3 s3 ++ (wX2 E a4 s4 h4 ++ (wX1 E a5 s5 ++ (wX5 E a6 s6 ++ (wX3 E a7 s7 ++ (wX0 E a8 s8 ++ (wX6 E a9 s9 t9)))))))))) ++ sW E.2.1 L := (inl_mem (sub_mem (suf := []) [15, 16, 17, 18, 19, 20, 21, 22] rfl))
            refine fin_i (E := E) (wc := wX1 E a3 s3) (wc' := wX1 E a3 q65.2) (va_runVN (As := [.int p1, .int p2]) (rest := []) ⟨hx, hb, hml, hown, hts⟩ (k_X1_addToWeek l E a3 N s3 p1 p2 q65 hc_65 _) ⟨va_cnB 2 hts gX7_week_X1_addToWeek_n231 rfl rfl rfl (hG.1 (.methodLinkNest "PickedMatch" 231 yX1_addToWeek "PickedMatch") (by decide +kernel)) (hts _ m_X7_week_6e074f) (by decide +kernel) ⟨(Nat.le_of_ble_eq_true rfl), (Nat.le_of_ble_eq_true rfl)⟩, (hts _ m_X7_week_b4787c), (hts _ m_X7_week_c14597)⟩ (pre_v (ci := 1) (q0 := 0) hK (sub_P hm_65 hP) (sub_Dn (ws := wX7o E a0 a1 a2 a3 a4 a5 a6 a7 a8 a9 s0 ++ (wX2 E a1 s1 h1 ++ (wX2 E a2 s2 h2 ++ (wX1 E a3 s3 ++ (wX2 E a4 s4 h4 ++ (wX1 E a5 s5 ++ (wX5 E a6 s6 ++ (wX3 E a7 s7 ++ (wX0 E a8 s8 ++ (wX6 E a9 s9 t9)))))))))) (wc := wX1 E a3 s3) (suf := sW E.2.1 L) [15, 16, 17, 18, 19, 20, 21, 22] (by decide) rfl (hDD s0 s1 h1 s2 h2 s3 s4 h4 s5 s6 s7 s8 s9 t9)) hS hG hAB rfl rfl) rfl rfl hl.1 rfl (lv_room (Nat.le_of_ble_eq_true rfl)) dX7_week_65 ⟨Nat.zero_le _, Nat.zero_le _⟩) hS (w_free (hDD s0 s1 h1 s2 h2 s3 s4 h4 s5 s6 s7 s8 s9 t9) hS hA hm_65) (fun H locs hP1 hk hS => ?_)
            have hP := w_join (ws' := wX7o E a0 a1 a2 a3 a4 a5 a6 a7 a8 a9 s0 ++ (wX2 E a1 s1 h1 ++ (wX2 E a2 s2 h2 ++ (wX1 E a3 q65.2 ++ (wX2 E a4 s4 h4 ++ (wX1 E a5 s5 ++ (wX5 E a6 s6 ++ (wX3 E a7 s7 ++ (wX0 E a8 s8 ++ (wX6 E a9 s9 t9)))))))))) (wc := wX1 E a3 s3) (wc' := wX1 E a3 q65.2) hP (hDD s0 s1 h1 s2 h2 s3 s4 h4 s5 s6 s7 s8 s9 t9) [15, 16, 17, 18, 19, 20, 21, 22] rfl [none, none, none, none, none, none, none, none, none, none, none, none, none, none, none, some 0, some 1, some 2, some 3, some 4, some 5, some 6, some 7, none, none, none, none, none, none, none, none, none, none, none, none, none, none, none, none, none, none, none, none, none, none, none, none, none, none, none] rfl rfl hk hP1
            have e9 := Option.some.inj hf
            have h9_0 : q65.2 = q.2 := congrArg (fun z => z.2) e9
            have hP9 : va_P E.1 vwCl ((wX7o E a0 a1 a2 a3 a4 a5 a6 a7 a8 a9 s0 ++ (wX2 E a1 s1 h1 ++ (wX2 E a2 s2 h2 ++ (wX1 E a3 q.2 ++ (wX2 E a4 s4 h4 ++ (wX1 E a5 s5 ++ (wX5 E a6 s6 ++ (wX3 E a7 s7 ++ (wX0 E a8 s8 ++ (wX6 E a9 s9 t9)))))))))) ++ sW E.2.1 L) H := by rw [← h9_0]; exact hP
            exact rt_i hx hb hr hlocks (fst_e e9) hP9 hS dX7_week_68
          · have hf := ite_f c_53 hf
            refine lv_bipush (v := (-4)) hx hb dX7_week_56 (by decide) ?_
            have e9 := Option.some.inj hf
            have h9_0 : s3 = q.2 := congrArg (fun z => z.2) e9
            have hP9 : va_P E.1 vwCl ((wX7o E a0 a1 a2 a3 a4 a5 a6 a7 a8 a9 s0 ++ (wX2 E a1 s1 h1 ++ (wX2 E a2 s2 h2 ++ (wX1 E a3 q.2 ++ (wX2 E a4 s4 h4 ++ (wX1 E a5 s5 ++ (wX5 E a6 s6 ++ (wX3 E a7 s7 ++ (wX0 E a8 s8 ++ (wX6 E a9 s9 t9)))))))))) ++ sW E.2.1 L) H := by rw [← h9_0]; exact hP
            exact rt_i hx hb hr hlocks (fst_e e9) hP9 hS dX7_week_58
        · have hf := ite_t c_39 hf
          refine lv_iconst (v := (-1)) hx hb dX7_week_42 (by decide) ?_
          have e9 := Option.some.inj hf
          have h9_0 : s3 = q.2 := congrArg (fun z => z.2) e9
          have hP9 : va_P E.1 vwCl ((wX7o E a0 a1 a2 a3 a4 a5 a6 a7 a8 a9 s0 ++ (wX2 E a1 s1 h1 ++ (wX2 E a2 s2 h2 ++ (wX1 E a3 q.2 ++ (wX2 E a4 s4 h4 ++ (wX1 E a5 s5 ++ (wX5 E a6 s6 ++ (wX3 E a7 s7 ++ (wX0 E a8 s8 ++ (wX6 E a9 s9 t9)))))))))) ++ sW E.2.1 L) H := by rw [← h9_0]; exact hP
          exact rt_i hx hb hr hlocks (fst_e e9) hP9 hS dX7_week_43
    · have hf := ite_t c_21 hf
      refine lv_iconst (v := (-1)) hx hb dX7_week_24 (by decide) ?_
      have e9 := Option.some.inj hf
      have h9_0 : s3 = q.2 := congrArg (fun z => z.2) e9
      have hP9 : va_P E.1 vwCl ((wX7o E a0 a1 a2 a3 a4 a5 a6 a7 a8 a9 s0 ++ (wX2 E a1 s1 h1 ++ (wX2 E a2 s2 h2 ++ (wX1 E a3 q.2 ++ (wX2 E a4 s4 h4 ++ (wX1 E a5 s5 ++ (wX5 E a6 s6 ++ (wX3 E a7 s7 ++ (wX0 E a8 s8 ++ (wX6 E a9 s9 t9)))))))))) ++ sW E.2.1 L) H := by rw [← h9_0]; exact hP
      exact rt_i hx hb hr hlocks (fst_e e9) hP9 hS dX7_week_25
  · have hf := ite_t c_2 hf
    refine lv_aload_n hx hb dX7_week_5 rfl (lv_at hl 0 rfl) ?_
    refine va_get (ci := 7) (C := RX7) (T := TX7) (N := 11) (v := .ref (a3 0)) hx hb hts i_X7_week_X7 hown hK hP 0 rfl rfl 2 (by decide) (hts _ m_X7_week_6a5209) (fun _ h9 => h9) rfl dX7_week_6 ?_
    refine lv_iconst (v := 0) hx hb dX7_week_9 (by decide) ?_
    refine va_putN (ci := 1) (v := .int 0) (ty := .int) (C := RX1) (T := TX1) (N := 10) hx hb hts i_X7_week_X1 tyX1 tyX1_ok nmX1 hown hK hP (hDD s0 s1 h1 s2 h2 s3 s4 h4 s5 s6 s7 s8 s9 t9) hS 15 rfl rfl 6 (by decide) (nwG hG (w := .fieldLinkNest "PickedMatch" 228 "PickedMatch$Notes" "weekCount" "I" "PickedMatch") (by decide +kernel)) (fun _ h9 => h9) rfl (by decide +kernel) rfl rfl (Nat.le_of_ble_eq_true rfl) dX7_week_10 (fun H locs hP _ hS => ?_)
    obtain ⟨s3_10, hP, hf⟩ := nm_st' (P := fun z => va_P E.1 vwCl ((wX7o E a0 a1 a2 a3 a4 a5 a6 a7 a8 a9 s0 ++ (wX2 E a1 s1 h1 ++ (wX2 E a2 s2 h2 ++ (wX1 E a3 z ++ (wX2 E a4 s4 h4 ++ (wX1 E a5 s5 ++ (wX5 E a6 s6 ++ (wX3 E a7 s7 ++ (wX0 E a8 s8 ++ (wX6 E a9 s9 t9)))))))))) ++ sW E.2.1 L) H) hf hP
    refine lv_iconst (v := 0) hx hb dX7_week_13 (by decide) ?_
    have e9 := Option.some.inj hf
    have h9_0 : s3_10 = q.2 := congrArg (fun z => z.2) e9
    have hP9 : va_P E.1 vwCl ((wX7o E a0 a1 a2 a3 a4 a5 a6 a7 a8 a9 s0 ++ (wX2 E a1 s1 h1 ++ (wX2 E a2 s2 h2 ++ (wX1 E a3 q.2 ++ (wX2 E a4 s4 h4 ++ (wX1 E a5 s5 ++ (wX5 E a6 s6 ++ (wX3 E a7 s7 ++ (wX0 E a8 s8 ++ (wX6 E a9 s9 t9)))))))))) ++ sW E.2.1 L) H := by rw [← h9_0]; exact hP
    exact rt_i hx hb hr hlocks (fst_e e9) hP9 hS dX7_week_14
abbrev rm_X7_ends : Room := { frames := 6, cells := 0, slots := 0, locals := 138 }
theorem m_X7_ends_5dfb42 : Cond.fieldLink RX7 18 "PickedMatch" "trial" "LPickedMatch$Scene;" ∈ wsX7_ends := by decide +kernel
theorem i_X7_ends_X7 : ∀ w ∈ wsX70, w ∈ wsX7_ends := fun _ h => List.mem_cons_of_mem _ (List.mem_append_left _ (List.mem_append_left _ (List.mem_append_left _ (List.mem_append_right _ h))))
theorem m_X7_ends_265b14 : Cond.fieldLink RX7 12 "PickedMatch" "scene" "LPickedMatch$Scene;" ∈ wsX7_ends := by decide +kernel
theorem m_X7_ends_4cf9d8 : Cond.initialized RX2 ∈ wsX7_ends := by decide +kernel
theorem m_X7_ends_c21ce8 : Cond.instanceMethod yX2_becomeAs ∈ wsX7_ends := by decide +kernel
theorem m_X7_ends_986579 : Cond.selects RX2 yX2_becomeAs yX2_becomeAs ∈ wsX7_ends := by decide +kernel
theorem m_X7_ends_6a5209 : Cond.fieldLink RX7 24 "PickedMatch" "notes" "LPickedMatch$Notes;" ∈ wsX7_ends := by decide +kernel
theorem m_X7_ends_6e074f : Cond.initialized RX1 ∈ wsX7_ends := by decide +kernel
theorem m_X7_ends_d48eff : Cond.instanceMethod yX1_goThroughWeek ∈ wsX7_ends := by decide +kernel
theorem m_X7_ends_0860fb : Cond.selects RX1 yX1_goThroughWeek yX1_goThroughWeek ∈ wsX7_ends := by decide +kernel
theorem i_X7_ends_X2 : ∀ w ∈ wsX20, w ∈ wsX7_ends := fun _ h => List.mem_cons_of_mem _ (List.mem_append_left _ (List.mem_append_left _ (List.mem_append_right _ h)))
theorem m_X7_ends_b0e80c : Cond.instanceMethod yX2_marksOf ∈ wsX7_ends := by decide +kernel
theorem m_X7_ends_f506b3 : Cond.selects RX2 yX2_marksOf yX2_marksOf ∈ wsX7_ends := by decide +kernel
set_option maxHeartbeats 8000000 in
set_option maxRecDepth 100000 in
theorem k_X7_ends (l : Launch) (E : Ev) (a0 : Nat → Nat) (a1 : Nat → Nat) (a2 : Nat → Nat) (a3 : Nat → Nat) (a4 : Nat → Nat) (a5 : Nat → Nat) (a6 : Nat → Nat) (a7 : Nat → Nat) (a8 : Nat → Nat) (a9 : Nat → Nat) (L : List SR) (N : Nat) (s0 : St) (s1 : St) (h1 : Option SR) (s2 : St) (h2 : Option SR) (s3 : St) (s4 : St) (h4 : Option SR) (s5 : St) (s6 : St) (s7 : St) (s8 : St) (s9 : St) (t9 : Nat → Nat → Int64) (p1 : Int32) (q : (Int32 × St × (Option SR))) (hf : f_X7_ends N L s1 h1 s2 h2 s3 p1 = some q) : Ci l yX7_ends wsX7_ends rm_X7_ends E [.ref (a0 0), .int p1] ((wX7o E a0 a1 a2 a3 a4 a5 a6 a7 a8 a9 s0 ++ (wX2 E a1 s1 h1 ++ (wX2 E a2 s2 h2 ++ (wX1 E a3 s3 ++ (wX2 E a4 s4 h4 ++ (wX1 E a5 s5 ++ (wX5 E a6 s6 ++ (wX3 E a7 s7 ++ (wX0 E a8 s8 ++ (wX6 E a9 s9 t9)))))))))) ++ sW E.2.1 L) ((wX7o E a0 a1 a2 a3 a4 a5 a6 a7 a8 a9 s0 ++ (wX2 E a1 s1 h1 ++ (wX2 E a2 q.2.1 q.2.2 ++ (wX1 E a3 s3 ++ (wX2 E a4 s4 h4 ++ (wX1 E a5 s5 ++ (wX5 E a6 s6 ++ (wX3 E a7 s7 ++ (wX0 E a8 s8 ++ (wX6 E a9 s9 t9)))))))))) ++ sW E.2.1 L) q.1 := by
  unfold f_X7_ends at hf
  intro sz
  refine Met.ofW (cc := cX7_ends) (maxL := 2) (ret := (some .int)) (by decide) rfl ?_
  intro p e s m args below meth c s₁ B hml hpre
  obtain ⟨rfl, hsz, hP, hK, hD0, hG, hA, hAB⟩ := start hpre
  have hx := B.exec
  have hb := B.bytes
  have hr := B.returns
  have hts := atoms_spec (ws := wsX7_ends) B.pre
  have hown : s.vm.findClass RX7 = some m.cls := findClass_of_methodNamed B.named
  have hlocks := B.notSynchronized
  subst hsz
  generalize va_A ((wX7o E a0 a1 a2 a3 a4 a5 a6 a7 a8 a9 s0 ++ (wX2 E a1 s1 h1 ++ (wX2 E a2 s2 h2 ++ (wX1 E a3 s3 ++ (wX2 E a4 s4 h4 ++ (wX1 E a5 s5 ++ (wX5 E a6 s6 ++ (wX3 E a7 s7 ++ (wX0 E a8 s8 ++ (wX6 E a9 s9 t9)))))))))) ++ sW E.2.1 L) s.heap.size = A0 at hD0 hA hAB ⊢
  have hDD : ∀ (s0 : St) (s1 : St) (h1 : Option SR) (s2 : St) (h2 : Option SR) (s3 : St) (s4 : St) (h4 : Option SR) (s5 : St) (s6 : St) (s7 : St) (s8 : St) (s9 : St) (t9 : Nat → Nat → Int64), va_D A0 ((wX7o E a0 a1 a2 a3 a4 a5 a6 a7 a8 a9 s0 ++ (wX2 E a1 s1 h1 ++ (wX2 E a2 s2 h2 ++ (wX1 E a3 s3 ++ (wX2 E a4 s4 h4 ++ (wX1 E a5 s5 ++ (wX5 E a6 s6 ++ (wX3 E a7 s7 ++ (wX0 E a8 s8 ++ (wX6 E a9 s9 t9)))))))))) ++ sW E.2.1 L) := fun s0 s1 h1 s2 h2 s3 s4 h4 s5 s6 s7 s8 s9 t9 => vD_addr hD0 rfl
  have hS : va_S A0 s.heap s.heap [] := va_S.rf
  have hl := lv_entry ([.ref (a0 0), .int p1]) (n := 2) (Nat.le_of_ble_eq_true rfl)
  rw [lg_entry_eq]
  generalize (lg_sl ([.ref (a0 0), .int p1]) ++ List.replicate (2 - (lg_sl ([.ref (a0 0), .int p1])).length) Slot.unset).toArray = ls at hl ⊢
  have hl : lv_has ls 2 [(0, .ref (a0 0)), (1, .int p1)] := hl
  refine lv_iload_n hx hb dX7_ends_0 rfl (lv_at hl 1 rfl) ?_
  refine lv_iconst (v := 0) hx hb dX7_ends_1 (by decide) ?_
  refine lv_iconst (v := 1) hx hb dX7_ends_2 (by decide) ?_
  obtain ⟨q3, hc_3, hf⟩ := cl_e hf
  refine fin_i (E := E) (wc := ([] : va_W)) (wc' := ([] : va_W)) (va_runS (As := [.int p1, .int 0, .int 1]) (rest := []) ⟨hx, hb, hml, hown, hts⟩ (k_X7_isWithin l E N p1 0 1 q3 hc_3 _) (va_cwS 3 hts gX7_ends_X7_isWithin rfl rfl rfl (by decide +kernel) ⟨(Nat.le_of_ble_eq_true rfl), (Nat.le_of_ble_eq_true rfl)⟩) (pre_s hK va_P_nil va_D_nil hS hG hAB) rfl rfl hl.1 rfl (lv_room (Nat.le_of_ble_eq_true rfl)) dX7_ends_3 ⟨Nat.zero_le _, Nat.zero_le _⟩) hS (free_nil hS hA) (fun H locs hP1 hk hS => ?_)
  have hP := w_kept0 hP hk
  refine lv_if_ne (tgt := 11) hx hb dX7_ends_6 (by decide) (fun c_6 => ?_) (fun c_6 => ?_)
  · have hf := ite_f c_6 hf
    refine lv_aload_n hx hb dX7_ends_11 rfl (lv_at hl 0 rfl) ?_
    refine va_get (ci := 7) (C := RX7) (T := TX7) (N := 11) (v := .ref (a2 0)) hx hb hts i_X7_ends_X7 hown hK hP 0 rfl rfl 1 (by decide) (hts _ m_X7_ends_5dfb42) (fun _ h9 => h9) rfl dX7_ends_12 ?_
    refine lv_aload_n hx hb dX7_ends_15 rfl (lv_at hl 0 rfl) ?_
    refine va_get (ci := 7) (C := RX7) (T := TX7) (N := 11) (v := .ref (a1 0)) hx hb hts i_X7_ends_X7 hown hK hP 0 rfl rfl 0 (by decide) (hts _ m_X7_ends_265b14) (fun _ h9 => h9) rfl dX7_ends_16 ?_
    obtain ⟨q19, hc_19, hf⟩ := cl_e hf
    have hm_19 : ∀ q ∈ (wX2 E a2 s2 h2 ++ (wX2 E a1 s1 h1)) ++ sW E.2.1 L, q ∈ (wX7o E a0 a1 a2 a3 a4 a5 a6 a7 a8 a9 s0 ++ (wX2 E a1 s1 h1 ++ (wX2 E a2 s2 h2 ++ (wX1 E a3 s3 ++ (wX2 E a4 s4 h4 ++ (wX1 E a5 s5 ++ (wX5 E a6 s6 ++ (wX3 E a7 s7 ++ (wX0 E a8 s8 ++ (wX6 E a9 s9 t9)))))))))) ++ sW E.2.1 L := (app_mem (sub_mem (suf := []) [8, 9, 10, 11, 12, 13, 14, 1, 2, 3, 4, 5, 6, 7] rfl))
    refine fin_v (E := E) (wc := (wX2 E a2 s2 h2 ++ (wX2 E a1 s1 h1)) ++ sW E.2.1 L) (wc' := (wX2 E a2 q19.1 q19.2 ++ (wX2 E a1 s1 h1)) ++ sW E.2.1 L) (va_runVN (As := [.ref (a1 0)]) (rest := []) ⟨hx, hb, hml, hown, hts⟩ (k_X2_becomeAs l E a2 a1 L N s2 h2 s1 h1 q19 hc_19 _) ⟨va_cnB 1 hts gX7_ends_X2_becomeAs_n179 rfl rfl rfl (hG.1 (.methodLinkNest "PickedMatch" 179 yX2_becomeAs "PickedMatch") (by decide +kernel)) (hts _ m_X7_ends_4cf9d8) (by decide +kernel) ⟨(Nat.le_of_ble_eq_true rfl), (Nat.le_of_ble_eq_true rfl)⟩, (hts _ m_X7_ends_c21ce8), (hts _ m_X7_ends_986579)⟩ (pre_v (ci := 2) (q0 := 0) hK (sub_P hm_19 hP) (sub_Ds (ws := wX7o E a0 a1 a2 a3 a4 a5 a6 a7 a8 a9 s0 ++ (wX2 E a1 s1 h1 ++ (wX2 E a2 s2 h2 ++ (wX1 E a3 s3 ++ (wX2 E a4 s4 h4 ++ (wX1 E a5 s5 ++ (wX5 E a6 s6 ++ (wX3 E a7 s7 ++ (wX0 E a8 s8 ++ (wX6 E a9 s9 t9)))))))))) (wc := wX2 E a2 s2 h2 ++ (wX2 E a1 s1 h1)) (suf := sW E.2.1 L) [8, 9, 10, 11, 12, 13, 14, 1, 2, 3, 4, 5, 6, 7] (by decide) rfl (hDD s0 s1 h1 s2 h2 s3 s4 h4 s5 s6 s7 s8 s9 t9)) hS hG hAB rfl rfl) rfl rfl hl.1 rfl (lv_room (Nat.le_of_ble_eq_true rfl)) dX7_ends_19 ⟨Nat.zero_le _, Nat.zero_le _⟩) hS (w_free (hDD s0 s1 h1 s2 h2 s3 s4 h4 s5 s6 s7 s8 s9 t9) hS hA hm_19) (fun H locs hP1 hk hS => ?_)
    have hP := w_joins (ws' := wX7o E a0 a1 a2 a3 a4 a5 a6 a7 a8 a9 s0 ++ (wX2 E a1 s1 h1 ++ (wX2 E a2 q19.1 q19.2 ++ (wX1 E a3 s3 ++ (wX2 E a4 s4 h4 ++ (wX1 E a5 s5 ++ (wX5 E a6 s6 ++ (wX3 E a7 s7 ++ (wX0 E a8 s8 ++ (wX6 E a9 s9 t9)))))))))) (wc := wX2 E a2 s2 h2 ++ (wX2 E a1 s1 h1)) (wc' := wX2 E a2 q19.1 q19.2 ++ (wX2 E a1 s1 h1)) hP (hDD s0 s1 h1 s2 h2 s3 s4 h4 s5 s6 s7 s8 s9 t9) [8, 9, 10, 11, 12, 13, 14, 1, 2, 3, 4, 5, 6, 7] rfl [none, some 7, some 8, some 9, some 10, some 11, some 12, some 13, some 0, some 1, some 2, some 3, some 4, some 5, some 6, none, none, none, none, none, none, none, none, none, none, none, none, none, none, none, none, none, none, none, none, none, none, none, none, none, none, none, none, none, none, none, none, none, none, none] rfl rfl hk hP1
    refine lv_aload_n hx hb dX7_ends_22 rfl (lv_at hl 0 rfl) ?_
    refine va_get (ci := 7) (C := RX7) (T := TX7) (N := 11) (v := .ref (a3 0)) hx hb hts i_X7_ends_X7 hown hK hP 0 rfl rfl 2 (by decide) (hts _ m_X7_ends_6a5209) (fun _ h9 => h9) rfl dX7_ends_23 ?_
    refine lv_aload_n hx hb dX7_ends_26 rfl (lv_at hl 0 rfl) ?_
    refine va_get (ci := 7) (C := RX7) (T := TX7) (N := 11) (v := .ref (a2 0)) hx hb hts i_X7_ends_X7 hown hK hP 0 rfl rfl 1 (by decide) (hts _ m_X7_ends_5dfb42) (fun _ h9 => h9) rfl dX7_ends_27 ?_
    obtain ⟨q30, hc_30, hf⟩ := cl_e hf
    have hm_30 : ∀ q ∈ (wX1 E a3 s3 ++ (wX2 E a2 q19.1 q19.2)) ++ sW E.2.1 L, q ∈ (wX7o E a0 a1 a2 a3 a4 a5 a6 a7 a8 a9 s0 ++ (wX2 E a1 s1 h1 ++ (wX2 E a2 q19.1 q19.2 ++ (wX1 E a3 s3 ++ (wX2 E a4 s4 h4 ++ (wX1 E a5 s5 ++ (wX5 E a6 s6 ++ (wX3 E a7 s7 ++ (wX0 E a8 s8 ++ (wX6 E a9 s9 t9)))))))))) ++ sW E.2.1 L := (app_mem (sub_mem (suf := []) [15, 16, 17, 18, 19, 20, 21, 22, 8, 9, 10, 11, 12, 13, 14] rfl))
    refine fin_v (E := E) (wc := (wX1 E a3 s3 ++ (wX2 E a2 q19.1 q19.2)) ++ sW E.2.1 L) (wc' := (wX1 E a3 s3 ++ (wX2 E a2 q30 q19.2)) ++ sW E.2.1 L) (va_runVN (As := [.ref (a2 0)]) (rest := []) ⟨hx, hb, hml, hown, hts⟩ (k_X1_goThroughWeek l E a3 a2 L N s3 q19.1 q19.2 q30 hc_30 _) ⟨va_cnB 1 hts gX7_ends_X1_goThroughWeek_n235 rfl rfl rfl (hG.1 (.methodLinkNest "PickedMatch" 235 yX1_goThroughWeek "PickedMatch") (by decide +kernel)) (hts _ m_X7_ends_6e074f) (by decide +kernel) ⟨(Nat.le_of_ble_eq_true rfl), (Nat.le_of_ble_eq_true rfl)⟩, (hts _ m_X7_ends_d48eff), (hts _ m_X7_ends_0860fb)⟩ (pre_v (ci := 1) (q0 := 0) hK (sub_P hm_30 hP) (sub_Ds (ws := wX7o E a0 a1 a2 a3 a4 a5 a6 a7 a8 a9 s0 ++ (wX2 E a1 s1 h1 ++ (wX2 E a2 q19.1 q19.2 ++ (wX1 E a3 s3 ++ (wX2 E a4 s4 h4 ++ (wX1 E a5 s5 ++ (wX5 E a6 s6 ++ (wX3 E a7 s7 ++ (wX0 E a8 s8 ++ (wX6 E a9 s9 t9)))))))))) (wc := wX1 E a3 s3 ++ (wX2 E a2 q19.1 q19.2)) (suf := sW E.2.1 L) [15, 16, 17, 18, 19, 20, 21, 22, 8, 9, 10, 11, 12, 13, 14] (by decide) rfl (hDD s0 s1 h1 q19.1 q19.2 s3 s4 h4 s5 s6 s7 s8 s9 t9)) hS hG hAB rfl rfl) rfl rfl hl.1 rfl (lv_room (Nat.le_of_ble_eq_true rfl)) dX7_ends_30 ⟨Nat.zero_le _, Nat.zero_le _⟩) hS (w_free (hDD s0 s1 h1 q19.1 q19.2 s3 s4 h4 s5 s6 s7 s8 s9 t9) hS hA hm_30) (fun H locs hP1 hk hS => ?_)
    have hP := w_joins (ws' := wX7o E a0 a1 a2 a3 a4 a5 a6 a7 a8 a9 s0 ++ (wX2 E a1 s1 h1 ++ (wX2 E a2 q30 q19.2 ++ (wX1 E a3 s3 ++ (wX2 E a4 s4 h4 ++ (wX1 E a5 s5 ++ (wX5 E a6 s6 ++ (wX3 E a7 s7 ++ (wX0 E a8 s8 ++ (wX6 E a9 s9 t9)))))))))) (wc := wX1 E a3 s3 ++ (wX2 E a2 q19.1 q19.2)) (wc' := wX1 E a3 s3 ++ (wX2 E a2 q30 q19.2)) hP (hDD s0 s1 h1 q19.1 q19.2 s3 s4 h4 s5 s6 s7 s8 s9 t9) [15, 16, 17, 18, 19, 20, 21, 22, 8, 9, 10, 11, 12, 13, 14] rfl [none, none, none, none, none, none, none, none, some 8, some 9, some 10, some 11, some 12, some 13, some 14, some 0, some 1, some 2, some 3, some 4, some 5, some 6, some 7, none, none, none, none, none, none, none, none, none, none, none, none, none, none, none, none, none, none, none, none, none, none, none, none, none, none, none] rfl rfl hk hP1
    refine lv_iload_n hx hb dX7_ends_33 rfl (lv_at hl 1 rfl) ?_
    refine lv_if_ne (tgt := 47) hx hb dX7_ends_34 (by decide) (fun c_34 => ?_) (fun c_34 => ?_)
    · have hf := ite_f c_34 hf
      refine lv_aload_n hx hb dX7_ends_47 rfl (lv_at hl 0 rfl) ?_
      refine va_get (ci := 7) (C := RX7) (T := TX7) (N := 11) (v := .ref (a2 0)) hx hb hts i_X7_ends_X7 hown hK hP 0 rfl rfl 1 (by decide) (hts _ m_X7_ends_5dfb42) (fun _ h9 => h9) rfl dX7_ends_48 ?_
      refine lv_aload_n hx hb dX7_ends_51 rfl (lv_at hl 0 rfl) ?_
      refine va_get (ci := 7) (C := RX7) (T := TX7) (N := 11) (v := .ref (a2 0)) hx hb hts i_X7_ends_X7 hown hK hP 0 rfl rfl 1 (by decide) (hts _ m_X7_ends_5dfb42) (fun _ h9 => h9) rfl dX7_ends_52 ?_
      refine va_getN (ci := 2) (C := RX2) (T := TX2) (N := 11) (v := .int (q30 7 0)) hx hb hts i_X7_ends_X2 hown hK hP 8 rfl rfl 7 (by decide) (nwG hG (w := .fieldLinkNest "PickedMatch" 161 "PickedMatch$Scene" "hadBits" "I" "PickedMatch") (by decide +kernel)) (fun _ h9 => h9) rfl dX7_ends_55 ?_
      obtain ⟨q58, hc_58, hf⟩ := cl_e hf
      have hm_58 : ∀ q ∈ (wX2 E a2 q30 q19.2) ++ sW E.2.1 L, q ∈ (wX7o E a0 a1 a2 a3 a4 a5 a6 a7 a8 a9 s0 ++ (wX2 E a1 s1 h1 ++ (wX2 E a2 q30 q19.2 ++ (wX1 E a3 s3 ++ (wX2 E a4 s4 h4 ++ (wX1 E a5 s5 ++ (wX5 E a6 s6 ++ (wX3 E a7 s7 ++ (wX0 E a8 s8 ++ (wX6 E a9 s9 t9)))))))))) ++ sW E.2.1 L := (app_mem (sub_mem (suf := []) [8, 9, 10, 11, 12, 13, 14] rfl))
      refine fin_i (E := E) (wc := (wX2 E a2 q30 q19.2) ++ sW E.2.1 L) (wc' := (wX2 E a2 q30 q19.2) ++ sW E.2.1 L) (va_runVN (As := [.int (q30 7 0)]) (rest := []) ⟨hx, hb, hml, hown, hts⟩ (k_X2_marksOf l E a2 L N q30 q19.2 (q30 7 0) q58 hc_58 _) ⟨va_cnB 1 hts gX7_ends_X2_marksOf_n167 rfl rfl rfl (hG.1 (.methodLinkNest "PickedMatch" 167 yX2_marksOf "PickedMatch") (by decide +kernel)) (hts _ m_X7_ends_4cf9d8) (by decide +kernel) ⟨(Nat.le_of_ble_eq_true rfl), (Nat.le_of_ble_eq_true rfl)⟩, (hts _ m_X7_ends_b0e80c), (hts _ m_X7_ends_f506b3)⟩ (pre_v (ci := 2) (q0 := 0) hK (sub_P hm_58 hP) (sub_Ds (ws := wX7o E a0 a1 a2 a3 a4 a5 a6 a7 a8 a9 s0 ++ (wX2 E a1 s1 h1 ++ (wX2 E a2 q30 q19.2 ++ (wX1 E a3 s3 ++ (wX2 E a4 s4 h4 ++ (wX1 E a5 s5 ++ (wX5 E a6 s6 ++ (wX3 E a7 s7 ++ (wX0 E a8 s8 ++ (wX6 E a9 s9 t9)))))))))) (wc := wX2 E a2 q30 q19.2) (suf := sW E.2.1 L) [8, 9, 10, 11, 12, 13, 14] (by decide) rfl (hDD s0 s1 h1 q30 q19.2 s3 s4 h4 s5 s6 s7 s8 s9 t9)) hS hG hAB rfl rfl) rfl rfl hl.1 rfl (lv_room (Nat.le_of_ble_eq_true rfl)) dX7_ends_58 ⟨Nat.zero_le _, Nat.zero_le _⟩) hS (w_free (hDD s0 s1 h1 q30 q19.2 s3 s4 h4 s5 s6 s7 s8 s9 t9) hS hA hm_58) (fun H locs hP1 hk hS => ?_)
      have hP := w_joins (ws' := wX7o E a0 a1 a2 a3 a4 a5 a6 a7 a8 a9 s0 ++ (wX2 E a1 s1 h1 ++ (wX2 E a2 q30 q19.2 ++ (wX1 E a3 s3 ++ (wX2 E a4 s4 h4 ++ (wX1 E a5 s5 ++ (wX5 E a6 s6 ++ (wX3 E a7 s7 ++ (wX0 E a8 s8 ++ (wX6 E a9 s9 t9)))))))))) (wc := wX2 E a2 q30 q19.2) (wc' := wX2 E a2 q30 q19.2) hP (hDD s0 s1 h1 q30 q19.2 s3 s4 h4 s5 s6 s7 s8 s9 t9) [8, 9, 10, 11, 12, 13, 14] rfl [none, none, none, none, none, none, none, none, some 0, some 1, some 2, some 3, some 4, some 5, some 6, none, none, none, none, none, none, none, none, none, none, none, none, none, none, none, none, none, none, none, none, none, none, none, none, none, none, none, none, none, none, none, none, none, none, none] rfl rfl hk hP1
      obtain ⟨q61, hc_61, hf⟩ := cl_e hf
      refine fin_i (E := E) (wc := ([] : va_W)) (wc' := ([] : va_W)) (va_runS (As := [.int q58]) (rest := []) ⟨hx, hb, hml, hown, hts⟩ (k_J6_bitCount_0f7a4 l E N q58 q61 hc_61 _) (va_cwS 1 hts gX7_ends_J6_bitCount_0f7a4 rfl rfl rfl (by decide +kernel) ⟨(Nat.le_of_ble_eq_true rfl), (Nat.le_of_ble_eq_true rfl)⟩) (pre_s hK va_P_nil va_D_nil hS hG hAB) rfl rfl hl.1 rfl (lv_room (Nat.le_of_ble_eq_true rfl)) dX7_ends_61 ⟨Nat.zero_le _, Nat.zero_le _⟩) hS (free_nil hS hA) (fun H locs hP1 hk hS => ?_)
      have hP := w_kept0 hP hk
      have e9 := Option.some.inj hf
      have h9_0 : q30 = q.2.1 := congrArg (fun z => z.2.1) e9
      have h9_1 : q19.2 = q.2.2 := congrArg (fun z => z.2.2) e9
      have hP9 : va_P E.1 vwCl ((wX7o E a0 a1 a2 a3 a4 a5 a6 a7 a8 a9 s0 ++ (wX2 E a1 s1 h1 ++ (wX2 E a2 q.2.1 q.2.2 ++ (wX1 E a3 s3 ++ (wX2 E a4 s4 h4 ++ (wX1 E a5 s5 ++ (wX5 E a6 s6 ++ (wX3 E a7 s7 ++ (wX0 E a8 s8 ++ (wX6 E a9 s9 t9)))))))))) ++ sW E.2.1 L) H := by rw [← h9_0, ← h9_1]; exact hP
      exact rt_i hx hb hr hlocks (fst_e e9) hP9 hS dX7_ends_64
    · have hf := ite_t c_34 hf
      refine lv_aload_n hx hb dX7_ends_37 rfl (lv_at hl 0 rfl) ?_
      refine va_get (ci := 7) (C := RX7) (T := TX7) (N := 11) (v := .ref (a2 0)) hx hb hts i_X7_ends_X7 hown hK hP 0 rfl rfl 1 (by decide) (hts _ m_X7_ends_5dfb42) (fun _ h9 => h9) rfl dX7_ends_38 ?_
      refine va_getN (ci := 2) (C := RX2) (T := TX2) (N := 11) (v := .int (q30 7 0)) hx hb hts i_X7_ends_X2 hown hK hP 8 rfl rfl 7 (by decide) (nwG hG (w := .fieldLinkNest "PickedMatch" 161 "PickedMatch$Scene" "hadBits" "I" "PickedMatch") (by decide +kernel)) (fun _ h9 => h9) rfl dX7_ends_41 ?_
      refine lv_goto (tgt := 64) hx hb dX7_ends_44 (by decide) ?_
      have e9 := Option.some.inj hf
      have h9_0 : q30 = q.2.1 := congrArg (fun z => z.2.1) e9
      have h9_1 : q19.2 = q.2.2 := congrArg (fun z => z.2.2) e9
      have hP9 : va_P E.1 vwCl ((wX7o E a0 a1 a2 a3 a4 a5 a6 a7 a8 a9 s0 ++ (wX2 E a1 s1 h1 ++ (wX2 E a2 q.2.1 q.2.2 ++ (wX1 E a3 s3 ++ (wX2 E a4 s4 h4 ++ (wX1 E a5 s5 ++ (wX5 E a6 s6 ++ (wX3 E a7 s7 ++ (wX0 E a8 s8 ++ (wX6 E a9 s9 t9)))))))))) ++ sW E.2.1 L) H := by rw [← h9_0, ← h9_1]; exact hP
      exact rt_i hx hb hr hlocks (fst_e e9) hP9 hS dX7_ends_64
  · have hf := ite_t c_6 hf
    refine lv_iconst (v := (-1)) hx hb dX7_ends_9 (by decide) ?_
    have e9 := Option.some.inj hf
    have h9_0 : s2 = q.2.1 := congrArg (fun z => z.2.1) e9
    have h9_1 : h2 = q.2.2 := congrArg (fun z => z.2.2) e9
    have hP9 : va_P E.1 vwCl ((wX7o E a0 a1 a2 a3 a4 a5 a6 a7 a8 a9 s0 ++ (wX2 E a1 s1 h1 ++ (wX2 E a2 q.2.1 q.2.2 ++ (wX1 E a3 s3 ++ (wX2 E a4 s4 h4 ++ (wX1 E a5 s5 ++ (wX5 E a6 s6 ++ (wX3 E a7 s7 ++ (wX0 E a8 s8 ++ (wX6 E a9 s9 t9)))))))))) ++ sW E.2.1 L) H := by rw [← h9_0, ← h9_1]; exact hP
    exact rt_i hx hb hr hlocks (fst_e e9) hP9 hS dX7_ends_10
abbrev rm_X7_book : Room := { frames := 1, cells := 0, slots := 0, locals := 22 }
theorem m_X7_book_265b14 : Cond.fieldLink RX7 12 "PickedMatch" "scene" "LPickedMatch$Scene;" ∈ wsX7_book := by decide +kernel
theorem i_X7_book_X7 : ∀ w ∈ wsX70, w ∈ wsX7_book := fun _ h => List.mem_cons_of_mem _ (List.mem_append_left _ (List.mem_append_left _ (List.mem_append_right _ h)))
theorem m_X7_book_4cf9d8 : Cond.initialized RX2 ∈ wsX7_book := by decide +kernel
theorem m_X7_book_0211d8 : Cond.instanceMethod yX2_hasThing ∈ wsX7_book := by decide +kernel
theorem m_X7_book_6099ba : Cond.selects RX2 yX2_hasThing yX2_hasThing ∈ wsX7_book := by decide +kernel
theorem m_X7_book_6a5209 : Cond.fieldLink RX7 24 "PickedMatch" "notes" "LPickedMatch$Notes;" ∈ wsX7_book := by decide +kernel
theorem i_X7_book_X1 : ∀ w ∈ wsX10, w ∈ wsX7_book := fun _ h => List.mem_cons_of_mem _ (List.mem_append_left _ (List.mem_append_right _ h))
theorem m_X7_book_6e074f : Cond.initialized RX1 ∈ wsX7_book := by decide +kernel
theorem m_X7_book_185e18 : Cond.instanceMethod yX1_addToBook ∈ wsX7_book := by decide +kernel
theorem m_X7_book_bc5ba5 : Cond.selects RX1 yX1_addToBook yX1_addToBook ∈ wsX7_book := by decide +kernel
set_option maxHeartbeats 8000000 in
set_option maxRecDepth 100000 in
theorem k_X7_book (l : Launch) (E : Ev) (a0 : Nat → Nat) (a1 : Nat → Nat) (a2 : Nat → Nat) (a3 : Nat → Nat) (a4 : Nat → Nat) (a5 : Nat → Nat) (a6 : Nat → Nat) (a7 : Nat → Nat) (a8 : Nat → Nat) (a9 : Nat → Nat) (L : List SR) (N : Nat) (s0 : St) (s1 : St) (h1 : Option SR) (s2 : St) (h2 : Option SR) (s3 : St) (s4 : St) (h4 : Option SR) (s5 : St) (s6 : St) (s7 : St) (s8 : St) (s9 : St) (t9 : Nat → Nat → Int64) (p1 : Int32) (p2 : Int32) (q : (Int32 × St)) (hf : f_X7_book N s1 s3 p1 p2 = some q) : Ci l yX7_book wsX7_book rm_X7_book E [.ref (a0 0), .int p1, .int p2] ((wX7o E a0 a1 a2 a3 a4 a5 a6 a7 a8 a9 s0 ++ (wX2 E a1 s1 h1 ++ (wX2 E a2 s2 h2 ++ (wX1 E a3 s3 ++ (wX2 E a4 s4 h4 ++ (wX1 E a5 s5 ++ (wX5 E a6 s6 ++ (wX3 E a7 s7 ++ (wX0 E a8 s8 ++ (wX6 E a9 s9 t9)))))))))) ++ sW E.2.1 L) ((wX7o E a0 a1 a2 a3 a4 a5 a6 a7 a8 a9 s0 ++ (wX2 E a1 s1 h1 ++ (wX2 E a2 s2 h2 ++ (wX1 E a3 q.2 ++ (wX2 E a4 s4 h4 ++ (wX1 E a5 s5 ++ (wX5 E a6 s6 ++ (wX3 E a7 s7 ++ (wX0 E a8 s8 ++ (wX6 E a9 s9 t9)))))))))) ++ sW E.2.1 L) q.1 := by
  unfold f_X7_book at hf
  intro sz
  refine Met.ofW (cc := cX7_book) (maxL := 3) (ret := (some .int)) (by decide) rfl ?_
  intro p e s m args below meth c s₁ B hml hpre
  obtain ⟨rfl, hsz, hP, hK, hD0, hG, hA, hAB⟩ := start hpre
  have hx := B.exec
  have hb := B.bytes
  have hr := B.returns
  have hts := atoms_spec (ws := wsX7_book) B.pre
  have hown : s.vm.findClass RX7 = some m.cls := findClass_of_methodNamed B.named
  have hlocks := B.notSynchronized
  subst hsz
  generalize va_A ((wX7o E a0 a1 a2 a3 a4 a5 a6 a7 a8 a9 s0 ++ (wX2 E a1 s1 h1 ++ (wX2 E a2 s2 h2 ++ (wX1 E a3 s3 ++ (wX2 E a4 s4 h4 ++ (wX1 E a5 s5 ++ (wX5 E a6 s6 ++ (wX3 E a7 s7 ++ (wX0 E a8 s8 ++ (wX6 E a9 s9 t9)))))))))) ++ sW E.2.1 L) s.heap.size = A0 at hD0 hA hAB ⊢
  have hDD : ∀ (s0 : St) (s1 : St) (h1 : Option SR) (s2 : St) (h2 : Option SR) (s3 : St) (s4 : St) (h4 : Option SR) (s5 : St) (s6 : St) (s7 : St) (s8 : St) (s9 : St) (t9 : Nat → Nat → Int64), va_D A0 ((wX7o E a0 a1 a2 a3 a4 a5 a6 a7 a8 a9 s0 ++ (wX2 E a1 s1 h1 ++ (wX2 E a2 s2 h2 ++ (wX1 E a3 s3 ++ (wX2 E a4 s4 h4 ++ (wX1 E a5 s5 ++ (wX5 E a6 s6 ++ (wX3 E a7 s7 ++ (wX0 E a8 s8 ++ (wX6 E a9 s9 t9)))))))))) ++ sW E.2.1 L) := fun s0 s1 h1 s2 h2 s3 s4 h4 s5 s6 s7 s8 s9 t9 => vD_addr hD0 rfl
  have hS : va_S A0 s.heap s.heap [] := va_S.rf
  have hl := lv_entry ([.ref (a0 0), .int p1, .int p2]) (n := 3) (Nat.le_of_ble_eq_true rfl)
  rw [lg_entry_eq]
  generalize (lg_sl ([.ref (a0 0), .int p1, .int p2]) ++ List.replicate (3 - (lg_sl ([.ref (a0 0), .int p1, .int p2])).length) Slot.unset).toArray = ls at hl ⊢
  have hl : lv_has ls 3 [(0, .ref (a0 0)), (1, .int p1), (2, .int p2)] := hl
  refine lv_iload_n hx hb dX7_book_0 rfl (lv_at hl 1 rfl) ?_
  refine lv_iconst (v := (-1)) hx hb dX7_book_1 (by decide) ?_
  refine lv_icmp_ne (tgt := 15) hx hb dX7_book_2 (by decide) (fun c_2 => ?_) (fun c_2 => ?_)
  · have hf := ite_f c_2 hf
    refine lv_aload_n hx hb dX7_book_15 rfl (lv_at hl 0 rfl) ?_
    refine va_get (ci := 7) (C := RX7) (T := TX7) (N := 11) (v := .ref (a1 0)) hx hb hts i_X7_book_X7 hown hK hP 0 rfl rfl 0 (by decide) (hts _ m_X7_book_265b14) (fun _ h9 => h9) rfl dX7_book_16 ?_
    refine lv_iload_n hx hb dX7_book_19 rfl (lv_at hl 1 rfl) ?_
    obtain ⟨q20, hc_20, hf⟩ := cl_e hf
    have hm_20 : ∀ q ∈ (wX2 E a1 s1 h1) ++ sW E.2.1 L, q ∈ (wX7o E a0 a1 a2 a3 a4 a5 a6 a7 a8 a9 s0 ++ (wX2 E a1 s1 h1 ++ (wX2 E a2 s2 h2 ++ (wX1 E a3 s3 ++ (wX2 E a4 s4 h4 ++ (wX1 E a5 s5 ++ (wX5 E a6 s6 ++ (wX3 E a7 s7 ++ (wX0 E a8 s8 ++ (wX6 E a9 s9 t9)))))))))) ++ sW E.2.1 L := (app_mem (sub_mem (suf := []) [1, 2, 3, 4, 5, 6, 7] rfl))
    refine fin_i (E := E) (wc := (wX2 E a1 s1 h1) ++ sW E.2.1 L) (wc' := (wX2 E a1 s1 h1) ++ sW E.2.1 L) (va_runVN (As := [.int p1]) (rest := []) ⟨hx, hb, hml, hown, hts⟩ (k_X2_hasThing l E a1 L N s1 h1 p1 q20 hc_20 _) ⟨va_cnB 1 hts gX7_book_X2_hasThing_n74 rfl rfl rfl (hG.1 (.methodLinkNest "PickedMatch" 74 yX2_hasThing "PickedMatch") (by decide +kernel)) (hts _ m_X7_book_4cf9d8) (by decide +kernel) ⟨(Nat.le_of_ble_eq_true rfl), (Nat.le_of_ble_eq_true rfl)⟩, (hts _ m_X7_book_0211d8), (hts _ m_X7_book_6099ba)⟩ (pre_v (ci := 2) (q0 := 0) hK (sub_P hm_20 hP) (sub_Ds (ws := wX7o E a0 a1 a2 a3 a4 a5 a6 a7 a8 a9 s0 ++ (wX2 E a1 s1 h1 ++ (wX2 E a2 s2 h2 ++ (wX1 E a3 s3 ++ (wX2 E a4 s4 h4 ++ (wX1 E a5 s5 ++ (wX5 E a6 s6 ++ (wX3 E a7 s7 ++ (wX0 E a8 s8 ++ (wX6 E a9 s9 t9)))))))))) (wc := wX2 E a1 s1 h1) (suf := sW E.2.1 L) [1, 2, 3, 4, 5, 6, 7] (by decide) rfl (hDD s0 s1 h1 s2 h2 s3 s4 h4 s5 s6 s7 s8 s9 t9)) hS hG hAB rfl rfl) rfl rfl hl.1 rfl (lv_room (Nat.le_of_ble_eq_true rfl)) dX7_book_20 ⟨Nat.zero_le _, Nat.zero_le _⟩) hS (w_free (hDD s0 s1 h1 s2 h2 s3 s4 h4 s5 s6 s7 s8 s9 t9) hS hA hm_20) (fun H locs hP1 hk hS => ?_)
    have hP := w_joins (ws' := wX7o E a0 a1 a2 a3 a4 a5 a6 a7 a8 a9 s0 ++ (wX2 E a1 s1 h1 ++ (wX2 E a2 s2 h2 ++ (wX1 E a3 s3 ++ (wX2 E a4 s4 h4 ++ (wX1 E a5 s5 ++ (wX5 E a6 s6 ++ (wX3 E a7 s7 ++ (wX0 E a8 s8 ++ (wX6 E a9 s9 t9)))))))))) (wc := wX2 E a1 s1 h1) (wc' := wX2 E a1 s1 h1) hP (hDD s0 s1 h1 s2 h2 s3 s4 h4 s5 s6 s7 s8 s9 t9) [1, 2, 3, 4, 5, 6, 7] rfl [none, some 0, some 1, some 2, some 3, some 4, some 5, some 6, none, none, none, none, none, none, none, none, none, none, none, none, none, none, none, none, none, none, none, none, none, none, none, none, none, none, none, none, none, none, none, none, none, none, none, none, none, none, none, none, none, none] rfl rfl hk hP1
    refine lv_if_ne (tgt := 28) hx hb dX7_book_23 (by decide) (fun c_23 => ?_) (fun c_23 => ?_)
    · have hf := ite_f c_23 hf
      refine lv_iload_n hx hb dX7_book_28 rfl (lv_at hl 2 rfl) ?_
      refine lv_iconst (v := 0) hx hb dX7_book_29 (by decide) ?_
      refine lv_sipush (v := 255) hx hb dX7_book_30 (by decide) ?_
      obtain ⟨q33, hc_33, hf⟩ := cl_e hf
      refine fin_i (E := E) (wc := ([] : va_W)) (wc' := ([] : va_W)) (va_runS (As := [.int p2, .int 0, .int 255]) (rest := []) ⟨hx, hb, hml, hown, hts⟩ (k_X7_isWithin l E N p2 0 255 q33 hc_33 _) (va_cwS 3 hts gX7_book_X7_isWithin rfl rfl rfl (by decide +kernel) ⟨(Nat.le_of_ble_eq_true rfl), (Nat.le_of_ble_eq_true rfl)⟩) (pre_s hK va_P_nil va_D_nil hS hG hAB) rfl rfl hl.1 rfl (lv_room (Nat.le_of_ble_eq_true rfl)) dX7_book_33 ⟨Nat.zero_le _, Nat.zero_le _⟩) hS (free_nil hS hA) (fun H locs hP1 hk hS => ?_)
      have hP := w_kept0 hP hk
      refine lv_if_ne (tgt := 42) hx hb dX7_book_36 (by decide) (fun c_36 => ?_) (fun c_36 => ?_)
      · have hf := ite_f c_36 hf
        refine lv_aload_n hx hb dX7_book_42 rfl (lv_at hl 0 rfl) ?_
        refine va_get (ci := 7) (C := RX7) (T := TX7) (N := 11) (v := .ref (a3 0)) hx hb hts i_X7_book_X7 hown hK hP 0 rfl rfl 2 (by decide) (hts _ m_X7_book_6a5209) (fun _ h9 => h9) rfl dX7_book_43 ?_
        refine va_getN (ci := 1) (C := RX1) (T := TX1) (N := 10) (v := .int (s3 9 0)) hx hb hts i_X7_book_X1 hown hK hP 15 rfl rfl 9 (by decide) (nwG hG (w := .fieldLinkNest "PickedMatch" 238 "PickedMatch$Notes" "bookCount" "I" "PickedMatch") (by decide +kernel)) (fun _ h9 => h9) rfl dX7_book_46 ?_
        refine lv_bipush (v := 8) hx hb dX7_book_49 (by decide) ?_
        refine lv_icmp_lt (tgt := 57) hx hb dX7_book_51 (by decide) (fun c_51 => ?_) (fun c_51 => ?_)
        · have hf := ite_t c_51 hf
          refine lv_aload_n hx hb dX7_book_57 rfl (lv_at hl 0 rfl) ?_
          refine va_get (ci := 7) (C := RX7) (T := TX7) (N := 11) (v := .ref (a3 0)) hx hb hts i_X7_book_X7 hown hK hP 0 rfl rfl 2 (by decide) (hts _ m_X7_book_6a5209) (fun _ h9 => h9) rfl dX7_book_58 ?_
          refine lv_iload_n hx hb dX7_book_61 rfl (lv_at hl 1 rfl) ?_
          refine lv_iload_n hx hb dX7_book_62 rfl (lv_at hl 2 rfl) ?_
          obtain ⟨q63, hc_63, hf⟩ := cl_e hf
          have hm_63 : ∀ q ∈ wX1 E a3 s3, q ∈ (wX7o E a0 a1 a2 a3 a4 a5 a6 a7 a8 a9 s0 ++ (wX2 E a1 s1 h1 ++ (wX2 E a2 s2 h2 ++ (wX1 E a3 s3 ++ (wX2 E a4 s4 h4 ++ (wX1 E a5 s5 ++ (wX5 E a6 s6 ++ (wX3 E a7 s7 ++ (wX0 E a8 s8 ++ (wX6 E a9 s9 t9)))))))))) ++ sW E.2.1 L := (inl_mem (sub_mem (suf := []) [15, 16, 17, 18, 19, 20, 21, 22] rfl))
          refine fin_i (E := E) (wc := wX1 E a3 s3) (wc' := wX1 E a3 q63.2) (va_runVN (As := [.int p1, .int p2]) (rest := []) ⟨hx, hb, hml, hown, hts⟩ (k_X1_addToBook l E a3 N s3 p1 p2 q63 hc_63 _) ⟨va_cnB 2 hts gX7_book_X1_addToBook_n241 rfl rfl rfl (hG.1 (.methodLinkNest "PickedMatch" 241 yX1_addToBook "PickedMatch") (by decide +kernel)) (hts _ m_X7_book_6e074f) (by decide +kernel) ⟨(Nat.le_of_ble_eq_true rfl), (Nat.le_of_ble_eq_true rfl)⟩, (hts _ m_X7_book_185e18), (hts _ m_X7_book_bc5ba5)⟩ (pre_v (ci := 1) (q0 := 0) hK (sub_P hm_63 hP) (sub_Dn (ws := wX7o E a0 a1 a2 a3 a4 a5 a6 a7 a8 a9 s0 ++ (wX2 E a1 s1 h1 ++ (wX2 E a2 s2 h2 ++ (wX1 E a3 s3 ++ (wX2 E a4 s4 h4 ++ (wX1 E a5 s5 ++ (wX5 E a6 s6 ++ (wX3 E a7 s7 ++ (wX0 E a8 s8 ++ (wX6 E a9 s9 t9)))))))))) (wc := wX1 E a3 s3) (suf := sW E.2.1 L) [15, 16, 17, 18, 19, 20, 21, 22] (by decide) rfl (hDD s0 s1 h1 s2 h2 s3 s4 h4 s5 s6 s7 s8 s9 t9)) hS hG hAB rfl rfl) rfl rfl hl.1 rfl (lv_room (Nat.le_of_ble_eq_true rfl)) dX7_book_63 ⟨Nat.zero_le _, Nat.zero_le _⟩) hS (w_free (hDD s0 s1 h1 s2 h2 s3 s4 h4 s5 s6 s7 s8 s9 t9) hS hA hm_63) (fun H locs hP1 hk hS => ?_)
          have hP := w_join (ws' := wX7o E a0 a1 a2 a3 a4 a5 a6 a7 a8 a9 s0 ++ (wX2 E a1 s1 h1 ++ (wX2 E a2 s2 h2 ++ (wX1 E a3 q63.2 ++ (wX2 E a4 s4 h4 ++ (wX1 E a5 s5 ++ (wX5 E a6 s6 ++ (wX3 E a7 s7 ++ (wX0 E a8 s8 ++ (wX6 E a9 s9 t9)))))))))) (wc := wX1 E a3 s3) (wc' := wX1 E a3 q63.2) hP (hDD s0 s1 h1 s2 h2 s3 s4 h4 s5 s6 s7 s8 s9 t9) [15, 16, 17, 18, 19, 20, 21, 22] rfl [none, none, none, none, none, none, none, none, none, none, none, none, none, none, none, some 0, some 1, some 2, some 3, some 4, some 5, some 6, some 7, none, none, none, none, none, none, none, none, none, none, none, none, none, none, none, none, none, none, none, none, none, none, none, none, none, none, none] rfl rfl hk hP1
          have e9 := Option.some.inj hf
          have h9_0 : q63.2 = q.2 := congrArg (fun z => z.2) e9
          have hP9 : va_P E.1 vwCl ((wX7o E a0 a1 a2 a3 a4 a5 a6 a7 a8 a9 s0 ++ (wX2 E a1 s1 h1 ++ (wX2 E a2 s2 h2 ++ (wX1 E a3 q.2 ++ (wX2 E a4 s4 h4 ++ (wX1 E a5 s5 ++ (wX5 E a6 s6 ++ (wX3 E a7 s7 ++ (wX0 E a8 s8 ++ (wX6 E a9 s9 t9)))))))))) ++ sW E.2.1 L) H := by rw [← h9_0]; exact hP
          exact rt_i hx hb hr hlocks (fst_e e9) hP9 hS dX7_book_66
        · have hf := ite_f c_51 hf
          refine lv_bipush (v := (-4)) hx hb dX7_book_54 (by decide) ?_
          have e9 := Option.some.inj hf
          have h9_0 : s3 = q.2 := congrArg (fun z => z.2) e9
          have hP9 : va_P E.1 vwCl ((wX7o E a0 a1 a2 a3 a4 a5 a6 a7 a8 a9 s0 ++ (wX2 E a1 s1 h1 ++ (wX2 E a2 s2 h2 ++ (wX1 E a3 q.2 ++ (wX2 E a4 s4 h4 ++ (wX1 E a5 s5 ++ (wX5 E a6 s6 ++ (wX3 E a7 s7 ++ (wX0 E a8 s8 ++ (wX6 E a9 s9 t9)))))))))) ++ sW E.2.1 L) H := by rw [← h9_0]; exact hP
          exact rt_i hx hb hr hlocks (fst_e e9) hP9 hS dX7_book_56
      · have hf := ite_t c_36 hf
        refine lv_bipush (v := (-2)) hx hb dX7_book_39 (by decide) ?_
        have e9 := Option.some.inj hf
        have h9_0 : s3 = q.2 := congrArg (fun z => z.2) e9
        have hP9 : va_P E.1 vwCl ((wX7o E a0 a1 a2 a3 a4 a5 a6 a7 a8 a9 s0 ++ (wX2 E a1 s1 h1 ++ (wX2 E a2 s2 h2 ++ (wX1 E a3 q.2 ++ (wX2 E a4 s4 h4 ++ (wX1 E a5 s5 ++ (wX5 E a6 s6 ++ (wX3 E a7 s7 ++ (wX0 E a8 s8 ++ (wX6 E a9 s9 t9)))))))))) ++ sW E.2.1 L) H := by rw [← h9_0]; exact hP
        exact rt_i hx hb hr hlocks (fst_e e9) hP9 hS dX7_book_41
    · have hf := ite_t c_23 hf
      refine lv_iconst (v := (-1)) hx hb dX7_book_26 (by decide) ?_
      have e9 := Option.some.inj hf
      have h9_0 : s3 = q.2 := congrArg (fun z => z.2) e9
      have hP9 : va_P E.1 vwCl ((wX7o E a0 a1 a2 a3 a4 a5 a6 a7 a8 a9 s0 ++ (wX2 E a1 s1 h1 ++ (wX2 E a2 s2 h2 ++ (wX1 E a3 q.2 ++ (wX2 E a4 s4 h4 ++ (wX1 E a5 s5 ++ (wX5 E a6 s6 ++ (wX3 E a7 s7 ++ (wX0 E a8 s8 ++ (wX6 E a9 s9 t9)))))))))) ++ sW E.2.1 L) H := by rw [← h9_0]; exact hP
      exact rt_i hx hb hr hlocks (fst_e e9) hP9 hS dX7_book_27
  · have hf := ite_t c_2 hf
    refine lv_aload_n hx hb dX7_book_5 rfl (lv_at hl 0 rfl) ?_
    refine va_get (ci := 7) (C := RX7) (T := TX7) (N := 11) (v := .ref (a3 0)) hx hb hts i_X7_book_X7 hown hK hP 0 rfl rfl 2 (by decide) (hts _ m_X7_book_6a5209) (fun _ h9 => h9) rfl dX7_book_6 ?_
    refine lv_iconst (v := 0) hx hb dX7_book_9 (by decide) ?_
    refine va_putN (ci := 1) (v := .int 0) (ty := .int) (C := RX1) (T := TX1) (N := 10) hx hb hts i_X7_book_X1 tyX1 tyX1_ok nmX1 hown hK hP (hDD s0 s1 h1 s2 h2 s3 s4 h4 s5 s6 s7 s8 s9 t9) hS 15 rfl rfl 9 (by decide) (nwG hG (w := .fieldLinkNest "PickedMatch" 238 "PickedMatch$Notes" "bookCount" "I" "PickedMatch") (by decide +kernel)) (fun _ h9 => h9) rfl (by decide +kernel) rfl rfl (Nat.le_of_ble_eq_true rfl) dX7_book_10 (fun H locs hP _ hS => ?_)
    obtain ⟨s3_10, hP, hf⟩ := nm_st' (P := fun z => va_P E.1 vwCl ((wX7o E a0 a1 a2 a3 a4 a5 a6 a7 a8 a9 s0 ++ (wX2 E a1 s1 h1 ++ (wX2 E a2 s2 h2 ++ (wX1 E a3 z ++ (wX2 E a4 s4 h4 ++ (wX1 E a5 s5 ++ (wX5 E a6 s6 ++ (wX3 E a7 s7 ++ (wX0 E a8 s8 ++ (wX6 E a9 s9 t9)))))))))) ++ sW E.2.1 L) H) hf hP
    refine lv_iconst (v := 0) hx hb dX7_book_13 (by decide) ?_
    have e9 := Option.some.inj hf
    have h9_0 : s3_10 = q.2 := congrArg (fun z => z.2) e9
    have hP9 : va_P E.1 vwCl ((wX7o E a0 a1 a2 a3 a4 a5 a6 a7 a8 a9 s0 ++ (wX2 E a1 s1 h1 ++ (wX2 E a2 s2 h2 ++ (wX1 E a3 q.2 ++ (wX2 E a4 s4 h4 ++ (wX1 E a5 s5 ++ (wX5 E a6 s6 ++ (wX3 E a7 s7 ++ (wX0 E a8 s8 ++ (wX6 E a9 s9 t9)))))))))) ++ sW E.2.1 L) H := by rw [← h9_0]; exact hP
    exact rt_i hx hb hr hlocks (fst_e e9) hP9 hS dX7_book_14
abbrev rm_X7_looked : Room := { frames := 2, cells := 0, slots := 0, locals := 44 }
theorem m_X7_looked_6a5209 : Cond.fieldLink RX7 24 "PickedMatch" "notes" "LPickedMatch$Notes;" ∈ wsX7_looked := by decide +kernel
theorem i_X7_looked_X7 : ∀ w ∈ wsX70, w ∈ wsX7_looked := fun _ h => List.mem_cons_of_mem _ (List.mem_append_left _ (List.mem_append_left _ (List.mem_append_right _ h)))
theorem m_X7_looked_265b14 : Cond.fieldLink RX7 12 "PickedMatch" "scene" "LPickedMatch$Scene;" ∈ wsX7_looked := by decide +kernel
theorem m_X7_looked_6e074f : Cond.initialized RX1 ∈ wsX7_looked := by decide +kernel
theorem m_X7_looked_f9a036 : Cond.instanceMethod yX1_firstOtherwise ∈ wsX7_looked := by decide +kernel
theorem m_X7_looked_ff5ba3 : Cond.selects RX1 yX1_firstOtherwise yX1_firstOtherwise ∈ wsX7_looked := by decide +kernel
set_option maxHeartbeats 8000000 in
set_option maxRecDepth 100000 in
theorem k_X7_looked (l : Launch) (E : Ev) (a0 : Nat → Nat) (a1 : Nat → Nat) (a2 : Nat → Nat) (a3 : Nat → Nat) (a4 : Nat → Nat) (a5 : Nat → Nat) (a6 : Nat → Nat) (a7 : Nat → Nat) (a8 : Nat → Nat) (a9 : Nat → Nat) (L : List SR) (N : Nat) (s0 : St) (s1 : St) (h1 : Option SR) (s2 : St) (h2 : Option SR) (s3 : St) (s4 : St) (h4 : Option SR) (s5 : St) (s6 : St) (s7 : St) (s8 : St) (s9 : St) (t9 : Nat → Nat → Int64) (q : (Int32)) (hf : f_X7_looked N s1 s3 = some q) : Ci l yX7_looked wsX7_looked rm_X7_looked E [.ref (a0 0)] ((wX7o E a0 a1 a2 a3 a4 a5 a6 a7 a8 a9 s0 ++ (wX2 E a1 s1 h1 ++ (wX2 E a2 s2 h2 ++ (wX1 E a3 s3 ++ (wX2 E a4 s4 h4 ++ (wX1 E a5 s5 ++ (wX5 E a6 s6 ++ (wX3 E a7 s7 ++ (wX0 E a8 s8 ++ (wX6 E a9 s9 t9)))))))))) ++ sW E.2.1 L) ((wX7o E a0 a1 a2 a3 a4 a5 a6 a7 a8 a9 s0 ++ (wX2 E a1 s1 h1 ++ (wX2 E a2 s2 h2 ++ (wX1 E a3 s3 ++ (wX2 E a4 s4 h4 ++ (wX1 E a5 s5 ++ (wX5 E a6 s6 ++ (wX3 E a7 s7 ++ (wX0 E a8 s8 ++ (wX6 E a9 s9 t9)))))))))) ++ sW E.2.1 L) q := by
  unfold f_X7_looked at hf
  intro sz
  refine Met.ofW (cc := cX7_looked) (maxL := 1) (ret := (some .int)) (by decide) rfl ?_
  intro p e s m args below meth c s₁ B hml hpre
  obtain ⟨rfl, hsz, hP, hK, hD0, hG, hA, hAB⟩ := start hpre
  have hx := B.exec
  have hb := B.bytes
  have hr := B.returns
  have hts := atoms_spec (ws := wsX7_looked) B.pre
  have hown : s.vm.findClass RX7 = some m.cls := findClass_of_methodNamed B.named
  have hlocks := B.notSynchronized
  subst hsz
  generalize va_A ((wX7o E a0 a1 a2 a3 a4 a5 a6 a7 a8 a9 s0 ++ (wX2 E a1 s1 h1 ++ (wX2 E a2 s2 h2 ++ (wX1 E a3 s3 ++ (wX2 E a4 s4 h4 ++ (wX1 E a5 s5 ++ (wX5 E a6 s6 ++ (wX3 E a7 s7 ++ (wX0 E a8 s8 ++ (wX6 E a9 s9 t9)))))))))) ++ sW E.2.1 L) s.heap.size = A0 at hD0 hA hAB ⊢
  have hDD : ∀ (s0 : St) (s1 : St) (h1 : Option SR) (s2 : St) (h2 : Option SR) (s3 : St) (s4 : St) (h4 : Option SR) (s5 : St) (s6 : St) (s7 : St) (s8 : St) (s9 : St) (t9 : Nat → Nat → Int64), va_D A0 ((wX7o E a0 a1 a2 a3 a4 a5 a6 a7 a8 a9 s0 ++ (wX2 E a1 s1 h1 ++ (wX2 E a2 s2 h2 ++ (wX1 E a3 s3 ++ (wX2 E a4 s4 h4 ++ (wX1 E a5 s5 ++ (wX5 E a6 s6 ++ (wX3 E a7 s7 ++ (wX0 E a8 s8 ++ (wX6 E a9 s9 t9)))))))))) ++ sW E.2.1 L) := fun s0 s1 h1 s2 h2 s3 s4 h4 s5 s6 s7 s8 s9 t9 => vD_addr hD0 rfl
  have hS : va_S A0 s.heap s.heap [] := va_S.rf
  have hl := lv_entry ([.ref (a0 0)]) (n := 1) (Nat.le_of_ble_eq_true rfl)
  rw [lg_entry_eq]
  generalize (lg_sl ([.ref (a0 0)]) ++ List.replicate (1 - (lg_sl ([.ref (a0 0)])).length) Slot.unset).toArray = ls at hl ⊢
  have hl : lv_has ls 1 [(0, .ref (a0 0))] := hl
  refine lv_aload_n hx hb dX7_looked_0 rfl (lv_at hl 0 rfl) ?_
  refine va_get (ci := 7) (C := RX7) (T := TX7) (N := 11) (v := .ref (a3 0)) hx hb hts i_X7_looked_X7 hown hK hP 0 rfl rfl 2 (by decide) (hts _ m_X7_looked_6a5209) (fun _ h9 => h9) rfl dX7_looked_1 ?_
  refine lv_aload_n hx hb dX7_looked_4 rfl (lv_at hl 0 rfl) ?_
  refine va_get (ci := 7) (C := RX7) (T := TX7) (N := 11) (v := .ref (a1 0)) hx hb hts i_X7_looked_X7 hown hK hP 0 rfl rfl 0 (by decide) (hts _ m_X7_looked_265b14) (fun _ h9 => h9) rfl dX7_looked_5 ?_
  obtain ⟨q8, hc_8, hf⟩ := cl_e hf
  have hm_8 : ∀ q ∈ (wX1 E a3 s3 ++ (wX2 E a1 s1 h1)) ++ sW E.2.1 L, q ∈ (wX7o E a0 a1 a2 a3 a4 a5 a6 a7 a8 a9 s0 ++ (wX2 E a1 s1 h1 ++ (wX2 E a2 s2 h2 ++ (wX1 E a3 s3 ++ (wX2 E a4 s4 h4 ++ (wX1 E a5 s5 ++ (wX5 E a6 s6 ++ (wX3 E a7 s7 ++ (wX0 E a8 s8 ++ (wX6 E a9 s9 t9)))))))))) ++ sW E.2.1 L := (app_mem (sub_mem (suf := []) [15, 16, 17, 18, 19, 20, 21, 22, 1, 2, 3, 4, 5, 6, 7] rfl))
  refine fin_i (E := E) (wc := (wX1 E a3 s3 ++ (wX2 E a1 s1 h1)) ++ sW E.2.1 L) (wc' := (wX1 E a3 s3 ++ (wX2 E a1 s1 h1)) ++ sW E.2.1 L) (va_runVN (As := [.ref (a1 0)]) (rest := []) ⟨hx, hb, hml, hown, hts⟩ (k_X1_firstOtherwise l E a3 a1 L N s3 s1 h1 q8 hc_8 _) ⟨va_cnB 1 hts gX7_looked_X1_firstOtherwise_n244 rfl rfl rfl (hG.1 (.methodLinkNest "PickedMatch" 244 yX1_firstOtherwise "PickedMatch") (by decide +kernel)) (hts _ m_X7_looked_6e074f) (by decide +kernel) ⟨(Nat.le_of_ble_eq_true rfl), (Nat.le_of_ble_eq_true rfl)⟩, (hts _ m_X7_looked_f9a036), (hts _ m_X7_looked_ff5ba3)⟩ (pre_v (ci := 1) (q0 := 0) hK (sub_P hm_8 hP) (sub_Ds (ws := wX7o E a0 a1 a2 a3 a4 a5 a6 a7 a8 a9 s0 ++ (wX2 E a1 s1 h1 ++ (wX2 E a2 s2 h2 ++ (wX1 E a3 s3 ++ (wX2 E a4 s4 h4 ++ (wX1 E a5 s5 ++ (wX5 E a6 s6 ++ (wX3 E a7 s7 ++ (wX0 E a8 s8 ++ (wX6 E a9 s9 t9)))))))))) (wc := wX1 E a3 s3 ++ (wX2 E a1 s1 h1)) (suf := sW E.2.1 L) [15, 16, 17, 18, 19, 20, 21, 22, 1, 2, 3, 4, 5, 6, 7] (by decide) rfl (hDD s0 s1 h1 s2 h2 s3 s4 h4 s5 s6 s7 s8 s9 t9)) hS hG hAB rfl rfl) rfl rfl hl.1 rfl (lv_room (Nat.le_of_ble_eq_true rfl)) dX7_looked_8 ⟨Nat.zero_le _, Nat.zero_le _⟩) hS (w_free (hDD s0 s1 h1 s2 h2 s3 s4 h4 s5 s6 s7 s8 s9 t9) hS hA hm_8) (fun H locs hP1 hk hS => ?_)
  have hP := w_joins (ws' := wX7o E a0 a1 a2 a3 a4 a5 a6 a7 a8 a9 s0 ++ (wX2 E a1 s1 h1 ++ (wX2 E a2 s2 h2 ++ (wX1 E a3 s3 ++ (wX2 E a4 s4 h4 ++ (wX1 E a5 s5 ++ (wX5 E a6 s6 ++ (wX3 E a7 s7 ++ (wX0 E a8 s8 ++ (wX6 E a9 s9 t9)))))))))) (wc := wX1 E a3 s3 ++ (wX2 E a1 s1 h1)) (wc' := wX1 E a3 s3 ++ (wX2 E a1 s1 h1)) hP (hDD s0 s1 h1 s2 h2 s3 s4 h4 s5 s6 s7 s8 s9 t9) [15, 16, 17, 18, 19, 20, 21, 22, 1, 2, 3, 4, 5, 6, 7] rfl [none, some 8, some 9, some 10, some 11, some 12, some 13, some 14, none, none, none, none, none, none, none, some 0, some 1, some 2, some 3, some 4, some 5, some 6, some 7, none, none, none, none, none, none, none, none, none, none, none, none, none, none, none, none, none, none, none, none, none, none, none, none, none, none, none] rfl rfl hk hP1
  have e9 := Option.some.inj hf
  exact rt_i hx hb hr hlocks e9 hP hS dX7_looked_11
abbrev rm_X7_judge : Room := { frames := 1, cells := 0, slots := 0, locals := 22 }
theorem m_X7_judge_265b14 : Cond.fieldLink RX7 12 "PickedMatch" "scene" "LPickedMatch$Scene;" ∈ wsX7_judge := by decide +kernel
theorem i_X7_judge_X7 : ∀ w ∈ wsX70, w ∈ wsX7_judge := fun _ h => List.mem_cons_of_mem _ (List.mem_append_left _ (List.mem_append_left _ (List.mem_append_right _ h)))
theorem i_X7_judge_X2 : ∀ w ∈ wsX20, w ∈ wsX7_judge := fun _ h => List.mem_cons_of_mem _ (List.mem_append_right _ h)
theorem m_X7_judge_12bc67 : Cond.fieldLink RX7 58 "PickedMatch" "tapes" "LPickedMatch$Tapes;" ∈ wsX7_judge := by decide +kernel
theorem i_X7_judge_X6 : ∀ w ∈ wsX60, w ∈ wsX7_judge := fun _ h => List.mem_cons_of_mem _ (List.mem_append_left _ (List.mem_append_right _ h))
theorem m_X7_judge_4512f1 : Cond.initialized RX6 ∈ wsX7_judge := by decide +kernel
theorem m_X7_judge_11f245 : Cond.instanceMethod yX6_itemAt ∈ wsX7_judge := by decide +kernel
theorem m_X7_judge_7af884 : Cond.selects RX6 yX6_itemAt yX6_itemAt ∈ wsX7_judge := by decide +kernel
theorem m_X7_judge_2bff22 : Cond.instanceMethod yX6_hasTape ∈ wsX7_judge := by decide +kernel
theorem m_X7_judge_753aea : Cond.selects RX6 yX6_hasTape yX6_hasTape ∈ wsX7_judge := by decide +kernel
set_option maxHeartbeats 8000000 in
set_option maxRecDepth 100000 in
theorem k_X7_judge (l : Launch) (E : Ev) (a0 : Nat → Nat) (a1 : Nat → Nat) (a2 : Nat → Nat) (a3 : Nat → Nat) (a4 : Nat → Nat) (a5 : Nat → Nat) (a6 : Nat → Nat) (a7 : Nat → Nat) (a8 : Nat → Nat) (a9 : Nat → Nat) (L : List SR) (N : Nat) (s0 : St) (s1 : St) (h1 : Option SR) (s2 : St) (h2 : Option SR) (s3 : St) (s4 : St) (h4 : Option SR) (s5 : St) (s6 : St) (s7 : St) (s8 : St) (s9 : St) (t9 : Nat → Nat → Int64) (p1 : Int32) (p2 : Int32) (q : (Int32)) (hf : f_X7_judge N s1 s9 t9 p1 p2 = some q) : Ci l yX7_judge wsX7_judge rm_X7_judge E [.ref (a0 0), .int p1, .int p2] ((wX7o E a0 a1 a2 a3 a4 a5 a6 a7 a8 a9 s0 ++ (wX2 E a1 s1 h1 ++ (wX2 E a2 s2 h2 ++ (wX1 E a3 s3 ++ (wX2 E a4 s4 h4 ++ (wX1 E a5 s5 ++ (wX5 E a6 s6 ++ (wX3 E a7 s7 ++ (wX0 E a8 s8 ++ (wX6 E a9 s9 t9)))))))))) ++ sW E.2.1 L) ((wX7o E a0 a1 a2 a3 a4 a5 a6 a7 a8 a9 s0 ++ (wX2 E a1 s1 h1 ++ (wX2 E a2 s2 h2 ++ (wX1 E a3 s3 ++ (wX2 E a4 s4 h4 ++ (wX1 E a5 s5 ++ (wX5 E a6 s6 ++ (wX3 E a7 s7 ++ (wX0 E a8 s8 ++ (wX6 E a9 s9 t9)))))))))) ++ sW E.2.1 L) q := by
  unfold f_X7_judge at hf
  intro sz
  refine Met.ofW (cc := cX7_judge) (maxL := 4) (ret := (some .int)) (by decide) rfl ?_
  intro p e s m args below meth c s₁ B hml hpre
  obtain ⟨rfl, hsz, hP, hK, hD0, hG, hA, hAB⟩ := start hpre
  have hx := B.exec
  have hb := B.bytes
  have hr := B.returns
  have hts := atoms_spec (ws := wsX7_judge) B.pre
  have hown : s.vm.findClass RX7 = some m.cls := findClass_of_methodNamed B.named
  have hlocks := B.notSynchronized
  subst hsz
  generalize va_A ((wX7o E a0 a1 a2 a3 a4 a5 a6 a7 a8 a9 s0 ++ (wX2 E a1 s1 h1 ++ (wX2 E a2 s2 h2 ++ (wX1 E a3 s3 ++ (wX2 E a4 s4 h4 ++ (wX1 E a5 s5 ++ (wX5 E a6 s6 ++ (wX3 E a7 s7 ++ (wX0 E a8 s8 ++ (wX6 E a9 s9 t9)))))))))) ++ sW E.2.1 L) s.heap.size = A0 at hD0 hA hAB ⊢
  have hDD : ∀ (s0 : St) (s1 : St) (h1 : Option SR) (s2 : St) (h2 : Option SR) (s3 : St) (s4 : St) (h4 : Option SR) (s5 : St) (s6 : St) (s7 : St) (s8 : St) (s9 : St) (t9 : Nat → Nat → Int64), va_D A0 ((wX7o E a0 a1 a2 a3 a4 a5 a6 a7 a8 a9 s0 ++ (wX2 E a1 s1 h1 ++ (wX2 E a2 s2 h2 ++ (wX1 E a3 s3 ++ (wX2 E a4 s4 h4 ++ (wX1 E a5 s5 ++ (wX5 E a6 s6 ++ (wX3 E a7 s7 ++ (wX0 E a8 s8 ++ (wX6 E a9 s9 t9)))))))))) ++ sW E.2.1 L) := fun s0 s1 h1 s2 h2 s3 s4 h4 s5 s6 s7 s8 s9 t9 => vD_addr hD0 rfl
  have hS : va_S A0 s.heap s.heap [] := va_S.rf
  have hl := lv_entry ([.ref (a0 0), .int p1, .int p2]) (n := 4) (Nat.le_of_ble_eq_true rfl)
  rw [lg_entry_eq]
  generalize (lg_sl ([.ref (a0 0), .int p1, .int p2]) ++ List.replicate (4 - (lg_sl ([.ref (a0 0), .int p1, .int p2])).length) Slot.unset).toArray = ls at hl ⊢
  have hl : lv_has ls 4 [(0, .ref (a0 0)), (1, .int p1), (2, .int p2)] := hl
  have hL_44 : ∀ (s1 : St) (s9 : St) (t9 : Nat → Nat → Int64) (v1 : Int32) (v2 : Int32) (n_44 : Nat) (v3 : Int32), l_X7_judge_44 N s1 s9 t9 v1 v2 n_44 v3 = some q → ∀ (H : Heap) (locs : List Loc) (ls : Array Slot), va_P E.1 vwCl ((wX7o E a0 a1 a2 a3 a4 a5 a6 a7 a8 a9 s0 ++ (wX2 E a1 s1 h1 ++ (wX2 E a2 s2 h2 ++ (wX1 E a3 s3 ++ (wX2 E a4 s4 h4 ++ (wX1 E a5 s5 ++ (wX5 E a6 s6 ++ (wX3 E a7 s7 ++ (wX0 E a8 s8 ++ (wX6 E a9 s9 t9)))))))))) ++ sW E.2.1 L) H → va_S A0 s.heap H locs → lv_has ls 4 [(0, .ref (a0 0)), (1, .int v1), (2, .int v2), (3, .int v3)] → W p l e rm_X7_judge s m ([.ref (a0 0), .int p1, .int p2] : List Value).toArray below meth c H locs 0 0 (MQ below (va_Qi (fun (r' : Int32) (_ : Unit) => r' = q) (fun _ t => va_P E.1 vwCl ((wX7o E a0 a1 a2 a3 a4 a5 a6 a7 a8 a9 s0 ++ (wX2 E a1 s1 h1 ++ (wX2 E a2 s2 h2 ++ (wX1 E a3 s3 ++ (wX2 E a4 s4 h4 ++ (wX1 E a5 s5 ++ (wX5 E a6 s6 ++ (wX3 E a7 s7 ++ (wX0 E a8 s8 ++ (wX6 E a9 s9 t9)))))))))) ++ sW E.2.1 L) t.heap) A0) ([.ref (a0 0), .int p1, .int p2] : List Value).toArray s 0 0 A0) (F0 m 44 ls []) := by
    intro s1 s9 t9 v1 v2 n_44
    induction n_44 with
    | zero => intro v3 hf; rw [l_X7_judge_44] at hf; cases hf
    | succ n_44 ih_44 =>
      intro v3 hf H locs ls hP hS hl
      rw [l_X7_judge_44] at hf
      refine lv_iload_n hx hb dX7_judge_44 rfl (lv_at hl 3 rfl) ?_
      refine lv_aload_n hx hb dX7_judge_45 rfl (lv_at hl 0 rfl) ?_
      refine va_get (ci := 7) (C := RX7) (T := TX7) (N := 11) (v := .ref (a1 0)) hx hb hts i_X7_judge_X7 hown hK hP 0 rfl rfl 0 (by decide) (hts _ m_X7_judge_265b14) (fun _ h9 => h9) rfl dX7_judge_46 ?_
      refine va_getN (ci := 2) (C := RX2) (T := TX2) (N := 11) (v := .int (s1 0 0)) hx hb hts i_X7_judge_X2 hown hK hP 1 rfl rfl 0 (by decide) (nwG hG (w := .fieldLinkNest "PickedMatch" 66 "PickedMatch$Scene" "things" "I" "PickedMatch") (by decide +kernel)) (fun _ h9 => h9) rfl dX7_judge_49 ?_
      refine lv_icmp_ge (tgt := 112) hx hb dX7_judge_52 (by decide) (fun c_52 => ?_) (fun c_52 => ?_)
      · have hf := ite_t c_52 hf
        refine lv_bipush (v := (-5)) hx hb dX7_judge_112 (by decide) ?_
        have e9 := Option.some.inj hf
        exact rt_i hx hb hr hlocks e9 hP hS dX7_judge_114
      · have hf := ite_f c_52 hf
        refine lv_iload_n hx hb dX7_judge_55 rfl (lv_at hl 2 rfl) ?_
        refine lv_if_lt (tgt := 74) hx hb dX7_judge_56 (by decide) (fun c_56 => ?_) (fun c_56 => ?_)
        · have hf := ite_t c_56 hf
          refine lv_bipush (v := 100) hx hb dX7_judge_74 (by decide) ?_
          refine lv_iload_n hx hb dX7_judge_76 rfl (lv_at hl 3 rfl) ?_
          refine lv_iadd hx hb dX7_judge_77 ?_
          have e9 := Option.some.inj hf
          exact rt_i hx hb hr hlocks e9 hP hS dX7_judge_78
        · have hf := ite_f c_56 hf
          refine lv_iload_n hx hb dX7_judge_59 rfl (lv_at hl 2 rfl) ?_
          refine lv_aload_n hx hb dX7_judge_60 rfl (lv_at hl 0 rfl) ?_
          refine va_get (ci := 7) (C := RX7) (T := TX7) (N := 11) (v := .ref (a9 0)) hx hb hts i_X7_judge_X7 hown hK hP 0 rfl rfl 10 (by decide) (hts _ m_X7_judge_12bc67) (fun _ h9 => h9) rfl dX7_judge_61 ?_
          refine va_getN (ci := 6) (C := RX6) (T := TX6) (N := 3) (v := .ref (a9 2)) hx hb hts i_X7_judge_X6 hown hK hP 46 rfl rfl 1 (by decide) (nwG hG (w := .fieldLinkNest "PickedMatch" 253 "PickedMatch$Tapes" "lengths" "[I" "PickedMatch") (by decide +kernel)) (fun _ h9 => h9) rfl dX7_judge_64 ?_
          refine lv_iload_n hx hb dX7_judge_67 rfl (lv_at hl 1 rfl) ?_
          obtain ⟨h_68, hf⟩ := ck_e hf
          refine va_iald (cA := E.2.1) (n := 6) (f := s9 1) hx hb hK hP 48 0 rfl rfl h_68 dX7_judge_68 ?_
          refine lv_iload_n hx hb dX7_judge_69 rfl (lv_at hl 3 rfl) ?_
          refine lv_isub hx hb dX7_judge_70 ?_
          refine lv_icmp_lt (tgt := 79) hx hb dX7_judge_71 (by decide) (fun c_71 => ?_) (fun c_71 => ?_)
          · have hf := ite_t c_71 hf
            refine lv_aload_n hx hb dX7_judge_79 rfl (lv_at hl 0 rfl) ?_
            refine va_get (ci := 7) (C := RX7) (T := TX7) (N := 11) (v := .ref (a9 0)) hx hb hts i_X7_judge_X7 hown hK hP 0 rfl rfl 10 (by decide) (hts _ m_X7_judge_12bc67) (fun _ h9 => h9) rfl dX7_judge_80 ?_
            refine lv_iload_n hx hb dX7_judge_83 rfl (lv_at hl 1 rfl) ?_
            refine lv_iload_n hx hb dX7_judge_84 rfl (lv_at hl 2 rfl) ?_
            refine lv_iload_n hx hb dX7_judge_85 rfl (lv_at hl 3 rfl) ?_
            refine lv_iadd hx hb dX7_judge_86 ?_
            obtain ⟨q87, hc_87, hf⟩ := cl_e hf
            have hm_87 : ∀ q ∈ wX6 E a9 s9 t9, q ∈ (wX7o E a0 a1 a2 a3 a4 a5 a6 a7 a8 a9 s0 ++ (wX2 E a1 s1 h1 ++ (wX2 E a2 s2 h2 ++ (wX1 E a3 s3 ++ (wX2 E a4 s4 h4 ++ (wX1 E a5 s5 ++ (wX5 E a6 s6 ++ (wX3 E a7 s7 ++ (wX0 E a8 s8 ++ (wX6 E a9 s9 t9)))))))))) ++ sW E.2.1 L := (inl_mem (sub_mem (suf := []) [46, 47, 48, 49] rfl))
            refine fin_l (E := E) (wc := wX6 E a9 s9 t9) (wc' := wX6 E a9 s9 t9) (va_runVN (As := [.int v1, .int (v2 + v3)]) (rest := []) ⟨hx, hb, hml, hown, hts⟩ (k_X6_itemAt l E a9 N s9 t9 v1 (v2 + v3) q87 hc_87 _) ⟨va_cnB 2 hts gX7_judge_X6_itemAt_n256 rfl rfl rfl (hG.1 (.methodLinkNest "PickedMatch" 256 yX6_itemAt "PickedMatch") (by decide +kernel)) (hts _ m_X7_judge_4512f1) (by decide +kernel) ⟨(Nat.le_of_ble_eq_true rfl), (Nat.le_of_ble_eq_true rfl)⟩, (hts _ m_X7_judge_11f245), (hts _ m_X7_judge_7af884)⟩ (pre_v (ci := 6) (q0 := 0) hK (sub_P hm_87 hP) (sub_Dn (ws := wX7o E a0 a1 a2 a3 a4 a5 a6 a7 a8 a9 s0 ++ (wX2 E a1 s1 h1 ++ (wX2 E a2 s2 h2 ++ (wX1 E a3 s3 ++ (wX2 E a4 s4 h4 ++ (wX1 E a5 s5 ++ (wX5 E a6 s6 ++ (wX3 E a7 s7 ++ (wX0 E a8 s8 ++ (wX6 E a9 s9 t9)))))))))) (wc := wX6 E a9 s9 t9) (suf := sW E.2.1 L) [46, 47, 48, 49] (by decide) rfl (hDD s0 s1 h1 s2 h2 s3 s4 h4 s5 s6 s7 s8 s9 t9)) hS hG hAB rfl rfl) rfl rfl hl.1 rfl (lv_room (Nat.le_of_ble_eq_true rfl)) dX7_judge_87 ⟨Nat.zero_le _, Nat.zero_le _⟩) hS (w_free (hDD s0 s1 h1 s2 h2 s3 s4 h4 s5 s6 s7 s8 s9 t9) hS hA hm_87) (fun H locs hP1 hk hS => ?_)
            have hP := w_join (ws' := wX7o E a0 a1 a2 a3 a4 a5 a6 a7 a8 a9 s0 ++ (wX2 E a1 s1 h1 ++ (wX2 E a2 s2 h2 ++ (wX1 E a3 s3 ++ (wX2 E a4 s4 h4 ++ (wX1 E a5 s5 ++ (wX5 E a6 s6 ++ (wX3 E a7 s7 ++ (wX0 E a8 s8 ++ (wX6 E a9 s9 t9)))))))))) (wc := wX6 E a9 s9 t9) (wc' := wX6 E a9 s9 t9) hP (hDD s0 s1 h1 s2 h2 s3 s4 h4 s5 s6 s7 s8 s9 t9) [46, 47, 48, 49] rfl [none, none, none, none, none, none, none, none, none, none, none, none, none, none, none, none, none, none, none, none, none, none, none, none, none, none, none, none, none, none, none, none, none, none, none, none, none, none, none, none, none, none, none, none, none, none, some 0, some 1, some 2, some 3] rfl rfl hk hP1
            refine lv_aload_n hx hb dX7_judge_90 rfl (lv_at hl 0 rfl) ?_
            refine va_get (ci := 7) (C := RX7) (T := TX7) (N := 11) (v := .ref (a1 0)) hx hb hts i_X7_judge_X7 hown hK hP 0 rfl rfl 0 (by decide) (hts _ m_X7_judge_265b14) (fun _ h9 => h9) rfl dX7_judge_91 ?_
            refine va_getN (ci := 2) (C := RX2) (T := TX2) (N := 11) (v := .ref (a1 3)) hx hb hts i_X7_judge_X2 hown hK hP 1 rfl rfl 3 (by decide) (nwG hG (w := .fieldLinkNest "PickedMatch" 85 "PickedMatch$Scene" "marks" "[I" "PickedMatch") (by decide +kernel)) (fun _ h9 => h9) rfl dX7_judge_94 ?_
            refine lv_iload_n hx hb dX7_judge_97 rfl (lv_at hl 3 rfl) ?_
            obtain ⟨h_98, hf⟩ := ck_e hf
            refine va_iald (cA := E.2.1) (n := 6) (f := s1 3) hx hb hK hP 4 0 rfl rfl h_98 dX7_judge_98 ?_
            refine lv_i2l (v := (s1 3 v3.toNatClampNeg).toInt64) hx hb dX7_judge_99 rfl ?_
            refine W.lcmp hx hb dX7_judge_100 ?_
            refine lv_if_eq (tgt := 106) hx hb dX7_judge_101 (by decide) (fun c_101 => ?_) (fun c_101 => ?_)
            · have hf := ite_t c_101 hf
              obtain ⟨x106, e_x106⟩ : ∃ y : Int32, y = v3 + 1 := ⟨_, rfl⟩
              have hf := nm_q e_x106 hf
              refine lv_iinc (v := x106) (lv' := [(3, .int x106), (0, .ref (a0 0)), (1, .int v1), (2, .int v2)]) hx hb dX7_judge_106 hl (k := 3) rfl (by rw [e_x106]; rfl) (Nat.le_of_ble_eq_true rfl) rfl (fun ls hl => ?_)
              refine lv_goto (tgt := 44) hx hb dX7_judge_109 (by decide) ?_
              exact ih_44 x106 hf _ _ _ hP hS (lv_sub hl [1, 2, 3, 0] rfl)
            · have hf := ite_f c_101 hf
              refine lv_iload_n hx hb dX7_judge_104 rfl (lv_at hl 3 rfl) ?_
              have e9 := Option.some.inj hf
              exact rt_i hx hb hr hlocks e9 hP hS dX7_judge_105
          · have hf := ite_f c_71 hf
            refine lv_bipush (v := 100) hx hb dX7_judge_74 (by decide) ?_
            refine lv_iload_n hx hb dX7_judge_76 rfl (lv_at hl 3 rfl) ?_
            refine lv_iadd hx hb dX7_judge_77 ?_
            have e9 := Option.some.inj hf
            exact rt_i hx hb hr hlocks e9 hP hS dX7_judge_78
  refine lv_aload_n hx hb dX7_judge_0 rfl (lv_at hl 0 rfl) ?_
  refine va_get (ci := 7) (C := RX7) (T := TX7) (N := 11) (v := .ref (a9 0)) hx hb hts i_X7_judge_X7 hown hK hP 0 rfl rfl 10 (by decide) (hts _ m_X7_judge_12bc67) (fun _ h9 => h9) rfl dX7_judge_1 ?_
  refine lv_iload_n hx hb dX7_judge_4 rfl (lv_at hl 1 rfl) ?_
  obtain ⟨q5, hc_5, hf⟩ := cl_e hf
  have hm_5 : ∀ q ∈ wX6 E a9 s9 t9, q ∈ (wX7o E a0 a1 a2 a3 a4 a5 a6 a7 a8 a9 s0 ++ (wX2 E a1 s1 h1 ++ (wX2 E a2 s2 h2 ++ (wX1 E a3 s3 ++ (wX2 E a4 s4 h4 ++ (wX1 E a5 s5 ++ (wX5 E a6 s6 ++ (wX3 E a7 s7 ++ (wX0 E a8 s8 ++ (wX6 E a9 s9 t9)))))))))) ++ sW E.2.1 L := (inl_mem (sub_mem (suf := []) [46, 47, 48, 49] rfl))
  refine fin_i (E := E) (wc := wX6 E a9 s9 t9) (wc' := wX6 E a9 s9 t9) (va_runVN (As := [.int p1]) (rest := []) ⟨hx, hb, hml, hown, hts⟩ (k_X6_hasTape l E a9 N s9 t9 p1 q5 hc_5 _) ⟨va_cnB 1 hts gX7_judge_X6_hasTape_n247 rfl rfl rfl (hG.1 (.methodLinkNest "PickedMatch" 247 yX6_hasTape "PickedMatch") (by decide +kernel)) (hts _ m_X7_judge_4512f1) (by decide +kernel) ⟨(Nat.le_of_ble_eq_true rfl), (Nat.le_of_ble_eq_true rfl)⟩, (hts _ m_X7_judge_2bff22), (hts _ m_X7_judge_753aea)⟩ (pre_v (ci := 6) (q0 := 0) hK (sub_P hm_5 hP) (sub_Dn (ws := wX7o E a0 a1 a2 a3 a4 a5 a6 a7 a8 a9 s0 ++ (wX2 E a1 s1 h1 ++ (wX2 E a2 s2 h2 ++ (wX1 E a3 s3 ++ (wX2 E a4 s4 h4 ++ (wX1 E a5 s5 ++ (wX5 E a6 s6 ++ (wX3 E a7 s7 ++ (wX0 E a8 s8 ++ (wX6 E a9 s9 t9)))))))))) (wc := wX6 E a9 s9 t9) (suf := sW E.2.1 L) [46, 47, 48, 49] (by decide) rfl (hDD s0 s1 h1 s2 h2 s3 s4 h4 s5 s6 s7 s8 s9 t9)) hS hG hAB rfl rfl) rfl rfl hl.1 rfl (lv_room (Nat.le_of_ble_eq_true rfl)) dX7_judge_5 ⟨Nat.zero_le _, Nat.zero_le _⟩) hS (w_free (hDD s0 s1 h1 s2 h2 s3 s4 h4 s5 s6 s7 s8 s9 t9) hS hA hm_5) (fun H locs hP1 hk hS => ?_)
  have hP := w_join (ws' := wX7o E a0 a1 a2 a3 a4 a5 a6 a7 a8 a9 s0 ++ (wX2 E a1 s1 h1 ++ (wX2 E a2 s2 h2 ++ (wX1 E a3 s3 ++ (wX2 E a4 s4 h4 ++ (wX1 E a5 s5 ++ (wX5 E a6 s6 ++ (wX3 E a7 s7 ++ (wX0 E a8 s8 ++ (wX6 E a9 s9 t9)))))))))) (wc := wX6 E a9 s9 t9) (wc' := wX6 E a9 s9 t9) hP (hDD s0 s1 h1 s2 h2 s3 s4 h4 s5 s6 s7 s8 s9 t9) [46, 47, 48, 49] rfl [none, none, none, none, none, none, none, none, none, none, none, none, none, none, none, none, none, none, none, none, none, none, none, none, none, none, none, none, none, none, none, none, none, none, none, none, none, none, none, none, none, none, none, none, none, none, some 0, some 1, some 2, some 3] rfl rfl hk hP1
  refine lv_if_ne (tgt := 13) hx hb dX7_judge_8 (by decide) (fun c_8 => ?_) (fun c_8 => ?_)
  · have hf := ite_f c_8 hf
    refine lv_aload_n hx hb dX7_judge_13 rfl (lv_at hl 0 rfl) ?_
    refine va_get (ci := 7) (C := RX7) (T := TX7) (N := 11) (v := .ref (a9 0)) hx hb hts i_X7_judge_X7 hown hK hP 0 rfl rfl 10 (by decide) (hts _ m_X7_judge_12bc67) (fun _ h9 => h9) rfl dX7_judge_14 ?_
    refine va_getN (ci := 6) (C := RX6) (T := TX6) (N := 3) (v := .ref (a9 1)) hx hb hts i_X7_judge_X6 hown hK hP 46 rfl rfl 0 (by decide) (nwG hG (w := .fieldLinkNest "PickedMatch" 250 "PickedMatch$Tapes" "sorts" "[I" "PickedMatch") (by decide +kernel)) (fun _ h9 => h9) rfl dX7_judge_17 ?_
    refine lv_iload_n hx hb dX7_judge_20 rfl (lv_at hl 1 rfl) ?_
    obtain ⟨h_21, hf⟩ := ck_e hf
    refine va_iald (cA := E.2.1) (n := 6) (f := s9 0) hx hb hK hP 47 0 rfl rfl h_21 dX7_judge_21 ?_
    refine lv_iconst (v := 1) hx hb dX7_judge_22 (by decide) ?_
    refine lv_icmp_eq (tgt := 42) hx hb dX7_judge_23 (by decide) (fun c_23 => ?_) (fun c_23 => ?_)
    · have hf := ite_t c_23 hf
      refine lv_iconst (v := 0) hx hb dX7_judge_42 (by decide) ?_
      refine lv_istore_n (lv' := [(3, .int 0), (0, .ref (a0 0)), (1, .int p1), (2, .int p2)]) hx hb dX7_judge_43 rfl hl (Nat.le_of_ble_eq_true rfl) rfl (fun ls hl => ?_)
      exact hL_44 s1 s9 t9 p1 p2 N 0 hf _ _ _ hP hS (lv_sub hl [1, 2, 3, 0] rfl)
    · have hf := ite_f c_23 hf
      refine lv_aload_n hx hb dX7_judge_26 rfl (lv_at hl 0 rfl) ?_
      refine va_get (ci := 7) (C := RX7) (T := TX7) (N := 11) (v := .ref (a9 0)) hx hb hts i_X7_judge_X7 hown hK hP 0 rfl rfl 10 (by decide) (hts _ m_X7_judge_12bc67) (fun _ h9 => h9) rfl dX7_judge_27 ?_
      refine va_getN (ci := 6) (C := RX6) (T := TX6) (N := 3) (v := .ref (a9 1)) hx hb hts i_X7_judge_X6 hown hK hP 46 rfl rfl 0 (by decide) (nwG hG (w := .fieldLinkNest "PickedMatch" 250 "PickedMatch$Tapes" "sorts" "[I" "PickedMatch") (by decide +kernel)) (fun _ h9 => h9) rfl dX7_judge_30 ?_
      refine lv_iload_n hx hb dX7_judge_33 rfl (lv_at hl 1 rfl) ?_
      obtain ⟨h_34, hf⟩ := ck_e hf
      refine va_iald (cA := E.2.1) (n := 6) (f := s9 0) hx hb hK hP 47 0 rfl rfl h_34 dX7_judge_34 ?_
      refine lv_iconst (v := (-1)) hx hb dX7_judge_35 (by decide) ?_
      refine lv_icmp_eq (tgt := 42) hx hb dX7_judge_36 (by decide) (fun c_36 => ?_) (fun c_36 => ?_)
      · have hf := ite_t c_36 hf
        refine lv_iconst (v := 0) hx hb dX7_judge_42 (by decide) ?_
        refine lv_istore_n (lv' := [(3, .int 0), (0, .ref (a0 0)), (1, .int p1), (2, .int p2)]) hx hb dX7_judge_43 rfl hl (Nat.le_of_ble_eq_true rfl) rfl (fun ls hl => ?_)
        exact hL_44 s1 s9 t9 p1 p2 N 0 hf _ _ _ hP hS (lv_sub hl [1, 2, 3, 0] rfl)
      · have hf := ite_f c_36 hf
        refine lv_bipush (v := (-12)) hx hb dX7_judge_39 (by decide) ?_
        have e9 := Option.some.inj hf
        exact rt_i hx hb hr hlocks e9 hP hS dX7_judge_41
  · have hf := ite_t c_8 hf
    refine lv_iconst (v := (-1)) hx hb dX7_judge_11 (by decide) ?_
    have e9 := Option.some.inj hf
    exact rt_i hx hb hr hlocks e9 hP hS dX7_judge_12
abbrev rm_X7_image : Room := { frames := 2, cells := 0, slots := 0, locals := 81 }
theorem m_X7_image_ab2d9f : Cond.fieldLink RX7 28 "PickedMatch" "keptScene" "LPickedMatch$Scene;" ∈ wsX7_image := by decide +kernel
theorem i_X7_image_X7 : ∀ w ∈ wsX70, w ∈ wsX7_image := fun _ h => List.mem_cons_of_mem _ (List.mem_append_left _ (List.mem_append_left _ (List.mem_append_right _ h)))
theorem m_X7_image_265b14 : Cond.fieldLink RX7 12 "PickedMatch" "scene" "LPickedMatch$Scene;" ∈ wsX7_image := by decide +kernel
theorem m_X7_image_4cf9d8 : Cond.initialized RX2 ∈ wsX7_image := by decide +kernel
theorem m_X7_image_c21ce8 : Cond.instanceMethod yX2_becomeAs ∈ wsX7_image := by decide +kernel
theorem m_X7_image_986579 : Cond.selects RX2 yX2_becomeAs yX2_becomeAs ∈ wsX7_image := by decide +kernel
theorem m_X7_image_10f301 : Cond.fieldLink RX7 31 "PickedMatch" "keptNotes" "LPickedMatch$Notes;" ∈ wsX7_image := by decide +kernel
theorem m_X7_image_6a5209 : Cond.fieldLink RX7 24 "PickedMatch" "notes" "LPickedMatch$Notes;" ∈ wsX7_image := by decide +kernel
theorem m_X7_image_6e074f : Cond.initialized RX1 ∈ wsX7_image := by decide +kernel
theorem m_X7_image_a441df : Cond.instanceMethod yX1_becomeAs ∈ wsX7_image := by decide +kernel
theorem m_X7_image_4839ca : Cond.selects RX1 yX1_becomeAs yX1_becomeAs ∈ wsX7_image := by decide +kernel
theorem m_X7_image_9620bc : Cond.fieldLink RX7 263 "PickedMatch" "isKept" "Z" ∈ wsX7_image := by decide +kernel
theorem i_X7_image_X2 : ∀ w ∈ wsX20, w ∈ wsX7_image := fun _ h => List.mem_cons_of_mem _ (List.mem_append_left _ (List.mem_append_right _ h))
set_option maxHeartbeats 8000000 in
set_option maxRecDepth 100000 in
theorem k_X7_image (l : Launch) (E : Ev) (a0 : Nat → Nat) (a1 : Nat → Nat) (a2 : Nat → Nat) (a3 : Nat → Nat) (a4 : Nat → Nat) (a5 : Nat → Nat) (a6 : Nat → Nat) (a7 : Nat → Nat) (a8 : Nat → Nat) (a9 : Nat → Nat) (L : List SR) (N : Nat) (s0 : St) (s1 : St) (h1 : Option SR) (s2 : St) (h2 : Option SR) (s3 : St) (s4 : St) (h4 : Option SR) (s5 : St) (s6 : St) (s7 : St) (s8 : St) (s9 : St) (t9 : Nat → Nat → Int64) (q : (Int32 × St × St × (Option SR) × St)) (hf : f_X7_image N s0 s1 h1 s3 s4 h4 s5 = some q) : Ci l yX7_image wsX7_image rm_X7_image E [.ref (a0 0)] ((wX7o E a0 a1 a2 a3 a4 a5 a6 a7 a8 a9 s0 ++ (wX2 E a1 s1 h1 ++ (wX2 E a2 s2 h2 ++ (wX1 E a3 s3 ++ (wX2 E a4 s4 h4 ++ (wX1 E a5 s5 ++ (wX5 E a6 s6 ++ (wX3 E a7 s7 ++ (wX0 E a8 s8 ++ (wX6 E a9 s9 t9)))))))))) ++ sW E.2.1 L) ((wX7o E a0 a1 a2 a3 a4 a5 a6 a7 a8 a9 q.2.1 ++ (wX2 E a1 s1 h1 ++ (wX2 E a2 s2 h2 ++ (wX1 E a3 s3 ++ (wX2 E a4 q.2.2.1 q.2.2.2.1 ++ (wX1 E a5 q.2.2.2.2 ++ (wX5 E a6 s6 ++ (wX3 E a7 s7 ++ (wX0 E a8 s8 ++ (wX6 E a9 s9 t9)))))))))) ++ sW E.2.1 L) q.1 := by
  unfold f_X7_image at hf
  intro sz
  refine Met.ofW (cc := cX7_image) (maxL := 1) (ret := (some .int)) (by decide) rfl ?_
  intro p e s m args below meth c s₁ B hml hpre
  obtain ⟨rfl, hsz, hP, hK, hD0, hG, hA, hAB⟩ := start hpre
  have hx := B.exec
  have hb := B.bytes
  have hr := B.returns
  have hts := atoms_spec (ws := wsX7_image) B.pre
  have hown : s.vm.findClass RX7 = some m.cls := findClass_of_methodNamed B.named
  have hlocks := B.notSynchronized
  subst hsz
  generalize va_A ((wX7o E a0 a1 a2 a3 a4 a5 a6 a7 a8 a9 s0 ++ (wX2 E a1 s1 h1 ++ (wX2 E a2 s2 h2 ++ (wX1 E a3 s3 ++ (wX2 E a4 s4 h4 ++ (wX1 E a5 s5 ++ (wX5 E a6 s6 ++ (wX3 E a7 s7 ++ (wX0 E a8 s8 ++ (wX6 E a9 s9 t9)))))))))) ++ sW E.2.1 L) s.heap.size = A0 at hD0 hA hAB ⊢
  have hDD : ∀ (s0 : St) (s1 : St) (h1 : Option SR) (s2 : St) (h2 : Option SR) (s3 : St) (s4 : St) (h4 : Option SR) (s5 : St) (s6 : St) (s7 : St) (s8 : St) (s9 : St) (t9 : Nat → Nat → Int64), va_D A0 ((wX7o E a0 a1 a2 a3 a4 a5 a6 a7 a8 a9 s0 ++ (wX2 E a1 s1 h1 ++ (wX2 E a2 s2 h2 ++ (wX1 E a3 s3 ++ (wX2 E a4 s4 h4 ++ (wX1 E a5 s5 ++ (wX5 E a6 s6 ++ (wX3 E a7 s7 ++ (wX0 E a8 s8 ++ (wX6 E a9 s9 t9)))))))))) ++ sW E.2.1 L) := fun s0 s1 h1 s2 h2 s3 s4 h4 s5 s6 s7 s8 s9 t9 => vD_addr hD0 rfl
  have hS : va_S A0 s.heap s.heap [] := va_S.rf
  have hl := lv_entry ([.ref (a0 0)]) (n := 1) (Nat.le_of_ble_eq_true rfl)
  rw [lg_entry_eq]
  generalize (lg_sl ([.ref (a0 0)]) ++ List.replicate (1 - (lg_sl ([.ref (a0 0)])).length) Slot.unset).toArray = ls at hl ⊢
  have hl : lv_has ls 1 [(0, .ref (a0 0))] := hl
  refine lv_aload_n hx hb dX7_image_0 rfl (lv_at hl 0 rfl) ?_
  refine va_get (ci := 7) (C := RX7) (T := TX7) (N := 11) (v := .ref (a4 0)) hx hb hts i_X7_image_X7 hown hK hP 0 rfl rfl 3 (by decide) (hts _ m_X7_image_ab2d9f) (fun _ h9 => h9) rfl dX7_image_1 ?_
  refine lv_aload_n hx hb dX7_image_4 rfl (lv_at hl 0 rfl) ?_
  refine va_get (ci := 7) (C := RX7) (T := TX7) (N := 11) (v := .ref (a1 0)) hx hb hts i_X7_image_X7 hown hK hP 0 rfl rfl 0 (by decide) (hts _ m_X7_image_265b14) (fun _ h9 => h9) rfl dX7_image_5 ?_
  obtain ⟨q8, hc_8, hf⟩ := cl_e hf
  have hm_8 : ∀ q ∈ (wX2 E a4 s4 h4 ++ (wX2 E a1 s1 h1)) ++ sW E.2.1 L, q ∈ (wX7o E a0 a1 a2 a3 a4 a5 a6 a7 a8 a9 s0 ++ (wX2 E a1 s1 h1 ++ (wX2 E a2 s2 h2 ++ (wX1 E a3 s3 ++ (wX2 E a4 s4 h4 ++ (wX1 E a5 s5 ++ (wX5 E a6 s6 ++ (wX3 E a7 s7 ++ (wX0 E a8 s8 ++ (wX6 E a9 s9 t9)))))))))) ++ sW E.2.1 L := (app_mem (sub_mem (suf := []) [23, 24, 25, 26, 27, 28, 29, 1, 2, 3, 4, 5, 6, 7] rfl))
  refine fin_v (E := E) (wc := (wX2 E a4 s4 h4 ++ (wX2 E a1 s1 h1)) ++ sW E.2.1 L) (wc' := (wX2 E a4 q8.1 q8.2 ++ (wX2 E a1 s1 h1)) ++ sW E.2.1 L) (va_runVN (As := [.ref (a1 0)]) (rest := []) ⟨hx, hb, hml, hown, hts⟩ (k_X2_becomeAs l E a4 a1 L N s4 h4 s1 h1 q8 hc_8 _) ⟨va_cnB 1 hts gX7_image_X2_becomeAs_n179 rfl rfl rfl (hG.1 (.methodLinkNest "PickedMatch" 179 yX2_becomeAs "PickedMatch") (by decide +kernel)) (hts _ m_X7_image_4cf9d8) (by decide +kernel) ⟨(Nat.le_of_ble_eq_true rfl), (Nat.le_of_ble_eq_true rfl)⟩, (hts _ m_X7_image_c21ce8), (hts _ m_X7_image_986579)⟩ (pre_v (ci := 2) (q0 := 0) hK (sub_P hm_8 hP) (sub_Ds (ws := wX7o E a0 a1 a2 a3 a4 a5 a6 a7 a8 a9 s0 ++ (wX2 E a1 s1 h1 ++ (wX2 E a2 s2 h2 ++ (wX1 E a3 s3 ++ (wX2 E a4 s4 h4 ++ (wX1 E a5 s5 ++ (wX5 E a6 s6 ++ (wX3 E a7 s7 ++ (wX0 E a8 s8 ++ (wX6 E a9 s9 t9)))))))))) (wc := wX2 E a4 s4 h4 ++ (wX2 E a1 s1 h1)) (suf := sW E.2.1 L) [23, 24, 25, 26, 27, 28, 29, 1, 2, 3, 4, 5, 6, 7] (by decide) rfl (hDD s0 s1 h1 s2 h2 s3 s4 h4 s5 s6 s7 s8 s9 t9)) hS hG hAB rfl rfl) rfl rfl hl.1 rfl (lv_room (Nat.le_of_ble_eq_true rfl)) dX7_image_8 ⟨Nat.zero_le _, Nat.zero_le _⟩) hS (w_free (hDD s0 s1 h1 s2 h2 s3 s4 h4 s5 s6 s7 s8 s9 t9) hS hA hm_8) (fun H locs hP1 hk hS => ?_)
  have hP := w_joins (ws' := wX7o E a0 a1 a2 a3 a4 a5 a6 a7 a8 a9 s0 ++ (wX2 E a1 s1 h1 ++ (wX2 E a2 s2 h2 ++ (wX1 E a3 s3 ++ (wX2 E a4 q8.1 q8.2 ++ (wX1 E a5 s5 ++ (wX5 E a6 s6 ++ (wX3 E a7 s7 ++ (wX0 E a8 s8 ++ (wX6 E a9 s9 t9)))))))))) (wc := wX2 E a4 s4 h4 ++ (wX2 E a1 s1 h1)) (wc' := wX2 E a4 q8.1 q8.2 ++ (wX2 E a1 s1 h1)) hP (hDD s0 s1 h1 s2 h2 s3 s4 h4 s5 s6 s7 s8 s9 t9) [23, 24, 25, 26, 27, 28, 29, 1, 2, 3, 4, 5, 6, 7] rfl [none, some 7, some 8, some 9, some 10, some 11, some 12, some 13, none, none, none, none, none, none, none, none, none, none, none, none, none, none, none, some 0, some 1, some 2, some 3, some 4, some 5, some 6, none, none, none, none, none, none, none, none, none, none, none, none, none, none, none, none, none, none, none, none] rfl rfl hk hP1
  refine lv_aload_n hx hb dX7_image_11 rfl (lv_at hl 0 rfl) ?_
  refine va_get (ci := 7) (C := RX7) (T := TX7) (N := 11) (v := .ref (a5 0)) hx hb hts i_X7_image_X7 hown hK hP 0 rfl rfl 4 (by decide) (hts _ m_X7_image_10f301) (fun _ h9 => h9) rfl dX7_image_12 ?_
  refine lv_aload_n hx hb dX7_image_15 rfl (lv_at hl 0 rfl) ?_
  refine va_get (ci := 7) (C := RX7) (T := TX7) (N := 11) (v := .ref (a3 0)) hx hb hts i_X7_image_X7 hown hK hP 0 rfl rfl 2 (by decide) (hts _ m_X7_image_6a5209) (fun _ h9 => h9) rfl dX7_image_16 ?_
  obtain ⟨q19, hc_19, hf⟩ := cl_e hf
  have hm_19 : ∀ q ∈ wX1 E a5 s5 ++ (wX1 E a3 s3), q ∈ (wX7o E a0 a1 a2 a3 a4 a5 a6 a7 a8 a9 s0 ++ (wX2 E a1 s1 h1 ++ (wX2 E a2 s2 h2 ++ (wX1 E a3 s3 ++ (wX2 E a4 q8.1 q8.2 ++ (wX1 E a5 s5 ++ (wX5 E a6 s6 ++ (wX3 E a7 s7 ++ (wX0 E a8 s8 ++ (wX6 E a9 s9 t9)))))))))) ++ sW E.2.1 L := (inl_mem (sub_mem (suf := []) [30, 31, 32, 33, 34, 35, 36, 37, 15, 16, 17, 18, 19, 20, 21, 22] rfl))
  refine fin_v (E := E) (wc := wX1 E a5 s5 ++ (wX1 E a3 s3)) (wc' := wX1 E a5 q19 ++ (wX1 E a3 s3)) (va_runVN (As := [.ref (a3 0)]) (rest := []) ⟨hx, hb, hml, hown, hts⟩ (k_X1_becomeAs l E a5 a3 N s5 s3 q19 hc_19 _) ⟨va_cnB 1 hts gX7_image_X1_becomeAs_n260 rfl rfl rfl (hG.1 (.methodLinkNest "PickedMatch" 260 yX1_becomeAs "PickedMatch") (by decide +kernel)) (hts _ m_X7_image_6e074f) (by decide +kernel) ⟨(Nat.le_of_ble_eq_true rfl), (Nat.le_of_ble_eq_true rfl)⟩, (hts _ m_X7_image_a441df), (hts _ m_X7_image_4839ca)⟩ (pre_v (ci := 1) (q0 := 0) hK (sub_P hm_19 hP) (sub_Dn (ws := wX7o E a0 a1 a2 a3 a4 a5 a6 a7 a8 a9 s0 ++ (wX2 E a1 s1 h1 ++ (wX2 E a2 s2 h2 ++ (wX1 E a3 s3 ++ (wX2 E a4 q8.1 q8.2 ++ (wX1 E a5 s5 ++ (wX5 E a6 s6 ++ (wX3 E a7 s7 ++ (wX0 E a8 s8 ++ (wX6 E a9 s9 t9)))))))))) (wc := wX1 E a5 s5 ++ (wX1 E a3 s3)) (suf := sW E.2.1 L) [30, 31, 32, 33, 34, 35, 36, 37, 15, 16, 17, 18, 19, 20, 21, 22] (by decide) rfl (hDD s0 s1 h1 s2 h2 s3 q8.1 q8.2 s5 s6 s7 s8 s9 t9)) hS hG hAB rfl rfl) rfl rfl hl.1 rfl (lv_room (Nat.le_of_ble_eq_true rfl)) dX7_image_19 ⟨Nat.zero_le _, Nat.zero_le _⟩) hS (w_free (hDD s0 s1 h1 s2 h2 s3 q8.1 q8.2 s5 s6 s7 s8 s9 t9) hS hA hm_19) (fun H locs hP1 hk hS => ?_)
  have hP := w_join (ws' := wX7o E a0 a1 a2 a3 a4 a5 a6 a7 a8 a9 s0 ++ (wX2 E a1 s1 h1 ++ (wX2 E a2 s2 h2 ++ (wX1 E a3 s3 ++ (wX2 E a4 q8.1 q8.2 ++ (wX1 E a5 q19 ++ (wX5 E a6 s6 ++ (wX3 E a7 s7 ++ (wX0 E a8 s8 ++ (wX6 E a9 s9 t9)))))))))) (wc := wX1 E a5 s5 ++ (wX1 E a3 s3)) (wc' := wX1 E a5 q19 ++ (wX1 E a3 s3)) hP (hDD s0 s1 h1 s2 h2 s3 q8.1 q8.2 s5 s6 s7 s8 s9 t9) [30, 31, 32, 33, 34, 35, 36, 37, 15, 16, 17, 18, 19, 20, 21, 22] rfl [none, none, none, none, none, none, none, none, none, none, none, none, none, none, none, some 8, some 9, some 10, some 11, some 12, some 13, some 14, some 15, none, none, none, none, none, none, none, some 0, some 1, some 2, some 3, some 4, some 5, some 6, some 7, none, none, none, none, none, none, none, none, none, none, none, none] rfl rfl hk hP1
  refine lv_aload_n hx hb dX7_image_22 rfl (lv_at hl 0 rfl) ?_
  refine lv_iconst (v := 1) hx hb dX7_image_23 (by decide) ?_
  refine va_put (ci := 7) (v := .int 1) (ty := .boolean) (C := RX7) (T := TX7) (N := 11) hx hb hts i_X7_image_X7 tyX7 tyX7_ok nmX7 hown hK hP (hDD s0 s1 h1 s2 h2 s3 q8.1 q8.2 q19 s6 s7 s8 s9 t9) hS 0 rfl rfl 5 (by decide) (hts _ m_X7_image_9620bc) (fun _ h9 => h9) rfl (by decide +kernel) rfl rfl (Nat.le_of_ble_eq_true rfl) dX7_image_24 (fun H locs hP _ hS => ?_)
  obtain ⟨s0_24, hP, hf⟩ := nm_st' (P := fun z => va_P E.1 vwCl ((wX7o E a0 a1 a2 a3 a4 a5 a6 a7 a8 a9 z ++ (wX2 E a1 s1 h1 ++ (wX2 E a2 s2 h2 ++ (wX1 E a3 s3 ++ (wX2 E a4 q8.1 q8.2 ++ (wX1 E a5 q19 ++ (wX5 E a6 s6 ++ (wX3 E a7 s7 ++ (wX0 E a8 s8 ++ (wX6 E a9 s9 t9)))))))))) ++ sW E.2.1 L) H) hf hP
  refine lv_aload_n hx hb dX7_image_27 rfl (lv_at hl 0 rfl) ?_
  refine va_get (ci := 7) (C := RX7) (T := TX7) (N := 11) (v := .ref (a1 0)) hx hb hts i_X7_image_X7 hown hK hP 0 rfl rfl 0 (by decide) (hts _ m_X7_image_265b14) (fun _ h9 => h9) rfl dX7_image_28 ?_
  refine va_getN (ci := 2) (C := RX2) (T := TX2) (N := 11) (v := .int (s1 0 0)) hx hb hts i_X7_image_X2 hown hK hP 1 rfl rfl 0 (by decide) (nwG hG (w := .fieldLinkNest "PickedMatch" 66 "PickedMatch$Scene" "things" "I" "PickedMatch") (by decide +kernel)) (fun _ h9 => h9) rfl dX7_image_31 ?_
  have e9 := Option.some.inj hf
  have h9_0 : s0_24 = q.2.1 := congrArg (fun z => z.2.1) e9
  have h9_1 : q8.1 = q.2.2.1 := congrArg (fun z => z.2.2.1) e9
  have h9_2 : q8.2 = q.2.2.2.1 := congrArg (fun z => z.2.2.2.1) e9
  have h9_3 : q19 = q.2.2.2.2 := congrArg (fun z => z.2.2.2.2) e9
  have hP9 : va_P E.1 vwCl ((wX7o E a0 a1 a2 a3 a4 a5 a6 a7 a8 a9 q.2.1 ++ (wX2 E a1 s1 h1 ++ (wX2 E a2 s2 h2 ++ (wX1 E a3 s3 ++ (wX2 E a4 q.2.2.1 q.2.2.2.1 ++ (wX1 E a5 q.2.2.2.2 ++ (wX5 E a6 s6 ++ (wX3 E a7 s7 ++ (wX0 E a8 s8 ++ (wX6 E a9 s9 t9)))))))))) ++ sW E.2.1 L) H := by rw [← h9_0, ← h9_1, ← h9_2, ← h9_3]; exact hP
  exact rt_i hx hb hr hlocks (fst_e e9) hP9 hS dX7_image_34
abbrev rm_X7_undo : Room := { frames := 2, cells := 0, slots := 0, locals := 81 }
theorem m_X7_undo_9620bc : Cond.fieldLink RX7 263 "PickedMatch" "isKept" "Z" ∈ wsX7_undo := by decide +kernel
theorem i_X7_undo_X7 : ∀ w ∈ wsX70, w ∈ wsX7_undo := fun _ h => List.mem_cons_of_mem _ (List.mem_append_left _ (List.mem_append_left _ (List.mem_append_right _ h)))
theorem m_X7_undo_265b14 : Cond.fieldLink RX7 12 "PickedMatch" "scene" "LPickedMatch$Scene;" ∈ wsX7_undo := by decide +kernel
theorem m_X7_undo_ab2d9f : Cond.fieldLink RX7 28 "PickedMatch" "keptScene" "LPickedMatch$Scene;" ∈ wsX7_undo := by decide +kernel
theorem m_X7_undo_4cf9d8 : Cond.initialized RX2 ∈ wsX7_undo := by decide +kernel
theorem m_X7_undo_c21ce8 : Cond.instanceMethod yX2_becomeAs ∈ wsX7_undo := by decide +kernel
theorem m_X7_undo_986579 : Cond.selects RX2 yX2_becomeAs yX2_becomeAs ∈ wsX7_undo := by decide +kernel
theorem m_X7_undo_6a5209 : Cond.fieldLink RX7 24 "PickedMatch" "notes" "LPickedMatch$Notes;" ∈ wsX7_undo := by decide +kernel
theorem m_X7_undo_10f301 : Cond.fieldLink RX7 31 "PickedMatch" "keptNotes" "LPickedMatch$Notes;" ∈ wsX7_undo := by decide +kernel
theorem m_X7_undo_6e074f : Cond.initialized RX1 ∈ wsX7_undo := by decide +kernel
theorem m_X7_undo_a441df : Cond.instanceMethod yX1_becomeAs ∈ wsX7_undo := by decide +kernel
theorem m_X7_undo_4839ca : Cond.selects RX1 yX1_becomeAs yX1_becomeAs ∈ wsX7_undo := by decide +kernel
theorem i_X7_undo_X2 : ∀ w ∈ wsX20, w ∈ wsX7_undo := fun _ h => List.mem_cons_of_mem _ (List.mem_append_left _ (List.mem_append_right _ h))
set_option maxHeartbeats 8000000 in
set_option maxRecDepth 100000 in
theorem k_X7_undo (l : Launch) (E : Ev) (a0 : Nat → Nat) (a1 : Nat → Nat) (a2 : Nat → Nat) (a3 : Nat → Nat) (a4 : Nat → Nat) (a5 : Nat → Nat) (a6 : Nat → Nat) (a7 : Nat → Nat) (a8 : Nat → Nat) (a9 : Nat → Nat) (L : List SR) (N : Nat) (s0 : St) (s1 : St) (h1 : Option SR) (s2 : St) (h2 : Option SR) (s3 : St) (s4 : St) (h4 : Option SR) (s5 : St) (s6 : St) (s7 : St) (s8 : St) (s9 : St) (t9 : Nat → Nat → Int64) (q : (Int32 × St × (Option SR) × St)) (hf : f_X7_undo N s0 s1 h1 s3 s4 h4 s5 = some q) : Ci l yX7_undo wsX7_undo rm_X7_undo E [.ref (a0 0)] ((wX7o E a0 a1 a2 a3 a4 a5 a6 a7 a8 a9 s0 ++ (wX2 E a1 s1 h1 ++ (wX2 E a2 s2 h2 ++ (wX1 E a3 s3 ++ (wX2 E a4 s4 h4 ++ (wX1 E a5 s5 ++ (wX5 E a6 s6 ++ (wX3 E a7 s7 ++ (wX0 E a8 s8 ++ (wX6 E a9 s9 t9)))))))))) ++ sW E.2.1 L) ((wX7o E a0 a1 a2 a3 a4 a5 a6 a7 a8 a9 s0 ++ (wX2 E a1 q.2.1 q.2.2.1 ++ (wX2 E a2 s2 h2 ++ (wX1 E a3 q.2.2.2 ++ (wX2 E a4 s4 h4 ++ (wX1 E a5 s5 ++ (wX5 E a6 s6 ++ (wX3 E a7 s7 ++ (wX0 E a8 s8 ++ (wX6 E a9 s9 t9)))))))))) ++ sW E.2.1 L) q.1 := by
  unfold f_X7_undo at hf
  intro sz
  refine Met.ofW (cc := cX7_undo) (maxL := 1) (ret := (some .int)) (by decide) rfl ?_
  intro p e s m args below meth c s₁ B hml hpre
  obtain ⟨rfl, hsz, hP, hK, hD0, hG, hA, hAB⟩ := start hpre
  have hx := B.exec
  have hb := B.bytes
  have hr := B.returns
  have hts := atoms_spec (ws := wsX7_undo) B.pre
  have hown : s.vm.findClass RX7 = some m.cls := findClass_of_methodNamed B.named
  have hlocks := B.notSynchronized
  subst hsz
  generalize va_A ((wX7o E a0 a1 a2 a3 a4 a5 a6 a7 a8 a9 s0 ++ (wX2 E a1 s1 h1 ++ (wX2 E a2 s2 h2 ++ (wX1 E a3 s3 ++ (wX2 E a4 s4 h4 ++ (wX1 E a5 s5 ++ (wX5 E a6 s6 ++ (wX3 E a7 s7 ++ (wX0 E a8 s8 ++ (wX6 E a9 s9 t9)))))))))) ++ sW E.2.1 L) s.heap.size = A0 at hD0 hA hAB ⊢
  have hDD : ∀ (s0 : St) (s1 : St) (h1 : Option SR) (s2 : St) (h2 : Option SR) (s3 : St) (s4 : St) (h4 : Option SR) (s5 : St) (s6 : St) (s7 : St) (s8 : St) (s9 : St) (t9 : Nat → Nat → Int64), va_D A0 ((wX7o E a0 a1 a2 a3 a4 a5 a6 a7 a8 a9 s0 ++ (wX2 E a1 s1 h1 ++ (wX2 E a2 s2 h2 ++ (wX1 E a3 s3 ++ (wX2 E a4 s4 h4 ++ (wX1 E a5 s5 ++ (wX5 E a6 s6 ++ (wX3 E a7 s7 ++ (wX0 E a8 s8 ++ (wX6 E a9 s9 t9)))))))))) ++ sW E.2.1 L) := fun s0 s1 h1 s2 h2 s3 s4 h4 s5 s6 s7 s8 s9 t9 => vD_addr hD0 rfl
  have hS : va_S A0 s.heap s.heap [] := va_S.rf
  have hl := lv_entry ([.ref (a0 0)]) (n := 1) (Nat.le_of_ble_eq_true rfl)
  rw [lg_entry_eq]
  generalize (lg_sl ([.ref (a0 0)]) ++ List.replicate (1 - (lg_sl ([.ref (a0 0)])).length) Slot.unset).toArray = ls at hl ⊢
  have hl : lv_has ls 1 [(0, .ref (a0 0))] := hl
  refine lv_aload_n hx hb dX7_undo_0 rfl (lv_at hl 0 rfl) ?_
  refine va_get (ci := 7) (C := RX7) (T := TX7) (N := 11) (v := .int (s0 5 0)) hx hb hts i_X7_undo_X7 hown hK hP 0 rfl rfl 5 (by decide) (hts _ m_X7_undo_9620bc) (fun _ h9 => h9) rfl dX7_undo_1 ?_
  refine lv_if_ne (tgt := 10) hx hb dX7_undo_4 (by decide) (fun c_4 => ?_) (fun c_4 => ?_)
  · have hf := ite_f c_4 hf
    refine lv_aload_n hx hb dX7_undo_10 rfl (lv_at hl 0 rfl) ?_
    refine va_get (ci := 7) (C := RX7) (T := TX7) (N := 11) (v := .ref (a1 0)) hx hb hts i_X7_undo_X7 hown hK hP 0 rfl rfl 0 (by decide) (hts _ m_X7_undo_265b14) (fun _ h9 => h9) rfl dX7_undo_11 ?_
    refine lv_aload_n hx hb dX7_undo_14 rfl (lv_at hl 0 rfl) ?_
    refine va_get (ci := 7) (C := RX7) (T := TX7) (N := 11) (v := .ref (a4 0)) hx hb hts i_X7_undo_X7 hown hK hP 0 rfl rfl 3 (by decide) (hts _ m_X7_undo_ab2d9f) (fun _ h9 => h9) rfl dX7_undo_15 ?_
    obtain ⟨q18, hc_18, hf⟩ := cl_e hf
    have hm_18 : ∀ q ∈ (wX2 E a1 s1 h1 ++ (wX2 E a4 s4 h4)) ++ sW E.2.1 L, q ∈ (wX7o E a0 a1 a2 a3 a4 a5 a6 a7 a8 a9 s0 ++ (wX2 E a1 s1 h1 ++ (wX2 E a2 s2 h2 ++ (wX1 E a3 s3 ++ (wX2 E a4 s4 h4 ++ (wX1 E a5 s5 ++ (wX5 E a6 s6 ++ (wX3 E a7 s7 ++ (wX0 E a8 s8 ++ (wX6 E a9 s9 t9)))))))))) ++ sW E.2.1 L := (app_mem (sub_mem (suf := []) [1, 2, 3, 4, 5, 6, 7, 23, 24, 25, 26, 27, 28, 29] rfl))
    refine fin_v (E := E) (wc := (wX2 E a1 s1 h1 ++ (wX2 E a4 s4 h4)) ++ sW E.2.1 L) (wc' := (wX2 E a1 q18.1 q18.2 ++ (wX2 E a4 s4 h4)) ++ sW E.2.1 L) (va_runVN (As := [.ref (a4 0)]) (rest := []) ⟨hx, hb, hml, hown, hts⟩ (k_X2_becomeAs l E a1 a4 L N s1 h1 s4 h4 q18 hc_18 _) ⟨va_cnB 1 hts gX7_undo_X2_becomeAs_n179 rfl rfl rfl (hG.1 (.methodLinkNest "PickedMatch" 179 yX2_becomeAs "PickedMatch") (by decide +kernel)) (hts _ m_X7_undo_4cf9d8) (by decide +kernel) ⟨(Nat.le_of_ble_eq_true rfl), (Nat.le_of_ble_eq_true rfl)⟩, (hts _ m_X7_undo_c21ce8), (hts _ m_X7_undo_986579)⟩ (pre_v (ci := 2) (q0 := 0) hK (sub_P hm_18 hP) (sub_Ds (ws := wX7o E a0 a1 a2 a3 a4 a5 a6 a7 a8 a9 s0 ++ (wX2 E a1 s1 h1 ++ (wX2 E a2 s2 h2 ++ (wX1 E a3 s3 ++ (wX2 E a4 s4 h4 ++ (wX1 E a5 s5 ++ (wX5 E a6 s6 ++ (wX3 E a7 s7 ++ (wX0 E a8 s8 ++ (wX6 E a9 s9 t9)))))))))) (wc := wX2 E a1 s1 h1 ++ (wX2 E a4 s4 h4)) (suf := sW E.2.1 L) [1, 2, 3, 4, 5, 6, 7, 23, 24, 25, 26, 27, 28, 29] (by decide) rfl (hDD s0 s1 h1 s2 h2 s3 s4 h4 s5 s6 s7 s8 s9 t9)) hS hG hAB rfl rfl) rfl rfl hl.1 rfl (lv_room (Nat.le_of_ble_eq_true rfl)) dX7_undo_18 ⟨Nat.zero_le _, Nat.zero_le _⟩) hS (w_free (hDD s0 s1 h1 s2 h2 s3 s4 h4 s5 s6 s7 s8 s9 t9) hS hA hm_18) (fun H locs hP1 hk hS => ?_)
    have hP := w_joins (ws' := wX7o E a0 a1 a2 a3 a4 a5 a6 a7 a8 a9 s0 ++ (wX2 E a1 q18.1 q18.2 ++ (wX2 E a2 s2 h2 ++ (wX1 E a3 s3 ++ (wX2 E a4 s4 h4 ++ (wX1 E a5 s5 ++ (wX5 E a6 s6 ++ (wX3 E a7 s7 ++ (wX0 E a8 s8 ++ (wX6 E a9 s9 t9)))))))))) (wc := wX2 E a1 s1 h1 ++ (wX2 E a4 s4 h4)) (wc' := wX2 E a1 q18.1 q18.2 ++ (wX2 E a4 s4 h4)) hP (hDD s0 s1 h1 s2 h2 s3 s4 h4 s5 s6 s7 s8 s9 t9) [1, 2, 3, 4, 5, 6, 7, 23, 24, 25, 26, 27, 28, 29] rfl [none, some 0, some 1, some 2, some 3, some 4, some 5, some 6, none, none, none, none, none, none, none, none, none, none, none, none, none, none, none, some 7, some 8, some 9, some 10, some 11, some 12, some 13, none, none, none, none, none, none, none, none, none, none, none, none, none, none, none, none, none, none, none, none] rfl rfl hk hP1
    refine lv_aload_n hx hb dX7_undo_21 rfl (lv_at hl 0 rfl) ?_
    refine va_get (ci := 7) (C := RX7) (T := TX7) (N := 11) (v := .ref (a3 0)) hx hb hts i_X7_undo_X7 hown hK hP 0 rfl rfl 2 (by decide) (hts _ m_X7_undo_6a5209) (fun _ h9 => h9) rfl dX7_undo_22 ?_
    refine lv_aload_n hx hb dX7_undo_25 rfl (lv_at hl 0 rfl) ?_
    refine va_get (ci := 7) (C := RX7) (T := TX7) (N := 11) (v := .ref (a5 0)) hx hb hts i_X7_undo_X7 hown hK hP 0 rfl rfl 4 (by decide) (hts _ m_X7_undo_10f301) (fun _ h9 => h9) rfl dX7_undo_26 ?_
    obtain ⟨q29, hc_29, hf⟩ := cl_e hf
    have hm_29 : ∀ q ∈ wX1 E a3 s3 ++ (wX1 E a5 s5), q ∈ (wX7o E a0 a1 a2 a3 a4 a5 a6 a7 a8 a9 s0 ++ (wX2 E a1 q18.1 q18.2 ++ (wX2 E a2 s2 h2 ++ (wX1 E a3 s3 ++ (wX2 E a4 s4 h4 ++ (wX1 E a5 s5 ++ (wX5 E a6 s6 ++ (wX3 E a7 s7 ++ (wX0 E a8 s8 ++ (wX6 E a9 s9 t9)))))))))) ++ sW E.2.1 L := (inl_mem (sub_mem (suf := []) [15, 16, 17, 18, 19, 20, 21, 22, 30, 31, 32, 33, 34, 35, 36, 37] rfl))
    refine fin_v (E := E) (wc := wX1 E a3 s3 ++ (wX1 E a5 s5)) (wc' := wX1 E a3 q29 ++ (wX1 E a5 s5)) (va_runVN (As := [.ref (a5 0)]) (rest := []) ⟨hx, hb, hml, hown, hts⟩ (k_X1_becomeAs l E a3 a5 N s3 s5 q29 hc_29 _) ⟨va_cnB 1 hts gX7_undo_X1_becomeAs_n260 rfl rfl rfl (hG.1 (.methodLinkNest "PickedMatch" 260 yX1_becomeAs "PickedMatch") (by decide +kernel)) (hts _ m_X7_undo_6e074f) (by decide +kernel) ⟨(Nat.le_of_ble_eq_true rfl), (Nat.le_of_ble_eq_true rfl)⟩, (hts _ m_X7_undo_a441df), (hts _ m_X7_undo_4839ca)⟩ (pre_v (ci := 1) (q0 := 0) hK (sub_P hm_29 hP) (sub_Dn (ws := wX7o E a0 a1 a2 a3 a4 a5 a6 a7 a8 a9 s0 ++ (wX2 E a1 q18.1 q18.2 ++ (wX2 E a2 s2 h2 ++ (wX1 E a3 s3 ++ (wX2 E a4 s4 h4 ++ (wX1 E a5 s5 ++ (wX5 E a6 s6 ++ (wX3 E a7 s7 ++ (wX0 E a8 s8 ++ (wX6 E a9 s9 t9)))))))))) (wc := wX1 E a3 s3 ++ (wX1 E a5 s5)) (suf := sW E.2.1 L) [15, 16, 17, 18, 19, 20, 21, 22, 30, 31, 32, 33, 34, 35, 36, 37] (by decide) rfl (hDD s0 q18.1 q18.2 s2 h2 s3 s4 h4 s5 s6 s7 s8 s9 t9)) hS hG hAB rfl rfl) rfl rfl hl.1 rfl (lv_room (Nat.le_of_ble_eq_true rfl)) dX7_undo_29 ⟨Nat.zero_le _, Nat.zero_le _⟩) hS (w_free (hDD s0 q18.1 q18.2 s2 h2 s3 s4 h4 s5 s6 s7 s8 s9 t9) hS hA hm_29) (fun H locs hP1 hk hS => ?_)
    have hP := w_join (ws' := wX7o E a0 a1 a2 a3 a4 a5 a6 a7 a8 a9 s0 ++ (wX2 E a1 q18.1 q18.2 ++ (wX2 E a2 s2 h2 ++ (wX1 E a3 q29 ++ (wX2 E a4 s4 h4 ++ (wX1 E a5 s5 ++ (wX5 E a6 s6 ++ (wX3 E a7 s7 ++ (wX0 E a8 s8 ++ (wX6 E a9 s9 t9)))))))))) (wc := wX1 E a3 s3 ++ (wX1 E a5 s5)) (wc' := wX1 E a3 q29 ++ (wX1 E a5 s5)) hP (hDD s0 q18.1 q18.2 s2 h2 s3 s4 h4 s5 s6 s7 s8 s9 t9) [15, 16, 17, 18, 19, 20, 21, 22, 30, 31, 32, 33, 34, 35, 36, 37] rfl [none, none, none, none, none, none, none, none, none, none, none, none, none, none, none, some 0, some 1, some 2, some 3, some 4, some 5, some 6, some 7, none, none, none, none, none, none, none, some 8, some 9, some 10, some 11, some 12, some 13, some 14, some 15, none, none, none, none, none, none, none, none, none, none, none, none] rfl rfl hk hP1
    refine lv_aload_n hx hb dX7_undo_32 rfl (lv_at hl 0 rfl) ?_
    refine va_get (ci := 7) (C := RX7) (T := TX7) (N := 11) (v := .ref (a1 0)) hx hb hts i_X7_undo_X7 hown hK hP 0 rfl rfl 0 (by decide) (hts _ m_X7_undo_265b14) (fun _ h9 => h9) rfl dX7_undo_33 ?_
    refine va_getN (ci := 2) (C := RX2) (T := TX2) (N := 11) (v := .int (q18.1 0 0)) hx hb hts i_X7_undo_X2 hown hK hP 1 rfl rfl 0 (by decide) (nwG hG (w := .fieldLinkNest "PickedMatch" 66 "PickedMatch$Scene" "things" "I" "PickedMatch") (by decide +kernel)) (fun _ h9 => h9) rfl dX7_undo_36 ?_
    have e9 := Option.some.inj hf
    have h9_0 : q18.1 = q.2.1 := congrArg (fun z => z.2.1) e9
    have h9_1 : q18.2 = q.2.2.1 := congrArg (fun z => z.2.2.1) e9
    have h9_2 : q29 = q.2.2.2 := congrArg (fun z => z.2.2.2) e9
    have hP9 : va_P E.1 vwCl ((wX7o E a0 a1 a2 a3 a4 a5 a6 a7 a8 a9 s0 ++ (wX2 E a1 q.2.1 q.2.2.1 ++ (wX2 E a2 s2 h2 ++ (wX1 E a3 q.2.2.2 ++ (wX2 E a4 s4 h4 ++ (wX1 E a5 s5 ++ (wX5 E a6 s6 ++ (wX3 E a7 s7 ++ (wX0 E a8 s8 ++ (wX6 E a9 s9 t9)))))))))) ++ sW E.2.1 L) H := by rw [← h9_0, ← h9_1, ← h9_2]; exact hP
    exact rt_i hx hb hr hlocks (fst_e e9) hP9 hS dX7_undo_39
  · have hf := ite_t c_4 hf
    refine lv_bipush (v := (-3)) hx hb dX7_undo_7 (by decide) ?_
    have e9 := Option.some.inj hf
    have h9_0 : s1 = q.2.1 := congrArg (fun z => z.2.1) e9
    have h9_1 : h1 = q.2.2.1 := congrArg (fun z => z.2.2.1) e9
    have h9_2 : s3 = q.2.2.2 := congrArg (fun z => z.2.2.2) e9
    have hP9 : va_P E.1 vwCl ((wX7o E a0 a1 a2 a3 a4 a5 a6 a7 a8 a9 s0 ++ (wX2 E a1 q.2.1 q.2.2.1 ++ (wX2 E a2 s2 h2 ++ (wX1 E a3 q.2.2.2 ++ (wX2 E a4 s4 h4 ++ (wX1 E a5 s5 ++ (wX5 E a6 s6 ++ (wX3 E a7 s7 ++ (wX0 E a8 s8 ++ (wX6 E a9 s9 t9)))))))))) ++ sW E.2.1 L) s.heap := by rw [← h9_0, ← h9_1, ← h9_2]; exact hP
    exact rt_i hx hb hr hlocks (fst_e e9) hP9 hS dX7_undo_9
abbrev rm_X7_act : Room := { frames := 128, cells := 0, slots := 0, locals := 3789 }
theorem m_X7_act_e811b9 : Cond.fieldLink RX7 51 "PickedMatch" "acts" "LPickedMatch$Acts;" ∈ wsX7_act := by decide +kernel
theorem i_X7_act_X7 : ∀ w ∈ wsX70, w ∈ wsX7_act := fun _ h => List.mem_cons_of_mem _ (List.mem_append_left _ (List.mem_append_left _ (List.mem_append_right _ h)))
theorem m_X7_act_a93c50 : Cond.initialized RX0 ∈ wsX7_act := by decide +kernel
theorem m_X7_act_dc39da : Cond.instanceMethod yX0_forget ∈ wsX7_act := by decide +kernel
theorem m_X7_act_0300b2 : Cond.selects RX0 yX0_forget yX0_forget ∈ wsX7_act := by decide +kernel
theorem m_X7_act_265b14 : Cond.fieldLink RX7 12 "PickedMatch" "scene" "LPickedMatch$Scene;" ∈ wsX7_act := by decide +kernel
theorem m_X7_act_4cf9d8 : Cond.initialized RX2 ∈ wsX7_act := by decide +kernel
theorem m_X7_act_0211d8 : Cond.instanceMethod yX2_hasThing ∈ wsX7_act := by decide +kernel
theorem m_X7_act_6099ba : Cond.selects RX2 yX2_hasThing yX2_hasThing ∈ wsX7_act := by decide +kernel
theorem i_X7_act_X2 : ∀ w ∈ wsX20, w ∈ wsX7_act := fun _ h => List.mem_cons_of_mem _ (List.mem_append_left _ (List.mem_append_right _ h))
theorem m_X7_act_111b5c : Cond.instanceMethod yX0_perform ∈ wsX7_act := by decide +kernel
theorem m_X7_act_bd582c : Cond.selects RX0 yX0_perform yX0_perform ∈ wsX7_act := by decide +kernel
set_option maxHeartbeats 8000000 in
set_option maxRecDepth 100000 in
theorem k_X7_act (l : Launch) (E : Ev) (a0 : Nat → Nat) (a1 : Nat → Nat) (a2 : Nat → Nat) (a3 : Nat → Nat) (a4 : Nat → Nat) (a5 : Nat → Nat) (a6 : Nat → Nat) (a7 : Nat → Nat) (a8 : Nat → Nat) (a9 : Nat → Nat) (L : List SR) (N : Nat) (s0 : St) (s1 : St) (h1 : Option SR) (s2 : St) (h2 : Option SR) (s3 : St) (s4 : St) (h4 : Option SR) (s5 : St) (s6 : St) (s7 : St) (s8 : St) (s9 : St) (t9 : Nat → Nat → Int64) (p1 : Int32) (p2 : Int32) (p3 : Int32) (q : (Int32 × St)) (hf : f_X7_act N s1 s8 p1 p2 p3 = some q) : Ci l yX7_act wsX7_act rm_X7_act E [.ref (a0 0), .int p1, .int p2, .int p3] ((wX7o E a0 a1 a2 a3 a4 a5 a6 a7 a8 a9 s0 ++ (wX2 E a1 s1 h1 ++ (wX2 E a2 s2 h2 ++ (wX1 E a3 s3 ++ (wX2 E a4 s4 h4 ++ (wX1 E a5 s5 ++ (wX5 E a6 s6 ++ (wX3 E a7 s7 ++ (wX0 E a8 s8 ++ (wX6 E a9 s9 t9)))))))))) ++ sW E.2.1 L) ((wX7o E a0 a1 a2 a3 a4 a5 a6 a7 a8 a9 s0 ++ (wX2 E a1 s1 h1 ++ (wX2 E a2 s2 h2 ++ (wX1 E a3 s3 ++ (wX2 E a4 s4 h4 ++ (wX1 E a5 s5 ++ (wX5 E a6 s6 ++ (wX3 E a7 s7 ++ (wX0 E a8 q.2 ++ (wX6 E a9 s9 t9)))))))))) ++ sW E.2.1 L) q.1 := by
  unfold f_X7_act at hf
  intro sz
  refine Met.ofW (cc := cX7_act) (maxL := 4) (ret := (some .int)) (by decide) rfl ?_
  intro p e s m args below meth c s₁ B hml hpre
  obtain ⟨rfl, hsz, hP, hK, hD0, hG, hA, hAB⟩ := start hpre
  have hx := B.exec
  have hb := B.bytes
  have hr := B.returns
  have hts := atoms_spec (ws := wsX7_act) B.pre
  have hown : s.vm.findClass RX7 = some m.cls := findClass_of_methodNamed B.named
  have hlocks := B.notSynchronized
  subst hsz
  generalize va_A ((wX7o E a0 a1 a2 a3 a4 a5 a6 a7 a8 a9 s0 ++ (wX2 E a1 s1 h1 ++ (wX2 E a2 s2 h2 ++ (wX1 E a3 s3 ++ (wX2 E a4 s4 h4 ++ (wX1 E a5 s5 ++ (wX5 E a6 s6 ++ (wX3 E a7 s7 ++ (wX0 E a8 s8 ++ (wX6 E a9 s9 t9)))))))))) ++ sW E.2.1 L) s.heap.size = A0 at hD0 hA hAB ⊢
  have hDD : ∀ (s0 : St) (s1 : St) (h1 : Option SR) (s2 : St) (h2 : Option SR) (s3 : St) (s4 : St) (h4 : Option SR) (s5 : St) (s6 : St) (s7 : St) (s8 : St) (s9 : St) (t9 : Nat → Nat → Int64), va_D A0 ((wX7o E a0 a1 a2 a3 a4 a5 a6 a7 a8 a9 s0 ++ (wX2 E a1 s1 h1 ++ (wX2 E a2 s2 h2 ++ (wX1 E a3 s3 ++ (wX2 E a4 s4 h4 ++ (wX1 E a5 s5 ++ (wX5 E a6 s6 ++ (wX3 E a7 s7 ++ (wX0 E a8 s8 ++ (wX6 E a9 s9 t9)))))))))) ++ sW E.2.1 L) := fun s0 s1 h1 s2 h2 s3 s4 h4 s5 s6 s7 s8 s9 t9 => vD_addr hD0 rfl
  have hS : va_S A0 s.heap s.heap [] := va_S.rf
  have hl := lv_entry ([.ref (a0 0), .int p1, .int p2, .int p3]) (n := 4) (Nat.le_of_ble_eq_true rfl)
  rw [lg_entry_eq]
  generalize (lg_sl ([.ref (a0 0), .int p1, .int p2, .int p3]) ++ List.replicate (4 - (lg_sl ([.ref (a0 0), .int p1, .int p2, .int p3])).length) Slot.unset).toArray = ls at hl ⊢
  have hl : lv_has ls 4 [(0, .ref (a0 0)), (1, .int p1), (2, .int p2), (3, .int p3)] := hl
  refine lv_aload_n hx hb dX7_act_0 rfl (lv_at hl 0 rfl) ?_
  refine va_get (ci := 7) (C := RX7) (T := TX7) (N := 11) (v := .ref (a8 0)) hx hb hts i_X7_act_X7 hown hK hP 0 rfl rfl 9 (by decide) (hts _ m_X7_act_e811b9) (fun _ h9 => h9) rfl dX7_act_1 ?_
  obtain ⟨q4, hc_4, hf⟩ := cl_e hf
  have hm_4 : ∀ q ∈ wX0 E a8 s8, q ∈ (wX7o E a0 a1 a2 a3 a4 a5 a6 a7 a8 a9 s0 ++ (wX2 E a1 s1 h1 ++ (wX2 E a2 s2 h2 ++ (wX1 E a3 s3 ++ (wX2 E a4 s4 h4 ++ (wX1 E a5 s5 ++ (wX5 E a6 s6 ++ (wX3 E a7 s7 ++ (wX0 E a8 s8 ++ (wX6 E a9 s9 t9)))))))))) ++ sW E.2.1 L := (inl_mem (sub_mem (suf := []) [44, 45] rfl))
  refine fin_v (E := E) (wc := wX0 E a8 s8) (wc' := wX0 E a8 q4) (va_runVN (As := []) (rest := []) ⟨hx, hb, hml, hown, hts⟩ (k_X0_forget l E a8 N s8 q4 hc_4 _) ⟨va_cnB 0 hts gX7_act_X0_forget_n267 rfl rfl rfl (hG.1 (.methodLinkNest "PickedMatch" 267 yX0_forget "PickedMatch") (by decide +kernel)) (hts _ m_X7_act_a93c50) (by decide +kernel) ⟨(Nat.le_of_ble_eq_true rfl), (Nat.le_of_ble_eq_true rfl)⟩, (hts _ m_X7_act_dc39da), (hts _ m_X7_act_0300b2)⟩ (pre_v (ci := 0) (q0 := 0) hK (sub_P hm_4 hP) (sub_Dn (ws := wX7o E a0 a1 a2 a3 a4 a5 a6 a7 a8 a9 s0 ++ (wX2 E a1 s1 h1 ++ (wX2 E a2 s2 h2 ++ (wX1 E a3 s3 ++ (wX2 E a4 s4 h4 ++ (wX1 E a5 s5 ++ (wX5 E a6 s6 ++ (wX3 E a7 s7 ++ (wX0 E a8 s8 ++ (wX6 E a9 s9 t9)))))))))) (wc := wX0 E a8 s8) (suf := sW E.2.1 L) [44, 45] (by decide) rfl (hDD s0 s1 h1 s2 h2 s3 s4 h4 s5 s6 s7 s8 s9 t9)) hS hG hAB rfl rfl) rfl rfl hl.1 rfl (lv_room (Nat.le_of_ble_eq_true rfl)) dX7_act_4 ⟨Nat.zero_le _, Nat.zero_le _⟩) hS (w_free (hDD s0 s1 h1 s2 h2 s3 s4 h4 s5 s6 s7 s8 s9 t9) hS hA hm_4) (fun H locs hP1 hk hS => ?_)
  have hP := w_join (ws' := wX7o E a0 a1 a2 a3 a4 a5 a6 a7 a8 a9 s0 ++ (wX2 E a1 s1 h1 ++ (wX2 E a2 s2 h2 ++ (wX1 E a3 s3 ++ (wX2 E a4 s4 h4 ++ (wX1 E a5 s5 ++ (wX5 E a6 s6 ++ (wX3 E a7 s7 ++ (wX0 E a8 q4 ++ (wX6 E a9 s9 t9)))))))))) (wc := wX0 E a8 s8) (wc' := wX0 E a8 q4) hP (hDD s0 s1 h1 s2 h2 s3 s4 h4 s5 s6 s7 s8 s9 t9) [44, 45] rfl [none, none, none, none, none, none, none, none, none, none, none, none, none, none, none, none, none, none, none, none, none, none, none, none, none, none, none, none, none, none, none, none, none, none, none, none, none, none, none, none, none, none, none, none, some 0, some 1, none, none, none, none] rfl rfl hk hP1
  refine lv_aload_n hx hb dX7_act_7 rfl (lv_at hl 0 rfl) ?_
  refine va_get (ci := 7) (C := RX7) (T := TX7) (N := 11) (v := .ref (a1 0)) hx hb hts i_X7_act_X7 hown hK hP 0 rfl rfl 0 (by decide) (hts _ m_X7_act_265b14) (fun _ h9 => h9) rfl dX7_act_8 ?_
  refine lv_iload_n hx hb dX7_act_11 rfl (lv_at hl 1 rfl) ?_
  obtain ⟨q12, hc_12, hf⟩ := cl_e hf
  have hm_12 : ∀ q ∈ (wX2 E a1 s1 h1) ++ sW E.2.1 L, q ∈ (wX7o E a0 a1 a2 a3 a4 a5 a6 a7 a8 a9 s0 ++ (wX2 E a1 s1 h1 ++ (wX2 E a2 s2 h2 ++ (wX1 E a3 s3 ++ (wX2 E a4 s4 h4 ++ (wX1 E a5 s5 ++ (wX5 E a6 s6 ++ (wX3 E a7 s7 ++ (wX0 E a8 q4 ++ (wX6 E a9 s9 t9)))))))))) ++ sW E.2.1 L := (app_mem (sub_mem (suf := []) [1, 2, 3, 4, 5, 6, 7] rfl))
  refine fin_i (E := E) (wc := (wX2 E a1 s1 h1) ++ sW E.2.1 L) (wc' := (wX2 E a1 s1 h1) ++ sW E.2.1 L) (va_runVN (As := [.int p1]) (rest := []) ⟨hx, hb, hml, hown, hts⟩ (k_X2_hasThing l E a1 L N s1 h1 p1 q12 hc_12 _) ⟨va_cnB 1 hts gX7_act_X2_hasThing_n74 rfl rfl rfl (hG.1 (.methodLinkNest "PickedMatch" 74 yX2_hasThing "PickedMatch") (by decide +kernel)) (hts _ m_X7_act_4cf9d8) (by decide +kernel) ⟨(Nat.le_of_ble_eq_true rfl), (Nat.le_of_ble_eq_true rfl)⟩, (hts _ m_X7_act_0211d8), (hts _ m_X7_act_6099ba)⟩ (pre_v (ci := 2) (q0 := 0) hK (sub_P hm_12 hP) (sub_Ds (ws := wX7o E a0 a1 a2 a3 a4 a5 a6 a7 a8 a9 s0 ++ (wX2 E a1 s1 h1 ++ (wX2 E a2 s2 h2 ++ (wX1 E a3 s3 ++ (wX2 E a4 s4 h4 ++ (wX1 E a5 s5 ++ (wX5 E a6 s6 ++ (wX3 E a7 s7 ++ (wX0 E a8 q4 ++ (wX6 E a9 s9 t9)))))))))) (wc := wX2 E a1 s1 h1) (suf := sW E.2.1 L) [1, 2, 3, 4, 5, 6, 7] (by decide) rfl (hDD s0 s1 h1 s2 h2 s3 s4 h4 s5 s6 s7 q4 s9 t9)) hS hG hAB rfl rfl) rfl rfl hl.1 rfl (lv_room (Nat.le_of_ble_eq_true rfl)) dX7_act_12 ⟨Nat.zero_le _, Nat.zero_le _⟩) hS (w_free (hDD s0 s1 h1 s2 h2 s3 s4 h4 s5 s6 s7 q4 s9 t9) hS hA hm_12) (fun H locs hP1 hk hS => ?_)
  have hP := w_joins (ws' := wX7o E a0 a1 a2 a3 a4 a5 a6 a7 a8 a9 s0 ++ (wX2 E a1 s1 h1 ++ (wX2 E a2 s2 h2 ++ (wX1 E a3 s3 ++ (wX2 E a4 s4 h4 ++ (wX1 E a5 s5 ++ (wX5 E a6 s6 ++ (wX3 E a7 s7 ++ (wX0 E a8 q4 ++ (wX6 E a9 s9 t9)))))))))) (wc := wX2 E a1 s1 h1) (wc' := wX2 E a1 s1 h1) hP (hDD s0 s1 h1 s2 h2 s3 s4 h4 s5 s6 s7 q4 s9 t9) [1, 2, 3, 4, 5, 6, 7] rfl [none, some 0, some 1, some 2, some 3, some 4, some 5, some 6, none, none, none, none, none, none, none, none, none, none, none, none, none, none, none, none, none, none, none, none, none, none, none, none, none, none, none, none, none, none, none, none, none, none, none, none, none, none, none, none, none, none] rfl rfl hk hP1
  refine lv_if_eq (tgt := 27) hx hb dX7_act_15 (by decide) (fun c_15 => ?_) (fun c_15 => ?_)
  · have hf := ite_t c_15 hf
    refine lv_iconst (v := 0) hx hb dX7_act_27 (by decide) ?_
    have e9 := Option.some.inj hf
    have h9_0 : q4 = q.2 := congrArg (fun z => z.2) e9
    have hP9 : va_P E.1 vwCl ((wX7o E a0 a1 a2 a3 a4 a5 a6 a7 a8 a9 s0 ++ (wX2 E a1 s1 h1 ++ (wX2 E a2 s2 h2 ++ (wX1 E a3 s3 ++ (wX2 E a4 s4 h4 ++ (wX1 E a5 s5 ++ (wX5 E a6 s6 ++ (wX3 E a7 s7 ++ (wX0 E a8 q.2 ++ (wX6 E a9 s9 t9)))))))))) ++ sW E.2.1 L) H := by rw [← h9_0]; exact hP
    exact rt_i hx hb hr hlocks (fst_e e9) hP9 hS dX7_act_28
  · have hf := ite_f c_15 hf
    refine lv_iload_n hx hb dX7_act_18 rfl (lv_at hl 2 rfl) ?_
    refine lv_iconst (v := 0) hx hb dX7_act_19 (by decide) ?_
    refine lv_iconst (v := 2) hx hb dX7_act_20 (by decide) ?_
    obtain ⟨q21, hc_21, hf⟩ := cl_e hf
    refine fin_i (E := E) (wc := ([] : va_W)) (wc' := ([] : va_W)) (va_runS (As := [.int p2, .int 0, .int 2]) (rest := []) ⟨hx, hb, hml, hown, hts⟩ (k_X7_isWithin l E N p2 0 2 q21 hc_21 _) (va_cwS 3 hts gX7_act_X7_isWithin rfl rfl rfl (by decide +kernel) ⟨(Nat.le_of_ble_eq_true rfl), (Nat.le_of_ble_eq_true rfl)⟩) (pre_s hK va_P_nil va_D_nil hS hG hAB) rfl rfl hl.1 rfl (lv_room (Nat.le_of_ble_eq_true rfl)) dX7_act_21 ⟨Nat.zero_le _, Nat.zero_le _⟩) hS (free_nil hS hA) (fun H locs hP1 hk hS => ?_)
    have hP := w_kept0 hP hk
    refine lv_if_ne (tgt := 29) hx hb dX7_act_24 (by decide) (fun c_24 => ?_) (fun c_24 => ?_)
    · have hf := ite_f c_24 hf
      refine lv_aload_n hx hb dX7_act_29 rfl (lv_at hl 0 rfl) ?_
      refine va_get (ci := 7) (C := RX7) (T := TX7) (N := 11) (v := .ref (a8 0)) hx hb hts i_X7_act_X7 hown hK hP 0 rfl rfl 9 (by decide) (hts _ m_X7_act_e811b9) (fun _ h9 => h9) rfl dX7_act_30 ?_
      refine lv_aload_n hx hb dX7_act_33 rfl (lv_at hl 0 rfl) ?_
      refine va_get (ci := 7) (C := RX7) (T := TX7) (N := 11) (v := .ref (a1 0)) hx hb hts i_X7_act_X7 hown hK hP 0 rfl rfl 0 (by decide) (hts _ m_X7_act_265b14) (fun _ h9 => h9) rfl dX7_act_34 ?_
      refine va_getN (ci := 2) (C := RX2) (T := TX2) (N := 11) (v := .ref (a1 1)) hx hb hts i_X7_act_X2 hown hK hP 1 rfl rfl 1 (by decide) (nwG hG (w := .fieldLinkNest "PickedMatch" 78 "PickedMatch$Scene" "kinds" "[I" "PickedMatch") (by decide +kernel)) (fun _ h9 => h9) rfl dX7_act_37 ?_
      refine lv_iload_n hx hb dX7_act_40 rfl (lv_at hl 1 rfl) ?_
      obtain ⟨h_41, hf⟩ := ck_e hf
      refine va_iald (cA := E.2.1) (n := 6) (f := s1 1) hx hb hK hP 2 0 rfl rfl h_41 dX7_act_41 ?_
      refine lv_iload_n hx hb dX7_act_42 rfl (lv_at hl 1 rfl) ?_
      refine lv_aload_n hx hb dX7_act_43 rfl (lv_at hl 0 rfl) ?_
      refine va_get (ci := 7) (C := RX7) (T := TX7) (N := 11) (v := .ref (a1 0)) hx hb hts i_X7_act_X7 hown hK hP 0 rfl rfl 0 (by decide) (hts _ m_X7_act_265b14) (fun _ h9 => h9) rfl dX7_act_44 ?_
      refine va_getN (ci := 2) (C := RX2) (T := TX2) (N := 11) (v := .ref (a1 2)) hx hb hts i_X7_act_X2 hown hK hP 1 rfl rfl 2 (by decide) (nwG hG (w := .fieldLinkNest "PickedMatch" 82 "PickedMatch$Scene" "numbers" "[I" "PickedMatch") (by decide +kernel)) (fun _ h9 => h9) rfl dX7_act_47 ?_
      refine lv_iload_n hx hb dX7_act_50 rfl (lv_at hl 1 rfl) ?_
      obtain ⟨h_51, hf⟩ := ck_e hf
      refine va_iald (cA := E.2.1) (n := 6) (f := s1 2) hx hb hK hP 3 0 rfl rfl h_51 dX7_act_51 ?_
      refine lv_iload_n hx hb dX7_act_52 rfl (lv_at hl 2 rfl) ?_
      refine lv_iload_n hx hb dX7_act_53 rfl (lv_at hl 3 rfl) ?_
      obtain ⟨q54, hc_54, hf⟩ := cl_e hf
      have hm_54 : ∀ q ∈ wX0 E a8 q4, q ∈ (wX7o E a0 a1 a2 a3 a4 a5 a6 a7 a8 a9 s0 ++ (wX2 E a1 s1 h1 ++ (wX2 E a2 s2 h2 ++ (wX1 E a3 s3 ++ (wX2 E a4 s4 h4 ++ (wX1 E a5 s5 ++ (wX5 E a6 s6 ++ (wX3 E a7 s7 ++ (wX0 E a8 q4 ++ (wX6 E a9 s9 t9)))))))))) ++ sW E.2.1 L := (inl_mem (sub_mem (suf := []) [44, 45] rfl))
      refine fin_i (E := E) (wc := wX0 E a8 q4) (wc' := wX0 E a8 q54.2) (va_runVN (As := [.int (s1 1 p1.toNatClampNeg), .int p1, .int (s1 2 p1.toNatClampNeg), .int p2, .int p3]) (rest := []) ⟨hx, hb, hml, hown, hts⟩ (k_X0_perform l E a8 N q4 (s1 1 p1.toNatClampNeg) p1 (s1 2 p1.toNatClampNeg) p2 p3 q54 hc_54 _) ⟨va_cnB 5 hts gX7_act_X0_perform_n270 rfl rfl rfl (hG.1 (.methodLinkNest "PickedMatch" 270 yX0_perform "PickedMatch") (by decide +kernel)) (hts _ m_X7_act_a93c50) (by decide +kernel) ⟨(Nat.le_of_ble_eq_true rfl), (Nat.le_of_ble_eq_true rfl)⟩, (hts _ m_X7_act_111b5c), (hts _ m_X7_act_bd582c)⟩ (pre_v (ci := 0) (q0 := 0) hK (sub_P hm_54 hP) (sub_Dn (ws := wX7o E a0 a1 a2 a3 a4 a5 a6 a7 a8 a9 s0 ++ (wX2 E a1 s1 h1 ++ (wX2 E a2 s2 h2 ++ (wX1 E a3 s3 ++ (wX2 E a4 s4 h4 ++ (wX1 E a5 s5 ++ (wX5 E a6 s6 ++ (wX3 E a7 s7 ++ (wX0 E a8 q4 ++ (wX6 E a9 s9 t9)))))))))) (wc := wX0 E a8 q4) (suf := sW E.2.1 L) [44, 45] (by decide) rfl (hDD s0 s1 h1 s2 h2 s3 s4 h4 s5 s6 s7 q4 s9 t9)) hS hG hAB rfl rfl) rfl rfl hl.1 rfl (lv_room (Nat.le_of_ble_eq_true rfl)) dX7_act_54 ⟨Nat.zero_le _, Nat.zero_le _⟩) hS (w_free (hDD s0 s1 h1 s2 h2 s3 s4 h4 s5 s6 s7 q4 s9 t9) hS hA hm_54) (fun H locs hP1 hk hS => ?_)
      have hP := w_join (ws' := wX7o E a0 a1 a2 a3 a4 a5 a6 a7 a8 a9 s0 ++ (wX2 E a1 s1 h1 ++ (wX2 E a2 s2 h2 ++ (wX1 E a3 s3 ++ (wX2 E a4 s4 h4 ++ (wX1 E a5 s5 ++ (wX5 E a6 s6 ++ (wX3 E a7 s7 ++ (wX0 E a8 q54.2 ++ (wX6 E a9 s9 t9)))))))))) (wc := wX0 E a8 q4) (wc' := wX0 E a8 q54.2) hP (hDD s0 s1 h1 s2 h2 s3 s4 h4 s5 s6 s7 q4 s9 t9) [44, 45] rfl [none, none, none, none, none, none, none, none, none, none, none, none, none, none, none, none, none, none, none, none, none, none, none, none, none, none, none, none, none, none, none, none, none, none, none, none, none, none, none, none, none, none, none, none, some 0, some 1, none, none, none, none] rfl rfl hk hP1
      have e9 := Option.some.inj hf
      have h9_0 : q54.2 = q.2 := congrArg (fun z => z.2) e9
      have hP9 : va_P E.1 vwCl ((wX7o E a0 a1 a2 a3 a4 a5 a6 a7 a8 a9 s0 ++ (wX2 E a1 s1 h1 ++ (wX2 E a2 s2 h2 ++ (wX1 E a3 s3 ++ (wX2 E a4 s4 h4 ++ (wX1 E a5 s5 ++ (wX5 E a6 s6 ++ (wX3 E a7 s7 ++ (wX0 E a8 q.2 ++ (wX6 E a9 s9 t9)))))))))) ++ sW E.2.1 L) H := by rw [← h9_0]; exact hP
      exact rt_i hx hb hr hlocks (fst_e e9) hP9 hS dX7_act_57
    · have hf := ite_t c_24 hf
      refine lv_iconst (v := 0) hx hb dX7_act_27 (by decide) ?_
      have e9 := Option.some.inj hf
      have h9_0 : q4 = q.2 := congrArg (fun z => z.2) e9
      have hP9 : va_P E.1 vwCl ((wX7o E a0 a1 a2 a3 a4 a5 a6 a7 a8 a9 s0 ++ (wX2 E a1 s1 h1 ++ (wX2 E a2 s2 h2 ++ (wX1 E a3 s3 ++ (wX2 E a4 s4 h4 ++ (wX1 E a5 s5 ++ (wX5 E a6 s6 ++ (wX3 E a7 s7 ++ (wX0 E a8 q.2 ++ (wX6 E a9 s9 t9)))))))))) ++ sW E.2.1 L) H := by rw [← h9_0]; exact hP
      exact rt_i hx hb hr hlocks (fst_e e9) hP9 hS dX7_act_28
abbrev rm_X7_trace : Room := { frames := 2, cells := 0, slots := 0, locals := 60 }
theorem m_X7_trace_e811b9 : Cond.fieldLink RX7 51 "PickedMatch" "acts" "LPickedMatch$Acts;" ∈ wsX7_trace := by decide +kernel
theorem i_X7_trace_X7 : ∀ w ∈ wsX70, w ∈ wsX7_trace := fun _ h => List.mem_cons_of_mem _ (List.mem_append_left _ (List.mem_append_right _ h))
theorem m_X7_trace_a93c50 : Cond.initialized RX0 ∈ wsX7_trace := by decide +kernel
theorem m_X7_trace_b72df4 : Cond.instanceMethod yX0_keptCount ∈ wsX7_trace := by decide +kernel
theorem m_X7_trace_9a27ef : Cond.selects RX0 yX0_keptCount yX0_keptCount ∈ wsX7_trace := by decide +kernel
theorem i_X7_trace_X0 : ∀ w ∈ wsX00, w ∈ wsX7_trace := fun _ h => List.mem_cons_of_mem _ (List.mem_append_right _ h)
set_option maxHeartbeats 8000000 in
set_option maxRecDepth 100000 in
theorem k_X7_trace (l : Launch) (E : Ev) (a0 : Nat → Nat) (a1 : Nat → Nat) (a2 : Nat → Nat) (a3 : Nat → Nat) (a4 : Nat → Nat) (a5 : Nat → Nat) (a6 : Nat → Nat) (a7 : Nat → Nat) (a8 : Nat → Nat) (a9 : Nat → Nat) (L : List SR) (N : Nat) (s0 : St) (s1 : St) (h1 : Option SR) (s2 : St) (h2 : Option SR) (s3 : St) (s4 : St) (h4 : Option SR) (s5 : St) (s6 : St) (s7 : St) (s8 : St) (s9 : St) (t9 : Nat → Nat → Int64) (p1 : Int32) (q : (Int32)) (hf : f_X7_trace N s8 p1 = some q) : Ci l yX7_trace wsX7_trace rm_X7_trace E [.ref (a0 0), .int p1] ((wX7o E a0 a1 a2 a3 a4 a5 a6 a7 a8 a9 s0 ++ (wX2 E a1 s1 h1 ++ (wX2 E a2 s2 h2 ++ (wX1 E a3 s3 ++ (wX2 E a4 s4 h4 ++ (wX1 E a5 s5 ++ (wX5 E a6 s6 ++ (wX3 E a7 s7 ++ (wX0 E a8 s8 ++ (wX6 E a9 s9 t9)))))))))) ++ sW E.2.1 L) ((wX7o E a0 a1 a2 a3 a4 a5 a6 a7 a8 a9 s0 ++ (wX2 E a1 s1 h1 ++ (wX2 E a2 s2 h2 ++ (wX1 E a3 s3 ++ (wX2 E a4 s4 h4 ++ (wX1 E a5 s5 ++ (wX5 E a6 s6 ++ (wX3 E a7 s7 ++ (wX0 E a8 s8 ++ (wX6 E a9 s9 t9)))))))))) ++ sW E.2.1 L) q := by
  unfold f_X7_trace at hf
  intro sz
  refine Met.ofW (cc := cX7_trace) (maxL := 2) (ret := (some .int)) (by decide) rfl ?_
  intro p e s m args below meth c s₁ B hml hpre
  obtain ⟨rfl, hsz, hP, hK, hD0, hG, hA, hAB⟩ := start hpre
  have hx := B.exec
  have hb := B.bytes
  have hr := B.returns
  have hts := atoms_spec (ws := wsX7_trace) B.pre
  have hown : s.vm.findClass RX7 = some m.cls := findClass_of_methodNamed B.named
  have hlocks := B.notSynchronized
  subst hsz
  generalize va_A ((wX7o E a0 a1 a2 a3 a4 a5 a6 a7 a8 a9 s0 ++ (wX2 E a1 s1 h1 ++ (wX2 E a2 s2 h2 ++ (wX1 E a3 s3 ++ (wX2 E a4 s4 h4 ++ (wX1 E a5 s5 ++ (wX5 E a6 s6 ++ (wX3 E a7 s7 ++ (wX0 E a8 s8 ++ (wX6 E a9 s9 t9)))))))))) ++ sW E.2.1 L) s.heap.size = A0 at hD0 hA hAB ⊢
  have hDD : ∀ (s0 : St) (s1 : St) (h1 : Option SR) (s2 : St) (h2 : Option SR) (s3 : St) (s4 : St) (h4 : Option SR) (s5 : St) (s6 : St) (s7 : St) (s8 : St) (s9 : St) (t9 : Nat → Nat → Int64), va_D A0 ((wX7o E a0 a1 a2 a3 a4 a5 a6 a7 a8 a9 s0 ++ (wX2 E a1 s1 h1 ++ (wX2 E a2 s2 h2 ++ (wX1 E a3 s3 ++ (wX2 E a4 s4 h4 ++ (wX1 E a5 s5 ++ (wX5 E a6 s6 ++ (wX3 E a7 s7 ++ (wX0 E a8 s8 ++ (wX6 E a9 s9 t9)))))))))) ++ sW E.2.1 L) := fun s0 s1 h1 s2 h2 s3 s4 h4 s5 s6 s7 s8 s9 t9 => vD_addr hD0 rfl
  have hS : va_S A0 s.heap s.heap [] := va_S.rf
  have hl := lv_entry ([.ref (a0 0), .int p1]) (n := 2) (Nat.le_of_ble_eq_true rfl)
  rw [lg_entry_eq]
  generalize (lg_sl ([.ref (a0 0), .int p1]) ++ List.replicate (2 - (lg_sl ([.ref (a0 0), .int p1])).length) Slot.unset).toArray = ls at hl ⊢
  have hl : lv_has ls 2 [(0, .ref (a0 0)), (1, .int p1)] := hl
  refine lv_iload_n hx hb dX7_trace_0 rfl (lv_at hl 1 rfl) ?_
  refine lv_if_lt (tgt := 27) hx hb dX7_trace_1 (by decide) (fun c_1 => ?_) (fun c_1 => ?_)
  · have hf := ite_t c_1 hf
    refine lv_iconst (v := (-1)) hx hb dX7_trace_27 (by decide) ?_
    have e9 := Option.some.inj hf
    exact rt_i hx hb hr hlocks e9 hP hS dX7_trace_28
  · have hf := ite_f c_1 hf
    refine lv_iload_n hx hb dX7_trace_4 rfl (lv_at hl 1 rfl) ?_
    refine lv_aload_n hx hb dX7_trace_5 rfl (lv_at hl 0 rfl) ?_
    refine va_get (ci := 7) (C := RX7) (T := TX7) (N := 11) (v := .ref (a8 0)) hx hb hts i_X7_trace_X7 hown hK hP 0 rfl rfl 9 (by decide) (hts _ m_X7_trace_e811b9) (fun _ h9 => h9) rfl dX7_trace_6 ?_
    obtain ⟨q9, hc_9, hf⟩ := cl_e hf
    have hm_9 : ∀ q ∈ wX0 E a8 s8, q ∈ (wX7o E a0 a1 a2 a3 a4 a5 a6 a7 a8 a9 s0 ++ (wX2 E a1 s1 h1 ++ (wX2 E a2 s2 h2 ++ (wX1 E a3 s3 ++ (wX2 E a4 s4 h4 ++ (wX1 E a5 s5 ++ (wX5 E a6 s6 ++ (wX3 E a7 s7 ++ (wX0 E a8 s8 ++ (wX6 E a9 s9 t9)))))))))) ++ sW E.2.1 L := (inl_mem (sub_mem (suf := []) [44, 45] rfl))
    refine fin_i (E := E) (wc := wX0 E a8 s8) (wc' := wX0 E a8 s8) (va_runVN (As := []) (rest := [.int p1]) ⟨hx, hb, hml, hown, hts⟩ (k_X0_keptCount l E a8 N s8 q9 hc_9 _) ⟨va_cnB 0 hts gX7_trace_X0_keptCount_n274 rfl rfl rfl (hG.1 (.methodLinkNest "PickedMatch" 274 yX0_keptCount "PickedMatch") (by decide +kernel)) (hts _ m_X7_trace_a93c50) (by decide +kernel) ⟨(Nat.le_of_ble_eq_true rfl), (Nat.le_of_ble_eq_true rfl)⟩, (hts _ m_X7_trace_b72df4), (hts _ m_X7_trace_9a27ef)⟩ (pre_v (ci := 0) (q0 := 0) hK (sub_P hm_9 hP) (sub_Dn (ws := wX7o E a0 a1 a2 a3 a4 a5 a6 a7 a8 a9 s0 ++ (wX2 E a1 s1 h1 ++ (wX2 E a2 s2 h2 ++ (wX1 E a3 s3 ++ (wX2 E a4 s4 h4 ++ (wX1 E a5 s5 ++ (wX5 E a6 s6 ++ (wX3 E a7 s7 ++ (wX0 E a8 s8 ++ (wX6 E a9 s9 t9)))))))))) (wc := wX0 E a8 s8) (suf := sW E.2.1 L) [44, 45] (by decide) rfl (hDD s0 s1 h1 s2 h2 s3 s4 h4 s5 s6 s7 s8 s9 t9)) hS hG hAB rfl rfl) rfl rfl hl.1 rfl (lv_room (Nat.le_of_ble_eq_true rfl)) dX7_trace_9 ⟨Nat.zero_le _, Nat.zero_le _⟩) hS (w_free (hDD s0 s1 h1 s2 h2 s3 s4 h4 s5 s6 s7 s8 s9 t9) hS hA hm_9) (fun H locs hP1 hk hS => ?_)
    have hP := w_join (ws' := wX7o E a0 a1 a2 a3 a4 a5 a6 a7 a8 a9 s0 ++ (wX2 E a1 s1 h1 ++ (wX2 E a2 s2 h2 ++ (wX1 E a3 s3 ++ (wX2 E a4 s4 h4 ++ (wX1 E a5 s5 ++ (wX5 E a6 s6 ++ (wX3 E a7 s7 ++ (wX0 E a8 s8 ++ (wX6 E a9 s9 t9)))))))))) (wc := wX0 E a8 s8) (wc' := wX0 E a8 s8) hP (hDD s0 s1 h1 s2 h2 s3 s4 h4 s5 s6 s7 s8 s9 t9) [44, 45] rfl [none, none, none, none, none, none, none, none, none, none, none, none, none, none, none, none, none, none, none, none, none, none, none, none, none, none, none, none, none, none, none, none, none, none, none, none, none, none, none, none, none, none, none, none, some 0, some 1, none, none, none, none] rfl rfl hk hP1
    refine lv_icmp_ge (tgt := 27) hx hb dX7_trace_12 (by decide) (fun c_12 => ?_) (fun c_12 => ?_)
    · have hf := ite_t c_12 hf
      refine lv_iconst (v := (-1)) hx hb dX7_trace_27 (by decide) ?_
      have e9 := Option.some.inj hf
      exact rt_i hx hb hr hlocks e9 hP hS dX7_trace_28
    · have hf := ite_f c_12 hf
      refine lv_aload_n hx hb dX7_trace_15 rfl (lv_at hl 0 rfl) ?_
      refine va_get (ci := 7) (C := RX7) (T := TX7) (N := 11) (v := .ref (a8 0)) hx hb hts i_X7_trace_X7 hown hK hP 0 rfl rfl 9 (by decide) (hts _ m_X7_trace_e811b9) (fun _ h9 => h9) rfl dX7_trace_16 ?_
      refine va_getN (ci := 0) (C := RX0) (T := TX0) (N := 5) (v := .ref (a8 1)) hx hb hts i_X7_trace_X0 hown hK hP 44 rfl rfl 0 (by decide) (nwG hG (w := .fieldLinkNest "PickedMatch" 277 "PickedMatch$Acts" "bodies" "[I" "PickedMatch") (by decide +kernel)) (fun _ h9 => h9) rfl dX7_trace_19 ?_
      refine lv_iload_n hx hb dX7_trace_22 rfl (lv_at hl 1 rfl) ?_
      obtain ⟨h_23, hf⟩ := ck_e hf
      refine va_iald (cA := E.2.1) (n := 20) (f := s8 0) hx hb hK hP 45 0 rfl rfl h_23 dX7_trace_23 ?_
      refine lv_goto (tgt := 28) hx hb dX7_trace_24 (by decide) ?_
      have e9 := Option.some.inj hf
      exact rt_i hx hb hr hlocks e9 hP hS dX7_trace_28
abbrev rm_X7_isUnder : Room := { frames := 0, cells := 0, slots := 0, locals := 0 }
theorem m_X7_isUnder_ba6e3c : Cond.fieldLink RX7 305 "PickedMatch" "KIND_ABOVE" "[I" ∈ wsX7_isUnder := by decide +kernel
set_option maxHeartbeats 8000000 in
set_option maxRecDepth 100000 in
theorem k_X7_isUnder (l : Launch) (E : Ev) (N : Nat) (p0 : Int32) (p1 : Int32) (q : (Int32)) (hf : f_X7_isUnder N p0 p1 = some q) : Ci l yX7_isUnder wsX7_isUnder rm_X7_isUnder E [.int p0, .int p1] (([] : va_W)) (([] : va_W)) q := by
  unfold f_X7_isUnder at hf
  intro sz
  refine Met.ofW (cc := cX7_isUnder) (maxL := 4) (ret := (some .boolean)) (by decide) rfl ?_
  intro p e s m args below meth c s₁ B hml hv
  obtain ⟨rfl, hsz, hP, hK, hD0, hG, hA, hAB⟩ := start hv
  have hx := B.exec
  have hb := B.bytes
  have hr := B.returns
  have hts := atoms_spec (ws := wsX7_isUnder) B.pre
  have hown : s.vm.findClass RX7 = some m.cls := findClass_of_methodNamed B.named
  have hlocks := B.notSynchronized
  subst hsz
  generalize va_A (([] : va_W)) s.heap.size = A0 at hD0 hA hAB ⊢
  have hDD : va_D A0 (([] : va_W)) := hD0
  have hS : va_S A0 s.heap s.heap [] := va_S.rf
  have hl := lv_entry ([.int p0, .int p1]) (n := 4) (Nat.le_of_ble_eq_true rfl)
  rw [lg_entry_eq]
  generalize (lg_sl ([.int p0, .int p1]) ++ List.replicate (4 - (lg_sl ([.int p0, .int p1])).length) Slot.unset).toArray = ls at hl ⊢
  have hl : lv_has ls 4 [(0, .int p0), (1, .int p1)] := hl
  have hL_4 : ∀ (v1 : Int32) (n_4 : Nat) (v2 : Int32) (v3 : Int32), l_X7_isUnder_4 N v1 n_4 v2 v3 = some q → ∀ (H : Heap) (locs : List Loc) (ls : Array Slot), va_P E.1 vwCl (([] : va_W)) H → va_S A0 s.heap H locs → lv_has ls 4 [(1, .int v1), (2, .int v2), (3, .int v3)] → W p l e rm_X7_isUnder s m ([.int p0, .int p1] : List Value).toArray below meth c H locs 0 0 (MQ below (va_Qi (fun (r' : Int32) (_ : Unit) => r' = q) (fun _ t => va_P E.1 vwCl (([] : va_W)) t.heap) A0) ([.int p0, .int p1] : List Value).toArray s 0 0 A0) (F0 m 4 ls []) := by
    intro v1 n_4
    induction n_4 with
    | zero => intro v2 v3 hf; rw [l_X7_isUnder_4] at hf; cases hf
    | succ n_4 ih_4 =>
      intro v2 v3 hf H locs ls hP hS hl
      rw [l_X7_isUnder_4] at hf
      refine lv_iload_n hx hb dX7_isUnder_4 rfl (lv_at hl 2 rfl) ?_
      refine va_gets hx hb (hG.2.2.1.1.narrow hAB) hS hown (hts _ m_X7_isUnder_ba6e3c) (fun _ h9 => h9) dX7_isUnder_5 ?_
      refine va_tlen (v := 7) hx hb (hG.2.2.1.2.1.narrow hAB) hS rfl dX7_isUnder_8 ?_
      refine lv_icmp_ge (tgt := 45) hx hb dX7_isUnder_9 (by decide) (fun c_9 => ?_) (fun c_9 => ?_)
      · have hf := ite_t c_9 hf
        refine lv_iconst (v := 0) hx hb dX7_isUnder_45 (by decide) ?_
        have e9 := Option.some.inj hf
        exact rt_z hx hb hr rfl hlocks e9 hP hS dX7_isUnder_46
      · have hf := ite_f c_9 hf
        refine lv_iload_n hx hb dX7_isUnder_12 rfl (lv_at hl 1 rfl) ?_
        refine lv_iload_n hx hb dX7_isUnder_13 rfl (lv_at hl 0 rfl) ?_
        refine lv_icmp_ne (tgt := 19) hx hb dX7_isUnder_14 (by decide) (fun c_14 => ?_) (fun c_14 => ?_)
        · have hf := ite_f c_14 hf
          refine lv_iload_n hx hb dX7_isUnder_19 rfl (lv_at hl 1 rfl) ?_
          refine lv_if_lt (tgt := 31) hx hb dX7_isUnder_20 (by decide) (fun c_20 => ?_) (fun c_20 => ?_)
          · have hf := ite_t c_20 hf
            refine lv_iconst (v := 0) hx hb dX7_isUnder_31 (by decide) ?_
            have e9 := Option.some.inj hf
            exact rt_z hx hb hr rfl hlocks e9 hP hS dX7_isUnder_32
          · have hf := ite_f c_20 hf
            refine lv_iload_n hx hb dX7_isUnder_23 rfl (lv_at hl 1 rfl) ?_
            refine va_gets hx hb (hG.2.2.1.1.narrow hAB) hS hown (hts _ m_X7_isUnder_ba6e3c) (fun _ h9 => h9) dX7_isUnder_24 ?_
            refine va_tlen (v := 7) hx hb (hG.2.2.1.2.1.narrow hAB) hS rfl dX7_isUnder_27 ?_
            refine lv_icmp_lt (tgt := 33) hx hb dX7_isUnder_28 (by decide) (fun c_28 => ?_) (fun c_28 => ?_)
            · have hf := ite_t c_28 hf
              refine va_gets hx hb (hG.2.2.1.1.narrow hAB) hS hown (hts _ m_X7_isUnder_ba6e3c) (fun _ h9 => h9) dX7_isUnder_33 ?_
              refine lv_iload_n hx hb dX7_isUnder_36 rfl (lv_at hl 1 rfl) ?_
              obtain ⟨h_37, hf⟩ := ck_e hf
              refine va_ti (v := .int (ka v2.toNatClampNeg)) hx hb (hG.2.2.1.2.1.narrow hAB) hS h_37 rfl dX7_isUnder_37 ?_
              refine lv_topi (fun x38 e_x38 => ?_)
              have hf := nm_q e_x38 hf
              refine lv_istore_n (lv' := [(2, .int x38), (1, .int v1), (3, .int v3)]) hx hb dX7_isUnder_38 rfl hl (Nat.le_of_ble_eq_true rfl) rfl (fun ls hl => ?_)
              obtain ⟨x39, e_x39⟩ : ∃ y : Int32, y = v3 + 1 := ⟨_, rfl⟩
              have hf := nm_q e_x39 hf
              refine lv_iinc (v := x39) (lv' := [(3, .int x39), (2, .int x38), (1, .int v1)]) hx hb dX7_isUnder_39 hl (k := 2) rfl (by rw [e_x39]; rfl) (Nat.le_of_ble_eq_true rfl) rfl (fun ls hl => ?_)
              refine lv_goto (tgt := 4) hx hb dX7_isUnder_42 (by decide) ?_
              exact ih_4 x38 x39 hf _ _ _ hP hS (lv_sub hl [2, 1, 0] rfl)
            · have hf := ite_f c_28 hf
              refine lv_iconst (v := 0) hx hb dX7_isUnder_31 (by decide) ?_
              have e9 := Option.some.inj hf
              exact rt_z hx hb hr rfl hlocks e9 hP hS dX7_isUnder_32
        · have hf := ite_t c_14 hf
          refine lv_iconst (v := 1) hx hb dX7_isUnder_17 (by decide) ?_
          have e9 := Option.some.inj hf
          exact rt_z hx hb hr rfl hlocks e9 hP hS dX7_isUnder_18
  refine lv_iload_n hx hb dX7_isUnder_0 rfl (lv_at hl 0 rfl) ?_
  refine lv_istore_n (lv' := [(2, .int p0), (0, .int p0), (1, .int p1)]) hx hb dX7_isUnder_1 rfl hl (Nat.le_of_ble_eq_true rfl) rfl (fun ls hl => ?_)
  refine lv_iconst (v := 0) hx hb dX7_isUnder_2 (by decide) ?_
  refine lv_istore_n (lv' := [(3, .int 0), (2, .int p0), (0, .int p0), (1, .int p1)]) hx hb dX7_isUnder_3 rfl hl (Nat.le_of_ble_eq_true rfl) rfl (fun ls hl => ?_)
  exact hL_4 p1 N p0 0 hf _ _ _ hP hS (lv_sub hl [3, 1, 0] rfl)
abbrev rm_X7_taken : Room := { frames := 1, cells := 0, slots := 0, locals := 23 }
theorem m_X7_taken_265b14 : Cond.fieldLink RX7 12 "PickedMatch" "scene" "LPickedMatch$Scene;" ∈ wsX7_taken := by decide +kernel
theorem i_X7_taken_X7 : ∀ w ∈ wsX70, w ∈ wsX7_taken := fun _ h => List.mem_cons_of_mem _ (List.mem_append_left _ (List.mem_append_right _ h))
theorem m_X7_taken_4cf9d8 : Cond.initialized RX2 ∈ wsX7_taken := by decide +kernel
theorem m_X7_taken_0211d8 : Cond.instanceMethod yX2_hasThing ∈ wsX7_taken := by decide +kernel
theorem m_X7_taken_6099ba : Cond.selects RX2 yX2_hasThing yX2_hasThing ∈ wsX7_taken := by decide +kernel
theorem i_X7_taken_X2 : ∀ w ∈ wsX20, w ∈ wsX7_taken := fun _ h => List.mem_cons_of_mem _ (List.mem_append_right _ h)
set_option maxHeartbeats 8000000 in
set_option maxRecDepth 100000 in
theorem k_X7_taken (l : Launch) (E : Ev) (a0 : Nat → Nat) (a1 : Nat → Nat) (a2 : Nat → Nat) (a3 : Nat → Nat) (a4 : Nat → Nat) (a5 : Nat → Nat) (a6 : Nat → Nat) (a7 : Nat → Nat) (a8 : Nat → Nat) (a9 : Nat → Nat) (L : List SR) (N : Nat) (s0 : St) (s1 : St) (h1 : Option SR) (s2 : St) (h2 : Option SR) (s3 : St) (s4 : St) (h4 : Option SR) (s5 : St) (s6 : St) (s7 : St) (s8 : St) (s9 : St) (t9 : Nat → Nat → Int64) (p1 : Int32) (p2 : Int32) (q : (Int32)) (hf : f_X7_taken N s1 p1 p2 = some q) : Ci l yX7_taken wsX7_taken rm_X7_taken E [.ref (a0 0), .int p1, .int p2] ((wX7o E a0 a1 a2 a3 a4 a5 a6 a7 a8 a9 s0 ++ (wX2 E a1 s1 h1 ++ (wX2 E a2 s2 h2 ++ (wX1 E a3 s3 ++ (wX2 E a4 s4 h4 ++ (wX1 E a5 s5 ++ (wX5 E a6 s6 ++ (wX3 E a7 s7 ++ (wX0 E a8 s8 ++ (wX6 E a9 s9 t9)))))))))) ++ sW E.2.1 L) ((wX7o E a0 a1 a2 a3 a4 a5 a6 a7 a8 a9 s0 ++ (wX2 E a1 s1 h1 ++ (wX2 E a2 s2 h2 ++ (wX1 E a3 s3 ++ (wX2 E a4 s4 h4 ++ (wX1 E a5 s5 ++ (wX5 E a6 s6 ++ (wX3 E a7 s7 ++ (wX0 E a8 s8 ++ (wX6 E a9 s9 t9)))))))))) ++ sW E.2.1 L) q := by
  unfold f_X7_taken at hf
  intro sz
  refine Met.ofW (cc := cX7_taken) (maxL := 4) (ret := (some .int)) (by decide) rfl ?_
  intro p e s m args below meth c s₁ B hml hpre
  obtain ⟨rfl, hsz, hP, hK, hD0, hG, hA, hAB⟩ := start hpre
  have hx := B.exec
  have hb := B.bytes
  have hr := B.returns
  have hts := atoms_spec (ws := wsX7_taken) B.pre
  have hown : s.vm.findClass RX7 = some m.cls := findClass_of_methodNamed B.named
  have hlocks := B.notSynchronized
  subst hsz
  generalize va_A ((wX7o E a0 a1 a2 a3 a4 a5 a6 a7 a8 a9 s0 ++ (wX2 E a1 s1 h1 ++ (wX2 E a2 s2 h2 ++ (wX1 E a3 s3 ++ (wX2 E a4 s4 h4 ++ (wX1 E a5 s5 ++ (wX5 E a6 s6 ++ (wX3 E a7 s7 ++ (wX0 E a8 s8 ++ (wX6 E a9 s9 t9)))))))))) ++ sW E.2.1 L) s.heap.size = A0 at hD0 hA hAB ⊢
  have hDD : ∀ (s0 : St) (s1 : St) (h1 : Option SR) (s2 : St) (h2 : Option SR) (s3 : St) (s4 : St) (h4 : Option SR) (s5 : St) (s6 : St) (s7 : St) (s8 : St) (s9 : St) (t9 : Nat → Nat → Int64), va_D A0 ((wX7o E a0 a1 a2 a3 a4 a5 a6 a7 a8 a9 s0 ++ (wX2 E a1 s1 h1 ++ (wX2 E a2 s2 h2 ++ (wX1 E a3 s3 ++ (wX2 E a4 s4 h4 ++ (wX1 E a5 s5 ++ (wX5 E a6 s6 ++ (wX3 E a7 s7 ++ (wX0 E a8 s8 ++ (wX6 E a9 s9 t9)))))))))) ++ sW E.2.1 L) := fun s0 s1 h1 s2 h2 s3 s4 h4 s5 s6 s7 s8 s9 t9 => vD_addr hD0 rfl
  have hS : va_S A0 s.heap s.heap [] := va_S.rf
  have hl := lv_entry ([.ref (a0 0), .int p1, .int p2]) (n := 4) (Nat.le_of_ble_eq_true rfl)
  rw [lg_entry_eq]
  generalize (lg_sl ([.ref (a0 0), .int p1, .int p2]) ++ List.replicate (4 - (lg_sl ([.ref (a0 0), .int p1, .int p2])).length) Slot.unset).toArray = ls at hl ⊢
  have hl : lv_has ls 4 [(0, .ref (a0 0)), (1, .int p1), (2, .int p2)] := hl
  refine lv_iload_n hx hb dX7_taken_0 rfl (lv_at hl 2 rfl) ?_
  refine lv_iconst (v := 0) hx hb dX7_taken_1 (by decide) ?_
  refine lv_bipush (v := 6) hx hb dX7_taken_2 (by decide) ?_
  obtain ⟨q4, hc_4, hf⟩ := cl_e hf
  refine fin_i (E := E) (wc := ([] : va_W)) (wc' := ([] : va_W)) (va_runS (As := [.int p2, .int 0, .int 6]) (rest := []) ⟨hx, hb, hml, hown, hts⟩ (k_X7_isWithin l E N p2 0 6 q4 hc_4 _) (va_cwS 3 hts gX7_taken_X7_isWithin rfl rfl rfl (by decide +kernel) ⟨(Nat.le_of_ble_eq_true rfl), (Nat.le_of_ble_eq_true rfl)⟩) (pre_s hK va_P_nil va_D_nil hS hG hAB) rfl rfl hl.1 rfl (lv_room (Nat.le_of_ble_eq_true rfl)) dX7_taken_4 ⟨Nat.zero_le _, Nat.zero_le _⟩) hS (free_nil hS hA) (fun H locs hP1 hk hS => ?_)
  have hP := w_kept0 hP hk
  refine lv_if_ne (tgt := 13) hx hb dX7_taken_7 (by decide) (fun c_7 => ?_) (fun c_7 => ?_)
  · have hf := ite_f c_7 hf
    refine lv_aload_n hx hb dX7_taken_13 rfl (lv_at hl 0 rfl) ?_
    refine va_get (ci := 7) (C := RX7) (T := TX7) (N := 11) (v := .ref (a1 0)) hx hb hts i_X7_taken_X7 hown hK hP 0 rfl rfl 0 (by decide) (hts _ m_X7_taken_265b14) (fun _ h9 => h9) rfl dX7_taken_14 ?_
    refine lv_iload_n hx hb dX7_taken_17 rfl (lv_at hl 1 rfl) ?_
    obtain ⟨q18, hc_18, hf⟩ := cl_e hf
    have hm_18 : ∀ q ∈ (wX2 E a1 s1 h1) ++ sW E.2.1 L, q ∈ (wX7o E a0 a1 a2 a3 a4 a5 a6 a7 a8 a9 s0 ++ (wX2 E a1 s1 h1 ++ (wX2 E a2 s2 h2 ++ (wX1 E a3 s3 ++ (wX2 E a4 s4 h4 ++ (wX1 E a5 s5 ++ (wX5 E a6 s6 ++ (wX3 E a7 s7 ++ (wX0 E a8 s8 ++ (wX6 E a9 s9 t9)))))))))) ++ sW E.2.1 L := (app_mem (sub_mem (suf := []) [1, 2, 3, 4, 5, 6, 7] rfl))
    refine fin_i (E := E) (wc := (wX2 E a1 s1 h1) ++ sW E.2.1 L) (wc' := (wX2 E a1 s1 h1) ++ sW E.2.1 L) (va_runVN (As := [.int p1]) (rest := []) ⟨hx, hb, hml, hown, hts⟩ (k_X2_hasThing l E a1 L N s1 h1 p1 q18 hc_18 _) ⟨va_cnB 1 hts gX7_taken_X2_hasThing_n74 rfl rfl rfl (hG.1 (.methodLinkNest "PickedMatch" 74 yX2_hasThing "PickedMatch") (by decide +kernel)) (hts _ m_X7_taken_4cf9d8) (by decide +kernel) ⟨(Nat.le_of_ble_eq_true rfl), (Nat.le_of_ble_eq_true rfl)⟩, (hts _ m_X7_taken_0211d8), (hts _ m_X7_taken_6099ba)⟩ (pre_v (ci := 2) (q0 := 0) hK (sub_P hm_18 hP) (sub_Ds (ws := wX7o E a0 a1 a2 a3 a4 a5 a6 a7 a8 a9 s0 ++ (wX2 E a1 s1 h1 ++ (wX2 E a2 s2 h2 ++ (wX1 E a3 s3 ++ (wX2 E a4 s4 h4 ++ (wX1 E a5 s5 ++ (wX5 E a6 s6 ++ (wX3 E a7 s7 ++ (wX0 E a8 s8 ++ (wX6 E a9 s9 t9)))))))))) (wc := wX2 E a1 s1 h1) (suf := sW E.2.1 L) [1, 2, 3, 4, 5, 6, 7] (by decide) rfl (hDD s0 s1 h1 s2 h2 s3 s4 h4 s5 s6 s7 s8 s9 t9)) hS hG hAB rfl rfl) rfl rfl hl.1 rfl (lv_room (Nat.le_of_ble_eq_true rfl)) dX7_taken_18 ⟨Nat.zero_le _, Nat.zero_le _⟩) hS (w_free (hDD s0 s1 h1 s2 h2 s3 s4 h4 s5 s6 s7 s8 s9 t9) hS hA hm_18) (fun H locs hP1 hk hS => ?_)
    have hP := w_joins (ws' := wX7o E a0 a1 a2 a3 a4 a5 a6 a7 a8 a9 s0 ++ (wX2 E a1 s1 h1 ++ (wX2 E a2 s2 h2 ++ (wX1 E a3 s3 ++ (wX2 E a4 s4 h4 ++ (wX1 E a5 s5 ++ (wX5 E a6 s6 ++ (wX3 E a7 s7 ++ (wX0 E a8 s8 ++ (wX6 E a9 s9 t9)))))))))) (wc := wX2 E a1 s1 h1) (wc' := wX2 E a1 s1 h1) hP (hDD s0 s1 h1 s2 h2 s3 s4 h4 s5 s6 s7 s8 s9 t9) [1, 2, 3, 4, 5, 6, 7] rfl [none, some 0, some 1, some 2, some 3, some 4, some 5, some 6, none, none, none, none, none, none, none, none, none, none, none, none, none, none, none, none, none, none, none, none, none, none, none, none, none, none, none, none, none, none, none, none, none, none, none, none, none, none, none, none, none, none] rfl rfl hk hP1
    refine lv_if_ne (tgt := 27) hx hb dX7_taken_21 (by decide) (fun c_21 => ?_) (fun c_21 => ?_)
    · have hf := ite_f c_21 hf
      refine lv_aload_n hx hb dX7_taken_27 rfl (lv_at hl 0 rfl) ?_
      refine va_get (ci := 7) (C := RX7) (T := TX7) (N := 11) (v := .ref (a1 0)) hx hb hts i_X7_taken_X7 hown hK hP 0 rfl rfl 0 (by decide) (hts _ m_X7_taken_265b14) (fun _ h9 => h9) rfl dX7_taken_28 ?_
      refine va_getN (ci := 2) (C := RX2) (T := TX2) (N := 11) (v := .ref (a1 1)) hx hb hts i_X7_taken_X2 hown hK hP 1 rfl rfl 1 (by decide) (nwG hG (w := .fieldLinkNest "PickedMatch" 78 "PickedMatch$Scene" "kinds" "[I" "PickedMatch") (by decide +kernel)) (fun _ h9 => h9) rfl dX7_taken_31 ?_
      refine lv_iload_n hx hb dX7_taken_34 rfl (lv_at hl 1 rfl) ?_
      obtain ⟨h_35, hf⟩ := ck_e hf
      refine va_iald (cA := E.2.1) (n := 6) (f := s1 1) hx hb hK hP 2 0 rfl rfl h_35 dX7_taken_35 ?_
      refine lv_topi (fun x36 e_x36 => ?_)
      have hf := nm_q e_x36 hf
      refine lv_istore_n (lv' := [(3, .int x36), (0, .ref (a0 0)), (1, .int p1), (2, .int p2)]) hx hb dX7_taken_36 rfl hl (Nat.le_of_ble_eq_true rfl) rfl (fun ls hl => ?_)
      refine lv_iload_n hx hb dX7_taken_37 rfl (lv_at hl 0 rfl) ?_
      refine lv_iload_n hx hb dX7_taken_38 rfl (lv_at hl 3 rfl) ?_
      obtain ⟨q39, hc_39, hf⟩ := cl_e hf
      refine fin_i (E := E) (wc := ([] : va_W)) (wc' := ([] : va_W)) (va_runS (As := [.int x36, .int p2]) (rest := []) ⟨hx, hb, hml, hown, hts⟩ (k_X7_isUnder l E N x36 p2 q39 hc_39 _) (va_cwS 2 hts gX7_taken_X7_isUnder rfl rfl rfl (by decide +kernel) ⟨(Nat.le_of_ble_eq_true rfl), (Nat.le_of_ble_eq_true rfl)⟩) (pre_s hK va_P_nil va_D_nil hS hG hAB) rfl rfl hl.1 rfl (lv_room (Nat.le_of_ble_eq_true rfl)) dX7_taken_39 ⟨Nat.zero_le _, Nat.zero_le _⟩) hS (free_nil hS hA) (fun H locs hP1 hk hS => ?_)
      have hP := w_kept0 hP hk
      refine lv_if_eq (tgt := 49) hx hb dX7_taken_42 (by decide) (fun c_42 => ?_) (fun c_42 => ?_)
      · have hf := ite_t c_42 hf
        refine lv_bipush (v := (-12)) hx hb dX7_taken_49 (by decide) ?_
        have e9 := Option.some.inj hf
        exact rt_i hx hb hr hlocks e9 hP hS dX7_taken_51
      · have hf := ite_f c_42 hf
        refine lv_iload_n hx hb dX7_taken_45 rfl (lv_at hl 0 rfl) ?_
        refine lv_goto (tgt := 51) hx hb dX7_taken_46 (by decide) ?_
        have e9 := Option.some.inj hf
        exact rt_i hx hb hr hlocks e9 hP hS dX7_taken_51
    · have hf := ite_t c_21 hf
      refine lv_bipush (v := (-11)) hx hb dX7_taken_24 (by decide) ?_
      have e9 := Option.some.inj hf
      exact rt_i hx hb hr hlocks e9 hP hS dX7_taken_26
  · have hf := ite_t c_7 hf
    refine lv_bipush (v := (-2)) hx hb dX7_taken_10 (by decide) ?_
    have e9 := Option.some.inj hf
    exact rt_i hx hb hr hlocks e9 hP hS dX7_taken_12
