/-! ===== what the methods compute, and that they do: by program out of the bytecode (wip/gen) ===== -/
abbrev rm_X7_told : Room := { frames := 5, cells := 0, slots := 0, locals := 117 }
theorem m_X7_told_265b14 : Cond.fieldLink RX7 12 "PickedMatch" "scene" "LPickedMatch$Scene;" ∈ wsX7_told := by decide +kernel
theorem i_X7_told_X7 : ∀ w ∈ wsX70, w ∈ wsX7_told := fun _ h => List.mem_cons_of_mem _ (List.mem_append_left _ (List.mem_append_left _ (List.mem_append_right _ h)))
theorem i_X7_told_X2 : ∀ w ∈ wsX20, w ∈ wsX7_told := fun _ h => List.mem_cons_of_mem _ (List.mem_append_left _ (List.mem_append_right _ h))
theorem m_X7_told_4cf9d8 : Cond.initialized RX2 ∈ wsX7_told := by decide +kernel
theorem m_X7_told_aa7d6f : Cond.instanceMethod yX2_needNow ∈ wsX7_told := by decide +kernel
theorem m_X7_told_813212 : Cond.selects RX2 yX2_needNow yX2_needNow ∈ wsX7_told := by decide +kernel
theorem m_X7_told_6b9562 : Cond.instanceMethod yX2_holdNow ∈ wsX7_told := by decide +kernel
theorem m_X7_told_b35831 : Cond.selects RX2 yX2_holdNow yX2_holdNow ∈ wsX7_told := by decide +kernel
theorem m_X7_told_9409db : Cond.instanceMethod yX2_goingBits ∈ wsX7_told := by decide +kernel
theorem m_X7_told_433acd : Cond.selects RX2 yX2_goingBits yX2_goingBits ∈ wsX7_told := by decide +kernel
theorem m_X7_told_b0e80c : Cond.instanceMethod yX2_marksOf ∈ wsX7_told := by decide +kernel
theorem m_X7_told_f506b3 : Cond.selects RX2 yX2_marksOf yX2_marksOf ∈ wsX7_told := by decide +kernel
set_option maxHeartbeats 8000000 in
set_option maxRecDepth 100000 in
theorem k_X7_told (l : Launch) (E : Ev) (a0 : Nat → Nat) (a1 : Nat → Nat) (a2 : Nat → Nat) (a3 : Nat → Nat) (a4 : Nat → Nat) (a5 : Nat → Nat) (a6 : Nat → Nat) (a7 : Nat → Nat) (a8 : Nat → Nat) (a9 : Nat → Nat) (L : List SR) (N : Nat) (s0 : St) (s1 : St) (h1 : Option SR) (s2 : St) (h2 : Option SR) (s3 : St) (s4 : St) (h4 : Option SR) (s5 : St) (s6 : St) (s7 : St) (s8 : St) (s9 : St) (t9 : Nat → Nat → Int64) (p1 : Int32) (q : (Int32 × St)) (hf : f_X7_told N L s1 h1 p1 = some q) : Ci l yX7_told wsX7_told rm_X7_told E [.ref (a0 0), .int p1] ((wX7o E a0 a1 a2 a3 a4 a5 a6 a7 a8 a9 s0 ++ (wX2 E a1 s1 h1 ++ (wX2 E a2 s2 h2 ++ (wX1 E a3 s3 ++ (wX2 E a4 s4 h4 ++ (wX1 E a5 s5 ++ (wX5 E a6 s6 ++ (wX3 E a7 s7 ++ (wX0 E a8 s8 ++ (wX6 E a9 s9 t9)))))))))) ++ sW E.2.1 L) ((wX7o E a0 a1 a2 a3 a4 a5 a6 a7 a8 a9 s0 ++ (wX2 E a1 q.2 h1 ++ (wX2 E a2 s2 h2 ++ (wX1 E a3 s3 ++ (wX2 E a4 s4 h4 ++ (wX1 E a5 s5 ++ (wX5 E a6 s6 ++ (wX3 E a7 s7 ++ (wX0 E a8 s8 ++ (wX6 E a9 s9 t9)))))))))) ++ sW E.2.1 L) q.1 := by
  unfold f_X7_told at hf
  intro sz
  refine Met.ofW (cc := cX7_told) (maxL := 2) (ret := (some .int)) (by decide) rfl ?_
  intro p e s m args below meth c s₁ B hml hpre
  obtain ⟨rfl, hsz, hP, hK, hD0, hG, hA, hAB⟩ := start hpre
  have hx := B.exec
  have hb := B.bytes
  have hr := B.returns
  have hts := atoms_spec (ws := wsX7_told) B.pre
  have hown : s.vm.findClass RX7 = some m.cls := findClass_of_methodNamed B.named
  have hlocks := B.notSynchronized
  subst hsz
  generalize va_A ((wX7o E a0 a1 a2 a3 a4 a5 a6 a7 a8 a9 s0 ++ (wX2 E a1 s1 h1 ++ (wX2 E a2 s2 h2 ++ (wX1 E a3 s3 ++ (wX2 E a4 s4 h4 ++ (wX1 E a5 s5 ++ (wX5 E a6 s6 ++ (wX3 E a7 s7 ++ (wX0 E a8 s8 ++ (wX6 E a9 s9 t9)))))))))) ++ sW E.2.1 L) s.heap.size = A0 at hD0 hA hAB ⊢
  have hDD : ∀ (s0 : St) (s1 : St) (h1 : Option SR) (s2 : St) (h2 : Option SR) (s3 : St) (s4 : St) (h4 : Option SR) (s5 : St) (s6 : St) (s7 : St) (s8 : St) (s9 : St) (t9 : Nat → Nat → Int64), va_D A0 ((wX7o E a0 a1 a2 a3 a4 a5 a6 a7 a8 a9 s0 ++ (wX2 E a1 s1 h1 ++ (wX2 E a2 s2 h2 ++ (wX1 E a3 s3 ++ (wX2 E a4 s4 h4 ++ (wX1 E a5 s5 ++ (wX5 E a6 s6 ++ (wX3 E a7 s7 ++ (wX0 E a8 s8 ++ (wX6 E a9 s9 t9)))))))))) ++ sW E.2.1 L) := fun s0 s1 h1 s2 h2 s3 s4 h4 s5 s6 s7 s8 s9 t9 => vD_addr hD0 rfl
  have hS : va_S A0 s.heap s.heap [] := va_S.rf
  have hl := lv_entry ([.ref (a0 0), .int p1]) (n := 2) (Nat.le_of_ble_eq_true rfl)
  rw [lg_entry_eq]
  generalize (lg_sl ([.ref (a0 0), .int p1]) ++ List.replicate (2 - (lg_sl ([.ref (a0 0), .int p1])).length) Slot.unset).toArray = ls at hl ⊢
  have hl : lv_has ls 2 [(0, .ref (a0 0)), (1, .int p1)] := hl
  refine lv_iload_n hx hb dX7_told_0 rfl (lv_at hl 1 rfl) ?_
  by_cases c_1_0 : p1 = 0
  · have hf := ite_t c_1_0 hf
    refine lv_tableIn (off := 47) (tgt := 48) hx hb dX7_told_1 (by rw [c_1_0]; decide) (by rw [c_1_0]; decide) (by rw [c_1_0]; rfl) (by decide) ?_
    refine lv_aload_n hx hb dX7_told_48 rfl (lv_at hl 0 rfl) ?_
    refine va_get (ci := 7) (C := RX7) (T := TX7) (N := 11) (v := .ref (a1 0)) hx hb hts i_X7_told_X7 hown hK hP 0 rfl rfl 0 (by decide) (hts _ m_X7_told_265b14) (fun _ h9 => h9) rfl dX7_told_49 ?_
    refine va_getN (ci := 2) (C := RX2) (T := TX2) (N := 11) (v := .int (s1 8 0)) hx hb hts i_X7_told_X2 hown hK hP 1 rfl rfl 8 (by decide) (nwG hG (w := .fieldLinkNest "PickedMatch" 152 "PickedMatch$Scene" "day" "I" "PickedMatch") (by decide +kernel)) (fun _ h9 => h9) rfl dX7_told_52 ?_
    have e9 := Option.some.inj hf
    have h9_0 : s1 = q.2 := congrArg (fun z => z.2) e9
    have hP9 : va_P E.1 vwCl ((wX7o E a0 a1 a2 a3 a4 a5 a6 a7 a8 a9 s0 ++ (wX2 E a1 q.2 h1 ++ (wX2 E a2 s2 h2 ++ (wX1 E a3 s3 ++ (wX2 E a4 s4 h4 ++ (wX1 E a5 s5 ++ (wX5 E a6 s6 ++ (wX3 E a7 s7 ++ (wX0 E a8 s8 ++ (wX6 E a9 s9 t9)))))))))) ++ sW E.2.1 L) s.heap := by rw [← h9_0]; exact hP
    exact rt_i hx hb hr hlocks (fst_e e9) hP9 hS dX7_told_55
  · have hf := ite_f c_1_0 hf
    by_cases c_1_1 : p1 = 1
    · have hf := ite_t c_1_1 hf
      refine lv_tableIn (off := 55) (tgt := 56) hx hb dX7_told_1 (by rw [c_1_1]; decide) (by rw [c_1_1]; decide) (by rw [c_1_1]; rfl) (by decide) ?_
      refine lv_aload_n hx hb dX7_told_56 rfl (lv_at hl 0 rfl) ?_
      refine va_get (ci := 7) (C := RX7) (T := TX7) (N := 11) (v := .ref (a1 0)) hx hb hts i_X7_told_X7 hown hK hP 0 rfl rfl 0 (by decide) (hts _ m_X7_told_265b14) (fun _ h9 => h9) rfl dX7_told_57 ?_
      obtain ⟨q60, hc_60, hf⟩ := cl_e hf
      have hm_60 : ∀ q ∈ (wX2 E a1 s1 h1) ++ sW E.2.1 L, q ∈ (wX7o E a0 a1 a2 a3 a4 a5 a6 a7 a8 a9 s0 ++ (wX2 E a1 s1 h1 ++ (wX2 E a2 s2 h2 ++ (wX1 E a3 s3 ++ (wX2 E a4 s4 h4 ++ (wX1 E a5 s5 ++ (wX5 E a6 s6 ++ (wX3 E a7 s7 ++ (wX0 E a8 s8 ++ (wX6 E a9 s9 t9)))))))))) ++ sW E.2.1 L := (app_mem (sub_mem (suf := []) [1, 2, 3, 4, 5, 6, 7] rfl))
      refine fin_i (E := E) (wc := (wX2 E a1 s1 h1) ++ sW E.2.1 L) (wc' := (wX2 E a1 s1 h1) ++ sW E.2.1 L) (va_runVN (As := []) (rest := []) ⟨hx, hb, hml, hown, hts⟩ (k_X2_needNow l E a1 L N s1 h1 q60 hc_60 _) ⟨va_cnB 0 hts gX7_told_X2_needNow_n155 rfl rfl rfl (hG.1 (.methodLinkNest "PickedMatch" 155 yX2_needNow "PickedMatch") (by decide +kernel)) (hts _ m_X7_told_4cf9d8) (by decide +kernel) ⟨(Nat.le_of_ble_eq_true rfl), (Nat.le_of_ble_eq_true rfl)⟩, (hts _ m_X7_told_aa7d6f), (hts _ m_X7_told_813212)⟩ (pre_v (ci := 2) (q0 := 0) hK (sub_P hm_60 hP) (sub_Ds (ws := wX7o E a0 a1 a2 a3 a4 a5 a6 a7 a8 a9 s0 ++ (wX2 E a1 s1 h1 ++ (wX2 E a2 s2 h2 ++ (wX1 E a3 s3 ++ (wX2 E a4 s4 h4 ++ (wX1 E a5 s5 ++ (wX5 E a6 s6 ++ (wX3 E a7 s7 ++ (wX0 E a8 s8 ++ (wX6 E a9 s9 t9)))))))))) (wc := wX2 E a1 s1 h1) (suf := sW E.2.1 L) [1, 2, 3, 4, 5, 6, 7] (by decide) rfl (hDD s0 s1 h1 s2 h2 s3 s4 h4 s5 s6 s7 s8 s9 t9)) hS hG hAB rfl rfl) rfl rfl hl.1 rfl (lv_room (Nat.le_of_ble_eq_true rfl)) dX7_told_60 ⟨Nat.zero_le _, Nat.zero_le _⟩) hS (w_free (hDD s0 s1 h1 s2 h2 s3 s4 h4 s5 s6 s7 s8 s9 t9) hS hA hm_60) (fun H locs hP1 hk hS => ?_)
      have hP := w_joins (ws' := wX7o E a0 a1 a2 a3 a4 a5 a6 a7 a8 a9 s0 ++ (wX2 E a1 s1 h1 ++ (wX2 E a2 s2 h2 ++ (wX1 E a3 s3 ++ (wX2 E a4 s4 h4 ++ (wX1 E a5 s5 ++ (wX5 E a6 s6 ++ (wX3 E a7 s7 ++ (wX0 E a8 s8 ++ (wX6 E a9 s9 t9)))))))))) (wc := wX2 E a1 s1 h1) (wc' := wX2 E a1 s1 h1) hP (hDD s0 s1 h1 s2 h2 s3 s4 h4 s5 s6 s7 s8 s9 t9) [1, 2, 3, 4, 5, 6, 7] rfl [none, some 0, some 1, some 2, some 3, some 4, some 5, some 6, none, none, none, none, none, none, none, none, none, none, none, none, none, none, none, none, none, none, none, none, none, none, none, none, none, none, none, none, none, none, none, none, none, none, none, none, none, none, none, none, none, none] rfl rfl hk hP1
      have e9 := Option.some.inj hf
      have h9_0 : s1 = q.2 := congrArg (fun z => z.2) e9
      have hP9 : va_P E.1 vwCl ((wX7o E a0 a1 a2 a3 a4 a5 a6 a7 a8 a9 s0 ++ (wX2 E a1 q.2 h1 ++ (wX2 E a2 s2 h2 ++ (wX1 E a3 s3 ++ (wX2 E a4 s4 h4 ++ (wX1 E a5 s5 ++ (wX5 E a6 s6 ++ (wX3 E a7 s7 ++ (wX0 E a8 s8 ++ (wX6 E a9 s9 t9)))))))))) ++ sW E.2.1 L) H := by rw [← h9_0]; exact hP
      exact rt_i hx hb hr hlocks (fst_e e9) hP9 hS dX7_told_63
    · have hf := ite_f c_1_1 hf
      by_cases c_1_2 : p1 = 2
      · have hf := ite_t c_1_2 hf
        refine lv_tableIn (off := 63) (tgt := 64) hx hb dX7_told_1 (by rw [c_1_2]; decide) (by rw [c_1_2]; decide) (by rw [c_1_2]; rfl) (by decide) ?_
        refine lv_aload_n hx hb dX7_told_64 rfl (lv_at hl 0 rfl) ?_
        refine va_get (ci := 7) (C := RX7) (T := TX7) (N := 11) (v := .ref (a1 0)) hx hb hts i_X7_told_X7 hown hK hP 0 rfl rfl 0 (by decide) (hts _ m_X7_told_265b14) (fun _ h9 => h9) rfl dX7_told_65 ?_
        obtain ⟨q68, hc_68, hf⟩ := cl_e hf
        have hm_68 : ∀ q ∈ (wX2 E a1 s1 h1) ++ sW E.2.1 L, q ∈ (wX7o E a0 a1 a2 a3 a4 a5 a6 a7 a8 a9 s0 ++ (wX2 E a1 s1 h1 ++ (wX2 E a2 s2 h2 ++ (wX1 E a3 s3 ++ (wX2 E a4 s4 h4 ++ (wX1 E a5 s5 ++ (wX5 E a6 s6 ++ (wX3 E a7 s7 ++ (wX0 E a8 s8 ++ (wX6 E a9 s9 t9)))))))))) ++ sW E.2.1 L := (app_mem (sub_mem (suf := []) [1, 2, 3, 4, 5, 6, 7] rfl))
        refine fin_i (E := E) (wc := (wX2 E a1 s1 h1) ++ sW E.2.1 L) (wc' := (wX2 E a1 s1 h1) ++ sW E.2.1 L) (va_runVN (As := []) (rest := []) ⟨hx, hb, hml, hown, hts⟩ (k_X2_holdNow l E a1 L N s1 h1 q68 hc_68 _) ⟨va_cnB 0 hts gX7_told_X2_holdNow_n158 rfl rfl rfl (hG.1 (.methodLinkNest "PickedMatch" 158 yX2_holdNow "PickedMatch") (by decide +kernel)) (hts _ m_X7_told_4cf9d8) (by decide +kernel) ⟨(Nat.le_of_ble_eq_true rfl), (Nat.le_of_ble_eq_true rfl)⟩, (hts _ m_X7_told_6b9562), (hts _ m_X7_told_b35831)⟩ (pre_v (ci := 2) (q0 := 0) hK (sub_P hm_68 hP) (sub_Ds (ws := wX7o E a0 a1 a2 a3 a4 a5 a6 a7 a8 a9 s0 ++ (wX2 E a1 s1 h1 ++ (wX2 E a2 s2 h2 ++ (wX1 E a3 s3 ++ (wX2 E a4 s4 h4 ++ (wX1 E a5 s5 ++ (wX5 E a6 s6 ++ (wX3 E a7 s7 ++ (wX0 E a8 s8 ++ (wX6 E a9 s9 t9)))))))))) (wc := wX2 E a1 s1 h1) (suf := sW E.2.1 L) [1, 2, 3, 4, 5, 6, 7] (by decide) rfl (hDD s0 s1 h1 s2 h2 s3 s4 h4 s5 s6 s7 s8 s9 t9)) hS hG hAB rfl rfl) rfl rfl hl.1 rfl (lv_room (Nat.le_of_ble_eq_true rfl)) dX7_told_68 ⟨Nat.zero_le _, Nat.zero_le _⟩) hS (w_free (hDD s0 s1 h1 s2 h2 s3 s4 h4 s5 s6 s7 s8 s9 t9) hS hA hm_68) (fun H locs hP1 hk hS => ?_)
        have hP := w_joins (ws' := wX7o E a0 a1 a2 a3 a4 a5 a6 a7 a8 a9 s0 ++ (wX2 E a1 s1 h1 ++ (wX2 E a2 s2 h2 ++ (wX1 E a3 s3 ++ (wX2 E a4 s4 h4 ++ (wX1 E a5 s5 ++ (wX5 E a6 s6 ++ (wX3 E a7 s7 ++ (wX0 E a8 s8 ++ (wX6 E a9 s9 t9)))))))))) (wc := wX2 E a1 s1 h1) (wc' := wX2 E a1 s1 h1) hP (hDD s0 s1 h1 s2 h2 s3 s4 h4 s5 s6 s7 s8 s9 t9) [1, 2, 3, 4, 5, 6, 7] rfl [none, some 0, some 1, some 2, some 3, some 4, some 5, some 6, none, none, none, none, none, none, none, none, none, none, none, none, none, none, none, none, none, none, none, none, none, none, none, none, none, none, none, none, none, none, none, none, none, none, none, none, none, none, none, none, none, none] rfl rfl hk hP1
        have e9 := Option.some.inj hf
        have h9_0 : s1 = q.2 := congrArg (fun z => z.2) e9
        have hP9 : va_P E.1 vwCl ((wX7o E a0 a1 a2 a3 a4 a5 a6 a7 a8 a9 s0 ++ (wX2 E a1 q.2 h1 ++ (wX2 E a2 s2 h2 ++ (wX1 E a3 s3 ++ (wX2 E a4 s4 h4 ++ (wX1 E a5 s5 ++ (wX5 E a6 s6 ++ (wX3 E a7 s7 ++ (wX0 E a8 s8 ++ (wX6 E a9 s9 t9)))))))))) ++ sW E.2.1 L) H := by rw [← h9_0]; exact hP
        exact rt_i hx hb hr hlocks (fst_e e9) hP9 hS dX7_told_71
      · have hf := ite_f c_1_2 hf
        by_cases c_1_3 : p1 = 3
        · have hf := ite_t c_1_3 hf
          refine lv_tableIn (off := 71) (tgt := 72) hx hb dX7_told_1 (by rw [c_1_3]; decide) (by rw [c_1_3]; decide) (by rw [c_1_3]; rfl) (by decide) ?_
          refine lv_aload_n hx hb dX7_told_72 rfl (lv_at hl 0 rfl) ?_
          refine va_get (ci := 7) (C := RX7) (T := TX7) (N := 11) (v := .ref (a1 0)) hx hb hts i_X7_told_X7 hown hK hP 0 rfl rfl 0 (by decide) (hts _ m_X7_told_265b14) (fun _ h9 => h9) rfl dX7_told_73 ?_
          refine va_getN (ci := 2) (C := RX2) (T := TX2) (N := 11) (v := .int (s1 7 0)) hx hb hts i_X7_told_X2 hown hK hP 1 rfl rfl 7 (by decide) (nwG hG (w := .fieldLinkNest "PickedMatch" 161 "PickedMatch$Scene" "hadBits" "I" "PickedMatch") (by decide +kernel)) (fun _ h9 => h9) rfl dX7_told_76 ?_
          have e9 := Option.some.inj hf
          have h9_0 : s1 = q.2 := congrArg (fun z => z.2) e9
          have hP9 : va_P E.1 vwCl ((wX7o E a0 a1 a2 a3 a4 a5 a6 a7 a8 a9 s0 ++ (wX2 E a1 q.2 h1 ++ (wX2 E a2 s2 h2 ++ (wX1 E a3 s3 ++ (wX2 E a4 s4 h4 ++ (wX1 E a5 s5 ++ (wX5 E a6 s6 ++ (wX3 E a7 s7 ++ (wX0 E a8 s8 ++ (wX6 E a9 s9 t9)))))))))) ++ sW E.2.1 L) s.heap := by rw [← h9_0]; exact hP
          exact rt_i hx hb hr hlocks (fst_e e9) hP9 hS dX7_told_79
        · have hf := ite_f c_1_3 hf
          by_cases c_1_4 : p1 = 4
          · have hf := ite_t c_1_4 hf
            refine lv_tableIn (off := 79) (tgt := 80) hx hb dX7_told_1 (by rw [c_1_4]; decide) (by rw [c_1_4]; decide) (by rw [c_1_4]; rfl) (by decide) ?_
            refine lv_aload_n hx hb dX7_told_80 rfl (lv_at hl 0 rfl) ?_
            refine va_get (ci := 7) (C := RX7) (T := TX7) (N := 11) (v := .ref (a1 0)) hx hb hts i_X7_told_X7 hown hK hP 0 rfl rfl 0 (by decide) (hts _ m_X7_told_265b14) (fun _ h9 => h9) rfl dX7_told_81 ?_
            obtain ⟨q84, hc_84, hf⟩ := cl_e hf
            have hm_84 : ∀ q ∈ (wX2 E a1 s1 h1) ++ sW E.2.1 L, q ∈ (wX7o E a0 a1 a2 a3 a4 a5 a6 a7 a8 a9 s0 ++ (wX2 E a1 s1 h1 ++ (wX2 E a2 s2 h2 ++ (wX1 E a3 s3 ++ (wX2 E a4 s4 h4 ++ (wX1 E a5 s5 ++ (wX5 E a6 s6 ++ (wX3 E a7 s7 ++ (wX0 E a8 s8 ++ (wX6 E a9 s9 t9)))))))))) ++ sW E.2.1 L := (app_mem (sub_mem (suf := []) [1, 2, 3, 4, 5, 6, 7] rfl))
            refine fin_i (E := E) (wc := (wX2 E a1 s1 h1) ++ sW E.2.1 L) (wc' := (wX2 E a1 q84.2 h1) ++ sW E.2.1 L) (va_runVN (As := []) (rest := []) ⟨hx, hb, hml, hown, hts⟩ (k_X2_goingBits l E a1 L N s1 h1 q84 hc_84 _) ⟨va_cnB 0 hts gX7_told_X2_goingBits_n164 rfl rfl rfl (hG.1 (.methodLinkNest "PickedMatch" 164 yX2_goingBits "PickedMatch") (by decide +kernel)) (hts _ m_X7_told_4cf9d8) (by decide +kernel) ⟨(Nat.le_of_ble_eq_true rfl), (Nat.le_of_ble_eq_true rfl)⟩, (hts _ m_X7_told_9409db), (hts _ m_X7_told_433acd)⟩ (pre_v (ci := 2) (q0 := 0) hK (sub_P hm_84 hP) (sub_Ds (ws := wX7o E a0 a1 a2 a3 a4 a5 a6 a7 a8 a9 s0 ++ (wX2 E a1 s1 h1 ++ (wX2 E a2 s2 h2 ++ (wX1 E a3 s3 ++ (wX2 E a4 s4 h4 ++ (wX1 E a5 s5 ++ (wX5 E a6 s6 ++ (wX3 E a7 s7 ++ (wX0 E a8 s8 ++ (wX6 E a9 s9 t9)))))))))) (wc := wX2 E a1 s1 h1) (suf := sW E.2.1 L) [1, 2, 3, 4, 5, 6, 7] (by decide) rfl (hDD s0 s1 h1 s2 h2 s3 s4 h4 s5 s6 s7 s8 s9 t9)) hS hG hAB rfl rfl) rfl rfl hl.1 rfl (lv_room (Nat.le_of_ble_eq_true rfl)) dX7_told_84 ⟨Nat.zero_le _, Nat.zero_le _⟩) hS (w_free (hDD s0 s1 h1 s2 h2 s3 s4 h4 s5 s6 s7 s8 s9 t9) hS hA hm_84) (fun H locs hP1 hk hS => ?_)
            have hP := w_joins (ws' := wX7o E a0 a1 a2 a3 a4 a5 a6 a7 a8 a9 s0 ++ (wX2 E a1 q84.2 h1 ++ (wX2 E a2 s2 h2 ++ (wX1 E a3 s3 ++ (wX2 E a4 s4 h4 ++ (wX1 E a5 s5 ++ (wX5 E a6 s6 ++ (wX3 E a7 s7 ++ (wX0 E a8 s8 ++ (wX6 E a9 s9 t9)))))))))) (wc := wX2 E a1 s1 h1) (wc' := wX2 E a1 q84.2 h1) hP (hDD s0 s1 h1 s2 h2 s3 s4 h4 s5 s6 s7 s8 s9 t9) [1, 2, 3, 4, 5, 6, 7] rfl [none, some 0, some 1, some 2, some 3, some 4, some 5, some 6, none, none, none, none, none, none, none, none, none, none, none, none, none, none, none, none, none, none, none, none, none, none, none, none, none, none, none, none, none, none, none, none, none, none, none, none, none, none, none, none, none, none] rfl rfl hk hP1
            have e9 := Option.some.inj hf
            have h9_0 : q84.2 = q.2 := congrArg (fun z => z.2) e9
            have hP9 : va_P E.1 vwCl ((wX7o E a0 a1 a2 a3 a4 a5 a6 a7 a8 a9 s0 ++ (wX2 E a1 q.2 h1 ++ (wX2 E a2 s2 h2 ++ (wX1 E a3 s3 ++ (wX2 E a4 s4 h4 ++ (wX1 E a5 s5 ++ (wX5 E a6 s6 ++ (wX3 E a7 s7 ++ (wX0 E a8 s8 ++ (wX6 E a9 s9 t9)))))))))) ++ sW E.2.1 L) H := by rw [← h9_0]; exact hP
            exact rt_i hx hb hr hlocks (fst_e e9) hP9 hS dX7_told_87
          · have hf := ite_f c_1_4 hf
            by_cases c_1_5 : p1 = 5
            · have hf := ite_t c_1_5 hf
              refine lv_tableIn (off := 87) (tgt := 88) hx hb dX7_told_1 (by rw [c_1_5]; decide) (by rw [c_1_5]; decide) (by rw [c_1_5]; rfl) (by decide) ?_
              refine lv_aload_n hx hb dX7_told_88 rfl (lv_at hl 0 rfl) ?_
              refine va_get (ci := 7) (C := RX7) (T := TX7) (N := 11) (v := .ref (a1 0)) hx hb hts i_X7_told_X7 hown hK hP 0 rfl rfl 0 (by decide) (hts _ m_X7_told_265b14) (fun _ h9 => h9) rfl dX7_told_89 ?_
              refine lv_aload_n hx hb dX7_told_92 rfl (lv_at hl 0 rfl) ?_
              refine va_get (ci := 7) (C := RX7) (T := TX7) (N := 11) (v := .ref (a1 0)) hx hb hts i_X7_told_X7 hown hK hP 0 rfl rfl 0 (by decide) (hts _ m_X7_told_265b14) (fun _ h9 => h9) rfl dX7_told_93 ?_
              refine va_getN (ci := 2) (C := RX2) (T := TX2) (N := 11) (v := .int (s1 7 0)) hx hb hts i_X7_told_X2 hown hK hP 1 rfl rfl 7 (by decide) (nwG hG (w := .fieldLinkNest "PickedMatch" 161 "PickedMatch$Scene" "hadBits" "I" "PickedMatch") (by decide +kernel)) (fun _ h9 => h9) rfl dX7_told_96 ?_
              obtain ⟨q99, hc_99, hf⟩ := cl_e hf
              have hm_99 : ∀ q ∈ (wX2 E a1 s1 h1) ++ sW E.2.1 L, q ∈ (wX7o E a0 a1 a2 a3 a4 a5 a6 a7 a8 a9 s0 ++ (wX2 E a1 s1 h1 ++ (wX2 E a2 s2 h2 ++ (wX1 E a3 s3 ++ (wX2 E a4 s4 h4 ++ (wX1 E a5 s5 ++ (wX5 E a6 s6 ++ (wX3 E a7 s7 ++ (wX0 E a8 s8 ++ (wX6 E a9 s9 t9)))))))))) ++ sW E.2.1 L := (app_mem (sub_mem (suf := []) [1, 2, 3, 4, 5, 6, 7] rfl))
              refine fin_i (E := E) (wc := (wX2 E a1 s1 h1) ++ sW E.2.1 L) (wc' := (wX2 E a1 s1 h1) ++ sW E.2.1 L) (va_runVN (As := [.int (s1 7 0)]) (rest := []) ⟨hx, hb, hml, hown, hts⟩ (k_X2_marksOf l E a1 L N s1 h1 (s1 7 0) q99 hc_99 _) ⟨va_cnB 1 hts gX7_told_X2_marksOf_n167 rfl rfl rfl (hG.1 (.methodLinkNest "PickedMatch" 167 yX2_marksOf "PickedMatch") (by decide +kernel)) (hts _ m_X7_told_4cf9d8) (by decide +kernel) ⟨(Nat.le_of_ble_eq_true rfl), (Nat.le_of_ble_eq_true rfl)⟩, (hts _ m_X7_told_b0e80c), (hts _ m_X7_told_f506b3)⟩ (pre_v (ci := 2) (q0 := 0) hK (sub_P hm_99 hP) (sub_Ds (ws := wX7o E a0 a1 a2 a3 a4 a5 a6 a7 a8 a9 s0 ++ (wX2 E a1 s1 h1 ++ (wX2 E a2 s2 h2 ++ (wX1 E a3 s3 ++ (wX2 E a4 s4 h4 ++ (wX1 E a5 s5 ++ (wX5 E a6 s6 ++ (wX3 E a7 s7 ++ (wX0 E a8 s8 ++ (wX6 E a9 s9 t9)))))))))) (wc := wX2 E a1 s1 h1) (suf := sW E.2.1 L) [1, 2, 3, 4, 5, 6, 7] (by decide) rfl (hDD s0 s1 h1 s2 h2 s3 s4 h4 s5 s6 s7 s8 s9 t9)) hS hG hAB rfl rfl) rfl rfl hl.1 rfl (lv_room (Nat.le_of_ble_eq_true rfl)) dX7_told_99 ⟨Nat.zero_le _, Nat.zero_le _⟩) hS (w_free (hDD s0 s1 h1 s2 h2 s3 s4 h4 s5 s6 s7 s8 s9 t9) hS hA hm_99) (fun H locs hP1 hk hS => ?_)
              have hP := w_joins (ws' := wX7o E a0 a1 a2 a3 a4 a5 a6 a7 a8 a9 s0 ++ (wX2 E a1 s1 h1 ++ (wX2 E a2 s2 h2 ++ (wX1 E a3 s3 ++ (wX2 E a4 s4 h4 ++ (wX1 E a5 s5 ++ (wX5 E a6 s6 ++ (wX3 E a7 s7 ++ (wX0 E a8 s8 ++ (wX6 E a9 s9 t9)))))))))) (wc := wX2 E a1 s1 h1) (wc' := wX2 E a1 s1 h1) hP (hDD s0 s1 h1 s2 h2 s3 s4 h4 s5 s6 s7 s8 s9 t9) [1, 2, 3, 4, 5, 6, 7] rfl [none, some 0, some 1, some 2, some 3, some 4, some 5, some 6, none, none, none, none, none, none, none, none, none, none, none, none, none, none, none, none, none, none, none, none, none, none, none, none, none, none, none, none, none, none, none, none, none, none, none, none, none, none, none, none, none, none] rfl rfl hk hP1
              have e9 := Option.some.inj hf
              have h9_0 : s1 = q.2 := congrArg (fun z => z.2) e9
              have hP9 : va_P E.1 vwCl ((wX7o E a0 a1 a2 a3 a4 a5 a6 a7 a8 a9 s0 ++ (wX2 E a1 q.2 h1 ++ (wX2 E a2 s2 h2 ++ (wX1 E a3 s3 ++ (wX2 E a4 s4 h4 ++ (wX1 E a5 s5 ++ (wX5 E a6 s6 ++ (wX3 E a7 s7 ++ (wX0 E a8 s8 ++ (wX6 E a9 s9 t9)))))))))) ++ sW E.2.1 L) H := by rw [← h9_0]; exact hP
              exact rt_i hx hb hr hlocks (fst_e e9) hP9 hS dX7_told_102
            · have hf := ite_f c_1_5 hf
              by_cases c_1_6 : p1 = 6
              · have hf := ite_t c_1_6 hf
                refine lv_tableIn (off := 102) (tgt := 103) hx hb dX7_told_1 (by rw [c_1_6]; decide) (by rw [c_1_6]; decide) (by rw [c_1_6]; rfl) (by decide) ?_
                refine lv_aload_n hx hb dX7_told_103 rfl (lv_at hl 0 rfl) ?_
                obtain ⟨q104, hc_104, hf⟩ := cl_e hf
                refine fin_i (E := E) (wc := (wX7o E a0 a1 a2 a3 a4 a5 a6 a7 a8 a9 s0 ++ (wX2 E a1 s1 h1 ++ (wX2 E a2 s2 h2 ++ (wX1 E a3 s3 ++ (wX2 E a4 s4 h4 ++ (wX1 E a5 s5 ++ (wX5 E a6 s6 ++ (wX3 E a7 s7 ++ (wX0 E a8 s8 ++ (wX6 E a9 s9 t9)))))))))) ++ sW E.2.1 L) (wc' := (wX7o E a0 a1 a2 a3 a4 a5 a6 a7 a8 a9 s0 ++ (wX2 E a1 s1 h1 ++ (wX2 E a2 s2 h2 ++ (wX1 E a3 s3 ++ (wX2 E a4 s4 h4 ++ (wX1 E a5 s5 ++ (wX5 E a6 s6 ++ (wX3 E a7 s7 ++ (wX0 E a8 s8 ++ (wX6 E a9 s9 t9)))))))))) ++ sW E.2.1 L) (va_runV (As := []) (rest := []) ⟨hx, hb, hml, hown, hts⟩ (k_X7_twinsNow l E a0 a1 a2 a3 a4 a5 a6 a7 a8 a9 L N s0 s1 h1 s2 h2 s3 s4 h4 s5 s6 s7 s8 s9 t9 q104 hc_104 _) (cwV 0 hts gX7_told_X7_twinsNow rfl rfl rfl (by decide +kernel) ⟨(Nat.le_of_ble_eq_true rfl), (Nat.le_of_ble_eq_true rfl)⟩) (pre_v (ci := 7) (q0 := 0) hK hP (hDD s0 s1 h1 s2 h2 s3 s4 h4 s5 s6 s7 s8 s9 t9) hS hG hAB rfl rfl) rfl rfl hl.1 rfl (lv_room (Nat.le_of_ble_eq_true rfl)) dX7_told_104 ⟨Nat.zero_le _, Nat.zero_le _⟩) hS (w_free (hDD s0 s1 h1 s2 h2 s3 s4 h4 s5 s6 s7 s8 s9 t9) hS hA (fun _ h => h)) (fun H locs hP1 hk hS => ?_)
                have hP := hP1
                have e9 := Option.some.inj hf
                have h9_0 : s1 = q.2 := congrArg (fun z => z.2) e9
                have hP9 : va_P E.1 vwCl ((wX7o E a0 a1 a2 a3 a4 a5 a6 a7 a8 a9 s0 ++ (wX2 E a1 q.2 h1 ++ (wX2 E a2 s2 h2 ++ (wX1 E a3 s3 ++ (wX2 E a4 s4 h4 ++ (wX1 E a5 s5 ++ (wX5 E a6 s6 ++ (wX3 E a7 s7 ++ (wX0 E a8 s8 ++ (wX6 E a9 s9 t9)))))))))) ++ sW E.2.1 L) H := by rw [← h9_0]; exact hP
                exact rt_i hx hb hr hlocks (fst_e e9) hP9 hS dX7_told_107
              · have hf := ite_f c_1_6 hf
                by_cases c_1_7 : p1 = 7
                · have hf := ite_t c_1_7 hf
                  refine lv_tableIn (off := 107) (tgt := 108) hx hb dX7_told_1 (by rw [c_1_7]; decide) (by rw [c_1_7]; decide) (by rw [c_1_7]; rfl) (by decide) ?_
                  refine lv_aload_n hx hb dX7_told_108 rfl (lv_at hl 0 rfl) ?_
                  obtain ⟨q109, hc_109, hf⟩ := cl_e hf
                  refine fin_i (E := E) (wc := (wX7o E a0 a1 a2 a3 a4 a5 a6 a7 a8 a9 s0 ++ (wX2 E a1 s1 h1 ++ (wX2 E a2 s2 h2 ++ (wX1 E a3 s3 ++ (wX2 E a4 s4 h4 ++ (wX1 E a5 s5 ++ (wX5 E a6 s6 ++ (wX3 E a7 s7 ++ (wX0 E a8 s8 ++ (wX6 E a9 s9 t9)))))))))) ++ sW E.2.1 L) (wc' := (wX7o E a0 a1 a2 a3 a4 a5 a6 a7 a8 a9 s0 ++ (wX2 E a1 s1 h1 ++ (wX2 E a2 s2 h2 ++ (wX1 E a3 s3 ++ (wX2 E a4 s4 h4 ++ (wX1 E a5 s5 ++ (wX5 E a6 s6 ++ (wX3 E a7 s7 ++ (wX0 E a8 s8 ++ (wX6 E a9 s9 t9)))))))))) ++ sW E.2.1 L) (va_runV (As := []) (rest := []) ⟨hx, hb, hml, hown, hts⟩ (k_X7_coverNow l E a0 a1 a2 a3 a4 a5 a6 a7 a8 a9 L N s0 s1 h1 s2 h2 s3 s4 h4 s5 s6 s7 s8 s9 t9 q109 hc_109 _) (cwV 0 hts gX7_told_X7_coverNow rfl rfl rfl (by decide +kernel) ⟨(Nat.le_of_ble_eq_true rfl), (Nat.le_of_ble_eq_true rfl)⟩) (pre_v (ci := 7) (q0 := 0) hK hP (hDD s0 s1 h1 s2 h2 s3 s4 h4 s5 s6 s7 s8 s9 t9) hS hG hAB rfl rfl) rfl rfl hl.1 rfl (lv_room (Nat.le_of_ble_eq_true rfl)) dX7_told_109 ⟨Nat.zero_le _, Nat.zero_le _⟩) hS (w_free (hDD s0 s1 h1 s2 h2 s3 s4 h4 s5 s6 s7 s8 s9 t9) hS hA (fun _ h => h)) (fun H locs hP1 hk hS => ?_)
                  have hP := hP1
                  have e9 := Option.some.inj hf
                  have h9_0 : s1 = q.2 := congrArg (fun z => z.2) e9
                  have hP9 : va_P E.1 vwCl ((wX7o E a0 a1 a2 a3 a4 a5 a6 a7 a8 a9 s0 ++ (wX2 E a1 q.2 h1 ++ (wX2 E a2 s2 h2 ++ (wX1 E a3 s3 ++ (wX2 E a4 s4 h4 ++ (wX1 E a5 s5 ++ (wX5 E a6 s6 ++ (wX3 E a7 s7 ++ (wX0 E a8 s8 ++ (wX6 E a9 s9 t9)))))))))) ++ sW E.2.1 L) H := by rw [← h9_0]; exact hP
                  exact rt_i hx hb hr hlocks (fst_e e9) hP9 hS dX7_told_112
                · have hf := ite_f c_1_7 hf
                  refine lv_tableOut (tgt := 113) hx hb dX7_told_1 (by have n0 := lv_neT (a := 0) c_1_0 (by decide); have n1 := lv_neT (a := 1) c_1_1 (by decide); have n2 := lv_neT (a := 2) c_1_2 (by decide); have n3 := lv_neT (a := 3) c_1_3 (by decide); have n4 := lv_neT (a := 4) c_1_4 (by decide); have n5 := lv_neT (a := 5) c_1_5 (by decide); have n6 := lv_neT (a := 6) c_1_6 (by decide); have n7 := lv_neT (a := 7) c_1_7 (by decide); omega) (by decide) ?_
                  refine lv_iconst (v := (-1)) hx hb dX7_told_113 (by decide) ?_
                  have e9 := Option.some.inj hf
                  have h9_0 : s1 = q.2 := congrArg (fun z => z.2) e9
                  have hP9 : va_P E.1 vwCl ((wX7o E a0 a1 a2 a3 a4 a5 a6 a7 a8 a9 s0 ++ (wX2 E a1 q.2 h1 ++ (wX2 E a2 s2 h2 ++ (wX1 E a3 s3 ++ (wX2 E a4 s4 h4 ++ (wX1 E a5 s5 ++ (wX5 E a6 s6 ++ (wX3 E a7 s7 ++ (wX0 E a8 s8 ++ (wX6 E a9 s9 t9)))))))))) ++ sW E.2.1 L) s.heap := by rw [← h9_0]; exact hP
                  exact rt_i hx hb hr hlocks (fst_e e9) hP9 hS dX7_told_114
abbrev rm_X7_pass : Room := { frames := 6, cells := 0, slots := 0, locals := 138 }
theorem m_X7_pass_265b14 : Cond.fieldLink RX7 12 "PickedMatch" "scene" "LPickedMatch$Scene;" ∈ wsX7_pass := by decide +kernel
theorem i_X7_pass_X7 : ∀ w ∈ wsX70, w ∈ wsX7_pass := fun _ h => List.mem_cons_of_mem _ (List.mem_append_left _ (List.mem_append_left _ (List.mem_append_right _ h)))
theorem i_X7_pass_X2 : ∀ w ∈ wsX20, w ∈ wsX7_pass := fun _ h => List.mem_cons_of_mem _ (List.mem_append_left _ (List.mem_append_right _ h))
theorem m_X7_pass_4cf9d8 : Cond.initialized RX2 ∈ wsX7_pass := by decide +kernel
theorem m_X7_pass_9de039 : Cond.instanceMethod yX2_daysGo ∈ wsX7_pass := by decide +kernel
theorem m_X7_pass_a576f3 : Cond.selects RX2 yX2_daysGo yX2_daysGo ∈ wsX7_pass := by decide +kernel
set_option maxHeartbeats 8000000 in
set_option maxRecDepth 100000 in
theorem k_X7_pass (l : Launch) (E : Ev) (a0 : Nat → Nat) (a1 : Nat → Nat) (a2 : Nat → Nat) (a3 : Nat → Nat) (a4 : Nat → Nat) (a5 : Nat → Nat) (a6 : Nat → Nat) (a7 : Nat → Nat) (a8 : Nat → Nat) (a9 : Nat → Nat) (L : List SR) (N : Nat) (s0 : St) (s1 : St) (h1 : Option SR) (s2 : St) (h2 : Option SR) (s3 : St) (s4 : St) (h4 : Option SR) (s5 : St) (s6 : St) (s7 : St) (s8 : St) (s9 : St) (t9 : Nat → Nat → Int64) (p1 : Int32) (q : (Int32 × St)) (hf : f_X7_pass N L s1 h1 p1 = some q) : Ci l yX7_pass wsX7_pass rm_X7_pass E [.ref (a0 0), .int p1] ((wX7o E a0 a1 a2 a3 a4 a5 a6 a7 a8 a9 s0 ++ (wX2 E a1 s1 h1 ++ (wX2 E a2 s2 h2 ++ (wX1 E a3 s3 ++ (wX2 E a4 s4 h4 ++ (wX1 E a5 s5 ++ (wX5 E a6 s6 ++ (wX3 E a7 s7 ++ (wX0 E a8 s8 ++ (wX6 E a9 s9 t9)))))))))) ++ sW E.2.1 L) ((wX7o E a0 a1 a2 a3 a4 a5 a6 a7 a8 a9 s0 ++ (wX2 E a1 q.2 h1 ++ (wX2 E a2 s2 h2 ++ (wX1 E a3 s3 ++ (wX2 E a4 s4 h4 ++ (wX1 E a5 s5 ++ (wX5 E a6 s6 ++ (wX3 E a7 s7 ++ (wX0 E a8 s8 ++ (wX6 E a9 s9 t9)))))))))) ++ sW E.2.1 L) q.1 := by
  unfold f_X7_pass at hf
  intro sz
  refine Met.ofW (cc := cX7_pass) (maxL := 2) (ret := (some .int)) (by decide) rfl ?_
  intro p e s m args below meth c s₁ B hml hpre
  obtain ⟨rfl, hsz, hP, hK, hD0, hG, hA, hAB⟩ := start hpre
  have hx := B.exec
  have hb := B.bytes
  have hr := B.returns
  have hts := atoms_spec (ws := wsX7_pass) B.pre
  have hown : s.vm.findClass RX7 = some m.cls := findClass_of_methodNamed B.named
  have hlocks := B.notSynchronized
  subst hsz
  generalize va_A ((wX7o E a0 a1 a2 a3 a4 a5 a6 a7 a8 a9 s0 ++ (wX2 E a1 s1 h1 ++ (wX2 E a2 s2 h2 ++ (wX1 E a3 s3 ++ (wX2 E a4 s4 h4 ++ (wX1 E a5 s5 ++ (wX5 E a6 s6 ++ (wX3 E a7 s7 ++ (wX0 E a8 s8 ++ (wX6 E a9 s9 t9)))))))))) ++ sW E.2.1 L) s.heap.size = A0 at hD0 hA hAB ⊢
  have hDD : ∀ (s0 : St) (s1 : St) (h1 : Option SR) (s2 : St) (h2 : Option SR) (s3 : St) (s4 : St) (h4 : Option SR) (s5 : St) (s6 : St) (s7 : St) (s8 : St) (s9 : St) (t9 : Nat → Nat → Int64), va_D A0 ((wX7o E a0 a1 a2 a3 a4 a5 a6 a7 a8 a9 s0 ++ (wX2 E a1 s1 h1 ++ (wX2 E a2 s2 h2 ++ (wX1 E a3 s3 ++ (wX2 E a4 s4 h4 ++ (wX1 E a5 s5 ++ (wX5 E a6 s6 ++ (wX3 E a7 s7 ++ (wX0 E a8 s8 ++ (wX6 E a9 s9 t9)))))))))) ++ sW E.2.1 L) := fun s0 s1 h1 s2 h2 s3 s4 h4 s5 s6 s7 s8 s9 t9 => vD_addr hD0 rfl
  have hS : va_S A0 s.heap s.heap [] := va_S.rf
  have hl := lv_entry ([.ref (a0 0), .int p1]) (n := 2) (Nat.le_of_ble_eq_true rfl)
  rw [lg_entry_eq]
  generalize (lg_sl ([.ref (a0 0), .int p1]) ++ List.replicate (2 - (lg_sl ([.ref (a0 0), .int p1])).length) Slot.unset).toArray = ls at hl ⊢
  have hl : lv_has ls 2 [(0, .ref (a0 0)), (1, .int p1)] := hl
  refine lv_iload_n hx hb dX7_pass_0 rfl (lv_at hl 1 rfl) ?_
  refine lv_iconst (v := 0) hx hb dX7_pass_1 (by decide) ?_
  refine lv_bipush (v := 60) hx hb dX7_pass_2 (by decide) ?_
  obtain ⟨q4, hc_4, hf⟩ := cl_e hf
  refine fin_i (E := E) (wc := ([] : va_W)) (wc' := ([] : va_W)) (va_runS (As := [.int p1, .int 0, .int 60]) (rest := []) ⟨hx, hb, hml, hown, hts⟩ (k_X7_isWithin l E N p1 0 60 q4 hc_4 _) (va_cwS 3 hts gX7_pass_X7_isWithin rfl rfl rfl (by decide +kernel) ⟨(Nat.le_of_ble_eq_true rfl), (Nat.le_of_ble_eq_true rfl)⟩) (pre_s hK va_P_nil va_D_nil hS hG hAB) rfl rfl hl.1 rfl (lv_room (Nat.le_of_ble_eq_true rfl)) dX7_pass_4 ⟨Nat.zero_le _, Nat.zero_le _⟩) hS (free_nil hS hA) (fun H locs hP1 hk hS => ?_)
  have hP := w_kept0 hP hk
  refine lv_if_ne (tgt := 13) hx hb dX7_pass_7 (by decide) (fun c_7 => ?_) (fun c_7 => ?_)
  · have hf := ite_f c_7 hf
    refine lv_aload_n hx hb dX7_pass_13 rfl (lv_at hl 0 rfl) ?_
    refine va_get (ci := 7) (C := RX7) (T := TX7) (N := 11) (v := .ref (a1 0)) hx hb hts i_X7_pass_X7 hown hK hP 0 rfl rfl 0 (by decide) (hts _ m_X7_pass_265b14) (fun _ h9 => h9) rfl dX7_pass_14 ?_
    refine va_getN (ci := 2) (C := RX2) (T := TX2) (N := 11) (v := .int (s1 8 0)) hx hb hts i_X7_pass_X2 hown hK hP 1 rfl rfl 8 (by decide) (nwG hG (w := .fieldLinkNest "PickedMatch" 152 "PickedMatch$Scene" "day" "I" "PickedMatch") (by decide +kernel)) (fun _ h9 => h9) rfl dX7_pass_17 ?_
    refine lv_iload_n hx hb dX7_pass_20 rfl (lv_at hl 1 rfl) ?_
    refine lv_iadd hx hb dX7_pass_21 ?_
    refine lv_sipush (v := 9999) hx hb dX7_pass_22 (by decide) ?_
    refine lv_icmp_le (tgt := 31) hx hb dX7_pass_25 (by decide) (fun c_25 => ?_) (fun c_25 => ?_)
    · have hf := ite_t c_25 hf
      refine lv_aload_n hx hb dX7_pass_31 rfl (lv_at hl 0 rfl) ?_
      refine va_get (ci := 7) (C := RX7) (T := TX7) (N := 11) (v := .ref (a1 0)) hx hb hts i_X7_pass_X7 hown hK hP 0 rfl rfl 0 (by decide) (hts _ m_X7_pass_265b14) (fun _ h9 => h9) rfl dX7_pass_32 ?_
      refine lv_iload_n hx hb dX7_pass_35 rfl (lv_at hl 1 rfl) ?_
      obtain ⟨q36, hc_36, hf⟩ := cl_e hf
      have hm_36 : ∀ q ∈ (wX2 E a1 s1 h1) ++ sW E.2.1 L, q ∈ (wX7o E a0 a1 a2 a3 a4 a5 a6 a7 a8 a9 s0 ++ (wX2 E a1 s1 h1 ++ (wX2 E a2 s2 h2 ++ (wX1 E a3 s3 ++ (wX2 E a4 s4 h4 ++ (wX1 E a5 s5 ++ (wX5 E a6 s6 ++ (wX3 E a7 s7 ++ (wX0 E a8 s8 ++ (wX6 E a9 s9 t9)))))))))) ++ sW E.2.1 L := (app_mem (sub_mem (suf := []) [1, 2, 3, 4, 5, 6, 7] rfl))
      refine fin_v (E := E) (wc := (wX2 E a1 s1 h1) ++ sW E.2.1 L) (wc' := (wX2 E a1 q36 h1) ++ sW E.2.1 L) (va_runVN (As := [.int p1]) (rest := []) ⟨hx, hb, hml, hown, hts⟩ (k_X2_daysGo l E a1 L N s1 h1 p1 q36 hc_36 _) ⟨va_cnB 1 hts gX7_pass_X2_daysGo_n176 rfl rfl rfl (hG.1 (.methodLinkNest "PickedMatch" 176 yX2_daysGo "PickedMatch") (by decide +kernel)) (hts _ m_X7_pass_4cf9d8) (by decide +kernel) ⟨(Nat.le_of_ble_eq_true rfl), (Nat.le_of_ble_eq_true rfl)⟩, (hts _ m_X7_pass_9de039), (hts _ m_X7_pass_a576f3)⟩ (pre_v (ci := 2) (q0 := 0) hK (sub_P hm_36 hP) (sub_Ds (ws := wX7o E a0 a1 a2 a3 a4 a5 a6 a7 a8 a9 s0 ++ (wX2 E a1 s1 h1 ++ (wX2 E a2 s2 h2 ++ (wX1 E a3 s3 ++ (wX2 E a4 s4 h4 ++ (wX1 E a5 s5 ++ (wX5 E a6 s6 ++ (wX3 E a7 s7 ++ (wX0 E a8 s8 ++ (wX6 E a9 s9 t9)))))))))) (wc := wX2 E a1 s1 h1) (suf := sW E.2.1 L) [1, 2, 3, 4, 5, 6, 7] (by decide) rfl (hDD s0 s1 h1 s2 h2 s3 s4 h4 s5 s6 s7 s8 s9 t9)) hS hG hAB rfl rfl) rfl rfl hl.1 rfl (lv_room (Nat.le_of_ble_eq_true rfl)) dX7_pass_36 ⟨Nat.zero_le _, Nat.zero_le _⟩) hS (w_free (hDD s0 s1 h1 s2 h2 s3 s4 h4 s5 s6 s7 s8 s9 t9) hS hA hm_36) (fun H locs hP1 hk hS => ?_)
      have hP := w_joins (ws' := wX7o E a0 a1 a2 a3 a4 a5 a6 a7 a8 a9 s0 ++ (wX2 E a1 q36 h1 ++ (wX2 E a2 s2 h2 ++ (wX1 E a3 s3 ++ (wX2 E a4 s4 h4 ++ (wX1 E a5 s5 ++ (wX5 E a6 s6 ++ (wX3 E a7 s7 ++ (wX0 E a8 s8 ++ (wX6 E a9 s9 t9)))))))))) (wc := wX2 E a1 s1 h1) (wc' := wX2 E a1 q36 h1) hP (hDD s0 s1 h1 s2 h2 s3 s4 h4 s5 s6 s7 s8 s9 t9) [1, 2, 3, 4, 5, 6, 7] rfl [none, some 0, some 1, some 2, some 3, some 4, some 5, some 6, none, none, none, none, none, none, none, none, none, none, none, none, none, none, none, none, none, none, none, none, none, none, none, none, none, none, none, none, none, none, none, none, none, none, none, none, none, none, none, none, none, none] rfl rfl hk hP1
      refine lv_aload_n hx hb dX7_pass_39 rfl (lv_at hl 0 rfl) ?_
      refine va_get (ci := 7) (C := RX7) (T := TX7) (N := 11) (v := .ref (a1 0)) hx hb hts i_X7_pass_X7 hown hK hP 0 rfl rfl 0 (by decide) (hts _ m_X7_pass_265b14) (fun _ h9 => h9) rfl dX7_pass_40 ?_
      refine va_getN (ci := 2) (C := RX2) (T := TX2) (N := 11) (v := .int (q36 6 0)) hx hb hts i_X7_pass_X2 hown hK hP 1 rfl rfl 6 (by decide) (nwG hG (w := .fieldLinkNest "PickedMatch" 108 "PickedMatch$Scene" "hadCount" "I" "PickedMatch") (by decide +kernel)) (fun _ h9 => h9) rfl dX7_pass_43 ?_
      have e9 := Option.some.inj hf
      have h9_0 : q36 = q.2 := congrArg (fun z => z.2) e9
      have hP9 : va_P E.1 vwCl ((wX7o E a0 a1 a2 a3 a4 a5 a6 a7 a8 a9 s0 ++ (wX2 E a1 q.2 h1 ++ (wX2 E a2 s2 h2 ++ (wX1 E a3 s3 ++ (wX2 E a4 s4 h4 ++ (wX1 E a5 s5 ++ (wX5 E a6 s6 ++ (wX3 E a7 s7 ++ (wX0 E a8 s8 ++ (wX6 E a9 s9 t9)))))))))) ++ sW E.2.1 L) H := by rw [← h9_0]; exact hP
      exact rt_i hx hb hr hlocks (fst_e e9) hP9 hS dX7_pass_46
    · have hf := ite_f c_25 hf
      refine lv_bipush (v := (-3)) hx hb dX7_pass_28 (by decide) ?_
      have e9 := Option.some.inj hf
      have h9_0 : s1 = q.2 := congrArg (fun z => z.2) e9
      have hP9 : va_P E.1 vwCl ((wX7o E a0 a1 a2 a3 a4 a5 a6 a7 a8 a9 s0 ++ (wX2 E a1 q.2 h1 ++ (wX2 E a2 s2 h2 ++ (wX1 E a3 s3 ++ (wX2 E a4 s4 h4 ++ (wX1 E a5 s5 ++ (wX5 E a6 s6 ++ (wX3 E a7 s7 ++ (wX0 E a8 s8 ++ (wX6 E a9 s9 t9)))))))))) ++ sW E.2.1 L) H := by rw [← h9_0]; exact hP
      exact rt_i hx hb hr hlocks (fst_e e9) hP9 hS dX7_pass_30
  · have hf := ite_t c_7 hf
    refine lv_bipush (v := (-2)) hx hb dX7_pass_10 (by decide) ?_
    have e9 := Option.some.inj hf
    have h9_0 : s1 = q.2 := congrArg (fun z => z.2) e9
    have hP9 : va_P E.1 vwCl ((wX7o E a0 a1 a2 a3 a4 a5 a6 a7 a8 a9 s0 ++ (wX2 E a1 q.2 h1 ++ (wX2 E a2 s2 h2 ++ (wX1 E a3 s3 ++ (wX2 E a4 s4 h4 ++ (wX1 E a5 s5 ++ (wX5 E a6 s6 ++ (wX3 E a7 s7 ++ (wX0 E a8 s8 ++ (wX6 E a9 s9 t9)))))))))) ++ sW E.2.1 L) H := by rw [← h9_0]; exact hP
    exact rt_i hx hb hr hlocks (fst_e e9) hP9 hS dX7_pass_12
abbrev rm_X7_on : Room := { frames := 6, cells := 0, slots := 0, locals := 138 }
theorem m_X7_on_5dfb42 : Cond.fieldLink RX7 18 "PickedMatch" "trial" "LPickedMatch$Scene;" ∈ wsX7_on := by decide +kernel
theorem i_X7_on_X7 : ∀ w ∈ wsX70, w ∈ wsX7_on := fun _ h => List.mem_cons_of_mem _ (List.mem_append_left _ (List.mem_append_left _ (List.mem_append_right _ h)))
theorem m_X7_on_265b14 : Cond.fieldLink RX7 12 "PickedMatch" "scene" "LPickedMatch$Scene;" ∈ wsX7_on := by decide +kernel
theorem m_X7_on_4cf9d8 : Cond.initialized RX2 ∈ wsX7_on := by decide +kernel
theorem m_X7_on_c21ce8 : Cond.instanceMethod yX2_becomeAs ∈ wsX7_on := by decide +kernel
theorem m_X7_on_986579 : Cond.selects RX2 yX2_becomeAs yX2_becomeAs ∈ wsX7_on := by decide +kernel
theorem m_X7_on_9de039 : Cond.instanceMethod yX2_daysGo ∈ wsX7_on := by decide +kernel
theorem m_X7_on_a576f3 : Cond.selects RX2 yX2_daysGo yX2_daysGo ∈ wsX7_on := by decide +kernel
theorem i_X7_on_X2 : ∀ w ∈ wsX20, w ∈ wsX7_on := fun _ h => List.mem_cons_of_mem _ (List.mem_append_left _ (List.mem_append_right _ h))
set_option maxHeartbeats 8000000 in
set_option maxRecDepth 100000 in
theorem k_X7_on (l : Launch) (E : Ev) (a0 : Nat → Nat) (a1 : Nat → Nat) (a2 : Nat → Nat) (a3 : Nat → Nat) (a4 : Nat → Nat) (a5 : Nat → Nat) (a6 : Nat → Nat) (a7 : Nat → Nat) (a8 : Nat → Nat) (a9 : Nat → Nat) (L : List SR) (N : Nat) (s0 : St) (s1 : St) (h1 : Option SR) (s2 : St) (h2 : Option SR) (s3 : St) (s4 : St) (h4 : Option SR) (s5 : St) (s6 : St) (s7 : St) (s8 : St) (s9 : St) (t9 : Nat → Nat → Int64) (p1 : Int32) (p2 : Int32) (q : (Int32 × St × (Option SR))) (hf : f_X7_on N L s1 h1 s2 h2 p1 p2 = some q) : Ci l yX7_on wsX7_on rm_X7_on E [.ref (a0 0), .int p1, .int p2] ((wX7o E a0 a1 a2 a3 a4 a5 a6 a7 a8 a9 s0 ++ (wX2 E a1 s1 h1 ++ (wX2 E a2 s2 h2 ++ (wX1 E a3 s3 ++ (wX2 E a4 s4 h4 ++ (wX1 E a5 s5 ++ (wX5 E a6 s6 ++ (wX3 E a7 s7 ++ (wX0 E a8 s8 ++ (wX6 E a9 s9 t9)))))))))) ++ sW E.2.1 L) ((wX7o E a0 a1 a2 a3 a4 a5 a6 a7 a8 a9 s0 ++ (wX2 E a1 s1 h1 ++ (wX2 E a2 q.2.1 q.2.2 ++ (wX1 E a3 s3 ++ (wX2 E a4 s4 h4 ++ (wX1 E a5 s5 ++ (wX5 E a6 s6 ++ (wX3 E a7 s7 ++ (wX0 E a8 s8 ++ (wX6 E a9 s9 t9)))))))))) ++ sW E.2.1 L) q.1 := by
  unfold f_X7_on at hf
  intro sz
  refine Met.ofW (cc := cX7_on) (maxL := 3) (ret := (some .int)) (by decide) rfl ?_
  intro p e s m args below meth c s₁ B hml hpre
  obtain ⟨rfl, hsz, hP, hK, hD0, hG, hA, hAB⟩ := start hpre
  have hx := B.exec
  have hb := B.bytes
  have hr := B.returns
  have hts := atoms_spec (ws := wsX7_on) B.pre
  have hown : s.vm.findClass RX7 = some m.cls := findClass_of_methodNamed B.named
  have hlocks := B.notSynchronized
  subst hsz
  generalize va_A ((wX7o E a0 a1 a2 a3 a4 a5 a6 a7 a8 a9 s0 ++ (wX2 E a1 s1 h1 ++ (wX2 E a2 s2 h2 ++ (wX1 E a3 s3 ++ (wX2 E a4 s4 h4 ++ (wX1 E a5 s5 ++ (wX5 E a6 s6 ++ (wX3 E a7 s7 ++ (wX0 E a8 s8 ++ (wX6 E a9 s9 t9)))))))))) ++ sW E.2.1 L) s.heap.size = A0 at hD0 hA hAB ⊢
  have hDD : ∀ (s0 : St) (s1 : St) (h1 : Option SR) (s2 : St) (h2 : Option SR) (s3 : St) (s4 : St) (h4 : Option SR) (s5 : St) (s6 : St) (s7 : St) (s8 : St) (s9 : St) (t9 : Nat → Nat → Int64), va_D A0 ((wX7o E a0 a1 a2 a3 a4 a5 a6 a7 a8 a9 s0 ++ (wX2 E a1 s1 h1 ++ (wX2 E a2 s2 h2 ++ (wX1 E a3 s3 ++ (wX2 E a4 s4 h4 ++ (wX1 E a5 s5 ++ (wX5 E a6 s6 ++ (wX3 E a7 s7 ++ (wX0 E a8 s8 ++ (wX6 E a9 s9 t9)))))))))) ++ sW E.2.1 L) := fun s0 s1 h1 s2 h2 s3 s4 h4 s5 s6 s7 s8 s9 t9 => vD_addr hD0 rfl
  have hS : va_S A0 s.heap s.heap [] := va_S.rf
  have hl := lv_entry ([.ref (a0 0), .int p1, .int p2]) (n := 3) (Nat.le_of_ble_eq_true rfl)
  rw [lg_entry_eq]
  generalize (lg_sl ([.ref (a0 0), .int p1, .int p2]) ++ List.replicate (3 - (lg_sl ([.ref (a0 0), .int p1, .int p2])).length) Slot.unset).toArray = ls at hl ⊢
  have hl : lv_has ls 3 [(0, .ref (a0 0)), (1, .int p1), (2, .int p2)] := hl
  refine lv_iload_n hx hb dX7_on_0 rfl (lv_at hl 2 rfl) ?_
  refine lv_iconst (v := 0) hx hb dX7_on_1 (by decide) ?_
  refine lv_iconst (v := 1) hx hb dX7_on_2 (by decide) ?_
  obtain ⟨q3, hc_3, hf⟩ := cl_e hf
  refine fin_i (E := E) (wc := ([] : va_W)) (wc' := ([] : va_W)) (va_runS (As := [.int p2, .int 0, .int 1]) (rest := []) ⟨hx, hb, hml, hown, hts⟩ (k_X7_isWithin l E N p2 0 1 q3 hc_3 _) (va_cwS 3 hts gX7_on_X7_isWithin rfl rfl rfl (by decide +kernel) ⟨(Nat.le_of_ble_eq_true rfl), (Nat.le_of_ble_eq_true rfl)⟩) (pre_s hK va_P_nil va_D_nil hS hG hAB) rfl rfl hl.1 rfl (lv_room (Nat.le_of_ble_eq_true rfl)) dX7_on_3 ⟨Nat.zero_le _, Nat.zero_le _⟩) hS (free_nil hS hA) (fun H locs hP1 hk hS => ?_)
  have hP := w_kept0 hP hk
  refine lv_if_ne (tgt := 11) hx hb dX7_on_6 (by decide) (fun c_6 => ?_) (fun c_6 => ?_)
  · have hf := ite_f c_6 hf
    refine lv_iload_n hx hb dX7_on_11 rfl (lv_at hl 1 rfl) ?_
    refine lv_iconst (v := 0) hx hb dX7_on_12 (by decide) ?_
    refine lv_bipush (v := 60) hx hb dX7_on_13 (by decide) ?_
    obtain ⟨q15, hc_15, hf⟩ := cl_e hf
    refine fin_i (E := E) (wc := ([] : va_W)) (wc' := ([] : va_W)) (va_runS (As := [.int p1, .int 0, .int 60]) (rest := []) ⟨hx, hb, hml, hown, hts⟩ (k_X7_isWithin l E N p1 0 60 q15 hc_15 _) (va_cwS 3 hts gX7_on_X7_isWithin rfl rfl rfl (by decide +kernel) ⟨(Nat.le_of_ble_eq_true rfl), (Nat.le_of_ble_eq_true rfl)⟩) (pre_s hK va_P_nil va_D_nil hS hG hAB) rfl rfl hl.1 rfl (lv_room (Nat.le_of_ble_eq_true rfl)) dX7_on_15 ⟨Nat.zero_le _, Nat.zero_le _⟩) hS (free_nil hS hA) (fun H locs hP1 hk hS => ?_)
    have hP := w_kept0 hP hk
    refine lv_if_ne (tgt := 24) hx hb dX7_on_18 (by decide) (fun c_18 => ?_) (fun c_18 => ?_)
    · have hf := ite_f c_18 hf
      refine lv_aload_n hx hb dX7_on_24 rfl (lv_at hl 0 rfl) ?_
      refine va_get (ci := 7) (C := RX7) (T := TX7) (N := 11) (v := .ref (a2 0)) hx hb hts i_X7_on_X7 hown hK hP 0 rfl rfl 1 (by decide) (hts _ m_X7_on_5dfb42) (fun _ h9 => h9) rfl dX7_on_25 ?_
      refine lv_aload_n hx hb dX7_on_28 rfl (lv_at hl 0 rfl) ?_
      refine va_get (ci := 7) (C := RX7) (T := TX7) (N := 11) (v := .ref (a1 0)) hx hb hts i_X7_on_X7 hown hK hP 0 rfl rfl 0 (by decide) (hts _ m_X7_on_265b14) (fun _ h9 => h9) rfl dX7_on_29 ?_
      obtain ⟨q32, hc_32, hf⟩ := cl_e hf
      have hm_32 : ∀ q ∈ (wX2 E a2 s2 h2 ++ (wX2 E a1 s1 h1)) ++ sW E.2.1 L, q ∈ (wX7o E a0 a1 a2 a3 a4 a5 a6 a7 a8 a9 s0 ++ (wX2 E a1 s1 h1 ++ (wX2 E a2 s2 h2 ++ (wX1 E a3 s3 ++ (wX2 E a4 s4 h4 ++ (wX1 E a5 s5 ++ (wX5 E a6 s6 ++ (wX3 E a7 s7 ++ (wX0 E a8 s8 ++ (wX6 E a9 s9 t9)))))))))) ++ sW E.2.1 L := (app_mem (sub_mem (suf := []) [8, 9, 10, 11, 12, 13, 14, 1, 2, 3, 4, 5, 6, 7] rfl))
      refine fin_v (E := E) (wc := (wX2 E a2 s2 h2 ++ (wX2 E a1 s1 h1)) ++ sW E.2.1 L) (wc' := (wX2 E a2 q32.1 q32.2 ++ (wX2 E a1 s1 h1)) ++ sW E.2.1 L) (va_runVN (As := [.ref (a1 0)]) (rest := []) ⟨hx, hb, hml, hown, hts⟩ (k_X2_becomeAs l E a2 a1 L N s2 h2 s1 h1 q32 hc_32 _) ⟨va_cnB 1 hts gX7_on_X2_becomeAs_n179 rfl rfl rfl (hG.1 (.methodLinkNest "PickedMatch" 179 yX2_becomeAs "PickedMatch") (by decide +kernel)) (hts _ m_X7_on_4cf9d8) (by decide +kernel) ⟨(Nat.le_of_ble_eq_true rfl), (Nat.le_of_ble_eq_true rfl)⟩, (hts _ m_X7_on_c21ce8), (hts _ m_X7_on_986579)⟩ (pre_v (ci := 2) (q0 := 0) hK (sub_P hm_32 hP) (sub_Ds (ws := wX7o E a0 a1 a2 a3 a4 a5 a6 a7 a8 a9 s0 ++ (wX2 E a1 s1 h1 ++ (wX2 E a2 s2 h2 ++ (wX1 E a3 s3 ++ (wX2 E a4 s4 h4 ++ (wX1 E a5 s5 ++ (wX5 E a6 s6 ++ (wX3 E a7 s7 ++ (wX0 E a8 s8 ++ (wX6 E a9 s9 t9)))))))))) (wc := wX2 E a2 s2 h2 ++ (wX2 E a1 s1 h1)) (suf := sW E.2.1 L) [8, 9, 10, 11, 12, 13, 14, 1, 2, 3, 4, 5, 6, 7] (by decide) rfl (hDD s0 s1 h1 s2 h2 s3 s4 h4 s5 s6 s7 s8 s9 t9)) hS hG hAB rfl rfl) rfl rfl hl.1 rfl (lv_room (Nat.le_of_ble_eq_true rfl)) dX7_on_32 ⟨Nat.zero_le _, Nat.zero_le _⟩) hS (w_free (hDD s0 s1 h1 s2 h2 s3 s4 h4 s5 s6 s7 s8 s9 t9) hS hA hm_32) (fun H locs hP1 hk hS => ?_)
      have hP := w_joins (ws' := wX7o E a0 a1 a2 a3 a4 a5 a6 a7 a8 a9 s0 ++ (wX2 E a1 s1 h1 ++ (wX2 E a2 q32.1 q32.2 ++ (wX1 E a3 s3 ++ (wX2 E a4 s4 h4 ++ (wX1 E a5 s5 ++ (wX5 E a6 s6 ++ (wX3 E a7 s7 ++ (wX0 E a8 s8 ++ (wX6 E a9 s9 t9)))))))))) (wc := wX2 E a2 s2 h2 ++ (wX2 E a1 s1 h1)) (wc' := wX2 E a2 q32.1 q32.2 ++ (wX2 E a1 s1 h1)) hP (hDD s0 s1 h1 s2 h2 s3 s4 h4 s5 s6 s7 s8 s9 t9) [8, 9, 10, 11, 12, 13, 14, 1, 2, 3, 4, 5, 6, 7] rfl [none, some 7, some 8, some 9, some 10, some 11, some 12, some 13, some 0, some 1, some 2, some 3, some 4, some 5, some 6, none, none, none, none, none, none, none, none, none, none, none, none, none, none, none, none, none, none, none, none, none, none, none, none, none, none, none, none, none, none, none, none, none, none, none] rfl rfl hk hP1
      refine lv_aload_n hx hb dX7_on_35 rfl (lv_at hl 0 rfl) ?_
      refine va_get (ci := 7) (C := RX7) (T := TX7) (N := 11) (v := .ref (a2 0)) hx hb hts i_X7_on_X7 hown hK hP 0 rfl rfl 1 (by decide) (hts _ m_X7_on_5dfb42) (fun _ h9 => h9) rfl dX7_on_36 ?_
      refine lv_iload_n hx hb dX7_on_39 rfl (lv_at hl 1 rfl) ?_
      obtain ⟨q40, hc_40, hf⟩ := cl_e hf
      have hm_40 : ∀ q ∈ (wX2 E a2 q32.1 q32.2) ++ sW E.2.1 L, q ∈ (wX7o E a0 a1 a2 a3 a4 a5 a6 a7 a8 a9 s0 ++ (wX2 E a1 s1 h1 ++ (wX2 E a2 q32.1 q32.2 ++ (wX1 E a3 s3 ++ (wX2 E a4 s4 h4 ++ (wX1 E a5 s5 ++ (wX5 E a6 s6 ++ (wX3 E a7 s7 ++ (wX0 E a8 s8 ++ (wX6 E a9 s9 t9)))))))))) ++ sW E.2.1 L := (app_mem (sub_mem (suf := []) [8, 9, 10, 11, 12, 13, 14] rfl))
      refine fin_v (E := E) (wc := (wX2 E a2 q32.1 q32.2) ++ sW E.2.1 L) (wc' := (wX2 E a2 q40 q32.2) ++ sW E.2.1 L) (va_runVN (As := [.int p1]) (rest := []) ⟨hx, hb, hml, hown, hts⟩ (k_X2_daysGo l E a2 L N q32.1 q32.2 p1 q40 hc_40 _) ⟨va_cnB 1 hts gX7_on_X2_daysGo_n176 rfl rfl rfl (hG.1 (.methodLinkNest "PickedMatch" 176 yX2_daysGo "PickedMatch") (by decide +kernel)) (hts _ m_X7_on_4cf9d8) (by decide +kernel) ⟨(Nat.le_of_ble_eq_true rfl), (Nat.le_of_ble_eq_true rfl)⟩, (hts _ m_X7_on_9de039), (hts _ m_X7_on_a576f3)⟩ (pre_v (ci := 2) (q0 := 0) hK (sub_P hm_40 hP) (sub_Ds (ws := wX7o E a0 a1 a2 a3 a4 a5 a6 a7 a8 a9 s0 ++ (wX2 E a1 s1 h1 ++ (wX2 E a2 q32.1 q32.2 ++ (wX1 E a3 s3 ++ (wX2 E a4 s4 h4 ++ (wX1 E a5 s5 ++ (wX5 E a6 s6 ++ (wX3 E a7 s7 ++ (wX0 E a8 s8 ++ (wX6 E a9 s9 t9)))))))))) (wc := wX2 E a2 q32.1 q32.2) (suf := sW E.2.1 L) [8, 9, 10, 11, 12, 13, 14] (by decide) rfl (hDD s0 s1 h1 q32.1 q32.2 s3 s4 h4 s5 s6 s7 s8 s9 t9)) hS hG hAB rfl rfl) rfl rfl hl.1 rfl (lv_room (Nat.le_of_ble_eq_true rfl)) dX7_on_40 ⟨Nat.zero_le _, Nat.zero_le _⟩) hS (w_free (hDD s0 s1 h1 q32.1 q32.2 s3 s4 h4 s5 s6 s7 s8 s9 t9) hS hA hm_40) (fun H locs hP1 hk hS => ?_)
      have hP := w_joins (ws' := wX7o E a0 a1 a2 a3 a4 a5 a6 a7 a8 a9 s0 ++ (wX2 E a1 s1 h1 ++ (wX2 E a2 q40 q32.2 ++ (wX1 E a3 s3 ++ (wX2 E a4 s4 h4 ++ (wX1 E a5 s5 ++ (wX5 E a6 s6 ++ (wX3 E a7 s7 ++ (wX0 E a8 s8 ++ (wX6 E a9 s9 t9)))))))))) (wc := wX2 E a2 q32.1 q32.2) (wc' := wX2 E a2 q40 q32.2) hP (hDD s0 s1 h1 q32.1 q32.2 s3 s4 h4 s5 s6 s7 s8 s9 t9) [8, 9, 10, 11, 12, 13, 14] rfl [none, none, none, none, none, none, none, none, some 0, some 1, some 2, some 3, some 4, some 5, some 6, none, none, none, none, none, none, none, none, none, none, none, none, none, none, none, none, none, none, none, none, none, none, none, none, none, none, none, none, none, none, none, none, none, none, none] rfl rfl hk hP1
      refine lv_iload_n hx hb dX7_on_43 rfl (lv_at hl 2 rfl) ?_
      refine lv_if_ne (tgt := 57) hx hb dX7_on_44 (by decide) (fun c_44 => ?_) (fun c_44 => ?_)
      · have hf := ite_f c_44 hf
        refine lv_aload_n hx hb dX7_on_57 rfl (lv_at hl 0 rfl) ?_
        refine va_get (ci := 7) (C := RX7) (T := TX7) (N := 11) (v := .ref (a2 0)) hx hb hts i_X7_on_X7 hown hK hP 0 rfl rfl 1 (by decide) (hts _ m_X7_on_5dfb42) (fun _ h9 => h9) rfl dX7_on_58 ?_
        refine va_getN (ci := 2) (C := RX2) (T := TX2) (N := 11) (v := .int (q40 6 0)) hx hb hts i_X7_on_X2 hown hK hP 8 rfl rfl 6 (by decide) (nwG hG (w := .fieldLinkNest "PickedMatch" 108 "PickedMatch$Scene" "hadCount" "I" "PickedMatch") (by decide +kernel)) (fun _ h9 => h9) rfl dX7_on_61 ?_
        have e9 := Option.some.inj hf
        have h9_0 : q40 = q.2.1 := congrArg (fun z => z.2.1) e9
        have h9_1 : q32.2 = q.2.2 := congrArg (fun z => z.2.2) e9
        have hP9 : va_P E.1 vwCl ((wX7o E a0 a1 a2 a3 a4 a5 a6 a7 a8 a9 s0 ++ (wX2 E a1 s1 h1 ++ (wX2 E a2 q.2.1 q.2.2 ++ (wX1 E a3 s3 ++ (wX2 E a4 s4 h4 ++ (wX1 E a5 s5 ++ (wX5 E a6 s6 ++ (wX3 E a7 s7 ++ (wX0 E a8 s8 ++ (wX6 E a9 s9 t9)))))))))) ++ sW E.2.1 L) H := by rw [← h9_0, ← h9_1]; exact hP
        exact rt_i hx hb hr hlocks (fst_e e9) hP9 hS dX7_on_64
      · have hf := ite_t c_44 hf
        refine lv_aload_n hx hb dX7_on_47 rfl (lv_at hl 0 rfl) ?_
        refine va_get (ci := 7) (C := RX7) (T := TX7) (N := 11) (v := .ref (a2 0)) hx hb hts i_X7_on_X7 hown hK hP 0 rfl rfl 1 (by decide) (hts _ m_X7_on_5dfb42) (fun _ h9 => h9) rfl dX7_on_48 ?_
        refine va_getN (ci := 2) (C := RX2) (T := TX2) (N := 11) (v := .int (q40 7 0)) hx hb hts i_X7_on_X2 hown hK hP 8 rfl rfl 7 (by decide) (nwG hG (w := .fieldLinkNest "PickedMatch" 161 "PickedMatch$Scene" "hadBits" "I" "PickedMatch") (by decide +kernel)) (fun _ h9 => h9) rfl dX7_on_51 ?_
        refine lv_goto (tgt := 64) hx hb dX7_on_54 (by decide) ?_
        have e9 := Option.some.inj hf
        have h9_0 : q40 = q.2.1 := congrArg (fun z => z.2.1) e9
        have h9_1 : q32.2 = q.2.2 := congrArg (fun z => z.2.2) e9
        have hP9 : va_P E.1 vwCl ((wX7o E a0 a1 a2 a3 a4 a5 a6 a7 a8 a9 s0 ++ (wX2 E a1 s1 h1 ++ (wX2 E a2 q.2.1 q.2.2 ++ (wX1 E a3 s3 ++ (wX2 E a4 s4 h4 ++ (wX1 E a5 s5 ++ (wX5 E a6 s6 ++ (wX3 E a7 s7 ++ (wX0 E a8 s8 ++ (wX6 E a9 s9 t9)))))))))) ++ sW E.2.1 L) H := by rw [← h9_0, ← h9_1]; exact hP
        exact rt_i hx hb hr hlocks (fst_e e9) hP9 hS dX7_on_64
    · have hf := ite_t c_18 hf
      refine lv_bipush (v := (-2)) hx hb dX7_on_21 (by decide) ?_
      have e9 := Option.some.inj hf
      have h9_0 : s2 = q.2.1 := congrArg (fun z => z.2.1) e9
      have h9_1 : h2 = q.2.2 := congrArg (fun z => z.2.2) e9
      have hP9 : va_P E.1 vwCl ((wX7o E a0 a1 a2 a3 a4 a5 a6 a7 a8 a9 s0 ++ (wX2 E a1 s1 h1 ++ (wX2 E a2 q.2.1 q.2.2 ++ (wX1 E a3 s3 ++ (wX2 E a4 s4 h4 ++ (wX1 E a5 s5 ++ (wX5 E a6 s6 ++ (wX3 E a7 s7 ++ (wX0 E a8 s8 ++ (wX6 E a9 s9 t9)))))))))) ++ sW E.2.1 L) H := by rw [← h9_0, ← h9_1]; exact hP
      exact rt_i hx hb hr hlocks (fst_e e9) hP9 hS dX7_on_23
  · have hf := ite_t c_6 hf
    refine lv_iconst (v := (-1)) hx hb dX7_on_9 (by decide) ?_
    have e9 := Option.some.inj hf
    have h9_0 : s2 = q.2.1 := congrArg (fun z => z.2.1) e9
    have h9_1 : h2 = q.2.2 := congrArg (fun z => z.2.2) e9
    have hP9 : va_P E.1 vwCl ((wX7o E a0 a1 a2 a3 a4 a5 a6 a7 a8 a9 s0 ++ (wX2 E a1 s1 h1 ++ (wX2 E a2 q.2.1 q.2.2 ++ (wX1 E a3 s3 ++ (wX2 E a4 s4 h4 ++ (wX1 E a5 s5 ++ (wX5 E a6 s6 ++ (wX3 E a7 s7 ++ (wX0 E a8 s8 ++ (wX6 E a9 s9 t9)))))))))) ++ sW E.2.1 L) H := by rw [← h9_0, ← h9_1]; exact hP
    exact rt_i hx hb hr hlocks (fst_e e9) hP9 hS dX7_on_10
abbrev rm_X7_soon : Room := { frames := 5, cells := 0, slots := 0, locals := 116 }
theorem m_X7_soon_5dfb42 : Cond.fieldLink RX7 18 "PickedMatch" "trial" "LPickedMatch$Scene;" ∈ wsX7_soon := by decide +kernel
theorem i_X7_soon_X7 : ∀ w ∈ wsX70, w ∈ wsX7_soon := fun _ h => List.mem_cons_of_mem _ (List.mem_append_left _ (List.mem_append_left _ (List.mem_append_right _ h)))
theorem i_X7_soon_X2 : ∀ w ∈ wsX20, w ∈ wsX7_soon := fun _ h => List.mem_cons_of_mem _ (List.mem_append_left _ (List.mem_append_right _ h))
theorem m_X7_soon_4cf9d8 : Cond.initialized RX2 ∈ wsX7_soon := by decide +kernel
theorem m_X7_soon_4d7acd : Cond.instanceMethod yX2_dayGoes ∈ wsX7_soon := by decide +kernel
theorem m_X7_soon_3b6c31 : Cond.selects RX2 yX2_dayGoes yX2_dayGoes ∈ wsX7_soon := by decide +kernel
theorem m_X7_soon_265b14 : Cond.fieldLink RX7 12 "PickedMatch" "scene" "LPickedMatch$Scene;" ∈ wsX7_soon := by decide +kernel
theorem m_X7_soon_c21ce8 : Cond.instanceMethod yX2_becomeAs ∈ wsX7_soon := by decide +kernel
theorem m_X7_soon_986579 : Cond.selects RX2 yX2_becomeAs yX2_becomeAs ∈ wsX7_soon := by decide +kernel
set_option maxHeartbeats 8000000 in
set_option maxRecDepth 100000 in
theorem k_X7_soon (l : Launch) (E : Ev) (a0 : Nat → Nat) (a1 : Nat → Nat) (a2 : Nat → Nat) (a3 : Nat → Nat) (a4 : Nat → Nat) (a5 : Nat → Nat) (a6 : Nat → Nat) (a7 : Nat → Nat) (a8 : Nat → Nat) (a9 : Nat → Nat) (L : List SR) (N : Nat) (s0 : St) (s1 : St) (h1 : Option SR) (s2 : St) (h2 : Option SR) (s3 : St) (s4 : St) (h4 : Option SR) (s5 : St) (s6 : St) (s7 : St) (s8 : St) (s9 : St) (t9 : Nat → Nat → Int64) (p1 : Int32) (q : (Int32 × St × (Option SR))) (hf : f_X7_soon N L s1 h1 s2 h2 p1 = some q) : Ci l yX7_soon wsX7_soon rm_X7_soon E [.ref (a0 0), .int p1] ((wX7o E a0 a1 a2 a3 a4 a5 a6 a7 a8 a9 s0 ++ (wX2 E a1 s1 h1 ++ (wX2 E a2 s2 h2 ++ (wX1 E a3 s3 ++ (wX2 E a4 s4 h4 ++ (wX1 E a5 s5 ++ (wX5 E a6 s6 ++ (wX3 E a7 s7 ++ (wX0 E a8 s8 ++ (wX6 E a9 s9 t9)))))))))) ++ sW E.2.1 L) ((wX7o E a0 a1 a2 a3 a4 a5 a6 a7 a8 a9 s0 ++ (wX2 E a1 s1 h1 ++ (wX2 E a2 q.2.1 q.2.2 ++ (wX1 E a3 s3 ++ (wX2 E a4 s4 h4 ++ (wX1 E a5 s5 ++ (wX5 E a6 s6 ++ (wX3 E a7 s7 ++ (wX0 E a8 s8 ++ (wX6 E a9 s9 t9)))))))))) ++ sW E.2.1 L) q.1 := by
  unfold f_X7_soon at hf
  intro sz
  refine Met.ofW (cc := cX7_soon) (maxL := 3) (ret := (some .int)) (by decide) rfl ?_
  intro p e s m args below meth c s₁ B hml hpre
  obtain ⟨rfl, hsz, hP, hK, hD0, hG, hA, hAB⟩ := start hpre
  have hx := B.exec
  have hb := B.bytes
  have hr := B.returns
  have hts := atoms_spec (ws := wsX7_soon) B.pre
  have hown : s.vm.findClass RX7 = some m.cls := findClass_of_methodNamed B.named
  have hlocks := B.notSynchronized
  subst hsz
  generalize va_A ((wX7o E a0 a1 a2 a3 a4 a5 a6 a7 a8 a9 s0 ++ (wX2 E a1 s1 h1 ++ (wX2 E a2 s2 h2 ++ (wX1 E a3 s3 ++ (wX2 E a4 s4 h4 ++ (wX1 E a5 s5 ++ (wX5 E a6 s6 ++ (wX3 E a7 s7 ++ (wX0 E a8 s8 ++ (wX6 E a9 s9 t9)))))))))) ++ sW E.2.1 L) s.heap.size = A0 at hD0 hA hAB ⊢
  have hDD : ∀ (s0 : St) (s1 : St) (h1 : Option SR) (s2 : St) (h2 : Option SR) (s3 : St) (s4 : St) (h4 : Option SR) (s5 : St) (s6 : St) (s7 : St) (s8 : St) (s9 : St) (t9 : Nat → Nat → Int64), va_D A0 ((wX7o E a0 a1 a2 a3 a4 a5 a6 a7 a8 a9 s0 ++ (wX2 E a1 s1 h1 ++ (wX2 E a2 s2 h2 ++ (wX1 E a3 s3 ++ (wX2 E a4 s4 h4 ++ (wX1 E a5 s5 ++ (wX5 E a6 s6 ++ (wX3 E a7 s7 ++ (wX0 E a8 s8 ++ (wX6 E a9 s9 t9)))))))))) ++ sW E.2.1 L) := fun s0 s1 h1 s2 h2 s3 s4 h4 s5 s6 s7 s8 s9 t9 => vD_addr hD0 rfl
  have hS : va_S A0 s.heap s.heap [] := va_S.rf
  have hl := lv_entry ([.ref (a0 0), .int p1]) (n := 3) (Nat.le_of_ble_eq_true rfl)
  rw [lg_entry_eq]
  generalize (lg_sl ([.ref (a0 0), .int p1]) ++ List.replicate (3 - (lg_sl ([.ref (a0 0), .int p1])).length) Slot.unset).toArray = ls at hl ⊢
  have hl : lv_has ls 3 [(0, .ref (a0 0)), (1, .int p1)] := hl
  have hL_26 : ∀ (s1 : St) (h1 : Option SR) (v1 : Int32) (n_26 : Nat) (s2 : St) (h2 : Option SR) (v2 : Int32), l_X7_soon_26 N L s1 h1 v1 n_26 s2 h2 v2 = some q → ∀ (H : Heap) (locs : List Loc) (ls : Array Slot), va_P E.1 vwCl ((wX7o E a0 a1 a2 a3 a4 a5 a6 a7 a8 a9 s0 ++ (wX2 E a1 s1 h1 ++ (wX2 E a2 s2 h2 ++ (wX1 E a3 s3 ++ (wX2 E a4 s4 h4 ++ (wX1 E a5 s5 ++ (wX5 E a6 s6 ++ (wX3 E a7 s7 ++ (wX0 E a8 s8 ++ (wX6 E a9 s9 t9)))))))))) ++ sW E.2.1 L) H → va_S A0 s.heap H locs → lv_has ls 3 [(0, .ref (a0 0)), (1, .int v1), (2, .int v2)] → W p l e rm_X7_soon s m ([.ref (a0 0), .int p1] : List Value).toArray below meth c H locs 0 0 (MQ below (va_Qi (fun (r' : Int32) (_ : Unit) => r' = q.1) (fun _ t => va_P E.1 vwCl ((wX7o E a0 a1 a2 a3 a4 a5 a6 a7 a8 a9 s0 ++ (wX2 E a1 s1 h1 ++ (wX2 E a2 q.2.1 q.2.2 ++ (wX1 E a3 s3 ++ (wX2 E a4 s4 h4 ++ (wX1 E a5 s5 ++ (wX5 E a6 s6 ++ (wX3 E a7 s7 ++ (wX0 E a8 s8 ++ (wX6 E a9 s9 t9)))))))))) ++ sW E.2.1 L) t.heap) A0) ([.ref (a0 0), .int p1] : List Value).toArray s 0 0 A0) (F0 m 26 ls []) := by
    intro s1 h1 v1 n_26
    induction n_26 with
    | zero => intro s2 h2 v2 hf; rw [l_X7_soon_26] at hf; cases hf
    | succ n_26 ih_26 =>
      intro s2 h2 v2 hf H locs ls hP hS hl
      rw [l_X7_soon_26] at hf
      refine lv_iload_n hx hb dX7_soon_26 rfl (lv_at hl 2 rfl) ?_
      refine lv_bipush (v := 60) hx hb dX7_soon_27 (by decide) ?_
      refine lv_icmp_gt (tgt := 58) hx hb dX7_soon_29 (by decide) (fun c_29 => ?_) (fun c_29 => ?_)
      · have hf := ite_t c_29 hf
        refine lv_bipush (v := (-5)) hx hb dX7_soon_58 (by decide) ?_
        have e9 := Option.some.inj hf
        have h9_0 : s2 = q.2.1 := congrArg (fun z => z.2.1) e9
        have h9_1 : h2 = q.2.2 := congrArg (fun z => z.2.2) e9
        have hP9 : va_P E.1 vwCl ((wX7o E a0 a1 a2 a3 a4 a5 a6 a7 a8 a9 s0 ++ (wX2 E a1 s1 h1 ++ (wX2 E a2 q.2.1 q.2.2 ++ (wX1 E a3 s3 ++ (wX2 E a4 s4 h4 ++ (wX1 E a5 s5 ++ (wX5 E a6 s6 ++ (wX3 E a7 s7 ++ (wX0 E a8 s8 ++ (wX6 E a9 s9 t9)))))))))) ++ sW E.2.1 L) H := by rw [← h9_0, ← h9_1]; exact hP
        exact rt_i hx hb hr hlocks (fst_e e9) hP9 hS dX7_soon_60
      · have hf := ite_f c_29 hf
        refine lv_aload_n hx hb dX7_soon_32 rfl (lv_at hl 0 rfl) ?_
        refine va_get (ci := 7) (C := RX7) (T := TX7) (N := 11) (v := .ref (a2 0)) hx hb hts i_X7_soon_X7 hown hK hP 0 rfl rfl 1 (by decide) (hts _ m_X7_soon_5dfb42) (fun _ h9 => h9) rfl dX7_soon_33 ?_
        refine va_getN (ci := 2) (C := RX2) (T := TX2) (N := 11) (v := .int (s2 6 0)) hx hb hts i_X7_soon_X2 hown hK hP 8 rfl rfl 6 (by decide) (nwG hG (w := .fieldLinkNest "PickedMatch" 108 "PickedMatch$Scene" "hadCount" "I" "PickedMatch") (by decide +kernel)) (fun _ h9 => h9) rfl dX7_soon_36 ?_
        refine lv_iload_n hx hb dX7_soon_39 rfl (lv_at hl 1 rfl) ?_
        refine lv_icmp_lt (tgt := 45) hx hb dX7_soon_40 (by decide) (fun c_40 => ?_) (fun c_40 => ?_)
        · have hf := ite_t c_40 hf
          refine lv_aload_n hx hb dX7_soon_45 rfl (lv_at hl 0 rfl) ?_
          refine va_get (ci := 7) (C := RX7) (T := TX7) (N := 11) (v := .ref (a2 0)) hx hb hts i_X7_soon_X7 hown hK hP 0 rfl rfl 1 (by decide) (hts _ m_X7_soon_5dfb42) (fun _ h9 => h9) rfl dX7_soon_46 ?_
          obtain ⟨q49, hc_49, hf⟩ := cl_e hf
          have hm_49 : ∀ q ∈ (wX2 E a2 s2 h2) ++ sW E.2.1 L, q ∈ (wX7o E a0 a1 a2 a3 a4 a5 a6 a7 a8 a9 s0 ++ (wX2 E a1 s1 h1 ++ (wX2 E a2 s2 h2 ++ (wX1 E a3 s3 ++ (wX2 E a4 s4 h4 ++ (wX1 E a5 s5 ++ (wX5 E a6 s6 ++ (wX3 E a7 s7 ++ (wX0 E a8 s8 ++ (wX6 E a9 s9 t9)))))))))) ++ sW E.2.1 L := (app_mem (sub_mem (suf := []) [8, 9, 10, 11, 12, 13, 14] rfl))
          refine fin_v (E := E) (wc := (wX2 E a2 s2 h2) ++ sW E.2.1 L) (wc' := (wX2 E a2 q49 h2) ++ sW E.2.1 L) (va_runVN (As := []) (rest := []) ⟨hx, hb, hml, hown, hts⟩ (k_X2_dayGoes l E a2 L N s2 h2 q49 hc_49 _) ⟨va_cnB 0 hts gX7_soon_X2_dayGoes_n183 rfl rfl rfl (hG.1 (.methodLinkNest "PickedMatch" 183 yX2_dayGoes "PickedMatch") (by decide +kernel)) (hts _ m_X7_soon_4cf9d8) (by decide +kernel) ⟨(Nat.le_of_ble_eq_true rfl), (Nat.le_of_ble_eq_true rfl)⟩, (hts _ m_X7_soon_4d7acd), (hts _ m_X7_soon_3b6c31)⟩ (pre_v (ci := 2) (q0 := 0) hK (sub_P hm_49 hP) (sub_Ds (ws := wX7o E a0 a1 a2 a3 a4 a5 a6 a7 a8 a9 s0 ++ (wX2 E a1 s1 h1 ++ (wX2 E a2 s2 h2 ++ (wX1 E a3 s3 ++ (wX2 E a4 s4 h4 ++ (wX1 E a5 s5 ++ (wX5 E a6 s6 ++ (wX3 E a7 s7 ++ (wX0 E a8 s8 ++ (wX6 E a9 s9 t9)))))))))) (wc := wX2 E a2 s2 h2) (suf := sW E.2.1 L) [8, 9, 10, 11, 12, 13, 14] (by decide) rfl (hDD s0 s1 h1 s2 h2 s3 s4 h4 s5 s6 s7 s8 s9 t9)) hS hG hAB rfl rfl) rfl rfl hl.1 rfl (lv_room (Nat.le_of_ble_eq_true rfl)) dX7_soon_49 ⟨Nat.zero_le _, Nat.zero_le _⟩) hS (w_free (hDD s0 s1 h1 s2 h2 s3 s4 h4 s5 s6 s7 s8 s9 t9) hS hA hm_49) (fun H locs hP1 hk hS => ?_)
          have hP := w_joins (ws' := wX7o E a0 a1 a2 a3 a4 a5 a6 a7 a8 a9 s0 ++ (wX2 E a1 s1 h1 ++ (wX2 E a2 q49 h2 ++ (wX1 E a3 s3 ++ (wX2 E a4 s4 h4 ++ (wX1 E a5 s5 ++ (wX5 E a6 s6 ++ (wX3 E a7 s7 ++ (wX0 E a8 s8 ++ (wX6 E a9 s9 t9)))))))))) (wc := wX2 E a2 s2 h2) (wc' := wX2 E a2 q49 h2) hP (hDD s0 s1 h1 s2 h2 s3 s4 h4 s5 s6 s7 s8 s9 t9) [8, 9, 10, 11, 12, 13, 14] rfl [none, none, none, none, none, none, none, none, some 0, some 1, some 2, some 3, some 4, some 5, some 6, none, none, none, none, none, none, none, none, none, none, none, none, none, none, none, none, none, none, none, none, none, none, none, none, none, none, none, none, none, none, none, none, none, none, none] rfl rfl hk hP1
          obtain ⟨x52, e_x52⟩ : ∃ y : Int32, y = v2 + 1 := ⟨_, rfl⟩
          have hf := nm_q e_x52 hf
          refine lv_iinc (v := x52) (lv' := [(2, .int x52), (0, .ref (a0 0)), (1, .int v1)]) hx hb dX7_soon_52 hl (k := 2) rfl (by rw [e_x52]; rfl) (Nat.le_of_ble_eq_true rfl) rfl (fun ls hl => ?_)
          refine lv_goto (tgt := 26) hx hb dX7_soon_55 (by decide) ?_
          exact ih_26 q49 h2 x52 hf _ _ _ hP hS (lv_sub hl [1, 2, 0] rfl)
        · have hf := ite_f c_40 hf
          refine lv_iload_n hx hb dX7_soon_43 rfl (lv_at hl 2 rfl) ?_
          have e9 := Option.some.inj hf
          have h9_0 : s2 = q.2.1 := congrArg (fun z => z.2.1) e9
          have h9_1 : h2 = q.2.2 := congrArg (fun z => z.2.2) e9
          have hP9 : va_P E.1 vwCl ((wX7o E a0 a1 a2 a3 a4 a5 a6 a7 a8 a9 s0 ++ (wX2 E a1 s1 h1 ++ (wX2 E a2 q.2.1 q.2.2 ++ (wX1 E a3 s3 ++ (wX2 E a4 s4 h4 ++ (wX1 E a5 s5 ++ (wX5 E a6 s6 ++ (wX3 E a7 s7 ++ (wX0 E a8 s8 ++ (wX6 E a9 s9 t9)))))))))) ++ sW E.2.1 L) H := by rw [← h9_0, ← h9_1]; exact hP
          exact rt_i hx hb hr hlocks (fst_e e9) hP9 hS dX7_soon_44
  refine lv_iload_n hx hb dX7_soon_0 rfl (lv_at hl 1 rfl) ?_
  refine lv_iconst (v := 0) hx hb dX7_soon_1 (by decide) ?_
  refine lv_bipush (v := 6) hx hb dX7_soon_2 (by decide) ?_
  obtain ⟨q4, hc_4, hf⟩ := cl_e hf
  refine fin_i (E := E) (wc := ([] : va_W)) (wc' := ([] : va_W)) (va_runS (As := [.int p1, .int 0, .int 6]) (rest := []) ⟨hx, hb, hml, hown, hts⟩ (k_X7_isWithin l E N p1 0 6 q4 hc_4 _) (va_cwS 3 hts gX7_soon_X7_isWithin rfl rfl rfl (by decide +kernel) ⟨(Nat.le_of_ble_eq_true rfl), (Nat.le_of_ble_eq_true rfl)⟩) (pre_s hK va_P_nil va_D_nil hS hG hAB) rfl rfl hl.1 rfl (lv_room (Nat.le_of_ble_eq_true rfl)) dX7_soon_4 ⟨Nat.zero_le _, Nat.zero_le _⟩) hS (free_nil hS hA) (fun H locs hP1 hk hS => ?_)
  have hP := w_kept0 hP hk
  refine lv_if_ne (tgt := 13) hx hb dX7_soon_7 (by decide) (fun c_7 => ?_) (fun c_7 => ?_)
  · have hf := ite_f c_7 hf
    refine lv_aload_n hx hb dX7_soon_13 rfl (lv_at hl 0 rfl) ?_
    refine va_get (ci := 7) (C := RX7) (T := TX7) (N := 11) (v := .ref (a2 0)) hx hb hts i_X7_soon_X7 hown hK hP 0 rfl rfl 1 (by decide) (hts _ m_X7_soon_5dfb42) (fun _ h9 => h9) rfl dX7_soon_14 ?_
    refine lv_aload_n hx hb dX7_soon_17 rfl (lv_at hl 0 rfl) ?_
    refine va_get (ci := 7) (C := RX7) (T := TX7) (N := 11) (v := .ref (a1 0)) hx hb hts i_X7_soon_X7 hown hK hP 0 rfl rfl 0 (by decide) (hts _ m_X7_soon_265b14) (fun _ h9 => h9) rfl dX7_soon_18 ?_
    obtain ⟨q21, hc_21, hf⟩ := cl_e hf
    have hm_21 : ∀ q ∈ (wX2 E a2 s2 h2 ++ (wX2 E a1 s1 h1)) ++ sW E.2.1 L, q ∈ (wX7o E a0 a1 a2 a3 a4 a5 a6 a7 a8 a9 s0 ++ (wX2 E a1 s1 h1 ++ (wX2 E a2 s2 h2 ++ (wX1 E a3 s3 ++ (wX2 E a4 s4 h4 ++ (wX1 E a5 s5 ++ (wX5 E a6 s6 ++ (wX3 E a7 s7 ++ (wX0 E a8 s8 ++ (wX6 E a9 s9 t9)))))))))) ++ sW E.2.1 L := (app_mem (sub_mem (suf := []) [8, 9, 10, 11, 12, 13, 14, 1, 2, 3, 4, 5, 6, 7] rfl))
    refine fin_v (E := E) (wc := (wX2 E a2 s2 h2 ++ (wX2 E a1 s1 h1)) ++ sW E.2.1 L) (wc' := (wX2 E a2 q21.1 q21.2 ++ (wX2 E a1 s1 h1)) ++ sW E.2.1 L) (va_runVN (As := [.ref (a1 0)]) (rest := []) ⟨hx, hb, hml, hown, hts⟩ (k_X2_becomeAs l E a2 a1 L N s2 h2 s1 h1 q21 hc_21 _) ⟨va_cnB 1 hts gX7_soon_X2_becomeAs_n179 rfl rfl rfl (hG.1 (.methodLinkNest "PickedMatch" 179 yX2_becomeAs "PickedMatch") (by decide +kernel)) (hts _ m_X7_soon_4cf9d8) (by decide +kernel) ⟨(Nat.le_of_ble_eq_true rfl), (Nat.le_of_ble_eq_true rfl)⟩, (hts _ m_X7_soon_c21ce8), (hts _ m_X7_soon_986579)⟩ (pre_v (ci := 2) (q0 := 0) hK (sub_P hm_21 hP) (sub_Ds (ws := wX7o E a0 a1 a2 a3 a4 a5 a6 a7 a8 a9 s0 ++ (wX2 E a1 s1 h1 ++ (wX2 E a2 s2 h2 ++ (wX1 E a3 s3 ++ (wX2 E a4 s4 h4 ++ (wX1 E a5 s5 ++ (wX5 E a6 s6 ++ (wX3 E a7 s7 ++ (wX0 E a8 s8 ++ (wX6 E a9 s9 t9)))))))))) (wc := wX2 E a2 s2 h2 ++ (wX2 E a1 s1 h1)) (suf := sW E.2.1 L) [8, 9, 10, 11, 12, 13, 14, 1, 2, 3, 4, 5, 6, 7] (by decide) rfl (hDD s0 s1 h1 s2 h2 s3 s4 h4 s5 s6 s7 s8 s9 t9)) hS hG hAB rfl rfl) rfl rfl hl.1 rfl (lv_room (Nat.le_of_ble_eq_true rfl)) dX7_soon_21 ⟨Nat.zero_le _, Nat.zero_le _⟩) hS (w_free (hDD s0 s1 h1 s2 h2 s3 s4 h4 s5 s6 s7 s8 s9 t9) hS hA hm_21) (fun H locs hP1 hk hS => ?_)
    have hP := w_joins (ws' := wX7o E a0 a1 a2 a3 a4 a5 a6 a7 a8 a9 s0 ++ (wX2 E a1 s1 h1 ++ (wX2 E a2 q21.1 q21.2 ++ (wX1 E a3 s3 ++ (wX2 E a4 s4 h4 ++ (wX1 E a5 s5 ++ (wX5 E a6 s6 ++ (wX3 E a7 s7 ++ (wX0 E a8 s8 ++ (wX6 E a9 s9 t9)))))))))) (wc := wX2 E a2 s2 h2 ++ (wX2 E a1 s1 h1)) (wc' := wX2 E a2 q21.1 q21.2 ++ (wX2 E a1 s1 h1)) hP (hDD s0 s1 h1 s2 h2 s3 s4 h4 s5 s6 s7 s8 s9 t9) [8, 9, 10, 11, 12, 13, 14, 1, 2, 3, 4, 5, 6, 7] rfl [none, some 7, some 8, some 9, some 10, some 11, some 12, some 13, some 0, some 1, some 2, some 3, some 4, some 5, some 6, none, none, none, none, none, none, none, none, none, none, none, none, none, none, none, none, none, none, none, none, none, none, none, none, none, none, none, none, none, none, none, none, none, none, none] rfl rfl hk hP1
    refine lv_iconst (v := 0) hx hb dX7_soon_24 (by decide) ?_
    refine lv_istore_n (lv' := [(2, .int 0), (0, .ref (a0 0)), (1, .int p1)]) hx hb dX7_soon_25 rfl hl (Nat.le_of_ble_eq_true rfl) rfl (fun ls hl => ?_)
    exact hL_26 s1 h1 p1 N q21.1 q21.2 0 hf _ _ _ hP hS (lv_sub hl [1, 2, 0] rfl)
  · have hf := ite_t c_7 hf
    refine lv_bipush (v := (-2)) hx hb dX7_soon_10 (by decide) ?_
    have e9 := Option.some.inj hf
    have h9_0 : s2 = q.2.1 := congrArg (fun z => z.2.1) e9
    have h9_1 : h2 = q.2.2 := congrArg (fun z => z.2.2) e9
    have hP9 : va_P E.1 vwCl ((wX7o E a0 a1 a2 a3 a4 a5 a6 a7 a8 a9 s0 ++ (wX2 E a1 s1 h1 ++ (wX2 E a2 q.2.1 q.2.2 ++ (wX1 E a3 s3 ++ (wX2 E a4 s4 h4 ++ (wX1 E a5 s5 ++ (wX5 E a6 s6 ++ (wX3 E a7 s7 ++ (wX0 E a8 s8 ++ (wX6 E a9 s9 t9)))))))))) ++ sW E.2.1 L) H := by rw [← h9_0, ← h9_1]; exact hP
    exact rt_i hx hb hr hlocks (fst_e e9) hP9 hS dX7_soon_12
abbrev rm_X7_when : Room := { frames := 5, cells := 0, slots := 0, locals := 116 }
theorem m_X7_when_5dfb42 : Cond.fieldLink RX7 18 "PickedMatch" "trial" "LPickedMatch$Scene;" ∈ wsX7_when := by decide +kernel
theorem i_X7_when_X7 : ∀ w ∈ wsX70, w ∈ wsX7_when := fun _ h => List.mem_cons_of_mem _ (List.mem_append_left _ (List.mem_append_left _ (List.mem_append_right _ h)))
theorem m_X7_when_4cf9d8 : Cond.initialized RX2 ∈ wsX7_when := by decide +kernel
theorem m_X7_when_ab92ab : Cond.instanceMethod yX2_isHad ∈ wsX7_when := by decide +kernel
theorem m_X7_when_8e582f : Cond.selects RX2 yX2_isHad yX2_isHad ∈ wsX7_when := by decide +kernel
theorem m_X7_when_4d7acd : Cond.instanceMethod yX2_dayGoes ∈ wsX7_when := by decide +kernel
theorem m_X7_when_3b6c31 : Cond.selects RX2 yX2_dayGoes yX2_dayGoes ∈ wsX7_when := by decide +kernel
theorem m_X7_when_265b14 : Cond.fieldLink RX7 12 "PickedMatch" "scene" "LPickedMatch$Scene;" ∈ wsX7_when := by decide +kernel
theorem m_X7_when_0211d8 : Cond.instanceMethod yX2_hasThing ∈ wsX7_when := by decide +kernel
theorem m_X7_when_6099ba : Cond.selects RX2 yX2_hasThing yX2_hasThing ∈ wsX7_when := by decide +kernel
theorem m_X7_when_c21ce8 : Cond.instanceMethod yX2_becomeAs ∈ wsX7_when := by decide +kernel
theorem m_X7_when_986579 : Cond.selects RX2 yX2_becomeAs yX2_becomeAs ∈ wsX7_when := by decide +kernel
set_option maxHeartbeats 8000000 in
set_option maxRecDepth 100000 in
theorem k_X7_when (l : Launch) (E : Ev) (a0 : Nat → Nat) (a1 : Nat → Nat) (a2 : Nat → Nat) (a3 : Nat → Nat) (a4 : Nat → Nat) (a5 : Nat → Nat) (a6 : Nat → Nat) (a7 : Nat → Nat) (a8 : Nat → Nat) (a9 : Nat → Nat) (L : List SR) (N : Nat) (s0 : St) (s1 : St) (h1 : Option SR) (s2 : St) (h2 : Option SR) (s3 : St) (s4 : St) (h4 : Option SR) (s5 : St) (s6 : St) (s7 : St) (s8 : St) (s9 : St) (t9 : Nat → Nat → Int64) (p1 : Int32) (q : (Int32 × St × (Option SR))) (hf : f_X7_when N L s1 h1 s2 h2 p1 = some q) : Ci l yX7_when wsX7_when rm_X7_when E [.ref (a0 0), .int p1] ((wX7o E a0 a1 a2 a3 a4 a5 a6 a7 a8 a9 s0 ++ (wX2 E a1 s1 h1 ++ (wX2 E a2 s2 h2 ++ (wX1 E a3 s3 ++ (wX2 E a4 s4 h4 ++ (wX1 E a5 s5 ++ (wX5 E a6 s6 ++ (wX3 E a7 s7 ++ (wX0 E a8 s8 ++ (wX6 E a9 s9 t9)))))))))) ++ sW E.2.1 L) ((wX7o E a0 a1 a2 a3 a4 a5 a6 a7 a8 a9 s0 ++ (wX2 E a1 s1 h1 ++ (wX2 E a2 q.2.1 q.2.2 ++ (wX1 E a3 s3 ++ (wX2 E a4 s4 h4 ++ (wX1 E a5 s5 ++ (wX5 E a6 s6 ++ (wX3 E a7 s7 ++ (wX0 E a8 s8 ++ (wX6 E a9 s9 t9)))))))))) ++ sW E.2.1 L) q.1 := by
  unfold f_X7_when at hf
  intro sz
  refine Met.ofW (cc := cX7_when) (maxL := 3) (ret := (some .int)) (by decide) rfl ?_
  intro p e s m args below meth c s₁ B hml hpre
  obtain ⟨rfl, hsz, hP, hK, hD0, hG, hA, hAB⟩ := start hpre
  have hx := B.exec
  have hb := B.bytes
  have hr := B.returns
  have hts := atoms_spec (ws := wsX7_when) B.pre
  have hown : s.vm.findClass RX7 = some m.cls := findClass_of_methodNamed B.named
  have hlocks := B.notSynchronized
  subst hsz
  generalize va_A ((wX7o E a0 a1 a2 a3 a4 a5 a6 a7 a8 a9 s0 ++ (wX2 E a1 s1 h1 ++ (wX2 E a2 s2 h2 ++ (wX1 E a3 s3 ++ (wX2 E a4 s4 h4 ++ (wX1 E a5 s5 ++ (wX5 E a6 s6 ++ (wX3 E a7 s7 ++ (wX0 E a8 s8 ++ (wX6 E a9 s9 t9)))))))))) ++ sW E.2.1 L) s.heap.size = A0 at hD0 hA hAB ⊢
  have hDD : ∀ (s0 : St) (s1 : St) (h1 : Option SR) (s2 : St) (h2 : Option SR) (s3 : St) (s4 : St) (h4 : Option SR) (s5 : St) (s6 : St) (s7 : St) (s8 : St) (s9 : St) (t9 : Nat → Nat → Int64), va_D A0 ((wX7o E a0 a1 a2 a3 a4 a5 a6 a7 a8 a9 s0 ++ (wX2 E a1 s1 h1 ++ (wX2 E a2 s2 h2 ++ (wX1 E a3 s3 ++ (wX2 E a4 s4 h4 ++ (wX1 E a5 s5 ++ (wX5 E a6 s6 ++ (wX3 E a7 s7 ++ (wX0 E a8 s8 ++ (wX6 E a9 s9 t9)))))))))) ++ sW E.2.1 L) := fun s0 s1 h1 s2 h2 s3 s4 h4 s5 s6 s7 s8 s9 t9 => vD_addr hD0 rfl
  have hS : va_S A0 s.heap s.heap [] := va_S.rf
  have hl := lv_entry ([.ref (a0 0), .int p1]) (n := 3) (Nat.le_of_ble_eq_true rfl)
  rw [lg_entry_eq]
  generalize (lg_sl ([.ref (a0 0), .int p1]) ++ List.replicate (3 - (lg_sl ([.ref (a0 0), .int p1])).length) Slot.unset).toArray = ls at hl ⊢
  have hl : lv_has ls 3 [(0, .ref (a0 0)), (1, .int p1)] := hl
  have hL_26 : ∀ (s1 : St) (h1 : Option SR) (v1 : Int32) (n_26 : Nat) (s2 : St) (h2 : Option SR) (v2 : Int32), l_X7_when_26 N L s1 h1 v1 n_26 s2 h2 v2 = some q → ∀ (H : Heap) (locs : List Loc) (ls : Array Slot), va_P E.1 vwCl ((wX7o E a0 a1 a2 a3 a4 a5 a6 a7 a8 a9 s0 ++ (wX2 E a1 s1 h1 ++ (wX2 E a2 s2 h2 ++ (wX1 E a3 s3 ++ (wX2 E a4 s4 h4 ++ (wX1 E a5 s5 ++ (wX5 E a6 s6 ++ (wX3 E a7 s7 ++ (wX0 E a8 s8 ++ (wX6 E a9 s9 t9)))))))))) ++ sW E.2.1 L) H → va_S A0 s.heap H locs → lv_has ls 3 [(0, .ref (a0 0)), (1, .int v1), (2, .int v2)] → W p l e rm_X7_when s m ([.ref (a0 0), .int p1] : List Value).toArray below meth c H locs 0 0 (MQ below (va_Qi (fun (r' : Int32) (_ : Unit) => r' = q.1) (fun _ t => va_P E.1 vwCl ((wX7o E a0 a1 a2 a3 a4 a5 a6 a7 a8 a9 s0 ++ (wX2 E a1 s1 h1 ++ (wX2 E a2 q.2.1 q.2.2 ++ (wX1 E a3 s3 ++ (wX2 E a4 s4 h4 ++ (wX1 E a5 s5 ++ (wX5 E a6 s6 ++ (wX3 E a7 s7 ++ (wX0 E a8 s8 ++ (wX6 E a9 s9 t9)))))))))) ++ sW E.2.1 L) t.heap) A0) ([.ref (a0 0), .int p1] : List Value).toArray s 0 0 A0) (F0 m 26 ls []) := by
    intro s1 h1 v1 n_26
    induction n_26 with
    | zero => intro s2 h2 v2 hf; rw [l_X7_when_26] at hf; cases hf
    | succ n_26 ih_26 =>
      intro s2 h2 v2 hf H locs ls hP hS hl
      rw [l_X7_when_26] at hf
      refine lv_iload_n hx hb dX7_when_26 rfl (lv_at hl 2 rfl) ?_
      refine lv_bipush (v := 60) hx hb dX7_when_27 (by decide) ?_
      refine lv_icmp_gt (tgt := 58) hx hb dX7_when_29 (by decide) (fun c_29 => ?_) (fun c_29 => ?_)
      · have hf := ite_t c_29 hf
        refine lv_bipush (v := (-5)) hx hb dX7_when_58 (by decide) ?_
        have e9 := Option.some.inj hf
        have h9_0 : s2 = q.2.1 := congrArg (fun z => z.2.1) e9
        have h9_1 : h2 = q.2.2 := congrArg (fun z => z.2.2) e9
        have hP9 : va_P E.1 vwCl ((wX7o E a0 a1 a2 a3 a4 a5 a6 a7 a8 a9 s0 ++ (wX2 E a1 s1 h1 ++ (wX2 E a2 q.2.1 q.2.2 ++ (wX1 E a3 s3 ++ (wX2 E a4 s4 h4 ++ (wX1 E a5 s5 ++ (wX5 E a6 s6 ++ (wX3 E a7 s7 ++ (wX0 E a8 s8 ++ (wX6 E a9 s9 t9)))))))))) ++ sW E.2.1 L) H := by rw [← h9_0, ← h9_1]; exact hP
        exact rt_i hx hb hr hlocks (fst_e e9) hP9 hS dX7_when_60
      · have hf := ite_f c_29 hf
        refine lv_aload_n hx hb dX7_when_32 rfl (lv_at hl 0 rfl) ?_
        refine va_get (ci := 7) (C := RX7) (T := TX7) (N := 11) (v := .ref (a2 0)) hx hb hts i_X7_when_X7 hown hK hP 0 rfl rfl 1 (by decide) (hts _ m_X7_when_5dfb42) (fun _ h9 => h9) rfl dX7_when_33 ?_
        refine lv_iload_n hx hb dX7_when_36 rfl (lv_at hl 1 rfl) ?_
        obtain ⟨q37, hc_37, hf⟩ := cl_e hf
        have hm_37 : ∀ q ∈ (wX2 E a2 s2 h2) ++ sW E.2.1 L, q ∈ (wX7o E a0 a1 a2 a3 a4 a5 a6 a7 a8 a9 s0 ++ (wX2 E a1 s1 h1 ++ (wX2 E a2 s2 h2 ++ (wX1 E a3 s3 ++ (wX2 E a4 s4 h4 ++ (wX1 E a5 s5 ++ (wX5 E a6 s6 ++ (wX3 E a7 s7 ++ (wX0 E a8 s8 ++ (wX6 E a9 s9 t9)))))))))) ++ sW E.2.1 L := (app_mem (sub_mem (suf := []) [8, 9, 10, 11, 12, 13, 14] rfl))
        refine fin_i (E := E) (wc := (wX2 E a2 s2 h2) ++ sW E.2.1 L) (wc' := (wX2 E a2 s2 h2) ++ sW E.2.1 L) (va_runVN (As := [.int v1]) (rest := []) ⟨hx, hb, hml, hown, hts⟩ (k_X2_isHad l E a2 L N s2 h2 v1 q37 hc_37 _) ⟨va_cnB 1 hts gX7_when_X2_isHad_n186 rfl rfl rfl (hG.1 (.methodLinkNest "PickedMatch" 186 yX2_isHad "PickedMatch") (by decide +kernel)) (hts _ m_X7_when_4cf9d8) (by decide +kernel) ⟨(Nat.le_of_ble_eq_true rfl), (Nat.le_of_ble_eq_true rfl)⟩, (hts _ m_X7_when_ab92ab), (hts _ m_X7_when_8e582f)⟩ (pre_v (ci := 2) (q0 := 0) hK (sub_P hm_37 hP) (sub_Ds (ws := wX7o E a0 a1 a2 a3 a4 a5 a6 a7 a8 a9 s0 ++ (wX2 E a1 s1 h1 ++ (wX2 E a2 s2 h2 ++ (wX1 E a3 s3 ++ (wX2 E a4 s4 h4 ++ (wX1 E a5 s5 ++ (wX5 E a6 s6 ++ (wX3 E a7 s7 ++ (wX0 E a8 s8 ++ (wX6 E a9 s9 t9)))))))))) (wc := wX2 E a2 s2 h2) (suf := sW E.2.1 L) [8, 9, 10, 11, 12, 13, 14] (by decide) rfl (hDD s0 s1 h1 s2 h2 s3 s4 h4 s5 s6 s7 s8 s9 t9)) hS hG hAB rfl rfl) rfl rfl hl.1 rfl (lv_room (Nat.le_of_ble_eq_true rfl)) dX7_when_37 ⟨Nat.zero_le _, Nat.zero_le _⟩) hS (w_free (hDD s0 s1 h1 s2 h2 s3 s4 h4 s5 s6 s7 s8 s9 t9) hS hA hm_37) (fun H locs hP1 hk hS => ?_)
        have hP := w_joins (ws' := wX7o E a0 a1 a2 a3 a4 a5 a6 a7 a8 a9 s0 ++ (wX2 E a1 s1 h1 ++ (wX2 E a2 s2 h2 ++ (wX1 E a3 s3 ++ (wX2 E a4 s4 h4 ++ (wX1 E a5 s5 ++ (wX5 E a6 s6 ++ (wX3 E a7 s7 ++ (wX0 E a8 s8 ++ (wX6 E a9 s9 t9)))))))))) (wc := wX2 E a2 s2 h2) (wc' := wX2 E a2 s2 h2) hP (hDD s0 s1 h1 s2 h2 s3 s4 h4 s5 s6 s7 s8 s9 t9) [8, 9, 10, 11, 12, 13, 14] rfl [none, none, none, none, none, none, none, none, some 0, some 1, some 2, some 3, some 4, some 5, some 6, none, none, none, none, none, none, none, none, none, none, none, none, none, none, none, none, none, none, none, none, none, none, none, none, none, none, none, none, none, none, none, none, none, none, none] rfl rfl hk hP1
        refine lv_if_eq (tgt := 45) hx hb dX7_when_40 (by decide) (fun c_40 => ?_) (fun c_40 => ?_)
        · have hf := ite_t c_40 hf
          refine lv_aload_n hx hb dX7_when_45 rfl (lv_at hl 0 rfl) ?_
          refine va_get (ci := 7) (C := RX7) (T := TX7) (N := 11) (v := .ref (a2 0)) hx hb hts i_X7_when_X7 hown hK hP 0 rfl rfl 1 (by decide) (hts _ m_X7_when_5dfb42) (fun _ h9 => h9) rfl dX7_when_46 ?_
          obtain ⟨q49, hc_49, hf⟩ := cl_e hf
          have hm_49 : ∀ q ∈ (wX2 E a2 s2 h2) ++ sW E.2.1 L, q ∈ (wX7o E a0 a1 a2 a3 a4 a5 a6 a7 a8 a9 s0 ++ (wX2 E a1 s1 h1 ++ (wX2 E a2 s2 h2 ++ (wX1 E a3 s3 ++ (wX2 E a4 s4 h4 ++ (wX1 E a5 s5 ++ (wX5 E a6 s6 ++ (wX3 E a7 s7 ++ (wX0 E a8 s8 ++ (wX6 E a9 s9 t9)))))))))) ++ sW E.2.1 L := (app_mem (sub_mem (suf := []) [8, 9, 10, 11, 12, 13, 14] rfl))
          refine fin_v (E := E) (wc := (wX2 E a2 s2 h2) ++ sW E.2.1 L) (wc' := (wX2 E a2 q49 h2) ++ sW E.2.1 L) (va_runVN (As := []) (rest := []) ⟨hx, hb, hml, hown, hts⟩ (k_X2_dayGoes l E a2 L N s2 h2 q49 hc_49 _) ⟨va_cnB 0 hts gX7_when_X2_dayGoes_n183 rfl rfl rfl (hG.1 (.methodLinkNest "PickedMatch" 183 yX2_dayGoes "PickedMatch") (by decide +kernel)) (hts _ m_X7_when_4cf9d8) (by decide +kernel) ⟨(Nat.le_of_ble_eq_true rfl), (Nat.le_of_ble_eq_true rfl)⟩, (hts _ m_X7_when_4d7acd), (hts _ m_X7_when_3b6c31)⟩ (pre_v (ci := 2) (q0 := 0) hK (sub_P hm_49 hP) (sub_Ds (ws := wX7o E a0 a1 a2 a3 a4 a5 a6 a7 a8 a9 s0 ++ (wX2 E a1 s1 h1 ++ (wX2 E a2 s2 h2 ++ (wX1 E a3 s3 ++ (wX2 E a4 s4 h4 ++ (wX1 E a5 s5 ++ (wX5 E a6 s6 ++ (wX3 E a7 s7 ++ (wX0 E a8 s8 ++ (wX6 E a9 s9 t9)))))))))) (wc := wX2 E a2 s2 h2) (suf := sW E.2.1 L) [8, 9, 10, 11, 12, 13, 14] (by decide) rfl (hDD s0 s1 h1 s2 h2 s3 s4 h4 s5 s6 s7 s8 s9 t9)) hS hG hAB rfl rfl) rfl rfl hl.1 rfl (lv_room (Nat.le_of_ble_eq_true rfl)) dX7_when_49 ⟨Nat.zero_le _, Nat.zero_le _⟩) hS (w_free (hDD s0 s1 h1 s2 h2 s3 s4 h4 s5 s6 s7 s8 s9 t9) hS hA hm_49) (fun H locs hP1 hk hS => ?_)
          have hP := w_joins (ws' := wX7o E a0 a1 a2 a3 a4 a5 a6 a7 a8 a9 s0 ++ (wX2 E a1 s1 h1 ++ (wX2 E a2 q49 h2 ++ (wX1 E a3 s3 ++ (wX2 E a4 s4 h4 ++ (wX1 E a5 s5 ++ (wX5 E a6 s6 ++ (wX3 E a7 s7 ++ (wX0 E a8 s8 ++ (wX6 E a9 s9 t9)))))))))) (wc := wX2 E a2 s2 h2) (wc' := wX2 E a2 q49 h2) hP (hDD s0 s1 h1 s2 h2 s3 s4 h4 s5 s6 s7 s8 s9 t9) [8, 9, 10, 11, 12, 13, 14] rfl [none, none, none, none, none, none, none, none, some 0, some 1, some 2, some 3, some 4, some 5, some 6, none, none, none, none, none, none, none, none, none, none, none, none, none, none, none, none, none, none, none, none, none, none, none, none, none, none, none, none, none, none, none, none, none, none, none] rfl rfl hk hP1
          obtain ⟨x52, e_x52⟩ : ∃ y : Int32, y = v2 + 1 := ⟨_, rfl⟩
          have hf := nm_q e_x52 hf
          refine lv_iinc (v := x52) (lv' := [(2, .int x52), (0, .ref (a0 0)), (1, .int v1)]) hx hb dX7_when_52 hl (k := 2) rfl (by rw [e_x52]; rfl) (Nat.le_of_ble_eq_true rfl) rfl (fun ls hl => ?_)
          refine lv_goto (tgt := 26) hx hb dX7_when_55 (by decide) ?_
          exact ih_26 q49 h2 x52 hf _ _ _ hP hS (lv_sub hl [1, 2, 0] rfl)
        · have hf := ite_f c_40 hf
          refine lv_iload_n hx hb dX7_when_43 rfl (lv_at hl 2 rfl) ?_
          have e9 := Option.some.inj hf
          have h9_0 : s2 = q.2.1 := congrArg (fun z => z.2.1) e9
          have h9_1 : h2 = q.2.2 := congrArg (fun z => z.2.2) e9
          have hP9 : va_P E.1 vwCl ((wX7o E a0 a1 a2 a3 a4 a5 a6 a7 a8 a9 s0 ++ (wX2 E a1 s1 h1 ++ (wX2 E a2 q.2.1 q.2.2 ++ (wX1 E a3 s3 ++ (wX2 E a4 s4 h4 ++ (wX1 E a5 s5 ++ (wX5 E a6 s6 ++ (wX3 E a7 s7 ++ (wX0 E a8 s8 ++ (wX6 E a9 s9 t9)))))))))) ++ sW E.2.1 L) H := by rw [← h9_0, ← h9_1]; exact hP
          exact rt_i hx hb hr hlocks (fst_e e9) hP9 hS dX7_when_44
  refine lv_aload_n hx hb dX7_when_0 rfl (lv_at hl 0 rfl) ?_
  refine va_get (ci := 7) (C := RX7) (T := TX7) (N := 11) (v := .ref (a1 0)) hx hb hts i_X7_when_X7 hown hK hP 0 rfl rfl 0 (by decide) (hts _ m_X7_when_265b14) (fun _ h9 => h9) rfl dX7_when_1 ?_
  refine lv_iload_n hx hb dX7_when_4 rfl (lv_at hl 1 rfl) ?_
  obtain ⟨q5, hc_5, hf⟩ := cl_e hf
  have hm_5 : ∀ q ∈ (wX2 E a1 s1 h1) ++ sW E.2.1 L, q ∈ (wX7o E a0 a1 a2 a3 a4 a5 a6 a7 a8 a9 s0 ++ (wX2 E a1 s1 h1 ++ (wX2 E a2 s2 h2 ++ (wX1 E a3 s3 ++ (wX2 E a4 s4 h4 ++ (wX1 E a5 s5 ++ (wX5 E a6 s6 ++ (wX3 E a7 s7 ++ (wX0 E a8 s8 ++ (wX6 E a9 s9 t9)))))))))) ++ sW E.2.1 L := (app_mem (sub_mem (suf := []) [1, 2, 3, 4, 5, 6, 7] rfl))
  refine fin_i (E := E) (wc := (wX2 E a1 s1 h1) ++ sW E.2.1 L) (wc' := (wX2 E a1 s1 h1) ++ sW E.2.1 L) (va_runVN (As := [.int p1]) (rest := []) ⟨hx, hb, hml, hown, hts⟩ (k_X2_hasThing l E a1 L N s1 h1 p1 q5 hc_5 _) ⟨va_cnB 1 hts gX7_when_X2_hasThing_n74 rfl rfl rfl (hG.1 (.methodLinkNest "PickedMatch" 74 yX2_hasThing "PickedMatch") (by decide +kernel)) (hts _ m_X7_when_4cf9d8) (by decide +kernel) ⟨(Nat.le_of_ble_eq_true rfl), (Nat.le_of_ble_eq_true rfl)⟩, (hts _ m_X7_when_0211d8), (hts _ m_X7_when_6099ba)⟩ (pre_v (ci := 2) (q0 := 0) hK (sub_P hm_5 hP) (sub_Ds (ws := wX7o E a0 a1 a2 a3 a4 a5 a6 a7 a8 a9 s0 ++ (wX2 E a1 s1 h1 ++ (wX2 E a2 s2 h2 ++ (wX1 E a3 s3 ++ (wX2 E a4 s4 h4 ++ (wX1 E a5 s5 ++ (wX5 E a6 s6 ++ (wX3 E a7 s7 ++ (wX0 E a8 s8 ++ (wX6 E a9 s9 t9)))))))))) (wc := wX2 E a1 s1 h1) (suf := sW E.2.1 L) [1, 2, 3, 4, 5, 6, 7] (by decide) rfl (hDD s0 s1 h1 s2 h2 s3 s4 h4 s5 s6 s7 s8 s9 t9)) hS hG hAB rfl rfl) rfl rfl hl.1 rfl (lv_room (Nat.le_of_ble_eq_true rfl)) dX7_when_5 ⟨Nat.zero_le _, Nat.zero_le _⟩) hS (w_free (hDD s0 s1 h1 s2 h2 s3 s4 h4 s5 s6 s7 s8 s9 t9) hS hA hm_5) (fun H locs hP1 hk hS => ?_)
  have hP := w_joins (ws' := wX7o E a0 a1 a2 a3 a4 a5 a6 a7 a8 a9 s0 ++ (wX2 E a1 s1 h1 ++ (wX2 E a2 s2 h2 ++ (wX1 E a3 s3 ++ (wX2 E a4 s4 h4 ++ (wX1 E a5 s5 ++ (wX5 E a6 s6 ++ (wX3 E a7 s7 ++ (wX0 E a8 s8 ++ (wX6 E a9 s9 t9)))))))))) (wc := wX2 E a1 s1 h1) (wc' := wX2 E a1 s1 h1) hP (hDD s0 s1 h1 s2 h2 s3 s4 h4 s5 s6 s7 s8 s9 t9) [1, 2, 3, 4, 5, 6, 7] rfl [none, some 0, some 1, some 2, some 3, some 4, some 5, some 6, none, none, none, none, none, none, none, none, none, none, none, none, none, none, none, none, none, none, none, none, none, none, none, none, none, none, none, none, none, none, none, none, none, none, none, none, none, none, none, none, none, none] rfl rfl hk hP1
  refine lv_if_ne (tgt := 13) hx hb dX7_when_8 (by decide) (fun c_8 => ?_) (fun c_8 => ?_)
  · have hf := ite_f c_8 hf
    refine lv_aload_n hx hb dX7_when_13 rfl (lv_at hl 0 rfl) ?_
    refine va_get (ci := 7) (C := RX7) (T := TX7) (N := 11) (v := .ref (a2 0)) hx hb hts i_X7_when_X7 hown hK hP 0 rfl rfl 1 (by decide) (hts _ m_X7_when_5dfb42) (fun _ h9 => h9) rfl dX7_when_14 ?_
    refine lv_aload_n hx hb dX7_when_17 rfl (lv_at hl 0 rfl) ?_
    refine va_get (ci := 7) (C := RX7) (T := TX7) (N := 11) (v := .ref (a1 0)) hx hb hts i_X7_when_X7 hown hK hP 0 rfl rfl 0 (by decide) (hts _ m_X7_when_265b14) (fun _ h9 => h9) rfl dX7_when_18 ?_
    obtain ⟨q21, hc_21, hf⟩ := cl_e hf
    have hm_21 : ∀ q ∈ (wX2 E a2 s2 h2 ++ (wX2 E a1 s1 h1)) ++ sW E.2.1 L, q ∈ (wX7o E a0 a1 a2 a3 a4 a5 a6 a7 a8 a9 s0 ++ (wX2 E a1 s1 h1 ++ (wX2 E a2 s2 h2 ++ (wX1 E a3 s3 ++ (wX2 E a4 s4 h4 ++ (wX1 E a5 s5 ++ (wX5 E a6 s6 ++ (wX3 E a7 s7 ++ (wX0 E a8 s8 ++ (wX6 E a9 s9 t9)))))))))) ++ sW E.2.1 L := (app_mem (sub_mem (suf := []) [8, 9, 10, 11, 12, 13, 14, 1, 2, 3, 4, 5, 6, 7] rfl))
    refine fin_v (E := E) (wc := (wX2 E a2 s2 h2 ++ (wX2 E a1 s1 h1)) ++ sW E.2.1 L) (wc' := (wX2 E a2 q21.1 q21.2 ++ (wX2 E a1 s1 h1)) ++ sW E.2.1 L) (va_runVN (As := [.ref (a1 0)]) (rest := []) ⟨hx, hb, hml, hown, hts⟩ (k_X2_becomeAs l E a2 a1 L N s2 h2 s1 h1 q21 hc_21 _) ⟨va_cnB 1 hts gX7_when_X2_becomeAs_n179 rfl rfl rfl (hG.1 (.methodLinkNest "PickedMatch" 179 yX2_becomeAs "PickedMatch") (by decide +kernel)) (hts _ m_X7_when_4cf9d8) (by decide +kernel) ⟨(Nat.le_of_ble_eq_true rfl), (Nat.le_of_ble_eq_true rfl)⟩, (hts _ m_X7_when_c21ce8), (hts _ m_X7_when_986579)⟩ (pre_v (ci := 2) (q0 := 0) hK (sub_P hm_21 hP) (sub_Ds (ws := wX7o E a0 a1 a2 a3 a4 a5 a6 a7 a8 a9 s0 ++ (wX2 E a1 s1 h1 ++ (wX2 E a2 s2 h2 ++ (wX1 E a3 s3 ++ (wX2 E a4 s4 h4 ++ (wX1 E a5 s5 ++ (wX5 E a6 s6 ++ (wX3 E a7 s7 ++ (wX0 E a8 s8 ++ (wX6 E a9 s9 t9)))))))))) (wc := wX2 E a2 s2 h2 ++ (wX2 E a1 s1 h1)) (suf := sW E.2.1 L) [8, 9, 10, 11, 12, 13, 14, 1, 2, 3, 4, 5, 6, 7] (by decide) rfl (hDD s0 s1 h1 s2 h2 s3 s4 h4 s5 s6 s7 s8 s9 t9)) hS hG hAB rfl rfl) rfl rfl hl.1 rfl (lv_room (Nat.le_of_ble_eq_true rfl)) dX7_when_21 ⟨Nat.zero_le _, Nat.zero_le _⟩) hS (w_free (hDD s0 s1 h1 s2 h2 s3 s4 h4 s5 s6 s7 s8 s9 t9) hS hA hm_21) (fun H locs hP1 hk hS => ?_)
    have hP := w_joins (ws' := wX7o E a0 a1 a2 a3 a4 a5 a6 a7 a8 a9 s0 ++ (wX2 E a1 s1 h1 ++ (wX2 E a2 q21.1 q21.2 ++ (wX1 E a3 s3 ++ (wX2 E a4 s4 h4 ++ (wX1 E a5 s5 ++ (wX5 E a6 s6 ++ (wX3 E a7 s7 ++ (wX0 E a8 s8 ++ (wX6 E a9 s9 t9)))))))))) (wc := wX2 E a2 s2 h2 ++ (wX2 E a1 s1 h1)) (wc' := wX2 E a2 q21.1 q21.2 ++ (wX2 E a1 s1 h1)) hP (hDD s0 s1 h1 s2 h2 s3 s4 h4 s5 s6 s7 s8 s9 t9) [8, 9, 10, 11, 12, 13, 14, 1, 2, 3, 4, 5, 6, 7] rfl [none, some 7, some 8, some 9, some 10, some 11, some 12, some 13, some 0, some 1, some 2, some 3, some 4, some 5, some 6, none, none, none, none, none, none, none, none, none, none, none, none, none, none, none, none, none, none, none, none, none, none, none, none, none, none, none, none, none, none, none, none, none, none, none] rfl rfl hk hP1
    refine lv_iconst (v := 0) hx hb dX7_when_24 (by decide) ?_
    refine lv_istore_n (lv' := [(2, .int 0), (0, .ref (a0 0)), (1, .int p1)]) hx hb dX7_when_25 rfl hl (Nat.le_of_ble_eq_true rfl) rfl (fun ls hl => ?_)
    exact hL_26 s1 h1 p1 N q21.1 q21.2 0 hf _ _ _ hP hS (lv_sub hl [1, 2, 0] rfl)
  · have hf := ite_t c_8 hf
    refine lv_iconst (v := (-1)) hx hb dX7_when_11 (by decide) ?_
    have e9 := Option.some.inj hf
    have h9_0 : s2 = q.2.1 := congrArg (fun z => z.2.1) e9
    have h9_1 : h2 = q.2.2 := congrArg (fun z => z.2.2) e9
    have hP9 : va_P E.1 vwCl ((wX7o E a0 a1 a2 a3 a4 a5 a6 a7 a8 a9 s0 ++ (wX2 E a1 s1 h1 ++ (wX2 E a2 q.2.1 q.2.2 ++ (wX1 E a3 s3 ++ (wX2 E a4 s4 h4 ++ (wX1 E a5 s5 ++ (wX5 E a6 s6 ++ (wX3 E a7 s7 ++ (wX0 E a8 s8 ++ (wX6 E a9 s9 t9)))))))))) ++ sW E.2.1 L) H := by rw [← h9_0, ← h9_1]; exact hP
    exact rt_i hx hb hr hlocks (fst_e e9) hP9 hS dX7_when_12
abbrev rm_X7_most : Room := { frames := 15, cells := 0, slots := 0, locals := 421 }
theorem m_X7_most_5dfb42 : Cond.fieldLink RX7 18 "PickedMatch" "trial" "LPickedMatch$Scene;" ∈ wsX7_most := by decide +kernel
theorem i_X7_most_X7 : ∀ w ∈ wsX70, w ∈ wsX7_most := fun _ h => List.mem_cons_of_mem _ (List.mem_append_left _ (List.mem_append_left _ (List.mem_append_left _ (List.mem_append_right _ h))))
theorem m_X7_most_265b14 : Cond.fieldLink RX7 12 "PickedMatch" "scene" "LPickedMatch$Scene;" ∈ wsX7_most := by decide +kernel
theorem m_X7_most_4cf9d8 : Cond.initialized RX2 ∈ wsX7_most := by decide +kernel
theorem m_X7_most_c21ce8 : Cond.instanceMethod yX2_becomeAs ∈ wsX7_most := by decide +kernel
theorem m_X7_most_986579 : Cond.selects RX2 yX2_becomeAs yX2_becomeAs ∈ wsX7_most := by decide +kernel
theorem m_X7_most_4537e5 : Cond.fieldLink RX7 44 "PickedMatch" "search" "LPickedMatch$Search;" ∈ wsX7_most := by decide +kernel
theorem m_X7_most_7824fe : Cond.initialized RX3 ∈ wsX7_most := by decide +kernel
theorem m_X7_most_b30271 : Cond.instanceMethod yX3_longestRow ∈ wsX7_most := by decide +kernel
theorem m_X7_most_ee9e1b : Cond.selects RX3 yX3_longestRow yX3_longestRow ∈ wsX7_most := by decide +kernel
theorem i_X7_most_X3 : ∀ w ∈ wsX30, w ∈ wsX7_most := fun _ h => List.mem_cons_of_mem _ (List.mem_append_left _ (List.mem_append_left _ (List.mem_append_right _ h)))
set_option maxHeartbeats 8000000 in
set_option maxRecDepth 100000 in
theorem k_X7_most (l : Launch) (E : Ev) (a0 : Nat → Nat) (a1 : Nat → Nat) (a2 : Nat → Nat) (a3 : Nat → Nat) (a4 : Nat → Nat) (a5 : Nat → Nat) (a6 : Nat → Nat) (a7 : Nat → Nat) (a8 : Nat → Nat) (a9 : Nat → Nat) (L : List SR) (N : Nat) (s0 : St) (s1 : St) (h1 : Option SR) (s2 : St) (h2 : Option SR) (s3 : St) (s4 : St) (h4 : Option SR) (s5 : St) (s6 : St) (s7 : St) (s8 : St) (s9 : St) (t9 : Nat → Nat → Int64) (p1 : Int32) (q : (Int32 × St × (Option SR) × St)) (hf : f_X7_most N L s1 h1 s2 h2 s7 p1 = some q) : Ci l yX7_most wsX7_most rm_X7_most E [.ref (a0 0), .int p1] ((wX7o E a0 a1 a2 a3 a4 a5 a6 a7 a8 a9 s0 ++ (wX2 E a1 s1 h1 ++ (wX2 E a2 s2 h2 ++ (wX1 E a3 s3 ++ (wX2 E a4 s4 h4 ++ (wX1 E a5 s5 ++ (wX5 E a6 s6 ++ (wX3 E a7 s7 ++ (wX0 E a8 s8 ++ (wX6 E a9 s9 t9)))))))))) ++ sW E.2.1 L) ((wX7o E a0 a1 a2 a3 a4 a5 a6 a7 a8 a9 s0 ++ (wX2 E a1 s1 h1 ++ (wX2 E a2 q.2.1 q.2.2.1 ++ (wX1 E a3 s3 ++ (wX2 E a4 s4 h4 ++ (wX1 E a5 s5 ++ (wX5 E a6 s6 ++ (wX3 E a7 q.2.2.2 ++ (wX0 E a8 s8 ++ (wX6 E a9 s9 t9)))))))))) ++ sW E.2.1 L) q.1 := by
  unfold f_X7_most at hf
  intro sz
  refine Met.ofW (cc := cX7_most) (maxL := 3) (ret := (some .int)) (by decide) rfl ?_
  intro p e s m args below meth c s₁ B hml hpre
  obtain ⟨rfl, hsz, hP, hK, hD0, hG, hA, hAB⟩ := start hpre
  have hx := B.exec
  have hb := B.bytes
  have hr := B.returns
  have hts := atoms_spec (ws := wsX7_most) B.pre
  have hown : s.vm.findClass RX7 = some m.cls := findClass_of_methodNamed B.named
  have hlocks := B.notSynchronized
  subst hsz
  generalize va_A ((wX7o E a0 a1 a2 a3 a4 a5 a6 a7 a8 a9 s0 ++ (wX2 E a1 s1 h1 ++ (wX2 E a2 s2 h2 ++ (wX1 E a3 s3 ++ (wX2 E a4 s4 h4 ++ (wX1 E a5 s5 ++ (wX5 E a6 s6 ++ (wX3 E a7 s7 ++ (wX0 E a8 s8 ++ (wX6 E a9 s9 t9)))))))))) ++ sW E.2.1 L) s.heap.size = A0 at hD0 hA hAB ⊢
  have hDD : ∀ (s0 : St) (s1 : St) (h1 : Option SR) (s2 : St) (h2 : Option SR) (s3 : St) (s4 : St) (h4 : Option SR) (s5 : St) (s6 : St) (s7 : St) (s8 : St) (s9 : St) (t9 : Nat → Nat → Int64), va_D A0 ((wX7o E a0 a1 a2 a3 a4 a5 a6 a7 a8 a9 s0 ++ (wX2 E a1 s1 h1 ++ (wX2 E a2 s2 h2 ++ (wX1 E a3 s3 ++ (wX2 E a4 s4 h4 ++ (wX1 E a5 s5 ++ (wX5 E a6 s6 ++ (wX3 E a7 s7 ++ (wX0 E a8 s8 ++ (wX6 E a9 s9 t9)))))))))) ++ sW E.2.1 L) := fun s0 s1 h1 s2 h2 s3 s4 h4 s5 s6 s7 s8 s9 t9 => vD_addr hD0 rfl
  have hS : va_S A0 s.heap s.heap [] := va_S.rf
  have hl := lv_entry ([.ref (a0 0), .int p1]) (n := 3) (Nat.le_of_ble_eq_true rfl)
  rw [lg_entry_eq]
  generalize (lg_sl ([.ref (a0 0), .int p1]) ++ List.replicate (3 - (lg_sl ([.ref (a0 0), .int p1])).length) Slot.unset).toArray = ls at hl ⊢
  have hl : lv_has ls 3 [(0, .ref (a0 0)), (1, .int p1)] := hl
  refine lv_iload_n hx hb dX7_most_0 rfl (lv_at hl 1 rfl) ?_
  refine lv_iconst (v := (-1)) hx hb dX7_most_1 (by decide) ?_
  refine lv_iconst (v := 5) hx hb dX7_most_2 (by decide) ?_
  obtain ⟨q3, hc_3, hf⟩ := cl_e hf
  refine fin_i (E := E) (wc := ([] : va_W)) (wc' := ([] : va_W)) (va_runS (As := [.int p1, .int (-1), .int 5]) (rest := []) ⟨hx, hb, hml, hown, hts⟩ (k_X7_isWithin l E N p1 (-1) 5 q3 hc_3 _) (va_cwS 3 hts gX7_most_X7_isWithin rfl rfl rfl (by decide +kernel) ⟨(Nat.le_of_ble_eq_true rfl), (Nat.le_of_ble_eq_true rfl)⟩) (pre_s hK va_P_nil va_D_nil hS hG hAB) rfl rfl hl.1 rfl (lv_room (Nat.le_of_ble_eq_true rfl)) dX7_most_3 ⟨Nat.zero_le _, Nat.zero_le _⟩) hS (free_nil hS hA) (fun H locs hP1 hk hS => ?_)
  have hP := w_kept0 hP hk
  refine lv_if_ne (tgt := 11) hx hb dX7_most_6 (by decide) (fun c_6 => ?_) (fun c_6 => ?_)
  · have hf := ite_f c_6 hf
    refine lv_aload_n hx hb dX7_most_11 rfl (lv_at hl 0 rfl) ?_
    refine va_get (ci := 7) (C := RX7) (T := TX7) (N := 11) (v := .ref (a2 0)) hx hb hts i_X7_most_X7 hown hK hP 0 rfl rfl 1 (by decide) (hts _ m_X7_most_5dfb42) (fun _ h9 => h9) rfl dX7_most_12 ?_
    refine lv_aload_n hx hb dX7_most_15 rfl (lv_at hl 0 rfl) ?_
    refine va_get (ci := 7) (C := RX7) (T := TX7) (N := 11) (v := .ref (a1 0)) hx hb hts i_X7_most_X7 hown hK hP 0 rfl rfl 0 (by decide) (hts _ m_X7_most_265b14) (fun _ h9 => h9) rfl dX7_most_16 ?_
    obtain ⟨q19, hc_19, hf⟩ := cl_e hf
    have hm_19 : ∀ q ∈ (wX2 E a2 s2 h2 ++ (wX2 E a1 s1 h1)) ++ sW E.2.1 L, q ∈ (wX7o E a0 a1 a2 a3 a4 a5 a6 a7 a8 a9 s0 ++ (wX2 E a1 s1 h1 ++ (wX2 E a2 s2 h2 ++ (wX1 E a3 s3 ++ (wX2 E a4 s4 h4 ++ (wX1 E a5 s5 ++ (wX5 E a6 s6 ++ (wX3 E a7 s7 ++ (wX0 E a8 s8 ++ (wX6 E a9 s9 t9)))))))))) ++ sW E.2.1 L := (app_mem (sub_mem (suf := []) [8, 9, 10, 11, 12, 13, 14, 1, 2, 3, 4, 5, 6, 7] rfl))
    refine fin_v (E := E) (wc := (wX2 E a2 s2 h2 ++ (wX2 E a1 s1 h1)) ++ sW E.2.1 L) (wc' := (wX2 E a2 q19.1 q19.2 ++ (wX2 E a1 s1 h1)) ++ sW E.2.1 L) (va_runVN (As := [.ref (a1 0)]) (rest := []) ⟨hx, hb, hml, hown, hts⟩ (k_X2_becomeAs l E a2 a1 L N s2 h2 s1 h1 q19 hc_19 _) ⟨va_cnB 1 hts gX7_most_X2_becomeAs_n179 rfl rfl rfl (hG.1 (.methodLinkNest "PickedMatch" 179 yX2_becomeAs "PickedMatch") (by decide +kernel)) (hts _ m_X7_most_4cf9d8) (by decide +kernel) ⟨(Nat.le_of_ble_eq_true rfl), (Nat.le_of_ble_eq_true rfl)⟩, (hts _ m_X7_most_c21ce8), (hts _ m_X7_most_986579)⟩ (pre_v (ci := 2) (q0 := 0) hK (sub_P hm_19 hP) (sub_Ds (ws := wX7o E a0 a1 a2 a3 a4 a5 a6 a7 a8 a9 s0 ++ (wX2 E a1 s1 h1 ++ (wX2 E a2 s2 h2 ++ (wX1 E a3 s3 ++ (wX2 E a4 s4 h4 ++ (wX1 E a5 s5 ++ (wX5 E a6 s6 ++ (wX3 E a7 s7 ++ (wX0 E a8 s8 ++ (wX6 E a9 s9 t9)))))))))) (wc := wX2 E a2 s2 h2 ++ (wX2 E a1 s1 h1)) (suf := sW E.2.1 L) [8, 9, 10, 11, 12, 13, 14, 1, 2, 3, 4, 5, 6, 7] (by decide) rfl (hDD s0 s1 h1 s2 h2 s3 s4 h4 s5 s6 s7 s8 s9 t9)) hS hG hAB rfl rfl) rfl rfl hl.1 rfl (lv_room (Nat.le_of_ble_eq_true rfl)) dX7_most_19 ⟨Nat.zero_le _, Nat.zero_le _⟩) hS (w_free (hDD s0 s1 h1 s2 h2 s3 s4 h4 s5 s6 s7 s8 s9 t9) hS hA hm_19) (fun H locs hP1 hk hS => ?_)
    have hP := w_joins (ws' := wX7o E a0 a1 a2 a3 a4 a5 a6 a7 a8 a9 s0 ++ (wX2 E a1 s1 h1 ++ (wX2 E a2 q19.1 q19.2 ++ (wX1 E a3 s3 ++ (wX2 E a4 s4 h4 ++ (wX1 E a5 s5 ++ (wX5 E a6 s6 ++ (wX3 E a7 s7 ++ (wX0 E a8 s8 ++ (wX6 E a9 s9 t9)))))))))) (wc := wX2 E a2 s2 h2 ++ (wX2 E a1 s1 h1)) (wc' := wX2 E a2 q19.1 q19.2 ++ (wX2 E a1 s1 h1)) hP (hDD s0 s1 h1 s2 h2 s3 s4 h4 s5 s6 s7 s8 s9 t9) [8, 9, 10, 11, 12, 13, 14, 1, 2, 3, 4, 5, 6, 7] rfl [none, some 7, some 8, some 9, some 10, some 11, some 12, some 13, some 0, some 1, some 2, some 3, some 4, some 5, some 6, none, none, none, none, none, none, none, none, none, none, none, none, none, none, none, none, none, none, none, none, none, none, none, none, none, none, none, none, none, none, none, none, none, none, none] rfl rfl hk hP1
    refine lv_aload_n hx hb dX7_most_22 rfl (lv_at hl 0 rfl) ?_
    refine va_get (ci := 7) (C := RX7) (T := TX7) (N := 11) (v := .ref (a7 0)) hx hb hts i_X7_most_X7 hown hK hP 0 rfl rfl 8 (by decide) (hts _ m_X7_most_4537e5) (fun _ h9 => h9) rfl dX7_most_23 ?_
    refine lv_aload_n hx hb dX7_most_26 rfl (lv_at hl 0 rfl) ?_
    refine va_get (ci := 7) (C := RX7) (T := TX7) (N := 11) (v := .ref (a2 0)) hx hb hts i_X7_most_X7 hown hK hP 0 rfl rfl 1 (by decide) (hts _ m_X7_most_5dfb42) (fun _ h9 => h9) rfl dX7_most_27 ?_
    obtain ⟨q30, hc_30, hf⟩ := cl_e hf
    have hm_30 : ∀ q ∈ (wX3 E a7 s7 ++ (wX2 E a2 q19.1 q19.2)) ++ sW E.2.1 L, q ∈ (wX7o E a0 a1 a2 a3 a4 a5 a6 a7 a8 a9 s0 ++ (wX2 E a1 s1 h1 ++ (wX2 E a2 q19.1 q19.2 ++ (wX1 E a3 s3 ++ (wX2 E a4 s4 h4 ++ (wX1 E a5 s5 ++ (wX5 E a6 s6 ++ (wX3 E a7 s7 ++ (wX0 E a8 s8 ++ (wX6 E a9 s9 t9)))))))))) ++ sW E.2.1 L := (app_mem (sub_mem (suf := []) [41, 42, 43, 8, 9, 10, 11, 12, 13, 14] rfl))
    refine fin_i (E := E) (wc := (wX3 E a7 s7 ++ (wX2 E a2 q19.1 q19.2)) ++ sW E.2.1 L) (wc' := (wX3 E a7 q30.2.1 ++ (wX2 E a2 q30.2.2 q19.2)) ++ sW E.2.1 L) (va_runVN (As := [.ref (a2 0)]) (rest := []) ⟨hx, hb, hml, hown, hts⟩ (k_X3_longestRow l E a7 a2 L N s7 q19.1 q19.2 q30 hc_30 _) ⟨va_cnB 1 hts gX7_most_X3_longestRow_n189 rfl rfl rfl (hG.1 (.methodLinkNest "PickedMatch" 189 yX3_longestRow "PickedMatch") (by decide +kernel)) (hts _ m_X7_most_7824fe) (by decide +kernel) ⟨(Nat.le_of_ble_eq_true rfl), (Nat.le_of_ble_eq_true rfl)⟩, (hts _ m_X7_most_b30271), (hts _ m_X7_most_ee9e1b)⟩ (pre_v (ci := 3) (q0 := 0) hK (sub_P hm_30 hP) (sub_Ds (ws := wX7o E a0 a1 a2 a3 a4 a5 a6 a7 a8 a9 s0 ++ (wX2 E a1 s1 h1 ++ (wX2 E a2 q19.1 q19.2 ++ (wX1 E a3 s3 ++ (wX2 E a4 s4 h4 ++ (wX1 E a5 s5 ++ (wX5 E a6 s6 ++ (wX3 E a7 s7 ++ (wX0 E a8 s8 ++ (wX6 E a9 s9 t9)))))))))) (wc := wX3 E a7 s7 ++ (wX2 E a2 q19.1 q19.2)) (suf := sW E.2.1 L) [41, 42, 43, 8, 9, 10, 11, 12, 13, 14] (by decide) rfl (hDD s0 s1 h1 q19.1 q19.2 s3 s4 h4 s5 s6 s7 s8 s9 t9)) hS hG hAB rfl rfl) rfl rfl hl.1 rfl (lv_room (Nat.le_of_ble_eq_true rfl)) dX7_most_30 ⟨Nat.zero_le _, Nat.zero_le _⟩) hS (w_free (hDD s0 s1 h1 q19.1 q19.2 s3 s4 h4 s5 s6 s7 s8 s9 t9) hS hA hm_30) (fun H locs hP1 hk hS => ?_)
    have hP := w_joins (ws' := wX7o E a0 a1 a2 a3 a4 a5 a6 a7 a8 a9 s0 ++ (wX2 E a1 s1 h1 ++ (wX2 E a2 q30.2.2 q19.2 ++ (wX1 E a3 s3 ++ (wX2 E a4 s4 h4 ++ (wX1 E a5 s5 ++ (wX5 E a6 s6 ++ (wX3 E a7 q30.2.1 ++ (wX0 E a8 s8 ++ (wX6 E a9 s9 t9)))))))))) (wc := wX3 E a7 s7 ++ (wX2 E a2 q19.1 q19.2)) (wc' := wX3 E a7 q30.2.1 ++ (wX2 E a2 q30.2.2 q19.2)) hP (hDD s0 s1 h1 q19.1 q19.2 s3 s4 h4 s5 s6 s7 s8 s9 t9) [41, 42, 43, 8, 9, 10, 11, 12, 13, 14] rfl [none, none, none, none, none, none, none, none, some 3, some 4, some 5, some 6, some 7, some 8, some 9, none, none, none, none, none, none, none, none, none, none, none, none, none, none, none, none, none, none, none, none, none, none, none, none, none, none, some 0, some 1, some 2, none, none, none, none, none, none] rfl rfl hk hP1
    refine lv_topi (fun x33 e_x33 => ?_)
    have hf := nm_q e_x33 hf
    refine lv_istore_n (lv' := [(2, .int x33), (0, .ref (a0 0)), (1, .int p1)]) hx hb dX7_most_33 rfl hl (Nat.le_of_ble_eq_true rfl) rfl (fun ls hl => ?_)
    refine lv_iload_n hx hb dX7_most_34 rfl (lv_at hl 2 rfl) ?_
    refine lv_if_ge (tgt := 40) hx hb dX7_most_35 (by decide) (fun c_35 => ?_) (fun c_35 => ?_)
    · have hf := ite_t c_35 hf
      refine lv_iload_n hx hb dX7_most_40 rfl (lv_at hl 2 rfl) ?_
      refine lv_iload_n hx hb dX7_most_41 rfl (lv_at hl 0 rfl) ?_
      refine lv_icmp_ge (tgt := 57) hx hb dX7_most_42 (by decide) (fun c_42 => ?_) (fun c_42 => ?_)
      · have hf := ite_t c_42 hf
        refine lv_bipush (v := (-5)) hx hb dX7_most_57 (by decide) ?_
        have e9 := Option.some.inj hf
        have h9_0 : q30.2.2 = q.2.1 := congrArg (fun z => z.2.1) e9
        have h9_1 : q19.2 = q.2.2.1 := congrArg (fun z => z.2.2.1) e9
        have h9_2 : q30.2.1 = q.2.2.2 := congrArg (fun z => z.2.2.2) e9
        have hP9 : va_P E.1 vwCl ((wX7o E a0 a1 a2 a3 a4 a5 a6 a7 a8 a9 s0 ++ (wX2 E a1 s1 h1 ++ (wX2 E a2 q.2.1 q.2.2.1 ++ (wX1 E a3 s3 ++ (wX2 E a4 s4 h4 ++ (wX1 E a5 s5 ++ (wX5 E a6 s6 ++ (wX3 E a7 q.2.2.2 ++ (wX0 E a8 s8 ++ (wX6 E a9 s9 t9)))))))))) ++ sW E.2.1 L) H := by rw [← h9_0, ← h9_1, ← h9_2]; exact hP
        exact rt_i hx hb hr hlocks (fst_e e9) hP9 hS dX7_most_59
      · have hf := ite_f c_42 hf
        refine lv_aload_n hx hb dX7_most_45 rfl (lv_at hl 1 rfl) ?_
        refine va_get (ci := 7) (C := RX7) (T := TX7) (N := 11) (v := .ref (a7 0)) hx hb hts i_X7_most_X7 hown hK hP 0 rfl rfl 8 (by decide) (hts _ m_X7_most_4537e5) (fun _ h9 => h9) rfl dX7_most_46 ?_
        refine va_getN (ci := 3) (C := RX3) (T := TX3) (N := 4) (v := .ref (a7 2)) hx hb hts i_X7_most_X3 hown hK hP 41 rfl rfl 1 (by decide) (nwG hG (w := .fieldLinkNest "PickedMatch" 193 "PickedMatch$Search" "best" "[I" "PickedMatch") (by decide +kernel)) (fun _ h9 => h9) rfl dX7_most_49 ?_
        refine lv_iload_n hx hb dX7_most_52 rfl (lv_at hl 2 rfl) ?_
        obtain ⟨h_53, hf⟩ := ck_e hf
        refine va_iald (cA := E.2.1) (n := 6) (f := q30.2.1 1) hx hb hK hP 43 0 rfl rfl h_53 dX7_most_53 ?_
        refine lv_goto (tgt := 59) hx hb dX7_most_54 (by decide) ?_
        have e9 := Option.some.inj hf
        have h9_0 : q30.2.2 = q.2.1 := congrArg (fun z => z.2.1) e9
        have h9_1 : q19.2 = q.2.2.1 := congrArg (fun z => z.2.2.1) e9
        have h9_2 : q30.2.1 = q.2.2.2 := congrArg (fun z => z.2.2.2) e9
        have hP9 : va_P E.1 vwCl ((wX7o E a0 a1 a2 a3 a4 a5 a6 a7 a8 a9 s0 ++ (wX2 E a1 s1 h1 ++ (wX2 E a2 q.2.1 q.2.2.1 ++ (wX1 E a3 s3 ++ (wX2 E a4 s4 h4 ++ (wX1 E a5 s5 ++ (wX5 E a6 s6 ++ (wX3 E a7 q.2.2.2 ++ (wX0 E a8 s8 ++ (wX6 E a9 s9 t9)))))))))) ++ sW E.2.1 L) H := by rw [← h9_0, ← h9_1, ← h9_2]; exact hP
        exact rt_i hx hb hr hlocks (fst_e e9) hP9 hS dX7_most_59
    · have hf := ite_f c_35 hf
      refine lv_iload_n hx hb dX7_most_38 rfl (lv_at hl 0 rfl) ?_
      have e9 := Option.some.inj hf
      have h9_0 : q30.2.2 = q.2.1 := congrArg (fun z => z.2.1) e9
      have h9_1 : q19.2 = q.2.2.1 := congrArg (fun z => z.2.2.1) e9
      have h9_2 : q30.2.1 = q.2.2.2 := congrArg (fun z => z.2.2.2) e9
      have hP9 : va_P E.1 vwCl ((wX7o E a0 a1 a2 a3 a4 a5 a6 a7 a8 a9 s0 ++ (wX2 E a1 s1 h1 ++ (wX2 E a2 q.2.1 q.2.2.1 ++ (wX1 E a3 s3 ++ (wX2 E a4 s4 h4 ++ (wX1 E a5 s5 ++ (wX5 E a6 s6 ++ (wX3 E a7 q.2.2.2 ++ (wX0 E a8 s8 ++ (wX6 E a9 s9 t9)))))))))) ++ sW E.2.1 L) H := by rw [← h9_0, ← h9_1, ← h9_2]; exact hP
      exact rt_i hx hb hr hlocks (fst_e e9) hP9 hS dX7_most_39
  · have hf := ite_t c_6 hf
    refine lv_iconst (v := (-1)) hx hb dX7_most_9 (by decide) ?_
    have e9 := Option.some.inj hf
    have h9_0 : s2 = q.2.1 := congrArg (fun z => z.2.1) e9
    have h9_1 : h2 = q.2.2.1 := congrArg (fun z => z.2.2.1) e9
    have h9_2 : s7 = q.2.2.2 := congrArg (fun z => z.2.2.2) e9
    have hP9 : va_P E.1 vwCl ((wX7o E a0 a1 a2 a3 a4 a5 a6 a7 a8 a9 s0 ++ (wX2 E a1 s1 h1 ++ (wX2 E a2 q.2.1 q.2.2.1 ++ (wX1 E a3 s3 ++ (wX2 E a4 s4 h4 ++ (wX1 E a5 s5 ++ (wX5 E a6 s6 ++ (wX3 E a7 q.2.2.2 ++ (wX0 E a8 s8 ++ (wX6 E a9 s9 t9)))))))))) ++ sW E.2.1 L) H := by rw [← h9_0, ← h9_1, ← h9_2]; exact hP
    exact rt_i hx hb hr hlocks (fst_e e9) hP9 hS dX7_most_10
abbrev rm_X7_bestStart : Room := { frames := 15, cells := 0, slots := 0, locals := 421 }
theorem m_X7_bestStart_5dfb42 : Cond.fieldLink RX7 18 "PickedMatch" "trial" "LPickedMatch$Scene;" ∈ wsX7_bestStart := by decide +kernel
theorem i_X7_bestStart_X7 : ∀ w ∈ wsX70, w ∈ wsX7_bestStart := fun _ h => List.mem_cons_of_mem _ (List.mem_append_left _ (List.mem_append_left _ (List.mem_append_left _ (List.mem_append_right _ h))))
theorem m_X7_bestStart_265b14 : Cond.fieldLink RX7 12 "PickedMatch" "scene" "LPickedMatch$Scene;" ∈ wsX7_bestStart := by decide +kernel
theorem m_X7_bestStart_4cf9d8 : Cond.initialized RX2 ∈ wsX7_bestStart := by decide +kernel
theorem m_X7_bestStart_c21ce8 : Cond.instanceMethod yX2_becomeAs ∈ wsX7_bestStart := by decide +kernel
theorem m_X7_bestStart_986579 : Cond.selects RX2 yX2_becomeAs yX2_becomeAs ∈ wsX7_bestStart := by decide +kernel
theorem m_X7_bestStart_4537e5 : Cond.fieldLink RX7 44 "PickedMatch" "search" "LPickedMatch$Search;" ∈ wsX7_bestStart := by decide +kernel
theorem m_X7_bestStart_7824fe : Cond.initialized RX3 ∈ wsX7_bestStart := by decide +kernel
theorem m_X7_bestStart_b30271 : Cond.instanceMethod yX3_longestRow ∈ wsX7_bestStart := by decide +kernel
theorem m_X7_bestStart_ee9e1b : Cond.selects RX3 yX3_longestRow yX3_longestRow ∈ wsX7_bestStart := by decide +kernel
theorem i_X7_bestStart_X3 : ∀ w ∈ wsX30, w ∈ wsX7_bestStart := fun _ h => List.mem_cons_of_mem _ (List.mem_append_left _ (List.mem_append_left _ (List.mem_append_right _ h)))
set_option maxHeartbeats 8000000 in
set_option maxRecDepth 100000 in
theorem k_X7_bestStart (l : Launch) (E : Ev) (a0 : Nat → Nat) (a1 : Nat → Nat) (a2 : Nat → Nat) (a3 : Nat → Nat) (a4 : Nat → Nat) (a5 : Nat → Nat) (a6 : Nat → Nat) (a7 : Nat → Nat) (a8 : Nat → Nat) (a9 : Nat → Nat) (L : List SR) (N : Nat) (s0 : St) (s1 : St) (h1 : Option SR) (s2 : St) (h2 : Option SR) (s3 : St) (s4 : St) (h4 : Option SR) (s5 : St) (s6 : St) (s7 : St) (s8 : St) (s9 : St) (t9 : Nat → Nat → Int64) (q : (Int32 × St × (Option SR) × St)) (hf : f_X7_bestStart N L s1 h1 s2 h2 s7 = some q) : Ci l yX7_bestStart wsX7_bestStart rm_X7_bestStart E [.ref (a0 0)] ((wX7o E a0 a1 a2 a3 a4 a5 a6 a7 a8 a9 s0 ++ (wX2 E a1 s1 h1 ++ (wX2 E a2 s2 h2 ++ (wX1 E a3 s3 ++ (wX2 E a4 s4 h4 ++ (wX1 E a5 s5 ++ (wX5 E a6 s6 ++ (wX3 E a7 s7 ++ (wX0 E a8 s8 ++ (wX6 E a9 s9 t9)))))))))) ++ sW E.2.1 L) ((wX7o E a0 a1 a2 a3 a4 a5 a6 a7 a8 a9 s0 ++ (wX2 E a1 s1 h1 ++ (wX2 E a2 q.2.1 q.2.2.1 ++ (wX1 E a3 s3 ++ (wX2 E a4 s4 h4 ++ (wX1 E a5 s5 ++ (wX5 E a6 s6 ++ (wX3 E a7 q.2.2.2 ++ (wX0 E a8 s8 ++ (wX6 E a9 s9 t9)))))))))) ++ sW E.2.1 L) q.1 := by
  unfold f_X7_bestStart at hf
  intro sz
  refine Met.ofW (cc := cX7_bestStart) (maxL := 1) (ret := (some .int)) (by decide) rfl ?_
  intro p e s m args below meth c s₁ B hml hpre
  obtain ⟨rfl, hsz, hP, hK, hD0, hG, hA, hAB⟩ := start hpre
  have hx := B.exec
  have hb := B.bytes
  have hr := B.returns
  have hts := atoms_spec (ws := wsX7_bestStart) B.pre
  have hown : s.vm.findClass RX7 = some m.cls := findClass_of_methodNamed B.named
  have hlocks := B.notSynchronized
  subst hsz
  generalize va_A ((wX7o E a0 a1 a2 a3 a4 a5 a6 a7 a8 a9 s0 ++ (wX2 E a1 s1 h1 ++ (wX2 E a2 s2 h2 ++ (wX1 E a3 s3 ++ (wX2 E a4 s4 h4 ++ (wX1 E a5 s5 ++ (wX5 E a6 s6 ++ (wX3 E a7 s7 ++ (wX0 E a8 s8 ++ (wX6 E a9 s9 t9)))))))))) ++ sW E.2.1 L) s.heap.size = A0 at hD0 hA hAB ⊢
  have hDD : ∀ (s0 : St) (s1 : St) (h1 : Option SR) (s2 : St) (h2 : Option SR) (s3 : St) (s4 : St) (h4 : Option SR) (s5 : St) (s6 : St) (s7 : St) (s8 : St) (s9 : St) (t9 : Nat → Nat → Int64), va_D A0 ((wX7o E a0 a1 a2 a3 a4 a5 a6 a7 a8 a9 s0 ++ (wX2 E a1 s1 h1 ++ (wX2 E a2 s2 h2 ++ (wX1 E a3 s3 ++ (wX2 E a4 s4 h4 ++ (wX1 E a5 s5 ++ (wX5 E a6 s6 ++ (wX3 E a7 s7 ++ (wX0 E a8 s8 ++ (wX6 E a9 s9 t9)))))))))) ++ sW E.2.1 L) := fun s0 s1 h1 s2 h2 s3 s4 h4 s5 s6 s7 s8 s9 t9 => vD_addr hD0 rfl
  have hS : va_S A0 s.heap s.heap [] := va_S.rf
  have hl := lv_entry ([.ref (a0 0)]) (n := 1) (Nat.le_of_ble_eq_true rfl)
  rw [lg_entry_eq]
  generalize (lg_sl ([.ref (a0 0)]) ++ List.replicate (1 - (lg_sl ([.ref (a0 0)])).length) Slot.unset).toArray = ls at hl ⊢
  have hl : lv_has ls 1 [(0, .ref (a0 0))] := hl
  refine lv_aload_n hx hb dX7_bestStart_0 rfl (lv_at hl 0 rfl) ?_
  refine va_get (ci := 7) (C := RX7) (T := TX7) (N := 11) (v := .ref (a2 0)) hx hb hts i_X7_bestStart_X7 hown hK hP 0 rfl rfl 1 (by decide) (hts _ m_X7_bestStart_5dfb42) (fun _ h9 => h9) rfl dX7_bestStart_1 ?_
  refine lv_aload_n hx hb dX7_bestStart_4 rfl (lv_at hl 0 rfl) ?_
  refine va_get (ci := 7) (C := RX7) (T := TX7) (N := 11) (v := .ref (a1 0)) hx hb hts i_X7_bestStart_X7 hown hK hP 0 rfl rfl 0 (by decide) (hts _ m_X7_bestStart_265b14) (fun _ h9 => h9) rfl dX7_bestStart_5 ?_
  obtain ⟨q8, hc_8, hf⟩ := cl_e hf
  have hm_8 : ∀ q ∈ (wX2 E a2 s2 h2 ++ (wX2 E a1 s1 h1)) ++ sW E.2.1 L, q ∈ (wX7o E a0 a1 a2 a3 a4 a5 a6 a7 a8 a9 s0 ++ (wX2 E a1 s1 h1 ++ (wX2 E a2 s2 h2 ++ (wX1 E a3 s3 ++ (wX2 E a4 s4 h4 ++ (wX1 E a5 s5 ++ (wX5 E a6 s6 ++ (wX3 E a7 s7 ++ (wX0 E a8 s8 ++ (wX6 E a9 s9 t9)))))))))) ++ sW E.2.1 L := (app_mem (sub_mem (suf := []) [8, 9, 10, 11, 12, 13, 14, 1, 2, 3, 4, 5, 6, 7] rfl))
  refine fin_v (E := E) (wc := (wX2 E a2 s2 h2 ++ (wX2 E a1 s1 h1)) ++ sW E.2.1 L) (wc' := (wX2 E a2 q8.1 q8.2 ++ (wX2 E a1 s1 h1)) ++ sW E.2.1 L) (va_runVN (As := [.ref (a1 0)]) (rest := []) ⟨hx, hb, hml, hown, hts⟩ (k_X2_becomeAs l E a2 a1 L N s2 h2 s1 h1 q8 hc_8 _) ⟨va_cnB 1 hts gX7_bestStart_X2_becomeAs_n179 rfl rfl rfl (hG.1 (.methodLinkNest "PickedMatch" 179 yX2_becomeAs "PickedMatch") (by decide +kernel)) (hts _ m_X7_bestStart_4cf9d8) (by decide +kernel) ⟨(Nat.le_of_ble_eq_true rfl), (Nat.le_of_ble_eq_true rfl)⟩, (hts _ m_X7_bestStart_c21ce8), (hts _ m_X7_bestStart_986579)⟩ (pre_v (ci := 2) (q0 := 0) hK (sub_P hm_8 hP) (sub_Ds (ws := wX7o E a0 a1 a2 a3 a4 a5 a6 a7 a8 a9 s0 ++ (wX2 E a1 s1 h1 ++ (wX2 E a2 s2 h2 ++ (wX1 E a3 s3 ++ (wX2 E a4 s4 h4 ++ (wX1 E a5 s5 ++ (wX5 E a6 s6 ++ (wX3 E a7 s7 ++ (wX0 E a8 s8 ++ (wX6 E a9 s9 t9)))))))))) (wc := wX2 E a2 s2 h2 ++ (wX2 E a1 s1 h1)) (suf := sW E.2.1 L) [8, 9, 10, 11, 12, 13, 14, 1, 2, 3, 4, 5, 6, 7] (by decide) rfl (hDD s0 s1 h1 s2 h2 s3 s4 h4 s5 s6 s7 s8 s9 t9)) hS hG hAB rfl rfl) rfl rfl hl.1 rfl (lv_room (Nat.le_of_ble_eq_true rfl)) dX7_bestStart_8 ⟨Nat.zero_le _, Nat.zero_le _⟩) hS (w_free (hDD s0 s1 h1 s2 h2 s3 s4 h4 s5 s6 s7 s8 s9 t9) hS hA hm_8) (fun H locs hP1 hk hS => ?_)
  have hP := w_joins (ws' := wX7o E a0 a1 a2 a3 a4 a5 a6 a7 a8 a9 s0 ++ (wX2 E a1 s1 h1 ++ (wX2 E a2 q8.1 q8.2 ++ (wX1 E a3 s3 ++ (wX2 E a4 s4 h4 ++ (wX1 E a5 s5 ++ (wX5 E a6 s6 ++ (wX3 E a7 s7 ++ (wX0 E a8 s8 ++ (wX6 E a9 s9 t9)))))))))) (wc := wX2 E a2 s2 h2 ++ (wX2 E a1 s1 h1)) (wc' := wX2 E a2 q8.1 q8.2 ++ (wX2 E a1 s1 h1)) hP (hDD s0 s1 h1 s2 h2 s3 s4 h4 s5 s6 s7 s8 s9 t9) [8, 9, 10, 11, 12, 13, 14, 1, 2, 3, 4, 5, 6, 7] rfl [none, some 7, some 8, some 9, some 10, some 11, some 12, some 13, some 0, some 1, some 2, some 3, some 4, some 5, some 6, none, none, none, none, none, none, none, none, none, none, none, none, none, none, none, none, none, none, none, none, none, none, none, none, none, none, none, none, none, none, none, none, none, none, none] rfl rfl hk hP1
  refine lv_aload_n hx hb dX7_bestStart_11 rfl (lv_at hl 0 rfl) ?_
  refine va_get (ci := 7) (C := RX7) (T := TX7) (N := 11) (v := .ref (a7 0)) hx hb hts i_X7_bestStart_X7 hown hK hP 0 rfl rfl 8 (by decide) (hts _ m_X7_bestStart_4537e5) (fun _ h9 => h9) rfl dX7_bestStart_12 ?_
  refine lv_aload_n hx hb dX7_bestStart_15 rfl (lv_at hl 0 rfl) ?_
  refine va_get (ci := 7) (C := RX7) (T := TX7) (N := 11) (v := .ref (a2 0)) hx hb hts i_X7_bestStart_X7 hown hK hP 0 rfl rfl 1 (by decide) (hts _ m_X7_bestStart_5dfb42) (fun _ h9 => h9) rfl dX7_bestStart_16 ?_
  obtain ⟨q19, hc_19, hf⟩ := cl_e hf
  have hm_19 : ∀ q ∈ (wX3 E a7 s7 ++ (wX2 E a2 q8.1 q8.2)) ++ sW E.2.1 L, q ∈ (wX7o E a0 a1 a2 a3 a4 a5 a6 a7 a8 a9 s0 ++ (wX2 E a1 s1 h1 ++ (wX2 E a2 q8.1 q8.2 ++ (wX1 E a3 s3 ++ (wX2 E a4 s4 h4 ++ (wX1 E a5 s5 ++ (wX5 E a6 s6 ++ (wX3 E a7 s7 ++ (wX0 E a8 s8 ++ (wX6 E a9 s9 t9)))))))))) ++ sW E.2.1 L := (app_mem (sub_mem (suf := []) [41, 42, 43, 8, 9, 10, 11, 12, 13, 14] rfl))
  refine fin_i (E := E) (wc := (wX3 E a7 s7 ++ (wX2 E a2 q8.1 q8.2)) ++ sW E.2.1 L) (wc' := (wX3 E a7 q19.2.1 ++ (wX2 E a2 q19.2.2 q8.2)) ++ sW E.2.1 L) (va_runVN (As := [.ref (a2 0)]) (rest := []) ⟨hx, hb, hml, hown, hts⟩ (k_X3_longestRow l E a7 a2 L N s7 q8.1 q8.2 q19 hc_19 _) ⟨va_cnB 1 hts gX7_bestStart_X3_longestRow_n189 rfl rfl rfl (hG.1 (.methodLinkNest "PickedMatch" 189 yX3_longestRow "PickedMatch") (by decide +kernel)) (hts _ m_X7_bestStart_7824fe) (by decide +kernel) ⟨(Nat.le_of_ble_eq_true rfl), (Nat.le_of_ble_eq_true rfl)⟩, (hts _ m_X7_bestStart_b30271), (hts _ m_X7_bestStart_ee9e1b)⟩ (pre_v (ci := 3) (q0 := 0) hK (sub_P hm_19 hP) (sub_Ds (ws := wX7o E a0 a1 a2 a3 a4 a5 a6 a7 a8 a9 s0 ++ (wX2 E a1 s1 h1 ++ (wX2 E a2 q8.1 q8.2 ++ (wX1 E a3 s3 ++ (wX2 E a4 s4 h4 ++ (wX1 E a5 s5 ++ (wX5 E a6 s6 ++ (wX3 E a7 s7 ++ (wX0 E a8 s8 ++ (wX6 E a9 s9 t9)))))))))) (wc := wX3 E a7 s7 ++ (wX2 E a2 q8.1 q8.2)) (suf := sW E.2.1 L) [41, 42, 43, 8, 9, 10, 11, 12, 13, 14] (by decide) rfl (hDD s0 s1 h1 q8.1 q8.2 s3 s4 h4 s5 s6 s7 s8 s9 t9)) hS hG hAB rfl rfl) rfl rfl hl.1 rfl (lv_room (Nat.le_of_ble_eq_true rfl)) dX7_bestStart_19 ⟨Nat.zero_le _, Nat.zero_le _⟩) hS (w_free (hDD s0 s1 h1 q8.1 q8.2 s3 s4 h4 s5 s6 s7 s8 s9 t9) hS hA hm_19) (fun H locs hP1 hk hS => ?_)
  have hP := w_joins (ws' := wX7o E a0 a1 a2 a3 a4 a5 a6 a7 a8 a9 s0 ++ (wX2 E a1 s1 h1 ++ (wX2 E a2 q19.2.2 q8.2 ++ (wX1 E a3 s3 ++ (wX2 E a4 s4 h4 ++ (wX1 E a5 s5 ++ (wX5 E a6 s6 ++ (wX3 E a7 q19.2.1 ++ (wX0 E a8 s8 ++ (wX6 E a9 s9 t9)))))))))) (wc := wX3 E a7 s7 ++ (wX2 E a2 q8.1 q8.2)) (wc' := wX3 E a7 q19.2.1 ++ (wX2 E a2 q19.2.2 q8.2)) hP (hDD s0 s1 h1 q8.1 q8.2 s3 s4 h4 s5 s6 s7 s8 s9 t9) [41, 42, 43, 8, 9, 10, 11, 12, 13, 14] rfl [none, none, none, none, none, none, none, none, some 3, some 4, some 5, some 6, some 7, some 8, some 9, none, none, none, none, none, none, none, none, none, none, none, none, none, none, none, none, none, none, none, none, none, none, none, none, none, none, some 0, some 1, some 2, none, none, none, none, none, none] rfl rfl hk hP1
  refine lv_if_le (tgt := 37) hx hb dX7_bestStart_22 (by decide) (fun c_22 => ?_) (fun c_22 => ?_)
  · have hf := ite_t c_22 hf
    refine lv_bipush (v := (-5)) hx hb dX7_bestStart_37 (by decide) ?_
    have e9 := Option.some.inj hf
    have h9_0 : q19.2.2 = q.2.1 := congrArg (fun z => z.2.1) e9
    have h9_1 : q8.2 = q.2.2.1 := congrArg (fun z => z.2.2.1) e9
    have h9_2 : q19.2.1 = q.2.2.2 := congrArg (fun z => z.2.2.2) e9
    have hP9 : va_P E.1 vwCl ((wX7o E a0 a1 a2 a3 a4 a5 a6 a7 a8 a9 s0 ++ (wX2 E a1 s1 h1 ++ (wX2 E a2 q.2.1 q.2.2.1 ++ (wX1 E a3 s3 ++ (wX2 E a4 s4 h4 ++ (wX1 E a5 s5 ++ (wX5 E a6 s6 ++ (wX3 E a7 q.2.2.2 ++ (wX0 E a8 s8 ++ (wX6 E a9 s9 t9)))))))))) ++ sW E.2.1 L) H := by rw [← h9_0, ← h9_1, ← h9_2]; exact hP
    exact rt_i hx hb hr hlocks (fst_e e9) hP9 hS dX7_bestStart_39
  · have hf := ite_f c_22 hf
    refine lv_aload_n hx hb dX7_bestStart_25 rfl (lv_at hl 0 rfl) ?_
    refine va_get (ci := 7) (C := RX7) (T := TX7) (N := 11) (v := .ref (a7 0)) hx hb hts i_X7_bestStart_X7 hown hK hP 0 rfl rfl 8 (by decide) (hts _ m_X7_bestStart_4537e5) (fun _ h9 => h9) rfl dX7_bestStart_26 ?_
    refine va_getN (ci := 3) (C := RX3) (T := TX3) (N := 4) (v := .ref (a7 2)) hx hb hts i_X7_bestStart_X3 hown hK hP 41 rfl rfl 1 (by decide) (nwG hG (w := .fieldLinkNest "PickedMatch" 193 "PickedMatch$Search" "best" "[I" "PickedMatch") (by decide +kernel)) (fun _ h9 => h9) rfl dX7_bestStart_29 ?_
    refine lv_iconst (v := 0) hx hb dX7_bestStart_32 (by decide) ?_
    obtain ⟨h_33, hf⟩ := ck_e hf
    refine va_iald (cA := E.2.1) (n := 6) (f := q19.2.1 1) hx hb hK hP 43 0 rfl rfl h_33 dX7_bestStart_33 ?_
    refine lv_goto (tgt := 39) hx hb dX7_bestStart_34 (by decide) ?_
    have e9 := Option.some.inj hf
    have h9_0 : q19.2.2 = q.2.1 := congrArg (fun z => z.2.1) e9
    have h9_1 : q8.2 = q.2.2.1 := congrArg (fun z => z.2.2.1) e9
    have h9_2 : q19.2.1 = q.2.2.2 := congrArg (fun z => z.2.2.2) e9
    have hP9 : va_P E.1 vwCl ((wX7o E a0 a1 a2 a3 a4 a5 a6 a7 a8 a9 s0 ++ (wX2 E a1 s1 h1 ++ (wX2 E a2 q.2.1 q.2.2.1 ++ (wX1 E a3 s3 ++ (wX2 E a4 s4 h4 ++ (wX1 E a5 s5 ++ (wX5 E a6 s6 ++ (wX3 E a7 q.2.2.2 ++ (wX0 E a8 s8 ++ (wX6 E a9 s9 t9)))))))))) ++ sW E.2.1 L) H := by rw [← h9_0, ← h9_1, ← h9_2]; exact hP
    exact rt_i hx hb hr hlocks (fst_e e9) hP9 hS dX7_bestStart_39
abbrev rm_X7_bestBack : Room := { frames := 15, cells := 0, slots := 0, locals := 421 }
theorem m_X7_bestBack_265b14 : Cond.fieldLink RX7 12 "PickedMatch" "scene" "LPickedMatch$Scene;" ∈ wsX7_bestBack := by decide +kernel
theorem i_X7_bestBack_X7 : ∀ w ∈ wsX70, w ∈ wsX7_bestBack := fun _ h => List.mem_cons_of_mem _ (List.mem_append_left _ (List.mem_append_left _ (List.mem_append_left _ (List.mem_append_right _ h))))
theorem i_X7_bestBack_X2 : ∀ w ∈ wsX20, w ∈ wsX7_bestBack := fun _ h => List.mem_cons_of_mem _ (List.mem_append_left _ (List.mem_append_left _ (List.mem_append_right _ h)))
theorem m_X7_bestBack_4cf9d8 : Cond.initialized RX2 ∈ wsX7_bestBack := by decide +kernel
theorem m_X7_bestBack_ab92ab : Cond.instanceMethod yX2_isHad ∈ wsX7_bestBack := by decide +kernel
theorem m_X7_bestBack_8e582f : Cond.selects RX2 yX2_isHad yX2_isHad ∈ wsX7_bestBack := by decide +kernel
theorem m_X7_bestBack_5dfb42 : Cond.fieldLink RX7 18 "PickedMatch" "trial" "LPickedMatch$Scene;" ∈ wsX7_bestBack := by decide +kernel
theorem m_X7_bestBack_c21ce8 : Cond.instanceMethod yX2_becomeAs ∈ wsX7_bestBack := by decide +kernel
theorem m_X7_bestBack_986579 : Cond.selects RX2 yX2_becomeAs yX2_becomeAs ∈ wsX7_bestBack := by decide +kernel
theorem m_X7_bestBack_a3c303 : Cond.instanceMethod yX2_layDown ∈ wsX7_bestBack := by decide +kernel
theorem m_X7_bestBack_530824 : Cond.selects RX2 yX2_layDown yX2_layDown ∈ wsX7_bestBack := by decide +kernel
theorem m_X7_bestBack_4537e5 : Cond.fieldLink RX7 44 "PickedMatch" "search" "LPickedMatch$Search;" ∈ wsX7_bestBack := by decide +kernel
theorem m_X7_bestBack_7824fe : Cond.initialized RX3 ∈ wsX7_bestBack := by decide +kernel
theorem m_X7_bestBack_b30271 : Cond.instanceMethod yX3_longestRow ∈ wsX7_bestBack := by decide +kernel
theorem m_X7_bestBack_ee9e1b : Cond.selects RX3 yX3_longestRow yX3_longestRow ∈ wsX7_bestBack := by decide +kernel
set_option maxHeartbeats 8000000 in
set_option maxRecDepth 100000 in
theorem k_X7_bestBack (l : Launch) (E : Ev) (a0 : Nat → Nat) (a1 : Nat → Nat) (a2 : Nat → Nat) (a3 : Nat → Nat) (a4 : Nat → Nat) (a5 : Nat → Nat) (a6 : Nat → Nat) (a7 : Nat → Nat) (a8 : Nat → Nat) (a9 : Nat → Nat) (L : List SR) (N : Nat) (s0 : St) (s1 : St) (h1 : Option SR) (s2 : St) (h2 : Option SR) (s3 : St) (s4 : St) (h4 : Option SR) (s5 : St) (s6 : St) (s7 : St) (s8 : St) (s9 : St) (t9 : Nat → Nat → Int64) (q : (Int32 × St × (Option SR) × St)) (hf : f_X7_bestBack N L s1 h1 s2 h2 s7 = some q) : Ci l yX7_bestBack wsX7_bestBack rm_X7_bestBack E [.ref (a0 0)] ((wX7o E a0 a1 a2 a3 a4 a5 a6 a7 a8 a9 s0 ++ (wX2 E a1 s1 h1 ++ (wX2 E a2 s2 h2 ++ (wX1 E a3 s3 ++ (wX2 E a4 s4 h4 ++ (wX1 E a5 s5 ++ (wX5 E a6 s6 ++ (wX3 E a7 s7 ++ (wX0 E a8 s8 ++ (wX6 E a9 s9 t9)))))))))) ++ sW E.2.1 L) ((wX7o E a0 a1 a2 a3 a4 a5 a6 a7 a8 a9 s0 ++ (wX2 E a1 s1 h1 ++ (wX2 E a2 q.2.1 q.2.2.1 ++ (wX1 E a3 s3 ++ (wX2 E a4 s4 h4 ++ (wX1 E a5 s5 ++ (wX5 E a6 s6 ++ (wX3 E a7 q.2.2.2 ++ (wX0 E a8 s8 ++ (wX6 E a9 s9 t9)))))))))) ++ sW E.2.1 L) q.1 := by
  unfold f_X7_bestBack at hf
  intro sz
  refine Met.ofW (cc := cX7_bestBack) (maxL := 5) (ret := (some .int)) (by decide) rfl ?_
  intro p e s m args below meth c s₁ B hml hpre
  obtain ⟨rfl, hsz, hP, hK, hD0, hG, hA, hAB⟩ := start hpre
  have hx := B.exec
  have hb := B.bytes
  have hr := B.returns
  have hts := atoms_spec (ws := wsX7_bestBack) B.pre
  have hown : s.vm.findClass RX7 = some m.cls := findClass_of_methodNamed B.named
  have hlocks := B.notSynchronized
  subst hsz
  generalize va_A ((wX7o E a0 a1 a2 a3 a4 a5 a6 a7 a8 a9 s0 ++ (wX2 E a1 s1 h1 ++ (wX2 E a2 s2 h2 ++ (wX1 E a3 s3 ++ (wX2 E a4 s4 h4 ++ (wX1 E a5 s5 ++ (wX5 E a6 s6 ++ (wX3 E a7 s7 ++ (wX0 E a8 s8 ++ (wX6 E a9 s9 t9)))))))))) ++ sW E.2.1 L) s.heap.size = A0 at hD0 hA hAB ⊢
  have hDD : ∀ (s0 : St) (s1 : St) (h1 : Option SR) (s2 : St) (h2 : Option SR) (s3 : St) (s4 : St) (h4 : Option SR) (s5 : St) (s6 : St) (s7 : St) (s8 : St) (s9 : St) (t9 : Nat → Nat → Int64), va_D A0 ((wX7o E a0 a1 a2 a3 a4 a5 a6 a7 a8 a9 s0 ++ (wX2 E a1 s1 h1 ++ (wX2 E a2 s2 h2 ++ (wX1 E a3 s3 ++ (wX2 E a4 s4 h4 ++ (wX1 E a5 s5 ++ (wX5 E a6 s6 ++ (wX3 E a7 s7 ++ (wX0 E a8 s8 ++ (wX6 E a9 s9 t9)))))))))) ++ sW E.2.1 L) := fun s0 s1 h1 s2 h2 s3 s4 h4 s5 s6 s7 s8 s9 t9 => vD_addr hD0 rfl
  have hS : va_S A0 s.heap s.heap [] := va_S.rf
  have hl := lv_entry ([.ref (a0 0)]) (n := 5) (Nat.le_of_ble_eq_true rfl)
  rw [lg_entry_eq]
  generalize (lg_sl ([.ref (a0 0)]) ++ List.replicate (5 - (lg_sl ([.ref (a0 0)])).length) Slot.unset).toArray = ls at hl ⊢
  have hl : lv_has ls 5 [(0, .ref (a0 0))] := hl
  have hL_36 : ∀ (s1 : St) (h1 : Option SR) (n_36 : Nat) (s2 : St) (h2 : Option SR) (s7 : St) (v1 : Int32) (v2 : Int32) (v3 : Int32), l_X7_bestBack_36 N L s1 h1 n_36 s2 h2 s7 v1 v2 v3 = some q → ∀ (H : Heap) (locs : List Loc) (ls : Array Slot), va_P E.1 vwCl ((wX7o E a0 a1 a2 a3 a4 a5 a6 a7 a8 a9 s0 ++ (wX2 E a1 s1 h1 ++ (wX2 E a2 s2 h2 ++ (wX1 E a3 s3 ++ (wX2 E a4 s4 h4 ++ (wX1 E a5 s5 ++ (wX5 E a6 s6 ++ (wX3 E a7 s7 ++ (wX0 E a8 s8 ++ (wX6 E a9 s9 t9)))))))))) ++ sW E.2.1 L) H → va_S A0 s.heap H locs → lv_has ls 5 [(0, .ref (a0 0)), (1, .int v1), (2, .int v2), (3, .int v3)] → W p l e rm_X7_bestBack s m ([.ref (a0 0)] : List Value).toArray below meth c H locs 0 0 (MQ below (va_Qi (fun (r' : Int32) (_ : Unit) => r' = q.1) (fun _ t => va_P E.1 vwCl ((wX7o E a0 a1 a2 a3 a4 a5 a6 a7 a8 a9 s0 ++ (wX2 E a1 s1 h1 ++ (wX2 E a2 q.2.1 q.2.2.1 ++ (wX1 E a3 s3 ++ (wX2 E a4 s4 h4 ++ (wX1 E a5 s5 ++ (wX5 E a6 s6 ++ (wX3 E a7 q.2.2.2 ++ (wX0 E a8 s8 ++ (wX6 E a9 s9 t9)))))))))) ++ sW E.2.1 L) t.heap) A0) ([.ref (a0 0)] : List Value).toArray s 0 0 A0) (F0 m 36 ls []) := by
    intro s1 h1 n_36
    induction n_36 with
    | zero => intro s2 h2 s7 v1 v2 v3 hf; rw [l_X7_bestBack_36] at hf; cases hf
    | succ n_36 ih_36 =>
      intro s2 h2 s7 v1 v2 v3 hf H locs ls hP hS hl
      rw [l_X7_bestBack_36] at hf
      refine lv_iload_n hx hb dX7_bestBack_36 rfl (lv_at hl 3 rfl) ?_
      refine lv_aload_n hx hb dX7_bestBack_37 rfl (lv_at hl 0 rfl) ?_
      refine va_get (ci := 7) (C := RX7) (T := TX7) (N := 11) (v := .ref (a1 0)) hx hb hts i_X7_bestBack_X7 hown hK hP 0 rfl rfl 0 (by decide) (hts _ m_X7_bestBack_265b14) (fun _ h9 => h9) rfl dX7_bestBack_38 ?_
      refine va_getN (ci := 2) (C := RX2) (T := TX2) (N := 11) (v := .int (s1 0 0)) hx hb hts i_X7_bestBack_X2 hown hK hP 1 rfl rfl 0 (by decide) (nwG hG (w := .fieldLinkNest "PickedMatch" 66 "PickedMatch$Scene" "things" "I" "PickedMatch") (by decide +kernel)) (fun _ h9 => h9) rfl dX7_bestBack_41 ?_
      refine lv_icmp_ge (tgt := 115) hx hb dX7_bestBack_44 (by decide) (fun c_44 => ?_) (fun c_44 => ?_)
      · have hf := ite_t c_44 hf
        refine lv_iload_n hx hb dX7_bestBack_115 rfl (lv_at hl 2 rfl) ?_
        have e9 := Option.some.inj hf
        have h9_0 : s2 = q.2.1 := congrArg (fun z => z.2.1) e9
        have h9_1 : h2 = q.2.2.1 := congrArg (fun z => z.2.2.1) e9
        have h9_2 : s7 = q.2.2.2 := congrArg (fun z => z.2.2.2) e9
        have hP9 : va_P E.1 vwCl ((wX7o E a0 a1 a2 a3 a4 a5 a6 a7 a8 a9 s0 ++ (wX2 E a1 s1 h1 ++ (wX2 E a2 q.2.1 q.2.2.1 ++ (wX1 E a3 s3 ++ (wX2 E a4 s4 h4 ++ (wX1 E a5 s5 ++ (wX5 E a6 s6 ++ (wX3 E a7 q.2.2.2 ++ (wX0 E a8 s8 ++ (wX6 E a9 s9 t9)))))))))) ++ sW E.2.1 L) H := by rw [← h9_0, ← h9_1, ← h9_2]; exact hP
        exact rt_i hx hb hr hlocks (fst_e e9) hP9 hS dX7_bestBack_116
      · have hf := ite_f c_44 hf
        refine lv_aload_n hx hb dX7_bestBack_47 rfl (lv_at hl 0 rfl) ?_
        refine va_get (ci := 7) (C := RX7) (T := TX7) (N := 11) (v := .ref (a1 0)) hx hb hts i_X7_bestBack_X7 hown hK hP 0 rfl rfl 0 (by decide) (hts _ m_X7_bestBack_265b14) (fun _ h9 => h9) rfl dX7_bestBack_48 ?_
        refine lv_iload_n hx hb dX7_bestBack_51 rfl (lv_at hl 3 rfl) ?_
        obtain ⟨q52, hc_52, hf⟩ := cl_e hf
        have hm_52 : ∀ q ∈ (wX2 E a1 s1 h1) ++ sW E.2.1 L, q ∈ (wX7o E a0 a1 a2 a3 a4 a5 a6 a7 a8 a9 s0 ++ (wX2 E a1 s1 h1 ++ (wX2 E a2 s2 h2 ++ (wX1 E a3 s3 ++ (wX2 E a4 s4 h4 ++ (wX1 E a5 s5 ++ (wX5 E a6 s6 ++ (wX3 E a7 s7 ++ (wX0 E a8 s8 ++ (wX6 E a9 s9 t9)))))))))) ++ sW E.2.1 L := (app_mem (sub_mem (suf := []) [1, 2, 3, 4, 5, 6, 7] rfl))
        refine fin_i (E := E) (wc := (wX2 E a1 s1 h1) ++ sW E.2.1 L) (wc' := (wX2 E a1 s1 h1) ++ sW E.2.1 L) (va_runVN (As := [.int v3]) (rest := []) ⟨hx, hb, hml, hown, hts⟩ (k_X2_isHad l E a1 L N s1 h1 v3 q52 hc_52 _) ⟨va_cnB 1 hts gX7_bestBack_X2_isHad_n186 rfl rfl rfl (hG.1 (.methodLinkNest "PickedMatch" 186 yX2_isHad "PickedMatch") (by decide +kernel)) (hts _ m_X7_bestBack_4cf9d8) (by decide +kernel) ⟨(Nat.le_of_ble_eq_true rfl), (Nat.le_of_ble_eq_true rfl)⟩, (hts _ m_X7_bestBack_ab92ab), (hts _ m_X7_bestBack_8e582f)⟩ (pre_v (ci := 2) (q0 := 0) hK (sub_P hm_52 hP) (sub_Ds (ws := wX7o E a0 a1 a2 a3 a4 a5 a6 a7 a8 a9 s0 ++ (wX2 E a1 s1 h1 ++ (wX2 E a2 s2 h2 ++ (wX1 E a3 s3 ++ (wX2 E a4 s4 h4 ++ (wX1 E a5 s5 ++ (wX5 E a6 s6 ++ (wX3 E a7 s7 ++ (wX0 E a8 s8 ++ (wX6 E a9 s9 t9)))))))))) (wc := wX2 E a1 s1 h1) (suf := sW E.2.1 L) [1, 2, 3, 4, 5, 6, 7] (by decide) rfl (hDD s0 s1 h1 s2 h2 s3 s4 h4 s5 s6 s7 s8 s9 t9)) hS hG hAB rfl rfl) rfl rfl hl.1 rfl (lv_room (Nat.le_of_ble_eq_true rfl)) dX7_bestBack_52 ⟨Nat.zero_le _, Nat.zero_le _⟩) hS (w_free (hDD s0 s1 h1 s2 h2 s3 s4 h4 s5 s6 s7 s8 s9 t9) hS hA hm_52) (fun H locs hP1 hk hS => ?_)
        have hP := w_joins (ws' := wX7o E a0 a1 a2 a3 a4 a5 a6 a7 a8 a9 s0 ++ (wX2 E a1 s1 h1 ++ (wX2 E a2 s2 h2 ++ (wX1 E a3 s3 ++ (wX2 E a4 s4 h4 ++ (wX1 E a5 s5 ++ (wX5 E a6 s6 ++ (wX3 E a7 s7 ++ (wX0 E a8 s8 ++ (wX6 E a9 s9 t9)))))))))) (wc := wX2 E a1 s1 h1) (wc' := wX2 E a1 s1 h1) hP (hDD s0 s1 h1 s2 h2 s3 s4 h4 s5 s6 s7 s8 s9 t9) [1, 2, 3, 4, 5, 6, 7] rfl [none, some 0, some 1, some 2, some 3, some 4, some 5, some 6, none, none, none, none, none, none, none, none, none, none, none, none, none, none, none, none, none, none, none, none, none, none, none, none, none, none, none, none, none, none, none, none, none, none, none, none, none, none, none, none, none, none] rfl rfl hk hP1
        refine lv_if_eq (tgt := 109) hx hb dX7_bestBack_55 (by decide) (fun c_55 => ?_) (fun c_55 => ?_)
        · have hf := ite_t c_55 hf
          obtain ⟨x109, e_x109⟩ : ∃ y : Int32, y = v3 + 1 := ⟨_, rfl⟩
          have hf := nm_q e_x109 hf
          refine lv_iinc (v := x109) (lv' := [(3, .int x109), (0, .ref (a0 0)), (1, .int v1), (2, .int v2)]) hx hb dX7_bestBack_109 hl (k := 3) rfl (by rw [e_x109]; rfl) (Nat.le_of_ble_eq_true rfl) rfl (fun ls hl => ?_)
          refine lv_goto (tgt := 36) hx hb dX7_bestBack_112 (by decide) ?_
          exact ih_36 s2 h2 s7 v1 v2 x109 hf _ _ _ hP hS (lv_sub hl [1, 2, 3, 0] rfl)
        · have hf := ite_f c_55 hf
          refine lv_aload_n hx hb dX7_bestBack_58 rfl (lv_at hl 0 rfl) ?_
          refine va_get (ci := 7) (C := RX7) (T := TX7) (N := 11) (v := .ref (a2 0)) hx hb hts i_X7_bestBack_X7 hown hK hP 0 rfl rfl 1 (by decide) (hts _ m_X7_bestBack_5dfb42) (fun _ h9 => h9) rfl dX7_bestBack_59 ?_
          refine lv_aload_n hx hb dX7_bestBack_62 rfl (lv_at hl 0 rfl) ?_
          refine va_get (ci := 7) (C := RX7) (T := TX7) (N := 11) (v := .ref (a1 0)) hx hb hts i_X7_bestBack_X7 hown hK hP 0 rfl rfl 0 (by decide) (hts _ m_X7_bestBack_265b14) (fun _ h9 => h9) rfl dX7_bestBack_63 ?_
          obtain ⟨q66, hc_66, hf⟩ := cl_e hf
          have hm_66 : ∀ q ∈ (wX2 E a2 s2 h2 ++ (wX2 E a1 s1 h1)) ++ sW E.2.1 L, q ∈ (wX7o E a0 a1 a2 a3 a4 a5 a6 a7 a8 a9 s0 ++ (wX2 E a1 s1 h1 ++ (wX2 E a2 s2 h2 ++ (wX1 E a3 s3 ++ (wX2 E a4 s4 h4 ++ (wX1 E a5 s5 ++ (wX5 E a6 s6 ++ (wX3 E a7 s7 ++ (wX0 E a8 s8 ++ (wX6 E a9 s9 t9)))))))))) ++ sW E.2.1 L := (app_mem (sub_mem (suf := []) [8, 9, 10, 11, 12, 13, 14, 1, 2, 3, 4, 5, 6, 7] rfl))
          refine fin_v (E := E) (wc := (wX2 E a2 s2 h2 ++ (wX2 E a1 s1 h1)) ++ sW E.2.1 L) (wc' := (wX2 E a2 q66.1 q66.2 ++ (wX2 E a1 s1 h1)) ++ sW E.2.1 L) (va_runVN (As := [.ref (a1 0)]) (rest := []) ⟨hx, hb, hml, hown, hts⟩ (k_X2_becomeAs l E a2 a1 L N s2 h2 s1 h1 q66 hc_66 _) ⟨va_cnB 1 hts gX7_bestBack_X2_becomeAs_n179 rfl rfl rfl (hG.1 (.methodLinkNest "PickedMatch" 179 yX2_becomeAs "PickedMatch") (by decide +kernel)) (hts _ m_X7_bestBack_4cf9d8) (by decide +kernel) ⟨(Nat.le_of_ble_eq_true rfl), (Nat.le_of_ble_eq_true rfl)⟩, (hts _ m_X7_bestBack_c21ce8), (hts _ m_X7_bestBack_986579)⟩ (pre_v (ci := 2) (q0 := 0) hK (sub_P hm_66 hP) (sub_Ds (ws := wX7o E a0 a1 a2 a3 a4 a5 a6 a7 a8 a9 s0 ++ (wX2 E a1 s1 h1 ++ (wX2 E a2 s2 h2 ++ (wX1 E a3 s3 ++ (wX2 E a4 s4 h4 ++ (wX1 E a5 s5 ++ (wX5 E a6 s6 ++ (wX3 E a7 s7 ++ (wX0 E a8 s8 ++ (wX6 E a9 s9 t9)))))))))) (wc := wX2 E a2 s2 h2 ++ (wX2 E a1 s1 h1)) (suf := sW E.2.1 L) [8, 9, 10, 11, 12, 13, 14, 1, 2, 3, 4, 5, 6, 7] (by decide) rfl (hDD s0 s1 h1 s2 h2 s3 s4 h4 s5 s6 s7 s8 s9 t9)) hS hG hAB rfl rfl) rfl rfl hl.1 rfl (lv_room (Nat.le_of_ble_eq_true rfl)) dX7_bestBack_66 ⟨Nat.zero_le _, Nat.zero_le _⟩) hS (w_free (hDD s0 s1 h1 s2 h2 s3 s4 h4 s5 s6 s7 s8 s9 t9) hS hA hm_66) (fun H locs hP1 hk hS => ?_)
          have hP := w_joins (ws' := wX7o E a0 a1 a2 a3 a4 a5 a6 a7 a8 a9 s0 ++ (wX2 E a1 s1 h1 ++ (wX2 E a2 q66.1 q66.2 ++ (wX1 E a3 s3 ++ (wX2 E a4 s4 h4 ++ (wX1 E a5 s5 ++ (wX5 E a6 s6 ++ (wX3 E a7 s7 ++ (wX0 E a8 s8 ++ (wX6 E a9 s9 t9)))))))))) (wc := wX2 E a2 s2 h2 ++ (wX2 E a1 s1 h1)) (wc' := wX2 E a2 q66.1 q66.2 ++ (wX2 E a1 s1 h1)) hP (hDD s0 s1 h1 s2 h2 s3 s4 h4 s5 s6 s7 s8 s9 t9) [8, 9, 10, 11, 12, 13, 14, 1, 2, 3, 4, 5, 6, 7] rfl [none, some 7, some 8, some 9, some 10, some 11, some 12, some 13, some 0, some 1, some 2, some 3, some 4, some 5, some 6, none, none, none, none, none, none, none, none, none, none, none, none, none, none, none, none, none, none, none, none, none, none, none, none, none, none, none, none, none, none, none, none, none, none, none] rfl rfl hk hP1
          refine lv_aload_n hx hb dX7_bestBack_69 rfl (lv_at hl 0 rfl) ?_
          refine va_get (ci := 7) (C := RX7) (T := TX7) (N := 11) (v := .ref (a2 0)) hx hb hts i_X7_bestBack_X7 hown hK hP 0 rfl rfl 1 (by decide) (hts _ m_X7_bestBack_5dfb42) (fun _ h9 => h9) rfl dX7_bestBack_70 ?_
          refine lv_iload_n hx hb dX7_bestBack_73 rfl (lv_at hl 3 rfl) ?_
          obtain ⟨q74, hc_74, hf⟩ := cl_e hf
          have hm_74 : ∀ q ∈ (wX2 E a2 q66.1 q66.2) ++ sW E.2.1 L, q ∈ (wX7o E a0 a1 a2 a3 a4 a5 a6 a7 a8 a9 s0 ++ (wX2 E a1 s1 h1 ++ (wX2 E a2 q66.1 q66.2 ++ (wX1 E a3 s3 ++ (wX2 E a4 s4 h4 ++ (wX1 E a5 s5 ++ (wX5 E a6 s6 ++ (wX3 E a7 s7 ++ (wX0 E a8 s8 ++ (wX6 E a9 s9 t9)))))))))) ++ sW E.2.1 L := (app_mem (sub_mem (suf := []) [8, 9, 10, 11, 12, 13, 14] rfl))
          refine fin_v (E := E) (wc := (wX2 E a2 q66.1 q66.2) ++ sW E.2.1 L) (wc' := (wX2 E a2 q74 q66.2) ++ sW E.2.1 L) (va_runVN (As := [.int v3]) (rest := []) ⟨hx, hb, hml, hown, hts⟩ (k_X2_layDown l E a2 L N q66.1 q66.2 v3 q74 hc_74 _) ⟨va_cnB 1 hts gX7_bestBack_X2_layDown_n311 rfl rfl rfl (hG.1 (.methodLinkNest "PickedMatch" 311 yX2_layDown "PickedMatch") (by decide +kernel)) (hts _ m_X7_bestBack_4cf9d8) (by decide +kernel) ⟨(Nat.le_of_ble_eq_true rfl), (Nat.le_of_ble_eq_true rfl)⟩, (hts _ m_X7_bestBack_a3c303), (hts _ m_X7_bestBack_530824)⟩ (pre_v (ci := 2) (q0 := 0) hK (sub_P hm_74 hP) (sub_Ds (ws := wX7o E a0 a1 a2 a3 a4 a5 a6 a7 a8 a9 s0 ++ (wX2 E a1 s1 h1 ++ (wX2 E a2 q66.1 q66.2 ++ (wX1 E a3 s3 ++ (wX2 E a4 s4 h4 ++ (wX1 E a5 s5 ++ (wX5 E a6 s6 ++ (wX3 E a7 s7 ++ (wX0 E a8 s8 ++ (wX6 E a9 s9 t9)))))))))) (wc := wX2 E a2 q66.1 q66.2) (suf := sW E.2.1 L) [8, 9, 10, 11, 12, 13, 14] (by decide) rfl (hDD s0 s1 h1 q66.1 q66.2 s3 s4 h4 s5 s6 s7 s8 s9 t9)) hS hG hAB rfl rfl) rfl rfl hl.1 rfl (lv_room (Nat.le_of_ble_eq_true rfl)) dX7_bestBack_74 ⟨Nat.zero_le _, Nat.zero_le _⟩) hS (w_free (hDD s0 s1 h1 q66.1 q66.2 s3 s4 h4 s5 s6 s7 s8 s9 t9) hS hA hm_74) (fun H locs hP1 hk hS => ?_)
          have hP := w_joins (ws' := wX7o E a0 a1 a2 a3 a4 a5 a6 a7 a8 a9 s0 ++ (wX2 E a1 s1 h1 ++ (wX2 E a2 q74 q66.2 ++ (wX1 E a3 s3 ++ (wX2 E a4 s4 h4 ++ (wX1 E a5 s5 ++ (wX5 E a6 s6 ++ (wX3 E a7 s7 ++ (wX0 E a8 s8 ++ (wX6 E a9 s9 t9)))))))))) (wc := wX2 E a2 q66.1 q66.2) (wc' := wX2 E a2 q74 q66.2) hP (hDD s0 s1 h1 q66.1 q66.2 s3 s4 h4 s5 s6 s7 s8 s9 t9) [8, 9, 10, 11, 12, 13, 14] rfl [none, none, none, none, none, none, none, none, some 0, some 1, some 2, some 3, some 4, some 5, some 6, none, none, none, none, none, none, none, none, none, none, none, none, none, none, none, none, none, none, none, none, none, none, none, none, none, none, none, none, none, none, none, none, none, none, none] rfl rfl hk hP1
          refine lv_aload_n hx hb dX7_bestBack_77 rfl (lv_at hl 0 rfl) ?_
          refine va_get (ci := 7) (C := RX7) (T := TX7) (N := 11) (v := .ref (a2 0)) hx hb hts i_X7_bestBack_X7 hown hK hP 0 rfl rfl 1 (by decide) (hts _ m_X7_bestBack_5dfb42) (fun _ h9 => h9) rfl dX7_bestBack_78 ?_
          refine va_getN (ci := 2) (C := RX2) (T := TX2) (N := 11) (v := .int (q74 6 0)) hx hb hts i_X7_bestBack_X2 hown hK hP 8 rfl rfl 6 (by decide) (nwG hG (w := .fieldLinkNest "PickedMatch" 108 "PickedMatch$Scene" "hadCount" "I" "PickedMatch") (by decide +kernel)) (fun _ h9 => h9) rfl dX7_bestBack_81 ?_
          refine lv_aload_n hx hb dX7_bestBack_84 rfl (lv_at hl 0 rfl) ?_
          refine va_get (ci := 7) (C := RX7) (T := TX7) (N := 11) (v := .ref (a7 0)) hx hb hts i_X7_bestBack_X7 hown hK hP 0 rfl rfl 8 (by decide) (hts _ m_X7_bestBack_4537e5) (fun _ h9 => h9) rfl dX7_bestBack_85 ?_
          refine lv_aload_n hx hb dX7_bestBack_88 rfl (lv_at hl 0 rfl) ?_
          refine va_get (ci := 7) (C := RX7) (T := TX7) (N := 11) (v := .ref (a2 0)) hx hb hts i_X7_bestBack_X7 hown hK hP 0 rfl rfl 1 (by decide) (hts _ m_X7_bestBack_5dfb42) (fun _ h9 => h9) rfl dX7_bestBack_89 ?_
          obtain ⟨q92, hc_92, hf⟩ := cl_e hf
          have hm_92 : ∀ q ∈ (wX3 E a7 s7 ++ (wX2 E a2 q74 q66.2)) ++ sW E.2.1 L, q ∈ (wX7o E a0 a1 a2 a3 a4 a5 a6 a7 a8 a9 s0 ++ (wX2 E a1 s1 h1 ++ (wX2 E a2 q74 q66.2 ++ (wX1 E a3 s3 ++ (wX2 E a4 s4 h4 ++ (wX1 E a5 s5 ++ (wX5 E a6 s6 ++ (wX3 E a7 s7 ++ (wX0 E a8 s8 ++ (wX6 E a9 s9 t9)))))))))) ++ sW E.2.1 L := (app_mem (sub_mem (suf := []) [41, 42, 43, 8, 9, 10, 11, 12, 13, 14] rfl))
          refine fin_i (E := E) (wc := (wX3 E a7 s7 ++ (wX2 E a2 q74 q66.2)) ++ sW E.2.1 L) (wc' := (wX3 E a7 q92.2.1 ++ (wX2 E a2 q92.2.2 q66.2)) ++ sW E.2.1 L) (va_runVN (As := [.ref (a2 0)]) (rest := [.int (q74 6 0)]) ⟨hx, hb, hml, hown, hts⟩ (k_X3_longestRow l E a7 a2 L N s7 q74 q66.2 q92 hc_92 _) ⟨va_cnB 1 hts gX7_bestBack_X3_longestRow_n189 rfl rfl rfl (hG.1 (.methodLinkNest "PickedMatch" 189 yX3_longestRow "PickedMatch") (by decide +kernel)) (hts _ m_X7_bestBack_7824fe) (by decide +kernel) ⟨(Nat.le_of_ble_eq_true rfl), (Nat.le_of_ble_eq_true rfl)⟩, (hts _ m_X7_bestBack_b30271), (hts _ m_X7_bestBack_ee9e1b)⟩ (pre_v (ci := 3) (q0 := 0) hK (sub_P hm_92 hP) (sub_Ds (ws := wX7o E a0 a1 a2 a3 a4 a5 a6 a7 a8 a9 s0 ++ (wX2 E a1 s1 h1 ++ (wX2 E a2 q74 q66.2 ++ (wX1 E a3 s3 ++ (wX2 E a4 s4 h4 ++ (wX1 E a5 s5 ++ (wX5 E a6 s6 ++ (wX3 E a7 s7 ++ (wX0 E a8 s8 ++ (wX6 E a9 s9 t9)))))))))) (wc := wX3 E a7 s7 ++ (wX2 E a2 q74 q66.2)) (suf := sW E.2.1 L) [41, 42, 43, 8, 9, 10, 11, 12, 13, 14] (by decide) rfl (hDD s0 s1 h1 q74 q66.2 s3 s4 h4 s5 s6 s7 s8 s9 t9)) hS hG hAB rfl rfl) rfl rfl hl.1 rfl (lv_room (Nat.le_of_ble_eq_true rfl)) dX7_bestBack_92 ⟨Nat.zero_le _, Nat.zero_le _⟩) hS (w_free (hDD s0 s1 h1 q74 q66.2 s3 s4 h4 s5 s6 s7 s8 s9 t9) hS hA hm_92) (fun H locs hP1 hk hS => ?_)
          have hP := w_joins (ws' := wX7o E a0 a1 a2 a3 a4 a5 a6 a7 a8 a9 s0 ++ (wX2 E a1 s1 h1 ++ (wX2 E a2 q92.2.2 q66.2 ++ (wX1 E a3 s3 ++ (wX2 E a4 s4 h4 ++ (wX1 E a5 s5 ++ (wX5 E a6 s6 ++ (wX3 E a7 q92.2.1 ++ (wX0 E a8 s8 ++ (wX6 E a9 s9 t9)))))))))) (wc := wX3 E a7 s7 ++ (wX2 E a2 q74 q66.2)) (wc' := wX3 E a7 q92.2.1 ++ (wX2 E a2 q92.2.2 q66.2)) hP (hDD s0 s1 h1 q74 q66.2 s3 s4 h4 s5 s6 s7 s8 s9 t9) [41, 42, 43, 8, 9, 10, 11, 12, 13, 14] rfl [none, none, none, none, none, none, none, none, some 3, some 4, some 5, some 6, some 7, some 8, some 9, none, none, none, none, none, none, none, none, none, none, none, none, none, none, none, none, none, none, none, none, none, none, none, none, none, none, some 0, some 1, some 2, none, none, none, none, none, none] rfl rfl hk hP1
          refine lv_iadd hx hb dX7_bestBack_95 ?_
          refine lv_topi (fun x96 e_x96 => ?_)
          have hf := nm_q e_x96 hf
          refine lv_istore (lv' := [(4, .int x96), (0, .ref (a0 0)), (1, .int v1), (2, .int v2), (3, .int v3)]) hx hb dX7_bestBack_96 hl (Nat.le_of_ble_eq_true rfl) rfl (fun ls hl => ?_)
          refine lv_iload hx hb dX7_bestBack_98 (lv_at hl 0 rfl) ?_
          refine lv_iload_n hx hb dX7_bestBack_100 rfl (lv_at hl 2 rfl) ?_
          refine lv_icmp_le (tgt := 109) hx hb dX7_bestBack_101 (by decide) (fun c_101 => ?_) (fun c_101 => ?_)
          · have hf := ite_t c_101 hf
            obtain ⟨x109, e_x109⟩ : ∃ y : Int32, y = v3 + 1 := ⟨_, rfl⟩
            have hf := nm_q e_x109 hf
            refine lv_iinc (v := x109) (lv' := [(3, .int x109), (4, .int x96), (0, .ref (a0 0)), (1, .int v1), (2, .int v2)]) hx hb dX7_bestBack_109 hl (k := 4) rfl (by rw [e_x109]; rfl) (Nat.le_of_ble_eq_true rfl) rfl (fun ls hl => ?_)
            refine lv_goto (tgt := 36) hx hb dX7_bestBack_112 (by decide) ?_
            exact ih_36 q92.2.2 q66.2 q92.2.1 v1 v2 x109 hf _ _ _ hP hS (lv_sub hl [2, 3, 4, 0] rfl)
          · have hf := ite_f c_101 hf
            refine lv_iload hx hb dX7_bestBack_104 (lv_at hl 0 rfl) ?_
            refine lv_istore_n (lv' := [(1, .int x96), (4, .int x96), (0, .ref (a0 0)), (2, .int v2), (3, .int v3)]) hx hb dX7_bestBack_106 rfl hl (Nat.le_of_ble_eq_true rfl) rfl (fun ls hl => ?_)
            refine lv_iload_n hx hb dX7_bestBack_107 rfl (lv_at hl 4 rfl) ?_
            refine lv_istore_n (lv' := [(2, .int v3), (1, .int x96), (4, .int x96), (0, .ref (a0 0)), (3, .int v3)]) hx hb dX7_bestBack_108 rfl hl (Nat.le_of_ble_eq_true rfl) rfl (fun ls hl => ?_)
            obtain ⟨x109, e_x109⟩ : ∃ y : Int32, y = v3 + 1 := ⟨_, rfl⟩
            have hf := nm_q e_x109 hf
            refine lv_iinc (v := x109) (lv' := [(3, .int x109), (2, .int v3), (1, .int x96), (4, .int x96), (0, .ref (a0 0))]) hx hb dX7_bestBack_109 hl (k := 4) rfl (by rw [e_x109]; rfl) (Nat.le_of_ble_eq_true rfl) rfl (fun ls hl => ?_)
            refine lv_goto (tgt := 36) hx hb dX7_bestBack_112 (by decide) ?_
            exact ih_36 q92.2.2 q66.2 q92.2.1 x96 v3 x109 hf _ _ _ hP hS (lv_sub hl [4, 2, 1, 0] rfl)
  refine lv_aload_n hx hb dX7_bestBack_0 rfl (lv_at hl 0 rfl) ?_
  refine va_get (ci := 7) (C := RX7) (T := TX7) (N := 11) (v := .ref (a2 0)) hx hb hts i_X7_bestBack_X7 hown hK hP 0 rfl rfl 1 (by decide) (hts _ m_X7_bestBack_5dfb42) (fun _ h9 => h9) rfl dX7_bestBack_1 ?_
  refine lv_aload_n hx hb dX7_bestBack_4 rfl (lv_at hl 0 rfl) ?_
  refine va_get (ci := 7) (C := RX7) (T := TX7) (N := 11) (v := .ref (a1 0)) hx hb hts i_X7_bestBack_X7 hown hK hP 0 rfl rfl 0 (by decide) (hts _ m_X7_bestBack_265b14) (fun _ h9 => h9) rfl dX7_bestBack_5 ?_
  obtain ⟨q8, hc_8, hf⟩ := cl_e hf
  have hm_8 : ∀ q ∈ (wX2 E a2 s2 h2 ++ (wX2 E a1 s1 h1)) ++ sW E.2.1 L, q ∈ (wX7o E a0 a1 a2 a3 a4 a5 a6 a7 a8 a9 s0 ++ (wX2 E a1 s1 h1 ++ (wX2 E a2 s2 h2 ++ (wX1 E a3 s3 ++ (wX2 E a4 s4 h4 ++ (wX1 E a5 s5 ++ (wX5 E a6 s6 ++ (wX3 E a7 s7 ++ (wX0 E a8 s8 ++ (wX6 E a9 s9 t9)))))))))) ++ sW E.2.1 L := (app_mem (sub_mem (suf := []) [8, 9, 10, 11, 12, 13, 14, 1, 2, 3, 4, 5, 6, 7] rfl))
  refine fin_v (E := E) (wc := (wX2 E a2 s2 h2 ++ (wX2 E a1 s1 h1)) ++ sW E.2.1 L) (wc' := (wX2 E a2 q8.1 q8.2 ++ (wX2 E a1 s1 h1)) ++ sW E.2.1 L) (va_runVN (As := [.ref (a1 0)]) (rest := []) ⟨hx, hb, hml, hown, hts⟩ (k_X2_becomeAs l E a2 a1 L N s2 h2 s1 h1 q8 hc_8 _) ⟨va_cnB 1 hts gX7_bestBack_X2_becomeAs_n179 rfl rfl rfl (hG.1 (.methodLinkNest "PickedMatch" 179 yX2_becomeAs "PickedMatch") (by decide +kernel)) (hts _ m_X7_bestBack_4cf9d8) (by decide +kernel) ⟨(Nat.le_of_ble_eq_true rfl), (Nat.le_of_ble_eq_true rfl)⟩, (hts _ m_X7_bestBack_c21ce8), (hts _ m_X7_bestBack_986579)⟩ (pre_v (ci := 2) (q0 := 0) hK (sub_P hm_8 hP) (sub_Ds (ws := wX7o E a0 a1 a2 a3 a4 a5 a6 a7 a8 a9 s0 ++ (wX2 E a1 s1 h1 ++ (wX2 E a2 s2 h2 ++ (wX1 E a3 s3 ++ (wX2 E a4 s4 h4 ++ (wX1 E a5 s5 ++ (wX5 E a6 s6 ++ (wX3 E a7 s7 ++ (wX0 E a8 s8 ++ (wX6 E a9 s9 t9)))))))))) (wc := wX2 E a2 s2 h2 ++ (wX2 E a1 s1 h1)) (suf := sW E.2.1 L) [8, 9, 10, 11, 12, 13, 14, 1, 2, 3, 4, 5, 6, 7] (by decide) rfl (hDD s0 s1 h1 s2 h2 s3 s4 h4 s5 s6 s7 s8 s9 t9)) hS hG hAB rfl rfl) rfl rfl hl.1 rfl (lv_room (Nat.le_of_ble_eq_true rfl)) dX7_bestBack_8 ⟨Nat.zero_le _, Nat.zero_le _⟩) hS (w_free (hDD s0 s1 h1 s2 h2 s3 s4 h4 s5 s6 s7 s8 s9 t9) hS hA hm_8) (fun H locs hP1 hk hS => ?_)
  have hP := w_joins (ws' := wX7o E a0 a1 a2 a3 a4 a5 a6 a7 a8 a9 s0 ++ (wX2 E a1 s1 h1 ++ (wX2 E a2 q8.1 q8.2 ++ (wX1 E a3 s3 ++ (wX2 E a4 s4 h4 ++ (wX1 E a5 s5 ++ (wX5 E a6 s6 ++ (wX3 E a7 s7 ++ (wX0 E a8 s8 ++ (wX6 E a9 s9 t9)))))))))) (wc := wX2 E a2 s2 h2 ++ (wX2 E a1 s1 h1)) (wc' := wX2 E a2 q8.1 q8.2 ++ (wX2 E a1 s1 h1)) hP (hDD s0 s1 h1 s2 h2 s3 s4 h4 s5 s6 s7 s8 s9 t9) [8, 9, 10, 11, 12, 13, 14, 1, 2, 3, 4, 5, 6, 7] rfl [none, some 7, some 8, some 9, some 10, some 11, some 12, some 13, some 0, some 1, some 2, some 3, some 4, some 5, some 6, none, none, none, none, none, none, none, none, none, none, none, none, none, none, none, none, none, none, none, none, none, none, none, none, none, none, none, none, none, none, none, none, none, none, none] rfl rfl hk hP1
  refine lv_aload_n hx hb dX7_bestBack_11 rfl (lv_at hl 0 rfl) ?_
  refine va_get (ci := 7) (C := RX7) (T := TX7) (N := 11) (v := .ref (a1 0)) hx hb hts i_X7_bestBack_X7 hown hK hP 0 rfl rfl 0 (by decide) (hts _ m_X7_bestBack_265b14) (fun _ h9 => h9) rfl dX7_bestBack_12 ?_
  refine va_getN (ci := 2) (C := RX2) (T := TX2) (N := 11) (v := .int (s1 6 0)) hx hb hts i_X7_bestBack_X2 hown hK hP 1 rfl rfl 6 (by decide) (nwG hG (w := .fieldLinkNest "PickedMatch" 108 "PickedMatch$Scene" "hadCount" "I" "PickedMatch") (by decide +kernel)) (fun _ h9 => h9) rfl dX7_bestBack_15 ?_
  refine lv_aload_n hx hb dX7_bestBack_18 rfl (lv_at hl 0 rfl) ?_
  refine va_get (ci := 7) (C := RX7) (T := TX7) (N := 11) (v := .ref (a7 0)) hx hb hts i_X7_bestBack_X7 hown hK hP 0 rfl rfl 8 (by decide) (hts _ m_X7_bestBack_4537e5) (fun _ h9 => h9) rfl dX7_bestBack_19 ?_
  refine lv_aload_n hx hb dX7_bestBack_22 rfl (lv_at hl 0 rfl) ?_
  refine va_get (ci := 7) (C := RX7) (T := TX7) (N := 11) (v := .ref (a2 0)) hx hb hts i_X7_bestBack_X7 hown hK hP 0 rfl rfl 1 (by decide) (hts _ m_X7_bestBack_5dfb42) (fun _ h9 => h9) rfl dX7_bestBack_23 ?_
  obtain ⟨q26, hc_26, hf⟩ := cl_e hf
  have hm_26 : ∀ q ∈ (wX3 E a7 s7 ++ (wX2 E a2 q8.1 q8.2)) ++ sW E.2.1 L, q ∈ (wX7o E a0 a1 a2 a3 a4 a5 a6 a7 a8 a9 s0 ++ (wX2 E a1 s1 h1 ++ (wX2 E a2 q8.1 q8.2 ++ (wX1 E a3 s3 ++ (wX2 E a4 s4 h4 ++ (wX1 E a5 s5 ++ (wX5 E a6 s6 ++ (wX3 E a7 s7 ++ (wX0 E a8 s8 ++ (wX6 E a9 s9 t9)))))))))) ++ sW E.2.1 L := (app_mem (sub_mem (suf := []) [41, 42, 43, 8, 9, 10, 11, 12, 13, 14] rfl))
  refine fin_i (E := E) (wc := (wX3 E a7 s7 ++ (wX2 E a2 q8.1 q8.2)) ++ sW E.2.1 L) (wc' := (wX3 E a7 q26.2.1 ++ (wX2 E a2 q26.2.2 q8.2)) ++ sW E.2.1 L) (va_runVN (As := [.ref (a2 0)]) (rest := [.int (s1 6 0)]) ⟨hx, hb, hml, hown, hts⟩ (k_X3_longestRow l E a7 a2 L N s7 q8.1 q8.2 q26 hc_26 _) ⟨va_cnB 1 hts gX7_bestBack_X3_longestRow_n189 rfl rfl rfl (hG.1 (.methodLinkNest "PickedMatch" 189 yX3_longestRow "PickedMatch") (by decide +kernel)) (hts _ m_X7_bestBack_7824fe) (by decide +kernel) ⟨(Nat.le_of_ble_eq_true rfl), (Nat.le_of_ble_eq_true rfl)⟩, (hts _ m_X7_bestBack_b30271), (hts _ m_X7_bestBack_ee9e1b)⟩ (pre_v (ci := 3) (q0 := 0) hK (sub_P hm_26 hP) (sub_Ds (ws := wX7o E a0 a1 a2 a3 a4 a5 a6 a7 a8 a9 s0 ++ (wX2 E a1 s1 h1 ++ (wX2 E a2 q8.1 q8.2 ++ (wX1 E a3 s3 ++ (wX2 E a4 s4 h4 ++ (wX1 E a5 s5 ++ (wX5 E a6 s6 ++ (wX3 E a7 s7 ++ (wX0 E a8 s8 ++ (wX6 E a9 s9 t9)))))))))) (wc := wX3 E a7 s7 ++ (wX2 E a2 q8.1 q8.2)) (suf := sW E.2.1 L) [41, 42, 43, 8, 9, 10, 11, 12, 13, 14] (by decide) rfl (hDD s0 s1 h1 q8.1 q8.2 s3 s4 h4 s5 s6 s7 s8 s9 t9)) hS hG hAB rfl rfl) rfl rfl hl.1 rfl (lv_room (Nat.le_of_ble_eq_true rfl)) dX7_bestBack_26 ⟨Nat.zero_le _, Nat.zero_le _⟩) hS (w_free (hDD s0 s1 h1 q8.1 q8.2 s3 s4 h4 s5 s6 s7 s8 s9 t9) hS hA hm_26) (fun H locs hP1 hk hS => ?_)
  have hP := w_joins (ws' := wX7o E a0 a1 a2 a3 a4 a5 a6 a7 a8 a9 s0 ++ (wX2 E a1 s1 h1 ++ (wX2 E a2 q26.2.2 q8.2 ++ (wX1 E a3 s3 ++ (wX2 E a4 s4 h4 ++ (wX1 E a5 s5 ++ (wX5 E a6 s6 ++ (wX3 E a7 q26.2.1 ++ (wX0 E a8 s8 ++ (wX6 E a9 s9 t9)))))))))) (wc := wX3 E a7 s7 ++ (wX2 E a2 q8.1 q8.2)) (wc' := wX3 E a7 q26.2.1 ++ (wX2 E a2 q26.2.2 q8.2)) hP (hDD s0 s1 h1 q8.1 q8.2 s3 s4 h4 s5 s6 s7 s8 s9 t9) [41, 42, 43, 8, 9, 10, 11, 12, 13, 14] rfl [none, none, none, none, none, none, none, none, some 3, some 4, some 5, some 6, some 7, some 8, some 9, none, none, none, none, none, none, none, none, none, none, none, none, none, none, none, none, none, none, none, none, none, none, none, none, none, none, some 0, some 1, some 2, none, none, none, none, none, none] rfl rfl hk hP1
  refine lv_iadd hx hb dX7_bestBack_29 ?_
  refine lv_topi (fun x30 e_x30 => ?_)
  have hf := nm_q e_x30 hf
  refine lv_istore_n (lv' := [(1, .int x30), (0, .ref (a0 0))]) hx hb dX7_bestBack_30 rfl hl (Nat.le_of_ble_eq_true rfl) rfl (fun ls hl => ?_)
  refine lv_bipush (v := (-5)) hx hb dX7_bestBack_31 (by decide) ?_
  refine lv_topi (fun x33 e_x33 => ?_)
  have hf := nm_q e_x33 hf
  refine lv_istore_n (lv' := [(2, .int x33), (1, .int x30), (0, .ref (a0 0))]) hx hb dX7_bestBack_33 rfl hl (Nat.le_of_ble_eq_true rfl) rfl (fun ls hl => ?_)
  refine lv_iconst (v := 0) hx hb dX7_bestBack_34 (by decide) ?_
  refine lv_istore_n (lv' := [(3, .int 0), (2, .int x33), (1, .int x30), (0, .ref (a0 0))]) hx hb dX7_bestBack_35 rfl hl (Nat.le_of_ble_eq_true rfl) rfl (fun ls hl => ?_)
  exact hL_36 s1 h1 N q26.2.2 q8.2 q26.2.1 x30 x33 0 hf _ _ _ hP hS (lv_sub hl [3, 2, 1, 0] rfl)
abbrev rm_X7_best : Room := { frames := 16, cells := 0, slots := 0, locals := 445 }
set_option maxHeartbeats 8000000 in
set_option maxRecDepth 100000 in
theorem k_X7_best (l : Launch) (E : Ev) (a0 : Nat → Nat) (a1 : Nat → Nat) (a2 : Nat → Nat) (a3 : Nat → Nat) (a4 : Nat → Nat) (a5 : Nat → Nat) (a6 : Nat → Nat) (a7 : Nat → Nat) (a8 : Nat → Nat) (a9 : Nat → Nat) (L : List SR) (N : Nat) (s0 : St) (s1 : St) (h1 : Option SR) (s2 : St) (h2 : Option SR) (s3 : St) (s4 : St) (h4 : Option SR) (s5 : St) (s6 : St) (s7 : St) (s8 : St) (s9 : St) (t9 : Nat → Nat → Int64) (p1 : Int32) (q : (Int32 × St × (Option SR) × St)) (hf : f_X7_best N L s1 h1 s2 h2 s7 p1 = some q) : Ci l yX7_best wsX7_best rm_X7_best E [.ref (a0 0), .int p1] ((wX7o E a0 a1 a2 a3 a4 a5 a6 a7 a8 a9 s0 ++ (wX2 E a1 s1 h1 ++ (wX2 E a2 s2 h2 ++ (wX1 E a3 s3 ++ (wX2 E a4 s4 h4 ++ (wX1 E a5 s5 ++ (wX5 E a6 s6 ++ (wX3 E a7 s7 ++ (wX0 E a8 s8 ++ (wX6 E a9 s9 t9)))))))))) ++ sW E.2.1 L) ((wX7o E a0 a1 a2 a3 a4 a5 a6 a7 a8 a9 s0 ++ (wX2 E a1 s1 h1 ++ (wX2 E a2 q.2.1 q.2.2.1 ++ (wX1 E a3 s3 ++ (wX2 E a4 s4 h4 ++ (wX1 E a5 s5 ++ (wX5 E a6 s6 ++ (wX3 E a7 q.2.2.2 ++ (wX0 E a8 s8 ++ (wX6 E a9 s9 t9)))))))))) ++ sW E.2.1 L) q.1 := by
  unfold f_X7_best at hf
  intro sz
  refine Met.ofW (cc := cX7_best) (maxL := 2) (ret := (some .int)) (by decide) rfl ?_
  intro p e s m args below meth c s₁ B hml hpre
  obtain ⟨rfl, hsz, hP, hK, hD0, hG, hA, hAB⟩ := start hpre
  have hx := B.exec
  have hb := B.bytes
  have hr := B.returns
  have hts := atoms_spec (ws := wsX7_best) B.pre
  have hown : s.vm.findClass RX7 = some m.cls := findClass_of_methodNamed B.named
  have hlocks := B.notSynchronized
  subst hsz
  generalize va_A ((wX7o E a0 a1 a2 a3 a4 a5 a6 a7 a8 a9 s0 ++ (wX2 E a1 s1 h1 ++ (wX2 E a2 s2 h2 ++ (wX1 E a3 s3 ++ (wX2 E a4 s4 h4 ++ (wX1 E a5 s5 ++ (wX5 E a6 s6 ++ (wX3 E a7 s7 ++ (wX0 E a8 s8 ++ (wX6 E a9 s9 t9)))))))))) ++ sW E.2.1 L) s.heap.size = A0 at hD0 hA hAB ⊢
  have hDD : ∀ (s0 : St) (s1 : St) (h1 : Option SR) (s2 : St) (h2 : Option SR) (s3 : St) (s4 : St) (h4 : Option SR) (s5 : St) (s6 : St) (s7 : St) (s8 : St) (s9 : St) (t9 : Nat → Nat → Int64), va_D A0 ((wX7o E a0 a1 a2 a3 a4 a5 a6 a7 a8 a9 s0 ++ (wX2 E a1 s1 h1 ++ (wX2 E a2 s2 h2 ++ (wX1 E a3 s3 ++ (wX2 E a4 s4 h4 ++ (wX1 E a5 s5 ++ (wX5 E a6 s6 ++ (wX3 E a7 s7 ++ (wX0 E a8 s8 ++ (wX6 E a9 s9 t9)))))))))) ++ sW E.2.1 L) := fun s0 s1 h1 s2 h2 s3 s4 h4 s5 s6 s7 s8 s9 t9 => vD_addr hD0 rfl
  have hS : va_S A0 s.heap s.heap [] := va_S.rf
  have hl := lv_entry ([.ref (a0 0), .int p1]) (n := 2) (Nat.le_of_ble_eq_true rfl)
  rw [lg_entry_eq]
  generalize (lg_sl ([.ref (a0 0), .int p1]) ++ List.replicate (2 - (lg_sl ([.ref (a0 0), .int p1])).length) Slot.unset).toArray = ls at hl ⊢
  have hl : lv_has ls 2 [(0, .ref (a0 0)), (1, .int p1)] := hl
  refine lv_iload_n hx hb dX7_best_0 rfl (lv_at hl 1 rfl) ?_
  refine lv_if_ne (tgt := 9) hx hb dX7_best_1 (by decide) (fun c_1 => ?_) (fun c_1 => ?_)
  · have hf := ite_f c_1 hf
    refine lv_iload_n hx hb dX7_best_9 rfl (lv_at hl 1 rfl) ?_
    refine lv_iconst (v := 1) hx hb dX7_best_10 (by decide) ?_
    refine lv_icmp_ne (tgt := 19) hx hb dX7_best_11 (by decide) (fun c_11 => ?_) (fun c_11 => ?_)
    · have hf := ite_f c_11 hf
      refine lv_iconst (v := (-1)) hx hb dX7_best_19 (by decide) ?_
      have e9 := Option.some.inj hf
      have h9_0 : s2 = q.2.1 := congrArg (fun z => z.2.1) e9
      have h9_1 : h2 = q.2.2.1 := congrArg (fun z => z.2.2.1) e9
      have h9_2 : s7 = q.2.2.2 := congrArg (fun z => z.2.2.2) e9
      have hP9 : va_P E.1 vwCl ((wX7o E a0 a1 a2 a3 a4 a5 a6 a7 a8 a9 s0 ++ (wX2 E a1 s1 h1 ++ (wX2 E a2 q.2.1 q.2.2.1 ++ (wX1 E a3 s3 ++ (wX2 E a4 s4 h4 ++ (wX1 E a5 s5 ++ (wX5 E a6 s6 ++ (wX3 E a7 q.2.2.2 ++ (wX0 E a8 s8 ++ (wX6 E a9 s9 t9)))))))))) ++ sW E.2.1 L) s.heap := by rw [← h9_0, ← h9_1, ← h9_2]; exact hP
      exact rt_i hx hb hr hlocks (fst_e e9) hP9 hS dX7_best_20
    · have hf := ite_t c_11 hf
      refine lv_aload_n hx hb dX7_best_14 rfl (lv_at hl 0 rfl) ?_
      obtain ⟨q15, hc_15, hf⟩ := cl_e hf
      refine fin_i (E := E) (wc := (wX7o E a0 a1 a2 a3 a4 a5 a6 a7 a8 a9 s0 ++ (wX2 E a1 s1 h1 ++ (wX2 E a2 s2 h2 ++ (wX1 E a3 s3 ++ (wX2 E a4 s4 h4 ++ (wX1 E a5 s5 ++ (wX5 E a6 s6 ++ (wX3 E a7 s7 ++ (wX0 E a8 s8 ++ (wX6 E a9 s9 t9)))))))))) ++ sW E.2.1 L) (wc' := (wX7o E a0 a1 a2 a3 a4 a5 a6 a7 a8 a9 s0 ++ (wX2 E a1 s1 h1 ++ (wX2 E a2 q15.2.1 q15.2.2.1 ++ (wX1 E a3 s3 ++ (wX2 E a4 s4 h4 ++ (wX1 E a5 s5 ++ (wX5 E a6 s6 ++ (wX3 E a7 q15.2.2.2 ++ (wX0 E a8 s8 ++ (wX6 E a9 s9 t9)))))))))) ++ sW E.2.1 L) (va_runV (As := []) (rest := []) ⟨hx, hb, hml, hown, hts⟩ (k_X7_bestBack l E a0 a1 a2 a3 a4 a5 a6 a7 a8 a9 L N s0 s1 h1 s2 h2 s3 s4 h4 s5 s6 s7 s8 s9 t9 q15 hc_15 _) (cwV 0 hts gX7_best_X7_bestBack rfl rfl rfl (by decide +kernel) ⟨(Nat.le_of_ble_eq_true rfl), (Nat.le_of_ble_eq_true rfl)⟩) (pre_v (ci := 7) (q0 := 0) hK hP (hDD s0 s1 h1 s2 h2 s3 s4 h4 s5 s6 s7 s8 s9 t9) hS hG hAB rfl rfl) rfl rfl hl.1 rfl (lv_room (Nat.le_of_ble_eq_true rfl)) dX7_best_15 ⟨Nat.zero_le _, Nat.zero_le _⟩) hS (w_free (hDD s0 s1 h1 s2 h2 s3 s4 h4 s5 s6 s7 s8 s9 t9) hS hA (fun _ h => h)) (fun H locs hP1 hk hS => ?_)
      have hP := hP1
      have e9 := Option.some.inj hf
      have h9_0 : q15.2.1 = q.2.1 := congrArg (fun z => z.2.1) e9
      have h9_1 : q15.2.2.1 = q.2.2.1 := congrArg (fun z => z.2.2.1) e9
      have h9_2 : q15.2.2.2 = q.2.2.2 := congrArg (fun z => z.2.2.2) e9
      have hP9 : va_P E.1 vwCl ((wX7o E a0 a1 a2 a3 a4 a5 a6 a7 a8 a9 s0 ++ (wX2 E a1 s1 h1 ++ (wX2 E a2 q.2.1 q.2.2.1 ++ (wX1 E a3 s3 ++ (wX2 E a4 s4 h4 ++ (wX1 E a5 s5 ++ (wX5 E a6 s6 ++ (wX3 E a7 q.2.2.2 ++ (wX0 E a8 s8 ++ (wX6 E a9 s9 t9)))))))))) ++ sW E.2.1 L) H := by rw [← h9_0, ← h9_1, ← h9_2]; exact hP
      exact rt_i hx hb hr hlocks (fst_e e9) hP9 hS dX7_best_18
  · have hf := ite_t c_1 hf
    refine lv_aload_n hx hb dX7_best_4 rfl (lv_at hl 0 rfl) ?_
    obtain ⟨q5, hc_5, hf⟩ := cl_e hf
    refine fin_i (E := E) (wc := (wX7o E a0 a1 a2 a3 a4 a5 a6 a7 a8 a9 s0 ++ (wX2 E a1 s1 h1 ++ (wX2 E a2 s2 h2 ++ (wX1 E a3 s3 ++ (wX2 E a4 s4 h4 ++ (wX1 E a5 s5 ++ (wX5 E a6 s6 ++ (wX3 E a7 s7 ++ (wX0 E a8 s8 ++ (wX6 E a9 s9 t9)))))))))) ++ sW E.2.1 L) (wc' := (wX7o E a0 a1 a2 a3 a4 a5 a6 a7 a8 a9 s0 ++ (wX2 E a1 s1 h1 ++ (wX2 E a2 q5.2.1 q5.2.2.1 ++ (wX1 E a3 s3 ++ (wX2 E a4 s4 h4 ++ (wX1 E a5 s5 ++ (wX5 E a6 s6 ++ (wX3 E a7 q5.2.2.2 ++ (wX0 E a8 s8 ++ (wX6 E a9 s9 t9)))))))))) ++ sW E.2.1 L) (va_runV (As := []) (rest := []) ⟨hx, hb, hml, hown, hts⟩ (k_X7_bestStart l E a0 a1 a2 a3 a4 a5 a6 a7 a8 a9 L N s0 s1 h1 s2 h2 s3 s4 h4 s5 s6 s7 s8 s9 t9 q5 hc_5 _) (cwV 0 hts gX7_best_X7_bestStart rfl rfl rfl (by decide +kernel) ⟨(Nat.le_of_ble_eq_true rfl), (Nat.le_of_ble_eq_true rfl)⟩) (pre_v (ci := 7) (q0 := 0) hK hP (hDD s0 s1 h1 s2 h2 s3 s4 h4 s5 s6 s7 s8 s9 t9) hS hG hAB rfl rfl) rfl rfl hl.1 rfl (lv_room (Nat.le_of_ble_eq_true rfl)) dX7_best_5 ⟨Nat.zero_le _, Nat.zero_le _⟩) hS (w_free (hDD s0 s1 h1 s2 h2 s3 s4 h4 s5 s6 s7 s8 s9 t9) hS hA (fun _ h => h)) (fun H locs hP1 hk hS => ?_)
    have hP := hP1
    have e9 := Option.some.inj hf
    have h9_0 : q5.2.1 = q.2.1 := congrArg (fun z => z.2.1) e9
    have h9_1 : q5.2.2.1 = q.2.2.1 := congrArg (fun z => z.2.2.1) e9
    have h9_2 : q5.2.2.2 = q.2.2.2 := congrArg (fun z => z.2.2.2) e9
    have hP9 : va_P E.1 vwCl ((wX7o E a0 a1 a2 a3 a4 a5 a6 a7 a8 a9 s0 ++ (wX2 E a1 s1 h1 ++ (wX2 E a2 q.2.1 q.2.2.1 ++ (wX1 E a3 s3 ++ (wX2 E a4 s4 h4 ++ (wX1 E a5 s5 ++ (wX5 E a6 s6 ++ (wX3 E a7 q.2.2.2 ++ (wX0 E a8 s8 ++ (wX6 E a9 s9 t9)))))))))) ++ sW E.2.1 L) H := by rw [← h9_0, ← h9_1, ← h9_2]; exact hP
    exact rt_i hx hb hr hlocks (fst_e e9) hP9 hS dX7_best_8
