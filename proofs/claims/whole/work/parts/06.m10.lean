/-! ===== what the methods compute, and that they do: by program out of the bytecode (wip/gen) ===== -/
abbrev rm_X5_readTest : Room := { frames := 4, cells := 0, slots := 0, locals := 106 }
theorem m_X5_readTest_646be5 : Cond.fieldLink RX5 22 "PickedMatch$StreetReader" "place" "I" ∈ wsX5_readTest := by decide +kernel
theorem i_X5_readTest_X5 : ∀ w ∈ wsX50, w ∈ wsX5_readTest := fun _ h => List.mem_cons_of_mem _ (List.mem_append_right _ h)
theorem m_X5_readTest_3a6745 : Cond.fieldLink RX5 54 "PickedMatch$StreetReader" "number" "I" ∈ wsX5_readTest := by decide +kernel
set_option maxHeartbeats 8000000 in
set_option maxRecDepth 100000 in
theorem k_X5_readTest (l : Launch) (E : Ev) (a0 : Nat → Nat) (N : Nat) (s0 : St) (p1 : Int32) (q : (Int32 × St)) (hf : f_X5_readTest N s0 p1 = some q) : Ci l yX5_readTest wsX5_readTest rm_X5_readTest E [.ref (a0 0), .int p1] (wX5 E a0 s0) (wX5 E a0 q.2) q.1 := by
  unfold f_X5_readTest at hf
  intro sz
  refine Met.ofW (cc := cX5_readTest) (maxL := 5) (ret := (some .boolean)) (by decide) rfl ?_
  intro p e s m args below meth c s₁ B hml hv
  obtain ⟨rfl, hsz, hP, hK, hD0, hG, hA, hAB⟩ := start hv
  have hx := B.exec
  have hb := B.bytes
  have hr := B.returns
  have hts := atoms_spec (ws := wsX5_readTest) B.pre
  have hown : s.vm.findClass RX5 = some m.cls := findClass_of_methodNamed B.named
  have hlocks := B.notSynchronized
  subst hsz
  generalize va_A (wX5 E a0 s0) s.heap.size = A0 at hD0 hA hAB ⊢
  have hDD : ∀ (s0 : St), va_D A0 (wX5 E a0 s0) := fun s0 => vD_addr hD0 rfl
  have hS : va_S A0 s.heap s.heap [] := va_S.rf
  have hl := lv_entry ([.ref (a0 0), .int p1]) (n := 5) (Nat.le_of_ble_eq_true rfl)
  rw [lg_entry_eq]
  generalize (lg_sl ([.ref (a0 0), .int p1]) ++ List.replicate (5 - (lg_sl ([.ref (a0 0), .int p1])).length) Slot.unset).toArray = ls at hl ⊢
  have hl : lv_has ls 5 [(0, .ref (a0 0)), (1, .int p1)] := hl
  have hL_52 : ∀ (s0 : St) (v2 : Int32) (y0 : Int32), j_X5_readTest_52 N s0 v2 y0 = some q → ∀ (H : Heap) (locs : List Loc) (ls : Array Slot), va_P E.1 vwCl (wX5 E a0 s0) H → va_S A0 s.heap H locs → lv_has ls 5 [(0, .ref (a0 0)), (2, .int v2)] → W p l e rm_X5_readTest s m ([.ref (a0 0), .int p1] : List Value).toArray below meth c H locs 0 0 (MQ below (va_Qi (fun (r' : Int32) (_ : Unit) => r' = q.1) (fun _ t => va_P E.1 vwCl (wX5 E a0 q.2) t.heap) A0) ([.ref (a0 0), .int p1] : List Value).toArray s 0 0 A0) (F0 m 52 ls [.int y0]) := by
    intro s0 v2 y0 hf H locs ls hP hS hl
    unfold j_X5_readTest_52 at hf
    refine lv_istore (lv' := [(4, .int y0), (0, .ref (a0 0)), (2, .int v2)]) hx hb dX5_readTest_52 hl (Nat.le_of_ble_eq_true rfl) rfl (fun ls hl => ?_)
    refine lv_iload hx hb dX5_readTest_54 (lv_at hl 0 rfl) ?_
    refine lv_if_ge (tgt := 61) hx hb dX5_readTest_56 (by decide) (fun c_56 => ?_) (fun c_56 => ?_)
    · have hf := ite_t c_56 hf
      refine lv_aload_n hx hb dX5_readTest_61 rfl (lv_at hl 1 rfl) ?_
      refine lv_dup hx hb dX5_readTest_62 rfl ?_
      refine va_get (ci := 5) (C := RX5) (T := TX5) (N := 8) (v := .int (s0 6 0)) hx hb hts i_X5_readTest_X5 hown hK hP 0 rfl rfl 6 (by decide) (hts _ m_X5_readTest_646be5) (fun _ h9 => h9) rfl dX5_readTest_63 ?_
      refine lv_iconst (v := 1) hx hb dX5_readTest_66 (by decide) ?_
      refine lv_iadd hx hb dX5_readTest_67 ?_
      refine va_put (ci := 5) (v := .int ((s0 6 0) + 1)) (ty := .int) (C := RX5) (T := TX5) (N := 8) hx hb hts i_X5_readTest_X5 tyX5 tyX5_ok nmX5 hown hK hP (hDD s0) hS 0 rfl rfl 6 (by decide) (hts _ m_X5_readTest_646be5) (fun _ h9 => h9) rfl (by decide +kernel) rfl rfl (Nat.le_of_ble_eq_true rfl) dX5_readTest_68 (fun H locs hP _ hS => ?_)
      obtain ⟨s0_68, hP, hf⟩ := nm_st' (P := fun z => va_P E.1 vwCl (wX5 E a0 z) H) hf hP
      refine lv_aload_n hx hb dX5_readTest_71 rfl (lv_at hl 1 rfl) ?_
      obtain ⟨q72, hc_72, hf⟩ := cl_e hf
      refine fin_i (E := E) (wc := wX5 E a0 s0_68) (wc' := wX5 E a0 q72.2) (va_runV (As := []) (rest := []) ⟨hx, hb, hml, hown, hts⟩ (k_X5_readNumber l E a0 N s0_68 q72 hc_72 _) (cwV 0 hts gX5_readTest_X5_readNumber rfl rfl rfl (by decide +kernel) ⟨(Nat.le_of_ble_eq_true rfl), (Nat.le_of_ble_eq_true rfl)⟩) (pre_v (ci := 5) (q0 := 0) hK hP (hDD s0_68) hS hG hAB rfl rfl) rfl rfl hl.1 rfl (lv_room (Nat.le_of_ble_eq_true rfl)) dX5_readTest_72 ⟨Nat.zero_le _, Nat.zero_le _⟩) hS (w_free (hDD s0_68) hS hA (fun _ h => h)) (fun H locs hP1 hk hS => ?_)
      have hP := hP1
      refine lv_if_ne (tgt := 80) hx hb dX5_readTest_75 (by decide) (fun c_75 => ?_) (fun c_75 => ?_)
      · have hf := ite_f c_75 hf
        refine lv_aload_n hx hb dX5_readTest_80 rfl (lv_at hl 1 rfl) ?_
        refine lv_sipush (v := 1000) hx hb dX5_readTest_81 (by decide) ?_
        refine lv_iload_n hx hb dX5_readTest_84 rfl (lv_at hl 2 rfl) ?_
        refine lv_sipush (v := 1000) hx hb dX5_readTest_85 (by decide) ?_
        refine lv_imul hx hb dX5_readTest_88 ?_
        refine lv_iadd hx hb dX5_readTest_89 ?_
        refine lv_iload hx hb dX5_readTest_90 (lv_at hl 0 rfl) ?_
        refine lv_bipush (v := 100) hx hb dX5_readTest_92 (by decide) ?_
        refine lv_imul hx hb dX5_readTest_94 ?_
        refine lv_iadd hx hb dX5_readTest_95 ?_
        refine lv_aload_n hx hb dX5_readTest_96 rfl (lv_at hl 1 rfl) ?_
        refine va_get (ci := 5) (C := RX5) (T := TX5) (N := 8) (v := .int (q72.2 7 0)) hx hb hts i_X5_readTest_X5 hown hK hP 0 rfl rfl 7 (by decide) (hts _ m_X5_readTest_3a6745) (fun _ h9 => h9) rfl dX5_readTest_97 ?_
        refine lv_iadd hx hb dX5_readTest_100 ?_
        obtain ⟨q101, hc_101, hf⟩ := cl_e hf
        refine fin_v (E := E) (wc := wX5 E a0 q72.2) (wc' := wX5 E a0 q101) (va_runV (As := [.int (((1000 + (v2 * 1000)) + (y0 * 100)) + (q72.2 7 0))]) (rest := []) ⟨hx, hb, hml, hown, hts⟩ (k_X5_addStep l E a0 N q72.2 (((1000 + (v2 * 1000)) + (y0 * 100)) + (q72.2 7 0)) q101 hc_101 _) (cwV 1 hts gX5_readTest_X5_addStep rfl rfl rfl (by decide +kernel) ⟨(Nat.le_of_ble_eq_true rfl), (Nat.le_of_ble_eq_true rfl)⟩) (pre_v (ci := 5) (q0 := 0) hK hP (hDD q72.2) hS hG hAB rfl rfl) rfl rfl hl.1 rfl (lv_room (Nat.le_of_ble_eq_true rfl)) dX5_readTest_101 ⟨Nat.zero_le _, Nat.zero_le _⟩) hS (w_free (hDD q72.2) hS hA (fun _ h => h)) (fun H locs hP1 hk hS => ?_)
        have hP := hP1
        refine lv_iconst (v := 1) hx hb dX5_readTest_104 (by decide) ?_
        have e9 := Option.some.inj hf
        exact rt_z hx hb hr rfl hlocks (fst_e e9) (rtP (P := fun z => va_P E.1 vwCl (wX5 E a0 z.2) H) e9 hP) hS dX5_readTest_105
      · have hf := ite_t c_75 hf
        refine lv_iconst (v := 0) hx hb dX5_readTest_78 (by decide) ?_
        have e9 := Option.some.inj hf
        exact rt_z hx hb hr rfl hlocks (fst_e e9) (rtP (P := fun z => va_P E.1 vwCl (wX5 E a0 z.2) H) e9 hP) hS dX5_readTest_79
    · have hf := ite_f c_56 hf
      refine lv_iconst (v := 0) hx hb dX5_readTest_59 (by decide) ?_
      have e9 := Option.some.inj hf
      exact rt_z hx hb hr rfl hlocks (fst_e e9) (rtP (P := fun z => va_P E.1 vwCl (wX5 E a0 z.2) H) e9 hP) hS dX5_readTest_60
  have hL_15 : ∀ (s0 : St) (y0 : Int32), j_X5_readTest_15 N s0 y0 = some q → ∀ (H : Heap) (locs : List Loc) (ls : Array Slot), va_P E.1 vwCl (wX5 E a0 s0) H → va_S A0 s.heap H locs → lv_has ls 5 [(0, .ref (a0 0))] → W p l e rm_X5_readTest s m ([.ref (a0 0), .int p1] : List Value).toArray below meth c H locs 0 0 (MQ below (va_Qi (fun (r' : Int32) (_ : Unit) => r' = q.1) (fun _ t => va_P E.1 vwCl (wX5 E a0 q.2) t.heap) A0) ([.ref (a0 0), .int p1] : List Value).toArray s 0 0 A0) (F0 m 15 ls [.int y0]) := by
    intro s0 y0 hf H locs ls hP hS hl
    unfold j_X5_readTest_15 at hf
    refine lv_istore_n (lv' := [(2, .int y0), (0, .ref (a0 0))]) hx hb dX5_readTest_15 rfl hl (Nat.le_of_ble_eq_true rfl) rfl (fun ls hl => ?_)
    refine lv_iload_n hx hb dX5_readTest_16 rfl (lv_at hl 0 rfl) ?_
    refine lv_if_ge (tgt := 22) hx hb dX5_readTest_17 (by decide) (fun c_17 => ?_) (fun c_17 => ?_)
    · have hf := ite_t c_17 hf
      refine lv_aload_n hx hb dX5_readTest_22 rfl (lv_at hl 1 rfl) ?_
      refine lv_dup hx hb dX5_readTest_23 rfl ?_
      refine va_get (ci := 5) (C := RX5) (T := TX5) (N := 8) (v := .int (s0 6 0)) hx hb hts i_X5_readTest_X5 hown hK hP 0 rfl rfl 6 (by decide) (hts _ m_X5_readTest_646be5) (fun _ h9 => h9) rfl dX5_readTest_24 ?_
      refine lv_iconst (v := 1) hx hb dX5_readTest_27 (by decide) ?_
      refine lv_iadd hx hb dX5_readTest_28 ?_
      refine va_put (ci := 5) (v := .int ((s0 6 0) + 1)) (ty := .int) (C := RX5) (T := TX5) (N := 8) hx hb hts i_X5_readTest_X5 tyX5 tyX5_ok nmX5 hown hK hP (hDD s0) hS 0 rfl rfl 6 (by decide) (hts _ m_X5_readTest_646be5) (fun _ h9 => h9) rfl (by decide +kernel) rfl rfl (Nat.le_of_ble_eq_true rfl) dX5_readTest_29 (fun H locs hP _ hS => ?_)
      obtain ⟨s0_29, hP, hf⟩ := nm_st' (P := fun z => va_P E.1 vwCl (wX5 E a0 z) H) hf hP
      refine lv_aload_n hx hb dX5_readTest_32 rfl (lv_at hl 1 rfl) ?_
      obtain ⟨q33, hc_33, hf⟩ := cl_e hf
      refine fin_i (E := E) (wc := wX5 E a0 s0_29) (wc' := wX5 E a0 s0_29) (va_runV (As := []) (rest := []) ⟨hx, hb, hml, hown, hts⟩ (k_X5_nextSign l E a0 N s0_29 q33 hc_33 _) (cwV 0 hts gX5_readTest_X5_nextSign rfl rfl rfl (by decide +kernel) ⟨(Nat.le_of_ble_eq_true rfl), (Nat.le_of_ble_eq_true rfl)⟩) (pre_v (ci := 5) (q0 := 0) hK hP (hDD s0_29) hS hG hAB rfl rfl) rfl rfl hl.1 rfl (lv_room (Nat.le_of_ble_eq_true rfl)) dX5_readTest_33 ⟨Nat.zero_le _, Nat.zero_le _⟩) hS (w_free (hDD s0_29) hS hA (fun _ h => h)) (fun H locs hP1 hk hS => ?_)
      have hP := hP1
      refine lv_istore_n (lv' := [(3, .int q33), (2, .int y0), (0, .ref (a0 0))]) hx hb dX5_readTest_36 rfl hl (Nat.le_of_ble_eq_true rfl) rfl (fun ls hl => ?_)
      refine lv_iload_n hx hb dX5_readTest_37 rfl (lv_at hl 0 rfl) ?_
      refine lv_if_ge (tgt := 45) hx hb dX5_readTest_38 (by decide) (fun c_38 => ?_) (fun c_38 => ?_)
      · have hf := ite_t c_38 hf
        refine va_ldcS hx hb hown (hG.2.1 (109, "<=>", 6) (by decide)) dX5_readTest_45 ?_
        refine lv_iload_n hx hb dX5_readTest_47 rfl (lv_at hl 0 rfl) ?_
        refine lv_i2c (v := (q33.toUInt32 % 65536).toInt32) hx hb dX5_readTest_48 rfl ?_
        obtain ⟨q49, hc_49, hf⟩ := cl_e hf
        have hw_49 : 6 < 7 := by decide
        have hk_49 := hG.2.2.1.2.2.2.2.1 6 hw_49
        refine fin_i (E := E) (wc := ([] : va_W)) (wc' := ([] : va_W)) (va_runV (As := [.int ((q33.toUInt32 % 65536).toInt32)]) (rest := []) ⟨hx, hb, hml, hown, hts⟩ (k_J0_indexOf_0f7a4 l E N 6 ((q33.toUInt32 % 65536).toInt32) q49 hc_49 _) (cwV 1 hts gX5_readTest_J0_indexOf_0f7a4 rfl rfl rfl (by decide +kernel) ⟨(Nat.le_of_ble_eq_true rfl), (Nat.le_of_ble_eq_true rfl)⟩) (pre_k hK va_P_nil va_D_nil hS hG hAB hw_49) rfl rfl hl.1 rfl (lv_room (Nat.le_of_ble_eq_true rfl)) dX5_readTest_49 ⟨Nat.zero_le _, Nat.zero_le _⟩) hS (free_nil hS hA) (fun H locs hP1 hk hS => ?_)
        have hP := w_kept0 hP hk
        exact hL_52 s0_29 y0 q49 hf _ _ _ hP hS (lv_sub hl [2, 1] rfl)
      · have hf := ite_f c_38 hf
        refine lv_iconst (v := (-1)) hx hb dX5_readTest_41 (by decide) ?_
        refine lv_goto (tgt := 52) hx hb dX5_readTest_42 (by decide) ?_
        exact hL_52 s0_29 y0 (-1) hf _ _ _ hP hS (lv_sub hl [2, 1] rfl)
    · have hf := ite_f c_17 hf
      refine lv_iconst (v := 0) hx hb dX5_readTest_20 (by decide) ?_
      have e9 := Option.some.inj hf
      exact rt_z hx hb hr rfl hlocks (fst_e e9) (rtP (P := fun z => va_P E.1 vwCl (wX5 E a0 z.2) H) e9 hP) hS dX5_readTest_21
  refine lv_iload_n hx hb dX5_readTest_0 rfl (lv_at hl 1 rfl) ?_
  refine lv_if_ge (tgt := 8) hx hb dX5_readTest_1 (by decide) (fun c_1 => ?_) (fun c_1 => ?_)
  · have hf := ite_t c_1 hf
    refine va_ldcS hx hb hown (hG.2.1 (103, "tkvmwd", 5) (by decide)) dX5_readTest_8 ?_
    refine lv_iload_n hx hb dX5_readTest_10 rfl (lv_at hl 1 rfl) ?_
    refine lv_i2c (v := (p1.toUInt32 % 65536).toInt32) hx hb dX5_readTest_11 rfl ?_
    obtain ⟨q12, hc_12, hf⟩ := cl_e hf
    have hw_12 : 5 < 7 := by decide
    have hk_12 := hG.2.2.1.2.2.2.2.1 5 hw_12
    refine fin_i (E := E) (wc := ([] : va_W)) (wc' := ([] : va_W)) (va_runV (As := [.int ((p1.toUInt32 % 65536).toInt32)]) (rest := []) ⟨hx, hb, hml, hown, hts⟩ (k_J0_indexOf_0f7a4 l E N 5 ((p1.toUInt32 % 65536).toInt32) q12 hc_12 _) (cwV 1 hts gX5_readTest_J0_indexOf_0f7a4 rfl rfl rfl (by decide +kernel) ⟨(Nat.le_of_ble_eq_true rfl), (Nat.le_of_ble_eq_true rfl)⟩) (pre_k hK va_P_nil va_D_nil hS hG hAB hw_12) rfl rfl hl.1 rfl (lv_room (Nat.le_of_ble_eq_true rfl)) dX5_readTest_12 ⟨Nat.zero_le _, Nat.zero_le _⟩) hS (free_nil hS hA) (fun H locs hP1 hk hS => ?_)
    have hP := w_kept0 hP hk
    exact hL_15 s0 q12 hf _ _ _ hP hS (lv_sub hl [0] rfl)
  · have hf := ite_f c_1 hf
    refine lv_iconst (v := (-1)) hx hb dX5_readTest_4 (by decide) ?_
    refine lv_goto (tgt := 15) hx hb dX5_readTest_5 (by decide) ?_
    exact hL_15 s0 (-1) hf _ _ _ hP hS (lv_sub hl [0] rfl)
