/-! ===== what the methods compute, and that they do: by program out of the bytecode (wip/gen) ===== -/
abbrev rm_X1_becomeAs : Room := { frames := 1, cells := 0, slots := 0, locals := 60 }
theorem m_X1_becomeAs_b789e5 : Cond.fieldLink RX1 11 "PickedMatch$Notes" "seenThings" "[I" ∈ wsX1_becomeAs := by decide +kernel
theorem i_X1_becomeAs_X1 : ∀ w ∈ wsX10, w ∈ wsX1_becomeAs := fun _ h => List.mem_cons_of_mem _ (List.mem_append_right _ h)
theorem m_X1_becomeAs_f1b323 : Cond.methodLink RX1 33 arraycopyName ∈ wsX1_becomeAs := by decide +kernel
theorem m_X1_becomeAs_66773d : Cond.native arraycopyName ∈ wsX1_becomeAs := by decide +kernel
theorem m_X1_becomeAs_30dbde : Cond.static arraycopyName ∈ wsX1_becomeAs := by decide +kernel
theorem m_X1_becomeAs_3f8a6f : Cond.initialized "java/lang/System" ∈ wsX1_becomeAs := by decide +kernel
theorem m_X1_becomeAs_99651a : Cond.fieldLink RX1 15 "PickedMatch$Notes" "seenHad" "[I" ∈ wsX1_becomeAs := by decide +kernel
theorem m_X1_becomeAs_47dabf : Cond.fieldLink RX1 18 "PickedMatch$Notes" "seenDays" "[I" ∈ wsX1_becomeAs := by decide +kernel
theorem m_X1_becomeAs_337192 : Cond.fieldLink RX1 39 "PickedMatch$Notes" "seenCount" "I" ∈ wsX1_becomeAs := by decide +kernel
theorem m_X1_becomeAs_fa8294 : Cond.fieldLink RX1 21 "PickedMatch$Notes" "weekWhats" "[I" ∈ wsX1_becomeAs := by decide +kernel
theorem m_X1_becomeAs_e96de6 : Cond.fieldLink RX1 24 "PickedMatch$Notes" "weekThings" "[I" ∈ wsX1_becomeAs := by decide +kernel
theorem m_X1_becomeAs_3b5e97 : Cond.fieldLink RX1 43 "PickedMatch$Notes" "weekCount" "I" ∈ wsX1_becomeAs := by decide +kernel
theorem m_X1_becomeAs_1d838a : Cond.fieldLink RX1 27 "PickedMatch$Notes" "bookThings" "[I" ∈ wsX1_becomeAs := by decide +kernel
theorem m_X1_becomeAs_0bdb7a : Cond.fieldLink RX1 30 "PickedMatch$Notes" "bookMarks" "[I" ∈ wsX1_becomeAs := by decide +kernel
theorem m_X1_becomeAs_197e65 : Cond.fieldLink RX1 46 "PickedMatch$Notes" "bookCount" "I" ∈ wsX1_becomeAs := by decide +kernel
set_option maxHeartbeats 8000000 in
set_option maxRecDepth 100000 in
theorem k_X1_becomeAs (l : Launch) (E : Ev) (a0 : Nat → Nat) (a1 : Nat → Nat) (N : Nat) (s0 : St) (s1 : St) (q : (St)) (hf : f_X1_becomeAs N s0 s1 = some q) : Cv l yX1_becomeAs wsX1_becomeAs rm_X1_becomeAs E [.ref (a0 0), .ref (a1 0)] (wX1 E a0 s0 ++ (wX1 E a1 s1)) (wX1 E a0 q ++ (wX1 E a1 s1)) := by
  unfold f_X1_becomeAs at hf
  intro sz
  refine Met.ofW (cc := cX1_becomeAs) (maxL := 2) (ret := none) (by decide) rfl ?_
  intro p e s m args below meth c s₁ B hml hv
  obtain ⟨rfl, hsz, hP, hK, hD0, hG, hA, hAB⟩ := start hv
  have hx := B.exec
  have hb := B.bytes
  have hr := B.returns
  have hts := atoms_spec (ws := wsX1_becomeAs) B.pre
  have hown : s.vm.findClass RX1 = some m.cls := findClass_of_methodNamed B.named
  have hlocks := B.notSynchronized
  subst hsz
  generalize va_A (wX1 E a0 s0 ++ (wX1 E a1 s1)) s.heap.size = A0 at hD0 hA hAB ⊢
  have hDD : ∀ (s0 : St) (s1 : St), va_D A0 (wX1 E a0 s0 ++ (wX1 E a1 s1)) := fun s0 s1 => vD_addr hD0 rfl
  have hS : va_S A0 s.heap s.heap [] := va_S.rf
  have hl := lv_entry ([.ref (a0 0), .ref (a1 0)]) (n := 2) (Nat.le_of_ble_eq_true rfl)
  rw [lg_entry_eq]
  generalize (lg_sl ([.ref (a0 0), .ref (a1 0)]) ++ List.replicate (2 - (lg_sl ([.ref (a0 0), .ref (a1 0)])).length) Slot.unset).toArray = ls at hl ⊢
  have hl : lv_has ls 2 [(0, .ref (a0 0)), (1, .ref (a1 0))] := hl
  refine lv_aload_n hx hb dX1_becomeAs_0 rfl (lv_at hl 1 rfl) ?_
  refine va_get (ci := 1) (C := RX1) (T := TX1) (N := 10) (v := .ref (a1 1)) hx hb hts i_X1_becomeAs_X1 hown hK hP 8 rfl rfl 0 (by decide) (hts _ m_X1_becomeAs_b789e5) (fun _ h9 => h9) rfl dX1_becomeAs_1 ?_
  refine lv_iconst (v := 0) hx hb dX1_becomeAs_4 (by decide) ?_
  refine lv_aload_n hx hb dX1_becomeAs_5 rfl (lv_at hl 0 rfl) ?_
  refine va_get (ci := 1) (C := RX1) (T := TX1) (N := 10) (v := .ref (a0 1)) hx hb hts i_X1_becomeAs_X1 hown hK hP 0 rfl rfl 0 (by decide) (hts _ m_X1_becomeAs_b789e5) (fun _ h9 => h9) rfl dX1_becomeAs_6 ?_
  refine lv_iconst (v := 0) hx hb dX1_becomeAs_9 (by decide) ?_
  refine lv_iconst (v := 5) hx hb dX1_becomeAs_10 (by decide) ?_
  obtain ⟨⟨k1_11, k2_11, k3_11, k4_11, k5_11⟩, hf⟩ := cpy_e hf
  refine va_copyi (f := s1 0) (g := s0 0) hx hb (by rw [hml]; exact hl.1.symm) hown (hts _ m_X1_becomeAs_f1b323) (hts _ m_X1_becomeAs_66773d) (hts _ m_X1_becomeAs_30dbde) (hts _ m_X1_becomeAs_3f8a6f) hK hP (hDD s0 s1) hS 9 1 0 0 rfl rfl rfl rfl rfl k1_11 k2_11 k3_11 k4_11 k5_11 (fun _ _ => rfl) (Nat.le_of_ble_eq_true rfl) (Nat.le_of_ble_eq_true rfl) dX1_becomeAs_11 (fun H locs hP _ hS => ?_)
  obtain ⟨s0_11, hP, hf⟩ := nm_st' (P := fun z => va_P E.1 vwCl (wX1 E a0 z ++ (wX1 E a1 s1)) H) hf hP
  refine lv_aload_n hx hb dX1_becomeAs_14 rfl (lv_at hl 1 rfl) ?_
  refine va_get (ci := 1) (C := RX1) (T := TX1) (N := 10) (v := .ref (a1 2)) hx hb hts i_X1_becomeAs_X1 hown hK hP 8 rfl rfl 1 (by decide) (hts _ m_X1_becomeAs_99651a) (fun _ h9 => h9) rfl dX1_becomeAs_15 ?_
  refine lv_iconst (v := 0) hx hb dX1_becomeAs_18 (by decide) ?_
  refine lv_aload_n hx hb dX1_becomeAs_19 rfl (lv_at hl 0 rfl) ?_
  refine va_get (ci := 1) (C := RX1) (T := TX1) (N := 10) (v := .ref (a0 2)) hx hb hts i_X1_becomeAs_X1 hown hK hP 0 rfl rfl 1 (by decide) (hts _ m_X1_becomeAs_99651a) (fun _ h9 => h9) rfl dX1_becomeAs_20 ?_
  refine lv_iconst (v := 0) hx hb dX1_becomeAs_23 (by decide) ?_
  refine lv_iconst (v := 5) hx hb dX1_becomeAs_24 (by decide) ?_
  obtain ⟨⟨k1_25, k2_25, k3_25, k4_25, k5_25⟩, hf⟩ := cpy_e hf
  refine va_copyi (f := s1 1) (g := s0_11 1) hx hb (by rw [hml]; exact hl.1.symm) hown (hts _ m_X1_becomeAs_f1b323) (hts _ m_X1_becomeAs_66773d) (hts _ m_X1_becomeAs_30dbde) (hts _ m_X1_becomeAs_3f8a6f) hK hP (hDD s0_11 s1) hS 10 2 0 0 rfl rfl rfl rfl rfl k1_25 k2_25 k3_25 k4_25 k5_25 (fun _ _ => rfl) (Nat.le_of_ble_eq_true rfl) (Nat.le_of_ble_eq_true rfl) dX1_becomeAs_25 (fun H locs hP _ hS => ?_)
  obtain ⟨s0_25, hP, hf⟩ := nm_st' (P := fun z => va_P E.1 vwCl (wX1 E a0 z ++ (wX1 E a1 s1)) H) hf hP
  refine lv_aload_n hx hb dX1_becomeAs_28 rfl (lv_at hl 1 rfl) ?_
  refine va_get (ci := 1) (C := RX1) (T := TX1) (N := 10) (v := .ref (a1 3)) hx hb hts i_X1_becomeAs_X1 hown hK hP 8 rfl rfl 2 (by decide) (hts _ m_X1_becomeAs_47dabf) (fun _ h9 => h9) rfl dX1_becomeAs_29 ?_
  refine lv_iconst (v := 0) hx hb dX1_becomeAs_32 (by decide) ?_
  refine lv_aload_n hx hb dX1_becomeAs_33 rfl (lv_at hl 0 rfl) ?_
  refine va_get (ci := 1) (C := RX1) (T := TX1) (N := 10) (v := .ref (a0 3)) hx hb hts i_X1_becomeAs_X1 hown hK hP 0 rfl rfl 2 (by decide) (hts _ m_X1_becomeAs_47dabf) (fun _ h9 => h9) rfl dX1_becomeAs_34 ?_
  refine lv_iconst (v := 0) hx hb dX1_becomeAs_37 (by decide) ?_
  refine lv_iconst (v := 5) hx hb dX1_becomeAs_38 (by decide) ?_
  obtain ⟨⟨k1_39, k2_39, k3_39, k4_39, k5_39⟩, hf⟩ := cpy_e hf
  refine va_copyi (f := s1 2) (g := s0_25 2) hx hb (by rw [hml]; exact hl.1.symm) hown (hts _ m_X1_becomeAs_f1b323) (hts _ m_X1_becomeAs_66773d) (hts _ m_X1_becomeAs_30dbde) (hts _ m_X1_becomeAs_3f8a6f) hK hP (hDD s0_25 s1) hS 11 3 0 0 rfl rfl rfl rfl rfl k1_39 k2_39 k3_39 k4_39 k5_39 (fun _ _ => rfl) (Nat.le_of_ble_eq_true rfl) (Nat.le_of_ble_eq_true rfl) dX1_becomeAs_39 (fun H locs hP _ hS => ?_)
  obtain ⟨s0_39, hP, hf⟩ := nm_st' (P := fun z => va_P E.1 vwCl (wX1 E a0 z ++ (wX1 E a1 s1)) H) hf hP
  refine lv_aload_n hx hb dX1_becomeAs_42 rfl (lv_at hl 0 rfl) ?_
  refine lv_aload_n hx hb dX1_becomeAs_43 rfl (lv_at hl 1 rfl) ?_
  refine va_get (ci := 1) (C := RX1) (T := TX1) (N := 10) (v := .int (s1 3 0)) hx hb hts i_X1_becomeAs_X1 hown hK hP 8 rfl rfl 3 (by decide) (hts _ m_X1_becomeAs_337192) (fun _ h9 => h9) rfl dX1_becomeAs_44 ?_
  refine va_put (ci := 1) (v := .int (s1 3 0)) (ty := .int) (C := RX1) (T := TX1) (N := 10) hx hb hts i_X1_becomeAs_X1 tyX1 tyX1_ok nmX1 hown hK hP (hDD s0_39 s1) hS 0 rfl rfl 3 (by decide) (hts _ m_X1_becomeAs_337192) (fun _ h9 => h9) rfl (by decide +kernel) rfl rfl (Nat.le_of_ble_eq_true rfl) dX1_becomeAs_47 (fun H locs hP _ hS => ?_)
  obtain ⟨s0_47, hP, hf⟩ := nm_st' (P := fun z => va_P E.1 vwCl (wX1 E a0 z ++ (wX1 E a1 s1)) H) hf hP
  refine lv_aload_n hx hb dX1_becomeAs_50 rfl (lv_at hl 1 rfl) ?_
  refine va_get (ci := 1) (C := RX1) (T := TX1) (N := 10) (v := .ref (a1 4)) hx hb hts i_X1_becomeAs_X1 hown hK hP 8 rfl rfl 4 (by decide) (hts _ m_X1_becomeAs_fa8294) (fun _ h9 => h9) rfl dX1_becomeAs_51 ?_
  refine lv_iconst (v := 0) hx hb dX1_becomeAs_54 (by decide) ?_
  refine lv_aload_n hx hb dX1_becomeAs_55 rfl (lv_at hl 0 rfl) ?_
  refine va_get (ci := 1) (C := RX1) (T := TX1) (N := 10) (v := .ref (a0 4)) hx hb hts i_X1_becomeAs_X1 hown hK hP 0 rfl rfl 4 (by decide) (hts _ m_X1_becomeAs_fa8294) (fun _ h9 => h9) rfl dX1_becomeAs_56 ?_
  refine lv_iconst (v := 0) hx hb dX1_becomeAs_59 (by decide) ?_
  refine lv_bipush (v := 10) hx hb dX1_becomeAs_60 (by decide) ?_
  obtain ⟨⟨k1_62, k2_62, k3_62, k4_62, k5_62⟩, hf⟩ := cpy_e hf
  refine va_copyi (f := s1 4) (g := s0_47 4) hx hb (by rw [hml]; exact hl.1.symm) hown (hts _ m_X1_becomeAs_f1b323) (hts _ m_X1_becomeAs_66773d) (hts _ m_X1_becomeAs_30dbde) (hts _ m_X1_becomeAs_3f8a6f) hK hP (hDD s0_47 s1) hS 12 4 0 0 rfl rfl rfl rfl rfl k1_62 k2_62 k3_62 k4_62 k5_62 (fun _ _ => rfl) (Nat.le_of_ble_eq_true rfl) (Nat.le_of_ble_eq_true rfl) dX1_becomeAs_62 (fun H locs hP _ hS => ?_)
  obtain ⟨s0_62, hP, hf⟩ := nm_st' (P := fun z => va_P E.1 vwCl (wX1 E a0 z ++ (wX1 E a1 s1)) H) hf hP
  refine lv_aload_n hx hb dX1_becomeAs_65 rfl (lv_at hl 1 rfl) ?_
  refine va_get (ci := 1) (C := RX1) (T := TX1) (N := 10) (v := .ref (a1 5)) hx hb hts i_X1_becomeAs_X1 hown hK hP 8 rfl rfl 5 (by decide) (hts _ m_X1_becomeAs_e96de6) (fun _ h9 => h9) rfl dX1_becomeAs_66 ?_
  refine lv_iconst (v := 0) hx hb dX1_becomeAs_69 (by decide) ?_
  refine lv_aload_n hx hb dX1_becomeAs_70 rfl (lv_at hl 0 rfl) ?_
  refine va_get (ci := 1) (C := RX1) (T := TX1) (N := 10) (v := .ref (a0 5)) hx hb hts i_X1_becomeAs_X1 hown hK hP 0 rfl rfl 5 (by decide) (hts _ m_X1_becomeAs_e96de6) (fun _ h9 => h9) rfl dX1_becomeAs_71 ?_
  refine lv_iconst (v := 0) hx hb dX1_becomeAs_74 (by decide) ?_
  refine lv_bipush (v := 10) hx hb dX1_becomeAs_75 (by decide) ?_
  obtain ⟨⟨k1_77, k2_77, k3_77, k4_77, k5_77⟩, hf⟩ := cpy_e hf
  refine va_copyi (f := s1 5) (g := s0_62 5) hx hb (by rw [hml]; exact hl.1.symm) hown (hts _ m_X1_becomeAs_f1b323) (hts _ m_X1_becomeAs_66773d) (hts _ m_X1_becomeAs_30dbde) (hts _ m_X1_becomeAs_3f8a6f) hK hP (hDD s0_62 s1) hS 13 5 0 0 rfl rfl rfl rfl rfl k1_77 k2_77 k3_77 k4_77 k5_77 (fun _ _ => rfl) (Nat.le_of_ble_eq_true rfl) (Nat.le_of_ble_eq_true rfl) dX1_becomeAs_77 (fun H locs hP _ hS => ?_)
  obtain ⟨s0_77, hP, hf⟩ := nm_st' (P := fun z => va_P E.1 vwCl (wX1 E a0 z ++ (wX1 E a1 s1)) H) hf hP
  refine lv_aload_n hx hb dX1_becomeAs_80 rfl (lv_at hl 0 rfl) ?_
  refine lv_aload_n hx hb dX1_becomeAs_81 rfl (lv_at hl 1 rfl) ?_
  refine va_get (ci := 1) (C := RX1) (T := TX1) (N := 10) (v := .int (s1 6 0)) hx hb hts i_X1_becomeAs_X1 hown hK hP 8 rfl rfl 6 (by decide) (hts _ m_X1_becomeAs_3b5e97) (fun _ h9 => h9) rfl dX1_becomeAs_82 ?_
  refine va_put (ci := 1) (v := .int (s1 6 0)) (ty := .int) (C := RX1) (T := TX1) (N := 10) hx hb hts i_X1_becomeAs_X1 tyX1 tyX1_ok nmX1 hown hK hP (hDD s0_77 s1) hS 0 rfl rfl 6 (by decide) (hts _ m_X1_becomeAs_3b5e97) (fun _ h9 => h9) rfl (by decide +kernel) rfl rfl (Nat.le_of_ble_eq_true rfl) dX1_becomeAs_85 (fun H locs hP _ hS => ?_)
  obtain ⟨s0_85, hP, hf⟩ := nm_st' (P := fun z => va_P E.1 vwCl (wX1 E a0 z ++ (wX1 E a1 s1)) H) hf hP
  refine lv_aload_n hx hb dX1_becomeAs_88 rfl (lv_at hl 1 rfl) ?_
  refine va_get (ci := 1) (C := RX1) (T := TX1) (N := 10) (v := .ref (a1 6)) hx hb hts i_X1_becomeAs_X1 hown hK hP 8 rfl rfl 7 (by decide) (hts _ m_X1_becomeAs_1d838a) (fun _ h9 => h9) rfl dX1_becomeAs_89 ?_
  refine lv_iconst (v := 0) hx hb dX1_becomeAs_92 (by decide) ?_
  refine lv_aload_n hx hb dX1_becomeAs_93 rfl (lv_at hl 0 rfl) ?_
  refine va_get (ci := 1) (C := RX1) (T := TX1) (N := 10) (v := .ref (a0 6)) hx hb hts i_X1_becomeAs_X1 hown hK hP 0 rfl rfl 7 (by decide) (hts _ m_X1_becomeAs_1d838a) (fun _ h9 => h9) rfl dX1_becomeAs_94 ?_
  refine lv_iconst (v := 0) hx hb dX1_becomeAs_97 (by decide) ?_
  refine lv_bipush (v := 8) hx hb dX1_becomeAs_98 (by decide) ?_
  obtain ⟨⟨k1_100, k2_100, k3_100, k4_100, k5_100⟩, hf⟩ := cpy_e hf
  refine va_copyi (f := s1 7) (g := s0_85 7) hx hb (by rw [hml]; exact hl.1.symm) hown (hts _ m_X1_becomeAs_f1b323) (hts _ m_X1_becomeAs_66773d) (hts _ m_X1_becomeAs_30dbde) (hts _ m_X1_becomeAs_3f8a6f) hK hP (hDD s0_85 s1) hS 14 6 0 0 rfl rfl rfl rfl rfl k1_100 k2_100 k3_100 k4_100 k5_100 (fun _ _ => rfl) (Nat.le_of_ble_eq_true rfl) (Nat.le_of_ble_eq_true rfl) dX1_becomeAs_100 (fun H locs hP _ hS => ?_)
  obtain ⟨s0_100, hP, hf⟩ := nm_st' (P := fun z => va_P E.1 vwCl (wX1 E a0 z ++ (wX1 E a1 s1)) H) hf hP
  refine lv_aload_n hx hb dX1_becomeAs_103 rfl (lv_at hl 1 rfl) ?_
  refine va_get (ci := 1) (C := RX1) (T := TX1) (N := 10) (v := .ref (a1 7)) hx hb hts i_X1_becomeAs_X1 hown hK hP 8 rfl rfl 8 (by decide) (hts _ m_X1_becomeAs_0bdb7a) (fun _ h9 => h9) rfl dX1_becomeAs_104 ?_
  refine lv_iconst (v := 0) hx hb dX1_becomeAs_107 (by decide) ?_
  refine lv_aload_n hx hb dX1_becomeAs_108 rfl (lv_at hl 0 rfl) ?_
  refine va_get (ci := 1) (C := RX1) (T := TX1) (N := 10) (v := .ref (a0 7)) hx hb hts i_X1_becomeAs_X1 hown hK hP 0 rfl rfl 8 (by decide) (hts _ m_X1_becomeAs_0bdb7a) (fun _ h9 => h9) rfl dX1_becomeAs_109 ?_
  refine lv_iconst (v := 0) hx hb dX1_becomeAs_112 (by decide) ?_
  refine lv_bipush (v := 8) hx hb dX1_becomeAs_113 (by decide) ?_
  obtain ⟨⟨k1_115, k2_115, k3_115, k4_115, k5_115⟩, hf⟩ := cpy_e hf
  refine va_copyi (f := s1 8) (g := s0_100 8) hx hb (by rw [hml]; exact hl.1.symm) hown (hts _ m_X1_becomeAs_f1b323) (hts _ m_X1_becomeAs_66773d) (hts _ m_X1_becomeAs_30dbde) (hts _ m_X1_becomeAs_3f8a6f) hK hP (hDD s0_100 s1) hS 15 7 0 0 rfl rfl rfl rfl rfl k1_115 k2_115 k3_115 k4_115 k5_115 (fun _ _ => rfl) (Nat.le_of_ble_eq_true rfl) (Nat.le_of_ble_eq_true rfl) dX1_becomeAs_115 (fun H locs hP _ hS => ?_)
  obtain ⟨s0_115, hP, hf⟩ := nm_st' (P := fun z => va_P E.1 vwCl (wX1 E a0 z ++ (wX1 E a1 s1)) H) hf hP
  refine lv_aload_n hx hb dX1_becomeAs_118 rfl (lv_at hl 0 rfl) ?_
  refine lv_aload_n hx hb dX1_becomeAs_119 rfl (lv_at hl 1 rfl) ?_
  refine va_get (ci := 1) (C := RX1) (T := TX1) (N := 10) (v := .int (s1 9 0)) hx hb hts i_X1_becomeAs_X1 hown hK hP 8 rfl rfl 9 (by decide) (hts _ m_X1_becomeAs_197e65) (fun _ h9 => h9) rfl dX1_becomeAs_120 ?_
  refine va_put (ci := 1) (v := .int (s1 9 0)) (ty := .int) (C := RX1) (T := TX1) (N := 10) hx hb hts i_X1_becomeAs_X1 tyX1 tyX1_ok nmX1 hown hK hP (hDD s0_115 s1) hS 0 rfl rfl 9 (by decide) (hts _ m_X1_becomeAs_197e65) (fun _ h9 => h9) rfl (by decide +kernel) rfl rfl (Nat.le_of_ble_eq_true rfl) dX1_becomeAs_123 (fun H locs hP _ hS => ?_)
  obtain ⟨s0_123, hP, hf⟩ := nm_st' (P := fun z => va_P E.1 vwCl (wX1 E a0 z ++ (wX1 E a1 s1)) H) hf hP
  have e9 := Option.some.inj hf
  exact rt_v hx hb hr hlocks (rtP (P := fun z => va_P E.1 vwCl (wX1 E a0 z ++ (wX1 E a1 s1)) H) e9 hP) hS dX1_becomeAs_126
abbrev rm_X1_addSeen : Room := { frames := 0, cells := 0, slots := 0, locals := 0 }
theorem m_X1_addSeen_47dabf : Cond.fieldLink RX1 18 "PickedMatch$Notes" "seenDays" "[I" ∈ wsX1_addSeen := by decide +kernel
theorem i_X1_addSeen_X1 : ∀ w ∈ wsX10, w ∈ wsX1_addSeen := fun _ h => List.mem_cons_of_mem _ (List.mem_append_right _ h)
theorem m_X1_addSeen_337192 : Cond.fieldLink RX1 39 "PickedMatch$Notes" "seenCount" "I" ∈ wsX1_addSeen := by decide +kernel
theorem m_X1_addSeen_b789e5 : Cond.fieldLink RX1 11 "PickedMatch$Notes" "seenThings" "[I" ∈ wsX1_addSeen := by decide +kernel
theorem m_X1_addSeen_99651a : Cond.fieldLink RX1 15 "PickedMatch$Notes" "seenHad" "[I" ∈ wsX1_addSeen := by decide +kernel
set_option maxHeartbeats 8000000 in
set_option maxRecDepth 100000 in
theorem k_X1_addSeen (l : Launch) (E : Ev) (a0 : Nat → Nat) (N : Nat) (s0 : St) (p1 : Int32) (p2 : Int32) (p3 : Int32) (q : (Int32 × St)) (hf : f_X1_addSeen N s0 p1 p2 p3 = some q) : Ci l yX1_addSeen wsX1_addSeen rm_X1_addSeen E [.ref (a0 0), .int p1, .int p2, .int p3] (wX1 E a0 s0) (wX1 E a0 q.2) q.1 := by
  unfold f_X1_addSeen at hf
  intro sz
  refine Met.ofW (cc := cX1_addSeen) (maxL := 4) (ret := (some .int)) (by decide) rfl ?_
  intro p e s m args below meth c s₁ B hml hv
  obtain ⟨rfl, hsz, hP, hK, hD0, hG, hA, hAB⟩ := start hv
  have hx := B.exec
  have hb := B.bytes
  have hr := B.returns
  have hts := atoms_spec (ws := wsX1_addSeen) B.pre
  have hown : s.vm.findClass RX1 = some m.cls := findClass_of_methodNamed B.named
  have hlocks := B.notSynchronized
  subst hsz
  generalize va_A (wX1 E a0 s0) s.heap.size = A0 at hD0 hA hAB ⊢
  have hDD : ∀ (s0 : St), va_D A0 (wX1 E a0 s0) := fun s0 => vD_addr hD0 rfl
  have hS : va_S A0 s.heap s.heap [] := va_S.rf
  have hl := lv_entry ([.ref (a0 0), .int p1, .int p2, .int p3]) (n := 4) (Nat.le_of_ble_eq_true rfl)
  rw [lg_entry_eq]
  generalize (lg_sl ([.ref (a0 0), .int p1, .int p2, .int p3]) ++ List.replicate (4 - (lg_sl ([.ref (a0 0), .int p1, .int p2, .int p3])).length) Slot.unset).toArray = ls at hl ⊢
  have hl : lv_has ls 4 [(0, .ref (a0 0)), (1, .int p1), (2, .int p2), (3, .int p3)] := hl
  have hL_35 : ∀ (s0 : St) (v3 : Int32) (y0 : Int32) (y1 : Int32), j_X1_addSeen_35 N s0 v3 y0 y1 = some q → ∀ (H : Heap) (locs : List Loc) (ls : Array Slot), va_P E.1 vwCl (wX1 E a0 s0) H → va_S A0 s.heap H locs → lv_has ls 4 [(0, .ref (a0 0)), (3, .int v3)] → W p l e rm_X1_addSeen s m ([.ref (a0 0), .int p1, .int p2, .int p3] : List Value).toArray below meth c H locs 0 0 (MQ below (va_Qi (fun (r' : Int32) (_ : Unit) => r' = q.1) (fun _ t => va_P E.1 vwCl (wX1 E a0 q.2) t.heap) A0) ([.ref (a0 0), .int p1, .int p2, .int p3] : List Value).toArray s 0 0 A0) (F0 m 35 ls [.int y0, .int y1, .ref (a0 2)]) := by
    intro s0 v3 y0 y1 hf H locs ls hP hS hl
    unfold j_X1_addSeen_35 at hf
    obtain ⟨h_35, hf⟩ := ck_e hf
    refine va_iast (cA := E.2.1) (n := 5) (f := s0 1) (x := y0) hx hb hK hP (hDD s0) hS 2 0 rfl rfl h_35 dX1_addSeen_35 (fun H locs hP _ hS => ?_)
    obtain ⟨s0_35, hP, hf⟩ := nm_st' (P := fun z => va_P E.1 vwCl (wX1 E a0 z) H) hf hP
    refine lv_aload_n hx hb dX1_addSeen_36 rfl (lv_at hl 0 rfl) ?_
    refine va_get (ci := 1) (C := RX1) (T := TX1) (N := 10) (v := .ref (a0 3)) hx hb hts i_X1_addSeen_X1 hown hK hP 0 rfl rfl 2 (by decide) (hts _ m_X1_addSeen_47dabf) (fun _ h9 => h9) rfl dX1_addSeen_37 ?_
    refine lv_aload_n hx hb dX1_addSeen_40 rfl (lv_at hl 0 rfl) ?_
    refine va_get (ci := 1) (C := RX1) (T := TX1) (N := 10) (v := .int (s0_35 3 0)) hx hb hts i_X1_addSeen_X1 hown hK hP 0 rfl rfl 3 (by decide) (hts _ m_X1_addSeen_337192) (fun _ h9 => h9) rfl dX1_addSeen_41 ?_
    refine lv_iload_n hx hb dX1_addSeen_44 rfl (lv_at hl 1 rfl) ?_
    obtain ⟨h_45, hf⟩ := ck_e hf
    refine va_iast (cA := E.2.1) (n := 5) (f := s0_35 2) (x := v3) hx hb hK hP (hDD s0_35) hS 3 0 rfl rfl h_45 dX1_addSeen_45 (fun H locs hP _ hS => ?_)
    obtain ⟨s0_45, hP, hf⟩ := nm_st' (P := fun z => va_P E.1 vwCl (wX1 E a0 z) H) hf hP
    refine lv_aload_n hx hb dX1_addSeen_46 rfl (lv_at hl 0 rfl) ?_
    refine lv_dup hx hb dX1_addSeen_47 rfl ?_
    refine va_get (ci := 1) (C := RX1) (T := TX1) (N := 10) (v := .int (s0_45 3 0)) hx hb hts i_X1_addSeen_X1 hown hK hP 0 rfl rfl 3 (by decide) (hts _ m_X1_addSeen_337192) (fun _ h9 => h9) rfl dX1_addSeen_48 ?_
    refine lv_iconst (v := 1) hx hb dX1_addSeen_51 (by decide) ?_
    refine lv_iadd hx hb dX1_addSeen_52 ?_
    refine va_put (ci := 1) (v := .int ((s0_45 3 0) + 1)) (ty := .int) (C := RX1) (T := TX1) (N := 10) hx hb hts i_X1_addSeen_X1 tyX1 tyX1_ok nmX1 hown hK hP (hDD s0_45) hS 0 rfl rfl 3 (by decide) (hts _ m_X1_addSeen_337192) (fun _ h9 => h9) rfl (by decide +kernel) rfl rfl (Nat.le_of_ble_eq_true rfl) dX1_addSeen_53 (fun H locs hP _ hS => ?_)
    obtain ⟨s0_53, hP, hf⟩ := nm_st' (P := fun z => va_P E.1 vwCl (wX1 E a0 z) H) hf hP
    refine lv_aload_n hx hb dX1_addSeen_56 rfl (lv_at hl 0 rfl) ?_
    refine va_get (ci := 1) (C := RX1) (T := TX1) (N := 10) (v := .int (s0_53 3 0)) hx hb hts i_X1_addSeen_X1 hown hK hP 0 rfl rfl 3 (by decide) (hts _ m_X1_addSeen_337192) (fun _ h9 => h9) rfl dX1_addSeen_57 ?_
    have e9 := Option.some.inj hf
    exact rt_i hx hb hr hlocks (fst_e e9) (rtP (P := fun z => va_P E.1 vwCl (wX1 E a0 z.2) H) e9 hP) hS dX1_addSeen_60
  refine lv_aload_n hx hb dX1_addSeen_0 rfl (lv_at hl 0 rfl) ?_
  refine va_get (ci := 1) (C := RX1) (T := TX1) (N := 10) (v := .int (s0 3 0)) hx hb hts i_X1_addSeen_X1 hown hK hP 0 rfl rfl 3 (by decide) (hts _ m_X1_addSeen_337192) (fun _ h9 => h9) rfl dX1_addSeen_1 ?_
  refine lv_iconst (v := 5) hx hb dX1_addSeen_4 (by decide) ?_
  refine lv_icmp_ge (tgt := 56) hx hb dX1_addSeen_5 (by decide) (fun c_5 => ?_) (fun c_5 => ?_)
  · have hf := ite_t c_5 hf
    refine lv_aload_n hx hb dX1_addSeen_56 rfl (lv_at hl 0 rfl) ?_
    refine va_get (ci := 1) (C := RX1) (T := TX1) (N := 10) (v := .int (s0 3 0)) hx hb hts i_X1_addSeen_X1 hown hK hP 0 rfl rfl 3 (by decide) (hts _ m_X1_addSeen_337192) (fun _ h9 => h9) rfl dX1_addSeen_57 ?_
    have e9 := Option.some.inj hf
    exact rt_i hx hb hr hlocks (fst_e e9) (rtP (P := fun z => va_P E.1 vwCl (wX1 E a0 z.2) s.heap) e9 hP) hS dX1_addSeen_60
  · have hf := ite_f c_5 hf
    refine lv_aload_n hx hb dX1_addSeen_8 rfl (lv_at hl 0 rfl) ?_
    refine va_get (ci := 1) (C := RX1) (T := TX1) (N := 10) (v := .ref (a0 1)) hx hb hts i_X1_addSeen_X1 hown hK hP 0 rfl rfl 0 (by decide) (hts _ m_X1_addSeen_b789e5) (fun _ h9 => h9) rfl dX1_addSeen_9 ?_
    refine lv_aload_n hx hb dX1_addSeen_12 rfl (lv_at hl 0 rfl) ?_
    refine va_get (ci := 1) (C := RX1) (T := TX1) (N := 10) (v := .int (s0 3 0)) hx hb hts i_X1_addSeen_X1 hown hK hP 0 rfl rfl 3 (by decide) (hts _ m_X1_addSeen_337192) (fun _ h9 => h9) rfl dX1_addSeen_13 ?_
    refine lv_iload_n hx hb dX1_addSeen_16 rfl (lv_at hl 1 rfl) ?_
    obtain ⟨h_17, hf⟩ := ck_e hf
    refine va_iast (cA := E.2.1) (n := 5) (f := s0 0) (x := p1) hx hb hK hP (hDD s0) hS 1 0 rfl rfl h_17 dX1_addSeen_17 (fun H locs hP _ hS => ?_)
    obtain ⟨s0_17, hP, hf⟩ := nm_st' (P := fun z => va_P E.1 vwCl (wX1 E a0 z) H) hf hP
    refine lv_aload_n hx hb dX1_addSeen_18 rfl (lv_at hl 0 rfl) ?_
    refine va_get (ci := 1) (C := RX1) (T := TX1) (N := 10) (v := .ref (a0 2)) hx hb hts i_X1_addSeen_X1 hown hK hP 0 rfl rfl 1 (by decide) (hts _ m_X1_addSeen_99651a) (fun _ h9 => h9) rfl dX1_addSeen_19 ?_
    refine lv_aload_n hx hb dX1_addSeen_22 rfl (lv_at hl 0 rfl) ?_
    refine va_get (ci := 1) (C := RX1) (T := TX1) (N := 10) (v := .int (s0_17 3 0)) hx hb hts i_X1_addSeen_X1 hown hK hP 0 rfl rfl 3 (by decide) (hts _ m_X1_addSeen_337192) (fun _ h9 => h9) rfl dX1_addSeen_23 ?_
    refine lv_iload_n hx hb dX1_addSeen_26 rfl (lv_at hl 2 rfl) ?_
    refine lv_if_eq (tgt := 34) hx hb dX1_addSeen_27 (by decide) (fun c_27 => ?_) (fun c_27 => ?_)
    · have hf := ite_t c_27 hf
      refine lv_iconst (v := 0) hx hb dX1_addSeen_34 (by decide) ?_
      exact hL_35 s0_17 p3 0 (s0_17 3 0) hf _ _ _ hP hS (lv_sub hl [0, 3] rfl)
    · have hf := ite_f c_27 hf
      refine lv_iconst (v := 1) hx hb dX1_addSeen_30 (by decide) ?_
      refine lv_goto (tgt := 35) hx hb dX1_addSeen_31 (by decide) ?_
      exact hL_35 s0_17 p3 1 (s0_17 3 0) hf _ _ _ hP hS (lv_sub hl [0, 3] rfl)
abbrev rm_X1_addToWeek : Room := { frames := 0, cells := 0, slots := 0, locals := 0 }
theorem m_X1_addToWeek_3b5e97 : Cond.fieldLink RX1 43 "PickedMatch$Notes" "weekCount" "I" ∈ wsX1_addToWeek := by decide +kernel
theorem i_X1_addToWeek_X1 : ∀ w ∈ wsX10, w ∈ wsX1_addToWeek := fun _ h => List.mem_cons_of_mem _ (List.mem_append_right _ h)
theorem m_X1_addToWeek_fa8294 : Cond.fieldLink RX1 21 "PickedMatch$Notes" "weekWhats" "[I" ∈ wsX1_addToWeek := by decide +kernel
theorem m_X1_addToWeek_e96de6 : Cond.fieldLink RX1 24 "PickedMatch$Notes" "weekThings" "[I" ∈ wsX1_addToWeek := by decide +kernel
set_option maxHeartbeats 8000000 in
set_option maxRecDepth 100000 in
theorem k_X1_addToWeek (l : Launch) (E : Ev) (a0 : Nat → Nat) (N : Nat) (s0 : St) (p1 : Int32) (p2 : Int32) (q : (Int32 × St)) (hf : f_X1_addToWeek N s0 p1 p2 = some q) : Ci l yX1_addToWeek wsX1_addToWeek rm_X1_addToWeek E [.ref (a0 0), .int p1, .int p2] (wX1 E a0 s0) (wX1 E a0 q.2) q.1 := by
  unfold f_X1_addToWeek at hf
  intro sz
  refine Met.ofW (cc := cX1_addToWeek) (maxL := 3) (ret := (some .int)) (by decide) rfl ?_
  intro p e s m args below meth c s₁ B hml hv
  obtain ⟨rfl, hsz, hP, hK, hD0, hG, hA, hAB⟩ := start hv
  have hx := B.exec
  have hb := B.bytes
  have hr := B.returns
  have hts := atoms_spec (ws := wsX1_addToWeek) B.pre
  have hown : s.vm.findClass RX1 = some m.cls := findClass_of_methodNamed B.named
  have hlocks := B.notSynchronized
  subst hsz
  generalize va_A (wX1 E a0 s0) s.heap.size = A0 at hD0 hA hAB ⊢
  have hDD : ∀ (s0 : St), va_D A0 (wX1 E a0 s0) := fun s0 => vD_addr hD0 rfl
  have hS : va_S A0 s.heap s.heap [] := va_S.rf
  have hl := lv_entry ([.ref (a0 0), .int p1, .int p2]) (n := 3) (Nat.le_of_ble_eq_true rfl)
  rw [lg_entry_eq]
  generalize (lg_sl ([.ref (a0 0), .int p1, .int p2]) ++ List.replicate (3 - (lg_sl ([.ref (a0 0), .int p1, .int p2])).length) Slot.unset).toArray = ls at hl ⊢
  have hl : lv_has ls 3 [(0, .ref (a0 0)), (1, .int p1), (2, .int p2)] := hl
  refine lv_aload_n hx hb dX1_addToWeek_0 rfl (lv_at hl 0 rfl) ?_
  refine va_get (ci := 1) (C := RX1) (T := TX1) (N := 10) (v := .int (s0 6 0)) hx hb hts i_X1_addToWeek_X1 hown hK hP 0 rfl rfl 6 (by decide) (hts _ m_X1_addToWeek_3b5e97) (fun _ h9 => h9) rfl dX1_addToWeek_1 ?_
  refine lv_bipush (v := 10) hx hb dX1_addToWeek_4 (by decide) ?_
  refine lv_icmp_ge (tgt := 39) hx hb dX1_addToWeek_6 (by decide) (fun c_6 => ?_) (fun c_6 => ?_)
  · have hf := ite_t c_6 hf
    refine lv_aload_n hx hb dX1_addToWeek_39 rfl (lv_at hl 0 rfl) ?_
    refine va_get (ci := 1) (C := RX1) (T := TX1) (N := 10) (v := .int (s0 6 0)) hx hb hts i_X1_addToWeek_X1 hown hK hP 0 rfl rfl 6 (by decide) (hts _ m_X1_addToWeek_3b5e97) (fun _ h9 => h9) rfl dX1_addToWeek_40 ?_
    have e9 := Option.some.inj hf
    exact rt_i hx hb hr hlocks (fst_e e9) (rtP (P := fun z => va_P E.1 vwCl (wX1 E a0 z.2) s.heap) e9 hP) hS dX1_addToWeek_43
  · have hf := ite_f c_6 hf
    refine lv_aload_n hx hb dX1_addToWeek_9 rfl (lv_at hl 0 rfl) ?_
    refine va_get (ci := 1) (C := RX1) (T := TX1) (N := 10) (v := .ref (a0 4)) hx hb hts i_X1_addToWeek_X1 hown hK hP 0 rfl rfl 4 (by decide) (hts _ m_X1_addToWeek_fa8294) (fun _ h9 => h9) rfl dX1_addToWeek_10 ?_
    refine lv_aload_n hx hb dX1_addToWeek_13 rfl (lv_at hl 0 rfl) ?_
    refine va_get (ci := 1) (C := RX1) (T := TX1) (N := 10) (v := .int (s0 6 0)) hx hb hts i_X1_addToWeek_X1 hown hK hP 0 rfl rfl 6 (by decide) (hts _ m_X1_addToWeek_3b5e97) (fun _ h9 => h9) rfl dX1_addToWeek_14 ?_
    refine lv_iload_n hx hb dX1_addToWeek_17 rfl (lv_at hl 1 rfl) ?_
    obtain ⟨h_18, hf⟩ := ck_e hf
    refine va_iast (cA := E.2.1) (n := 10) (f := s0 4) (x := p1) hx hb hK hP (hDD s0) hS 4 0 rfl rfl h_18 dX1_addToWeek_18 (fun H locs hP _ hS => ?_)
    obtain ⟨s0_18, hP, hf⟩ := nm_st' (P := fun z => va_P E.1 vwCl (wX1 E a0 z) H) hf hP
    refine lv_aload_n hx hb dX1_addToWeek_19 rfl (lv_at hl 0 rfl) ?_
    refine va_get (ci := 1) (C := RX1) (T := TX1) (N := 10) (v := .ref (a0 5)) hx hb hts i_X1_addToWeek_X1 hown hK hP 0 rfl rfl 5 (by decide) (hts _ m_X1_addToWeek_e96de6) (fun _ h9 => h9) rfl dX1_addToWeek_20 ?_
    refine lv_aload_n hx hb dX1_addToWeek_23 rfl (lv_at hl 0 rfl) ?_
    refine va_get (ci := 1) (C := RX1) (T := TX1) (N := 10) (v := .int (s0_18 6 0)) hx hb hts i_X1_addToWeek_X1 hown hK hP 0 rfl rfl 6 (by decide) (hts _ m_X1_addToWeek_3b5e97) (fun _ h9 => h9) rfl dX1_addToWeek_24 ?_
    refine lv_iload_n hx hb dX1_addToWeek_27 rfl (lv_at hl 2 rfl) ?_
    obtain ⟨h_28, hf⟩ := ck_e hf
    refine va_iast (cA := E.2.1) (n := 10) (f := s0_18 5) (x := p2) hx hb hK hP (hDD s0_18) hS 5 0 rfl rfl h_28 dX1_addToWeek_28 (fun H locs hP _ hS => ?_)
    obtain ⟨s0_28, hP, hf⟩ := nm_st' (P := fun z => va_P E.1 vwCl (wX1 E a0 z) H) hf hP
    refine lv_aload_n hx hb dX1_addToWeek_29 rfl (lv_at hl 0 rfl) ?_
    refine lv_dup hx hb dX1_addToWeek_30 rfl ?_
    refine va_get (ci := 1) (C := RX1) (T := TX1) (N := 10) (v := .int (s0_28 6 0)) hx hb hts i_X1_addToWeek_X1 hown hK hP 0 rfl rfl 6 (by decide) (hts _ m_X1_addToWeek_3b5e97) (fun _ h9 => h9) rfl dX1_addToWeek_31 ?_
    refine lv_iconst (v := 1) hx hb dX1_addToWeek_34 (by decide) ?_
    refine lv_iadd hx hb dX1_addToWeek_35 ?_
    refine va_put (ci := 1) (v := .int ((s0_28 6 0) + 1)) (ty := .int) (C := RX1) (T := TX1) (N := 10) hx hb hts i_X1_addToWeek_X1 tyX1 tyX1_ok nmX1 hown hK hP (hDD s0_28) hS 0 rfl rfl 6 (by decide) (hts _ m_X1_addToWeek_3b5e97) (fun _ h9 => h9) rfl (by decide +kernel) rfl rfl (Nat.le_of_ble_eq_true rfl) dX1_addToWeek_36 (fun H locs hP _ hS => ?_)
    obtain ⟨s0_36, hP, hf⟩ := nm_st' (P := fun z => va_P E.1 vwCl (wX1 E a0 z) H) hf hP
    refine lv_aload_n hx hb dX1_addToWeek_39 rfl (lv_at hl 0 rfl) ?_
    refine va_get (ci := 1) (C := RX1) (T := TX1) (N := 10) (v := .int (s0_36 6 0)) hx hb hts i_X1_addToWeek_X1 hown hK hP 0 rfl rfl 6 (by decide) (hts _ m_X1_addToWeek_3b5e97) (fun _ h9 => h9) rfl dX1_addToWeek_40 ?_
    have e9 := Option.some.inj hf
    exact rt_i hx hb hr hlocks (fst_e e9) (rtP (P := fun z => va_P E.1 vwCl (wX1 E a0 z.2) H) e9 hP) hS dX1_addToWeek_43
abbrev rm_X1_addToBook : Room := { frames := 0, cells := 0, slots := 0, locals := 0 }
theorem m_X1_addToBook_197e65 : Cond.fieldLink RX1 46 "PickedMatch$Notes" "bookCount" "I" ∈ wsX1_addToBook := by decide +kernel
theorem i_X1_addToBook_X1 : ∀ w ∈ wsX10, w ∈ wsX1_addToBook := fun _ h => List.mem_cons_of_mem _ (List.mem_append_right _ h)
theorem m_X1_addToBook_1d838a : Cond.fieldLink RX1 27 "PickedMatch$Notes" "bookThings" "[I" ∈ wsX1_addToBook := by decide +kernel
theorem m_X1_addToBook_0bdb7a : Cond.fieldLink RX1 30 "PickedMatch$Notes" "bookMarks" "[I" ∈ wsX1_addToBook := by decide +kernel
set_option maxHeartbeats 8000000 in
set_option maxRecDepth 100000 in
theorem k_X1_addToBook (l : Launch) (E : Ev) (a0 : Nat → Nat) (N : Nat) (s0 : St) (p1 : Int32) (p2 : Int32) (q : (Int32 × St)) (hf : f_X1_addToBook N s0 p1 p2 = some q) : Ci l yX1_addToBook wsX1_addToBook rm_X1_addToBook E [.ref (a0 0), .int p1, .int p2] (wX1 E a0 s0) (wX1 E a0 q.2) q.1 := by
  unfold f_X1_addToBook at hf
  intro sz
  refine Met.ofW (cc := cX1_addToBook) (maxL := 3) (ret := (some .int)) (by decide) rfl ?_
  intro p e s m args below meth c s₁ B hml hv
  obtain ⟨rfl, hsz, hP, hK, hD0, hG, hA, hAB⟩ := start hv
  have hx := B.exec
  have hb := B.bytes
  have hr := B.returns
  have hts := atoms_spec (ws := wsX1_addToBook) B.pre
  have hown : s.vm.findClass RX1 = some m.cls := findClass_of_methodNamed B.named
  have hlocks := B.notSynchronized
  subst hsz
  generalize va_A (wX1 E a0 s0) s.heap.size = A0 at hD0 hA hAB ⊢
  have hDD : ∀ (s0 : St), va_D A0 (wX1 E a0 s0) := fun s0 => vD_addr hD0 rfl
  have hS : va_S A0 s.heap s.heap [] := va_S.rf
  have hl := lv_entry ([.ref (a0 0), .int p1, .int p2]) (n := 3) (Nat.le_of_ble_eq_true rfl)
  rw [lg_entry_eq]
  generalize (lg_sl ([.ref (a0 0), .int p1, .int p2]) ++ List.replicate (3 - (lg_sl ([.ref (a0 0), .int p1, .int p2])).length) Slot.unset).toArray = ls at hl ⊢
  have hl : lv_has ls 3 [(0, .ref (a0 0)), (1, .int p1), (2, .int p2)] := hl
  refine lv_aload_n hx hb dX1_addToBook_0 rfl (lv_at hl 0 rfl) ?_
  refine va_get (ci := 1) (C := RX1) (T := TX1) (N := 10) (v := .int (s0 9 0)) hx hb hts i_X1_addToBook_X1 hown hK hP 0 rfl rfl 9 (by decide) (hts _ m_X1_addToBook_197e65) (fun _ h9 => h9) rfl dX1_addToBook_1 ?_
  refine lv_bipush (v := 8) hx hb dX1_addToBook_4 (by decide) ?_
  refine lv_icmp_ge (tgt := 39) hx hb dX1_addToBook_6 (by decide) (fun c_6 => ?_) (fun c_6 => ?_)
  · have hf := ite_t c_6 hf
    refine lv_aload_n hx hb dX1_addToBook_39 rfl (lv_at hl 0 rfl) ?_
    refine va_get (ci := 1) (C := RX1) (T := TX1) (N := 10) (v := .int (s0 9 0)) hx hb hts i_X1_addToBook_X1 hown hK hP 0 rfl rfl 9 (by decide) (hts _ m_X1_addToBook_197e65) (fun _ h9 => h9) rfl dX1_addToBook_40 ?_
    have e9 := Option.some.inj hf
    exact rt_i hx hb hr hlocks (fst_e e9) (rtP (P := fun z => va_P E.1 vwCl (wX1 E a0 z.2) s.heap) e9 hP) hS dX1_addToBook_43
  · have hf := ite_f c_6 hf
    refine lv_aload_n hx hb dX1_addToBook_9 rfl (lv_at hl 0 rfl) ?_
    refine va_get (ci := 1) (C := RX1) (T := TX1) (N := 10) (v := .ref (a0 6)) hx hb hts i_X1_addToBook_X1 hown hK hP 0 rfl rfl 7 (by decide) (hts _ m_X1_addToBook_1d838a) (fun _ h9 => h9) rfl dX1_addToBook_10 ?_
    refine lv_aload_n hx hb dX1_addToBook_13 rfl (lv_at hl 0 rfl) ?_
    refine va_get (ci := 1) (C := RX1) (T := TX1) (N := 10) (v := .int (s0 9 0)) hx hb hts i_X1_addToBook_X1 hown hK hP 0 rfl rfl 9 (by decide) (hts _ m_X1_addToBook_197e65) (fun _ h9 => h9) rfl dX1_addToBook_14 ?_
    refine lv_iload_n hx hb dX1_addToBook_17 rfl (lv_at hl 1 rfl) ?_
    obtain ⟨h_18, hf⟩ := ck_e hf
    refine va_iast (cA := E.2.1) (n := 8) (f := s0 7) (x := p1) hx hb hK hP (hDD s0) hS 6 0 rfl rfl h_18 dX1_addToBook_18 (fun H locs hP _ hS => ?_)
    obtain ⟨s0_18, hP, hf⟩ := nm_st' (P := fun z => va_P E.1 vwCl (wX1 E a0 z) H) hf hP
    refine lv_aload_n hx hb dX1_addToBook_19 rfl (lv_at hl 0 rfl) ?_
    refine va_get (ci := 1) (C := RX1) (T := TX1) (N := 10) (v := .ref (a0 7)) hx hb hts i_X1_addToBook_X1 hown hK hP 0 rfl rfl 8 (by decide) (hts _ m_X1_addToBook_0bdb7a) (fun _ h9 => h9) rfl dX1_addToBook_20 ?_
    refine lv_aload_n hx hb dX1_addToBook_23 rfl (lv_at hl 0 rfl) ?_
    refine va_get (ci := 1) (C := RX1) (T := TX1) (N := 10) (v := .int (s0_18 9 0)) hx hb hts i_X1_addToBook_X1 hown hK hP 0 rfl rfl 9 (by decide) (hts _ m_X1_addToBook_197e65) (fun _ h9 => h9) rfl dX1_addToBook_24 ?_
    refine lv_iload_n hx hb dX1_addToBook_27 rfl (lv_at hl 2 rfl) ?_
    obtain ⟨h_28, hf⟩ := ck_e hf
    refine va_iast (cA := E.2.1) (n := 8) (f := s0_18 8) (x := p2) hx hb hK hP (hDD s0_18) hS 7 0 rfl rfl h_28 dX1_addToBook_28 (fun H locs hP _ hS => ?_)
    obtain ⟨s0_28, hP, hf⟩ := nm_st' (P := fun z => va_P E.1 vwCl (wX1 E a0 z) H) hf hP
    refine lv_aload_n hx hb dX1_addToBook_29 rfl (lv_at hl 0 rfl) ?_
    refine lv_dup hx hb dX1_addToBook_30 rfl ?_
    refine va_get (ci := 1) (C := RX1) (T := TX1) (N := 10) (v := .int (s0_28 9 0)) hx hb hts i_X1_addToBook_X1 hown hK hP 0 rfl rfl 9 (by decide) (hts _ m_X1_addToBook_197e65) (fun _ h9 => h9) rfl dX1_addToBook_31 ?_
    refine lv_iconst (v := 1) hx hb dX1_addToBook_34 (by decide) ?_
    refine lv_iadd hx hb dX1_addToBook_35 ?_
    refine va_put (ci := 1) (v := .int ((s0_28 9 0) + 1)) (ty := .int) (C := RX1) (T := TX1) (N := 10) hx hb hts i_X1_addToBook_X1 tyX1 tyX1_ok nmX1 hown hK hP (hDD s0_28) hS 0 rfl rfl 9 (by decide) (hts _ m_X1_addToBook_197e65) (fun _ h9 => h9) rfl (by decide +kernel) rfl rfl (Nat.le_of_ble_eq_true rfl) dX1_addToBook_36 (fun H locs hP _ hS => ?_)
    obtain ⟨s0_36, hP, hf⟩ := nm_st' (P := fun z => va_P E.1 vwCl (wX1 E a0 z) H) hf hP
    refine lv_aload_n hx hb dX1_addToBook_39 rfl (lv_at hl 0 rfl) ?_
    refine va_get (ci := 1) (C := RX1) (T := TX1) (N := 10) (v := .int (s0_36 9 0)) hx hb hts i_X1_addToBook_X1 hown hK hP 0 rfl rfl 9 (by decide) (hts _ m_X1_addToBook_197e65) (fun _ h9 => h9) rfl dX1_addToBook_40 ?_
    have e9 := Option.some.inj hf
    exact rt_i hx hb hr hlocks (fst_e e9) (rtP (P := fun z => va_P E.1 vwCl (wX1 E a0 z.2) H) e9 hP) hS dX1_addToBook_43
abbrev rm_X1_isSeenBehind : Room := { frames := 1, cells := 0, slots := 0, locals := 21 }
theorem m_X1_isSeenBehind_337192 : Cond.fieldLink RX1 39 "PickedMatch$Notes" "seenCount" "I" ∈ wsX1_isSeenBehind := by decide +kernel
theorem i_X1_isSeenBehind_X1 : ∀ w ∈ wsX10, w ∈ wsX1_isSeenBehind := fun _ h => List.mem_cons_of_mem _ (List.mem_append_left _ (List.mem_append_right _ h))
theorem m_X1_isSeenBehind_47dabf : Cond.fieldLink RX1 18 "PickedMatch$Notes" "seenDays" "[I" ∈ wsX1_isSeenBehind := by decide +kernel
theorem m_X1_isSeenBehind_b789e5 : Cond.fieldLink RX1 11 "PickedMatch$Notes" "seenThings" "[I" ∈ wsX1_isSeenBehind := by decide +kernel
theorem m_X1_isSeenBehind_4cf9d8 : Cond.initialized RX2 ∈ wsX1_isSeenBehind := by decide +kernel
theorem m_X1_isSeenBehind_ab92ab : Cond.instanceMethod yX2_isHad ∈ wsX1_isSeenBehind := by decide +kernel
theorem m_X1_isSeenBehind_8e582f : Cond.selects RX2 yX2_isHad yX2_isHad ∈ wsX1_isSeenBehind := by decide +kernel
theorem m_X1_isSeenBehind_99651a : Cond.fieldLink RX1 15 "PickedMatch$Notes" "seenHad" "[I" ∈ wsX1_isSeenBehind := by decide +kernel
set_option maxHeartbeats 8000000 in
set_option maxRecDepth 100000 in
theorem k_X1_isSeenBehind (l : Launch) (E : Ev) (a0 : Nat → Nat) (a1 : Nat → Nat) (L : List SR) (N : Nat) (s0 : St) (s1 : St) (h1 : Option SR) (p2 : Int32) (q : (Int32)) (hf : f_X1_isSeenBehind N s0 s1 p2 = some q) : Ci l yX1_isSeenBehind wsX1_isSeenBehind rm_X1_isSeenBehind E [.ref (a0 0), .ref (a1 0), .int p2] ((wX1 E a0 s0 ++ (wX2 E a1 s1 h1)) ++ sW E.2.1 L) ((wX1 E a0 s0 ++ (wX2 E a1 s1 h1)) ++ sW E.2.1 L) q := by
  unfold f_X1_isSeenBehind at hf
  intro sz
  refine Met.ofW (cc := cX1_isSeenBehind) (maxL := 4) (ret := (some .boolean)) (by decide) rfl ?_
  intro p e s m args below meth c s₁ B hml hpre
  obtain ⟨rfl, hsz, hP, hK, hD0, hG, hA, hAB⟩ := start hpre
  have hx := B.exec
  have hb := B.bytes
  have hr := B.returns
  have hts := atoms_spec (ws := wsX1_isSeenBehind) B.pre
  have hown : s.vm.findClass RX1 = some m.cls := findClass_of_methodNamed B.named
  have hlocks := B.notSynchronized
  subst hsz
  generalize va_A ((wX1 E a0 s0 ++ (wX2 E a1 s1 h1)) ++ sW E.2.1 L) s.heap.size = A0 at hD0 hA hAB ⊢
  have hDD : ∀ (s0 : St) (s1 : St) (h1 : Option SR), va_D A0 ((wX1 E a0 s0 ++ (wX2 E a1 s1 h1)) ++ sW E.2.1 L) := fun s0 s1 h1 => vD_addr hD0 rfl
  have hS : va_S A0 s.heap s.heap [] := va_S.rf
  have hl := lv_entry ([.ref (a0 0), .ref (a1 0), .int p2]) (n := 4) (Nat.le_of_ble_eq_true rfl)
  rw [lg_entry_eq]
  generalize (lg_sl ([.ref (a0 0), .ref (a1 0), .int p2]) ++ List.replicate (4 - (lg_sl ([.ref (a0 0), .ref (a1 0), .int p2])).length) Slot.unset).toArray = ls at hl ⊢
  have hl : lv_has ls 4 [(0, .ref (a0 0)), (1, .ref (a1 0)), (2, .int p2)] := hl
  have hL_2 : ∀ (s0 : St) (s1 : St) (v2 : Int32) (n_2 : Nat) (v3 : Int32), l_X1_isSeenBehind_2 N s0 s1 v2 n_2 v3 = some q → ∀ (H : Heap) (locs : List Loc) (ls : Array Slot), va_P E.1 vwCl ((wX1 E a0 s0 ++ (wX2 E a1 s1 h1)) ++ sW E.2.1 L) H → va_S A0 s.heap H locs → lv_has ls 4 [(0, .ref (a0 0)), (1, .ref (a1 0)), (2, .int v2), (3, .int v3)] → W p l e rm_X1_isSeenBehind s m ([.ref (a0 0), .ref (a1 0), .int p2] : List Value).toArray below meth c H locs 0 0 (MQ below (va_Qi (fun (r' : Int32) (_ : Unit) => r' = q) (fun _ t => va_P E.1 vwCl ((wX1 E a0 s0 ++ (wX2 E a1 s1 h1)) ++ sW E.2.1 L) t.heap) A0) ([.ref (a0 0), .ref (a1 0), .int p2] : List Value).toArray s 0 0 A0) (F0 m 2 ls []) := by
    intro s0 s1 v2 n_2
    induction n_2 with
    | zero => intro v3 hf; rw [l_X1_isSeenBehind_2] at hf; cases hf
    | succ n_2 ih_2 =>
      intro v3 hf H locs ls hP hS hl
      rw [l_X1_isSeenBehind_2] at hf
      refine lv_iload_n hx hb dX1_isSeenBehind_2 rfl (lv_at hl 3 rfl) ?_
      refine lv_aload_n hx hb dX1_isSeenBehind_3 rfl (lv_at hl 0 rfl) ?_
      refine va_get (ci := 1) (C := RX1) (T := TX1) (N := 10) (v := .int (s0 3 0)) hx hb hts i_X1_isSeenBehind_X1 hown hK hP 0 rfl rfl 3 (by decide) (hts _ m_X1_isSeenBehind_337192) (fun _ h9 => h9) rfl dX1_isSeenBehind_4 ?_
      refine lv_icmp_ge (tgt := 56) hx hb dX1_isSeenBehind_7 (by decide) (fun c_7 => ?_) (fun c_7 => ?_)
      · have hf := ite_t c_7 hf
        refine lv_iconst (v := 1) hx hb dX1_isSeenBehind_56 (by decide) ?_
        have e9 := Option.some.inj hf
        exact rt_z hx hb hr rfl hlocks e9 hP hS dX1_isSeenBehind_57
      · have hf := ite_f c_7 hf
        refine lv_aload_n hx hb dX1_isSeenBehind_10 rfl (lv_at hl 0 rfl) ?_
        refine va_get (ci := 1) (C := RX1) (T := TX1) (N := 10) (v := .ref (a0 3)) hx hb hts i_X1_isSeenBehind_X1 hown hK hP 0 rfl rfl 2 (by decide) (hts _ m_X1_isSeenBehind_47dabf) (fun _ h9 => h9) rfl dX1_isSeenBehind_11 ?_
        refine lv_iload_n hx hb dX1_isSeenBehind_14 rfl (lv_at hl 3 rfl) ?_
        obtain ⟨h_15, hf⟩ := ck_e hf
        refine va_iald (cA := E.2.1) (n := 5) (f := s0 2) hx hb hK hP 3 0 rfl rfl h_15 dX1_isSeenBehind_15 ?_
        refine lv_iload_n hx hb dX1_isSeenBehind_16 rfl (lv_at hl 2 rfl) ?_
        refine lv_icmp_ne (tgt := 50) hx hb dX1_isSeenBehind_17 (by decide) (fun c_17 => ?_) (fun c_17 => ?_)
        · have hf := ite_f c_17 hf
          obtain ⟨x50, e_x50⟩ : ∃ y : Int32, y = v3 + 1 := ⟨_, rfl⟩
          have hf := nm_q e_x50 hf
          refine lv_iinc (v := x50) (lv' := [(3, .int x50), (0, .ref (a0 0)), (1, .ref (a1 0)), (2, .int v2)]) hx hb dX1_isSeenBehind_50 hl (k := 3) rfl (by rw [e_x50]; rfl) (Nat.le_of_ble_eq_true rfl) rfl (fun ls hl => ?_)
          refine lv_goto (tgt := 2) hx hb dX1_isSeenBehind_53 (by decide) ?_
          exact ih_2 x50 hf _ _ _ hP hS (lv_sub hl [1, 2, 3, 0] rfl)
        · have hf := ite_t c_17 hf
          refine lv_aload_n hx hb dX1_isSeenBehind_20 rfl (lv_at hl 1 rfl) ?_
          refine lv_aload_n hx hb dX1_isSeenBehind_21 rfl (lv_at hl 0 rfl) ?_
          refine va_get (ci := 1) (C := RX1) (T := TX1) (N := 10) (v := .ref (a0 1)) hx hb hts i_X1_isSeenBehind_X1 hown hK hP 0 rfl rfl 0 (by decide) (hts _ m_X1_isSeenBehind_b789e5) (fun _ h9 => h9) rfl dX1_isSeenBehind_22 ?_
          refine lv_iload_n hx hb dX1_isSeenBehind_25 rfl (lv_at hl 3 rfl) ?_
          obtain ⟨h_26, hf⟩ := ck_e hf
          refine va_iald (cA := E.2.1) (n := 5) (f := s0 0) hx hb hK hP 1 0 rfl rfl h_26 dX1_isSeenBehind_26 ?_
          obtain ⟨q27, hc_27, hf⟩ := cl_e hf
          have hm_27 : ∀ q ∈ (wX2 E a1 s1 h1) ++ sW E.2.1 L, q ∈ (wX1 E a0 s0 ++ (wX2 E a1 s1 h1)) ++ sW E.2.1 L := (app_mem (sub_mem (suf := []) [8, 9, 10, 11, 12, 13, 14] rfl))
          refine fin_i (E := E) (wc := (wX2 E a1 s1 h1) ++ sW E.2.1 L) (wc' := (wX2 E a1 s1 h1) ++ sW E.2.1 L) (va_runVN (As := [.int (s0 0 v3.toNatClampNeg)]) (rest := []) ⟨hx, hb, hml, hown, hts⟩ (k_X2_isHad l E a1 L N s1 h1 (s0 0 v3.toNatClampNeg) q27 hc_27 _) ⟨va_cnB 1 hts gX1_isSeenBehind_X2_isHad_n64 rfl rfl rfl (hG.1 (.methodLinkNest "PickedMatch$Notes" 64 yX2_isHad "PickedMatch") (by decide +kernel)) (hts _ m_X1_isSeenBehind_4cf9d8) (by decide +kernel) ⟨(Nat.le_of_ble_eq_true rfl), (Nat.le_of_ble_eq_true rfl)⟩, (hts _ m_X1_isSeenBehind_ab92ab), (hts _ m_X1_isSeenBehind_8e582f)⟩ (pre_v (ci := 2) (q0 := 0) hK (sub_P hm_27 hP) (sub_Ds (wc := wX2 E a1 s1 h1) [8, 9, 10, 11, 12, 13, 14] (by decide) rfl (hDD s0 s1 h1)) hS hG hAB rfl rfl) rfl rfl hl.1 rfl (lv_room (Nat.le_of_ble_eq_true rfl)) dX1_isSeenBehind_27 ⟨Nat.zero_le _, Nat.zero_le _⟩) hS (w_free (hDD s0 s1 h1) hS hA hm_27) (fun H locs hP1 hk hS => ?_)
          have hP := w_joins (ws' := wX1 E a0 s0 ++ (wX2 E a1 s1 h1)) (wc := wX2 E a1 s1 h1) (wc' := wX2 E a1 s1 h1) hP (hDD s0 s1 h1) [8, 9, 10, 11, 12, 13, 14] rfl [none, none, none, none, none, none, none, none, some 0, some 1, some 2, some 3, some 4, some 5, some 6] rfl rfl hk hP1
          refine lv_aload_n hx hb dX1_isSeenBehind_30 rfl (lv_at hl 0 rfl) ?_
          refine va_get (ci := 1) (C := RX1) (T := TX1) (N := 10) (v := .ref (a0 2)) hx hb hts i_X1_isSeenBehind_X1 hown hK hP 0 rfl rfl 1 (by decide) (hts _ m_X1_isSeenBehind_99651a) (fun _ h9 => h9) rfl dX1_isSeenBehind_31 ?_
          refine lv_iload_n hx hb dX1_isSeenBehind_34 rfl (lv_at hl 3 rfl) ?_
          obtain ⟨h_35, hf⟩ := ck_e hf
          refine va_iald (cA := E.2.1) (n := 5) (f := s0 1) hx hb hK hP 2 0 rfl rfl h_35 dX1_isSeenBehind_35 ?_
          refine lv_iconst (v := 1) hx hb dX1_isSeenBehind_36 (by decide) ?_
          refine lv_icmp_ne (tgt := 44) hx hb dX1_isSeenBehind_37 (by decide) (fun c_37 => ?_) (fun c_37 => ?_)
          · have hf := ite_f c_37 hf
            refine lv_iconst (v := 0) hx hb dX1_isSeenBehind_44 (by decide) ?_
            refine lv_icmp_eq (tgt := 50) hx hb dX1_isSeenBehind_45 (by decide) (fun c_45 => ?_) (fun c_45 => ?_)
            · have hf := ite_t c_45 hf
              obtain ⟨x50, e_x50⟩ : ∃ y : Int32, y = v3 + 1 := ⟨_, rfl⟩
              have hf := nm_q e_x50 hf
              refine lv_iinc (v := x50) (lv' := [(3, .int x50), (0, .ref (a0 0)), (1, .ref (a1 0)), (2, .int v2)]) hx hb dX1_isSeenBehind_50 hl (k := 3) rfl (by rw [e_x50]; rfl) (Nat.le_of_ble_eq_true rfl) rfl (fun ls hl => ?_)
              refine lv_goto (tgt := 2) hx hb dX1_isSeenBehind_53 (by decide) ?_
              exact ih_2 x50 hf _ _ _ hP hS (lv_sub hl [1, 2, 3, 0] rfl)
            · have hf := ite_f c_45 hf
              refine lv_iconst (v := 0) hx hb dX1_isSeenBehind_48 (by decide) ?_
              have e9 := Option.some.inj hf
              exact rt_z hx hb hr rfl hlocks e9 hP hS dX1_isSeenBehind_49
          · have hf := ite_t c_37 hf
            refine lv_iconst (v := 1) hx hb dX1_isSeenBehind_40 (by decide) ?_
            refine lv_goto (tgt := 45) hx hb dX1_isSeenBehind_41 (by decide) ?_
            refine lv_icmp_eq (tgt := 50) hx hb dX1_isSeenBehind_45 (by decide) (fun c_45 => ?_) (fun c_45 => ?_)
            · have hf := ite_t c_45 hf
              obtain ⟨x50, e_x50⟩ : ∃ y : Int32, y = v3 + 1 := ⟨_, rfl⟩
              have hf := nm_q e_x50 hf
              refine lv_iinc (v := x50) (lv' := [(3, .int x50), (0, .ref (a0 0)), (1, .ref (a1 0)), (2, .int v2)]) hx hb dX1_isSeenBehind_50 hl (k := 3) rfl (by rw [e_x50]; rfl) (Nat.le_of_ble_eq_true rfl) rfl (fun ls hl => ?_)
              refine lv_goto (tgt := 2) hx hb dX1_isSeenBehind_53 (by decide) ?_
              exact ih_2 x50 hf _ _ _ hP hS (lv_sub hl [1, 2, 3, 0] rfl)
            · have hf := ite_f c_45 hf
              refine lv_iconst (v := 0) hx hb dX1_isSeenBehind_48 (by decide) ?_
              have e9 := Option.some.inj hf
              exact rt_z hx hb hr rfl hlocks e9 hP hS dX1_isSeenBehind_49
  refine lv_iconst (v := 0) hx hb dX1_isSeenBehind_0 (by decide) ?_
  refine lv_istore_n (lv' := [(3, .int 0), (0, .ref (a0 0)), (1, .ref (a1 0)), (2, .int p2)]) hx hb dX1_isSeenBehind_1 rfl hl (Nat.le_of_ble_eq_true rfl) rfl (fun ls hl => ?_)
  exact hL_2 s0 s1 p2 N 0 hf _ _ _ hP hS (lv_sub hl [1, 2, 3, 0] rfl)
abbrev rm_X1_isAllSeen : Room := { frames := 5, cells := 0, slots := 0, locals := 116 }
theorem m_X1_isAllSeen_4cf9d8 : Cond.initialized RX2 ∈ wsX1_isAllSeen := by decide +kernel
theorem m_X1_isAllSeen_4d7acd : Cond.instanceMethod yX2_dayGoes ∈ wsX1_isAllSeen := by decide +kernel
theorem m_X1_isAllSeen_3b6c31 : Cond.selects RX2 yX2_dayGoes yX2_dayGoes ∈ wsX1_isAllSeen := by decide +kernel
theorem m_X1_isAllSeen_337192 : Cond.fieldLink RX1 39 "PickedMatch$Notes" "seenCount" "I" ∈ wsX1_isAllSeen := by decide +kernel
theorem i_X1_isAllSeen_X1 : ∀ w ∈ wsX10, w ∈ wsX1_isAllSeen := fun _ h => List.mem_cons_of_mem _ (List.mem_append_left _ (List.mem_append_left _ (List.mem_append_right _ h)))
theorem m_X1_isAllSeen_47dabf : Cond.fieldLink RX1 18 "PickedMatch$Notes" "seenDays" "[I" ∈ wsX1_isAllSeen := by decide +kernel
theorem m_X1_isAllSeen_8d94e8 : Cond.methodLink RX1 49 Lib.Math.max.name ∈ wsX1_isAllSeen := by decide +kernel
theorem m_X1_isAllSeen_7cc87a : Cond.static Lib.Math.max.name ∈ wsX1_isAllSeen := by decide +kernel
theorem m_X1_isAllSeen_0001fc : Cond.initialized "java/lang/Math" ∈ wsX1_isAllSeen := by decide +kernel
theorem m_X1_isAllSeen_6b973c : Cond.code Lib.Math.max.name Lib.Math.max.code 2 (some .int) ∈ wsX1_isAllSeen := by decide +kernel
set_option maxHeartbeats 8000000 in
set_option maxRecDepth 100000 in
theorem k_X1_isAllSeen (l : Launch) (E : Ev) (a0 : Nat → Nat) (a1 : Nat → Nat) (L : List SR) (N : Nat) (s0 : St) (s1 : St) (h1 : Option SR) (q : (Int32 × St)) (hf : f_X1_isAllSeen N L s0 s1 h1 = some q) : Ci l yX1_isAllSeen wsX1_isAllSeen rm_X1_isAllSeen E [.ref (a0 0), .ref (a1 0)] ((wX1 E a0 s0 ++ (wX2 E a1 s1 h1)) ++ sW E.2.1 L) ((wX1 E a0 s0 ++ (wX2 E a1 q.2 h1)) ++ sW E.2.1 L) q.1 := by
  unfold f_X1_isAllSeen at hf
  intro sz
  refine Met.ofW (cc := cX1_isAllSeen) (maxL := 4) (ret := (some .boolean)) (by decide) rfl ?_
  intro p e s m args below meth c s₁ B hml hpre
  obtain ⟨rfl, hsz, hP, hK, hD0, hG, hA, hAB⟩ := start hpre
  have hx := B.exec
  have hb := B.bytes
  have hr := B.returns
  have hts := atoms_spec (ws := wsX1_isAllSeen) B.pre
  have hown : s.vm.findClass RX1 = some m.cls := findClass_of_methodNamed B.named
  have hlocks := B.notSynchronized
  subst hsz
  generalize va_A ((wX1 E a0 s0 ++ (wX2 E a1 s1 h1)) ++ sW E.2.1 L) s.heap.size = A0 at hD0 hA hAB ⊢
  have hDD : ∀ (s0 : St) (s1 : St) (h1 : Option SR), va_D A0 ((wX1 E a0 s0 ++ (wX2 E a1 s1 h1)) ++ sW E.2.1 L) := fun s0 s1 h1 => vD_addr hD0 rfl
  have hS : va_S A0 s.heap s.heap [] := va_S.rf
  have hl := lv_entry ([.ref (a0 0), .ref (a1 0)]) (n := 4) (Nat.le_of_ble_eq_true rfl)
  rw [lg_entry_eq]
  generalize (lg_sl ([.ref (a0 0), .ref (a1 0)]) ++ List.replicate (4 - (lg_sl ([.ref (a0 0), .ref (a1 0)])).length) Slot.unset).toArray = ls at hl ⊢
  have hl : lv_has ls 4 [(0, .ref (a0 0)), (1, .ref (a1 0))] := hl
  have hL_31 : ∀ (s0 : St) (h1 : Option SR) (v2 : Int32) (n_31 : Nat) (s1 : St) (v3 : Int32), l_X1_isAllSeen_31 N L s0 h1 v2 n_31 s1 v3 = some q → ∀ (H : Heap) (locs : List Loc) (ls : Array Slot), va_P E.1 vwCl ((wX1 E a0 s0 ++ (wX2 E a1 s1 h1)) ++ sW E.2.1 L) H → va_S A0 s.heap H locs → lv_has ls 4 [(0, .ref (a0 0)), (1, .ref (a1 0)), (2, .int v2), (3, .int v3)] → W p l e rm_X1_isAllSeen s m ([.ref (a0 0), .ref (a1 0)] : List Value).toArray below meth c H locs 0 0 (MQ below (va_Qi (fun (r' : Int32) (_ : Unit) => r' = q.1) (fun _ t => va_P E.1 vwCl ((wX1 E a0 s0 ++ (wX2 E a1 q.2 h1)) ++ sW E.2.1 L) t.heap) A0) ([.ref (a0 0), .ref (a1 0)] : List Value).toArray s 0 0 A0) (F0 m 31 ls []) := by
    intro s0 h1 v2 n_31
    induction n_31 with
    | zero => intro s1 v3 hf; rw [l_X1_isAllSeen_31] at hf; cases hf
    | succ n_31 ih_31 =>
      intro s1 v3 hf H locs ls hP hS hl
      rw [l_X1_isAllSeen_31] at hf
      refine lv_iload_n hx hb dX1_isAllSeen_31 rfl (lv_at hl 3 rfl) ?_
      refine lv_iload_n hx hb dX1_isAllSeen_32 rfl (lv_at hl 2 rfl) ?_
      refine lv_icmp_gt (tgt := 57) hx hb dX1_isAllSeen_33 (by decide) (fun c_33 => ?_) (fun c_33 => ?_)
      · have hf := ite_t c_33 hf
        refine lv_iconst (v := 1) hx hb dX1_isAllSeen_57 (by decide) ?_
        have e9 := Option.some.inj hf
        exact rt_z hx hb hr rfl hlocks (fst_e e9) (rtP (P := fun z => va_P E.1 vwCl ((wX1 E a0 s0 ++ (wX2 E a1 z.2 h1)) ++ sW E.2.1 L) H) e9 hP) hS dX1_isAllSeen_58
      · have hf := ite_f c_33 hf
        refine lv_aload_n hx hb dX1_isAllSeen_36 rfl (lv_at hl 0 rfl) ?_
        refine lv_aload_n hx hb dX1_isAllSeen_37 rfl (lv_at hl 1 rfl) ?_
        refine lv_iload_n hx hb dX1_isAllSeen_38 rfl (lv_at hl 3 rfl) ?_
        obtain ⟨q39, hc_39, hf⟩ := cl_e hf
        refine fin_i (E := E) (wc := (wX1 E a0 s0 ++ (wX2 E a1 s1 h1)) ++ sW E.2.1 L) (wc' := (wX1 E a0 s0 ++ (wX2 E a1 s1 h1)) ++ sW E.2.1 L) (va_runV (As := [.ref (a1 0), .int v3]) (rest := []) ⟨hx, hb, hml, hown, hts⟩ (k_X1_isSeenBehind l E a0 a1 L N s0 s1 h1 v3 q39 hc_39 _) (cwV 2 hts gX1_isAllSeen_X1_isSeenBehind rfl rfl rfl (by decide +kernel) ⟨(Nat.le_of_ble_eq_true rfl), (Nat.le_of_ble_eq_true rfl)⟩) (pre_v (ci := 1) (q0 := 0) hK hP (hDD s0 s1 h1) hS hG hAB rfl rfl) rfl rfl hl.1 rfl (lv_room (Nat.le_of_ble_eq_true rfl)) dX1_isAllSeen_39 ⟨Nat.zero_le _, Nat.zero_le _⟩) hS (w_free (hDD s0 s1 h1) hS hA (fun _ h => h)) (fun H locs hP1 hk hS => ?_)
        have hP := hP1
        refine lv_if_ne (tgt := 47) hx hb dX1_isAllSeen_42 (by decide) (fun c_42 => ?_) (fun c_42 => ?_)
        · have hf := ite_f c_42 hf
          refine lv_aload_n hx hb dX1_isAllSeen_47 rfl (lv_at hl 1 rfl) ?_
          obtain ⟨q48, hc_48, hf⟩ := cl_e hf
          have hm_48 : ∀ q ∈ (wX2 E a1 s1 h1) ++ sW E.2.1 L, q ∈ (wX1 E a0 s0 ++ (wX2 E a1 s1 h1)) ++ sW E.2.1 L := (app_mem (sub_mem (suf := []) [8, 9, 10, 11, 12, 13, 14] rfl))
          refine fin_v (E := E) (wc := (wX2 E a1 s1 h1) ++ sW E.2.1 L) (wc' := (wX2 E a1 q48 h1) ++ sW E.2.1 L) (va_runVN (As := []) (rest := []) ⟨hx, hb, hml, hown, hts⟩ (k_X2_dayGoes l E a1 L N s1 h1 q48 hc_48 _) ⟨va_cnB 0 hts gX1_isAllSeen_X2_dayGoes_n59 rfl rfl rfl (hG.1 (.methodLinkNest "PickedMatch$Notes" 59 yX2_dayGoes "PickedMatch") (by decide +kernel)) (hts _ m_X1_isAllSeen_4cf9d8) (by decide +kernel) ⟨(Nat.le_of_ble_eq_true rfl), (Nat.le_of_ble_eq_true rfl)⟩, (hts _ m_X1_isAllSeen_4d7acd), (hts _ m_X1_isAllSeen_3b6c31)⟩ (pre_v (ci := 2) (q0 := 0) hK (sub_P hm_48 hP) (sub_Ds (wc := wX2 E a1 s1 h1) [8, 9, 10, 11, 12, 13, 14] (by decide) rfl (hDD s0 s1 h1)) hS hG hAB rfl rfl) rfl rfl hl.1 rfl (lv_room (Nat.le_of_ble_eq_true rfl)) dX1_isAllSeen_48 ⟨Nat.zero_le _, Nat.zero_le _⟩) hS (w_free (hDD s0 s1 h1) hS hA hm_48) (fun H locs hP1 hk hS => ?_)
          have hP := w_joins (ws' := wX1 E a0 s0 ++ (wX2 E a1 q48 h1)) (wc := wX2 E a1 s1 h1) (wc' := wX2 E a1 q48 h1) hP (hDD s0 s1 h1) [8, 9, 10, 11, 12, 13, 14] rfl [none, none, none, none, none, none, none, none, some 0, some 1, some 2, some 3, some 4, some 5, some 6] rfl rfl hk hP1
          obtain ⟨x51, e_x51⟩ : ∃ y : Int32, y = v3 + 1 := ⟨_, rfl⟩
          have hf := nm_q e_x51 hf
          refine lv_iinc (v := x51) (lv' := [(3, .int x51), (0, .ref (a0 0)), (1, .ref (a1 0)), (2, .int v2)]) hx hb dX1_isAllSeen_51 hl (k := 3) rfl (by rw [e_x51]; rfl) (Nat.le_of_ble_eq_true rfl) rfl (fun ls hl => ?_)
          refine lv_goto (tgt := 31) hx hb dX1_isAllSeen_54 (by decide) ?_
          exact ih_31 q48 x51 hf _ _ _ hP hS (lv_sub hl [1, 2, 3, 0] rfl)
        · have hf := ite_t c_42 hf
          refine lv_iconst (v := 0) hx hb dX1_isAllSeen_45 (by decide) ?_
          have e9 := Option.some.inj hf
          exact rt_z hx hb hr rfl hlocks (fst_e e9) (rtP (P := fun z => va_P E.1 vwCl ((wX1 E a0 s0 ++ (wX2 E a1 z.2 h1)) ++ sW E.2.1 L) H) e9 hP) hS dX1_isAllSeen_46
  have hL_4 : ∀ (s0 : St) (h1 : Option SR) (n_4 : Nat) (s1 : St) (v2 : Int32) (v3 : Int32), l_X1_isAllSeen_4 N L s0 h1 n_4 s1 v2 v3 = some q → ∀ (H : Heap) (locs : List Loc) (ls : Array Slot), va_P E.1 vwCl ((wX1 E a0 s0 ++ (wX2 E a1 s1 h1)) ++ sW E.2.1 L) H → va_S A0 s.heap H locs → lv_has ls 4 [(0, .ref (a0 0)), (1, .ref (a1 0)), (2, .int v2), (3, .int v3)] → W p l e rm_X1_isAllSeen s m ([.ref (a0 0), .ref (a1 0)] : List Value).toArray below meth c H locs 0 0 (MQ below (va_Qi (fun (r' : Int32) (_ : Unit) => r' = q.1) (fun _ t => va_P E.1 vwCl ((wX1 E a0 s0 ++ (wX2 E a1 q.2 h1)) ++ sW E.2.1 L) t.heap) A0) ([.ref (a0 0), .ref (a1 0)] : List Value).toArray s 0 0 A0) (F0 m 4 ls []) := by
    intro s0 h1 n_4
    induction n_4 with
    | zero => intro s1 v2 v3 hf; rw [l_X1_isAllSeen_4] at hf; cases hf
    | succ n_4 ih_4 =>
      intro s1 v2 v3 hf H locs ls hP hS hl
      rw [l_X1_isAllSeen_4] at hf
      refine lv_iload_n hx hb dX1_isAllSeen_4 rfl (lv_at hl 3 rfl) ?_
      refine lv_aload_n hx hb dX1_isAllSeen_5 rfl (lv_at hl 0 rfl) ?_
      refine va_get (ci := 1) (C := RX1) (T := TX1) (N := 10) (v := .int (s0 3 0)) hx hb hts i_X1_isAllSeen_X1 hown hK hP 0 rfl rfl 3 (by decide) (hts _ m_X1_isAllSeen_337192) (fun _ h9 => h9) rfl dX1_isAllSeen_6 ?_
      refine lv_icmp_ge (tgt := 29) hx hb dX1_isAllSeen_9 (by decide) (fun c_9 => ?_) (fun c_9 => ?_)
      · have hf := ite_t c_9 hf
        refine lv_iconst (v := 0) hx hb dX1_isAllSeen_29 (by decide) ?_
        refine lv_istore_n (lv' := [(3, .int 0), (0, .ref (a0 0)), (1, .ref (a1 0)), (2, .int v2)]) hx hb dX1_isAllSeen_30 rfl hl (Nat.le_of_ble_eq_true rfl) rfl (fun ls hl => ?_)
        exact hL_31 s0 h1 v2 N s1 0 hf _ _ _ hP hS (lv_sub hl [1, 2, 3, 0] rfl)
      · have hf := ite_f c_9 hf
        refine lv_iload_n hx hb dX1_isAllSeen_12 rfl (lv_at hl 2 rfl) ?_
        refine lv_aload_n hx hb dX1_isAllSeen_13 rfl (lv_at hl 0 rfl) ?_
        refine va_get (ci := 1) (C := RX1) (T := TX1) (N := 10) (v := .ref (a0 3)) hx hb hts i_X1_isAllSeen_X1 hown hK hP 0 rfl rfl 2 (by decide) (hts _ m_X1_isAllSeen_47dabf) (fun _ h9 => h9) rfl dX1_isAllSeen_14 ?_
        refine lv_iload_n hx hb dX1_isAllSeen_17 rfl (lv_at hl 3 rfl) ?_
        obtain ⟨h_18, hf⟩ := ck_e hf
        refine va_iald (cA := E.2.1) (n := 5) (f := s0 2) hx hb hK hP 3 0 rfl rfl h_18 dX1_isAllSeen_18 ?_
        refine va_mmax hx hb (by rw [hml]; exact hl.1.symm) hown (hts _ m_X1_isAllSeen_8d94e8) (hts _ m_X1_isAllSeen_7cc87a) (hts _ m_X1_isAllSeen_0001fc) (hts _ m_X1_isAllSeen_6b973c) (Nat.le_of_ble_eq_true rfl) (Nat.le_of_ble_eq_true rfl) (Nat.zero_le _) (Nat.zero_le _) dX1_isAllSeen_19 ?_
        refine lv_topi (fun x22 e_x22 => ?_)
        have hf := nm_q e_x22 hf
        refine lv_istore_n (lv' := [(2, .int x22), (0, .ref (a0 0)), (1, .ref (a1 0)), (3, .int v3)]) hx hb dX1_isAllSeen_22 rfl hl (Nat.le_of_ble_eq_true rfl) rfl (fun ls hl => ?_)
        obtain ⟨x23, e_x23⟩ : ∃ y : Int32, y = v3 + 1 := ⟨_, rfl⟩
        have hf := nm_q e_x23 hf
        refine lv_iinc (v := x23) (lv' := [(3, .int x23), (2, .int x22), (0, .ref (a0 0)), (1, .ref (a1 0))]) hx hb dX1_isAllSeen_23 hl (k := 3) rfl (by rw [e_x23]; rfl) (Nat.le_of_ble_eq_true rfl) rfl (fun ls hl => ?_)
        refine lv_goto (tgt := 4) hx hb dX1_isAllSeen_26 (by decide) ?_
        exact ih_4 s1 x22 x23 hf _ _ _ hP hS (lv_sub hl [2, 3, 1, 0] rfl)
  refine lv_iconst (v := 0) hx hb dX1_isAllSeen_0 (by decide) ?_
  refine lv_istore_n (lv' := [(2, .int 0), (0, .ref (a0 0)), (1, .ref (a1 0))]) hx hb dX1_isAllSeen_1 rfl hl (Nat.le_of_ble_eq_true rfl) rfl (fun ls hl => ?_)
  refine lv_iconst (v := 0) hx hb dX1_isAllSeen_2 (by decide) ?_
  refine lv_istore_n (lv' := [(3, .int 0), (2, .int 0), (0, .ref (a0 0)), (1, .ref (a1 0))]) hx hb dX1_isAllSeen_3 rfl hl (Nat.le_of_ble_eq_true rfl) rfl (fun ls hl => ?_)
  exact hL_4 s0 h1 N s1 0 0 hf _ _ _ hP hS (lv_sub hl [2, 3, 1, 0] rfl)
abbrev rm_X1_goThroughWeek : Room := { frames := 5, cells := 0, slots := 0, locals := 116 }
theorem m_X1_goThroughWeek_3b5e97 : Cond.fieldLink RX1 43 "PickedMatch$Notes" "weekCount" "I" ∈ wsX1_goThroughWeek := by decide +kernel
theorem i_X1_goThroughWeek_X1 : ∀ w ∈ wsX10, w ∈ wsX1_goThroughWeek := fun _ h => List.mem_cons_of_mem _ (List.mem_append_left _ (List.mem_append_left _ (List.mem_append_right _ h)))
theorem m_X1_goThroughWeek_fa8294 : Cond.fieldLink RX1 21 "PickedMatch$Notes" "weekWhats" "[I" ∈ wsX1_goThroughWeek := by decide +kernel
theorem m_X1_goThroughWeek_e96de6 : Cond.fieldLink RX1 24 "PickedMatch$Notes" "weekThings" "[I" ∈ wsX1_goThroughWeek := by decide +kernel
theorem m_X1_goThroughWeek_4cf9d8 : Cond.initialized RX2 ∈ wsX1_goThroughWeek := by decide +kernel
theorem m_X1_goThroughWeek_0211d8 : Cond.instanceMethod yX2_hasThing ∈ wsX1_goThroughWeek := by decide +kernel
theorem m_X1_goThroughWeek_6099ba : Cond.selects RX2 yX2_hasThing yX2_hasThing ∈ wsX1_goThroughWeek := by decide +kernel
theorem m_X1_goThroughWeek_e42de2 : Cond.instanceMethod yX2_goesNow ∈ wsX1_goThroughWeek := by decide +kernel
theorem m_X1_goThroughWeek_678d5f : Cond.selects RX2 yX2_goesNow yX2_goesNow ∈ wsX1_goThroughWeek := by decide +kernel
theorem m_X1_goThroughWeek_090fb6 : Cond.instanceMethod yX2_pickUp ∈ wsX1_goThroughWeek := by decide +kernel
theorem m_X1_goThroughWeek_bf4ad0 : Cond.selects RX2 yX2_pickUp yX2_pickUp ∈ wsX1_goThroughWeek := by decide +kernel
theorem m_X1_goThroughWeek_6978fc : Cond.instanceMethod yX2_layDownNewest ∈ wsX1_goThroughWeek := by decide +kernel
theorem m_X1_goThroughWeek_998862 : Cond.selects RX2 yX2_layDownNewest yX2_layDownNewest ∈ wsX1_goThroughWeek := by decide +kernel
theorem m_X1_goThroughWeek_4d7acd : Cond.instanceMethod yX2_dayGoes ∈ wsX1_goThroughWeek := by decide +kernel
theorem m_X1_goThroughWeek_3b6c31 : Cond.selects RX2 yX2_dayGoes yX2_dayGoes ∈ wsX1_goThroughWeek := by decide +kernel
set_option maxHeartbeats 8000000 in
set_option maxRecDepth 100000 in
theorem k_X1_goThroughWeek (l : Launch) (E : Ev) (a0 : Nat → Nat) (a1 : Nat → Nat) (L : List SR) (N : Nat) (s0 : St) (s1 : St) (h1 : Option SR) (q : (St)) (hf : f_X1_goThroughWeek N L s0 s1 h1 = some q) : Cv l yX1_goThroughWeek wsX1_goThroughWeek rm_X1_goThroughWeek E [.ref (a0 0), .ref (a1 0)] ((wX1 E a0 s0 ++ (wX2 E a1 s1 h1)) ++ sW E.2.1 L) ((wX1 E a0 s0 ++ (wX2 E a1 q h1)) ++ sW E.2.1 L) := by
  unfold f_X1_goThroughWeek at hf
  intro sz
  refine Met.ofW (cc := cX1_goThroughWeek) (maxL := 3) (ret := none) (by decide) rfl ?_
  intro p e s m args below meth c s₁ B hml hpre
  obtain ⟨rfl, hsz, hP, hK, hD0, hG, hA, hAB⟩ := start hpre
  have hx := B.exec
  have hb := B.bytes
  have hr := B.returns
  have hts := atoms_spec (ws := wsX1_goThroughWeek) B.pre
  have hown : s.vm.findClass RX1 = some m.cls := findClass_of_methodNamed B.named
  have hlocks := B.notSynchronized
  subst hsz
  generalize va_A ((wX1 E a0 s0 ++ (wX2 E a1 s1 h1)) ++ sW E.2.1 L) s.heap.size = A0 at hD0 hA hAB ⊢
  have hDD : ∀ (s0 : St) (s1 : St) (h1 : Option SR), va_D A0 ((wX1 E a0 s0 ++ (wX2 E a1 s1 h1)) ++ sW E.2.1 L) := fun s0 s1 h1 => vD_addr hD0 rfl
  have hS : va_S A0 s.heap s.heap [] := va_S.rf
  have hl := lv_entry ([.ref (a0 0), .ref (a1 0)]) (n := 3) (Nat.le_of_ble_eq_true rfl)
  rw [lg_entry_eq]
  generalize (lg_sl ([.ref (a0 0), .ref (a1 0)]) ++ List.replicate (3 - (lg_sl ([.ref (a0 0), .ref (a1 0)])).length) Slot.unset).toArray = ls at hl ⊢
  have hl : lv_has ls 3 [(0, .ref (a0 0)), (1, .ref (a1 0))] := hl
  have hL_2 : ∀ (s0 : St) (h1 : Option SR) (n_2 : Nat) (s1 : St) (v2 : Int32), l_X1_goThroughWeek_2 N L s0 h1 n_2 s1 v2 = some q → ∀ (H : Heap) (locs : List Loc) (ls : Array Slot), va_P E.1 vwCl ((wX1 E a0 s0 ++ (wX2 E a1 s1 h1)) ++ sW E.2.1 L) H → va_S A0 s.heap H locs → lv_has ls 3 [(0, .ref (a0 0)), (1, .ref (a1 0)), (2, .int v2)] → W p l e rm_X1_goThroughWeek s m ([.ref (a0 0), .ref (a1 0)] : List Value).toArray below meth c H locs 0 0 (MQ below (va_Qv (fun (_ : Unit) => True) (fun _ t => va_P E.1 vwCl ((wX1 E a0 s0 ++ (wX2 E a1 q h1)) ++ sW E.2.1 L) t.heap) A0) ([.ref (a0 0), .ref (a1 0)] : List Value).toArray s 0 0 A0) (F0 m 2 ls []) := by
    intro s0 h1 n_2
    induction n_2 with
    | zero => intro s1 v2 hf; rw [l_X1_goThroughWeek_2] at hf; cases hf
    | succ n_2 ih_2 =>
      intro s1 v2 hf H locs ls hP hS hl
      rw [l_X1_goThroughWeek_2] at hf
      refine lv_iload_n hx hb dX1_goThroughWeek_2 rfl (lv_at hl 2 rfl) ?_
      refine lv_aload_n hx hb dX1_goThroughWeek_3 rfl (lv_at hl 0 rfl) ?_
      refine va_get (ci := 1) (C := RX1) (T := TX1) (N := 10) (v := .int (s0 6 0)) hx hb hts i_X1_goThroughWeek_X1 hown hK hP 0 rfl rfl 6 (by decide) (hts _ m_X1_goThroughWeek_3b5e97) (fun _ h9 => h9) rfl dX1_goThroughWeek_4 ?_
      refine lv_icmp_ge (tgt := 86) hx hb dX1_goThroughWeek_7 (by decide) (fun c_7 => ?_) (fun c_7 => ?_)
      · have hf := ite_t c_7 hf
        have e9 := Option.some.inj hf
        exact rt_v hx hb hr hlocks (rtP (P := fun z => va_P E.1 vwCl ((wX1 E a0 s0 ++ (wX2 E a1 z h1)) ++ sW E.2.1 L) H) e9 hP) hS dX1_goThroughWeek_86
      · have hf := ite_f c_7 hf
        refine lv_aload_n hx hb dX1_goThroughWeek_10 rfl (lv_at hl 0 rfl) ?_
        refine va_get (ci := 1) (C := RX1) (T := TX1) (N := 10) (v := .ref (a0 4)) hx hb hts i_X1_goThroughWeek_X1 hown hK hP 0 rfl rfl 4 (by decide) (hts _ m_X1_goThroughWeek_fa8294) (fun _ h9 => h9) rfl dX1_goThroughWeek_11 ?_
        refine lv_iload_n hx hb dX1_goThroughWeek_14 rfl (lv_at hl 2 rfl) ?_
        obtain ⟨h_15, hf⟩ := ck_e hf
        refine va_iald (cA := E.2.1) (n := 10) (f := s0 4) hx hb hK hP 4 0 rfl rfl h_15 dX1_goThroughWeek_15 ?_
        refine lv_if_ne (tgt := 26) hx hb dX1_goThroughWeek_16 (by decide) (fun c_16 => ?_) (fun c_16 => ?_)
        · have hf := ite_f c_16 hf
          refine lv_aload_n hx hb dX1_goThroughWeek_26 rfl (lv_at hl 0 rfl) ?_
          refine va_get (ci := 1) (C := RX1) (T := TX1) (N := 10) (v := .ref (a0 4)) hx hb hts i_X1_goThroughWeek_X1 hown hK hP 0 rfl rfl 4 (by decide) (hts _ m_X1_goThroughWeek_fa8294) (fun _ h9 => h9) rfl dX1_goThroughWeek_27 ?_
          refine lv_iload_n hx hb dX1_goThroughWeek_30 rfl (lv_at hl 2 rfl) ?_
          obtain ⟨h_31, hf⟩ := ck_e hf
          refine va_iald (cA := E.2.1) (n := 10) (f := s0 4) hx hb hK hP 4 0 rfl rfl h_31 dX1_goThroughWeek_31 ?_
          refine lv_iconst (v := 1) hx hb dX1_goThroughWeek_32 (by decide) ?_
          refine lv_icmp_ne (tgt := 44) hx hb dX1_goThroughWeek_33 (by decide) (fun c_33 => ?_) (fun c_33 => ?_)
          · have hf := ite_f c_33 hf
            refine lv_aload_n hx hb dX1_goThroughWeek_44 rfl (lv_at hl 1 rfl) ?_
            refine lv_aload_n hx hb dX1_goThroughWeek_45 rfl (lv_at hl 0 rfl) ?_
            refine va_get (ci := 1) (C := RX1) (T := TX1) (N := 10) (v := .ref (a0 5)) hx hb hts i_X1_goThroughWeek_X1 hown hK hP 0 rfl rfl 5 (by decide) (hts _ m_X1_goThroughWeek_e96de6) (fun _ h9 => h9) rfl dX1_goThroughWeek_46 ?_
            refine lv_iload_n hx hb dX1_goThroughWeek_49 rfl (lv_at hl 2 rfl) ?_
            obtain ⟨h_50, hf⟩ := ck_e hf
            refine va_iald (cA := E.2.1) (n := 10) (f := s0 5) hx hb hK hP 5 0 rfl rfl h_50 dX1_goThroughWeek_50 ?_
            obtain ⟨q51, hc_51, hf⟩ := cl_e hf
            have hm_51 : ∀ q ∈ (wX2 E a1 s1 h1) ++ sW E.2.1 L, q ∈ (wX1 E a0 s0 ++ (wX2 E a1 s1 h1)) ++ sW E.2.1 L := (app_mem (sub_mem (suf := []) [8, 9, 10, 11, 12, 13, 14] rfl))
            refine fin_i (E := E) (wc := (wX2 E a1 s1 h1) ++ sW E.2.1 L) (wc' := (wX2 E a1 s1 h1) ++ sW E.2.1 L) (va_runVN (As := [.int (s0 5 v2.toNatClampNeg)]) (rest := []) ⟨hx, hb, hml, hown, hts⟩ (k_X2_hasThing l E a1 L N s1 h1 (s0 5 v2.toNatClampNeg) q51 hc_51 _) ⟨va_cnB 1 hts gX1_goThroughWeek_X2_hasThing_n72 rfl rfl rfl (hG.1 (.methodLinkNest "PickedMatch$Notes" 72 yX2_hasThing "PickedMatch") (by decide +kernel)) (hts _ m_X1_goThroughWeek_4cf9d8) (by decide +kernel) ⟨(Nat.le_of_ble_eq_true rfl), (Nat.le_of_ble_eq_true rfl)⟩, (hts _ m_X1_goThroughWeek_0211d8), (hts _ m_X1_goThroughWeek_6099ba)⟩ (pre_v (ci := 2) (q0 := 0) hK (sub_P hm_51 hP) (sub_Ds (wc := wX2 E a1 s1 h1) [8, 9, 10, 11, 12, 13, 14] (by decide) rfl (hDD s0 s1 h1)) hS hG hAB rfl rfl) rfl rfl hl.1 rfl (lv_room (Nat.le_of_ble_eq_true rfl)) dX1_goThroughWeek_51 ⟨Nat.zero_le _, Nat.zero_le _⟩) hS (w_free (hDD s0 s1 h1) hS hA hm_51) (fun H locs hP1 hk hS => ?_)
            have hP := w_joins (ws' := wX1 E a0 s0 ++ (wX2 E a1 s1 h1)) (wc := wX2 E a1 s1 h1) (wc' := wX2 E a1 s1 h1) hP (hDD s0 s1 h1) [8, 9, 10, 11, 12, 13, 14] rfl [none, none, none, none, none, none, none, none, some 0, some 1, some 2, some 3, some 4, some 5, some 6] rfl rfl hk hP1
            refine lv_if_eq (tgt := 80) hx hb dX1_goThroughWeek_54 (by decide) (fun c_54 => ?_) (fun c_54 => ?_)
            · have hf := ite_t c_54 hf
              obtain ⟨x80, e_x80⟩ : ∃ y : Int32, y = v2 + 1 := ⟨_, rfl⟩
              have hf := nm_q e_x80 hf
              refine lv_iinc (v := x80) (lv' := [(2, .int x80), (0, .ref (a0 0)), (1, .ref (a1 0))]) hx hb dX1_goThroughWeek_80 hl (k := 2) rfl (by rw [e_x80]; rfl) (Nat.le_of_ble_eq_true rfl) rfl (fun ls hl => ?_)
              refine lv_goto (tgt := 2) hx hb dX1_goThroughWeek_83 (by decide) ?_
              exact ih_2 s1 x80 hf _ _ _ hP hS (lv_sub hl [1, 2, 0] rfl)
            · have hf := ite_f c_54 hf
              refine lv_aload_n hx hb dX1_goThroughWeek_57 rfl (lv_at hl 1 rfl) ?_
              refine lv_aload_n hx hb dX1_goThroughWeek_58 rfl (lv_at hl 0 rfl) ?_
              refine va_get (ci := 1) (C := RX1) (T := TX1) (N := 10) (v := .ref (a0 5)) hx hb hts i_X1_goThroughWeek_X1 hown hK hP 0 rfl rfl 5 (by decide) (hts _ m_X1_goThroughWeek_e96de6) (fun _ h9 => h9) rfl dX1_goThroughWeek_59 ?_
              refine lv_iload_n hx hb dX1_goThroughWeek_62 rfl (lv_at hl 2 rfl) ?_
              obtain ⟨h_63, hf⟩ := ck_e hf
              refine va_iald (cA := E.2.1) (n := 10) (f := s0 5) hx hb hK hP 5 0 rfl rfl h_63 dX1_goThroughWeek_63 ?_
              obtain ⟨q64, hc_64, hf⟩ := cl_e hf
              have hm_64 : ∀ q ∈ (wX2 E a1 s1 h1) ++ sW E.2.1 L, q ∈ (wX1 E a0 s0 ++ (wX2 E a1 s1 h1)) ++ sW E.2.1 L := (app_mem (sub_mem (suf := []) [8, 9, 10, 11, 12, 13, 14] rfl))
              refine fin_i (E := E) (wc := (wX2 E a1 s1 h1) ++ sW E.2.1 L) (wc' := (wX2 E a1 q64.2 h1) ++ sW E.2.1 L) (va_runVN (As := [.int (s0 5 v2.toNatClampNeg)]) (rest := []) ⟨hx, hb, hml, hown, hts⟩ (k_X2_goesNow l E a1 L N s1 h1 (s0 5 v2.toNatClampNeg) q64 hc_64 _) ⟨va_cnB 1 hts gX1_goThroughWeek_X2_goesNow_n75 rfl rfl rfl (hG.1 (.methodLinkNest "PickedMatch$Notes" 75 yX2_goesNow "PickedMatch") (by decide +kernel)) (hts _ m_X1_goThroughWeek_4cf9d8) (by decide +kernel) ⟨(Nat.le_of_ble_eq_true rfl), (Nat.le_of_ble_eq_true rfl)⟩, (hts _ m_X1_goThroughWeek_e42de2), (hts _ m_X1_goThroughWeek_678d5f)⟩ (pre_v (ci := 2) (q0 := 0) hK (sub_P hm_64 hP) (sub_Ds (wc := wX2 E a1 s1 h1) [8, 9, 10, 11, 12, 13, 14] (by decide) rfl (hDD s0 s1 h1)) hS hG hAB rfl rfl) rfl rfl hl.1 rfl (lv_room (Nat.le_of_ble_eq_true rfl)) dX1_goThroughWeek_64 ⟨Nat.zero_le _, Nat.zero_le _⟩) hS (w_free (hDD s0 s1 h1) hS hA hm_64) (fun H locs hP1 hk hS => ?_)
              have hP := w_joins (ws' := wX1 E a0 s0 ++ (wX2 E a1 q64.2 h1)) (wc := wX2 E a1 s1 h1) (wc' := wX2 E a1 q64.2 h1) hP (hDD s0 s1 h1) [8, 9, 10, 11, 12, 13, 14] rfl [none, none, none, none, none, none, none, none, some 0, some 1, some 2, some 3, some 4, some 5, some 6] rfl rfl hk hP1
              refine lv_if_eq (tgt := 80) hx hb dX1_goThroughWeek_67 (by decide) (fun c_67 => ?_) (fun c_67 => ?_)
              · have hf := ite_t c_67 hf
                obtain ⟨x80, e_x80⟩ : ∃ y : Int32, y = v2 + 1 := ⟨_, rfl⟩
                have hf := nm_q e_x80 hf
                refine lv_iinc (v := x80) (lv' := [(2, .int x80), (0, .ref (a0 0)), (1, .ref (a1 0))]) hx hb dX1_goThroughWeek_80 hl (k := 2) rfl (by rw [e_x80]; rfl) (Nat.le_of_ble_eq_true rfl) rfl (fun ls hl => ?_)
                refine lv_goto (tgt := 2) hx hb dX1_goThroughWeek_83 (by decide) ?_
                exact ih_2 q64.2 x80 hf _ _ _ hP hS (lv_sub hl [1, 2, 0] rfl)
              · have hf := ite_f c_67 hf
                refine lv_aload_n hx hb dX1_goThroughWeek_70 rfl (lv_at hl 1 rfl) ?_
                refine lv_aload_n hx hb dX1_goThroughWeek_71 rfl (lv_at hl 0 rfl) ?_
                refine va_get (ci := 1) (C := RX1) (T := TX1) (N := 10) (v := .ref (a0 5)) hx hb hts i_X1_goThroughWeek_X1 hown hK hP 0 rfl rfl 5 (by decide) (hts _ m_X1_goThroughWeek_e96de6) (fun _ h9 => h9) rfl dX1_goThroughWeek_72 ?_
                refine lv_iload_n hx hb dX1_goThroughWeek_75 rfl (lv_at hl 2 rfl) ?_
                obtain ⟨h_76, hf⟩ := ck_e hf
                refine va_iald (cA := E.2.1) (n := 10) (f := s0 5) hx hb hK hP 5 0 rfl rfl h_76 dX1_goThroughWeek_76 ?_
                obtain ⟨q77, hc_77, hf⟩ := cl_e hf
                have hm_77 : ∀ q ∈ (wX2 E a1 q64.2 h1) ++ sW E.2.1 L, q ∈ (wX1 E a0 s0 ++ (wX2 E a1 q64.2 h1)) ++ sW E.2.1 L := (app_mem (sub_mem (suf := []) [8, 9, 10, 11, 12, 13, 14] rfl))
                refine fin_v (E := E) (wc := (wX2 E a1 q64.2 h1) ++ sW E.2.1 L) (wc' := (wX2 E a1 q77 h1) ++ sW E.2.1 L) (va_runVN (As := [.int (s0 5 v2.toNatClampNeg)]) (rest := []) ⟨hx, hb, hml, hown, hts⟩ (k_X2_pickUp l E a1 L N q64.2 h1 (s0 5 v2.toNatClampNeg) q77 hc_77 _) ⟨va_cnB 1 hts gX1_goThroughWeek_X2_pickUp_n78 rfl rfl rfl (hG.1 (.methodLinkNest "PickedMatch$Notes" 78 yX2_pickUp "PickedMatch") (by decide +kernel)) (hts _ m_X1_goThroughWeek_4cf9d8) (by decide +kernel) ⟨(Nat.le_of_ble_eq_true rfl), (Nat.le_of_ble_eq_true rfl)⟩, (hts _ m_X1_goThroughWeek_090fb6), (hts _ m_X1_goThroughWeek_bf4ad0)⟩ (pre_v (ci := 2) (q0 := 0) hK (sub_P hm_77 hP) (sub_Ds (wc := wX2 E a1 q64.2 h1) [8, 9, 10, 11, 12, 13, 14] (by decide) rfl (hDD s0 q64.2 h1)) hS hG hAB rfl rfl) rfl rfl hl.1 rfl (lv_room (Nat.le_of_ble_eq_true rfl)) dX1_goThroughWeek_77 ⟨Nat.zero_le _, Nat.zero_le _⟩) hS (w_free (hDD s0 q64.2 h1) hS hA hm_77) (fun H locs hP1 hk hS => ?_)
                have hP := w_joins (ws' := wX1 E a0 s0 ++ (wX2 E a1 q77 h1)) (wc := wX2 E a1 q64.2 h1) (wc' := wX2 E a1 q77 h1) hP (hDD s0 q64.2 h1) [8, 9, 10, 11, 12, 13, 14] rfl [none, none, none, none, none, none, none, none, some 0, some 1, some 2, some 3, some 4, some 5, some 6] rfl rfl hk hP1
                obtain ⟨x80, e_x80⟩ : ∃ y : Int32, y = v2 + 1 := ⟨_, rfl⟩
                have hf := nm_q e_x80 hf
                refine lv_iinc (v := x80) (lv' := [(2, .int x80), (0, .ref (a0 0)), (1, .ref (a1 0))]) hx hb dX1_goThroughWeek_80 hl (k := 2) rfl (by rw [e_x80]; rfl) (Nat.le_of_ble_eq_true rfl) rfl (fun ls hl => ?_)
                refine lv_goto (tgt := 2) hx hb dX1_goThroughWeek_83 (by decide) ?_
                exact ih_2 q77 x80 hf _ _ _ hP hS (lv_sub hl [1, 2, 0] rfl)
          · have hf := ite_t c_33 hf
            refine lv_aload_n hx hb dX1_goThroughWeek_36 rfl (lv_at hl 1 rfl) ?_
            obtain ⟨q37, hc_37, hf⟩ := cl_e hf
            have hm_37 : ∀ q ∈ (wX2 E a1 s1 h1) ++ sW E.2.1 L, q ∈ (wX1 E a0 s0 ++ (wX2 E a1 s1 h1)) ++ sW E.2.1 L := (app_mem (sub_mem (suf := []) [8, 9, 10, 11, 12, 13, 14] rfl))
            refine fin_i (E := E) (wc := (wX2 E a1 s1 h1) ++ sW E.2.1 L) (wc' := (wX2 E a1 q37.2 h1) ++ sW E.2.1 L) (va_runVN (As := []) (rest := []) ⟨hx, hb, hml, hown, hts⟩ (k_X2_layDownNewest l E a1 L N s1 h1 q37 hc_37 _) ⟨va_cnB 0 hts gX1_goThroughWeek_X2_layDownNewest_n68 rfl rfl rfl (hG.1 (.methodLinkNest "PickedMatch$Notes" 68 yX2_layDownNewest "PickedMatch") (by decide +kernel)) (hts _ m_X1_goThroughWeek_4cf9d8) (by decide +kernel) ⟨(Nat.le_of_ble_eq_true rfl), (Nat.le_of_ble_eq_true rfl)⟩, (hts _ m_X1_goThroughWeek_6978fc), (hts _ m_X1_goThroughWeek_998862)⟩ (pre_v (ci := 2) (q0 := 0) hK (sub_P hm_37 hP) (sub_Ds (wc := wX2 E a1 s1 h1) [8, 9, 10, 11, 12, 13, 14] (by decide) rfl (hDD s0 s1 h1)) hS hG hAB rfl rfl) rfl rfl hl.1 rfl (lv_room (Nat.le_of_ble_eq_true rfl)) dX1_goThroughWeek_37 ⟨Nat.zero_le _, Nat.zero_le _⟩) hS (w_free (hDD s0 s1 h1) hS hA hm_37) (fun H locs hP1 hk hS => ?_)
            have hP := w_joins (ws' := wX1 E a0 s0 ++ (wX2 E a1 q37.2 h1)) (wc := wX2 E a1 s1 h1) (wc' := wX2 E a1 q37.2 h1) hP (hDD s0 s1 h1) [8, 9, 10, 11, 12, 13, 14] rfl [none, none, none, none, none, none, none, none, some 0, some 1, some 2, some 3, some 4, some 5, some 6] rfl rfl hk hP1
            refine lv_pop hx hb dX1_goThroughWeek_40 rfl ?_
            refine lv_goto (tgt := 80) hx hb dX1_goThroughWeek_41 (by decide) ?_
            obtain ⟨x80, e_x80⟩ : ∃ y : Int32, y = v2 + 1 := ⟨_, rfl⟩
            have hf := nm_q e_x80 hf
            refine lv_iinc (v := x80) (lv' := [(2, .int x80), (0, .ref (a0 0)), (1, .ref (a1 0))]) hx hb dX1_goThroughWeek_80 hl (k := 2) rfl (by rw [e_x80]; rfl) (Nat.le_of_ble_eq_true rfl) rfl (fun ls hl => ?_)
            refine lv_goto (tgt := 2) hx hb dX1_goThroughWeek_83 (by decide) ?_
            exact ih_2 q37.2 x80 hf _ _ _ hP hS (lv_sub hl [1, 2, 0] rfl)
        · have hf := ite_t c_16 hf
          refine lv_aload_n hx hb dX1_goThroughWeek_19 rfl (lv_at hl 1 rfl) ?_
          obtain ⟨q20, hc_20, hf⟩ := cl_e hf
          have hm_20 : ∀ q ∈ (wX2 E a1 s1 h1) ++ sW E.2.1 L, q ∈ (wX1 E a0 s0 ++ (wX2 E a1 s1 h1)) ++ sW E.2.1 L := (app_mem (sub_mem (suf := []) [8, 9, 10, 11, 12, 13, 14] rfl))
          refine fin_v (E := E) (wc := (wX2 E a1 s1 h1) ++ sW E.2.1 L) (wc' := (wX2 E a1 q20 h1) ++ sW E.2.1 L) (va_runVN (As := []) (rest := []) ⟨hx, hb, hml, hown, hts⟩ (k_X2_dayGoes l E a1 L N s1 h1 q20 hc_20 _) ⟨va_cnB 0 hts gX1_goThroughWeek_X2_dayGoes_n59 rfl rfl rfl (hG.1 (.methodLinkNest "PickedMatch$Notes" 59 yX2_dayGoes "PickedMatch") (by decide +kernel)) (hts _ m_X1_goThroughWeek_4cf9d8) (by decide +kernel) ⟨(Nat.le_of_ble_eq_true rfl), (Nat.le_of_ble_eq_true rfl)⟩, (hts _ m_X1_goThroughWeek_4d7acd), (hts _ m_X1_goThroughWeek_3b6c31)⟩ (pre_v (ci := 2) (q0 := 0) hK (sub_P hm_20 hP) (sub_Ds (wc := wX2 E a1 s1 h1) [8, 9, 10, 11, 12, 13, 14] (by decide) rfl (hDD s0 s1 h1)) hS hG hAB rfl rfl) rfl rfl hl.1 rfl (lv_room (Nat.le_of_ble_eq_true rfl)) dX1_goThroughWeek_20 ⟨Nat.zero_le _, Nat.zero_le _⟩) hS (w_free (hDD s0 s1 h1) hS hA hm_20) (fun H locs hP1 hk hS => ?_)
          have hP := w_joins (ws' := wX1 E a0 s0 ++ (wX2 E a1 q20 h1)) (wc := wX2 E a1 s1 h1) (wc' := wX2 E a1 q20 h1) hP (hDD s0 s1 h1) [8, 9, 10, 11, 12, 13, 14] rfl [none, none, none, none, none, none, none, none, some 0, some 1, some 2, some 3, some 4, some 5, some 6] rfl rfl hk hP1
          refine lv_goto (tgt := 80) hx hb dX1_goThroughWeek_23 (by decide) ?_
          obtain ⟨x80, e_x80⟩ : ∃ y : Int32, y = v2 + 1 := ⟨_, rfl⟩
          have hf := nm_q e_x80 hf
          refine lv_iinc (v := x80) (lv' := [(2, .int x80), (0, .ref (a0 0)), (1, .ref (a1 0))]) hx hb dX1_goThroughWeek_80 hl (k := 2) rfl (by rw [e_x80]; rfl) (Nat.le_of_ble_eq_true rfl) rfl (fun ls hl => ?_)
          refine lv_goto (tgt := 2) hx hb dX1_goThroughWeek_83 (by decide) ?_
          exact ih_2 q20 x80 hf _ _ _ hP hS (lv_sub hl [1, 2, 0] rfl)
  refine lv_iconst (v := 0) hx hb dX1_goThroughWeek_0 (by decide) ?_
  refine lv_istore_n (lv' := [(2, .int 0), (0, .ref (a0 0)), (1, .ref (a1 0))]) hx hb dX1_goThroughWeek_1 rfl hl (Nat.le_of_ble_eq_true rfl) rfl (fun ls hl => ?_)
  exact hL_2 s0 h1 N s1 0 hf _ _ _ hP hS (lv_sub hl [1, 2, 0] rfl)
abbrev rm_X1_firstOtherwise : Room := { frames := 1, cells := 0, slots := 0, locals := 21 }
theorem m_X1_firstOtherwise_197e65 : Cond.fieldLink RX1 46 "PickedMatch$Notes" "bookCount" "I" ∈ wsX1_firstOtherwise := by decide +kernel
theorem i_X1_firstOtherwise_X1 : ∀ w ∈ wsX10, w ∈ wsX1_firstOtherwise := fun _ h => List.mem_cons_of_mem _ (List.mem_append_left _ (List.mem_append_right _ h))
theorem m_X1_firstOtherwise_1d838a : Cond.fieldLink RX1 27 "PickedMatch$Notes" "bookThings" "[I" ∈ wsX1_firstOtherwise := by decide +kernel
theorem m_X1_firstOtherwise_4cf9d8 : Cond.initialized RX2 ∈ wsX1_firstOtherwise := by decide +kernel
theorem m_X1_firstOtherwise_0211d8 : Cond.instanceMethod yX2_hasThing ∈ wsX1_firstOtherwise := by decide +kernel
theorem m_X1_firstOtherwise_6099ba : Cond.selects RX2 yX2_hasThing yX2_hasThing ∈ wsX1_firstOtherwise := by decide +kernel
theorem i_X1_firstOtherwise_X2 : ∀ w ∈ wsX20, w ∈ wsX1_firstOtherwise := fun _ h => List.mem_cons_of_mem _ (List.mem_append_right _ h)
theorem m_X1_firstOtherwise_0bdb7a : Cond.fieldLink RX1 30 "PickedMatch$Notes" "bookMarks" "[I" ∈ wsX1_firstOtherwise := by decide +kernel
set_option maxHeartbeats 8000000 in
set_option maxRecDepth 100000 in
theorem k_X1_firstOtherwise (l : Launch) (E : Ev) (a0 : Nat → Nat) (a1 : Nat → Nat) (L : List SR) (N : Nat) (s0 : St) (s1 : St) (h1 : Option SR) (q : (Int32)) (hf : f_X1_firstOtherwise N s0 s1 = some q) : Ci l yX1_firstOtherwise wsX1_firstOtherwise rm_X1_firstOtherwise E [.ref (a0 0), .ref (a1 0)] ((wX1 E a0 s0 ++ (wX2 E a1 s1 h1)) ++ sW E.2.1 L) ((wX1 E a0 s0 ++ (wX2 E a1 s1 h1)) ++ sW E.2.1 L) q := by
  unfold f_X1_firstOtherwise at hf
  intro sz
  refine Met.ofW (cc := cX1_firstOtherwise) (maxL := 4) (ret := (some .int)) (by decide) rfl ?_
  intro p e s m args below meth c s₁ B hml hpre
  obtain ⟨rfl, hsz, hP, hK, hD0, hG, hA, hAB⟩ := start hpre
  have hx := B.exec
  have hb := B.bytes
  have hr := B.returns
  have hts := atoms_spec (ws := wsX1_firstOtherwise) B.pre
  have hown : s.vm.findClass RX1 = some m.cls := findClass_of_methodNamed B.named
  have hlocks := B.notSynchronized
  subst hsz
  generalize va_A ((wX1 E a0 s0 ++ (wX2 E a1 s1 h1)) ++ sW E.2.1 L) s.heap.size = A0 at hD0 hA hAB ⊢
  have hDD : ∀ (s0 : St) (s1 : St) (h1 : Option SR), va_D A0 ((wX1 E a0 s0 ++ (wX2 E a1 s1 h1)) ++ sW E.2.1 L) := fun s0 s1 h1 => vD_addr hD0 rfl
  have hS : va_S A0 s.heap s.heap [] := va_S.rf
  have hl := lv_entry ([.ref (a0 0), .ref (a1 0)]) (n := 4) (Nat.le_of_ble_eq_true rfl)
  rw [lg_entry_eq]
  generalize (lg_sl ([.ref (a0 0), .ref (a1 0)]) ++ List.replicate (4 - (lg_sl ([.ref (a0 0), .ref (a1 0)])).length) Slot.unset).toArray = ls at hl ⊢
  have hl : lv_has ls 4 [(0, .ref (a0 0)), (1, .ref (a1 0))] := hl
  have hL_2 : ∀ (s0 : St) (s1 : St) (n_2 : Nat) (v2 : Int32), l_X1_firstOtherwise_2 N s0 s1 n_2 v2 = some q → ∀ (H : Heap) (locs : List Loc) (ls : Array Slot), va_P E.1 vwCl ((wX1 E a0 s0 ++ (wX2 E a1 s1 h1)) ++ sW E.2.1 L) H → va_S A0 s.heap H locs → lv_has ls 4 [(0, .ref (a0 0)), (1, .ref (a1 0)), (2, .int v2)] → W p l e rm_X1_firstOtherwise s m ([.ref (a0 0), .ref (a1 0)] : List Value).toArray below meth c H locs 0 0 (MQ below (va_Qi (fun (r' : Int32) (_ : Unit) => r' = q) (fun _ t => va_P E.1 vwCl ((wX1 E a0 s0 ++ (wX2 E a1 s1 h1)) ++ sW E.2.1 L) t.heap) A0) ([.ref (a0 0), .ref (a1 0)] : List Value).toArray s 0 0 A0) (F0 m 2 ls []) := by
    intro s0 s1 n_2
    induction n_2 with
    | zero => intro v2 hf; rw [l_X1_firstOtherwise_2] at hf; cases hf
    | succ n_2 ih_2 =>
      intro v2 hf H locs ls hP hS hl
      rw [l_X1_firstOtherwise_2] at hf
      refine lv_iload_n hx hb dX1_firstOtherwise_2 rfl (lv_at hl 2 rfl) ?_
      refine lv_aload_n hx hb dX1_firstOtherwise_3 rfl (lv_at hl 0 rfl) ?_
      refine va_get (ci := 1) (C := RX1) (T := TX1) (N := 10) (v := .int (s0 9 0)) hx hb hts i_X1_firstOtherwise_X1 hown hK hP 0 rfl rfl 9 (by decide) (hts _ m_X1_firstOtherwise_197e65) (fun _ h9 => h9) rfl dX1_firstOtherwise_4 ?_
      refine lv_icmp_ge (tgt := 48) hx hb dX1_firstOtherwise_7 (by decide) (fun c_7 => ?_) (fun c_7 => ?_)
      · have hf := ite_t c_7 hf
        refine lv_bipush (v := (-5)) hx hb dX1_firstOtherwise_48 (by decide) ?_
        have e9 := Option.some.inj hf
        exact rt_i hx hb hr hlocks e9 hP hS dX1_firstOtherwise_50
      · have hf := ite_f c_7 hf
        refine lv_aload_n hx hb dX1_firstOtherwise_10 rfl (lv_at hl 0 rfl) ?_
        refine va_get (ci := 1) (C := RX1) (T := TX1) (N := 10) (v := .ref (a0 6)) hx hb hts i_X1_firstOtherwise_X1 hown hK hP 0 rfl rfl 7 (by decide) (hts _ m_X1_firstOtherwise_1d838a) (fun _ h9 => h9) rfl dX1_firstOtherwise_11 ?_
        refine lv_iload_n hx hb dX1_firstOtherwise_14 rfl (lv_at hl 2 rfl) ?_
        obtain ⟨h_15, hf⟩ := ck_e hf
        refine va_iald (cA := E.2.1) (n := 8) (f := s0 7) hx hb hK hP 6 0 rfl rfl h_15 dX1_firstOtherwise_15 ?_
        refine lv_topi (fun x16 e_x16 => ?_)
        have hf := nm_q e_x16 hf
        refine lv_istore_n (lv' := [(3, .int x16), (0, .ref (a0 0)), (1, .ref (a1 0)), (2, .int v2)]) hx hb dX1_firstOtherwise_16 rfl hl (Nat.le_of_ble_eq_true rfl) rfl (fun ls hl => ?_)
        refine lv_aload_n hx hb dX1_firstOtherwise_17 rfl (lv_at hl 2 rfl) ?_
        refine lv_iload_n hx hb dX1_firstOtherwise_18 rfl (lv_at hl 0 rfl) ?_
        obtain ⟨q19, hc_19, hf⟩ := cl_e hf
        have hm_19 : ∀ q ∈ (wX2 E a1 s1 h1) ++ sW E.2.1 L, q ∈ (wX1 E a0 s0 ++ (wX2 E a1 s1 h1)) ++ sW E.2.1 L := (app_mem (sub_mem (suf := []) [8, 9, 10, 11, 12, 13, 14] rfl))
        refine fin_i (E := E) (wc := (wX2 E a1 s1 h1) ++ sW E.2.1 L) (wc' := (wX2 E a1 s1 h1) ++ sW E.2.1 L) (va_runVN (As := [.int x16]) (rest := []) ⟨hx, hb, hml, hown, hts⟩ (k_X2_hasThing l E a1 L N s1 h1 x16 q19 hc_19 _) ⟨va_cnB 1 hts gX1_firstOtherwise_X2_hasThing_n72 rfl rfl rfl (hG.1 (.methodLinkNest "PickedMatch$Notes" 72 yX2_hasThing "PickedMatch") (by decide +kernel)) (hts _ m_X1_firstOtherwise_4cf9d8) (by decide +kernel) ⟨(Nat.le_of_ble_eq_true rfl), (Nat.le_of_ble_eq_true rfl)⟩, (hts _ m_X1_firstOtherwise_0211d8), (hts _ m_X1_firstOtherwise_6099ba)⟩ (pre_v (ci := 2) (q0 := 0) hK (sub_P hm_19 hP) (sub_Ds (wc := wX2 E a1 s1 h1) [8, 9, 10, 11, 12, 13, 14] (by decide) rfl (hDD s0 s1 h1)) hS hG hAB rfl rfl) rfl rfl hl.1 rfl (lv_room (Nat.le_of_ble_eq_true rfl)) dX1_firstOtherwise_19 ⟨Nat.zero_le _, Nat.zero_le _⟩) hS (w_free (hDD s0 s1 h1) hS hA hm_19) (fun H locs hP1 hk hS => ?_)
        have hP := w_joins (ws' := wX1 E a0 s0 ++ (wX2 E a1 s1 h1)) (wc := wX2 E a1 s1 h1) (wc' := wX2 E a1 s1 h1) hP (hDD s0 s1 h1) [8, 9, 10, 11, 12, 13, 14] rfl [none, none, none, none, none, none, none, none, some 0, some 1, some 2, some 3, some 4, some 5, some 6] rfl rfl hk hP1
        refine lv_if_eq (tgt := 42) hx hb dX1_firstOtherwise_22 (by decide) (fun c_22 => ?_) (fun c_22 => ?_)
        · have hf := ite_t c_22 hf
          obtain ⟨x42, e_x42⟩ : ∃ y : Int32, y = v2 + 1 := ⟨_, rfl⟩
          have hf := nm_q e_x42 hf
          refine lv_iinc (v := x42) (lv' := [(2, .int x42), (3, .int x16), (0, .ref (a0 0)), (1, .ref (a1 0))]) hx hb dX1_firstOtherwise_42 hl (k := 3) rfl (by rw [e_x42]; rfl) (Nat.le_of_ble_eq_true rfl) rfl (fun ls hl => ?_)
          refine lv_goto (tgt := 2) hx hb dX1_firstOtherwise_45 (by decide) ?_
          exact ih_2 x42 hf _ _ _ hP hS (lv_sub hl [2, 3, 0] rfl)
        · have hf := ite_f c_22 hf
          refine lv_aload_n hx hb dX1_firstOtherwise_25 rfl (lv_at hl 2 rfl) ?_
          refine va_getN (ci := 2) (C := RX2) (T := TX2) (N := 11) (v := .ref (a1 3)) hx hb hts i_X1_firstOtherwise_X2 hown hK hP 8 rfl rfl 3 (by decide) (nwG hG (w := .fieldLinkNest "PickedMatch$Notes" 82 "PickedMatch$Scene" "marks" "[I" "PickedMatch") (by decide +kernel)) (fun _ h9 => h9) rfl dX1_firstOtherwise_26 ?_
          refine lv_iload_n hx hb dX1_firstOtherwise_29 rfl (lv_at hl 0 rfl) ?_
          obtain ⟨h_30, hf⟩ := ck_e hf
          refine va_iald (cA := E.2.1) (n := 6) (f := s1 3) hx hb hK hP 11 0 rfl rfl h_30 dX1_firstOtherwise_30 ?_
          refine lv_aload_n hx hb dX1_firstOtherwise_31 rfl (lv_at hl 1 rfl) ?_
          refine va_get (ci := 1) (C := RX1) (T := TX1) (N := 10) (v := .ref (a0 7)) hx hb hts i_X1_firstOtherwise_X1 hown hK hP 0 rfl rfl 8 (by decide) (hts _ m_X1_firstOtherwise_0bdb7a) (fun _ h9 => h9) rfl dX1_firstOtherwise_32 ?_
          refine lv_iload_n hx hb dX1_firstOtherwise_35 rfl (lv_at hl 3 rfl) ?_
          obtain ⟨h_36, hf⟩ := ck_e hf
          refine va_iald (cA := E.2.1) (n := 8) (f := s0 8) hx hb hK hP 7 0 rfl rfl h_36 dX1_firstOtherwise_36 ?_
          refine lv_icmp_eq (tgt := 42) hx hb dX1_firstOtherwise_37 (by decide) (fun c_37 => ?_) (fun c_37 => ?_)
          · have hf := ite_t c_37 hf
            obtain ⟨x42, e_x42⟩ : ∃ y : Int32, y = v2 + 1 := ⟨_, rfl⟩
            have hf := nm_q e_x42 hf
            refine lv_iinc (v := x42) (lv' := [(2, .int x42), (3, .int x16), (0, .ref (a0 0)), (1, .ref (a1 0))]) hx hb dX1_firstOtherwise_42 hl (k := 3) rfl (by rw [e_x42]; rfl) (Nat.le_of_ble_eq_true rfl) rfl (fun ls hl => ?_)
            refine lv_goto (tgt := 2) hx hb dX1_firstOtherwise_45 (by decide) ?_
            exact ih_2 x42 hf _ _ _ hP hS (lv_sub hl [2, 3, 0] rfl)
          · have hf := ite_f c_37 hf
            refine lv_iload_n hx hb dX1_firstOtherwise_40 rfl (lv_at hl 3 rfl) ?_
            have e9 := Option.some.inj hf
            exact rt_i hx hb hr hlocks e9 hP hS dX1_firstOtherwise_41
  refine lv_iconst (v := 0) hx hb dX1_firstOtherwise_0 (by decide) ?_
  refine lv_istore_n (lv' := [(2, .int 0), (0, .ref (a0 0)), (1, .ref (a1 0))]) hx hb dX1_firstOtherwise_1 rfl hl (Nat.le_of_ble_eq_true rfl) rfl (fun ls hl => ?_)
  exact hL_2 s0 s1 N 0 hf _ _ _ hP hS (lv_sub hl [1, 2, 0] rfl)
abbrev rm_X0_forget : Room := { frames := 0, cells := 0, slots := 0, locals := 0 }
theorem m_X0_forget_64b3b3 : Cond.fieldLink RX0 15 "PickedMatch$Acts" "ran" "I" ∈ wsX0_forget := by decide +kernel
theorem i_X0_forget_X0 : ∀ w ∈ wsX00, w ∈ wsX0_forget := fun _ h => List.mem_cons_of_mem _ (List.mem_append_right _ h)
set_option maxHeartbeats 8000000 in
set_option maxRecDepth 100000 in
theorem k_X0_forget (l : Launch) (E : Ev) (a0 : Nat → Nat) (N : Nat) (s0 : St) (q : (St)) (hf : f_X0_forget N s0 = some q) : Cv l yX0_forget wsX0_forget rm_X0_forget E [.ref (a0 0)] (wX0 E a0 s0) (wX0 E a0 q) := by
  unfold f_X0_forget at hf
  intro sz
  refine Met.ofW (cc := cX0_forget) (maxL := 1) (ret := none) (by decide) rfl ?_
  intro p e s m args below meth c s₁ B hml hv
  obtain ⟨rfl, hsz, hP, hK, hD0, hG, hA, hAB⟩ := start hv
  have hx := B.exec
  have hb := B.bytes
  have hr := B.returns
  have hts := atoms_spec (ws := wsX0_forget) B.pre
  have hown : s.vm.findClass RX0 = some m.cls := findClass_of_methodNamed B.named
  have hlocks := B.notSynchronized
  subst hsz
  generalize va_A (wX0 E a0 s0) s.heap.size = A0 at hD0 hA hAB ⊢
  have hDD : ∀ (s0 : St), va_D A0 (wX0 E a0 s0) := fun s0 => vD_addr hD0 rfl
  have hS : va_S A0 s.heap s.heap [] := va_S.rf
  have hl := lv_entry ([.ref (a0 0)]) (n := 1) (Nat.le_of_ble_eq_true rfl)
  rw [lg_entry_eq]
  generalize (lg_sl ([.ref (a0 0)]) ++ List.replicate (1 - (lg_sl ([.ref (a0 0)])).length) Slot.unset).toArray = ls at hl ⊢
  have hl : lv_has ls 1 [(0, .ref (a0 0))] := hl
  refine lv_aload_n hx hb dX0_forget_0 rfl (lv_at hl 0 rfl) ?_
  refine lv_iconst (v := 0) hx hb dX0_forget_1 (by decide) ?_
  refine va_put (ci := 0) (v := .int 0) (ty := .int) (C := RX0) (T := TX0) (N := 5) hx hb hts i_X0_forget_X0 tyX0 tyX0_ok nmX0 hown hK hP (hDD s0) hS 0 rfl rfl 1 (by decide) (hts _ m_X0_forget_64b3b3) (fun _ h9 => h9) rfl (by decide +kernel) rfl rfl (Nat.le_of_ble_eq_true rfl) dX0_forget_2 (fun H locs hP _ hS => ?_)
  obtain ⟨s0_2, hP, hf⟩ := nm_st' (P := fun z => va_P E.1 vwCl (wX0 E a0 z) H) hf hP
  have e9 := Option.some.inj hf
  exact rt_v hx hb hr hlocks (rtP (P := fun z => va_P E.1 vwCl (wX0 E a0 z) H) e9 hP) hS dX0_forget_5
abbrev rm_X0_keptCount : Room := { frames := 1, cells := 0, slots := 0, locals := 40 }
theorem m_X0_keptCount_64b3b3 : Cond.fieldLink RX0 15 "PickedMatch$Acts" "ran" "I" ∈ wsX0_keptCount := by decide +kernel
theorem i_X0_keptCount_X0 : ∀ w ∈ wsX00, w ∈ wsX0_keptCount := fun _ h => List.mem_cons_of_mem _ (List.mem_append_right _ h)
theorem m_X0_keptCount_53e079 : Cond.methodLink RX0 19 Lib.Math.min.name ∈ wsX0_keptCount := by decide +kernel
theorem m_X0_keptCount_1a05fe : Cond.static Lib.Math.min.name ∈ wsX0_keptCount := by decide +kernel
theorem m_X0_keptCount_0001fc : Cond.initialized "java/lang/Math" ∈ wsX0_keptCount := by decide +kernel
theorem m_X0_keptCount_5e99ca : Cond.code Lib.Math.min.name Lib.Math.min.code 2 (some .int) ∈ wsX0_keptCount := by decide +kernel
set_option maxHeartbeats 8000000 in
set_option maxRecDepth 100000 in
theorem k_X0_keptCount (l : Launch) (E : Ev) (a0 : Nat → Nat) (N : Nat) (s0 : St) (q : (Int32)) (hf : f_X0_keptCount N s0 = some q) : Ci l yX0_keptCount wsX0_keptCount rm_X0_keptCount E [.ref (a0 0)] (wX0 E a0 s0) (wX0 E a0 s0) q := by
  unfold f_X0_keptCount at hf
  intro sz
  refine Met.ofW (cc := cX0_keptCount) (maxL := 1) (ret := (some .int)) (by decide) rfl ?_
  intro p e s m args below meth c s₁ B hml hv
  obtain ⟨rfl, hsz, hP, hK, hD0, hG, hA, hAB⟩ := start hv
  have hx := B.exec
  have hb := B.bytes
  have hr := B.returns
  have hts := atoms_spec (ws := wsX0_keptCount) B.pre
  have hown : s.vm.findClass RX0 = some m.cls := findClass_of_methodNamed B.named
  have hlocks := B.notSynchronized
  subst hsz
  generalize va_A (wX0 E a0 s0) s.heap.size = A0 at hD0 hA hAB ⊢
  have hDD : ∀ (s0 : St), va_D A0 (wX0 E a0 s0) := fun s0 => vD_addr hD0 rfl
  have hS : va_S A0 s.heap s.heap [] := va_S.rf
  have hl := lv_entry ([.ref (a0 0)]) (n := 1) (Nat.le_of_ble_eq_true rfl)
  rw [lg_entry_eq]
  generalize (lg_sl ([.ref (a0 0)]) ++ List.replicate (1 - (lg_sl ([.ref (a0 0)])).length) Slot.unset).toArray = ls at hl ⊢
  have hl : lv_has ls 1 [(0, .ref (a0 0))] := hl
  refine lv_aload_n hx hb dX0_keptCount_0 rfl (lv_at hl 0 rfl) ?_
  refine va_get (ci := 0) (C := RX0) (T := TX0) (N := 5) (v := .int (s0 1 0)) hx hb hts i_X0_keptCount_X0 hown hK hP 0 rfl rfl 1 (by decide) (hts _ m_X0_keptCount_64b3b3) (fun _ h9 => h9) rfl dX0_keptCount_1 ?_
  refine lv_bipush (v := 20) hx hb dX0_keptCount_4 (by decide) ?_
  refine va_mmin hx hb (by rw [hml]; exact hl.1.symm) hown (hts _ m_X0_keptCount_53e079) (hts _ m_X0_keptCount_1a05fe) (hts _ m_X0_keptCount_0001fc) (hts _ m_X0_keptCount_5e99ca) (Nat.le_of_ble_eq_true rfl) (Nat.le_of_ble_eq_true rfl) (Nat.zero_le _) (Nat.zero_le _) dX0_keptCount_6 ?_
  have e9 := Option.some.inj hf
  exact rt_i hx hb hr hlocks e9 hP hS dX0_keptCount_9
abbrev rm_X0_begin : Room := { frames := 0, cells := 0, slots := 0, locals := 0 }
theorem m_X0_begin_64b3b3 : Cond.fieldLink RX0 15 "PickedMatch$Acts" "ran" "I" ∈ wsX0_begin := by decide +kernel
theorem i_X0_begin_X0 : ∀ w ∈ wsX00, w ∈ wsX0_begin := fun _ h => List.mem_cons_of_mem _ (List.mem_append_right _ h)
theorem m_X0_begin_3c5464 : Cond.fieldLink RX0 11 "PickedMatch$Acts" "bodies" "[I" ∈ wsX0_begin := by decide +kernel
set_option maxHeartbeats 8000000 in
set_option maxRecDepth 100000 in
theorem k_X0_begin (l : Launch) (E : Ev) (a0 : Nat → Nat) (N : Nat) (s0 : St) (p1 : Int32) (q : (St)) (hf : f_X0_begin N s0 p1 = some q) : Cv l yX0_begin wsX0_begin rm_X0_begin E [.ref (a0 0), .int p1] (wX0 E a0 s0) (wX0 E a0 q) := by
  unfold f_X0_begin at hf
  intro sz
  refine Met.ofW (cc := cX0_begin) (maxL := 2) (ret := none) (by decide) rfl ?_
  intro p e s m args below meth c s₁ B hml hv
  obtain ⟨rfl, hsz, hP, hK, hD0, hG, hA, hAB⟩ := start hv
  have hx := B.exec
  have hb := B.bytes
  have hr := B.returns
  have hts := atoms_spec (ws := wsX0_begin) B.pre
  have hown : s.vm.findClass RX0 = some m.cls := findClass_of_methodNamed B.named
  have hlocks := B.notSynchronized
  subst hsz
  generalize va_A (wX0 E a0 s0) s.heap.size = A0 at hD0 hA hAB ⊢
  have hDD : ∀ (s0 : St), va_D A0 (wX0 E a0 s0) := fun s0 => vD_addr hD0 rfl
  have hS : va_S A0 s.heap s.heap [] := va_S.rf
  have hl := lv_entry ([.ref (a0 0), .int p1]) (n := 2) (Nat.le_of_ble_eq_true rfl)
  rw [lg_entry_eq]
  generalize (lg_sl ([.ref (a0 0), .int p1]) ++ List.replicate (2 - (lg_sl ([.ref (a0 0), .int p1])).length) Slot.unset).toArray = ls at hl ⊢
  have hl : lv_has ls 2 [(0, .ref (a0 0)), (1, .int p1)] := hl
  refine lv_aload_n hx hb dX0_begin_0 rfl (lv_at hl 0 rfl) ?_
  refine va_get (ci := 0) (C := RX0) (T := TX0) (N := 5) (v := .int (s0 1 0)) hx hb hts i_X0_begin_X0 hown hK hP 0 rfl rfl 1 (by decide) (hts _ m_X0_begin_64b3b3) (fun _ h9 => h9) rfl dX0_begin_1 ?_
  refine lv_bipush (v := 20) hx hb dX0_begin_4 (by decide) ?_
  refine lv_icmp_ge (tgt := 19) hx hb dX0_begin_6 (by decide) (fun c_6 => ?_) (fun c_6 => ?_)
  · have hf := ite_t c_6 hf
    refine lv_aload_n hx hb dX0_begin_19 rfl (lv_at hl 0 rfl) ?_
    refine lv_dup hx hb dX0_begin_20 rfl ?_
    refine va_get (ci := 0) (C := RX0) (T := TX0) (N := 5) (v := .int (s0 1 0)) hx hb hts i_X0_begin_X0 hown hK hP 0 rfl rfl 1 (by decide) (hts _ m_X0_begin_64b3b3) (fun _ h9 => h9) rfl dX0_begin_21 ?_
    refine lv_iconst (v := 1) hx hb dX0_begin_24 (by decide) ?_
    refine lv_iadd hx hb dX0_begin_25 ?_
    refine va_put (ci := 0) (v := .int ((s0 1 0) + 1)) (ty := .int) (C := RX0) (T := TX0) (N := 5) hx hb hts i_X0_begin_X0 tyX0 tyX0_ok nmX0 hown hK hP (hDD s0) hS 0 rfl rfl 1 (by decide) (hts _ m_X0_begin_64b3b3) (fun _ h9 => h9) rfl (by decide +kernel) rfl rfl (Nat.le_of_ble_eq_true rfl) dX0_begin_26 (fun H locs hP _ hS => ?_)
    obtain ⟨s0_26, hP, hf⟩ := nm_st' (P := fun z => va_P E.1 vwCl (wX0 E a0 z) H) hf hP
    have e9 := Option.some.inj hf
    exact rt_v hx hb hr hlocks (rtP (P := fun z => va_P E.1 vwCl (wX0 E a0 z) H) e9 hP) hS dX0_begin_29
  · have hf := ite_f c_6 hf
    refine lv_aload_n hx hb dX0_begin_9 rfl (lv_at hl 0 rfl) ?_
    refine va_get (ci := 0) (C := RX0) (T := TX0) (N := 5) (v := .ref (a0 1)) hx hb hts i_X0_begin_X0 hown hK hP 0 rfl rfl 0 (by decide) (hts _ m_X0_begin_3c5464) (fun _ h9 => h9) rfl dX0_begin_10 ?_
    refine lv_aload_n hx hb dX0_begin_13 rfl (lv_at hl 0 rfl) ?_
    refine va_get (ci := 0) (C := RX0) (T := TX0) (N := 5) (v := .int (s0 1 0)) hx hb hts i_X0_begin_X0 hown hK hP 0 rfl rfl 1 (by decide) (hts _ m_X0_begin_64b3b3) (fun _ h9 => h9) rfl dX0_begin_14 ?_
    refine lv_iload_n hx hb dX0_begin_17 rfl (lv_at hl 1 rfl) ?_
    obtain ⟨h_18, hf⟩ := ck_e hf
    refine va_iast (cA := E.2.1) (n := 20) (f := s0 0) (x := p1) hx hb hK hP (hDD s0) hS 1 0 rfl rfl h_18 dX0_begin_18 (fun H locs hP _ hS => ?_)
    obtain ⟨s0_18, hP, hf⟩ := nm_st' (P := fun z => va_P E.1 vwCl (wX0 E a0 z) H) hf hP
    refine lv_aload_n hx hb dX0_begin_19 rfl (lv_at hl 0 rfl) ?_
    refine lv_dup hx hb dX0_begin_20 rfl ?_
    refine va_get (ci := 0) (C := RX0) (T := TX0) (N := 5) (v := .int (s0_18 1 0)) hx hb hts i_X0_begin_X0 hown hK hP 0 rfl rfl 1 (by decide) (hts _ m_X0_begin_64b3b3) (fun _ h9 => h9) rfl dX0_begin_21 ?_
    refine lv_iconst (v := 1) hx hb dX0_begin_24 (by decide) ?_
    refine lv_iadd hx hb dX0_begin_25 ?_
    refine va_put (ci := 0) (v := .int ((s0_18 1 0) + 1)) (ty := .int) (C := RX0) (T := TX0) (N := 5) hx hb hts i_X0_begin_X0 tyX0 tyX0_ok nmX0 hown hK hP (hDD s0_18) hS 0 rfl rfl 1 (by decide) (hts _ m_X0_begin_64b3b3) (fun _ h9 => h9) rfl (by decide +kernel) rfl rfl (Nat.le_of_ble_eq_true rfl) dX0_begin_26 (fun H locs hP _ hS => ?_)
    obtain ⟨s0_26, hP, hf⟩ := nm_st' (P := fun z => va_P E.1 vwCl (wX0 E a0 z) H) hf hP
    have e9 := Option.some.inj hf
    exact rt_v hx hb hr hlocks (rtP (P := fun z => va_P E.1 vwCl (wX0 E a0 z) H) e9 hP) hS dX0_begin_29
abbrev rm_X0_above : Room := { frames := 0, cells := 0, slots := 0, locals := 0 }
set_option maxHeartbeats 8000000 in
set_option maxRecDepth 100000 in
theorem k_X0_above (l : Launch) (E : Ev) (N : Nat) (p0 : Int32) (q : (Int32)) (hf : f_X0_above N p0 = some q) : Ci l yX0_above wsX0_above rm_X0_above E [.int p0] (([] : va_W)) (([] : va_W)) q := by
  unfold f_X0_above at hf
  intro sz
  refine Met.ofW (cc := cX0_above) (maxL := 1) (ret := (some .int)) (by decide) rfl ?_
  intro p e s m args below meth c s₁ B hml hv
  obtain ⟨rfl, hsz, hP, hK, hD0, hG, hA, hAB⟩ := start hv
  have hx := B.exec
  have hb := B.bytes
  have hr := B.returns
  have hts := atoms_spec (ws := wsX0_above) B.pre
  have hown : s.vm.findClass RX0 = some m.cls := findClass_of_methodNamed B.named
  have hlocks := B.notSynchronized
  subst hsz
  generalize va_A (([] : va_W)) s.heap.size = A0 at hD0 hA hAB ⊢
  have hDD : va_D A0 (([] : va_W)) := hD0
  have hS : va_S A0 s.heap s.heap [] := va_S.rf
  have hl := lv_entry ([.int p0]) (n := 1) (Nat.le_of_ble_eq_true rfl)
  rw [lg_entry_eq]
  generalize (lg_sl ([.int p0]) ++ List.replicate (1 - (lg_sl ([.int p0])).length) Slot.unset).toArray = ls at hl ⊢
  have hl : lv_has ls 1 [(0, .int p0)] := hl
  refine lv_iload_n hx hb dX0_above_0 rfl (lv_at hl 0 rfl) ?_
  refine lv_if_le (tgt := 20) hx hb dX0_above_1 (by decide) (fun c_1 => ?_) (fun c_1 => ?_)
  · have hf := ite_t c_1 hf
    refine lv_iconst (v := 0) hx hb dX0_above_20 (by decide) ?_
    have e9 := Option.some.inj hf
    exact rt_i hx hb hr hlocks e9 hP hS dX0_above_21
  · have hf := ite_f c_1 hf
    refine lv_iload_n hx hb dX0_above_4 rfl (lv_at hl 0 rfl) ?_
    refine va_getsN hx hb (hG.2.2.1.1.narrow hAB) hS hown (nwG hG (w := .fieldLinkNest "PickedMatch$Acts" 44 "PickedMatch" "KIND_ABOVE" "[I" "PickedMatch") (by decide +kernel)) (fun _ h9 => h9) dX0_above_5 ?_
    refine va_tlen (v := 7) hx hb (hG.2.2.1.2.1.narrow hAB) hS rfl dX0_above_8 ?_
    refine lv_icmp_ge (tgt := 20) hx hb dX0_above_9 (by decide) (fun c_9 => ?_) (fun c_9 => ?_)
    · have hf := ite_t c_9 hf
      refine lv_iconst (v := 0) hx hb dX0_above_20 (by decide) ?_
      have e9 := Option.some.inj hf
      exact rt_i hx hb hr hlocks e9 hP hS dX0_above_21
    · have hf := ite_f c_9 hf
      refine va_getsN hx hb (hG.2.2.1.1.narrow hAB) hS hown (nwG hG (w := .fieldLinkNest "PickedMatch$Acts" 44 "PickedMatch" "KIND_ABOVE" "[I" "PickedMatch") (by decide +kernel)) (fun _ h9 => h9) dX0_above_12 ?_
      refine lv_iload_n hx hb dX0_above_15 rfl (lv_at hl 0 rfl) ?_
      obtain ⟨h_16, hf⟩ := ck_e hf
      refine va_ti (v := .int (ka p0.toNatClampNeg)) hx hb (hG.2.2.1.2.1.narrow hAB) hS h_16 rfl dX0_above_16 ?_
      refine lv_goto (tgt := 21) hx hb dX0_above_17 (by decide) ?_
      have e9 := Option.some.inj hf
      exact rt_i hx hb hr hlocks e9 hP hS dX0_above_21
def rm_X0_runLies (D : Nat) : Room := { frames := 1 * D + 2, cells := 0, slots := 0, locals := 30 * D + 61 }
theorem m_X0_runLies_32fc62 : Cond.fieldLink RX0 28 "PickedMatch$Acts" "i" "I" ∈ wsX0_runLies := by decide +kernel
theorem i_X0_runLies_X0 : ∀ w ∈ wsX00, w ∈ wsX0_runLies := fun _ h => List.mem_cons_of_mem _ (List.mem_append_right _ h)
theorem m_X0_runLies_28bdf2 : Cond.fieldLink RX0 31 "PickedMatch$Acts" "v" "I" ∈ wsX0_runLies := by decide +kernel
set_option maxHeartbeats 8000000 in
set_option maxRecDepth 100000 in
theorem k_X0_runLies (l : Launch) (E : Ev) (a0 : Nat → Nat) (N : Nat) (D : Nat) (s0 : St) (p1 : Int32) (p2 : Int32) (p3 : Int32) (q : (Int32 × St)) (hf : f_X0_runLies N D s0 p1 p2 p3 = some q) : Ci l yX0_runLies wsX0_runLies (rm_X0_runLies D) E [.ref (a0 0), .int p1, .int p2, .int p3] (wX0 E a0 s0) (wX0 E a0 q.2) q.1 := by
  revert E a0 s0 p1 p2 p3 q hf
  induction D with
  | zero => intro E a0 s0 p1 p2 p3 q hf; rw [f_X0_runLies] at hf; cases hf
  | succ D ihD =>
  intro E a0 s0 p1 p2 p3 q hf
  rw [f_X0_runLies] at hf
  intro sz
  refine Met.ofW (cc := cX0_runLies) (maxL := 4) (ret := (some .int)) (by decide) rfl ?_
  intro p e s m args below meth c s₁ B hml hv
  obtain ⟨rfl, hsz, hP, hK, hD0, hG, hA, hAB⟩ := start hv
  have hx := B.exec
  have hb := B.bytes
  have hr := B.returns
  have hts := atoms_spec (ws := wsX0_runLies) B.pre
  have hown : s.vm.findClass RX0 = some m.cls := findClass_of_methodNamed B.named
  have hlocks := B.notSynchronized
  subst hsz
  generalize va_A (wX0 E a0 s0) s.heap.size = A0 at hD0 hA hAB ⊢
  have hDD : ∀ (s0 : St), va_D A0 (wX0 E a0 s0) := fun s0 => vD_addr hD0 rfl
  have hS : va_S A0 s.heap s.heap [] := va_S.rf
  have hl := lv_entry ([.ref (a0 0), .int p1, .int p2, .int p3]) (n := 4) (Nat.le_of_ble_eq_true rfl)
  rw [lg_entry_eq]
  generalize (lg_sl ([.ref (a0 0), .int p1, .int p2, .int p3]) ++ List.replicate (4 - (lg_sl ([.ref (a0 0), .int p1, .int p2, .int p3])).length) Slot.unset).toArray = ls at hl ⊢
  have hl : lv_has ls 4 [(0, .ref (a0 0)), (1, .int p1), (2, .int p2), (3, .int p3)] := hl
  refine lv_iload_n hx hb dX0_runLies_0 rfl (lv_at hl 3 rfl) ?_
  refine lv_bipush (v := 30) hx hb dX0_runLies_1 (by decide) ?_
  refine lv_icmp_le (tgt := 8) hx hb dX0_runLies_3 (by decide) (fun c_3 => ?_) (fun c_3 => ?_)
  · have hf := ite_t c_3 hf
    refine lv_iload_n hx hb dX0_runLies_8 rfl (lv_at hl 1 rfl) ?_
    by_cases c_9_0 : p1 = 0
    · have hf := ite_t c_9_0 hf
      refine lv_tableIn (off := 43) (tgt := 52) hx hb dX0_runLies_9 (by rw [c_9_0]; decide) (by rw [c_9_0]; decide) (by rw [c_9_0]; rfl) (by decide) ?_
      refine lv_aload_n hx hb dX0_runLies_52 rfl (lv_at hl 0 rfl) ?_
      refine lv_bipush (v := 10) hx hb dX0_runLies_53 (by decide) ?_
      obtain ⟨q55, hc_55, hf⟩ := cl_e hf
      refine fin_v (E := E) (wc := wX0 E a0 s0) (wc' := wX0 E a0 q55) (va_runV (As := [.int 10]) (rest := []) ⟨hx, hb, hml, hown, hts⟩ (k_X0_begin l E a0 N s0 10 q55 hc_55 _) (cwV 1 hts gX0_runLies_X0_begin rfl rfl rfl (by decide +kernel) ⟨(by simp only [headSpec, rm_X0_runLies, rm_X0_begin]; omega), (by simp only [headSpec, rm_X0_runLies, rm_X0_begin]; omega)⟩) (pre_v (ci := 0) (q0 := 0) hK hP (hDD s0) hS hG hAB rfl rfl) rfl rfl hl.1 rfl (lv_room (Nat.le_of_ble_eq_true rfl)) dX0_runLies_55 ⟨Nat.zero_le _, Nat.zero_le _⟩) hS (w_free (hDD s0) hS hA (fun _ h => h)) (fun H locs hP1 hk hS => ?_)
      have hP := hP1
      refine lv_iload_n hx hb dX0_runLies_58 rfl (lv_at hl 2 rfl) ?_
      refine lv_aload_n hx hb dX0_runLies_59 rfl (lv_at hl 0 rfl) ?_
      refine va_get (ci := 0) (C := RX0) (T := TX0) (N := 5) (v := .int (q55 3 0)) hx hb hts i_X0_runLies_X0 hown hK hP 0 rfl rfl 3 (by decide) (hts _ m_X0_runLies_32fc62) (fun _ h9 => h9) rfl dX0_runLies_60 ?_
      refine lv_iadd hx hb dX0_runLies_63 ?_
      have e9 := Option.some.inj hf
      exact rt_i hx hb hr hlocks (fst_e e9) (rtP (P := fun z => va_P E.1 vwCl (wX0 E a0 z.2) H) e9 hP) hS dX0_runLies_64
    · have hf := ite_f c_9_0 hf
      by_cases c_9_1 : p1 = 1
      · have hf := ite_t c_9_1 hf
        refine lv_tableIn (off := 122) (tgt := 131) hx hb dX0_runLies_9 (by rw [c_9_1]; decide) (by rw [c_9_1]; decide) (by rw [c_9_1]; rfl) (by decide) ?_
        refine lv_aload_n hx hb dX0_runLies_131 rfl (lv_at hl 0 rfl) ?_
        refine lv_iload_n hx hb dX0_runLies_132 rfl (lv_at hl 1 rfl) ?_
        obtain ⟨q133, hc_133, hf⟩ := cl_e hf
        refine fin_i (E := E) (wc := ([] : va_W)) (wc' := ([] : va_W)) (va_runS (As := [.int p1]) (rest := [.ref (a0 0)]) ⟨hx, hb, hml, hown, hts⟩ (k_X0_above l E N p1 q133 hc_133 _) (va_cwS 1 hts gX0_runLies_X0_above rfl rfl rfl (by decide +kernel) ⟨(by simp only [headSpec, rm_X0_runLies, rm_X0_above]; omega), (by simp only [headSpec, rm_X0_runLies, rm_X0_above]; omega)⟩) (pre_s hK va_P_nil va_D_nil hS hG hAB) rfl rfl hl.1 rfl (lv_room (Nat.le_of_ble_eq_true rfl)) dX0_runLies_133 ⟨Nat.zero_le _, Nat.zero_le _⟩) hS (free_nil hS hA) (fun H locs hP1 hk hS => ?_)
        have hP := w_kept0 hP hk
        refine lv_iload_n hx hb dX0_runLies_136 rfl (lv_at hl 2 rfl) ?_
        refine lv_iload_n hx hb dX0_runLies_137 rfl (lv_at hl 3 rfl) ?_
        refine lv_iconst (v := 1) hx hb dX0_runLies_138 (by decide) ?_
        refine lv_iadd hx hb dX0_runLies_139 ?_
        obtain ⟨q140, hc_140, hf⟩ := cl_e hf
        refine fin_i (E := E) (wc := wX0 E a0 s0) (wc' := wX0 E a0 q140.2) (va_runV (As := [.int q133, .int p2, .int (p3 + 1)]) (rest := []) ⟨hx, hb, hml, hown, hts⟩ (ihD E a0 s0 q133 p2 (p3 + 1) q140 hc_140 _) (cwV 3 hts gX0_runLies_X0_runLies rfl rfl rfl (by decide +kernel) ⟨(by simp only [headSpec, rm_X0_runLies, rm_X0_runLies]; omega), (by simp only [headSpec, rm_X0_runLies, rm_X0_runLies]; omega)⟩) (pre_v (ci := 0) (q0 := 0) hK hP (hDD s0) hS hG hAB rfl rfl) rfl rfl hl.1 rfl (lv_room (Nat.le_of_ble_eq_true rfl)) dX0_runLies_140 ⟨Nat.zero_le _, Nat.zero_le _⟩) hS (w_free (hDD s0) hS hA (fun _ h => h)) (fun H locs hP1 hk hS => ?_)
        have hP := hP1
        have e9 := Option.some.inj hf
        exact rt_i hx hb hr hlocks (fst_e e9) (rtP (P := fun z => va_P E.1 vwCl (wX0 E a0 z.2) H) e9 hP) hS dX0_runLies_143
      · have hf := ite_f c_9_1 hf
        by_cases c_9_2 : p1 = 2
        · have hf := ite_t c_9_2 hf
          refine lv_tableIn (off := 56) (tgt := 65) hx hb dX0_runLies_9 (by rw [c_9_2]; decide) (by rw [c_9_2]; decide) (by rw [c_9_2]; rfl) (by decide) ?_
          refine lv_aload_n hx hb dX0_runLies_65 rfl (lv_at hl 0 rfl) ?_
          refine lv_bipush (v := 30) hx hb dX0_runLies_66 (by decide) ?_
          obtain ⟨q68, hc_68, hf⟩ := cl_e hf
          refine fin_v (E := E) (wc := wX0 E a0 s0) (wc' := wX0 E a0 q68) (va_runV (As := [.int 30]) (rest := []) ⟨hx, hb, hml, hown, hts⟩ (k_X0_begin l E a0 N s0 30 q68 hc_68 _) (cwV 1 hts gX0_runLies_X0_begin rfl rfl rfl (by decide +kernel) ⟨(by simp only [headSpec, rm_X0_runLies, rm_X0_begin]; omega), (by simp only [headSpec, rm_X0_runLies, rm_X0_begin]; omega)⟩) (pre_v (ci := 0) (q0 := 0) hK hP (hDD s0) hS hG hAB rfl rfl) rfl rfl hl.1 rfl (lv_room (Nat.le_of_ble_eq_true rfl)) dX0_runLies_68 ⟨Nat.zero_le _, Nat.zero_le _⟩) hS (w_free (hDD s0) hS hA (fun _ h => h)) (fun H locs hP1 hk hS => ?_)
          have hP := hP1
          refine lv_aload_n hx hb dX0_runLies_71 rfl (lv_at hl 0 rfl) ?_
          refine lv_iconst (v := 2) hx hb dX0_runLies_72 (by decide) ?_
          obtain ⟨q73, hc_73, hf⟩ := cl_e hf
          refine fin_i (E := E) (wc := ([] : va_W)) (wc' := ([] : va_W)) (va_runS (As := [.int 2]) (rest := [.ref (a0 0)]) ⟨hx, hb, hml, hown, hts⟩ (k_X0_above l E N 2 q73 hc_73 _) (va_cwS 1 hts gX0_runLies_X0_above rfl rfl rfl (by decide +kernel) ⟨(by simp only [headSpec, rm_X0_runLies, rm_X0_above]; omega), (by simp only [headSpec, rm_X0_runLies, rm_X0_above]; omega)⟩) (pre_s hK va_P_nil va_D_nil hS hG hAB) rfl rfl hl.1 rfl (lv_room (Nat.le_of_ble_eq_true rfl)) dX0_runLies_73 ⟨Nat.zero_le _, Nat.zero_le _⟩) hS (free_nil hS hA) (fun H locs hP1 hk hS => ?_)
          have hP := w_kept0 hP hk
          refine lv_iload_n hx hb dX0_runLies_76 rfl (lv_at hl 2 rfl) ?_
          refine lv_iconst (v := 3) hx hb dX0_runLies_77 (by decide) ?_
          refine lv_imul hx hb dX0_runLies_78 ?_
          refine lv_iload_n hx hb dX0_runLies_79 rfl (lv_at hl 3 rfl) ?_
          refine lv_iconst (v := 1) hx hb dX0_runLies_80 (by decide) ?_
          refine lv_iadd hx hb dX0_runLies_81 ?_
          obtain ⟨q82, hc_82, hf⟩ := cl_e hf
          refine fin_i (E := E) (wc := wX0 E a0 q68) (wc' := wX0 E a0 q82.2) (va_runV (As := [.int q73, .int (p2 * 3), .int (p3 + 1)]) (rest := []) ⟨hx, hb, hml, hown, hts⟩ (ihD E a0 q68 q73 (p2 * 3) (p3 + 1) q82 hc_82 _) (cwV 3 hts gX0_runLies_X0_runLies rfl rfl rfl (by decide +kernel) ⟨(by simp only [headSpec, rm_X0_runLies, rm_X0_runLies]; omega), (by simp only [headSpec, rm_X0_runLies, rm_X0_runLies]; omega)⟩) (pre_v (ci := 0) (q0 := 0) hK hP (hDD q68) hS hG hAB rfl rfl) rfl rfl hl.1 rfl (lv_room (Nat.le_of_ble_eq_true rfl)) dX0_runLies_82 ⟨Nat.zero_le _, Nat.zero_le _⟩) hS (w_free (hDD q68) hS hA (fun _ h => h)) (fun H locs hP1 hk hS => ?_)
          have hP := hP1
          have e9 := Option.some.inj hf
          exact rt_i hx hb hr hlocks (fst_e e9) (rtP (P := fun z => va_P E.1 vwCl (wX0 E a0 z.2) H) e9 hP) hS dX0_runLies_85
        · have hf := ite_f c_9_2 hf
          by_cases c_9_3 : p1 = 3
          · have hf := ite_t c_9_3 hf
            refine lv_tableIn (off := 122) (tgt := 131) hx hb dX0_runLies_9 (by rw [c_9_3]; decide) (by rw [c_9_3]; decide) (by rw [c_9_3]; rfl) (by decide) ?_
            refine lv_aload_n hx hb dX0_runLies_131 rfl (lv_at hl 0 rfl) ?_
            refine lv_iload_n hx hb dX0_runLies_132 rfl (lv_at hl 1 rfl) ?_
            obtain ⟨q133, hc_133, hf⟩ := cl_e hf
            refine fin_i (E := E) (wc := ([] : va_W)) (wc' := ([] : va_W)) (va_runS (As := [.int p1]) (rest := [.ref (a0 0)]) ⟨hx, hb, hml, hown, hts⟩ (k_X0_above l E N p1 q133 hc_133 _) (va_cwS 1 hts gX0_runLies_X0_above rfl rfl rfl (by decide +kernel) ⟨(by simp only [headSpec, rm_X0_runLies, rm_X0_above]; omega), (by simp only [headSpec, rm_X0_runLies, rm_X0_above]; omega)⟩) (pre_s hK va_P_nil va_D_nil hS hG hAB) rfl rfl hl.1 rfl (lv_room (Nat.le_of_ble_eq_true rfl)) dX0_runLies_133 ⟨Nat.zero_le _, Nat.zero_le _⟩) hS (free_nil hS hA) (fun H locs hP1 hk hS => ?_)
            have hP := w_kept0 hP hk
            refine lv_iload_n hx hb dX0_runLies_136 rfl (lv_at hl 2 rfl) ?_
            refine lv_iload_n hx hb dX0_runLies_137 rfl (lv_at hl 3 rfl) ?_
            refine lv_iconst (v := 1) hx hb dX0_runLies_138 (by decide) ?_
            refine lv_iadd hx hb dX0_runLies_139 ?_
            obtain ⟨q140, hc_140, hf⟩ := cl_e hf
            refine fin_i (E := E) (wc := wX0 E a0 s0) (wc' := wX0 E a0 q140.2) (va_runV (As := [.int q133, .int p2, .int (p3 + 1)]) (rest := []) ⟨hx, hb, hml, hown, hts⟩ (ihD E a0 s0 q133 p2 (p3 + 1) q140 hc_140 _) (cwV 3 hts gX0_runLies_X0_runLies rfl rfl rfl (by decide +kernel) ⟨(by simp only [headSpec, rm_X0_runLies, rm_X0_runLies]; omega), (by simp only [headSpec, rm_X0_runLies, rm_X0_runLies]; omega)⟩) (pre_v (ci := 0) (q0 := 0) hK hP (hDD s0) hS hG hAB rfl rfl) rfl rfl hl.1 rfl (lv_room (Nat.le_of_ble_eq_true rfl)) dX0_runLies_140 ⟨Nat.zero_le _, Nat.zero_le _⟩) hS (w_free (hDD s0) hS hA (fun _ h => h)) (fun H locs hP1 hk hS => ?_)
            have hP := hP1
            have e9 := Option.some.inj hf
            exact rt_i hx hb hr hlocks (fst_e e9) (rtP (P := fun z => va_P E.1 vwCl (wX0 E a0 z.2) H) e9 hP) hS dX0_runLies_143
          · have hf := ite_f c_9_3 hf
            by_cases c_9_4 : p1 = 4
            · have hf := ite_t c_9_4 hf
              refine lv_tableIn (off := 77) (tgt := 86) hx hb dX0_runLies_9 (by rw [c_9_4]; decide) (by rw [c_9_4]; decide) (by rw [c_9_4]; rfl) (by decide) ?_
              refine lv_aload_n hx hb dX0_runLies_86 rfl (lv_at hl 0 rfl) ?_
              refine lv_bipush (v := 50) hx hb dX0_runLies_87 (by decide) ?_
              obtain ⟨q89, hc_89, hf⟩ := cl_e hf
              refine fin_v (E := E) (wc := wX0 E a0 s0) (wc' := wX0 E a0 q89) (va_runV (As := [.int 50]) (rest := []) ⟨hx, hb, hml, hown, hts⟩ (k_X0_begin l E a0 N s0 50 q89 hc_89 _) (cwV 1 hts gX0_runLies_X0_begin rfl rfl rfl (by decide +kernel) ⟨(by simp only [headSpec, rm_X0_runLies, rm_X0_begin]; omega), (by simp only [headSpec, rm_X0_runLies, rm_X0_begin]; omega)⟩) (pre_v (ci := 0) (q0 := 0) hK hP (hDD s0) hS hG hAB rfl rfl) rfl rfl hl.1 rfl (lv_room (Nat.le_of_ble_eq_true rfl)) dX0_runLies_89 ⟨Nat.zero_le _, Nat.zero_le _⟩) hS (w_free (hDD s0) hS hA (fun _ h => h)) (fun H locs hP1 hk hS => ?_)
              have hP := hP1
              refine lv_aload_n hx hb dX0_runLies_92 rfl (lv_at hl 0 rfl) ?_
              refine lv_iconst (v := 4) hx hb dX0_runLies_93 (by decide) ?_
              obtain ⟨q94, hc_94, hf⟩ := cl_e hf
              refine fin_i (E := E) (wc := ([] : va_W)) (wc' := ([] : va_W)) (va_runS (As := [.int 4]) (rest := [.ref (a0 0)]) ⟨hx, hb, hml, hown, hts⟩ (k_X0_above l E N 4 q94 hc_94 _) (va_cwS 1 hts gX0_runLies_X0_above rfl rfl rfl (by decide +kernel) ⟨(by simp only [headSpec, rm_X0_runLies, rm_X0_above]; omega), (by simp only [headSpec, rm_X0_runLies, rm_X0_above]; omega)⟩) (pre_s hK va_P_nil va_D_nil hS hG hAB) rfl rfl hl.1 rfl (lv_room (Nat.le_of_ble_eq_true rfl)) dX0_runLies_94 ⟨Nat.zero_le _, Nat.zero_le _⟩) hS (free_nil hS hA) (fun H locs hP1 hk hS => ?_)
              have hP := w_kept0 hP hk
              refine lv_iload_n hx hb dX0_runLies_97 rfl (lv_at hl 2 rfl) ?_
              refine lv_iload_n hx hb dX0_runLies_98 rfl (lv_at hl 3 rfl) ?_
              refine lv_iconst (v := 1) hx hb dX0_runLies_99 (by decide) ?_
              refine lv_iadd hx hb dX0_runLies_100 ?_
              obtain ⟨q101, hc_101, hf⟩ := cl_e hf
              refine fin_i (E := E) (wc := wX0 E a0 q89) (wc' := wX0 E a0 q101.2) (va_runV (As := [.int q94, .int p2, .int (p3 + 1)]) (rest := []) ⟨hx, hb, hml, hown, hts⟩ (ihD E a0 q89 q94 p2 (p3 + 1) q101 hc_101 _) (cwV 3 hts gX0_runLies_X0_runLies rfl rfl rfl (by decide +kernel) ⟨(by simp only [headSpec, rm_X0_runLies, rm_X0_runLies]; omega), (by simp only [headSpec, rm_X0_runLies, rm_X0_runLies]; omega)⟩) (pre_v (ci := 0) (q0 := 0) hK hP (hDD q89) hS hG hAB rfl rfl) rfl rfl hl.1 rfl (lv_room (Nat.le_of_ble_eq_true rfl)) dX0_runLies_101 ⟨Nat.zero_le _, Nat.zero_le _⟩) hS (w_free (hDD q89) hS hA (fun _ h => h)) (fun H locs hP1 hk hS => ?_)
              have hP := hP1
              refine lv_ineg hx hb dX0_runLies_104 ?_
              have e9 := Option.some.inj hf
              exact rt_i hx hb hr hlocks (fst_e e9) (rtP (P := fun z => va_P E.1 vwCl (wX0 E a0 z.2) H) e9 hP) hS dX0_runLies_105
            · have hf := ite_f c_9_4 hf
              by_cases c_9_5 : p1 = 5
              · have hf := ite_t c_9_5 hf
                refine lv_tableIn (off := 122) (tgt := 131) hx hb dX0_runLies_9 (by rw [c_9_5]; decide) (by rw [c_9_5]; decide) (by rw [c_9_5]; rfl) (by decide) ?_
                refine lv_aload_n hx hb dX0_runLies_131 rfl (lv_at hl 0 rfl) ?_
                refine lv_iload_n hx hb dX0_runLies_132 rfl (lv_at hl 1 rfl) ?_
                obtain ⟨q133, hc_133, hf⟩ := cl_e hf
                refine fin_i (E := E) (wc := ([] : va_W)) (wc' := ([] : va_W)) (va_runS (As := [.int p1]) (rest := [.ref (a0 0)]) ⟨hx, hb, hml, hown, hts⟩ (k_X0_above l E N p1 q133 hc_133 _) (va_cwS 1 hts gX0_runLies_X0_above rfl rfl rfl (by decide +kernel) ⟨(by simp only [headSpec, rm_X0_runLies, rm_X0_above]; omega), (by simp only [headSpec, rm_X0_runLies, rm_X0_above]; omega)⟩) (pre_s hK va_P_nil va_D_nil hS hG hAB) rfl rfl hl.1 rfl (lv_room (Nat.le_of_ble_eq_true rfl)) dX0_runLies_133 ⟨Nat.zero_le _, Nat.zero_le _⟩) hS (free_nil hS hA) (fun H locs hP1 hk hS => ?_)
                have hP := w_kept0 hP hk
                refine lv_iload_n hx hb dX0_runLies_136 rfl (lv_at hl 2 rfl) ?_
                refine lv_iload_n hx hb dX0_runLies_137 rfl (lv_at hl 3 rfl) ?_
                refine lv_iconst (v := 1) hx hb dX0_runLies_138 (by decide) ?_
                refine lv_iadd hx hb dX0_runLies_139 ?_
                obtain ⟨q140, hc_140, hf⟩ := cl_e hf
                refine fin_i (E := E) (wc := wX0 E a0 s0) (wc' := wX0 E a0 q140.2) (va_runV (As := [.int q133, .int p2, .int (p3 + 1)]) (rest := []) ⟨hx, hb, hml, hown, hts⟩ (ihD E a0 s0 q133 p2 (p3 + 1) q140 hc_140 _) (cwV 3 hts gX0_runLies_X0_runLies rfl rfl rfl (by decide +kernel) ⟨(by simp only [headSpec, rm_X0_runLies, rm_X0_runLies]; omega), (by simp only [headSpec, rm_X0_runLies, rm_X0_runLies]; omega)⟩) (pre_v (ci := 0) (q0 := 0) hK hP (hDD s0) hS hG hAB rfl rfl) rfl rfl hl.1 rfl (lv_room (Nat.le_of_ble_eq_true rfl)) dX0_runLies_140 ⟨Nat.zero_le _, Nat.zero_le _⟩) hS (w_free (hDD s0) hS hA (fun _ h => h)) (fun H locs hP1 hk hS => ?_)
                have hP := hP1
                have e9 := Option.some.inj hf
                exact rt_i hx hb hr hlocks (fst_e e9) (rtP (P := fun z => va_P E.1 vwCl (wX0 E a0 z.2) H) e9 hP) hS dX0_runLies_143
              · have hf := ite_f c_9_5 hf
                by_cases c_9_6 : p1 = 6
                · have hf := ite_t c_9_6 hf
                  refine lv_tableIn (off := 97) (tgt := 106) hx hb dX0_runLies_9 (by rw [c_9_6]; decide) (by rw [c_9_6]; decide) (by rw [c_9_6]; rfl) (by decide) ?_
                  refine lv_aload_n hx hb dX0_runLies_106 rfl (lv_at hl 0 rfl) ?_
                  refine lv_bipush (v := 71) hx hb dX0_runLies_107 (by decide) ?_
                  obtain ⟨q109, hc_109, hf⟩ := cl_e hf
                  refine fin_v (E := E) (wc := wX0 E a0 s0) (wc' := wX0 E a0 q109) (va_runV (As := [.int 71]) (rest := []) ⟨hx, hb, hml, hown, hts⟩ (k_X0_begin l E a0 N s0 71 q109 hc_109 _) (cwV 1 hts gX0_runLies_X0_begin rfl rfl rfl (by decide +kernel) ⟨(by simp only [headSpec, rm_X0_runLies, rm_X0_begin]; omega), (by simp only [headSpec, rm_X0_runLies, rm_X0_begin]; omega)⟩) (pre_v (ci := 0) (q0 := 0) hK hP (hDD s0) hS hG hAB rfl rfl) rfl rfl hl.1 rfl (lv_room (Nat.le_of_ble_eq_true rfl)) dX0_runLies_109 ⟨Nat.zero_le _, Nat.zero_le _⟩) hS (w_free (hDD s0) hS hA (fun _ h => h)) (fun H locs hP1 hk hS => ?_)
                  have hP := hP1
                  refine lv_aload_n hx hb dX0_runLies_112 rfl (lv_at hl 0 rfl) ?_
                  refine lv_bipush (v := 6) hx hb dX0_runLies_113 (by decide) ?_
                  obtain ⟨q115, hc_115, hf⟩ := cl_e hf
                  refine fin_i (E := E) (wc := ([] : va_W)) (wc' := ([] : va_W)) (va_runS (As := [.int 6]) (rest := [.ref (a0 0)]) ⟨hx, hb, hml, hown, hts⟩ (k_X0_above l E N 6 q115 hc_115 _) (va_cwS 1 hts gX0_runLies_X0_above rfl rfl rfl (by decide +kernel) ⟨(by simp only [headSpec, rm_X0_runLies, rm_X0_above]; omega), (by simp only [headSpec, rm_X0_runLies, rm_X0_above]; omega)⟩) (pre_s hK va_P_nil va_D_nil hS hG hAB) rfl rfl hl.1 rfl (lv_room (Nat.le_of_ble_eq_true rfl)) dX0_runLies_115 ⟨Nat.zero_le _, Nat.zero_le _⟩) hS (free_nil hS hA) (fun H locs hP1 hk hS => ?_)
                  have hP := w_kept0 hP hk
                  refine lv_iload_n hx hb dX0_runLies_118 rfl (lv_at hl 2 rfl) ?_
                  refine lv_iload_n hx hb dX0_runLies_119 rfl (lv_at hl 3 rfl) ?_
                  refine lv_iconst (v := 1) hx hb dX0_runLies_120 (by decide) ?_
                  refine lv_iadd hx hb dX0_runLies_121 ?_
                  obtain ⟨q122, hc_122, hf⟩ := cl_e hf
                  refine fin_i (E := E) (wc := wX0 E a0 q109) (wc' := wX0 E a0 q122.2) (va_runV (As := [.int q115, .int p2, .int (p3 + 1)]) (rest := []) ⟨hx, hb, hml, hown, hts⟩ (ihD E a0 q109 q115 p2 (p3 + 1) q122 hc_122 _) (cwV 3 hts gX0_runLies_X0_runLies rfl rfl rfl (by decide +kernel) ⟨(by simp only [headSpec, rm_X0_runLies, rm_X0_runLies]; omega), (by simp only [headSpec, rm_X0_runLies, rm_X0_runLies]; omega)⟩) (pre_v (ci := 0) (q0 := 0) hK hP (hDD q109) hS hG hAB rfl rfl) rfl rfl hl.1 rfl (lv_room (Nat.le_of_ble_eq_true rfl)) dX0_runLies_122 ⟨Nat.zero_le _, Nat.zero_le _⟩) hS (w_free (hDD q109) hS hA (fun _ h => h)) (fun H locs hP1 hk hS => ?_)
                  have hP := hP1
                  refine lv_aload_n hx hb dX0_runLies_125 rfl (lv_at hl 0 rfl) ?_
                  refine va_get (ci := 0) (C := RX0) (T := TX0) (N := 5) (v := .int (q122.2 4 0)) hx hb hts i_X0_runLies_X0 hown hK hP 0 rfl rfl 4 (by decide) (hts _ m_X0_runLies_28bdf2) (fun _ h9 => h9) rfl dX0_runLies_126 ?_
                  refine lv_ixor hx hb dX0_runLies_129 ?_
                  have e9 := Option.some.inj hf
                  exact rt_i hx hb hr hlocks (fst_e e9) (rtP (P := fun z => va_P E.1 vwCl (wX0 E a0 z.2) H) e9 hP) hS dX0_runLies_130
                · have hf := ite_f c_9_6 hf
                  refine lv_tableOut (tgt := 131) hx hb dX0_runLies_9 (by have n0 := lv_neT (a := 0) c_9_0 (by decide); have n1 := lv_neT (a := 1) c_9_1 (by decide); have n2 := lv_neT (a := 2) c_9_2 (by decide); have n3 := lv_neT (a := 3) c_9_3 (by decide); have n4 := lv_neT (a := 4) c_9_4 (by decide); have n5 := lv_neT (a := 5) c_9_5 (by decide); have n6 := lv_neT (a := 6) c_9_6 (by decide); omega) (by decide) ?_
                  refine lv_aload_n hx hb dX0_runLies_131 rfl (lv_at hl 0 rfl) ?_
                  refine lv_iload_n hx hb dX0_runLies_132 rfl (lv_at hl 1 rfl) ?_
                  obtain ⟨q133, hc_133, hf⟩ := cl_e hf
                  refine fin_i (E := E) (wc := ([] : va_W)) (wc' := ([] : va_W)) (va_runS (As := [.int p1]) (rest := [.ref (a0 0)]) ⟨hx, hb, hml, hown, hts⟩ (k_X0_above l E N p1 q133 hc_133 _) (va_cwS 1 hts gX0_runLies_X0_above rfl rfl rfl (by decide +kernel) ⟨(by simp only [headSpec, rm_X0_runLies, rm_X0_above]; omega), (by simp only [headSpec, rm_X0_runLies, rm_X0_above]; omega)⟩) (pre_s hK va_P_nil va_D_nil hS hG hAB) rfl rfl hl.1 rfl (lv_room (Nat.le_of_ble_eq_true rfl)) dX0_runLies_133 ⟨Nat.zero_le _, Nat.zero_le _⟩) hS (free_nil hS hA) (fun H locs hP1 hk hS => ?_)
                  have hP := w_kept0 hP hk
                  refine lv_iload_n hx hb dX0_runLies_136 rfl (lv_at hl 2 rfl) ?_
                  refine lv_iload_n hx hb dX0_runLies_137 rfl (lv_at hl 3 rfl) ?_
                  refine lv_iconst (v := 1) hx hb dX0_runLies_138 (by decide) ?_
                  refine lv_iadd hx hb dX0_runLies_139 ?_
                  obtain ⟨q140, hc_140, hf⟩ := cl_e hf
                  refine fin_i (E := E) (wc := wX0 E a0 s0) (wc' := wX0 E a0 q140.2) (va_runV (As := [.int q133, .int p2, .int (p3 + 1)]) (rest := []) ⟨hx, hb, hml, hown, hts⟩ (ihD E a0 s0 q133 p2 (p3 + 1) q140 hc_140 _) (cwV 3 hts gX0_runLies_X0_runLies rfl rfl rfl (by decide +kernel) ⟨(by simp only [headSpec, rm_X0_runLies, rm_X0_runLies]; omega), (by simp only [headSpec, rm_X0_runLies, rm_X0_runLies]; omega)⟩) (pre_v (ci := 0) (q0 := 0) hK hP (hDD s0) hS hG hAB rfl rfl) rfl rfl hl.1 rfl (lv_room (Nat.le_of_ble_eq_true rfl)) dX0_runLies_140 ⟨Nat.zero_le _, Nat.zero_le _⟩) hS (w_free (hDD s0) hS hA (fun _ h => h)) (fun H locs hP1 hk hS => ?_)
                  have hP := hP1
                  have e9 := Option.some.inj hf
                  exact rt_i hx hb hr hlocks (fst_e e9) (rtP (P := fun z => va_P E.1 vwCl (wX0 E a0 z.2) H) e9 hP) hS dX0_runLies_143
  · have hf := ite_f c_3 hf
    refine lv_iconst (v := 0) hx hb dX0_runLies_6 (by decide) ?_
    have e9 := Option.some.inj hf
    exact rt_i hx hb hr hlocks (fst_e e9) (rtP (P := fun z => va_P E.1 vwCl (wX0 E a0 z.2) s.heap) e9 hP) hS dX0_runLies_7
def rm_X0_runFits (D : Nat) : Room := { frames := 1 * D + 4, cells := 0, slots := 0, locals := 30 * D + 101 }
theorem m_X0_runFits_18e5ef : Cond.fieldLink RX0 25 "PickedMatch$Acts" "kind" "I" ∈ wsX0_runFits := by decide +kernel
theorem i_X0_runFits_X0 : ∀ w ∈ wsX00, w ∈ wsX0_runFits := fun _ h => List.mem_cons_of_mem _ (List.mem_append_right _ h)
theorem m_X0_runFits_28bdf2 : Cond.fieldLink RX0 31 "PickedMatch$Acts" "v" "I" ∈ wsX0_runFits := by decide +kernel
set_option maxHeartbeats 8000000 in
set_option maxRecDepth 100000 in
theorem k_X0_runFits (l : Launch) (E : Ev) (a0 : Nat → Nat) (N : Nat) (D : Nat) (s0 : St) (p1 : Int32) (p2 : Int32) (p3 : Int32) (q : (Int32 × St)) (hf : f_X0_runFits N D s0 p1 p2 p3 = some q) : Ci l yX0_runFits wsX0_runFits (rm_X0_runFits D) E [.ref (a0 0), .int p1, .int p2, .int p3] (wX0 E a0 s0) (wX0 E a0 q.2) q.1 := by
  revert E a0 s0 p1 p2 p3 q hf
  induction D with
  | zero => intro E a0 s0 p1 p2 p3 q hf; rw [f_X0_runFits] at hf; cases hf
  | succ D ihD =>
  intro E a0 s0 p1 p2 p3 q hf
  rw [f_X0_runFits] at hf
  intro sz
  refine Met.ofW (cc := cX0_runFits) (maxL := 4) (ret := (some .int)) (by decide) rfl ?_
  intro p e s m args below meth c s₁ B hml hv
  obtain ⟨rfl, hsz, hP, hK, hD0, hG, hA, hAB⟩ := start hv
  have hx := B.exec
  have hb := B.bytes
  have hr := B.returns
  have hts := atoms_spec (ws := wsX0_runFits) B.pre
  have hown : s.vm.findClass RX0 = some m.cls := findClass_of_methodNamed B.named
  have hlocks := B.notSynchronized
  subst hsz
  generalize va_A (wX0 E a0 s0) s.heap.size = A0 at hD0 hA hAB ⊢
  have hDD : ∀ (s0 : St), va_D A0 (wX0 E a0 s0) := fun s0 => vD_addr hD0 rfl
  have hS : va_S A0 s.heap s.heap [] := va_S.rf
  have hl := lv_entry ([.ref (a0 0), .int p1, .int p2, .int p3]) (n := 4) (Nat.le_of_ble_eq_true rfl)
  rw [lg_entry_eq]
  generalize (lg_sl ([.ref (a0 0), .int p1, .int p2, .int p3]) ++ List.replicate (4 - (lg_sl ([.ref (a0 0), .int p1, .int p2, .int p3])).length) Slot.unset).toArray = ls at hl ⊢
  have hl : lv_has ls 4 [(0, .ref (a0 0)), (1, .int p1), (2, .int p2), (3, .int p3)] := hl
  refine lv_iload_n hx hb dX0_runFits_0 rfl (lv_at hl 3 rfl) ?_
  refine lv_bipush (v := 30) hx hb dX0_runFits_1 (by decide) ?_
  refine lv_icmp_le (tgt := 8) hx hb dX0_runFits_3 (by decide) (fun c_3 => ?_) (fun c_3 => ?_)
  · have hf := ite_t c_3 hf
    refine lv_iload_n hx hb dX0_runFits_8 rfl (lv_at hl 1 rfl) ?_
    by_cases c_9_0 : p1 = 0
    · have hf := ite_t c_9_0 hf
      refine lv_tableIn (off := 43) (tgt := 52) hx hb dX0_runFits_9 (by rw [c_9_0]; decide) (by rw [c_9_0]; decide) (by rw [c_9_0]; rfl) (by decide) ?_
      refine lv_aload_n hx hb dX0_runFits_52 rfl (lv_at hl 0 rfl) ?_
      refine lv_bipush (v := 11) hx hb dX0_runFits_53 (by decide) ?_
      obtain ⟨q55, hc_55, hf⟩ := cl_e hf
      refine fin_v (E := E) (wc := wX0 E a0 s0) (wc' := wX0 E a0 q55) (va_runV (As := [.int 11]) (rest := []) ⟨hx, hb, hml, hown, hts⟩ (k_X0_begin l E a0 N s0 11 q55 hc_55 _) (cwV 1 hts gX0_runFits_X0_begin rfl rfl rfl (by decide +kernel) ⟨(by simp only [headSpec, rm_X0_runFits, rm_X0_begin]; omega), (by simp only [headSpec, rm_X0_runFits, rm_X0_begin]; omega)⟩) (pre_v (ci := 0) (q0 := 0) hK hP (hDD s0) hS hG hAB rfl rfl) rfl rfl hl.1 rfl (lv_room (Nat.le_of_ble_eq_true rfl)) dX0_runFits_55 ⟨Nat.zero_le _, Nat.zero_le _⟩) hS (w_free (hDD s0) hS hA (fun _ h => h)) (fun H locs hP1 hk hS => ?_)
      have hP := hP1
      refine lv_aload_n hx hb dX0_runFits_58 rfl (lv_at hl 0 rfl) ?_
      refine lv_aload_n hx hb dX0_runFits_59 rfl (lv_at hl 0 rfl) ?_
      refine va_get (ci := 0) (C := RX0) (T := TX0) (N := 5) (v := .int (q55 2 0)) hx hb hts i_X0_runFits_X0 hown hK hP 0 rfl rfl 2 (by decide) (hts _ m_X0_runFits_18e5ef) (fun _ h9 => h9) rfl dX0_runFits_60 ?_
      refine lv_iload_n hx hb dX0_runFits_63 rfl (lv_at hl 2 rfl) ?_
      refine lv_iload_n hx hb dX0_runFits_64 rfl (lv_at hl 3 rfl) ?_
      refine lv_iconst (v := 1) hx hb dX0_runFits_65 (by decide) ?_
      refine lv_iadd hx hb dX0_runFits_66 ?_
      obtain ⟨q67, hc_67, hf⟩ := cl_e hf
      refine fin_i (E := E) (wc := wX0 E a0 q55) (wc' := wX0 E a0 q67.2) (va_runV (As := [.int (q55 2 0), .int p2, .int (p3 + 1)]) (rest := []) ⟨hx, hb, hml, hown, hts⟩ (k_X0_runLies l E a0 N D q55 (q55 2 0) p2 (p3 + 1) q67 hc_67 _) (cwV 3 hts gX0_runFits_X0_runLies rfl rfl rfl (by decide +kernel) ⟨(by simp only [headSpec, rm_X0_runFits, rm_X0_runLies]; omega), (by simp only [headSpec, rm_X0_runFits, rm_X0_runLies]; omega)⟩) (pre_v (ci := 0) (q0 := 0) hK hP (hDD q55) hS hG hAB rfl rfl) rfl rfl hl.1 rfl (lv_room (Nat.le_of_ble_eq_true rfl)) dX0_runFits_67 ⟨Nat.zero_le _, Nat.zero_le _⟩) hS (w_free (hDD q55) hS hA (fun _ h => h)) (fun H locs hP1 hk hS => ?_)
      have hP := hP1
      refine lv_aload_n hx hb dX0_runFits_70 rfl (lv_at hl 0 rfl) ?_
      refine va_get (ci := 0) (C := RX0) (T := TX0) (N := 5) (v := .int (q67.2 4 0)) hx hb hts i_X0_runFits_X0 hown hK hP 0 rfl rfl 4 (by decide) (hts _ m_X0_runFits_28bdf2) (fun _ h9 => h9) rfl dX0_runFits_71 ?_
      refine lv_isub hx hb dX0_runFits_74 ?_
      have e9 := Option.some.inj hf
      exact rt_i hx hb hr hlocks (fst_e e9) (rtP (P := fun z => va_P E.1 vwCl (wX0 E a0 z.2) H) e9 hP) hS dX0_runFits_75
    · have hf := ite_f c_9_0 hf
      by_cases c_9_1 : p1 = 1
      · have hf := ite_t c_9_1 hf
        refine lv_tableIn (off := 67) (tgt := 76) hx hb dX0_runFits_9 (by rw [c_9_1]; decide) (by rw [c_9_1]; decide) (by rw [c_9_1]; rfl) (by decide) ?_
        refine lv_aload_n hx hb dX0_runFits_76 rfl (lv_at hl 0 rfl) ?_
        refine lv_bipush (v := 20) hx hb dX0_runFits_77 (by decide) ?_
        obtain ⟨q79, hc_79, hf⟩ := cl_e hf
        refine fin_v (E := E) (wc := wX0 E a0 s0) (wc' := wX0 E a0 q79) (va_runV (As := [.int 20]) (rest := []) ⟨hx, hb, hml, hown, hts⟩ (k_X0_begin l E a0 N s0 20 q79 hc_79 _) (cwV 1 hts gX0_runFits_X0_begin rfl rfl rfl (by decide +kernel) ⟨(by simp only [headSpec, rm_X0_runFits, rm_X0_begin]; omega), (by simp only [headSpec, rm_X0_runFits, rm_X0_begin]; omega)⟩) (pre_v (ci := 0) (q0 := 0) hK hP (hDD s0) hS hG hAB rfl rfl) rfl rfl hl.1 rfl (lv_room (Nat.le_of_ble_eq_true rfl)) dX0_runFits_79 ⟨Nat.zero_le _, Nat.zero_le _⟩) hS (w_free (hDD s0) hS hA (fun _ h => h)) (fun H locs hP1 hk hS => ?_)
        have hP := hP1
        refine lv_aload_n hx hb dX0_runFits_82 rfl (lv_at hl 0 rfl) ?_
        refine lv_iconst (v := 1) hx hb dX0_runFits_83 (by decide) ?_
        obtain ⟨q84, hc_84, hf⟩ := cl_e hf
        refine fin_i (E := E) (wc := ([] : va_W)) (wc' := ([] : va_W)) (va_runS (As := [.int 1]) (rest := [.ref (a0 0)]) ⟨hx, hb, hml, hown, hts⟩ (k_X0_above l E N 1 q84 hc_84 _) (va_cwS 1 hts gX0_runFits_X0_above rfl rfl rfl (by decide +kernel) ⟨(by simp only [headSpec, rm_X0_runFits, rm_X0_above]; omega), (by simp only [headSpec, rm_X0_runFits, rm_X0_above]; omega)⟩) (pre_s hK va_P_nil va_D_nil hS hG hAB) rfl rfl hl.1 rfl (lv_room (Nat.le_of_ble_eq_true rfl)) dX0_runFits_84 ⟨Nat.zero_le _, Nat.zero_le _⟩) hS (free_nil hS hA) (fun H locs hP1 hk hS => ?_)
        have hP := w_kept0 hP hk
        refine lv_iload_n hx hb dX0_runFits_87 rfl (lv_at hl 2 rfl) ?_
        refine lv_iload_n hx hb dX0_runFits_88 rfl (lv_at hl 3 rfl) ?_
        refine lv_iconst (v := 1) hx hb dX0_runFits_89 (by decide) ?_
        refine lv_iadd hx hb dX0_runFits_90 ?_
        obtain ⟨q91, hc_91, hf⟩ := cl_e hf
        refine fin_i (E := E) (wc := wX0 E a0 q79) (wc' := wX0 E a0 q91.2) (va_runV (As := [.int q84, .int p2, .int (p3 + 1)]) (rest := []) ⟨hx, hb, hml, hown, hts⟩ (ihD E a0 q79 q84 p2 (p3 + 1) q91 hc_91 _) (cwV 3 hts gX0_runFits_X0_runFits rfl rfl rfl (by decide +kernel) ⟨(by simp only [headSpec, rm_X0_runFits, rm_X0_runFits]; omega), (by simp only [headSpec, rm_X0_runFits, rm_X0_runFits]; omega)⟩) (pre_v (ci := 0) (q0 := 0) hK hP (hDD q79) hS hG hAB rfl rfl) rfl rfl hl.1 rfl (lv_room (Nat.le_of_ble_eq_true rfl)) dX0_runFits_91 ⟨Nat.zero_le _, Nat.zero_le _⟩) hS (w_free (hDD q79) hS hA (fun _ h => h)) (fun H locs hP1 hk hS => ?_)
        have hP := hP1
        refine lv_bipush (v := 6) hx hb dX0_runFits_94 (by decide) ?_
        refine lv_ixor hx hb dX0_runFits_96 ?_
        have e9 := Option.some.inj hf
        exact rt_i hx hb hr hlocks (fst_e e9) (rtP (P := fun z => va_P E.1 vwCl (wX0 E a0 z.2) H) e9 hP) hS dX0_runFits_97
      · have hf := ite_f c_9_1 hf
        by_cases c_9_2 : p1 = 2
        · have hf := ite_t c_9_2 hf
          refine lv_tableIn (off := 144) (tgt := 153) hx hb dX0_runFits_9 (by rw [c_9_2]; decide) (by rw [c_9_2]; decide) (by rw [c_9_2]; rfl) (by decide) ?_
          refine lv_aload_n hx hb dX0_runFits_153 rfl (lv_at hl 0 rfl) ?_
          refine lv_iload_n hx hb dX0_runFits_154 rfl (lv_at hl 1 rfl) ?_
          obtain ⟨q155, hc_155, hf⟩ := cl_e hf
          refine fin_i (E := E) (wc := ([] : va_W)) (wc' := ([] : va_W)) (va_runS (As := [.int p1]) (rest := [.ref (a0 0)]) ⟨hx, hb, hml, hown, hts⟩ (k_X0_above l E N p1 q155 hc_155 _) (va_cwS 1 hts gX0_runFits_X0_above rfl rfl rfl (by decide +kernel) ⟨(by simp only [headSpec, rm_X0_runFits, rm_X0_above]; omega), (by simp only [headSpec, rm_X0_runFits, rm_X0_above]; omega)⟩) (pre_s hK va_P_nil va_D_nil hS hG hAB) rfl rfl hl.1 rfl (lv_room (Nat.le_of_ble_eq_true rfl)) dX0_runFits_155 ⟨Nat.zero_le _, Nat.zero_le _⟩) hS (free_nil hS hA) (fun H locs hP1 hk hS => ?_)
          have hP := w_kept0 hP hk
          refine lv_iload_n hx hb dX0_runFits_158 rfl (lv_at hl 2 rfl) ?_
          refine lv_iload_n hx hb dX0_runFits_159 rfl (lv_at hl 3 rfl) ?_
          refine lv_iconst (v := 1) hx hb dX0_runFits_160 (by decide) ?_
          refine lv_iadd hx hb dX0_runFits_161 ?_
          obtain ⟨q162, hc_162, hf⟩ := cl_e hf
          refine fin_i (E := E) (wc := wX0 E a0 s0) (wc' := wX0 E a0 q162.2) (va_runV (As := [.int q155, .int p2, .int (p3 + 1)]) (rest := []) ⟨hx, hb, hml, hown, hts⟩ (ihD E a0 s0 q155 p2 (p3 + 1) q162 hc_162 _) (cwV 3 hts gX0_runFits_X0_runFits rfl rfl rfl (by decide +kernel) ⟨(by simp only [headSpec, rm_X0_runFits, rm_X0_runFits]; omega), (by simp only [headSpec, rm_X0_runFits, rm_X0_runFits]; omega)⟩) (pre_v (ci := 0) (q0 := 0) hK hP (hDD s0) hS hG hAB rfl rfl) rfl rfl hl.1 rfl (lv_room (Nat.le_of_ble_eq_true rfl)) dX0_runFits_162 ⟨Nat.zero_le _, Nat.zero_le _⟩) hS (w_free (hDD s0) hS hA (fun _ h => h)) (fun H locs hP1 hk hS => ?_)
          have hP := hP1
          have e9 := Option.some.inj hf
          exact rt_i hx hb hr hlocks (fst_e e9) (rtP (P := fun z => va_P E.1 vwCl (wX0 E a0 z.2) H) e9 hP) hS dX0_runFits_165
        · have hf := ite_f c_9_2 hf
          by_cases c_9_3 : p1 = 3
          · have hf := ite_t c_9_3 hf
            refine lv_tableIn (off := 144) (tgt := 153) hx hb dX0_runFits_9 (by rw [c_9_3]; decide) (by rw [c_9_3]; decide) (by rw [c_9_3]; rfl) (by decide) ?_
            refine lv_aload_n hx hb dX0_runFits_153 rfl (lv_at hl 0 rfl) ?_
            refine lv_iload_n hx hb dX0_runFits_154 rfl (lv_at hl 1 rfl) ?_
            obtain ⟨q155, hc_155, hf⟩ := cl_e hf
            refine fin_i (E := E) (wc := ([] : va_W)) (wc' := ([] : va_W)) (va_runS (As := [.int p1]) (rest := [.ref (a0 0)]) ⟨hx, hb, hml, hown, hts⟩ (k_X0_above l E N p1 q155 hc_155 _) (va_cwS 1 hts gX0_runFits_X0_above rfl rfl rfl (by decide +kernel) ⟨(by simp only [headSpec, rm_X0_runFits, rm_X0_above]; omega), (by simp only [headSpec, rm_X0_runFits, rm_X0_above]; omega)⟩) (pre_s hK va_P_nil va_D_nil hS hG hAB) rfl rfl hl.1 rfl (lv_room (Nat.le_of_ble_eq_true rfl)) dX0_runFits_155 ⟨Nat.zero_le _, Nat.zero_le _⟩) hS (free_nil hS hA) (fun H locs hP1 hk hS => ?_)
            have hP := w_kept0 hP hk
            refine lv_iload_n hx hb dX0_runFits_158 rfl (lv_at hl 2 rfl) ?_
            refine lv_iload_n hx hb dX0_runFits_159 rfl (lv_at hl 3 rfl) ?_
            refine lv_iconst (v := 1) hx hb dX0_runFits_160 (by decide) ?_
            refine lv_iadd hx hb dX0_runFits_161 ?_
            obtain ⟨q162, hc_162, hf⟩ := cl_e hf
            refine fin_i (E := E) (wc := wX0 E a0 s0) (wc' := wX0 E a0 q162.2) (va_runV (As := [.int q155, .int p2, .int (p3 + 1)]) (rest := []) ⟨hx, hb, hml, hown, hts⟩ (ihD E a0 s0 q155 p2 (p3 + 1) q162 hc_162 _) (cwV 3 hts gX0_runFits_X0_runFits rfl rfl rfl (by decide +kernel) ⟨(by simp only [headSpec, rm_X0_runFits, rm_X0_runFits]; omega), (by simp only [headSpec, rm_X0_runFits, rm_X0_runFits]; omega)⟩) (pre_v (ci := 0) (q0 := 0) hK hP (hDD s0) hS hG hAB rfl rfl) rfl rfl hl.1 rfl (lv_room (Nat.le_of_ble_eq_true rfl)) dX0_runFits_162 ⟨Nat.zero_le _, Nat.zero_le _⟩) hS (w_free (hDD s0) hS hA (fun _ h => h)) (fun H locs hP1 hk hS => ?_)
            have hP := hP1
            have e9 := Option.some.inj hf
            exact rt_i hx hb hr hlocks (fst_e e9) (rtP (P := fun z => va_P E.1 vwCl (wX0 E a0 z.2) H) e9 hP) hS dX0_runFits_165
          · have hf := ite_f c_9_3 hf
            by_cases c_9_4 : p1 = 4
            · have hf := ite_t c_9_4 hf
              refine lv_tableIn (off := 89) (tgt := 98) hx hb dX0_runFits_9 (by rw [c_9_4]; decide) (by rw [c_9_4]; decide) (by rw [c_9_4]; rfl) (by decide) ?_
              refine lv_aload_n hx hb dX0_runFits_98 rfl (lv_at hl 0 rfl) ?_
              refine lv_bipush (v := 51) hx hb dX0_runFits_99 (by decide) ?_
              obtain ⟨q101, hc_101, hf⟩ := cl_e hf
              refine fin_v (E := E) (wc := wX0 E a0 s0) (wc' := wX0 E a0 q101) (va_runV (As := [.int 51]) (rest := []) ⟨hx, hb, hml, hown, hts⟩ (k_X0_begin l E a0 N s0 51 q101 hc_101 _) (cwV 1 hts gX0_runFits_X0_begin rfl rfl rfl (by decide +kernel) ⟨(by simp only [headSpec, rm_X0_runFits, rm_X0_begin]; omega), (by simp only [headSpec, rm_X0_runFits, rm_X0_begin]; omega)⟩) (pre_v (ci := 0) (q0 := 0) hK hP (hDD s0) hS hG hAB rfl rfl) rfl rfl hl.1 rfl (lv_room (Nat.le_of_ble_eq_true rfl)) dX0_runFits_101 ⟨Nat.zero_le _, Nat.zero_le _⟩) hS (w_free (hDD s0) hS hA (fun _ h => h)) (fun H locs hP1 hk hS => ?_)
              have hP := hP1
              refine lv_aload_n hx hb dX0_runFits_104 rfl (lv_at hl 0 rfl) ?_
              refine lv_iconst (v := 4) hx hb dX0_runFits_105 (by decide) ?_
              obtain ⟨q106, hc_106, hf⟩ := cl_e hf
              refine fin_i (E := E) (wc := ([] : va_W)) (wc' := ([] : va_W)) (va_runS (As := [.int 4]) (rest := [.ref (a0 0)]) ⟨hx, hb, hml, hown, hts⟩ (k_X0_above l E N 4 q106 hc_106 _) (va_cwS 1 hts gX0_runFits_X0_above rfl rfl rfl (by decide +kernel) ⟨(by simp only [headSpec, rm_X0_runFits, rm_X0_above]; omega), (by simp only [headSpec, rm_X0_runFits, rm_X0_above]; omega)⟩) (pre_s hK va_P_nil va_D_nil hS hG hAB) rfl rfl hl.1 rfl (lv_room (Nat.le_of_ble_eq_true rfl)) dX0_runFits_106 ⟨Nat.zero_le _, Nat.zero_le _⟩) hS (free_nil hS hA) (fun H locs hP1 hk hS => ?_)
              have hP := w_kept0 hP hk
              refine lv_iload_n hx hb dX0_runFits_109 rfl (lv_at hl 2 rfl) ?_
              refine lv_iconst (v := 1) hx hb dX0_runFits_110 (by decide) ?_
              refine lv_iadd hx hb dX0_runFits_111 ?_
              refine lv_iload_n hx hb dX0_runFits_112 rfl (lv_at hl 3 rfl) ?_
              refine lv_iconst (v := 1) hx hb dX0_runFits_113 (by decide) ?_
              refine lv_iadd hx hb dX0_runFits_114 ?_
              obtain ⟨q115, hc_115, hf⟩ := cl_e hf
              refine fin_i (E := E) (wc := wX0 E a0 q101) (wc' := wX0 E a0 q115.2) (va_runV (As := [.int q106, .int (p2 + 1), .int (p3 + 1)]) (rest := []) ⟨hx, hb, hml, hown, hts⟩ (ihD E a0 q101 q106 (p2 + 1) (p3 + 1) q115 hc_115 _) (cwV 3 hts gX0_runFits_X0_runFits rfl rfl rfl (by decide +kernel) ⟨(by simp only [headSpec, rm_X0_runFits, rm_X0_runFits]; omega), (by simp only [headSpec, rm_X0_runFits, rm_X0_runFits]; omega)⟩) (pre_v (ci := 0) (q0 := 0) hK hP (hDD q101) hS hG hAB rfl rfl) rfl rfl hl.1 rfl (lv_room (Nat.le_of_ble_eq_true rfl)) dX0_runFits_115 ⟨Nat.zero_le _, Nat.zero_le _⟩) hS (w_free (hDD q101) hS hA (fun _ h => h)) (fun H locs hP1 hk hS => ?_)
              have hP := hP1
              have e9 := Option.some.inj hf
              exact rt_i hx hb hr hlocks (fst_e e9) (rtP (P := fun z => va_P E.1 vwCl (wX0 E a0 z.2) H) e9 hP) hS dX0_runFits_118
            · have hf := ite_f c_9_4 hf
              by_cases c_9_5 : p1 = 5
              · have hf := ite_t c_9_5 hf
                refine lv_tableIn (off := 144) (tgt := 153) hx hb dX0_runFits_9 (by rw [c_9_5]; decide) (by rw [c_9_5]; decide) (by rw [c_9_5]; rfl) (by decide) ?_
                refine lv_aload_n hx hb dX0_runFits_153 rfl (lv_at hl 0 rfl) ?_
                refine lv_iload_n hx hb dX0_runFits_154 rfl (lv_at hl 1 rfl) ?_
                obtain ⟨q155, hc_155, hf⟩ := cl_e hf
                refine fin_i (E := E) (wc := ([] : va_W)) (wc' := ([] : va_W)) (va_runS (As := [.int p1]) (rest := [.ref (a0 0)]) ⟨hx, hb, hml, hown, hts⟩ (k_X0_above l E N p1 q155 hc_155 _) (va_cwS 1 hts gX0_runFits_X0_above rfl rfl rfl (by decide +kernel) ⟨(by simp only [headSpec, rm_X0_runFits, rm_X0_above]; omega), (by simp only [headSpec, rm_X0_runFits, rm_X0_above]; omega)⟩) (pre_s hK va_P_nil va_D_nil hS hG hAB) rfl rfl hl.1 rfl (lv_room (Nat.le_of_ble_eq_true rfl)) dX0_runFits_155 ⟨Nat.zero_le _, Nat.zero_le _⟩) hS (free_nil hS hA) (fun H locs hP1 hk hS => ?_)
                have hP := w_kept0 hP hk
                refine lv_iload_n hx hb dX0_runFits_158 rfl (lv_at hl 2 rfl) ?_
                refine lv_iload_n hx hb dX0_runFits_159 rfl (lv_at hl 3 rfl) ?_
                refine lv_iconst (v := 1) hx hb dX0_runFits_160 (by decide) ?_
                refine lv_iadd hx hb dX0_runFits_161 ?_
                obtain ⟨q162, hc_162, hf⟩ := cl_e hf
                refine fin_i (E := E) (wc := wX0 E a0 s0) (wc' := wX0 E a0 q162.2) (va_runV (As := [.int q155, .int p2, .int (p3 + 1)]) (rest := []) ⟨hx, hb, hml, hown, hts⟩ (ihD E a0 s0 q155 p2 (p3 + 1) q162 hc_162 _) (cwV 3 hts gX0_runFits_X0_runFits rfl rfl rfl (by decide +kernel) ⟨(by simp only [headSpec, rm_X0_runFits, rm_X0_runFits]; omega), (by simp only [headSpec, rm_X0_runFits, rm_X0_runFits]; omega)⟩) (pre_v (ci := 0) (q0 := 0) hK hP (hDD s0) hS hG hAB rfl rfl) rfl rfl hl.1 rfl (lv_room (Nat.le_of_ble_eq_true rfl)) dX0_runFits_162 ⟨Nat.zero_le _, Nat.zero_le _⟩) hS (w_free (hDD s0) hS hA (fun _ h => h)) (fun H locs hP1 hk hS => ?_)
                have hP := hP1
                have e9 := Option.some.inj hf
                exact rt_i hx hb hr hlocks (fst_e e9) (rtP (P := fun z => va_P E.1 vwCl (wX0 E a0 z.2) H) e9 hP) hS dX0_runFits_165
              · have hf := ite_f c_9_5 hf
                by_cases c_9_6 : p1 = 6
                · have hf := ite_t c_9_6 hf
                  refine lv_tableIn (off := 110) (tgt := 119) hx hb dX0_runFits_9 (by rw [c_9_6]; decide) (by rw [c_9_6]; decide) (by rw [c_9_6]; rfl) (by decide) ?_
                  refine lv_aload_n hx hb dX0_runFits_119 rfl (lv_at hl 0 rfl) ?_
                  refine lv_bipush (v := 70) hx hb dX0_runFits_120 (by decide) ?_
                  obtain ⟨q122, hc_122, hf⟩ := cl_e hf
                  refine fin_v (E := E) (wc := wX0 E a0 s0) (wc' := wX0 E a0 q122) (va_runV (As := [.int 70]) (rest := []) ⟨hx, hb, hml, hown, hts⟩ (k_X0_begin l E a0 N s0 70 q122 hc_122 _) (cwV 1 hts gX0_runFits_X0_begin rfl rfl rfl (by decide +kernel) ⟨(by simp only [headSpec, rm_X0_runFits, rm_X0_begin]; omega), (by simp only [headSpec, rm_X0_runFits, rm_X0_begin]; omega)⟩) (pre_v (ci := 0) (q0 := 0) hK hP (hDD s0) hS hG hAB rfl rfl) rfl rfl hl.1 rfl (lv_room (Nat.le_of_ble_eq_true rfl)) dX0_runFits_122 ⟨Nat.zero_le _, Nat.zero_le _⟩) hS (w_free (hDD s0) hS hA (fun _ h => h)) (fun H locs hP1 hk hS => ?_)
                  have hP := hP1
                  refine lv_aload_n hx hb dX0_runFits_125 rfl (lv_at hl 0 rfl) ?_
                  refine lv_bipush (v := 6) hx hb dX0_runFits_126 (by decide) ?_
                  obtain ⟨q128, hc_128, hf⟩ := cl_e hf
                  refine fin_i (E := E) (wc := ([] : va_W)) (wc' := ([] : va_W)) (va_runS (As := [.int 6]) (rest := [.ref (a0 0)]) ⟨hx, hb, hml, hown, hts⟩ (k_X0_above l E N 6 q128 hc_128 _) (va_cwS 1 hts gX0_runFits_X0_above rfl rfl rfl (by decide +kernel) ⟨(by simp only [headSpec, rm_X0_runFits, rm_X0_above]; omega), (by simp only [headSpec, rm_X0_runFits, rm_X0_above]; omega)⟩) (pre_s hK va_P_nil va_D_nil hS hG hAB) rfl rfl hl.1 rfl (lv_room (Nat.le_of_ble_eq_true rfl)) dX0_runFits_128 ⟨Nat.zero_le _, Nat.zero_le _⟩) hS (free_nil hS hA) (fun H locs hP1 hk hS => ?_)
                  have hP := w_kept0 hP hk
                  refine lv_iload_n hx hb dX0_runFits_131 rfl (lv_at hl 2 rfl) ?_
                  refine lv_iload_n hx hb dX0_runFits_132 rfl (lv_at hl 3 rfl) ?_
                  refine lv_iconst (v := 1) hx hb dX0_runFits_133 (by decide) ?_
                  refine lv_iadd hx hb dX0_runFits_134 ?_
                  obtain ⟨q135, hc_135, hf⟩ := cl_e hf
                  refine fin_i (E := E) (wc := wX0 E a0 q122) (wc' := wX0 E a0 q135.2) (va_runV (As := [.int q128, .int p2, .int (p3 + 1)]) (rest := []) ⟨hx, hb, hml, hown, hts⟩ (ihD E a0 q122 q128 p2 (p3 + 1) q135 hc_135 _) (cwV 3 hts gX0_runFits_X0_runFits rfl rfl rfl (by decide +kernel) ⟨(by simp only [headSpec, rm_X0_runFits, rm_X0_runFits]; omega), (by simp only [headSpec, rm_X0_runFits, rm_X0_runFits]; omega)⟩) (pre_v (ci := 0) (q0 := 0) hK hP (hDD q122) hS hG hAB rfl rfl) rfl rfl hl.1 rfl (lv_room (Nat.le_of_ble_eq_true rfl)) dX0_runFits_135 ⟨Nat.zero_le _, Nat.zero_le _⟩) hS (w_free (hDD q122) hS hA (fun _ h => h)) (fun H locs hP1 hk hS => ?_)
                  have hP := hP1
                  refine lv_aload_n hx hb dX0_runFits_138 rfl (lv_at hl 0 rfl) ?_
                  refine lv_bipush (v := 6) hx hb dX0_runFits_139 (by decide) ?_
                  obtain ⟨q141, hc_141, hf⟩ := cl_e hf
                  refine fin_i (E := E) (wc := ([] : va_W)) (wc' := ([] : va_W)) (va_runS (As := [.int 6]) (rest := [.ref (a0 0), .int q135.1]) ⟨hx, hb, hml, hown, hts⟩ (k_X0_above l E N 6 q141 hc_141 _) (va_cwS 1 hts gX0_runFits_X0_above rfl rfl rfl (by decide +kernel) ⟨(by simp only [headSpec, rm_X0_runFits, rm_X0_above]; omega), (by simp only [headSpec, rm_X0_runFits, rm_X0_above]; omega)⟩) (pre_s hK va_P_nil va_D_nil hS hG hAB) rfl rfl hl.1 rfl (lv_room (Nat.le_of_ble_eq_true rfl)) dX0_runFits_141 ⟨Nat.zero_le _, Nat.zero_le _⟩) hS (free_nil hS hA) (fun H locs hP1 hk hS => ?_)
                  have hP := w_kept0 hP hk
                  refine lv_iconst (v := 2) hx hb dX0_runFits_144 (by decide) ?_
                  refine lv_iload_n hx hb dX0_runFits_145 rfl (lv_at hl 3 rfl) ?_
                  refine lv_iconst (v := 1) hx hb dX0_runFits_146 (by decide) ?_
                  refine lv_iadd hx hb dX0_runFits_147 ?_
                  obtain ⟨q148, hc_148, hf⟩ := cl_e hf
                  refine fin_i (E := E) (wc := wX0 E a0 q135.2) (wc' := wX0 E a0 q148.2) (va_runV (As := [.int q141, .int 2, .int (p3 + 1)]) (rest := [.int q135.1]) ⟨hx, hb, hml, hown, hts⟩ (k_X0_runLies l E a0 N D q135.2 q141 2 (p3 + 1) q148 hc_148 _) (cwV 3 hts gX0_runFits_X0_runLies rfl rfl rfl (by decide +kernel) ⟨(by simp only [headSpec, rm_X0_runFits, rm_X0_runLies]; omega), (by simp only [headSpec, rm_X0_runFits, rm_X0_runLies]; omega)⟩) (pre_v (ci := 0) (q0 := 0) hK hP (hDD q135.2) hS hG hAB rfl rfl) rfl rfl hl.1 rfl (lv_room (Nat.le_of_ble_eq_true rfl)) dX0_runFits_148 ⟨Nat.zero_le _, Nat.zero_le _⟩) hS (w_free (hDD q135.2) hS hA (fun _ h => h)) (fun H locs hP1 hk hS => ?_)
                  have hP := hP1
                  refine lv_iadd hx hb dX0_runFits_151 ?_
                  have e9 := Option.some.inj hf
                  exact rt_i hx hb hr hlocks (fst_e e9) (rtP (P := fun z => va_P E.1 vwCl (wX0 E a0 z.2) H) e9 hP) hS dX0_runFits_152
                · have hf := ite_f c_9_6 hf
                  refine lv_tableOut (tgt := 153) hx hb dX0_runFits_9 (by have n0 := lv_neT (a := 0) c_9_0 (by decide); have n1 := lv_neT (a := 1) c_9_1 (by decide); have n2 := lv_neT (a := 2) c_9_2 (by decide); have n3 := lv_neT (a := 3) c_9_3 (by decide); have n4 := lv_neT (a := 4) c_9_4 (by decide); have n5 := lv_neT (a := 5) c_9_5 (by decide); have n6 := lv_neT (a := 6) c_9_6 (by decide); omega) (by decide) ?_
                  refine lv_aload_n hx hb dX0_runFits_153 rfl (lv_at hl 0 rfl) ?_
                  refine lv_iload_n hx hb dX0_runFits_154 rfl (lv_at hl 1 rfl) ?_
                  obtain ⟨q155, hc_155, hf⟩ := cl_e hf
                  refine fin_i (E := E) (wc := ([] : va_W)) (wc' := ([] : va_W)) (va_runS (As := [.int p1]) (rest := [.ref (a0 0)]) ⟨hx, hb, hml, hown, hts⟩ (k_X0_above l E N p1 q155 hc_155 _) (va_cwS 1 hts gX0_runFits_X0_above rfl rfl rfl (by decide +kernel) ⟨(by simp only [headSpec, rm_X0_runFits, rm_X0_above]; omega), (by simp only [headSpec, rm_X0_runFits, rm_X0_above]; omega)⟩) (pre_s hK va_P_nil va_D_nil hS hG hAB) rfl rfl hl.1 rfl (lv_room (Nat.le_of_ble_eq_true rfl)) dX0_runFits_155 ⟨Nat.zero_le _, Nat.zero_le _⟩) hS (free_nil hS hA) (fun H locs hP1 hk hS => ?_)
                  have hP := w_kept0 hP hk
                  refine lv_iload_n hx hb dX0_runFits_158 rfl (lv_at hl 2 rfl) ?_
                  refine lv_iload_n hx hb dX0_runFits_159 rfl (lv_at hl 3 rfl) ?_
                  refine lv_iconst (v := 1) hx hb dX0_runFits_160 (by decide) ?_
                  refine lv_iadd hx hb dX0_runFits_161 ?_
                  obtain ⟨q162, hc_162, hf⟩ := cl_e hf
                  refine fin_i (E := E) (wc := wX0 E a0 s0) (wc' := wX0 E a0 q162.2) (va_runV (As := [.int q155, .int p2, .int (p3 + 1)]) (rest := []) ⟨hx, hb, hml, hown, hts⟩ (ihD E a0 s0 q155 p2 (p3 + 1) q162 hc_162 _) (cwV 3 hts gX0_runFits_X0_runFits rfl rfl rfl (by decide +kernel) ⟨(by simp only [headSpec, rm_X0_runFits, rm_X0_runFits]; omega), (by simp only [headSpec, rm_X0_runFits, rm_X0_runFits]; omega)⟩) (pre_v (ci := 0) (q0 := 0) hK hP (hDD s0) hS hG hAB rfl rfl) rfl rfl hl.1 rfl (lv_room (Nat.le_of_ble_eq_true rfl)) dX0_runFits_162 ⟨Nat.zero_le _, Nat.zero_le _⟩) hS (w_free (hDD s0) hS hA (fun _ h => h)) (fun H locs hP1 hk hS => ?_)
                  have hP := hP1
                  have e9 := Option.some.inj hf
                  exact rt_i hx hb hr hlocks (fst_e e9) (rtP (P := fun z => va_P E.1 vwCl (wX0 E a0 z.2) H) e9 hP) hS dX0_runFits_165
  · have hf := ite_f c_3 hf
    refine lv_iconst (v := 0) hx hb dX0_runFits_6 (by decide) ?_
    have e9 := Option.some.inj hf
    exact rt_i hx hb hr hlocks (fst_e e9) (rtP (P := fun z => va_P E.1 vwCl (wX0 E a0 z.2) s.heap) e9 hP) hS dX0_runFits_7
