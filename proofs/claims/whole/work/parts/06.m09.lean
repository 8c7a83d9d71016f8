/-! ===== what the methods compute, and that they do: by program out of the bytecode (wip/gen) ===== -/
def rm_X0_runTells (D : Nat) : Room := { frames := 1 * D + 6, cells := 0, slots := 0, locals := 30 * D + 141 }
theorem m_X0_runTells_18e5ef : Cond.fieldLink RX0 25 "PickedMatch$Acts" "kind" "I" ∈ wsX0_runTells := by decide +kernel
theorem i_X0_runTells_X0 : ∀ w ∈ wsX00, w ∈ wsX0_runTells := fun _ h => List.mem_cons_of_mem _ (List.mem_append_right _ h)
theorem m_X0_runTells_32fc62 : Cond.fieldLink RX0 28 "PickedMatch$Acts" "i" "I" ∈ wsX0_runTells := by decide +kernel
set_option maxHeartbeats 8000000 in
set_option maxRecDepth 100000 in
theorem k_X0_runTells (l : Launch) (E : Ev) (a0 : Nat → Nat) (N : Nat) (D : Nat) (s0 : St) (p1 : Int32) (p2 : Int32) (p3 : Int32) (q : (Int32 × St)) (hf : f_X0_runTells N D s0 p1 p2 p3 = some q) : Ci l yX0_runTells wsX0_runTells (rm_X0_runTells D) E [.ref (a0 0), .int p1, .int p2, .int p3] (wX0 E a0 s0) (wX0 E a0 q.2) q.1 := by
  revert E a0 s0 p1 p2 p3 q hf
  induction D with
  | zero => intro E a0 s0 p1 p2 p3 q hf; rw [f_X0_runTells] at hf; cases hf
  | succ D ihD =>
  intro E a0 s0 p1 p2 p3 q hf
  rw [f_X0_runTells] at hf
  intro sz
  refine Met.ofW (cc := cX0_runTells) (maxL := 4) (ret := (some .int)) (by decide) rfl ?_
  intro p e s m args below meth c s₁ B hml hv
  obtain ⟨rfl, hsz, hP, hK, hD0, hG, hA, hAB⟩ := start hv
  have hx := B.exec
  have hb := B.bytes
  have hr := B.returns
  have hts := atoms_spec (ws := wsX0_runTells) B.pre
  have hown : s.vm.findClass RX0 = some m.cls := findClass_of_methodNamed B.named
  have hlocks := B.notSynchronized
  subst hsz
  generalize va_A (wX0 E a0 s0) s.heap.size = A0 at hD0 hA hAB ⊢
  have hDD : ∀ (s0 : St), va_D A0 (wX0 E a0 s0) := fun s0 => vD_addr hD0 rfl
  have hS : va_S A0 s.heap s.heap [] := va_S.rf
  have hl := lv_entry ([.ref (a0 0), .int p1, .int p2, .int p3]) (n := 4) (Nat.le_of_ble_eq_true rfl)
  rw [lg_entry_eq]
  generalize (lg_sl ([.ref (a0 0), .int p1, .int p2, .int p3]) ++ List.replicate (4 - (lg_sl ([.ref (a0 0), .int p1, .int p2, .int p3])).length) Slot.unset).toArray = ls at hl ⊢
  have hl : lv_has ls 4 [(0, .ref (a0 0)), (1, .int p1), (2, .int p2), (3, .int p3)] := hl
  refine lv_iload_n hx hb dX0_runTells_0 rfl (lv_at hl 3 rfl) ?_
  refine lv_bipush (v := 30) hx hb dX0_runTells_1 (by decide) ?_
  refine lv_icmp_le (tgt := 8) hx hb dX0_runTells_3 (by decide) (fun c_3 => ?_) (fun c_3 => ?_)
  · have hf := ite_t c_3 hf
    refine lv_iload_n hx hb dX0_runTells_8 rfl (lv_at hl 1 rfl) ?_
    by_cases c_9_0 : p1 = 0
    · have hf := ite_t c_9_0 hf
      refine lv_lookup (off := 35) (tgt := 44) hx hb dX0_runTells_9 (by decide) (by rw [c_9_0]; rfl) (by decide) ?_
      refine lv_aload_n hx hb dX0_runTells_44 rfl (lv_at hl 0 rfl) ?_
      refine lv_bipush (v := 12) hx hb dX0_runTells_45 (by decide) ?_
      obtain ⟨q47, hc_47, hf⟩ := cl_e hf
      refine fin_v (E := E) (wc := wX0 E a0 s0) (wc' := wX0 E a0 q47) (va_runV (As := [.int 12]) (rest := []) ⟨hx, hb, hml, hown, hts⟩ (k_X0_begin l E a0 N s0 12 q47 hc_47 _) (cwV 1 hts gX0_runTells_X0_begin rfl rfl rfl (by decide +kernel) ⟨(by simp only [headSpec, rm_X0_runTells, rm_X0_begin]; omega), (by simp only [headSpec, rm_X0_runTells, rm_X0_begin]; omega)⟩) (pre_v (ci := 0) (q0 := 0) hK hP (hDD s0) hS hG hAB rfl rfl) rfl rfl hl.1 rfl (lv_room (Nat.le_of_ble_eq_true rfl)) dX0_runTells_47 ⟨Nat.zero_le _, Nat.zero_le _⟩) hS (w_free (hDD s0) hS hA (fun _ h => h)) (fun H locs hP1 hk hS => ?_)
      have hP := hP1
      refine lv_aload_n hx hb dX0_runTells_50 rfl (lv_at hl 0 rfl) ?_
      refine lv_aload_n hx hb dX0_runTells_51 rfl (lv_at hl 0 rfl) ?_
      refine va_get (ci := 0) (C := RX0) (T := TX0) (N := 5) (v := .int (q47 2 0)) hx hb hts i_X0_runTells_X0 hown hK hP 0 rfl rfl 2 (by decide) (hts _ m_X0_runTells_18e5ef) (fun _ h9 => h9) rfl dX0_runTells_52 ?_
      refine lv_iload_n hx hb dX0_runTells_55 rfl (lv_at hl 2 rfl) ?_
      refine lv_iload_n hx hb dX0_runTells_56 rfl (lv_at hl 3 rfl) ?_
      refine lv_iconst (v := 1) hx hb dX0_runTells_57 (by decide) ?_
      refine lv_iadd hx hb dX0_runTells_58 ?_
      obtain ⟨q59, hc_59, hf⟩ := cl_e hf
      refine fin_i (E := E) (wc := wX0 E a0 q47) (wc' := wX0 E a0 q59.2) (va_runV (As := [.int (q47 2 0), .int p2, .int (p3 + 1)]) (rest := []) ⟨hx, hb, hml, hown, hts⟩ (k_X0_runFits l E a0 N D q47 (q47 2 0) p2 (p3 + 1) q59 hc_59 _) (cwV 3 hts gX0_runTells_X0_runFits rfl rfl rfl (by decide +kernel) ⟨(by simp only [headSpec, rm_X0_runTells, rm_X0_runFits]; omega), (by simp only [headSpec, rm_X0_runTells, rm_X0_runFits]; omega)⟩) (pre_v (ci := 0) (q0 := 0) hK hP (hDD q47) hS hG hAB rfl rfl) rfl rfl hl.1 rfl (lv_room (Nat.le_of_ble_eq_true rfl)) dX0_runTells_59 ⟨Nat.zero_le _, Nat.zero_le _⟩) hS (w_free (hDD q47) hS hA (fun _ h => h)) (fun H locs hP1 hk hS => ?_)
      have hP := hP1
      refine lv_iconst (v := 2) hx hb dX0_runTells_62 (by decide) ?_
      refine lv_imul hx hb dX0_runTells_63 ?_
      have e9 := Option.some.inj hf
      exact rt_i hx hb hr hlocks (fst_e e9) (rtP (P := fun z => va_P E.1 vwCl (wX0 E a0 z.2) H) e9 hP) hS dX0_runTells_64
    · have hf := ite_f c_9_0 hf
      by_cases c_9_1 : p1 = 3
      · have hf := ite_t c_9_1 hf
        refine lv_lookup (off := 56) (tgt := 65) hx hb dX0_runTells_9 (by decide) (by rw [lv_osw c_9_0 (by decide)]; rw [c_9_1]; rfl) (by decide) ?_
        refine lv_aload_n hx hb dX0_runTells_65 rfl (lv_at hl 0 rfl) ?_
        refine lv_bipush (v := 40) hx hb dX0_runTells_66 (by decide) ?_
        obtain ⟨q68, hc_68, hf⟩ := cl_e hf
        refine fin_v (E := E) (wc := wX0 E a0 s0) (wc' := wX0 E a0 q68) (va_runV (As := [.int 40]) (rest := []) ⟨hx, hb, hml, hown, hts⟩ (k_X0_begin l E a0 N s0 40 q68 hc_68 _) (cwV 1 hts gX0_runTells_X0_begin rfl rfl rfl (by decide +kernel) ⟨(by simp only [headSpec, rm_X0_runTells, rm_X0_begin]; omega), (by simp only [headSpec, rm_X0_runTells, rm_X0_begin]; omega)⟩) (pre_v (ci := 0) (q0 := 0) hK hP (hDD s0) hS hG hAB rfl rfl) rfl rfl hl.1 rfl (lv_room (Nat.le_of_ble_eq_true rfl)) dX0_runTells_68 ⟨Nat.zero_le _, Nat.zero_le _⟩) hS (w_free (hDD s0) hS hA (fun _ h => h)) (fun H locs hP1 hk hS => ?_)
        have hP := hP1
        refine lv_aload_n hx hb dX0_runTells_71 rfl (lv_at hl 0 rfl) ?_
        refine lv_iconst (v := 3) hx hb dX0_runTells_72 (by decide) ?_
        obtain ⟨q73, hc_73, hf⟩ := cl_e hf
        refine fin_i (E := E) (wc := ([] : va_W)) (wc' := ([] : va_W)) (va_runS (As := [.int 3]) (rest := [.ref (a0 0)]) ⟨hx, hb, hml, hown, hts⟩ (k_X0_above l E N 3 q73 hc_73 _) (va_cwS 1 hts gX0_runTells_X0_above rfl rfl rfl (by decide +kernel) ⟨(by simp only [headSpec, rm_X0_runTells, rm_X0_above]; omega), (by simp only [headSpec, rm_X0_runTells, rm_X0_above]; omega)⟩) (pre_s hK va_P_nil va_D_nil hS hG hAB) rfl rfl hl.1 rfl (lv_room (Nat.le_of_ble_eq_true rfl)) dX0_runTells_73 ⟨Nat.zero_le _, Nat.zero_le _⟩) hS (free_nil hS hA) (fun H locs hP1 hk hS => ?_)
        have hP := w_kept0 hP hk
        refine lv_iload_n hx hb dX0_runTells_76 rfl (lv_at hl 2 rfl) ?_
        refine lv_iload_n hx hb dX0_runTells_77 rfl (lv_at hl 3 rfl) ?_
        refine lv_iconst (v := 1) hx hb dX0_runTells_78 (by decide) ?_
        refine lv_iadd hx hb dX0_runTells_79 ?_
        obtain ⟨q80, hc_80, hf⟩ := cl_e hf
        refine fin_i (E := E) (wc := wX0 E a0 q68) (wc' := wX0 E a0 q80.2) (va_runV (As := [.int q73, .int p2, .int (p3 + 1)]) (rest := []) ⟨hx, hb, hml, hown, hts⟩ (ihD E a0 q68 q73 p2 (p3 + 1) q80 hc_80 _) (cwV 3 hts gX0_runTells_X0_runTells rfl rfl rfl (by decide +kernel) ⟨(by simp only [headSpec, rm_X0_runTells, rm_X0_runTells]; omega), (by simp only [headSpec, rm_X0_runTells, rm_X0_runTells]; omega)⟩) (pre_v (ci := 0) (q0 := 0) hK hP (hDD q68) hS hG hAB rfl rfl) rfl rfl hl.1 rfl (lv_room (Nat.le_of_ble_eq_true rfl)) dX0_runTells_80 ⟨Nat.zero_le _, Nat.zero_le _⟩) hS (w_free (hDD q68) hS hA (fun _ h => h)) (fun H locs hP1 hk hS => ?_)
        have hP := hP1
        refine lv_aload_n hx hb dX0_runTells_83 rfl (lv_at hl 0 rfl) ?_
        refine lv_aload_n hx hb dX0_runTells_84 rfl (lv_at hl 0 rfl) ?_
        refine va_get (ci := 0) (C := RX0) (T := TX0) (N := 5) (v := .int (q80.2 2 0)) hx hb hts i_X0_runTells_X0 hown hK hP 0 rfl rfl 2 (by decide) (hts _ m_X0_runTells_18e5ef) (fun _ h9 => h9) rfl dX0_runTells_85 ?_
        refine lv_iconst (v := 1) hx hb dX0_runTells_88 (by decide) ?_
        refine lv_iload_n hx hb dX0_runTells_89 rfl (lv_at hl 3 rfl) ?_
        refine lv_iconst (v := 1) hx hb dX0_runTells_90 (by decide) ?_
        refine lv_iadd hx hb dX0_runTells_91 ?_
        obtain ⟨q92, hc_92, hf⟩ := cl_e hf
        refine fin_i (E := E) (wc := wX0 E a0 q80.2) (wc' := wX0 E a0 q92.2) (va_runV (As := [.int (q80.2 2 0), .int 1, .int (p3 + 1)]) (rest := [.int q80.1]) ⟨hx, hb, hml, hown, hts⟩ (k_X0_runFits l E a0 N D q80.2 (q80.2 2 0) 1 (p3 + 1) q92 hc_92 _) (cwV 3 hts gX0_runTells_X0_runFits rfl rfl rfl (by decide +kernel) ⟨(by simp only [headSpec, rm_X0_runTells, rm_X0_runFits]; omega), (by simp only [headSpec, rm_X0_runTells, rm_X0_runFits]; omega)⟩) (pre_v (ci := 0) (q0 := 0) hK hP (hDD q80.2) hS hG hAB rfl rfl) rfl rfl hl.1 rfl (lv_room (Nat.le_of_ble_eq_true rfl)) dX0_runTells_92 ⟨Nat.zero_le _, Nat.zero_le _⟩) hS (w_free (hDD q80.2) hS hA (fun _ h => h)) (fun H locs hP1 hk hS => ?_)
        have hP := hP1
        refine lv_iadd hx hb dX0_runTells_95 ?_
        have e9 := Option.some.inj hf
        exact rt_i hx hb hr hlocks (fst_e e9) (rtP (P := fun z => va_P E.1 vwCl (wX0 E a0 z.2) H) e9 hP) hS dX0_runTells_96
      · have hf := ite_f c_9_1 hf
        by_cases c_9_2 : p1 = 5
        · have hf := ite_t c_9_2 hf
          refine lv_lookup (off := 88) (tgt := 97) hx hb dX0_runTells_9 (by decide) (by rw [lv_osw c_9_0 (by decide)]; rw [lv_osw c_9_1 (by decide)]; rw [c_9_2]; rfl) (by decide) ?_
          refine lv_aload_n hx hb dX0_runTells_97 rfl (lv_at hl 0 rfl) ?_
          refine lv_bipush (v := 60) hx hb dX0_runTells_98 (by decide) ?_
          obtain ⟨q100, hc_100, hf⟩ := cl_e hf
          refine fin_v (E := E) (wc := wX0 E a0 s0) (wc' := wX0 E a0 q100) (va_runV (As := [.int 60]) (rest := []) ⟨hx, hb, hml, hown, hts⟩ (k_X0_begin l E a0 N s0 60 q100 hc_100 _) (cwV 1 hts gX0_runTells_X0_begin rfl rfl rfl (by decide +kernel) ⟨(by simp only [headSpec, rm_X0_runTells, rm_X0_begin]; omega), (by simp only [headSpec, rm_X0_runTells, rm_X0_begin]; omega)⟩) (pre_v (ci := 0) (q0 := 0) hK hP (hDD s0) hS hG hAB rfl rfl) rfl rfl hl.1 rfl (lv_room (Nat.le_of_ble_eq_true rfl)) dX0_runTells_100 ⟨Nat.zero_le _, Nat.zero_le _⟩) hS (w_free (hDD s0) hS hA (fun _ h => h)) (fun H locs hP1 hk hS => ?_)
          have hP := hP1
          refine lv_aload_n hx hb dX0_runTells_103 rfl (lv_at hl 0 rfl) ?_
          refine lv_iconst (v := 5) hx hb dX0_runTells_104 (by decide) ?_
          obtain ⟨q105, hc_105, hf⟩ := cl_e hf
          refine fin_i (E := E) (wc := ([] : va_W)) (wc' := ([] : va_W)) (va_runS (As := [.int 5]) (rest := [.ref (a0 0)]) ⟨hx, hb, hml, hown, hts⟩ (k_X0_above l E N 5 q105 hc_105 _) (va_cwS 1 hts gX0_runTells_X0_above rfl rfl rfl (by decide +kernel) ⟨(by simp only [headSpec, rm_X0_runTells, rm_X0_above]; omega), (by simp only [headSpec, rm_X0_runTells, rm_X0_above]; omega)⟩) (pre_s hK va_P_nil va_D_nil hS hG hAB) rfl rfl hl.1 rfl (lv_room (Nat.le_of_ble_eq_true rfl)) dX0_runTells_105 ⟨Nat.zero_le _, Nat.zero_le _⟩) hS (free_nil hS hA) (fun H locs hP1 hk hS => ?_)
          have hP := w_kept0 hP hk
          refine lv_iload_n hx hb dX0_runTells_108 rfl (lv_at hl 2 rfl) ?_
          refine lv_aload_n hx hb dX0_runTells_109 rfl (lv_at hl 0 rfl) ?_
          refine va_get (ci := 0) (C := RX0) (T := TX0) (N := 5) (v := .int (q100 3 0)) hx hb hts i_X0_runTells_X0 hown hK hP 0 rfl rfl 3 (by decide) (hts _ m_X0_runTells_32fc62) (fun _ h9 => h9) rfl dX0_runTells_110 ?_
          refine lv_isub hx hb dX0_runTells_113 ?_
          refine lv_iload_n hx hb dX0_runTells_114 rfl (lv_at hl 3 rfl) ?_
          refine lv_iconst (v := 1) hx hb dX0_runTells_115 (by decide) ?_
          refine lv_iadd hx hb dX0_runTells_116 ?_
          obtain ⟨q117, hc_117, hf⟩ := cl_e hf
          refine fin_i (E := E) (wc := wX0 E a0 q100) (wc' := wX0 E a0 q117.2) (va_runV (As := [.int q105, .int (p2 - (q100 3 0)), .int (p3 + 1)]) (rest := []) ⟨hx, hb, hml, hown, hts⟩ (ihD E a0 q100 q105 (p2 - (q100 3 0)) (p3 + 1) q117 hc_117 _) (cwV 3 hts gX0_runTells_X0_runTells rfl rfl rfl (by decide +kernel) ⟨(by simp only [headSpec, rm_X0_runTells, rm_X0_runTells]; omega), (by simp only [headSpec, rm_X0_runTells, rm_X0_runTells]; omega)⟩) (pre_v (ci := 0) (q0 := 0) hK hP (hDD q100) hS hG hAB rfl rfl) rfl rfl hl.1 rfl (lv_room (Nat.le_of_ble_eq_true rfl)) dX0_runTells_117 ⟨Nat.zero_le _, Nat.zero_le _⟩) hS (w_free (hDD q100) hS hA (fun _ h => h)) (fun H locs hP1 hk hS => ?_)
          have hP := hP1
          have e9 := Option.some.inj hf
          exact rt_i hx hb hr hlocks (fst_e e9) (rtP (P := fun z => va_P E.1 vwCl (wX0 E a0 z.2) H) e9 hP) hS dX0_runTells_120
        · have hf := ite_f c_9_2 hf
          refine lv_lookup (off := 112) (tgt := 121) hx hb dX0_runTells_9 (by decide) (by rw [lv_osw c_9_0 (by decide)]; rw [lv_osw c_9_1 (by decide)]; rw [lv_osw c_9_2 (by decide)]; rfl) (by decide) ?_
          refine lv_aload_n hx hb dX0_runTells_121 rfl (lv_at hl 0 rfl) ?_
          refine lv_iload_n hx hb dX0_runTells_122 rfl (lv_at hl 1 rfl) ?_
          obtain ⟨q123, hc_123, hf⟩ := cl_e hf
          refine fin_i (E := E) (wc := ([] : va_W)) (wc' := ([] : va_W)) (va_runS (As := [.int p1]) (rest := [.ref (a0 0)]) ⟨hx, hb, hml, hown, hts⟩ (k_X0_above l E N p1 q123 hc_123 _) (va_cwS 1 hts gX0_runTells_X0_above rfl rfl rfl (by decide +kernel) ⟨(by simp only [headSpec, rm_X0_runTells, rm_X0_above]; omega), (by simp only [headSpec, rm_X0_runTells, rm_X0_above]; omega)⟩) (pre_s hK va_P_nil va_D_nil hS hG hAB) rfl rfl hl.1 rfl (lv_room (Nat.le_of_ble_eq_true rfl)) dX0_runTells_123 ⟨Nat.zero_le _, Nat.zero_le _⟩) hS (free_nil hS hA) (fun H locs hP1 hk hS => ?_)
          have hP := w_kept0 hP hk
          refine lv_iload_n hx hb dX0_runTells_126 rfl (lv_at hl 2 rfl) ?_
          refine lv_iload_n hx hb dX0_runTells_127 rfl (lv_at hl 3 rfl) ?_
          refine lv_iconst (v := 1) hx hb dX0_runTells_128 (by decide) ?_
          refine lv_iadd hx hb dX0_runTells_129 ?_
          obtain ⟨q130, hc_130, hf⟩ := cl_e hf
          refine fin_i (E := E) (wc := wX0 E a0 s0) (wc' := wX0 E a0 q130.2) (va_runV (As := [.int q123, .int p2, .int (p3 + 1)]) (rest := []) ⟨hx, hb, hml, hown, hts⟩ (ihD E a0 s0 q123 p2 (p3 + 1) q130 hc_130 _) (cwV 3 hts gX0_runTells_X0_runTells rfl rfl rfl (by decide +kernel) ⟨(by simp only [headSpec, rm_X0_runTells, rm_X0_runTells]; omega), (by simp only [headSpec, rm_X0_runTells, rm_X0_runTells]; omega)⟩) (pre_v (ci := 0) (q0 := 0) hK hP (hDD s0) hS hG hAB rfl rfl) rfl rfl hl.1 rfl (lv_room (Nat.le_of_ble_eq_true rfl)) dX0_runTells_130 ⟨Nat.zero_le _, Nat.zero_le _⟩) hS (w_free (hDD s0) hS hA (fun _ h => h)) (fun H locs hP1 hk hS => ?_)
          have hP := hP1
          have e9 := Option.some.inj hf
          exact rt_i hx hb hr hlocks (fst_e e9) (rtP (P := fun z => va_P E.1 vwCl (wX0 E a0 z.2) H) e9 hP) hS dX0_runTells_133
  · have hf := ite_f c_3 hf
    refine lv_iconst (v := 0) hx hb dX0_runTells_6 (by decide) ?_
    have e9 := Option.some.inj hf
    exact rt_i hx hb hr hlocks (fst_e e9) (rtP (P := fun z => va_P E.1 vwCl (wX0 E a0 z.2) s.heap) e9 hP) hS dX0_runTells_7
abbrev rm_X0_perform : Room := { frames := 127, cells := 0, slots := 0, locals := 3764 }
theorem m_X0_perform_18e5ef : Cond.fieldLink RX0 25 "PickedMatch$Acts" "kind" "I" ∈ wsX0_perform := by decide +kernel
theorem i_X0_perform_X0 : ∀ w ∈ wsX00, w ∈ wsX0_perform := fun _ h => List.mem_cons_of_mem _ (List.mem_append_right _ h)
theorem m_X0_perform_32fc62 : Cond.fieldLink RX0 28 "PickedMatch$Acts" "i" "I" ∈ wsX0_perform := by decide +kernel
theorem m_X0_perform_28bdf2 : Cond.fieldLink RX0 31 "PickedMatch$Acts" "v" "I" ∈ wsX0_perform := by decide +kernel
set_option maxHeartbeats 8000000 in
set_option maxRecDepth 100000 in
theorem k_X0_perform (l : Launch) (E : Ev) (a0 : Nat → Nat) (N : Nat) (s0 : St) (p1 : Int32) (p2 : Int32) (p3 : Int32) (p4 : Int32) (p5 : Int32) (q : (Int32 × St)) (hf : f_X0_perform N s0 p1 p2 p3 p4 p5 = some q) : Ci l yX0_perform wsX0_perform rm_X0_perform E [.ref (a0 0), .int p1, .int p2, .int p3, .int p4, .int p5] (wX0 E a0 s0) (wX0 E a0 q.2) q.1 := by
  unfold f_X0_perform at hf
  intro sz
  refine Met.ofW (cc := cX0_perform) (maxL := 6) (ret := (some .int)) (by decide) rfl ?_
  intro p e s m args below meth c s₁ B hml hv
  obtain ⟨rfl, hsz, hP, hK, hD0, hG, hA, hAB⟩ := start hv
  have hx := B.exec
  have hb := B.bytes
  have hr := B.returns
  have hts := atoms_spec (ws := wsX0_perform) B.pre
  have hown : s.vm.findClass RX0 = some m.cls := findClass_of_methodNamed B.named
  have hlocks := B.notSynchronized
  subst hsz
  generalize va_A (wX0 E a0 s0) s.heap.size = A0 at hD0 hA hAB ⊢
  have hDD : ∀ (s0 : St), va_D A0 (wX0 E a0 s0) := fun s0 => vD_addr hD0 rfl
  have hS : va_S A0 s.heap s.heap [] := va_S.rf
  have hl := lv_entry ([.ref (a0 0), .int p1, .int p2, .int p3, .int p4, .int p5]) (n := 6) (Nat.le_of_ble_eq_true rfl)
  rw [lg_entry_eq]
  generalize (lg_sl ([.ref (a0 0), .int p1, .int p2, .int p3, .int p4, .int p5]) ++ List.replicate (6 - (lg_sl ([.ref (a0 0), .int p1, .int p2, .int p3, .int p4, .int p5])).length) Slot.unset).toArray = ls at hl ⊢
  have hl : lv_has ls 6 [(0, .ref (a0 0)), (1, .int p1), (2, .int p2), (3, .int p3), (4, .int p4), (5, .int p5)] := hl
  refine lv_aload_n hx hb dX0_perform_0 rfl (lv_at hl 0 rfl) ?_
  refine lv_iload_n hx hb dX0_perform_1 rfl (lv_at hl 1 rfl) ?_
  refine va_put (ci := 0) (v := .int p1) (ty := .int) (C := RX0) (T := TX0) (N := 5) hx hb hts i_X0_perform_X0 tyX0 tyX0_ok nmX0 hown hK hP (hDD s0) hS 0 rfl rfl 2 (by decide) (hts _ m_X0_perform_18e5ef) (fun _ h9 => h9) rfl (by decide +kernel) rfl rfl (Nat.le_of_ble_eq_true rfl) dX0_perform_2 (fun H locs hP _ hS => ?_)
  obtain ⟨s0_2, hP, hf⟩ := nm_st' (P := fun z => va_P E.1 vwCl (wX0 E a0 z) H) hf hP
  refine lv_aload_n hx hb dX0_perform_5 rfl (lv_at hl 0 rfl) ?_
  refine lv_iload_n hx hb dX0_perform_6 rfl (lv_at hl 2 rfl) ?_
  refine va_put (ci := 0) (v := .int p2) (ty := .int) (C := RX0) (T := TX0) (N := 5) hx hb hts i_X0_perform_X0 tyX0 tyX0_ok nmX0 hown hK hP (hDD s0_2) hS 0 rfl rfl 3 (by decide) (hts _ m_X0_perform_32fc62) (fun _ h9 => h9) rfl (by decide +kernel) rfl rfl (Nat.le_of_ble_eq_true rfl) dX0_perform_7 (fun H locs hP _ hS => ?_)
  obtain ⟨s0_7, hP, hf⟩ := nm_st' (P := fun z => va_P E.1 vwCl (wX0 E a0 z) H) hf hP
  refine lv_aload_n hx hb dX0_perform_10 rfl (lv_at hl 0 rfl) ?_
  refine lv_iload_n hx hb dX0_perform_11 rfl (lv_at hl 3 rfl) ?_
  refine va_put (ci := 0) (v := .int p3) (ty := .int) (C := RX0) (T := TX0) (N := 5) hx hb hts i_X0_perform_X0 tyX0 tyX0_ok nmX0 hown hK hP (hDD s0_7) hS 0 rfl rfl 4 (by decide) (hts _ m_X0_perform_28bdf2) (fun _ h9 => h9) rfl (by decide +kernel) rfl rfl (Nat.le_of_ble_eq_true rfl) dX0_perform_12 (fun H locs hP _ hS => ?_)
  obtain ⟨s0_12, hP, hf⟩ := nm_st' (P := fun z => va_P E.1 vwCl (wX0 E a0 z) H) hf hP
  refine lv_iload hx hb dX0_perform_15 (lv_at hl 4 rfl) ?_
  refine lv_if_ne (tgt := 32) hx hb dX0_perform_17 (by decide) (fun c_17 => ?_) (fun c_17 => ?_)
  · have hf := ite_f c_17 hf
    refine lv_iload hx hb dX0_perform_32 (lv_at hl 4 rfl) ?_
    refine lv_iconst (v := 1) hx hb dX0_perform_34 (by decide) ?_
    refine lv_icmp_ne (tgt := 52) hx hb dX0_perform_35 (by decide) (fun c_35 => ?_) (fun c_35 => ?_)
    · have hf := ite_f c_35 hf
      refine lv_aload_n hx hb dX0_perform_52 rfl (lv_at hl 0 rfl) ?_
      refine lv_aload_n hx hb dX0_perform_53 rfl (lv_at hl 0 rfl) ?_
      refine va_get (ci := 0) (C := RX0) (T := TX0) (N := 5) (v := .int (s0_12 2 0)) hx hb hts i_X0_perform_X0 hown hK hP 0 rfl rfl 2 (by decide) (hts _ m_X0_perform_18e5ef) (fun _ h9 => h9) rfl dX0_perform_54 ?_
      refine lv_iload hx hb dX0_perform_57 (lv_at hl 5 rfl) ?_
      refine lv_iconst (v := 0) hx hb dX0_perform_59 (by decide) ?_
      obtain ⟨q60, hc_60, hf⟩ := cl_e hf
      refine fin_i (E := E) (wc := wX0 E a0 s0_12) (wc' := wX0 E a0 q60.2) (va_runV (As := [.int (s0_12 2 0), .int p5, .int 0]) (rest := []) ⟨hx, hb, hml, hown, hts⟩ (k_X0_runTells l E a0 N 120 s0_12 (s0_12 2 0) p5 0 q60 hc_60 _) (cwV 3 hts gX0_perform_X0_runTells rfl rfl rfl (by decide +kernel) ⟨(Nat.le_of_ble_eq_true rfl), (Nat.le_of_ble_eq_true rfl)⟩) (pre_v (ci := 0) (q0 := 0) hK hP (hDD s0_12) hS hG hAB rfl rfl) rfl rfl hl.1 rfl (lv_room (Nat.le_of_ble_eq_true rfl)) dX0_perform_60 ⟨Nat.zero_le _, Nat.zero_le _⟩) hS (w_free (hDD s0_12) hS hA (fun _ h => h)) (fun H locs hP1 hk hS => ?_)
      have hP := hP1
      have e9 := Option.some.inj hf
      exact rt_i hx hb hr hlocks (fst_e e9) (rtP (P := fun z => va_P E.1 vwCl (wX0 E a0 z.2) H) e9 hP) hS dX0_perform_63
    · have hf := ite_t c_35 hf
      refine lv_aload_n hx hb dX0_perform_38 rfl (lv_at hl 0 rfl) ?_
      refine lv_aload_n hx hb dX0_perform_39 rfl (lv_at hl 0 rfl) ?_
      refine va_get (ci := 0) (C := RX0) (T := TX0) (N := 5) (v := .int (s0_12 2 0)) hx hb hts i_X0_perform_X0 hown hK hP 0 rfl rfl 2 (by decide) (hts _ m_X0_perform_18e5ef) (fun _ h9 => h9) rfl dX0_perform_40 ?_
      refine lv_iload hx hb dX0_perform_43 (lv_at hl 5 rfl) ?_
      refine lv_iconst (v := 0) hx hb dX0_perform_45 (by decide) ?_
      obtain ⟨q46, hc_46, hf⟩ := cl_e hf
      refine fin_i (E := E) (wc := wX0 E a0 s0_12) (wc' := wX0 E a0 q46.2) (va_runV (As := [.int (s0_12 2 0), .int p5, .int 0]) (rest := []) ⟨hx, hb, hml, hown, hts⟩ (k_X0_runFits l E a0 N 80 s0_12 (s0_12 2 0) p5 0 q46 hc_46 _) (cwV 3 hts gX0_perform_X0_runFits rfl rfl rfl (by decide +kernel) ⟨(Nat.le_of_ble_eq_true rfl), (Nat.le_of_ble_eq_true rfl)⟩) (pre_v (ci := 0) (q0 := 0) hK hP (hDD s0_12) hS hG hAB rfl rfl) rfl rfl hl.1 rfl (lv_room (Nat.le_of_ble_eq_true rfl)) dX0_perform_46 ⟨Nat.zero_le _, Nat.zero_le _⟩) hS (w_free (hDD s0_12) hS hA (fun _ h => h)) (fun H locs hP1 hk hS => ?_)
      have hP := hP1
      refine lv_goto (tgt := 63) hx hb dX0_perform_49 (by decide) ?_
      have e9 := Option.some.inj hf
      exact rt_i hx hb hr hlocks (fst_e e9) (rtP (P := fun z => va_P E.1 vwCl (wX0 E a0 z.2) H) e9 hP) hS dX0_perform_63
  · have hf := ite_t c_17 hf
    refine lv_aload_n hx hb dX0_perform_20 rfl (lv_at hl 0 rfl) ?_
    refine lv_aload_n hx hb dX0_perform_21 rfl (lv_at hl 0 rfl) ?_
    refine va_get (ci := 0) (C := RX0) (T := TX0) (N := 5) (v := .int (s0_12 2 0)) hx hb hts i_X0_perform_X0 hown hK hP 0 rfl rfl 2 (by decide) (hts _ m_X0_perform_18e5ef) (fun _ h9 => h9) rfl dX0_perform_22 ?_
    refine lv_iload hx hb dX0_perform_25 (lv_at hl 5 rfl) ?_
    refine lv_iconst (v := 0) hx hb dX0_perform_27 (by decide) ?_
    obtain ⟨q28, hc_28, hf⟩ := cl_e hf
    refine fin_i (E := E) (wc := wX0 E a0 s0_12) (wc' := wX0 E a0 q28.2) (va_runV (As := [.int (s0_12 2 0), .int p5, .int 0]) (rest := []) ⟨hx, hb, hml, hown, hts⟩ (k_X0_runLies l E a0 N 40 s0_12 (s0_12 2 0) p5 0 q28 hc_28 _) (cwV 3 hts gX0_perform_X0_runLies rfl rfl rfl (by decide +kernel) ⟨(Nat.le_of_ble_eq_true rfl), (Nat.le_of_ble_eq_true rfl)⟩) (pre_v (ci := 0) (q0 := 0) hK hP (hDD s0_12) hS hG hAB rfl rfl) rfl rfl hl.1 rfl (lv_room (Nat.le_of_ble_eq_true rfl)) dX0_perform_28 ⟨Nat.zero_le _, Nat.zero_le _⟩) hS (w_free (hDD s0_12) hS hA (fun _ h => h)) (fun H locs hP1 hk hS => ?_)
    have hP := hP1
    have e9 := Option.some.inj hf
    exact rt_i hx hb hr hlocks (fst_e e9) (rtP (P := fun z => va_P E.1 vwCl (wX0 E a0 z.2) H) e9 hP) hS dX0_perform_31
abbrev rm_X6_hasTape : Room := { frames := 0, cells := 0, slots := 0, locals := 0 }
set_option maxHeartbeats 8000000 in
set_option maxRecDepth 100000 in
theorem k_X6_hasTape (l : Launch) (E : Ev) (a0 : Nat → Nat) (N : Nat) (s0 : St) (t0 : Nat → Nat → Int64) (p1 : Int32) (q : (Int32)) (hf : f_X6_hasTape N p1 = some q) : Ci l yX6_hasTape wsX6_hasTape rm_X6_hasTape E [.ref (a0 0), .int p1] (wX6 E a0 s0 t0) (wX6 E a0 s0 t0) q := by
  unfold f_X6_hasTape at hf
  intro sz
  refine Met.ofW (cc := cX6_hasTape) (maxL := 2) (ret := (some .boolean)) (by decide) rfl ?_
  intro p e s m args below meth c s₁ B hml hv
  obtain ⟨rfl, hsz, hP, hK, hD0, hG, hA, hAB⟩ := start hv
  have hx := B.exec
  have hb := B.bytes
  have hr := B.returns
  have hts := atoms_spec (ws := wsX6_hasTape) B.pre
  have hown : s.vm.findClass RX6 = some m.cls := findClass_of_methodNamed B.named
  have hlocks := B.notSynchronized
  subst hsz
  generalize va_A (wX6 E a0 s0 t0) s.heap.size = A0 at hD0 hA hAB ⊢
  have hDD : ∀ (s0 : St) (t0 : Nat → Nat → Int64), va_D A0 (wX6 E a0 s0 t0) := fun s0 t0 => vD_addr hD0 rfl
  have hS : va_S A0 s.heap s.heap [] := va_S.rf
  have hl := lv_entry ([.ref (a0 0), .int p1]) (n := 2) (Nat.le_of_ble_eq_true rfl)
  rw [lg_entry_eq]
  generalize (lg_sl ([.ref (a0 0), .int p1]) ++ List.replicate (2 - (lg_sl ([.ref (a0 0), .int p1])).length) Slot.unset).toArray = ls at hl ⊢
  have hl : lv_has ls 2 [(0, .ref (a0 0)), (1, .int p1)] := hl
  refine lv_iload_n hx hb dX6_hasTape_0 rfl (lv_at hl 1 rfl) ?_
  refine lv_if_lt (tgt := 14) hx hb dX6_hasTape_1 (by decide) (fun c_1 => ?_) (fun c_1 => ?_)
  · have hf := ite_t c_1 hf
    refine lv_iconst (v := 0) hx hb dX6_hasTape_14 (by decide) ?_
    have e9 := Option.some.inj hf
    exact rt_z hx hb hr rfl hlocks e9 hP hS dX6_hasTape_15
  · have hf := ite_f c_1 hf
    refine lv_iload_n hx hb dX6_hasTape_4 rfl (lv_at hl 1 rfl) ?_
    refine lv_bipush (v := 6) hx hb dX6_hasTape_5 (by decide) ?_
    refine lv_icmp_ge (tgt := 14) hx hb dX6_hasTape_7 (by decide) (fun c_7 => ?_) (fun c_7 => ?_)
    · have hf := ite_t c_7 hf
      refine lv_iconst (v := 0) hx hb dX6_hasTape_14 (by decide) ?_
      have e9 := Option.some.inj hf
      exact rt_z hx hb hr rfl hlocks e9 hP hS dX6_hasTape_15
    · have hf := ite_f c_7 hf
      refine lv_iconst (v := 1) hx hb dX6_hasTape_10 (by decide) ?_
      refine lv_goto (tgt := 15) hx hb dX6_hasTape_11 (by decide) ?_
      have e9 := Option.some.inj hf
      exact rt_z hx hb hr rfl hlocks e9 hP hS dX6_hasTape_15
abbrev rm_X6_hasPlace : Room := { frames := 0, cells := 0, slots := 0, locals := 0 }
theorem m_X6_hasPlace_967f3c : Cond.fieldLink RX6 13 "PickedMatch$Tapes" "lengths" "[I" ∈ wsX6_hasPlace := by decide +kernel
theorem i_X6_hasPlace_X6 : ∀ w ∈ wsX60, w ∈ wsX6_hasPlace := fun _ h => List.mem_cons_of_mem _ (List.mem_append_right _ h)
set_option maxHeartbeats 8000000 in
set_option maxRecDepth 100000 in
theorem k_X6_hasPlace (l : Launch) (E : Ev) (a0 : Nat → Nat) (N : Nat) (s0 : St) (t0 : Nat → Nat → Int64) (p1 : Int32) (p2 : Int32) (q : (Int32)) (hf : f_X6_hasPlace N s0 p1 p2 = some q) : Ci l yX6_hasPlace wsX6_hasPlace rm_X6_hasPlace E [.ref (a0 0), .int p1, .int p2] (wX6 E a0 s0 t0) (wX6 E a0 s0 t0) q := by
  unfold f_X6_hasPlace at hf
  intro sz
  refine Met.ofW (cc := cX6_hasPlace) (maxL := 3) (ret := (some .boolean)) (by decide) rfl ?_
  intro p e s m args below meth c s₁ B hml hv
  obtain ⟨rfl, hsz, hP, hK, hD0, hG, hA, hAB⟩ := start hv
  have hx := B.exec
  have hb := B.bytes
  have hr := B.returns
  have hts := atoms_spec (ws := wsX6_hasPlace) B.pre
  have hown : s.vm.findClass RX6 = some m.cls := findClass_of_methodNamed B.named
  have hlocks := B.notSynchronized
  subst hsz
  generalize va_A (wX6 E a0 s0 t0) s.heap.size = A0 at hD0 hA hAB ⊢
  have hDD : ∀ (s0 : St) (t0 : Nat → Nat → Int64), va_D A0 (wX6 E a0 s0 t0) := fun s0 t0 => vD_addr hD0 rfl
  have hS : va_S A0 s.heap s.heap [] := va_S.rf
  have hl := lv_entry ([.ref (a0 0), .int p1, .int p2]) (n := 3) (Nat.le_of_ble_eq_true rfl)
  rw [lg_entry_eq]
  generalize (lg_sl ([.ref (a0 0), .int p1, .int p2]) ++ List.replicate (3 - (lg_sl ([.ref (a0 0), .int p1, .int p2])).length) Slot.unset).toArray = ls at hl ⊢
  have hl : lv_has ls 3 [(0, .ref (a0 0)), (1, .int p1), (2, .int p2)] := hl
  refine lv_iload_n hx hb dX6_hasPlace_0 rfl (lv_at hl 2 rfl) ?_
  refine lv_if_lt (tgt := 18) hx hb dX6_hasPlace_1 (by decide) (fun c_1 => ?_) (fun c_1 => ?_)
  · have hf := ite_t c_1 hf
    refine lv_iconst (v := 0) hx hb dX6_hasPlace_18 (by decide) ?_
    have e9 := Option.some.inj hf
    exact rt_z hx hb hr rfl hlocks e9 hP hS dX6_hasPlace_19
  · have hf := ite_f c_1 hf
    refine lv_iload_n hx hb dX6_hasPlace_4 rfl (lv_at hl 2 rfl) ?_
    refine lv_aload_n hx hb dX6_hasPlace_5 rfl (lv_at hl 0 rfl) ?_
    refine va_get (ci := 6) (C := RX6) (T := TX6) (N := 3) (v := .ref (a0 2)) hx hb hts i_X6_hasPlace_X6 hown hK hP 0 rfl rfl 1 (by decide) (hts _ m_X6_hasPlace_967f3c) (fun _ h9 => h9) rfl dX6_hasPlace_6 ?_
    refine lv_iload_n hx hb dX6_hasPlace_9 rfl (lv_at hl 1 rfl) ?_
    obtain ⟨h_10, hf⟩ := ck_e hf
    refine va_iald (cA := E.2.1) (n := 6) (f := s0 1) hx hb hK hP 2 0 rfl rfl h_10 dX6_hasPlace_10 ?_
    refine lv_icmp_ge (tgt := 18) hx hb dX6_hasPlace_11 (by decide) (fun c_11 => ?_) (fun c_11 => ?_)
    · have hf := ite_t c_11 hf
      refine lv_iconst (v := 0) hx hb dX6_hasPlace_18 (by decide) ?_
      have e9 := Option.some.inj hf
      exact rt_z hx hb hr rfl hlocks e9 hP hS dX6_hasPlace_19
    · have hf := ite_f c_11 hf
      refine lv_iconst (v := 1) hx hb dX6_hasPlace_14 (by decide) ?_
      refine lv_goto (tgt := 19) hx hb dX6_hasPlace_15 (by decide) ?_
      have e9 := Option.some.inj hf
      exact rt_z hx hb hr rfl hlocks e9 hP hS dX6_hasPlace_19
abbrev rm_X6_hasStretch : Room := { frames := 0, cells := 0, slots := 0, locals := 0 }
theorem m_X6_hasStretch_967f3c : Cond.fieldLink RX6 13 "PickedMatch$Tapes" "lengths" "[I" ∈ wsX6_hasStretch := by decide +kernel
theorem i_X6_hasStretch_X6 : ∀ w ∈ wsX60, w ∈ wsX6_hasStretch := fun _ h => List.mem_cons_of_mem _ (List.mem_append_right _ h)
set_option maxHeartbeats 8000000 in
set_option maxRecDepth 100000 in
theorem k_X6_hasStretch (l : Launch) (E : Ev) (a0 : Nat → Nat) (N : Nat) (s0 : St) (t0 : Nat → Nat → Int64) (p1 : Int32) (p2 : Int32) (p3 : Int32) (q : (Int32)) (hf : f_X6_hasStretch N s0 p1 p2 p3 = some q) : Ci l yX6_hasStretch wsX6_hasStretch rm_X6_hasStretch E [.ref (a0 0), .int p1, .int p2, .int p3] (wX6 E a0 s0 t0) (wX6 E a0 s0 t0) q := by
  unfold f_X6_hasStretch at hf
  intro sz
  refine Met.ofW (cc := cX6_hasStretch) (maxL := 4) (ret := (some .boolean)) (by decide) rfl ?_
  intro p e s m args below meth c s₁ B hml hv
  obtain ⟨rfl, hsz, hP, hK, hD0, hG, hA, hAB⟩ := start hv
  have hx := B.exec
  have hb := B.bytes
  have hr := B.returns
  have hts := atoms_spec (ws := wsX6_hasStretch) B.pre
  have hown : s.vm.findClass RX6 = some m.cls := findClass_of_methodNamed B.named
  have hlocks := B.notSynchronized
  subst hsz
  generalize va_A (wX6 E a0 s0 t0) s.heap.size = A0 at hD0 hA hAB ⊢
  have hDD : ∀ (s0 : St) (t0 : Nat → Nat → Int64), va_D A0 (wX6 E a0 s0 t0) := fun s0 t0 => vD_addr hD0 rfl
  have hS : va_S A0 s.heap s.heap [] := va_S.rf
  have hl := lv_entry ([.ref (a0 0), .int p1, .int p2, .int p3]) (n := 4) (Nat.le_of_ble_eq_true rfl)
  rw [lg_entry_eq]
  generalize (lg_sl ([.ref (a0 0), .int p1, .int p2, .int p3]) ++ List.replicate (4 - (lg_sl ([.ref (a0 0), .int p1, .int p2, .int p3])).length) Slot.unset).toArray = ls at hl ⊢
  have hl : lv_has ls 4 [(0, .ref (a0 0)), (1, .int p1), (2, .int p2), (3, .int p3)] := hl
  refine lv_iload_n hx hb dX6_hasStretch_0 rfl (lv_at hl 3 rfl) ?_
  refine lv_if_lt (tgt := 34) hx hb dX6_hasStretch_1 (by decide) (fun c_1 => ?_) (fun c_1 => ?_)
  · have hf := ite_t c_1 hf
    refine lv_iconst (v := 0) hx hb dX6_hasStretch_34 (by decide) ?_
    have e9 := Option.some.inj hf
    exact rt_z hx hb hr rfl hlocks e9 hP hS dX6_hasStretch_35
  · have hf := ite_f c_1 hf
    refine lv_iload_n hx hb dX6_hasStretch_4 rfl (lv_at hl 2 rfl) ?_
    refine lv_if_lt (tgt := 34) hx hb dX6_hasStretch_5 (by decide) (fun c_5 => ?_) (fun c_5 => ?_)
    · have hf := ite_t c_5 hf
      refine lv_iconst (v := 0) hx hb dX6_hasStretch_34 (by decide) ?_
      have e9 := Option.some.inj hf
      exact rt_z hx hb hr rfl hlocks e9 hP hS dX6_hasStretch_35
    · have hf := ite_f c_5 hf
      refine lv_iload_n hx hb dX6_hasStretch_8 rfl (lv_at hl 3 rfl) ?_
      refine lv_aload_n hx hb dX6_hasStretch_9 rfl (lv_at hl 0 rfl) ?_
      refine va_get (ci := 6) (C := RX6) (T := TX6) (N := 3) (v := .ref (a0 2)) hx hb hts i_X6_hasStretch_X6 hown hK hP 0 rfl rfl 1 (by decide) (hts _ m_X6_hasStretch_967f3c) (fun _ h9 => h9) rfl dX6_hasStretch_10 ?_
      refine lv_iload_n hx hb dX6_hasStretch_13 rfl (lv_at hl 1 rfl) ?_
      obtain ⟨h_14, hf⟩ := ck_e hf
      refine va_iald (cA := E.2.1) (n := 6) (f := s0 1) hx hb hK hP 2 0 rfl rfl h_14 dX6_hasStretch_14 ?_
      refine lv_icmp_gt (tgt := 34) hx hb dX6_hasStretch_15 (by decide) (fun c_15 => ?_) (fun c_15 => ?_)
      · have hf := ite_t c_15 hf
        refine lv_iconst (v := 0) hx hb dX6_hasStretch_34 (by decide) ?_
        have e9 := Option.some.inj hf
        exact rt_z hx hb hr rfl hlocks e9 hP hS dX6_hasStretch_35
      · have hf := ite_f c_15 hf
        refine lv_iload_n hx hb dX6_hasStretch_18 rfl (lv_at hl 2 rfl) ?_
        refine lv_aload_n hx hb dX6_hasStretch_19 rfl (lv_at hl 0 rfl) ?_
        refine va_get (ci := 6) (C := RX6) (T := TX6) (N := 3) (v := .ref (a0 2)) hx hb hts i_X6_hasStretch_X6 hown hK hP 0 rfl rfl 1 (by decide) (hts _ m_X6_hasStretch_967f3c) (fun _ h9 => h9) rfl dX6_hasStretch_20 ?_
        refine lv_iload_n hx hb dX6_hasStretch_23 rfl (lv_at hl 1 rfl) ?_
        obtain ⟨h_24, hf⟩ := ck_e hf
        refine va_iald (cA := E.2.1) (n := 6) (f := s0 1) hx hb hK hP 2 0 rfl rfl h_24 dX6_hasStretch_24 ?_
        refine lv_iload_n hx hb dX6_hasStretch_25 rfl (lv_at hl 3 rfl) ?_
        refine lv_isub hx hb dX6_hasStretch_26 ?_
        refine lv_icmp_gt (tgt := 34) hx hb dX6_hasStretch_27 (by decide) (fun c_27 => ?_) (fun c_27 => ?_)
        · have hf := ite_t c_27 hf
          refine lv_iconst (v := 0) hx hb dX6_hasStretch_34 (by decide) ?_
          have e9 := Option.some.inj hf
          exact rt_z hx hb hr rfl hlocks e9 hP hS dX6_hasStretch_35
        · have hf := ite_f c_27 hf
          refine lv_iconst (v := 1) hx hb dX6_hasStretch_30 (by decide) ?_
          refine lv_goto (tgt := 35) hx hb dX6_hasStretch_31 (by decide) ?_
          have e9 := Option.some.inj hf
          exact rt_z hx hb hr rfl hlocks e9 hP hS dX6_hasStretch_35
abbrev rm_X6_makeRow : Room := { frames := 0, cells := 0, slots := 0, locals := 0 }
theorem m_X6_makeRow_9b49fa : Cond.fieldLink RX6 16 "PickedMatch$Tapes" "items" "[J" ∈ wsX6_makeRow := by decide +kernel
theorem i_X6_makeRow_X6 : ∀ w ∈ wsX60, w ∈ wsX6_makeRow := fun _ h => List.mem_cons_of_mem _ (List.mem_append_right _ h)
theorem m_X6_makeRow_f44ca2 : Cond.fieldLink RX6 9 "PickedMatch$Tapes" "sorts" "[I" ∈ wsX6_makeRow := by decide +kernel
theorem m_X6_makeRow_967f3c : Cond.fieldLink RX6 13 "PickedMatch$Tapes" "lengths" "[I" ∈ wsX6_makeRow := by decide +kernel
set_option maxHeartbeats 8000000 in
set_option maxRecDepth 100000 in
theorem k_X6_makeRow (l : Launch) (E : Ev) (a0 : Nat → Nat) (N : Nat) (s0 : St) (t0 : Nat → Nat → Int64) (p1 : Int32) (p2 : Int32) (p3 : Int32) (q : (St × (Nat → Nat → Int64))) (hf : f_X6_makeRow N s0 t0 p1 p2 p3 = some q) : Cv l yX6_makeRow wsX6_makeRow rm_X6_makeRow E [.ref (a0 0), .int p1, .int p2, .int p3] (wX6 E a0 s0 t0) (wX6 E a0 q.1 q.2) := by
  unfold f_X6_makeRow at hf
  intro sz
  refine Met.ofW (cc := cX6_makeRow) (maxL := 5) (ret := none) (by decide) rfl ?_
  intro p e s m args below meth c s₁ B hml hv
  obtain ⟨rfl, hsz, hP, hK, hD0, hG, hA, hAB⟩ := start hv
  have hx := B.exec
  have hb := B.bytes
  have hr := B.returns
  have hts := atoms_spec (ws := wsX6_makeRow) B.pre
  have hown : s.vm.findClass RX6 = some m.cls := findClass_of_methodNamed B.named
  have hlocks := B.notSynchronized
  subst hsz
  generalize va_A (wX6 E a0 s0 t0) s.heap.size = A0 at hD0 hA hAB ⊢
  have hDD : ∀ (s0 : St) (t0 : Nat → Nat → Int64), va_D A0 (wX6 E a0 s0 t0) := fun s0 t0 => vD_addr hD0 rfl
  have hS : va_S A0 s.heap s.heap [] := va_S.rf
  have hl := lv_entry ([.ref (a0 0), .int p1, .int p2, .int p3]) (n := 5) (Nat.le_of_ble_eq_true rfl)
  rw [lg_entry_eq]
  generalize (lg_sl ([.ref (a0 0), .int p1, .int p2, .int p3]) ++ List.replicate (5 - (lg_sl ([.ref (a0 0), .int p1, .int p2, .int p3])).length) Slot.unset).toArray = ls at hl ⊢
  have hl : lv_has ls 5 [(0, .ref (a0 0)), (1, .int p1), (2, .int p2), (3, .int p3)] := hl
  have hL_17 : ∀ (v1 : Int32) (v3 : Int32) (n_17 : Nat) (s0 : St) (t0 : Nat → Nat → Int64) (v4 : Int32), l_X6_makeRow_17 N v1 v3 n_17 s0 t0 v4 = some q → ∀ (H : Heap) (locs : List Loc) (ls : Array Slot), va_P E.1 vwCl (wX6 E a0 s0 t0) H → va_S A0 s.heap H locs → lv_has ls 5 [(0, .ref (a0 0)), (1, .int v1), (3, .int v3), (4, .int v4)] → W p l e rm_X6_makeRow s m ([.ref (a0 0), .int p1, .int p2, .int p3] : List Value).toArray below meth c H locs 0 0 (MQ below (va_Qv (fun (_ : Unit) => True) (fun _ t => va_P E.1 vwCl (wX6 E a0 q.1 q.2) t.heap) A0) ([.ref (a0 0), .int p1, .int p2, .int p3] : List Value).toArray s 0 0 A0) (F0 m 17 ls []) := by
    intro v1 v3 n_17
    induction n_17 with
    | zero => intro s0 t0 v4 hf; rw [l_X6_makeRow_17] at hf; cases hf
    | succ n_17 ih_17 =>
      intro s0 t0 v4 hf H locs ls hP hS hl
      rw [l_X6_makeRow_17] at hf
      refine lv_iload hx hb dX6_makeRow_17 (lv_at hl 3 rfl) ?_
      refine lv_iload_n hx hb dX6_makeRow_19 rfl (lv_at hl 2 rfl) ?_
      refine lv_icmp_ge (tgt := 42) hx hb dX6_makeRow_20 (by decide) (fun c_20 => ?_) (fun c_20 => ?_)
      · have hf := ite_t c_20 hf
        have e9 := Option.some.inj hf
        exact rt_v hx hb hr hlocks (rtP (P := fun z => va_P E.1 vwCl (wX6 E a0 z.1 z.2) H) e9 hP) hS dX6_makeRow_42
      · have hf := ite_f c_20 hf
        refine lv_aload_n hx hb dX6_makeRow_23 rfl (lv_at hl 0 rfl) ?_
        refine va_get (ci := 6) (C := RX6) (T := TX6) (N := 3) (v := .ref (a0 3)) hx hb hts i_X6_makeRow_X6 hown hK hP 0 rfl rfl 2 (by decide) (hts _ m_X6_makeRow_9b49fa) (fun _ h9 => h9) rfl dX6_makeRow_24 ?_
        refine lv_iload_n hx hb dX6_makeRow_27 rfl (lv_at hl 1 rfl) ?_
        refine lv_bipush (v := 60) hx hb dX6_makeRow_28 (by decide) ?_
        refine lv_imul hx hb dX6_makeRow_30 ?_
        refine lv_iload hx hb dX6_makeRow_31 (lv_at hl 3 rfl) ?_
        refine lv_iadd hx hb dX6_makeRow_33 ?_
        refine lv_lconst (v := 0) hx hb dX6_makeRow_34 (by decide) ?_
        obtain ⟨h_35, hf⟩ := ck_e hf
        refine va_last (cA := E.2.2.1) (n := 360) (f := t0 2) (x := 0) hx hb hK hP (hDD s0 t0) hS 3 1 rfl rfl h_35 dX6_makeRow_35 (fun H locs hP _ hS => ?_)
        obtain ⟨t0_35, hP, hf⟩ := nm_st' (P := fun z => va_P E.1 vwCl (wX6 E a0 s0 z) H) hf hP
        obtain ⟨x36, e_x36⟩ : ∃ y : Int32, y = v4 + 1 := ⟨_, rfl⟩
        have hf := nm_q e_x36 hf
        refine lv_iinc (v := x36) (lv' := [(4, .int x36), (0, .ref (a0 0)), (1, .int v1), (3, .int v3)]) hx hb dX6_makeRow_36 hl (k := 3) rfl (by rw [e_x36]; rfl) (Nat.le_of_ble_eq_true rfl) rfl (fun ls hl => ?_)
        refine lv_goto (tgt := 17) hx hb dX6_makeRow_39 (by decide) ?_
        exact ih_17 s0 t0_35 x36 hf _ _ _ hP hS (lv_sub hl [1, 2, 3, 0] rfl)
  refine lv_aload_n hx hb dX6_makeRow_0 rfl (lv_at hl 0 rfl) ?_
  refine va_get (ci := 6) (C := RX6) (T := TX6) (N := 3) (v := .ref (a0 1)) hx hb hts i_X6_makeRow_X6 hown hK hP 0 rfl rfl 0 (by decide) (hts _ m_X6_makeRow_f44ca2) (fun _ h9 => h9) rfl dX6_makeRow_1 ?_
  refine lv_iload_n hx hb dX6_makeRow_4 rfl (lv_at hl 1 rfl) ?_
  refine lv_iload_n hx hb dX6_makeRow_5 rfl (lv_at hl 2 rfl) ?_
  obtain ⟨h_6, hf⟩ := ck_e hf
  refine va_iast (cA := E.2.1) (n := 6) (f := s0 0) (x := p2) hx hb hK hP (hDD s0 t0) hS 1 0 rfl rfl h_6 dX6_makeRow_6 (fun H locs hP _ hS => ?_)
  obtain ⟨s0_6, hP, hf⟩ := nm_st' (P := fun z => va_P E.1 vwCl (wX6 E a0 z t0) H) hf hP
  refine lv_aload_n hx hb dX6_makeRow_7 rfl (lv_at hl 0 rfl) ?_
  refine va_get (ci := 6) (C := RX6) (T := TX6) (N := 3) (v := .ref (a0 2)) hx hb hts i_X6_makeRow_X6 hown hK hP 0 rfl rfl 1 (by decide) (hts _ m_X6_makeRow_967f3c) (fun _ h9 => h9) rfl dX6_makeRow_8 ?_
  refine lv_iload_n hx hb dX6_makeRow_11 rfl (lv_at hl 1 rfl) ?_
  refine lv_iload_n hx hb dX6_makeRow_12 rfl (lv_at hl 3 rfl) ?_
  obtain ⟨h_13, hf⟩ := ck_e hf
  refine va_iast (cA := E.2.1) (n := 6) (f := s0_6 1) (x := p3) hx hb hK hP (hDD s0_6 t0) hS 2 0 rfl rfl h_13 dX6_makeRow_13 (fun H locs hP _ hS => ?_)
  obtain ⟨s0_13, hP, hf⟩ := nm_st' (P := fun z => va_P E.1 vwCl (wX6 E a0 z t0) H) hf hP
  refine lv_iconst (v := 0) hx hb dX6_makeRow_14 (by decide) ?_
  refine lv_istore (lv' := [(4, .int 0), (0, .ref (a0 0)), (1, .int p1), (2, .int p2), (3, .int p3)]) hx hb dX6_makeRow_15 hl (Nat.le_of_ble_eq_true rfl) rfl (fun ls hl => ?_)
  exact hL_17 p1 p3 N s0_13 t0 0 hf _ _ _ hP hS (lv_sub hl [1, 2, 4, 0] rfl)
abbrev rm_X6_itemAt : Room := { frames := 0, cells := 0, slots := 0, locals := 0 }
theorem m_X6_itemAt_9b49fa : Cond.fieldLink RX6 16 "PickedMatch$Tapes" "items" "[J" ∈ wsX6_itemAt := by decide +kernel
theorem i_X6_itemAt_X6 : ∀ w ∈ wsX60, w ∈ wsX6_itemAt := fun _ h => List.mem_cons_of_mem _ (List.mem_append_right _ h)
set_option maxHeartbeats 8000000 in
set_option maxRecDepth 100000 in
theorem k_X6_itemAt (l : Launch) (E : Ev) (a0 : Nat → Nat) (N : Nat) (s0 : St) (t0 : Nat → Nat → Int64) (p1 : Int32) (p2 : Int32) (q : (Int64)) (hf : f_X6_itemAt N t0 p1 p2 = some q) : Cl l yX6_itemAt wsX6_itemAt rm_X6_itemAt E [.ref (a0 0), .int p1, .int p2] (wX6 E a0 s0 t0) (wX6 E a0 s0 t0) q := by
  unfold f_X6_itemAt at hf
  intro sz
  refine Met.ofW (cc := cX6_itemAt) (maxL := 3) (ret := (some .long)) (by decide) rfl ?_
  intro p e s m args below meth c s₁ B hml hv
  obtain ⟨rfl, hsz, hP, hK, hD0, hG, hA, hAB⟩ := start hv
  have hx := B.exec
  have hb := B.bytes
  have hr := B.returns
  have hts := atoms_spec (ws := wsX6_itemAt) B.pre
  have hown : s.vm.findClass RX6 = some m.cls := findClass_of_methodNamed B.named
  have hlocks := B.notSynchronized
  subst hsz
  generalize va_A (wX6 E a0 s0 t0) s.heap.size = A0 at hD0 hA hAB ⊢
  have hDD : ∀ (s0 : St) (t0 : Nat → Nat → Int64), va_D A0 (wX6 E a0 s0 t0) := fun s0 t0 => vD_addr hD0 rfl
  have hS : va_S A0 s.heap s.heap [] := va_S.rf
  have hl := lv_entry ([.ref (a0 0), .int p1, .int p2]) (n := 3) (Nat.le_of_ble_eq_true rfl)
  rw [lg_entry_eq]
  generalize (lg_sl ([.ref (a0 0), .int p1, .int p2]) ++ List.replicate (3 - (lg_sl ([.ref (a0 0), .int p1, .int p2])).length) Slot.unset).toArray = ls at hl ⊢
  have hl : lv_has ls 3 [(0, .ref (a0 0)), (1, .int p1), (2, .int p2)] := hl
  refine lv_aload_n hx hb dX6_itemAt_0 rfl (lv_at hl 0 rfl) ?_
  refine va_get (ci := 6) (C := RX6) (T := TX6) (N := 3) (v := .ref (a0 3)) hx hb hts i_X6_itemAt_X6 hown hK hP 0 rfl rfl 2 (by decide) (hts _ m_X6_itemAt_9b49fa) (fun _ h9 => h9) rfl dX6_itemAt_1 ?_
  refine lv_iload_n hx hb dX6_itemAt_4 rfl (lv_at hl 1 rfl) ?_
  refine lv_bipush (v := 60) hx hb dX6_itemAt_5 (by decide) ?_
  refine lv_imul hx hb dX6_itemAt_7 ?_
  refine lv_iload_n hx hb dX6_itemAt_8 rfl (lv_at hl 2 rfl) ?_
  refine lv_iadd hx hb dX6_itemAt_9 ?_
  obtain ⟨h_10, hf⟩ := ck_e hf
  refine va_lald (cA := E.2.2.1) (n := 360) (f := t0 2) hx hb hK hP 3 1 rfl rfl h_10 dX6_itemAt_10 ?_
  have e9 := Option.some.inj hf
  exact rt_l hx hb hr hlocks e9 hP hS dX6_itemAt_11
abbrev rm_X6_cutTo : Room := { frames := 0, cells := 0, slots := 0, locals := 0 }
set_option maxHeartbeats 8000000 in
set_option maxRecDepth 100000 in
theorem k_X6_cutTo (l : Launch) (E : Ev) (N : Nat) (p0 : Int32) (p1 : Int64) (q : (Int64)) (hf : f_X6_cutTo N p0 p1 = some q) : Cl l yX6_cutTo wsX6_cutTo rm_X6_cutTo E [.int p0, .long p1] (([] : va_W)) (([] : va_W)) q := by
  unfold f_X6_cutTo at hf
  intro sz
  refine Met.ofW (cc := cX6_cutTo) (maxL := 3) (ret := (some .long)) (by decide) rfl ?_
  intro p e s m args below meth c s₁ B hml hv
  obtain ⟨rfl, hsz, hP, hK, hD0, hG, hA, hAB⟩ := start hv
  have hx := B.exec
  have hb := B.bytes
  have hr := B.returns
  have hts := atoms_spec (ws := wsX6_cutTo) B.pre
  have hown : s.vm.findClass RX6 = some m.cls := findClass_of_methodNamed B.named
  have hlocks := B.notSynchronized
  subst hsz
  generalize va_A (([] : va_W)) s.heap.size = A0 at hD0 hA hAB ⊢
  have hDD : va_D A0 (([] : va_W)) := hD0
  have hS : va_S A0 s.heap s.heap [] := va_S.rf
  have hl := lv_entry ([.int p0, .long p1]) (n := 3) (Nat.le_of_ble_eq_true rfl)
  rw [lg_entry_eq]
  generalize (lg_sl ([.int p0, .long p1]) ++ List.replicate (3 - (lg_sl ([.int p0, .long p1])).length) Slot.unset).toArray = ls at hl ⊢
  have hl : lv_has ls 3 [(0, .int p0), (1, .long p1)] := hl
  refine lv_iload_n hx hb dX6_cutTo_0 rfl (lv_at hl 0 rfl) ?_
  by_cases c_1_0 : p0 = 0
  · have hf := ite_t c_1_0 hf
    refine lv_tableIn (off := 35) (tgt := 36) hx hb dX6_cutTo_1 (by rw [c_1_0]; decide) (by rw [c_1_0]; decide) (by rw [c_1_0]; rfl) (by decide) ?_
    refine lv_lload_n hx hb dX6_cutTo_36 rfl (lv_at hl 1 rfl) ?_
    refine lv_l2i (v := p1.toInt32) hx hb dX6_cutTo_37 rfl ?_
    refine lv_i2b (v := p1.toInt32.toInt8.toInt32) hx hb dX6_cutTo_38 rfl ?_
    refine lv_i2l (v := p1.toInt32.toInt8.toInt32.toInt64) hx hb dX6_cutTo_39 rfl ?_
    have e9 := Option.some.inj hf
    exact rt_l hx hb hr hlocks e9 hP hS dX6_cutTo_40
  · have hf := ite_f c_1_0 hf
    by_cases c_1_1 : p0 = 1
    · have hf := ite_t c_1_1 hf
      refine lv_tableIn (off := 40) (tgt := 41) hx hb dX6_cutTo_1 (by rw [c_1_1]; decide) (by rw [c_1_1]; decide) (by rw [c_1_1]; rfl) (by decide) ?_
      refine lv_lload_n hx hb dX6_cutTo_41 rfl (lv_at hl 1 rfl) ?_
      refine lv_l2i (v := p1.toInt32) hx hb dX6_cutTo_42 rfl ?_
      refine lv_i2s (v := p1.toInt32.toInt16.toInt32) hx hb dX6_cutTo_43 rfl ?_
      refine lv_i2l (v := p1.toInt32.toInt16.toInt32.toInt64) hx hb dX6_cutTo_44 rfl ?_
      have e9 := Option.some.inj hf
      exact rt_l hx hb hr hlocks e9 hP hS dX6_cutTo_45
    · have hf := ite_f c_1_1 hf
      by_cases c_1_2 : p0 = 2
      · have hf := ite_t c_1_2 hf
        refine lv_tableIn (off := 45) (tgt := 46) hx hb dX6_cutTo_1 (by rw [c_1_2]; decide) (by rw [c_1_2]; decide) (by rw [c_1_2]; rfl) (by decide) ?_
        refine lv_lload_n hx hb dX6_cutTo_46 rfl (lv_at hl 1 rfl) ?_
        refine lv_l2i (v := p1.toInt32) hx hb dX6_cutTo_47 rfl ?_
        refine lv_i2l (v := p1.toInt32.toInt64) hx hb dX6_cutTo_48 rfl ?_
        have e9 := Option.some.inj hf
        exact rt_l hx hb hr hlocks e9 hP hS dX6_cutTo_49
      · have hf := ite_f c_1_2 hf
        by_cases c_1_3 : p0 = 3
        · have hf := ite_t c_1_3 hf
          refine lv_tableIn (off := 61) (tgt := 62) hx hb dX6_cutTo_1 (by rw [c_1_3]; decide) (by rw [c_1_3]; decide) (by rw [c_1_3]; rfl) (by decide) ?_
          refine lv_lload_n hx hb dX6_cutTo_62 rfl (lv_at hl 1 rfl) ?_
          have e9 := Option.some.inj hf
          exact rt_l hx hb hr hlocks e9 hP hS dX6_cutTo_63
        · have hf := ite_f c_1_3 hf
          by_cases c_1_4 : p0 = 4
          · have hf := ite_t c_1_4 hf
            refine lv_tableIn (off := 49) (tgt := 50) hx hb dX6_cutTo_1 (by rw [c_1_4]; decide) (by rw [c_1_4]; decide) (by rw [c_1_4]; rfl) (by decide) ?_
            refine lv_lload_n hx hb dX6_cutTo_50 rfl (lv_at hl 1 rfl) ?_
            refine lv_lconst (v := 0) hx hb dX6_cutTo_51 (by decide) ?_
            refine W.lcmp hx hb dX6_cutTo_52 ?_
            refine lv_if_eq (tgt := 60) hx hb dX6_cutTo_53 (by decide) (fun c_53 => ?_) (fun c_53 => ?_)
            · have hf := ite_t c_53 hf
              refine lv_lconst (v := 0) hx hb dX6_cutTo_60 (by decide) ?_
              have e9 := Option.some.inj hf
              exact rt_l hx hb hr hlocks e9 hP hS dX6_cutTo_61
            · have hf := ite_f c_53 hf
              refine lv_lconst (v := 1) hx hb dX6_cutTo_56 (by decide) ?_
              refine lv_goto (tgt := 61) hx hb dX6_cutTo_57 (by decide) ?_
              have e9 := Option.some.inj hf
              exact rt_l hx hb hr hlocks e9 hP hS dX6_cutTo_61
          · have hf := ite_f c_1_4 hf
            refine lv_tableOut (tgt := 62) hx hb dX6_cutTo_1 (by have n0 := lv_neT (a := 0) c_1_0 (by decide); have n1 := lv_neT (a := 1) c_1_1 (by decide); have n2 := lv_neT (a := 2) c_1_2 (by decide); have n3 := lv_neT (a := 3) c_1_3 (by decide); have n4 := lv_neT (a := 4) c_1_4 (by decide); omega) (by decide) ?_
            refine lv_lload_n hx hb dX6_cutTo_62 rfl (lv_at hl 1 rfl) ?_
            have e9 := Option.some.inj hf
            exact rt_l hx hb hr hlocks e9 hP hS dX6_cutTo_63
abbrev rm_X6_setItem : Room := { frames := 1, cells := 0, slots := 0, locals := 22 }
theorem m_X6_setItem_9b49fa : Cond.fieldLink RX6 16 "PickedMatch$Tapes" "items" "[J" ∈ wsX6_setItem := by decide +kernel
theorem i_X6_setItem_X6 : ∀ w ∈ wsX60, w ∈ wsX6_setItem := fun _ h => List.mem_cons_of_mem _ (List.mem_append_right _ h)
theorem m_X6_setItem_f44ca2 : Cond.fieldLink RX6 9 "PickedMatch$Tapes" "sorts" "[I" ∈ wsX6_setItem := by decide +kernel
set_option maxHeartbeats 8000000 in
set_option maxRecDepth 100000 in
theorem k_X6_setItem (l : Launch) (E : Ev) (a0 : Nat → Nat) (N : Nat) (s0 : St) (t0 : Nat → Nat → Int64) (p1 : Int32) (p2 : Int32) (p3 : Int64) (q : ((Nat → Nat → Int64))) (hf : f_X6_setItem N s0 t0 p1 p2 p3 = some q) : Cv l yX6_setItem wsX6_setItem rm_X6_setItem E [.ref (a0 0), .int p1, .int p2, .long p3] (wX6 E a0 s0 t0) (wX6 E a0 s0 q) := by
  unfold f_X6_setItem at hf
  intro sz
  refine Met.ofW (cc := cX6_setItem) (maxL := 5) (ret := none) (by decide) rfl ?_
  intro p e s m args below meth c s₁ B hml hv
  obtain ⟨rfl, hsz, hP, hK, hD0, hG, hA, hAB⟩ := start hv
  have hx := B.exec
  have hb := B.bytes
  have hr := B.returns
  have hts := atoms_spec (ws := wsX6_setItem) B.pre
  have hown : s.vm.findClass RX6 = some m.cls := findClass_of_methodNamed B.named
  have hlocks := B.notSynchronized
  subst hsz
  generalize va_A (wX6 E a0 s0 t0) s.heap.size = A0 at hD0 hA hAB ⊢
  have hDD : ∀ (s0 : St) (t0 : Nat → Nat → Int64), va_D A0 (wX6 E a0 s0 t0) := fun s0 t0 => vD_addr hD0 rfl
  have hS : va_S A0 s.heap s.heap [] := va_S.rf
  have hl := lv_entry ([.ref (a0 0), .int p1, .int p2, .long p3]) (n := 5) (Nat.le_of_ble_eq_true rfl)
  rw [lg_entry_eq]
  generalize (lg_sl ([.ref (a0 0), .int p1, .int p2, .long p3]) ++ List.replicate (5 - (lg_sl ([.ref (a0 0), .int p1, .int p2, .long p3])).length) Slot.unset).toArray = ls at hl ⊢
  have hl : lv_has ls 5 [(0, .ref (a0 0)), (1, .int p1), (2, .int p2), (3, .long p3)] := hl
  refine lv_aload_n hx hb dX6_setItem_0 rfl (lv_at hl 0 rfl) ?_
  refine va_get (ci := 6) (C := RX6) (T := TX6) (N := 3) (v := .ref (a0 3)) hx hb hts i_X6_setItem_X6 hown hK hP 0 rfl rfl 2 (by decide) (hts _ m_X6_setItem_9b49fa) (fun _ h9 => h9) rfl dX6_setItem_1 ?_
  refine lv_iload_n hx hb dX6_setItem_4 rfl (lv_at hl 1 rfl) ?_
  refine lv_bipush (v := 60) hx hb dX6_setItem_5 (by decide) ?_
  refine lv_imul hx hb dX6_setItem_7 ?_
  refine lv_iload_n hx hb dX6_setItem_8 rfl (lv_at hl 2 rfl) ?_
  refine lv_iadd hx hb dX6_setItem_9 ?_
  refine lv_aload_n hx hb dX6_setItem_10 rfl (lv_at hl 0 rfl) ?_
  refine va_get (ci := 6) (C := RX6) (T := TX6) (N := 3) (v := .ref (a0 1)) hx hb hts i_X6_setItem_X6 hown hK hP 0 rfl rfl 0 (by decide) (hts _ m_X6_setItem_f44ca2) (fun _ h9 => h9) rfl dX6_setItem_11 ?_
  refine lv_iload_n hx hb dX6_setItem_14 rfl (lv_at hl 1 rfl) ?_
  obtain ⟨h_15, hf⟩ := ck_e hf
  refine va_iald (cA := E.2.1) (n := 6) (f := s0 0) hx hb hK hP 1 0 rfl rfl h_15 dX6_setItem_15 ?_
  refine lv_lload_n hx hb dX6_setItem_16 rfl (lv_at hl 3 rfl) ?_
  obtain ⟨q17, hc_17, hf⟩ := cl_e hf
  refine fin_l (E := E) (wc := ([] : va_W)) (wc' := ([] : va_W)) (va_runS (As := [.int (s0 0 p1.toNatClampNeg), .long p3]) (rest := [.int ((p1 * 60) + p2), .ref (a0 3)]) ⟨hx, hb, hml, hown, hts⟩ (k_X6_cutTo l E N (s0 0 p1.toNatClampNeg) p3 q17 hc_17 _) (va_cwS 2 hts gX6_setItem_X6_cutTo rfl rfl rfl (by decide +kernel) ⟨(Nat.le_of_ble_eq_true rfl), (Nat.le_of_ble_eq_true rfl)⟩) (pre_s hK va_P_nil va_D_nil hS hG hAB) rfl rfl hl.1 rfl (lv_room (Nat.le_of_ble_eq_true rfl)) dX6_setItem_17 ⟨Nat.zero_le _, Nat.zero_le _⟩) hS (free_nil hS hA) (fun H locs hP1 hk hS => ?_)
  have hP := w_kept0 hP hk
  obtain ⟨h_20, hf⟩ := ck_e hf
  refine va_last (cA := E.2.2.1) (n := 360) (f := t0 2) (x := q17) hx hb hK hP (hDD s0 t0) hS 3 1 rfl rfl h_20 dX6_setItem_20 (fun H locs hP _ hS => ?_)
  obtain ⟨t0_20, hP, hf⟩ := nm_st' (P := fun z => va_P E.1 vwCl (wX6 E a0 s0 z) H) hf hP
  have e9 := Option.some.inj hf
  exact rt_v hx hb hr hlocks (rtP (P := fun z => va_P E.1 vwCl (wX6 E a0 s0 z) H) e9 hP) hS dX6_setItem_21
abbrev rm_X6_copyItems : Room := { frames := 1, cells := 0, slots := 0, locals := 60 }
theorem m_X6_copyItems_9b49fa : Cond.fieldLink RX6 16 "PickedMatch$Tapes" "items" "[J" ∈ wsX6_copyItems := by decide +kernel
theorem i_X6_copyItems_X6 : ∀ w ∈ wsX60, w ∈ wsX6_copyItems := fun _ h => List.mem_cons_of_mem _ (List.mem_append_right _ h)
theorem m_X6_copyItems_d8084e : Cond.methodLink RX6 24 arraycopyName ∈ wsX6_copyItems := by decide +kernel
theorem m_X6_copyItems_66773d : Cond.native arraycopyName ∈ wsX6_copyItems := by decide +kernel
theorem m_X6_copyItems_30dbde : Cond.static arraycopyName ∈ wsX6_copyItems := by decide +kernel
theorem m_X6_copyItems_3f8a6f : Cond.initialized "java/lang/System" ∈ wsX6_copyItems := by decide +kernel
set_option maxHeartbeats 8000000 in
set_option maxRecDepth 100000 in
theorem k_X6_copyItems (l : Launch) (E : Ev) (a0 : Nat → Nat) (N : Nat) (s0 : St) (t0 : Nat → Nat → Int64) (p1 : Int32) (p2 : Int32) (p3 : Int32) (p4 : Int32) (p5 : Int32) (q : ((Nat → Nat → Int64))) (hf : f_X6_copyItems N t0 p1 p2 p3 p4 p5 = some q) : Cv l yX6_copyItems wsX6_copyItems rm_X6_copyItems E [.ref (a0 0), .int p1, .int p2, .int p3, .int p4, .int p5] (wX6 E a0 s0 t0) (wX6 E a0 s0 q) := by
  unfold f_X6_copyItems at hf
  intro sz
  refine Met.ofW (cc := cX6_copyItems) (maxL := 6) (ret := none) (by decide) rfl ?_
  intro p e s m args below meth c s₁ B hml hv
  obtain ⟨rfl, hsz, hP, hK, hD0, hG, hA, hAB⟩ := start hv
  have hx := B.exec
  have hb := B.bytes
  have hr := B.returns
  have hts := atoms_spec (ws := wsX6_copyItems) B.pre
  have hown : s.vm.findClass RX6 = some m.cls := findClass_of_methodNamed B.named
  have hlocks := B.notSynchronized
  subst hsz
  generalize va_A (wX6 E a0 s0 t0) s.heap.size = A0 at hD0 hA hAB ⊢
  have hDD : ∀ (s0 : St) (t0 : Nat → Nat → Int64), va_D A0 (wX6 E a0 s0 t0) := fun s0 t0 => vD_addr hD0 rfl
  have hS : va_S A0 s.heap s.heap [] := va_S.rf
  have hl := lv_entry ([.ref (a0 0), .int p1, .int p2, .int p3, .int p4, .int p5]) (n := 6) (Nat.le_of_ble_eq_true rfl)
  rw [lg_entry_eq]
  generalize (lg_sl ([.ref (a0 0), .int p1, .int p2, .int p3, .int p4, .int p5]) ++ List.replicate (6 - (lg_sl ([.ref (a0 0), .int p1, .int p2, .int p3, .int p4, .int p5])).length) Slot.unset).toArray = ls at hl ⊢
  have hl : lv_has ls 6 [(0, .ref (a0 0)), (1, .int p1), (2, .int p2), (3, .int p3), (4, .int p4), (5, .int p5)] := hl
  refine lv_aload_n hx hb dX6_copyItems_0 rfl (lv_at hl 0 rfl) ?_
  refine va_get (ci := 6) (C := RX6) (T := TX6) (N := 3) (v := .ref (a0 3)) hx hb hts i_X6_copyItems_X6 hown hK hP 0 rfl rfl 2 (by decide) (hts _ m_X6_copyItems_9b49fa) (fun _ h9 => h9) rfl dX6_copyItems_1 ?_
  refine lv_iload_n hx hb dX6_copyItems_4 rfl (lv_at hl 1 rfl) ?_
  refine lv_bipush (v := 60) hx hb dX6_copyItems_5 (by decide) ?_
  refine lv_imul hx hb dX6_copyItems_7 ?_
  refine lv_iload_n hx hb dX6_copyItems_8 rfl (lv_at hl 2 rfl) ?_
  refine lv_iadd hx hb dX6_copyItems_9 ?_
  refine lv_aload_n hx hb dX6_copyItems_10 rfl (lv_at hl 0 rfl) ?_
  refine va_get (ci := 6) (C := RX6) (T := TX6) (N := 3) (v := .ref (a0 3)) hx hb hts i_X6_copyItems_X6 hown hK hP 0 rfl rfl 2 (by decide) (hts _ m_X6_copyItems_9b49fa) (fun _ h9 => h9) rfl dX6_copyItems_11 ?_
  refine lv_iload_n hx hb dX6_copyItems_14 rfl (lv_at hl 3 rfl) ?_
  refine lv_bipush (v := 60) hx hb dX6_copyItems_15 (by decide) ?_
  refine lv_imul hx hb dX6_copyItems_17 ?_
  refine lv_iload hx hb dX6_copyItems_18 (lv_at hl 4 rfl) ?_
  refine lv_iadd hx hb dX6_copyItems_20 ?_
  refine lv_iload hx hb dX6_copyItems_21 (lv_at hl 5 rfl) ?_
  obtain ⟨⟨k1_23, k2_23, k3_23, k4_23, k5_23⟩, hf⟩ := cpy_e hf
  refine va_copyl (f := t0 2) (g := t0 2) hx hb (by rw [hml]; exact hl.1.symm) hown (hts _ m_X6_copyItems_d8084e) (hts _ m_X6_copyItems_66773d) (hts _ m_X6_copyItems_30dbde) (hts _ m_X6_copyItems_3f8a6f) hK hP (hDD s0 t0) hS 3 3 1 1 rfl rfl rfl rfl rfl k1_23 k2_23 k3_23 k4_23 k5_23 (fun _ _ => rfl) (Nat.le_of_ble_eq_true rfl) (Nat.le_of_ble_eq_true rfl) dX6_copyItems_23 (fun H locs hP _ hS => ?_)
  obtain ⟨t0_23, hP, hf⟩ := nm_st' (P := fun z => va_P E.1 vwCl (wX6 E a0 s0 z) H) hf hP
  have e9 := Option.some.inj hf
  exact rt_v hx hb hr hlocks (rtP (P := fun z => va_P E.1 vwCl (wX6 E a0 s0 z) H) e9 hP) hS dX6_copyItems_26
abbrev rm_X5_addSign : Room := { frames := 0, cells := 0, slots := 0, locals := 0 }
theorem m_X5_addSign_3e3bef : Cond.fieldLink RX5 18 "PickedMatch$StreetReader" "length" "I" ∈ wsX5_addSign := by decide +kernel
theorem i_X5_addSign_X5 : ∀ w ∈ wsX50, w ∈ wsX5_addSign := fun _ h => List.mem_cons_of_mem _ (List.mem_append_right _ h)
theorem m_X5_addSign_616439 : Cond.fieldLink RX5 11 "PickedMatch$StreetReader" "text" "[I" ∈ wsX5_addSign := by decide +kernel
set_option maxHeartbeats 8000000 in
set_option maxRecDepth 100000 in
theorem k_X5_addSign (l : Launch) (E : Ev) (a0 : Nat → Nat) (N : Nat) (s0 : St) (p1 : Int32) (q : (Int32 × St)) (hf : f_X5_addSign N s0 p1 = some q) : Ci l yX5_addSign wsX5_addSign rm_X5_addSign E [.ref (a0 0), .int p1] (wX5 E a0 s0) (wX5 E a0 q.2) q.1 := by
  unfold f_X5_addSign at hf
  intro sz
  refine Met.ofW (cc := cX5_addSign) (maxL := 2) (ret := (some .int)) (by decide) rfl ?_
  intro p e s m args below meth c s₁ B hml hv
  obtain ⟨rfl, hsz, hP, hK, hD0, hG, hA, hAB⟩ := start hv
  have hx := B.exec
  have hb := B.bytes
  have hr := B.returns
  have hts := atoms_spec (ws := wsX5_addSign) B.pre
  have hown : s.vm.findClass RX5 = some m.cls := findClass_of_methodNamed B.named
  have hlocks := B.notSynchronized
  subst hsz
  generalize va_A (wX5 E a0 s0) s.heap.size = A0 at hD0 hA hAB ⊢
  have hDD : ∀ (s0 : St), va_D A0 (wX5 E a0 s0) := fun s0 => vD_addr hD0 rfl
  have hS : va_S A0 s.heap s.heap [] := va_S.rf
  have hl := lv_entry ([.ref (a0 0), .int p1]) (n := 2) (Nat.le_of_ble_eq_true rfl)
  rw [lg_entry_eq]
  generalize (lg_sl ([.ref (a0 0), .int p1]) ++ List.replicate (2 - (lg_sl ([.ref (a0 0), .int p1])).length) Slot.unset).toArray = ls at hl ⊢
  have hl : lv_has ls 2 [(0, .ref (a0 0)), (1, .int p1)] := hl
  refine lv_aload_n hx hb dX5_addSign_0 rfl (lv_at hl 0 rfl) ?_
  refine va_get (ci := 5) (C := RX5) (T := TX5) (N := 8) (v := .int (s0 1 0)) hx hb hts i_X5_addSign_X5 hown hK hP 0 rfl rfl 1 (by decide) (hts _ m_X5_addSign_3e3bef) (fun _ h9 => h9) rfl dX5_addSign_1 ?_
  refine lv_bipush (v := 100) hx hb dX5_addSign_4 (by decide) ?_
  refine lv_icmp_ge (tgt := 29) hx hb dX5_addSign_6 (by decide) (fun c_6 => ?_) (fun c_6 => ?_)
  · have hf := ite_t c_6 hf
    refine lv_aload_n hx hb dX5_addSign_29 rfl (lv_at hl 0 rfl) ?_
    refine va_get (ci := 5) (C := RX5) (T := TX5) (N := 8) (v := .int (s0 1 0)) hx hb hts i_X5_addSign_X5 hown hK hP 0 rfl rfl 1 (by decide) (hts _ m_X5_addSign_3e3bef) (fun _ h9 => h9) rfl dX5_addSign_30 ?_
    have e9 := Option.some.inj hf
    exact rt_i hx hb hr hlocks (fst_e e9) (rtP (P := fun z => va_P E.1 vwCl (wX5 E a0 z.2) s.heap) e9 hP) hS dX5_addSign_33
  · have hf := ite_f c_6 hf
    refine lv_aload_n hx hb dX5_addSign_9 rfl (lv_at hl 0 rfl) ?_
    refine va_get (ci := 5) (C := RX5) (T := TX5) (N := 8) (v := .ref (a0 1)) hx hb hts i_X5_addSign_X5 hown hK hP 0 rfl rfl 0 (by decide) (hts _ m_X5_addSign_616439) (fun _ h9 => h9) rfl dX5_addSign_10 ?_
    refine lv_aload_n hx hb dX5_addSign_13 rfl (lv_at hl 0 rfl) ?_
    refine va_get (ci := 5) (C := RX5) (T := TX5) (N := 8) (v := .int (s0 1 0)) hx hb hts i_X5_addSign_X5 hown hK hP 0 rfl rfl 1 (by decide) (hts _ m_X5_addSign_3e3bef) (fun _ h9 => h9) rfl dX5_addSign_14 ?_
    refine lv_iload_n hx hb dX5_addSign_17 rfl (lv_at hl 1 rfl) ?_
    obtain ⟨h_18, hf⟩ := ck_e hf
    refine va_iast (cA := E.2.1) (n := 100) (f := s0 0) (x := p1) hx hb hK hP (hDD s0) hS 1 0 rfl rfl h_18 dX5_addSign_18 (fun H locs hP _ hS => ?_)
    obtain ⟨s0_18, hP, hf⟩ := nm_st' (P := fun z => va_P E.1 vwCl (wX5 E a0 z) H) hf hP
    refine lv_aload_n hx hb dX5_addSign_19 rfl (lv_at hl 0 rfl) ?_
    refine lv_dup hx hb dX5_addSign_20 rfl ?_
    refine va_get (ci := 5) (C := RX5) (T := TX5) (N := 8) (v := .int (s0_18 1 0)) hx hb hts i_X5_addSign_X5 hown hK hP 0 rfl rfl 1 (by decide) (hts _ m_X5_addSign_3e3bef) (fun _ h9 => h9) rfl dX5_addSign_21 ?_
    refine lv_iconst (v := 1) hx hb dX5_addSign_24 (by decide) ?_
    refine lv_iadd hx hb dX5_addSign_25 ?_
    refine va_put (ci := 5) (v := .int ((s0_18 1 0) + 1)) (ty := .int) (C := RX5) (T := TX5) (N := 8) hx hb hts i_X5_addSign_X5 tyX5 tyX5_ok nmX5 hown hK hP (hDD s0_18) hS 0 rfl rfl 1 (by decide) (hts _ m_X5_addSign_3e3bef) (fun _ h9 => h9) rfl (by decide +kernel) rfl rfl (Nat.le_of_ble_eq_true rfl) dX5_addSign_26 (fun H locs hP _ hS => ?_)
    obtain ⟨s0_26, hP, hf⟩ := nm_st' (P := fun z => va_P E.1 vwCl (wX5 E a0 z) H) hf hP
    refine lv_aload_n hx hb dX5_addSign_29 rfl (lv_at hl 0 rfl) ?_
    refine va_get (ci := 5) (C := RX5) (T := TX5) (N := 8) (v := .int (s0_26 1 0)) hx hb hts i_X5_addSign_X5 hown hK hP 0 rfl rfl 1 (by decide) (hts _ m_X5_addSign_3e3bef) (fun _ h9 => h9) rfl dX5_addSign_30 ?_
    have e9 := Option.some.inj hf
    exact rt_i hx hb hr hlocks (fst_e e9) (rtP (P := fun z => va_P E.1 vwCl (wX5 E a0 z.2) H) e9 hP) hS dX5_addSign_33
abbrev rm_X5_nextSign : Room := { frames := 0, cells := 0, slots := 0, locals := 0 }
theorem m_X5_nextSign_646be5 : Cond.fieldLink RX5 22 "PickedMatch$StreetReader" "place" "I" ∈ wsX5_nextSign := by decide +kernel
theorem i_X5_nextSign_X5 : ∀ w ∈ wsX50, w ∈ wsX5_nextSign := fun _ h => List.mem_cons_of_mem _ (List.mem_append_right _ h)
theorem m_X5_nextSign_3e3bef : Cond.fieldLink RX5 18 "PickedMatch$StreetReader" "length" "I" ∈ wsX5_nextSign := by decide +kernel
theorem m_X5_nextSign_616439 : Cond.fieldLink RX5 11 "PickedMatch$StreetReader" "text" "[I" ∈ wsX5_nextSign := by decide +kernel
set_option maxHeartbeats 8000000 in
set_option maxRecDepth 100000 in
theorem k_X5_nextSign (l : Launch) (E : Ev) (a0 : Nat → Nat) (N : Nat) (s0 : St) (q : (Int32)) (hf : f_X5_nextSign N s0 = some q) : Ci l yX5_nextSign wsX5_nextSign rm_X5_nextSign E [.ref (a0 0)] (wX5 E a0 s0) (wX5 E a0 s0) q := by
  unfold f_X5_nextSign at hf
  intro sz
  refine Met.ofW (cc := cX5_nextSign) (maxL := 1) (ret := (some .int)) (by decide) rfl ?_
  intro p e s m args below meth c s₁ B hml hv
  obtain ⟨rfl, hsz, hP, hK, hD0, hG, hA, hAB⟩ := start hv
  have hx := B.exec
  have hb := B.bytes
  have hr := B.returns
  have hts := atoms_spec (ws := wsX5_nextSign) B.pre
  have hown : s.vm.findClass RX5 = some m.cls := findClass_of_methodNamed B.named
  have hlocks := B.notSynchronized
  subst hsz
  generalize va_A (wX5 E a0 s0) s.heap.size = A0 at hD0 hA hAB ⊢
  have hDD : ∀ (s0 : St), va_D A0 (wX5 E a0 s0) := fun s0 => vD_addr hD0 rfl
  have hS : va_S A0 s.heap s.heap [] := va_S.rf
  have hl := lv_entry ([.ref (a0 0)]) (n := 1) (Nat.le_of_ble_eq_true rfl)
  rw [lg_entry_eq]
  generalize (lg_sl ([.ref (a0 0)]) ++ List.replicate (1 - (lg_sl ([.ref (a0 0)])).length) Slot.unset).toArray = ls at hl ⊢
  have hl : lv_has ls 1 [(0, .ref (a0 0))] := hl
  refine lv_aload_n hx hb dX5_nextSign_0 rfl (lv_at hl 0 rfl) ?_
  refine va_get (ci := 5) (C := RX5) (T := TX5) (N := 8) (v := .int (s0 6 0)) hx hb hts i_X5_nextSign_X5 hown hK hP 0 rfl rfl 6 (by decide) (hts _ m_X5_nextSign_646be5) (fun _ h9 => h9) rfl dX5_nextSign_1 ?_
  refine lv_if_lt (tgt := 39) hx hb dX5_nextSign_4 (by decide) (fun c_4 => ?_) (fun c_4 => ?_)
  · have hf := ite_t c_4 hf
    refine lv_iconst (v := (-1)) hx hb dX5_nextSign_39 (by decide) ?_
    have e9 := Option.some.inj hf
    exact rt_i hx hb hr hlocks e9 hP hS dX5_nextSign_40
  · have hf := ite_f c_4 hf
    refine lv_aload_n hx hb dX5_nextSign_7 rfl (lv_at hl 0 rfl) ?_
    refine va_get (ci := 5) (C := RX5) (T := TX5) (N := 8) (v := .int (s0 6 0)) hx hb hts i_X5_nextSign_X5 hown hK hP 0 rfl rfl 6 (by decide) (hts _ m_X5_nextSign_646be5) (fun _ h9 => h9) rfl dX5_nextSign_8 ?_
    refine lv_aload_n hx hb dX5_nextSign_11 rfl (lv_at hl 0 rfl) ?_
    refine va_get (ci := 5) (C := RX5) (T := TX5) (N := 8) (v := .int (s0 1 0)) hx hb hts i_X5_nextSign_X5 hown hK hP 0 rfl rfl 1 (by decide) (hts _ m_X5_nextSign_3e3bef) (fun _ h9 => h9) rfl dX5_nextSign_12 ?_
    refine lv_icmp_ge (tgt := 39) hx hb dX5_nextSign_15 (by decide) (fun c_15 => ?_) (fun c_15 => ?_)
    · have hf := ite_t c_15 hf
      refine lv_iconst (v := (-1)) hx hb dX5_nextSign_39 (by decide) ?_
      have e9 := Option.some.inj hf
      exact rt_i hx hb hr hlocks e9 hP hS dX5_nextSign_40
    · have hf := ite_f c_15 hf
      refine lv_aload_n hx hb dX5_nextSign_18 rfl (lv_at hl 0 rfl) ?_
      refine va_get (ci := 5) (C := RX5) (T := TX5) (N := 8) (v := .int (s0 6 0)) hx hb hts i_X5_nextSign_X5 hown hK hP 0 rfl rfl 6 (by decide) (hts _ m_X5_nextSign_646be5) (fun _ h9 => h9) rfl dX5_nextSign_19 ?_
      refine lv_bipush (v := 100) hx hb dX5_nextSign_22 (by decide) ?_
      refine lv_icmp_ge (tgt := 39) hx hb dX5_nextSign_24 (by decide) (fun c_24 => ?_) (fun c_24 => ?_)
      · have hf := ite_t c_24 hf
        refine lv_iconst (v := (-1)) hx hb dX5_nextSign_39 (by decide) ?_
        have e9 := Option.some.inj hf
        exact rt_i hx hb hr hlocks e9 hP hS dX5_nextSign_40
      · have hf := ite_f c_24 hf
        refine lv_aload_n hx hb dX5_nextSign_27 rfl (lv_at hl 0 rfl) ?_
        refine va_get (ci := 5) (C := RX5) (T := TX5) (N := 8) (v := .ref (a0 1)) hx hb hts i_X5_nextSign_X5 hown hK hP 0 rfl rfl 0 (by decide) (hts _ m_X5_nextSign_616439) (fun _ h9 => h9) rfl dX5_nextSign_28 ?_
        refine lv_aload_n hx hb dX5_nextSign_31 rfl (lv_at hl 0 rfl) ?_
        refine va_get (ci := 5) (C := RX5) (T := TX5) (N := 8) (v := .int (s0 6 0)) hx hb hts i_X5_nextSign_X5 hown hK hP 0 rfl rfl 6 (by decide) (hts _ m_X5_nextSign_646be5) (fun _ h9 => h9) rfl dX5_nextSign_32 ?_
        obtain ⟨h_35, hf⟩ := ck_e hf
        refine va_iald (cA := E.2.1) (n := 100) (f := s0 0) hx hb hK hP 1 0 rfl rfl h_35 dX5_nextSign_35 ?_
        refine lv_goto (tgt := 40) hx hb dX5_nextSign_36 (by decide) ?_
        have e9 := Option.some.inj hf
        exact rt_i hx hb hr hlocks e9 hP hS dX5_nextSign_40
abbrev rm_X5_wordFrom : Room := { frames := 0, cells := 0, slots := 0, locals := 0 }
set_option maxHeartbeats 8000000 in
set_option maxRecDepth 100000 in
theorem k_X5_wordFrom (l : Launch) (E : Ev) (N : Nat) (p0 : Int32) (q : (Nat)) (hf : f_X5_wordFrom N p0 = some q) : Ca l yX5_wordFrom wsX5_wordFrom rm_X5_wordFrom E [.int p0] (([] : va_W)) (([] : va_W)) (E.2.2.2.2.2.1 q) := by
  unfold f_X5_wordFrom at hf
  intro sz
  refine Met.ofW (cc := cX5_wordFrom) (maxL := 1) (ret := (some (.object "java/lang/String"))) (by decide) rfl ?_
  intro p e s m args below meth c s₁ B hml hv
  obtain ⟨rfl, hsz, hP, hK, hD0, hG, hA, hAB⟩ := start hv
  have hx := B.exec
  have hb := B.bytes
  have hr := B.returns
  have hts := atoms_spec (ws := wsX5_wordFrom) B.pre
  have hown : s.vm.findClass RX5 = some m.cls := findClass_of_methodNamed B.named
  have hlocks := B.notSynchronized
  subst hsz
  generalize va_A (([] : va_W)) s.heap.size = A0 at hD0 hA hAB ⊢
  have hDD : va_D A0 (([] : va_W)) := hD0
  have hS : va_S A0 s.heap s.heap [] := va_S.rf
  have hl := lv_entry ([.int p0]) (n := 1) (Nat.le_of_ble_eq_true rfl)
  rw [lg_entry_eq]
  generalize (lg_sl ([.int p0]) ++ List.replicate (1 - (lg_sl ([.int p0])).length) Slot.unset).toArray = ls at hl ⊢
  have hl : lv_has ls 1 [(0, .int p0)] := hl
  refine lv_iload_n hx hb dX5_wordFrom_0 rfl (lv_at hl 0 rfl) ?_
  by_cases c_1_0 : p0 = 104
  · have hf := ite_t c_1_0 hf
    refine lv_tableIn (off := 52) (tgt := 53) hx hb dX5_wordFrom_1 (by rw [c_1_0]; decide) (by rw [c_1_0]; decide) (by rw [c_1_0]; rfl) (by decide) ?_
    refine va_ldcS hx hb hown (hG.2.1 (77, "hold", 3) (by decide)) dX5_wordFrom_53 ?_
    have e9 := Option.some.inj hf
    exact rt_a hx hb hr hlocks (by rw [← e9]) hP hS dX5_wordFrom_55
  · have hf := ite_f c_1_0 hf
    by_cases c_1_1 : p0 = 105
    · have hf := ite_t c_1_1 hf
      refine lv_tableIn (off := 55) (tgt := 56) hx hb dX5_wordFrom_1 (by rw [c_1_1]; decide) (by rw [c_1_1]; decide) (by rw [c_1_1]; rfl) (by decide) ?_
      refine va_ldcS hx hb hown (hG.2.1 (78, "", 4) (by decide)) dX5_wordFrom_56 ?_
      have e9 := Option.some.inj hf
      exact rt_a hx hb hr hlocks (by rw [← e9]) hP hS dX5_wordFrom_58
    · have hf := ite_f c_1_1 hf
      by_cases c_1_2 : p0 = 106
      · have hf := ite_t c_1_2 hf
        refine lv_tableIn (off := 55) (tgt := 56) hx hb dX5_wordFrom_1 (by rw [c_1_2]; decide) (by rw [c_1_2]; decide) (by rw [c_1_2]; rfl) (by decide) ?_
        refine va_ldcS hx hb hown (hG.2.1 (78, "", 4) (by decide)) dX5_wordFrom_56 ?_
        have e9 := Option.some.inj hf
        exact rt_a hx hb hr hlocks (by rw [← e9]) hP hS dX5_wordFrom_58
      · have hf := ite_f c_1_2 hf
        by_cases c_1_3 : p0 = 107
        · have hf := ite_t c_1_3 hf
          refine lv_tableIn (off := 55) (tgt := 56) hx hb dX5_wordFrom_1 (by rw [c_1_3]; decide) (by rw [c_1_3]; decide) (by rw [c_1_3]; rfl) (by decide) ?_
          refine va_ldcS hx hb hown (hG.2.1 (78, "", 4) (by decide)) dX5_wordFrom_56 ?_
          have e9 := Option.some.inj hf
          exact rt_a hx hb hr hlocks (by rw [← e9]) hP hS dX5_wordFrom_58
        · have hf := ite_f c_1_3 hf
          by_cases c_1_4 : p0 = 108
          · have hf := ite_t c_1_4 hf
            refine lv_tableIn (off := 43) (tgt := 44) hx hb dX5_wordFrom_1 (by rw [c_1_4]; decide) (by rw [c_1_4]; decide) (by rw [c_1_4]; rfl) (by decide) ?_
            refine va_ldcS hx hb hown (hG.2.1 (72, "like", 0) (by decide)) dX5_wordFrom_44 ?_
            have e9 := Option.some.inj hf
            exact rt_a hx hb hr hlocks (by rw [← e9]) hP hS dX5_wordFrom_46
          · have hf := ite_f c_1_4 hf
            by_cases c_1_5 : p0 = 109
            · have hf := ite_t c_1_5 hf
              refine lv_tableIn (off := 46) (tgt := 47) hx hb dX5_wordFrom_1 (by rw [c_1_5]; decide) (by rw [c_1_5]; decide) (by rw [c_1_5]; rfl) (by decide) ?_
              refine va_ldcS hx hb hown (hG.2.1 (74, "mind", 1) (by decide)) dX5_wordFrom_47 ?_
              have e9 := Option.some.inj hf
              exact rt_a hx hb hr hlocks (by rw [← e9]) hP hS dX5_wordFrom_49
            · have hf := ite_f c_1_5 hf
              by_cases c_1_6 : p0 = 110
              · have hf := ite_t c_1_6 hf
                refine lv_tableIn (off := 49) (tgt := 50) hx hb dX5_wordFrom_1 (by rw [c_1_6]; decide) (by rw [c_1_6]; decide) (by rw [c_1_6]; rfl) (by decide) ?_
                refine va_ldcS hx hb hown (hG.2.1 (76, "need", 2) (by decide)) dX5_wordFrom_50 ?_
                have e9 := Option.some.inj hf
                exact rt_a hx hb hr hlocks (by rw [← e9]) hP hS dX5_wordFrom_52
              · have hf := ite_f c_1_6 hf
                refine lv_tableOut (tgt := 56) hx hb dX5_wordFrom_1 (by have n0 := lv_neT (a := 104) c_1_0 (by decide); have n1 := lv_neT (a := 105) c_1_1 (by decide); have n2 := lv_neT (a := 106) c_1_2 (by decide); have n3 := lv_neT (a := 107) c_1_3 (by decide); have n4 := lv_neT (a := 108) c_1_4 (by decide); have n5 := lv_neT (a := 109) c_1_5 (by decide); have n6 := lv_neT (a := 110) c_1_6 (by decide); omega) (by decide) ?_
                refine va_ldcS hx hb hown (hG.2.1 (78, "", 4) (by decide)) dX5_wordFrom_56 ?_
                have e9 := Option.some.inj hf
                exact rt_a hx hb hr hlocks (by rw [← e9]) hP hS dX5_wordFrom_58
abbrev rm_J0_isEmpty_aae02 : Room := { frames := 0, cells := 0, slots := 0, locals := 0 }
theorem m_J0_isEmpty_aae02_0cc51b : Cond.fieldLink RJ0 9 "java/lang/String" "value" "[B" ∈ wsJ0_isEmpty_aae02 := by decide +kernel
set_option maxHeartbeats 8000000 in
set_option maxRecDepth 100000 in
theorem k_J0_isEmpty_aae02 (l : Launch) (E : Ev) (N : Nat) (w0 : Nat) (q : (Int32)) (hf : f_J0_isEmpty_aae02 N w0 = some q) : Ci l yJ0_isEmpty_aae02 wsJ0_isEmpty_aae02 rm_J0_isEmpty_aae02 E [.ref (E.2.2.2.2.2.1 w0)] (([] : va_W)) (([] : va_W)) q := by
  unfold f_J0_isEmpty_aae02 at hf
  intro sz
  refine Met.ofW (cc := cJ0_isEmpty_aae02) (maxL := 1) (ret := (some .boolean)) (by decide) rfl ?_
  intro p e s m args below meth c s₁ B hml hv
  obtain ⟨rfl, hsz, hP, hK, hD0, hG, hA, hAB⟩ := start hv
  have hx := B.exec
  have hb := B.bytes
  have hr := B.returns
  have hts := atoms_spec (ws := wsJ0_isEmpty_aae02) B.pre
  have hown : s.vm.findClass RJ0 = some m.cls := findClass_of_methodNamed B.named
  have hlocks := B.notSynchronized
  subst hsz
  generalize va_A (([] : va_W)) s.heap.size = A0 at hD0 hA hAB ⊢
  have hDD : va_D A0 (([] : va_W)) := hD0
  have hS : va_S A0 s.heap s.heap [] := va_S.rf
  have hl := lv_entry ([.ref (E.2.2.2.2.2.1 w0)]) (n := 1) (Nat.le_of_ble_eq_true rfl)
  rw [lg_entry_eq]
  generalize (lg_sl ([.ref (E.2.2.2.2.2.1 w0)]) ++ List.replicate (1 - (lg_sl ([.ref (E.2.2.2.2.2.1 w0)])).length) Slot.unset).toArray = ls at hl ⊢
  have hl : lv_has ls 1 [(0, .ref (E.2.2.2.2.2.1 w0))] := hl
  refine lv_aload_n hx hb dJ0_isEmpty_aae02_0 rfl (lv_at hl 0 rfl) ?_
  obtain ⟨hw_1, hf⟩ := cp_e hf
  have hk_1 := hG.2.2.1.2.2.2.2.1 w0 hw_1
  refine vk_getf hx hb (hk_1.2.2.1.narrow hAB) hS hown (hts _ m_J0_isEmpty_aae02_0cc51b) (fun _ h9 => h9) dJ0_isEmpty_aae02_1 ?_
  obtain ⟨hw_4, hf⟩ := cp_e hf
  have hk_4 := hG.2.2.1.2.2.2.2.1 w0 hw_4
  refine va_tlen (v := nI (kLen.getD w0 0)) hx hb (hk_4.2.2.2.narrow hAB) hS rfl dJ0_isEmpty_aae02_4 ?_
  refine lv_if_ne (tgt := 12) hx hb dJ0_isEmpty_aae02_5 (by decide) (fun c_5 => ?_) (fun c_5 => ?_)
  · have hf := ite_f c_5 hf
    refine lv_iconst (v := 0) hx hb dJ0_isEmpty_aae02_12 (by decide) ?_
    have e9 := Option.some.inj hf
    exact rt_z hx hb hr rfl hlocks e9 hP hS dJ0_isEmpty_aae02_13
  · have hf := ite_t c_5 hf
    refine lv_iconst (v := 1) hx hb dJ0_isEmpty_aae02_8 (by decide) ?_
    refine lv_goto (tgt := 13) hx hb dJ0_isEmpty_aae02_9 (by decide) ?_
    have e9 := Option.some.inj hf
    exact rt_z hx hb hr rfl hlocks e9 hP hS dJ0_isEmpty_aae02_13
abbrev rm_J0_coder_7d493 : Room := { frames := 0, cells := 0, slots := 0, locals := 0 }
theorem m_J0_coder_7d493_464d53 : Cond.fieldLink RJ0 38 "java/lang/String" "COMPACT_STRINGS" "Z" ∈ wsJ0_coder_7d493 := by decide +kernel
theorem m_J0_coder_7d493_1831b3 : Cond.fieldLink RJ0 15 "java/lang/String" "coder" "B" ∈ wsJ0_coder_7d493 := by decide +kernel
set_option maxHeartbeats 8000000 in
set_option maxRecDepth 100000 in
theorem k_J0_coder_7d493 (l : Launch) (E : Ev) (N : Nat) (w0 : Nat) (q : (Int32)) (hf : f_J0_coder_7d493 N w0 = some q) : Ci l yJ0_coder_7d493 wsJ0_coder_7d493 rm_J0_coder_7d493 E [.ref (E.2.2.2.2.2.1 w0)] (([] : va_W)) (([] : va_W)) q := by
  unfold f_J0_coder_7d493 at hf
  intro sz
  refine Met.ofW (cc := cJ0_coder_7d493) (maxL := 1) (ret := (some .byte)) (by decide) rfl ?_
  intro p e s m args below meth c s₁ B hml hv
  obtain ⟨rfl, hsz, hP, hK, hD0, hG, hA, hAB⟩ := start hv
  have hx := B.exec
  have hb := B.bytes
  have hr := B.returns
  have hts := atoms_spec (ws := wsJ0_coder_7d493) B.pre
  have hown : s.vm.findClass RJ0 = some m.cls := findClass_of_methodNamed B.named
  have hlocks := B.notSynchronized
  subst hsz
  generalize va_A (([] : va_W)) s.heap.size = A0 at hD0 hA hAB ⊢
  have hDD : va_D A0 (([] : va_W)) := hD0
  have hS : va_S A0 s.heap s.heap [] := va_S.rf
  have hl := lv_entry ([.ref (E.2.2.2.2.2.1 w0)]) (n := 1) (Nat.le_of_ble_eq_true rfl)
  rw [lg_entry_eq]
  generalize (lg_sl ([.ref (E.2.2.2.2.2.1 w0)]) ++ List.replicate (1 - (lg_sl ([.ref (E.2.2.2.2.2.1 w0)])).length) Slot.unset).toArray = ls at hl ⊢
  have hl : lv_has ls 1 [(0, .ref (E.2.2.2.2.2.1 w0))] := hl
  refine va_gets hx hb (hG.2.2.1.2.2.1.narrow hAB) hS hown (hts _ m_J0_coder_7d493_464d53) (fun _ h9 => h9) dJ0_coder_7d493_0 ?_
  refine lv_if_eq (tgt := 13) hx hb dJ0_coder_7d493_3 (by decide) (fun c_3 => ?_) (fun c_3 => ?_)
  · exact absurd c_3 (by decide)
  · refine lv_aload_n hx hb dJ0_coder_7d493_6 rfl (lv_at hl 0 rfl) ?_
    obtain ⟨hw_7, hf⟩ := cp_e hf
    have hk_7 := hG.2.2.1.2.2.2.2.1 w0 hw_7
    refine vk_getf hx hb (hk_7.2.1.narrow hAB) hS hown (hts _ m_J0_coder_7d493_1831b3) (fun _ h9 => h9) dJ0_coder_7d493_7 ?_
    refine lv_goto (tgt := 14) hx hb dJ0_coder_7d493_10 (by decide) ?_
    have e9 := Option.some.inj hf
    exact rt_z hx hb hr rfl hlocks e9 hP hS dJ0_coder_7d493_14
abbrev rm_J0_length_8abf5 : Room := { frames := 1, cells := 0, slots := 0, locals := 20 }
theorem m_J0_length_8abf5_0cc51b : Cond.fieldLink RJ0 9 "java/lang/String" "value" "[B" ∈ wsJ0_length_8abf5 := by decide +kernel
set_option maxHeartbeats 8000000 in
set_option maxRecDepth 100000 in
theorem k_J0_length_8abf5 (l : Launch) (E : Ev) (N : Nat) (w0 : Nat) (q : (Int32)) (hf : f_J0_length_8abf5 N w0 = some q) : Ci l yJ0_length_8abf5 wsJ0_length_8abf5 rm_J0_length_8abf5 E [.ref (E.2.2.2.2.2.1 w0)] (([] : va_W)) (([] : va_W)) q := by
  unfold f_J0_length_8abf5 at hf
  intro sz
  refine Met.ofW (cc := cJ0_length_8abf5) (maxL := 1) (ret := (some .int)) (by decide) rfl ?_
  intro p e s m args below meth c s₁ B hml hv
  obtain ⟨rfl, hsz, hP, hK, hD0, hG, hA, hAB⟩ := start hv
  have hx := B.exec
  have hb := B.bytes
  have hr := B.returns
  have hts := atoms_spec (ws := wsJ0_length_8abf5) B.pre
  have hown : s.vm.findClass RJ0 = some m.cls := findClass_of_methodNamed B.named
  have hlocks := B.notSynchronized
  subst hsz
  generalize va_A (([] : va_W)) s.heap.size = A0 at hD0 hA hAB ⊢
  have hDD : va_D A0 (([] : va_W)) := hD0
  have hS : va_S A0 s.heap s.heap [] := va_S.rf
  have hl := lv_entry ([.ref (E.2.2.2.2.2.1 w0)]) (n := 1) (Nat.le_of_ble_eq_true rfl)
  rw [lg_entry_eq]
  generalize (lg_sl ([.ref (E.2.2.2.2.2.1 w0)]) ++ List.replicate (1 - (lg_sl ([.ref (E.2.2.2.2.2.1 w0)])).length) Slot.unset).toArray = ls at hl ⊢
  have hl : lv_has ls 1 [(0, .ref (E.2.2.2.2.2.1 w0))] := hl
  refine lv_aload_n hx hb dJ0_length_8abf5_0 rfl (lv_at hl 0 rfl) ?_
  obtain ⟨hw_1, hf⟩ := cp_e hf
  have hk_1 := hG.2.2.1.2.2.2.2.1 w0 hw_1
  refine vk_getf hx hb (hk_1.2.2.1.narrow hAB) hS hown (hts _ m_J0_length_8abf5_0cc51b) (fun _ h9 => h9) dJ0_length_8abf5_1 ?_
  obtain ⟨hw_4, hf⟩ := cp_e hf
  have hk_4 := hG.2.2.1.2.2.2.2.1 w0 hw_4
  refine va_tlen (v := nI (kLen.getD w0 0)) hx hb (hk_4.2.2.2.narrow hAB) hS rfl dJ0_length_8abf5_4 ?_
  refine lv_aload_n hx hb dJ0_length_8abf5_5 rfl (lv_at hl 0 rfl) ?_
  obtain ⟨q6, hc_6, hf⟩ := cl_e hf
  obtain ⟨hw_6, hf⟩ := cp_e hf
  have hk_6 := hG.2.2.1.2.2.2.2.1 w0 hw_6
  refine fin_i (E := E) (wc := ([] : va_W)) (wc' := ([] : va_W)) (va_runV (As := []) (rest := [.int (nI (kLen.getD w0 0))]) ⟨hx, hb, hml, hown, hts⟩ (k_J0_coder_7d493 l E N w0 q6 hc_6 _) (cwV 0 hts gJ0_length_8abf5_J0_coder_7d493 rfl rfl rfl (by decide +kernel) ⟨(Nat.le_of_ble_eq_true rfl), (Nat.le_of_ble_eq_true rfl)⟩) (pre_k hK va_P_nil va_D_nil hS hG hAB hw_6) rfl rfl hl.1 rfl (lv_room (Nat.le_of_ble_eq_true rfl)) dJ0_length_8abf5_6 ⟨Nat.zero_le _, Nat.zero_le _⟩) hS (free_nil hS hA) (fun H locs hP1 hk hS => ?_)
  have hP := w_kept0 hP hk
  refine lv_ishr hx hb dJ0_length_8abf5_9 ?_
  have e9 := Option.some.inj hf
  exact rt_i hx hb hr hlocks e9 hP hS dJ0_length_8abf5_10
abbrev rm_J0_isLatin1_aae02 : Room := { frames := 0, cells := 0, slots := 0, locals := 0 }
theorem m_J0_isLatin1_aae02_464d53 : Cond.fieldLink RJ0 38 "java/lang/String" "COMPACT_STRINGS" "Z" ∈ wsJ0_isLatin1_aae02 := by decide +kernel
theorem m_J0_isLatin1_aae02_1831b3 : Cond.fieldLink RJ0 15 "java/lang/String" "coder" "B" ∈ wsJ0_isLatin1_aae02 := by decide +kernel
set_option maxHeartbeats 8000000 in
set_option maxRecDepth 100000 in
theorem k_J0_isLatin1_aae02 (l : Launch) (E : Ev) (N : Nat) (w0 : Nat) (q : (Int32)) (hf : f_J0_isLatin1_aae02 N w0 = some q) : Ci l yJ0_isLatin1_aae02 wsJ0_isLatin1_aae02 rm_J0_isLatin1_aae02 E [.ref (E.2.2.2.2.2.1 w0)] (([] : va_W)) (([] : va_W)) q := by
  unfold f_J0_isLatin1_aae02 at hf
  intro sz
  refine Met.ofW (cc := cJ0_isLatin1_aae02) (maxL := 1) (ret := (some .boolean)) (by decide) rfl ?_
  intro p e s m args below meth c s₁ B hml hv
  obtain ⟨rfl, hsz, hP, hK, hD0, hG, hA, hAB⟩ := start hv
  have hx := B.exec
  have hb := B.bytes
  have hr := B.returns
  have hts := atoms_spec (ws := wsJ0_isLatin1_aae02) B.pre
  have hown : s.vm.findClass RJ0 = some m.cls := findClass_of_methodNamed B.named
  have hlocks := B.notSynchronized
  subst hsz
  generalize va_A (([] : va_W)) s.heap.size = A0 at hD0 hA hAB ⊢
  have hDD : va_D A0 (([] : va_W)) := hD0
  have hS : va_S A0 s.heap s.heap [] := va_S.rf
  have hl := lv_entry ([.ref (E.2.2.2.2.2.1 w0)]) (n := 1) (Nat.le_of_ble_eq_true rfl)
  rw [lg_entry_eq]
  generalize (lg_sl ([.ref (E.2.2.2.2.2.1 w0)]) ++ List.replicate (1 - (lg_sl ([.ref (E.2.2.2.2.2.1 w0)])).length) Slot.unset).toArray = ls at hl ⊢
  have hl : lv_has ls 1 [(0, .ref (E.2.2.2.2.2.1 w0))] := hl
  refine va_gets hx hb (hG.2.2.1.2.2.1.narrow hAB) hS hown (hts _ m_J0_isLatin1_aae02_464d53) (fun _ h9 => h9) dJ0_isLatin1_aae02_0 ?_
  refine lv_if_eq (tgt := 17) hx hb dJ0_isLatin1_aae02_3 (by decide) (fun c_3 => ?_) (fun c_3 => ?_)
  · exact absurd c_3 (by decide)
  · refine lv_aload_n hx hb dJ0_isLatin1_aae02_6 rfl (lv_at hl 0 rfl) ?_
    obtain ⟨hw_7, hf⟩ := cp_e hf
    have hk_7 := hG.2.2.1.2.2.2.2.1 w0 hw_7
    refine vk_getf hx hb (hk_7.2.1.narrow hAB) hS hown (hts _ m_J0_isLatin1_aae02_1831b3) (fun _ h9 => h9) dJ0_isLatin1_aae02_7 ?_
    refine lv_if_ne (tgt := 17) hx hb dJ0_isLatin1_aae02_10 (by decide) (fun c_10 => ?_) (fun c_10 => ?_)
    · exact absurd c_10 (by decide)
    · refine lv_iconst (v := 1) hx hb dJ0_isLatin1_aae02_13 (by decide) ?_
      refine lv_goto (tgt := 18) hx hb dJ0_isLatin1_aae02_14 (by decide) ?_
      have e9 := Option.some.inj hf
      exact rt_z hx hb hr rfl hlocks e9 hP hS dJ0_isLatin1_aae02_18
abbrev rm_J3_checkIndex_8e157 : Room := { frames := 0, cells := 0, slots := 0, locals := 0 }
set_option maxHeartbeats 8000000 in
set_option maxRecDepth 100000 in
theorem k_J3_checkIndex_8e157 (l : Launch) (E : Ev) (N : Nat) (b2 : Nat) (p0 : Int32) (p1 : Int32) (q : (Int32)) (hf : f_J3_checkIndex_8e157 N p0 p1 = some q) : Ci l yJ3_checkIndex_8e157 wsJ3_checkIndex_8e157 rm_J3_checkIndex_8e157 E [.int p0, .int p1, .ref b2] (([] : va_W)) (([] : va_W)) q := by
  unfold f_J3_checkIndex_8e157 at hf
  intro sz
  refine Met.ofW (cc := cJ3_checkIndex_8e157) (maxL := 3) (ret := (some .int)) (by decide) rfl ?_
  intro p e s m args below meth c s₁ B hml hv
  obtain ⟨rfl, hsz, hP, hK, hD0, hG, hA, hAB⟩ := start hv
  have hx := B.exec
  have hb := B.bytes
  have hr := B.returns
  have hts := atoms_spec (ws := wsJ3_checkIndex_8e157) B.pre
  have hown : s.vm.findClass RJ3 = some m.cls := findClass_of_methodNamed B.named
  have hlocks := B.notSynchronized
  subst hsz
  generalize va_A (([] : va_W)) s.heap.size = A0 at hD0 hA hAB ⊢
  have hDD : va_D A0 (([] : va_W)) := hD0
  have hS : va_S A0 s.heap s.heap [] := va_S.rf
  have hl := lv_entry ([.int p0, .int p1, .ref b2]) (n := 3) (Nat.le_of_ble_eq_true rfl)
  rw [lg_entry_eq]
  generalize (lg_sl ([.int p0, .int p1, .ref b2]) ++ List.replicate (3 - (lg_sl ([.int p0, .int p1, .ref b2])).length) Slot.unset).toArray = ls at hl ⊢
  have hl : lv_has ls 3 [(0, .int p0), (1, .int p1), (2, .ref b2)] := hl
  refine lv_iload_n hx hb dJ3_checkIndex_8e157_0 rfl (lv_at hl 0 rfl) ?_
  refine lv_if_lt (tgt := 9) hx hb dJ3_checkIndex_8e157_1 (by decide) (fun c_1 => ?_) (fun c_1 => ?_)
  · have hf := ite_t c_1 hf
    refine lv_aload_n hx hb dJ3_checkIndex_8e157_9 rfl (lv_at hl 2 rfl) ?_
    refine lv_iload_n hx hb dJ3_checkIndex_8e157_10 rfl (lv_at hl 0 rfl) ?_
    refine lv_iload_n hx hb dJ3_checkIndex_8e157_11 rfl (lv_at hl 1 rfl) ?_
    cases hf
  · have hf := ite_f c_1 hf
    refine lv_iload_n hx hb dJ3_checkIndex_8e157_4 rfl (lv_at hl 0 rfl) ?_
    refine lv_iload_n hx hb dJ3_checkIndex_8e157_5 rfl (lv_at hl 1 rfl) ?_
    refine lv_icmp_lt (tgt := 16) hx hb dJ3_checkIndex_8e157_6 (by decide) (fun c_6 => ?_) (fun c_6 => ?_)
    · have hf := ite_t c_6 hf
      refine lv_iload_n hx hb dJ3_checkIndex_8e157_16 rfl (lv_at hl 0 rfl) ?_
      have e9 := Option.some.inj hf
      exact rt_i hx hb hr hlocks e9 hP hS dJ3_checkIndex_8e157_17
    · have hf := ite_f c_6 hf
      refine lv_aload_n hx hb dJ3_checkIndex_8e157_9 rfl (lv_at hl 2 rfl) ?_
      refine lv_iload_n hx hb dJ3_checkIndex_8e157_10 rfl (lv_at hl 0 rfl) ?_
      refine lv_iload_n hx hb dJ3_checkIndex_8e157_11 rfl (lv_at hl 1 rfl) ?_
      cases hf
set_option maxHeartbeats 8000000 in
set_option maxRecDepth 100000 in
theorem k_J3_checkIndex_8e157_n (l : Launch) (E : Ev) (N : Nat) (p0 : Int32) (p1 : Int32) (q : (Int32)) (hf : f_J3_checkIndex_8e157 N p0 p1 = some q) : Ci l yJ3_checkIndex_8e157 wsJ3_checkIndex_8e157 rm_J3_checkIndex_8e157 E [.int p0, .int p1, .null] (([] : va_W)) (([] : va_W)) q := by
  unfold f_J3_checkIndex_8e157 at hf
  intro sz
  refine Met.ofW (cc := cJ3_checkIndex_8e157) (maxL := 3) (ret := (some .int)) (by decide) rfl ?_
  intro p e s m args below meth c s₁ B hml hv
  obtain ⟨rfl, hsz, hP, hK, hD0, hG, hA, hAB⟩ := start hv
  have hx := B.exec
  have hb := B.bytes
  have hr := B.returns
  have hts := atoms_spec (ws := wsJ3_checkIndex_8e157) B.pre
  have hown : s.vm.findClass RJ3 = some m.cls := findClass_of_methodNamed B.named
  have hlocks := B.notSynchronized
  subst hsz
  generalize va_A (([] : va_W)) s.heap.size = A0 at hD0 hA hAB ⊢
  have hDD : va_D A0 (([] : va_W)) := hD0
  have hS : va_S A0 s.heap s.heap [] := va_S.rf
  have hl := lv_entry ([.int p0, .int p1, .null]) (n := 3) (Nat.le_of_ble_eq_true rfl)
  rw [lg_entry_eq]
  generalize (lg_sl ([.int p0, .int p1, .null]) ++ List.replicate (3 - (lg_sl ([.int p0, .int p1, .null])).length) Slot.unset).toArray = ls at hl ⊢
  have hl : lv_has ls 3 [(0, .int p0), (1, .int p1), (2, .null)] := hl
  refine lv_iload_n hx hb dJ3_checkIndex_8e157_0 rfl (lv_at hl 0 rfl) ?_
  refine lv_if_lt (tgt := 9) hx hb dJ3_checkIndex_8e157_1 (by decide) (fun c_1 => ?_) (fun c_1 => ?_)
  · have hf := ite_t c_1 hf
    cases hf
  · have hf := ite_f c_1 hf
    refine lv_iload_n hx hb dJ3_checkIndex_8e157_4 rfl (lv_at hl 0 rfl) ?_
    refine lv_iload_n hx hb dJ3_checkIndex_8e157_5 rfl (lv_at hl 1 rfl) ?_
    refine lv_icmp_lt (tgt := 16) hx hb dJ3_checkIndex_8e157_6 (by decide) (fun c_6 => ?_) (fun c_6 => ?_)
    · have hf := ite_t c_6 hf
      refine lv_iload_n hx hb dJ3_checkIndex_8e157_16 rfl (lv_at hl 0 rfl) ?_
      have e9 := Option.some.inj hf
      exact rt_i hx hb hr hlocks e9 hP hS dJ3_checkIndex_8e157_17
    · have hf := ite_f c_6 hf
      cases hf
abbrev rm_J0_checkIndex_df160 : Room := { frames := 1, cells := 0, slots := 0, locals := 22 }
theorem m_J0_checkIndex_df160_3e888b : Cond.fieldLink RJ0 1053 "jdk/internal/util/Preconditions" "SIOOBE_FORMATTER" "Ljava/util/function/BiFunction;" ∈ wsJ0_checkIndex_df160 := by decide +kernel
set_option maxHeartbeats 8000000 in
set_option maxRecDepth 100000 in
theorem k_J0_checkIndex_df160 (l : Launch) (E : Ev) (N : Nat) (p0 : Int32) (p1 : Int32) (q : (Unit)) (hf : f_J0_checkIndex_df160 N p0 p1 = some q) : Cv l yJ0_checkIndex_df160 wsJ0_checkIndex_df160 rm_J0_checkIndex_df160 E [.int p0, .int p1] (([] : va_W)) (([] : va_W)) := by
  unfold f_J0_checkIndex_df160 at hf
  intro sz
  refine Met.ofW (cc := cJ0_checkIndex_df160) (maxL := 2) (ret := none) (by decide) rfl ?_
  intro p e s m args below meth c s₁ B hml hv
  obtain ⟨rfl, hsz, hP, hK, hD0, hG, hA, hAB⟩ := start hv
  have hx := B.exec
  have hb := B.bytes
  have hr := B.returns
  have hts := atoms_spec (ws := wsJ0_checkIndex_df160) B.pre
  have hown : s.vm.findClass RJ0 = some m.cls := findClass_of_methodNamed B.named
  have hlocks := B.notSynchronized
  subst hsz
  generalize va_A (([] : va_W)) s.heap.size = A0 at hD0 hA hAB ⊢
  have hDD : va_D A0 (([] : va_W)) := hD0
  have hS : va_S A0 s.heap s.heap [] := va_S.rf
  have hl := lv_entry ([.int p0, .int p1]) (n := 2) (Nat.le_of_ble_eq_true rfl)
  rw [lg_entry_eq]
  generalize (lg_sl ([.int p0, .int p1]) ++ List.replicate (2 - (lg_sl ([.int p0, .int p1])).length) Slot.unset).toArray = ls at hl ⊢
  have hl : lv_has ls 2 [(0, .int p0), (1, .int p1)] := hl
  refine lv_iload_n hx hb dJ0_checkIndex_df160_0 rfl (lv_at hl 0 rfl) ?_
  refine lv_iload_n hx hb dJ0_checkIndex_df160_1 rfl (lv_at hl 1 rfl) ?_
  rcases hG.2.2.1.2.2.2.1 with hz_2 | ⟨t_2, hz_2⟩
  · refine va_gets hx hb (hz_2.narrow hAB) hS hown (hts _ m_J0_checkIndex_df160_3e888b) (fun _ h9 => h9) dJ0_checkIndex_df160_2 ?_
    obtain ⟨q5, hc_5, hf⟩ := cl_e hf
    refine fin_i (E := E) (wc := ([] : va_W)) (wc' := ([] : va_W)) (va_runS (As := [.int p0, .int p1, .null]) (rest := []) ⟨hx, hb, hml, hown, hts⟩ (k_J3_checkIndex_8e157_n l E N p0 p1 q5 hc_5 _) (va_cwS 3 hts gJ0_checkIndex_df160_J3_checkIndex_8e157 rfl rfl rfl (by decide +kernel) ⟨(Nat.le_of_ble_eq_true rfl), (Nat.le_of_ble_eq_true rfl)⟩) (pre_s hK va_P_nil va_D_nil hS hG hAB) rfl rfl hl.1 rfl (lv_room (Nat.le_of_ble_eq_true rfl)) dJ0_checkIndex_df160_5 ⟨Nat.zero_le _, Nat.zero_le _⟩) hS (free_nil hS hA) (fun H locs hP1 hk hS => ?_)
    have hP := w_kept0 hP hk
    refine lv_pop hx hb dJ0_checkIndex_df160_8 rfl ?_
    have e9 := Option.some.inj hf
    exact rt_v hx hb hr hlocks hP hS dJ0_checkIndex_df160_9
  · refine va_gets hx hb (hz_2.narrow hAB) hS hown (hts _ m_J0_checkIndex_df160_3e888b) (fun _ h9 => h9) dJ0_checkIndex_df160_2 ?_
    obtain ⟨q5, hc_5, hf⟩ := cl_e hf
    refine fin_i (E := E) (wc := ([] : va_W)) (wc' := ([] : va_W)) (va_runS (As := [.int p0, .int p1, .ref t_2]) (rest := []) ⟨hx, hb, hml, hown, hts⟩ (k_J3_checkIndex_8e157 l E N t_2 p0 p1 q5 hc_5 _) (va_cwS 3 hts gJ0_checkIndex_df160_J3_checkIndex_8e157 rfl rfl rfl (by decide +kernel) ⟨(Nat.le_of_ble_eq_true rfl), (Nat.le_of_ble_eq_true rfl)⟩) (pre_s hK va_P_nil va_D_nil hS hG hAB) rfl rfl hl.1 rfl (lv_room (Nat.le_of_ble_eq_true rfl)) dJ0_checkIndex_df160_5 ⟨Nat.zero_le _, Nat.zero_le _⟩) hS (free_nil hS hA) (fun H locs hP1 hk hS => ?_)
    have hP := w_kept0 hP hk
    refine lv_pop hx hb dJ0_checkIndex_df160_8 rfl ?_
    have e9 := Option.some.inj hf
    exact rt_v hx hb hr hlocks hP hS dJ0_checkIndex_df160_9
abbrev rm_J1_charAt_3b067 : Room := { frames := 2, cells := 0, slots := 0, locals := 43 }
set_option maxHeartbeats 8000000 in
set_option maxRecDepth 100000 in
theorem k_J1_charAt_3b067 (l : Launch) (E : Ev) (N : Nat) (w0 : Nat) (p1 : Int32) (q : (Int32)) (hf : f_J1_charAt_3b067 N w0 p1 = some q) : Ci l yJ1_charAt_3b067 wsJ1_charAt_3b067 rm_J1_charAt_3b067 E [.ref (E.2.2.2.2.2.2.1 w0), .int p1] (([] : va_W)) (([] : va_W)) q := by
  unfold f_J1_charAt_3b067 at hf
  intro sz
  refine Met.ofW (cc := cJ1_charAt_3b067) (maxL := 2) (ret := (some .char)) (by decide) rfl ?_
  intro p e s m args below meth c s₁ B hml hv
  obtain ⟨rfl, hsz, hP, hK, hD0, hG, hA, hAB⟩ := start hv
  have hx := B.exec
  have hb := B.bytes
  have hr := B.returns
  have hts := atoms_spec (ws := wsJ1_charAt_3b067) B.pre
  have hown : s.vm.findClass RJ1 = some m.cls := findClass_of_methodNamed B.named
  have hlocks := B.notSynchronized
  subst hsz
  generalize va_A (([] : va_W)) s.heap.size = A0 at hD0 hA hAB ⊢
  have hDD : va_D A0 (([] : va_W)) := hD0
  have hS : va_S A0 s.heap s.heap [] := va_S.rf
  have hl := lv_entry ([.ref (E.2.2.2.2.2.2.1 w0), .int p1]) (n := 2) (Nat.le_of_ble_eq_true rfl)
  rw [lg_entry_eq]
  generalize (lg_sl ([.ref (E.2.2.2.2.2.2.1 w0), .int p1]) ++ List.replicate (2 - (lg_sl ([.ref (E.2.2.2.2.2.2.1 w0), .int p1])).length) Slot.unset).toArray = ls at hl ⊢
  have hl : lv_has ls 2 [(0, .ref (E.2.2.2.2.2.2.1 w0)), (1, .int p1)] := hl
  refine lv_iload_n hx hb dJ1_charAt_3b067_0 rfl (lv_at hl 1 rfl) ?_
  refine lv_aload_n hx hb dJ1_charAt_3b067_1 rfl (lv_at hl 0 rfl) ?_
  obtain ⟨hw_2, hf⟩ := cp_e hf
  have hk_2 := hG.2.2.1.2.2.2.2.1 w0 hw_2
  refine va_tlen (v := nI (kLen.getD w0 0)) hx hb (hk_2.2.2.2.narrow hAB) hS rfl dJ1_charAt_3b067_2 ?_
  obtain ⟨q3, hc_3, hf⟩ := cl_e hf
  refine fin_v (E := E) (wc := ([] : va_W)) (wc' := ([] : va_W)) (va_runS (As := [.int p1, .int (nI (kLen.getD w0 0))]) (rest := []) ⟨hx, hb, hml, hown, hts⟩ (k_J0_checkIndex_df160 l E N p1 (nI (kLen.getD w0 0)) q3 hc_3 _) (va_cwS 2 hts gJ1_charAt_3b067_J0_checkIndex_df160 rfl rfl rfl (by decide +kernel) ⟨(Nat.le_of_ble_eq_true rfl), (Nat.le_of_ble_eq_true rfl)⟩) (pre_s hK va_P_nil va_D_nil hS hG hAB) rfl rfl hl.1 rfl (lv_room (Nat.le_of_ble_eq_true rfl)) dJ1_charAt_3b067_3 ⟨Nat.zero_le _, Nat.zero_le _⟩) hS (free_nil hS hA) (fun H locs hP1 hk hS => ?_)
  have hP := w_kept0 hP hk
  refine lv_aload_n hx hb dJ1_charAt_3b067_6 rfl (lv_at hl 0 rfl) ?_
  refine lv_iload_n hx hb dJ1_charAt_3b067_7 rfl (lv_at hl 1 rfl) ?_
  obtain ⟨h_8, hf⟩ := ck_e hf
  obtain ⟨hw_8, hf⟩ := cp_e hf
  have hk_8 := hG.2.2.1.2.2.2.2.1 w0 hw_8
  refine va_tb (v := .int ((kByt.getD w0 []).getD p1.toNatClampNeg 0)) hx hb (hk_8.2.2.2.narrow hAB) hS h_8 rfl dJ1_charAt_3b067_8 ?_
  refine lv_sipush (v := 255) hx hb dJ1_charAt_3b067_9 (by decide) ?_
  refine lv_iand hx hb dJ1_charAt_3b067_12 ?_
  refine lv_i2c (v := ((((kByt.getD w0 []).getD p1.toNatClampNeg 0) &&& 255).toUInt32 % 65536).toInt32) hx hb dJ1_charAt_3b067_13 rfl ?_
  obtain ⟨hn_14, hf⟩ := cp_e hf
  have e9 := Option.some.inj hf
  exact rt_z hx hb hr hn_14 hlocks e9 hP hS dJ1_charAt_3b067_14
abbrev rm_J0_charAt_5068e : Room := { frames := 3, cells := 0, slots := 0, locals := 64 }
theorem m_J0_charAt_5068e_0cc51b : Cond.fieldLink RJ0 9 "java/lang/String" "value" "[B" ∈ wsJ0_charAt_5068e := by decide +kernel
set_option maxHeartbeats 8000000 in
set_option maxRecDepth 100000 in
theorem k_J0_charAt_5068e (l : Launch) (E : Ev) (N : Nat) (w0 : Nat) (p1 : Int32) (q : (Int32)) (hf : f_J0_charAt_5068e N w0 p1 = some q) : Ci l yJ0_charAt_5068e wsJ0_charAt_5068e rm_J0_charAt_5068e E [.ref (E.2.2.2.2.2.1 w0), .int p1] (([] : va_W)) (([] : va_W)) q := by
  unfold f_J0_charAt_5068e at hf
  intro sz
  refine Met.ofW (cc := cJ0_charAt_5068e) (maxL := 2) (ret := (some .char)) (by decide) rfl ?_
  intro p e s m args below meth c s₁ B hml hv
  obtain ⟨rfl, hsz, hP, hK, hD0, hG, hA, hAB⟩ := start hv
  have hx := B.exec
  have hb := B.bytes
  have hr := B.returns
  have hts := atoms_spec (ws := wsJ0_charAt_5068e) B.pre
  have hown : s.vm.findClass RJ0 = some m.cls := findClass_of_methodNamed B.named
  have hlocks := B.notSynchronized
  subst hsz
  generalize va_A (([] : va_W)) s.heap.size = A0 at hD0 hA hAB ⊢
  have hDD : va_D A0 (([] : va_W)) := hD0
  have hS : va_S A0 s.heap s.heap [] := va_S.rf
  have hl := lv_entry ([.ref (E.2.2.2.2.2.1 w0), .int p1]) (n := 2) (Nat.le_of_ble_eq_true rfl)
  rw [lg_entry_eq]
  generalize (lg_sl ([.ref (E.2.2.2.2.2.1 w0), .int p1]) ++ List.replicate (2 - (lg_sl ([.ref (E.2.2.2.2.2.1 w0), .int p1])).length) Slot.unset).toArray = ls at hl ⊢
  have hl : lv_has ls 2 [(0, .ref (E.2.2.2.2.2.1 w0)), (1, .int p1)] := hl
  refine lv_aload_n hx hb dJ0_charAt_5068e_0 rfl (lv_at hl 0 rfl) ?_
  obtain ⟨q1, hc_1, hf⟩ := cl_e hf
  obtain ⟨hw_1, hf⟩ := cp_e hf
  have hk_1 := hG.2.2.1.2.2.2.2.1 w0 hw_1
  refine fin_i (E := E) (wc := ([] : va_W)) (wc' := ([] : va_W)) (va_runV (As := []) (rest := []) ⟨hx, hb, hml, hown, hts⟩ (k_J0_isLatin1_aae02 l E N w0 q1 hc_1 _) (cwV 0 hts gJ0_charAt_5068e_J0_isLatin1_aae02 rfl rfl rfl (by decide +kernel) ⟨(Nat.le_of_ble_eq_true rfl), (Nat.le_of_ble_eq_true rfl)⟩) (pre_k hK va_P_nil va_D_nil hS hG hAB hw_1) rfl rfl hl.1 rfl (lv_room (Nat.le_of_ble_eq_true rfl)) dJ0_charAt_5068e_1 ⟨Nat.zero_le _, Nat.zero_le _⟩) hS (free_nil hS hA) (fun H locs hP1 hk hS => ?_)
  have hP := w_kept0 hP hk
  refine lv_if_eq (tgt := 16) hx hb dJ0_charAt_5068e_4 (by decide) (fun c_4 => ?_) (fun c_4 => ?_)
  · have hf := ite_t c_4 hf
    refine lv_aload_n hx hb dJ0_charAt_5068e_16 rfl (lv_at hl 0 rfl) ?_
    obtain ⟨hw_17, hf⟩ := cp_e hf
    have hk_17 := hG.2.2.1.2.2.2.2.1 w0 hw_17
    refine vk_getf hx hb (hk_17.2.2.1.narrow hAB) hS hown (hts _ m_J0_charAt_5068e_0cc51b) (fun _ h9 => h9) dJ0_charAt_5068e_17 ?_
    refine lv_iload_n hx hb dJ0_charAt_5068e_20 rfl (lv_at hl 1 rfl) ?_
    cases hf
  · have hf := ite_f c_4 hf
    refine lv_aload_n hx hb dJ0_charAt_5068e_7 rfl (lv_at hl 0 rfl) ?_
    obtain ⟨hw_8, hf⟩ := cp_e hf
    have hk_8 := hG.2.2.1.2.2.2.2.1 w0 hw_8
    refine vk_getf hx hb (hk_8.2.2.1.narrow hAB) hS hown (hts _ m_J0_charAt_5068e_0cc51b) (fun _ h9 => h9) dJ0_charAt_5068e_8 ?_
    refine lv_iload_n hx hb dJ0_charAt_5068e_11 rfl (lv_at hl 1 rfl) ?_
    obtain ⟨q12, hc_12, hf⟩ := cl_e hf
    refine fin_i (E := E) (wc := ([] : va_W)) (wc' := ([] : va_W)) (va_runS (As := [.ref (E.2.2.2.2.2.2.1 w0), .int p1]) (rest := []) ⟨hx, hb, hml, hown, hts⟩ (k_J1_charAt_3b067 l E N w0 p1 q12 hc_12 _) (va_cwS 2 hts gJ0_charAt_5068e_J1_charAt_3b067 rfl rfl rfl (by decide +kernel) ⟨(Nat.le_of_ble_eq_true rfl), (Nat.le_of_ble_eq_true rfl)⟩) (pre_s hK va_P_nil va_D_nil hS hG hAB) rfl rfl hl.1 rfl (lv_room (Nat.le_of_ble_eq_true rfl)) dJ0_charAt_5068e_12 ⟨Nat.zero_le _, Nat.zero_le _⟩) hS (free_nil hS hA) (fun H locs hP1 hk hS => ?_)
    have hP := w_kept0 hP hk
    obtain ⟨hn_15, hf⟩ := cp_e hf
    have e9 := Option.some.inj hf
    exact rt_z hx hb hr hn_15 hlocks e9 hP hS dJ0_charAt_5068e_15
abbrev rm_X5_readSign : Room := { frames := 1, cells := 0, slots := 0, locals := 20 }
theorem m_X5_readSign_646be5 : Cond.fieldLink RX5 22 "PickedMatch$StreetReader" "place" "I" ∈ wsX5_readSign := by decide +kernel
theorem i_X5_readSign_X5 : ∀ w ∈ wsX50, w ∈ wsX5_readSign := fun _ h => List.mem_cons_of_mem _ (List.mem_append_right _ h)
set_option maxHeartbeats 8000000 in
set_option maxRecDepth 100000 in
theorem k_X5_readSign (l : Launch) (E : Ev) (a0 : Nat → Nat) (N : Nat) (s0 : St) (p1 : Int32) (q : (Int32 × St)) (hf : f_X5_readSign N s0 p1 = some q) : Ci l yX5_readSign wsX5_readSign rm_X5_readSign E [.ref (a0 0), .int p1] (wX5 E a0 s0) (wX5 E a0 q.2) q.1 := by
  unfold f_X5_readSign at hf
  intro sz
  refine Met.ofW (cc := cX5_readSign) (maxL := 2) (ret := (some .boolean)) (by decide) rfl ?_
  intro p e s m args below meth c s₁ B hml hv
  obtain ⟨rfl, hsz, hP, hK, hD0, hG, hA, hAB⟩ := start hv
  have hx := B.exec
  have hb := B.bytes
  have hr := B.returns
  have hts := atoms_spec (ws := wsX5_readSign) B.pre
  have hown : s.vm.findClass RX5 = some m.cls := findClass_of_methodNamed B.named
  have hlocks := B.notSynchronized
  subst hsz
  generalize va_A (wX5 E a0 s0) s.heap.size = A0 at hD0 hA hAB ⊢
  have hDD : ∀ (s0 : St), va_D A0 (wX5 E a0 s0) := fun s0 => vD_addr hD0 rfl
  have hS : va_S A0 s.heap s.heap [] := va_S.rf
  have hl := lv_entry ([.ref (a0 0), .int p1]) (n := 2) (Nat.le_of_ble_eq_true rfl)
  rw [lg_entry_eq]
  generalize (lg_sl ([.ref (a0 0), .int p1]) ++ List.replicate (2 - (lg_sl ([.ref (a0 0), .int p1])).length) Slot.unset).toArray = ls at hl ⊢
  have hl : lv_has ls 2 [(0, .ref (a0 0)), (1, .int p1)] := hl
  refine lv_aload_n hx hb dX5_readSign_0 rfl (lv_at hl 0 rfl) ?_
  obtain ⟨q1, hc_1, hf⟩ := cl_e hf
  refine fin_i (E := E) (wc := wX5 E a0 s0) (wc' := wX5 E a0 s0) (va_runV (As := []) (rest := []) ⟨hx, hb, hml, hown, hts⟩ (k_X5_nextSign l E a0 N s0 q1 hc_1 _) (cwV 0 hts gX5_readSign_X5_nextSign rfl rfl rfl (by decide +kernel) ⟨(Nat.le_of_ble_eq_true rfl), (Nat.le_of_ble_eq_true rfl)⟩) (pre_v (ci := 5) (q0 := 0) hK hP (hDD s0) hS hG hAB rfl rfl) rfl rfl hl.1 rfl (lv_room (Nat.le_of_ble_eq_true rfl)) dX5_readSign_1 ⟨Nat.zero_le _, Nat.zero_le _⟩) hS (w_free (hDD s0) hS hA (fun _ h => h)) (fun H locs hP1 hk hS => ?_)
  have hP := hP1
  refine lv_iload_n hx hb dX5_readSign_4 rfl (lv_at hl 1 rfl) ?_
  refine lv_icmp_eq (tgt := 10) hx hb dX5_readSign_5 (by decide) (fun c_5 => ?_) (fun c_5 => ?_)
  · have hf := ite_t c_5 hf
    refine lv_aload_n hx hb dX5_readSign_10 rfl (lv_at hl 0 rfl) ?_
    refine lv_dup hx hb dX5_readSign_11 rfl ?_
    refine va_get (ci := 5) (C := RX5) (T := TX5) (N := 8) (v := .int (s0 6 0)) hx hb hts i_X5_readSign_X5 hown hK hP 0 rfl rfl 6 (by decide) (hts _ m_X5_readSign_646be5) (fun _ h9 => h9) rfl dX5_readSign_12 ?_
    refine lv_iconst (v := 1) hx hb dX5_readSign_15 (by decide) ?_
    refine lv_iadd hx hb dX5_readSign_16 ?_
    refine va_put (ci := 5) (v := .int ((s0 6 0) + 1)) (ty := .int) (C := RX5) (T := TX5) (N := 8) hx hb hts i_X5_readSign_X5 tyX5 tyX5_ok nmX5 hown hK hP (hDD s0) hS 0 rfl rfl 6 (by decide) (hts _ m_X5_readSign_646be5) (fun _ h9 => h9) rfl (by decide +kernel) rfl rfl (Nat.le_of_ble_eq_true rfl) dX5_readSign_17 (fun H locs hP _ hS => ?_)
    obtain ⟨s0_17, hP, hf⟩ := nm_st' (P := fun z => va_P E.1 vwCl (wX5 E a0 z) H) hf hP
    refine lv_iconst (v := 1) hx hb dX5_readSign_20 (by decide) ?_
    have e9 := Option.some.inj hf
    exact rt_z hx hb hr rfl hlocks (fst_e e9) (rtP (P := fun z => va_P E.1 vwCl (wX5 E a0 z.2) H) e9 hP) hS dX5_readSign_21
  · have hf := ite_f c_5 hf
    refine lv_iconst (v := 0) hx hb dX5_readSign_8 (by decide) ?_
    have e9 := Option.some.inj hf
    exact rt_z hx hb hr rfl hlocks (fst_e e9) (rtP (P := fun z => va_P E.1 vwCl (wX5 E a0 z.2) H) e9 hP) hS dX5_readSign_9
abbrev rm_X5_readNumber : Room := { frames := 0, cells := 0, slots := 0, locals := 0 }
theorem m_X5_readNumber_646be5 : Cond.fieldLink RX5 22 "PickedMatch$StreetReader" "place" "I" ∈ wsX5_readNumber := by decide +kernel
theorem i_X5_readNumber_X5 : ∀ w ∈ wsX50, w ∈ wsX5_readNumber := fun _ h => List.mem_cons_of_mem _ (List.mem_append_right _ h)
theorem m_X5_readNumber_3e3bef : Cond.fieldLink RX5 18 "PickedMatch$StreetReader" "length" "I" ∈ wsX5_readNumber := by decide +kernel
theorem m_X5_readNumber_616439 : Cond.fieldLink RX5 11 "PickedMatch$StreetReader" "text" "[I" ∈ wsX5_readNumber := by decide +kernel
theorem m_X5_readNumber_3a6745 : Cond.fieldLink RX5 54 "PickedMatch$StreetReader" "number" "I" ∈ wsX5_readNumber := by decide +kernel
set_option maxHeartbeats 8000000 in
set_option maxRecDepth 100000 in
theorem k_X5_readNumber (l : Launch) (E : Ev) (a0 : Nat → Nat) (N : Nat) (s0 : St) (q : (Int32 × St)) (hf : f_X5_readNumber N s0 = some q) : Ci l yX5_readNumber wsX5_readNumber rm_X5_readNumber E [.ref (a0 0)] (wX5 E a0 s0) (wX5 E a0 q.2) q.1 := by
  unfold f_X5_readNumber at hf
  intro sz
  refine Met.ofW (cc := cX5_readNumber) (maxL := 2) (ret := (some .boolean)) (by decide) rfl ?_
  intro p e s m args below meth c s₁ B hml hv
  obtain ⟨rfl, hsz, hP, hK, hD0, hG, hA, hAB⟩ := start hv
  have hx := B.exec
  have hb := B.bytes
  have hr := B.returns
  have hts := atoms_spec (ws := wsX5_readNumber) B.pre
  have hown : s.vm.findClass RX5 = some m.cls := findClass_of_methodNamed B.named
  have hlocks := B.notSynchronized
  subst hsz
  generalize va_A (wX5 E a0 s0) s.heap.size = A0 at hD0 hA hAB ⊢
  have hDD : ∀ (s0 : St), va_D A0 (wX5 E a0 s0) := fun s0 => vD_addr hD0 rfl
  have hS : va_S A0 s.heap s.heap [] := va_S.rf
  have hl := lv_entry ([.ref (a0 0)]) (n := 2) (Nat.le_of_ble_eq_true rfl)
  rw [lg_entry_eq]
  generalize (lg_sl ([.ref (a0 0)]) ++ List.replicate (2 - (lg_sl ([.ref (a0 0)])).length) Slot.unset).toArray = ls at hl ⊢
  have hl : lv_has ls 2 [(0, .ref (a0 0))] := hl
  have hL_7 : ∀ (n_7 : Nat) (s0 : St) (v1 : Int32), l_X5_readNumber_7 N n_7 s0 v1 = some q → ∀ (H : Heap) (locs : List Loc) (ls : Array Slot), va_P E.1 vwCl (wX5 E a0 s0) H → va_S A0 s.heap H locs → lv_has ls 2 [(0, .ref (a0 0)), (1, .int v1)] → W p l e rm_X5_readNumber s m ([.ref (a0 0)] : List Value).toArray below meth c H locs 0 0 (MQ below (va_Qi (fun (r' : Int32) (_ : Unit) => r' = q.1) (fun _ t => va_P E.1 vwCl (wX5 E a0 q.2) t.heap) A0) ([.ref (a0 0)] : List Value).toArray s 0 0 A0) (F0 m 7 ls []) := by
    intro n_7
    induction n_7 with
    | zero => intro s0 v1 hf; rw [l_X5_readNumber_7] at hf; cases hf
    | succ n_7 ih_7 =>
      intro s0 v1 hf H locs ls hP hS hl
      rw [l_X5_readNumber_7] at hf
      refine lv_iload_n hx hb dX5_readNumber_7 rfl (lv_at hl 1 rfl) ?_
      refine lv_iconst (v := 2) hx hb dX5_readNumber_8 (by decide) ?_
      refine lv_icmp_ge (tgt := 91) hx hb dX5_readNumber_9 (by decide) (fun c_9 => ?_) (fun c_9 => ?_)
      · have hf := ite_t c_9 hf
        refine lv_iload_n hx hb dX5_readNumber_91 rfl (lv_at hl 1 rfl) ?_
        refine lv_if_le (tgt := 99) hx hb dX5_readNumber_92 (by decide) (fun c_92 => ?_) (fun c_92 => ?_)
        · have hf := ite_t c_92 hf
          refine lv_iconst (v := 0) hx hb dX5_readNumber_99 (by decide) ?_
          have e9 := Option.some.inj hf
          exact rt_z hx hb hr rfl hlocks (fst_e e9) (rtP (P := fun z => va_P E.1 vwCl (wX5 E a0 z.2) H) e9 hP) hS dX5_readNumber_100
        · have hf := ite_f c_92 hf
          refine lv_iconst (v := 1) hx hb dX5_readNumber_95 (by decide) ?_
          refine lv_goto (tgt := 100) hx hb dX5_readNumber_96 (by decide) ?_
          have e9 := Option.some.inj hf
          exact rt_z hx hb hr rfl hlocks (fst_e e9) (rtP (P := fun z => va_P E.1 vwCl (wX5 E a0 z.2) H) e9 hP) hS dX5_readNumber_100
      · have hf := ite_f c_9 hf
        refine lv_aload_n hx hb dX5_readNumber_12 rfl (lv_at hl 0 rfl) ?_
        refine va_get (ci := 5) (C := RX5) (T := TX5) (N := 8) (v := .int (s0 6 0)) hx hb hts i_X5_readNumber_X5 hown hK hP 0 rfl rfl 6 (by decide) (hts _ m_X5_readNumber_646be5) (fun _ h9 => h9) rfl dX5_readNumber_13 ?_
        refine lv_aload_n hx hb dX5_readNumber_16 rfl (lv_at hl 0 rfl) ?_
        refine va_get (ci := 5) (C := RX5) (T := TX5) (N := 8) (v := .int (s0 1 0)) hx hb hts i_X5_readNumber_X5 hown hK hP 0 rfl rfl 1 (by decide) (hts _ m_X5_readNumber_3e3bef) (fun _ h9 => h9) rfl dX5_readNumber_17 ?_
        refine lv_icmp_ge (tgt := 91) hx hb dX5_readNumber_20 (by decide) (fun c_20 => ?_) (fun c_20 => ?_)
        · have hf := ite_t c_20 hf
          refine lv_iload_n hx hb dX5_readNumber_91 rfl (lv_at hl 1 rfl) ?_
          refine lv_if_le (tgt := 99) hx hb dX5_readNumber_92 (by decide) (fun c_92 => ?_) (fun c_92 => ?_)
          · have hf := ite_t c_92 hf
            refine lv_iconst (v := 0) hx hb dX5_readNumber_99 (by decide) ?_
            have e9 := Option.some.inj hf
            exact rt_z hx hb hr rfl hlocks (fst_e e9) (rtP (P := fun z => va_P E.1 vwCl (wX5 E a0 z.2) H) e9 hP) hS dX5_readNumber_100
          · have hf := ite_f c_92 hf
            refine lv_iconst (v := 1) hx hb dX5_readNumber_95 (by decide) ?_
            refine lv_goto (tgt := 100) hx hb dX5_readNumber_96 (by decide) ?_
            have e9 := Option.some.inj hf
            exact rt_z hx hb hr rfl hlocks (fst_e e9) (rtP (P := fun z => va_P E.1 vwCl (wX5 E a0 z.2) H) e9 hP) hS dX5_readNumber_100
        · have hf := ite_f c_20 hf
          refine lv_aload_n hx hb dX5_readNumber_23 rfl (lv_at hl 0 rfl) ?_
          refine va_get (ci := 5) (C := RX5) (T := TX5) (N := 8) (v := .ref (a0 1)) hx hb hts i_X5_readNumber_X5 hown hK hP 0 rfl rfl 0 (by decide) (hts _ m_X5_readNumber_616439) (fun _ h9 => h9) rfl dX5_readNumber_24 ?_
          refine lv_aload_n hx hb dX5_readNumber_27 rfl (lv_at hl 0 rfl) ?_
          refine va_get (ci := 5) (C := RX5) (T := TX5) (N := 8) (v := .int (s0 6 0)) hx hb hts i_X5_readNumber_X5 hown hK hP 0 rfl rfl 6 (by decide) (hts _ m_X5_readNumber_646be5) (fun _ h9 => h9) rfl dX5_readNumber_28 ?_
          obtain ⟨h_31, hf⟩ := ck_e hf
          refine va_iald (cA := E.2.1) (n := 100) (f := s0 0) hx hb hK hP 1 0 rfl rfl h_31 dX5_readNumber_31 ?_
          refine lv_bipush (v := 48) hx hb dX5_readNumber_32 (by decide) ?_
          refine lv_icmp_lt (tgt := 91) hx hb dX5_readNumber_34 (by decide) (fun c_34 => ?_) (fun c_34 => ?_)
          · have hf := ite_t c_34 hf
            refine lv_iload_n hx hb dX5_readNumber_91 rfl (lv_at hl 1 rfl) ?_
            refine lv_if_le (tgt := 99) hx hb dX5_readNumber_92 (by decide) (fun c_92 => ?_) (fun c_92 => ?_)
            · have hf := ite_t c_92 hf
              refine lv_iconst (v := 0) hx hb dX5_readNumber_99 (by decide) ?_
              have e9 := Option.some.inj hf
              exact rt_z hx hb hr rfl hlocks (fst_e e9) (rtP (P := fun z => va_P E.1 vwCl (wX5 E a0 z.2) H) e9 hP) hS dX5_readNumber_100
            · have hf := ite_f c_92 hf
              refine lv_iconst (v := 1) hx hb dX5_readNumber_95 (by decide) ?_
              refine lv_goto (tgt := 100) hx hb dX5_readNumber_96 (by decide) ?_
              have e9 := Option.some.inj hf
              exact rt_z hx hb hr rfl hlocks (fst_e e9) (rtP (P := fun z => va_P E.1 vwCl (wX5 E a0 z.2) H) e9 hP) hS dX5_readNumber_100
          · have hf := ite_f c_34 hf
            refine lv_aload_n hx hb dX5_readNumber_37 rfl (lv_at hl 0 rfl) ?_
            refine va_get (ci := 5) (C := RX5) (T := TX5) (N := 8) (v := .ref (a0 1)) hx hb hts i_X5_readNumber_X5 hown hK hP 0 rfl rfl 0 (by decide) (hts _ m_X5_readNumber_616439) (fun _ h9 => h9) rfl dX5_readNumber_38 ?_
            refine lv_aload_n hx hb dX5_readNumber_41 rfl (lv_at hl 0 rfl) ?_
            refine va_get (ci := 5) (C := RX5) (T := TX5) (N := 8) (v := .int (s0 6 0)) hx hb hts i_X5_readNumber_X5 hown hK hP 0 rfl rfl 6 (by decide) (hts _ m_X5_readNumber_646be5) (fun _ h9 => h9) rfl dX5_readNumber_42 ?_
            obtain ⟨h_45, hf⟩ := ck_e hf
            refine va_iald (cA := E.2.1) (n := 100) (f := s0 0) hx hb hK hP 1 0 rfl rfl h_45 dX5_readNumber_45 ?_
            refine lv_bipush (v := 57) hx hb dX5_readNumber_46 (by decide) ?_
            refine lv_icmp_gt (tgt := 91) hx hb dX5_readNumber_48 (by decide) (fun c_48 => ?_) (fun c_48 => ?_)
            · have hf := ite_t c_48 hf
              refine lv_iload_n hx hb dX5_readNumber_91 rfl (lv_at hl 1 rfl) ?_
              refine lv_if_le (tgt := 99) hx hb dX5_readNumber_92 (by decide) (fun c_92 => ?_) (fun c_92 => ?_)
              · have hf := ite_t c_92 hf
                refine lv_iconst (v := 0) hx hb dX5_readNumber_99 (by decide) ?_
                have e9 := Option.some.inj hf
                exact rt_z hx hb hr rfl hlocks (fst_e e9) (rtP (P := fun z => va_P E.1 vwCl (wX5 E a0 z.2) H) e9 hP) hS dX5_readNumber_100
              · have hf := ite_f c_92 hf
                refine lv_iconst (v := 1) hx hb dX5_readNumber_95 (by decide) ?_
                refine lv_goto (tgt := 100) hx hb dX5_readNumber_96 (by decide) ?_
                have e9 := Option.some.inj hf
                exact rt_z hx hb hr rfl hlocks (fst_e e9) (rtP (P := fun z => va_P E.1 vwCl (wX5 E a0 z.2) H) e9 hP) hS dX5_readNumber_100
            · have hf := ite_f c_48 hf
              refine lv_aload_n hx hb dX5_readNumber_51 rfl (lv_at hl 0 rfl) ?_
              refine lv_aload_n hx hb dX5_readNumber_52 rfl (lv_at hl 0 rfl) ?_
              refine va_get (ci := 5) (C := RX5) (T := TX5) (N := 8) (v := .int (s0 7 0)) hx hb hts i_X5_readNumber_X5 hown hK hP 0 rfl rfl 7 (by decide) (hts _ m_X5_readNumber_3a6745) (fun _ h9 => h9) rfl dX5_readNumber_53 ?_
              refine lv_bipush (v := 10) hx hb dX5_readNumber_56 (by decide) ?_
              refine lv_imul hx hb dX5_readNumber_58 ?_
              refine lv_aload_n hx hb dX5_readNumber_59 rfl (lv_at hl 0 rfl) ?_
              refine va_get (ci := 5) (C := RX5) (T := TX5) (N := 8) (v := .ref (a0 1)) hx hb hts i_X5_readNumber_X5 hown hK hP 0 rfl rfl 0 (by decide) (hts _ m_X5_readNumber_616439) (fun _ h9 => h9) rfl dX5_readNumber_60 ?_
              refine lv_aload_n hx hb dX5_readNumber_63 rfl (lv_at hl 0 rfl) ?_
              refine va_get (ci := 5) (C := RX5) (T := TX5) (N := 8) (v := .int (s0 6 0)) hx hb hts i_X5_readNumber_X5 hown hK hP 0 rfl rfl 6 (by decide) (hts _ m_X5_readNumber_646be5) (fun _ h9 => h9) rfl dX5_readNumber_64 ?_
              obtain ⟨h_67, hf⟩ := ck_e hf
              refine va_iald (cA := E.2.1) (n := 100) (f := s0 0) hx hb hK hP 1 0 rfl rfl h_67 dX5_readNumber_67 ?_
              refine lv_iadd hx hb dX5_readNumber_68 ?_
              refine lv_bipush (v := 48) hx hb dX5_readNumber_69 (by decide) ?_
              refine lv_isub hx hb dX5_readNumber_71 ?_
              refine va_put (ci := 5) (v := .int ((((s0 7 0) * 10) + (s0 0 (s0 6 0).toNatClampNeg)) - 48)) (ty := .int) (C := RX5) (T := TX5) (N := 8) hx hb hts i_X5_readNumber_X5 tyX5 tyX5_ok nmX5 hown hK hP (hDD s0) hS 0 rfl rfl 7 (by decide) (hts _ m_X5_readNumber_3a6745) (fun _ h9 => h9) rfl (by decide +kernel) rfl rfl (Nat.le_of_ble_eq_true rfl) dX5_readNumber_72 (fun H locs hP _ hS => ?_)
              obtain ⟨s0_72, hP, hf⟩ := nm_st' (P := fun z => va_P E.1 vwCl (wX5 E a0 z) H) hf hP
              refine lv_aload_n hx hb dX5_readNumber_75 rfl (lv_at hl 0 rfl) ?_
              refine lv_dup hx hb dX5_readNumber_76 rfl ?_
              refine va_get (ci := 5) (C := RX5) (T := TX5) (N := 8) (v := .int (s0_72 6 0)) hx hb hts i_X5_readNumber_X5 hown hK hP 0 rfl rfl 6 (by decide) (hts _ m_X5_readNumber_646be5) (fun _ h9 => h9) rfl dX5_readNumber_77 ?_
              refine lv_iconst (v := 1) hx hb dX5_readNumber_80 (by decide) ?_
              refine lv_iadd hx hb dX5_readNumber_81 ?_
              refine va_put (ci := 5) (v := .int ((s0_72 6 0) + 1)) (ty := .int) (C := RX5) (T := TX5) (N := 8) hx hb hts i_X5_readNumber_X5 tyX5 tyX5_ok nmX5 hown hK hP (hDD s0_72) hS 0 rfl rfl 6 (by decide) (hts _ m_X5_readNumber_646be5) (fun _ h9 => h9) rfl (by decide +kernel) rfl rfl (Nat.le_of_ble_eq_true rfl) dX5_readNumber_82 (fun H locs hP _ hS => ?_)
              obtain ⟨s0_82, hP, hf⟩ := nm_st' (P := fun z => va_P E.1 vwCl (wX5 E a0 z) H) hf hP
              obtain ⟨x85, e_x85⟩ : ∃ y : Int32, y = v1 + 1 := ⟨_, rfl⟩
              have hf := nm_q e_x85 hf
              refine lv_iinc (v := x85) (lv' := [(1, .int x85), (0, .ref (a0 0))]) hx hb dX5_readNumber_85 hl (k := 1) rfl (by rw [e_x85]; rfl) (Nat.le_of_ble_eq_true rfl) rfl (fun ls hl => ?_)
              refine lv_goto (tgt := 7) hx hb dX5_readNumber_88 (by decide) ?_
              exact ih_7 s0_82 x85 hf _ _ _ hP hS (lv_sub hl [1, 0] rfl)
  refine lv_iconst (v := 0) hx hb dX5_readNumber_0 (by decide) ?_
  refine lv_istore_n (lv' := [(1, .int 0), (0, .ref (a0 0))]) hx hb dX5_readNumber_1 rfl hl (Nat.le_of_ble_eq_true rfl) rfl (fun ls hl => ?_)
  refine lv_aload_n hx hb dX5_readNumber_2 rfl (lv_at hl 1 rfl) ?_
  refine lv_iconst (v := 0) hx hb dX5_readNumber_3 (by decide) ?_
  refine va_put (ci := 5) (v := .int 0) (ty := .int) (C := RX5) (T := TX5) (N := 8) hx hb hts i_X5_readNumber_X5 tyX5 tyX5_ok nmX5 hown hK hP (hDD s0) hS 0 rfl rfl 7 (by decide) (hts _ m_X5_readNumber_3a6745) (fun _ h9 => h9) rfl (by decide +kernel) rfl rfl (Nat.le_of_ble_eq_true rfl) dX5_readNumber_4 (fun H locs hP _ hS => ?_)
  obtain ⟨s0_4, hP, hf⟩ := nm_st' (P := fun z => va_P E.1 vwCl (wX5 E a0 z) H) hf hP
  exact hL_7 N s0_4 0 hf _ _ _ hP hS (lv_sub hl [1, 0] rfl)
abbrev rm_X5_readNumbered : Room := { frames := 4, cells := 0, slots := 0, locals := 85 }
set_option maxHeartbeats 8000000 in
set_option maxRecDepth 100000 in
theorem k_X5_readNumbered (l : Launch) (E : Ev) (a0 : Nat → Nat) (N : Nat) (w1 : Nat) (s0 : St) (q : (Int32 × St)) (hf : f_X5_readNumbered N w1 s0 = some q) : Ci l yX5_readNumbered wsX5_readNumbered rm_X5_readNumbered E [.ref (a0 0), .ref (E.2.2.2.2.2.1 w1)] (wX5 E a0 s0) (wX5 E a0 q.2) q.1 := by
  unfold f_X5_readNumbered at hf
  intro sz
  refine Met.ofW (cc := cX5_readNumbered) (maxL := 3) (ret := (some .boolean)) (by decide) rfl ?_
  intro p e s m args below meth c s₁ B hml hv
  obtain ⟨rfl, hsz, hP, hK, hD0, hG, hA, hAB⟩ := start hv
  have hx := B.exec
  have hb := B.bytes
  have hr := B.returns
  have hts := atoms_spec (ws := wsX5_readNumbered) B.pre
  have hown : s.vm.findClass RX5 = some m.cls := findClass_of_methodNamed B.named
  have hlocks := B.notSynchronized
  subst hsz
  generalize va_A (wX5 E a0 s0) s.heap.size = A0 at hD0 hA hAB ⊢
  have hDD : ∀ (s0 : St), va_D A0 (wX5 E a0 s0) := fun s0 => vD_addr hD0 rfl
  have hS : va_S A0 s.heap s.heap [] := va_S.rf
  have hl := lv_entry ([.ref (a0 0), .ref (E.2.2.2.2.2.1 w1)]) (n := 3) (Nat.le_of_ble_eq_true rfl)
  rw [lg_entry_eq]
  generalize (lg_sl ([.ref (a0 0), .ref (E.2.2.2.2.2.1 w1)]) ++ List.replicate (3 - (lg_sl ([.ref (a0 0), .ref (E.2.2.2.2.2.1 w1)])).length) Slot.unset).toArray = ls at hl ⊢
  have hl : lv_has ls 3 [(0, .ref (a0 0)), (1, .ref (E.2.2.2.2.2.1 w1))] := hl
  have hL_11 : ∀ (n_11 : Nat) (s0 : St) (v2 : Int32), l_X5_readNumbered_11 N w1 n_11 s0 v2 = some q → ∀ (H : Heap) (locs : List Loc) (ls : Array Slot), va_P E.1 vwCl (wX5 E a0 s0) H → va_S A0 s.heap H locs → lv_has ls 3 [(0, .ref (a0 0)), (1, .ref (E.2.2.2.2.2.1 w1)), (2, .int v2)] → W p l e rm_X5_readNumbered s m ([.ref (a0 0), .ref (E.2.2.2.2.2.1 w1)] : List Value).toArray below meth c H locs 0 0 (MQ below (va_Qi (fun (r' : Int32) (_ : Unit) => r' = q.1) (fun _ t => va_P E.1 vwCl (wX5 E a0 q.2) t.heap) A0) ([.ref (a0 0), .ref (E.2.2.2.2.2.1 w1)] : List Value).toArray s 0 0 A0) (F0 m 11 ls []) := by
    intro n_11
    induction n_11 with
    | zero => intro s0 v2 hf; rw [l_X5_readNumbered_11] at hf; cases hf
    | succ n_11 ih_11 =>
      intro s0 v2 hf H locs ls hP hS hl
      rw [l_X5_readNumbered_11] at hf
      refine lv_iload_n hx hb dX5_readNumbered_11 rfl (lv_at hl 2 rfl) ?_
      refine lv_aload_n hx hb dX5_readNumbered_12 rfl (lv_at hl 1 rfl) ?_
      obtain ⟨q13, hc_13, hf⟩ := cl_e hf
      obtain ⟨hw_13, hf⟩ := cp_e hf
      have hk_13 := hG.2.2.1.2.2.2.2.1 w1 hw_13
      refine fin_i (E := E) (wc := ([] : va_W)) (wc' := ([] : va_W)) (va_runV (As := []) (rest := [.int v2]) ⟨hx, hb, hml, hown, hts⟩ (k_J0_length_8abf5 l E N w1 q13 hc_13 _) (cwV 0 hts gX5_readNumbered_J0_length_8abf5 rfl rfl rfl (by decide +kernel) ⟨(Nat.le_of_ble_eq_true rfl), (Nat.le_of_ble_eq_true rfl)⟩) (pre_k hK va_P_nil va_D_nil hS hG hAB hw_13) rfl rfl hl.1 rfl (lv_room (Nat.le_of_ble_eq_true rfl)) dX5_readNumbered_13 ⟨Nat.zero_le _, Nat.zero_le _⟩) hS (free_nil hS hA) (fun H locs hP1 hk hS => ?_)
      have hP := w_kept0 hP hk
      refine lv_icmp_ge (tgt := 39) hx hb dX5_readNumbered_16 (by decide) (fun c_16 => ?_) (fun c_16 => ?_)
      · have hf := ite_t c_16 hf
        refine lv_aload_n hx hb dX5_readNumbered_39 rfl (lv_at hl 0 rfl) ?_
        refine lv_bipush (v := 32) hx hb dX5_readNumbered_40 (by decide) ?_
        obtain ⟨q42, hc_42, hf⟩ := cl_e hf
        refine fin_i (E := E) (wc := wX5 E a0 s0) (wc' := wX5 E a0 q42.2) (va_runV (As := [.int 32]) (rest := []) ⟨hx, hb, hml, hown, hts⟩ (k_X5_readSign l E a0 N s0 32 q42 hc_42 _) (cwV 1 hts gX5_readNumbered_X5_readSign rfl rfl rfl (by decide +kernel) ⟨(Nat.le_of_ble_eq_true rfl), (Nat.le_of_ble_eq_true rfl)⟩) (pre_v (ci := 5) (q0 := 0) hK hP (hDD s0) hS hG hAB rfl rfl) rfl rfl hl.1 rfl (lv_room (Nat.le_of_ble_eq_true rfl)) dX5_readNumbered_42 ⟨Nat.zero_le _, Nat.zero_le _⟩) hS (w_free (hDD s0) hS hA (fun _ h => h)) (fun H locs hP1 hk hS => ?_)
        have hP := hP1
        refine lv_if_eq (tgt := 59) hx hb dX5_readNumbered_45 (by decide) (fun c_45 => ?_) (fun c_45 => ?_)
        · have hf := ite_t c_45 hf
          refine lv_iconst (v := 0) hx hb dX5_readNumbered_59 (by decide) ?_
          have e9 := Option.some.inj hf
          exact rt_z hx hb hr rfl hlocks (fst_e e9) (rtP (P := fun z => va_P E.1 vwCl (wX5 E a0 z.2) H) e9 hP) hS dX5_readNumbered_60
        · have hf := ite_f c_45 hf
          refine lv_aload_n hx hb dX5_readNumbered_48 rfl (lv_at hl 0 rfl) ?_
          obtain ⟨q49, hc_49, hf⟩ := cl_e hf
          refine fin_i (E := E) (wc := wX5 E a0 q42.2) (wc' := wX5 E a0 q49.2) (va_runV (As := []) (rest := []) ⟨hx, hb, hml, hown, hts⟩ (k_X5_readNumber l E a0 N q42.2 q49 hc_49 _) (cwV 0 hts gX5_readNumbered_X5_readNumber rfl rfl rfl (by decide +kernel) ⟨(Nat.le_of_ble_eq_true rfl), (Nat.le_of_ble_eq_true rfl)⟩) (pre_v (ci := 5) (q0 := 0) hK hP (hDD q42.2) hS hG hAB rfl rfl) rfl rfl hl.1 rfl (lv_room (Nat.le_of_ble_eq_true rfl)) dX5_readNumbered_49 ⟨Nat.zero_le _, Nat.zero_le _⟩) hS (w_free (hDD q42.2) hS hA (fun _ h => h)) (fun H locs hP1 hk hS => ?_)
          have hP := hP1
          refine lv_if_eq (tgt := 59) hx hb dX5_readNumbered_52 (by decide) (fun c_52 => ?_) (fun c_52 => ?_)
          · have hf := ite_t c_52 hf
            refine lv_iconst (v := 0) hx hb dX5_readNumbered_59 (by decide) ?_
            have e9 := Option.some.inj hf
            exact rt_z hx hb hr rfl hlocks (fst_e e9) (rtP (P := fun z => va_P E.1 vwCl (wX5 E a0 z.2) H) e9 hP) hS dX5_readNumbered_60
          · have hf := ite_f c_52 hf
            refine lv_iconst (v := 1) hx hb dX5_readNumbered_55 (by decide) ?_
            refine lv_goto (tgt := 60) hx hb dX5_readNumbered_56 (by decide) ?_
            have e9 := Option.some.inj hf
            exact rt_z hx hb hr rfl hlocks (fst_e e9) (rtP (P := fun z => va_P E.1 vwCl (wX5 E a0 z.2) H) e9 hP) hS dX5_readNumbered_60
      · have hf := ite_f c_16 hf
        refine lv_aload_n hx hb dX5_readNumbered_19 rfl (lv_at hl 0 rfl) ?_
        refine lv_aload_n hx hb dX5_readNumbered_20 rfl (lv_at hl 1 rfl) ?_
        refine lv_iload_n hx hb dX5_readNumbered_21 rfl (lv_at hl 2 rfl) ?_
        obtain ⟨q22, hc_22, hf⟩ := cl_e hf
        obtain ⟨hw_22, hf⟩ := cp_e hf
        have hk_22 := hG.2.2.1.2.2.2.2.1 w1 hw_22
        refine fin_i (E := E) (wc := ([] : va_W)) (wc' := ([] : va_W)) (va_runV (As := [.int v2]) (rest := [.ref (a0 0)]) ⟨hx, hb, hml, hown, hts⟩ (k_J0_charAt_5068e l E N w1 v2 q22 hc_22 _) (cwV 1 hts gX5_readNumbered_J0_charAt_5068e rfl rfl rfl (by decide +kernel) ⟨(Nat.le_of_ble_eq_true rfl), (Nat.le_of_ble_eq_true rfl)⟩) (pre_k hK va_P_nil va_D_nil hS hG hAB hw_22) rfl rfl hl.1 rfl (lv_room (Nat.le_of_ble_eq_true rfl)) dX5_readNumbered_22 ⟨Nat.zero_le _, Nat.zero_le _⟩) hS (free_nil hS hA) (fun H locs hP1 hk hS => ?_)
        have hP := w_kept0 hP hk
        obtain ⟨q25, hc_25, hf⟩ := cl_e hf
        refine fin_i (E := E) (wc := wX5 E a0 s0) (wc' := wX5 E a0 q25.2) (va_runV (As := [.int q22]) (rest := []) ⟨hx, hb, hml, hown, hts⟩ (k_X5_readSign l E a0 N s0 q22 q25 hc_25 _) (cwV 1 hts gX5_readNumbered_X5_readSign rfl rfl rfl (by decide +kernel) ⟨(Nat.le_of_ble_eq_true rfl), (Nat.le_of_ble_eq_true rfl)⟩) (pre_v (ci := 5) (q0 := 0) hK hP (hDD s0) hS hG hAB rfl rfl) rfl rfl hl.1 rfl (lv_room (Nat.le_of_ble_eq_true rfl)) dX5_readNumbered_25 ⟨Nat.zero_le _, Nat.zero_le _⟩) hS (w_free (hDD s0) hS hA (fun _ h => h)) (fun H locs hP1 hk hS => ?_)
        have hP := hP1
        refine lv_if_ne (tgt := 33) hx hb dX5_readNumbered_28 (by decide) (fun c_28 => ?_) (fun c_28 => ?_)
        · have hf := ite_f c_28 hf
          obtain ⟨x33, e_x33⟩ : ∃ y : Int32, y = v2 + 1 := ⟨_, rfl⟩
          have hf := nm_q e_x33 hf
          refine lv_iinc (v := x33) (lv' := [(2, .int x33), (0, .ref (a0 0)), (1, .ref (E.2.2.2.2.2.1 w1))]) hx hb dX5_readNumbered_33 hl (k := 2) rfl (by rw [e_x33]; rfl) (Nat.le_of_ble_eq_true rfl) rfl (fun ls hl => ?_)
          refine lv_goto (tgt := 11) hx hb dX5_readNumbered_36 (by decide) ?_
          exact ih_11 q25.2 x33 hf _ _ _ hP hS (lv_sub hl [1, 2, 0] rfl)
        · have hf := ite_t c_28 hf
          refine lv_iconst (v := 0) hx hb dX5_readNumbered_31 (by decide) ?_
          have e9 := Option.some.inj hf
          exact rt_z hx hb hr rfl hlocks (fst_e e9) (rtP (P := fun z => va_P E.1 vwCl (wX5 E a0 z.2) H) e9 hP) hS dX5_readNumbered_32
  refine lv_aload_n hx hb dX5_readNumbered_0 rfl (lv_at hl 1 rfl) ?_
  obtain ⟨q1, hc_1, hf⟩ := cl_e hf
  obtain ⟨hw_1, hf⟩ := cp_e hf
  have hk_1 := hG.2.2.1.2.2.2.2.1 w1 hw_1
  refine fin_i (E := E) (wc := ([] : va_W)) (wc' := ([] : va_W)) (va_runV (As := []) (rest := []) ⟨hx, hb, hml, hown, hts⟩ (k_J0_isEmpty_aae02 l E N w1 q1 hc_1 _) (cwV 0 hts gX5_readNumbered_J0_isEmpty_aae02 rfl rfl rfl (by decide +kernel) ⟨(Nat.le_of_ble_eq_true rfl), (Nat.le_of_ble_eq_true rfl)⟩) (pre_k hK va_P_nil va_D_nil hS hG hAB hw_1) rfl rfl hl.1 rfl (lv_room (Nat.le_of_ble_eq_true rfl)) dX5_readNumbered_1 ⟨Nat.zero_le _, Nat.zero_le _⟩) hS (free_nil hS hA) (fun H locs hP1 hk hS => ?_)
  have hP := w_kept0 hP hk
  refine lv_if_eq (tgt := 9) hx hb dX5_readNumbered_4 (by decide) (fun c_4 => ?_) (fun c_4 => ?_)
  · have hf := ite_t c_4 hf
    refine lv_iconst (v := 0) hx hb dX5_readNumbered_9 (by decide) ?_
    refine lv_istore_n (lv' := [(2, .int 0), (0, .ref (a0 0)), (1, .ref (E.2.2.2.2.2.1 w1))]) hx hb dX5_readNumbered_10 rfl hl (Nat.le_of_ble_eq_true rfl) rfl (fun ls hl => ?_)
    exact hL_11 N s0 0 hf _ _ _ hP hS (lv_sub hl [1, 2, 0] rfl)
  · have hf := ite_f c_4 hf
    refine lv_iconst (v := 0) hx hb dX5_readNumbered_7 (by decide) ?_
    have e9 := Option.some.inj hf
    exact rt_z hx hb hr rfl hlocks (fst_e e9) (rtP (P := fun z => va_P E.1 vwCl (wX5 E a0 z.2) H) e9 hP) hS dX5_readNumbered_8
abbrev rm_J1_canEncode_9a6ad : Room := { frames := 0, cells := 0, slots := 0, locals := 0 }
set_option maxHeartbeats 8000000 in
set_option maxRecDepth 100000 in
theorem k_J1_canEncode_9a6ad (l : Launch) (E : Ev) (N : Nat) (p0 : Int32) (q : (Int32)) (hf : f_J1_canEncode_9a6ad N p0 = some q) : Ci l yJ1_canEncode_9a6ad wsJ1_canEncode_9a6ad rm_J1_canEncode_9a6ad E [.int p0] (([] : va_W)) (([] : va_W)) q := by
  unfold f_J1_canEncode_9a6ad at hf
  intro sz
  refine Met.ofW (cc := cJ1_canEncode_9a6ad) (maxL := 1) (ret := (some .boolean)) (by decide) rfl ?_
  intro p e s m args below meth c s₁ B hml hv
  obtain ⟨rfl, hsz, hP, hK, hD0, hG, hA, hAB⟩ := start hv
  have hx := B.exec
  have hb := B.bytes
  have hr := B.returns
  have hts := atoms_spec (ws := wsJ1_canEncode_9a6ad) B.pre
  have hown : s.vm.findClass RJ1 = some m.cls := findClass_of_methodNamed B.named
  have hlocks := B.notSynchronized
  subst hsz
  generalize va_A (([] : va_W)) s.heap.size = A0 at hD0 hA hAB ⊢
  have hDD : va_D A0 (([] : va_W)) := hD0
  have hS : va_S A0 s.heap s.heap [] := va_S.rf
  have hl := lv_entry ([.int p0]) (n := 1) (Nat.le_of_ble_eq_true rfl)
  rw [lg_entry_eq]
  generalize (lg_sl ([.int p0]) ++ List.replicate (1 - (lg_sl ([.int p0])).length) Slot.unset).toArray = ls at hl ⊢
  have hl : lv_has ls 1 [(0, .int p0)] := hl
  refine lv_iload_n hx hb dJ1_canEncode_9a6ad_0 rfl (lv_at hl 0 rfl) ?_
  refine lv_if_lt (tgt := 15) hx hb dJ1_canEncode_9a6ad_1 (by decide) (fun c_1 => ?_) (fun c_1 => ?_)
  · have hf := ite_t c_1 hf
    refine lv_iconst (v := 0) hx hb dJ1_canEncode_9a6ad_15 (by decide) ?_
    have e9 := Option.some.inj hf
    exact rt_z hx hb hr rfl hlocks e9 hP hS dJ1_canEncode_9a6ad_16
  · have hf := ite_f c_1 hf
    refine lv_iload_n hx hb dJ1_canEncode_9a6ad_4 rfl (lv_at hl 0 rfl) ?_
    refine lv_sipush (v := 255) hx hb dJ1_canEncode_9a6ad_5 (by decide) ?_
    refine lv_icmp_gt (tgt := 15) hx hb dJ1_canEncode_9a6ad_8 (by decide) (fun c_8 => ?_) (fun c_8 => ?_)
    · have hf := ite_t c_8 hf
      refine lv_iconst (v := 0) hx hb dJ1_canEncode_9a6ad_15 (by decide) ?_
      have e9 := Option.some.inj hf
      exact rt_z hx hb hr rfl hlocks e9 hP hS dJ1_canEncode_9a6ad_16
    · have hf := ite_f c_8 hf
      refine lv_iconst (v := 1) hx hb dJ1_canEncode_9a6ad_11 (by decide) ?_
      refine lv_goto (tgt := 16) hx hb dJ1_canEncode_9a6ad_12 (by decide) ?_
      have e9 := Option.some.inj hf
      exact rt_z hx hb hr rfl hlocks e9 hP hS dJ1_canEncode_9a6ad_16
abbrev rm_J1_indexOfChar_4cfef : Room := { frames := 0, cells := 0, slots := 0, locals := 0 }
set_option maxHeartbeats 8000000 in
set_option maxRecDepth 100000 in
theorem k_J1_indexOfChar_4cfef (l : Launch) (E : Ev) (N : Nat) (w0 : Nat) (p1 : Int32) (p2 : Int32) (p3 : Int32) (q : (Int32)) (hf : f_J1_indexOfChar_4cfef N w0 p1 p2 p3 = some q) : Ci l yJ1_indexOfChar_4cfef wsJ1_indexOfChar_4cfef rm_J1_indexOfChar_4cfef E [.ref (E.2.2.2.2.2.2.1 w0), .int p1, .int p2, .int p3] (([] : va_W)) (([] : va_W)) q := by
  unfold f_J1_indexOfChar_4cfef at hf
  intro sz
  refine Met.ofW (cc := cJ1_indexOfChar_4cfef) (maxL := 6) (ret := (some .int)) (by decide) rfl ?_
  intro p e s m args below meth c s₁ B hml hv
  obtain ⟨rfl, hsz, hP, hK, hD0, hG, hA, hAB⟩ := start hv
  have hx := B.exec
  have hb := B.bytes
  have hr := B.returns
  have hts := atoms_spec (ws := wsJ1_indexOfChar_4cfef) B.pre
  have hown : s.vm.findClass RJ1 = some m.cls := findClass_of_methodNamed B.named
  have hlocks := B.notSynchronized
  subst hsz
  generalize va_A (([] : va_W)) s.heap.size = A0 at hD0 hA hAB ⊢
  have hDD : va_D A0 (([] : va_W)) := hD0
  have hS : va_S A0 s.heap s.heap [] := va_S.rf
  have hl := lv_entry ([.ref (E.2.2.2.2.2.2.1 w0), .int p1, .int p2, .int p3]) (n := 6) (Nat.le_of_ble_eq_true rfl)
  rw [lg_entry_eq]
  generalize (lg_sl ([.ref (E.2.2.2.2.2.2.1 w0), .int p1, .int p2, .int p3]) ++ List.replicate (6 - (lg_sl ([.ref (E.2.2.2.2.2.2.1 w0), .int p1, .int p2, .int p3])).length) Slot.unset).toArray = ls at hl ⊢
  have hl : lv_has ls 6 [(0, .ref (E.2.2.2.2.2.2.1 w0)), (1, .int p1), (2, .int p2), (3, .int p3)] := hl
  have hL_7 : ∀ (v3 : Int32) (v4 : Int32) (n_7 : Nat) (v5 : Int32), l_J1_indexOfChar_4cfef_7 N w0 v3 v4 n_7 v5 = some q → ∀ (H : Heap) (locs : List Loc) (ls : Array Slot), va_P E.1 vwCl (([] : va_W)) H → va_S A0 s.heap H locs → lv_has ls 6 [(0, .ref (E.2.2.2.2.2.2.1 w0)), (3, .int v3), (4, .int v4), (5, .int v5)] → W p l e rm_J1_indexOfChar_4cfef s m ([.ref (E.2.2.2.2.2.2.1 w0), .int p1, .int p2, .int p3] : List Value).toArray below meth c H locs 0 0 (MQ below (va_Qi (fun (r' : Int32) (_ : Unit) => r' = q) (fun _ t => va_P E.1 vwCl (([] : va_W)) t.heap) A0) ([.ref (E.2.2.2.2.2.2.1 w0), .int p1, .int p2, .int p3] : List Value).toArray s 0 0 A0) (F0 m 7 ls []) := by
    intro v3 v4 n_7
    induction n_7 with
    | zero => intro v5 hf; rw [l_J1_indexOfChar_4cfef_7] at hf; cases hf
    | succ n_7 ih_7 =>
      intro v5 hf H locs ls hP hS hl
      rw [l_J1_indexOfChar_4cfef_7] at hf
      refine lv_iload hx hb dJ1_indexOfChar_4cfef_7 (lv_at hl 3 rfl) ?_
      refine lv_iload_n hx hb dJ1_indexOfChar_4cfef_9 rfl (lv_at hl 1 rfl) ?_
      refine lv_icmp_ge (tgt := 31) hx hb dJ1_indexOfChar_4cfef_10 (by decide) (fun c_10 => ?_) (fun c_10 => ?_)
      · have hf := ite_t c_10 hf
        refine lv_iconst (v := (-1)) hx hb dJ1_indexOfChar_4cfef_31 (by decide) ?_
        have e9 := Option.some.inj hf
        exact rt_i hx hb hr hlocks e9 hP hS dJ1_indexOfChar_4cfef_32
      · have hf := ite_f c_10 hf
        refine lv_aload_n hx hb dJ1_indexOfChar_4cfef_13 rfl (lv_at hl 0 rfl) ?_
        refine lv_iload hx hb dJ1_indexOfChar_4cfef_14 (lv_at hl 3 rfl) ?_
        obtain ⟨h_16, hf⟩ := ck_e hf
        obtain ⟨hw_16, hf⟩ := cp_e hf
        have hk_16 := hG.2.2.1.2.2.2.2.1 w0 hw_16
        refine va_tb (v := .int ((kByt.getD w0 []).getD v5.toNatClampNeg 0)) hx hb (hk_16.2.2.2.narrow hAB) hS h_16 rfl dJ1_indexOfChar_4cfef_16 ?_
        refine lv_iload hx hb dJ1_indexOfChar_4cfef_17 (lv_at hl 2 rfl) ?_
        refine lv_icmp_ne (tgt := 25) hx hb dJ1_indexOfChar_4cfef_19 (by decide) (fun c_19 => ?_) (fun c_19 => ?_)
        · have hf := ite_f c_19 hf
          obtain ⟨x25, e_x25⟩ : ∃ y : Int32, y = v5 + 1 := ⟨_, rfl⟩
          have hf := nm_q e_x25 hf
          refine lv_iinc (v := x25) (lv' := [(5, .int x25), (0, .ref (E.2.2.2.2.2.2.1 w0)), (3, .int v3), (4, .int v4)]) hx hb dJ1_indexOfChar_4cfef_25 hl (k := 3) rfl (by rw [e_x25]; rfl) (Nat.le_of_ble_eq_true rfl) rfl (fun ls hl => ?_)
          refine lv_goto (tgt := 7) hx hb dJ1_indexOfChar_4cfef_28 (by decide) ?_
          exact ih_7 x25 hf _ _ _ hP hS (lv_sub hl [1, 2, 3, 0] rfl)
        · have hf := ite_t c_19 hf
          refine lv_iload hx hb dJ1_indexOfChar_4cfef_22 (lv_at hl 3 rfl) ?_
          have e9 := Option.some.inj hf
          exact rt_i hx hb hr hlocks e9 hP hS dJ1_indexOfChar_4cfef_24
  refine lv_iload_n hx hb dJ1_indexOfChar_4cfef_0 rfl (lv_at hl 1 rfl) ?_
  refine lv_i2b (v := p1.toInt8.toInt32) hx hb dJ1_indexOfChar_4cfef_1 rfl ?_
  refine lv_topi (fun x2 e_x2 => ?_)
  have hf := nm_q e_x2 hf
  refine lv_istore (lv' := [(4, .int x2), (0, .ref (E.2.2.2.2.2.2.1 w0)), (1, .int p1), (2, .int p2), (3, .int p3)]) hx hb dJ1_indexOfChar_4cfef_2 hl (Nat.le_of_ble_eq_true rfl) rfl (fun ls hl => ?_)
  refine lv_iload_n hx hb dJ1_indexOfChar_4cfef_4 rfl (lv_at hl 3 rfl) ?_
  refine lv_istore (lv' := [(5, .int p2), (4, .int x2), (0, .ref (E.2.2.2.2.2.2.1 w0)), (1, .int p1), (2, .int p2), (3, .int p3)]) hx hb dJ1_indexOfChar_4cfef_5 hl (Nat.le_of_ble_eq_true rfl) rfl (fun ls hl => ?_)
  exact hL_7 p3 x2 N p2 hf _ _ _ hP hS (lv_sub hl [2, 5, 1, 0] rfl)
abbrev rm_J1_indexOf_4cfef : Room := { frames := 1, cells := 0, slots := 0, locals := 40 }
theorem m_J1_indexOf_4cfef_8b638c : Cond.methodLink RJ1 92 Lib.Math.max.name ∈ wsJ1_indexOf_4cfef := by decide +kernel
theorem m_J1_indexOf_4cfef_7cc87a : Cond.static Lib.Math.max.name ∈ wsJ1_indexOf_4cfef := by decide +kernel
theorem m_J1_indexOf_4cfef_0001fc : Cond.initialized "java/lang/Math" ∈ wsJ1_indexOf_4cfef := by decide +kernel
theorem m_J1_indexOf_4cfef_6b973c : Cond.code Lib.Math.max.name Lib.Math.max.code 2 (some .int) ∈ wsJ1_indexOf_4cfef := by decide +kernel
theorem m_J1_indexOf_4cfef_e5afde : Cond.methodLink RJ1 38 Lib.Math.min.name ∈ wsJ1_indexOf_4cfef := by decide +kernel
theorem m_J1_indexOf_4cfef_1a05fe : Cond.static Lib.Math.min.name ∈ wsJ1_indexOf_4cfef := by decide +kernel
theorem m_J1_indexOf_4cfef_5e99ca : Cond.code Lib.Math.min.name Lib.Math.min.code 2 (some .int) ∈ wsJ1_indexOf_4cfef := by decide +kernel
set_option maxHeartbeats 8000000 in
set_option maxRecDepth 100000 in
theorem k_J1_indexOf_4cfef (l : Launch) (E : Ev) (N : Nat) (w0 : Nat) (p1 : Int32) (p2 : Int32) (p3 : Int32) (q : (Int32)) (hf : f_J1_indexOf_4cfef N w0 p1 p2 p3 = some q) : Ci l yJ1_indexOf_4cfef wsJ1_indexOf_4cfef rm_J1_indexOf_4cfef E [.ref (E.2.2.2.2.2.2.1 w0), .int p1, .int p2, .int p3] (([] : va_W)) (([] : va_W)) q := by
  unfold f_J1_indexOf_4cfef at hf
  intro sz
  refine Met.ofW (cc := cJ1_indexOf_4cfef) (maxL := 4) (ret := (some .int)) (by decide) rfl ?_
  intro p e s m args below meth c s₁ B hml hv
  obtain ⟨rfl, hsz, hP, hK, hD0, hG, hA, hAB⟩ := start hv
  have hx := B.exec
  have hb := B.bytes
  have hr := B.returns
  have hts := atoms_spec (ws := wsJ1_indexOf_4cfef) B.pre
  have hown : s.vm.findClass RJ1 = some m.cls := findClass_of_methodNamed B.named
  have hlocks := B.notSynchronized
  subst hsz
  generalize va_A (([] : va_W)) s.heap.size = A0 at hD0 hA hAB ⊢
  have hDD : va_D A0 (([] : va_W)) := hD0
  have hS : va_S A0 s.heap s.heap [] := va_S.rf
  have hl := lv_entry ([.ref (E.2.2.2.2.2.2.1 w0), .int p1, .int p2, .int p3]) (n := 4) (Nat.le_of_ble_eq_true rfl)
  rw [lg_entry_eq]
  generalize (lg_sl ([.ref (E.2.2.2.2.2.2.1 w0), .int p1, .int p2, .int p3]) ++ List.replicate (4 - (lg_sl ([.ref (E.2.2.2.2.2.2.1 w0), .int p1, .int p2, .int p3])).length) Slot.unset).toArray = ls at hl ⊢
  have hl : lv_has ls 4 [(0, .ref (E.2.2.2.2.2.2.1 w0)), (1, .int p1), (2, .int p2), (3, .int p3)] := hl
  refine lv_iload_n hx hb dJ1_indexOf_4cfef_0 rfl (lv_at hl 1 rfl) ?_
  obtain ⟨q1, hc_1, hf⟩ := cl_e hf
  refine fin_i (E := E) (wc := ([] : va_W)) (wc' := ([] : va_W)) (va_runS (As := [.int p1]) (rest := []) ⟨hx, hb, hml, hown, hts⟩ (k_J1_canEncode_9a6ad l E N p1 q1 hc_1 _) (va_cwS 1 hts gJ1_indexOf_4cfef_J1_canEncode_9a6ad rfl rfl rfl (by decide +kernel) ⟨(Nat.le_of_ble_eq_true rfl), (Nat.le_of_ble_eq_true rfl)⟩) (pre_s hK va_P_nil va_D_nil hS hG hAB) rfl rfl hl.1 rfl (lv_room (Nat.le_of_ble_eq_true rfl)) dJ1_indexOf_4cfef_1 ⟨Nat.zero_le _, Nat.zero_le _⟩) hS (free_nil hS hA) (fun H locs hP1 hk hS => ?_)
  have hP := w_kept0 hP hk
  refine lv_if_ne (tgt := 9) hx hb dJ1_indexOf_4cfef_4 (by decide) (fun c_4 => ?_) (fun c_4 => ?_)
  · have hf := ite_f c_4 hf
    refine lv_iload_n hx hb dJ1_indexOf_4cfef_9 rfl (lv_at hl 2 rfl) ?_
    refine lv_iconst (v := 0) hx hb dJ1_indexOf_4cfef_10 (by decide) ?_
    refine va_mmax hx hb (by rw [hml]; exact hl.1.symm) hown (hts _ m_J1_indexOf_4cfef_8b638c) (hts _ m_J1_indexOf_4cfef_7cc87a) (hts _ m_J1_indexOf_4cfef_0001fc) (hts _ m_J1_indexOf_4cfef_6b973c) (Nat.le_of_ble_eq_true rfl) (Nat.le_of_ble_eq_true rfl) (Nat.zero_le _) (Nat.zero_le _) dJ1_indexOf_4cfef_11 ?_
    refine lv_topi (fun x14 e_x14 => ?_)
    have hf := nm_q e_x14 hf
    refine lv_istore_n (lv' := [(2, .int x14), (0, .ref (E.2.2.2.2.2.2.1 w0)), (1, .int p1), (3, .int p3)]) hx hb dJ1_indexOf_4cfef_14 rfl hl (Nat.le_of_ble_eq_true rfl) rfl (fun ls hl => ?_)
    refine lv_iload_n hx hb dJ1_indexOf_4cfef_15 rfl (lv_at hl 3 rfl) ?_
    refine lv_aload_n hx hb dJ1_indexOf_4cfef_16 rfl (lv_at hl 1 rfl) ?_
    obtain ⟨hw_17, hf⟩ := cp_e hf
    have hk_17 := hG.2.2.1.2.2.2.2.1 w0 hw_17
    refine va_tlen (v := nI (kLen.getD w0 0)) hx hb (hk_17.2.2.2.narrow hAB) hS rfl dJ1_indexOf_4cfef_17 ?_
    refine va_mmin hx hb (by rw [hml]; exact hl.1.symm) hown (hts _ m_J1_indexOf_4cfef_e5afde) (hts _ m_J1_indexOf_4cfef_1a05fe) (hts _ m_J1_indexOf_4cfef_0001fc) (hts _ m_J1_indexOf_4cfef_5e99ca) (Nat.le_of_ble_eq_true rfl) (Nat.le_of_ble_eq_true rfl) (Nat.zero_le _) (Nat.zero_le _) dJ1_indexOf_4cfef_18 ?_
    refine lv_topi (fun x21 e_x21 => ?_)
    have hf := nm_q e_x21 hf
    refine lv_istore_n (lv' := [(3, .int x21), (2, .int x14), (0, .ref (E.2.2.2.2.2.2.1 w0)), (1, .int p1)]) hx hb dJ1_indexOf_4cfef_21 rfl hl (Nat.le_of_ble_eq_true rfl) rfl (fun ls hl => ?_)
    refine lv_iload_n hx hb dJ1_indexOf_4cfef_22 rfl (lv_at hl 1 rfl) ?_
    refine lv_iload_n hx hb dJ1_indexOf_4cfef_23 rfl (lv_at hl 0 rfl) ?_
    refine lv_icmp_lt (tgt := 29) hx hb dJ1_indexOf_4cfef_24 (by decide) (fun c_24 => ?_) (fun c_24 => ?_)
    · have hf := ite_t c_24 hf
      refine lv_aload_n hx hb dJ1_indexOf_4cfef_29 rfl (lv_at hl 2 rfl) ?_
      refine lv_iload_n hx hb dJ1_indexOf_4cfef_30 rfl (lv_at hl 3 rfl) ?_
      refine lv_iload_n hx hb dJ1_indexOf_4cfef_31 rfl (lv_at hl 1 rfl) ?_
      refine lv_iload_n hx hb dJ1_indexOf_4cfef_32 rfl (lv_at hl 0 rfl) ?_
      obtain ⟨q33, hc_33, hf⟩ := cl_e hf
      refine fin_i (E := E) (wc := ([] : va_W)) (wc' := ([] : va_W)) (va_runS (As := [.ref (E.2.2.2.2.2.2.1 w0), .int p1, .int x14, .int x21]) (rest := []) ⟨hx, hb, hml, hown, hts⟩ (k_J1_indexOfChar_4cfef l E N w0 p1 x14 x21 q33 hc_33 _) (va_cwS 4 hts gJ1_indexOf_4cfef_J1_indexOfChar_4cfef rfl rfl rfl (by decide +kernel) ⟨(Nat.le_of_ble_eq_true rfl), (Nat.le_of_ble_eq_true rfl)⟩) (pre_s hK va_P_nil va_D_nil hS hG hAB) rfl rfl hl.1 rfl (lv_room (Nat.le_of_ble_eq_true rfl)) dJ1_indexOf_4cfef_33 ⟨Nat.zero_le _, Nat.zero_le _⟩) hS (free_nil hS hA) (fun H locs hP1 hk hS => ?_)
      have hP := w_kept0 hP hk
      have e9 := Option.some.inj hf
      exact rt_i hx hb hr hlocks e9 hP hS dJ1_indexOf_4cfef_36
    · have hf := ite_f c_24 hf
      refine lv_iconst (v := (-1)) hx hb dJ1_indexOf_4cfef_27 (by decide) ?_
      have e9 := Option.some.inj hf
      exact rt_i hx hb hr hlocks e9 hP hS dJ1_indexOf_4cfef_28
  · have hf := ite_t c_4 hf
    refine lv_iconst (v := (-1)) hx hb dJ1_indexOf_4cfef_7 (by decide) ?_
    have e9 := Option.some.inj hf
    exact rt_i hx hb hr hlocks e9 hP hS dJ1_indexOf_4cfef_8
abbrev rm_J0_indexOf_7cf53 : Room := { frames := 2, cells := 0, slots := 0, locals := 63 }
theorem m_J0_indexOf_7cf53_0cc51b : Cond.fieldLink RJ0 9 "java/lang/String" "value" "[B" ∈ wsJ0_indexOf_7cf53 := by decide +kernel
set_option maxHeartbeats 8000000 in
set_option maxRecDepth 100000 in
theorem k_J0_indexOf_7cf53 (l : Launch) (E : Ev) (N : Nat) (w0 : Nat) (p1 : Int32) (p2 : Int32) (q : (Int32)) (hf : f_J0_indexOf_7cf53 N w0 p1 p2 = some q) : Ci l yJ0_indexOf_7cf53 wsJ0_indexOf_7cf53 rm_J0_indexOf_7cf53 E [.ref (E.2.2.2.2.2.1 w0), .int p1, .int p2] (([] : va_W)) (([] : va_W)) q := by
  unfold f_J0_indexOf_7cf53 at hf
  intro sz
  refine Met.ofW (cc := cJ0_indexOf_7cf53) (maxL := 3) (ret := (some .int)) (by decide) rfl ?_
  intro p e s m args below meth c s₁ B hml hv
  obtain ⟨rfl, hsz, hP, hK, hD0, hG, hA, hAB⟩ := start hv
  have hx := B.exec
  have hb := B.bytes
  have hr := B.returns
  have hts := atoms_spec (ws := wsJ0_indexOf_7cf53) B.pre
  have hown : s.vm.findClass RJ0 = some m.cls := findClass_of_methodNamed B.named
  have hlocks := B.notSynchronized
  subst hsz
  generalize va_A (([] : va_W)) s.heap.size = A0 at hD0 hA hAB ⊢
  have hDD : va_D A0 (([] : va_W)) := hD0
  have hS : va_S A0 s.heap s.heap [] := va_S.rf
  have hl := lv_entry ([.ref (E.2.2.2.2.2.1 w0), .int p1, .int p2]) (n := 3) (Nat.le_of_ble_eq_true rfl)
  rw [lg_entry_eq]
  generalize (lg_sl ([.ref (E.2.2.2.2.2.1 w0), .int p1, .int p2]) ++ List.replicate (3 - (lg_sl ([.ref (E.2.2.2.2.2.1 w0), .int p1, .int p2])).length) Slot.unset).toArray = ls at hl ⊢
  have hl : lv_has ls 3 [(0, .ref (E.2.2.2.2.2.1 w0)), (1, .int p1), (2, .int p2)] := hl
  refine lv_aload_n hx hb dJ0_indexOf_7cf53_0 rfl (lv_at hl 0 rfl) ?_
  obtain ⟨q1, hc_1, hf⟩ := cl_e hf
  obtain ⟨hw_1, hf⟩ := cp_e hf
  have hk_1 := hG.2.2.1.2.2.2.2.1 w0 hw_1
  refine fin_i (E := E) (wc := ([] : va_W)) (wc' := ([] : va_W)) (va_runV (As := []) (rest := []) ⟨hx, hb, hml, hown, hts⟩ (k_J0_isLatin1_aae02 l E N w0 q1 hc_1 _) (cwV 0 hts gJ0_indexOf_7cf53_J0_isLatin1_aae02 rfl rfl rfl (by decide +kernel) ⟨(Nat.le_of_ble_eq_true rfl), (Nat.le_of_ble_eq_true rfl)⟩) (pre_k hK va_P_nil va_D_nil hS hG hAB hw_1) rfl rfl hl.1 rfl (lv_room (Nat.le_of_ble_eq_true rfl)) dJ0_indexOf_7cf53_1 ⟨Nat.zero_le _, Nat.zero_le _⟩) hS (free_nil hS hA) (fun H locs hP1 hk hS => ?_)
  have hP := w_kept0 hP hk
  refine lv_if_eq (tgt := 23) hx hb dJ0_indexOf_7cf53_4 (by decide) (fun c_4 => ?_) (fun c_4 => ?_)
  · have hf := ite_t c_4 hf
    refine lv_aload_n hx hb dJ0_indexOf_7cf53_23 rfl (lv_at hl 0 rfl) ?_
    obtain ⟨hw_24, hf⟩ := cp_e hf
    have hk_24 := hG.2.2.1.2.2.2.2.1 w0 hw_24
    refine vk_getf hx hb (hk_24.2.2.1.narrow hAB) hS hown (hts _ m_J0_indexOf_7cf53_0cc51b) (fun _ h9 => h9) dJ0_indexOf_7cf53_24 ?_
    refine lv_iload_n hx hb dJ0_indexOf_7cf53_27 rfl (lv_at hl 1 rfl) ?_
    refine lv_iload_n hx hb dJ0_indexOf_7cf53_28 rfl (lv_at hl 2 rfl) ?_
    refine lv_aload_n hx hb dJ0_indexOf_7cf53_29 rfl (lv_at hl 0 rfl) ?_
    obtain ⟨q30, hc_30, hf⟩ := cl_e hf
    obtain ⟨hw_30, hf⟩ := cp_e hf
    have hk_30 := hG.2.2.1.2.2.2.2.1 w0 hw_30
    refine fin_i (E := E) (wc := ([] : va_W)) (wc' := ([] : va_W)) (va_runV (As := []) (rest := [.int p2, .int p1, .ref (E.2.2.2.2.2.2.1 w0)]) ⟨hx, hb, hml, hown, hts⟩ (k_J0_length_8abf5 l E N w0 q30 hc_30 _) (cwV 0 hts gJ0_indexOf_7cf53_J0_length_8abf5 rfl rfl rfl (by decide +kernel) ⟨(Nat.le_of_ble_eq_true rfl), (Nat.le_of_ble_eq_true rfl)⟩) (pre_k hK va_P_nil va_D_nil hS hG hAB hw_30) rfl rfl hl.1 rfl (lv_room (Nat.le_of_ble_eq_true rfl)) dJ0_indexOf_7cf53_30 ⟨Nat.zero_le _, Nat.zero_le _⟩) hS (free_nil hS hA) (fun H locs hP1 hk hS => ?_)
    have hP := w_kept0 hP hk
    cases hf
  · have hf := ite_f c_4 hf
    refine lv_aload_n hx hb dJ0_indexOf_7cf53_7 rfl (lv_at hl 0 rfl) ?_
    obtain ⟨hw_8, hf⟩ := cp_e hf
    have hk_8 := hG.2.2.1.2.2.2.2.1 w0 hw_8
    refine vk_getf hx hb (hk_8.2.2.1.narrow hAB) hS hown (hts _ m_J0_indexOf_7cf53_0cc51b) (fun _ h9 => h9) dJ0_indexOf_7cf53_8 ?_
    refine lv_iload_n hx hb dJ0_indexOf_7cf53_11 rfl (lv_at hl 1 rfl) ?_
    refine lv_iload_n hx hb dJ0_indexOf_7cf53_12 rfl (lv_at hl 2 rfl) ?_
    refine lv_aload_n hx hb dJ0_indexOf_7cf53_13 rfl (lv_at hl 0 rfl) ?_
    obtain ⟨q14, hc_14, hf⟩ := cl_e hf
    obtain ⟨hw_14, hf⟩ := cp_e hf
    have hk_14 := hG.2.2.1.2.2.2.2.1 w0 hw_14
    refine fin_i (E := E) (wc := ([] : va_W)) (wc' := ([] : va_W)) (va_runV (As := []) (rest := [.int p2, .int p1, .ref (E.2.2.2.2.2.2.1 w0)]) ⟨hx, hb, hml, hown, hts⟩ (k_J0_length_8abf5 l E N w0 q14 hc_14 _) (cwV 0 hts gJ0_indexOf_7cf53_J0_length_8abf5 rfl rfl rfl (by decide +kernel) ⟨(Nat.le_of_ble_eq_true rfl), (Nat.le_of_ble_eq_true rfl)⟩) (pre_k hK va_P_nil va_D_nil hS hG hAB hw_14) rfl rfl hl.1 rfl (lv_room (Nat.le_of_ble_eq_true rfl)) dJ0_indexOf_7cf53_14 ⟨Nat.zero_le _, Nat.zero_le _⟩) hS (free_nil hS hA) (fun H locs hP1 hk hS => ?_)
    have hP := w_kept0 hP hk
    obtain ⟨q17, hc_17, hf⟩ := cl_e hf
    refine fin_i (E := E) (wc := ([] : va_W)) (wc' := ([] : va_W)) (va_runS (As := [.ref (E.2.2.2.2.2.2.1 w0), .int p1, .int p2, .int q14]) (rest := []) ⟨hx, hb, hml, hown, hts⟩ (k_J1_indexOf_4cfef l E N w0 p1 p2 q14 q17 hc_17 _) (va_cwS 4 hts gJ0_indexOf_7cf53_J1_indexOf_4cfef rfl rfl rfl (by decide +kernel) ⟨(Nat.le_of_ble_eq_true rfl), (Nat.le_of_ble_eq_true rfl)⟩) (pre_s hK va_P_nil va_D_nil hS hG hAB) rfl rfl hl.1 rfl (lv_room (Nat.le_of_ble_eq_true rfl)) dJ0_indexOf_7cf53_17 ⟨Nat.zero_le _, Nat.zero_le _⟩) hS (free_nil hS hA) (fun H locs hP1 hk hS => ?_)
    have hP := w_kept0 hP hk
    refine lv_goto (tgt := 36) hx hb dJ0_indexOf_7cf53_20 (by decide) ?_
    have e9 := Option.some.inj hf
    exact rt_i hx hb hr hlocks e9 hP hS dJ0_indexOf_7cf53_36
abbrev rm_J0_indexOf_0f7a4 : Room := { frames := 3, cells := 0, slots := 0, locals := 85 }
set_option maxHeartbeats 8000000 in
set_option maxRecDepth 100000 in
theorem k_J0_indexOf_0f7a4 (l : Launch) (E : Ev) (N : Nat) (w0 : Nat) (p1 : Int32) (q : (Int32)) (hf : f_J0_indexOf_0f7a4 N w0 p1 = some q) : Ci l yJ0_indexOf_0f7a4 wsJ0_indexOf_0f7a4 rm_J0_indexOf_0f7a4 E [.ref (E.2.2.2.2.2.1 w0), .int p1] (([] : va_W)) (([] : va_W)) q := by
  unfold f_J0_indexOf_0f7a4 at hf
  intro sz
  refine Met.ofW (cc := cJ0_indexOf_0f7a4) (maxL := 2) (ret := (some .int)) (by decide) rfl ?_
  intro p e s m args below meth c s₁ B hml hv
  obtain ⟨rfl, hsz, hP, hK, hD0, hG, hA, hAB⟩ := start hv
  have hx := B.exec
  have hb := B.bytes
  have hr := B.returns
  have hts := atoms_spec (ws := wsJ0_indexOf_0f7a4) B.pre
  have hown : s.vm.findClass RJ0 = some m.cls := findClass_of_methodNamed B.named
  have hlocks := B.notSynchronized
  subst hsz
  generalize va_A (([] : va_W)) s.heap.size = A0 at hD0 hA hAB ⊢
  have hDD : va_D A0 (([] : va_W)) := hD0
  have hS : va_S A0 s.heap s.heap [] := va_S.rf
  have hl := lv_entry ([.ref (E.2.2.2.2.2.1 w0), .int p1]) (n := 2) (Nat.le_of_ble_eq_true rfl)
  rw [lg_entry_eq]
  generalize (lg_sl ([.ref (E.2.2.2.2.2.1 w0), .int p1]) ++ List.replicate (2 - (lg_sl ([.ref (E.2.2.2.2.2.1 w0), .int p1])).length) Slot.unset).toArray = ls at hl ⊢
  have hl : lv_has ls 2 [(0, .ref (E.2.2.2.2.2.1 w0)), (1, .int p1)] := hl
  refine lv_aload_n hx hb dJ0_indexOf_0f7a4_0 rfl (lv_at hl 0 rfl) ?_
  refine lv_iload_n hx hb dJ0_indexOf_0f7a4_1 rfl (lv_at hl 1 rfl) ?_
  refine lv_iconst (v := 0) hx hb dJ0_indexOf_0f7a4_2 (by decide) ?_
  obtain ⟨q3, hc_3, hf⟩ := cl_e hf
  obtain ⟨hw_3, hf⟩ := cp_e hf
  have hk_3 := hG.2.2.1.2.2.2.2.1 w0 hw_3
  refine fin_i (E := E) (wc := ([] : va_W)) (wc' := ([] : va_W)) (va_runV (As := [.int p1, .int 0]) (rest := []) ⟨hx, hb, hml, hown, hts⟩ (k_J0_indexOf_7cf53 l E N w0 p1 0 q3 hc_3 _) (cwV 2 hts gJ0_indexOf_0f7a4_J0_indexOf_7cf53 rfl rfl rfl (by decide +kernel) ⟨(Nat.le_of_ble_eq_true rfl), (Nat.le_of_ble_eq_true rfl)⟩) (pre_k hK va_P_nil va_D_nil hS hG hAB hw_3) rfl rfl hl.1 rfl (lv_room (Nat.le_of_ble_eq_true rfl)) dJ0_indexOf_0f7a4_3 ⟨Nat.zero_le _, Nat.zero_le _⟩) hS (free_nil hS hA) (fun H locs hP1 hk hS => ?_)
  have hP := w_kept0 hP hk
  have e9 := Option.some.inj hf
  exact rt_i hx hb hr hlocks e9 hP hS dJ0_indexOf_0f7a4_6
abbrev rm_X5_addStep : Room := { frames := 0, cells := 0, slots := 0, locals := 0 }
theorem m_X5_addStep_ae53a9 : Cond.fieldLink RX5 25 "PickedMatch$StreetReader" "size" "I" ∈ wsX5_addStep := by decide +kernel
theorem i_X5_addStep_X5 : ∀ w ∈ wsX50, w ∈ wsX5_addStep := fun _ h => List.mem_cons_of_mem _ (List.mem_append_right _ h)
theorem m_X5_addStep_16fbec : Cond.fieldLink RX5 15 "PickedMatch$StreetReader" "code" "[I" ∈ wsX5_addStep := by decide +kernel
set_option maxHeartbeats 8000000 in
set_option maxRecDepth 100000 in
theorem k_X5_addStep (l : Launch) (E : Ev) (a0 : Nat → Nat) (N : Nat) (s0 : St) (p1 : Int32) (q : (St)) (hf : f_X5_addStep N s0 p1 = some q) : Cv l yX5_addStep wsX5_addStep rm_X5_addStep E [.ref (a0 0), .int p1] (wX5 E a0 s0) (wX5 E a0 q) := by
  unfold f_X5_addStep at hf
  intro sz
  refine Met.ofW (cc := cX5_addStep) (maxL := 2) (ret := none) (by decide) rfl ?_
  intro p e s m args below meth c s₁ B hml hv
  obtain ⟨rfl, hsz, hP, hK, hD0, hG, hA, hAB⟩ := start hv
  have hx := B.exec
  have hb := B.bytes
  have hr := B.returns
  have hts := atoms_spec (ws := wsX5_addStep) B.pre
  have hown : s.vm.findClass RX5 = some m.cls := findClass_of_methodNamed B.named
  have hlocks := B.notSynchronized
  subst hsz
  generalize va_A (wX5 E a0 s0) s.heap.size = A0 at hD0 hA hAB ⊢
  have hDD : ∀ (s0 : St), va_D A0 (wX5 E a0 s0) := fun s0 => vD_addr hD0 rfl
  have hS : va_S A0 s.heap s.heap [] := va_S.rf
  have hl := lv_entry ([.ref (a0 0), .int p1]) (n := 2) (Nat.le_of_ble_eq_true rfl)
  rw [lg_entry_eq]
  generalize (lg_sl ([.ref (a0 0), .int p1]) ++ List.replicate (2 - (lg_sl ([.ref (a0 0), .int p1])).length) Slot.unset).toArray = ls at hl ⊢
  have hl : lv_has ls 2 [(0, .ref (a0 0)), (1, .int p1)] := hl
  refine lv_aload_n hx hb dX5_addStep_0 rfl (lv_at hl 0 rfl) ?_
  refine va_get (ci := 5) (C := RX5) (T := TX5) (N := 8) (v := .int (s0 3 0)) hx hb hts i_X5_addStep_X5 hown hK hP 0 rfl rfl 3 (by decide) (hts _ m_X5_addStep_ae53a9) (fun _ h9 => h9) rfl dX5_addStep_1 ?_
  refine lv_bipush (v := 100) hx hb dX5_addStep_4 (by decide) ?_
  refine lv_icmp_ge (tgt := 29) hx hb dX5_addStep_6 (by decide) (fun c_6 => ?_) (fun c_6 => ?_)
  · have hf := ite_t c_6 hf
    have e9 := Option.some.inj hf
    exact rt_v hx hb hr hlocks (rtP (P := fun z => va_P E.1 vwCl (wX5 E a0 z) s.heap) e9 hP) hS dX5_addStep_29
  · have hf := ite_f c_6 hf
    refine lv_aload_n hx hb dX5_addStep_9 rfl (lv_at hl 0 rfl) ?_
    refine va_get (ci := 5) (C := RX5) (T := TX5) (N := 8) (v := .ref (a0 2)) hx hb hts i_X5_addStep_X5 hown hK hP 0 rfl rfl 2 (by decide) (hts _ m_X5_addStep_16fbec) (fun _ h9 => h9) rfl dX5_addStep_10 ?_
    refine lv_aload_n hx hb dX5_addStep_13 rfl (lv_at hl 0 rfl) ?_
    refine va_get (ci := 5) (C := RX5) (T := TX5) (N := 8) (v := .int (s0 3 0)) hx hb hts i_X5_addStep_X5 hown hK hP 0 rfl rfl 3 (by decide) (hts _ m_X5_addStep_ae53a9) (fun _ h9 => h9) rfl dX5_addStep_14 ?_
    refine lv_iload_n hx hb dX5_addStep_17 rfl (lv_at hl 1 rfl) ?_
    obtain ⟨h_18, hf⟩ := ck_e hf
    refine va_iast (cA := E.2.1) (n := 100) (f := s0 2) (x := p1) hx hb hK hP (hDD s0) hS 2 0 rfl rfl h_18 dX5_addStep_18 (fun H locs hP _ hS => ?_)
    obtain ⟨s0_18, hP, hf⟩ := nm_st' (P := fun z => va_P E.1 vwCl (wX5 E a0 z) H) hf hP
    refine lv_aload_n hx hb dX5_addStep_19 rfl (lv_at hl 0 rfl) ?_
    refine lv_dup hx hb dX5_addStep_20 rfl ?_
    refine va_get (ci := 5) (C := RX5) (T := TX5) (N := 8) (v := .int (s0_18 3 0)) hx hb hts i_X5_addStep_X5 hown hK hP 0 rfl rfl 3 (by decide) (hts _ m_X5_addStep_ae53a9) (fun _ h9 => h9) rfl dX5_addStep_21 ?_
    refine lv_iconst (v := 1) hx hb dX5_addStep_24 (by decide) ?_
    refine lv_iadd hx hb dX5_addStep_25 ?_
    refine va_put (ci := 5) (v := .int ((s0_18 3 0) + 1)) (ty := .int) (C := RX5) (T := TX5) (N := 8) hx hb hts i_X5_addStep_X5 tyX5 tyX5_ok nmX5 hown hK hP (hDD s0_18) hS 0 rfl rfl 3 (by decide) (hts _ m_X5_addStep_ae53a9) (fun _ h9 => h9) rfl (by decide +kernel) rfl rfl (Nat.le_of_ble_eq_true rfl) dX5_addStep_26 (fun H locs hP _ hS => ?_)
    obtain ⟨s0_26, hP, hf⟩ := nm_st' (P := fun z => va_P E.1 vwCl (wX5 E a0 z) H) hf hP
    have e9 := Option.some.inj hf
    exact rt_v hx hb hr hlocks (rtP (P := fun z => va_P E.1 vwCl (wX5 E a0 z) H) e9 hP) hS dX5_addStep_29
