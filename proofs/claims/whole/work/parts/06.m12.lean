/-! ===== what the methods compute, and that they do: by program out of the bytecode (wip/gen) ===== -/
abbrev rm_X5_readClause : Room := { frames := 39, cells := 0, slots := 0, locals := 1202 }
theorem m_X5_readClause_3a6745 : Cond.fieldLink RX5 54 "PickedMatch$StreetReader" "number" "I" ∈ wsX5_readClause := by decide +kernel
theorem i_X5_readClause_X5 : ∀ w ∈ wsX50, w ∈ wsX5_readClause := fun _ h => List.mem_cons_of_mem _ (List.mem_append_right _ h)
theorem m_X5_readClause_42fa44 : Cond.methodLink RX5 57 Lib.Math.max.name ∈ wsX5_readClause := by decide +kernel
theorem m_X5_readClause_7cc87a : Cond.static Lib.Math.max.name ∈ wsX5_readClause := by decide +kernel
theorem m_X5_readClause_0001fc : Cond.initialized "java/lang/Math" ∈ wsX5_readClause := by decide +kernel
theorem m_X5_readClause_6b973c : Cond.code Lib.Math.max.name Lib.Math.max.code 2 (some .int) ∈ wsX5_readClause := by decide +kernel
theorem m_X5_readClause_31e22a : Cond.fieldLink RX5 31 "PickedMatch$StreetReader" "hold" "I" ∈ wsX5_readClause := by decide +kernel
theorem m_X5_readClause_3c1f19 : Cond.fieldLink RX5 28 "PickedMatch$StreetReader" "need" "I" ∈ wsX5_readClause := by decide +kernel
set_option maxHeartbeats 8000000 in
set_option maxRecDepth 100000 in
theorem k_X5_readClause (l : Launch) (E : Ev) (a0 : Nat → Nat) (N : Nat) (s0 : St) (q : (Int32 × St)) (hf : f_X5_readClause N s0 = some q) : Ci l yX5_readClause wsX5_readClause rm_X5_readClause E [.ref (a0 0)] (wX5 E a0 s0) (wX5 E a0 q.2) q.1 := by
  unfold f_X5_readClause at hf
  intro sz
  refine Met.ofW (cc := cX5_readClause) (maxL := 3) (ret := (some .boolean)) (by decide) rfl ?_
  intro p e s m args below meth c s₁ B hml hv
  obtain ⟨rfl, hsz, hP, hK, hD0, hG, hA, hAB⟩ := start hv
  have hx := B.exec
  have hb := B.bytes
  have hr := B.returns
  have hts := atoms_spec (ws := wsX5_readClause) B.pre
  have hown : s.vm.findClass RX5 = some m.cls := findClass_of_methodNamed B.named
  have hlocks := B.notSynchronized
  subst hsz
  generalize va_A (wX5 E a0 s0) s.heap.size = A0 at hD0 hA hAB ⊢
  have hDD : ∀ (s0 : St), va_D A0 (wX5 E a0 s0) := fun s0 => vD_addr hD0 rfl
  have hS : va_S A0 s.heap s.heap [] := va_S.rf
  have hl := lv_entry ([.ref (a0 0)]) (n := 3) (Nat.le_of_ble_eq_true rfl)
  rw [lg_entry_eq]
  generalize (lg_sl ([.ref (a0 0)]) ++ List.replicate (3 - (lg_sl ([.ref (a0 0)])).length) Slot.unset).toArray = ls at hl ⊢
  have hl : lv_has ls 3 [(0, .ref (a0 0))] := hl
  refine lv_aload_n hx hb dX5_readClause_0 rfl (lv_at hl 0 rfl) ?_
  obtain ⟨q1, hc_1, hf⟩ := cl_e hf
  refine fin_i (E := E) (wc := wX5 E a0 s0) (wc' := wX5 E a0 s0) (va_runV (As := []) (rest := []) ⟨hx, hb, hml, hown, hts⟩ (k_X5_nextSign l E a0 N s0 q1 hc_1 _) (cwV 0 hts gX5_readClause_X5_nextSign rfl rfl rfl (by decide +kernel) ⟨(Nat.le_of_ble_eq_true rfl), (Nat.le_of_ble_eq_true rfl)⟩) (pre_v (ci := 5) (q0 := 0) hK hP (hDD s0) hS hG hAB rfl rfl) rfl rfl hl.1 rfl (lv_room (Nat.le_of_ble_eq_true rfl)) dX5_readClause_1 ⟨Nat.zero_le _, Nat.zero_le _⟩) hS (w_free (hDD s0) hS hA (fun _ h => h)) (fun H locs hP1 hk hS => ?_)
  have hP := hP1
  refine lv_istore_n (lv' := [(1, .int q1), (0, .ref (a0 0))]) hx hb dX5_readClause_4 rfl hl (Nat.le_of_ble_eq_true rfl) rfl (fun ls hl => ?_)
  refine lv_aload_n hx hb dX5_readClause_5 rfl (lv_at hl 1 rfl) ?_
  refine lv_iload_n hx hb dX5_readClause_6 rfl (lv_at hl 0 rfl) ?_
  obtain ⟨q7, hc_7, hf⟩ := cl_e hf
  refine fin_a (E := E) (wc := ([] : va_W)) (wc' := ([] : va_W)) (va_runS (As := [.int q1]) (rest := [.ref (a0 0)]) ⟨hx, hb, hml, hown, hts⟩ (k_X5_wordFrom l E N q1 q7 hc_7 _) (va_cwS 1 hts gX5_readClause_X5_wordFrom rfl rfl rfl (by decide +kernel) ⟨(Nat.le_of_ble_eq_true rfl), (Nat.le_of_ble_eq_true rfl)⟩) (pre_s hK va_P_nil va_D_nil hS hG hAB) rfl rfl hl.1 rfl (lv_room (Nat.le_of_ble_eq_true rfl)) dX5_readClause_7 ⟨Nat.zero_le _, Nat.zero_le _⟩) hS (free_nil hS hA) (fun H locs hP1 hk hS => ?_)
  have hP := w_kept0 hP hk
  obtain ⟨q10, hc_10, hf⟩ := cl_e hf
  refine fin_i (E := E) (wc := wX5 E a0 s0) (wc' := wX5 E a0 q10.2) (va_runV (As := [.ref (E.2.2.2.2.2.1 q7)]) (rest := []) ⟨hx, hb, hml, hown, hts⟩ (k_X5_readNumbered l E a0 N q7 s0 q10 hc_10 _) (cwV 1 hts gX5_readClause_X5_readNumbered rfl rfl rfl (by decide +kernel) ⟨(Nat.le_of_ble_eq_true rfl), (Nat.le_of_ble_eq_true rfl)⟩) (pre_v (ci := 5) (q0 := 0) hK hP (hDD s0) hS hG hAB rfl rfl) rfl rfl hl.1 rfl (lv_room (Nat.le_of_ble_eq_true rfl)) dX5_readClause_10 ⟨Nat.zero_le _, Nat.zero_le _⟩) hS (w_free (hDD s0) hS hA (fun _ h => h)) (fun H locs hP1 hk hS => ?_)
  have hP := hP1
  refine lv_if_ne (tgt := 18) hx hb dX5_readClause_13 (by decide) (fun c_13 => ?_) (fun c_13 => ?_)
  · have hf := ite_f c_13 hf
    refine lv_aload_n hx hb dX5_readClause_18 rfl (lv_at hl 1 rfl) ?_
    refine va_get (ci := 5) (C := RX5) (T := TX5) (N := 8) (v := .int (q10.2 7 0)) hx hb hts i_X5_readClause_X5 hown hK hP 0 rfl rfl 7 (by decide) (hts _ m_X5_readClause_3a6745) (fun _ h9 => h9) rfl dX5_readClause_19 ?_
    refine lv_topi (fun x22 e_x22 => ?_)
    have hf := nm_q e_x22 hf
    refine lv_istore_n (lv' := [(2, .int x22), (1, .int q1), (0, .ref (a0 0))]) hx hb dX5_readClause_22 rfl hl (Nat.le_of_ble_eq_true rfl) rfl (fun ls hl => ?_)
    refine lv_iload_n hx hb dX5_readClause_23 rfl (lv_at hl 1 rfl) ?_
    refine lv_bipush (v := 110) hx hb dX5_readClause_24 (by decide) ?_
    refine lv_icmp_ne (tgt := 36) hx hb dX5_readClause_26 (by decide) (fun c_26 => ?_) (fun c_26 => ?_)
    · have hf := ite_f c_26 hf
      refine lv_iload_n hx hb dX5_readClause_36 rfl (lv_at hl 1 rfl) ?_
      refine lv_bipush (v := 104) hx hb dX5_readClause_37 (by decide) ?_
      refine lv_icmp_ne (tgt := 53) hx hb dX5_readClause_39 (by decide) (fun c_39 => ?_) (fun c_39 => ?_)
      · have hf := ite_f c_39 hf
        refine lv_aload_n hx hb dX5_readClause_53 rfl (lv_at hl 2 rfl) ?_
        refine lv_bipush (v := 32) hx hb dX5_readClause_54 (by decide) ?_
        obtain ⟨q56, hc_56, hf⟩ := cl_e hf
        refine fin_i (E := E) (wc := wX5 E a0 q10.2) (wc' := wX5 E a0 q56.2) (va_runV (As := [.int 32]) (rest := []) ⟨hx, hb, hml, hown, hts⟩ (k_X5_readSign l E a0 N q10.2 32 q56 hc_56 _) (cwV 1 hts gX5_readClause_X5_readSign rfl rfl rfl (by decide +kernel) ⟨(Nat.le_of_ble_eq_true rfl), (Nat.le_of_ble_eq_true rfl)⟩) (pre_v (ci := 5) (q0 := 0) hK hP (hDD q10.2) hS hG hAB rfl rfl) rfl rfl hl.1 rfl (lv_room (Nat.le_of_ble_eq_true rfl)) dX5_readClause_56 ⟨Nat.zero_le _, Nat.zero_le _⟩) hS (w_free (hDD q10.2) hS hA (fun _ h => h)) (fun H locs hP1 hk hS => ?_)
        have hP := hP1
        refine lv_if_eq (tgt := 70) hx hb dX5_readClause_59 (by decide) (fun c_59 => ?_) (fun c_59 => ?_)
        · have hf := ite_t c_59 hf
          refine lv_iconst (v := 0) hx hb dX5_readClause_70 (by decide) ?_
          have e9 := Option.some.inj hf
          exact rt_z hx hb hr rfl hlocks (fst_e e9) (rtP (P := fun z => va_P E.1 vwCl (wX5 E a0 z.2) H) e9 hP) hS dX5_readClause_71
        · have hf := ite_f c_59 hf
          refine lv_aload_n hx hb dX5_readClause_62 rfl (lv_at hl 2 rfl) ?_
          refine lv_iconst (v := 0) hx hb dX5_readClause_63 (by decide) ?_
          obtain ⟨q64, hc_64, hf⟩ := cl_e hf
          refine fin_i (E := E) (wc := wX5 E a0 q56.2) (wc' := wX5 E a0 q64.2) (va_runV (As := [.int 0]) (rest := []) ⟨hx, hb, hml, hown, hts⟩ (k_X5_readEither l N 8 (fun E a0 s0 p1 q hq => k_X5_readPart l E a0 N 8 s0 p1 q hq) E a0 q56.2 0 q64 hc_64 _) (cwV 1 hts gX5_readClause_X5_readEither rfl rfl rfl (by decide +kernel) ⟨(Nat.le_of_ble_eq_true rfl), (Nat.le_of_ble_eq_true rfl)⟩) (pre_v (ci := 5) (q0 := 0) hK hP (hDD q56.2) hS hG hAB rfl rfl) rfl rfl hl.1 rfl (lv_room (Nat.le_of_ble_eq_true rfl)) dX5_readClause_64 ⟨Nat.zero_le _, Nat.zero_le _⟩) hS (w_free (hDD q56.2) hS hA (fun _ h => h)) (fun H locs hP1 hk hS => ?_)
          have hP := hP1
          refine lv_if_ne (tgt := 72) hx hb dX5_readClause_67 (by decide) (fun c_67 => ?_) (fun c_67 => ?_)
          · have hf := ite_f c_67 hf
            refine lv_aload_n hx hb dX5_readClause_72 rfl (lv_at hl 2 rfl) ?_
            refine lv_iload_n hx hb dX5_readClause_73 rfl (lv_at hl 1 rfl) ?_
            refine lv_bipush (v := 108) hx hb dX5_readClause_74 (by decide) ?_
            refine lv_icmp_ne (tgt := 86) hx hb dX5_readClause_76 (by decide) (fun c_76 => ?_) (fun c_76 => ?_)
            · have hf := ite_f c_76 hf
              refine lv_sipush (v := 200) hx hb dX5_readClause_86 (by decide) ?_
              refine lv_iload_n hx hb dX5_readClause_89 rfl (lv_at hl 0 rfl) ?_
              refine lv_iadd hx hb dX5_readClause_90 ?_
              obtain ⟨q91, hc_91, hf⟩ := cl_e hf
              refine fin_v (E := E) (wc := wX5 E a0 q64.2) (wc' := wX5 E a0 q91) (va_runV (As := [.int (200 + x22)]) (rest := []) ⟨hx, hb, hml, hown, hts⟩ (k_X5_addStep l E a0 N q64.2 (200 + x22) q91 hc_91 _) (cwV 1 hts gX5_readClause_X5_addStep rfl rfl rfl (by decide +kernel) ⟨(Nat.le_of_ble_eq_true rfl), (Nat.le_of_ble_eq_true rfl)⟩) (pre_v (ci := 5) (q0 := 0) hK hP (hDD q64.2) hS hG hAB rfl rfl) rfl rfl hl.1 rfl (lv_room (Nat.le_of_ble_eq_true rfl)) dX5_readClause_91 ⟨Nat.zero_le _, Nat.zero_le _⟩) hS (w_free (hDD q64.2) hS hA (fun _ h => h)) (fun H locs hP1 hk hS => ?_)
              have hP := hP1
              refine lv_iconst (v := 1) hx hb dX5_readClause_94 (by decide) ?_
              have e9 := Option.some.inj hf
              exact rt_z hx hb hr rfl hlocks (fst_e e9) (rtP (P := fun z => va_P E.1 vwCl (wX5 E a0 z.2) H) e9 hP) hS dX5_readClause_95
            · have hf := ite_t c_76 hf
              refine lv_bipush (v := 100) hx hb dX5_readClause_79 (by decide) ?_
              refine lv_iload_n hx hb dX5_readClause_81 rfl (lv_at hl 0 rfl) ?_
              refine lv_iadd hx hb dX5_readClause_82 ?_
              refine lv_goto (tgt := 91) hx hb dX5_readClause_83 (by decide) ?_
              obtain ⟨q91, hc_91, hf⟩ := cl_e hf
              refine fin_v (E := E) (wc := wX5 E a0 q64.2) (wc' := wX5 E a0 q91) (va_runV (As := [.int (100 + x22)]) (rest := []) ⟨hx, hb, hml, hown, hts⟩ (k_X5_addStep l E a0 N q64.2 (100 + x22) q91 hc_91 _) (cwV 1 hts gX5_readClause_X5_addStep rfl rfl rfl (by decide +kernel) ⟨(Nat.le_of_ble_eq_true rfl), (Nat.le_of_ble_eq_true rfl)⟩) (pre_v (ci := 5) (q0 := 0) hK hP (hDD q64.2) hS hG hAB rfl rfl) rfl rfl hl.1 rfl (lv_room (Nat.le_of_ble_eq_true rfl)) dX5_readClause_91 ⟨Nat.zero_le _, Nat.zero_le _⟩) hS (w_free (hDD q64.2) hS hA (fun _ h => h)) (fun H locs hP1 hk hS => ?_)
              have hP := hP1
              refine lv_iconst (v := 1) hx hb dX5_readClause_94 (by decide) ?_
              have e9 := Option.some.inj hf
              exact rt_z hx hb hr rfl hlocks (fst_e e9) (rtP (P := fun z => va_P E.1 vwCl (wX5 E a0 z.2) H) e9 hP) hS dX5_readClause_95
          · have hf := ite_t c_67 hf
            refine lv_iconst (v := 0) hx hb dX5_readClause_70 (by decide) ?_
            have e9 := Option.some.inj hf
            exact rt_z hx hb hr rfl hlocks (fst_e e9) (rtP (P := fun z => va_P E.1 vwCl (wX5 E a0 z.2) H) e9 hP) hS dX5_readClause_71
      · have hf := ite_t c_39 hf
        refine lv_aload_n hx hb dX5_readClause_42 rfl (lv_at hl 2 rfl) ?_
        refine lv_iconst (v := 1) hx hb dX5_readClause_43 (by decide) ?_
        refine lv_iload_n hx hb dX5_readClause_44 rfl (lv_at hl 0 rfl) ?_
        refine va_mmax hx hb (by rw [hml]; exact hl.1.symm) hown (hts _ m_X5_readClause_42fa44) (hts _ m_X5_readClause_7cc87a) (hts _ m_X5_readClause_0001fc) (hts _ m_X5_readClause_6b973c) (Nat.le_of_ble_eq_true rfl) (Nat.le_of_ble_eq_true rfl) (Nat.zero_le _) (Nat.zero_le _) dX5_readClause_45 ?_
        refine va_put (ci := 5) (v := .int (if 1 < x22 then x22 else 1)) (ty := .int) (C := RX5) (T := TX5) (N := 8) hx hb hts i_X5_readClause_X5 tyX5 tyX5_ok nmX5 hown hK hP (hDD q10.2) hS 0 rfl rfl 5 (by decide) (hts _ m_X5_readClause_31e22a) (fun _ h9 => h9) rfl (by decide +kernel) rfl rfl (Nat.le_of_ble_eq_true rfl) dX5_readClause_48 (fun H locs hP _ hS => ?_)
        obtain ⟨s0_48, hP, hf⟩ := nm_st' (P := fun z => va_P E.1 vwCl (wX5 E a0 z) H) hf hP
        refine lv_iconst (v := 1) hx hb dX5_readClause_51 (by decide) ?_
        have e9 := Option.some.inj hf
        exact rt_z hx hb hr rfl hlocks (fst_e e9) (rtP (P := fun z => va_P E.1 vwCl (wX5 E a0 z.2) H) e9 hP) hS dX5_readClause_52
    · have hf := ite_t c_26 hf
      refine lv_aload_n hx hb dX5_readClause_29 rfl (lv_at hl 2 rfl) ?_
      refine lv_iload_n hx hb dX5_readClause_30 rfl (lv_at hl 0 rfl) ?_
      refine va_put (ci := 5) (v := .int x22) (ty := .int) (C := RX5) (T := TX5) (N := 8) hx hb hts i_X5_readClause_X5 tyX5 tyX5_ok nmX5 hown hK hP (hDD q10.2) hS 0 rfl rfl 4 (by decide) (hts _ m_X5_readClause_3c1f19) (fun _ h9 => h9) rfl (by decide +kernel) rfl rfl (Nat.le_of_ble_eq_true rfl) dX5_readClause_31 (fun H locs hP _ hS => ?_)
      obtain ⟨s0_31, hP, hf⟩ := nm_st' (P := fun z => va_P E.1 vwCl (wX5 E a0 z) H) hf hP
      refine lv_iconst (v := 1) hx hb dX5_readClause_34 (by decide) ?_
      have e9 := Option.some.inj hf
      exact rt_z hx hb hr rfl hlocks (fst_e e9) (rtP (P := fun z => va_P E.1 vwCl (wX5 E a0 z.2) H) e9 hP) hS dX5_readClause_35
  · have hf := ite_t c_13 hf
    refine lv_iconst (v := 0) hx hb dX5_readClause_16 (by decide) ?_
    have e9 := Option.some.inj hf
    exact rt_z hx hb hr rfl hlocks (fst_e e9) (rtP (P := fun z => va_P E.1 vwCl (wX5 E a0 z.2) H) e9 hP) hS dX5_readClause_17
abbrev rm_X5_readStreet : Room := { frames := 40, cells := 0, slots := 0, locals := 1224 }
theorem m_X5_readStreet_646be5 : Cond.fieldLink RX5 22 "PickedMatch$StreetReader" "place" "I" ∈ wsX5_readStreet := by decide +kernel
theorem i_X5_readStreet_X5 : ∀ w ∈ wsX50, w ∈ wsX5_readStreet := fun _ h => List.mem_cons_of_mem _ (List.mem_append_right _ h)
theorem m_X5_readStreet_3e3bef : Cond.fieldLink RX5 18 "PickedMatch$StreetReader" "length" "I" ∈ wsX5_readStreet := by decide +kernel
theorem m_X5_readStreet_ae53a9 : Cond.fieldLink RX5 25 "PickedMatch$StreetReader" "size" "I" ∈ wsX5_readStreet := by decide +kernel
theorem m_X5_readStreet_3c1f19 : Cond.fieldLink RX5 28 "PickedMatch$StreetReader" "need" "I" ∈ wsX5_readStreet := by decide +kernel
theorem m_X5_readStreet_31e22a : Cond.fieldLink RX5 31 "PickedMatch$StreetReader" "hold" "I" ∈ wsX5_readStreet := by decide +kernel
set_option maxHeartbeats 8000000 in
set_option maxRecDepth 100000 in
theorem k_X5_readStreet (l : Launch) (E : Ev) (a0 : Nat → Nat) (N : Nat) (s0 : St) (q : (Int32 × St)) (hf : f_X5_readStreet N s0 = some q) : Ci l yX5_readStreet wsX5_readStreet rm_X5_readStreet E [.ref (a0 0)] (wX5 E a0 s0) (wX5 E a0 q.2) q.1 := by
  unfold f_X5_readStreet at hf
  intro sz
  refine Met.ofW (cc := cX5_readStreet) (maxL := 2) (ret := (some .boolean)) (by decide) rfl ?_
  intro p e s m args below meth c s₁ B hml hv
  obtain ⟨rfl, hsz, hP, hK, hD0, hG, hA, hAB⟩ := start hv
  have hx := B.exec
  have hb := B.bytes
  have hr := B.returns
  have hts := atoms_spec (ws := wsX5_readStreet) B.pre
  have hown : s.vm.findClass RX5 = some m.cls := findClass_of_methodNamed B.named
  have hlocks := B.notSynchronized
  subst hsz
  generalize va_A (wX5 E a0 s0) s.heap.size = A0 at hD0 hA hAB ⊢
  have hDD : ∀ (s0 : St), va_D A0 (wX5 E a0 s0) := fun s0 => vD_addr hD0 rfl
  have hS : va_S A0 s.heap s.heap [] := va_S.rf
  have hl := lv_entry ([.ref (a0 0)]) (n := 2) (Nat.le_of_ble_eq_true rfl)
  rw [lg_entry_eq]
  generalize (lg_sl ([.ref (a0 0)]) ++ List.replicate (2 - (lg_sl ([.ref (a0 0)])).length) Slot.unset).toArray = ls at hl ⊢
  have hl : lv_has ls 2 [(0, .ref (a0 0))] := hl
  have hL_23 : ∀ (n_23 : Nat) (s0 : St) (v1 : Int32), l_X5_readStreet_23 N n_23 s0 v1 = some q → ∀ (H : Heap) (locs : List Loc) (ls : Array Slot), va_P E.1 vwCl (wX5 E a0 s0) H → va_S A0 s.heap H locs → lv_has ls 2 [(0, .ref (a0 0)), (1, .int v1)] → W p l e rm_X5_readStreet s m ([.ref (a0 0)] : List Value).toArray below meth c H locs 0 0 (MQ below (va_Qi (fun (r' : Int32) (_ : Unit) => r' = q.1) (fun _ t => va_P E.1 vwCl (wX5 E a0 q.2) t.heap) A0) ([.ref (a0 0)] : List Value).toArray s 0 0 A0) (F0 m 23 ls []) := by
    intro n_23
    induction n_23 with
    | zero => intro s0 v1 hf; rw [l_X5_readStreet_23] at hf; cases hf
    | succ n_23 ih_23 =>
      intro s0 v1 hf H locs ls hP hS hl
      rw [l_X5_readStreet_23] at hf
      refine lv_iload_n hx hb dX5_readStreet_23 rfl (lv_at hl 1 rfl) ?_
      refine lv_bipush (v := 10) hx hb dX5_readStreet_24 (by decide) ?_
      refine lv_icmp_gt (tgt := 74) hx hb dX5_readStreet_26 (by decide) (fun c_26 => ?_) (fun c_26 => ?_)
      · have hf := ite_t c_26 hf
        refine lv_iconst (v := 0) hx hb dX5_readStreet_74 (by decide) ?_
        have e9 := Option.some.inj hf
        exact rt_z hx hb hr rfl hlocks (fst_e e9) (rtP (P := fun z => va_P E.1 vwCl (wX5 E a0 z.2) H) e9 hP) hS dX5_readStreet_75
      · have hf := ite_f c_26 hf
        refine lv_aload_n hx hb dX5_readStreet_29 rfl (lv_at hl 0 rfl) ?_
        obtain ⟨q30, hc_30, hf⟩ := cl_e hf
        refine fin_i (E := E) (wc := wX5 E a0 s0) (wc' := wX5 E a0 q30.2) (va_runV (As := []) (rest := []) ⟨hx, hb, hml, hown, hts⟩ (k_X5_readClause l E a0 N s0 q30 hc_30 _) (cwV 0 hts gX5_readStreet_X5_readClause rfl rfl rfl (by decide +kernel) ⟨(Nat.le_of_ble_eq_true rfl), (Nat.le_of_ble_eq_true rfl)⟩) (pre_v (ci := 5) (q0 := 0) hK hP (hDD s0) hS hG hAB rfl rfl) rfl rfl hl.1 rfl (lv_room (Nat.le_of_ble_eq_true rfl)) dX5_readStreet_30 ⟨Nat.zero_le _, Nat.zero_le _⟩) hS (w_free (hDD s0) hS hA (fun _ h => h)) (fun H locs hP1 hk hS => ?_)
        have hP := hP1
        refine lv_if_ne (tgt := 38) hx hb dX5_readStreet_33 (by decide) (fun c_33 => ?_) (fun c_33 => ?_)
        · have hf := ite_f c_33 hf
          refine lv_aload_n hx hb dX5_readStreet_38 rfl (lv_at hl 0 rfl) ?_
          refine va_get (ci := 5) (C := RX5) (T := TX5) (N := 8) (v := .int (q30.2 6 0)) hx hb hts i_X5_readStreet_X5 hown hK hP 0 rfl rfl 6 (by decide) (hts _ m_X5_readStreet_646be5) (fun _ h9 => h9) rfl dX5_readStreet_39 ?_
          refine lv_aload_n hx hb dX5_readStreet_42 rfl (lv_at hl 0 rfl) ?_
          refine va_get (ci := 5) (C := RX5) (T := TX5) (N := 8) (v := .int (q30.2 1 0)) hx hb hts i_X5_readStreet_X5 hown hK hP 0 rfl rfl 1 (by decide) (hts _ m_X5_readStreet_3e3bef) (fun _ h9 => h9) rfl dX5_readStreet_43 ?_
          refine lv_icmp_lt (tgt := 51) hx hb dX5_readStreet_46 (by decide) (fun c_46 => ?_) (fun c_46 => ?_)
          · have hf := ite_t c_46 hf
            refine lv_iload_n hx hb dX5_readStreet_51 rfl (lv_at hl 1 rfl) ?_
            refine lv_bipush (v := 10) hx hb dX5_readStreet_52 (by decide) ?_
            refine lv_icmp_eq (tgt := 66) hx hb dX5_readStreet_54 (by decide) (fun c_54 => ?_) (fun c_54 => ?_)
            · have hf := ite_t c_54 hf
              refine lv_iconst (v := 0) hx hb dX5_readStreet_66 (by decide) ?_
              have e9 := Option.some.inj hf
              exact rt_z hx hb hr rfl hlocks (fst_e e9) (rtP (P := fun z => va_P E.1 vwCl (wX5 E a0 z.2) H) e9 hP) hS dX5_readStreet_67
            · have hf := ite_f c_54 hf
              refine lv_aload_n hx hb dX5_readStreet_57 rfl (lv_at hl 0 rfl) ?_
              refine lv_bipush (v := 59) hx hb dX5_readStreet_58 (by decide) ?_
              obtain ⟨q60, hc_60, hf⟩ := cl_e hf
              refine fin_i (E := E) (wc := wX5 E a0 q30.2) (wc' := wX5 E a0 q60.2) (va_runV (As := [.int 59]) (rest := []) ⟨hx, hb, hml, hown, hts⟩ (k_X5_readSign l E a0 N q30.2 59 q60 hc_60 _) (cwV 1 hts gX5_readStreet_X5_readSign rfl rfl rfl (by decide +kernel) ⟨(Nat.le_of_ble_eq_true rfl), (Nat.le_of_ble_eq_true rfl)⟩) (pre_v (ci := 5) (q0 := 0) hK hP (hDD q30.2) hS hG hAB rfl rfl) rfl rfl hl.1 rfl (lv_room (Nat.le_of_ble_eq_true rfl)) dX5_readStreet_60 ⟨Nat.zero_le _, Nat.zero_le _⟩) hS (w_free (hDD q30.2) hS hA (fun _ h => h)) (fun H locs hP1 hk hS => ?_)
              have hP := hP1
              refine lv_if_ne (tgt := 68) hx hb dX5_readStreet_63 (by decide) (fun c_63 => ?_) (fun c_63 => ?_)
              · have hf := ite_f c_63 hf
                obtain ⟨x68, e_x68⟩ : ∃ y : Int32, y = v1 + 1 := ⟨_, rfl⟩
                have hf := nm_q e_x68 hf
                refine lv_iinc (v := x68) (lv' := [(1, .int x68), (0, .ref (a0 0))]) hx hb dX5_readStreet_68 hl (k := 1) rfl (by rw [e_x68]; rfl) (Nat.le_of_ble_eq_true rfl) rfl (fun ls hl => ?_)
                refine lv_goto (tgt := 23) hx hb dX5_readStreet_71 (by decide) ?_
                exact ih_23 q60.2 x68 hf _ _ _ hP hS (lv_sub hl [1, 0] rfl)
              · have hf := ite_t c_63 hf
                refine lv_iconst (v := 0) hx hb dX5_readStreet_66 (by decide) ?_
                have e9 := Option.some.inj hf
                exact rt_z hx hb hr rfl hlocks (fst_e e9) (rtP (P := fun z => va_P E.1 vwCl (wX5 E a0 z.2) H) e9 hP) hS dX5_readStreet_67
          · have hf := ite_f c_46 hf
            refine lv_iconst (v := 1) hx hb dX5_readStreet_49 (by decide) ?_
            have e9 := Option.some.inj hf
            exact rt_z hx hb hr rfl hlocks (fst_e e9) (rtP (P := fun z => va_P E.1 vwCl (wX5 E a0 z.2) H) e9 hP) hS dX5_readStreet_50
        · have hf := ite_t c_33 hf
          refine lv_iconst (v := 0) hx hb dX5_readStreet_36 (by decide) ?_
          have e9 := Option.some.inj hf
          exact rt_z hx hb hr rfl hlocks (fst_e e9) (rtP (P := fun z => va_P E.1 vwCl (wX5 E a0 z.2) H) e9 hP) hS dX5_readStreet_37
  refine lv_aload_n hx hb dX5_readStreet_0 rfl (lv_at hl 0 rfl) ?_
  refine lv_iconst (v := 0) hx hb dX5_readStreet_1 (by decide) ?_
  refine va_put (ci := 5) (v := .int 0) (ty := .int) (C := RX5) (T := TX5) (N := 8) hx hb hts i_X5_readStreet_X5 tyX5 tyX5_ok nmX5 hown hK hP (hDD s0) hS 0 rfl rfl 6 (by decide) (hts _ m_X5_readStreet_646be5) (fun _ h9 => h9) rfl (by decide +kernel) rfl rfl (Nat.le_of_ble_eq_true rfl) dX5_readStreet_2 (fun H locs hP _ hS => ?_)
  obtain ⟨s0_2, hP, hf⟩ := nm_st' (P := fun z => va_P E.1 vwCl (wX5 E a0 z) H) hf hP
  refine lv_aload_n hx hb dX5_readStreet_5 rfl (lv_at hl 0 rfl) ?_
  refine lv_iconst (v := 0) hx hb dX5_readStreet_6 (by decide) ?_
  refine va_put (ci := 5) (v := .int 0) (ty := .int) (C := RX5) (T := TX5) (N := 8) hx hb hts i_X5_readStreet_X5 tyX5 tyX5_ok nmX5 hown hK hP (hDD s0_2) hS 0 rfl rfl 3 (by decide) (hts _ m_X5_readStreet_ae53a9) (fun _ h9 => h9) rfl (by decide +kernel) rfl rfl (Nat.le_of_ble_eq_true rfl) dX5_readStreet_7 (fun H locs hP _ hS => ?_)
  obtain ⟨s0_7, hP, hf⟩ := nm_st' (P := fun z => va_P E.1 vwCl (wX5 E a0 z) H) hf hP
  refine lv_aload_n hx hb dX5_readStreet_10 rfl (lv_at hl 0 rfl) ?_
  refine lv_iconst (v := 1) hx hb dX5_readStreet_11 (by decide) ?_
  refine va_put (ci := 5) (v := .int 1) (ty := .int) (C := RX5) (T := TX5) (N := 8) hx hb hts i_X5_readStreet_X5 tyX5 tyX5_ok nmX5 hown hK hP (hDD s0_7) hS 0 rfl rfl 4 (by decide) (hts _ m_X5_readStreet_3c1f19) (fun _ h9 => h9) rfl (by decide +kernel) rfl rfl (Nat.le_of_ble_eq_true rfl) dX5_readStreet_12 (fun H locs hP _ hS => ?_)
  obtain ⟨s0_12, hP, hf⟩ := nm_st' (P := fun z => va_P E.1 vwCl (wX5 E a0 z) H) hf hP
  refine lv_aload_n hx hb dX5_readStreet_15 rfl (lv_at hl 0 rfl) ?_
  refine lv_bipush (v := 6) hx hb dX5_readStreet_16 (by decide) ?_
  refine va_put (ci := 5) (v := .int 6) (ty := .int) (C := RX5) (T := TX5) (N := 8) hx hb hts i_X5_readStreet_X5 tyX5 tyX5_ok nmX5 hown hK hP (hDD s0_12) hS 0 rfl rfl 5 (by decide) (hts _ m_X5_readStreet_31e22a) (fun _ h9 => h9) rfl (by decide +kernel) rfl rfl (Nat.le_of_ble_eq_true rfl) dX5_readStreet_18 (fun H locs hP _ hS => ?_)
  obtain ⟨s0_18, hP, hf⟩ := nm_st' (P := fun z => va_P E.1 vwCl (wX5 E a0 z) H) hf hP
  refine lv_iconst (v := 1) hx hb dX5_readStreet_21 (by decide) ?_
  refine lv_istore_n (lv' := [(1, .int 1), (0, .ref (a0 0))]) hx hb dX5_readStreet_22 rfl hl (Nat.le_of_ble_eq_true rfl) rfl (fun ls hl => ?_)
  exact hL_23 N s0_18 1 hf _ _ _ hP hS (lv_sub hl [1, 0] rfl)
