/-! ===== what the methods compute, and that they do: by program out of the bytecode (wip/gen) ===== -/
abbrev rm_X7_isWithin : Room := { frames := 0, cells := 0, slots := 0, locals := 0 }
set_option maxHeartbeats 8000000 in
set_option maxRecDepth 100000 in
theorem k_X7_isWithin (l : Launch) (E : Ev) (N : Nat) (p0 : Int32) (p1 : Int32) (p2 : Int32) (q : (Int32)) (hf : f_X7_isWithin N p0 p1 p2 = some q) : Ci l yX7_isWithin wsX7_isWithin rm_X7_isWithin E [.int p0, .int p1, .int p2] (([] : va_W)) (([] : va_W)) q := by
  unfold f_X7_isWithin at hf
  intro sz
  refine Met.ofW (cc := cX7_isWithin) (maxL := 3) (ret := (some .boolean)) (by decide) rfl ?_
  intro p e s m args below meth c s₁ B hml hv
  obtain ⟨rfl, hsz, hP, hK, hD0, hG, hA, hAB⟩ := start hv
  have hx := B.exec
  have hb := B.bytes
  have hr := B.returns
  have hts := atoms_spec (ws := wsX7_isWithin) B.pre
  have hown : s.vm.findClass RX7 = some m.cls := findClass_of_methodNamed B.named
  have hlocks := B.notSynchronized
  subst hsz
  generalize va_A (([] : va_W)) s.heap.size = A0 at hD0 hA hAB ⊢
  have hDD : va_D A0 (([] : va_W)) := hD0
  have hS : va_S A0 s.heap s.heap [] := va_S.rf
  have hl := lv_entry ([.int p0, .int p1, .int p2]) (n := 3) (Nat.le_of_ble_eq_true rfl)
  rw [lg_entry_eq]
  generalize (lg_sl ([.int p0, .int p1, .int p2]) ++ List.replicate (3 - (lg_sl ([.int p0, .int p1, .int p2])).length) Slot.unset).toArray = ls at hl ⊢
  have hl : lv_has ls 3 [(0, .int p0), (1, .int p1), (2, .int p2)] := hl
  refine lv_iload_n hx hb dX7_isWithin_0 rfl (lv_at hl 0 rfl) ?_
  refine lv_iload_n hx hb dX7_isWithin_1 rfl (lv_at hl 1 rfl) ?_
  refine lv_icmp_lt (tgt := 14) hx hb dX7_isWithin_2 (by decide) (fun c_2 => ?_) (fun c_2 => ?_)
  · have hf := ite_t c_2 hf
    refine lv_iconst (v := 0) hx hb dX7_isWithin_14 (by decide) ?_
    have e9 := Option.some.inj hf
    exact rt_z hx hb hr rfl hlocks e9 hP hS dX7_isWithin_15
  · have hf := ite_f c_2 hf
    refine lv_iload_n hx hb dX7_isWithin_5 rfl (lv_at hl 0 rfl) ?_
    refine lv_iload_n hx hb dX7_isWithin_6 rfl (lv_at hl 2 rfl) ?_
    refine lv_icmp_gt (tgt := 14) hx hb dX7_isWithin_7 (by decide) (fun c_7 => ?_) (fun c_7 => ?_)
    · have hf := ite_t c_7 hf
      refine lv_iconst (v := 0) hx hb dX7_isWithin_14 (by decide) ?_
      have e9 := Option.some.inj hf
      exact rt_z hx hb hr rfl hlocks e9 hP hS dX7_isWithin_15
    · have hf := ite_f c_7 hf
      refine lv_iconst (v := 1) hx hb dX7_isWithin_10 (by decide) ?_
      refine lv_goto (tgt := 15) hx hb dX7_isWithin_11 (by decide) ?_
      have e9 := Option.some.inj hf
      exact rt_z hx hb hr rfl hlocks e9 hP hS dX7_isWithin_15
abbrev rm_X7_thing : Room := { frames := 1, cells := 0, slots := 0, locals := 24 }
theorem m_X7_thing_265b14 : Cond.fieldLink RX7 12 "PickedMatch" "scene" "LPickedMatch$Scene;" ∈ wsX7_thing := by decide +kernel
theorem i_X7_thing_X7 : ∀ w ∈ wsX70, w ∈ wsX7_thing := fun _ h => List.mem_cons_of_mem _ (List.mem_append_left _ (List.mem_append_right _ h))
theorem i_X7_thing_X2 : ∀ w ∈ wsX20, w ∈ wsX7_thing := fun _ h => List.mem_cons_of_mem _ (List.mem_append_right _ h)
theorem m_X7_thing_4cf9d8 : Cond.initialized RX2 ∈ wsX7_thing := by decide +kernel
theorem m_X7_thing_950bef : Cond.instanceMethod yX2_addThing ∈ wsX7_thing := by decide +kernel
theorem m_X7_thing_513c03 : Cond.selects RX2 yX2_addThing yX2_addThing ∈ wsX7_thing := by decide +kernel
set_option maxHeartbeats 8000000 in
set_option maxRecDepth 100000 in
theorem k_X7_thing (l : Launch) (E : Ev) (a0 : Nat → Nat) (a1 : Nat → Nat) (a2 : Nat → Nat) (a3 : Nat → Nat) (a4 : Nat → Nat) (a5 : Nat → Nat) (a6 : Nat → Nat) (a7 : Nat → Nat) (a8 : Nat → Nat) (a9 : Nat → Nat) (L : List SR) (N : Nat) (s0 : St) (s1 : St) (h1 : Option SR) (s2 : St) (h2 : Option SR) (s3 : St) (s4 : St) (h4 : Option SR) (s5 : St) (s6 : St) (s7 : St) (s8 : St) (s9 : St) (t9 : Nat → Nat → Int64) (p1 : Int32) (p2 : Int32) (p3 : Int32) (q : (Int32 × St)) (hf : f_X7_thing N s1 p1 p2 p3 = some q) : Ci l yX7_thing wsX7_thing rm_X7_thing E [.ref (a0 0), .int p1, .int p2, .int p3] ((wX7o E a0 a1 a2 a3 a4 a5 a6 a7 a8 a9 s0 ++ (wX2 E a1 s1 h1 ++ (wX2 E a2 s2 h2 ++ (wX1 E a3 s3 ++ (wX2 E a4 s4 h4 ++ (wX1 E a5 s5 ++ (wX5 E a6 s6 ++ (wX3 E a7 s7 ++ (wX0 E a8 s8 ++ (wX6 E a9 s9 t9)))))))))) ++ sW E.2.1 L) ((wX7o E a0 a1 a2 a3 a4 a5 a6 a7 a8 a9 s0 ++ (wX2 E a1 q.2 h1 ++ (wX2 E a2 s2 h2 ++ (wX1 E a3 s3 ++ (wX2 E a4 s4 h4 ++ (wX1 E a5 s5 ++ (wX5 E a6 s6 ++ (wX3 E a7 s7 ++ (wX0 E a8 s8 ++ (wX6 E a9 s9 t9)))))))))) ++ sW E.2.1 L) q.1 := by
  unfold f_X7_thing at hf
  intro sz
  refine Met.ofW (cc := cX7_thing) (maxL := 4) (ret := (some .int)) (by decide) rfl ?_
  intro p e s m args below meth c s₁ B hml hpre
  obtain ⟨rfl, hsz, hP, hK, hD0, hG, hA, hAB⟩ := start hpre
  have hx := B.exec
  have hb := B.bytes
  have hr := B.returns
  have hts := atoms_spec (ws := wsX7_thing) B.pre
  have hown : s.vm.findClass RX7 = some m.cls := findClass_of_methodNamed B.named
  have hlocks := B.notSynchronized
  subst hsz
  generalize va_A ((wX7o E a0 a1 a2 a3 a4 a5 a6 a7 a8 a9 s0 ++ (wX2 E a1 s1 h1 ++ (wX2 E a2 s2 h2 ++ (wX1 E a3 s3 ++ (wX2 E a4 s4 h4 ++ (wX1 E a5 s5 ++ (wX5 E a6 s6 ++ (wX3 E a7 s7 ++ (wX0 E a8 s8 ++ (wX6 E a9 s9 t9)))))))))) ++ sW E.2.1 L) s.heap.size = A0 at hD0 hA hAB ⊢
  have hDD : ∀ (s0 : St) (s1 : St) (h1 : Option SR) (s2 : St) (h2 : Option SR) (s3 : St) (s4 : St) (h4 : Option SR) (s5 : St) (s6 : St) (s7 : St) (s8 : St) (s9 : St) (t9 : Nat → Nat → Int64), va_D A0 ((wX7o E a0 a1 a2 a3 a4 a5 a6 a7 a8 a9 s0 ++ (wX2 E a1 s1 h1 ++ (wX2 E a2 s2 h2 ++ (wX1 E a3 s3 ++ (wX2 E a4 s4 h4 ++ (wX1 E a5 s5 ++ (wX5 E a6 s6 ++ (wX3 E a7 s7 ++ (wX0 E a8 s8 ++ (wX6 E a9 s9 t9)))))))))) ++ sW E.2.1 L) := fun s0 s1 h1 s2 h2 s3 s4 h4 s5 s6 s7 s8 s9 t9 => vD_addr hD0 rfl
  have hS : va_S A0 s.heap s.heap [] := va_S.rf
  have hl := lv_entry ([.ref (a0 0), .int p1, .int p2, .int p3]) (n := 4) (Nat.le_of_ble_eq_true rfl)
  rw [lg_entry_eq]
  generalize (lg_sl ([.ref (a0 0), .int p1, .int p2, .int p3]) ++ List.replicate (4 - (lg_sl ([.ref (a0 0), .int p1, .int p2, .int p3])).length) Slot.unset).toArray = ls at hl ⊢
  have hl : lv_has ls 4 [(0, .ref (a0 0)), (1, .int p1), (2, .int p2), (3, .int p3)] := hl
  refine lv_iload_n hx hb dX7_thing_0 rfl (lv_at hl 1 rfl) ?_
  refine lv_iconst (v := 0) hx hb dX7_thing_1 (by decide) ?_
  refine lv_bipush (v := 6) hx hb dX7_thing_2 (by decide) ?_
  obtain ⟨q4, hc_4, hf⟩ := cl_e hf
  refine fin_i (E := E) (wc := ([] : va_W)) (wc' := ([] : va_W)) (va_runS (As := [.int p1, .int 0, .int 6]) (rest := []) ⟨hx, hb, hml, hown, hts⟩ (k_X7_isWithin l E N p1 0 6 q4 hc_4 _) (va_cwS 3 hts gX7_thing_X7_isWithin rfl rfl rfl (by decide +kernel) ⟨(Nat.le_of_ble_eq_true rfl), (Nat.le_of_ble_eq_true rfl)⟩) (pre_s hK va_P_nil va_D_nil hS hG hAB) rfl rfl hl.1 rfl (lv_room (Nat.le_of_ble_eq_true rfl)) dX7_thing_4 ⟨Nat.zero_le _, Nat.zero_le _⟩) hS (free_nil hS hA) (fun H locs hP1 hk hS => ?_)
  have hP := w_kept0 hP hk
  refine lv_if_ne (tgt := 12) hx hb dX7_thing_7 (by decide) (fun c_7 => ?_) (fun c_7 => ?_)
  · have hf := ite_f c_7 hf
    refine lv_iload_n hx hb dX7_thing_12 rfl (lv_at hl 2 rfl) ?_
    refine lv_iconst (v := 0) hx hb dX7_thing_13 (by decide) ?_
    refine lv_bipush (v := 9) hx hb dX7_thing_14 (by decide) ?_
    obtain ⟨q16, hc_16, hf⟩ := cl_e hf
    refine fin_i (E := E) (wc := ([] : va_W)) (wc' := ([] : va_W)) (va_runS (As := [.int p2, .int 0, .int 9]) (rest := []) ⟨hx, hb, hml, hown, hts⟩ (k_X7_isWithin l E N p2 0 9 q16 hc_16 _) (va_cwS 3 hts gX7_thing_X7_isWithin rfl rfl rfl (by decide +kernel) ⟨(Nat.le_of_ble_eq_true rfl), (Nat.le_of_ble_eq_true rfl)⟩) (pre_s hK va_P_nil va_D_nil hS hG hAB) rfl rfl hl.1 rfl (lv_room (Nat.le_of_ble_eq_true rfl)) dX7_thing_16 ⟨Nat.zero_le _, Nat.zero_le _⟩) hS (free_nil hS hA) (fun H locs hP1 hk hS => ?_)
    have hP := w_kept0 hP hk
    refine lv_if_eq (tgt := 33) hx hb dX7_thing_19 (by decide) (fun c_19 => ?_) (fun c_19 => ?_)
    · have hf := ite_t c_19 hf
      refine lv_bipush (v := (-2)) hx hb dX7_thing_33 (by decide) ?_
      have e9 := Option.some.inj hf
      have h9_0 : s1 = q.2 := congrArg (fun z => z.2) e9
      have hP9 : va_P E.1 vwCl ((wX7o E a0 a1 a2 a3 a4 a5 a6 a7 a8 a9 s0 ++ (wX2 E a1 q.2 h1 ++ (wX2 E a2 s2 h2 ++ (wX1 E a3 s3 ++ (wX2 E a4 s4 h4 ++ (wX1 E a5 s5 ++ (wX5 E a6 s6 ++ (wX3 E a7 s7 ++ (wX0 E a8 s8 ++ (wX6 E a9 s9 t9)))))))))) ++ sW E.2.1 L) H := by rw [← h9_0]; exact hP
      exact rt_i hx hb hr hlocks (fst_e e9) hP9 hS dX7_thing_35
    · have hf := ite_f c_19 hf
      refine lv_iload_n hx hb dX7_thing_22 rfl (lv_at hl 3 rfl) ?_
      refine lv_iconst (v := 0) hx hb dX7_thing_23 (by decide) ?_
      refine lv_sipush (v := 255) hx hb dX7_thing_24 (by decide) ?_
      obtain ⟨q27, hc_27, hf⟩ := cl_e hf
      refine fin_i (E := E) (wc := ([] : va_W)) (wc' := ([] : va_W)) (va_runS (As := [.int p3, .int 0, .int 255]) (rest := []) ⟨hx, hb, hml, hown, hts⟩ (k_X7_isWithin l E N p3 0 255 q27 hc_27 _) (va_cwS 3 hts gX7_thing_X7_isWithin rfl rfl rfl (by decide +kernel) ⟨(Nat.le_of_ble_eq_true rfl), (Nat.le_of_ble_eq_true rfl)⟩) (pre_s hK va_P_nil va_D_nil hS hG hAB) rfl rfl hl.1 rfl (lv_room (Nat.le_of_ble_eq_true rfl)) dX7_thing_27 ⟨Nat.zero_le _, Nat.zero_le _⟩) hS (free_nil hS hA) (fun H locs hP1 hk hS => ?_)
      have hP := w_kept0 hP hk
      refine lv_if_ne (tgt := 36) hx hb dX7_thing_30 (by decide) (fun c_30 => ?_) (fun c_30 => ?_)
      · have hf := ite_f c_30 hf
        refine lv_aload_n hx hb dX7_thing_36 rfl (lv_at hl 0 rfl) ?_
        refine va_get (ci := 7) (C := RX7) (T := TX7) (N := 11) (v := .ref (a1 0)) hx hb hts i_X7_thing_X7 hown hK hP 0 rfl rfl 0 (by decide) (hts _ m_X7_thing_265b14) (fun _ h9 => h9) rfl dX7_thing_37 ?_
        refine va_getN (ci := 2) (C := RX2) (T := TX2) (N := 11) (v := .int (s1 0 0)) hx hb hts i_X7_thing_X2 hown hK hP 1 rfl rfl 0 (by decide) (nwG hG (w := .fieldLinkNest "PickedMatch" 66 "PickedMatch$Scene" "things" "I" "PickedMatch") (by decide +kernel)) (fun _ h9 => h9) rfl dX7_thing_40 ?_
        refine lv_bipush (v := 6) hx hb dX7_thing_43 (by decide) ?_
        refine lv_icmp_lt (tgt := 51) hx hb dX7_thing_45 (by decide) (fun c_45 => ?_) (fun c_45 => ?_)
        · have hf := ite_t c_45 hf
          refine lv_aload_n hx hb dX7_thing_51 rfl (lv_at hl 0 rfl) ?_
          refine va_get (ci := 7) (C := RX7) (T := TX7) (N := 11) (v := .ref (a1 0)) hx hb hts i_X7_thing_X7 hown hK hP 0 rfl rfl 0 (by decide) (hts _ m_X7_thing_265b14) (fun _ h9 => h9) rfl dX7_thing_52 ?_
          refine lv_iload_n hx hb dX7_thing_55 rfl (lv_at hl 1 rfl) ?_
          refine lv_iload_n hx hb dX7_thing_56 rfl (lv_at hl 2 rfl) ?_
          refine lv_iload_n hx hb dX7_thing_57 rfl (lv_at hl 3 rfl) ?_
          obtain ⟨q58, hc_58, hf⟩ := cl_e hf
          have hm_58 : ∀ q ∈ (wX2 E a1 s1 h1) ++ sW E.2.1 L, q ∈ (wX7o E a0 a1 a2 a3 a4 a5 a6 a7 a8 a9 s0 ++ (wX2 E a1 s1 h1 ++ (wX2 E a2 s2 h2 ++ (wX1 E a3 s3 ++ (wX2 E a4 s4 h4 ++ (wX1 E a5 s5 ++ (wX5 E a6 s6 ++ (wX3 E a7 s7 ++ (wX0 E a8 s8 ++ (wX6 E a9 s9 t9)))))))))) ++ sW E.2.1 L := (app_mem (sub_mem (suf := []) [1, 2, 3, 4, 5, 6, 7] rfl))
          refine fin_i (E := E) (wc := (wX2 E a1 s1 h1) ++ sW E.2.1 L) (wc' := (wX2 E a1 q58.2 h1) ++ sW E.2.1 L) (va_runVN (As := [.int p1, .int p2, .int p3]) (rest := []) ⟨hx, hb, hml, hown, hts⟩ (k_X2_addThing l E a1 L N s1 h1 p1 p2 p3 q58 hc_58 _) ⟨va_cnB 3 hts gX7_thing_X2_addThing_n70 rfl rfl rfl (hG.1 (.methodLinkNest "PickedMatch" 70 yX2_addThing "PickedMatch") (by decide +kernel)) (hts _ m_X7_thing_4cf9d8) (by decide +kernel) ⟨(Nat.le_of_ble_eq_true rfl), (Nat.le_of_ble_eq_true rfl)⟩, (hts _ m_X7_thing_950bef), (hts _ m_X7_thing_513c03)⟩ (pre_v (ci := 2) (q0 := 0) hK (sub_P hm_58 hP) (sub_Ds (ws := wX7o E a0 a1 a2 a3 a4 a5 a6 a7 a8 a9 s0 ++ (wX2 E a1 s1 h1 ++ (wX2 E a2 s2 h2 ++ (wX1 E a3 s3 ++ (wX2 E a4 s4 h4 ++ (wX1 E a5 s5 ++ (wX5 E a6 s6 ++ (wX3 E a7 s7 ++ (wX0 E a8 s8 ++ (wX6 E a9 s9 t9)))))))))) (wc := wX2 E a1 s1 h1) (suf := sW E.2.1 L) [1, 2, 3, 4, 5, 6, 7] (by decide) rfl (hDD s0 s1 h1 s2 h2 s3 s4 h4 s5 s6 s7 s8 s9 t9)) hS hG hAB rfl rfl) rfl rfl hl.1 rfl (lv_room (Nat.le_of_ble_eq_true rfl)) dX7_thing_58 ⟨Nat.zero_le _, Nat.zero_le _⟩) hS (w_free (hDD s0 s1 h1 s2 h2 s3 s4 h4 s5 s6 s7 s8 s9 t9) hS hA hm_58) (fun H locs hP1 hk hS => ?_)
          have hP := w_joins (ws' := wX7o E a0 a1 a2 a3 a4 a5 a6 a7 a8 a9 s0 ++ (wX2 E a1 q58.2 h1 ++ (wX2 E a2 s2 h2 ++ (wX1 E a3 s3 ++ (wX2 E a4 s4 h4 ++ (wX1 E a5 s5 ++ (wX5 E a6 s6 ++ (wX3 E a7 s7 ++ (wX0 E a8 s8 ++ (wX6 E a9 s9 t9)))))))))) (wc := wX2 E a1 s1 h1) (wc' := wX2 E a1 q58.2 h1) hP (hDD s0 s1 h1 s2 h2 s3 s4 h4 s5 s6 s7 s8 s9 t9) [1, 2, 3, 4, 5, 6, 7] rfl [none, some 0, some 1, some 2, some 3, some 4, some 5, some 6, none, none, none, none, none, none, none, none, none, none, none, none, none, none, none, none, none, none, none, none, none, none, none, none, none, none, none, none, none, none, none, none, none, none, none, none, none, none, none, none, none, none] rfl rfl hk hP1
          have e9 := Option.some.inj hf
          have h9_0 : q58.2 = q.2 := congrArg (fun z => z.2) e9
          have hP9 : va_P E.1 vwCl ((wX7o E a0 a1 a2 a3 a4 a5 a6 a7 a8 a9 s0 ++ (wX2 E a1 q.2 h1 ++ (wX2 E a2 s2 h2 ++ (wX1 E a3 s3 ++ (wX2 E a4 s4 h4 ++ (wX1 E a5 s5 ++ (wX5 E a6 s6 ++ (wX3 E a7 s7 ++ (wX0 E a8 s8 ++ (wX6 E a9 s9 t9)))))))))) ++ sW E.2.1 L) H := by rw [← h9_0]; exact hP
          exact rt_i hx hb hr hlocks (fst_e e9) hP9 hS dX7_thing_61
        · have hf := ite_f c_45 hf
          refine lv_bipush (v := (-4)) hx hb dX7_thing_48 (by decide) ?_
          have e9 := Option.some.inj hf
          have h9_0 : s1 = q.2 := congrArg (fun z => z.2) e9
          have hP9 : va_P E.1 vwCl ((wX7o E a0 a1 a2 a3 a4 a5 a6 a7 a8 a9 s0 ++ (wX2 E a1 q.2 h1 ++ (wX2 E a2 s2 h2 ++ (wX1 E a3 s3 ++ (wX2 E a4 s4 h4 ++ (wX1 E a5 s5 ++ (wX5 E a6 s6 ++ (wX3 E a7 s7 ++ (wX0 E a8 s8 ++ (wX6 E a9 s9 t9)))))))))) ++ sW E.2.1 L) H := by rw [← h9_0]; exact hP
          exact rt_i hx hb hr hlocks (fst_e e9) hP9 hS dX7_thing_50
      · have hf := ite_t c_30 hf
        refine lv_bipush (v := (-2)) hx hb dX7_thing_33 (by decide) ?_
        have e9 := Option.some.inj hf
        have h9_0 : s1 = q.2 := congrArg (fun z => z.2) e9
        have hP9 : va_P E.1 vwCl ((wX7o E a0 a1 a2 a3 a4 a5 a6 a7 a8 a9 s0 ++ (wX2 E a1 q.2 h1 ++ (wX2 E a2 s2 h2 ++ (wX1 E a3 s3 ++ (wX2 E a4 s4 h4 ++ (wX1 E a5 s5 ++ (wX5 E a6 s6 ++ (wX3 E a7 s7 ++ (wX0 E a8 s8 ++ (wX6 E a9 s9 t9)))))))))) ++ sW E.2.1 L) H := by rw [← h9_0]; exact hP
        exact rt_i hx hb hr hlocks (fst_e e9) hP9 hS dX7_thing_35
  · have hf := ite_t c_7 hf
    refine lv_iconst (v := (-1)) hx hb dX7_thing_10 (by decide) ?_
    have e9 := Option.some.inj hf
    have h9_0 : s1 = q.2 := congrArg (fun z => z.2) e9
    have hP9 : va_P E.1 vwCl ((wX7o E a0 a1 a2 a3 a4 a5 a6 a7 a8 a9 s0 ++ (wX2 E a1 q.2 h1 ++ (wX2 E a2 s2 h2 ++ (wX1 E a3 s3 ++ (wX2 E a4 s4 h4 ++ (wX1 E a5 s5 ++ (wX5 E a6 s6 ++ (wX3 E a7 s7 ++ (wX0 E a8 s8 ++ (wX6 E a9 s9 t9)))))))))) ++ sW E.2.1 L) H := by rw [← h9_0]; exact hP
    exact rt_i hx hb hr hlocks (fst_e e9) hP9 hS dX7_thing_11
abbrev rm_X7_of : Room := { frames := 4, cells := 0, slots := 0, locals := 95 }
theorem m_X7_of_265b14 : Cond.fieldLink RX7 12 "PickedMatch" "scene" "LPickedMatch$Scene;" ∈ wsX7_of := by decide +kernel
theorem i_X7_of_X7 : ∀ w ∈ wsX70, w ∈ wsX7_of := fun _ h => List.mem_cons_of_mem _ (List.mem_append_left _ (List.mem_append_left _ (List.mem_append_right _ h)))
theorem m_X7_of_4cf9d8 : Cond.initialized RX2 ∈ wsX7_of := by decide +kernel
theorem m_X7_of_0211d8 : Cond.instanceMethod yX2_hasThing ∈ wsX7_of := by decide +kernel
theorem m_X7_of_6099ba : Cond.selects RX2 yX2_hasThing yX2_hasThing ∈ wsX7_of := by decide +kernel
theorem i_X7_of_X2 : ∀ w ∈ wsX20, w ∈ wsX7_of := fun _ h => List.mem_cons_of_mem _ (List.mem_append_left _ (List.mem_append_right _ h))
theorem m_X7_of_b9a53b : Cond.instanceMethod yX2_placeInHad ∈ wsX7_of := by decide +kernel
theorem m_X7_of_a6c035 : Cond.selects RX2 yX2_placeInHad yX2_placeInHad ∈ wsX7_of := by decide +kernel
theorem m_X7_of_190a7f : Cond.instanceMethod yX2_tasteOf ∈ wsX7_of := by decide +kernel
theorem m_X7_of_65fa63 : Cond.selects RX2 yX2_tasteOf yX2_tasteOf ∈ wsX7_of := by decide +kernel
theorem m_X7_of_9a2aa6 : Cond.instanceMethod yX2_alikeOf ∈ wsX7_of := by decide +kernel
theorem m_X7_of_12d1d9 : Cond.selects RX2 yX2_alikeOf yX2_alikeOf ∈ wsX7_of := by decide +kernel
theorem m_X7_of_e42de2 : Cond.instanceMethod yX2_goesNow ∈ wsX7_of := by decide +kernel
theorem m_X7_of_678d5f : Cond.selects RX2 yX2_goesNow yX2_goesNow ∈ wsX7_of := by decide +kernel
set_option maxHeartbeats 8000000 in
set_option maxRecDepth 100000 in
theorem k_X7_of (l : Launch) (E : Ev) (a0 : Nat → Nat) (a1 : Nat → Nat) (a2 : Nat → Nat) (a3 : Nat → Nat) (a4 : Nat → Nat) (a5 : Nat → Nat) (a6 : Nat → Nat) (a7 : Nat → Nat) (a8 : Nat → Nat) (a9 : Nat → Nat) (L : List SR) (N : Nat) (s0 : St) (s1 : St) (h1 : Option SR) (s2 : St) (h2 : Option SR) (s3 : St) (s4 : St) (h4 : Option SR) (s5 : St) (s6 : St) (s7 : St) (s8 : St) (s9 : St) (t9 : Nat → Nat → Int64) (p1 : Int32) (p2 : Int32) (q : (Int32 × St)) (hf : f_X7_of N L s1 h1 p1 p2 = some q) : Ci l yX7_of wsX7_of rm_X7_of E [.ref (a0 0), .int p1, .int p2] ((wX7o E a0 a1 a2 a3 a4 a5 a6 a7 a8 a9 s0 ++ (wX2 E a1 s1 h1 ++ (wX2 E a2 s2 h2 ++ (wX1 E a3 s3 ++ (wX2 E a4 s4 h4 ++ (wX1 E a5 s5 ++ (wX5 E a6 s6 ++ (wX3 E a7 s7 ++ (wX0 E a8 s8 ++ (wX6 E a9 s9 t9)))))))))) ++ sW E.2.1 L) ((wX7o E a0 a1 a2 a3 a4 a5 a6 a7 a8 a9 s0 ++ (wX2 E a1 q.2 h1 ++ (wX2 E a2 s2 h2 ++ (wX1 E a3 s3 ++ (wX2 E a4 s4 h4 ++ (wX1 E a5 s5 ++ (wX5 E a6 s6 ++ (wX3 E a7 s7 ++ (wX0 E a8 s8 ++ (wX6 E a9 s9 t9)))))))))) ++ sW E.2.1 L) q.1 := by
  unfold f_X7_of at hf
  intro sz
  refine Met.ofW (cc := cX7_of) (maxL := 3) (ret := (some .int)) (by decide) rfl ?_
  intro p e s m args below meth c s₁ B hml hpre
  obtain ⟨rfl, hsz, hP, hK, hD0, hG, hA, hAB⟩ := start hpre
  have hx := B.exec
  have hb := B.bytes
  have hr := B.returns
  have hts := atoms_spec (ws := wsX7_of) B.pre
  have hown : s.vm.findClass RX7 = some m.cls := findClass_of_methodNamed B.named
  have hlocks := B.notSynchronized
  subst hsz
  generalize va_A ((wX7o E a0 a1 a2 a3 a4 a5 a6 a7 a8 a9 s0 ++ (wX2 E a1 s1 h1 ++ (wX2 E a2 s2 h2 ++ (wX1 E a3 s3 ++ (wX2 E a4 s4 h4 ++ (wX1 E a5 s5 ++ (wX5 E a6 s6 ++ (wX3 E a7 s7 ++ (wX0 E a8 s8 ++ (wX6 E a9 s9 t9)))))))))) ++ sW E.2.1 L) s.heap.size = A0 at hD0 hA hAB ⊢
  have hDD : ∀ (s0 : St) (s1 : St) (h1 : Option SR) (s2 : St) (h2 : Option SR) (s3 : St) (s4 : St) (h4 : Option SR) (s5 : St) (s6 : St) (s7 : St) (s8 : St) (s9 : St) (t9 : Nat → Nat → Int64), va_D A0 ((wX7o E a0 a1 a2 a3 a4 a5 a6 a7 a8 a9 s0 ++ (wX2 E a1 s1 h1 ++ (wX2 E a2 s2 h2 ++ (wX1 E a3 s3 ++ (wX2 E a4 s4 h4 ++ (wX1 E a5 s5 ++ (wX5 E a6 s6 ++ (wX3 E a7 s7 ++ (wX0 E a8 s8 ++ (wX6 E a9 s9 t9)))))))))) ++ sW E.2.1 L) := fun s0 s1 h1 s2 h2 s3 s4 h4 s5 s6 s7 s8 s9 t9 => vD_addr hD0 rfl
  have hS : va_S A0 s.heap s.heap [] := va_S.rf
  have hl := lv_entry ([.ref (a0 0), .int p1, .int p2]) (n := 3) (Nat.le_of_ble_eq_true rfl)
  rw [lg_entry_eq]
  generalize (lg_sl ([.ref (a0 0), .int p1, .int p2]) ++ List.replicate (3 - (lg_sl ([.ref (a0 0), .int p1, .int p2])).length) Slot.unset).toArray = ls at hl ⊢
  have hl : lv_has ls 3 [(0, .ref (a0 0)), (1, .int p1), (2, .int p2)] := hl
  refine lv_aload_n hx hb dX7_of_0 rfl (lv_at hl 0 rfl) ?_
  refine va_get (ci := 7) (C := RX7) (T := TX7) (N := 11) (v := .ref (a1 0)) hx hb hts i_X7_of_X7 hown hK hP 0 rfl rfl 0 (by decide) (hts _ m_X7_of_265b14) (fun _ h9 => h9) rfl dX7_of_1 ?_
  refine lv_iload_n hx hb dX7_of_4 rfl (lv_at hl 1 rfl) ?_
  obtain ⟨q5, hc_5, hf⟩ := cl_e hf
  have hm_5 : ∀ q ∈ (wX2 E a1 s1 h1) ++ sW E.2.1 L, q ∈ (wX7o E a0 a1 a2 a3 a4 a5 a6 a7 a8 a9 s0 ++ (wX2 E a1 s1 h1 ++ (wX2 E a2 s2 h2 ++ (wX1 E a3 s3 ++ (wX2 E a4 s4 h4 ++ (wX1 E a5 s5 ++ (wX5 E a6 s6 ++ (wX3 E a7 s7 ++ (wX0 E a8 s8 ++ (wX6 E a9 s9 t9)))))))))) ++ sW E.2.1 L := (app_mem (sub_mem (suf := []) [1, 2, 3, 4, 5, 6, 7] rfl))
  refine fin_i (E := E) (wc := (wX2 E a1 s1 h1) ++ sW E.2.1 L) (wc' := (wX2 E a1 s1 h1) ++ sW E.2.1 L) (va_runVN (As := [.int p1]) (rest := []) ⟨hx, hb, hml, hown, hts⟩ (k_X2_hasThing l E a1 L N s1 h1 p1 q5 hc_5 _) ⟨va_cnB 1 hts gX7_of_X2_hasThing_n74 rfl rfl rfl (hG.1 (.methodLinkNest "PickedMatch" 74 yX2_hasThing "PickedMatch") (by decide +kernel)) (hts _ m_X7_of_4cf9d8) (by decide +kernel) ⟨(Nat.le_of_ble_eq_true rfl), (Nat.le_of_ble_eq_true rfl)⟩, (hts _ m_X7_of_0211d8), (hts _ m_X7_of_6099ba)⟩ (pre_v (ci := 2) (q0 := 0) hK (sub_P hm_5 hP) (sub_Ds (ws := wX7o E a0 a1 a2 a3 a4 a5 a6 a7 a8 a9 s0 ++ (wX2 E a1 s1 h1 ++ (wX2 E a2 s2 h2 ++ (wX1 E a3 s3 ++ (wX2 E a4 s4 h4 ++ (wX1 E a5 s5 ++ (wX5 E a6 s6 ++ (wX3 E a7 s7 ++ (wX0 E a8 s8 ++ (wX6 E a9 s9 t9)))))))))) (wc := wX2 E a1 s1 h1) (suf := sW E.2.1 L) [1, 2, 3, 4, 5, 6, 7] (by decide) rfl (hDD s0 s1 h1 s2 h2 s3 s4 h4 s5 s6 s7 s8 s9 t9)) hS hG hAB rfl rfl) rfl rfl hl.1 rfl (lv_room (Nat.le_of_ble_eq_true rfl)) dX7_of_5 ⟨Nat.zero_le _, Nat.zero_le _⟩) hS (w_free (hDD s0 s1 h1 s2 h2 s3 s4 h4 s5 s6 s7 s8 s9 t9) hS hA hm_5) (fun H locs hP1 hk hS => ?_)
  have hP := w_joins (ws' := wX7o E a0 a1 a2 a3 a4 a5 a6 a7 a8 a9 s0 ++ (wX2 E a1 s1 h1 ++ (wX2 E a2 s2 h2 ++ (wX1 E a3 s3 ++ (wX2 E a4 s4 h4 ++ (wX1 E a5 s5 ++ (wX5 E a6 s6 ++ (wX3 E a7 s7 ++ (wX0 E a8 s8 ++ (wX6 E a9 s9 t9)))))))))) (wc := wX2 E a1 s1 h1) (wc' := wX2 E a1 s1 h1) hP (hDD s0 s1 h1 s2 h2 s3 s4 h4 s5 s6 s7 s8 s9 t9) [1, 2, 3, 4, 5, 6, 7] rfl [none, some 0, some 1, some 2, some 3, some 4, some 5, some 6, none, none, none, none, none, none, none, none, none, none, none, none, none, none, none, none, none, none, none, none, none, none, none, none, none, none, none, none, none, none, none, none, none, none, none, none, none, none, none, none, none, none] rfl rfl hk hP1
  refine lv_if_ne (tgt := 15) hx hb dX7_of_8 (by decide) (fun c_8 => ?_) (fun c_8 => ?_)
  · have hf := ite_f c_8 hf
    refine lv_iload_n hx hb dX7_of_15 rfl (lv_at hl 2 rfl) ?_
    by_cases c_16_0 : p2 = 0
    · have hf := ite_t c_16_0 hf
      refine lv_tableIn (off := 44) (tgt := 60) hx hb dX7_of_16 (by rw [c_16_0]; decide) (by rw [c_16_0]; decide) (by rw [c_16_0]; rfl) (by decide) ?_
      refine lv_aload_n hx hb dX7_of_60 rfl (lv_at hl 0 rfl) ?_
      refine va_get (ci := 7) (C := RX7) (T := TX7) (N := 11) (v := .ref (a1 0)) hx hb hts i_X7_of_X7 hown hK hP 0 rfl rfl 0 (by decide) (hts _ m_X7_of_265b14) (fun _ h9 => h9) rfl dX7_of_61 ?_
      refine va_getN (ci := 2) (C := RX2) (T := TX2) (N := 11) (v := .ref (a1 1)) hx hb hts i_X7_of_X2 hown hK hP 1 rfl rfl 1 (by decide) (nwG hG (w := .fieldLinkNest "PickedMatch" 78 "PickedMatch$Scene" "kinds" "[I" "PickedMatch") (by decide +kernel)) (fun _ h9 => h9) rfl dX7_of_64 ?_
      refine lv_iload_n hx hb dX7_of_67 rfl (lv_at hl 1 rfl) ?_
      obtain ⟨h_68, hf⟩ := ck_e hf
      refine va_iald (cA := E.2.1) (n := 6) (f := s1 1) hx hb hK hP 2 0 rfl rfl h_68 dX7_of_68 ?_
      have e9 := Option.some.inj hf
      have h9_0 : s1 = q.2 := congrArg (fun z => z.2) e9
      have hP9 : va_P E.1 vwCl ((wX7o E a0 a1 a2 a3 a4 a5 a6 a7 a8 a9 s0 ++ (wX2 E a1 q.2 h1 ++ (wX2 E a2 s2 h2 ++ (wX1 E a3 s3 ++ (wX2 E a4 s4 h4 ++ (wX1 E a5 s5 ++ (wX5 E a6 s6 ++ (wX3 E a7 s7 ++ (wX0 E a8 s8 ++ (wX6 E a9 s9 t9)))))))))) ++ sW E.2.1 L) H := by rw [← h9_0]; exact hP
      exact rt_i hx hb hr hlocks (fst_e e9) hP9 hS dX7_of_69
    · have hf := ite_f c_16_0 hf
      by_cases c_16_1 : p2 = 1
      · have hf := ite_t c_16_1 hf
        refine lv_tableIn (off := 54) (tgt := 70) hx hb dX7_of_16 (by rw [c_16_1]; decide) (by rw [c_16_1]; decide) (by rw [c_16_1]; rfl) (by decide) ?_
        refine lv_aload_n hx hb dX7_of_70 rfl (lv_at hl 0 rfl) ?_
        refine va_get (ci := 7) (C := RX7) (T := TX7) (N := 11) (v := .ref (a1 0)) hx hb hts i_X7_of_X7 hown hK hP 0 rfl rfl 0 (by decide) (hts _ m_X7_of_265b14) (fun _ h9 => h9) rfl dX7_of_71 ?_
        refine va_getN (ci := 2) (C := RX2) (T := TX2) (N := 11) (v := .ref (a1 2)) hx hb hts i_X7_of_X2 hown hK hP 1 rfl rfl 2 (by decide) (nwG hG (w := .fieldLinkNest "PickedMatch" 82 "PickedMatch$Scene" "numbers" "[I" "PickedMatch") (by decide +kernel)) (fun _ h9 => h9) rfl dX7_of_74 ?_
        refine lv_iload_n hx hb dX7_of_77 rfl (lv_at hl 1 rfl) ?_
        obtain ⟨h_78, hf⟩ := ck_e hf
        refine va_iald (cA := E.2.1) (n := 6) (f := s1 2) hx hb hK hP 3 0 rfl rfl h_78 dX7_of_78 ?_
        have e9 := Option.some.inj hf
        have h9_0 : s1 = q.2 := congrArg (fun z => z.2) e9
        have hP9 : va_P E.1 vwCl ((wX7o E a0 a1 a2 a3 a4 a5 a6 a7 a8 a9 s0 ++ (wX2 E a1 q.2 h1 ++ (wX2 E a2 s2 h2 ++ (wX1 E a3 s3 ++ (wX2 E a4 s4 h4 ++ (wX1 E a5 s5 ++ (wX5 E a6 s6 ++ (wX3 E a7 s7 ++ (wX0 E a8 s8 ++ (wX6 E a9 s9 t9)))))))))) ++ sW E.2.1 L) H := by rw [← h9_0]; exact hP
        exact rt_i hx hb hr hlocks (fst_e e9) hP9 hS dX7_of_79
      · have hf := ite_f c_16_1 hf
        by_cases c_16_2 : p2 = 2
        · have hf := ite_t c_16_2 hf
          refine lv_tableIn (off := 64) (tgt := 80) hx hb dX7_of_16 (by rw [c_16_2]; decide) (by rw [c_16_2]; decide) (by rw [c_16_2]; rfl) (by decide) ?_
          refine lv_aload_n hx hb dX7_of_80 rfl (lv_at hl 0 rfl) ?_
          refine va_get (ci := 7) (C := RX7) (T := TX7) (N := 11) (v := .ref (a1 0)) hx hb hts i_X7_of_X7 hown hK hP 0 rfl rfl 0 (by decide) (hts _ m_X7_of_265b14) (fun _ h9 => h9) rfl dX7_of_81 ?_
          refine va_getN (ci := 2) (C := RX2) (T := TX2) (N := 11) (v := .ref (a1 3)) hx hb hts i_X7_of_X2 hown hK hP 1 rfl rfl 3 (by decide) (nwG hG (w := .fieldLinkNest "PickedMatch" 85 "PickedMatch$Scene" "marks" "[I" "PickedMatch") (by decide +kernel)) (fun _ h9 => h9) rfl dX7_of_84 ?_
          refine lv_iload_n hx hb dX7_of_87 rfl (lv_at hl 1 rfl) ?_
          obtain ⟨h_88, hf⟩ := ck_e hf
          refine va_iald (cA := E.2.1) (n := 6) (f := s1 3) hx hb hK hP 4 0 rfl rfl h_88 dX7_of_88 ?_
          have e9 := Option.some.inj hf
          have h9_0 : s1 = q.2 := congrArg (fun z => z.2) e9
          have hP9 : va_P E.1 vwCl ((wX7o E a0 a1 a2 a3 a4 a5 a6 a7 a8 a9 s0 ++ (wX2 E a1 q.2 h1 ++ (wX2 E a2 s2 h2 ++ (wX1 E a3 s3 ++ (wX2 E a4 s4 h4 ++ (wX1 E a5 s5 ++ (wX5 E a6 s6 ++ (wX3 E a7 s7 ++ (wX0 E a8 s8 ++ (wX6 E a9 s9 t9)))))))))) ++ sW E.2.1 L) H := by rw [← h9_0]; exact hP
          exact rt_i hx hb hr hlocks (fst_e e9) hP9 hS dX7_of_89
        · have hf := ite_f c_16_2 hf
          by_cases c_16_3 : p2 = 3
          · have hf := ite_t c_16_3 hf
            refine lv_tableIn (off := 74) (tgt := 90) hx hb dX7_of_16 (by rw [c_16_3]; decide) (by rw [c_16_3]; decide) (by rw [c_16_3]; rfl) (by decide) ?_
            refine lv_aload_n hx hb dX7_of_90 rfl (lv_at hl 0 rfl) ?_
            refine va_get (ci := 7) (C := RX7) (T := TX7) (N := 11) (v := .ref (a1 0)) hx hb hts i_X7_of_X7 hown hK hP 0 rfl rfl 0 (by decide) (hts _ m_X7_of_265b14) (fun _ h9 => h9) rfl dX7_of_91 ?_
            refine lv_iload_n hx hb dX7_of_94 rfl (lv_at hl 1 rfl) ?_
            obtain ⟨q95, hc_95, hf⟩ := cl_e hf
            have hm_95 : ∀ q ∈ (wX2 E a1 s1 h1) ++ sW E.2.1 L, q ∈ (wX7o E a0 a1 a2 a3 a4 a5 a6 a7 a8 a9 s0 ++ (wX2 E a1 s1 h1 ++ (wX2 E a2 s2 h2 ++ (wX1 E a3 s3 ++ (wX2 E a4 s4 h4 ++ (wX1 E a5 s5 ++ (wX5 E a6 s6 ++ (wX3 E a7 s7 ++ (wX0 E a8 s8 ++ (wX6 E a9 s9 t9)))))))))) ++ sW E.2.1 L := (app_mem (sub_mem (suf := []) [1, 2, 3, 4, 5, 6, 7] rfl))
            refine fin_i (E := E) (wc := (wX2 E a1 s1 h1) ++ sW E.2.1 L) (wc' := (wX2 E a1 s1 h1) ++ sW E.2.1 L) (va_runVN (As := [.int p1]) (rest := []) ⟨hx, hb, hml, hown, hts⟩ (k_X2_placeInHad l E a1 L N s1 h1 p1 q95 hc_95 _) ⟨va_cnB 1 hts gX7_of_X2_placeInHad_n88 rfl rfl rfl (hG.1 (.methodLinkNest "PickedMatch" 88 yX2_placeInHad "PickedMatch") (by decide +kernel)) (hts _ m_X7_of_4cf9d8) (by decide +kernel) ⟨(Nat.le_of_ble_eq_true rfl), (Nat.le_of_ble_eq_true rfl)⟩, (hts _ m_X7_of_b9a53b), (hts _ m_X7_of_a6c035)⟩ (pre_v (ci := 2) (q0 := 0) hK (sub_P hm_95 hP) (sub_Ds (ws := wX7o E a0 a1 a2 a3 a4 a5 a6 a7 a8 a9 s0 ++ (wX2 E a1 s1 h1 ++ (wX2 E a2 s2 h2 ++ (wX1 E a3 s3 ++ (wX2 E a4 s4 h4 ++ (wX1 E a5 s5 ++ (wX5 E a6 s6 ++ (wX3 E a7 s7 ++ (wX0 E a8 s8 ++ (wX6 E a9 s9 t9)))))))))) (wc := wX2 E a1 s1 h1) (suf := sW E.2.1 L) [1, 2, 3, 4, 5, 6, 7] (by decide) rfl (hDD s0 s1 h1 s2 h2 s3 s4 h4 s5 s6 s7 s8 s9 t9)) hS hG hAB rfl rfl) rfl rfl hl.1 rfl (lv_room (Nat.le_of_ble_eq_true rfl)) dX7_of_95 ⟨Nat.zero_le _, Nat.zero_le _⟩) hS (w_free (hDD s0 s1 h1 s2 h2 s3 s4 h4 s5 s6 s7 s8 s9 t9) hS hA hm_95) (fun H locs hP1 hk hS => ?_)
            have hP := w_joins (ws' := wX7o E a0 a1 a2 a3 a4 a5 a6 a7 a8 a9 s0 ++ (wX2 E a1 s1 h1 ++ (wX2 E a2 s2 h2 ++ (wX1 E a3 s3 ++ (wX2 E a4 s4 h4 ++ (wX1 E a5 s5 ++ (wX5 E a6 s6 ++ (wX3 E a7 s7 ++ (wX0 E a8 s8 ++ (wX6 E a9 s9 t9)))))))))) (wc := wX2 E a1 s1 h1) (wc' := wX2 E a1 s1 h1) hP (hDD s0 s1 h1 s2 h2 s3 s4 h4 s5 s6 s7 s8 s9 t9) [1, 2, 3, 4, 5, 6, 7] rfl [none, some 0, some 1, some 2, some 3, some 4, some 5, some 6, none, none, none, none, none, none, none, none, none, none, none, none, none, none, none, none, none, none, none, none, none, none, none, none, none, none, none, none, none, none, none, none, none, none, none, none, none, none, none, none, none, none] rfl rfl hk hP1
            have e9 := Option.some.inj hf
            have h9_0 : s1 = q.2 := congrArg (fun z => z.2) e9
            have hP9 : va_P E.1 vwCl ((wX7o E a0 a1 a2 a3 a4 a5 a6 a7 a8 a9 s0 ++ (wX2 E a1 q.2 h1 ++ (wX2 E a2 s2 h2 ++ (wX1 E a3 s3 ++ (wX2 E a4 s4 h4 ++ (wX1 E a5 s5 ++ (wX5 E a6 s6 ++ (wX3 E a7 s7 ++ (wX0 E a8 s8 ++ (wX6 E a9 s9 t9)))))))))) ++ sW E.2.1 L) H := by rw [← h9_0]; exact hP
            exact rt_i hx hb hr hlocks (fst_e e9) hP9 hS dX7_of_98
          · have hf := ite_f c_16_3 hf
            by_cases c_16_4 : p2 = 4
            · have hf := ite_t c_16_4 hf
              refine lv_tableIn (off := 83) (tgt := 99) hx hb dX7_of_16 (by rw [c_16_4]; decide) (by rw [c_16_4]; decide) (by rw [c_16_4]; rfl) (by decide) ?_
              refine lv_aload_n hx hb dX7_of_99 rfl (lv_at hl 0 rfl) ?_
              refine va_get (ci := 7) (C := RX7) (T := TX7) (N := 11) (v := .ref (a1 0)) hx hb hts i_X7_of_X7 hown hK hP 0 rfl rfl 0 (by decide) (hts _ m_X7_of_265b14) (fun _ h9 => h9) rfl dX7_of_100 ?_
              refine lv_iload_n hx hb dX7_of_103 rfl (lv_at hl 1 rfl) ?_
              obtain ⟨q104, hc_104, hf⟩ := cl_e hf
              have hm_104 : ∀ q ∈ (wX2 E a1 s1 h1) ++ sW E.2.1 L, q ∈ (wX7o E a0 a1 a2 a3 a4 a5 a6 a7 a8 a9 s0 ++ (wX2 E a1 s1 h1 ++ (wX2 E a2 s2 h2 ++ (wX1 E a3 s3 ++ (wX2 E a4 s4 h4 ++ (wX1 E a5 s5 ++ (wX5 E a6 s6 ++ (wX3 E a7 s7 ++ (wX0 E a8 s8 ++ (wX6 E a9 s9 t9)))))))))) ++ sW E.2.1 L := (app_mem (sub_mem (suf := []) [1, 2, 3, 4, 5, 6, 7] rfl))
              refine fin_i (E := E) (wc := (wX2 E a1 s1 h1) ++ sW E.2.1 L) (wc' := (wX2 E a1 q104.2 h1) ++ sW E.2.1 L) (va_runVN (As := [.int p1]) (rest := []) ⟨hx, hb, hml, hown, hts⟩ (k_X2_tasteOf l E a1 L N s1 h1 p1 q104 hc_104 _) ⟨va_cnB 1 hts gX7_of_X2_tasteOf_n92 rfl rfl rfl (hG.1 (.methodLinkNest "PickedMatch" 92 yX2_tasteOf "PickedMatch") (by decide +kernel)) (hts _ m_X7_of_4cf9d8) (by decide +kernel) ⟨(Nat.le_of_ble_eq_true rfl), (Nat.le_of_ble_eq_true rfl)⟩, (hts _ m_X7_of_190a7f), (hts _ m_X7_of_65fa63)⟩ (pre_v (ci := 2) (q0 := 0) hK (sub_P hm_104 hP) (sub_Ds (ws := wX7o E a0 a1 a2 a3 a4 a5 a6 a7 a8 a9 s0 ++ (wX2 E a1 s1 h1 ++ (wX2 E a2 s2 h2 ++ (wX1 E a3 s3 ++ (wX2 E a4 s4 h4 ++ (wX1 E a5 s5 ++ (wX5 E a6 s6 ++ (wX3 E a7 s7 ++ (wX0 E a8 s8 ++ (wX6 E a9 s9 t9)))))))))) (wc := wX2 E a1 s1 h1) (suf := sW E.2.1 L) [1, 2, 3, 4, 5, 6, 7] (by decide) rfl (hDD s0 s1 h1 s2 h2 s3 s4 h4 s5 s6 s7 s8 s9 t9)) hS hG hAB rfl rfl) rfl rfl hl.1 rfl (lv_room (Nat.le_of_ble_eq_true rfl)) dX7_of_104 ⟨Nat.zero_le _, Nat.zero_le _⟩) hS (w_free (hDD s0 s1 h1 s2 h2 s3 s4 h4 s5 s6 s7 s8 s9 t9) hS hA hm_104) (fun H locs hP1 hk hS => ?_)
              have hP := w_joins (ws' := wX7o E a0 a1 a2 a3 a4 a5 a6 a7 a8 a9 s0 ++ (wX2 E a1 q104.2 h1 ++ (wX2 E a2 s2 h2 ++ (wX1 E a3 s3 ++ (wX2 E a4 s4 h4 ++ (wX1 E a5 s5 ++ (wX5 E a6 s6 ++ (wX3 E a7 s7 ++ (wX0 E a8 s8 ++ (wX6 E a9 s9 t9)))))))))) (wc := wX2 E a1 s1 h1) (wc' := wX2 E a1 q104.2 h1) hP (hDD s0 s1 h1 s2 h2 s3 s4 h4 s5 s6 s7 s8 s9 t9) [1, 2, 3, 4, 5, 6, 7] rfl [none, some 0, some 1, some 2, some 3, some 4, some 5, some 6, none, none, none, none, none, none, none, none, none, none, none, none, none, none, none, none, none, none, none, none, none, none, none, none, none, none, none, none, none, none, none, none, none, none, none, none, none, none, none, none, none, none] rfl rfl hk hP1
              have e9 := Option.some.inj hf
              have h9_0 : q104.2 = q.2 := congrArg (fun z => z.2) e9
              have hP9 : va_P E.1 vwCl ((wX7o E a0 a1 a2 a3 a4 a5 a6 a7 a8 a9 s0 ++ (wX2 E a1 q.2 h1 ++ (wX2 E a2 s2 h2 ++ (wX1 E a3 s3 ++ (wX2 E a4 s4 h4 ++ (wX1 E a5 s5 ++ (wX5 E a6 s6 ++ (wX3 E a7 s7 ++ (wX0 E a8 s8 ++ (wX6 E a9 s9 t9)))))))))) ++ sW E.2.1 L) H := by rw [← h9_0]; exact hP
              exact rt_i hx hb hr hlocks (fst_e e9) hP9 hS dX7_of_107
            · have hf := ite_f c_16_4 hf
              by_cases c_16_5 : p2 = 5
              · have hf := ite_t c_16_5 hf
                refine lv_tableIn (off := 92) (tgt := 108) hx hb dX7_of_16 (by rw [c_16_5]; decide) (by rw [c_16_5]; decide) (by rw [c_16_5]; rfl) (by decide) ?_
                refine lv_aload_n hx hb dX7_of_108 rfl (lv_at hl 0 rfl) ?_
                refine va_get (ci := 7) (C := RX7) (T := TX7) (N := 11) (v := .ref (a1 0)) hx hb hts i_X7_of_X7 hown hK hP 0 rfl rfl 0 (by decide) (hts _ m_X7_of_265b14) (fun _ h9 => h9) rfl dX7_of_109 ?_
                refine lv_iload_n hx hb dX7_of_112 rfl (lv_at hl 1 rfl) ?_
                obtain ⟨q113, hc_113, hf⟩ := cl_e hf
                have hm_113 : ∀ q ∈ (wX2 E a1 s1 h1) ++ sW E.2.1 L, q ∈ (wX7o E a0 a1 a2 a3 a4 a5 a6 a7 a8 a9 s0 ++ (wX2 E a1 s1 h1 ++ (wX2 E a2 s2 h2 ++ (wX1 E a3 s3 ++ (wX2 E a4 s4 h4 ++ (wX1 E a5 s5 ++ (wX5 E a6 s6 ++ (wX3 E a7 s7 ++ (wX0 E a8 s8 ++ (wX6 E a9 s9 t9)))))))))) ++ sW E.2.1 L := (app_mem (sub_mem (suf := []) [1, 2, 3, 4, 5, 6, 7] rfl))
                refine fin_i (E := E) (wc := (wX2 E a1 s1 h1) ++ sW E.2.1 L) (wc' := (wX2 E a1 s1 h1) ++ sW E.2.1 L) (va_runVN (As := [.int p1]) (rest := []) ⟨hx, hb, hml, hown, hts⟩ (k_X2_alikeOf l E a1 L N s1 h1 p1 q113 hc_113 _) ⟨va_cnB 1 hts gX7_of_X2_alikeOf_n95 rfl rfl rfl (hG.1 (.methodLinkNest "PickedMatch" 95 yX2_alikeOf "PickedMatch") (by decide +kernel)) (hts _ m_X7_of_4cf9d8) (by decide +kernel) ⟨(Nat.le_of_ble_eq_true rfl), (Nat.le_of_ble_eq_true rfl)⟩, (hts _ m_X7_of_9a2aa6), (hts _ m_X7_of_12d1d9)⟩ (pre_v (ci := 2) (q0 := 0) hK (sub_P hm_113 hP) (sub_Ds (ws := wX7o E a0 a1 a2 a3 a4 a5 a6 a7 a8 a9 s0 ++ (wX2 E a1 s1 h1 ++ (wX2 E a2 s2 h2 ++ (wX1 E a3 s3 ++ (wX2 E a4 s4 h4 ++ (wX1 E a5 s5 ++ (wX5 E a6 s6 ++ (wX3 E a7 s7 ++ (wX0 E a8 s8 ++ (wX6 E a9 s9 t9)))))))))) (wc := wX2 E a1 s1 h1) (suf := sW E.2.1 L) [1, 2, 3, 4, 5, 6, 7] (by decide) rfl (hDD s0 s1 h1 s2 h2 s3 s4 h4 s5 s6 s7 s8 s9 t9)) hS hG hAB rfl rfl) rfl rfl hl.1 rfl (lv_room (Nat.le_of_ble_eq_true rfl)) dX7_of_113 ⟨Nat.zero_le _, Nat.zero_le _⟩) hS (w_free (hDD s0 s1 h1 s2 h2 s3 s4 h4 s5 s6 s7 s8 s9 t9) hS hA hm_113) (fun H locs hP1 hk hS => ?_)
                have hP := w_joins (ws' := wX7o E a0 a1 a2 a3 a4 a5 a6 a7 a8 a9 s0 ++ (wX2 E a1 s1 h1 ++ (wX2 E a2 s2 h2 ++ (wX1 E a3 s3 ++ (wX2 E a4 s4 h4 ++ (wX1 E a5 s5 ++ (wX5 E a6 s6 ++ (wX3 E a7 s7 ++ (wX0 E a8 s8 ++ (wX6 E a9 s9 t9)))))))))) (wc := wX2 E a1 s1 h1) (wc' := wX2 E a1 s1 h1) hP (hDD s0 s1 h1 s2 h2 s3 s4 h4 s5 s6 s7 s8 s9 t9) [1, 2, 3, 4, 5, 6, 7] rfl [none, some 0, some 1, some 2, some 3, some 4, some 5, some 6, none, none, none, none, none, none, none, none, none, none, none, none, none, none, none, none, none, none, none, none, none, none, none, none, none, none, none, none, none, none, none, none, none, none, none, none, none, none, none, none, none, none] rfl rfl hk hP1
                have e9 := Option.some.inj hf
                have h9_0 : s1 = q.2 := congrArg (fun z => z.2) e9
                have hP9 : va_P E.1 vwCl ((wX7o E a0 a1 a2 a3 a4 a5 a6 a7 a8 a9 s0 ++ (wX2 E a1 q.2 h1 ++ (wX2 E a2 s2 h2 ++ (wX1 E a3 s3 ++ (wX2 E a4 s4 h4 ++ (wX1 E a5 s5 ++ (wX5 E a6 s6 ++ (wX3 E a7 s7 ++ (wX0 E a8 s8 ++ (wX6 E a9 s9 t9)))))))))) ++ sW E.2.1 L) H := by rw [← h9_0]; exact hP
                exact rt_i hx hb hr hlocks (fst_e e9) hP9 hS dX7_of_116
              · have hf := ite_f c_16_5 hf
                by_cases c_16_6 : p2 = 6
                · have hf := ite_t c_16_6 hf
                  refine lv_tableIn (off := 101) (tgt := 117) hx hb dX7_of_16 (by rw [c_16_6]; decide) (by rw [c_16_6]; decide) (by rw [c_16_6]; rfl) (by decide) ?_
                  refine lv_aload_n hx hb dX7_of_117 rfl (lv_at hl 0 rfl) ?_
                  refine va_get (ci := 7) (C := RX7) (T := TX7) (N := 11) (v := .ref (a1 0)) hx hb hts i_X7_of_X7 hown hK hP 0 rfl rfl 0 (by decide) (hts _ m_X7_of_265b14) (fun _ h9 => h9) rfl dX7_of_118 ?_
                  refine lv_iload_n hx hb dX7_of_121 rfl (lv_at hl 1 rfl) ?_
                  obtain ⟨q122, hc_122, hf⟩ := cl_e hf
                  have hm_122 : ∀ q ∈ (wX2 E a1 s1 h1) ++ sW E.2.1 L, q ∈ (wX7o E a0 a1 a2 a3 a4 a5 a6 a7 a8 a9 s0 ++ (wX2 E a1 s1 h1 ++ (wX2 E a2 s2 h2 ++ (wX1 E a3 s3 ++ (wX2 E a4 s4 h4 ++ (wX1 E a5 s5 ++ (wX5 E a6 s6 ++ (wX3 E a7 s7 ++ (wX0 E a8 s8 ++ (wX6 E a9 s9 t9)))))))))) ++ sW E.2.1 L := (app_mem (sub_mem (suf := []) [1, 2, 3, 4, 5, 6, 7] rfl))
                  refine fin_i (E := E) (wc := (wX2 E a1 s1 h1) ++ sW E.2.1 L) (wc' := (wX2 E a1 q122.2 h1) ++ sW E.2.1 L) (va_runVN (As := [.int p1]) (rest := []) ⟨hx, hb, hml, hown, hts⟩ (k_X2_goesNow l E a1 L N s1 h1 p1 q122 hc_122 _) ⟨va_cnB 1 hts gX7_of_X2_goesNow_n98 rfl rfl rfl (hG.1 (.methodLinkNest "PickedMatch" 98 yX2_goesNow "PickedMatch") (by decide +kernel)) (hts _ m_X7_of_4cf9d8) (by decide +kernel) ⟨(Nat.le_of_ble_eq_true rfl), (Nat.le_of_ble_eq_true rfl)⟩, (hts _ m_X7_of_e42de2), (hts _ m_X7_of_678d5f)⟩ (pre_v (ci := 2) (q0 := 0) hK (sub_P hm_122 hP) (sub_Ds (ws := wX7o E a0 a1 a2 a3 a4 a5 a6 a7 a8 a9 s0 ++ (wX2 E a1 s1 h1 ++ (wX2 E a2 s2 h2 ++ (wX1 E a3 s3 ++ (wX2 E a4 s4 h4 ++ (wX1 E a5 s5 ++ (wX5 E a6 s6 ++ (wX3 E a7 s7 ++ (wX0 E a8 s8 ++ (wX6 E a9 s9 t9)))))))))) (wc := wX2 E a1 s1 h1) (suf := sW E.2.1 L) [1, 2, 3, 4, 5, 6, 7] (by decide) rfl (hDD s0 s1 h1 s2 h2 s3 s4 h4 s5 s6 s7 s8 s9 t9)) hS hG hAB rfl rfl) rfl rfl hl.1 rfl (lv_room (Nat.le_of_ble_eq_true rfl)) dX7_of_122 ⟨Nat.zero_le _, Nat.zero_le _⟩) hS (w_free (hDD s0 s1 h1 s2 h2 s3 s4 h4 s5 s6 s7 s8 s9 t9) hS hA hm_122) (fun H locs hP1 hk hS => ?_)
                  have hP := w_joins (ws' := wX7o E a0 a1 a2 a3 a4 a5 a6 a7 a8 a9 s0 ++ (wX2 E a1 q122.2 h1 ++ (wX2 E a2 s2 h2 ++ (wX1 E a3 s3 ++ (wX2 E a4 s4 h4 ++ (wX1 E a5 s5 ++ (wX5 E a6 s6 ++ (wX3 E a7 s7 ++ (wX0 E a8 s8 ++ (wX6 E a9 s9 t9)))))))))) (wc := wX2 E a1 s1 h1) (wc' := wX2 E a1 q122.2 h1) hP (hDD s0 s1 h1 s2 h2 s3 s4 h4 s5 s6 s7 s8 s9 t9) [1, 2, 3, 4, 5, 6, 7] rfl [none, some 0, some 1, some 2, some 3, some 4, some 5, some 6, none, none, none, none, none, none, none, none, none, none, none, none, none, none, none, none, none, none, none, none, none, none, none, none, none, none, none, none, none, none, none, none, none, none, none, none, none, none, none, none, none, none] rfl rfl hk hP1
                  refine lv_if_eq (tgt := 132) hx hb dX7_of_125 (by decide) (fun c_125 => ?_) (fun c_125 => ?_)
                  · have hf := ite_t c_125 hf
                    refine lv_iconst (v := 0) hx hb dX7_of_132 (by decide) ?_
                    have e9 := Option.some.inj hf
                    have h9_0 : q122.2 = q.2 := congrArg (fun z => z.2) e9
                    have hP9 : va_P E.1 vwCl ((wX7o E a0 a1 a2 a3 a4 a5 a6 a7 a8 a9 s0 ++ (wX2 E a1 q.2 h1 ++ (wX2 E a2 s2 h2 ++ (wX1 E a3 s3 ++ (wX2 E a4 s4 h4 ++ (wX1 E a5 s5 ++ (wX5 E a6 s6 ++ (wX3 E a7 s7 ++ (wX0 E a8 s8 ++ (wX6 E a9 s9 t9)))))))))) ++ sW E.2.1 L) H := by rw [← h9_0]; exact hP
                    exact rt_i hx hb hr hlocks (fst_e e9) hP9 hS dX7_of_133
                  · have hf := ite_f c_125 hf
                    refine lv_iconst (v := 1) hx hb dX7_of_128 (by decide) ?_
                    refine lv_goto (tgt := 133) hx hb dX7_of_129 (by decide) ?_
                    have e9 := Option.some.inj hf
                    have h9_0 : q122.2 = q.2 := congrArg (fun z => z.2) e9
                    have hP9 : va_P E.1 vwCl ((wX7o E a0 a1 a2 a3 a4 a5 a6 a7 a8 a9 s0 ++ (wX2 E a1 q.2 h1 ++ (wX2 E a2 s2 h2 ++ (wX1 E a3 s3 ++ (wX2 E a4 s4 h4 ++ (wX1 E a5 s5 ++ (wX5 E a6 s6 ++ (wX3 E a7 s7 ++ (wX0 E a8 s8 ++ (wX6 E a9 s9 t9)))))))))) ++ sW E.2.1 L) H := by rw [← h9_0]; exact hP
                    exact rt_i hx hb hr hlocks (fst_e e9) hP9 hS dX7_of_133
                · have hf := ite_f c_16_6 hf
                  refine lv_tableOut (tgt := 134) hx hb dX7_of_16 (by have n0 := lv_neT (a := 0) c_16_0 (by decide); have n1 := lv_neT (a := 1) c_16_1 (by decide); have n2 := lv_neT (a := 2) c_16_2 (by decide); have n3 := lv_neT (a := 3) c_16_3 (by decide); have n4 := lv_neT (a := 4) c_16_4 (by decide); have n5 := lv_neT (a := 5) c_16_5 (by decide); have n6 := lv_neT (a := 6) c_16_6 (by decide); omega) (by decide) ?_
                  refine lv_sipush (v := (-1001)) hx hb dX7_of_134 (by decide) ?_
                  have e9 := Option.some.inj hf
                  have h9_0 : s1 = q.2 := congrArg (fun z => z.2) e9
                  have hP9 : va_P E.1 vwCl ((wX7o E a0 a1 a2 a3 a4 a5 a6 a7 a8 a9 s0 ++ (wX2 E a1 q.2 h1 ++ (wX2 E a2 s2 h2 ++ (wX1 E a3 s3 ++ (wX2 E a4 s4 h4 ++ (wX1 E a5 s5 ++ (wX5 E a6 s6 ++ (wX3 E a7 s7 ++ (wX0 E a8 s8 ++ (wX6 E a9 s9 t9)))))))))) ++ sW E.2.1 L) H := by rw [← h9_0]; exact hP
                  exact rt_i hx hb hr hlocks (fst_e e9) hP9 hS dX7_of_137
  · have hf := ite_t c_8 hf
    refine lv_sipush (v := (-1001)) hx hb dX7_of_11 (by decide) ?_
    have e9 := Option.some.inj hf
    have h9_0 : s1 = q.2 := congrArg (fun z => z.2) e9
    have hP9 : va_P E.1 vwCl ((wX7o E a0 a1 a2 a3 a4 a5 a6 a7 a8 a9 s0 ++ (wX2 E a1 q.2 h1 ++ (wX2 E a2 s2 h2 ++ (wX1 E a3 s3 ++ (wX2 E a4 s4 h4 ++ (wX1 E a5 s5 ++ (wX5 E a6 s6 ++ (wX3 E a7 s7 ++ (wX0 E a8 s8 ++ (wX6 E a9 s9 t9)))))))))) ++ sW E.2.1 L) H := by rw [← h9_0]; exact hP
    exact rt_i hx hb hr hlocks (fst_e e9) hP9 hS dX7_of_14
abbrev rm_X7_mark : Room := { frames := 1, cells := 0, slots := 0, locals := 22 }
theorem m_X7_mark_265b14 : Cond.fieldLink RX7 12 "PickedMatch" "scene" "LPickedMatch$Scene;" ∈ wsX7_mark := by decide +kernel
theorem i_X7_mark_X7 : ∀ w ∈ wsX70, w ∈ wsX7_mark := fun _ h => List.mem_cons_of_mem _ (List.mem_append_left _ (List.mem_append_right _ h))
theorem m_X7_mark_4cf9d8 : Cond.initialized RX2 ∈ wsX7_mark := by decide +kernel
theorem m_X7_mark_0211d8 : Cond.instanceMethod yX2_hasThing ∈ wsX7_mark := by decide +kernel
theorem m_X7_mark_6099ba : Cond.selects RX2 yX2_hasThing yX2_hasThing ∈ wsX7_mark := by decide +kernel
theorem i_X7_mark_X2 : ∀ w ∈ wsX20, w ∈ wsX7_mark := fun _ h => List.mem_cons_of_mem _ (List.mem_append_right _ h)
set_option maxHeartbeats 8000000 in
set_option maxRecDepth 100000 in
theorem k_X7_mark (l : Launch) (E : Ev) (a0 : Nat → Nat) (a1 : Nat → Nat) (a2 : Nat → Nat) (a3 : Nat → Nat) (a4 : Nat → Nat) (a5 : Nat → Nat) (a6 : Nat → Nat) (a7 : Nat → Nat) (a8 : Nat → Nat) (a9 : Nat → Nat) (L : List SR) (N : Nat) (s0 : St) (s1 : St) (h1 : Option SR) (s2 : St) (h2 : Option SR) (s3 : St) (s4 : St) (h4 : Option SR) (s5 : St) (s6 : St) (s7 : St) (s8 : St) (s9 : St) (t9 : Nat → Nat → Int64) (p1 : Int32) (p2 : Int32) (q : (Int32 × St)) (hf : f_X7_mark N s1 p1 p2 = some q) : Ci l yX7_mark wsX7_mark rm_X7_mark E [.ref (a0 0), .int p1, .int p2] ((wX7o E a0 a1 a2 a3 a4 a5 a6 a7 a8 a9 s0 ++ (wX2 E a1 s1 h1 ++ (wX2 E a2 s2 h2 ++ (wX1 E a3 s3 ++ (wX2 E a4 s4 h4 ++ (wX1 E a5 s5 ++ (wX5 E a6 s6 ++ (wX3 E a7 s7 ++ (wX0 E a8 s8 ++ (wX6 E a9 s9 t9)))))))))) ++ sW E.2.1 L) ((wX7o E a0 a1 a2 a3 a4 a5 a6 a7 a8 a9 s0 ++ (wX2 E a1 q.2 h1 ++ (wX2 E a2 s2 h2 ++ (wX1 E a3 s3 ++ (wX2 E a4 s4 h4 ++ (wX1 E a5 s5 ++ (wX5 E a6 s6 ++ (wX3 E a7 s7 ++ (wX0 E a8 s8 ++ (wX6 E a9 s9 t9)))))))))) ++ sW E.2.1 L) q.1 := by
  unfold f_X7_mark at hf
  intro sz
  refine Met.ofW (cc := cX7_mark) (maxL := 4) (ret := (some .int)) (by decide) rfl ?_
  intro p e s m args below meth c s₁ B hml hpre
  obtain ⟨rfl, hsz, hP, hK, hD0, hG, hA, hAB⟩ := start hpre
  have hx := B.exec
  have hb := B.bytes
  have hr := B.returns
  have hts := atoms_spec (ws := wsX7_mark) B.pre
  have hown : s.vm.findClass RX7 = some m.cls := findClass_of_methodNamed B.named
  have hlocks := B.notSynchronized
  subst hsz
  generalize va_A ((wX7o E a0 a1 a2 a3 a4 a5 a6 a7 a8 a9 s0 ++ (wX2 E a1 s1 h1 ++ (wX2 E a2 s2 h2 ++ (wX1 E a3 s3 ++ (wX2 E a4 s4 h4 ++ (wX1 E a5 s5 ++ (wX5 E a6 s6 ++ (wX3 E a7 s7 ++ (wX0 E a8 s8 ++ (wX6 E a9 s9 t9)))))))))) ++ sW E.2.1 L) s.heap.size = A0 at hD0 hA hAB ⊢
  have hDD : ∀ (s0 : St) (s1 : St) (h1 : Option SR) (s2 : St) (h2 : Option SR) (s3 : St) (s4 : St) (h4 : Option SR) (s5 : St) (s6 : St) (s7 : St) (s8 : St) (s9 : St) (t9 : Nat → Nat → Int64), va_D A0 ((wX7o E a0 a1 a2 a3 a4 a5 a6 a7 a8 a9 s0 ++ (wX2 E a1 s1 h1 ++ (wX2 E a2 s2 h2 ++ (wX1 E a3 s3 ++ (wX2 E a4 s4 h4 ++ (wX1 E a5 s5 ++ (wX5 E a6 s6 ++ (wX3 E a7 s7 ++ (wX0 E a8 s8 ++ (wX6 E a9 s9 t9)))))))))) ++ sW E.2.1 L) := fun s0 s1 h1 s2 h2 s3 s4 h4 s5 s6 s7 s8 s9 t9 => vD_addr hD0 rfl
  have hS : va_S A0 s.heap s.heap [] := va_S.rf
  have hl := lv_entry ([.ref (a0 0), .int p1, .int p2]) (n := 4) (Nat.le_of_ble_eq_true rfl)
  rw [lg_entry_eq]
  generalize (lg_sl ([.ref (a0 0), .int p1, .int p2]) ++ List.replicate (4 - (lg_sl ([.ref (a0 0), .int p1, .int p2])).length) Slot.unset).toArray = ls at hl ⊢
  have hl : lv_has ls 4 [(0, .ref (a0 0)), (1, .int p1), (2, .int p2)] := hl
  refine lv_aload_n hx hb dX7_mark_0 rfl (lv_at hl 0 rfl) ?_
  refine va_get (ci := 7) (C := RX7) (T := TX7) (N := 11) (v := .ref (a1 0)) hx hb hts i_X7_mark_X7 hown hK hP 0 rfl rfl 0 (by decide) (hts _ m_X7_mark_265b14) (fun _ h9 => h9) rfl dX7_mark_1 ?_
  refine lv_iload_n hx hb dX7_mark_4 rfl (lv_at hl 1 rfl) ?_
  obtain ⟨q5, hc_5, hf⟩ := cl_e hf
  have hm_5 : ∀ q ∈ (wX2 E a1 s1 h1) ++ sW E.2.1 L, q ∈ (wX7o E a0 a1 a2 a3 a4 a5 a6 a7 a8 a9 s0 ++ (wX2 E a1 s1 h1 ++ (wX2 E a2 s2 h2 ++ (wX1 E a3 s3 ++ (wX2 E a4 s4 h4 ++ (wX1 E a5 s5 ++ (wX5 E a6 s6 ++ (wX3 E a7 s7 ++ (wX0 E a8 s8 ++ (wX6 E a9 s9 t9)))))))))) ++ sW E.2.1 L := (app_mem (sub_mem (suf := []) [1, 2, 3, 4, 5, 6, 7] rfl))
  refine fin_i (E := E) (wc := (wX2 E a1 s1 h1) ++ sW E.2.1 L) (wc' := (wX2 E a1 s1 h1) ++ sW E.2.1 L) (va_runVN (As := [.int p1]) (rest := []) ⟨hx, hb, hml, hown, hts⟩ (k_X2_hasThing l E a1 L N s1 h1 p1 q5 hc_5 _) ⟨va_cnB 1 hts gX7_mark_X2_hasThing_n74 rfl rfl rfl (hG.1 (.methodLinkNest "PickedMatch" 74 yX2_hasThing "PickedMatch") (by decide +kernel)) (hts _ m_X7_mark_4cf9d8) (by decide +kernel) ⟨(Nat.le_of_ble_eq_true rfl), (Nat.le_of_ble_eq_true rfl)⟩, (hts _ m_X7_mark_0211d8), (hts _ m_X7_mark_6099ba)⟩ (pre_v (ci := 2) (q0 := 0) hK (sub_P hm_5 hP) (sub_Ds (ws := wX7o E a0 a1 a2 a3 a4 a5 a6 a7 a8 a9 s0 ++ (wX2 E a1 s1 h1 ++ (wX2 E a2 s2 h2 ++ (wX1 E a3 s3 ++ (wX2 E a4 s4 h4 ++ (wX1 E a5 s5 ++ (wX5 E a6 s6 ++ (wX3 E a7 s7 ++ (wX0 E a8 s8 ++ (wX6 E a9 s9 t9)))))))))) (wc := wX2 E a1 s1 h1) (suf := sW E.2.1 L) [1, 2, 3, 4, 5, 6, 7] (by decide) rfl (hDD s0 s1 h1 s2 h2 s3 s4 h4 s5 s6 s7 s8 s9 t9)) hS hG hAB rfl rfl) rfl rfl hl.1 rfl (lv_room (Nat.le_of_ble_eq_true rfl)) dX7_mark_5 ⟨Nat.zero_le _, Nat.zero_le _⟩) hS (w_free (hDD s0 s1 h1 s2 h2 s3 s4 h4 s5 s6 s7 s8 s9 t9) hS hA hm_5) (fun H locs hP1 hk hS => ?_)
  have hP := w_joins (ws' := wX7o E a0 a1 a2 a3 a4 a5 a6 a7 a8 a9 s0 ++ (wX2 E a1 s1 h1 ++ (wX2 E a2 s2 h2 ++ (wX1 E a3 s3 ++ (wX2 E a4 s4 h4 ++ (wX1 E a5 s5 ++ (wX5 E a6 s6 ++ (wX3 E a7 s7 ++ (wX0 E a8 s8 ++ (wX6 E a9 s9 t9)))))))))) (wc := wX2 E a1 s1 h1) (wc' := wX2 E a1 s1 h1) hP (hDD s0 s1 h1 s2 h2 s3 s4 h4 s5 s6 s7 s8 s9 t9) [1, 2, 3, 4, 5, 6, 7] rfl [none, some 0, some 1, some 2, some 3, some 4, some 5, some 6, none, none, none, none, none, none, none, none, none, none, none, none, none, none, none, none, none, none, none, none, none, none, none, none, none, none, none, none, none, none, none, none, none, none, none, none, none, none, none, none, none, none] rfl rfl hk hP1
  refine lv_if_ne (tgt := 13) hx hb dX7_mark_8 (by decide) (fun c_8 => ?_) (fun c_8 => ?_)
  · have hf := ite_f c_8 hf
    refine lv_iload_n hx hb dX7_mark_13 rfl (lv_at hl 2 rfl) ?_
    refine lv_iconst (v := 0) hx hb dX7_mark_14 (by decide) ?_
    refine lv_sipush (v := 255) hx hb dX7_mark_15 (by decide) ?_
    obtain ⟨q18, hc_18, hf⟩ := cl_e hf
    refine fin_i (E := E) (wc := ([] : va_W)) (wc' := ([] : va_W)) (va_runS (As := [.int p2, .int 0, .int 255]) (rest := []) ⟨hx, hb, hml, hown, hts⟩ (k_X7_isWithin l E N p2 0 255 q18 hc_18 _) (va_cwS 3 hts gX7_mark_X7_isWithin rfl rfl rfl (by decide +kernel) ⟨(Nat.le_of_ble_eq_true rfl), (Nat.le_of_ble_eq_true rfl)⟩) (pre_s hK va_P_nil va_D_nil hS hG hAB) rfl rfl hl.1 rfl (lv_room (Nat.le_of_ble_eq_true rfl)) dX7_mark_18 ⟨Nat.zero_le _, Nat.zero_le _⟩) hS (free_nil hS hA) (fun H locs hP1 hk hS => ?_)
    have hP := w_kept0 hP hk
    refine lv_if_ne (tgt := 27) hx hb dX7_mark_21 (by decide) (fun c_21 => ?_) (fun c_21 => ?_)
    · have hf := ite_f c_21 hf
      refine lv_aload_n hx hb dX7_mark_27 rfl (lv_at hl 0 rfl) ?_
      refine va_get (ci := 7) (C := RX7) (T := TX7) (N := 11) (v := .ref (a1 0)) hx hb hts i_X7_mark_X7 hown hK hP 0 rfl rfl 0 (by decide) (hts _ m_X7_mark_265b14) (fun _ h9 => h9) rfl dX7_mark_28 ?_
      refine va_getN (ci := 2) (C := RX2) (T := TX2) (N := 11) (v := .ref (a1 3)) hx hb hts i_X7_mark_X2 hown hK hP 1 rfl rfl 3 (by decide) (nwG hG (w := .fieldLinkNest "PickedMatch" 85 "PickedMatch$Scene" "marks" "[I" "PickedMatch") (by decide +kernel)) (fun _ h9 => h9) rfl dX7_mark_31 ?_
      refine lv_iload_n hx hb dX7_mark_34 rfl (lv_at hl 1 rfl) ?_
      obtain ⟨h_35, hf⟩ := ck_e hf
      refine va_iald (cA := E.2.1) (n := 6) (f := s1 3) hx hb hK hP 4 0 rfl rfl h_35 dX7_mark_35 ?_
      refine lv_topi (fun x36 e_x36 => ?_)
      have hf := nm_q e_x36 hf
      refine lv_istore_n (lv' := [(3, .int x36), (0, .ref (a0 0)), (1, .int p1), (2, .int p2)]) hx hb dX7_mark_36 rfl hl (Nat.le_of_ble_eq_true rfl) rfl (fun ls hl => ?_)
      refine lv_aload_n hx hb dX7_mark_37 rfl (lv_at hl 1 rfl) ?_
      refine va_get (ci := 7) (C := RX7) (T := TX7) (N := 11) (v := .ref (a1 0)) hx hb hts i_X7_mark_X7 hown hK hP 0 rfl rfl 0 (by decide) (hts _ m_X7_mark_265b14) (fun _ h9 => h9) rfl dX7_mark_38 ?_
      refine va_getN (ci := 2) (C := RX2) (T := TX2) (N := 11) (v := .ref (a1 3)) hx hb hts i_X7_mark_X2 hown hK hP 1 rfl rfl 3 (by decide) (nwG hG (w := .fieldLinkNest "PickedMatch" 85 "PickedMatch$Scene" "marks" "[I" "PickedMatch") (by decide +kernel)) (fun _ h9 => h9) rfl dX7_mark_41 ?_
      refine lv_iload_n hx hb dX7_mark_44 rfl (lv_at hl 2 rfl) ?_
      refine lv_iload_n hx hb dX7_mark_45 rfl (lv_at hl 3 rfl) ?_
      obtain ⟨h_46, hf⟩ := ck_e hf
      refine va_iast (cA := E.2.1) (n := 6) (f := s1 3) (x := p2) hx hb hK hP (hDD s0 s1 h1 s2 h2 s3 s4 h4 s5 s6 s7 s8 s9 t9) hS 4 0 rfl rfl h_46 dX7_mark_46 (fun H locs hP _ hS => ?_)
      obtain ⟨s1_46, hP, hf⟩ := nm_st' (P := fun z => va_P E.1 vwCl ((wX7o E a0 a1 a2 a3 a4 a5 a6 a7 a8 a9 s0 ++ (wX2 E a1 z h1 ++ (wX2 E a2 s2 h2 ++ (wX1 E a3 s3 ++ (wX2 E a4 s4 h4 ++ (wX1 E a5 s5 ++ (wX5 E a6 s6 ++ (wX3 E a7 s7 ++ (wX0 E a8 s8 ++ (wX6 E a9 s9 t9)))))))))) ++ sW E.2.1 L) H) hf hP
      refine lv_iload_n hx hb dX7_mark_47 rfl (lv_at hl 0 rfl) ?_
      have e9 := Option.some.inj hf
      have h9_0 : s1_46 = q.2 := congrArg (fun z => z.2) e9
      have hP9 : va_P E.1 vwCl ((wX7o E a0 a1 a2 a3 a4 a5 a6 a7 a8 a9 s0 ++ (wX2 E a1 q.2 h1 ++ (wX2 E a2 s2 h2 ++ (wX1 E a3 s3 ++ (wX2 E a4 s4 h4 ++ (wX1 E a5 s5 ++ (wX5 E a6 s6 ++ (wX3 E a7 s7 ++ (wX0 E a8 s8 ++ (wX6 E a9 s9 t9)))))))))) ++ sW E.2.1 L) H := by rw [← h9_0]; exact hP
      exact rt_i hx hb hr hlocks (fst_e e9) hP9 hS dX7_mark_48
    · have hf := ite_t c_21 hf
      refine lv_bipush (v := (-2)) hx hb dX7_mark_24 (by decide) ?_
      have e9 := Option.some.inj hf
      have h9_0 : s1 = q.2 := congrArg (fun z => z.2) e9
      have hP9 : va_P E.1 vwCl ((wX7o E a0 a1 a2 a3 a4 a5 a6 a7 a8 a9 s0 ++ (wX2 E a1 q.2 h1 ++ (wX2 E a2 s2 h2 ++ (wX1 E a3 s3 ++ (wX2 E a4 s4 h4 ++ (wX1 E a5 s5 ++ (wX5 E a6 s6 ++ (wX3 E a7 s7 ++ (wX0 E a8 s8 ++ (wX6 E a9 s9 t9)))))))))) ++ sW E.2.1 L) H := by rw [← h9_0]; exact hP
      exact rt_i hx hb hr hlocks (fst_e e9) hP9 hS dX7_mark_26
  · have hf := ite_t c_8 hf
    refine lv_iconst (v := (-1)) hx hb dX7_mark_11 (by decide) ?_
    have e9 := Option.some.inj hf
    have h9_0 : s1 = q.2 := congrArg (fun z => z.2) e9
    have hP9 : va_P E.1 vwCl ((wX7o E a0 a1 a2 a3 a4 a5 a6 a7 a8 a9 s0 ++ (wX2 E a1 q.2 h1 ++ (wX2 E a2 s2 h2 ++ (wX1 E a3 s3 ++ (wX2 E a4 s4 h4 ++ (wX1 E a5 s5 ++ (wX5 E a6 s6 ++ (wX3 E a7 s7 ++ (wX0 E a8 s8 ++ (wX6 E a9 s9 t9)))))))))) ++ sW E.2.1 L) H := by rw [← h9_0]; exact hP
    exact rt_i hx hb hr hlocks (fst_e e9) hP9 hS dX7_mark_12
abbrev rm_X7_row : Room := { frames := 1, cells := 0, slots := 0, locals := 22 }
theorem m_X7_row_265b14 : Cond.fieldLink RX7 12 "PickedMatch" "scene" "LPickedMatch$Scene;" ∈ wsX7_row := by decide +kernel
theorem i_X7_row_X7 : ∀ w ∈ wsX70, w ∈ wsX7_row := fun _ h => List.mem_cons_of_mem _ (List.mem_append_left _ (List.mem_append_right _ h))
theorem m_X7_row_4cf9d8 : Cond.initialized RX2 ∈ wsX7_row := by decide +kernel
theorem m_X7_row_0211d8 : Cond.instanceMethod yX2_hasThing ∈ wsX7_row := by decide +kernel
theorem m_X7_row_6099ba : Cond.selects RX2 yX2_hasThing yX2_hasThing ∈ wsX7_row := by decide +kernel
theorem i_X7_row_X2 : ∀ w ∈ wsX20, w ∈ wsX7_row := fun _ h => List.mem_cons_of_mem _ (List.mem_append_right _ h)
set_option maxHeartbeats 8000000 in
set_option maxRecDepth 100000 in
theorem k_X7_row (l : Launch) (E : Ev) (a0 : Nat → Nat) (a1 : Nat → Nat) (a2 : Nat → Nat) (a3 : Nat → Nat) (a4 : Nat → Nat) (a5 : Nat → Nat) (a6 : Nat → Nat) (a7 : Nat → Nat) (a8 : Nat → Nat) (a9 : Nat → Nat) (L : List SR) (N : Nat) (s0 : St) (s1 : St) (h1 : Option SR) (s2 : St) (h2 : Option SR) (s3 : St) (s4 : St) (h4 : Option SR) (s5 : St) (s6 : St) (s7 : St) (s8 : St) (s9 : St) (t9 : Nat → Nat → Int64) (p1 : Int32) (p2 : Int32) (p3 : Int32) (q : (Int32 × St)) (hf : f_X7_row N s1 p1 p2 p3 = some q) : Ci l yX7_row wsX7_row rm_X7_row E [.ref (a0 0), .int p1, .int p2, .int p3] ((wX7o E a0 a1 a2 a3 a4 a5 a6 a7 a8 a9 s0 ++ (wX2 E a1 s1 h1 ++ (wX2 E a2 s2 h2 ++ (wX1 E a3 s3 ++ (wX2 E a4 s4 h4 ++ (wX1 E a5 s5 ++ (wX5 E a6 s6 ++ (wX3 E a7 s7 ++ (wX0 E a8 s8 ++ (wX6 E a9 s9 t9)))))))))) ++ sW E.2.1 L) ((wX7o E a0 a1 a2 a3 a4 a5 a6 a7 a8 a9 s0 ++ (wX2 E a1 q.2 h1 ++ (wX2 E a2 s2 h2 ++ (wX1 E a3 s3 ++ (wX2 E a4 s4 h4 ++ (wX1 E a5 s5 ++ (wX5 E a6 s6 ++ (wX3 E a7 s7 ++ (wX0 E a8 s8 ++ (wX6 E a9 s9 t9)))))))))) ++ sW E.2.1 L) q.1 := by
  unfold f_X7_row at hf
  intro sz
  refine Met.ofW (cc := cX7_row) (maxL := 6) (ret := (some .int)) (by decide) rfl ?_
  intro p e s m args below meth c s₁ B hml hpre
  obtain ⟨rfl, hsz, hP, hK, hD0, hG, hA, hAB⟩ := start hpre
  have hx := B.exec
  have hb := B.bytes
  have hr := B.returns
  have hts := atoms_spec (ws := wsX7_row) B.pre
  have hown : s.vm.findClass RX7 = some m.cls := findClass_of_methodNamed B.named
  have hlocks := B.notSynchronized
  subst hsz
  generalize va_A ((wX7o E a0 a1 a2 a3 a4 a5 a6 a7 a8 a9 s0 ++ (wX2 E a1 s1 h1 ++ (wX2 E a2 s2 h2 ++ (wX1 E a3 s3 ++ (wX2 E a4 s4 h4 ++ (wX1 E a5 s5 ++ (wX5 E a6 s6 ++ (wX3 E a7 s7 ++ (wX0 E a8 s8 ++ (wX6 E a9 s9 t9)))))))))) ++ sW E.2.1 L) s.heap.size = A0 at hD0 hA hAB ⊢
  have hDD : ∀ (s0 : St) (s1 : St) (h1 : Option SR) (s2 : St) (h2 : Option SR) (s3 : St) (s4 : St) (h4 : Option SR) (s5 : St) (s6 : St) (s7 : St) (s8 : St) (s9 : St) (t9 : Nat → Nat → Int64), va_D A0 ((wX7o E a0 a1 a2 a3 a4 a5 a6 a7 a8 a9 s0 ++ (wX2 E a1 s1 h1 ++ (wX2 E a2 s2 h2 ++ (wX1 E a3 s3 ++ (wX2 E a4 s4 h4 ++ (wX1 E a5 s5 ++ (wX5 E a6 s6 ++ (wX3 E a7 s7 ++ (wX0 E a8 s8 ++ (wX6 E a9 s9 t9)))))))))) ++ sW E.2.1 L) := fun s0 s1 h1 s2 h2 s3 s4 h4 s5 s6 s7 s8 s9 t9 => vD_addr hD0 rfl
  have hS : va_S A0 s.heap s.heap [] := va_S.rf
  have hl := lv_entry ([.ref (a0 0), .int p1, .int p2, .int p3]) (n := 6) (Nat.le_of_ble_eq_true rfl)
  rw [lg_entry_eq]
  generalize (lg_sl ([.ref (a0 0), .int p1, .int p2, .int p3]) ++ List.replicate (6 - (lg_sl ([.ref (a0 0), .int p1, .int p2, .int p3])).length) Slot.unset).toArray = ls at hl ⊢
  have hl : lv_has ls 6 [(0, .ref (a0 0)), (1, .int p1), (2, .int p2), (3, .int p3)] := hl
  refine lv_aload_n hx hb dX7_row_0 rfl (lv_at hl 0 rfl) ?_
  refine va_get (ci := 7) (C := RX7) (T := TX7) (N := 11) (v := .ref (a1 0)) hx hb hts i_X7_row_X7 hown hK hP 0 rfl rfl 0 (by decide) (hts _ m_X7_row_265b14) (fun _ h9 => h9) rfl dX7_row_1 ?_
  refine lv_iload_n hx hb dX7_row_4 rfl (lv_at hl 1 rfl) ?_
  obtain ⟨q5, hc_5, hf⟩ := cl_e hf
  have hm_5 : ∀ q ∈ (wX2 E a1 s1 h1) ++ sW E.2.1 L, q ∈ (wX7o E a0 a1 a2 a3 a4 a5 a6 a7 a8 a9 s0 ++ (wX2 E a1 s1 h1 ++ (wX2 E a2 s2 h2 ++ (wX1 E a3 s3 ++ (wX2 E a4 s4 h4 ++ (wX1 E a5 s5 ++ (wX5 E a6 s6 ++ (wX3 E a7 s7 ++ (wX0 E a8 s8 ++ (wX6 E a9 s9 t9)))))))))) ++ sW E.2.1 L := (app_mem (sub_mem (suf := []) [1, 2, 3, 4, 5, 6, 7] rfl))
  refine fin_i (E := E) (wc := (wX2 E a1 s1 h1) ++ sW E.2.1 L) (wc' := (wX2 E a1 s1 h1) ++ sW E.2.1 L) (va_runVN (As := [.int p1]) (rest := []) ⟨hx, hb, hml, hown, hts⟩ (k_X2_hasThing l E a1 L N s1 h1 p1 q5 hc_5 _) ⟨va_cnB 1 hts gX7_row_X2_hasThing_n74 rfl rfl rfl (hG.1 (.methodLinkNest "PickedMatch" 74 yX2_hasThing "PickedMatch") (by decide +kernel)) (hts _ m_X7_row_4cf9d8) (by decide +kernel) ⟨(Nat.le_of_ble_eq_true rfl), (Nat.le_of_ble_eq_true rfl)⟩, (hts _ m_X7_row_0211d8), (hts _ m_X7_row_6099ba)⟩ (pre_v (ci := 2) (q0 := 0) hK (sub_P hm_5 hP) (sub_Ds (ws := wX7o E a0 a1 a2 a3 a4 a5 a6 a7 a8 a9 s0 ++ (wX2 E a1 s1 h1 ++ (wX2 E a2 s2 h2 ++ (wX1 E a3 s3 ++ (wX2 E a4 s4 h4 ++ (wX1 E a5 s5 ++ (wX5 E a6 s6 ++ (wX3 E a7 s7 ++ (wX0 E a8 s8 ++ (wX6 E a9 s9 t9)))))))))) (wc := wX2 E a1 s1 h1) (suf := sW E.2.1 L) [1, 2, 3, 4, 5, 6, 7] (by decide) rfl (hDD s0 s1 h1 s2 h2 s3 s4 h4 s5 s6 s7 s8 s9 t9)) hS hG hAB rfl rfl) rfl rfl hl.1 rfl (lv_room (Nat.le_of_ble_eq_true rfl)) dX7_row_5 ⟨Nat.zero_le _, Nat.zero_le _⟩) hS (w_free (hDD s0 s1 h1 s2 h2 s3 s4 h4 s5 s6 s7 s8 s9 t9) hS hA hm_5) (fun H locs hP1 hk hS => ?_)
  have hP := w_joins (ws' := wX7o E a0 a1 a2 a3 a4 a5 a6 a7 a8 a9 s0 ++ (wX2 E a1 s1 h1 ++ (wX2 E a2 s2 h2 ++ (wX1 E a3 s3 ++ (wX2 E a4 s4 h4 ++ (wX1 E a5 s5 ++ (wX5 E a6 s6 ++ (wX3 E a7 s7 ++ (wX0 E a8 s8 ++ (wX6 E a9 s9 t9)))))))))) (wc := wX2 E a1 s1 h1) (wc' := wX2 E a1 s1 h1) hP (hDD s0 s1 h1 s2 h2 s3 s4 h4 s5 s6 s7 s8 s9 t9) [1, 2, 3, 4, 5, 6, 7] rfl [none, some 0, some 1, some 2, some 3, some 4, some 5, some 6, none, none, none, none, none, none, none, none, none, none, none, none, none, none, none, none, none, none, none, none, none, none, none, none, none, none, none, none, none, none, none, none, none, none, none, none, none, none, none, none, none, none] rfl rfl hk hP1
  refine lv_if_eq (tgt := 20) hx hb dX7_row_8 (by decide) (fun c_8 => ?_) (fun c_8 => ?_)
  · have hf := ite_t c_8 hf
    refine lv_iconst (v := (-1)) hx hb dX7_row_20 (by decide) ?_
    have e9 := Option.some.inj hf
    have h9_0 : s1 = q.2 := congrArg (fun z => z.2) e9
    have hP9 : va_P E.1 vwCl ((wX7o E a0 a1 a2 a3 a4 a5 a6 a7 a8 a9 s0 ++ (wX2 E a1 q.2 h1 ++ (wX2 E a2 s2 h2 ++ (wX1 E a3 s3 ++ (wX2 E a4 s4 h4 ++ (wX1 E a5 s5 ++ (wX5 E a6 s6 ++ (wX3 E a7 s7 ++ (wX0 E a8 s8 ++ (wX6 E a9 s9 t9)))))))))) ++ sW E.2.1 L) H := by rw [← h9_0]; exact hP
    exact rt_i hx hb hr hlocks (fst_e e9) hP9 hS dX7_row_21
  · have hf := ite_f c_8 hf
    refine lv_iload_n hx hb dX7_row_11 rfl (lv_at hl 2 rfl) ?_
    refine lv_iconst (v := 0) hx hb dX7_row_12 (by decide) ?_
    refine lv_iconst (v := 3) hx hb dX7_row_13 (by decide) ?_
    obtain ⟨q14, hc_14, hf⟩ := cl_e hf
    refine fin_i (E := E) (wc := ([] : va_W)) (wc' := ([] : va_W)) (va_runS (As := [.int p2, .int 0, .int 3]) (rest := []) ⟨hx, hb, hml, hown, hts⟩ (k_X7_isWithin l E N p2 0 3 q14 hc_14 _) (va_cwS 3 hts gX7_row_X7_isWithin rfl rfl rfl (by decide +kernel) ⟨(Nat.le_of_ble_eq_true rfl), (Nat.le_of_ble_eq_true rfl)⟩) (pre_s hK va_P_nil va_D_nil hS hG hAB) rfl rfl hl.1 rfl (lv_room (Nat.le_of_ble_eq_true rfl)) dX7_row_14 ⟨Nat.zero_le _, Nat.zero_le _⟩) hS (free_nil hS hA) (fun H locs hP1 hk hS => ?_)
    have hP := w_kept0 hP hk
    refine lv_if_ne (tgt := 22) hx hb dX7_row_17 (by decide) (fun c_17 => ?_) (fun c_17 => ?_)
    · have hf := ite_f c_17 hf
      refine lv_iload_n hx hb dX7_row_22 rfl (lv_at hl 3 rfl) ?_
      refine lv_iconst (v := 0) hx hb dX7_row_23 (by decide) ?_
      refine lv_bipush (v := 9) hx hb dX7_row_24 (by decide) ?_
      obtain ⟨q26, hc_26, hf⟩ := cl_e hf
      refine fin_i (E := E) (wc := ([] : va_W)) (wc' := ([] : va_W)) (va_runS (As := [.int p3, .int 0, .int 9]) (rest := []) ⟨hx, hb, hml, hown, hts⟩ (k_X7_isWithin l E N p3 0 9 q26 hc_26 _) (va_cwS 3 hts gX7_row_X7_isWithin rfl rfl rfl (by decide +kernel) ⟨(Nat.le_of_ble_eq_true rfl), (Nat.le_of_ble_eq_true rfl)⟩) (pre_s hK va_P_nil va_D_nil hS hG hAB) rfl rfl hl.1 rfl (lv_room (Nat.le_of_ble_eq_true rfl)) dX7_row_26 ⟨Nat.zero_le _, Nat.zero_le _⟩) hS (free_nil hS hA) (fun H locs hP1 hk hS => ?_)
      have hP := w_kept0 hP hk
      refine lv_if_ne (tgt := 35) hx hb dX7_row_29 (by decide) (fun c_29 => ?_) (fun c_29 => ?_)
      · have hf := ite_f c_29 hf
        refine lv_aload_n hx hb dX7_row_35 rfl (lv_at hl 0 rfl) ?_
        refine va_get (ci := 7) (C := RX7) (T := TX7) (N := 11) (v := .ref (a1 0)) hx hb hts i_X7_row_X7 hown hK hP 0 rfl rfl 0 (by decide) (hts _ m_X7_row_265b14) (fun _ h9 => h9) rfl dX7_row_36 ?_
        refine va_getN (ci := 2) (C := RX2) (T := TX2) (N := 11) (v := .ref (a1 1)) hx hb hts i_X7_row_X2 hown hK hP 1 rfl rfl 1 (by decide) (nwG hG (w := .fieldLinkNest "PickedMatch" 78 "PickedMatch$Scene" "kinds" "[I" "PickedMatch") (by decide +kernel)) (fun _ h9 => h9) rfl dX7_row_39 ?_
        refine lv_iload_n hx hb dX7_row_42 rfl (lv_at hl 1 rfl) ?_
        obtain ⟨h_43, hf⟩ := ck_e hf
        refine va_iald (cA := E.2.1) (n := 6) (f := s1 1) hx hb hK hP 2 0 rfl rfl h_43 dX7_row_43 ?_
        refine lv_bipush (v := 6) hx hb dX7_row_44 (by decide) ?_
        refine lv_icmp_eq (tgt := 52) hx hb dX7_row_46 (by decide) (fun c_46 => ?_) (fun c_46 => ?_)
        · have hf := ite_t c_46 hf
          refine lv_iload_n hx hb dX7_row_52 rfl (lv_at hl 1 rfl) ?_
          refine lv_iconst (v := 4) hx hb dX7_row_53 (by decide) ?_
          refine lv_imul hx hb dX7_row_54 ?_
          refine lv_iload_n hx hb dX7_row_55 rfl (lv_at hl 2 rfl) ?_
          refine lv_iadd hx hb dX7_row_56 ?_
          refine lv_topi (fun x57 e_x57 => ?_)
          have hf := nm_q e_x57 hf
          refine lv_istore (lv' := [(4, .int x57), (0, .ref (a0 0)), (1, .int p1), (2, .int p2), (3, .int p3)]) hx hb dX7_row_57 hl (Nat.le_of_ble_eq_true rfl) rfl (fun ls hl => ?_)
          refine lv_aload_n hx hb dX7_row_59 rfl (lv_at hl 1 rfl) ?_
          refine va_get (ci := 7) (C := RX7) (T := TX7) (N := 11) (v := .ref (a1 0)) hx hb hts i_X7_row_X7 hown hK hP 0 rfl rfl 0 (by decide) (hts _ m_X7_row_265b14) (fun _ h9 => h9) rfl dX7_row_60 ?_
          refine va_getN (ci := 2) (C := RX2) (T := TX2) (N := 11) (v := .ref (a1 4)) hx hb hts i_X7_row_X2 hown hK hP 1 rfl rfl 4 (by decide) (nwG hG (w := .fieldLinkNest "PickedMatch" 101 "PickedMatch$Scene" "rows" "[I" "PickedMatch") (by decide +kernel)) (fun _ h9 => h9) rfl dX7_row_63 ?_
          refine lv_iload hx hb dX7_row_66 (lv_at hl 0 rfl) ?_
          obtain ⟨h_68, hf⟩ := ck_e hf
          refine va_iald (cA := E.2.1) (n := 24) (f := s1 4) hx hb hK hP 5 0 rfl rfl h_68 dX7_row_68 ?_
          refine lv_topi (fun x69 e_x69 => ?_)
          have hf := nm_q e_x69 hf
          refine lv_istore (lv' := [(5, .int x69), (4, .int x57), (0, .ref (a0 0)), (1, .int p1), (2, .int p2), (3, .int p3)]) hx hb dX7_row_69 hl (Nat.le_of_ble_eq_true rfl) rfl (fun ls hl => ?_)
          refine lv_aload_n hx hb dX7_row_71 rfl (lv_at hl 2 rfl) ?_
          refine va_get (ci := 7) (C := RX7) (T := TX7) (N := 11) (v := .ref (a1 0)) hx hb hts i_X7_row_X7 hown hK hP 0 rfl rfl 0 (by decide) (hts _ m_X7_row_265b14) (fun _ h9 => h9) rfl dX7_row_72 ?_
          refine va_getN (ci := 2) (C := RX2) (T := TX2) (N := 11) (v := .ref (a1 4)) hx hb hts i_X7_row_X2 hown hK hP 1 rfl rfl 4 (by decide) (nwG hG (w := .fieldLinkNest "PickedMatch" 101 "PickedMatch$Scene" "rows" "[I" "PickedMatch") (by decide +kernel)) (fun _ h9 => h9) rfl dX7_row_75 ?_
          refine lv_iload hx hb dX7_row_78 (lv_at hl 1 rfl) ?_
          refine lv_iload_n hx hb dX7_row_80 rfl (lv_at hl 5 rfl) ?_
          obtain ⟨h_81, hf⟩ := ck_e hf
          refine va_iast (cA := E.2.1) (n := 24) (f := s1 4) (x := p3) hx hb hK hP (hDD s0 s1 h1 s2 h2 s3 s4 h4 s5 s6 s7 s8 s9 t9) hS 5 0 rfl rfl h_81 dX7_row_81 (fun H locs hP _ hS => ?_)
          obtain ⟨s1_81, hP, hf⟩ := nm_st' (P := fun z => va_P E.1 vwCl ((wX7o E a0 a1 a2 a3 a4 a5 a6 a7 a8 a9 s0 ++ (wX2 E a1 z h1 ++ (wX2 E a2 s2 h2 ++ (wX1 E a3 s3 ++ (wX2 E a4 s4 h4 ++ (wX1 E a5 s5 ++ (wX5 E a6 s6 ++ (wX3 E a7 s7 ++ (wX0 E a8 s8 ++ (wX6 E a9 s9 t9)))))))))) ++ sW E.2.1 L) H) hf hP
          refine lv_iload hx hb dX7_row_82 (lv_at hl 0 rfl) ?_
          have e9 := Option.some.inj hf
          have h9_0 : s1_81 = q.2 := congrArg (fun z => z.2) e9
          have hP9 : va_P E.1 vwCl ((wX7o E a0 a1 a2 a3 a4 a5 a6 a7 a8 a9 s0 ++ (wX2 E a1 q.2 h1 ++ (wX2 E a2 s2 h2 ++ (wX1 E a3 s3 ++ (wX2 E a4 s4 h4 ++ (wX1 E a5 s5 ++ (wX5 E a6 s6 ++ (wX3 E a7 s7 ++ (wX0 E a8 s8 ++ (wX6 E a9 s9 t9)))))))))) ++ sW E.2.1 L) H := by rw [← h9_0]; exact hP
          exact rt_i hx hb hr hlocks (fst_e e9) hP9 hS dX7_row_84
        · have hf := ite_f c_46 hf
          refine lv_bipush (v := (-3)) hx hb dX7_row_49 (by decide) ?_
          have e9 := Option.some.inj hf
          have h9_0 : s1 = q.2 := congrArg (fun z => z.2) e9
          have hP9 : va_P E.1 vwCl ((wX7o E a0 a1 a2 a3 a4 a5 a6 a7 a8 a9 s0 ++ (wX2 E a1 q.2 h1 ++ (wX2 E a2 s2 h2 ++ (wX1 E a3 s3 ++ (wX2 E a4 s4 h4 ++ (wX1 E a5 s5 ++ (wX5 E a6 s6 ++ (wX3 E a7 s7 ++ (wX0 E a8 s8 ++ (wX6 E a9 s9 t9)))))))))) ++ sW E.2.1 L) H := by rw [← h9_0]; exact hP
          exact rt_i hx hb hr hlocks (fst_e e9) hP9 hS dX7_row_51
      · have hf := ite_t c_29 hf
        refine lv_bipush (v := (-2)) hx hb dX7_row_32 (by decide) ?_
        have e9 := Option.some.inj hf
        have h9_0 : s1 = q.2 := congrArg (fun z => z.2) e9
        have hP9 : va_P E.1 vwCl ((wX7o E a0 a1 a2 a3 a4 a5 a6 a7 a8 a9 s0 ++ (wX2 E a1 q.2 h1 ++ (wX2 E a2 s2 h2 ++ (wX1 E a3 s3 ++ (wX2 E a4 s4 h4 ++ (wX1 E a5 s5 ++ (wX5 E a6 s6 ++ (wX3 E a7 s7 ++ (wX0 E a8 s8 ++ (wX6 E a9 s9 t9)))))))))) ++ sW E.2.1 L) H := by rw [← h9_0]; exact hP
        exact rt_i hx hb hr hlocks (fst_e e9) hP9 hS dX7_row_34
    · have hf := ite_t c_17 hf
      refine lv_iconst (v := (-1)) hx hb dX7_row_20 (by decide) ?_
      have e9 := Option.some.inj hf
      have h9_0 : s1 = q.2 := congrArg (fun z => z.2) e9
      have hP9 : va_P E.1 vwCl ((wX7o E a0 a1 a2 a3 a4 a5 a6 a7 a8 a9 s0 ++ (wX2 E a1 q.2 h1 ++ (wX2 E a2 s2 h2 ++ (wX1 E a3 s3 ++ (wX2 E a4 s4 h4 ++ (wX1 E a5 s5 ++ (wX5 E a6 s6 ++ (wX3 E a7 s7 ++ (wX0 E a8 s8 ++ (wX6 E a9 s9 t9)))))))))) ++ sW E.2.1 L) H := by rw [← h9_0]; exact hP
      exact rt_i hx hb hr hlocks (fst_e e9) hP9 hS dX7_row_21
abbrev rm_X7_take : Room := { frames := 4, cells := 0, slots := 0, locals := 95 }
theorem m_X7_take_265b14 : Cond.fieldLink RX7 12 "PickedMatch" "scene" "LPickedMatch$Scene;" ∈ wsX7_take := by decide +kernel
theorem i_X7_take_X7 : ∀ w ∈ wsX70, w ∈ wsX7_take := fun _ h => List.mem_cons_of_mem _ (List.mem_append_left _ (List.mem_append_left _ (List.mem_append_right _ h)))
theorem m_X7_take_4cf9d8 : Cond.initialized RX2 ∈ wsX7_take := by decide +kernel
theorem m_X7_take_0211d8 : Cond.instanceMethod yX2_hasThing ∈ wsX7_take := by decide +kernel
theorem m_X7_take_6099ba : Cond.selects RX2 yX2_hasThing yX2_hasThing ∈ wsX7_take := by decide +kernel
theorem m_X7_take_e42de2 : Cond.instanceMethod yX2_goesNow ∈ wsX7_take := by decide +kernel
theorem m_X7_take_678d5f : Cond.selects RX2 yX2_goesNow yX2_goesNow ∈ wsX7_take := by decide +kernel
theorem m_X7_take_090fb6 : Cond.instanceMethod yX2_pickUp ∈ wsX7_take := by decide +kernel
theorem m_X7_take_bf4ad0 : Cond.selects RX2 yX2_pickUp yX2_pickUp ∈ wsX7_take := by decide +kernel
theorem i_X7_take_X2 : ∀ w ∈ wsX20, w ∈ wsX7_take := fun _ h => List.mem_cons_of_mem _ (List.mem_append_left _ (List.mem_append_right _ h))
set_option maxHeartbeats 8000000 in
set_option maxRecDepth 100000 in
theorem k_X7_take (l : Launch) (E : Ev) (a0 : Nat → Nat) (a1 : Nat → Nat) (a2 : Nat → Nat) (a3 : Nat → Nat) (a4 : Nat → Nat) (a5 : Nat → Nat) (a6 : Nat → Nat) (a7 : Nat → Nat) (a8 : Nat → Nat) (a9 : Nat → Nat) (L : List SR) (N : Nat) (s0 : St) (s1 : St) (h1 : Option SR) (s2 : St) (h2 : Option SR) (s3 : St) (s4 : St) (h4 : Option SR) (s5 : St) (s6 : St) (s7 : St) (s8 : St) (s9 : St) (t9 : Nat → Nat → Int64) (p1 : Int32) (q : (Int32 × St)) (hf : f_X7_take N L s1 h1 p1 = some q) : Ci l yX7_take wsX7_take rm_X7_take E [.ref (a0 0), .int p1] ((wX7o E a0 a1 a2 a3 a4 a5 a6 a7 a8 a9 s0 ++ (wX2 E a1 s1 h1 ++ (wX2 E a2 s2 h2 ++ (wX1 E a3 s3 ++ (wX2 E a4 s4 h4 ++ (wX1 E a5 s5 ++ (wX5 E a6 s6 ++ (wX3 E a7 s7 ++ (wX0 E a8 s8 ++ (wX6 E a9 s9 t9)))))))))) ++ sW E.2.1 L) ((wX7o E a0 a1 a2 a3 a4 a5 a6 a7 a8 a9 s0 ++ (wX2 E a1 q.2 h1 ++ (wX2 E a2 s2 h2 ++ (wX1 E a3 s3 ++ (wX2 E a4 s4 h4 ++ (wX1 E a5 s5 ++ (wX5 E a6 s6 ++ (wX3 E a7 s7 ++ (wX0 E a8 s8 ++ (wX6 E a9 s9 t9)))))))))) ++ sW E.2.1 L) q.1 := by
  unfold f_X7_take at hf
  intro sz
  refine Met.ofW (cc := cX7_take) (maxL := 2) (ret := (some .int)) (by decide) rfl ?_
  intro p e s m args below meth c s₁ B hml hpre
  obtain ⟨rfl, hsz, hP, hK, hD0, hG, hA, hAB⟩ := start hpre
  have hx := B.exec
  have hb := B.bytes
  have hr := B.returns
  have hts := atoms_spec (ws := wsX7_take) B.pre
  have hown : s.vm.findClass RX7 = some m.cls := findClass_of_methodNamed B.named
  have hlocks := B.notSynchronized
  subst hsz
  generalize va_A ((wX7o E a0 a1 a2 a3 a4 a5 a6 a7 a8 a9 s0 ++ (wX2 E a1 s1 h1 ++ (wX2 E a2 s2 h2 ++ (wX1 E a3 s3 ++ (wX2 E a4 s4 h4 ++ (wX1 E a5 s5 ++ (wX5 E a6 s6 ++ (wX3 E a7 s7 ++ (wX0 E a8 s8 ++ (wX6 E a9 s9 t9)))))))))) ++ sW E.2.1 L) s.heap.size = A0 at hD0 hA hAB ⊢
  have hDD : ∀ (s0 : St) (s1 : St) (h1 : Option SR) (s2 : St) (h2 : Option SR) (s3 : St) (s4 : St) (h4 : Option SR) (s5 : St) (s6 : St) (s7 : St) (s8 : St) (s9 : St) (t9 : Nat → Nat → Int64), va_D A0 ((wX7o E a0 a1 a2 a3 a4 a5 a6 a7 a8 a9 s0 ++ (wX2 E a1 s1 h1 ++ (wX2 E a2 s2 h2 ++ (wX1 E a3 s3 ++ (wX2 E a4 s4 h4 ++ (wX1 E a5 s5 ++ (wX5 E a6 s6 ++ (wX3 E a7 s7 ++ (wX0 E a8 s8 ++ (wX6 E a9 s9 t9)))))))))) ++ sW E.2.1 L) := fun s0 s1 h1 s2 h2 s3 s4 h4 s5 s6 s7 s8 s9 t9 => vD_addr hD0 rfl
  have hS : va_S A0 s.heap s.heap [] := va_S.rf
  have hl := lv_entry ([.ref (a0 0), .int p1]) (n := 2) (Nat.le_of_ble_eq_true rfl)
  rw [lg_entry_eq]
  generalize (lg_sl ([.ref (a0 0), .int p1]) ++ List.replicate (2 - (lg_sl ([.ref (a0 0), .int p1])).length) Slot.unset).toArray = ls at hl ⊢
  have hl : lv_has ls 2 [(0, .ref (a0 0)), (1, .int p1)] := hl
  refine lv_aload_n hx hb dX7_take_0 rfl (lv_at hl 0 rfl) ?_
  refine va_get (ci := 7) (C := RX7) (T := TX7) (N := 11) (v := .ref (a1 0)) hx hb hts i_X7_take_X7 hown hK hP 0 rfl rfl 0 (by decide) (hts _ m_X7_take_265b14) (fun _ h9 => h9) rfl dX7_take_1 ?_
  refine lv_iload_n hx hb dX7_take_4 rfl (lv_at hl 1 rfl) ?_
  obtain ⟨q5, hc_5, hf⟩ := cl_e hf
  have hm_5 : ∀ q ∈ (wX2 E a1 s1 h1) ++ sW E.2.1 L, q ∈ (wX7o E a0 a1 a2 a3 a4 a5 a6 a7 a8 a9 s0 ++ (wX2 E a1 s1 h1 ++ (wX2 E a2 s2 h2 ++ (wX1 E a3 s3 ++ (wX2 E a4 s4 h4 ++ (wX1 E a5 s5 ++ (wX5 E a6 s6 ++ (wX3 E a7 s7 ++ (wX0 E a8 s8 ++ (wX6 E a9 s9 t9)))))))))) ++ sW E.2.1 L := (app_mem (sub_mem (suf := []) [1, 2, 3, 4, 5, 6, 7] rfl))
  refine fin_i (E := E) (wc := (wX2 E a1 s1 h1) ++ sW E.2.1 L) (wc' := (wX2 E a1 s1 h1) ++ sW E.2.1 L) (va_runVN (As := [.int p1]) (rest := []) ⟨hx, hb, hml, hown, hts⟩ (k_X2_hasThing l E a1 L N s1 h1 p1 q5 hc_5 _) ⟨va_cnB 1 hts gX7_take_X2_hasThing_n74 rfl rfl rfl (hG.1 (.methodLinkNest "PickedMatch" 74 yX2_hasThing "PickedMatch") (by decide +kernel)) (hts _ m_X7_take_4cf9d8) (by decide +kernel) ⟨(Nat.le_of_ble_eq_true rfl), (Nat.le_of_ble_eq_true rfl)⟩, (hts _ m_X7_take_0211d8), (hts _ m_X7_take_6099ba)⟩ (pre_v (ci := 2) (q0 := 0) hK (sub_P hm_5 hP) (sub_Ds (ws := wX7o E a0 a1 a2 a3 a4 a5 a6 a7 a8 a9 s0 ++ (wX2 E a1 s1 h1 ++ (wX2 E a2 s2 h2 ++ (wX1 E a3 s3 ++ (wX2 E a4 s4 h4 ++ (wX1 E a5 s5 ++ (wX5 E a6 s6 ++ (wX3 E a7 s7 ++ (wX0 E a8 s8 ++ (wX6 E a9 s9 t9)))))))))) (wc := wX2 E a1 s1 h1) (suf := sW E.2.1 L) [1, 2, 3, 4, 5, 6, 7] (by decide) rfl (hDD s0 s1 h1 s2 h2 s3 s4 h4 s5 s6 s7 s8 s9 t9)) hS hG hAB rfl rfl) rfl rfl hl.1 rfl (lv_room (Nat.le_of_ble_eq_true rfl)) dX7_take_5 ⟨Nat.zero_le _, Nat.zero_le _⟩) hS (w_free (hDD s0 s1 h1 s2 h2 s3 s4 h4 s5 s6 s7 s8 s9 t9) hS hA hm_5) (fun H locs hP1 hk hS => ?_)
  have hP := w_joins (ws' := wX7o E a0 a1 a2 a3 a4 a5 a6 a7 a8 a9 s0 ++ (wX2 E a1 s1 h1 ++ (wX2 E a2 s2 h2 ++ (wX1 E a3 s3 ++ (wX2 E a4 s4 h4 ++ (wX1 E a5 s5 ++ (wX5 E a6 s6 ++ (wX3 E a7 s7 ++ (wX0 E a8 s8 ++ (wX6 E a9 s9 t9)))))))))) (wc := wX2 E a1 s1 h1) (wc' := wX2 E a1 s1 h1) hP (hDD s0 s1 h1 s2 h2 s3 s4 h4 s5 s6 s7 s8 s9 t9) [1, 2, 3, 4, 5, 6, 7] rfl [none, some 0, some 1, some 2, some 3, some 4, some 5, some 6, none, none, none, none, none, none, none, none, none, none, none, none, none, none, none, none, none, none, none, none, none, none, none, none, none, none, none, none, none, none, none, none, none, none, none, none, none, none, none, none, none, none] rfl rfl hk hP1
  refine lv_if_ne (tgt := 13) hx hb dX7_take_8 (by decide) (fun c_8 => ?_) (fun c_8 => ?_)
  · have hf := ite_f c_8 hf
    refine lv_aload_n hx hb dX7_take_13 rfl (lv_at hl 0 rfl) ?_
    refine va_get (ci := 7) (C := RX7) (T := TX7) (N := 11) (v := .ref (a1 0)) hx hb hts i_X7_take_X7 hown hK hP 0 rfl rfl 0 (by decide) (hts _ m_X7_take_265b14) (fun _ h9 => h9) rfl dX7_take_14 ?_
    refine lv_iload_n hx hb dX7_take_17 rfl (lv_at hl 1 rfl) ?_
    obtain ⟨q18, hc_18, hf⟩ := cl_e hf
    have hm_18 : ∀ q ∈ (wX2 E a1 s1 h1) ++ sW E.2.1 L, q ∈ (wX7o E a0 a1 a2 a3 a4 a5 a6 a7 a8 a9 s0 ++ (wX2 E a1 s1 h1 ++ (wX2 E a2 s2 h2 ++ (wX1 E a3 s3 ++ (wX2 E a4 s4 h4 ++ (wX1 E a5 s5 ++ (wX5 E a6 s6 ++ (wX3 E a7 s7 ++ (wX0 E a8 s8 ++ (wX6 E a9 s9 t9)))))))))) ++ sW E.2.1 L := (app_mem (sub_mem (suf := []) [1, 2, 3, 4, 5, 6, 7] rfl))
    refine fin_i (E := E) (wc := (wX2 E a1 s1 h1) ++ sW E.2.1 L) (wc' := (wX2 E a1 q18.2 h1) ++ sW E.2.1 L) (va_runVN (As := [.int p1]) (rest := []) ⟨hx, hb, hml, hown, hts⟩ (k_X2_goesNow l E a1 L N s1 h1 p1 q18 hc_18 _) ⟨va_cnB 1 hts gX7_take_X2_goesNow_n98 rfl rfl rfl (hG.1 (.methodLinkNest "PickedMatch" 98 yX2_goesNow "PickedMatch") (by decide +kernel)) (hts _ m_X7_take_4cf9d8) (by decide +kernel) ⟨(Nat.le_of_ble_eq_true rfl), (Nat.le_of_ble_eq_true rfl)⟩, (hts _ m_X7_take_e42de2), (hts _ m_X7_take_678d5f)⟩ (pre_v (ci := 2) (q0 := 0) hK (sub_P hm_18 hP) (sub_Ds (ws := wX7o E a0 a1 a2 a3 a4 a5 a6 a7 a8 a9 s0 ++ (wX2 E a1 s1 h1 ++ (wX2 E a2 s2 h2 ++ (wX1 E a3 s3 ++ (wX2 E a4 s4 h4 ++ (wX1 E a5 s5 ++ (wX5 E a6 s6 ++ (wX3 E a7 s7 ++ (wX0 E a8 s8 ++ (wX6 E a9 s9 t9)))))))))) (wc := wX2 E a1 s1 h1) (suf := sW E.2.1 L) [1, 2, 3, 4, 5, 6, 7] (by decide) rfl (hDD s0 s1 h1 s2 h2 s3 s4 h4 s5 s6 s7 s8 s9 t9)) hS hG hAB rfl rfl) rfl rfl hl.1 rfl (lv_room (Nat.le_of_ble_eq_true rfl)) dX7_take_18 ⟨Nat.zero_le _, Nat.zero_le _⟩) hS (w_free (hDD s0 s1 h1 s2 h2 s3 s4 h4 s5 s6 s7 s8 s9 t9) hS hA hm_18) (fun H locs hP1 hk hS => ?_)
    have hP := w_joins (ws' := wX7o E a0 a1 a2 a3 a4 a5 a6 a7 a8 a9 s0 ++ (wX2 E a1 q18.2 h1 ++ (wX2 E a2 s2 h2 ++ (wX1 E a3 s3 ++ (wX2 E a4 s4 h4 ++ (wX1 E a5 s5 ++ (wX5 E a6 s6 ++ (wX3 E a7 s7 ++ (wX0 E a8 s8 ++ (wX6 E a9 s9 t9)))))))))) (wc := wX2 E a1 s1 h1) (wc' := wX2 E a1 q18.2 h1) hP (hDD s0 s1 h1 s2 h2 s3 s4 h4 s5 s6 s7 s8 s9 t9) [1, 2, 3, 4, 5, 6, 7] rfl [none, some 0, some 1, some 2, some 3, some 4, some 5, some 6, none, none, none, none, none, none, none, none, none, none, none, none, none, none, none, none, none, none, none, none, none, none, none, none, none, none, none, none, none, none, none, none, none, none, none, none, none, none, none, none, none, none] rfl rfl hk hP1
    refine lv_if_ne (tgt := 27) hx hb dX7_take_21 (by decide) (fun c_21 => ?_) (fun c_21 => ?_)
    · have hf := ite_f c_21 hf
      refine lv_aload_n hx hb dX7_take_27 rfl (lv_at hl 0 rfl) ?_
      refine va_get (ci := 7) (C := RX7) (T := TX7) (N := 11) (v := .ref (a1 0)) hx hb hts i_X7_take_X7 hown hK hP 0 rfl rfl 0 (by decide) (hts _ m_X7_take_265b14) (fun _ h9 => h9) rfl dX7_take_28 ?_
      refine lv_iload_n hx hb dX7_take_31 rfl (lv_at hl 1 rfl) ?_
      obtain ⟨q32, hc_32, hf⟩ := cl_e hf
      have hm_32 : ∀ q ∈ (wX2 E a1 q18.2 h1) ++ sW E.2.1 L, q ∈ (wX7o E a0 a1 a2 a3 a4 a5 a6 a7 a8 a9 s0 ++ (wX2 E a1 q18.2 h1 ++ (wX2 E a2 s2 h2 ++ (wX1 E a3 s3 ++ (wX2 E a4 s4 h4 ++ (wX1 E a5 s5 ++ (wX5 E a6 s6 ++ (wX3 E a7 s7 ++ (wX0 E a8 s8 ++ (wX6 E a9 s9 t9)))))))))) ++ sW E.2.1 L := (app_mem (sub_mem (suf := []) [1, 2, 3, 4, 5, 6, 7] rfl))
      refine fin_v (E := E) (wc := (wX2 E a1 q18.2 h1) ++ sW E.2.1 L) (wc' := (wX2 E a1 q32 h1) ++ sW E.2.1 L) (va_runVN (As := [.int p1]) (rest := []) ⟨hx, hb, hml, hown, hts⟩ (k_X2_pickUp l E a1 L N q18.2 h1 p1 q32 hc_32 _) ⟨va_cnB 1 hts gX7_take_X2_pickUp_n104 rfl rfl rfl (hG.1 (.methodLinkNest "PickedMatch" 104 yX2_pickUp "PickedMatch") (by decide +kernel)) (hts _ m_X7_take_4cf9d8) (by decide +kernel) ⟨(Nat.le_of_ble_eq_true rfl), (Nat.le_of_ble_eq_true rfl)⟩, (hts _ m_X7_take_090fb6), (hts _ m_X7_take_bf4ad0)⟩ (pre_v (ci := 2) (q0 := 0) hK (sub_P hm_32 hP) (sub_Ds (ws := wX7o E a0 a1 a2 a3 a4 a5 a6 a7 a8 a9 s0 ++ (wX2 E a1 q18.2 h1 ++ (wX2 E a2 s2 h2 ++ (wX1 E a3 s3 ++ (wX2 E a4 s4 h4 ++ (wX1 E a5 s5 ++ (wX5 E a6 s6 ++ (wX3 E a7 s7 ++ (wX0 E a8 s8 ++ (wX6 E a9 s9 t9)))))))))) (wc := wX2 E a1 q18.2 h1) (suf := sW E.2.1 L) [1, 2, 3, 4, 5, 6, 7] (by decide) rfl (hDD s0 q18.2 h1 s2 h2 s3 s4 h4 s5 s6 s7 s8 s9 t9)) hS hG hAB rfl rfl) rfl rfl hl.1 rfl (lv_room (Nat.le_of_ble_eq_true rfl)) dX7_take_32 ⟨Nat.zero_le _, Nat.zero_le _⟩) hS (w_free (hDD s0 q18.2 h1 s2 h2 s3 s4 h4 s5 s6 s7 s8 s9 t9) hS hA hm_32) (fun H locs hP1 hk hS => ?_)
      have hP := w_joins (ws' := wX7o E a0 a1 a2 a3 a4 a5 a6 a7 a8 a9 s0 ++ (wX2 E a1 q32 h1 ++ (wX2 E a2 s2 h2 ++ (wX1 E a3 s3 ++ (wX2 E a4 s4 h4 ++ (wX1 E a5 s5 ++ (wX5 E a6 s6 ++ (wX3 E a7 s7 ++ (wX0 E a8 s8 ++ (wX6 E a9 s9 t9)))))))))) (wc := wX2 E a1 q18.2 h1) (wc' := wX2 E a1 q32 h1) hP (hDD s0 q18.2 h1 s2 h2 s3 s4 h4 s5 s6 s7 s8 s9 t9) [1, 2, 3, 4, 5, 6, 7] rfl [none, some 0, some 1, some 2, some 3, some 4, some 5, some 6, none, none, none, none, none, none, none, none, none, none, none, none, none, none, none, none, none, none, none, none, none, none, none, none, none, none, none, none, none, none, none, none, none, none, none, none, none, none, none, none, none, none] rfl rfl hk hP1
      refine lv_aload_n hx hb dX7_take_35 rfl (lv_at hl 0 rfl) ?_
      refine va_get (ci := 7) (C := RX7) (T := TX7) (N := 11) (v := .ref (a1 0)) hx hb hts i_X7_take_X7 hown hK hP 0 rfl rfl 0 (by decide) (hts _ m_X7_take_265b14) (fun _ h9 => h9) rfl dX7_take_36 ?_
      refine va_getN (ci := 2) (C := RX2) (T := TX2) (N := 11) (v := .int (q32 6 0)) hx hb hts i_X7_take_X2 hown hK hP 1 rfl rfl 6 (by decide) (nwG hG (w := .fieldLinkNest "PickedMatch" 108 "PickedMatch$Scene" "hadCount" "I" "PickedMatch") (by decide +kernel)) (fun _ h9 => h9) rfl dX7_take_39 ?_
      have e9 := Option.some.inj hf
      have h9_0 : q32 = q.2 := congrArg (fun z => z.2) e9
      have hP9 : va_P E.1 vwCl ((wX7o E a0 a1 a2 a3 a4 a5 a6 a7 a8 a9 s0 ++ (wX2 E a1 q.2 h1 ++ (wX2 E a2 s2 h2 ++ (wX1 E a3 s3 ++ (wX2 E a4 s4 h4 ++ (wX1 E a5 s5 ++ (wX5 E a6 s6 ++ (wX3 E a7 s7 ++ (wX0 E a8 s8 ++ (wX6 E a9 s9 t9)))))))))) ++ sW E.2.1 L) H := by rw [← h9_0]; exact hP
      exact rt_i hx hb hr hlocks (fst_e e9) hP9 hS dX7_take_42
    · have hf := ite_t c_21 hf
      refine lv_bipush (v := (-3)) hx hb dX7_take_24 (by decide) ?_
      have e9 := Option.some.inj hf
      have h9_0 : q18.2 = q.2 := congrArg (fun z => z.2) e9
      have hP9 : va_P E.1 vwCl ((wX7o E a0 a1 a2 a3 a4 a5 a6 a7 a8 a9 s0 ++ (wX2 E a1 q.2 h1 ++ (wX2 E a2 s2 h2 ++ (wX1 E a3 s3 ++ (wX2 E a4 s4 h4 ++ (wX1 E a5 s5 ++ (wX5 E a6 s6 ++ (wX3 E a7 s7 ++ (wX0 E a8 s8 ++ (wX6 E a9 s9 t9)))))))))) ++ sW E.2.1 L) H := by rw [← h9_0]; exact hP
      exact rt_i hx hb hr hlocks (fst_e e9) hP9 hS dX7_take_26
  · have hf := ite_t c_8 hf
    refine lv_iconst (v := (-1)) hx hb dX7_take_11 (by decide) ?_
    have e9 := Option.some.inj hf
    have h9_0 : s1 = q.2 := congrArg (fun z => z.2) e9
    have hP9 : va_P E.1 vwCl ((wX7o E a0 a1 a2 a3 a4 a5 a6 a7 a8 a9 s0 ++ (wX2 E a1 q.2 h1 ++ (wX2 E a2 s2 h2 ++ (wX1 E a3 s3 ++ (wX2 E a4 s4 h4 ++ (wX1 E a5 s5 ++ (wX5 E a6 s6 ++ (wX3 E a7 s7 ++ (wX0 E a8 s8 ++ (wX6 E a9 s9 t9)))))))))) ++ sW E.2.1 L) H := by rw [← h9_0]; exact hP
    exact rt_i hx hb hr hlocks (fst_e e9) hP9 hS dX7_take_12
abbrev rm_X7_put : Room := { frames := 1, cells := 0, slots := 0, locals := 21 }
theorem m_X7_put_265b14 : Cond.fieldLink RX7 12 "PickedMatch" "scene" "LPickedMatch$Scene;" ∈ wsX7_put := by decide +kernel
theorem i_X7_put_X7 : ∀ w ∈ wsX70, w ∈ wsX7_put := fun _ h => List.mem_cons_of_mem _ (List.mem_append_left _ (List.mem_append_right _ h))
theorem i_X7_put_X2 : ∀ w ∈ wsX20, w ∈ wsX7_put := fun _ h => List.mem_cons_of_mem _ (List.mem_append_right _ h)
theorem m_X7_put_4cf9d8 : Cond.initialized RX2 ∈ wsX7_put := by decide +kernel
theorem m_X7_put_6978fc : Cond.instanceMethod yX2_layDownNewest ∈ wsX7_put := by decide +kernel
theorem m_X7_put_998862 : Cond.selects RX2 yX2_layDownNewest yX2_layDownNewest ∈ wsX7_put := by decide +kernel
set_option maxHeartbeats 8000000 in
set_option maxRecDepth 100000 in
theorem k_X7_put (l : Launch) (E : Ev) (a0 : Nat → Nat) (a1 : Nat → Nat) (a2 : Nat → Nat) (a3 : Nat → Nat) (a4 : Nat → Nat) (a5 : Nat → Nat) (a6 : Nat → Nat) (a7 : Nat → Nat) (a8 : Nat → Nat) (a9 : Nat → Nat) (L : List SR) (N : Nat) (s0 : St) (s1 : St) (h1 : Option SR) (s2 : St) (h2 : Option SR) (s3 : St) (s4 : St) (h4 : Option SR) (s5 : St) (s6 : St) (s7 : St) (s8 : St) (s9 : St) (t9 : Nat → Nat → Int64) (q : (Int32 × St)) (hf : f_X7_put N s1 = some q) : Ci l yX7_put wsX7_put rm_X7_put E [.ref (a0 0)] ((wX7o E a0 a1 a2 a3 a4 a5 a6 a7 a8 a9 s0 ++ (wX2 E a1 s1 h1 ++ (wX2 E a2 s2 h2 ++ (wX1 E a3 s3 ++ (wX2 E a4 s4 h4 ++ (wX1 E a5 s5 ++ (wX5 E a6 s6 ++ (wX3 E a7 s7 ++ (wX0 E a8 s8 ++ (wX6 E a9 s9 t9)))))))))) ++ sW E.2.1 L) ((wX7o E a0 a1 a2 a3 a4 a5 a6 a7 a8 a9 s0 ++ (wX2 E a1 q.2 h1 ++ (wX2 E a2 s2 h2 ++ (wX1 E a3 s3 ++ (wX2 E a4 s4 h4 ++ (wX1 E a5 s5 ++ (wX5 E a6 s6 ++ (wX3 E a7 s7 ++ (wX0 E a8 s8 ++ (wX6 E a9 s9 t9)))))))))) ++ sW E.2.1 L) q.1 := by
  unfold f_X7_put at hf
  intro sz
  refine Met.ofW (cc := cX7_put) (maxL := 1) (ret := (some .int)) (by decide) rfl ?_
  intro p e s m args below meth c s₁ B hml hpre
  obtain ⟨rfl, hsz, hP, hK, hD0, hG, hA, hAB⟩ := start hpre
  have hx := B.exec
  have hb := B.bytes
  have hr := B.returns
  have hts := atoms_spec (ws := wsX7_put) B.pre
  have hown : s.vm.findClass RX7 = some m.cls := findClass_of_methodNamed B.named
  have hlocks := B.notSynchronized
  subst hsz
  generalize va_A ((wX7o E a0 a1 a2 a3 a4 a5 a6 a7 a8 a9 s0 ++ (wX2 E a1 s1 h1 ++ (wX2 E a2 s2 h2 ++ (wX1 E a3 s3 ++ (wX2 E a4 s4 h4 ++ (wX1 E a5 s5 ++ (wX5 E a6 s6 ++ (wX3 E a7 s7 ++ (wX0 E a8 s8 ++ (wX6 E a9 s9 t9)))))))))) ++ sW E.2.1 L) s.heap.size = A0 at hD0 hA hAB ⊢
  have hDD : ∀ (s0 : St) (s1 : St) (h1 : Option SR) (s2 : St) (h2 : Option SR) (s3 : St) (s4 : St) (h4 : Option SR) (s5 : St) (s6 : St) (s7 : St) (s8 : St) (s9 : St) (t9 : Nat → Nat → Int64), va_D A0 ((wX7o E a0 a1 a2 a3 a4 a5 a6 a7 a8 a9 s0 ++ (wX2 E a1 s1 h1 ++ (wX2 E a2 s2 h2 ++ (wX1 E a3 s3 ++ (wX2 E a4 s4 h4 ++ (wX1 E a5 s5 ++ (wX5 E a6 s6 ++ (wX3 E a7 s7 ++ (wX0 E a8 s8 ++ (wX6 E a9 s9 t9)))))))))) ++ sW E.2.1 L) := fun s0 s1 h1 s2 h2 s3 s4 h4 s5 s6 s7 s8 s9 t9 => vD_addr hD0 rfl
  have hS : va_S A0 s.heap s.heap [] := va_S.rf
  have hl := lv_entry ([.ref (a0 0)]) (n := 1) (Nat.le_of_ble_eq_true rfl)
  rw [lg_entry_eq]
  generalize (lg_sl ([.ref (a0 0)]) ++ List.replicate (1 - (lg_sl ([.ref (a0 0)])).length) Slot.unset).toArray = ls at hl ⊢
  have hl : lv_has ls 1 [(0, .ref (a0 0))] := hl
  refine lv_aload_n hx hb dX7_put_0 rfl (lv_at hl 0 rfl) ?_
  refine va_get (ci := 7) (C := RX7) (T := TX7) (N := 11) (v := .ref (a1 0)) hx hb hts i_X7_put_X7 hown hK hP 0 rfl rfl 0 (by decide) (hts _ m_X7_put_265b14) (fun _ h9 => h9) rfl dX7_put_1 ?_
  refine va_getN (ci := 2) (C := RX2) (T := TX2) (N := 11) (v := .int (s1 6 0)) hx hb hts i_X7_put_X2 hown hK hP 1 rfl rfl 6 (by decide) (nwG hG (w := .fieldLinkNest "PickedMatch" 108 "PickedMatch$Scene" "hadCount" "I" "PickedMatch") (by decide +kernel)) (fun _ h9 => h9) rfl dX7_put_4 ?_
  refine lv_if_ne (tgt := 13) hx hb dX7_put_7 (by decide) (fun c_7 => ?_) (fun c_7 => ?_)
  · have hf := ite_f c_7 hf
    refine lv_aload_n hx hb dX7_put_13 rfl (lv_at hl 0 rfl) ?_
    refine va_get (ci := 7) (C := RX7) (T := TX7) (N := 11) (v := .ref (a1 0)) hx hb hts i_X7_put_X7 hown hK hP 0 rfl rfl 0 (by decide) (hts _ m_X7_put_265b14) (fun _ h9 => h9) rfl dX7_put_14 ?_
    obtain ⟨q17, hc_17, hf⟩ := cl_e hf
    have hm_17 : ∀ q ∈ (wX2 E a1 s1 h1) ++ sW E.2.1 L, q ∈ (wX7o E a0 a1 a2 a3 a4 a5 a6 a7 a8 a9 s0 ++ (wX2 E a1 s1 h1 ++ (wX2 E a2 s2 h2 ++ (wX1 E a3 s3 ++ (wX2 E a4 s4 h4 ++ (wX1 E a5 s5 ++ (wX5 E a6 s6 ++ (wX3 E a7 s7 ++ (wX0 E a8 s8 ++ (wX6 E a9 s9 t9)))))))))) ++ sW E.2.1 L := (app_mem (sub_mem (suf := []) [1, 2, 3, 4, 5, 6, 7] rfl))
    refine fin_i (E := E) (wc := (wX2 E a1 s1 h1) ++ sW E.2.1 L) (wc' := (wX2 E a1 q17.2 h1) ++ sW E.2.1 L) (va_runVN (As := []) (rest := []) ⟨hx, hb, hml, hown, hts⟩ (k_X2_layDownNewest l E a1 L N s1 h1 q17 hc_17 _) ⟨va_cnB 0 hts gX7_put_X2_layDownNewest_n111 rfl rfl rfl (hG.1 (.methodLinkNest "PickedMatch" 111 yX2_layDownNewest "PickedMatch") (by decide +kernel)) (hts _ m_X7_put_4cf9d8) (by decide +kernel) ⟨(Nat.le_of_ble_eq_true rfl), (Nat.le_of_ble_eq_true rfl)⟩, (hts _ m_X7_put_6978fc), (hts _ m_X7_put_998862)⟩ (pre_v (ci := 2) (q0 := 0) hK (sub_P hm_17 hP) (sub_Ds (ws := wX7o E a0 a1 a2 a3 a4 a5 a6 a7 a8 a9 s0 ++ (wX2 E a1 s1 h1 ++ (wX2 E a2 s2 h2 ++ (wX1 E a3 s3 ++ (wX2 E a4 s4 h4 ++ (wX1 E a5 s5 ++ (wX5 E a6 s6 ++ (wX3 E a7 s7 ++ (wX0 E a8 s8 ++ (wX6 E a9 s9 t9)))))))))) (wc := wX2 E a1 s1 h1) (suf := sW E.2.1 L) [1, 2, 3, 4, 5, 6, 7] (by decide) rfl (hDD s0 s1 h1 s2 h2 s3 s4 h4 s5 s6 s7 s8 s9 t9)) hS hG hAB rfl rfl) rfl rfl hl.1 rfl (lv_room (Nat.le_of_ble_eq_true rfl)) dX7_put_17 ⟨Nat.zero_le _, Nat.zero_le _⟩) hS (w_free (hDD s0 s1 h1 s2 h2 s3 s4 h4 s5 s6 s7 s8 s9 t9) hS hA hm_17) (fun H locs hP1 hk hS => ?_)
    have hP := w_joins (ws' := wX7o E a0 a1 a2 a3 a4 a5 a6 a7 a8 a9 s0 ++ (wX2 E a1 q17.2 h1 ++ (wX2 E a2 s2 h2 ++ (wX1 E a3 s3 ++ (wX2 E a4 s4 h4 ++ (wX1 E a5 s5 ++ (wX5 E a6 s6 ++ (wX3 E a7 s7 ++ (wX0 E a8 s8 ++ (wX6 E a9 s9 t9)))))))))) (wc := wX2 E a1 s1 h1) (wc' := wX2 E a1 q17.2 h1) hP (hDD s0 s1 h1 s2 h2 s3 s4 h4 s5 s6 s7 s8 s9 t9) [1, 2, 3, 4, 5, 6, 7] rfl [none, some 0, some 1, some 2, some 3, some 4, some 5, some 6, none, none, none, none, none, none, none, none, none, none, none, none, none, none, none, none, none, none, none, none, none, none, none, none, none, none, none, none, none, none, none, none, none, none, none, none, none, none, none, none, none, none] rfl rfl hk hP1
    have e9 := Option.some.inj hf
    have h9_0 : q17.2 = q.2 := congrArg (fun z => z.2) e9
    have hP9 : va_P E.1 vwCl ((wX7o E a0 a1 a2 a3 a4 a5 a6 a7 a8 a9 s0 ++ (wX2 E a1 q.2 h1 ++ (wX2 E a2 s2 h2 ++ (wX1 E a3 s3 ++ (wX2 E a4 s4 h4 ++ (wX1 E a5 s5 ++ (wX5 E a6 s6 ++ (wX3 E a7 s7 ++ (wX0 E a8 s8 ++ (wX6 E a9 s9 t9)))))))))) ++ sW E.2.1 L) H := by rw [← h9_0]; exact hP
    exact rt_i hx hb hr hlocks (fst_e e9) hP9 hS dX7_put_20
  · have hf := ite_t c_7 hf
    refine lv_bipush (v := (-3)) hx hb dX7_put_10 (by decide) ?_
    have e9 := Option.some.inj hf
    have h9_0 : s1 = q.2 := congrArg (fun z => z.2) e9
    have hP9 : va_P E.1 vwCl ((wX7o E a0 a1 a2 a3 a4 a5 a6 a7 a8 a9 s0 ++ (wX2 E a1 q.2 h1 ++ (wX2 E a2 s2 h2 ++ (wX1 E a3 s3 ++ (wX2 E a4 s4 h4 ++ (wX1 E a5 s5 ++ (wX5 E a6 s6 ++ (wX3 E a7 s7 ++ (wX0 E a8 s8 ++ (wX6 E a9 s9 t9)))))))))) ++ sW E.2.1 L) s.heap := by rw [← h9_0]; exact hP
    exact rt_i hx hb hr hlocks (fst_e e9) hP9 hS dX7_put_12
abbrev rm_X7_feed : Room := { frames := 1, cells := 0, slots := 0, locals := 22 }
theorem m_X7_feed_d00ad8 : Cond.fieldLink RX7 37 "PickedMatch" "reader" "LPickedMatch$StreetReader;" ∈ wsX7_feed := by decide +kernel
theorem i_X7_feed_X7 : ∀ w ∈ wsX70, w ∈ wsX7_feed := fun _ h => List.mem_cons_of_mem _ (List.mem_append_left _ (List.mem_append_right _ h))
theorem i_X7_feed_X5 : ∀ w ∈ wsX50, w ∈ wsX7_feed := fun _ h => List.mem_cons_of_mem _ (List.mem_append_right _ h)
theorem m_X7_feed_ba2631 : Cond.initialized RX5 ∈ wsX7_feed := by decide +kernel
theorem m_X7_feed_fc85eb : Cond.instanceMethod yX5_addSign ∈ wsX7_feed := by decide +kernel
theorem m_X7_feed_d1b99c : Cond.selects RX5 yX5_addSign yX5_addSign ∈ wsX7_feed := by decide +kernel
set_option maxHeartbeats 8000000 in
set_option maxRecDepth 100000 in
theorem k_X7_feed (l : Launch) (E : Ev) (a0 : Nat → Nat) (a1 : Nat → Nat) (a2 : Nat → Nat) (a3 : Nat → Nat) (a4 : Nat → Nat) (a5 : Nat → Nat) (a6 : Nat → Nat) (a7 : Nat → Nat) (a8 : Nat → Nat) (a9 : Nat → Nat) (L : List SR) (N : Nat) (s0 : St) (s1 : St) (h1 : Option SR) (s2 : St) (h2 : Option SR) (s3 : St) (s4 : St) (h4 : Option SR) (s5 : St) (s6 : St) (s7 : St) (s8 : St) (s9 : St) (t9 : Nat → Nat → Int64) (p1 : Int32) (q : (Int32 × St)) (hf : f_X7_feed N s6 p1 = some q) : Ci l yX7_feed wsX7_feed rm_X7_feed E [.ref (a0 0), .int p1] ((wX7o E a0 a1 a2 a3 a4 a5 a6 a7 a8 a9 s0 ++ (wX2 E a1 s1 h1 ++ (wX2 E a2 s2 h2 ++ (wX1 E a3 s3 ++ (wX2 E a4 s4 h4 ++ (wX1 E a5 s5 ++ (wX5 E a6 s6 ++ (wX3 E a7 s7 ++ (wX0 E a8 s8 ++ (wX6 E a9 s9 t9)))))))))) ++ sW E.2.1 L) ((wX7o E a0 a1 a2 a3 a4 a5 a6 a7 a8 a9 s0 ++ (wX2 E a1 s1 h1 ++ (wX2 E a2 s2 h2 ++ (wX1 E a3 s3 ++ (wX2 E a4 s4 h4 ++ (wX1 E a5 s5 ++ (wX5 E a6 q.2 ++ (wX3 E a7 s7 ++ (wX0 E a8 s8 ++ (wX6 E a9 s9 t9)))))))))) ++ sW E.2.1 L) q.1 := by
  unfold f_X7_feed at hf
  intro sz
  refine Met.ofW (cc := cX7_feed) (maxL := 2) (ret := (some .int)) (by decide) rfl ?_
  intro p e s m args below meth c s₁ B hml hpre
  obtain ⟨rfl, hsz, hP, hK, hD0, hG, hA, hAB⟩ := start hpre
  have hx := B.exec
  have hb := B.bytes
  have hr := B.returns
  have hts := atoms_spec (ws := wsX7_feed) B.pre
  have hown : s.vm.findClass RX7 = some m.cls := findClass_of_methodNamed B.named
  have hlocks := B.notSynchronized
  subst hsz
  generalize va_A ((wX7o E a0 a1 a2 a3 a4 a5 a6 a7 a8 a9 s0 ++ (wX2 E a1 s1 h1 ++ (wX2 E a2 s2 h2 ++ (wX1 E a3 s3 ++ (wX2 E a4 s4 h4 ++ (wX1 E a5 s5 ++ (wX5 E a6 s6 ++ (wX3 E a7 s7 ++ (wX0 E a8 s8 ++ (wX6 E a9 s9 t9)))))))))) ++ sW E.2.1 L) s.heap.size = A0 at hD0 hA hAB ⊢
  have hDD : ∀ (s0 : St) (s1 : St) (h1 : Option SR) (s2 : St) (h2 : Option SR) (s3 : St) (s4 : St) (h4 : Option SR) (s5 : St) (s6 : St) (s7 : St) (s8 : St) (s9 : St) (t9 : Nat → Nat → Int64), va_D A0 ((wX7o E a0 a1 a2 a3 a4 a5 a6 a7 a8 a9 s0 ++ (wX2 E a1 s1 h1 ++ (wX2 E a2 s2 h2 ++ (wX1 E a3 s3 ++ (wX2 E a4 s4 h4 ++ (wX1 E a5 s5 ++ (wX5 E a6 s6 ++ (wX3 E a7 s7 ++ (wX0 E a8 s8 ++ (wX6 E a9 s9 t9)))))))))) ++ sW E.2.1 L) := fun s0 s1 h1 s2 h2 s3 s4 h4 s5 s6 s7 s8 s9 t9 => vD_addr hD0 rfl
  have hS : va_S A0 s.heap s.heap [] := va_S.rf
  have hl := lv_entry ([.ref (a0 0), .int p1]) (n := 2) (Nat.le_of_ble_eq_true rfl)
  rw [lg_entry_eq]
  generalize (lg_sl ([.ref (a0 0), .int p1]) ++ List.replicate (2 - (lg_sl ([.ref (a0 0), .int p1])).length) Slot.unset).toArray = ls at hl ⊢
  have hl : lv_has ls 2 [(0, .ref (a0 0)), (1, .int p1)] := hl
  refine lv_iload_n hx hb dX7_feed_0 rfl (lv_at hl 1 rfl) ?_
  refine lv_iconst (v := 0) hx hb dX7_feed_1 (by decide) ?_
  refine lv_bipush (v := 127) hx hb dX7_feed_2 (by decide) ?_
  obtain ⟨q4, hc_4, hf⟩ := cl_e hf
  refine fin_i (E := E) (wc := ([] : va_W)) (wc' := ([] : va_W)) (va_runS (As := [.int p1, .int 0, .int 127]) (rest := []) ⟨hx, hb, hml, hown, hts⟩ (k_X7_isWithin l E N p1 0 127 q4 hc_4 _) (va_cwS 3 hts gX7_feed_X7_isWithin rfl rfl rfl (by decide +kernel) ⟨(Nat.le_of_ble_eq_true rfl), (Nat.le_of_ble_eq_true rfl)⟩) (pre_s hK va_P_nil va_D_nil hS hG hAB) rfl rfl hl.1 rfl (lv_room (Nat.le_of_ble_eq_true rfl)) dX7_feed_4 ⟨Nat.zero_le _, Nat.zero_le _⟩) hS (free_nil hS hA) (fun H locs hP1 hk hS => ?_)
  have hP := w_kept0 hP hk
  refine lv_if_ne (tgt := 13) hx hb dX7_feed_7 (by decide) (fun c_7 => ?_) (fun c_7 => ?_)
  · have hf := ite_f c_7 hf
    refine lv_aload_n hx hb dX7_feed_13 rfl (lv_at hl 0 rfl) ?_
    refine va_get (ci := 7) (C := RX7) (T := TX7) (N := 11) (v := .ref (a6 0)) hx hb hts i_X7_feed_X7 hown hK hP 0 rfl rfl 6 (by decide) (hts _ m_X7_feed_d00ad8) (fun _ h9 => h9) rfl dX7_feed_14 ?_
    refine va_getN (ci := 5) (C := RX5) (T := TX5) (N := 8) (v := .int (s6 1 0)) hx hb hts i_X7_feed_X5 hown hK hP 38 rfl rfl 1 (by decide) (nwG hG (w := .fieldLinkNest "PickedMatch" 115 "PickedMatch$StreetReader" "length" "I" "PickedMatch") (by decide +kernel)) (fun _ h9 => h9) rfl dX7_feed_17 ?_
    refine lv_bipush (v := 100) hx hb dX7_feed_20 (by decide) ?_
    refine lv_icmp_lt (tgt := 28) hx hb dX7_feed_22 (by decide) (fun c_22 => ?_) (fun c_22 => ?_)
    · have hf := ite_t c_22 hf
      refine lv_aload_n hx hb dX7_feed_28 rfl (lv_at hl 0 rfl) ?_
      refine va_get (ci := 7) (C := RX7) (T := TX7) (N := 11) (v := .ref (a6 0)) hx hb hts i_X7_feed_X7 hown hK hP 0 rfl rfl 6 (by decide) (hts _ m_X7_feed_d00ad8) (fun _ h9 => h9) rfl dX7_feed_29 ?_
      refine lv_iload_n hx hb dX7_feed_32 rfl (lv_at hl 1 rfl) ?_
      obtain ⟨q33, hc_33, hf⟩ := cl_e hf
      have hm_33 : ∀ q ∈ wX5 E a6 s6, q ∈ (wX7o E a0 a1 a2 a3 a4 a5 a6 a7 a8 a9 s0 ++ (wX2 E a1 s1 h1 ++ (wX2 E a2 s2 h2 ++ (wX1 E a3 s3 ++ (wX2 E a4 s4 h4 ++ (wX1 E a5 s5 ++ (wX5 E a6 s6 ++ (wX3 E a7 s7 ++ (wX0 E a8 s8 ++ (wX6 E a9 s9 t9)))))))))) ++ sW E.2.1 L := (inl_mem (sub_mem (suf := []) [38, 39, 40] rfl))
      refine fin_i (E := E) (wc := wX5 E a6 s6) (wc' := wX5 E a6 q33.2) (va_runVN (As := [.int p1]) (rest := []) ⟨hx, hb, hml, hown, hts⟩ (k_X5_addSign l E a6 N s6 p1 q33 hc_33 _) ⟨va_cnB 1 hts gX7_feed_X5_addSign_n118 rfl rfl rfl (hG.1 (.methodLinkNest "PickedMatch" 118 yX5_addSign "PickedMatch") (by decide +kernel)) (hts _ m_X7_feed_ba2631) (by decide +kernel) ⟨(Nat.le_of_ble_eq_true rfl), (Nat.le_of_ble_eq_true rfl)⟩, (hts _ m_X7_feed_fc85eb), (hts _ m_X7_feed_d1b99c)⟩ (pre_v (ci := 5) (q0 := 0) hK (sub_P hm_33 hP) (sub_Dn (ws := wX7o E a0 a1 a2 a3 a4 a5 a6 a7 a8 a9 s0 ++ (wX2 E a1 s1 h1 ++ (wX2 E a2 s2 h2 ++ (wX1 E a3 s3 ++ (wX2 E a4 s4 h4 ++ (wX1 E a5 s5 ++ (wX5 E a6 s6 ++ (wX3 E a7 s7 ++ (wX0 E a8 s8 ++ (wX6 E a9 s9 t9)))))))))) (wc := wX5 E a6 s6) (suf := sW E.2.1 L) [38, 39, 40] (by decide) rfl (hDD s0 s1 h1 s2 h2 s3 s4 h4 s5 s6 s7 s8 s9 t9)) hS hG hAB rfl rfl) rfl rfl hl.1 rfl (lv_room (Nat.le_of_ble_eq_true rfl)) dX7_feed_33 ⟨Nat.zero_le _, Nat.zero_le _⟩) hS (w_free (hDD s0 s1 h1 s2 h2 s3 s4 h4 s5 s6 s7 s8 s9 t9) hS hA hm_33) (fun H locs hP1 hk hS => ?_)
      have hP := w_join (ws' := wX7o E a0 a1 a2 a3 a4 a5 a6 a7 a8 a9 s0 ++ (wX2 E a1 s1 h1 ++ (wX2 E a2 s2 h2 ++ (wX1 E a3 s3 ++ (wX2 E a4 s4 h4 ++ (wX1 E a5 s5 ++ (wX5 E a6 q33.2 ++ (wX3 E a7 s7 ++ (wX0 E a8 s8 ++ (wX6 E a9 s9 t9)))))))))) (wc := wX5 E a6 s6) (wc' := wX5 E a6 q33.2) hP (hDD s0 s1 h1 s2 h2 s3 s4 h4 s5 s6 s7 s8 s9 t9) [38, 39, 40] rfl [none, none, none, none, none, none, none, none, none, none, none, none, none, none, none, none, none, none, none, none, none, none, none, none, none, none, none, none, none, none, none, none, none, none, none, none, none, none, some 0, some 1, some 2, none, none, none, none, none, none, none, none, none] rfl rfl hk hP1
      have e9 := Option.some.inj hf
      have h9_0 : q33.2 = q.2 := congrArg (fun z => z.2) e9
      have hP9 : va_P E.1 vwCl ((wX7o E a0 a1 a2 a3 a4 a5 a6 a7 a8 a9 s0 ++ (wX2 E a1 s1 h1 ++ (wX2 E a2 s2 h2 ++ (wX1 E a3 s3 ++ (wX2 E a4 s4 h4 ++ (wX1 E a5 s5 ++ (wX5 E a6 q.2 ++ (wX3 E a7 s7 ++ (wX0 E a8 s8 ++ (wX6 E a9 s9 t9)))))))))) ++ sW E.2.1 L) H := by rw [← h9_0]; exact hP
      exact rt_i hx hb hr hlocks (fst_e e9) hP9 hS dX7_feed_36
    · have hf := ite_f c_22 hf
      refine lv_bipush (v := (-4)) hx hb dX7_feed_25 (by decide) ?_
      have e9 := Option.some.inj hf
      have h9_0 : s6 = q.2 := congrArg (fun z => z.2) e9
      have hP9 : va_P E.1 vwCl ((wX7o E a0 a1 a2 a3 a4 a5 a6 a7 a8 a9 s0 ++ (wX2 E a1 s1 h1 ++ (wX2 E a2 s2 h2 ++ (wX1 E a3 s3 ++ (wX2 E a4 s4 h4 ++ (wX1 E a5 s5 ++ (wX5 E a6 q.2 ++ (wX3 E a7 s7 ++ (wX0 E a8 s8 ++ (wX6 E a9 s9 t9)))))))))) ++ sW E.2.1 L) H := by rw [← h9_0]; exact hP
      exact rt_i hx hb hr hlocks (fst_e e9) hP9 hS dX7_feed_27
  · have hf := ite_t c_7 hf
    refine lv_bipush (v := (-2)) hx hb dX7_feed_10 (by decide) ?_
    have e9 := Option.some.inj hf
    have h9_0 : s6 = q.2 := congrArg (fun z => z.2) e9
    have hP9 : va_P E.1 vwCl ((wX7o E a0 a1 a2 a3 a4 a5 a6 a7 a8 a9 s0 ++ (wX2 E a1 s1 h1 ++ (wX2 E a2 s2 h2 ++ (wX1 E a3 s3 ++ (wX2 E a4 s4 h4 ++ (wX1 E a5 s5 ++ (wX5 E a6 q.2 ++ (wX3 E a7 s7 ++ (wX0 E a8 s8 ++ (wX6 E a9 s9 t9)))))))))) ++ sW E.2.1 L) H := by rw [← h9_0]; exact hP
    exact rt_i hx hb hr hlocks (fst_e e9) hP9 hS dX7_feed_12
abbrev rm_X7_twinsNow : Room := { frames := 1, cells := 0, slots := 0, locals := 20 }
theorem m_X7_twinsNow_265b14 : Cond.fieldLink RX7 12 "PickedMatch" "scene" "LPickedMatch$Scene;" ∈ wsX7_twinsNow := by decide +kernel
theorem i_X7_twinsNow_X7 : ∀ w ∈ wsX70, w ∈ wsX7_twinsNow := fun _ h => List.mem_cons_of_mem _ (List.mem_append_left _ (List.mem_append_right _ h))
theorem i_X7_twinsNow_X2 : ∀ w ∈ wsX20, w ∈ wsX7_twinsNow := fun _ h => List.mem_cons_of_mem _ (List.mem_append_right _ h)
set_option maxHeartbeats 8000000 in
set_option maxRecDepth 100000 in
theorem k_X7_twinsNow (l : Launch) (E : Ev) (a0 : Nat → Nat) (a1 : Nat → Nat) (a2 : Nat → Nat) (a3 : Nat → Nat) (a4 : Nat → Nat) (a5 : Nat → Nat) (a6 : Nat → Nat) (a7 : Nat → Nat) (a8 : Nat → Nat) (a9 : Nat → Nat) (L : List SR) (N : Nat) (s0 : St) (s1 : St) (h1 : Option SR) (s2 : St) (h2 : Option SR) (s3 : St) (s4 : St) (h4 : Option SR) (s5 : St) (s6 : St) (s7 : St) (s8 : St) (s9 : St) (t9 : Nat → Nat → Int64) (q : (Int32)) (hf : f_X7_twinsNow N s1 = some q) : Ci l yX7_twinsNow wsX7_twinsNow rm_X7_twinsNow E [.ref (a0 0)] ((wX7o E a0 a1 a2 a3 a4 a5 a6 a7 a8 a9 s0 ++ (wX2 E a1 s1 h1 ++ (wX2 E a2 s2 h2 ++ (wX1 E a3 s3 ++ (wX2 E a4 s4 h4 ++ (wX1 E a5 s5 ++ (wX5 E a6 s6 ++ (wX3 E a7 s7 ++ (wX0 E a8 s8 ++ (wX6 E a9 s9 t9)))))))))) ++ sW E.2.1 L) ((wX7o E a0 a1 a2 a3 a4 a5 a6 a7 a8 a9 s0 ++ (wX2 E a1 s1 h1 ++ (wX2 E a2 s2 h2 ++ (wX1 E a3 s3 ++ (wX2 E a4 s4 h4 ++ (wX1 E a5 s5 ++ (wX5 E a6 s6 ++ (wX3 E a7 s7 ++ (wX0 E a8 s8 ++ (wX6 E a9 s9 t9)))))))))) ++ sW E.2.1 L) q := by
  unfold f_X7_twinsNow at hf
  intro sz
  refine Met.ofW (cc := cX7_twinsNow) (maxL := 6) (ret := (some .int)) (by decide) rfl ?_
  intro p e s m args below meth c s₁ B hml hpre
  obtain ⟨rfl, hsz, hP, hK, hD0, hG, hA, hAB⟩ := start hpre
  have hx := B.exec
  have hb := B.bytes
  have hr := B.returns
  have hts := atoms_spec (ws := wsX7_twinsNow) B.pre
  have hown : s.vm.findClass RX7 = some m.cls := findClass_of_methodNamed B.named
  have hlocks := B.notSynchronized
  subst hsz
  generalize va_A ((wX7o E a0 a1 a2 a3 a4 a5 a6 a7 a8 a9 s0 ++ (wX2 E a1 s1 h1 ++ (wX2 E a2 s2 h2 ++ (wX1 E a3 s3 ++ (wX2 E a4 s4 h4 ++ (wX1 E a5 s5 ++ (wX5 E a6 s6 ++ (wX3 E a7 s7 ++ (wX0 E a8 s8 ++ (wX6 E a9 s9 t9)))))))))) ++ sW E.2.1 L) s.heap.size = A0 at hD0 hA hAB ⊢
  have hDD : ∀ (s0 : St) (s1 : St) (h1 : Option SR) (s2 : St) (h2 : Option SR) (s3 : St) (s4 : St) (h4 : Option SR) (s5 : St) (s6 : St) (s7 : St) (s8 : St) (s9 : St) (t9 : Nat → Nat → Int64), va_D A0 ((wX7o E a0 a1 a2 a3 a4 a5 a6 a7 a8 a9 s0 ++ (wX2 E a1 s1 h1 ++ (wX2 E a2 s2 h2 ++ (wX1 E a3 s3 ++ (wX2 E a4 s4 h4 ++ (wX1 E a5 s5 ++ (wX5 E a6 s6 ++ (wX3 E a7 s7 ++ (wX0 E a8 s8 ++ (wX6 E a9 s9 t9)))))))))) ++ sW E.2.1 L) := fun s0 s1 h1 s2 h2 s3 s4 h4 s5 s6 s7 s8 s9 t9 => vD_addr hD0 rfl
  have hS : va_S A0 s.heap s.heap [] := va_S.rf
  have hl := lv_entry ([.ref (a0 0)]) (n := 6) (Nat.le_of_ble_eq_true rfl)
  rw [lg_entry_eq]
  generalize (lg_sl ([.ref (a0 0)]) ++ List.replicate (6 - (lg_sl ([.ref (a0 0)])).length) Slot.unset).toArray = ls at hl ⊢
  have hl : lv_has ls 6 [(0, .ref (a0 0))] := hl
  have hL_9 : ∀ (s1 : St) (n_9 : Nat) (v1 : Int32) (v2 : Int32) (v3 : Int32), l_X7_twinsNow_9 N s1 n_9 v1 v2 v3 = some q → ∀ (H : Heap) (locs : List Loc) (ls : Array Slot), va_P E.1 vwCl ((wX7o E a0 a1 a2 a3 a4 a5 a6 a7 a8 a9 s0 ++ (wX2 E a1 s1 h1 ++ (wX2 E a2 s2 h2 ++ (wX1 E a3 s3 ++ (wX2 E a4 s4 h4 ++ (wX1 E a5 s5 ++ (wX5 E a6 s6 ++ (wX3 E a7 s7 ++ (wX0 E a8 s8 ++ (wX6 E a9 s9 t9)))))))))) ++ sW E.2.1 L) H → va_S A0 s.heap H locs → lv_has ls 6 [(0, .ref (a0 0)), (1, .int v1), (2, .int v2), (3, .int v3)] → W p l e rm_X7_twinsNow s m ([.ref (a0 0)] : List Value).toArray below meth c H locs 0 0 (MQ below (va_Qi (fun (r' : Int32) (_ : Unit) => r' = q) (fun _ t => va_P E.1 vwCl ((wX7o E a0 a1 a2 a3 a4 a5 a6 a7 a8 a9 s0 ++ (wX2 E a1 s1 h1 ++ (wX2 E a2 s2 h2 ++ (wX1 E a3 s3 ++ (wX2 E a4 s4 h4 ++ (wX1 E a5 s5 ++ (wX5 E a6 s6 ++ (wX3 E a7 s7 ++ (wX0 E a8 s8 ++ (wX6 E a9 s9 t9)))))))))) ++ sW E.2.1 L) t.heap) A0) ([.ref (a0 0)] : List Value).toArray s 0 0 A0) (F0 m 9 ls []) := by
    intro s1 n_9
    induction n_9 with
    | zero => intro v1 v2 v3 hf; rw [l_X7_twinsNow_9] at hf; cases hf
    | succ n_9 ih_9 =>
      intro v1 v2 v3 hf H locs ls hP hS hl
      rw [l_X7_twinsNow_9] at hf
      have hL_25 : ∀ (v3 : Int32) (n_25 : Nat) (v1 : Int32) (v2 : Int32) (v4 : Int32), l_X7_twinsNow_25 N (l_X7_twinsNow_9 N s1 n_9) s1 v3 n_25 v1 v2 v4 = some q → ∀ (H : Heap) (locs : List Loc) (ls : Array Slot), va_P E.1 vwCl ((wX7o E a0 a1 a2 a3 a4 a5 a6 a7 a8 a9 s0 ++ (wX2 E a1 s1 h1 ++ (wX2 E a2 s2 h2 ++ (wX1 E a3 s3 ++ (wX2 E a4 s4 h4 ++ (wX1 E a5 s5 ++ (wX5 E a6 s6 ++ (wX3 E a7 s7 ++ (wX0 E a8 s8 ++ (wX6 E a9 s9 t9)))))))))) ++ sW E.2.1 L) H → va_S A0 s.heap H locs → lv_has ls 6 [(0, .ref (a0 0)), (1, .int v1), (2, .int v2), (3, .int v3), (4, .int v4)] → W p l e rm_X7_twinsNow s m ([.ref (a0 0)] : List Value).toArray below meth c H locs 0 0 (MQ below (va_Qi (fun (r' : Int32) (_ : Unit) => r' = q) (fun _ t => va_P E.1 vwCl ((wX7o E a0 a1 a2 a3 a4 a5 a6 a7 a8 a9 s0 ++ (wX2 E a1 s1 h1 ++ (wX2 E a2 s2 h2 ++ (wX1 E a3 s3 ++ (wX2 E a4 s4 h4 ++ (wX1 E a5 s5 ++ (wX5 E a6 s6 ++ (wX3 E a7 s7 ++ (wX0 E a8 s8 ++ (wX6 E a9 s9 t9)))))))))) ++ sW E.2.1 L) t.heap) A0) ([.ref (a0 0)] : List Value).toArray s 0 0 A0) (F0 m 25 ls []) := by
        intro v3 n_25
        induction n_25 with
        | zero => intro v1 v2 v4 hf; rw [l_X7_twinsNow_25] at hf; cases hf
        | succ n_25 ih_25 =>
          intro v1 v2 v4 hf H locs ls hP hS hl
          rw [l_X7_twinsNow_25] at hf
          refine lv_iload hx hb dX7_twinsNow_25 (lv_at hl 4 rfl) ?_
          refine lv_aload_n hx hb dX7_twinsNow_27 rfl (lv_at hl 0 rfl) ?_
          refine va_get (ci := 7) (C := RX7) (T := TX7) (N := 11) (v := .ref (a1 0)) hx hb hts i_X7_twinsNow_X7 hown hK hP 0 rfl rfl 0 (by decide) (hts _ m_X7_twinsNow_265b14) (fun _ h9 => h9) rfl dX7_twinsNow_28 ?_
          refine va_getN (ci := 2) (C := RX2) (T := TX2) (N := 11) (v := .int (s1 0 0)) hx hb hts i_X7_twinsNow_X2 hown hK hP 1 rfl rfl 0 (by decide) (nwG hG (w := .fieldLinkNest "PickedMatch" 66 "PickedMatch$Scene" "things" "I" "PickedMatch") (by decide +kernel)) (fun _ h9 => h9) rfl dX7_twinsNow_31 ?_
          refine lv_icmp_ge (tgt := 85) hx hb dX7_twinsNow_34 (by decide) (fun c_34 => ?_) (fun c_34 => ?_)
          · have hf := ite_t c_34 hf
            obtain ⟨x85, e_x85⟩ : ∃ y : Int32, y = v3 + 1 := ⟨_, rfl⟩
            have hf := nm_q e_x85 hf
            refine lv_iinc (v := x85) (lv' := [(3, .int x85), (0, .ref (a0 0)), (1, .int v1), (2, .int v2), (4, .int v4)]) hx hb dX7_twinsNow_85 hl (k := 3) rfl (by rw [e_x85]; rfl) (Nat.le_of_ble_eq_true rfl) rfl (fun ls hl => ?_)
            refine lv_goto (tgt := 9) hx hb dX7_twinsNow_88 (by decide) ?_
            exact ih_9 v1 v2 x85 hf _ _ _ hP hS (lv_sub hl [1, 2, 3, 0] rfl)
          · have hf := ite_f c_34 hf
            refine lv_aload_n hx hb dX7_twinsNow_37 rfl (lv_at hl 0 rfl) ?_
            refine va_get (ci := 7) (C := RX7) (T := TX7) (N := 11) (v := .ref (a1 0)) hx hb hts i_X7_twinsNow_X7 hown hK hP 0 rfl rfl 0 (by decide) (hts _ m_X7_twinsNow_265b14) (fun _ h9 => h9) rfl dX7_twinsNow_38 ?_
            refine va_getN (ci := 2) (C := RX2) (T := TX2) (N := 11) (v := .ref (a1 3)) hx hb hts i_X7_twinsNow_X2 hown hK hP 1 rfl rfl 3 (by decide) (nwG hG (w := .fieldLinkNest "PickedMatch" 85 "PickedMatch$Scene" "marks" "[I" "PickedMatch") (by decide +kernel)) (fun _ h9 => h9) rfl dX7_twinsNow_41 ?_
            refine lv_iload_n hx hb dX7_twinsNow_44 rfl (lv_at hl 3 rfl) ?_
            obtain ⟨h_45, hf⟩ := ck_e hf
            refine va_iald (cA := E.2.1) (n := 6) (f := s1 3) hx hb hK hP 4 0 rfl rfl h_45 dX7_twinsNow_45 ?_
            refine lv_aload_n hx hb dX7_twinsNow_46 rfl (lv_at hl 0 rfl) ?_
            refine va_get (ci := 7) (C := RX7) (T := TX7) (N := 11) (v := .ref (a1 0)) hx hb hts i_X7_twinsNow_X7 hown hK hP 0 rfl rfl 0 (by decide) (hts _ m_X7_twinsNow_265b14) (fun _ h9 => h9) rfl dX7_twinsNow_47 ?_
            refine va_getN (ci := 2) (C := RX2) (T := TX2) (N := 11) (v := .ref (a1 3)) hx hb hts i_X7_twinsNow_X2 hown hK hP 1 rfl rfl 3 (by decide) (nwG hG (w := .fieldLinkNest "PickedMatch" 85 "PickedMatch$Scene" "marks" "[I" "PickedMatch") (by decide +kernel)) (fun _ h9 => h9) rfl dX7_twinsNow_50 ?_
            refine lv_iload hx hb dX7_twinsNow_53 (lv_at hl 4 rfl) ?_
            obtain ⟨h_55, hf⟩ := ck_e hf
            refine va_iald (cA := E.2.1) (n := 6) (f := s1 3) hx hb hK hP 4 0 rfl rfl h_55 dX7_twinsNow_55 ?_
            refine lv_ixor hx hb dX7_twinsNow_56 ?_
            obtain ⟨q57, hc_57, hf⟩ := cl_e hf
            refine fin_i (E := E) (wc := ([] : va_W)) (wc' := ([] : va_W)) (va_runS (As := [.int ((s1 3 v3.toNatClampNeg) ^^^ (s1 3 v4.toNatClampNeg))]) (rest := []) ⟨hx, hb, hml, hown, hts⟩ (k_J6_bitCount_0f7a4 l E N ((s1 3 v3.toNatClampNeg) ^^^ (s1 3 v4.toNatClampNeg)) q57 hc_57 _) (va_cwS 1 hts gX7_twinsNow_J6_bitCount_0f7a4 rfl rfl rfl (by decide +kernel) ⟨(Nat.le_of_ble_eq_true rfl), (Nat.le_of_ble_eq_true rfl)⟩) (pre_s hK va_P_nil va_D_nil hS hG hAB) rfl rfl hl.1 rfl (lv_room (Nat.le_of_ble_eq_true rfl)) dX7_twinsNow_57 ⟨Nat.zero_le _, Nat.zero_le _⟩) hS (free_nil hS hA) (fun H locs hP1 hk hS => ?_)
            have hP := w_kept0 hP hk
            refine lv_istore (lv' := [(5, .int q57), (0, .ref (a0 0)), (1, .int v1), (2, .int v2), (3, .int v3), (4, .int v4)]) hx hb dX7_twinsNow_60 hl (Nat.le_of_ble_eq_true rfl) rfl (fun ls hl => ?_)
            refine lv_iload hx hb dX7_twinsNow_62 (lv_at hl 0 rfl) ?_
            refine lv_iload_n hx hb dX7_twinsNow_64 rfl (lv_at hl 3 rfl) ?_
            refine lv_icmp_ge (tgt := 79) hx hb dX7_twinsNow_65 (by decide) (fun c_65 => ?_) (fun c_65 => ?_)
            · have hf := ite_t c_65 hf
              obtain ⟨x79, e_x79⟩ : ∃ y : Int32, y = v4 + 1 := ⟨_, rfl⟩
              have hf := nm_q e_x79 hf
              refine lv_iinc (v := x79) (lv' := [(4, .int x79), (5, .int q57), (0, .ref (a0 0)), (1, .int v1), (2, .int v2), (3, .int v3)]) hx hb dX7_twinsNow_79 hl (k := 5) rfl (by rw [e_x79]; rfl) (Nat.le_of_ble_eq_true rfl) rfl (fun ls hl => ?_)
              refine lv_goto (tgt := 25) hx hb dX7_twinsNow_82 (by decide) ?_
              exact ih_25 v1 v2 x79 hf _ _ _ hP hS (lv_sub hl [2, 3, 4, 5, 0] rfl)
            · have hf := ite_f c_65 hf
              refine lv_iload hx hb dX7_twinsNow_68 (lv_at hl 0 rfl) ?_
              refine lv_istore_n (lv' := [(2, .int q57), (5, .int q57), (0, .ref (a0 0)), (1, .int v1), (3, .int v3), (4, .int v4)]) hx hb dX7_twinsNow_70 rfl hl (Nat.le_of_ble_eq_true rfl) rfl (fun ls hl => ?_)
              refine lv_bipush (v := 10) hx hb dX7_twinsNow_71 (by decide) ?_
              refine lv_iload_n hx hb dX7_twinsNow_73 rfl (lv_at hl 4 rfl) ?_
              refine lv_imul hx hb dX7_twinsNow_74 ?_
              refine lv_iload hx hb dX7_twinsNow_75 (lv_at hl 5 rfl) ?_
              refine lv_iadd hx hb dX7_twinsNow_77 ?_
              refine lv_topi (fun x78 e_x78 => ?_)
              have hf := nm_q e_x78 hf
              refine lv_istore_n (lv' := [(1, .int x78), (2, .int q57), (5, .int q57), (0, .ref (a0 0)), (3, .int v3), (4, .int v4)]) hx hb dX7_twinsNow_78 rfl hl (Nat.le_of_ble_eq_true rfl) rfl (fun ls hl => ?_)
              obtain ⟨x79, e_x79⟩ : ∃ y : Int32, y = v4 + 1 := ⟨_, rfl⟩
              have hf := nm_q e_x79 hf
              refine lv_iinc (v := x79) (lv' := [(4, .int x79), (1, .int x78), (2, .int q57), (5, .int q57), (0, .ref (a0 0)), (3, .int v3)]) hx hb dX7_twinsNow_79 hl (k := 5) rfl (by rw [e_x79]; rfl) (Nat.le_of_ble_eq_true rfl) rfl (fun ls hl => ?_)
              refine lv_goto (tgt := 25) hx hb dX7_twinsNow_82 (by decide) ?_
              exact ih_25 x78 q57 x79 hf _ _ _ hP hS (lv_sub hl [4, 1, 2, 5, 0] rfl)
      refine lv_iload_n hx hb dX7_twinsNow_9 rfl (lv_at hl 3 rfl) ?_
      refine lv_aload_n hx hb dX7_twinsNow_10 rfl (lv_at hl 0 rfl) ?_
      refine va_get (ci := 7) (C := RX7) (T := TX7) (N := 11) (v := .ref (a1 0)) hx hb hts i_X7_twinsNow_X7 hown hK hP 0 rfl rfl 0 (by decide) (hts _ m_X7_twinsNow_265b14) (fun _ h9 => h9) rfl dX7_twinsNow_11 ?_
      refine va_getN (ci := 2) (C := RX2) (T := TX2) (N := 11) (v := .int (s1 0 0)) hx hb hts i_X7_twinsNow_X2 hown hK hP 1 rfl rfl 0 (by decide) (nwG hG (w := .fieldLinkNest "PickedMatch" 66 "PickedMatch$Scene" "things" "I" "PickedMatch") (by decide +kernel)) (fun _ h9 => h9) rfl dX7_twinsNow_14 ?_
      refine lv_icmp_ge (tgt := 91) hx hb dX7_twinsNow_17 (by decide) (fun c_17 => ?_) (fun c_17 => ?_)
      · have hf := ite_t c_17 hf
        refine lv_iload_n hx hb dX7_twinsNow_91 rfl (lv_at hl 1 rfl) ?_
        have e9 := Option.some.inj hf
        exact rt_i hx hb hr hlocks e9 hP hS dX7_twinsNow_92
      · have hf := ite_f c_17 hf
        refine lv_iload_n hx hb dX7_twinsNow_20 rfl (lv_at hl 3 rfl) ?_
        refine lv_iconst (v := 1) hx hb dX7_twinsNow_21 (by decide) ?_
        refine lv_iadd hx hb dX7_twinsNow_22 ?_
        refine lv_topi (fun x23 e_x23 => ?_)
        have hf := nm_q e_x23 hf
        refine lv_istore (lv' := [(4, .int x23), (0, .ref (a0 0)), (1, .int v1), (2, .int v2), (3, .int v3)]) hx hb dX7_twinsNow_23 hl (Nat.le_of_ble_eq_true rfl) rfl (fun ls hl => ?_)
        exact hL_25 v3 N v1 v2 x23 hf _ _ _ hP hS (lv_sub hl [1, 2, 3, 4, 0] rfl)
  refine lv_bipush (v := (-5)) hx hb dX7_twinsNow_0 (by decide) ?_
  refine lv_topi (fun x2 e_x2 => ?_)
  have hf := nm_q e_x2 hf
  refine lv_istore_n (lv' := [(1, .int x2), (0, .ref (a0 0))]) hx hb dX7_twinsNow_2 rfl hl (Nat.le_of_ble_eq_true rfl) rfl (fun ls hl => ?_)
  refine lv_sipush (v := 255) hx hb dX7_twinsNow_3 (by decide) ?_
  refine lv_istore_n (lv' := [(2, .int 255), (1, .int x2), (0, .ref (a0 0))]) hx hb dX7_twinsNow_6 rfl hl (Nat.le_of_ble_eq_true rfl) rfl (fun ls hl => ?_)
  refine lv_iconst (v := 0) hx hb dX7_twinsNow_7 (by decide) ?_
  refine lv_istore_n (lv' := [(3, .int 0), (2, .int 255), (1, .int x2), (0, .ref (a0 0))]) hx hb dX7_twinsNow_8 rfl hl (Nat.le_of_ble_eq_true rfl) rfl (fun ls hl => ?_)
  exact hL_9 s1 N x2 255 0 hf _ _ _ hP hS (lv_sub hl [3, 2, 1, 0] rfl)
abbrev rm_X7_coverNow : Room := { frames := 1, cells := 0, slots := 0, locals := 23 }
theorem m_X7_coverNow_265b14 : Cond.fieldLink RX7 12 "PickedMatch" "scene" "LPickedMatch$Scene;" ∈ wsX7_coverNow := by decide +kernel
theorem i_X7_coverNow_X7 : ∀ w ∈ wsX70, w ∈ wsX7_coverNow := fun _ h => List.mem_cons_of_mem _ (List.mem_append_left _ (List.mem_append_right _ h))
theorem m_X7_coverNow_4cf9d8 : Cond.initialized RX2 ∈ wsX7_coverNow := by decide +kernel
theorem m_X7_coverNow_b0e80c : Cond.instanceMethod yX2_marksOf ∈ wsX7_coverNow := by decide +kernel
theorem m_X7_coverNow_f506b3 : Cond.selects RX2 yX2_marksOf yX2_marksOf ∈ wsX7_coverNow := by decide +kernel
theorem i_X7_coverNow_X2 : ∀ w ∈ wsX20, w ∈ wsX7_coverNow := fun _ h => List.mem_cons_of_mem _ (List.mem_append_right _ h)
set_option maxHeartbeats 8000000 in
set_option maxRecDepth 100000 in
theorem k_X7_coverNow (l : Launch) (E : Ev) (a0 : Nat → Nat) (a1 : Nat → Nat) (a2 : Nat → Nat) (a3 : Nat → Nat) (a4 : Nat → Nat) (a5 : Nat → Nat) (a6 : Nat → Nat) (a7 : Nat → Nat) (a8 : Nat → Nat) (a9 : Nat → Nat) (L : List SR) (N : Nat) (s0 : St) (s1 : St) (h1 : Option SR) (s2 : St) (h2 : Option SR) (s3 : St) (s4 : St) (h4 : Option SR) (s5 : St) (s6 : St) (s7 : St) (s8 : St) (s9 : St) (t9 : Nat → Nat → Int64) (q : (Int32)) (hf : f_X7_coverNow N s1 = some q) : Ci l yX7_coverNow wsX7_coverNow rm_X7_coverNow E [.ref (a0 0)] ((wX7o E a0 a1 a2 a3 a4 a5 a6 a7 a8 a9 s0 ++ (wX2 E a1 s1 h1 ++ (wX2 E a2 s2 h2 ++ (wX1 E a3 s3 ++ (wX2 E a4 s4 h4 ++ (wX1 E a5 s5 ++ (wX5 E a6 s6 ++ (wX3 E a7 s7 ++ (wX0 E a8 s8 ++ (wX6 E a9 s9 t9)))))))))) ++ sW E.2.1 L) ((wX7o E a0 a1 a2 a3 a4 a5 a6 a7 a8 a9 s0 ++ (wX2 E a1 s1 h1 ++ (wX2 E a2 s2 h2 ++ (wX1 E a3 s3 ++ (wX2 E a4 s4 h4 ++ (wX1 E a5 s5 ++ (wX5 E a6 s6 ++ (wX3 E a7 s7 ++ (wX0 E a8 s8 ++ (wX6 E a9 s9 t9)))))))))) ++ sW E.2.1 L) q := by
  unfold f_X7_coverNow at hf
  intro sz
  refine Met.ofW (cc := cX7_coverNow) (maxL := 6) (ret := (some .int)) (by decide) rfl ?_
  intro p e s m args below meth c s₁ B hml hpre
  obtain ⟨rfl, hsz, hP, hK, hD0, hG, hA, hAB⟩ := start hpre
  have hx := B.exec
  have hb := B.bytes
  have hr := B.returns
  have hts := atoms_spec (ws := wsX7_coverNow) B.pre
  have hown : s.vm.findClass RX7 = some m.cls := findClass_of_methodNamed B.named
  have hlocks := B.notSynchronized
  subst hsz
  generalize va_A ((wX7o E a0 a1 a2 a3 a4 a5 a6 a7 a8 a9 s0 ++ (wX2 E a1 s1 h1 ++ (wX2 E a2 s2 h2 ++ (wX1 E a3 s3 ++ (wX2 E a4 s4 h4 ++ (wX1 E a5 s5 ++ (wX5 E a6 s6 ++ (wX3 E a7 s7 ++ (wX0 E a8 s8 ++ (wX6 E a9 s9 t9)))))))))) ++ sW E.2.1 L) s.heap.size = A0 at hD0 hA hAB ⊢
  have hDD : ∀ (s0 : St) (s1 : St) (h1 : Option SR) (s2 : St) (h2 : Option SR) (s3 : St) (s4 : St) (h4 : Option SR) (s5 : St) (s6 : St) (s7 : St) (s8 : St) (s9 : St) (t9 : Nat → Nat → Int64), va_D A0 ((wX7o E a0 a1 a2 a3 a4 a5 a6 a7 a8 a9 s0 ++ (wX2 E a1 s1 h1 ++ (wX2 E a2 s2 h2 ++ (wX1 E a3 s3 ++ (wX2 E a4 s4 h4 ++ (wX1 E a5 s5 ++ (wX5 E a6 s6 ++ (wX3 E a7 s7 ++ (wX0 E a8 s8 ++ (wX6 E a9 s9 t9)))))))))) ++ sW E.2.1 L) := fun s0 s1 h1 s2 h2 s3 s4 h4 s5 s6 s7 s8 s9 t9 => vD_addr hD0 rfl
  have hS : va_S A0 s.heap s.heap [] := va_S.rf
  have hl := lv_entry ([.ref (a0 0)]) (n := 6) (Nat.le_of_ble_eq_true rfl)
  rw [lg_entry_eq]
  generalize (lg_sl ([.ref (a0 0)]) ++ List.replicate (6 - (lg_sl ([.ref (a0 0)])).length) Slot.unset).toArray = ls at hl ⊢
  have hl : lv_has ls 6 [(0, .ref (a0 0))] := hl
  have hL_26 : ∀ (s1 : St) (v1 : Int32) (v2 : Int32) (n_26 : Nat) (v3 : Int32) (v4 : Int32), l_X7_coverNow_26 N s1 v1 v2 n_26 v3 v4 = some q → ∀ (H : Heap) (locs : List Loc) (ls : Array Slot), va_P E.1 vwCl ((wX7o E a0 a1 a2 a3 a4 a5 a6 a7 a8 a9 s0 ++ (wX2 E a1 s1 h1 ++ (wX2 E a2 s2 h2 ++ (wX1 E a3 s3 ++ (wX2 E a4 s4 h4 ++ (wX1 E a5 s5 ++ (wX5 E a6 s6 ++ (wX3 E a7 s7 ++ (wX0 E a8 s8 ++ (wX6 E a9 s9 t9)))))))))) ++ sW E.2.1 L) H → va_S A0 s.heap H locs → lv_has ls 6 [(0, .ref (a0 0)), (1, .int v1), (2, .int v2), (3, .int v3), (4, .int v4)] → W p l e rm_X7_coverNow s m ([.ref (a0 0)] : List Value).toArray below meth c H locs 0 0 (MQ below (va_Qi (fun (r' : Int32) (_ : Unit) => r' = q) (fun _ t => va_P E.1 vwCl ((wX7o E a0 a1 a2 a3 a4 a5 a6 a7 a8 a9 s0 ++ (wX2 E a1 s1 h1 ++ (wX2 E a2 s2 h2 ++ (wX1 E a3 s3 ++ (wX2 E a4 s4 h4 ++ (wX1 E a5 s5 ++ (wX5 E a6 s6 ++ (wX3 E a7 s7 ++ (wX0 E a8 s8 ++ (wX6 E a9 s9 t9)))))))))) ++ sW E.2.1 L) t.heap) A0) ([.ref (a0 0)] : List Value).toArray s 0 0 A0) (F0 m 26 ls []) := by
    intro s1 v1 v2 n_26
    induction n_26 with
    | zero => intro v3 v4 hf; rw [l_X7_coverNow_26] at hf; cases hf
    | succ n_26 ih_26 =>
      intro v3 v4 hf H locs ls hP hS hl
      rw [l_X7_coverNow_26] at hf
      have hL_49 : ∀ (v3 : Int32) (v4 : Int32) (y0 : Int32), j_X7_coverNow_49 N (l_X7_coverNow_26 N s1 v1 v2 n_26) s1 v1 v2 v3 v4 y0 = some q → ∀ (H : Heap) (locs : List Loc) (ls : Array Slot), va_P E.1 vwCl ((wX7o E a0 a1 a2 a3 a4 a5 a6 a7 a8 a9 s0 ++ (wX2 E a1 s1 h1 ++ (wX2 E a2 s2 h2 ++ (wX1 E a3 s3 ++ (wX2 E a4 s4 h4 ++ (wX1 E a5 s5 ++ (wX5 E a6 s6 ++ (wX3 E a7 s7 ++ (wX0 E a8 s8 ++ (wX6 E a9 s9 t9)))))))))) ++ sW E.2.1 L) H → va_S A0 s.heap H locs → lv_has ls 6 [(0, .ref (a0 0)), (1, .int v1), (2, .int v2), (3, .int v3), (4, .int v4)] → W p l e rm_X7_coverNow s m ([.ref (a0 0)] : List Value).toArray below meth c H locs 0 0 (MQ below (va_Qi (fun (r' : Int32) (_ : Unit) => r' = q) (fun _ t => va_P E.1 vwCl ((wX7o E a0 a1 a2 a3 a4 a5 a6 a7 a8 a9 s0 ++ (wX2 E a1 s1 h1 ++ (wX2 E a2 s2 h2 ++ (wX1 E a3 s3 ++ (wX2 E a4 s4 h4 ++ (wX1 E a5 s5 ++ (wX5 E a6 s6 ++ (wX3 E a7 s7 ++ (wX0 E a8 s8 ++ (wX6 E a9 s9 t9)))))))))) ++ sW E.2.1 L) t.heap) A0) ([.ref (a0 0)] : List Value).toArray s 0 0 A0) (F0 m 49 ls [.int y0]) := by
        intro v3 v4 y0 hf H locs ls hP hS hl
        unfold j_X7_coverNow_49 at hf
        refine lv_istore (lv' := [(5, .int y0), (0, .ref (a0 0)), (1, .int v1), (2, .int v2), (3, .int v3), (4, .int v4)]) hx hb dX7_coverNow_49 hl (Nat.le_of_ble_eq_true rfl) rfl (fun ls hl => ?_)
        refine lv_iload hx hb dX7_coverNow_51 (lv_at hl 0 rfl) ?_
        refine lv_if_eq (tgt := 72) hx hb dX7_coverNow_53 (by decide) (fun c_53 => ?_) (fun c_53 => ?_)
        · have hf := ite_t c_53 hf
          obtain ⟨x72, e_x72⟩ : ∃ y : Int32, y = v4 + 1 := ⟨_, rfl⟩
          have hf := nm_q e_x72 hf
          refine lv_iinc (v := x72) (lv' := [(4, .int x72), (5, .int y0), (0, .ref (a0 0)), (1, .int v1), (2, .int v2), (3, .int v3)]) hx hb dX7_coverNow_72 hl (k := 5) rfl (by rw [e_x72]; rfl) (Nat.le_of_ble_eq_true rfl) rfl (fun ls hl => ?_)
          refine lv_goto (tgt := 26) hx hb dX7_coverNow_75 (by decide) ?_
          exact ih_26 v3 x72 hf _ _ _ hP hS (lv_sub hl [2, 3, 4, 5, 0] rfl)
        · have hf := ite_f c_53 hf
          refine lv_aload_n hx hb dX7_coverNow_56 rfl (lv_at hl 1 rfl) ?_
          refine va_get (ci := 7) (C := RX7) (T := TX7) (N := 11) (v := .ref (a1 0)) hx hb hts i_X7_coverNow_X7 hown hK hP 0 rfl rfl 0 (by decide) (hts _ m_X7_coverNow_265b14) (fun _ h9 => h9) rfl dX7_coverNow_57 ?_
          refine lv_iload hx hb dX7_coverNow_60 (lv_at hl 5 rfl) ?_
          obtain ⟨q62, hc_62, hf⟩ := cl_e hf
          have hm_62 : ∀ q ∈ (wX2 E a1 s1 h1) ++ sW E.2.1 L, q ∈ (wX7o E a0 a1 a2 a3 a4 a5 a6 a7 a8 a9 s0 ++ (wX2 E a1 s1 h1 ++ (wX2 E a2 s2 h2 ++ (wX1 E a3 s3 ++ (wX2 E a4 s4 h4 ++ (wX1 E a5 s5 ++ (wX5 E a6 s6 ++ (wX3 E a7 s7 ++ (wX0 E a8 s8 ++ (wX6 E a9 s9 t9)))))))))) ++ sW E.2.1 L := (app_mem (sub_mem (suf := []) [1, 2, 3, 4, 5, 6, 7] rfl))
          refine fin_i (E := E) (wc := (wX2 E a1 s1 h1) ++ sW E.2.1 L) (wc' := (wX2 E a1 s1 h1) ++ sW E.2.1 L) (va_runVN (As := [.int v4]) (rest := []) ⟨hx, hb, hml, hown, hts⟩ (k_X2_marksOf l E a1 L N s1 h1 v4 q62 hc_62 _) ⟨va_cnB 1 hts gX7_coverNow_X2_marksOf_n167 rfl rfl rfl (hG.1 (.methodLinkNest "PickedMatch" 167 yX2_marksOf "PickedMatch") (by decide +kernel)) (hts _ m_X7_coverNow_4cf9d8) (by decide +kernel) ⟨(Nat.le_of_ble_eq_true rfl), (Nat.le_of_ble_eq_true rfl)⟩, (hts _ m_X7_coverNow_b0e80c), (hts _ m_X7_coverNow_f506b3)⟩ (pre_v (ci := 2) (q0 := 0) hK (sub_P hm_62 hP) (sub_Ds (ws := wX7o E a0 a1 a2 a3 a4 a5 a6 a7 a8 a9 s0 ++ (wX2 E a1 s1 h1 ++ (wX2 E a2 s2 h2 ++ (wX1 E a3 s3 ++ (wX2 E a4 s4 h4 ++ (wX1 E a5 s5 ++ (wX5 E a6 s6 ++ (wX3 E a7 s7 ++ (wX0 E a8 s8 ++ (wX6 E a9 s9 t9)))))))))) (wc := wX2 E a1 s1 h1) (suf := sW E.2.1 L) [1, 2, 3, 4, 5, 6, 7] (by decide) rfl (hDD s0 s1 h1 s2 h2 s3 s4 h4 s5 s6 s7 s8 s9 t9)) hS hG hAB rfl rfl) rfl rfl hl.1 rfl (lv_room (Nat.le_of_ble_eq_true rfl)) dX7_coverNow_62 ⟨Nat.zero_le _, Nat.zero_le _⟩) hS (w_free (hDD s0 s1 h1 s2 h2 s3 s4 h4 s5 s6 s7 s8 s9 t9) hS hA hm_62) (fun H locs hP1 hk hS => ?_)
          have hP := w_joins (ws' := wX7o E a0 a1 a2 a3 a4 a5 a6 a7 a8 a9 s0 ++ (wX2 E a1 s1 h1 ++ (wX2 E a2 s2 h2 ++ (wX1 E a3 s3 ++ (wX2 E a4 s4 h4 ++ (wX1 E a5 s5 ++ (wX5 E a6 s6 ++ (wX3 E a7 s7 ++ (wX0 E a8 s8 ++ (wX6 E a9 s9 t9)))))))))) (wc := wX2 E a1 s1 h1) (wc' := wX2 E a1 s1 h1) hP (hDD s0 s1 h1 s2 h2 s3 s4 h4 s5 s6 s7 s8 s9 t9) [1, 2, 3, 4, 5, 6, 7] rfl [none, some 0, some 1, some 2, some 3, some 4, some 5, some 6, none, none, none, none, none, none, none, none, none, none, none, none, none, none, none, none, none, none, none, none, none, none, none, none, none, none, none, none, none, none, none, none, none, none, none, none, none, none, none, none, none, none] rfl rfl hk hP1
          refine lv_iload_n hx hb dX7_coverNow_65 rfl (lv_at hl 3 rfl) ?_
          refine lv_icmp_ne (tgt := 72) hx hb dX7_coverNow_66 (by decide) (fun c_66 => ?_) (fun c_66 => ?_)
          · have hf := ite_f c_66 hf
            obtain ⟨x72, e_x72⟩ : ∃ y : Int32, y = v4 + 1 := ⟨_, rfl⟩
            have hf := nm_q e_x72 hf
            refine lv_iinc (v := x72) (lv' := [(4, .int x72), (5, .int y0), (0, .ref (a0 0)), (1, .int v1), (2, .int v2), (3, .int v3)]) hx hb dX7_coverNow_72 hl (k := 5) rfl (by rw [e_x72]; rfl) (Nat.le_of_ble_eq_true rfl) rfl (fun ls hl => ?_)
            refine lv_goto (tgt := 26) hx hb dX7_coverNow_75 (by decide) ?_
            exact ih_26 v3 x72 hf _ _ _ hP hS (lv_sub hl [2, 3, 4, 5, 0] rfl)
          · have hf := ite_t c_66 hf
            refine lv_iload hx hb dX7_coverNow_69 (lv_at hl 5 rfl) ?_
            refine lv_istore_n (lv' := [(3, .int v4), (5, .int y0), (0, .ref (a0 0)), (1, .int v1), (2, .int v2), (4, .int v4)]) hx hb dX7_coverNow_71 rfl hl (Nat.le_of_ble_eq_true rfl) rfl (fun ls hl => ?_)
            obtain ⟨x72, e_x72⟩ : ∃ y : Int32, y = v4 + 1 := ⟨_, rfl⟩
            have hf := nm_q e_x72 hf
            refine lv_iinc (v := x72) (lv' := [(4, .int x72), (3, .int v4), (5, .int y0), (0, .ref (a0 0)), (1, .int v1), (2, .int v2)]) hx hb dX7_coverNow_72 hl (k := 5) rfl (by rw [e_x72]; rfl) (Nat.le_of_ble_eq_true rfl) rfl (fun ls hl => ?_)
            refine lv_goto (tgt := 26) hx hb dX7_coverNow_75 (by decide) ?_
            exact ih_26 v4 x72 hf _ _ _ hP hS (lv_sub hl [3, 4, 5, 1, 0] rfl)
      refine lv_iload hx hb dX7_coverNow_26 (lv_at hl 4 rfl) ?_
      refine lv_iload_n hx hb dX7_coverNow_28 rfl (lv_at hl 1 rfl) ?_
      refine lv_icmp_ge (tgt := 78) hx hb dX7_coverNow_29 (by decide) (fun c_29 => ?_) (fun c_29 => ?_)
      · have hf := ite_t c_29 hf
        refine lv_iload_n hx hb dX7_coverNow_78 rfl (lv_at hl 3 rfl) ?_
        have e9 := Option.some.inj hf
        exact rt_i hx hb hr hlocks e9 hP hS dX7_coverNow_79
      · have hf := ite_f c_29 hf
        refine lv_iload hx hb dX7_coverNow_32 (lv_at hl 4 rfl) ?_
        obtain ⟨q34, hc_34, hf⟩ := cl_e hf
        refine fin_i (E := E) (wc := ([] : va_W)) (wc' := ([] : va_W)) (va_runS (As := [.int v4]) (rest := []) ⟨hx, hb, hml, hown, hts⟩ (k_J6_bitCount_0f7a4 l E N v4 q34 hc_34 _) (va_cwS 1 hts gX7_coverNow_J6_bitCount_0f7a4 rfl rfl rfl (by decide +kernel) ⟨(Nat.le_of_ble_eq_true rfl), (Nat.le_of_ble_eq_true rfl)⟩) (pre_s hK va_P_nil va_D_nil hS hG hAB) rfl rfl hl.1 rfl (lv_room (Nat.le_of_ble_eq_true rfl)) dX7_coverNow_34 ⟨Nat.zero_le _, Nat.zero_le _⟩) hS (free_nil hS hA) (fun H locs hP1 hk hS => ?_)
        have hP := w_kept0 hP hk
        refine lv_iload_n hx hb dX7_coverNow_37 rfl (lv_at hl 3 rfl) ?_
        obtain ⟨q38, hc_38, hf⟩ := cl_e hf
        refine fin_i (E := E) (wc := ([] : va_W)) (wc' := ([] : va_W)) (va_runS (As := [.int v3]) (rest := [.int q34]) ⟨hx, hb, hml, hown, hts⟩ (k_J6_bitCount_0f7a4 l E N v3 q38 hc_38 _) (va_cwS 1 hts gX7_coverNow_J6_bitCount_0f7a4 rfl rfl rfl (by decide +kernel) ⟨(Nat.le_of_ble_eq_true rfl), (Nat.le_of_ble_eq_true rfl)⟩) (pre_s hK va_P_nil va_D_nil hS hG hAB) rfl rfl hl.1 rfl (lv_room (Nat.le_of_ble_eq_true rfl)) dX7_coverNow_38 ⟨Nat.zero_le _, Nat.zero_le _⟩) hS (free_nil hS hA) (fun H locs hP1 hk hS => ?_)
        have hP := w_kept0 hP hk
        refine lv_icmp_ge (tgt := 48) hx hb dX7_coverNow_41 (by decide) (fun c_41 => ?_) (fun c_41 => ?_)
        · have hf := ite_t c_41 hf
          refine lv_iconst (v := 0) hx hb dX7_coverNow_48 (by decide) ?_
          exact hL_49 v3 v4 0 hf _ _ _ hP hS (lv_sub hl [0, 1, 2, 3, 4] rfl)
        · have hf := ite_f c_41 hf
          refine lv_iconst (v := 1) hx hb dX7_coverNow_44 (by decide) ?_
          refine lv_goto (tgt := 49) hx hb dX7_coverNow_45 (by decide) ?_
          exact hL_49 v3 v4 1 hf _ _ _ hP hS (lv_sub hl [0, 1, 2, 3, 4] rfl)
  refine lv_iconst (v := 1) hx hb dX7_coverNow_0 (by decide) ?_
  refine lv_aload_n hx hb dX7_coverNow_1 rfl (lv_at hl 0 rfl) ?_
  refine va_get (ci := 7) (C := RX7) (T := TX7) (N := 11) (v := .ref (a1 0)) hx hb hts i_X7_coverNow_X7 hown hK hP 0 rfl rfl 0 (by decide) (hts _ m_X7_coverNow_265b14) (fun _ h9 => h9) rfl dX7_coverNow_2 ?_
  refine va_getN (ci := 2) (C := RX2) (T := TX2) (N := 11) (v := .int (s1 0 0)) hx hb hts i_X7_coverNow_X2 hown hK hP 1 rfl rfl 0 (by decide) (nwG hG (w := .fieldLinkNest "PickedMatch" 66 "PickedMatch$Scene" "things" "I" "PickedMatch") (by decide +kernel)) (fun _ h9 => h9) rfl dX7_coverNow_5 ?_
  refine lv_ishl hx hb dX7_coverNow_8 ?_
  refine lv_iconst (v := 1) hx hb dX7_coverNow_9 (by decide) ?_
  refine lv_isub hx hb dX7_coverNow_10 ?_
  refine lv_topi (fun x11 e_x11 => ?_)
  have hf := nm_q e_x11 hf
  refine lv_istore_n (lv' := [(1, .int x11), (0, .ref (a0 0))]) hx hb dX7_coverNow_11 rfl hl (Nat.le_of_ble_eq_true rfl) rfl (fun ls hl => ?_)
  refine lv_aload_n hx hb dX7_coverNow_12 rfl (lv_at hl 1 rfl) ?_
  refine va_get (ci := 7) (C := RX7) (T := TX7) (N := 11) (v := .ref (a1 0)) hx hb hts i_X7_coverNow_X7 hown hK hP 0 rfl rfl 0 (by decide) (hts _ m_X7_coverNow_265b14) (fun _ h9 => h9) rfl dX7_coverNow_13 ?_
  refine lv_iload_n hx hb dX7_coverNow_16 rfl (lv_at hl 0 rfl) ?_
  obtain ⟨q17, hc_17, hf⟩ := cl_e hf
  have hm_17 : ∀ q ∈ (wX2 E a1 s1 h1) ++ sW E.2.1 L, q ∈ (wX7o E a0 a1 a2 a3 a4 a5 a6 a7 a8 a9 s0 ++ (wX2 E a1 s1 h1 ++ (wX2 E a2 s2 h2 ++ (wX1 E a3 s3 ++ (wX2 E a4 s4 h4 ++ (wX1 E a5 s5 ++ (wX5 E a6 s6 ++ (wX3 E a7 s7 ++ (wX0 E a8 s8 ++ (wX6 E a9 s9 t9)))))))))) ++ sW E.2.1 L := (app_mem (sub_mem (suf := []) [1, 2, 3, 4, 5, 6, 7] rfl))
  refine fin_i (E := E) (wc := (wX2 E a1 s1 h1) ++ sW E.2.1 L) (wc' := (wX2 E a1 s1 h1) ++ sW E.2.1 L) (va_runVN (As := [.int x11]) (rest := []) ⟨hx, hb, hml, hown, hts⟩ (k_X2_marksOf l E a1 L N s1 h1 x11 q17 hc_17 _) ⟨va_cnB 1 hts gX7_coverNow_X2_marksOf_n167 rfl rfl rfl (hG.1 (.methodLinkNest "PickedMatch" 167 yX2_marksOf "PickedMatch") (by decide +kernel)) (hts _ m_X7_coverNow_4cf9d8) (by decide +kernel) ⟨(Nat.le_of_ble_eq_true rfl), (Nat.le_of_ble_eq_true rfl)⟩, (hts _ m_X7_coverNow_b0e80c), (hts _ m_X7_coverNow_f506b3)⟩ (pre_v (ci := 2) (q0 := 0) hK (sub_P hm_17 hP) (sub_Ds (ws := wX7o E a0 a1 a2 a3 a4 a5 a6 a7 a8 a9 s0 ++ (wX2 E a1 s1 h1 ++ (wX2 E a2 s2 h2 ++ (wX1 E a3 s3 ++ (wX2 E a4 s4 h4 ++ (wX1 E a5 s5 ++ (wX5 E a6 s6 ++ (wX3 E a7 s7 ++ (wX0 E a8 s8 ++ (wX6 E a9 s9 t9)))))))))) (wc := wX2 E a1 s1 h1) (suf := sW E.2.1 L) [1, 2, 3, 4, 5, 6, 7] (by decide) rfl (hDD s0 s1 h1 s2 h2 s3 s4 h4 s5 s6 s7 s8 s9 t9)) hS hG hAB rfl rfl) rfl rfl hl.1 rfl (lv_room (Nat.le_of_ble_eq_true rfl)) dX7_coverNow_17 ⟨Nat.zero_le _, Nat.zero_le _⟩) hS (w_free (hDD s0 s1 h1 s2 h2 s3 s4 h4 s5 s6 s7 s8 s9 t9) hS hA hm_17) (fun H locs hP1 hk hS => ?_)
  have hP := w_joins (ws' := wX7o E a0 a1 a2 a3 a4 a5 a6 a7 a8 a9 s0 ++ (wX2 E a1 s1 h1 ++ (wX2 E a2 s2 h2 ++ (wX1 E a3 s3 ++ (wX2 E a4 s4 h4 ++ (wX1 E a5 s5 ++ (wX5 E a6 s6 ++ (wX3 E a7 s7 ++ (wX0 E a8 s8 ++ (wX6 E a9 s9 t9)))))))))) (wc := wX2 E a1 s1 h1) (wc' := wX2 E a1 s1 h1) hP (hDD s0 s1 h1 s2 h2 s3 s4 h4 s5 s6 s7 s8 s9 t9) [1, 2, 3, 4, 5, 6, 7] rfl [none, some 0, some 1, some 2, some 3, some 4, some 5, some 6, none, none, none, none, none, none, none, none, none, none, none, none, none, none, none, none, none, none, none, none, none, none, none, none, none, none, none, none, none, none, none, none, none, none, none, none, none, none, none, none, none, none] rfl rfl hk hP1
  refine lv_istore_n (lv' := [(2, .int q17), (1, .int x11), (0, .ref (a0 0))]) hx hb dX7_coverNow_20 rfl hl (Nat.le_of_ble_eq_true rfl) rfl (fun ls hl => ?_)
  refine lv_iload_n hx hb dX7_coverNow_21 rfl (lv_at hl 1 rfl) ?_
  refine lv_istore_n (lv' := [(3, .int x11), (2, .int q17), (1, .int x11), (0, .ref (a0 0))]) hx hb dX7_coverNow_22 rfl hl (Nat.le_of_ble_eq_true rfl) rfl (fun ls hl => ?_)
  refine lv_iconst (v := 0) hx hb dX7_coverNow_23 (by decide) ?_
  refine lv_istore (lv' := [(4, .int 0), (3, .int x11), (2, .int q17), (1, .int x11), (0, .ref (a0 0))]) hx hb dX7_coverNow_24 hl (Nat.le_of_ble_eq_true rfl) rfl (fun ls hl => ?_)
  exact hL_26 s1 x11 q17 N x11 0 hf _ _ _ hP hS (lv_sub hl [4, 3, 2, 1, 0] rfl)
