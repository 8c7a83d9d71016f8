/-! ===== what the methods compute, and that they do: by program out of the bytecode (wip/gen) ===== -/
def rm_X5_readBoth (D : Nat) : Room := { frames := 3 * D + 13, cells := 0, slots := 0, locals := 90 * D + 430 }
def rm_X5_readEither (D : Nat) : Room := { frames := 3 * D + 14, cells := 0, slots := 0, locals := 90 * D + 460 }
def rm_X5_readPart (D : Nat) : Room := { frames := 3 * D + 12, cells := 0, slots := 0, locals := 90 * D + 400 }
theorem m_X5_readBoth_646be5 : Cond.fieldLink RX5 22 "PickedMatch$StreetReader" "place" "I" ∈ wsX5_readBoth := by decide +kernel
theorem i_X5_readBoth_X5 : ∀ w ∈ wsX50, w ∈ wsX5_readBoth := fun _ h => List.mem_cons_of_mem _ (List.mem_append_right _ h)
set_option maxHeartbeats 8000000 in
set_option maxRecDepth 100000 in
theorem k_X5_readBoth (l : Launch) (N : Nat) (D : Nat) (ihD : ∀ (E : Ev) (a0 : Nat → Nat) (s0 : St) (p1 : Int32) (q : Int32 × St), f_X5_readPart N D s0 p1 = some q → Ci l yX5_readPart wsX5_readPart (rm_X5_readPart D) E [.ref (a0 0), .int p1] (wX5 E a0 s0) (wX5 E a0 q.2) q.1) (E : Ev) (a0 : Nat → Nat) (s0 : St) (p1 : Int32) (q : (Int32 × St)) (hf : f_X5_readBoth (f_X5_readPart N D) N s0 p1 = some q) : Ci l yX5_readBoth wsX5_readBoth (rm_X5_readBoth D) E [.ref (a0 0), .int p1] (wX5 E a0 s0) (wX5 E a0 q.2) q.1 := by
  unfold f_X5_readBoth at hf
  intro sz
  refine Met.ofW (cc := cX5_readBoth) (maxL := 3) (ret := (some .boolean)) (by decide) rfl ?_
  intro p e s m args below meth c s₁ B hml hv
  obtain ⟨rfl, hsz, hP, hK, hD0, hG, hA, hAB⟩ := start hv
  have hx := B.exec
  have hb := B.bytes
  have hr := B.returns
  have hts := atoms_spec (ws := wsX5_readBoth) B.pre
  have hown : s.vm.findClass RX5 = some m.cls := findClass_of_methodNamed B.named
  have hlocks := B.notSynchronized
  subst hsz
  generalize va_A (wX5 E a0 s0) s.heap.size = A0 at hD0 hA hAB ⊢
  have hDD : ∀ (s0 : St), va_D A0 (wX5 E a0 s0) := fun s0 => vD_addr hD0 rfl
  have hS : va_S A0 s.heap s.heap [] := va_S.rf
  have hl := lv_entry ([.ref (a0 0), .int p1]) (n := 3) (Nat.le_of_ble_eq_true rfl)
  rw [lg_entry_eq]
  generalize (lg_sl ([.ref (a0 0), .int p1]) ++ List.replicate (3 - (lg_sl ([.ref (a0 0), .int p1])).length) Slot.unset).toArray = ls at hl ⊢
  have hl : lv_has ls 3 [(0, .ref (a0 0)), (1, .int p1)] := hl
  have hL_12 : ∀ (v1 : Int32) (n_12 : Nat) (s0 : St) (v2 : Int32), l_X5_readBoth_12 (f_X5_readPart N D) N v1 n_12 s0 v2 = some q → ∀ (H : Heap) (locs : List Loc) (ls : Array Slot), va_P E.1 vwCl (wX5 E a0 s0) H → va_S A0 s.heap H locs → lv_has ls 3 [(0, .ref (a0 0)), (1, .int v1), (2, .int v2)] → W p l e (rm_X5_readBoth D) s m ([.ref (a0 0), .int p1] : List Value).toArray below meth c H locs 0 0 (MQ below (va_Qi (fun (r' : Int32) (_ : Unit) => r' = q.1) (fun _ t => va_P E.1 vwCl (wX5 E a0 q.2) t.heap) A0) ([.ref (a0 0), .int p1] : List Value).toArray s 0 0 A0) (F0 m 12 ls []) := by
    intro v1 n_12
    induction n_12 with
    | zero => intro s0 v2 hf; rw [l_X5_readBoth_12] at hf; cases hf
    | succ n_12 ih_12 =>
      intro s0 v2 hf H locs ls hP hS hl
      rw [l_X5_readBoth_12] at hf
      refine lv_iload_n hx hb dX5_readBoth_12 rfl (lv_at hl 2 rfl) ?_
      refine lv_bipush (v := 100) hx hb dX5_readBoth_13 (by decide) ?_
      refine lv_icmp_ge (tgt := 58) hx hb dX5_readBoth_15 (by decide) (fun c_15 => ?_) (fun c_15 => ?_)
      · have hf := ite_t c_15 hf
        refine lv_iconst (v := 1) hx hb dX5_readBoth_58 (by decide) ?_
        have e9 := Option.some.inj hf
        exact rt_z hx hb hr rfl hlocks (fst_e e9) (rtP (P := fun z => va_P E.1 vwCl (wX5 E a0 z.2) H) e9 hP) hS dX5_readBoth_59
      · have hf := ite_f c_15 hf
        refine lv_aload_n hx hb dX5_readBoth_18 rfl (lv_at hl 0 rfl) ?_
        obtain ⟨q19, hc_19, hf⟩ := cl_e hf
        refine fin_i (E := E) (wc := wX5 E a0 s0) (wc' := wX5 E a0 s0) (va_runV (As := []) (rest := []) ⟨hx, hb, hml, hown, hts⟩ (k_X5_nextSign l E a0 N s0 q19 hc_19 _) (cwV 0 hts gX5_readBoth_X5_nextSign rfl rfl rfl (by decide +kernel) ⟨(by simp only [headSpec, rm_X5_readBoth, rm_X5_nextSign]; omega), (by simp only [headSpec, rm_X5_readBoth, rm_X5_nextSign]; omega)⟩) (pre_v (ci := 5) (q0 := 0) hK hP (hDD s0) hS hG hAB rfl rfl) rfl rfl hl.1 rfl (lv_room (Nat.le_of_ble_eq_true rfl)) dX5_readBoth_19 ⟨Nat.zero_le _, Nat.zero_le _⟩) hS (w_free (hDD s0) hS hA (fun _ h => h)) (fun H locs hP1 hk hS => ?_)
        have hP := hP1
        refine lv_bipush (v := 38) hx hb dX5_readBoth_22 (by decide) ?_
        refine lv_icmp_ne (tgt := 58) hx hb dX5_readBoth_24 (by decide) (fun c_24 => ?_) (fun c_24 => ?_)
        · have hf := ite_f c_24 hf
          refine lv_iconst (v := 1) hx hb dX5_readBoth_58 (by decide) ?_
          have e9 := Option.some.inj hf
          exact rt_z hx hb hr rfl hlocks (fst_e e9) (rtP (P := fun z => va_P E.1 vwCl (wX5 E a0 z.2) H) e9 hP) hS dX5_readBoth_59
        · have hf := ite_t c_24 hf
          refine lv_aload_n hx hb dX5_readBoth_27 rfl (lv_at hl 0 rfl) ?_
          refine lv_dup hx hb dX5_readBoth_28 rfl ?_
          refine va_get (ci := 5) (C := RX5) (T := TX5) (N := 8) (v := .int (s0 6 0)) hx hb hts i_X5_readBoth_X5 hown hK hP 0 rfl rfl 6 (by decide) (hts _ m_X5_readBoth_646be5) (fun _ h9 => h9) rfl dX5_readBoth_29 ?_
          refine lv_iconst (v := 1) hx hb dX5_readBoth_32 (by decide) ?_
          refine lv_iadd hx hb dX5_readBoth_33 ?_
          refine va_put (ci := 5) (v := .int ((s0 6 0) + 1)) (ty := .int) (C := RX5) (T := TX5) (N := 8) hx hb hts i_X5_readBoth_X5 tyX5 tyX5_ok nmX5 hown hK hP (hDD s0) hS 0 rfl rfl 6 (by decide) (hts _ m_X5_readBoth_646be5) (fun _ h9 => h9) rfl (by decide +kernel) rfl rfl (Nat.le_of_ble_eq_true rfl) dX5_readBoth_34 (fun H locs hP _ hS => ?_)
          obtain ⟨s0_34, hP, hf⟩ := nm_st' (P := fun z => va_P E.1 vwCl (wX5 E a0 z) H) hf hP
          refine lv_aload_n hx hb dX5_readBoth_37 rfl (lv_at hl 0 rfl) ?_
          refine lv_iload_n hx hb dX5_readBoth_38 rfl (lv_at hl 1 rfl) ?_
          obtain ⟨q39, hc_39, hf⟩ := cl_e hf
          refine fin_i (E := E) (wc := wX5 E a0 s0_34) (wc' := wX5 E a0 q39.2) (va_runV (As := [.int v1]) (rest := []) ⟨hx, hb, hml, hown, hts⟩ (ihD E a0 s0_34 v1 q39 hc_39 _) (cwV 1 hts gX5_readBoth_X5_readPart rfl rfl rfl (by decide +kernel) ⟨(by simp only [headSpec, rm_X5_readBoth, rm_X5_readPart]; omega), (by simp only [headSpec, rm_X5_readBoth, rm_X5_readPart]; omega)⟩) (pre_v (ci := 5) (q0 := 0) hK hP (hDD s0_34) hS hG hAB rfl rfl) rfl rfl hl.1 rfl (lv_room (Nat.le_of_ble_eq_true rfl)) dX5_readBoth_39 ⟨Nat.zero_le _, Nat.zero_le _⟩) hS (w_free (hDD s0_34) hS hA (fun _ h => h)) (fun H locs hP1 hk hS => ?_)
          have hP := hP1
          refine lv_if_ne (tgt := 47) hx hb dX5_readBoth_42 (by decide) (fun c_42 => ?_) (fun c_42 => ?_)
          · have hf := ite_f c_42 hf
            refine lv_aload_n hx hb dX5_readBoth_47 rfl (lv_at hl 0 rfl) ?_
            refine lv_iconst (v := 2) hx hb dX5_readBoth_48 (by decide) ?_
            obtain ⟨q49, hc_49, hf⟩ := cl_e hf
            refine fin_v (E := E) (wc := wX5 E a0 q39.2) (wc' := wX5 E a0 q49) (va_runV (As := [.int 2]) (rest := []) ⟨hx, hb, hml, hown, hts⟩ (k_X5_addStep l E a0 N q39.2 2 q49 hc_49 _) (cwV 1 hts gX5_readBoth_X5_addStep rfl rfl rfl (by decide +kernel) ⟨(by simp only [headSpec, rm_X5_readBoth, rm_X5_addStep]; omega), (by simp only [headSpec, rm_X5_readBoth, rm_X5_addStep]; omega)⟩) (pre_v (ci := 5) (q0 := 0) hK hP (hDD q39.2) hS hG hAB rfl rfl) rfl rfl hl.1 rfl (lv_room (Nat.le_of_ble_eq_true rfl)) dX5_readBoth_49 ⟨Nat.zero_le _, Nat.zero_le _⟩) hS (w_free (hDD q39.2) hS hA (fun _ h => h)) (fun H locs hP1 hk hS => ?_)
            have hP := hP1
            obtain ⟨x52, e_x52⟩ : ∃ y : Int32, y = v2 + 1 := ⟨_, rfl⟩
            have hf := nm_q e_x52 hf
            refine lv_iinc (v := x52) (lv' := [(2, .int x52), (0, .ref (a0 0)), (1, .int v1)]) hx hb dX5_readBoth_52 hl (k := 2) rfl (by rw [e_x52]; rfl) (Nat.le_of_ble_eq_true rfl) rfl (fun ls hl => ?_)
            refine lv_goto (tgt := 12) hx hb dX5_readBoth_55 (by decide) ?_
            exact ih_12 q49 x52 hf _ _ _ hP hS (lv_sub hl [1, 2, 0] rfl)
          · have hf := ite_t c_42 hf
            refine lv_iconst (v := 0) hx hb dX5_readBoth_45 (by decide) ?_
            have e9 := Option.some.inj hf
            exact rt_z hx hb hr rfl hlocks (fst_e e9) (rtP (P := fun z => va_P E.1 vwCl (wX5 E a0 z.2) H) e9 hP) hS dX5_readBoth_46
  refine lv_aload_n hx hb dX5_readBoth_0 rfl (lv_at hl 0 rfl) ?_
  refine lv_iload_n hx hb dX5_readBoth_1 rfl (lv_at hl 1 rfl) ?_
  obtain ⟨q2, hc_2, hf⟩ := cl_e hf
  refine fin_i (E := E) (wc := wX5 E a0 s0) (wc' := wX5 E a0 q2.2) (va_runV (As := [.int p1]) (rest := []) ⟨hx, hb, hml, hown, hts⟩ (ihD E a0 s0 p1 q2 hc_2 _) (cwV 1 hts gX5_readBoth_X5_readPart rfl rfl rfl (by decide +kernel) ⟨(by simp only [headSpec, rm_X5_readBoth, rm_X5_readPart]; omega), (by simp only [headSpec, rm_X5_readBoth, rm_X5_readPart]; omega)⟩) (pre_v (ci := 5) (q0 := 0) hK hP (hDD s0) hS hG hAB rfl rfl) rfl rfl hl.1 rfl (lv_room (Nat.le_of_ble_eq_true rfl)) dX5_readBoth_2 ⟨Nat.zero_le _, Nat.zero_le _⟩) hS (w_free (hDD s0) hS hA (fun _ h => h)) (fun H locs hP1 hk hS => ?_)
  have hP := hP1
  refine lv_if_ne (tgt := 10) hx hb dX5_readBoth_5 (by decide) (fun c_5 => ?_) (fun c_5 => ?_)
  · have hf := ite_f c_5 hf
    refine lv_iconst (v := 0) hx hb dX5_readBoth_10 (by decide) ?_
    refine lv_istore_n (lv' := [(2, .int 0), (0, .ref (a0 0)), (1, .int p1)]) hx hb dX5_readBoth_11 rfl hl (Nat.le_of_ble_eq_true rfl) rfl (fun ls hl => ?_)
    exact hL_12 p1 N q2.2 0 hf _ _ _ hP hS (lv_sub hl [1, 2, 0] rfl)
  · have hf := ite_t c_5 hf
    refine lv_iconst (v := 0) hx hb dX5_readBoth_8 (by decide) ?_
    have e9 := Option.some.inj hf
    exact rt_z hx hb hr rfl hlocks (fst_e e9) (rtP (P := fun z => va_P E.1 vwCl (wX5 E a0 z.2) H) e9 hP) hS dX5_readBoth_9
theorem m_X5_readEither_646be5 : Cond.fieldLink RX5 22 "PickedMatch$StreetReader" "place" "I" ∈ wsX5_readEither := by decide +kernel
theorem i_X5_readEither_X5 : ∀ w ∈ wsX50, w ∈ wsX5_readEither := fun _ h => List.mem_cons_of_mem _ (List.mem_append_right _ h)
set_option maxHeartbeats 8000000 in
set_option maxRecDepth 100000 in
theorem k_X5_readEither (l : Launch) (N : Nat) (D : Nat) (ihD : ∀ (E : Ev) (a0 : Nat → Nat) (s0 : St) (p1 : Int32) (q : Int32 × St), f_X5_readPart N D s0 p1 = some q → Ci l yX5_readPart wsX5_readPart (rm_X5_readPart D) E [.ref (a0 0), .int p1] (wX5 E a0 s0) (wX5 E a0 q.2) q.1) (E : Ev) (a0 : Nat → Nat) (s0 : St) (p1 : Int32) (q : (Int32 × St)) (hf : f_X5_readEither (f_X5_readPart N D) N s0 p1 = some q) : Ci l yX5_readEither wsX5_readEither (rm_X5_readEither D) E [.ref (a0 0), .int p1] (wX5 E a0 s0) (wX5 E a0 q.2) q.1 := by
  unfold f_X5_readEither at hf
  intro sz
  refine Met.ofW (cc := cX5_readEither) (maxL := 3) (ret := (some .boolean)) (by decide) rfl ?_
  intro p e s m args below meth c s₁ B hml hv
  obtain ⟨rfl, hsz, hP, hK, hD0, hG, hA, hAB⟩ := start hv
  have hx := B.exec
  have hb := B.bytes
  have hr := B.returns
  have hts := atoms_spec (ws := wsX5_readEither) B.pre
  have hown : s.vm.findClass RX5 = some m.cls := findClass_of_methodNamed B.named
  have hlocks := B.notSynchronized
  subst hsz
  generalize va_A (wX5 E a0 s0) s.heap.size = A0 at hD0 hA hAB ⊢
  have hDD : ∀ (s0 : St), va_D A0 (wX5 E a0 s0) := fun s0 => vD_addr hD0 rfl
  have hS : va_S A0 s.heap s.heap [] := va_S.rf
  have hl := lv_entry ([.ref (a0 0), .int p1]) (n := 3) (Nat.le_of_ble_eq_true rfl)
  rw [lg_entry_eq]
  generalize (lg_sl ([.ref (a0 0), .int p1]) ++ List.replicate (3 - (lg_sl ([.ref (a0 0), .int p1])).length) Slot.unset).toArray = ls at hl ⊢
  have hl : lv_has ls 3 [(0, .ref (a0 0)), (1, .int p1)] := hl
  have hL_12 : ∀ (v1 : Int32) (n_12 : Nat) (s0 : St) (v2 : Int32), l_X5_readEither_12 (f_X5_readPart N D) N v1 n_12 s0 v2 = some q → ∀ (H : Heap) (locs : List Loc) (ls : Array Slot), va_P E.1 vwCl (wX5 E a0 s0) H → va_S A0 s.heap H locs → lv_has ls 3 [(0, .ref (a0 0)), (1, .int v1), (2, .int v2)] → W p l e (rm_X5_readEither D) s m ([.ref (a0 0), .int p1] : List Value).toArray below meth c H locs 0 0 (MQ below (va_Qi (fun (r' : Int32) (_ : Unit) => r' = q.1) (fun _ t => va_P E.1 vwCl (wX5 E a0 q.2) t.heap) A0) ([.ref (a0 0), .int p1] : List Value).toArray s 0 0 A0) (F0 m 12 ls []) := by
    intro v1 n_12
    induction n_12 with
    | zero => intro s0 v2 hf; rw [l_X5_readEither_12] at hf; cases hf
    | succ n_12 ih_12 =>
      intro s0 v2 hf H locs ls hP hS hl
      rw [l_X5_readEither_12] at hf
      refine lv_iload_n hx hb dX5_readEither_12 rfl (lv_at hl 2 rfl) ?_
      refine lv_bipush (v := 100) hx hb dX5_readEither_13 (by decide) ?_
      refine lv_icmp_ge (tgt := 58) hx hb dX5_readEither_15 (by decide) (fun c_15 => ?_) (fun c_15 => ?_)
      · have hf := ite_t c_15 hf
        refine lv_iconst (v := 1) hx hb dX5_readEither_58 (by decide) ?_
        have e9 := Option.some.inj hf
        exact rt_z hx hb hr rfl hlocks (fst_e e9) (rtP (P := fun z => va_P E.1 vwCl (wX5 E a0 z.2) H) e9 hP) hS dX5_readEither_59
      · have hf := ite_f c_15 hf
        refine lv_aload_n hx hb dX5_readEither_18 rfl (lv_at hl 0 rfl) ?_
        obtain ⟨q19, hc_19, hf⟩ := cl_e hf
        refine fin_i (E := E) (wc := wX5 E a0 s0) (wc' := wX5 E a0 s0) (va_runV (As := []) (rest := []) ⟨hx, hb, hml, hown, hts⟩ (k_X5_nextSign l E a0 N s0 q19 hc_19 _) (cwV 0 hts gX5_readEither_X5_nextSign rfl rfl rfl (by decide +kernel) ⟨(by simp only [headSpec, rm_X5_readEither, rm_X5_nextSign]; omega), (by simp only [headSpec, rm_X5_readEither, rm_X5_nextSign]; omega)⟩) (pre_v (ci := 5) (q0 := 0) hK hP (hDD s0) hS hG hAB rfl rfl) rfl rfl hl.1 rfl (lv_room (Nat.le_of_ble_eq_true rfl)) dX5_readEither_19 ⟨Nat.zero_le _, Nat.zero_le _⟩) hS (w_free (hDD s0) hS hA (fun _ h => h)) (fun H locs hP1 hk hS => ?_)
        have hP := hP1
        refine lv_bipush (v := 124) hx hb dX5_readEither_22 (by decide) ?_
        refine lv_icmp_ne (tgt := 58) hx hb dX5_readEither_24 (by decide) (fun c_24 => ?_) (fun c_24 => ?_)
        · have hf := ite_f c_24 hf
          refine lv_iconst (v := 1) hx hb dX5_readEither_58 (by decide) ?_
          have e9 := Option.some.inj hf
          exact rt_z hx hb hr rfl hlocks (fst_e e9) (rtP (P := fun z => va_P E.1 vwCl (wX5 E a0 z.2) H) e9 hP) hS dX5_readEither_59
        · have hf := ite_t c_24 hf
          refine lv_aload_n hx hb dX5_readEither_27 rfl (lv_at hl 0 rfl) ?_
          refine lv_dup hx hb dX5_readEither_28 rfl ?_
          refine va_get (ci := 5) (C := RX5) (T := TX5) (N := 8) (v := .int (s0 6 0)) hx hb hts i_X5_readEither_X5 hown hK hP 0 rfl rfl 6 (by decide) (hts _ m_X5_readEither_646be5) (fun _ h9 => h9) rfl dX5_readEither_29 ?_
          refine lv_iconst (v := 1) hx hb dX5_readEither_32 (by decide) ?_
          refine lv_iadd hx hb dX5_readEither_33 ?_
          refine va_put (ci := 5) (v := .int ((s0 6 0) + 1)) (ty := .int) (C := RX5) (T := TX5) (N := 8) hx hb hts i_X5_readEither_X5 tyX5 tyX5_ok nmX5 hown hK hP (hDD s0) hS 0 rfl rfl 6 (by decide) (hts _ m_X5_readEither_646be5) (fun _ h9 => h9) rfl (by decide +kernel) rfl rfl (Nat.le_of_ble_eq_true rfl) dX5_readEither_34 (fun H locs hP _ hS => ?_)
          obtain ⟨s0_34, hP, hf⟩ := nm_st' (P := fun z => va_P E.1 vwCl (wX5 E a0 z) H) hf hP
          refine lv_aload_n hx hb dX5_readEither_37 rfl (lv_at hl 0 rfl) ?_
          refine lv_iload_n hx hb dX5_readEither_38 rfl (lv_at hl 1 rfl) ?_
          obtain ⟨q39, hc_39, hf⟩ := cl_e hf
          refine fin_i (E := E) (wc := wX5 E a0 s0_34) (wc' := wX5 E a0 q39.2) (va_runV (As := [.int v1]) (rest := []) ⟨hx, hb, hml, hown, hts⟩ (k_X5_readBoth l N D ihD E a0 s0_34 v1 q39 hc_39 _) (cwV 1 hts gX5_readEither_X5_readBoth rfl rfl rfl (by decide +kernel) ⟨(by simp only [headSpec, rm_X5_readEither, rm_X5_readBoth]; omega), (by simp only [headSpec, rm_X5_readEither, rm_X5_readBoth]; omega)⟩) (pre_v (ci := 5) (q0 := 0) hK hP (hDD s0_34) hS hG hAB rfl rfl) rfl rfl hl.1 rfl (lv_room (Nat.le_of_ble_eq_true rfl)) dX5_readEither_39 ⟨Nat.zero_le _, Nat.zero_le _⟩) hS (w_free (hDD s0_34) hS hA (fun _ h => h)) (fun H locs hP1 hk hS => ?_)
          have hP := hP1
          refine lv_if_ne (tgt := 47) hx hb dX5_readEither_42 (by decide) (fun c_42 => ?_) (fun c_42 => ?_)
          · have hf := ite_f c_42 hf
            refine lv_aload_n hx hb dX5_readEither_47 rfl (lv_at hl 0 rfl) ?_
            refine lv_iconst (v := 3) hx hb dX5_readEither_48 (by decide) ?_
            obtain ⟨q49, hc_49, hf⟩ := cl_e hf
            refine fin_v (E := E) (wc := wX5 E a0 q39.2) (wc' := wX5 E a0 q49) (va_runV (As := [.int 3]) (rest := []) ⟨hx, hb, hml, hown, hts⟩ (k_X5_addStep l E a0 N q39.2 3 q49 hc_49 _) (cwV 1 hts gX5_readEither_X5_addStep rfl rfl rfl (by decide +kernel) ⟨(by simp only [headSpec, rm_X5_readEither, rm_X5_addStep]; omega), (by simp only [headSpec, rm_X5_readEither, rm_X5_addStep]; omega)⟩) (pre_v (ci := 5) (q0 := 0) hK hP (hDD q39.2) hS hG hAB rfl rfl) rfl rfl hl.1 rfl (lv_room (Nat.le_of_ble_eq_true rfl)) dX5_readEither_49 ⟨Nat.zero_le _, Nat.zero_le _⟩) hS (w_free (hDD q39.2) hS hA (fun _ h => h)) (fun H locs hP1 hk hS => ?_)
            have hP := hP1
            obtain ⟨x52, e_x52⟩ : ∃ y : Int32, y = v2 + 1 := ⟨_, rfl⟩
            have hf := nm_q e_x52 hf
            refine lv_iinc (v := x52) (lv' := [(2, .int x52), (0, .ref (a0 0)), (1, .int v1)]) hx hb dX5_readEither_52 hl (k := 2) rfl (by rw [e_x52]; rfl) (Nat.le_of_ble_eq_true rfl) rfl (fun ls hl => ?_)
            refine lv_goto (tgt := 12) hx hb dX5_readEither_55 (by decide) ?_
            exact ih_12 q49 x52 hf _ _ _ hP hS (lv_sub hl [1, 2, 0] rfl)
          · have hf := ite_t c_42 hf
            refine lv_iconst (v := 0) hx hb dX5_readEither_45 (by decide) ?_
            have e9 := Option.some.inj hf
            exact rt_z hx hb hr rfl hlocks (fst_e e9) (rtP (P := fun z => va_P E.1 vwCl (wX5 E a0 z.2) H) e9 hP) hS dX5_readEither_46
  refine lv_aload_n hx hb dX5_readEither_0 rfl (lv_at hl 0 rfl) ?_
  refine lv_iload_n hx hb dX5_readEither_1 rfl (lv_at hl 1 rfl) ?_
  obtain ⟨q2, hc_2, hf⟩ := cl_e hf
  refine fin_i (E := E) (wc := wX5 E a0 s0) (wc' := wX5 E a0 q2.2) (va_runV (As := [.int p1]) (rest := []) ⟨hx, hb, hml, hown, hts⟩ (k_X5_readBoth l N D ihD E a0 s0 p1 q2 hc_2 _) (cwV 1 hts gX5_readEither_X5_readBoth rfl rfl rfl (by decide +kernel) ⟨(by simp only [headSpec, rm_X5_readEither, rm_X5_readBoth]; omega), (by simp only [headSpec, rm_X5_readEither, rm_X5_readBoth]; omega)⟩) (pre_v (ci := 5) (q0 := 0) hK hP (hDD s0) hS hG hAB rfl rfl) rfl rfl hl.1 rfl (lv_room (Nat.le_of_ble_eq_true rfl)) dX5_readEither_2 ⟨Nat.zero_le _, Nat.zero_le _⟩) hS (w_free (hDD s0) hS hA (fun _ h => h)) (fun H locs hP1 hk hS => ?_)
  have hP := hP1
  refine lv_if_ne (tgt := 10) hx hb dX5_readEither_5 (by decide) (fun c_5 => ?_) (fun c_5 => ?_)
  · have hf := ite_f c_5 hf
    refine lv_iconst (v := 0) hx hb dX5_readEither_10 (by decide) ?_
    refine lv_istore_n (lv' := [(2, .int 0), (0, .ref (a0 0)), (1, .int p1)]) hx hb dX5_readEither_11 rfl hl (Nat.le_of_ble_eq_true rfl) rfl (fun ls hl => ?_)
    exact hL_12 p1 N q2.2 0 hf _ _ _ hP hS (lv_sub hl [1, 2, 0] rfl)
  · have hf := ite_t c_5 hf
    refine lv_iconst (v := 0) hx hb dX5_readEither_8 (by decide) ?_
    have e9 := Option.some.inj hf
    exact rt_z hx hb hr rfl hlocks (fst_e e9) (rtP (P := fun z => va_P E.1 vwCl (wX5 E a0 z.2) H) e9 hP) hS dX5_readEither_9
theorem m_X5_readPart_646be5 : Cond.fieldLink RX5 22 "PickedMatch$StreetReader" "place" "I" ∈ wsX5_readPart := by decide +kernel
theorem i_X5_readPart_X5 : ∀ w ∈ wsX50, w ∈ wsX5_readPart := fun _ h => List.mem_cons_of_mem _ (List.mem_append_right _ h)
set_option maxHeartbeats 8000000 in
set_option maxRecDepth 100000 in
theorem k_X5_readPart (l : Launch) (E : Ev) (a0 : Nat → Nat) (N : Nat) (D : Nat) (s0 : St) (p1 : Int32) (q : (Int32 × St)) (hf : f_X5_readPart N D s0 p1 = some q) : Ci l yX5_readPart wsX5_readPart (rm_X5_readPart D) E [.ref (a0 0), .int p1] (wX5 E a0 s0) (wX5 E a0 q.2) q.1 := by
  revert E a0 s0 p1 q hf
  induction D with
  | zero => intro E a0 s0 p1 q hf; rw [f_X5_readPart] at hf; cases hf
  | succ D ihD =>
  intro E a0 s0 p1 q hf
  rw [f_X5_readPart] at hf
  intro sz
  refine Met.ofW (cc := cX5_readPart) (maxL := 3) (ret := (some .boolean)) (by decide) rfl ?_
  intro p e s m args below meth c s₁ B hml hv
  obtain ⟨rfl, hsz, hP, hK, hD0, hG, hA, hAB⟩ := start hv
  have hx := B.exec
  have hb := B.bytes
  have hr := B.returns
  have hts := atoms_spec (ws := wsX5_readPart) B.pre
  have hown : s.vm.findClass RX5 = some m.cls := findClass_of_methodNamed B.named
  have hlocks := B.notSynchronized
  subst hsz
  generalize va_A (wX5 E a0 s0) s.heap.size = A0 at hD0 hA hAB ⊢
  have hDD : ∀ (s0 : St), va_D A0 (wX5 E a0 s0) := fun s0 => vD_addr hD0 rfl
  have hS : va_S A0 s.heap s.heap [] := va_S.rf
  have hl := lv_entry ([.ref (a0 0), .int p1]) (n := 3) (Nat.le_of_ble_eq_true rfl)
  rw [lg_entry_eq]
  generalize (lg_sl ([.ref (a0 0), .int p1]) ++ List.replicate (3 - (lg_sl ([.ref (a0 0), .int p1])).length) Slot.unset).toArray = ls at hl ⊢
  have hl : lv_has ls 3 [(0, .ref (a0 0)), (1, .int p1)] := hl
  have hL_23 : ∀ (s0 : St) (v1 : Int32) (v2 : Int32), j_X5_readPart_23 (f_X5_readPart N D) N s0 v1 v2 = some q → ∀ (H : Heap) (locs : List Loc) (ls : Array Slot), va_P E.1 vwCl (wX5 E a0 s0) H → va_S A0 s.heap H locs → lv_has ls 3 [(0, .ref (a0 0)), (1, .int v1), (2, .int v2)] → W p l e (rm_X5_readPart (D + 1)) s m ([.ref (a0 0), .int p1] : List Value).toArray below meth c H locs 0 0 (MQ below (va_Qi (fun (r' : Int32) (_ : Unit) => r' = q.1) (fun _ t => va_P E.1 vwCl (wX5 E a0 q.2) t.heap) A0) ([.ref (a0 0), .int p1] : List Value).toArray s 0 0 A0) (F0 m 23 ls []) := by
    intro s0 v1 v2 hf H locs ls hP hS hl
    unfold j_X5_readPart_23 at hf
    refine lv_iload_n hx hb dX5_readPart_23 rfl (lv_at hl 1 rfl) ?_
    refine lv_iconst (v := 4) hx hb dX5_readPart_24 (by decide) ?_
    refine lv_icmp_lt (tgt := 30) hx hb dX5_readPart_25 (by decide) (fun c_25 => ?_) (fun c_25 => ?_)
    · have hf := ite_t c_25 hf
      refine lv_aload_n hx hb dX5_readPart_30 rfl (lv_at hl 0 rfl) ?_
      refine lv_dup hx hb dX5_readPart_31 rfl ?_
      refine va_get (ci := 5) (C := RX5) (T := TX5) (N := 8) (v := .int (s0 6 0)) hx hb hts i_X5_readPart_X5 hown hK hP 0 rfl rfl 6 (by decide) (hts _ m_X5_readPart_646be5) (fun _ h9 => h9) rfl dX5_readPart_32 ?_
      refine lv_iconst (v := 1) hx hb dX5_readPart_35 (by decide) ?_
      refine lv_iadd hx hb dX5_readPart_36 ?_
      refine va_put (ci := 5) (v := .int ((s0 6 0) + 1)) (ty := .int) (C := RX5) (T := TX5) (N := 8) hx hb hts i_X5_readPart_X5 tyX5 tyX5_ok nmX5 hown hK hP (hDD s0) hS 0 rfl rfl 6 (by decide) (hts _ m_X5_readPart_646be5) (fun _ h9 => h9) rfl (by decide +kernel) rfl rfl (Nat.le_of_ble_eq_true rfl) dX5_readPart_37 (fun H locs hP _ hS => ?_)
      obtain ⟨s0_37, hP, hf⟩ := nm_st' (P := fun z => va_P E.1 vwCl (wX5 E a0 z) H) hf hP
      refine lv_iload_n hx hb dX5_readPart_40 rfl (lv_at hl 2 rfl) ?_
      refine lv_bipush (v := 40) hx hb dX5_readPart_41 (by decide) ?_
      refine lv_icmp_ne (tgt := 71) hx hb dX5_readPart_43 (by decide) (fun c_43 => ?_) (fun c_43 => ?_)
      · have hf := ite_f c_43 hf
        refine lv_aload_n hx hb dX5_readPart_71 rfl (lv_at hl 0 rfl) ?_
        refine lv_iload_n hx hb dX5_readPart_72 rfl (lv_at hl 1 rfl) ?_
        refine lv_iconst (v := 1) hx hb dX5_readPart_73 (by decide) ?_
        refine lv_iadd hx hb dX5_readPart_74 ?_
        obtain ⟨q75, hc_75, hf⟩ := cl_e hf
        refine fin_i (E := E) (wc := wX5 E a0 s0_37) (wc' := wX5 E a0 q75.2) (va_runV (As := [.int (v1 + 1)]) (rest := []) ⟨hx, hb, hml, hown, hts⟩ (ihD E a0 s0_37 (v1 + 1) q75 hc_75 _) (cwV 1 hts gX5_readPart_X5_readPart rfl rfl rfl (by decide +kernel) ⟨(by simp only [headSpec, rm_X5_readPart, rm_X5_readPart]; omega), (by simp only [headSpec, rm_X5_readPart, rm_X5_readPart]; omega)⟩) (pre_v (ci := 5) (q0 := 0) hK hP (hDD s0_37) hS hG hAB rfl rfl) rfl rfl hl.1 rfl (lv_room (Nat.le_of_ble_eq_true rfl)) dX5_readPart_75 ⟨Nat.zero_le _, Nat.zero_le _⟩) hS (w_free (hDD s0_37) hS hA (fun _ h => h)) (fun H locs hP1 hk hS => ?_)
        have hP := hP1
        refine lv_if_ne (tgt := 83) hx hb dX5_readPart_78 (by decide) (fun c_78 => ?_) (fun c_78 => ?_)
        · have hf := ite_f c_78 hf
          refine lv_aload_n hx hb dX5_readPart_83 rfl (lv_at hl 0 rfl) ?_
          refine lv_iconst (v := 1) hx hb dX5_readPart_84 (by decide) ?_
          obtain ⟨q85, hc_85, hf⟩ := cl_e hf
          refine fin_v (E := E) (wc := wX5 E a0 q75.2) (wc' := wX5 E a0 q85) (va_runV (As := [.int 1]) (rest := []) ⟨hx, hb, hml, hown, hts⟩ (k_X5_addStep l E a0 N q75.2 1 q85 hc_85 _) (cwV 1 hts gX5_readPart_X5_addStep rfl rfl rfl (by decide +kernel) ⟨(by simp only [headSpec, rm_X5_readPart, rm_X5_addStep]; omega), (by simp only [headSpec, rm_X5_readPart, rm_X5_addStep]; omega)⟩) (pre_v (ci := 5) (q0 := 0) hK hP (hDD q75.2) hS hG hAB rfl rfl) rfl rfl hl.1 rfl (lv_room (Nat.le_of_ble_eq_true rfl)) dX5_readPart_85 ⟨Nat.zero_le _, Nat.zero_le _⟩) hS (w_free (hDD q75.2) hS hA (fun _ h => h)) (fun H locs hP1 hk hS => ?_)
          have hP := hP1
          refine lv_iconst (v := 1) hx hb dX5_readPart_88 (by decide) ?_
          have e9 := Option.some.inj hf
          exact rt_z hx hb hr rfl hlocks (fst_e e9) (rtP (P := fun z => va_P E.1 vwCl (wX5 E a0 z.2) H) e9 hP) hS dX5_readPart_89
        · have hf := ite_t c_78 hf
          refine lv_iconst (v := 0) hx hb dX5_readPart_81 (by decide) ?_
          have e9 := Option.some.inj hf
          exact rt_z hx hb hr rfl hlocks (fst_e e9) (rtP (P := fun z => va_P E.1 vwCl (wX5 E a0 z.2) H) e9 hP) hS dX5_readPart_82
      · have hf := ite_t c_43 hf
        refine lv_aload_n hx hb dX5_readPart_46 rfl (lv_at hl 0 rfl) ?_
        refine lv_iload_n hx hb dX5_readPart_47 rfl (lv_at hl 1 rfl) ?_
        refine lv_iconst (v := 1) hx hb dX5_readPart_48 (by decide) ?_
        refine lv_iadd hx hb dX5_readPart_49 ?_
        obtain ⟨q50, hc_50, hf⟩ := cl_e hf
        refine fin_i (E := E) (wc := wX5 E a0 s0_37) (wc' := wX5 E a0 q50.2) (va_runV (As := [.int (v1 + 1)]) (rest := []) ⟨hx, hb, hml, hown, hts⟩ (k_X5_readEither l N D ihD E a0 s0_37 (v1 + 1) q50 hc_50 _) (cwV 1 hts gX5_readPart_X5_readEither rfl rfl rfl (by decide +kernel) ⟨(by simp only [headSpec, rm_X5_readPart, rm_X5_readEither]; omega), (by simp only [headSpec, rm_X5_readPart, rm_X5_readEither]; omega)⟩) (pre_v (ci := 5) (q0 := 0) hK hP (hDD s0_37) hS hG hAB rfl rfl) rfl rfl hl.1 rfl (lv_room (Nat.le_of_ble_eq_true rfl)) dX5_readPart_50 ⟨Nat.zero_le _, Nat.zero_le _⟩) hS (w_free (hDD s0_37) hS hA (fun _ h => h)) (fun H locs hP1 hk hS => ?_)
        have hP := hP1
        refine lv_if_eq (tgt := 69) hx hb dX5_readPart_53 (by decide) (fun c_53 => ?_) (fun c_53 => ?_)
        · have hf := ite_t c_53 hf
          refine lv_iconst (v := 0) hx hb dX5_readPart_69 (by decide) ?_
          have e9 := Option.some.inj hf
          exact rt_z hx hb hr rfl hlocks (fst_e e9) (rtP (P := fun z => va_P E.1 vwCl (wX5 E a0 z.2) H) e9 hP) hS dX5_readPart_70
        · have hf := ite_f c_53 hf
          refine lv_aload_n hx hb dX5_readPart_56 rfl (lv_at hl 0 rfl) ?_
          refine lv_bipush (v := 41) hx hb dX5_readPart_57 (by decide) ?_
          obtain ⟨q59, hc_59, hf⟩ := cl_e hf
          refine fin_i (E := E) (wc := wX5 E a0 q50.2) (wc' := wX5 E a0 q59.2) (va_runV (As := [.int 41]) (rest := []) ⟨hx, hb, hml, hown, hts⟩ (k_X5_readSign l E a0 N q50.2 41 q59 hc_59 _) (cwV 1 hts gX5_readPart_X5_readSign rfl rfl rfl (by decide +kernel) ⟨(by simp only [headSpec, rm_X5_readPart, rm_X5_readSign]; omega), (by simp only [headSpec, rm_X5_readPart, rm_X5_readSign]; omega)⟩) (pre_v (ci := 5) (q0 := 0) hK hP (hDD q50.2) hS hG hAB rfl rfl) rfl rfl hl.1 rfl (lv_room (Nat.le_of_ble_eq_true rfl)) dX5_readPart_59 ⟨Nat.zero_le _, Nat.zero_le _⟩) hS (w_free (hDD q50.2) hS hA (fun _ h => h)) (fun H locs hP1 hk hS => ?_)
          have hP := hP1
          refine lv_if_eq (tgt := 69) hx hb dX5_readPart_62 (by decide) (fun c_62 => ?_) (fun c_62 => ?_)
          · have hf := ite_t c_62 hf
            refine lv_iconst (v := 0) hx hb dX5_readPart_69 (by decide) ?_
            have e9 := Option.some.inj hf
            exact rt_z hx hb hr rfl hlocks (fst_e e9) (rtP (P := fun z => va_P E.1 vwCl (wX5 E a0 z.2) H) e9 hP) hS dX5_readPart_70
          · have hf := ite_f c_62 hf
            refine lv_iconst (v := 1) hx hb dX5_readPart_65 (by decide) ?_
            refine lv_goto (tgt := 70) hx hb dX5_readPart_66 (by decide) ?_
            have e9 := Option.some.inj hf
            exact rt_z hx hb hr rfl hlocks (fst_e e9) (rtP (P := fun z => va_P E.1 vwCl (wX5 E a0 z.2) H) e9 hP) hS dX5_readPart_70
    · have hf := ite_f c_25 hf
      refine lv_iconst (v := 0) hx hb dX5_readPart_28 (by decide) ?_
      have e9 := Option.some.inj hf
      exact rt_z hx hb hr rfl hlocks (fst_e e9) (rtP (P := fun z => va_P E.1 vwCl (wX5 E a0 z.2) H) e9 hP) hS dX5_readPart_29
  refine lv_aload_n hx hb dX5_readPart_0 rfl (lv_at hl 0 rfl) ?_
  obtain ⟨q1, hc_1, hf⟩ := cl_e hf
  refine fin_i (E := E) (wc := wX5 E a0 s0) (wc' := wX5 E a0 s0) (va_runV (As := []) (rest := []) ⟨hx, hb, hml, hown, hts⟩ (k_X5_nextSign l E a0 N s0 q1 hc_1 _) (cwV 0 hts gX5_readPart_X5_nextSign rfl rfl rfl (by decide +kernel) ⟨(by simp only [headSpec, rm_X5_readPart, rm_X5_nextSign]; omega), (by simp only [headSpec, rm_X5_readPart, rm_X5_nextSign]; omega)⟩) (pre_v (ci := 5) (q0 := 0) hK hP (hDD s0) hS hG hAB rfl rfl) rfl rfl hl.1 rfl (lv_room (Nat.le_of_ble_eq_true rfl)) dX5_readPart_1 ⟨Nat.zero_le _, Nat.zero_le _⟩) hS (w_free (hDD s0) hS hA (fun _ h => h)) (fun H locs hP1 hk hS => ?_)
  have hP := hP1
  refine lv_istore_n (lv' := [(2, .int q1), (0, .ref (a0 0)), (1, .int p1)]) hx hb dX5_readPart_4 rfl hl (Nat.le_of_ble_eq_true rfl) rfl (fun ls hl => ?_)
  refine lv_iload_n hx hb dX5_readPart_5 rfl (lv_at hl 0 rfl) ?_
  refine lv_bipush (v := 33) hx hb dX5_readPart_6 (by decide) ?_
  refine lv_icmp_eq (tgt := 23) hx hb dX5_readPart_8 (by decide) (fun c_8 => ?_) (fun c_8 => ?_)
  · have hf := ite_t c_8 hf
    exact hL_23 s0 p1 q1 hf _ _ _ hP hS (lv_sub hl [1, 2, 0] rfl)
  · have hf := ite_f c_8 hf
    refine lv_iload_n hx hb dX5_readPart_11 rfl (lv_at hl 0 rfl) ?_
    refine lv_bipush (v := 40) hx hb dX5_readPart_12 (by decide) ?_
    refine lv_icmp_eq (tgt := 23) hx hb dX5_readPart_14 (by decide) (fun c_14 => ?_) (fun c_14 => ?_)
    · have hf := ite_t c_14 hf
      exact hL_23 s0 p1 q1 hf _ _ _ hP hS (lv_sub hl [1, 2, 0] rfl)
    · have hf := ite_f c_14 hf
      refine lv_aload_n hx hb dX5_readPart_17 rfl (lv_at hl 1 rfl) ?_
      refine lv_iload_n hx hb dX5_readPart_18 rfl (lv_at hl 0 rfl) ?_
      obtain ⟨q19, hc_19, hf⟩ := cl_e hf
      refine fin_i (E := E) (wc := wX5 E a0 s0) (wc' := wX5 E a0 q19.2) (va_runV (As := [.int q1]) (rest := []) ⟨hx, hb, hml, hown, hts⟩ (k_X5_readTest l E a0 N s0 q1 q19 hc_19 _) (cwV 1 hts gX5_readPart_X5_readTest rfl rfl rfl (by decide +kernel) ⟨(by simp only [headSpec, rm_X5_readPart, rm_X5_readTest]; omega), (by simp only [headSpec, rm_X5_readPart, rm_X5_readTest]; omega)⟩) (pre_v (ci := 5) (q0 := 0) hK hP (hDD s0) hS hG hAB rfl rfl) rfl rfl hl.1 rfl (lv_room (Nat.le_of_ble_eq_true rfl)) dX5_readPart_19 ⟨Nat.zero_le _, Nat.zero_le _⟩) hS (w_free (hDD s0) hS hA (fun _ h => h)) (fun H locs hP1 hk hS => ?_)
      have hP := hP1
      obtain ⟨hn_22, hf⟩ := cb_e hf
      have e9 := Option.some.inj hf
      exact rt_z hx hb hr (nar_b hn_22) hlocks (fst_e e9) (rtP (P := fun z => va_P E.1 vwCl (wX5 E a0 z.2) H) e9 hP) hS dX5_readPart_22
