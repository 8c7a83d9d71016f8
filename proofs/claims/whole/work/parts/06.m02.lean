/-! ===== what the methods compute, and that they do: by program out of the bytecode (wip/gen) ===== -/
abbrev rm_X8_hasPeer : Room := { frames := 2, cells := 0, slots := 0, locals := 45 }
theorem m_X8_hasPeer_92e5f7 : Cond.fieldLink RX8 13 "PickedMatchModel" "had" "I" ∈ wsX8_hasPeer := by decide +kernel
theorem i_X8_hasPeer_X8 : ∀ w ∈ wsX80, w ∈ wsX8_hasPeer := fun _ h => List.mem_cons_of_mem _ (List.mem_append_right _ h)
theorem m_X8_hasPeer_fa4c49 : Cond.fieldLink RX8 26 "PickedMatchModel" "marks" "[I" ∈ wsX8_hasPeer := by decide +kernel
theorem m_X8_hasPeer_ef0124 : Cond.fieldLink RX8 32 "PickedMatchModel" "hadOf" "[I" ∈ wsX8_hasPeer := by decide +kernel
set_option maxHeartbeats 8000000 in
set_option maxRecDepth 100000 in
theorem k_X8_hasPeer (l : Launch) (E : Ev) (a0 : Nat → Nat) (N : Nat) (s0 : St) (t0 : Nat → Nat → Int64) (p1 : Int32) (q : (Int32)) (hf : f_X8_hasPeer N s0 p1 = some q) : Ci l yX8_hasPeer wsX8_hasPeer rm_X8_hasPeer E [.ref (a0 0), .int p1] (wX8 E a0 s0 t0) (wX8 E a0 s0 t0) q := by
  unfold f_X8_hasPeer at hf
  intro sz
  refine Met.ofW (cc := cX8_hasPeer) (maxL := 3) (ret := (some .boolean)) (by decide) rfl ?_
  intro p e s m args below meth c s₁ B hml hv
  obtain ⟨rfl, hsz, hP, hK, hD0, hG, hA, hAB⟩ := start hv
  have hx := B.exec
  have hb := B.bytes
  have hr := B.returns
  have hts := atoms_spec (ws := wsX8_hasPeer) B.pre
  have hown : s.vm.findClass RX8 = some m.cls := findClass_of_methodNamed B.named
  have hlocks := B.notSynchronized
  subst hsz
  generalize va_A (wX8 E a0 s0 t0) s.heap.size = A0 at hD0 hA hAB ⊢
  have hDD : ∀ (s0 : St) (t0 : Nat → Nat → Int64), va_D A0 (wX8 E a0 s0 t0) := fun s0 t0 => vD_addr hD0 rfl
  have hS : va_S A0 s.heap s.heap [] := va_S.rf
  have hl := lv_entry ([.ref (a0 0), .int p1]) (n := 3) (Nat.le_of_ble_eq_true rfl)
  rw [lg_entry_eq]
  generalize (lg_sl ([.ref (a0 0), .int p1]) ++ List.replicate (3 - (lg_sl ([.ref (a0 0), .int p1])).length) Slot.unset).toArray = ls at hl ⊢
  have hl : lv_has ls 3 [(0, .ref (a0 0)), (1, .int p1)] := hl
  have hL_2 : ∀ (s0 : St) (v1 : Int32) (n_2 : Nat) (v2 : Int32), l_X8_hasPeer_2 N s0 v1 n_2 v2 = some q → ∀ (H : Heap) (locs : List Loc) (ls : Array Slot), va_P E.1 vwCl (wX8 E a0 s0 t0) H → va_S A0 s.heap H locs → lv_has ls 3 [(0, .ref (a0 0)), (1, .int v1), (2, .int v2)] → W p l e rm_X8_hasPeer s m ([.ref (a0 0), .int p1] : List Value).toArray below meth c H locs 0 0 (MQ below (va_Qi (fun (r' : Int32) (_ : Unit) => r' = q) (fun _ t => va_P E.1 vwCl (wX8 E a0 s0 t0) t.heap) A0) ([.ref (a0 0), .int p1] : List Value).toArray s 0 0 A0) (F0 m 2 ls []) := by
    intro s0 v1 n_2
    induction n_2 with
    | zero => intro v2 hf; rw [l_X8_hasPeer_2] at hf; cases hf
    | succ n_2 ih_2 =>
      intro v2 hf H locs ls hP hS hl
      rw [l_X8_hasPeer_2] at hf
      refine lv_iload_n hx hb dX8_hasPeer_2 rfl (lv_at hl 2 rfl) ?_
      refine lv_aload_n hx hb dX8_hasPeer_3 rfl (lv_at hl 0 rfl) ?_
      refine va_get (ci := 8) (C := RX8) (T := TX8) (N := 67) (v := .int (s0 1 0)) hx hb hts i_X8_hasPeer_X8 hown hK hP 0 rfl rfl 1 (by decide) (hts _ m_X8_hasPeer_92e5f7) (fun _ h9 => h9) rfl dX8_hasPeer_4 ?_
      refine lv_icmp_ge (tgt := 46) hx hb dX8_hasPeer_7 (by decide) (fun c_7 => ?_) (fun c_7 => ?_)
      · have hf := ite_t c_7 hf
        refine lv_iconst (v := 0) hx hb dX8_hasPeer_46 (by decide) ?_
        have e9 := Option.some.inj hf
        exact rt_z hx hb hr rfl hlocks e9 hP hS dX8_hasPeer_47
      · have hf := ite_f c_7 hf
        refine lv_aload_n hx hb dX8_hasPeer_10 rfl (lv_at hl 0 rfl) ?_
        refine lv_aload_n hx hb dX8_hasPeer_11 rfl (lv_at hl 0 rfl) ?_
        refine va_get (ci := 8) (C := RX8) (T := TX8) (N := 67) (v := .ref (a0 3)) hx hb hts i_X8_hasPeer_X8 hown hK hP 0 rfl rfl 5 (by decide) (hts _ m_X8_hasPeer_fa4c49) (fun _ h9 => h9) rfl dX8_hasPeer_12 ?_
        refine lv_aload_n hx hb dX8_hasPeer_15 rfl (lv_at hl 0 rfl) ?_
        refine va_get (ci := 8) (C := RX8) (T := TX8) (N := 67) (v := .ref (a0 5)) hx hb hts i_X8_hasPeer_X8 hown hK hP 0 rfl rfl 7 (by decide) (hts _ m_X8_hasPeer_ef0124) (fun _ h9 => h9) rfl dX8_hasPeer_16 ?_
        refine lv_iload_n hx hb dX8_hasPeer_19 rfl (lv_at hl 2 rfl) ?_
        obtain ⟨h_20, hf⟩ := ck_e hf
        refine va_iald (cA := E.2.1) (n := 6) (f := s0 7) hx hb hK hP 5 0 rfl rfl h_20 dX8_hasPeer_20 ?_
        obtain ⟨h_21, hf⟩ := ck_e hf
        refine va_iald (cA := E.2.1) (n := 6) (f := s0 5) hx hb hK hP 3 0 rfl rfl h_21 dX8_hasPeer_21 ?_
        obtain ⟨q22, hc_22, hf⟩ := cl_e hf
        refine fin_i (E := E) (wc := wX8 E a0 s0 t0) (wc' := wX8 E a0 s0 t0) (va_runV (As := [.int (s0 5 (s0 7 v2.toNatClampNeg).toNatClampNeg)]) (rest := []) ⟨hx, hb, hml, hown, hts⟩ (k_X8_bits l E a0 N s0 t0 (s0 5 (s0 7 v2.toNatClampNeg).toNatClampNeg) q22 hc_22 _) (cwV 1 hts gX8_hasPeer_X8_bits rfl rfl rfl (by decide +kernel) ⟨(Nat.le_of_ble_eq_true rfl), (Nat.le_of_ble_eq_true rfl)⟩) (pre_v (ci := 8) (q0 := 0) hK hP (hDD s0 t0) hS hG hAB rfl rfl) rfl rfl hl.1 rfl (lv_room (Nat.le_of_ble_eq_true rfl)) dX8_hasPeer_22 ⟨Nat.zero_le _, Nat.zero_le _⟩) hS (w_free (hDD s0 t0) hS hA (fun _ h => h)) (fun H locs hP1 hk hS => ?_)
        have hP := hP1
        refine lv_aload_n hx hb dX8_hasPeer_25 rfl (lv_at hl 0 rfl) ?_
        refine lv_aload_n hx hb dX8_hasPeer_26 rfl (lv_at hl 0 rfl) ?_
        refine va_get (ci := 8) (C := RX8) (T := TX8) (N := 67) (v := .ref (a0 3)) hx hb hts i_X8_hasPeer_X8 hown hK hP 0 rfl rfl 5 (by decide) (hts _ m_X8_hasPeer_fa4c49) (fun _ h9 => h9) rfl dX8_hasPeer_27 ?_
        refine lv_iload_n hx hb dX8_hasPeer_30 rfl (lv_at hl 1 rfl) ?_
        obtain ⟨h_31, hf⟩ := ck_e hf
        refine va_iald (cA := E.2.1) (n := 6) (f := s0 5) hx hb hK hP 3 0 rfl rfl h_31 dX8_hasPeer_31 ?_
        obtain ⟨q32, hc_32, hf⟩ := cl_e hf
        refine fin_i (E := E) (wc := wX8 E a0 s0 t0) (wc' := wX8 E a0 s0 t0) (va_runV (As := [.int (s0 5 v1.toNatClampNeg)]) (rest := [.int q22]) ⟨hx, hb, hml, hown, hts⟩ (k_X8_bits l E a0 N s0 t0 (s0 5 v1.toNatClampNeg) q32 hc_32 _) (cwV 1 hts gX8_hasPeer_X8_bits rfl rfl rfl (by decide +kernel) ⟨(Nat.le_of_ble_eq_true rfl), (Nat.le_of_ble_eq_true rfl)⟩) (pre_v (ci := 8) (q0 := 0) hK hP (hDD s0 t0) hS hG hAB rfl rfl) rfl rfl hl.1 rfl (lv_room (Nat.le_of_ble_eq_true rfl)) dX8_hasPeer_32 ⟨Nat.zero_le _, Nat.zero_le _⟩) hS (w_free (hDD s0 t0) hS hA (fun _ h => h)) (fun H locs hP1 hk hS => ?_)
        have hP := hP1
        refine lv_icmp_ne (tgt := 40) hx hb dX8_hasPeer_35 (by decide) (fun c_35 => ?_) (fun c_35 => ?_)
        · have hf := ite_f c_35 hf
          obtain ⟨x40, e_x40⟩ : ∃ y : Int32, y = v2 + 1 := ⟨_, rfl⟩
          have hf := nm_q e_x40 hf
          refine lv_iinc (v := x40) (lv' := [(2, .int x40), (0, .ref (a0 0)), (1, .int v1)]) hx hb dX8_hasPeer_40 hl (k := 2) rfl (by rw [e_x40]; rfl) (Nat.le_of_ble_eq_true rfl) rfl (fun ls hl => ?_)
          refine lv_goto (tgt := 2) hx hb dX8_hasPeer_43 (by decide) ?_
          exact ih_2 x40 hf _ _ _ hP hS (lv_sub hl [1, 2, 0] rfl)
        · have hf := ite_t c_35 hf
          refine lv_iconst (v := 1) hx hb dX8_hasPeer_38 (by decide) ?_
          have e9 := Option.some.inj hf
          exact rt_z hx hb hr rfl hlocks e9 hP hS dX8_hasPeer_39
  refine lv_iconst (v := 0) hx hb dX8_hasPeer_0 (by decide) ?_
  refine lv_istore_n (lv' := [(2, .int 0), (0, .ref (a0 0)), (1, .int p1)]) hx hb dX8_hasPeer_1 rfl hl (Nat.le_of_ble_eq_true rfl) rfl (fun ls hl => ?_)
  exact hL_2 s0 p1 N 0 hf _ _ _ hP hS (lv_sub hl [1, 2, 0] rfl)
abbrev rm_X8_isKeyed : Room := { frames := 6, cells := 0, slots := 0, locals := 138 }
theorem m_X8_isKeyed_fa4c49 : Cond.fieldLink RX8 26 "PickedMatchModel" "marks" "[I" ∈ wsX8_isKeyed := by decide +kernel
theorem i_X8_isKeyed_X8 : ∀ w ∈ wsX80, w ∈ wsX8_isKeyed := fun _ h => List.mem_cons_of_mem _ (List.mem_append_right _ h)
set_option maxHeartbeats 8000000 in
set_option maxRecDepth 100000 in
theorem k_X8_isKeyed (l : Launch) (E : Ev) (a0 : Nat → Nat) (N : Nat) (s0 : St) (t0 : Nat → Nat → Int64) (p1 : Int32) (q : (Int32 × St)) (hf : f_X8_isKeyed N s0 p1 = some q) : Ci l yX8_isKeyed wsX8_isKeyed rm_X8_isKeyed E [.ref (a0 0), .int p1] (wX8 E a0 s0 t0) (wX8 E a0 q.2 t0) q.1 := by
  unfold f_X8_isKeyed at hf
  intro sz
  refine Met.ofW (cc := cX8_isKeyed) (maxL := 2) (ret := (some .boolean)) (by decide) rfl ?_
  intro p e s m args below meth c s₁ B hml hv
  obtain ⟨rfl, hsz, hP, hK, hD0, hG, hA, hAB⟩ := start hv
  have hx := B.exec
  have hb := B.bytes
  have hr := B.returns
  have hts := atoms_spec (ws := wsX8_isKeyed) B.pre
  have hown : s.vm.findClass RX8 = some m.cls := findClass_of_methodNamed B.named
  have hlocks := B.notSynchronized
  subst hsz
  generalize va_A (wX8 E a0 s0 t0) s.heap.size = A0 at hD0 hA hAB ⊢
  have hDD : ∀ (s0 : St) (t0 : Nat → Nat → Int64), va_D A0 (wX8 E a0 s0 t0) := fun s0 t0 => vD_addr hD0 rfl
  have hS : va_S A0 s.heap s.heap [] := va_S.rf
  have hl := lv_entry ([.ref (a0 0), .int p1]) (n := 2) (Nat.le_of_ble_eq_true rfl)
  rw [lg_entry_eq]
  generalize (lg_sl ([.ref (a0 0), .int p1]) ++ List.replicate (2 - (lg_sl ([.ref (a0 0), .int p1])).length) Slot.unset).toArray = ls at hl ⊢
  have hl : lv_has ls 2 [(0, .ref (a0 0)), (1, .int p1)] := hl
  refine lv_aload_n hx hb dX8_isKeyed_0 rfl (lv_at hl 0 rfl) ?_
  refine lv_iload_n hx hb dX8_isKeyed_1 rfl (lv_at hl 1 rfl) ?_
  obtain ⟨q2, hc_2, hf⟩ := cl_e hf
  refine fin_i (E := E) (wc := wX8 E a0 s0 t0) (wc' := wX8 E a0 q2.2 t0) (va_runV (As := [.int p1]) (rest := []) ⟨hx, hb, hml, hown, hts⟩ (k_X8_isLiked l E a0 N s0 t0 p1 q2 hc_2 _) (cwV 1 hts gX8_isKeyed_X8_isLiked rfl rfl rfl (by decide +kernel) ⟨(Nat.le_of_ble_eq_true rfl), (Nat.le_of_ble_eq_true rfl)⟩) (pre_v (ci := 8) (q0 := 0) hK hP (hDD s0 t0) hS hG hAB rfl rfl) rfl rfl hl.1 rfl (lv_room (Nat.le_of_ble_eq_true rfl)) dX8_isKeyed_2 ⟨Nat.zero_le _, Nat.zero_le _⟩) hS (w_free (hDD s0 t0) hS hA (fun _ h => h)) (fun H locs hP1 hk hS => ?_)
  have hP := hP1
  refine lv_if_eq (tgt := 26) hx hb dX8_isKeyed_5 (by decide) (fun c_5 => ?_) (fun c_5 => ?_)
  · have hf := ite_t c_5 hf
    refine lv_iconst (v := 0) hx hb dX8_isKeyed_26 (by decide) ?_
    have e9 := Option.some.inj hf
    exact rt_z hx hb hr rfl hlocks (fst_e e9) (rtP (P := fun z => va_P E.1 vwCl (wX8 E a0 z.2 t0) H) e9 hP) hS dX8_isKeyed_27
  · have hf := ite_f c_5 hf
    refine lv_aload_n hx hb dX8_isKeyed_8 rfl (lv_at hl 0 rfl) ?_
    refine va_get (ci := 8) (C := RX8) (T := TX8) (N := 67) (v := .ref (a0 3)) hx hb hts i_X8_isKeyed_X8 hown hK hP 0 rfl rfl 5 (by decide) (hts _ m_X8_isKeyed_fa4c49) (fun _ h9 => h9) rfl dX8_isKeyed_9 ?_
    refine lv_iload_n hx hb dX8_isKeyed_12 rfl (lv_at hl 1 rfl) ?_
    obtain ⟨h_13, hf⟩ := ck_e hf
    refine va_iald (cA := E.2.1) (n := 6) (f := q2.2 5) hx hb hK hP 3 0 rfl rfl h_13 dX8_isKeyed_13 ?_
    refine lv_aload_n hx hb dX8_isKeyed_14 rfl (lv_at hl 0 rfl) ?_
    obtain ⟨q15, hc_15, hf⟩ := cl_e hf
    refine fin_i (E := E) (wc := wX8 E a0 q2.2 t0) (wc' := wX8 E a0 q2.2 t0) (va_runV (As := []) (rest := [.int (q2.2 5 p1.toNatClampNeg)]) ⟨hx, hb, hml, hown, hts⟩ (k_X8_newest l E a0 N q2.2 t0 q15 hc_15 _) (cwV 0 hts gX8_isKeyed_X8_newest rfl rfl rfl (by decide +kernel) ⟨(Nat.le_of_ble_eq_true rfl), (Nat.le_of_ble_eq_true rfl)⟩) (pre_v (ci := 8) (q0 := 0) hK hP (hDD q2.2 t0) hS hG hAB rfl rfl) rfl rfl hl.1 rfl (lv_room (Nat.le_of_ble_eq_true rfl)) dX8_isKeyed_15 ⟨Nat.zero_le _, Nat.zero_le _⟩) hS (w_free (hDD q2.2 t0) hS hA (fun _ h => h)) (fun H locs hP1 hk hS => ?_)
    have hP := hP1
    refine lv_iand hx hb dX8_isKeyed_18 ?_
    refine lv_if_ne (tgt := 26) hx hb dX8_isKeyed_19 (by decide) (fun c_19 => ?_) (fun c_19 => ?_)
    · have hf := ite_f c_19 hf
      refine lv_iconst (v := 0) hx hb dX8_isKeyed_26 (by decide) ?_
      have e9 := Option.some.inj hf
      exact rt_z hx hb hr rfl hlocks (fst_e e9) (rtP (P := fun z => va_P E.1 vwCl (wX8 E a0 z.2 t0) H) e9 hP) hS dX8_isKeyed_27
    · have hf := ite_t c_19 hf
      refine lv_iconst (v := 1) hx hb dX8_isKeyed_22 (by decide) ?_
      refine lv_goto (tgt := 27) hx hb dX8_isKeyed_23 (by decide) ?_
      have e9 := Option.some.inj hf
      exact rt_z hx hb hr rfl hlocks (fst_e e9) (rtP (P := fun z => va_P E.1 vwCl (wX8 E a0 z.2 t0) H) e9 hP) hS dX8_isKeyed_27
abbrev rm_X8_isLettered : Room := { frames := 6, cells := 0, slots := 0, locals := 138 }
theorem m_X8_isLettered_fa4c49 : Cond.fieldLink RX8 26 "PickedMatchModel" "marks" "[I" ∈ wsX8_isLettered := by decide +kernel
theorem i_X8_isLettered_X8 : ∀ w ∈ wsX80, w ∈ wsX8_isLettered := fun _ h => List.mem_cons_of_mem _ (List.mem_append_right _ h)
set_option maxHeartbeats 8000000 in
set_option maxRecDepth 100000 in
theorem k_X8_isLettered (l : Launch) (E : Ev) (a0 : Nat → Nat) (N : Nat) (s0 : St) (t0 : Nat → Nat → Int64) (p1 : Int32) (q : (Int32 × St)) (hf : f_X8_isLettered N s0 p1 = some q) : Ci l yX8_isLettered wsX8_isLettered rm_X8_isLettered E [.ref (a0 0), .int p1] (wX8 E a0 s0 t0) (wX8 E a0 q.2 t0) q.1 := by
  unfold f_X8_isLettered at hf
  intro sz
  refine Met.ofW (cc := cX8_isLettered) (maxL := 2) (ret := (some .boolean)) (by decide) rfl ?_
  intro p e s m args below meth c s₁ B hml hv
  obtain ⟨rfl, hsz, hP, hK, hD0, hG, hA, hAB⟩ := start hv
  have hx := B.exec
  have hb := B.bytes
  have hr := B.returns
  have hts := atoms_spec (ws := wsX8_isLettered) B.pre
  have hown : s.vm.findClass RX8 = some m.cls := findClass_of_methodNamed B.named
  have hlocks := B.notSynchronized
  subst hsz
  generalize va_A (wX8 E a0 s0 t0) s.heap.size = A0 at hD0 hA hAB ⊢
  have hDD : ∀ (s0 : St) (t0 : Nat → Nat → Int64), va_D A0 (wX8 E a0 s0 t0) := fun s0 t0 => vD_addr hD0 rfl
  have hS : va_S A0 s.heap s.heap [] := va_S.rf
  have hl := lv_entry ([.ref (a0 0), .int p1]) (n := 2) (Nat.le_of_ble_eq_true rfl)
  rw [lg_entry_eq]
  generalize (lg_sl ([.ref (a0 0), .int p1]) ++ List.replicate (2 - (lg_sl ([.ref (a0 0), .int p1])).length) Slot.unset).toArray = ls at hl ⊢
  have hl : lv_has ls 2 [(0, .ref (a0 0)), (1, .int p1)] := hl
  refine lv_aload_n hx hb dX8_isLettered_0 rfl (lv_at hl 0 rfl) ?_
  refine lv_iload_n hx hb dX8_isLettered_1 rfl (lv_at hl 1 rfl) ?_
  obtain ⟨q2, hc_2, hf⟩ := cl_e hf
  refine fin_i (E := E) (wc := wX8 E a0 s0 t0) (wc' := wX8 E a0 q2.2 t0) (va_runV (As := [.int p1]) (rest := []) ⟨hx, hb, hml, hown, hts⟩ (k_X8_isLiked l E a0 N s0 t0 p1 q2 hc_2 _) (cwV 1 hts gX8_isLettered_X8_isLiked rfl rfl rfl (by decide +kernel) ⟨(Nat.le_of_ble_eq_true rfl), (Nat.le_of_ble_eq_true rfl)⟩) (pre_v (ci := 8) (q0 := 0) hK hP (hDD s0 t0) hS hG hAB rfl rfl) rfl rfl hl.1 rfl (lv_room (Nat.le_of_ble_eq_true rfl)) dX8_isLettered_2 ⟨Nat.zero_le _, Nat.zero_le _⟩) hS (w_free (hDD s0 t0) hS hA (fun _ h => h)) (fun H locs hP1 hk hS => ?_)
  have hP := hP1
  refine lv_if_ne (tgt := 33) hx hb dX8_isLettered_5 (by decide) (fun c_5 => ?_) (fun c_5 => ?_)
  · have hf := ite_f c_5 hf
    refine lv_iconst (v := 0) hx hb dX8_isLettered_33 (by decide) ?_
    have e9 := Option.some.inj hf
    exact rt_z hx hb hr rfl hlocks (fst_e e9) (rtP (P := fun z => va_P E.1 vwCl (wX8 E a0 z.2 t0) H) e9 hP) hS dX8_isLettered_34
  · have hf := ite_t c_5 hf
    refine lv_aload_n hx hb dX8_isLettered_8 rfl (lv_at hl 0 rfl) ?_
    refine lv_aload_n hx hb dX8_isLettered_9 rfl (lv_at hl 0 rfl) ?_
    obtain ⟨q10, hc_10, hf⟩ := cl_e hf
    refine fin_i (E := E) (wc := wX8 E a0 q2.2 t0) (wc' := wX8 E a0 q2.2 t0) (va_runV (As := []) (rest := [.ref (a0 0)]) ⟨hx, hb, hml, hown, hts⟩ (k_X8_newest l E a0 N q2.2 t0 q10 hc_10 _) (cwV 0 hts gX8_isLettered_X8_newest rfl rfl rfl (by decide +kernel) ⟨(Nat.le_of_ble_eq_true rfl), (Nat.le_of_ble_eq_true rfl)⟩) (pre_v (ci := 8) (q0 := 0) hK hP (hDD q2.2 t0) hS hG hAB rfl rfl) rfl rfl hl.1 rfl (lv_room (Nat.le_of_ble_eq_true rfl)) dX8_isLettered_10 ⟨Nat.zero_le _, Nat.zero_le _⟩) hS (w_free (hDD q2.2 t0) hS hA (fun _ h => h)) (fun H locs hP1 hk hS => ?_)
    have hP := hP1
    obtain ⟨q13, hc_13, hf⟩ := cl_e hf
    refine fin_i (E := E) (wc := wX8 E a0 q2.2 t0) (wc' := wX8 E a0 q2.2 t0) (va_runV (As := [.int q10]) (rest := []) ⟨hx, hb, hml, hown, hts⟩ (k_X8_bits l E a0 N q2.2 t0 q10 q13 hc_13 _) (cwV 1 hts gX8_isLettered_X8_bits rfl rfl rfl (by decide +kernel) ⟨(Nat.le_of_ble_eq_true rfl), (Nat.le_of_ble_eq_true rfl)⟩) (pre_v (ci := 8) (q0 := 0) hK hP (hDD q2.2 t0) hS hG hAB rfl rfl) rfl rfl hl.1 rfl (lv_room (Nat.le_of_ble_eq_true rfl)) dX8_isLettered_13 ⟨Nat.zero_le _, Nat.zero_le _⟩) hS (w_free (hDD q2.2 t0) hS hA (fun _ h => h)) (fun H locs hP1 hk hS => ?_)
    have hP := hP1
    refine lv_aload_n hx hb dX8_isLettered_16 rfl (lv_at hl 0 rfl) ?_
    refine lv_aload_n hx hb dX8_isLettered_17 rfl (lv_at hl 0 rfl) ?_
    refine va_get (ci := 8) (C := RX8) (T := TX8) (N := 67) (v := .ref (a0 3)) hx hb hts i_X8_isLettered_X8 hown hK hP 0 rfl rfl 5 (by decide) (hts _ m_X8_isLettered_fa4c49) (fun _ h9 => h9) rfl dX8_isLettered_18 ?_
    refine lv_iload_n hx hb dX8_isLettered_21 rfl (lv_at hl 1 rfl) ?_
    obtain ⟨h_22, hf⟩ := ck_e hf
    refine va_iald (cA := E.2.1) (n := 6) (f := q2.2 5) hx hb hK hP 3 0 rfl rfl h_22 dX8_isLettered_22 ?_
    obtain ⟨q23, hc_23, hf⟩ := cl_e hf
    refine fin_i (E := E) (wc := wX8 E a0 q2.2 t0) (wc' := wX8 E a0 q2.2 t0) (va_runV (As := [.int (q2.2 5 p1.toNatClampNeg)]) (rest := [.int q13]) ⟨hx, hb, hml, hown, hts⟩ (k_X8_bits l E a0 N q2.2 t0 (q2.2 5 p1.toNatClampNeg) q23 hc_23 _) (cwV 1 hts gX8_isLettered_X8_bits rfl rfl rfl (by decide +kernel) ⟨(Nat.le_of_ble_eq_true rfl), (Nat.le_of_ble_eq_true rfl)⟩) (pre_v (ci := 8) (q0 := 0) hK hP (hDD q2.2 t0) hS hG hAB rfl rfl) rfl rfl hl.1 rfl (lv_room (Nat.le_of_ble_eq_true rfl)) dX8_isLettered_23 ⟨Nat.zero_le _, Nat.zero_le _⟩) hS (w_free (hDD q2.2 t0) hS hA (fun _ h => h)) (fun H locs hP1 hk hS => ?_)
    have hP := hP1
    refine lv_icmp_ge (tgt := 33) hx hb dX8_isLettered_26 (by decide) (fun c_26 => ?_) (fun c_26 => ?_)
    · have hf := ite_t c_26 hf
      refine lv_iconst (v := 0) hx hb dX8_isLettered_33 (by decide) ?_
      have e9 := Option.some.inj hf
      exact rt_z hx hb hr rfl hlocks (fst_e e9) (rtP (P := fun z => va_P E.1 vwCl (wX8 E a0 z.2 t0) H) e9 hP) hS dX8_isLettered_34
    · have hf := ite_f c_26 hf
      refine lv_iconst (v := 1) hx hb dX8_isLettered_29 (by decide) ?_
      refine lv_goto (tgt := 34) hx hb dX8_isLettered_30 (by decide) ?_
      have e9 := Option.some.inj hf
      exact rt_z hx hb hr rfl hlocks (fst_e e9) (rtP (P := fun z => va_P E.1 vwCl (wX8 E a0 z.2 t0) H) e9 hP) hS dX8_isLettered_34
abbrev rm_X8_goes : Room := { frames := 7, cells := 0, slots := 0, locals := 159 }
theorem m_X8_goes_92e5f7 : Cond.fieldLink RX8 13 "PickedMatchModel" "had" "I" ∈ wsX8_goes := by decide +kernel
theorem i_X8_goes_X8 : ∀ w ∈ wsX80, w ∈ wsX8_goes := fun _ h => List.mem_cons_of_mem _ (List.mem_append_right _ h)
theorem m_X8_goes_275364 : Cond.fieldLink RX8 19 "PickedMatchModel" "kind" "[I" ∈ wsX8_goes := by decide +kernel
theorem m_X8_goes_7b6120 : Cond.fieldLink RX8 23 "PickedMatchModel" "v" "[I" ∈ wsX8_goes := by decide +kernel
theorem m_X8_goes_840104 : Cond.fieldLink RX8 16 "PickedMatchModel" "days" "I" ∈ wsX8_goes := by decide +kernel
theorem m_X8_goes_096e14 : Cond.fieldLink RX8 29 "PickedMatchModel" "rows" "[I" ∈ wsX8_goes := by decide +kernel
set_option maxHeartbeats 8000000 in
set_option maxRecDepth 100000 in
theorem k_X8_goes (l : Launch) (E : Ev) (a0 : Nat → Nat) (N : Nat) (s0 : St) (t0 : Nat → Nat → Int64) (p1 : Int32) (q : (Int32 × St)) (hf : f_X8_goes N s0 p1 = some q) : Ci l yX8_goes wsX8_goes rm_X8_goes E [.ref (a0 0), .int p1] (wX8 E a0 s0 t0) (wX8 E a0 q.2 t0) q.1 := by
  unfold f_X8_goes at hf
  intro sz
  refine Met.ofW (cc := cX8_goes) (maxL := 2) (ret := (some .boolean)) (by decide) rfl ?_
  intro p e s m args below meth c s₁ B hml hv
  obtain ⟨rfl, hsz, hP, hK, hD0, hG, hA, hAB⟩ := start hv
  have hx := B.exec
  have hb := B.bytes
  have hr := B.returns
  have hts := atoms_spec (ws := wsX8_goes) B.pre
  have hown : s.vm.findClass RX8 = some m.cls := findClass_of_methodNamed B.named
  have hlocks := B.notSynchronized
  subst hsz
  generalize va_A (wX8 E a0 s0 t0) s.heap.size = A0 at hD0 hA hAB ⊢
  have hDD : ∀ (s0 : St) (t0 : Nat → Nat → Int64), va_D A0 (wX8 E a0 s0 t0) := fun s0 t0 => vD_addr hD0 rfl
  have hS : va_S A0 s.heap s.heap [] := va_S.rf
  have hl := lv_entry ([.ref (a0 0), .int p1]) (n := 2) (Nat.le_of_ble_eq_true rfl)
  rw [lg_entry_eq]
  generalize (lg_sl ([.ref (a0 0), .int p1]) ++ List.replicate (2 - (lg_sl ([.ref (a0 0), .int p1])).length) Slot.unset).toArray = ls at hl ⊢
  have hl : lv_has ls 2 [(0, .ref (a0 0)), (1, .int p1)] := hl
  refine lv_aload_n hx hb dX8_goes_0 rfl (lv_at hl 0 rfl) ?_
  refine va_get (ci := 8) (C := RX8) (T := TX8) (N := 67) (v := .int (s0 1 0)) hx hb hts i_X8_goes_X8 hown hK hP 0 rfl rfl 1 (by decide) (hts _ m_X8_goes_92e5f7) (fun _ h9 => h9) rfl dX8_goes_1 ?_
  refine lv_aload_n hx hb dX8_goes_4 rfl (lv_at hl 0 rfl) ?_
  obtain ⟨q5, hc_5, hf⟩ := cl_e hf
  refine fin_i (E := E) (wc := wX8 E a0 s0 t0) (wc' := wX8 E a0 s0 t0) (va_runV (As := []) (rest := [.int (s0 1 0)]) ⟨hx, hb, hml, hown, hts⟩ (k_X8_hold l E a0 N s0 t0 q5 hc_5 _) (cwV 0 hts gX8_goes_X8_hold rfl rfl rfl (by decide +kernel) ⟨(Nat.le_of_ble_eq_true rfl), (Nat.le_of_ble_eq_true rfl)⟩) (pre_v (ci := 8) (q0 := 0) hK hP (hDD s0 t0) hS hG hAB rfl rfl) rfl rfl hl.1 rfl (lv_room (Nat.le_of_ble_eq_true rfl)) dX8_goes_5 ⟨Nat.zero_le _, Nat.zero_le _⟩) hS (w_free (hDD s0 t0) hS hA (fun _ h => h)) (fun H locs hP1 hk hS => ?_)
  have hP := hP1
  refine lv_icmp_ge (tgt := 19) hx hb dX8_goes_8 (by decide) (fun c_8 => ?_) (fun c_8 => ?_)
  · have hf := ite_t c_8 hf
    refine lv_iconst (v := 0) hx hb dX8_goes_19 (by decide) ?_
    have e9 := Option.some.inj hf
    exact rt_z hx hb hr rfl hlocks (fst_e e9) (rtP (P := fun z => va_P E.1 vwCl (wX8 E a0 z.2 t0) H) e9 hP) hS dX8_goes_20
  · have hf := ite_f c_8 hf
    refine lv_aload_n hx hb dX8_goes_11 rfl (lv_at hl 0 rfl) ?_
    refine lv_iload_n hx hb dX8_goes_12 rfl (lv_at hl 1 rfl) ?_
    obtain ⟨q13, hc_13, hf⟩ := cl_e hf
    refine fin_i (E := E) (wc := wX8 E a0 s0 t0) (wc' := wX8 E a0 s0 t0) (va_runV (As := [.int p1]) (rest := []) ⟨hx, hb, hml, hown, hts⟩ (k_X8_isHad l E a0 N s0 t0 p1 q13 hc_13 _) (cwV 1 hts gX8_goes_X8_isHad rfl rfl rfl (by decide +kernel) ⟨(Nat.le_of_ble_eq_true rfl), (Nat.le_of_ble_eq_true rfl)⟩) (pre_v (ci := 8) (q0 := 0) hK hP (hDD s0 t0) hS hG hAB rfl rfl) rfl rfl hl.1 rfl (lv_room (Nat.le_of_ble_eq_true rfl)) dX8_goes_13 ⟨Nat.zero_le _, Nat.zero_le _⟩) hS (w_free (hDD s0 t0) hS hA (fun _ h => h)) (fun H locs hP1 hk hS => ?_)
    have hP := hP1
    refine lv_if_eq (tgt := 21) hx hb dX8_goes_16 (by decide) (fun c_16 => ?_) (fun c_16 => ?_)
    · have hf := ite_t c_16 hf
      refine lv_aload_n hx hb dX8_goes_21 rfl (lv_at hl 0 rfl) ?_
      refine va_get (ci := 8) (C := RX8) (T := TX8) (N := 67) (v := .int (s0 1 0)) hx hb hts i_X8_goes_X8 hown hK hP 0 rfl rfl 1 (by decide) (hts _ m_X8_goes_92e5f7) (fun _ h9 => h9) rfl dX8_goes_22 ?_
      refine lv_if_ne (tgt := 30) hx hb dX8_goes_25 (by decide) (fun c_25 => ?_) (fun c_25 => ?_)
      · have hf := ite_f c_25 hf
        refine lv_aload_n hx hb dX8_goes_30 rfl (lv_at hl 0 rfl) ?_
        refine va_get (ci := 8) (C := RX8) (T := TX8) (N := 67) (v := .ref (a0 1)) hx hb hts i_X8_goes_X8 hown hK hP 0 rfl rfl 3 (by decide) (hts _ m_X8_goes_275364) (fun _ h9 => h9) rfl dX8_goes_31 ?_
        refine lv_iload_n hx hb dX8_goes_34 rfl (lv_at hl 1 rfl) ?_
        obtain ⟨h_35, hf⟩ := ck_e hf
        refine va_iald (cA := E.2.1) (n := 6) (f := s0 3) hx hb hK hP 1 0 rfl rfl h_35 dX8_goes_35 ?_
        by_cases c_36_0 : (s0 3 p1.toNatClampNeg) = 1
        · have hf := ite_t c_36_0 hf
          refine lv_tableIn (off := 40) (tgt := 76) hx hb dX8_goes_36 (by rw [c_36_0]; decide) (by rw [c_36_0]; decide) (by rw [c_36_0]; rfl) (by decide) ?_
          refine lv_aload_n hx hb dX8_goes_76 rfl (lv_at hl 0 rfl) ?_
          refine lv_iload_n hx hb dX8_goes_77 rfl (lv_at hl 1 rfl) ?_
          obtain ⟨q78, hc_78, hf⟩ := cl_e hf
          refine fin_i (E := E) (wc := wX8 E a0 s0 t0) (wc' := wX8 E a0 q78.2 t0) (va_runV (As := [.int p1]) (rest := []) ⟨hx, hb, hml, hown, hts⟩ (k_X8_isLiked l E a0 N s0 t0 p1 q78 hc_78 _) (cwV 1 hts gX8_goes_X8_isLiked rfl rfl rfl (by decide +kernel) ⟨(Nat.le_of_ble_eq_true rfl), (Nat.le_of_ble_eq_true rfl)⟩) (pre_v (ci := 8) (q0 := 0) hK hP (hDD s0 t0) hS hG hAB rfl rfl) rfl rfl hl.1 rfl (lv_room (Nat.le_of_ble_eq_true rfl)) dX8_goes_78 ⟨Nat.zero_le _, Nat.zero_le _⟩) hS (w_free (hDD s0 t0) hS hA (fun _ h => h)) (fun H locs hP1 hk hS => ?_)
          have hP := hP1
          refine lv_if_eq (tgt := 96) hx hb dX8_goes_81 (by decide) (fun c_81 => ?_) (fun c_81 => ?_)
          · have hf := ite_t c_81 hf
            refine lv_iconst (v := 0) hx hb dX8_goes_96 (by decide) ?_
            have e9 := Option.some.inj hf
            exact rt_z hx hb hr rfl hlocks (fst_e e9) (rtP (P := fun z => va_P E.1 vwCl (wX8 E a0 z.2 t0) H) e9 hP) hS dX8_goes_97
          · have hf := ite_f c_81 hf
            refine lv_aload_n hx hb dX8_goes_84 rfl (lv_at hl 0 rfl) ?_
            refine lv_iload_n hx hb dX8_goes_85 rfl (lv_at hl 1 rfl) ?_
            obtain ⟨q86, hc_86, hf⟩ := cl_e hf
            refine fin_i (E := E) (wc := wX8 E a0 q78.2 t0) (wc' := wX8 E a0 q78.2 t0) (va_runV (As := [.int p1]) (rest := []) ⟨hx, hb, hml, hown, hts⟩ (k_X8_hasPeer l E a0 N q78.2 t0 p1 q86 hc_86 _) (cwV 1 hts gX8_goes_X8_hasPeer rfl rfl rfl (by decide +kernel) ⟨(Nat.le_of_ble_eq_true rfl), (Nat.le_of_ble_eq_true rfl)⟩) (pre_v (ci := 8) (q0 := 0) hK hP (hDD q78.2 t0) hS hG hAB rfl rfl) rfl rfl hl.1 rfl (lv_room (Nat.le_of_ble_eq_true rfl)) dX8_goes_86 ⟨Nat.zero_le _, Nat.zero_le _⟩) hS (w_free (hDD q78.2 t0) hS hA (fun _ h => h)) (fun H locs hP1 hk hS => ?_)
            have hP := hP1
            refine lv_if_eq (tgt := 96) hx hb dX8_goes_89 (by decide) (fun c_89 => ?_) (fun c_89 => ?_)
            · have hf := ite_t c_89 hf
              refine lv_iconst (v := 0) hx hb dX8_goes_96 (by decide) ?_
              have e9 := Option.some.inj hf
              exact rt_z hx hb hr rfl hlocks (fst_e e9) (rtP (P := fun z => va_P E.1 vwCl (wX8 E a0 z.2 t0) H) e9 hP) hS dX8_goes_97
            · have hf := ite_f c_89 hf
              refine lv_iconst (v := 1) hx hb dX8_goes_92 (by decide) ?_
              refine lv_goto (tgt := 97) hx hb dX8_goes_93 (by decide) ?_
              have e9 := Option.some.inj hf
              exact rt_z hx hb hr rfl hlocks (fst_e e9) (rtP (P := fun z => va_P E.1 vwCl (wX8 E a0 z.2 t0) H) e9 hP) hS dX8_goes_97
        · have hf := ite_f c_36_0 hf
          by_cases c_36_1 : (s0 3 p1.toNatClampNeg) = 2
          · have hf := ite_t c_36_1 hf
            refine lv_tableIn (off := 62) (tgt := 98) hx hb dX8_goes_36 (by rw [c_36_1]; decide) (by rw [c_36_1]; decide) (by rw [c_36_1]; rfl) (by decide) ?_
            refine lv_aload_n hx hb dX8_goes_98 rfl (lv_at hl 0 rfl) ?_
            refine lv_iload_n hx hb dX8_goes_99 rfl (lv_at hl 1 rfl) ?_
            obtain ⟨q100, hc_100, hf⟩ := cl_e hf
            refine fin_i (E := E) (wc := wX8 E a0 s0 t0) (wc' := wX8 E a0 q100.2 t0) (va_runV (As := [.int p1]) (rest := []) ⟨hx, hb, hml, hown, hts⟩ (k_X8_isKeyed l E a0 N s0 t0 p1 q100 hc_100 _) (cwV 1 hts gX8_goes_X8_isKeyed rfl rfl rfl (by decide +kernel) ⟨(Nat.le_of_ble_eq_true rfl), (Nat.le_of_ble_eq_true rfl)⟩) (pre_v (ci := 8) (q0 := 0) hK hP (hDD s0 t0) hS hG hAB rfl rfl) rfl rfl hl.1 rfl (lv_room (Nat.le_of_ble_eq_true rfl)) dX8_goes_100 ⟨Nat.zero_le _, Nat.zero_le _⟩) hS (w_free (hDD s0 t0) hS hA (fun _ h => h)) (fun H locs hP1 hk hS => ?_)
            have hP := hP1
            obtain ⟨hn_103, hf⟩ := cb_e hf
            have e9 := Option.some.inj hf
            exact rt_z hx hb hr (nar_b hn_103) hlocks (fst_e e9) (rtP (P := fun z => va_P E.1 vwCl (wX8 E a0 z.2 t0) H) e9 hP) hS dX8_goes_103
          · have hf := ite_f c_36_1 hf
            by_cases c_36_2 : (s0 3 p1.toNatClampNeg) = 3
            · have hf := ite_t c_36_2 hf
              refine lv_tableIn (off := 68) (tgt := 104) hx hb dX8_goes_36 (by rw [c_36_2]; decide) (by rw [c_36_2]; decide) (by rw [c_36_2]; rfl) (by decide) ?_
              refine lv_aload_n hx hb dX8_goes_104 rfl (lv_at hl 0 rfl) ?_
              refine lv_iload_n hx hb dX8_goes_105 rfl (lv_at hl 1 rfl) ?_
              obtain ⟨q106, hc_106, hf⟩ := cl_e hf
              refine fin_i (E := E) (wc := wX8 E a0 s0 t0) (wc' := wX8 E a0 q106.2 t0) (va_runV (As := [.int p1]) (rest := []) ⟨hx, hb, hml, hown, hts⟩ (k_X8_isLettered l E a0 N s0 t0 p1 q106 hc_106 _) (cwV 1 hts gX8_goes_X8_isLettered rfl rfl rfl (by decide +kernel) ⟨(Nat.le_of_ble_eq_true rfl), (Nat.le_of_ble_eq_true rfl)⟩) (pre_v (ci := 8) (q0 := 0) hK hP (hDD s0 t0) hS hG hAB rfl rfl) rfl rfl hl.1 rfl (lv_room (Nat.le_of_ble_eq_true rfl)) dX8_goes_106 ⟨Nat.zero_le _, Nat.zero_le _⟩) hS (w_free (hDD s0 t0) hS hA (fun _ h => h)) (fun H locs hP1 hk hS => ?_)
              have hP := hP1
              obtain ⟨hn_109, hf⟩ := cb_e hf
              have e9 := Option.some.inj hf
              exact rt_z hx hb hr (nar_b hn_109) hlocks (fst_e e9) (rtP (P := fun z => va_P E.1 vwCl (wX8 E a0 z.2 t0) H) e9 hP) hS dX8_goes_109
            · have hf := ite_f c_36_2 hf
              by_cases c_36_3 : (s0 3 p1.toNatClampNeg) = 4
              · have hf := ite_t c_36_3 hf
                refine lv_tableIn (off := 74) (tgt := 110) hx hb dX8_goes_36 (by rw [c_36_3]; decide) (by rw [c_36_3]; decide) (by rw [c_36_3]; rfl) (by decide) ?_
                refine lv_aload_n hx hb dX8_goes_110 rfl (lv_at hl 0 rfl) ?_
                refine va_get (ci := 8) (C := RX8) (T := TX8) (N := 67) (v := .ref (a0 2)) hx hb hts i_X8_goes_X8 hown hK hP 0 rfl rfl 4 (by decide) (hts _ m_X8_goes_7b6120) (fun _ h9 => h9) rfl dX8_goes_111 ?_
                refine lv_iload_n hx hb dX8_goes_114 rfl (lv_at hl 1 rfl) ?_
                obtain ⟨h_115, hf⟩ := ck_e hf
                refine va_iald (cA := E.2.1) (n := 6) (f := s0 4) hx hb hK hP 2 0 rfl rfl h_115 dX8_goes_115 ?_
                refine lv_aload_n hx hb dX8_goes_116 rfl (lv_at hl 0 rfl) ?_
                refine va_get (ci := 8) (C := RX8) (T := TX8) (N := 67) (v := .int (s0 1 0)) hx hb hts i_X8_goes_X8 hown hK hP 0 rfl rfl 1 (by decide) (hts _ m_X8_goes_92e5f7) (fun _ h9 => h9) rfl dX8_goes_117 ?_
                refine lv_icmp_lt (tgt := 139) hx hb dX8_goes_120 (by decide) (fun c_120 => ?_) (fun c_120 => ?_)
                · have hf := ite_t c_120 hf
                  refine lv_iconst (v := 1) hx hb dX8_goes_139 (by decide) ?_
                  refine lv_goto (tgt := 144) hx hb dX8_goes_140 (by decide) ?_
                  have e9 := Option.some.inj hf
                  exact rt_z hx hb hr rfl hlocks (fst_e e9) (rtP (P := fun z => va_P E.1 vwCl (wX8 E a0 z.2 t0) H) e9 hP) hS dX8_goes_144
                · have hf := ite_f c_120 hf
                  refine lv_aload_n hx hb dX8_goes_123 rfl (lv_at hl 0 rfl) ?_
                  refine lv_iload_n hx hb dX8_goes_124 rfl (lv_at hl 1 rfl) ?_
                  obtain ⟨q125, hc_125, hf⟩ := cl_e hf
                  refine fin_i (E := E) (wc := wX8 E a0 s0 t0) (wc' := wX8 E a0 q125.2 t0) (va_runV (As := [.int p1]) (rest := []) ⟨hx, hb, hml, hown, hts⟩ (k_X8_isLiked l E a0 N s0 t0 p1 q125 hc_125 _) (cwV 1 hts gX8_goes_X8_isLiked rfl rfl rfl (by decide +kernel) ⟨(Nat.le_of_ble_eq_true rfl), (Nat.le_of_ble_eq_true rfl)⟩) (pre_v (ci := 8) (q0 := 0) hK hP (hDD s0 t0) hS hG hAB rfl rfl) rfl rfl hl.1 rfl (lv_room (Nat.le_of_ble_eq_true rfl)) dX8_goes_125 ⟨Nat.zero_le _, Nat.zero_le _⟩) hS (w_free (hDD s0 t0) hS hA (fun _ h => h)) (fun H locs hP1 hk hS => ?_)
                  have hP := hP1
                  refine lv_if_eq (tgt := 143) hx hb dX8_goes_128 (by decide) (fun c_128 => ?_) (fun c_128 => ?_)
                  · have hf := ite_t c_128 hf
                    refine lv_iconst (v := 0) hx hb dX8_goes_143 (by decide) ?_
                    have e9 := Option.some.inj hf
                    exact rt_z hx hb hr rfl hlocks (fst_e e9) (rtP (P := fun z => va_P E.1 vwCl (wX8 E a0 z.2 t0) H) e9 hP) hS dX8_goes_144
                  · have hf := ite_f c_128 hf
                    refine lv_aload_n hx hb dX8_goes_131 rfl (lv_at hl 0 rfl) ?_
                    refine lv_iload_n hx hb dX8_goes_132 rfl (lv_at hl 1 rfl) ?_
                    obtain ⟨q133, hc_133, hf⟩ := cl_e hf
                    refine fin_i (E := E) (wc := wX8 E a0 q125.2 t0) (wc' := wX8 E a0 q125.2 t0) (va_runV (As := [.int p1]) (rest := []) ⟨hx, hb, hml, hown, hts⟩ (k_X8_hasPeer l E a0 N q125.2 t0 p1 q133 hc_133 _) (cwV 1 hts gX8_goes_X8_hasPeer rfl rfl rfl (by decide +kernel) ⟨(Nat.le_of_ble_eq_true rfl), (Nat.le_of_ble_eq_true rfl)⟩) (pre_v (ci := 8) (q0 := 0) hK hP (hDD q125.2 t0) hS hG hAB rfl rfl) rfl rfl hl.1 rfl (lv_room (Nat.le_of_ble_eq_true rfl)) dX8_goes_133 ⟨Nat.zero_le _, Nat.zero_le _⟩) hS (w_free (hDD q125.2 t0) hS hA (fun _ h => h)) (fun H locs hP1 hk hS => ?_)
                    have hP := hP1
                    refine lv_if_eq (tgt := 143) hx hb dX8_goes_136 (by decide) (fun c_136 => ?_) (fun c_136 => ?_)
                    · have hf := ite_t c_136 hf
                      refine lv_iconst (v := 0) hx hb dX8_goes_143 (by decide) ?_
                      have e9 := Option.some.inj hf
                      exact rt_z hx hb hr rfl hlocks (fst_e e9) (rtP (P := fun z => va_P E.1 vwCl (wX8 E a0 z.2 t0) H) e9 hP) hS dX8_goes_144
                    · have hf := ite_f c_136 hf
                      refine lv_iconst (v := 1) hx hb dX8_goes_139 (by decide) ?_
                      refine lv_goto (tgt := 144) hx hb dX8_goes_140 (by decide) ?_
                      have e9 := Option.some.inj hf
                      exact rt_z hx hb hr rfl hlocks (fst_e e9) (rtP (P := fun z => va_P E.1 vwCl (wX8 E a0 z.2 t0) H) e9 hP) hS dX8_goes_144
              · have hf := ite_f c_36_3 hf
                by_cases c_36_4 : (s0 3 p1.toNatClampNeg) = 5
                · have hf := ite_t c_36_4 hf
                  refine lv_tableIn (off := 109) (tgt := 145) hx hb dX8_goes_36 (by rw [c_36_4]; decide) (by rw [c_36_4]; decide) (by rw [c_36_4]; rfl) (by decide) ?_
                  refine lv_aload_n hx hb dX8_goes_145 rfl (lv_at hl 0 rfl) ?_
                  refine va_get (ci := 8) (C := RX8) (T := TX8) (N := 67) (v := .int (s0 2 0)) hx hb hts i_X8_goes_X8 hown hK hP 0 rfl rfl 2 (by decide) (hts _ m_X8_goes_840104) (fun _ h9 => h9) rfl dX8_goes_146 ?_
                  refine lv_iconst (v := 2) hx hb dX8_goes_149 (by decide) ?_
                  obtain ⟨hz_150, hf⟩ := cz_e hf
                  refine lv_irem hx hb dX8_goes_150 hz_150 ?_
                  refine lv_if_ne (tgt := 162) hx hb dX8_goes_151 (by decide) (fun c_151 => ?_) (fun c_151 => ?_)
                  · have hf := ite_f c_151 hf
                    refine lv_aload_n hx hb dX8_goes_162 rfl (lv_at hl 0 rfl) ?_
                    refine lv_iload_n hx hb dX8_goes_163 rfl (lv_at hl 1 rfl) ?_
                    obtain ⟨q164, hc_164, hf⟩ := cl_e hf
                    refine fin_i (E := E) (wc := wX8 E a0 s0 t0) (wc' := wX8 E a0 q164.2 t0) (va_runV (As := [.int p1]) (rest := []) ⟨hx, hb, hml, hown, hts⟩ (k_X8_isLiked l E a0 N s0 t0 p1 q164 hc_164 _) (cwV 1 hts gX8_goes_X8_isLiked rfl rfl rfl (by decide +kernel) ⟨(Nat.le_of_ble_eq_true rfl), (Nat.le_of_ble_eq_true rfl)⟩) (pre_v (ci := 8) (q0 := 0) hK hP (hDD s0 t0) hS hG hAB rfl rfl) rfl rfl hl.1 rfl (lv_room (Nat.le_of_ble_eq_true rfl)) dX8_goes_164 ⟨Nat.zero_le _, Nat.zero_le _⟩) hS (w_free (hDD s0 t0) hS hA (fun _ h => h)) (fun H locs hP1 hk hS => ?_)
                    have hP := hP1
                    obtain ⟨hn_167, hf⟩ := cb_e hf
                    have e9 := Option.some.inj hf
                    exact rt_z hx hb hr (nar_b hn_167) hlocks (fst_e e9) (rtP (P := fun z => va_P E.1 vwCl (wX8 E a0 z.2 t0) H) e9 hP) hS dX8_goes_167
                  · have hf := ite_t c_151 hf
                    refine lv_aload_n hx hb dX8_goes_154 rfl (lv_at hl 0 rfl) ?_
                    refine lv_iload_n hx hb dX8_goes_155 rfl (lv_at hl 1 rfl) ?_
                    obtain ⟨q156, hc_156, hf⟩ := cl_e hf
                    refine fin_i (E := E) (wc := wX8 E a0 s0 t0) (wc' := wX8 E a0 q156.2 t0) (va_runV (As := [.int p1]) (rest := []) ⟨hx, hb, hml, hown, hts⟩ (k_X8_isKeyed l E a0 N s0 t0 p1 q156 hc_156 _) (cwV 1 hts gX8_goes_X8_isKeyed rfl rfl rfl (by decide +kernel) ⟨(Nat.le_of_ble_eq_true rfl), (Nat.le_of_ble_eq_true rfl)⟩) (pre_v (ci := 8) (q0 := 0) hK hP (hDD s0 t0) hS hG hAB rfl rfl) rfl rfl hl.1 rfl (lv_room (Nat.le_of_ble_eq_true rfl)) dX8_goes_156 ⟨Nat.zero_le _, Nat.zero_le _⟩) hS (w_free (hDD s0 t0) hS hA (fun _ h => h)) (fun H locs hP1 hk hS => ?_)
                    have hP := hP1
                    refine lv_goto (tgt := 167) hx hb dX8_goes_159 (by decide) ?_
                    obtain ⟨hn_167, hf⟩ := cb_e hf
                    have e9 := Option.some.inj hf
                    exact rt_z hx hb hr (nar_b hn_167) hlocks (fst_e e9) (rtP (P := fun z => va_P E.1 vwCl (wX8 E a0 z.2 t0) H) e9 hP) hS dX8_goes_167
                · have hf := ite_f c_36_4 hf
                  by_cases c_36_5 : (s0 3 p1.toNatClampNeg) = 6
                  · have hf := ite_t c_36_5 hf
                    refine lv_tableIn (off := 132) (tgt := 168) hx hb dX8_goes_36 (by rw [c_36_5]; decide) (by rw [c_36_5]; decide) (by rw [c_36_5]; rfl) (by decide) ?_
                    refine lv_aload_n hx hb dX8_goes_168 rfl (lv_at hl 0 rfl) ?_
                    refine va_get (ci := 8) (C := RX8) (T := TX8) (N := 67) (v := .int (s0 1 0)) hx hb hts i_X8_goes_X8 hown hK hP 0 rfl rfl 1 (by decide) (hts _ m_X8_goes_92e5f7) (fun _ h9 => h9) rfl dX8_goes_169 ?_
                    refine lv_aload_n hx hb dX8_goes_172 rfl (lv_at hl 0 rfl) ?_
                    refine va_get (ci := 8) (C := RX8) (T := TX8) (N := 67) (v := .ref (a0 4)) hx hb hts i_X8_goes_X8 hown hK hP 0 rfl rfl 6 (by decide) (hts _ m_X8_goes_096e14) (fun _ h9 => h9) rfl dX8_goes_173 ?_
                    refine lv_iconst (v := 4) hx hb dX8_goes_176 (by decide) ?_
                    refine lv_iload_n hx hb dX8_goes_177 rfl (lv_at hl 1 rfl) ?_
                    refine lv_imul hx hb dX8_goes_178 ?_
                    refine lv_aload_n hx hb dX8_goes_179 rfl (lv_at hl 0 rfl) ?_
                    refine va_get (ci := 8) (C := RX8) (T := TX8) (N := 67) (v := .int (s0 2 0)) hx hb hts i_X8_goes_X8 hown hK hP 0 rfl rfl 2 (by decide) (hts _ m_X8_goes_840104) (fun _ h9 => h9) rfl dX8_goes_180 ?_
                    refine lv_iconst (v := 4) hx hb dX8_goes_183 (by decide) ?_
                    obtain ⟨hz_184, hf⟩ := cz_e hf
                    refine lv_irem hx hb dX8_goes_184 hz_184 ?_
                    refine lv_iadd hx hb dX8_goes_185 ?_
                    obtain ⟨h_186, hf⟩ := ck_e hf
                    refine va_iald (cA := E.2.1) (n := 24) (f := s0 6) hx hb hK hP 4 0 rfl rfl h_186 dX8_goes_186 ?_
                    refine lv_icmp_eq (tgt := 198) hx hb dX8_goes_187 (by decide) (fun c_187 => ?_) (fun c_187 => ?_)
                    · have hf := ite_t c_187 hf
                      refine lv_iconst (v := 1) hx hb dX8_goes_198 (by decide) ?_
                      refine lv_goto (tgt := 203) hx hb dX8_goes_199 (by decide) ?_
                      have e9 := Option.some.inj hf
                      exact rt_z hx hb hr rfl hlocks (fst_e e9) (rtP (P := fun z => va_P E.1 vwCl (wX8 E a0 z.2 t0) H) e9 hP) hS dX8_goes_203
                    · have hf := ite_f c_187 hf
                      refine lv_aload_n hx hb dX8_goes_190 rfl (lv_at hl 0 rfl) ?_
                      refine lv_iload_n hx hb dX8_goes_191 rfl (lv_at hl 1 rfl) ?_
                      obtain ⟨q192, hc_192, hf⟩ := cl_e hf
                      refine fin_i (E := E) (wc := wX8 E a0 s0 t0) (wc' := wX8 E a0 q192.2 t0) (va_runV (As := [.int p1]) (rest := []) ⟨hx, hb, hml, hown, hts⟩ (k_X8_isLettered l E a0 N s0 t0 p1 q192 hc_192 _) (cwV 1 hts gX8_goes_X8_isLettered rfl rfl rfl (by decide +kernel) ⟨(Nat.le_of_ble_eq_true rfl), (Nat.le_of_ble_eq_true rfl)⟩) (pre_v (ci := 8) (q0 := 0) hK hP (hDD s0 t0) hS hG hAB rfl rfl) rfl rfl hl.1 rfl (lv_room (Nat.le_of_ble_eq_true rfl)) dX8_goes_192 ⟨Nat.zero_le _, Nat.zero_le _⟩) hS (w_free (hDD s0 t0) hS hA (fun _ h => h)) (fun H locs hP1 hk hS => ?_)
                      have hP := hP1
                      refine lv_if_eq (tgt := 202) hx hb dX8_goes_195 (by decide) (fun c_195 => ?_) (fun c_195 => ?_)
                      · have hf := ite_t c_195 hf
                        refine lv_iconst (v := 0) hx hb dX8_goes_202 (by decide) ?_
                        have e9 := Option.some.inj hf
                        exact rt_z hx hb hr rfl hlocks (fst_e e9) (rtP (P := fun z => va_P E.1 vwCl (wX8 E a0 z.2 t0) H) e9 hP) hS dX8_goes_203
                      · have hf := ite_f c_195 hf
                        refine lv_iconst (v := 1) hx hb dX8_goes_198 (by decide) ?_
                        refine lv_goto (tgt := 203) hx hb dX8_goes_199 (by decide) ?_
                        have e9 := Option.some.inj hf
                        exact rt_z hx hb hr rfl hlocks (fst_e e9) (rtP (P := fun z => va_P E.1 vwCl (wX8 E a0 z.2 t0) H) e9 hP) hS dX8_goes_203
                  · have hf := ite_f c_36_5 hf
                    refine lv_tableOut (tgt := 204) hx hb dX8_goes_36 (by have n0 := lv_neT (a := 1) c_36_0 (by decide); have n1 := lv_neT (a := 2) c_36_1 (by decide); have n2 := lv_neT (a := 3) c_36_2 (by decide); have n3 := lv_neT (a := 4) c_36_3 (by decide); have n4 := lv_neT (a := 5) c_36_4 (by decide); have n5 := lv_neT (a := 6) c_36_5 (by decide); omega) (by decide) ?_
                    refine lv_aload_n hx hb dX8_goes_204 rfl (lv_at hl 0 rfl) ?_
                    refine lv_iload_n hx hb dX8_goes_205 rfl (lv_at hl 1 rfl) ?_
                    obtain ⟨q206, hc_206, hf⟩ := cl_e hf
                    refine fin_i (E := E) (wc := wX8 E a0 s0 t0) (wc' := wX8 E a0 q206.2 t0) (va_runV (As := [.int p1]) (rest := []) ⟨hx, hb, hml, hown, hts⟩ (k_X8_isLiked l E a0 N s0 t0 p1 q206 hc_206 _) (cwV 1 hts gX8_goes_X8_isLiked rfl rfl rfl (by decide +kernel) ⟨(Nat.le_of_ble_eq_true rfl), (Nat.le_of_ble_eq_true rfl)⟩) (pre_v (ci := 8) (q0 := 0) hK hP (hDD s0 t0) hS hG hAB rfl rfl) rfl rfl hl.1 rfl (lv_room (Nat.le_of_ble_eq_true rfl)) dX8_goes_206 ⟨Nat.zero_le _, Nat.zero_le _⟩) hS (w_free (hDD s0 t0) hS hA (fun _ h => h)) (fun H locs hP1 hk hS => ?_)
                    have hP := hP1
                    obtain ⟨hn_209, hf⟩ := cb_e hf
                    have e9 := Option.some.inj hf
                    exact rt_z hx hb hr (nar_b hn_209) hlocks (fst_e e9) (rtP (P := fun z => va_P E.1 vwCl (wX8 E a0 z.2 t0) H) e9 hP) hS dX8_goes_209
      · have hf := ite_t c_25 hf
        refine lv_iconst (v := 1) hx hb dX8_goes_28 (by decide) ?_
        have e9 := Option.some.inj hf
        exact rt_z hx hb hr rfl hlocks (fst_e e9) (rtP (P := fun z => va_P E.1 vwCl (wX8 E a0 z.2 t0) H) e9 hP) hS dX8_goes_29
    · have hf := ite_f c_16 hf
      refine lv_iconst (v := 0) hx hb dX8_goes_19 (by decide) ?_
      have e9 := Option.some.inj hf
      exact rt_z hx hb hr rfl hlocks (fst_e e9) (rtP (P := fun z => va_P E.1 vwCl (wX8 E a0 z.2 t0) H) e9 hP) hS dX8_goes_20
abbrev rm_X8_goingSet : Room := { frames := 8, cells := 0, slots := 0, locals := 180 }
theorem m_X8_goingSet_acbb5e : Cond.fieldLink RX8 7 "PickedMatchModel" "things" "I" ∈ wsX8_goingSet := by decide +kernel
theorem i_X8_goingSet_X8 : ∀ w ∈ wsX80, w ∈ wsX8_goingSet := fun _ h => List.mem_cons_of_mem _ (List.mem_append_right _ h)
set_option maxHeartbeats 8000000 in
set_option maxRecDepth 100000 in
theorem k_X8_goingSet (l : Launch) (E : Ev) (a0 : Nat → Nat) (N : Nat) (s0 : St) (t0 : Nat → Nat → Int64) (q : (Int32 × St)) (hf : f_X8_goingSet N s0 = some q) : Ci l yX8_goingSet wsX8_goingSet rm_X8_goingSet E [.ref (a0 0)] (wX8 E a0 s0 t0) (wX8 E a0 q.2 t0) q.1 := by
  unfold f_X8_goingSet at hf
  intro sz
  refine Met.ofW (cc := cX8_goingSet) (maxL := 3) (ret := (some .int)) (by decide) rfl ?_
  intro p e s m args below meth c s₁ B hml hv
  obtain ⟨rfl, hsz, hP, hK, hD0, hG, hA, hAB⟩ := start hv
  have hx := B.exec
  have hb := B.bytes
  have hr := B.returns
  have hts := atoms_spec (ws := wsX8_goingSet) B.pre
  have hown : s.vm.findClass RX8 = some m.cls := findClass_of_methodNamed B.named
  have hlocks := B.notSynchronized
  subst hsz
  generalize va_A (wX8 E a0 s0 t0) s.heap.size = A0 at hD0 hA hAB ⊢
  have hDD : ∀ (s0 : St) (t0 : Nat → Nat → Int64), va_D A0 (wX8 E a0 s0 t0) := fun s0 t0 => vD_addr hD0 rfl
  have hS : va_S A0 s.heap s.heap [] := va_S.rf
  have hl := lv_entry ([.ref (a0 0)]) (n := 3) (Nat.le_of_ble_eq_true rfl)
  rw [lg_entry_eq]
  generalize (lg_sl ([.ref (a0 0)]) ++ List.replicate (3 - (lg_sl ([.ref (a0 0)])).length) Slot.unset).toArray = ls at hl ⊢
  have hl : lv_has ls 3 [(0, .ref (a0 0))] := hl
  have hL_4 : ∀ (n_4 : Nat) (s0 : St) (v1 : Int32) (v2 : Int32), l_X8_goingSet_4 N n_4 s0 v1 v2 = some q → ∀ (H : Heap) (locs : List Loc) (ls : Array Slot), va_P E.1 vwCl (wX8 E a0 s0 t0) H → va_S A0 s.heap H locs → lv_has ls 3 [(0, .ref (a0 0)), (1, .int v1), (2, .int v2)] → W p l e rm_X8_goingSet s m ([.ref (a0 0)] : List Value).toArray below meth c H locs 0 0 (MQ below (va_Qi (fun (r' : Int32) (_ : Unit) => r' = q.1) (fun _ t => va_P E.1 vwCl (wX8 E a0 q.2 t0) t.heap) A0) ([.ref (a0 0)] : List Value).toArray s 0 0 A0) (F0 m 4 ls []) := by
    intro n_4
    induction n_4 with
    | zero => intro s0 v1 v2 hf; rw [l_X8_goingSet_4] at hf; cases hf
    | succ n_4 ih_4 =>
      intro s0 v1 v2 hf H locs ls hP hS hl
      rw [l_X8_goingSet_4] at hf
      refine lv_iload_n hx hb dX8_goingSet_4 rfl (lv_at hl 2 rfl) ?_
      refine lv_aload_n hx hb dX8_goingSet_5 rfl (lv_at hl 0 rfl) ?_
      refine va_get (ci := 8) (C := RX8) (T := TX8) (N := 67) (v := .int (s0 0 0)) hx hb hts i_X8_goingSet_X8 hown hK hP 0 rfl rfl 0 (by decide) (hts _ m_X8_goingSet_acbb5e) (fun _ h9 => h9) rfl dX8_goingSet_6 ?_
      refine lv_icmp_ge (tgt := 36) hx hb dX8_goingSet_9 (by decide) (fun c_9 => ?_) (fun c_9 => ?_)
      · have hf := ite_t c_9 hf
        refine lv_iload_n hx hb dX8_goingSet_36 rfl (lv_at hl 1 rfl) ?_
        have e9 := Option.some.inj hf
        exact rt_i hx hb hr hlocks (fst_e e9) (rtP (P := fun z => va_P E.1 vwCl (wX8 E a0 z.2 t0) H) e9 hP) hS dX8_goingSet_37
      · have hf := ite_f c_9 hf
        refine lv_iload_n hx hb dX8_goingSet_12 rfl (lv_at hl 1 rfl) ?_
        refine lv_aload_n hx hb dX8_goingSet_13 rfl (lv_at hl 0 rfl) ?_
        refine lv_iload_n hx hb dX8_goingSet_14 rfl (lv_at hl 2 rfl) ?_
        obtain ⟨q15, hc_15, hf⟩ := cl_e hf
        refine fin_i (E := E) (wc := wX8 E a0 s0 t0) (wc' := wX8 E a0 q15.2 t0) (va_runV (As := [.int v2]) (rest := [.int v1]) ⟨hx, hb, hml, hown, hts⟩ (k_X8_goes l E a0 N s0 t0 v2 q15 hc_15 _) (cwV 1 hts gX8_goingSet_X8_goes rfl rfl rfl (by decide +kernel) ⟨(Nat.le_of_ble_eq_true rfl), (Nat.le_of_ble_eq_true rfl)⟩) (pre_v (ci := 8) (q0 := 0) hK hP (hDD s0 t0) hS hG hAB rfl rfl) rfl rfl hl.1 rfl (lv_room (Nat.le_of_ble_eq_true rfl)) dX8_goingSet_15 ⟨Nat.zero_le _, Nat.zero_le _⟩) hS (w_free (hDD s0 t0) hS hA (fun _ h => h)) (fun H locs hP1 hk hS => ?_)
        have hP := hP1
        refine lv_if_eq (tgt := 27) hx hb dX8_goingSet_18 (by decide) (fun c_18 => ?_) (fun c_18 => ?_)
        · have hf := ite_t c_18 hf
          refine lv_iconst (v := 0) hx hb dX8_goingSet_27 (by decide) ?_
          refine lv_ior hx hb dX8_goingSet_28 ?_
          refine lv_topi (fun x29 e_x29 => ?_)
          have hf := nm_q e_x29 hf
          refine lv_istore_n (lv' := [(1, .int x29), (0, .ref (a0 0)), (2, .int v2)]) hx hb dX8_goingSet_29 rfl hl (Nat.le_of_ble_eq_true rfl) rfl (fun ls hl => ?_)
          obtain ⟨x30, e_x30⟩ : ∃ y : Int32, y = v2 + 1 := ⟨_, rfl⟩
          have hf := nm_q e_x30 hf
          refine lv_iinc (v := x30) (lv' := [(2, .int x30), (1, .int x29), (0, .ref (a0 0))]) hx hb dX8_goingSet_30 hl (k := 2) rfl (by rw [e_x30]; rfl) (Nat.le_of_ble_eq_true rfl) rfl (fun ls hl => ?_)
          refine lv_goto (tgt := 4) hx hb dX8_goingSet_33 (by decide) ?_
          exact ih_4 q15.2 x29 x30 hf _ _ _ hP hS (lv_sub hl [2, 1, 0] rfl)
        · have hf := ite_f c_18 hf
          refine lv_iconst (v := 1) hx hb dX8_goingSet_21 (by decide) ?_
          refine lv_iload_n hx hb dX8_goingSet_22 rfl (lv_at hl 2 rfl) ?_
          refine lv_ishl hx hb dX8_goingSet_23 ?_
          refine lv_goto (tgt := 28) hx hb dX8_goingSet_24 (by decide) ?_
          refine lv_ior hx hb dX8_goingSet_28 ?_
          refine lv_topi (fun x29 e_x29 => ?_)
          have hf := nm_q e_x29 hf
          refine lv_istore_n (lv' := [(1, .int x29), (0, .ref (a0 0)), (2, .int v2)]) hx hb dX8_goingSet_29 rfl hl (Nat.le_of_ble_eq_true rfl) rfl (fun ls hl => ?_)
          obtain ⟨x30, e_x30⟩ : ∃ y : Int32, y = v2 + 1 := ⟨_, rfl⟩
          have hf := nm_q e_x30 hf
          refine lv_iinc (v := x30) (lv' := [(2, .int x30), (1, .int x29), (0, .ref (a0 0))]) hx hb dX8_goingSet_30 hl (k := 2) rfl (by rw [e_x30]; rfl) (Nat.le_of_ble_eq_true rfl) rfl (fun ls hl => ?_)
          refine lv_goto (tgt := 4) hx hb dX8_goingSet_33 (by decide) ?_
          exact ih_4 q15.2 x29 x30 hf _ _ _ hP hS (lv_sub hl [2, 1, 0] rfl)
  refine lv_iconst (v := 0) hx hb dX8_goingSet_0 (by decide) ?_
  refine lv_istore_n (lv' := [(1, .int 0), (0, .ref (a0 0))]) hx hb dX8_goingSet_1 rfl hl (Nat.le_of_ble_eq_true rfl) rfl (fun ls hl => ?_)
  refine lv_iconst (v := 0) hx hb dX8_goingSet_2 (by decide) ?_
  refine lv_istore_n (lv' := [(2, .int 0), (1, .int 0), (0, .ref (a0 0))]) hx hb dX8_goingSet_3 rfl hl (Nat.le_of_ble_eq_true rfl) rfl (fun ls hl => ?_)
  exact hL_4 N s0 0 0 hf _ _ _ hP hS (lv_sub hl [2, 1, 0] rfl)
abbrev rm_X8_of : Room := { frames := 8, cells := 0, slots := 0, locals := 180 }
theorem m_X8_of_275364 : Cond.fieldLink RX8 19 "PickedMatchModel" "kind" "[I" ∈ wsX8_of := by decide +kernel
theorem i_X8_of_X8 : ∀ w ∈ wsX80, w ∈ wsX8_of := fun _ h => List.mem_cons_of_mem _ (List.mem_append_right _ h)
theorem m_X8_of_7b6120 : Cond.fieldLink RX8 23 "PickedMatchModel" "v" "[I" ∈ wsX8_of := by decide +kernel
theorem m_X8_of_fa4c49 : Cond.fieldLink RX8 26 "PickedMatchModel" "marks" "[I" ∈ wsX8_of := by decide +kernel
set_option maxHeartbeats 8000000 in
set_option maxRecDepth 100000 in
theorem k_X8_of (l : Launch) (E : Ev) (a0 : Nat → Nat) (N : Nat) (s0 : St) (t0 : Nat → Nat → Int64) (p1 : Int32) (p2 : Int32) (q : (Int32 × St)) (hf : f_X8_of N s0 p1 p2 = some q) : Ci l yX8_of wsX8_of rm_X8_of E [.ref (a0 0), .int p1, .int p2] (wX8 E a0 s0 t0) (wX8 E a0 q.2 t0) q.1 := by
  unfold f_X8_of at hf
  intro sz
  refine Met.ofW (cc := cX8_of) (maxL := 3) (ret := (some .int)) (by decide) rfl ?_
  intro p e s m args below meth c s₁ B hml hv
  obtain ⟨rfl, hsz, hP, hK, hD0, hG, hA, hAB⟩ := start hv
  have hx := B.exec
  have hb := B.bytes
  have hr := B.returns
  have hts := atoms_spec (ws := wsX8_of) B.pre
  have hown : s.vm.findClass RX8 = some m.cls := findClass_of_methodNamed B.named
  have hlocks := B.notSynchronized
  subst hsz
  generalize va_A (wX8 E a0 s0 t0) s.heap.size = A0 at hD0 hA hAB ⊢
  have hDD : ∀ (s0 : St) (t0 : Nat → Nat → Int64), va_D A0 (wX8 E a0 s0 t0) := fun s0 t0 => vD_addr hD0 rfl
  have hS : va_S A0 s.heap s.heap [] := va_S.rf
  have hl := lv_entry ([.ref (a0 0), .int p1, .int p2]) (n := 3) (Nat.le_of_ble_eq_true rfl)
  rw [lg_entry_eq]
  generalize (lg_sl ([.ref (a0 0), .int p1, .int p2]) ++ List.replicate (3 - (lg_sl ([.ref (a0 0), .int p1, .int p2])).length) Slot.unset).toArray = ls at hl ⊢
  have hl : lv_has ls 3 [(0, .ref (a0 0)), (1, .int p1), (2, .int p2)] := hl
  refine lv_aload_n hx hb dX8_of_0 rfl (lv_at hl 0 rfl) ?_
  refine lv_iload_n hx hb dX8_of_1 rfl (lv_at hl 1 rfl) ?_
  obtain ⟨q2, hc_2, hf⟩ := cl_e hf
  refine fin_i (E := E) (wc := wX8 E a0 s0 t0) (wc' := wX8 E a0 s0 t0) (va_runV (As := [.int p1]) (rest := []) ⟨hx, hb, hml, hown, hts⟩ (k_X8_isThing l E a0 N s0 t0 p1 q2 hc_2 _) (cwV 1 hts gX8_of_X8_isThing rfl rfl rfl (by decide +kernel) ⟨(Nat.le_of_ble_eq_true rfl), (Nat.le_of_ble_eq_true rfl)⟩) (pre_v (ci := 8) (q0 := 0) hK hP (hDD s0 t0) hS hG hAB rfl rfl) rfl rfl hl.1 rfl (lv_room (Nat.le_of_ble_eq_true rfl)) dX8_of_2 ⟨Nat.zero_le _, Nat.zero_le _⟩) hS (w_free (hDD s0 t0) hS hA (fun _ h => h)) (fun H locs hP1 hk hS => ?_)
  have hP := hP1
  refine lv_if_ne (tgt := 12) hx hb dX8_of_5 (by decide) (fun c_5 => ?_) (fun c_5 => ?_)
  · have hf := ite_f c_5 hf
    refine lv_iload_n hx hb dX8_of_12 rfl (lv_at hl 2 rfl) ?_
    by_cases c_13_0 : p2 = 0
    · have hf := ite_t c_13_0 hf
      refine lv_tableIn (off := 43) (tgt := 56) hx hb dX8_of_13 (by rw [c_13_0]; decide) (by rw [c_13_0]; decide) (by rw [c_13_0]; rfl) (by decide) ?_
      refine lv_aload_n hx hb dX8_of_56 rfl (lv_at hl 0 rfl) ?_
      refine va_get (ci := 8) (C := RX8) (T := TX8) (N := 67) (v := .ref (a0 1)) hx hb hts i_X8_of_X8 hown hK hP 0 rfl rfl 3 (by decide) (hts _ m_X8_of_275364) (fun _ h9 => h9) rfl dX8_of_57 ?_
      refine lv_iload_n hx hb dX8_of_60 rfl (lv_at hl 1 rfl) ?_
      obtain ⟨h_61, hf⟩ := ck_e hf
      refine va_iald (cA := E.2.1) (n := 6) (f := s0 3) hx hb hK hP 1 0 rfl rfl h_61 dX8_of_61 ?_
      have e9 := Option.some.inj hf
      exact rt_i hx hb hr hlocks (fst_e e9) (rtP (P := fun z => va_P E.1 vwCl (wX8 E a0 z.2 t0) H) e9 hP) hS dX8_of_62
    · have hf := ite_f c_13_0 hf
      by_cases c_13_1 : p2 = 1
      · have hf := ite_t c_13_1 hf
        refine lv_tableIn (off := 50) (tgt := 63) hx hb dX8_of_13 (by rw [c_13_1]; decide) (by rw [c_13_1]; decide) (by rw [c_13_1]; rfl) (by decide) ?_
        refine lv_aload_n hx hb dX8_of_63 rfl (lv_at hl 0 rfl) ?_
        refine va_get (ci := 8) (C := RX8) (T := TX8) (N := 67) (v := .ref (a0 2)) hx hb hts i_X8_of_X8 hown hK hP 0 rfl rfl 4 (by decide) (hts _ m_X8_of_7b6120) (fun _ h9 => h9) rfl dX8_of_64 ?_
        refine lv_iload_n hx hb dX8_of_67 rfl (lv_at hl 1 rfl) ?_
        obtain ⟨h_68, hf⟩ := ck_e hf
        refine va_iald (cA := E.2.1) (n := 6) (f := s0 4) hx hb hK hP 2 0 rfl rfl h_68 dX8_of_68 ?_
        have e9 := Option.some.inj hf
        exact rt_i hx hb hr hlocks (fst_e e9) (rtP (P := fun z => va_P E.1 vwCl (wX8 E a0 z.2 t0) H) e9 hP) hS dX8_of_69
      · have hf := ite_f c_13_1 hf
        by_cases c_13_2 : p2 = 2
        · have hf := ite_t c_13_2 hf
          refine lv_tableIn (off := 57) (tgt := 70) hx hb dX8_of_13 (by rw [c_13_2]; decide) (by rw [c_13_2]; decide) (by rw [c_13_2]; rfl) (by decide) ?_
          refine lv_aload_n hx hb dX8_of_70 rfl (lv_at hl 0 rfl) ?_
          refine va_get (ci := 8) (C := RX8) (T := TX8) (N := 67) (v := .ref (a0 3)) hx hb hts i_X8_of_X8 hown hK hP 0 rfl rfl 5 (by decide) (hts _ m_X8_of_fa4c49) (fun _ h9 => h9) rfl dX8_of_71 ?_
          refine lv_iload_n hx hb dX8_of_74 rfl (lv_at hl 1 rfl) ?_
          obtain ⟨h_75, hf⟩ := ck_e hf
          refine va_iald (cA := E.2.1) (n := 6) (f := s0 5) hx hb hK hP 3 0 rfl rfl h_75 dX8_of_75 ?_
          have e9 := Option.some.inj hf
          exact rt_i hx hb hr hlocks (fst_e e9) (rtP (P := fun z => va_P E.1 vwCl (wX8 E a0 z.2 t0) H) e9 hP) hS dX8_of_76
        · have hf := ite_f c_13_2 hf
          by_cases c_13_3 : p2 = 3
          · have hf := ite_t c_13_3 hf
            refine lv_tableIn (off := 64) (tgt := 77) hx hb dX8_of_13 (by rw [c_13_3]; decide) (by rw [c_13_3]; decide) (by rw [c_13_3]; rfl) (by decide) ?_
            refine lv_aload_n hx hb dX8_of_77 rfl (lv_at hl 0 rfl) ?_
            refine lv_iload_n hx hb dX8_of_78 rfl (lv_at hl 1 rfl) ?_
            obtain ⟨q79, hc_79, hf⟩ := cl_e hf
            refine fin_i (E := E) (wc := wX8 E a0 s0 t0) (wc' := wX8 E a0 s0 t0) (va_runV (As := [.int p1]) (rest := []) ⟨hx, hb, hml, hown, hts⟩ (k_X8_placeOf l E a0 N s0 t0 p1 q79 hc_79 _) (cwV 1 hts gX8_of_X8_placeOf rfl rfl rfl (by decide +kernel) ⟨(Nat.le_of_ble_eq_true rfl), (Nat.le_of_ble_eq_true rfl)⟩) (pre_v (ci := 8) (q0 := 0) hK hP (hDD s0 t0) hS hG hAB rfl rfl) rfl rfl hl.1 rfl (lv_room (Nat.le_of_ble_eq_true rfl)) dX8_of_79 ⟨Nat.zero_le _, Nat.zero_le _⟩) hS (w_free (hDD s0 t0) hS hA (fun _ h => h)) (fun H locs hP1 hk hS => ?_)
            have hP := hP1
            have e9 := Option.some.inj hf
            exact rt_i hx hb hr hlocks (fst_e e9) (rtP (P := fun z => va_P E.1 vwCl (wX8 E a0 z.2 t0) H) e9 hP) hS dX8_of_82
          · have hf := ite_f c_13_3 hf
            by_cases c_13_4 : p2 = 4
            · have hf := ite_t c_13_4 hf
              refine lv_tableIn (off := 70) (tgt := 83) hx hb dX8_of_13 (by rw [c_13_4]; decide) (by rw [c_13_4]; decide) (by rw [c_13_4]; rfl) (by decide) ?_
              refine lv_aload_n hx hb dX8_of_83 rfl (lv_at hl 0 rfl) ?_
              refine lv_iload_n hx hb dX8_of_84 rfl (lv_at hl 1 rfl) ?_
              obtain ⟨q85, hc_85, hf⟩ := cl_e hf
              refine fin_i (E := E) (wc := wX8 E a0 s0 t0) (wc' := wX8 E a0 q85.2 t0) (va_runV (As := [.int p1]) (rest := []) ⟨hx, hb, hml, hown, hts⟩ (k_X8_taste l E a0 N s0 t0 p1 q85 hc_85 _) (cwV 1 hts gX8_of_X8_taste rfl rfl rfl (by decide +kernel) ⟨(Nat.le_of_ble_eq_true rfl), (Nat.le_of_ble_eq_true rfl)⟩) (pre_v (ci := 8) (q0 := 0) hK hP (hDD s0 t0) hS hG hAB rfl rfl) rfl rfl hl.1 rfl (lv_room (Nat.le_of_ble_eq_true rfl)) dX8_of_85 ⟨Nat.zero_le _, Nat.zero_le _⟩) hS (w_free (hDD s0 t0) hS hA (fun _ h => h)) (fun H locs hP1 hk hS => ?_)
              have hP := hP1
              have e9 := Option.some.inj hf
              exact rt_i hx hb hr hlocks (fst_e e9) (rtP (P := fun z => va_P E.1 vwCl (wX8 E a0 z.2 t0) H) e9 hP) hS dX8_of_88
            · have hf := ite_f c_13_4 hf
              by_cases c_13_5 : p2 = 5
              · have hf := ite_t c_13_5 hf
                refine lv_tableIn (off := 76) (tgt := 89) hx hb dX8_of_13 (by rw [c_13_5]; decide) (by rw [c_13_5]; decide) (by rw [c_13_5]; rfl) (by decide) ?_
                refine lv_aload_n hx hb dX8_of_89 rfl (lv_at hl 0 rfl) ?_
                refine lv_iload_n hx hb dX8_of_90 rfl (lv_at hl 1 rfl) ?_
                obtain ⟨q91, hc_91, hf⟩ := cl_e hf
                refine fin_i (E := E) (wc := wX8 E a0 s0 t0) (wc' := wX8 E a0 s0 t0) (va_runV (As := [.int p1]) (rest := []) ⟨hx, hb, hml, hown, hts⟩ (k_X8_alikeOf l E a0 N s0 t0 p1 q91 hc_91 _) (cwV 1 hts gX8_of_X8_alikeOf rfl rfl rfl (by decide +kernel) ⟨(Nat.le_of_ble_eq_true rfl), (Nat.le_of_ble_eq_true rfl)⟩) (pre_v (ci := 8) (q0 := 0) hK hP (hDD s0 t0) hS hG hAB rfl rfl) rfl rfl hl.1 rfl (lv_room (Nat.le_of_ble_eq_true rfl)) dX8_of_91 ⟨Nat.zero_le _, Nat.zero_le _⟩) hS (w_free (hDD s0 t0) hS hA (fun _ h => h)) (fun H locs hP1 hk hS => ?_)
                have hP := hP1
                have e9 := Option.some.inj hf
                exact rt_i hx hb hr hlocks (fst_e e9) (rtP (P := fun z => va_P E.1 vwCl (wX8 E a0 z.2 t0) H) e9 hP) hS dX8_of_94
              · have hf := ite_f c_13_5 hf
                by_cases c_13_6 : p2 = 6
                · have hf := ite_t c_13_6 hf
                  refine lv_tableIn (off := 82) (tgt := 95) hx hb dX8_of_13 (by rw [c_13_6]; decide) (by rw [c_13_6]; decide) (by rw [c_13_6]; rfl) (by decide) ?_
                  refine lv_aload_n hx hb dX8_of_95 rfl (lv_at hl 0 rfl) ?_
                  refine lv_iload_n hx hb dX8_of_96 rfl (lv_at hl 1 rfl) ?_
                  obtain ⟨q97, hc_97, hf⟩ := cl_e hf
                  refine fin_i (E := E) (wc := wX8 E a0 s0 t0) (wc' := wX8 E a0 q97.2 t0) (va_runV (As := [.int p1]) (rest := []) ⟨hx, hb, hml, hown, hts⟩ (k_X8_goes l E a0 N s0 t0 p1 q97 hc_97 _) (cwV 1 hts gX8_of_X8_goes rfl rfl rfl (by decide +kernel) ⟨(Nat.le_of_ble_eq_true rfl), (Nat.le_of_ble_eq_true rfl)⟩) (pre_v (ci := 8) (q0 := 0) hK hP (hDD s0 t0) hS hG hAB rfl rfl) rfl rfl hl.1 rfl (lv_room (Nat.le_of_ble_eq_true rfl)) dX8_of_97 ⟨Nat.zero_le _, Nat.zero_le _⟩) hS (w_free (hDD s0 t0) hS hA (fun _ h => h)) (fun H locs hP1 hk hS => ?_)
                  have hP := hP1
                  refine lv_if_eq (tgt := 107) hx hb dX8_of_100 (by decide) (fun c_100 => ?_) (fun c_100 => ?_)
                  · have hf := ite_t c_100 hf
                    refine lv_iconst (v := 0) hx hb dX8_of_107 (by decide) ?_
                    have e9 := Option.some.inj hf
                    exact rt_i hx hb hr hlocks (fst_e e9) (rtP (P := fun z => va_P E.1 vwCl (wX8 E a0 z.2 t0) H) e9 hP) hS dX8_of_108
                  · have hf := ite_f c_100 hf
                    refine lv_iconst (v := 1) hx hb dX8_of_103 (by decide) ?_
                    refine lv_goto (tgt := 108) hx hb dX8_of_104 (by decide) ?_
                    have e9 := Option.some.inj hf
                    exact rt_i hx hb hr hlocks (fst_e e9) (rtP (P := fun z => va_P E.1 vwCl (wX8 E a0 z.2 t0) H) e9 hP) hS dX8_of_108
                · have hf := ite_f c_13_6 hf
                  refine lv_tableOut (tgt := 109) hx hb dX8_of_13 (by have n0 := lv_neT (a := 0) c_13_0 (by decide); have n1 := lv_neT (a := 1) c_13_1 (by decide); have n2 := lv_neT (a := 2) c_13_2 (by decide); have n3 := lv_neT (a := 3) c_13_3 (by decide); have n4 := lv_neT (a := 4) c_13_4 (by decide); have n5 := lv_neT (a := 5) c_13_5 (by decide); have n6 := lv_neT (a := 6) c_13_6 (by decide); omega) (by decide) ?_
                  refine lv_sipush (v := (-1001)) hx hb dX8_of_109 (by decide) ?_
                  have e9 := Option.some.inj hf
                  exact rt_i hx hb hr hlocks (fst_e e9) (rtP (P := fun z => va_P E.1 vwCl (wX8 E a0 z.2 t0) H) e9 hP) hS dX8_of_112
  · have hf := ite_t c_5 hf
    refine lv_sipush (v := (-1001)) hx hb dX8_of_8 (by decide) ?_
    have e9 := Option.some.inj hf
    exact rt_i hx hb hr hlocks (fst_e e9) (rtP (P := fun z => va_P E.1 vwCl (wX8 E a0 z.2 t0) H) e9 hP) hS dX8_of_11
abbrev rm_X8_pushes : Room := { frames := 0, cells := 0, slots := 0, locals := 0 }
theorem m_X8_pushes_ef0124 : Cond.fieldLink RX8 32 "PickedMatchModel" "hadOf" "[I" ∈ wsX8_pushes := by decide +kernel
theorem i_X8_pushes_X8 : ∀ w ∈ wsX80, w ∈ wsX8_pushes := fun _ h => List.mem_cons_of_mem _ (List.mem_append_right _ h)
theorem m_X8_pushes_92e5f7 : Cond.fieldLink RX8 13 "PickedMatchModel" "had" "I" ∈ wsX8_pushes := by decide +kernel
set_option maxHeartbeats 8000000 in
set_option maxRecDepth 100000 in
theorem k_X8_pushes (l : Launch) (E : Ev) (a0 : Nat → Nat) (N : Nat) (s0 : St) (t0 : Nat → Nat → Int64) (p1 : Int32) (q : (St)) (hf : f_X8_pushes N s0 p1 = some q) : Cv l yX8_pushes wsX8_pushes rm_X8_pushes E [.ref (a0 0), .int p1] (wX8 E a0 s0 t0) (wX8 E a0 q t0) := by
  unfold f_X8_pushes at hf
  intro sz
  refine Met.ofW (cc := cX8_pushes) (maxL := 2) (ret := none) (by decide) rfl ?_
  intro p e s m args below meth c s₁ B hml hv
  obtain ⟨rfl, hsz, hP, hK, hD0, hG, hA, hAB⟩ := start hv
  have hx := B.exec
  have hb := B.bytes
  have hr := B.returns
  have hts := atoms_spec (ws := wsX8_pushes) B.pre
  have hown : s.vm.findClass RX8 = some m.cls := findClass_of_methodNamed B.named
  have hlocks := B.notSynchronized
  subst hsz
  generalize va_A (wX8 E a0 s0 t0) s.heap.size = A0 at hD0 hA hAB ⊢
  have hDD : ∀ (s0 : St) (t0 : Nat → Nat → Int64), va_D A0 (wX8 E a0 s0 t0) := fun s0 t0 => vD_addr hD0 rfl
  have hS : va_S A0 s.heap s.heap [] := va_S.rf
  have hl := lv_entry ([.ref (a0 0), .int p1]) (n := 2) (Nat.le_of_ble_eq_true rfl)
  rw [lg_entry_eq]
  generalize (lg_sl ([.ref (a0 0), .int p1]) ++ List.replicate (2 - (lg_sl ([.ref (a0 0), .int p1])).length) Slot.unset).toArray = ls at hl ⊢
  have hl : lv_has ls 2 [(0, .ref (a0 0)), (1, .int p1)] := hl
  refine lv_aload_n hx hb dX8_pushes_0 rfl (lv_at hl 0 rfl) ?_
  refine va_get (ci := 8) (C := RX8) (T := TX8) (N := 67) (v := .ref (a0 5)) hx hb hts i_X8_pushes_X8 hown hK hP 0 rfl rfl 7 (by decide) (hts _ m_X8_pushes_ef0124) (fun _ h9 => h9) rfl dX8_pushes_1 ?_
  refine lv_aload_n hx hb dX8_pushes_4 rfl (lv_at hl 0 rfl) ?_
  refine va_get (ci := 8) (C := RX8) (T := TX8) (N := 67) (v := .int (s0 1 0)) hx hb hts i_X8_pushes_X8 hown hK hP 0 rfl rfl 1 (by decide) (hts _ m_X8_pushes_92e5f7) (fun _ h9 => h9) rfl dX8_pushes_5 ?_
  refine lv_iload_n hx hb dX8_pushes_8 rfl (lv_at hl 1 rfl) ?_
  obtain ⟨h_9, hf⟩ := ck_e hf
  refine va_iast (cA := E.2.1) (n := 6) (f := s0 7) (x := p1) hx hb hK hP (hDD s0 t0) hS 5 0 rfl rfl h_9 dX8_pushes_9 (fun H locs hP _ hS => ?_)
  obtain ⟨s0_9, hP, hf⟩ := nm_st' (P := fun z => va_P E.1 vwCl (wX8 E a0 z t0) H) hf hP
  refine lv_aload_n hx hb dX8_pushes_10 rfl (lv_at hl 0 rfl) ?_
  refine lv_dup hx hb dX8_pushes_11 rfl ?_
  refine va_get (ci := 8) (C := RX8) (T := TX8) (N := 67) (v := .int (s0_9 1 0)) hx hb hts i_X8_pushes_X8 hown hK hP 0 rfl rfl 1 (by decide) (hts _ m_X8_pushes_92e5f7) (fun _ h9 => h9) rfl dX8_pushes_12 ?_
  refine lv_iconst (v := 1) hx hb dX8_pushes_15 (by decide) ?_
  refine lv_iadd hx hb dX8_pushes_16 ?_
  refine va_put (ci := 8) (v := .int ((s0_9 1 0) + 1)) (ty := .int) (C := RX8) (T := TX8) (N := 67) hx hb hts i_X8_pushes_X8 tyX8 tyX8_ok nmX8 hown hK hP (hDD s0_9 t0) hS 0 rfl rfl 1 (by decide) (hts _ m_X8_pushes_92e5f7) (fun _ h9 => h9) rfl (by decide +kernel) rfl rfl (Nat.le_of_ble_eq_true rfl) dX8_pushes_17 (fun H locs hP _ hS => ?_)
  obtain ⟨s0_17, hP, hf⟩ := nm_st' (P := fun z => va_P E.1 vwCl (wX8 E a0 z t0) H) hf hP
  have e9 := Option.some.inj hf
  exact rt_v hx hb hr hlocks (rtP (P := fun z => va_P E.1 vwCl (wX8 E a0 z t0) H) e9 hP) hS dX8_pushes_20
abbrev rm_X8_take : Room := { frames := 8, cells := 0, slots := 0, locals := 180 }
theorem m_X8_take_92e5f7 : Cond.fieldLink RX8 13 "PickedMatchModel" "had" "I" ∈ wsX8_take := by decide +kernel
theorem i_X8_take_X8 : ∀ w ∈ wsX80, w ∈ wsX8_take := fun _ h => List.mem_cons_of_mem _ (List.mem_append_right _ h)
set_option maxHeartbeats 8000000 in
set_option maxRecDepth 100000 in
theorem k_X8_take (l : Launch) (E : Ev) (a0 : Nat → Nat) (N : Nat) (s0 : St) (t0 : Nat → Nat → Int64) (p1 : Int32) (q : (Int32 × St)) (hf : f_X8_take N s0 p1 = some q) : Ci l yX8_take wsX8_take rm_X8_take E [.ref (a0 0), .int p1] (wX8 E a0 s0 t0) (wX8 E a0 q.2 t0) q.1 := by
  unfold f_X8_take at hf
  intro sz
  refine Met.ofW (cc := cX8_take) (maxL := 2) (ret := (some .int)) (by decide) rfl ?_
  intro p e s m args below meth c s₁ B hml hv
  obtain ⟨rfl, hsz, hP, hK, hD0, hG, hA, hAB⟩ := start hv
  have hx := B.exec
  have hb := B.bytes
  have hr := B.returns
  have hts := atoms_spec (ws := wsX8_take) B.pre
  have hown : s.vm.findClass RX8 = some m.cls := findClass_of_methodNamed B.named
  have hlocks := B.notSynchronized
  subst hsz
  generalize va_A (wX8 E a0 s0 t0) s.heap.size = A0 at hD0 hA hAB ⊢
  have hDD : ∀ (s0 : St) (t0 : Nat → Nat → Int64), va_D A0 (wX8 E a0 s0 t0) := fun s0 t0 => vD_addr hD0 rfl
  have hS : va_S A0 s.heap s.heap [] := va_S.rf
  have hl := lv_entry ([.ref (a0 0), .int p1]) (n := 2) (Nat.le_of_ble_eq_true rfl)
  rw [lg_entry_eq]
  generalize (lg_sl ([.ref (a0 0), .int p1]) ++ List.replicate (2 - (lg_sl ([.ref (a0 0), .int p1])).length) Slot.unset).toArray = ls at hl ⊢
  have hl : lv_has ls 2 [(0, .ref (a0 0)), (1, .int p1)] := hl
  refine lv_aload_n hx hb dX8_take_0 rfl (lv_at hl 0 rfl) ?_
  refine lv_iload_n hx hb dX8_take_1 rfl (lv_at hl 1 rfl) ?_
  obtain ⟨q2, hc_2, hf⟩ := cl_e hf
  refine fin_i (E := E) (wc := wX8 E a0 s0 t0) (wc' := wX8 E a0 s0 t0) (va_runV (As := [.int p1]) (rest := []) ⟨hx, hb, hml, hown, hts⟩ (k_X8_isThing l E a0 N s0 t0 p1 q2 hc_2 _) (cwV 1 hts gX8_take_X8_isThing rfl rfl rfl (by decide +kernel) ⟨(Nat.le_of_ble_eq_true rfl), (Nat.le_of_ble_eq_true rfl)⟩) (pre_v (ci := 8) (q0 := 0) hK hP (hDD s0 t0) hS hG hAB rfl rfl) rfl rfl hl.1 rfl (lv_room (Nat.le_of_ble_eq_true rfl)) dX8_take_2 ⟨Nat.zero_le _, Nat.zero_le _⟩) hS (w_free (hDD s0 t0) hS hA (fun _ h => h)) (fun H locs hP1 hk hS => ?_)
  have hP := hP1
  refine lv_if_ne (tgt := 10) hx hb dX8_take_5 (by decide) (fun c_5 => ?_) (fun c_5 => ?_)
  · have hf := ite_f c_5 hf
    refine lv_aload_n hx hb dX8_take_10 rfl (lv_at hl 0 rfl) ?_
    refine lv_iload_n hx hb dX8_take_11 rfl (lv_at hl 1 rfl) ?_
    obtain ⟨q12, hc_12, hf⟩ := cl_e hf
    refine fin_i (E := E) (wc := wX8 E a0 s0 t0) (wc' := wX8 E a0 q12.2 t0) (va_runV (As := [.int p1]) (rest := []) ⟨hx, hb, hml, hown, hts⟩ (k_X8_goes l E a0 N s0 t0 p1 q12 hc_12 _) (cwV 1 hts gX8_take_X8_goes rfl rfl rfl (by decide +kernel) ⟨(Nat.le_of_ble_eq_true rfl), (Nat.le_of_ble_eq_true rfl)⟩) (pre_v (ci := 8) (q0 := 0) hK hP (hDD s0 t0) hS hG hAB rfl rfl) rfl rfl hl.1 rfl (lv_room (Nat.le_of_ble_eq_true rfl)) dX8_take_12 ⟨Nat.zero_le _, Nat.zero_le _⟩) hS (w_free (hDD s0 t0) hS hA (fun _ h => h)) (fun H locs hP1 hk hS => ?_)
    have hP := hP1
    refine lv_if_ne (tgt := 21) hx hb dX8_take_15 (by decide) (fun c_15 => ?_) (fun c_15 => ?_)
    · have hf := ite_f c_15 hf
      refine lv_aload_n hx hb dX8_take_21 rfl (lv_at hl 0 rfl) ?_
      refine lv_iload_n hx hb dX8_take_22 rfl (lv_at hl 1 rfl) ?_
      obtain ⟨q23, hc_23, hf⟩ := cl_e hf
      refine fin_v (E := E) (wc := wX8 E a0 q12.2 t0) (wc' := wX8 E a0 q23 t0) (va_runV (As := [.int p1]) (rest := []) ⟨hx, hb, hml, hown, hts⟩ (k_X8_pushes l E a0 N q12.2 t0 p1 q23 hc_23 _) (cwV 1 hts gX8_take_X8_pushes rfl rfl rfl (by decide +kernel) ⟨(Nat.le_of_ble_eq_true rfl), (Nat.le_of_ble_eq_true rfl)⟩) (pre_v (ci := 8) (q0 := 0) hK hP (hDD q12.2 t0) hS hG hAB rfl rfl) rfl rfl hl.1 rfl (lv_room (Nat.le_of_ble_eq_true rfl)) dX8_take_23 ⟨Nat.zero_le _, Nat.zero_le _⟩) hS (w_free (hDD q12.2 t0) hS hA (fun _ h => h)) (fun H locs hP1 hk hS => ?_)
      have hP := hP1
      refine lv_aload_n hx hb dX8_take_26 rfl (lv_at hl 0 rfl) ?_
      refine va_get (ci := 8) (C := RX8) (T := TX8) (N := 67) (v := .int (q23 1 0)) hx hb hts i_X8_take_X8 hown hK hP 0 rfl rfl 1 (by decide) (hts _ m_X8_take_92e5f7) (fun _ h9 => h9) rfl dX8_take_27 ?_
      have e9 := Option.some.inj hf
      exact rt_i hx hb hr hlocks (fst_e e9) (rtP (P := fun z => va_P E.1 vwCl (wX8 E a0 z.2 t0) H) e9 hP) hS dX8_take_30
    · have hf := ite_t c_15 hf
      refine lv_bipush (v := (-3)) hx hb dX8_take_18 (by decide) ?_
      have e9 := Option.some.inj hf
      exact rt_i hx hb hr hlocks (fst_e e9) (rtP (P := fun z => va_P E.1 vwCl (wX8 E a0 z.2 t0) H) e9 hP) hS dX8_take_20
  · have hf := ite_t c_5 hf
    refine lv_iconst (v := (-1)) hx hb dX8_take_8 (by decide) ?_
    have e9 := Option.some.inj hf
    exact rt_i hx hb hr hlocks (fst_e e9) (rtP (P := fun z => va_P E.1 vwCl (wX8 E a0 z.2 t0) H) e9 hP) hS dX8_take_9
abbrev rm_X8_put : Room := { frames := 0, cells := 0, slots := 0, locals := 0 }
theorem m_X8_put_92e5f7 : Cond.fieldLink RX8 13 "PickedMatchModel" "had" "I" ∈ wsX8_put := by decide +kernel
theorem i_X8_put_X8 : ∀ w ∈ wsX80, w ∈ wsX8_put := fun _ h => List.mem_cons_of_mem _ (List.mem_append_right _ h)
theorem m_X8_put_ef0124 : Cond.fieldLink RX8 32 "PickedMatchModel" "hadOf" "[I" ∈ wsX8_put := by decide +kernel
set_option maxHeartbeats 8000000 in
set_option maxRecDepth 100000 in
theorem k_X8_put (l : Launch) (E : Ev) (a0 : Nat → Nat) (N : Nat) (s0 : St) (t0 : Nat → Nat → Int64) (q : (Int32 × St)) (hf : f_X8_put N s0 = some q) : Ci l yX8_put wsX8_put rm_X8_put E [.ref (a0 0)] (wX8 E a0 s0 t0) (wX8 E a0 q.2 t0) q.1 := by
  unfold f_X8_put at hf
  intro sz
  refine Met.ofW (cc := cX8_put) (maxL := 1) (ret := (some .int)) (by decide) rfl ?_
  intro p e s m args below meth c s₁ B hml hv
  obtain ⟨rfl, hsz, hP, hK, hD0, hG, hA, hAB⟩ := start hv
  have hx := B.exec
  have hb := B.bytes
  have hr := B.returns
  have hts := atoms_spec (ws := wsX8_put) B.pre
  have hown : s.vm.findClass RX8 = some m.cls := findClass_of_methodNamed B.named
  have hlocks := B.notSynchronized
  subst hsz
  generalize va_A (wX8 E a0 s0 t0) s.heap.size = A0 at hD0 hA hAB ⊢
  have hDD : ∀ (s0 : St) (t0 : Nat → Nat → Int64), va_D A0 (wX8 E a0 s0 t0) := fun s0 t0 => vD_addr hD0 rfl
  have hS : va_S A0 s.heap s.heap [] := va_S.rf
  have hl := lv_entry ([.ref (a0 0)]) (n := 1) (Nat.le_of_ble_eq_true rfl)
  rw [lg_entry_eq]
  generalize (lg_sl ([.ref (a0 0)]) ++ List.replicate (1 - (lg_sl ([.ref (a0 0)])).length) Slot.unset).toArray = ls at hl ⊢
  have hl : lv_has ls 1 [(0, .ref (a0 0))] := hl
  refine lv_aload_n hx hb dX8_put_0 rfl (lv_at hl 0 rfl) ?_
  refine va_get (ci := 8) (C := RX8) (T := TX8) (N := 67) (v := .int (s0 1 0)) hx hb hts i_X8_put_X8 hown hK hP 0 rfl rfl 1 (by decide) (hts _ m_X8_put_92e5f7) (fun _ h9 => h9) rfl dX8_put_1 ?_
  refine lv_if_ne (tgt := 10) hx hb dX8_put_4 (by decide) (fun c_4 => ?_) (fun c_4 => ?_)
  · have hf := ite_f c_4 hf
    refine lv_aload_n hx hb dX8_put_10 rfl (lv_at hl 0 rfl) ?_
    refine lv_dup hx hb dX8_put_11 rfl ?_
    refine va_get (ci := 8) (C := RX8) (T := TX8) (N := 67) (v := .int (s0 1 0)) hx hb hts i_X8_put_X8 hown hK hP 0 rfl rfl 1 (by decide) (hts _ m_X8_put_92e5f7) (fun _ h9 => h9) rfl dX8_put_12 ?_
    refine lv_iconst (v := 1) hx hb dX8_put_15 (by decide) ?_
    refine lv_isub hx hb dX8_put_16 ?_
    refine va_put (ci := 8) (v := .int ((s0 1 0) - 1)) (ty := .int) (C := RX8) (T := TX8) (N := 67) hx hb hts i_X8_put_X8 tyX8 tyX8_ok nmX8 hown hK hP (hDD s0 t0) hS 0 rfl rfl 1 (by decide) (hts _ m_X8_put_92e5f7) (fun _ h9 => h9) rfl (by decide +kernel) rfl rfl (Nat.le_of_ble_eq_true rfl) dX8_put_17 (fun H locs hP _ hS => ?_)
    obtain ⟨s0_17, hP, hf⟩ := nm_st' (P := fun z => va_P E.1 vwCl (wX8 E a0 z t0) H) hf hP
    refine lv_aload_n hx hb dX8_put_20 rfl (lv_at hl 0 rfl) ?_
    refine va_get (ci := 8) (C := RX8) (T := TX8) (N := 67) (v := .ref (a0 5)) hx hb hts i_X8_put_X8 hown hK hP 0 rfl rfl 7 (by decide) (hts _ m_X8_put_ef0124) (fun _ h9 => h9) rfl dX8_put_21 ?_
    refine lv_aload_n hx hb dX8_put_24 rfl (lv_at hl 0 rfl) ?_
    refine va_get (ci := 8) (C := RX8) (T := TX8) (N := 67) (v := .int (s0_17 1 0)) hx hb hts i_X8_put_X8 hown hK hP 0 rfl rfl 1 (by decide) (hts _ m_X8_put_92e5f7) (fun _ h9 => h9) rfl dX8_put_25 ?_
    obtain ⟨h_28, hf⟩ := ck_e hf
    refine va_iald (cA := E.2.1) (n := 6) (f := s0_17 7) hx hb hK hP 5 0 rfl rfl h_28 dX8_put_28 ?_
    have e9 := Option.some.inj hf
    exact rt_i hx hb hr hlocks (fst_e e9) (rtP (P := fun z => va_P E.1 vwCl (wX8 E a0 z.2 t0) H) e9 hP) hS dX8_put_29
  · have hf := ite_t c_4 hf
    refine lv_bipush (v := (-3)) hx hb dX8_put_7 (by decide) ?_
    have e9 := Option.some.inj hf
    exact rt_i hx hb hr hlocks (fst_e e9) (rtP (P := fun z => va_P E.1 vwCl (wX8 E a0 z.2 t0) s.heap) e9 hP) hS dX8_put_9
abbrev rm_X8_twins : Room := { frames := 2, cells := 0, slots := 0, locals := 45 }
theorem m_X8_twins_acbb5e : Cond.fieldLink RX8 7 "PickedMatchModel" "things" "I" ∈ wsX8_twins := by decide +kernel
theorem i_X8_twins_X8 : ∀ w ∈ wsX80, w ∈ wsX8_twins := fun _ h => List.mem_cons_of_mem _ (List.mem_append_right _ h)
theorem m_X8_twins_fa4c49 : Cond.fieldLink RX8 26 "PickedMatchModel" "marks" "[I" ∈ wsX8_twins := by decide +kernel
set_option maxHeartbeats 8000000 in
set_option maxRecDepth 100000 in
theorem k_X8_twins (l : Launch) (E : Ev) (a0 : Nat → Nat) (N : Nat) (s0 : St) (t0 : Nat → Nat → Int64) (q : (Int32)) (hf : f_X8_twins N s0 = some q) : Ci l yX8_twins wsX8_twins rm_X8_twins E [.ref (a0 0)] (wX8 E a0 s0 t0) (wX8 E a0 s0 t0) q := by
  unfold f_X8_twins at hf
  intro sz
  refine Met.ofW (cc := cX8_twins) (maxL := 6) (ret := (some .int)) (by decide) rfl ?_
  intro p e s m args below meth c s₁ B hml hv
  obtain ⟨rfl, hsz, hP, hK, hD0, hG, hA, hAB⟩ := start hv
  have hx := B.exec
  have hb := B.bytes
  have hr := B.returns
  have hts := atoms_spec (ws := wsX8_twins) B.pre
  have hown : s.vm.findClass RX8 = some m.cls := findClass_of_methodNamed B.named
  have hlocks := B.notSynchronized
  subst hsz
  generalize va_A (wX8 E a0 s0 t0) s.heap.size = A0 at hD0 hA hAB ⊢
  have hDD : ∀ (s0 : St) (t0 : Nat → Nat → Int64), va_D A0 (wX8 E a0 s0 t0) := fun s0 t0 => vD_addr hD0 rfl
  have hS : va_S A0 s.heap s.heap [] := va_S.rf
  have hl := lv_entry ([.ref (a0 0)]) (n := 6) (Nat.le_of_ble_eq_true rfl)
  rw [lg_entry_eq]
  generalize (lg_sl ([.ref (a0 0)]) ++ List.replicate (6 - (lg_sl ([.ref (a0 0)])).length) Slot.unset).toArray = ls at hl ⊢
  have hl : lv_has ls 6 [(0, .ref (a0 0))] := hl
  have hL_7 : ∀ (s0 : St) (n_7 : Nat) (v1 : Int32) (v2 : Int32) (v3 : Int32), l_X8_twins_7 N s0 n_7 v1 v2 v3 = some q → ∀ (H : Heap) (locs : List Loc) (ls : Array Slot), va_P E.1 vwCl (wX8 E a0 s0 t0) H → va_S A0 s.heap H locs → lv_has ls 6 [(0, .ref (a0 0)), (1, .int v1), (2, .int v2), (3, .int v3)] → W p l e rm_X8_twins s m ([.ref (a0 0)] : List Value).toArray below meth c H locs 0 0 (MQ below (va_Qi (fun (r' : Int32) (_ : Unit) => r' = q) (fun _ t => va_P E.1 vwCl (wX8 E a0 s0 t0) t.heap) A0) ([.ref (a0 0)] : List Value).toArray s 0 0 A0) (F0 m 7 ls []) := by
    intro s0 n_7
    induction n_7 with
    | zero => intro v1 v2 v3 hf; rw [l_X8_twins_7] at hf; cases hf
    | succ n_7 ih_7 =>
      intro v1 v2 v3 hf H locs ls hP hS hl
      rw [l_X8_twins_7] at hf
      have hL_20 : ∀ (v3 : Int32) (n_20 : Nat) (v1 : Int32) (v2 : Int32) (v4 : Int32), l_X8_twins_20 N (l_X8_twins_7 N s0 n_7) s0 v3 n_20 v1 v2 v4 = some q → ∀ (H : Heap) (locs : List Loc) (ls : Array Slot), va_P E.1 vwCl (wX8 E a0 s0 t0) H → va_S A0 s.heap H locs → lv_has ls 6 [(0, .ref (a0 0)), (1, .int v1), (2, .int v2), (3, .int v3), (4, .int v4)] → W p l e rm_X8_twins s m ([.ref (a0 0)] : List Value).toArray below meth c H locs 0 0 (MQ below (va_Qi (fun (r' : Int32) (_ : Unit) => r' = q) (fun _ t => va_P E.1 vwCl (wX8 E a0 s0 t0) t.heap) A0) ([.ref (a0 0)] : List Value).toArray s 0 0 A0) (F0 m 20 ls []) := by
        intro v3 n_20
        induction n_20 with
        | zero => intro v1 v2 v4 hf; rw [l_X8_twins_20] at hf; cases hf
        | succ n_20 ih_20 =>
          intro v1 v2 v4 hf H locs ls hP hS hl
          rw [l_X8_twins_20] at hf
          refine lv_iload hx hb dX8_twins_20 (lv_at hl 4 rfl) ?_
          refine lv_aload_n hx hb dX8_twins_22 rfl (lv_at hl 0 rfl) ?_
          refine va_get (ci := 8) (C := RX8) (T := TX8) (N := 67) (v := .int (s0 0 0)) hx hb hts i_X8_twins_X8 hown hK hP 0 rfl rfl 0 (by decide) (hts _ m_X8_twins_acbb5e) (fun _ h9 => h9) rfl dX8_twins_23 ?_
          refine lv_icmp_ge (tgt := 79) hx hb dX8_twins_26 (by decide) (fun c_26 => ?_) (fun c_26 => ?_)
          · have hf := ite_t c_26 hf
            obtain ⟨x79, e_x79⟩ : ∃ y : Int32, y = v3 + 1 := ⟨_, rfl⟩
            have hf := nm_q e_x79 hf
            refine lv_iinc (v := x79) (lv' := [(3, .int x79), (0, .ref (a0 0)), (1, .int v1), (2, .int v2), (4, .int v4)]) hx hb dX8_twins_79 hl (k := 3) rfl (by rw [e_x79]; rfl) (Nat.le_of_ble_eq_true rfl) rfl (fun ls hl => ?_)
            refine lv_goto (tgt := 7) hx hb dX8_twins_82 (by decide) ?_
            exact ih_7 v1 v2 x79 hf _ _ _ hP hS (lv_sub hl [1, 2, 3, 0] rfl)
          · have hf := ite_f c_26 hf
            refine lv_aload_n hx hb dX8_twins_29 rfl (lv_at hl 0 rfl) ?_
            refine lv_aload_n hx hb dX8_twins_30 rfl (lv_at hl 0 rfl) ?_
            refine va_get (ci := 8) (C := RX8) (T := TX8) (N := 67) (v := .ref (a0 3)) hx hb hts i_X8_twins_X8 hown hK hP 0 rfl rfl 5 (by decide) (hts _ m_X8_twins_fa4c49) (fun _ h9 => h9) rfl dX8_twins_31 ?_
            refine lv_iload_n hx hb dX8_twins_34 rfl (lv_at hl 3 rfl) ?_
            obtain ⟨h_35, hf⟩ := ck_e hf
            refine va_iald (cA := E.2.1) (n := 6) (f := s0 5) hx hb hK hP 3 0 rfl rfl h_35 dX8_twins_35 ?_
            refine lv_aload_n hx hb dX8_twins_36 rfl (lv_at hl 0 rfl) ?_
            refine va_get (ci := 8) (C := RX8) (T := TX8) (N := 67) (v := .ref (a0 3)) hx hb hts i_X8_twins_X8 hown hK hP 0 rfl rfl 5 (by decide) (hts _ m_X8_twins_fa4c49) (fun _ h9 => h9) rfl dX8_twins_37 ?_
            refine lv_iload hx hb dX8_twins_40 (lv_at hl 4 rfl) ?_
            obtain ⟨h_42, hf⟩ := ck_e hf
            refine va_iald (cA := E.2.1) (n := 6) (f := s0 5) hx hb hK hP 3 0 rfl rfl h_42 dX8_twins_42 ?_
            refine lv_ixor hx hb dX8_twins_43 ?_
            obtain ⟨q44, hc_44, hf⟩ := cl_e hf
            refine fin_i (E := E) (wc := wX8 E a0 s0 t0) (wc' := wX8 E a0 s0 t0) (va_runV (As := [.int ((s0 5 v3.toNatClampNeg) ^^^ (s0 5 v4.toNatClampNeg))]) (rest := []) ⟨hx, hb, hml, hown, hts⟩ (k_X8_bits l E a0 N s0 t0 ((s0 5 v3.toNatClampNeg) ^^^ (s0 5 v4.toNatClampNeg)) q44 hc_44 _) (cwV 1 hts gX8_twins_X8_bits rfl rfl rfl (by decide +kernel) ⟨(Nat.le_of_ble_eq_true rfl), (Nat.le_of_ble_eq_true rfl)⟩) (pre_v (ci := 8) (q0 := 0) hK hP (hDD s0 t0) hS hG hAB rfl rfl) rfl rfl hl.1 rfl (lv_room (Nat.le_of_ble_eq_true rfl)) dX8_twins_44 ⟨Nat.zero_le _, Nat.zero_le _⟩) hS (w_free (hDD s0 t0) hS hA (fun _ h => h)) (fun H locs hP1 hk hS => ?_)
            have hP := hP1
            refine lv_istore (lv' := [(5, .int q44), (0, .ref (a0 0)), (1, .int v1), (2, .int v2), (3, .int v3), (4, .int v4)]) hx hb dX8_twins_47 hl (Nat.le_of_ble_eq_true rfl) rfl (fun ls hl => ?_)
            refine lv_iload_n hx hb dX8_twins_49 rfl (lv_at hl 2 rfl) ?_
            refine lv_if_lt (tgt := 62) hx hb dX8_twins_50 (by decide) (fun c_50 => ?_) (fun c_50 => ?_)
            · have hf := ite_t c_50 hf
              refine lv_bipush (v := 10) hx hb dX8_twins_62 (by decide) ?_
              refine lv_iload_n hx hb dX8_twins_64 rfl (lv_at hl 4 rfl) ?_
              refine lv_imul hx hb dX8_twins_65 ?_
              refine lv_iload hx hb dX8_twins_66 (lv_at hl 5 rfl) ?_
              refine lv_iadd hx hb dX8_twins_68 ?_
              refine lv_topi (fun x69 e_x69 => ?_)
              have hf := nm_q e_x69 hf
              refine lv_istore_n (lv' := [(1, .int x69), (5, .int q44), (0, .ref (a0 0)), (2, .int v2), (3, .int v3), (4, .int v4)]) hx hb dX8_twins_69 rfl hl (Nat.le_of_ble_eq_true rfl) rfl (fun ls hl => ?_)
              refine lv_iload hx hb dX8_twins_70 (lv_at hl 1 rfl) ?_
              refine lv_istore_n (lv' := [(2, .int q44), (1, .int x69), (5, .int q44), (0, .ref (a0 0)), (3, .int v3), (4, .int v4)]) hx hb dX8_twins_72 rfl hl (Nat.le_of_ble_eq_true rfl) rfl (fun ls hl => ?_)
              obtain ⟨x73, e_x73⟩ : ∃ y : Int32, y = v4 + 1 := ⟨_, rfl⟩
              have hf := nm_q e_x73 hf
              refine lv_iinc (v := x73) (lv' := [(4, .int x73), (2, .int q44), (1, .int x69), (5, .int q44), (0, .ref (a0 0)), (3, .int v3)]) hx hb dX8_twins_73 hl (k := 5) rfl (by rw [e_x73]; rfl) (Nat.le_of_ble_eq_true rfl) rfl (fun ls hl => ?_)
              refine lv_goto (tgt := 20) hx hb dX8_twins_76 (by decide) ?_
              exact ih_20 x69 q44 x73 hf _ _ _ hP hS (lv_sub hl [4, 2, 1, 5, 0] rfl)
            · have hf := ite_f c_50 hf
              refine lv_iload hx hb dX8_twins_53 (lv_at hl 0 rfl) ?_
              refine lv_iload_n hx hb dX8_twins_55 rfl (lv_at hl 3 rfl) ?_
              refine lv_icmp_lt (tgt := 62) hx hb dX8_twins_56 (by decide) (fun c_56 => ?_) (fun c_56 => ?_)
              · have hf := ite_t c_56 hf
                refine lv_bipush (v := 10) hx hb dX8_twins_62 (by decide) ?_
                refine lv_iload_n hx hb dX8_twins_64 rfl (lv_at hl 4 rfl) ?_
                refine lv_imul hx hb dX8_twins_65 ?_
                refine lv_iload hx hb dX8_twins_66 (lv_at hl 5 rfl) ?_
                refine lv_iadd hx hb dX8_twins_68 ?_
                refine lv_topi (fun x69 e_x69 => ?_)
                have hf := nm_q e_x69 hf
                refine lv_istore_n (lv' := [(1, .int x69), (5, .int q44), (0, .ref (a0 0)), (2, .int v2), (3, .int v3), (4, .int v4)]) hx hb dX8_twins_69 rfl hl (Nat.le_of_ble_eq_true rfl) rfl (fun ls hl => ?_)
                refine lv_iload hx hb dX8_twins_70 (lv_at hl 1 rfl) ?_
                refine lv_istore_n (lv' := [(2, .int q44), (1, .int x69), (5, .int q44), (0, .ref (a0 0)), (3, .int v3), (4, .int v4)]) hx hb dX8_twins_72 rfl hl (Nat.le_of_ble_eq_true rfl) rfl (fun ls hl => ?_)
                obtain ⟨x73, e_x73⟩ : ∃ y : Int32, y = v4 + 1 := ⟨_, rfl⟩
                have hf := nm_q e_x73 hf
                refine lv_iinc (v := x73) (lv' := [(4, .int x73), (2, .int q44), (1, .int x69), (5, .int q44), (0, .ref (a0 0)), (3, .int v3)]) hx hb dX8_twins_73 hl (k := 5) rfl (by rw [e_x73]; rfl) (Nat.le_of_ble_eq_true rfl) rfl (fun ls hl => ?_)
                refine lv_goto (tgt := 20) hx hb dX8_twins_76 (by decide) ?_
                exact ih_20 x69 q44 x73 hf _ _ _ hP hS (lv_sub hl [4, 2, 1, 5, 0] rfl)
              · have hf := ite_f c_56 hf
                refine lv_goto (tgt := 73) hx hb dX8_twins_59 (by decide) ?_
                obtain ⟨x73, e_x73⟩ : ∃ y : Int32, y = v4 + 1 := ⟨_, rfl⟩
                have hf := nm_q e_x73 hf
                refine lv_iinc (v := x73) (lv' := [(4, .int x73), (5, .int q44), (0, .ref (a0 0)), (1, .int v1), (2, .int v2), (3, .int v3)]) hx hb dX8_twins_73 hl (k := 5) rfl (by rw [e_x73]; rfl) (Nat.le_of_ble_eq_true rfl) rfl (fun ls hl => ?_)
                refine lv_goto (tgt := 20) hx hb dX8_twins_76 (by decide) ?_
                exact ih_20 v1 v2 x73 hf _ _ _ hP hS (lv_sub hl [2, 3, 4, 5, 0] rfl)
      refine lv_iload_n hx hb dX8_twins_7 rfl (lv_at hl 3 rfl) ?_
      refine lv_aload_n hx hb dX8_twins_8 rfl (lv_at hl 0 rfl) ?_
      refine va_get (ci := 8) (C := RX8) (T := TX8) (N := 67) (v := .int (s0 0 0)) hx hb hts i_X8_twins_X8 hown hK hP 0 rfl rfl 0 (by decide) (hts _ m_X8_twins_acbb5e) (fun _ h9 => h9) rfl dX8_twins_9 ?_
      refine lv_icmp_ge (tgt := 85) hx hb dX8_twins_12 (by decide) (fun c_12 => ?_) (fun c_12 => ?_)
      · have hf := ite_t c_12 hf
        refine lv_iload_n hx hb dX8_twins_85 rfl (lv_at hl 1 rfl) ?_
        have e9 := Option.some.inj hf
        exact rt_i hx hb hr hlocks e9 hP hS dX8_twins_86
      · have hf := ite_f c_12 hf
        refine lv_iload_n hx hb dX8_twins_15 rfl (lv_at hl 3 rfl) ?_
        refine lv_iconst (v := 1) hx hb dX8_twins_16 (by decide) ?_
        refine lv_iadd hx hb dX8_twins_17 ?_
        refine lv_topi (fun x18 e_x18 => ?_)
        have hf := nm_q e_x18 hf
        refine lv_istore (lv' := [(4, .int x18), (0, .ref (a0 0)), (1, .int v1), (2, .int v2), (3, .int v3)]) hx hb dX8_twins_18 hl (Nat.le_of_ble_eq_true rfl) rfl (fun ls hl => ?_)
        exact hL_20 v3 N v1 v2 x18 hf _ _ _ hP hS (lv_sub hl [1, 2, 3, 4, 0] rfl)
  refine lv_bipush (v := (-5)) hx hb dX8_twins_0 (by decide) ?_
  refine lv_topi (fun x2 e_x2 => ?_)
  have hf := nm_q e_x2 hf
  refine lv_istore_n (lv' := [(1, .int x2), (0, .ref (a0 0))]) hx hb dX8_twins_2 rfl hl (Nat.le_of_ble_eq_true rfl) rfl (fun ls hl => ?_)
  refine lv_iconst (v := 0) hx hb dX8_twins_3 (by decide) ?_
  refine lv_istore_n (lv' := [(2, .int 0), (1, .int x2), (0, .ref (a0 0))]) hx hb dX8_twins_4 rfl hl (Nat.le_of_ble_eq_true rfl) rfl (fun ls hl => ?_)
  refine lv_iconst (v := 0) hx hb dX8_twins_5 (by decide) ?_
  refine lv_istore_n (lv' := [(3, .int 0), (2, .int 0), (1, .int x2), (0, .ref (a0 0))]) hx hb dX8_twins_6 rfl hl (Nat.le_of_ble_eq_true rfl) rfl (fun ls hl => ?_)
  exact hL_7 s0 N x2 0 0 hf _ _ _ hP hS (lv_sub hl [3, 2, 1, 0] rfl)
abbrev rm_X8_marksOf : Room := { frames := 1, cells := 0, slots := 0, locals := 22 }
theorem m_X8_marksOf_acbb5e : Cond.fieldLink RX8 7 "PickedMatchModel" "things" "I" ∈ wsX8_marksOf := by decide +kernel
theorem i_X8_marksOf_X8 : ∀ w ∈ wsX80, w ∈ wsX8_marksOf := fun _ h => List.mem_cons_of_mem _ (List.mem_append_right _ h)
theorem m_X8_marksOf_fa4c49 : Cond.fieldLink RX8 26 "PickedMatchModel" "marks" "[I" ∈ wsX8_marksOf := by decide +kernel
set_option maxHeartbeats 8000000 in
set_option maxRecDepth 100000 in
theorem k_X8_marksOf (l : Launch) (E : Ev) (a0 : Nat → Nat) (N : Nat) (s0 : St) (t0 : Nat → Nat → Int64) (p1 : Int32) (q : (Int32)) (hf : f_X8_marksOf N s0 p1 = some q) : Ci l yX8_marksOf wsX8_marksOf rm_X8_marksOf E [.ref (a0 0), .int p1] (wX8 E a0 s0 t0) (wX8 E a0 s0 t0) q := by
  unfold f_X8_marksOf at hf
  intro sz
  refine Met.ofW (cc := cX8_marksOf) (maxL := 4) (ret := (some .int)) (by decide) rfl ?_
  intro p e s m args below meth c s₁ B hml hv
  obtain ⟨rfl, hsz, hP, hK, hD0, hG, hA, hAB⟩ := start hv
  have hx := B.exec
  have hb := B.bytes
  have hr := B.returns
  have hts := atoms_spec (ws := wsX8_marksOf) B.pre
  have hown : s.vm.findClass RX8 = some m.cls := findClass_of_methodNamed B.named
  have hlocks := B.notSynchronized
  subst hsz
  generalize va_A (wX8 E a0 s0 t0) s.heap.size = A0 at hD0 hA hAB ⊢
  have hDD : ∀ (s0 : St) (t0 : Nat → Nat → Int64), va_D A0 (wX8 E a0 s0 t0) := fun s0 t0 => vD_addr hD0 rfl
  have hS : va_S A0 s.heap s.heap [] := va_S.rf
  have hl := lv_entry ([.ref (a0 0), .int p1]) (n := 4) (Nat.le_of_ble_eq_true rfl)
  rw [lg_entry_eq]
  generalize (lg_sl ([.ref (a0 0), .int p1]) ++ List.replicate (4 - (lg_sl ([.ref (a0 0), .int p1])).length) Slot.unset).toArray = ls at hl ⊢
  have hl : lv_has ls 4 [(0, .ref (a0 0)), (1, .int p1)] := hl
  have hL_4 : ∀ (s0 : St) (v1 : Int32) (n_4 : Nat) (v2 : Int32) (v3 : Int32), l_X8_marksOf_4 N s0 v1 n_4 v2 v3 = some q → ∀ (H : Heap) (locs : List Loc) (ls : Array Slot), va_P E.1 vwCl (wX8 E a0 s0 t0) H → va_S A0 s.heap H locs → lv_has ls 4 [(0, .ref (a0 0)), (1, .int v1), (2, .int v2), (3, .int v3)] → W p l e rm_X8_marksOf s m ([.ref (a0 0), .int p1] : List Value).toArray below meth c H locs 0 0 (MQ below (va_Qi (fun (r' : Int32) (_ : Unit) => r' = q) (fun _ t => va_P E.1 vwCl (wX8 E a0 s0 t0) t.heap) A0) ([.ref (a0 0), .int p1] : List Value).toArray s 0 0 A0) (F0 m 4 ls []) := by
    intro s0 v1 n_4
    induction n_4 with
    | zero => intro v2 v3 hf; rw [l_X8_marksOf_4] at hf; cases hf
    | succ n_4 ih_4 =>
      intro v2 v3 hf H locs ls hP hS hl
      rw [l_X8_marksOf_4] at hf
      refine lv_iload_n hx hb dX8_marksOf_4 rfl (lv_at hl 3 rfl) ?_
      refine lv_aload_n hx hb dX8_marksOf_5 rfl (lv_at hl 0 rfl) ?_
      refine va_get (ci := 8) (C := RX8) (T := TX8) (N := 67) (v := .int (s0 0 0)) hx hb hts i_X8_marksOf_X8 hown hK hP 0 rfl rfl 0 (by decide) (hts _ m_X8_marksOf_acbb5e) (fun _ h9 => h9) rfl dX8_marksOf_6 ?_
      refine lv_icmp_ge (tgt := 40) hx hb dX8_marksOf_9 (by decide) (fun c_9 => ?_) (fun c_9 => ?_)
      · have hf := ite_t c_9 hf
        refine lv_iload_n hx hb dX8_marksOf_40 rfl (lv_at hl 2 rfl) ?_
        have e9 := Option.some.inj hf
        exact rt_i hx hb hr hlocks e9 hP hS dX8_marksOf_41
      · have hf := ite_f c_9 hf
        refine lv_iload_n hx hb dX8_marksOf_12 rfl (lv_at hl 2 rfl) ?_
        refine lv_aload_n hx hb dX8_marksOf_13 rfl (lv_at hl 0 rfl) ?_
        refine lv_iload_n hx hb dX8_marksOf_14 rfl (lv_at hl 1 rfl) ?_
        refine lv_iload_n hx hb dX8_marksOf_15 rfl (lv_at hl 3 rfl) ?_
        obtain ⟨q16, hc_16, hf⟩ := cl_e hf
        refine fin_i (E := E) (wc := wX8 E a0 s0 t0) (wc' := wX8 E a0 s0 t0) (va_runV (As := [.int v1, .int v3]) (rest := [.int v2]) ⟨hx, hb, hml, hown, hts⟩ (k_X8_has l E a0 N s0 t0 v1 v3 q16 hc_16 _) (cwV 2 hts gX8_marksOf_X8_has rfl rfl rfl (by decide +kernel) ⟨(Nat.le_of_ble_eq_true rfl), (Nat.le_of_ble_eq_true rfl)⟩) (pre_v (ci := 8) (q0 := 0) hK hP (hDD s0 t0) hS hG hAB rfl rfl) rfl rfl hl.1 rfl (lv_room (Nat.le_of_ble_eq_true rfl)) dX8_marksOf_16 ⟨Nat.zero_le _, Nat.zero_le _⟩) hS (w_free (hDD s0 t0) hS hA (fun _ h => h)) (fun H locs hP1 hk hS => ?_)
        have hP := hP1
        refine lv_if_eq (tgt := 31) hx hb dX8_marksOf_19 (by decide) (fun c_19 => ?_) (fun c_19 => ?_)
        · have hf := ite_t c_19 hf
          refine lv_iconst (v := 0) hx hb dX8_marksOf_31 (by decide) ?_
          refine lv_ior hx hb dX8_marksOf_32 ?_
          refine lv_topi (fun x33 e_x33 => ?_)
          have hf := nm_q e_x33 hf
          refine lv_istore_n (lv' := [(2, .int x33), (0, .ref (a0 0)), (1, .int v1), (3, .int v3)]) hx hb dX8_marksOf_33 rfl hl (Nat.le_of_ble_eq_true rfl) rfl (fun ls hl => ?_)
          obtain ⟨x34, e_x34⟩ : ∃ y : Int32, y = v3 + 1 := ⟨_, rfl⟩
          have hf := nm_q e_x34 hf
          refine lv_iinc (v := x34) (lv' := [(3, .int x34), (2, .int x33), (0, .ref (a0 0)), (1, .int v1)]) hx hb dX8_marksOf_34 hl (k := 3) rfl (by rw [e_x34]; rfl) (Nat.le_of_ble_eq_true rfl) rfl (fun ls hl => ?_)
          refine lv_goto (tgt := 4) hx hb dX8_marksOf_37 (by decide) ?_
          exact ih_4 x33 x34 hf _ _ _ hP hS (lv_sub hl [2, 3, 1, 0] rfl)
        · have hf := ite_f c_19 hf
          refine lv_aload_n hx hb dX8_marksOf_22 rfl (lv_at hl 0 rfl) ?_
          refine va_get (ci := 8) (C := RX8) (T := TX8) (N := 67) (v := .ref (a0 3)) hx hb hts i_X8_marksOf_X8 hown hK hP 0 rfl rfl 5 (by decide) (hts _ m_X8_marksOf_fa4c49) (fun _ h9 => h9) rfl dX8_marksOf_23 ?_
          refine lv_iload_n hx hb dX8_marksOf_26 rfl (lv_at hl 3 rfl) ?_
          obtain ⟨h_27, hf⟩ := ck_e hf
          refine va_iald (cA := E.2.1) (n := 6) (f := s0 5) hx hb hK hP 3 0 rfl rfl h_27 dX8_marksOf_27 ?_
          refine lv_goto (tgt := 32) hx hb dX8_marksOf_28 (by decide) ?_
          refine lv_ior hx hb dX8_marksOf_32 ?_
          refine lv_topi (fun x33 e_x33 => ?_)
          have hf := nm_q e_x33 hf
          refine lv_istore_n (lv' := [(2, .int x33), (0, .ref (a0 0)), (1, .int v1), (3, .int v3)]) hx hb dX8_marksOf_33 rfl hl (Nat.le_of_ble_eq_true rfl) rfl (fun ls hl => ?_)
          obtain ⟨x34, e_x34⟩ : ∃ y : Int32, y = v3 + 1 := ⟨_, rfl⟩
          have hf := nm_q e_x34 hf
          refine lv_iinc (v := x34) (lv' := [(3, .int x34), (2, .int x33), (0, .ref (a0 0)), (1, .int v1)]) hx hb dX8_marksOf_34 hl (k := 3) rfl (by rw [e_x34]; rfl) (Nat.le_of_ble_eq_true rfl) rfl (fun ls hl => ?_)
          refine lv_goto (tgt := 4) hx hb dX8_marksOf_37 (by decide) ?_
          exact ih_4 x33 x34 hf _ _ _ hP hS (lv_sub hl [2, 3, 1, 0] rfl)
  refine lv_iconst (v := 0) hx hb dX8_marksOf_0 (by decide) ?_
  refine lv_istore_n (lv' := [(2, .int 0), (0, .ref (a0 0)), (1, .int p1)]) hx hb dX8_marksOf_1 rfl hl (Nat.le_of_ble_eq_true rfl) rfl (fun ls hl => ?_)
  refine lv_iconst (v := 0) hx hb dX8_marksOf_2 (by decide) ?_
  refine lv_istore_n (lv' := [(3, .int 0), (2, .int 0), (0, .ref (a0 0)), (1, .int p1)]) hx hb dX8_marksOf_3 rfl hl (Nat.le_of_ble_eq_true rfl) rfl (fun ls hl => ?_)
  exact hL_4 s0 p1 N 0 0 hf _ _ _ hP hS (lv_sub hl [2, 3, 1, 0] rfl)
abbrev rm_X8_cover : Room := { frames := 2, cells := 0, slots := 0, locals := 45 }
theorem m_X8_cover_acbb5e : Cond.fieldLink RX8 7 "PickedMatchModel" "things" "I" ∈ wsX8_cover := by decide +kernel
theorem i_X8_cover_X8 : ∀ w ∈ wsX80, w ∈ wsX8_cover := fun _ h => List.mem_cons_of_mem _ (List.mem_append_right _ h)
set_option maxHeartbeats 8000000 in
set_option maxRecDepth 100000 in
theorem k_X8_cover (l : Launch) (E : Ev) (a0 : Nat → Nat) (N : Nat) (s0 : St) (t0 : Nat → Nat → Int64) (q : (Int32)) (hf : f_X8_cover N s0 = some q) : Ci l yX8_cover wsX8_cover rm_X8_cover E [.ref (a0 0)] (wX8 E a0 s0 t0) (wX8 E a0 s0 t0) q := by
  unfold f_X8_cover at hf
  intro sz
  refine Met.ofW (cc := cX8_cover) (maxL := 4) (ret := (some .int)) (by decide) rfl ?_
  intro p e s m args below meth c s₁ B hml hv
  obtain ⟨rfl, hsz, hP, hK, hD0, hG, hA, hAB⟩ := start hv
  have hx := B.exec
  have hb := B.bytes
  have hr := B.returns
  have hts := atoms_spec (ws := wsX8_cover) B.pre
  have hown : s.vm.findClass RX8 = some m.cls := findClass_of_methodNamed B.named
  have hlocks := B.notSynchronized
  subst hsz
  generalize va_A (wX8 E a0 s0 t0) s.heap.size = A0 at hD0 hA hAB ⊢
  have hDD : ∀ (s0 : St) (t0 : Nat → Nat → Int64), va_D A0 (wX8 E a0 s0 t0) := fun s0 t0 => vD_addr hD0 rfl
  have hS : va_S A0 s.heap s.heap [] := va_S.rf
  have hl := lv_entry ([.ref (a0 0)]) (n := 4) (Nat.le_of_ble_eq_true rfl)
  rw [lg_entry_eq]
  generalize (lg_sl ([.ref (a0 0)]) ++ List.replicate (4 - (lg_sl ([.ref (a0 0)])).length) Slot.unset).toArray = ls at hl ⊢
  have hl : lv_has ls 4 [(0, .ref (a0 0))] := hl
  have hL_13 : ∀ (s0 : St) (v1 : Int32) (n_13 : Nat) (v2 : Int32) (v3 : Int32), l_X8_cover_13 N s0 v1 n_13 v2 v3 = some q → ∀ (H : Heap) (locs : List Loc) (ls : Array Slot), va_P E.1 vwCl (wX8 E a0 s0 t0) H → va_S A0 s.heap H locs → lv_has ls 4 [(0, .ref (a0 0)), (1, .int v1), (2, .int v2), (3, .int v3)] → W p l e rm_X8_cover s m ([.ref (a0 0)] : List Value).toArray below meth c H locs 0 0 (MQ below (va_Qi (fun (r' : Int32) (_ : Unit) => r' = q) (fun _ t => va_P E.1 vwCl (wX8 E a0 s0 t0) t.heap) A0) ([.ref (a0 0)] : List Value).toArray s 0 0 A0) (F0 m 13 ls []) := by
    intro s0 v1 n_13
    induction n_13 with
    | zero => intro v2 v3 hf; rw [l_X8_cover_13] at hf; cases hf
    | succ n_13 ih_13 =>
      intro v2 v3 hf H locs ls hP hS hl
      rw [l_X8_cover_13] at hf
      refine lv_iload_n hx hb dX8_cover_13 rfl (lv_at hl 3 rfl) ?_
      refine lv_if_lt (tgt := 51) hx hb dX8_cover_14 (by decide) (fun c_14 => ?_) (fun c_14 => ?_)
      · have hf := ite_t c_14 hf
        refine lv_iload_n hx hb dX8_cover_51 rfl (lv_at hl 2 rfl) ?_
        have e9 := Option.some.inj hf
        exact rt_i hx hb hr hlocks e9 hP hS dX8_cover_52
      · have hf := ite_f c_14 hf
        refine lv_aload_n hx hb dX8_cover_17 rfl (lv_at hl 0 rfl) ?_
        refine lv_iload_n hx hb dX8_cover_18 rfl (lv_at hl 3 rfl) ?_
        obtain ⟨q19, hc_19, hf⟩ := cl_e hf
        refine fin_i (E := E) (wc := wX8 E a0 s0 t0) (wc' := wX8 E a0 s0 t0) (va_runV (As := [.int v3]) (rest := []) ⟨hx, hb, hml, hown, hts⟩ (k_X8_bits l E a0 N s0 t0 v3 q19 hc_19 _) (cwV 1 hts gX8_cover_X8_bits rfl rfl rfl (by decide +kernel) ⟨(Nat.le_of_ble_eq_true rfl), (Nat.le_of_ble_eq_true rfl)⟩) (pre_v (ci := 8) (q0 := 0) hK hP (hDD s0 t0) hS hG hAB rfl rfl) rfl rfl hl.1 rfl (lv_room (Nat.le_of_ble_eq_true rfl)) dX8_cover_19 ⟨Nat.zero_le _, Nat.zero_le _⟩) hS (w_free (hDD s0 t0) hS hA (fun _ h => h)) (fun H locs hP1 hk hS => ?_)
        have hP := hP1
        refine lv_aload_n hx hb dX8_cover_22 rfl (lv_at hl 0 rfl) ?_
        refine lv_iload_n hx hb dX8_cover_23 rfl (lv_at hl 2 rfl) ?_
        obtain ⟨q24, hc_24, hf⟩ := cl_e hf
        refine fin_i (E := E) (wc := wX8 E a0 s0 t0) (wc' := wX8 E a0 s0 t0) (va_runV (As := [.int v2]) (rest := [.int q19]) ⟨hx, hb, hml, hown, hts⟩ (k_X8_bits l E a0 N s0 t0 v2 q24 hc_24 _) (cwV 1 hts gX8_cover_X8_bits rfl rfl rfl (by decide +kernel) ⟨(Nat.le_of_ble_eq_true rfl), (Nat.le_of_ble_eq_true rfl)⟩) (pre_v (ci := 8) (q0 := 0) hK hP (hDD s0 t0) hS hG hAB rfl rfl) rfl rfl hl.1 rfl (lv_room (Nat.le_of_ble_eq_true rfl)) dX8_cover_24 ⟨Nat.zero_le _, Nat.zero_le _⟩) hS (w_free (hDD s0 t0) hS hA (fun _ h => h)) (fun H locs hP1 hk hS => ?_)
        have hP := hP1
        refine lv_icmp_gt (tgt := 45) hx hb dX8_cover_27 (by decide) (fun c_27 => ?_) (fun c_27 => ?_)
        · have hf := ite_t c_27 hf
          obtain ⟨x45, e_x45⟩ : ∃ y : Int32, y = v3 + (-1) := ⟨_, rfl⟩
          have hf := nm_q e_x45 hf
          refine lv_iinc (v := x45) (lv' := [(3, .int x45), (0, .ref (a0 0)), (1, .int v1), (2, .int v2)]) hx hb dX8_cover_45 hl (k := 3) rfl (by rw [e_x45]; rfl) (Nat.le_of_ble_eq_true rfl) rfl (fun ls hl => ?_)
          refine lv_goto (tgt := 13) hx hb dX8_cover_48 (by decide) ?_
          exact ih_13 v2 x45 hf _ _ _ hP hS (lv_sub hl [1, 2, 3, 0] rfl)
        · have hf := ite_f c_27 hf
          refine lv_aload_n hx hb dX8_cover_30 rfl (lv_at hl 0 rfl) ?_
          refine lv_iload_n hx hb dX8_cover_31 rfl (lv_at hl 3 rfl) ?_
          obtain ⟨q32, hc_32, hf⟩ := cl_e hf
          refine fin_i (E := E) (wc := wX8 E a0 s0 t0) (wc' := wX8 E a0 s0 t0) (va_runV (As := [.int v3]) (rest := []) ⟨hx, hb, hml, hown, hts⟩ (k_X8_marksOf l E a0 N s0 t0 v3 q32 hc_32 _) (cwV 1 hts gX8_cover_X8_marksOf rfl rfl rfl (by decide +kernel) ⟨(Nat.le_of_ble_eq_true rfl), (Nat.le_of_ble_eq_true rfl)⟩) (pre_v (ci := 8) (q0 := 0) hK hP (hDD s0 t0) hS hG hAB rfl rfl) rfl rfl hl.1 rfl (lv_room (Nat.le_of_ble_eq_true rfl)) dX8_cover_32 ⟨Nat.zero_le _, Nat.zero_le _⟩) hS (w_free (hDD s0 t0) hS hA (fun _ h => h)) (fun H locs hP1 hk hS => ?_)
          have hP := hP1
          refine lv_aload_n hx hb dX8_cover_35 rfl (lv_at hl 0 rfl) ?_
          refine lv_iload_n hx hb dX8_cover_36 rfl (lv_at hl 1 rfl) ?_
          obtain ⟨q37, hc_37, hf⟩ := cl_e hf
          refine fin_i (E := E) (wc := wX8 E a0 s0 t0) (wc' := wX8 E a0 s0 t0) (va_runV (As := [.int v1]) (rest := [.int q32]) ⟨hx, hb, hml, hown, hts⟩ (k_X8_marksOf l E a0 N s0 t0 v1 q37 hc_37 _) (cwV 1 hts gX8_cover_X8_marksOf rfl rfl rfl (by decide +kernel) ⟨(Nat.le_of_ble_eq_true rfl), (Nat.le_of_ble_eq_true rfl)⟩) (pre_v (ci := 8) (q0 := 0) hK hP (hDD s0 t0) hS hG hAB rfl rfl) rfl rfl hl.1 rfl (lv_room (Nat.le_of_ble_eq_true rfl)) dX8_cover_37 ⟨Nat.zero_le _, Nat.zero_le _⟩) hS (w_free (hDD s0 t0) hS hA (fun _ h => h)) (fun H locs hP1 hk hS => ?_)
          have hP := hP1
          refine lv_icmp_ne (tgt := 45) hx hb dX8_cover_40 (by decide) (fun c_40 => ?_) (fun c_40 => ?_)
          · have hf := ite_f c_40 hf
            obtain ⟨x45, e_x45⟩ : ∃ y : Int32, y = v3 + (-1) := ⟨_, rfl⟩
            have hf := nm_q e_x45 hf
            refine lv_iinc (v := x45) (lv' := [(3, .int x45), (0, .ref (a0 0)), (1, .int v1), (2, .int v2)]) hx hb dX8_cover_45 hl (k := 3) rfl (by rw [e_x45]; rfl) (Nat.le_of_ble_eq_true rfl) rfl (fun ls hl => ?_)
            refine lv_goto (tgt := 13) hx hb dX8_cover_48 (by decide) ?_
            exact ih_13 v2 x45 hf _ _ _ hP hS (lv_sub hl [1, 2, 3, 0] rfl)
          · have hf := ite_t c_40 hf
            refine lv_iload_n hx hb dX8_cover_43 rfl (lv_at hl 3 rfl) ?_
            refine lv_istore_n (lv' := [(2, .int v3), (0, .ref (a0 0)), (1, .int v1), (3, .int v3)]) hx hb dX8_cover_44 rfl hl (Nat.le_of_ble_eq_true rfl) rfl (fun ls hl => ?_)
            obtain ⟨x45, e_x45⟩ : ∃ y : Int32, y = v3 + (-1) := ⟨_, rfl⟩
            have hf := nm_q e_x45 hf
            refine lv_iinc (v := x45) (lv' := [(3, .int x45), (2, .int v3), (0, .ref (a0 0)), (1, .int v1)]) hx hb dX8_cover_45 hl (k := 3) rfl (by rw [e_x45]; rfl) (Nat.le_of_ble_eq_true rfl) rfl (fun ls hl => ?_)
            refine lv_goto (tgt := 13) hx hb dX8_cover_48 (by decide) ?_
            exact ih_13 v3 x45 hf _ _ _ hP hS (lv_sub hl [2, 3, 1, 0] rfl)
  refine lv_iconst (v := 1) hx hb dX8_cover_0 (by decide) ?_
  refine lv_aload_n hx hb dX8_cover_1 rfl (lv_at hl 0 rfl) ?_
  refine va_get (ci := 8) (C := RX8) (T := TX8) (N := 67) (v := .int (s0 0 0)) hx hb hts i_X8_cover_X8 hown hK hP 0 rfl rfl 0 (by decide) (hts _ m_X8_cover_acbb5e) (fun _ h9 => h9) rfl dX8_cover_2 ?_
  refine lv_ishl hx hb dX8_cover_5 ?_
  refine lv_iconst (v := 1) hx hb dX8_cover_6 (by decide) ?_
  refine lv_isub hx hb dX8_cover_7 ?_
  refine lv_topi (fun x8 e_x8 => ?_)
  have hf := nm_q e_x8 hf
  refine lv_istore_n (lv' := [(1, .int x8), (0, .ref (a0 0))]) hx hb dX8_cover_8 rfl hl (Nat.le_of_ble_eq_true rfl) rfl (fun ls hl => ?_)
  refine lv_iload_n hx hb dX8_cover_9 rfl (lv_at hl 0 rfl) ?_
  refine lv_istore_n (lv' := [(2, .int x8), (1, .int x8), (0, .ref (a0 0))]) hx hb dX8_cover_10 rfl hl (Nat.le_of_ble_eq_true rfl) rfl (fun ls hl => ?_)
  refine lv_iload_n hx hb dX8_cover_11 rfl (lv_at hl 1 rfl) ?_
  refine lv_istore_n (lv' := [(3, .int x8), (2, .int x8), (1, .int x8), (0, .ref (a0 0))]) hx hb dX8_cover_12 rfl hl (Nat.le_of_ble_eq_true rfl) rfl (fun ls hl => ?_)
  exact hL_13 s0 x8 N x8 x8 hf _ _ _ hP hS (lv_sub hl [3, 2, 1, 0] rfl)
abbrev rm_X8_told : Room := { frames := 9, cells := 0, slots := 0, locals := 202 }
theorem m_X8_told_840104 : Cond.fieldLink RX8 16 "PickedMatchModel" "days" "I" ∈ wsX8_told := by decide +kernel
theorem i_X8_told_X8 : ∀ w ∈ wsX80, w ∈ wsX8_told := fun _ h => List.mem_cons_of_mem _ (List.mem_append_right _ h)
set_option maxHeartbeats 8000000 in
set_option maxRecDepth 100000 in
theorem k_X8_told (l : Launch) (E : Ev) (a0 : Nat → Nat) (N : Nat) (s0 : St) (t0 : Nat → Nat → Int64) (p1 : Int32) (q : (Int32 × St)) (hf : f_X8_told N s0 p1 = some q) : Ci l yX8_told wsX8_told rm_X8_told E [.ref (a0 0), .int p1] (wX8 E a0 s0 t0) (wX8 E a0 q.2 t0) q.1 := by
  unfold f_X8_told at hf
  intro sz
  refine Met.ofW (cc := cX8_told) (maxL := 2) (ret := (some .int)) (by decide) rfl ?_
  intro p e s m args below meth c s₁ B hml hv
  obtain ⟨rfl, hsz, hP, hK, hD0, hG, hA, hAB⟩ := start hv
  have hx := B.exec
  have hb := B.bytes
  have hr := B.returns
  have hts := atoms_spec (ws := wsX8_told) B.pre
  have hown : s.vm.findClass RX8 = some m.cls := findClass_of_methodNamed B.named
  have hlocks := B.notSynchronized
  subst hsz
  generalize va_A (wX8 E a0 s0 t0) s.heap.size = A0 at hD0 hA hAB ⊢
  have hDD : ∀ (s0 : St) (t0 : Nat → Nat → Int64), va_D A0 (wX8 E a0 s0 t0) := fun s0 t0 => vD_addr hD0 rfl
  have hS : va_S A0 s.heap s.heap [] := va_S.rf
  have hl := lv_entry ([.ref (a0 0), .int p1]) (n := 2) (Nat.le_of_ble_eq_true rfl)
  rw [lg_entry_eq]
  generalize (lg_sl ([.ref (a0 0), .int p1]) ++ List.replicate (2 - (lg_sl ([.ref (a0 0), .int p1])).length) Slot.unset).toArray = ls at hl ⊢
  have hl : lv_has ls 2 [(0, .ref (a0 0)), (1, .int p1)] := hl
  refine lv_iload_n hx hb dX8_told_0 rfl (lv_at hl 1 rfl) ?_
  by_cases c_1_0 : p1 = 0
  · have hf := ite_t c_1_0 hf
    refine lv_tableIn (off := 47) (tgt := 48) hx hb dX8_told_1 (by rw [c_1_0]; decide) (by rw [c_1_0]; decide) (by rw [c_1_0]; rfl) (by decide) ?_
    refine lv_aload_n hx hb dX8_told_48 rfl (lv_at hl 0 rfl) ?_
    refine va_get (ci := 8) (C := RX8) (T := TX8) (N := 67) (v := .int (s0 2 0)) hx hb hts i_X8_told_X8 hown hK hP 0 rfl rfl 2 (by decide) (hts _ m_X8_told_840104) (fun _ h9 => h9) rfl dX8_told_49 ?_
    have e9 := Option.some.inj hf
    exact rt_i hx hb hr hlocks (fst_e e9) (rtP (P := fun z => va_P E.1 vwCl (wX8 E a0 z.2 t0) s.heap) e9 hP) hS dX8_told_52
  · have hf := ite_f c_1_0 hf
    by_cases c_1_1 : p1 = 1
    · have hf := ite_t c_1_1 hf
      refine lv_tableIn (off := 52) (tgt := 53) hx hb dX8_told_1 (by rw [c_1_1]; decide) (by rw [c_1_1]; decide) (by rw [c_1_1]; rfl) (by decide) ?_
      refine lv_aload_n hx hb dX8_told_53 rfl (lv_at hl 0 rfl) ?_
      obtain ⟨q54, hc_54, hf⟩ := cl_e hf
      refine fin_i (E := E) (wc := wX8 E a0 s0 t0) (wc' := wX8 E a0 s0 t0) (va_runV (As := []) (rest := []) ⟨hx, hb, hml, hown, hts⟩ (k_X8_need l E a0 N s0 t0 q54 hc_54 _) (cwV 0 hts gX8_told_X8_need rfl rfl rfl (by decide +kernel) ⟨(Nat.le_of_ble_eq_true rfl), (Nat.le_of_ble_eq_true rfl)⟩) (pre_v (ci := 8) (q0 := 0) hK hP (hDD s0 t0) hS hG hAB rfl rfl) rfl rfl hl.1 rfl (lv_room (Nat.le_of_ble_eq_true rfl)) dX8_told_54 ⟨Nat.zero_le _, Nat.zero_le _⟩) hS (w_free (hDD s0 t0) hS hA (fun _ h => h)) (fun H locs hP1 hk hS => ?_)
      have hP := hP1
      have e9 := Option.some.inj hf
      exact rt_i hx hb hr hlocks (fst_e e9) (rtP (P := fun z => va_P E.1 vwCl (wX8 E a0 z.2 t0) H) e9 hP) hS dX8_told_57
    · have hf := ite_f c_1_1 hf
      by_cases c_1_2 : p1 = 2
      · have hf := ite_t c_1_2 hf
        refine lv_tableIn (off := 57) (tgt := 58) hx hb dX8_told_1 (by rw [c_1_2]; decide) (by rw [c_1_2]; decide) (by rw [c_1_2]; rfl) (by decide) ?_
        refine lv_aload_n hx hb dX8_told_58 rfl (lv_at hl 0 rfl) ?_
        obtain ⟨q59, hc_59, hf⟩ := cl_e hf
        refine fin_i (E := E) (wc := wX8 E a0 s0 t0) (wc' := wX8 E a0 s0 t0) (va_runV (As := []) (rest := []) ⟨hx, hb, hml, hown, hts⟩ (k_X8_hold l E a0 N s0 t0 q59 hc_59 _) (cwV 0 hts gX8_told_X8_hold rfl rfl rfl (by decide +kernel) ⟨(Nat.le_of_ble_eq_true rfl), (Nat.le_of_ble_eq_true rfl)⟩) (pre_v (ci := 8) (q0 := 0) hK hP (hDD s0 t0) hS hG hAB rfl rfl) rfl rfl hl.1 rfl (lv_room (Nat.le_of_ble_eq_true rfl)) dX8_told_59 ⟨Nat.zero_le _, Nat.zero_le _⟩) hS (w_free (hDD s0 t0) hS hA (fun _ h => h)) (fun H locs hP1 hk hS => ?_)
        have hP := hP1
        have e9 := Option.some.inj hf
        exact rt_i hx hb hr hlocks (fst_e e9) (rtP (P := fun z => va_P E.1 vwCl (wX8 E a0 z.2 t0) H) e9 hP) hS dX8_told_62
      · have hf := ite_f c_1_2 hf
        by_cases c_1_3 : p1 = 3
        · have hf := ite_t c_1_3 hf
          refine lv_tableIn (off := 62) (tgt := 63) hx hb dX8_told_1 (by rw [c_1_3]; decide) (by rw [c_1_3]; decide) (by rw [c_1_3]; rfl) (by decide) ?_
          refine lv_aload_n hx hb dX8_told_63 rfl (lv_at hl 0 rfl) ?_
          obtain ⟨q64, hc_64, hf⟩ := cl_e hf
          refine fin_i (E := E) (wc := wX8 E a0 s0 t0) (wc' := wX8 E a0 s0 t0) (va_runV (As := []) (rest := []) ⟨hx, hb, hml, hown, hts⟩ (k_X8_hadSet l E a0 N s0 t0 q64 hc_64 _) (cwV 0 hts gX8_told_X8_hadSet rfl rfl rfl (by decide +kernel) ⟨(Nat.le_of_ble_eq_true rfl), (Nat.le_of_ble_eq_true rfl)⟩) (pre_v (ci := 8) (q0 := 0) hK hP (hDD s0 t0) hS hG hAB rfl rfl) rfl rfl hl.1 rfl (lv_room (Nat.le_of_ble_eq_true rfl)) dX8_told_64 ⟨Nat.zero_le _, Nat.zero_le _⟩) hS (w_free (hDD s0 t0) hS hA (fun _ h => h)) (fun H locs hP1 hk hS => ?_)
          have hP := hP1
          have e9 := Option.some.inj hf
          exact rt_i hx hb hr hlocks (fst_e e9) (rtP (P := fun z => va_P E.1 vwCl (wX8 E a0 z.2 t0) H) e9 hP) hS dX8_told_67
        · have hf := ite_f c_1_3 hf
          by_cases c_1_4 : p1 = 4
          · have hf := ite_t c_1_4 hf
            refine lv_tableIn (off := 67) (tgt := 68) hx hb dX8_told_1 (by rw [c_1_4]; decide) (by rw [c_1_4]; decide) (by rw [c_1_4]; rfl) (by decide) ?_
            refine lv_aload_n hx hb dX8_told_68 rfl (lv_at hl 0 rfl) ?_
            obtain ⟨q69, hc_69, hf⟩ := cl_e hf
            refine fin_i (E := E) (wc := wX8 E a0 s0 t0) (wc' := wX8 E a0 q69.2 t0) (va_runV (As := []) (rest := []) ⟨hx, hb, hml, hown, hts⟩ (k_X8_goingSet l E a0 N s0 t0 q69 hc_69 _) (cwV 0 hts gX8_told_X8_goingSet rfl rfl rfl (by decide +kernel) ⟨(Nat.le_of_ble_eq_true rfl), (Nat.le_of_ble_eq_true rfl)⟩) (pre_v (ci := 8) (q0 := 0) hK hP (hDD s0 t0) hS hG hAB rfl rfl) rfl rfl hl.1 rfl (lv_room (Nat.le_of_ble_eq_true rfl)) dX8_told_69 ⟨Nat.zero_le _, Nat.zero_le _⟩) hS (w_free (hDD s0 t0) hS hA (fun _ h => h)) (fun H locs hP1 hk hS => ?_)
            have hP := hP1
            have e9 := Option.some.inj hf
            exact rt_i hx hb hr hlocks (fst_e e9) (rtP (P := fun z => va_P E.1 vwCl (wX8 E a0 z.2 t0) H) e9 hP) hS dX8_told_72
          · have hf := ite_f c_1_4 hf
            by_cases c_1_5 : p1 = 5
            · have hf := ite_t c_1_5 hf
              refine lv_tableIn (off := 72) (tgt := 73) hx hb dX8_told_1 (by rw [c_1_5]; decide) (by rw [c_1_5]; decide) (by rw [c_1_5]; rfl) (by decide) ?_
              refine lv_aload_n hx hb dX8_told_73 rfl (lv_at hl 0 rfl) ?_
              obtain ⟨q74, hc_74, hf⟩ := cl_e hf
              refine fin_i (E := E) (wc := wX8 E a0 s0 t0) (wc' := wX8 E a0 s0 t0) (va_runV (As := []) (rest := []) ⟨hx, hb, hml, hown, hts⟩ (k_X8_hadMarks l E a0 N s0 t0 q74 hc_74 _) (cwV 0 hts gX8_told_X8_hadMarks rfl rfl rfl (by decide +kernel) ⟨(Nat.le_of_ble_eq_true rfl), (Nat.le_of_ble_eq_true rfl)⟩) (pre_v (ci := 8) (q0 := 0) hK hP (hDD s0 t0) hS hG hAB rfl rfl) rfl rfl hl.1 rfl (lv_room (Nat.le_of_ble_eq_true rfl)) dX8_told_74 ⟨Nat.zero_le _, Nat.zero_le _⟩) hS (w_free (hDD s0 t0) hS hA (fun _ h => h)) (fun H locs hP1 hk hS => ?_)
              have hP := hP1
              have e9 := Option.some.inj hf
              exact rt_i hx hb hr hlocks (fst_e e9) (rtP (P := fun z => va_P E.1 vwCl (wX8 E a0 z.2 t0) H) e9 hP) hS dX8_told_77
            · have hf := ite_f c_1_5 hf
              by_cases c_1_6 : p1 = 6
              · have hf := ite_t c_1_6 hf
                refine lv_tableIn (off := 77) (tgt := 78) hx hb dX8_told_1 (by rw [c_1_6]; decide) (by rw [c_1_6]; decide) (by rw [c_1_6]; rfl) (by decide) ?_
                refine lv_aload_n hx hb dX8_told_78 rfl (lv_at hl 0 rfl) ?_
                obtain ⟨q79, hc_79, hf⟩ := cl_e hf
                refine fin_i (E := E) (wc := wX8 E a0 s0 t0) (wc' := wX8 E a0 s0 t0) (va_runV (As := []) (rest := []) ⟨hx, hb, hml, hown, hts⟩ (k_X8_twins l E a0 N s0 t0 q79 hc_79 _) (cwV 0 hts gX8_told_X8_twins rfl rfl rfl (by decide +kernel) ⟨(Nat.le_of_ble_eq_true rfl), (Nat.le_of_ble_eq_true rfl)⟩) (pre_v (ci := 8) (q0 := 0) hK hP (hDD s0 t0) hS hG hAB rfl rfl) rfl rfl hl.1 rfl (lv_room (Nat.le_of_ble_eq_true rfl)) dX8_told_79 ⟨Nat.zero_le _, Nat.zero_le _⟩) hS (w_free (hDD s0 t0) hS hA (fun _ h => h)) (fun H locs hP1 hk hS => ?_)
                have hP := hP1
                have e9 := Option.some.inj hf
                exact rt_i hx hb hr hlocks (fst_e e9) (rtP (P := fun z => va_P E.1 vwCl (wX8 E a0 z.2 t0) H) e9 hP) hS dX8_told_82
              · have hf := ite_f c_1_6 hf
                by_cases c_1_7 : p1 = 7
                · have hf := ite_t c_1_7 hf
                  refine lv_tableIn (off := 82) (tgt := 83) hx hb dX8_told_1 (by rw [c_1_7]; decide) (by rw [c_1_7]; decide) (by rw [c_1_7]; rfl) (by decide) ?_
                  refine lv_aload_n hx hb dX8_told_83 rfl (lv_at hl 0 rfl) ?_
                  obtain ⟨q84, hc_84, hf⟩ := cl_e hf
                  refine fin_i (E := E) (wc := wX8 E a0 s0 t0) (wc' := wX8 E a0 s0 t0) (va_runV (As := []) (rest := []) ⟨hx, hb, hml, hown, hts⟩ (k_X8_cover l E a0 N s0 t0 q84 hc_84 _) (cwV 0 hts gX8_told_X8_cover rfl rfl rfl (by decide +kernel) ⟨(Nat.le_of_ble_eq_true rfl), (Nat.le_of_ble_eq_true rfl)⟩) (pre_v (ci := 8) (q0 := 0) hK hP (hDD s0 t0) hS hG hAB rfl rfl) rfl rfl hl.1 rfl (lv_room (Nat.le_of_ble_eq_true rfl)) dX8_told_84 ⟨Nat.zero_le _, Nat.zero_le _⟩) hS (w_free (hDD s0 t0) hS hA (fun _ h => h)) (fun H locs hP1 hk hS => ?_)
                  have hP := hP1
                  have e9 := Option.some.inj hf
                  exact rt_i hx hb hr hlocks (fst_e e9) (rtP (P := fun z => va_P E.1 vwCl (wX8 E a0 z.2 t0) H) e9 hP) hS dX8_told_87
                · have hf := ite_f c_1_7 hf
                  refine lv_tableOut (tgt := 88) hx hb dX8_told_1 (by have n0 := lv_neT (a := 0) c_1_0 (by decide); have n1 := lv_neT (a := 1) c_1_1 (by decide); have n2 := lv_neT (a := 2) c_1_2 (by decide); have n3 := lv_neT (a := 3) c_1_3 (by decide); have n4 := lv_neT (a := 4) c_1_4 (by decide); have n5 := lv_neT (a := 5) c_1_5 (by decide); have n6 := lv_neT (a := 6) c_1_6 (by decide); have n7 := lv_neT (a := 7) c_1_7 (by decide); omega) (by decide) ?_
                  refine lv_iconst (v := (-1)) hx hb dX8_told_88 (by decide) ?_
                  have e9 := Option.some.inj hf
                  exact rt_i hx hb hr hlocks (fst_e e9) (rtP (P := fun z => va_P E.1 vwCl (wX8 E a0 z.2 t0) s.heap) e9 hP) hS dX8_told_89
abbrev rm_X8_goDay : Room := { frames := 8, cells := 0, slots := 0, locals := 180 }
theorem m_X8_goDay_acbb5e : Cond.fieldLink RX8 7 "PickedMatchModel" "things" "I" ∈ wsX8_goDay := by decide +kernel
theorem i_X8_goDay_X8 : ∀ w ∈ wsX80, w ∈ wsX8_goDay := fun _ h => List.mem_cons_of_mem _ (List.mem_append_right _ h)
theorem m_X8_goDay_840104 : Cond.fieldLink RX8 16 "PickedMatchModel" "days" "I" ∈ wsX8_goDay := by decide +kernel
set_option maxHeartbeats 8000000 in
set_option maxRecDepth 100000 in
theorem k_X8_goDay (l : Launch) (E : Ev) (a0 : Nat → Nat) (N : Nat) (s0 : St) (t0 : Nat → Nat → Int64) (q : (St)) (hf : f_X8_goDay N s0 = some q) : Cv l yX8_goDay wsX8_goDay rm_X8_goDay E [.ref (a0 0)] (wX8 E a0 s0 t0) (wX8 E a0 q t0) := by
  unfold f_X8_goDay at hf
  intro sz
  refine Met.ofW (cc := cX8_goDay) (maxL := 1) (ret := none) (by decide) rfl ?_
  intro p e s m args below meth c s₁ B hml hv
  obtain ⟨rfl, hsz, hP, hK, hD0, hG, hA, hAB⟩ := start hv
  have hx := B.exec
  have hb := B.bytes
  have hr := B.returns
  have hts := atoms_spec (ws := wsX8_goDay) B.pre
  have hown : s.vm.findClass RX8 = some m.cls := findClass_of_methodNamed B.named
  have hlocks := B.notSynchronized
  subst hsz
  generalize va_A (wX8 E a0 s0 t0) s.heap.size = A0 at hD0 hA hAB ⊢
  have hDD : ∀ (s0 : St) (t0 : Nat → Nat → Int64), va_D A0 (wX8 E a0 s0 t0) := fun s0 t0 => vD_addr hD0 rfl
  have hS : va_S A0 s.heap s.heap [] := va_S.rf
  have hl := lv_entry ([.ref (a0 0)]) (n := 1) (Nat.le_of_ble_eq_true rfl)
  rw [lg_entry_eq]
  generalize (lg_sl ([.ref (a0 0)]) ++ List.replicate (1 - (lg_sl ([.ref (a0 0)])).length) Slot.unset).toArray = ls at hl ⊢
  have hl : lv_has ls 1 [(0, .ref (a0 0))] := hl
  refine lv_aload_n hx hb dX8_goDay_0 rfl (lv_at hl 0 rfl) ?_
  refine va_get (ci := 8) (C := RX8) (T := TX8) (N := 67) (v := .int (s0 0 0)) hx hb hts i_X8_goDay_X8 hown hK hP 0 rfl rfl 0 (by decide) (hts _ m_X8_goDay_acbb5e) (fun _ h9 => h9) rfl dX8_goDay_1 ?_
  refine lv_if_le (tgt := 36) hx hb dX8_goDay_4 (by decide) (fun c_4 => ?_) (fun c_4 => ?_)
  · have hf := ite_t c_4 hf
    refine lv_aload_n hx hb dX8_goDay_36 rfl (lv_at hl 0 rfl) ?_
    refine lv_dup hx hb dX8_goDay_37 rfl ?_
    refine va_get (ci := 8) (C := RX8) (T := TX8) (N := 67) (v := .int (s0 2 0)) hx hb hts i_X8_goDay_X8 hown hK hP 0 rfl rfl 2 (by decide) (hts _ m_X8_goDay_840104) (fun _ h9 => h9) rfl dX8_goDay_38 ?_
    refine lv_iconst (v := 1) hx hb dX8_goDay_41 (by decide) ?_
    refine lv_iadd hx hb dX8_goDay_42 ?_
    refine va_put (ci := 8) (v := .int ((s0 2 0) + 1)) (ty := .int) (C := RX8) (T := TX8) (N := 67) hx hb hts i_X8_goDay_X8 tyX8 tyX8_ok nmX8 hown hK hP (hDD s0 t0) hS 0 rfl rfl 2 (by decide) (hts _ m_X8_goDay_840104) (fun _ h9 => h9) rfl (by decide +kernel) rfl rfl (Nat.le_of_ble_eq_true rfl) dX8_goDay_43 (fun H locs hP _ hS => ?_)
    obtain ⟨s0_43, hP, hf⟩ := nm_st' (P := fun z => va_P E.1 vwCl (wX8 E a0 z t0) H) hf hP
    have e9 := Option.some.inj hf
    exact rt_v hx hb hr hlocks (rtP (P := fun z => va_P E.1 vwCl (wX8 E a0 z t0) H) e9 hP) hS dX8_goDay_46
  · have hf := ite_f c_4 hf
    refine lv_aload_n hx hb dX8_goDay_7 rfl (lv_at hl 0 rfl) ?_
    refine lv_aload_n hx hb dX8_goDay_8 rfl (lv_at hl 0 rfl) ?_
    refine va_get (ci := 8) (C := RX8) (T := TX8) (N := 67) (v := .int (s0 2 0)) hx hb hts i_X8_goDay_X8 hown hK hP 0 rfl rfl 2 (by decide) (hts _ m_X8_goDay_840104) (fun _ h9 => h9) rfl dX8_goDay_9 ?_
    refine lv_aload_n hx hb dX8_goDay_12 rfl (lv_at hl 0 rfl) ?_
    refine va_get (ci := 8) (C := RX8) (T := TX8) (N := 67) (v := .int (s0 0 0)) hx hb hts i_X8_goDay_X8 hown hK hP 0 rfl rfl 0 (by decide) (hts _ m_X8_goDay_acbb5e) (fun _ h9 => h9) rfl dX8_goDay_13 ?_
    obtain ⟨hz_16, hf⟩ := cz_e hf
    refine lv_irem hx hb dX8_goDay_16 hz_16 ?_
    obtain ⟨q17, hc_17, hf⟩ := cl_e hf
    refine fin_i (E := E) (wc := wX8 E a0 s0 t0) (wc' := wX8 E a0 q17.2 t0) (va_runV (As := [.int ((s0 2 0) - (s0 2 0) / (s0 0 0) * (s0 0 0))]) (rest := []) ⟨hx, hb, hml, hown, hts⟩ (k_X8_goes l E a0 N s0 t0 ((s0 2 0) - (s0 2 0) / (s0 0 0) * (s0 0 0)) q17 hc_17 _) (cwV 1 hts gX8_goDay_X8_goes rfl rfl rfl (by decide +kernel) ⟨(Nat.le_of_ble_eq_true rfl), (Nat.le_of_ble_eq_true rfl)⟩) (pre_v (ci := 8) (q0 := 0) hK hP (hDD s0 t0) hS hG hAB rfl rfl) rfl rfl hl.1 rfl (lv_room (Nat.le_of_ble_eq_true rfl)) dX8_goDay_17 ⟨Nat.zero_le _, Nat.zero_le _⟩) hS (w_free (hDD s0 t0) hS hA (fun _ h => h)) (fun H locs hP1 hk hS => ?_)
    have hP := hP1
    refine lv_if_eq (tgt := 36) hx hb dX8_goDay_20 (by decide) (fun c_20 => ?_) (fun c_20 => ?_)
    · have hf := ite_t c_20 hf
      refine lv_aload_n hx hb dX8_goDay_36 rfl (lv_at hl 0 rfl) ?_
      refine lv_dup hx hb dX8_goDay_37 rfl ?_
      refine va_get (ci := 8) (C := RX8) (T := TX8) (N := 67) (v := .int (q17.2 2 0)) hx hb hts i_X8_goDay_X8 hown hK hP 0 rfl rfl 2 (by decide) (hts _ m_X8_goDay_840104) (fun _ h9 => h9) rfl dX8_goDay_38 ?_
      refine lv_iconst (v := 1) hx hb dX8_goDay_41 (by decide) ?_
      refine lv_iadd hx hb dX8_goDay_42 ?_
      refine va_put (ci := 8) (v := .int ((q17.2 2 0) + 1)) (ty := .int) (C := RX8) (T := TX8) (N := 67) hx hb hts i_X8_goDay_X8 tyX8 tyX8_ok nmX8 hown hK hP (hDD q17.2 t0) hS 0 rfl rfl 2 (by decide) (hts _ m_X8_goDay_840104) (fun _ h9 => h9) rfl (by decide +kernel) rfl rfl (Nat.le_of_ble_eq_true rfl) dX8_goDay_43 (fun H locs hP _ hS => ?_)
      obtain ⟨s0_43, hP, hf⟩ := nm_st' (P := fun z => va_P E.1 vwCl (wX8 E a0 z t0) H) hf hP
      have e9 := Option.some.inj hf
      exact rt_v hx hb hr hlocks (rtP (P := fun z => va_P E.1 vwCl (wX8 E a0 z t0) H) e9 hP) hS dX8_goDay_46
    · have hf := ite_f c_20 hf
      refine lv_aload_n hx hb dX8_goDay_23 rfl (lv_at hl 0 rfl) ?_
      refine lv_aload_n hx hb dX8_goDay_24 rfl (lv_at hl 0 rfl) ?_
      refine va_get (ci := 8) (C := RX8) (T := TX8) (N := 67) (v := .int (q17.2 2 0)) hx hb hts i_X8_goDay_X8 hown hK hP 0 rfl rfl 2 (by decide) (hts _ m_X8_goDay_840104) (fun _ h9 => h9) rfl dX8_goDay_25 ?_
      refine lv_aload_n hx hb dX8_goDay_28 rfl (lv_at hl 0 rfl) ?_
      refine va_get (ci := 8) (C := RX8) (T := TX8) (N := 67) (v := .int (q17.2 0 0)) hx hb hts i_X8_goDay_X8 hown hK hP 0 rfl rfl 0 (by decide) (hts _ m_X8_goDay_acbb5e) (fun _ h9 => h9) rfl dX8_goDay_29 ?_
      obtain ⟨hz_32, hf⟩ := cz_e hf
      refine lv_irem hx hb dX8_goDay_32 hz_32 ?_
      obtain ⟨q33, hc_33, hf⟩ := cl_e hf
      refine fin_v (E := E) (wc := wX8 E a0 q17.2 t0) (wc' := wX8 E a0 q33 t0) (va_runV (As := [.int ((q17.2 2 0) - (q17.2 2 0) / (q17.2 0 0) * (q17.2 0 0))]) (rest := []) ⟨hx, hb, hml, hown, hts⟩ (k_X8_pushes l E a0 N q17.2 t0 ((q17.2 2 0) - (q17.2 2 0) / (q17.2 0 0) * (q17.2 0 0)) q33 hc_33 _) (cwV 1 hts gX8_goDay_X8_pushes rfl rfl rfl (by decide +kernel) ⟨(Nat.le_of_ble_eq_true rfl), (Nat.le_of_ble_eq_true rfl)⟩) (pre_v (ci := 8) (q0 := 0) hK hP (hDD q17.2 t0) hS hG hAB rfl rfl) rfl rfl hl.1 rfl (lv_room (Nat.le_of_ble_eq_true rfl)) dX8_goDay_33 ⟨Nat.zero_le _, Nat.zero_le _⟩) hS (w_free (hDD q17.2 t0) hS hA (fun _ h => h)) (fun H locs hP1 hk hS => ?_)
      have hP := hP1
      refine lv_aload_n hx hb dX8_goDay_36 rfl (lv_at hl 0 rfl) ?_
      refine lv_dup hx hb dX8_goDay_37 rfl ?_
      refine va_get (ci := 8) (C := RX8) (T := TX8) (N := 67) (v := .int (q33 2 0)) hx hb hts i_X8_goDay_X8 hown hK hP 0 rfl rfl 2 (by decide) (hts _ m_X8_goDay_840104) (fun _ h9 => h9) rfl dX8_goDay_38 ?_
      refine lv_iconst (v := 1) hx hb dX8_goDay_41 (by decide) ?_
      refine lv_iadd hx hb dX8_goDay_42 ?_
      refine va_put (ci := 8) (v := .int ((q33 2 0) + 1)) (ty := .int) (C := RX8) (T := TX8) (N := 67) hx hb hts i_X8_goDay_X8 tyX8 tyX8_ok nmX8 hown hK hP (hDD q33 t0) hS 0 rfl rfl 2 (by decide) (hts _ m_X8_goDay_840104) (fun _ h9 => h9) rfl (by decide +kernel) rfl rfl (Nat.le_of_ble_eq_true rfl) dX8_goDay_43 (fun H locs hP _ hS => ?_)
      obtain ⟨s0_43, hP, hf⟩ := nm_st' (P := fun z => va_P E.1 vwCl (wX8 E a0 z t0) H) hf hP
      have e9 := Option.some.inj hf
      exact rt_v hx hb hr hlocks (rtP (P := fun z => va_P E.1 vwCl (wX8 E a0 z t0) H) e9 hP) hS dX8_goDay_46
abbrev rm_X8_goDays : Room := { frames := 9, cells := 0, slots := 0, locals := 200 }
set_option maxHeartbeats 8000000 in
set_option maxRecDepth 100000 in
theorem k_X8_goDays (l : Launch) (E : Ev) (a0 : Nat → Nat) (N : Nat) (s0 : St) (t0 : Nat → Nat → Int64) (p1 : Int32) (q : (St)) (hf : f_X8_goDays N s0 p1 = some q) : Cv l yX8_goDays wsX8_goDays rm_X8_goDays E [.ref (a0 0), .int p1] (wX8 E a0 s0 t0) (wX8 E a0 q t0) := by
  unfold f_X8_goDays at hf
  intro sz
  refine Met.ofW (cc := cX8_goDays) (maxL := 3) (ret := none) (by decide) rfl ?_
  intro p e s m args below meth c s₁ B hml hv
  obtain ⟨rfl, hsz, hP, hK, hD0, hG, hA, hAB⟩ := start hv
  have hx := B.exec
  have hb := B.bytes
  have hr := B.returns
  have hts := atoms_spec (ws := wsX8_goDays) B.pre
  have hown : s.vm.findClass RX8 = some m.cls := findClass_of_methodNamed B.named
  have hlocks := B.notSynchronized
  subst hsz
  generalize va_A (wX8 E a0 s0 t0) s.heap.size = A0 at hD0 hA hAB ⊢
  have hDD : ∀ (s0 : St) (t0 : Nat → Nat → Int64), va_D A0 (wX8 E a0 s0 t0) := fun s0 t0 => vD_addr hD0 rfl
  have hS : va_S A0 s.heap s.heap [] := va_S.rf
  have hl := lv_entry ([.ref (a0 0), .int p1]) (n := 3) (Nat.le_of_ble_eq_true rfl)
  rw [lg_entry_eq]
  generalize (lg_sl ([.ref (a0 0), .int p1]) ++ List.replicate (3 - (lg_sl ([.ref (a0 0), .int p1])).length) Slot.unset).toArray = ls at hl ⊢
  have hl : lv_has ls 3 [(0, .ref (a0 0)), (1, .int p1)] := hl
  have hL_2 : ∀ (v1 : Int32) (n_2 : Nat) (s0 : St) (v2 : Int32), l_X8_goDays_2 N v1 n_2 s0 v2 = some q → ∀ (H : Heap) (locs : List Loc) (ls : Array Slot), va_P E.1 vwCl (wX8 E a0 s0 t0) H → va_S A0 s.heap H locs → lv_has ls 3 [(0, .ref (a0 0)), (1, .int v1), (2, .int v2)] → W p l e rm_X8_goDays s m ([.ref (a0 0), .int p1] : List Value).toArray below meth c H locs 0 0 (MQ below (va_Qv (fun (_ : Unit) => True) (fun _ t => va_P E.1 vwCl (wX8 E a0 q t0) t.heap) A0) ([.ref (a0 0), .int p1] : List Value).toArray s 0 0 A0) (F0 m 2 ls []) := by
    intro v1 n_2
    induction n_2 with
    | zero => intro s0 v2 hf; rw [l_X8_goDays_2] at hf; cases hf
    | succ n_2 ih_2 =>
      intro s0 v2 hf H locs ls hP hS hl
      rw [l_X8_goDays_2] at hf
      refine lv_iload_n hx hb dX8_goDays_2 rfl (lv_at hl 2 rfl) ?_
      refine lv_iload_n hx hb dX8_goDays_3 rfl (lv_at hl 1 rfl) ?_
      refine lv_icmp_ge (tgt := 17) hx hb dX8_goDays_4 (by decide) (fun c_4 => ?_) (fun c_4 => ?_)
      · have hf := ite_t c_4 hf
        have e9 := Option.some.inj hf
        exact rt_v hx hb hr hlocks (rtP (P := fun z => va_P E.1 vwCl (wX8 E a0 z t0) H) e9 hP) hS dX8_goDays_17
      · have hf := ite_f c_4 hf
        refine lv_aload_n hx hb dX8_goDays_7 rfl (lv_at hl 0 rfl) ?_
        obtain ⟨q8, hc_8, hf⟩ := cl_e hf
        refine fin_v (E := E) (wc := wX8 E a0 s0 t0) (wc' := wX8 E a0 q8 t0) (va_runV (As := []) (rest := []) ⟨hx, hb, hml, hown, hts⟩ (k_X8_goDay l E a0 N s0 t0 q8 hc_8 _) (cwV 0 hts gX8_goDays_X8_goDay rfl rfl rfl (by decide +kernel) ⟨(Nat.le_of_ble_eq_true rfl), (Nat.le_of_ble_eq_true rfl)⟩) (pre_v (ci := 8) (q0 := 0) hK hP (hDD s0 t0) hS hG hAB rfl rfl) rfl rfl hl.1 rfl (lv_room (Nat.le_of_ble_eq_true rfl)) dX8_goDays_8 ⟨Nat.zero_le _, Nat.zero_le _⟩) hS (w_free (hDD s0 t0) hS hA (fun _ h => h)) (fun H locs hP1 hk hS => ?_)
        have hP := hP1
        obtain ⟨x11, e_x11⟩ : ∃ y : Int32, y = v2 + 1 := ⟨_, rfl⟩
        have hf := nm_q e_x11 hf
        refine lv_iinc (v := x11) (lv' := [(2, .int x11), (0, .ref (a0 0)), (1, .int v1)]) hx hb dX8_goDays_11 hl (k := 2) rfl (by rw [e_x11]; rfl) (Nat.le_of_ble_eq_true rfl) rfl (fun ls hl => ?_)
        refine lv_goto (tgt := 2) hx hb dX8_goDays_14 (by decide) ?_
        exact ih_2 q8 x11 hf _ _ _ hP hS (lv_sub hl [1, 2, 0] rfl)
  refine lv_iconst (v := 0) hx hb dX8_goDays_0 (by decide) ?_
  refine lv_istore_n (lv' := [(2, .int 0), (0, .ref (a0 0)), (1, .int p1)]) hx hb dX8_goDays_1 rfl hl (Nat.le_of_ble_eq_true rfl) rfl (fun ls hl => ?_)
  exact hL_2 p1 N s0 0 hf _ _ _ hP hS (lv_sub hl [1, 2, 0] rfl)
abbrev rm_X8_pass : Room := { frames := 10, cells := 0, slots := 0, locals := 222 }
theorem m_X8_pass_840104 : Cond.fieldLink RX8 16 "PickedMatchModel" "days" "I" ∈ wsX8_pass := by decide +kernel
theorem i_X8_pass_X8 : ∀ w ∈ wsX80, w ∈ wsX8_pass := fun _ h => List.mem_cons_of_mem _ (List.mem_append_right _ h)
theorem m_X8_pass_92e5f7 : Cond.fieldLink RX8 13 "PickedMatchModel" "had" "I" ∈ wsX8_pass := by decide +kernel
set_option maxHeartbeats 8000000 in
set_option maxRecDepth 100000 in
theorem k_X8_pass (l : Launch) (E : Ev) (a0 : Nat → Nat) (N : Nat) (s0 : St) (t0 : Nat → Nat → Int64) (p1 : Int32) (q : (Int32 × St)) (hf : f_X8_pass N s0 p1 = some q) : Ci l yX8_pass wsX8_pass rm_X8_pass E [.ref (a0 0), .int p1] (wX8 E a0 s0 t0) (wX8 E a0 q.2 t0) q.1 := by
  unfold f_X8_pass at hf
  intro sz
  refine Met.ofW (cc := cX8_pass) (maxL := 2) (ret := (some .int)) (by decide) rfl ?_
  intro p e s m args below meth c s₁ B hml hv
  obtain ⟨rfl, hsz, hP, hK, hD0, hG, hA, hAB⟩ := start hv
  have hx := B.exec
  have hb := B.bytes
  have hr := B.returns
  have hts := atoms_spec (ws := wsX8_pass) B.pre
  have hown : s.vm.findClass RX8 = some m.cls := findClass_of_methodNamed B.named
  have hlocks := B.notSynchronized
  subst hsz
  generalize va_A (wX8 E a0 s0 t0) s.heap.size = A0 at hD0 hA hAB ⊢
  have hDD : ∀ (s0 : St) (t0 : Nat → Nat → Int64), va_D A0 (wX8 E a0 s0 t0) := fun s0 t0 => vD_addr hD0 rfl
  have hS : va_S A0 s.heap s.heap [] := va_S.rf
  have hl := lv_entry ([.ref (a0 0), .int p1]) (n := 2) (Nat.le_of_ble_eq_true rfl)
  rw [lg_entry_eq]
  generalize (lg_sl ([.ref (a0 0), .int p1]) ++ List.replicate (2 - (lg_sl ([.ref (a0 0), .int p1])).length) Slot.unset).toArray = ls at hl ⊢
  have hl : lv_has ls 2 [(0, .ref (a0 0)), (1, .int p1)] := hl
  refine lv_aload_n hx hb dX8_pass_0 rfl (lv_at hl 0 rfl) ?_
  refine lv_iload_n hx hb dX8_pass_1 rfl (lv_at hl 1 rfl) ?_
  obtain ⟨q2, hc_2, hf⟩ := cl_e hf
  refine fin_i (E := E) (wc := wX8 E a0 s0 t0) (wc' := wX8 E a0 s0 t0) (va_runV (As := [.int p1]) (rest := []) ⟨hx, hb, hml, hown, hts⟩ (k_X8_isDays l E a0 N s0 t0 p1 q2 hc_2 _) (cwV 1 hts gX8_pass_X8_isDays rfl rfl rfl (by decide +kernel) ⟨(Nat.le_of_ble_eq_true rfl), (Nat.le_of_ble_eq_true rfl)⟩) (pre_v (ci := 8) (q0 := 0) hK hP (hDD s0 t0) hS hG hAB rfl rfl) rfl rfl hl.1 rfl (lv_room (Nat.le_of_ble_eq_true rfl)) dX8_pass_2 ⟨Nat.zero_le _, Nat.zero_le _⟩) hS (w_free (hDD s0 t0) hS hA (fun _ h => h)) (fun H locs hP1 hk hS => ?_)
  have hP := hP1
  refine lv_if_ne (tgt := 11) hx hb dX8_pass_5 (by decide) (fun c_5 => ?_) (fun c_5 => ?_)
  · have hf := ite_f c_5 hf
    refine lv_aload_n hx hb dX8_pass_11 rfl (lv_at hl 0 rfl) ?_
    refine va_get (ci := 8) (C := RX8) (T := TX8) (N := 67) (v := .int (s0 2 0)) hx hb hts i_X8_pass_X8 hown hK hP 0 rfl rfl 2 (by decide) (hts _ m_X8_pass_840104) (fun _ h9 => h9) rfl dX8_pass_12 ?_
    refine lv_iload_n hx hb dX8_pass_15 rfl (lv_at hl 1 rfl) ?_
    refine lv_iadd hx hb dX8_pass_16 ?_
    refine lv_sipush (v := 9999) hx hb dX8_pass_17 (by decide) ?_
    refine lv_icmp_le (tgt := 26) hx hb dX8_pass_20 (by decide) (fun c_20 => ?_) (fun c_20 => ?_)
    · have hf := ite_t c_20 hf
      refine lv_aload_n hx hb dX8_pass_26 rfl (lv_at hl 0 rfl) ?_
      refine lv_iload_n hx hb dX8_pass_27 rfl (lv_at hl 1 rfl) ?_
      obtain ⟨q28, hc_28, hf⟩ := cl_e hf
      refine fin_v (E := E) (wc := wX8 E a0 s0 t0) (wc' := wX8 E a0 q28 t0) (va_runV (As := [.int p1]) (rest := []) ⟨hx, hb, hml, hown, hts⟩ (k_X8_goDays l E a0 N s0 t0 p1 q28 hc_28 _) (cwV 1 hts gX8_pass_X8_goDays rfl rfl rfl (by decide +kernel) ⟨(Nat.le_of_ble_eq_true rfl), (Nat.le_of_ble_eq_true rfl)⟩) (pre_v (ci := 8) (q0 := 0) hK hP (hDD s0 t0) hS hG hAB rfl rfl) rfl rfl hl.1 rfl (lv_room (Nat.le_of_ble_eq_true rfl)) dX8_pass_28 ⟨Nat.zero_le _, Nat.zero_le _⟩) hS (w_free (hDD s0 t0) hS hA (fun _ h => h)) (fun H locs hP1 hk hS => ?_)
      have hP := hP1
      refine lv_aload_n hx hb dX8_pass_31 rfl (lv_at hl 0 rfl) ?_
      refine va_get (ci := 8) (C := RX8) (T := TX8) (N := 67) (v := .int (q28 1 0)) hx hb hts i_X8_pass_X8 hown hK hP 0 rfl rfl 1 (by decide) (hts _ m_X8_pass_92e5f7) (fun _ h9 => h9) rfl dX8_pass_32 ?_
      have e9 := Option.some.inj hf
      exact rt_i hx hb hr hlocks (fst_e e9) (rtP (P := fun z => va_P E.1 vwCl (wX8 E a0 z.2 t0) H) e9 hP) hS dX8_pass_35
    · have hf := ite_f c_20 hf
      refine lv_bipush (v := (-3)) hx hb dX8_pass_23 (by decide) ?_
      have e9 := Option.some.inj hf
      exact rt_i hx hb hr hlocks (fst_e e9) (rtP (P := fun z => va_P E.1 vwCl (wX8 E a0 z.2 t0) H) e9 hP) hS dX8_pass_25
  · have hf := ite_t c_5 hf
    refine lv_bipush (v := (-2)) hx hb dX8_pass_8 (by decide) ?_
    have e9 := Option.some.inj hf
    exact rt_i hx hb hr hlocks (fst_e e9) (rtP (P := fun z => va_P E.1 vwCl (wX8 E a0 z.2 t0) H) e9 hP) hS dX8_pass_10
abbrev rm_X8_save : Room := { frames := 0, cells := 0, slots := 0, locals := 0 }
theorem m_X8_save_9f6956 : Cond.fieldLink RX8 96 "PickedMatchModel" "keptOf" "[I" ∈ wsX8_save := by decide +kernel
theorem i_X8_save_X8 : ∀ w ∈ wsX80, w ∈ wsX8_save := fun _ h => List.mem_cons_of_mem _ (List.mem_append_right _ h)
theorem m_X8_save_ef0124 : Cond.fieldLink RX8 32 "PickedMatchModel" "hadOf" "[I" ∈ wsX8_save := by decide +kernel
theorem m_X8_save_92e5f7 : Cond.fieldLink RX8 13 "PickedMatchModel" "had" "I" ∈ wsX8_save := by decide +kernel
theorem m_X8_save_b70e66 : Cond.fieldLink RX8 90 "PickedMatchModel" "keptHad" "I" ∈ wsX8_save := by decide +kernel
theorem m_X8_save_840104 : Cond.fieldLink RX8 16 "PickedMatchModel" "days" "I" ∈ wsX8_save := by decide +kernel
theorem m_X8_save_df1bb0 : Cond.fieldLink RX8 93 "PickedMatchModel" "keptDays" "I" ∈ wsX8_save := by decide +kernel
set_option maxHeartbeats 8000000 in
set_option maxRecDepth 100000 in
theorem k_X8_save (l : Launch) (E : Ev) (a0 : Nat → Nat) (N : Nat) (s0 : St) (t0 : Nat → Nat → Int64) (q : (St)) (hf : f_X8_save N s0 = some q) : Cv l yX8_save wsX8_save rm_X8_save E [.ref (a0 0)] (wX8 E a0 s0 t0) (wX8 E a0 q t0) := by
  unfold f_X8_save at hf
  intro sz
  refine Met.ofW (cc := cX8_save) (maxL := 2) (ret := none) (by decide) rfl ?_
  intro p e s m args below meth c s₁ B hml hv
  obtain ⟨rfl, hsz, hP, hK, hD0, hG, hA, hAB⟩ := start hv
  have hx := B.exec
  have hb := B.bytes
  have hr := B.returns
  have hts := atoms_spec (ws := wsX8_save) B.pre
  have hown : s.vm.findClass RX8 = some m.cls := findClass_of_methodNamed B.named
  have hlocks := B.notSynchronized
  subst hsz
  generalize va_A (wX8 E a0 s0 t0) s.heap.size = A0 at hD0 hA hAB ⊢
  have hDD : ∀ (s0 : St) (t0 : Nat → Nat → Int64), va_D A0 (wX8 E a0 s0 t0) := fun s0 t0 => vD_addr hD0 rfl
  have hS : va_S A0 s.heap s.heap [] := va_S.rf
  have hl := lv_entry ([.ref (a0 0)]) (n := 2) (Nat.le_of_ble_eq_true rfl)
  rw [lg_entry_eq]
  generalize (lg_sl ([.ref (a0 0)]) ++ List.replicate (2 - (lg_sl ([.ref (a0 0)])).length) Slot.unset).toArray = ls at hl ⊢
  have hl : lv_has ls 2 [(0, .ref (a0 0))] := hl
  have hL_18 : ∀ (n_18 : Nat) (s0 : St) (v1 : Int32), l_X8_save_18 N n_18 s0 v1 = some q → ∀ (H : Heap) (locs : List Loc) (ls : Array Slot), va_P E.1 vwCl (wX8 E a0 s0 t0) H → va_S A0 s.heap H locs → lv_has ls 2 [(0, .ref (a0 0)), (1, .int v1)] → W p l e rm_X8_save s m ([.ref (a0 0)] : List Value).toArray below meth c H locs 0 0 (MQ below (va_Qv (fun (_ : Unit) => True) (fun _ t => va_P E.1 vwCl (wX8 E a0 q t0) t.heap) A0) ([.ref (a0 0)] : List Value).toArray s 0 0 A0) (F0 m 18 ls []) := by
    intro n_18
    induction n_18 with
    | zero => intro s0 v1 hf; rw [l_X8_save_18] at hf; cases hf
    | succ n_18 ih_18 =>
      intro s0 v1 hf H locs ls hP hS hl
      rw [l_X8_save_18] at hf
      refine lv_iload_n hx hb dX8_save_18 rfl (lv_at hl 1 rfl) ?_
      refine lv_bipush (v := 6) hx hb dX8_save_19 (by decide) ?_
      refine lv_icmp_ge (tgt := 42) hx hb dX8_save_21 (by decide) (fun c_21 => ?_) (fun c_21 => ?_)
      · have hf := ite_t c_21 hf
        have e9 := Option.some.inj hf
        exact rt_v hx hb hr hlocks (rtP (P := fun z => va_P E.1 vwCl (wX8 E a0 z t0) H) e9 hP) hS dX8_save_42
      · have hf := ite_f c_21 hf
        refine lv_aload_n hx hb dX8_save_24 rfl (lv_at hl 0 rfl) ?_
        refine va_get (ci := 8) (C := RX8) (T := TX8) (N := 67) (v := .ref (a0 16)) hx hb hts i_X8_save_X8 hown hK hP 0 rfl rfl 28 (by decide) (hts _ m_X8_save_9f6956) (fun _ h9 => h9) rfl dX8_save_25 ?_
        refine lv_iload_n hx hb dX8_save_28 rfl (lv_at hl 1 rfl) ?_
        refine lv_aload_n hx hb dX8_save_29 rfl (lv_at hl 0 rfl) ?_
        refine va_get (ci := 8) (C := RX8) (T := TX8) (N := 67) (v := .ref (a0 5)) hx hb hts i_X8_save_X8 hown hK hP 0 rfl rfl 7 (by decide) (hts _ m_X8_save_ef0124) (fun _ h9 => h9) rfl dX8_save_30 ?_
        refine lv_iload_n hx hb dX8_save_33 rfl (lv_at hl 1 rfl) ?_
        obtain ⟨h_34, hf⟩ := ck_e hf
        refine va_iald (cA := E.2.1) (n := 6) (f := s0 7) hx hb hK hP 5 0 rfl rfl h_34 dX8_save_34 ?_
        obtain ⟨h_35, hf⟩ := ck_e hf
        refine va_iast (cA := E.2.1) (n := 6) (f := s0 28) (x := s0 7 v1.toNatClampNeg) hx hb hK hP (hDD s0 t0) hS 16 0 rfl rfl h_35 dX8_save_35 (fun H locs hP _ hS => ?_)
        obtain ⟨s0_35, hP, hf⟩ := nm_st' (P := fun z => va_P E.1 vwCl (wX8 E a0 z t0) H) hf hP
        obtain ⟨x36, e_x36⟩ : ∃ y : Int32, y = v1 + 1 := ⟨_, rfl⟩
        have hf := nm_q e_x36 hf
        refine lv_iinc (v := x36) (lv' := [(1, .int x36), (0, .ref (a0 0))]) hx hb dX8_save_36 hl (k := 1) rfl (by rw [e_x36]; rfl) (Nat.le_of_ble_eq_true rfl) rfl (fun ls hl => ?_)
        refine lv_goto (tgt := 18) hx hb dX8_save_39 (by decide) ?_
        exact ih_18 s0_35 x36 hf _ _ _ hP hS (lv_sub hl [1, 0] rfl)
  refine lv_aload_n hx hb dX8_save_0 rfl (lv_at hl 0 rfl) ?_
  refine lv_aload_n hx hb dX8_save_1 rfl (lv_at hl 0 rfl) ?_
  refine va_get (ci := 8) (C := RX8) (T := TX8) (N := 67) (v := .int (s0 1 0)) hx hb hts i_X8_save_X8 hown hK hP 0 rfl rfl 1 (by decide) (hts _ m_X8_save_92e5f7) (fun _ h9 => h9) rfl dX8_save_2 ?_
  refine va_put (ci := 8) (v := .int (s0 1 0)) (ty := .int) (C := RX8) (T := TX8) (N := 67) hx hb hts i_X8_save_X8 tyX8 tyX8_ok nmX8 hown hK hP (hDD s0 t0) hS 0 rfl rfl 26 (by decide) (hts _ m_X8_save_b70e66) (fun _ h9 => h9) rfl (by decide +kernel) rfl rfl (Nat.le_of_ble_eq_true rfl) dX8_save_5 (fun H locs hP _ hS => ?_)
  obtain ⟨s0_5, hP, hf⟩ := nm_st' (P := fun z => va_P E.1 vwCl (wX8 E a0 z t0) H) hf hP
  refine lv_aload_n hx hb dX8_save_8 rfl (lv_at hl 0 rfl) ?_
  refine lv_aload_n hx hb dX8_save_9 rfl (lv_at hl 0 rfl) ?_
  refine va_get (ci := 8) (C := RX8) (T := TX8) (N := 67) (v := .int (s0_5 2 0)) hx hb hts i_X8_save_X8 hown hK hP 0 rfl rfl 2 (by decide) (hts _ m_X8_save_840104) (fun _ h9 => h9) rfl dX8_save_10 ?_
  refine va_put (ci := 8) (v := .int (s0_5 2 0)) (ty := .int) (C := RX8) (T := TX8) (N := 67) hx hb hts i_X8_save_X8 tyX8 tyX8_ok nmX8 hown hK hP (hDD s0_5 t0) hS 0 rfl rfl 27 (by decide) (hts _ m_X8_save_df1bb0) (fun _ h9 => h9) rfl (by decide +kernel) rfl rfl (Nat.le_of_ble_eq_true rfl) dX8_save_13 (fun H locs hP _ hS => ?_)
  obtain ⟨s0_13, hP, hf⟩ := nm_st' (P := fun z => va_P E.1 vwCl (wX8 E a0 z t0) H) hf hP
  refine lv_iconst (v := 0) hx hb dX8_save_16 (by decide) ?_
  refine lv_istore_n (lv' := [(1, .int 0), (0, .ref (a0 0))]) hx hb dX8_save_17 rfl hl (Nat.le_of_ble_eq_true rfl) rfl (fun ls hl => ?_)
  exact hL_18 N s0_13 0 hf _ _ _ hP hS (lv_sub hl [1, 0] rfl)
abbrev rm_X8_putBack : Room := { frames := 0, cells := 0, slots := 0, locals := 0 }
theorem m_X8_putBack_ef0124 : Cond.fieldLink RX8 32 "PickedMatchModel" "hadOf" "[I" ∈ wsX8_putBack := by decide +kernel
theorem i_X8_putBack_X8 : ∀ w ∈ wsX80, w ∈ wsX8_putBack := fun _ h => List.mem_cons_of_mem _ (List.mem_append_right _ h)
theorem m_X8_putBack_9f6956 : Cond.fieldLink RX8 96 "PickedMatchModel" "keptOf" "[I" ∈ wsX8_putBack := by decide +kernel
theorem m_X8_putBack_b70e66 : Cond.fieldLink RX8 90 "PickedMatchModel" "keptHad" "I" ∈ wsX8_putBack := by decide +kernel
theorem m_X8_putBack_92e5f7 : Cond.fieldLink RX8 13 "PickedMatchModel" "had" "I" ∈ wsX8_putBack := by decide +kernel
theorem m_X8_putBack_df1bb0 : Cond.fieldLink RX8 93 "PickedMatchModel" "keptDays" "I" ∈ wsX8_putBack := by decide +kernel
theorem m_X8_putBack_840104 : Cond.fieldLink RX8 16 "PickedMatchModel" "days" "I" ∈ wsX8_putBack := by decide +kernel
set_option maxHeartbeats 8000000 in
set_option maxRecDepth 100000 in
theorem k_X8_putBack (l : Launch) (E : Ev) (a0 : Nat → Nat) (N : Nat) (s0 : St) (t0 : Nat → Nat → Int64) (q : (St)) (hf : f_X8_putBack N s0 = some q) : Cv l yX8_putBack wsX8_putBack rm_X8_putBack E [.ref (a0 0)] (wX8 E a0 s0 t0) (wX8 E a0 q t0) := by
  unfold f_X8_putBack at hf
  intro sz
  refine Met.ofW (cc := cX8_putBack) (maxL := 2) (ret := none) (by decide) rfl ?_
  intro p e s m args below meth c s₁ B hml hv
  obtain ⟨rfl, hsz, hP, hK, hD0, hG, hA, hAB⟩ := start hv
  have hx := B.exec
  have hb := B.bytes
  have hr := B.returns
  have hts := atoms_spec (ws := wsX8_putBack) B.pre
  have hown : s.vm.findClass RX8 = some m.cls := findClass_of_methodNamed B.named
  have hlocks := B.notSynchronized
  subst hsz
  generalize va_A (wX8 E a0 s0 t0) s.heap.size = A0 at hD0 hA hAB ⊢
  have hDD : ∀ (s0 : St) (t0 : Nat → Nat → Int64), va_D A0 (wX8 E a0 s0 t0) := fun s0 t0 => vD_addr hD0 rfl
  have hS : va_S A0 s.heap s.heap [] := va_S.rf
  have hl := lv_entry ([.ref (a0 0)]) (n := 2) (Nat.le_of_ble_eq_true rfl)
  rw [lg_entry_eq]
  generalize (lg_sl ([.ref (a0 0)]) ++ List.replicate (2 - (lg_sl ([.ref (a0 0)])).length) Slot.unset).toArray = ls at hl ⊢
  have hl : lv_has ls 2 [(0, .ref (a0 0))] := hl
  have hL_18 : ∀ (n_18 : Nat) (s0 : St) (v1 : Int32), l_X8_putBack_18 N n_18 s0 v1 = some q → ∀ (H : Heap) (locs : List Loc) (ls : Array Slot), va_P E.1 vwCl (wX8 E a0 s0 t0) H → va_S A0 s.heap H locs → lv_has ls 2 [(0, .ref (a0 0)), (1, .int v1)] → W p l e rm_X8_putBack s m ([.ref (a0 0)] : List Value).toArray below meth c H locs 0 0 (MQ below (va_Qv (fun (_ : Unit) => True) (fun _ t => va_P E.1 vwCl (wX8 E a0 q t0) t.heap) A0) ([.ref (a0 0)] : List Value).toArray s 0 0 A0) (F0 m 18 ls []) := by
    intro n_18
    induction n_18 with
    | zero => intro s0 v1 hf; rw [l_X8_putBack_18] at hf; cases hf
    | succ n_18 ih_18 =>
      intro s0 v1 hf H locs ls hP hS hl
      rw [l_X8_putBack_18] at hf
      refine lv_iload_n hx hb dX8_putBack_18 rfl (lv_at hl 1 rfl) ?_
      refine lv_bipush (v := 6) hx hb dX8_putBack_19 (by decide) ?_
      refine lv_icmp_ge (tgt := 42) hx hb dX8_putBack_21 (by decide) (fun c_21 => ?_) (fun c_21 => ?_)
      · have hf := ite_t c_21 hf
        have e9 := Option.some.inj hf
        exact rt_v hx hb hr hlocks (rtP (P := fun z => va_P E.1 vwCl (wX8 E a0 z t0) H) e9 hP) hS dX8_putBack_42
      · have hf := ite_f c_21 hf
        refine lv_aload_n hx hb dX8_putBack_24 rfl (lv_at hl 0 rfl) ?_
        refine va_get (ci := 8) (C := RX8) (T := TX8) (N := 67) (v := .ref (a0 5)) hx hb hts i_X8_putBack_X8 hown hK hP 0 rfl rfl 7 (by decide) (hts _ m_X8_putBack_ef0124) (fun _ h9 => h9) rfl dX8_putBack_25 ?_
        refine lv_iload_n hx hb dX8_putBack_28 rfl (lv_at hl 1 rfl) ?_
        refine lv_aload_n hx hb dX8_putBack_29 rfl (lv_at hl 0 rfl) ?_
        refine va_get (ci := 8) (C := RX8) (T := TX8) (N := 67) (v := .ref (a0 16)) hx hb hts i_X8_putBack_X8 hown hK hP 0 rfl rfl 28 (by decide) (hts _ m_X8_putBack_9f6956) (fun _ h9 => h9) rfl dX8_putBack_30 ?_
        refine lv_iload_n hx hb dX8_putBack_33 rfl (lv_at hl 1 rfl) ?_
        obtain ⟨h_34, hf⟩ := ck_e hf
        refine va_iald (cA := E.2.1) (n := 6) (f := s0 28) hx hb hK hP 16 0 rfl rfl h_34 dX8_putBack_34 ?_
        obtain ⟨h_35, hf⟩ := ck_e hf
        refine va_iast (cA := E.2.1) (n := 6) (f := s0 7) (x := s0 28 v1.toNatClampNeg) hx hb hK hP (hDD s0 t0) hS 5 0 rfl rfl h_35 dX8_putBack_35 (fun H locs hP _ hS => ?_)
        obtain ⟨s0_35, hP, hf⟩ := nm_st' (P := fun z => va_P E.1 vwCl (wX8 E a0 z t0) H) hf hP
        obtain ⟨x36, e_x36⟩ : ∃ y : Int32, y = v1 + 1 := ⟨_, rfl⟩
        have hf := nm_q e_x36 hf
        refine lv_iinc (v := x36) (lv' := [(1, .int x36), (0, .ref (a0 0))]) hx hb dX8_putBack_36 hl (k := 1) rfl (by rw [e_x36]; rfl) (Nat.le_of_ble_eq_true rfl) rfl (fun ls hl => ?_)
        refine lv_goto (tgt := 18) hx hb dX8_putBack_39 (by decide) ?_
        exact ih_18 s0_35 x36 hf _ _ _ hP hS (lv_sub hl [1, 0] rfl)
  refine lv_aload_n hx hb dX8_putBack_0 rfl (lv_at hl 0 rfl) ?_
  refine lv_aload_n hx hb dX8_putBack_1 rfl (lv_at hl 0 rfl) ?_
  refine va_get (ci := 8) (C := RX8) (T := TX8) (N := 67) (v := .int (s0 26 0)) hx hb hts i_X8_putBack_X8 hown hK hP 0 rfl rfl 26 (by decide) (hts _ m_X8_putBack_b70e66) (fun _ h9 => h9) rfl dX8_putBack_2 ?_
  refine va_put (ci := 8) (v := .int (s0 26 0)) (ty := .int) (C := RX8) (T := TX8) (N := 67) hx hb hts i_X8_putBack_X8 tyX8 tyX8_ok nmX8 hown hK hP (hDD s0 t0) hS 0 rfl rfl 1 (by decide) (hts _ m_X8_putBack_92e5f7) (fun _ h9 => h9) rfl (by decide +kernel) rfl rfl (Nat.le_of_ble_eq_true rfl) dX8_putBack_5 (fun H locs hP _ hS => ?_)
  obtain ⟨s0_5, hP, hf⟩ := nm_st' (P := fun z => va_P E.1 vwCl (wX8 E a0 z t0) H) hf hP
  refine lv_aload_n hx hb dX8_putBack_8 rfl (lv_at hl 0 rfl) ?_
  refine lv_aload_n hx hb dX8_putBack_9 rfl (lv_at hl 0 rfl) ?_
  refine va_get (ci := 8) (C := RX8) (T := TX8) (N := 67) (v := .int (s0_5 27 0)) hx hb hts i_X8_putBack_X8 hown hK hP 0 rfl rfl 27 (by decide) (hts _ m_X8_putBack_df1bb0) (fun _ h9 => h9) rfl dX8_putBack_10 ?_
  refine va_put (ci := 8) (v := .int (s0_5 27 0)) (ty := .int) (C := RX8) (T := TX8) (N := 67) hx hb hts i_X8_putBack_X8 tyX8 tyX8_ok nmX8 hown hK hP (hDD s0_5 t0) hS 0 rfl rfl 2 (by decide) (hts _ m_X8_putBack_840104) (fun _ h9 => h9) rfl (by decide +kernel) rfl rfl (Nat.le_of_ble_eq_true rfl) dX8_putBack_13 (fun H locs hP _ hS => ?_)
  obtain ⟨s0_13, hP, hf⟩ := nm_st' (P := fun z => va_P E.1 vwCl (wX8 E a0 z t0) H) hf hP
  refine lv_iconst (v := 0) hx hb dX8_putBack_16 (by decide) ?_
  refine lv_istore_n (lv' := [(1, .int 0), (0, .ref (a0 0))]) hx hb dX8_putBack_17 rfl hl (Nat.le_of_ble_eq_true rfl) rfl (fun ls hl => ?_)
  exact hL_18 N s0_13 0 hf _ _ _ hP hS (lv_sub hl [1, 0] rfl)
