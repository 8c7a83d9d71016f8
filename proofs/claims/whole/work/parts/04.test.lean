abbrev rm_X8_in : Room := { frames := 0, cells := 0, slots := 0, locals := 0 }
set_option maxHeartbeats 8000000 in
set_option maxRecDepth 100000 in
theorem k_X8_in (l : Launch) (E : Ev) (a0 : Nat → Nat) (N : Nat) (s0 : St) (t0 : Nat → Nat → Int64) (p1 : Int32) (p2 : Int32) (p3 : Int32) (q : (Int32)) (hf : f_X8_in N p1 p2 p3 = some q) : Ci l yX8_in wsX8_in rm_X8_in E [.ref (a0 0), .int p1, .int p2, .int p3] (wX8 E a0 s0 t0) (wX8 E a0 s0 t0) q := by
  unfold f_X8_in at hf
  intro sz
  refine Met.ofW (cc := cX8_in) (maxL := 4) (ret := (some .boolean)) (by decide) rfl ?_
  intro p e s m args below meth c s₁ B hml hv
  obtain ⟨rfl, hsz, hP, hK, hD0, hG, hA, hAB⟩ := start hv
  have hx := B.exec
  have hb := B.bytes
  have hr := B.returns
  have hts := atoms_spec (ws := wsX8_in) B.pre
  have hown : s.vm.findClass RX8 = some m.cls := findClass_of_methodNamed B.named
  have hlocks := B.notSynchronized
  subst hsz
  generalize va_A (wX8 E a0 s0 t0) s.heap.size = A0 at hD0 hA hAB ⊢
  have hDD : ∀ (s0 : St) (t0 : Nat → Nat → Int64), va_D A0 (wX8 E a0 s0 t0) := fun s0 t0 => vD_addr hD0 rfl
  have hS : va_S A0 s.heap s.heap [] := va_S.rf
  have hl := lv_entry ([.ref (a0 0), .int p1, .int p2, .int p3]) (n := 4) (Nat.le_of_ble_eq_true rfl)
  rw [lg_entry_eq]
  generalize (lg_sl ([.ref (a0 0), .int p1, .int p2, .int p3]) ++ List.replicate (4 - (lg_sl ([.ref (a0 0), .int p1, .int p2, .int p3])).length) Slot.unset).toArray = ls at hl ⊢
  have hl : lv_has ls 4 [(0, .ref (a0 0)), (1, .int p1), (2, .int p2), (3, .int p3)] := hl
  refine lv_iload_n hx hb dX8_in_0 rfl (lv_at hl 1 rfl) ?_
  refine lv_iload_n hx hb dX8_in_1 rfl (lv_at hl 2 rfl) ?_
  refine lv_icmp_lt (tgt := 14) hx hb dX8_in_2 (by decide) (fun c_2 => ?_) (fun c_2 => ?_)
  · have hf := ite_t c_2 hf
    refine lv_iconst (v := 0) hx hb dX8_in_14 (by decide) ?_
    have e9 := Option.some.inj hf
    exact rt_z hx hb hr rfl hlocks e9 hP hS dX8_in_15
  · have hf := ite_f c_2 hf
    refine lv_iload_n hx hb dX8_in_5 rfl (lv_at hl 1 rfl) ?_
    refine lv_iload_n hx hb dX8_in_6 rfl (lv_at hl 3 rfl) ?_
    refine lv_icmp_gt (tgt := 14) hx hb dX8_in_7 (by decide) (fun c_7 => ?_) (fun c_7 => ?_)
    · have hf := ite_t c_7 hf
      refine lv_iconst (v := 0) hx hb dX8_in_14 (by decide) ?_
      have e9 := Option.some.inj hf
      exact rt_z hx hb hr rfl hlocks e9 hP hS dX8_in_15
    · have hf := ite_f c_7 hf
      refine lv_iconst (v := 1) hx hb dX8_in_10 (by decide) ?_
      refine lv_goto (tgt := 15) hx hb dX8_in_11 (by decide) ?_
      have e9 := Option.some.inj hf
      exact rt_z hx hb hr rfl hlocks e9 hP hS dX8_in_15
abbrev rm_X8_has : Room := { frames := 0, cells := 0, slots := 0, locals := 0 }
set_option maxHeartbeats 8000000 in
set_option maxRecDepth 100000 in
theorem k_X8_has (l : Launch) (E : Ev) (a0 : Nat → Nat) (N : Nat) (s0 : St) (t0 : Nat → Nat → Int64) (p1 : Int32) (p2 : Int32) (q : (Int32)) (hf : f_X8_has N p1 p2 = some q) : Ci l yX8_has wsX8_has rm_X8_has E [.ref (a0 0), .int p1, .int p2] (wX8 E a0 s0 t0) (wX8 E a0 s0 t0) q := by
  unfold f_X8_has at hf
  intro sz
  refine Met.ofW (cc := cX8_has) (maxL := 3) (ret := (some .boolean)) (by decide) rfl ?_
  intro p e s m args below meth c s₁ B hml hv
  obtain ⟨rfl, hsz, hP, hK, hD0, hG, hA, hAB⟩ := start hv
  have hx := B.exec
  have hb := B.bytes
  have hr := B.returns
  have hts := atoms_spec (ws := wsX8_has) B.pre
  have hown : s.vm.findClass RX8 = some m.cls := findClass_of_methodNamed B.named
  have hlocks := B.notSynchronized
  subst hsz
  generalize va_A (wX8 E a0 s0 t0) s.heap.size = A0 at hD0 hA hAB ⊢
  have hDD : ∀ (s0 : St) (t0 : Nat → Nat → Int64), va_D A0 (wX8 E a0 s0 t0) := fun s0 t0 => vD_addr hD0 rfl
  have hS : va_S A0 s.heap s.heap [] := va_S.rf
  have hl := lv_entry ([.ref (a0 0), .int p1, .int p2]) (n := 3) (Nat.le_of_ble_eq_true rfl)
  rw [lg_entry_eq]
  generalize (lg_sl ([.ref (a0 0), .int p1, .int p2]) ++ List.replicate (3 - (lg_sl ([.ref (a0 0), .int p1, .int p2])).length) Slot.unset).toArray = ls at hl ⊢
  have hl : lv_has ls 3 [(0, .ref (a0 0)), (1, .int p1), (2, .int p2)] := hl
  refine lv_iload_n hx hb dX8_has_0 rfl (lv_at hl 1 rfl) ?_
  refine lv_iload_n hx hb dX8_has_1 rfl (lv_at hl 2 rfl) ?_
  refine lv_ishr hx hb dX8_has_2 ?_
  refine lv_iconst (v := 1) hx hb dX8_has_3 (by decide) ?_
  refine lv_iand hx hb dX8_has_4 ?_
  refine lv_iconst (v := 1) hx hb dX8_has_5 (by decide) ?_
  refine lv_icmp_ne (tgt := 13) hx hb dX8_has_6 (by decide) (fun c_6 => ?_) (fun c_6 => ?_)
  · have hf := ite_f c_6 hf
    refine lv_iconst (v := 0) hx hb dX8_has_13 (by decide) ?_
    have e9 := Option.some.inj hf
    exact rt_z hx hb hr rfl hlocks e9 hP hS dX8_has_14
  · have hf := ite_t c_6 hf
    refine lv_iconst (v := 1) hx hb dX8_has_9 (by decide) ?_
    refine lv_goto (tgt := 14) hx hb dX8_has_10 (by decide) ?_
    have e9 := Option.some.inj hf
    exact rt_z hx hb hr rfl hlocks e9 hP hS dX8_has_14
abbrev rm_X8_bits : Room := { frames := 1, cells := 0, slots := 0, locals := 22 }
set_option maxHeartbeats 8000000 in
set_option maxRecDepth 100000 in
theorem k_X8_bits (l : Launch) (E : Ev) (a0 : Nat → Nat) (N : Nat) (s0 : St) (t0 : Nat → Nat → Int64) (p1 : Int32) (q : (Int32)) (hf : f_X8_bits N p1 = some q) : Ci l yX8_bits wsX8_bits rm_X8_bits E [.ref (a0 0), .int p1] (wX8 E a0 s0 t0) (wX8 E a0 s0 t0) q := by
  unfold f_X8_bits at hf
  intro sz
  refine Met.ofW (cc := cX8_bits) (maxL := 4) (ret := (some .int)) (by decide) rfl ?_
  intro p e s m args below meth c s₁ B hml hv
  obtain ⟨rfl, hsz, hP, hK, hD0, hG, hA, hAB⟩ := start hv
  have hx := B.exec
  have hb := B.bytes
  have hr := B.returns
  have hts := atoms_spec (ws := wsX8_bits) B.pre
  have hown : s.vm.findClass RX8 = some m.cls := findClass_of_methodNamed B.named
  have hlocks := B.notSynchronized
  subst hsz
  generalize va_A (wX8 E a0 s0 t0) s.heap.size = A0 at hD0 hA hAB ⊢
  have hDD : ∀ (s0 : St) (t0 : Nat → Nat → Int64), va_D A0 (wX8 E a0 s0 t0) := fun s0 t0 => vD_addr hD0 rfl
  have hS : va_S A0 s.heap s.heap [] := va_S.rf
  have hl := lv_entry ([.ref (a0 0), .int p1]) (n := 4) (Nat.le_of_ble_eq_true rfl)
  rw [lg_entry_eq]
  generalize (lg_sl ([.ref (a0 0), .int p1]) ++ List.replicate (4 - (lg_sl ([.ref (a0 0), .int p1])).length) Slot.unset).toArray = ls at hl ⊢
  have hl : lv_has ls 4 [(0, .ref (a0 0)), (1, .int p1)] := hl
  have hL_4 : ∀ (v1 : Int32) (n_4 : Nat) (v2 : Int32) (v3 : Int32), l_X8_bits_4 N v1 n_4 v2 v3 = some q → ∀ (H : Heap) (locs : List Loc) (ls : Array Slot), va_P E.1 vwCl (wX8 E a0 s0 t0) H → va_S A0 s.heap H locs → lv_has ls 4 [(0, .ref (a0 0)), (1, .int v1), (2, .int v2), (3, .int v3)] → W p l e rm_X8_bits s m ([.ref (a0 0), .int p1] : List Value).toArray below meth c H locs 0 0 (MQ below (va_Qi (fun (r' : Int32) (_ : Unit) => r' = q) (fun _ t => va_P E.1 vwCl (wX8 E a0 s0 t0) t.heap) A0) ([.ref (a0 0), .int p1] : List Value).toArray s 0 0 A0) (F0 m 4 ls []) := by
    intro v1 n_4
    induction n_4 with
    | zero => intro v2 v3 hf; rw [l_X8_bits_4] at hf; cases hf
    | succ n_4 ih_4 =>
      intro v2 v3 hf H locs ls hP hS hl
      rw [l_X8_bits_4] at hf
      refine lv_iload_n hx hb dX8_bits_4 rfl (lv_at hl 3 rfl) ?_
      refine lv_bipush (v := 8) hx hb dX8_bits_5 (by decide) ?_
      refine lv_icmp_ge (tgt := 33) hx hb dX8_bits_7 (by decide) (fun c_7 => ?_) (fun c_7 => ?_)
      · have hf := ite_t c_7 hf
        refine lv_iload_n hx hb dX8_bits_33 rfl (lv_at hl 2 rfl) ?_
        have e9 := Option.some.inj hf
        exact rt_i hx hb hr hlocks e9 hP hS dX8_bits_34
      · have hf := ite_f c_7 hf
        refine lv_iload_n hx hb dX8_bits_10 rfl (lv_at hl 2 rfl) ?_
        refine lv_aload_n hx hb dX8_bits_11 rfl (lv_at hl 0 rfl) ?_
        refine lv_iload_n hx hb dX8_bits_12 rfl (lv_at hl 1 rfl) ?_
        refine lv_iload_n hx hb dX8_bits_13 rfl (lv_at hl 3 rfl) ?_
        obtain ⟨q14, hc_14, hf⟩ := cl_e hf
        refine fin_i (E := E) (wc := wX8 E a0 s0 t0) (wc' := wX8 E a0 s0 t0) (va_runV (As := [.int v1, .int v3]) (rest := [.int v2]) ⟨hx, hb, hml, hown, hts⟩ (k_X8_has l E a0 N s0 t0 v1 v3 q14 hc_14 _) (cwV 2 hts gX8_bits_X8_has rfl rfl rfl (by decide +kernel) ⟨(Nat.le_of_ble_eq_true rfl), (Nat.le_of_ble_eq_true rfl)⟩) (pre_v (ci := 8) (q0 := 0) hK hP (hDD s0 t0) hS hG hAB rfl rfl) rfl rfl hl.1 rfl (lv_room (Nat.le_of_ble_eq_true rfl)) dX8_bits_14 ⟨Nat.zero_le _, Nat.zero_le _⟩) hS (w_free (hDD s0 t0) hS hA (fun _ h => h)) (fun H locs hP1 hk hS => ?_)
        have hP := hP1
        refine lv_if_eq (tgt := 24) hx hb dX8_bits_17 (by decide) (fun c_17 => ?_) (fun c_17 => ?_)
        · have hf := ite_t c_17 hf
          refine lv_iconst (v := 0) hx hb dX8_bits_24 (by decide) ?_
          refine lv_iadd hx hb dX8_bits_25 ?_
          refine lv_topi (fun x26 e_x26 => ?_)
          have hf := nm_e e_x26 hf
          refine lv_istore_n (lv' := [(2, .int x26), (0, .ref (a0 0)), (1, .int v1), (3, .int v3)]) hx hb dX8_bits_26 rfl hl (Nat.le_of_ble_eq_true rfl) rfl (fun ls hl => ?_)
          obtain ⟨x27, e_x27⟩ : ∃ y : Int32, y = v3 + 1 := ⟨_, rfl⟩
          have hf := nm_e e_x27 hf
          refine lv_iinc (v := x27) (lv' := [(3, .int x27), (2, .int x26), (0, .ref (a0 0)), (1, .int v1)]) hx hb dX8_bits_27 hl (k := 3) rfl (by rw [e_x27]; rfl) (Nat.le_of_ble_eq_true rfl) rfl (fun ls hl => ?_)
          refine lv_goto (tgt := 4) hx hb dX8_bits_30 (by decide) ?_
          exact ih_4 x26 x27 hf _ _ _ hP hS (lv_sub hl [2, 3, 1, 0] rfl)
        · have hf := ite_f c_17 hf
          refine lv_iconst (v := 1) hx hb dX8_bits_20 (by decide) ?_
          refine lv_goto (tgt := 25) hx hb dX8_bits_21 (by decide) ?_
          refine lv_iadd hx hb dX8_bits_25 ?_
          refine lv_topi (fun x26 e_x26 => ?_)
          have hf := nm_e e_x26 hf
          refine lv_istore_n (lv' := [(2, .int x26), (0, .ref (a0 0)), (1, .int v1), (3, .int v3)]) hx hb dX8_bits_26 rfl hl (Nat.le_of_ble_eq_true rfl) rfl (fun ls hl => ?_)
          obtain ⟨x27, e_x27⟩ : ∃ y : Int32, y = v3 + 1 := ⟨_, rfl⟩
          have hf := nm_e e_x27 hf
          refine lv_iinc (v := x27) (lv' := [(3, .int x27), (2, .int x26), (0, .ref (a0 0)), (1, .int v1)]) hx hb dX8_bits_27 hl (k := 3) rfl (by rw [e_x27]; rfl) (Nat.le_of_ble_eq_true rfl) rfl (fun ls hl => ?_)
          refine lv_goto (tgt := 4) hx hb dX8_bits_30 (by decide) ?_
          exact ih_4 x26 x27 hf _ _ _ hP hS (lv_sub hl [2, 3, 1, 0] rfl)
  refine lv_iconst (v := 0) hx hb dX8_bits_0 (by decide) ?_
  refine lv_istore_n (lv' := [(2, .int 0), (0, .ref (a0 0)), (1, .int p1)]) hx hb dX8_bits_1 rfl hl (Nat.le_of_ble_eq_true rfl) rfl (fun ls hl => ?_)
  refine lv_iconst (v := 0) hx hb dX8_bits_2 (by decide) ?_
  refine lv_istore_n (lv' := [(3, .int 0), (2, .int 0), (0, .ref (a0 0)), (1, .int p1)]) hx hb dX8_bits_3 rfl hl (Nat.le_of_ble_eq_true rfl) rfl (fun ls hl => ?_)
  exact hL_4 p1 N 0 0 hf _ _ _ hP hS (lv_sub hl [2, 3, 1, 0] rfl)
abbrev rm_X8_isThing : Room := { frames := 1, cells := 0, slots := 0, locals := 23 }
theorem m_X8_isThing_acbb5e : Cond.fieldLink RX8 7 "PickedMatchModel" "things" "I" ∈ wsX8_isThing := by decide +kernel
theorem i_X8_isThing_X8 : ∀ w ∈ wsX80, w ∈ wsX8_isThing := fun _ h => List.mem_cons_of_mem _ (List.mem_append_right _ h)
set_option maxHeartbeats 8000000 in
set_option maxRecDepth 100000 in
theorem k_X8_isThing (l : Launch) (E : Ev) (a0 : Nat → Nat) (N : Nat) (s0 : St) (t0 : Nat → Nat → Int64) (p1 : Int32) (q : (Int32)) (hf : f_X8_isThing N s0 p1 = some q) : Ci l yX8_isThing wsX8_isThing rm_X8_isThing E [.ref (a0 0), .int p1] (wX8 E a0 s0 t0) (wX8 E a0 s0 t0) q := by
  unfold f_X8_isThing at hf
  intro sz
  refine Met.ofW (cc := cX8_isThing) (maxL := 2) (ret := (some .boolean)) (by decide) rfl ?_
  intro p e s m args below meth c s₁ B hml hv
  obtain ⟨rfl, hsz, hP, hK, hD0, hG, hA, hAB⟩ := start hv
  have hx := B.exec
  have hb := B.bytes
  have hr := B.returns
  have hts := atoms_spec (ws := wsX8_isThing) B.pre
  have hown : s.vm.findClass RX8 = some m.cls := findClass_of_methodNamed B.named
  have hlocks := B.notSynchronized
  subst hsz
  generalize va_A (wX8 E a0 s0 t0) s.heap.size = A0 at hD0 hA hAB ⊢
  have hDD : ∀ (s0 : St) (t0 : Nat → Nat → Int64), va_D A0 (wX8 E a0 s0 t0) := fun s0 t0 => vD_addr hD0 rfl
  have hS : va_S A0 s.heap s.heap [] := va_S.rf
  have hl := lv_entry ([.ref (a0 0), .int p1]) (n := 2) (Nat.le_of_ble_eq_true rfl)
  rw [lg_entry_eq]
  generalize (lg_sl ([.ref (a0 0), .int p1]) ++ List.replicate (2 - (lg_sl ([.ref (a0 0), .int p1])).length) Slot.unset).toArray = ls at hl ⊢
  have hl : lv_has ls 2 [(0, .ref (a0 0)), (1, .int p1)] := hl
  refine lv_aload_n hx hb dX8_isThing_0 rfl (lv_at hl 0 rfl) ?_
  refine lv_iload_n hx hb dX8_isThing_1 rfl (lv_at hl 1 rfl) ?_
  refine lv_iconst (v := 0) hx hb dX8_isThing_2 (by decide) ?_
  refine lv_aload_n hx hb dX8_isThing_3 rfl (lv_at hl 0 rfl) ?_
  refine va_get (ci := 8) (C := RX8) (T := TX8) (N := 67) (v := .int (s0 0 0)) hx hb hts i_X8_isThing_X8 hown hK hP 0 rfl rfl 0 (by decide) (hts _ m_X8_isThing_acbb5e) (fun _ h9 => h9) rfl dX8_isThing_4 ?_
  refine lv_iconst (v := 1) hx hb dX8_isThing_7 (by decide) ?_
  refine lv_isub hx hb dX8_isThing_8 ?_
  obtain ⟨q9, hc_9, hf⟩ := cl_e hf
  refine fin_i (E := E) (wc := wX8 E a0 s0 t0) (wc' := wX8 E a0 s0 t0) (va_runV (As := [.int p1, .int 0, .int ((s0 0 0) - 1)]) (rest := []) ⟨hx, hb, hml, hown, hts⟩ (k_X8_in l E a0 N s0 t0 p1 0 ((s0 0 0) - 1) q9 hc_9 _) (cwV 3 hts gX8_isThing_X8_in rfl rfl rfl (by decide +kernel) ⟨(Nat.le_of_ble_eq_true rfl), (Nat.le_of_ble_eq_true rfl)⟩) (pre_v (ci := 8) (q0 := 0) hK hP (hDD s0 t0) hS hG hAB rfl rfl) rfl rfl hl.1 rfl (lv_room (Nat.le_of_ble_eq_true rfl)) dX8_isThing_9 ⟨Nat.zero_le _, Nat.zero_le _⟩) hS (w_free (hDD s0 t0) hS hA (fun _ h => h)) (fun H locs hP1 hk hS => ?_)
  have hP := hP1
  obtain ⟨hn_12, hf⟩ := cb_e hf
  have e9 := Option.some.inj hf
  exact rt_z hx hb hr (nar_b hn_12) hlocks e9 hP hS dX8_isThing_12
abbrev rm_X8_thing : Room := { frames := 2, cells := 0, slots := 0, locals := 44 }
theorem m_X8_thing_acbb5e : Cond.fieldLink RX8 7 "PickedMatchModel" "things" "I" ∈ wsX8_thing := by decide +kernel
theorem i_X8_thing_X8 : ∀ w ∈ wsX80, w ∈ wsX8_thing := fun _ h => List.mem_cons_of_mem _ (List.mem_append_right _ h)
theorem m_X8_thing_096e14 : Cond.fieldLink RX8 29 "PickedMatchModel" "rows" "[I" ∈ wsX8_thing := by decide +kernel
theorem m_X8_thing_275364 : Cond.fieldLink RX8 19 "PickedMatchModel" "kind" "[I" ∈ wsX8_thing := by decide +kernel
theorem m_X8_thing_7b6120 : Cond.fieldLink RX8 23 "PickedMatchModel" "v" "[I" ∈ wsX8_thing := by decide +kernel
theorem m_X8_thing_fa4c49 : Cond.fieldLink RX8 26 "PickedMatchModel" "marks" "[I" ∈ wsX8_thing := by decide +kernel
set_option maxHeartbeats 8000000 in
set_option maxRecDepth 100000 in
theorem k_X8_thing (l : Launch) (E : Ev) (a0 : Nat → Nat) (N : Nat) (s0 : St) (t0 : Nat → Nat → Int64) (p1 : Int32) (p2 : Int32) (p3 : Int32) (q : (Int32 × St)) (hf : f_X8_thing N s0 p1 p2 p3 = some q) : Ci l yX8_thing wsX8_thing rm_X8_thing E [.ref (a0 0), .int p1, .int p2, .int p3] (wX8 E a0 s0 t0) (wX8 E a0 q.2 t0) q.1 := by
  unfold f_X8_thing at hf
  intro sz
  refine Met.ofW (cc := cX8_thing) (maxL := 5) (ret := (some .int)) (by decide) rfl ?_
  intro p e s m args below meth c s₁ B hml hv
  obtain ⟨rfl, hsz, hP, hK, hD0, hG, hA, hAB⟩ := start hv
  have hx := B.exec
  have hb := B.bytes
  have hr := B.returns
  have hts := atoms_spec (ws := wsX8_thing) B.pre
  have hown : s.vm.findClass RX8 = some m.cls := findClass_of_methodNamed B.named
  have hlocks := B.notSynchronized
  subst hsz
  generalize va_A (wX8 E a0 s0 t0) s.heap.size = A0 at hD0 hA hAB ⊢
  have hDD : ∀ (s0 : St) (t0 : Nat → Nat → Int64), va_D A0 (wX8 E a0 s0 t0) := fun s0 t0 => vD_addr hD0 rfl
  have hS : va_S A0 s.heap s.heap [] := va_S.rf
  have hl := lv_entry ([.ref (a0 0), .int p1, .int p2, .int p3]) (n := 5) (Nat.le_of_ble_eq_true rfl)
  rw [lg_entry_eq]
  generalize (lg_sl ([.ref (a0 0), .int p1, .int p2, .int p3]) ++ List.replicate (5 - (lg_sl ([.ref (a0 0), .int p1, .int p2, .int p3])).length) Slot.unset).toArray = ls at hl ⊢
  have hl : lv_has ls 5 [(0, .ref (a0 0)), (1, .int p1), (2, .int p2), (3, .int p3)] := hl
  have hL_80 : ∀ (n_80 : Nat) (s0 : St) (v4 : Int32), l_X8_thing_80 N n_80 s0 v4 = some q → ∀ (H : Heap) (locs : List Loc) (ls : Array Slot), va_P E.1 vwCl (wX8 E a0 s0 t0) H → va_S A0 s.heap H locs → lv_has ls 5 [(0, .ref (a0 0)), (4, .int v4)] → W p l e rm_X8_thing s m ([.ref (a0 0), .int p1, .int p2, .int p3] : List Value).toArray below meth c H locs 0 0 (MQ below (va_Qi (fun (r' : Int32) (_ : Unit) => r' = q.1) (fun _ t => va_P E.1 vwCl (wX8 E a0 q.2 t0) t.heap) A0) ([.ref (a0 0), .int p1, .int p2, .int p3] : List Value).toArray s 0 0 A0) (F0 m 80 ls []) := by
    intro n_80
    induction n_80 with
    | zero => intro s0 v4 hf; rw [l_X8_thing_80] at hf; cases hf
    | succ n_80 ih_80 =>
      intro s0 v4 hf H locs ls hP hS hl
      rw [l_X8_thing_80] at hf
      refine lv_iload hx hb dX8_thing_80 (lv_at hl 1 rfl) ?_
      refine lv_iconst (v := 4) hx hb dX8_thing_82 (by decide) ?_
      refine lv_icmp_ge (tgt := 107) hx hb dX8_thing_83 (by decide) (fun c_83 => ?_) (fun c_83 => ?_)
      · have hf := ite_t c_83 hf
        refine lv_aload_n hx hb dX8_thing_107 rfl (lv_at hl 0 rfl) ?_
        refine lv_dup hx hb dX8_thing_108 rfl ?_
        refine va_get (ci := 8) (C := RX8) (T := TX8) (N := 67) (v := .int (s0 0 0)) hx hb hts i_X8_thing_X8 hown hK hP 0 rfl rfl 0 (by decide) (hts _ m_X8_thing_acbb5e) (fun _ h9 => h9) rfl dX8_thing_109 ?_
        refine lv_iconst (v := 1) hx hb dX8_thing_112 (by decide) ?_
        refine lv_iadd hx hb dX8_thing_113 ?_
        refine va_put (ci := 8) (v := .int ((s0 0 0) + 1)) (ty := .int) (C := RX8) (T := TX8) (N := 67) hx hb hts i_X8_thing_X8 tyX8 tyX8_ok nmX8 hown hK hP (hDD s0 t0) hS 0 rfl rfl 0 (by decide) (hts _ m_X8_thing_acbb5e) (fun _ h9 => h9) rfl (by decide +kernel) rfl rfl (Nat.le_of_ble_eq_true rfl) dX8_thing_114 (fun H locs hP _ hS => ?_)
        obtain ⟨s0_114, hP, hf⟩ := nm_st' (P := fun z => va_P E.1 vwCl (wX8 E a0 z t0) H) hf hP
        refine lv_aload_n hx hb dX8_thing_117 rfl (lv_at hl 0 rfl) ?_
        refine va_get (ci := 8) (C := RX8) (T := TX8) (N := 67) (v := .int (s0_114 0 0)) hx hb hts i_X8_thing_X8 hown hK hP 0 rfl rfl 0 (by decide) (hts _ m_X8_thing_acbb5e) (fun _ h9 => h9) rfl dX8_thing_118 ?_
        refine lv_iconst (v := 1) hx hb dX8_thing_121 (by decide) ?_
        refine lv_isub hx hb dX8_thing_122 ?_
        have e9 := Option.some.inj hf
        exact rt_i hx hb hr hlocks (congrArg Prod.fst e9) (by rw [← e9]; exact hP) hS dX8_thing_123
      · have hf := ite_f c_83 hf
        refine lv_aload_n hx hb dX8_thing_86 rfl (lv_at hl 0 rfl) ?_
        refine va_get (ci := 8) (C := RX8) (T := TX8) (N := 67) (v := .ref (a0 4)) hx hb hts i_X8_thing_X8 hown hK hP 0 rfl rfl 6 (by decide) (hts _ m_X8_thing_096e14) (fun _ h9 => h9) rfl dX8_thing_87 ?_
        refine lv_iconst (v := 4) hx hb dX8_thing_90 (by decide) ?_
        refine lv_aload_n hx hb dX8_thing_91 rfl (lv_at hl 0 rfl) ?_
        refine va_get (ci := 8) (C := RX8) (T := TX8) (N := 67) (v := .int (s0 0 0)) hx hb hts i_X8_thing_X8 hown hK hP 0 rfl rfl 0 (by decide) (hts _ m_X8_thing_acbb5e) (fun _ h9 => h9) rfl dX8_thing_92 ?_
        refine lv_imul hx hb dX8_thing_95 ?_
        refine lv_iload hx hb dX8_thing_96 (lv_at hl 1 rfl) ?_
        refine lv_iadd hx hb dX8_thing_98 ?_
        refine lv_iconst (v := 0) hx hb dX8_thing_99 (by decide) ?_
        obtain ⟨h_100, hf⟩ := ck_e hf
        refine va_iast (cA := E.2.1) (n := 24) (f := s0 6) (x := 0) hx hb hK hP (hDD s0 t0) hS 4 0 rfl rfl h_100 dX8_thing_100 (fun H locs hP _ hS => ?_)
        obtain ⟨s0_100, hP, hf⟩ := nm_st' (P := fun z => va_P E.1 vwCl (wX8 E a0 z t0) H) hf hP
        obtain ⟨x101, e_x101⟩ : ∃ y : Int32, y = v4 + 1 := ⟨_, rfl⟩
        have hf := nm_e e_x101 hf
        refine lv_iinc (v := x101) (lv' := [(4, .int x101), (0, .ref (a0 0))]) hx hb dX8_thing_101 hl (k := 1) rfl (by rw [e_x101]; rfl) (Nat.le_of_ble_eq_true rfl) rfl (fun ls hl => ?_)
        refine lv_goto (tgt := 80) hx hb dX8_thing_104 (by decide) ?_
        exact ih_80 s0_100 x101 hf _ _ _ hP hS (lv_sub hl [1, 0] rfl)
  refine lv_aload_n hx hb dX8_thing_0 rfl (lv_at hl 0 rfl) ?_
  refine lv_iload_n hx hb dX8_thing_1 rfl (lv_at hl 1 rfl) ?_
  refine lv_iconst (v := 0) hx hb dX8_thing_2 (by decide) ?_
  refine lv_bipush (v := 6) hx hb dX8_thing_3 (by decide) ?_
  obtain ⟨q5, hc_5, hf⟩ := cl_e hf
  refine fin_i (E := E) (wc := wX8 E a0 s0 t0) (wc' := wX8 E a0 s0 t0) (va_runV (As := [.int p1, .int 0, .int 6]) (rest := []) ⟨hx, hb, hml, hown, hts⟩ (k_X8_in l E a0 N s0 t0 p1 0 6 q5 hc_5 _) (cwV 3 hts gX8_thing_X8_in rfl rfl rfl (by decide +kernel) ⟨(Nat.le_of_ble_eq_true rfl), (Nat.le_of_ble_eq_true rfl)⟩) (pre_v (ci := 8) (q0 := 0) hK hP (hDD s0 t0) hS hG hAB rfl rfl) rfl rfl hl.1 rfl (lv_room (Nat.le_of_ble_eq_true rfl)) dX8_thing_5 ⟨Nat.zero_le _, Nat.zero_le _⟩) hS (w_free (hDD s0 t0) hS hA (fun _ h => h)) (fun H locs hP1 hk hS => ?_)
  have hP := hP1
  refine lv_if_ne (tgt := 13) hx hb dX8_thing_8 (by decide) (fun c_8 => ?_) (fun c_8 => ?_)
  · have hf := ite_f c_8 hf
    refine lv_aload_n hx hb dX8_thing_13 rfl (lv_at hl 0 rfl) ?_
    refine lv_iload_n hx hb dX8_thing_14 rfl (lv_at hl 2 rfl) ?_
    refine lv_iconst (v := 0) hx hb dX8_thing_15 (by decide) ?_
    refine lv_bipush (v := 9) hx hb dX8_thing_16 (by decide) ?_
    obtain ⟨q18, hc_18, hf⟩ := cl_e hf
    refine fin_i (E := E) (wc := wX8 E a0 s0 t0) (wc' := wX8 E a0 s0 t0) (va_runV (As := [.int p2, .int 0, .int 9]) (rest := []) ⟨hx, hb, hml, hown, hts⟩ (k_X8_in l E a0 N s0 t0 p2 0 9 q18 hc_18 _) (cwV 3 hts gX8_thing_X8_in rfl rfl rfl (by decide +kernel) ⟨(Nat.le_of_ble_eq_true rfl), (Nat.le_of_ble_eq_true rfl)⟩) (pre_v (ci := 8) (q0 := 0) hK hP (hDD s0 t0) hS hG hAB rfl rfl) rfl rfl hl.1 rfl (lv_room (Nat.le_of_ble_eq_true rfl)) dX8_thing_18 ⟨Nat.zero_le _, Nat.zero_le _⟩) hS (w_free (hDD s0 t0) hS hA (fun _ h => h)) (fun H locs hP1 hk hS => ?_)
    have hP := hP1
    refine lv_if_eq (tgt := 32) hx hb dX8_thing_21 (by decide) (fun c_21 => ?_) (fun c_21 => ?_)
    · have hf := ite_t c_21 hf
      refine lv_bipush (v := (-2)) hx hb dX8_thing_32 (by decide) ?_
      have e9 := Option.some.inj hf
      exact rt_i hx hb hr hlocks (congrArg Prod.fst e9) (by rw [← e9]; exact hP) hS dX8_thing_34
    · have hf := ite_f c_21 hf
      refine lv_aload_n hx hb dX8_thing_24 rfl (lv_at hl 0 rfl) ?_
      refine lv_iload_n hx hb dX8_thing_25 rfl (lv_at hl 3 rfl) ?_
      obtain ⟨q26, hc_26, hf⟩ := cl_e hf
      refine fin_i (E := E) (wc := wX8 E a0 s0 t0) (wc' := wX8 E a0 s0 t0) (va_runV (As := [.int p3]) (rest := []) ⟨hx, hb, hml, hown, hts⟩ (k_X8_isMarks l E a0 N s0 t0 p3 q26 hc_26 _) (cwV 1 hts gX8_thing_X8_isMarks rfl rfl rfl (by decide +kernel) ⟨(Nat.le_of_ble_eq_true rfl), (Nat.le_of_ble_eq_true rfl)⟩) (pre_v (ci := 8) (q0 := 0) hK hP (hDD s0 t0) hS hG hAB rfl rfl) rfl rfl hl.1 rfl (lv_room (Nat.le_of_ble_eq_true rfl)) dX8_thing_26 ⟨Nat.zero_le _, Nat.zero_le _⟩) hS (w_free (hDD s0 t0) hS hA (fun _ h => h)) (fun H locs hP1 hk hS => ?_)
      have hP := hP1
      refine lv_if_ne (tgt := 35) hx hb dX8_thing_29 (by decide) (fun c_29 => ?_) (fun c_29 => ?_)
      · have hf := ite_f c_29 hf
        refine lv_aload_n hx hb dX8_thing_35 rfl (lv_at hl 0 rfl) ?_
        refine va_get (ci := 8) (C := RX8) (T := TX8) (N := 67) (v := .int (s0 0 0)) hx hb hts i_X8_thing_X8 hown hK hP 0 rfl rfl 0 (by decide) (hts _ m_X8_thing_acbb5e) (fun _ h9 => h9) rfl dX8_thing_36 ?_
        refine lv_bipush (v := 6) hx hb dX8_thing_39 (by decide) ?_
        refine lv_icmp_ne (tgt := 47) hx hb dX8_thing_41 (by decide) (fun c_41 => ?_) (fun c_41 => ?_)
        · have hf := ite_f c_41 hf
          refine lv_aload_n hx hb dX8_thing_47 rfl (lv_at hl 0 rfl) ?_
          refine va_get (ci := 8) (C := RX8) (T := TX8) (N := 67) (v := .ref (a0 1)) hx hb hts i_X8_thing_X8 hown hK hP 0 rfl rfl 3 (by decide) (hts _ m_X8_thing_275364) (fun _ h9 => h9) rfl dX8_thing_48 ?_
          refine lv_aload_n hx hb dX8_thing_51 rfl (lv_at hl 0 rfl) ?_
          refine va_get (ci := 8) (C := RX8) (T := TX8) (N := 67) (v := .int (s0 0 0)) hx hb hts i_X8_thing_X8 hown hK hP 0 rfl rfl 0 (by decide) (hts _ m_X8_thing_acbb5e) (fun _ h9 => h9) rfl dX8_thing_52 ?_
          refine lv_iload_n hx hb dX8_thing_55 rfl (lv_at hl 1 rfl) ?_
          obtain ⟨h_56, hf⟩ := ck_e hf
          refine va_iast (cA := E.2.1) (n := 6) (f := s0 3) (x := p1) hx hb hK hP (hDD s0 t0) hS 1 0 rfl rfl h_56 dX8_thing_56 (fun H locs hP _ hS => ?_)
          obtain ⟨s0_56, hP, hf⟩ := nm_st' (P := fun z => va_P E.1 vwCl (wX8 E a0 z t0) H) hf hP
          refine lv_aload_n hx hb dX8_thing_57 rfl (lv_at hl 0 rfl) ?_
          refine va_get (ci := 8) (C := RX8) (T := TX8) (N := 67) (v := .ref (a0 2)) hx hb hts i_X8_thing_X8 hown hK hP 0 rfl rfl 4 (by decide) (hts _ m_X8_thing_7b6120) (fun _ h9 => h9) rfl dX8_thing_58 ?_
          refine lv_aload_n hx hb dX8_thing_61 rfl (lv_at hl 0 rfl) ?_
          refine va_get (ci := 8) (C := RX8) (T := TX8) (N := 67) (v := .int (s0_56 0 0)) hx hb hts i_X8_thing_X8 hown hK hP 0 rfl rfl 0 (by decide) (hts _ m_X8_thing_acbb5e) (fun _ h9 => h9) rfl dX8_thing_62 ?_
          refine lv_iload_n hx hb dX8_thing_65 rfl (lv_at hl 2 rfl) ?_
          obtain ⟨h_66, hf⟩ := ck_e hf
          refine va_iast (cA := E.2.1) (n := 6) (f := s0_56 4) (x := p2) hx hb hK hP (hDD s0_56 t0) hS 2 0 rfl rfl h_66 dX8_thing_66 (fun H locs hP _ hS => ?_)
          obtain ⟨s0_66, hP, hf⟩ := nm_st' (P := fun z => va_P E.1 vwCl (wX8 E a0 z t0) H) hf hP
          refine lv_aload_n hx hb dX8_thing_67 rfl (lv_at hl 0 rfl) ?_
          refine va_get (ci := 8) (C := RX8) (T := TX8) (N := 67) (v := .ref (a0 3)) hx hb hts i_X8_thing_X8 hown hK hP 0 rfl rfl 5 (by decide) (hts _ m_X8_thing_fa4c49) (fun _ h9 => h9) rfl dX8_thing_68 ?_
          refine lv_aload_n hx hb dX8_thing_71 rfl (lv_at hl 0 rfl) ?_
          refine va_get (ci := 8) (C := RX8) (T := TX8) (N := 67) (v := .int (s0_66 0 0)) hx hb hts i_X8_thing_X8 hown hK hP 0 rfl rfl 0 (by decide) (hts _ m_X8_thing_acbb5e) (fun _ h9 => h9) rfl dX8_thing_72 ?_
          refine lv_iload_n hx hb dX8_thing_75 rfl (lv_at hl 3 rfl) ?_
          obtain ⟨h_76, hf⟩ := ck_e hf
          refine va_iast (cA := E.2.1) (n := 6) (f := s0_66 5) (x := p3) hx hb hK hP (hDD s0_66 t0) hS 3 0 rfl rfl h_76 dX8_thing_76 (fun H locs hP _ hS => ?_)
          obtain ⟨s0_76, hP, hf⟩ := nm_st' (P := fun z => va_P E.1 vwCl (wX8 E a0 z t0) H) hf hP
          refine lv_iconst (v := 0) hx hb dX8_thing_77 (by decide) ?_
          refine lv_istore (lv' := [(4, .int 0), (0, .ref (a0 0)), (1, .int p1), (2, .int p2), (3, .int p3)]) hx hb dX8_thing_78 hl (Nat.le_of_ble_eq_true rfl) rfl (fun ls hl => ?_)
          exact hL_80 N s0_76 0 hf _ _ _ hP hS (lv_sub hl [1, 0] rfl)
        · have hf := ite_t c_41 hf
          refine lv_bipush (v := (-4)) hx hb dX8_thing_44 (by decide) ?_
          have e9 := Option.some.inj hf
          exact rt_i hx hb hr hlocks (congrArg Prod.fst e9) (by rw [← e9]; exact hP) hS dX8_thing_46
      · have hf := ite_t c_29 hf
        refine lv_bipush (v := (-2)) hx hb dX8_thing_32 (by decide) ?_
        have e9 := Option.some.inj hf
        exact rt_i hx hb hr hlocks (congrArg Prod.fst e9) (by rw [← e9]; exact hP) hS dX8_thing_34
  · have hf := ite_t c_8 hf
    refine lv_iconst (v := (-1)) hx hb dX8_thing_11 (by decide) ?_
    have e9 := Option.some.inj hf
    exact rt_i hx hb hr hlocks (congrArg Prod.fst e9) (by rw [← e9]; exact hP) hS dX8_thing_12
abbrev rm_X8_of : Room := { frames := 8, cells := 0, slots := 0, locals := 180 }
theorem m_X8_of_275364 : Cond.fieldLink RX8 19 "PickedMatchModel" "kind" "[I" ∈ wsX8_of := by decide +kernel
theorem i_X8_of_X8 : ∀ w ∈ wsX80, w ∈ wsX8_of := fun _ h => List.mem_cons_of_mem _ (List.mem_append_right _ h)
theorem m_X8_of_7b6120 : Cond.fieldLink RX8 23 "PickedMatchModel" "v" "[I" ∈ wsX8_of := by decide +kernel
theorem m_X8_of_fa4c49 : Cond.fieldLink RX8 26 "PickedMatchModel" "marks" "[I" ∈ wsX8_of := by decide +kernel
set_option maxHeartbeats 8000000 in
set_option maxRecDepth 100000 in
theorem k_X8_of (l : Launch) (E : Ev) (a0 : Nat → Nat) (N : Nat) (s0 : St) (t0 : Nat → Nat → Int64) (p1 : Int32) (p2 : Int32) (q : (Int32 × St)) (hf : f_X8_of N s0 p1 p2 = some q) : Ci l yX8_of wsX8_of rm_X8_of E [.ref (a0 0), .int p1, .int p2] (wX8 E a0 s0 t0) (wX8 E a0 q.2 t0) q.1 := by
  unfold f_X8_of at hf
  intro sz
  refine Met.ofW (cc := cX8_of) (maxL := 3) (ret := (some .int)) (by decide) rfl ?_
  intro p e s m args below meth c s₁ B hml hv
  obtain ⟨rfl, hsz, hP, hK, hD0, hG, hA, hAB⟩ := start hv
  have hx := B.exec
  have hb := B.bytes
  have hr := B.returns
  have hts := atoms_spec (ws := wsX8_of) B.pre
  have hown : s.vm.findClass RX8 = some m.cls := findClass_of_methodNamed B.named
  have hlocks := B.notSynchronized
  subst hsz
  generalize va_A (wX8 E a0 s0 t0) s.heap.size = A0 at hD0 hA hAB ⊢
  have hDD : ∀ (s0 : St) (t0 : Nat → Nat → Int64), va_D A0 (wX8 E a0 s0 t0) := fun s0 t0 => vD_addr hD0 rfl
  have hS : va_S A0 s.heap s.heap [] := va_S.rf
  have hl := lv_entry ([.ref (a0 0), .int p1, .int p2]) (n := 3) (Nat.le_of_ble_eq_true rfl)
  rw [lg_entry_eq]
  generalize (lg_sl ([.ref (a0 0), .int p1, .int p2]) ++ List.replicate (3 - (lg_sl ([.ref (a0 0), .int p1, .int p2])).length) Slot.unset).toArray = ls at hl ⊢
  have hl : lv_has ls 3 [(0, .ref (a0 0)), (1, .int p1), (2, .int p2)] := hl
  refine lv_aload_n hx hb dX8_of_0 rfl (lv_at hl 0 rfl) ?_
  refine lv_iload_n hx hb dX8_of_1 rfl (lv_at hl 1 rfl) ?_
  obtain ⟨q2, hc_2, hf⟩ := cl_e hf
  refine fin_i (E := E) (wc := wX8 E a0 s0 t0) (wc' := wX8 E a0 s0 t0) (va_runV (As := [.int p1]) (rest := []) ⟨hx, hb, hml, hown, hts⟩ (k_X8_isThing l E a0 N s0 t0 p1 q2 hc_2 _) (cwV 1 hts gX8_of_X8_isThing rfl rfl rfl (by decide +kernel) ⟨(Nat.le_of_ble_eq_true rfl), (Nat.le_of_ble_eq_true rfl)⟩) (pre_v (ci := 8) (q0 := 0) hK hP (hDD s0 t0) hS hG hAB rfl rfl) rfl rfl hl.1 rfl (lv_room (Nat.le_of_ble_eq_true rfl)) dX8_of_2 ⟨Nat.zero_le _, Nat.zero_le _⟩) hS (w_free (hDD s0 t0) hS hA (fun _ h => h)) (fun H locs hP1 hk hS => ?_)
  have hP := hP1
  refine lv_if_ne (tgt := 12) hx hb dX8_of_5 (by decide) (fun c_5 => ?_) (fun c_5 => ?_)
  · have hf := ite_f c_5 hf
    refine lv_iload_n hx hb dX8_of_12 rfl (lv_at hl 2 rfl) ?_
    by_cases c_13_0 : p2 = 0
    · have hf := ite_t c_13_0 hf
      refine lv_tableIn (off := 43) (tgt := 56) hx hb dX8_of_13 (by rw [c_13_0]; decide) (by rw [c_13_0]; decide) (by rw [c_13_0]; rfl) (by decide) ?_
      refine lv_aload_n hx hb dX8_of_56 rfl (lv_at hl 0 rfl) ?_
      refine va_get (ci := 8) (C := RX8) (T := TX8) (N := 67) (v := .ref (a0 1)) hx hb hts i_X8_of_X8 hown hK hP 0 rfl rfl 3 (by decide) (hts _ m_X8_of_275364) (fun _ h9 => h9) rfl dX8_of_57 ?_
      refine lv_iload_n hx hb dX8_of_60 rfl (lv_at hl 1 rfl) ?_
      obtain ⟨h_61, hf⟩ := ck_e hf
      refine va_iald (cA := E.2.1) (n := 6) (f := s0 3) hx hb hK hP 1 0 rfl rfl h_61 dX8_of_61 ?_
      have e9 := Option.some.inj hf
      exact rt_i hx hb hr hlocks (congrArg Prod.fst e9) (by rw [← e9]; exact hP) hS dX8_of_62
    · have hf := ite_f c_13_0 hf
      by_cases c_13_1 : p2 = 1
      · have hf := ite_t c_13_1 hf
        refine lv_tableIn (off := 50) (tgt := 63) hx hb dX8_of_13 (by rw [c_13_1]; decide) (by rw [c_13_1]; decide) (by rw [c_13_1]; rfl) (by decide) ?_
        refine lv_aload_n hx hb dX8_of_63 rfl (lv_at hl 0 rfl) ?_
        refine va_get (ci := 8) (C := RX8) (T := TX8) (N := 67) (v := .ref (a0 2)) hx hb hts i_X8_of_X8 hown hK hP 0 rfl rfl 4 (by decide) (hts _ m_X8_of_7b6120) (fun _ h9 => h9) rfl dX8_of_64 ?_
        refine lv_iload_n hx hb dX8_of_67 rfl (lv_at hl 1 rfl) ?_
        obtain ⟨h_68, hf⟩ := ck_e hf
        refine va_iald (cA := E.2.1) (n := 6) (f := s0 4) hx hb hK hP 2 0 rfl rfl h_68 dX8_of_68 ?_
        have e9 := Option.some.inj hf
        exact rt_i hx hb hr hlocks (congrArg Prod.fst e9) (by rw [← e9]; exact hP) hS dX8_of_69
      · have hf := ite_f c_13_1 hf
        by_cases c_13_2 : p2 = 2
        · have hf := ite_t c_13_2 hf
          refine lv_tableIn (off := 57) (tgt := 70) hx hb dX8_of_13 (by rw [c_13_2]; decide) (by rw [c_13_2]; decide) (by rw [c_13_2]; rfl) (by decide) ?_
          refine lv_aload_n hx hb dX8_of_70 rfl (lv_at hl 0 rfl) ?_
          refine va_get (ci := 8) (C := RX8) (T := TX8) (N := 67) (v := .ref (a0 3)) hx hb hts i_X8_of_X8 hown hK hP 0 rfl rfl 5 (by decide) (hts _ m_X8_of_fa4c49) (fun _ h9 => h9) rfl dX8_of_71 ?_
          refine lv_iload_n hx hb dX8_of_74 rfl (lv_at hl 1 rfl) ?_
          obtain ⟨h_75, hf⟩ := ck_e hf
          refine va_iald (cA := E.2.1) (n := 6) (f := s0 5) hx hb hK hP 3 0 rfl rfl h_75 dX8_of_75 ?_
          have e9 := Option.some.inj hf
          exact rt_i hx hb hr hlocks (congrArg Prod.fst e9) (by rw [← e9]; exact hP) hS dX8_of_76
        · have hf := ite_f c_13_2 hf
          by_cases c_13_3 : p2 = 3
          · have hf := ite_t c_13_3 hf
            refine lv_tableIn (off := 64) (tgt := 77) hx hb dX8_of_13 (by rw [c_13_3]; decide) (by rw [c_13_3]; decide) (by rw [c_13_3]; rfl) (by decide) ?_
            refine lv_aload_n hx hb dX8_of_77 rfl (lv_at hl 0 rfl) ?_
            refine lv_iload_n hx hb dX8_of_78 rfl (lv_at hl 1 rfl) ?_
            obtain ⟨q79, hc_79, hf⟩ := cl_e hf
            refine fin_i (E := E) (wc := wX8 E a0 s0 t0) (wc' := wX8 E a0 s0 t0) (va_runV (As := [.int p1]) (rest := []) ⟨hx, hb, hml, hown, hts⟩ (k_X8_placeOf l E a0 N s0 t0 p1 q79 hc_79 _) (cwV 1 hts gX8_of_X8_placeOf rfl rfl rfl (by decide +kernel) ⟨(Nat.le_of_ble_eq_true rfl), (Nat.le_of_ble_eq_true rfl)⟩) (pre_v (ci := 8) (q0 := 0) hK hP (hDD s0 t0) hS hG hAB rfl rfl) rfl rfl hl.1 rfl (lv_room (Nat.le_of_ble_eq_true rfl)) dX8_of_79 ⟨Nat.zero_le _, Nat.zero_le _⟩) hS (w_free (hDD s0 t0) hS hA (fun _ h => h)) (fun H locs hP1 hk hS => ?_)
            have hP := hP1
            have e9 := Option.some.inj hf
            exact rt_i hx hb hr hlocks (congrArg Prod.fst e9) (by rw [← e9]; exact hP) hS dX8_of_82
          · have hf := ite_f c_13_3 hf
            by_cases c_13_4 : p2 = 4
            · have hf := ite_t c_13_4 hf
              refine lv_tableIn (off := 70) (tgt := 83) hx hb dX8_of_13 (by rw [c_13_4]; decide) (by rw [c_13_4]; decide) (by rw [c_13_4]; rfl) (by decide) ?_
              refine lv_aload_n hx hb dX8_of_83 rfl (lv_at hl 0 rfl) ?_
              refine lv_iload_n hx hb dX8_of_84 rfl (lv_at hl 1 rfl) ?_
              obtain ⟨q85, hc_85, hf⟩ := cl_e hf
              refine fin_i (E := E) (wc := wX8 E a0 s0 t0) (wc' := wX8 E a0 q85.2 t0) (va_runV (As := [.int p1]) (rest := []) ⟨hx, hb, hml, hown, hts⟩ (k_X8_taste l E a0 N s0 t0 p1 q85 hc_85 _) (cwV 1 hts gX8_of_X8_taste rfl rfl rfl (by decide +kernel) ⟨(Nat.le_of_ble_eq_true rfl), (Nat.le_of_ble_eq_true rfl)⟩) (pre_v (ci := 8) (q0 := 0) hK hP (hDD s0 t0) hS hG hAB rfl rfl) rfl rfl hl.1 rfl (lv_room (Nat.le_of_ble_eq_true rfl)) dX8_of_85 ⟨Nat.zero_le _, Nat.zero_le _⟩) hS (w_free (hDD s0 t0) hS hA (fun _ h => h)) (fun H locs hP1 hk hS => ?_)
              have hP := hP1
              have e9 := Option.some.inj hf
              exact rt_i hx hb hr hlocks (congrArg Prod.fst e9) (by rw [← e9]; exact hP) hS dX8_of_88
            · have hf := ite_f c_13_4 hf
              by_cases c_13_5 : p2 = 5
              · have hf := ite_t c_13_5 hf
                refine lv_tableIn (off := 76) (tgt := 89) hx hb dX8_of_13 (by rw [c_13_5]; decide) (by rw [c_13_5]; decide) (by rw [c_13_5]; rfl) (by decide) ?_
                refine lv_aload_n hx hb dX8_of_89 rfl (lv_at hl 0 rfl) ?_
                refine lv_iload_n hx hb dX8_of_90 rfl (lv_at hl 1 rfl) ?_
                obtain ⟨q91, hc_91, hf⟩ := cl_e hf
                refine fin_i (E := E) (wc := wX8 E a0 s0 t0) (wc' := wX8 E a0 s0 t0) (va_runV (As := [.int p1]) (rest := []) ⟨hx, hb, hml, hown, hts⟩ (k_X8_alikeOf l E a0 N s0 t0 p1 q91 hc_91 _) (cwV 1 hts gX8_of_X8_alikeOf rfl rfl rfl (by decide +kernel) ⟨(Nat.le_of_ble_eq_true rfl), (Nat.le_of_ble_eq_true rfl)⟩) (pre_v (ci := 8) (q0 := 0) hK hP (hDD s0 t0) hS hG hAB rfl rfl) rfl rfl hl.1 rfl (lv_room (Nat.le_of_ble_eq_true rfl)) dX8_of_91 ⟨Nat.zero_le _, Nat.zero_le _⟩) hS (w_free (hDD s0 t0) hS hA (fun _ h => h)) (fun H locs hP1 hk hS => ?_)
                have hP := hP1
                have e9 := Option.some.inj hf
                exact rt_i hx hb hr hlocks (congrArg Prod.fst e9) (by rw [← e9]; exact hP) hS dX8_of_94
              · have hf := ite_f c_13_5 hf
                by_cases c_13_6 : p2 = 6
                · have hf := ite_t c_13_6 hf
                  refine lv_tableIn (off := 82) (tgt := 95) hx hb dX8_of_13 (by rw [c_13_6]; decide) (by rw [c_13_6]; decide) (by rw [c_13_6]; rfl) (by decide) ?_
                  refine lv_aload_n hx hb dX8_of_95 rfl (lv_at hl 0 rfl) ?_
                  refine lv_iload_n hx hb dX8_of_96 rfl (lv_at hl 1 rfl) ?_
                  obtain ⟨q97, hc_97, hf⟩ := cl_e hf
                  refine fin_i (E := E) (wc := wX8 E a0 s0 t0) (wc' := wX8 E a0 q97.2 t0) (va_runV (As := [.int p1]) (rest := []) ⟨hx, hb, hml, hown, hts⟩ (k_X8_goes l E a0 N s0 t0 p1 q97 hc_97 _) (cwV 1 hts gX8_of_X8_goes rfl rfl rfl (by decide +kernel) ⟨(Nat.le_of_ble_eq_true rfl), (Nat.le_of_ble_eq_true rfl)⟩) (pre_v (ci := 8) (q0 := 0) hK hP (hDD s0 t0) hS hG hAB rfl rfl) rfl rfl hl.1 rfl (lv_room (Nat.le_of_ble_eq_true rfl)) dX8_of_97 ⟨Nat.zero_le _, Nat.zero_le _⟩) hS (w_free (hDD s0 t0) hS hA (fun _ h => h)) (fun H locs hP1 hk hS => ?_)
                  have hP := hP1
                  refine lv_if_eq (tgt := 107) hx hb dX8_of_100 (by decide) (fun c_100 => ?_) (fun c_100 => ?_)
                  · have hf := ite_t c_100 hf
                    refine lv_iconst (v := 0) hx hb dX8_of_107 (by decide) ?_
                    have e9 := Option.some.inj hf
                    exact rt_i hx hb hr hlocks (congrArg Prod.fst e9) (by rw [← e9]; exact hP) hS dX8_of_108
                  · have hf := ite_f c_100 hf
                    refine lv_iconst (v := 1) hx hb dX8_of_103 (by decide) ?_
                    refine lv_goto (tgt := 108) hx hb dX8_of_104 (by decide) ?_
                    have e9 := Option.some.inj hf
                    exact rt_i hx hb hr hlocks (congrArg Prod.fst e9) (by rw [← e9]; exact hP) hS dX8_of_108
                · have hf := ite_f c_13_6 hf
                  refine lv_tableOut (tgt := 109) hx hb dX8_of_13 (by have n0 := lv_neT (a := 0) c_13_0 (by decide); have n1 := lv_neT (a := 1) c_13_1 (by decide); have n2 := lv_neT (a := 2) c_13_2 (by decide); have n3 := lv_neT (a := 3) c_13_3 (by decide); have n4 := lv_neT (a := 4) c_13_4 (by decide); have n5 := lv_neT (a := 5) c_13_5 (by decide); have n6 := lv_neT (a := 6) c_13_6 (by decide); omega) (by decide) ?_
                  refine lv_sipush (v := (-1001)) hx hb dX8_of_109 (by decide) ?_
                  have e9 := Option.some.inj hf
                  exact rt_i hx hb hr hlocks (congrArg Prod.fst e9) (by rw [← e9]; exact hP) hS dX8_of_112
  · have hf := ite_t c_5 hf
    refine lv_sipush (v := (-1001)) hx hb dX8_of_8 (by decide) ?_
    have e9 := Option.some.inj hf
    exact rt_i hx hb hr hlocks (congrArg Prod.fst e9) (by rw [← e9]; exact hP) hS dX8_of_11
abbrev rm_X8_holds : Room := { frames := 3, cells := 0, slots := 0, locals := 67 }
theorem m_X8_holds_33b474 : Cond.fieldLink RX8 65 "PickedMatchModel" "to" "[I" ∈ wsX8_holds := by decide +kernel
theorem i_X8_holds_X8 : ∀ w ∈ wsX80, w ∈ wsX8_holds := fun _ h => List.mem_cons_of_mem _ (List.mem_append_right _ h)
theorem m_X8_holds_5f4298 : Cond.fieldLink RX8 86 "PickedMatchModel" "pile" "[Z" ∈ wsX8_holds := by decide +kernel
theorem m_X8_holds_057380 : Cond.fieldLink RX8 68 "PickedMatchModel" "sign" "[I" ∈ wsX8_holds := by decide +kernel
theorem m_X8_holds_326dcb : Cond.fieldLink RX8 62 "PickedMatchModel" "from" "[I" ∈ wsX8_holds := by decide +kernel
set_option maxHeartbeats 8000000 in
set_option maxRecDepth 100000 in
theorem k_X8_holds (l : Launch) (E : Ev) (a0 : Nat → Nat) (N : Nat) (s0 : St) (t0 : Nat → Nat → Int64) (p1 : Int32) (p2 : Int32) (q : (Int32 × St)) (hf : f_X8_holds N s0 p1 p2 = some q) : Ci l yX8_holds wsX8_holds rm_X8_holds E [.ref (a0 0), .int p1, .int p2] (wX8 E a0 s0 t0) (wX8 E a0 q.2 t0) q.1 := by
  unfold f_X8_holds at hf
  intro sz
  refine Met.ofW (cc := cX8_holds) (maxL := 8) (ret := (some .boolean)) (by decide) rfl ?_
  intro p e s m args below meth c s₁ B hml hv
  obtain ⟨rfl, hsz, hP, hK, hD0, hG, hA, hAB⟩ := start hv
  have hx := B.exec
  have hb := B.bytes
  have hr := B.returns
  have hts := atoms_spec (ws := wsX8_holds) B.pre
  have hown : s.vm.findClass RX8 = some m.cls := findClass_of_methodNamed B.named
  have hlocks := B.notSynchronized
  subst hsz
  generalize va_A (wX8 E a0 s0 t0) s.heap.size = A0 at hD0 hA hAB ⊢
  have hDD : ∀ (s0 : St) (t0 : Nat → Nat → Int64), va_D A0 (wX8 E a0 s0 t0) := fun s0 t0 => vD_addr hD0 rfl
  have hS : va_S A0 s.heap s.heap [] := va_S.rf
  have hl := lv_entry ([.ref (a0 0), .int p1, .int p2]) (n := 8) (Nat.le_of_ble_eq_true rfl)
  rw [lg_entry_eq]
  generalize (lg_sl ([.ref (a0 0), .int p1, .int p2]) ++ List.replicate (8 - (lg_sl ([.ref (a0 0), .int p1, .int p2])).length) Slot.unset).toArray = ls at hl ⊢
  have hl : lv_has ls 8 [(0, .ref (a0 0)), (1, .int p1), (2, .int p2)] := hl
  have hL_10 : ∀ (v1 : Int32) (v2 : Int32) (n_10 : Nat) (s0 : St) (v3 : Int32) (v4 : Int32), l_X8_holds_10 N v1 v2 n_10 s0 v3 v4 = some q → ∀ (H : Heap) (locs : List Loc) (ls : Array Slot), va_P E.1 vwCl (wX8 E a0 s0 t0) H → va_S A0 s.heap H locs → lv_has ls 8 [(0, .ref (a0 0)), (1, .int v1), (2, .int v2), (3, .int v3), (4, .int v4)] → W p l e rm_X8_holds s m ([.ref (a0 0), .int p1, .int p2] : List Value).toArray below meth c H locs 0 0 (MQ below (va_Qi (fun (r' : Int32) (_ : Unit) => r' = q.1) (fun _ t => va_P E.1 vwCl (wX8 E a0 q.2 t0) t.heap) A0) ([.ref (a0 0), .int p1, .int p2] : List Value).toArray s 0 0 A0) (F0 m 10 ls []) := by
    intro v1 v2 n_10
    induction n_10 with
    | zero => intro s0 v3 v4 hf; rw [l_X8_holds_10] at hf; cases hf
    | succ n_10 ih_10 =>
      intro s0 v3 v4 hf H locs ls hP hS hl
      rw [l_X8_holds_10] at hf
      refine lv_iload hx hb dX8_holds_10 (lv_at hl 4 rfl) ?_
      refine lv_aload_n hx hb dX8_holds_12 rfl (lv_at hl 0 rfl) ?_
      refine va_get (ci := 8) (C := RX8) (T := TX8) (N := 67) (v := .ref (a0 11)) hx hb hts i_X8_holds_X8 hown hK hP 0 rfl rfl 18 (by decide) (hts _ m_X8_holds_33b474) (fun _ h9 => h9) rfl dX8_holds_13 ?_
      refine lv_iload_n hx hb dX8_holds_16 rfl (lv_at hl 1 rfl) ?_
      obtain ⟨h_17, hf⟩ := ck_e hf
      refine va_iald (cA := E.2.1) (n := 60) (f := s0 18) hx hb hK hP 11 0 rfl rfl h_17 dX8_holds_17 ?_
      refine lv_icmp_ge (tgt := 243) hx hb dX8_holds_18 (by decide) (fun c_18 => ?_) (fun c_18 => ?_)
      · have hf := ite_t c_18 hf
        refine lv_aload_n hx hb dX8_holds_243 rfl (lv_at hl 0 rfl) ?_
        refine va_get (ci := 8) (C := RX8) (T := TX8) (N := 67) (v := .ref (a0 15)) hx hb hts i_X8_holds_X8 hown hK hP 0 rfl rfl 25 (by decide) (hts _ m_X8_holds_5f4298) (fun _ h9 => h9) rfl dX8_holds_244 ?_
        refine lv_iconst (v := 0) hx hb dX8_holds_247 (by decide) ?_
        obtain ⟨h_248, hf⟩ := ck_e hf
        refine va_zald (cA := E.2.2.2.1) (n := 100) (f := s0 25) hx hb hK hP 15 2 rfl rfl h_248 dX8_holds_248 ?_
        obtain ⟨hn_249, hf⟩ := cb_e hf
        have e9 := Option.some.inj hf
        exact rt_z hx hb hr (nar_b hn_249) hlocks (congrArg Prod.fst e9) (by rw [← e9]; exact hP) hS dX8_holds_249
      · have hf := ite_f c_18 hf
        refine lv_aload_n hx hb dX8_holds_21 rfl (lv_at hl 0 rfl) ?_
        refine va_get (ci := 8) (C := RX8) (T := TX8) (N := 67) (v := .ref (a0 12)) hx hb hts i_X8_holds_X8 hown hK hP 0 rfl rfl 19 (by decide) (hts _ m_X8_holds_057380) (fun _ h9 => h9) rfl dX8_holds_22 ?_
        refine lv_iload hx hb dX8_holds_25 (lv_at hl 4 rfl) ?_
        obtain ⟨h_27, hf⟩ := ck_e hf
        refine va_iald (cA := E.2.1) (n := 600) (f := s0 19) hx hb hK hP 12 0 rfl rfl h_27 dX8_holds_27 ?_
        refine lv_topi (fun x28 e_x28 => ?_)
        have hf := nm_e e_x28 hf
        refine lv_istore (lv' := [(5, .int x28), (0, .ref (a0 0)), (1, .int v1), (2, .int v2), (3, .int v3), (4, .int v4)]) hx hb dX8_holds_28 hl (Nat.le_of_ble_eq_true rfl) rfl (fun ls hl => ?_)
        refine lv_iload hx hb dX8_holds_30 (lv_at hl 0 rfl) ?_
        refine lv_bipush (v := (-33)) hx hb dX8_holds_32 (by decide) ?_
        refine lv_icmp_ne (tgt := 64) hx hb dX8_holds_34 (by decide) (fun c_34 => ?_) (fun c_34 => ?_)
        · have hf := ite_f c_34 hf
          refine lv_iload hx hb dX8_holds_64 (lv_at hl 0 rfl) ?_
          refine lv_if_ge (tgt := 143) hx hb dX8_holds_66 (by decide) (fun c_66 => ?_) (fun c_66 => ?_)
          · have hf := ite_t c_66 hf
            refine lv_aload_n hx hb dX8_holds_143 rfl (lv_at hl 1 rfl) ?_
            refine lv_iload hx hb dX8_holds_144 (lv_at hl 0 rfl) ?_
            refine lv_sipush (v := 1000) hx hb dX8_holds_146 (by decide) ?_
            obtain ⟨hz_149, hf⟩ := cz_e hf
            refine lv_idiv hx hb dX8_holds_149 hz_149 ?_
            refine lv_iload_n hx hb dX8_holds_150 rfl (lv_at hl 3 rfl) ?_
            obtain ⟨q151, hc_151, hf⟩ := cl_e hf
            refine fin_i (E := E) (wc := wX8 E a0 s0 t0) (wc' := wX8 E a0 s0 t0) (va_runV (As := [.int (x28 / 1000), .int v2]) (rest := []) ⟨hx, hb, hml, hown, hts⟩ (k_X8_factOf l E a0 N s0 t0 (x28 / 1000) v2 q151 hc_151 _) (cwV 2 hts gX8_holds_X8_factOf rfl rfl rfl (by decide +kernel) ⟨(Nat.le_of_ble_eq_true rfl), (Nat.le_of_ble_eq_true rfl)⟩) (pre_v (ci := 8) (q0 := 0) hK hP (hDD s0 t0) hS hG hAB rfl rfl) rfl rfl hl.1 rfl (lv_room (Nat.le_of_ble_eq_true rfl)) dX8_holds_151 ⟨Nat.zero_le _, Nat.zero_le _⟩) hS (w_free (hDD s0 t0) hS hA (fun _ h => h)) (fun H locs hP1 hk hS => ?_)
            have hP := hP1
            refine lv_istore (lv' := [(6, .int q151), (5, .int x28), (0, .ref (a0 0)), (1, .int v1), (2, .int v2), (3, .int v3), (4, .int v4)]) hx hb dX8_holds_154 hl (Nat.le_of_ble_eq_true rfl) rfl (fun ls hl => ?_)
            refine lv_iload hx hb dX8_holds_156 (lv_at hl 1 rfl) ?_
            refine lv_bipush (v := 100) hx hb dX8_holds_158 (by decide) ?_
            obtain ⟨hz_160, hf⟩ := cz_e hf
            refine lv_idiv hx hb dX8_holds_160 hz_160 ?_
            refine lv_bipush (v := 10) hx hb dX8_holds_161 (by decide) ?_
            obtain ⟨hz_163, hf⟩ := cz_e hf
            refine lv_irem hx hb dX8_holds_163 hz_163 ?_
            refine lv_topi (fun x164 e_x164 => ?_)
            have hf := nm_e e_x164 hf
            refine lv_istore (lv' := [(7, .int x164), (6, .int q151), (5, .int x28), (0, .ref (a0 0)), (1, .int v1), (2, .int v2), (3, .int v3), (4, .int v4)]) hx hb dX8_holds_164 hl (Nat.le_of_ble_eq_true rfl) rfl (fun ls hl => ?_)
            refine lv_aload_n hx hb dX8_holds_166 rfl (lv_at hl 3 rfl) ?_
            refine va_get (ci := 8) (C := RX8) (T := TX8) (N := 67) (v := .ref (a0 15)) hx hb hts i_X8_holds_X8 hown hK hP 0 rfl rfl 25 (by decide) (hts _ m_X8_holds_5f4298) (fun _ h9 => h9) rfl dX8_holds_167 ?_
            refine lv_iload_n hx hb dX8_holds_170 rfl (lv_at hl 6 rfl) ?_
            refine lv_iload hx hb dX8_holds_171 (lv_at hl 0 rfl) ?_
            refine lv_if_ne (tgt := 194) hx hb dX8_holds_173 (by decide) (fun c_173 => ?_) (fun c_173 => ?_)
            · have hf := ite_f c_173 hf
              refine lv_iload hx hb dX8_holds_194 (lv_at hl 0 rfl) ?_
              refine lv_iconst (v := 1) hx hb dX8_holds_196 (by decide) ?_
              refine lv_icmp_ne (tgt := 218) hx hb dX8_holds_197 (by decide) (fun c_197 => ?_) (fun c_197 => ?_)
              · have hf := ite_f c_197 hf
                refine lv_iload hx hb dX8_holds_218 (lv_at hl 1 rfl) ?_
                refine lv_iload hx hb dX8_holds_220 (lv_at hl 2 rfl) ?_
                refine lv_bipush (v := 100) hx hb dX8_holds_222 (by decide) ?_
                obtain ⟨hz_224, hf⟩ := cz_e hf
                refine lv_irem hx hb dX8_holds_224 hz_224 ?_
                refine lv_icmp_le (tgt := 232) hx hb dX8_holds_225 (by decide) (fun c_225 => ?_) (fun c_225 => ?_)
                · have hf := ite_t c_225 hf
                  refine lv_iconst (v := 0) hx hb dX8_holds_232 (by decide) ?_
                  obtain ⟨h_233, hf⟩ := ck_e hf
                  refine va_zast (cA := E.2.2.2.1) (n := 100) (f := s0 25) (x := 0) hx hb hK hP (hDD s0 t0) hS 15 2 rfl rfl h_233 dX8_holds_233 (fun H locs hP _ hS => ?_)
                  obtain ⟨s0_233, hP, hf⟩ := nm_st' (P := fun z => va_P E.1 vwCl (wX8 E a0 z t0) H) hf hP
                  obtain ⟨x234, e_x234⟩ : ∃ y : Int32, y = v3 + 1 := ⟨_, rfl⟩
                  have hf := nm_e e_x234 hf
                  refine lv_iinc (v := x234) (lv' := [(3, .int x234), (7, .int x164), (6, .int q151), (5, .int x28), (0, .ref (a0 0)), (1, .int v1), (2, .int v2), (4, .int v4)]) hx hb dX8_holds_234 hl (k := 6) rfl (by rw [e_x234]; rfl) (Nat.le_of_ble_eq_true rfl) rfl (fun ls hl => ?_)
                  obtain ⟨x237, e_x237⟩ : ∃ y : Int32, y = v4 + 1 := ⟨_, rfl⟩
                  have hf := nm_e e_x237 hf
                  refine lv_iinc (v := x237) (lv' := [(4, .int x237), (3, .int x234), (7, .int x164), (6, .int q151), (5, .int x28), (0, .ref (a0 0)), (1, .int v1), (2, .int v2)]) hx hb dX8_holds_237 hl (k := 7) rfl (by rw [e_x237]; rfl) (Nat.le_of_ble_eq_true rfl) rfl (fun ls hl => ?_)
                  refine lv_goto (tgt := 10) hx hb dX8_holds_240 (by decide) ?_
                  exact ih_10 s0_233 x234 x237 hf _ _ _ hP hS (lv_sub hl [5, 6, 7, 1, 0] rfl)
                · have hf := ite_f c_225 hf
                  refine lv_iconst (v := 1) hx hb dX8_holds_228 (by decide) ?_
                  refine lv_goto (tgt := 233) hx hb dX8_holds_229 (by decide) ?_
                  obtain ⟨h_233, hf⟩ := ck_e hf
                  refine va_zast (cA := E.2.2.2.1) (n := 100) (f := s0 25) (x := 1) hx hb hK hP (hDD s0 t0) hS 15 2 rfl rfl h_233 dX8_holds_233 (fun H locs hP _ hS => ?_)
                  obtain ⟨s0_233, hP, hf⟩ := nm_st' (P := fun z => va_P E.1 vwCl (wX8 E a0 z t0) H) hf hP
                  obtain ⟨x234, e_x234⟩ : ∃ y : Int32, y = v3 + 1 := ⟨_, rfl⟩
                  have hf := nm_e e_x234 hf
                  refine lv_iinc (v := x234) (lv' := [(3, .int x234), (7, .int x164), (6, .int q151), (5, .int x28), (0, .ref (a0 0)), (1, .int v1), (2, .int v2), (4, .int v4)]) hx hb dX8_holds_234 hl (k := 6) rfl (by rw [e_x234]; rfl) (Nat.le_of_ble_eq_true rfl) rfl (fun ls hl => ?_)
                  obtain ⟨x237, e_x237⟩ : ∃ y : Int32, y = v4 + 1 := ⟨_, rfl⟩
                  have hf := nm_e e_x237 hf
                  refine lv_iinc (v := x237) (lv' := [(4, .int x237), (3, .int x234), (7, .int x164), (6, .int q151), (5, .int x28), (0, .ref (a0 0)), (1, .int v1), (2, .int v2)]) hx hb dX8_holds_237 hl (k := 7) rfl (by rw [e_x237]; rfl) (Nat.le_of_ble_eq_true rfl) rfl (fun ls hl => ?_)
                  refine lv_goto (tgt := 10) hx hb dX8_holds_240 (by decide) ?_
                  exact ih_10 s0_233 x234 x237 hf _ _ _ hP hS (lv_sub hl [5, 6, 7, 1, 0] rfl)
              · have hf := ite_t c_197 hf
                refine lv_iload hx hb dX8_holds_200 (lv_at hl 1 rfl) ?_
                refine lv_iload hx hb dX8_holds_202 (lv_at hl 2 rfl) ?_
                refine lv_bipush (v := 100) hx hb dX8_holds_204 (by decide) ?_
                obtain ⟨hz_206, hf⟩ := cz_e hf
                refine lv_irem hx hb dX8_holds_206 hz_206 ?_
                refine lv_icmp_ne (tgt := 214) hx hb dX8_holds_207 (by decide) (fun c_207 => ?_) (fun c_207 => ?_)
                · have hf := ite_f c_207 hf
                  refine lv_iconst (v := 0) hx hb dX8_holds_214 (by decide) ?_
                  refine lv_goto (tgt := 233) hx hb dX8_holds_215 (by decide) ?_
                  obtain ⟨h_233, hf⟩ := ck_e hf
                  refine va_zast (cA := E.2.2.2.1) (n := 100) (f := s0 25) (x := 0) hx hb hK hP (hDD s0 t0) hS 15 2 rfl rfl h_233 dX8_holds_233 (fun H locs hP _ hS => ?_)
                  obtain ⟨s0_233, hP, hf⟩ := nm_st' (P := fun z => va_P E.1 vwCl (wX8 E a0 z t0) H) hf hP
                  obtain ⟨x234, e_x234⟩ : ∃ y : Int32, y = v3 + 1 := ⟨_, rfl⟩
                  have hf := nm_e e_x234 hf
                  refine lv_iinc (v := x234) (lv' := [(3, .int x234), (7, .int x164), (6, .int q151), (5, .int x28), (0, .ref (a0 0)), (1, .int v1), (2, .int v2), (4, .int v4)]) hx hb dX8_holds_234 hl (k := 6) rfl (by rw [e_x234]; rfl) (Nat.le_of_ble_eq_true rfl) rfl (fun ls hl => ?_)
                  obtain ⟨x237, e_x237⟩ : ∃ y : Int32, y = v4 + 1 := ⟨_, rfl⟩
                  have hf := nm_e e_x237 hf
                  refine lv_iinc (v := x237) (lv' := [(4, .int x237), (3, .int x234), (7, .int x164), (6, .int q151), (5, .int x28), (0, .ref (a0 0)), (1, .int v1), (2, .int v2)]) hx hb dX8_holds_237 hl (k := 7) rfl (by rw [e_x237]; rfl) (Nat.le_of_ble_eq_true rfl) rfl (fun ls hl => ?_)
                  refine lv_goto (tgt := 10) hx hb dX8_holds_240 (by decide) ?_
                  exact ih_10 s0_233 x234 x237 hf _ _ _ hP hS (lv_sub hl [5, 6, 7, 1, 0] rfl)
                · have hf := ite_t c_207 hf
                  refine lv_iconst (v := 1) hx hb dX8_holds_210 (by decide) ?_
                  refine lv_goto (tgt := 233) hx hb dX8_holds_211 (by decide) ?_
                  obtain ⟨h_233, hf⟩ := ck_e hf
                  refine va_zast (cA := E.2.2.2.1) (n := 100) (f := s0 25) (x := 1) hx hb hK hP (hDD s0 t0) hS 15 2 rfl rfl h_233 dX8_holds_233 (fun H locs hP _ hS => ?_)
                  obtain ⟨s0_233, hP, hf⟩ := nm_st' (P := fun z => va_P E.1 vwCl (wX8 E a0 z t0) H) hf hP
                  obtain ⟨x234, e_x234⟩ : ∃ y : Int32, y = v3 + 1 := ⟨_, rfl⟩
                  have hf := nm_e e_x234 hf
                  refine lv_iinc (v := x234) (lv' := [(3, .int x234), (7, .int x164), (6, .int q151), (5, .int x28), (0, .ref (a0 0)), (1, .int v1), (2, .int v2), (4, .int v4)]) hx hb dX8_holds_234 hl (k := 6) rfl (by rw [e_x234]; rfl) (Nat.le_of_ble_eq_true rfl) rfl (fun ls hl => ?_)
                  obtain ⟨x237, e_x237⟩ : ∃ y : Int32, y = v4 + 1 := ⟨_, rfl⟩
                  have hf := nm_e e_x237 hf
                  refine lv_iinc (v := x237) (lv' := [(4, .int x237), (3, .int x234), (7, .int x164), (6, .int q151), (5, .int x28), (0, .ref (a0 0)), (1, .int v1), (2, .int v2)]) hx hb dX8_holds_237 hl (k := 7) rfl (by rw [e_x237]; rfl) (Nat.le_of_ble_eq_true rfl) rfl (fun ls hl => ?_)
                  refine lv_goto (tgt := 10) hx hb dX8_holds_240 (by decide) ?_
                  exact ih_10 s0_233 x234 x237 hf _ _ _ hP hS (lv_sub hl [5, 6, 7, 1, 0] rfl)
            · have hf := ite_t c_173 hf
              refine lv_iload hx hb dX8_holds_176 (lv_at hl 1 rfl) ?_
              refine lv_iload hx hb dX8_holds_178 (lv_at hl 2 rfl) ?_
              refine lv_bipush (v := 100) hx hb dX8_holds_180 (by decide) ?_
              obtain ⟨hz_182, hf⟩ := cz_e hf
              refine lv_irem hx hb dX8_holds_182 hz_182 ?_
              refine lv_icmp_ge (tgt := 190) hx hb dX8_holds_183 (by decide) (fun c_183 => ?_) (fun c_183 => ?_)
              · have hf := ite_t c_183 hf
                refine lv_iconst (v := 0) hx hb dX8_holds_190 (by decide) ?_
                refine lv_goto (tgt := 233) hx hb dX8_holds_191 (by decide) ?_
                obtain ⟨h_233, hf⟩ := ck_e hf
                refine va_zast (cA := E.2.2.2.1) (n := 100) (f := s0 25) (x := 0) hx hb hK hP (hDD s0 t0) hS 15 2 rfl rfl h_233 dX8_holds_233 (fun H locs hP _ hS => ?_)
                obtain ⟨s0_233, hP, hf⟩ := nm_st' (P := fun z => va_P E.1 vwCl (wX8 E a0 z t0) H) hf hP
                obtain ⟨x234, e_x234⟩ : ∃ y : Int32, y = v3 + 1 := ⟨_, rfl⟩
                have hf := nm_e e_x234 hf
                refine lv_iinc (v := x234) (lv' := [(3, .int x234), (7, .int x164), (6, .int q151), (5, .int x28), (0, .ref (a0 0)), (1, .int v1), (2, .int v2), (4, .int v4)]) hx hb dX8_holds_234 hl (k := 6) rfl (by rw [e_x234]; rfl) (Nat.le_of_ble_eq_true rfl) rfl (fun ls hl => ?_)
                obtain ⟨x237, e_x237⟩ : ∃ y : Int32, y = v4 + 1 := ⟨_, rfl⟩
                have hf := nm_e e_x237 hf
                refine lv_iinc (v := x237) (lv' := [(4, .int x237), (3, .int x234), (7, .int x164), (6, .int q151), (5, .int x28), (0, .ref (a0 0)), (1, .int v1), (2, .int v2)]) hx hb dX8_holds_237 hl (k := 7) rfl (by rw [e_x237]; rfl) (Nat.le_of_ble_eq_true rfl) rfl (fun ls hl => ?_)
                refine lv_goto (tgt := 10) hx hb dX8_holds_240 (by decide) ?_
                exact ih_10 s0_233 x234 x237 hf _ _ _ hP hS (lv_sub hl [5, 6, 7, 1, 0] rfl)
              · have hf := ite_f c_183 hf
                refine lv_iconst (v := 1) hx hb dX8_holds_186 (by decide) ?_
                refine lv_goto (tgt := 233) hx hb dX8_holds_187 (by decide) ?_
                obtain ⟨h_233, hf⟩ := ck_e hf
                refine va_zast (cA := E.2.2.2.1) (n := 100) (f := s0 25) (x := 1) hx hb hK hP (hDD s0 t0) hS 15 2 rfl rfl h_233 dX8_holds_233 (fun H locs hP _ hS => ?_)
                obtain ⟨s0_233, hP, hf⟩ := nm_st' (P := fun z => va_P E.1 vwCl (wX8 E a0 z t0) H) hf hP
                obtain ⟨x234, e_x234⟩ : ∃ y : Int32, y = v3 + 1 := ⟨_, rfl⟩
                have hf := nm_e e_x234 hf
                refine lv_iinc (v := x234) (lv' := [(3, .int x234), (7, .int x164), (6, .int q151), (5, .int x28), (0, .ref (a0 0)), (1, .int v1), (2, .int v2), (4, .int v4)]) hx hb dX8_holds_234 hl (k := 6) rfl (by rw [e_x234]; rfl) (Nat.le_of_ble_eq_true rfl) rfl (fun ls hl => ?_)
                obtain ⟨x237, e_x237⟩ : ∃ y : Int32, y = v4 + 1 := ⟨_, rfl⟩
                have hf := nm_e e_x237 hf
                refine lv_iinc (v := x237) (lv' := [(4, .int x237), (3, .int x234), (7, .int x164), (6, .int q151), (5, .int x28), (0, .ref (a0 0)), (1, .int v1), (2, .int v2)]) hx hb dX8_holds_237 hl (k := 7) rfl (by rw [e_x237]; rfl) (Nat.le_of_ble_eq_true rfl) rfl (fun ls hl => ?_)
                refine lv_goto (tgt := 10) hx hb dX8_holds_240 (by decide) ?_
                exact ih_10 s0_233 x234 x237 hf _ _ _ hP hS (lv_sub hl [5, 6, 7, 1, 0] rfl)
          · have hf := ite_f c_66 hf
            obtain ⟨x69, e_x69⟩ : ∃ y : Int32, y = v3 + (-1) := ⟨_, rfl⟩
            have hf := nm_e e_x69 hf
            refine lv_iinc (v := x69) (lv' := [(3, .int x69), (5, .int x28), (0, .ref (a0 0)), (1, .int v1), (2, .int v2), (4, .int v4)]) hx hb dX8_holds_69 hl (k := 4) rfl (by rw [e_x69]; rfl) (Nat.le_of_ble_eq_true rfl) rfl (fun ls hl => ?_)
            refine lv_aload_n hx hb dX8_holds_72 rfl (lv_at hl 2 rfl) ?_
            refine va_get (ci := 8) (C := RX8) (T := TX8) (N := 67) (v := .ref (a0 15)) hx hb hts i_X8_holds_X8 hown hK hP 0 rfl rfl 25 (by decide) (hts _ m_X8_holds_5f4298) (fun _ h9 => h9) rfl dX8_holds_73 ?_
            refine lv_iload_n hx hb dX8_holds_76 rfl (lv_at hl 0 rfl) ?_
            refine lv_iconst (v := 1) hx hb dX8_holds_77 (by decide) ?_
            refine lv_isub hx hb dX8_holds_78 ?_
            refine lv_iload hx hb dX8_holds_79 (lv_at hl 1 rfl) ?_
            refine lv_bipush (v := (-38)) hx hb dX8_holds_81 (by decide) ?_
            refine lv_icmp_ne (tgt := 114) hx hb dX8_holds_83 (by decide) (fun c_83 => ?_) (fun c_83 => ?_)
            · have hf := ite_f c_83 hf
              refine lv_aload_n hx hb dX8_holds_114 rfl (lv_at hl 2 rfl) ?_
              refine va_get (ci := 8) (C := RX8) (T := TX8) (N := 67) (v := .ref (a0 15)) hx hb hts i_X8_holds_X8 hown hK hP 0 rfl rfl 25 (by decide) (hts _ m_X8_holds_5f4298) (fun _ h9 => h9) rfl dX8_holds_115 ?_
              refine lv_iload_n hx hb dX8_holds_118 rfl (lv_at hl 0 rfl) ?_
              refine lv_iconst (v := 1) hx hb dX8_holds_119 (by decide) ?_
              refine lv_isub hx hb dX8_holds_120 ?_
              obtain ⟨h_121, hf⟩ := ck_e hf
              refine va_zald (cA := E.2.2.2.1) (n := 100) (f := s0 25) hx hb hK hP 15 2 rfl rfl h_121 dX8_holds_121 ?_
              refine lv_if_ne (tgt := 134) hx hb dX8_holds_122 (by decide) (fun c_122 => ?_) (fun c_122 => ?_)
              · have hf := ite_f c_122 hf
                refine lv_iconst (v := 1) hx hb dX8_holds_134 (by decide) ?_
                refine lv_goto (tgt := 139) hx hb dX8_holds_135 (by decide) ?_
                obtain ⟨h_139, hf⟩ := ck_e hf
                refine va_zast (cA := E.2.2.2.1) (n := 100) (f := s0 25) (x := 1) hx hb hK hP (hDD s0 t0) hS 15 2 rfl rfl h_139 dX8_holds_139 (fun H locs hP _ hS => ?_)
                obtain ⟨s0_139, hP, hf⟩ := nm_st' (P := fun z => va_P E.1 vwCl (wX8 E a0 z t0) H) hf hP
                refine lv_goto (tgt := 237) hx hb dX8_holds_140 (by decide) ?_
                obtain ⟨x237, e_x237⟩ : ∃ y : Int32, y = v4 + 1 := ⟨_, rfl⟩
                have hf := nm_e e_x237 hf
                refine lv_iinc (v := x237) (lv' := [(4, .int x237), (3, .int x69), (5, .int x28), (0, .ref (a0 0)), (1, .int v1), (2, .int v2)]) hx hb dX8_holds_237 hl (k := 5) rfl (by rw [e_x237]; rfl) (Nat.le_of_ble_eq_true rfl) rfl (fun ls hl => ?_)
                refine lv_goto (tgt := 10) hx hb dX8_holds_240 (by decide) ?_
                exact ih_10 s0_139 x69 x237 hf _ _ _ hP hS (lv_sub hl [3, 4, 5, 1, 0] rfl)
              · have hf := ite_t c_122 hf
                refine lv_aload_n hx hb dX8_holds_125 rfl (lv_at hl 2 rfl) ?_
                refine va_get (ci := 8) (C := RX8) (T := TX8) (N := 67) (v := .ref (a0 15)) hx hb hts i_X8_holds_X8 hown hK hP 0 rfl rfl 25 (by decide) (hts _ m_X8_holds_5f4298) (fun _ h9 => h9) rfl dX8_holds_126 ?_
                refine lv_iload_n hx hb dX8_holds_129 rfl (lv_at hl 0 rfl) ?_
                obtain ⟨h_130, hf⟩ := ck_e hf
                refine va_zald (cA := E.2.2.2.1) (n := 100) (f := s0 25) hx hb hK hP 15 2 rfl rfl h_130 dX8_holds_130 ?_
                refine lv_if_eq (tgt := 138) hx hb dX8_holds_131 (by decide) (fun c_131 => ?_) (fun c_131 => ?_)
                · have hf := ite_t c_131 hf
                  refine lv_iconst (v := 0) hx hb dX8_holds_138 (by decide) ?_
                  obtain ⟨h_139, hf⟩ := ck_e hf
                  refine va_zast (cA := E.2.2.2.1) (n := 100) (f := s0 25) (x := 0) hx hb hK hP (hDD s0 t0) hS 15 2 rfl rfl h_139 dX8_holds_139 (fun H locs hP _ hS => ?_)
                  obtain ⟨s0_139, hP, hf⟩ := nm_st' (P := fun z => va_P E.1 vwCl (wX8 E a0 z t0) H) hf hP
                  refine lv_goto (tgt := 237) hx hb dX8_holds_140 (by decide) ?_
                  obtain ⟨x237, e_x237⟩ : ∃ y : Int32, y = v4 + 1 := ⟨_, rfl⟩
                  have hf := nm_e e_x237 hf
                  refine lv_iinc (v := x237) (lv' := [(4, .int x237), (3, .int x69), (5, .int x28), (0, .ref (a0 0)), (1, .int v1), (2, .int v2)]) hx hb dX8_holds_237 hl (k := 5) rfl (by rw [e_x237]; rfl) (Nat.le_of_ble_eq_true rfl) rfl (fun ls hl => ?_)
                  refine lv_goto (tgt := 10) hx hb dX8_holds_240 (by decide) ?_
                  exact ih_10 s0_139 x69 x237 hf _ _ _ hP hS (lv_sub hl [3, 4, 5, 1, 0] rfl)
                · have hf := ite_f c_131 hf
                  refine lv_iconst (v := 1) hx hb dX8_holds_134 (by decide) ?_
                  refine lv_goto (tgt := 139) hx hb dX8_holds_135 (by decide) ?_
                  obtain ⟨h_139, hf⟩ := ck_e hf
                  refine va_zast (cA := E.2.2.2.1) (n := 100) (f := s0 25) (x := 1) hx hb hK hP (hDD s0 t0) hS 15 2 rfl rfl h_139 dX8_holds_139 (fun H locs hP _ hS => ?_)
                  obtain ⟨s0_139, hP, hf⟩ := nm_st' (P := fun z => va_P E.1 vwCl (wX8 E a0 z t0) H) hf hP
                  refine lv_goto (tgt := 237) hx hb dX8_holds_140 (by decide) ?_
                  obtain ⟨x237, e_x237⟩ : ∃ y : Int32, y = v4 + 1 := ⟨_, rfl⟩
                  have hf := nm_e e_x237 hf
                  refine lv_iinc (v := x237) (lv' := [(4, .int x237), (3, .int x69), (5, .int x28), (0, .ref (a0 0)), (1, .int v1), (2, .int v2)]) hx hb dX8_holds_237 hl (k := 5) rfl (by rw [e_x237]; rfl) (Nat.le_of_ble_eq_true rfl) rfl (fun ls hl => ?_)
                  refine lv_goto (tgt := 10) hx hb dX8_holds_240 (by decide) ?_
                  exact ih_10 s0_139 x69 x237 hf _ _ _ hP hS (lv_sub hl [3, 4, 5, 1, 0] rfl)
            · have hf := ite_t c_83 hf
              refine lv_aload_n hx hb dX8_holds_86 rfl (lv_at hl 2 rfl) ?_
              refine va_get (ci := 8) (C := RX8) (T := TX8) (N := 67) (v := .ref (a0 15)) hx hb hts i_X8_holds_X8 hown hK hP 0 rfl rfl 25 (by decide) (hts _ m_X8_holds_5f4298) (fun _ h9 => h9) rfl dX8_holds_87 ?_
              refine lv_iload_n hx hb dX8_holds_90 rfl (lv_at hl 0 rfl) ?_
              refine lv_iconst (v := 1) hx hb dX8_holds_91 (by decide) ?_
              refine lv_isub hx hb dX8_holds_92 ?_
              obtain ⟨h_93, hf⟩ := ck_e hf
              refine va_zald (cA := E.2.2.2.1) (n := 100) (f := s0 25) hx hb hK hP 15 2 rfl rfl h_93 dX8_holds_93 ?_
              refine lv_if_eq (tgt := 110) hx hb dX8_holds_94 (by decide) (fun c_94 => ?_) (fun c_94 => ?_)
              · have hf := ite_t c_94 hf
                refine lv_iconst (v := 0) hx hb dX8_holds_110 (by decide) ?_
                refine lv_goto (tgt := 139) hx hb dX8_holds_111 (by decide) ?_
                obtain ⟨h_139, hf⟩ := ck_e hf
                refine va_zast (cA := E.2.2.2.1) (n := 100) (f := s0 25) (x := 0) hx hb hK hP (hDD s0 t0) hS 15 2 rfl rfl h_139 dX8_holds_139 (fun H locs hP _ hS => ?_)
                obtain ⟨s0_139, hP, hf⟩ := nm_st' (P := fun z => va_P E.1 vwCl (wX8 E a0 z t0) H) hf hP
                refine lv_goto (tgt := 237) hx hb dX8_holds_140 (by decide) ?_
                obtain ⟨x237, e_x237⟩ : ∃ y : Int32, y = v4 + 1 := ⟨_, rfl⟩
                have hf := nm_e e_x237 hf
                refine lv_iinc (v := x237) (lv' := [(4, .int x237), (3, .int x69), (5, .int x28), (0, .ref (a0 0)), (1, .int v1), (2, .int v2)]) hx hb dX8_holds_237 hl (k := 5) rfl (by rw [e_x237]; rfl) (Nat.le_of_ble_eq_true rfl) rfl (fun ls hl => ?_)
                refine lv_goto (tgt := 10) hx hb dX8_holds_240 (by decide) ?_
                exact ih_10 s0_139 x69 x237 hf _ _ _ hP hS (lv_sub hl [3, 4, 5, 1, 0] rfl)
              · have hf := ite_f c_94 hf
                refine lv_aload_n hx hb dX8_holds_97 rfl (lv_at hl 2 rfl) ?_
                refine va_get (ci := 8) (C := RX8) (T := TX8) (N := 67) (v := .ref (a0 15)) hx hb hts i_X8_holds_X8 hown hK hP 0 rfl rfl 25 (by decide) (hts _ m_X8_holds_5f4298) (fun _ h9 => h9) rfl dX8_holds_98 ?_
                refine lv_iload_n hx hb dX8_holds_101 rfl (lv_at hl 0 rfl) ?_
                obtain ⟨h_102, hf⟩ := ck_e hf
                refine va_zald (cA := E.2.2.2.1) (n := 100) (f := s0 25) hx hb hK hP 15 2 rfl rfl h_102 dX8_holds_102 ?_
                refine lv_if_eq (tgt := 110) hx hb dX8_holds_103 (by decide) (fun c_103 => ?_) (fun c_103 => ?_)
                · have hf := ite_t c_103 hf
                  refine lv_iconst (v := 0) hx hb dX8_holds_110 (by decide) ?_
                  refine lv_goto (tgt := 139) hx hb dX8_holds_111 (by decide) ?_
                  obtain ⟨h_139, hf⟩ := ck_e hf
                  refine va_zast (cA := E.2.2.2.1) (n := 100) (f := s0 25) (x := 0) hx hb hK hP (hDD s0 t0) hS 15 2 rfl rfl h_139 dX8_holds_139 (fun H locs hP _ hS => ?_)
                  obtain ⟨s0_139, hP, hf⟩ := nm_st' (P := fun z => va_P E.1 vwCl (wX8 E a0 z t0) H) hf hP
                  refine lv_goto (tgt := 237) hx hb dX8_holds_140 (by decide) ?_
                  obtain ⟨x237, e_x237⟩ : ∃ y : Int32, y = v4 + 1 := ⟨_, rfl⟩
                  have hf := nm_e e_x237 hf
                  refine lv_iinc (v := x237) (lv' := [(4, .int x237), (3, .int x69), (5, .int x28), (0, .ref (a0 0)), (1, .int v1), (2, .int v2)]) hx hb dX8_holds_237 hl (k := 5) rfl (by rw [e_x237]; rfl) (Nat.le_of_ble_eq_true rfl) rfl (fun ls hl => ?_)
                  refine lv_goto (tgt := 10) hx hb dX8_holds_240 (by decide) ?_
                  exact ih_10 s0_139 x69 x237 hf _ _ _ hP hS (lv_sub hl [3, 4, 5, 1, 0] rfl)
                · have hf := ite_f c_103 hf
                  refine lv_iconst (v := 1) hx hb dX8_holds_106 (by decide) ?_
                  refine lv_goto (tgt := 139) hx hb dX8_holds_107 (by decide) ?_
                  obtain ⟨h_139, hf⟩ := ck_e hf
                  refine va_zast (cA := E.2.2.2.1) (n := 100) (f := s0 25) (x := 1) hx hb hK hP (hDD s0 t0) hS 15 2 rfl rfl h_139 dX8_holds_139 (fun H locs hP _ hS => ?_)
                  obtain ⟨s0_139, hP, hf⟩ := nm_st' (P := fun z => va_P E.1 vwCl (wX8 E a0 z t0) H) hf hP
                  refine lv_goto (tgt := 237) hx hb dX8_holds_140 (by decide) ?_
                  obtain ⟨x237, e_x237⟩ : ∃ y : Int32, y = v4 + 1 := ⟨_, rfl⟩
                  have hf := nm_e e_x237 hf
                  refine lv_iinc (v := x237) (lv' := [(4, .int x237), (3, .int x69), (5, .int x28), (0, .ref (a0 0)), (1, .int v1), (2, .int v2)]) hx hb dX8_holds_237 hl (k := 5) rfl (by rw [e_x237]; rfl) (Nat.le_of_ble_eq_true rfl) rfl (fun ls hl => ?_)
                  refine lv_goto (tgt := 10) hx hb dX8_holds_240 (by decide) ?_
                  exact ih_10 s0_139 x69 x237 hf _ _ _ hP hS (lv_sub hl [3, 4, 5, 1, 0] rfl)
        · have hf := ite_t c_34 hf
          refine lv_aload_n hx hb dX8_holds_37 rfl (lv_at hl 1 rfl) ?_
          refine va_get (ci := 8) (C := RX8) (T := TX8) (N := 67) (v := .ref (a0 15)) hx hb hts i_X8_holds_X8 hown hK hP 0 rfl rfl 25 (by decide) (hts _ m_X8_holds_5f4298) (fun _ h9 => h9) rfl dX8_holds_38 ?_
          refine lv_iload_n hx hb dX8_holds_41 rfl (lv_at hl 4 rfl) ?_
          refine lv_iconst (v := 1) hx hb dX8_holds_42 (by decide) ?_
          refine lv_isub hx hb dX8_holds_43 ?_
          refine lv_aload_n hx hb dX8_holds_44 rfl (lv_at hl 1 rfl) ?_
          refine va_get (ci := 8) (C := RX8) (T := TX8) (N := 67) (v := .ref (a0 15)) hx hb hts i_X8_holds_X8 hown hK hP 0 rfl rfl 25 (by decide) (hts _ m_X8_holds_5f4298) (fun _ h9 => h9) rfl dX8_holds_45 ?_
          refine lv_iload_n hx hb dX8_holds_48 rfl (lv_at hl 4 rfl) ?_
          refine lv_iconst (v := 1) hx hb dX8_holds_49 (by decide) ?_
          refine lv_isub hx hb dX8_holds_50 ?_
          obtain ⟨h_51, hf⟩ := ck_e hf
          refine va_zald (cA := E.2.2.2.1) (n := 100) (f := s0 25) hx hb hK hP 15 2 rfl rfl h_51 dX8_holds_51 ?_
          refine lv_if_ne (tgt := 59) hx hb dX8_holds_52 (by decide) (fun c_52 => ?_) (fun c_52 => ?_)
          · have hf := ite_f c_52 hf
            refine lv_iconst (v := 0) hx hb dX8_holds_59 (by decide) ?_
            obtain ⟨h_60, hf⟩ := ck_e hf
            refine va_zast (cA := E.2.2.2.1) (n := 100) (f := s0 25) (x := 0) hx hb hK hP (hDD s0 t0) hS 15 2 rfl rfl h_60 dX8_holds_60 (fun H locs hP _ hS => ?_)
            obtain ⟨s0_60, hP, hf⟩ := nm_st' (P := fun z => va_P E.1 vwCl (wX8 E a0 z t0) H) hf hP
            refine lv_goto (tgt := 237) hx hb dX8_holds_61 (by decide) ?_
            obtain ⟨x237, e_x237⟩ : ∃ y : Int32, y = v4 + 1 := ⟨_, rfl⟩
            have hf := nm_e e_x237 hf
            refine lv_iinc (v := x237) (lv' := [(4, .int x237), (5, .int x28), (0, .ref (a0 0)), (1, .int v1), (2, .int v2), (3, .int v3)]) hx hb dX8_holds_237 hl (k := 5) rfl (by rw [e_x237]; rfl) (Nat.le_of_ble_eq_true rfl) rfl (fun ls hl => ?_)
            refine lv_goto (tgt := 10) hx hb dX8_holds_240 (by decide) ?_
            exact ih_10 s0_60 v3 x237 hf _ _ _ hP hS (lv_sub hl [2, 3, 4, 5, 0] rfl)
          · have hf := ite_t c_52 hf
            refine lv_iconst (v := 1) hx hb dX8_holds_55 (by decide) ?_
            refine lv_goto (tgt := 60) hx hb dX8_holds_56 (by decide) ?_
            obtain ⟨h_60, hf⟩ := ck_e hf
            refine va_zast (cA := E.2.2.2.1) (n := 100) (f := s0 25) (x := 1) hx hb hK hP (hDD s0 t0) hS 15 2 rfl rfl h_60 dX8_holds_60 (fun H locs hP _ hS => ?_)
            obtain ⟨s0_60, hP, hf⟩ := nm_st' (P := fun z => va_P E.1 vwCl (wX8 E a0 z t0) H) hf hP
            refine lv_goto (tgt := 237) hx hb dX8_holds_61 (by decide) ?_
            obtain ⟨x237, e_x237⟩ : ∃ y : Int32, y = v4 + 1 := ⟨_, rfl⟩
            have hf := nm_e e_x237 hf
            refine lv_iinc (v := x237) (lv' := [(4, .int x237), (5, .int x28), (0, .ref (a0 0)), (1, .int v1), (2, .int v2), (3, .int v3)]) hx hb dX8_holds_237 hl (k := 5) rfl (by rw [e_x237]; rfl) (Nat.le_of_ble_eq_true rfl) rfl (fun ls hl => ?_)
            refine lv_goto (tgt := 10) hx hb dX8_holds_240 (by decide) ?_
            exact ih_10 s0_60 v3 x237 hf _ _ _ hP hS (lv_sub hl [2, 3, 4, 5, 0] rfl)
  refine lv_iconst (v := 0) hx hb dX8_holds_0 (by decide) ?_
  refine lv_istore_n (lv' := [(3, .int 0), (0, .ref (a0 0)), (1, .int p1), (2, .int p2)]) hx hb dX8_holds_1 rfl hl (Nat.le_of_ble_eq_true rfl) rfl (fun ls hl => ?_)
  refine lv_aload_n hx hb dX8_holds_2 rfl (lv_at hl 1 rfl) ?_
  refine va_get (ci := 8) (C := RX8) (T := TX8) (N := 67) (v := .ref (a0 10)) hx hb hts i_X8_holds_X8 hown hK hP 0 rfl rfl 17 (by decide) (hts _ m_X8_holds_326dcb) (fun _ h9 => h9) rfl dX8_holds_3 ?_
  refine lv_iload_n hx hb dX8_holds_6 rfl (lv_at hl 2 rfl) ?_
  obtain ⟨h_7, hf⟩ := ck_e hf
  refine va_iald (cA := E.2.1) (n := 60) (f := s0 17) hx hb hK hP 10 0 rfl rfl h_7 dX8_holds_7 ?_
  refine lv_topi (fun x8 e_x8 => ?_)
  have hf := nm_e e_x8 hf
  refine lv_istore (lv' := [(4, .int x8), (3, .int 0), (0, .ref (a0 0)), (1, .int p1), (2, .int p2)]) hx hb dX8_holds_8 hl (Nat.le_of_ble_eq_true rfl) rfl (fun ls hl => ?_)
  exact hL_10 p1 p2 N s0 0 x8 hf _ _ _ hP hS (lv_sub hl [2, 3, 4, 1, 0] rfl)
abbrev rm_X2_isHad : Room := { frames := 0, cells := 0, slots := 0, locals := 0 }
theorem m_X2_isHad_8162d6 : Cond.fieldLink RX2 45 "PickedMatch$Scene" "hadBits" "I" ∈ wsX2_isHad := by decide +kernel
theorem i_X2_isHad_X2 : ∀ w ∈ wsX20, w ∈ wsX2_isHad := fun _ h => List.mem_cons_of_mem _ (List.mem_append_right _ h)
set_option maxHeartbeats 8000000 in
set_option maxRecDepth 100000 in
theorem k_X2_isHad (l : Launch) (E : Ev) (a0 : Nat → Nat) (L : List SR) (N : Nat) (s0 : St) (h0 : Option SR) (p1 : Int32) (q : (Int32)) (hf : f_X2_isHad N s0 p1 = some q) : Ci l yX2_isHad wsX2_isHad rm_X2_isHad E [.ref (a0 0), .int p1] ((wX2 E a0 s0 h0) ++ sW E.2.1 L) ((wX2 E a0 s0 h0) ++ sW E.2.1 L) q := by
  unfold f_X2_isHad at hf
  intro sz
  refine Met.ofW (cc := cX2_isHad) (maxL := 2) (ret := (some .boolean)) (by decide) rfl ?_
  intro p e s m args below meth c s₁ B hml hv
  obtain ⟨rfl, hsz, hP, hK, hD0, hG, hA, hAB⟩ := start hv
  have hx := B.exec
  have hb := B.bytes
  have hr := B.returns
  have hts := atoms_spec (ws := wsX2_isHad) B.pre
  have hown : s.vm.findClass RX2 = some m.cls := findClass_of_methodNamed B.named
  have hlocks := B.notSynchronized
  subst hsz
  generalize va_A ((wX2 E a0 s0 h0) ++ sW E.2.1 L) s.heap.size = A0 at hD0 hA hAB ⊢
  have hDD : ∀ (s0 : St) (h0 : Option SR), va_D A0 ((wX2 E a0 s0 h0) ++ sW E.2.1 L) := fun s0 h0 => vD_addr hD0 rfl
  have hS : va_S A0 s.heap s.heap [] := va_S.rf
  have hl := lv_entry ([.ref (a0 0), .int p1]) (n := 2) (Nat.le_of_ble_eq_true rfl)
  rw [lg_entry_eq]
  generalize (lg_sl ([.ref (a0 0), .int p1]) ++ List.replicate (2 - (lg_sl ([.ref (a0 0), .int p1])).length) Slot.unset).toArray = ls at hl ⊢
  have hl : lv_has ls 2 [(0, .ref (a0 0)), (1, .int p1)] := hl
  refine lv_aload_n hx hb dX2_isHad_0 rfl (lv_at hl 0 rfl) ?_
  refine va_get (ci := 2) (C := RX2) (T := TX2) (N := 11) (v := .int (s0 7 0)) hx hb hts i_X2_isHad_X2 hown hK hP 0 rfl rfl 7 (by decide) (hts _ m_X2_isHad_8162d6) (fun _ h9 => h9) rfl dX2_isHad_1 ?_
  refine lv_iload_n hx hb dX2_isHad_4 rfl (lv_at hl 1 rfl) ?_
  refine lv_ishr hx hb dX2_isHad_5 ?_
  refine lv_iconst (v := 1) hx hb dX2_isHad_6 (by decide) ?_
  refine lv_iand hx hb dX2_isHad_7 ?_
  refine lv_iconst (v := 1) hx hb dX2_isHad_8 (by decide) ?_
  refine lv_icmp_ne (tgt := 16) hx hb dX2_isHad_9 (by decide) (fun c_9 => ?_) (fun c_9 => ?_)
  · have hf := ite_f c_9 hf
    refine lv_iconst (v := 0) hx hb dX2_isHad_16 (by decide) ?_
    have e9 := Option.some.inj hf
    exact rt_z hx hb hr rfl hlocks e9 hP hS dX2_isHad_17
  · have hf := ite_t c_9 hf
    refine lv_iconst (v := 1) hx hb dX2_isHad_12 (by decide) ?_
    refine lv_goto (tgt := 17) hx hb dX2_isHad_13 (by decide) ?_
    have e9 := Option.some.inj hf
    exact rt_z hx hb hr rfl hlocks e9 hP hS dX2_isHad_17
abbrev rm_J6_bitCount_0f7a4 : Room := { frames := 0, cells := 0, slots := 0, locals := 0 }
theorem m_J6_bitCount_0f7a4_26b928 : Cond.constant RJ6 265 (1431655765) ∈ wsJ6_bitCount_0f7a4 := by decide +kernel
theorem m_J6_bitCount_0f7a4_bc8731 : Cond.constant RJ6 266 (858993459) ∈ wsJ6_bitCount_0f7a4 := by decide +kernel
theorem m_J6_bitCount_0f7a4_45cf28 : Cond.constant RJ6 267 (252645135) ∈ wsJ6_bitCount_0f7a4 := by decide +kernel
set_option maxHeartbeats 8000000 in
set_option maxRecDepth 100000 in
theorem k_J6_bitCount_0f7a4 (l : Launch) (E : Ev) (N : Nat) (p0 : Int32) (q : (Int32)) (hf : f_J6_bitCount_0f7a4 N p0 = some q) : Ci l yJ6_bitCount_0f7a4 wsJ6_bitCount_0f7a4 rm_J6_bitCount_0f7a4 E [.int p0] (([] : va_W)) (([] : va_W)) q := by
  unfold f_J6_bitCount_0f7a4 at hf
  intro sz
  refine Met.ofW (cc := cJ6_bitCount_0f7a4) (maxL := 1) (ret := (some .int)) (by decide) rfl ?_
  intro p e s m args below meth c s₁ B hml hv
  obtain ⟨rfl, hsz, hP, hK, hD0, hG, hA, hAB⟩ := start hv
  have hx := B.exec
  have hb := B.bytes
  have hr := B.returns
  have hts := atoms_spec (ws := wsJ6_bitCount_0f7a4) B.pre
  have hown : s.vm.findClass RJ6 = some m.cls := findClass_of_methodNamed B.named
  have hlocks := B.notSynchronized
  subst hsz
  generalize va_A (([] : va_W)) s.heap.size = A0 at hD0 hA hAB ⊢
  have hDD : va_D A0 (([] : va_W)) := hD0
  have hS : va_S A0 s.heap s.heap [] := va_S.rf
  have hl := lv_entry ([.int p0]) (n := 1) (Nat.le_of_ble_eq_true rfl)
  rw [lg_entry_eq]
  generalize (lg_sl ([.int p0]) ++ List.replicate (1 - (lg_sl ([.int p0])).length) Slot.unset).toArray = ls at hl ⊢
  have hl : lv_has ls 1 [(0, .int p0)] := hl
  refine lv_iload_n hx hb dJ6_bitCount_0f7a4_0 rfl (lv_at hl 0 rfl) ?_
  refine lv_iload_n hx hb dJ6_bitCount_0f7a4_1 rfl (lv_at hl 0 rfl) ?_
  refine lv_iconst (v := 1) hx hb dJ6_bitCount_0f7a4_2 (by decide) ?_
  refine lv_iushr (v := (p0.toUInt32 >>> ((1 : Int32).toUInt32 &&& Int32.toUInt32 31)).toInt32) hx hb dJ6_bitCount_0f7a4_3 rfl ?_
  refine lv_ldcw (v := 1431655765) hx hb hown (hts _ m_J6_bitCount_0f7a4_26b928) dJ6_bitCount_0f7a4_4 ?_
  refine lv_iand hx hb dJ6_bitCount_0f7a4_7 ?_
  refine lv_isub hx hb dJ6_bitCount_0f7a4_8 ?_
  refine lv_topi (fun x9 e_x9 => ?_)
  have hf := nm_e e_x9 hf
  refine lv_istore_n (lv' := [(0, .int x9)]) hx hb dJ6_bitCount_0f7a4_9 rfl hl (Nat.le_of_ble_eq_true rfl) rfl (fun ls hl => ?_)
  refine lv_iload_n hx hb dJ6_bitCount_0f7a4_10 rfl (lv_at hl 0 rfl) ?_
  refine lv_ldcw (v := 858993459) hx hb hown (hts _ m_J6_bitCount_0f7a4_bc8731) dJ6_bitCount_0f7a4_11 ?_
  refine lv_iand hx hb dJ6_bitCount_0f7a4_14 ?_
  refine lv_iload_n hx hb dJ6_bitCount_0f7a4_15 rfl (lv_at hl 0 rfl) ?_
  refine lv_iconst (v := 2) hx hb dJ6_bitCount_0f7a4_16 (by decide) ?_
  refine lv_iushr (v := (x9.toUInt32 >>> ((2 : Int32).toUInt32 &&& Int32.toUInt32 31)).toInt32) hx hb dJ6_bitCount_0f7a4_17 rfl ?_
  refine lv_ldcw (v := 858993459) hx hb hown (hts _ m_J6_bitCount_0f7a4_bc8731) dJ6_bitCount_0f7a4_18 ?_
  refine lv_iand hx hb dJ6_bitCount_0f7a4_21 ?_
  refine lv_iadd hx hb dJ6_bitCount_0f7a4_22 ?_
  refine lv_topi (fun x23 e_x23 => ?_)
  have hf := nm_e e_x23 hf
  refine lv_istore_n (lv' := [(0, .int x23)]) hx hb dJ6_bitCount_0f7a4_23 rfl hl (Nat.le_of_ble_eq_true rfl) rfl (fun ls hl => ?_)
  refine lv_iload_n hx hb dJ6_bitCount_0f7a4_24 rfl (lv_at hl 0 rfl) ?_
  refine lv_iload_n hx hb dJ6_bitCount_0f7a4_25 rfl (lv_at hl 0 rfl) ?_
  refine lv_iconst (v := 4) hx hb dJ6_bitCount_0f7a4_26 (by decide) ?_
  refine lv_iushr (v := (x23.toUInt32 >>> ((4 : Int32).toUInt32 &&& Int32.toUInt32 31)).toInt32) hx hb dJ6_bitCount_0f7a4_27 rfl ?_
  refine lv_iadd hx hb dJ6_bitCount_0f7a4_28 ?_
  refine lv_ldcw (v := 252645135) hx hb hown (hts _ m_J6_bitCount_0f7a4_45cf28) dJ6_bitCount_0f7a4_29 ?_
  refine lv_iand hx hb dJ6_bitCount_0f7a4_32 ?_
  refine lv_topi (fun x33 e_x33 => ?_)
  have hf := nm_e e_x33 hf
  refine lv_istore_n (lv' := [(0, .int x33)]) hx hb dJ6_bitCount_0f7a4_33 rfl hl (Nat.le_of_ble_eq_true rfl) rfl (fun ls hl => ?_)
  refine lv_iload_n hx hb dJ6_bitCount_0f7a4_34 rfl (lv_at hl 0 rfl) ?_
  refine lv_iload_n hx hb dJ6_bitCount_0f7a4_35 rfl (lv_at hl 0 rfl) ?_
  refine lv_bipush (v := 8) hx hb dJ6_bitCount_0f7a4_36 (by decide) ?_
  refine lv_iushr (v := (x33.toUInt32 >>> ((8 : Int32).toUInt32 &&& Int32.toUInt32 31)).toInt32) hx hb dJ6_bitCount_0f7a4_38 rfl ?_
  refine lv_iadd hx hb dJ6_bitCount_0f7a4_39 ?_
  refine lv_topi (fun x40 e_x40 => ?_)
  have hf := nm_e e_x40 hf
  refine lv_istore_n (lv' := [(0, .int x40)]) hx hb dJ6_bitCount_0f7a4_40 rfl hl (Nat.le_of_ble_eq_true rfl) rfl (fun ls hl => ?_)
  refine lv_iload_n hx hb dJ6_bitCount_0f7a4_41 rfl (lv_at hl 0 rfl) ?_
  refine lv_iload_n hx hb dJ6_bitCount_0f7a4_42 rfl (lv_at hl 0 rfl) ?_
  refine lv_bipush (v := 16) hx hb dJ6_bitCount_0f7a4_43 (by decide) ?_
  refine lv_iushr (v := (x40.toUInt32 >>> ((16 : Int32).toUInt32 &&& Int32.toUInt32 31)).toInt32) hx hb dJ6_bitCount_0f7a4_45 rfl ?_
  refine lv_iadd hx hb dJ6_bitCount_0f7a4_46 ?_
  refine lv_topi (fun x47 e_x47 => ?_)
  have hf := nm_e e_x47 hf
  refine lv_istore_n (lv' := [(0, .int x47)]) hx hb dJ6_bitCount_0f7a4_47 rfl hl (Nat.le_of_ble_eq_true rfl) rfl (fun ls hl => ?_)
  refine lv_iload_n hx hb dJ6_bitCount_0f7a4_48 rfl (lv_at hl 0 rfl) ?_
  refine lv_bipush (v := 63) hx hb dJ6_bitCount_0f7a4_49 (by decide) ?_
  refine lv_iand hx hb dJ6_bitCount_0f7a4_51 ?_
  have e9 := Option.some.inj hf
  exact rt_i hx hb hr hlocks e9 hP hS dJ6_bitCount_0f7a4_52
abbrev rm_X2_needNow : Room := { frames := 0, cells := 0, slots := 0, locals := 0 }
theorem m_X2_needNow_2ad546 : Cond.fieldLink RX2 51 "PickedMatch$Scene" "held" "LPickedMatch$Street;" ∈ wsX2_needNow := by decide +kernel
theorem i_X2_needNow_X2 : ∀ w ∈ wsX20, w ∈ wsX2_needNow := fun _ h => List.mem_cons_of_mem _ (List.mem_append_left _ (List.mem_append_right _ h))
theorem i_X2_needNow_X4 : ∀ w ∈ wsX40, w ∈ wsX2_needNow := fun _ h => List.mem_cons_of_mem _ (List.mem_append_right _ h)
set_option maxHeartbeats 8000000 in
set_option maxRecDepth 100000 in
theorem k_X2_needNow (l : Launch) (E : Ev) (a0 : Nat → Nat) (L : List SR) (N : Nat) (s0 : St) (h0 : Option SR) (q : (Int32)) (hf : f_X2_needNow N L h0 = some q) : Ci l yX2_needNow wsX2_needNow rm_X2_needNow E [.ref (a0 0)] ((wX2 E a0 s0 h0) ++ sW E.2.1 L) ((wX2 E a0 s0 h0) ++ sW E.2.1 L) q := by
  unfold f_X2_needNow at hf
  intro sz
  refine Met.ofW (cc := cX2_needNow) (maxL := 1) (ret := (some .int)) (by decide) rfl ?_
  intro p e s m args below meth c s₁ B hml hv
  obtain ⟨rfl, hsz, hP, hK, hD0, hG, hA, hAB⟩ := start hv
  have hx := B.exec
  have hb := B.bytes
  have hr := B.returns
  have hts := atoms_spec (ws := wsX2_needNow) B.pre
  have hown : s.vm.findClass RX2 = some m.cls := findClass_of_methodNamed B.named
  have hlocks := B.notSynchronized
  subst hsz
  generalize va_A ((wX2 E a0 s0 h0) ++ sW E.2.1 L) s.heap.size = A0 at hD0 hA hAB ⊢
  have hDD : ∀ (s0 : St) (h0 : Option SR), va_D A0 ((wX2 E a0 s0 h0) ++ sW E.2.1 L) := fun s0 h0 => vD_addr hD0 rfl
  have hS : va_S A0 s.heap s.heap [] := va_S.rf
  have hl := lv_entry ([.ref (a0 0)]) (n := 1) (Nat.le_of_ble_eq_true rfl)
  rw [lg_entry_eq]
  generalize (lg_sl ([.ref (a0 0)]) ++ List.replicate (1 - (lg_sl ([.ref (a0 0)])).length) Slot.unset).toArray = ls at hl ⊢
  have hl : lv_has ls 1 [(0, .ref (a0 0))] := hl
  refine lv_aload_n hx hb dX2_needNow_0 rfl (lv_at hl 0 rfl) ?_
  refine va_get (ci := 2) (C := RX2) (T := TX2) (N := 11) (v := hv h0) hx hb hts i_X2_needNow_X2 hown hK hP 0 rfl rfl 9 (by decide) (hts _ m_X2_needNow_2ad546) (fun _ h9 => h9) rfl dX2_needNow_1 ?_
  rcases opt_or h0 with hh_4 | ⟨R4, hh_4⟩
  · have hf := onl_n hh_4 hf
    refine W.eq (g2 := F0 m 4 ls (.null :: [])) (by rw [hh_4]; rfl) ?_
    refine lv_ifnonnullN hx hb dX2_needNow_4 ?_
    refine lv_iconst (v := 1) hx hb dX2_needNow_7 (by decide) ?_
    refine lv_goto (tgt := 18) hx hb dX2_needNow_8 (by decide) ?_
    have e9 := Option.some.inj hf
    exact rt_i hx hb hr hlocks e9 hP hS dX2_needNow_18
  · have hf := onl_s hh_4 hf
    obtain ⟨hR_R4, hf⟩ := cp_e hf
    refine W.eq (g2 := F0 m 4 ls (.ref R4.1 :: [])) (by rw [hh_4]; rfl) ?_
    refine lv_ifnonnull (tgt := 11) hx hb dX2_needNow_4 (by decide) ?_
    refine lv_aload_n hx hb dX2_needNow_11 rfl (lv_at hl 0 rfl) ?_
    refine va_get (ci := 2) (C := RX2) (T := TX2) (N := 11) (v := .ref R4.1) hx hb hts i_X2_needNow_X2 hown hK hP 0 rfl rfl 9 (by decide) (hts _ m_X2_needNow_2ad546) (fun _ h9 => h9) (by show some (hv h0) = _; rw [hh_4]; rfl) dX2_needNow_12 ?_
    obtain ⟨p_15, hs1_15, hs2_15⟩ := sW_get (cI := E.2.1) hR_R4
    have hs1_15 := suf_at (w := wX2 E a0 s0 h0) 7 rfl hs1_15
    have hs2_15 := suf_at (w := wX2 E a0 s0 h0) 7 rfl hs2_15
    refine va_getN (ci := 4) (C := RX4) (T := TX4) (N := 3) (v := .int R4.2.2.2.2.1) hx hb hts i_X2_needNow_X4 hown hK hP _ hs1_15 rfl 1 (by decide) (nwG hG (w := .fieldLinkNest "PickedMatch$Scene" 59 "PickedMatch$Street" "need" "I" "PickedMatch") (by decide +kernel)) (fun _ h9 => h9) rfl dX2_needNow_15 ?_
    have e9 := Option.some.inj hf
    exact rt_i hx hb hr hlocks e9 hP hS dX2_needNow_18
