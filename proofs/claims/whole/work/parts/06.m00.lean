/-! ===== what the methods compute, and that they do: by program out of the bytecode (wip/gen) ===== -/
abbrev rm_X8_in : Room := { frames := 0, cells := 0, slots := 0, locals := 0 }
set_option maxHeartbeats 8000000 in
set_option maxRecDepth 100000 in
theorem k_X8_in (l : Launch) (E : Ev) (a0 : Nat → Nat) (N : Nat) (s0 : St) (t0 : Nat → Nat → Int64) (p1 : Int32) (p2 : Int32) (p3 : Int32) (q : (Int32)) (hf : f_X8_in N p1 p2 p3 = some q) : Ci l yX8_in wsX8_in rm_X8_in E [.ref (a0 0), .int p1, .int p2, .int p3] (wX8 E a0 s0 t0) (wX8 E a0 s0 t0) q := by
  unfold f_X8_in at hf
  intro sz
  refine Met.ofW (cc := cX8_in) (maxL := 4) (ret := (some .boolean)) (by decide) rfl ?_
  intro p e s m args below meth c s₁ B hml hv
  obtain ⟨rfl, hsz, hP, hK, hD0, hG, hA, hAB⟩ := start hv
  have hx := B.exec
  have hb := B.bytes
  have hr := B.returns
  have hts := atoms_spec (ws := wsX8_in) B.pre
  have hown : s.vm.findClass RX8 = some m.cls := findClass_of_methodNamed B.named
  have hlocks := B.notSynchronized
  subst hsz
  generalize va_A (wX8 E a0 s0 t0) s.heap.size = A0 at hD0 hA hAB ⊢
  have hDD : ∀ (s0 : St) (t0 : Nat → Nat → Int64), va_D A0 (wX8 E a0 s0 t0) := fun s0 t0 => vD_addr hD0 rfl
  have hS : va_S A0 s.heap s.heap [] := va_S.rf
  have hl := lv_entry ([.ref (a0 0), .int p1, .int p2, .int p3]) (n := 4) (Nat.le_of_ble_eq_true rfl)
  rw [lg_entry_eq]
  generalize (lg_sl ([.ref (a0 0), .int p1, .int p2, .int p3]) ++ List.replicate (4 - (lg_sl ([.ref (a0 0), .int p1, .int p2, .int p3])).length) Slot.unset).toArray = ls at hl ⊢
  have hl : lv_has ls 4 [(0, .ref (a0 0)), (1, .int p1), (2, .int p2), (3, .int p3)] := hl
  refine lv_iload_n hx hb dX8_in_0 rfl (lv_at hl 1 rfl) ?_
  refine lv_iload_n hx hb dX8_in_1 rfl (lv_at hl 2 rfl) ?_
  refine lv_icmp_lt (tgt := 14) hx hb dX8_in_2 (by decide) (fun c_2 => ?_) (fun c_2 => ?_)
  · have hf := ite_t c_2 hf
    refine lv_iconst (v := 0) hx hb dX8_in_14 (by decide) ?_
    have e9 := Option.some.inj hf
    exact rt_z hx hb hr rfl hlocks e9 hP hS dX8_in_15
  · have hf := ite_f c_2 hf
    refine lv_iload_n hx hb dX8_in_5 rfl (lv_at hl 1 rfl) ?_
    refine lv_iload_n hx hb dX8_in_6 rfl (lv_at hl 3 rfl) ?_
    refine lv_icmp_gt (tgt := 14) hx hb dX8_in_7 (by decide) (fun c_7 => ?_) (fun c_7 => ?_)
    · have hf := ite_t c_7 hf
      refine lv_iconst (v := 0) hx hb dX8_in_14 (by decide) ?_
      have e9 := Option.some.inj hf
      exact rt_z hx hb hr rfl hlocks e9 hP hS dX8_in_15
    · have hf := ite_f c_7 hf
      refine lv_iconst (v := 1) hx hb dX8_in_10 (by decide) ?_
      refine lv_goto (tgt := 15) hx hb dX8_in_11 (by decide) ?_
      have e9 := Option.some.inj hf
      exact rt_z hx hb hr rfl hlocks e9 hP hS dX8_in_15
abbrev rm_X8_has : Room := { frames := 0, cells := 0, slots := 0, locals := 0 }
set_option maxHeartbeats 8000000 in
set_option maxRecDepth 100000 in
theorem k_X8_has (l : Launch) (E : Ev) (a0 : Nat → Nat) (N : Nat) (s0 : St) (t0 : Nat → Nat → Int64) (p1 : Int32) (p2 : Int32) (q : (Int32)) (hf : f_X8_has N p1 p2 = some q) : Ci l yX8_has wsX8_has rm_X8_has E [.ref (a0 0), .int p1, .int p2] (wX8 E a0 s0 t0) (wX8 E a0 s0 t0) q := by
  unfold f_X8_has at hf
  intro sz
  refine Met.ofW (cc := cX8_has) (maxL := 3) (ret := (some .boolean)) (by decide) rfl ?_
  intro p e s m args below meth c s₁ B hml hv
  obtain ⟨rfl, hsz, hP, hK, hD0, hG, hA, hAB⟩ := start hv
  have hx := B.exec
  have hb := B.bytes
  have hr := B.returns
  have hts := atoms_spec (ws := wsX8_has) B.pre
  have hown : s.vm.findClass RX8 = some m.cls := findClass_of_methodNamed B.named
  have hlocks := B.notSynchronized
  subst hsz
  generalize va_A (wX8 E a0 s0 t0) s.heap.size = A0 at hD0 hA hAB ⊢
  have hDD : ∀ (s0 : St) (t0 : Nat → Nat → Int64), va_D A0 (wX8 E a0 s0 t0) := fun s0 t0 => vD_addr hD0 rfl
  have hS : va_S A0 s.heap s.heap [] := va_S.rf
  have hl := lv_entry ([.ref (a0 0), .int p1, .int p2]) (n := 3) (Nat.le_of_ble_eq_true rfl)
  rw [lg_entry_eq]
  generalize (lg_sl ([.ref (a0 0), .int p1, .int p2]) ++ List.replicate (3 - (lg_sl ([.ref (a0 0), .int p1, .int p2])).length) Slot.unset).toArray = ls at hl ⊢
  have hl : lv_has ls 3 [(0, .ref (a0 0)), (1, .int p1), (2, .int p2)] := hl
  refine lv_iload_n hx hb dX8_has_0 rfl (lv_at hl 1 rfl) ?_
  refine lv_iload_n hx hb dX8_has_1 rfl (lv_at hl 2 rfl) ?_
  refine lv_ishr hx hb dX8_has_2 ?_
  refine lv_iconst (v := 1) hx hb dX8_has_3 (by decide) ?_
  refine lv_iand hx hb dX8_has_4 ?_
  refine lv_iconst (v := 1) hx hb dX8_has_5 (by decide) ?_
  refine lv_icmp_ne (tgt := 13) hx hb dX8_has_6 (by decide) (fun c_6 => ?_) (fun c_6 => ?_)
  · have hf := ite_f c_6 hf
    refine lv_iconst (v := 0) hx hb dX8_has_13 (by decide) ?_
    have e9 := Option.some.inj hf
    exact rt_z hx hb hr rfl hlocks e9 hP hS dX8_has_14
  · have hf := ite_t c_6 hf
    refine lv_iconst (v := 1) hx hb dX8_has_9 (by decide) ?_
    refine lv_goto (tgt := 14) hx hb dX8_has_10 (by decide) ?_
    have e9 := Option.some.inj hf
    exact rt_z hx hb hr rfl hlocks e9 hP hS dX8_has_14
abbrev rm_X8_bits : Room := { frames := 1, cells := 0, slots := 0, locals := 22 }
set_option maxHeartbeats 8000000 in
set_option maxRecDepth 100000 in
theorem k_X8_bits (l : Launch) (E : Ev) (a0 : Nat → Nat) (N : Nat) (s0 : St) (t0 : Nat → Nat → Int64) (p1 : Int32) (q : (Int32)) (hf : f_X8_bits N p1 = some q) : Ci l yX8_bits wsX8_bits rm_X8_bits E [.ref (a0 0), .int p1] (wX8 E a0 s0 t0) (wX8 E a0 s0 t0) q := by
  unfold f_X8_bits at hf
  intro sz
  refine Met.ofW (cc := cX8_bits) (maxL := 4) (ret := (some .int)) (by decide) rfl ?_
  intro p e s m args below meth c s₁ B hml hv
  obtain ⟨rfl, hsz, hP, hK, hD0, hG, hA, hAB⟩ := start hv
  have hx := B.exec
  have hb := B.bytes
  have hr := B.returns
  have hts := atoms_spec (ws := wsX8_bits) B.pre
  have hown : s.vm.findClass RX8 = some m.cls := findClass_of_methodNamed B.named
  have hlocks := B.notSynchronized
  subst hsz
  generalize va_A (wX8 E a0 s0 t0) s.heap.size = A0 at hD0 hA hAB ⊢
  have hDD : ∀ (s0 : St) (t0 : Nat → Nat → Int64), va_D A0 (wX8 E a0 s0 t0) := fun s0 t0 => vD_addr hD0 rfl
  have hS : va_S A0 s.heap s.heap [] := va_S.rf
  have hl := lv_entry ([.ref (a0 0), .int p1]) (n := 4) (Nat.le_of_ble_eq_true rfl)
  rw [lg_entry_eq]
  generalize (lg_sl ([.ref (a0 0), .int p1]) ++ List.replicate (4 - (lg_sl ([.ref (a0 0), .int p1])).length) Slot.unset).toArray = ls at hl ⊢
  have hl : lv_has ls 4 [(0, .ref (a0 0)), (1, .int p1)] := hl
  have hL_4 : ∀ (v1 : Int32) (n_4 : Nat) (v2 : Int32) (v3 : Int32), l_X8_bits_4 N v1 n_4 v2 v3 = some q → ∀ (H : Heap) (locs : List Loc) (ls : Array Slot), va_P E.1 vwCl (wX8 E a0 s0 t0) H → va_S A0 s.heap H locs → lv_has ls 4 [(0, .ref (a0 0)), (1, .int v1), (2, .int v2), (3, .int v3)] → W p l e rm_X8_bits s m ([.ref (a0 0), .int p1] : List Value).toArray below meth c H locs 0 0 (MQ below (va_Qi (fun (r' : Int32) (_ : Unit) => r' = q) (fun _ t => va_P E.1 vwCl (wX8 E a0 s0 t0) t.heap) A0) ([.ref (a0 0), .int p1] : List Value).toArray s 0 0 A0) (F0 m 4 ls []) := by
    intro v1 n_4
    induction n_4 with
    | zero => intro v2 v3 hf; rw [l_X8_bits_4] at hf; cases hf
    | succ n_4 ih_4 =>
      intro v2 v3 hf H locs ls hP hS hl
      rw [l_X8_bits_4] at hf
      refine lv_iload_n hx hb dX8_bits_4 rfl (lv_at hl 3 rfl) ?_
      refine lv_bipush (v := 8) hx hb dX8_bits_5 (by decide) ?_
      refine lv_icmp_ge (tgt := 33) hx hb dX8_bits_7 (by decide) (fun c_7 => ?_) (fun c_7 => ?_)
      · have hf := ite_t c_7 hf
        refine lv_iload_n hx hb dX8_bits_33 rfl (lv_at hl 2 rfl) ?_
        have e9 := Option.some.inj hf
        exact rt_i hx hb hr hlocks e9 hP hS dX8_bits_34
      · have hf := ite_f c_7 hf
        refine lv_iload_n hx hb dX8_bits_10 rfl (lv_at hl 2 rfl) ?_
        refine lv_aload_n hx hb dX8_bits_11 rfl (lv_at hl 0 rfl) ?_
        refine lv_iload_n hx hb dX8_bits_12 rfl (lv_at hl 1 rfl) ?_
        refine lv_iload_n hx hb dX8_bits_13 rfl (lv_at hl 3 rfl) ?_
        obtain ⟨q14, hc_14, hf⟩ := cl_e hf
        refine fin_i (E := E) (wc := wX8 E a0 s0 t0) (wc' := wX8 E a0 s0 t0) (va_runV (As := [.int v1, .int v3]) (rest := [.int v2]) ⟨hx, hb, hml, hown, hts⟩ (k_X8_has l E a0 N s0 t0 v1 v3 q14 hc_14 _) (cwV 2 hts gX8_bits_X8_has rfl rfl rfl (by decide +kernel) ⟨(Nat.le_of_ble_eq_true rfl), (Nat.le_of_ble_eq_true rfl)⟩) (pre_v (ci := 8) (q0 := 0) hK hP (hDD s0 t0) hS hG hAB rfl rfl) rfl rfl hl.1 rfl (lv_room (Nat.le_of_ble_eq_true rfl)) dX8_bits_14 ⟨Nat.zero_le _, Nat.zero_le _⟩) hS (w_free (hDD s0 t0) hS hA (fun _ h => h)) (fun H locs hP1 hk hS => ?_)
        have hP := hP1
        refine lv_if_eq (tgt := 24) hx hb dX8_bits_17 (by decide) (fun c_17 => ?_) (fun c_17 => ?_)
        · have hf := ite_t c_17 hf
          refine lv_iconst (v := 0) hx hb dX8_bits_24 (by decide) ?_
          refine lv_iadd hx hb dX8_bits_25 ?_
          refine lv_topi (fun x26 e_x26 => ?_)
          have hf := nm_q e_x26 hf
          refine lv_istore_n (lv' := [(2, .int x26), (0, .ref (a0 0)), (1, .int v1), (3, .int v3)]) hx hb dX8_bits_26 rfl hl (Nat.le_of_ble_eq_true rfl) rfl (fun ls hl => ?_)
          obtain ⟨x27, e_x27⟩ : ∃ y : Int32, y = v3 + 1 := ⟨_, rfl⟩
          have hf := nm_q e_x27 hf
          refine lv_iinc (v := x27) (lv' := [(3, .int x27), (2, .int x26), (0, .ref (a0 0)), (1, .int v1)]) hx hb dX8_bits_27 hl (k := 3) rfl (by rw [e_x27]; rfl) (Nat.le_of_ble_eq_true rfl) rfl (fun ls hl => ?_)
          refine lv_goto (tgt := 4) hx hb dX8_bits_30 (by decide) ?_
          exact ih_4 x26 x27 hf _ _ _ hP hS (lv_sub hl [2, 3, 1, 0] rfl)
        · have hf := ite_f c_17 hf
          refine lv_iconst (v := 1) hx hb dX8_bits_20 (by decide) ?_
          refine lv_goto (tgt := 25) hx hb dX8_bits_21 (by decide) ?_
          refine lv_iadd hx hb dX8_bits_25 ?_
          refine lv_topi (fun x26 e_x26 => ?_)
          have hf := nm_q e_x26 hf
          refine lv_istore_n (lv' := [(2, .int x26), (0, .ref (a0 0)), (1, .int v1), (3, .int v3)]) hx hb dX8_bits_26 rfl hl (Nat.le_of_ble_eq_true rfl) rfl (fun ls hl => ?_)
          obtain ⟨x27, e_x27⟩ : ∃ y : Int32, y = v3 + 1 := ⟨_, rfl⟩
          have hf := nm_q e_x27 hf
          refine lv_iinc (v := x27) (lv' := [(3, .int x27), (2, .int x26), (0, .ref (a0 0)), (1, .int v1)]) hx hb dX8_bits_27 hl (k := 3) rfl (by rw [e_x27]; rfl) (Nat.le_of_ble_eq_true rfl) rfl (fun ls hl => ?_)
          refine lv_goto (tgt := 4) hx hb dX8_bits_30 (by decide) ?_
          exact ih_4 x26 x27 hf _ _ _ hP hS (lv_sub hl [2, 3, 1, 0] rfl)
  refine lv_iconst (v := 0) hx hb dX8_bits_0 (by decide) ?_
  refine lv_istore_n (lv' := [(2, .int 0), (0, .ref (a0 0)), (1, .int p1)]) hx hb dX8_bits_1 rfl hl (Nat.le_of_ble_eq_true rfl) rfl (fun ls hl => ?_)
  refine lv_iconst (v := 0) hx hb dX8_bits_2 (by decide) ?_
  refine lv_istore_n (lv' := [(3, .int 0), (2, .int 0), (0, .ref (a0 0)), (1, .int p1)]) hx hb dX8_bits_3 rfl hl (Nat.le_of_ble_eq_true rfl) rfl (fun ls hl => ?_)
  exact hL_4 p1 N 0 0 hf _ _ _ hP hS (lv_sub hl [2, 3, 1, 0] rfl)
abbrev rm_X8_isThing : Room := { frames := 1, cells := 0, slots := 0, locals := 23 }
theorem m_X8_isThing_acbb5e : Cond.fieldLink RX8 7 "PickedMatchModel" "things" "I" ∈ wsX8_isThing := by decide +kernel
theorem i_X8_isThing_X8 : ∀ w ∈ wsX80, w ∈ wsX8_isThing := fun _ h => List.mem_cons_of_mem _ (List.mem_append_right _ h)
set_option maxHeartbeats 8000000 in
set_option maxRecDepth 100000 in
theorem k_X8_isThing (l : Launch) (E : Ev) (a0 : Nat → Nat) (N : Nat) (s0 : St) (t0 : Nat → Nat → Int64) (p1 : Int32) (q : (Int32)) (hf : f_X8_isThing N s0 p1 = some q) : Ci l yX8_isThing wsX8_isThing rm_X8_isThing E [.ref (a0 0), .int p1] (wX8 E a0 s0 t0) (wX8 E a0 s0 t0) q := by
  unfold f_X8_isThing at hf
  intro sz
  refine Met.ofW (cc := cX8_isThing) (maxL := 2) (ret := (some .boolean)) (by decide) rfl ?_
  intro p e s m args below meth c s₁ B hml hv
  obtain ⟨rfl, hsz, hP, hK, hD0, hG, hA, hAB⟩ := start hv
  have hx := B.exec
  have hb := B.bytes
  have hr := B.returns
  have hts := atoms_spec (ws := wsX8_isThing) B.pre
  have hown : s.vm.findClass RX8 = some m.cls := findClass_of_methodNamed B.named
  have hlocks := B.notSynchronized
  subst hsz
  generalize va_A (wX8 E a0 s0 t0) s.heap.size = A0 at hD0 hA hAB ⊢
  have hDD : ∀ (s0 : St) (t0 : Nat → Nat → Int64), va_D A0 (wX8 E a0 s0 t0) := fun s0 t0 => vD_addr hD0 rfl
  have hS : va_S A0 s.heap s.heap [] := va_S.rf
  have hl := lv_entry ([.ref (a0 0), .int p1]) (n := 2) (Nat.le_of_ble_eq_true rfl)
  rw [lg_entry_eq]
  generalize (lg_sl ([.ref (a0 0), .int p1]) ++ List.replicate (2 - (lg_sl ([.ref (a0 0), .int p1])).length) Slot.unset).toArray = ls at hl ⊢
  have hl : lv_has ls 2 [(0, .ref (a0 0)), (1, .int p1)] := hl
  refine lv_aload_n hx hb dX8_isThing_0 rfl (lv_at hl 0 rfl) ?_
  refine lv_iload_n hx hb dX8_isThing_1 rfl (lv_at hl 1 rfl) ?_
  refine lv_iconst (v := 0) hx hb dX8_isThing_2 (by decide) ?_
  refine lv_aload_n hx hb dX8_isThing_3 rfl (lv_at hl 0 rfl) ?_
  refine va_get (ci := 8) (C := RX8) (T := TX8) (N := 67) (v := .int (s0 0 0)) hx hb hts i_X8_isThing_X8 hown hK hP 0 rfl rfl 0 (by decide) (hts _ m_X8_isThing_acbb5e) (fun _ h9 => h9) rfl dX8_isThing_4 ?_
  refine lv_iconst (v := 1) hx hb dX8_isThing_7 (by decide) ?_
  refine lv_isub hx hb dX8_isThing_8 ?_
  obtain ⟨q9, hc_9, hf⟩ := cl_e hf
  refine fin_i (E := E) (wc := wX8 E a0 s0 t0) (wc' := wX8 E a0 s0 t0) (va_runV (As := [.int p1, .int 0, .int ((s0 0 0) - 1)]) (rest := []) ⟨hx, hb, hml, hown, hts⟩ (k_X8_in l E a0 N s0 t0 p1 0 ((s0 0 0) - 1) q9 hc_9 _) (cwV 3 hts gX8_isThing_X8_in rfl rfl rfl (by decide +kernel) ⟨(Nat.le_of_ble_eq_true rfl), (Nat.le_of_ble_eq_true rfl)⟩) (pre_v (ci := 8) (q0 := 0) hK hP (hDD s0 t0) hS hG hAB rfl rfl) rfl rfl hl.1 rfl (lv_room (Nat.le_of_ble_eq_true rfl)) dX8_isThing_9 ⟨Nat.zero_le _, Nat.zero_le _⟩) hS (w_free (hDD s0 t0) hS hA (fun _ h => h)) (fun H locs hP1 hk hS => ?_)
  have hP := hP1
  obtain ⟨hn_12, hf⟩ := cb_e hf
  have e9 := Option.some.inj hf
  exact rt_z hx hb hr (nar_b hn_12) hlocks e9 hP hS dX8_isThing_12
abbrev rm_X8_isMarks : Room := { frames := 1, cells := 0, slots := 0, locals := 23 }
set_option maxHeartbeats 8000000 in
set_option maxRecDepth 100000 in
theorem k_X8_isMarks (l : Launch) (E : Ev) (a0 : Nat → Nat) (N : Nat) (s0 : St) (t0 : Nat → Nat → Int64) (p1 : Int32) (q : (Int32)) (hf : f_X8_isMarks N p1 = some q) : Ci l yX8_isMarks wsX8_isMarks rm_X8_isMarks E [.ref (a0 0), .int p1] (wX8 E a0 s0 t0) (wX8 E a0 s0 t0) q := by
  unfold f_X8_isMarks at hf
  intro sz
  refine Met.ofW (cc := cX8_isMarks) (maxL := 2) (ret := (some .boolean)) (by decide) rfl ?_
  intro p e s m args below meth c s₁ B hml hv
  obtain ⟨rfl, hsz, hP, hK, hD0, hG, hA, hAB⟩ := start hv
  have hx := B.exec
  have hb := B.bytes
  have hr := B.returns
  have hts := atoms_spec (ws := wsX8_isMarks) B.pre
  have hown : s.vm.findClass RX8 = some m.cls := findClass_of_methodNamed B.named
  have hlocks := B.notSynchronized
  subst hsz
  generalize va_A (wX8 E a0 s0 t0) s.heap.size = A0 at hD0 hA hAB ⊢
  have hDD : ∀ (s0 : St) (t0 : Nat → Nat → Int64), va_D A0 (wX8 E a0 s0 t0) := fun s0 t0 => vD_addr hD0 rfl
  have hS : va_S A0 s.heap s.heap [] := va_S.rf
  have hl := lv_entry ([.ref (a0 0), .int p1]) (n := 2) (Nat.le_of_ble_eq_true rfl)
  rw [lg_entry_eq]
  generalize (lg_sl ([.ref (a0 0), .int p1]) ++ List.replicate (2 - (lg_sl ([.ref (a0 0), .int p1])).length) Slot.unset).toArray = ls at hl ⊢
  have hl : lv_has ls 2 [(0, .ref (a0 0)), (1, .int p1)] := hl
  refine lv_aload_n hx hb dX8_isMarks_0 rfl (lv_at hl 0 rfl) ?_
  refine lv_iload_n hx hb dX8_isMarks_1 rfl (lv_at hl 1 rfl) ?_
  refine lv_iconst (v := 0) hx hb dX8_isMarks_2 (by decide) ?_
  refine lv_sipush (v := 255) hx hb dX8_isMarks_3 (by decide) ?_
  obtain ⟨q6, hc_6, hf⟩ := cl_e hf
  refine fin_i (E := E) (wc := wX8 E a0 s0 t0) (wc' := wX8 E a0 s0 t0) (va_runV (As := [.int p1, .int 0, .int 255]) (rest := []) ⟨hx, hb, hml, hown, hts⟩ (k_X8_in l E a0 N s0 t0 p1 0 255 q6 hc_6 _) (cwV 3 hts gX8_isMarks_X8_in rfl rfl rfl (by decide +kernel) ⟨(Nat.le_of_ble_eq_true rfl), (Nat.le_of_ble_eq_true rfl)⟩) (pre_v (ci := 8) (q0 := 0) hK hP (hDD s0 t0) hS hG hAB rfl rfl) rfl rfl hl.1 rfl (lv_room (Nat.le_of_ble_eq_true rfl)) dX8_isMarks_6 ⟨Nat.zero_le _, Nat.zero_le _⟩) hS (w_free (hDD s0 t0) hS hA (fun _ h => h)) (fun H locs hP1 hk hS => ?_)
  have hP := hP1
  obtain ⟨hn_9, hf⟩ := cb_e hf
  have e9 := Option.some.inj hf
  exact rt_z hx hb hr (nar_b hn_9) hlocks e9 hP hS dX8_isMarks_9
abbrev rm_X8_isDays : Room := { frames := 1, cells := 0, slots := 0, locals := 23 }
set_option maxHeartbeats 8000000 in
set_option maxRecDepth 100000 in
theorem k_X8_isDays (l : Launch) (E : Ev) (a0 : Nat → Nat) (N : Nat) (s0 : St) (t0 : Nat → Nat → Int64) (p1 : Int32) (q : (Int32)) (hf : f_X8_isDays N p1 = some q) : Ci l yX8_isDays wsX8_isDays rm_X8_isDays E [.ref (a0 0), .int p1] (wX8 E a0 s0 t0) (wX8 E a0 s0 t0) q := by
  unfold f_X8_isDays at hf
  intro sz
  refine Met.ofW (cc := cX8_isDays) (maxL := 2) (ret := (some .boolean)) (by decide) rfl ?_
  intro p e s m args below meth c s₁ B hml hv
  obtain ⟨rfl, hsz, hP, hK, hD0, hG, hA, hAB⟩ := start hv
  have hx := B.exec
  have hb := B.bytes
  have hr := B.returns
  have hts := atoms_spec (ws := wsX8_isDays) B.pre
  have hown : s.vm.findClass RX8 = some m.cls := findClass_of_methodNamed B.named
  have hlocks := B.notSynchronized
  subst hsz
  generalize va_A (wX8 E a0 s0 t0) s.heap.size = A0 at hD0 hA hAB ⊢
  have hDD : ∀ (s0 : St) (t0 : Nat → Nat → Int64), va_D A0 (wX8 E a0 s0 t0) := fun s0 t0 => vD_addr hD0 rfl
  have hS : va_S A0 s.heap s.heap [] := va_S.rf
  have hl := lv_entry ([.ref (a0 0), .int p1]) (n := 2) (Nat.le_of_ble_eq_true rfl)
  rw [lg_entry_eq]
  generalize (lg_sl ([.ref (a0 0), .int p1]) ++ List.replicate (2 - (lg_sl ([.ref (a0 0), .int p1])).length) Slot.unset).toArray = ls at hl ⊢
  have hl : lv_has ls 2 [(0, .ref (a0 0)), (1, .int p1)] := hl
  refine lv_aload_n hx hb dX8_isDays_0 rfl (lv_at hl 0 rfl) ?_
  refine lv_iload_n hx hb dX8_isDays_1 rfl (lv_at hl 1 rfl) ?_
  refine lv_iconst (v := 0) hx hb dX8_isDays_2 (by decide) ?_
  refine lv_bipush (v := 60) hx hb dX8_isDays_3 (by decide) ?_
  obtain ⟨q5, hc_5, hf⟩ := cl_e hf
  refine fin_i (E := E) (wc := wX8 E a0 s0 t0) (wc' := wX8 E a0 s0 t0) (va_runV (As := [.int p1, .int 0, .int 60]) (rest := []) ⟨hx, hb, hml, hown, hts⟩ (k_X8_in l E a0 N s0 t0 p1 0 60 q5 hc_5 _) (cwV 3 hts gX8_isDays_X8_in rfl rfl rfl (by decide +kernel) ⟨(Nat.le_of_ble_eq_true rfl), (Nat.le_of_ble_eq_true rfl)⟩) (pre_v (ci := 8) (q0 := 0) hK hP (hDD s0 t0) hS hG hAB rfl rfl) rfl rfl hl.1 rfl (lv_room (Nat.le_of_ble_eq_true rfl)) dX8_isDays_5 ⟨Nat.zero_le _, Nat.zero_le _⟩) hS (w_free (hDD s0 t0) hS hA (fun _ h => h)) (fun H locs hP1 hk hS => ?_)
  have hP := hP1
  obtain ⟨hn_8, hf⟩ := cb_e hf
  have e9 := Option.some.inj hf
  exact rt_z hx hb hr (nar_b hn_8) hlocks e9 hP hS dX8_isDays_8
abbrev rm_X8_isMany : Room := { frames := 1, cells := 0, slots := 0, locals := 23 }
set_option maxHeartbeats 8000000 in
set_option maxRecDepth 100000 in
theorem k_X8_isMany (l : Launch) (E : Ev) (a0 : Nat → Nat) (N : Nat) (s0 : St) (t0 : Nat → Nat → Int64) (p1 : Int32) (q : (Int32)) (hf : f_X8_isMany N p1 = some q) : Ci l yX8_isMany wsX8_isMany rm_X8_isMany E [.ref (a0 0), .int p1] (wX8 E a0 s0 t0) (wX8 E a0 s0 t0) q := by
  unfold f_X8_isMany at hf
  intro sz
  refine Met.ofW (cc := cX8_isMany) (maxL := 2) (ret := (some .boolean)) (by decide) rfl ?_
  intro p e s m args below meth c s₁ B hml hv
  obtain ⟨rfl, hsz, hP, hK, hD0, hG, hA, hAB⟩ := start hv
  have hx := B.exec
  have hb := B.bytes
  have hr := B.returns
  have hts := atoms_spec (ws := wsX8_isMany) B.pre
  have hown : s.vm.findClass RX8 = some m.cls := findClass_of_methodNamed B.named
  have hlocks := B.notSynchronized
  subst hsz
  generalize va_A (wX8 E a0 s0 t0) s.heap.size = A0 at hD0 hA hAB ⊢
  have hDD : ∀ (s0 : St) (t0 : Nat → Nat → Int64), va_D A0 (wX8 E a0 s0 t0) := fun s0 t0 => vD_addr hD0 rfl
  have hS : va_S A0 s.heap s.heap [] := va_S.rf
  have hl := lv_entry ([.ref (a0 0), .int p1]) (n := 2) (Nat.le_of_ble_eq_true rfl)
  rw [lg_entry_eq]
  generalize (lg_sl ([.ref (a0 0), .int p1]) ++ List.replicate (2 - (lg_sl ([.ref (a0 0), .int p1])).length) Slot.unset).toArray = ls at hl ⊢
  have hl : lv_has ls 2 [(0, .ref (a0 0)), (1, .int p1)] := hl
  refine lv_aload_n hx hb dX8_isMany_0 rfl (lv_at hl 0 rfl) ?_
  refine lv_iload_n hx hb dX8_isMany_1 rfl (lv_at hl 1 rfl) ?_
  refine lv_iconst (v := 0) hx hb dX8_isMany_2 (by decide) ?_
  refine lv_bipush (v := 6) hx hb dX8_isMany_3 (by decide) ?_
  obtain ⟨q5, hc_5, hf⟩ := cl_e hf
  refine fin_i (E := E) (wc := wX8 E a0 s0 t0) (wc' := wX8 E a0 s0 t0) (va_runV (As := [.int p1, .int 0, .int 6]) (rest := []) ⟨hx, hb, hml, hown, hts⟩ (k_X8_in l E a0 N s0 t0 p1 0 6 q5 hc_5 _) (cwV 3 hts gX8_isMany_X8_in rfl rfl rfl (by decide +kernel) ⟨(Nat.le_of_ble_eq_true rfl), (Nat.le_of_ble_eq_true rfl)⟩) (pre_v (ci := 8) (q0 := 0) hK hP (hDD s0 t0) hS hG hAB rfl rfl) rfl rfl hl.1 rfl (lv_room (Nat.le_of_ble_eq_true rfl)) dX8_isMany_5 ⟨Nat.zero_le _, Nat.zero_le _⟩) hS (w_free (hDD s0 t0) hS hA (fun _ h => h)) (fun H locs hP1 hk hS => ?_)
  have hP := hP1
  obtain ⟨hn_8, hf⟩ := cb_e hf
  have e9 := Option.some.inj hf
  exact rt_z hx hb hr (nar_b hn_8) hlocks e9 hP hS dX8_isMany_8
abbrev rm_X8_thing : Room := { frames := 2, cells := 0, slots := 0, locals := 44 }
theorem m_X8_thing_acbb5e : Cond.fieldLink RX8 7 "PickedMatchModel" "things" "I" ∈ wsX8_thing := by decide +kernel
theorem i_X8_thing_X8 : ∀ w ∈ wsX80, w ∈ wsX8_thing := fun _ h => List.mem_cons_of_mem _ (List.mem_append_right _ h)
theorem m_X8_thing_096e14 : Cond.fieldLink RX8 29 "PickedMatchModel" "rows" "[I" ∈ wsX8_thing := by decide +kernel
theorem m_X8_thing_275364 : Cond.fieldLink RX8 19 "PickedMatchModel" "kind" "[I" ∈ wsX8_thing := by decide +kernel
theorem m_X8_thing_7b6120 : Cond.fieldLink RX8 23 "PickedMatchModel" "v" "[I" ∈ wsX8_thing := by decide +kernel
theorem m_X8_thing_fa4c49 : Cond.fieldLink RX8 26 "PickedMatchModel" "marks" "[I" ∈ wsX8_thing := by decide +kernel
set_option maxHeartbeats 8000000 in
set_option maxRecDepth 100000 in
theorem k_X8_thing (l : Launch) (E : Ev) (a0 : Nat → Nat) (N : Nat) (s0 : St) (t0 : Nat → Nat → Int64) (p1 : Int32) (p2 : Int32) (p3 : Int32) (q : (Int32 × St)) (hf : f_X8_thing N s0 p1 p2 p3 = some q) : Ci l yX8_thing wsX8_thing rm_X8_thing E [.ref (a0 0), .int p1, .int p2, .int p3] (wX8 E a0 s0 t0) (wX8 E a0 q.2 t0) q.1 := by
  unfold f_X8_thing at hf
  intro sz
  refine Met.ofW (cc := cX8_thing) (maxL := 5) (ret := (some .int)) (by decide) rfl ?_
  intro p e s m args below meth c s₁ B hml hv
  obtain ⟨rfl, hsz, hP, hK, hD0, hG, hA, hAB⟩ := start hv
  have hx := B.exec
  have hb := B.bytes
  have hr := B.returns
  have hts := atoms_spec (ws := wsX8_thing) B.pre
  have hown : s.vm.findClass RX8 = some m.cls := findClass_of_methodNamed B.named
  have hlocks := B.notSynchronized
  subst hsz
  generalize va_A (wX8 E a0 s0 t0) s.heap.size = A0 at hD0 hA hAB ⊢
  have hDD : ∀ (s0 : St) (t0 : Nat → Nat → Int64), va_D A0 (wX8 E a0 s0 t0) := fun s0 t0 => vD_addr hD0 rfl
  have hS : va_S A0 s.heap s.heap [] := va_S.rf
  have hl := lv_entry ([.ref (a0 0), .int p1, .int p2, .int p3]) (n := 5) (Nat.le_of_ble_eq_true rfl)
  rw [lg_entry_eq]
  generalize (lg_sl ([.ref (a0 0), .int p1, .int p2, .int p3]) ++ List.replicate (5 - (lg_sl ([.ref (a0 0), .int p1, .int p2, .int p3])).length) Slot.unset).toArray = ls at hl ⊢
  have hl : lv_has ls 5 [(0, .ref (a0 0)), (1, .int p1), (2, .int p2), (3, .int p3)] := hl
  have hL_80 : ∀ (n_80 : Nat) (s0 : St) (v4 : Int32), l_X8_thing_80 N n_80 s0 v4 = some q → ∀ (H : Heap) (locs : List Loc) (ls : Array Slot), va_P E.1 vwCl (wX8 E a0 s0 t0) H → va_S A0 s.heap H locs → lv_has ls 5 [(0, .ref (a0 0)), (4, .int v4)] → W p l e rm_X8_thing s m ([.ref (a0 0), .int p1, .int p2, .int p3] : List Value).toArray below meth c H locs 0 0 (MQ below (va_Qi (fun (r' : Int32) (_ : Unit) => r' = q.1) (fun _ t => va_P E.1 vwCl (wX8 E a0 q.2 t0) t.heap) A0) ([.ref (a0 0), .int p1, .int p2, .int p3] : List Value).toArray s 0 0 A0) (F0 m 80 ls []) := by
    intro n_80
    induction n_80 with
    | zero => intro s0 v4 hf; rw [l_X8_thing_80] at hf; cases hf
    | succ n_80 ih_80 =>
      intro s0 v4 hf H locs ls hP hS hl
      rw [l_X8_thing_80] at hf
      refine lv_iload hx hb dX8_thing_80 (lv_at hl 1 rfl) ?_
      refine lv_iconst (v := 4) hx hb dX8_thing_82 (by decide) ?_
      refine lv_icmp_ge (tgt := 107) hx hb dX8_thing_83 (by decide) (fun c_83 => ?_) (fun c_83 => ?_)
      · have hf := ite_t c_83 hf
        refine lv_aload_n hx hb dX8_thing_107 rfl (lv_at hl 0 rfl) ?_
        refine lv_dup hx hb dX8_thing_108 rfl ?_
        refine va_get (ci := 8) (C := RX8) (T := TX8) (N := 67) (v := .int (s0 0 0)) hx hb hts i_X8_thing_X8 hown hK hP 0 rfl rfl 0 (by decide) (hts _ m_X8_thing_acbb5e) (fun _ h9 => h9) rfl dX8_thing_109 ?_
        refine lv_iconst (v := 1) hx hb dX8_thing_112 (by decide) ?_
        refine lv_iadd hx hb dX8_thing_113 ?_
        refine va_put (ci := 8) (v := .int ((s0 0 0) + 1)) (ty := .int) (C := RX8) (T := TX8) (N := 67) hx hb hts i_X8_thing_X8 tyX8 tyX8_ok nmX8 hown hK hP (hDD s0 t0) hS 0 rfl rfl 0 (by decide) (hts _ m_X8_thing_acbb5e) (fun _ h9 => h9) rfl (by decide +kernel) rfl rfl (Nat.le_of_ble_eq_true rfl) dX8_thing_114 (fun H locs hP _ hS => ?_)
        obtain ⟨s0_114, hP, hf⟩ := nm_st' (P := fun z => va_P E.1 vwCl (wX8 E a0 z t0) H) hf hP
        refine lv_aload_n hx hb dX8_thing_117 rfl (lv_at hl 0 rfl) ?_
        refine va_get (ci := 8) (C := RX8) (T := TX8) (N := 67) (v := .int (s0_114 0 0)) hx hb hts i_X8_thing_X8 hown hK hP 0 rfl rfl 0 (by decide) (hts _ m_X8_thing_acbb5e) (fun _ h9 => h9) rfl dX8_thing_118 ?_
        refine lv_iconst (v := 1) hx hb dX8_thing_121 (by decide) ?_
        refine lv_isub hx hb dX8_thing_122 ?_
        have e9 := Option.some.inj hf
        exact rt_i hx hb hr hlocks (fst_e e9) (rtP (P := fun z => va_P E.1 vwCl (wX8 E a0 z.2 t0) H) e9 hP) hS dX8_thing_123
      · have hf := ite_f c_83 hf
        refine lv_aload_n hx hb dX8_thing_86 rfl (lv_at hl 0 rfl) ?_
        refine va_get (ci := 8) (C := RX8) (T := TX8) (N := 67) (v := .ref (a0 4)) hx hb hts i_X8_thing_X8 hown hK hP 0 rfl rfl 6 (by decide) (hts _ m_X8_thing_096e14) (fun _ h9 => h9) rfl dX8_thing_87 ?_
        refine lv_iconst (v := 4) hx hb dX8_thing_90 (by decide) ?_
        refine lv_aload_n hx hb dX8_thing_91 rfl (lv_at hl 0 rfl) ?_
        refine va_get (ci := 8) (C := RX8) (T := TX8) (N := 67) (v := .int (s0 0 0)) hx hb hts i_X8_thing_X8 hown hK hP 0 rfl rfl 0 (by decide) (hts _ m_X8_thing_acbb5e) (fun _ h9 => h9) rfl dX8_thing_92 ?_
        refine lv_imul hx hb dX8_thing_95 ?_
        refine lv_iload hx hb dX8_thing_96 (lv_at hl 1 rfl) ?_
        refine lv_iadd hx hb dX8_thing_98 ?_
        refine lv_iconst (v := 0) hx hb dX8_thing_99 (by decide) ?_
        obtain ⟨h_100, hf⟩ := ck_e hf
        refine va_iast (cA := E.2.1) (n := 24) (f := s0 6) (x := 0) hx hb hK hP (hDD s0 t0) hS 4 0 rfl rfl h_100 dX8_thing_100 (fun H locs hP _ hS => ?_)
        obtain ⟨s0_100, hP, hf⟩ := nm_st' (P := fun z => va_P E.1 vwCl (wX8 E a0 z t0) H) hf hP
        obtain ⟨x101, e_x101⟩ : ∃ y : Int32, y = v4 + 1 := ⟨_, rfl⟩
        have hf := nm_q e_x101 hf
        refine lv_iinc (v := x101) (lv' := [(4, .int x101), (0, .ref (a0 0))]) hx hb dX8_thing_101 hl (k := 1) rfl (by rw [e_x101]; rfl) (Nat.le_of_ble_eq_true rfl) rfl (fun ls hl => ?_)
        refine lv_goto (tgt := 80) hx hb dX8_thing_104 (by decide) ?_
        exact ih_80 s0_100 x101 hf _ _ _ hP hS (lv_sub hl [1, 0] rfl)
  refine lv_aload_n hx hb dX8_thing_0 rfl (lv_at hl 0 rfl) ?_
  refine lv_iload_n hx hb dX8_thing_1 rfl (lv_at hl 1 rfl) ?_
  refine lv_iconst (v := 0) hx hb dX8_thing_2 (by decide) ?_
  refine lv_bipush (v := 6) hx hb dX8_thing_3 (by decide) ?_
  obtain ⟨q5, hc_5, hf⟩ := cl_e hf
  refine fin_i (E := E) (wc := wX8 E a0 s0 t0) (wc' := wX8 E a0 s0 t0) (va_runV (As := [.int p1, .int 0, .int 6]) (rest := []) ⟨hx, hb, hml, hown, hts⟩ (k_X8_in l E a0 N s0 t0 p1 0 6 q5 hc_5 _) (cwV 3 hts gX8_thing_X8_in rfl rfl rfl (by decide +kernel) ⟨(Nat.le_of_ble_eq_true rfl), (Nat.le_of_ble_eq_true rfl)⟩) (pre_v (ci := 8) (q0 := 0) hK hP (hDD s0 t0) hS hG hAB rfl rfl) rfl rfl hl.1 rfl (lv_room (Nat.le_of_ble_eq_true rfl)) dX8_thing_5 ⟨Nat.zero_le _, Nat.zero_le _⟩) hS (w_free (hDD s0 t0) hS hA (fun _ h => h)) (fun H locs hP1 hk hS => ?_)
  have hP := hP1
  refine lv_if_ne (tgt := 13) hx hb dX8_thing_8 (by decide) (fun c_8 => ?_) (fun c_8 => ?_)
  · have hf := ite_f c_8 hf
    refine lv_aload_n hx hb dX8_thing_13 rfl (lv_at hl 0 rfl) ?_
    refine lv_iload_n hx hb dX8_thing_14 rfl (lv_at hl 2 rfl) ?_
    refine lv_iconst (v := 0) hx hb dX8_thing_15 (by decide) ?_
    refine lv_bipush (v := 9) hx hb dX8_thing_16 (by decide) ?_
    obtain ⟨q18, hc_18, hf⟩ := cl_e hf
    refine fin_i (E := E) (wc := wX8 E a0 s0 t0) (wc' := wX8 E a0 s0 t0) (va_runV (As := [.int p2, .int 0, .int 9]) (rest := []) ⟨hx, hb, hml, hown, hts⟩ (k_X8_in l E a0 N s0 t0 p2 0 9 q18 hc_18 _) (cwV 3 hts gX8_thing_X8_in rfl rfl rfl (by decide +kernel) ⟨(Nat.le_of_ble_eq_true rfl), (Nat.le_of_ble_eq_true rfl)⟩) (pre_v (ci := 8) (q0 := 0) hK hP (hDD s0 t0) hS hG hAB rfl rfl) rfl rfl hl.1 rfl (lv_room (Nat.le_of_ble_eq_true rfl)) dX8_thing_18 ⟨Nat.zero_le _, Nat.zero_le _⟩) hS (w_free (hDD s0 t0) hS hA (fun _ h => h)) (fun H locs hP1 hk hS => ?_)
    have hP := hP1
    refine lv_if_eq (tgt := 32) hx hb dX8_thing_21 (by decide) (fun c_21 => ?_) (fun c_21 => ?_)
    · have hf := ite_t c_21 hf
      refine lv_bipush (v := (-2)) hx hb dX8_thing_32 (by decide) ?_
      have e9 := Option.some.inj hf
      exact rt_i hx hb hr hlocks (fst_e e9) (rtP (P := fun z => va_P E.1 vwCl (wX8 E a0 z.2 t0) H) e9 hP) hS dX8_thing_34
    · have hf := ite_f c_21 hf
      refine lv_aload_n hx hb dX8_thing_24 rfl (lv_at hl 0 rfl) ?_
      refine lv_iload_n hx hb dX8_thing_25 rfl (lv_at hl 3 rfl) ?_
      obtain ⟨q26, hc_26, hf⟩ := cl_e hf
      refine fin_i (E := E) (wc := wX8 E a0 s0 t0) (wc' := wX8 E a0 s0 t0) (va_runV (As := [.int p3]) (rest := []) ⟨hx, hb, hml, hown, hts⟩ (k_X8_isMarks l E a0 N s0 t0 p3 q26 hc_26 _) (cwV 1 hts gX8_thing_X8_isMarks rfl rfl rfl (by decide +kernel) ⟨(Nat.le_of_ble_eq_true rfl), (Nat.le_of_ble_eq_true rfl)⟩) (pre_v (ci := 8) (q0 := 0) hK hP (hDD s0 t0) hS hG hAB rfl rfl) rfl rfl hl.1 rfl (lv_room (Nat.le_of_ble_eq_true rfl)) dX8_thing_26 ⟨Nat.zero_le _, Nat.zero_le _⟩) hS (w_free (hDD s0 t0) hS hA (fun _ h => h)) (fun H locs hP1 hk hS => ?_)
      have hP := hP1
      refine lv_if_ne (tgt := 35) hx hb dX8_thing_29 (by decide) (fun c_29 => ?_) (fun c_29 => ?_)
      · have hf := ite_f c_29 hf
        refine lv_aload_n hx hb dX8_thing_35 rfl (lv_at hl 0 rfl) ?_
        refine va_get (ci := 8) (C := RX8) (T := TX8) (N := 67) (v := .int (s0 0 0)) hx hb hts i_X8_thing_X8 hown hK hP 0 rfl rfl 0 (by decide) (hts _ m_X8_thing_acbb5e) (fun _ h9 => h9) rfl dX8_thing_36 ?_
        refine lv_bipush (v := 6) hx hb dX8_thing_39 (by decide) ?_
        refine lv_icmp_ne (tgt := 47) hx hb dX8_thing_41 (by decide) (fun c_41 => ?_) (fun c_41 => ?_)
        · have hf := ite_f c_41 hf
          refine lv_aload_n hx hb dX8_thing_47 rfl (lv_at hl 0 rfl) ?_
          refine va_get (ci := 8) (C := RX8) (T := TX8) (N := 67) (v := .ref (a0 1)) hx hb hts i_X8_thing_X8 hown hK hP 0 rfl rfl 3 (by decide) (hts _ m_X8_thing_275364) (fun _ h9 => h9) rfl dX8_thing_48 ?_
          refine lv_aload_n hx hb dX8_thing_51 rfl (lv_at hl 0 rfl) ?_
          refine va_get (ci := 8) (C := RX8) (T := TX8) (N := 67) (v := .int (s0 0 0)) hx hb hts i_X8_thing_X8 hown hK hP 0 rfl rfl 0 (by decide) (hts _ m_X8_thing_acbb5e) (fun _ h9 => h9) rfl dX8_thing_52 ?_
          refine lv_iload_n hx hb dX8_thing_55 rfl (lv_at hl 1 rfl) ?_
          obtain ⟨h_56, hf⟩ := ck_e hf
          refine va_iast (cA := E.2.1) (n := 6) (f := s0 3) (x := p1) hx hb hK hP (hDD s0 t0) hS 1 0 rfl rfl h_56 dX8_thing_56 (fun H locs hP _ hS => ?_)
          obtain ⟨s0_56, hP, hf⟩ := nm_st' (P := fun z => va_P E.1 vwCl (wX8 E a0 z t0) H) hf hP
          refine lv_aload_n hx hb dX8_thing_57 rfl (lv_at hl 0 rfl) ?_
          refine va_get (ci := 8) (C := RX8) (T := TX8) (N := 67) (v := .ref (a0 2)) hx hb hts i_X8_thing_X8 hown hK hP 0 rfl rfl 4 (by decide) (hts _ m_X8_thing_7b6120) (fun _ h9 => h9) rfl dX8_thing_58 ?_
          refine lv_aload_n hx hb dX8_thing_61 rfl (lv_at hl 0 rfl) ?_
          refine va_get (ci := 8) (C := RX8) (T := TX8) (N := 67) (v := .int (s0_56 0 0)) hx hb hts i_X8_thing_X8 hown hK hP 0 rfl rfl 0 (by decide) (hts _ m_X8_thing_acbb5e) (fun _ h9 => h9) rfl dX8_thing_62 ?_
          refine lv_iload_n hx hb dX8_thing_65 rfl (lv_at hl 2 rfl) ?_
          obtain ⟨h_66, hf⟩ := ck_e hf
          refine va_iast (cA := E.2.1) (n := 6) (f := s0_56 4) (x := p2) hx hb hK hP (hDD s0_56 t0) hS 2 0 rfl rfl h_66 dX8_thing_66 (fun H locs hP _ hS => ?_)
          obtain ⟨s0_66, hP, hf⟩ := nm_st' (P := fun z => va_P E.1 vwCl (wX8 E a0 z t0) H) hf hP
          refine lv_aload_n hx hb dX8_thing_67 rfl (lv_at hl 0 rfl) ?_
          refine va_get (ci := 8) (C := RX8) (T := TX8) (N := 67) (v := .ref (a0 3)) hx hb hts i_X8_thing_X8 hown hK hP 0 rfl rfl 5 (by decide) (hts _ m_X8_thing_fa4c49) (fun _ h9 => h9) rfl dX8_thing_68 ?_
          refine lv_aload_n hx hb dX8_thing_71 rfl (lv_at hl 0 rfl) ?_
          refine va_get (ci := 8) (C := RX8) (T := TX8) (N := 67) (v := .int (s0_66 0 0)) hx hb hts i_X8_thing_X8 hown hK hP 0 rfl rfl 0 (by decide) (hts _ m_X8_thing_acbb5e) (fun _ h9 => h9) rfl dX8_thing_72 ?_
          refine lv_iload_n hx hb dX8_thing_75 rfl (lv_at hl 3 rfl) ?_
          obtain ⟨h_76, hf⟩ := ck_e hf
          refine va_iast (cA := E.2.1) (n := 6) (f := s0_66 5) (x := p3) hx hb hK hP (hDD s0_66 t0) hS 3 0 rfl rfl h_76 dX8_thing_76 (fun H locs hP _ hS => ?_)
          obtain ⟨s0_76, hP, hf⟩ := nm_st' (P := fun z => va_P E.1 vwCl (wX8 E a0 z t0) H) hf hP
          refine lv_iconst (v := 0) hx hb dX8_thing_77 (by decide) ?_
          refine lv_istore (lv' := [(4, .int 0), (0, .ref (a0 0)), (1, .int p1), (2, .int p2), (3, .int p3)]) hx hb dX8_thing_78 hl (Nat.le_of_ble_eq_true rfl) rfl (fun ls hl => ?_)
          exact hL_80 N s0_76 0 hf _ _ _ hP hS (lv_sub hl [1, 0] rfl)
        · have hf := ite_t c_41 hf
          refine lv_bipush (v := (-4)) hx hb dX8_thing_44 (by decide) ?_
          have e9 := Option.some.inj hf
          exact rt_i hx hb hr hlocks (fst_e e9) (rtP (P := fun z => va_P E.1 vwCl (wX8 E a0 z.2 t0) H) e9 hP) hS dX8_thing_46
      · have hf := ite_t c_29 hf
        refine lv_bipush (v := (-2)) hx hb dX8_thing_32 (by decide) ?_
        have e9 := Option.some.inj hf
        exact rt_i hx hb hr hlocks (fst_e e9) (rtP (P := fun z => va_P E.1 vwCl (wX8 E a0 z.2 t0) H) e9 hP) hS dX8_thing_34
  · have hf := ite_t c_8 hf
    refine lv_iconst (v := (-1)) hx hb dX8_thing_11 (by decide) ?_
    have e9 := Option.some.inj hf
    exact rt_i hx hb hr hlocks (fst_e e9) (rtP (P := fun z => va_P E.1 vwCl (wX8 E a0 z.2 t0) H) e9 hP) hS dX8_thing_12
abbrev rm_X8_mark : Room := { frames := 2, cells := 0, slots := 0, locals := 44 }
theorem m_X8_mark_fa4c49 : Cond.fieldLink RX8 26 "PickedMatchModel" "marks" "[I" ∈ wsX8_mark := by decide +kernel
theorem i_X8_mark_X8 : ∀ w ∈ wsX80, w ∈ wsX8_mark := fun _ h => List.mem_cons_of_mem _ (List.mem_append_right _ h)
set_option maxHeartbeats 8000000 in
set_option maxRecDepth 100000 in
theorem k_X8_mark (l : Launch) (E : Ev) (a0 : Nat → Nat) (N : Nat) (s0 : St) (t0 : Nat → Nat → Int64) (p1 : Int32) (p2 : Int32) (q : (Int32 × St)) (hf : f_X8_mark N s0 p1 p2 = some q) : Ci l yX8_mark wsX8_mark rm_X8_mark E [.ref (a0 0), .int p1, .int p2] (wX8 E a0 s0 t0) (wX8 E a0 q.2 t0) q.1 := by
  unfold f_X8_mark at hf
  intro sz
  refine Met.ofW (cc := cX8_mark) (maxL := 4) (ret := (some .int)) (by decide) rfl ?_
  intro p e s m args below meth c s₁ B hml hv
  obtain ⟨rfl, hsz, hP, hK, hD0, hG, hA, hAB⟩ := start hv
  have hx := B.exec
  have hb := B.bytes
  have hr := B.returns
  have hts := atoms_spec (ws := wsX8_mark) B.pre
  have hown : s.vm.findClass RX8 = some m.cls := findClass_of_methodNamed B.named
  have hlocks := B.notSynchronized
  subst hsz
  generalize va_A (wX8 E a0 s0 t0) s.heap.size = A0 at hD0 hA hAB ⊢
  have hDD : ∀ (s0 : St) (t0 : Nat → Nat → Int64), va_D A0 (wX8 E a0 s0 t0) := fun s0 t0 => vD_addr hD0 rfl
  have hS : va_S A0 s.heap s.heap [] := va_S.rf
  have hl := lv_entry ([.ref (a0 0), .int p1, .int p2]) (n := 4) (Nat.le_of_ble_eq_true rfl)
  rw [lg_entry_eq]
  generalize (lg_sl ([.ref (a0 0), .int p1, .int p2]) ++ List.replicate (4 - (lg_sl ([.ref (a0 0), .int p1, .int p2])).length) Slot.unset).toArray = ls at hl ⊢
  have hl : lv_has ls 4 [(0, .ref (a0 0)), (1, .int p1), (2, .int p2)] := hl
  refine lv_aload_n hx hb dX8_mark_0 rfl (lv_at hl 0 rfl) ?_
  refine lv_iload_n hx hb dX8_mark_1 rfl (lv_at hl 1 rfl) ?_
  obtain ⟨q2, hc_2, hf⟩ := cl_e hf
  refine fin_i (E := E) (wc := wX8 E a0 s0 t0) (wc' := wX8 E a0 s0 t0) (va_runV (As := [.int p1]) (rest := []) ⟨hx, hb, hml, hown, hts⟩ (k_X8_isThing l E a0 N s0 t0 p1 q2 hc_2 _) (cwV 1 hts gX8_mark_X8_isThing rfl rfl rfl (by decide +kernel) ⟨(Nat.le_of_ble_eq_true rfl), (Nat.le_of_ble_eq_true rfl)⟩) (pre_v (ci := 8) (q0 := 0) hK hP (hDD s0 t0) hS hG hAB rfl rfl) rfl rfl hl.1 rfl (lv_room (Nat.le_of_ble_eq_true rfl)) dX8_mark_2 ⟨Nat.zero_le _, Nat.zero_le _⟩) hS (w_free (hDD s0 t0) hS hA (fun _ h => h)) (fun H locs hP1 hk hS => ?_)
  have hP := hP1
  refine lv_if_ne (tgt := 10) hx hb dX8_mark_5 (by decide) (fun c_5 => ?_) (fun c_5 => ?_)
  · have hf := ite_f c_5 hf
    refine lv_aload_n hx hb dX8_mark_10 rfl (lv_at hl 0 rfl) ?_
    refine lv_iload_n hx hb dX8_mark_11 rfl (lv_at hl 2 rfl) ?_
    obtain ⟨q12, hc_12, hf⟩ := cl_e hf
    refine fin_i (E := E) (wc := wX8 E a0 s0 t0) (wc' := wX8 E a0 s0 t0) (va_runV (As := [.int p2]) (rest := []) ⟨hx, hb, hml, hown, hts⟩ (k_X8_isMarks l E a0 N s0 t0 p2 q12 hc_12 _) (cwV 1 hts gX8_mark_X8_isMarks rfl rfl rfl (by decide +kernel) ⟨(Nat.le_of_ble_eq_true rfl), (Nat.le_of_ble_eq_true rfl)⟩) (pre_v (ci := 8) (q0 := 0) hK hP (hDD s0 t0) hS hG hAB rfl rfl) rfl rfl hl.1 rfl (lv_room (Nat.le_of_ble_eq_true rfl)) dX8_mark_12 ⟨Nat.zero_le _, Nat.zero_le _⟩) hS (w_free (hDD s0 t0) hS hA (fun _ h => h)) (fun H locs hP1 hk hS => ?_)
    have hP := hP1
    refine lv_if_ne (tgt := 21) hx hb dX8_mark_15 (by decide) (fun c_15 => ?_) (fun c_15 => ?_)
    · have hf := ite_f c_15 hf
      refine lv_aload_n hx hb dX8_mark_21 rfl (lv_at hl 0 rfl) ?_
      refine va_get (ci := 8) (C := RX8) (T := TX8) (N := 67) (v := .ref (a0 3)) hx hb hts i_X8_mark_X8 hown hK hP 0 rfl rfl 5 (by decide) (hts _ m_X8_mark_fa4c49) (fun _ h9 => h9) rfl dX8_mark_22 ?_
      refine lv_iload_n hx hb dX8_mark_25 rfl (lv_at hl 1 rfl) ?_
      obtain ⟨h_26, hf⟩ := ck_e hf
      refine va_iald (cA := E.2.1) (n := 6) (f := s0 5) hx hb hK hP 3 0 rfl rfl h_26 dX8_mark_26 ?_
      refine lv_topi (fun x27 e_x27 => ?_)
      have hf := nm_q e_x27 hf
      refine lv_istore_n (lv' := [(3, .int x27), (0, .ref (a0 0)), (1, .int p1), (2, .int p2)]) hx hb dX8_mark_27 rfl hl (Nat.le_of_ble_eq_true rfl) rfl (fun ls hl => ?_)
      refine lv_aload_n hx hb dX8_mark_28 rfl (lv_at hl 1 rfl) ?_
      refine va_get (ci := 8) (C := RX8) (T := TX8) (N := 67) (v := .ref (a0 3)) hx hb hts i_X8_mark_X8 hown hK hP 0 rfl rfl 5 (by decide) (hts _ m_X8_mark_fa4c49) (fun _ h9 => h9) rfl dX8_mark_29 ?_
      refine lv_iload_n hx hb dX8_mark_32 rfl (lv_at hl 2 rfl) ?_
      refine lv_iload_n hx hb dX8_mark_33 rfl (lv_at hl 3 rfl) ?_
      obtain ⟨h_34, hf⟩ := ck_e hf
      refine va_iast (cA := E.2.1) (n := 6) (f := s0 5) (x := p2) hx hb hK hP (hDD s0 t0) hS 3 0 rfl rfl h_34 dX8_mark_34 (fun H locs hP _ hS => ?_)
      obtain ⟨s0_34, hP, hf⟩ := nm_st' (P := fun z => va_P E.1 vwCl (wX8 E a0 z t0) H) hf hP
      refine lv_iload_n hx hb dX8_mark_35 rfl (lv_at hl 0 rfl) ?_
      have e9 := Option.some.inj hf
      exact rt_i hx hb hr hlocks (fst_e e9) (rtP (P := fun z => va_P E.1 vwCl (wX8 E a0 z.2 t0) H) e9 hP) hS dX8_mark_36
    · have hf := ite_t c_15 hf
      refine lv_bipush (v := (-2)) hx hb dX8_mark_18 (by decide) ?_
      have e9 := Option.some.inj hf
      exact rt_i hx hb hr hlocks (fst_e e9) (rtP (P := fun z => va_P E.1 vwCl (wX8 E a0 z.2 t0) H) e9 hP) hS dX8_mark_20
  · have hf := ite_t c_5 hf
    refine lv_iconst (v := (-1)) hx hb dX8_mark_8 (by decide) ?_
    have e9 := Option.some.inj hf
    exact rt_i hx hb hr hlocks (fst_e e9) (rtP (P := fun z => va_P E.1 vwCl (wX8 E a0 z.2 t0) H) e9 hP) hS dX8_mark_9
abbrev rm_X8_row : Room := { frames := 2, cells := 0, slots := 0, locals := 44 }
theorem m_X8_row_275364 : Cond.fieldLink RX8 19 "PickedMatchModel" "kind" "[I" ∈ wsX8_row := by decide +kernel
theorem i_X8_row_X8 : ∀ w ∈ wsX80, w ∈ wsX8_row := fun _ h => List.mem_cons_of_mem _ (List.mem_append_right _ h)
theorem m_X8_row_096e14 : Cond.fieldLink RX8 29 "PickedMatchModel" "rows" "[I" ∈ wsX8_row := by decide +kernel
set_option maxHeartbeats 8000000 in
set_option maxRecDepth 100000 in
theorem k_X8_row (l : Launch) (E : Ev) (a0 : Nat → Nat) (N : Nat) (s0 : St) (t0 : Nat → Nat → Int64) (p1 : Int32) (p2 : Int32) (p3 : Int32) (q : (Int32 × St)) (hf : f_X8_row N s0 p1 p2 p3 = some q) : Ci l yX8_row wsX8_row rm_X8_row E [.ref (a0 0), .int p1, .int p2, .int p3] (wX8 E a0 s0 t0) (wX8 E a0 q.2 t0) q.1 := by
  unfold f_X8_row at hf
  intro sz
  refine Met.ofW (cc := cX8_row) (maxL := 5) (ret := (some .int)) (by decide) rfl ?_
  intro p e s m args below meth c s₁ B hml hv
  obtain ⟨rfl, hsz, hP, hK, hD0, hG, hA, hAB⟩ := start hv
  have hx := B.exec
  have hb := B.bytes
  have hr := B.returns
  have hts := atoms_spec (ws := wsX8_row) B.pre
  have hown : s.vm.findClass RX8 = some m.cls := findClass_of_methodNamed B.named
  have hlocks := B.notSynchronized
  subst hsz
  generalize va_A (wX8 E a0 s0 t0) s.heap.size = A0 at hD0 hA hAB ⊢
  have hDD : ∀ (s0 : St) (t0 : Nat → Nat → Int64), va_D A0 (wX8 E a0 s0 t0) := fun s0 t0 => vD_addr hD0 rfl
  have hS : va_S A0 s.heap s.heap [] := va_S.rf
  have hl := lv_entry ([.ref (a0 0), .int p1, .int p2, .int p3]) (n := 5) (Nat.le_of_ble_eq_true rfl)
  rw [lg_entry_eq]
  generalize (lg_sl ([.ref (a0 0), .int p1, .int p2, .int p3]) ++ List.replicate (5 - (lg_sl ([.ref (a0 0), .int p1, .int p2, .int p3])).length) Slot.unset).toArray = ls at hl ⊢
  have hl : lv_has ls 5 [(0, .ref (a0 0)), (1, .int p1), (2, .int p2), (3, .int p3)] := hl
  refine lv_aload_n hx hb dX8_row_0 rfl (lv_at hl 0 rfl) ?_
  refine lv_iload_n hx hb dX8_row_1 rfl (lv_at hl 1 rfl) ?_
  obtain ⟨q2, hc_2, hf⟩ := cl_e hf
  refine fin_i (E := E) (wc := wX8 E a0 s0 t0) (wc' := wX8 E a0 s0 t0) (va_runV (As := [.int p1]) (rest := []) ⟨hx, hb, hml, hown, hts⟩ (k_X8_isThing l E a0 N s0 t0 p1 q2 hc_2 _) (cwV 1 hts gX8_row_X8_isThing rfl rfl rfl (by decide +kernel) ⟨(Nat.le_of_ble_eq_true rfl), (Nat.le_of_ble_eq_true rfl)⟩) (pre_v (ci := 8) (q0 := 0) hK hP (hDD s0 t0) hS hG hAB rfl rfl) rfl rfl hl.1 rfl (lv_room (Nat.le_of_ble_eq_true rfl)) dX8_row_2 ⟨Nat.zero_le _, Nat.zero_le _⟩) hS (w_free (hDD s0 t0) hS hA (fun _ h => h)) (fun H locs hP1 hk hS => ?_)
  have hP := hP1
  refine lv_if_eq (tgt := 18) hx hb dX8_row_5 (by decide) (fun c_5 => ?_) (fun c_5 => ?_)
  · have hf := ite_t c_5 hf
    refine lv_iconst (v := (-1)) hx hb dX8_row_18 (by decide) ?_
    have e9 := Option.some.inj hf
    exact rt_i hx hb hr hlocks (fst_e e9) (rtP (P := fun z => va_P E.1 vwCl (wX8 E a0 z.2 t0) H) e9 hP) hS dX8_row_19
  · have hf := ite_f c_5 hf
    refine lv_aload_n hx hb dX8_row_8 rfl (lv_at hl 0 rfl) ?_
    refine lv_iload_n hx hb dX8_row_9 rfl (lv_at hl 2 rfl) ?_
    refine lv_iconst (v := 0) hx hb dX8_row_10 (by decide) ?_
    refine lv_iconst (v := 3) hx hb dX8_row_11 (by decide) ?_
    obtain ⟨q12, hc_12, hf⟩ := cl_e hf
    refine fin_i (E := E) (wc := wX8 E a0 s0 t0) (wc' := wX8 E a0 s0 t0) (va_runV (As := [.int p2, .int 0, .int 3]) (rest := []) ⟨hx, hb, hml, hown, hts⟩ (k_X8_in l E a0 N s0 t0 p2 0 3 q12 hc_12 _) (cwV 3 hts gX8_row_X8_in rfl rfl rfl (by decide +kernel) ⟨(Nat.le_of_ble_eq_true rfl), (Nat.le_of_ble_eq_true rfl)⟩) (pre_v (ci := 8) (q0 := 0) hK hP (hDD s0 t0) hS hG hAB rfl rfl) rfl rfl hl.1 rfl (lv_room (Nat.le_of_ble_eq_true rfl)) dX8_row_12 ⟨Nat.zero_le _, Nat.zero_le _⟩) hS (w_free (hDD s0 t0) hS hA (fun _ h => h)) (fun H locs hP1 hk hS => ?_)
    have hP := hP1
    refine lv_if_ne (tgt := 20) hx hb dX8_row_15 (by decide) (fun c_15 => ?_) (fun c_15 => ?_)
    · have hf := ite_f c_15 hf
      refine lv_aload_n hx hb dX8_row_20 rfl (lv_at hl 0 rfl) ?_
      refine lv_iload_n hx hb dX8_row_21 rfl (lv_at hl 3 rfl) ?_
      refine lv_iconst (v := 0) hx hb dX8_row_22 (by decide) ?_
      refine lv_bipush (v := 9) hx hb dX8_row_23 (by decide) ?_
      obtain ⟨q25, hc_25, hf⟩ := cl_e hf
      refine fin_i (E := E) (wc := wX8 E a0 s0 t0) (wc' := wX8 E a0 s0 t0) (va_runV (As := [.int p3, .int 0, .int 9]) (rest := []) ⟨hx, hb, hml, hown, hts⟩ (k_X8_in l E a0 N s0 t0 p3 0 9 q25 hc_25 _) (cwV 3 hts gX8_row_X8_in rfl rfl rfl (by decide +kernel) ⟨(Nat.le_of_ble_eq_true rfl), (Nat.le_of_ble_eq_true rfl)⟩) (pre_v (ci := 8) (q0 := 0) hK hP (hDD s0 t0) hS hG hAB rfl rfl) rfl rfl hl.1 rfl (lv_room (Nat.le_of_ble_eq_true rfl)) dX8_row_25 ⟨Nat.zero_le _, Nat.zero_le _⟩) hS (w_free (hDD s0 t0) hS hA (fun _ h => h)) (fun H locs hP1 hk hS => ?_)
      have hP := hP1
      refine lv_if_ne (tgt := 34) hx hb dX8_row_28 (by decide) (fun c_28 => ?_) (fun c_28 => ?_)
      · have hf := ite_f c_28 hf
        refine lv_aload_n hx hb dX8_row_34 rfl (lv_at hl 0 rfl) ?_
        refine va_get (ci := 8) (C := RX8) (T := TX8) (N := 67) (v := .ref (a0 1)) hx hb hts i_X8_row_X8 hown hK hP 0 rfl rfl 3 (by decide) (hts _ m_X8_row_275364) (fun _ h9 => h9) rfl dX8_row_35 ?_
        refine lv_iload_n hx hb dX8_row_38 rfl (lv_at hl 1 rfl) ?_
        obtain ⟨h_39, hf⟩ := ck_e hf
        refine va_iald (cA := E.2.1) (n := 6) (f := s0 3) hx hb hK hP 1 0 rfl rfl h_39 dX8_row_39 ?_
        refine lv_bipush (v := 6) hx hb dX8_row_40 (by decide) ?_
        refine lv_icmp_eq (tgt := 48) hx hb dX8_row_42 (by decide) (fun c_42 => ?_) (fun c_42 => ?_)
        · have hf := ite_t c_42 hf
          refine lv_aload_n hx hb dX8_row_48 rfl (lv_at hl 0 rfl) ?_
          refine va_get (ci := 8) (C := RX8) (T := TX8) (N := 67) (v := .ref (a0 4)) hx hb hts i_X8_row_X8 hown hK hP 0 rfl rfl 6 (by decide) (hts _ m_X8_row_096e14) (fun _ h9 => h9) rfl dX8_row_49 ?_
          refine lv_iconst (v := 4) hx hb dX8_row_52 (by decide) ?_
          refine lv_iload_n hx hb dX8_row_53 rfl (lv_at hl 1 rfl) ?_
          refine lv_imul hx hb dX8_row_54 ?_
          refine lv_iload_n hx hb dX8_row_55 rfl (lv_at hl 2 rfl) ?_
          refine lv_iadd hx hb dX8_row_56 ?_
          obtain ⟨h_57, hf⟩ := ck_e hf
          refine va_iald (cA := E.2.1) (n := 24) (f := s0 6) hx hb hK hP 4 0 rfl rfl h_57 dX8_row_57 ?_
          refine lv_topi (fun x58 e_x58 => ?_)
          have hf := nm_q e_x58 hf
          refine lv_istore (lv' := [(4, .int x58), (0, .ref (a0 0)), (1, .int p1), (2, .int p2), (3, .int p3)]) hx hb dX8_row_58 hl (Nat.le_of_ble_eq_true rfl) rfl (fun ls hl => ?_)
          refine lv_aload_n hx hb dX8_row_60 rfl (lv_at hl 1 rfl) ?_
          refine va_get (ci := 8) (C := RX8) (T := TX8) (N := 67) (v := .ref (a0 4)) hx hb hts i_X8_row_X8 hown hK hP 0 rfl rfl 6 (by decide) (hts _ m_X8_row_096e14) (fun _ h9 => h9) rfl dX8_row_61 ?_
          refine lv_iconst (v := 4) hx hb dX8_row_64 (by decide) ?_
          refine lv_iload_n hx hb dX8_row_65 rfl (lv_at hl 2 rfl) ?_
          refine lv_imul hx hb dX8_row_66 ?_
          refine lv_iload_n hx hb dX8_row_67 rfl (lv_at hl 3 rfl) ?_
          refine lv_iadd hx hb dX8_row_68 ?_
          refine lv_iload_n hx hb dX8_row_69 rfl (lv_at hl 4 rfl) ?_
          obtain ⟨h_70, hf⟩ := ck_e hf
          refine va_iast (cA := E.2.1) (n := 24) (f := s0 6) (x := p3) hx hb hK hP (hDD s0 t0) hS 4 0 rfl rfl h_70 dX8_row_70 (fun H locs hP _ hS => ?_)
          obtain ⟨s0_70, hP, hf⟩ := nm_st' (P := fun z => va_P E.1 vwCl (wX8 E a0 z t0) H) hf hP
          refine lv_iload hx hb dX8_row_71 (lv_at hl 0 rfl) ?_
          have e9 := Option.some.inj hf
          exact rt_i hx hb hr hlocks (fst_e e9) (rtP (P := fun z => va_P E.1 vwCl (wX8 E a0 z.2 t0) H) e9 hP) hS dX8_row_73
        · have hf := ite_f c_42 hf
          refine lv_bipush (v := (-3)) hx hb dX8_row_45 (by decide) ?_
          have e9 := Option.some.inj hf
          exact rt_i hx hb hr hlocks (fst_e e9) (rtP (P := fun z => va_P E.1 vwCl (wX8 E a0 z.2 t0) H) e9 hP) hS dX8_row_47
      · have hf := ite_t c_28 hf
        refine lv_bipush (v := (-2)) hx hb dX8_row_31 (by decide) ?_
        have e9 := Option.some.inj hf
        exact rt_i hx hb hr hlocks (fst_e e9) (rtP (P := fun z => va_P E.1 vwCl (wX8 E a0 z.2 t0) H) e9 hP) hS dX8_row_33
    · have hf := ite_t c_15 hf
      refine lv_iconst (v := (-1)) hx hb dX8_row_18 (by decide) ?_
      have e9 := Option.some.inj hf
      exact rt_i hx hb hr hlocks (fst_e e9) (rtP (P := fun z => va_P E.1 vwCl (wX8 E a0 z.2 t0) H) e9 hP) hS dX8_row_19
abbrev rm_X8_placeOf : Room := { frames := 0, cells := 0, slots := 0, locals := 0 }
theorem m_X8_placeOf_92e5f7 : Cond.fieldLink RX8 13 "PickedMatchModel" "had" "I" ∈ wsX8_placeOf := by decide +kernel
theorem i_X8_placeOf_X8 : ∀ w ∈ wsX80, w ∈ wsX8_placeOf := fun _ h => List.mem_cons_of_mem _ (List.mem_append_right _ h)
theorem m_X8_placeOf_ef0124 : Cond.fieldLink RX8 32 "PickedMatchModel" "hadOf" "[I" ∈ wsX8_placeOf := by decide +kernel
set_option maxHeartbeats 8000000 in
set_option maxRecDepth 100000 in
theorem k_X8_placeOf (l : Launch) (E : Ev) (a0 : Nat → Nat) (N : Nat) (s0 : St) (t0 : Nat → Nat → Int64) (p1 : Int32) (q : (Int32)) (hf : f_X8_placeOf N s0 p1 = some q) : Ci l yX8_placeOf wsX8_placeOf rm_X8_placeOf E [.ref (a0 0), .int p1] (wX8 E a0 s0 t0) (wX8 E a0 s0 t0) q := by
  unfold f_X8_placeOf at hf
  intro sz
  refine Met.ofW (cc := cX8_placeOf) (maxL := 3) (ret := (some .int)) (by decide) rfl ?_
  intro p e s m args below meth c s₁ B hml hv
  obtain ⟨rfl, hsz, hP, hK, hD0, hG, hA, hAB⟩ := start hv
  have hx := B.exec
  have hb := B.bytes
  have hr := B.returns
  have hts := atoms_spec (ws := wsX8_placeOf) B.pre
  have hown : s.vm.findClass RX8 = some m.cls := findClass_of_methodNamed B.named
  have hlocks := B.notSynchronized
  subst hsz
  generalize va_A (wX8 E a0 s0 t0) s.heap.size = A0 at hD0 hA hAB ⊢
  have hDD : ∀ (s0 : St) (t0 : Nat → Nat → Int64), va_D A0 (wX8 E a0 s0 t0) := fun s0 t0 => vD_addr hD0 rfl
  have hS : va_S A0 s.heap s.heap [] := va_S.rf
  have hl := lv_entry ([.ref (a0 0), .int p1]) (n := 3) (Nat.le_of_ble_eq_true rfl)
  rw [lg_entry_eq]
  generalize (lg_sl ([.ref (a0 0), .int p1]) ++ List.replicate (3 - (lg_sl ([.ref (a0 0), .int p1])).length) Slot.unset).toArray = ls at hl ⊢
  have hl : lv_has ls 3 [(0, .ref (a0 0)), (1, .int p1)] := hl
  have hL_2 : ∀ (s0 : St) (v1 : Int32) (n_2 : Nat) (v2 : Int32), l_X8_placeOf_2 N s0 v1 n_2 v2 = some q → ∀ (H : Heap) (locs : List Loc) (ls : Array Slot), va_P E.1 vwCl (wX8 E a0 s0 t0) H → va_S A0 s.heap H locs → lv_has ls 3 [(0, .ref (a0 0)), (1, .int v1), (2, .int v2)] → W p l e rm_X8_placeOf s m ([.ref (a0 0), .int p1] : List Value).toArray below meth c H locs 0 0 (MQ below (va_Qi (fun (r' : Int32) (_ : Unit) => r' = q) (fun _ t => va_P E.1 vwCl (wX8 E a0 s0 t0) t.heap) A0) ([.ref (a0 0), .int p1] : List Value).toArray s 0 0 A0) (F0 m 2 ls []) := by
    intro s0 v1 n_2
    induction n_2 with
    | zero => intro v2 hf; rw [l_X8_placeOf_2] at hf; cases hf
    | succ n_2 ih_2 =>
      intro v2 hf H locs ls hP hS hl
      rw [l_X8_placeOf_2] at hf
      refine lv_iload_n hx hb dX8_placeOf_2 rfl (lv_at hl 2 rfl) ?_
      refine lv_aload_n hx hb dX8_placeOf_3 rfl (lv_at hl 0 rfl) ?_
      refine va_get (ci := 8) (C := RX8) (T := TX8) (N := 67) (v := .int (s0 1 0)) hx hb hts i_X8_placeOf_X8 hown hK hP 0 rfl rfl 1 (by decide) (hts _ m_X8_placeOf_92e5f7) (fun _ h9 => h9) rfl dX8_placeOf_4 ?_
      refine lv_icmp_ge (tgt := 28) hx hb dX8_placeOf_7 (by decide) (fun c_7 => ?_) (fun c_7 => ?_)
      · have hf := ite_t c_7 hf
        refine lv_bipush (v := (-5)) hx hb dX8_placeOf_28 (by decide) ?_
        have e9 := Option.some.inj hf
        exact rt_i hx hb hr hlocks e9 hP hS dX8_placeOf_30
      · have hf := ite_f c_7 hf
        refine lv_aload_n hx hb dX8_placeOf_10 rfl (lv_at hl 0 rfl) ?_
        refine va_get (ci := 8) (C := RX8) (T := TX8) (N := 67) (v := .ref (a0 5)) hx hb hts i_X8_placeOf_X8 hown hK hP 0 rfl rfl 7 (by decide) (hts _ m_X8_placeOf_ef0124) (fun _ h9 => h9) rfl dX8_placeOf_11 ?_
        refine lv_iload_n hx hb dX8_placeOf_14 rfl (lv_at hl 2 rfl) ?_
        obtain ⟨h_15, hf⟩ := ck_e hf
        refine va_iald (cA := E.2.1) (n := 6) (f := s0 7) hx hb hK hP 5 0 rfl rfl h_15 dX8_placeOf_15 ?_
        refine lv_iload_n hx hb dX8_placeOf_16 rfl (lv_at hl 1 rfl) ?_
        refine lv_icmp_ne (tgt := 22) hx hb dX8_placeOf_17 (by decide) (fun c_17 => ?_) (fun c_17 => ?_)
        · have hf := ite_f c_17 hf
          obtain ⟨x22, e_x22⟩ : ∃ y : Int32, y = v2 + 1 := ⟨_, rfl⟩
          have hf := nm_q e_x22 hf
          refine lv_iinc (v := x22) (lv' := [(2, .int x22), (0, .ref (a0 0)), (1, .int v1)]) hx hb dX8_placeOf_22 hl (k := 2) rfl (by rw [e_x22]; rfl) (Nat.le_of_ble_eq_true rfl) rfl (fun ls hl => ?_)
          refine lv_goto (tgt := 2) hx hb dX8_placeOf_25 (by decide) ?_
          exact ih_2 x22 hf _ _ _ hP hS (lv_sub hl [1, 2, 0] rfl)
        · have hf := ite_t c_17 hf
          refine lv_iload_n hx hb dX8_placeOf_20 rfl (lv_at hl 2 rfl) ?_
          have e9 := Option.some.inj hf
          exact rt_i hx hb hr hlocks e9 hP hS dX8_placeOf_21
  refine lv_iconst (v := 0) hx hb dX8_placeOf_0 (by decide) ?_
  refine lv_istore_n (lv' := [(2, .int 0), (0, .ref (a0 0)), (1, .int p1)]) hx hb dX8_placeOf_1 rfl hl (Nat.le_of_ble_eq_true rfl) rfl (fun ls hl => ?_)
  exact hL_2 s0 p1 N 0 hf _ _ _ hP hS (lv_sub hl [1, 2, 0] rfl)
abbrev rm_X8_isHad : Room := { frames := 1, cells := 0, slots := 0, locals := 22 }
set_option maxHeartbeats 8000000 in
set_option maxRecDepth 100000 in
theorem k_X8_isHad (l : Launch) (E : Ev) (a0 : Nat → Nat) (N : Nat) (s0 : St) (t0 : Nat → Nat → Int64) (p1 : Int32) (q : (Int32)) (hf : f_X8_isHad N s0 p1 = some q) : Ci l yX8_isHad wsX8_isHad rm_X8_isHad E [.ref (a0 0), .int p1] (wX8 E a0 s0 t0) (wX8 E a0 s0 t0) q := by
  unfold f_X8_isHad at hf
  intro sz
  refine Met.ofW (cc := cX8_isHad) (maxL := 2) (ret := (some .boolean)) (by decide) rfl ?_
  intro p e s m args below meth c s₁ B hml hv
  obtain ⟨rfl, hsz, hP, hK, hD0, hG, hA, hAB⟩ := start hv
  have hx := B.exec
  have hb := B.bytes
  have hr := B.returns
  have hts := atoms_spec (ws := wsX8_isHad) B.pre
  have hown : s.vm.findClass RX8 = some m.cls := findClass_of_methodNamed B.named
  have hlocks := B.notSynchronized
  subst hsz
  generalize va_A (wX8 E a0 s0 t0) s.heap.size = A0 at hD0 hA hAB ⊢
  have hDD : ∀ (s0 : St) (t0 : Nat → Nat → Int64), va_D A0 (wX8 E a0 s0 t0) := fun s0 t0 => vD_addr hD0 rfl
  have hS : va_S A0 s.heap s.heap [] := va_S.rf
  have hl := lv_entry ([.ref (a0 0), .int p1]) (n := 2) (Nat.le_of_ble_eq_true rfl)
  rw [lg_entry_eq]
  generalize (lg_sl ([.ref (a0 0), .int p1]) ++ List.replicate (2 - (lg_sl ([.ref (a0 0), .int p1])).length) Slot.unset).toArray = ls at hl ⊢
  have hl : lv_has ls 2 [(0, .ref (a0 0)), (1, .int p1)] := hl
  refine lv_aload_n hx hb dX8_isHad_0 rfl (lv_at hl 0 rfl) ?_
  refine lv_iload_n hx hb dX8_isHad_1 rfl (lv_at hl 1 rfl) ?_
  obtain ⟨q2, hc_2, hf⟩ := cl_e hf
  refine fin_i (E := E) (wc := wX8 E a0 s0 t0) (wc' := wX8 E a0 s0 t0) (va_runV (As := [.int p1]) (rest := []) ⟨hx, hb, hml, hown, hts⟩ (k_X8_placeOf l E a0 N s0 t0 p1 q2 hc_2 _) (cwV 1 hts gX8_isHad_X8_placeOf rfl rfl rfl (by decide +kernel) ⟨(Nat.le_of_ble_eq_true rfl), (Nat.le_of_ble_eq_true rfl)⟩) (pre_v (ci := 8) (q0 := 0) hK hP (hDD s0 t0) hS hG hAB rfl rfl) rfl rfl hl.1 rfl (lv_room (Nat.le_of_ble_eq_true rfl)) dX8_isHad_2 ⟨Nat.zero_le _, Nat.zero_le _⟩) hS (w_free (hDD s0 t0) hS hA (fun _ h => h)) (fun H locs hP1 hk hS => ?_)
  have hP := hP1
  refine lv_if_lt (tgt := 12) hx hb dX8_isHad_5 (by decide) (fun c_5 => ?_) (fun c_5 => ?_)
  · have hf := ite_t c_5 hf
    refine lv_iconst (v := 0) hx hb dX8_isHad_12 (by decide) ?_
    have e9 := Option.some.inj hf
    exact rt_z hx hb hr rfl hlocks e9 hP hS dX8_isHad_13
  · have hf := ite_f c_5 hf
    refine lv_iconst (v := 1) hx hb dX8_isHad_8 (by decide) ?_
    refine lv_goto (tgt := 13) hx hb dX8_isHad_9 (by decide) ?_
    have e9 := Option.some.inj hf
    exact rt_z hx hb hr rfl hlocks e9 hP hS dX8_isHad_13
abbrev rm_X8_hadSet : Room := { frames := 0, cells := 0, slots := 0, locals := 0 }
theorem m_X8_hadSet_92e5f7 : Cond.fieldLink RX8 13 "PickedMatchModel" "had" "I" ∈ wsX8_hadSet := by decide +kernel
theorem i_X8_hadSet_X8 : ∀ w ∈ wsX80, w ∈ wsX8_hadSet := fun _ h => List.mem_cons_of_mem _ (List.mem_append_right _ h)
theorem m_X8_hadSet_ef0124 : Cond.fieldLink RX8 32 "PickedMatchModel" "hadOf" "[I" ∈ wsX8_hadSet := by decide +kernel
set_option maxHeartbeats 8000000 in
set_option maxRecDepth 100000 in
theorem k_X8_hadSet (l : Launch) (E : Ev) (a0 : Nat → Nat) (N : Nat) (s0 : St) (t0 : Nat → Nat → Int64) (q : (Int32)) (hf : f_X8_hadSet N s0 = some q) : Ci l yX8_hadSet wsX8_hadSet rm_X8_hadSet E [.ref (a0 0)] (wX8 E a0 s0 t0) (wX8 E a0 s0 t0) q := by
  unfold f_X8_hadSet at hf
  intro sz
  refine Met.ofW (cc := cX8_hadSet) (maxL := 3) (ret := (some .int)) (by decide) rfl ?_
  intro p e s m args below meth c s₁ B hml hv
  obtain ⟨rfl, hsz, hP, hK, hD0, hG, hA, hAB⟩ := start hv
  have hx := B.exec
  have hb := B.bytes
  have hr := B.returns
  have hts := atoms_spec (ws := wsX8_hadSet) B.pre
  have hown : s.vm.findClass RX8 = some m.cls := findClass_of_methodNamed B.named
  have hlocks := B.notSynchronized
  subst hsz
  generalize va_A (wX8 E a0 s0 t0) s.heap.size = A0 at hD0 hA hAB ⊢
  have hDD : ∀ (s0 : St) (t0 : Nat → Nat → Int64), va_D A0 (wX8 E a0 s0 t0) := fun s0 t0 => vD_addr hD0 rfl
  have hS : va_S A0 s.heap s.heap [] := va_S.rf
  have hl := lv_entry ([.ref (a0 0)]) (n := 3) (Nat.le_of_ble_eq_true rfl)
  rw [lg_entry_eq]
  generalize (lg_sl ([.ref (a0 0)]) ++ List.replicate (3 - (lg_sl ([.ref (a0 0)])).length) Slot.unset).toArray = ls at hl ⊢
  have hl : lv_has ls 3 [(0, .ref (a0 0))] := hl
  have hL_4 : ∀ (s0 : St) (n_4 : Nat) (v1 : Int32) (v2 : Int32), l_X8_hadSet_4 N s0 n_4 v1 v2 = some q → ∀ (H : Heap) (locs : List Loc) (ls : Array Slot), va_P E.1 vwCl (wX8 E a0 s0 t0) H → va_S A0 s.heap H locs → lv_has ls 3 [(0, .ref (a0 0)), (1, .int v1), (2, .int v2)] → W p l e rm_X8_hadSet s m ([.ref (a0 0)] : List Value).toArray below meth c H locs 0 0 (MQ below (va_Qi (fun (r' : Int32) (_ : Unit) => r' = q) (fun _ t => va_P E.1 vwCl (wX8 E a0 s0 t0) t.heap) A0) ([.ref (a0 0)] : List Value).toArray s 0 0 A0) (F0 m 4 ls []) := by
    intro s0 n_4
    induction n_4 with
    | zero => intro v1 v2 hf; rw [l_X8_hadSet_4] at hf; cases hf
    | succ n_4 ih_4 =>
      intro v1 v2 hf H locs ls hP hS hl
      rw [l_X8_hadSet_4] at hf
      refine lv_iload_n hx hb dX8_hadSet_4 rfl (lv_at hl 2 rfl) ?_
      refine lv_aload_n hx hb dX8_hadSet_5 rfl (lv_at hl 0 rfl) ?_
      refine va_get (ci := 8) (C := RX8) (T := TX8) (N := 67) (v := .int (s0 1 0)) hx hb hts i_X8_hadSet_X8 hown hK hP 0 rfl rfl 1 (by decide) (hts _ m_X8_hadSet_92e5f7) (fun _ h9 => h9) rfl dX8_hadSet_6 ?_
      refine lv_icmp_ge (tgt := 29) hx hb dX8_hadSet_9 (by decide) (fun c_9 => ?_) (fun c_9 => ?_)
      · have hf := ite_t c_9 hf
        refine lv_iload_n hx hb dX8_hadSet_29 rfl (lv_at hl 1 rfl) ?_
        have e9 := Option.some.inj hf
        exact rt_i hx hb hr hlocks e9 hP hS dX8_hadSet_30
      · have hf := ite_f c_9 hf
        refine lv_iload_n hx hb dX8_hadSet_12 rfl (lv_at hl 1 rfl) ?_
        refine lv_iconst (v := 1) hx hb dX8_hadSet_13 (by decide) ?_
        refine lv_aload_n hx hb dX8_hadSet_14 rfl (lv_at hl 0 rfl) ?_
        refine va_get (ci := 8) (C := RX8) (T := TX8) (N := 67) (v := .ref (a0 5)) hx hb hts i_X8_hadSet_X8 hown hK hP 0 rfl rfl 7 (by decide) (hts _ m_X8_hadSet_ef0124) (fun _ h9 => h9) rfl dX8_hadSet_15 ?_
        refine lv_iload_n hx hb dX8_hadSet_18 rfl (lv_at hl 2 rfl) ?_
        obtain ⟨h_19, hf⟩ := ck_e hf
        refine va_iald (cA := E.2.1) (n := 6) (f := s0 7) hx hb hK hP 5 0 rfl rfl h_19 dX8_hadSet_19 ?_
        refine lv_ishl hx hb dX8_hadSet_20 ?_
        refine lv_ior hx hb dX8_hadSet_21 ?_
        refine lv_topi (fun x22 e_x22 => ?_)
        have hf := nm_q e_x22 hf
        refine lv_istore_n (lv' := [(1, .int x22), (0, .ref (a0 0)), (2, .int v2)]) hx hb dX8_hadSet_22 rfl hl (Nat.le_of_ble_eq_true rfl) rfl (fun ls hl => ?_)
        obtain ⟨x23, e_x23⟩ : ∃ y : Int32, y = v2 + 1 := ⟨_, rfl⟩
        have hf := nm_q e_x23 hf
        refine lv_iinc (v := x23) (lv' := [(2, .int x23), (1, .int x22), (0, .ref (a0 0))]) hx hb dX8_hadSet_23 hl (k := 2) rfl (by rw [e_x23]; rfl) (Nat.le_of_ble_eq_true rfl) rfl (fun ls hl => ?_)
        refine lv_goto (tgt := 4) hx hb dX8_hadSet_26 (by decide) ?_
        exact ih_4 x22 x23 hf _ _ _ hP hS (lv_sub hl [2, 1, 0] rfl)
  refine lv_iconst (v := 0) hx hb dX8_hadSet_0 (by decide) ?_
  refine lv_istore_n (lv' := [(1, .int 0), (0, .ref (a0 0))]) hx hb dX8_hadSet_1 rfl hl (Nat.le_of_ble_eq_true rfl) rfl (fun ls hl => ?_)
  refine lv_iconst (v := 0) hx hb dX8_hadSet_2 (by decide) ?_
  refine lv_istore_n (lv' := [(2, .int 0), (1, .int 0), (0, .ref (a0 0))]) hx hb dX8_hadSet_3 rfl hl (Nat.le_of_ble_eq_true rfl) rfl (fun ls hl => ?_)
  exact hL_4 s0 N 0 0 hf _ _ _ hP hS (lv_sub hl [2, 1, 0] rfl)
abbrev rm_X8_hadMarks : Room := { frames := 0, cells := 0, slots := 0, locals := 0 }
theorem m_X8_hadMarks_92e5f7 : Cond.fieldLink RX8 13 "PickedMatchModel" "had" "I" ∈ wsX8_hadMarks := by decide +kernel
theorem i_X8_hadMarks_X8 : ∀ w ∈ wsX80, w ∈ wsX8_hadMarks := fun _ h => List.mem_cons_of_mem _ (List.mem_append_right _ h)
theorem m_X8_hadMarks_fa4c49 : Cond.fieldLink RX8 26 "PickedMatchModel" "marks" "[I" ∈ wsX8_hadMarks := by decide +kernel
theorem m_X8_hadMarks_ef0124 : Cond.fieldLink RX8 32 "PickedMatchModel" "hadOf" "[I" ∈ wsX8_hadMarks := by decide +kernel
set_option maxHeartbeats 8000000 in
set_option maxRecDepth 100000 in
theorem k_X8_hadMarks (l : Launch) (E : Ev) (a0 : Nat → Nat) (N : Nat) (s0 : St) (t0 : Nat → Nat → Int64) (q : (Int32)) (hf : f_X8_hadMarks N s0 = some q) : Ci l yX8_hadMarks wsX8_hadMarks rm_X8_hadMarks E [.ref (a0 0)] (wX8 E a0 s0 t0) (wX8 E a0 s0 t0) q := by
  unfold f_X8_hadMarks at hf
  intro sz
  refine Met.ofW (cc := cX8_hadMarks) (maxL := 3) (ret := (some .int)) (by decide) rfl ?_
  intro p e s m args below meth c s₁ B hml hv
  obtain ⟨rfl, hsz, hP, hK, hD0, hG, hA, hAB⟩ := start hv
  have hx := B.exec
  have hb := B.bytes
  have hr := B.returns
  have hts := atoms_spec (ws := wsX8_hadMarks) B.pre
  have hown : s.vm.findClass RX8 = some m.cls := findClass_of_methodNamed B.named
  have hlocks := B.notSynchronized
  subst hsz
  generalize va_A (wX8 E a0 s0 t0) s.heap.size = A0 at hD0 hA hAB ⊢
  have hDD : ∀ (s0 : St) (t0 : Nat → Nat → Int64), va_D A0 (wX8 E a0 s0 t0) := fun s0 t0 => vD_addr hD0 rfl
  have hS : va_S A0 s.heap s.heap [] := va_S.rf
  have hl := lv_entry ([.ref (a0 0)]) (n := 3) (Nat.le_of_ble_eq_true rfl)
  rw [lg_entry_eq]
  generalize (lg_sl ([.ref (a0 0)]) ++ List.replicate (3 - (lg_sl ([.ref (a0 0)])).length) Slot.unset).toArray = ls at hl ⊢
  have hl : lv_has ls 3 [(0, .ref (a0 0))] := hl
  have hL_4 : ∀ (s0 : St) (n_4 : Nat) (v1 : Int32) (v2 : Int32), l_X8_hadMarks_4 N s0 n_4 v1 v2 = some q → ∀ (H : Heap) (locs : List Loc) (ls : Array Slot), va_P E.1 vwCl (wX8 E a0 s0 t0) H → va_S A0 s.heap H locs → lv_has ls 3 [(0, .ref (a0 0)), (1, .int v1), (2, .int v2)] → W p l e rm_X8_hadMarks s m ([.ref (a0 0)] : List Value).toArray below meth c H locs 0 0 (MQ below (va_Qi (fun (r' : Int32) (_ : Unit) => r' = q) (fun _ t => va_P E.1 vwCl (wX8 E a0 s0 t0) t.heap) A0) ([.ref (a0 0)] : List Value).toArray s 0 0 A0) (F0 m 4 ls []) := by
    intro s0 n_4
    induction n_4 with
    | zero => intro v1 v2 hf; rw [l_X8_hadMarks_4] at hf; cases hf
    | succ n_4 ih_4 =>
      intro v1 v2 hf H locs ls hP hS hl
      rw [l_X8_hadMarks_4] at hf
      refine lv_iload_n hx hb dX8_hadMarks_4 rfl (lv_at hl 2 rfl) ?_
      refine lv_aload_n hx hb dX8_hadMarks_5 rfl (lv_at hl 0 rfl) ?_
      refine va_get (ci := 8) (C := RX8) (T := TX8) (N := 67) (v := .int (s0 1 0)) hx hb hts i_X8_hadMarks_X8 hown hK hP 0 rfl rfl 1 (by decide) (hts _ m_X8_hadMarks_92e5f7) (fun _ h9 => h9) rfl dX8_hadMarks_6 ?_
      refine lv_icmp_ge (tgt := 32) hx hb dX8_hadMarks_9 (by decide) (fun c_9 => ?_) (fun c_9 => ?_)
      · have hf := ite_t c_9 hf
        refine lv_iload_n hx hb dX8_hadMarks_32 rfl (lv_at hl 1 rfl) ?_
        have e9 := Option.some.inj hf
        exact rt_i hx hb hr hlocks e9 hP hS dX8_hadMarks_33
      · have hf := ite_f c_9 hf
        refine lv_iload_n hx hb dX8_hadMarks_12 rfl (lv_at hl 1 rfl) ?_
        refine lv_aload_n hx hb dX8_hadMarks_13 rfl (lv_at hl 0 rfl) ?_
        refine va_get (ci := 8) (C := RX8) (T := TX8) (N := 67) (v := .ref (a0 3)) hx hb hts i_X8_hadMarks_X8 hown hK hP 0 rfl rfl 5 (by decide) (hts _ m_X8_hadMarks_fa4c49) (fun _ h9 => h9) rfl dX8_hadMarks_14 ?_
        refine lv_aload_n hx hb dX8_hadMarks_17 rfl (lv_at hl 0 rfl) ?_
        refine va_get (ci := 8) (C := RX8) (T := TX8) (N := 67) (v := .ref (a0 5)) hx hb hts i_X8_hadMarks_X8 hown hK hP 0 rfl rfl 7 (by decide) (hts _ m_X8_hadMarks_ef0124) (fun _ h9 => h9) rfl dX8_hadMarks_18 ?_
        refine lv_iload_n hx hb dX8_hadMarks_21 rfl (lv_at hl 2 rfl) ?_
        obtain ⟨h_22, hf⟩ := ck_e hf
        refine va_iald (cA := E.2.1) (n := 6) (f := s0 7) hx hb hK hP 5 0 rfl rfl h_22 dX8_hadMarks_22 ?_
        obtain ⟨h_23, hf⟩ := ck_e hf
        refine va_iald (cA := E.2.1) (n := 6) (f := s0 5) hx hb hK hP 3 0 rfl rfl h_23 dX8_hadMarks_23 ?_
        refine lv_ior hx hb dX8_hadMarks_24 ?_
        refine lv_topi (fun x25 e_x25 => ?_)
        have hf := nm_q e_x25 hf
        refine lv_istore_n (lv' := [(1, .int x25), (0, .ref (a0 0)), (2, .int v2)]) hx hb dX8_hadMarks_25 rfl hl (Nat.le_of_ble_eq_true rfl) rfl (fun ls hl => ?_)
        obtain ⟨x26, e_x26⟩ : ∃ y : Int32, y = v2 + 1 := ⟨_, rfl⟩
        have hf := nm_q e_x26 hf
        refine lv_iinc (v := x26) (lv' := [(2, .int x26), (1, .int x25), (0, .ref (a0 0))]) hx hb dX8_hadMarks_26 hl (k := 2) rfl (by rw [e_x26]; rfl) (Nat.le_of_ble_eq_true rfl) rfl (fun ls hl => ?_)
        refine lv_goto (tgt := 4) hx hb dX8_hadMarks_29 (by decide) ?_
        exact ih_4 x25 x26 hf _ _ _ hP hS (lv_sub hl [2, 1, 0] rfl)
  refine lv_iconst (v := 0) hx hb dX8_hadMarks_0 (by decide) ?_
  refine lv_istore_n (lv' := [(1, .int 0), (0, .ref (a0 0))]) hx hb dX8_hadMarks_1 rfl hl (Nat.le_of_ble_eq_true rfl) rfl (fun ls hl => ?_)
  refine lv_iconst (v := 0) hx hb dX8_hadMarks_2 (by decide) ?_
  refine lv_istore_n (lv' := [(2, .int 0), (1, .int 0), (0, .ref (a0 0))]) hx hb dX8_hadMarks_3 rfl hl (Nat.le_of_ble_eq_true rfl) rfl (fun ls hl => ?_)
  exact hL_4 s0 N 0 0 hf _ _ _ hP hS (lv_sub hl [2, 1, 0] rfl)
abbrev rm_X8_feed : Room := { frames := 1, cells := 0, slots := 0, locals := 23 }
theorem m_X8_feed_9bfe5d : Cond.fieldLink RX8 41 "PickedMatchModel" "fed" "I" ∈ wsX8_feed := by decide +kernel
theorem i_X8_feed_X8 : ∀ w ∈ wsX80, w ∈ wsX8_feed := fun _ h => List.mem_cons_of_mem _ (List.mem_append_right _ h)
theorem m_X8_feed_5b2c7b : Cond.fieldLink RX8 50 "PickedMatchModel" "text" "[I" ∈ wsX8_feed := by decide +kernel
set_option maxHeartbeats 8000000 in
set_option maxRecDepth 100000 in
theorem k_X8_feed (l : Launch) (E : Ev) (a0 : Nat → Nat) (N : Nat) (s0 : St) (t0 : Nat → Nat → Int64) (p1 : Int32) (q : (Int32 × St)) (hf : f_X8_feed N s0 p1 = some q) : Ci l yX8_feed wsX8_feed rm_X8_feed E [.ref (a0 0), .int p1] (wX8 E a0 s0 t0) (wX8 E a0 q.2 t0) q.1 := by
  unfold f_X8_feed at hf
  intro sz
  refine Met.ofW (cc := cX8_feed) (maxL := 2) (ret := (some .int)) (by decide) rfl ?_
  intro p e s m args below meth c s₁ B hml hv
  obtain ⟨rfl, hsz, hP, hK, hD0, hG, hA, hAB⟩ := start hv
  have hx := B.exec
  have hb := B.bytes
  have hr := B.returns
  have hts := atoms_spec (ws := wsX8_feed) B.pre
  have hown : s.vm.findClass RX8 = some m.cls := findClass_of_methodNamed B.named
  have hlocks := B.notSynchronized
  subst hsz
  generalize va_A (wX8 E a0 s0 t0) s.heap.size = A0 at hD0 hA hAB ⊢
  have hDD : ∀ (s0 : St) (t0 : Nat → Nat → Int64), va_D A0 (wX8 E a0 s0 t0) := fun s0 t0 => vD_addr hD0 rfl
  have hS : va_S A0 s.heap s.heap [] := va_S.rf
  have hl := lv_entry ([.ref (a0 0), .int p1]) (n := 2) (Nat.le_of_ble_eq_true rfl)
  rw [lg_entry_eq]
  generalize (lg_sl ([.ref (a0 0), .int p1]) ++ List.replicate (2 - (lg_sl ([.ref (a0 0), .int p1])).length) Slot.unset).toArray = ls at hl ⊢
  have hl : lv_has ls 2 [(0, .ref (a0 0)), (1, .int p1)] := hl
  refine lv_aload_n hx hb dX8_feed_0 rfl (lv_at hl 0 rfl) ?_
  refine lv_iload_n hx hb dX8_feed_1 rfl (lv_at hl 1 rfl) ?_
  refine lv_iconst (v := 0) hx hb dX8_feed_2 (by decide) ?_
  refine lv_bipush (v := 127) hx hb dX8_feed_3 (by decide) ?_
  obtain ⟨q5, hc_5, hf⟩ := cl_e hf
  refine fin_i (E := E) (wc := wX8 E a0 s0 t0) (wc' := wX8 E a0 s0 t0) (va_runV (As := [.int p1, .int 0, .int 127]) (rest := []) ⟨hx, hb, hml, hown, hts⟩ (k_X8_in l E a0 N s0 t0 p1 0 127 q5 hc_5 _) (cwV 3 hts gX8_feed_X8_in rfl rfl rfl (by decide +kernel) ⟨(Nat.le_of_ble_eq_true rfl), (Nat.le_of_ble_eq_true rfl)⟩) (pre_v (ci := 8) (q0 := 0) hK hP (hDD s0 t0) hS hG hAB rfl rfl) rfl rfl hl.1 rfl (lv_room (Nat.le_of_ble_eq_true rfl)) dX8_feed_5 ⟨Nat.zero_le _, Nat.zero_le _⟩) hS (w_free (hDD s0 t0) hS hA (fun _ h => h)) (fun H locs hP1 hk hS => ?_)
  have hP := hP1
  refine lv_if_ne (tgt := 14) hx hb dX8_feed_8 (by decide) (fun c_8 => ?_) (fun c_8 => ?_)
  · have hf := ite_f c_8 hf
    refine lv_aload_n hx hb dX8_feed_14 rfl (lv_at hl 0 rfl) ?_
    refine va_get (ci := 8) (C := RX8) (T := TX8) (N := 67) (v := .int (s0 10 0)) hx hb hts i_X8_feed_X8 hown hK hP 0 rfl rfl 10 (by decide) (hts _ m_X8_feed_9bfe5d) (fun _ h9 => h9) rfl dX8_feed_15 ?_
    refine lv_bipush (v := 100) hx hb dX8_feed_18 (by decide) ?_
    refine lv_icmp_ne (tgt := 26) hx hb dX8_feed_20 (by decide) (fun c_20 => ?_) (fun c_20 => ?_)
    · have hf := ite_f c_20 hf
      refine lv_aload_n hx hb dX8_feed_26 rfl (lv_at hl 0 rfl) ?_
      refine va_get (ci := 8) (C := RX8) (T := TX8) (N := 67) (v := .ref (a0 6)) hx hb hts i_X8_feed_X8 hown hK hP 0 rfl rfl 13 (by decide) (hts _ m_X8_feed_5b2c7b) (fun _ h9 => h9) rfl dX8_feed_27 ?_
      refine lv_aload_n hx hb dX8_feed_30 rfl (lv_at hl 0 rfl) ?_
      refine va_get (ci := 8) (C := RX8) (T := TX8) (N := 67) (v := .int (s0 10 0)) hx hb hts i_X8_feed_X8 hown hK hP 0 rfl rfl 10 (by decide) (hts _ m_X8_feed_9bfe5d) (fun _ h9 => h9) rfl dX8_feed_31 ?_
      refine lv_iload_n hx hb dX8_feed_34 rfl (lv_at hl 1 rfl) ?_
      obtain ⟨h_35, hf⟩ := ck_e hf
      refine va_iast (cA := E.2.1) (n := 100) (f := s0 13) (x := p1) hx hb hK hP (hDD s0 t0) hS 6 0 rfl rfl h_35 dX8_feed_35 (fun H locs hP _ hS => ?_)
      obtain ⟨s0_35, hP, hf⟩ := nm_st' (P := fun z => va_P E.1 vwCl (wX8 E a0 z t0) H) hf hP
      refine lv_aload_n hx hb dX8_feed_36 rfl (lv_at hl 0 rfl) ?_
      refine lv_dup hx hb dX8_feed_37 rfl ?_
      refine va_get (ci := 8) (C := RX8) (T := TX8) (N := 67) (v := .int (s0_35 10 0)) hx hb hts i_X8_feed_X8 hown hK hP 0 rfl rfl 10 (by decide) (hts _ m_X8_feed_9bfe5d) (fun _ h9 => h9) rfl dX8_feed_38 ?_
      refine lv_iconst (v := 1) hx hb dX8_feed_41 (by decide) ?_
      refine lv_iadd hx hb dX8_feed_42 ?_
      refine va_put (ci := 8) (v := .int ((s0_35 10 0) + 1)) (ty := .int) (C := RX8) (T := TX8) (N := 67) hx hb hts i_X8_feed_X8 tyX8 tyX8_ok nmX8 hown hK hP (hDD s0_35 t0) hS 0 rfl rfl 10 (by decide) (hts _ m_X8_feed_9bfe5d) (fun _ h9 => h9) rfl (by decide +kernel) rfl rfl (Nat.le_of_ble_eq_true rfl) dX8_feed_43 (fun H locs hP _ hS => ?_)
      obtain ⟨s0_43, hP, hf⟩ := nm_st' (P := fun z => va_P E.1 vwCl (wX8 E a0 z t0) H) hf hP
      refine lv_aload_n hx hb dX8_feed_46 rfl (lv_at hl 0 rfl) ?_
      refine va_get (ci := 8) (C := RX8) (T := TX8) (N := 67) (v := .int (s0_43 10 0)) hx hb hts i_X8_feed_X8 hown hK hP 0 rfl rfl 10 (by decide) (hts _ m_X8_feed_9bfe5d) (fun _ h9 => h9) rfl dX8_feed_47 ?_
      have e9 := Option.some.inj hf
      exact rt_i hx hb hr hlocks (fst_e e9) (rtP (P := fun z => va_P E.1 vwCl (wX8 E a0 z.2 t0) H) e9 hP) hS dX8_feed_50
    · have hf := ite_t c_20 hf
      refine lv_bipush (v := (-4)) hx hb dX8_feed_23 (by decide) ?_
      have e9 := Option.some.inj hf
      exact rt_i hx hb hr hlocks (fst_e e9) (rtP (P := fun z => va_P E.1 vwCl (wX8 E a0 z.2 t0) H) e9 hP) hS dX8_feed_25
  · have hf := ite_t c_8 hf
    refine lv_bipush (v := (-2)) hx hb dX8_feed_11 (by decide) ?_
    have e9 := Option.some.inj hf
    exact rt_i hx hb hr hlocks (fst_e e9) (rtP (P := fun z => va_P E.1 vwCl (wX8 E a0 z.2 t0) H) e9 hP) hS dX8_feed_13
abbrev rm_X8_next : Room := { frames := 0, cells := 0, slots := 0, locals := 0 }
theorem m_X8_next_8d5e37 : Cond.fieldLink RX8 44 "PickedMatchModel" "at" "I" ∈ wsX8_next := by decide +kernel
theorem i_X8_next_X8 : ∀ w ∈ wsX80, w ∈ wsX8_next := fun _ h => List.mem_cons_of_mem _ (List.mem_append_right _ h)
theorem m_X8_next_9bfe5d : Cond.fieldLink RX8 41 "PickedMatchModel" "fed" "I" ∈ wsX8_next := by decide +kernel
theorem m_X8_next_5b2c7b : Cond.fieldLink RX8 50 "PickedMatchModel" "text" "[I" ∈ wsX8_next := by decide +kernel
set_option maxHeartbeats 8000000 in
set_option maxRecDepth 100000 in
theorem k_X8_next (l : Launch) (E : Ev) (a0 : Nat → Nat) (N : Nat) (s0 : St) (t0 : Nat → Nat → Int64) (q : (Int32)) (hf : f_X8_next N s0 = some q) : Ci l yX8_next wsX8_next rm_X8_next E [.ref (a0 0)] (wX8 E a0 s0 t0) (wX8 E a0 s0 t0) q := by
  unfold f_X8_next at hf
  intro sz
  refine Met.ofW (cc := cX8_next) (maxL := 1) (ret := (some .int)) (by decide) rfl ?_
  intro p e s m args below meth c s₁ B hml hv
  obtain ⟨rfl, hsz, hP, hK, hD0, hG, hA, hAB⟩ := start hv
  have hx := B.exec
  have hb := B.bytes
  have hr := B.returns
  have hts := atoms_spec (ws := wsX8_next) B.pre
  have hown : s.vm.findClass RX8 = some m.cls := findClass_of_methodNamed B.named
  have hlocks := B.notSynchronized
  subst hsz
  generalize va_A (wX8 E a0 s0 t0) s.heap.size = A0 at hD0 hA hAB ⊢
  have hDD : ∀ (s0 : St) (t0 : Nat → Nat → Int64), va_D A0 (wX8 E a0 s0 t0) := fun s0 t0 => vD_addr hD0 rfl
  have hS : va_S A0 s.heap s.heap [] := va_S.rf
  have hl := lv_entry ([.ref (a0 0)]) (n := 1) (Nat.le_of_ble_eq_true rfl)
  rw [lg_entry_eq]
  generalize (lg_sl ([.ref (a0 0)]) ++ List.replicate (1 - (lg_sl ([.ref (a0 0)])).length) Slot.unset).toArray = ls at hl ⊢
  have hl : lv_has ls 1 [(0, .ref (a0 0))] := hl
  refine lv_aload_n hx hb dX8_next_0 rfl (lv_at hl 0 rfl) ?_
  refine va_get (ci := 8) (C := RX8) (T := TX8) (N := 67) (v := .int (s0 11 0)) hx hb hts i_X8_next_X8 hown hK hP 0 rfl rfl 11 (by decide) (hts _ m_X8_next_8d5e37) (fun _ h9 => h9) rfl dX8_next_1 ?_
  refine lv_aload_n hx hb dX8_next_4 rfl (lv_at hl 0 rfl) ?_
  refine va_get (ci := 8) (C := RX8) (T := TX8) (N := 67) (v := .int (s0 10 0)) hx hb hts i_X8_next_X8 hown hK hP 0 rfl rfl 10 (by decide) (hts _ m_X8_next_9bfe5d) (fun _ h9 => h9) rfl dX8_next_5 ?_
  refine lv_icmp_ge (tgt := 23) hx hb dX8_next_8 (by decide) (fun c_8 => ?_) (fun c_8 => ?_)
  · have hf := ite_t c_8 hf
    refine lv_iconst (v := (-1)) hx hb dX8_next_23 (by decide) ?_
    have e9 := Option.some.inj hf
    exact rt_i hx hb hr hlocks e9 hP hS dX8_next_24
  · have hf := ite_f c_8 hf
    refine lv_aload_n hx hb dX8_next_11 rfl (lv_at hl 0 rfl) ?_
    refine va_get (ci := 8) (C := RX8) (T := TX8) (N := 67) (v := .ref (a0 6)) hx hb hts i_X8_next_X8 hown hK hP 0 rfl rfl 13 (by decide) (hts _ m_X8_next_5b2c7b) (fun _ h9 => h9) rfl dX8_next_12 ?_
    refine lv_aload_n hx hb dX8_next_15 rfl (lv_at hl 0 rfl) ?_
    refine va_get (ci := 8) (C := RX8) (T := TX8) (N := 67) (v := .int (s0 11 0)) hx hb hts i_X8_next_X8 hown hK hP 0 rfl rfl 11 (by decide) (hts _ m_X8_next_8d5e37) (fun _ h9 => h9) rfl dX8_next_16 ?_
    obtain ⟨h_19, hf⟩ := ck_e hf
    refine va_iald (cA := E.2.1) (n := 100) (f := s0 13) hx hb hK hP 6 0 rfl rfl h_19 dX8_next_19 ?_
    refine lv_goto (tgt := 24) hx hb dX8_next_20 (by decide) ?_
    have e9 := Option.some.inj hf
    exact rt_i hx hb hr hlocks e9 hP hS dX8_next_24
abbrev rm_X8_takes : Room := { frames := 1, cells := 0, slots := 0, locals := 20 }
theorem m_X8_takes_8d5e37 : Cond.fieldLink RX8 44 "PickedMatchModel" "at" "I" ∈ wsX8_takes := by decide +kernel
theorem i_X8_takes_X8 : ∀ w ∈ wsX80, w ∈ wsX8_takes := fun _ h => List.mem_cons_of_mem _ (List.mem_append_right _ h)
set_option maxHeartbeats 8000000 in
set_option maxRecDepth 100000 in
theorem k_X8_takes (l : Launch) (E : Ev) (a0 : Nat → Nat) (N : Nat) (s0 : St) (t0 : Nat → Nat → Int64) (p1 : Int32) (q : (Int32 × St)) (hf : f_X8_takes N s0 p1 = some q) : Ci l yX8_takes wsX8_takes rm_X8_takes E [.ref (a0 0), .int p1] (wX8 E a0 s0 t0) (wX8 E a0 q.2 t0) q.1 := by
  unfold f_X8_takes at hf
  intro sz
  refine Met.ofW (cc := cX8_takes) (maxL := 2) (ret := (some .boolean)) (by decide) rfl ?_
  intro p e s m args below meth c s₁ B hml hv
  obtain ⟨rfl, hsz, hP, hK, hD0, hG, hA, hAB⟩ := start hv
  have hx := B.exec
  have hb := B.bytes
  have hr := B.returns
  have hts := atoms_spec (ws := wsX8_takes) B.pre
  have hown : s.vm.findClass RX8 = some m.cls := findClass_of_methodNamed B.named
  have hlocks := B.notSynchronized
  subst hsz
  generalize va_A (wX8 E a0 s0 t0) s.heap.size = A0 at hD0 hA hAB ⊢
  have hDD : ∀ (s0 : St) (t0 : Nat → Nat → Int64), va_D A0 (wX8 E a0 s0 t0) := fun s0 t0 => vD_addr hD0 rfl
  have hS : va_S A0 s.heap s.heap [] := va_S.rf
  have hl := lv_entry ([.ref (a0 0), .int p1]) (n := 2) (Nat.le_of_ble_eq_true rfl)
  rw [lg_entry_eq]
  generalize (lg_sl ([.ref (a0 0), .int p1]) ++ List.replicate (2 - (lg_sl ([.ref (a0 0), .int p1])).length) Slot.unset).toArray = ls at hl ⊢
  have hl : lv_has ls 2 [(0, .ref (a0 0)), (1, .int p1)] := hl
  refine lv_aload_n hx hb dX8_takes_0 rfl (lv_at hl 0 rfl) ?_
  obtain ⟨q1, hc_1, hf⟩ := cl_e hf
  refine fin_i (E := E) (wc := wX8 E a0 s0 t0) (wc' := wX8 E a0 s0 t0) (va_runV (As := []) (rest := []) ⟨hx, hb, hml, hown, hts⟩ (k_X8_next l E a0 N s0 t0 q1 hc_1 _) (cwV 0 hts gX8_takes_X8_next rfl rfl rfl (by decide +kernel) ⟨(Nat.le_of_ble_eq_true rfl), (Nat.le_of_ble_eq_true rfl)⟩) (pre_v (ci := 8) (q0 := 0) hK hP (hDD s0 t0) hS hG hAB rfl rfl) rfl rfl hl.1 rfl (lv_room (Nat.le_of_ble_eq_true rfl)) dX8_takes_1 ⟨Nat.zero_le _, Nat.zero_le _⟩) hS (w_free (hDD s0 t0) hS hA (fun _ h => h)) (fun H locs hP1 hk hS => ?_)
  have hP := hP1
  refine lv_iload_n hx hb dX8_takes_4 rfl (lv_at hl 1 rfl) ?_
  refine lv_icmp_eq (tgt := 10) hx hb dX8_takes_5 (by decide) (fun c_5 => ?_) (fun c_5 => ?_)
  · have hf := ite_t c_5 hf
    refine lv_aload_n hx hb dX8_takes_10 rfl (lv_at hl 0 rfl) ?_
    refine lv_dup hx hb dX8_takes_11 rfl ?_
    refine va_get (ci := 8) (C := RX8) (T := TX8) (N := 67) (v := .int (s0 11 0)) hx hb hts i_X8_takes_X8 hown hK hP 0 rfl rfl 11 (by decide) (hts _ m_X8_takes_8d5e37) (fun _ h9 => h9) rfl dX8_takes_12 ?_
    refine lv_iconst (v := 1) hx hb dX8_takes_15 (by decide) ?_
    refine lv_iadd hx hb dX8_takes_16 ?_
    refine va_put (ci := 8) (v := .int ((s0 11 0) + 1)) (ty := .int) (C := RX8) (T := TX8) (N := 67) hx hb hts i_X8_takes_X8 tyX8 tyX8_ok nmX8 hown hK hP (hDD s0 t0) hS 0 rfl rfl 11 (by decide) (hts _ m_X8_takes_8d5e37) (fun _ h9 => h9) rfl (by decide +kernel) rfl rfl (Nat.le_of_ble_eq_true rfl) dX8_takes_17 (fun H locs hP _ hS => ?_)
    obtain ⟨s0_17, hP, hf⟩ := nm_st' (P := fun z => va_P E.1 vwCl (wX8 E a0 z t0) H) hf hP
    refine lv_iconst (v := 1) hx hb dX8_takes_20 (by decide) ?_
    have e9 := Option.some.inj hf
    exact rt_z hx hb hr rfl hlocks (fst_e e9) (rtP (P := fun z => va_P E.1 vwCl (wX8 E a0 z.2 t0) H) e9 hP) hS dX8_takes_21
  · have hf := ite_f c_5 hf
    refine lv_iconst (v := 0) hx hb dX8_takes_8 (by decide) ?_
    have e9 := Option.some.inj hf
    exact rt_z hx hb hr rfl hlocks (fst_e e9) (rtP (P := fun z => va_P E.1 vwCl (wX8 E a0 z.2 t0) H) e9 hP) hS dX8_takes_9
abbrev rm_X8_takesWord : Room := { frames := 2, cells := 0, slots := 0, locals := 41 }
theorem m_X8_takesWord_2857da : Cond.fieldLink RX8 83 "PickedMatchModel" "letters" "[I" ∈ wsX8_takesWord := by decide +kernel
theorem i_X8_takesWord_X8 : ∀ w ∈ wsX80, w ∈ wsX8_takesWord := fun _ h => List.mem_cons_of_mem _ (List.mem_append_right _ h)
set_option maxHeartbeats 8000000 in
set_option maxRecDepth 100000 in
theorem k_X8_takesWord (l : Launch) (E : Ev) (a0 : Nat → Nat) (N : Nat) (s0 : St) (t0 : Nat → Nat → Int64) (p1 : Int32) (p2 : Int32) (q : (Int32 × St)) (hf : f_X8_takesWord N s0 p1 p2 = some q) : Ci l yX8_takesWord wsX8_takesWord rm_X8_takesWord E [.ref (a0 0), .int p1, .int p2] (wX8 E a0 s0 t0) (wX8 E a0 q.2 t0) q.1 := by
  unfold f_X8_takesWord at hf
  intro sz
  refine Met.ofW (cc := cX8_takesWord) (maxL := 4) (ret := (some .boolean)) (by decide) rfl ?_
  intro p e s m args below meth c s₁ B hml hv
  obtain ⟨rfl, hsz, hP, hK, hD0, hG, hA, hAB⟩ := start hv
  have hx := B.exec
  have hb := B.bytes
  have hr := B.returns
  have hts := atoms_spec (ws := wsX8_takesWord) B.pre
  have hown : s.vm.findClass RX8 = some m.cls := findClass_of_methodNamed B.named
  have hlocks := B.notSynchronized
  subst hsz
  generalize va_A (wX8 E a0 s0 t0) s.heap.size = A0 at hD0 hA hAB ⊢
  have hDD : ∀ (s0 : St) (t0 : Nat → Nat → Int64), va_D A0 (wX8 E a0 s0 t0) := fun s0 t0 => vD_addr hD0 rfl
  have hS : va_S A0 s.heap s.heap [] := va_S.rf
  have hl := lv_entry ([.ref (a0 0), .int p1, .int p2]) (n := 4) (Nat.le_of_ble_eq_true rfl)
  rw [lg_entry_eq]
  generalize (lg_sl ([.ref (a0 0), .int p1, .int p2]) ++ List.replicate (4 - (lg_sl ([.ref (a0 0), .int p1, .int p2])).length) Slot.unset).toArray = ls at hl ⊢
  have hl : lv_has ls 4 [(0, .ref (a0 0)), (1, .int p1), (2, .int p2)] := hl
  have hL_2 : ∀ (v1 : Int32) (v2 : Int32) (n_2 : Nat) (s0 : St) (v3 : Int32), l_X8_takesWord_2 N v1 v2 n_2 s0 v3 = some q → ∀ (H : Heap) (locs : List Loc) (ls : Array Slot), va_P E.1 vwCl (wX8 E a0 s0 t0) H → va_S A0 s.heap H locs → lv_has ls 4 [(0, .ref (a0 0)), (1, .int v1), (2, .int v2), (3, .int v3)] → W p l e rm_X8_takesWord s m ([.ref (a0 0), .int p1, .int p2] : List Value).toArray below meth c H locs 0 0 (MQ below (va_Qi (fun (r' : Int32) (_ : Unit) => r' = q.1) (fun _ t => va_P E.1 vwCl (wX8 E a0 q.2 t0) t.heap) A0) ([.ref (a0 0), .int p1, .int p2] : List Value).toArray s 0 0 A0) (F0 m 2 ls []) := by
    intro v1 v2 n_2
    induction n_2 with
    | zero => intro s0 v3 hf; rw [l_X8_takesWord_2] at hf; cases hf
    | succ n_2 ih_2 =>
      intro s0 v3 hf H locs ls hP hS hl
      rw [l_X8_takesWord_2] at hf
      refine lv_iload_n hx hb dX8_takesWord_2 rfl (lv_at hl 3 rfl) ?_
      refine lv_iload_n hx hb dX8_takesWord_3 rfl (lv_at hl 2 rfl) ?_
      refine lv_icmp_ge (tgt := 30) hx hb dX8_takesWord_4 (by decide) (fun c_4 => ?_) (fun c_4 => ?_)
      · have hf := ite_t c_4 hf
        refine lv_aload_n hx hb dX8_takesWord_30 rfl (lv_at hl 0 rfl) ?_
        refine lv_bipush (v := 32) hx hb dX8_takesWord_31 (by decide) ?_
        obtain ⟨q33, hc_33, hf⟩ := cl_e hf
        refine fin_i (E := E) (wc := wX8 E a0 s0 t0) (wc' := wX8 E a0 q33.2 t0) (va_runV (As := [.int 32]) (rest := []) ⟨hx, hb, hml, hown, hts⟩ (k_X8_takes l E a0 N s0 t0 32 q33 hc_33 _) (cwV 1 hts gX8_takesWord_X8_takes rfl rfl rfl (by decide +kernel) ⟨(Nat.le_of_ble_eq_true rfl), (Nat.le_of_ble_eq_true rfl)⟩) (pre_v (ci := 8) (q0 := 0) hK hP (hDD s0 t0) hS hG hAB rfl rfl) rfl rfl hl.1 rfl (lv_room (Nat.le_of_ble_eq_true rfl)) dX8_takesWord_33 ⟨Nat.zero_le _, Nat.zero_le _⟩) hS (w_free (hDD s0 t0) hS hA (fun _ h => h)) (fun H locs hP1 hk hS => ?_)
        have hP := hP1
        obtain ⟨hn_36, hf⟩ := cb_e hf
        have e9 := Option.some.inj hf
        exact rt_z hx hb hr (nar_b hn_36) hlocks (fst_e e9) (rtP (P := fun z => va_P E.1 vwCl (wX8 E a0 z.2 t0) H) e9 hP) hS dX8_takesWord_36
      · have hf := ite_f c_4 hf
        refine lv_aload_n hx hb dX8_takesWord_7 rfl (lv_at hl 0 rfl) ?_
        refine lv_aload_n hx hb dX8_takesWord_8 rfl (lv_at hl 0 rfl) ?_
        refine va_get (ci := 8) (C := RX8) (T := TX8) (N := 67) (v := .ref (a0 14)) hx hb hts i_X8_takesWord_X8 hown hK hP 0 rfl rfl 24 (by decide) (hts _ m_X8_takesWord_2857da) (fun _ h9 => h9) rfl dX8_takesWord_9 ?_
        refine lv_iload_n hx hb dX8_takesWord_12 rfl (lv_at hl 1 rfl) ?_
        refine lv_iload_n hx hb dX8_takesWord_13 rfl (lv_at hl 3 rfl) ?_
        refine lv_iadd hx hb dX8_takesWord_14 ?_
        obtain ⟨h_15, hf⟩ := ck_e hf
        refine va_iald (cA := E.2.1) (n := 16) (f := s0 24) hx hb hK hP 14 0 rfl rfl h_15 dX8_takesWord_15 ?_
        obtain ⟨q16, hc_16, hf⟩ := cl_e hf
        refine fin_i (E := E) (wc := wX8 E a0 s0 t0) (wc' := wX8 E a0 q16.2 t0) (va_runV (As := [.int (s0 24 (v1 + v3).toNatClampNeg)]) (rest := []) ⟨hx, hb, hml, hown, hts⟩ (k_X8_takes l E a0 N s0 t0 (s0 24 (v1 + v3).toNatClampNeg) q16 hc_16 _) (cwV 1 hts gX8_takesWord_X8_takes rfl rfl rfl (by decide +kernel) ⟨(Nat.le_of_ble_eq_true rfl), (Nat.le_of_ble_eq_true rfl)⟩) (pre_v (ci := 8) (q0 := 0) hK hP (hDD s0 t0) hS hG hAB rfl rfl) rfl rfl hl.1 rfl (lv_room (Nat.le_of_ble_eq_true rfl)) dX8_takesWord_16 ⟨Nat.zero_le _, Nat.zero_le _⟩) hS (w_free (hDD s0 t0) hS hA (fun _ h => h)) (fun H locs hP1 hk hS => ?_)
        have hP := hP1
        refine lv_if_ne (tgt := 24) hx hb dX8_takesWord_19 (by decide) (fun c_19 => ?_) (fun c_19 => ?_)
        · have hf := ite_f c_19 hf
          obtain ⟨x24, e_x24⟩ : ∃ y : Int32, y = v3 + 1 := ⟨_, rfl⟩
          have hf := nm_q e_x24 hf
          refine lv_iinc (v := x24) (lv' := [(3, .int x24), (0, .ref (a0 0)), (1, .int v1), (2, .int v2)]) hx hb dX8_takesWord_24 hl (k := 3) rfl (by rw [e_x24]; rfl) (Nat.le_of_ble_eq_true rfl) rfl (fun ls hl => ?_)
          refine lv_goto (tgt := 2) hx hb dX8_takesWord_27 (by decide) ?_
          exact ih_2 q16.2 x24 hf _ _ _ hP hS (lv_sub hl [1, 2, 3, 0] rfl)
        · have hf := ite_t c_19 hf
          refine lv_iconst (v := 0) hx hb dX8_takesWord_22 (by decide) ?_
          have e9 := Option.some.inj hf
          exact rt_z hx hb hr rfl hlocks (fst_e e9) (rtP (P := fun z => va_P E.1 vwCl (wX8 E a0 z.2 t0) H) e9 hP) hS dX8_takesWord_23
  refine lv_iconst (v := 0) hx hb dX8_takesWord_0 (by decide) ?_
  refine lv_istore_n (lv' := [(3, .int 0), (0, .ref (a0 0)), (1, .int p1), (2, .int p2)]) hx hb dX8_takesWord_1 rfl hl (Nat.le_of_ble_eq_true rfl) rfl (fun ls hl => ?_)
  exact hL_2 p1 p2 N s0 0 hf _ _ _ hP hS (lv_sub hl [1, 2, 3, 0] rfl)
abbrev rm_X8_isDigit : Room := { frames := 1, cells := 0, slots := 0, locals := 23 }
set_option maxHeartbeats 8000000 in
set_option maxRecDepth 100000 in
theorem k_X8_isDigit (l : Launch) (E : Ev) (a0 : Nat → Nat) (N : Nat) (s0 : St) (t0 : Nat → Nat → Int64) (q : (Int32)) (hf : f_X8_isDigit N s0 = some q) : Ci l yX8_isDigit wsX8_isDigit rm_X8_isDigit E [.ref (a0 0)] (wX8 E a0 s0 t0) (wX8 E a0 s0 t0) q := by
  unfold f_X8_isDigit at hf
  intro sz
  refine Met.ofW (cc := cX8_isDigit) (maxL := 1) (ret := (some .boolean)) (by decide) rfl ?_
  intro p e s m args below meth c s₁ B hml hv
  obtain ⟨rfl, hsz, hP, hK, hD0, hG, hA, hAB⟩ := start hv
  have hx := B.exec
  have hb := B.bytes
  have hr := B.returns
  have hts := atoms_spec (ws := wsX8_isDigit) B.pre
  have hown : s.vm.findClass RX8 = some m.cls := findClass_of_methodNamed B.named
  have hlocks := B.notSynchronized
  subst hsz
  generalize va_A (wX8 E a0 s0 t0) s.heap.size = A0 at hD0 hA hAB ⊢
  have hDD : ∀ (s0 : St) (t0 : Nat → Nat → Int64), va_D A0 (wX8 E a0 s0 t0) := fun s0 t0 => vD_addr hD0 rfl
  have hS : va_S A0 s.heap s.heap [] := va_S.rf
  have hl := lv_entry ([.ref (a0 0)]) (n := 1) (Nat.le_of_ble_eq_true rfl)
  rw [lg_entry_eq]
  generalize (lg_sl ([.ref (a0 0)]) ++ List.replicate (1 - (lg_sl ([.ref (a0 0)])).length) Slot.unset).toArray = ls at hl ⊢
  have hl : lv_has ls 1 [(0, .ref (a0 0))] := hl
  refine lv_aload_n hx hb dX8_isDigit_0 rfl (lv_at hl 0 rfl) ?_
  refine lv_aload_n hx hb dX8_isDigit_1 rfl (lv_at hl 0 rfl) ?_
  obtain ⟨q2, hc_2, hf⟩ := cl_e hf
  refine fin_i (E := E) (wc := wX8 E a0 s0 t0) (wc' := wX8 E a0 s0 t0) (va_runV (As := []) (rest := [.ref (a0 0)]) ⟨hx, hb, hml, hown, hts⟩ (k_X8_next l E a0 N s0 t0 q2 hc_2 _) (cwV 0 hts gX8_isDigit_X8_next rfl rfl rfl (by decide +kernel) ⟨(Nat.le_of_ble_eq_true rfl), (Nat.le_of_ble_eq_true rfl)⟩) (pre_v (ci := 8) (q0 := 0) hK hP (hDD s0 t0) hS hG hAB rfl rfl) rfl rfl hl.1 rfl (lv_room (Nat.le_of_ble_eq_true rfl)) dX8_isDigit_2 ⟨Nat.zero_le _, Nat.zero_le _⟩) hS (w_free (hDD s0 t0) hS hA (fun _ h => h)) (fun H locs hP1 hk hS => ?_)
  have hP := hP1
  refine lv_bipush (v := 48) hx hb dX8_isDigit_5 (by decide) ?_
  refine lv_bipush (v := 57) hx hb dX8_isDigit_7 (by decide) ?_
  obtain ⟨q9, hc_9, hf⟩ := cl_e hf
  refine fin_i (E := E) (wc := wX8 E a0 s0 t0) (wc' := wX8 E a0 s0 t0) (va_runV (As := [.int q2, .int 48, .int 57]) (rest := []) ⟨hx, hb, hml, hown, hts⟩ (k_X8_in l E a0 N s0 t0 q2 48 57 q9 hc_9 _) (cwV 3 hts gX8_isDigit_X8_in rfl rfl rfl (by decide +kernel) ⟨(Nat.le_of_ble_eq_true rfl), (Nat.le_of_ble_eq_true rfl)⟩) (pre_v (ci := 8) (q0 := 0) hK hP (hDD s0 t0) hS hG hAB rfl rfl) rfl rfl hl.1 rfl (lv_room (Nat.le_of_ble_eq_true rfl)) dX8_isDigit_9 ⟨Nat.zero_le _, Nat.zero_le _⟩) hS (w_free (hDD s0 t0) hS hA (fun _ h => h)) (fun H locs hP1 hk hS => ?_)
  have hP := hP1
  obtain ⟨hn_12, hf⟩ := cb_e hf
  have e9 := Option.some.inj hf
  exact rt_z hx hb hr (nar_b hn_12) hlocks e9 hP hS dX8_isDigit_12
abbrev rm_X8_takesNumber : Room := { frames := 2, cells := 0, slots := 0, locals := 43 }
theorem m_X8_takesNumber_e7685d : Cond.fieldLink RX8 47 "PickedMatchModel" "digits" "I" ∈ wsX8_takesNumber := by decide +kernel
theorem i_X8_takesNumber_X8 : ∀ w ∈ wsX80, w ∈ wsX8_takesNumber := fun _ h => List.mem_cons_of_mem _ (List.mem_append_right _ h)
theorem m_X8_takesNumber_8d5e37 : Cond.fieldLink RX8 44 "PickedMatchModel" "at" "I" ∈ wsX8_takesNumber := by decide +kernel
set_option maxHeartbeats 8000000 in
set_option maxRecDepth 100000 in
theorem k_X8_takesNumber (l : Launch) (E : Ev) (a0 : Nat → Nat) (N : Nat) (s0 : St) (t0 : Nat → Nat → Int64) (q : (Int32 × St)) (hf : f_X8_takesNumber N s0 = some q) : Ci l yX8_takesNumber wsX8_takesNumber rm_X8_takesNumber E [.ref (a0 0)] (wX8 E a0 s0 t0) (wX8 E a0 q.2 t0) q.1 := by
  unfold f_X8_takesNumber at hf
  intro sz
  refine Met.ofW (cc := cX8_takesNumber) (maxL := 2) (ret := (some .boolean)) (by decide) rfl ?_
  intro p e s m args below meth c s₁ B hml hv
  obtain ⟨rfl, hsz, hP, hK, hD0, hG, hA, hAB⟩ := start hv
  have hx := B.exec
  have hb := B.bytes
  have hr := B.returns
  have hts := atoms_spec (ws := wsX8_takesNumber) B.pre
  have hown : s.vm.findClass RX8 = some m.cls := findClass_of_methodNamed B.named
  have hlocks := B.notSynchronized
  subst hsz
  generalize va_A (wX8 E a0 s0 t0) s.heap.size = A0 at hD0 hA hAB ⊢
  have hDD : ∀ (s0 : St) (t0 : Nat → Nat → Int64), va_D A0 (wX8 E a0 s0 t0) := fun s0 t0 => vD_addr hD0 rfl
  have hS : va_S A0 s.heap s.heap [] := va_S.rf
  have hl := lv_entry ([.ref (a0 0)]) (n := 2) (Nat.le_of_ble_eq_true rfl)
  rw [lg_entry_eq]
  generalize (lg_sl ([.ref (a0 0)]) ++ List.replicate (2 - (lg_sl ([.ref (a0 0)])).length) Slot.unset).toArray = ls at hl ⊢
  have hl : lv_has ls 2 [(0, .ref (a0 0))] := hl
  have hL_16 : ∀ (n_16 : Nat) (s0 : St) (v1 : Int32), l_X8_takesNumber_16 N n_16 s0 v1 = some q → ∀ (H : Heap) (locs : List Loc) (ls : Array Slot), va_P E.1 vwCl (wX8 E a0 s0 t0) H → va_S A0 s.heap H locs → lv_has ls 2 [(0, .ref (a0 0)), (1, .int v1)] → W p l e rm_X8_takesNumber s m ([.ref (a0 0)] : List Value).toArray below meth c H locs 0 0 (MQ below (va_Qi (fun (r' : Int32) (_ : Unit) => r' = q.1) (fun _ t => va_P E.1 vwCl (wX8 E a0 q.2 t0) t.heap) A0) ([.ref (a0 0)] : List Value).toArray s 0 0 A0) (F0 m 16 ls []) := by
    intro n_16
    induction n_16 with
    | zero => intro s0 v1 hf; rw [l_X8_takesNumber_16] at hf; cases hf
    | succ n_16 ih_16 =>
      intro s0 v1 hf H locs ls hP hS hl
      rw [l_X8_takesNumber_16] at hf
      refine lv_iload_n hx hb dX8_takesNumber_16 rfl (lv_at hl 1 rfl) ?_
      refine lv_iconst (v := 2) hx hb dX8_takesNumber_17 (by decide) ?_
      refine lv_icmp_ge (tgt := 63) hx hb dX8_takesNumber_18 (by decide) (fun c_18 => ?_) (fun c_18 => ?_)
      · have hf := ite_t c_18 hf
        refine lv_iconst (v := 1) hx hb dX8_takesNumber_63 (by decide) ?_
        have e9 := Option.some.inj hf
        exact rt_z hx hb hr rfl hlocks (fst_e e9) (rtP (P := fun z => va_P E.1 vwCl (wX8 E a0 z.2 t0) H) e9 hP) hS dX8_takesNumber_64
      · have hf := ite_f c_18 hf
        refine lv_aload_n hx hb dX8_takesNumber_21 rfl (lv_at hl 0 rfl) ?_
        obtain ⟨q22, hc_22, hf⟩ := cl_e hf
        refine fin_i (E := E) (wc := wX8 E a0 s0 t0) (wc' := wX8 E a0 s0 t0) (va_runV (As := []) (rest := []) ⟨hx, hb, hml, hown, hts⟩ (k_X8_isDigit l E a0 N s0 t0 q22 hc_22 _) (cwV 0 hts gX8_takesNumber_X8_isDigit rfl rfl rfl (by decide +kernel) ⟨(Nat.le_of_ble_eq_true rfl), (Nat.le_of_ble_eq_true rfl)⟩) (pre_v (ci := 8) (q0 := 0) hK hP (hDD s0 t0) hS hG hAB rfl rfl) rfl rfl hl.1 rfl (lv_room (Nat.le_of_ble_eq_true rfl)) dX8_takesNumber_22 ⟨Nat.zero_le _, Nat.zero_le _⟩) hS (w_free (hDD s0 t0) hS hA (fun _ h => h)) (fun H locs hP1 hk hS => ?_)
        have hP := hP1
        refine lv_if_eq (tgt := 63) hx hb dX8_takesNumber_25 (by decide) (fun c_25 => ?_) (fun c_25 => ?_)
        · have hf := ite_t c_25 hf
          refine lv_iconst (v := 1) hx hb dX8_takesNumber_63 (by decide) ?_
          have e9 := Option.some.inj hf
          exact rt_z hx hb hr rfl hlocks (fst_e e9) (rtP (P := fun z => va_P E.1 vwCl (wX8 E a0 z.2 t0) H) e9 hP) hS dX8_takesNumber_64
        · have hf := ite_f c_25 hf
          refine lv_aload_n hx hb dX8_takesNumber_28 rfl (lv_at hl 0 rfl) ?_
          refine lv_bipush (v := 10) hx hb dX8_takesNumber_29 (by decide) ?_
          refine lv_aload_n hx hb dX8_takesNumber_31 rfl (lv_at hl 0 rfl) ?_
          refine va_get (ci := 8) (C := RX8) (T := TX8) (N := 67) (v := .int (s0 12 0)) hx hb hts i_X8_takesNumber_X8 hown hK hP 0 rfl rfl 12 (by decide) (hts _ m_X8_takesNumber_e7685d) (fun _ h9 => h9) rfl dX8_takesNumber_32 ?_
          refine lv_imul hx hb dX8_takesNumber_35 ?_
          refine lv_aload_n hx hb dX8_takesNumber_36 rfl (lv_at hl 0 rfl) ?_
          obtain ⟨q37, hc_37, hf⟩ := cl_e hf
          refine fin_i (E := E) (wc := wX8 E a0 s0 t0) (wc' := wX8 E a0 s0 t0) (va_runV (As := []) (rest := [.int (10 * (s0 12 0)), .ref (a0 0)]) ⟨hx, hb, hml, hown, hts⟩ (k_X8_next l E a0 N s0 t0 q37 hc_37 _) (cwV 0 hts gX8_takesNumber_X8_next rfl rfl rfl (by decide +kernel) ⟨(Nat.le_of_ble_eq_true rfl), (Nat.le_of_ble_eq_true rfl)⟩) (pre_v (ci := 8) (q0 := 0) hK hP (hDD s0 t0) hS hG hAB rfl rfl) rfl rfl hl.1 rfl (lv_room (Nat.le_of_ble_eq_true rfl)) dX8_takesNumber_37 ⟨Nat.zero_le _, Nat.zero_le _⟩) hS (w_free (hDD s0 t0) hS hA (fun _ h => h)) (fun H locs hP1 hk hS => ?_)
          have hP := hP1
          refine lv_iadd hx hb dX8_takesNumber_40 ?_
          refine lv_bipush (v := 48) hx hb dX8_takesNumber_41 (by decide) ?_
          refine lv_isub hx hb dX8_takesNumber_43 ?_
          refine va_put (ci := 8) (v := .int (((10 * (s0 12 0)) + q37) - 48)) (ty := .int) (C := RX8) (T := TX8) (N := 67) hx hb hts i_X8_takesNumber_X8 tyX8 tyX8_ok nmX8 hown hK hP (hDD s0 t0) hS 0 rfl rfl 12 (by decide) (hts _ m_X8_takesNumber_e7685d) (fun _ h9 => h9) rfl (by decide +kernel) rfl rfl (Nat.le_of_ble_eq_true rfl) dX8_takesNumber_44 (fun H locs hP _ hS => ?_)
          obtain ⟨s0_44, hP, hf⟩ := nm_st' (P := fun z => va_P E.1 vwCl (wX8 E a0 z t0) H) hf hP
          refine lv_aload_n hx hb dX8_takesNumber_47 rfl (lv_at hl 0 rfl) ?_
          refine lv_dup hx hb dX8_takesNumber_48 rfl ?_
          refine va_get (ci := 8) (C := RX8) (T := TX8) (N := 67) (v := .int (s0_44 11 0)) hx hb hts i_X8_takesNumber_X8 hown hK hP 0 rfl rfl 11 (by decide) (hts _ m_X8_takesNumber_8d5e37) (fun _ h9 => h9) rfl dX8_takesNumber_49 ?_
          refine lv_iconst (v := 1) hx hb dX8_takesNumber_52 (by decide) ?_
          refine lv_iadd hx hb dX8_takesNumber_53 ?_
          refine va_put (ci := 8) (v := .int ((s0_44 11 0) + 1)) (ty := .int) (C := RX8) (T := TX8) (N := 67) hx hb hts i_X8_takesNumber_X8 tyX8 tyX8_ok nmX8 hown hK hP (hDD s0_44 t0) hS 0 rfl rfl 11 (by decide) (hts _ m_X8_takesNumber_8d5e37) (fun _ h9 => h9) rfl (by decide +kernel) rfl rfl (Nat.le_of_ble_eq_true rfl) dX8_takesNumber_54 (fun H locs hP _ hS => ?_)
          obtain ⟨s0_54, hP, hf⟩ := nm_st' (P := fun z => va_P E.1 vwCl (wX8 E a0 z t0) H) hf hP
          obtain ⟨x57, e_x57⟩ : ∃ y : Int32, y = v1 + 1 := ⟨_, rfl⟩
          have hf := nm_q e_x57 hf
          refine lv_iinc (v := x57) (lv' := [(1, .int x57), (0, .ref (a0 0))]) hx hb dX8_takesNumber_57 hl (k := 1) rfl (by rw [e_x57]; rfl) (Nat.le_of_ble_eq_true rfl) rfl (fun ls hl => ?_)
          refine lv_goto (tgt := 16) hx hb dX8_takesNumber_60 (by decide) ?_
          exact ih_16 s0_54 x57 hf _ _ _ hP hS (lv_sub hl [1, 0] rfl)
  refine lv_aload_n hx hb dX8_takesNumber_0 rfl (lv_at hl 0 rfl) ?_
  obtain ⟨q1, hc_1, hf⟩ := cl_e hf
  refine fin_i (E := E) (wc := wX8 E a0 s0 t0) (wc' := wX8 E a0 s0 t0) (va_runV (As := []) (rest := []) ⟨hx, hb, hml, hown, hts⟩ (k_X8_isDigit l E a0 N s0 t0 q1 hc_1 _) (cwV 0 hts gX8_takesNumber_X8_isDigit rfl rfl rfl (by decide +kernel) ⟨(Nat.le_of_ble_eq_true rfl), (Nat.le_of_ble_eq_true rfl)⟩) (pre_v (ci := 8) (q0 := 0) hK hP (hDD s0 t0) hS hG hAB rfl rfl) rfl rfl hl.1 rfl (lv_room (Nat.le_of_ble_eq_true rfl)) dX8_takesNumber_1 ⟨Nat.zero_le _, Nat.zero_le _⟩) hS (w_free (hDD s0 t0) hS hA (fun _ h => h)) (fun H locs hP1 hk hS => ?_)
  have hP := hP1
  refine lv_if_ne (tgt := 9) hx hb dX8_takesNumber_4 (by decide) (fun c_4 => ?_) (fun c_4 => ?_)
  · have hf := ite_f c_4 hf
    refine lv_aload_n hx hb dX8_takesNumber_9 rfl (lv_at hl 0 rfl) ?_
    refine lv_iconst (v := 0) hx hb dX8_takesNumber_10 (by decide) ?_
    refine va_put (ci := 8) (v := .int 0) (ty := .int) (C := RX8) (T := TX8) (N := 67) hx hb hts i_X8_takesNumber_X8 tyX8 tyX8_ok nmX8 hown hK hP (hDD s0 t0) hS 0 rfl rfl 12 (by decide) (hts _ m_X8_takesNumber_e7685d) (fun _ h9 => h9) rfl (by decide +kernel) rfl rfl (Nat.le_of_ble_eq_true rfl) dX8_takesNumber_11 (fun H locs hP _ hS => ?_)
    obtain ⟨s0_11, hP, hf⟩ := nm_st' (P := fun z => va_P E.1 vwCl (wX8 E a0 z t0) H) hf hP
    refine lv_iconst (v := 0) hx hb dX8_takesNumber_14 (by decide) ?_
    refine lv_istore_n (lv' := [(1, .int 0), (0, .ref (a0 0))]) hx hb dX8_takesNumber_15 rfl hl (Nat.le_of_ble_eq_true rfl) rfl (fun ls hl => ?_)
    exact hL_16 N s0_11 0 hf _ _ _ hP hS (lv_sub hl [1, 0] rfl)
  · have hf := ite_t c_4 hf
    refine lv_iconst (v := 0) hx hb dX8_takesNumber_7 (by decide) ?_
    have e9 := Option.some.inj hf
    exact rt_z hx hb hr rfl hlocks (fst_e e9) (rtP (P := fun z => va_P E.1 vwCl (wX8 E a0 z.2 t0) H) e9 hP) hS dX8_takesNumber_8
abbrev rm_X8_emits : Room := { frames := 0, cells := 0, slots := 0, locals := 0 }
theorem m_X8_emits_057380 : Cond.fieldLink RX8 68 "PickedMatchModel" "sign" "[I" ∈ wsX8_emits := by decide +kernel
theorem i_X8_emits_X8 : ∀ w ∈ wsX80, w ∈ wsX8_emits := fun _ h => List.mem_cons_of_mem _ (List.mem_append_right _ h)
theorem m_X8_emits_7ec062 : Cond.fieldLink RX8 74 "PickedMatchModel" "signs" "I" ∈ wsX8_emits := by decide +kernel
set_option maxHeartbeats 8000000 in
set_option maxRecDepth 100000 in
theorem k_X8_emits (l : Launch) (E : Ev) (a0 : Nat → Nat) (N : Nat) (s0 : St) (t0 : Nat → Nat → Int64) (p1 : Int32) (q : (St)) (hf : f_X8_emits N s0 p1 = some q) : Cv l yX8_emits wsX8_emits rm_X8_emits E [.ref (a0 0), .int p1] (wX8 E a0 s0 t0) (wX8 E a0 q t0) := by
  unfold f_X8_emits at hf
  intro sz
  refine Met.ofW (cc := cX8_emits) (maxL := 2) (ret := none) (by decide) rfl ?_
  intro p e s m args below meth c s₁ B hml hv
  obtain ⟨rfl, hsz, hP, hK, hD0, hG, hA, hAB⟩ := start hv
  have hx := B.exec
  have hb := B.bytes
  have hr := B.returns
  have hts := atoms_spec (ws := wsX8_emits) B.pre
  have hown : s.vm.findClass RX8 = some m.cls := findClass_of_methodNamed B.named
  have hlocks := B.notSynchronized
  subst hsz
  generalize va_A (wX8 E a0 s0 t0) s.heap.size = A0 at hD0 hA hAB ⊢
  have hDD : ∀ (s0 : St) (t0 : Nat → Nat → Int64), va_D A0 (wX8 E a0 s0 t0) := fun s0 t0 => vD_addr hD0 rfl
  have hS : va_S A0 s.heap s.heap [] := va_S.rf
  have hl := lv_entry ([.ref (a0 0), .int p1]) (n := 2) (Nat.le_of_ble_eq_true rfl)
  rw [lg_entry_eq]
  generalize (lg_sl ([.ref (a0 0), .int p1]) ++ List.replicate (2 - (lg_sl ([.ref (a0 0), .int p1])).length) Slot.unset).toArray = ls at hl ⊢
  have hl : lv_has ls 2 [(0, .ref (a0 0)), (1, .int p1)] := hl
  refine lv_aload_n hx hb dX8_emits_0 rfl (lv_at hl 0 rfl) ?_
  refine va_get (ci := 8) (C := RX8) (T := TX8) (N := 67) (v := .ref (a0 12)) hx hb hts i_X8_emits_X8 hown hK hP 0 rfl rfl 19 (by decide) (hts _ m_X8_emits_057380) (fun _ h9 => h9) rfl dX8_emits_1 ?_
  refine lv_aload_n hx hb dX8_emits_4 rfl (lv_at hl 0 rfl) ?_
  refine va_get (ci := 8) (C := RX8) (T := TX8) (N := 67) (v := .int (s0 21 0)) hx hb hts i_X8_emits_X8 hown hK hP 0 rfl rfl 21 (by decide) (hts _ m_X8_emits_7ec062) (fun _ h9 => h9) rfl dX8_emits_5 ?_
  refine lv_iload_n hx hb dX8_emits_8 rfl (lv_at hl 1 rfl) ?_
  obtain ⟨h_9, hf⟩ := ck_e hf
  refine va_iast (cA := E.2.1) (n := 600) (f := s0 19) (x := p1) hx hb hK hP (hDD s0 t0) hS 12 0 rfl rfl h_9 dX8_emits_9 (fun H locs hP _ hS => ?_)
  obtain ⟨s0_9, hP, hf⟩ := nm_st' (P := fun z => va_P E.1 vwCl (wX8 E a0 z t0) H) hf hP
  refine lv_aload_n hx hb dX8_emits_10 rfl (lv_at hl 0 rfl) ?_
  refine lv_dup hx hb dX8_emits_11 rfl ?_
  refine va_get (ci := 8) (C := RX8) (T := TX8) (N := 67) (v := .int (s0_9 21 0)) hx hb hts i_X8_emits_X8 hown hK hP 0 rfl rfl 21 (by decide) (hts _ m_X8_emits_7ec062) (fun _ h9 => h9) rfl dX8_emits_12 ?_
  refine lv_iconst (v := 1) hx hb dX8_emits_15 (by decide) ?_
  refine lv_iadd hx hb dX8_emits_16 ?_
  refine va_put (ci := 8) (v := .int ((s0_9 21 0) + 1)) (ty := .int) (C := RX8) (T := TX8) (N := 67) hx hb hts i_X8_emits_X8 tyX8 tyX8_ok nmX8 hown hK hP (hDD s0_9 t0) hS 0 rfl rfl 21 (by decide) (hts _ m_X8_emits_7ec062) (fun _ h9 => h9) rfl (by decide +kernel) rfl rfl (Nat.le_of_ble_eq_true rfl) dX8_emits_17 (fun H locs hP _ hS => ?_)
  obtain ⟨s0_17, hP, hf⟩ := nm_st' (P := fun z => va_P E.1 vwCl (wX8 E a0 z t0) H) hf hP
  have e9 := Option.some.inj hf
  exact rt_v hx hb hr hlocks (rtP (P := fun z => va_P E.1 vwCl (wX8 E a0 z t0) H) e9 hP) hS dX8_emits_20
abbrev rm_X8_whole : Room := { frames := 1, cells := 0, slots := 0, locals := 21 }
theorem m_X8_whole_993142 : Cond.fieldLink RX8 77 "PickedMatchModel" "waiting" "I" ∈ wsX8_whole := by decide +kernel
theorem i_X8_whole_X8 : ∀ w ∈ wsX80, w ∈ wsX8_whole := fun _ h => List.mem_cons_of_mem _ (List.mem_append_right _ h)
theorem m_X8_whole_3e5640 : Cond.fieldLink RX8 71 "PickedMatchModel" "waits" "[I" ∈ wsX8_whole := by decide +kernel
theorem m_X8_whole_5ff30a : Cond.fieldLink RX8 80 "PickedMatchModel" "open" "I" ∈ wsX8_whole := by decide +kernel
set_option maxHeartbeats 8000000 in
set_option maxRecDepth 100000 in
theorem k_X8_whole (l : Launch) (E : Ev) (a0 : Nat → Nat) (N : Nat) (s0 : St) (t0 : Nat → Nat → Int64) (q : (St)) (hf : f_X8_whole N s0 = some q) : Cv l yX8_whole wsX8_whole rm_X8_whole E [.ref (a0 0)] (wX8 E a0 s0 t0) (wX8 E a0 q t0) := by
  unfold f_X8_whole at hf
  intro sz
  refine Met.ofW (cc := cX8_whole) (maxL := 1) (ret := none) (by decide) rfl ?_
  intro p e s m args below meth c s₁ B hml hv
  obtain ⟨rfl, hsz, hP, hK, hD0, hG, hA, hAB⟩ := start hv
  have hx := B.exec
  have hb := B.bytes
  have hr := B.returns
  have hts := atoms_spec (ws := wsX8_whole) B.pre
  have hown : s.vm.findClass RX8 = some m.cls := findClass_of_methodNamed B.named
  have hlocks := B.notSynchronized
  subst hsz
  generalize va_A (wX8 E a0 s0 t0) s.heap.size = A0 at hD0 hA hAB ⊢
  have hDD : ∀ (s0 : St) (t0 : Nat → Nat → Int64), va_D A0 (wX8 E a0 s0 t0) := fun s0 t0 => vD_addr hD0 rfl
  have hS : va_S A0 s.heap s.heap [] := va_S.rf
  have hl := lv_entry ([.ref (a0 0)]) (n := 1) (Nat.le_of_ble_eq_true rfl)
  rw [lg_entry_eq]
  generalize (lg_sl ([.ref (a0 0)]) ++ List.replicate (1 - (lg_sl ([.ref (a0 0)])).length) Slot.unset).toArray = ls at hl ⊢
  have hl : lv_has ls 1 [(0, .ref (a0 0))] := hl
  have hL_0 : ∀ (n_0 : Nat) (s0 : St), l_X8_whole_0 N n_0 s0 = some q → ∀ (H : Heap) (locs : List Loc) (ls : Array Slot), va_P E.1 vwCl (wX8 E a0 s0 t0) H → va_S A0 s.heap H locs → lv_has ls 1 [(0, .ref (a0 0))] → W p l e rm_X8_whole s m ([.ref (a0 0)] : List Value).toArray below meth c H locs 0 0 (MQ below (va_Qv (fun (_ : Unit) => True) (fun _ t => va_P E.1 vwCl (wX8 E a0 q t0) t.heap) A0) ([.ref (a0 0)] : List Value).toArray s 0 0 A0) (F0 m 0 ls []) := by
    intro n_0
    induction n_0 with
    | zero => intro s0 hf; rw [l_X8_whole_0] at hf; cases hf
    | succ n_0 ih_0 =>
      intro s0 hf H locs ls hP hS hl
      rw [l_X8_whole_0] at hf
      refine lv_aload_n hx hb dX8_whole_0 rfl (lv_at hl 0 rfl) ?_
      refine va_get (ci := 8) (C := RX8) (T := TX8) (N := 67) (v := .int (s0 22 0)) hx hb hts i_X8_whole_X8 hown hK hP 0 rfl rfl 22 (by decide) (hts _ m_X8_whole_993142) (fun _ h9 => h9) rfl dX8_whole_1 ?_
      refine lv_if_le (tgt := 52) hx hb dX8_whole_4 (by decide) (fun c_4 => ?_) (fun c_4 => ?_)
      · have hf := ite_t c_4 hf
        have e9 := Option.some.inj hf
        exact rt_v hx hb hr hlocks (rtP (P := fun z => va_P E.1 vwCl (wX8 E a0 z t0) H) e9 hP) hS dX8_whole_52
      · have hf := ite_f c_4 hf
        refine lv_aload_n hx hb dX8_whole_7 rfl (lv_at hl 0 rfl) ?_
        refine va_get (ci := 8) (C := RX8) (T := TX8) (N := 67) (v := .ref (a0 13)) hx hb hts i_X8_whole_X8 hown hK hP 0 rfl rfl 20 (by decide) (hts _ m_X8_whole_3e5640) (fun _ h9 => h9) rfl dX8_whole_8 ?_
        refine lv_aload_n hx hb dX8_whole_11 rfl (lv_at hl 0 rfl) ?_
        refine va_get (ci := 8) (C := RX8) (T := TX8) (N := 67) (v := .int (s0 22 0)) hx hb hts i_X8_whole_X8 hown hK hP 0 rfl rfl 22 (by decide) (hts _ m_X8_whole_993142) (fun _ h9 => h9) rfl dX8_whole_12 ?_
        refine lv_iconst (v := 1) hx hb dX8_whole_15 (by decide) ?_
        refine lv_isub hx hb dX8_whole_16 ?_
        obtain ⟨h_17, hf⟩ := ck_e hf
        refine va_iald (cA := E.2.1) (n := 101) (f := s0 20) hx hb hK hP 13 0 rfl rfl h_17 dX8_whole_17 ?_
        refine lv_bipush (v := 33) hx hb dX8_whole_18 (by decide) ?_
        refine lv_icmp_ne (tgt := 52) hx hb dX8_whole_20 (by decide) (fun c_20 => ?_) (fun c_20 => ?_)
        · have hf := ite_f c_20 hf
          have e9 := Option.some.inj hf
          exact rt_v hx hb hr hlocks (rtP (P := fun z => va_P E.1 vwCl (wX8 E a0 z t0) H) e9 hP) hS dX8_whole_52
        · have hf := ite_t c_20 hf
          refine lv_aload_n hx hb dX8_whole_23 rfl (lv_at hl 0 rfl) ?_
          refine lv_bipush (v := (-33)) hx hb dX8_whole_24 (by decide) ?_
          obtain ⟨q26, hc_26, hf⟩ := cl_e hf
          refine fin_v (E := E) (wc := wX8 E a0 s0 t0) (wc' := wX8 E a0 q26 t0) (va_runV (As := [.int (-33)]) (rest := []) ⟨hx, hb, hml, hown, hts⟩ (k_X8_emits l E a0 N s0 t0 (-33) q26 hc_26 _) (cwV 1 hts gX8_whole_X8_emits rfl rfl rfl (by decide +kernel) ⟨(Nat.le_of_ble_eq_true rfl), (Nat.le_of_ble_eq_true rfl)⟩) (pre_v (ci := 8) (q0 := 0) hK hP (hDD s0 t0) hS hG hAB rfl rfl) rfl rfl hl.1 rfl (lv_room (Nat.le_of_ble_eq_true rfl)) dX8_whole_26 ⟨Nat.zero_le _, Nat.zero_le _⟩) hS (w_free (hDD s0 t0) hS hA (fun _ h => h)) (fun H locs hP1 hk hS => ?_)
          have hP := hP1
          refine lv_aload_n hx hb dX8_whole_29 rfl (lv_at hl 0 rfl) ?_
          refine lv_dup hx hb dX8_whole_30 rfl ?_
          refine va_get (ci := 8) (C := RX8) (T := TX8) (N := 67) (v := .int (q26 22 0)) hx hb hts i_X8_whole_X8 hown hK hP 0 rfl rfl 22 (by decide) (hts _ m_X8_whole_993142) (fun _ h9 => h9) rfl dX8_whole_31 ?_
          refine lv_iconst (v := 1) hx hb dX8_whole_34 (by decide) ?_
          refine lv_isub hx hb dX8_whole_35 ?_
          refine va_put (ci := 8) (v := .int ((q26 22 0) - 1)) (ty := .int) (C := RX8) (T := TX8) (N := 67) hx hb hts i_X8_whole_X8 tyX8 tyX8_ok nmX8 hown hK hP (hDD q26 t0) hS 0 rfl rfl 22 (by decide) (hts _ m_X8_whole_993142) (fun _ h9 => h9) rfl (by decide +kernel) rfl rfl (Nat.le_of_ble_eq_true rfl) dX8_whole_36 (fun H locs hP _ hS => ?_)
          obtain ⟨s0_36, hP, hf⟩ := nm_st' (P := fun z => va_P E.1 vwCl (wX8 E a0 z t0) H) hf hP
          refine lv_aload_n hx hb dX8_whole_39 rfl (lv_at hl 0 rfl) ?_
          refine lv_dup hx hb dX8_whole_40 rfl ?_
          refine va_get (ci := 8) (C := RX8) (T := TX8) (N := 67) (v := .int (s0_36 23 0)) hx hb hts i_X8_whole_X8 hown hK hP 0 rfl rfl 23 (by decide) (hts _ m_X8_whole_5ff30a) (fun _ h9 => h9) rfl dX8_whole_41 ?_
          refine lv_iconst (v := 1) hx hb dX8_whole_44 (by decide) ?_
          refine lv_isub hx hb dX8_whole_45 ?_
          refine va_put (ci := 8) (v := .int ((s0_36 23 0) - 1)) (ty := .int) (C := RX8) (T := TX8) (N := 67) hx hb hts i_X8_whole_X8 tyX8 tyX8_ok nmX8 hown hK hP (hDD s0_36 t0) hS 0 rfl rfl 23 (by decide) (hts _ m_X8_whole_5ff30a) (fun _ h9 => h9) rfl (by decide +kernel) rfl rfl (Nat.le_of_ble_eq_true rfl) dX8_whole_46 (fun H locs hP _ hS => ?_)
          obtain ⟨s0_46, hP, hf⟩ := nm_st' (P := fun z => va_P E.1 vwCl (wX8 E a0 z t0) H) hf hP
          refine lv_goto (tgt := 0) hx hb dX8_whole_49 (by decide) ?_
          exact ih_0 s0_46 hf _ _ _ hP hS (lv_sub hl [0] rfl)
  exact hL_0 N s0 hf _ _ _ hP hS (lv_sub hl [0] rfl)
abbrev rm_X8_settle : Room := { frames := 1, cells := 0, slots := 0, locals := 21 }
theorem m_X8_settle_993142 : Cond.fieldLink RX8 77 "PickedMatchModel" "waiting" "I" ∈ wsX8_settle := by decide +kernel
theorem i_X8_settle_X8 : ∀ w ∈ wsX80, w ∈ wsX8_settle := fun _ h => List.mem_cons_of_mem _ (List.mem_append_right _ h)
theorem m_X8_settle_3e5640 : Cond.fieldLink RX8 71 "PickedMatchModel" "waits" "[I" ∈ wsX8_settle := by decide +kernel
set_option maxHeartbeats 8000000 in
set_option maxRecDepth 100000 in
theorem k_X8_settle (l : Launch) (E : Ev) (a0 : Nat → Nat) (N : Nat) (s0 : St) (t0 : Nat → Nat → Int64) (p1 : Int32) (q : (St)) (hf : f_X8_settle N s0 p1 = some q) : Cv l yX8_settle wsX8_settle rm_X8_settle E [.ref (a0 0), .int p1] (wX8 E a0 s0 t0) (wX8 E a0 q t0) := by
  unfold f_X8_settle at hf
  intro sz
  refine Met.ofW (cc := cX8_settle) (maxL := 2) (ret := none) (by decide) rfl ?_
  intro p e s m args below meth c s₁ B hml hv
  obtain ⟨rfl, hsz, hP, hK, hD0, hG, hA, hAB⟩ := start hv
  have hx := B.exec
  have hb := B.bytes
  have hr := B.returns
  have hts := atoms_spec (ws := wsX8_settle) B.pre
  have hown : s.vm.findClass RX8 = some m.cls := findClass_of_methodNamed B.named
  have hlocks := B.notSynchronized
  subst hsz
  generalize va_A (wX8 E a0 s0 t0) s.heap.size = A0 at hD0 hA hAB ⊢
  have hDD : ∀ (s0 : St) (t0 : Nat → Nat → Int64), va_D A0 (wX8 E a0 s0 t0) := fun s0 t0 => vD_addr hD0 rfl
  have hS : va_S A0 s.heap s.heap [] := va_S.rf
  have hl := lv_entry ([.ref (a0 0), .int p1]) (n := 2) (Nat.le_of_ble_eq_true rfl)
  rw [lg_entry_eq]
  generalize (lg_sl ([.ref (a0 0), .int p1]) ++ List.replicate (2 - (lg_sl ([.ref (a0 0), .int p1])).length) Slot.unset).toArray = ls at hl ⊢
  have hl : lv_has ls 2 [(0, .ref (a0 0)), (1, .int p1)] := hl
  have hL_0 : ∀ (v1 : Int32) (n_0 : Nat) (s0 : St), l_X8_settle_0 N v1 n_0 s0 = some q → ∀ (H : Heap) (locs : List Loc) (ls : Array Slot), va_P E.1 vwCl (wX8 E a0 s0 t0) H → va_S A0 s.heap H locs → lv_has ls 2 [(0, .ref (a0 0)), (1, .int v1)] → W p l e rm_X8_settle s m ([.ref (a0 0), .int p1] : List Value).toArray below meth c H locs 0 0 (MQ below (va_Qv (fun (_ : Unit) => True) (fun _ t => va_P E.1 vwCl (wX8 E a0 q t0) t.heap) A0) ([.ref (a0 0), .int p1] : List Value).toArray s 0 0 A0) (F0 m 0 ls []) := by
    intro v1 n_0
    induction n_0 with
    | zero => intro s0 hf; rw [l_X8_settle_0] at hf; cases hf
    | succ n_0 ih_0 =>
      intro s0 hf H locs ls hP hS hl
      rw [l_X8_settle_0] at hf
      have hL_45 : ∀ (s0 : St), j_X8_settle_45 N (l_X8_settle_0 N v1 n_0) s0 v1 = some q → ∀ (H : Heap) (locs : List Loc) (ls : Array Slot), va_P E.1 vwCl (wX8 E a0 s0 t0) H → va_S A0 s.heap H locs → lv_has ls 2 [(0, .ref (a0 0)), (1, .int v1)] → W p l e rm_X8_settle s m ([.ref (a0 0), .int p1] : List Value).toArray below meth c H locs 0 0 (MQ below (va_Qv (fun (_ : Unit) => True) (fun _ t => va_P E.1 vwCl (wX8 E a0 q t0) t.heap) A0) ([.ref (a0 0), .int p1] : List Value).toArray s 0 0 A0) (F0 m 45 ls []) := by
        intro s0 hf H locs ls hP hS hl
        unfold j_X8_settle_45 at hf
        refine lv_aload_n hx hb dX8_settle_45 rfl (lv_at hl 0 rfl) ?_
        refine lv_dup hx hb dX8_settle_46 rfl ?_
        refine va_get (ci := 8) (C := RX8) (T := TX8) (N := 67) (v := .int (s0 22 0)) hx hb hts i_X8_settle_X8 hown hK hP 0 rfl rfl 22 (by decide) (hts _ m_X8_settle_993142) (fun _ h9 => h9) rfl dX8_settle_47 ?_
        refine lv_iconst (v := 1) hx hb dX8_settle_50 (by decide) ?_
        refine lv_isub hx hb dX8_settle_51 ?_
        refine va_put (ci := 8) (v := .int ((s0 22 0) - 1)) (ty := .int) (C := RX8) (T := TX8) (N := 67) hx hb hts i_X8_settle_X8 tyX8 tyX8_ok nmX8 hown hK hP (hDD s0 t0) hS 0 rfl rfl 22 (by decide) (hts _ m_X8_settle_993142) (fun _ h9 => h9) rfl (by decide +kernel) rfl rfl (Nat.le_of_ble_eq_true rfl) dX8_settle_52 (fun H locs hP _ hS => ?_)
        obtain ⟨s0_52, hP, hf⟩ := nm_st' (P := fun z => va_P E.1 vwCl (wX8 E a0 z t0) H) hf hP
        refine lv_aload_n hx hb dX8_settle_55 rfl (lv_at hl 0 rfl) ?_
        refine lv_aload_n hx hb dX8_settle_56 rfl (lv_at hl 0 rfl) ?_
        refine va_get (ci := 8) (C := RX8) (T := TX8) (N := 67) (v := .ref (a0 13)) hx hb hts i_X8_settle_X8 hown hK hP 0 rfl rfl 20 (by decide) (hts _ m_X8_settle_3e5640) (fun _ h9 => h9) rfl dX8_settle_57 ?_
        refine lv_aload_n hx hb dX8_settle_60 rfl (lv_at hl 0 rfl) ?_
        refine va_get (ci := 8) (C := RX8) (T := TX8) (N := 67) (v := .int (s0_52 22 0)) hx hb hts i_X8_settle_X8 hown hK hP 0 rfl rfl 22 (by decide) (hts _ m_X8_settle_993142) (fun _ h9 => h9) rfl dX8_settle_61 ?_
        obtain ⟨h_64, hf⟩ := ck_e hf
        refine va_iald (cA := E.2.1) (n := 101) (f := s0_52 20) hx hb hK hP 13 0 rfl rfl h_64 dX8_settle_64 ?_
        refine lv_ineg hx hb dX8_settle_65 ?_
        obtain ⟨q66, hc_66, hf⟩ := cl_e hf
        refine fin_v (E := E) (wc := wX8 E a0 s0_52 t0) (wc' := wX8 E a0 q66 t0) (va_runV (As := [.int (-(s0_52 20 (s0_52 22 0).toNatClampNeg))]) (rest := []) ⟨hx, hb, hml, hown, hts⟩ (k_X8_emits l E a0 N s0_52 t0 (-(s0_52 20 (s0_52 22 0).toNatClampNeg)) q66 hc_66 _) (cwV 1 hts gX8_settle_X8_emits rfl rfl rfl (by decide +kernel) ⟨(Nat.le_of_ble_eq_true rfl), (Nat.le_of_ble_eq_true rfl)⟩) (pre_v (ci := 8) (q0 := 0) hK hP (hDD s0_52 t0) hS hG hAB rfl rfl) rfl rfl hl.1 rfl (lv_room (Nat.le_of_ble_eq_true rfl)) dX8_settle_66 ⟨Nat.zero_le _, Nat.zero_le _⟩) hS (w_free (hDD s0_52 t0) hS hA (fun _ h => h)) (fun H locs hP1 hk hS => ?_)
        have hP := hP1
        refine lv_goto (tgt := 0) hx hb dX8_settle_69 (by decide) ?_
        exact ih_0 q66 hf _ _ _ hP hS (lv_sub hl [0, 1] rfl)
      refine lv_aload_n hx hb dX8_settle_0 rfl (lv_at hl 0 rfl) ?_
      refine va_get (ci := 8) (C := RX8) (T := TX8) (N := 67) (v := .int (s0 22 0)) hx hb hts i_X8_settle_X8 hown hK hP 0 rfl rfl 22 (by decide) (hts _ m_X8_settle_993142) (fun _ h9 => h9) rfl dX8_settle_1 ?_
      refine lv_if_le (tgt := 72) hx hb dX8_settle_4 (by decide) (fun c_4 => ?_) (fun c_4 => ?_)
      · have hf := ite_t c_4 hf
        have e9 := Option.some.inj hf
        exact rt_v hx hb hr hlocks (rtP (P := fun z => va_P E.1 vwCl (wX8 E a0 z t0) H) e9 hP) hS dX8_settle_72
      · have hf := ite_f c_4 hf
        refine lv_aload_n hx hb dX8_settle_7 rfl (lv_at hl 0 rfl) ?_
        refine va_get (ci := 8) (C := RX8) (T := TX8) (N := 67) (v := .ref (a0 13)) hx hb hts i_X8_settle_X8 hown hK hP 0 rfl rfl 20 (by decide) (hts _ m_X8_settle_3e5640) (fun _ h9 => h9) rfl dX8_settle_8 ?_
        refine lv_aload_n hx hb dX8_settle_11 rfl (lv_at hl 0 rfl) ?_
        refine va_get (ci := 8) (C := RX8) (T := TX8) (N := 67) (v := .int (s0 22 0)) hx hb hts i_X8_settle_X8 hown hK hP 0 rfl rfl 22 (by decide) (hts _ m_X8_settle_993142) (fun _ h9 => h9) rfl dX8_settle_12 ?_
        refine lv_iconst (v := 1) hx hb dX8_settle_15 (by decide) ?_
        refine lv_isub hx hb dX8_settle_16 ?_
        obtain ⟨h_17, hf⟩ := ck_e hf
        refine va_iald (cA := E.2.1) (n := 101) (f := s0 20) hx hb hK hP 13 0 rfl rfl h_17 dX8_settle_17 ?_
        refine lv_bipush (v := 38) hx hb dX8_settle_18 (by decide) ?_
        refine lv_icmp_eq (tgt := 45) hx hb dX8_settle_20 (by decide) (fun c_20 => ?_) (fun c_20 => ?_)
        · have hf := ite_t c_20 hf
          exact hL_45 s0 hf _ _ _ hP hS (lv_sub hl [0, 1] rfl)
        · have hf := ite_f c_20 hf
          refine lv_aload_n hx hb dX8_settle_23 rfl (lv_at hl 0 rfl) ?_
          refine va_get (ci := 8) (C := RX8) (T := TX8) (N := 67) (v := .ref (a0 13)) hx hb hts i_X8_settle_X8 hown hK hP 0 rfl rfl 20 (by decide) (hts _ m_X8_settle_3e5640) (fun _ h9 => h9) rfl dX8_settle_24 ?_
          refine lv_aload_n hx hb dX8_settle_27 rfl (lv_at hl 0 rfl) ?_
          refine va_get (ci := 8) (C := RX8) (T := TX8) (N := 67) (v := .int (s0 22 0)) hx hb hts i_X8_settle_X8 hown hK hP 0 rfl rfl 22 (by decide) (hts _ m_X8_settle_993142) (fun _ h9 => h9) rfl dX8_settle_28 ?_
          refine lv_iconst (v := 1) hx hb dX8_settle_31 (by decide) ?_
          refine lv_isub hx hb dX8_settle_32 ?_
          obtain ⟨h_33, hf⟩ := ck_e hf
          refine va_iald (cA := E.2.1) (n := 101) (f := s0 20) hx hb hK hP 13 0 rfl rfl h_33 dX8_settle_33 ?_
          refine lv_bipush (v := 124) hx hb dX8_settle_34 (by decide) ?_
          refine lv_icmp_ne (tgt := 72) hx hb dX8_settle_36 (by decide) (fun c_36 => ?_) (fun c_36 => ?_)
          · have hf := ite_f c_36 hf
            have e9 := Option.some.inj hf
            exact rt_v hx hb hr hlocks (rtP (P := fun z => va_P E.1 vwCl (wX8 E a0 z t0) H) e9 hP) hS dX8_settle_72
          · have hf := ite_t c_36 hf
            refine lv_iload_n hx hb dX8_settle_39 rfl (lv_at hl 1 rfl) ?_
            refine lv_bipush (v := 38) hx hb dX8_settle_40 (by decide) ?_
            refine lv_icmp_eq (tgt := 72) hx hb dX8_settle_42 (by decide) (fun c_42 => ?_) (fun c_42 => ?_)
            · have hf := ite_t c_42 hf
              have e9 := Option.some.inj hf
              exact rt_v hx hb hr hlocks (rtP (P := fun z => va_P E.1 vwCl (wX8 E a0 z t0) H) e9 hP) hS dX8_settle_72
            · have hf := ite_f c_42 hf
              exact hL_45 s0 hf _ _ _ hP hS (lv_sub hl [0, 1] rfl)
  exact hL_0 p1 N s0 hf _ _ _ hP hS (lv_sub hl [0, 1] rfl)
abbrev rm_X8_place : Room := { frames := 0, cells := 0, slots := 0, locals := 0 }
set_option maxHeartbeats 8000000 in
set_option maxRecDepth 100000 in
theorem k_X8_place (l : Launch) (E : Ev) (a0 : Nat → Nat) (N : Nat) (s0 : St) (t0 : Nat → Nat → Int64) (p1 : Int32) (q : (Int32)) (hf : f_X8_place N p1 = some q) : Ci l yX8_place wsX8_place rm_X8_place E [.ref (a0 0), .int p1] (wX8 E a0 s0 t0) (wX8 E a0 s0 t0) q := by
  unfold f_X8_place at hf
  intro sz
  refine Met.ofW (cc := cX8_place) (maxL := 2) (ret := (some .int)) (by decide) rfl ?_
  intro p e s m args below meth c s₁ B hml hv
  obtain ⟨rfl, hsz, hP, hK, hD0, hG, hA, hAB⟩ := start hv
  have hx := B.exec
  have hb := B.bytes
  have hr := B.returns
  have hts := atoms_spec (ws := wsX8_place) B.pre
  have hown : s.vm.findClass RX8 = some m.cls := findClass_of_methodNamed B.named
  have hlocks := B.notSynchronized
  subst hsz
  generalize va_A (wX8 E a0 s0 t0) s.heap.size = A0 at hD0 hA hAB ⊢
  have hDD : ∀ (s0 : St) (t0 : Nat → Nat → Int64), va_D A0 (wX8 E a0 s0 t0) := fun s0 t0 => vD_addr hD0 rfl
  have hS : va_S A0 s.heap s.heap [] := va_S.rf
  have hl := lv_entry ([.ref (a0 0), .int p1]) (n := 2) (Nat.le_of_ble_eq_true rfl)
  rw [lg_entry_eq]
  generalize (lg_sl ([.ref (a0 0), .int p1]) ++ List.replicate (2 - (lg_sl ([.ref (a0 0), .int p1])).length) Slot.unset).toArray = ls at hl ⊢
  have hl : lv_has ls 2 [(0, .ref (a0 0)), (1, .int p1)] := hl
  refine lv_iload_n hx hb dX8_place_0 rfl (lv_at hl 1 rfl) ?_
  by_cases c_1_0 : p1 = 100
  · have hf := ite_t c_1_0 hf
    refine lv_tableIn (off := 105) (tgt := 106) hx hb dX8_place_1 (by rw [c_1_0]; decide) (by rw [c_1_0]; decide) (by rw [c_1_0]; rfl) (by decide) ?_
    refine lv_iconst (v := 5) hx hb dX8_place_106 (by decide) ?_
    have e9 := Option.some.inj hf
    exact rt_i hx hb hr hlocks e9 hP hS dX8_place_107
  · have hf := ite_f c_1_0 hf
    by_cases c_1_1 : p1 = 101
    · have hf := ite_t c_1_1 hf
      refine lv_tableIn (off := 107) (tgt := 108) hx hb dX8_place_1 (by rw [c_1_1]; decide) (by rw [c_1_1]; decide) (by rw [c_1_1]; rfl) (by decide) ?_
      refine lv_iconst (v := (-1)) hx hb dX8_place_108 (by decide) ?_
      have e9 := Option.some.inj hf
      exact rt_i hx hb hr hlocks e9 hP hS dX8_place_109
    · have hf := ite_f c_1_1 hf
      by_cases c_1_2 : p1 = 102
      · have hf := ite_t c_1_2 hf
        refine lv_tableIn (off := 107) (tgt := 108) hx hb dX8_place_1 (by rw [c_1_2]; decide) (by rw [c_1_2]; decide) (by rw [c_1_2]; rfl) (by decide) ?_
        refine lv_iconst (v := (-1)) hx hb dX8_place_108 (by decide) ?_
        have e9 := Option.some.inj hf
        exact rt_i hx hb hr hlocks e9 hP hS dX8_place_109
      · have hf := ite_f c_1_2 hf
        by_cases c_1_3 : p1 = 103
        · have hf := ite_t c_1_3 hf
          refine lv_tableIn (off := 107) (tgt := 108) hx hb dX8_place_1 (by rw [c_1_3]; decide) (by rw [c_1_3]; decide) (by rw [c_1_3]; rfl) (by decide) ?_
          refine lv_iconst (v := (-1)) hx hb dX8_place_108 (by decide) ?_
          have e9 := Option.some.inj hf
          exact rt_i hx hb hr hlocks e9 hP hS dX8_place_109
        · have hf := ite_f c_1_3 hf
          by_cases c_1_4 : p1 = 104
          · have hf := ite_t c_1_4 hf
            refine lv_tableIn (off := 107) (tgt := 108) hx hb dX8_place_1 (by rw [c_1_4]; decide) (by rw [c_1_4]; decide) (by rw [c_1_4]; rfl) (by decide) ?_
            refine lv_iconst (v := (-1)) hx hb dX8_place_108 (by decide) ?_
            have e9 := Option.some.inj hf
            exact rt_i hx hb hr hlocks e9 hP hS dX8_place_109
          · have hf := ite_f c_1_4 hf
            by_cases c_1_5 : p1 = 105
            · have hf := ite_t c_1_5 hf
              refine lv_tableIn (off := 107) (tgt := 108) hx hb dX8_place_1 (by rw [c_1_5]; decide) (by rw [c_1_5]; decide) (by rw [c_1_5]; rfl) (by decide) ?_
              refine lv_iconst (v := (-1)) hx hb dX8_place_108 (by decide) ?_
              have e9 := Option.some.inj hf
              exact rt_i hx hb hr hlocks e9 hP hS dX8_place_109
            · have hf := ite_f c_1_5 hf
              by_cases c_1_6 : p1 = 106
              · have hf := ite_t c_1_6 hf
                refine lv_tableIn (off := 107) (tgt := 108) hx hb dX8_place_1 (by rw [c_1_6]; decide) (by rw [c_1_6]; decide) (by rw [c_1_6]; rfl) (by decide) ?_
                refine lv_iconst (v := (-1)) hx hb dX8_place_108 (by decide) ?_
                have e9 := Option.some.inj hf
                exact rt_i hx hb hr hlocks e9 hP hS dX8_place_109
              · have hf := ite_f c_1_6 hf
                by_cases c_1_7 : p1 = 107
                · have hf := ite_t c_1_7 hf
                  refine lv_tableIn (off := 97) (tgt := 98) hx hb dX8_place_1 (by rw [c_1_7]; decide) (by rw [c_1_7]; decide) (by rw [c_1_7]; rfl) (by decide) ?_
                  refine lv_iconst (v := 1) hx hb dX8_place_98 (by decide) ?_
                  have e9 := Option.some.inj hf
                  exact rt_i hx hb hr hlocks e9 hP hS dX8_place_99
                · have hf := ite_f c_1_7 hf
                  by_cases c_1_8 : p1 = 108
                  · have hf := ite_t c_1_8 hf
                    refine lv_tableIn (off := 107) (tgt := 108) hx hb dX8_place_1 (by rw [c_1_8]; decide) (by rw [c_1_8]; decide) (by rw [c_1_8]; rfl) (by decide) ?_
                    refine lv_iconst (v := (-1)) hx hb dX8_place_108 (by decide) ?_
                    have e9 := Option.some.inj hf
                    exact rt_i hx hb hr hlocks e9 hP hS dX8_place_109
                  · have hf := ite_f c_1_8 hf
                    by_cases c_1_9 : p1 = 109
                    · have hf := ite_t c_1_9 hf
                      refine lv_tableIn (off := 101) (tgt := 102) hx hb dX8_place_1 (by rw [c_1_9]; decide) (by rw [c_1_9]; decide) (by rw [c_1_9]; rfl) (by decide) ?_
                      refine lv_iconst (v := 3) hx hb dX8_place_102 (by decide) ?_
                      have e9 := Option.some.inj hf
                      exact rt_i hx hb hr hlocks e9 hP hS dX8_place_103
                    · have hf := ite_f c_1_9 hf
                      by_cases c_1_10 : p1 = 110
                      · have hf := ite_t c_1_10 hf
                        refine lv_tableIn (off := 107) (tgt := 108) hx hb dX8_place_1 (by rw [c_1_10]; decide) (by rw [c_1_10]; decide) (by rw [c_1_10]; rfl) (by decide) ?_
                        refine lv_iconst (v := (-1)) hx hb dX8_place_108 (by decide) ?_
                        have e9 := Option.some.inj hf
                        exact rt_i hx hb hr hlocks e9 hP hS dX8_place_109
                      · have hf := ite_f c_1_10 hf
                        by_cases c_1_11 : p1 = 111
                        · have hf := ite_t c_1_11 hf
                          refine lv_tableIn (off := 107) (tgt := 108) hx hb dX8_place_1 (by rw [c_1_11]; decide) (by rw [c_1_11]; decide) (by rw [c_1_11]; rfl) (by decide) ?_
                          refine lv_iconst (v := (-1)) hx hb dX8_place_108 (by decide) ?_
                          have e9 := Option.some.inj hf
                          exact rt_i hx hb hr hlocks e9 hP hS dX8_place_109
                        · have hf := ite_f c_1_11 hf
                          by_cases c_1_12 : p1 = 112
                          · have hf := ite_t c_1_12 hf
                            refine lv_tableIn (off := 107) (tgt := 108) hx hb dX8_place_1 (by rw [c_1_12]; decide) (by rw [c_1_12]; decide) (by rw [c_1_12]; rfl) (by decide) ?_
                            refine lv_iconst (v := (-1)) hx hb dX8_place_108 (by decide) ?_
                            have e9 := Option.some.inj hf
                            exact rt_i hx hb hr hlocks e9 hP hS dX8_place_109
                          · have hf := ite_f c_1_12 hf
                            by_cases c_1_13 : p1 = 113
                            · have hf := ite_t c_1_13 hf
                              refine lv_tableIn (off := 107) (tgt := 108) hx hb dX8_place_1 (by rw [c_1_13]; decide) (by rw [c_1_13]; decide) (by rw [c_1_13]; rfl) (by decide) ?_
                              refine lv_iconst (v := (-1)) hx hb dX8_place_108 (by decide) ?_
                              have e9 := Option.some.inj hf
                              exact rt_i hx hb hr hlocks e9 hP hS dX8_place_109
                            · have hf := ite_f c_1_13 hf
                              by_cases c_1_14 : p1 = 114
                              · have hf := ite_t c_1_14 hf
                                refine lv_tableIn (off := 107) (tgt := 108) hx hb dX8_place_1 (by rw [c_1_14]; decide) (by rw [c_1_14]; decide) (by rw [c_1_14]; rfl) (by decide) ?_
                                refine lv_iconst (v := (-1)) hx hb dX8_place_108 (by decide) ?_
                                have e9 := Option.some.inj hf
                                exact rt_i hx hb hr hlocks e9 hP hS dX8_place_109
                              · have hf := ite_f c_1_14 hf
                                by_cases c_1_15 : p1 = 115
                                · have hf := ite_t c_1_15 hf
                                  refine lv_tableIn (off := 107) (tgt := 108) hx hb dX8_place_1 (by rw [c_1_15]; decide) (by rw [c_1_15]; decide) (by rw [c_1_15]; rfl) (by decide) ?_
                                  refine lv_iconst (v := (-1)) hx hb dX8_place_108 (by decide) ?_
                                  have e9 := Option.some.inj hf
                                  exact rt_i hx hb hr hlocks e9 hP hS dX8_place_109
                                · have hf := ite_f c_1_15 hf
                                  by_cases c_1_16 : p1 = 116
                                  · have hf := ite_t c_1_16 hf
                                    refine lv_tableIn (off := 95) (tgt := 96) hx hb dX8_place_1 (by rw [c_1_16]; decide) (by rw [c_1_16]; decide) (by rw [c_1_16]; rfl) (by decide) ?_
                                    refine lv_iconst (v := 0) hx hb dX8_place_96 (by decide) ?_
                                    have e9 := Option.some.inj hf
                                    exact rt_i hx hb hr hlocks e9 hP hS dX8_place_97
                                  · have hf := ite_f c_1_16 hf
                                    by_cases c_1_17 : p1 = 117
                                    · have hf := ite_t c_1_17 hf
                                      refine lv_tableIn (off := 107) (tgt := 108) hx hb dX8_place_1 (by rw [c_1_17]; decide) (by rw [c_1_17]; decide) (by rw [c_1_17]; rfl) (by decide) ?_
                                      refine lv_iconst (v := (-1)) hx hb dX8_place_108 (by decide) ?_
                                      have e9 := Option.some.inj hf
                                      exact rt_i hx hb hr hlocks e9 hP hS dX8_place_109
                                    · have hf := ite_f c_1_17 hf
                                      by_cases c_1_18 : p1 = 118
                                      · have hf := ite_t c_1_18 hf
                                        refine lv_tableIn (off := 99) (tgt := 100) hx hb dX8_place_1 (by rw [c_1_18]; decide) (by rw [c_1_18]; decide) (by rw [c_1_18]; rfl) (by decide) ?_
                                        refine lv_iconst (v := 2) hx hb dX8_place_100 (by decide) ?_
                                        have e9 := Option.some.inj hf
                                        exact rt_i hx hb hr hlocks e9 hP hS dX8_place_101
                                      · have hf := ite_f c_1_18 hf
                                        by_cases c_1_19 : p1 = 119
                                        · have hf := ite_t c_1_19 hf
                                          refine lv_tableIn (off := 103) (tgt := 104) hx hb dX8_place_1 (by rw [c_1_19]; decide) (by rw [c_1_19]; decide) (by rw [c_1_19]; rfl) (by decide) ?_
                                          refine lv_iconst (v := 4) hx hb dX8_place_104 (by decide) ?_
                                          have e9 := Option.some.inj hf
                                          exact rt_i hx hb hr hlocks e9 hP hS dX8_place_105
                                        · have hf := ite_f c_1_19 hf
                                          refine lv_tableOut (tgt := 108) hx hb dX8_place_1 (by have n0 := lv_neT (a := 100) c_1_0 (by decide); have n1 := lv_neT (a := 101) c_1_1 (by decide); have n2 := lv_neT (a := 102) c_1_2 (by decide); have n3 := lv_neT (a := 103) c_1_3 (by decide); have n4 := lv_neT (a := 104) c_1_4 (by decide); have n5 := lv_neT (a := 105) c_1_5 (by decide); have n6 := lv_neT (a := 106) c_1_6 (by decide); have n7 := lv_neT (a := 107) c_1_7 (by decide); have n8 := lv_neT (a := 108) c_1_8 (by decide); have n9 := lv_neT (a := 109) c_1_9 (by decide); have n10 := lv_neT (a := 110) c_1_10 (by decide); have n11 := lv_neT (a := 111) c_1_11 (by decide); have n12 := lv_neT (a := 112) c_1_12 (by decide); have n13 := lv_neT (a := 113) c_1_13 (by decide); have n14 := lv_neT (a := 114) c_1_14 (by decide); have n15 := lv_neT (a := 115) c_1_15 (by decide); have n16 := lv_neT (a := 116) c_1_16 (by decide); have n17 := lv_neT (a := 117) c_1_17 (by decide); have n18 := lv_neT (a := 118) c_1_18 (by decide); have n19 := lv_neT (a := 119) c_1_19 (by decide); omega) (by decide) ?_
                                          refine lv_iconst (v := (-1)) hx hb dX8_place_108 (by decide) ?_
                                          have e9 := Option.some.inj hf
                                          exact rt_i hx hb hr hlocks e9 hP hS dX8_place_109
abbrev rm_X8_takesTest : Room := { frames := 3, cells := 0, slots := 0, locals := 64 }
theorem m_X8_takesTest_8d5e37 : Cond.fieldLink RX8 44 "PickedMatchModel" "at" "I" ∈ wsX8_takesTest := by decide +kernel
theorem i_X8_takesTest_X8 : ∀ w ∈ wsX80, w ∈ wsX8_takesTest := fun _ h => List.mem_cons_of_mem _ (List.mem_append_right _ h)
theorem m_X8_takesTest_e7685d : Cond.fieldLink RX8 47 "PickedMatchModel" "digits" "I" ∈ wsX8_takesTest := by decide +kernel
set_option maxHeartbeats 8000000 in
set_option maxRecDepth 100000 in
theorem k_X8_takesTest (l : Launch) (E : Ev) (a0 : Nat → Nat) (N : Nat) (s0 : St) (t0 : Nat → Nat → Int64) (q : (Int32 × St)) (hf : f_X8_takesTest N s0 = some q) : Ci l yX8_takesTest wsX8_takesTest rm_X8_takesTest E [.ref (a0 0)] (wX8 E a0 s0 t0) (wX8 E a0 q.2 t0) q.1 := by
  unfold f_X8_takesTest at hf
  intro sz
  refine Met.ofW (cc := cX8_takesTest) (maxL := 3) (ret := (some .boolean)) (by decide) rfl ?_
  intro p e s m args below meth c s₁ B hml hv
  obtain ⟨rfl, hsz, hP, hK, hD0, hG, hA, hAB⟩ := start hv
  have hx := B.exec
  have hb := B.bytes
  have hr := B.returns
  have hts := atoms_spec (ws := wsX8_takesTest) B.pre
  have hown : s.vm.findClass RX8 = some m.cls := findClass_of_methodNamed B.named
  have hlocks := B.notSynchronized
  subst hsz
  generalize va_A (wX8 E a0 s0 t0) s.heap.size = A0 at hD0 hA hAB ⊢
  have hDD : ∀ (s0 : St) (t0 : Nat → Nat → Int64), va_D A0 (wX8 E a0 s0 t0) := fun s0 t0 => vD_addr hD0 rfl
  have hS : va_S A0 s.heap s.heap [] := va_S.rf
  have hl := lv_entry ([.ref (a0 0)]) (n := 3) (Nat.le_of_ble_eq_true rfl)
  rw [lg_entry_eq]
  generalize (lg_sl ([.ref (a0 0)]) ++ List.replicate (3 - (lg_sl ([.ref (a0 0)])).length) Slot.unset).toArray = ls at hl ⊢
  have hl : lv_has ls 3 [(0, .ref (a0 0))] := hl
  refine lv_aload_n hx hb dX8_takesTest_0 rfl (lv_at hl 0 rfl) ?_
  refine lv_aload_n hx hb dX8_takesTest_1 rfl (lv_at hl 0 rfl) ?_
  obtain ⟨q2, hc_2, hf⟩ := cl_e hf
  refine fin_i (E := E) (wc := wX8 E a0 s0 t0) (wc' := wX8 E a0 s0 t0) (va_runV (As := []) (rest := [.ref (a0 0)]) ⟨hx, hb, hml, hown, hts⟩ (k_X8_next l E a0 N s0 t0 q2 hc_2 _) (cwV 0 hts gX8_takesTest_X8_next rfl rfl rfl (by decide +kernel) ⟨(Nat.le_of_ble_eq_true rfl), (Nat.le_of_ble_eq_true rfl)⟩) (pre_v (ci := 8) (q0 := 0) hK hP (hDD s0 t0) hS hG hAB rfl rfl) rfl rfl hl.1 rfl (lv_room (Nat.le_of_ble_eq_true rfl)) dX8_takesTest_2 ⟨Nat.zero_le _, Nat.zero_le _⟩) hS (w_free (hDD s0 t0) hS hA (fun _ h => h)) (fun H locs hP1 hk hS => ?_)
  have hP := hP1
  obtain ⟨q5, hc_5, hf⟩ := cl_e hf
  refine fin_i (E := E) (wc := wX8 E a0 s0 t0) (wc' := wX8 E a0 s0 t0) (va_runV (As := [.int q2]) (rest := []) ⟨hx, hb, hml, hown, hts⟩ (k_X8_place l E a0 N s0 t0 q2 q5 hc_5 _) (cwV 1 hts gX8_takesTest_X8_place rfl rfl rfl (by decide +kernel) ⟨(Nat.le_of_ble_eq_true rfl), (Nat.le_of_ble_eq_true rfl)⟩) (pre_v (ci := 8) (q0 := 0) hK hP (hDD s0 t0) hS hG hAB rfl rfl) rfl rfl hl.1 rfl (lv_room (Nat.le_of_ble_eq_true rfl)) dX8_takesTest_5 ⟨Nat.zero_le _, Nat.zero_le _⟩) hS (w_free (hDD s0 t0) hS hA (fun _ h => h)) (fun H locs hP1 hk hS => ?_)
  have hP := hP1
  refine lv_istore_n (lv' := [(1, .int q5), (0, .ref (a0 0))]) hx hb dX8_takesTest_8 rfl hl (Nat.le_of_ble_eq_true rfl) rfl (fun ls hl => ?_)
  refine lv_iload_n hx hb dX8_takesTest_9 rfl (lv_at hl 0 rfl) ?_
  refine lv_if_ge (tgt := 15) hx hb dX8_takesTest_10 (by decide) (fun c_10 => ?_) (fun c_10 => ?_)
  · have hf := ite_t c_10 hf
    refine lv_aload_n hx hb dX8_takesTest_15 rfl (lv_at hl 1 rfl) ?_
    refine lv_dup hx hb dX8_takesTest_16 rfl ?_
    refine va_get (ci := 8) (C := RX8) (T := TX8) (N := 67) (v := .int (s0 11 0)) hx hb hts i_X8_takesTest_X8 hown hK hP 0 rfl rfl 11 (by decide) (hts _ m_X8_takesTest_8d5e37) (fun _ h9 => h9) rfl dX8_takesTest_17 ?_
    refine lv_iconst (v := 1) hx hb dX8_takesTest_20 (by decide) ?_
    refine lv_iadd hx hb dX8_takesTest_21 ?_
    refine va_put (ci := 8) (v := .int ((s0 11 0) + 1)) (ty := .int) (C := RX8) (T := TX8) (N := 67) hx hb hts i_X8_takesTest_X8 tyX8 tyX8_ok nmX8 hown hK hP (hDD s0 t0) hS 0 rfl rfl 11 (by decide) (hts _ m_X8_takesTest_8d5e37) (fun _ h9 => h9) rfl (by decide +kernel) rfl rfl (Nat.le_of_ble_eq_true rfl) dX8_takesTest_22 (fun H locs hP _ hS => ?_)
    obtain ⟨s0_22, hP, hf⟩ := nm_st' (P := fun z => va_P E.1 vwCl (wX8 E a0 z t0) H) hf hP
    refine lv_aload_n hx hb dX8_takesTest_25 rfl (lv_at hl 1 rfl) ?_
    obtain ⟨q26, hc_26, hf⟩ := cl_e hf
    refine fin_i (E := E) (wc := wX8 E a0 s0_22 t0) (wc' := wX8 E a0 s0_22 t0) (va_runV (As := []) (rest := []) ⟨hx, hb, hml, hown, hts⟩ (k_X8_next l E a0 N s0_22 t0 q26 hc_26 _) (cwV 0 hts gX8_takesTest_X8_next rfl rfl rfl (by decide +kernel) ⟨(Nat.le_of_ble_eq_true rfl), (Nat.le_of_ble_eq_true rfl)⟩) (pre_v (ci := 8) (q0 := 0) hK hP (hDD s0_22 t0) hS hG hAB rfl rfl) rfl rfl hl.1 rfl (lv_room (Nat.le_of_ble_eq_true rfl)) dX8_takesTest_26 ⟨Nat.zero_le _, Nat.zero_le _⟩) hS (w_free (hDD s0_22 t0) hS hA (fun _ h => h)) (fun H locs hP1 hk hS => ?_)
    have hP := hP1
    refine lv_istore_n (lv' := [(2, .int q26), (1, .int q5), (0, .ref (a0 0))]) hx hb dX8_takesTest_29 rfl hl (Nat.le_of_ble_eq_true rfl) rfl (fun ls hl => ?_)
    refine lv_aload_n hx hb dX8_takesTest_30 rfl (lv_at hl 2 rfl) ?_
    refine lv_iload_n hx hb dX8_takesTest_31 rfl (lv_at hl 0 rfl) ?_
    refine lv_bipush (v := 60) hx hb dX8_takesTest_32 (by decide) ?_
    refine lv_bipush (v := 62) hx hb dX8_takesTest_34 (by decide) ?_
    obtain ⟨q36, hc_36, hf⟩ := cl_e hf
    refine fin_i (E := E) (wc := wX8 E a0 s0_22 t0) (wc' := wX8 E a0 s0_22 t0) (va_runV (As := [.int q26, .int 60, .int 62]) (rest := []) ⟨hx, hb, hml, hown, hts⟩ (k_X8_in l E a0 N s0_22 t0 q26 60 62 q36 hc_36 _) (cwV 3 hts gX8_takesTest_X8_in rfl rfl rfl (by decide +kernel) ⟨(Nat.le_of_ble_eq_true rfl), (Nat.le_of_ble_eq_true rfl)⟩) (pre_v (ci := 8) (q0 := 0) hK hP (hDD s0_22 t0) hS hG hAB rfl rfl) rfl rfl hl.1 rfl (lv_room (Nat.le_of_ble_eq_true rfl)) dX8_takesTest_36 ⟨Nat.zero_le _, Nat.zero_le _⟩) hS (w_free (hDD s0_22 t0) hS hA (fun _ h => h)) (fun H locs hP1 hk hS => ?_)
    have hP := hP1
    refine lv_if_ne (tgt := 44) hx hb dX8_takesTest_39 (by decide) (fun c_39 => ?_) (fun c_39 => ?_)
    · have hf := ite_f c_39 hf
      refine lv_aload_n hx hb dX8_takesTest_44 rfl (lv_at hl 2 rfl) ?_
      refine lv_dup hx hb dX8_takesTest_45 rfl ?_
      refine va_get (ci := 8) (C := RX8) (T := TX8) (N := 67) (v := .int (s0_22 11 0)) hx hb hts i_X8_takesTest_X8 hown hK hP 0 rfl rfl 11 (by decide) (hts _ m_X8_takesTest_8d5e37) (fun _ h9 => h9) rfl dX8_takesTest_46 ?_
      refine lv_iconst (v := 1) hx hb dX8_takesTest_49 (by decide) ?_
      refine lv_iadd hx hb dX8_takesTest_50 ?_
      refine va_put (ci := 8) (v := .int ((s0_22 11 0) + 1)) (ty := .int) (C := RX8) (T := TX8) (N := 67) hx hb hts i_X8_takesTest_X8 tyX8 tyX8_ok nmX8 hown hK hP (hDD s0_22 t0) hS 0 rfl rfl 11 (by decide) (hts _ m_X8_takesTest_8d5e37) (fun _ h9 => h9) rfl (by decide +kernel) rfl rfl (Nat.le_of_ble_eq_true rfl) dX8_takesTest_51 (fun H locs hP _ hS => ?_)
      obtain ⟨s0_51, hP, hf⟩ := nm_st' (P := fun z => va_P E.1 vwCl (wX8 E a0 z t0) H) hf hP
      refine lv_aload_n hx hb dX8_takesTest_54 rfl (lv_at hl 2 rfl) ?_
      obtain ⟨q55, hc_55, hf⟩ := cl_e hf
      refine fin_i (E := E) (wc := wX8 E a0 s0_51 t0) (wc' := wX8 E a0 q55.2 t0) (va_runV (As := []) (rest := []) ⟨hx, hb, hml, hown, hts⟩ (k_X8_takesNumber l E a0 N s0_51 t0 q55 hc_55 _) (cwV 0 hts gX8_takesTest_X8_takesNumber rfl rfl rfl (by decide +kernel) ⟨(Nat.le_of_ble_eq_true rfl), (Nat.le_of_ble_eq_true rfl)⟩) (pre_v (ci := 8) (q0 := 0) hK hP (hDD s0_51 t0) hS hG hAB rfl rfl) rfl rfl hl.1 rfl (lv_room (Nat.le_of_ble_eq_true rfl)) dX8_takesTest_55 ⟨Nat.zero_le _, Nat.zero_le _⟩) hS (w_free (hDD s0_51 t0) hS hA (fun _ h => h)) (fun H locs hP1 hk hS => ?_)
      have hP := hP1
      refine lv_if_ne (tgt := 63) hx hb dX8_takesTest_58 (by decide) (fun c_58 => ?_) (fun c_58 => ?_)
      · have hf := ite_f c_58 hf
        refine lv_aload_n hx hb dX8_takesTest_63 rfl (lv_at hl 2 rfl) ?_
        refine lv_sipush (v := 1000) hx hb dX8_takesTest_64 (by decide) ?_
        refine lv_iload_n hx hb dX8_takesTest_67 rfl (lv_at hl 1 rfl) ?_
        refine lv_imul hx hb dX8_takesTest_68 ?_
        refine lv_bipush (v := 100) hx hb dX8_takesTest_69 (by decide) ?_
        refine lv_iload_n hx hb dX8_takesTest_71 rfl (lv_at hl 0 rfl) ?_
        refine lv_bipush (v := 60) hx hb dX8_takesTest_72 (by decide) ?_
        refine lv_isub hx hb dX8_takesTest_74 ?_
        refine lv_imul hx hb dX8_takesTest_75 ?_
        refine lv_iadd hx hb dX8_takesTest_76 ?_
        refine lv_aload_n hx hb dX8_takesTest_77 rfl (lv_at hl 2 rfl) ?_
        refine va_get (ci := 8) (C := RX8) (T := TX8) (N := 67) (v := .int (q55.2 12 0)) hx hb hts i_X8_takesTest_X8 hown hK hP 0 rfl rfl 12 (by decide) (hts _ m_X8_takesTest_e7685d) (fun _ h9 => h9) rfl dX8_takesTest_78 ?_
        refine lv_iadd hx hb dX8_takesTest_81 ?_
        obtain ⟨q82, hc_82, hf⟩ := cl_e hf
        refine fin_v (E := E) (wc := wX8 E a0 q55.2 t0) (wc' := wX8 E a0 q82 t0) (va_runV (As := [.int (((1000 * q5) + (100 * (q26 - 60))) + (q55.2 12 0))]) (rest := []) ⟨hx, hb, hml, hown, hts⟩ (k_X8_emits l E a0 N q55.2 t0 (((1000 * q5) + (100 * (q26 - 60))) + (q55.2 12 0)) q82 hc_82 _) (cwV 1 hts gX8_takesTest_X8_emits rfl rfl rfl (by decide +kernel) ⟨(Nat.le_of_ble_eq_true rfl), (Nat.le_of_ble_eq_true rfl)⟩) (pre_v (ci := 8) (q0 := 0) hK hP (hDD q55.2 t0) hS hG hAB rfl rfl) rfl rfl hl.1 rfl (lv_room (Nat.le_of_ble_eq_true rfl)) dX8_takesTest_82 ⟨Nat.zero_le _, Nat.zero_le _⟩) hS (w_free (hDD q55.2 t0) hS hA (fun _ h => h)) (fun H locs hP1 hk hS => ?_)
        have hP := hP1
        refine lv_aload_n hx hb dX8_takesTest_85 rfl (lv_at hl 2 rfl) ?_
        obtain ⟨q86, hc_86, hf⟩ := cl_e hf
        refine fin_v (E := E) (wc := wX8 E a0 q82 t0) (wc' := wX8 E a0 q86 t0) (va_runV (As := []) (rest := []) ⟨hx, hb, hml, hown, hts⟩ (k_X8_whole l E a0 N q82 t0 q86 hc_86 _) (cwV 0 hts gX8_takesTest_X8_whole rfl rfl rfl (by decide +kernel) ⟨(Nat.le_of_ble_eq_true rfl), (Nat.le_of_ble_eq_true rfl)⟩) (pre_v (ci := 8) (q0 := 0) hK hP (hDD q82 t0) hS hG hAB rfl rfl) rfl rfl hl.1 rfl (lv_room (Nat.le_of_ble_eq_true rfl)) dX8_takesTest_86 ⟨Nat.zero_le _, Nat.zero_le _⟩) hS (w_free (hDD q82 t0) hS hA (fun _ h => h)) (fun H locs hP1 hk hS => ?_)
        have hP := hP1
        refine lv_iconst (v := 1) hx hb dX8_takesTest_89 (by decide) ?_
        have e9 := Option.some.inj hf
        exact rt_z hx hb hr rfl hlocks (fst_e e9) (rtP (P := fun z => va_P E.1 vwCl (wX8 E a0 z.2 t0) H) e9 hP) hS dX8_takesTest_90
      · have hf := ite_t c_58 hf
        refine lv_iconst (v := 0) hx hb dX8_takesTest_61 (by decide) ?_
        have e9 := Option.some.inj hf
        exact rt_z hx hb hr rfl hlocks (fst_e e9) (rtP (P := fun z => va_P E.1 vwCl (wX8 E a0 z.2 t0) H) e9 hP) hS dX8_takesTest_62
    · have hf := ite_t c_39 hf
      refine lv_iconst (v := 0) hx hb dX8_takesTest_42 (by decide) ?_
      have e9 := Option.some.inj hf
      exact rt_z hx hb hr rfl hlocks (fst_e e9) (rtP (P := fun z => va_P E.1 vwCl (wX8 E a0 z.2 t0) H) e9 hP) hS dX8_takesTest_43
  · have hf := ite_f c_10 hf
    refine lv_iconst (v := 0) hx hb dX8_takesTest_13 (by decide) ?_
    have e9 := Option.some.inj hf
    exact rt_z hx hb hr rfl hlocks (fst_e e9) (rtP (P := fun z => va_P E.1 vwCl (wX8 E a0 z.2 t0) H) e9 hP) hS dX8_takesTest_14
