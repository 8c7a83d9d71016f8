/-! ===== what the methods compute, and that they do: by program out of the bytecode (wip/gen) ===== -/
abbrev rm_X2_marksOf : Room := { frames := 0, cells := 0, slots := 0, locals := 0 }
theorem m_X2_marksOf_fa62b9 : Cond.fieldLink RX2 32 "PickedMatch$Scene" "things" "I" ∈ wsX2_marksOf := by decide +kernel
theorem i_X2_marksOf_X2 : ∀ w ∈ wsX20, w ∈ wsX2_marksOf := fun _ h => List.mem_cons_of_mem _ (List.mem_append_right _ h)
theorem m_X2_marksOf_d527ee : Cond.fieldLink RX2 18 "PickedMatch$Scene" "marks" "[I" ∈ wsX2_marksOf := by decide +kernel
set_option maxHeartbeats 8000000 in
set_option maxRecDepth 100000 in
theorem k_X2_marksOf (l : Launch) (E : Ev) (a0 : Nat → Nat) (L : List SR) (N : Nat) (s0 : St) (h0 : Option SR) (p1 : Int32) (q : (Int32)) (hf : f_X2_marksOf N s0 p1 = some q) : Ci l yX2_marksOf wsX2_marksOf rm_X2_marksOf E [.ref (a0 0), .int p1] ((wX2 E a0 s0 h0) ++ sW E.2.1 L) ((wX2 E a0 s0 h0) ++ sW E.2.1 L) q := by
  unfold f_X2_marksOf at hf
  intro sz
  refine Met.ofW (cc := cX2_marksOf) (maxL := 4) (ret := (some .int)) (by decide) rfl ?_
  intro p e s m args below meth c s₁ B hml hpre
  obtain ⟨rfl, hsz, hP, hK, hD0, hG, hA, hAB⟩ := start hpre
  have hx := B.exec
  have hb := B.bytes
  have hr := B.returns
  have hts := atoms_spec (ws := wsX2_marksOf) B.pre
  have hown : s.vm.findClass RX2 = some m.cls := findClass_of_methodNamed B.named
  have hlocks := B.notSynchronized
  subst hsz
  generalize va_A ((wX2 E a0 s0 h0) ++ sW E.2.1 L) s.heap.size = A0 at hD0 hA hAB ⊢
  have hDD : ∀ (s0 : St) (h0 : Option SR), va_D A0 ((wX2 E a0 s0 h0) ++ sW E.2.1 L) := fun s0 h0 => vD_addr hD0 rfl
  have hS : va_S A0 s.heap s.heap [] := va_S.rf
  have hl := lv_entry ([.ref (a0 0), .int p1]) (n := 4) (Nat.le_of_ble_eq_true rfl)
  rw [lg_entry_eq]
  generalize (lg_sl ([.ref (a0 0), .int p1]) ++ List.replicate (4 - (lg_sl ([.ref (a0 0), .int p1])).length) Slot.unset).toArray = ls at hl ⊢
  have hl : lv_has ls 4 [(0, .ref (a0 0)), (1, .int p1)] := hl
  have hL_4 : ∀ (s0 : St) (v1 : Int32) (n_4 : Nat) (v2 : Int32) (v3 : Int32), l_X2_marksOf_4 N s0 v1 n_4 v2 v3 = some q → ∀ (H : Heap) (locs : List Loc) (ls : Array Slot), va_P E.1 vwCl ((wX2 E a0 s0 h0) ++ sW E.2.1 L) H → va_S A0 s.heap H locs → lv_has ls 4 [(0, .ref (a0 0)), (1, .int v1), (2, .int v2), (3, .int v3)] → W p l e rm_X2_marksOf s m ([.ref (a0 0), .int p1] : List Value).toArray below meth c H locs 0 0 (MQ below (va_Qi (fun (r' : Int32) (_ : Unit) => r' = q) (fun _ t => va_P E.1 vwCl ((wX2 E a0 s0 h0) ++ sW E.2.1 L) t.heap) A0) ([.ref (a0 0), .int p1] : List Value).toArray s 0 0 A0) (F0 m 4 ls []) := by
    intro s0 v1 n_4
    induction n_4 with
    | zero => intro v2 v3 hf; rw [l_X2_marksOf_4] at hf; cases hf
    | succ n_4 ih_4 =>
      intro v2 v3 hf H locs ls hP hS hl
      rw [l_X2_marksOf_4] at hf
      refine lv_iload_n hx hb dX2_marksOf_4 rfl (lv_at hl 3 rfl) ?_
      refine lv_aload_n hx hb dX2_marksOf_5 rfl (lv_at hl 0 rfl) ?_
      refine va_get (ci := 2) (C := RX2) (T := TX2) (N := 11) (v := .int (s0 0 0)) hx hb hts i_X2_marksOf_X2 hown hK hP 0 rfl rfl 0 (by decide) (hts _ m_X2_marksOf_fa62b9) (fun _ h9 => h9) rfl dX2_marksOf_6 ?_
      refine lv_icmp_ge (tgt := 36) hx hb dX2_marksOf_9 (by decide) (fun c_9 => ?_) (fun c_9 => ?_)
      · have hf := ite_t c_9 hf
        refine lv_iload_n hx hb dX2_marksOf_36 rfl (lv_at hl 2 rfl) ?_
        have e9 := Option.some.inj hf
        exact rt_i hx hb hr hlocks e9 hP hS dX2_marksOf_37
      · have hf := ite_f c_9 hf
        refine lv_iload_n hx hb dX2_marksOf_12 rfl (lv_at hl 1 rfl) ?_
        refine lv_iload_n hx hb dX2_marksOf_13 rfl (lv_at hl 3 rfl) ?_
        refine lv_ishr hx hb dX2_marksOf_14 ?_
        refine lv_iconst (v := 1) hx hb dX2_marksOf_15 (by decide) ?_
        refine lv_iand hx hb dX2_marksOf_16 ?_
        refine lv_iconst (v := 1) hx hb dX2_marksOf_17 (by decide) ?_
        refine lv_icmp_ne (tgt := 30) hx hb dX2_marksOf_18 (by decide) (fun c_18 => ?_) (fun c_18 => ?_)
        · have hf := ite_f c_18 hf
          obtain ⟨x30, e_x30⟩ : ∃ y : Int32, y = v3 + 1 := ⟨_, rfl⟩
          have hf := nm_q e_x30 hf
          refine lv_iinc (v := x30) (lv' := [(3, .int x30), (0, .ref (a0 0)), (1, .int v1), (2, .int v2)]) hx hb dX2_marksOf_30 hl (k := 3) rfl (by rw [e_x30]; rfl) (Nat.le_of_ble_eq_true rfl) rfl (fun ls hl => ?_)
          refine lv_goto (tgt := 4) hx hb dX2_marksOf_33 (by decide) ?_
          exact ih_4 v2 x30 hf _ _ _ hP hS (lv_sub hl [1, 2, 3, 0] rfl)
        · have hf := ite_t c_18 hf
          refine lv_iload_n hx hb dX2_marksOf_21 rfl (lv_at hl 2 rfl) ?_
          refine lv_aload_n hx hb dX2_marksOf_22 rfl (lv_at hl 0 rfl) ?_
          refine va_get (ci := 2) (C := RX2) (T := TX2) (N := 11) (v := .ref (a0 3)) hx hb hts i_X2_marksOf_X2 hown hK hP 0 rfl rfl 3 (by decide) (hts _ m_X2_marksOf_d527ee) (fun _ h9 => h9) rfl dX2_marksOf_23 ?_
          refine lv_iload_n hx hb dX2_marksOf_26 rfl (lv_at hl 3 rfl) ?_
          obtain ⟨h_27, hf⟩ := ck_e hf
          refine va_iald (cA := E.2.1) (n := 6) (f := s0 3) hx hb hK hP 3 0 rfl rfl h_27 dX2_marksOf_27 ?_
          refine lv_ior hx hb dX2_marksOf_28 ?_
          refine lv_topi (fun x29 e_x29 => ?_)
          have hf := nm_q e_x29 hf
          refine lv_istore_n (lv' := [(2, .int x29), (0, .ref (a0 0)), (1, .int v1), (3, .int v3)]) hx hb dX2_marksOf_29 rfl hl (Nat.le_of_ble_eq_true rfl) rfl (fun ls hl => ?_)
          obtain ⟨x30, e_x30⟩ : ∃ y : Int32, y = v3 + 1 := ⟨_, rfl⟩
          have hf := nm_q e_x30 hf
          refine lv_iinc (v := x30) (lv' := [(3, .int x30), (2, .int x29), (0, .ref (a0 0)), (1, .int v1)]) hx hb dX2_marksOf_30 hl (k := 3) rfl (by rw [e_x30]; rfl) (Nat.le_of_ble_eq_true rfl) rfl (fun ls hl => ?_)
          refine lv_goto (tgt := 4) hx hb dX2_marksOf_33 (by decide) ?_
          exact ih_4 x29 x30 hf _ _ _ hP hS (lv_sub hl [2, 3, 1, 0] rfl)
  refine lv_iconst (v := 0) hx hb dX2_marksOf_0 (by decide) ?_
  refine lv_istore_n (lv' := [(2, .int 0), (0, .ref (a0 0)), (1, .int p1)]) hx hb dX2_marksOf_1 rfl hl (Nat.le_of_ble_eq_true rfl) rfl (fun ls hl => ?_)
  refine lv_iconst (v := 0) hx hb dX2_marksOf_2 (by decide) ?_
  refine lv_istore_n (lv' := [(3, .int 0), (2, .int 0), (0, .ref (a0 0)), (1, .int p1)]) hx hb dX2_marksOf_3 rfl hl (Nat.le_of_ble_eq_true rfl) rfl (fun ls hl => ?_)
  exact hL_4 s0 p1 N 0 0 hf _ _ _ hP hS (lv_sub hl [2, 3, 1, 0] rfl)
abbrev rm_J6_bitCount_0f7a4 : Room := { frames := 0, cells := 0, slots := 0, locals := 0 }
theorem m_J6_bitCount_0f7a4_26b928 : Cond.constant RJ6 265 (1431655765) ∈ wsJ6_bitCount_0f7a4 := by decide +kernel
theorem m_J6_bitCount_0f7a4_bc8731 : Cond.constant RJ6 266 (858993459) ∈ wsJ6_bitCount_0f7a4 := by decide +kernel
theorem m_J6_bitCount_0f7a4_45cf28 : Cond.constant RJ6 267 (252645135) ∈ wsJ6_bitCount_0f7a4 := by decide +kernel
set_option maxHeartbeats 8000000 in
set_option maxRecDepth 100000 in
theorem k_J6_bitCount_0f7a4 (l : Launch) (E : Ev) (N : Nat) (p0 : Int32) (q : (Int32)) (hf : f_J6_bitCount_0f7a4 N p0 = some q) : Ci l yJ6_bitCount_0f7a4 wsJ6_bitCount_0f7a4 rm_J6_bitCount_0f7a4 E [.int p0] (([] : va_W)) (([] : va_W)) q := by
  unfold f_J6_bitCount_0f7a4 at hf
  intro sz
  refine Met.ofW (cc := cJ6_bitCount_0f7a4) (maxL := 1) (ret := (some .int)) (by decide) rfl ?_
  intro p e s m args below meth c s₁ B hml hv
  obtain ⟨rfl, hsz, hP, hK, hD0, hG, hA, hAB⟩ := start hv
  have hx := B.exec
  have hb := B.bytes
  have hr := B.returns
  have hts := atoms_spec (ws := wsJ6_bitCount_0f7a4) B.pre
  have hown : s.vm.findClass RJ6 = some m.cls := findClass_of_methodNamed B.named
  have hlocks := B.notSynchronized
  subst hsz
  generalize va_A (([] : va_W)) s.heap.size = A0 at hD0 hA hAB ⊢
  have hDD : va_D A0 (([] : va_W)) := hD0
  have hS : va_S A0 s.heap s.heap [] := va_S.rf
  have hl := lv_entry ([.int p0]) (n := 1) (Nat.le_of_ble_eq_true rfl)
  rw [lg_entry_eq]
  generalize (lg_sl ([.int p0]) ++ List.replicate (1 - (lg_sl ([.int p0])).length) Slot.unset).toArray = ls at hl ⊢
  have hl : lv_has ls 1 [(0, .int p0)] := hl
  refine lv_iload_n hx hb dJ6_bitCount_0f7a4_0 rfl (lv_at hl 0 rfl) ?_
  refine lv_iload_n hx hb dJ6_bitCount_0f7a4_1 rfl (lv_at hl 0 rfl) ?_
  refine lv_iconst (v := 1) hx hb dJ6_bitCount_0f7a4_2 (by decide) ?_
  refine lv_iushr (v := (p0.toUInt32 >>> ((1 : Int32).toUInt32 &&& Int32.toUInt32 31)).toInt32) hx hb dJ6_bitCount_0f7a4_3 rfl ?_
  refine lv_ldcw (v := 1431655765) hx hb hown (hts _ m_J6_bitCount_0f7a4_26b928) dJ6_bitCount_0f7a4_4 ?_
  refine lv_iand hx hb dJ6_bitCount_0f7a4_7 ?_
  refine lv_isub hx hb dJ6_bitCount_0f7a4_8 ?_
  refine lv_topi (fun x9 e_x9 => ?_)
  have hf := nm_q e_x9 hf
  refine lv_istore_n (lv' := [(0, .int x9)]) hx hb dJ6_bitCount_0f7a4_9 rfl hl (Nat.le_of_ble_eq_true rfl) rfl (fun ls hl => ?_)
  refine lv_iload_n hx hb dJ6_bitCount_0f7a4_10 rfl (lv_at hl 0 rfl) ?_
  refine lv_ldcw (v := 858993459) hx hb hown (hts _ m_J6_bitCount_0f7a4_bc8731) dJ6_bitCount_0f7a4_11 ?_
  refine lv_iand hx hb dJ6_bitCount_0f7a4_14 ?_
  refine lv_iload_n hx hb dJ6_bitCount_0f7a4_15 rfl (lv_at hl 0 rfl) ?_
  refine lv_iconst (v := 2) hx hb dJ6_bitCount_0f7a4_16 (by decide) ?_
  refine lv_iushr (v := (x9.toUInt32 >>> ((2 : Int32).toUInt32 &&& Int32.toUInt32 31)).toInt32) hx hb dJ6_bitCount_0f7a4_17 rfl ?_
  refine lv_ldcw (v := 858993459) hx hb hown (hts _ m_J6_bitCount_0f7a4_bc8731) dJ6_bitCount_0f7a4_18 ?_
  refine lv_iand hx hb dJ6_bitCount_0f7a4_21 ?_
  refine lv_iadd hx hb dJ6_bitCount_0f7a4_22 ?_
  refine lv_topi (fun x23 e_x23 => ?_)
  have hf := nm_q e_x23 hf
  refine lv_istore_n (lv' := [(0, .int x23)]) hx hb dJ6_bitCount_0f7a4_23 rfl hl (Nat.le_of_ble_eq_true rfl) rfl (fun ls hl => ?_)
  refine lv_iload_n hx hb dJ6_bitCount_0f7a4_24 rfl (lv_at hl 0 rfl) ?_
  refine lv_iload_n hx hb dJ6_bitCount_0f7a4_25 rfl (lv_at hl 0 rfl) ?_
  refine lv_iconst (v := 4) hx hb dJ6_bitCount_0f7a4_26 (by decide) ?_
  refine lv_iushr (v := (x23.toUInt32 >>> ((4 : Int32).toUInt32 &&& Int32.toUInt32 31)).toInt32) hx hb dJ6_bitCount_0f7a4_27 rfl ?_
  refine lv_iadd hx hb dJ6_bitCount_0f7a4_28 ?_
  refine lv_ldcw (v := 252645135) hx hb hown (hts _ m_J6_bitCount_0f7a4_45cf28) dJ6_bitCount_0f7a4_29 ?_
  refine lv_iand hx hb dJ6_bitCount_0f7a4_32 ?_
  refine lv_topi (fun x33 e_x33 => ?_)
  have hf := nm_q e_x33 hf
  refine lv_istore_n (lv' := [(0, .int x33)]) hx hb dJ6_bitCount_0f7a4_33 rfl hl (Nat.le_of_ble_eq_true rfl) rfl (fun ls hl => ?_)
  refine lv_iload_n hx hb dJ6_bitCount_0f7a4_34 rfl (lv_at hl 0 rfl) ?_
  refine lv_iload_n hx hb dJ6_bitCount_0f7a4_35 rfl (lv_at hl 0 rfl) ?_
  refine lv_bipush (v := 8) hx hb dJ6_bitCount_0f7a4_36 (by decide) ?_
  refine lv_iushr (v := (x33.toUInt32 >>> ((8 : Int32).toUInt32 &&& Int32.toUInt32 31)).toInt32) hx hb dJ6_bitCount_0f7a4_38 rfl ?_
  refine lv_iadd hx hb dJ6_bitCount_0f7a4_39 ?_
  refine lv_topi (fun x40 e_x40 => ?_)
  have hf := nm_q e_x40 hf
  refine lv_istore_n (lv' := [(0, .int x40)]) hx hb dJ6_bitCount_0f7a4_40 rfl hl (Nat.le_of_ble_eq_true rfl) rfl (fun ls hl => ?_)
  refine lv_iload_n hx hb dJ6_bitCount_0f7a4_41 rfl (lv_at hl 0 rfl) ?_
  refine lv_iload_n hx hb dJ6_bitCount_0f7a4_42 rfl (lv_at hl 0 rfl) ?_
  refine lv_bipush (v := 16) hx hb dJ6_bitCount_0f7a4_43 (by decide) ?_
  refine lv_iushr (v := (x40.toUInt32 >>> ((16 : Int32).toUInt32 &&& Int32.toUInt32 31)).toInt32) hx hb dJ6_bitCount_0f7a4_45 rfl ?_
  refine lv_iadd hx hb dJ6_bitCount_0f7a4_46 ?_
  refine lv_topi (fun x47 e_x47 => ?_)
  have hf := nm_q e_x47 hf
  refine lv_istore_n (lv' := [(0, .int x47)]) hx hb dJ6_bitCount_0f7a4_47 rfl hl (Nat.le_of_ble_eq_true rfl) rfl (fun ls hl => ?_)
  refine lv_iload_n hx hb dJ6_bitCount_0f7a4_48 rfl (lv_at hl 0 rfl) ?_
  refine lv_bipush (v := 63) hx hb dJ6_bitCount_0f7a4_49 (by decide) ?_
  refine lv_iand hx hb dJ6_bitCount_0f7a4_51 ?_
  have e9 := Option.some.inj hf
  exact rt_i hx hb hr hlocks e9 hP hS dJ6_bitCount_0f7a4_52
abbrev rm_X2_alikeOf : Room := { frames := 1, cells := 0, slots := 0, locals := 23 }
theorem m_X2_alikeOf_d527ee : Cond.fieldLink RX2 18 "PickedMatch$Scene" "marks" "[I" ∈ wsX2_alikeOf := by decide +kernel
theorem i_X2_alikeOf_X2 : ∀ w ∈ wsX20, w ∈ wsX2_alikeOf := fun _ h => List.mem_cons_of_mem _ (List.mem_append_right _ h)
theorem m_X2_alikeOf_8162d6 : Cond.fieldLink RX2 45 "PickedMatch$Scene" "hadBits" "I" ∈ wsX2_alikeOf := by decide +kernel
set_option maxHeartbeats 8000000 in
set_option maxRecDepth 100000 in
theorem k_X2_alikeOf (l : Launch) (E : Ev) (a0 : Nat → Nat) (L : List SR) (N : Nat) (s0 : St) (h0 : Option SR) (p1 : Int32) (q : (Int32)) (hf : f_X2_alikeOf N s0 p1 = some q) : Ci l yX2_alikeOf wsX2_alikeOf rm_X2_alikeOf E [.ref (a0 0), .int p1] ((wX2 E a0 s0 h0) ++ sW E.2.1 L) ((wX2 E a0 s0 h0) ++ sW E.2.1 L) q := by
  unfold f_X2_alikeOf at hf
  intro sz
  refine Met.ofW (cc := cX2_alikeOf) (maxL := 2) (ret := (some .int)) (by decide) rfl ?_
  intro p e s m args below meth c s₁ B hml hpre
  obtain ⟨rfl, hsz, hP, hK, hD0, hG, hA, hAB⟩ := start hpre
  have hx := B.exec
  have hb := B.bytes
  have hr := B.returns
  have hts := atoms_spec (ws := wsX2_alikeOf) B.pre
  have hown : s.vm.findClass RX2 = some m.cls := findClass_of_methodNamed B.named
  have hlocks := B.notSynchronized
  subst hsz
  generalize va_A ((wX2 E a0 s0 h0) ++ sW E.2.1 L) s.heap.size = A0 at hD0 hA hAB ⊢
  have hDD : ∀ (s0 : St) (h0 : Option SR), va_D A0 ((wX2 E a0 s0 h0) ++ sW E.2.1 L) := fun s0 h0 => vD_addr hD0 rfl
  have hS : va_S A0 s.heap s.heap [] := va_S.rf
  have hl := lv_entry ([.ref (a0 0), .int p1]) (n := 2) (Nat.le_of_ble_eq_true rfl)
  rw [lg_entry_eq]
  generalize (lg_sl ([.ref (a0 0), .int p1]) ++ List.replicate (2 - (lg_sl ([.ref (a0 0), .int p1])).length) Slot.unset).toArray = ls at hl ⊢
  have hl : lv_has ls 2 [(0, .ref (a0 0)), (1, .int p1)] := hl
  refine lv_aload_n hx hb dX2_alikeOf_0 rfl (lv_at hl 0 rfl) ?_
  refine va_get (ci := 2) (C := RX2) (T := TX2) (N := 11) (v := .ref (a0 3)) hx hb hts i_X2_alikeOf_X2 hown hK hP 0 rfl rfl 3 (by decide) (hts _ m_X2_alikeOf_d527ee) (fun _ h9 => h9) rfl dX2_alikeOf_1 ?_
  refine lv_iload_n hx hb dX2_alikeOf_4 rfl (lv_at hl 1 rfl) ?_
  obtain ⟨h_5, hf⟩ := ck_e hf
  refine va_iald (cA := E.2.1) (n := 6) (f := s0 3) hx hb hK hP 3 0 rfl rfl h_5 dX2_alikeOf_5 ?_
  refine lv_aload_n hx hb dX2_alikeOf_6 rfl (lv_at hl 0 rfl) ?_
  refine lv_aload_n hx hb dX2_alikeOf_7 rfl (lv_at hl 0 rfl) ?_
  refine va_get (ci := 2) (C := RX2) (T := TX2) (N := 11) (v := .int (s0 7 0)) hx hb hts i_X2_alikeOf_X2 hown hK hP 0 rfl rfl 7 (by decide) (hts _ m_X2_alikeOf_8162d6) (fun _ h9 => h9) rfl dX2_alikeOf_8 ?_
  obtain ⟨q11, hc_11, hf⟩ := cl_e hf
  refine fin_i (E := E) (wc := (wX2 E a0 s0 h0) ++ sW E.2.1 L) (wc' := (wX2 E a0 s0 h0) ++ sW E.2.1 L) (va_runV (As := [.int (s0 7 0)]) (rest := [.int (s0 3 p1.toNatClampNeg)]) ⟨hx, hb, hml, hown, hts⟩ (k_X2_marksOf l E a0 L N s0 h0 (s0 7 0) q11 hc_11 _) (cwV 1 hts gX2_alikeOf_X2_marksOf rfl rfl rfl (by decide +kernel) ⟨(Nat.le_of_ble_eq_true rfl), (Nat.le_of_ble_eq_true rfl)⟩) (pre_v (ci := 2) (q0 := 0) hK hP (hDD s0 h0) hS hG hAB rfl rfl) rfl rfl hl.1 rfl (lv_room (Nat.le_of_ble_eq_true rfl)) dX2_alikeOf_11 ⟨Nat.zero_le _, Nat.zero_le _⟩) hS (w_free (hDD s0 h0) hS hA (fun _ h => h)) (fun H locs hP1 hk hS => ?_)
  have hP := hP1
  refine lv_iand hx hb dX2_alikeOf_14 ?_
  obtain ⟨q15, hc_15, hf⟩ := cl_e hf
  refine fin_i (E := E) (wc := ([] : va_W)) (wc' := ([] : va_W)) (va_runS (As := [.int ((s0 3 p1.toNatClampNeg) &&& q11)]) (rest := []) ⟨hx, hb, hml, hown, hts⟩ (k_J6_bitCount_0f7a4 l E N ((s0 3 p1.toNatClampNeg) &&& q11) q15 hc_15 _) (va_cwS 1 hts gX2_alikeOf_J6_bitCount_0f7a4 rfl rfl rfl (by decide +kernel) ⟨(Nat.le_of_ble_eq_true rfl), (Nat.le_of_ble_eq_true rfl)⟩) (pre_s hK va_P_nil va_D_nil hS hG hAB) rfl rfl hl.1 rfl (lv_room (Nat.le_of_ble_eq_true rfl)) dX2_alikeOf_15 ⟨Nat.zero_le _, Nat.zero_le _⟩) hS (free_nil hS hA) (fun H locs hP1 hk hS => ?_)
  have hP := w_kept0 hP hk
  have e9 := Option.some.inj hf
  exact rt_i hx hb hr hlocks e9 hP hS dX2_alikeOf_18
abbrev rm_X2_tasteOf : Room := { frames := 2, cells := 0, slots := 0, locals := 51 }
theorem m_X2_tasteOf_2ad546 : Cond.fieldLink RX2 51 "PickedMatch$Scene" "held" "LPickedMatch$Street;" ∈ wsX2_tasteOf := by decide +kernel
theorem i_X2_tasteOf_X2 : ∀ w ∈ wsX20, w ∈ wsX2_tasteOf := fun _ h => List.mem_cons_of_mem _ (List.mem_append_left _ (List.mem_append_right _ h))
theorem m_X2_tasteOf_c65722 : Cond.fieldLink RX2 29 "PickedMatch$Scene" "tested" "[I" ∈ wsX2_tasteOf := by decide +kernel
theorem m_X2_tasteOf_e4af18 : Cond.fieldLink RX2 9 "PickedMatch$Scene" "kinds" "[I" ∈ wsX2_tasteOf := by decide +kernel
theorem m_X2_tasteOf_a75564 : Cond.fieldLink RX2 15 "PickedMatch$Scene" "numbers" "[I" ∈ wsX2_tasteOf := by decide +kernel
theorem m_X2_tasteOf_d527ee : Cond.fieldLink RX2 18 "PickedMatch$Scene" "marks" "[I" ∈ wsX2_tasteOf := by decide +kernel
theorem m_X2_tasteOf_8f234e : Cond.fieldLink RX2 42 "PickedMatch$Scene" "hadCount" "I" ∈ wsX2_tasteOf := by decide +kernel
theorem m_X2_tasteOf_88869a : Cond.fieldLink RX2 48 "PickedMatch$Scene" "day" "I" ∈ wsX2_tasteOf := by decide +kernel
theorem m_X2_tasteOf_3b47d5 : Cond.initialized RX4 ∈ wsX2_tasteOf := by decide +kernel
theorem m_X2_tasteOf_674989 : Cond.instanceMethod yX4_sumFor ∈ wsX2_tasteOf := by decide +kernel
theorem m_X2_tasteOf_8de666 : Cond.selects RX4 yX4_sumFor yX4_sumFor ∈ wsX2_tasteOf := by decide +kernel
set_option maxHeartbeats 8000000 in
set_option maxRecDepth 100000 in
theorem k_X2_tasteOf (l : Launch) (E : Ev) (a0 : Nat → Nat) (L : List SR) (N : Nat) (s0 : St) (h0 : Option SR) (p1 : Int32) (q : (Int32 × St)) (hf : f_X2_tasteOf N L s0 h0 p1 = some q) : Ci l yX2_tasteOf wsX2_tasteOf rm_X2_tasteOf E [.ref (a0 0), .int p1] ((wX2 E a0 s0 h0) ++ sW E.2.1 L) ((wX2 E a0 q.2 h0) ++ sW E.2.1 L) q.1 := by
  unfold f_X2_tasteOf at hf
  intro sz
  refine Met.ofW (cc := cX2_tasteOf) (maxL := 2) (ret := (some .int)) (by decide) rfl ?_
  intro p e s m args below meth c s₁ B hml hpre
  obtain ⟨rfl, hsz, hP, hK, hD0, hG, hA, hAB⟩ := start hpre
  have hx := B.exec
  have hb := B.bytes
  have hr := B.returns
  have hts := atoms_spec (ws := wsX2_tasteOf) B.pre
  have hown : s.vm.findClass RX2 = some m.cls := findClass_of_methodNamed B.named
  have hlocks := B.notSynchronized
  subst hsz
  generalize va_A ((wX2 E a0 s0 h0) ++ sW E.2.1 L) s.heap.size = A0 at hD0 hA hAB ⊢
  have hDD : ∀ (s0 : St) (h0 : Option SR), va_D A0 ((wX2 E a0 s0 h0) ++ sW E.2.1 L) := fun s0 h0 => vD_addr hD0 rfl
  have hS : va_S A0 s.heap s.heap [] := va_S.rf
  have hl := lv_entry ([.ref (a0 0), .int p1]) (n := 2) (Nat.le_of_ble_eq_true rfl)
  rw [lg_entry_eq]
  generalize (lg_sl ([.ref (a0 0), .int p1]) ++ List.replicate (2 - (lg_sl ([.ref (a0 0), .int p1])).length) Slot.unset).toArray = ls at hl ⊢
  have hl : lv_has ls 2 [(0, .ref (a0 0)), (1, .int p1)] := hl
  refine lv_aload_n hx hb dX2_tasteOf_0 rfl (lv_at hl 0 rfl) ?_
  refine va_get (ci := 2) (C := RX2) (T := TX2) (N := 11) (v := hv h0) hx hb hts i_X2_tasteOf_X2 hown hK hP 0 rfl rfl 9 (by decide) (hts _ m_X2_tasteOf_2ad546) (fun _ h9 => h9) rfl dX2_tasteOf_1 ?_
  rcases opt_or h0 with hh_4 | ⟨R4, hh_4⟩
  · have hf := onl_n hh_4 hf
    refine W.eq (g2 := F0 m 4 ls (.null :: [])) (by rw [hh_4]; rfl) ?_
    refine lv_ifnonnullN hx hb dX2_tasteOf_4 ?_
    refine lv_iconst (v := 0) hx hb dX2_tasteOf_7 (by decide) ?_
    have e9 := Option.some.inj hf
    exact rt_i hx hb hr hlocks (fst_e e9) (rtP (P := fun z => va_P E.1 vwCl ((wX2 E a0 z.2 h0) ++ sW E.2.1 L) s.heap) e9 hP) hS dX2_tasteOf_8
  · have hf := onl_s hh_4 hf
    obtain ⟨hR_R4, hf⟩ := cp_e hf
    refine W.eq (g2 := F0 m 4 ls (.ref R4.1 :: [])) (by rw [hh_4]; rfl) ?_
    refine lv_ifnonnull (tgt := 9) hx hb dX2_tasteOf_4 (by decide) ?_
    refine lv_aload_n hx hb dX2_tasteOf_9 rfl (lv_at hl 0 rfl) ?_
    refine va_get (ci := 2) (C := RX2) (T := TX2) (N := 11) (v := .ref (a0 6)) hx hb hts i_X2_tasteOf_X2 hown hK hP 0 rfl rfl 10 (by decide) (hts _ m_X2_tasteOf_c65722) (fun _ h9 => h9) rfl dX2_tasteOf_10 ?_
    refine lv_iconst (v := 0) hx hb dX2_tasteOf_13 (by decide) ?_
    refine lv_iload_n hx hb dX2_tasteOf_14 rfl (lv_at hl 1 rfl) ?_
    obtain ⟨h_15, hf⟩ := ck_e hf
    refine va_iast (cA := E.2.1) (n := 6) (f := s0 10) (x := p1) hx hb hK hP (hDD s0 h0) hS 6 0 rfl rfl h_15 dX2_tasteOf_15 (fun H locs hP _ hS => ?_)
    obtain ⟨s0_15, hP, hf⟩ := nm_st' (P := fun z => va_P E.1 vwCl ((wX2 E a0 z h0) ++ sW E.2.1 L) H) hf hP
    refine lv_aload_n hx hb dX2_tasteOf_16 rfl (lv_at hl 0 rfl) ?_
    refine va_get (ci := 2) (C := RX2) (T := TX2) (N := 11) (v := .ref (a0 6)) hx hb hts i_X2_tasteOf_X2 hown hK hP 0 rfl rfl 10 (by decide) (hts _ m_X2_tasteOf_c65722) (fun _ h9 => h9) rfl dX2_tasteOf_17 ?_
    refine lv_iconst (v := 1) hx hb dX2_tasteOf_20 (by decide) ?_
    refine lv_aload_n hx hb dX2_tasteOf_21 rfl (lv_at hl 0 rfl) ?_
    refine va_get (ci := 2) (C := RX2) (T := TX2) (N := 11) (v := .ref (a0 1)) hx hb hts i_X2_tasteOf_X2 hown hK hP 0 rfl rfl 1 (by decide) (hts _ m_X2_tasteOf_e4af18) (fun _ h9 => h9) rfl dX2_tasteOf_22 ?_
    refine lv_iload_n hx hb dX2_tasteOf_25 rfl (lv_at hl 1 rfl) ?_
    obtain ⟨h_26, hf⟩ := ck_e hf
    refine va_iald (cA := E.2.1) (n := 6) (f := s0_15 1) hx hb hK hP 1 0 rfl rfl h_26 dX2_tasteOf_26 ?_
    obtain ⟨h_27, hf⟩ := ck_e hf
    refine va_iast (cA := E.2.1) (n := 6) (f := s0_15 10) (x := s0_15 1 p1.toNatClampNeg) hx hb hK hP (hDD s0_15 h0) hS 6 0 rfl rfl h_27 dX2_tasteOf_27 (fun H locs hP _ hS => ?_)
    obtain ⟨s0_27, hP, hf⟩ := nm_st' (P := fun z => va_P E.1 vwCl ((wX2 E a0 z h0) ++ sW E.2.1 L) H) hf hP
    refine lv_aload_n hx hb dX2_tasteOf_28 rfl (lv_at hl 0 rfl) ?_
    refine va_get (ci := 2) (C := RX2) (T := TX2) (N := 11) (v := .ref (a0 6)) hx hb hts i_X2_tasteOf_X2 hown hK hP 0 rfl rfl 10 (by decide) (hts _ m_X2_tasteOf_c65722) (fun _ h9 => h9) rfl dX2_tasteOf_29 ?_
    refine lv_iconst (v := 2) hx hb dX2_tasteOf_32 (by decide) ?_
    refine lv_aload_n hx hb dX2_tasteOf_33 rfl (lv_at hl 0 rfl) ?_
    refine va_get (ci := 2) (C := RX2) (T := TX2) (N := 11) (v := .ref (a0 2)) hx hb hts i_X2_tasteOf_X2 hown hK hP 0 rfl rfl 2 (by decide) (hts _ m_X2_tasteOf_a75564) (fun _ h9 => h9) rfl dX2_tasteOf_34 ?_
    refine lv_iload_n hx hb dX2_tasteOf_37 rfl (lv_at hl 1 rfl) ?_
    obtain ⟨h_38, hf⟩ := ck_e hf
    refine va_iald (cA := E.2.1) (n := 6) (f := s0_27 2) hx hb hK hP 2 0 rfl rfl h_38 dX2_tasteOf_38 ?_
    obtain ⟨h_39, hf⟩ := ck_e hf
    refine va_iast (cA := E.2.1) (n := 6) (f := s0_27 10) (x := s0_27 2 p1.toNatClampNeg) hx hb hK hP (hDD s0_27 h0) hS 6 0 rfl rfl h_39 dX2_tasteOf_39 (fun H locs hP _ hS => ?_)
    obtain ⟨s0_39, hP, hf⟩ := nm_st' (P := fun z => va_P E.1 vwCl ((wX2 E a0 z h0) ++ sW E.2.1 L) H) hf hP
    refine lv_aload_n hx hb dX2_tasteOf_40 rfl (lv_at hl 0 rfl) ?_
    refine va_get (ci := 2) (C := RX2) (T := TX2) (N := 11) (v := .ref (a0 6)) hx hb hts i_X2_tasteOf_X2 hown hK hP 0 rfl rfl 10 (by decide) (hts _ m_X2_tasteOf_c65722) (fun _ h9 => h9) rfl dX2_tasteOf_41 ?_
    refine lv_iconst (v := 3) hx hb dX2_tasteOf_44 (by decide) ?_
    refine lv_aload_n hx hb dX2_tasteOf_45 rfl (lv_at hl 0 rfl) ?_
    refine va_get (ci := 2) (C := RX2) (T := TX2) (N := 11) (v := .ref (a0 3)) hx hb hts i_X2_tasteOf_X2 hown hK hP 0 rfl rfl 3 (by decide) (hts _ m_X2_tasteOf_d527ee) (fun _ h9 => h9) rfl dX2_tasteOf_46 ?_
    refine lv_iload_n hx hb dX2_tasteOf_49 rfl (lv_at hl 1 rfl) ?_
    obtain ⟨h_50, hf⟩ := ck_e hf
    refine va_iald (cA := E.2.1) (n := 6) (f := s0_39 3) hx hb hK hP 3 0 rfl rfl h_50 dX2_tasteOf_50 ?_
    obtain ⟨q51, hc_51, hf⟩ := cl_e hf
    refine fin_i (E := E) (wc := ([] : va_W)) (wc' := ([] : va_W)) (va_runS (As := [.int (s0_39 3 p1.toNatClampNeg)]) (rest := [.int 3, .ref (a0 6)]) ⟨hx, hb, hml, hown, hts⟩ (k_J6_bitCount_0f7a4 l E N (s0_39 3 p1.toNatClampNeg) q51 hc_51 _) (va_cwS 1 hts gX2_tasteOf_J6_bitCount_0f7a4 rfl rfl rfl (by decide +kernel) ⟨(Nat.le_of_ble_eq_true rfl), (Nat.le_of_ble_eq_true rfl)⟩) (pre_s hK va_P_nil va_D_nil hS hG hAB) rfl rfl hl.1 rfl (lv_room (Nat.le_of_ble_eq_true rfl)) dX2_tasteOf_51 ⟨Nat.zero_le _, Nat.zero_le _⟩) hS (free_nil hS hA) (fun H locs hP1 hk hS => ?_)
    have hP := w_kept0 hP hk
    obtain ⟨h_54, hf⟩ := ck_e hf
    refine va_iast (cA := E.2.1) (n := 6) (f := s0_39 10) (x := q51) hx hb hK hP (hDD s0_39 h0) hS 6 0 rfl rfl h_54 dX2_tasteOf_54 (fun H locs hP _ hS => ?_)
    obtain ⟨s0_54, hP, hf⟩ := nm_st' (P := fun z => va_P E.1 vwCl ((wX2 E a0 z h0) ++ sW E.2.1 L) H) hf hP
    refine lv_aload_n hx hb dX2_tasteOf_55 rfl (lv_at hl 0 rfl) ?_
    refine va_get (ci := 2) (C := RX2) (T := TX2) (N := 11) (v := .ref (a0 6)) hx hb hts i_X2_tasteOf_X2 hown hK hP 0 rfl rfl 10 (by decide) (hts _ m_X2_tasteOf_c65722) (fun _ h9 => h9) rfl dX2_tasteOf_56 ?_
    refine lv_iconst (v := 4) hx hb dX2_tasteOf_59 (by decide) ?_
    refine lv_aload_n hx hb dX2_tasteOf_60 rfl (lv_at hl 0 rfl) ?_
    refine va_get (ci := 2) (C := RX2) (T := TX2) (N := 11) (v := .int (s0_54 6 0)) hx hb hts i_X2_tasteOf_X2 hown hK hP 0 rfl rfl 6 (by decide) (hts _ m_X2_tasteOf_8f234e) (fun _ h9 => h9) rfl dX2_tasteOf_61 ?_
    obtain ⟨h_64, hf⟩ := ck_e hf
    refine va_iast (cA := E.2.1) (n := 6) (f := s0_54 10) (x := s0_54 6 0) hx hb hK hP (hDD s0_54 h0) hS 6 0 rfl rfl h_64 dX2_tasteOf_64 (fun H locs hP _ hS => ?_)
    obtain ⟨s0_64, hP, hf⟩ := nm_st' (P := fun z => va_P E.1 vwCl ((wX2 E a0 z h0) ++ sW E.2.1 L) H) hf hP
    refine lv_aload_n hx hb dX2_tasteOf_65 rfl (lv_at hl 0 rfl) ?_
    refine va_get (ci := 2) (C := RX2) (T := TX2) (N := 11) (v := .ref (a0 6)) hx hb hts i_X2_tasteOf_X2 hown hK hP 0 rfl rfl 10 (by decide) (hts _ m_X2_tasteOf_c65722) (fun _ h9 => h9) rfl dX2_tasteOf_66 ?_
    refine lv_iconst (v := 5) hx hb dX2_tasteOf_69 (by decide) ?_
    refine lv_aload_n hx hb dX2_tasteOf_70 rfl (lv_at hl 0 rfl) ?_
    refine va_get (ci := 2) (C := RX2) (T := TX2) (N := 11) (v := .int (s0_64 8 0)) hx hb hts i_X2_tasteOf_X2 hown hK hP 0 rfl rfl 8 (by decide) (hts _ m_X2_tasteOf_88869a) (fun _ h9 => h9) rfl dX2_tasteOf_71 ?_
    refine lv_bipush (v := 10) hx hb dX2_tasteOf_74 (by decide) ?_
    obtain ⟨hz_76, hf⟩ := cz_e hf
    refine lv_irem hx hb dX2_tasteOf_76 hz_76 ?_
    obtain ⟨h_77, hf⟩ := ck_e hf
    refine va_iast (cA := E.2.1) (n := 6) (f := s0_64 10) (x := (s0_64 8 0) - (s0_64 8 0) / 10 * 10) hx hb hK hP (hDD s0_64 h0) hS 6 0 rfl rfl h_77 dX2_tasteOf_77 (fun H locs hP _ hS => ?_)
    obtain ⟨s0_77, hP, hf⟩ := nm_st' (P := fun z => va_P E.1 vwCl ((wX2 E a0 z h0) ++ sW E.2.1 L) H) hf hP
    refine lv_aload_n hx hb dX2_tasteOf_78 rfl (lv_at hl 0 rfl) ?_
    refine va_get (ci := 2) (C := RX2) (T := TX2) (N := 11) (v := .ref R4.1) hx hb hts i_X2_tasteOf_X2 hown hK hP 0 rfl rfl 9 (by decide) (hts _ m_X2_tasteOf_2ad546) (fun _ h9 => h9) (by show some (hv h0) = _; rw [hh_4]; rfl) dX2_tasteOf_79 ?_
    refine lv_aload_n hx hb dX2_tasteOf_82 rfl (lv_at hl 0 rfl) ?_
    refine va_get (ci := 2) (C := RX2) (T := TX2) (N := 11) (v := .ref (a0 6)) hx hb hts i_X2_tasteOf_X2 hown hK hP 0 rfl rfl 10 (by decide) (hts _ m_X2_tasteOf_c65722) (fun _ h9 => h9) rfl dX2_tasteOf_83 ?_
    obtain ⟨q86, hc_86, hf⟩ := cl_e hf
    have hm_86 : ∀ q ∈ (wA E (a0 6) 6 (s0_77 10)) ++ sW E.2.1 L, q ∈ (wX2 E a0 s0_77 h0) ++ sW E.2.1 L := (app_mem (sub_mem (suf := []) [6] rfl))
    obtain ⟨p_86, hs1_86, hs2_86⟩ := sW_get (cI := E.2.1) hR_R4
    have hs1_86 := suf_at (w := wA E (a0 6) 6 (s0_77 10)) 1 rfl hs1_86
    refine fin_i (E := E) (wc := (wA E (a0 6) 6 (s0_77 10)) ++ sW E.2.1 L) (wc' := (wA E (a0 6) 6 (s0_77 10)) ++ sW E.2.1 L) (va_runVN (As := [.ref (a0 6)]) (rest := []) ⟨hx, hb, hml, hown, hts⟩ (k_X4_sumFor l E (a0 6) 6 L N R4 (s0_77 10) q86 hc_86 hR_R4 _) ⟨va_cnB 1 hts gX2_tasteOf_X4_sumFor_n74 rfl rfl rfl (hG.1 (.methodLinkNest "PickedMatch$Scene" 74 yX4_sumFor "PickedMatch") (by decide +kernel)) (hts _ m_X2_tasteOf_3b47d5) (by decide +kernel) ⟨(Nat.le_of_ble_eq_true rfl), (Nat.le_of_ble_eq_true rfl)⟩, (hts _ m_X2_tasteOf_674989), (hts _ m_X2_tasteOf_8de666)⟩ (pre_v (ci := 4) hK (sub_P hm_86 hP) (sub_Ds (wc := wA E (a0 6) 6 (s0_77 10)) [6] (by decide) rfl (hDD s0_77 h0)) hS hG hAB rfl hs1_86) rfl rfl hl.1 rfl (lv_room (Nat.le_of_ble_eq_true rfl)) dX2_tasteOf_86 ⟨Nat.zero_le _, Nat.zero_le _⟩) hS (w_free (hDD s0_77 h0) hS hA hm_86) (fun H locs hP1 hk hS => ?_)
    have hP := w_joins (ws' := wX2 E a0 s0_77 h0) (wc := wA E (a0 6) 6 (s0_77 10)) (wc' := wA E (a0 6) 6 (s0_77 10)) hP (hDD s0_77 h0) [6] rfl [none, none, none, none, none, none, some 0] rfl rfl hk hP1
    have e9 := Option.some.inj hf
    exact rt_i hx hb hr hlocks (fst_e e9) (rtP (P := fun z => va_P E.1 vwCl ((wX2 E a0 z.2 h0) ++ sW E.2.1 L) H) e9 hP) hS dX2_tasteOf_89
abbrev rm_X2_hasEqual : Room := { frames := 1, cells := 0, slots := 0, locals := 20 }
theorem m_X2_hasEqual_8f234e : Cond.fieldLink RX2 42 "PickedMatch$Scene" "hadCount" "I" ∈ wsX2_hasEqual := by decide +kernel
theorem i_X2_hasEqual_X2 : ∀ w ∈ wsX20, w ∈ wsX2_hasEqual := fun _ h => List.mem_cons_of_mem _ (List.mem_append_right _ h)
theorem m_X2_hasEqual_d527ee : Cond.fieldLink RX2 18 "PickedMatch$Scene" "marks" "[I" ∈ wsX2_hasEqual := by decide +kernel
theorem m_X2_hasEqual_102288 : Cond.fieldLink RX2 24 "PickedMatch$Scene" "had" "[I" ∈ wsX2_hasEqual := by decide +kernel
set_option maxHeartbeats 8000000 in
set_option maxRecDepth 100000 in
theorem k_X2_hasEqual (l : Launch) (E : Ev) (a0 : Nat → Nat) (L : List SR) (N : Nat) (s0 : St) (h0 : Option SR) (p1 : Int32) (q : (Int32)) (hf : f_X2_hasEqual N s0 p1 = some q) : Ci l yX2_hasEqual wsX2_hasEqual rm_X2_hasEqual E [.ref (a0 0), .int p1] ((wX2 E a0 s0 h0) ++ sW E.2.1 L) ((wX2 E a0 s0 h0) ++ sW E.2.1 L) q := by
  unfold f_X2_hasEqual at hf
  intro sz
  refine Met.ofW (cc := cX2_hasEqual) (maxL := 4) (ret := (some .boolean)) (by decide) rfl ?_
  intro p e s m args below meth c s₁ B hml hpre
  obtain ⟨rfl, hsz, hP, hK, hD0, hG, hA, hAB⟩ := start hpre
  have hx := B.exec
  have hb := B.bytes
  have hr := B.returns
  have hts := atoms_spec (ws := wsX2_hasEqual) B.pre
  have hown : s.vm.findClass RX2 = some m.cls := findClass_of_methodNamed B.named
  have hlocks := B.notSynchronized
  subst hsz
  generalize va_A ((wX2 E a0 s0 h0) ++ sW E.2.1 L) s.heap.size = A0 at hD0 hA hAB ⊢
  have hDD : ∀ (s0 : St) (h0 : Option SR), va_D A0 ((wX2 E a0 s0 h0) ++ sW E.2.1 L) := fun s0 h0 => vD_addr hD0 rfl
  have hS : va_S A0 s.heap s.heap [] := va_S.rf
  have hl := lv_entry ([.ref (a0 0), .int p1]) (n := 4) (Nat.le_of_ble_eq_true rfl)
  rw [lg_entry_eq]
  generalize (lg_sl ([.ref (a0 0), .int p1]) ++ List.replicate (4 - (lg_sl ([.ref (a0 0), .int p1])).length) Slot.unset).toArray = ls at hl ⊢
  have hl : lv_has ls 4 [(0, .ref (a0 0)), (1, .int p1)] := hl
  have hL_12 : ∀ (s0 : St) (v2 : Int32) (n_12 : Nat) (v3 : Int32), l_X2_hasEqual_12 N s0 v2 n_12 v3 = some q → ∀ (H : Heap) (locs : List Loc) (ls : Array Slot), va_P E.1 vwCl ((wX2 E a0 s0 h0) ++ sW E.2.1 L) H → va_S A0 s.heap H locs → lv_has ls 4 [(0, .ref (a0 0)), (2, .int v2), (3, .int v3)] → W p l e rm_X2_hasEqual s m ([.ref (a0 0), .int p1] : List Value).toArray below meth c H locs 0 0 (MQ below (va_Qi (fun (r' : Int32) (_ : Unit) => r' = q) (fun _ t => va_P E.1 vwCl ((wX2 E a0 s0 h0) ++ sW E.2.1 L) t.heap) A0) ([.ref (a0 0), .int p1] : List Value).toArray s 0 0 A0) (F0 m 12 ls []) := by
    intro s0 v2 n_12
    induction n_12 with
    | zero => intro v3 hf; rw [l_X2_hasEqual_12] at hf; cases hf
    | succ n_12 ih_12 =>
      intro v3 hf H locs ls hP hS hl
      rw [l_X2_hasEqual_12] at hf
      refine lv_iload_n hx hb dX2_hasEqual_12 rfl (lv_at hl 2 rfl) ?_
      refine lv_aload_n hx hb dX2_hasEqual_13 rfl (lv_at hl 0 rfl) ?_
      refine va_get (ci := 2) (C := RX2) (T := TX2) (N := 11) (v := .int (s0 6 0)) hx hb hts i_X2_hasEqual_X2 hown hK hP 0 rfl rfl 6 (by decide) (hts _ m_X2_hasEqual_8f234e) (fun _ h9 => h9) rfl dX2_hasEqual_14 ?_
      refine lv_icmp_ge (tgt := 46) hx hb dX2_hasEqual_17 (by decide) (fun c_17 => ?_) (fun c_17 => ?_)
      · have hf := ite_t c_17 hf
        refine lv_iconst (v := 0) hx hb dX2_hasEqual_46 (by decide) ?_
        have e9 := Option.some.inj hf
        exact rt_z hx hb hr rfl hlocks e9 hP hS dX2_hasEqual_47
      · have hf := ite_f c_17 hf
        refine lv_aload_n hx hb dX2_hasEqual_20 rfl (lv_at hl 0 rfl) ?_
        refine va_get (ci := 2) (C := RX2) (T := TX2) (N := 11) (v := .ref (a0 3)) hx hb hts i_X2_hasEqual_X2 hown hK hP 0 rfl rfl 3 (by decide) (hts _ m_X2_hasEqual_d527ee) (fun _ h9 => h9) rfl dX2_hasEqual_21 ?_
        refine lv_aload_n hx hb dX2_hasEqual_24 rfl (lv_at hl 0 rfl) ?_
        refine va_get (ci := 2) (C := RX2) (T := TX2) (N := 11) (v := .ref (a0 5)) hx hb hts i_X2_hasEqual_X2 hown hK hP 0 rfl rfl 5 (by decide) (hts _ m_X2_hasEqual_102288) (fun _ h9 => h9) rfl dX2_hasEqual_25 ?_
        refine lv_iload_n hx hb dX2_hasEqual_28 rfl (lv_at hl 2 rfl) ?_
        obtain ⟨h_29, hf⟩ := ck_e hf
        refine va_iald (cA := E.2.1) (n := 6) (f := s0 5) hx hb hK hP 5 0 rfl rfl h_29 dX2_hasEqual_29 ?_
        obtain ⟨h_30, hf⟩ := ck_e hf
        refine va_iald (cA := E.2.1) (n := 6) (f := s0 3) hx hb hK hP 3 0 rfl rfl h_30 dX2_hasEqual_30 ?_
        obtain ⟨q31, hc_31, hf⟩ := cl_e hf
        refine fin_i (E := E) (wc := ([] : va_W)) (wc' := ([] : va_W)) (va_runS (As := [.int (s0 3 (s0 5 v3.toNatClampNeg).toNatClampNeg)]) (rest := []) ⟨hx, hb, hml, hown, hts⟩ (k_J6_bitCount_0f7a4 l E N (s0 3 (s0 5 v3.toNatClampNeg).toNatClampNeg) q31 hc_31 _) (va_cwS 1 hts gX2_hasEqual_J6_bitCount_0f7a4 rfl rfl rfl (by decide +kernel) ⟨(Nat.le_of_ble_eq_true rfl), (Nat.le_of_ble_eq_true rfl)⟩) (pre_s hK va_P_nil va_D_nil hS hG hAB) rfl rfl hl.1 rfl (lv_room (Nat.le_of_ble_eq_true rfl)) dX2_hasEqual_31 ⟨Nat.zero_le _, Nat.zero_le _⟩) hS (free_nil hS hA) (fun H locs hP1 hk hS => ?_)
        have hP := w_kept0 hP hk
        refine lv_iload_n hx hb dX2_hasEqual_34 rfl (lv_at hl 1 rfl) ?_
        refine lv_icmp_ne (tgt := 40) hx hb dX2_hasEqual_35 (by decide) (fun c_35 => ?_) (fun c_35 => ?_)
        · have hf := ite_f c_35 hf
          obtain ⟨x40, e_x40⟩ : ∃ y : Int32, y = v3 + 1 := ⟨_, rfl⟩
          have hf := nm_q e_x40 hf
          refine lv_iinc (v := x40) (lv' := [(3, .int x40), (0, .ref (a0 0)), (2, .int v2)]) hx hb dX2_hasEqual_40 hl (k := 2) rfl (by rw [e_x40]; rfl) (Nat.le_of_ble_eq_true rfl) rfl (fun ls hl => ?_)
          refine lv_goto (tgt := 12) hx hb dX2_hasEqual_43 (by decide) ?_
          exact ih_12 x40 hf _ _ _ hP hS (lv_sub hl [1, 2, 0] rfl)
        · have hf := ite_t c_35 hf
          refine lv_iconst (v := 1) hx hb dX2_hasEqual_38 (by decide) ?_
          have e9 := Option.some.inj hf
          exact rt_z hx hb hr rfl hlocks e9 hP hS dX2_hasEqual_39
  refine lv_aload_n hx hb dX2_hasEqual_0 rfl (lv_at hl 0 rfl) ?_
  refine va_get (ci := 2) (C := RX2) (T := TX2) (N := 11) (v := .ref (a0 3)) hx hb hts i_X2_hasEqual_X2 hown hK hP 0 rfl rfl 3 (by decide) (hts _ m_X2_hasEqual_d527ee) (fun _ h9 => h9) rfl dX2_hasEqual_1 ?_
  refine lv_iload_n hx hb dX2_hasEqual_4 rfl (lv_at hl 1 rfl) ?_
  obtain ⟨h_5, hf⟩ := ck_e hf
  refine va_iald (cA := E.2.1) (n := 6) (f := s0 3) hx hb hK hP 3 0 rfl rfl h_5 dX2_hasEqual_5 ?_
  obtain ⟨q6, hc_6, hf⟩ := cl_e hf
  refine fin_i (E := E) (wc := ([] : va_W)) (wc' := ([] : va_W)) (va_runS (As := [.int (s0 3 p1.toNatClampNeg)]) (rest := []) ⟨hx, hb, hml, hown, hts⟩ (k_J6_bitCount_0f7a4 l E N (s0 3 p1.toNatClampNeg) q6 hc_6 _) (va_cwS 1 hts gX2_hasEqual_J6_bitCount_0f7a4 rfl rfl rfl (by decide +kernel) ⟨(Nat.le_of_ble_eq_true rfl), (Nat.le_of_ble_eq_true rfl)⟩) (pre_s hK va_P_nil va_D_nil hS hG hAB) rfl rfl hl.1 rfl (lv_room (Nat.le_of_ble_eq_true rfl)) dX2_hasEqual_6 ⟨Nat.zero_le _, Nat.zero_le _⟩) hS (free_nil hS hA) (fun H locs hP1 hk hS => ?_)
  have hP := w_kept0 hP hk
  refine lv_istore_n (lv' := [(2, .int q6), (0, .ref (a0 0)), (1, .int p1)]) hx hb dX2_hasEqual_9 rfl hl (Nat.le_of_ble_eq_true rfl) rfl (fun ls hl => ?_)
  refine lv_iconst (v := 0) hx hb dX2_hasEqual_10 (by decide) ?_
  refine lv_istore_n (lv' := [(3, .int 0), (2, .int q6), (0, .ref (a0 0)), (1, .int p1)]) hx hb dX2_hasEqual_11 rfl hl (Nat.le_of_ble_eq_true rfl) rfl (fun ls hl => ?_)
  exact hL_12 s0 q6 N 0 hf _ _ _ hP hS (lv_sub hl [2, 1, 0] rfl)
abbrev rm_X2_hasFewer : Room := { frames := 1, cells := 0, slots := 0, locals := 20 }
theorem m_X2_hasFewer_d527ee : Cond.fieldLink RX2 18 "PickedMatch$Scene" "marks" "[I" ∈ wsX2_hasFewer := by decide +kernel
theorem i_X2_hasFewer_X2 : ∀ w ∈ wsX20, w ∈ wsX2_hasFewer := fun _ h => List.mem_cons_of_mem _ (List.mem_append_right _ h)
set_option maxHeartbeats 8000000 in
set_option maxRecDepth 100000 in
theorem k_X2_hasFewer (l : Launch) (E : Ev) (a0 : Nat → Nat) (L : List SR) (N : Nat) (s0 : St) (h0 : Option SR) (p1 : Int32) (p2 : Int32) (q : (Int32)) (hf : f_X2_hasFewer N s0 p1 p2 = some q) : Ci l yX2_hasFewer wsX2_hasFewer rm_X2_hasFewer E [.ref (a0 0), .int p1, .int p2] ((wX2 E a0 s0 h0) ++ sW E.2.1 L) ((wX2 E a0 s0 h0) ++ sW E.2.1 L) q := by
  unfold f_X2_hasFewer at hf
  intro sz
  refine Met.ofW (cc := cX2_hasFewer) (maxL := 3) (ret := (some .boolean)) (by decide) rfl ?_
  intro p e s m args below meth c s₁ B hml hpre
  obtain ⟨rfl, hsz, hP, hK, hD0, hG, hA, hAB⟩ := start hpre
  have hx := B.exec
  have hb := B.bytes
  have hr := B.returns
  have hts := atoms_spec (ws := wsX2_hasFewer) B.pre
  have hown : s.vm.findClass RX2 = some m.cls := findClass_of_methodNamed B.named
  have hlocks := B.notSynchronized
  subst hsz
  generalize va_A ((wX2 E a0 s0 h0) ++ sW E.2.1 L) s.heap.size = A0 at hD0 hA hAB ⊢
  have hDD : ∀ (s0 : St) (h0 : Option SR), va_D A0 ((wX2 E a0 s0 h0) ++ sW E.2.1 L) := fun s0 h0 => vD_addr hD0 rfl
  have hS : va_S A0 s.heap s.heap [] := va_S.rf
  have hl := lv_entry ([.ref (a0 0), .int p1, .int p2]) (n := 3) (Nat.le_of_ble_eq_true rfl)
  rw [lg_entry_eq]
  generalize (lg_sl ([.ref (a0 0), .int p1, .int p2]) ++ List.replicate (3 - (lg_sl ([.ref (a0 0), .int p1, .int p2])).length) Slot.unset).toArray = ls at hl ⊢
  have hl : lv_has ls 3 [(0, .ref (a0 0)), (1, .int p1), (2, .int p2)] := hl
  refine lv_aload_n hx hb dX2_hasFewer_0 rfl (lv_at hl 0 rfl) ?_
  refine va_get (ci := 2) (C := RX2) (T := TX2) (N := 11) (v := .ref (a0 3)) hx hb hts i_X2_hasFewer_X2 hown hK hP 0 rfl rfl 3 (by decide) (hts _ m_X2_hasFewer_d527ee) (fun _ h9 => h9) rfl dX2_hasFewer_1 ?_
  refine lv_iload_n hx hb dX2_hasFewer_4 rfl (lv_at hl 1 rfl) ?_
  obtain ⟨h_5, hf⟩ := ck_e hf
  refine va_iald (cA := E.2.1) (n := 6) (f := s0 3) hx hb hK hP 3 0 rfl rfl h_5 dX2_hasFewer_5 ?_
  obtain ⟨q6, hc_6, hf⟩ := cl_e hf
  refine fin_i (E := E) (wc := ([] : va_W)) (wc' := ([] : va_W)) (va_runS (As := [.int (s0 3 p1.toNatClampNeg)]) (rest := []) ⟨hx, hb, hml, hown, hts⟩ (k_J6_bitCount_0f7a4 l E N (s0 3 p1.toNatClampNeg) q6 hc_6 _) (va_cwS 1 hts gX2_hasFewer_J6_bitCount_0f7a4 rfl rfl rfl (by decide +kernel) ⟨(Nat.le_of_ble_eq_true rfl), (Nat.le_of_ble_eq_true rfl)⟩) (pre_s hK va_P_nil va_D_nil hS hG hAB) rfl rfl hl.1 rfl (lv_room (Nat.le_of_ble_eq_true rfl)) dX2_hasFewer_6 ⟨Nat.zero_le _, Nat.zero_le _⟩) hS (free_nil hS hA) (fun H locs hP1 hk hS => ?_)
  have hP := w_kept0 hP hk
  refine lv_aload_n hx hb dX2_hasFewer_9 rfl (lv_at hl 0 rfl) ?_
  refine va_get (ci := 2) (C := RX2) (T := TX2) (N := 11) (v := .ref (a0 3)) hx hb hts i_X2_hasFewer_X2 hown hK hP 0 rfl rfl 3 (by decide) (hts _ m_X2_hasFewer_d527ee) (fun _ h9 => h9) rfl dX2_hasFewer_10 ?_
  refine lv_iload_n hx hb dX2_hasFewer_13 rfl (lv_at hl 2 rfl) ?_
  obtain ⟨h_14, hf⟩ := ck_e hf
  refine va_iald (cA := E.2.1) (n := 6) (f := s0 3) hx hb hK hP 3 0 rfl rfl h_14 dX2_hasFewer_14 ?_
  obtain ⟨q15, hc_15, hf⟩ := cl_e hf
  refine fin_i (E := E) (wc := ([] : va_W)) (wc' := ([] : va_W)) (va_runS (As := [.int (s0 3 p2.toNatClampNeg)]) (rest := [.int q6]) ⟨hx, hb, hml, hown, hts⟩ (k_J6_bitCount_0f7a4 l E N (s0 3 p2.toNatClampNeg) q15 hc_15 _) (va_cwS 1 hts gX2_hasFewer_J6_bitCount_0f7a4 rfl rfl rfl (by decide +kernel) ⟨(Nat.le_of_ble_eq_true rfl), (Nat.le_of_ble_eq_true rfl)⟩) (pre_s hK va_P_nil va_D_nil hS hG hAB) rfl rfl hl.1 rfl (lv_room (Nat.le_of_ble_eq_true rfl)) dX2_hasFewer_15 ⟨Nat.zero_le _, Nat.zero_le _⟩) hS (free_nil hS hA) (fun H locs hP1 hk hS => ?_)
  have hP := w_kept0 hP hk
  refine lv_icmp_ge (tgt := 25) hx hb dX2_hasFewer_18 (by decide) (fun c_18 => ?_) (fun c_18 => ?_)
  · have hf := ite_t c_18 hf
    refine lv_iconst (v := 0) hx hb dX2_hasFewer_25 (by decide) ?_
    have e9 := Option.some.inj hf
    exact rt_z hx hb hr rfl hlocks e9 hP hS dX2_hasFewer_26
  · have hf := ite_f c_18 hf
    refine lv_iconst (v := 1) hx hb dX2_hasFewer_21 (by decide) ?_
    refine lv_goto (tgt := 26) hx hb dX2_hasFewer_22 (by decide) ?_
    have e9 := Option.some.inj hf
    exact rt_z hx hb hr rfl hlocks e9 hP hS dX2_hasFewer_26
abbrev rm_X2_goesNow : Room := { frames := 3, cells := 0, slots := 0, locals := 72 }
theorem m_X2_goesNow_e39fb3 : Cond.fieldLink RX2 21 "PickedMatch$Scene" "rows" "[I" ∈ wsX2_goesNow := by decide +kernel
theorem i_X2_goesNow_X2 : ∀ w ∈ wsX20, w ∈ wsX2_goesNow := fun _ h => List.mem_cons_of_mem _ (List.mem_append_left _ (List.mem_append_right _ h))
theorem m_X2_goesNow_88869a : Cond.fieldLink RX2 48 "PickedMatch$Scene" "day" "I" ∈ wsX2_goesNow := by decide +kernel
theorem m_X2_goesNow_8f234e : Cond.fieldLink RX2 42 "PickedMatch$Scene" "hadCount" "I" ∈ wsX2_goesNow := by decide +kernel
theorem m_X2_goesNow_102288 : Cond.fieldLink RX2 24 "PickedMatch$Scene" "had" "[I" ∈ wsX2_goesNow := by decide +kernel
theorem m_X2_goesNow_e4af18 : Cond.fieldLink RX2 9 "PickedMatch$Scene" "kinds" "[I" ∈ wsX2_goesNow := by decide +kernel
theorem m_X2_goesNow_d527ee : Cond.fieldLink RX2 18 "PickedMatch$Scene" "marks" "[I" ∈ wsX2_goesNow := by decide +kernel
theorem m_X2_goesNow_a75564 : Cond.fieldLink RX2 15 "PickedMatch$Scene" "numbers" "[I" ∈ wsX2_goesNow := by decide +kernel
set_option maxHeartbeats 8000000 in
set_option maxRecDepth 100000 in
theorem k_X2_goesNow (l : Launch) (E : Ev) (a0 : Nat → Nat) (L : List SR) (N : Nat) (s0 : St) (h0 : Option SR) (p1 : Int32) (q : (Int32 × St)) (hf : f_X2_goesNow N L s0 h0 p1 = some q) : Ci l yX2_goesNow wsX2_goesNow rm_X2_goesNow E [.ref (a0 0), .int p1] ((wX2 E a0 s0 h0) ++ sW E.2.1 L) ((wX2 E a0 q.2 h0) ++ sW E.2.1 L) q.1 := by
  unfold f_X2_goesNow at hf
  intro sz
  refine Met.ofW (cc := cX2_goesNow) (maxL := 4) (ret := (some .boolean)) (by decide) rfl ?_
  intro p e s m args below meth c s₁ B hml hpre
  obtain ⟨rfl, hsz, hP, hK, hD0, hG, hA, hAB⟩ := start hpre
  have hx := B.exec
  have hb := B.bytes
  have hr := B.returns
  have hts := atoms_spec (ws := wsX2_goesNow) B.pre
  have hown : s.vm.findClass RX2 = some m.cls := findClass_of_methodNamed B.named
  have hlocks := B.notSynchronized
  subst hsz
  generalize va_A ((wX2 E a0 s0 h0) ++ sW E.2.1 L) s.heap.size = A0 at hD0 hA hAB ⊢
  have hDD : ∀ (s0 : St) (h0 : Option SR), va_D A0 ((wX2 E a0 s0 h0) ++ sW E.2.1 L) := fun s0 h0 => vD_addr hD0 rfl
  have hS : va_S A0 s.heap s.heap [] := va_S.rf
  have hl := lv_entry ([.ref (a0 0), .int p1]) (n := 4) (Nat.le_of_ble_eq_true rfl)
  rw [lg_entry_eq]
  generalize (lg_sl ([.ref (a0 0), .int p1]) ++ List.replicate (4 - (lg_sl ([.ref (a0 0), .int p1])).length) Slot.unset).toArray = ls at hl ⊢
  have hl : lv_has ls 4 [(0, .ref (a0 0)), (1, .int p1)] := hl
  have hL_254 : ∀ (s0 : St) (h0 : Option SR) (v1 : Int32), j_X2_goesNow_254 N L s0 h0 v1 = some q → ∀ (H : Heap) (locs : List Loc) (ls : Array Slot), va_P E.1 vwCl ((wX2 E a0 s0 h0) ++ sW E.2.1 L) H → va_S A0 s.heap H locs → lv_has ls 4 [(0, .ref (a0 0)), (1, .int v1)] → W p l e rm_X2_goesNow s m ([.ref (a0 0), .int p1] : List Value).toArray below meth c H locs 0 0 (MQ below (va_Qi (fun (r' : Int32) (_ : Unit) => r' = q.1) (fun _ t => va_P E.1 vwCl ((wX2 E a0 q.2 h0) ++ sW E.2.1 L) t.heap) A0) ([.ref (a0 0), .int p1] : List Value).toArray s 0 0 A0) (F0 m 254 ls []) := by
    intro s0 h0 v1 hf H locs ls hP hS hl
    unfold j_X2_goesNow_254 at hf
    refine lv_aload_n hx hb dX2_goesNow_254 rfl (lv_at hl 0 rfl) ?_
    refine va_get (ci := 2) (C := RX2) (T := TX2) (N := 11) (v := .ref (a0 4)) hx hb hts i_X2_goesNow_X2 hown hK hP 0 rfl rfl 4 (by decide) (hts _ m_X2_goesNow_e39fb3) (fun _ h9 => h9) rfl dX2_goesNow_255 ?_
    refine lv_iload_n hx hb dX2_goesNow_258 rfl (lv_at hl 1 rfl) ?_
    refine lv_iconst (v := 4) hx hb dX2_goesNow_259 (by decide) ?_
    refine lv_imul hx hb dX2_goesNow_260 ?_
    refine lv_aload_n hx hb dX2_goesNow_261 rfl (lv_at hl 0 rfl) ?_
    refine va_get (ci := 2) (C := RX2) (T := TX2) (N := 11) (v := .int (s0 8 0)) hx hb hts i_X2_goesNow_X2 hown hK hP 0 rfl rfl 8 (by decide) (hts _ m_X2_goesNow_88869a) (fun _ h9 => h9) rfl dX2_goesNow_262 ?_
    refine lv_iconst (v := 4) hx hb dX2_goesNow_265 (by decide) ?_
    obtain ⟨hz_266, hf⟩ := cz_e hf
    refine lv_irem hx hb dX2_goesNow_266 hz_266 ?_
    refine lv_iadd hx hb dX2_goesNow_267 ?_
    obtain ⟨h_268, hf⟩ := ck_e hf
    refine va_iald (cA := E.2.1) (n := 24) (f := s0 4) hx hb hK hP 4 0 rfl rfl h_268 dX2_goesNow_268 ?_
    refine lv_aload_n hx hb dX2_goesNow_269 rfl (lv_at hl 0 rfl) ?_
    refine va_get (ci := 2) (C := RX2) (T := TX2) (N := 11) (v := .int (s0 6 0)) hx hb hts i_X2_goesNow_X2 hown hK hP 0 rfl rfl 6 (by decide) (hts _ m_X2_goesNow_8f234e) (fun _ h9 => h9) rfl dX2_goesNow_270 ?_
    refine lv_icmp_ne (tgt := 280) hx hb dX2_goesNow_273 (by decide) (fun c_273 => ?_) (fun c_273 => ?_)
    · have hf := ite_f c_273 hf
      refine lv_iconst (v := 0) hx hb dX2_goesNow_280 (by decide) ?_
      have e9 := Option.some.inj hf
      exact rt_z hx hb hr rfl hlocks (fst_e e9) (rtP (P := fun z => va_P E.1 vwCl ((wX2 E a0 z.2 h0) ++ sW E.2.1 L) H) e9 hP) hS dX2_goesNow_281
    · have hf := ite_t c_273 hf
      refine lv_iconst (v := 1) hx hb dX2_goesNow_276 (by decide) ?_
      refine lv_goto (tgt := 281) hx hb dX2_goesNow_277 (by decide) ?_
      have e9 := Option.some.inj hf
      exact rt_z hx hb hr rfl hlocks (fst_e e9) (rtP (P := fun z => va_P E.1 vwCl ((wX2 E a0 z.2 h0) ++ sW E.2.1 L) H) e9 hP) hS dX2_goesNow_281
  have hL_53 : ∀ (s0 : St) (h0 : Option SR) (v1 : Int32) (y0 : Int32), j_X2_goesNow_53 N L s0 h0 v1 y0 = some q → ∀ (H : Heap) (locs : List Loc) (ls : Array Slot), va_P E.1 vwCl ((wX2 E a0 s0 h0) ++ sW E.2.1 L) H → va_S A0 s.heap H locs → lv_has ls 4 [(0, .ref (a0 0)), (1, .int v1)] → W p l e rm_X2_goesNow s m ([.ref (a0 0), .int p1] : List Value).toArray below meth c H locs 0 0 (MQ below (va_Qi (fun (r' : Int32) (_ : Unit) => r' = q.1) (fun _ t => va_P E.1 vwCl ((wX2 E a0 q.2 h0) ++ sW E.2.1 L) t.heap) A0) ([.ref (a0 0), .int p1] : List Value).toArray s 0 0 A0) (F0 m 53 ls [.int y0]) := by
    intro s0 h0 v1 y0 hf H locs ls hP hS hl
    unfold j_X2_goesNow_53 at hf
    refine lv_istore_n (lv' := [(2, .int y0), (0, .ref (a0 0)), (1, .int v1)]) hx hb dX2_goesNow_53 rfl hl (Nat.le_of_ble_eq_true rfl) rfl (fun ls hl => ?_)
    refine lv_aload_n hx hb dX2_goesNow_54 rfl (lv_at hl 1 rfl) ?_
    refine va_get (ci := 2) (C := RX2) (T := TX2) (N := 11) (v := .ref (a0 5)) hx hb hts i_X2_goesNow_X2 hown hK hP 0 rfl rfl 5 (by decide) (hts _ m_X2_goesNow_102288) (fun _ h9 => h9) rfl dX2_goesNow_55 ?_
    refine lv_aload_n hx hb dX2_goesNow_58 rfl (lv_at hl 1 rfl) ?_
    refine va_get (ci := 2) (C := RX2) (T := TX2) (N := 11) (v := .int (s0 6 0)) hx hb hts i_X2_goesNow_X2 hown hK hP 0 rfl rfl 6 (by decide) (hts _ m_X2_goesNow_8f234e) (fun _ h9 => h9) rfl dX2_goesNow_59 ?_
    refine lv_iconst (v := 1) hx hb dX2_goesNow_62 (by decide) ?_
    refine lv_isub hx hb dX2_goesNow_63 ?_
    obtain ⟨h_64, hf⟩ := ck_e hf
    refine va_iald (cA := E.2.1) (n := 6) (f := s0 5) hx hb hK hP 5 0 rfl rfl h_64 dX2_goesNow_64 ?_
    refine lv_topi (fun x65 e_x65 => ?_)
    have hf := nm_q e_x65 hf
    refine lv_istore_n (lv' := [(3, .int x65), (2, .int y0), (0, .ref (a0 0)), (1, .int v1)]) hx hb dX2_goesNow_65 rfl hl (Nat.le_of_ble_eq_true rfl) rfl (fun ls hl => ?_)
    refine lv_aload_n hx hb dX2_goesNow_66 rfl (lv_at hl 2 rfl) ?_
    refine va_get (ci := 2) (C := RX2) (T := TX2) (N := 11) (v := .ref (a0 1)) hx hb hts i_X2_goesNow_X2 hown hK hP 0 rfl rfl 1 (by decide) (hts _ m_X2_goesNow_e4af18) (fun _ h9 => h9) rfl dX2_goesNow_67 ?_
    refine lv_iload_n hx hb dX2_goesNow_70 rfl (lv_at hl 3 rfl) ?_
    obtain ⟨h_71, hf⟩ := ck_e hf
    refine va_iald (cA := E.2.1) (n := 6) (f := s0 1) hx hb hK hP 1 0 rfl rfl h_71 dX2_goesNow_71 ?_
    by_cases c_72_0 : (s0 1 v1.toNatClampNeg) = 1
    · have hf := ite_t c_72_0 hf
      refine lv_tableIn (off := 40) (tgt := 112) hx hb dX2_goesNow_72 (by rw [c_72_0]; decide) (by rw [c_72_0]; decide) (by rw [c_72_0]; rfl) (by decide) ?_
      refine lv_iload_n hx hb dX2_goesNow_112 rfl (lv_at hl 1 rfl) ?_
      refine lv_if_eq (tgt := 128) hx hb dX2_goesNow_113 (by decide) (fun c_113 => ?_) (fun c_113 => ?_)
      · have hf := ite_t c_113 hf
        refine lv_iconst (v := 0) hx hb dX2_goesNow_128 (by decide) ?_
        have e9 := Option.some.inj hf
        exact rt_z hx hb hr rfl hlocks (fst_e e9) (rtP (P := fun z => va_P E.1 vwCl ((wX2 E a0 z.2 h0) ++ sW E.2.1 L) H) e9 hP) hS dX2_goesNow_129
      · have hf := ite_f c_113 hf
        refine lv_aload_n hx hb dX2_goesNow_116 rfl (lv_at hl 2 rfl) ?_
        refine lv_iload_n hx hb dX2_goesNow_117 rfl (lv_at hl 3 rfl) ?_
        obtain ⟨q118, hc_118, hf⟩ := cl_e hf
        refine fin_i (E := E) (wc := (wX2 E a0 s0 h0) ++ sW E.2.1 L) (wc' := (wX2 E a0 s0 h0) ++ sW E.2.1 L) (va_runV (As := [.int v1]) (rest := []) ⟨hx, hb, hml, hown, hts⟩ (k_X2_hasEqual l E a0 L N s0 h0 v1 q118 hc_118 _) (cwV 1 hts gX2_goesNow_X2_hasEqual rfl rfl rfl (by decide +kernel) ⟨(Nat.le_of_ble_eq_true rfl), (Nat.le_of_ble_eq_true rfl)⟩) (pre_v (ci := 2) (q0 := 0) hK hP (hDD s0 h0) hS hG hAB rfl rfl) rfl rfl hl.1 rfl (lv_room (Nat.le_of_ble_eq_true rfl)) dX2_goesNow_118 ⟨Nat.zero_le _, Nat.zero_le _⟩) hS (w_free (hDD s0 h0) hS hA (fun _ h => h)) (fun H locs hP1 hk hS => ?_)
        have hP := hP1
        refine lv_if_eq (tgt := 128) hx hb dX2_goesNow_121 (by decide) (fun c_121 => ?_) (fun c_121 => ?_)
        · have hf := ite_t c_121 hf
          refine lv_iconst (v := 0) hx hb dX2_goesNow_128 (by decide) ?_
          have e9 := Option.some.inj hf
          exact rt_z hx hb hr rfl hlocks (fst_e e9) (rtP (P := fun z => va_P E.1 vwCl ((wX2 E a0 z.2 h0) ++ sW E.2.1 L) H) e9 hP) hS dX2_goesNow_129
        · have hf := ite_f c_121 hf
          refine lv_iconst (v := 1) hx hb dX2_goesNow_124 (by decide) ?_
          refine lv_goto (tgt := 129) hx hb dX2_goesNow_125 (by decide) ?_
          have e9 := Option.some.inj hf
          exact rt_z hx hb hr rfl hlocks (fst_e e9) (rtP (P := fun z => va_P E.1 vwCl ((wX2 E a0 z.2 h0) ++ sW E.2.1 L) H) e9 hP) hS dX2_goesNow_129
    · have hf := ite_f c_72_0 hf
      by_cases c_72_1 : (s0 1 v1.toNatClampNeg) = 2
      · have hf := ite_t c_72_1 hf
        refine lv_tableIn (off := 58) (tgt := 130) hx hb dX2_goesNow_72 (by rw [c_72_1]; decide) (by rw [c_72_1]; decide) (by rw [c_72_1]; rfl) (by decide) ?_
        refine lv_iload_n hx hb dX2_goesNow_130 rfl (lv_at hl 1 rfl) ?_
        refine lv_if_eq (tgt := 154) hx hb dX2_goesNow_131 (by decide) (fun c_131 => ?_) (fun c_131 => ?_)
        · have hf := ite_t c_131 hf
          refine lv_iconst (v := 0) hx hb dX2_goesNow_154 (by decide) ?_
          have e9 := Option.some.inj hf
          exact rt_z hx hb hr rfl hlocks (fst_e e9) (rtP (P := fun z => va_P E.1 vwCl ((wX2 E a0 z.2 h0) ++ sW E.2.1 L) H) e9 hP) hS dX2_goesNow_155
        · have hf := ite_f c_131 hf
          refine lv_aload_n hx hb dX2_goesNow_134 rfl (lv_at hl 2 rfl) ?_
          refine va_get (ci := 2) (C := RX2) (T := TX2) (N := 11) (v := .ref (a0 3)) hx hb hts i_X2_goesNow_X2 hown hK hP 0 rfl rfl 3 (by decide) (hts _ m_X2_goesNow_d527ee) (fun _ h9 => h9) rfl dX2_goesNow_135 ?_
          refine lv_iload_n hx hb dX2_goesNow_138 rfl (lv_at hl 3 rfl) ?_
          obtain ⟨h_139, hf⟩ := ck_e hf
          refine va_iald (cA := E.2.1) (n := 6) (f := s0 3) hx hb hK hP 3 0 rfl rfl h_139 dX2_goesNow_139 ?_
          refine lv_aload_n hx hb dX2_goesNow_140 rfl (lv_at hl 2 rfl) ?_
          refine va_get (ci := 2) (C := RX2) (T := TX2) (N := 11) (v := .ref (a0 3)) hx hb hts i_X2_goesNow_X2 hown hK hP 0 rfl rfl 3 (by decide) (hts _ m_X2_goesNow_d527ee) (fun _ h9 => h9) rfl dX2_goesNow_141 ?_
          refine lv_iload_n hx hb dX2_goesNow_144 rfl (lv_at hl 0 rfl) ?_
          obtain ⟨h_145, hf⟩ := ck_e hf
          refine va_iald (cA := E.2.1) (n := 6) (f := s0 3) hx hb hK hP 3 0 rfl rfl h_145 dX2_goesNow_145 ?_
          refine lv_iand hx hb dX2_goesNow_146 ?_
          refine lv_if_ne (tgt := 154) hx hb dX2_goesNow_147 (by decide) (fun c_147 => ?_) (fun c_147 => ?_)
          · have hf := ite_f c_147 hf
            refine lv_iconst (v := 0) hx hb dX2_goesNow_154 (by decide) ?_
            have e9 := Option.some.inj hf
            exact rt_z hx hb hr rfl hlocks (fst_e e9) (rtP (P := fun z => va_P E.1 vwCl ((wX2 E a0 z.2 h0) ++ sW E.2.1 L) H) e9 hP) hS dX2_goesNow_155
          · have hf := ite_t c_147 hf
            refine lv_iconst (v := 1) hx hb dX2_goesNow_150 (by decide) ?_
            refine lv_goto (tgt := 155) hx hb dX2_goesNow_151 (by decide) ?_
            have e9 := Option.some.inj hf
            exact rt_z hx hb hr rfl hlocks (fst_e e9) (rtP (P := fun z => va_P E.1 vwCl ((wX2 E a0 z.2 h0) ++ sW E.2.1 L) H) e9 hP) hS dX2_goesNow_155
      · have hf := ite_f c_72_1 hf
        by_cases c_72_2 : (s0 1 v1.toNatClampNeg) = 3
        · have hf := ite_t c_72_2 hf
          refine lv_tableIn (off := 84) (tgt := 156) hx hb dX2_goesNow_72 (by rw [c_72_2]; decide) (by rw [c_72_2]; decide) (by rw [c_72_2]; rfl) (by decide) ?_
          refine lv_iload_n hx hb dX2_goesNow_156 rfl (lv_at hl 1 rfl) ?_
          refine lv_if_ne (tgt := 173) hx hb dX2_goesNow_157 (by decide) (fun c_157 => ?_) (fun c_157 => ?_)
          · have hf := ite_f c_157 hf
            refine lv_iconst (v := 0) hx hb dX2_goesNow_173 (by decide) ?_
            have e9 := Option.some.inj hf
            exact rt_z hx hb hr rfl hlocks (fst_e e9) (rtP (P := fun z => va_P E.1 vwCl ((wX2 E a0 z.2 h0) ++ sW E.2.1 L) H) e9 hP) hS dX2_goesNow_174
          · have hf := ite_t c_157 hf
            refine lv_aload_n hx hb dX2_goesNow_160 rfl (lv_at hl 2 rfl) ?_
            refine lv_iload_n hx hb dX2_goesNow_161 rfl (lv_at hl 0 rfl) ?_
            refine lv_iload_n hx hb dX2_goesNow_162 rfl (lv_at hl 3 rfl) ?_
            obtain ⟨q163, hc_163, hf⟩ := cl_e hf
            refine fin_i (E := E) (wc := (wX2 E a0 s0 h0) ++ sW E.2.1 L) (wc' := (wX2 E a0 s0 h0) ++ sW E.2.1 L) (va_runV (As := [.int x65, .int v1]) (rest := []) ⟨hx, hb, hml, hown, hts⟩ (k_X2_hasFewer l E a0 L N s0 h0 x65 v1 q163 hc_163 _) (cwV 2 hts gX2_goesNow_X2_hasFewer rfl rfl rfl (by decide +kernel) ⟨(Nat.le_of_ble_eq_true rfl), (Nat.le_of_ble_eq_true rfl)⟩) (pre_v (ci := 2) (q0 := 0) hK hP (hDD s0 h0) hS hG hAB rfl rfl) rfl rfl hl.1 rfl (lv_room (Nat.le_of_ble_eq_true rfl)) dX2_goesNow_163 ⟨Nat.zero_le _, Nat.zero_le _⟩) hS (w_free (hDD s0 h0) hS hA (fun _ h => h)) (fun H locs hP1 hk hS => ?_)
            have hP := hP1
            refine lv_if_eq (tgt := 173) hx hb dX2_goesNow_166 (by decide) (fun c_166 => ?_) (fun c_166 => ?_)
            · have hf := ite_t c_166 hf
              refine lv_iconst (v := 0) hx hb dX2_goesNow_173 (by decide) ?_
              have e9 := Option.some.inj hf
              exact rt_z hx hb hr rfl hlocks (fst_e e9) (rtP (P := fun z => va_P E.1 vwCl ((wX2 E a0 z.2 h0) ++ sW E.2.1 L) H) e9 hP) hS dX2_goesNow_174
            · have hf := ite_f c_166 hf
              refine lv_iconst (v := 1) hx hb dX2_goesNow_169 (by decide) ?_
              refine lv_goto (tgt := 174) hx hb dX2_goesNow_170 (by decide) ?_
              have e9 := Option.some.inj hf
              exact rt_z hx hb hr rfl hlocks (fst_e e9) (rtP (P := fun z => va_P E.1 vwCl ((wX2 E a0 z.2 h0) ++ sW E.2.1 L) H) e9 hP) hS dX2_goesNow_174
        · have hf := ite_f c_72_2 hf
          by_cases c_72_3 : (s0 1 v1.toNatClampNeg) = 4
          · have hf := ite_t c_72_3 hf
            refine lv_tableIn (off := 103) (tgt := 175) hx hb dX2_goesNow_72 (by rw [c_72_3]; decide) (by rw [c_72_3]; decide) (by rw [c_72_3]; rfl) (by decide) ?_
            refine lv_iload_n hx hb dX2_goesNow_175 rfl (lv_at hl 1 rfl) ?_
            refine lv_if_eq (tgt := 187) hx hb dX2_goesNow_176 (by decide) (fun c_176 => ?_) (fun c_176 => ?_)
            · have hf := ite_t c_176 hf
              refine lv_aload_n hx hb dX2_goesNow_187 rfl (lv_at hl 2 rfl) ?_
              refine va_get (ci := 2) (C := RX2) (T := TX2) (N := 11) (v := .ref (a0 2)) hx hb hts i_X2_goesNow_X2 hown hK hP 0 rfl rfl 2 (by decide) (hts _ m_X2_goesNow_a75564) (fun _ h9 => h9) rfl dX2_goesNow_188 ?_
              refine lv_iload_n hx hb dX2_goesNow_191 rfl (lv_at hl 3 rfl) ?_
              obtain ⟨h_192, hf⟩ := ck_e hf
              refine va_iald (cA := E.2.1) (n := 6) (f := s0 2) hx hb hK hP 2 0 rfl rfl h_192 dX2_goesNow_192 ?_
              refine lv_aload_n hx hb dX2_goesNow_193 rfl (lv_at hl 2 rfl) ?_
              refine va_get (ci := 2) (C := RX2) (T := TX2) (N := 11) (v := .int (s0 6 0)) hx hb hts i_X2_goesNow_X2 hown hK hP 0 rfl rfl 6 (by decide) (hts _ m_X2_goesNow_8f234e) (fun _ h9 => h9) rfl dX2_goesNow_194 ?_
              refine lv_icmp_ge (tgt := 204) hx hb dX2_goesNow_197 (by decide) (fun c_197 => ?_) (fun c_197 => ?_)
              · have hf := ite_t c_197 hf
                refine lv_iconst (v := 0) hx hb dX2_goesNow_204 (by decide) ?_
                have e9 := Option.some.inj hf
                exact rt_z hx hb hr rfl hlocks (fst_e e9) (rtP (P := fun z => va_P E.1 vwCl ((wX2 E a0 z.2 h0) ++ sW E.2.1 L) H) e9 hP) hS dX2_goesNow_205
              · have hf := ite_f c_197 hf
                refine lv_iconst (v := 1) hx hb dX2_goesNow_200 (by decide) ?_
                refine lv_goto (tgt := 205) hx hb dX2_goesNow_201 (by decide) ?_
                have e9 := Option.some.inj hf
                exact rt_z hx hb hr rfl hlocks (fst_e e9) (rtP (P := fun z => va_P E.1 vwCl ((wX2 E a0 z.2 h0) ++ sW E.2.1 L) H) e9 hP) hS dX2_goesNow_205
            · have hf := ite_f c_176 hf
              refine lv_aload_n hx hb dX2_goesNow_179 rfl (lv_at hl 2 rfl) ?_
              refine lv_iload_n hx hb dX2_goesNow_180 rfl (lv_at hl 3 rfl) ?_
              obtain ⟨q181, hc_181, hf⟩ := cl_e hf
              refine fin_i (E := E) (wc := (wX2 E a0 s0 h0) ++ sW E.2.1 L) (wc' := (wX2 E a0 s0 h0) ++ sW E.2.1 L) (va_runV (As := [.int v1]) (rest := []) ⟨hx, hb, hml, hown, hts⟩ (k_X2_hasEqual l E a0 L N s0 h0 v1 q181 hc_181 _) (cwV 1 hts gX2_goesNow_X2_hasEqual rfl rfl rfl (by decide +kernel) ⟨(Nat.le_of_ble_eq_true rfl), (Nat.le_of_ble_eq_true rfl)⟩) (pre_v (ci := 2) (q0 := 0) hK hP (hDD s0 h0) hS hG hAB rfl rfl) rfl rfl hl.1 rfl (lv_room (Nat.le_of_ble_eq_true rfl)) dX2_goesNow_181 ⟨Nat.zero_le _, Nat.zero_le _⟩) hS (w_free (hDD s0 h0) hS hA (fun _ h => h)) (fun H locs hP1 hk hS => ?_)
              have hP := hP1
              refine lv_if_ne (tgt := 200) hx hb dX2_goesNow_184 (by decide) (fun c_184 => ?_) (fun c_184 => ?_)
              · have hf := ite_f c_184 hf
                refine lv_iconst (v := 1) hx hb dX2_goesNow_200 (by decide) ?_
                refine lv_goto (tgt := 205) hx hb dX2_goesNow_201 (by decide) ?_
                have e9 := Option.some.inj hf
                exact rt_z hx hb hr rfl hlocks (fst_e e9) (rtP (P := fun z => va_P E.1 vwCl ((wX2 E a0 z.2 h0) ++ sW E.2.1 L) H) e9 hP) hS dX2_goesNow_205
              · have hf := ite_t c_184 hf
                refine lv_aload_n hx hb dX2_goesNow_187 rfl (lv_at hl 2 rfl) ?_
                refine va_get (ci := 2) (C := RX2) (T := TX2) (N := 11) (v := .ref (a0 2)) hx hb hts i_X2_goesNow_X2 hown hK hP 0 rfl rfl 2 (by decide) (hts _ m_X2_goesNow_a75564) (fun _ h9 => h9) rfl dX2_goesNow_188 ?_
                refine lv_iload_n hx hb dX2_goesNow_191 rfl (lv_at hl 3 rfl) ?_
                obtain ⟨h_192, hf⟩ := ck_e hf
                refine va_iald (cA := E.2.1) (n := 6) (f := s0 2) hx hb hK hP 2 0 rfl rfl h_192 dX2_goesNow_192 ?_
                refine lv_aload_n hx hb dX2_goesNow_193 rfl (lv_at hl 2 rfl) ?_
                refine va_get (ci := 2) (C := RX2) (T := TX2) (N := 11) (v := .int (s0 6 0)) hx hb hts i_X2_goesNow_X2 hown hK hP 0 rfl rfl 6 (by decide) (hts _ m_X2_goesNow_8f234e) (fun _ h9 => h9) rfl dX2_goesNow_194 ?_
                refine lv_icmp_ge (tgt := 204) hx hb dX2_goesNow_197 (by decide) (fun c_197 => ?_) (fun c_197 => ?_)
                · have hf := ite_t c_197 hf
                  refine lv_iconst (v := 0) hx hb dX2_goesNow_204 (by decide) ?_
                  have e9 := Option.some.inj hf
                  exact rt_z hx hb hr rfl hlocks (fst_e e9) (rtP (P := fun z => va_P E.1 vwCl ((wX2 E a0 z.2 h0) ++ sW E.2.1 L) H) e9 hP) hS dX2_goesNow_205
                · have hf := ite_f c_197 hf
                  refine lv_iconst (v := 1) hx hb dX2_goesNow_200 (by decide) ?_
                  refine lv_goto (tgt := 205) hx hb dX2_goesNow_201 (by decide) ?_
                  have e9 := Option.some.inj hf
                  exact rt_z hx hb hr rfl hlocks (fst_e e9) (rtP (P := fun z => va_P E.1 vwCl ((wX2 E a0 z.2 h0) ++ sW E.2.1 L) H) e9 hP) hS dX2_goesNow_205
          · have hf := ite_f c_72_3 hf
            by_cases c_72_4 : (s0 1 v1.toNatClampNeg) = 5
            · have hf := ite_t c_72_4 hf
              refine lv_tableIn (off := 134) (tgt := 206) hx hb dX2_goesNow_72 (by rw [c_72_4]; decide) (by rw [c_72_4]; decide) (by rw [c_72_4]; rfl) (by decide) ?_
              refine lv_iload_n hx hb dX2_goesNow_206 rfl (lv_at hl 1 rfl) ?_
              refine lv_if_eq (tgt := 239) hx hb dX2_goesNow_207 (by decide) (fun c_207 => ?_) (fun c_207 => ?_)
              · have hf := ite_t c_207 hf
                refine lv_iconst (v := 0) hx hb dX2_goesNow_239 (by decide) ?_
                have e9 := Option.some.inj hf
                exact rt_z hx hb hr rfl hlocks (fst_e e9) (rtP (P := fun z => va_P E.1 vwCl ((wX2 E a0 z.2 h0) ++ sW E.2.1 L) H) e9 hP) hS dX2_goesNow_240
              · have hf := ite_f c_207 hf
                refine lv_aload_n hx hb dX2_goesNow_210 rfl (lv_at hl 2 rfl) ?_
                refine va_get (ci := 2) (C := RX2) (T := TX2) (N := 11) (v := .int (s0 8 0)) hx hb hts i_X2_goesNow_X2 hown hK hP 0 rfl rfl 8 (by decide) (hts _ m_X2_goesNow_88869a) (fun _ h9 => h9) rfl dX2_goesNow_211 ?_
                refine lv_iconst (v := 2) hx hb dX2_goesNow_214 (by decide) ?_
                obtain ⟨hz_215, hf⟩ := cz_e hf
                refine lv_irem hx hb dX2_goesNow_215 hz_215 ?_
                refine lv_if_ne (tgt := 235) hx hb dX2_goesNow_216 (by decide) (fun c_216 => ?_) (fun c_216 => ?_)
                · have hf := ite_f c_216 hf
                  refine lv_iconst (v := 1) hx hb dX2_goesNow_235 (by decide) ?_
                  refine lv_goto (tgt := 240) hx hb dX2_goesNow_236 (by decide) ?_
                  have e9 := Option.some.inj hf
                  exact rt_z hx hb hr rfl hlocks (fst_e e9) (rtP (P := fun z => va_P E.1 vwCl ((wX2 E a0 z.2 h0) ++ sW E.2.1 L) H) e9 hP) hS dX2_goesNow_240
                · have hf := ite_t c_216 hf
                  refine lv_aload_n hx hb dX2_goesNow_219 rfl (lv_at hl 2 rfl) ?_
                  refine va_get (ci := 2) (C := RX2) (T := TX2) (N := 11) (v := .ref (a0 3)) hx hb hts i_X2_goesNow_X2 hown hK hP 0 rfl rfl 3 (by decide) (hts _ m_X2_goesNow_d527ee) (fun _ h9 => h9) rfl dX2_goesNow_220 ?_
                  refine lv_iload_n hx hb dX2_goesNow_223 rfl (lv_at hl 3 rfl) ?_
                  obtain ⟨h_224, hf⟩ := ck_e hf
                  refine va_iald (cA := E.2.1) (n := 6) (f := s0 3) hx hb hK hP 3 0 rfl rfl h_224 dX2_goesNow_224 ?_
                  refine lv_aload_n hx hb dX2_goesNow_225 rfl (lv_at hl 2 rfl) ?_
                  refine va_get (ci := 2) (C := RX2) (T := TX2) (N := 11) (v := .ref (a0 3)) hx hb hts i_X2_goesNow_X2 hown hK hP 0 rfl rfl 3 (by decide) (hts _ m_X2_goesNow_d527ee) (fun _ h9 => h9) rfl dX2_goesNow_226 ?_
                  refine lv_iload_n hx hb dX2_goesNow_229 rfl (lv_at hl 0 rfl) ?_
                  obtain ⟨h_230, hf⟩ := ck_e hf
                  refine va_iald (cA := E.2.1) (n := 6) (f := s0 3) hx hb hK hP 3 0 rfl rfl h_230 dX2_goesNow_230 ?_
                  refine lv_iand hx hb dX2_goesNow_231 ?_
                  refine lv_if_ne (tgt := 239) hx hb dX2_goesNow_232 (by decide) (fun c_232 => ?_) (fun c_232 => ?_)
                  · have hf := ite_f c_232 hf
                    refine lv_iconst (v := 0) hx hb dX2_goesNow_239 (by decide) ?_
                    have e9 := Option.some.inj hf
                    exact rt_z hx hb hr rfl hlocks (fst_e e9) (rtP (P := fun z => va_P E.1 vwCl ((wX2 E a0 z.2 h0) ++ sW E.2.1 L) H) e9 hP) hS dX2_goesNow_240
                  · have hf := ite_t c_232 hf
                    refine lv_iconst (v := 1) hx hb dX2_goesNow_235 (by decide) ?_
                    refine lv_goto (tgt := 240) hx hb dX2_goesNow_236 (by decide) ?_
                    have e9 := Option.some.inj hf
                    exact rt_z hx hb hr rfl hlocks (fst_e e9) (rtP (P := fun z => va_P E.1 vwCl ((wX2 E a0 z.2 h0) ++ sW E.2.1 L) H) e9 hP) hS dX2_goesNow_240
            · have hf := ite_f c_72_4 hf
              by_cases c_72_5 : (s0 1 v1.toNatClampNeg) = 6
              · have hf := ite_t c_72_5 hf
                refine lv_tableIn (off := 169) (tgt := 241) hx hb dX2_goesNow_72 (by rw [c_72_5]; decide) (by rw [c_72_5]; decide) (by rw [c_72_5]; rfl) (by decide) ?_
                refine lv_iload_n hx hb dX2_goesNow_241 rfl (lv_at hl 1 rfl) ?_
                refine lv_if_ne (tgt := 254) hx hb dX2_goesNow_242 (by decide) (fun c_242 => ?_) (fun c_242 => ?_)
                · have hf := ite_f c_242 hf
                  exact hL_254 s0 h0 v1 hf _ _ _ hP hS (lv_sub hl [2, 3] rfl)
                · have hf := ite_t c_242 hf
                  refine lv_aload_n hx hb dX2_goesNow_245 rfl (lv_at hl 2 rfl) ?_
                  refine lv_iload_n hx hb dX2_goesNow_246 rfl (lv_at hl 0 rfl) ?_
                  refine lv_iload_n hx hb dX2_goesNow_247 rfl (lv_at hl 3 rfl) ?_
                  obtain ⟨q248, hc_248, hf⟩ := cl_e hf
                  refine fin_i (E := E) (wc := (wX2 E a0 s0 h0) ++ sW E.2.1 L) (wc' := (wX2 E a0 s0 h0) ++ sW E.2.1 L) (va_runV (As := [.int x65, .int v1]) (rest := []) ⟨hx, hb, hml, hown, hts⟩ (k_X2_hasFewer l E a0 L N s0 h0 x65 v1 q248 hc_248 _) (cwV 2 hts gX2_goesNow_X2_hasFewer rfl rfl rfl (by decide +kernel) ⟨(Nat.le_of_ble_eq_true rfl), (Nat.le_of_ble_eq_true rfl)⟩) (pre_v (ci := 2) (q0 := 0) hK hP (hDD s0 h0) hS hG hAB rfl rfl) rfl rfl hl.1 rfl (lv_room (Nat.le_of_ble_eq_true rfl)) dX2_goesNow_248 ⟨Nat.zero_le _, Nat.zero_le _⟩) hS (w_free (hDD s0 h0) hS hA (fun _ h => h)) (fun H locs hP1 hk hS => ?_)
                  have hP := hP1
                  refine lv_if_ne (tgt := 276) hx hb dX2_goesNow_251 (by decide) (fun c_251 => ?_) (fun c_251 => ?_)
                  · have hf := ite_f c_251 hf
                    refine lv_iconst (v := 1) hx hb dX2_goesNow_276 (by decide) ?_
                    refine lv_goto (tgt := 281) hx hb dX2_goesNow_277 (by decide) ?_
                    have e9 := Option.some.inj hf
                    exact rt_z hx hb hr rfl hlocks (fst_e e9) (rtP (P := fun z => va_P E.1 vwCl ((wX2 E a0 z.2 h0) ++ sW E.2.1 L) H) e9 hP) hS dX2_goesNow_281
                  · have hf := ite_t c_251 hf
                    exact hL_254 s0 h0 v1 hf _ _ _ hP hS (lv_sub hl [2, 3] rfl)
              · have hf := ite_f c_72_5 hf
                refine lv_tableOut (tgt := 282) hx hb dX2_goesNow_72 (by have n0 := lv_neT (a := 1) c_72_0 (by decide); have n1 := lv_neT (a := 2) c_72_1 (by decide); have n2 := lv_neT (a := 3) c_72_2 (by decide); have n3 := lv_neT (a := 4) c_72_3 (by decide); have n4 := lv_neT (a := 5) c_72_4 (by decide); have n5 := lv_neT (a := 6) c_72_5 (by decide); omega) (by decide) ?_
                refine lv_iload_n hx hb dX2_goesNow_282 rfl (lv_at hl 1 rfl) ?_
                obtain ⟨hn_283, hf⟩ := cb_e hf
                have e9 := Option.some.inj hf
                exact rt_z hx hb hr (nar_b hn_283) hlocks (fst_e e9) (rtP (P := fun z => va_P E.1 vwCl ((wX2 E a0 z.2 h0) ++ sW E.2.1 L) H) e9 hP) hS dX2_goesNow_283
  refine lv_aload_n hx hb dX2_goesNow_0 rfl (lv_at hl 0 rfl) ?_
  refine lv_iload_n hx hb dX2_goesNow_1 rfl (lv_at hl 1 rfl) ?_
  obtain ⟨q2, hc_2, hf⟩ := cl_e hf
  refine fin_i (E := E) (wc := (wX2 E a0 s0 h0) ++ sW E.2.1 L) (wc' := (wX2 E a0 s0 h0) ++ sW E.2.1 L) (va_runV (As := [.int p1]) (rest := []) ⟨hx, hb, hml, hown, hts⟩ (k_X2_isHad l E a0 L N s0 h0 p1 q2 hc_2 _) (cwV 1 hts gX2_goesNow_X2_isHad rfl rfl rfl (by decide +kernel) ⟨(Nat.le_of_ble_eq_true rfl), (Nat.le_of_ble_eq_true rfl)⟩) (pre_v (ci := 2) (q0 := 0) hK hP (hDD s0 h0) hS hG hAB rfl rfl) rfl rfl hl.1 rfl (lv_room (Nat.le_of_ble_eq_true rfl)) dX2_goesNow_2 ⟨Nat.zero_le _, Nat.zero_le _⟩) hS (w_free (hDD s0 h0) hS hA (fun _ h => h)) (fun H locs hP1 hk hS => ?_)
  have hP := hP1
  refine lv_if_ne (tgt := 19) hx hb dX2_goesNow_5 (by decide) (fun c_5 => ?_) (fun c_5 => ?_)
  · have hf := ite_f c_5 hf
    refine lv_iconst (v := 0) hx hb dX2_goesNow_19 (by decide) ?_
    have e9 := Option.some.inj hf
    exact rt_z hx hb hr rfl hlocks (fst_e e9) (rtP (P := fun z => va_P E.1 vwCl ((wX2 E a0 z.2 h0) ++ sW E.2.1 L) H) e9 hP) hS dX2_goesNow_20
  · have hf := ite_t c_5 hf
    refine lv_aload_n hx hb dX2_goesNow_8 rfl (lv_at hl 0 rfl) ?_
    refine va_get (ci := 2) (C := RX2) (T := TX2) (N := 11) (v := .int (s0 6 0)) hx hb hts i_X2_goesNow_X2 hown hK hP 0 rfl rfl 6 (by decide) (hts _ m_X2_goesNow_8f234e) (fun _ h9 => h9) rfl dX2_goesNow_9 ?_
    refine lv_aload_n hx hb dX2_goesNow_12 rfl (lv_at hl 0 rfl) ?_
    obtain ⟨q13, hc_13, hf⟩ := cl_e hf
    refine fin_i (E := E) (wc := (wX2 E a0 s0 h0) ++ sW E.2.1 L) (wc' := (wX2 E a0 s0 h0) ++ sW E.2.1 L) (va_runV (As := []) (rest := [.int (s0 6 0)]) ⟨hx, hb, hml, hown, hts⟩ (k_X2_holdNow l E a0 L N s0 h0 q13 hc_13 _) (cwV 0 hts gX2_goesNow_X2_holdNow rfl rfl rfl (by decide +kernel) ⟨(Nat.le_of_ble_eq_true rfl), (Nat.le_of_ble_eq_true rfl)⟩) (pre_v (ci := 2) (q0 := 0) hK hP (hDD s0 h0) hS hG hAB rfl rfl) rfl rfl hl.1 rfl (lv_room (Nat.le_of_ble_eq_true rfl)) dX2_goesNow_13 ⟨Nat.zero_le _, Nat.zero_le _⟩) hS (w_free (hDD s0 h0) hS hA (fun _ h => h)) (fun H locs hP1 hk hS => ?_)
    have hP := hP1
    refine lv_icmp_lt (tgt := 21) hx hb dX2_goesNow_16 (by decide) (fun c_16 => ?_) (fun c_16 => ?_)
    · have hf := ite_t c_16 hf
      refine lv_aload_n hx hb dX2_goesNow_21 rfl (lv_at hl 0 rfl) ?_
      refine va_get (ci := 2) (C := RX2) (T := TX2) (N := 11) (v := .int (s0 6 0)) hx hb hts i_X2_goesNow_X2 hown hK hP 0 rfl rfl 6 (by decide) (hts _ m_X2_goesNow_8f234e) (fun _ h9 => h9) rfl dX2_goesNow_22 ?_
      refine lv_if_ne (tgt := 30) hx hb dX2_goesNow_25 (by decide) (fun c_25 => ?_) (fun c_25 => ?_)
      · have hf := ite_f c_25 hf
        refine lv_aload_n hx hb dX2_goesNow_30 rfl (lv_at hl 0 rfl) ?_
        refine lv_iload_n hx hb dX2_goesNow_31 rfl (lv_at hl 1 rfl) ?_
        obtain ⟨q32, hc_32, hf⟩ := cl_e hf
        refine fin_i (E := E) (wc := (wX2 E a0 s0 h0) ++ sW E.2.1 L) (wc' := (wX2 E a0 s0 h0) ++ sW E.2.1 L) (va_runV (As := [.int p1]) (rest := []) ⟨hx, hb, hml, hown, hts⟩ (k_X2_alikeOf l E a0 L N s0 h0 p1 q32 hc_32 _) (cwV 1 hts gX2_goesNow_X2_alikeOf rfl rfl rfl (by decide +kernel) ⟨(Nat.le_of_ble_eq_true rfl), (Nat.le_of_ble_eq_true rfl)⟩) (pre_v (ci := 2) (q0 := 0) hK hP (hDD s0 h0) hS hG hAB rfl rfl) rfl rfl hl.1 rfl (lv_room (Nat.le_of_ble_eq_true rfl)) dX2_goesNow_32 ⟨Nat.zero_le _, Nat.zero_le _⟩) hS (w_free (hDD s0 h0) hS hA (fun _ h => h)) (fun H locs hP1 hk hS => ?_)
        have hP := hP1
        refine lv_aload_n hx hb dX2_goesNow_35 rfl (lv_at hl 0 rfl) ?_
        refine lv_iload_n hx hb dX2_goesNow_36 rfl (lv_at hl 1 rfl) ?_
        obtain ⟨q37, hc_37, hf⟩ := cl_e hf
        refine fin_i (E := E) (wc := (wX2 E a0 s0 h0) ++ sW E.2.1 L) (wc' := (wX2 E a0 q37.2 h0) ++ sW E.2.1 L) (va_runV (As := [.int p1]) (rest := [.int q32]) ⟨hx, hb, hml, hown, hts⟩ (k_X2_tasteOf l E a0 L N s0 h0 p1 q37 hc_37 _) (cwV 1 hts gX2_goesNow_X2_tasteOf rfl rfl rfl (by decide +kernel) ⟨(Nat.le_of_ble_eq_true rfl), (Nat.le_of_ble_eq_true rfl)⟩) (pre_v (ci := 2) (q0 := 0) hK hP (hDD s0 h0) hS hG hAB rfl rfl) rfl rfl hl.1 rfl (lv_room (Nat.le_of_ble_eq_true rfl)) dX2_goesNow_37 ⟨Nat.zero_le _, Nat.zero_le _⟩) hS (w_free (hDD s0 h0) hS hA (fun _ h => h)) (fun H locs hP1 hk hS => ?_)
        have hP := hP1
        refine lv_iadd hx hb dX2_goesNow_40 ?_
        refine lv_aload_n hx hb dX2_goesNow_41 rfl (lv_at hl 0 rfl) ?_
        obtain ⟨q42, hc_42, hf⟩ := cl_e hf
        refine fin_i (E := E) (wc := (wX2 E a0 q37.2 h0) ++ sW E.2.1 L) (wc' := (wX2 E a0 q37.2 h0) ++ sW E.2.1 L) (va_runV (As := []) (rest := [.int (q32 + q37.1)]) ⟨hx, hb, hml, hown, hts⟩ (k_X2_needNow l E a0 L N q37.2 h0 q42 hc_42 _) (cwV 0 hts gX2_goesNow_X2_needNow rfl rfl rfl (by decide +kernel) ⟨(Nat.le_of_ble_eq_true rfl), (Nat.le_of_ble_eq_true rfl)⟩) (pre_v (ci := 2) (q0 := 0) hK hP (hDD q37.2 h0) hS hG hAB rfl rfl) rfl rfl hl.1 rfl (lv_room (Nat.le_of_ble_eq_true rfl)) dX2_goesNow_42 ⟨Nat.zero_le _, Nat.zero_le _⟩) hS (w_free (hDD q37.2 h0) hS hA (fun _ h => h)) (fun H locs hP1 hk hS => ?_)
        have hP := hP1
        refine lv_icmp_lt (tgt := 52) hx hb dX2_goesNow_45 (by decide) (fun c_45 => ?_) (fun c_45 => ?_)
        · have hf := ite_t c_45 hf
          refine lv_iconst (v := 0) hx hb dX2_goesNow_52 (by decide) ?_
          exact hL_53 q37.2 h0 p1 0 hf _ _ _ hP hS (lv_sub hl [0, 1] rfl)
        · have hf := ite_f c_45 hf
          refine lv_iconst (v := 1) hx hb dX2_goesNow_48 (by decide) ?_
          refine lv_goto (tgt := 53) hx hb dX2_goesNow_49 (by decide) ?_
          exact hL_53 q37.2 h0 p1 1 hf _ _ _ hP hS (lv_sub hl [0, 1] rfl)
      · have hf := ite_t c_25 hf
        refine lv_iconst (v := 1) hx hb dX2_goesNow_28 (by decide) ?_
        have e9 := Option.some.inj hf
        exact rt_z hx hb hr rfl hlocks (fst_e e9) (rtP (P := fun z => va_P E.1 vwCl ((wX2 E a0 z.2 h0) ++ sW E.2.1 L) H) e9 hP) hS dX2_goesNow_29
    · have hf := ite_f c_16 hf
      refine lv_iconst (v := 0) hx hb dX2_goesNow_19 (by decide) ?_
      have e9 := Option.some.inj hf
      exact rt_z hx hb hr rfl hlocks (fst_e e9) (rtP (P := fun z => va_P E.1 vwCl ((wX2 E a0 z.2 h0) ++ sW E.2.1 L) H) e9 hP) hS dX2_goesNow_20
abbrev rm_X2_goingBits : Room := { frames := 4, cells := 0, slots := 0, locals := 95 }
theorem m_X2_goingBits_fa62b9 : Cond.fieldLink RX2 32 "PickedMatch$Scene" "things" "I" ∈ wsX2_goingBits := by decide +kernel
theorem i_X2_goingBits_X2 : ∀ w ∈ wsX20, w ∈ wsX2_goingBits := fun _ h => List.mem_cons_of_mem _ (List.mem_append_left _ (List.mem_append_right _ h))
set_option maxHeartbeats 8000000 in
set_option maxRecDepth 100000 in
theorem k_X2_goingBits (l : Launch) (E : Ev) (a0 : Nat → Nat) (L : List SR) (N : Nat) (s0 : St) (h0 : Option SR) (q : (Int32 × St)) (hf : f_X2_goingBits N L s0 h0 = some q) : Ci l yX2_goingBits wsX2_goingBits rm_X2_goingBits E [.ref (a0 0)] ((wX2 E a0 s0 h0) ++ sW E.2.1 L) ((wX2 E a0 q.2 h0) ++ sW E.2.1 L) q.1 := by
  unfold f_X2_goingBits at hf
  intro sz
  refine Met.ofW (cc := cX2_goingBits) (maxL := 3) (ret := (some .int)) (by decide) rfl ?_
  intro p e s m args below meth c s₁ B hml hpre
  obtain ⟨rfl, hsz, hP, hK, hD0, hG, hA, hAB⟩ := start hpre
  have hx := B.exec
  have hb := B.bytes
  have hr := B.returns
  have hts := atoms_spec (ws := wsX2_goingBits) B.pre
  have hown : s.vm.findClass RX2 = some m.cls := findClass_of_methodNamed B.named
  have hlocks := B.notSynchronized
  subst hsz
  generalize va_A ((wX2 E a0 s0 h0) ++ sW E.2.1 L) s.heap.size = A0 at hD0 hA hAB ⊢
  have hDD : ∀ (s0 : St) (h0 : Option SR), va_D A0 ((wX2 E a0 s0 h0) ++ sW E.2.1 L) := fun s0 h0 => vD_addr hD0 rfl
  have hS : va_S A0 s.heap s.heap [] := va_S.rf
  have hl := lv_entry ([.ref (a0 0)]) (n := 3) (Nat.le_of_ble_eq_true rfl)
  rw [lg_entry_eq]
  generalize (lg_sl ([.ref (a0 0)]) ++ List.replicate (3 - (lg_sl ([.ref (a0 0)])).length) Slot.unset).toArray = ls at hl ⊢
  have hl : lv_has ls 3 [(0, .ref (a0 0))] := hl
  have hL_4 : ∀ (h0 : Option SR) (n_4 : Nat) (s0 : St) (v1 : Int32) (v2 : Int32), l_X2_goingBits_4 N L h0 n_4 s0 v1 v2 = some q → ∀ (H : Heap) (locs : List Loc) (ls : Array Slot), va_P E.1 vwCl ((wX2 E a0 s0 h0) ++ sW E.2.1 L) H → va_S A0 s.heap H locs → lv_has ls 3 [(0, .ref (a0 0)), (1, .int v1), (2, .int v2)] → W p l e rm_X2_goingBits s m ([.ref (a0 0)] : List Value).toArray below meth c H locs 0 0 (MQ below (va_Qi (fun (r' : Int32) (_ : Unit) => r' = q.1) (fun _ t => va_P E.1 vwCl ((wX2 E a0 q.2 h0) ++ sW E.2.1 L) t.heap) A0) ([.ref (a0 0)] : List Value).toArray s 0 0 A0) (F0 m 4 ls []) := by
    intro h0 n_4
    induction n_4 with
    | zero => intro s0 v1 v2 hf; rw [l_X2_goingBits_4] at hf; cases hf
    | succ n_4 ih_4 =>
      intro s0 v1 v2 hf H locs ls hP hS hl
      rw [l_X2_goingBits_4] at hf
      refine lv_iload_n hx hb dX2_goingBits_4 rfl (lv_at hl 2 rfl) ?_
      refine lv_aload_n hx hb dX2_goingBits_5 rfl (lv_at hl 0 rfl) ?_
      refine va_get (ci := 2) (C := RX2) (T := TX2) (N := 11) (v := .int (s0 0 0)) hx hb hts i_X2_goingBits_X2 hown hK hP 0 rfl rfl 0 (by decide) (hts _ m_X2_goingBits_fa62b9) (fun _ h9 => h9) rfl dX2_goingBits_6 ?_
      refine lv_icmp_ge (tgt := 32) hx hb dX2_goingBits_9 (by decide) (fun c_9 => ?_) (fun c_9 => ?_)
      · have hf := ite_t c_9 hf
        refine lv_iload_n hx hb dX2_goingBits_32 rfl (lv_at hl 1 rfl) ?_
        have e9 := Option.some.inj hf
        exact rt_i hx hb hr hlocks (fst_e e9) (rtP (P := fun z => va_P E.1 vwCl ((wX2 E a0 z.2 h0) ++ sW E.2.1 L) H) e9 hP) hS dX2_goingBits_33
      · have hf := ite_f c_9 hf
        refine lv_aload_n hx hb dX2_goingBits_12 rfl (lv_at hl 0 rfl) ?_
        refine lv_iload_n hx hb dX2_goingBits_13 rfl (lv_at hl 2 rfl) ?_
        obtain ⟨q14, hc_14, hf⟩ := cl_e hf
        refine fin_i (E := E) (wc := (wX2 E a0 s0 h0) ++ sW E.2.1 L) (wc' := (wX2 E a0 q14.2 h0) ++ sW E.2.1 L) (va_runV (As := [.int v2]) (rest := []) ⟨hx, hb, hml, hown, hts⟩ (k_X2_goesNow l E a0 L N s0 h0 v2 q14 hc_14 _) (cwV 1 hts gX2_goingBits_X2_goesNow rfl rfl rfl (by decide +kernel) ⟨(Nat.le_of_ble_eq_true rfl), (Nat.le_of_ble_eq_true rfl)⟩) (pre_v (ci := 2) (q0 := 0) hK hP (hDD s0 h0) hS hG hAB rfl rfl) rfl rfl hl.1 rfl (lv_room (Nat.le_of_ble_eq_true rfl)) dX2_goingBits_14 ⟨Nat.zero_le _, Nat.zero_le _⟩) hS (w_free (hDD s0 h0) hS hA (fun _ h => h)) (fun H locs hP1 hk hS => ?_)
        have hP := hP1
        refine lv_if_eq (tgt := 26) hx hb dX2_goingBits_17 (by decide) (fun c_17 => ?_) (fun c_17 => ?_)
        · have hf := ite_t c_17 hf
          obtain ⟨x26, e_x26⟩ : ∃ y : Int32, y = v2 + 1 := ⟨_, rfl⟩
          have hf := nm_q e_x26 hf
          refine lv_iinc (v := x26) (lv' := [(2, .int x26), (0, .ref (a0 0)), (1, .int v1)]) hx hb dX2_goingBits_26 hl (k := 2) rfl (by rw [e_x26]; rfl) (Nat.le_of_ble_eq_true rfl) rfl (fun ls hl => ?_)
          refine lv_goto (tgt := 4) hx hb dX2_goingBits_29 (by decide) ?_
          exact ih_4 q14.2 v1 x26 hf _ _ _ hP hS (lv_sub hl [1, 2, 0] rfl)
        · have hf := ite_f c_17 hf
          refine lv_iload_n hx hb dX2_goingBits_20 rfl (lv_at hl 1 rfl) ?_
          refine lv_iconst (v := 1) hx hb dX2_goingBits_21 (by decide) ?_
          refine lv_iload_n hx hb dX2_goingBits_22 rfl (lv_at hl 2 rfl) ?_
          refine lv_ishl hx hb dX2_goingBits_23 ?_
          refine lv_ior hx hb dX2_goingBits_24 ?_
          refine lv_topi (fun x25 e_x25 => ?_)
          have hf := nm_q e_x25 hf
          refine lv_istore_n (lv' := [(1, .int x25), (0, .ref (a0 0)), (2, .int v2)]) hx hb dX2_goingBits_25 rfl hl (Nat.le_of_ble_eq_true rfl) rfl (fun ls hl => ?_)
          obtain ⟨x26, e_x26⟩ : ∃ y : Int32, y = v2 + 1 := ⟨_, rfl⟩
          have hf := nm_q e_x26 hf
          refine lv_iinc (v := x26) (lv' := [(2, .int x26), (1, .int x25), (0, .ref (a0 0))]) hx hb dX2_goingBits_26 hl (k := 2) rfl (by rw [e_x26]; rfl) (Nat.le_of_ble_eq_true rfl) rfl (fun ls hl => ?_)
          refine lv_goto (tgt := 4) hx hb dX2_goingBits_29 (by decide) ?_
          exact ih_4 q14.2 x25 x26 hf _ _ _ hP hS (lv_sub hl [2, 1, 0] rfl)
  refine lv_iconst (v := 0) hx hb dX2_goingBits_0 (by decide) ?_
  refine lv_istore_n (lv' := [(1, .int 0), (0, .ref (a0 0))]) hx hb dX2_goingBits_1 rfl hl (Nat.le_of_ble_eq_true rfl) rfl (fun ls hl => ?_)
  refine lv_iconst (v := 0) hx hb dX2_goingBits_2 (by decide) ?_
  refine lv_istore_n (lv' := [(2, .int 0), (1, .int 0), (0, .ref (a0 0))]) hx hb dX2_goingBits_3 rfl hl (Nat.le_of_ble_eq_true rfl) rfl (fun ls hl => ?_)
  exact hL_4 h0 N s0 0 0 hf _ _ _ hP hS (lv_sub hl [2, 1, 0] rfl)
abbrev rm_X2_dayGoes : Room := { frames := 4, cells := 0, slots := 0, locals := 95 }
theorem m_X2_dayGoes_fa62b9 : Cond.fieldLink RX2 32 "PickedMatch$Scene" "things" "I" ∈ wsX2_dayGoes := by decide +kernel
theorem i_X2_dayGoes_X2 : ∀ w ∈ wsX20, w ∈ wsX2_dayGoes := fun _ h => List.mem_cons_of_mem _ (List.mem_append_left _ (List.mem_append_right _ h))
theorem m_X2_dayGoes_88869a : Cond.fieldLink RX2 48 "PickedMatch$Scene" "day" "I" ∈ wsX2_dayGoes := by decide +kernel
set_option maxHeartbeats 8000000 in
set_option maxRecDepth 100000 in
theorem k_X2_dayGoes (l : Launch) (E : Ev) (a0 : Nat → Nat) (L : List SR) (N : Nat) (s0 : St) (h0 : Option SR) (q : (St)) (hf : f_X2_dayGoes N L s0 h0 = some q) : Cv l yX2_dayGoes wsX2_dayGoes rm_X2_dayGoes E [.ref (a0 0)] ((wX2 E a0 s0 h0) ++ sW E.2.1 L) ((wX2 E a0 q h0) ++ sW E.2.1 L) := by
  unfold f_X2_dayGoes at hf
  intro sz
  refine Met.ofW (cc := cX2_dayGoes) (maxL := 2) (ret := none) (by decide) rfl ?_
  intro p e s m args below meth c s₁ B hml hpre
  obtain ⟨rfl, hsz, hP, hK, hD0, hG, hA, hAB⟩ := start hpre
  have hx := B.exec
  have hb := B.bytes
  have hr := B.returns
  have hts := atoms_spec (ws := wsX2_dayGoes) B.pre
  have hown : s.vm.findClass RX2 = some m.cls := findClass_of_methodNamed B.named
  have hlocks := B.notSynchronized
  subst hsz
  generalize va_A ((wX2 E a0 s0 h0) ++ sW E.2.1 L) s.heap.size = A0 at hD0 hA hAB ⊢
  have hDD : ∀ (s0 : St) (h0 : Option SR), va_D A0 ((wX2 E a0 s0 h0) ++ sW E.2.1 L) := fun s0 h0 => vD_addr hD0 rfl
  have hS : va_S A0 s.heap s.heap [] := va_S.rf
  have hl := lv_entry ([.ref (a0 0)]) (n := 2) (Nat.le_of_ble_eq_true rfl)
  rw [lg_entry_eq]
  generalize (lg_sl ([.ref (a0 0)]) ++ List.replicate (2 - (lg_sl ([.ref (a0 0)])).length) Slot.unset).toArray = ls at hl ⊢
  have hl : lv_has ls 2 [(0, .ref (a0 0))] := hl
  refine lv_aload_n hx hb dX2_dayGoes_0 rfl (lv_at hl 0 rfl) ?_
  refine va_get (ci := 2) (C := RX2) (T := TX2) (N := 11) (v := .int (s0 0 0)) hx hb hts i_X2_dayGoes_X2 hown hK hP 0 rfl rfl 0 (by decide) (hts _ m_X2_dayGoes_fa62b9) (fun _ h9 => h9) rfl dX2_dayGoes_1 ?_
  refine lv_if_le (tgt := 30) hx hb dX2_dayGoes_4 (by decide) (fun c_4 => ?_) (fun c_4 => ?_)
  · have hf := ite_t c_4 hf
    refine lv_aload_n hx hb dX2_dayGoes_30 rfl (lv_at hl 0 rfl) ?_
    refine lv_dup hx hb dX2_dayGoes_31 rfl ?_
    refine va_get (ci := 2) (C := RX2) (T := TX2) (N := 11) (v := .int (s0 8 0)) hx hb hts i_X2_dayGoes_X2 hown hK hP 0 rfl rfl 8 (by decide) (hts _ m_X2_dayGoes_88869a) (fun _ h9 => h9) rfl dX2_dayGoes_32 ?_
    refine lv_iconst (v := 1) hx hb dX2_dayGoes_35 (by decide) ?_
    refine lv_iadd hx hb dX2_dayGoes_36 ?_
    refine va_put (ci := 2) (v := .int ((s0 8 0) + 1)) (ty := .int) (C := RX2) (T := TX2) (N := 11) hx hb hts i_X2_dayGoes_X2 tyX2 tyX2_ok nmX2 hown hK hP (hDD s0 h0) hS 0 rfl rfl 8 (by decide) (hts _ m_X2_dayGoes_88869a) (fun _ h9 => h9) rfl (by decide +kernel) rfl rfl (Nat.le_of_ble_eq_true rfl) dX2_dayGoes_37 (fun H locs hP _ hS => ?_)
    obtain ⟨s0_37, hP, hf⟩ := nm_st' (P := fun z => va_P E.1 vwCl ((wX2 E a0 z h0) ++ sW E.2.1 L) H) hf hP
    have e9 := Option.some.inj hf
    exact rt_v hx hb hr hlocks (rtP (P := fun z => va_P E.1 vwCl ((wX2 E a0 z h0) ++ sW E.2.1 L) H) e9 hP) hS dX2_dayGoes_40
  · have hf := ite_f c_4 hf
    refine lv_aload_n hx hb dX2_dayGoes_7 rfl (lv_at hl 0 rfl) ?_
    refine va_get (ci := 2) (C := RX2) (T := TX2) (N := 11) (v := .int (s0 8 0)) hx hb hts i_X2_dayGoes_X2 hown hK hP 0 rfl rfl 8 (by decide) (hts _ m_X2_dayGoes_88869a) (fun _ h9 => h9) rfl dX2_dayGoes_8 ?_
    refine lv_aload_n hx hb dX2_dayGoes_11 rfl (lv_at hl 0 rfl) ?_
    refine va_get (ci := 2) (C := RX2) (T := TX2) (N := 11) (v := .int (s0 0 0)) hx hb hts i_X2_dayGoes_X2 hown hK hP 0 rfl rfl 0 (by decide) (hts _ m_X2_dayGoes_fa62b9) (fun _ h9 => h9) rfl dX2_dayGoes_12 ?_
    obtain ⟨hz_15, hf⟩ := cz_e hf
    refine lv_irem hx hb dX2_dayGoes_15 hz_15 ?_
    refine lv_topi (fun x16 e_x16 => ?_)
    have hf := nm_q e_x16 hf
    refine lv_istore_n (lv' := [(1, .int x16), (0, .ref (a0 0))]) hx hb dX2_dayGoes_16 rfl hl (Nat.le_of_ble_eq_true rfl) rfl (fun ls hl => ?_)
    refine lv_aload_n hx hb dX2_dayGoes_17 rfl (lv_at hl 1 rfl) ?_
    refine lv_iload_n hx hb dX2_dayGoes_18 rfl (lv_at hl 0 rfl) ?_
    obtain ⟨q19, hc_19, hf⟩ := cl_e hf
    refine fin_i (E := E) (wc := (wX2 E a0 s0 h0) ++ sW E.2.1 L) (wc' := (wX2 E a0 q19.2 h0) ++ sW E.2.1 L) (va_runV (As := [.int x16]) (rest := []) ⟨hx, hb, hml, hown, hts⟩ (k_X2_goesNow l E a0 L N s0 h0 x16 q19 hc_19 _) (cwV 1 hts gX2_dayGoes_X2_goesNow rfl rfl rfl (by decide +kernel) ⟨(Nat.le_of_ble_eq_true rfl), (Nat.le_of_ble_eq_true rfl)⟩) (pre_v (ci := 2) (q0 := 0) hK hP (hDD s0 h0) hS hG hAB rfl rfl) rfl rfl hl.1 rfl (lv_room (Nat.le_of_ble_eq_true rfl)) dX2_dayGoes_19 ⟨Nat.zero_le _, Nat.zero_le _⟩) hS (w_free (hDD s0 h0) hS hA (fun _ h => h)) (fun H locs hP1 hk hS => ?_)
    have hP := hP1
    refine lv_if_eq (tgt := 30) hx hb dX2_dayGoes_22 (by decide) (fun c_22 => ?_) (fun c_22 => ?_)
    · have hf := ite_t c_22 hf
      refine lv_aload_n hx hb dX2_dayGoes_30 rfl (lv_at hl 1 rfl) ?_
      refine lv_dup hx hb dX2_dayGoes_31 rfl ?_
      refine va_get (ci := 2) (C := RX2) (T := TX2) (N := 11) (v := .int (q19.2 8 0)) hx hb hts i_X2_dayGoes_X2 hown hK hP 0 rfl rfl 8 (by decide) (hts _ m_X2_dayGoes_88869a) (fun _ h9 => h9) rfl dX2_dayGoes_32 ?_
      refine lv_iconst (v := 1) hx hb dX2_dayGoes_35 (by decide) ?_
      refine lv_iadd hx hb dX2_dayGoes_36 ?_
      refine va_put (ci := 2) (v := .int ((q19.2 8 0) + 1)) (ty := .int) (C := RX2) (T := TX2) (N := 11) hx hb hts i_X2_dayGoes_X2 tyX2 tyX2_ok nmX2 hown hK hP (hDD q19.2 h0) hS 0 rfl rfl 8 (by decide) (hts _ m_X2_dayGoes_88869a) (fun _ h9 => h9) rfl (by decide +kernel) rfl rfl (Nat.le_of_ble_eq_true rfl) dX2_dayGoes_37 (fun H locs hP _ hS => ?_)
      obtain ⟨s0_37, hP, hf⟩ := nm_st' (P := fun z => va_P E.1 vwCl ((wX2 E a0 z h0) ++ sW E.2.1 L) H) hf hP
      have e9 := Option.some.inj hf
      exact rt_v hx hb hr hlocks (rtP (P := fun z => va_P E.1 vwCl ((wX2 E a0 z h0) ++ sW E.2.1 L) H) e9 hP) hS dX2_dayGoes_40
    · have hf := ite_f c_22 hf
      refine lv_aload_n hx hb dX2_dayGoes_25 rfl (lv_at hl 1 rfl) ?_
      refine lv_iload_n hx hb dX2_dayGoes_26 rfl (lv_at hl 0 rfl) ?_
      obtain ⟨q27, hc_27, hf⟩ := cl_e hf
      refine fin_v (E := E) (wc := (wX2 E a0 q19.2 h0) ++ sW E.2.1 L) (wc' := (wX2 E a0 q27 h0) ++ sW E.2.1 L) (va_runV (As := [.int x16]) (rest := []) ⟨hx, hb, hml, hown, hts⟩ (k_X2_pickUp l E a0 L N q19.2 h0 x16 q27 hc_27 _) (cwV 1 hts gX2_dayGoes_X2_pickUp rfl rfl rfl (by decide +kernel) ⟨(Nat.le_of_ble_eq_true rfl), (Nat.le_of_ble_eq_true rfl)⟩) (pre_v (ci := 2) (q0 := 0) hK hP (hDD q19.2 h0) hS hG hAB rfl rfl) rfl rfl hl.1 rfl (lv_room (Nat.le_of_ble_eq_true rfl)) dX2_dayGoes_27 ⟨Nat.zero_le _, Nat.zero_le _⟩) hS (w_free (hDD q19.2 h0) hS hA (fun _ h => h)) (fun H locs hP1 hk hS => ?_)
      have hP := hP1
      refine lv_aload_n hx hb dX2_dayGoes_30 rfl (lv_at hl 1 rfl) ?_
      refine lv_dup hx hb dX2_dayGoes_31 rfl ?_
      refine va_get (ci := 2) (C := RX2) (T := TX2) (N := 11) (v := .int (q27 8 0)) hx hb hts i_X2_dayGoes_X2 hown hK hP 0 rfl rfl 8 (by decide) (hts _ m_X2_dayGoes_88869a) (fun _ h9 => h9) rfl dX2_dayGoes_32 ?_
      refine lv_iconst (v := 1) hx hb dX2_dayGoes_35 (by decide) ?_
      refine lv_iadd hx hb dX2_dayGoes_36 ?_
      refine va_put (ci := 2) (v := .int ((q27 8 0) + 1)) (ty := .int) (C := RX2) (T := TX2) (N := 11) hx hb hts i_X2_dayGoes_X2 tyX2 tyX2_ok nmX2 hown hK hP (hDD q27 h0) hS 0 rfl rfl 8 (by decide) (hts _ m_X2_dayGoes_88869a) (fun _ h9 => h9) rfl (by decide +kernel) rfl rfl (Nat.le_of_ble_eq_true rfl) dX2_dayGoes_37 (fun H locs hP _ hS => ?_)
      obtain ⟨s0_37, hP, hf⟩ := nm_st' (P := fun z => va_P E.1 vwCl ((wX2 E a0 z h0) ++ sW E.2.1 L) H) hf hP
      have e9 := Option.some.inj hf
      exact rt_v hx hb hr hlocks (rtP (P := fun z => va_P E.1 vwCl ((wX2 E a0 z h0) ++ sW E.2.1 L) H) e9 hP) hS dX2_dayGoes_40
abbrev rm_X2_daysGo : Room := { frames := 5, cells := 0, slots := 0, locals := 116 }
set_option maxHeartbeats 8000000 in
set_option maxRecDepth 100000 in
theorem k_X2_daysGo (l : Launch) (E : Ev) (a0 : Nat → Nat) (L : List SR) (N : Nat) (s0 : St) (h0 : Option SR) (p1 : Int32) (q : (St)) (hf : f_X2_daysGo N L s0 h0 p1 = some q) : Cv l yX2_daysGo wsX2_daysGo rm_X2_daysGo E [.ref (a0 0), .int p1] ((wX2 E a0 s0 h0) ++ sW E.2.1 L) ((wX2 E a0 q h0) ++ sW E.2.1 L) := by
  unfold f_X2_daysGo at hf
  intro sz
  refine Met.ofW (cc := cX2_daysGo) (maxL := 3) (ret := none) (by decide) rfl ?_
  intro p e s m args below meth c s₁ B hml hpre
  obtain ⟨rfl, hsz, hP, hK, hD0, hG, hA, hAB⟩ := start hpre
  have hx := B.exec
  have hb := B.bytes
  have hr := B.returns
  have hts := atoms_spec (ws := wsX2_daysGo) B.pre
  have hown : s.vm.findClass RX2 = some m.cls := findClass_of_methodNamed B.named
  have hlocks := B.notSynchronized
  subst hsz
  generalize va_A ((wX2 E a0 s0 h0) ++ sW E.2.1 L) s.heap.size = A0 at hD0 hA hAB ⊢
  have hDD : ∀ (s0 : St) (h0 : Option SR), va_D A0 ((wX2 E a0 s0 h0) ++ sW E.2.1 L) := fun s0 h0 => vD_addr hD0 rfl
  have hS : va_S A0 s.heap s.heap [] := va_S.rf
  have hl := lv_entry ([.ref (a0 0), .int p1]) (n := 3) (Nat.le_of_ble_eq_true rfl)
  rw [lg_entry_eq]
  generalize (lg_sl ([.ref (a0 0), .int p1]) ++ List.replicate (3 - (lg_sl ([.ref (a0 0), .int p1])).length) Slot.unset).toArray = ls at hl ⊢
  have hl : lv_has ls 3 [(0, .ref (a0 0)), (1, .int p1)] := hl
  have hL_2 : ∀ (h0 : Option SR) (v1 : Int32) (n_2 : Nat) (s0 : St) (v2 : Int32), l_X2_daysGo_2 N L h0 v1 n_2 s0 v2 = some q → ∀ (H : Heap) (locs : List Loc) (ls : Array Slot), va_P E.1 vwCl ((wX2 E a0 s0 h0) ++ sW E.2.1 L) H → va_S A0 s.heap H locs → lv_has ls 3 [(0, .ref (a0 0)), (1, .int v1), (2, .int v2)] → W p l e rm_X2_daysGo s m ([.ref (a0 0), .int p1] : List Value).toArray below meth c H locs 0 0 (MQ below (va_Qv (fun (_ : Unit) => True) (fun _ t => va_P E.1 vwCl ((wX2 E a0 q h0) ++ sW E.2.1 L) t.heap) A0) ([.ref (a0 0), .int p1] : List Value).toArray s 0 0 A0) (F0 m 2 ls []) := by
    intro h0 v1 n_2
    induction n_2 with
    | zero => intro s0 v2 hf; rw [l_X2_daysGo_2] at hf; cases hf
    | succ n_2 ih_2 =>
      intro s0 v2 hf H locs ls hP hS hl
      rw [l_X2_daysGo_2] at hf
      refine lv_iload_n hx hb dX2_daysGo_2 rfl (lv_at hl 2 rfl) ?_
      refine lv_iload_n hx hb dX2_daysGo_3 rfl (lv_at hl 1 rfl) ?_
      refine lv_icmp_ge (tgt := 17) hx hb dX2_daysGo_4 (by decide) (fun c_4 => ?_) (fun c_4 => ?_)
      · have hf := ite_t c_4 hf
        have e9 := Option.some.inj hf
        exact rt_v hx hb hr hlocks (rtP (P := fun z => va_P E.1 vwCl ((wX2 E a0 z h0) ++ sW E.2.1 L) H) e9 hP) hS dX2_daysGo_17
      · have hf := ite_f c_4 hf
        refine lv_aload_n hx hb dX2_daysGo_7 rfl (lv_at hl 0 rfl) ?_
        obtain ⟨q8, hc_8, hf⟩ := cl_e hf
        refine fin_v (E := E) (wc := (wX2 E a0 s0 h0) ++ sW E.2.1 L) (wc' := (wX2 E a0 q8 h0) ++ sW E.2.1 L) (va_runV (As := []) (rest := []) ⟨hx, hb, hml, hown, hts⟩ (k_X2_dayGoes l E a0 L N s0 h0 q8 hc_8 _) (cwV 0 hts gX2_daysGo_X2_dayGoes rfl rfl rfl (by decide +kernel) ⟨(Nat.le_of_ble_eq_true rfl), (Nat.le_of_ble_eq_true rfl)⟩) (pre_v (ci := 2) (q0 := 0) hK hP (hDD s0 h0) hS hG hAB rfl rfl) rfl rfl hl.1 rfl (lv_room (Nat.le_of_ble_eq_true rfl)) dX2_daysGo_8 ⟨Nat.zero_le _, Nat.zero_le _⟩) hS (w_free (hDD s0 h0) hS hA (fun _ h => h)) (fun H locs hP1 hk hS => ?_)
        have hP := hP1
        obtain ⟨x11, e_x11⟩ : ∃ y : Int32, y = v2 + 1 := ⟨_, rfl⟩
        have hf := nm_q e_x11 hf
        refine lv_iinc (v := x11) (lv' := [(2, .int x11), (0, .ref (a0 0)), (1, .int v1)]) hx hb dX2_daysGo_11 hl (k := 2) rfl (by rw [e_x11]; rfl) (Nat.le_of_ble_eq_true rfl) rfl (fun ls hl => ?_)
        refine lv_goto (tgt := 2) hx hb dX2_daysGo_14 (by decide) ?_
        exact ih_2 q8 x11 hf _ _ _ hP hS (lv_sub hl [1, 2, 0] rfl)
  refine lv_iconst (v := 0) hx hb dX2_daysGo_0 (by decide) ?_
  refine lv_istore_n (lv' := [(2, .int 0), (0, .ref (a0 0)), (1, .int p1)]) hx hb dX2_daysGo_1 rfl hl (Nat.le_of_ble_eq_true rfl) rfl (fun ls hl => ?_)
  exact hL_2 h0 p1 N s0 0 hf _ _ _ hP hS (lv_sub hl [1, 2, 0] rfl)
abbrev rm_X3_keepIfLonger : Room := { frames := 1, cells := 0, slots := 0, locals := 60 }
theorem m_X3_keepIfLonger_fc37d7 : Cond.fieldLink RX3 18 "PickedMatch$Search" "bestLength" "I" ∈ wsX3_keepIfLonger := by decide +kernel
theorem i_X3_keepIfLonger_X3 : ∀ w ∈ wsX30, w ∈ wsX3_keepIfLonger := fun _ h => List.mem_cons_of_mem _ (List.mem_append_right _ h)
theorem m_X3_keepIfLonger_3c3e5b : Cond.fieldLink RX3 9 "PickedMatch$Search" "tried" "[I" ∈ wsX3_keepIfLonger := by decide +kernel
theorem m_X3_keepIfLonger_725a65 : Cond.fieldLink RX3 15 "PickedMatch$Search" "best" "[I" ∈ wsX3_keepIfLonger := by decide +kernel
theorem m_X3_keepIfLonger_11445b : Cond.methodLink RX3 58 arraycopyName ∈ wsX3_keepIfLonger := by decide +kernel
theorem m_X3_keepIfLonger_66773d : Cond.native arraycopyName ∈ wsX3_keepIfLonger := by decide +kernel
theorem m_X3_keepIfLonger_30dbde : Cond.static arraycopyName ∈ wsX3_keepIfLonger := by decide +kernel
theorem m_X3_keepIfLonger_3f8a6f : Cond.initialized "java/lang/System" ∈ wsX3_keepIfLonger := by decide +kernel
set_option maxHeartbeats 8000000 in
set_option maxRecDepth 100000 in
theorem k_X3_keepIfLonger (l : Launch) (E : Ev) (a0 : Nat → Nat) (N : Nat) (s0 : St) (p1 : Int32) (q : (St)) (hf : f_X3_keepIfLonger N s0 p1 = some q) : Cv l yX3_keepIfLonger wsX3_keepIfLonger rm_X3_keepIfLonger E [.ref (a0 0), .int p1] (wX3 E a0 s0) (wX3 E a0 q) := by
  unfold f_X3_keepIfLonger at hf
  intro sz
  refine Met.ofW (cc := cX3_keepIfLonger) (maxL := 2) (ret := none) (by decide) rfl ?_
  intro p e s m args below meth c s₁ B hml hv
  obtain ⟨rfl, hsz, hP, hK, hD0, hG, hA, hAB⟩ := start hv
  have hx := B.exec
  have hb := B.bytes
  have hr := B.returns
  have hts := atoms_spec (ws := wsX3_keepIfLonger) B.pre
  have hown : s.vm.findClass RX3 = some m.cls := findClass_of_methodNamed B.named
  have hlocks := B.notSynchronized
  subst hsz
  generalize va_A (wX3 E a0 s0) s.heap.size = A0 at hD0 hA hAB ⊢
  have hDD : ∀ (s0 : St), va_D A0 (wX3 E a0 s0) := fun s0 => vD_addr hD0 rfl
  have hS : va_S A0 s.heap s.heap [] := va_S.rf
  have hl := lv_entry ([.ref (a0 0), .int p1]) (n := 2) (Nat.le_of_ble_eq_true rfl)
  rw [lg_entry_eq]
  generalize (lg_sl ([.ref (a0 0), .int p1]) ++ List.replicate (2 - (lg_sl ([.ref (a0 0), .int p1])).length) Slot.unset).toArray = ls at hl ⊢
  have hl : lv_has ls 2 [(0, .ref (a0 0)), (1, .int p1)] := hl
  refine lv_iload_n hx hb dX3_keepIfLonger_0 rfl (lv_at hl 1 rfl) ?_
  refine lv_aload_n hx hb dX3_keepIfLonger_1 rfl (lv_at hl 0 rfl) ?_
  refine va_get (ci := 3) (C := RX3) (T := TX3) (N := 4) (v := .int (s0 2 0)) hx hb hts i_X3_keepIfLonger_X3 hown hK hP 0 rfl rfl 2 (by decide) (hts _ m_X3_keepIfLonger_fc37d7) (fun _ h9 => h9) rfl dX3_keepIfLonger_2 ?_
  refine lv_icmp_le (tgt := 33) hx hb dX3_keepIfLonger_5 (by decide) (fun c_5 => ?_) (fun c_5 => ?_)
  · have hf := ite_t c_5 hf
    have e9 := Option.some.inj hf
    exact rt_v hx hb hr hlocks (rtP (P := fun z => va_P E.1 vwCl (wX3 E a0 z) s.heap) e9 hP) hS dX3_keepIfLonger_33
  · have hf := ite_f c_5 hf
    refine lv_iload_n hx hb dX3_keepIfLonger_8 rfl (lv_at hl 1 rfl) ?_
    refine lv_bipush (v := 6) hx hb dX3_keepIfLonger_9 (by decide) ?_
    refine lv_icmp_gt (tgt := 33) hx hb dX3_keepIfLonger_11 (by decide) (fun c_11 => ?_) (fun c_11 => ?_)
    · have hf := ite_t c_11 hf
      have e9 := Option.some.inj hf
      exact rt_v hx hb hr hlocks (rtP (P := fun z => va_P E.1 vwCl (wX3 E a0 z) s.heap) e9 hP) hS dX3_keepIfLonger_33
    · have hf := ite_f c_11 hf
      refine lv_aload_n hx hb dX3_keepIfLonger_14 rfl (lv_at hl 0 rfl) ?_
      refine va_get (ci := 3) (C := RX3) (T := TX3) (N := 4) (v := .ref (a0 1)) hx hb hts i_X3_keepIfLonger_X3 hown hK hP 0 rfl rfl 0 (by decide) (hts _ m_X3_keepIfLonger_3c3e5b) (fun _ h9 => h9) rfl dX3_keepIfLonger_15 ?_
      refine lv_iconst (v := 0) hx hb dX3_keepIfLonger_18 (by decide) ?_
      refine lv_aload_n hx hb dX3_keepIfLonger_19 rfl (lv_at hl 0 rfl) ?_
      refine va_get (ci := 3) (C := RX3) (T := TX3) (N := 4) (v := .ref (a0 2)) hx hb hts i_X3_keepIfLonger_X3 hown hK hP 0 rfl rfl 1 (by decide) (hts _ m_X3_keepIfLonger_725a65) (fun _ h9 => h9) rfl dX3_keepIfLonger_20 ?_
      refine lv_iconst (v := 0) hx hb dX3_keepIfLonger_23 (by decide) ?_
      refine lv_iload_n hx hb dX3_keepIfLonger_24 rfl (lv_at hl 1 rfl) ?_
      obtain ⟨⟨k1_25, k2_25, k3_25, k4_25, k5_25⟩, hf⟩ := cpy_e hf
      refine va_copyi (f := s0 0) (g := s0 1) hx hb (by rw [hml]; exact hl.1.symm) hown (hts _ m_X3_keepIfLonger_11445b) (hts _ m_X3_keepIfLonger_66773d) (hts _ m_X3_keepIfLonger_30dbde) (hts _ m_X3_keepIfLonger_3f8a6f) hK hP (hDD s0) hS 1 2 0 0 rfl rfl rfl rfl rfl k1_25 k2_25 k3_25 k4_25 k5_25 (fun _ _ => rfl) (Nat.le_of_ble_eq_true rfl) (Nat.le_of_ble_eq_true rfl) dX3_keepIfLonger_25 (fun H locs hP _ hS => ?_)
      obtain ⟨s0_25, hP, hf⟩ := nm_st' (P := fun z => va_P E.1 vwCl (wX3 E a0 z) H) hf hP
      refine lv_aload_n hx hb dX3_keepIfLonger_28 rfl (lv_at hl 0 rfl) ?_
      refine lv_iload_n hx hb dX3_keepIfLonger_29 rfl (lv_at hl 1 rfl) ?_
      refine va_put (ci := 3) (v := .int p1) (ty := .int) (C := RX3) (T := TX3) (N := 4) hx hb hts i_X3_keepIfLonger_X3 tyX3 tyX3_ok nmX3 hown hK hP (hDD s0_25) hS 0 rfl rfl 2 (by decide) (hts _ m_X3_keepIfLonger_fc37d7) (fun _ h9 => h9) rfl (by decide +kernel) rfl rfl (Nat.le_of_ble_eq_true rfl) dX3_keepIfLonger_30 (fun H locs hP _ hS => ?_)
      obtain ⟨s0_30, hP, hf⟩ := nm_st' (P := fun z => va_P E.1 vwCl (wX3 E a0 z) H) hf hP
      have e9 := Option.some.inj hf
      exact rt_v hx hb hr hlocks (rtP (P := fun z => va_P E.1 vwCl (wX3 E a0 z) H) e9 hP) hS dX3_keepIfLonger_33
def rm_X3_extendRow (D : Nat) : Room := { frames := 1 * D + 5, cells := 0, slots := 0, locals := 30 * D + 135 }
theorem i_X3_extendRow_X2 : ∀ w ∈ wsX20, w ∈ wsX3_extendRow := fun _ h => List.mem_cons_of_mem _ (List.mem_append_left _ (List.mem_append_left _ (List.mem_append_right _ h)))
theorem m_X3_extendRow_fc37d7 : Cond.fieldLink RX3 18 "PickedMatch$Search" "bestLength" "I" ∈ wsX3_extendRow := by decide +kernel
theorem i_X3_extendRow_X3 : ∀ w ∈ wsX30, w ∈ wsX3_extendRow := fun _ h => List.mem_cons_of_mem _ (List.mem_append_left _ (List.mem_append_right _ h))
theorem m_X3_extendRow_4cf9d8 : Cond.initialized RX2 ∈ wsX3_extendRow := by decide +kernel
theorem m_X3_extendRow_e42de2 : Cond.instanceMethod yX2_goesNow ∈ wsX3_extendRow := by decide +kernel
theorem m_X3_extendRow_678d5f : Cond.selects RX2 yX2_goesNow yX2_goesNow ∈ wsX3_extendRow := by decide +kernel
theorem m_X3_extendRow_3c3e5b : Cond.fieldLink RX3 9 "PickedMatch$Search" "tried" "[I" ∈ wsX3_extendRow := by decide +kernel
theorem m_X3_extendRow_090fb6 : Cond.instanceMethod yX2_pickUp ∈ wsX3_extendRow := by decide +kernel
theorem m_X3_extendRow_bf4ad0 : Cond.selects RX2 yX2_pickUp yX2_pickUp ∈ wsX3_extendRow := by decide +kernel
theorem m_X3_extendRow_6978fc : Cond.instanceMethod yX2_layDownNewest ∈ wsX3_extendRow := by decide +kernel
theorem m_X3_extendRow_998862 : Cond.selects RX2 yX2_layDownNewest yX2_layDownNewest ∈ wsX3_extendRow := by decide +kernel
set_option maxHeartbeats 8000000 in
set_option maxRecDepth 100000 in
theorem k_X3_extendRow (l : Launch) (E : Ev) (a0 : Nat → Nat) (a1 : Nat → Nat) (L : List SR) (N : Nat) (D : Nat) (s0 : St) (s1 : St) (h1 : Option SR) (p2 : Int32) (p3 : Int32) (q : (St × St)) (hf : f_X3_extendRow N D L s0 s1 h1 p2 p3 = some q) : Cv l yX3_extendRow wsX3_extendRow (rm_X3_extendRow D) E [.ref (a0 0), .ref (a1 0), .int p2, .int p3] ((wX3 E a0 s0 ++ (wX2 E a1 s1 h1)) ++ sW E.2.1 L) ((wX3 E a0 q.1 ++ (wX2 E a1 q.2 h1)) ++ sW E.2.1 L) := by
  revert E a0 a1 L s0 s1 h1 p2 p3 q hf
  induction D with
  | zero => intro E a0 a1 L s0 s1 h1 p2 p3 q hf; rw [f_X3_extendRow] at hf; cases hf
  | succ D ihD =>
  intro E a0 a1 L s0 s1 h1 p2 p3 q hf
  rw [f_X3_extendRow] at hf
  intro sz
  refine Met.ofW (cc := cX3_extendRow) (maxL := 5) (ret := none) (by decide) rfl ?_
  intro p e s m args below meth c s₁ B hml hpre
  obtain ⟨rfl, hsz, hP, hK, hD0, hG, hA, hAB⟩ := start hpre
  have hx := B.exec
  have hb := B.bytes
  have hr := B.returns
  have hts := atoms_spec (ws := wsX3_extendRow) B.pre
  have hown : s.vm.findClass RX3 = some m.cls := findClass_of_methodNamed B.named
  have hlocks := B.notSynchronized
  subst hsz
  generalize va_A ((wX3 E a0 s0 ++ (wX2 E a1 s1 h1)) ++ sW E.2.1 L) s.heap.size = A0 at hD0 hA hAB ⊢
  have hDD : ∀ (s0 : St) (s1 : St) (h1 : Option SR), va_D A0 ((wX3 E a0 s0 ++ (wX2 E a1 s1 h1)) ++ sW E.2.1 L) := fun s0 s1 h1 => vD_addr hD0 rfl
  have hS : va_S A0 s.heap s.heap [] := va_S.rf
  have hl := lv_entry ([.ref (a0 0), .ref (a1 0), .int p2, .int p3]) (n := 5) (Nat.le_of_ble_eq_true rfl)
  rw [lg_entry_eq]
  generalize (lg_sl ([.ref (a0 0), .ref (a1 0), .int p2, .int p3]) ++ List.replicate (5 - (lg_sl ([.ref (a0 0), .ref (a1 0), .int p2, .int p3])).length) Slot.unset).toArray = ls at hl ⊢
  have hl : lv_has ls 5 [(0, .ref (a0 0)), (1, .ref (a1 0)), (2, .int p2), (3, .int p3)] := hl
  have hL_10 : ∀ (h1 : Option SR) (v2 : Int32) (v3 : Int32) (n_10 : Nat) (s0 : St) (s1 : St) (v4 : Int32), l_X3_extendRow_10 (f_X3_extendRow N D L) N D L h1 v2 v3 n_10 s0 s1 v4 = some q → ∀ (H : Heap) (locs : List Loc) (ls : Array Slot), va_P E.1 vwCl ((wX3 E a0 s0 ++ (wX2 E a1 s1 h1)) ++ sW E.2.1 L) H → va_S A0 s.heap H locs → lv_has ls 5 [(0, .ref (a0 0)), (1, .ref (a1 0)), (2, .int v2), (3, .int v3), (4, .int v4)] → W p l e (rm_X3_extendRow (D + 1)) s m ([.ref (a0 0), .ref (a1 0), .int p2, .int p3] : List Value).toArray below meth c H locs 0 0 (MQ below (va_Qv (fun (_ : Unit) => True) (fun _ t => va_P E.1 vwCl ((wX3 E a0 q.1 ++ (wX2 E a1 q.2 h1)) ++ sW E.2.1 L) t.heap) A0) ([.ref (a0 0), .ref (a1 0), .int p2, .int p3] : List Value).toArray s 0 0 A0) (F0 m 10 ls []) := by
    intro h1 v2 v3 n_10
    induction n_10 with
    | zero => intro s0 s1 v4 hf; rw [l_X3_extendRow_10] at hf; cases hf
    | succ n_10 ih_10 =>
      intro s0 s1 v4 hf H locs ls hP hS hl
      rw [l_X3_extendRow_10] at hf
      refine lv_iload hx hb dX3_extendRow_10 (lv_at hl 4 rfl) ?_
      refine lv_aload_n hx hb dX3_extendRow_12 rfl (lv_at hl 1 rfl) ?_
      refine va_getN (ci := 2) (C := RX2) (T := TX2) (N := 11) (v := .int (s1 0 0)) hx hb hts i_X3_extendRow_X2 hown hK hP 3 rfl rfl 0 (by decide) (nwG hG (w := .fieldLinkNest "PickedMatch$Search" 22 "PickedMatch$Scene" "things" "I" "PickedMatch") (by decide +kernel)) (fun _ h9 => h9) rfl dX3_extendRow_13 ?_
      refine lv_icmp_ge (tgt := 77) hx hb dX3_extendRow_16 (by decide) (fun c_16 => ?_) (fun c_16 => ?_)
      · have hf := ite_t c_16 hf
        have e9 := Option.some.inj hf
        exact rt_v hx hb hr hlocks (rtP (P := fun z => va_P E.1 vwCl ((wX3 E a0 z.1 ++ (wX2 E a1 z.2 h1)) ++ sW E.2.1 L) H) e9 hP) hS dX3_extendRow_77
      · have hf := ite_f c_16 hf
        refine lv_aload_n hx hb dX3_extendRow_19 rfl (lv_at hl 0 rfl) ?_
        refine va_get (ci := 3) (C := RX3) (T := TX3) (N := 4) (v := .int (s0 2 0)) hx hb hts i_X3_extendRow_X3 hown hK hP 0 rfl rfl 2 (by decide) (hts _ m_X3_extendRow_fc37d7) (fun _ h9 => h9) rfl dX3_extendRow_20 ?_
        refine lv_iload_n hx hb dX3_extendRow_23 rfl (lv_at hl 3 rfl) ?_
        refine lv_icmp_ge (tgt := 77) hx hb dX3_extendRow_24 (by decide) (fun c_24 => ?_) (fun c_24 => ?_)
        · have hf := ite_t c_24 hf
          have e9 := Option.some.inj hf
          exact rt_v hx hb hr hlocks (rtP (P := fun z => va_P E.1 vwCl ((wX3 E a0 z.1 ++ (wX2 E a1 z.2 h1)) ++ sW E.2.1 L) H) e9 hP) hS dX3_extendRow_77
        · have hf := ite_f c_24 hf
          refine lv_aload_n hx hb dX3_extendRow_27 rfl (lv_at hl 1 rfl) ?_
          refine lv_iload hx hb dX3_extendRow_28 (lv_at hl 4 rfl) ?_
          obtain ⟨q30, hc_30, hf⟩ := cl_e hf
          have hm_30 : ∀ q ∈ (wX2 E a1 s1 h1) ++ sW E.2.1 L, q ∈ (wX3 E a0 s0 ++ (wX2 E a1 s1 h1)) ++ sW E.2.1 L := (app_mem (sub_mem (suf := []) [3, 4, 5, 6, 7, 8, 9] rfl))
          refine fin_i (E := E) (wc := (wX2 E a1 s1 h1) ++ sW E.2.1 L) (wc' := (wX2 E a1 q30.2 h1) ++ sW E.2.1 L) (va_runVN (As := [.int v4]) (rest := []) ⟨hx, hb, hml, hown, hts⟩ (k_X2_goesNow l E a1 L N s1 h1 v4 q30 hc_30 _) ⟨va_cnB 1 hts gX3_extendRow_X2_goesNow_n44 rfl rfl rfl (hG.1 (.methodLinkNest "PickedMatch$Search" 44 yX2_goesNow "PickedMatch") (by decide +kernel)) (hts _ m_X3_extendRow_4cf9d8) (by decide +kernel) ⟨(by simp only [headSpec, rm_X3_extendRow, rm_X2_goesNow]; omega), (by simp only [headSpec, rm_X3_extendRow, rm_X2_goesNow]; omega)⟩, (hts _ m_X3_extendRow_e42de2), (hts _ m_X3_extendRow_678d5f)⟩ (pre_v (ci := 2) (q0 := 0) hK (sub_P hm_30 hP) (sub_Ds (wc := wX2 E a1 s1 h1) [3, 4, 5, 6, 7, 8, 9] (by decide) rfl (hDD s0 s1 h1)) hS hG hAB rfl rfl) rfl rfl hl.1 rfl (lv_room (Nat.le_of_ble_eq_true rfl)) dX3_extendRow_30 ⟨Nat.zero_le _, Nat.zero_le _⟩) hS (w_free (hDD s0 s1 h1) hS hA hm_30) (fun H locs hP1 hk hS => ?_)
          have hP := w_joins (ws' := wX3 E a0 s0 ++ (wX2 E a1 q30.2 h1)) (wc := wX2 E a1 s1 h1) (wc' := wX2 E a1 q30.2 h1) hP (hDD s0 s1 h1) [3, 4, 5, 6, 7, 8, 9] rfl [none, none, none, some 0, some 1, some 2, some 3, some 4, some 5, some 6] rfl rfl hk hP1
          refine lv_if_eq (tgt := 71) hx hb dX3_extendRow_33 (by decide) (fun c_33 => ?_) (fun c_33 => ?_)
          · have hf := ite_t c_33 hf
            obtain ⟨x71, e_x71⟩ : ∃ y : Int32, y = v4 + 1 := ⟨_, rfl⟩
            have hf := nm_q e_x71 hf
            refine lv_iinc (v := x71) (lv' := [(4, .int x71), (0, .ref (a0 0)), (1, .ref (a1 0)), (2, .int v2), (3, .int v3)]) hx hb dX3_extendRow_71 hl (k := 4) rfl (by rw [e_x71]; rfl) (Nat.le_of_ble_eq_true rfl) rfl (fun ls hl => ?_)
            refine lv_goto (tgt := 10) hx hb dX3_extendRow_74 (by decide) ?_
            exact ih_10 s0 q30.2 x71 hf _ _ _ hP hS (lv_sub hl [1, 2, 3, 4, 0] rfl)
          · have hf := ite_f c_33 hf
            refine lv_aload_n hx hb dX3_extendRow_36 rfl (lv_at hl 0 rfl) ?_
            refine va_get (ci := 3) (C := RX3) (T := TX3) (N := 4) (v := .ref (a0 1)) hx hb hts i_X3_extendRow_X3 hown hK hP 0 rfl rfl 0 (by decide) (hts _ m_X3_extendRow_3c3e5b) (fun _ h9 => h9) rfl dX3_extendRow_37 ?_
            refine lv_iload_n hx hb dX3_extendRow_40 rfl (lv_at hl 2 rfl) ?_
            refine lv_iload hx hb dX3_extendRow_41 (lv_at hl 4 rfl) ?_
            obtain ⟨h_43, hf⟩ := ck_e hf
            refine va_iast (cA := E.2.1) (n := 6) (f := s0 0) (x := v4) hx hb hK hP (hDD s0 q30.2 h1) hS 1 0 rfl rfl h_43 dX3_extendRow_43 (fun H locs hP _ hS => ?_)
            obtain ⟨s0_43, hP, hf⟩ := nm_st' (P := fun z => va_P E.1 vwCl ((wX3 E a0 z ++ (wX2 E a1 q30.2 h1)) ++ sW E.2.1 L) H) hf hP
            refine lv_aload_n hx hb dX3_extendRow_44 rfl (lv_at hl 0 rfl) ?_
            refine lv_iload_n hx hb dX3_extendRow_45 rfl (lv_at hl 2 rfl) ?_
            refine lv_iconst (v := 1) hx hb dX3_extendRow_46 (by decide) ?_
            refine lv_iadd hx hb dX3_extendRow_47 ?_
            obtain ⟨q48, hc_48, hf⟩ := cl_e hf
            have hm_48 : ∀ q ∈ wX3 E a0 s0_43, q ∈ (wX3 E a0 s0_43 ++ (wX2 E a1 q30.2 h1)) ++ sW E.2.1 L := (inl_mem (sub_mem (suf := []) [0, 1, 2] rfl))
            refine fin_v (E := E) (wc := wX3 E a0 s0_43) (wc' := wX3 E a0 q48) (va_runV (As := [.int (v2 + 1)]) (rest := []) ⟨hx, hb, hml, hown, hts⟩ (k_X3_keepIfLonger l E a0 N s0_43 (v2 + 1) q48 hc_48 _) (cwV 1 hts gX3_extendRow_X3_keepIfLonger rfl rfl rfl (by decide +kernel) ⟨(by simp only [headSpec, rm_X3_extendRow, rm_X3_keepIfLonger]; omega), (by simp only [headSpec, rm_X3_extendRow, rm_X3_keepIfLonger]; omega)⟩) (pre_v (ci := 3) (q0 := 0) hK (sub_P hm_48 hP) (sub_Dn (ws := wX3 E a0 s0_43 ++ (wX2 E a1 q30.2 h1)) (wc := wX3 E a0 s0_43) (suf := sW E.2.1 L) [0, 1, 2] (by decide) rfl (hDD s0_43 q30.2 h1)) hS hG hAB rfl rfl) rfl rfl hl.1 rfl (lv_room (Nat.le_of_ble_eq_true rfl)) dX3_extendRow_48 ⟨Nat.zero_le _, Nat.zero_le _⟩) hS (w_free (hDD s0_43 q30.2 h1) hS hA hm_48) (fun H locs hP1 hk hS => ?_)
            have hP := w_join (ws' := wX3 E a0 q48 ++ (wX2 E a1 q30.2 h1)) (wc := wX3 E a0 s0_43) (wc' := wX3 E a0 q48) hP (hDD s0_43 q30.2 h1) [0, 1, 2] rfl [some 0, some 1, some 2, none, none, none, none, none, none, none] rfl rfl hk hP1
            refine lv_aload_n hx hb dX3_extendRow_51 rfl (lv_at hl 1 rfl) ?_
            refine lv_iload hx hb dX3_extendRow_52 (lv_at hl 4 rfl) ?_
            obtain ⟨q54, hc_54, hf⟩ := cl_e hf
            have hm_54 : ∀ q ∈ (wX2 E a1 q30.2 h1) ++ sW E.2.1 L, q ∈ (wX3 E a0 q48 ++ (wX2 E a1 q30.2 h1)) ++ sW E.2.1 L := (app_mem (sub_mem (suf := []) [3, 4, 5, 6, 7, 8, 9] rfl))
            refine fin_v (E := E) (wc := (wX2 E a1 q30.2 h1) ++ sW E.2.1 L) (wc' := (wX2 E a1 q54 h1) ++ sW E.2.1 L) (va_runVN (As := [.int v4]) (rest := []) ⟨hx, hb, hml, hown, hts⟩ (k_X2_pickUp l E a1 L N q30.2 h1 v4 q54 hc_54 _) ⟨va_cnB 1 hts gX3_extendRow_X2_pickUp_n52 rfl rfl rfl (hG.1 (.methodLinkNest "PickedMatch$Search" 52 yX2_pickUp "PickedMatch") (by decide +kernel)) (hts _ m_X3_extendRow_4cf9d8) (by decide +kernel) ⟨(by simp only [headSpec, rm_X3_extendRow, rm_X2_pickUp]; omega), (by simp only [headSpec, rm_X3_extendRow, rm_X2_pickUp]; omega)⟩, (hts _ m_X3_extendRow_090fb6), (hts _ m_X3_extendRow_bf4ad0)⟩ (pre_v (ci := 2) (q0 := 0) hK (sub_P hm_54 hP) (sub_Ds (wc := wX2 E a1 q30.2 h1) [3, 4, 5, 6, 7, 8, 9] (by decide) rfl (hDD q48 q30.2 h1)) hS hG hAB rfl rfl) rfl rfl hl.1 rfl (lv_room (Nat.le_of_ble_eq_true rfl)) dX3_extendRow_54 ⟨Nat.zero_le _, Nat.zero_le _⟩) hS (w_free (hDD q48 q30.2 h1) hS hA hm_54) (fun H locs hP1 hk hS => ?_)
            have hP := w_joins (ws' := wX3 E a0 q48 ++ (wX2 E a1 q54 h1)) (wc := wX2 E a1 q30.2 h1) (wc' := wX2 E a1 q54 h1) hP (hDD q48 q30.2 h1) [3, 4, 5, 6, 7, 8, 9] rfl [none, none, none, some 0, some 1, some 2, some 3, some 4, some 5, some 6] rfl rfl hk hP1
            refine lv_aload_n hx hb dX3_extendRow_57 rfl (lv_at hl 0 rfl) ?_
            refine lv_aload_n hx hb dX3_extendRow_58 rfl (lv_at hl 1 rfl) ?_
            refine lv_iload_n hx hb dX3_extendRow_59 rfl (lv_at hl 2 rfl) ?_
            refine lv_iconst (v := 1) hx hb dX3_extendRow_60 (by decide) ?_
            refine lv_iadd hx hb dX3_extendRow_61 ?_
            refine lv_iload_n hx hb dX3_extendRow_62 rfl (lv_at hl 3 rfl) ?_
            obtain ⟨q63, hc_63, hf⟩ := cl_e hf
            refine fin_v (E := E) (wc := (wX3 E a0 q48 ++ (wX2 E a1 q54 h1)) ++ sW E.2.1 L) (wc' := (wX3 E a0 q63.1 ++ (wX2 E a1 q63.2 h1)) ++ sW E.2.1 L) (va_runV (As := [.ref (a1 0), .int (v2 + 1), .int v3]) (rest := []) ⟨hx, hb, hml, hown, hts⟩ (ihD E a0 a1 L q48 q54 h1 (v2 + 1) v3 q63 hc_63 _) (cwV 3 hts gX3_extendRow_X3_extendRow rfl rfl rfl (by decide +kernel) ⟨(by simp only [headSpec, rm_X3_extendRow, rm_X3_extendRow]; omega), (by simp only [headSpec, rm_X3_extendRow, rm_X3_extendRow]; omega)⟩) (pre_v (ci := 3) (q0 := 0) hK hP (hDD q48 q54 h1) hS hG hAB rfl rfl) rfl rfl hl.1 rfl (lv_room (Nat.le_of_ble_eq_true rfl)) dX3_extendRow_63 ⟨Nat.zero_le _, Nat.zero_le _⟩) hS (w_free (hDD q48 q54 h1) hS hA (fun _ h => h)) (fun H locs hP1 hk hS => ?_)
            have hP := hP1
            refine lv_aload_n hx hb dX3_extendRow_66 rfl (lv_at hl 1 rfl) ?_
            obtain ⟨q67, hc_67, hf⟩ := cl_e hf
            have hm_67 : ∀ q ∈ (wX2 E a1 q63.2 h1) ++ sW E.2.1 L, q ∈ (wX3 E a0 q63.1 ++ (wX2 E a1 q63.2 h1)) ++ sW E.2.1 L := (app_mem (sub_mem (suf := []) [3, 4, 5, 6, 7, 8, 9] rfl))
            refine fin_i (E := E) (wc := (wX2 E a1 q63.2 h1) ++ sW E.2.1 L) (wc' := (wX2 E a1 q67.2 h1) ++ sW E.2.1 L) (va_runVN (As := []) (rest := []) ⟨hx, hb, hml, hown, hts⟩ (k_X2_layDownNewest l E a1 L N q63.2 h1 q67 hc_67 _) ⟨va_cnB 0 hts gX3_extendRow_X2_layDownNewest_n55 rfl rfl rfl (hG.1 (.methodLinkNest "PickedMatch$Search" 55 yX2_layDownNewest "PickedMatch") (by decide +kernel)) (hts _ m_X3_extendRow_4cf9d8) (by decide +kernel) ⟨(by simp only [headSpec, rm_X3_extendRow, rm_X2_layDownNewest]; omega), (by simp only [headSpec, rm_X3_extendRow, rm_X2_layDownNewest]; omega)⟩, (hts _ m_X3_extendRow_6978fc), (hts _ m_X3_extendRow_998862)⟩ (pre_v (ci := 2) (q0 := 0) hK (sub_P hm_67 hP) (sub_Ds (wc := wX2 E a1 q63.2 h1) [3, 4, 5, 6, 7, 8, 9] (by decide) rfl (hDD q63.1 q63.2 h1)) hS hG hAB rfl rfl) rfl rfl hl.1 rfl (lv_room (Nat.le_of_ble_eq_true rfl)) dX3_extendRow_67 ⟨Nat.zero_le _, Nat.zero_le _⟩) hS (w_free (hDD q63.1 q63.2 h1) hS hA hm_67) (fun H locs hP1 hk hS => ?_)
            have hP := w_joins (ws' := wX3 E a0 q63.1 ++ (wX2 E a1 q67.2 h1)) (wc := wX2 E a1 q63.2 h1) (wc' := wX2 E a1 q67.2 h1) hP (hDD q63.1 q63.2 h1) [3, 4, 5, 6, 7, 8, 9] rfl [none, none, none, some 0, some 1, some 2, some 3, some 4, some 5, some 6] rfl rfl hk hP1
            refine lv_pop hx hb dX3_extendRow_70 rfl ?_
            obtain ⟨x71, e_x71⟩ : ∃ y : Int32, y = v4 + 1 := ⟨_, rfl⟩
            have hf := nm_q e_x71 hf
            refine lv_iinc (v := x71) (lv' := [(4, .int x71), (0, .ref (a0 0)), (1, .ref (a1 0)), (2, .int v2), (3, .int v3)]) hx hb dX3_extendRow_71 hl (k := 4) rfl (by rw [e_x71]; rfl) (Nat.le_of_ble_eq_true rfl) rfl (fun ls hl => ?_)
            refine lv_goto (tgt := 10) hx hb dX3_extendRow_74 (by decide) ?_
            exact ih_10 q63.1 q67.2 x71 hf _ _ _ hP hS (lv_sub hl [1, 2, 3, 4, 0] rfl)
  refine lv_iload_n hx hb dX3_extendRow_0 rfl (lv_at hl 2 rfl) ?_
  refine lv_bipush (v := 6) hx hb dX3_extendRow_1 (by decide) ?_
  refine lv_icmp_lt (tgt := 7) hx hb dX3_extendRow_3 (by decide) (fun c_3 => ?_) (fun c_3 => ?_)
  · have hf := ite_t c_3 hf
    refine lv_iconst (v := 0) hx hb dX3_extendRow_7 (by decide) ?_
    refine lv_istore (lv' := [(4, .int 0), (0, .ref (a0 0)), (1, .ref (a1 0)), (2, .int p2), (3, .int p3)]) hx hb dX3_extendRow_8 hl (Nat.le_of_ble_eq_true rfl) rfl (fun ls hl => ?_)
    exact hL_10 h1 p2 p3 N s0 s1 0 hf _ _ _ hP hS (lv_sub hl [1, 2, 3, 4, 0] rfl)
  · have hf := ite_f c_3 hf
    have e9 := Option.some.inj hf
    exact rt_v hx hb hr hlocks (rtP (P := fun z => va_P E.1 vwCl ((wX3 E a0 z.1 ++ (wX2 E a1 z.2 h1)) ++ sW E.2.1 L) s.heap) e9 hP) hS dX3_extendRow_6
abbrev rm_X3_longestRow : Room := { frames := 14, cells := 0, slots := 0, locals := 399 }
theorem m_X3_longestRow_fc37d7 : Cond.fieldLink RX3 18 "PickedMatch$Search" "bestLength" "I" ∈ wsX3_longestRow := by decide +kernel
theorem i_X3_longestRow_X3 : ∀ w ∈ wsX30, w ∈ wsX3_longestRow := fun _ h => List.mem_cons_of_mem _ (List.mem_append_left _ (List.mem_append_left _ (List.mem_append_right _ h)))
theorem i_X3_longestRow_X2 : ∀ w ∈ wsX20, w ∈ wsX3_longestRow := fun _ h => List.mem_cons_of_mem _ (List.mem_append_left _ (List.mem_append_right _ h))
theorem m_X3_longestRow_4cf9d8 : Cond.initialized RX2 ∈ wsX3_longestRow := by decide +kernel
theorem m_X3_longestRow_6b9562 : Cond.instanceMethod yX2_holdNow ∈ wsX3_longestRow := by decide +kernel
theorem m_X3_longestRow_b35831 : Cond.selects RX2 yX2_holdNow yX2_holdNow ∈ wsX3_longestRow := by decide +kernel
theorem m_X3_longestRow_7f8b4c : Cond.methodLink RX3 31 Lib.Math.min.name ∈ wsX3_longestRow := by decide +kernel
theorem m_X3_longestRow_1a05fe : Cond.static Lib.Math.min.name ∈ wsX3_longestRow := by decide +kernel
theorem m_X3_longestRow_0001fc : Cond.initialized "java/lang/Math" ∈ wsX3_longestRow := by decide +kernel
theorem m_X3_longestRow_5e99ca : Cond.code Lib.Math.min.name Lib.Math.min.code 2 (some .int) ∈ wsX3_longestRow := by decide +kernel
set_option maxHeartbeats 8000000 in
set_option maxRecDepth 100000 in
theorem k_X3_longestRow (l : Launch) (E : Ev) (a0 : Nat → Nat) (a1 : Nat → Nat) (L : List SR) (N : Nat) (s0 : St) (s1 : St) (h1 : Option SR) (q : (Int32 × St × St)) (hf : f_X3_longestRow N L s0 s1 h1 = some q) : Ci l yX3_longestRow wsX3_longestRow rm_X3_longestRow E [.ref (a0 0), .ref (a1 0)] ((wX3 E a0 s0 ++ (wX2 E a1 s1 h1)) ++ sW E.2.1 L) ((wX3 E a0 q.2.1 ++ (wX2 E a1 q.2.2 h1)) ++ sW E.2.1 L) q.1 := by
  unfold f_X3_longestRow at hf
  intro sz
  refine Met.ofW (cc := cX3_longestRow) (maxL := 3) (ret := (some .int)) (by decide) rfl ?_
  intro p e s m args below meth c s₁ B hml hpre
  obtain ⟨rfl, hsz, hP, hK, hD0, hG, hA, hAB⟩ := start hpre
  have hx := B.exec
  have hb := B.bytes
  have hr := B.returns
  have hts := atoms_spec (ws := wsX3_longestRow) B.pre
  have hown : s.vm.findClass RX3 = some m.cls := findClass_of_methodNamed B.named
  have hlocks := B.notSynchronized
  subst hsz
  generalize va_A ((wX3 E a0 s0 ++ (wX2 E a1 s1 h1)) ++ sW E.2.1 L) s.heap.size = A0 at hD0 hA hAB ⊢
  have hDD : ∀ (s0 : St) (s1 : St) (h1 : Option SR), va_D A0 ((wX3 E a0 s0 ++ (wX2 E a1 s1 h1)) ++ sW E.2.1 L) := fun s0 s1 h1 => vD_addr hD0 rfl
  have hS : va_S A0 s.heap s.heap [] := va_S.rf
  have hl := lv_entry ([.ref (a0 0), .ref (a1 0)]) (n := 3) (Nat.le_of_ble_eq_true rfl)
  rw [lg_entry_eq]
  generalize (lg_sl ([.ref (a0 0), .ref (a1 0)]) ++ List.replicate (3 - (lg_sl ([.ref (a0 0), .ref (a1 0)])).length) Slot.unset).toArray = ls at hl ⊢
  have hl : lv_has ls 3 [(0, .ref (a0 0)), (1, .ref (a1 0))] := hl
  refine lv_aload_n hx hb dX3_longestRow_0 rfl (lv_at hl 0 rfl) ?_
  refine lv_iconst (v := 0) hx hb dX3_longestRow_1 (by decide) ?_
  refine va_put (ci := 3) (v := .int 0) (ty := .int) (C := RX3) (T := TX3) (N := 4) hx hb hts i_X3_longestRow_X3 tyX3 tyX3_ok nmX3 hown hK hP (hDD s0 s1 h1) hS 0 rfl rfl 2 (by decide) (hts _ m_X3_longestRow_fc37d7) (fun _ h9 => h9) rfl (by decide +kernel) rfl rfl (Nat.le_of_ble_eq_true rfl) dX3_longestRow_2 (fun H locs hP _ hS => ?_)
  obtain ⟨s0_2, hP, hf⟩ := nm_st' (P := fun z => va_P E.1 vwCl ((wX3 E a0 z ++ (wX2 E a1 s1 h1)) ++ sW E.2.1 L) H) hf hP
  refine lv_aload_n hx hb dX3_longestRow_5 rfl (lv_at hl 1 rfl) ?_
  refine va_getN (ci := 2) (C := RX2) (T := TX2) (N := 11) (v := .int (s1 0 0)) hx hb hts i_X3_longestRow_X2 hown hK hP 3 rfl rfl 0 (by decide) (nwG hG (w := .fieldLinkNest "PickedMatch$Search" 22 "PickedMatch$Scene" "things" "I" "PickedMatch") (by decide +kernel)) (fun _ h9 => h9) rfl dX3_longestRow_6 ?_
  refine lv_aload_n hx hb dX3_longestRow_9 rfl (lv_at hl 1 rfl) ?_
  obtain ⟨q10, hc_10, hf⟩ := cl_e hf
  have hm_10 : ∀ q ∈ (wX2 E a1 s1 h1) ++ sW E.2.1 L, q ∈ (wX3 E a0 s0_2 ++ (wX2 E a1 s1 h1)) ++ sW E.2.1 L := (app_mem (sub_mem (suf := []) [3, 4, 5, 6, 7, 8, 9] rfl))
  refine fin_i (E := E) (wc := (wX2 E a1 s1 h1) ++ sW E.2.1 L) (wc' := (wX2 E a1 s1 h1) ++ sW E.2.1 L) (va_runVN (As := []) (rest := [.int (s1 0 0)]) ⟨hx, hb, hml, hown, hts⟩ (k_X2_holdNow l E a1 L N s1 h1 q10 hc_10 _) ⟨va_cnB 0 hts gX3_longestRow_X2_holdNow_n27 rfl rfl rfl (hG.1 (.methodLinkNest "PickedMatch$Search" 27 yX2_holdNow "PickedMatch") (by decide +kernel)) (hts _ m_X3_longestRow_4cf9d8) (by decide +kernel) ⟨(Nat.le_of_ble_eq_true rfl), (Nat.le_of_ble_eq_true rfl)⟩, (hts _ m_X3_longestRow_6b9562), (hts _ m_X3_longestRow_b35831)⟩ (pre_v (ci := 2) (q0 := 0) hK (sub_P hm_10 hP) (sub_Ds (wc := wX2 E a1 s1 h1) [3, 4, 5, 6, 7, 8, 9] (by decide) rfl (hDD s0_2 s1 h1)) hS hG hAB rfl rfl) rfl rfl hl.1 rfl (lv_room (Nat.le_of_ble_eq_true rfl)) dX3_longestRow_10 ⟨Nat.zero_le _, Nat.zero_le _⟩) hS (w_free (hDD s0_2 s1 h1) hS hA hm_10) (fun H locs hP1 hk hS => ?_)
  have hP := w_joins (ws' := wX3 E a0 s0_2 ++ (wX2 E a1 s1 h1)) (wc := wX2 E a1 s1 h1) (wc' := wX2 E a1 s1 h1) hP (hDD s0_2 s1 h1) [3, 4, 5, 6, 7, 8, 9] rfl [none, none, none, some 0, some 1, some 2, some 3, some 4, some 5, some 6] rfl rfl hk hP1
  refine va_mmin hx hb (by rw [hml]; exact hl.1.symm) hown (hts _ m_X3_longestRow_7f8b4c) (hts _ m_X3_longestRow_1a05fe) (hts _ m_X3_longestRow_0001fc) (hts _ m_X3_longestRow_5e99ca) (Nat.le_of_ble_eq_true rfl) (Nat.le_of_ble_eq_true rfl) (Nat.zero_le _) (Nat.zero_le _) dX3_longestRow_13 ?_
  refine lv_aload_n hx hb dX3_longestRow_16 rfl (lv_at hl 1 rfl) ?_
  refine va_getN (ci := 2) (C := RX2) (T := TX2) (N := 11) (v := .int (s1 6 0)) hx hb hts i_X3_longestRow_X2 hown hK hP 3 rfl rfl 6 (by decide) (nwG hG (w := .fieldLinkNest "PickedMatch$Search" 37 "PickedMatch$Scene" "hadCount" "I" "PickedMatch") (by decide +kernel)) (fun _ h9 => h9) rfl dX3_longestRow_17 ?_
  refine lv_isub hx hb dX3_longestRow_20 ?_
  refine lv_topi (fun x21 e_x21 => ?_)
  have hf := nm_q e_x21 hf
  refine lv_istore_n (lv' := [(2, .int x21), (0, .ref (a0 0)), (1, .ref (a1 0))]) hx hb dX3_longestRow_21 rfl hl (Nat.le_of_ble_eq_true rfl) rfl (fun ls hl => ?_)
  refine lv_aload_n hx hb dX3_longestRow_22 rfl (lv_at hl 1 rfl) ?_
  refine lv_aload_n hx hb dX3_longestRow_23 rfl (lv_at hl 2 rfl) ?_
  refine lv_iconst (v := 0) hx hb dX3_longestRow_24 (by decide) ?_
  refine lv_iload_n hx hb dX3_longestRow_25 rfl (lv_at hl 0 rfl) ?_
  obtain ⟨q26, hc_26, hf⟩ := cl_e hf
  refine fin_v (E := E) (wc := (wX3 E a0 s0_2 ++ (wX2 E a1 s1 h1)) ++ sW E.2.1 L) (wc' := (wX3 E a0 q26.1 ++ (wX2 E a1 q26.2 h1)) ++ sW E.2.1 L) (va_runV (As := [.ref (a1 0), .int 0, .int x21]) (rest := []) ⟨hx, hb, hml, hown, hts⟩ (k_X3_extendRow l E a0 a1 L N 8 s0_2 s1 h1 0 x21 q26 hc_26 _) (cwV 3 hts gX3_longestRow_X3_extendRow rfl rfl rfl (by decide +kernel) ⟨(Nat.le_of_ble_eq_true rfl), (Nat.le_of_ble_eq_true rfl)⟩) (pre_v (ci := 3) (q0 := 0) hK hP (hDD s0_2 s1 h1) hS hG hAB rfl rfl) rfl rfl hl.1 rfl (lv_room (Nat.le_of_ble_eq_true rfl)) dX3_longestRow_26 ⟨Nat.zero_le _, Nat.zero_le _⟩) hS (w_free (hDD s0_2 s1 h1) hS hA (fun _ h => h)) (fun H locs hP1 hk hS => ?_)
  have hP := hP1
  refine lv_aload_n hx hb dX3_longestRow_29 rfl (lv_at hl 1 rfl) ?_
  refine va_get (ci := 3) (C := RX3) (T := TX3) (N := 4) (v := .int (q26.1 2 0)) hx hb hts i_X3_longestRow_X3 hown hK hP 0 rfl rfl 2 (by decide) (hts _ m_X3_longestRow_fc37d7) (fun _ h9 => h9) rfl dX3_longestRow_30 ?_
  have e9 := Option.some.inj hf
  exact rt_i hx hb hr hlocks (fst_e e9) (rtP (P := fun z => va_P E.1 vwCl ((wX3 E a0 z.2.1 ++ (wX2 E a1 z.2.2 h1)) ++ sW E.2.1 L) H) e9 hP) hS dX3_longestRow_33
def rm_X3_seekTarget (D : Nat) : Room := { frames := 1 * D + 5, cells := 0, slots := 0, locals := 30 * D + 135 }
theorem i_X3_seekTarget_X2 : ∀ w ∈ wsX20, w ∈ wsX3_seekTarget := fun _ h => List.mem_cons_of_mem _ (List.mem_append_left _ (List.mem_append_right _ h))
theorem m_X3_seekTarget_4cf9d8 : Cond.initialized RX2 ∈ wsX3_seekTarget := by decide +kernel
theorem m_X3_seekTarget_e42de2 : Cond.instanceMethod yX2_goesNow ∈ wsX3_seekTarget := by decide +kernel
theorem m_X3_seekTarget_678d5f : Cond.selects RX2 yX2_goesNow yX2_goesNow ∈ wsX3_seekTarget := by decide +kernel
theorem m_X3_seekTarget_090fb6 : Cond.instanceMethod yX2_pickUp ∈ wsX3_seekTarget := by decide +kernel
theorem m_X3_seekTarget_bf4ad0 : Cond.selects RX2 yX2_pickUp yX2_pickUp ∈ wsX3_seekTarget := by decide +kernel
theorem m_X3_seekTarget_6978fc : Cond.instanceMethod yX2_layDownNewest ∈ wsX3_seekTarget := by decide +kernel
theorem m_X3_seekTarget_998862 : Cond.selects RX2 yX2_layDownNewest yX2_layDownNewest ∈ wsX3_seekTarget := by decide +kernel
theorem m_X3_seekTarget_bc1611 : Cond.fieldLink RX3 64 "PickedMatch$Search" "fewest" "I" ∈ wsX3_seekTarget := by decide +kernel
theorem i_X3_seekTarget_X3 : ∀ w ∈ wsX30, w ∈ wsX3_seekTarget := fun _ h => List.mem_cons_of_mem _ (List.mem_append_left _ (List.mem_append_left _ (List.mem_append_right _ h)))
set_option maxHeartbeats 8000000 in
set_option maxRecDepth 100000 in
theorem k_X3_seekTarget (l : Launch) (E : Ev) (a0 : Nat → Nat) (a1 : Nat → Nat) (L : List SR) (N : Nat) (D : Nat) (s0 : St) (s1 : St) (h1 : Option SR) (p2 : Int32) (p3 : Int32) (q : (St × St)) (hf : f_X3_seekTarget N D L s0 s1 h1 p2 p3 = some q) : Cv l yX3_seekTarget wsX3_seekTarget (rm_X3_seekTarget D) E [.ref (a0 0), .ref (a1 0), .int p2, .int p3] ((wX3 E a0 s0 ++ (wX2 E a1 s1 h1)) ++ sW E.2.1 L) ((wX3 E a0 q.1 ++ (wX2 E a1 q.2 h1)) ++ sW E.2.1 L) := by
  revert E a0 a1 L s0 s1 h1 p2 p3 q hf
  induction D with
  | zero => intro E a0 a1 L s0 s1 h1 p2 p3 q hf; rw [f_X3_seekTarget] at hf; cases hf
  | succ D ihD =>
  intro E a0 a1 L s0 s1 h1 p2 p3 q hf
  rw [f_X3_seekTarget] at hf
  intro sz
  refine Met.ofW (cc := cX3_seekTarget) (maxL := 5) (ret := none) (by decide) rfl ?_
  intro p e s m args below meth c s₁ B hml hpre
  obtain ⟨rfl, hsz, hP, hK, hD0, hG, hA, hAB⟩ := start hpre
  have hx := B.exec
  have hb := B.bytes
  have hr := B.returns
  have hts := atoms_spec (ws := wsX3_seekTarget) B.pre
  have hown : s.vm.findClass RX3 = some m.cls := findClass_of_methodNamed B.named
  have hlocks := B.notSynchronized
  subst hsz
  generalize va_A ((wX3 E a0 s0 ++ (wX2 E a1 s1 h1)) ++ sW E.2.1 L) s.heap.size = A0 at hD0 hA hAB ⊢
  have hDD : ∀ (s0 : St) (s1 : St) (h1 : Option SR), va_D A0 ((wX3 E a0 s0 ++ (wX2 E a1 s1 h1)) ++ sW E.2.1 L) := fun s0 s1 h1 => vD_addr hD0 rfl
  have hS : va_S A0 s.heap s.heap [] := va_S.rf
  have hl := lv_entry ([.ref (a0 0), .ref (a1 0), .int p2, .int p3]) (n := 5) (Nat.le_of_ble_eq_true rfl)
  rw [lg_entry_eq]
  generalize (lg_sl ([.ref (a0 0), .ref (a1 0), .int p2, .int p3]) ++ List.replicate (5 - (lg_sl ([.ref (a0 0), .ref (a1 0), .int p2, .int p3])).length) Slot.unset).toArray = ls at hl ⊢
  have hl : lv_has ls 5 [(0, .ref (a0 0)), (1, .ref (a1 0)), (2, .int p2), (3, .int p3)] := hl
  have hL_26 : ∀ (h1 : Option SR) (v2 : Int32) (v3 : Int32) (n_26 : Nat) (s0 : St) (s1 : St) (v4 : Int32), l_X3_seekTarget_26 (f_X3_seekTarget N D L) N D L h1 v2 v3 n_26 s0 s1 v4 = some q → ∀ (H : Heap) (locs : List Loc) (ls : Array Slot), va_P E.1 vwCl ((wX3 E a0 s0 ++ (wX2 E a1 s1 h1)) ++ sW E.2.1 L) H → va_S A0 s.heap H locs → lv_has ls 5 [(0, .ref (a0 0)), (1, .ref (a1 0)), (2, .int v2), (3, .int v3), (4, .int v4)] → W p l e (rm_X3_seekTarget (D + 1)) s m ([.ref (a0 0), .ref (a1 0), .int p2, .int p3] : List Value).toArray below meth c H locs 0 0 (MQ below (va_Qv (fun (_ : Unit) => True) (fun _ t => va_P E.1 vwCl ((wX3 E a0 q.1 ++ (wX2 E a1 q.2 h1)) ++ sW E.2.1 L) t.heap) A0) ([.ref (a0 0), .ref (a1 0), .int p2, .int p3] : List Value).toArray s 0 0 A0) (F0 m 26 ls []) := by
    intro h1 v2 v3 n_26
    induction n_26 with
    | zero => intro s0 s1 v4 hf; rw [l_X3_seekTarget_26] at hf; cases hf
    | succ n_26 ih_26 =>
      intro s0 s1 v4 hf H locs ls hP hS hl
      rw [l_X3_seekTarget_26] at hf
      refine lv_iload hx hb dX3_seekTarget_26 (lv_at hl 4 rfl) ?_
      refine lv_aload_n hx hb dX3_seekTarget_28 rfl (lv_at hl 1 rfl) ?_
      refine va_getN (ci := 2) (C := RX2) (T := TX2) (N := 11) (v := .int (s1 0 0)) hx hb hts i_X3_seekTarget_X2 hown hK hP 3 rfl rfl 0 (by decide) (nwG hG (w := .fieldLinkNest "PickedMatch$Search" 22 "PickedMatch$Scene" "things" "I" "PickedMatch") (by decide +kernel)) (fun _ h9 => h9) rfl dX3_seekTarget_29 ?_
      refine lv_icmp_ge (tgt := 76) hx hb dX3_seekTarget_32 (by decide) (fun c_32 => ?_) (fun c_32 => ?_)
      · have hf := ite_t c_32 hf
        have e9 := Option.some.inj hf
        exact rt_v hx hb hr hlocks (rtP (P := fun z => va_P E.1 vwCl ((wX3 E a0 z.1 ++ (wX2 E a1 z.2 h1)) ++ sW E.2.1 L) H) e9 hP) hS dX3_seekTarget_76
      · have hf := ite_f c_32 hf
        refine lv_iload hx hb dX3_seekTarget_35 (lv_at hl 4 rfl) ?_
        refine lv_iload_n hx hb dX3_seekTarget_37 rfl (lv_at hl 2 rfl) ?_
        refine lv_icmp_eq (tgt := 70) hx hb dX3_seekTarget_38 (by decide) (fun c_38 => ?_) (fun c_38 => ?_)
        · have hf := ite_t c_38 hf
          obtain ⟨x70, e_x70⟩ : ∃ y : Int32, y = v4 + 1 := ⟨_, rfl⟩
          have hf := nm_q e_x70 hf
          refine lv_iinc (v := x70) (lv' := [(4, .int x70), (0, .ref (a0 0)), (1, .ref (a1 0)), (2, .int v2), (3, .int v3)]) hx hb dX3_seekTarget_70 hl (k := 4) rfl (by rw [e_x70]; rfl) (Nat.le_of_ble_eq_true rfl) rfl (fun ls hl => ?_)
          refine lv_goto (tgt := 26) hx hb dX3_seekTarget_73 (by decide) ?_
          exact ih_26 s0 s1 x70 hf _ _ _ hP hS (lv_sub hl [1, 2, 3, 4, 0] rfl)
        · have hf := ite_f c_38 hf
          refine lv_aload_n hx hb dX3_seekTarget_41 rfl (lv_at hl 1 rfl) ?_
          refine lv_iload hx hb dX3_seekTarget_42 (lv_at hl 4 rfl) ?_
          obtain ⟨q44, hc_44, hf⟩ := cl_e hf
          have hm_44 : ∀ q ∈ (wX2 E a1 s1 h1) ++ sW E.2.1 L, q ∈ (wX3 E a0 s0 ++ (wX2 E a1 s1 h1)) ++ sW E.2.1 L := (app_mem (sub_mem (suf := []) [3, 4, 5, 6, 7, 8, 9] rfl))
          refine fin_i (E := E) (wc := (wX2 E a1 s1 h1) ++ sW E.2.1 L) (wc' := (wX2 E a1 q44.2 h1) ++ sW E.2.1 L) (va_runVN (As := [.int v4]) (rest := []) ⟨hx, hb, hml, hown, hts⟩ (k_X2_goesNow l E a1 L N s1 h1 v4 q44 hc_44 _) ⟨va_cnB 1 hts gX3_seekTarget_X2_goesNow_n44 rfl rfl rfl (hG.1 (.methodLinkNest "PickedMatch$Search" 44 yX2_goesNow "PickedMatch") (by decide +kernel)) (hts _ m_X3_seekTarget_4cf9d8) (by decide +kernel) ⟨(by simp only [headSpec, rm_X3_seekTarget, rm_X2_goesNow]; omega), (by simp only [headSpec, rm_X3_seekTarget, rm_X2_goesNow]; omega)⟩, (hts _ m_X3_seekTarget_e42de2), (hts _ m_X3_seekTarget_678d5f)⟩ (pre_v (ci := 2) (q0 := 0) hK (sub_P hm_44 hP) (sub_Ds (wc := wX2 E a1 s1 h1) [3, 4, 5, 6, 7, 8, 9] (by decide) rfl (hDD s0 s1 h1)) hS hG hAB rfl rfl) rfl rfl hl.1 rfl (lv_room (Nat.le_of_ble_eq_true rfl)) dX3_seekTarget_44 ⟨Nat.zero_le _, Nat.zero_le _⟩) hS (w_free (hDD s0 s1 h1) hS hA hm_44) (fun H locs hP1 hk hS => ?_)
          have hP := w_joins (ws' := wX3 E a0 s0 ++ (wX2 E a1 q44.2 h1)) (wc := wX2 E a1 s1 h1) (wc' := wX2 E a1 q44.2 h1) hP (hDD s0 s1 h1) [3, 4, 5, 6, 7, 8, 9] rfl [none, none, none, some 0, some 1, some 2, some 3, some 4, some 5, some 6] rfl rfl hk hP1
          refine lv_if_eq (tgt := 70) hx hb dX3_seekTarget_47 (by decide) (fun c_47 => ?_) (fun c_47 => ?_)
          · have hf := ite_t c_47 hf
            obtain ⟨x70, e_x70⟩ : ∃ y : Int32, y = v4 + 1 := ⟨_, rfl⟩
            have hf := nm_q e_x70 hf
            refine lv_iinc (v := x70) (lv' := [(4, .int x70), (0, .ref (a0 0)), (1, .ref (a1 0)), (2, .int v2), (3, .int v3)]) hx hb dX3_seekTarget_70 hl (k := 4) rfl (by rw [e_x70]; rfl) (Nat.le_of_ble_eq_true rfl) rfl (fun ls hl => ?_)
            refine lv_goto (tgt := 26) hx hb dX3_seekTarget_73 (by decide) ?_
            exact ih_26 s0 q44.2 x70 hf _ _ _ hP hS (lv_sub hl [1, 2, 3, 4, 0] rfl)
          · have hf := ite_f c_47 hf
            refine lv_aload_n hx hb dX3_seekTarget_50 rfl (lv_at hl 1 rfl) ?_
            refine lv_iload hx hb dX3_seekTarget_51 (lv_at hl 4 rfl) ?_
            obtain ⟨q53, hc_53, hf⟩ := cl_e hf
            have hm_53 : ∀ q ∈ (wX2 E a1 q44.2 h1) ++ sW E.2.1 L, q ∈ (wX3 E a0 s0 ++ (wX2 E a1 q44.2 h1)) ++ sW E.2.1 L := (app_mem (sub_mem (suf := []) [3, 4, 5, 6, 7, 8, 9] rfl))
            refine fin_v (E := E) (wc := (wX2 E a1 q44.2 h1) ++ sW E.2.1 L) (wc' := (wX2 E a1 q53 h1) ++ sW E.2.1 L) (va_runVN (As := [.int v4]) (rest := []) ⟨hx, hb, hml, hown, hts⟩ (k_X2_pickUp l E a1 L N q44.2 h1 v4 q53 hc_53 _) ⟨va_cnB 1 hts gX3_seekTarget_X2_pickUp_n52 rfl rfl rfl (hG.1 (.methodLinkNest "PickedMatch$Search" 52 yX2_pickUp "PickedMatch") (by decide +kernel)) (hts _ m_X3_seekTarget_4cf9d8) (by decide +kernel) ⟨(by simp only [headSpec, rm_X3_seekTarget, rm_X2_pickUp]; omega), (by simp only [headSpec, rm_X3_seekTarget, rm_X2_pickUp]; omega)⟩, (hts _ m_X3_seekTarget_090fb6), (hts _ m_X3_seekTarget_bf4ad0)⟩ (pre_v (ci := 2) (q0 := 0) hK (sub_P hm_53 hP) (sub_Ds (wc := wX2 E a1 q44.2 h1) [3, 4, 5, 6, 7, 8, 9] (by decide) rfl (hDD s0 q44.2 h1)) hS hG hAB rfl rfl) rfl rfl hl.1 rfl (lv_room (Nat.le_of_ble_eq_true rfl)) dX3_seekTarget_53 ⟨Nat.zero_le _, Nat.zero_le _⟩) hS (w_free (hDD s0 q44.2 h1) hS hA hm_53) (fun H locs hP1 hk hS => ?_)
            have hP := w_joins (ws' := wX3 E a0 s0 ++ (wX2 E a1 q53 h1)) (wc := wX2 E a1 q44.2 h1) (wc' := wX2 E a1 q53 h1) hP (hDD s0 q44.2 h1) [3, 4, 5, 6, 7, 8, 9] rfl [none, none, none, some 0, some 1, some 2, some 3, some 4, some 5, some 6] rfl rfl hk hP1
            refine lv_aload_n hx hb dX3_seekTarget_56 rfl (lv_at hl 0 rfl) ?_
            refine lv_aload_n hx hb dX3_seekTarget_57 rfl (lv_at hl 1 rfl) ?_
            refine lv_iload_n hx hb dX3_seekTarget_58 rfl (lv_at hl 2 rfl) ?_
            refine lv_iload_n hx hb dX3_seekTarget_59 rfl (lv_at hl 3 rfl) ?_
            refine lv_iconst (v := 1) hx hb dX3_seekTarget_60 (by decide) ?_
            refine lv_iadd hx hb dX3_seekTarget_61 ?_
            obtain ⟨q62, hc_62, hf⟩ := cl_e hf
            refine fin_v (E := E) (wc := (wX3 E a0 s0 ++ (wX2 E a1 q53 h1)) ++ sW E.2.1 L) (wc' := (wX3 E a0 q62.1 ++ (wX2 E a1 q62.2 h1)) ++ sW E.2.1 L) (va_runV (As := [.ref (a1 0), .int v2, .int (v3 + 1)]) (rest := []) ⟨hx, hb, hml, hown, hts⟩ (ihD E a0 a1 L s0 q53 h1 v2 (v3 + 1) q62 hc_62 _) (cwV 3 hts gX3_seekTarget_X3_seekTarget rfl rfl rfl (by decide +kernel) ⟨(by simp only [headSpec, rm_X3_seekTarget, rm_X3_seekTarget]; omega), (by simp only [headSpec, rm_X3_seekTarget, rm_X3_seekTarget]; omega)⟩) (pre_v (ci := 3) (q0 := 0) hK hP (hDD s0 q53 h1) hS hG hAB rfl rfl) rfl rfl hl.1 rfl (lv_room (Nat.le_of_ble_eq_true rfl)) dX3_seekTarget_62 ⟨Nat.zero_le _, Nat.zero_le _⟩) hS (w_free (hDD s0 q53 h1) hS hA (fun _ h => h)) (fun H locs hP1 hk hS => ?_)
            have hP := hP1
            refine lv_aload_n hx hb dX3_seekTarget_65 rfl (lv_at hl 1 rfl) ?_
            obtain ⟨q66, hc_66, hf⟩ := cl_e hf
            have hm_66 : ∀ q ∈ (wX2 E a1 q62.2 h1) ++ sW E.2.1 L, q ∈ (wX3 E a0 q62.1 ++ (wX2 E a1 q62.2 h1)) ++ sW E.2.1 L := (app_mem (sub_mem (suf := []) [3, 4, 5, 6, 7, 8, 9] rfl))
            refine fin_i (E := E) (wc := (wX2 E a1 q62.2 h1) ++ sW E.2.1 L) (wc' := (wX2 E a1 q66.2 h1) ++ sW E.2.1 L) (va_runVN (As := []) (rest := []) ⟨hx, hb, hml, hown, hts⟩ (k_X2_layDownNewest l E a1 L N q62.2 h1 q66 hc_66 _) ⟨va_cnB 0 hts gX3_seekTarget_X2_layDownNewest_n55 rfl rfl rfl (hG.1 (.methodLinkNest "PickedMatch$Search" 55 yX2_layDownNewest "PickedMatch") (by decide +kernel)) (hts _ m_X3_seekTarget_4cf9d8) (by decide +kernel) ⟨(by simp only [headSpec, rm_X3_seekTarget, rm_X2_layDownNewest]; omega), (by simp only [headSpec, rm_X3_seekTarget, rm_X2_layDownNewest]; omega)⟩, (hts _ m_X3_seekTarget_6978fc), (hts _ m_X3_seekTarget_998862)⟩ (pre_v (ci := 2) (q0 := 0) hK (sub_P hm_66 hP) (sub_Ds (wc := wX2 E a1 q62.2 h1) [3, 4, 5, 6, 7, 8, 9] (by decide) rfl (hDD q62.1 q62.2 h1)) hS hG hAB rfl rfl) rfl rfl hl.1 rfl (lv_room (Nat.le_of_ble_eq_true rfl)) dX3_seekTarget_66 ⟨Nat.zero_le _, Nat.zero_le _⟩) hS (w_free (hDD q62.1 q62.2 h1) hS hA hm_66) (fun H locs hP1 hk hS => ?_)
            have hP := w_joins (ws' := wX3 E a0 q62.1 ++ (wX2 E a1 q66.2 h1)) (wc := wX2 E a1 q62.2 h1) (wc' := wX2 E a1 q66.2 h1) hP (hDD q62.1 q62.2 h1) [3, 4, 5, 6, 7, 8, 9] rfl [none, none, none, some 0, some 1, some 2, some 3, some 4, some 5, some 6] rfl rfl hk hP1
            refine lv_pop hx hb dX3_seekTarget_69 rfl ?_
            obtain ⟨x70, e_x70⟩ : ∃ y : Int32, y = v4 + 1 := ⟨_, rfl⟩
            have hf := nm_q e_x70 hf
            refine lv_iinc (v := x70) (lv' := [(4, .int x70), (0, .ref (a0 0)), (1, .ref (a1 0)), (2, .int v2), (3, .int v3)]) hx hb dX3_seekTarget_70 hl (k := 4) rfl (by rw [e_x70]; rfl) (Nat.le_of_ble_eq_true rfl) rfl (fun ls hl => ?_)
            refine lv_goto (tgt := 26) hx hb dX3_seekTarget_73 (by decide) ?_
            exact ih_26 q62.1 q66.2 x70 hf _ _ _ hP hS (lv_sub hl [1, 2, 3, 4, 0] rfl)
  refine lv_iload_n hx hb dX3_seekTarget_0 rfl (lv_at hl 3 rfl) ?_
  refine lv_aload_n hx hb dX3_seekTarget_1 rfl (lv_at hl 0 rfl) ?_
  refine va_get (ci := 3) (C := RX3) (T := TX3) (N := 4) (v := .int (s0 3 0)) hx hb hts i_X3_seekTarget_X3 hown hK hP 0 rfl rfl 3 (by decide) (hts _ m_X3_seekTarget_bc1611) (fun _ h9 => h9) rfl dX3_seekTarget_2 ?_
  refine lv_icmp_lt (tgt := 9) hx hb dX3_seekTarget_5 (by decide) (fun c_5 => ?_) (fun c_5 => ?_)
  · have hf := ite_t c_5 hf
    refine lv_aload_n hx hb dX3_seekTarget_9 rfl (lv_at hl 1 rfl) ?_
    refine lv_iload_n hx hb dX3_seekTarget_10 rfl (lv_at hl 2 rfl) ?_
    obtain ⟨q11, hc_11, hf⟩ := cl_e hf
    have hm_11 : ∀ q ∈ (wX2 E a1 s1 h1) ++ sW E.2.1 L, q ∈ (wX3 E a0 s0 ++ (wX2 E a1 s1 h1)) ++ sW E.2.1 L := (app_mem (sub_mem (suf := []) [3, 4, 5, 6, 7, 8, 9] rfl))
    refine fin_i (E := E) (wc := (wX2 E a1 s1 h1) ++ sW E.2.1 L) (wc' := (wX2 E a1 q11.2 h1) ++ sW E.2.1 L) (va_runVN (As := [.int p2]) (rest := []) ⟨hx, hb, hml, hown, hts⟩ (k_X2_goesNow l E a1 L N s1 h1 p2 q11 hc_11 _) ⟨va_cnB 1 hts gX3_seekTarget_X2_goesNow_n44 rfl rfl rfl (hG.1 (.methodLinkNest "PickedMatch$Search" 44 yX2_goesNow "PickedMatch") (by decide +kernel)) (hts _ m_X3_seekTarget_4cf9d8) (by decide +kernel) ⟨(by simp only [headSpec, rm_X3_seekTarget, rm_X2_goesNow]; omega), (by simp only [headSpec, rm_X3_seekTarget, rm_X2_goesNow]; omega)⟩, (hts _ m_X3_seekTarget_e42de2), (hts _ m_X3_seekTarget_678d5f)⟩ (pre_v (ci := 2) (q0 := 0) hK (sub_P hm_11 hP) (sub_Ds (wc := wX2 E a1 s1 h1) [3, 4, 5, 6, 7, 8, 9] (by decide) rfl (hDD s0 s1 h1)) hS hG hAB rfl rfl) rfl rfl hl.1 rfl (lv_room (Nat.le_of_ble_eq_true rfl)) dX3_seekTarget_11 ⟨Nat.zero_le _, Nat.zero_le _⟩) hS (w_free (hDD s0 s1 h1) hS hA hm_11) (fun H locs hP1 hk hS => ?_)
    have hP := w_joins (ws' := wX3 E a0 s0 ++ (wX2 E a1 q11.2 h1)) (wc := wX2 E a1 s1 h1) (wc' := wX2 E a1 q11.2 h1) hP (hDD s0 s1 h1) [3, 4, 5, 6, 7, 8, 9] rfl [none, none, none, some 0, some 1, some 2, some 3, some 4, some 5, some 6] rfl rfl hk hP1
    refine lv_if_eq (tgt := 23) hx hb dX3_seekTarget_14 (by decide) (fun c_14 => ?_) (fun c_14 => ?_)
    · have hf := ite_t c_14 hf
      refine lv_iconst (v := 0) hx hb dX3_seekTarget_23 (by decide) ?_
      refine lv_istore (lv' := [(4, .int 0), (0, .ref (a0 0)), (1, .ref (a1 0)), (2, .int p2), (3, .int p3)]) hx hb dX3_seekTarget_24 hl (Nat.le_of_ble_eq_true rfl) rfl (fun ls hl => ?_)
      exact hL_26 h1 p2 p3 N s0 q11.2 0 hf _ _ _ hP hS (lv_sub hl [1, 2, 3, 4, 0] rfl)
    · have hf := ite_f c_14 hf
      refine lv_aload_n hx hb dX3_seekTarget_17 rfl (lv_at hl 0 rfl) ?_
      refine lv_iload_n hx hb dX3_seekTarget_18 rfl (lv_at hl 3 rfl) ?_
      refine va_put (ci := 3) (v := .int p3) (ty := .int) (C := RX3) (T := TX3) (N := 4) hx hb hts i_X3_seekTarget_X3 tyX3 tyX3_ok nmX3 hown hK hP (hDD s0 q11.2 h1) hS 0 rfl rfl 3 (by decide) (hts _ m_X3_seekTarget_bc1611) (fun _ h9 => h9) rfl (by decide +kernel) rfl rfl (Nat.le_of_ble_eq_true rfl) dX3_seekTarget_19 (fun H locs hP _ hS => ?_)
      obtain ⟨s0_19, hP, hf⟩ := nm_st' (P := fun z => va_P E.1 vwCl ((wX3 E a0 z ++ (wX2 E a1 q11.2 h1)) ++ sW E.2.1 L) H) hf hP
      have e9 := Option.some.inj hf
      exact rt_v hx hb hr hlocks (rtP (P := fun z => va_P E.1 vwCl ((wX3 E a0 z.1 ++ (wX2 E a1 z.2 h1)) ++ sW E.2.1 L) H) e9 hP) hS dX3_seekTarget_22
  · have hf := ite_f c_5 hf
    have e9 := Option.some.inj hf
    exact rt_v hx hb hr hlocks (rtP (P := fun z => va_P E.1 vwCl ((wX3 E a0 z.1 ++ (wX2 E a1 z.2 h1)) ++ sW E.2.1 L) s.heap) e9 hP) hS dX3_seekTarget_8
abbrev rm_X3_fewestAhead : Room := { frames := 14, cells := 0, slots := 0, locals := 399 }
theorem m_X3_fewestAhead_bc1611 : Cond.fieldLink RX3 64 "PickedMatch$Search" "fewest" "I" ∈ wsX3_fewestAhead := by decide +kernel
theorem i_X3_fewestAhead_X3 : ∀ w ∈ wsX30, w ∈ wsX3_fewestAhead := fun _ h => List.mem_cons_of_mem _ (List.mem_append_left _ (List.mem_append_left _ (List.mem_append_right _ h)))
set_option maxHeartbeats 8000000 in
set_option maxRecDepth 100000 in
theorem k_X3_fewestAhead (l : Launch) (E : Ev) (a0 : Nat → Nat) (a1 : Nat → Nat) (L : List SR) (N : Nat) (s0 : St) (s1 : St) (h1 : Option SR) (p2 : Int32) (q : (Int32 × St × St)) (hf : f_X3_fewestAhead N L s0 s1 h1 p2 = some q) : Ci l yX3_fewestAhead wsX3_fewestAhead rm_X3_fewestAhead E [.ref (a0 0), .ref (a1 0), .int p2] ((wX3 E a0 s0 ++ (wX2 E a1 s1 h1)) ++ sW E.2.1 L) ((wX3 E a0 q.2.1 ++ (wX2 E a1 q.2.2 h1)) ++ sW E.2.1 L) q.1 := by
  unfold f_X3_fewestAhead at hf
  intro sz
  refine Met.ofW (cc := cX3_fewestAhead) (maxL := 3) (ret := (some .int)) (by decide) rfl ?_
  intro p e s m args below meth c s₁ B hml hpre
  obtain ⟨rfl, hsz, hP, hK, hD0, hG, hA, hAB⟩ := start hpre
  have hx := B.exec
  have hb := B.bytes
  have hr := B.returns
  have hts := atoms_spec (ws := wsX3_fewestAhead) B.pre
  have hown : s.vm.findClass RX3 = some m.cls := findClass_of_methodNamed B.named
  have hlocks := B.notSynchronized
  subst hsz
  generalize va_A ((wX3 E a0 s0 ++ (wX2 E a1 s1 h1)) ++ sW E.2.1 L) s.heap.size = A0 at hD0 hA hAB ⊢
  have hDD : ∀ (s0 : St) (s1 : St) (h1 : Option SR), va_D A0 ((wX3 E a0 s0 ++ (wX2 E a1 s1 h1)) ++ sW E.2.1 L) := fun s0 s1 h1 => vD_addr hD0 rfl
  have hS : va_S A0 s.heap s.heap [] := va_S.rf
  have hl := lv_entry ([.ref (a0 0), .ref (a1 0), .int p2]) (n := 3) (Nat.le_of_ble_eq_true rfl)
  rw [lg_entry_eq]
  generalize (lg_sl ([.ref (a0 0), .ref (a1 0), .int p2]) ++ List.replicate (3 - (lg_sl ([.ref (a0 0), .ref (a1 0), .int p2])).length) Slot.unset).toArray = ls at hl ⊢
  have hl : lv_has ls 3 [(0, .ref (a0 0)), (1, .ref (a1 0)), (2, .int p2)] := hl
  refine lv_aload_n hx hb dX3_fewestAhead_0 rfl (lv_at hl 0 rfl) ?_
  refine lv_bipush (v := 6) hx hb dX3_fewestAhead_1 (by decide) ?_
  refine va_put (ci := 3) (v := .int 6) (ty := .int) (C := RX3) (T := TX3) (N := 4) hx hb hts i_X3_fewestAhead_X3 tyX3 tyX3_ok nmX3 hown hK hP (hDD s0 s1 h1) hS 0 rfl rfl 3 (by decide) (hts _ m_X3_fewestAhead_bc1611) (fun _ h9 => h9) rfl (by decide +kernel) rfl rfl (Nat.le_of_ble_eq_true rfl) dX3_fewestAhead_3 (fun H locs hP _ hS => ?_)
  obtain ⟨s0_3, hP, hf⟩ := nm_st' (P := fun z => va_P E.1 vwCl ((wX3 E a0 z ++ (wX2 E a1 s1 h1)) ++ sW E.2.1 L) H) hf hP
  refine lv_aload_n hx hb dX3_fewestAhead_6 rfl (lv_at hl 0 rfl) ?_
  refine lv_aload_n hx hb dX3_fewestAhead_7 rfl (lv_at hl 1 rfl) ?_
  refine lv_iload_n hx hb dX3_fewestAhead_8 rfl (lv_at hl 2 rfl) ?_
  refine lv_iconst (v := 0) hx hb dX3_fewestAhead_9 (by decide) ?_
  obtain ⟨q10, hc_10, hf⟩ := cl_e hf
  refine fin_v (E := E) (wc := (wX3 E a0 s0_3 ++ (wX2 E a1 s1 h1)) ++ sW E.2.1 L) (wc' := (wX3 E a0 q10.1 ++ (wX2 E a1 q10.2 h1)) ++ sW E.2.1 L) (va_runV (As := [.ref (a1 0), .int p2, .int 0]) (rest := []) ⟨hx, hb, hml, hown, hts⟩ (k_X3_seekTarget l E a0 a1 L N 8 s0_3 s1 h1 p2 0 q10 hc_10 _) (cwV 3 hts gX3_fewestAhead_X3_seekTarget rfl rfl rfl (by decide +kernel) ⟨(Nat.le_of_ble_eq_true rfl), (Nat.le_of_ble_eq_true rfl)⟩) (pre_v (ci := 3) (q0 := 0) hK hP (hDD s0_3 s1 h1) hS hG hAB rfl rfl) rfl rfl hl.1 rfl (lv_room (Nat.le_of_ble_eq_true rfl)) dX3_fewestAhead_10 ⟨Nat.zero_le _, Nat.zero_le _⟩) hS (w_free (hDD s0_3 s1 h1) hS hA (fun _ h => h)) (fun H locs hP1 hk hS => ?_)
  have hP := hP1
  refine lv_aload_n hx hb dX3_fewestAhead_13 rfl (lv_at hl 0 rfl) ?_
  refine va_get (ci := 3) (C := RX3) (T := TX3) (N := 4) (v := .int (q10.1 3 0)) hx hb hts i_X3_fewestAhead_X3 hown hK hP 0 rfl rfl 3 (by decide) (hts _ m_X3_fewestAhead_bc1611) (fun _ h9 => h9) rfl dX3_fewestAhead_14 ?_
  refine lv_bipush (v := 6) hx hb dX3_fewestAhead_17 (by decide) ?_
  refine lv_icmp_ge (tgt := 29) hx hb dX3_fewestAhead_19 (by decide) (fun c_19 => ?_) (fun c_19 => ?_)
  · have hf := ite_t c_19 hf
    refine lv_bipush (v := (-5)) hx hb dX3_fewestAhead_29 (by decide) ?_
    have e9 := Option.some.inj hf
    exact rt_i hx hb hr hlocks (fst_e e9) (rtP (P := fun z => va_P E.1 vwCl ((wX3 E a0 z.2.1 ++ (wX2 E a1 z.2.2 h1)) ++ sW E.2.1 L) H) e9 hP) hS dX3_fewestAhead_31
  · have hf := ite_f c_19 hf
    refine lv_aload_n hx hb dX3_fewestAhead_22 rfl (lv_at hl 0 rfl) ?_
    refine va_get (ci := 3) (C := RX3) (T := TX3) (N := 4) (v := .int (q10.1 3 0)) hx hb hts i_X3_fewestAhead_X3 hown hK hP 0 rfl rfl 3 (by decide) (hts _ m_X3_fewestAhead_bc1611) (fun _ h9 => h9) rfl dX3_fewestAhead_23 ?_
    refine lv_goto (tgt := 31) hx hb dX3_fewestAhead_26 (by decide) ?_
    have e9 := Option.some.inj hf
    exact rt_i hx hb hr hlocks (fst_e e9) (rtP (P := fun z => va_P E.1 vwCl ((wX3 E a0 z.2.1 ++ (wX2 E a1 z.2.2 h1)) ++ sW E.2.1 L) H) e9 hP) hS dX3_fewestAhead_31
