/-! ===== what the methods compute, and that they do: by program out of the bytecode (wip/gen) ===== -/
abbrev rm_X8_marked : Room := { frames := 11, cells := 0, slots := 0, locals := 244 }
theorem m_X8_marked_fa4c49 : Cond.fieldLink RX8 26 "PickedMatchModel" "marks" "[I" ∈ wsX8_marked := by decide +kernel
theorem i_X8_marked_X8 : ∀ w ∈ wsX80, w ∈ wsX8_marked := fun _ h => List.mem_cons_of_mem _ (List.mem_append_right _ h)
set_option maxHeartbeats 8000000 in
set_option maxRecDepth 100000 in
theorem k_X8_marked (l : Launch) (E : Ev) (a0 : Nat → Nat) (N : Nat) (s0 : St) (t0 : Nat → Nat → Int64) (p1 : Int32) (p2 : Int32) (q : (Int32 × St)) (hf : f_X8_marked N s0 p1 p2 = some q) : Ci l yX8_marked wsX8_marked rm_X8_marked E [.ref (a0 0), .int p1, .int p2] (wX8 E a0 s0 t0) (wX8 E a0 q.2 t0) q.1 := by
  unfold f_X8_marked at hf
  intro sz
  refine Met.ofW (cc := cX8_marked) (maxL := 7) (ret := (some .int)) (by decide) rfl ?_
  intro p e s m args below meth c s₁ B hml hv
  obtain ⟨rfl, hsz, hP, hK, hD0, hG, hA, hAB⟩ := start hv
  have hx := B.exec
  have hb := B.bytes
  have hr := B.returns
  have hts := atoms_spec (ws := wsX8_marked) B.pre
  have hown : s.vm.findClass RX8 = some m.cls := findClass_of_methodNamed B.named
  have hlocks := B.notSynchronized
  subst hsz
  generalize va_A (wX8 E a0 s0 t0) s.heap.size = A0 at hD0 hA hAB ⊢
  have hDD : ∀ (s0 : St) (t0 : Nat → Nat → Int64), va_D A0 (wX8 E a0 s0 t0) := fun s0 t0 => vD_addr hD0 rfl
  have hS : va_S A0 s.heap s.heap [] := va_S.rf
  have hl := lv_entry ([.ref (a0 0), .int p1, .int p2]) (n := 7) (Nat.le_of_ble_eq_true rfl)
  rw [lg_entry_eq]
  generalize (lg_sl ([.ref (a0 0), .int p1, .int p2]) ++ List.replicate (7 - (lg_sl ([.ref (a0 0), .int p1, .int p2])).length) Slot.unset).toArray = ls at hl ⊢
  have hl : lv_has ls 7 [(0, .ref (a0 0)), (1, .int p1), (2, .int p2)] := hl
  have hL_39 : ∀ (v1 : Int32) (v2 : Int32) (v3 : Int32) (n_39 : Nat) (s0 : St) (v4 : Int32) (v5 : Int32) (v6 : Int32), l_X8_marked_39 N v1 v2 v3 n_39 s0 v4 v5 v6 = some q → ∀ (H : Heap) (locs : List Loc) (ls : Array Slot), va_P E.1 vwCl (wX8 E a0 s0 t0) H → va_S A0 s.heap H locs → lv_has ls 7 [(0, .ref (a0 0)), (1, .int v1), (2, .int v2), (3, .int v3), (4, .int v4), (5, .int v5), (6, .int v6)] → W p l e rm_X8_marked s m ([.ref (a0 0), .int p1, .int p2] : List Value).toArray below meth c H locs 0 0 (MQ below (va_Qi (fun (r' : Int32) (_ : Unit) => r' = q.1) (fun _ t => va_P E.1 vwCl (wX8 E a0 q.2 t0) t.heap) A0) ([.ref (a0 0), .int p1, .int p2] : List Value).toArray s 0 0 A0) (F0 m 39 ls []) := by
    intro v1 v2 v3 n_39
    induction n_39 with
    | zero => intro s0 v4 v5 v6 hf; rw [l_X8_marked_39] at hf; cases hf
    | succ n_39 ih_39 =>
      intro s0 v4 v5 v6 hf H locs ls hP hS hl
      rw [l_X8_marked_39] at hf
      refine lv_iload hx hb dX8_marked_39 (lv_at hl 6 rfl) ?_
      refine lv_if_lt (tgt := 75) hx hb dX8_marked_41 (by decide) (fun c_41 => ?_) (fun c_41 => ?_)
      · have hf := ite_t c_41 hf
        refine lv_aload_n hx hb dX8_marked_75 rfl (lv_at hl 0 rfl) ?_
        refine va_get (ci := 8) (C := RX8) (T := TX8) (N := 67) (v := .ref (a0 3)) hx hb hts i_X8_marked_X8 hown hK hP 0 rfl rfl 5 (by decide) (hts _ m_X8_marked_fa4c49) (fun _ h9 => h9) rfl dX8_marked_76 ?_
        refine lv_iload_n hx hb dX8_marked_79 rfl (lv_at hl 1 rfl) ?_
        refine lv_iload_n hx hb dX8_marked_80 rfl (lv_at hl 3 rfl) ?_
        obtain ⟨h_81, hf⟩ := ck_e hf
        refine va_iast (cA := E.2.1) (n := 6) (f := s0 5) (x := v3) hx hb hK hP (hDD s0 t0) hS 3 0 rfl rfl h_81 dX8_marked_81 (fun H locs hP _ hS => ?_)
        obtain ⟨s0_81, hP, hf⟩ := nm_st' (P := fun z => va_P E.1 vwCl (wX8 E a0 z t0) H) hf hP
        refine lv_iload_n hx hb dX8_marked_82 rfl (lv_at hl 2 rfl) ?_
        refine lv_if_ne (tgt := 91) hx hb dX8_marked_83 (by decide) (fun c_83 => ?_) (fun c_83 => ?_)
        · have hf := ite_f c_83 hf
          refine lv_iload hx hb dX8_marked_91 (lv_at hl 5 rfl) ?_
          have e9 := Option.some.inj hf
          exact rt_i hx hb hr hlocks (fst_e e9) (rtP (P := fun z => va_P E.1 vwCl (wX8 E a0 z.2 t0) H) e9 hP) hS dX8_marked_93
        · have hf := ite_t c_83 hf
          refine lv_iload hx hb dX8_marked_86 (lv_at hl 4 rfl) ?_
          refine lv_goto (tgt := 93) hx hb dX8_marked_88 (by decide) ?_
          have e9 := Option.some.inj hf
          exact rt_i hx hb hr hlocks (fst_e e9) (rtP (P := fun z => va_P E.1 vwCl (wX8 E a0 z.2 t0) H) e9 hP) hS dX8_marked_93
      · have hf := ite_f c_41 hf
        refine lv_aload_n hx hb dX8_marked_44 rfl (lv_at hl 0 rfl) ?_
        refine va_get (ci := 8) (C := RX8) (T := TX8) (N := 67) (v := .ref (a0 3)) hx hb hts i_X8_marked_X8 hown hK hP 0 rfl rfl 5 (by decide) (hts _ m_X8_marked_fa4c49) (fun _ h9 => h9) rfl dX8_marked_45 ?_
        refine lv_iload_n hx hb dX8_marked_48 rfl (lv_at hl 1 rfl) ?_
        refine lv_iload hx hb dX8_marked_49 (lv_at hl 6 rfl) ?_
        obtain ⟨h_51, hf⟩ := ck_e hf
        refine va_iast (cA := E.2.1) (n := 6) (f := s0 5) (x := v6) hx hb hK hP (hDD s0 t0) hS 3 0 rfl rfl h_51 dX8_marked_51 (fun H locs hP _ hS => ?_)
        obtain ⟨s0_51, hP, hf⟩ := nm_st' (P := fun z => va_P E.1 vwCl (wX8 E a0 z t0) H) hf hP
        refine lv_aload_n hx hb dX8_marked_52 rfl (lv_at hl 0 rfl) ?_
        obtain ⟨q53, hc_53, hf⟩ := cl_e hf
        refine fin_i (E := E) (wc := wX8 E a0 s0_51 t0) (wc' := wX8 E a0 q53.2 t0) (va_runV (As := []) (rest := []) ⟨hx, hb, hml, hown, hts⟩ (k_X8_isSeen l E a0 N s0_51 t0 q53 hc_53 _) (cwV 0 hts gX8_marked_X8_isSeen rfl rfl rfl (by decide +kernel) ⟨(Nat.le_of_ble_eq_true rfl), (Nat.le_of_ble_eq_true rfl)⟩) (pre_v (ci := 8) (q0 := 0) hK hP (hDD s0_51 t0) hS hG hAB rfl rfl) rfl rfl hl.1 rfl (lv_room (Nat.le_of_ble_eq_true rfl)) dX8_marked_53 ⟨Nat.zero_le _, Nat.zero_le _⟩) hS (w_free (hDD s0_51 t0) hS hA (fun _ h => h)) (fun H locs hP1 hk hS => ?_)
        have hP := hP1
        refine lv_if_ne (tgt := 62) hx hb dX8_marked_56 (by decide) (fun c_56 => ?_) (fun c_56 => ?_)
        · have hf := ite_f c_56 hf
          obtain ⟨x62, e_x62⟩ : ∃ y : Int32, y = v4 + 1 := ⟨_, rfl⟩
          have hf := nm_q e_x62 hf
          refine lv_iinc (v := x62) (lv' := [(4, .int x62), (0, .ref (a0 0)), (1, .int v1), (2, .int v2), (3, .int v3), (5, .int v5), (6, .int v6)]) hx hb dX8_marked_62 hl (k := 4) rfl (by rw [e_x62]; rfl) (Nat.le_of_ble_eq_true rfl) rfl (fun ls hl => ?_)
          refine lv_iload hx hb dX8_marked_65 (lv_at hl 6 rfl) ?_
          refine lv_istore (lv' := [(5, .int v6), (4, .int x62), (0, .ref (a0 0)), (1, .int v1), (2, .int v2), (3, .int v3), (6, .int v6)]) hx hb dX8_marked_67 hl (Nat.le_of_ble_eq_true rfl) rfl (fun ls hl => ?_)
          obtain ⟨x69, e_x69⟩ : ∃ y : Int32, y = v6 + (-1) := ⟨_, rfl⟩
          have hf := nm_q e_x69 hf
          refine lv_iinc (v := x69) (lv' := [(6, .int x69), (5, .int v6), (4, .int x62), (0, .ref (a0 0)), (1, .int v1), (2, .int v2), (3, .int v3)]) hx hb dX8_marked_69 hl (k := 6) rfl (by rw [e_x69]; rfl) (Nat.le_of_ble_eq_true rfl) rfl (fun ls hl => ?_)
          refine lv_goto (tgt := 39) hx hb dX8_marked_72 (by decide) ?_
          exact ih_39 q53.2 x62 v6 x69 hf _ _ _ hP hS (lv_sub hl [3, 4, 5, 6, 2, 1, 0] rfl)
        · have hf := ite_t c_56 hf
          refine lv_goto (tgt := 69) hx hb dX8_marked_59 (by decide) ?_
          obtain ⟨x69, e_x69⟩ : ∃ y : Int32, y = v6 + (-1) := ⟨_, rfl⟩
          have hf := nm_q e_x69 hf
          refine lv_iinc (v := x69) (lv' := [(6, .int x69), (0, .ref (a0 0)), (1, .int v1), (2, .int v2), (3, .int v3), (4, .int v4), (5, .int v5)]) hx hb dX8_marked_69 hl (k := 6) rfl (by rw [e_x69]; rfl) (Nat.le_of_ble_eq_true rfl) rfl (fun ls hl => ?_)
          refine lv_goto (tgt := 39) hx hb dX8_marked_72 (by decide) ?_
          exact ih_39 q53.2 v4 v5 x69 hf _ _ _ hP hS (lv_sub hl [1, 2, 3, 4, 5, 6, 0] rfl)
  refine lv_aload_n hx hb dX8_marked_0 rfl (lv_at hl 0 rfl) ?_
  refine lv_iload_n hx hb dX8_marked_1 rfl (lv_at hl 1 rfl) ?_
  obtain ⟨q2, hc_2, hf⟩ := cl_e hf
  refine fin_i (E := E) (wc := wX8 E a0 s0 t0) (wc' := wX8 E a0 s0 t0) (va_runV (As := [.int p1]) (rest := []) ⟨hx, hb, hml, hown, hts⟩ (k_X8_isThing l E a0 N s0 t0 p1 q2 hc_2 _) (cwV 1 hts gX8_marked_X8_isThing rfl rfl rfl (by decide +kernel) ⟨(Nat.le_of_ble_eq_true rfl), (Nat.le_of_ble_eq_true rfl)⟩) (pre_v (ci := 8) (q0 := 0) hK hP (hDD s0 t0) hS hG hAB rfl rfl) rfl rfl hl.1 rfl (lv_room (Nat.le_of_ble_eq_true rfl)) dX8_marked_2 ⟨Nat.zero_le _, Nat.zero_le _⟩) hS (w_free (hDD s0 t0) hS hA (fun _ h => h)) (fun H locs hP1 hk hS => ?_)
  have hP := hP1
  refine lv_if_eq (tgt := 18) hx hb dX8_marked_5 (by decide) (fun c_5 => ?_) (fun c_5 => ?_)
  · have hf := ite_t c_5 hf
    refine lv_iconst (v := (-1)) hx hb dX8_marked_18 (by decide) ?_
    have e9 := Option.some.inj hf
    exact rt_i hx hb hr hlocks (fst_e e9) (rtP (P := fun z => va_P E.1 vwCl (wX8 E a0 z.2 t0) H) e9 hP) hS dX8_marked_19
  · have hf := ite_f c_5 hf
    refine lv_aload_n hx hb dX8_marked_8 rfl (lv_at hl 0 rfl) ?_
    refine lv_iload_n hx hb dX8_marked_9 rfl (lv_at hl 2 rfl) ?_
    refine lv_iconst (v := 0) hx hb dX8_marked_10 (by decide) ?_
    refine lv_iconst (v := 1) hx hb dX8_marked_11 (by decide) ?_
    obtain ⟨q12, hc_12, hf⟩ := cl_e hf
    refine fin_i (E := E) (wc := wX8 E a0 s0 t0) (wc' := wX8 E a0 s0 t0) (va_runV (As := [.int p2, .int 0, .int 1]) (rest := []) ⟨hx, hb, hml, hown, hts⟩ (k_X8_in l E a0 N s0 t0 p2 0 1 q12 hc_12 _) (cwV 3 hts gX8_marked_X8_in rfl rfl rfl (by decide +kernel) ⟨(Nat.le_of_ble_eq_true rfl), (Nat.le_of_ble_eq_true rfl)⟩) (pre_v (ci := 8) (q0 := 0) hK hP (hDD s0 t0) hS hG hAB rfl rfl) rfl rfl hl.1 rfl (lv_room (Nat.le_of_ble_eq_true rfl)) dX8_marked_12 ⟨Nat.zero_le _, Nat.zero_le _⟩) hS (w_free (hDD s0 t0) hS hA (fun _ h => h)) (fun H locs hP1 hk hS => ?_)
    have hP := hP1
    refine lv_if_ne (tgt := 20) hx hb dX8_marked_15 (by decide) (fun c_15 => ?_) (fun c_15 => ?_)
    · have hf := ite_f c_15 hf
      refine lv_aload_n hx hb dX8_marked_20 rfl (lv_at hl 0 rfl) ?_
      refine va_get (ci := 8) (C := RX8) (T := TX8) (N := 67) (v := .ref (a0 3)) hx hb hts i_X8_marked_X8 hown hK hP 0 rfl rfl 5 (by decide) (hts _ m_X8_marked_fa4c49) (fun _ h9 => h9) rfl dX8_marked_21 ?_
      refine lv_iload_n hx hb dX8_marked_24 rfl (lv_at hl 1 rfl) ?_
      obtain ⟨h_25, hf⟩ := ck_e hf
      refine va_iald (cA := E.2.1) (n := 6) (f := s0 5) hx hb hK hP 3 0 rfl rfl h_25 dX8_marked_25 ?_
      refine lv_topi (fun x26 e_x26 => ?_)
      have hf := nm_q e_x26 hf
      refine lv_istore_n (lv' := [(3, .int x26), (0, .ref (a0 0)), (1, .int p1), (2, .int p2)]) hx hb dX8_marked_26 rfl hl (Nat.le_of_ble_eq_true rfl) rfl (fun ls hl => ?_)
      refine lv_iconst (v := 0) hx hb dX8_marked_27 (by decide) ?_
      refine lv_istore (lv' := [(4, .int 0), (3, .int x26), (0, .ref (a0 0)), (1, .int p1), (2, .int p2)]) hx hb dX8_marked_28 hl (Nat.le_of_ble_eq_true rfl) rfl (fun ls hl => ?_)
      refine lv_bipush (v := (-5)) hx hb dX8_marked_30 (by decide) ?_
      refine lv_topi (fun x32 e_x32 => ?_)
      have hf := nm_q e_x32 hf
      refine lv_istore (lv' := [(5, .int x32), (4, .int 0), (3, .int x26), (0, .ref (a0 0)), (1, .int p1), (2, .int p2)]) hx hb dX8_marked_32 hl (Nat.le_of_ble_eq_true rfl) rfl (fun ls hl => ?_)
      refine lv_sipush (v := 255) hx hb dX8_marked_34 (by decide) ?_
      refine lv_istore (lv' := [(6, .int 255), (5, .int x32), (4, .int 0), (3, .int x26), (0, .ref (a0 0)), (1, .int p1), (2, .int p2)]) hx hb dX8_marked_37 hl (Nat.le_of_ble_eq_true rfl) rfl (fun ls hl => ?_)
      exact hL_39 p1 p2 x26 N s0 0 x32 255 hf _ _ _ hP hS (lv_sub hl [4, 5, 6, 3, 2, 1, 0] rfl)
    · have hf := ite_t c_15 hf
      refine lv_iconst (v := (-1)) hx hb dX8_marked_18 (by decide) ?_
      have e9 := Option.some.inj hf
      exact rt_i hx hb hr hlocks (fst_e e9) (rtP (P := fun z => va_P E.1 vwCl (wX8 E a0 z.2 t0) H) e9 hP) hS dX8_marked_19
abbrev rm_X8_can : Room := { frames := 11, cells := 0, slots := 0, locals := 244 }
theorem m_X8_can_7b6120 : Cond.fieldLink RX8 23 "PickedMatchModel" "v" "[I" ∈ wsX8_can := by decide +kernel
theorem i_X8_can_X8 : ∀ w ∈ wsX80, w ∈ wsX8_can := fun _ h => List.mem_cons_of_mem _ (List.mem_append_right _ h)
set_option maxHeartbeats 8000000 in
set_option maxRecDepth 100000 in
theorem k_X8_can (l : Launch) (E : Ev) (a0 : Nat → Nat) (N : Nat) (s0 : St) (t0 : Nat → Nat → Int64) (p1 : Int32) (p2 : Int32) (q : (Int32 × St)) (hf : f_X8_can N s0 p1 p2 = some q) : Ci l yX8_can wsX8_can rm_X8_can E [.ref (a0 0), .int p1, .int p2] (wX8 E a0 s0 t0) (wX8 E a0 q.2 t0) q.1 := by
  unfold f_X8_can at hf
  intro sz
  refine Met.ofW (cc := cX8_can) (maxL := 7) (ret := (some .int)) (by decide) rfl ?_
  intro p e s m args below meth c s₁ B hml hv
  obtain ⟨rfl, hsz, hP, hK, hD0, hG, hA, hAB⟩ := start hv
  have hx := B.exec
  have hb := B.bytes
  have hr := B.returns
  have hts := atoms_spec (ws := wsX8_can) B.pre
  have hown : s.vm.findClass RX8 = some m.cls := findClass_of_methodNamed B.named
  have hlocks := B.notSynchronized
  subst hsz
  generalize va_A (wX8 E a0 s0 t0) s.heap.size = A0 at hD0 hA hAB ⊢
  have hDD : ∀ (s0 : St) (t0 : Nat → Nat → Int64), va_D A0 (wX8 E a0 s0 t0) := fun s0 t0 => vD_addr hD0 rfl
  have hS : va_S A0 s.heap s.heap [] := va_S.rf
  have hl := lv_entry ([.ref (a0 0), .int p1, .int p2]) (n := 7) (Nat.le_of_ble_eq_true rfl)
  rw [lg_entry_eq]
  generalize (lg_sl ([.ref (a0 0), .int p1, .int p2]) ++ List.replicate (7 - (lg_sl ([.ref (a0 0), .int p1, .int p2])).length) Slot.unset).toArray = ls at hl ⊢
  have hl : lv_has ls 7 [(0, .ref (a0 0)), (1, .int p1), (2, .int p2)] := hl
  have hL_38 : ∀ (v1 : Int32) (v2 : Int32) (v3 : Int32) (n_38 : Nat) (s0 : St) (v4 : Int32) (v5 : Int32) (v6 : Int32), l_X8_can_38 N v1 v2 v3 n_38 s0 v4 v5 v6 = some q → ∀ (H : Heap) (locs : List Loc) (ls : Array Slot), va_P E.1 vwCl (wX8 E a0 s0 t0) H → va_S A0 s.heap H locs → lv_has ls 7 [(0, .ref (a0 0)), (1, .int v1), (2, .int v2), (3, .int v3), (4, .int v4), (5, .int v5), (6, .int v6)] → W p l e rm_X8_can s m ([.ref (a0 0), .int p1, .int p2] : List Value).toArray below meth c H locs 0 0 (MQ below (va_Qi (fun (r' : Int32) (_ : Unit) => r' = q.1) (fun _ t => va_P E.1 vwCl (wX8 E a0 q.2 t0) t.heap) A0) ([.ref (a0 0), .int p1, .int p2] : List Value).toArray s 0 0 A0) (F0 m 38 ls []) := by
    intro v1 v2 v3 n_38
    induction n_38 with
    | zero => intro s0 v4 v5 v6 hf; rw [l_X8_can_38] at hf; cases hf
    | succ n_38 ih_38 =>
      intro s0 v4 v5 v6 hf H locs ls hP hS hl
      rw [l_X8_can_38] at hf
      refine lv_iload hx hb dX8_can_38 (lv_at hl 6 rfl) ?_
      refine lv_if_lt (tgt := 74) hx hb dX8_can_40 (by decide) (fun c_40 => ?_) (fun c_40 => ?_)
      · have hf := ite_t c_40 hf
        refine lv_aload_n hx hb dX8_can_74 rfl (lv_at hl 0 rfl) ?_
        refine va_get (ci := 8) (C := RX8) (T := TX8) (N := 67) (v := .ref (a0 2)) hx hb hts i_X8_can_X8 hown hK hP 0 rfl rfl 4 (by decide) (hts _ m_X8_can_7b6120) (fun _ h9 => h9) rfl dX8_can_75 ?_
        refine lv_iload_n hx hb dX8_can_78 rfl (lv_at hl 1 rfl) ?_
        refine lv_iload_n hx hb dX8_can_79 rfl (lv_at hl 3 rfl) ?_
        obtain ⟨h_80, hf⟩ := ck_e hf
        refine va_iast (cA := E.2.1) (n := 6) (f := s0 4) (x := v3) hx hb hK hP (hDD s0 t0) hS 2 0 rfl rfl h_80 dX8_can_80 (fun H locs hP _ hS => ?_)
        obtain ⟨s0_80, hP, hf⟩ := nm_st' (P := fun z => va_P E.1 vwCl (wX8 E a0 z t0) H) hf hP
        refine lv_iload_n hx hb dX8_can_81 rfl (lv_at hl 2 rfl) ?_
        refine lv_if_ne (tgt := 90) hx hb dX8_can_82 (by decide) (fun c_82 => ?_) (fun c_82 => ?_)
        · have hf := ite_f c_82 hf
          refine lv_iload hx hb dX8_can_90 (lv_at hl 5 rfl) ?_
          have e9 := Option.some.inj hf
          exact rt_i hx hb hr hlocks (fst_e e9) (rtP (P := fun z => va_P E.1 vwCl (wX8 E a0 z.2 t0) H) e9 hP) hS dX8_can_92
        · have hf := ite_t c_82 hf
          refine lv_iload hx hb dX8_can_85 (lv_at hl 4 rfl) ?_
          refine lv_goto (tgt := 92) hx hb dX8_can_87 (by decide) ?_
          have e9 := Option.some.inj hf
          exact rt_i hx hb hr hlocks (fst_e e9) (rtP (P := fun z => va_P E.1 vwCl (wX8 E a0 z.2 t0) H) e9 hP) hS dX8_can_92
      · have hf := ite_f c_40 hf
        refine lv_aload_n hx hb dX8_can_43 rfl (lv_at hl 0 rfl) ?_
        refine va_get (ci := 8) (C := RX8) (T := TX8) (N := 67) (v := .ref (a0 2)) hx hb hts i_X8_can_X8 hown hK hP 0 rfl rfl 4 (by decide) (hts _ m_X8_can_7b6120) (fun _ h9 => h9) rfl dX8_can_44 ?_
        refine lv_iload_n hx hb dX8_can_47 rfl (lv_at hl 1 rfl) ?_
        refine lv_iload hx hb dX8_can_48 (lv_at hl 6 rfl) ?_
        obtain ⟨h_50, hf⟩ := ck_e hf
        refine va_iast (cA := E.2.1) (n := 6) (f := s0 4) (x := v6) hx hb hK hP (hDD s0 t0) hS 2 0 rfl rfl h_50 dX8_can_50 (fun H locs hP _ hS => ?_)
        obtain ⟨s0_50, hP, hf⟩ := nm_st' (P := fun z => va_P E.1 vwCl (wX8 E a0 z t0) H) hf hP
        refine lv_aload_n hx hb dX8_can_51 rfl (lv_at hl 0 rfl) ?_
        obtain ⟨q52, hc_52, hf⟩ := cl_e hf
        refine fin_i (E := E) (wc := wX8 E a0 s0_50 t0) (wc' := wX8 E a0 q52.2 t0) (va_runV (As := []) (rest := []) ⟨hx, hb, hml, hown, hts⟩ (k_X8_isSeen l E a0 N s0_50 t0 q52 hc_52 _) (cwV 0 hts gX8_can_X8_isSeen rfl rfl rfl (by decide +kernel) ⟨(Nat.le_of_ble_eq_true rfl), (Nat.le_of_ble_eq_true rfl)⟩) (pre_v (ci := 8) (q0 := 0) hK hP (hDD s0_50 t0) hS hG hAB rfl rfl) rfl rfl hl.1 rfl (lv_room (Nat.le_of_ble_eq_true rfl)) dX8_can_52 ⟨Nat.zero_le _, Nat.zero_le _⟩) hS (w_free (hDD s0_50 t0) hS hA (fun _ h => h)) (fun H locs hP1 hk hS => ?_)
        have hP := hP1
        refine lv_if_ne (tgt := 61) hx hb dX8_can_55 (by decide) (fun c_55 => ?_) (fun c_55 => ?_)
        · have hf := ite_f c_55 hf
          obtain ⟨x61, e_x61⟩ : ∃ y : Int32, y = v4 + 1 := ⟨_, rfl⟩
          have hf := nm_q e_x61 hf
          refine lv_iinc (v := x61) (lv' := [(4, .int x61), (0, .ref (a0 0)), (1, .int v1), (2, .int v2), (3, .int v3), (5, .int v5), (6, .int v6)]) hx hb dX8_can_61 hl (k := 4) rfl (by rw [e_x61]; rfl) (Nat.le_of_ble_eq_true rfl) rfl (fun ls hl => ?_)
          refine lv_iload hx hb dX8_can_64 (lv_at hl 6 rfl) ?_
          refine lv_istore (lv' := [(5, .int v6), (4, .int x61), (0, .ref (a0 0)), (1, .int v1), (2, .int v2), (3, .int v3), (6, .int v6)]) hx hb dX8_can_66 hl (Nat.le_of_ble_eq_true rfl) rfl (fun ls hl => ?_)
          obtain ⟨x68, e_x68⟩ : ∃ y : Int32, y = v6 + (-1) := ⟨_, rfl⟩
          have hf := nm_q e_x68 hf
          refine lv_iinc (v := x68) (lv' := [(6, .int x68), (5, .int v6), (4, .int x61), (0, .ref (a0 0)), (1, .int v1), (2, .int v2), (3, .int v3)]) hx hb dX8_can_68 hl (k := 6) rfl (by rw [e_x68]; rfl) (Nat.le_of_ble_eq_true rfl) rfl (fun ls hl => ?_)
          refine lv_goto (tgt := 38) hx hb dX8_can_71 (by decide) ?_
          exact ih_38 q52.2 x61 v6 x68 hf _ _ _ hP hS (lv_sub hl [3, 4, 5, 6, 2, 1, 0] rfl)
        · have hf := ite_t c_55 hf
          refine lv_goto (tgt := 68) hx hb dX8_can_58 (by decide) ?_
          obtain ⟨x68, e_x68⟩ : ∃ y : Int32, y = v6 + (-1) := ⟨_, rfl⟩
          have hf := nm_q e_x68 hf
          refine lv_iinc (v := x68) (lv' := [(6, .int x68), (0, .ref (a0 0)), (1, .int v1), (2, .int v2), (3, .int v3), (4, .int v4), (5, .int v5)]) hx hb dX8_can_68 hl (k := 6) rfl (by rw [e_x68]; rfl) (Nat.le_of_ble_eq_true rfl) rfl (fun ls hl => ?_)
          refine lv_goto (tgt := 38) hx hb dX8_can_71 (by decide) ?_
          exact ih_38 q52.2 v4 v5 x68 hf _ _ _ hP hS (lv_sub hl [1, 2, 3, 4, 5, 6, 0] rfl)
  refine lv_aload_n hx hb dX8_can_0 rfl (lv_at hl 0 rfl) ?_
  refine lv_iload_n hx hb dX8_can_1 rfl (lv_at hl 1 rfl) ?_
  obtain ⟨q2, hc_2, hf⟩ := cl_e hf
  refine fin_i (E := E) (wc := wX8 E a0 s0 t0) (wc' := wX8 E a0 s0 t0) (va_runV (As := [.int p1]) (rest := []) ⟨hx, hb, hml, hown, hts⟩ (k_X8_isThing l E a0 N s0 t0 p1 q2 hc_2 _) (cwV 1 hts gX8_can_X8_isThing rfl rfl rfl (by decide +kernel) ⟨(Nat.le_of_ble_eq_true rfl), (Nat.le_of_ble_eq_true rfl)⟩) (pre_v (ci := 8) (q0 := 0) hK hP (hDD s0 t0) hS hG hAB rfl rfl) rfl rfl hl.1 rfl (lv_room (Nat.le_of_ble_eq_true rfl)) dX8_can_2 ⟨Nat.zero_le _, Nat.zero_le _⟩) hS (w_free (hDD s0 t0) hS hA (fun _ h => h)) (fun H locs hP1 hk hS => ?_)
  have hP := hP1
  refine lv_if_eq (tgt := 18) hx hb dX8_can_5 (by decide) (fun c_5 => ?_) (fun c_5 => ?_)
  · have hf := ite_t c_5 hf
    refine lv_iconst (v := (-1)) hx hb dX8_can_18 (by decide) ?_
    have e9 := Option.some.inj hf
    exact rt_i hx hb hr hlocks (fst_e e9) (rtP (P := fun z => va_P E.1 vwCl (wX8 E a0 z.2 t0) H) e9 hP) hS dX8_can_19
  · have hf := ite_f c_5 hf
    refine lv_aload_n hx hb dX8_can_8 rfl (lv_at hl 0 rfl) ?_
    refine lv_iload_n hx hb dX8_can_9 rfl (lv_at hl 2 rfl) ?_
    refine lv_iconst (v := 0) hx hb dX8_can_10 (by decide) ?_
    refine lv_iconst (v := 1) hx hb dX8_can_11 (by decide) ?_
    obtain ⟨q12, hc_12, hf⟩ := cl_e hf
    refine fin_i (E := E) (wc := wX8 E a0 s0 t0) (wc' := wX8 E a0 s0 t0) (va_runV (As := [.int p2, .int 0, .int 1]) (rest := []) ⟨hx, hb, hml, hown, hts⟩ (k_X8_in l E a0 N s0 t0 p2 0 1 q12 hc_12 _) (cwV 3 hts gX8_can_X8_in rfl rfl rfl (by decide +kernel) ⟨(Nat.le_of_ble_eq_true rfl), (Nat.le_of_ble_eq_true rfl)⟩) (pre_v (ci := 8) (q0 := 0) hK hP (hDD s0 t0) hS hG hAB rfl rfl) rfl rfl hl.1 rfl (lv_room (Nat.le_of_ble_eq_true rfl)) dX8_can_12 ⟨Nat.zero_le _, Nat.zero_le _⟩) hS (w_free (hDD s0 t0) hS hA (fun _ h => h)) (fun H locs hP1 hk hS => ?_)
    have hP := hP1
    refine lv_if_ne (tgt := 20) hx hb dX8_can_15 (by decide) (fun c_15 => ?_) (fun c_15 => ?_)
    · have hf := ite_f c_15 hf
      refine lv_aload_n hx hb dX8_can_20 rfl (lv_at hl 0 rfl) ?_
      refine va_get (ci := 8) (C := RX8) (T := TX8) (N := 67) (v := .ref (a0 2)) hx hb hts i_X8_can_X8 hown hK hP 0 rfl rfl 4 (by decide) (hts _ m_X8_can_7b6120) (fun _ h9 => h9) rfl dX8_can_21 ?_
      refine lv_iload_n hx hb dX8_can_24 rfl (lv_at hl 1 rfl) ?_
      obtain ⟨h_25, hf⟩ := ck_e hf
      refine va_iald (cA := E.2.1) (n := 6) (f := s0 4) hx hb hK hP 2 0 rfl rfl h_25 dX8_can_25 ?_
      refine lv_topi (fun x26 e_x26 => ?_)
      have hf := nm_q e_x26 hf
      refine lv_istore_n (lv' := [(3, .int x26), (0, .ref (a0 0)), (1, .int p1), (2, .int p2)]) hx hb dX8_can_26 rfl hl (Nat.le_of_ble_eq_true rfl) rfl (fun ls hl => ?_)
      refine lv_iconst (v := 0) hx hb dX8_can_27 (by decide) ?_
      refine lv_istore (lv' := [(4, .int 0), (3, .int x26), (0, .ref (a0 0)), (1, .int p1), (2, .int p2)]) hx hb dX8_can_28 hl (Nat.le_of_ble_eq_true rfl) rfl (fun ls hl => ?_)
      refine lv_bipush (v := (-5)) hx hb dX8_can_30 (by decide) ?_
      refine lv_topi (fun x32 e_x32 => ?_)
      have hf := nm_q e_x32 hf
      refine lv_istore (lv' := [(5, .int x32), (4, .int 0), (3, .int x26), (0, .ref (a0 0)), (1, .int p1), (2, .int p2)]) hx hb dX8_can_32 hl (Nat.le_of_ble_eq_true rfl) rfl (fun ls hl => ?_)
      refine lv_bipush (v := 9) hx hb dX8_can_34 (by decide) ?_
      refine lv_istore (lv' := [(6, .int 9), (5, .int x32), (4, .int 0), (3, .int x26), (0, .ref (a0 0)), (1, .int p1), (2, .int p2)]) hx hb dX8_can_36 hl (Nat.le_of_ble_eq_true rfl) rfl (fun ls hl => ?_)
      exact hL_38 p1 p2 x26 N s0 0 x32 9 hf _ _ _ hP hS (lv_sub hl [4, 5, 6, 3, 2, 1, 0] rfl)
    · have hf := ite_t c_15 hf
      refine lv_iconst (v := (-1)) hx hb dX8_can_18 (by decide) ?_
      have e9 := Option.some.inj hf
      exact rt_i hx hb hr hlocks (fst_e e9) (rtP (P := fun z => va_P E.1 vwCl (wX8 E a0 z.2 t0) H) e9 hP) hS dX8_can_19
abbrev rm_X8_divisor : Room := { frames := 0, cells := 0, slots := 0, locals := 0 }
set_option maxHeartbeats 8000000 in
set_option maxRecDepth 100000 in
theorem k_X8_divisor (l : Launch) (E : Ev) (a0 : Nat → Nat) (N : Nat) (s0 : St) (t0 : Nat → Nat → Int64) (p1 : Int32) (p2 : Int32) (q : (Int32)) (hf : f_X8_divisor N p1 p2 = some q) : Ci l yX8_divisor wsX8_divisor rm_X8_divisor E [.ref (a0 0), .int p1, .int p2] (wX8 E a0 s0 t0) (wX8 E a0 s0 t0) q := by
  unfold f_X8_divisor at hf
  intro sz
  refine Met.ofW (cc := cX8_divisor) (maxL := 6) (ret := (some .int)) (by decide) rfl ?_
  intro p e s m args below meth c s₁ B hml hv
  obtain ⟨rfl, hsz, hP, hK, hD0, hG, hA, hAB⟩ := start hv
  have hx := B.exec
  have hb := B.bytes
  have hr := B.returns
  have hts := atoms_spec (ws := wsX8_divisor) B.pre
  have hown : s.vm.findClass RX8 = some m.cls := findClass_of_methodNamed B.named
  have hlocks := B.notSynchronized
  subst hsz
  generalize va_A (wX8 E a0 s0 t0) s.heap.size = A0 at hD0 hA hAB ⊢
  have hDD : ∀ (s0 : St) (t0 : Nat → Nat → Int64), va_D A0 (wX8 E a0 s0 t0) := fun s0 t0 => vD_addr hD0 rfl
  have hS : va_S A0 s.heap s.heap [] := va_S.rf
  have hl := lv_entry ([.ref (a0 0), .int p1, .int p2]) (n := 6) (Nat.le_of_ble_eq_true rfl)
  rw [lg_entry_eq]
  generalize (lg_sl ([.ref (a0 0), .int p1, .int p2]) ++ List.replicate (6 - (lg_sl ([.ref (a0 0), .int p1, .int p2])).length) Slot.unset).toArray = ls at hl ⊢
  have hl : lv_has ls 6 [(0, .ref (a0 0)), (1, .int p1), (2, .int p2)] := hl
  have hL_5 : ∀ (n_5 : Nat) (v3 : Int32) (v4 : Int32), l_X8_divisor_5 N n_5 v3 v4 = some q → ∀ (H : Heap) (locs : List Loc) (ls : Array Slot), va_P E.1 vwCl (wX8 E a0 s0 t0) H → va_S A0 s.heap H locs → lv_has ls 6 [(3, .int v3), (4, .int v4)] → W p l e rm_X8_divisor s m ([.ref (a0 0), .int p1, .int p2] : List Value).toArray below meth c H locs 0 0 (MQ below (va_Qi (fun (r' : Int32) (_ : Unit) => r' = q) (fun _ t => va_P E.1 vwCl (wX8 E a0 s0 t0) t.heap) A0) ([.ref (a0 0), .int p1, .int p2] : List Value).toArray s 0 0 A0) (F0 m 5 ls []) := by
    intro n_5
    induction n_5 with
    | zero => intro v3 v4 hf; rw [l_X8_divisor_5] at hf; cases hf
    | succ n_5 ih_5 =>
      intro v3 v4 hf H locs ls hP hS hl
      rw [l_X8_divisor_5] at hf
      refine lv_iload hx hb dX8_divisor_5 (lv_at hl 1 rfl) ?_
      refine lv_if_eq (tgt := 26) hx hb dX8_divisor_7 (by decide) (fun c_7 => ?_) (fun c_7 => ?_)
      · have hf := ite_t c_7 hf
        refine lv_iload_n hx hb dX8_divisor_26 rfl (lv_at hl 0 rfl) ?_
        have e9 := Option.some.inj hf
        exact rt_i hx hb hr hlocks e9 hP hS dX8_divisor_27
      · have hf := ite_f c_7 hf
        refine lv_iload_n hx hb dX8_divisor_10 rfl (lv_at hl 0 rfl) ?_
        refine lv_iload hx hb dX8_divisor_11 (lv_at hl 1 rfl) ?_
        obtain ⟨hz_13, hf⟩ := cz_e hf
        refine lv_irem hx hb dX8_divisor_13 hz_13 ?_
        refine lv_topi (fun x14 e_x14 => ?_)
        have hf := nm_q e_x14 hf
        refine lv_istore (lv' := [(5, .int x14), (3, .int v3), (4, .int v4)]) hx hb dX8_divisor_14 hl (Nat.le_of_ble_eq_true rfl) rfl (fun ls hl => ?_)
        refine lv_iload hx hb dX8_divisor_16 (lv_at hl 2 rfl) ?_
        refine lv_istore_n (lv' := [(3, .int v4), (5, .int x14), (4, .int v4)]) hx hb dX8_divisor_18 rfl hl (Nat.le_of_ble_eq_true rfl) rfl (fun ls hl => ?_)
        refine lv_iload hx hb dX8_divisor_19 (lv_at hl 1 rfl) ?_
        refine lv_istore (lv' := [(4, .int x14), (3, .int v4), (5, .int x14)]) hx hb dX8_divisor_21 hl (Nat.le_of_ble_eq_true rfl) rfl (fun ls hl => ?_)
        refine lv_goto (tgt := 5) hx hb dX8_divisor_23 (by decide) ?_
        exact ih_5 v4 x14 hf _ _ _ hP hS (lv_sub hl [1, 0] rfl)
  refine lv_iload_n hx hb dX8_divisor_0 rfl (lv_at hl 1 rfl) ?_
  refine lv_istore_n (lv' := [(3, .int p1), (0, .ref (a0 0)), (1, .int p1), (2, .int p2)]) hx hb dX8_divisor_1 rfl hl (Nat.le_of_ble_eq_true rfl) rfl (fun ls hl => ?_)
  refine lv_iload_n hx hb dX8_divisor_2 rfl (lv_at hl 3 rfl) ?_
  refine lv_istore (lv' := [(4, .int p2), (3, .int p1), (0, .ref (a0 0)), (1, .int p1), (2, .int p2)]) hx hb dX8_divisor_3 hl (Nat.le_of_ble_eq_true rfl) rfl (fun ls hl => ?_)
  exact hL_5 N p1 p2 hf _ _ _ hP hS (lv_sub hl [1, 0] rfl)
abbrev rm_X8_lowest : Room := { frames := 1, cells := 0, slots := 0, locals := 25 }
set_option maxHeartbeats 8000000 in
set_option maxRecDepth 100000 in
theorem k_X8_lowest (l : Launch) (E : Ev) (a0 : Nat → Nat) (N : Nat) (s0 : St) (t0 : Nat → Nat → Int64) (p1 : Int32) (p2 : Int32) (p3 : Int32) (q : (Int64)) (hf : f_X8_lowest N p1 p2 p3 = some q) : Cl l yX8_lowest wsX8_lowest rm_X8_lowest E [.ref (a0 0), .int p1, .int p2, .int p3] (wX8 E a0 s0 t0) (wX8 E a0 s0 t0) q := by
  unfold f_X8_lowest at hf
  intro sz
  refine Met.ofW (cc := cX8_lowest) (maxL := 5) (ret := (some .long)) (by decide) rfl ?_
  intro p e s m args below meth c s₁ B hml hv
  obtain ⟨rfl, hsz, hP, hK, hD0, hG, hA, hAB⟩ := start hv
  have hx := B.exec
  have hb := B.bytes
  have hr := B.returns
  have hts := atoms_spec (ws := wsX8_lowest) B.pre
  have hown : s.vm.findClass RX8 = some m.cls := findClass_of_methodNamed B.named
  have hlocks := B.notSynchronized
  subst hsz
  generalize va_A (wX8 E a0 s0 t0) s.heap.size = A0 at hD0 hA hAB ⊢
  have hDD : ∀ (s0 : St) (t0 : Nat → Nat → Int64), va_D A0 (wX8 E a0 s0 t0) := fun s0 t0 => vD_addr hD0 rfl
  have hS : va_S A0 s.heap s.heap [] := va_S.rf
  have hl := lv_entry ([.ref (a0 0), .int p1, .int p2, .int p3]) (n := 5) (Nat.le_of_ble_eq_true rfl)
  rw [lg_entry_eq]
  generalize (lg_sl ([.ref (a0 0), .int p1, .int p2, .int p3]) ++ List.replicate (5 - (lg_sl ([.ref (a0 0), .int p1, .int p2, .int p3])).length) Slot.unset).toArray = ls at hl ⊢
  have hl : lv_has ls 5 [(0, .ref (a0 0)), (1, .int p1), (2, .int p2), (3, .int p3)] := hl
  refine lv_aload_n hx hb dX8_lowest_0 rfl (lv_at hl 0 rfl) ?_
  refine lv_iload_n hx hb dX8_lowest_1 rfl (lv_at hl 1 rfl) ?_
  refine lv_iload_n hx hb dX8_lowest_2 rfl (lv_at hl 2 rfl) ?_
  obtain ⟨q3, hc_3, hf⟩ := cl_e hf
  refine fin_i (E := E) (wc := wX8 E a0 s0 t0) (wc' := wX8 E a0 s0 t0) (va_runV (As := [.int p1, .int p2]) (rest := []) ⟨hx, hb, hml, hown, hts⟩ (k_X8_divisor l E a0 N s0 t0 p1 p2 q3 hc_3 _) (cwV 2 hts gX8_lowest_X8_divisor rfl rfl rfl (by decide +kernel) ⟨(Nat.le_of_ble_eq_true rfl), (Nat.le_of_ble_eq_true rfl)⟩) (pre_v (ci := 8) (q0 := 0) hK hP (hDD s0 t0) hS hG hAB rfl rfl) rfl rfl hl.1 rfl (lv_room (Nat.le_of_ble_eq_true rfl)) dX8_lowest_3 ⟨Nat.zero_le _, Nat.zero_le _⟩) hS (w_free (hDD s0 t0) hS hA (fun _ h => h)) (fun H locs hP1 hk hS => ?_)
  have hP := hP1
  refine lv_istore (lv' := [(4, .int q3), (0, .ref (a0 0)), (1, .int p1), (2, .int p2), (3, .int p3)]) hx hb dX8_lowest_6 hl (Nat.le_of_ble_eq_true rfl) rfl (fun ls hl => ?_)
  refine lv_iload_n hx hb dX8_lowest_8 rfl (lv_at hl 4 rfl) ?_
  refine lv_if_ne (tgt := 20) hx hb dX8_lowest_9 (by decide) (fun c_9 => ?_) (fun c_9 => ?_)
  · have hf := ite_f c_9 hf
    refine lv_iload_n hx hb dX8_lowest_20 rfl (lv_at hl 3 rfl) ?_
    refine lv_iload hx hb dX8_lowest_21 (lv_at hl 0 rfl) ?_
    obtain ⟨hz_23, hf⟩ := cz_e hf
    refine lv_idiv hx hb dX8_lowest_23 hz_23 ?_
    refine lv_i2l (v := (p2 / q3).toInt64) hx hb dX8_lowest_24 rfl ?_
    have e9 := Option.some.inj hf
    exact rt_l hx hb hr hlocks e9 hP hS dX8_lowest_25
  · have hf := ite_t c_9 hf
    refine lv_iload_n hx hb dX8_lowest_12 rfl (lv_at hl 2 rfl) ?_
    refine lv_iload hx hb dX8_lowest_13 (lv_at hl 0 rfl) ?_
    obtain ⟨hz_15, hf⟩ := cz_e hf
    refine lv_idiv hx hb dX8_lowest_15 hz_15 ?_
    refine lv_i2l (v := (p1 / q3).toInt64) hx hb dX8_lowest_16 rfl ?_
    refine lv_goto (tgt := 25) hx hb dX8_lowest_17 (by decide) ?_
    have e9 := Option.some.inj hf
    exact rt_l hx hb hr hlocks e9 hP hS dX8_lowest_25
abbrev rm_X8_odds : Room := { frames := 10, cells := 0, slots := 0, locals := 222 }
theorem m_X8_odds_acbb5e : Cond.fieldLink RX8 7 "PickedMatchModel" "things" "I" ∈ wsX8_odds := by decide +kernel
theorem i_X8_odds_X8 : ∀ w ∈ wsX80, w ∈ wsX8_odds := fun _ h => List.mem_cons_of_mem _ (List.mem_append_right _ h)
theorem m_X8_odds_fa4c49 : Cond.fieldLink RX8 26 "PickedMatchModel" "marks" "[I" ∈ wsX8_odds := by decide +kernel
theorem m_X8_odds_92e5f7 : Cond.fieldLink RX8 13 "PickedMatchModel" "had" "I" ∈ wsX8_odds := by decide +kernel
theorem m_X8_odds_0e2524 : Cond.constantLong RX8 391 (-9223372036854775808) ∈ wsX8_odds := by decide +kernel
set_option maxHeartbeats 8000000 in
set_option maxRecDepth 100000 in
theorem k_X8_odds (l : Launch) (E : Ev) (a0 : Nat → Nat) (N : Nat) (s0 : St) (t0 : Nat → Nat → Int64) (p1 : Int32) (p2 : Int32) (p3 : Int32) (q : (Int64 × St)) (hf : f_X8_odds N s0 p1 p2 p3 = some q) : Cl l yX8_odds wsX8_odds rm_X8_odds E [.ref (a0 0), .int p1, .int p2, .int p3] (wX8 E a0 s0 t0) (wX8 E a0 q.2 t0) q.1 := by
  unfold f_X8_odds at hf
  intro sz
  refine Met.ofW (cc := cX8_odds) (maxL := 7) (ret := (some .long)) (by decide) rfl ?_
  intro p e s m args below meth c s₁ B hml hv
  obtain ⟨rfl, hsz, hP, hK, hD0, hG, hA, hAB⟩ := start hv
  have hx := B.exec
  have hb := B.bytes
  have hr := B.returns
  have hts := atoms_spec (ws := wsX8_odds) B.pre
  have hown : s.vm.findClass RX8 = some m.cls := findClass_of_methodNamed B.named
  have hlocks := B.notSynchronized
  subst hsz
  generalize va_A (wX8 E a0 s0 t0) s.heap.size = A0 at hD0 hA hAB ⊢
  have hDD : ∀ (s0 : St) (t0 : Nat → Nat → Int64), va_D A0 (wX8 E a0 s0 t0) := fun s0 t0 => vD_addr hD0 rfl
  have hS : va_S A0 s.heap s.heap [] := va_S.rf
  have hl := lv_entry ([.ref (a0 0), .int p1, .int p2, .int p3]) (n := 7) (Nat.le_of_ble_eq_true rfl)
  rw [lg_entry_eq]
  generalize (lg_sl ([.ref (a0 0), .int p1, .int p2, .int p3]) ++ List.replicate (7 - (lg_sl ([.ref (a0 0), .int p1, .int p2, .int p3])).length) Slot.unset).toArray = ls at hl ⊢
  have hl : lv_has ls 7 [(0, .ref (a0 0)), (1, .int p1), (2, .int p2), (3, .int p3)] := hl
  have hL_43 : ∀ (v1 : Int32) (v2 : Int32) (v3 : Int32) (n_43 : Nat) (s0 : St) (v4 : Int32) (v5 : Int32), l_X8_odds_43 N v1 v2 v3 n_43 s0 v4 v5 = some q → ∀ (H : Heap) (locs : List Loc) (ls : Array Slot), va_P E.1 vwCl (wX8 E a0 s0 t0) H → va_S A0 s.heap H locs → lv_has ls 7 [(0, .ref (a0 0)), (1, .int v1), (2, .int v2), (3, .int v3), (4, .int v4), (5, .int v5)] → W p l e rm_X8_odds s m ([.ref (a0 0), .int p1, .int p2, .int p3] : List Value).toArray below meth c H locs 0 0 (MQ below (va_Ql (fun (r' : Int64) (_ : Unit) => r' = q.1) (fun _ t => va_P E.1 vwCl (wX8 E a0 q.2 t0) t.heap) A0) ([.ref (a0 0), .int p1, .int p2, .int p3] : List Value).toArray s 0 0 A0) (F0 m 43 ls []) := by
    intro v1 v2 v3 n_43
    induction n_43 with
    | zero => intro s0 v4 v5 hf; rw [l_X8_odds_43] at hf; cases hf
    | succ n_43 ih_43 =>
      intro s0 v4 v5 hf H locs ls hP hS hl
      rw [l_X8_odds_43] at hf
      refine lv_iload hx hb dX8_odds_43 (lv_at hl 5 rfl) ?_
      refine lv_aload_n hx hb dX8_odds_45 rfl (lv_at hl 0 rfl) ?_
      refine va_get (ci := 8) (C := RX8) (T := TX8) (N := 67) (v := .int (s0 0 0)) hx hb hts i_X8_odds_X8 hown hK hP 0 rfl rfl 0 (by decide) (hts _ m_X8_odds_acbb5e) (fun _ h9 => h9) rfl dX8_odds_46 ?_
      refine lv_icmp_ge (tgt := 115) hx hb dX8_odds_49 (by decide) (fun c_49 => ?_) (fun c_49 => ?_)
      · have hf := ite_t c_49 hf
        refine lv_aload_n hx hb dX8_odds_115 rfl (lv_at hl 0 rfl) ?_
        refine lv_iload hx hb dX8_odds_116 (lv_at hl 4 rfl) ?_
        refine lv_aload_n hx hb dX8_odds_118 rfl (lv_at hl 0 rfl) ?_
        refine va_get (ci := 8) (C := RX8) (T := TX8) (N := 67) (v := .int (s0 0 0)) hx hb hts i_X8_odds_X8 hown hK hP 0 rfl rfl 0 (by decide) (hts _ m_X8_odds_acbb5e) (fun _ h9 => h9) rfl dX8_odds_119 ?_
        refine lv_iload_n hx hb dX8_odds_122 rfl (lv_at hl 3 rfl) ?_
        obtain ⟨q123, hc_123, hf⟩ := cl_e hf
        refine fin_l (E := E) (wc := wX8 E a0 s0 t0) (wc' := wX8 E a0 s0 t0) (va_runV (As := [.int v4, .int (s0 0 0), .int v3]) (rest := []) ⟨hx, hb, hml, hown, hts⟩ (k_X8_lowest l E a0 N s0 t0 v4 (s0 0 0) v3 q123 hc_123 _) (cwV 3 hts gX8_odds_X8_lowest rfl rfl rfl (by decide +kernel) ⟨(Nat.le_of_ble_eq_true rfl), (Nat.le_of_ble_eq_true rfl)⟩) (pre_v (ci := 8) (q0 := 0) hK hP (hDD s0 t0) hS hG hAB rfl rfl) rfl rfl hl.1 rfl (lv_room (Nat.le_of_ble_eq_true rfl)) dX8_odds_123 ⟨Nat.zero_le _, Nat.zero_le _⟩) hS (w_free (hDD s0 t0) hS hA (fun _ h => h)) (fun H locs hP1 hk hS => ?_)
        have hP := hP1
        have e9 := Option.some.inj hf
        exact rt_l hx hb hr hlocks (fst_e e9) (rtP (P := fun z => va_P E.1 vwCl (wX8 E a0 z.2 t0) H) e9 hP) hS dX8_odds_126
      · have hf := ite_f c_49 hf
        refine lv_aload_n hx hb dX8_odds_52 rfl (lv_at hl 0 rfl) ?_
        refine va_get (ci := 8) (C := RX8) (T := TX8) (N := 67) (v := .ref (a0 3)) hx hb hts i_X8_odds_X8 hown hK hP 0 rfl rfl 5 (by decide) (hts _ m_X8_odds_fa4c49) (fun _ h9 => h9) rfl dX8_odds_53 ?_
        refine lv_iload hx hb dX8_odds_56 (lv_at hl 5 rfl) ?_
        obtain ⟨h_58, hf⟩ := ck_e hf
        refine va_iald (cA := E.2.1) (n := 6) (f := s0 5) hx hb hK hP 3 0 rfl rfl h_58 dX8_odds_58 ?_
        refine lv_topi (fun x59 e_x59 => ?_)
        have hf := nm_q e_x59 hf
        refine lv_istore (lv' := [(6, .int x59), (0, .ref (a0 0)), (1, .int v1), (2, .int v2), (3, .int v3), (4, .int v4), (5, .int v5)]) hx hb dX8_odds_59 hl (Nat.le_of_ble_eq_true rfl) rfl (fun ls hl => ?_)
        refine lv_aload_n hx hb dX8_odds_61 rfl (lv_at hl 1 rfl) ?_
        refine va_get (ci := 8) (C := RX8) (T := TX8) (N := 67) (v := .ref (a0 3)) hx hb hts i_X8_odds_X8 hown hK hP 0 rfl rfl 5 (by decide) (hts _ m_X8_odds_fa4c49) (fun _ h9 => h9) rfl dX8_odds_62 ?_
        refine lv_iload hx hb dX8_odds_65 (lv_at hl 6 rfl) ?_
        refine lv_iconst (v := 0) hx hb dX8_odds_67 (by decide) ?_
        obtain ⟨h_68, hf⟩ := ck_e hf
        refine va_iast (cA := E.2.1) (n := 6) (f := s0 5) (x := 0) hx hb hK hP (hDD s0 t0) hS 3 0 rfl rfl h_68 dX8_odds_68 (fun H locs hP _ hS => ?_)
        obtain ⟨s0_68, hP, hf⟩ := nm_st' (P := fun z => va_P E.1 vwCl (wX8 E a0 z t0) H) hf hP
        refine lv_aload_n hx hb dX8_odds_69 rfl (lv_at hl 1 rfl) ?_
        obtain ⟨q70, hc_70, hf⟩ := cl_e hf
        refine fin_v (E := E) (wc := wX8 E a0 s0_68 t0) (wc' := wX8 E a0 q70 t0) (va_runV (As := []) (rest := []) ⟨hx, hb, hml, hown, hts⟩ (k_X8_save l E a0 N s0_68 t0 q70 hc_70 _) (cwV 0 hts gX8_odds_X8_save rfl rfl rfl (by decide +kernel) ⟨(Nat.le_of_ble_eq_true rfl), (Nat.le_of_ble_eq_true rfl)⟩) (pre_v (ci := 8) (q0 := 0) hK hP (hDD s0_68 t0) hS hG hAB rfl rfl) rfl rfl hl.1 rfl (lv_room (Nat.le_of_ble_eq_true rfl)) dX8_odds_70 ⟨Nat.zero_le _, Nat.zero_le _⟩) hS (w_free (hDD s0_68 t0) hS hA (fun _ h => h)) (fun H locs hP1 hk hS => ?_)
        have hP := hP1
        refine lv_aload_n hx hb dX8_odds_73 rfl (lv_at hl 1 rfl) ?_
        refine lv_iload_n hx hb dX8_odds_74 rfl (lv_at hl 2 rfl) ?_
        obtain ⟨q75, hc_75, hf⟩ := cl_e hf
        refine fin_v (E := E) (wc := wX8 E a0 q70 t0) (wc' := wX8 E a0 q75 t0) (va_runV (As := [.int v1]) (rest := []) ⟨hx, hb, hml, hown, hts⟩ (k_X8_goDays l E a0 N q70 t0 v1 q75 hc_75 _) (cwV 1 hts gX8_odds_X8_goDays rfl rfl rfl (by decide +kernel) ⟨(Nat.le_of_ble_eq_true rfl), (Nat.le_of_ble_eq_true rfl)⟩) (pre_v (ci := 8) (q0 := 0) hK hP (hDD q70 t0) hS hG hAB rfl rfl) rfl rfl hl.1 rfl (lv_room (Nat.le_of_ble_eq_true rfl)) dX8_odds_75 ⟨Nat.zero_le _, Nat.zero_le _⟩) hS (w_free (hDD q70 t0) hS hA (fun _ h => h)) (fun H locs hP1 hk hS => ?_)
        have hP := hP1
        refine lv_iload hx hb dX8_odds_78 (lv_at hl 5 rfl) ?_
        refine lv_aload_n hx hb dX8_odds_80 rfl (lv_at hl 1 rfl) ?_
        refine va_get (ci := 8) (C := RX8) (T := TX8) (N := 67) (v := .int (q75 1 0)) hx hb hts i_X8_odds_X8 hown hK hP 0 rfl rfl 1 (by decide) (hts _ m_X8_odds_92e5f7) (fun _ h9 => h9) rfl dX8_odds_81 ?_
        refine lv_iload_n hx hb dX8_odds_84 rfl (lv_at hl 3 rfl) ?_
        refine lv_icmp_lt (tgt := 92) hx hb dX8_odds_85 (by decide) (fun c_85 => ?_) (fun c_85 => ?_)
        · have hf := ite_t c_85 hf
          refine lv_iconst (v := 0) hx hb dX8_odds_92 (by decide) ?_
          refine lv_iadd hx hb dX8_odds_93 ?_
          refine lv_topi (fun x94 e_x94 => ?_)
          have hf := nm_q e_x94 hf
          refine lv_istore (lv' := [(4, .int x94), (6, .int x59), (0, .ref (a0 0)), (1, .int v1), (2, .int v2), (3, .int v3), (5, .int v5)]) hx hb dX8_odds_94 hl (Nat.le_of_ble_eq_true rfl) rfl (fun ls hl => ?_)
          refine lv_aload_n hx hb dX8_odds_96 rfl (lv_at hl 2 rfl) ?_
          obtain ⟨q97, hc_97, hf⟩ := cl_e hf
          refine fin_v (E := E) (wc := wX8 E a0 q75 t0) (wc' := wX8 E a0 q97 t0) (va_runV (As := []) (rest := []) ⟨hx, hb, hml, hown, hts⟩ (k_X8_putBack l E a0 N q75 t0 q97 hc_97 _) (cwV 0 hts gX8_odds_X8_putBack rfl rfl rfl (by decide +kernel) ⟨(Nat.le_of_ble_eq_true rfl), (Nat.le_of_ble_eq_true rfl)⟩) (pre_v (ci := 8) (q0 := 0) hK hP (hDD q75 t0) hS hG hAB rfl rfl) rfl rfl hl.1 rfl (lv_room (Nat.le_of_ble_eq_true rfl)) dX8_odds_97 ⟨Nat.zero_le _, Nat.zero_le _⟩) hS (w_free (hDD q75 t0) hS hA (fun _ h => h)) (fun H locs hP1 hk hS => ?_)
          have hP := hP1
          refine lv_aload_n hx hb dX8_odds_100 rfl (lv_at hl 2 rfl) ?_
          refine va_get (ci := 8) (C := RX8) (T := TX8) (N := 67) (v := .ref (a0 3)) hx hb hts i_X8_odds_X8 hown hK hP 0 rfl rfl 5 (by decide) (hts _ m_X8_odds_fa4c49) (fun _ h9 => h9) rfl dX8_odds_101 ?_
          refine lv_iload hx hb dX8_odds_104 (lv_at hl 6 rfl) ?_
          refine lv_iload hx hb dX8_odds_106 (lv_at hl 1 rfl) ?_
          obtain ⟨h_108, hf⟩ := ck_e hf
          refine va_iast (cA := E.2.1) (n := 6) (f := q97 5) (x := x59) hx hb hK hP (hDD q97 t0) hS 3 0 rfl rfl h_108 dX8_odds_108 (fun H locs hP _ hS => ?_)
          obtain ⟨s0_108, hP, hf⟩ := nm_st' (P := fun z => va_P E.1 vwCl (wX8 E a0 z t0) H) hf hP
          obtain ⟨x109, e_x109⟩ : ∃ y : Int32, y = v5 + 1 := ⟨_, rfl⟩
          have hf := nm_q e_x109 hf
          refine lv_iinc (v := x109) (lv' := [(5, .int x109), (4, .int x94), (6, .int x59), (0, .ref (a0 0)), (1, .int v1), (2, .int v2), (3, .int v3)]) hx hb dX8_odds_109 hl (k := 6) rfl (by rw [e_x109]; rfl) (Nat.le_of_ble_eq_true rfl) rfl (fun ls hl => ?_)
          refine lv_goto (tgt := 43) hx hb dX8_odds_112 (by decide) ?_
          exact ih_43 s0_108 x94 x109 hf _ _ _ hP hS (lv_sub hl [3, 4, 5, 6, 1, 0] rfl)
        · have hf := ite_f c_85 hf
          refine lv_iconst (v := 1) hx hb dX8_odds_88 (by decide) ?_
          refine lv_goto (tgt := 93) hx hb dX8_odds_89 (by decide) ?_
          refine lv_iadd hx hb dX8_odds_93 ?_
          refine lv_topi (fun x94 e_x94 => ?_)
          have hf := nm_q e_x94 hf
          refine lv_istore (lv' := [(4, .int x94), (6, .int x59), (0, .ref (a0 0)), (1, .int v1), (2, .int v2), (3, .int v3), (5, .int v5)]) hx hb dX8_odds_94 hl (Nat.le_of_ble_eq_true rfl) rfl (fun ls hl => ?_)
          refine lv_aload_n hx hb dX8_odds_96 rfl (lv_at hl 2 rfl) ?_
          obtain ⟨q97, hc_97, hf⟩ := cl_e hf
          refine fin_v (E := E) (wc := wX8 E a0 q75 t0) (wc' := wX8 E a0 q97 t0) (va_runV (As := []) (rest := []) ⟨hx, hb, hml, hown, hts⟩ (k_X8_putBack l E a0 N q75 t0 q97 hc_97 _) (cwV 0 hts gX8_odds_X8_putBack rfl rfl rfl (by decide +kernel) ⟨(Nat.le_of_ble_eq_true rfl), (Nat.le_of_ble_eq_true rfl)⟩) (pre_v (ci := 8) (q0 := 0) hK hP (hDD q75 t0) hS hG hAB rfl rfl) rfl rfl hl.1 rfl (lv_room (Nat.le_of_ble_eq_true rfl)) dX8_odds_97 ⟨Nat.zero_le _, Nat.zero_le _⟩) hS (w_free (hDD q75 t0) hS hA (fun _ h => h)) (fun H locs hP1 hk hS => ?_)
          have hP := hP1
          refine lv_aload_n hx hb dX8_odds_100 rfl (lv_at hl 2 rfl) ?_
          refine va_get (ci := 8) (C := RX8) (T := TX8) (N := 67) (v := .ref (a0 3)) hx hb hts i_X8_odds_X8 hown hK hP 0 rfl rfl 5 (by decide) (hts _ m_X8_odds_fa4c49) (fun _ h9 => h9) rfl dX8_odds_101 ?_
          refine lv_iload hx hb dX8_odds_104 (lv_at hl 6 rfl) ?_
          refine lv_iload hx hb dX8_odds_106 (lv_at hl 1 rfl) ?_
          obtain ⟨h_108, hf⟩ := ck_e hf
          refine va_iast (cA := E.2.1) (n := 6) (f := q97 5) (x := x59) hx hb hK hP (hDD q97 t0) hS 3 0 rfl rfl h_108 dX8_odds_108 (fun H locs hP _ hS => ?_)
          obtain ⟨s0_108, hP, hf⟩ := nm_st' (P := fun z => va_P E.1 vwCl (wX8 E a0 z t0) H) hf hP
          obtain ⟨x109, e_x109⟩ : ∃ y : Int32, y = v5 + 1 := ⟨_, rfl⟩
          have hf := nm_q e_x109 hf
          refine lv_iinc (v := x109) (lv' := [(5, .int x109), (4, .int x94), (6, .int x59), (0, .ref (a0 0)), (1, .int v1), (2, .int v2), (3, .int v3)]) hx hb dX8_odds_109 hl (k := 6) rfl (by rw [e_x109]; rfl) (Nat.le_of_ble_eq_true rfl) rfl (fun ls hl => ?_)
          refine lv_goto (tgt := 43) hx hb dX8_odds_112 (by decide) ?_
          exact ih_43 s0_108 x94 x109 hf _ _ _ hP hS (lv_sub hl [3, 4, 5, 6, 1, 0] rfl)
  refine lv_aload_n hx hb dX8_odds_0 rfl (lv_at hl 0 rfl) ?_
  refine lv_iload_n hx hb dX8_odds_1 rfl (lv_at hl 1 rfl) ?_
  obtain ⟨q2, hc_2, hf⟩ := cl_e hf
  refine fin_i (E := E) (wc := wX8 E a0 s0 t0) (wc' := wX8 E a0 s0 t0) (va_runV (As := [.int p1]) (rest := []) ⟨hx, hb, hml, hown, hts⟩ (k_X8_isDays l E a0 N s0 t0 p1 q2 hc_2 _) (cwV 1 hts gX8_odds_X8_isDays rfl rfl rfl (by decide +kernel) ⟨(Nat.le_of_ble_eq_true rfl), (Nat.le_of_ble_eq_true rfl)⟩) (pre_v (ci := 8) (q0 := 0) hK hP (hDD s0 t0) hS hG hAB rfl rfl) rfl rfl hl.1 rfl (lv_room (Nat.le_of_ble_eq_true rfl)) dX8_odds_2 ⟨Nat.zero_le _, Nat.zero_le _⟩) hS (w_free (hDD s0 t0) hS hA (fun _ h => h)) (fun H locs hP1 hk hS => ?_)
  have hP := hP1
  refine lv_if_eq (tgt := 33) hx hb dX8_odds_5 (by decide) (fun c_5 => ?_) (fun c_5 => ?_)
  · have hf := ite_t c_5 hf
    refine lv_ldc2 (v := (-9223372036854775808)) hx hb hown (hts _ m_X8_odds_0e2524) dX8_odds_33 ?_
    have e9 := Option.some.inj hf
    exact rt_l hx hb hr hlocks (fst_e e9) (rtP (P := fun z => va_P E.1 vwCl (wX8 E a0 z.2 t0) H) e9 hP) hS dX8_odds_36
  · have hf := ite_f c_5 hf
    refine lv_aload_n hx hb dX8_odds_8 rfl (lv_at hl 0 rfl) ?_
    refine lv_iload_n hx hb dX8_odds_9 rfl (lv_at hl 2 rfl) ?_
    obtain ⟨q10, hc_10, hf⟩ := cl_e hf
    refine fin_i (E := E) (wc := wX8 E a0 s0 t0) (wc' := wX8 E a0 s0 t0) (va_runV (As := [.int p2]) (rest := []) ⟨hx, hb, hml, hown, hts⟩ (k_X8_isMany l E a0 N s0 t0 p2 q10 hc_10 _) (cwV 1 hts gX8_odds_X8_isMany rfl rfl rfl (by decide +kernel) ⟨(Nat.le_of_ble_eq_true rfl), (Nat.le_of_ble_eq_true rfl)⟩) (pre_v (ci := 8) (q0 := 0) hK hP (hDD s0 t0) hS hG hAB rfl rfl) rfl rfl hl.1 rfl (lv_room (Nat.le_of_ble_eq_true rfl)) dX8_odds_10 ⟨Nat.zero_le _, Nat.zero_le _⟩) hS (w_free (hDD s0 t0) hS hA (fun _ h => h)) (fun H locs hP1 hk hS => ?_)
    have hP := hP1
    refine lv_if_eq (tgt := 33) hx hb dX8_odds_13 (by decide) (fun c_13 => ?_) (fun c_13 => ?_)
    · have hf := ite_t c_13 hf
      refine lv_ldc2 (v := (-9223372036854775808)) hx hb hown (hts _ m_X8_odds_0e2524) dX8_odds_33 ?_
      have e9 := Option.some.inj hf
      exact rt_l hx hb hr hlocks (fst_e e9) (rtP (P := fun z => va_P E.1 vwCl (wX8 E a0 z.2 t0) H) e9 hP) hS dX8_odds_36
    · have hf := ite_f c_13 hf
      refine lv_aload_n hx hb dX8_odds_16 rfl (lv_at hl 0 rfl) ?_
      refine lv_iload_n hx hb dX8_odds_17 rfl (lv_at hl 3 rfl) ?_
      refine lv_iconst (v := 0) hx hb dX8_odds_18 (by decide) ?_
      refine lv_iconst (v := 1) hx hb dX8_odds_19 (by decide) ?_
      obtain ⟨q20, hc_20, hf⟩ := cl_e hf
      refine fin_i (E := E) (wc := wX8 E a0 s0 t0) (wc' := wX8 E a0 s0 t0) (va_runV (As := [.int p3, .int 0, .int 1]) (rest := []) ⟨hx, hb, hml, hown, hts⟩ (k_X8_in l E a0 N s0 t0 p3 0 1 q20 hc_20 _) (cwV 3 hts gX8_odds_X8_in rfl rfl rfl (by decide +kernel) ⟨(Nat.le_of_ble_eq_true rfl), (Nat.le_of_ble_eq_true rfl)⟩) (pre_v (ci := 8) (q0 := 0) hK hP (hDD s0 t0) hS hG hAB rfl rfl) rfl rfl hl.1 rfl (lv_room (Nat.le_of_ble_eq_true rfl)) dX8_odds_20 ⟨Nat.zero_le _, Nat.zero_le _⟩) hS (w_free (hDD s0 t0) hS hA (fun _ h => h)) (fun H locs hP1 hk hS => ?_)
      have hP := hP1
      refine lv_if_eq (tgt := 33) hx hb dX8_odds_23 (by decide) (fun c_23 => ?_) (fun c_23 => ?_)
      · have hf := ite_t c_23 hf
        refine lv_ldc2 (v := (-9223372036854775808)) hx hb hown (hts _ m_X8_odds_0e2524) dX8_odds_33 ?_
        have e9 := Option.some.inj hf
        exact rt_l hx hb hr hlocks (fst_e e9) (rtP (P := fun z => va_P E.1 vwCl (wX8 E a0 z.2 t0) H) e9 hP) hS dX8_odds_36
      · have hf := ite_f c_23 hf
        refine lv_aload_n hx hb dX8_odds_26 rfl (lv_at hl 0 rfl) ?_
        refine va_get (ci := 8) (C := RX8) (T := TX8) (N := 67) (v := .int (s0 0 0)) hx hb hts i_X8_odds_X8 hown hK hP 0 rfl rfl 0 (by decide) (hts _ m_X8_odds_acbb5e) (fun _ h9 => h9) rfl dX8_odds_27 ?_
        refine lv_if_ne (tgt := 37) hx hb dX8_odds_30 (by decide) (fun c_30 => ?_) (fun c_30 => ?_)
        · have hf := ite_f c_30 hf
          refine lv_iconst (v := 0) hx hb dX8_odds_37 (by decide) ?_
          refine lv_istore (lv' := [(4, .int 0), (0, .ref (a0 0)), (1, .int p1), (2, .int p2), (3, .int p3)]) hx hb dX8_odds_38 hl (Nat.le_of_ble_eq_true rfl) rfl (fun ls hl => ?_)
          refine lv_iconst (v := 0) hx hb dX8_odds_40 (by decide) ?_
          refine lv_istore (lv' := [(5, .int 0), (4, .int 0), (0, .ref (a0 0)), (1, .int p1), (2, .int p2), (3, .int p3)]) hx hb dX8_odds_41 hl (Nat.le_of_ble_eq_true rfl) rfl (fun ls hl => ?_)
          exact hL_43 p1 p2 p3 N s0 0 0 hf _ _ _ hP hS (lv_sub hl [2, 3, 4, 5, 1, 0] rfl)
        · have hf := ite_t c_30 hf
          refine lv_ldc2 (v := (-9223372036854775808)) hx hb hown (hts _ m_X8_odds_0e2524) dX8_odds_33 ?_
          have e9 := Option.some.inj hf
          exact rt_l hx hb hr hlocks (fst_e e9) (rtP (P := fun z => va_P E.1 vwCl (wX8 E a0 z.2 t0) H) e9 hP) hS dX8_odds_36
abbrev rm_X8_mean : Room := { frames := 2, cells := 0, slots := 0, locals := 49 }
theorem m_X8_mean_acbb5e : Cond.fieldLink RX8 7 "PickedMatchModel" "things" "I" ∈ wsX8_mean := by decide +kernel
theorem i_X8_mean_X8 : ∀ w ∈ wsX80, w ∈ wsX8_mean := fun _ h => List.mem_cons_of_mem _ (List.mem_append_right _ h)
theorem m_X8_mean_fa4c49 : Cond.fieldLink RX8 26 "PickedMatchModel" "marks" "[I" ∈ wsX8_mean := by decide +kernel
theorem m_X8_mean_0e2524 : Cond.constantLong RX8 391 (-9223372036854775808) ∈ wsX8_mean := by decide +kernel
set_option maxHeartbeats 8000000 in
set_option maxRecDepth 100000 in
theorem k_X8_mean (l : Launch) (E : Ev) (a0 : Nat → Nat) (N : Nat) (s0 : St) (t0 : Nat → Nat → Int64) (p1 : Int32) (q : (Int64)) (hf : f_X8_mean N s0 p1 = some q) : Cl l yX8_mean wsX8_mean rm_X8_mean E [.ref (a0 0), .int p1] (wX8 E a0 s0 t0) (wX8 E a0 s0 t0) q := by
  unfold f_X8_mean at hf
  intro sz
  refine Met.ofW (cc := cX8_mean) (maxL := 4) (ret := (some .long)) (by decide) rfl ?_
  intro p e s m args below meth c s₁ B hml hv
  obtain ⟨rfl, hsz, hP, hK, hD0, hG, hA, hAB⟩ := start hv
  have hx := B.exec
  have hb := B.bytes
  have hr := B.returns
  have hts := atoms_spec (ws := wsX8_mean) B.pre
  have hown : s.vm.findClass RX8 = some m.cls := findClass_of_methodNamed B.named
  have hlocks := B.notSynchronized
  subst hsz
  generalize va_A (wX8 E a0 s0 t0) s.heap.size = A0 at hD0 hA hAB ⊢
  have hDD : ∀ (s0 : St) (t0 : Nat → Nat → Int64), va_D A0 (wX8 E a0 s0 t0) := fun s0 t0 => vD_addr hD0 rfl
  have hS : va_S A0 s.heap s.heap [] := va_S.rf
  have hl := lv_entry ([.ref (a0 0), .int p1]) (n := 4) (Nat.le_of_ble_eq_true rfl)
  rw [lg_entry_eq]
  generalize (lg_sl ([.ref (a0 0), .int p1]) ++ List.replicate (4 - (lg_sl ([.ref (a0 0), .int p1])).length) Slot.unset).toArray = ls at hl ⊢
  have hl : lv_has ls 4 [(0, .ref (a0 0)), (1, .int p1)] := hl
  have hL_25 : ∀ (s0 : St) (v1 : Int32) (n_25 : Nat) (v2 : Int32) (v3 : Int32), l_X8_mean_25 N s0 v1 n_25 v2 v3 = some q → ∀ (H : Heap) (locs : List Loc) (ls : Array Slot), va_P E.1 vwCl (wX8 E a0 s0 t0) H → va_S A0 s.heap H locs → lv_has ls 4 [(0, .ref (a0 0)), (1, .int v1), (2, .int v2), (3, .int v3)] → W p l e rm_X8_mean s m ([.ref (a0 0), .int p1] : List Value).toArray below meth c H locs 0 0 (MQ below (va_Ql (fun (r' : Int64) (_ : Unit) => r' = q) (fun _ t => va_P E.1 vwCl (wX8 E a0 s0 t0) t.heap) A0) ([.ref (a0 0), .int p1] : List Value).toArray s 0 0 A0) (F0 m 25 ls []) := by
    intro s0 v1 n_25
    induction n_25 with
    | zero => intro v2 v3 hf; rw [l_X8_mean_25] at hf; cases hf
    | succ n_25 ih_25 =>
      intro v2 v3 hf H locs ls hP hS hl
      rw [l_X8_mean_25] at hf
      refine lv_iload_n hx hb dX8_mean_25 rfl (lv_at hl 3 rfl) ?_
      refine lv_aload_n hx hb dX8_mean_26 rfl (lv_at hl 0 rfl) ?_
      refine va_get (ci := 8) (C := RX8) (T := TX8) (N := 67) (v := .int (s0 0 0)) hx hb hts i_X8_mean_X8 hown hK hP 0 rfl rfl 0 (by decide) (hts _ m_X8_mean_acbb5e) (fun _ h9 => h9) rfl dX8_mean_27 ?_
      refine lv_icmp_ge (tgt := 52) hx hb dX8_mean_30 (by decide) (fun c_30 => ?_) (fun c_30 => ?_)
      · have hf := ite_t c_30 hf
        refine lv_aload_n hx hb dX8_mean_52 rfl (lv_at hl 0 rfl) ?_
        refine lv_iload_n hx hb dX8_mean_53 rfl (lv_at hl 2 rfl) ?_
        refine lv_aload_n hx hb dX8_mean_54 rfl (lv_at hl 0 rfl) ?_
        refine va_get (ci := 8) (C := RX8) (T := TX8) (N := 67) (v := .int (s0 0 0)) hx hb hts i_X8_mean_X8 hown hK hP 0 rfl rfl 0 (by decide) (hts _ m_X8_mean_acbb5e) (fun _ h9 => h9) rfl dX8_mean_55 ?_
        refine lv_iload_n hx hb dX8_mean_58 rfl (lv_at hl 1 rfl) ?_
        obtain ⟨q59, hc_59, hf⟩ := cl_e hf
        refine fin_l (E := E) (wc := wX8 E a0 s0 t0) (wc' := wX8 E a0 s0 t0) (va_runV (As := [.int v2, .int (s0 0 0), .int v1]) (rest := []) ⟨hx, hb, hml, hown, hts⟩ (k_X8_lowest l E a0 N s0 t0 v2 (s0 0 0) v1 q59 hc_59 _) (cwV 3 hts gX8_mean_X8_lowest rfl rfl rfl (by decide +kernel) ⟨(Nat.le_of_ble_eq_true rfl), (Nat.le_of_ble_eq_true rfl)⟩) (pre_v (ci := 8) (q0 := 0) hK hP (hDD s0 t0) hS hG hAB rfl rfl) rfl rfl hl.1 rfl (lv_room (Nat.le_of_ble_eq_true rfl)) dX8_mean_59 ⟨Nat.zero_le _, Nat.zero_le _⟩) hS (w_free (hDD s0 t0) hS hA (fun _ h => h)) (fun H locs hP1 hk hS => ?_)
        have hP := hP1
        have e9 := Option.some.inj hf
        exact rt_l hx hb hr hlocks e9 hP hS dX8_mean_62
      · have hf := ite_f c_30 hf
        refine lv_iload_n hx hb dX8_mean_33 rfl (lv_at hl 2 rfl) ?_
        refine lv_aload_n hx hb dX8_mean_34 rfl (lv_at hl 0 rfl) ?_
        refine lv_aload_n hx hb dX8_mean_35 rfl (lv_at hl 0 rfl) ?_
        refine va_get (ci := 8) (C := RX8) (T := TX8) (N := 67) (v := .ref (a0 3)) hx hb hts i_X8_mean_X8 hown hK hP 0 rfl rfl 5 (by decide) (hts _ m_X8_mean_fa4c49) (fun _ h9 => h9) rfl dX8_mean_36 ?_
        refine lv_iload_n hx hb dX8_mean_39 rfl (lv_at hl 3 rfl) ?_
        obtain ⟨h_40, hf⟩ := ck_e hf
        refine va_iald (cA := E.2.1) (n := 6) (f := s0 5) hx hb hK hP 3 0 rfl rfl h_40 dX8_mean_40 ?_
        obtain ⟨q41, hc_41, hf⟩ := cl_e hf
        refine fin_i (E := E) (wc := wX8 E a0 s0 t0) (wc' := wX8 E a0 s0 t0) (va_runV (As := [.int (s0 5 v3.toNatClampNeg)]) (rest := [.int v2]) ⟨hx, hb, hml, hown, hts⟩ (k_X8_bits l E a0 N s0 t0 (s0 5 v3.toNatClampNeg) q41 hc_41 _) (cwV 1 hts gX8_mean_X8_bits rfl rfl rfl (by decide +kernel) ⟨(Nat.le_of_ble_eq_true rfl), (Nat.le_of_ble_eq_true rfl)⟩) (pre_v (ci := 8) (q0 := 0) hK hP (hDD s0 t0) hS hG hAB rfl rfl) rfl rfl hl.1 rfl (lv_room (Nat.le_of_ble_eq_true rfl)) dX8_mean_41 ⟨Nat.zero_le _, Nat.zero_le _⟩) hS (w_free (hDD s0 t0) hS hA (fun _ h => h)) (fun H locs hP1 hk hS => ?_)
        have hP := hP1
        refine lv_iadd hx hb dX8_mean_44 ?_
        refine lv_topi (fun x45 e_x45 => ?_)
        have hf := nm_q e_x45 hf
        refine lv_istore_n (lv' := [(2, .int x45), (0, .ref (a0 0)), (1, .int v1), (3, .int v3)]) hx hb dX8_mean_45 rfl hl (Nat.le_of_ble_eq_true rfl) rfl (fun ls hl => ?_)
        obtain ⟨x46, e_x46⟩ : ∃ y : Int32, y = v3 + 1 := ⟨_, rfl⟩
        have hf := nm_q e_x46 hf
        refine lv_iinc (v := x46) (lv' := [(3, .int x46), (2, .int x45), (0, .ref (a0 0)), (1, .int v1)]) hx hb dX8_mean_46 hl (k := 3) rfl (by rw [e_x46]; rfl) (Nat.le_of_ble_eq_true rfl) rfl (fun ls hl => ?_)
        refine lv_goto (tgt := 25) hx hb dX8_mean_49 (by decide) ?_
        exact ih_25 x45 x46 hf _ _ _ hP hS (lv_sub hl [2, 3, 1, 0] rfl)
  refine lv_aload_n hx hb dX8_mean_0 rfl (lv_at hl 0 rfl) ?_
  refine lv_iload_n hx hb dX8_mean_1 rfl (lv_at hl 1 rfl) ?_
  refine lv_iconst (v := 0) hx hb dX8_mean_2 (by decide) ?_
  refine lv_iconst (v := 1) hx hb dX8_mean_3 (by decide) ?_
  obtain ⟨q4, hc_4, hf⟩ := cl_e hf
  refine fin_i (E := E) (wc := wX8 E a0 s0 t0) (wc' := wX8 E a0 s0 t0) (va_runV (As := [.int p1, .int 0, .int 1]) (rest := []) ⟨hx, hb, hml, hown, hts⟩ (k_X8_in l E a0 N s0 t0 p1 0 1 q4 hc_4 _) (cwV 3 hts gX8_mean_X8_in rfl rfl rfl (by decide +kernel) ⟨(Nat.le_of_ble_eq_true rfl), (Nat.le_of_ble_eq_true rfl)⟩) (pre_v (ci := 8) (q0 := 0) hK hP (hDD s0 t0) hS hG hAB rfl rfl) rfl rfl hl.1 rfl (lv_room (Nat.le_of_ble_eq_true rfl)) dX8_mean_4 ⟨Nat.zero_le _, Nat.zero_le _⟩) hS (w_free (hDD s0 t0) hS hA (fun _ h => h)) (fun H locs hP1 hk hS => ?_)
  have hP := hP1
  refine lv_if_eq (tgt := 17) hx hb dX8_mean_7 (by decide) (fun c_7 => ?_) (fun c_7 => ?_)
  · have hf := ite_t c_7 hf
    refine lv_ldc2 (v := (-9223372036854775808)) hx hb hown (hts _ m_X8_mean_0e2524) dX8_mean_17 ?_
    have e9 := Option.some.inj hf
    exact rt_l hx hb hr hlocks e9 hP hS dX8_mean_20
  · have hf := ite_f c_7 hf
    refine lv_aload_n hx hb dX8_mean_10 rfl (lv_at hl 0 rfl) ?_
    refine va_get (ci := 8) (C := RX8) (T := TX8) (N := 67) (v := .int (s0 0 0)) hx hb hts i_X8_mean_X8 hown hK hP 0 rfl rfl 0 (by decide) (hts _ m_X8_mean_acbb5e) (fun _ h9 => h9) rfl dX8_mean_11 ?_
    refine lv_if_ne (tgt := 21) hx hb dX8_mean_14 (by decide) (fun c_14 => ?_) (fun c_14 => ?_)
    · have hf := ite_f c_14 hf
      refine lv_iconst (v := 0) hx hb dX8_mean_21 (by decide) ?_
      refine lv_istore_n (lv' := [(2, .int 0), (0, .ref (a0 0)), (1, .int p1)]) hx hb dX8_mean_22 rfl hl (Nat.le_of_ble_eq_true rfl) rfl (fun ls hl => ?_)
      refine lv_iconst (v := 0) hx hb dX8_mean_23 (by decide) ?_
      refine lv_istore_n (lv' := [(3, .int 0), (2, .int 0), (0, .ref (a0 0)), (1, .int p1)]) hx hb dX8_mean_24 rfl hl (Nat.le_of_ble_eq_true rfl) rfl (fun ls hl => ?_)
      exact hL_25 s0 p1 N 0 0 hf _ _ _ hP hS (lv_sub hl [2, 3, 1, 0] rfl)
    · have hf := ite_t c_14 hf
      refine lv_ldc2 (v := (-9223372036854775808)) hx hb hown (hts _ m_X8_mean_0e2524) dX8_mean_17 ?_
      have e9 := Option.some.inj hf
      exact rt_l hx hb hr hlocks e9 hP hS dX8_mean_20
abbrev rm_X8_week : Room := { frames := 2, cells := 0, slots := 0, locals := 44 }
theorem m_X8_week_4ca6a4 : Cond.fieldLink RX8 117 "PickedMatchModel" "weeks" "I" ∈ wsX8_week := by decide +kernel
theorem i_X8_week_X8 : ∀ w ∈ wsX80, w ∈ wsX8_week := fun _ h => List.mem_cons_of_mem _ (List.mem_append_right _ h)
theorem m_X8_week_13b3e6 : Cond.fieldLink RX8 123 "PickedMatchModel" "weekWhat" "[I" ∈ wsX8_week := by decide +kernel
theorem m_X8_week_dcf18d : Cond.fieldLink RX8 126 "PickedMatchModel" "weekNumber" "[I" ∈ wsX8_week := by decide +kernel
set_option maxHeartbeats 8000000 in
set_option maxRecDepth 100000 in
theorem k_X8_week (l : Launch) (E : Ev) (a0 : Nat → Nat) (N : Nat) (s0 : St) (t0 : Nat → Nat → Int64) (p1 : Int32) (p2 : Int32) (q : (Int32 × St)) (hf : f_X8_week N s0 p1 p2 = some q) : Ci l yX8_week wsX8_week rm_X8_week E [.ref (a0 0), .int p1, .int p2] (wX8 E a0 s0 t0) (wX8 E a0 q.2 t0) q.1 := by
  unfold f_X8_week at hf
  intro sz
  refine Met.ofW (cc := cX8_week) (maxL := 3) (ret := (some .int)) (by decide) rfl ?_
  intro p e s m args below meth c s₁ B hml hv
  obtain ⟨rfl, hsz, hP, hK, hD0, hG, hA, hAB⟩ := start hv
  have hx := B.exec
  have hb := B.bytes
  have hr := B.returns
  have hts := atoms_spec (ws := wsX8_week) B.pre
  have hown : s.vm.findClass RX8 = some m.cls := findClass_of_methodNamed B.named
  have hlocks := B.notSynchronized
  subst hsz
  generalize va_A (wX8 E a0 s0 t0) s.heap.size = A0 at hD0 hA hAB ⊢
  have hDD : ∀ (s0 : St) (t0 : Nat → Nat → Int64), va_D A0 (wX8 E a0 s0 t0) := fun s0 t0 => vD_addr hD0 rfl
  have hS : va_S A0 s.heap s.heap [] := va_S.rf
  have hl := lv_entry ([.ref (a0 0), .int p1, .int p2]) (n := 3) (Nat.le_of_ble_eq_true rfl)
  rw [lg_entry_eq]
  generalize (lg_sl ([.ref (a0 0), .int p1, .int p2]) ++ List.replicate (3 - (lg_sl ([.ref (a0 0), .int p1, .int p2])).length) Slot.unset).toArray = ls at hl ⊢
  have hl : lv_has ls 3 [(0, .ref (a0 0)), (1, .int p1), (2, .int p2)] := hl
  have hL_37 : ∀ (s0 : St) (v1 : Int32) (v2 : Int32), j_X8_week_37 N s0 v1 v2 = some q → ∀ (H : Heap) (locs : List Loc) (ls : Array Slot), va_P E.1 vwCl (wX8 E a0 s0 t0) H → va_S A0 s.heap H locs → lv_has ls 3 [(0, .ref (a0 0)), (1, .int v1), (2, .int v2)] → W p l e rm_X8_week s m ([.ref (a0 0), .int p1, .int p2] : List Value).toArray below meth c H locs 0 0 (MQ below (va_Qi (fun (r' : Int32) (_ : Unit) => r' = q.1) (fun _ t => va_P E.1 vwCl (wX8 E a0 q.2 t0) t.heap) A0) ([.ref (a0 0), .int p1, .int p2] : List Value).toArray s 0 0 A0) (F0 m 37 ls []) := by
    intro s0 v1 v2 hf H locs ls hP hS hl
    unfold j_X8_week_37 at hf
    refine lv_aload_n hx hb dX8_week_37 rfl (lv_at hl 0 rfl) ?_
    refine va_get (ci := 8) (C := RX8) (T := TX8) (N := 67) (v := .int (s0 35 0)) hx hb hts i_X8_week_X8 hown hK hP 0 rfl rfl 35 (by decide) (hts _ m_X8_week_4ca6a4) (fun _ h9 => h9) rfl dX8_week_38 ?_
    refine lv_bipush (v := 10) hx hb dX8_week_41 (by decide) ?_
    refine lv_icmp_ne (tgt := 49) hx hb dX8_week_43 (by decide) (fun c_43 => ?_) (fun c_43 => ?_)
    · have hf := ite_f c_43 hf
      refine lv_aload_n hx hb dX8_week_49 rfl (lv_at hl 0 rfl) ?_
      refine va_get (ci := 8) (C := RX8) (T := TX8) (N := 67) (v := .ref (a0 22)) hx hb hts i_X8_week_X8 hown hK hP 0 rfl rfl 37 (by decide) (hts _ m_X8_week_13b3e6) (fun _ h9 => h9) rfl dX8_week_50 ?_
      refine lv_aload_n hx hb dX8_week_53 rfl (lv_at hl 0 rfl) ?_
      refine va_get (ci := 8) (C := RX8) (T := TX8) (N := 67) (v := .int (s0 35 0)) hx hb hts i_X8_week_X8 hown hK hP 0 rfl rfl 35 (by decide) (hts _ m_X8_week_4ca6a4) (fun _ h9 => h9) rfl dX8_week_54 ?_
      refine lv_iload_n hx hb dX8_week_57 rfl (lv_at hl 1 rfl) ?_
      obtain ⟨h_58, hf⟩ := ck_e hf
      refine va_iast (cA := E.2.1) (n := 10) (f := s0 37) (x := v1) hx hb hK hP (hDD s0 t0) hS 22 0 rfl rfl h_58 dX8_week_58 (fun H locs hP _ hS => ?_)
      obtain ⟨s0_58, hP, hf⟩ := nm_st' (P := fun z => va_P E.1 vwCl (wX8 E a0 z t0) H) hf hP
      refine lv_aload_n hx hb dX8_week_59 rfl (lv_at hl 0 rfl) ?_
      refine va_get (ci := 8) (C := RX8) (T := TX8) (N := 67) (v := .ref (a0 23)) hx hb hts i_X8_week_X8 hown hK hP 0 rfl rfl 38 (by decide) (hts _ m_X8_week_dcf18d) (fun _ h9 => h9) rfl dX8_week_60 ?_
      refine lv_aload_n hx hb dX8_week_63 rfl (lv_at hl 0 rfl) ?_
      refine va_get (ci := 8) (C := RX8) (T := TX8) (N := 67) (v := .int (s0_58 35 0)) hx hb hts i_X8_week_X8 hown hK hP 0 rfl rfl 35 (by decide) (hts _ m_X8_week_4ca6a4) (fun _ h9 => h9) rfl dX8_week_64 ?_
      refine lv_iload_n hx hb dX8_week_67 rfl (lv_at hl 1 rfl) ?_
      refine lv_iconst (v := 2) hx hb dX8_week_68 (by decide) ?_
      refine lv_icmp_ne (tgt := 76) hx hb dX8_week_69 (by decide) (fun c_69 => ?_) (fun c_69 => ?_)
      · have hf := ite_f c_69 hf
        refine lv_iconst (v := 0) hx hb dX8_week_76 (by decide) ?_
        obtain ⟨h_77, hf⟩ := ck_e hf
        refine va_iast (cA := E.2.1) (n := 10) (f := s0_58 38) (x := 0) hx hb hK hP (hDD s0_58 t0) hS 23 0 rfl rfl h_77 dX8_week_77 (fun H locs hP _ hS => ?_)
        obtain ⟨s0_77, hP, hf⟩ := nm_st' (P := fun z => va_P E.1 vwCl (wX8 E a0 z t0) H) hf hP
        refine lv_aload_n hx hb dX8_week_78 rfl (lv_at hl 0 rfl) ?_
        refine lv_dup hx hb dX8_week_79 rfl ?_
        refine va_get (ci := 8) (C := RX8) (T := TX8) (N := 67) (v := .int (s0_77 35 0)) hx hb hts i_X8_week_X8 hown hK hP 0 rfl rfl 35 (by decide) (hts _ m_X8_week_4ca6a4) (fun _ h9 => h9) rfl dX8_week_80 ?_
        refine lv_iconst (v := 1) hx hb dX8_week_83 (by decide) ?_
        refine lv_iadd hx hb dX8_week_84 ?_
        refine va_put (ci := 8) (v := .int ((s0_77 35 0) + 1)) (ty := .int) (C := RX8) (T := TX8) (N := 67) hx hb hts i_X8_week_X8 tyX8 tyX8_ok nmX8 hown hK hP (hDD s0_77 t0) hS 0 rfl rfl 35 (by decide) (hts _ m_X8_week_4ca6a4) (fun _ h9 => h9) rfl (by decide +kernel) rfl rfl (Nat.le_of_ble_eq_true rfl) dX8_week_85 (fun H locs hP _ hS => ?_)
        obtain ⟨s0_85, hP, hf⟩ := nm_st' (P := fun z => va_P E.1 vwCl (wX8 E a0 z t0) H) hf hP
        refine lv_aload_n hx hb dX8_week_88 rfl (lv_at hl 0 rfl) ?_
        refine va_get (ci := 8) (C := RX8) (T := TX8) (N := 67) (v := .int (s0_85 35 0)) hx hb hts i_X8_week_X8 hown hK hP 0 rfl rfl 35 (by decide) (hts _ m_X8_week_4ca6a4) (fun _ h9 => h9) rfl dX8_week_89 ?_
        have e9 := Option.some.inj hf
        exact rt_i hx hb hr hlocks (fst_e e9) (rtP (P := fun z => va_P E.1 vwCl (wX8 E a0 z.2 t0) H) e9 hP) hS dX8_week_92
      · have hf := ite_t c_69 hf
        refine lv_iload_n hx hb dX8_week_72 rfl (lv_at hl 2 rfl) ?_
        refine lv_goto (tgt := 77) hx hb dX8_week_73 (by decide) ?_
        obtain ⟨h_77, hf⟩ := ck_e hf
        refine va_iast (cA := E.2.1) (n := 10) (f := s0_58 38) (x := v2) hx hb hK hP (hDD s0_58 t0) hS 23 0 rfl rfl h_77 dX8_week_77 (fun H locs hP _ hS => ?_)
        obtain ⟨s0_77, hP, hf⟩ := nm_st' (P := fun z => va_P E.1 vwCl (wX8 E a0 z t0) H) hf hP
        refine lv_aload_n hx hb dX8_week_78 rfl (lv_at hl 0 rfl) ?_
        refine lv_dup hx hb dX8_week_79 rfl ?_
        refine va_get (ci := 8) (C := RX8) (T := TX8) (N := 67) (v := .int (s0_77 35 0)) hx hb hts i_X8_week_X8 hown hK hP 0 rfl rfl 35 (by decide) (hts _ m_X8_week_4ca6a4) (fun _ h9 => h9) rfl dX8_week_80 ?_
        refine lv_iconst (v := 1) hx hb dX8_week_83 (by decide) ?_
        refine lv_iadd hx hb dX8_week_84 ?_
        refine va_put (ci := 8) (v := .int ((s0_77 35 0) + 1)) (ty := .int) (C := RX8) (T := TX8) (N := 67) hx hb hts i_X8_week_X8 tyX8 tyX8_ok nmX8 hown hK hP (hDD s0_77 t0) hS 0 rfl rfl 35 (by decide) (hts _ m_X8_week_4ca6a4) (fun _ h9 => h9) rfl (by decide +kernel) rfl rfl (Nat.le_of_ble_eq_true rfl) dX8_week_85 (fun H locs hP _ hS => ?_)
        obtain ⟨s0_85, hP, hf⟩ := nm_st' (P := fun z => va_P E.1 vwCl (wX8 E a0 z t0) H) hf hP
        refine lv_aload_n hx hb dX8_week_88 rfl (lv_at hl 0 rfl) ?_
        refine va_get (ci := 8) (C := RX8) (T := TX8) (N := 67) (v := .int (s0_85 35 0)) hx hb hts i_X8_week_X8 hown hK hP 0 rfl rfl 35 (by decide) (hts _ m_X8_week_4ca6a4) (fun _ h9 => h9) rfl dX8_week_89 ?_
        have e9 := Option.some.inj hf
        exact rt_i hx hb hr hlocks (fst_e e9) (rtP (P := fun z => va_P E.1 vwCl (wX8 E a0 z.2 t0) H) e9 hP) hS dX8_week_92
    · have hf := ite_t c_43 hf
      refine lv_bipush (v := (-4)) hx hb dX8_week_46 (by decide) ?_
      have e9 := Option.some.inj hf
      exact rt_i hx hb hr hlocks (fst_e e9) (rtP (P := fun z => va_P E.1 vwCl (wX8 E a0 z.2 t0) H) e9 hP) hS dX8_week_48
  refine lv_iload_n hx hb dX8_week_0 rfl (lv_at hl 1 rfl) ?_
  refine lv_iconst (v := (-1)) hx hb dX8_week_1 (by decide) ?_
  refine lv_icmp_ne (tgt := 12) hx hb dX8_week_2 (by decide) (fun c_2 => ?_) (fun c_2 => ?_)
  · have hf := ite_f c_2 hf
    refine lv_aload_n hx hb dX8_week_12 rfl (lv_at hl 0 rfl) ?_
    refine lv_iload_n hx hb dX8_week_13 rfl (lv_at hl 1 rfl) ?_
    refine lv_iconst (v := 0) hx hb dX8_week_14 (by decide) ?_
    refine lv_iconst (v := 2) hx hb dX8_week_15 (by decide) ?_
    obtain ⟨q16, hc_16, hf⟩ := cl_e hf
    refine fin_i (E := E) (wc := wX8 E a0 s0 t0) (wc' := wX8 E a0 s0 t0) (va_runV (As := [.int p1, .int 0, .int 2]) (rest := []) ⟨hx, hb, hml, hown, hts⟩ (k_X8_in l E a0 N s0 t0 p1 0 2 q16 hc_16 _) (cwV 3 hts gX8_week_X8_in rfl rfl rfl (by decide +kernel) ⟨(Nat.le_of_ble_eq_true rfl), (Nat.le_of_ble_eq_true rfl)⟩) (pre_v (ci := 8) (q0 := 0) hK hP (hDD s0 t0) hS hG hAB rfl rfl) rfl rfl hl.1 rfl (lv_room (Nat.le_of_ble_eq_true rfl)) dX8_week_16 ⟨Nat.zero_le _, Nat.zero_le _⟩) hS (w_free (hDD s0 t0) hS hA (fun _ h => h)) (fun H locs hP1 hk hS => ?_)
    have hP := hP1
    refine lv_if_eq (tgt := 35) hx hb dX8_week_19 (by decide) (fun c_19 => ?_) (fun c_19 => ?_)
    · have hf := ite_t c_19 hf
      refine lv_iconst (v := (-1)) hx hb dX8_week_35 (by decide) ?_
      have e9 := Option.some.inj hf
      exact rt_i hx hb hr hlocks (fst_e e9) (rtP (P := fun z => va_P E.1 vwCl (wX8 E a0 z.2 t0) H) e9 hP) hS dX8_week_36
    · have hf := ite_f c_19 hf
      refine lv_iload_n hx hb dX8_week_22 rfl (lv_at hl 1 rfl) ?_
      refine lv_iconst (v := 2) hx hb dX8_week_23 (by decide) ?_
      refine lv_icmp_ne (tgt := 37) hx hb dX8_week_24 (by decide) (fun c_24 => ?_) (fun c_24 => ?_)
      · have hf := ite_f c_24 hf
        exact hL_37 s0 p1 p2 hf _ _ _ hP hS (lv_sub hl [0, 1, 2] rfl)
      · have hf := ite_t c_24 hf
        refine lv_aload_n hx hb dX8_week_27 rfl (lv_at hl 0 rfl) ?_
        refine lv_iload_n hx hb dX8_week_28 rfl (lv_at hl 2 rfl) ?_
        obtain ⟨q29, hc_29, hf⟩ := cl_e hf
        refine fin_i (E := E) (wc := wX8 E a0 s0 t0) (wc' := wX8 E a0 s0 t0) (va_runV (As := [.int p2]) (rest := []) ⟨hx, hb, hml, hown, hts⟩ (k_X8_isThing l E a0 N s0 t0 p2 q29 hc_29 _) (cwV 1 hts gX8_week_X8_isThing rfl rfl rfl (by decide +kernel) ⟨(Nat.le_of_ble_eq_true rfl), (Nat.le_of_ble_eq_true rfl)⟩) (pre_v (ci := 8) (q0 := 0) hK hP (hDD s0 t0) hS hG hAB rfl rfl) rfl rfl hl.1 rfl (lv_room (Nat.le_of_ble_eq_true rfl)) dX8_week_29 ⟨Nat.zero_le _, Nat.zero_le _⟩) hS (w_free (hDD s0 t0) hS hA (fun _ h => h)) (fun H locs hP1 hk hS => ?_)
        have hP := hP1
        refine lv_if_ne (tgt := 37) hx hb dX8_week_32 (by decide) (fun c_32 => ?_) (fun c_32 => ?_)
        · have hf := ite_f c_32 hf
          exact hL_37 s0 p1 p2 hf _ _ _ hP hS (lv_sub hl [0, 1, 2] rfl)
        · have hf := ite_t c_32 hf
          refine lv_iconst (v := (-1)) hx hb dX8_week_35 (by decide) ?_
          have e9 := Option.some.inj hf
          exact rt_i hx hb hr hlocks (fst_e e9) (rtP (P := fun z => va_P E.1 vwCl (wX8 E a0 z.2 t0) H) e9 hP) hS dX8_week_36
  · have hf := ite_t c_2 hf
    refine lv_aload_n hx hb dX8_week_5 rfl (lv_at hl 0 rfl) ?_
    refine lv_iconst (v := 0) hx hb dX8_week_6 (by decide) ?_
    refine va_put (ci := 8) (v := .int 0) (ty := .int) (C := RX8) (T := TX8) (N := 67) hx hb hts i_X8_week_X8 tyX8 tyX8_ok nmX8 hown hK hP (hDD s0 t0) hS 0 rfl rfl 35 (by decide) (hts _ m_X8_week_4ca6a4) (fun _ h9 => h9) rfl (by decide +kernel) rfl rfl (Nat.le_of_ble_eq_true rfl) dX8_week_7 (fun H locs hP _ hS => ?_)
    obtain ⟨s0_7, hP, hf⟩ := nm_st' (P := fun z => va_P E.1 vwCl (wX8 E a0 z t0) H) hf hP
    refine lv_iconst (v := 0) hx hb dX8_week_10 (by decide) ?_
    have e9 := Option.some.inj hf
    exact rt_i hx hb hr hlocks (fst_e e9) (rtP (P := fun z => va_P E.1 vwCl (wX8 E a0 z.2 t0) H) e9 hP) hS dX8_week_11
abbrev rm_X8_goWeek : Room := { frames := 9, cells := 0, slots := 0, locals := 200 }
theorem m_X8_goWeek_92e5f7 : Cond.fieldLink RX8 13 "PickedMatchModel" "had" "I" ∈ wsX8_goWeek := by decide +kernel
theorem i_X8_goWeek_X8 : ∀ w ∈ wsX80, w ∈ wsX8_goWeek := fun _ h => List.mem_cons_of_mem _ (List.mem_append_right _ h)
set_option maxHeartbeats 8000000 in
set_option maxRecDepth 100000 in
theorem k_X8_goWeek (l : Launch) (E : Ev) (a0 : Nat → Nat) (N : Nat) (s0 : St) (t0 : Nat → Nat → Int64) (p1 : Int32) (p2 : Int32) (q : (St)) (hf : f_X8_goWeek N s0 p1 p2 = some q) : Cv l yX8_goWeek wsX8_goWeek rm_X8_goWeek E [.ref (a0 0), .int p1, .int p2] (wX8 E a0 s0 t0) (wX8 E a0 q t0) := by
  unfold f_X8_goWeek at hf
  intro sz
  refine Met.ofW (cc := cX8_goWeek) (maxL := 3) (ret := none) (by decide) rfl ?_
  intro p e s m args below meth c s₁ B hml hv
  obtain ⟨rfl, hsz, hP, hK, hD0, hG, hA, hAB⟩ := start hv
  have hx := B.exec
  have hb := B.bytes
  have hr := B.returns
  have hts := atoms_spec (ws := wsX8_goWeek) B.pre
  have hown : s.vm.findClass RX8 = some m.cls := findClass_of_methodNamed B.named
  have hlocks := B.notSynchronized
  subst hsz
  generalize va_A (wX8 E a0 s0 t0) s.heap.size = A0 at hD0 hA hAB ⊢
  have hDD : ∀ (s0 : St) (t0 : Nat → Nat → Int64), va_D A0 (wX8 E a0 s0 t0) := fun s0 t0 => vD_addr hD0 rfl
  have hS : va_S A0 s.heap s.heap [] := va_S.rf
  have hl := lv_entry ([.ref (a0 0), .int p1, .int p2]) (n := 3) (Nat.le_of_ble_eq_true rfl)
  rw [lg_entry_eq]
  generalize (lg_sl ([.ref (a0 0), .int p1, .int p2]) ++ List.replicate (3 - (lg_sl ([.ref (a0 0), .int p1, .int p2])).length) Slot.unset).toArray = ls at hl ⊢
  have hl : lv_has ls 3 [(0, .ref (a0 0)), (1, .int p1), (2, .int p2)] := hl
  have hL_8 : ∀ (s0 : St) (v1 : Int32) (v2 : Int32), j_X8_goWeek_8 N s0 v1 v2 = some q → ∀ (H : Heap) (locs : List Loc) (ls : Array Slot), va_P E.1 vwCl (wX8 E a0 s0 t0) H → va_S A0 s.heap H locs → lv_has ls 3 [(0, .ref (a0 0)), (1, .int v1), (2, .int v2)] → W p l e rm_X8_goWeek s m ([.ref (a0 0), .int p1, .int p2] : List Value).toArray below meth c H locs 0 0 (MQ below (va_Qv (fun (_ : Unit) => True) (fun _ t => va_P E.1 vwCl (wX8 E a0 q t0) t.heap) A0) ([.ref (a0 0), .int p1, .int p2] : List Value).toArray s 0 0 A0) (F0 m 8 ls []) := by
    intro s0 v1 v2 hf H locs ls hP hS hl
    unfold j_X8_goWeek_8 at hf
    refine lv_iload_n hx hb dX8_goWeek_8 rfl (lv_at hl 1 rfl) ?_
    refine lv_iconst (v := 1) hx hb dX8_goWeek_9 (by decide) ?_
    refine lv_icmp_ne (tgt := 30) hx hb dX8_goWeek_10 (by decide) (fun c_10 => ?_) (fun c_10 => ?_)
    · have hf := ite_f c_10 hf
      refine lv_iload_n hx hb dX8_goWeek_30 rfl (lv_at hl 1 rfl) ?_
      refine lv_iconst (v := 2) hx hb dX8_goWeek_31 (by decide) ?_
      refine lv_icmp_ne (tgt := 48) hx hb dX8_goWeek_32 (by decide) (fun c_32 => ?_) (fun c_32 => ?_)
      · have hf := ite_f c_32 hf
        have e9 := Option.some.inj hf
        exact rt_v hx hb hr hlocks (rtP (P := fun z => va_P E.1 vwCl (wX8 E a0 z t0) H) e9 hP) hS dX8_goWeek_48
      · have hf := ite_t c_32 hf
        refine lv_aload_n hx hb dX8_goWeek_35 rfl (lv_at hl 0 rfl) ?_
        refine lv_iload_n hx hb dX8_goWeek_36 rfl (lv_at hl 2 rfl) ?_
        obtain ⟨q37, hc_37, hf⟩ := cl_e hf
        refine fin_i (E := E) (wc := wX8 E a0 s0 t0) (wc' := wX8 E a0 q37.2 t0) (va_runV (As := [.int v2]) (rest := []) ⟨hx, hb, hml, hown, hts⟩ (k_X8_goes l E a0 N s0 t0 v2 q37 hc_37 _) (cwV 1 hts gX8_goWeek_X8_goes rfl rfl rfl (by decide +kernel) ⟨(Nat.le_of_ble_eq_true rfl), (Nat.le_of_ble_eq_true rfl)⟩) (pre_v (ci := 8) (q0 := 0) hK hP (hDD s0 t0) hS hG hAB rfl rfl) rfl rfl hl.1 rfl (lv_room (Nat.le_of_ble_eq_true rfl)) dX8_goWeek_37 ⟨Nat.zero_le _, Nat.zero_le _⟩) hS (w_free (hDD s0 t0) hS hA (fun _ h => h)) (fun H locs hP1 hk hS => ?_)
        have hP := hP1
        refine lv_if_eq (tgt := 48) hx hb dX8_goWeek_40 (by decide) (fun c_40 => ?_) (fun c_40 => ?_)
        · have hf := ite_t c_40 hf
          have e9 := Option.some.inj hf
          exact rt_v hx hb hr hlocks (rtP (P := fun z => va_P E.1 vwCl (wX8 E a0 z t0) H) e9 hP) hS dX8_goWeek_48
        · have hf := ite_f c_40 hf
          refine lv_aload_n hx hb dX8_goWeek_43 rfl (lv_at hl 0 rfl) ?_
          refine lv_iload_n hx hb dX8_goWeek_44 rfl (lv_at hl 2 rfl) ?_
          obtain ⟨q45, hc_45, hf⟩ := cl_e hf
          refine fin_v (E := E) (wc := wX8 E a0 q37.2 t0) (wc' := wX8 E a0 q45 t0) (va_runV (As := [.int v2]) (rest := []) ⟨hx, hb, hml, hown, hts⟩ (k_X8_pushes l E a0 N q37.2 t0 v2 q45 hc_45 _) (cwV 1 hts gX8_goWeek_X8_pushes rfl rfl rfl (by decide +kernel) ⟨(Nat.le_of_ble_eq_true rfl), (Nat.le_of_ble_eq_true rfl)⟩) (pre_v (ci := 8) (q0 := 0) hK hP (hDD q37.2 t0) hS hG hAB rfl rfl) rfl rfl hl.1 rfl (lv_room (Nat.le_of_ble_eq_true rfl)) dX8_goWeek_45 ⟨Nat.zero_le _, Nat.zero_le _⟩) hS (w_free (hDD q37.2 t0) hS hA (fun _ h => h)) (fun H locs hP1 hk hS => ?_)
          have hP := hP1
          have e9 := Option.some.inj hf
          exact rt_v hx hb hr hlocks (rtP (P := fun z => va_P E.1 vwCl (wX8 E a0 z t0) H) e9 hP) hS dX8_goWeek_48
    · have hf := ite_t c_10 hf
      refine lv_aload_n hx hb dX8_goWeek_13 rfl (lv_at hl 0 rfl) ?_
      refine va_get (ci := 8) (C := RX8) (T := TX8) (N := 67) (v := .int (s0 1 0)) hx hb hts i_X8_goWeek_X8 hown hK hP 0 rfl rfl 1 (by decide) (hts _ m_X8_goWeek_92e5f7) (fun _ h9 => h9) rfl dX8_goWeek_14 ?_
      refine lv_if_le (tgt := 30) hx hb dX8_goWeek_17 (by decide) (fun c_17 => ?_) (fun c_17 => ?_)
      · have hf := ite_t c_17 hf
        refine lv_iload_n hx hb dX8_goWeek_30 rfl (lv_at hl 1 rfl) ?_
        refine lv_iconst (v := 2) hx hb dX8_goWeek_31 (by decide) ?_
        refine lv_icmp_ne (tgt := 48) hx hb dX8_goWeek_32 (by decide) (fun c_32 => ?_) (fun c_32 => ?_)
        · have hf := ite_f c_32 hf
          have e9 := Option.some.inj hf
          exact rt_v hx hb hr hlocks (rtP (P := fun z => va_P E.1 vwCl (wX8 E a0 z t0) H) e9 hP) hS dX8_goWeek_48
        · have hf := ite_t c_32 hf
          refine lv_aload_n hx hb dX8_goWeek_35 rfl (lv_at hl 0 rfl) ?_
          refine lv_iload_n hx hb dX8_goWeek_36 rfl (lv_at hl 2 rfl) ?_
          obtain ⟨q37, hc_37, hf⟩ := cl_e hf
          refine fin_i (E := E) (wc := wX8 E a0 s0 t0) (wc' := wX8 E a0 q37.2 t0) (va_runV (As := [.int v2]) (rest := []) ⟨hx, hb, hml, hown, hts⟩ (k_X8_goes l E a0 N s0 t0 v2 q37 hc_37 _) (cwV 1 hts gX8_goWeek_X8_goes rfl rfl rfl (by decide +kernel) ⟨(Nat.le_of_ble_eq_true rfl), (Nat.le_of_ble_eq_true rfl)⟩) (pre_v (ci := 8) (q0 := 0) hK hP (hDD s0 t0) hS hG hAB rfl rfl) rfl rfl hl.1 rfl (lv_room (Nat.le_of_ble_eq_true rfl)) dX8_goWeek_37 ⟨Nat.zero_le _, Nat.zero_le _⟩) hS (w_free (hDD s0 t0) hS hA (fun _ h => h)) (fun H locs hP1 hk hS => ?_)
          have hP := hP1
          refine lv_if_eq (tgt := 48) hx hb dX8_goWeek_40 (by decide) (fun c_40 => ?_) (fun c_40 => ?_)
          · have hf := ite_t c_40 hf
            have e9 := Option.some.inj hf
            exact rt_v hx hb hr hlocks (rtP (P := fun z => va_P E.1 vwCl (wX8 E a0 z t0) H) e9 hP) hS dX8_goWeek_48
          · have hf := ite_f c_40 hf
            refine lv_aload_n hx hb dX8_goWeek_43 rfl (lv_at hl 0 rfl) ?_
            refine lv_iload_n hx hb dX8_goWeek_44 rfl (lv_at hl 2 rfl) ?_
            obtain ⟨q45, hc_45, hf⟩ := cl_e hf
            refine fin_v (E := E) (wc := wX8 E a0 q37.2 t0) (wc' := wX8 E a0 q45 t0) (va_runV (As := [.int v2]) (rest := []) ⟨hx, hb, hml, hown, hts⟩ (k_X8_pushes l E a0 N q37.2 t0 v2 q45 hc_45 _) (cwV 1 hts gX8_goWeek_X8_pushes rfl rfl rfl (by decide +kernel) ⟨(Nat.le_of_ble_eq_true rfl), (Nat.le_of_ble_eq_true rfl)⟩) (pre_v (ci := 8) (q0 := 0) hK hP (hDD q37.2 t0) hS hG hAB rfl rfl) rfl rfl hl.1 rfl (lv_room (Nat.le_of_ble_eq_true rfl)) dX8_goWeek_45 ⟨Nat.zero_le _, Nat.zero_le _⟩) hS (w_free (hDD q37.2 t0) hS hA (fun _ h => h)) (fun H locs hP1 hk hS => ?_)
            have hP := hP1
            have e9 := Option.some.inj hf
            exact rt_v hx hb hr hlocks (rtP (P := fun z => va_P E.1 vwCl (wX8 E a0 z t0) H) e9 hP) hS dX8_goWeek_48
      · have hf := ite_f c_17 hf
        refine lv_aload_n hx hb dX8_goWeek_20 rfl (lv_at hl 0 rfl) ?_
        refine lv_dup hx hb dX8_goWeek_21 rfl ?_
        refine va_get (ci := 8) (C := RX8) (T := TX8) (N := 67) (v := .int (s0 1 0)) hx hb hts i_X8_goWeek_X8 hown hK hP 0 rfl rfl 1 (by decide) (hts _ m_X8_goWeek_92e5f7) (fun _ h9 => h9) rfl dX8_goWeek_22 ?_
        refine lv_iconst (v := 1) hx hb dX8_goWeek_25 (by decide) ?_
        refine lv_isub hx hb dX8_goWeek_26 ?_
        refine va_put (ci := 8) (v := .int ((s0 1 0) - 1)) (ty := .int) (C := RX8) (T := TX8) (N := 67) hx hb hts i_X8_goWeek_X8 tyX8 tyX8_ok nmX8 hown hK hP (hDD s0 t0) hS 0 rfl rfl 1 (by decide) (hts _ m_X8_goWeek_92e5f7) (fun _ h9 => h9) rfl (by decide +kernel) rfl rfl (Nat.le_of_ble_eq_true rfl) dX8_goWeek_27 (fun H locs hP _ hS => ?_)
        obtain ⟨s0_27, hP, hf⟩ := nm_st' (P := fun z => va_P E.1 vwCl (wX8 E a0 z t0) H) hf hP
        refine lv_iload_n hx hb dX8_goWeek_30 rfl (lv_at hl 1 rfl) ?_
        refine lv_iconst (v := 2) hx hb dX8_goWeek_31 (by decide) ?_
        refine lv_icmp_ne (tgt := 48) hx hb dX8_goWeek_32 (by decide) (fun c_32 => ?_) (fun c_32 => ?_)
        · have hf := ite_f c_32 hf
          have e9 := Option.some.inj hf
          exact rt_v hx hb hr hlocks (rtP (P := fun z => va_P E.1 vwCl (wX8 E a0 z t0) H) e9 hP) hS dX8_goWeek_48
        · have hf := ite_t c_32 hf
          refine lv_aload_n hx hb dX8_goWeek_35 rfl (lv_at hl 0 rfl) ?_
          refine lv_iload_n hx hb dX8_goWeek_36 rfl (lv_at hl 2 rfl) ?_
          obtain ⟨q37, hc_37, hf⟩ := cl_e hf
          refine fin_i (E := E) (wc := wX8 E a0 s0_27 t0) (wc' := wX8 E a0 q37.2 t0) (va_runV (As := [.int v2]) (rest := []) ⟨hx, hb, hml, hown, hts⟩ (k_X8_goes l E a0 N s0_27 t0 v2 q37 hc_37 _) (cwV 1 hts gX8_goWeek_X8_goes rfl rfl rfl (by decide +kernel) ⟨(Nat.le_of_ble_eq_true rfl), (Nat.le_of_ble_eq_true rfl)⟩) (pre_v (ci := 8) (q0 := 0) hK hP (hDD s0_27 t0) hS hG hAB rfl rfl) rfl rfl hl.1 rfl (lv_room (Nat.le_of_ble_eq_true rfl)) dX8_goWeek_37 ⟨Nat.zero_le _, Nat.zero_le _⟩) hS (w_free (hDD s0_27 t0) hS hA (fun _ h => h)) (fun H locs hP1 hk hS => ?_)
          have hP := hP1
          refine lv_if_eq (tgt := 48) hx hb dX8_goWeek_40 (by decide) (fun c_40 => ?_) (fun c_40 => ?_)
          · have hf := ite_t c_40 hf
            have e9 := Option.some.inj hf
            exact rt_v hx hb hr hlocks (rtP (P := fun z => va_P E.1 vwCl (wX8 E a0 z t0) H) e9 hP) hS dX8_goWeek_48
          · have hf := ite_f c_40 hf
            refine lv_aload_n hx hb dX8_goWeek_43 rfl (lv_at hl 0 rfl) ?_
            refine lv_iload_n hx hb dX8_goWeek_44 rfl (lv_at hl 2 rfl) ?_
            obtain ⟨q45, hc_45, hf⟩ := cl_e hf
            refine fin_v (E := E) (wc := wX8 E a0 q37.2 t0) (wc' := wX8 E a0 q45 t0) (va_runV (As := [.int v2]) (rest := []) ⟨hx, hb, hml, hown, hts⟩ (k_X8_pushes l E a0 N q37.2 t0 v2 q45 hc_45 _) (cwV 1 hts gX8_goWeek_X8_pushes rfl rfl rfl (by decide +kernel) ⟨(Nat.le_of_ble_eq_true rfl), (Nat.le_of_ble_eq_true rfl)⟩) (pre_v (ci := 8) (q0 := 0) hK hP (hDD q37.2 t0) hS hG hAB rfl rfl) rfl rfl hl.1 rfl (lv_room (Nat.le_of_ble_eq_true rfl)) dX8_goWeek_45 ⟨Nat.zero_le _, Nat.zero_le _⟩) hS (w_free (hDD q37.2 t0) hS hA (fun _ h => h)) (fun H locs hP1 hk hS => ?_)
            have hP := hP1
            have e9 := Option.some.inj hf
            exact rt_v hx hb hr hlocks (rtP (P := fun z => va_P E.1 vwCl (wX8 E a0 z t0) H) e9 hP) hS dX8_goWeek_48
  refine lv_iload_n hx hb dX8_goWeek_0 rfl (lv_at hl 1 rfl) ?_
  refine lv_if_ne (tgt := 8) hx hb dX8_goWeek_1 (by decide) (fun c_1 => ?_) (fun c_1 => ?_)
  · have hf := ite_f c_1 hf
    exact hL_8 s0 p1 p2 hf _ _ _ hP hS (lv_sub hl [0, 1, 2] rfl)
  · have hf := ite_t c_1 hf
    refine lv_aload_n hx hb dX8_goWeek_4 rfl (lv_at hl 0 rfl) ?_
    obtain ⟨q5, hc_5, hf⟩ := cl_e hf
    refine fin_v (E := E) (wc := wX8 E a0 s0 t0) (wc' := wX8 E a0 q5 t0) (va_runV (As := []) (rest := []) ⟨hx, hb, hml, hown, hts⟩ (k_X8_goDay l E a0 N s0 t0 q5 hc_5 _) (cwV 0 hts gX8_goWeek_X8_goDay rfl rfl rfl (by decide +kernel) ⟨(Nat.le_of_ble_eq_true rfl), (Nat.le_of_ble_eq_true rfl)⟩) (pre_v (ci := 8) (q0 := 0) hK hP (hDD s0 t0) hS hG hAB rfl rfl) rfl rfl hl.1 rfl (lv_room (Nat.le_of_ble_eq_true rfl)) dX8_goWeek_5 ⟨Nat.zero_le _, Nat.zero_le _⟩) hS (w_free (hDD s0 t0) hS hA (fun _ h => h)) (fun H locs hP1 hk hS => ?_)
    have hP := hP1
    exact hL_8 q5 p1 p2 hf _ _ _ hP hS (lv_sub hl [0, 1, 2] rfl)
abbrev rm_X8_ends : Room := { frames := 10, cells := 0, slots := 0, locals := 222 }
theorem m_X8_ends_4ca6a4 : Cond.fieldLink RX8 117 "PickedMatchModel" "weeks" "I" ∈ wsX8_ends := by decide +kernel
theorem i_X8_ends_X8 : ∀ w ∈ wsX80, w ∈ wsX8_ends := fun _ h => List.mem_cons_of_mem _ (List.mem_append_right _ h)
theorem m_X8_ends_13b3e6 : Cond.fieldLink RX8 123 "PickedMatchModel" "weekWhat" "[I" ∈ wsX8_ends := by decide +kernel
theorem m_X8_ends_dcf18d : Cond.fieldLink RX8 126 "PickedMatchModel" "weekNumber" "[I" ∈ wsX8_ends := by decide +kernel
set_option maxHeartbeats 8000000 in
set_option maxRecDepth 100000 in
theorem k_X8_ends (l : Launch) (E : Ev) (a0 : Nat → Nat) (N : Nat) (s0 : St) (t0 : Nat → Nat → Int64) (p1 : Int32) (q : (Int32 × St)) (hf : f_X8_ends N s0 p1 = some q) : Ci l yX8_ends wsX8_ends rm_X8_ends E [.ref (a0 0), .int p1] (wX8 E a0 s0 t0) (wX8 E a0 q.2 t0) q.1 := by
  unfold f_X8_ends at hf
  intro sz
  refine Met.ofW (cc := cX8_ends) (maxL := 3) (ret := (some .int)) (by decide) rfl ?_
  intro p e s m args below meth c s₁ B hml hv
  obtain ⟨rfl, hsz, hP, hK, hD0, hG, hA, hAB⟩ := start hv
  have hx := B.exec
  have hb := B.bytes
  have hr := B.returns
  have hts := atoms_spec (ws := wsX8_ends) B.pre
  have hown : s.vm.findClass RX8 = some m.cls := findClass_of_methodNamed B.named
  have hlocks := B.notSynchronized
  subst hsz
  generalize va_A (wX8 E a0 s0 t0) s.heap.size = A0 at hD0 hA hAB ⊢
  have hDD : ∀ (s0 : St) (t0 : Nat → Nat → Int64), va_D A0 (wX8 E a0 s0 t0) := fun s0 t0 => vD_addr hD0 rfl
  have hS : va_S A0 s.heap s.heap [] := va_S.rf
  have hl := lv_entry ([.ref (a0 0), .int p1]) (n := 3) (Nat.le_of_ble_eq_true rfl)
  rw [lg_entry_eq]
  generalize (lg_sl ([.ref (a0 0), .int p1]) ++ List.replicate (3 - (lg_sl ([.ref (a0 0), .int p1])).length) Slot.unset).toArray = ls at hl ⊢
  have hl : lv_has ls 3 [(0, .ref (a0 0)), (1, .int p1)] := hl
  have hL_18 : ∀ (v1 : Int32) (n_18 : Nat) (s0 : St) (v2 : Int32), l_X8_ends_18 N v1 n_18 s0 v2 = some q → ∀ (H : Heap) (locs : List Loc) (ls : Array Slot), va_P E.1 vwCl (wX8 E a0 s0 t0) H → va_S A0 s.heap H locs → lv_has ls 3 [(0, .ref (a0 0)), (1, .int v1), (2, .int v2)] → W p l e rm_X8_ends s m ([.ref (a0 0), .int p1] : List Value).toArray below meth c H locs 0 0 (MQ below (va_Qi (fun (r' : Int32) (_ : Unit) => r' = q.1) (fun _ t => va_P E.1 vwCl (wX8 E a0 q.2 t0) t.heap) A0) ([.ref (a0 0), .int p1] : List Value).toArray s 0 0 A0) (F0 m 18 ls []) := by
    intro v1 n_18
    induction n_18 with
    | zero => intro s0 v2 hf; rw [l_X8_ends_18] at hf; cases hf
    | succ n_18 ih_18 =>
      intro s0 v2 hf H locs ls hP hS hl
      rw [l_X8_ends_18] at hf
      refine lv_iload_n hx hb dX8_ends_18 rfl (lv_at hl 2 rfl) ?_
      refine lv_aload_n hx hb dX8_ends_19 rfl (lv_at hl 0 rfl) ?_
      refine va_get (ci := 8) (C := RX8) (T := TX8) (N := 67) (v := .int (s0 35 0)) hx hb hts i_X8_ends_X8 hown hK hP 0 rfl rfl 35 (by decide) (hts _ m_X8_ends_4ca6a4) (fun _ h9 => h9) rfl dX8_ends_20 ?_
      refine lv_icmp_ge (tgt := 48) hx hb dX8_ends_23 (by decide) (fun c_23 => ?_) (fun c_23 => ?_)
      · have hf := ite_t c_23 hf
        refine lv_iload_n hx hb dX8_ends_48 rfl (lv_at hl 1 rfl) ?_
        refine lv_if_ne (tgt := 59) hx hb dX8_ends_49 (by decide) (fun c_49 => ?_) (fun c_49 => ?_)
        · have hf := ite_f c_49 hf
          refine lv_aload_n hx hb dX8_ends_59 rfl (lv_at hl 0 rfl) ?_
          refine lv_aload_n hx hb dX8_ends_60 rfl (lv_at hl 0 rfl) ?_
          obtain ⟨q61, hc_61, hf⟩ := cl_e hf
          refine fin_i (E := E) (wc := wX8 E a0 s0 t0) (wc' := wX8 E a0 s0 t0) (va_runV (As := []) (rest := [.ref (a0 0)]) ⟨hx, hb, hml, hown, hts⟩ (k_X8_hadMarks l E a0 N s0 t0 q61 hc_61 _) (cwV 0 hts gX8_ends_X8_hadMarks rfl rfl rfl (by decide +kernel) ⟨(Nat.le_of_ble_eq_true rfl), (Nat.le_of_ble_eq_true rfl)⟩) (pre_v (ci := 8) (q0 := 0) hK hP (hDD s0 t0) hS hG hAB rfl rfl) rfl rfl hl.1 rfl (lv_room (Nat.le_of_ble_eq_true rfl)) dX8_ends_61 ⟨Nat.zero_le _, Nat.zero_le _⟩) hS (w_free (hDD s0 t0) hS hA (fun _ h => h)) (fun H locs hP1 hk hS => ?_)
          have hP := hP1
          obtain ⟨q64, hc_64, hf⟩ := cl_e hf
          refine fin_i (E := E) (wc := wX8 E a0 s0 t0) (wc' := wX8 E a0 s0 t0) (va_runV (As := [.int q61]) (rest := []) ⟨hx, hb, hml, hown, hts⟩ (k_X8_bits l E a0 N s0 t0 q61 q64 hc_64 _) (cwV 1 hts gX8_ends_X8_bits rfl rfl rfl (by decide +kernel) ⟨(Nat.le_of_ble_eq_true rfl), (Nat.le_of_ble_eq_true rfl)⟩) (pre_v (ci := 8) (q0 := 0) hK hP (hDD s0 t0) hS hG hAB rfl rfl) rfl rfl hl.1 rfl (lv_room (Nat.le_of_ble_eq_true rfl)) dX8_ends_64 ⟨Nat.zero_le _, Nat.zero_le _⟩) hS (w_free (hDD s0 t0) hS hA (fun _ h => h)) (fun H locs hP1 hk hS => ?_)
          have hP := hP1
          refine lv_istore_n (lv' := [(2, .int q64), (0, .ref (a0 0)), (1, .int v1)]) hx hb dX8_ends_67 rfl hl (Nat.le_of_ble_eq_true rfl) rfl (fun ls hl => ?_)
          refine lv_aload_n hx hb dX8_ends_68 rfl (lv_at hl 1 rfl) ?_
          obtain ⟨q69, hc_69, hf⟩ := cl_e hf
          refine fin_v (E := E) (wc := wX8 E a0 s0 t0) (wc' := wX8 E a0 q69 t0) (va_runV (As := []) (rest := []) ⟨hx, hb, hml, hown, hts⟩ (k_X8_putBack l E a0 N s0 t0 q69 hc_69 _) (cwV 0 hts gX8_ends_X8_putBack rfl rfl rfl (by decide +kernel) ⟨(Nat.le_of_ble_eq_true rfl), (Nat.le_of_ble_eq_true rfl)⟩) (pre_v (ci := 8) (q0 := 0) hK hP (hDD s0 t0) hS hG hAB rfl rfl) rfl rfl hl.1 rfl (lv_room (Nat.le_of_ble_eq_true rfl)) dX8_ends_69 ⟨Nat.zero_le _, Nat.zero_le _⟩) hS (w_free (hDD s0 t0) hS hA (fun _ h => h)) (fun H locs hP1 hk hS => ?_)
          have hP := hP1
          refine lv_iload_n hx hb dX8_ends_72 rfl (lv_at hl 0 rfl) ?_
          have e9 := Option.some.inj hf
          exact rt_i hx hb hr hlocks (fst_e e9) (rtP (P := fun z => va_P E.1 vwCl (wX8 E a0 z.2 t0) H) e9 hP) hS dX8_ends_73
        · have hf := ite_t c_49 hf
          refine lv_aload_n hx hb dX8_ends_52 rfl (lv_at hl 0 rfl) ?_
          obtain ⟨q53, hc_53, hf⟩ := cl_e hf
          refine fin_i (E := E) (wc := wX8 E a0 s0 t0) (wc' := wX8 E a0 s0 t0) (va_runV (As := []) (rest := []) ⟨hx, hb, hml, hown, hts⟩ (k_X8_hadSet l E a0 N s0 t0 q53 hc_53 _) (cwV 0 hts gX8_ends_X8_hadSet rfl rfl rfl (by decide +kernel) ⟨(Nat.le_of_ble_eq_true rfl), (Nat.le_of_ble_eq_true rfl)⟩) (pre_v (ci := 8) (q0 := 0) hK hP (hDD s0 t0) hS hG hAB rfl rfl) rfl rfl hl.1 rfl (lv_room (Nat.le_of_ble_eq_true rfl)) dX8_ends_53 ⟨Nat.zero_le _, Nat.zero_le _⟩) hS (w_free (hDD s0 t0) hS hA (fun _ h => h)) (fun H locs hP1 hk hS => ?_)
          have hP := hP1
          refine lv_goto (tgt := 67) hx hb dX8_ends_56 (by decide) ?_
          refine lv_istore_n (lv' := [(2, .int q53), (0, .ref (a0 0)), (1, .int v1)]) hx hb dX8_ends_67 rfl hl (Nat.le_of_ble_eq_true rfl) rfl (fun ls hl => ?_)
          refine lv_aload_n hx hb dX8_ends_68 rfl (lv_at hl 1 rfl) ?_
          obtain ⟨q69, hc_69, hf⟩ := cl_e hf
          refine fin_v (E := E) (wc := wX8 E a0 s0 t0) (wc' := wX8 E a0 q69 t0) (va_runV (As := []) (rest := []) ⟨hx, hb, hml, hown, hts⟩ (k_X8_putBack l E a0 N s0 t0 q69 hc_69 _) (cwV 0 hts gX8_ends_X8_putBack rfl rfl rfl (by decide +kernel) ⟨(Nat.le_of_ble_eq_true rfl), (Nat.le_of_ble_eq_true rfl)⟩) (pre_v (ci := 8) (q0 := 0) hK hP (hDD s0 t0) hS hG hAB rfl rfl) rfl rfl hl.1 rfl (lv_room (Nat.le_of_ble_eq_true rfl)) dX8_ends_69 ⟨Nat.zero_le _, Nat.zero_le _⟩) hS (w_free (hDD s0 t0) hS hA (fun _ h => h)) (fun H locs hP1 hk hS => ?_)
          have hP := hP1
          refine lv_iload_n hx hb dX8_ends_72 rfl (lv_at hl 0 rfl) ?_
          have e9 := Option.some.inj hf
          exact rt_i hx hb hr hlocks (fst_e e9) (rtP (P := fun z => va_P E.1 vwCl (wX8 E a0 z.2 t0) H) e9 hP) hS dX8_ends_73
      · have hf := ite_f c_23 hf
        refine lv_aload_n hx hb dX8_ends_26 rfl (lv_at hl 0 rfl) ?_
        refine lv_aload_n hx hb dX8_ends_27 rfl (lv_at hl 0 rfl) ?_
        refine va_get (ci := 8) (C := RX8) (T := TX8) (N := 67) (v := .ref (a0 22)) hx hb hts i_X8_ends_X8 hown hK hP 0 rfl rfl 37 (by decide) (hts _ m_X8_ends_13b3e6) (fun _ h9 => h9) rfl dX8_ends_28 ?_
        refine lv_iload_n hx hb dX8_ends_31 rfl (lv_at hl 2 rfl) ?_
        obtain ⟨h_32, hf⟩ := ck_e hf
        refine va_iald (cA := E.2.1) (n := 10) (f := s0 37) hx hb hK hP 22 0 rfl rfl h_32 dX8_ends_32 ?_
        refine lv_aload_n hx hb dX8_ends_33 rfl (lv_at hl 0 rfl) ?_
        refine va_get (ci := 8) (C := RX8) (T := TX8) (N := 67) (v := .ref (a0 23)) hx hb hts i_X8_ends_X8 hown hK hP 0 rfl rfl 38 (by decide) (hts _ m_X8_ends_dcf18d) (fun _ h9 => h9) rfl dX8_ends_34 ?_
        refine lv_iload_n hx hb dX8_ends_37 rfl (lv_at hl 2 rfl) ?_
        obtain ⟨h_38, hf⟩ := ck_e hf
        refine va_iald (cA := E.2.1) (n := 10) (f := s0 38) hx hb hK hP 23 0 rfl rfl h_38 dX8_ends_38 ?_
        obtain ⟨q39, hc_39, hf⟩ := cl_e hf
        refine fin_v (E := E) (wc := wX8 E a0 s0 t0) (wc' := wX8 E a0 q39 t0) (va_runV (As := [.int (s0 37 v2.toNatClampNeg), .int (s0 38 v2.toNatClampNeg)]) (rest := []) ⟨hx, hb, hml, hown, hts⟩ (k_X8_goWeek l E a0 N s0 t0 (s0 37 v2.toNatClampNeg) (s0 38 v2.toNatClampNeg) q39 hc_39 _) (cwV 2 hts gX8_ends_X8_goWeek rfl rfl rfl (by decide +kernel) ⟨(Nat.le_of_ble_eq_true rfl), (Nat.le_of_ble_eq_true rfl)⟩) (pre_v (ci := 8) (q0 := 0) hK hP (hDD s0 t0) hS hG hAB rfl rfl) rfl rfl hl.1 rfl (lv_room (Nat.le_of_ble_eq_true rfl)) dX8_ends_39 ⟨Nat.zero_le _, Nat.zero_le _⟩) hS (w_free (hDD s0 t0) hS hA (fun _ h => h)) (fun H locs hP1 hk hS => ?_)
        have hP := hP1
        obtain ⟨x42, e_x42⟩ : ∃ y : Int32, y = v2 + 1 := ⟨_, rfl⟩
        have hf := nm_q e_x42 hf
        refine lv_iinc (v := x42) (lv' := [(2, .int x42), (0, .ref (a0 0)), (1, .int v1)]) hx hb dX8_ends_42 hl (k := 2) rfl (by rw [e_x42]; rfl) (Nat.le_of_ble_eq_true rfl) rfl (fun ls hl => ?_)
        refine lv_goto (tgt := 18) hx hb dX8_ends_45 (by decide) ?_
        exact ih_18 q39 x42 hf _ _ _ hP hS (lv_sub hl [1, 2, 0] rfl)
  refine lv_aload_n hx hb dX8_ends_0 rfl (lv_at hl 0 rfl) ?_
  refine lv_iload_n hx hb dX8_ends_1 rfl (lv_at hl 1 rfl) ?_
  refine lv_iconst (v := 0) hx hb dX8_ends_2 (by decide) ?_
  refine lv_iconst (v := 1) hx hb dX8_ends_3 (by decide) ?_
  obtain ⟨q4, hc_4, hf⟩ := cl_e hf
  refine fin_i (E := E) (wc := wX8 E a0 s0 t0) (wc' := wX8 E a0 s0 t0) (va_runV (As := [.int p1, .int 0, .int 1]) (rest := []) ⟨hx, hb, hml, hown, hts⟩ (k_X8_in l E a0 N s0 t0 p1 0 1 q4 hc_4 _) (cwV 3 hts gX8_ends_X8_in rfl rfl rfl (by decide +kernel) ⟨(Nat.le_of_ble_eq_true rfl), (Nat.le_of_ble_eq_true rfl)⟩) (pre_v (ci := 8) (q0 := 0) hK hP (hDD s0 t0) hS hG hAB rfl rfl) rfl rfl hl.1 rfl (lv_room (Nat.le_of_ble_eq_true rfl)) dX8_ends_4 ⟨Nat.zero_le _, Nat.zero_le _⟩) hS (w_free (hDD s0 t0) hS hA (fun _ h => h)) (fun H locs hP1 hk hS => ?_)
  have hP := hP1
  refine lv_if_ne (tgt := 12) hx hb dX8_ends_7 (by decide) (fun c_7 => ?_) (fun c_7 => ?_)
  · have hf := ite_f c_7 hf
    refine lv_aload_n hx hb dX8_ends_12 rfl (lv_at hl 0 rfl) ?_
    obtain ⟨q13, hc_13, hf⟩ := cl_e hf
    refine fin_v (E := E) (wc := wX8 E a0 s0 t0) (wc' := wX8 E a0 q13 t0) (va_runV (As := []) (rest := []) ⟨hx, hb, hml, hown, hts⟩ (k_X8_save l E a0 N s0 t0 q13 hc_13 _) (cwV 0 hts gX8_ends_X8_save rfl rfl rfl (by decide +kernel) ⟨(Nat.le_of_ble_eq_true rfl), (Nat.le_of_ble_eq_true rfl)⟩) (pre_v (ci := 8) (q0 := 0) hK hP (hDD s0 t0) hS hG hAB rfl rfl) rfl rfl hl.1 rfl (lv_room (Nat.le_of_ble_eq_true rfl)) dX8_ends_13 ⟨Nat.zero_le _, Nat.zero_le _⟩) hS (w_free (hDD s0 t0) hS hA (fun _ h => h)) (fun H locs hP1 hk hS => ?_)
    have hP := hP1
    refine lv_iconst (v := 0) hx hb dX8_ends_16 (by decide) ?_
    refine lv_istore_n (lv' := [(2, .int 0), (0, .ref (a0 0)), (1, .int p1)]) hx hb dX8_ends_17 rfl hl (Nat.le_of_ble_eq_true rfl) rfl (fun ls hl => ?_)
    exact hL_18 p1 N q13 0 hf _ _ _ hP hS (lv_sub hl [1, 2, 0] rfl)
  · have hf := ite_t c_7 hf
    refine lv_iconst (v := (-1)) hx hb dX8_ends_10 (by decide) ?_
    have e9 := Option.some.inj hf
    exact rt_i hx hb hr hlocks (fst_e e9) (rtP (P := fun z => va_P E.1 vwCl (wX8 E a0 z.2 t0) H) e9 hP) hS dX8_ends_11
abbrev rm_X8_book : Room := { frames := 2, cells := 0, slots := 0, locals := 44 }
theorem m_X8_book_87408b : Cond.fieldLink RX8 120 "PickedMatchModel" "books" "I" ∈ wsX8_book := by decide +kernel
theorem i_X8_book_X8 : ∀ w ∈ wsX80, w ∈ wsX8_book := fun _ h => List.mem_cons_of_mem _ (List.mem_append_right _ h)
theorem m_X8_book_a6023e : Cond.fieldLink RX8 129 "PickedMatchModel" "bookThing" "[I" ∈ wsX8_book := by decide +kernel
theorem m_X8_book_b5e8bc : Cond.fieldLink RX8 132 "PickedMatchModel" "bookMarks" "[I" ∈ wsX8_book := by decide +kernel
set_option maxHeartbeats 8000000 in
set_option maxRecDepth 100000 in
theorem k_X8_book (l : Launch) (E : Ev) (a0 : Nat → Nat) (N : Nat) (s0 : St) (t0 : Nat → Nat → Int64) (p1 : Int32) (p2 : Int32) (q : (Int32 × St)) (hf : f_X8_book N s0 p1 p2 = some q) : Ci l yX8_book wsX8_book rm_X8_book E [.ref (a0 0), .int p1, .int p2] (wX8 E a0 s0 t0) (wX8 E a0 q.2 t0) q.1 := by
  unfold f_X8_book at hf
  intro sz
  refine Met.ofW (cc := cX8_book) (maxL := 3) (ret := (some .int)) (by decide) rfl ?_
  intro p e s m args below meth c s₁ B hml hv
  obtain ⟨rfl, hsz, hP, hK, hD0, hG, hA, hAB⟩ := start hv
  have hx := B.exec
  have hb := B.bytes
  have hr := B.returns
  have hts := atoms_spec (ws := wsX8_book) B.pre
  have hown : s.vm.findClass RX8 = some m.cls := findClass_of_methodNamed B.named
  have hlocks := B.notSynchronized
  subst hsz
  generalize va_A (wX8 E a0 s0 t0) s.heap.size = A0 at hD0 hA hAB ⊢
  have hDD : ∀ (s0 : St) (t0 : Nat → Nat → Int64), va_D A0 (wX8 E a0 s0 t0) := fun s0 t0 => vD_addr hD0 rfl
  have hS : va_S A0 s.heap s.heap [] := va_S.rf
  have hl := lv_entry ([.ref (a0 0), .int p1, .int p2]) (n := 3) (Nat.le_of_ble_eq_true rfl)
  rw [lg_entry_eq]
  generalize (lg_sl ([.ref (a0 0), .int p1, .int p2]) ++ List.replicate (3 - (lg_sl ([.ref (a0 0), .int p1, .int p2])).length) Slot.unset).toArray = ls at hl ⊢
  have hl : lv_has ls 3 [(0, .ref (a0 0)), (1, .int p1), (2, .int p2)] := hl
  refine lv_iload_n hx hb dX8_book_0 rfl (lv_at hl 1 rfl) ?_
  refine lv_iconst (v := (-1)) hx hb dX8_book_1 (by decide) ?_
  refine lv_icmp_ne (tgt := 12) hx hb dX8_book_2 (by decide) (fun c_2 => ?_) (fun c_2 => ?_)
  · have hf := ite_f c_2 hf
    refine lv_aload_n hx hb dX8_book_12 rfl (lv_at hl 0 rfl) ?_
    refine lv_iload_n hx hb dX8_book_13 rfl (lv_at hl 1 rfl) ?_
    obtain ⟨q14, hc_14, hf⟩ := cl_e hf
    refine fin_i (E := E) (wc := wX8 E a0 s0 t0) (wc' := wX8 E a0 s0 t0) (va_runV (As := [.int p1]) (rest := []) ⟨hx, hb, hml, hown, hts⟩ (k_X8_isThing l E a0 N s0 t0 p1 q14 hc_14 _) (cwV 1 hts gX8_book_X8_isThing rfl rfl rfl (by decide +kernel) ⟨(Nat.le_of_ble_eq_true rfl), (Nat.le_of_ble_eq_true rfl)⟩) (pre_v (ci := 8) (q0 := 0) hK hP (hDD s0 t0) hS hG hAB rfl rfl) rfl rfl hl.1 rfl (lv_room (Nat.le_of_ble_eq_true rfl)) dX8_book_14 ⟨Nat.zero_le _, Nat.zero_le _⟩) hS (w_free (hDD s0 t0) hS hA (fun _ h => h)) (fun H locs hP1 hk hS => ?_)
    have hP := hP1
    refine lv_if_ne (tgt := 22) hx hb dX8_book_17 (by decide) (fun c_17 => ?_) (fun c_17 => ?_)
    · have hf := ite_f c_17 hf
      refine lv_aload_n hx hb dX8_book_22 rfl (lv_at hl 0 rfl) ?_
      refine lv_iload_n hx hb dX8_book_23 rfl (lv_at hl 2 rfl) ?_
      obtain ⟨q24, hc_24, hf⟩ := cl_e hf
      refine fin_i (E := E) (wc := wX8 E a0 s0 t0) (wc' := wX8 E a0 s0 t0) (va_runV (As := [.int p2]) (rest := []) ⟨hx, hb, hml, hown, hts⟩ (k_X8_isMarks l E a0 N s0 t0 p2 q24 hc_24 _) (cwV 1 hts gX8_book_X8_isMarks rfl rfl rfl (by decide +kernel) ⟨(Nat.le_of_ble_eq_true rfl), (Nat.le_of_ble_eq_true rfl)⟩) (pre_v (ci := 8) (q0 := 0) hK hP (hDD s0 t0) hS hG hAB rfl rfl) rfl rfl hl.1 rfl (lv_room (Nat.le_of_ble_eq_true rfl)) dX8_book_24 ⟨Nat.zero_le _, Nat.zero_le _⟩) hS (w_free (hDD s0 t0) hS hA (fun _ h => h)) (fun H locs hP1 hk hS => ?_)
      have hP := hP1
      refine lv_if_ne (tgt := 33) hx hb dX8_book_27 (by decide) (fun c_27 => ?_) (fun c_27 => ?_)
      · have hf := ite_f c_27 hf
        refine lv_aload_n hx hb dX8_book_33 rfl (lv_at hl 0 rfl) ?_
        refine va_get (ci := 8) (C := RX8) (T := TX8) (N := 67) (v := .int (s0 36 0)) hx hb hts i_X8_book_X8 hown hK hP 0 rfl rfl 36 (by decide) (hts _ m_X8_book_87408b) (fun _ h9 => h9) rfl dX8_book_34 ?_
        refine lv_bipush (v := 8) hx hb dX8_book_37 (by decide) ?_
        refine lv_icmp_ne (tgt := 45) hx hb dX8_book_39 (by decide) (fun c_39 => ?_) (fun c_39 => ?_)
        · have hf := ite_f c_39 hf
          refine lv_aload_n hx hb dX8_book_45 rfl (lv_at hl 0 rfl) ?_
          refine va_get (ci := 8) (C := RX8) (T := TX8) (N := 67) (v := .ref (a0 24)) hx hb hts i_X8_book_X8 hown hK hP 0 rfl rfl 39 (by decide) (hts _ m_X8_book_a6023e) (fun _ h9 => h9) rfl dX8_book_46 ?_
          refine lv_aload_n hx hb dX8_book_49 rfl (lv_at hl 0 rfl) ?_
          refine va_get (ci := 8) (C := RX8) (T := TX8) (N := 67) (v := .int (s0 36 0)) hx hb hts i_X8_book_X8 hown hK hP 0 rfl rfl 36 (by decide) (hts _ m_X8_book_87408b) (fun _ h9 => h9) rfl dX8_book_50 ?_
          refine lv_iload_n hx hb dX8_book_53 rfl (lv_at hl 1 rfl) ?_
          obtain ⟨h_54, hf⟩ := ck_e hf
          refine va_iast (cA := E.2.1) (n := 8) (f := s0 39) (x := p1) hx hb hK hP (hDD s0 t0) hS 24 0 rfl rfl h_54 dX8_book_54 (fun H locs hP _ hS => ?_)
          obtain ⟨s0_54, hP, hf⟩ := nm_st' (P := fun z => va_P E.1 vwCl (wX8 E a0 z t0) H) hf hP
          refine lv_aload_n hx hb dX8_book_55 rfl (lv_at hl 0 rfl) ?_
          refine va_get (ci := 8) (C := RX8) (T := TX8) (N := 67) (v := .ref (a0 25)) hx hb hts i_X8_book_X8 hown hK hP 0 rfl rfl 40 (by decide) (hts _ m_X8_book_b5e8bc) (fun _ h9 => h9) rfl dX8_book_56 ?_
          refine lv_aload_n hx hb dX8_book_59 rfl (lv_at hl 0 rfl) ?_
          refine va_get (ci := 8) (C := RX8) (T := TX8) (N := 67) (v := .int (s0_54 36 0)) hx hb hts i_X8_book_X8 hown hK hP 0 rfl rfl 36 (by decide) (hts _ m_X8_book_87408b) (fun _ h9 => h9) rfl dX8_book_60 ?_
          refine lv_iload_n hx hb dX8_book_63 rfl (lv_at hl 2 rfl) ?_
          obtain ⟨h_64, hf⟩ := ck_e hf
          refine va_iast (cA := E.2.1) (n := 8) (f := s0_54 40) (x := p2) hx hb hK hP (hDD s0_54 t0) hS 25 0 rfl rfl h_64 dX8_book_64 (fun H locs hP _ hS => ?_)
          obtain ⟨s0_64, hP, hf⟩ := nm_st' (P := fun z => va_P E.1 vwCl (wX8 E a0 z t0) H) hf hP
          refine lv_aload_n hx hb dX8_book_65 rfl (lv_at hl 0 rfl) ?_
          refine lv_dup hx hb dX8_book_66 rfl ?_
          refine va_get (ci := 8) (C := RX8) (T := TX8) (N := 67) (v := .int (s0_64 36 0)) hx hb hts i_X8_book_X8 hown hK hP 0 rfl rfl 36 (by decide) (hts _ m_X8_book_87408b) (fun _ h9 => h9) rfl dX8_book_67 ?_
          refine lv_iconst (v := 1) hx hb dX8_book_70 (by decide) ?_
          refine lv_iadd hx hb dX8_book_71 ?_
          refine va_put (ci := 8) (v := .int ((s0_64 36 0) + 1)) (ty := .int) (C := RX8) (T := TX8) (N := 67) hx hb hts i_X8_book_X8 tyX8 tyX8_ok nmX8 hown hK hP (hDD s0_64 t0) hS 0 rfl rfl 36 (by decide) (hts _ m_X8_book_87408b) (fun _ h9 => h9) rfl (by decide +kernel) rfl rfl (Nat.le_of_ble_eq_true rfl) dX8_book_72 (fun H locs hP _ hS => ?_)
          obtain ⟨s0_72, hP, hf⟩ := nm_st' (P := fun z => va_P E.1 vwCl (wX8 E a0 z t0) H) hf hP
          refine lv_aload_n hx hb dX8_book_75 rfl (lv_at hl 0 rfl) ?_
          refine va_get (ci := 8) (C := RX8) (T := TX8) (N := 67) (v := .int (s0_72 36 0)) hx hb hts i_X8_book_X8 hown hK hP 0 rfl rfl 36 (by decide) (hts _ m_X8_book_87408b) (fun _ h9 => h9) rfl dX8_book_76 ?_
          have e9 := Option.some.inj hf
          exact rt_i hx hb hr hlocks (fst_e e9) (rtP (P := fun z => va_P E.1 vwCl (wX8 E a0 z.2 t0) H) e9 hP) hS dX8_book_79
        · have hf := ite_t c_39 hf
          refine lv_bipush (v := (-4)) hx hb dX8_book_42 (by decide) ?_
          have e9 := Option.some.inj hf
          exact rt_i hx hb hr hlocks (fst_e e9) (rtP (P := fun z => va_P E.1 vwCl (wX8 E a0 z.2 t0) H) e9 hP) hS dX8_book_44
      · have hf := ite_t c_27 hf
        refine lv_bipush (v := (-2)) hx hb dX8_book_30 (by decide) ?_
        have e9 := Option.some.inj hf
        exact rt_i hx hb hr hlocks (fst_e e9) (rtP (P := fun z => va_P E.1 vwCl (wX8 E a0 z.2 t0) H) e9 hP) hS dX8_book_32
    · have hf := ite_t c_17 hf
      refine lv_iconst (v := (-1)) hx hb dX8_book_20 (by decide) ?_
      have e9 := Option.some.inj hf
      exact rt_i hx hb hr hlocks (fst_e e9) (rtP (P := fun z => va_P E.1 vwCl (wX8 E a0 z.2 t0) H) e9 hP) hS dX8_book_21
  · have hf := ite_t c_2 hf
    refine lv_aload_n hx hb dX8_book_5 rfl (lv_at hl 0 rfl) ?_
    refine lv_iconst (v := 0) hx hb dX8_book_6 (by decide) ?_
    refine va_put (ci := 8) (v := .int 0) (ty := .int) (C := RX8) (T := TX8) (N := 67) hx hb hts i_X8_book_X8 tyX8 tyX8_ok nmX8 hown hK hP (hDD s0 t0) hS 0 rfl rfl 36 (by decide) (hts _ m_X8_book_87408b) (fun _ h9 => h9) rfl (by decide +kernel) rfl rfl (Nat.le_of_ble_eq_true rfl) dX8_book_7 (fun H locs hP _ hS => ?_)
    obtain ⟨s0_7, hP, hf⟩ := nm_st' (P := fun z => va_P E.1 vwCl (wX8 E a0 z t0) H) hf hP
    refine lv_iconst (v := 0) hx hb dX8_book_10 (by decide) ?_
    have e9 := Option.some.inj hf
    exact rt_i hx hb hr hlocks (fst_e e9) (rtP (P := fun z => va_P E.1 vwCl (wX8 E a0 z.2 t0) H) e9 hP) hS dX8_book_11
abbrev rm_X8_looked : Room := { frames := 0, cells := 0, slots := 0, locals := 0 }
theorem m_X8_looked_87408b : Cond.fieldLink RX8 120 "PickedMatchModel" "books" "I" ∈ wsX8_looked := by decide +kernel
theorem i_X8_looked_X8 : ∀ w ∈ wsX80, w ∈ wsX8_looked := fun _ h => List.mem_cons_of_mem _ (List.mem_append_right _ h)
theorem m_X8_looked_fa4c49 : Cond.fieldLink RX8 26 "PickedMatchModel" "marks" "[I" ∈ wsX8_looked := by decide +kernel
theorem m_X8_looked_a6023e : Cond.fieldLink RX8 129 "PickedMatchModel" "bookThing" "[I" ∈ wsX8_looked := by decide +kernel
theorem m_X8_looked_b5e8bc : Cond.fieldLink RX8 132 "PickedMatchModel" "bookMarks" "[I" ∈ wsX8_looked := by decide +kernel
set_option maxHeartbeats 8000000 in
set_option maxRecDepth 100000 in
theorem k_X8_looked (l : Launch) (E : Ev) (a0 : Nat → Nat) (N : Nat) (s0 : St) (t0 : Nat → Nat → Int64) (q : (Int32)) (hf : f_X8_looked N s0 = some q) : Ci l yX8_looked wsX8_looked rm_X8_looked E [.ref (a0 0)] (wX8 E a0 s0 t0) (wX8 E a0 s0 t0) q := by
  unfold f_X8_looked at hf
  intro sz
  refine Met.ofW (cc := cX8_looked) (maxL := 2) (ret := (some .int)) (by decide) rfl ?_
  intro p e s m args below meth c s₁ B hml hv
  obtain ⟨rfl, hsz, hP, hK, hD0, hG, hA, hAB⟩ := start hv
  have hx := B.exec
  have hb := B.bytes
  have hr := B.returns
  have hts := atoms_spec (ws := wsX8_looked) B.pre
  have hown : s.vm.findClass RX8 = some m.cls := findClass_of_methodNamed B.named
  have hlocks := B.notSynchronized
  subst hsz
  generalize va_A (wX8 E a0 s0 t0) s.heap.size = A0 at hD0 hA hAB ⊢
  have hDD : ∀ (s0 : St) (t0 : Nat → Nat → Int64), va_D A0 (wX8 E a0 s0 t0) := fun s0 t0 => vD_addr hD0 rfl
  have hS : va_S A0 s.heap s.heap [] := va_S.rf
  have hl := lv_entry ([.ref (a0 0)]) (n := 2) (Nat.le_of_ble_eq_true rfl)
  rw [lg_entry_eq]
  generalize (lg_sl ([.ref (a0 0)]) ++ List.replicate (2 - (lg_sl ([.ref (a0 0)])).length) Slot.unset).toArray = ls at hl ⊢
  have hl : lv_has ls 2 [(0, .ref (a0 0))] := hl
  have hL_2 : ∀ (s0 : St) (n_2 : Nat) (v1 : Int32), l_X8_looked_2 N s0 n_2 v1 = some q → ∀ (H : Heap) (locs : List Loc) (ls : Array Slot), va_P E.1 vwCl (wX8 E a0 s0 t0) H → va_S A0 s.heap H locs → lv_has ls 2 [(0, .ref (a0 0)), (1, .int v1)] → W p l e rm_X8_looked s m ([.ref (a0 0)] : List Value).toArray below meth c H locs 0 0 (MQ below (va_Qi (fun (r' : Int32) (_ : Unit) => r' = q) (fun _ t => va_P E.1 vwCl (wX8 E a0 s0 t0) t.heap) A0) ([.ref (a0 0)] : List Value).toArray s 0 0 A0) (F0 m 2 ls []) := by
    intro s0 n_2
    induction n_2 with
    | zero => intro v1 hf; rw [l_X8_looked_2] at hf; cases hf
    | succ n_2 ih_2 =>
      intro v1 hf H locs ls hP hS hl
      rw [l_X8_looked_2] at hf
      refine lv_iload_n hx hb dX8_looked_2 rfl (lv_at hl 1 rfl) ?_
      refine lv_aload_n hx hb dX8_looked_3 rfl (lv_at hl 0 rfl) ?_
      refine va_get (ci := 8) (C := RX8) (T := TX8) (N := 67) (v := .int (s0 36 0)) hx hb hts i_X8_looked_X8 hown hK hP 0 rfl rfl 36 (by decide) (hts _ m_X8_looked_87408b) (fun _ h9 => h9) rfl dX8_looked_4 ?_
      refine lv_icmp_ge (tgt := 38) hx hb dX8_looked_7 (by decide) (fun c_7 => ?_) (fun c_7 => ?_)
      · have hf := ite_t c_7 hf
        refine lv_bipush (v := (-5)) hx hb dX8_looked_38 (by decide) ?_
        have e9 := Option.some.inj hf
        exact rt_i hx hb hr hlocks e9 hP hS dX8_looked_40
      · have hf := ite_f c_7 hf
        refine lv_aload_n hx hb dX8_looked_10 rfl (lv_at hl 0 rfl) ?_
        refine va_get (ci := 8) (C := RX8) (T := TX8) (N := 67) (v := .ref (a0 3)) hx hb hts i_X8_looked_X8 hown hK hP 0 rfl rfl 5 (by decide) (hts _ m_X8_looked_fa4c49) (fun _ h9 => h9) rfl dX8_looked_11 ?_
        refine lv_aload_n hx hb dX8_looked_14 rfl (lv_at hl 0 rfl) ?_
        refine va_get (ci := 8) (C := RX8) (T := TX8) (N := 67) (v := .ref (a0 24)) hx hb hts i_X8_looked_X8 hown hK hP 0 rfl rfl 39 (by decide) (hts _ m_X8_looked_a6023e) (fun _ h9 => h9) rfl dX8_looked_15 ?_
        refine lv_iload_n hx hb dX8_looked_18 rfl (lv_at hl 1 rfl) ?_
        obtain ⟨h_19, hf⟩ := ck_e hf
        refine va_iald (cA := E.2.1) (n := 8) (f := s0 39) hx hb hK hP 24 0 rfl rfl h_19 dX8_looked_19 ?_
        obtain ⟨h_20, hf⟩ := ck_e hf
        refine va_iald (cA := E.2.1) (n := 6) (f := s0 5) hx hb hK hP 3 0 rfl rfl h_20 dX8_looked_20 ?_
        refine lv_aload_n hx hb dX8_looked_21 rfl (lv_at hl 0 rfl) ?_
        refine va_get (ci := 8) (C := RX8) (T := TX8) (N := 67) (v := .ref (a0 25)) hx hb hts i_X8_looked_X8 hown hK hP 0 rfl rfl 40 (by decide) (hts _ m_X8_looked_b5e8bc) (fun _ h9 => h9) rfl dX8_looked_22 ?_
        refine lv_iload_n hx hb dX8_looked_25 rfl (lv_at hl 1 rfl) ?_
        obtain ⟨h_26, hf⟩ := ck_e hf
        refine va_iald (cA := E.2.1) (n := 8) (f := s0 40) hx hb hK hP 25 0 rfl rfl h_26 dX8_looked_26 ?_
        refine lv_icmp_eq (tgt := 32) hx hb dX8_looked_27 (by decide) (fun c_27 => ?_) (fun c_27 => ?_)
        · have hf := ite_t c_27 hf
          obtain ⟨x32, e_x32⟩ : ∃ y : Int32, y = v1 + 1 := ⟨_, rfl⟩
          have hf := nm_q e_x32 hf
          refine lv_iinc (v := x32) (lv' := [(1, .int x32), (0, .ref (a0 0))]) hx hb dX8_looked_32 hl (k := 1) rfl (by rw [e_x32]; rfl) (Nat.le_of_ble_eq_true rfl) rfl (fun ls hl => ?_)
          refine lv_goto (tgt := 2) hx hb dX8_looked_35 (by decide) ?_
          exact ih_2 x32 hf _ _ _ hP hS (lv_sub hl [1, 0] rfl)
        · have hf := ite_f c_27 hf
          refine lv_iload_n hx hb dX8_looked_30 rfl (lv_at hl 1 rfl) ?_
          have e9 := Option.some.inj hf
          exact rt_i hx hb hr hlocks e9 hP hS dX8_looked_31
  refine lv_iconst (v := 0) hx hb dX8_looked_0 (by decide) ?_
  refine lv_istore_n (lv' := [(1, .int 0), (0, .ref (a0 0))]) hx hb dX8_looked_1 rfl hl (Nat.le_of_ble_eq_true rfl) rfl (fun ls hl => ?_)
  exact hL_2 s0 N 0 hf _ _ _ hP hS (lv_sub hl [1, 0] rfl)
abbrev rm_X8_isTape : Room := { frames := 1, cells := 0, slots := 0, locals := 23 }
set_option maxHeartbeats 8000000 in
set_option maxRecDepth 100000 in
theorem k_X8_isTape (l : Launch) (E : Ev) (a0 : Nat → Nat) (N : Nat) (s0 : St) (t0 : Nat → Nat → Int64) (p1 : Int32) (q : (Int32)) (hf : f_X8_isTape N p1 = some q) : Ci l yX8_isTape wsX8_isTape rm_X8_isTape E [.ref (a0 0), .int p1] (wX8 E a0 s0 t0) (wX8 E a0 s0 t0) q := by
  unfold f_X8_isTape at hf
  intro sz
  refine Met.ofW (cc := cX8_isTape) (maxL := 2) (ret := (some .boolean)) (by decide) rfl ?_
  intro p e s m args below meth c s₁ B hml hv
  obtain ⟨rfl, hsz, hP, hK, hD0, hG, hA, hAB⟩ := start hv
  have hx := B.exec
  have hb := B.bytes
  have hr := B.returns
  have hts := atoms_spec (ws := wsX8_isTape) B.pre
  have hown : s.vm.findClass RX8 = some m.cls := findClass_of_methodNamed B.named
  have hlocks := B.notSynchronized
  subst hsz
  generalize va_A (wX8 E a0 s0 t0) s.heap.size = A0 at hD0 hA hAB ⊢
  have hDD : ∀ (s0 : St) (t0 : Nat → Nat → Int64), va_D A0 (wX8 E a0 s0 t0) := fun s0 t0 => vD_addr hD0 rfl
  have hS : va_S A0 s.heap s.heap [] := va_S.rf
  have hl := lv_entry ([.ref (a0 0), .int p1]) (n := 2) (Nat.le_of_ble_eq_true rfl)
  rw [lg_entry_eq]
  generalize (lg_sl ([.ref (a0 0), .int p1]) ++ List.replicate (2 - (lg_sl ([.ref (a0 0), .int p1])).length) Slot.unset).toArray = ls at hl ⊢
  have hl : lv_has ls 2 [(0, .ref (a0 0)), (1, .int p1)] := hl
  refine lv_aload_n hx hb dX8_isTape_0 rfl (lv_at hl 0 rfl) ?_
  refine lv_iload_n hx hb dX8_isTape_1 rfl (lv_at hl 1 rfl) ?_
  refine lv_iconst (v := 0) hx hb dX8_isTape_2 (by decide) ?_
  refine lv_iconst (v := 5) hx hb dX8_isTape_3 (by decide) ?_
  obtain ⟨q4, hc_4, hf⟩ := cl_e hf
  refine fin_i (E := E) (wc := wX8 E a0 s0 t0) (wc' := wX8 E a0 s0 t0) (va_runV (As := [.int p1, .int 0, .int 5]) (rest := []) ⟨hx, hb, hml, hown, hts⟩ (k_X8_in l E a0 N s0 t0 p1 0 5 q4 hc_4 _) (cwV 3 hts gX8_isTape_X8_in rfl rfl rfl (by decide +kernel) ⟨(Nat.le_of_ble_eq_true rfl), (Nat.le_of_ble_eq_true rfl)⟩) (pre_v (ci := 8) (q0 := 0) hK hP (hDD s0 t0) hS hG hAB rfl rfl) rfl rfl hl.1 rfl (lv_room (Nat.le_of_ble_eq_true rfl)) dX8_isTape_4 ⟨Nat.zero_le _, Nat.zero_le _⟩) hS (w_free (hDD s0 t0) hS hA (fun _ h => h)) (fun H locs hP1 hk hS => ?_)
  have hP := hP1
  obtain ⟨hn_7, hf⟩ := cb_e hf
  have e9 := Option.some.inj hf
  exact rt_z hx hb hr (nar_b hn_7) hlocks e9 hP hS dX8_isTape_7
abbrev rm_X8_judge : Room := { frames := 2, cells := 0, slots := 0, locals := 44 }
theorem m_X8_judge_acbb5e : Cond.fieldLink RX8 7 "PickedMatchModel" "things" "I" ∈ wsX8_judge := by decide +kernel
theorem i_X8_judge_X8 : ∀ w ∈ wsX80, w ∈ wsX8_judge := fun _ h => List.mem_cons_of_mem _ (List.mem_append_right _ h)
theorem m_X8_judge_0b4136 : Cond.fieldLink RX8 202 "PickedMatchModel" "sort" "[I" ∈ wsX8_judge := by decide +kernel
theorem m_X8_judge_834687 : Cond.fieldLink RX8 205 "PickedMatchModel" "length" "[I" ∈ wsX8_judge := by decide +kernel
theorem m_X8_judge_e1292b : Cond.fieldLink RX8 208 "PickedMatchModel" "item" "[J" ∈ wsX8_judge := by decide +kernel
theorem m_X8_judge_fa4c49 : Cond.fieldLink RX8 26 "PickedMatchModel" "marks" "[I" ∈ wsX8_judge := by decide +kernel
set_option maxHeartbeats 8000000 in
set_option maxRecDepth 100000 in
theorem k_X8_judge (l : Launch) (E : Ev) (a0 : Nat → Nat) (N : Nat) (s0 : St) (t0 : Nat → Nat → Int64) (p1 : Int32) (p2 : Int32) (q : (Int32)) (hf : f_X8_judge N s0 t0 p1 p2 = some q) : Ci l yX8_judge wsX8_judge rm_X8_judge E [.ref (a0 0), .int p1, .int p2] (wX8 E a0 s0 t0) (wX8 E a0 s0 t0) q := by
  unfold f_X8_judge at hf
  intro sz
  refine Met.ofW (cc := cX8_judge) (maxL := 4) (ret := (some .int)) (by decide) rfl ?_
  intro p e s m args below meth c s₁ B hml hv
  obtain ⟨rfl, hsz, hP, hK, hD0, hG, hA, hAB⟩ := start hv
  have hx := B.exec
  have hb := B.bytes
  have hr := B.returns
  have hts := atoms_spec (ws := wsX8_judge) B.pre
  have hown : s.vm.findClass RX8 = some m.cls := findClass_of_methodNamed B.named
  have hlocks := B.notSynchronized
  subst hsz
  generalize va_A (wX8 E a0 s0 t0) s.heap.size = A0 at hD0 hA hAB ⊢
  have hDD : ∀ (s0 : St) (t0 : Nat → Nat → Int64), va_D A0 (wX8 E a0 s0 t0) := fun s0 t0 => vD_addr hD0 rfl
  have hS : va_S A0 s.heap s.heap [] := va_S.rf
  have hl := lv_entry ([.ref (a0 0), .int p1, .int p2]) (n := 4) (Nat.le_of_ble_eq_true rfl)
  rw [lg_entry_eq]
  generalize (lg_sl ([.ref (a0 0), .int p1, .int p2]) ++ List.replicate (4 - (lg_sl ([.ref (a0 0), .int p1, .int p2])).length) Slot.unset).toArray = ls at hl ⊢
  have hl : lv_has ls 4 [(0, .ref (a0 0)), (1, .int p1), (2, .int p2)] := hl
  have hL_34 : ∀ (s0 : St) (t0 : Nat → Nat → Int64) (v1 : Int32) (v2 : Int32) (n_34 : Nat) (v3 : Int32), l_X8_judge_34 N s0 t0 v1 v2 n_34 v3 = some q → ∀ (H : Heap) (locs : List Loc) (ls : Array Slot), va_P E.1 vwCl (wX8 E a0 s0 t0) H → va_S A0 s.heap H locs → lv_has ls 4 [(0, .ref (a0 0)), (1, .int v1), (2, .int v2), (3, .int v3)] → W p l e rm_X8_judge s m ([.ref (a0 0), .int p1, .int p2] : List Value).toArray below meth c H locs 0 0 (MQ below (va_Qi (fun (r' : Int32) (_ : Unit) => r' = q) (fun _ t => va_P E.1 vwCl (wX8 E a0 s0 t0) t.heap) A0) ([.ref (a0 0), .int p1, .int p2] : List Value).toArray s 0 0 A0) (F0 m 34 ls []) := by
    intro s0 t0 v1 v2 n_34
    induction n_34 with
    | zero => intro v3 hf; rw [l_X8_judge_34] at hf; cases hf
    | succ n_34 ih_34 =>
      intro v3 hf H locs ls hP hS hl
      rw [l_X8_judge_34] at hf
      refine lv_iload_n hx hb dX8_judge_34 rfl (lv_at hl 3 rfl) ?_
      refine lv_aload_n hx hb dX8_judge_35 rfl (lv_at hl 0 rfl) ?_
      refine va_get (ci := 8) (C := RX8) (T := TX8) (N := 67) (v := .int (s0 0 0)) hx hb hts i_X8_judge_X8 hown hK hP 0 rfl rfl 0 (by decide) (hts _ m_X8_judge_acbb5e) (fun _ h9 => h9) rfl dX8_judge_36 ?_
      refine lv_icmp_ge (tgt := 106) hx hb dX8_judge_39 (by decide) (fun c_39 => ?_) (fun c_39 => ?_)
      · have hf := ite_t c_39 hf
        refine lv_bipush (v := (-5)) hx hb dX8_judge_106 (by decide) ?_
        have e9 := Option.some.inj hf
        exact rt_i hx hb hr hlocks e9 hP hS dX8_judge_108
      · have hf := ite_f c_39 hf
        refine lv_aload_n hx hb dX8_judge_42 rfl (lv_at hl 0 rfl) ?_
        refine va_get (ci := 8) (C := RX8) (T := TX8) (N := 67) (v := .ref (a0 39)) hx hb hts i_X8_judge_X8 hown hK hP 0 rfl rfl 63 (by decide) (hts _ m_X8_judge_0b4136) (fun _ h9 => h9) rfl dX8_judge_43 ?_
        refine lv_iload_n hx hb dX8_judge_46 rfl (lv_at hl 1 rfl) ?_
        obtain ⟨h_47, hf⟩ := ck_e hf
        refine va_iald (cA := E.2.1) (n := 6) (f := s0 63) hx hb hK hP 39 0 rfl rfl h_47 dX8_judge_47 ?_
        refine lv_if_lt (tgt := 69) hx hb dX8_judge_48 (by decide) (fun c_48 => ?_) (fun c_48 => ?_)
        · have hf := ite_t c_48 hf
          refine lv_bipush (v := 100) hx hb dX8_judge_69 (by decide) ?_
          refine lv_iload_n hx hb dX8_judge_71 rfl (lv_at hl 3 rfl) ?_
          refine lv_iadd hx hb dX8_judge_72 ?_
          have e9 := Option.some.inj hf
          exact rt_i hx hb hr hlocks e9 hP hS dX8_judge_73
        · have hf := ite_f c_48 hf
          refine lv_iload_n hx hb dX8_judge_51 rfl (lv_at hl 2 rfl) ?_
          refine lv_if_lt (tgt := 69) hx hb dX8_judge_52 (by decide) (fun c_52 => ?_) (fun c_52 => ?_)
          · have hf := ite_t c_52 hf
            refine lv_bipush (v := 100) hx hb dX8_judge_69 (by decide) ?_
            refine lv_iload_n hx hb dX8_judge_71 rfl (lv_at hl 3 rfl) ?_
            refine lv_iadd hx hb dX8_judge_72 ?_
            have e9 := Option.some.inj hf
            exact rt_i hx hb hr hlocks e9 hP hS dX8_judge_73
          · have hf := ite_f c_52 hf
            refine lv_iload_n hx hb dX8_judge_55 rfl (lv_at hl 2 rfl) ?_
            refine lv_aload_n hx hb dX8_judge_56 rfl (lv_at hl 0 rfl) ?_
            refine va_get (ci := 8) (C := RX8) (T := TX8) (N := 67) (v := .ref (a0 40)) hx hb hts i_X8_judge_X8 hown hK hP 0 rfl rfl 64 (by decide) (hts _ m_X8_judge_834687) (fun _ h9 => h9) rfl dX8_judge_57 ?_
            refine lv_iload_n hx hb dX8_judge_60 rfl (lv_at hl 1 rfl) ?_
            obtain ⟨h_61, hf⟩ := ck_e hf
            refine va_iald (cA := E.2.1) (n := 6) (f := s0 64) hx hb hK hP 40 0 rfl rfl h_61 dX8_judge_61 ?_
            refine lv_iload_n hx hb dX8_judge_62 rfl (lv_at hl 3 rfl) ?_
            refine lv_isub hx hb dX8_judge_63 ?_
            refine lv_iconst (v := 1) hx hb dX8_judge_64 (by decide) ?_
            refine lv_isub hx hb dX8_judge_65 ?_
            refine lv_icmp_le (tgt := 74) hx hb dX8_judge_66 (by decide) (fun c_66 => ?_) (fun c_66 => ?_)
            · have hf := ite_t c_66 hf
              refine lv_aload_n hx hb dX8_judge_74 rfl (lv_at hl 0 rfl) ?_
              refine va_get (ci := 8) (C := RX8) (T := TX8) (N := 67) (v := .ref (a0 41)) hx hb hts i_X8_judge_X8 hown hK hP 0 rfl rfl 65 (by decide) (hts _ m_X8_judge_e1292b) (fun _ h9 => h9) rfl dX8_judge_75 ?_
              refine lv_bipush (v := 60) hx hb dX8_judge_78 (by decide) ?_
              refine lv_iload_n hx hb dX8_judge_80 rfl (lv_at hl 1 rfl) ?_
              refine lv_imul hx hb dX8_judge_81 ?_
              refine lv_iload_n hx hb dX8_judge_82 rfl (lv_at hl 2 rfl) ?_
              refine lv_iadd hx hb dX8_judge_83 ?_
              refine lv_iload_n hx hb dX8_judge_84 rfl (lv_at hl 3 rfl) ?_
              refine lv_iadd hx hb dX8_judge_85 ?_
              obtain ⟨h_86, hf⟩ := ck_e hf
              refine va_lald (cA := E.2.2.1) (n := 360) (f := t0 65) hx hb hK hP 41 1 rfl rfl h_86 dX8_judge_86 ?_
              refine lv_aload_n hx hb dX8_judge_87 rfl (lv_at hl 0 rfl) ?_
              refine va_get (ci := 8) (C := RX8) (T := TX8) (N := 67) (v := .ref (a0 3)) hx hb hts i_X8_judge_X8 hown hK hP 0 rfl rfl 5 (by decide) (hts _ m_X8_judge_fa4c49) (fun _ h9 => h9) rfl dX8_judge_88 ?_
              refine lv_iload_n hx hb dX8_judge_91 rfl (lv_at hl 3 rfl) ?_
              obtain ⟨h_92, hf⟩ := ck_e hf
              refine va_iald (cA := E.2.1) (n := 6) (f := s0 5) hx hb hK hP 3 0 rfl rfl h_92 dX8_judge_92 ?_
              refine lv_i2l (v := (s0 5 v3.toNatClampNeg).toInt64) hx hb dX8_judge_93 rfl ?_
              refine W.lcmp hx hb dX8_judge_94 ?_
              refine lv_if_eq (tgt := 100) hx hb dX8_judge_95 (by decide) (fun c_95 => ?_) (fun c_95 => ?_)
              · have hf := ite_t c_95 hf
                obtain ⟨x100, e_x100⟩ : ∃ y : Int32, y = v3 + 1 := ⟨_, rfl⟩
                have hf := nm_q e_x100 hf
                refine lv_iinc (v := x100) (lv' := [(3, .int x100), (0, .ref (a0 0)), (1, .int v1), (2, .int v2)]) hx hb dX8_judge_100 hl (k := 3) rfl (by rw [e_x100]; rfl) (Nat.le_of_ble_eq_true rfl) rfl (fun ls hl => ?_)
                refine lv_goto (tgt := 34) hx hb dX8_judge_103 (by decide) ?_
                exact ih_34 x100 hf _ _ _ hP hS (lv_sub hl [1, 2, 3, 0] rfl)
              · have hf := ite_f c_95 hf
                refine lv_iload_n hx hb dX8_judge_98 rfl (lv_at hl 3 rfl) ?_
                have e9 := Option.some.inj hf
                exact rt_i hx hb hr hlocks e9 hP hS dX8_judge_99
            · have hf := ite_f c_66 hf
              refine lv_bipush (v := 100) hx hb dX8_judge_69 (by decide) ?_
              refine lv_iload_n hx hb dX8_judge_71 rfl (lv_at hl 3 rfl) ?_
              refine lv_iadd hx hb dX8_judge_72 ?_
              have e9 := Option.some.inj hf
              exact rt_i hx hb hr hlocks e9 hP hS dX8_judge_73
  refine lv_aload_n hx hb dX8_judge_0 rfl (lv_at hl 0 rfl) ?_
  refine lv_iload_n hx hb dX8_judge_1 rfl (lv_at hl 1 rfl) ?_
  obtain ⟨q2, hc_2, hf⟩ := cl_e hf
  refine fin_i (E := E) (wc := wX8 E a0 s0 t0) (wc' := wX8 E a0 s0 t0) (va_runV (As := [.int p1]) (rest := []) ⟨hx, hb, hml, hown, hts⟩ (k_X8_isTape l E a0 N s0 t0 p1 q2 hc_2 _) (cwV 1 hts gX8_judge_X8_isTape rfl rfl rfl (by decide +kernel) ⟨(Nat.le_of_ble_eq_true rfl), (Nat.le_of_ble_eq_true rfl)⟩) (pre_v (ci := 8) (q0 := 0) hK hP (hDD s0 t0) hS hG hAB rfl rfl) rfl rfl hl.1 rfl (lv_room (Nat.le_of_ble_eq_true rfl)) dX8_judge_2 ⟨Nat.zero_le _, Nat.zero_le _⟩) hS (w_free (hDD s0 t0) hS hA (fun _ h => h)) (fun H locs hP1 hk hS => ?_)
  have hP := hP1
  refine lv_if_ne (tgt := 10) hx hb dX8_judge_5 (by decide) (fun c_5 => ?_) (fun c_5 => ?_)
  · have hf := ite_f c_5 hf
    refine lv_aload_n hx hb dX8_judge_10 rfl (lv_at hl 0 rfl) ?_
    refine va_get (ci := 8) (C := RX8) (T := TX8) (N := 67) (v := .ref (a0 39)) hx hb hts i_X8_judge_X8 hown hK hP 0 rfl rfl 63 (by decide) (hts _ m_X8_judge_0b4136) (fun _ h9 => h9) rfl dX8_judge_11 ?_
    refine lv_iload_n hx hb dX8_judge_14 rfl (lv_at hl 1 rfl) ?_
    obtain ⟨h_15, hf⟩ := ck_e hf
    refine va_iald (cA := E.2.1) (n := 6) (f := s0 63) hx hb hK hP 39 0 rfl rfl h_15 dX8_judge_15 ?_
    refine lv_if_lt (tgt := 32) hx hb dX8_judge_16 (by decide) (fun c_16 => ?_) (fun c_16 => ?_)
    · have hf := ite_t c_16 hf
      refine lv_iconst (v := 0) hx hb dX8_judge_32 (by decide) ?_
      refine lv_istore_n (lv' := [(3, .int 0), (0, .ref (a0 0)), (1, .int p1), (2, .int p2)]) hx hb dX8_judge_33 rfl hl (Nat.le_of_ble_eq_true rfl) rfl (fun ls hl => ?_)
      exact hL_34 s0 t0 p1 p2 N 0 hf _ _ _ hP hS (lv_sub hl [1, 2, 3, 0] rfl)
    · have hf := ite_f c_16 hf
      refine lv_aload_n hx hb dX8_judge_19 rfl (lv_at hl 0 rfl) ?_
      refine va_get (ci := 8) (C := RX8) (T := TX8) (N := 67) (v := .ref (a0 39)) hx hb hts i_X8_judge_X8 hown hK hP 0 rfl rfl 63 (by decide) (hts _ m_X8_judge_0b4136) (fun _ h9 => h9) rfl dX8_judge_20 ?_
      refine lv_iload_n hx hb dX8_judge_23 rfl (lv_at hl 1 rfl) ?_
      obtain ⟨h_24, hf⟩ := ck_e hf
      refine va_iald (cA := E.2.1) (n := 6) (f := s0 63) hx hb hK hP 39 0 rfl rfl h_24 dX8_judge_24 ?_
      refine lv_iconst (v := 1) hx hb dX8_judge_25 (by decide) ?_
      refine lv_icmp_eq (tgt := 32) hx hb dX8_judge_26 (by decide) (fun c_26 => ?_) (fun c_26 => ?_)
      · have hf := ite_t c_26 hf
        refine lv_iconst (v := 0) hx hb dX8_judge_32 (by decide) ?_
        refine lv_istore_n (lv' := [(3, .int 0), (0, .ref (a0 0)), (1, .int p1), (2, .int p2)]) hx hb dX8_judge_33 rfl hl (Nat.le_of_ble_eq_true rfl) rfl (fun ls hl => ?_)
        exact hL_34 s0 t0 p1 p2 N 0 hf _ _ _ hP hS (lv_sub hl [1, 2, 3, 0] rfl)
      · have hf := ite_f c_26 hf
        refine lv_bipush (v := (-12)) hx hb dX8_judge_29 (by decide) ?_
        have e9 := Option.some.inj hf
        exact rt_i hx hb hr hlocks e9 hP hS dX8_judge_31
  · have hf := ite_t c_5 hf
    refine lv_iconst (v := (-1)) hx hb dX8_judge_8 (by decide) ?_
    have e9 := Option.some.inj hf
    exact rt_i hx hb hr hlocks e9 hP hS dX8_judge_9
