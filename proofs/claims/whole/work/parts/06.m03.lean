/-! ===== what the methods compute, and that they do: by program out of the bytecode (wip/gen) ===== -/
abbrev rm_X8_on : Room := { frames := 10, cells := 0, slots := 0, locals := 222 }
theorem m_X8_on_92e5f7 : Cond.fieldLink RX8 13 "PickedMatchModel" "had" "I" ∈ wsX8_on := by decide +kernel
theorem i_X8_on_X8 : ∀ w ∈ wsX80, w ∈ wsX8_on := fun _ h => List.mem_cons_of_mem _ (List.mem_append_right _ h)
set_option maxHeartbeats 8000000 in
set_option maxRecDepth 100000 in
theorem k_X8_on (l : Launch) (E : Ev) (a0 : Nat → Nat) (N : Nat) (s0 : St) (t0 : Nat → Nat → Int64) (p1 : Int32) (p2 : Int32) (q : (Int32 × St)) (hf : f_X8_on N s0 p1 p2 = some q) : Ci l yX8_on wsX8_on rm_X8_on E [.ref (a0 0), .int p1, .int p2] (wX8 E a0 s0 t0) (wX8 E a0 q.2 t0) q.1 := by
  unfold f_X8_on at hf
  intro sz
  refine Met.ofW (cc := cX8_on) (maxL := 4) (ret := (some .int)) (by decide) rfl ?_
  intro p e s m args below meth c s₁ B hml hv
  obtain ⟨rfl, hsz, hP, hK, hD0, hG, hA, hAB⟩ := start hv
  have hx := B.exec
  have hb := B.bytes
  have hr := B.returns
  have hts := atoms_spec (ws := wsX8_on) B.pre
  have hown : s.vm.findClass RX8 = some m.cls := findClass_of_methodNamed B.named
  have hlocks := B.notSynchronized
  subst hsz
  generalize va_A (wX8 E a0 s0 t0) s.heap.size = A0 at hD0 hA hAB ⊢
  have hDD : ∀ (s0 : St) (t0 : Nat → Nat → Int64), va_D A0 (wX8 E a0 s0 t0) := fun s0 t0 => vD_addr hD0 rfl
  have hS : va_S A0 s.heap s.heap [] := va_S.rf
  have hl := lv_entry ([.ref (a0 0), .int p1, .int p2]) (n := 4) (Nat.le_of_ble_eq_true rfl)
  rw [lg_entry_eq]
  generalize (lg_sl ([.ref (a0 0), .int p1, .int p2]) ++ List.replicate (4 - (lg_sl ([.ref (a0 0), .int p1, .int p2])).length) Slot.unset).toArray = ls at hl ⊢
  have hl : lv_has ls 4 [(0, .ref (a0 0)), (1, .int p1), (2, .int p2)] := hl
  refine lv_aload_n hx hb dX8_on_0 rfl (lv_at hl 0 rfl) ?_
  refine lv_iload_n hx hb dX8_on_1 rfl (lv_at hl 2 rfl) ?_
  refine lv_iconst (v := 0) hx hb dX8_on_2 (by decide) ?_
  refine lv_iconst (v := 1) hx hb dX8_on_3 (by decide) ?_
  obtain ⟨q4, hc_4, hf⟩ := cl_e hf
  refine fin_i (E := E) (wc := wX8 E a0 s0 t0) (wc' := wX8 E a0 s0 t0) (va_runV (As := [.int p2, .int 0, .int 1]) (rest := []) ⟨hx, hb, hml, hown, hts⟩ (k_X8_in l E a0 N s0 t0 p2 0 1 q4 hc_4 _) (cwV 3 hts gX8_on_X8_in rfl rfl rfl (by decide +kernel) ⟨(Nat.le_of_ble_eq_true rfl), (Nat.le_of_ble_eq_true rfl)⟩) (pre_v (ci := 8) (q0 := 0) hK hP (hDD s0 t0) hS hG hAB rfl rfl) rfl rfl hl.1 rfl (lv_room (Nat.le_of_ble_eq_true rfl)) dX8_on_4 ⟨Nat.zero_le _, Nat.zero_le _⟩) hS (w_free (hDD s0 t0) hS hA (fun _ h => h)) (fun H locs hP1 hk hS => ?_)
  have hP := hP1
  refine lv_if_ne (tgt := 12) hx hb dX8_on_7 (by decide) (fun c_7 => ?_) (fun c_7 => ?_)
  · have hf := ite_f c_7 hf
    refine lv_aload_n hx hb dX8_on_12 rfl (lv_at hl 0 rfl) ?_
    refine lv_iload_n hx hb dX8_on_13 rfl (lv_at hl 1 rfl) ?_
    obtain ⟨q14, hc_14, hf⟩ := cl_e hf
    refine fin_i (E := E) (wc := wX8 E a0 s0 t0) (wc' := wX8 E a0 s0 t0) (va_runV (As := [.int p1]) (rest := []) ⟨hx, hb, hml, hown, hts⟩ (k_X8_isDays l E a0 N s0 t0 p1 q14 hc_14 _) (cwV 1 hts gX8_on_X8_isDays rfl rfl rfl (by decide +kernel) ⟨(Nat.le_of_ble_eq_true rfl), (Nat.le_of_ble_eq_true rfl)⟩) (pre_v (ci := 8) (q0 := 0) hK hP (hDD s0 t0) hS hG hAB rfl rfl) rfl rfl hl.1 rfl (lv_room (Nat.le_of_ble_eq_true rfl)) dX8_on_14 ⟨Nat.zero_le _, Nat.zero_le _⟩) hS (w_free (hDD s0 t0) hS hA (fun _ h => h)) (fun H locs hP1 hk hS => ?_)
    have hP := hP1
    refine lv_if_ne (tgt := 23) hx hb dX8_on_17 (by decide) (fun c_17 => ?_) (fun c_17 => ?_)
    · have hf := ite_f c_17 hf
      refine lv_aload_n hx hb dX8_on_23 rfl (lv_at hl 0 rfl) ?_
      obtain ⟨q24, hc_24, hf⟩ := cl_e hf
      refine fin_v (E := E) (wc := wX8 E a0 s0 t0) (wc' := wX8 E a0 q24 t0) (va_runV (As := []) (rest := []) ⟨hx, hb, hml, hown, hts⟩ (k_X8_save l E a0 N s0 t0 q24 hc_24 _) (cwV 0 hts gX8_on_X8_save rfl rfl rfl (by decide +kernel) ⟨(Nat.le_of_ble_eq_true rfl), (Nat.le_of_ble_eq_true rfl)⟩) (pre_v (ci := 8) (q0 := 0) hK hP (hDD s0 t0) hS hG hAB rfl rfl) rfl rfl hl.1 rfl (lv_room (Nat.le_of_ble_eq_true rfl)) dX8_on_24 ⟨Nat.zero_le _, Nat.zero_le _⟩) hS (w_free (hDD s0 t0) hS hA (fun _ h => h)) (fun H locs hP1 hk hS => ?_)
      have hP := hP1
      refine lv_aload_n hx hb dX8_on_27 rfl (lv_at hl 0 rfl) ?_
      refine lv_iload_n hx hb dX8_on_28 rfl (lv_at hl 1 rfl) ?_
      obtain ⟨q29, hc_29, hf⟩ := cl_e hf
      refine fin_v (E := E) (wc := wX8 E a0 q24 t0) (wc' := wX8 E a0 q29 t0) (va_runV (As := [.int p1]) (rest := []) ⟨hx, hb, hml, hown, hts⟩ (k_X8_goDays l E a0 N q24 t0 p1 q29 hc_29 _) (cwV 1 hts gX8_on_X8_goDays rfl rfl rfl (by decide +kernel) ⟨(Nat.le_of_ble_eq_true rfl), (Nat.le_of_ble_eq_true rfl)⟩) (pre_v (ci := 8) (q0 := 0) hK hP (hDD q24 t0) hS hG hAB rfl rfl) rfl rfl hl.1 rfl (lv_room (Nat.le_of_ble_eq_true rfl)) dX8_on_29 ⟨Nat.zero_le _, Nat.zero_le _⟩) hS (w_free (hDD q24 t0) hS hA (fun _ h => h)) (fun H locs hP1 hk hS => ?_)
      have hP := hP1
      refine lv_iload_n hx hb dX8_on_32 rfl (lv_at hl 2 rfl) ?_
      refine lv_if_ne (tgt := 43) hx hb dX8_on_33 (by decide) (fun c_33 => ?_) (fun c_33 => ?_)
      · have hf := ite_f c_33 hf
        refine lv_aload_n hx hb dX8_on_43 rfl (lv_at hl 0 rfl) ?_
        refine va_get (ci := 8) (C := RX8) (T := TX8) (N := 67) (v := .int (q29 1 0)) hx hb hts i_X8_on_X8 hown hK hP 0 rfl rfl 1 (by decide) (hts _ m_X8_on_92e5f7) (fun _ h9 => h9) rfl dX8_on_44 ?_
        refine lv_topi (fun x47 e_x47 => ?_)
        have hf := nm_q e_x47 hf
        refine lv_istore_n (lv' := [(3, .int x47), (0, .ref (a0 0)), (1, .int p1), (2, .int p2)]) hx hb dX8_on_47 rfl hl (Nat.le_of_ble_eq_true rfl) rfl (fun ls hl => ?_)
        refine lv_aload_n hx hb dX8_on_48 rfl (lv_at hl 1 rfl) ?_
        obtain ⟨q49, hc_49, hf⟩ := cl_e hf
        refine fin_v (E := E) (wc := wX8 E a0 q29 t0) (wc' := wX8 E a0 q49 t0) (va_runV (As := []) (rest := []) ⟨hx, hb, hml, hown, hts⟩ (k_X8_putBack l E a0 N q29 t0 q49 hc_49 _) (cwV 0 hts gX8_on_X8_putBack rfl rfl rfl (by decide +kernel) ⟨(Nat.le_of_ble_eq_true rfl), (Nat.le_of_ble_eq_true rfl)⟩) (pre_v (ci := 8) (q0 := 0) hK hP (hDD q29 t0) hS hG hAB rfl rfl) rfl rfl hl.1 rfl (lv_room (Nat.le_of_ble_eq_true rfl)) dX8_on_49 ⟨Nat.zero_le _, Nat.zero_le _⟩) hS (w_free (hDD q29 t0) hS hA (fun _ h => h)) (fun H locs hP1 hk hS => ?_)
        have hP := hP1
        refine lv_iload_n hx hb dX8_on_52 rfl (lv_at hl 0 rfl) ?_
        have e9 := Option.some.inj hf
        exact rt_i hx hb hr hlocks (fst_e e9) (rtP (P := fun z => va_P E.1 vwCl (wX8 E a0 z.2 t0) H) e9 hP) hS dX8_on_53
      · have hf := ite_t c_33 hf
        refine lv_aload_n hx hb dX8_on_36 rfl (lv_at hl 0 rfl) ?_
        obtain ⟨q37, hc_37, hf⟩ := cl_e hf
        refine fin_i (E := E) (wc := wX8 E a0 q29 t0) (wc' := wX8 E a0 q29 t0) (va_runV (As := []) (rest := []) ⟨hx, hb, hml, hown, hts⟩ (k_X8_hadSet l E a0 N q29 t0 q37 hc_37 _) (cwV 0 hts gX8_on_X8_hadSet rfl rfl rfl (by decide +kernel) ⟨(Nat.le_of_ble_eq_true rfl), (Nat.le_of_ble_eq_true rfl)⟩) (pre_v (ci := 8) (q0 := 0) hK hP (hDD q29 t0) hS hG hAB rfl rfl) rfl rfl hl.1 rfl (lv_room (Nat.le_of_ble_eq_true rfl)) dX8_on_37 ⟨Nat.zero_le _, Nat.zero_le _⟩) hS (w_free (hDD q29 t0) hS hA (fun _ h => h)) (fun H locs hP1 hk hS => ?_)
        have hP := hP1
        refine lv_goto (tgt := 47) hx hb dX8_on_40 (by decide) ?_
        refine lv_istore_n (lv' := [(3, .int q37), (0, .ref (a0 0)), (1, .int p1), (2, .int p2)]) hx hb dX8_on_47 rfl hl (Nat.le_of_ble_eq_true rfl) rfl (fun ls hl => ?_)
        refine lv_aload_n hx hb dX8_on_48 rfl (lv_at hl 1 rfl) ?_
        obtain ⟨q49, hc_49, hf⟩ := cl_e hf
        refine fin_v (E := E) (wc := wX8 E a0 q29 t0) (wc' := wX8 E a0 q49 t0) (va_runV (As := []) (rest := []) ⟨hx, hb, hml, hown, hts⟩ (k_X8_putBack l E a0 N q29 t0 q49 hc_49 _) (cwV 0 hts gX8_on_X8_putBack rfl rfl rfl (by decide +kernel) ⟨(Nat.le_of_ble_eq_true rfl), (Nat.le_of_ble_eq_true rfl)⟩) (pre_v (ci := 8) (q0 := 0) hK hP (hDD q29 t0) hS hG hAB rfl rfl) rfl rfl hl.1 rfl (lv_room (Nat.le_of_ble_eq_true rfl)) dX8_on_49 ⟨Nat.zero_le _, Nat.zero_le _⟩) hS (w_free (hDD q29 t0) hS hA (fun _ h => h)) (fun H locs hP1 hk hS => ?_)
        have hP := hP1
        refine lv_iload_n hx hb dX8_on_52 rfl (lv_at hl 0 rfl) ?_
        have e9 := Option.some.inj hf
        exact rt_i hx hb hr hlocks (fst_e e9) (rtP (P := fun z => va_P E.1 vwCl (wX8 E a0 z.2 t0) H) e9 hP) hS dX8_on_53
    · have hf := ite_t c_17 hf
      refine lv_bipush (v := (-2)) hx hb dX8_on_20 (by decide) ?_
      have e9 := Option.some.inj hf
      exact rt_i hx hb hr hlocks (fst_e e9) (rtP (P := fun z => va_P E.1 vwCl (wX8 E a0 z.2 t0) H) e9 hP) hS dX8_on_22
  · have hf := ite_t c_7 hf
    refine lv_iconst (v := (-1)) hx hb dX8_on_10 (by decide) ?_
    have e9 := Option.some.inj hf
    exact rt_i hx hb hr hlocks (fst_e e9) (rtP (P := fun z => va_P E.1 vwCl (wX8 E a0 z.2 t0) H) e9 hP) hS dX8_on_11
abbrev rm_X8_soon : Room := { frames := 9, cells := 0, slots := 0, locals := 200 }
theorem m_X8_soon_92e5f7 : Cond.fieldLink RX8 13 "PickedMatchModel" "had" "I" ∈ wsX8_soon := by decide +kernel
theorem i_X8_soon_X8 : ∀ w ∈ wsX80, w ∈ wsX8_soon := fun _ h => List.mem_cons_of_mem _ (List.mem_append_right _ h)
set_option maxHeartbeats 8000000 in
set_option maxRecDepth 100000 in
theorem k_X8_soon (l : Launch) (E : Ev) (a0 : Nat → Nat) (N : Nat) (s0 : St) (t0 : Nat → Nat → Int64) (p1 : Int32) (q : (Int32 × St)) (hf : f_X8_soon N s0 p1 = some q) : Ci l yX8_soon wsX8_soon rm_X8_soon E [.ref (a0 0), .int p1] (wX8 E a0 s0 t0) (wX8 E a0 q.2 t0) q.1 := by
  unfold f_X8_soon at hf
  intro sz
  refine Met.ofW (cc := cX8_soon) (maxL := 3) (ret := (some .int)) (by decide) rfl ?_
  intro p e s m args below meth c s₁ B hml hv
  obtain ⟨rfl, hsz, hP, hK, hD0, hG, hA, hAB⟩ := start hv
  have hx := B.exec
  have hb := B.bytes
  have hr := B.returns
  have hts := atoms_spec (ws := wsX8_soon) B.pre
  have hown : s.vm.findClass RX8 = some m.cls := findClass_of_methodNamed B.named
  have hlocks := B.notSynchronized
  subst hsz
  generalize va_A (wX8 E a0 s0 t0) s.heap.size = A0 at hD0 hA hAB ⊢
  have hDD : ∀ (s0 : St) (t0 : Nat → Nat → Int64), va_D A0 (wX8 E a0 s0 t0) := fun s0 t0 => vD_addr hD0 rfl
  have hS : va_S A0 s.heap s.heap [] := va_S.rf
  have hl := lv_entry ([.ref (a0 0), .int p1]) (n := 3) (Nat.le_of_ble_eq_true rfl)
  rw [lg_entry_eq]
  generalize (lg_sl ([.ref (a0 0), .int p1]) ++ List.replicate (3 - (lg_sl ([.ref (a0 0), .int p1])).length) Slot.unset).toArray = ls at hl ⊢
  have hl : lv_has ls 3 [(0, .ref (a0 0)), (1, .int p1)] := hl
  have hL_17 : ∀ (v1 : Int32) (n_17 : Nat) (s0 : St) (v2 : Int32), l_X8_soon_17 N v1 n_17 s0 v2 = some q → ∀ (H : Heap) (locs : List Loc) (ls : Array Slot), va_P E.1 vwCl (wX8 E a0 s0 t0) H → va_S A0 s.heap H locs → lv_has ls 3 [(0, .ref (a0 0)), (1, .int v1), (2, .int v2)] → W p l e rm_X8_soon s m ([.ref (a0 0), .int p1] : List Value).toArray below meth c H locs 0 0 (MQ below (va_Qi (fun (r' : Int32) (_ : Unit) => r' = q.1) (fun _ t => va_P E.1 vwCl (wX8 E a0 q.2 t0) t.heap) A0) ([.ref (a0 0), .int p1] : List Value).toArray s 0 0 A0) (F0 m 17 ls []) := by
    intro v1 n_17
    induction n_17 with
    | zero => intro s0 v2 hf; rw [l_X8_soon_17] at hf; cases hf
    | succ n_17 ih_17 =>
      intro s0 v2 hf H locs ls hP hS hl
      rw [l_X8_soon_17] at hf
      refine lv_iload_n hx hb dX8_soon_17 rfl (lv_at hl 2 rfl) ?_
      refine lv_bipush (v := 61) hx hb dX8_soon_18 (by decide) ?_
      refine lv_icmp_ge (tgt := 41) hx hb dX8_soon_20 (by decide) (fun c_20 => ?_) (fun c_20 => ?_)
      · have hf := ite_t c_20 hf
        refine lv_aload_n hx hb dX8_soon_41 rfl (lv_at hl 0 rfl) ?_
        obtain ⟨q42, hc_42, hf⟩ := cl_e hf
        refine fin_v (E := E) (wc := wX8 E a0 s0 t0) (wc' := wX8 E a0 q42 t0) (va_runV (As := []) (rest := []) ⟨hx, hb, hml, hown, hts⟩ (k_X8_putBack l E a0 N s0 t0 q42 hc_42 _) (cwV 0 hts gX8_soon_X8_putBack rfl rfl rfl (by decide +kernel) ⟨(Nat.le_of_ble_eq_true rfl), (Nat.le_of_ble_eq_true rfl)⟩) (pre_v (ci := 8) (q0 := 0) hK hP (hDD s0 t0) hS hG hAB rfl rfl) rfl rfl hl.1 rfl (lv_room (Nat.le_of_ble_eq_true rfl)) dX8_soon_42 ⟨Nat.zero_le _, Nat.zero_le _⟩) hS (w_free (hDD s0 t0) hS hA (fun _ h => h)) (fun H locs hP1 hk hS => ?_)
        have hP := hP1
        refine lv_iload_n hx hb dX8_soon_45 rfl (lv_at hl 2 rfl) ?_
        refine lv_bipush (v := 61) hx hb dX8_soon_46 (by decide) ?_
        refine lv_icmp_ge (tgt := 55) hx hb dX8_soon_48 (by decide) (fun c_48 => ?_) (fun c_48 => ?_)
        · have hf := ite_t c_48 hf
          refine lv_bipush (v := (-5)) hx hb dX8_soon_55 (by decide) ?_
          have e9 := Option.some.inj hf
          exact rt_i hx hb hr hlocks (fst_e e9) (rtP (P := fun z => va_P E.1 vwCl (wX8 E a0 z.2 t0) H) e9 hP) hS dX8_soon_57
        · have hf := ite_f c_48 hf
          refine lv_iload_n hx hb dX8_soon_51 rfl (lv_at hl 2 rfl) ?_
          refine lv_goto (tgt := 57) hx hb dX8_soon_52 (by decide) ?_
          have e9 := Option.some.inj hf
          exact rt_i hx hb hr hlocks (fst_e e9) (rtP (P := fun z => va_P E.1 vwCl (wX8 E a0 z.2 t0) H) e9 hP) hS dX8_soon_57
      · have hf := ite_f c_20 hf
        refine lv_aload_n hx hb dX8_soon_23 rfl (lv_at hl 0 rfl) ?_
        refine va_get (ci := 8) (C := RX8) (T := TX8) (N := 67) (v := .int (s0 1 0)) hx hb hts i_X8_soon_X8 hown hK hP 0 rfl rfl 1 (by decide) (hts _ m_X8_soon_92e5f7) (fun _ h9 => h9) rfl dX8_soon_24 ?_
        refine lv_iload_n hx hb dX8_soon_27 rfl (lv_at hl 1 rfl) ?_
        refine lv_icmp_ge (tgt := 41) hx hb dX8_soon_28 (by decide) (fun c_28 => ?_) (fun c_28 => ?_)
        · have hf := ite_t c_28 hf
          refine lv_aload_n hx hb dX8_soon_41 rfl (lv_at hl 0 rfl) ?_
          obtain ⟨q42, hc_42, hf⟩ := cl_e hf
          refine fin_v (E := E) (wc := wX8 E a0 s0 t0) (wc' := wX8 E a0 q42 t0) (va_runV (As := []) (rest := []) ⟨hx, hb, hml, hown, hts⟩ (k_X8_putBack l E a0 N s0 t0 q42 hc_42 _) (cwV 0 hts gX8_soon_X8_putBack rfl rfl rfl (by decide +kernel) ⟨(Nat.le_of_ble_eq_true rfl), (Nat.le_of_ble_eq_true rfl)⟩) (pre_v (ci := 8) (q0 := 0) hK hP (hDD s0 t0) hS hG hAB rfl rfl) rfl rfl hl.1 rfl (lv_room (Nat.le_of_ble_eq_true rfl)) dX8_soon_42 ⟨Nat.zero_le _, Nat.zero_le _⟩) hS (w_free (hDD s0 t0) hS hA (fun _ h => h)) (fun H locs hP1 hk hS => ?_)
          have hP := hP1
          refine lv_iload_n hx hb dX8_soon_45 rfl (lv_at hl 2 rfl) ?_
          refine lv_bipush (v := 61) hx hb dX8_soon_46 (by decide) ?_
          refine lv_icmp_ge (tgt := 55) hx hb dX8_soon_48 (by decide) (fun c_48 => ?_) (fun c_48 => ?_)
          · have hf := ite_t c_48 hf
            refine lv_bipush (v := (-5)) hx hb dX8_soon_55 (by decide) ?_
            have e9 := Option.some.inj hf
            exact rt_i hx hb hr hlocks (fst_e e9) (rtP (P := fun z => va_P E.1 vwCl (wX8 E a0 z.2 t0) H) e9 hP) hS dX8_soon_57
          · have hf := ite_f c_48 hf
            refine lv_iload_n hx hb dX8_soon_51 rfl (lv_at hl 2 rfl) ?_
            refine lv_goto (tgt := 57) hx hb dX8_soon_52 (by decide) ?_
            have e9 := Option.some.inj hf
            exact rt_i hx hb hr hlocks (fst_e e9) (rtP (P := fun z => va_P E.1 vwCl (wX8 E a0 z.2 t0) H) e9 hP) hS dX8_soon_57
        · have hf := ite_f c_28 hf
          refine lv_aload_n hx hb dX8_soon_31 rfl (lv_at hl 0 rfl) ?_
          obtain ⟨q32, hc_32, hf⟩ := cl_e hf
          refine fin_v (E := E) (wc := wX8 E a0 s0 t0) (wc' := wX8 E a0 q32 t0) (va_runV (As := []) (rest := []) ⟨hx, hb, hml, hown, hts⟩ (k_X8_goDay l E a0 N s0 t0 q32 hc_32 _) (cwV 0 hts gX8_soon_X8_goDay rfl rfl rfl (by decide +kernel) ⟨(Nat.le_of_ble_eq_true rfl), (Nat.le_of_ble_eq_true rfl)⟩) (pre_v (ci := 8) (q0 := 0) hK hP (hDD s0 t0) hS hG hAB rfl rfl) rfl rfl hl.1 rfl (lv_room (Nat.le_of_ble_eq_true rfl)) dX8_soon_32 ⟨Nat.zero_le _, Nat.zero_le _⟩) hS (w_free (hDD s0 t0) hS hA (fun _ h => h)) (fun H locs hP1 hk hS => ?_)
          have hP := hP1
          obtain ⟨x35, e_x35⟩ : ∃ y : Int32, y = v2 + 1 := ⟨_, rfl⟩
          have hf := nm_q e_x35 hf
          refine lv_iinc (v := x35) (lv' := [(2, .int x35), (0, .ref (a0 0)), (1, .int v1)]) hx hb dX8_soon_35 hl (k := 2) rfl (by rw [e_x35]; rfl) (Nat.le_of_ble_eq_true rfl) rfl (fun ls hl => ?_)
          refine lv_goto (tgt := 17) hx hb dX8_soon_38 (by decide) ?_
          exact ih_17 q32 x35 hf _ _ _ hP hS (lv_sub hl [1, 2, 0] rfl)
  refine lv_aload_n hx hb dX8_soon_0 rfl (lv_at hl 0 rfl) ?_
  refine lv_iload_n hx hb dX8_soon_1 rfl (lv_at hl 1 rfl) ?_
  obtain ⟨q2, hc_2, hf⟩ := cl_e hf
  refine fin_i (E := E) (wc := wX8 E a0 s0 t0) (wc' := wX8 E a0 s0 t0) (va_runV (As := [.int p1]) (rest := []) ⟨hx, hb, hml, hown, hts⟩ (k_X8_isMany l E a0 N s0 t0 p1 q2 hc_2 _) (cwV 1 hts gX8_soon_X8_isMany rfl rfl rfl (by decide +kernel) ⟨(Nat.le_of_ble_eq_true rfl), (Nat.le_of_ble_eq_true rfl)⟩) (pre_v (ci := 8) (q0 := 0) hK hP (hDD s0 t0) hS hG hAB rfl rfl) rfl rfl hl.1 rfl (lv_room (Nat.le_of_ble_eq_true rfl)) dX8_soon_2 ⟨Nat.zero_le _, Nat.zero_le _⟩) hS (w_free (hDD s0 t0) hS hA (fun _ h => h)) (fun H locs hP1 hk hS => ?_)
  have hP := hP1
  refine lv_if_ne (tgt := 11) hx hb dX8_soon_5 (by decide) (fun c_5 => ?_) (fun c_5 => ?_)
  · have hf := ite_f c_5 hf
    refine lv_aload_n hx hb dX8_soon_11 rfl (lv_at hl 0 rfl) ?_
    obtain ⟨q12, hc_12, hf⟩ := cl_e hf
    refine fin_v (E := E) (wc := wX8 E a0 s0 t0) (wc' := wX8 E a0 q12 t0) (va_runV (As := []) (rest := []) ⟨hx, hb, hml, hown, hts⟩ (k_X8_save l E a0 N s0 t0 q12 hc_12 _) (cwV 0 hts gX8_soon_X8_save rfl rfl rfl (by decide +kernel) ⟨(Nat.le_of_ble_eq_true rfl), (Nat.le_of_ble_eq_true rfl)⟩) (pre_v (ci := 8) (q0 := 0) hK hP (hDD s0 t0) hS hG hAB rfl rfl) rfl rfl hl.1 rfl (lv_room (Nat.le_of_ble_eq_true rfl)) dX8_soon_12 ⟨Nat.zero_le _, Nat.zero_le _⟩) hS (w_free (hDD s0 t0) hS hA (fun _ h => h)) (fun H locs hP1 hk hS => ?_)
    have hP := hP1
    refine lv_iconst (v := 0) hx hb dX8_soon_15 (by decide) ?_
    refine lv_istore_n (lv' := [(2, .int 0), (0, .ref (a0 0)), (1, .int p1)]) hx hb dX8_soon_16 rfl hl (Nat.le_of_ble_eq_true rfl) rfl (fun ls hl => ?_)
    exact hL_17 p1 N q12 0 hf _ _ _ hP hS (lv_sub hl [1, 2, 0] rfl)
  · have hf := ite_t c_5 hf
    refine lv_bipush (v := (-2)) hx hb dX8_soon_8 (by decide) ?_
    have e9 := Option.some.inj hf
    exact rt_i hx hb hr hlocks (fst_e e9) (rtP (P := fun z => va_P E.1 vwCl (wX8 E a0 z.2 t0) H) e9 hP) hS dX8_soon_10
abbrev rm_X8_when : Room := { frames := 9, cells := 0, slots := 0, locals := 200 }
set_option maxHeartbeats 8000000 in
set_option maxRecDepth 100000 in
theorem k_X8_when (l : Launch) (E : Ev) (a0 : Nat → Nat) (N : Nat) (s0 : St) (t0 : Nat → Nat → Int64) (p1 : Int32) (q : (Int32 × St)) (hf : f_X8_when N s0 p1 = some q) : Ci l yX8_when wsX8_when rm_X8_when E [.ref (a0 0), .int p1] (wX8 E a0 s0 t0) (wX8 E a0 q.2 t0) q.1 := by
  unfold f_X8_when at hf
  intro sz
  refine Met.ofW (cc := cX8_when) (maxL := 3) (ret := (some .int)) (by decide) rfl ?_
  intro p e s m args below meth c s₁ B hml hv
  obtain ⟨rfl, hsz, hP, hK, hD0, hG, hA, hAB⟩ := start hv
  have hx := B.exec
  have hb := B.bytes
  have hr := B.returns
  have hts := atoms_spec (ws := wsX8_when) B.pre
  have hown : s.vm.findClass RX8 = some m.cls := findClass_of_methodNamed B.named
  have hlocks := B.notSynchronized
  subst hsz
  generalize va_A (wX8 E a0 s0 t0) s.heap.size = A0 at hD0 hA hAB ⊢
  have hDD : ∀ (s0 : St) (t0 : Nat → Nat → Int64), va_D A0 (wX8 E a0 s0 t0) := fun s0 t0 => vD_addr hD0 rfl
  have hS : va_S A0 s.heap s.heap [] := va_S.rf
  have hl := lv_entry ([.ref (a0 0), .int p1]) (n := 3) (Nat.le_of_ble_eq_true rfl)
  rw [lg_entry_eq]
  generalize (lg_sl ([.ref (a0 0), .int p1]) ++ List.replicate (3 - (lg_sl ([.ref (a0 0), .int p1])).length) Slot.unset).toArray = ls at hl ⊢
  have hl : lv_has ls 3 [(0, .ref (a0 0)), (1, .int p1)] := hl
  have hL_16 : ∀ (v1 : Int32) (n_16 : Nat) (s0 : St) (v2 : Int32), l_X8_when_16 N v1 n_16 s0 v2 = some q → ∀ (H : Heap) (locs : List Loc) (ls : Array Slot), va_P E.1 vwCl (wX8 E a0 s0 t0) H → va_S A0 s.heap H locs → lv_has ls 3 [(0, .ref (a0 0)), (1, .int v1), (2, .int v2)] → W p l e rm_X8_when s m ([.ref (a0 0), .int p1] : List Value).toArray below meth c H locs 0 0 (MQ below (va_Qi (fun (r' : Int32) (_ : Unit) => r' = q.1) (fun _ t => va_P E.1 vwCl (wX8 E a0 q.2 t0) t.heap) A0) ([.ref (a0 0), .int p1] : List Value).toArray s 0 0 A0) (F0 m 16 ls []) := by
    intro v1 n_16
    induction n_16 with
    | zero => intro s0 v2 hf; rw [l_X8_when_16] at hf; cases hf
    | succ n_16 ih_16 =>
      intro s0 v2 hf H locs ls hP hS hl
      rw [l_X8_when_16] at hf
      refine lv_iload_n hx hb dX8_when_16 rfl (lv_at hl 2 rfl) ?_
      refine lv_bipush (v := 61) hx hb dX8_when_17 (by decide) ?_
      refine lv_icmp_ge (tgt := 40) hx hb dX8_when_19 (by decide) (fun c_19 => ?_) (fun c_19 => ?_)
      · have hf := ite_t c_19 hf
        refine lv_aload_n hx hb dX8_when_40 rfl (lv_at hl 0 rfl) ?_
        obtain ⟨q41, hc_41, hf⟩ := cl_e hf
        refine fin_v (E := E) (wc := wX8 E a0 s0 t0) (wc' := wX8 E a0 q41 t0) (va_runV (As := []) (rest := []) ⟨hx, hb, hml, hown, hts⟩ (k_X8_putBack l E a0 N s0 t0 q41 hc_41 _) (cwV 0 hts gX8_when_X8_putBack rfl rfl rfl (by decide +kernel) ⟨(Nat.le_of_ble_eq_true rfl), (Nat.le_of_ble_eq_true rfl)⟩) (pre_v (ci := 8) (q0 := 0) hK hP (hDD s0 t0) hS hG hAB rfl rfl) rfl rfl hl.1 rfl (lv_room (Nat.le_of_ble_eq_true rfl)) dX8_when_41 ⟨Nat.zero_le _, Nat.zero_le _⟩) hS (w_free (hDD s0 t0) hS hA (fun _ h => h)) (fun H locs hP1 hk hS => ?_)
        have hP := hP1
        refine lv_iload_n hx hb dX8_when_44 rfl (lv_at hl 2 rfl) ?_
        refine lv_bipush (v := 61) hx hb dX8_when_45 (by decide) ?_
        refine lv_icmp_ge (tgt := 54) hx hb dX8_when_47 (by decide) (fun c_47 => ?_) (fun c_47 => ?_)
        · have hf := ite_t c_47 hf
          refine lv_bipush (v := (-5)) hx hb dX8_when_54 (by decide) ?_
          have e9 := Option.some.inj hf
          exact rt_i hx hb hr hlocks (fst_e e9) (rtP (P := fun z => va_P E.1 vwCl (wX8 E a0 z.2 t0) H) e9 hP) hS dX8_when_56
        · have hf := ite_f c_47 hf
          refine lv_iload_n hx hb dX8_when_50 rfl (lv_at hl 2 rfl) ?_
          refine lv_goto (tgt := 56) hx hb dX8_when_51 (by decide) ?_
          have e9 := Option.some.inj hf
          exact rt_i hx hb hr hlocks (fst_e e9) (rtP (P := fun z => va_P E.1 vwCl (wX8 E a0 z.2 t0) H) e9 hP) hS dX8_when_56
      · have hf := ite_f c_19 hf
        refine lv_aload_n hx hb dX8_when_22 rfl (lv_at hl 0 rfl) ?_
        refine lv_iload_n hx hb dX8_when_23 rfl (lv_at hl 1 rfl) ?_
        obtain ⟨q24, hc_24, hf⟩ := cl_e hf
        refine fin_i (E := E) (wc := wX8 E a0 s0 t0) (wc' := wX8 E a0 s0 t0) (va_runV (As := [.int v1]) (rest := []) ⟨hx, hb, hml, hown, hts⟩ (k_X8_isHad l E a0 N s0 t0 v1 q24 hc_24 _) (cwV 1 hts gX8_when_X8_isHad rfl rfl rfl (by decide +kernel) ⟨(Nat.le_of_ble_eq_true rfl), (Nat.le_of_ble_eq_true rfl)⟩) (pre_v (ci := 8) (q0 := 0) hK hP (hDD s0 t0) hS hG hAB rfl rfl) rfl rfl hl.1 rfl (lv_room (Nat.le_of_ble_eq_true rfl)) dX8_when_24 ⟨Nat.zero_le _, Nat.zero_le _⟩) hS (w_free (hDD s0 t0) hS hA (fun _ h => h)) (fun H locs hP1 hk hS => ?_)
        have hP := hP1
        refine lv_if_ne (tgt := 40) hx hb dX8_when_27 (by decide) (fun c_27 => ?_) (fun c_27 => ?_)
        · have hf := ite_f c_27 hf
          refine lv_aload_n hx hb dX8_when_40 rfl (lv_at hl 0 rfl) ?_
          obtain ⟨q41, hc_41, hf⟩ := cl_e hf
          refine fin_v (E := E) (wc := wX8 E a0 s0 t0) (wc' := wX8 E a0 q41 t0) (va_runV (As := []) (rest := []) ⟨hx, hb, hml, hown, hts⟩ (k_X8_putBack l E a0 N s0 t0 q41 hc_41 _) (cwV 0 hts gX8_when_X8_putBack rfl rfl rfl (by decide +kernel) ⟨(Nat.le_of_ble_eq_true rfl), (Nat.le_of_ble_eq_true rfl)⟩) (pre_v (ci := 8) (q0 := 0) hK hP (hDD s0 t0) hS hG hAB rfl rfl) rfl rfl hl.1 rfl (lv_room (Nat.le_of_ble_eq_true rfl)) dX8_when_41 ⟨Nat.zero_le _, Nat.zero_le _⟩) hS (w_free (hDD s0 t0) hS hA (fun _ h => h)) (fun H locs hP1 hk hS => ?_)
          have hP := hP1
          refine lv_iload_n hx hb dX8_when_44 rfl (lv_at hl 2 rfl) ?_
          refine lv_bipush (v := 61) hx hb dX8_when_45 (by decide) ?_
          refine lv_icmp_ge (tgt := 54) hx hb dX8_when_47 (by decide) (fun c_47 => ?_) (fun c_47 => ?_)
          · have hf := ite_t c_47 hf
            refine lv_bipush (v := (-5)) hx hb dX8_when_54 (by decide) ?_
            have e9 := Option.some.inj hf
            exact rt_i hx hb hr hlocks (fst_e e9) (rtP (P := fun z => va_P E.1 vwCl (wX8 E a0 z.2 t0) H) e9 hP) hS dX8_when_56
          · have hf := ite_f c_47 hf
            refine lv_iload_n hx hb dX8_when_50 rfl (lv_at hl 2 rfl) ?_
            refine lv_goto (tgt := 56) hx hb dX8_when_51 (by decide) ?_
            have e9 := Option.some.inj hf
            exact rt_i hx hb hr hlocks (fst_e e9) (rtP (P := fun z => va_P E.1 vwCl (wX8 E a0 z.2 t0) H) e9 hP) hS dX8_when_56
        · have hf := ite_t c_27 hf
          refine lv_aload_n hx hb dX8_when_30 rfl (lv_at hl 0 rfl) ?_
          obtain ⟨q31, hc_31, hf⟩ := cl_e hf
          refine fin_v (E := E) (wc := wX8 E a0 s0 t0) (wc' := wX8 E a0 q31 t0) (va_runV (As := []) (rest := []) ⟨hx, hb, hml, hown, hts⟩ (k_X8_goDay l E a0 N s0 t0 q31 hc_31 _) (cwV 0 hts gX8_when_X8_goDay rfl rfl rfl (by decide +kernel) ⟨(Nat.le_of_ble_eq_true rfl), (Nat.le_of_ble_eq_true rfl)⟩) (pre_v (ci := 8) (q0 := 0) hK hP (hDD s0 t0) hS hG hAB rfl rfl) rfl rfl hl.1 rfl (lv_room (Nat.le_of_ble_eq_true rfl)) dX8_when_31 ⟨Nat.zero_le _, Nat.zero_le _⟩) hS (w_free (hDD s0 t0) hS hA (fun _ h => h)) (fun H locs hP1 hk hS => ?_)
          have hP := hP1
          obtain ⟨x34, e_x34⟩ : ∃ y : Int32, y = v2 + 1 := ⟨_, rfl⟩
          have hf := nm_q e_x34 hf
          refine lv_iinc (v := x34) (lv' := [(2, .int x34), (0, .ref (a0 0)), (1, .int v1)]) hx hb dX8_when_34 hl (k := 2) rfl (by rw [e_x34]; rfl) (Nat.le_of_ble_eq_true rfl) rfl (fun ls hl => ?_)
          refine lv_goto (tgt := 16) hx hb dX8_when_37 (by decide) ?_
          exact ih_16 q31 x34 hf _ _ _ hP hS (lv_sub hl [1, 2, 0] rfl)
  refine lv_aload_n hx hb dX8_when_0 rfl (lv_at hl 0 rfl) ?_
  refine lv_iload_n hx hb dX8_when_1 rfl (lv_at hl 1 rfl) ?_
  obtain ⟨q2, hc_2, hf⟩ := cl_e hf
  refine fin_i (E := E) (wc := wX8 E a0 s0 t0) (wc' := wX8 E a0 s0 t0) (va_runV (As := [.int p1]) (rest := []) ⟨hx, hb, hml, hown, hts⟩ (k_X8_isThing l E a0 N s0 t0 p1 q2 hc_2 _) (cwV 1 hts gX8_when_X8_isThing rfl rfl rfl (by decide +kernel) ⟨(Nat.le_of_ble_eq_true rfl), (Nat.le_of_ble_eq_true rfl)⟩) (pre_v (ci := 8) (q0 := 0) hK hP (hDD s0 t0) hS hG hAB rfl rfl) rfl rfl hl.1 rfl (lv_room (Nat.le_of_ble_eq_true rfl)) dX8_when_2 ⟨Nat.zero_le _, Nat.zero_le _⟩) hS (w_free (hDD s0 t0) hS hA (fun _ h => h)) (fun H locs hP1 hk hS => ?_)
  have hP := hP1
  refine lv_if_ne (tgt := 10) hx hb dX8_when_5 (by decide) (fun c_5 => ?_) (fun c_5 => ?_)
  · have hf := ite_f c_5 hf
    refine lv_aload_n hx hb dX8_when_10 rfl (lv_at hl 0 rfl) ?_
    obtain ⟨q11, hc_11, hf⟩ := cl_e hf
    refine fin_v (E := E) (wc := wX8 E a0 s0 t0) (wc' := wX8 E a0 q11 t0) (va_runV (As := []) (rest := []) ⟨hx, hb, hml, hown, hts⟩ (k_X8_save l E a0 N s0 t0 q11 hc_11 _) (cwV 0 hts gX8_when_X8_save rfl rfl rfl (by decide +kernel) ⟨(Nat.le_of_ble_eq_true rfl), (Nat.le_of_ble_eq_true rfl)⟩) (pre_v (ci := 8) (q0 := 0) hK hP (hDD s0 t0) hS hG hAB rfl rfl) rfl rfl hl.1 rfl (lv_room (Nat.le_of_ble_eq_true rfl)) dX8_when_11 ⟨Nat.zero_le _, Nat.zero_le _⟩) hS (w_free (hDD s0 t0) hS hA (fun _ h => h)) (fun H locs hP1 hk hS => ?_)
    have hP := hP1
    refine lv_iconst (v := 0) hx hb dX8_when_14 (by decide) ?_
    refine lv_istore_n (lv' := [(2, .int 0), (0, .ref (a0 0)), (1, .int p1)]) hx hb dX8_when_15 rfl hl (Nat.le_of_ble_eq_true rfl) rfl (fun ls hl => ?_)
    exact hL_16 p1 N q11 0 hf _ _ _ hP hS (lv_sub hl [1, 2, 0] rfl)
  · have hf := ite_t c_5 hf
    refine lv_iconst (v := (-1)) hx hb dX8_when_8 (by decide) ?_
    have e9 := Option.some.inj hf
    exact rt_i hx hb hr hlocks (fst_e e9) (rtP (P := fun z => va_P E.1 vwCl (wX8 E a0 z.2 t0) H) e9 hP) hS dX8_when_9
abbrev rm_X8_mostNow : Room := { frames := 8, cells := 0, slots := 0, locals := 180 }
theorem m_X8_mostNow_99d0c5 : Cond.fieldLink RX8 102 "PickedMatchModel" "bestRow" "[I" ∈ wsX8_mostNow := by decide +kernel
theorem i_X8_mostNow_X8 : ∀ w ∈ wsX80, w ∈ wsX8_mostNow := fun _ h => List.mem_cons_of_mem _ (List.mem_append_right _ h)
theorem m_X8_mostNow_ef0124 : Cond.fieldLink RX8 32 "PickedMatchModel" "hadOf" "[I" ∈ wsX8_mostNow := by decide +kernel
theorem m_X8_mostNow_0b849a : Cond.fieldLink RX8 99 "PickedMatchModel" "tried" "[I" ∈ wsX8_mostNow := by decide +kernel
theorem m_X8_mostNow_acbb5e : Cond.fieldLink RX8 7 "PickedMatchModel" "things" "I" ∈ wsX8_mostNow := by decide +kernel
theorem m_X8_mostNow_92e5f7 : Cond.fieldLink RX8 13 "PickedMatchModel" "had" "I" ∈ wsX8_mostNow := by decide +kernel
set_option maxHeartbeats 8000000 in
set_option maxRecDepth 100000 in
theorem k_X8_mostNow (l : Launch) (E : Ev) (a0 : Nat → Nat) (N : Nat) (s0 : St) (t0 : Nat → Nat → Int64) (q : (Int32 × St)) (hf : f_X8_mostNow N s0 = some q) : Ci l yX8_mostNow wsX8_mostNow rm_X8_mostNow E [.ref (a0 0)] (wX8 E a0 s0 t0) (wX8 E a0 q.2 t0) q.1 := by
  unfold f_X8_mostNow at hf
  intro sz
  refine Met.ofW (cc := cX8_mostNow) (maxL := 6) (ret := (some .int)) (by decide) rfl ?_
  intro p e s m args below meth c s₁ B hml hv
  obtain ⟨rfl, hsz, hP, hK, hD0, hG, hA, hAB⟩ := start hv
  have hx := B.exec
  have hb := B.bytes
  have hr := B.returns
  have hts := atoms_spec (ws := wsX8_mostNow) B.pre
  have hown : s.vm.findClass RX8 = some m.cls := findClass_of_methodNamed B.named
  have hlocks := B.notSynchronized
  subst hsz
  generalize va_A (wX8 E a0 s0 t0) s.heap.size = A0 at hD0 hA hAB ⊢
  have hDD : ∀ (s0 : St) (t0 : Nat → Nat → Int64), va_D A0 (wX8 E a0 s0 t0) := fun s0 t0 => vD_addr hD0 rfl
  have hS : va_S A0 s.heap s.heap [] := va_S.rf
  have hl := lv_entry ([.ref (a0 0)]) (n := 6) (Nat.le_of_ble_eq_true rfl)
  rw [lg_entry_eq]
  generalize (lg_sl ([.ref (a0 0)]) ++ List.replicate (6 - (lg_sl ([.ref (a0 0)])).length) Slot.unset).toArray = ls at hl ⊢
  have hl : lv_has ls 6 [(0, .ref (a0 0))] := hl
  have hL_16 : ∀ (v1 : Int32) (n_16 : Nat) (s0 : St) (v2 : Int32) (v3 : Int32), l_X8_mostNow_16 N v1 n_16 s0 v2 v3 = some q → ∀ (H : Heap) (locs : List Loc) (ls : Array Slot), va_P E.1 vwCl (wX8 E a0 s0 t0) H → va_S A0 s.heap H locs → lv_has ls 6 [(0, .ref (a0 0)), (1, .int v1), (2, .int v2), (3, .int v3)] → W p l e rm_X8_mostNow s m ([.ref (a0 0)] : List Value).toArray below meth c H locs 0 0 (MQ below (va_Qi (fun (r' : Int32) (_ : Unit) => r' = q.1) (fun _ t => va_P E.1 vwCl (wX8 E a0 q.2 t0) t.heap) A0) ([.ref (a0 0)] : List Value).toArray s 0 0 A0) (F0 m 16 ls []) := by
    intro v1 n_16
    induction n_16 with
    | zero => intro s0 v2 v3 hf; rw [l_X8_mostNow_16] at hf; cases hf
    | succ n_16 ih_16 =>
      intro s0 v2 v3 hf H locs ls hP hS hl
      rw [l_X8_mostNow_16] at hf
      have hL_102 : ∀ (v2 : Int32) (v3 : Int32) (n_102 : Nat) (s0 : St) (v5 : Int32), l_X8_mostNow_102 N (l_X8_mostNow_16 N v1 n_16) v1 v2 v3 n_102 s0 v5 = some q → ∀ (H : Heap) (locs : List Loc) (ls : Array Slot), va_P E.1 vwCl (wX8 E a0 s0 t0) H → va_S A0 s.heap H locs → lv_has ls 6 [(0, .ref (a0 0)), (1, .int v1), (2, .int v2), (3, .int v3), (5, .int v5)] → W p l e rm_X8_mostNow s m ([.ref (a0 0)] : List Value).toArray below meth c H locs 0 0 (MQ below (va_Qi (fun (r' : Int32) (_ : Unit) => r' = q.1) (fun _ t => va_P E.1 vwCl (wX8 E a0 q.2 t0) t.heap) A0) ([.ref (a0 0)] : List Value).toArray s 0 0 A0) (F0 m 102 ls []) := by
        intro v2 v3 n_102
        induction n_102 with
        | zero => intro s0 v5 hf; rw [l_X8_mostNow_102] at hf; cases hf
        | succ n_102 ih_102 =>
          intro s0 v5 hf H locs ls hP hS hl
          rw [l_X8_mostNow_102] at hf
          refine lv_iload hx hb dX8_mostNow_102 (lv_at hl 4 rfl) ?_
          refine lv_iload_n hx hb dX8_mostNow_104 rfl (lv_at hl 3 rfl) ?_
          refine lv_icmp_ge (tgt := 130) hx hb dX8_mostNow_105 (by decide) (fun c_105 => ?_) (fun c_105 => ?_)
          · have hf := ite_t c_105 hf
            refine lv_goto (tgt := 143) hx hb dX8_mostNow_130 (by decide) ?_
            refine lv_goto (tgt := 16) hx hb dX8_mostNow_143 (by decide) ?_
            exact ih_16 s0 v2 v3 hf _ _ _ hP hS (lv_sub hl [0, 1, 2, 3] rfl)
          · have hf := ite_f c_105 hf
            refine lv_aload_n hx hb dX8_mostNow_108 rfl (lv_at hl 0 rfl) ?_
            refine va_get (ci := 8) (C := RX8) (T := TX8) (N := 67) (v := .ref (a0 18)) hx hb hts i_X8_mostNow_X8 hown hK hP 0 rfl rfl 30 (by decide) (hts _ m_X8_mostNow_99d0c5) (fun _ h9 => h9) rfl dX8_mostNow_109 ?_
            refine lv_iload hx hb dX8_mostNow_112 (lv_at hl 4 rfl) ?_
            refine lv_aload_n hx hb dX8_mostNow_114 rfl (lv_at hl 0 rfl) ?_
            refine va_get (ci := 8) (C := RX8) (T := TX8) (N := 67) (v := .ref (a0 5)) hx hb hts i_X8_mostNow_X8 hown hK hP 0 rfl rfl 7 (by decide) (hts _ m_X8_mostNow_ef0124) (fun _ h9 => h9) rfl dX8_mostNow_115 ?_
            refine lv_iload_n hx hb dX8_mostNow_118 rfl (lv_at hl 1 rfl) ?_
            refine lv_iload hx hb dX8_mostNow_119 (lv_at hl 4 rfl) ?_
            refine lv_iadd hx hb dX8_mostNow_121 ?_
            obtain ⟨h_122, hf⟩ := ck_e hf
            refine va_iald (cA := E.2.1) (n := 6) (f := s0 7) hx hb hK hP 5 0 rfl rfl h_122 dX8_mostNow_122 ?_
            obtain ⟨h_123, hf⟩ := ck_e hf
            refine va_iast (cA := E.2.1) (n := 6) (f := s0 30) (x := s0 7 (v1 + v5).toNatClampNeg) hx hb hK hP (hDD s0 t0) hS 18 0 rfl rfl h_123 dX8_mostNow_123 (fun H locs hP _ hS => ?_)
            obtain ⟨s0_123, hP, hf⟩ := nm_st' (P := fun z => va_P E.1 vwCl (wX8 E a0 z t0) H) hf hP
            obtain ⟨x124, e_x124⟩ : ∃ y : Int32, y = v5 + 1 := ⟨_, rfl⟩
            have hf := nm_q e_x124 hf
            refine lv_iinc (v := x124) (lv' := [(5, .int x124), (0, .ref (a0 0)), (1, .int v1), (2, .int v2), (3, .int v3)]) hx hb dX8_mostNow_124 hl (k := 4) rfl (by rw [e_x124]; rfl) (Nat.le_of_ble_eq_true rfl) rfl (fun ls hl => ?_)
            refine lv_goto (tgt := 102) hx hb dX8_mostNow_127 (by decide) ?_
            exact ih_102 s0_123 x124 hf _ _ _ hP hS (lv_sub hl [1, 2, 3, 4, 0] rfl)
      refine lv_iload_n hx hb dX8_mostNow_16 rfl (lv_at hl 3 rfl) ?_
      refine lv_if_lt (tgt := 146) hx hb dX8_mostNow_17 (by decide) (fun c_17 => ?_) (fun c_17 => ?_)
      · have hf := ite_t c_17 hf
        refine lv_iload_n hx hb dX8_mostNow_146 rfl (lv_at hl 2 rfl) ?_
        have e9 := Option.some.inj hf
        exact rt_i hx hb hr hlocks (fst_e e9) (rtP (P := fun z => va_P E.1 vwCl (wX8 E a0 z.2 t0) H) e9 hP) hS dX8_mostNow_147
      · have hf := ite_f c_17 hf
        refine lv_aload_n hx hb dX8_mostNow_20 rfl (lv_at hl 0 rfl) ?_
        refine va_get (ci := 8) (C := RX8) (T := TX8) (N := 67) (v := .ref (a0 17)) hx hb hts i_X8_mostNow_X8 hown hK hP 0 rfl rfl 29 (by decide) (hts _ m_X8_mostNow_0b849a) (fun _ h9 => h9) rfl dX8_mostNow_21 ?_
        refine lv_iload_n hx hb dX8_mostNow_24 rfl (lv_at hl 3 rfl) ?_
        obtain ⟨h_25, hf⟩ := ck_e hf
        refine va_iald (cA := E.2.1) (n := 8) (f := s0 29) hx hb hK hP 17 0 rfl rfl h_25 dX8_mostNow_25 ?_
        refine lv_topi (fun x26 e_x26 => ?_)
        have hf := nm_q e_x26 hf
        refine lv_istore (lv' := [(4, .int x26), (0, .ref (a0 0)), (1, .int v1), (2, .int v2), (3, .int v3)]) hx hb dX8_mostNow_26 hl (Nat.le_of_ble_eq_true rfl) rfl (fun ls hl => ?_)
        refine lv_iload hx hb dX8_mostNow_28 (lv_at hl 0 rfl) ?_
        refine lv_aload_n hx hb dX8_mostNow_30 rfl (lv_at hl 1 rfl) ?_
        refine va_get (ci := 8) (C := RX8) (T := TX8) (N := 67) (v := .int (s0 0 0)) hx hb hts i_X8_mostNow_X8 hown hK hP 0 rfl rfl 0 (by decide) (hts _ m_X8_mostNow_acbb5e) (fun _ h9 => h9) rfl dX8_mostNow_31 ?_
        refine lv_icmp_ne (tgt := 67) hx hb dX8_mostNow_34 (by decide) (fun c_34 => ?_) (fun c_34 => ?_)
        · have hf := ite_f c_34 hf
          refine lv_aload_n hx hb dX8_mostNow_67 rfl (lv_at hl 1 rfl) ?_
          refine lv_iload hx hb dX8_mostNow_68 (lv_at hl 0 rfl) ?_
          obtain ⟨q70, hc_70, hf⟩ := cl_e hf
          refine fin_i (E := E) (wc := wX8 E a0 s0 t0) (wc' := wX8 E a0 q70.2 t0) (va_runV (As := [.int x26]) (rest := []) ⟨hx, hb, hml, hown, hts⟩ (k_X8_goes l E a0 N s0 t0 x26 q70 hc_70 _) (cwV 1 hts gX8_mostNow_X8_goes rfl rfl rfl (by decide +kernel) ⟨(Nat.le_of_ble_eq_true rfl), (Nat.le_of_ble_eq_true rfl)⟩) (pre_v (ci := 8) (q0 := 0) hK hP (hDD s0 t0) hS hG hAB rfl rfl) rfl rfl hl.1 rfl (lv_room (Nat.le_of_ble_eq_true rfl)) dX8_mostNow_70 ⟨Nat.zero_le _, Nat.zero_le _⟩) hS (w_free (hDD s0 t0) hS hA (fun _ h => h)) (fun H locs hP1 hk hS => ?_)
          have hP := hP1
          refine lv_if_eq (tgt := 133) hx hb dX8_mostNow_73 (by decide) (fun c_73 => ?_) (fun c_73 => ?_)
          · have hf := ite_t c_73 hf
            refine lv_aload_n hx hb dX8_mostNow_133 rfl (lv_at hl 1 rfl) ?_
            refine va_get (ci := 8) (C := RX8) (T := TX8) (N := 67) (v := .ref (a0 17)) hx hb hts i_X8_mostNow_X8 hown hK hP 0 rfl rfl 29 (by decide) (hts _ m_X8_mostNow_0b849a) (fun _ h9 => h9) rfl dX8_mostNow_134 ?_
            refine lv_iload_n hx hb dX8_mostNow_137 rfl (lv_at hl 4 rfl) ?_
            refine lv_dup2_11 hx hb dX8_mostNow_138 rfl rfl ?_
            obtain ⟨h_139, hf⟩ := ck_e hf
            refine va_iald (cA := E.2.1) (n := 8) (f := q70.2 29) hx hb hK hP 17 0 rfl rfl h_139 dX8_mostNow_139 ?_
            refine lv_iconst (v := 1) hx hb dX8_mostNow_140 (by decide) ?_
            refine lv_iadd hx hb dX8_mostNow_141 ?_
            obtain ⟨h_142, hf⟩ := ck_e hf
            refine va_iast (cA := E.2.1) (n := 8) (f := q70.2 29) (x := (q70.2 29 v3.toNatClampNeg) + 1) hx hb hK hP (hDD q70.2 t0) hS 17 0 rfl rfl h_142 dX8_mostNow_142 (fun H locs hP _ hS => ?_)
            obtain ⟨s0_142, hP, hf⟩ := nm_st' (P := fun z => va_P E.1 vwCl (wX8 E a0 z t0) H) hf hP
            refine lv_goto (tgt := 16) hx hb dX8_mostNow_143 (by decide) ?_
            exact ih_16 s0_142 v2 v3 hf _ _ _ hP hS (lv_sub hl [1, 2, 3, 4] rfl)
          · have hf := ite_f c_73 hf
            refine lv_aload_n hx hb dX8_mostNow_76 rfl (lv_at hl 1 rfl) ?_
            refine lv_iload hx hb dX8_mostNow_77 (lv_at hl 0 rfl) ?_
            obtain ⟨q79, hc_79, hf⟩ := cl_e hf
            refine fin_v (E := E) (wc := wX8 E a0 q70.2 t0) (wc' := wX8 E a0 q79 t0) (va_runV (As := [.int x26]) (rest := []) ⟨hx, hb, hml, hown, hts⟩ (k_X8_pushes l E a0 N q70.2 t0 x26 q79 hc_79 _) (cwV 1 hts gX8_mostNow_X8_pushes rfl rfl rfl (by decide +kernel) ⟨(Nat.le_of_ble_eq_true rfl), (Nat.le_of_ble_eq_true rfl)⟩) (pre_v (ci := 8) (q0 := 0) hK hP (hDD q70.2 t0) hS hG hAB rfl rfl) rfl rfl hl.1 rfl (lv_room (Nat.le_of_ble_eq_true rfl)) dX8_mostNow_79 ⟨Nat.zero_le _, Nat.zero_le _⟩) hS (w_free (hDD q70.2 t0) hS hA (fun _ h => h)) (fun H locs hP1 hk hS => ?_)
            have hP := hP1
            obtain ⟨x82, e_x82⟩ : ∃ y : Int32, y = v3 + 1 := ⟨_, rfl⟩
            have hf := nm_q e_x82 hf
            refine lv_iinc (v := x82) (lv' := [(3, .int x82), (4, .int x26), (0, .ref (a0 0)), (1, .int v1), (2, .int v2)]) hx hb dX8_mostNow_82 hl (k := 4) rfl (by rw [e_x82]; rfl) (Nat.le_of_ble_eq_true rfl) rfl (fun ls hl => ?_)
            refine lv_aload_n hx hb dX8_mostNow_85 rfl (lv_at hl 2 rfl) ?_
            refine va_get (ci := 8) (C := RX8) (T := TX8) (N := 67) (v := .ref (a0 17)) hx hb hts i_X8_mostNow_X8 hown hK hP 0 rfl rfl 29 (by decide) (hts _ m_X8_mostNow_0b849a) (fun _ h9 => h9) rfl dX8_mostNow_86 ?_
            refine lv_iload_n hx hb dX8_mostNow_89 rfl (lv_at hl 0 rfl) ?_
            refine lv_iconst (v := 0) hx hb dX8_mostNow_90 (by decide) ?_
            obtain ⟨h_91, hf⟩ := ck_e hf
            refine va_iast (cA := E.2.1) (n := 8) (f := q79 29) (x := 0) hx hb hK hP (hDD q79 t0) hS 17 0 rfl rfl h_91 dX8_mostNow_91 (fun H locs hP _ hS => ?_)
            obtain ⟨s0_91, hP, hf⟩ := nm_st' (P := fun z => va_P E.1 vwCl (wX8 E a0 z t0) H) hf hP
            refine lv_iload_n hx hb dX8_mostNow_92 rfl (lv_at hl 0 rfl) ?_
            refine lv_iload_n hx hb dX8_mostNow_93 rfl (lv_at hl 4 rfl) ?_
            refine lv_icmp_le (tgt := 143) hx hb dX8_mostNow_94 (by decide) (fun c_94 => ?_) (fun c_94 => ?_)
            · have hf := ite_t c_94 hf
              refine lv_goto (tgt := 16) hx hb dX8_mostNow_143 (by decide) ?_
              exact ih_16 s0_91 v2 x82 hf _ _ _ hP hS (lv_sub hl [2, 3, 4, 0] rfl)
            · have hf := ite_f c_94 hf
              refine lv_iload_n hx hb dX8_mostNow_97 rfl (lv_at hl 0 rfl) ?_
              refine lv_istore_n (lv' := [(2, .int x82), (3, .int x82), (4, .int x26), (0, .ref (a0 0)), (1, .int v1)]) hx hb dX8_mostNow_98 rfl hl (Nat.le_of_ble_eq_true rfl) rfl (fun ls hl => ?_)
              refine lv_iconst (v := 0) hx hb dX8_mostNow_99 (by decide) ?_
              refine lv_istore (lv' := [(5, .int 0), (2, .int x82), (3, .int x82), (4, .int x26), (0, .ref (a0 0)), (1, .int v1)]) hx hb dX8_mostNow_100 hl (Nat.le_of_ble_eq_true rfl) rfl (fun ls hl => ?_)
              exact hL_102 x82 x82 N s0_91 0 hf _ _ _ hP hS (lv_sub hl [4, 5, 1, 2, 0] rfl)
        · have hf := ite_t c_34 hf
          obtain ⟨x37, e_x37⟩ : ∃ y : Int32, y = v3 + (-1) := ⟨_, rfl⟩
          have hf := nm_q e_x37 hf
          refine lv_iinc (v := x37) (lv' := [(3, .int x37), (4, .int x26), (0, .ref (a0 0)), (1, .int v1), (2, .int v2)]) hx hb dX8_mostNow_37 hl (k := 4) rfl (by rw [e_x37]; rfl) (Nat.le_of_ble_eq_true rfl) rfl (fun ls hl => ?_)
          refine lv_iload_n hx hb dX8_mostNow_40 rfl (lv_at hl 0 rfl) ?_
          refine lv_if_lt (tgt := 143) hx hb dX8_mostNow_41 (by decide) (fun c_41 => ?_) (fun c_41 => ?_)
          · have hf := ite_t c_41 hf
            refine lv_goto (tgt := 16) hx hb dX8_mostNow_143 (by decide) ?_
            exact ih_16 s0 v2 x37 hf _ _ _ hP hS (lv_sub hl [2, 3, 4, 0] rfl)
          · have hf := ite_f c_41 hf
            refine lv_aload_n hx hb dX8_mostNow_44 rfl (lv_at hl 2 rfl) ?_
            refine lv_dup hx hb dX8_mostNow_45 rfl ?_
            refine va_get (ci := 8) (C := RX8) (T := TX8) (N := 67) (v := .int (s0 1 0)) hx hb hts i_X8_mostNow_X8 hown hK hP 0 rfl rfl 1 (by decide) (hts _ m_X8_mostNow_92e5f7) (fun _ h9 => h9) rfl dX8_mostNow_46 ?_
            refine lv_iconst (v := 1) hx hb dX8_mostNow_49 (by decide) ?_
            refine lv_isub hx hb dX8_mostNow_50 ?_
            refine va_put (ci := 8) (v := .int ((s0 1 0) - 1)) (ty := .int) (C := RX8) (T := TX8) (N := 67) hx hb hts i_X8_mostNow_X8 tyX8 tyX8_ok nmX8 hown hK hP (hDD s0 t0) hS 0 rfl rfl 1 (by decide) (hts _ m_X8_mostNow_92e5f7) (fun _ h9 => h9) rfl (by decide +kernel) rfl rfl (Nat.le_of_ble_eq_true rfl) dX8_mostNow_51 (fun H locs hP _ hS => ?_)
            obtain ⟨s0_51, hP, hf⟩ := nm_st' (P := fun z => va_P E.1 vwCl (wX8 E a0 z t0) H) hf hP
            refine lv_aload_n hx hb dX8_mostNow_54 rfl (lv_at hl 2 rfl) ?_
            refine va_get (ci := 8) (C := RX8) (T := TX8) (N := 67) (v := .ref (a0 17)) hx hb hts i_X8_mostNow_X8 hown hK hP 0 rfl rfl 29 (by decide) (hts _ m_X8_mostNow_0b849a) (fun _ h9 => h9) rfl dX8_mostNow_55 ?_
            refine lv_iload_n hx hb dX8_mostNow_58 rfl (lv_at hl 0 rfl) ?_
            refine lv_dup2_11 hx hb dX8_mostNow_59 rfl rfl ?_
            obtain ⟨h_60, hf⟩ := ck_e hf
            refine va_iald (cA := E.2.1) (n := 8) (f := s0_51 29) hx hb hK hP 17 0 rfl rfl h_60 dX8_mostNow_60 ?_
            refine lv_iconst (v := 1) hx hb dX8_mostNow_61 (by decide) ?_
            refine lv_iadd hx hb dX8_mostNow_62 ?_
            obtain ⟨h_63, hf⟩ := ck_e hf
            refine va_iast (cA := E.2.1) (n := 8) (f := s0_51 29) (x := (s0_51 29 x37.toNatClampNeg) + 1) hx hb hK hP (hDD s0_51 t0) hS 17 0 rfl rfl h_63 dX8_mostNow_63 (fun H locs hP _ hS => ?_)
            obtain ⟨s0_63, hP, hf⟩ := nm_st' (P := fun z => va_P E.1 vwCl (wX8 E a0 z t0) H) hf hP
            refine lv_goto (tgt := 143) hx hb dX8_mostNow_64 (by decide) ?_
            refine lv_goto (tgt := 16) hx hb dX8_mostNow_143 (by decide) ?_
            exact ih_16 s0_63 v2 x37 hf _ _ _ hP hS (lv_sub hl [2, 3, 4, 0] rfl)
  refine lv_aload_n hx hb dX8_mostNow_0 rfl (lv_at hl 0 rfl) ?_
  refine va_get (ci := 8) (C := RX8) (T := TX8) (N := 67) (v := .int (s0 1 0)) hx hb hts i_X8_mostNow_X8 hown hK hP 0 rfl rfl 1 (by decide) (hts _ m_X8_mostNow_92e5f7) (fun _ h9 => h9) rfl dX8_mostNow_1 ?_
  refine lv_topi (fun x4 e_x4 => ?_)
  have hf := nm_q e_x4 hf
  refine lv_istore_n (lv' := [(1, .int x4), (0, .ref (a0 0))]) hx hb dX8_mostNow_4 rfl hl (Nat.le_of_ble_eq_true rfl) rfl (fun ls hl => ?_)
  refine lv_iconst (v := 0) hx hb dX8_mostNow_5 (by decide) ?_
  refine lv_istore_n (lv' := [(2, .int 0), (1, .int x4), (0, .ref (a0 0))]) hx hb dX8_mostNow_6 rfl hl (Nat.le_of_ble_eq_true rfl) rfl (fun ls hl => ?_)
  refine lv_iconst (v := 0) hx hb dX8_mostNow_7 (by decide) ?_
  refine lv_istore_n (lv' := [(3, .int 0), (2, .int 0), (1, .int x4), (0, .ref (a0 0))]) hx hb dX8_mostNow_8 rfl hl (Nat.le_of_ble_eq_true rfl) rfl (fun ls hl => ?_)
  refine lv_aload_n hx hb dX8_mostNow_9 rfl (lv_at hl 3 rfl) ?_
  refine va_get (ci := 8) (C := RX8) (T := TX8) (N := 67) (v := .ref (a0 17)) hx hb hts i_X8_mostNow_X8 hown hK hP 0 rfl rfl 29 (by decide) (hts _ m_X8_mostNow_0b849a) (fun _ h9 => h9) rfl dX8_mostNow_10 ?_
  refine lv_iconst (v := 0) hx hb dX8_mostNow_13 (by decide) ?_
  refine lv_iconst (v := 0) hx hb dX8_mostNow_14 (by decide) ?_
  obtain ⟨h_15, hf⟩ := ck_e hf
  refine va_iast (cA := E.2.1) (n := 8) (f := s0 29) (x := 0) hx hb hK hP (hDD s0 t0) hS 17 0 rfl rfl h_15 dX8_mostNow_15 (fun H locs hP _ hS => ?_)
  obtain ⟨s0_15, hP, hf⟩ := nm_st' (P := fun z => va_P E.1 vwCl (wX8 E a0 z t0) H) hf hP
  exact hL_16 x4 N s0_15 0 0 hf _ _ _ hP hS (lv_sub hl [3, 2, 1, 0] rfl)
abbrev rm_X8_fewestAhead : Room := { frames := 8, cells := 0, slots := 0, locals := 180 }
theorem m_X8_fewestAhead_0b849a : Cond.fieldLink RX8 99 "PickedMatchModel" "tried" "[I" ∈ wsX8_fewestAhead := by decide +kernel
theorem i_X8_fewestAhead_X8 : ∀ w ∈ wsX80, w ∈ wsX8_fewestAhead := fun _ h => List.mem_cons_of_mem _ (List.mem_append_right _ h)
theorem m_X8_fewestAhead_acbb5e : Cond.fieldLink RX8 7 "PickedMatchModel" "things" "I" ∈ wsX8_fewestAhead := by decide +kernel
theorem m_X8_fewestAhead_92e5f7 : Cond.fieldLink RX8 13 "PickedMatchModel" "had" "I" ∈ wsX8_fewestAhead := by decide +kernel
set_option maxHeartbeats 8000000 in
set_option maxRecDepth 100000 in
theorem k_X8_fewestAhead (l : Launch) (E : Ev) (a0 : Nat → Nat) (N : Nat) (s0 : St) (t0 : Nat → Nat → Int64) (p1 : Int32) (q : (Int32 × St)) (hf : f_X8_fewestAhead N s0 p1 = some q) : Ci l yX8_fewestAhead wsX8_fewestAhead rm_X8_fewestAhead E [.ref (a0 0), .int p1] (wX8 E a0 s0 t0) (wX8 E a0 q.2 t0) q.1 := by
  unfold f_X8_fewestAhead at hf
  intro sz
  refine Met.ofW (cc := cX8_fewestAhead) (maxL := 5) (ret := (some .int)) (by decide) rfl ?_
  intro p e s m args below meth c s₁ B hml hv
  obtain ⟨rfl, hsz, hP, hK, hD0, hG, hA, hAB⟩ := start hv
  have hx := B.exec
  have hb := B.bytes
  have hr := B.returns
  have hts := atoms_spec (ws := wsX8_fewestAhead) B.pre
  have hown : s.vm.findClass RX8 = some m.cls := findClass_of_methodNamed B.named
  have hlocks := B.notSynchronized
  subst hsz
  generalize va_A (wX8 E a0 s0 t0) s.heap.size = A0 at hD0 hA hAB ⊢
  have hDD : ∀ (s0 : St) (t0 : Nat → Nat → Int64), va_D A0 (wX8 E a0 s0 t0) := fun s0 t0 => vD_addr hD0 rfl
  have hS : va_S A0 s.heap s.heap [] := va_S.rf
  have hl := lv_entry ([.ref (a0 0), .int p1]) (n := 5) (Nat.le_of_ble_eq_true rfl)
  rw [lg_entry_eq]
  generalize (lg_sl ([.ref (a0 0), .int p1]) ++ List.replicate (5 - (lg_sl ([.ref (a0 0), .int p1])).length) Slot.unset).toArray = ls at hl ⊢
  have hl : lv_has ls 5 [(0, .ref (a0 0)), (1, .int p1)] := hl
  have hL_22 : ∀ (v1 : Int32) (n_22 : Nat) (s0 : St) (v2 : Int32) (v3 : Int32), l_X8_fewestAhead_22 N v1 n_22 s0 v2 v3 = some q → ∀ (H : Heap) (locs : List Loc) (ls : Array Slot), va_P E.1 vwCl (wX8 E a0 s0 t0) H → va_S A0 s.heap H locs → lv_has ls 5 [(0, .ref (a0 0)), (1, .int v1), (2, .int v2), (3, .int v3)] → W p l e rm_X8_fewestAhead s m ([.ref (a0 0), .int p1] : List Value).toArray below meth c H locs 0 0 (MQ below (va_Qi (fun (r' : Int32) (_ : Unit) => r' = q.1) (fun _ t => va_P E.1 vwCl (wX8 E a0 q.2 t0) t.heap) A0) ([.ref (a0 0), .int p1] : List Value).toArray s 0 0 A0) (F0 m 22 ls []) := by
    intro v1 n_22
    induction n_22 with
    | zero => intro s0 v2 v3 hf; rw [l_X8_fewestAhead_22] at hf; cases hf
    | succ n_22 ih_22 =>
      intro s0 v2 v3 hf H locs ls hP hS hl
      rw [l_X8_fewestAhead_22] at hf
      refine lv_iload_n hx hb dX8_fewestAhead_22 rfl (lv_at hl 3 rfl) ?_
      refine lv_if_lt (tgt := 139) hx hb dX8_fewestAhead_23 (by decide) (fun c_23 => ?_) (fun c_23 => ?_)
      · have hf := ite_t c_23 hf
        refine lv_iload_n hx hb dX8_fewestAhead_139 rfl (lv_at hl 2 rfl) ?_
        have e9 := Option.some.inj hf
        exact rt_i hx hb hr hlocks (fst_e e9) (rtP (P := fun z => va_P E.1 vwCl (wX8 E a0 z.2 t0) H) e9 hP) hS dX8_fewestAhead_140
      · have hf := ite_f c_23 hf
        refine lv_aload_n hx hb dX8_fewestAhead_26 rfl (lv_at hl 0 rfl) ?_
        refine va_get (ci := 8) (C := RX8) (T := TX8) (N := 67) (v := .ref (a0 17)) hx hb hts i_X8_fewestAhead_X8 hown hK hP 0 rfl rfl 29 (by decide) (hts _ m_X8_fewestAhead_0b849a) (fun _ h9 => h9) rfl dX8_fewestAhead_27 ?_
        refine lv_iload_n hx hb dX8_fewestAhead_30 rfl (lv_at hl 3 rfl) ?_
        obtain ⟨h_31, hf⟩ := ck_e hf
        refine va_iald (cA := E.2.1) (n := 8) (f := s0 29) hx hb hK hP 17 0 rfl rfl h_31 dX8_fewestAhead_31 ?_
        refine lv_topi (fun x32 e_x32 => ?_)
        have hf := nm_q e_x32 hf
        refine lv_istore (lv' := [(4, .int x32), (0, .ref (a0 0)), (1, .int v1), (2, .int v2), (3, .int v3)]) hx hb dX8_fewestAhead_32 hl (Nat.le_of_ble_eq_true rfl) rfl (fun ls hl => ?_)
        refine lv_iload hx hb dX8_fewestAhead_34 (lv_at hl 0 rfl) ?_
        refine lv_aload_n hx hb dX8_fewestAhead_36 rfl (lv_at hl 1 rfl) ?_
        refine va_get (ci := 8) (C := RX8) (T := TX8) (N := 67) (v := .int (s0 0 0)) hx hb hts i_X8_fewestAhead_X8 hown hK hP 0 rfl rfl 0 (by decide) (hts _ m_X8_fewestAhead_acbb5e) (fun _ h9 => h9) rfl dX8_fewestAhead_37 ?_
        refine lv_icmp_ne (tgt := 73) hx hb dX8_fewestAhead_40 (by decide) (fun c_40 => ?_) (fun c_40 => ?_)
        · have hf := ite_f c_40 hf
          refine lv_iload hx hb dX8_fewestAhead_73 (lv_at hl 0 rfl) ?_
          refine lv_iload_n hx hb dX8_fewestAhead_75 rfl (lv_at hl 2 rfl) ?_
          refine lv_icmp_eq (tgt := 126) hx hb dX8_fewestAhead_76 (by decide) (fun c_76 => ?_) (fun c_76 => ?_)
          · have hf := ite_t c_76 hf
            refine lv_aload_n hx hb dX8_fewestAhead_126 rfl (lv_at hl 1 rfl) ?_
            refine va_get (ci := 8) (C := RX8) (T := TX8) (N := 67) (v := .ref (a0 17)) hx hb hts i_X8_fewestAhead_X8 hown hK hP 0 rfl rfl 29 (by decide) (hts _ m_X8_fewestAhead_0b849a) (fun _ h9 => h9) rfl dX8_fewestAhead_127 ?_
            refine lv_iload_n hx hb dX8_fewestAhead_130 rfl (lv_at hl 4 rfl) ?_
            refine lv_dup2_11 hx hb dX8_fewestAhead_131 rfl rfl ?_
            obtain ⟨h_132, hf⟩ := ck_e hf
            refine va_iald (cA := E.2.1) (n := 8) (f := s0 29) hx hb hK hP 17 0 rfl rfl h_132 dX8_fewestAhead_132 ?_
            refine lv_iconst (v := 1) hx hb dX8_fewestAhead_133 (by decide) ?_
            refine lv_iadd hx hb dX8_fewestAhead_134 ?_
            obtain ⟨h_135, hf⟩ := ck_e hf
            refine va_iast (cA := E.2.1) (n := 8) (f := s0 29) (x := (s0 29 v3.toNatClampNeg) + 1) hx hb hK hP (hDD s0 t0) hS 17 0 rfl rfl h_135 dX8_fewestAhead_135 (fun H locs hP _ hS => ?_)
            obtain ⟨s0_135, hP, hf⟩ := nm_st' (P := fun z => va_P E.1 vwCl (wX8 E a0 z t0) H) hf hP
            refine lv_goto (tgt := 22) hx hb dX8_fewestAhead_136 (by decide) ?_
            exact ih_22 s0_135 v2 v3 hf _ _ _ hP hS (lv_sub hl [1, 2, 3, 4] rfl)
          · have hf := ite_f c_76 hf
            refine lv_aload_n hx hb dX8_fewestAhead_79 rfl (lv_at hl 1 rfl) ?_
            refine lv_iload hx hb dX8_fewestAhead_80 (lv_at hl 0 rfl) ?_
            obtain ⟨q82, hc_82, hf⟩ := cl_e hf
            refine fin_i (E := E) (wc := wX8 E a0 s0 t0) (wc' := wX8 E a0 q82.2 t0) (va_runV (As := [.int x32]) (rest := []) ⟨hx, hb, hml, hown, hts⟩ (k_X8_goes l E a0 N s0 t0 x32 q82 hc_82 _) (cwV 1 hts gX8_fewestAhead_X8_goes rfl rfl rfl (by decide +kernel) ⟨(Nat.le_of_ble_eq_true rfl), (Nat.le_of_ble_eq_true rfl)⟩) (pre_v (ci := 8) (q0 := 0) hK hP (hDD s0 t0) hS hG hAB rfl rfl) rfl rfl hl.1 rfl (lv_room (Nat.le_of_ble_eq_true rfl)) dX8_fewestAhead_82 ⟨Nat.zero_le _, Nat.zero_le _⟩) hS (w_free (hDD s0 t0) hS hA (fun _ h => h)) (fun H locs hP1 hk hS => ?_)
            have hP := hP1
            refine lv_if_eq (tgt := 126) hx hb dX8_fewestAhead_85 (by decide) (fun c_85 => ?_) (fun c_85 => ?_)
            · have hf := ite_t c_85 hf
              refine lv_aload_n hx hb dX8_fewestAhead_126 rfl (lv_at hl 1 rfl) ?_
              refine va_get (ci := 8) (C := RX8) (T := TX8) (N := 67) (v := .ref (a0 17)) hx hb hts i_X8_fewestAhead_X8 hown hK hP 0 rfl rfl 29 (by decide) (hts _ m_X8_fewestAhead_0b849a) (fun _ h9 => h9) rfl dX8_fewestAhead_127 ?_
              refine lv_iload_n hx hb dX8_fewestAhead_130 rfl (lv_at hl 4 rfl) ?_
              refine lv_dup2_11 hx hb dX8_fewestAhead_131 rfl rfl ?_
              obtain ⟨h_132, hf⟩ := ck_e hf
              refine va_iald (cA := E.2.1) (n := 8) (f := q82.2 29) hx hb hK hP 17 0 rfl rfl h_132 dX8_fewestAhead_132 ?_
              refine lv_iconst (v := 1) hx hb dX8_fewestAhead_133 (by decide) ?_
              refine lv_iadd hx hb dX8_fewestAhead_134 ?_
              obtain ⟨h_135, hf⟩ := ck_e hf
              refine va_iast (cA := E.2.1) (n := 8) (f := q82.2 29) (x := (q82.2 29 v3.toNatClampNeg) + 1) hx hb hK hP (hDD q82.2 t0) hS 17 0 rfl rfl h_135 dX8_fewestAhead_135 (fun H locs hP _ hS => ?_)
              obtain ⟨s0_135, hP, hf⟩ := nm_st' (P := fun z => va_P E.1 vwCl (wX8 E a0 z t0) H) hf hP
              refine lv_goto (tgt := 22) hx hb dX8_fewestAhead_136 (by decide) ?_
              exact ih_22 s0_135 v2 v3 hf _ _ _ hP hS (lv_sub hl [1, 2, 3, 4] rfl)
            · have hf := ite_f c_85 hf
              refine lv_aload_n hx hb dX8_fewestAhead_88 rfl (lv_at hl 1 rfl) ?_
              refine lv_iload hx hb dX8_fewestAhead_89 (lv_at hl 0 rfl) ?_
              obtain ⟨q91, hc_91, hf⟩ := cl_e hf
              refine fin_v (E := E) (wc := wX8 E a0 q82.2 t0) (wc' := wX8 E a0 q91 t0) (va_runV (As := [.int x32]) (rest := []) ⟨hx, hb, hml, hown, hts⟩ (k_X8_pushes l E a0 N q82.2 t0 x32 q91 hc_91 _) (cwV 1 hts gX8_fewestAhead_X8_pushes rfl rfl rfl (by decide +kernel) ⟨(Nat.le_of_ble_eq_true rfl), (Nat.le_of_ble_eq_true rfl)⟩) (pre_v (ci := 8) (q0 := 0) hK hP (hDD q82.2 t0) hS hG hAB rfl rfl) rfl rfl hl.1 rfl (lv_room (Nat.le_of_ble_eq_true rfl)) dX8_fewestAhead_91 ⟨Nat.zero_le _, Nat.zero_le _⟩) hS (w_free (hDD q82.2 t0) hS hA (fun _ h => h)) (fun H locs hP1 hk hS => ?_)
              have hP := hP1
              obtain ⟨x94, e_x94⟩ : ∃ y : Int32, y = v3 + 1 := ⟨_, rfl⟩
              have hf := nm_q e_x94 hf
              refine lv_iinc (v := x94) (lv' := [(3, .int x94), (4, .int x32), (0, .ref (a0 0)), (1, .int v1), (2, .int v2)]) hx hb dX8_fewestAhead_94 hl (k := 4) rfl (by rw [e_x94]; rfl) (Nat.le_of_ble_eq_true rfl) rfl (fun ls hl => ?_)
              refine lv_aload_n hx hb dX8_fewestAhead_97 rfl (lv_at hl 2 rfl) ?_
              refine va_get (ci := 8) (C := RX8) (T := TX8) (N := 67) (v := .ref (a0 17)) hx hb hts i_X8_fewestAhead_X8 hown hK hP 0 rfl rfl 29 (by decide) (hts _ m_X8_fewestAhead_0b849a) (fun _ h9 => h9) rfl dX8_fewestAhead_98 ?_
              refine lv_iload_n hx hb dX8_fewestAhead_101 rfl (lv_at hl 0 rfl) ?_
              refine lv_iconst (v := 0) hx hb dX8_fewestAhead_102 (by decide) ?_
              obtain ⟨h_103, hf⟩ := ck_e hf
              refine va_iast (cA := E.2.1) (n := 8) (f := q91 29) (x := 0) hx hb hK hP (hDD q91 t0) hS 17 0 rfl rfl h_103 dX8_fewestAhead_103 (fun H locs hP _ hS => ?_)
              obtain ⟨s0_103, hP, hf⟩ := nm_st' (P := fun z => va_P E.1 vwCl (wX8 E a0 z t0) H) hf hP
              refine lv_aload_n hx hb dX8_fewestAhead_104 rfl (lv_at hl 2 rfl) ?_
              refine lv_iload_n hx hb dX8_fewestAhead_105 rfl (lv_at hl 3 rfl) ?_
              obtain ⟨q106, hc_106, hf⟩ := cl_e hf
              refine fin_i (E := E) (wc := wX8 E a0 s0_103 t0) (wc' := wX8 E a0 q106.2 t0) (va_runV (As := [.int v1]) (rest := []) ⟨hx, hb, hml, hown, hts⟩ (k_X8_goes l E a0 N s0_103 t0 v1 q106 hc_106 _) (cwV 1 hts gX8_fewestAhead_X8_goes rfl rfl rfl (by decide +kernel) ⟨(Nat.le_of_ble_eq_true rfl), (Nat.le_of_ble_eq_true rfl)⟩) (pre_v (ci := 8) (q0 := 0) hK hP (hDD s0_103 t0) hS hG hAB rfl rfl) rfl rfl hl.1 rfl (lv_room (Nat.le_of_ble_eq_true rfl)) dX8_fewestAhead_106 ⟨Nat.zero_le _, Nat.zero_le _⟩) hS (w_free (hDD s0_103 t0) hS hA (fun _ h => h)) (fun H locs hP1 hk hS => ?_)
              have hP := hP1
              refine lv_if_eq (tgt := 136) hx hb dX8_fewestAhead_109 (by decide) (fun c_109 => ?_) (fun c_109 => ?_)
              · have hf := ite_t c_109 hf
                refine lv_goto (tgt := 22) hx hb dX8_fewestAhead_136 (by decide) ?_
                exact ih_22 q106.2 v2 x94 hf _ _ _ hP hS (lv_sub hl [2, 3, 4, 0] rfl)
              · have hf := ite_f c_109 hf
                refine lv_iload_n hx hb dX8_fewestAhead_112 rfl (lv_at hl 4 rfl) ?_
                refine lv_if_lt (tgt := 121) hx hb dX8_fewestAhead_113 (by decide) (fun c_113 => ?_) (fun c_113 => ?_)
                · have hf := ite_t c_113 hf
                  refine lv_iload_n hx hb dX8_fewestAhead_121 rfl (lv_at hl 0 rfl) ?_
                  refine lv_istore_n (lv' := [(2, .int x94), (3, .int x94), (4, .int x32), (0, .ref (a0 0)), (1, .int v1)]) hx hb dX8_fewestAhead_122 rfl hl (Nat.le_of_ble_eq_true rfl) rfl (fun ls hl => ?_)
                  refine lv_goto (tgt := 136) hx hb dX8_fewestAhead_123 (by decide) ?_
                  refine lv_goto (tgt := 22) hx hb dX8_fewestAhead_136 (by decide) ?_
                  exact ih_22 q106.2 x94 x94 hf _ _ _ hP hS (lv_sub hl [3, 4, 0, 1] rfl)
                · have hf := ite_f c_113 hf
                  refine lv_iload_n hx hb dX8_fewestAhead_116 rfl (lv_at hl 0 rfl) ?_
                  refine lv_iload_n hx hb dX8_fewestAhead_117 rfl (lv_at hl 4 rfl) ?_
                  refine lv_icmp_ge (tgt := 136) hx hb dX8_fewestAhead_118 (by decide) (fun c_118 => ?_) (fun c_118 => ?_)
                  · have hf := ite_t c_118 hf
                    refine lv_goto (tgt := 22) hx hb dX8_fewestAhead_136 (by decide) ?_
                    exact ih_22 q106.2 v2 x94 hf _ _ _ hP hS (lv_sub hl [2, 3, 4, 0] rfl)
                  · have hf := ite_f c_118 hf
                    refine lv_iload_n hx hb dX8_fewestAhead_121 rfl (lv_at hl 0 rfl) ?_
                    refine lv_istore_n (lv' := [(2, .int x94), (3, .int x94), (4, .int x32), (0, .ref (a0 0)), (1, .int v1)]) hx hb dX8_fewestAhead_122 rfl hl (Nat.le_of_ble_eq_true rfl) rfl (fun ls hl => ?_)
                    refine lv_goto (tgt := 136) hx hb dX8_fewestAhead_123 (by decide) ?_
                    refine lv_goto (tgt := 22) hx hb dX8_fewestAhead_136 (by decide) ?_
                    exact ih_22 q106.2 x94 x94 hf _ _ _ hP hS (lv_sub hl [3, 4, 0, 1] rfl)
        · have hf := ite_t c_40 hf
          obtain ⟨x43, e_x43⟩ : ∃ y : Int32, y = v3 + (-1) := ⟨_, rfl⟩
          have hf := nm_q e_x43 hf
          refine lv_iinc (v := x43) (lv' := [(3, .int x43), (4, .int x32), (0, .ref (a0 0)), (1, .int v1), (2, .int v2)]) hx hb dX8_fewestAhead_43 hl (k := 4) rfl (by rw [e_x43]; rfl) (Nat.le_of_ble_eq_true rfl) rfl (fun ls hl => ?_)
          refine lv_iload_n hx hb dX8_fewestAhead_46 rfl (lv_at hl 0 rfl) ?_
          refine lv_if_lt (tgt := 136) hx hb dX8_fewestAhead_47 (by decide) (fun c_47 => ?_) (fun c_47 => ?_)
          · have hf := ite_t c_47 hf
            refine lv_goto (tgt := 22) hx hb dX8_fewestAhead_136 (by decide) ?_
            exact ih_22 s0 v2 x43 hf _ _ _ hP hS (lv_sub hl [2, 3, 4, 0] rfl)
          · have hf := ite_f c_47 hf
            refine lv_aload_n hx hb dX8_fewestAhead_50 rfl (lv_at hl 2 rfl) ?_
            refine lv_dup hx hb dX8_fewestAhead_51 rfl ?_
            refine va_get (ci := 8) (C := RX8) (T := TX8) (N := 67) (v := .int (s0 1 0)) hx hb hts i_X8_fewestAhead_X8 hown hK hP 0 rfl rfl 1 (by decide) (hts _ m_X8_fewestAhead_92e5f7) (fun _ h9 => h9) rfl dX8_fewestAhead_52 ?_
            refine lv_iconst (v := 1) hx hb dX8_fewestAhead_55 (by decide) ?_
            refine lv_isub hx hb dX8_fewestAhead_56 ?_
            refine va_put (ci := 8) (v := .int ((s0 1 0) - 1)) (ty := .int) (C := RX8) (T := TX8) (N := 67) hx hb hts i_X8_fewestAhead_X8 tyX8 tyX8_ok nmX8 hown hK hP (hDD s0 t0) hS 0 rfl rfl 1 (by decide) (hts _ m_X8_fewestAhead_92e5f7) (fun _ h9 => h9) rfl (by decide +kernel) rfl rfl (Nat.le_of_ble_eq_true rfl) dX8_fewestAhead_57 (fun H locs hP _ hS => ?_)
            obtain ⟨s0_57, hP, hf⟩ := nm_st' (P := fun z => va_P E.1 vwCl (wX8 E a0 z t0) H) hf hP
            refine lv_aload_n hx hb dX8_fewestAhead_60 rfl (lv_at hl 2 rfl) ?_
            refine va_get (ci := 8) (C := RX8) (T := TX8) (N := 67) (v := .ref (a0 17)) hx hb hts i_X8_fewestAhead_X8 hown hK hP 0 rfl rfl 29 (by decide) (hts _ m_X8_fewestAhead_0b849a) (fun _ h9 => h9) rfl dX8_fewestAhead_61 ?_
            refine lv_iload_n hx hb dX8_fewestAhead_64 rfl (lv_at hl 0 rfl) ?_
            refine lv_dup2_11 hx hb dX8_fewestAhead_65 rfl rfl ?_
            obtain ⟨h_66, hf⟩ := ck_e hf
            refine va_iald (cA := E.2.1) (n := 8) (f := s0_57 29) hx hb hK hP 17 0 rfl rfl h_66 dX8_fewestAhead_66 ?_
            refine lv_iconst (v := 1) hx hb dX8_fewestAhead_67 (by decide) ?_
            refine lv_iadd hx hb dX8_fewestAhead_68 ?_
            obtain ⟨h_69, hf⟩ := ck_e hf
            refine va_iast (cA := E.2.1) (n := 8) (f := s0_57 29) (x := (s0_57 29 x43.toNatClampNeg) + 1) hx hb hK hP (hDD s0_57 t0) hS 17 0 rfl rfl h_69 dX8_fewestAhead_69 (fun H locs hP _ hS => ?_)
            obtain ⟨s0_69, hP, hf⟩ := nm_st' (P := fun z => va_P E.1 vwCl (wX8 E a0 z t0) H) hf hP
            refine lv_goto (tgt := 136) hx hb dX8_fewestAhead_70 (by decide) ?_
            refine lv_goto (tgt := 22) hx hb dX8_fewestAhead_136 (by decide) ?_
            exact ih_22 s0_69 v2 x43 hf _ _ _ hP hS (lv_sub hl [2, 3, 4, 0] rfl)
  refine lv_bipush (v := (-5)) hx hb dX8_fewestAhead_0 (by decide) ?_
  refine lv_topi (fun x2 e_x2 => ?_)
  have hf := nm_q e_x2 hf
  refine lv_istore_n (lv' := [(2, .int x2), (0, .ref (a0 0)), (1, .int p1)]) hx hb dX8_fewestAhead_2 rfl hl (Nat.le_of_ble_eq_true rfl) rfl (fun ls hl => ?_)
  refine lv_iconst (v := 0) hx hb dX8_fewestAhead_3 (by decide) ?_
  refine lv_istore_n (lv' := [(3, .int 0), (2, .int x2), (0, .ref (a0 0)), (1, .int p1)]) hx hb dX8_fewestAhead_4 rfl hl (Nat.le_of_ble_eq_true rfl) rfl (fun ls hl => ?_)
  refine lv_aload_n hx hb dX8_fewestAhead_5 rfl (lv_at hl 2 rfl) ?_
  refine va_get (ci := 8) (C := RX8) (T := TX8) (N := 67) (v := .ref (a0 17)) hx hb hts i_X8_fewestAhead_X8 hown hK hP 0 rfl rfl 29 (by decide) (hts _ m_X8_fewestAhead_0b849a) (fun _ h9 => h9) rfl dX8_fewestAhead_6 ?_
  refine lv_iconst (v := 0) hx hb dX8_fewestAhead_9 (by decide) ?_
  refine lv_iconst (v := 0) hx hb dX8_fewestAhead_10 (by decide) ?_
  obtain ⟨h_11, hf⟩ := ck_e hf
  refine va_iast (cA := E.2.1) (n := 8) (f := s0 29) (x := 0) hx hb hK hP (hDD s0 t0) hS 17 0 rfl rfl h_11 dX8_fewestAhead_11 (fun H locs hP _ hS => ?_)
  obtain ⟨s0_11, hP, hf⟩ := nm_st' (P := fun z => va_P E.1 vwCl (wX8 E a0 z t0) H) hf hP
  refine lv_aload_n hx hb dX8_fewestAhead_12 rfl (lv_at hl 2 rfl) ?_
  refine lv_iload_n hx hb dX8_fewestAhead_13 rfl (lv_at hl 3 rfl) ?_
  obtain ⟨q14, hc_14, hf⟩ := cl_e hf
  refine fin_i (E := E) (wc := wX8 E a0 s0_11 t0) (wc' := wX8 E a0 q14.2 t0) (va_runV (As := [.int p1]) (rest := []) ⟨hx, hb, hml, hown, hts⟩ (k_X8_goes l E a0 N s0_11 t0 p1 q14 hc_14 _) (cwV 1 hts gX8_fewestAhead_X8_goes rfl rfl rfl (by decide +kernel) ⟨(Nat.le_of_ble_eq_true rfl), (Nat.le_of_ble_eq_true rfl)⟩) (pre_v (ci := 8) (q0 := 0) hK hP (hDD s0_11 t0) hS hG hAB rfl rfl) rfl rfl hl.1 rfl (lv_room (Nat.le_of_ble_eq_true rfl)) dX8_fewestAhead_14 ⟨Nat.zero_le _, Nat.zero_le _⟩) hS (w_free (hDD s0_11 t0) hS hA (fun _ h => h)) (fun H locs hP1 hk hS => ?_)
  have hP := hP1
  refine lv_if_eq (tgt := 22) hx hb dX8_fewestAhead_17 (by decide) (fun c_17 => ?_) (fun c_17 => ?_)
  · have hf := ite_t c_17 hf
    exact hL_22 p1 N q14.2 x2 0 hf _ _ _ hP hS (lv_sub hl [2, 3, 1, 0] rfl)
  · have hf := ite_f c_17 hf
    refine lv_iconst (v := 0) hx hb dX8_fewestAhead_20 (by decide) ?_
    have e9 := Option.some.inj hf
    exact rt_i hx hb hr hlocks (fst_e e9) (rtP (P := fun z => va_P E.1 vwCl (wX8 E a0 z.2 t0) H) e9 hP) hS dX8_fewestAhead_21
abbrev rm_X8_most : Room := { frames := 9, cells := 0, slots := 0, locals := 205 }
theorem m_X8_most_99d0c5 : Cond.fieldLink RX8 102 "PickedMatchModel" "bestRow" "[I" ∈ wsX8_most := by decide +kernel
theorem i_X8_most_X8 : ∀ w ∈ wsX80, w ∈ wsX8_most := fun _ h => List.mem_cons_of_mem _ (List.mem_append_right _ h)
set_option maxHeartbeats 8000000 in
set_option maxRecDepth 100000 in
theorem k_X8_most (l : Launch) (E : Ev) (a0 : Nat → Nat) (N : Nat) (s0 : St) (t0 : Nat → Nat → Int64) (p1 : Int32) (q : (Int32 × St)) (hf : f_X8_most N s0 p1 = some q) : Ci l yX8_most wsX8_most rm_X8_most E [.ref (a0 0), .int p1] (wX8 E a0 s0 t0) (wX8 E a0 q.2 t0) q.1 := by
  unfold f_X8_most at hf
  intro sz
  refine Met.ofW (cc := cX8_most) (maxL := 3) (ret := (some .int)) (by decide) rfl ?_
  intro p e s m args below meth c s₁ B hml hv
  obtain ⟨rfl, hsz, hP, hK, hD0, hG, hA, hAB⟩ := start hv
  have hx := B.exec
  have hb := B.bytes
  have hr := B.returns
  have hts := atoms_spec (ws := wsX8_most) B.pre
  have hown : s.vm.findClass RX8 = some m.cls := findClass_of_methodNamed B.named
  have hlocks := B.notSynchronized
  subst hsz
  generalize va_A (wX8 E a0 s0 t0) s.heap.size = A0 at hD0 hA hAB ⊢
  have hDD : ∀ (s0 : St) (t0 : Nat → Nat → Int64), va_D A0 (wX8 E a0 s0 t0) := fun s0 t0 => vD_addr hD0 rfl
  have hS : va_S A0 s.heap s.heap [] := va_S.rf
  have hl := lv_entry ([.ref (a0 0), .int p1]) (n := 3) (Nat.le_of_ble_eq_true rfl)
  rw [lg_entry_eq]
  generalize (lg_sl ([.ref (a0 0), .int p1]) ++ List.replicate (3 - (lg_sl ([.ref (a0 0), .int p1])).length) Slot.unset).toArray = ls at hl ⊢
  have hl : lv_has ls 3 [(0, .ref (a0 0)), (1, .int p1)] := hl
  refine lv_aload_n hx hb dX8_most_0 rfl (lv_at hl 0 rfl) ?_
  refine lv_iload_n hx hb dX8_most_1 rfl (lv_at hl 1 rfl) ?_
  refine lv_iconst (v := (-1)) hx hb dX8_most_2 (by decide) ?_
  refine lv_iconst (v := 5) hx hb dX8_most_3 (by decide) ?_
  obtain ⟨q4, hc_4, hf⟩ := cl_e hf
  refine fin_i (E := E) (wc := wX8 E a0 s0 t0) (wc' := wX8 E a0 s0 t0) (va_runV (As := [.int p1, .int (-1), .int 5]) (rest := []) ⟨hx, hb, hml, hown, hts⟩ (k_X8_in l E a0 N s0 t0 p1 (-1) 5 q4 hc_4 _) (cwV 3 hts gX8_most_X8_in rfl rfl rfl (by decide +kernel) ⟨(Nat.le_of_ble_eq_true rfl), (Nat.le_of_ble_eq_true rfl)⟩) (pre_v (ci := 8) (q0 := 0) hK hP (hDD s0 t0) hS hG hAB rfl rfl) rfl rfl hl.1 rfl (lv_room (Nat.le_of_ble_eq_true rfl)) dX8_most_4 ⟨Nat.zero_le _, Nat.zero_le _⟩) hS (w_free (hDD s0 t0) hS hA (fun _ h => h)) (fun H locs hP1 hk hS => ?_)
  have hP := hP1
  refine lv_if_ne (tgt := 12) hx hb dX8_most_7 (by decide) (fun c_7 => ?_) (fun c_7 => ?_)
  · have hf := ite_f c_7 hf
    refine lv_aload_n hx hb dX8_most_12 rfl (lv_at hl 0 rfl) ?_
    obtain ⟨q13, hc_13, hf⟩ := cl_e hf
    refine fin_i (E := E) (wc := wX8 E a0 s0 t0) (wc' := wX8 E a0 q13.2 t0) (va_runV (As := []) (rest := []) ⟨hx, hb, hml, hown, hts⟩ (k_X8_mostNow l E a0 N s0 t0 q13 hc_13 _) (cwV 0 hts gX8_most_X8_mostNow rfl rfl rfl (by decide +kernel) ⟨(Nat.le_of_ble_eq_true rfl), (Nat.le_of_ble_eq_true rfl)⟩) (pre_v (ci := 8) (q0 := 0) hK hP (hDD s0 t0) hS hG hAB rfl rfl) rfl rfl hl.1 rfl (lv_room (Nat.le_of_ble_eq_true rfl)) dX8_most_13 ⟨Nat.zero_le _, Nat.zero_le _⟩) hS (w_free (hDD s0 t0) hS hA (fun _ h => h)) (fun H locs hP1 hk hS => ?_)
    have hP := hP1
    refine lv_topi (fun x16 e_x16 => ?_)
    have hf := nm_q e_x16 hf
    refine lv_istore_n (lv' := [(2, .int x16), (0, .ref (a0 0)), (1, .int p1)]) hx hb dX8_most_16 rfl hl (Nat.le_of_ble_eq_true rfl) rfl (fun ls hl => ?_)
    refine lv_iload_n hx hb dX8_most_17 rfl (lv_at hl 2 rfl) ?_
    refine lv_if_ge (tgt := 25) hx hb dX8_most_18 (by decide) (fun c_18 => ?_) (fun c_18 => ?_)
    · have hf := ite_t c_18 hf
      refine lv_iload_n hx hb dX8_most_25 rfl (lv_at hl 2 rfl) ?_
      refine lv_iload_n hx hb dX8_most_26 rfl (lv_at hl 0 rfl) ?_
      refine lv_icmp_ge (tgt := 39) hx hb dX8_most_27 (by decide) (fun c_27 => ?_) (fun c_27 => ?_)
      · have hf := ite_t c_27 hf
        refine lv_bipush (v := (-5)) hx hb dX8_most_39 (by decide) ?_
        have e9 := Option.some.inj hf
        exact rt_i hx hb hr hlocks (fst_e e9) (rtP (P := fun z => va_P E.1 vwCl (wX8 E a0 z.2 t0) H) e9 hP) hS dX8_most_41
      · have hf := ite_f c_27 hf
        refine lv_aload_n hx hb dX8_most_30 rfl (lv_at hl 1 rfl) ?_
        refine va_get (ci := 8) (C := RX8) (T := TX8) (N := 67) (v := .ref (a0 18)) hx hb hts i_X8_most_X8 hown hK hP 0 rfl rfl 30 (by decide) (hts _ m_X8_most_99d0c5) (fun _ h9 => h9) rfl dX8_most_31 ?_
        refine lv_iload_n hx hb dX8_most_34 rfl (lv_at hl 2 rfl) ?_
        obtain ⟨h_35, hf⟩ := ck_e hf
        refine va_iald (cA := E.2.1) (n := 6) (f := q13.2 30) hx hb hK hP 18 0 rfl rfl h_35 dX8_most_35 ?_
        refine lv_goto (tgt := 41) hx hb dX8_most_36 (by decide) ?_
        have e9 := Option.some.inj hf
        exact rt_i hx hb hr hlocks (fst_e e9) (rtP (P := fun z => va_P E.1 vwCl (wX8 E a0 z.2 t0) H) e9 hP) hS dX8_most_41
    · have hf := ite_f c_18 hf
      refine lv_iload_n hx hb dX8_most_21 rfl (lv_at hl 0 rfl) ?_
      refine lv_goto (tgt := 41) hx hb dX8_most_22 (by decide) ?_
      have e9 := Option.some.inj hf
      exact rt_i hx hb hr hlocks (fst_e e9) (rtP (P := fun z => va_P E.1 vwCl (wX8 E a0 z.2 t0) H) e9 hP) hS dX8_most_41
  · have hf := ite_t c_7 hf
    refine lv_iconst (v := (-1)) hx hb dX8_most_10 (by decide) ?_
    have e9 := Option.some.inj hf
    exact rt_i hx hb hr hlocks (fst_e e9) (rtP (P := fun z => va_P E.1 vwCl (wX8 E a0 z.2 t0) H) e9 hP) hS dX8_most_11
abbrev rm_X8_startOf : Room := { frames := 9, cells := 0, slots := 0, locals := 205 }
theorem m_X8_startOf_acbb5e : Cond.fieldLink RX8 7 "PickedMatchModel" "things" "I" ∈ wsX8_startOf := by decide +kernel
theorem i_X8_startOf_X8 : ∀ w ∈ wsX80, w ∈ wsX8_startOf := fun _ h => List.mem_cons_of_mem _ (List.mem_append_right _ h)
theorem m_X8_startOf_92e5f7 : Cond.fieldLink RX8 13 "PickedMatchModel" "had" "I" ∈ wsX8_startOf := by decide +kernel
set_option maxHeartbeats 8000000 in
set_option maxRecDepth 100000 in
theorem k_X8_startOf (l : Launch) (E : Ev) (a0 : Nat → Nat) (N : Nat) (s0 : St) (t0 : Nat → Nat → Int64) (q : (Int32 × St)) (hf : f_X8_startOf N s0 = some q) : Ci l yX8_startOf wsX8_startOf rm_X8_startOf E [.ref (a0 0)] (wX8 E a0 s0 t0) (wX8 E a0 q.2 t0) q.1 := by
  unfold f_X8_startOf at hf
  intro sz
  refine Met.ofW (cc := cX8_startOf) (maxL := 5) (ret := (some .int)) (by decide) rfl ?_
  intro p e s m args below meth c s₁ B hml hv
  obtain ⟨rfl, hsz, hP, hK, hD0, hG, hA, hAB⟩ := start hv
  have hx := B.exec
  have hb := B.bytes
  have hr := B.returns
  have hts := atoms_spec (ws := wsX8_startOf) B.pre
  have hown : s.vm.findClass RX8 = some m.cls := findClass_of_methodNamed B.named
  have hlocks := B.notSynchronized
  subst hsz
  generalize va_A (wX8 E a0 s0 t0) s.heap.size = A0 at hD0 hA hAB ⊢
  have hDD : ∀ (s0 : St) (t0 : Nat → Nat → Int64), va_D A0 (wX8 E a0 s0 t0) := fun s0 t0 => vD_addr hD0 rfl
  have hS : va_S A0 s.heap s.heap [] := va_S.rf
  have hl := lv_entry ([.ref (a0 0)]) (n := 5) (Nat.le_of_ble_eq_true rfl)
  rw [lg_entry_eq]
  generalize (lg_sl ([.ref (a0 0)]) ++ List.replicate (5 - (lg_sl ([.ref (a0 0)])).length) Slot.unset).toArray = ls at hl ⊢
  have hl : lv_has ls 5 [(0, .ref (a0 0))] := hl
  have hL_7 : ∀ (n_7 : Nat) (s0 : St) (v1 : Int32) (v2 : Int32) (v3 : Int32), l_X8_startOf_7 N n_7 s0 v1 v2 v3 = some q → ∀ (H : Heap) (locs : List Loc) (ls : Array Slot), va_P E.1 vwCl (wX8 E a0 s0 t0) H → va_S A0 s.heap H locs → lv_has ls 5 [(0, .ref (a0 0)), (1, .int v1), (2, .int v2), (3, .int v3)] → W p l e rm_X8_startOf s m ([.ref (a0 0)] : List Value).toArray below meth c H locs 0 0 (MQ below (va_Qi (fun (r' : Int32) (_ : Unit) => r' = q.1) (fun _ t => va_P E.1 vwCl (wX8 E a0 q.2 t0) t.heap) A0) ([.ref (a0 0)] : List Value).toArray s 0 0 A0) (F0 m 7 ls []) := by
    intro n_7
    induction n_7 with
    | zero => intro s0 v1 v2 v3 hf; rw [l_X8_startOf_7] at hf; cases hf
    | succ n_7 ih_7 =>
      intro s0 v1 v2 v3 hf H locs ls hP hS hl
      rw [l_X8_startOf_7] at hf
      refine lv_iload_n hx hb dX8_startOf_7 rfl (lv_at hl 3 rfl) ?_
      refine lv_aload_n hx hb dX8_startOf_8 rfl (lv_at hl 0 rfl) ?_
      refine va_get (ci := 8) (C := RX8) (T := TX8) (N := 67) (v := .int (s0 0 0)) hx hb hts i_X8_startOf_X8 hown hK hP 0 rfl rfl 0 (by decide) (hts _ m_X8_startOf_acbb5e) (fun _ h9 => h9) rfl dX8_startOf_9 ?_
      refine lv_icmp_ge (tgt := 71) hx hb dX8_startOf_12 (by decide) (fun c_12 => ?_) (fun c_12 => ?_)
      · have hf := ite_t c_12 hf
        refine lv_iload_n hx hb dX8_startOf_71 rfl (lv_at hl 1 rfl) ?_
        have e9 := Option.some.inj hf
        exact rt_i hx hb hr hlocks (fst_e e9) (rtP (P := fun z => va_P E.1 vwCl (wX8 E a0 z.2 t0) H) e9 hP) hS dX8_startOf_72
      · have hf := ite_f c_12 hf
        refine lv_aload_n hx hb dX8_startOf_15 rfl (lv_at hl 0 rfl) ?_
        refine lv_iload_n hx hb dX8_startOf_16 rfl (lv_at hl 3 rfl) ?_
        obtain ⟨q17, hc_17, hf⟩ := cl_e hf
        refine fin_i (E := E) (wc := wX8 E a0 s0 t0) (wc' := wX8 E a0 q17.2 t0) (va_runV (As := [.int v3]) (rest := []) ⟨hx, hb, hml, hown, hts⟩ (k_X8_goes l E a0 N s0 t0 v3 q17 hc_17 _) (cwV 1 hts gX8_startOf_X8_goes rfl rfl rfl (by decide +kernel) ⟨(Nat.le_of_ble_eq_true rfl), (Nat.le_of_ble_eq_true rfl)⟩) (pre_v (ci := 8) (q0 := 0) hK hP (hDD s0 t0) hS hG hAB rfl rfl) rfl rfl hl.1 rfl (lv_room (Nat.le_of_ble_eq_true rfl)) dX8_startOf_17 ⟨Nat.zero_le _, Nat.zero_le _⟩) hS (w_free (hDD s0 t0) hS hA (fun _ h => h)) (fun H locs hP1 hk hS => ?_)
        have hP := hP1
        refine lv_if_ne (tgt := 26) hx hb dX8_startOf_20 (by decide) (fun c_20 => ?_) (fun c_20 => ?_)
        · have hf := ite_f c_20 hf
          refine lv_aload_n hx hb dX8_startOf_26 rfl (lv_at hl 0 rfl) ?_
          refine lv_iload_n hx hb dX8_startOf_27 rfl (lv_at hl 3 rfl) ?_
          obtain ⟨q28, hc_28, hf⟩ := cl_e hf
          refine fin_v (E := E) (wc := wX8 E a0 q17.2 t0) (wc' := wX8 E a0 q28 t0) (va_runV (As := [.int v3]) (rest := []) ⟨hx, hb, hml, hown, hts⟩ (k_X8_pushes l E a0 N q17.2 t0 v3 q28 hc_28 _) (cwV 1 hts gX8_startOf_X8_pushes rfl rfl rfl (by decide +kernel) ⟨(Nat.le_of_ble_eq_true rfl), (Nat.le_of_ble_eq_true rfl)⟩) (pre_v (ci := 8) (q0 := 0) hK hP (hDD q17.2 t0) hS hG hAB rfl rfl) rfl rfl hl.1 rfl (lv_room (Nat.le_of_ble_eq_true rfl)) dX8_startOf_28 ⟨Nat.zero_le _, Nat.zero_le _⟩) hS (w_free (hDD q17.2 t0) hS hA (fun _ h => h)) (fun H locs hP1 hk hS => ?_)
          have hP := hP1
          refine lv_aload_n hx hb dX8_startOf_31 rfl (lv_at hl 0 rfl) ?_
          obtain ⟨q32, hc_32, hf⟩ := cl_e hf
          refine fin_i (E := E) (wc := wX8 E a0 q28 t0) (wc' := wX8 E a0 q32.2 t0) (va_runV (As := []) (rest := []) ⟨hx, hb, hml, hown, hts⟩ (k_X8_mostNow l E a0 N q28 t0 q32 hc_32 _) (cwV 0 hts gX8_startOf_X8_mostNow rfl rfl rfl (by decide +kernel) ⟨(Nat.le_of_ble_eq_true rfl), (Nat.le_of_ble_eq_true rfl)⟩) (pre_v (ci := 8) (q0 := 0) hK hP (hDD q28 t0) hS hG hAB rfl rfl) rfl rfl hl.1 rfl (lv_room (Nat.le_of_ble_eq_true rfl)) dX8_startOf_32 ⟨Nat.zero_le _, Nat.zero_le _⟩) hS (w_free (hDD q28 t0) hS hA (fun _ h => h)) (fun H locs hP1 hk hS => ?_)
          have hP := hP1
          refine lv_topi (fun x35 e_x35 => ?_)
          have hf := nm_q e_x35 hf
          refine lv_istore (lv' := [(4, .int x35), (0, .ref (a0 0)), (1, .int v1), (2, .int v2), (3, .int v3)]) hx hb dX8_startOf_35 hl (Nat.le_of_ble_eq_true rfl) rfl (fun ls hl => ?_)
          refine lv_aload_n hx hb dX8_startOf_37 rfl (lv_at hl 1 rfl) ?_
          refine lv_dup hx hb dX8_startOf_38 rfl ?_
          refine va_get (ci := 8) (C := RX8) (T := TX8) (N := 67) (v := .int (q32.2 1 0)) hx hb hts i_X8_startOf_X8 hown hK hP 0 rfl rfl 1 (by decide) (hts _ m_X8_startOf_92e5f7) (fun _ h9 => h9) rfl dX8_startOf_39 ?_
          refine lv_iconst (v := 1) hx hb dX8_startOf_42 (by decide) ?_
          refine lv_isub hx hb dX8_startOf_43 ?_
          refine va_put (ci := 8) (v := .int ((q32.2 1 0) - 1)) (ty := .int) (C := RX8) (T := TX8) (N := 67) hx hb hts i_X8_startOf_X8 tyX8 tyX8_ok nmX8 hown hK hP (hDD q32.2 t0) hS 0 rfl rfl 1 (by decide) (hts _ m_X8_startOf_92e5f7) (fun _ h9 => h9) rfl (by decide +kernel) rfl rfl (Nat.le_of_ble_eq_true rfl) dX8_startOf_44 (fun H locs hP _ hS => ?_)
          obtain ⟨s0_44, hP, hf⟩ := nm_st' (P := fun z => va_P E.1 vwCl (wX8 E a0 z t0) H) hf hP
          refine lv_iload_n hx hb dX8_startOf_47 rfl (lv_at hl 2 rfl) ?_
          refine lv_if_lt (tgt := 60) hx hb dX8_startOf_48 (by decide) (fun c_48 => ?_) (fun c_48 => ?_)
          · have hf := ite_t c_48 hf
            refine lv_iload_n hx hb dX8_startOf_60 rfl (lv_at hl 4 rfl) ?_
            refine lv_istore_n (lv' := [(1, .int v3), (4, .int x35), (0, .ref (a0 0)), (2, .int v2), (3, .int v3)]) hx hb dX8_startOf_61 rfl hl (Nat.le_of_ble_eq_true rfl) rfl (fun ls hl => ?_)
            refine lv_iload hx hb dX8_startOf_62 (lv_at hl 1 rfl) ?_
            refine lv_istore_n (lv' := [(2, .int x35), (1, .int v3), (4, .int x35), (0, .ref (a0 0)), (3, .int v3)]) hx hb dX8_startOf_64 rfl hl (Nat.le_of_ble_eq_true rfl) rfl (fun ls hl => ?_)
            obtain ⟨x65, e_x65⟩ : ∃ y : Int32, y = v3 + 1 := ⟨_, rfl⟩
            have hf := nm_q e_x65 hf
            refine lv_iinc (v := x65) (lv' := [(3, .int x65), (2, .int x35), (1, .int v3), (4, .int x35), (0, .ref (a0 0))]) hx hb dX8_startOf_65 hl (k := 4) rfl (by rw [e_x65]; rfl) (Nat.le_of_ble_eq_true rfl) rfl (fun ls hl => ?_)
            refine lv_goto (tgt := 7) hx hb dX8_startOf_68 (by decide) ?_
            exact ih_7 s0_44 v3 x35 x65 hf _ _ _ hP hS (lv_sub hl [4, 2, 1, 0] rfl)
          · have hf := ite_f c_48 hf
            refine lv_iload hx hb dX8_startOf_51 (lv_at hl 0 rfl) ?_
            refine lv_iload_n hx hb dX8_startOf_53 rfl (lv_at hl 3 rfl) ?_
            refine lv_icmp_gt (tgt := 60) hx hb dX8_startOf_54 (by decide) (fun c_54 => ?_) (fun c_54 => ?_)
            · have hf := ite_t c_54 hf
              refine lv_iload_n hx hb dX8_startOf_60 rfl (lv_at hl 4 rfl) ?_
              refine lv_istore_n (lv' := [(1, .int v3), (4, .int x35), (0, .ref (a0 0)), (2, .int v2), (3, .int v3)]) hx hb dX8_startOf_61 rfl hl (Nat.le_of_ble_eq_true rfl) rfl (fun ls hl => ?_)
              refine lv_iload hx hb dX8_startOf_62 (lv_at hl 1 rfl) ?_
              refine lv_istore_n (lv' := [(2, .int x35), (1, .int v3), (4, .int x35), (0, .ref (a0 0)), (3, .int v3)]) hx hb dX8_startOf_64 rfl hl (Nat.le_of_ble_eq_true rfl) rfl (fun ls hl => ?_)
              obtain ⟨x65, e_x65⟩ : ∃ y : Int32, y = v3 + 1 := ⟨_, rfl⟩
              have hf := nm_q e_x65 hf
              refine lv_iinc (v := x65) (lv' := [(3, .int x65), (2, .int x35), (1, .int v3), (4, .int x35), (0, .ref (a0 0))]) hx hb dX8_startOf_65 hl (k := 4) rfl (by rw [e_x65]; rfl) (Nat.le_of_ble_eq_true rfl) rfl (fun ls hl => ?_)
              refine lv_goto (tgt := 7) hx hb dX8_startOf_68 (by decide) ?_
              exact ih_7 s0_44 v3 x35 x65 hf _ _ _ hP hS (lv_sub hl [4, 2, 1, 0] rfl)
            · have hf := ite_f c_54 hf
              refine lv_goto (tgt := 65) hx hb dX8_startOf_57 (by decide) ?_
              obtain ⟨x65, e_x65⟩ : ∃ y : Int32, y = v3 + 1 := ⟨_, rfl⟩
              have hf := nm_q e_x65 hf
              refine lv_iinc (v := x65) (lv' := [(3, .int x65), (4, .int x35), (0, .ref (a0 0)), (1, .int v1), (2, .int v2)]) hx hb dX8_startOf_65 hl (k := 4) rfl (by rw [e_x65]; rfl) (Nat.le_of_ble_eq_true rfl) rfl (fun ls hl => ?_)
              refine lv_goto (tgt := 7) hx hb dX8_startOf_68 (by decide) ?_
              exact ih_7 s0_44 v1 v2 x65 hf _ _ _ hP hS (lv_sub hl [2, 3, 4, 0] rfl)
        · have hf := ite_t c_20 hf
          refine lv_goto (tgt := 65) hx hb dX8_startOf_23 (by decide) ?_
          obtain ⟨x65, e_x65⟩ : ∃ y : Int32, y = v3 + 1 := ⟨_, rfl⟩
          have hf := nm_q e_x65 hf
          refine lv_iinc (v := x65) (lv' := [(3, .int x65), (0, .ref (a0 0)), (1, .int v1), (2, .int v2)]) hx hb dX8_startOf_65 hl (k := 3) rfl (by rw [e_x65]; rfl) (Nat.le_of_ble_eq_true rfl) rfl (fun ls hl => ?_)
          refine lv_goto (tgt := 7) hx hb dX8_startOf_68 (by decide) ?_
          exact ih_7 q17.2 v1 v2 x65 hf _ _ _ hP hS (lv_sub hl [1, 2, 3, 0] rfl)
  refine lv_bipush (v := (-5)) hx hb dX8_startOf_0 (by decide) ?_
  refine lv_topi (fun x2 e_x2 => ?_)
  have hf := nm_q e_x2 hf
  refine lv_istore_n (lv' := [(1, .int x2), (0, .ref (a0 0))]) hx hb dX8_startOf_2 rfl hl (Nat.le_of_ble_eq_true rfl) rfl (fun ls hl => ?_)
  refine lv_iconst (v := 0) hx hb dX8_startOf_3 (by decide) ?_
  refine lv_istore_n (lv' := [(2, .int 0), (1, .int x2), (0, .ref (a0 0))]) hx hb dX8_startOf_4 rfl hl (Nat.le_of_ble_eq_true rfl) rfl (fun ls hl => ?_)
  refine lv_iconst (v := 0) hx hb dX8_startOf_5 (by decide) ?_
  refine lv_istore_n (lv' := [(3, .int 0), (2, .int 0), (1, .int x2), (0, .ref (a0 0))]) hx hb dX8_startOf_6 rfl hl (Nat.le_of_ble_eq_true rfl) rfl (fun ls hl => ?_)
  exact hL_7 N s0 x2 0 0 hf _ _ _ hP hS (lv_sub hl [3, 2, 1, 0] rfl)
abbrev rm_X8_putsBack : Room := { frames := 0, cells := 0, slots := 0, locals := 0 }
theorem m_X8_putsBack_92e5f7 : Cond.fieldLink RX8 13 "PickedMatchModel" "had" "I" ∈ wsX8_putsBack := by decide +kernel
theorem i_X8_putsBack_X8 : ∀ w ∈ wsX80, w ∈ wsX8_putsBack := fun _ h => List.mem_cons_of_mem _ (List.mem_append_right _ h)
theorem m_X8_putsBack_ef0124 : Cond.fieldLink RX8 32 "PickedMatchModel" "hadOf" "[I" ∈ wsX8_putsBack := by decide +kernel
set_option maxHeartbeats 8000000 in
set_option maxRecDepth 100000 in
theorem k_X8_putsBack (l : Launch) (E : Ev) (a0 : Nat → Nat) (N : Nat) (s0 : St) (t0 : Nat → Nat → Int64) (p1 : Int32) (q : (St)) (hf : f_X8_putsBack N s0 p1 = some q) : Cv l yX8_putsBack wsX8_putsBack rm_X8_putsBack E [.ref (a0 0), .int p1] (wX8 E a0 s0 t0) (wX8 E a0 q t0) := by
  unfold f_X8_putsBack at hf
  intro sz
  refine Met.ofW (cc := cX8_putsBack) (maxL := 4) (ret := none) (by decide) rfl ?_
  intro p e s m args below meth c s₁ B hml hv
  obtain ⟨rfl, hsz, hP, hK, hD0, hG, hA, hAB⟩ := start hv
  have hx := B.exec
  have hb := B.bytes
  have hr := B.returns
  have hts := atoms_spec (ws := wsX8_putsBack) B.pre
  have hown : s.vm.findClass RX8 = some m.cls := findClass_of_methodNamed B.named
  have hlocks := B.notSynchronized
  subst hsz
  generalize va_A (wX8 E a0 s0 t0) s.heap.size = A0 at hD0 hA hAB ⊢
  have hDD : ∀ (s0 : St) (t0 : Nat → Nat → Int64), va_D A0 (wX8 E a0 s0 t0) := fun s0 t0 => vD_addr hD0 rfl
  have hS : va_S A0 s.heap s.heap [] := va_S.rf
  have hl := lv_entry ([.ref (a0 0), .int p1]) (n := 4) (Nat.le_of_ble_eq_true rfl)
  rw [lg_entry_eq]
  generalize (lg_sl ([.ref (a0 0), .int p1]) ++ List.replicate (4 - (lg_sl ([.ref (a0 0), .int p1])).length) Slot.unset).toArray = ls at hl ⊢
  have hl : lv_has ls 4 [(0, .ref (a0 0)), (1, .int p1)] := hl
  have hL_4 : ∀ (v1 : Int32) (n_4 : Nat) (s0 : St) (v2 : Int32) (v3 : Int32), l_X8_putsBack_4 N v1 n_4 s0 v2 v3 = some q → ∀ (H : Heap) (locs : List Loc) (ls : Array Slot), va_P E.1 vwCl (wX8 E a0 s0 t0) H → va_S A0 s.heap H locs → lv_has ls 4 [(0, .ref (a0 0)), (1, .int v1), (2, .int v2), (3, .int v3)] → W p l e rm_X8_putsBack s m ([.ref (a0 0), .int p1] : List Value).toArray below meth c H locs 0 0 (MQ below (va_Qv (fun (_ : Unit) => True) (fun _ t => va_P E.1 vwCl (wX8 E a0 q t0) t.heap) A0) ([.ref (a0 0), .int p1] : List Value).toArray s 0 0 A0) (F0 m 4 ls []) := by
    intro v1 n_4
    induction n_4 with
    | zero => intro s0 v2 v3 hf; rw [l_X8_putsBack_4] at hf; cases hf
    | succ n_4 ih_4 =>
      intro s0 v2 v3 hf H locs ls hP hS hl
      rw [l_X8_putsBack_4] at hf
      refine lv_iload_n hx hb dX8_putsBack_4 rfl (lv_at hl 3 rfl) ?_
      refine lv_aload_n hx hb dX8_putsBack_5 rfl (lv_at hl 0 rfl) ?_
      refine va_get (ci := 8) (C := RX8) (T := TX8) (N := 67) (v := .int (s0 1 0)) hx hb hts i_X8_putsBack_X8 hown hK hP 0 rfl rfl 1 (by decide) (hts _ m_X8_putsBack_92e5f7) (fun _ h9 => h9) rfl dX8_putsBack_6 ?_
      refine lv_icmp_ge (tgt := 46) hx hb dX8_putsBack_9 (by decide) (fun c_9 => ?_) (fun c_9 => ?_)
      · have hf := ite_t c_9 hf
        refine lv_aload_n hx hb dX8_putsBack_46 rfl (lv_at hl 0 rfl) ?_
        refine lv_iload_n hx hb dX8_putsBack_47 rfl (lv_at hl 2 rfl) ?_
        refine va_put (ci := 8) (v := .int v2) (ty := .int) (C := RX8) (T := TX8) (N := 67) hx hb hts i_X8_putsBack_X8 tyX8 tyX8_ok nmX8 hown hK hP (hDD s0 t0) hS 0 rfl rfl 1 (by decide) (hts _ m_X8_putsBack_92e5f7) (fun _ h9 => h9) rfl (by decide +kernel) rfl rfl (Nat.le_of_ble_eq_true rfl) dX8_putsBack_48 (fun H locs hP _ hS => ?_)
        obtain ⟨s0_48, hP, hf⟩ := nm_st' (P := fun z => va_P E.1 vwCl (wX8 E a0 z t0) H) hf hP
        have e9 := Option.some.inj hf
        exact rt_v hx hb hr hlocks (rtP (P := fun z => va_P E.1 vwCl (wX8 E a0 z t0) H) e9 hP) hS dX8_putsBack_51
      · have hf := ite_f c_9 hf
        refine lv_aload_n hx hb dX8_putsBack_12 rfl (lv_at hl 0 rfl) ?_
        refine va_get (ci := 8) (C := RX8) (T := TX8) (N := 67) (v := .ref (a0 5)) hx hb hts i_X8_putsBack_X8 hown hK hP 0 rfl rfl 7 (by decide) (hts _ m_X8_putsBack_ef0124) (fun _ h9 => h9) rfl dX8_putsBack_13 ?_
        refine lv_iload_n hx hb dX8_putsBack_16 rfl (lv_at hl 3 rfl) ?_
        obtain ⟨h_17, hf⟩ := ck_e hf
        refine va_iald (cA := E.2.1) (n := 6) (f := s0 7) hx hb hK hP 5 0 rfl rfl h_17 dX8_putsBack_17 ?_
        refine lv_iload_n hx hb dX8_putsBack_18 rfl (lv_at hl 1 rfl) ?_
        refine lv_icmp_ne (tgt := 25) hx hb dX8_putsBack_19 (by decide) (fun c_19 => ?_) (fun c_19 => ?_)
        · have hf := ite_f c_19 hf
          refine lv_aload_n hx hb dX8_putsBack_25 rfl (lv_at hl 0 rfl) ?_
          refine va_get (ci := 8) (C := RX8) (T := TX8) (N := 67) (v := .ref (a0 5)) hx hb hts i_X8_putsBack_X8 hown hK hP 0 rfl rfl 7 (by decide) (hts _ m_X8_putsBack_ef0124) (fun _ h9 => h9) rfl dX8_putsBack_26 ?_
          refine lv_iload_n hx hb dX8_putsBack_29 rfl (lv_at hl 2 rfl) ?_
          refine lv_aload_n hx hb dX8_putsBack_30 rfl (lv_at hl 0 rfl) ?_
          refine va_get (ci := 8) (C := RX8) (T := TX8) (N := 67) (v := .ref (a0 5)) hx hb hts i_X8_putsBack_X8 hown hK hP 0 rfl rfl 7 (by decide) (hts _ m_X8_putsBack_ef0124) (fun _ h9 => h9) rfl dX8_putsBack_31 ?_
          refine lv_iload_n hx hb dX8_putsBack_34 rfl (lv_at hl 3 rfl) ?_
          obtain ⟨h_35, hf⟩ := ck_e hf
          refine va_iald (cA := E.2.1) (n := 6) (f := s0 7) hx hb hK hP 5 0 rfl rfl h_35 dX8_putsBack_35 ?_
          obtain ⟨h_36, hf⟩ := ck_e hf
          refine va_iast (cA := E.2.1) (n := 6) (f := s0 7) (x := s0 7 v3.toNatClampNeg) hx hb hK hP (hDD s0 t0) hS 5 0 rfl rfl h_36 dX8_putsBack_36 (fun H locs hP _ hS => ?_)
          obtain ⟨s0_36, hP, hf⟩ := nm_st' (P := fun z => va_P E.1 vwCl (wX8 E a0 z t0) H) hf hP
          obtain ⟨x37, e_x37⟩ : ∃ y : Int32, y = v2 + 1 := ⟨_, rfl⟩
          have hf := nm_q e_x37 hf
          refine lv_iinc (v := x37) (lv' := [(2, .int x37), (0, .ref (a0 0)), (1, .int v1), (3, .int v3)]) hx hb dX8_putsBack_37 hl (k := 2) rfl (by rw [e_x37]; rfl) (Nat.le_of_ble_eq_true rfl) rfl (fun ls hl => ?_)
          obtain ⟨x40, e_x40⟩ : ∃ y : Int32, y = v3 + 1 := ⟨_, rfl⟩
          have hf := nm_q e_x40 hf
          refine lv_iinc (v := x40) (lv' := [(3, .int x40), (2, .int x37), (0, .ref (a0 0)), (1, .int v1)]) hx hb dX8_putsBack_40 hl (k := 3) rfl (by rw [e_x40]; rfl) (Nat.le_of_ble_eq_true rfl) rfl (fun ls hl => ?_)
          refine lv_goto (tgt := 4) hx hb dX8_putsBack_43 (by decide) ?_
          exact ih_4 s0_36 x37 x40 hf _ _ _ hP hS (lv_sub hl [2, 3, 1, 0] rfl)
        · have hf := ite_t c_19 hf
          refine lv_goto (tgt := 40) hx hb dX8_putsBack_22 (by decide) ?_
          obtain ⟨x40, e_x40⟩ : ∃ y : Int32, y = v3 + 1 := ⟨_, rfl⟩
          have hf := nm_q e_x40 hf
          refine lv_iinc (v := x40) (lv' := [(3, .int x40), (0, .ref (a0 0)), (1, .int v1), (2, .int v2)]) hx hb dX8_putsBack_40 hl (k := 3) rfl (by rw [e_x40]; rfl) (Nat.le_of_ble_eq_true rfl) rfl (fun ls hl => ?_)
          refine lv_goto (tgt := 4) hx hb dX8_putsBack_43 (by decide) ?_
          exact ih_4 s0 v2 x40 hf _ _ _ hP hS (lv_sub hl [1, 2, 3, 0] rfl)
  refine lv_iconst (v := 0) hx hb dX8_putsBack_0 (by decide) ?_
  refine lv_istore_n (lv' := [(2, .int 0), (0, .ref (a0 0)), (1, .int p1)]) hx hb dX8_putsBack_1 rfl hl (Nat.le_of_ble_eq_true rfl) rfl (fun ls hl => ?_)
  refine lv_iconst (v := 0) hx hb dX8_putsBack_2 (by decide) ?_
  refine lv_istore_n (lv' := [(3, .int 0), (2, .int 0), (0, .ref (a0 0)), (1, .int p1)]) hx hb dX8_putsBack_3 rfl hl (Nat.le_of_ble_eq_true rfl) rfl (fun ls hl => ?_)
  exact hL_4 p1 N s0 0 0 hf _ _ _ hP hS (lv_sub hl [2, 3, 1, 0] rfl)
abbrev rm_X8_backOf : Room := { frames := 9, cells := 0, slots := 0, locals := 205 }
theorem m_X8_backOf_acbb5e : Cond.fieldLink RX8 7 "PickedMatchModel" "things" "I" ∈ wsX8_backOf := by decide +kernel
theorem i_X8_backOf_X8 : ∀ w ∈ wsX80, w ∈ wsX8_backOf := fun _ h => List.mem_cons_of_mem _ (List.mem_append_right _ h)
theorem m_X8_backOf_92e5f7 : Cond.fieldLink RX8 13 "PickedMatchModel" "had" "I" ∈ wsX8_backOf := by decide +kernel
set_option maxHeartbeats 8000000 in
set_option maxRecDepth 100000 in
theorem k_X8_backOf (l : Launch) (E : Ev) (a0 : Nat → Nat) (N : Nat) (s0 : St) (t0 : Nat → Nat → Int64) (q : (Int32 × St)) (hf : f_X8_backOf N s0 = some q) : Ci l yX8_backOf wsX8_backOf rm_X8_backOf E [.ref (a0 0)] (wX8 E a0 s0 t0) (wX8 E a0 q.2 t0) q.1 := by
  unfold f_X8_backOf at hf
  intro sz
  refine Met.ofW (cc := cX8_backOf) (maxL := 5) (ret := (some .int)) (by decide) rfl ?_
  intro p e s m args below meth c s₁ B hml hv
  obtain ⟨rfl, hsz, hP, hK, hD0, hG, hA, hAB⟩ := start hv
  have hx := B.exec
  have hb := B.bytes
  have hr := B.returns
  have hts := atoms_spec (ws := wsX8_backOf) B.pre
  have hown : s.vm.findClass RX8 = some m.cls := findClass_of_methodNamed B.named
  have hlocks := B.notSynchronized
  subst hsz
  generalize va_A (wX8 E a0 s0 t0) s.heap.size = A0 at hD0 hA hAB ⊢
  have hDD : ∀ (s0 : St) (t0 : Nat → Nat → Int64), va_D A0 (wX8 E a0 s0 t0) := fun s0 t0 => vD_addr hD0 rfl
  have hS : va_S A0 s.heap s.heap [] := va_S.rf
  have hl := lv_entry ([.ref (a0 0)]) (n := 5) (Nat.le_of_ble_eq_true rfl)
  rw [lg_entry_eq]
  generalize (lg_sl ([.ref (a0 0)]) ++ List.replicate (5 - (lg_sl ([.ref (a0 0)])).length) Slot.unset).toArray = ls at hl ⊢
  have hl : lv_has ls 5 [(0, .ref (a0 0))] := hl
  have hL_15 : ∀ (n_15 : Nat) (s0 : St) (v1 : Int32) (v2 : Int32) (v3 : Int32), l_X8_backOf_15 N n_15 s0 v1 v2 v3 = some q → ∀ (H : Heap) (locs : List Loc) (ls : Array Slot), va_P E.1 vwCl (wX8 E a0 s0 t0) H → va_S A0 s.heap H locs → lv_has ls 5 [(0, .ref (a0 0)), (1, .int v1), (2, .int v2), (3, .int v3)] → W p l e rm_X8_backOf s m ([.ref (a0 0)] : List Value).toArray below meth c H locs 0 0 (MQ below (va_Qi (fun (r' : Int32) (_ : Unit) => r' = q.1) (fun _ t => va_P E.1 vwCl (wX8 E a0 q.2 t0) t.heap) A0) ([.ref (a0 0)] : List Value).toArray s 0 0 A0) (F0 m 15 ls []) := by
    intro n_15
    induction n_15 with
    | zero => intro s0 v1 v2 v3 hf; rw [l_X8_backOf_15] at hf; cases hf
    | succ n_15 ih_15 =>
      intro s0 v1 v2 v3 hf H locs ls hP hS hl
      rw [l_X8_backOf_15] at hf
      refine lv_iload_n hx hb dX8_backOf_15 rfl (lv_at hl 3 rfl) ?_
      refine lv_aload_n hx hb dX8_backOf_16 rfl (lv_at hl 0 rfl) ?_
      refine va_get (ci := 8) (C := RX8) (T := TX8) (N := 67) (v := .int (s0 0 0)) hx hb hts i_X8_backOf_X8 hown hK hP 0 rfl rfl 0 (by decide) (hts _ m_X8_backOf_acbb5e) (fun _ h9 => h9) rfl dX8_backOf_17 ?_
      refine lv_icmp_ge (tgt := 78) hx hb dX8_backOf_20 (by decide) (fun c_20 => ?_) (fun c_20 => ?_)
      · have hf := ite_t c_20 hf
        refine lv_iload_n hx hb dX8_backOf_78 rfl (lv_at hl 1 rfl) ?_
        have e9 := Option.some.inj hf
        exact rt_i hx hb hr hlocks (fst_e e9) (rtP (P := fun z => va_P E.1 vwCl (wX8 E a0 z.2 t0) H) e9 hP) hS dX8_backOf_79
      · have hf := ite_f c_20 hf
        refine lv_aload_n hx hb dX8_backOf_23 rfl (lv_at hl 0 rfl) ?_
        refine lv_iload_n hx hb dX8_backOf_24 rfl (lv_at hl 3 rfl) ?_
        obtain ⟨q25, hc_25, hf⟩ := cl_e hf
        refine fin_i (E := E) (wc := wX8 E a0 s0 t0) (wc' := wX8 E a0 s0 t0) (va_runV (As := [.int v3]) (rest := []) ⟨hx, hb, hml, hown, hts⟩ (k_X8_isHad l E a0 N s0 t0 v3 q25 hc_25 _) (cwV 1 hts gX8_backOf_X8_isHad rfl rfl rfl (by decide +kernel) ⟨(Nat.le_of_ble_eq_true rfl), (Nat.le_of_ble_eq_true rfl)⟩) (pre_v (ci := 8) (q0 := 0) hK hP (hDD s0 t0) hS hG hAB rfl rfl) rfl rfl hl.1 rfl (lv_room (Nat.le_of_ble_eq_true rfl)) dX8_backOf_25 ⟨Nat.zero_le _, Nat.zero_le _⟩) hS (w_free (hDD s0 t0) hS hA (fun _ h => h)) (fun H locs hP1 hk hS => ?_)
        have hP := hP1
        refine lv_if_ne (tgt := 34) hx hb dX8_backOf_28 (by decide) (fun c_28 => ?_) (fun c_28 => ?_)
        · have hf := ite_f c_28 hf
          refine lv_aload_n hx hb dX8_backOf_34 rfl (lv_at hl 0 rfl) ?_
          obtain ⟨q35, hc_35, hf⟩ := cl_e hf
          refine fin_v (E := E) (wc := wX8 E a0 s0 t0) (wc' := wX8 E a0 q35 t0) (va_runV (As := []) (rest := []) ⟨hx, hb, hml, hown, hts⟩ (k_X8_save l E a0 N s0 t0 q35 hc_35 _) (cwV 0 hts gX8_backOf_X8_save rfl rfl rfl (by decide +kernel) ⟨(Nat.le_of_ble_eq_true rfl), (Nat.le_of_ble_eq_true rfl)⟩) (pre_v (ci := 8) (q0 := 0) hK hP (hDD s0 t0) hS hG hAB rfl rfl) rfl rfl hl.1 rfl (lv_room (Nat.le_of_ble_eq_true rfl)) dX8_backOf_35 ⟨Nat.zero_le _, Nat.zero_le _⟩) hS (w_free (hDD s0 t0) hS hA (fun _ h => h)) (fun H locs hP1 hk hS => ?_)
          have hP := hP1
          refine lv_aload_n hx hb dX8_backOf_38 rfl (lv_at hl 0 rfl) ?_
          refine lv_iload_n hx hb dX8_backOf_39 rfl (lv_at hl 3 rfl) ?_
          obtain ⟨q40, hc_40, hf⟩ := cl_e hf
          refine fin_v (E := E) (wc := wX8 E a0 q35 t0) (wc' := wX8 E a0 q40 t0) (va_runV (As := [.int v3]) (rest := []) ⟨hx, hb, hml, hown, hts⟩ (k_X8_putsBack l E a0 N q35 t0 v3 q40 hc_40 _) (cwV 1 hts gX8_backOf_X8_putsBack rfl rfl rfl (by decide +kernel) ⟨(Nat.le_of_ble_eq_true rfl), (Nat.le_of_ble_eq_true rfl)⟩) (pre_v (ci := 8) (q0 := 0) hK hP (hDD q35 t0) hS hG hAB rfl rfl) rfl rfl hl.1 rfl (lv_room (Nat.le_of_ble_eq_true rfl)) dX8_backOf_40 ⟨Nat.zero_le _, Nat.zero_le _⟩) hS (w_free (hDD q35 t0) hS hA (fun _ h => h)) (fun H locs hP1 hk hS => ?_)
          have hP := hP1
          refine lv_aload_n hx hb dX8_backOf_43 rfl (lv_at hl 0 rfl) ?_
          refine va_get (ci := 8) (C := RX8) (T := TX8) (N := 67) (v := .int (q40 1 0)) hx hb hts i_X8_backOf_X8 hown hK hP 0 rfl rfl 1 (by decide) (hts _ m_X8_backOf_92e5f7) (fun _ h9 => h9) rfl dX8_backOf_44 ?_
          refine lv_aload_n hx hb dX8_backOf_47 rfl (lv_at hl 0 rfl) ?_
          obtain ⟨q48, hc_48, hf⟩ := cl_e hf
          refine fin_i (E := E) (wc := wX8 E a0 q40 t0) (wc' := wX8 E a0 q48.2 t0) (va_runV (As := []) (rest := [.int (q40 1 0)]) ⟨hx, hb, hml, hown, hts⟩ (k_X8_mostNow l E a0 N q40 t0 q48 hc_48 _) (cwV 0 hts gX8_backOf_X8_mostNow rfl rfl rfl (by decide +kernel) ⟨(Nat.le_of_ble_eq_true rfl), (Nat.le_of_ble_eq_true rfl)⟩) (pre_v (ci := 8) (q0 := 0) hK hP (hDD q40 t0) hS hG hAB rfl rfl) rfl rfl hl.1 rfl (lv_room (Nat.le_of_ble_eq_true rfl)) dX8_backOf_48 ⟨Nat.zero_le _, Nat.zero_le _⟩) hS (w_free (hDD q40 t0) hS hA (fun _ h => h)) (fun H locs hP1 hk hS => ?_)
          have hP := hP1
          refine lv_iadd hx hb dX8_backOf_51 ?_
          refine lv_topi (fun x52 e_x52 => ?_)
          have hf := nm_q e_x52 hf
          refine lv_istore (lv' := [(4, .int x52), (0, .ref (a0 0)), (1, .int v1), (2, .int v2), (3, .int v3)]) hx hb dX8_backOf_52 hl (Nat.le_of_ble_eq_true rfl) rfl (fun ls hl => ?_)
          refine lv_aload_n hx hb dX8_backOf_54 rfl (lv_at hl 1 rfl) ?_
          obtain ⟨q55, hc_55, hf⟩ := cl_e hf
          refine fin_v (E := E) (wc := wX8 E a0 q48.2 t0) (wc' := wX8 E a0 q55 t0) (va_runV (As := []) (rest := []) ⟨hx, hb, hml, hown, hts⟩ (k_X8_putBack l E a0 N q48.2 t0 q55 hc_55 _) (cwV 0 hts gX8_backOf_X8_putBack rfl rfl rfl (by decide +kernel) ⟨(Nat.le_of_ble_eq_true rfl), (Nat.le_of_ble_eq_true rfl)⟩) (pre_v (ci := 8) (q0 := 0) hK hP (hDD q48.2 t0) hS hG hAB rfl rfl) rfl rfl hl.1 rfl (lv_room (Nat.le_of_ble_eq_true rfl)) dX8_backOf_55 ⟨Nat.zero_le _, Nat.zero_le _⟩) hS (w_free (hDD q48.2 t0) hS hA (fun _ h => h)) (fun H locs hP1 hk hS => ?_)
          have hP := hP1
          refine lv_iload hx hb dX8_backOf_58 (lv_at hl 0 rfl) ?_
          refine lv_iload_n hx hb dX8_backOf_60 rfl (lv_at hl 3 rfl) ?_
          refine lv_icmp_gt (tgt := 67) hx hb dX8_backOf_61 (by decide) (fun c_61 => ?_) (fun c_61 => ?_)
          · have hf := ite_t c_61 hf
            refine lv_iload_n hx hb dX8_backOf_67 rfl (lv_at hl 4 rfl) ?_
            refine lv_istore_n (lv' := [(1, .int v3), (4, .int x52), (0, .ref (a0 0)), (2, .int v2), (3, .int v3)]) hx hb dX8_backOf_68 rfl hl (Nat.le_of_ble_eq_true rfl) rfl (fun ls hl => ?_)
            refine lv_iload hx hb dX8_backOf_69 (lv_at hl 1 rfl) ?_
            refine lv_istore_n (lv' := [(2, .int x52), (1, .int v3), (4, .int x52), (0, .ref (a0 0)), (3, .int v3)]) hx hb dX8_backOf_71 rfl hl (Nat.le_of_ble_eq_true rfl) rfl (fun ls hl => ?_)
            obtain ⟨x72, e_x72⟩ : ∃ y : Int32, y = v3 + 1 := ⟨_, rfl⟩
            have hf := nm_q e_x72 hf
            refine lv_iinc (v := x72) (lv' := [(3, .int x72), (2, .int x52), (1, .int v3), (4, .int x52), (0, .ref (a0 0))]) hx hb dX8_backOf_72 hl (k := 4) rfl (by rw [e_x72]; rfl) (Nat.le_of_ble_eq_true rfl) rfl (fun ls hl => ?_)
            refine lv_goto (tgt := 15) hx hb dX8_backOf_75 (by decide) ?_
            exact ih_15 q55 v3 x52 x72 hf _ _ _ hP hS (lv_sub hl [4, 2, 1, 0] rfl)
          · have hf := ite_f c_61 hf
            refine lv_goto (tgt := 72) hx hb dX8_backOf_64 (by decide) ?_
            obtain ⟨x72, e_x72⟩ : ∃ y : Int32, y = v3 + 1 := ⟨_, rfl⟩
            have hf := nm_q e_x72 hf
            refine lv_iinc (v := x72) (lv' := [(3, .int x72), (4, .int x52), (0, .ref (a0 0)), (1, .int v1), (2, .int v2)]) hx hb dX8_backOf_72 hl (k := 4) rfl (by rw [e_x72]; rfl) (Nat.le_of_ble_eq_true rfl) rfl (fun ls hl => ?_)
            refine lv_goto (tgt := 15) hx hb dX8_backOf_75 (by decide) ?_
            exact ih_15 q55 v1 v2 x72 hf _ _ _ hP hS (lv_sub hl [2, 3, 4, 0] rfl)
        · have hf := ite_t c_28 hf
          refine lv_goto (tgt := 72) hx hb dX8_backOf_31 (by decide) ?_
          obtain ⟨x72, e_x72⟩ : ∃ y : Int32, y = v3 + 1 := ⟨_, rfl⟩
          have hf := nm_q e_x72 hf
          refine lv_iinc (v := x72) (lv' := [(3, .int x72), (0, .ref (a0 0)), (1, .int v1), (2, .int v2)]) hx hb dX8_backOf_72 hl (k := 3) rfl (by rw [e_x72]; rfl) (Nat.le_of_ble_eq_true rfl) rfl (fun ls hl => ?_)
          refine lv_goto (tgt := 15) hx hb dX8_backOf_75 (by decide) ?_
          exact ih_15 s0 v1 v2 x72 hf _ _ _ hP hS (lv_sub hl [1, 2, 3, 0] rfl)
  refine lv_bipush (v := (-5)) hx hb dX8_backOf_0 (by decide) ?_
  refine lv_topi (fun x2 e_x2 => ?_)
  have hf := nm_q e_x2 hf
  refine lv_istore_n (lv' := [(1, .int x2), (0, .ref (a0 0))]) hx hb dX8_backOf_2 rfl hl (Nat.le_of_ble_eq_true rfl) rfl (fun ls hl => ?_)
  refine lv_aload_n hx hb dX8_backOf_3 rfl (lv_at hl 1 rfl) ?_
  refine va_get (ci := 8) (C := RX8) (T := TX8) (N := 67) (v := .int (s0 1 0)) hx hb hts i_X8_backOf_X8 hown hK hP 0 rfl rfl 1 (by decide) (hts _ m_X8_backOf_92e5f7) (fun _ h9 => h9) rfl dX8_backOf_4 ?_
  refine lv_aload_n hx hb dX8_backOf_7 rfl (lv_at hl 1 rfl) ?_
  obtain ⟨q8, hc_8, hf⟩ := cl_e hf
  refine fin_i (E := E) (wc := wX8 E a0 s0 t0) (wc' := wX8 E a0 q8.2 t0) (va_runV (As := []) (rest := [.int (s0 1 0)]) ⟨hx, hb, hml, hown, hts⟩ (k_X8_mostNow l E a0 N s0 t0 q8 hc_8 _) (cwV 0 hts gX8_backOf_X8_mostNow rfl rfl rfl (by decide +kernel) ⟨(Nat.le_of_ble_eq_true rfl), (Nat.le_of_ble_eq_true rfl)⟩) (pre_v (ci := 8) (q0 := 0) hK hP (hDD s0 t0) hS hG hAB rfl rfl) rfl rfl hl.1 rfl (lv_room (Nat.le_of_ble_eq_true rfl)) dX8_backOf_8 ⟨Nat.zero_le _, Nat.zero_le _⟩) hS (w_free (hDD s0 t0) hS hA (fun _ h => h)) (fun H locs hP1 hk hS => ?_)
  have hP := hP1
  refine lv_iadd hx hb dX8_backOf_11 ?_
  refine lv_topi (fun x12 e_x12 => ?_)
  have hf := nm_q e_x12 hf
  refine lv_istore_n (lv' := [(2, .int x12), (1, .int x2), (0, .ref (a0 0))]) hx hb dX8_backOf_12 rfl hl (Nat.le_of_ble_eq_true rfl) rfl (fun ls hl => ?_)
  refine lv_iconst (v := 0) hx hb dX8_backOf_13 (by decide) ?_
  refine lv_istore_n (lv' := [(3, .int 0), (2, .int x12), (1, .int x2), (0, .ref (a0 0))]) hx hb dX8_backOf_14 rfl hl (Nat.le_of_ble_eq_true rfl) rfl (fun ls hl => ?_)
  exact hL_15 N q8.2 x2 x12 0 hf _ _ _ hP hS (lv_sub hl [3, 2, 1, 0] rfl)
abbrev rm_X8_best : Room := { frames := 10, cells := 0, slots := 0, locals := 229 }
set_option maxHeartbeats 8000000 in
set_option maxRecDepth 100000 in
theorem k_X8_best (l : Launch) (E : Ev) (a0 : Nat → Nat) (N : Nat) (s0 : St) (t0 : Nat → Nat → Int64) (p1 : Int32) (q : (Int32 × St)) (hf : f_X8_best N s0 p1 = some q) : Ci l yX8_best wsX8_best rm_X8_best E [.ref (a0 0), .int p1] (wX8 E a0 s0 t0) (wX8 E a0 q.2 t0) q.1 := by
  unfold f_X8_best at hf
  intro sz
  refine Met.ofW (cc := cX8_best) (maxL := 2) (ret := (some .int)) (by decide) rfl ?_
  intro p e s m args below meth c s₁ B hml hv
  obtain ⟨rfl, hsz, hP, hK, hD0, hG, hA, hAB⟩ := start hv
  have hx := B.exec
  have hb := B.bytes
  have hr := B.returns
  have hts := atoms_spec (ws := wsX8_best) B.pre
  have hown : s.vm.findClass RX8 = some m.cls := findClass_of_methodNamed B.named
  have hlocks := B.notSynchronized
  subst hsz
  generalize va_A (wX8 E a0 s0 t0) s.heap.size = A0 at hD0 hA hAB ⊢
  have hDD : ∀ (s0 : St) (t0 : Nat → Nat → Int64), va_D A0 (wX8 E a0 s0 t0) := fun s0 t0 => vD_addr hD0 rfl
  have hS : va_S A0 s.heap s.heap [] := va_S.rf
  have hl := lv_entry ([.ref (a0 0), .int p1]) (n := 2) (Nat.le_of_ble_eq_true rfl)
  rw [lg_entry_eq]
  generalize (lg_sl ([.ref (a0 0), .int p1]) ++ List.replicate (2 - (lg_sl ([.ref (a0 0), .int p1])).length) Slot.unset).toArray = ls at hl ⊢
  have hl : lv_has ls 2 [(0, .ref (a0 0)), (1, .int p1)] := hl
  refine lv_iload_n hx hb dX8_best_0 rfl (lv_at hl 1 rfl) ?_
  refine lv_if_ne (tgt := 11) hx hb dX8_best_1 (by decide) (fun c_1 => ?_) (fun c_1 => ?_)
  · have hf := ite_f c_1 hf
    refine lv_iload_n hx hb dX8_best_11 rfl (lv_at hl 1 rfl) ?_
    refine lv_iconst (v := 1) hx hb dX8_best_12 (by decide) ?_
    refine lv_icmp_ne (tgt := 23) hx hb dX8_best_13 (by decide) (fun c_13 => ?_) (fun c_13 => ?_)
    · have hf := ite_f c_13 hf
      refine lv_iconst (v := (-1)) hx hb dX8_best_23 (by decide) ?_
      have e9 := Option.some.inj hf
      exact rt_i hx hb hr hlocks (fst_e e9) (rtP (P := fun z => va_P E.1 vwCl (wX8 E a0 z.2 t0) s.heap) e9 hP) hS dX8_best_24
    · have hf := ite_t c_13 hf
      refine lv_aload_n hx hb dX8_best_16 rfl (lv_at hl 0 rfl) ?_
      obtain ⟨q17, hc_17, hf⟩ := cl_e hf
      refine fin_i (E := E) (wc := wX8 E a0 s0 t0) (wc' := wX8 E a0 q17.2 t0) (va_runV (As := []) (rest := []) ⟨hx, hb, hml, hown, hts⟩ (k_X8_backOf l E a0 N s0 t0 q17 hc_17 _) (cwV 0 hts gX8_best_X8_backOf rfl rfl rfl (by decide +kernel) ⟨(Nat.le_of_ble_eq_true rfl), (Nat.le_of_ble_eq_true rfl)⟩) (pre_v (ci := 8) (q0 := 0) hK hP (hDD s0 t0) hS hG hAB rfl rfl) rfl rfl hl.1 rfl (lv_room (Nat.le_of_ble_eq_true rfl)) dX8_best_17 ⟨Nat.zero_le _, Nat.zero_le _⟩) hS (w_free (hDD s0 t0) hS hA (fun _ h => h)) (fun H locs hP1 hk hS => ?_)
      have hP := hP1
      refine lv_goto (tgt := 24) hx hb dX8_best_20 (by decide) ?_
      have e9 := Option.some.inj hf
      exact rt_i hx hb hr hlocks (fst_e e9) (rtP (P := fun z => va_P E.1 vwCl (wX8 E a0 z.2 t0) H) e9 hP) hS dX8_best_24
  · have hf := ite_t c_1 hf
    refine lv_aload_n hx hb dX8_best_4 rfl (lv_at hl 0 rfl) ?_
    obtain ⟨q5, hc_5, hf⟩ := cl_e hf
    refine fin_i (E := E) (wc := wX8 E a0 s0 t0) (wc' := wX8 E a0 q5.2 t0) (va_runV (As := []) (rest := []) ⟨hx, hb, hml, hown, hts⟩ (k_X8_startOf l E a0 N s0 t0 q5 hc_5 _) (cwV 0 hts gX8_best_X8_startOf rfl rfl rfl (by decide +kernel) ⟨(Nat.le_of_ble_eq_true rfl), (Nat.le_of_ble_eq_true rfl)⟩) (pre_v (ci := 8) (q0 := 0) hK hP (hDD s0 t0) hS hG hAB rfl rfl) rfl rfl hl.1 rfl (lv_room (Nat.le_of_ble_eq_true rfl)) dX8_best_5 ⟨Nat.zero_le _, Nat.zero_le _⟩) hS (w_free (hDD s0 t0) hS hA (fun _ h => h)) (fun H locs hP1 hk hS => ?_)
    have hP := hP1
    refine lv_goto (tgt := 24) hx hb dX8_best_8 (by decide) ?_
    have e9 := Option.some.inj hf
    exact rt_i hx hb hr hlocks (fst_e e9) (rtP (P := fun z => va_P E.1 vwCl (wX8 E a0 z.2 t0) H) e9 hP) hS dX8_best_24
abbrev rm_X8_reach : Room := { frames := 9, cells := 0, slots := 0, locals := 204 }
set_option maxHeartbeats 8000000 in
set_option maxRecDepth 100000 in
theorem k_X8_reach (l : Launch) (E : Ev) (a0 : Nat → Nat) (N : Nat) (s0 : St) (t0 : Nat → Nat → Int64) (p1 : Int32) (q : (Int32 × St)) (hf : f_X8_reach N s0 p1 = some q) : Ci l yX8_reach wsX8_reach rm_X8_reach E [.ref (a0 0), .int p1] (wX8 E a0 s0 t0) (wX8 E a0 q.2 t0) q.1 := by
  unfold f_X8_reach at hf
  intro sz
  refine Met.ofW (cc := cX8_reach) (maxL := 2) (ret := (some .int)) (by decide) rfl ?_
  intro p e s m args below meth c s₁ B hml hv
  obtain ⟨rfl, hsz, hP, hK, hD0, hG, hA, hAB⟩ := start hv
  have hx := B.exec
  have hb := B.bytes
  have hr := B.returns
  have hts := atoms_spec (ws := wsX8_reach) B.pre
  have hown : s.vm.findClass RX8 = some m.cls := findClass_of_methodNamed B.named
  have hlocks := B.notSynchronized
  subst hsz
  generalize va_A (wX8 E a0 s0 t0) s.heap.size = A0 at hD0 hA hAB ⊢
  have hDD : ∀ (s0 : St) (t0 : Nat → Nat → Int64), va_D A0 (wX8 E a0 s0 t0) := fun s0 t0 => vD_addr hD0 rfl
  have hS : va_S A0 s.heap s.heap [] := va_S.rf
  have hl := lv_entry ([.ref (a0 0), .int p1]) (n := 2) (Nat.le_of_ble_eq_true rfl)
  rw [lg_entry_eq]
  generalize (lg_sl ([.ref (a0 0), .int p1]) ++ List.replicate (2 - (lg_sl ([.ref (a0 0), .int p1])).length) Slot.unset).toArray = ls at hl ⊢
  have hl : lv_has ls 2 [(0, .ref (a0 0)), (1, .int p1)] := hl
  refine lv_aload_n hx hb dX8_reach_0 rfl (lv_at hl 0 rfl) ?_
  refine lv_iload_n hx hb dX8_reach_1 rfl (lv_at hl 1 rfl) ?_
  obtain ⟨q2, hc_2, hf⟩ := cl_e hf
  refine fin_i (E := E) (wc := wX8 E a0 s0 t0) (wc' := wX8 E a0 s0 t0) (va_runV (As := [.int p1]) (rest := []) ⟨hx, hb, hml, hown, hts⟩ (k_X8_isThing l E a0 N s0 t0 p1 q2 hc_2 _) (cwV 1 hts gX8_reach_X8_isThing rfl rfl rfl (by decide +kernel) ⟨(Nat.le_of_ble_eq_true rfl), (Nat.le_of_ble_eq_true rfl)⟩) (pre_v (ci := 8) (q0 := 0) hK hP (hDD s0 t0) hS hG hAB rfl rfl) rfl rfl hl.1 rfl (lv_room (Nat.le_of_ble_eq_true rfl)) dX8_reach_2 ⟨Nat.zero_le _, Nat.zero_le _⟩) hS (w_free (hDD s0 t0) hS hA (fun _ h => h)) (fun H locs hP1 hk hS => ?_)
  have hP := hP1
  refine lv_if_ne (tgt := 10) hx hb dX8_reach_5 (by decide) (fun c_5 => ?_) (fun c_5 => ?_)
  · have hf := ite_f c_5 hf
    refine lv_aload_n hx hb dX8_reach_10 rfl (lv_at hl 0 rfl) ?_
    refine lv_iload_n hx hb dX8_reach_11 rfl (lv_at hl 1 rfl) ?_
    obtain ⟨q12, hc_12, hf⟩ := cl_e hf
    refine fin_i (E := E) (wc := wX8 E a0 s0 t0) (wc' := wX8 E a0 s0 t0) (va_runV (As := [.int p1]) (rest := []) ⟨hx, hb, hml, hown, hts⟩ (k_X8_isHad l E a0 N s0 t0 p1 q12 hc_12 _) (cwV 1 hts gX8_reach_X8_isHad rfl rfl rfl (by decide +kernel) ⟨(Nat.le_of_ble_eq_true rfl), (Nat.le_of_ble_eq_true rfl)⟩) (pre_v (ci := 8) (q0 := 0) hK hP (hDD s0 t0) hS hG hAB rfl rfl) rfl rfl hl.1 rfl (lv_room (Nat.le_of_ble_eq_true rfl)) dX8_reach_12 ⟨Nat.zero_le _, Nat.zero_le _⟩) hS (w_free (hDD s0 t0) hS hA (fun _ h => h)) (fun H locs hP1 hk hS => ?_)
    have hP := hP1
    refine lv_if_eq (tgt := 23) hx hb dX8_reach_15 (by decide) (fun c_15 => ?_) (fun c_15 => ?_)
    · have hf := ite_t c_15 hf
      refine lv_aload_n hx hb dX8_reach_23 rfl (lv_at hl 0 rfl) ?_
      refine lv_iload_n hx hb dX8_reach_24 rfl (lv_at hl 1 rfl) ?_
      obtain ⟨q25, hc_25, hf⟩ := cl_e hf
      refine fin_i (E := E) (wc := wX8 E a0 s0 t0) (wc' := wX8 E a0 q25.2 t0) (va_runV (As := [.int p1]) (rest := []) ⟨hx, hb, hml, hown, hts⟩ (k_X8_fewestAhead l E a0 N s0 t0 p1 q25 hc_25 _) (cwV 1 hts gX8_reach_X8_fewestAhead rfl rfl rfl (by decide +kernel) ⟨(Nat.le_of_ble_eq_true rfl), (Nat.le_of_ble_eq_true rfl)⟩) (pre_v (ci := 8) (q0 := 0) hK hP (hDD s0 t0) hS hG hAB rfl rfl) rfl rfl hl.1 rfl (lv_room (Nat.le_of_ble_eq_true rfl)) dX8_reach_25 ⟨Nat.zero_le _, Nat.zero_le _⟩) hS (w_free (hDD s0 t0) hS hA (fun _ h => h)) (fun H locs hP1 hk hS => ?_)
      have hP := hP1
      have e9 := Option.some.inj hf
      exact rt_i hx hb hr hlocks (fst_e e9) (rtP (P := fun z => va_P E.1 vwCl (wX8 E a0 z.2 t0) H) e9 hP) hS dX8_reach_28
    · have hf := ite_f c_15 hf
      refine lv_bipush (v := (-5)) hx hb dX8_reach_18 (by decide) ?_
      refine lv_goto (tgt := 28) hx hb dX8_reach_20 (by decide) ?_
      have e9 := Option.some.inj hf
      exact rt_i hx hb hr hlocks (fst_e e9) (rtP (P := fun z => va_P E.1 vwCl (wX8 E a0 z.2 t0) H) e9 hP) hS dX8_reach_28
  · have hf := ite_t c_5 hf
    refine lv_iconst (v := (-1)) hx hb dX8_reach_8 (by decide) ?_
    have e9 := Option.some.inj hf
    exact rt_i hx hb hr hlocks (fst_e e9) (rtP (P := fun z => va_P E.1 vwCl (wX8 E a0 z.2 t0) H) e9 hP) hS dX8_reach_9
abbrev rm_X8_fitting : Room := { frames := 8, cells := 0, slots := 0, locals := 180 }
theorem m_X8_fitting_fa4c49 : Cond.fieldLink RX8 26 "PickedMatchModel" "marks" "[I" ∈ wsX8_fitting := by decide +kernel
theorem i_X8_fitting_X8 : ∀ w ∈ wsX80, w ∈ wsX8_fitting := fun _ h => List.mem_cons_of_mem _ (List.mem_append_right _ h)
set_option maxHeartbeats 8000000 in
set_option maxRecDepth 100000 in
theorem k_X8_fitting (l : Launch) (E : Ev) (a0 : Nat → Nat) (N : Nat) (s0 : St) (t0 : Nat → Nat → Int64) (p1 : Int32) (p2 : Int32) (q : (Int32 × St)) (hf : f_X8_fitting N s0 p1 p2 = some q) : Ci l yX8_fitting wsX8_fitting rm_X8_fitting E [.ref (a0 0), .int p1, .int p2] (wX8 E a0 s0 t0) (wX8 E a0 q.2 t0) q.1 := by
  unfold f_X8_fitting at hf
  intro sz
  refine Met.ofW (cc := cX8_fitting) (maxL := 7) (ret := (some .int)) (by decide) rfl ?_
  intro p e s m args below meth c s₁ B hml hv
  obtain ⟨rfl, hsz, hP, hK, hD0, hG, hA, hAB⟩ := start hv
  have hx := B.exec
  have hb := B.bytes
  have hr := B.returns
  have hts := atoms_spec (ws := wsX8_fitting) B.pre
  have hown : s.vm.findClass RX8 = some m.cls := findClass_of_methodNamed B.named
  have hlocks := B.notSynchronized
  subst hsz
  generalize va_A (wX8 E a0 s0 t0) s.heap.size = A0 at hD0 hA hAB ⊢
  have hDD : ∀ (s0 : St) (t0 : Nat → Nat → Int64), va_D A0 (wX8 E a0 s0 t0) := fun s0 t0 => vD_addr hD0 rfl
  have hS : va_S A0 s.heap s.heap [] := va_S.rf
  have hl := lv_entry ([.ref (a0 0), .int p1, .int p2]) (n := 7) (Nat.le_of_ble_eq_true rfl)
  rw [lg_entry_eq]
  generalize (lg_sl ([.ref (a0 0), .int p1, .int p2]) ++ List.replicate (7 - (lg_sl ([.ref (a0 0), .int p1, .int p2])).length) Slot.unset).toArray = ls at hl ⊢
  have hl : lv_has ls 7 [(0, .ref (a0 0)), (1, .int p1), (2, .int p2)] := hl
  have hL_39 : ∀ (v1 : Int32) (v2 : Int32) (v3 : Int32) (n_39 : Nat) (s0 : St) (v4 : Int32) (v5 : Int32) (v6 : Int32), l_X8_fitting_39 N v1 v2 v3 n_39 s0 v4 v5 v6 = some q → ∀ (H : Heap) (locs : List Loc) (ls : Array Slot), va_P E.1 vwCl (wX8 E a0 s0 t0) H → va_S A0 s.heap H locs → lv_has ls 7 [(0, .ref (a0 0)), (1, .int v1), (2, .int v2), (3, .int v3), (4, .int v4), (5, .int v5), (6, .int v6)] → W p l e rm_X8_fitting s m ([.ref (a0 0), .int p1, .int p2] : List Value).toArray below meth c H locs 0 0 (MQ below (va_Qi (fun (r' : Int32) (_ : Unit) => r' = q.1) (fun _ t => va_P E.1 vwCl (wX8 E a0 q.2 t0) t.heap) A0) ([.ref (a0 0), .int p1, .int p2] : List Value).toArray s 0 0 A0) (F0 m 39 ls []) := by
    intro v1 v2 v3 n_39
    induction n_39 with
    | zero => intro s0 v4 v5 v6 hf; rw [l_X8_fitting_39] at hf; cases hf
    | succ n_39 ih_39 =>
      intro s0 v4 v5 v6 hf H locs ls hP hS hl
      rw [l_X8_fitting_39] at hf
      refine lv_iload hx hb dX8_fitting_39 (lv_at hl 6 rfl) ?_
      refine lv_if_lt (tgt := 76) hx hb dX8_fitting_41 (by decide) (fun c_41 => ?_) (fun c_41 => ?_)
      · have hf := ite_t c_41 hf
        refine lv_aload_n hx hb dX8_fitting_76 rfl (lv_at hl 0 rfl) ?_
        refine va_get (ci := 8) (C := RX8) (T := TX8) (N := 67) (v := .ref (a0 3)) hx hb hts i_X8_fitting_X8 hown hK hP 0 rfl rfl 5 (by decide) (hts _ m_X8_fitting_fa4c49) (fun _ h9 => h9) rfl dX8_fitting_77 ?_
        refine lv_iload_n hx hb dX8_fitting_80 rfl (lv_at hl 1 rfl) ?_
        refine lv_iload_n hx hb dX8_fitting_81 rfl (lv_at hl 3 rfl) ?_
        obtain ⟨h_82, hf⟩ := ck_e hf
        refine va_iast (cA := E.2.1) (n := 6) (f := s0 5) (x := v3) hx hb hK hP (hDD s0 t0) hS 3 0 rfl rfl h_82 dX8_fitting_82 (fun H locs hP _ hS => ?_)
        obtain ⟨s0_82, hP, hf⟩ := nm_st' (P := fun z => va_P E.1 vwCl (wX8 E a0 z t0) H) hf hP
        refine lv_iload_n hx hb dX8_fitting_83 rfl (lv_at hl 2 rfl) ?_
        refine lv_if_ne (tgt := 92) hx hb dX8_fitting_84 (by decide) (fun c_84 => ?_) (fun c_84 => ?_)
        · have hf := ite_f c_84 hf
          refine lv_iload hx hb dX8_fitting_92 (lv_at hl 5 rfl) ?_
          have e9 := Option.some.inj hf
          exact rt_i hx hb hr hlocks (fst_e e9) (rtP (P := fun z => va_P E.1 vwCl (wX8 E a0 z.2 t0) H) e9 hP) hS dX8_fitting_94
        · have hf := ite_t c_84 hf
          refine lv_iload hx hb dX8_fitting_87 (lv_at hl 4 rfl) ?_
          refine lv_goto (tgt := 94) hx hb dX8_fitting_89 (by decide) ?_
          have e9 := Option.some.inj hf
          exact rt_i hx hb hr hlocks (fst_e e9) (rtP (P := fun z => va_P E.1 vwCl (wX8 E a0 z.2 t0) H) e9 hP) hS dX8_fitting_94
      · have hf := ite_f c_41 hf
        refine lv_aload_n hx hb dX8_fitting_44 rfl (lv_at hl 0 rfl) ?_
        refine va_get (ci := 8) (C := RX8) (T := TX8) (N := 67) (v := .ref (a0 3)) hx hb hts i_X8_fitting_X8 hown hK hP 0 rfl rfl 5 (by decide) (hts _ m_X8_fitting_fa4c49) (fun _ h9 => h9) rfl dX8_fitting_45 ?_
        refine lv_iload_n hx hb dX8_fitting_48 rfl (lv_at hl 1 rfl) ?_
        refine lv_iload hx hb dX8_fitting_49 (lv_at hl 6 rfl) ?_
        obtain ⟨h_51, hf⟩ := ck_e hf
        refine va_iast (cA := E.2.1) (n := 6) (f := s0 5) (x := v6) hx hb hK hP (hDD s0 t0) hS 3 0 rfl rfl h_51 dX8_fitting_51 (fun H locs hP _ hS => ?_)
        obtain ⟨s0_51, hP, hf⟩ := nm_st' (P := fun z => va_P E.1 vwCl (wX8 E a0 z t0) H) hf hP
        refine lv_aload_n hx hb dX8_fitting_52 rfl (lv_at hl 0 rfl) ?_
        refine lv_iload_n hx hb dX8_fitting_53 rfl (lv_at hl 1 rfl) ?_
        obtain ⟨q54, hc_54, hf⟩ := cl_e hf
        refine fin_i (E := E) (wc := wX8 E a0 s0_51 t0) (wc' := wX8 E a0 q54.2 t0) (va_runV (As := [.int v1]) (rest := []) ⟨hx, hb, hml, hown, hts⟩ (k_X8_goes l E a0 N s0_51 t0 v1 q54 hc_54 _) (cwV 1 hts gX8_fitting_X8_goes rfl rfl rfl (by decide +kernel) ⟨(Nat.le_of_ble_eq_true rfl), (Nat.le_of_ble_eq_true rfl)⟩) (pre_v (ci := 8) (q0 := 0) hK hP (hDD s0_51 t0) hS hG hAB rfl rfl) rfl rfl hl.1 rfl (lv_room (Nat.le_of_ble_eq_true rfl)) dX8_fitting_54 ⟨Nat.zero_le _, Nat.zero_le _⟩) hS (w_free (hDD s0_51 t0) hS hA (fun _ h => h)) (fun H locs hP1 hk hS => ?_)
        have hP := hP1
        refine lv_if_ne (tgt := 63) hx hb dX8_fitting_57 (by decide) (fun c_57 => ?_) (fun c_57 => ?_)
        · have hf := ite_f c_57 hf
          obtain ⟨x63, e_x63⟩ : ∃ y : Int32, y = v4 + 1 := ⟨_, rfl⟩
          have hf := nm_q e_x63 hf
          refine lv_iinc (v := x63) (lv' := [(4, .int x63), (0, .ref (a0 0)), (1, .int v1), (2, .int v2), (3, .int v3), (5, .int v5), (6, .int v6)]) hx hb dX8_fitting_63 hl (k := 4) rfl (by rw [e_x63]; rfl) (Nat.le_of_ble_eq_true rfl) rfl (fun ls hl => ?_)
          refine lv_iload hx hb dX8_fitting_66 (lv_at hl 6 rfl) ?_
          refine lv_istore (lv' := [(5, .int v6), (4, .int x63), (0, .ref (a0 0)), (1, .int v1), (2, .int v2), (3, .int v3), (6, .int v6)]) hx hb dX8_fitting_68 hl (Nat.le_of_ble_eq_true rfl) rfl (fun ls hl => ?_)
          obtain ⟨x70, e_x70⟩ : ∃ y : Int32, y = v6 + (-1) := ⟨_, rfl⟩
          have hf := nm_q e_x70 hf
          refine lv_iinc (v := x70) (lv' := [(6, .int x70), (5, .int v6), (4, .int x63), (0, .ref (a0 0)), (1, .int v1), (2, .int v2), (3, .int v3)]) hx hb dX8_fitting_70 hl (k := 6) rfl (by rw [e_x70]; rfl) (Nat.le_of_ble_eq_true rfl) rfl (fun ls hl => ?_)
          refine lv_goto (tgt := 39) hx hb dX8_fitting_73 (by decide) ?_
          exact ih_39 q54.2 x63 v6 x70 hf _ _ _ hP hS (lv_sub hl [3, 4, 5, 6, 2, 1, 0] rfl)
        · have hf := ite_t c_57 hf
          refine lv_goto (tgt := 70) hx hb dX8_fitting_60 (by decide) ?_
          obtain ⟨x70, e_x70⟩ : ∃ y : Int32, y = v6 + (-1) := ⟨_, rfl⟩
          have hf := nm_q e_x70 hf
          refine lv_iinc (v := x70) (lv' := [(6, .int x70), (0, .ref (a0 0)), (1, .int v1), (2, .int v2), (3, .int v3), (4, .int v4), (5, .int v5)]) hx hb dX8_fitting_70 hl (k := 6) rfl (by rw [e_x70]; rfl) (Nat.le_of_ble_eq_true rfl) rfl (fun ls hl => ?_)
          refine lv_goto (tgt := 39) hx hb dX8_fitting_73 (by decide) ?_
          exact ih_39 q54.2 v4 v5 x70 hf _ _ _ hP hS (lv_sub hl [1, 2, 3, 4, 5, 6, 0] rfl)
  refine lv_aload_n hx hb dX8_fitting_0 rfl (lv_at hl 0 rfl) ?_
  refine lv_iload_n hx hb dX8_fitting_1 rfl (lv_at hl 1 rfl) ?_
  obtain ⟨q2, hc_2, hf⟩ := cl_e hf
  refine fin_i (E := E) (wc := wX8 E a0 s0 t0) (wc' := wX8 E a0 s0 t0) (va_runV (As := [.int p1]) (rest := []) ⟨hx, hb, hml, hown, hts⟩ (k_X8_isThing l E a0 N s0 t0 p1 q2 hc_2 _) (cwV 1 hts gX8_fitting_X8_isThing rfl rfl rfl (by decide +kernel) ⟨(Nat.le_of_ble_eq_true rfl), (Nat.le_of_ble_eq_true rfl)⟩) (pre_v (ci := 8) (q0 := 0) hK hP (hDD s0 t0) hS hG hAB rfl rfl) rfl rfl hl.1 rfl (lv_room (Nat.le_of_ble_eq_true rfl)) dX8_fitting_2 ⟨Nat.zero_le _, Nat.zero_le _⟩) hS (w_free (hDD s0 t0) hS hA (fun _ h => h)) (fun H locs hP1 hk hS => ?_)
  have hP := hP1
  refine lv_if_eq (tgt := 18) hx hb dX8_fitting_5 (by decide) (fun c_5 => ?_) (fun c_5 => ?_)
  · have hf := ite_t c_5 hf
    refine lv_iconst (v := (-1)) hx hb dX8_fitting_18 (by decide) ?_
    have e9 := Option.some.inj hf
    exact rt_i hx hb hr hlocks (fst_e e9) (rtP (P := fun z => va_P E.1 vwCl (wX8 E a0 z.2 t0) H) e9 hP) hS dX8_fitting_19
  · have hf := ite_f c_5 hf
    refine lv_aload_n hx hb dX8_fitting_8 rfl (lv_at hl 0 rfl) ?_
    refine lv_iload_n hx hb dX8_fitting_9 rfl (lv_at hl 2 rfl) ?_
    refine lv_iconst (v := 0) hx hb dX8_fitting_10 (by decide) ?_
    refine lv_iconst (v := 1) hx hb dX8_fitting_11 (by decide) ?_
    obtain ⟨q12, hc_12, hf⟩ := cl_e hf
    refine fin_i (E := E) (wc := wX8 E a0 s0 t0) (wc' := wX8 E a0 s0 t0) (va_runV (As := [.int p2, .int 0, .int 1]) (rest := []) ⟨hx, hb, hml, hown, hts⟩ (k_X8_in l E a0 N s0 t0 p2 0 1 q12 hc_12 _) (cwV 3 hts gX8_fitting_X8_in rfl rfl rfl (by decide +kernel) ⟨(Nat.le_of_ble_eq_true rfl), (Nat.le_of_ble_eq_true rfl)⟩) (pre_v (ci := 8) (q0 := 0) hK hP (hDD s0 t0) hS hG hAB rfl rfl) rfl rfl hl.1 rfl (lv_room (Nat.le_of_ble_eq_true rfl)) dX8_fitting_12 ⟨Nat.zero_le _, Nat.zero_le _⟩) hS (w_free (hDD s0 t0) hS hA (fun _ h => h)) (fun H locs hP1 hk hS => ?_)
    have hP := hP1
    refine lv_if_ne (tgt := 20) hx hb dX8_fitting_15 (by decide) (fun c_15 => ?_) (fun c_15 => ?_)
    · have hf := ite_f c_15 hf
      refine lv_aload_n hx hb dX8_fitting_20 rfl (lv_at hl 0 rfl) ?_
      refine va_get (ci := 8) (C := RX8) (T := TX8) (N := 67) (v := .ref (a0 3)) hx hb hts i_X8_fitting_X8 hown hK hP 0 rfl rfl 5 (by decide) (hts _ m_X8_fitting_fa4c49) (fun _ h9 => h9) rfl dX8_fitting_21 ?_
      refine lv_iload_n hx hb dX8_fitting_24 rfl (lv_at hl 1 rfl) ?_
      obtain ⟨h_25, hf⟩ := ck_e hf
      refine va_iald (cA := E.2.1) (n := 6) (f := s0 5) hx hb hK hP 3 0 rfl rfl h_25 dX8_fitting_25 ?_
      refine lv_topi (fun x26 e_x26 => ?_)
      have hf := nm_q e_x26 hf
      refine lv_istore_n (lv' := [(3, .int x26), (0, .ref (a0 0)), (1, .int p1), (2, .int p2)]) hx hb dX8_fitting_26 rfl hl (Nat.le_of_ble_eq_true rfl) rfl (fun ls hl => ?_)
      refine lv_iconst (v := 0) hx hb dX8_fitting_27 (by decide) ?_
      refine lv_istore (lv' := [(4, .int 0), (3, .int x26), (0, .ref (a0 0)), (1, .int p1), (2, .int p2)]) hx hb dX8_fitting_28 hl (Nat.le_of_ble_eq_true rfl) rfl (fun ls hl => ?_)
      refine lv_bipush (v := (-5)) hx hb dX8_fitting_30 (by decide) ?_
      refine lv_topi (fun x32 e_x32 => ?_)
      have hf := nm_q e_x32 hf
      refine lv_istore (lv' := [(5, .int x32), (4, .int 0), (3, .int x26), (0, .ref (a0 0)), (1, .int p1), (2, .int p2)]) hx hb dX8_fitting_32 hl (Nat.le_of_ble_eq_true rfl) rfl (fun ls hl => ?_)
      refine lv_sipush (v := 255) hx hb dX8_fitting_34 (by decide) ?_
      refine lv_istore (lv' := [(6, .int 255), (5, .int x32), (4, .int 0), (3, .int x26), (0, .ref (a0 0)), (1, .int p1), (2, .int p2)]) hx hb dX8_fitting_37 hl (Nat.le_of_ble_eq_true rfl) rfl (fun ls hl => ?_)
      exact hL_39 p1 p2 x26 N s0 0 x32 255 hf _ _ _ hP hS (lv_sub hl [4, 5, 6, 3, 2, 1, 0] rfl)
    · have hf := ite_t c_15 hf
      refine lv_iconst (v := (-1)) hx hb dX8_fitting_18 (by decide) ?_
      have e9 := Option.some.inj hf
      exact rt_i hx hb hr hlocks (fst_e e9) (rtP (P := fun z => va_P E.1 vwCl (wX8 E a0 z.2 t0) H) e9 hP) hS dX8_fitting_19
abbrev rm_X8_see : Room := { frames := 2, cells := 0, slots := 0, locals := 44 }
theorem m_X8_see_36ca5e : Cond.fieldLink RX8 105 "PickedMatchModel" "seen" "I" ∈ wsX8_see := by decide +kernel
theorem i_X8_see_X8 : ∀ w ∈ wsX80, w ∈ wsX8_see := fun _ h => List.mem_cons_of_mem _ (List.mem_append_right _ h)
theorem m_X8_see_7bcf41 : Cond.fieldLink RX8 108 "PickedMatchModel" "seenThing" "[I" ∈ wsX8_see := by decide +kernel
theorem m_X8_see_6d0e43 : Cond.fieldLink RX8 114 "PickedMatchModel" "seenHad" "[Z" ∈ wsX8_see := by decide +kernel
theorem m_X8_see_9b9f00 : Cond.fieldLink RX8 111 "PickedMatchModel" "seenWhen" "[I" ∈ wsX8_see := by decide +kernel
set_option maxHeartbeats 8000000 in
set_option maxRecDepth 100000 in
theorem k_X8_see (l : Launch) (E : Ev) (a0 : Nat → Nat) (N : Nat) (s0 : St) (t0 : Nat → Nat → Int64) (p1 : Int32) (p2 : Int32) (p3 : Int32) (q : (Int32 × St)) (hf : f_X8_see N s0 p1 p2 p3 = some q) : Ci l yX8_see wsX8_see rm_X8_see E [.ref (a0 0), .int p1, .int p2, .int p3] (wX8 E a0 s0 t0) (wX8 E a0 q.2 t0) q.1 := by
  unfold f_X8_see at hf
  intro sz
  refine Met.ofW (cc := cX8_see) (maxL := 4) (ret := (some .int)) (by decide) rfl ?_
  intro p e s m args below meth c s₁ B hml hv
  obtain ⟨rfl, hsz, hP, hK, hD0, hG, hA, hAB⟩ := start hv
  have hx := B.exec
  have hb := B.bytes
  have hr := B.returns
  have hts := atoms_spec (ws := wsX8_see) B.pre
  have hown : s.vm.findClass RX8 = some m.cls := findClass_of_methodNamed B.named
  have hlocks := B.notSynchronized
  subst hsz
  generalize va_A (wX8 E a0 s0 t0) s.heap.size = A0 at hD0 hA hAB ⊢
  have hDD : ∀ (s0 : St) (t0 : Nat → Nat → Int64), va_D A0 (wX8 E a0 s0 t0) := fun s0 t0 => vD_addr hD0 rfl
  have hS : va_S A0 s.heap s.heap [] := va_S.rf
  have hl := lv_entry ([.ref (a0 0), .int p1, .int p2, .int p3]) (n := 4) (Nat.le_of_ble_eq_true rfl)
  rw [lg_entry_eq]
  generalize (lg_sl ([.ref (a0 0), .int p1, .int p2, .int p3]) ++ List.replicate (4 - (lg_sl ([.ref (a0 0), .int p1, .int p2, .int p3])).length) Slot.unset).toArray = ls at hl ⊢
  have hl : lv_has ls 4 [(0, .ref (a0 0)), (1, .int p1), (2, .int p2), (3, .int p3)] := hl
  refine lv_iload_n hx hb dX8_see_0 rfl (lv_at hl 1 rfl) ?_
  refine lv_iconst (v := (-1)) hx hb dX8_see_1 (by decide) ?_
  refine lv_icmp_ne (tgt := 12) hx hb dX8_see_2 (by decide) (fun c_2 => ?_) (fun c_2 => ?_)
  · have hf := ite_f c_2 hf
    refine lv_aload_n hx hb dX8_see_12 rfl (lv_at hl 0 rfl) ?_
    refine lv_iload_n hx hb dX8_see_13 rfl (lv_at hl 1 rfl) ?_
    obtain ⟨q14, hc_14, hf⟩ := cl_e hf
    refine fin_i (E := E) (wc := wX8 E a0 s0 t0) (wc' := wX8 E a0 s0 t0) (va_runV (As := [.int p1]) (rest := []) ⟨hx, hb, hml, hown, hts⟩ (k_X8_isThing l E a0 N s0 t0 p1 q14 hc_14 _) (cwV 1 hts gX8_see_X8_isThing rfl rfl rfl (by decide +kernel) ⟨(Nat.le_of_ble_eq_true rfl), (Nat.le_of_ble_eq_true rfl)⟩) (pre_v (ci := 8) (q0 := 0) hK hP (hDD s0 t0) hS hG hAB rfl rfl) rfl rfl hl.1 rfl (lv_room (Nat.le_of_ble_eq_true rfl)) dX8_see_14 ⟨Nat.zero_le _, Nat.zero_le _⟩) hS (w_free (hDD s0 t0) hS hA (fun _ h => h)) (fun H locs hP1 hk hS => ?_)
    have hP := hP1
    refine lv_if_ne (tgt := 22) hx hb dX8_see_17 (by decide) (fun c_17 => ?_) (fun c_17 => ?_)
    · have hf := ite_f c_17 hf
      refine lv_aload_n hx hb dX8_see_22 rfl (lv_at hl 0 rfl) ?_
      refine lv_iload_n hx hb dX8_see_23 rfl (lv_at hl 3 rfl) ?_
      refine lv_iconst (v := 0) hx hb dX8_see_24 (by decide) ?_
      refine lv_bipush (v := 20) hx hb dX8_see_25 (by decide) ?_
      obtain ⟨q27, hc_27, hf⟩ := cl_e hf
      refine fin_i (E := E) (wc := wX8 E a0 s0 t0) (wc' := wX8 E a0 s0 t0) (va_runV (As := [.int p3, .int 0, .int 20]) (rest := []) ⟨hx, hb, hml, hown, hts⟩ (k_X8_in l E a0 N s0 t0 p3 0 20 q27 hc_27 _) (cwV 3 hts gX8_see_X8_in rfl rfl rfl (by decide +kernel) ⟨(Nat.le_of_ble_eq_true rfl), (Nat.le_of_ble_eq_true rfl)⟩) (pre_v (ci := 8) (q0 := 0) hK hP (hDD s0 t0) hS hG hAB rfl rfl) rfl rfl hl.1 rfl (lv_room (Nat.le_of_ble_eq_true rfl)) dX8_see_27 ⟨Nat.zero_le _, Nat.zero_le _⟩) hS (w_free (hDD s0 t0) hS hA (fun _ h => h)) (fun H locs hP1 hk hS => ?_)
      have hP := hP1
      refine lv_if_ne (tgt := 36) hx hb dX8_see_30 (by decide) (fun c_30 => ?_) (fun c_30 => ?_)
      · have hf := ite_f c_30 hf
        refine lv_aload_n hx hb dX8_see_36 rfl (lv_at hl 0 rfl) ?_
        refine va_get (ci := 8) (C := RX8) (T := TX8) (N := 67) (v := .int (s0 31 0)) hx hb hts i_X8_see_X8 hown hK hP 0 rfl rfl 31 (by decide) (hts _ m_X8_see_36ca5e) (fun _ h9 => h9) rfl dX8_see_37 ?_
        refine lv_iconst (v := 5) hx hb dX8_see_40 (by decide) ?_
        refine lv_icmp_ne (tgt := 47) hx hb dX8_see_41 (by decide) (fun c_41 => ?_) (fun c_41 => ?_)
        · have hf := ite_f c_41 hf
          refine lv_aload_n hx hb dX8_see_47 rfl (lv_at hl 0 rfl) ?_
          refine va_get (ci := 8) (C := RX8) (T := TX8) (N := 67) (v := .ref (a0 19)) hx hb hts i_X8_see_X8 hown hK hP 0 rfl rfl 32 (by decide) (hts _ m_X8_see_7bcf41) (fun _ h9 => h9) rfl dX8_see_48 ?_
          refine lv_aload_n hx hb dX8_see_51 rfl (lv_at hl 0 rfl) ?_
          refine va_get (ci := 8) (C := RX8) (T := TX8) (N := 67) (v := .int (s0 31 0)) hx hb hts i_X8_see_X8 hown hK hP 0 rfl rfl 31 (by decide) (hts _ m_X8_see_36ca5e) (fun _ h9 => h9) rfl dX8_see_52 ?_
          refine lv_iload_n hx hb dX8_see_55 rfl (lv_at hl 1 rfl) ?_
          obtain ⟨h_56, hf⟩ := ck_e hf
          refine va_iast (cA := E.2.1) (n := 5) (f := s0 32) (x := p1) hx hb hK hP (hDD s0 t0) hS 19 0 rfl rfl h_56 dX8_see_56 (fun H locs hP _ hS => ?_)
          obtain ⟨s0_56, hP, hf⟩ := nm_st' (P := fun z => va_P E.1 vwCl (wX8 E a0 z t0) H) hf hP
          refine lv_aload_n hx hb dX8_see_57 rfl (lv_at hl 0 rfl) ?_
          refine va_get (ci := 8) (C := RX8) (T := TX8) (N := 67) (v := .ref (a0 21)) hx hb hts i_X8_see_X8 hown hK hP 0 rfl rfl 34 (by decide) (hts _ m_X8_see_6d0e43) (fun _ h9 => h9) rfl dX8_see_58 ?_
          refine lv_aload_n hx hb dX8_see_61 rfl (lv_at hl 0 rfl) ?_
          refine va_get (ci := 8) (C := RX8) (T := TX8) (N := 67) (v := .int (s0_56 31 0)) hx hb hts i_X8_see_X8 hown hK hP 0 rfl rfl 31 (by decide) (hts _ m_X8_see_36ca5e) (fun _ h9 => h9) rfl dX8_see_62 ?_
          refine lv_iload_n hx hb dX8_see_65 rfl (lv_at hl 2 rfl) ?_
          obtain ⟨h_66, hf⟩ := ck_e hf
          refine va_zast (cA := E.2.2.2.1) (n := 5) (f := s0_56 34) (x := p2) hx hb hK hP (hDD s0_56 t0) hS 21 2 rfl rfl h_66 dX8_see_66 (fun H locs hP _ hS => ?_)
          obtain ⟨s0_66, hP, hf⟩ := nm_st' (P := fun z => va_P E.1 vwCl (wX8 E a0 z t0) H) hf hP
          refine lv_aload_n hx hb dX8_see_67 rfl (lv_at hl 0 rfl) ?_
          refine va_get (ci := 8) (C := RX8) (T := TX8) (N := 67) (v := .ref (a0 20)) hx hb hts i_X8_see_X8 hown hK hP 0 rfl rfl 33 (by decide) (hts _ m_X8_see_9b9f00) (fun _ h9 => h9) rfl dX8_see_68 ?_
          refine lv_aload_n hx hb dX8_see_71 rfl (lv_at hl 0 rfl) ?_
          refine va_get (ci := 8) (C := RX8) (T := TX8) (N := 67) (v := .int (s0_66 31 0)) hx hb hts i_X8_see_X8 hown hK hP 0 rfl rfl 31 (by decide) (hts _ m_X8_see_36ca5e) (fun _ h9 => h9) rfl dX8_see_72 ?_
          refine lv_iload_n hx hb dX8_see_75 rfl (lv_at hl 3 rfl) ?_
          obtain ⟨h_76, hf⟩ := ck_e hf
          refine va_iast (cA := E.2.1) (n := 5) (f := s0_66 33) (x := p3) hx hb hK hP (hDD s0_66 t0) hS 20 0 rfl rfl h_76 dX8_see_76 (fun H locs hP _ hS => ?_)
          obtain ⟨s0_76, hP, hf⟩ := nm_st' (P := fun z => va_P E.1 vwCl (wX8 E a0 z t0) H) hf hP
          refine lv_aload_n hx hb dX8_see_77 rfl (lv_at hl 0 rfl) ?_
          refine lv_dup hx hb dX8_see_78 rfl ?_
          refine va_get (ci := 8) (C := RX8) (T := TX8) (N := 67) (v := .int (s0_76 31 0)) hx hb hts i_X8_see_X8 hown hK hP 0 rfl rfl 31 (by decide) (hts _ m_X8_see_36ca5e) (fun _ h9 => h9) rfl dX8_see_79 ?_
          refine lv_iconst (v := 1) hx hb dX8_see_82 (by decide) ?_
          refine lv_iadd hx hb dX8_see_83 ?_
          refine va_put (ci := 8) (v := .int ((s0_76 31 0) + 1)) (ty := .int) (C := RX8) (T := TX8) (N := 67) hx hb hts i_X8_see_X8 tyX8 tyX8_ok nmX8 hown hK hP (hDD s0_76 t0) hS 0 rfl rfl 31 (by decide) (hts _ m_X8_see_36ca5e) (fun _ h9 => h9) rfl (by decide +kernel) rfl rfl (Nat.le_of_ble_eq_true rfl) dX8_see_84 (fun H locs hP _ hS => ?_)
          obtain ⟨s0_84, hP, hf⟩ := nm_st' (P := fun z => va_P E.1 vwCl (wX8 E a0 z t0) H) hf hP
          refine lv_aload_n hx hb dX8_see_87 rfl (lv_at hl 0 rfl) ?_
          refine va_get (ci := 8) (C := RX8) (T := TX8) (N := 67) (v := .int (s0_84 31 0)) hx hb hts i_X8_see_X8 hown hK hP 0 rfl rfl 31 (by decide) (hts _ m_X8_see_36ca5e) (fun _ h9 => h9) rfl dX8_see_88 ?_
          have e9 := Option.some.inj hf
          exact rt_i hx hb hr hlocks (fst_e e9) (rtP (P := fun z => va_P E.1 vwCl (wX8 E a0 z.2 t0) H) e9 hP) hS dX8_see_91
        · have hf := ite_t c_41 hf
          refine lv_bipush (v := (-4)) hx hb dX8_see_44 (by decide) ?_
          have e9 := Option.some.inj hf
          exact rt_i hx hb hr hlocks (fst_e e9) (rtP (P := fun z => va_P E.1 vwCl (wX8 E a0 z.2 t0) H) e9 hP) hS dX8_see_46
      · have hf := ite_t c_30 hf
        refine lv_bipush (v := (-2)) hx hb dX8_see_33 (by decide) ?_
        have e9 := Option.some.inj hf
        exact rt_i hx hb hr hlocks (fst_e e9) (rtP (P := fun z => va_P E.1 vwCl (wX8 E a0 z.2 t0) H) e9 hP) hS dX8_see_35
    · have hf := ite_t c_17 hf
      refine lv_iconst (v := (-1)) hx hb dX8_see_20 (by decide) ?_
      have e9 := Option.some.inj hf
      exact rt_i hx hb hr hlocks (fst_e e9) (rtP (P := fun z => va_P E.1 vwCl (wX8 E a0 z.2 t0) H) e9 hP) hS dX8_see_21
  · have hf := ite_t c_2 hf
    refine lv_aload_n hx hb dX8_see_5 rfl (lv_at hl 0 rfl) ?_
    refine lv_iconst (v := 0) hx hb dX8_see_6 (by decide) ?_
    refine va_put (ci := 8) (v := .int 0) (ty := .int) (C := RX8) (T := TX8) (N := 67) hx hb hts i_X8_see_X8 tyX8 tyX8_ok nmX8 hown hK hP (hDD s0 t0) hS 0 rfl rfl 31 (by decide) (hts _ m_X8_see_36ca5e) (fun _ h9 => h9) rfl (by decide +kernel) rfl rfl (Nat.le_of_ble_eq_true rfl) dX8_see_7 (fun H locs hP _ hS => ?_)
    obtain ⟨s0_7, hP, hf⟩ := nm_st' (P := fun z => va_P E.1 vwCl (wX8 E a0 z t0) H) hf hP
    refine lv_iconst (v := 0) hx hb dX8_see_10 (by decide) ?_
    have e9 := Option.some.inj hf
    exact rt_i hx hb hr hlocks (fst_e e9) (rtP (P := fun z => va_P E.1 vwCl (wX8 E a0 z.2 t0) H) e9 hP) hS dX8_see_11
abbrev rm_X8_isSeen : Room := { frames := 10, cells := 0, slots := 0, locals := 222 }
theorem m_X8_isSeen_36ca5e : Cond.fieldLink RX8 105 "PickedMatchModel" "seen" "I" ∈ wsX8_isSeen := by decide +kernel
theorem i_X8_isSeen_X8 : ∀ w ∈ wsX80, w ∈ wsX8_isSeen := fun _ h => List.mem_cons_of_mem _ (List.mem_append_right _ h)
theorem m_X8_isSeen_9b9f00 : Cond.fieldLink RX8 111 "PickedMatchModel" "seenWhen" "[I" ∈ wsX8_isSeen := by decide +kernel
theorem m_X8_isSeen_7bcf41 : Cond.fieldLink RX8 108 "PickedMatchModel" "seenThing" "[I" ∈ wsX8_isSeen := by decide +kernel
theorem m_X8_isSeen_6d0e43 : Cond.fieldLink RX8 114 "PickedMatchModel" "seenHad" "[Z" ∈ wsX8_isSeen := by decide +kernel
set_option maxHeartbeats 8000000 in
set_option maxRecDepth 100000 in
theorem k_X8_isSeen (l : Launch) (E : Ev) (a0 : Nat → Nat) (N : Nat) (s0 : St) (t0 : Nat → Nat → Int64) (q : (Int32 × St)) (hf : f_X8_isSeen N s0 = some q) : Ci l yX8_isSeen wsX8_isSeen rm_X8_isSeen E [.ref (a0 0)] (wX8 E a0 s0 t0) (wX8 E a0 q.2 t0) q.1 := by
  unfold f_X8_isSeen at hf
  intro sz
  refine Met.ofW (cc := cX8_isSeen) (maxL := 3) (ret := (some .boolean)) (by decide) rfl ?_
  intro p e s m args below meth c s₁ B hml hv
  obtain ⟨rfl, hsz, hP, hK, hD0, hG, hA, hAB⟩ := start hv
  have hx := B.exec
  have hb := B.bytes
  have hr := B.returns
  have hts := atoms_spec (ws := wsX8_isSeen) B.pre
  have hown : s.vm.findClass RX8 = some m.cls := findClass_of_methodNamed B.named
  have hlocks := B.notSynchronized
  subst hsz
  generalize va_A (wX8 E a0 s0 t0) s.heap.size = A0 at hD0 hA hAB ⊢
  have hDD : ∀ (s0 : St) (t0 : Nat → Nat → Int64), va_D A0 (wX8 E a0 s0 t0) := fun s0 t0 => vD_addr hD0 rfl
  have hS : va_S A0 s.heap s.heap [] := va_S.rf
  have hl := lv_entry ([.ref (a0 0)]) (n := 3) (Nat.le_of_ble_eq_true rfl)
  rw [lg_entry_eq]
  generalize (lg_sl ([.ref (a0 0)]) ++ List.replicate (3 - (lg_sl ([.ref (a0 0)])).length) Slot.unset).toArray = ls at hl ⊢
  have hl : lv_has ls 3 [(0, .ref (a0 0))] := hl
  have hL_4 : ∀ (n_4 : Nat) (s0 : St) (v1 : Int32) (v2 : Int32), l_X8_isSeen_4 N n_4 s0 v1 v2 = some q → ∀ (H : Heap) (locs : List Loc) (ls : Array Slot), va_P E.1 vwCl (wX8 E a0 s0 t0) H → va_S A0 s.heap H locs → lv_has ls 3 [(0, .ref (a0 0)), (1, .int v1), (2, .int v2)] → W p l e rm_X8_isSeen s m ([.ref (a0 0)] : List Value).toArray below meth c H locs 0 0 (MQ below (va_Qi (fun (r' : Int32) (_ : Unit) => r' = q.1) (fun _ t => va_P E.1 vwCl (wX8 E a0 q.2 t0) t.heap) A0) ([.ref (a0 0)] : List Value).toArray s 0 0 A0) (F0 m 4 ls []) := by
    intro n_4
    induction n_4 with
    | zero => intro s0 v1 v2 hf; rw [l_X8_isSeen_4] at hf; cases hf
    | succ n_4 ih_4 =>
      intro s0 v1 v2 hf H locs ls hP hS hl
      rw [l_X8_isSeen_4] at hf
      refine lv_iload_n hx hb dX8_isSeen_4 rfl (lv_at hl 2 rfl) ?_
      refine lv_aload_n hx hb dX8_isSeen_5 rfl (lv_at hl 0 rfl) ?_
      refine va_get (ci := 8) (C := RX8) (T := TX8) (N := 67) (v := .int (s0 31 0)) hx hb hts i_X8_isSeen_X8 hown hK hP 0 rfl rfl 31 (by decide) (hts _ m_X8_isSeen_36ca5e) (fun _ h9 => h9) rfl dX8_isSeen_6 ?_
      refine lv_icmp_ge (tgt := 65) hx hb dX8_isSeen_9 (by decide) (fun c_9 => ?_) (fun c_9 => ?_)
      · have hf := ite_t c_9 hf
        refine lv_iload_n hx hb dX8_isSeen_65 rfl (lv_at hl 1 rfl) ?_
        obtain ⟨hn_66, hf⟩ := cb_e hf
        have e9 := Option.some.inj hf
        exact rt_z hx hb hr (nar_b hn_66) hlocks (fst_e e9) (rtP (P := fun z => va_P E.1 vwCl (wX8 E a0 z.2 t0) H) e9 hP) hS dX8_isSeen_66
      · have hf := ite_f c_9 hf
        refine lv_iload_n hx hb dX8_isSeen_12 rfl (lv_at hl 1 rfl) ?_
        refine lv_if_eq (tgt := 65) hx hb dX8_isSeen_13 (by decide) (fun c_13 => ?_) (fun c_13 => ?_)
        · have hf := ite_t c_13 hf
          refine lv_iload_n hx hb dX8_isSeen_65 rfl (lv_at hl 1 rfl) ?_
          obtain ⟨hn_66, hf⟩ := cb_e hf
          have e9 := Option.some.inj hf
          exact rt_z hx hb hr (nar_b hn_66) hlocks (fst_e e9) (rtP (P := fun z => va_P E.1 vwCl (wX8 E a0 z.2 t0) H) e9 hP) hS dX8_isSeen_66
        · have hf := ite_f c_13 hf
          refine lv_aload_n hx hb dX8_isSeen_16 rfl (lv_at hl 0 rfl) ?_
          obtain ⟨q17, hc_17, hf⟩ := cl_e hf
          refine fin_v (E := E) (wc := wX8 E a0 s0 t0) (wc' := wX8 E a0 q17 t0) (va_runV (As := []) (rest := []) ⟨hx, hb, hml, hown, hts⟩ (k_X8_save l E a0 N s0 t0 q17 hc_17 _) (cwV 0 hts gX8_isSeen_X8_save rfl rfl rfl (by decide +kernel) ⟨(Nat.le_of_ble_eq_true rfl), (Nat.le_of_ble_eq_true rfl)⟩) (pre_v (ci := 8) (q0 := 0) hK hP (hDD s0 t0) hS hG hAB rfl rfl) rfl rfl hl.1 rfl (lv_room (Nat.le_of_ble_eq_true rfl)) dX8_isSeen_17 ⟨Nat.zero_le _, Nat.zero_le _⟩) hS (w_free (hDD s0 t0) hS hA (fun _ h => h)) (fun H locs hP1 hk hS => ?_)
          have hP := hP1
          refine lv_aload_n hx hb dX8_isSeen_20 rfl (lv_at hl 0 rfl) ?_
          refine lv_aload_n hx hb dX8_isSeen_21 rfl (lv_at hl 0 rfl) ?_
          refine va_get (ci := 8) (C := RX8) (T := TX8) (N := 67) (v := .ref (a0 20)) hx hb hts i_X8_isSeen_X8 hown hK hP 0 rfl rfl 33 (by decide) (hts _ m_X8_isSeen_9b9f00) (fun _ h9 => h9) rfl dX8_isSeen_22 ?_
          refine lv_iload_n hx hb dX8_isSeen_25 rfl (lv_at hl 2 rfl) ?_
          obtain ⟨h_26, hf⟩ := ck_e hf
          refine va_iald (cA := E.2.1) (n := 5) (f := q17 33) hx hb hK hP 20 0 rfl rfl h_26 dX8_isSeen_26 ?_
          obtain ⟨q27, hc_27, hf⟩ := cl_e hf
          refine fin_v (E := E) (wc := wX8 E a0 q17 t0) (wc' := wX8 E a0 q27 t0) (va_runV (As := [.int (q17 33 v2.toNatClampNeg)]) (rest := []) ⟨hx, hb, hml, hown, hts⟩ (k_X8_goDays l E a0 N q17 t0 (q17 33 v2.toNatClampNeg) q27 hc_27 _) (cwV 1 hts gX8_isSeen_X8_goDays rfl rfl rfl (by decide +kernel) ⟨(Nat.le_of_ble_eq_true rfl), (Nat.le_of_ble_eq_true rfl)⟩) (pre_v (ci := 8) (q0 := 0) hK hP (hDD q17 t0) hS hG hAB rfl rfl) rfl rfl hl.1 rfl (lv_room (Nat.le_of_ble_eq_true rfl)) dX8_isSeen_27 ⟨Nat.zero_le _, Nat.zero_le _⟩) hS (w_free (hDD q17 t0) hS hA (fun _ h => h)) (fun H locs hP1 hk hS => ?_)
          have hP := hP1
          refine lv_aload_n hx hb dX8_isSeen_30 rfl (lv_at hl 0 rfl) ?_
          refine lv_aload_n hx hb dX8_isSeen_31 rfl (lv_at hl 0 rfl) ?_
          refine va_get (ci := 8) (C := RX8) (T := TX8) (N := 67) (v := .ref (a0 19)) hx hb hts i_X8_isSeen_X8 hown hK hP 0 rfl rfl 32 (by decide) (hts _ m_X8_isSeen_7bcf41) (fun _ h9 => h9) rfl dX8_isSeen_32 ?_
          refine lv_iload_n hx hb dX8_isSeen_35 rfl (lv_at hl 2 rfl) ?_
          obtain ⟨h_36, hf⟩ := ck_e hf
          refine va_iald (cA := E.2.1) (n := 5) (f := q27 32) hx hb hK hP 19 0 rfl rfl h_36 dX8_isSeen_36 ?_
          obtain ⟨q37, hc_37, hf⟩ := cl_e hf
          refine fin_i (E := E) (wc := wX8 E a0 q27 t0) (wc' := wX8 E a0 q27 t0) (va_runV (As := [.int (q27 32 v2.toNatClampNeg)]) (rest := []) ⟨hx, hb, hml, hown, hts⟩ (k_X8_isHad l E a0 N q27 t0 (q27 32 v2.toNatClampNeg) q37 hc_37 _) (cwV 1 hts gX8_isSeen_X8_isHad rfl rfl rfl (by decide +kernel) ⟨(Nat.le_of_ble_eq_true rfl), (Nat.le_of_ble_eq_true rfl)⟩) (pre_v (ci := 8) (q0 := 0) hK hP (hDD q27 t0) hS hG hAB rfl rfl) rfl rfl hl.1 rfl (lv_room (Nat.le_of_ble_eq_true rfl)) dX8_isSeen_37 ⟨Nat.zero_le _, Nat.zero_le _⟩) hS (w_free (hDD q27 t0) hS hA (fun _ h => h)) (fun H locs hP1 hk hS => ?_)
          have hP := hP1
          refine lv_aload_n hx hb dX8_isSeen_40 rfl (lv_at hl 0 rfl) ?_
          refine va_get (ci := 8) (C := RX8) (T := TX8) (N := 67) (v := .ref (a0 21)) hx hb hts i_X8_isSeen_X8 hown hK hP 0 rfl rfl 34 (by decide) (hts _ m_X8_isSeen_6d0e43) (fun _ h9 => h9) rfl dX8_isSeen_41 ?_
          refine lv_iload_n hx hb dX8_isSeen_44 rfl (lv_at hl 2 rfl) ?_
          obtain ⟨h_45, hf⟩ := ck_e hf
          refine va_zald (cA := E.2.2.2.1) (n := 5) (f := q27 34) hx hb hK hP 21 2 rfl rfl h_45 dX8_isSeen_45 ?_
          refine lv_icmp_ne (tgt := 53) hx hb dX8_isSeen_46 (by decide) (fun c_46 => ?_) (fun c_46 => ?_)
          · have hf := ite_f c_46 hf
            refine lv_iconst (v := 0) hx hb dX8_isSeen_53 (by decide) ?_
            refine lv_istore_n (lv' := [(1, .int 0), (0, .ref (a0 0)), (2, .int v2)]) hx hb dX8_isSeen_54 rfl hl (Nat.le_of_ble_eq_true rfl) rfl (fun ls hl => ?_)
            refine lv_aload_n hx hb dX8_isSeen_55 rfl (lv_at hl 1 rfl) ?_
            obtain ⟨q56, hc_56, hf⟩ := cl_e hf
            refine fin_v (E := E) (wc := wX8 E a0 q27 t0) (wc' := wX8 E a0 q56 t0) (va_runV (As := []) (rest := []) ⟨hx, hb, hml, hown, hts⟩ (k_X8_putBack l E a0 N q27 t0 q56 hc_56 _) (cwV 0 hts gX8_isSeen_X8_putBack rfl rfl rfl (by decide +kernel) ⟨(Nat.le_of_ble_eq_true rfl), (Nat.le_of_ble_eq_true rfl)⟩) (pre_v (ci := 8) (q0 := 0) hK hP (hDD q27 t0) hS hG hAB rfl rfl) rfl rfl hl.1 rfl (lv_room (Nat.le_of_ble_eq_true rfl)) dX8_isSeen_56 ⟨Nat.zero_le _, Nat.zero_le _⟩) hS (w_free (hDD q27 t0) hS hA (fun _ h => h)) (fun H locs hP1 hk hS => ?_)
            have hP := hP1
            obtain ⟨x59, e_x59⟩ : ∃ y : Int32, y = v2 + 1 := ⟨_, rfl⟩
            have hf := nm_q e_x59 hf
            refine lv_iinc (v := x59) (lv' := [(2, .int x59), (1, .int 0), (0, .ref (a0 0))]) hx hb dX8_isSeen_59 hl (k := 2) rfl (by rw [e_x59]; rfl) (Nat.le_of_ble_eq_true rfl) rfl (fun ls hl => ?_)
            refine lv_goto (tgt := 4) hx hb dX8_isSeen_62 (by decide) ?_
            exact ih_4 q56 0 x59 hf _ _ _ hP hS (lv_sub hl [2, 1, 0] rfl)
          · have hf := ite_t c_46 hf
            refine lv_iconst (v := 1) hx hb dX8_isSeen_49 (by decide) ?_
            refine lv_goto (tgt := 54) hx hb dX8_isSeen_50 (by decide) ?_
            refine lv_istore_n (lv' := [(1, .int 1), (0, .ref (a0 0)), (2, .int v2)]) hx hb dX8_isSeen_54 rfl hl (Nat.le_of_ble_eq_true rfl) rfl (fun ls hl => ?_)
            refine lv_aload_n hx hb dX8_isSeen_55 rfl (lv_at hl 1 rfl) ?_
            obtain ⟨q56, hc_56, hf⟩ := cl_e hf
            refine fin_v (E := E) (wc := wX8 E a0 q27 t0) (wc' := wX8 E a0 q56 t0) (va_runV (As := []) (rest := []) ⟨hx, hb, hml, hown, hts⟩ (k_X8_putBack l E a0 N q27 t0 q56 hc_56 _) (cwV 0 hts gX8_isSeen_X8_putBack rfl rfl rfl (by decide +kernel) ⟨(Nat.le_of_ble_eq_true rfl), (Nat.le_of_ble_eq_true rfl)⟩) (pre_v (ci := 8) (q0 := 0) hK hP (hDD q27 t0) hS hG hAB rfl rfl) rfl rfl hl.1 rfl (lv_room (Nat.le_of_ble_eq_true rfl)) dX8_isSeen_56 ⟨Nat.zero_le _, Nat.zero_le _⟩) hS (w_free (hDD q27 t0) hS hA (fun _ h => h)) (fun H locs hP1 hk hS => ?_)
            have hP := hP1
            obtain ⟨x59, e_x59⟩ : ∃ y : Int32, y = v2 + 1 := ⟨_, rfl⟩
            have hf := nm_q e_x59 hf
            refine lv_iinc (v := x59) (lv' := [(2, .int x59), (1, .int 1), (0, .ref (a0 0))]) hx hb dX8_isSeen_59 hl (k := 2) rfl (by rw [e_x59]; rfl) (Nat.le_of_ble_eq_true rfl) rfl (fun ls hl => ?_)
            refine lv_goto (tgt := 4) hx hb dX8_isSeen_62 (by decide) ?_
            exact ih_4 q56 1 x59 hf _ _ _ hP hS (lv_sub hl [2, 1, 0] rfl)
  refine lv_iconst (v := 1) hx hb dX8_isSeen_0 (by decide) ?_
  refine lv_istore_n (lv' := [(1, .int 1), (0, .ref (a0 0))]) hx hb dX8_isSeen_1 rfl hl (Nat.le_of_ble_eq_true rfl) rfl (fun ls hl => ?_)
  refine lv_iconst (v := 0) hx hb dX8_isSeen_2 (by decide) ?_
  refine lv_istore_n (lv' := [(2, .int 0), (1, .int 1), (0, .ref (a0 0))]) hx hb dX8_isSeen_3 rfl hl (Nat.le_of_ble_eq_true rfl) rfl (fun ls hl => ?_)
  exact hL_4 N s0 1 0 hf _ _ _ hP hS (lv_sub hl [2, 1, 0] rfl)
