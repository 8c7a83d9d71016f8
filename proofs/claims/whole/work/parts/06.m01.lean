/-! ===== what the methods compute, and that they do: by program out of the bytecode (wip/gen) ===== -/
abbrev rm_X8_takesE : Room := { frames := 4, cells := 0, slots := 0, locals := 86 }
theorem m_X8_takesE_3e5640 : Cond.fieldLink RX8 71 "PickedMatchModel" "waits" "[I" ∈ wsX8_takesE := by decide +kernel
theorem i_X8_takesE_X8 : ∀ w ∈ wsX80, w ∈ wsX8_takesE := fun _ h => List.mem_cons_of_mem _ (List.mem_append_right _ h)
theorem m_X8_takesE_993142 : Cond.fieldLink RX8 77 "PickedMatchModel" "waiting" "I" ∈ wsX8_takesE := by decide +kernel
theorem m_X8_takesE_8d5e37 : Cond.fieldLink RX8 44 "PickedMatchModel" "at" "I" ∈ wsX8_takesE := by decide +kernel
theorem m_X8_takesE_5ff30a : Cond.fieldLink RX8 80 "PickedMatchModel" "open" "I" ∈ wsX8_takesE := by decide +kernel
theorem m_X8_takesE_33b474 : Cond.fieldLink RX8 65 "PickedMatchModel" "to" "[I" ∈ wsX8_takesE := by decide +kernel
theorem m_X8_takesE_7ec062 : Cond.fieldLink RX8 74 "PickedMatchModel" "signs" "I" ∈ wsX8_takesE := by decide +kernel
theorem m_X8_takesE_326dcb : Cond.fieldLink RX8 62 "PickedMatchModel" "from" "[I" ∈ wsX8_takesE := by decide +kernel
set_option maxHeartbeats 8000000 in
set_option maxRecDepth 100000 in
theorem k_X8_takesE (l : Launch) (E : Ev) (a0 : Nat → Nat) (N : Nat) (s0 : St) (t0 : Nat → Nat → Int64) (p1 : Int32) (q : (Int32 × St)) (hf : f_X8_takesE N s0 p1 = some q) : Ci l yX8_takesE wsX8_takesE rm_X8_takesE E [.ref (a0 0), .int p1] (wX8 E a0 s0 t0) (wX8 E a0 q.2 t0) q.1 := by
  unfold f_X8_takesE at hf
  intro sz
  refine Met.ofW (cc := cX8_takesE) (maxL := 4) (ret := (some .boolean)) (by decide) rfl ?_
  intro p e s m args below meth c s₁ B hml hv
  obtain ⟨rfl, hsz, hP, hK, hD0, hG, hA, hAB⟩ := start hv
  have hx := B.exec
  have hb := B.bytes
  have hr := B.returns
  have hts := atoms_spec (ws := wsX8_takesE) B.pre
  have hown : s.vm.findClass RX8 = some m.cls := findClass_of_methodNamed B.named
  have hlocks := B.notSynchronized
  subst hsz
  generalize va_A (wX8 E a0 s0 t0) s.heap.size = A0 at hD0 hA hAB ⊢
  have hDD : ∀ (s0 : St) (t0 : Nat → Nat → Int64), va_D A0 (wX8 E a0 s0 t0) := fun s0 t0 => vD_addr hD0 rfl
  have hS : va_S A0 s.heap s.heap [] := va_S.rf
  have hl := lv_entry ([.ref (a0 0), .int p1]) (n := 4) (Nat.le_of_ble_eq_true rfl)
  rw [lg_entry_eq]
  generalize (lg_sl ([.ref (a0 0), .int p1]) ++ List.replicate (4 - (lg_sl ([.ref (a0 0), .int p1])).length) Slot.unset).toArray = ls at hl ⊢
  have hl : lv_has ls 4 [(0, .ref (a0 0)), (1, .int p1)] := hl
  have hL_22 : ∀ (v1 : Int32) (n_22 : Nat) (s0 : St) (v2 : Int32), l_X8_takesE_22 N v1 n_22 s0 v2 = some q → ∀ (H : Heap) (locs : List Loc) (ls : Array Slot), va_P E.1 vwCl (wX8 E a0 s0 t0) H → va_S A0 s.heap H locs → lv_has ls 4 [(0, .ref (a0 0)), (1, .int v1), (2, .int v2)] → W p l e rm_X8_takesE s m ([.ref (a0 0), .int p1] : List Value).toArray below meth c H locs 0 0 (MQ below (va_Qi (fun (r' : Int32) (_ : Unit) => r' = q.1) (fun _ t => va_P E.1 vwCl (wX8 E a0 q.2 t0) t.heap) A0) ([.ref (a0 0), .int p1] : List Value).toArray s 0 0 A0) (F0 m 22 ls []) := by
    intro v1 n_22
    induction n_22 with
    | zero => intro s0 v2 hf; rw [l_X8_takesE_22] at hf; cases hf
    | succ n_22 ih_22 =>
      intro s0 v2 hf H locs ls hP hS hl
      rw [l_X8_takesE_22] at hf
      have hL_122 : ∀ (s0 : St) (v3 : Int32), j_X8_takesE_122 N (l_X8_takesE_22 N v1 n_22) s0 v1 v3 = some q → ∀ (H : Heap) (locs : List Loc) (ls : Array Slot), va_P E.1 vwCl (wX8 E a0 s0 t0) H → va_S A0 s.heap H locs → lv_has ls 4 [(0, .ref (a0 0)), (1, .int v1), (3, .int v3)] → W p l e rm_X8_takesE s m ([.ref (a0 0), .int p1] : List Value).toArray below meth c H locs 0 0 (MQ below (va_Qi (fun (r' : Int32) (_ : Unit) => r' = q.1) (fun _ t => va_P E.1 vwCl (wX8 E a0 q.2 t0) t.heap) A0) ([.ref (a0 0), .int p1] : List Value).toArray s 0 0 A0) (F0 m 122 ls []) := by
        intro s0 v3 hf H locs ls hP hS hl
        unfold j_X8_takesE_122 at hf
        refine lv_aload_n hx hb dX8_takesE_122 rfl (lv_at hl 0 rfl) ?_
        refine lv_iload_n hx hb dX8_takesE_123 rfl (lv_at hl 2 rfl) ?_
        obtain ⟨q124, hc_124, hf⟩ := cl_e hf
        refine fin_v (E := E) (wc := wX8 E a0 s0 t0) (wc' := wX8 E a0 q124 t0) (va_runV (As := [.int v3]) (rest := []) ⟨hx, hb, hml, hown, hts⟩ (k_X8_settle l E a0 N s0 t0 v3 q124 hc_124 _) (cwV 1 hts gX8_takesE_X8_settle rfl rfl rfl (by decide +kernel) ⟨(Nat.le_of_ble_eq_true rfl), (Nat.le_of_ble_eq_true rfl)⟩) (pre_v (ci := 8) (q0 := 0) hK hP (hDD s0 t0) hS hG hAB rfl rfl) rfl rfl hl.1 rfl (lv_room (Nat.le_of_ble_eq_true rfl)) dX8_takesE_124 ⟨Nat.zero_le _, Nat.zero_le _⟩) hS (w_free (hDD s0 t0) hS hA (fun _ h => h)) (fun H locs hP1 hk hS => ?_)
        have hP := hP1
        refine lv_aload_n hx hb dX8_takesE_127 rfl (lv_at hl 0 rfl) ?_
        refine va_get (ci := 8) (C := RX8) (T := TX8) (N := 67) (v := .ref (a0 13)) hx hb hts i_X8_takesE_X8 hown hK hP 0 rfl rfl 20 (by decide) (hts _ m_X8_takesE_3e5640) (fun _ h9 => h9) rfl dX8_takesE_128 ?_
        refine lv_aload_n hx hb dX8_takesE_131 rfl (lv_at hl 0 rfl) ?_
        refine va_get (ci := 8) (C := RX8) (T := TX8) (N := 67) (v := .int (q124 22 0)) hx hb hts i_X8_takesE_X8 hown hK hP 0 rfl rfl 22 (by decide) (hts _ m_X8_takesE_993142) (fun _ h9 => h9) rfl dX8_takesE_132 ?_
        refine lv_iload_n hx hb dX8_takesE_135 rfl (lv_at hl 2 rfl) ?_
        obtain ⟨h_136, hf⟩ := ck_e hf
        refine va_iast (cA := E.2.1) (n := 101) (f := q124 20) (x := v3) hx hb hK hP (hDD q124 t0) hS 13 0 rfl rfl h_136 dX8_takesE_136 (fun H locs hP _ hS => ?_)
        obtain ⟨s0_136, hP, hf⟩ := nm_st' (P := fun z => va_P E.1 vwCl (wX8 E a0 z t0) H) hf hP
        refine lv_aload_n hx hb dX8_takesE_137 rfl (lv_at hl 0 rfl) ?_
        refine lv_dup hx hb dX8_takesE_138 rfl ?_
        refine va_get (ci := 8) (C := RX8) (T := TX8) (N := 67) (v := .int (s0_136 22 0)) hx hb hts i_X8_takesE_X8 hown hK hP 0 rfl rfl 22 (by decide) (hts _ m_X8_takesE_993142) (fun _ h9 => h9) rfl dX8_takesE_139 ?_
        refine lv_iconst (v := 1) hx hb dX8_takesE_142 (by decide) ?_
        refine lv_iadd hx hb dX8_takesE_143 ?_
        refine va_put (ci := 8) (v := .int ((s0_136 22 0) + 1)) (ty := .int) (C := RX8) (T := TX8) (N := 67) hx hb hts i_X8_takesE_X8 tyX8 tyX8_ok nmX8 hown hK hP (hDD s0_136 t0) hS 0 rfl rfl 22 (by decide) (hts _ m_X8_takesE_993142) (fun _ h9 => h9) rfl (by decide +kernel) rfl rfl (Nat.le_of_ble_eq_true rfl) dX8_takesE_144 (fun H locs hP _ hS => ?_)
        obtain ⟨s0_144, hP, hf⟩ := nm_st' (P := fun z => va_P E.1 vwCl (wX8 E a0 z t0) H) hf hP
        refine lv_iconst (v := 1) hx hb dX8_takesE_147 (by decide) ?_
        refine lv_istore_n (lv' := [(2, .int 1), (0, .ref (a0 0)), (1, .int v1), (3, .int v3)]) hx hb dX8_takesE_148 rfl hl (Nat.le_of_ble_eq_true rfl) rfl (fun ls hl => ?_)
        refine lv_aload_n hx hb dX8_takesE_149 rfl (lv_at hl 1 rfl) ?_
        refine lv_dup hx hb dX8_takesE_150 rfl ?_
        refine va_get (ci := 8) (C := RX8) (T := TX8) (N := 67) (v := .int (s0_144 11 0)) hx hb hts i_X8_takesE_X8 hown hK hP 0 rfl rfl 11 (by decide) (hts _ m_X8_takesE_8d5e37) (fun _ h9 => h9) rfl dX8_takesE_151 ?_
        refine lv_iconst (v := 1) hx hb dX8_takesE_154 (by decide) ?_
        refine lv_iadd hx hb dX8_takesE_155 ?_
        refine va_put (ci := 8) (v := .int ((s0_144 11 0) + 1)) (ty := .int) (C := RX8) (T := TX8) (N := 67) hx hb hts i_X8_takesE_X8 tyX8 tyX8_ok nmX8 hown hK hP (hDD s0_144 t0) hS 0 rfl rfl 11 (by decide) (hts _ m_X8_takesE_8d5e37) (fun _ h9 => h9) rfl (by decide +kernel) rfl rfl (Nat.le_of_ble_eq_true rfl) dX8_takesE_156 (fun H locs hP _ hS => ?_)
        obtain ⟨s0_156, hP, hf⟩ := nm_st' (P := fun z => va_P E.1 vwCl (wX8 E a0 z t0) H) hf hP
        refine lv_goto (tgt := 22) hx hb dX8_takesE_159 (by decide) ?_
        exact ih_22 s0_156 1 hf _ _ _ hP hS (lv_sub hl [1, 2, 0] rfl)
      have hL_43 : ∀ (s0 : St) (v2 : Int32) (v3 : Int32), j_X8_takesE_43 N (l_X8_takesE_22 N v1 n_22) s0 v1 v2 v3 = some q → ∀ (H : Heap) (locs : List Loc) (ls : Array Slot), va_P E.1 vwCl (wX8 E a0 s0 t0) H → va_S A0 s.heap H locs → lv_has ls 4 [(0, .ref (a0 0)), (1, .int v1), (2, .int v2), (3, .int v3)] → W p l e rm_X8_takesE s m ([.ref (a0 0), .int p1] : List Value).toArray below meth c H locs 0 0 (MQ below (va_Qi (fun (r' : Int32) (_ : Unit) => r' = q.1) (fun _ t => va_P E.1 vwCl (wX8 E a0 q.2 t0) t.heap) A0) ([.ref (a0 0), .int p1] : List Value).toArray s 0 0 A0) (F0 m 43 ls []) := by
        intro s0 v2 v3 hf H locs ls hP hS hl
        unfold j_X8_takesE_43 at hf
        refine lv_aload_n hx hb dX8_takesE_43 rfl (lv_at hl 0 rfl) ?_
        refine va_get (ci := 8) (C := RX8) (T := TX8) (N := 67) (v := .int (s0 23 0)) hx hb hts i_X8_takesE_X8 hown hK hP 0 rfl rfl 23 (by decide) (hts _ m_X8_takesE_5ff30a) (fun _ h9 => h9) rfl dX8_takesE_44 ?_
        refine lv_iconst (v := 4) hx hb dX8_takesE_47 (by decide) ?_
        refine lv_icmp_ne (tgt := 53) hx hb dX8_takesE_48 (by decide) (fun c_48 => ?_) (fun c_48 => ?_)
        · have hf := ite_f c_48 hf
          refine lv_aload_n hx hb dX8_takesE_53 rfl (lv_at hl 0 rfl) ?_
          refine lv_dup hx hb dX8_takesE_54 rfl ?_
          refine va_get (ci := 8) (C := RX8) (T := TX8) (N := 67) (v := .int (s0 23 0)) hx hb hts i_X8_takesE_X8 hown hK hP 0 rfl rfl 23 (by decide) (hts _ m_X8_takesE_5ff30a) (fun _ h9 => h9) rfl dX8_takesE_55 ?_
          refine lv_iconst (v := 1) hx hb dX8_takesE_58 (by decide) ?_
          refine lv_iadd hx hb dX8_takesE_59 ?_
          refine va_put (ci := 8) (v := .int ((s0 23 0) + 1)) (ty := .int) (C := RX8) (T := TX8) (N := 67) hx hb hts i_X8_takesE_X8 tyX8 tyX8_ok nmX8 hown hK hP (hDD s0 t0) hS 0 rfl rfl 23 (by decide) (hts _ m_X8_takesE_5ff30a) (fun _ h9 => h9) rfl (by decide +kernel) rfl rfl (Nat.le_of_ble_eq_true rfl) dX8_takesE_60 (fun H locs hP _ hS => ?_)
          obtain ⟨s0_60, hP, hf⟩ := nm_st' (P := fun z => va_P E.1 vwCl (wX8 E a0 z t0) H) hf hP
          refine lv_aload_n hx hb dX8_takesE_63 rfl (lv_at hl 0 rfl) ?_
          refine va_get (ci := 8) (C := RX8) (T := TX8) (N := 67) (v := .ref (a0 13)) hx hb hts i_X8_takesE_X8 hown hK hP 0 rfl rfl 20 (by decide) (hts _ m_X8_takesE_3e5640) (fun _ h9 => h9) rfl dX8_takesE_64 ?_
          refine lv_aload_n hx hb dX8_takesE_67 rfl (lv_at hl 0 rfl) ?_
          refine va_get (ci := 8) (C := RX8) (T := TX8) (N := 67) (v := .int (s0_60 22 0)) hx hb hts i_X8_takesE_X8 hown hK hP 0 rfl rfl 22 (by decide) (hts _ m_X8_takesE_993142) (fun _ h9 => h9) rfl dX8_takesE_68 ?_
          refine lv_iload_n hx hb dX8_takesE_71 rfl (lv_at hl 3 rfl) ?_
          obtain ⟨h_72, hf⟩ := ck_e hf
          refine va_iast (cA := E.2.1) (n := 101) (f := s0_60 20) (x := v3) hx hb hK hP (hDD s0_60 t0) hS 13 0 rfl rfl h_72 dX8_takesE_72 (fun H locs hP _ hS => ?_)
          obtain ⟨s0_72, hP, hf⟩ := nm_st' (P := fun z => va_P E.1 vwCl (wX8 E a0 z t0) H) hf hP
          refine lv_aload_n hx hb dX8_takesE_73 rfl (lv_at hl 0 rfl) ?_
          refine lv_dup hx hb dX8_takesE_74 rfl ?_
          refine va_get (ci := 8) (C := RX8) (T := TX8) (N := 67) (v := .int (s0_72 22 0)) hx hb hts i_X8_takesE_X8 hown hK hP 0 rfl rfl 22 (by decide) (hts _ m_X8_takesE_993142) (fun _ h9 => h9) rfl dX8_takesE_75 ?_
          refine lv_iconst (v := 1) hx hb dX8_takesE_78 (by decide) ?_
          refine lv_iadd hx hb dX8_takesE_79 ?_
          refine va_put (ci := 8) (v := .int ((s0_72 22 0) + 1)) (ty := .int) (C := RX8) (T := TX8) (N := 67) hx hb hts i_X8_takesE_X8 tyX8 tyX8_ok nmX8 hown hK hP (hDD s0_72 t0) hS 0 rfl rfl 22 (by decide) (hts _ m_X8_takesE_993142) (fun _ h9 => h9) rfl (by decide +kernel) rfl rfl (Nat.le_of_ble_eq_true rfl) dX8_takesE_80 (fun H locs hP _ hS => ?_)
          obtain ⟨s0_80, hP, hf⟩ := nm_st' (P := fun z => va_P E.1 vwCl (wX8 E a0 z t0) H) hf hP
          refine lv_aload_n hx hb dX8_takesE_83 rfl (lv_at hl 0 rfl) ?_
          refine lv_dup hx hb dX8_takesE_84 rfl ?_
          refine va_get (ci := 8) (C := RX8) (T := TX8) (N := 67) (v := .int (s0_80 11 0)) hx hb hts i_X8_takesE_X8 hown hK hP 0 rfl rfl 11 (by decide) (hts _ m_X8_takesE_8d5e37) (fun _ h9 => h9) rfl dX8_takesE_85 ?_
          refine lv_iconst (v := 1) hx hb dX8_takesE_88 (by decide) ?_
          refine lv_iadd hx hb dX8_takesE_89 ?_
          refine va_put (ci := 8) (v := .int ((s0_80 11 0) + 1)) (ty := .int) (C := RX8) (T := TX8) (N := 67) hx hb hts i_X8_takesE_X8 tyX8 tyX8_ok nmX8 hown hK hP (hDD s0_80 t0) hS 0 rfl rfl 11 (by decide) (hts _ m_X8_takesE_8d5e37) (fun _ h9 => h9) rfl (by decide +kernel) rfl rfl (Nat.le_of_ble_eq_true rfl) dX8_takesE_90 (fun H locs hP _ hS => ?_)
          obtain ⟨s0_90, hP, hf⟩ := nm_st' (P := fun z => va_P E.1 vwCl (wX8 E a0 z t0) H) hf hP
          refine lv_goto (tgt := 22) hx hb dX8_takesE_93 (by decide) ?_
          exact ih_22 s0_90 v2 hf _ _ _ hP hS (lv_sub hl [0, 1, 2] rfl)
        · have hf := ite_t c_48 hf
          refine lv_iconst (v := 0) hx hb dX8_takesE_51 (by decide) ?_
          have e9 := Option.some.inj hf
          exact rt_z hx hb hr rfl hlocks (fst_e e9) (rtP (P := fun z => va_P E.1 vwCl (wX8 E a0 z.2 t0) H) e9 hP) hS dX8_takesE_52
      refine lv_aload_n hx hb dX8_takesE_22 rfl (lv_at hl 0 rfl) ?_
      obtain ⟨q23, hc_23, hf⟩ := cl_e hf
      refine fin_i (E := E) (wc := wX8 E a0 s0 t0) (wc' := wX8 E a0 s0 t0) (va_runV (As := []) (rest := []) ⟨hx, hb, hml, hown, hts⟩ (k_X8_next l E a0 N s0 t0 q23 hc_23 _) (cwV 0 hts gX8_takesE_X8_next rfl rfl rfl (by decide +kernel) ⟨(Nat.le_of_ble_eq_true rfl), (Nat.le_of_ble_eq_true rfl)⟩) (pre_v (ci := 8) (q0 := 0) hK hP (hDD s0 t0) hS hG hAB rfl rfl) rfl rfl hl.1 rfl (lv_room (Nat.le_of_ble_eq_true rfl)) dX8_takesE_23 ⟨Nat.zero_le _, Nat.zero_le _⟩) hS (w_free (hDD s0 t0) hS hA (fun _ h => h)) (fun H locs hP1 hk hS => ?_)
      have hP := hP1
      refine lv_istore_n (lv' := [(3, .int q23), (0, .ref (a0 0)), (1, .int v1), (2, .int v2)]) hx hb dX8_takesE_26 rfl hl (Nat.le_of_ble_eq_true rfl) rfl (fun ls hl => ?_)
      refine lv_iload_n hx hb dX8_takesE_27 rfl (lv_at hl 3 rfl) ?_
      refine lv_if_eq (tgt := 110) hx hb dX8_takesE_28 (by decide) (fun c_28 => ?_) (fun c_28 => ?_)
      · have hf := ite_t c_28 hf
        refine lv_iload_n hx hb dX8_takesE_110 rfl (lv_at hl 0 rfl) ?_
        refine lv_bipush (v := 38) hx hb dX8_takesE_111 (by decide) ?_
        refine lv_icmp_eq (tgt := 122) hx hb dX8_takesE_113 (by decide) (fun c_113 => ?_) (fun c_113 => ?_)
        · have hf := ite_t c_113 hf
          exact hL_122 s0 q23 hf _ _ _ hP hS (lv_sub hl [1, 2, 0] rfl)
        · have hf := ite_f c_113 hf
          refine lv_iload_n hx hb dX8_takesE_116 rfl (lv_at hl 0 rfl) ?_
          refine lv_bipush (v := 124) hx hb dX8_takesE_117 (by decide) ?_
          refine lv_icmp_ne (tgt := 162) hx hb dX8_takesE_119 (by decide) (fun c_119 => ?_) (fun c_119 => ?_)
          · have hf := ite_f c_119 hf
            refine lv_aload_n hx hb dX8_takesE_162 rfl (lv_at hl 1 rfl) ?_
            refine lv_bipush (v := 124) hx hb dX8_takesE_163 (by decide) ?_
            obtain ⟨q165, hc_165, hf⟩ := cl_e hf
            refine fin_v (E := E) (wc := wX8 E a0 s0 t0) (wc' := wX8 E a0 q165 t0) (va_runV (As := [.int 124]) (rest := []) ⟨hx, hb, hml, hown, hts⟩ (k_X8_settle l E a0 N s0 t0 124 q165 hc_165 _) (cwV 1 hts gX8_takesE_X8_settle rfl rfl rfl (by decide +kernel) ⟨(Nat.le_of_ble_eq_true rfl), (Nat.le_of_ble_eq_true rfl)⟩) (pre_v (ci := 8) (q0 := 0) hK hP (hDD s0 t0) hS hG hAB rfl rfl) rfl rfl hl.1 rfl (lv_room (Nat.le_of_ble_eq_true rfl)) dX8_takesE_165 ⟨Nat.zero_le _, Nat.zero_le _⟩) hS (w_free (hDD s0 t0) hS hA (fun _ h => h)) (fun H locs hP1 hk hS => ?_)
            have hP := hP1
            refine lv_aload_n hx hb dX8_takesE_168 rfl (lv_at hl 1 rfl) ?_
            refine va_get (ci := 8) (C := RX8) (T := TX8) (N := 67) (v := .ref (a0 11)) hx hb hts i_X8_takesE_X8 hown hK hP 0 rfl rfl 18 (by decide) (hts _ m_X8_takesE_33b474) (fun _ h9 => h9) rfl dX8_takesE_169 ?_
            refine lv_iload_n hx hb dX8_takesE_172 rfl (lv_at hl 2 rfl) ?_
            refine lv_aload_n hx hb dX8_takesE_173 rfl (lv_at hl 1 rfl) ?_
            refine va_get (ci := 8) (C := RX8) (T := TX8) (N := 67) (v := .int (q165 21 0)) hx hb hts i_X8_takesE_X8 hown hK hP 0 rfl rfl 21 (by decide) (hts _ m_X8_takesE_7ec062) (fun _ h9 => h9) rfl dX8_takesE_174 ?_
            obtain ⟨h_177, hf⟩ := ck_e hf
            refine va_iast (cA := E.2.1) (n := 60) (f := q165 18) (x := q165 21 0) hx hb hK hP (hDD q165 t0) hS 11 0 rfl rfl h_177 dX8_takesE_177 (fun H locs hP _ hS => ?_)
            obtain ⟨s0_177, hP, hf⟩ := nm_st' (P := fun z => va_P E.1 vwCl (wX8 E a0 z t0) H) hf hP
            refine lv_aload_n hx hb dX8_takesE_178 rfl (lv_at hl 1 rfl) ?_
            refine va_get (ci := 8) (C := RX8) (T := TX8) (N := 67) (v := .int (s0_177 22 0)) hx hb hts i_X8_takesE_X8 hown hK hP 0 rfl rfl 22 (by decide) (hts _ m_X8_takesE_993142) (fun _ h9 => h9) rfl dX8_takesE_179 ?_
            refine lv_if_ne (tgt := 187) hx hb dX8_takesE_182 (by decide) (fun c_182 => ?_) (fun c_182 => ?_)
            · have hf := ite_f c_182 hf
              refine lv_iload_n hx hb dX8_takesE_187 rfl (lv_at hl 0 rfl) ?_
              refine lv_bipush (v := 41) hx hb dX8_takesE_188 (by decide) ?_
              refine lv_icmp_eq (tgt := 195) hx hb dX8_takesE_190 (by decide) (fun c_190 => ?_) (fun c_190 => ?_)
              · have hf := ite_t c_190 hf
                refine lv_aload_n hx hb dX8_takesE_195 rfl (lv_at hl 1 rfl) ?_
                refine lv_dup hx hb dX8_takesE_196 rfl ?_
                refine va_get (ci := 8) (C := RX8) (T := TX8) (N := 67) (v := .int (s0_177 22 0)) hx hb hts i_X8_takesE_X8 hown hK hP 0 rfl rfl 22 (by decide) (hts _ m_X8_takesE_993142) (fun _ h9 => h9) rfl dX8_takesE_197 ?_
                refine lv_iconst (v := 1) hx hb dX8_takesE_200 (by decide) ?_
                refine lv_isub hx hb dX8_takesE_201 ?_
                refine va_put (ci := 8) (v := .int ((s0_177 22 0) - 1)) (ty := .int) (C := RX8) (T := TX8) (N := 67) hx hb hts i_X8_takesE_X8 tyX8 tyX8_ok nmX8 hown hK hP (hDD s0_177 t0) hS 0 rfl rfl 22 (by decide) (hts _ m_X8_takesE_993142) (fun _ h9 => h9) rfl (by decide +kernel) rfl rfl (Nat.le_of_ble_eq_true rfl) dX8_takesE_202 (fun H locs hP _ hS => ?_)
                obtain ⟨s0_202, hP, hf⟩ := nm_st' (P := fun z => va_P E.1 vwCl (wX8 E a0 z t0) H) hf hP
                refine lv_aload_n hx hb dX8_takesE_205 rfl (lv_at hl 1 rfl) ?_
                refine lv_dup hx hb dX8_takesE_206 rfl ?_
                refine va_get (ci := 8) (C := RX8) (T := TX8) (N := 67) (v := .int (s0_202 23 0)) hx hb hts i_X8_takesE_X8 hown hK hP 0 rfl rfl 23 (by decide) (hts _ m_X8_takesE_5ff30a) (fun _ h9 => h9) rfl dX8_takesE_207 ?_
                refine lv_iconst (v := 1) hx hb dX8_takesE_210 (by decide) ?_
                refine lv_isub hx hb dX8_takesE_211 ?_
                refine va_put (ci := 8) (v := .int ((s0_202 23 0) - 1)) (ty := .int) (C := RX8) (T := TX8) (N := 67) hx hb hts i_X8_takesE_X8 tyX8 tyX8_ok nmX8 hown hK hP (hDD s0_202 t0) hS 0 rfl rfl 23 (by decide) (hts _ m_X8_takesE_5ff30a) (fun _ h9 => h9) rfl (by decide +kernel) rfl rfl (Nat.le_of_ble_eq_true rfl) dX8_takesE_212 (fun H locs hP _ hS => ?_)
                obtain ⟨s0_212, hP, hf⟩ := nm_st' (P := fun z => va_P E.1 vwCl (wX8 E a0 z t0) H) hf hP
                refine lv_aload_n hx hb dX8_takesE_215 rfl (lv_at hl 1 rfl) ?_
                refine lv_dup hx hb dX8_takesE_216 rfl ?_
                refine va_get (ci := 8) (C := RX8) (T := TX8) (N := 67) (v := .int (s0_212 11 0)) hx hb hts i_X8_takesE_X8 hown hK hP 0 rfl rfl 11 (by decide) (hts _ m_X8_takesE_8d5e37) (fun _ h9 => h9) rfl dX8_takesE_217 ?_
                refine lv_iconst (v := 1) hx hb dX8_takesE_220 (by decide) ?_
                refine lv_iadd hx hb dX8_takesE_221 ?_
                refine va_put (ci := 8) (v := .int ((s0_212 11 0) + 1)) (ty := .int) (C := RX8) (T := TX8) (N := 67) hx hb hts i_X8_takesE_X8 tyX8 tyX8_ok nmX8 hown hK hP (hDD s0_212 t0) hS 0 rfl rfl 11 (by decide) (hts _ m_X8_takesE_8d5e37) (fun _ h9 => h9) rfl (by decide +kernel) rfl rfl (Nat.le_of_ble_eq_true rfl) dX8_takesE_222 (fun H locs hP _ hS => ?_)
                obtain ⟨s0_222, hP, hf⟩ := nm_st' (P := fun z => va_P E.1 vwCl (wX8 E a0 z t0) H) hf hP
                refine lv_aload_n hx hb dX8_takesE_225 rfl (lv_at hl 1 rfl) ?_
                obtain ⟨q226, hc_226, hf⟩ := cl_e hf
                refine fin_v (E := E) (wc := wX8 E a0 s0_222 t0) (wc' := wX8 E a0 q226 t0) (va_runV (As := []) (rest := []) ⟨hx, hb, hml, hown, hts⟩ (k_X8_whole l E a0 N s0_222 t0 q226 hc_226 _) (cwV 0 hts gX8_takesE_X8_whole rfl rfl rfl (by decide +kernel) ⟨(Nat.le_of_ble_eq_true rfl), (Nat.le_of_ble_eq_true rfl)⟩) (pre_v (ci := 8) (q0 := 0) hK hP (hDD s0_222 t0) hS hG hAB rfl rfl) rfl rfl hl.1 rfl (lv_room (Nat.le_of_ble_eq_true rfl)) dX8_takesE_226 ⟨Nat.zero_le _, Nat.zero_le _⟩) hS (w_free (hDD s0_222 t0) hS hA (fun _ h => h)) (fun H locs hP1 hk hS => ?_)
                have hP := hP1
                refine lv_goto (tgt := 22) hx hb dX8_takesE_229 (by decide) ?_
                exact ih_22 q226 v2 hf _ _ _ hP hS (lv_sub hl [1, 2, 3] rfl)
              · have hf := ite_f c_190 hf
                refine lv_iconst (v := 0) hx hb dX8_takesE_193 (by decide) ?_
                have e9 := Option.some.inj hf
                exact rt_z hx hb hr rfl hlocks (fst_e e9) (rtP (P := fun z => va_P E.1 vwCl (wX8 E a0 z.2 t0) H) e9 hP) hS dX8_takesE_194
            · have hf := ite_t c_182 hf
              refine lv_iconst (v := 1) hx hb dX8_takesE_185 (by decide) ?_
              have e9 := Option.some.inj hf
              exact rt_z hx hb hr rfl hlocks (fst_e e9) (rtP (P := fun z => va_P E.1 vwCl (wX8 E a0 z.2 t0) H) e9 hP) hS dX8_takesE_186
          · have hf := ite_t c_119 hf
            exact hL_122 s0 q23 hf _ _ _ hP hS (lv_sub hl [1, 2, 0] rfl)
      · have hf := ite_f c_28 hf
        refine lv_iload_n hx hb dX8_takesE_31 rfl (lv_at hl 0 rfl) ?_
        refine lv_bipush (v := 33) hx hb dX8_takesE_32 (by decide) ?_
        refine lv_icmp_eq (tgt := 43) hx hb dX8_takesE_34 (by decide) (fun c_34 => ?_) (fun c_34 => ?_)
        · have hf := ite_t c_34 hf
          exact hL_43 s0 v2 q23 hf _ _ _ hP hS (lv_sub hl [1, 2, 3, 0] rfl)
        · have hf := ite_f c_34 hf
          refine lv_iload_n hx hb dX8_takesE_37 rfl (lv_at hl 0 rfl) ?_
          refine lv_bipush (v := 40) hx hb dX8_takesE_38 (by decide) ?_
          refine lv_icmp_ne (tgt := 96) hx hb dX8_takesE_40 (by decide) (fun c_40 => ?_) (fun c_40 => ?_)
          · have hf := ite_f c_40 hf
            refine lv_aload_n hx hb dX8_takesE_96 rfl (lv_at hl 1 rfl) ?_
            obtain ⟨q97, hc_97, hf⟩ := cl_e hf
            refine fin_i (E := E) (wc := wX8 E a0 s0 t0) (wc' := wX8 E a0 q97.2 t0) (va_runV (As := []) (rest := []) ⟨hx, hb, hml, hown, hts⟩ (k_X8_takesTest l E a0 N s0 t0 q97 hc_97 _) (cwV 0 hts gX8_takesE_X8_takesTest rfl rfl rfl (by decide +kernel) ⟨(Nat.le_of_ble_eq_true rfl), (Nat.le_of_ble_eq_true rfl)⟩) (pre_v (ci := 8) (q0 := 0) hK hP (hDD s0 t0) hS hG hAB rfl rfl) rfl rfl hl.1 rfl (lv_room (Nat.le_of_ble_eq_true rfl)) dX8_takesE_97 ⟨Nat.zero_le _, Nat.zero_le _⟩) hS (w_free (hDD s0 t0) hS hA (fun _ h => h)) (fun H locs hP1 hk hS => ?_)
            have hP := hP1
            refine lv_if_eq (tgt := 108) hx hb dX8_takesE_100 (by decide) (fun c_100 => ?_) (fun c_100 => ?_)
            · have hf := ite_t c_100 hf
              refine lv_iconst (v := 0) hx hb dX8_takesE_108 (by decide) ?_
              have e9 := Option.some.inj hf
              exact rt_z hx hb hr rfl hlocks (fst_e e9) (rtP (P := fun z => va_P E.1 vwCl (wX8 E a0 z.2 t0) H) e9 hP) hS dX8_takesE_109
            · have hf := ite_f c_100 hf
              refine lv_iconst (v := 0) hx hb dX8_takesE_103 (by decide) ?_
              refine lv_istore_n (lv' := [(2, .int 0), (3, .int q23), (0, .ref (a0 0)), (1, .int v1)]) hx hb dX8_takesE_104 rfl hl (Nat.le_of_ble_eq_true rfl) rfl (fun ls hl => ?_)
              refine lv_goto (tgt := 22) hx hb dX8_takesE_105 (by decide) ?_
              exact ih_22 q97.2 0 hf _ _ _ hP hS (lv_sub hl [2, 3, 0] rfl)
          · have hf := ite_t c_40 hf
            exact hL_43 s0 v2 q23 hf _ _ _ hP hS (lv_sub hl [1, 2, 3, 0] rfl)
  refine lv_aload_n hx hb dX8_takesE_0 rfl (lv_at hl 0 rfl) ?_
  refine lv_iconst (v := 0) hx hb dX8_takesE_1 (by decide) ?_
  refine va_put (ci := 8) (v := .int 0) (ty := .int) (C := RX8) (T := TX8) (N := 67) hx hb hts i_X8_takesE_X8 tyX8 tyX8_ok nmX8 hown hK hP (hDD s0 t0) hS 0 rfl rfl 22 (by decide) (hts _ m_X8_takesE_993142) (fun _ h9 => h9) rfl (by decide +kernel) rfl rfl (Nat.le_of_ble_eq_true rfl) dX8_takesE_2 (fun H locs hP _ hS => ?_)
  obtain ⟨s0_2, hP, hf⟩ := nm_st' (P := fun z => va_P E.1 vwCl (wX8 E a0 z t0) H) hf hP
  refine lv_aload_n hx hb dX8_takesE_5 rfl (lv_at hl 0 rfl) ?_
  refine lv_iconst (v := 0) hx hb dX8_takesE_6 (by decide) ?_
  refine va_put (ci := 8) (v := .int 0) (ty := .int) (C := RX8) (T := TX8) (N := 67) hx hb hts i_X8_takesE_X8 tyX8 tyX8_ok nmX8 hown hK hP (hDD s0_2 t0) hS 0 rfl rfl 23 (by decide) (hts _ m_X8_takesE_5ff30a) (fun _ h9 => h9) rfl (by decide +kernel) rfl rfl (Nat.le_of_ble_eq_true rfl) dX8_takesE_7 (fun H locs hP _ hS => ?_)
  obtain ⟨s0_7, hP, hf⟩ := nm_st' (P := fun z => va_P E.1 vwCl (wX8 E a0 z t0) H) hf hP
  refine lv_aload_n hx hb dX8_takesE_10 rfl (lv_at hl 0 rfl) ?_
  refine va_get (ci := 8) (C := RX8) (T := TX8) (N := 67) (v := .ref (a0 10)) hx hb hts i_X8_takesE_X8 hown hK hP 0 rfl rfl 17 (by decide) (hts _ m_X8_takesE_326dcb) (fun _ h9 => h9) rfl dX8_takesE_11 ?_
  refine lv_iload_n hx hb dX8_takesE_14 rfl (lv_at hl 1 rfl) ?_
  refine lv_aload_n hx hb dX8_takesE_15 rfl (lv_at hl 0 rfl) ?_
  refine va_get (ci := 8) (C := RX8) (T := TX8) (N := 67) (v := .int (s0_7 21 0)) hx hb hts i_X8_takesE_X8 hown hK hP 0 rfl rfl 21 (by decide) (hts _ m_X8_takesE_7ec062) (fun _ h9 => h9) rfl dX8_takesE_16 ?_
  obtain ⟨h_19, hf⟩ := ck_e hf
  refine va_iast (cA := E.2.1) (n := 60) (f := s0_7 17) (x := s0_7 21 0) hx hb hK hP (hDD s0_7 t0) hS 10 0 rfl rfl h_19 dX8_takesE_19 (fun H locs hP _ hS => ?_)
  obtain ⟨s0_19, hP, hf⟩ := nm_st' (P := fun z => va_P E.1 vwCl (wX8 E a0 z t0) H) hf hP
  refine lv_iconst (v := 1) hx hb dX8_takesE_20 (by decide) ?_
  refine lv_istore_n (lv' := [(2, .int 1), (0, .ref (a0 0)), (1, .int p1)]) hx hb dX8_takesE_21 rfl hl (Nat.le_of_ble_eq_true rfl) rfl (fun ls hl => ?_)
  exact hL_22 p1 N s0_19 1 hf _ _ _ hP hS (lv_sub hl [1, 2, 0] rfl)
abbrev rm_X8_takesHead : Room := { frames := 3, cells := 0, slots := 0, locals := 64 }
theorem m_X8_takesHead_bd45d2 : Cond.fieldLink RX8 56 "PickedMatchModel" "word" "[I" ∈ wsX8_takesHead := by decide +kernel
theorem i_X8_takesHead_X8 : ∀ w ∈ wsX80, w ∈ wsX8_takesHead := fun _ h => List.mem_cons_of_mem _ (List.mem_append_right _ h)
set_option maxHeartbeats 8000000 in
set_option maxRecDepth 100000 in
theorem k_X8_takesHead (l : Launch) (E : Ev) (a0 : Nat → Nat) (N : Nat) (s0 : St) (t0 : Nat → Nat → Int64) (p1 : Int32) (q : (Int32 × St)) (hf : f_X8_takesHead N s0 p1 = some q) : Ci l yX8_takesHead wsX8_takesHead rm_X8_takesHead E [.ref (a0 0), .int p1] (wX8 E a0 s0 t0) (wX8 E a0 q.2 t0) q.1 := by
  unfold f_X8_takesHead at hf
  intro sz
  refine Met.ofW (cc := cX8_takesHead) (maxL := 2) (ret := (some .boolean)) (by decide) rfl ?_
  intro p e s m args below meth c s₁ B hml hv
  obtain ⟨rfl, hsz, hP, hK, hD0, hG, hA, hAB⟩ := start hv
  have hx := B.exec
  have hb := B.bytes
  have hr := B.returns
  have hts := atoms_spec (ws := wsX8_takesHead) B.pre
  have hown : s.vm.findClass RX8 = some m.cls := findClass_of_methodNamed B.named
  have hlocks := B.notSynchronized
  subst hsz
  generalize va_A (wX8 E a0 s0 t0) s.heap.size = A0 at hD0 hA hAB ⊢
  have hDD : ∀ (s0 : St) (t0 : Nat → Nat → Int64), va_D A0 (wX8 E a0 s0 t0) := fun s0 t0 => vD_addr hD0 rfl
  have hS : va_S A0 s.heap s.heap [] := va_S.rf
  have hl := lv_entry ([.ref (a0 0), .int p1]) (n := 2) (Nat.le_of_ble_eq_true rfl)
  rw [lg_entry_eq]
  generalize (lg_sl ([.ref (a0 0), .int p1]) ++ List.replicate (2 - (lg_sl ([.ref (a0 0), .int p1])).length) Slot.unset).toArray = ls at hl ⊢
  have hl : lv_has ls 2 [(0, .ref (a0 0)), (1, .int p1)] := hl
  refine lv_aload_n hx hb dX8_takesHead_0 rfl (lv_at hl 0 rfl) ?_
  obtain ⟨q1, hc_1, hf⟩ := cl_e hf
  refine fin_i (E := E) (wc := wX8 E a0 s0 t0) (wc' := wX8 E a0 s0 t0) (va_runV (As := []) (rest := []) ⟨hx, hb, hml, hown, hts⟩ (k_X8_next l E a0 N s0 t0 q1 hc_1 _) (cwV 0 hts gX8_takesHead_X8_next rfl rfl rfl (by decide +kernel) ⟨(Nat.le_of_ble_eq_true rfl), (Nat.le_of_ble_eq_true rfl)⟩) (pre_v (ci := 8) (q0 := 0) hK hP (hDD s0 t0) hS hG hAB rfl rfl) rfl rfl hl.1 rfl (lv_room (Nat.le_of_ble_eq_true rfl)) dX8_takesHead_1 ⟨Nat.zero_le _, Nat.zero_le _⟩) hS (w_free (hDD s0 t0) hS hA (fun _ h => h)) (fun H locs hP1 hk hS => ?_)
  have hP := hP1
  by_cases c_4_0 : q1 = 108
  · have hf := ite_t c_4_0 hf
    refine lv_tableIn (off := 28) (tgt := 32) hx hb dX8_takesHead_4 (by rw [c_4_0]; decide) (by rw [c_4_0]; decide) (by rw [c_4_0]; rfl) (by decide) ?_
    refine lv_aload_n hx hb dX8_takesHead_32 rfl (lv_at hl 0 rfl) ?_
    refine va_get (ci := 8) (C := RX8) (T := TX8) (N := 67) (v := .ref (a0 8)) hx hb hts i_X8_takesHead_X8 hown hK hP 0 rfl rfl 15 (by decide) (hts _ m_X8_takesHead_bd45d2) (fun _ h9 => h9) rfl dX8_takesHead_33 ?_
    refine lv_iload_n hx hb dX8_takesHead_36 rfl (lv_at hl 1 rfl) ?_
    refine lv_iconst (v := 0) hx hb dX8_takesHead_37 (by decide) ?_
    obtain ⟨h_38, hf⟩ := ck_e hf
    refine va_iast (cA := E.2.1) (n := 60) (f := s0 15) (x := 0) hx hb hK hP (hDD s0 t0) hS 8 0 rfl rfl h_38 dX8_takesHead_38 (fun H locs hP _ hS => ?_)
    obtain ⟨s0_38, hP, hf⟩ := nm_st' (P := fun z => va_P E.1 vwCl (wX8 E a0 z t0) H) hf hP
    refine lv_aload_n hx hb dX8_takesHead_39 rfl (lv_at hl 0 rfl) ?_
    refine lv_iconst (v := 0) hx hb dX8_takesHead_40 (by decide) ?_
    refine lv_iconst (v := 4) hx hb dX8_takesHead_41 (by decide) ?_
    obtain ⟨q42, hc_42, hf⟩ := cl_e hf
    refine fin_i (E := E) (wc := wX8 E a0 s0_38 t0) (wc' := wX8 E a0 q42.2 t0) (va_runV (As := [.int 0, .int 4]) (rest := []) ⟨hx, hb, hml, hown, hts⟩ (k_X8_takesWord l E a0 N s0_38 t0 0 4 q42 hc_42 _) (cwV 2 hts gX8_takesHead_X8_takesWord rfl rfl rfl (by decide +kernel) ⟨(Nat.le_of_ble_eq_true rfl), (Nat.le_of_ble_eq_true rfl)⟩) (pre_v (ci := 8) (q0 := 0) hK hP (hDD s0_38 t0) hS hG hAB rfl rfl) rfl rfl hl.1 rfl (lv_room (Nat.le_of_ble_eq_true rfl)) dX8_takesHead_42 ⟨Nat.zero_le _, Nat.zero_le _⟩) hS (w_free (hDD s0_38 t0) hS hA (fun _ h => h)) (fun H locs hP1 hk hS => ?_)
    have hP := hP1
    obtain ⟨hn_45, hf⟩ := cb_e hf
    have e9 := Option.some.inj hf
    exact rt_z hx hb hr (nar_b hn_45) hlocks (fst_e e9) (rtP (P := fun z => va_P E.1 vwCl (wX8 E a0 z.2 t0) H) e9 hP) hS dX8_takesHead_45
  · have hf := ite_f c_4_0 hf
    by_cases c_4_1 : q1 = 109
    · have hf := ite_t c_4_1 hf
      refine lv_tableIn (off := 42) (tgt := 46) hx hb dX8_takesHead_4 (by rw [c_4_1]; decide) (by rw [c_4_1]; decide) (by rw [c_4_1]; rfl) (by decide) ?_
      refine lv_aload_n hx hb dX8_takesHead_46 rfl (lv_at hl 0 rfl) ?_
      refine va_get (ci := 8) (C := RX8) (T := TX8) (N := 67) (v := .ref (a0 8)) hx hb hts i_X8_takesHead_X8 hown hK hP 0 rfl rfl 15 (by decide) (hts _ m_X8_takesHead_bd45d2) (fun _ h9 => h9) rfl dX8_takesHead_47 ?_
      refine lv_iload_n hx hb dX8_takesHead_50 rfl (lv_at hl 1 rfl) ?_
      refine lv_iconst (v := 1) hx hb dX8_takesHead_51 (by decide) ?_
      obtain ⟨h_52, hf⟩ := ck_e hf
      refine va_iast (cA := E.2.1) (n := 60) (f := s0 15) (x := 1) hx hb hK hP (hDD s0 t0) hS 8 0 rfl rfl h_52 dX8_takesHead_52 (fun H locs hP _ hS => ?_)
      obtain ⟨s0_52, hP, hf⟩ := nm_st' (P := fun z => va_P E.1 vwCl (wX8 E a0 z t0) H) hf hP
      refine lv_aload_n hx hb dX8_takesHead_53 rfl (lv_at hl 0 rfl) ?_
      refine lv_iconst (v := 4) hx hb dX8_takesHead_54 (by decide) ?_
      refine lv_iconst (v := 4) hx hb dX8_takesHead_55 (by decide) ?_
      obtain ⟨q56, hc_56, hf⟩ := cl_e hf
      refine fin_i (E := E) (wc := wX8 E a0 s0_52 t0) (wc' := wX8 E a0 q56.2 t0) (va_runV (As := [.int 4, .int 4]) (rest := []) ⟨hx, hb, hml, hown, hts⟩ (k_X8_takesWord l E a0 N s0_52 t0 4 4 q56 hc_56 _) (cwV 2 hts gX8_takesHead_X8_takesWord rfl rfl rfl (by decide +kernel) ⟨(Nat.le_of_ble_eq_true rfl), (Nat.le_of_ble_eq_true rfl)⟩) (pre_v (ci := 8) (q0 := 0) hK hP (hDD s0_52 t0) hS hG hAB rfl rfl) rfl rfl hl.1 rfl (lv_room (Nat.le_of_ble_eq_true rfl)) dX8_takesHead_56 ⟨Nat.zero_le _, Nat.zero_le _⟩) hS (w_free (hDD s0_52 t0) hS hA (fun _ h => h)) (fun H locs hP1 hk hS => ?_)
      have hP := hP1
      obtain ⟨hn_59, hf⟩ := cb_e hf
      have e9 := Option.some.inj hf
      exact rt_z hx hb hr (nar_b hn_59) hlocks (fst_e e9) (rtP (P := fun z => va_P E.1 vwCl (wX8 E a0 z.2 t0) H) e9 hP) hS dX8_takesHead_59
    · have hf := ite_f c_4_1 hf
      by_cases c_4_2 : q1 = 110
      · have hf := ite_t c_4_2 hf
        refine lv_tableIn (off := 56) (tgt := 60) hx hb dX8_takesHead_4 (by rw [c_4_2]; decide) (by rw [c_4_2]; decide) (by rw [c_4_2]; rfl) (by decide) ?_
        refine lv_aload_n hx hb dX8_takesHead_60 rfl (lv_at hl 0 rfl) ?_
        refine va_get (ci := 8) (C := RX8) (T := TX8) (N := 67) (v := .ref (a0 8)) hx hb hts i_X8_takesHead_X8 hown hK hP 0 rfl rfl 15 (by decide) (hts _ m_X8_takesHead_bd45d2) (fun _ h9 => h9) rfl dX8_takesHead_61 ?_
        refine lv_iload_n hx hb dX8_takesHead_64 rfl (lv_at hl 1 rfl) ?_
        refine lv_iconst (v := 2) hx hb dX8_takesHead_65 (by decide) ?_
        obtain ⟨h_66, hf⟩ := ck_e hf
        refine va_iast (cA := E.2.1) (n := 60) (f := s0 15) (x := 2) hx hb hK hP (hDD s0 t0) hS 8 0 rfl rfl h_66 dX8_takesHead_66 (fun H locs hP _ hS => ?_)
        obtain ⟨s0_66, hP, hf⟩ := nm_st' (P := fun z => va_P E.1 vwCl (wX8 E a0 z t0) H) hf hP
        refine lv_aload_n hx hb dX8_takesHead_67 rfl (lv_at hl 0 rfl) ?_
        refine lv_bipush (v := 8) hx hb dX8_takesHead_68 (by decide) ?_
        refine lv_iconst (v := 4) hx hb dX8_takesHead_70 (by decide) ?_
        obtain ⟨q71, hc_71, hf⟩ := cl_e hf
        refine fin_i (E := E) (wc := wX8 E a0 s0_66 t0) (wc' := wX8 E a0 q71.2 t0) (va_runV (As := [.int 8, .int 4]) (rest := []) ⟨hx, hb, hml, hown, hts⟩ (k_X8_takesWord l E a0 N s0_66 t0 8 4 q71 hc_71 _) (cwV 2 hts gX8_takesHead_X8_takesWord rfl rfl rfl (by decide +kernel) ⟨(Nat.le_of_ble_eq_true rfl), (Nat.le_of_ble_eq_true rfl)⟩) (pre_v (ci := 8) (q0 := 0) hK hP (hDD s0_66 t0) hS hG hAB rfl rfl) rfl rfl hl.1 rfl (lv_room (Nat.le_of_ble_eq_true rfl)) dX8_takesHead_71 ⟨Nat.zero_le _, Nat.zero_le _⟩) hS (w_free (hDD s0_66 t0) hS hA (fun _ h => h)) (fun H locs hP1 hk hS => ?_)
        have hP := hP1
        obtain ⟨hn_74, hf⟩ := cb_e hf
        have e9 := Option.some.inj hf
        exact rt_z hx hb hr (nar_b hn_74) hlocks (fst_e e9) (rtP (P := fun z => va_P E.1 vwCl (wX8 E a0 z.2 t0) H) e9 hP) hS dX8_takesHead_74
      · have hf := ite_f c_4_2 hf
        refine lv_tableOut (tgt := 75) hx hb dX8_takesHead_4 (by have n0 := lv_neT (a := 108) c_4_0 (by decide); have n1 := lv_neT (a := 109) c_4_1 (by decide); have n2 := lv_neT (a := 110) c_4_2 (by decide); omega) (by decide) ?_
        refine lv_aload_n hx hb dX8_takesHead_75 rfl (lv_at hl 0 rfl) ?_
        refine va_get (ci := 8) (C := RX8) (T := TX8) (N := 67) (v := .ref (a0 8)) hx hb hts i_X8_takesHead_X8 hown hK hP 0 rfl rfl 15 (by decide) (hts _ m_X8_takesHead_bd45d2) (fun _ h9 => h9) rfl dX8_takesHead_76 ?_
        refine lv_iload_n hx hb dX8_takesHead_79 rfl (lv_at hl 1 rfl) ?_
        refine lv_iconst (v := 3) hx hb dX8_takesHead_80 (by decide) ?_
        obtain ⟨h_81, hf⟩ := ck_e hf
        refine va_iast (cA := E.2.1) (n := 60) (f := s0 15) (x := 3) hx hb hK hP (hDD s0 t0) hS 8 0 rfl rfl h_81 dX8_takesHead_81 (fun H locs hP _ hS => ?_)
        obtain ⟨s0_81, hP, hf⟩ := nm_st' (P := fun z => va_P E.1 vwCl (wX8 E a0 z t0) H) hf hP
        refine lv_aload_n hx hb dX8_takesHead_82 rfl (lv_at hl 0 rfl) ?_
        refine lv_bipush (v := 12) hx hb dX8_takesHead_83 (by decide) ?_
        refine lv_iconst (v := 4) hx hb dX8_takesHead_85 (by decide) ?_
        obtain ⟨q86, hc_86, hf⟩ := cl_e hf
        refine fin_i (E := E) (wc := wX8 E a0 s0_81 t0) (wc' := wX8 E a0 q86.2 t0) (va_runV (As := [.int 12, .int 4]) (rest := []) ⟨hx, hb, hml, hown, hts⟩ (k_X8_takesWord l E a0 N s0_81 t0 12 4 q86 hc_86 _) (cwV 2 hts gX8_takesHead_X8_takesWord rfl rfl rfl (by decide +kernel) ⟨(Nat.le_of_ble_eq_true rfl), (Nat.le_of_ble_eq_true rfl)⟩) (pre_v (ci := 8) (q0 := 0) hK hP (hDD s0_81 t0) hS hG hAB rfl rfl) rfl rfl hl.1 rfl (lv_room (Nat.le_of_ble_eq_true rfl)) dX8_takesHead_86 ⟨Nat.zero_le _, Nat.zero_le _⟩) hS (w_free (hDD s0_81 t0) hS hA (fun _ h => h)) (fun H locs hP1 hk hS => ?_)
        have hP := hP1
        obtain ⟨hn_89, hf⟩ := cb_e hf
        have e9 := Option.some.inj hf
        exact rt_z hx hb hr (nar_b hn_89) hlocks (fst_e e9) (rtP (P := fun z => va_P E.1 vwCl (wX8 E a0 z.2 t0) H) e9 hP) hS dX8_takesHead_89
abbrev rm_X8_takesClause : Room := { frames := 5, cells := 0, slots := 0, locals := 109 }
theorem m_X8_takesClause_2bbf14 : Cond.fieldLink RX8 59 "PickedMatchModel" "number" "[I" ∈ wsX8_takesClause := by decide +kernel
theorem i_X8_takesClause_X8 : ∀ w ∈ wsX80, w ∈ wsX8_takesClause := fun _ h => List.mem_cons_of_mem _ (List.mem_append_right _ h)
theorem m_X8_takesClause_e7685d : Cond.fieldLink RX8 47 "PickedMatchModel" "digits" "I" ∈ wsX8_takesClause := by decide +kernel
theorem m_X8_takesClause_bd45d2 : Cond.fieldLink RX8 56 "PickedMatchModel" "word" "[I" ∈ wsX8_takesClause := by decide +kernel
set_option maxHeartbeats 8000000 in
set_option maxRecDepth 100000 in
theorem k_X8_takesClause (l : Launch) (E : Ev) (a0 : Nat → Nat) (N : Nat) (s0 : St) (t0 : Nat → Nat → Int64) (p1 : Int32) (q : (Int32 × St)) (hf : f_X8_takesClause N s0 p1 = some q) : Ci l yX8_takesClause wsX8_takesClause rm_X8_takesClause E [.ref (a0 0), .int p1] (wX8 E a0 s0 t0) (wX8 E a0 q.2 t0) q.1 := by
  unfold f_X8_takesClause at hf
  intro sz
  refine Met.ofW (cc := cX8_takesClause) (maxL := 2) (ret := (some .boolean)) (by decide) rfl ?_
  intro p e s m args below meth c s₁ B hml hv
  obtain ⟨rfl, hsz, hP, hK, hD0, hG, hA, hAB⟩ := start hv
  have hx := B.exec
  have hb := B.bytes
  have hr := B.returns
  have hts := atoms_spec (ws := wsX8_takesClause) B.pre
  have hown : s.vm.findClass RX8 = some m.cls := findClass_of_methodNamed B.named
  have hlocks := B.notSynchronized
  subst hsz
  generalize va_A (wX8 E a0 s0 t0) s.heap.size = A0 at hD0 hA hAB ⊢
  have hDD : ∀ (s0 : St) (t0 : Nat → Nat → Int64), va_D A0 (wX8 E a0 s0 t0) := fun s0 t0 => vD_addr hD0 rfl
  have hS : va_S A0 s.heap s.heap [] := va_S.rf
  have hl := lv_entry ([.ref (a0 0), .int p1]) (n := 2) (Nat.le_of_ble_eq_true rfl)
  rw [lg_entry_eq]
  generalize (lg_sl ([.ref (a0 0), .int p1]) ++ List.replicate (2 - (lg_sl ([.ref (a0 0), .int p1])).length) Slot.unset).toArray = ls at hl ⊢
  have hl : lv_has ls 2 [(0, .ref (a0 0)), (1, .int p1)] := hl
  refine lv_aload_n hx hb dX8_takesClause_0 rfl (lv_at hl 0 rfl) ?_
  refine lv_iload_n hx hb dX8_takesClause_1 rfl (lv_at hl 1 rfl) ?_
  obtain ⟨q2, hc_2, hf⟩ := cl_e hf
  refine fin_i (E := E) (wc := wX8 E a0 s0 t0) (wc' := wX8 E a0 q2.2 t0) (va_runV (As := [.int p1]) (rest := []) ⟨hx, hb, hml, hown, hts⟩ (k_X8_takesHead l E a0 N s0 t0 p1 q2 hc_2 _) (cwV 1 hts gX8_takesClause_X8_takesHead rfl rfl rfl (by decide +kernel) ⟨(Nat.le_of_ble_eq_true rfl), (Nat.le_of_ble_eq_true rfl)⟩) (pre_v (ci := 8) (q0 := 0) hK hP (hDD s0 t0) hS hG hAB rfl rfl) rfl rfl hl.1 rfl (lv_room (Nat.le_of_ble_eq_true rfl)) dX8_takesClause_2 ⟨Nat.zero_le _, Nat.zero_le _⟩) hS (w_free (hDD s0 t0) hS hA (fun _ h => h)) (fun H locs hP1 hk hS => ?_)
  have hP := hP1
  refine lv_if_eq (tgt := 15) hx hb dX8_takesClause_5 (by decide) (fun c_5 => ?_) (fun c_5 => ?_)
  · have hf := ite_t c_5 hf
    refine lv_iconst (v := 0) hx hb dX8_takesClause_15 (by decide) ?_
    have e9 := Option.some.inj hf
    exact rt_z hx hb hr rfl hlocks (fst_e e9) (rtP (P := fun z => va_P E.1 vwCl (wX8 E a0 z.2 t0) H) e9 hP) hS dX8_takesClause_16
  · have hf := ite_f c_5 hf
    refine lv_aload_n hx hb dX8_takesClause_8 rfl (lv_at hl 0 rfl) ?_
    obtain ⟨q9, hc_9, hf⟩ := cl_e hf
    refine fin_i (E := E) (wc := wX8 E a0 q2.2 t0) (wc' := wX8 E a0 q9.2 t0) (va_runV (As := []) (rest := []) ⟨hx, hb, hml, hown, hts⟩ (k_X8_takesNumber l E a0 N q2.2 t0 q9 hc_9 _) (cwV 0 hts gX8_takesClause_X8_takesNumber rfl rfl rfl (by decide +kernel) ⟨(Nat.le_of_ble_eq_true rfl), (Nat.le_of_ble_eq_true rfl)⟩) (pre_v (ci := 8) (q0 := 0) hK hP (hDD q2.2 t0) hS hG hAB rfl rfl) rfl rfl hl.1 rfl (lv_room (Nat.le_of_ble_eq_true rfl)) dX8_takesClause_9 ⟨Nat.zero_le _, Nat.zero_le _⟩) hS (w_free (hDD q2.2 t0) hS hA (fun _ h => h)) (fun H locs hP1 hk hS => ?_)
    have hP := hP1
    refine lv_if_ne (tgt := 17) hx hb dX8_takesClause_12 (by decide) (fun c_12 => ?_) (fun c_12 => ?_)
    · have hf := ite_f c_12 hf
      refine lv_aload_n hx hb dX8_takesClause_17 rfl (lv_at hl 0 rfl) ?_
      refine va_get (ci := 8) (C := RX8) (T := TX8) (N := 67) (v := .ref (a0 9)) hx hb hts i_X8_takesClause_X8 hown hK hP 0 rfl rfl 16 (by decide) (hts _ m_X8_takesClause_2bbf14) (fun _ h9 => h9) rfl dX8_takesClause_18 ?_
      refine lv_iload_n hx hb dX8_takesClause_21 rfl (lv_at hl 1 rfl) ?_
      refine lv_aload_n hx hb dX8_takesClause_22 rfl (lv_at hl 0 rfl) ?_
      refine va_get (ci := 8) (C := RX8) (T := TX8) (N := 67) (v := .int (q9.2 12 0)) hx hb hts i_X8_takesClause_X8 hown hK hP 0 rfl rfl 12 (by decide) (hts _ m_X8_takesClause_e7685d) (fun _ h9 => h9) rfl dX8_takesClause_23 ?_
      obtain ⟨h_26, hf⟩ := ck_e hf
      refine va_iast (cA := E.2.1) (n := 60) (f := q9.2 16) (x := q9.2 12 0) hx hb hK hP (hDD q9.2 t0) hS 9 0 rfl rfl h_26 dX8_takesClause_26 (fun H locs hP _ hS => ?_)
      obtain ⟨s0_26, hP, hf⟩ := nm_st' (P := fun z => va_P E.1 vwCl (wX8 E a0 z t0) H) hf hP
      refine lv_aload_n hx hb dX8_takesClause_27 rfl (lv_at hl 0 rfl) ?_
      refine va_get (ci := 8) (C := RX8) (T := TX8) (N := 67) (v := .ref (a0 8)) hx hb hts i_X8_takesClause_X8 hown hK hP 0 rfl rfl 15 (by decide) (hts _ m_X8_takesClause_bd45d2) (fun _ h9 => h9) rfl dX8_takesClause_28 ?_
      refine lv_iload_n hx hb dX8_takesClause_31 rfl (lv_at hl 1 rfl) ?_
      obtain ⟨h_32, hf⟩ := ck_e hf
      refine va_iald (cA := E.2.1) (n := 60) (f := s0_26 15) hx hb hK hP 8 0 rfl rfl h_32 dX8_takesClause_32 ?_
      refine lv_iconst (v := 2) hx hb dX8_takesClause_33 (by decide) ?_
      refine lv_icmp_ge (tgt := 54) hx hb dX8_takesClause_34 (by decide) (fun c_34 => ?_) (fun c_34 => ?_)
      · have hf := ite_t c_34 hf
        refine lv_iconst (v := 1) hx hb dX8_takesClause_54 (by decide) ?_
        refine lv_goto (tgt := 59) hx hb dX8_takesClause_55 (by decide) ?_
        have e9 := Option.some.inj hf
        exact rt_z hx hb hr rfl hlocks (fst_e e9) (rtP (P := fun z => va_P E.1 vwCl (wX8 E a0 z.2 t0) H) e9 hP) hS dX8_takesClause_59
      · have hf := ite_f c_34 hf
        refine lv_aload_n hx hb dX8_takesClause_37 rfl (lv_at hl 0 rfl) ?_
        refine lv_bipush (v := 32) hx hb dX8_takesClause_38 (by decide) ?_
        obtain ⟨q40, hc_40, hf⟩ := cl_e hf
        refine fin_i (E := E) (wc := wX8 E a0 s0_26 t0) (wc' := wX8 E a0 q40.2 t0) (va_runV (As := [.int 32]) (rest := []) ⟨hx, hb, hml, hown, hts⟩ (k_X8_takes l E a0 N s0_26 t0 32 q40 hc_40 _) (cwV 1 hts gX8_takesClause_X8_takes rfl rfl rfl (by decide +kernel) ⟨(Nat.le_of_ble_eq_true rfl), (Nat.le_of_ble_eq_true rfl)⟩) (pre_v (ci := 8) (q0 := 0) hK hP (hDD s0_26 t0) hS hG hAB rfl rfl) rfl rfl hl.1 rfl (lv_room (Nat.le_of_ble_eq_true rfl)) dX8_takesClause_40 ⟨Nat.zero_le _, Nat.zero_le _⟩) hS (w_free (hDD s0_26 t0) hS hA (fun _ h => h)) (fun H locs hP1 hk hS => ?_)
        have hP := hP1
        refine lv_if_eq (tgt := 58) hx hb dX8_takesClause_43 (by decide) (fun c_43 => ?_) (fun c_43 => ?_)
        · have hf := ite_t c_43 hf
          refine lv_iconst (v := 0) hx hb dX8_takesClause_58 (by decide) ?_
          have e9 := Option.some.inj hf
          exact rt_z hx hb hr rfl hlocks (fst_e e9) (rtP (P := fun z => va_P E.1 vwCl (wX8 E a0 z.2 t0) H) e9 hP) hS dX8_takesClause_59
        · have hf := ite_f c_43 hf
          refine lv_aload_n hx hb dX8_takesClause_46 rfl (lv_at hl 0 rfl) ?_
          refine lv_iload_n hx hb dX8_takesClause_47 rfl (lv_at hl 1 rfl) ?_
          obtain ⟨q48, hc_48, hf⟩ := cl_e hf
          refine fin_i (E := E) (wc := wX8 E a0 q40.2 t0) (wc' := wX8 E a0 q48.2 t0) (va_runV (As := [.int p1]) (rest := []) ⟨hx, hb, hml, hown, hts⟩ (k_X8_takesE l E a0 N q40.2 t0 p1 q48 hc_48 _) (cwV 1 hts gX8_takesClause_X8_takesE rfl rfl rfl (by decide +kernel) ⟨(Nat.le_of_ble_eq_true rfl), (Nat.le_of_ble_eq_true rfl)⟩) (pre_v (ci := 8) (q0 := 0) hK hP (hDD q40.2 t0) hS hG hAB rfl rfl) rfl rfl hl.1 rfl (lv_room (Nat.le_of_ble_eq_true rfl)) dX8_takesClause_48 ⟨Nat.zero_le _, Nat.zero_le _⟩) hS (w_free (hDD q40.2 t0) hS hA (fun _ h => h)) (fun H locs hP1 hk hS => ?_)
          have hP := hP1
          refine lv_if_eq (tgt := 58) hx hb dX8_takesClause_51 (by decide) (fun c_51 => ?_) (fun c_51 => ?_)
          · have hf := ite_t c_51 hf
            refine lv_iconst (v := 0) hx hb dX8_takesClause_58 (by decide) ?_
            have e9 := Option.some.inj hf
            exact rt_z hx hb hr rfl hlocks (fst_e e9) (rtP (P := fun z => va_P E.1 vwCl (wX8 E a0 z.2 t0) H) e9 hP) hS dX8_takesClause_59
          · have hf := ite_f c_51 hf
            refine lv_iconst (v := 1) hx hb dX8_takesClause_54 (by decide) ?_
            refine lv_goto (tgt := 59) hx hb dX8_takesClause_55 (by decide) ?_
            have e9 := Option.some.inj hf
            exact rt_z hx hb hr rfl hlocks (fst_e e9) (rtP (P := fun z => va_P E.1 vwCl (wX8 E a0 z.2 t0) H) e9 hP) hS dX8_takesClause_59
    · have hf := ite_t c_12 hf
      refine lv_iconst (v := 0) hx hb dX8_takesClause_15 (by decide) ?_
      have e9 := Option.some.inj hf
      exact rt_z hx hb hr rfl hlocks (fst_e e9) (rtP (P := fun z => va_P E.1 vwCl (wX8 E a0 z.2 t0) H) e9 hP) hS dX8_takesClause_16
abbrev rm_X8_goesText : Room := { frames := 6, cells := 0, slots := 0, locals := 130 }
theorem m_X8_goesText_9cd1d5 : Cond.fieldLink RX8 53 "PickedMatchModel" "clauses" "[I" ∈ wsX8_goesText := by decide +kernel
theorem i_X8_goesText_X8 : ∀ w ∈ wsX80, w ∈ wsX8_goesText := fun _ h => List.mem_cons_of_mem _ (List.mem_append_right _ h)
theorem m_X8_goesText_8d5e37 : Cond.fieldLink RX8 44 "PickedMatchModel" "at" "I" ∈ wsX8_goesText := by decide +kernel
theorem m_X8_goesText_9bfe5d : Cond.fieldLink RX8 41 "PickedMatchModel" "fed" "I" ∈ wsX8_goesText := by decide +kernel
theorem m_X8_goesText_7ec062 : Cond.fieldLink RX8 74 "PickedMatchModel" "signs" "I" ∈ wsX8_goesText := by decide +kernel
set_option maxHeartbeats 8000000 in
set_option maxRecDepth 100000 in
theorem k_X8_goesText (l : Launch) (E : Ev) (a0 : Nat → Nat) (N : Nat) (s0 : St) (t0 : Nat → Nat → Int64) (p1 : Int32) (q : (Int32 × St)) (hf : f_X8_goesText N s0 p1 = some q) : Ci l yX8_goesText wsX8_goesText rm_X8_goesText E [.ref (a0 0), .int p1] (wX8 E a0 s0 t0) (wX8 E a0 q.2 t0) q.1 := by
  unfold f_X8_goesText at hf
  intro sz
  refine Met.ofW (cc := cX8_goesText) (maxL := 3) (ret := (some .boolean)) (by decide) rfl ?_
  intro p e s m args below meth c s₁ B hml hv
  obtain ⟨rfl, hsz, hP, hK, hD0, hG, hA, hAB⟩ := start hv
  have hx := B.exec
  have hb := B.bytes
  have hr := B.returns
  have hts := atoms_spec (ws := wsX8_goesText) B.pre
  have hown : s.vm.findClass RX8 = some m.cls := findClass_of_methodNamed B.named
  have hlocks := B.notSynchronized
  subst hsz
  generalize va_A (wX8 E a0 s0 t0) s.heap.size = A0 at hD0 hA hAB ⊢
  have hDD : ∀ (s0 : St) (t0 : Nat → Nat → Int64), va_D A0 (wX8 E a0 s0 t0) := fun s0 t0 => vD_addr hD0 rfl
  have hS : va_S A0 s.heap s.heap [] := va_S.rf
  have hl := lv_entry ([.ref (a0 0), .int p1]) (n := 3) (Nat.le_of_ble_eq_true rfl)
  rw [lg_entry_eq]
  generalize (lg_sl ([.ref (a0 0), .int p1]) ++ List.replicate (3 - (lg_sl ([.ref (a0 0), .int p1])).length) Slot.unset).toArray = ls at hl ⊢
  have hl : lv_has ls 3 [(0, .ref (a0 0)), (1, .int p1)] := hl
  have hL_15 : ∀ (v1 : Int32) (n_15 : Nat) (s0 : St) (v2 : Int32), l_X8_goesText_15 N v1 n_15 s0 v2 = some q → ∀ (H : Heap) (locs : List Loc) (ls : Array Slot), va_P E.1 vwCl (wX8 E a0 s0 t0) H → va_S A0 s.heap H locs → lv_has ls 3 [(0, .ref (a0 0)), (1, .int v1), (2, .int v2)] → W p l e rm_X8_goesText s m ([.ref (a0 0), .int p1] : List Value).toArray below meth c H locs 0 0 (MQ below (va_Qi (fun (r' : Int32) (_ : Unit) => r' = q.1) (fun _ t => va_P E.1 vwCl (wX8 E a0 q.2 t0) t.heap) A0) ([.ref (a0 0), .int p1] : List Value).toArray s 0 0 A0) (F0 m 15 ls []) := by
    intro v1 n_15
    induction n_15 with
    | zero => intro s0 v2 hf; rw [l_X8_goesText_15] at hf; cases hf
    | succ n_15 ih_15 =>
      intro s0 v2 hf H locs ls hP hS hl
      rw [l_X8_goesText_15] at hf
      refine lv_aload_n hx hb dX8_goesText_15 rfl (lv_at hl 0 rfl) ?_
      refine lv_bipush (v := 10) hx hb dX8_goesText_16 (by decide) ?_
      refine lv_iload_n hx hb dX8_goesText_18 rfl (lv_at hl 1 rfl) ?_
      refine lv_imul hx hb dX8_goesText_19 ?_
      refine lv_iload_n hx hb dX8_goesText_20 rfl (lv_at hl 2 rfl) ?_
      refine lv_iadd hx hb dX8_goesText_21 ?_
      obtain ⟨q22, hc_22, hf⟩ := cl_e hf
      refine fin_i (E := E) (wc := wX8 E a0 s0 t0) (wc' := wX8 E a0 q22.2 t0) (va_runV (As := [.int ((10 * v1) + v2)]) (rest := []) ⟨hx, hb, hml, hown, hts⟩ (k_X8_takesClause l E a0 N s0 t0 ((10 * v1) + v2) q22 hc_22 _) (cwV 1 hts gX8_goesText_X8_takesClause rfl rfl rfl (by decide +kernel) ⟨(Nat.le_of_ble_eq_true rfl), (Nat.le_of_ble_eq_true rfl)⟩) (pre_v (ci := 8) (q0 := 0) hK hP (hDD s0 t0) hS hG hAB rfl rfl) rfl rfl hl.1 rfl (lv_room (Nat.le_of_ble_eq_true rfl)) dX8_goesText_22 ⟨Nat.zero_le _, Nat.zero_le _⟩) hS (w_free (hDD s0 t0) hS hA (fun _ h => h)) (fun H locs hP1 hk hS => ?_)
      have hP := hP1
      refine lv_if_ne (tgt := 30) hx hb dX8_goesText_25 (by decide) (fun c_25 => ?_) (fun c_25 => ?_)
      · have hf := ite_f c_25 hf
        obtain ⟨x30, e_x30⟩ : ∃ y : Int32, y = v2 + 1 := ⟨_, rfl⟩
        have hf := nm_q e_x30 hf
        refine lv_iinc (v := x30) (lv' := [(2, .int x30), (0, .ref (a0 0)), (1, .int v1)]) hx hb dX8_goesText_30 hl (k := 2) rfl (by rw [e_x30]; rfl) (Nat.le_of_ble_eq_true rfl) rfl (fun ls hl => ?_)
        refine lv_aload_n hx hb dX8_goesText_33 rfl (lv_at hl 1 rfl) ?_
        refine va_get (ci := 8) (C := RX8) (T := TX8) (N := 67) (v := .ref (a0 7)) hx hb hts i_X8_goesText_X8 hown hK hP 0 rfl rfl 14 (by decide) (hts _ m_X8_goesText_9cd1d5) (fun _ h9 => h9) rfl dX8_goesText_34 ?_
        refine lv_iload_n hx hb dX8_goesText_37 rfl (lv_at hl 2 rfl) ?_
        refine lv_iload_n hx hb dX8_goesText_38 rfl (lv_at hl 0 rfl) ?_
        obtain ⟨h_39, hf⟩ := ck_e hf
        refine va_iast (cA := E.2.1) (n := 6) (f := q22.2 14) (x := x30) hx hb hK hP (hDD q22.2 t0) hS 7 0 rfl rfl h_39 dX8_goesText_39 (fun H locs hP _ hS => ?_)
        obtain ⟨s0_39, hP, hf⟩ := nm_st' (P := fun z => va_P E.1 vwCl (wX8 E a0 z t0) H) hf hP
        refine lv_aload_n hx hb dX8_goesText_40 rfl (lv_at hl 1 rfl) ?_
        refine va_get (ci := 8) (C := RX8) (T := TX8) (N := 67) (v := .int (s0_39 11 0)) hx hb hts i_X8_goesText_X8 hown hK hP 0 rfl rfl 11 (by decide) (hts _ m_X8_goesText_8d5e37) (fun _ h9 => h9) rfl dX8_goesText_41 ?_
        refine lv_aload_n hx hb dX8_goesText_44 rfl (lv_at hl 1 rfl) ?_
        refine va_get (ci := 8) (C := RX8) (T := TX8) (N := 67) (v := .int (s0_39 10 0)) hx hb hts i_X8_goesText_X8 hown hK hP 0 rfl rfl 10 (by decide) (hts _ m_X8_goesText_9bfe5d) (fun _ h9 => h9) rfl dX8_goesText_45 ?_
        refine lv_icmp_ne (tgt := 53) hx hb dX8_goesText_48 (by decide) (fun c_48 => ?_) (fun c_48 => ?_)
        · have hf := ite_f c_48 hf
          refine lv_iload_n hx hb dX8_goesText_53 rfl (lv_at hl 0 rfl) ?_
          refine lv_bipush (v := 10) hx hb dX8_goesText_54 (by decide) ?_
          refine lv_icmp_eq (tgt := 68) hx hb dX8_goesText_56 (by decide) (fun c_56 => ?_) (fun c_56 => ?_)
          · have hf := ite_t c_56 hf
            refine lv_iconst (v := 0) hx hb dX8_goesText_68 (by decide) ?_
            have e9 := Option.some.inj hf
            exact rt_z hx hb hr rfl hlocks (fst_e e9) (rtP (P := fun z => va_P E.1 vwCl (wX8 E a0 z.2 t0) H) e9 hP) hS dX8_goesText_69
          · have hf := ite_f c_56 hf
            refine lv_aload_n hx hb dX8_goesText_59 rfl (lv_at hl 1 rfl) ?_
            refine lv_bipush (v := 59) hx hb dX8_goesText_60 (by decide) ?_
            obtain ⟨q62, hc_62, hf⟩ := cl_e hf
            refine fin_i (E := E) (wc := wX8 E a0 s0_39 t0) (wc' := wX8 E a0 q62.2 t0) (va_runV (As := [.int 59]) (rest := []) ⟨hx, hb, hml, hown, hts⟩ (k_X8_takes l E a0 N s0_39 t0 59 q62 hc_62 _) (cwV 1 hts gX8_goesText_X8_takes rfl rfl rfl (by decide +kernel) ⟨(Nat.le_of_ble_eq_true rfl), (Nat.le_of_ble_eq_true rfl)⟩) (pre_v (ci := 8) (q0 := 0) hK hP (hDD s0_39 t0) hS hG hAB rfl rfl) rfl rfl hl.1 rfl (lv_room (Nat.le_of_ble_eq_true rfl)) dX8_goesText_62 ⟨Nat.zero_le _, Nat.zero_le _⟩) hS (w_free (hDD s0_39 t0) hS hA (fun _ h => h)) (fun H locs hP1 hk hS => ?_)
            have hP := hP1
            refine lv_if_ne (tgt := 15) hx hb dX8_goesText_65 (by decide) (fun c_65 => ?_) (fun c_65 => ?_)
            · have hf := ite_f c_65 hf
              exact ih_15 q62.2 x30 hf _ _ _ hP hS (lv_sub hl [1, 2, 0] rfl)
            · have hf := ite_t c_65 hf
              refine lv_iconst (v := 0) hx hb dX8_goesText_68 (by decide) ?_
              have e9 := Option.some.inj hf
              exact rt_z hx hb hr rfl hlocks (fst_e e9) (rtP (P := fun z => va_P E.1 vwCl (wX8 E a0 z.2 t0) H) e9 hP) hS dX8_goesText_69
        · have hf := ite_t c_48 hf
          refine lv_iconst (v := 1) hx hb dX8_goesText_51 (by decide) ?_
          have e9 := Option.some.inj hf
          exact rt_z hx hb hr rfl hlocks (fst_e e9) (rtP (P := fun z => va_P E.1 vwCl (wX8 E a0 z.2 t0) H) e9 hP) hS dX8_goesText_52
      · have hf := ite_t c_25 hf
        refine lv_iconst (v := 0) hx hb dX8_goesText_28 (by decide) ?_
        have e9 := Option.some.inj hf
        exact rt_z hx hb hr rfl hlocks (fst_e e9) (rtP (P := fun z => va_P E.1 vwCl (wX8 E a0 z.2 t0) H) e9 hP) hS dX8_goesText_29
  refine lv_aload_n hx hb dX8_goesText_0 rfl (lv_at hl 0 rfl) ?_
  refine lv_iconst (v := 0) hx hb dX8_goesText_1 (by decide) ?_
  refine va_put (ci := 8) (v := .int 0) (ty := .int) (C := RX8) (T := TX8) (N := 67) hx hb hts i_X8_goesText_X8 tyX8 tyX8_ok nmX8 hown hK hP (hDD s0 t0) hS 0 rfl rfl 11 (by decide) (hts _ m_X8_goesText_8d5e37) (fun _ h9 => h9) rfl (by decide +kernel) rfl rfl (Nat.le_of_ble_eq_true rfl) dX8_goesText_2 (fun H locs hP _ hS => ?_)
  obtain ⟨s0_2, hP, hf⟩ := nm_st' (P := fun z => va_P E.1 vwCl (wX8 E a0 z t0) H) hf hP
  refine lv_aload_n hx hb dX8_goesText_5 rfl (lv_at hl 0 rfl) ?_
  refine lv_bipush (v := 100) hx hb dX8_goesText_6 (by decide) ?_
  refine lv_iload_n hx hb dX8_goesText_8 rfl (lv_at hl 1 rfl) ?_
  refine lv_imul hx hb dX8_goesText_9 ?_
  refine va_put (ci := 8) (v := .int (100 * p1)) (ty := .int) (C := RX8) (T := TX8) (N := 67) hx hb hts i_X8_goesText_X8 tyX8 tyX8_ok nmX8 hown hK hP (hDD s0_2 t0) hS 0 rfl rfl 21 (by decide) (hts _ m_X8_goesText_7ec062) (fun _ h9 => h9) rfl (by decide +kernel) rfl rfl (Nat.le_of_ble_eq_true rfl) dX8_goesText_10 (fun H locs hP _ hS => ?_)
  obtain ⟨s0_10, hP, hf⟩ := nm_st' (P := fun z => va_P E.1 vwCl (wX8 E a0 z t0) H) hf hP
  refine lv_iconst (v := 0) hx hb dX8_goesText_13 (by decide) ?_
  refine lv_istore_n (lv' := [(2, .int 0), (0, .ref (a0 0)), (1, .int p1)]) hx hb dX8_goesText_14 rfl hl (Nat.le_of_ble_eq_true rfl) rfl (fun ls hl => ?_)
  exact hL_15 p1 N s0_10 0 hf _ _ _ hP hS (lv_sub hl [1, 2, 0] rfl)
abbrev rm_X8_street : Room := { frames := 7, cells := 0, slots := 0, locals := 152 }
theorem m_X8_street_98782d : Cond.fieldLink RX8 35 "PickedMatchModel" "streets" "I" ∈ wsX8_street := by decide +kernel
theorem i_X8_street_X8 : ∀ w ∈ wsX80, w ∈ wsX8_street := fun _ h => List.mem_cons_of_mem _ (List.mem_append_right _ h)
theorem m_X8_street_9bfe5d : Cond.fieldLink RX8 41 "PickedMatchModel" "fed" "I" ∈ wsX8_street := by decide +kernel
theorem m_X8_street_0961c6 : Cond.fieldLink RX8 38 "PickedMatchModel" "the" "I" ∈ wsX8_street := by decide +kernel
theorem m_X8_street_8d5e37 : Cond.fieldLink RX8 44 "PickedMatchModel" "at" "I" ∈ wsX8_street := by decide +kernel
set_option maxHeartbeats 8000000 in
set_option maxRecDepth 100000 in
theorem k_X8_street (l : Launch) (E : Ev) (a0 : Nat → Nat) (N : Nat) (s0 : St) (t0 : Nat → Nat → Int64) (q : (Int32 × St)) (hf : f_X8_street N s0 = some q) : Ci l yX8_street wsX8_street rm_X8_street E [.ref (a0 0)] (wX8 E a0 s0 t0) (wX8 E a0 q.2 t0) q.1 := by
  unfold f_X8_street at hf
  intro sz
  refine Met.ofW (cc := cX8_street) (maxL := 2) (ret := (some .int)) (by decide) rfl ?_
  intro p e s m args below meth c s₁ B hml hv
  obtain ⟨rfl, hsz, hP, hK, hD0, hG, hA, hAB⟩ := start hv
  have hx := B.exec
  have hb := B.bytes
  have hr := B.returns
  have hts := atoms_spec (ws := wsX8_street) B.pre
  have hown : s.vm.findClass RX8 = some m.cls := findClass_of_methodNamed B.named
  have hlocks := B.notSynchronized
  subst hsz
  generalize va_A (wX8 E a0 s0 t0) s.heap.size = A0 at hD0 hA hAB ⊢
  have hDD : ∀ (s0 : St) (t0 : Nat → Nat → Int64), va_D A0 (wX8 E a0 s0 t0) := fun s0 t0 => vD_addr hD0 rfl
  have hS : va_S A0 s.heap s.heap [] := va_S.rf
  have hl := lv_entry ([.ref (a0 0)]) (n := 2) (Nat.le_of_ble_eq_true rfl)
  rw [lg_entry_eq]
  generalize (lg_sl ([.ref (a0 0)]) ++ List.replicate (2 - (lg_sl ([.ref (a0 0)])).length) Slot.unset).toArray = ls at hl ⊢
  have hl : lv_has ls 2 [(0, .ref (a0 0))] := hl
  refine lv_aload_n hx hb dX8_street_0 rfl (lv_at hl 0 rfl) ?_
  refine va_get (ci := 8) (C := RX8) (T := TX8) (N := 67) (v := .int (s0 8 0)) hx hb hts i_X8_street_X8 hown hK hP 0 rfl rfl 8 (by decide) (hts _ m_X8_street_98782d) (fun _ h9 => h9) rfl dX8_street_1 ?_
  refine lv_bipush (v := 6) hx hb dX8_street_4 (by decide) ?_
  refine lv_icmp_ne (tgt := 12) hx hb dX8_street_6 (by decide) (fun c_6 => ?_) (fun c_6 => ?_)
  · have hf := ite_f c_6 hf
    refine lv_aload_n hx hb dX8_street_12 rfl (lv_at hl 0 rfl) ?_
    refine lv_aload_n hx hb dX8_street_13 rfl (lv_at hl 0 rfl) ?_
    refine va_get (ci := 8) (C := RX8) (T := TX8) (N := 67) (v := .int (s0 8 0)) hx hb hts i_X8_street_X8 hown hK hP 0 rfl rfl 8 (by decide) (hts _ m_X8_street_98782d) (fun _ h9 => h9) rfl dX8_street_14 ?_
    obtain ⟨q17, hc_17, hf⟩ := cl_e hf
    refine fin_i (E := E) (wc := wX8 E a0 s0 t0) (wc' := wX8 E a0 q17.2 t0) (va_runV (As := [.int (s0 8 0)]) (rest := []) ⟨hx, hb, hml, hown, hts⟩ (k_X8_goesText l E a0 N s0 t0 (s0 8 0) q17 hc_17 _) (cwV 1 hts gX8_street_X8_goesText rfl rfl rfl (by decide +kernel) ⟨(Nat.le_of_ble_eq_true rfl), (Nat.le_of_ble_eq_true rfl)⟩) (pre_v (ci := 8) (q0 := 0) hK hP (hDD s0 t0) hS hG hAB rfl rfl) rfl rfl hl.1 rfl (lv_room (Nat.le_of_ble_eq_true rfl)) dX8_street_17 ⟨Nat.zero_le _, Nat.zero_le _⟩) hS (w_free (hDD s0 t0) hS hA (fun _ h => h)) (fun H locs hP1 hk hS => ?_)
    have hP := hP1
    refine lv_topi (fun x20 e_x20 => ?_)
    have hf := nm_q e_x20 hf
    refine lv_istore_n (lv' := [(1, .int x20), (0, .ref (a0 0))]) hx hb dX8_street_20 rfl hl (Nat.le_of_ble_eq_true rfl) rfl (fun ls hl => ?_)
    refine lv_aload_n hx hb dX8_street_21 rfl (lv_at hl 1 rfl) ?_
    refine lv_iconst (v := 0) hx hb dX8_street_22 (by decide) ?_
    refine va_put (ci := 8) (v := .int 0) (ty := .int) (C := RX8) (T := TX8) (N := 67) hx hb hts i_X8_street_X8 tyX8 tyX8_ok nmX8 hown hK hP (hDD q17.2 t0) hS 0 rfl rfl 10 (by decide) (hts _ m_X8_street_9bfe5d) (fun _ h9 => h9) rfl (by decide +kernel) rfl rfl (Nat.le_of_ble_eq_true rfl) dX8_street_23 (fun H locs hP _ hS => ?_)
    obtain ⟨s0_23, hP, hf⟩ := nm_st' (P := fun z => va_P E.1 vwCl (wX8 E a0 z t0) H) hf hP
    refine lv_iload_n hx hb dX8_street_26 rfl (lv_at hl 0 rfl) ?_
    refine lv_if_ne (tgt := 38) hx hb dX8_street_27 (by decide) (fun c_27 => ?_) (fun c_27 => ?_)
    · have hf := ite_f c_27 hf
      refine lv_aload_n hx hb dX8_street_38 rfl (lv_at hl 1 rfl) ?_
      refine lv_aload_n hx hb dX8_street_39 rfl (lv_at hl 1 rfl) ?_
      refine va_get (ci := 8) (C := RX8) (T := TX8) (N := 67) (v := .int (s0_23 8 0)) hx hb hts i_X8_street_X8 hown hK hP 0 rfl rfl 8 (by decide) (hts _ m_X8_street_98782d) (fun _ h9 => h9) rfl dX8_street_40 ?_
      refine va_put (ci := 8) (v := .int (s0_23 8 0)) (ty := .int) (C := RX8) (T := TX8) (N := 67) hx hb hts i_X8_street_X8 tyX8 tyX8_ok nmX8 hown hK hP (hDD s0_23 t0) hS 0 rfl rfl 9 (by decide) (hts _ m_X8_street_0961c6) (fun _ h9 => h9) rfl (by decide +kernel) rfl rfl (Nat.le_of_ble_eq_true rfl) dX8_street_43 (fun H locs hP _ hS => ?_)
      obtain ⟨s0_43, hP, hf⟩ := nm_st' (P := fun z => va_P E.1 vwCl (wX8 E a0 z t0) H) hf hP
      refine lv_aload_n hx hb dX8_street_46 rfl (lv_at hl 1 rfl) ?_
      refine lv_dup hx hb dX8_street_47 rfl ?_
      refine va_get (ci := 8) (C := RX8) (T := TX8) (N := 67) (v := .int (s0_43 8 0)) hx hb hts i_X8_street_X8 hown hK hP 0 rfl rfl 8 (by decide) (hts _ m_X8_street_98782d) (fun _ h9 => h9) rfl dX8_street_48 ?_
      refine lv_iconst (v := 1) hx hb dX8_street_51 (by decide) ?_
      refine lv_iadd hx hb dX8_street_52 ?_
      refine va_put (ci := 8) (v := .int ((s0_43 8 0) + 1)) (ty := .int) (C := RX8) (T := TX8) (N := 67) hx hb hts i_X8_street_X8 tyX8 tyX8_ok nmX8 hown hK hP (hDD s0_43 t0) hS 0 rfl rfl 8 (by decide) (hts _ m_X8_street_98782d) (fun _ h9 => h9) rfl (by decide +kernel) rfl rfl (Nat.le_of_ble_eq_true rfl) dX8_street_53 (fun H locs hP _ hS => ?_)
      obtain ⟨s0_53, hP, hf⟩ := nm_st' (P := fun z => va_P E.1 vwCl (wX8 E a0 z t0) H) hf hP
      refine lv_aload_n hx hb dX8_street_56 rfl (lv_at hl 1 rfl) ?_
      refine va_get (ci := 8) (C := RX8) (T := TX8) (N := 67) (v := .int (s0_53 9 0)) hx hb hts i_X8_street_X8 hown hK hP 0 rfl rfl 9 (by decide) (hts _ m_X8_street_0961c6) (fun _ h9 => h9) rfl dX8_street_57 ?_
      have e9 := Option.some.inj hf
      exact rt_i hx hb hr hlocks (fst_e e9) (rtP (P := fun z => va_P E.1 vwCl (wX8 E a0 z.2 t0) H) e9 hP) hS dX8_street_60
    · have hf := ite_t c_27 hf
      refine lv_bipush (v := (-10)) hx hb dX8_street_30 (by decide) ?_
      refine lv_aload_n hx hb dX8_street_32 rfl (lv_at hl 1 rfl) ?_
      refine va_get (ci := 8) (C := RX8) (T := TX8) (N := 67) (v := .int (s0_23 11 0)) hx hb hts i_X8_street_X8 hown hK hP 0 rfl rfl 11 (by decide) (hts _ m_X8_street_8d5e37) (fun _ h9 => h9) rfl dX8_street_33 ?_
      refine lv_isub hx hb dX8_street_36 ?_
      have e9 := Option.some.inj hf
      exact rt_i hx hb hr hlocks (fst_e e9) (rtP (P := fun z => va_P E.1 vwCl (wX8 E a0 z.2 t0) H) e9 hP) hS dX8_street_37
  · have hf := ite_t c_6 hf
    refine lv_bipush (v := (-4)) hx hb dX8_street_9 (by decide) ?_
    have e9 := Option.some.inj hf
    exact rt_i hx hb hr hlocks (fst_e e9) (rtP (P := fun z => va_P E.1 vwCl (wX8 E a0 z.2 t0) s.heap) e9 hP) hS dX8_street_11
abbrev rm_X8_begin : Room := { frames := 0, cells := 0, slots := 0, locals := 0 }
theorem m_X8_begin_0961c6 : Cond.fieldLink RX8 38 "PickedMatchModel" "the" "I" ∈ wsX8_begin := by decide +kernel
theorem i_X8_begin_X8 : ∀ w ∈ wsX80, w ∈ wsX8_begin := fun _ h => List.mem_cons_of_mem _ (List.mem_append_right _ h)
set_option maxHeartbeats 8000000 in
set_option maxRecDepth 100000 in
theorem k_X8_begin (l : Launch) (E : Ev) (a0 : Nat → Nat) (N : Nat) (s0 : St) (t0 : Nat → Nat → Int64) (q : (Int32)) (hf : f_X8_begin N s0 = some q) : Ci l yX8_begin wsX8_begin rm_X8_begin E [.ref (a0 0)] (wX8 E a0 s0 t0) (wX8 E a0 s0 t0) q := by
  unfold f_X8_begin at hf
  intro sz
  refine Met.ofW (cc := cX8_begin) (maxL := 1) (ret := (some .int)) (by decide) rfl ?_
  intro p e s m args below meth c s₁ B hml hv
  obtain ⟨rfl, hsz, hP, hK, hD0, hG, hA, hAB⟩ := start hv
  have hx := B.exec
  have hb := B.bytes
  have hr := B.returns
  have hts := atoms_spec (ws := wsX8_begin) B.pre
  have hown : s.vm.findClass RX8 = some m.cls := findClass_of_methodNamed B.named
  have hlocks := B.notSynchronized
  subst hsz
  generalize va_A (wX8 E a0 s0 t0) s.heap.size = A0 at hD0 hA hAB ⊢
  have hDD : ∀ (s0 : St) (t0 : Nat → Nat → Int64), va_D A0 (wX8 E a0 s0 t0) := fun s0 t0 => vD_addr hD0 rfl
  have hS : va_S A0 s.heap s.heap [] := va_S.rf
  have hl := lv_entry ([.ref (a0 0)]) (n := 1) (Nat.le_of_ble_eq_true rfl)
  rw [lg_entry_eq]
  generalize (lg_sl ([.ref (a0 0)]) ++ List.replicate (1 - (lg_sl ([.ref (a0 0)])).length) Slot.unset).toArray = ls at hl ⊢
  have hl : lv_has ls 1 [(0, .ref (a0 0))] := hl
  refine lv_aload_n hx hb dX8_begin_0 rfl (lv_at hl 0 rfl) ?_
  refine va_get (ci := 8) (C := RX8) (T := TX8) (N := 67) (v := .int (s0 9 0)) hx hb hts i_X8_begin_X8 hown hK hP 0 rfl rfl 9 (by decide) (hts _ m_X8_begin_0961c6) (fun _ h9 => h9) rfl dX8_begin_1 ?_
  refine lv_if_ge (tgt := 11) hx hb dX8_begin_4 (by decide) (fun c_4 => ?_) (fun c_4 => ?_)
  · have hf := ite_t c_4 hf
    refine lv_bipush (v := 10) hx hb dX8_begin_11 (by decide) ?_
    refine lv_aload_n hx hb dX8_begin_13 rfl (lv_at hl 0 rfl) ?_
    refine va_get (ci := 8) (C := RX8) (T := TX8) (N := 67) (v := .int (s0 9 0)) hx hb hts i_X8_begin_X8 hown hK hP 0 rfl rfl 9 (by decide) (hts _ m_X8_begin_0961c6) (fun _ h9 => h9) rfl dX8_begin_14 ?_
    refine lv_imul hx hb dX8_begin_17 ?_
    have e9 := Option.some.inj hf
    exact rt_i hx hb hr hlocks e9 hP hS dX8_begin_18
  · have hf := ite_f c_4 hf
    refine lv_iconst (v := 0) hx hb dX8_begin_7 (by decide) ?_
    refine lv_goto (tgt := 18) hx hb dX8_begin_8 (by decide) ?_
    have e9 := Option.some.inj hf
    exact rt_i hx hb hr hlocks e9 hP hS dX8_begin_18
abbrev rm_X8_behind : Room := { frames := 0, cells := 0, slots := 0, locals := 0 }
theorem m_X8_behind_0961c6 : Cond.fieldLink RX8 38 "PickedMatchModel" "the" "I" ∈ wsX8_behind := by decide +kernel
theorem i_X8_behind_X8 : ∀ w ∈ wsX80, w ∈ wsX8_behind := fun _ h => List.mem_cons_of_mem _ (List.mem_append_right _ h)
theorem m_X8_behind_9cd1d5 : Cond.fieldLink RX8 53 "PickedMatchModel" "clauses" "[I" ∈ wsX8_behind := by decide +kernel
set_option maxHeartbeats 8000000 in
set_option maxRecDepth 100000 in
theorem k_X8_behind (l : Launch) (E : Ev) (a0 : Nat → Nat) (N : Nat) (s0 : St) (t0 : Nat → Nat → Int64) (q : (Int32)) (hf : f_X8_behind N s0 = some q) : Ci l yX8_behind wsX8_behind rm_X8_behind E [.ref (a0 0)] (wX8 E a0 s0 t0) (wX8 E a0 s0 t0) q := by
  unfold f_X8_behind at hf
  intro sz
  refine Met.ofW (cc := cX8_behind) (maxL := 1) (ret := (some .int)) (by decide) rfl ?_
  intro p e s m args below meth c s₁ B hml hv
  obtain ⟨rfl, hsz, hP, hK, hD0, hG, hA, hAB⟩ := start hv
  have hx := B.exec
  have hb := B.bytes
  have hr := B.returns
  have hts := atoms_spec (ws := wsX8_behind) B.pre
  have hown : s.vm.findClass RX8 = some m.cls := findClass_of_methodNamed B.named
  have hlocks := B.notSynchronized
  subst hsz
  generalize va_A (wX8 E a0 s0 t0) s.heap.size = A0 at hD0 hA hAB ⊢
  have hDD : ∀ (s0 : St) (t0 : Nat → Nat → Int64), va_D A0 (wX8 E a0 s0 t0) := fun s0 t0 => vD_addr hD0 rfl
  have hS : va_S A0 s.heap s.heap [] := va_S.rf
  have hl := lv_entry ([.ref (a0 0)]) (n := 1) (Nat.le_of_ble_eq_true rfl)
  rw [lg_entry_eq]
  generalize (lg_sl ([.ref (a0 0)]) ++ List.replicate (1 - (lg_sl ([.ref (a0 0)])).length) Slot.unset).toArray = ls at hl ⊢
  have hl : lv_has ls 1 [(0, .ref (a0 0))] := hl
  refine lv_aload_n hx hb dX8_behind_0 rfl (lv_at hl 0 rfl) ?_
  refine va_get (ci := 8) (C := RX8) (T := TX8) (N := 67) (v := .int (s0 9 0)) hx hb hts i_X8_behind_X8 hown hK hP 0 rfl rfl 9 (by decide) (hts _ m_X8_behind_0961c6) (fun _ h9 => h9) rfl dX8_behind_1 ?_
  refine lv_if_ge (tgt := 11) hx hb dX8_behind_4 (by decide) (fun c_4 => ?_) (fun c_4 => ?_)
  · have hf := ite_t c_4 hf
    refine lv_bipush (v := 10) hx hb dX8_behind_11 (by decide) ?_
    refine lv_aload_n hx hb dX8_behind_13 rfl (lv_at hl 0 rfl) ?_
    refine va_get (ci := 8) (C := RX8) (T := TX8) (N := 67) (v := .int (s0 9 0)) hx hb hts i_X8_behind_X8 hown hK hP 0 rfl rfl 9 (by decide) (hts _ m_X8_behind_0961c6) (fun _ h9 => h9) rfl dX8_behind_14 ?_
    refine lv_imul hx hb dX8_behind_17 ?_
    refine lv_aload_n hx hb dX8_behind_18 rfl (lv_at hl 0 rfl) ?_
    refine va_get (ci := 8) (C := RX8) (T := TX8) (N := 67) (v := .ref (a0 7)) hx hb hts i_X8_behind_X8 hown hK hP 0 rfl rfl 14 (by decide) (hts _ m_X8_behind_9cd1d5) (fun _ h9 => h9) rfl dX8_behind_19 ?_
    refine lv_aload_n hx hb dX8_behind_22 rfl (lv_at hl 0 rfl) ?_
    refine va_get (ci := 8) (C := RX8) (T := TX8) (N := 67) (v := .int (s0 9 0)) hx hb hts i_X8_behind_X8 hown hK hP 0 rfl rfl 9 (by decide) (hts _ m_X8_behind_0961c6) (fun _ h9 => h9) rfl dX8_behind_23 ?_
    obtain ⟨h_26, hf⟩ := ck_e hf
    refine va_iald (cA := E.2.1) (n := 6) (f := s0 14) hx hb hK hP 7 0 rfl rfl h_26 dX8_behind_26 ?_
    refine lv_iadd hx hb dX8_behind_27 ?_
    have e9 := Option.some.inj hf
    exact rt_i hx hb hr hlocks e9 hP hS dX8_behind_28
  · have hf := ite_f c_4 hf
    refine lv_iconst (v := 0) hx hb dX8_behind_7 (by decide) ?_
    refine lv_goto (tgt := 28) hx hb dX8_behind_8 (by decide) ?_
    have e9 := Option.some.inj hf
    exact rt_i hx hb hr hlocks e9 hP hS dX8_behind_28
abbrev rm_X8_lastOf : Room := { frames := 1, cells := 0, slots := 0, locals := 20 }
theorem m_X8_lastOf_bd45d2 : Cond.fieldLink RX8 56 "PickedMatchModel" "word" "[I" ∈ wsX8_lastOf := by decide +kernel
theorem i_X8_lastOf_X8 : ∀ w ∈ wsX80, w ∈ wsX8_lastOf := fun _ h => List.mem_cons_of_mem _ (List.mem_append_right _ h)
theorem m_X8_lastOf_2bbf14 : Cond.fieldLink RX8 59 "PickedMatchModel" "number" "[I" ∈ wsX8_lastOf := by decide +kernel
set_option maxHeartbeats 8000000 in
set_option maxRecDepth 100000 in
theorem k_X8_lastOf (l : Launch) (E : Ev) (a0 : Nat → Nat) (N : Nat) (s0 : St) (t0 : Nat → Nat → Int64) (p1 : Int32) (p2 : Int32) (q : (Int32)) (hf : f_X8_lastOf N s0 p1 p2 = some q) : Ci l yX8_lastOf wsX8_lastOf rm_X8_lastOf E [.ref (a0 0), .int p1, .int p2] (wX8 E a0 s0 t0) (wX8 E a0 s0 t0) q := by
  unfold f_X8_lastOf at hf
  intro sz
  refine Met.ofW (cc := cX8_lastOf) (maxL := 5) (ret := (some .int)) (by decide) rfl ?_
  intro p e s m args below meth c s₁ B hml hv
  obtain ⟨rfl, hsz, hP, hK, hD0, hG, hA, hAB⟩ := start hv
  have hx := B.exec
  have hb := B.bytes
  have hr := B.returns
  have hts := atoms_spec (ws := wsX8_lastOf) B.pre
  have hown : s.vm.findClass RX8 = some m.cls := findClass_of_methodNamed B.named
  have hlocks := B.notSynchronized
  subst hsz
  generalize va_A (wX8 E a0 s0 t0) s.heap.size = A0 at hD0 hA hAB ⊢
  have hDD : ∀ (s0 : St) (t0 : Nat → Nat → Int64), va_D A0 (wX8 E a0 s0 t0) := fun s0 t0 => vD_addr hD0 rfl
  have hS : va_S A0 s.heap s.heap [] := va_S.rf
  have hl := lv_entry ([.ref (a0 0), .int p1, .int p2]) (n := 5) (Nat.le_of_ble_eq_true rfl)
  rw [lg_entry_eq]
  generalize (lg_sl ([.ref (a0 0), .int p1, .int p2]) ++ List.replicate (5 - (lg_sl ([.ref (a0 0), .int p1, .int p2])).length) Slot.unset).toArray = ls at hl ⊢
  have hl : lv_has ls 5 [(0, .ref (a0 0)), (1, .int p1), (2, .int p2)] := hl
  have hL_8 : ∀ (s0 : St) (v1 : Int32) (n_8 : Nat) (v3 : Int32) (v4 : Int32), l_X8_lastOf_8 N s0 v1 n_8 v3 v4 = some q → ∀ (H : Heap) (locs : List Loc) (ls : Array Slot), va_P E.1 vwCl (wX8 E a0 s0 t0) H → va_S A0 s.heap H locs → lv_has ls 5 [(0, .ref (a0 0)), (1, .int v1), (3, .int v3), (4, .int v4)] → W p l e rm_X8_lastOf s m ([.ref (a0 0), .int p1, .int p2] : List Value).toArray below meth c H locs 0 0 (MQ below (va_Qi (fun (r' : Int32) (_ : Unit) => r' = q) (fun _ t => va_P E.1 vwCl (wX8 E a0 s0 t0) t.heap) A0) ([.ref (a0 0), .int p1, .int p2] : List Value).toArray s 0 0 A0) (F0 m 8 ls []) := by
    intro s0 v1 n_8
    induction n_8 with
    | zero => intro v3 v4 hf; rw [l_X8_lastOf_8] at hf; cases hf
    | succ n_8 ih_8 =>
      intro v3 v4 hf H locs ls hP hS hl
      rw [l_X8_lastOf_8] at hf
      refine lv_iload hx hb dX8_lastOf_8 (lv_at hl 3 rfl) ?_
      refine lv_aload_n hx hb dX8_lastOf_10 rfl (lv_at hl 0 rfl) ?_
      obtain ⟨q11, hc_11, hf⟩ := cl_e hf
      refine fin_i (E := E) (wc := wX8 E a0 s0 t0) (wc' := wX8 E a0 s0 t0) (va_runV (As := []) (rest := [.int v4]) ⟨hx, hb, hml, hown, hts⟩ (k_X8_behind l E a0 N s0 t0 q11 hc_11 _) (cwV 0 hts gX8_lastOf_X8_behind rfl rfl rfl (by decide +kernel) ⟨(Nat.le_of_ble_eq_true rfl), (Nat.le_of_ble_eq_true rfl)⟩) (pre_v (ci := 8) (q0 := 0) hK hP (hDD s0 t0) hS hG hAB rfl rfl) rfl rfl hl.1 rfl (lv_room (Nat.le_of_ble_eq_true rfl)) dX8_lastOf_11 ⟨Nat.zero_le _, Nat.zero_le _⟩) hS (w_free (hDD s0 t0) hS hA (fun _ h => h)) (fun H locs hP1 hk hS => ?_)
      have hP := hP1
      refine lv_icmp_ge (tgt := 46) hx hb dX8_lastOf_14 (by decide) (fun c_14 => ?_) (fun c_14 => ?_)
      · have hf := ite_t c_14 hf
        refine lv_iload_n hx hb dX8_lastOf_46 rfl (lv_at hl 2 rfl) ?_
        have e9 := Option.some.inj hf
        exact rt_i hx hb hr hlocks e9 hP hS dX8_lastOf_47
      · have hf := ite_f c_14 hf
        refine lv_aload_n hx hb dX8_lastOf_17 rfl (lv_at hl 0 rfl) ?_
        refine va_get (ci := 8) (C := RX8) (T := TX8) (N := 67) (v := .ref (a0 8)) hx hb hts i_X8_lastOf_X8 hown hK hP 0 rfl rfl 15 (by decide) (hts _ m_X8_lastOf_bd45d2) (fun _ h9 => h9) rfl dX8_lastOf_18 ?_
        refine lv_iload hx hb dX8_lastOf_21 (lv_at hl 3 rfl) ?_
        obtain ⟨h_23, hf⟩ := ck_e hf
        refine va_iald (cA := E.2.1) (n := 60) (f := s0 15) hx hb hK hP 8 0 rfl rfl h_23 dX8_lastOf_23 ?_
        refine lv_iload_n hx hb dX8_lastOf_24 rfl (lv_at hl 1 rfl) ?_
        refine lv_icmp_ne (tgt := 38) hx hb dX8_lastOf_25 (by decide) (fun c_25 => ?_) (fun c_25 => ?_)
        · have hf := ite_f c_25 hf
          refine lv_iload_n hx hb dX8_lastOf_38 rfl (lv_at hl 2 rfl) ?_
          refine lv_istore_n (lv' := [(3, .int v3), (0, .ref (a0 0)), (1, .int v1), (4, .int v4)]) hx hb dX8_lastOf_39 rfl hl (Nat.le_of_ble_eq_true rfl) rfl (fun ls hl => ?_)
          obtain ⟨x40, e_x40⟩ : ∃ y : Int32, y = v4 + 1 := ⟨_, rfl⟩
          have hf := nm_q e_x40 hf
          refine lv_iinc (v := x40) (lv' := [(4, .int x40), (3, .int v3), (0, .ref (a0 0)), (1, .int v1)]) hx hb dX8_lastOf_40 hl (k := 3) rfl (by rw [e_x40]; rfl) (Nat.le_of_ble_eq_true rfl) rfl (fun ls hl => ?_)
          refine lv_goto (tgt := 8) hx hb dX8_lastOf_43 (by decide) ?_
          exact ih_8 v3 x40 hf _ _ _ hP hS (lv_sub hl [2, 3, 1, 0] rfl)
        · have hf := ite_t c_25 hf
          refine lv_aload_n hx hb dX8_lastOf_28 rfl (lv_at hl 0 rfl) ?_
          refine va_get (ci := 8) (C := RX8) (T := TX8) (N := 67) (v := .ref (a0 9)) hx hb hts i_X8_lastOf_X8 hown hK hP 0 rfl rfl 16 (by decide) (hts _ m_X8_lastOf_2bbf14) (fun _ h9 => h9) rfl dX8_lastOf_29 ?_
          refine lv_iload hx hb dX8_lastOf_32 (lv_at hl 3 rfl) ?_
          obtain ⟨h_34, hf⟩ := ck_e hf
          refine va_iald (cA := E.2.1) (n := 60) (f := s0 16) hx hb hK hP 9 0 rfl rfl h_34 dX8_lastOf_34 ?_
          refine lv_goto (tgt := 39) hx hb dX8_lastOf_35 (by decide) ?_
          refine lv_topi (fun x39 e_x39 => ?_)
          have hf := nm_q e_x39 hf
          refine lv_istore_n (lv' := [(3, .int x39), (0, .ref (a0 0)), (1, .int v1), (4, .int v4)]) hx hb dX8_lastOf_39 rfl hl (Nat.le_of_ble_eq_true rfl) rfl (fun ls hl => ?_)
          obtain ⟨x40, e_x40⟩ : ∃ y : Int32, y = v4 + 1 := ⟨_, rfl⟩
          have hf := nm_q e_x40 hf
          refine lv_iinc (v := x40) (lv' := [(4, .int x40), (3, .int x39), (0, .ref (a0 0)), (1, .int v1)]) hx hb dX8_lastOf_40 hl (k := 3) rfl (by rw [e_x40]; rfl) (Nat.le_of_ble_eq_true rfl) rfl (fun ls hl => ?_)
          refine lv_goto (tgt := 8) hx hb dX8_lastOf_43 (by decide) ?_
          exact ih_8 x39 x40 hf _ _ _ hP hS (lv_sub hl [2, 3, 1, 0] rfl)
  refine lv_iload_n hx hb dX8_lastOf_0 rfl (lv_at hl 2 rfl) ?_
  refine lv_istore_n (lv' := [(3, .int p2), (0, .ref (a0 0)), (1, .int p1), (2, .int p2)]) hx hb dX8_lastOf_1 rfl hl (Nat.le_of_ble_eq_true rfl) rfl (fun ls hl => ?_)
  refine lv_aload_n hx hb dX8_lastOf_2 rfl (lv_at hl 1 rfl) ?_
  obtain ⟨q3, hc_3, hf⟩ := cl_e hf
  refine fin_i (E := E) (wc := wX8 E a0 s0 t0) (wc' := wX8 E a0 s0 t0) (va_runV (As := []) (rest := []) ⟨hx, hb, hml, hown, hts⟩ (k_X8_begin l E a0 N s0 t0 q3 hc_3 _) (cwV 0 hts gX8_lastOf_X8_begin rfl rfl rfl (by decide +kernel) ⟨(Nat.le_of_ble_eq_true rfl), (Nat.le_of_ble_eq_true rfl)⟩) (pre_v (ci := 8) (q0 := 0) hK hP (hDD s0 t0) hS hG hAB rfl rfl) rfl rfl hl.1 rfl (lv_room (Nat.le_of_ble_eq_true rfl)) dX8_lastOf_3 ⟨Nat.zero_le _, Nat.zero_le _⟩) hS (w_free (hDD s0 t0) hS hA (fun _ h => h)) (fun H locs hP1 hk hS => ?_)
  have hP := hP1
  refine lv_istore (lv' := [(4, .int q3), (3, .int p2), (0, .ref (a0 0)), (1, .int p1), (2, .int p2)]) hx hb dX8_lastOf_6 hl (Nat.le_of_ble_eq_true rfl) rfl (fun ls hl => ?_)
  exact hL_8 s0 p1 N p2 q3 hf _ _ _ hP hS (lv_sub hl [2, 3, 1, 0] rfl)
abbrev rm_X8_need : Room := { frames := 2, cells := 0, slots := 0, locals := 44 }
set_option maxHeartbeats 8000000 in
set_option maxRecDepth 100000 in
theorem k_X8_need (l : Launch) (E : Ev) (a0 : Nat → Nat) (N : Nat) (s0 : St) (t0 : Nat → Nat → Int64) (q : (Int32)) (hf : f_X8_need N s0 = some q) : Ci l yX8_need wsX8_need rm_X8_need E [.ref (a0 0)] (wX8 E a0 s0 t0) (wX8 E a0 s0 t0) q := by
  unfold f_X8_need at hf
  intro sz
  refine Met.ofW (cc := cX8_need) (maxL := 1) (ret := (some .int)) (by decide) rfl ?_
  intro p e s m args below meth c s₁ B hml hv
  obtain ⟨rfl, hsz, hP, hK, hD0, hG, hA, hAB⟩ := start hv
  have hx := B.exec
  have hb := B.bytes
  have hr := B.returns
  have hts := atoms_spec (ws := wsX8_need) B.pre
  have hown : s.vm.findClass RX8 = some m.cls := findClass_of_methodNamed B.named
  have hlocks := B.notSynchronized
  subst hsz
  generalize va_A (wX8 E a0 s0 t0) s.heap.size = A0 at hD0 hA hAB ⊢
  have hDD : ∀ (s0 : St) (t0 : Nat → Nat → Int64), va_D A0 (wX8 E a0 s0 t0) := fun s0 t0 => vD_addr hD0 rfl
  have hS : va_S A0 s.heap s.heap [] := va_S.rf
  have hl := lv_entry ([.ref (a0 0)]) (n := 1) (Nat.le_of_ble_eq_true rfl)
  rw [lg_entry_eq]
  generalize (lg_sl ([.ref (a0 0)]) ++ List.replicate (1 - (lg_sl ([.ref (a0 0)])).length) Slot.unset).toArray = ls at hl ⊢
  have hl : lv_has ls 1 [(0, .ref (a0 0))] := hl
  refine lv_aload_n hx hb dX8_need_0 rfl (lv_at hl 0 rfl) ?_
  refine lv_iconst (v := 2) hx hb dX8_need_1 (by decide) ?_
  refine lv_iconst (v := 1) hx hb dX8_need_2 (by decide) ?_
  obtain ⟨q3, hc_3, hf⟩ := cl_e hf
  refine fin_i (E := E) (wc := wX8 E a0 s0 t0) (wc' := wX8 E a0 s0 t0) (va_runV (As := [.int 2, .int 1]) (rest := []) ⟨hx, hb, hml, hown, hts⟩ (k_X8_lastOf l E a0 N s0 t0 2 1 q3 hc_3 _) (cwV 2 hts gX8_need_X8_lastOf rfl rfl rfl (by decide +kernel) ⟨(Nat.le_of_ble_eq_true rfl), (Nat.le_of_ble_eq_true rfl)⟩) (pre_v (ci := 8) (q0 := 0) hK hP (hDD s0 t0) hS hG hAB rfl rfl) rfl rfl hl.1 rfl (lv_room (Nat.le_of_ble_eq_true rfl)) dX8_need_3 ⟨Nat.zero_le _, Nat.zero_le _⟩) hS (w_free (hDD s0 t0) hS hA (fun _ h => h)) (fun H locs hP1 hk hS => ?_)
  have hP := hP1
  have e9 := Option.some.inj hf
  exact rt_i hx hb hr hlocks e9 hP hS dX8_need_6
abbrev rm_X8_hold : Room := { frames := 2, cells := 0, slots := 0, locals := 44 }
set_option maxHeartbeats 8000000 in
set_option maxRecDepth 100000 in
theorem k_X8_hold (l : Launch) (E : Ev) (a0 : Nat → Nat) (N : Nat) (s0 : St) (t0 : Nat → Nat → Int64) (q : (Int32)) (hf : f_X8_hold N s0 = some q) : Ci l yX8_hold wsX8_hold rm_X8_hold E [.ref (a0 0)] (wX8 E a0 s0 t0) (wX8 E a0 s0 t0) q := by
  unfold f_X8_hold at hf
  intro sz
  refine Met.ofW (cc := cX8_hold) (maxL := 2) (ret := (some .int)) (by decide) rfl ?_
  intro p e s m args below meth c s₁ B hml hv
  obtain ⟨rfl, hsz, hP, hK, hD0, hG, hA, hAB⟩ := start hv
  have hx := B.exec
  have hb := B.bytes
  have hr := B.returns
  have hts := atoms_spec (ws := wsX8_hold) B.pre
  have hown : s.vm.findClass RX8 = some m.cls := findClass_of_methodNamed B.named
  have hlocks := B.notSynchronized
  subst hsz
  generalize va_A (wX8 E a0 s0 t0) s.heap.size = A0 at hD0 hA hAB ⊢
  have hDD : ∀ (s0 : St) (t0 : Nat → Nat → Int64), va_D A0 (wX8 E a0 s0 t0) := fun s0 t0 => vD_addr hD0 rfl
  have hS : va_S A0 s.heap s.heap [] := va_S.rf
  have hl := lv_entry ([.ref (a0 0)]) (n := 2) (Nat.le_of_ble_eq_true rfl)
  rw [lg_entry_eq]
  generalize (lg_sl ([.ref (a0 0)]) ++ List.replicate (2 - (lg_sl ([.ref (a0 0)])).length) Slot.unset).toArray = ls at hl ⊢
  have hl : lv_has ls 2 [(0, .ref (a0 0))] := hl
  refine lv_aload_n hx hb dX8_hold_0 rfl (lv_at hl 0 rfl) ?_
  refine lv_iconst (v := 3) hx hb dX8_hold_1 (by decide) ?_
  refine lv_bipush (v := 6) hx hb dX8_hold_2 (by decide) ?_
  obtain ⟨q4, hc_4, hf⟩ := cl_e hf
  refine fin_i (E := E) (wc := wX8 E a0 s0 t0) (wc' := wX8 E a0 s0 t0) (va_runV (As := [.int 3, .int 6]) (rest := []) ⟨hx, hb, hml, hown, hts⟩ (k_X8_lastOf l E a0 N s0 t0 3 6 q4 hc_4 _) (cwV 2 hts gX8_hold_X8_lastOf rfl rfl rfl (by decide +kernel) ⟨(Nat.le_of_ble_eq_true rfl), (Nat.le_of_ble_eq_true rfl)⟩) (pre_v (ci := 8) (q0 := 0) hK hP (hDD s0 t0) hS hG hAB rfl rfl) rfl rfl hl.1 rfl (lv_room (Nat.le_of_ble_eq_true rfl)) dX8_hold_4 ⟨Nat.zero_le _, Nat.zero_le _⟩) hS (w_free (hDD s0 t0) hS hA (fun _ h => h)) (fun H locs hP1 hk hS => ?_)
  have hP := hP1
  refine lv_istore_n (lv' := [(1, .int q4), (0, .ref (a0 0))]) hx hb dX8_hold_7 rfl hl (Nat.le_of_ble_eq_true rfl) rfl (fun ls hl => ?_)
  refine lv_iload_n hx hb dX8_hold_8 rfl (lv_at hl 0 rfl) ?_
  refine lv_iconst (v := 1) hx hb dX8_hold_9 (by decide) ?_
  refine lv_icmp_ge (tgt := 17) hx hb dX8_hold_10 (by decide) (fun c_10 => ?_) (fun c_10 => ?_)
  · have hf := ite_t c_10 hf
    refine lv_iload_n hx hb dX8_hold_17 rfl (lv_at hl 0 rfl) ?_
    have e9 := Option.some.inj hf
    exact rt_i hx hb hr hlocks e9 hP hS dX8_hold_18
  · have hf := ite_f c_10 hf
    refine lv_iconst (v := 1) hx hb dX8_hold_13 (by decide) ?_
    refine lv_goto (tgt := 18) hx hb dX8_hold_14 (by decide) ?_
    have e9 := Option.some.inj hf
    exact rt_i hx hb hr hlocks e9 hP hS dX8_hold_18
abbrev rm_X8_factOf : Room := { frames := 2, cells := 0, slots := 0, locals := 45 }
theorem m_X8_factOf_275364 : Cond.fieldLink RX8 19 "PickedMatchModel" "kind" "[I" ∈ wsX8_factOf := by decide +kernel
theorem i_X8_factOf_X8 : ∀ w ∈ wsX80, w ∈ wsX8_factOf := fun _ h => List.mem_cons_of_mem _ (List.mem_append_right _ h)
theorem m_X8_factOf_7b6120 : Cond.fieldLink RX8 23 "PickedMatchModel" "v" "[I" ∈ wsX8_factOf := by decide +kernel
theorem m_X8_factOf_fa4c49 : Cond.fieldLink RX8 26 "PickedMatchModel" "marks" "[I" ∈ wsX8_factOf := by decide +kernel
theorem m_X8_factOf_92e5f7 : Cond.fieldLink RX8 13 "PickedMatchModel" "had" "I" ∈ wsX8_factOf := by decide +kernel
theorem m_X8_factOf_840104 : Cond.fieldLink RX8 16 "PickedMatchModel" "days" "I" ∈ wsX8_factOf := by decide +kernel
set_option maxHeartbeats 8000000 in
set_option maxRecDepth 100000 in
theorem k_X8_factOf (l : Launch) (E : Ev) (a0 : Nat → Nat) (N : Nat) (s0 : St) (t0 : Nat → Nat → Int64) (p1 : Int32) (p2 : Int32) (q : (Int32)) (hf : f_X8_factOf N s0 p1 p2 = some q) : Ci l yX8_factOf wsX8_factOf rm_X8_factOf E [.ref (a0 0), .int p1, .int p2] (wX8 E a0 s0 t0) (wX8 E a0 s0 t0) q := by
  unfold f_X8_factOf at hf
  intro sz
  refine Met.ofW (cc := cX8_factOf) (maxL := 3) (ret := (some .int)) (by decide) rfl ?_
  intro p e s m args below meth c s₁ B hml hv
  obtain ⟨rfl, hsz, hP, hK, hD0, hG, hA, hAB⟩ := start hv
  have hx := B.exec
  have hb := B.bytes
  have hr := B.returns
  have hts := atoms_spec (ws := wsX8_factOf) B.pre
  have hown : s.vm.findClass RX8 = some m.cls := findClass_of_methodNamed B.named
  have hlocks := B.notSynchronized
  subst hsz
  generalize va_A (wX8 E a0 s0 t0) s.heap.size = A0 at hD0 hA hAB ⊢
  have hDD : ∀ (s0 : St) (t0 : Nat → Nat → Int64), va_D A0 (wX8 E a0 s0 t0) := fun s0 t0 => vD_addr hD0 rfl
  have hS : va_S A0 s.heap s.heap [] := va_S.rf
  have hl := lv_entry ([.ref (a0 0), .int p1, .int p2]) (n := 3) (Nat.le_of_ble_eq_true rfl)
  rw [lg_entry_eq]
  generalize (lg_sl ([.ref (a0 0), .int p1, .int p2]) ++ List.replicate (3 - (lg_sl ([.ref (a0 0), .int p1, .int p2])).length) Slot.unset).toArray = ls at hl ⊢
  have hl : lv_has ls 3 [(0, .ref (a0 0)), (1, .int p1), (2, .int p2)] := hl
  refine lv_iload_n hx hb dX8_factOf_0 rfl (lv_at hl 1 rfl) ?_
  by_cases c_1_0 : p1 = 0
  · have hf := ite_t c_1_0 hf
    refine lv_tableIn (off := 35) (tgt := 36) hx hb dX8_factOf_1 (by rw [c_1_0]; decide) (by rw [c_1_0]; decide) (by rw [c_1_0]; rfl) (by decide) ?_
    refine lv_iload_n hx hb dX8_factOf_36 rfl (lv_at hl 2 rfl) ?_
    have e9 := Option.some.inj hf
    exact rt_i hx hb hr hlocks e9 hP hS dX8_factOf_37
  · have hf := ite_f c_1_0 hf
    by_cases c_1_1 : p1 = 1
    · have hf := ite_t c_1_1 hf
      refine lv_tableIn (off := 37) (tgt := 38) hx hb dX8_factOf_1 (by rw [c_1_1]; decide) (by rw [c_1_1]; decide) (by rw [c_1_1]; rfl) (by decide) ?_
      refine lv_aload_n hx hb dX8_factOf_38 rfl (lv_at hl 0 rfl) ?_
      refine va_get (ci := 8) (C := RX8) (T := TX8) (N := 67) (v := .ref (a0 1)) hx hb hts i_X8_factOf_X8 hown hK hP 0 rfl rfl 3 (by decide) (hts _ m_X8_factOf_275364) (fun _ h9 => h9) rfl dX8_factOf_39 ?_
      refine lv_iload_n hx hb dX8_factOf_42 rfl (lv_at hl 2 rfl) ?_
      obtain ⟨h_43, hf⟩ := ck_e hf
      refine va_iald (cA := E.2.1) (n := 6) (f := s0 3) hx hb hK hP 1 0 rfl rfl h_43 dX8_factOf_43 ?_
      have e9 := Option.some.inj hf
      exact rt_i hx hb hr hlocks e9 hP hS dX8_factOf_44
    · have hf := ite_f c_1_1 hf
      by_cases c_1_2 : p1 = 2
      · have hf := ite_t c_1_2 hf
        refine lv_tableIn (off := 44) (tgt := 45) hx hb dX8_factOf_1 (by rw [c_1_2]; decide) (by rw [c_1_2]; decide) (by rw [c_1_2]; rfl) (by decide) ?_
        refine lv_aload_n hx hb dX8_factOf_45 rfl (lv_at hl 0 rfl) ?_
        refine va_get (ci := 8) (C := RX8) (T := TX8) (N := 67) (v := .ref (a0 2)) hx hb hts i_X8_factOf_X8 hown hK hP 0 rfl rfl 4 (by decide) (hts _ m_X8_factOf_7b6120) (fun _ h9 => h9) rfl dX8_factOf_46 ?_
        refine lv_iload_n hx hb dX8_factOf_49 rfl (lv_at hl 2 rfl) ?_
        obtain ⟨h_50, hf⟩ := ck_e hf
        refine va_iald (cA := E.2.1) (n := 6) (f := s0 4) hx hb hK hP 2 0 rfl rfl h_50 dX8_factOf_50 ?_
        have e9 := Option.some.inj hf
        exact rt_i hx hb hr hlocks e9 hP hS dX8_factOf_51
      · have hf := ite_f c_1_2 hf
        by_cases c_1_3 : p1 = 3
        · have hf := ite_t c_1_3 hf
          refine lv_tableIn (off := 51) (tgt := 52) hx hb dX8_factOf_1 (by rw [c_1_3]; decide) (by rw [c_1_3]; decide) (by rw [c_1_3]; rfl) (by decide) ?_
          refine lv_aload_n hx hb dX8_factOf_52 rfl (lv_at hl 0 rfl) ?_
          refine lv_aload_n hx hb dX8_factOf_53 rfl (lv_at hl 0 rfl) ?_
          refine va_get (ci := 8) (C := RX8) (T := TX8) (N := 67) (v := .ref (a0 3)) hx hb hts i_X8_factOf_X8 hown hK hP 0 rfl rfl 5 (by decide) (hts _ m_X8_factOf_fa4c49) (fun _ h9 => h9) rfl dX8_factOf_54 ?_
          refine lv_iload_n hx hb dX8_factOf_57 rfl (lv_at hl 2 rfl) ?_
          obtain ⟨h_58, hf⟩ := ck_e hf
          refine va_iald (cA := E.2.1) (n := 6) (f := s0 5) hx hb hK hP 3 0 rfl rfl h_58 dX8_factOf_58 ?_
          obtain ⟨q59, hc_59, hf⟩ := cl_e hf
          refine fin_i (E := E) (wc := wX8 E a0 s0 t0) (wc' := wX8 E a0 s0 t0) (va_runV (As := [.int (s0 5 p2.toNatClampNeg)]) (rest := []) ⟨hx, hb, hml, hown, hts⟩ (k_X8_bits l E a0 N s0 t0 (s0 5 p2.toNatClampNeg) q59 hc_59 _) (cwV 1 hts gX8_factOf_X8_bits rfl rfl rfl (by decide +kernel) ⟨(Nat.le_of_ble_eq_true rfl), (Nat.le_of_ble_eq_true rfl)⟩) (pre_v (ci := 8) (q0 := 0) hK hP (hDD s0 t0) hS hG hAB rfl rfl) rfl rfl hl.1 rfl (lv_room (Nat.le_of_ble_eq_true rfl)) dX8_factOf_59 ⟨Nat.zero_le _, Nat.zero_le _⟩) hS (w_free (hDD s0 t0) hS hA (fun _ h => h)) (fun H locs hP1 hk hS => ?_)
          have hP := hP1
          have e9 := Option.some.inj hf
          exact rt_i hx hb hr hlocks e9 hP hS dX8_factOf_62
        · have hf := ite_f c_1_3 hf
          by_cases c_1_4 : p1 = 4
          · have hf := ite_t c_1_4 hf
            refine lv_tableIn (off := 62) (tgt := 63) hx hb dX8_factOf_1 (by rw [c_1_4]; decide) (by rw [c_1_4]; decide) (by rw [c_1_4]; rfl) (by decide) ?_
            refine lv_aload_n hx hb dX8_factOf_63 rfl (lv_at hl 0 rfl) ?_
            refine va_get (ci := 8) (C := RX8) (T := TX8) (N := 67) (v := .int (s0 1 0)) hx hb hts i_X8_factOf_X8 hown hK hP 0 rfl rfl 1 (by decide) (hts _ m_X8_factOf_92e5f7) (fun _ h9 => h9) rfl dX8_factOf_64 ?_
            have e9 := Option.some.inj hf
            exact rt_i hx hb hr hlocks e9 hP hS dX8_factOf_67
          · have hf := ite_f c_1_4 hf
            refine lv_tableOut (tgt := 68) hx hb dX8_factOf_1 (by have n0 := lv_neT (a := 0) c_1_0 (by decide); have n1 := lv_neT (a := 1) c_1_1 (by decide); have n2 := lv_neT (a := 2) c_1_2 (by decide); have n3 := lv_neT (a := 3) c_1_3 (by decide); have n4 := lv_neT (a := 4) c_1_4 (by decide); omega) (by decide) ?_
            refine lv_aload_n hx hb dX8_factOf_68 rfl (lv_at hl 0 rfl) ?_
            refine va_get (ci := 8) (C := RX8) (T := TX8) (N := 67) (v := .int (s0 2 0)) hx hb hts i_X8_factOf_X8 hown hK hP 0 rfl rfl 2 (by decide) (hts _ m_X8_factOf_840104) (fun _ h9 => h9) rfl dX8_factOf_69 ?_
            refine lv_bipush (v := 10) hx hb dX8_factOf_72 (by decide) ?_
            obtain ⟨hz_74, hf⟩ := cz_e hf
            refine lv_irem hx hb dX8_factOf_74 hz_74 ?_
            have e9 := Option.some.inj hf
            exact rt_i hx hb hr hlocks e9 hP hS dX8_factOf_75
abbrev rm_X8_holds : Room := { frames := 3, cells := 0, slots := 0, locals := 67 }
theorem m_X8_holds_33b474 : Cond.fieldLink RX8 65 "PickedMatchModel" "to" "[I" ∈ wsX8_holds := by decide +kernel
theorem i_X8_holds_X8 : ∀ w ∈ wsX80, w ∈ wsX8_holds := fun _ h => List.mem_cons_of_mem _ (List.mem_append_right _ h)
theorem m_X8_holds_5f4298 : Cond.fieldLink RX8 86 "PickedMatchModel" "pile" "[Z" ∈ wsX8_holds := by decide +kernel
theorem m_X8_holds_057380 : Cond.fieldLink RX8 68 "PickedMatchModel" "sign" "[I" ∈ wsX8_holds := by decide +kernel
theorem m_X8_holds_326dcb : Cond.fieldLink RX8 62 "PickedMatchModel" "from" "[I" ∈ wsX8_holds := by decide +kernel
set_option maxHeartbeats 8000000 in
set_option maxRecDepth 100000 in
theorem k_X8_holds (l : Launch) (E : Ev) (a0 : Nat → Nat) (N : Nat) (s0 : St) (t0 : Nat → Nat → Int64) (p1 : Int32) (p2 : Int32) (q : (Int32 × St)) (hf : f_X8_holds N s0 p1 p2 = some q) : Ci l yX8_holds wsX8_holds rm_X8_holds E [.ref (a0 0), .int p1, .int p2] (wX8 E a0 s0 t0) (wX8 E a0 q.2 t0) q.1 := by
  unfold f_X8_holds at hf
  intro sz
  refine Met.ofW (cc := cX8_holds) (maxL := 8) (ret := (some .boolean)) (by decide) rfl ?_
  intro p e s m args below meth c s₁ B hml hv
  obtain ⟨rfl, hsz, hP, hK, hD0, hG, hA, hAB⟩ := start hv
  have hx := B.exec
  have hb := B.bytes
  have hr := B.returns
  have hts := atoms_spec (ws := wsX8_holds) B.pre
  have hown : s.vm.findClass RX8 = some m.cls := findClass_of_methodNamed B.named
  have hlocks := B.notSynchronized
  subst hsz
  generalize va_A (wX8 E a0 s0 t0) s.heap.size = A0 at hD0 hA hAB ⊢
  have hDD : ∀ (s0 : St) (t0 : Nat → Nat → Int64), va_D A0 (wX8 E a0 s0 t0) := fun s0 t0 => vD_addr hD0 rfl
  have hS : va_S A0 s.heap s.heap [] := va_S.rf
  have hl := lv_entry ([.ref (a0 0), .int p1, .int p2]) (n := 8) (Nat.le_of_ble_eq_true rfl)
  rw [lg_entry_eq]
  generalize (lg_sl ([.ref (a0 0), .int p1, .int p2]) ++ List.replicate (8 - (lg_sl ([.ref (a0 0), .int p1, .int p2])).length) Slot.unset).toArray = ls at hl ⊢
  have hl : lv_has ls 8 [(0, .ref (a0 0)), (1, .int p1), (2, .int p2)] := hl
  have hL_10 : ∀ (v1 : Int32) (v2 : Int32) (n_10 : Nat) (s0 : St) (v3 : Int32) (v4 : Int32), l_X8_holds_10 N v1 v2 n_10 s0 v3 v4 = some q → ∀ (H : Heap) (locs : List Loc) (ls : Array Slot), va_P E.1 vwCl (wX8 E a0 s0 t0) H → va_S A0 s.heap H locs → lv_has ls 8 [(0, .ref (a0 0)), (1, .int v1), (2, .int v2), (3, .int v3), (4, .int v4)] → W p l e rm_X8_holds s m ([.ref (a0 0), .int p1, .int p2] : List Value).toArray below meth c H locs 0 0 (MQ below (va_Qi (fun (r' : Int32) (_ : Unit) => r' = q.1) (fun _ t => va_P E.1 vwCl (wX8 E a0 q.2 t0) t.heap) A0) ([.ref (a0 0), .int p1, .int p2] : List Value).toArray s 0 0 A0) (F0 m 10 ls []) := by
    intro v1 v2 n_10
    induction n_10 with
    | zero => intro s0 v3 v4 hf; rw [l_X8_holds_10] at hf; cases hf
    | succ n_10 ih_10 =>
      intro s0 v3 v4 hf H locs ls hP hS hl
      rw [l_X8_holds_10] at hf
      refine lv_iload hx hb dX8_holds_10 (lv_at hl 4 rfl) ?_
      refine lv_aload_n hx hb dX8_holds_12 rfl (lv_at hl 0 rfl) ?_
      refine va_get (ci := 8) (C := RX8) (T := TX8) (N := 67) (v := .ref (a0 11)) hx hb hts i_X8_holds_X8 hown hK hP 0 rfl rfl 18 (by decide) (hts _ m_X8_holds_33b474) (fun _ h9 => h9) rfl dX8_holds_13 ?_
      refine lv_iload_n hx hb dX8_holds_16 rfl (lv_at hl 1 rfl) ?_
      obtain ⟨h_17, hf⟩ := ck_e hf
      refine va_iald (cA := E.2.1) (n := 60) (f := s0 18) hx hb hK hP 11 0 rfl rfl h_17 dX8_holds_17 ?_
      refine lv_icmp_ge (tgt := 243) hx hb dX8_holds_18 (by decide) (fun c_18 => ?_) (fun c_18 => ?_)
      · have hf := ite_t c_18 hf
        refine lv_aload_n hx hb dX8_holds_243 rfl (lv_at hl 0 rfl) ?_
        refine va_get (ci := 8) (C := RX8) (T := TX8) (N := 67) (v := .ref (a0 15)) hx hb hts i_X8_holds_X8 hown hK hP 0 rfl rfl 25 (by decide) (hts _ m_X8_holds_5f4298) (fun _ h9 => h9) rfl dX8_holds_244 ?_
        refine lv_iconst (v := 0) hx hb dX8_holds_247 (by decide) ?_
        obtain ⟨h_248, hf⟩ := ck_e hf
        refine va_zald (cA := E.2.2.2.1) (n := 100) (f := s0 25) hx hb hK hP 15 2 rfl rfl h_248 dX8_holds_248 ?_
        obtain ⟨hn_249, hf⟩ := cb_e hf
        have e9 := Option.some.inj hf
        exact rt_z hx hb hr (nar_b hn_249) hlocks (fst_e e9) (rtP (P := fun z => va_P E.1 vwCl (wX8 E a0 z.2 t0) H) e9 hP) hS dX8_holds_249
      · have hf := ite_f c_18 hf
        refine lv_aload_n hx hb dX8_holds_21 rfl (lv_at hl 0 rfl) ?_
        refine va_get (ci := 8) (C := RX8) (T := TX8) (N := 67) (v := .ref (a0 12)) hx hb hts i_X8_holds_X8 hown hK hP 0 rfl rfl 19 (by decide) (hts _ m_X8_holds_057380) (fun _ h9 => h9) rfl dX8_holds_22 ?_
        refine lv_iload hx hb dX8_holds_25 (lv_at hl 4 rfl) ?_
        obtain ⟨h_27, hf⟩ := ck_e hf
        refine va_iald (cA := E.2.1) (n := 600) (f := s0 19) hx hb hK hP 12 0 rfl rfl h_27 dX8_holds_27 ?_
        refine lv_topi (fun x28 e_x28 => ?_)
        have hf := nm_q e_x28 hf
        refine lv_istore (lv' := [(5, .int x28), (0, .ref (a0 0)), (1, .int v1), (2, .int v2), (3, .int v3), (4, .int v4)]) hx hb dX8_holds_28 hl (Nat.le_of_ble_eq_true rfl) rfl (fun ls hl => ?_)
        refine lv_iload hx hb dX8_holds_30 (lv_at hl 0 rfl) ?_
        refine lv_bipush (v := (-33)) hx hb dX8_holds_32 (by decide) ?_
        refine lv_icmp_ne (tgt := 64) hx hb dX8_holds_34 (by decide) (fun c_34 => ?_) (fun c_34 => ?_)
        · have hf := ite_f c_34 hf
          refine lv_iload hx hb dX8_holds_64 (lv_at hl 0 rfl) ?_
          refine lv_if_ge (tgt := 143) hx hb dX8_holds_66 (by decide) (fun c_66 => ?_) (fun c_66 => ?_)
          · have hf := ite_t c_66 hf
            refine lv_aload_n hx hb dX8_holds_143 rfl (lv_at hl 1 rfl) ?_
            refine lv_iload hx hb dX8_holds_144 (lv_at hl 0 rfl) ?_
            refine lv_sipush (v := 1000) hx hb dX8_holds_146 (by decide) ?_
            obtain ⟨hz_149, hf⟩ := cz_e hf
            refine lv_idiv hx hb dX8_holds_149 hz_149 ?_
            refine lv_iload_n hx hb dX8_holds_150 rfl (lv_at hl 3 rfl) ?_
            obtain ⟨q151, hc_151, hf⟩ := cl_e hf
            refine fin_i (E := E) (wc := wX8 E a0 s0 t0) (wc' := wX8 E a0 s0 t0) (va_runV (As := [.int (x28 / 1000), .int v2]) (rest := []) ⟨hx, hb, hml, hown, hts⟩ (k_X8_factOf l E a0 N s0 t0 (x28 / 1000) v2 q151 hc_151 _) (cwV 2 hts gX8_holds_X8_factOf rfl rfl rfl (by decide +kernel) ⟨(Nat.le_of_ble_eq_true rfl), (Nat.le_of_ble_eq_true rfl)⟩) (pre_v (ci := 8) (q0 := 0) hK hP (hDD s0 t0) hS hG hAB rfl rfl) rfl rfl hl.1 rfl (lv_room (Nat.le_of_ble_eq_true rfl)) dX8_holds_151 ⟨Nat.zero_le _, Nat.zero_le _⟩) hS (w_free (hDD s0 t0) hS hA (fun _ h => h)) (fun H locs hP1 hk hS => ?_)
            have hP := hP1
            refine lv_istore (lv' := [(6, .int q151), (5, .int x28), (0, .ref (a0 0)), (1, .int v1), (2, .int v2), (3, .int v3), (4, .int v4)]) hx hb dX8_holds_154 hl (Nat.le_of_ble_eq_true rfl) rfl (fun ls hl => ?_)
            refine lv_iload hx hb dX8_holds_156 (lv_at hl 1 rfl) ?_
            refine lv_bipush (v := 100) hx hb dX8_holds_158 (by decide) ?_
            obtain ⟨hz_160, hf⟩ := cz_e hf
            refine lv_idiv hx hb dX8_holds_160 hz_160 ?_
            refine lv_bipush (v := 10) hx hb dX8_holds_161 (by decide) ?_
            obtain ⟨hz_163, hf⟩ := cz_e hf
            refine lv_irem hx hb dX8_holds_163 hz_163 ?_
            refine lv_topi (fun x164 e_x164 => ?_)
            have hf := nm_q e_x164 hf
            refine lv_istore (lv' := [(7, .int x164), (6, .int q151), (5, .int x28), (0, .ref (a0 0)), (1, .int v1), (2, .int v2), (3, .int v3), (4, .int v4)]) hx hb dX8_holds_164 hl (Nat.le_of_ble_eq_true rfl) rfl (fun ls hl => ?_)
            refine lv_aload_n hx hb dX8_holds_166 rfl (lv_at hl 3 rfl) ?_
            refine va_get (ci := 8) (C := RX8) (T := TX8) (N := 67) (v := .ref (a0 15)) hx hb hts i_X8_holds_X8 hown hK hP 0 rfl rfl 25 (by decide) (hts _ m_X8_holds_5f4298) (fun _ h9 => h9) rfl dX8_holds_167 ?_
            refine lv_iload_n hx hb dX8_holds_170 rfl (lv_at hl 6 rfl) ?_
            refine lv_iload hx hb dX8_holds_171 (lv_at hl 0 rfl) ?_
            refine lv_if_ne (tgt := 194) hx hb dX8_holds_173 (by decide) (fun c_173 => ?_) (fun c_173 => ?_)
            · have hf := ite_f c_173 hf
              refine lv_iload hx hb dX8_holds_194 (lv_at hl 0 rfl) ?_
              refine lv_iconst (v := 1) hx hb dX8_holds_196 (by decide) ?_
              refine lv_icmp_ne (tgt := 218) hx hb dX8_holds_197 (by decide) (fun c_197 => ?_) (fun c_197 => ?_)
              · have hf := ite_f c_197 hf
                refine lv_iload hx hb dX8_holds_218 (lv_at hl 1 rfl) ?_
                refine lv_iload hx hb dX8_holds_220 (lv_at hl 2 rfl) ?_
                refine lv_bipush (v := 100) hx hb dX8_holds_222 (by decide) ?_
                obtain ⟨hz_224, hf⟩ := cz_e hf
                refine lv_irem hx hb dX8_holds_224 hz_224 ?_
                refine lv_icmp_le (tgt := 232) hx hb dX8_holds_225 (by decide) (fun c_225 => ?_) (fun c_225 => ?_)
                · have hf := ite_t c_225 hf
                  refine lv_iconst (v := 0) hx hb dX8_holds_232 (by decide) ?_
                  obtain ⟨h_233, hf⟩ := ck_e hf
                  refine va_zast (cA := E.2.2.2.1) (n := 100) (f := s0 25) (x := 0) hx hb hK hP (hDD s0 t0) hS 15 2 rfl rfl h_233 dX8_holds_233 (fun H locs hP _ hS => ?_)
                  obtain ⟨s0_233, hP, hf⟩ := nm_st' (P := fun z => va_P E.1 vwCl (wX8 E a0 z t0) H) hf hP
                  obtain ⟨x234, e_x234⟩ : ∃ y : Int32, y = v3 + 1 := ⟨_, rfl⟩
                  have hf := nm_q e_x234 hf
                  refine lv_iinc (v := x234) (lv' := [(3, .int x234), (7, .int x164), (6, .int q151), (5, .int x28), (0, .ref (a0 0)), (1, .int v1), (2, .int v2), (4, .int v4)]) hx hb dX8_holds_234 hl (k := 6) rfl (by rw [e_x234]; rfl) (Nat.le_of_ble_eq_true rfl) rfl (fun ls hl => ?_)
                  obtain ⟨x237, e_x237⟩ : ∃ y : Int32, y = v4 + 1 := ⟨_, rfl⟩
                  have hf := nm_q e_x237 hf
                  refine lv_iinc (v := x237) (lv' := [(4, .int x237), (3, .int x234), (7, .int x164), (6, .int q151), (5, .int x28), (0, .ref (a0 0)), (1, .int v1), (2, .int v2)]) hx hb dX8_holds_237 hl (k := 7) rfl (by rw [e_x237]; rfl) (Nat.le_of_ble_eq_true rfl) rfl (fun ls hl => ?_)
                  refine lv_goto (tgt := 10) hx hb dX8_holds_240 (by decide) ?_
                  exact ih_10 s0_233 x234 x237 hf _ _ _ hP hS (lv_sub hl [5, 6, 7, 1, 0] rfl)
                · have hf := ite_f c_225 hf
                  refine lv_iconst (v := 1) hx hb dX8_holds_228 (by decide) ?_
                  refine lv_goto (tgt := 233) hx hb dX8_holds_229 (by decide) ?_
                  obtain ⟨h_233, hf⟩ := ck_e hf
                  refine va_zast (cA := E.2.2.2.1) (n := 100) (f := s0 25) (x := 1) hx hb hK hP (hDD s0 t0) hS 15 2 rfl rfl h_233 dX8_holds_233 (fun H locs hP _ hS => ?_)
                  obtain ⟨s0_233, hP, hf⟩ := nm_st' (P := fun z => va_P E.1 vwCl (wX8 E a0 z t0) H) hf hP
                  obtain ⟨x234, e_x234⟩ : ∃ y : Int32, y = v3 + 1 := ⟨_, rfl⟩
                  have hf := nm_q e_x234 hf
                  refine lv_iinc (v := x234) (lv' := [(3, .int x234), (7, .int x164), (6, .int q151), (5, .int x28), (0, .ref (a0 0)), (1, .int v1), (2, .int v2), (4, .int v4)]) hx hb dX8_holds_234 hl (k := 6) rfl (by rw [e_x234]; rfl) (Nat.le_of_ble_eq_true rfl) rfl (fun ls hl => ?_)
                  obtain ⟨x237, e_x237⟩ : ∃ y : Int32, y = v4 + 1 := ⟨_, rfl⟩
                  have hf := nm_q e_x237 hf
                  refine lv_iinc (v := x237) (lv' := [(4, .int x237), (3, .int x234), (7, .int x164), (6, .int q151), (5, .int x28), (0, .ref (a0 0)), (1, .int v1), (2, .int v2)]) hx hb dX8_holds_237 hl (k := 7) rfl (by rw [e_x237]; rfl) (Nat.le_of_ble_eq_true rfl) rfl (fun ls hl => ?_)
                  refine lv_goto (tgt := 10) hx hb dX8_holds_240 (by decide) ?_
                  exact ih_10 s0_233 x234 x237 hf _ _ _ hP hS (lv_sub hl [5, 6, 7, 1, 0] rfl)
              · have hf := ite_t c_197 hf
                refine lv_iload hx hb dX8_holds_200 (lv_at hl 1 rfl) ?_
                refine lv_iload hx hb dX8_holds_202 (lv_at hl 2 rfl) ?_
                refine lv_bipush (v := 100) hx hb dX8_holds_204 (by decide) ?_
                obtain ⟨hz_206, hf⟩ := cz_e hf
                refine lv_irem hx hb dX8_holds_206 hz_206 ?_
                refine lv_icmp_ne (tgt := 214) hx hb dX8_holds_207 (by decide) (fun c_207 => ?_) (fun c_207 => ?_)
                · have hf := ite_f c_207 hf
                  refine lv_iconst (v := 0) hx hb dX8_holds_214 (by decide) ?_
                  refine lv_goto (tgt := 233) hx hb dX8_holds_215 (by decide) ?_
                  obtain ⟨h_233, hf⟩ := ck_e hf
                  refine va_zast (cA := E.2.2.2.1) (n := 100) (f := s0 25) (x := 0) hx hb hK hP (hDD s0 t0) hS 15 2 rfl rfl h_233 dX8_holds_233 (fun H locs hP _ hS => ?_)
                  obtain ⟨s0_233, hP, hf⟩ := nm_st' (P := fun z => va_P E.1 vwCl (wX8 E a0 z t0) H) hf hP
                  obtain ⟨x234, e_x234⟩ : ∃ y : Int32, y = v3 + 1 := ⟨_, rfl⟩
                  have hf := nm_q e_x234 hf
                  refine lv_iinc (v := x234) (lv' := [(3, .int x234), (7, .int x164), (6, .int q151), (5, .int x28), (0, .ref (a0 0)), (1, .int v1), (2, .int v2), (4, .int v4)]) hx hb dX8_holds_234 hl (k := 6) rfl (by rw [e_x234]; rfl) (Nat.le_of_ble_eq_true rfl) rfl (fun ls hl => ?_)
                  obtain ⟨x237, e_x237⟩ : ∃ y : Int32, y = v4 + 1 := ⟨_, rfl⟩
                  have hf := nm_q e_x237 hf
                  refine lv_iinc (v := x237) (lv' := [(4, .int x237), (3, .int x234), (7, .int x164), (6, .int q151), (5, .int x28), (0, .ref (a0 0)), (1, .int v1), (2, .int v2)]) hx hb dX8_holds_237 hl (k := 7) rfl (by rw [e_x237]; rfl) (Nat.le_of_ble_eq_true rfl) rfl (fun ls hl => ?_)
                  refine lv_goto (tgt := 10) hx hb dX8_holds_240 (by decide) ?_
                  exact ih_10 s0_233 x234 x237 hf _ _ _ hP hS (lv_sub hl [5, 6, 7, 1, 0] rfl)
                · have hf := ite_t c_207 hf
                  refine lv_iconst (v := 1) hx hb dX8_holds_210 (by decide) ?_
                  refine lv_goto (tgt := 233) hx hb dX8_holds_211 (by decide) ?_
                  obtain ⟨h_233, hf⟩ := ck_e hf
                  refine va_zast (cA := E.2.2.2.1) (n := 100) (f := s0 25) (x := 1) hx hb hK hP (hDD s0 t0) hS 15 2 rfl rfl h_233 dX8_holds_233 (fun H locs hP _ hS => ?_)
                  obtain ⟨s0_233, hP, hf⟩ := nm_st' (P := fun z => va_P E.1 vwCl (wX8 E a0 z t0) H) hf hP
                  obtain ⟨x234, e_x234⟩ : ∃ y : Int32, y = v3 + 1 := ⟨_, rfl⟩
                  have hf := nm_q e_x234 hf
                  refine lv_iinc (v := x234) (lv' := [(3, .int x234), (7, .int x164), (6, .int q151), (5, .int x28), (0, .ref (a0 0)), (1, .int v1), (2, .int v2), (4, .int v4)]) hx hb dX8_holds_234 hl (k := 6) rfl (by rw [e_x234]; rfl) (Nat.le_of_ble_eq_true rfl) rfl (fun ls hl => ?_)
                  obtain ⟨x237, e_x237⟩ : ∃ y : Int32, y = v4 + 1 := ⟨_, rfl⟩
                  have hf := nm_q e_x237 hf
                  refine lv_iinc (v := x237) (lv' := [(4, .int x237), (3, .int x234), (7, .int x164), (6, .int q151), (5, .int x28), (0, .ref (a0 0)), (1, .int v1), (2, .int v2)]) hx hb dX8_holds_237 hl (k := 7) rfl (by rw [e_x237]; rfl) (Nat.le_of_ble_eq_true rfl) rfl (fun ls hl => ?_)
                  refine lv_goto (tgt := 10) hx hb dX8_holds_240 (by decide) ?_
                  exact ih_10 s0_233 x234 x237 hf _ _ _ hP hS (lv_sub hl [5, 6, 7, 1, 0] rfl)
            · have hf := ite_t c_173 hf
              refine lv_iload hx hb dX8_holds_176 (lv_at hl 1 rfl) ?_
              refine lv_iload hx hb dX8_holds_178 (lv_at hl 2 rfl) ?_
              refine lv_bipush (v := 100) hx hb dX8_holds_180 (by decide) ?_
              obtain ⟨hz_182, hf⟩ := cz_e hf
              refine lv_irem hx hb dX8_holds_182 hz_182 ?_
              refine lv_icmp_ge (tgt := 190) hx hb dX8_holds_183 (by decide) (fun c_183 => ?_) (fun c_183 => ?_)
              · have hf := ite_t c_183 hf
                refine lv_iconst (v := 0) hx hb dX8_holds_190 (by decide) ?_
                refine lv_goto (tgt := 233) hx hb dX8_holds_191 (by decide) ?_
                obtain ⟨h_233, hf⟩ := ck_e hf
                refine va_zast (cA := E.2.2.2.1) (n := 100) (f := s0 25) (x := 0) hx hb hK hP (hDD s0 t0) hS 15 2 rfl rfl h_233 dX8_holds_233 (fun H locs hP _ hS => ?_)
                obtain ⟨s0_233, hP, hf⟩ := nm_st' (P := fun z => va_P E.1 vwCl (wX8 E a0 z t0) H) hf hP
                obtain ⟨x234, e_x234⟩ : ∃ y : Int32, y = v3 + 1 := ⟨_, rfl⟩
                have hf := nm_q e_x234 hf
                refine lv_iinc (v := x234) (lv' := [(3, .int x234), (7, .int x164), (6, .int q151), (5, .int x28), (0, .ref (a0 0)), (1, .int v1), (2, .int v2), (4, .int v4)]) hx hb dX8_holds_234 hl (k := 6) rfl (by rw [e_x234]; rfl) (Nat.le_of_ble_eq_true rfl) rfl (fun ls hl => ?_)
                obtain ⟨x237, e_x237⟩ : ∃ y : Int32, y = v4 + 1 := ⟨_, rfl⟩
                have hf := nm_q e_x237 hf
                refine lv_iinc (v := x237) (lv' := [(4, .int x237), (3, .int x234), (7, .int x164), (6, .int q151), (5, .int x28), (0, .ref (a0 0)), (1, .int v1), (2, .int v2)]) hx hb dX8_holds_237 hl (k := 7) rfl (by rw [e_x237]; rfl) (Nat.le_of_ble_eq_true rfl) rfl (fun ls hl => ?_)
                refine lv_goto (tgt := 10) hx hb dX8_holds_240 (by decide) ?_
                exact ih_10 s0_233 x234 x237 hf _ _ _ hP hS (lv_sub hl [5, 6, 7, 1, 0] rfl)
              · have hf := ite_f c_183 hf
                refine lv_iconst (v := 1) hx hb dX8_holds_186 (by decide) ?_
                refine lv_goto (tgt := 233) hx hb dX8_holds_187 (by decide) ?_
                obtain ⟨h_233, hf⟩ := ck_e hf
                refine va_zast (cA := E.2.2.2.1) (n := 100) (f := s0 25) (x := 1) hx hb hK hP (hDD s0 t0) hS 15 2 rfl rfl h_233 dX8_holds_233 (fun H locs hP _ hS => ?_)
                obtain ⟨s0_233, hP, hf⟩ := nm_st' (P := fun z => va_P E.1 vwCl (wX8 E a0 z t0) H) hf hP
                obtain ⟨x234, e_x234⟩ : ∃ y : Int32, y = v3 + 1 := ⟨_, rfl⟩
                have hf := nm_q e_x234 hf
                refine lv_iinc (v := x234) (lv' := [(3, .int x234), (7, .int x164), (6, .int q151), (5, .int x28), (0, .ref (a0 0)), (1, .int v1), (2, .int v2), (4, .int v4)]) hx hb dX8_holds_234 hl (k := 6) rfl (by rw [e_x234]; rfl) (Nat.le_of_ble_eq_true rfl) rfl (fun ls hl => ?_)
                obtain ⟨x237, e_x237⟩ : ∃ y : Int32, y = v4 + 1 := ⟨_, rfl⟩
                have hf := nm_q e_x237 hf
                refine lv_iinc (v := x237) (lv' := [(4, .int x237), (3, .int x234), (7, .int x164), (6, .int q151), (5, .int x28), (0, .ref (a0 0)), (1, .int v1), (2, .int v2)]) hx hb dX8_holds_237 hl (k := 7) rfl (by rw [e_x237]; rfl) (Nat.le_of_ble_eq_true rfl) rfl (fun ls hl => ?_)
                refine lv_goto (tgt := 10) hx hb dX8_holds_240 (by decide) ?_
                exact ih_10 s0_233 x234 x237 hf _ _ _ hP hS (lv_sub hl [5, 6, 7, 1, 0] rfl)
          · have hf := ite_f c_66 hf
            obtain ⟨x69, e_x69⟩ : ∃ y : Int32, y = v3 + (-1) := ⟨_, rfl⟩
            have hf := nm_q e_x69 hf
            refine lv_iinc (v := x69) (lv' := [(3, .int x69), (5, .int x28), (0, .ref (a0 0)), (1, .int v1), (2, .int v2), (4, .int v4)]) hx hb dX8_holds_69 hl (k := 4) rfl (by rw [e_x69]; rfl) (Nat.le_of_ble_eq_true rfl) rfl (fun ls hl => ?_)
            refine lv_aload_n hx hb dX8_holds_72 rfl (lv_at hl 2 rfl) ?_
            refine va_get (ci := 8) (C := RX8) (T := TX8) (N := 67) (v := .ref (a0 15)) hx hb hts i_X8_holds_X8 hown hK hP 0 rfl rfl 25 (by decide) (hts _ m_X8_holds_5f4298) (fun _ h9 => h9) rfl dX8_holds_73 ?_
            refine lv_iload_n hx hb dX8_holds_76 rfl (lv_at hl 0 rfl) ?_
            refine lv_iconst (v := 1) hx hb dX8_holds_77 (by decide) ?_
            refine lv_isub hx hb dX8_holds_78 ?_
            refine lv_iload hx hb dX8_holds_79 (lv_at hl 1 rfl) ?_
            refine lv_bipush (v := (-38)) hx hb dX8_holds_81 (by decide) ?_
            refine lv_icmp_ne (tgt := 114) hx hb dX8_holds_83 (by decide) (fun c_83 => ?_) (fun c_83 => ?_)
            · have hf := ite_f c_83 hf
              refine lv_aload_n hx hb dX8_holds_114 rfl (lv_at hl 2 rfl) ?_
              refine va_get (ci := 8) (C := RX8) (T := TX8) (N := 67) (v := .ref (a0 15)) hx hb hts i_X8_holds_X8 hown hK hP 0 rfl rfl 25 (by decide) (hts _ m_X8_holds_5f4298) (fun _ h9 => h9) rfl dX8_holds_115 ?_
              refine lv_iload_n hx hb dX8_holds_118 rfl (lv_at hl 0 rfl) ?_
              refine lv_iconst (v := 1) hx hb dX8_holds_119 (by decide) ?_
              refine lv_isub hx hb dX8_holds_120 ?_
              obtain ⟨h_121, hf⟩ := ck_e hf
              refine va_zald (cA := E.2.2.2.1) (n := 100) (f := s0 25) hx hb hK hP 15 2 rfl rfl h_121 dX8_holds_121 ?_
              refine lv_if_ne (tgt := 134) hx hb dX8_holds_122 (by decide) (fun c_122 => ?_) (fun c_122 => ?_)
              · have hf := ite_f c_122 hf
                refine lv_iconst (v := 1) hx hb dX8_holds_134 (by decide) ?_
                refine lv_goto (tgt := 139) hx hb dX8_holds_135 (by decide) ?_
                obtain ⟨h_139, hf⟩ := ck_e hf
                refine va_zast (cA := E.2.2.2.1) (n := 100) (f := s0 25) (x := 1) hx hb hK hP (hDD s0 t0) hS 15 2 rfl rfl h_139 dX8_holds_139 (fun H locs hP _ hS => ?_)
                obtain ⟨s0_139, hP, hf⟩ := nm_st' (P := fun z => va_P E.1 vwCl (wX8 E a0 z t0) H) hf hP
                refine lv_goto (tgt := 237) hx hb dX8_holds_140 (by decide) ?_
                obtain ⟨x237, e_x237⟩ : ∃ y : Int32, y = v4 + 1 := ⟨_, rfl⟩
                have hf := nm_q e_x237 hf
                refine lv_iinc (v := x237) (lv' := [(4, .int x237), (3, .int x69), (5, .int x28), (0, .ref (a0 0)), (1, .int v1), (2, .int v2)]) hx hb dX8_holds_237 hl (k := 5) rfl (by rw [e_x237]; rfl) (Nat.le_of_ble_eq_true rfl) rfl (fun ls hl => ?_)
                refine lv_goto (tgt := 10) hx hb dX8_holds_240 (by decide) ?_
                exact ih_10 s0_139 x69 x237 hf _ _ _ hP hS (lv_sub hl [3, 4, 5, 1, 0] rfl)
              · have hf := ite_t c_122 hf
                refine lv_aload_n hx hb dX8_holds_125 rfl (lv_at hl 2 rfl) ?_
                refine va_get (ci := 8) (C := RX8) (T := TX8) (N := 67) (v := .ref (a0 15)) hx hb hts i_X8_holds_X8 hown hK hP 0 rfl rfl 25 (by decide) (hts _ m_X8_holds_5f4298) (fun _ h9 => h9) rfl dX8_holds_126 ?_
                refine lv_iload_n hx hb dX8_holds_129 rfl (lv_at hl 0 rfl) ?_
                obtain ⟨h_130, hf⟩ := ck_e hf
                refine va_zald (cA := E.2.2.2.1) (n := 100) (f := s0 25) hx hb hK hP 15 2 rfl rfl h_130 dX8_holds_130 ?_
                refine lv_if_eq (tgt := 138) hx hb dX8_holds_131 (by decide) (fun c_131 => ?_) (fun c_131 => ?_)
                · have hf := ite_t c_131 hf
                  refine lv_iconst (v := 0) hx hb dX8_holds_138 (by decide) ?_
                  obtain ⟨h_139, hf⟩ := ck_e hf
                  refine va_zast (cA := E.2.2.2.1) (n := 100) (f := s0 25) (x := 0) hx hb hK hP (hDD s0 t0) hS 15 2 rfl rfl h_139 dX8_holds_139 (fun H locs hP _ hS => ?_)
                  obtain ⟨s0_139, hP, hf⟩ := nm_st' (P := fun z => va_P E.1 vwCl (wX8 E a0 z t0) H) hf hP
                  refine lv_goto (tgt := 237) hx hb dX8_holds_140 (by decide) ?_
                  obtain ⟨x237, e_x237⟩ : ∃ y : Int32, y = v4 + 1 := ⟨_, rfl⟩
                  have hf := nm_q e_x237 hf
                  refine lv_iinc (v := x237) (lv' := [(4, .int x237), (3, .int x69), (5, .int x28), (0, .ref (a0 0)), (1, .int v1), (2, .int v2)]) hx hb dX8_holds_237 hl (k := 5) rfl (by rw [e_x237]; rfl) (Nat.le_of_ble_eq_true rfl) rfl (fun ls hl => ?_)
                  refine lv_goto (tgt := 10) hx hb dX8_holds_240 (by decide) ?_
                  exact ih_10 s0_139 x69 x237 hf _ _ _ hP hS (lv_sub hl [3, 4, 5, 1, 0] rfl)
                · have hf := ite_f c_131 hf
                  refine lv_iconst (v := 1) hx hb dX8_holds_134 (by decide) ?_
                  refine lv_goto (tgt := 139) hx hb dX8_holds_135 (by decide) ?_
                  obtain ⟨h_139, hf⟩ := ck_e hf
                  refine va_zast (cA := E.2.2.2.1) (n := 100) (f := s0 25) (x := 1) hx hb hK hP (hDD s0 t0) hS 15 2 rfl rfl h_139 dX8_holds_139 (fun H locs hP _ hS => ?_)
                  obtain ⟨s0_139, hP, hf⟩ := nm_st' (P := fun z => va_P E.1 vwCl (wX8 E a0 z t0) H) hf hP
                  refine lv_goto (tgt := 237) hx hb dX8_holds_140 (by decide) ?_
                  obtain ⟨x237, e_x237⟩ : ∃ y : Int32, y = v4 + 1 := ⟨_, rfl⟩
                  have hf := nm_q e_x237 hf
                  refine lv_iinc (v := x237) (lv' := [(4, .int x237), (3, .int x69), (5, .int x28), (0, .ref (a0 0)), (1, .int v1), (2, .int v2)]) hx hb dX8_holds_237 hl (k := 5) rfl (by rw [e_x237]; rfl) (Nat.le_of_ble_eq_true rfl) rfl (fun ls hl => ?_)
                  refine lv_goto (tgt := 10) hx hb dX8_holds_240 (by decide) ?_
                  exact ih_10 s0_139 x69 x237 hf _ _ _ hP hS (lv_sub hl [3, 4, 5, 1, 0] rfl)
            · have hf := ite_t c_83 hf
              refine lv_aload_n hx hb dX8_holds_86 rfl (lv_at hl 2 rfl) ?_
              refine va_get (ci := 8) (C := RX8) (T := TX8) (N := 67) (v := .ref (a0 15)) hx hb hts i_X8_holds_X8 hown hK hP 0 rfl rfl 25 (by decide) (hts _ m_X8_holds_5f4298) (fun _ h9 => h9) rfl dX8_holds_87 ?_
              refine lv_iload_n hx hb dX8_holds_90 rfl (lv_at hl 0 rfl) ?_
              refine lv_iconst (v := 1) hx hb dX8_holds_91 (by decide) ?_
              refine lv_isub hx hb dX8_holds_92 ?_
              obtain ⟨h_93, hf⟩ := ck_e hf
              refine va_zald (cA := E.2.2.2.1) (n := 100) (f := s0 25) hx hb hK hP 15 2 rfl rfl h_93 dX8_holds_93 ?_
              refine lv_if_eq (tgt := 110) hx hb dX8_holds_94 (by decide) (fun c_94 => ?_) (fun c_94 => ?_)
              · have hf := ite_t c_94 hf
                refine lv_iconst (v := 0) hx hb dX8_holds_110 (by decide) ?_
                refine lv_goto (tgt := 139) hx hb dX8_holds_111 (by decide) ?_
                obtain ⟨h_139, hf⟩ := ck_e hf
                refine va_zast (cA := E.2.2.2.1) (n := 100) (f := s0 25) (x := 0) hx hb hK hP (hDD s0 t0) hS 15 2 rfl rfl h_139 dX8_holds_139 (fun H locs hP _ hS => ?_)
                obtain ⟨s0_139, hP, hf⟩ := nm_st' (P := fun z => va_P E.1 vwCl (wX8 E a0 z t0) H) hf hP
                refine lv_goto (tgt := 237) hx hb dX8_holds_140 (by decide) ?_
                obtain ⟨x237, e_x237⟩ : ∃ y : Int32, y = v4 + 1 := ⟨_, rfl⟩
                have hf := nm_q e_x237 hf
                refine lv_iinc (v := x237) (lv' := [(4, .int x237), (3, .int x69), (5, .int x28), (0, .ref (a0 0)), (1, .int v1), (2, .int v2)]) hx hb dX8_holds_237 hl (k := 5) rfl (by rw [e_x237]; rfl) (Nat.le_of_ble_eq_true rfl) rfl (fun ls hl => ?_)
                refine lv_goto (tgt := 10) hx hb dX8_holds_240 (by decide) ?_
                exact ih_10 s0_139 x69 x237 hf _ _ _ hP hS (lv_sub hl [3, 4, 5, 1, 0] rfl)
              · have hf := ite_f c_94 hf
                refine lv_aload_n hx hb dX8_holds_97 rfl (lv_at hl 2 rfl) ?_
                refine va_get (ci := 8) (C := RX8) (T := TX8) (N := 67) (v := .ref (a0 15)) hx hb hts i_X8_holds_X8 hown hK hP 0 rfl rfl 25 (by decide) (hts _ m_X8_holds_5f4298) (fun _ h9 => h9) rfl dX8_holds_98 ?_
                refine lv_iload_n hx hb dX8_holds_101 rfl (lv_at hl 0 rfl) ?_
                obtain ⟨h_102, hf⟩ := ck_e hf
                refine va_zald (cA := E.2.2.2.1) (n := 100) (f := s0 25) hx hb hK hP 15 2 rfl rfl h_102 dX8_holds_102 ?_
                refine lv_if_eq (tgt := 110) hx hb dX8_holds_103 (by decide) (fun c_103 => ?_) (fun c_103 => ?_)
                · have hf := ite_t c_103 hf
                  refine lv_iconst (v := 0) hx hb dX8_holds_110 (by decide) ?_
                  refine lv_goto (tgt := 139) hx hb dX8_holds_111 (by decide) ?_
                  obtain ⟨h_139, hf⟩ := ck_e hf
                  refine va_zast (cA := E.2.2.2.1) (n := 100) (f := s0 25) (x := 0) hx hb hK hP (hDD s0 t0) hS 15 2 rfl rfl h_139 dX8_holds_139 (fun H locs hP _ hS => ?_)
                  obtain ⟨s0_139, hP, hf⟩ := nm_st' (P := fun z => va_P E.1 vwCl (wX8 E a0 z t0) H) hf hP
                  refine lv_goto (tgt := 237) hx hb dX8_holds_140 (by decide) ?_
                  obtain ⟨x237, e_x237⟩ : ∃ y : Int32, y = v4 + 1 := ⟨_, rfl⟩
                  have hf := nm_q e_x237 hf
                  refine lv_iinc (v := x237) (lv' := [(4, .int x237), (3, .int x69), (5, .int x28), (0, .ref (a0 0)), (1, .int v1), (2, .int v2)]) hx hb dX8_holds_237 hl (k := 5) rfl (by rw [e_x237]; rfl) (Nat.le_of_ble_eq_true rfl) rfl (fun ls hl => ?_)
                  refine lv_goto (tgt := 10) hx hb dX8_holds_240 (by decide) ?_
                  exact ih_10 s0_139 x69 x237 hf _ _ _ hP hS (lv_sub hl [3, 4, 5, 1, 0] rfl)
                · have hf := ite_f c_103 hf
                  refine lv_iconst (v := 1) hx hb dX8_holds_106 (by decide) ?_
                  refine lv_goto (tgt := 139) hx hb dX8_holds_107 (by decide) ?_
                  obtain ⟨h_139, hf⟩ := ck_e hf
                  refine va_zast (cA := E.2.2.2.1) (n := 100) (f := s0 25) (x := 1) hx hb hK hP (hDD s0 t0) hS 15 2 rfl rfl h_139 dX8_holds_139 (fun H locs hP _ hS => ?_)
                  obtain ⟨s0_139, hP, hf⟩ := nm_st' (P := fun z => va_P E.1 vwCl (wX8 E a0 z t0) H) hf hP
                  refine lv_goto (tgt := 237) hx hb dX8_holds_140 (by decide) ?_
                  obtain ⟨x237, e_x237⟩ : ∃ y : Int32, y = v4 + 1 := ⟨_, rfl⟩
                  have hf := nm_q e_x237 hf
                  refine lv_iinc (v := x237) (lv' := [(4, .int x237), (3, .int x69), (5, .int x28), (0, .ref (a0 0)), (1, .int v1), (2, .int v2)]) hx hb dX8_holds_237 hl (k := 5) rfl (by rw [e_x237]; rfl) (Nat.le_of_ble_eq_true rfl) rfl (fun ls hl => ?_)
                  refine lv_goto (tgt := 10) hx hb dX8_holds_240 (by decide) ?_
                  exact ih_10 s0_139 x69 x237 hf _ _ _ hP hS (lv_sub hl [3, 4, 5, 1, 0] rfl)
        · have hf := ite_t c_34 hf
          refine lv_aload_n hx hb dX8_holds_37 rfl (lv_at hl 1 rfl) ?_
          refine va_get (ci := 8) (C := RX8) (T := TX8) (N := 67) (v := .ref (a0 15)) hx hb hts i_X8_holds_X8 hown hK hP 0 rfl rfl 25 (by decide) (hts _ m_X8_holds_5f4298) (fun _ h9 => h9) rfl dX8_holds_38 ?_
          refine lv_iload_n hx hb dX8_holds_41 rfl (lv_at hl 4 rfl) ?_
          refine lv_iconst (v := 1) hx hb dX8_holds_42 (by decide) ?_
          refine lv_isub hx hb dX8_holds_43 ?_
          refine lv_aload_n hx hb dX8_holds_44 rfl (lv_at hl 1 rfl) ?_
          refine va_get (ci := 8) (C := RX8) (T := TX8) (N := 67) (v := .ref (a0 15)) hx hb hts i_X8_holds_X8 hown hK hP 0 rfl rfl 25 (by decide) (hts _ m_X8_holds_5f4298) (fun _ h9 => h9) rfl dX8_holds_45 ?_
          refine lv_iload_n hx hb dX8_holds_48 rfl (lv_at hl 4 rfl) ?_
          refine lv_iconst (v := 1) hx hb dX8_holds_49 (by decide) ?_
          refine lv_isub hx hb dX8_holds_50 ?_
          obtain ⟨h_51, hf⟩ := ck_e hf
          refine va_zald (cA := E.2.2.2.1) (n := 100) (f := s0 25) hx hb hK hP 15 2 rfl rfl h_51 dX8_holds_51 ?_
          refine lv_if_ne (tgt := 59) hx hb dX8_holds_52 (by decide) (fun c_52 => ?_) (fun c_52 => ?_)
          · have hf := ite_f c_52 hf
            refine lv_iconst (v := 0) hx hb dX8_holds_59 (by decide) ?_
            obtain ⟨h_60, hf⟩ := ck_e hf
            refine va_zast (cA := E.2.2.2.1) (n := 100) (f := s0 25) (x := 0) hx hb hK hP (hDD s0 t0) hS 15 2 rfl rfl h_60 dX8_holds_60 (fun H locs hP _ hS => ?_)
            obtain ⟨s0_60, hP, hf⟩ := nm_st' (P := fun z => va_P E.1 vwCl (wX8 E a0 z t0) H) hf hP
            refine lv_goto (tgt := 237) hx hb dX8_holds_61 (by decide) ?_
            obtain ⟨x237, e_x237⟩ : ∃ y : Int32, y = v4 + 1 := ⟨_, rfl⟩
            have hf := nm_q e_x237 hf
            refine lv_iinc (v := x237) (lv' := [(4, .int x237), (5, .int x28), (0, .ref (a0 0)), (1, .int v1), (2, .int v2), (3, .int v3)]) hx hb dX8_holds_237 hl (k := 5) rfl (by rw [e_x237]; rfl) (Nat.le_of_ble_eq_true rfl) rfl (fun ls hl => ?_)
            refine lv_goto (tgt := 10) hx hb dX8_holds_240 (by decide) ?_
            exact ih_10 s0_60 v3 x237 hf _ _ _ hP hS (lv_sub hl [2, 3, 4, 5, 0] rfl)
          · have hf := ite_t c_52 hf
            refine lv_iconst (v := 1) hx hb dX8_holds_55 (by decide) ?_
            refine lv_goto (tgt := 60) hx hb dX8_holds_56 (by decide) ?_
            obtain ⟨h_60, hf⟩ := ck_e hf
            refine va_zast (cA := E.2.2.2.1) (n := 100) (f := s0 25) (x := 1) hx hb hK hP (hDD s0 t0) hS 15 2 rfl rfl h_60 dX8_holds_60 (fun H locs hP _ hS => ?_)
            obtain ⟨s0_60, hP, hf⟩ := nm_st' (P := fun z => va_P E.1 vwCl (wX8 E a0 z t0) H) hf hP
            refine lv_goto (tgt := 237) hx hb dX8_holds_61 (by decide) ?_
            obtain ⟨x237, e_x237⟩ : ∃ y : Int32, y = v4 + 1 := ⟨_, rfl⟩
            have hf := nm_q e_x237 hf
            refine lv_iinc (v := x237) (lv' := [(4, .int x237), (5, .int x28), (0, .ref (a0 0)), (1, .int v1), (2, .int v2), (3, .int v3)]) hx hb dX8_holds_237 hl (k := 5) rfl (by rw [e_x237]; rfl) (Nat.le_of_ble_eq_true rfl) rfl (fun ls hl => ?_)
            refine lv_goto (tgt := 10) hx hb dX8_holds_240 (by decide) ?_
            exact ih_10 s0_60 v3 x237 hf _ _ _ hP hS (lv_sub hl [2, 3, 4, 5, 0] rfl)
  refine lv_iconst (v := 0) hx hb dX8_holds_0 (by decide) ?_
  refine lv_istore_n (lv' := [(3, .int 0), (0, .ref (a0 0)), (1, .int p1), (2, .int p2)]) hx hb dX8_holds_1 rfl hl (Nat.le_of_ble_eq_true rfl) rfl (fun ls hl => ?_)
  refine lv_aload_n hx hb dX8_holds_2 rfl (lv_at hl 1 rfl) ?_
  refine va_get (ci := 8) (C := RX8) (T := TX8) (N := 67) (v := .ref (a0 10)) hx hb hts i_X8_holds_X8 hown hK hP 0 rfl rfl 17 (by decide) (hts _ m_X8_holds_326dcb) (fun _ h9 => h9) rfl dX8_holds_3 ?_
  refine lv_iload_n hx hb dX8_holds_6 rfl (lv_at hl 2 rfl) ?_
  obtain ⟨h_7, hf⟩ := ck_e hf
  refine va_iald (cA := E.2.1) (n := 60) (f := s0 17) hx hb hK hP 10 0 rfl rfl h_7 dX8_holds_7 ?_
  refine lv_topi (fun x8 e_x8 => ?_)
  have hf := nm_q e_x8 hf
  refine lv_istore (lv' := [(4, .int x8), (3, .int 0), (0, .ref (a0 0)), (1, .int p1), (2, .int p2)]) hx hb dX8_holds_8 hl (Nat.le_of_ble_eq_true rfl) rfl (fun ls hl => ?_)
  exact hL_10 p1 p2 N s0 0 x8 hf _ _ _ hP hS (lv_sub hl [2, 3, 4, 1, 0] rfl)
abbrev rm_X8_taste : Room := { frames := 4, cells := 0, slots := 0, locals := 94 }
theorem m_X8_taste_bd45d2 : Cond.fieldLink RX8 56 "PickedMatchModel" "word" "[I" ∈ wsX8_taste := by decide +kernel
theorem i_X8_taste_X8 : ∀ w ∈ wsX80, w ∈ wsX8_taste := fun _ h => List.mem_cons_of_mem _ (List.mem_append_right _ h)
theorem m_X8_taste_2bbf14 : Cond.fieldLink RX8 59 "PickedMatchModel" "number" "[I" ∈ wsX8_taste := by decide +kernel
set_option maxHeartbeats 8000000 in
set_option maxRecDepth 100000 in
theorem k_X8_taste (l : Launch) (E : Ev) (a0 : Nat → Nat) (N : Nat) (s0 : St) (t0 : Nat → Nat → Int64) (p1 : Int32) (q : (Int32 × St)) (hf : f_X8_taste N s0 p1 = some q) : Ci l yX8_taste wsX8_taste rm_X8_taste E [.ref (a0 0), .int p1] (wX8 E a0 s0 t0) (wX8 E a0 q.2 t0) q.1 := by
  unfold f_X8_taste at hf
  intro sz
  refine Met.ofW (cc := cX8_taste) (maxL := 4) (ret := (some .int)) (by decide) rfl ?_
  intro p e s m args below meth c s₁ B hml hv
  obtain ⟨rfl, hsz, hP, hK, hD0, hG, hA, hAB⟩ := start hv
  have hx := B.exec
  have hb := B.bytes
  have hr := B.returns
  have hts := atoms_spec (ws := wsX8_taste) B.pre
  have hown : s.vm.findClass RX8 = some m.cls := findClass_of_methodNamed B.named
  have hlocks := B.notSynchronized
  subst hsz
  generalize va_A (wX8 E a0 s0 t0) s.heap.size = A0 at hD0 hA hAB ⊢
  have hDD : ∀ (s0 : St) (t0 : Nat → Nat → Int64), va_D A0 (wX8 E a0 s0 t0) := fun s0 t0 => vD_addr hD0 rfl
  have hS : va_S A0 s.heap s.heap [] := va_S.rf
  have hl := lv_entry ([.ref (a0 0), .int p1]) (n := 4) (Nat.le_of_ble_eq_true rfl)
  rw [lg_entry_eq]
  generalize (lg_sl ([.ref (a0 0), .int p1]) ++ List.replicate (4 - (lg_sl ([.ref (a0 0), .int p1])).length) Slot.unset).toArray = ls at hl ⊢
  have hl : lv_has ls 4 [(0, .ref (a0 0)), (1, .int p1)] := hl
  have hL_7 : ∀ (v1 : Int32) (n_7 : Nat) (s0 : St) (v2 : Int32) (v3 : Int32), l_X8_taste_7 N v1 n_7 s0 v2 v3 = some q → ∀ (H : Heap) (locs : List Loc) (ls : Array Slot), va_P E.1 vwCl (wX8 E a0 s0 t0) H → va_S A0 s.heap H locs → lv_has ls 4 [(0, .ref (a0 0)), (1, .int v1), (2, .int v2), (3, .int v3)] → W p l e rm_X8_taste s m ([.ref (a0 0), .int p1] : List Value).toArray below meth c H locs 0 0 (MQ below (va_Qi (fun (r' : Int32) (_ : Unit) => r' = q.1) (fun _ t => va_P E.1 vwCl (wX8 E a0 q.2 t0) t.heap) A0) ([.ref (a0 0), .int p1] : List Value).toArray s 0 0 A0) (F0 m 7 ls []) := by
    intro v1 n_7
    induction n_7 with
    | zero => intro s0 v2 v3 hf; rw [l_X8_taste_7] at hf; cases hf
    | succ n_7 ih_7 =>
      intro s0 v2 v3 hf H locs ls hP hS hl
      rw [l_X8_taste_7] at hf
      refine lv_iload_n hx hb dX8_taste_7 rfl (lv_at hl 3 rfl) ?_
      refine lv_aload_n hx hb dX8_taste_8 rfl (lv_at hl 0 rfl) ?_
      obtain ⟨q9, hc_9, hf⟩ := cl_e hf
      refine fin_i (E := E) (wc := wX8 E a0 s0 t0) (wc' := wX8 E a0 s0 t0) (va_runV (As := []) (rest := [.int v3]) ⟨hx, hb, hml, hown, hts⟩ (k_X8_behind l E a0 N s0 t0 q9 hc_9 _) (cwV 0 hts gX8_taste_X8_behind rfl rfl rfl (by decide +kernel) ⟨(Nat.le_of_ble_eq_true rfl), (Nat.le_of_ble_eq_true rfl)⟩) (pre_v (ci := 8) (q0 := 0) hK hP (hDD s0 t0) hS hG hAB rfl rfl) rfl rfl hl.1 rfl (lv_room (Nat.le_of_ble_eq_true rfl)) dX8_taste_9 ⟨Nat.zero_le _, Nat.zero_le _⟩) hS (w_free (hDD s0 t0) hS hA (fun _ h => h)) (fun H locs hP1 hk hS => ?_)
      have hP := hP1
      refine lv_icmp_ge (tgt := 71) hx hb dX8_taste_12 (by decide) (fun c_12 => ?_) (fun c_12 => ?_)
      · have hf := ite_t c_12 hf
        refine lv_iload_n hx hb dX8_taste_71 rfl (lv_at hl 2 rfl) ?_
        have e9 := Option.some.inj hf
        exact rt_i hx hb hr hlocks (fst_e e9) (rtP (P := fun z => va_P E.1 vwCl (wX8 E a0 z.2 t0) H) e9 hP) hS dX8_taste_72
      · have hf := ite_f c_12 hf
        refine lv_aload_n hx hb dX8_taste_15 rfl (lv_at hl 0 rfl) ?_
        refine va_get (ci := 8) (C := RX8) (T := TX8) (N := 67) (v := .ref (a0 8)) hx hb hts i_X8_taste_X8 hown hK hP 0 rfl rfl 15 (by decide) (hts _ m_X8_taste_bd45d2) (fun _ h9 => h9) rfl dX8_taste_16 ?_
        refine lv_iload_n hx hb dX8_taste_19 rfl (lv_at hl 3 rfl) ?_
        obtain ⟨h_20, hf⟩ := ck_e hf
        refine va_iald (cA := E.2.1) (n := 60) (f := s0 15) hx hb hK hP 8 0 rfl rfl h_20 dX8_taste_20 ?_
        refine lv_iconst (v := 1) hx hb dX8_taste_21 (by decide) ?_
        refine lv_icmp_gt (tgt := 65) hx hb dX8_taste_22 (by decide) (fun c_22 => ?_) (fun c_22 => ?_)
        · have hf := ite_t c_22 hf
          obtain ⟨x65, e_x65⟩ : ∃ y : Int32, y = v3 + 1 := ⟨_, rfl⟩
          have hf := nm_q e_x65 hf
          refine lv_iinc (v := x65) (lv' := [(3, .int x65), (0, .ref (a0 0)), (1, .int v1), (2, .int v2)]) hx hb dX8_taste_65 hl (k := 3) rfl (by rw [e_x65]; rfl) (Nat.le_of_ble_eq_true rfl) rfl (fun ls hl => ?_)
          refine lv_goto (tgt := 7) hx hb dX8_taste_68 (by decide) ?_
          exact ih_7 s0 v2 x65 hf _ _ _ hP hS (lv_sub hl [1, 2, 3, 0] rfl)
        · have hf := ite_f c_22 hf
          refine lv_aload_n hx hb dX8_taste_25 rfl (lv_at hl 0 rfl) ?_
          refine lv_iload_n hx hb dX8_taste_26 rfl (lv_at hl 3 rfl) ?_
          refine lv_iload_n hx hb dX8_taste_27 rfl (lv_at hl 1 rfl) ?_
          obtain ⟨q28, hc_28, hf⟩ := cl_e hf
          refine fin_i (E := E) (wc := wX8 E a0 s0 t0) (wc' := wX8 E a0 q28.2 t0) (va_runV (As := [.int v3, .int v1]) (rest := []) ⟨hx, hb, hml, hown, hts⟩ (k_X8_holds l E a0 N s0 t0 v3 v1 q28 hc_28 _) (cwV 2 hts gX8_taste_X8_holds rfl rfl rfl (by decide +kernel) ⟨(Nat.le_of_ble_eq_true rfl), (Nat.le_of_ble_eq_true rfl)⟩) (pre_v (ci := 8) (q0 := 0) hK hP (hDD s0 t0) hS hG hAB rfl rfl) rfl rfl hl.1 rfl (lv_room (Nat.le_of_ble_eq_true rfl)) dX8_taste_28 ⟨Nat.zero_le _, Nat.zero_le _⟩) hS (w_free (hDD s0 t0) hS hA (fun _ h => h)) (fun H locs hP1 hk hS => ?_)
          have hP := hP1
          refine lv_if_ne (tgt := 37) hx hb dX8_taste_31 (by decide) (fun c_31 => ?_) (fun c_31 => ?_)
          · have hf := ite_f c_31 hf
            refine lv_iload_n hx hb dX8_taste_37 rfl (lv_at hl 2 rfl) ?_
            refine lv_aload_n hx hb dX8_taste_38 rfl (lv_at hl 0 rfl) ?_
            refine va_get (ci := 8) (C := RX8) (T := TX8) (N := 67) (v := .ref (a0 8)) hx hb hts i_X8_taste_X8 hown hK hP 0 rfl rfl 15 (by decide) (hts _ m_X8_taste_bd45d2) (fun _ h9 => h9) rfl dX8_taste_39 ?_
            refine lv_iload_n hx hb dX8_taste_42 rfl (lv_at hl 3 rfl) ?_
            obtain ⟨h_43, hf⟩ := ck_e hf
            refine va_iald (cA := E.2.1) (n := 60) (f := q28.2 15) hx hb hK hP 8 0 rfl rfl h_43 dX8_taste_43 ?_
            refine lv_if_ne (tgt := 56) hx hb dX8_taste_44 (by decide) (fun c_44 => ?_) (fun c_44 => ?_)
            · have hf := ite_f c_44 hf
              refine lv_aload_n hx hb dX8_taste_56 rfl (lv_at hl 0 rfl) ?_
              refine va_get (ci := 8) (C := RX8) (T := TX8) (N := 67) (v := .ref (a0 9)) hx hb hts i_X8_taste_X8 hown hK hP 0 rfl rfl 16 (by decide) (hts _ m_X8_taste_2bbf14) (fun _ h9 => h9) rfl dX8_taste_57 ?_
              refine lv_iload_n hx hb dX8_taste_60 rfl (lv_at hl 3 rfl) ?_
              obtain ⟨h_61, hf⟩ := ck_e hf
              refine va_iald (cA := E.2.1) (n := 60) (f := q28.2 16) hx hb hK hP 9 0 rfl rfl h_61 dX8_taste_61 ?_
              refine lv_ineg hx hb dX8_taste_62 ?_
              refine lv_iadd hx hb dX8_taste_63 ?_
              refine lv_topi (fun x64 e_x64 => ?_)
              have hf := nm_q e_x64 hf
              refine lv_istore_n (lv' := [(2, .int x64), (0, .ref (a0 0)), (1, .int v1), (3, .int v3)]) hx hb dX8_taste_64 rfl hl (Nat.le_of_ble_eq_true rfl) rfl (fun ls hl => ?_)
              obtain ⟨x65, e_x65⟩ : ∃ y : Int32, y = v3 + 1 := ⟨_, rfl⟩
              have hf := nm_q e_x65 hf
              refine lv_iinc (v := x65) (lv' := [(3, .int x65), (2, .int x64), (0, .ref (a0 0)), (1, .int v1)]) hx hb dX8_taste_65 hl (k := 3) rfl (by rw [e_x65]; rfl) (Nat.le_of_ble_eq_true rfl) rfl (fun ls hl => ?_)
              refine lv_goto (tgt := 7) hx hb dX8_taste_68 (by decide) ?_
              exact ih_7 q28.2 x64 x65 hf _ _ _ hP hS (lv_sub hl [2, 3, 1, 0] rfl)
            · have hf := ite_t c_44 hf
              refine lv_aload_n hx hb dX8_taste_47 rfl (lv_at hl 0 rfl) ?_
              refine va_get (ci := 8) (C := RX8) (T := TX8) (N := 67) (v := .ref (a0 9)) hx hb hts i_X8_taste_X8 hown hK hP 0 rfl rfl 16 (by decide) (hts _ m_X8_taste_2bbf14) (fun _ h9 => h9) rfl dX8_taste_48 ?_
              refine lv_iload_n hx hb dX8_taste_51 rfl (lv_at hl 3 rfl) ?_
              obtain ⟨h_52, hf⟩ := ck_e hf
              refine va_iald (cA := E.2.1) (n := 60) (f := q28.2 16) hx hb hK hP 9 0 rfl rfl h_52 dX8_taste_52 ?_
              refine lv_goto (tgt := 63) hx hb dX8_taste_53 (by decide) ?_
              refine lv_iadd hx hb dX8_taste_63 ?_
              refine lv_topi (fun x64 e_x64 => ?_)
              have hf := nm_q e_x64 hf
              refine lv_istore_n (lv' := [(2, .int x64), (0, .ref (a0 0)), (1, .int v1), (3, .int v3)]) hx hb dX8_taste_64 rfl hl (Nat.le_of_ble_eq_true rfl) rfl (fun ls hl => ?_)
              obtain ⟨x65, e_x65⟩ : ∃ y : Int32, y = v3 + 1 := ⟨_, rfl⟩
              have hf := nm_q e_x65 hf
              refine lv_iinc (v := x65) (lv' := [(3, .int x65), (2, .int x64), (0, .ref (a0 0)), (1, .int v1)]) hx hb dX8_taste_65 hl (k := 3) rfl (by rw [e_x65]; rfl) (Nat.le_of_ble_eq_true rfl) rfl (fun ls hl => ?_)
              refine lv_goto (tgt := 7) hx hb dX8_taste_68 (by decide) ?_
              exact ih_7 q28.2 x64 x65 hf _ _ _ hP hS (lv_sub hl [2, 3, 1, 0] rfl)
          · have hf := ite_t c_31 hf
            refine lv_goto (tgt := 65) hx hb dX8_taste_34 (by decide) ?_
            obtain ⟨x65, e_x65⟩ : ∃ y : Int32, y = v3 + 1 := ⟨_, rfl⟩
            have hf := nm_q e_x65 hf
            refine lv_iinc (v := x65) (lv' := [(3, .int x65), (0, .ref (a0 0)), (1, .int v1), (2, .int v2)]) hx hb dX8_taste_65 hl (k := 3) rfl (by rw [e_x65]; rfl) (Nat.le_of_ble_eq_true rfl) rfl (fun ls hl => ?_)
            refine lv_goto (tgt := 7) hx hb dX8_taste_68 (by decide) ?_
            exact ih_7 q28.2 v2 x65 hf _ _ _ hP hS (lv_sub hl [1, 2, 3, 0] rfl)
  refine lv_iconst (v := 0) hx hb dX8_taste_0 (by decide) ?_
  refine lv_istore_n (lv' := [(2, .int 0), (0, .ref (a0 0)), (1, .int p1)]) hx hb dX8_taste_1 rfl hl (Nat.le_of_ble_eq_true rfl) rfl (fun ls hl => ?_)
  refine lv_aload_n hx hb dX8_taste_2 rfl (lv_at hl 1 rfl) ?_
  obtain ⟨q3, hc_3, hf⟩ := cl_e hf
  refine fin_i (E := E) (wc := wX8 E a0 s0 t0) (wc' := wX8 E a0 s0 t0) (va_runV (As := []) (rest := []) ⟨hx, hb, hml, hown, hts⟩ (k_X8_begin l E a0 N s0 t0 q3 hc_3 _) (cwV 0 hts gX8_taste_X8_begin rfl rfl rfl (by decide +kernel) ⟨(Nat.le_of_ble_eq_true rfl), (Nat.le_of_ble_eq_true rfl)⟩) (pre_v (ci := 8) (q0 := 0) hK hP (hDD s0 t0) hS hG hAB rfl rfl) rfl rfl hl.1 rfl (lv_room (Nat.le_of_ble_eq_true rfl)) dX8_taste_3 ⟨Nat.zero_le _, Nat.zero_le _⟩) hS (w_free (hDD s0 t0) hS hA (fun _ h => h)) (fun H locs hP1 hk hS => ?_)
  have hP := hP1
  refine lv_istore_n (lv' := [(3, .int q3), (2, .int 0), (0, .ref (a0 0)), (1, .int p1)]) hx hb dX8_taste_6 rfl hl (Nat.le_of_ble_eq_true rfl) rfl (fun ls hl => ?_)
  exact hL_7 p1 N s0 0 q3 hf _ _ _ hP hS (lv_sub hl [2, 3, 1, 0] rfl)
abbrev rm_X8_alikeOf : Room := { frames := 2, cells := 0, slots := 0, locals := 45 }
theorem m_X8_alikeOf_fa4c49 : Cond.fieldLink RX8 26 "PickedMatchModel" "marks" "[I" ∈ wsX8_alikeOf := by decide +kernel
theorem i_X8_alikeOf_X8 : ∀ w ∈ wsX80, w ∈ wsX8_alikeOf := fun _ h => List.mem_cons_of_mem _ (List.mem_append_right _ h)
set_option maxHeartbeats 8000000 in
set_option maxRecDepth 100000 in
theorem k_X8_alikeOf (l : Launch) (E : Ev) (a0 : Nat → Nat) (N : Nat) (s0 : St) (t0 : Nat → Nat → Int64) (p1 : Int32) (q : (Int32)) (hf : f_X8_alikeOf N s0 p1 = some q) : Ci l yX8_alikeOf wsX8_alikeOf rm_X8_alikeOf E [.ref (a0 0), .int p1] (wX8 E a0 s0 t0) (wX8 E a0 s0 t0) q := by
  unfold f_X8_alikeOf at hf
  intro sz
  refine Met.ofW (cc := cX8_alikeOf) (maxL := 2) (ret := (some .int)) (by decide) rfl ?_
  intro p e s m args below meth c s₁ B hml hv
  obtain ⟨rfl, hsz, hP, hK, hD0, hG, hA, hAB⟩ := start hv
  have hx := B.exec
  have hb := B.bytes
  have hr := B.returns
  have hts := atoms_spec (ws := wsX8_alikeOf) B.pre
  have hown : s.vm.findClass RX8 = some m.cls := findClass_of_methodNamed B.named
  have hlocks := B.notSynchronized
  subst hsz
  generalize va_A (wX8 E a0 s0 t0) s.heap.size = A0 at hD0 hA hAB ⊢
  have hDD : ∀ (s0 : St) (t0 : Nat → Nat → Int64), va_D A0 (wX8 E a0 s0 t0) := fun s0 t0 => vD_addr hD0 rfl
  have hS : va_S A0 s.heap s.heap [] := va_S.rf
  have hl := lv_entry ([.ref (a0 0), .int p1]) (n := 2) (Nat.le_of_ble_eq_true rfl)
  rw [lg_entry_eq]
  generalize (lg_sl ([.ref (a0 0), .int p1]) ++ List.replicate (2 - (lg_sl ([.ref (a0 0), .int p1])).length) Slot.unset).toArray = ls at hl ⊢
  have hl : lv_has ls 2 [(0, .ref (a0 0)), (1, .int p1)] := hl
  refine lv_aload_n hx hb dX8_alikeOf_0 rfl (lv_at hl 0 rfl) ?_
  refine lv_aload_n hx hb dX8_alikeOf_1 rfl (lv_at hl 0 rfl) ?_
  refine va_get (ci := 8) (C := RX8) (T := TX8) (N := 67) (v := .ref (a0 3)) hx hb hts i_X8_alikeOf_X8 hown hK hP 0 rfl rfl 5 (by decide) (hts _ m_X8_alikeOf_fa4c49) (fun _ h9 => h9) rfl dX8_alikeOf_2 ?_
  refine lv_iload_n hx hb dX8_alikeOf_5 rfl (lv_at hl 1 rfl) ?_
  obtain ⟨h_6, hf⟩ := ck_e hf
  refine va_iald (cA := E.2.1) (n := 6) (f := s0 5) hx hb hK hP 3 0 rfl rfl h_6 dX8_alikeOf_6 ?_
  refine lv_aload_n hx hb dX8_alikeOf_7 rfl (lv_at hl 0 rfl) ?_
  obtain ⟨q8, hc_8, hf⟩ := cl_e hf
  refine fin_i (E := E) (wc := wX8 E a0 s0 t0) (wc' := wX8 E a0 s0 t0) (va_runV (As := []) (rest := [.int (s0 5 p1.toNatClampNeg), .ref (a0 0)]) ⟨hx, hb, hml, hown, hts⟩ (k_X8_hadMarks l E a0 N s0 t0 q8 hc_8 _) (cwV 0 hts gX8_alikeOf_X8_hadMarks rfl rfl rfl (by decide +kernel) ⟨(Nat.le_of_ble_eq_true rfl), (Nat.le_of_ble_eq_true rfl)⟩) (pre_v (ci := 8) (q0 := 0) hK hP (hDD s0 t0) hS hG hAB rfl rfl) rfl rfl hl.1 rfl (lv_room (Nat.le_of_ble_eq_true rfl)) dX8_alikeOf_8 ⟨Nat.zero_le _, Nat.zero_le _⟩) hS (w_free (hDD s0 t0) hS hA (fun _ h => h)) (fun H locs hP1 hk hS => ?_)
  have hP := hP1
  refine lv_iand hx hb dX8_alikeOf_11 ?_
  obtain ⟨q12, hc_12, hf⟩ := cl_e hf
  refine fin_i (E := E) (wc := wX8 E a0 s0 t0) (wc' := wX8 E a0 s0 t0) (va_runV (As := [.int ((s0 5 p1.toNatClampNeg) &&& q8)]) (rest := []) ⟨hx, hb, hml, hown, hts⟩ (k_X8_bits l E a0 N s0 t0 ((s0 5 p1.toNatClampNeg) &&& q8) q12 hc_12 _) (cwV 1 hts gX8_alikeOf_X8_bits rfl rfl rfl (by decide +kernel) ⟨(Nat.le_of_ble_eq_true rfl), (Nat.le_of_ble_eq_true rfl)⟩) (pre_v (ci := 8) (q0 := 0) hK hP (hDD s0 t0) hS hG hAB rfl rfl) rfl rfl hl.1 rfl (lv_room (Nat.le_of_ble_eq_true rfl)) dX8_alikeOf_12 ⟨Nat.zero_le _, Nat.zero_le _⟩) hS (w_free (hDD s0 t0) hS hA (fun _ h => h)) (fun H locs hP1 hk hS => ?_)
  have hP := hP1
  have e9 := Option.some.inj hf
  exact rt_i hx hb hr hlocks e9 hP hS dX8_alikeOf_15
abbrev rm_X8_isLiked : Room := { frames := 5, cells := 0, slots := 0, locals := 117 }
set_option maxHeartbeats 8000000 in
set_option maxRecDepth 100000 in
theorem k_X8_isLiked (l : Launch) (E : Ev) (a0 : Nat → Nat) (N : Nat) (s0 : St) (t0 : Nat → Nat → Int64) (p1 : Int32) (q : (Int32 × St)) (hf : f_X8_isLiked N s0 p1 = some q) : Ci l yX8_isLiked wsX8_isLiked rm_X8_isLiked E [.ref (a0 0), .int p1] (wX8 E a0 s0 t0) (wX8 E a0 q.2 t0) q.1 := by
  unfold f_X8_isLiked at hf
  intro sz
  refine Met.ofW (cc := cX8_isLiked) (maxL := 2) (ret := (some .boolean)) (by decide) rfl ?_
  intro p e s m args below meth c s₁ B hml hv
  obtain ⟨rfl, hsz, hP, hK, hD0, hG, hA, hAB⟩ := start hv
  have hx := B.exec
  have hb := B.bytes
  have hr := B.returns
  have hts := atoms_spec (ws := wsX8_isLiked) B.pre
  have hown : s.vm.findClass RX8 = some m.cls := findClass_of_methodNamed B.named
  have hlocks := B.notSynchronized
  subst hsz
  generalize va_A (wX8 E a0 s0 t0) s.heap.size = A0 at hD0 hA hAB ⊢
  have hDD : ∀ (s0 : St) (t0 : Nat → Nat → Int64), va_D A0 (wX8 E a0 s0 t0) := fun s0 t0 => vD_addr hD0 rfl
  have hS : va_S A0 s.heap s.heap [] := va_S.rf
  have hl := lv_entry ([.ref (a0 0), .int p1]) (n := 2) (Nat.le_of_ble_eq_true rfl)
  rw [lg_entry_eq]
  generalize (lg_sl ([.ref (a0 0), .int p1]) ++ List.replicate (2 - (lg_sl ([.ref (a0 0), .int p1])).length) Slot.unset).toArray = ls at hl ⊢
  have hl : lv_has ls 2 [(0, .ref (a0 0)), (1, .int p1)] := hl
  refine lv_aload_n hx hb dX8_isLiked_0 rfl (lv_at hl 0 rfl) ?_
  refine lv_iload_n hx hb dX8_isLiked_1 rfl (lv_at hl 1 rfl) ?_
  obtain ⟨q2, hc_2, hf⟩ := cl_e hf
  refine fin_i (E := E) (wc := wX8 E a0 s0 t0) (wc' := wX8 E a0 s0 t0) (va_runV (As := [.int p1]) (rest := []) ⟨hx, hb, hml, hown, hts⟩ (k_X8_alikeOf l E a0 N s0 t0 p1 q2 hc_2 _) (cwV 1 hts gX8_isLiked_X8_alikeOf rfl rfl rfl (by decide +kernel) ⟨(Nat.le_of_ble_eq_true rfl), (Nat.le_of_ble_eq_true rfl)⟩) (pre_v (ci := 8) (q0 := 0) hK hP (hDD s0 t0) hS hG hAB rfl rfl) rfl rfl hl.1 rfl (lv_room (Nat.le_of_ble_eq_true rfl)) dX8_isLiked_2 ⟨Nat.zero_le _, Nat.zero_le _⟩) hS (w_free (hDD s0 t0) hS hA (fun _ h => h)) (fun H locs hP1 hk hS => ?_)
  have hP := hP1
  refine lv_aload_n hx hb dX8_isLiked_5 rfl (lv_at hl 0 rfl) ?_
  refine lv_iload_n hx hb dX8_isLiked_6 rfl (lv_at hl 1 rfl) ?_
  obtain ⟨q7, hc_7, hf⟩ := cl_e hf
  refine fin_i (E := E) (wc := wX8 E a0 s0 t0) (wc' := wX8 E a0 q7.2 t0) (va_runV (As := [.int p1]) (rest := [.int q2]) ⟨hx, hb, hml, hown, hts⟩ (k_X8_taste l E a0 N s0 t0 p1 q7 hc_7 _) (cwV 1 hts gX8_isLiked_X8_taste rfl rfl rfl (by decide +kernel) ⟨(Nat.le_of_ble_eq_true rfl), (Nat.le_of_ble_eq_true rfl)⟩) (pre_v (ci := 8) (q0 := 0) hK hP (hDD s0 t0) hS hG hAB rfl rfl) rfl rfl hl.1 rfl (lv_room (Nat.le_of_ble_eq_true rfl)) dX8_isLiked_7 ⟨Nat.zero_le _, Nat.zero_le _⟩) hS (w_free (hDD s0 t0) hS hA (fun _ h => h)) (fun H locs hP1 hk hS => ?_)
  have hP := hP1
  refine lv_iadd hx hb dX8_isLiked_10 ?_
  refine lv_aload_n hx hb dX8_isLiked_11 rfl (lv_at hl 0 rfl) ?_
  obtain ⟨q12, hc_12, hf⟩ := cl_e hf
  refine fin_i (E := E) (wc := wX8 E a0 q7.2 t0) (wc' := wX8 E a0 q7.2 t0) (va_runV (As := []) (rest := [.int (q2 + q7.1)]) ⟨hx, hb, hml, hown, hts⟩ (k_X8_need l E a0 N q7.2 t0 q12 hc_12 _) (cwV 0 hts gX8_isLiked_X8_need rfl rfl rfl (by decide +kernel) ⟨(Nat.le_of_ble_eq_true rfl), (Nat.le_of_ble_eq_true rfl)⟩) (pre_v (ci := 8) (q0 := 0) hK hP (hDD q7.2 t0) hS hG hAB rfl rfl) rfl rfl hl.1 rfl (lv_room (Nat.le_of_ble_eq_true rfl)) dX8_isLiked_12 ⟨Nat.zero_le _, Nat.zero_le _⟩) hS (w_free (hDD q7.2 t0) hS hA (fun _ h => h)) (fun H locs hP1 hk hS => ?_)
  have hP := hP1
  refine lv_icmp_lt (tgt := 22) hx hb dX8_isLiked_15 (by decide) (fun c_15 => ?_) (fun c_15 => ?_)
  · have hf := ite_t c_15 hf
    refine lv_iconst (v := 0) hx hb dX8_isLiked_22 (by decide) ?_
    have e9 := Option.some.inj hf
    exact rt_z hx hb hr rfl hlocks (fst_e e9) (rtP (P := fun z => va_P E.1 vwCl (wX8 E a0 z.2 t0) H) e9 hP) hS dX8_isLiked_23
  · have hf := ite_f c_15 hf
    refine lv_iconst (v := 1) hx hb dX8_isLiked_18 (by decide) ?_
    refine lv_goto (tgt := 23) hx hb dX8_isLiked_19 (by decide) ?_
    have e9 := Option.some.inj hf
    exact rt_z hx hb hr rfl hlocks (fst_e e9) (rtP (P := fun z => va_P E.1 vwCl (wX8 E a0 z.2 t0) H) e9 hP) hS dX8_isLiked_23
abbrev rm_X8_newest : Room := { frames := 0, cells := 0, slots := 0, locals := 0 }
theorem m_X8_newest_fa4c49 : Cond.fieldLink RX8 26 "PickedMatchModel" "marks" "[I" ∈ wsX8_newest := by decide +kernel
theorem i_X8_newest_X8 : ∀ w ∈ wsX80, w ∈ wsX8_newest := fun _ h => List.mem_cons_of_mem _ (List.mem_append_right _ h)
theorem m_X8_newest_ef0124 : Cond.fieldLink RX8 32 "PickedMatchModel" "hadOf" "[I" ∈ wsX8_newest := by decide +kernel
theorem m_X8_newest_92e5f7 : Cond.fieldLink RX8 13 "PickedMatchModel" "had" "I" ∈ wsX8_newest := by decide +kernel
set_option maxHeartbeats 8000000 in
set_option maxRecDepth 100000 in
theorem k_X8_newest (l : Launch) (E : Ev) (a0 : Nat → Nat) (N : Nat) (s0 : St) (t0 : Nat → Nat → Int64) (q : (Int32)) (hf : f_X8_newest N s0 = some q) : Ci l yX8_newest wsX8_newest rm_X8_newest E [.ref (a0 0)] (wX8 E a0 s0 t0) (wX8 E a0 s0 t0) q := by
  unfold f_X8_newest at hf
  intro sz
  refine Met.ofW (cc := cX8_newest) (maxL := 1) (ret := (some .int)) (by decide) rfl ?_
  intro p e s m args below meth c s₁ B hml hv
  obtain ⟨rfl, hsz, hP, hK, hD0, hG, hA, hAB⟩ := start hv
  have hx := B.exec
  have hb := B.bytes
  have hr := B.returns
  have hts := atoms_spec (ws := wsX8_newest) B.pre
  have hown : s.vm.findClass RX8 = some m.cls := findClass_of_methodNamed B.named
  have hlocks := B.notSynchronized
  subst hsz
  generalize va_A (wX8 E a0 s0 t0) s.heap.size = A0 at hD0 hA hAB ⊢
  have hDD : ∀ (s0 : St) (t0 : Nat → Nat → Int64), va_D A0 (wX8 E a0 s0 t0) := fun s0 t0 => vD_addr hD0 rfl
  have hS : va_S A0 s.heap s.heap [] := va_S.rf
  have hl := lv_entry ([.ref (a0 0)]) (n := 1) (Nat.le_of_ble_eq_true rfl)
  rw [lg_entry_eq]
  generalize (lg_sl ([.ref (a0 0)]) ++ List.replicate (1 - (lg_sl ([.ref (a0 0)])).length) Slot.unset).toArray = ls at hl ⊢
  have hl : lv_has ls 1 [(0, .ref (a0 0))] := hl
  refine lv_aload_n hx hb dX8_newest_0 rfl (lv_at hl 0 rfl) ?_
  refine va_get (ci := 8) (C := RX8) (T := TX8) (N := 67) (v := .ref (a0 3)) hx hb hts i_X8_newest_X8 hown hK hP 0 rfl rfl 5 (by decide) (hts _ m_X8_newest_fa4c49) (fun _ h9 => h9) rfl dX8_newest_1 ?_
  refine lv_aload_n hx hb dX8_newest_4 rfl (lv_at hl 0 rfl) ?_
  refine va_get (ci := 8) (C := RX8) (T := TX8) (N := 67) (v := .ref (a0 5)) hx hb hts i_X8_newest_X8 hown hK hP 0 rfl rfl 7 (by decide) (hts _ m_X8_newest_ef0124) (fun _ h9 => h9) rfl dX8_newest_5 ?_
  refine lv_aload_n hx hb dX8_newest_8 rfl (lv_at hl 0 rfl) ?_
  refine va_get (ci := 8) (C := RX8) (T := TX8) (N := 67) (v := .int (s0 1 0)) hx hb hts i_X8_newest_X8 hown hK hP 0 rfl rfl 1 (by decide) (hts _ m_X8_newest_92e5f7) (fun _ h9 => h9) rfl dX8_newest_9 ?_
  refine lv_iconst (v := 1) hx hb dX8_newest_12 (by decide) ?_
  refine lv_isub hx hb dX8_newest_13 ?_
  obtain ⟨h_14, hf⟩ := ck_e hf
  refine va_iald (cA := E.2.1) (n := 6) (f := s0 7) hx hb hK hP 5 0 rfl rfl h_14 dX8_newest_14 ?_
  obtain ⟨h_15, hf⟩ := ck_e hf
  refine va_iald (cA := E.2.1) (n := 6) (f := s0 5) hx hb hK hP 3 0 rfl rfl h_15 dX8_newest_15 ?_
  have e9 := Option.some.inj hf
  exact rt_i hx hb hr hlocks e9 hP hS dX8_newest_16
