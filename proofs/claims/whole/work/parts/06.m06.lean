/-! ===== what the methods compute, and that they do: by program out of the bytecode (wip/gen) ===== -/
abbrev rm_X8_count : Room := { frames := 0, cells := 0, slots := 0, locals := 0 }
theorem m_X8_count_acbb5e : Cond.fieldLink RX8 7 "PickedMatchModel" "things" "I" ∈ wsX8_count := by decide +kernel
theorem i_X8_count_X8 : ∀ w ∈ wsX80, w ∈ wsX8_count := fun _ h => List.mem_cons_of_mem _ (List.mem_append_right _ h)
theorem m_X8_count_98782d : Cond.fieldLink RX8 35 "PickedMatchModel" "streets" "I" ∈ wsX8_count := by decide +kernel
theorem m_X8_count_92e5f7 : Cond.fieldLink RX8 13 "PickedMatchModel" "had" "I" ∈ wsX8_count := by decide +kernel
theorem m_X8_count_36ca5e : Cond.fieldLink RX8 105 "PickedMatchModel" "seen" "I" ∈ wsX8_count := by decide +kernel
theorem m_X8_count_4ca6a4 : Cond.fieldLink RX8 117 "PickedMatchModel" "weeks" "I" ∈ wsX8_count := by decide +kernel
theorem m_X8_count_87408b : Cond.fieldLink RX8 120 "PickedMatchModel" "books" "I" ∈ wsX8_count := by decide +kernel
theorem m_X8_count_9bfe5d : Cond.fieldLink RX8 41 "PickedMatchModel" "fed" "I" ∈ wsX8_count := by decide +kernel
theorem m_X8_count_c73d03 : Cond.fieldLink RX8 196 "PickedMatchModel" "ran" "I" ∈ wsX8_count := by decide +kernel
set_option maxHeartbeats 8000000 in
set_option maxRecDepth 100000 in
theorem k_X8_count (l : Launch) (E : Ev) (a0 : Nat → Nat) (N : Nat) (s0 : St) (t0 : Nat → Nat → Int64) (p1 : Int32) (q : (Int32)) (hf : f_X8_count N s0 p1 = some q) : Ci l yX8_count wsX8_count rm_X8_count E [.ref (a0 0), .int p1] (wX8 E a0 s0 t0) (wX8 E a0 s0 t0) q := by
  unfold f_X8_count at hf
  intro sz
  refine Met.ofW (cc := cX8_count) (maxL := 2) (ret := (some .int)) (by decide) rfl ?_
  intro p e s m args below meth c s₁ B hml hv
  obtain ⟨rfl, hsz, hP, hK, hD0, hG, hA, hAB⟩ := start hv
  have hx := B.exec
  have hb := B.bytes
  have hr := B.returns
  have hts := atoms_spec (ws := wsX8_count) B.pre
  have hown : s.vm.findClass RX8 = some m.cls := findClass_of_methodNamed B.named
  have hlocks := B.notSynchronized
  subst hsz
  generalize va_A (wX8 E a0 s0 t0) s.heap.size = A0 at hD0 hA hAB ⊢
  have hDD : ∀ (s0 : St) (t0 : Nat → Nat → Int64), va_D A0 (wX8 E a0 s0 t0) := fun s0 t0 => vD_addr hD0 rfl
  have hS : va_S A0 s.heap s.heap [] := va_S.rf
  have hl := lv_entry ([.ref (a0 0), .int p1]) (n := 2) (Nat.le_of_ble_eq_true rfl)
  rw [lg_entry_eq]
  generalize (lg_sl ([.ref (a0 0), .int p1]) ++ List.replicate (2 - (lg_sl ([.ref (a0 0), .int p1])).length) Slot.unset).toArray = ls at hl ⊢
  have hl : lv_has ls 2 [(0, .ref (a0 0)), (1, .int p1)] := hl
  refine lv_iload_n hx hb dX8_count_0 rfl (lv_at hl 1 rfl) ?_
  by_cases c_1_0 : p1 = 0
  · have hf := ite_t c_1_0 hf
    refine lv_tableIn (off := 47) (tgt := 48) hx hb dX8_count_1 (by rw [c_1_0]; decide) (by rw [c_1_0]; decide) (by rw [c_1_0]; rfl) (by decide) ?_
    refine lv_aload_n hx hb dX8_count_48 rfl (lv_at hl 0 rfl) ?_
    refine va_get (ci := 8) (C := RX8) (T := TX8) (N := 67) (v := .int (s0 0 0)) hx hb hts i_X8_count_X8 hown hK hP 0 rfl rfl 0 (by decide) (hts _ m_X8_count_acbb5e) (fun _ h9 => h9) rfl dX8_count_49 ?_
    have e9 := Option.some.inj hf
    exact rt_i hx hb hr hlocks e9 hP hS dX8_count_52
  · have hf := ite_f c_1_0 hf
    by_cases c_1_1 : p1 = 1
    · have hf := ite_t c_1_1 hf
      refine lv_tableIn (off := 52) (tgt := 53) hx hb dX8_count_1 (by rw [c_1_1]; decide) (by rw [c_1_1]; decide) (by rw [c_1_1]; rfl) (by decide) ?_
      refine lv_aload_n hx hb dX8_count_53 rfl (lv_at hl 0 rfl) ?_
      refine va_get (ci := 8) (C := RX8) (T := TX8) (N := 67) (v := .int (s0 8 0)) hx hb hts i_X8_count_X8 hown hK hP 0 rfl rfl 8 (by decide) (hts _ m_X8_count_98782d) (fun _ h9 => h9) rfl dX8_count_54 ?_
      have e9 := Option.some.inj hf
      exact rt_i hx hb hr hlocks e9 hP hS dX8_count_57
    · have hf := ite_f c_1_1 hf
      by_cases c_1_2 : p1 = 2
      · have hf := ite_t c_1_2 hf
        refine lv_tableIn (off := 57) (tgt := 58) hx hb dX8_count_1 (by rw [c_1_2]; decide) (by rw [c_1_2]; decide) (by rw [c_1_2]; rfl) (by decide) ?_
        refine lv_aload_n hx hb dX8_count_58 rfl (lv_at hl 0 rfl) ?_
        refine va_get (ci := 8) (C := RX8) (T := TX8) (N := 67) (v := .int (s0 1 0)) hx hb hts i_X8_count_X8 hown hK hP 0 rfl rfl 1 (by decide) (hts _ m_X8_count_92e5f7) (fun _ h9 => h9) rfl dX8_count_59 ?_
        have e9 := Option.some.inj hf
        exact rt_i hx hb hr hlocks e9 hP hS dX8_count_62
      · have hf := ite_f c_1_2 hf
        by_cases c_1_3 : p1 = 3
        · have hf := ite_t c_1_3 hf
          refine lv_tableIn (off := 62) (tgt := 63) hx hb dX8_count_1 (by rw [c_1_3]; decide) (by rw [c_1_3]; decide) (by rw [c_1_3]; rfl) (by decide) ?_
          refine lv_aload_n hx hb dX8_count_63 rfl (lv_at hl 0 rfl) ?_
          refine va_get (ci := 8) (C := RX8) (T := TX8) (N := 67) (v := .int (s0 31 0)) hx hb hts i_X8_count_X8 hown hK hP 0 rfl rfl 31 (by decide) (hts _ m_X8_count_36ca5e) (fun _ h9 => h9) rfl dX8_count_64 ?_
          have e9 := Option.some.inj hf
          exact rt_i hx hb hr hlocks e9 hP hS dX8_count_67
        · have hf := ite_f c_1_3 hf
          by_cases c_1_4 : p1 = 4
          · have hf := ite_t c_1_4 hf
            refine lv_tableIn (off := 67) (tgt := 68) hx hb dX8_count_1 (by rw [c_1_4]; decide) (by rw [c_1_4]; decide) (by rw [c_1_4]; rfl) (by decide) ?_
            refine lv_aload_n hx hb dX8_count_68 rfl (lv_at hl 0 rfl) ?_
            refine va_get (ci := 8) (C := RX8) (T := TX8) (N := 67) (v := .int (s0 35 0)) hx hb hts i_X8_count_X8 hown hK hP 0 rfl rfl 35 (by decide) (hts _ m_X8_count_4ca6a4) (fun _ h9 => h9) rfl dX8_count_69 ?_
            have e9 := Option.some.inj hf
            exact rt_i hx hb hr hlocks e9 hP hS dX8_count_72
          · have hf := ite_f c_1_4 hf
            by_cases c_1_5 : p1 = 5
            · have hf := ite_t c_1_5 hf
              refine lv_tableIn (off := 72) (tgt := 73) hx hb dX8_count_1 (by rw [c_1_5]; decide) (by rw [c_1_5]; decide) (by rw [c_1_5]; rfl) (by decide) ?_
              refine lv_aload_n hx hb dX8_count_73 rfl (lv_at hl 0 rfl) ?_
              refine va_get (ci := 8) (C := RX8) (T := TX8) (N := 67) (v := .int (s0 36 0)) hx hb hts i_X8_count_X8 hown hK hP 0 rfl rfl 36 (by decide) (hts _ m_X8_count_87408b) (fun _ h9 => h9) rfl dX8_count_74 ?_
              have e9 := Option.some.inj hf
              exact rt_i hx hb hr hlocks e9 hP hS dX8_count_77
            · have hf := ite_f c_1_5 hf
              by_cases c_1_6 : p1 = 6
              · have hf := ite_t c_1_6 hf
                refine lv_tableIn (off := 77) (tgt := 78) hx hb dX8_count_1 (by rw [c_1_6]; decide) (by rw [c_1_6]; decide) (by rw [c_1_6]; rfl) (by decide) ?_
                refine lv_aload_n hx hb dX8_count_78 rfl (lv_at hl 0 rfl) ?_
                refine va_get (ci := 8) (C := RX8) (T := TX8) (N := 67) (v := .int (s0 10 0)) hx hb hts i_X8_count_X8 hown hK hP 0 rfl rfl 10 (by decide) (hts _ m_X8_count_9bfe5d) (fun _ h9 => h9) rfl dX8_count_79 ?_
                have e9 := Option.some.inj hf
                exact rt_i hx hb hr hlocks e9 hP hS dX8_count_82
              · have hf := ite_f c_1_6 hf
                by_cases c_1_7 : p1 = 7
                · have hf := ite_t c_1_7 hf
                  refine lv_tableIn (off := 82) (tgt := 83) hx hb dX8_count_1 (by rw [c_1_7]; decide) (by rw [c_1_7]; decide) (by rw [c_1_7]; rfl) (by decide) ?_
                  refine lv_aload_n hx hb dX8_count_83 rfl (lv_at hl 0 rfl) ?_
                  refine va_get (ci := 8) (C := RX8) (T := TX8) (N := 67) (v := .int (s0 61 0)) hx hb hts i_X8_count_X8 hown hK hP 0 rfl rfl 61 (by decide) (hts _ m_X8_count_c73d03) (fun _ h9 => h9) rfl dX8_count_84 ?_
                  have e9 := Option.some.inj hf
                  exact rt_i hx hb hr hlocks e9 hP hS dX8_count_87
                · have hf := ite_f c_1_7 hf
                  refine lv_tableOut (tgt := 88) hx hb dX8_count_1 (by have n0 := lv_neT (a := 0) c_1_0 (by decide); have n1 := lv_neT (a := 1) c_1_1 (by decide); have n2 := lv_neT (a := 2) c_1_2 (by decide); have n3 := lv_neT (a := 3) c_1_3 (by decide); have n4 := lv_neT (a := 4) c_1_4 (by decide); have n5 := lv_neT (a := 5) c_1_5 (by decide); have n6 := lv_neT (a := 6) c_1_6 (by decide); have n7 := lv_neT (a := 7) c_1_7 (by decide); omega) (by decide) ?_
                  refine lv_bipush (v := (-2)) hx hb dX8_count_88 (by decide) ?_
                  have e9 := Option.some.inj hf
                  exact rt_i hx hb hr hlocks e9 hP hS dX8_count_90
abbrev rm_X8_tape : Room := { frames := 2, cells := 0, slots := 0, locals := 44 }
theorem m_X8_tape_e1292b : Cond.fieldLink RX8 208 "PickedMatchModel" "item" "[J" ∈ wsX8_tape := by decide +kernel
theorem i_X8_tape_X8 : ∀ w ∈ wsX80, w ∈ wsX8_tape := fun _ h => List.mem_cons_of_mem _ (List.mem_append_right _ h)
theorem m_X8_tape_0b4136 : Cond.fieldLink RX8 202 "PickedMatchModel" "sort" "[I" ∈ wsX8_tape := by decide +kernel
theorem m_X8_tape_834687 : Cond.fieldLink RX8 205 "PickedMatchModel" "length" "[I" ∈ wsX8_tape := by decide +kernel
set_option maxHeartbeats 8000000 in
set_option maxRecDepth 100000 in
theorem k_X8_tape (l : Launch) (E : Ev) (a0 : Nat → Nat) (N : Nat) (s0 : St) (t0 : Nat → Nat → Int64) (p1 : Int32) (p2 : Int32) (p3 : Int32) (q : (Int32 × St × (Nat → Nat → Int64))) (hf : f_X8_tape N s0 t0 p1 p2 p3 = some q) : Ci l yX8_tape wsX8_tape rm_X8_tape E [.ref (a0 0), .int p1, .int p2, .int p3] (wX8 E a0 s0 t0) (wX8 E a0 q.2.1 q.2.2) q.1 := by
  unfold f_X8_tape at hf
  intro sz
  refine Met.ofW (cc := cX8_tape) (maxL := 5) (ret := (some .int)) (by decide) rfl ?_
  intro p e s m args below meth c s₁ B hml hv
  obtain ⟨rfl, hsz, hP, hK, hD0, hG, hA, hAB⟩ := start hv
  have hx := B.exec
  have hb := B.bytes
  have hr := B.returns
  have hts := atoms_spec (ws := wsX8_tape) B.pre
  have hown : s.vm.findClass RX8 = some m.cls := findClass_of_methodNamed B.named
  have hlocks := B.notSynchronized
  subst hsz
  generalize va_A (wX8 E a0 s0 t0) s.heap.size = A0 at hD0 hA hAB ⊢
  have hDD : ∀ (s0 : St) (t0 : Nat → Nat → Int64), va_D A0 (wX8 E a0 s0 t0) := fun s0 t0 => vD_addr hD0 rfl
  have hS : va_S A0 s.heap s.heap [] := va_S.rf
  have hl := lv_entry ([.ref (a0 0), .int p1, .int p2, .int p3]) (n := 5) (Nat.le_of_ble_eq_true rfl)
  rw [lg_entry_eq]
  generalize (lg_sl ([.ref (a0 0), .int p1, .int p2, .int p3]) ++ List.replicate (5 - (lg_sl ([.ref (a0 0), .int p1, .int p2, .int p3])).length) Slot.unset).toArray = ls at hl ⊢
  have hl : lv_has ls 5 [(0, .ref (a0 0)), (1, .int p1), (2, .int p2), (3, .int p3)] := hl
  have hL_69 : ∀ (v1 : Int32) (n_69 : Nat) (s0 : St) (t0 : Nat → Nat → Int64) (v4 : Int32), l_X8_tape_69 N v1 n_69 s0 t0 v4 = some q → ∀ (H : Heap) (locs : List Loc) (ls : Array Slot), va_P E.1 vwCl (wX8 E a0 s0 t0) H → va_S A0 s.heap H locs → lv_has ls 5 [(0, .ref (a0 0)), (1, .int v1), (4, .int v4)] → W p l e rm_X8_tape s m ([.ref (a0 0), .int p1, .int p2, .int p3] : List Value).toArray below meth c H locs 0 0 (MQ below (va_Qi (fun (r' : Int32) (_ : Unit) => r' = q.1) (fun _ t => va_P E.1 vwCl (wX8 E a0 q.2.1 q.2.2) t.heap) A0) ([.ref (a0 0), .int p1, .int p2, .int p3] : List Value).toArray s 0 0 A0) (F0 m 69 ls []) := by
    intro v1 n_69
    induction n_69 with
    | zero => intro s0 t0 v4 hf; rw [l_X8_tape_69] at hf; cases hf
    | succ n_69 ih_69 =>
      intro s0 t0 v4 hf H locs ls hP hS hl
      rw [l_X8_tape_69] at hf
      refine lv_iload hx hb dX8_tape_69 (lv_at hl 2 rfl) ?_
      refine lv_bipush (v := 60) hx hb dX8_tape_71 (by decide) ?_
      refine lv_icmp_ge (tgt := 95) hx hb dX8_tape_73 (by decide) (fun c_73 => ?_) (fun c_73 => ?_)
      · have hf := ite_t c_73 hf
        refine lv_iconst (v := 1) hx hb dX8_tape_95 (by decide) ?_
        have e9 := Option.some.inj hf
        exact rt_i hx hb hr hlocks (fst_e e9) (rtP (P := fun z => va_P E.1 vwCl (wX8 E a0 z.2.1 z.2.2) H) e9 hP) hS dX8_tape_96
      · have hf := ite_f c_73 hf
        refine lv_aload_n hx hb dX8_tape_76 rfl (lv_at hl 0 rfl) ?_
        refine va_get (ci := 8) (C := RX8) (T := TX8) (N := 67) (v := .ref (a0 41)) hx hb hts i_X8_tape_X8 hown hK hP 0 rfl rfl 65 (by decide) (hts _ m_X8_tape_e1292b) (fun _ h9 => h9) rfl dX8_tape_77 ?_
        refine lv_bipush (v := 60) hx hb dX8_tape_80 (by decide) ?_
        refine lv_iload_n hx hb dX8_tape_82 rfl (lv_at hl 1 rfl) ?_
        refine lv_imul hx hb dX8_tape_83 ?_
        refine lv_iload hx hb dX8_tape_84 (lv_at hl 2 rfl) ?_
        refine lv_iadd hx hb dX8_tape_86 ?_
        refine lv_lconst (v := 0) hx hb dX8_tape_87 (by decide) ?_
        obtain ⟨h_88, hf⟩ := ck_e hf
        refine va_last (cA := E.2.2.1) (n := 360) (f := t0 65) (x := 0) hx hb hK hP (hDD s0 t0) hS 41 1 rfl rfl h_88 dX8_tape_88 (fun H locs hP _ hS => ?_)
        obtain ⟨t0_88, hP, hf⟩ := nm_st' (P := fun z => va_P E.1 vwCl (wX8 E a0 s0 z) H) hf hP
        obtain ⟨x89, e_x89⟩ : ∃ y : Int32, y = v4 + 1 := ⟨_, rfl⟩
        have hf := nm_q e_x89 hf
        refine lv_iinc (v := x89) (lv' := [(4, .int x89), (0, .ref (a0 0)), (1, .int v1)]) hx hb dX8_tape_89 hl (k := 2) rfl (by rw [e_x89]; rfl) (Nat.le_of_ble_eq_true rfl) rfl (fun ls hl => ?_)
        refine lv_goto (tgt := 69) hx hb dX8_tape_92 (by decide) ?_
        exact ih_69 s0 t0_88 x89 hf _ _ _ hP hS (lv_sub hl [1, 2, 0] rfl)
  have hL_44 : ∀ (s0 : St) (t0 : Nat → Nat → Int64) (v1 : Int32) (v2 : Int32) (v3 : Int32), j_X8_tape_44 N s0 t0 v1 v2 v3 = some q → ∀ (H : Heap) (locs : List Loc) (ls : Array Slot), va_P E.1 vwCl (wX8 E a0 s0 t0) H → va_S A0 s.heap H locs → lv_has ls 5 [(0, .ref (a0 0)), (1, .int v1), (2, .int v2), (3, .int v3)] → W p l e rm_X8_tape s m ([.ref (a0 0), .int p1, .int p2, .int p3] : List Value).toArray below meth c H locs 0 0 (MQ below (va_Qi (fun (r' : Int32) (_ : Unit) => r' = q.1) (fun _ t => va_P E.1 vwCl (wX8 E a0 q.2.1 q.2.2) t.heap) A0) ([.ref (a0 0), .int p1, .int p2, .int p3] : List Value).toArray s 0 0 A0) (F0 m 44 ls []) := by
    intro s0 t0 v1 v2 v3 hf H locs ls hP hS hl
    unfold j_X8_tape_44 at hf
    refine lv_aload_n hx hb dX8_tape_44 rfl (lv_at hl 0 rfl) ?_
    refine va_get (ci := 8) (C := RX8) (T := TX8) (N := 67) (v := .ref (a0 39)) hx hb hts i_X8_tape_X8 hown hK hP 0 rfl rfl 63 (by decide) (hts _ m_X8_tape_0b4136) (fun _ h9 => h9) rfl dX8_tape_45 ?_
    refine lv_iload_n hx hb dX8_tape_48 rfl (lv_at hl 1 rfl) ?_
    refine lv_iload_n hx hb dX8_tape_49 rfl (lv_at hl 2 rfl) ?_
    obtain ⟨h_50, hf⟩ := ck_e hf
    refine va_iast (cA := E.2.1) (n := 6) (f := s0 63) (x := v2) hx hb hK hP (hDD s0 t0) hS 39 0 rfl rfl h_50 dX8_tape_50 (fun H locs hP _ hS => ?_)
    obtain ⟨s0_50, hP, hf⟩ := nm_st' (P := fun z => va_P E.1 vwCl (wX8 E a0 z t0) H) hf hP
    refine lv_aload_n hx hb dX8_tape_51 rfl (lv_at hl 0 rfl) ?_
    refine va_get (ci := 8) (C := RX8) (T := TX8) (N := 67) (v := .ref (a0 40)) hx hb hts i_X8_tape_X8 hown hK hP 0 rfl rfl 64 (by decide) (hts _ m_X8_tape_834687) (fun _ h9 => h9) rfl dX8_tape_52 ?_
    refine lv_iload_n hx hb dX8_tape_55 rfl (lv_at hl 1 rfl) ?_
    refine lv_iload_n hx hb dX8_tape_56 rfl (lv_at hl 2 rfl) ?_
    refine lv_if_ge (tgt := 64) hx hb dX8_tape_57 (by decide) (fun c_57 => ?_) (fun c_57 => ?_)
    · have hf := ite_t c_57 hf
      refine lv_iload_n hx hb dX8_tape_64 rfl (lv_at hl 3 rfl) ?_
      obtain ⟨h_65, hf⟩ := ck_e hf
      refine va_iast (cA := E.2.1) (n := 6) (f := s0_50 64) (x := v3) hx hb hK hP (hDD s0_50 t0) hS 40 0 rfl rfl h_65 dX8_tape_65 (fun H locs hP _ hS => ?_)
      obtain ⟨s0_65, hP, hf⟩ := nm_st' (P := fun z => va_P E.1 vwCl (wX8 E a0 z t0) H) hf hP
      refine lv_iconst (v := 0) hx hb dX8_tape_66 (by decide) ?_
      refine lv_istore (lv' := [(4, .int 0), (0, .ref (a0 0)), (1, .int v1), (2, .int v2), (3, .int v3)]) hx hb dX8_tape_67 hl (Nat.le_of_ble_eq_true rfl) rfl (fun ls hl => ?_)
      exact hL_69 v1 N s0_65 t0 0 hf _ _ _ hP hS (lv_sub hl [1, 2, 0] rfl)
    · have hf := ite_f c_57 hf
      refine lv_iconst (v := 0) hx hb dX8_tape_60 (by decide) ?_
      refine lv_goto (tgt := 65) hx hb dX8_tape_61 (by decide) ?_
      obtain ⟨h_65, hf⟩ := ck_e hf
      refine va_iast (cA := E.2.1) (n := 6) (f := s0_50 64) (x := 0) hx hb hK hP (hDD s0_50 t0) hS 40 0 rfl rfl h_65 dX8_tape_65 (fun H locs hP _ hS => ?_)
      obtain ⟨s0_65, hP, hf⟩ := nm_st' (P := fun z => va_P E.1 vwCl (wX8 E a0 z t0) H) hf hP
      refine lv_iconst (v := 0) hx hb dX8_tape_66 (by decide) ?_
      refine lv_istore (lv' := [(4, .int 0), (0, .ref (a0 0)), (1, .int v1), (2, .int v2), (3, .int v3)]) hx hb dX8_tape_67 hl (Nat.le_of_ble_eq_true rfl) rfl (fun ls hl => ?_)
      exact hL_69 v1 N s0_65 t0 0 hf _ _ _ hP hS (lv_sub hl [1, 2, 0] rfl)
  have hL_33 : ∀ (s0 : St) (t0 : Nat → Nat → Int64) (v1 : Int32) (v2 : Int32) (v3 : Int32), j_X8_tape_33 N s0 t0 v1 v2 v3 = some q → ∀ (H : Heap) (locs : List Loc) (ls : Array Slot), va_P E.1 vwCl (wX8 E a0 s0 t0) H → va_S A0 s.heap H locs → lv_has ls 5 [(0, .ref (a0 0)), (1, .int v1), (2, .int v2), (3, .int v3)] → W p l e rm_X8_tape s m ([.ref (a0 0), .int p1, .int p2, .int p3] : List Value).toArray below meth c H locs 0 0 (MQ below (va_Qi (fun (r' : Int32) (_ : Unit) => r' = q.1) (fun _ t => va_P E.1 vwCl (wX8 E a0 q.2.1 q.2.2) t.heap) A0) ([.ref (a0 0), .int p1, .int p2, .int p3] : List Value).toArray s 0 0 A0) (F0 m 33 ls []) := by
    intro s0 t0 v1 v2 v3 hf H locs ls hP hS hl
    unfold j_X8_tape_33 at hf
    refine lv_iload_n hx hb dX8_tape_33 rfl (lv_at hl 2 rfl) ?_
    refine lv_if_lt (tgt := 44) hx hb dX8_tape_34 (by decide) (fun c_34 => ?_) (fun c_34 => ?_)
    · have hf := ite_t c_34 hf
      exact hL_44 s0 t0 v1 v2 v3 hf _ _ _ hP hS (lv_sub hl [0, 1, 2, 3] rfl)
    · have hf := ite_f c_34 hf
      refine lv_iload_n hx hb dX8_tape_37 rfl (lv_at hl 3 rfl) ?_
      refine lv_if_ge (tgt := 44) hx hb dX8_tape_38 (by decide) (fun c_38 => ?_) (fun c_38 => ?_)
      · have hf := ite_t c_38 hf
        exact hL_44 s0 t0 v1 v2 v3 hf _ _ _ hP hS (lv_sub hl [0, 1, 2, 3] rfl)
      · have hf := ite_f c_38 hf
        refine lv_bipush (v := (-14)) hx hb dX8_tape_41 (by decide) ?_
        have e9 := Option.some.inj hf
        exact rt_i hx hb hr hlocks (fst_e e9) (rtP (P := fun z => va_P E.1 vwCl (wX8 E a0 z.2.1 z.2.2) H) e9 hP) hS dX8_tape_43
  refine lv_aload_n hx hb dX8_tape_0 rfl (lv_at hl 0 rfl) ?_
  refine lv_iload_n hx hb dX8_tape_1 rfl (lv_at hl 1 rfl) ?_
  obtain ⟨q2, hc_2, hf⟩ := cl_e hf
  refine fin_i (E := E) (wc := wX8 E a0 s0 t0) (wc' := wX8 E a0 s0 t0) (va_runV (As := [.int p1]) (rest := []) ⟨hx, hb, hml, hown, hts⟩ (k_X8_isTape l E a0 N s0 t0 p1 q2 hc_2 _) (cwV 1 hts gX8_tape_X8_isTape rfl rfl rfl (by decide +kernel) ⟨(Nat.le_of_ble_eq_true rfl), (Nat.le_of_ble_eq_true rfl)⟩) (pre_v (ci := 8) (q0 := 0) hK hP (hDD s0 t0) hS hG hAB rfl rfl) rfl rfl hl.1 rfl (lv_room (Nat.le_of_ble_eq_true rfl)) dX8_tape_2 ⟨Nat.zero_le _, Nat.zero_le _⟩) hS (w_free (hDD s0 t0) hS hA (fun _ h => h)) (fun H locs hP1 hk hS => ?_)
  have hP := hP1
  refine lv_if_ne (tgt := 10) hx hb dX8_tape_5 (by decide) (fun c_5 => ?_) (fun c_5 => ?_)
  · have hf := ite_f c_5 hf
    refine lv_aload_n hx hb dX8_tape_10 rfl (lv_at hl 0 rfl) ?_
    refine lv_iload_n hx hb dX8_tape_11 rfl (lv_at hl 2 rfl) ?_
    refine lv_iconst (v := (-1)) hx hb dX8_tape_12 (by decide) ?_
    refine lv_iconst (v := 4) hx hb dX8_tape_13 (by decide) ?_
    obtain ⟨q14, hc_14, hf⟩ := cl_e hf
    refine fin_i (E := E) (wc := wX8 E a0 s0 t0) (wc' := wX8 E a0 s0 t0) (va_runV (As := [.int p2, .int (-1), .int 4]) (rest := []) ⟨hx, hb, hml, hown, hts⟩ (k_X8_in l E a0 N s0 t0 p2 (-1) 4 q14 hc_14 _) (cwV 3 hts gX8_tape_X8_in rfl rfl rfl (by decide +kernel) ⟨(Nat.le_of_ble_eq_true rfl), (Nat.le_of_ble_eq_true rfl)⟩) (pre_v (ci := 8) (q0 := 0) hK hP (hDD s0 t0) hS hG hAB rfl rfl) rfl rfl hl.1 rfl (lv_room (Nat.le_of_ble_eq_true rfl)) dX8_tape_14 ⟨Nat.zero_le _, Nat.zero_le _⟩) hS (w_free (hDD s0 t0) hS hA (fun _ h => h)) (fun H locs hP1 hk hS => ?_)
    have hP := hP1
    refine lv_if_eq (tgt := 30) hx hb dX8_tape_17 (by decide) (fun c_17 => ?_) (fun c_17 => ?_)
    · have hf := ite_t c_17 hf
      refine lv_bipush (v := (-2)) hx hb dX8_tape_30 (by decide) ?_
      have e9 := Option.some.inj hf
      exact rt_i hx hb hr hlocks (fst_e e9) (rtP (P := fun z => va_P E.1 vwCl (wX8 E a0 z.2.1 z.2.2) H) e9 hP) hS dX8_tape_32
    · have hf := ite_f c_17 hf
      refine lv_iload_n hx hb dX8_tape_20 rfl (lv_at hl 2 rfl) ?_
      refine lv_if_lt (tgt := 33) hx hb dX8_tape_21 (by decide) (fun c_21 => ?_) (fun c_21 => ?_)
      · have hf := ite_t c_21 hf
        exact hL_33 s0 t0 p1 p2 p3 hf _ _ _ hP hS (lv_sub hl [0, 1, 2, 3] rfl)
      · have hf := ite_f c_21 hf
        refine lv_iload_n hx hb dX8_tape_24 rfl (lv_at hl 3 rfl) ?_
        refine lv_bipush (v := 60) hx hb dX8_tape_25 (by decide) ?_
        refine lv_icmp_le (tgt := 33) hx hb dX8_tape_27 (by decide) (fun c_27 => ?_) (fun c_27 => ?_)
        · have hf := ite_t c_27 hf
          exact hL_33 s0 t0 p1 p2 p3 hf _ _ _ hP hS (lv_sub hl [0, 1, 2, 3] rfl)
        · have hf := ite_f c_27 hf
          refine lv_bipush (v := (-2)) hx hb dX8_tape_30 (by decide) ?_
          have e9 := Option.some.inj hf
          exact rt_i hx hb hr hlocks (fst_e e9) (rtP (P := fun z => va_P E.1 vwCl (wX8 E a0 z.2.1 z.2.2) H) e9 hP) hS dX8_tape_32
  · have hf := ite_t c_5 hf
    refine lv_iconst (v := (-1)) hx hb dX8_tape_8 (by decide) ?_
    have e9 := Option.some.inj hf
    exact rt_i hx hb hr hlocks (fst_e e9) (rtP (P := fun z => va_P E.1 vwCl (wX8 E a0 z.2.1 z.2.2) H) e9 hP) hS dX8_tape_9
abbrev rm_X8_narrow : Room := { frames := 0, cells := 0, slots := 0, locals := 0 }
set_option maxHeartbeats 8000000 in
set_option maxRecDepth 100000 in
theorem k_X8_narrow (l : Launch) (E : Ev) (a0 : Nat → Nat) (N : Nat) (s0 : St) (t0 : Nat → Nat → Int64) (p1 : Int32) (p2 : Int64) (q : (Int64)) (hf : f_X8_narrow N p1 p2 = some q) : Cl l yX8_narrow wsX8_narrow rm_X8_narrow E [.ref (a0 0), .int p1, .long p2] (wX8 E a0 s0 t0) (wX8 E a0 s0 t0) q := by
  unfold f_X8_narrow at hf
  intro sz
  refine Met.ofW (cc := cX8_narrow) (maxL := 4) (ret := (some .long)) (by decide) rfl ?_
  intro p e s m args below meth c s₁ B hml hv
  obtain ⟨rfl, hsz, hP, hK, hD0, hG, hA, hAB⟩ := start hv
  have hx := B.exec
  have hb := B.bytes
  have hr := B.returns
  have hts := atoms_spec (ws := wsX8_narrow) B.pre
  have hown : s.vm.findClass RX8 = some m.cls := findClass_of_methodNamed B.named
  have hlocks := B.notSynchronized
  subst hsz
  generalize va_A (wX8 E a0 s0 t0) s.heap.size = A0 at hD0 hA hAB ⊢
  have hDD : ∀ (s0 : St) (t0 : Nat → Nat → Int64), va_D A0 (wX8 E a0 s0 t0) := fun s0 t0 => vD_addr hD0 rfl
  have hS : va_S A0 s.heap s.heap [] := va_S.rf
  have hl := lv_entry ([.ref (a0 0), .int p1, .long p2]) (n := 4) (Nat.le_of_ble_eq_true rfl)
  rw [lg_entry_eq]
  generalize (lg_sl ([.ref (a0 0), .int p1, .long p2]) ++ List.replicate (4 - (lg_sl ([.ref (a0 0), .int p1, .long p2])).length) Slot.unset).toArray = ls at hl ⊢
  have hl : lv_has ls 4 [(0, .ref (a0 0)), (1, .int p1), (2, .long p2)] := hl
  refine lv_iload_n hx hb dX8_narrow_0 rfl (lv_at hl 1 rfl) ?_
  refine lv_if_ne (tgt := 11) hx hb dX8_narrow_1 (by decide) (fun c_1 => ?_) (fun c_1 => ?_)
  · have hf := ite_f c_1 hf
    refine lv_iload_n hx hb dX8_narrow_11 rfl (lv_at hl 1 rfl) ?_
    refine lv_iconst (v := 1) hx hb dX8_narrow_12 (by decide) ?_
    refine lv_icmp_ne (tgt := 23) hx hb dX8_narrow_13 (by decide) (fun c_13 => ?_) (fun c_13 => ?_)
    · have hf := ite_f c_13 hf
      refine lv_iload_n hx hb dX8_narrow_23 rfl (lv_at hl 1 rfl) ?_
      refine lv_iconst (v := 2) hx hb dX8_narrow_24 (by decide) ?_
      refine lv_icmp_ne (tgt := 34) hx hb dX8_narrow_25 (by decide) (fun c_25 => ?_) (fun c_25 => ?_)
      · have hf := ite_f c_25 hf
        refine lv_iload_n hx hb dX8_narrow_34 rfl (lv_at hl 1 rfl) ?_
        refine lv_iconst (v := 4) hx hb dX8_narrow_35 (by decide) ?_
        refine lv_icmp_ne (tgt := 53) hx hb dX8_narrow_36 (by decide) (fun c_36 => ?_) (fun c_36 => ?_)
        · have hf := ite_f c_36 hf
          refine lv_lload_n hx hb dX8_narrow_53 rfl (lv_at hl 2 rfl) ?_
          have e9 := Option.some.inj hf
          exact rt_l hx hb hr hlocks e9 hP hS dX8_narrow_54
        · have hf := ite_t c_36 hf
          refine lv_lload_n hx hb dX8_narrow_39 rfl (lv_at hl 2 rfl) ?_
          refine lv_lconst (v := 0) hx hb dX8_narrow_40 (by decide) ?_
          refine W.lcmp hx hb dX8_narrow_41 ?_
          refine lv_if_eq (tgt := 49) hx hb dX8_narrow_42 (by decide) (fun c_42 => ?_) (fun c_42 => ?_)
          · have hf := ite_t c_42 hf
            refine lv_lconst (v := 0) hx hb dX8_narrow_49 (by decide) ?_
            refine lv_goto (tgt := 54) hx hb dX8_narrow_50 (by decide) ?_
            have e9 := Option.some.inj hf
            exact rt_l hx hb hr hlocks e9 hP hS dX8_narrow_54
          · have hf := ite_f c_42 hf
            refine lv_lconst (v := 1) hx hb dX8_narrow_45 (by decide) ?_
            refine lv_goto (tgt := 54) hx hb dX8_narrow_46 (by decide) ?_
            have e9 := Option.some.inj hf
            exact rt_l hx hb hr hlocks e9 hP hS dX8_narrow_54
      · have hf := ite_t c_25 hf
        refine lv_lload_n hx hb dX8_narrow_28 rfl (lv_at hl 2 rfl) ?_
        refine lv_l2i (v := p2.toInt32) hx hb dX8_narrow_29 rfl ?_
        refine lv_i2l (v := p2.toInt32.toInt64) hx hb dX8_narrow_30 rfl ?_
        refine lv_goto (tgt := 54) hx hb dX8_narrow_31 (by decide) ?_
        have e9 := Option.some.inj hf
        exact rt_l hx hb hr hlocks e9 hP hS dX8_narrow_54
    · have hf := ite_t c_13 hf
      refine lv_lload_n hx hb dX8_narrow_16 rfl (lv_at hl 2 rfl) ?_
      refine lv_l2i (v := p2.toInt32) hx hb dX8_narrow_17 rfl ?_
      refine lv_i2s (v := p2.toInt32.toInt16.toInt32) hx hb dX8_narrow_18 rfl ?_
      refine lv_i2l (v := p2.toInt32.toInt16.toInt32.toInt64) hx hb dX8_narrow_19 rfl ?_
      refine lv_goto (tgt := 54) hx hb dX8_narrow_20 (by decide) ?_
      have e9 := Option.some.inj hf
      exact rt_l hx hb hr hlocks e9 hP hS dX8_narrow_54
  · have hf := ite_t c_1 hf
    refine lv_lload_n hx hb dX8_narrow_4 rfl (lv_at hl 2 rfl) ?_
    refine lv_l2i (v := p2.toInt32) hx hb dX8_narrow_5 rfl ?_
    refine lv_i2b (v := p2.toInt32.toInt8.toInt32) hx hb dX8_narrow_6 rfl ?_
    refine lv_i2l (v := p2.toInt32.toInt8.toInt32.toInt64) hx hb dX8_narrow_7 rfl ?_
    refine lv_goto (tgt := 54) hx hb dX8_narrow_8 (by decide) ?_
    have e9 := Option.some.inj hf
    exact rt_l hx hb hr hlocks e9 hP hS dX8_narrow_54
abbrev rm_X8_item : Room := { frames := 2, cells := 0, slots := 0, locals := 44 }
theorem m_X8_item_0b4136 : Cond.fieldLink RX8 202 "PickedMatchModel" "sort" "[I" ∈ wsX8_item := by decide +kernel
theorem i_X8_item_X8 : ∀ w ∈ wsX80, w ∈ wsX8_item := fun _ h => List.mem_cons_of_mem _ (List.mem_append_right _ h)
theorem m_X8_item_834687 : Cond.fieldLink RX8 205 "PickedMatchModel" "length" "[I" ∈ wsX8_item := by decide +kernel
theorem m_X8_item_e1292b : Cond.fieldLink RX8 208 "PickedMatchModel" "item" "[J" ∈ wsX8_item := by decide +kernel
set_option maxHeartbeats 8000000 in
set_option maxRecDepth 100000 in
theorem k_X8_item (l : Launch) (E : Ev) (a0 : Nat → Nat) (N : Nat) (s0 : St) (t0 : Nat → Nat → Int64) (p1 : Int32) (p2 : Int32) (p3 : Int64) (q : (Int32 × (Nat → Nat → Int64))) (hf : f_X8_item N s0 t0 p1 p2 p3 = some q) : Ci l yX8_item wsX8_item rm_X8_item E [.ref (a0 0), .int p1, .int p2, .long p3] (wX8 E a0 s0 t0) (wX8 E a0 s0 q.2) q.1 := by
  unfold f_X8_item at hf
  intro sz
  refine Met.ofW (cc := cX8_item) (maxL := 5) (ret := (some .int)) (by decide) rfl ?_
  intro p e s m args below meth c s₁ B hml hv
  obtain ⟨rfl, hsz, hP, hK, hD0, hG, hA, hAB⟩ := start hv
  have hx := B.exec
  have hb := B.bytes
  have hr := B.returns
  have hts := atoms_spec (ws := wsX8_item) B.pre
  have hown : s.vm.findClass RX8 = some m.cls := findClass_of_methodNamed B.named
  have hlocks := B.notSynchronized
  subst hsz
  generalize va_A (wX8 E a0 s0 t0) s.heap.size = A0 at hD0 hA hAB ⊢
  have hDD : ∀ (s0 : St) (t0 : Nat → Nat → Int64), va_D A0 (wX8 E a0 s0 t0) := fun s0 t0 => vD_addr hD0 rfl
  have hS : va_S A0 s.heap s.heap [] := va_S.rf
  have hl := lv_entry ([.ref (a0 0), .int p1, .int p2, .long p3]) (n := 5) (Nat.le_of_ble_eq_true rfl)
  rw [lg_entry_eq]
  generalize (lg_sl ([.ref (a0 0), .int p1, .int p2, .long p3]) ++ List.replicate (5 - (lg_sl ([.ref (a0 0), .int p1, .int p2, .long p3])).length) Slot.unset).toArray = ls at hl ⊢
  have hl : lv_has ls 5 [(0, .ref (a0 0)), (1, .int p1), (2, .int p2), (3, .long p3)] := hl
  refine lv_aload_n hx hb dX8_item_0 rfl (lv_at hl 0 rfl) ?_
  refine lv_iload_n hx hb dX8_item_1 rfl (lv_at hl 1 rfl) ?_
  obtain ⟨q2, hc_2, hf⟩ := cl_e hf
  refine fin_i (E := E) (wc := wX8 E a0 s0 t0) (wc' := wX8 E a0 s0 t0) (va_runV (As := [.int p1]) (rest := []) ⟨hx, hb, hml, hown, hts⟩ (k_X8_isTape l E a0 N s0 t0 p1 q2 hc_2 _) (cwV 1 hts gX8_item_X8_isTape rfl rfl rfl (by decide +kernel) ⟨(Nat.le_of_ble_eq_true rfl), (Nat.le_of_ble_eq_true rfl)⟩) (pre_v (ci := 8) (q0 := 0) hK hP (hDD s0 t0) hS hG hAB rfl rfl) rfl rfl hl.1 rfl (lv_room (Nat.le_of_ble_eq_true rfl)) dX8_item_2 ⟨Nat.zero_le _, Nat.zero_le _⟩) hS (w_free (hDD s0 t0) hS hA (fun _ h => h)) (fun H locs hP1 hk hS => ?_)
  have hP := hP1
  refine lv_if_ne (tgt := 10) hx hb dX8_item_5 (by decide) (fun c_5 => ?_) (fun c_5 => ?_)
  · have hf := ite_f c_5 hf
    refine lv_aload_n hx hb dX8_item_10 rfl (lv_at hl 0 rfl) ?_
    refine va_get (ci := 8) (C := RX8) (T := TX8) (N := 67) (v := .ref (a0 39)) hx hb hts i_X8_item_X8 hown hK hP 0 rfl rfl 63 (by decide) (hts _ m_X8_item_0b4136) (fun _ h9 => h9) rfl dX8_item_11 ?_
    refine lv_iload_n hx hb dX8_item_14 rfl (lv_at hl 1 rfl) ?_
    obtain ⟨h_15, hf⟩ := ck_e hf
    refine va_iald (cA := E.2.1) (n := 6) (f := s0 63) hx hb hK hP 39 0 rfl rfl h_15 dX8_item_15 ?_
    refine lv_if_ge (tgt := 22) hx hb dX8_item_16 (by decide) (fun c_16 => ?_) (fun c_16 => ?_)
    · have hf := ite_t c_16 hf
      refine lv_aload_n hx hb dX8_item_22 rfl (lv_at hl 0 rfl) ?_
      refine lv_iload_n hx hb dX8_item_23 rfl (lv_at hl 2 rfl) ?_
      refine lv_iconst (v := 0) hx hb dX8_item_24 (by decide) ?_
      refine lv_aload_n hx hb dX8_item_25 rfl (lv_at hl 0 rfl) ?_
      refine va_get (ci := 8) (C := RX8) (T := TX8) (N := 67) (v := .ref (a0 40)) hx hb hts i_X8_item_X8 hown hK hP 0 rfl rfl 64 (by decide) (hts _ m_X8_item_834687) (fun _ h9 => h9) rfl dX8_item_26 ?_
      refine lv_iload_n hx hb dX8_item_29 rfl (lv_at hl 1 rfl) ?_
      obtain ⟨h_30, hf⟩ := ck_e hf
      refine va_iald (cA := E.2.1) (n := 6) (f := s0 64) hx hb hK hP 40 0 rfl rfl h_30 dX8_item_30 ?_
      refine lv_iconst (v := 1) hx hb dX8_item_31 (by decide) ?_
      refine lv_isub hx hb dX8_item_32 ?_
      obtain ⟨q33, hc_33, hf⟩ := cl_e hf
      refine fin_i (E := E) (wc := wX8 E a0 s0 t0) (wc' := wX8 E a0 s0 t0) (va_runV (As := [.int p2, .int 0, .int ((s0 64 p1.toNatClampNeg) - 1)]) (rest := []) ⟨hx, hb, hml, hown, hts⟩ (k_X8_in l E a0 N s0 t0 p2 0 ((s0 64 p1.toNatClampNeg) - 1) q33 hc_33 _) (cwV 3 hts gX8_item_X8_in rfl rfl rfl (by decide +kernel) ⟨(Nat.le_of_ble_eq_true rfl), (Nat.le_of_ble_eq_true rfl)⟩) (pre_v (ci := 8) (q0 := 0) hK hP (hDD s0 t0) hS hG hAB rfl rfl) rfl rfl hl.1 rfl (lv_room (Nat.le_of_ble_eq_true rfl)) dX8_item_33 ⟨Nat.zero_le _, Nat.zero_le _⟩) hS (w_free (hDD s0 t0) hS hA (fun _ h => h)) (fun H locs hP1 hk hS => ?_)
      have hP := hP1
      refine lv_if_ne (tgt := 42) hx hb dX8_item_36 (by decide) (fun c_36 => ?_) (fun c_36 => ?_)
      · have hf := ite_f c_36 hf
        refine lv_aload_n hx hb dX8_item_42 rfl (lv_at hl 0 rfl) ?_
        refine va_get (ci := 8) (C := RX8) (T := TX8) (N := 67) (v := .ref (a0 41)) hx hb hts i_X8_item_X8 hown hK hP 0 rfl rfl 65 (by decide) (hts _ m_X8_item_e1292b) (fun _ h9 => h9) rfl dX8_item_43 ?_
        refine lv_bipush (v := 60) hx hb dX8_item_46 (by decide) ?_
        refine lv_iload_n hx hb dX8_item_48 rfl (lv_at hl 1 rfl) ?_
        refine lv_imul hx hb dX8_item_49 ?_
        refine lv_iload_n hx hb dX8_item_50 rfl (lv_at hl 2 rfl) ?_
        refine lv_iadd hx hb dX8_item_51 ?_
        refine lv_aload_n hx hb dX8_item_52 rfl (lv_at hl 0 rfl) ?_
        refine lv_aload_n hx hb dX8_item_53 rfl (lv_at hl 0 rfl) ?_
        refine va_get (ci := 8) (C := RX8) (T := TX8) (N := 67) (v := .ref (a0 39)) hx hb hts i_X8_item_X8 hown hK hP 0 rfl rfl 63 (by decide) (hts _ m_X8_item_0b4136) (fun _ h9 => h9) rfl dX8_item_54 ?_
        refine lv_iload_n hx hb dX8_item_57 rfl (lv_at hl 1 rfl) ?_
        obtain ⟨h_58, hf⟩ := ck_e hf
        refine va_iald (cA := E.2.1) (n := 6) (f := s0 63) hx hb hK hP 39 0 rfl rfl h_58 dX8_item_58 ?_
        refine lv_lload_n hx hb dX8_item_59 rfl (lv_at hl 3 rfl) ?_
        obtain ⟨q60, hc_60, hf⟩ := cl_e hf
        refine fin_l (E := E) (wc := wX8 E a0 s0 t0) (wc' := wX8 E a0 s0 t0) (va_runV (As := [.int (s0 63 p1.toNatClampNeg), .long p3]) (rest := [.int ((60 * p1) + p2), .ref (a0 41)]) ⟨hx, hb, hml, hown, hts⟩ (k_X8_narrow l E a0 N s0 t0 (s0 63 p1.toNatClampNeg) p3 q60 hc_60 _) (cwV 2 hts gX8_item_X8_narrow rfl rfl rfl (by decide +kernel) ⟨(Nat.le_of_ble_eq_true rfl), (Nat.le_of_ble_eq_true rfl)⟩) (pre_v (ci := 8) (q0 := 0) hK hP (hDD s0 t0) hS hG hAB rfl rfl) rfl rfl hl.1 rfl (lv_room (Nat.le_of_ble_eq_true rfl)) dX8_item_60 ⟨Nat.zero_le _, Nat.zero_le _⟩) hS (w_free (hDD s0 t0) hS hA (fun _ h => h)) (fun H locs hP1 hk hS => ?_)
        have hP := hP1
        obtain ⟨h_63, hf⟩ := ck_e hf
        refine va_last (cA := E.2.2.1) (n := 360) (f := t0 65) (x := q60) hx hb hK hP (hDD s0 t0) hS 41 1 rfl rfl h_63 dX8_item_63 (fun H locs hP _ hS => ?_)
        obtain ⟨t0_63, hP, hf⟩ := nm_st' (P := fun z => va_P E.1 vwCl (wX8 E a0 s0 z) H) hf hP
        refine lv_iconst (v := 1) hx hb dX8_item_64 (by decide) ?_
        have e9 := Option.some.inj hf
        exact rt_i hx hb hr hlocks (fst_e e9) (rtP (P := fun z => va_P E.1 vwCl (wX8 E a0 s0 z.2) H) e9 hP) hS dX8_item_65
      · have hf := ite_t c_36 hf
        refine lv_bipush (v := (-13)) hx hb dX8_item_39 (by decide) ?_
        have e9 := Option.some.inj hf
        exact rt_i hx hb hr hlocks (fst_e e9) (rtP (P := fun z => va_P E.1 vwCl (wX8 E a0 s0 z.2) H) e9 hP) hS dX8_item_41
    · have hf := ite_f c_16 hf
      refine lv_bipush (v := (-11)) hx hb dX8_item_19 (by decide) ?_
      have e9 := Option.some.inj hf
      exact rt_i hx hb hr hlocks (fst_e e9) (rtP (P := fun z => va_P E.1 vwCl (wX8 E a0 s0 z.2) H) e9 hP) hS dX8_item_21
  · have hf := ite_t c_5 hf
    refine lv_iconst (v := (-1)) hx hb dX8_item_8 (by decide) ?_
    have e9 := Option.some.inj hf
    exact rt_i hx hb hr hlocks (fst_e e9) (rtP (P := fun z => va_P E.1 vwCl (wX8 E a0 s0 z.2) H) e9 hP) hS dX8_item_9
abbrev rm_X8_read : Room := { frames := 2, cells := 0, slots := 0, locals := 44 }
theorem m_X8_read_0e2524 : Cond.constantLong RX8 391 (-9223372036854775808) ∈ wsX8_read := by decide +kernel
theorem m_X8_read_0b4136 : Cond.fieldLink RX8 202 "PickedMatchModel" "sort" "[I" ∈ wsX8_read := by decide +kernel
theorem i_X8_read_X8 : ∀ w ∈ wsX80, w ∈ wsX8_read := fun _ h => List.mem_cons_of_mem _ (List.mem_append_right _ h)
theorem m_X8_read_834687 : Cond.fieldLink RX8 205 "PickedMatchModel" "length" "[I" ∈ wsX8_read := by decide +kernel
theorem m_X8_read_e1292b : Cond.fieldLink RX8 208 "PickedMatchModel" "item" "[J" ∈ wsX8_read := by decide +kernel
set_option maxHeartbeats 8000000 in
set_option maxRecDepth 100000 in
theorem k_X8_read (l : Launch) (E : Ev) (a0 : Nat → Nat) (N : Nat) (s0 : St) (t0 : Nat → Nat → Int64) (p1 : Int32) (p2 : Int32) (q : (Int64)) (hf : f_X8_read N s0 t0 p1 p2 = some q) : Cl l yX8_read wsX8_read rm_X8_read E [.ref (a0 0), .int p1, .int p2] (wX8 E a0 s0 t0) (wX8 E a0 s0 t0) q := by
  unfold f_X8_read at hf
  intro sz
  refine Met.ofW (cc := cX8_read) (maxL := 3) (ret := (some .long)) (by decide) rfl ?_
  intro p e s m args below meth c s₁ B hml hv
  obtain ⟨rfl, hsz, hP, hK, hD0, hG, hA, hAB⟩ := start hv
  have hx := B.exec
  have hb := B.bytes
  have hr := B.returns
  have hts := atoms_spec (ws := wsX8_read) B.pre
  have hown : s.vm.findClass RX8 = some m.cls := findClass_of_methodNamed B.named
  have hlocks := B.notSynchronized
  subst hsz
  generalize va_A (wX8 E a0 s0 t0) s.heap.size = A0 at hD0 hA hAB ⊢
  have hDD : ∀ (s0 : St) (t0 : Nat → Nat → Int64), va_D A0 (wX8 E a0 s0 t0) := fun s0 t0 => vD_addr hD0 rfl
  have hS : va_S A0 s.heap s.heap [] := va_S.rf
  have hl := lv_entry ([.ref (a0 0), .int p1, .int p2]) (n := 3) (Nat.le_of_ble_eq_true rfl)
  rw [lg_entry_eq]
  generalize (lg_sl ([.ref (a0 0), .int p1, .int p2]) ++ List.replicate (3 - (lg_sl ([.ref (a0 0), .int p1, .int p2])).length) Slot.unset).toArray = ls at hl ⊢
  have hl : lv_has ls 3 [(0, .ref (a0 0)), (1, .int p1), (2, .int p2)] := hl
  refine lv_aload_n hx hb dX8_read_0 rfl (lv_at hl 0 rfl) ?_
  refine lv_iload_n hx hb dX8_read_1 rfl (lv_at hl 1 rfl) ?_
  obtain ⟨q2, hc_2, hf⟩ := cl_e hf
  refine fin_i (E := E) (wc := wX8 E a0 s0 t0) (wc' := wX8 E a0 s0 t0) (va_runV (As := [.int p1]) (rest := []) ⟨hx, hb, hml, hown, hts⟩ (k_X8_isTape l E a0 N s0 t0 p1 q2 hc_2 _) (cwV 1 hts gX8_read_X8_isTape rfl rfl rfl (by decide +kernel) ⟨(Nat.le_of_ble_eq_true rfl), (Nat.le_of_ble_eq_true rfl)⟩) (pre_v (ci := 8) (q0 := 0) hK hP (hDD s0 t0) hS hG hAB rfl rfl) rfl rfl hl.1 rfl (lv_room (Nat.le_of_ble_eq_true rfl)) dX8_read_2 ⟨Nat.zero_le _, Nat.zero_le _⟩) hS (w_free (hDD s0 t0) hS hA (fun _ h => h)) (fun H locs hP1 hk hS => ?_)
  have hP := hP1
  refine lv_if_eq (tgt := 34) hx hb dX8_read_5 (by decide) (fun c_5 => ?_) (fun c_5 => ?_)
  · have hf := ite_t c_5 hf
    refine lv_ldc2 (v := (-9223372036854775808)) hx hb hown (hts _ m_X8_read_0e2524) dX8_read_34 ?_
    refine lv_goto (tgt := 51) hx hb dX8_read_37 (by decide) ?_
    have e9 := Option.some.inj hf
    exact rt_l hx hb hr hlocks e9 hP hS dX8_read_51
  · have hf := ite_f c_5 hf
    refine lv_aload_n hx hb dX8_read_8 rfl (lv_at hl 0 rfl) ?_
    refine va_get (ci := 8) (C := RX8) (T := TX8) (N := 67) (v := .ref (a0 39)) hx hb hts i_X8_read_X8 hown hK hP 0 rfl rfl 63 (by decide) (hts _ m_X8_read_0b4136) (fun _ h9 => h9) rfl dX8_read_9 ?_
    refine lv_iload_n hx hb dX8_read_12 rfl (lv_at hl 1 rfl) ?_
    obtain ⟨h_13, hf⟩ := ck_e hf
    refine va_iald (cA := E.2.1) (n := 6) (f := s0 63) hx hb hK hP 39 0 rfl rfl h_13 dX8_read_13 ?_
    refine lv_if_lt (tgt := 34) hx hb dX8_read_14 (by decide) (fun c_14 => ?_) (fun c_14 => ?_)
    · have hf := ite_t c_14 hf
      refine lv_ldc2 (v := (-9223372036854775808)) hx hb hown (hts _ m_X8_read_0e2524) dX8_read_34 ?_
      refine lv_goto (tgt := 51) hx hb dX8_read_37 (by decide) ?_
      have e9 := Option.some.inj hf
      exact rt_l hx hb hr hlocks e9 hP hS dX8_read_51
    · have hf := ite_f c_14 hf
      refine lv_aload_n hx hb dX8_read_17 rfl (lv_at hl 0 rfl) ?_
      refine lv_iload_n hx hb dX8_read_18 rfl (lv_at hl 2 rfl) ?_
      refine lv_iconst (v := 0) hx hb dX8_read_19 (by decide) ?_
      refine lv_aload_n hx hb dX8_read_20 rfl (lv_at hl 0 rfl) ?_
      refine va_get (ci := 8) (C := RX8) (T := TX8) (N := 67) (v := .ref (a0 40)) hx hb hts i_X8_read_X8 hown hK hP 0 rfl rfl 64 (by decide) (hts _ m_X8_read_834687) (fun _ h9 => h9) rfl dX8_read_21 ?_
      refine lv_iload_n hx hb dX8_read_24 rfl (lv_at hl 1 rfl) ?_
      obtain ⟨h_25, hf⟩ := ck_e hf
      refine va_iald (cA := E.2.1) (n := 6) (f := s0 64) hx hb hK hP 40 0 rfl rfl h_25 dX8_read_25 ?_
      refine lv_iconst (v := 1) hx hb dX8_read_26 (by decide) ?_
      refine lv_isub hx hb dX8_read_27 ?_
      obtain ⟨q28, hc_28, hf⟩ := cl_e hf
      refine fin_i (E := E) (wc := wX8 E a0 s0 t0) (wc' := wX8 E a0 s0 t0) (va_runV (As := [.int p2, .int 0, .int ((s0 64 p1.toNatClampNeg) - 1)]) (rest := []) ⟨hx, hb, hml, hown, hts⟩ (k_X8_in l E a0 N s0 t0 p2 0 ((s0 64 p1.toNatClampNeg) - 1) q28 hc_28 _) (cwV 3 hts gX8_read_X8_in rfl rfl rfl (by decide +kernel) ⟨(Nat.le_of_ble_eq_true rfl), (Nat.le_of_ble_eq_true rfl)⟩) (pre_v (ci := 8) (q0 := 0) hK hP (hDD s0 t0) hS hG hAB rfl rfl) rfl rfl hl.1 rfl (lv_room (Nat.le_of_ble_eq_true rfl)) dX8_read_28 ⟨Nat.zero_le _, Nat.zero_le _⟩) hS (w_free (hDD s0 t0) hS hA (fun _ h => h)) (fun H locs hP1 hk hS => ?_)
      have hP := hP1
      refine lv_if_ne (tgt := 40) hx hb dX8_read_31 (by decide) (fun c_31 => ?_) (fun c_31 => ?_)
      · have hf := ite_f c_31 hf
        refine lv_aload_n hx hb dX8_read_40 rfl (lv_at hl 0 rfl) ?_
        refine va_get (ci := 8) (C := RX8) (T := TX8) (N := 67) (v := .ref (a0 41)) hx hb hts i_X8_read_X8 hown hK hP 0 rfl rfl 65 (by decide) (hts _ m_X8_read_e1292b) (fun _ h9 => h9) rfl dX8_read_41 ?_
        refine lv_bipush (v := 60) hx hb dX8_read_44 (by decide) ?_
        refine lv_iload_n hx hb dX8_read_46 rfl (lv_at hl 1 rfl) ?_
        refine lv_imul hx hb dX8_read_47 ?_
        refine lv_iload_n hx hb dX8_read_48 rfl (lv_at hl 2 rfl) ?_
        refine lv_iadd hx hb dX8_read_49 ?_
        obtain ⟨h_50, hf⟩ := ck_e hf
        refine va_lald (cA := E.2.2.1) (n := 360) (f := t0 65) hx hb hK hP 41 1 rfl rfl h_50 dX8_read_50 ?_
        have e9 := Option.some.inj hf
        exact rt_l hx hb hr hlocks e9 hP hS dX8_read_51
      · have hf := ite_t c_31 hf
        refine lv_ldc2 (v := (-9223372036854775808)) hx hb hown (hts _ m_X8_read_0e2524) dX8_read_34 ?_
        refine lv_goto (tgt := 51) hx hb dX8_read_37 (by decide) ?_
        have e9 := Option.some.inj hf
        exact rt_l hx hb hr hlocks e9 hP hS dX8_read_51
abbrev rm_X8_shift : Room := { frames := 2, cells := 0, slots := 0, locals := 44 }
theorem m_X8_shift_e1292b : Cond.fieldLink RX8 208 "PickedMatchModel" "item" "[J" ∈ wsX8_shift := by decide +kernel
theorem i_X8_shift_X8 : ∀ w ∈ wsX80, w ∈ wsX8_shift := fun _ h => List.mem_cons_of_mem _ (List.mem_append_right _ h)
theorem m_X8_shift_2fb922 : Cond.fieldLink RX8 212 "PickedMatchModel" "aside" "[J" ∈ wsX8_shift := by decide +kernel
theorem m_X8_shift_0b4136 : Cond.fieldLink RX8 202 "PickedMatchModel" "sort" "[I" ∈ wsX8_shift := by decide +kernel
theorem m_X8_shift_834687 : Cond.fieldLink RX8 205 "PickedMatchModel" "length" "[I" ∈ wsX8_shift := by decide +kernel
set_option maxHeartbeats 8000000 in
set_option maxRecDepth 100000 in
theorem k_X8_shift (l : Launch) (E : Ev) (a0 : Nat → Nat) (N : Nat) (s0 : St) (t0 : Nat → Nat → Int64) (p1 : Int32) (p2 : Int32) (p3 : Int32) (p4 : Int32) (p5 : Int32) (q : (Int32 × (Nat → Nat → Int64))) (hf : f_X8_shift N s0 t0 p1 p2 p3 p4 p5 = some q) : Ci l yX8_shift wsX8_shift rm_X8_shift E [.ref (a0 0), .int p1, .int p2, .int p3, .int p4, .int p5] (wX8 E a0 s0 t0) (wX8 E a0 s0 q.2) q.1 := by
  unfold f_X8_shift at hf
  intro sz
  refine Met.ofW (cc := cX8_shift) (maxL := 7) (ret := (some .int)) (by decide) rfl ?_
  intro p e s m args below meth c s₁ B hml hv
  obtain ⟨rfl, hsz, hP, hK, hD0, hG, hA, hAB⟩ := start hv
  have hx := B.exec
  have hb := B.bytes
  have hr := B.returns
  have hts := atoms_spec (ws := wsX8_shift) B.pre
  have hown : s.vm.findClass RX8 = some m.cls := findClass_of_methodNamed B.named
  have hlocks := B.notSynchronized
  subst hsz
  generalize va_A (wX8 E a0 s0 t0) s.heap.size = A0 at hD0 hA hAB ⊢
  have hDD : ∀ (s0 : St) (t0 : Nat → Nat → Int64), va_D A0 (wX8 E a0 s0 t0) := fun s0 t0 => vD_addr hD0 rfl
  have hS : va_S A0 s.heap s.heap [] := va_S.rf
  have hl := lv_entry ([.ref (a0 0), .int p1, .int p2, .int p3, .int p4, .int p5]) (n := 7) (Nat.le_of_ble_eq_true rfl)
  rw [lg_entry_eq]
  generalize (lg_sl ([.ref (a0 0), .int p1, .int p2, .int p3, .int p4, .int p5]) ++ List.replicate (7 - (lg_sl ([.ref (a0 0), .int p1, .int p2, .int p3, .int p4, .int p5])).length) Slot.unset).toArray = ls at hl ⊢
  have hl : lv_has ls 7 [(0, .ref (a0 0)), (1, .int p1), (2, .int p2), (3, .int p3), (4, .int p4), (5, .int p5)] := hl
  have hL_141 : ∀ (s0 : St) (v3 : Int32) (v4 : Int32) (v5 : Int32) (n_141 : Nat) (t0 : Nat → Nat → Int64) (v6 : Int32), l_X8_shift_141 N s0 v3 v4 v5 n_141 t0 v6 = some q → ∀ (H : Heap) (locs : List Loc) (ls : Array Slot), va_P E.1 vwCl (wX8 E a0 s0 t0) H → va_S A0 s.heap H locs → lv_has ls 7 [(0, .ref (a0 0)), (3, .int v3), (4, .int v4), (5, .int v5), (6, .int v6)] → W p l e rm_X8_shift s m ([.ref (a0 0), .int p1, .int p2, .int p3, .int p4, .int p5] : List Value).toArray below meth c H locs 0 0 (MQ below (va_Qi (fun (r' : Int32) (_ : Unit) => r' = q.1) (fun _ t => va_P E.1 vwCl (wX8 E a0 s0 q.2) t.heap) A0) ([.ref (a0 0), .int p1, .int p2, .int p3, .int p4, .int p5] : List Value).toArray s 0 0 A0) (F0 m 141 ls []) := by
    intro s0 v3 v4 v5 n_141
    induction n_141 with
    | zero => intro t0 v6 hf; rw [l_X8_shift_141] at hf; cases hf
    | succ n_141 ih_141 =>
      intro t0 v6 hf H locs ls hP hS hl
      rw [l_X8_shift_141] at hf
      refine lv_iload hx hb dX8_shift_141 (lv_at hl 4 rfl) ?_
      refine lv_iload hx hb dX8_shift_143 (lv_at hl 3 rfl) ?_
      refine lv_icmp_ge (tgt := 176) hx hb dX8_shift_145 (by decide) (fun c_145 => ?_) (fun c_145 => ?_)
      · have hf := ite_t c_145 hf
        refine lv_iload hx hb dX8_shift_176 (lv_at hl 3 rfl) ?_
        have e9 := Option.some.inj hf
        exact rt_i hx hb hr hlocks (fst_e e9) (rtP (P := fun z => va_P E.1 vwCl (wX8 E a0 s0 z.2) H) e9 hP) hS dX8_shift_178
      · have hf := ite_f c_145 hf
        refine lv_aload_n hx hb dX8_shift_148 rfl (lv_at hl 0 rfl) ?_
        refine va_get (ci := 8) (C := RX8) (T := TX8) (N := 67) (v := .ref (a0 41)) hx hb hts i_X8_shift_X8 hown hK hP 0 rfl rfl 65 (by decide) (hts _ m_X8_shift_e1292b) (fun _ h9 => h9) rfl dX8_shift_149 ?_
        refine lv_bipush (v := 60) hx hb dX8_shift_152 (by decide) ?_
        refine lv_iload_n hx hb dX8_shift_154 rfl (lv_at hl 1 rfl) ?_
        refine lv_imul hx hb dX8_shift_155 ?_
        refine lv_iload hx hb dX8_shift_156 (lv_at hl 2 rfl) ?_
        refine lv_iadd hx hb dX8_shift_158 ?_
        refine lv_iload hx hb dX8_shift_159 (lv_at hl 4 rfl) ?_
        refine lv_iadd hx hb dX8_shift_161 ?_
        refine lv_aload_n hx hb dX8_shift_162 rfl (lv_at hl 0 rfl) ?_
        refine va_get (ci := 8) (C := RX8) (T := TX8) (N := 67) (v := .ref (a0 42)) hx hb hts i_X8_shift_X8 hown hK hP 0 rfl rfl 66 (by decide) (hts _ m_X8_shift_2fb922) (fun _ h9 => h9) rfl dX8_shift_163 ?_
        refine lv_iload hx hb dX8_shift_166 (lv_at hl 4 rfl) ?_
        obtain ⟨h_168, hf⟩ := ck_e hf
        refine va_lald (cA := E.2.2.1) (n := 60) (f := t0 66) hx hb hK hP 42 1 rfl rfl h_168 dX8_shift_168 ?_
        obtain ⟨h_169, hf⟩ := ck_e hf
        refine va_last (cA := E.2.2.1) (n := 360) (f := t0 65) (x := t0 66 v6.toNatClampNeg) hx hb hK hP (hDD s0 t0) hS 41 1 rfl rfl h_169 dX8_shift_169 (fun H locs hP _ hS => ?_)
        obtain ⟨t0_169, hP, hf⟩ := nm_st' (P := fun z => va_P E.1 vwCl (wX8 E a0 s0 z) H) hf hP
        obtain ⟨x170, e_x170⟩ : ∃ y : Int32, y = v6 + 1 := ⟨_, rfl⟩
        have hf := nm_q e_x170 hf
        refine lv_iinc (v := x170) (lv' := [(6, .int x170), (0, .ref (a0 0)), (3, .int v3), (4, .int v4), (5, .int v5)]) hx hb dX8_shift_170 hl (k := 4) rfl (by rw [e_x170]; rfl) (Nat.le_of_ble_eq_true rfl) rfl (fun ls hl => ?_)
        refine lv_goto (tgt := 141) hx hb dX8_shift_173 (by decide) ?_
        exact ih_141 t0_169 x170 hf _ _ _ hP hS (lv_sub hl [1, 2, 3, 4, 0] rfl)
  have hL_104 : ∀ (s0 : St) (v1 : Int32) (v2 : Int32) (v3 : Int32) (v4 : Int32) (v5 : Int32) (n_104 : Nat) (t0 : Nat → Nat → Int64) (v6 : Int32), l_X8_shift_104 N s0 v1 v2 v3 v4 v5 n_104 t0 v6 = some q → ∀ (H : Heap) (locs : List Loc) (ls : Array Slot), va_P E.1 vwCl (wX8 E a0 s0 t0) H → va_S A0 s.heap H locs → lv_has ls 7 [(0, .ref (a0 0)), (1, .int v1), (2, .int v2), (3, .int v3), (4, .int v4), (5, .int v5), (6, .int v6)] → W p l e rm_X8_shift s m ([.ref (a0 0), .int p1, .int p2, .int p3, .int p4, .int p5] : List Value).toArray below meth c H locs 0 0 (MQ below (va_Qi (fun (r' : Int32) (_ : Unit) => r' = q.1) (fun _ t => va_P E.1 vwCl (wX8 E a0 s0 q.2) t.heap) A0) ([.ref (a0 0), .int p1, .int p2, .int p3, .int p4, .int p5] : List Value).toArray s 0 0 A0) (F0 m 104 ls []) := by
    intro s0 v1 v2 v3 v4 v5 n_104
    induction n_104 with
    | zero => intro t0 v6 hf; rw [l_X8_shift_104] at hf; cases hf
    | succ n_104 ih_104 =>
      intro t0 v6 hf H locs ls hP hS hl
      rw [l_X8_shift_104] at hf
      refine lv_iload hx hb dX8_shift_104 (lv_at hl 6 rfl) ?_
      refine lv_iload hx hb dX8_shift_106 (lv_at hl 5 rfl) ?_
      refine lv_icmp_ge (tgt := 138) hx hb dX8_shift_108 (by decide) (fun c_108 => ?_) (fun c_108 => ?_)
      · have hf := ite_t c_108 hf
        refine lv_iconst (v := 0) hx hb dX8_shift_138 (by decide) ?_
        refine lv_istore (lv' := [(6, .int 0), (0, .ref (a0 0)), (1, .int v1), (2, .int v2), (3, .int v3), (4, .int v4), (5, .int v5)]) hx hb dX8_shift_139 hl (Nat.le_of_ble_eq_true rfl) rfl (fun ls hl => ?_)
        exact hL_141 s0 v3 v4 v5 N t0 0 hf _ _ _ hP hS (lv_sub hl [1, 4, 5, 6, 0] rfl)
      · have hf := ite_f c_108 hf
        refine lv_aload_n hx hb dX8_shift_111 rfl (lv_at hl 0 rfl) ?_
        refine va_get (ci := 8) (C := RX8) (T := TX8) (N := 67) (v := .ref (a0 42)) hx hb hts i_X8_shift_X8 hown hK hP 0 rfl rfl 66 (by decide) (hts _ m_X8_shift_2fb922) (fun _ h9 => h9) rfl dX8_shift_112 ?_
        refine lv_iload hx hb dX8_shift_115 (lv_at hl 6 rfl) ?_
        refine lv_aload_n hx hb dX8_shift_117 rfl (lv_at hl 0 rfl) ?_
        refine va_get (ci := 8) (C := RX8) (T := TX8) (N := 67) (v := .ref (a0 41)) hx hb hts i_X8_shift_X8 hown hK hP 0 rfl rfl 65 (by decide) (hts _ m_X8_shift_e1292b) (fun _ h9 => h9) rfl dX8_shift_118 ?_
        refine lv_bipush (v := 60) hx hb dX8_shift_121 (by decide) ?_
        refine lv_iload_n hx hb dX8_shift_123 rfl (lv_at hl 1 rfl) ?_
        refine lv_imul hx hb dX8_shift_124 ?_
        refine lv_iload_n hx hb dX8_shift_125 rfl (lv_at hl 2 rfl) ?_
        refine lv_iadd hx hb dX8_shift_126 ?_
        refine lv_iload hx hb dX8_shift_127 (lv_at hl 6 rfl) ?_
        refine lv_iadd hx hb dX8_shift_129 ?_
        obtain ⟨h_130, hf⟩ := ck_e hf
        refine va_lald (cA := E.2.2.1) (n := 360) (f := t0 65) hx hb hK hP 41 1 rfl rfl h_130 dX8_shift_130 ?_
        obtain ⟨h_131, hf⟩ := ck_e hf
        refine va_last (cA := E.2.2.1) (n := 60) (f := t0 66) (x := t0 65 (((60 * v1) + v2) + v6).toNatClampNeg) hx hb hK hP (hDD s0 t0) hS 42 1 rfl rfl h_131 dX8_shift_131 (fun H locs hP _ hS => ?_)
        obtain ⟨t0_131, hP, hf⟩ := nm_st' (P := fun z => va_P E.1 vwCl (wX8 E a0 s0 z) H) hf hP
        obtain ⟨x132, e_x132⟩ : ∃ y : Int32, y = v6 + 1 := ⟨_, rfl⟩
        have hf := nm_q e_x132 hf
        refine lv_iinc (v := x132) (lv' := [(6, .int x132), (0, .ref (a0 0)), (1, .int v1), (2, .int v2), (3, .int v3), (4, .int v4), (5, .int v5)]) hx hb dX8_shift_132 hl (k := 6) rfl (by rw [e_x132]; rfl) (Nat.le_of_ble_eq_true rfl) rfl (fun ls hl => ?_)
        refine lv_goto (tgt := 104) hx hb dX8_shift_135 (by decide) ?_
        exact ih_104 t0_131 x132 hf _ _ _ hP hS (lv_sub hl [1, 2, 3, 4, 5, 6, 0] rfl)
  refine lv_aload_n hx hb dX8_shift_0 rfl (lv_at hl 0 rfl) ?_
  refine lv_iload_n hx hb dX8_shift_1 rfl (lv_at hl 1 rfl) ?_
  obtain ⟨q2, hc_2, hf⟩ := cl_e hf
  refine fin_i (E := E) (wc := wX8 E a0 s0 t0) (wc' := wX8 E a0 s0 t0) (va_runV (As := [.int p1]) (rest := []) ⟨hx, hb, hml, hown, hts⟩ (k_X8_isTape l E a0 N s0 t0 p1 q2 hc_2 _) (cwV 1 hts gX8_shift_X8_isTape rfl rfl rfl (by decide +kernel) ⟨(Nat.le_of_ble_eq_true rfl), (Nat.le_of_ble_eq_true rfl)⟩) (pre_v (ci := 8) (q0 := 0) hK hP (hDD s0 t0) hS hG hAB rfl rfl) rfl rfl hl.1 rfl (lv_room (Nat.le_of_ble_eq_true rfl)) dX8_shift_2 ⟨Nat.zero_le _, Nat.zero_le _⟩) hS (w_free (hDD s0 t0) hS hA (fun _ h => h)) (fun H locs hP1 hk hS => ?_)
  have hP := hP1
  refine lv_if_eq (tgt := 16) hx hb dX8_shift_5 (by decide) (fun c_5 => ?_) (fun c_5 => ?_)
  · have hf := ite_t c_5 hf
    refine lv_iconst (v := (-1)) hx hb dX8_shift_16 (by decide) ?_
    have e9 := Option.some.inj hf
    exact rt_i hx hb hr hlocks (fst_e e9) (rtP (P := fun z => va_P E.1 vwCl (wX8 E a0 s0 z.2) H) e9 hP) hS dX8_shift_17
  · have hf := ite_f c_5 hf
    refine lv_aload_n hx hb dX8_shift_8 rfl (lv_at hl 0 rfl) ?_
    refine lv_iload_n hx hb dX8_shift_9 rfl (lv_at hl 3 rfl) ?_
    obtain ⟨q10, hc_10, hf⟩ := cl_e hf
    refine fin_i (E := E) (wc := wX8 E a0 s0 t0) (wc' := wX8 E a0 s0 t0) (va_runV (As := [.int p3]) (rest := []) ⟨hx, hb, hml, hown, hts⟩ (k_X8_isTape l E a0 N s0 t0 p3 q10 hc_10 _) (cwV 1 hts gX8_shift_X8_isTape rfl rfl rfl (by decide +kernel) ⟨(Nat.le_of_ble_eq_true rfl), (Nat.le_of_ble_eq_true rfl)⟩) (pre_v (ci := 8) (q0 := 0) hK hP (hDD s0 t0) hS hG hAB rfl rfl) rfl rfl hl.1 rfl (lv_room (Nat.le_of_ble_eq_true rfl)) dX8_shift_10 ⟨Nat.zero_le _, Nat.zero_le _⟩) hS (w_free (hDD s0 t0) hS hA (fun _ h => h)) (fun H locs hP1 hk hS => ?_)
    have hP := hP1
    refine lv_if_ne (tgt := 18) hx hb dX8_shift_13 (by decide) (fun c_13 => ?_) (fun c_13 => ?_)
    · have hf := ite_f c_13 hf
      refine lv_aload_n hx hb dX8_shift_18 rfl (lv_at hl 0 rfl) ?_
      refine va_get (ci := 8) (C := RX8) (T := TX8) (N := 67) (v := .ref (a0 39)) hx hb hts i_X8_shift_X8 hown hK hP 0 rfl rfl 63 (by decide) (hts _ m_X8_shift_0b4136) (fun _ h9 => h9) rfl dX8_shift_19 ?_
      refine lv_iload_n hx hb dX8_shift_22 rfl (lv_at hl 1 rfl) ?_
      obtain ⟨h_23, hf⟩ := ck_e hf
      refine va_iald (cA := E.2.1) (n := 6) (f := s0 63) hx hb hK hP 39 0 rfl rfl h_23 dX8_shift_23 ?_
      refine lv_if_lt (tgt := 36) hx hb dX8_shift_24 (by decide) (fun c_24 => ?_) (fun c_24 => ?_)
      · have hf := ite_t c_24 hf
        refine lv_bipush (v := (-11)) hx hb dX8_shift_36 (by decide) ?_
        have e9 := Option.some.inj hf
        exact rt_i hx hb hr hlocks (fst_e e9) (rtP (P := fun z => va_P E.1 vwCl (wX8 E a0 s0 z.2) H) e9 hP) hS dX8_shift_38
      · have hf := ite_f c_24 hf
        refine lv_aload_n hx hb dX8_shift_27 rfl (lv_at hl 0 rfl) ?_
        refine va_get (ci := 8) (C := RX8) (T := TX8) (N := 67) (v := .ref (a0 39)) hx hb hts i_X8_shift_X8 hown hK hP 0 rfl rfl 63 (by decide) (hts _ m_X8_shift_0b4136) (fun _ h9 => h9) rfl dX8_shift_28 ?_
        refine lv_iload_n hx hb dX8_shift_31 rfl (lv_at hl 3 rfl) ?_
        obtain ⟨h_32, hf⟩ := ck_e hf
        refine va_iald (cA := E.2.1) (n := 6) (f := s0 63) hx hb hK hP 39 0 rfl rfl h_32 dX8_shift_32 ?_
        refine lv_if_ge (tgt := 39) hx hb dX8_shift_33 (by decide) (fun c_33 => ?_) (fun c_33 => ?_)
        · have hf := ite_t c_33 hf
          refine lv_aload_n hx hb dX8_shift_39 rfl (lv_at hl 0 rfl) ?_
          refine va_get (ci := 8) (C := RX8) (T := TX8) (N := 67) (v := .ref (a0 39)) hx hb hts i_X8_shift_X8 hown hK hP 0 rfl rfl 63 (by decide) (hts _ m_X8_shift_0b4136) (fun _ h9 => h9) rfl dX8_shift_40 ?_
          refine lv_iload_n hx hb dX8_shift_43 rfl (lv_at hl 1 rfl) ?_
          obtain ⟨h_44, hf⟩ := ck_e hf
          refine va_iald (cA := E.2.1) (n := 6) (f := s0 63) hx hb hK hP 39 0 rfl rfl h_44 dX8_shift_44 ?_
          refine lv_aload_n hx hb dX8_shift_45 rfl (lv_at hl 0 rfl) ?_
          refine va_get (ci := 8) (C := RX8) (T := TX8) (N := 67) (v := .ref (a0 39)) hx hb hts i_X8_shift_X8 hown hK hP 0 rfl rfl 63 (by decide) (hts _ m_X8_shift_0b4136) (fun _ h9 => h9) rfl dX8_shift_46 ?_
          refine lv_iload_n hx hb dX8_shift_49 rfl (lv_at hl 3 rfl) ?_
          obtain ⟨h_50, hf⟩ := ck_e hf
          refine va_iald (cA := E.2.1) (n := 6) (f := s0 63) hx hb hK hP 39 0 rfl rfl h_50 dX8_shift_50 ?_
          refine lv_icmp_eq (tgt := 57) hx hb dX8_shift_51 (by decide) (fun c_51 => ?_) (fun c_51 => ?_)
          · have hf := ite_t c_51 hf
            refine lv_iload hx hb dX8_shift_57 (lv_at hl 5 rfl) ?_
            refine lv_if_lt (tgt := 98) hx hb dX8_shift_59 (by decide) (fun c_59 => ?_) (fun c_59 => ?_)
            · have hf := ite_t c_59 hf
              refine lv_bipush (v := (-13)) hx hb dX8_shift_98 (by decide) ?_
              have e9 := Option.some.inj hf
              exact rt_i hx hb hr hlocks (fst_e e9) (rtP (P := fun z => va_P E.1 vwCl (wX8 E a0 s0 z.2) H) e9 hP) hS dX8_shift_100
            · have hf := ite_f c_59 hf
              refine lv_iload_n hx hb dX8_shift_62 rfl (lv_at hl 2 rfl) ?_
              refine lv_if_lt (tgt := 98) hx hb dX8_shift_63 (by decide) (fun c_63 => ?_) (fun c_63 => ?_)
              · have hf := ite_t c_63 hf
                refine lv_bipush (v := (-13)) hx hb dX8_shift_98 (by decide) ?_
                have e9 := Option.some.inj hf
                exact rt_i hx hb hr hlocks (fst_e e9) (rtP (P := fun z => va_P E.1 vwCl (wX8 E a0 s0 z.2) H) e9 hP) hS dX8_shift_100
              · have hf := ite_f c_63 hf
                refine lv_iload hx hb dX8_shift_66 (lv_at hl 4 rfl) ?_
                refine lv_if_lt (tgt := 98) hx hb dX8_shift_68 (by decide) (fun c_68 => ?_) (fun c_68 => ?_)
                · have hf := ite_t c_68 hf
                  refine lv_bipush (v := (-13)) hx hb dX8_shift_98 (by decide) ?_
                  have e9 := Option.some.inj hf
                  exact rt_i hx hb hr hlocks (fst_e e9) (rtP (P := fun z => va_P E.1 vwCl (wX8 E a0 s0 z.2) H) e9 hP) hS dX8_shift_100
                · have hf := ite_f c_68 hf
                  refine lv_iload_n hx hb dX8_shift_71 rfl (lv_at hl 2 rfl) ?_
                  refine lv_aload_n hx hb dX8_shift_72 rfl (lv_at hl 0 rfl) ?_
                  refine va_get (ci := 8) (C := RX8) (T := TX8) (N := 67) (v := .ref (a0 40)) hx hb hts i_X8_shift_X8 hown hK hP 0 rfl rfl 64 (by decide) (hts _ m_X8_shift_834687) (fun _ h9 => h9) rfl dX8_shift_73 ?_
                  refine lv_iload_n hx hb dX8_shift_76 rfl (lv_at hl 1 rfl) ?_
                  obtain ⟨h_77, hf⟩ := ck_e hf
                  refine va_iald (cA := E.2.1) (n := 6) (f := s0 64) hx hb hK hP 40 0 rfl rfl h_77 dX8_shift_77 ?_
                  refine lv_iload hx hb dX8_shift_78 (lv_at hl 5 rfl) ?_
                  refine lv_isub hx hb dX8_shift_80 ?_
                  refine lv_icmp_gt (tgt := 98) hx hb dX8_shift_81 (by decide) (fun c_81 => ?_) (fun c_81 => ?_)
                  · have hf := ite_t c_81 hf
                    refine lv_bipush (v := (-13)) hx hb dX8_shift_98 (by decide) ?_
                    have e9 := Option.some.inj hf
                    exact rt_i hx hb hr hlocks (fst_e e9) (rtP (P := fun z => va_P E.1 vwCl (wX8 E a0 s0 z.2) H) e9 hP) hS dX8_shift_100
                  · have hf := ite_f c_81 hf
                    refine lv_iload hx hb dX8_shift_84 (lv_at hl 4 rfl) ?_
                    refine lv_aload_n hx hb dX8_shift_86 rfl (lv_at hl 0 rfl) ?_
                    refine va_get (ci := 8) (C := RX8) (T := TX8) (N := 67) (v := .ref (a0 40)) hx hb hts i_X8_shift_X8 hown hK hP 0 rfl rfl 64 (by decide) (hts _ m_X8_shift_834687) (fun _ h9 => h9) rfl dX8_shift_87 ?_
                    refine lv_iload_n hx hb dX8_shift_90 rfl (lv_at hl 3 rfl) ?_
                    obtain ⟨h_91, hf⟩ := ck_e hf
                    refine va_iald (cA := E.2.1) (n := 6) (f := s0 64) hx hb hK hP 40 0 rfl rfl h_91 dX8_shift_91 ?_
                    refine lv_iload hx hb dX8_shift_92 (lv_at hl 5 rfl) ?_
                    refine lv_isub hx hb dX8_shift_94 ?_
                    refine lv_icmp_le (tgt := 101) hx hb dX8_shift_95 (by decide) (fun c_95 => ?_) (fun c_95 => ?_)
                    · have hf := ite_t c_95 hf
                      refine lv_iconst (v := 0) hx hb dX8_shift_101 (by decide) ?_
                      refine lv_istore (lv' := [(6, .int 0), (0, .ref (a0 0)), (1, .int p1), (2, .int p2), (3, .int p3), (4, .int p4), (5, .int p5)]) hx hb dX8_shift_102 hl (Nat.le_of_ble_eq_true rfl) rfl (fun ls hl => ?_)
                      exact hL_104 s0 p1 p2 p3 p4 p5 N t0 0 hf _ _ _ hP hS (lv_sub hl [1, 2, 3, 4, 5, 6, 0] rfl)
                    · have hf := ite_f c_95 hf
                      refine lv_bipush (v := (-13)) hx hb dX8_shift_98 (by decide) ?_
                      have e9 := Option.some.inj hf
                      exact rt_i hx hb hr hlocks (fst_e e9) (rtP (P := fun z => va_P E.1 vwCl (wX8 E a0 s0 z.2) H) e9 hP) hS dX8_shift_100
          · have hf := ite_f c_51 hf
            refine lv_bipush (v := (-12)) hx hb dX8_shift_54 (by decide) ?_
            have e9 := Option.some.inj hf
            exact rt_i hx hb hr hlocks (fst_e e9) (rtP (P := fun z => va_P E.1 vwCl (wX8 E a0 s0 z.2) H) e9 hP) hS dX8_shift_56
        · have hf := ite_f c_33 hf
          refine lv_bipush (v := (-11)) hx hb dX8_shift_36 (by decide) ?_
          have e9 := Option.some.inj hf
          exact rt_i hx hb hr hlocks (fst_e e9) (rtP (P := fun z => va_P E.1 vwCl (wX8 E a0 s0 z.2) H) e9 hP) hS dX8_shift_38
    · have hf := ite_t c_13 hf
      refine lv_iconst (v := (-1)) hx hb dX8_shift_16 (by decide) ?_
      have e9 := Option.some.inj hf
      exact rt_i hx hb hr hlocks (fst_e e9) (rtP (P := fun z => va_P E.1 vwCl (wX8 E a0 s0 z.2) H) e9 hP) hS dX8_shift_17
abbrev rm_X4_isSo : Room := { frames := 0, cells := 0, slots := 0, locals := 0 }
set_option maxHeartbeats 8000000 in
set_option maxRecDepth 100000 in
theorem k_X4_isSo (l : Launch) (E : Ev) (a0 : Nat) (n0 : Nat) (N : Nat) (f0 : Nat → Int32) (p0 : Int32) (q : (Int32)) (hf : f_X4_isSo N n0 f0 p0 = some q) : Ci l yX4_isSo wsX4_isSo rm_X4_isSo E [.int p0, .ref a0] (wA E a0 n0 f0) (wA E a0 n0 f0) q := by
  unfold f_X4_isSo at hf
  intro sz
  refine Met.ofW (cc := cX4_isSo) (maxL := 5) (ret := (some .boolean)) (by decide) rfl ?_
  intro p e s m args below meth c s₁ B hml hv
  obtain ⟨rfl, hsz, hP, hK, hD0, hG, hA, hAB⟩ := start hv
  have hx := B.exec
  have hb := B.bytes
  have hr := B.returns
  have hts := atoms_spec (ws := wsX4_isSo) B.pre
  have hown : s.vm.findClass RX4 = some m.cls := findClass_of_methodNamed B.named
  have hlocks := B.notSynchronized
  subst hsz
  generalize va_A (wA E a0 n0 f0) s.heap.size = A0 at hD0 hA hAB ⊢
  have hDD : ∀ (f0 : Nat → Int32), va_D A0 (wA E a0 n0 f0) := fun f0 => vD_addr hD0 rfl
  have hS : va_S A0 s.heap s.heap [] := va_S.rf
  have hl := lv_entry ([.int p0, .ref a0]) (n := 5) (Nat.le_of_ble_eq_true rfl)
  rw [lg_entry_eq]
  generalize (lg_sl ([.int p0, .ref a0]) ++ List.replicate (5 - (lg_sl ([.int p0, .ref a0])).length) Slot.unset).toArray = ls at hl ⊢
  have hl : lv_has ls 5 [(0, .int p0), (1, .ref a0)] := hl
  refine lv_iload_n hx hb dX4_isSo_0 rfl (lv_at hl 0 rfl) ?_
  refine lv_sipush (v := 1000) hx hb dX4_isSo_1 (by decide) ?_
  obtain ⟨hz_4, hf⟩ := cz_e hf
  refine lv_idiv hx hb dX4_isSo_4 hz_4 ?_
  refine lv_iconst (v := 1) hx hb dX4_isSo_5 (by decide) ?_
  refine lv_isub hx hb dX4_isSo_6 ?_
  refine lv_topi (fun x7 e_x7 => ?_)
  have hf := nm_q e_x7 hf
  refine lv_istore_n (lv' := [(2, .int x7), (0, .int p0), (1, .ref a0)]) hx hb dX4_isSo_7 rfl hl (Nat.le_of_ble_eq_true rfl) rfl (fun ls hl => ?_)
  refine lv_iload_n hx hb dX4_isSo_8 rfl (lv_at hl 0 rfl) ?_
  refine lv_if_lt (tgt := 18) hx hb dX4_isSo_9 (by decide) (fun c_9 => ?_) (fun c_9 => ?_)
  · have hf := ite_t c_9 hf
    refine lv_iconst (v := 0) hx hb dX4_isSo_18 (by decide) ?_
    have e9 := Option.some.inj hf
    exact rt_z hx hb hr rfl hlocks e9 hP hS dX4_isSo_19
  · have hf := ite_f c_9 hf
    refine lv_iload_n hx hb dX4_isSo_12 rfl (lv_at hl 0 rfl) ?_
    refine lv_aload_n hx hb dX4_isSo_13 rfl (lv_at hl 2 rfl) ?_
    refine va_alen (v := nI n0) hx hb hK hP 0 0 rfl rfl rfl dX4_isSo_14 ?_
    refine lv_icmp_lt (tgt := 20) hx hb dX4_isSo_15 (by decide) (fun c_15 => ?_) (fun c_15 => ?_)
    · have hf := ite_t c_15 hf
      refine lv_aload_n hx hb dX4_isSo_20 rfl (lv_at hl 2 rfl) ?_
      refine lv_iload_n hx hb dX4_isSo_21 rfl (lv_at hl 0 rfl) ?_
      obtain ⟨h_22, hf⟩ := ck_e hf
      refine va_iald (cA := E.2.1) (n := n0) (f := f0) hx hb hK hP 0 0 rfl rfl h_22 dX4_isSo_22 ?_
      refine lv_topi (fun x23 e_x23 => ?_)
      have hf := nm_q e_x23 hf
      refine lv_istore_n (lv' := [(3, .int x23), (2, .int x7), (0, .int p0), (1, .ref a0)]) hx hb dX4_isSo_23 rfl hl (Nat.le_of_ble_eq_true rfl) rfl (fun ls hl => ?_)
      refine lv_iload_n hx hb dX4_isSo_24 rfl (lv_at hl 2 rfl) ?_
      refine lv_bipush (v := 100) hx hb dX4_isSo_25 (by decide) ?_
      obtain ⟨hz_27, hf⟩ := cz_e hf
      refine lv_irem hx hb dX4_isSo_27 hz_27 ?_
      refine lv_topi (fun x28 e_x28 => ?_)
      have hf := nm_q e_x28 hf
      refine lv_istore (lv' := [(4, .int x28), (3, .int x23), (2, .int x7), (0, .int p0), (1, .ref a0)]) hx hb dX4_isSo_28 hl (Nat.le_of_ble_eq_true rfl) rfl (fun ls hl => ?_)
      refine lv_iload_n hx hb dX4_isSo_30 rfl (lv_at hl 3 rfl) ?_
      refine lv_sipush (v := 1000) hx hb dX4_isSo_31 (by decide) ?_
      obtain ⟨hz_34, hf⟩ := cz_e hf
      refine lv_irem hx hb dX4_isSo_34 hz_34 ?_
      refine lv_bipush (v := 100) hx hb dX4_isSo_35 (by decide) ?_
      obtain ⟨hz_37, hf⟩ := cz_e hf
      refine lv_idiv hx hb dX4_isSo_37 hz_37 ?_
      by_cases c_38_0 : ((p0 - p0 / 1000 * 1000) / 100) = 0
      · have hf := ite_t c_38_0 hf
        refine lv_lookup (off := 26) (tgt := 64) hx hb dX4_isSo_38 (by decide) (by rw [c_38_0]; rfl) (by decide) ?_
        refine lv_iload_n hx hb dX4_isSo_64 rfl (lv_at hl 1 rfl) ?_
        refine lv_iload hx hb dX4_isSo_65 (lv_at hl 0 rfl) ?_
        refine lv_icmp_ge (tgt := 74) hx hb dX4_isSo_67 (by decide) (fun c_67 => ?_) (fun c_67 => ?_)
        · have hf := ite_t c_67 hf
          refine lv_iconst (v := 0) hx hb dX4_isSo_74 (by decide) ?_
          have e9 := Option.some.inj hf
          exact rt_z hx hb hr rfl hlocks e9 hP hS dX4_isSo_75
        · have hf := ite_f c_67 hf
          refine lv_iconst (v := 1) hx hb dX4_isSo_70 (by decide) ?_
          refine lv_goto (tgt := 75) hx hb dX4_isSo_71 (by decide) ?_
          have e9 := Option.some.inj hf
          exact rt_z hx hb hr rfl hlocks e9 hP hS dX4_isSo_75
      · have hf := ite_f c_38_0 hf
        by_cases c_38_1 : ((p0 - p0 / 1000 * 1000) / 100) = 1
        · have hf := ite_t c_38_1 hf
          refine lv_lookup (off := 38) (tgt := 76) hx hb dX4_isSo_38 (by decide) (by rw [lv_osw c_38_0 (by decide)]; rw [c_38_1]; rfl) (by decide) ?_
          refine lv_iload_n hx hb dX4_isSo_76 rfl (lv_at hl 1 rfl) ?_
          refine lv_iload hx hb dX4_isSo_77 (lv_at hl 0 rfl) ?_
          refine lv_icmp_ne (tgt := 86) hx hb dX4_isSo_79 (by decide) (fun c_79 => ?_) (fun c_79 => ?_)
          · have hf := ite_f c_79 hf
            refine lv_iconst (v := 0) hx hb dX4_isSo_86 (by decide) ?_
            have e9 := Option.some.inj hf
            exact rt_z hx hb hr rfl hlocks e9 hP hS dX4_isSo_87
          · have hf := ite_t c_79 hf
            refine lv_iconst (v := 1) hx hb dX4_isSo_82 (by decide) ?_
            refine lv_goto (tgt := 87) hx hb dX4_isSo_83 (by decide) ?_
            have e9 := Option.some.inj hf
            exact rt_z hx hb hr rfl hlocks e9 hP hS dX4_isSo_87
        · have hf := ite_f c_38_1 hf
          refine lv_lookup (off := 50) (tgt := 88) hx hb dX4_isSo_38 (by decide) (by rw [lv_osw c_38_0 (by decide)]; rw [lv_osw c_38_1 (by decide)]; rfl) (by decide) ?_
          refine lv_iload_n hx hb dX4_isSo_88 rfl (lv_at hl 1 rfl) ?_
          refine lv_iload hx hb dX4_isSo_89 (lv_at hl 0 rfl) ?_
          refine lv_icmp_le (tgt := 98) hx hb dX4_isSo_91 (by decide) (fun c_91 => ?_) (fun c_91 => ?_)
          · have hf := ite_t c_91 hf
            refine lv_iconst (v := 0) hx hb dX4_isSo_98 (by decide) ?_
            have e9 := Option.some.inj hf
            exact rt_z hx hb hr rfl hlocks e9 hP hS dX4_isSo_99
          · have hf := ite_f c_91 hf
            refine lv_iconst (v := 1) hx hb dX4_isSo_94 (by decide) ?_
            refine lv_goto (tgt := 99) hx hb dX4_isSo_95 (by decide) ?_
            have e9 := Option.some.inj hf
            exact rt_z hx hb hr rfl hlocks e9 hP hS dX4_isSo_99
    · have hf := ite_f c_15 hf
      refine lv_iconst (v := 0) hx hb dX4_isSo_18 (by decide) ?_
      have e9 := Option.some.inj hf
      exact rt_z hx hb hr rfl hlocks e9 hP hS dX4_isSo_19
abbrev rm_X4_sumFor : Room := { frames := 1, cells := 0, slots := 0, locals := 24 }
theorem m_X4_sumFor_8d21c9 : Cond.fieldLink RX4 16 "PickedMatch$Street" "code" "[I" ∈ wsX4_sumFor := by decide +kernel
theorem i_X4_sumFor_X4 : ∀ w ∈ wsX40, w ∈ wsX4_sumFor := fun _ h => List.mem_cons_of_mem _ (List.mem_append_right _ h)
set_option maxHeartbeats 8000000 in
set_option maxRecDepth 100000 in
theorem k_X4_sumFor (l : Launch) (E : Ev) (a0 : Nat) (n0 : Nat) (L : List SR) (N : Nat) (R0 : SR) (f0 : Nat → Int32) (q : (Int32)) (hf : f_X4_sumFor N n0 R0 f0 = some q) (hR_R0 : R0 ∈ L) : Ci l yX4_sumFor wsX4_sumFor rm_X4_sumFor E [.ref R0.1, .ref a0] ((wA E a0 n0 f0) ++ sW E.2.1 L) ((wA E a0 n0 f0) ++ sW E.2.1 L) q := by
  unfold f_X4_sumFor at hf
  intro sz
  refine Met.ofW (cc := cX4_sumFor) (maxL := 8) (ret := (some .int)) (by decide) rfl ?_
  intro p e s m args below meth c s₁ B hml hv
  obtain ⟨rfl, hsz, hP, hK, hD0, hG, hA, hAB⟩ := start hv
  have hx := B.exec
  have hb := B.bytes
  have hr := B.returns
  have hts := atoms_spec (ws := wsX4_sumFor) B.pre
  have hown : s.vm.findClass RX4 = some m.cls := findClass_of_methodNamed B.named
  have hlocks := B.notSynchronized
  subst hsz
  generalize va_A ((wA E a0 n0 f0) ++ sW E.2.1 L) s.heap.size = A0 at hD0 hA hAB ⊢
  have hDD : ∀ (f0 : Nat → Int32), va_D A0 ((wA E a0 n0 f0) ++ sW E.2.1 L) := fun f0 => vD_addr hD0 rfl
  have hS : va_S A0 s.heap s.heap [] := va_S.rf
  have hl := lv_entry ([.ref R0.1, .ref a0]) (n := 8) (Nat.le_of_ble_eq_true rfl)
  rw [lg_entry_eq]
  generalize (lg_sl ([.ref R0.1, .ref a0]) ++ List.replicate (8 - (lg_sl ([.ref R0.1, .ref a0])).length) Slot.unset).toArray = ls at hl ⊢
  have hl : lv_has ls 8 [(0, .ref R0.1), (1, .ref a0)] := hl
  have hL_7 : ∀ (f0 : Nat → Int32) (n_7 : Nat) (v2 : Int32) (v3 : Int32) (v4 : Int32), l_X4_sumFor_7 N n0 R0 f0 n_7 v2 v3 v4 = some q → ∀ (H : Heap) (locs : List Loc) (ls : Array Slot), va_P E.1 vwCl ((wA E a0 n0 f0) ++ sW E.2.1 L) H → va_S A0 s.heap H locs → lv_has ls 8 [(0, .ref R0.1), (1, .ref a0), (2, .int v2), (3, .int v3), (4, .int v4)] → W p l e rm_X4_sumFor s m ([.ref R0.1, .ref a0] : List Value).toArray below meth c H locs 0 0 (MQ below (va_Qi (fun (r' : Int32) (_ : Unit) => r' = q) (fun _ t => va_P E.1 vwCl ((wA E a0 n0 f0) ++ sW E.2.1 L) t.heap) A0) ([.ref R0.1, .ref a0] : List Value).toArray s 0 0 A0) (F0 m 7 ls []) := by
    intro f0 n_7
    induction n_7 with
    | zero => intro v2 v3 v4 hf; rw [l_X4_sumFor_7] at hf; cases hf
    | succ n_7 ih_7 =>
      intro v2 v3 v4 hf H locs ls hP hS hl
      rw [l_X4_sumFor_7] at hf
      refine lv_iload hx hb dX4_sumFor_7 (lv_at hl 4 rfl) ?_
      refine lv_aload_n hx hb dX4_sumFor_9 rfl (lv_at hl 0 rfl) ?_
      obtain ⟨p_10, hs1_10, hs2_10⟩ := sW_get (cI := E.2.1) hR_R0
      have hs1_10 := suf_at (w := wA E a0 n0 f0) 1 rfl hs1_10
      have hs2_10 := suf_at (w := wA E a0 n0 f0) 1 rfl hs2_10
      refine va_get (ci := 4) (C := RX4) (T := TX4) (N := 3) (v := .ref R0.2.1) hx hb hts i_X4_sumFor_X4 hown hK hP _ hs1_10 rfl 0 (by decide) (hts _ m_X4_sumFor_8d21c9) (fun _ h9 => h9) rfl dX4_sumFor_10 ?_
      obtain ⟨p_13, hs1_13, hs2_13⟩ := sW_get (cI := E.2.1) hR_R0
      have hs1_13 := suf_at (w := wA E a0 n0 f0) 1 rfl hs1_13
      have hs2_13 := suf_at (w := wA E a0 n0 f0) 1 rfl hs2_13
      refine va_alen (v := nI R0.2.2.1) hx hb hK hP _ 0 hs2_13 rfl rfl dX4_sumFor_13 ?_
      refine lv_icmp_ge (tgt := 167) hx hb dX4_sumFor_14 (by decide) (fun c_14 => ?_) (fun c_14 => ?_)
      · have hf := ite_t c_14 hf
        refine lv_iload_n hx hb dX4_sumFor_167 rfl (lv_at hl 2 rfl) ?_
        have e9 := Option.some.inj hf
        exact rt_i hx hb hr hlocks e9 hP hS dX4_sumFor_168
      · have hf := ite_f c_14 hf
        refine lv_aload_n hx hb dX4_sumFor_17 rfl (lv_at hl 0 rfl) ?_
        obtain ⟨p_18, hs1_18, hs2_18⟩ := sW_get (cI := E.2.1) hR_R0
        have hs1_18 := suf_at (w := wA E a0 n0 f0) 1 rfl hs1_18
        have hs2_18 := suf_at (w := wA E a0 n0 f0) 1 rfl hs2_18
        refine va_get (ci := 4) (C := RX4) (T := TX4) (N := 3) (v := .ref R0.2.1) hx hb hts i_X4_sumFor_X4 hown hK hP _ hs1_18 rfl 0 (by decide) (hts _ m_X4_sumFor_8d21c9) (fun _ h9 => h9) rfl dX4_sumFor_18 ?_
        refine lv_iload hx hb dX4_sumFor_21 (lv_at hl 4 rfl) ?_
        obtain ⟨h_23, hf⟩ := ck_e hf
        obtain ⟨p_23, hs1_23, hs2_23⟩ := sW_get (cI := E.2.1) hR_R0
        have hs1_23 := suf_at (w := wA E a0 n0 f0) 1 rfl hs1_23
        have hs2_23 := suf_at (w := wA E a0 n0 f0) 1 rfl hs2_23
        refine va_iald (cA := E.2.1) (n := R0.2.2.1) (f := R0.2.2.2.1) hx hb hK hP _ 0 hs2_23 rfl h_23 dX4_sumFor_23 ?_
        refine lv_topi (fun x24 e_x24 => ?_)
        have hf := nm_q e_x24 hf
        refine lv_istore (lv' := [(5, .int x24), (0, .ref R0.1), (1, .ref a0), (2, .int v2), (3, .int v3), (4, .int v4)]) hx hb dX4_sumFor_24 hl (Nat.le_of_ble_eq_true rfl) rfl (fun ls hl => ?_)
        refine lv_iload_n hx hb dX4_sumFor_26 rfl (lv_at hl 4 rfl) ?_
        refine lv_iconst (v := 1) hx hb dX4_sumFor_27 (by decide) ?_
        refine lv_iand hx hb dX4_sumFor_28 ?_
        refine lv_topi (fun x29 e_x29 => ?_)
        have hf := nm_q e_x29 hf
        refine lv_istore (lv' := [(6, .int x29), (5, .int x24), (0, .ref R0.1), (1, .ref a0), (2, .int v2), (3, .int v3), (4, .int v4)]) hx hb dX4_sumFor_29 hl (Nat.le_of_ble_eq_true rfl) rfl (fun ls hl => ?_)
        refine lv_iload_n hx hb dX4_sumFor_31 rfl (lv_at hl 5 rfl) ?_
        refine lv_iconst (v := 1) hx hb dX4_sumFor_32 (by decide) ?_
        refine lv_iushr (v := (v3.toUInt32 >>> ((1 : Int32).toUInt32 &&& Int32.toUInt32 31)).toInt32) hx hb dX4_sumFor_33 rfl ?_
        refine lv_topi (fun x34 e_x34 => ?_)
        have hf := nm_q e_x34 hf
        refine lv_istore (lv' := [(7, .int x34), (6, .int x29), (5, .int x24), (0, .ref R0.1), (1, .ref a0), (2, .int v2), (3, .int v3), (4, .int v4)]) hx hb dX4_sumFor_34 hl (Nat.le_of_ble_eq_true rfl) rfl (fun ls hl => ?_)
        refine lv_iload hx hb dX4_sumFor_36 (lv_at hl 2 rfl) ?_
        refine lv_sipush (v := 1000) hx hb dX4_sumFor_38 (by decide) ?_
        refine lv_icmp_lt (tgt := 66) hx hb dX4_sumFor_41 (by decide) (fun c_41 => ?_) (fun c_41 => ?_)
        · have hf := ite_t c_41 hf
          refine lv_iload hx hb dX4_sumFor_66 (lv_at hl 2 rfl) ?_
          refine lv_sipush (v := 200) hx hb dX4_sumFor_68 (by decide) ?_
          refine lv_icmp_lt (tgt := 92) hx hb dX4_sumFor_71 (by decide) (fun c_71 => ?_) (fun c_71 => ?_)
          · have hf := ite_t c_71 hf
            refine lv_iload hx hb dX4_sumFor_92 (lv_at hl 2 rfl) ?_
            refine lv_bipush (v := 100) hx hb dX4_sumFor_94 (by decide) ?_
            refine lv_icmp_lt (tgt := 116) hx hb dX4_sumFor_96 (by decide) (fun c_96 => ?_) (fun c_96 => ?_)
            · have hf := ite_t c_96 hf
              refine lv_iload hx hb dX4_sumFor_116 (lv_at hl 2 rfl) ?_
              refine lv_iconst (v := 1) hx hb dX4_sumFor_118 (by decide) ?_
              refine lv_icmp_ne (tgt := 129) hx hb dX4_sumFor_119 (by decide) (fun c_119 => ?_) (fun c_119 => ?_)
              · have hf := ite_f c_119 hf
                refine lv_iload hx hb dX4_sumFor_129 (lv_at hl 2 rfl) ?_
                refine lv_iconst (v := 2) hx hb dX4_sumFor_131 (by decide) ?_
                refine lv_icmp_ne (tgt := 155) hx hb dX4_sumFor_132 (by decide) (fun c_132 => ?_) (fun c_132 => ?_)
                · have hf := ite_f c_132 hf
                  refine lv_iload hx hb dX4_sumFor_155 (lv_at hl 0 rfl) ?_
                  refine lv_iload hx hb dX4_sumFor_157 (lv_at hl 1 rfl) ?_
                  refine lv_ior hx hb dX4_sumFor_159 ?_
                  refine lv_topi (fun x160 e_x160 => ?_)
                  have hf := nm_q e_x160 hf
                  refine lv_istore_n (lv' := [(3, .int x160), (7, .int x34), (6, .int x29), (5, .int x24), (0, .ref R0.1), (1, .ref a0), (2, .int v2), (4, .int v4)]) hx hb dX4_sumFor_160 rfl hl (Nat.le_of_ble_eq_true rfl) rfl (fun ls hl => ?_)
                  obtain ⟨x161, e_x161⟩ : ∃ y : Int32, y = v4 + 1 := ⟨_, rfl⟩
                  have hf := nm_q e_x161 hf
                  refine lv_iinc (v := x161) (lv' := [(4, .int x161), (3, .int x160), (7, .int x34), (6, .int x29), (5, .int x24), (0, .ref R0.1), (1, .ref a0), (2, .int v2)]) hx hb dX4_sumFor_161 hl (k := 7) rfl (by rw [e_x161]; rfl) (Nat.le_of_ble_eq_true rfl) rfl (fun ls hl => ?_)
                  refine lv_goto (tgt := 7) hx hb dX4_sumFor_164 (by decide) ?_
                  exact ih_7 v2 x160 x161 hf _ _ _ hP hS (lv_sub hl [5, 6, 7, 1, 0] rfl)
                · have hf := ite_t c_132 hf
                  refine lv_iload hx hb dX4_sumFor_135 (lv_at hl 1 rfl) ?_
                  refine lv_iconst (v := 1) hx hb dX4_sumFor_137 (by decide) ?_
                  refine lv_icmp_ne (tgt := 146) hx hb dX4_sumFor_138 (by decide) (fun c_138 => ?_) (fun c_138 => ?_)
                  · have hf := ite_f c_138 hf
                    refine lv_iload hx hb dX4_sumFor_146 (lv_at hl 0 rfl) ?_
                    refine lv_bipush (v := (-2)) hx hb dX4_sumFor_148 (by decide) ?_
                    refine lv_iand hx hb dX4_sumFor_150 ?_
                    refine lv_topi (fun x151 e_x151 => ?_)
                    have hf := nm_q e_x151 hf
                    refine lv_istore_n (lv' := [(3, .int x151), (7, .int x34), (6, .int x29), (5, .int x24), (0, .ref R0.1), (1, .ref a0), (2, .int v2), (4, .int v4)]) hx hb dX4_sumFor_151 rfl hl (Nat.le_of_ble_eq_true rfl) rfl (fun ls hl => ?_)
                    refine lv_goto (tgt := 161) hx hb dX4_sumFor_152 (by decide) ?_
                    obtain ⟨x161, e_x161⟩ : ∃ y : Int32, y = v4 + 1 := ⟨_, rfl⟩
                    have hf := nm_q e_x161 hf
                    refine lv_iinc (v := x161) (lv' := [(4, .int x161), (3, .int x151), (7, .int x34), (6, .int x29), (5, .int x24), (0, .ref R0.1), (1, .ref a0), (2, .int v2)]) hx hb dX4_sumFor_161 hl (k := 7) rfl (by rw [e_x161]; rfl) (Nat.le_of_ble_eq_true rfl) rfl (fun ls hl => ?_)
                    refine lv_goto (tgt := 7) hx hb dX4_sumFor_164 (by decide) ?_
                    exact ih_7 v2 x151 x161 hf _ _ _ hP hS (lv_sub hl [5, 6, 7, 1, 0] rfl)
                  · have hf := ite_t c_138 hf
                    refine lv_iload hx hb dX4_sumFor_141 (lv_at hl 0 rfl) ?_
                    refine lv_goto (tgt := 151) hx hb dX4_sumFor_143 (by decide) ?_
                    refine lv_istore_n (lv' := [(3, .int x34), (7, .int x34), (6, .int x29), (5, .int x24), (0, .ref R0.1), (1, .ref a0), (2, .int v2), (4, .int v4)]) hx hb dX4_sumFor_151 rfl hl (Nat.le_of_ble_eq_true rfl) rfl (fun ls hl => ?_)
                    refine lv_goto (tgt := 161) hx hb dX4_sumFor_152 (by decide) ?_
                    obtain ⟨x161, e_x161⟩ : ∃ y : Int32, y = v4 + 1 := ⟨_, rfl⟩
                    have hf := nm_q e_x161 hf
                    refine lv_iinc (v := x161) (lv' := [(4, .int x161), (3, .int x34), (7, .int x34), (6, .int x29), (5, .int x24), (0, .ref R0.1), (1, .ref a0), (2, .int v2)]) hx hb dX4_sumFor_161 hl (k := 7) rfl (by rw [e_x161]; rfl) (Nat.le_of_ble_eq_true rfl) rfl (fun ls hl => ?_)
                    refine lv_goto (tgt := 7) hx hb dX4_sumFor_164 (by decide) ?_
                    exact ih_7 v2 x34 x161 hf _ _ _ hP hS (lv_sub hl [5, 6, 7, 1, 0] rfl)
              · have hf := ite_t c_119 hf
                refine lv_iload_n hx hb dX4_sumFor_122 rfl (lv_at hl 6 rfl) ?_
                refine lv_iconst (v := 1) hx hb dX4_sumFor_123 (by decide) ?_
                refine lv_ixor hx hb dX4_sumFor_124 ?_
                refine lv_topi (fun x125 e_x125 => ?_)
                have hf := nm_q e_x125 hf
                refine lv_istore_n (lv' := [(3, .int x125), (7, .int x34), (6, .int x29), (5, .int x24), (0, .ref R0.1), (1, .ref a0), (2, .int v2), (4, .int v4)]) hx hb dX4_sumFor_125 rfl hl (Nat.le_of_ble_eq_true rfl) rfl (fun ls hl => ?_)
                refine lv_goto (tgt := 161) hx hb dX4_sumFor_126 (by decide) ?_
                obtain ⟨x161, e_x161⟩ : ∃ y : Int32, y = v4 + 1 := ⟨_, rfl⟩
                have hf := nm_q e_x161 hf
                refine lv_iinc (v := x161) (lv' := [(4, .int x161), (3, .int x125), (7, .int x34), (6, .int x29), (5, .int x24), (0, .ref R0.1), (1, .ref a0), (2, .int v2)]) hx hb dX4_sumFor_161 hl (k := 7) rfl (by rw [e_x161]; rfl) (Nat.le_of_ble_eq_true rfl) rfl (fun ls hl => ?_)
                refine lv_goto (tgt := 7) hx hb dX4_sumFor_164 (by decide) ?_
                exact ih_7 v2 x125 x161 hf _ _ _ hP hS (lv_sub hl [5, 6, 7, 1, 0] rfl)
            · have hf := ite_f c_96 hf
              refine lv_iload_n hx hb dX4_sumFor_99 rfl (lv_at hl 5 rfl) ?_
              refine lv_iload hx hb dX4_sumFor_100 (lv_at hl 1 rfl) ?_
              refine lv_iload hx hb dX4_sumFor_102 (lv_at hl 2 rfl) ?_
              refine lv_bipush (v := 100) hx hb dX4_sumFor_104 (by decide) ?_
              refine lv_isub hx hb dX4_sumFor_106 ?_
              refine lv_imul hx hb dX4_sumFor_107 ?_
              refine lv_iadd hx hb dX4_sumFor_108 ?_
              refine lv_topi (fun x109 e_x109 => ?_)
              have hf := nm_q e_x109 hf
              refine lv_istore_n (lv' := [(2, .int x109), (7, .int x34), (6, .int x29), (5, .int x24), (0, .ref R0.1), (1, .ref a0), (3, .int v3), (4, .int v4)]) hx hb dX4_sumFor_109 rfl hl (Nat.le_of_ble_eq_true rfl) rfl (fun ls hl => ?_)
              refine lv_iload hx hb dX4_sumFor_110 (lv_at hl 1 rfl) ?_
              refine lv_istore_n (lv' := [(3, .int x34), (2, .int x109), (7, .int x34), (6, .int x29), (5, .int x24), (0, .ref R0.1), (1, .ref a0), (4, .int v4)]) hx hb dX4_sumFor_112 rfl hl (Nat.le_of_ble_eq_true rfl) rfl (fun ls hl => ?_)
              refine lv_goto (tgt := 161) hx hb dX4_sumFor_113 (by decide) ?_
              obtain ⟨x161, e_x161⟩ : ∃ y : Int32, y = v4 + 1 := ⟨_, rfl⟩
              have hf := nm_q e_x161 hf
              refine lv_iinc (v := x161) (lv' := [(4, .int x161), (3, .int x34), (2, .int x109), (7, .int x34), (6, .int x29), (5, .int x24), (0, .ref R0.1), (1, .ref a0)]) hx hb dX4_sumFor_161 hl (k := 7) rfl (by rw [e_x161]; rfl) (Nat.le_of_ble_eq_true rfl) rfl (fun ls hl => ?_)
              refine lv_goto (tgt := 7) hx hb dX4_sumFor_164 (by decide) ?_
              exact ih_7 x109 x34 x161 hf _ _ _ hP hS (lv_sub hl [6, 7, 2, 1, 0] rfl)
          · have hf := ite_f c_71 hf
            refine lv_iload_n hx hb dX4_sumFor_74 rfl (lv_at hl 5 rfl) ?_
            refine lv_iload hx hb dX4_sumFor_75 (lv_at hl 1 rfl) ?_
            refine lv_iload hx hb dX4_sumFor_77 (lv_at hl 2 rfl) ?_
            refine lv_sipush (v := 200) hx hb dX4_sumFor_79 (by decide) ?_
            refine lv_isub hx hb dX4_sumFor_82 ?_
            refine lv_imul hx hb dX4_sumFor_83 ?_
            refine lv_isub hx hb dX4_sumFor_84 ?_
            refine lv_topi (fun x85 e_x85 => ?_)
            have hf := nm_q e_x85 hf
            refine lv_istore_n (lv' := [(2, .int x85), (7, .int x34), (6, .int x29), (5, .int x24), (0, .ref R0.1), (1, .ref a0), (3, .int v3), (4, .int v4)]) hx hb dX4_sumFor_85 rfl hl (Nat.le_of_ble_eq_true rfl) rfl (fun ls hl => ?_)
            refine lv_iload hx hb dX4_sumFor_86 (lv_at hl 1 rfl) ?_
            refine lv_istore_n (lv' := [(3, .int x34), (2, .int x85), (7, .int x34), (6, .int x29), (5, .int x24), (0, .ref R0.1), (1, .ref a0), (4, .int v4)]) hx hb dX4_sumFor_88 rfl hl (Nat.le_of_ble_eq_true rfl) rfl (fun ls hl => ?_)
            refine lv_goto (tgt := 161) hx hb dX4_sumFor_89 (by decide) ?_
            obtain ⟨x161, e_x161⟩ : ∃ y : Int32, y = v4 + 1 := ⟨_, rfl⟩
            have hf := nm_q e_x161 hf
            refine lv_iinc (v := x161) (lv' := [(4, .int x161), (3, .int x34), (2, .int x85), (7, .int x34), (6, .int x29), (5, .int x24), (0, .ref R0.1), (1, .ref a0)]) hx hb dX4_sumFor_161 hl (k := 7) rfl (by rw [e_x161]; rfl) (Nat.le_of_ble_eq_true rfl) rfl (fun ls hl => ?_)
            refine lv_goto (tgt := 7) hx hb dX4_sumFor_164 (by decide) ?_
            exact ih_7 x85 x34 x161 hf _ _ _ hP hS (lv_sub hl [6, 7, 2, 1, 0] rfl)
        · have hf := ite_f c_41 hf
          refine lv_iload_n hx hb dX4_sumFor_44 rfl (lv_at hl 6 rfl) ?_
          refine lv_iconst (v := 1) hx hb dX4_sumFor_45 (by decide) ?_
          refine lv_ishl hx hb dX4_sumFor_46 ?_
          refine lv_iload hx hb dX4_sumFor_47 (lv_at hl 2 rfl) ?_
          refine lv_aload_n hx hb dX4_sumFor_49 rfl (lv_at hl 4 rfl) ?_
          obtain ⟨q50, hc_50, hf⟩ := cl_e hf
          have hm_50 : ∀ q ∈ wA E a0 n0 f0, q ∈ (wA E a0 n0 f0) ++ sW E.2.1 L := (inl_mem (sub_mem (suf := []) [0] rfl))
          refine fin_i (E := E) (wc := wA E a0 n0 f0) (wc' := wA E a0 n0 f0) (va_runS (As := [.int x24, .ref a0]) (rest := [.int (v3 <<< (1 &&& 31))]) ⟨hx, hb, hml, hown, hts⟩ (k_X4_isSo l E a0 n0 N f0 x24 q50 hc_50 _) (va_cwS 2 hts gX4_sumFor_X4_isSo rfl rfl rfl (by decide +kernel) ⟨(Nat.le_of_ble_eq_true rfl), (Nat.le_of_ble_eq_true rfl)⟩) (pre_s hK (sub_P hm_50 hP) (sub_Dn (ws := wA E a0 n0 f0) (wc := wA E a0 n0 f0) (suf := sW E.2.1 L) [0] (by decide) rfl (hDD f0)) hS hG hAB) rfl rfl hl.1 rfl (lv_room (Nat.le_of_ble_eq_true rfl)) dX4_sumFor_50 ⟨Nat.zero_le _, Nat.zero_le _⟩) hS (w_free (hDD f0) hS hA hm_50) (fun H locs hP1 hk hS => ?_)
          have hP := w_join (ws' := wA E a0 n0 f0) (wc := wA E a0 n0 f0) (wc' := wA E a0 n0 f0) hP (hDD f0) [0] rfl [some 0] rfl rfl hk hP1
          refine lv_if_eq (tgt := 60) hx hb dX4_sumFor_53 (by decide) (fun c_53 => ?_) (fun c_53 => ?_)
          · have hf := ite_t c_53 hf
            refine lv_iconst (v := 0) hx hb dX4_sumFor_60 (by decide) ?_
            refine lv_ior hx hb dX4_sumFor_61 ?_
            refine lv_topi (fun x62 e_x62 => ?_)
            have hf := nm_q e_x62 hf
            refine lv_istore_n (lv' := [(3, .int x62), (7, .int x34), (6, .int x29), (5, .int x24), (0, .ref R0.1), (1, .ref a0), (2, .int v2), (4, .int v4)]) hx hb dX4_sumFor_62 rfl hl (Nat.le_of_ble_eq_true rfl) rfl (fun ls hl => ?_)
            refine lv_goto (tgt := 161) hx hb dX4_sumFor_63 (by decide) ?_
            obtain ⟨x161, e_x161⟩ : ∃ y : Int32, y = v4 + 1 := ⟨_, rfl⟩
            have hf := nm_q e_x161 hf
            refine lv_iinc (v := x161) (lv' := [(4, .int x161), (3, .int x62), (7, .int x34), (6, .int x29), (5, .int x24), (0, .ref R0.1), (1, .ref a0), (2, .int v2)]) hx hb dX4_sumFor_161 hl (k := 7) rfl (by rw [e_x161]; rfl) (Nat.le_of_ble_eq_true rfl) rfl (fun ls hl => ?_)
            refine lv_goto (tgt := 7) hx hb dX4_sumFor_164 (by decide) ?_
            exact ih_7 v2 x62 x161 hf _ _ _ hP hS (lv_sub hl [5, 6, 7, 1, 0] rfl)
          · have hf := ite_f c_53 hf
            refine lv_iconst (v := 1) hx hb dX4_sumFor_56 (by decide) ?_
            refine lv_goto (tgt := 61) hx hb dX4_sumFor_57 (by decide) ?_
            refine lv_ior hx hb dX4_sumFor_61 ?_
            refine lv_topi (fun x62 e_x62 => ?_)
            have hf := nm_q e_x62 hf
            refine lv_istore_n (lv' := [(3, .int x62), (7, .int x34), (6, .int x29), (5, .int x24), (0, .ref R0.1), (1, .ref a0), (2, .int v2), (4, .int v4)]) hx hb dX4_sumFor_62 rfl hl (Nat.le_of_ble_eq_true rfl) rfl (fun ls hl => ?_)
            refine lv_goto (tgt := 161) hx hb dX4_sumFor_63 (by decide) ?_
            obtain ⟨x161, e_x161⟩ : ∃ y : Int32, y = v4 + 1 := ⟨_, rfl⟩
            have hf := nm_q e_x161 hf
            refine lv_iinc (v := x161) (lv' := [(4, .int x161), (3, .int x62), (7, .int x34), (6, .int x29), (5, .int x24), (0, .ref R0.1), (1, .ref a0), (2, .int v2)]) hx hb dX4_sumFor_161 hl (k := 7) rfl (by rw [e_x161]; rfl) (Nat.le_of_ble_eq_true rfl) rfl (fun ls hl => ?_)
            refine lv_goto (tgt := 7) hx hb dX4_sumFor_164 (by decide) ?_
            exact ih_7 v2 x62 x161 hf _ _ _ hP hS (lv_sub hl [5, 6, 7, 1, 0] rfl)
  refine lv_iconst (v := 0) hx hb dX4_sumFor_0 (by decide) ?_
  refine lv_istore_n (lv' := [(2, .int 0), (0, .ref R0.1), (1, .ref a0)]) hx hb dX4_sumFor_1 rfl hl (Nat.le_of_ble_eq_true rfl) rfl (fun ls hl => ?_)
  refine lv_iconst (v := 0) hx hb dX4_sumFor_2 (by decide) ?_
  refine lv_istore_n (lv' := [(3, .int 0), (2, .int 0), (0, .ref R0.1), (1, .ref a0)]) hx hb dX4_sumFor_3 rfl hl (Nat.le_of_ble_eq_true rfl) rfl (fun ls hl => ?_)
  refine lv_iconst (v := 0) hx hb dX4_sumFor_4 (by decide) ?_
  refine lv_istore (lv' := [(4, .int 0), (3, .int 0), (2, .int 0), (0, .ref R0.1), (1, .ref a0)]) hx hb dX4_sumFor_5 hl (Nat.le_of_ble_eq_true rfl) rfl (fun ls hl => ?_)
  exact hL_7 f0 N 0 0 0 hf _ _ _ hP hS (lv_sub hl [3, 4, 2, 1, 0] rfl)
abbrev rm_X2_becomeAs : Room := { frames := 1, cells := 0, slots := 0, locals := 60 }
theorem m_X2_becomeAs_fa62b9 : Cond.fieldLink RX2 32 "PickedMatch$Scene" "things" "I" ∈ wsX2_becomeAs := by decide +kernel
theorem i_X2_becomeAs_X2 : ∀ w ∈ wsX20, w ∈ wsX2_becomeAs := fun _ h => List.mem_cons_of_mem _ (List.mem_append_right _ h)
theorem m_X2_becomeAs_e4af18 : Cond.fieldLink RX2 9 "PickedMatch$Scene" "kinds" "[I" ∈ wsX2_becomeAs := by decide +kernel
theorem m_X2_becomeAs_cb082c : Cond.methodLink RX2 36 arraycopyName ∈ wsX2_becomeAs := by decide +kernel
theorem m_X2_becomeAs_66773d : Cond.native arraycopyName ∈ wsX2_becomeAs := by decide +kernel
theorem m_X2_becomeAs_30dbde : Cond.static arraycopyName ∈ wsX2_becomeAs := by decide +kernel
theorem m_X2_becomeAs_3f8a6f : Cond.initialized "java/lang/System" ∈ wsX2_becomeAs := by decide +kernel
theorem m_X2_becomeAs_a75564 : Cond.fieldLink RX2 15 "PickedMatch$Scene" "numbers" "[I" ∈ wsX2_becomeAs := by decide +kernel
theorem m_X2_becomeAs_d527ee : Cond.fieldLink RX2 18 "PickedMatch$Scene" "marks" "[I" ∈ wsX2_becomeAs := by decide +kernel
theorem m_X2_becomeAs_e39fb3 : Cond.fieldLink RX2 21 "PickedMatch$Scene" "rows" "[I" ∈ wsX2_becomeAs := by decide +kernel
theorem m_X2_becomeAs_102288 : Cond.fieldLink RX2 24 "PickedMatch$Scene" "had" "[I" ∈ wsX2_becomeAs := by decide +kernel
theorem m_X2_becomeAs_8f234e : Cond.fieldLink RX2 42 "PickedMatch$Scene" "hadCount" "I" ∈ wsX2_becomeAs := by decide +kernel
theorem m_X2_becomeAs_8162d6 : Cond.fieldLink RX2 45 "PickedMatch$Scene" "hadBits" "I" ∈ wsX2_becomeAs := by decide +kernel
theorem m_X2_becomeAs_88869a : Cond.fieldLink RX2 48 "PickedMatch$Scene" "day" "I" ∈ wsX2_becomeAs := by decide +kernel
theorem m_X2_becomeAs_2ad546 : Cond.fieldLink RX2 51 "PickedMatch$Scene" "held" "LPickedMatch$Street;" ∈ wsX2_becomeAs := by decide +kernel
set_option maxHeartbeats 8000000 in
set_option maxRecDepth 100000 in
theorem k_X2_becomeAs (l : Launch) (E : Ev) (a0 : Nat → Nat) (a1 : Nat → Nat) (L : List SR) (N : Nat) (s0 : St) (h0 : Option SR) (s1 : St) (h1 : Option SR) (q : (St × (Option SR))) (hf : f_X2_becomeAs N s0 h0 s1 h1 = some q) : Cv l yX2_becomeAs wsX2_becomeAs rm_X2_becomeAs E [.ref (a0 0), .ref (a1 0)] ((wX2 E a0 s0 h0 ++ (wX2 E a1 s1 h1)) ++ sW E.2.1 L) ((wX2 E a0 q.1 q.2 ++ (wX2 E a1 s1 h1)) ++ sW E.2.1 L) := by
  unfold f_X2_becomeAs at hf
  intro sz
  refine Met.ofW (cc := cX2_becomeAs) (maxL := 2) (ret := none) (by decide) rfl ?_
  intro p e s m args below meth c s₁ B hml hpre
  obtain ⟨rfl, hsz, hP, hK, hD0, hG, hA, hAB⟩ := start hpre
  have hx := B.exec
  have hb := B.bytes
  have hr := B.returns
  have hts := atoms_spec (ws := wsX2_becomeAs) B.pre
  have hown : s.vm.findClass RX2 = some m.cls := findClass_of_methodNamed B.named
  have hlocks := B.notSynchronized
  subst hsz
  generalize va_A ((wX2 E a0 s0 h0 ++ (wX2 E a1 s1 h1)) ++ sW E.2.1 L) s.heap.size = A0 at hD0 hA hAB ⊢
  have hDD : ∀ (s0 : St) (h0 : Option SR) (s1 : St) (h1 : Option SR), va_D A0 ((wX2 E a0 s0 h0 ++ (wX2 E a1 s1 h1)) ++ sW E.2.1 L) := fun s0 h0 s1 h1 => vD_addr hD0 rfl
  have hS : va_S A0 s.heap s.heap [] := va_S.rf
  have hl := lv_entry ([.ref (a0 0), .ref (a1 0)]) (n := 2) (Nat.le_of_ble_eq_true rfl)
  rw [lg_entry_eq]
  generalize (lg_sl ([.ref (a0 0), .ref (a1 0)]) ++ List.replicate (2 - (lg_sl ([.ref (a0 0), .ref (a1 0)])).length) Slot.unset).toArray = ls at hl ⊢
  have hl : lv_has ls 2 [(0, .ref (a0 0)), (1, .ref (a1 0))] := hl
  refine lv_aload_n hx hb dX2_becomeAs_0 rfl (lv_at hl 0 rfl) ?_
  refine lv_aload_n hx hb dX2_becomeAs_1 rfl (lv_at hl 1 rfl) ?_
  refine va_get (ci := 2) (C := RX2) (T := TX2) (N := 11) (v := .int (s1 0 0)) hx hb hts i_X2_becomeAs_X2 hown hK hP 7 rfl rfl 0 (by decide) (hts _ m_X2_becomeAs_fa62b9) (fun _ h9 => h9) rfl dX2_becomeAs_2 ?_
  refine va_put (ci := 2) (v := .int (s1 0 0)) (ty := .int) (C := RX2) (T := TX2) (N := 11) hx hb hts i_X2_becomeAs_X2 tyX2 tyX2_ok nmX2 hown hK hP (hDD s0 h0 s1 h1) hS 0 rfl rfl 0 (by decide) (hts _ m_X2_becomeAs_fa62b9) (fun _ h9 => h9) rfl (by decide +kernel) rfl rfl (Nat.le_of_ble_eq_true rfl) dX2_becomeAs_5 (fun H locs hP _ hS => ?_)
  obtain ⟨s0_5, hP, hf⟩ := nm_st' (P := fun z => va_P E.1 vwCl ((wX2 E a0 z h0 ++ (wX2 E a1 s1 h1)) ++ sW E.2.1 L) H) hf hP
  refine lv_aload_n hx hb dX2_becomeAs_8 rfl (lv_at hl 1 rfl) ?_
  refine va_get (ci := 2) (C := RX2) (T := TX2) (N := 11) (v := .ref (a1 1)) hx hb hts i_X2_becomeAs_X2 hown hK hP 7 rfl rfl 1 (by decide) (hts _ m_X2_becomeAs_e4af18) (fun _ h9 => h9) rfl dX2_becomeAs_9 ?_
  refine lv_iconst (v := 0) hx hb dX2_becomeAs_12 (by decide) ?_
  refine lv_aload_n hx hb dX2_becomeAs_13 rfl (lv_at hl 0 rfl) ?_
  refine va_get (ci := 2) (C := RX2) (T := TX2) (N := 11) (v := .ref (a0 1)) hx hb hts i_X2_becomeAs_X2 hown hK hP 0 rfl rfl 1 (by decide) (hts _ m_X2_becomeAs_e4af18) (fun _ h9 => h9) rfl dX2_becomeAs_14 ?_
  refine lv_iconst (v := 0) hx hb dX2_becomeAs_17 (by decide) ?_
  refine lv_bipush (v := 6) hx hb dX2_becomeAs_18 (by decide) ?_
  obtain ⟨⟨k1_20, k2_20, k3_20, k4_20, k5_20⟩, hf⟩ := cpy_e hf
  refine va_copyi (f := s1 1) (g := s0_5 1) hx hb (by rw [hml]; exact hl.1.symm) hown (hts _ m_X2_becomeAs_cb082c) (hts _ m_X2_becomeAs_66773d) (hts _ m_X2_becomeAs_30dbde) (hts _ m_X2_becomeAs_3f8a6f) hK hP (hDD s0_5 h0 s1 h1) hS 8 1 0 0 rfl rfl rfl rfl rfl k1_20 k2_20 k3_20 k4_20 k5_20 (fun _ _ => rfl) (Nat.le_of_ble_eq_true rfl) (Nat.le_of_ble_eq_true rfl) dX2_becomeAs_20 (fun H locs hP _ hS => ?_)
  obtain ⟨s0_20, hP, hf⟩ := nm_st' (P := fun z => va_P E.1 vwCl ((wX2 E a0 z h0 ++ (wX2 E a1 s1 h1)) ++ sW E.2.1 L) H) hf hP
  refine lv_aload_n hx hb dX2_becomeAs_23 rfl (lv_at hl 1 rfl) ?_
  refine va_get (ci := 2) (C := RX2) (T := TX2) (N := 11) (v := .ref (a1 2)) hx hb hts i_X2_becomeAs_X2 hown hK hP 7 rfl rfl 2 (by decide) (hts _ m_X2_becomeAs_a75564) (fun _ h9 => h9) rfl dX2_becomeAs_24 ?_
  refine lv_iconst (v := 0) hx hb dX2_becomeAs_27 (by decide) ?_
  refine lv_aload_n hx hb dX2_becomeAs_28 rfl (lv_at hl 0 rfl) ?_
  refine va_get (ci := 2) (C := RX2) (T := TX2) (N := 11) (v := .ref (a0 2)) hx hb hts i_X2_becomeAs_X2 hown hK hP 0 rfl rfl 2 (by decide) (hts _ m_X2_becomeAs_a75564) (fun _ h9 => h9) rfl dX2_becomeAs_29 ?_
  refine lv_iconst (v := 0) hx hb dX2_becomeAs_32 (by decide) ?_
  refine lv_bipush (v := 6) hx hb dX2_becomeAs_33 (by decide) ?_
  obtain ⟨⟨k1_35, k2_35, k3_35, k4_35, k5_35⟩, hf⟩ := cpy_e hf
  refine va_copyi (f := s1 2) (g := s0_20 2) hx hb (by rw [hml]; exact hl.1.symm) hown (hts _ m_X2_becomeAs_cb082c) (hts _ m_X2_becomeAs_66773d) (hts _ m_X2_becomeAs_30dbde) (hts _ m_X2_becomeAs_3f8a6f) hK hP (hDD s0_20 h0 s1 h1) hS 9 2 0 0 rfl rfl rfl rfl rfl k1_35 k2_35 k3_35 k4_35 k5_35 (fun _ _ => rfl) (Nat.le_of_ble_eq_true rfl) (Nat.le_of_ble_eq_true rfl) dX2_becomeAs_35 (fun H locs hP _ hS => ?_)
  obtain ⟨s0_35, hP, hf⟩ := nm_st' (P := fun z => va_P E.1 vwCl ((wX2 E a0 z h0 ++ (wX2 E a1 s1 h1)) ++ sW E.2.1 L) H) hf hP
  refine lv_aload_n hx hb dX2_becomeAs_38 rfl (lv_at hl 1 rfl) ?_
  refine va_get (ci := 2) (C := RX2) (T := TX2) (N := 11) (v := .ref (a1 3)) hx hb hts i_X2_becomeAs_X2 hown hK hP 7 rfl rfl 3 (by decide) (hts _ m_X2_becomeAs_d527ee) (fun _ h9 => h9) rfl dX2_becomeAs_39 ?_
  refine lv_iconst (v := 0) hx hb dX2_becomeAs_42 (by decide) ?_
  refine lv_aload_n hx hb dX2_becomeAs_43 rfl (lv_at hl 0 rfl) ?_
  refine va_get (ci := 2) (C := RX2) (T := TX2) (N := 11) (v := .ref (a0 3)) hx hb hts i_X2_becomeAs_X2 hown hK hP 0 rfl rfl 3 (by decide) (hts _ m_X2_becomeAs_d527ee) (fun _ h9 => h9) rfl dX2_becomeAs_44 ?_
  refine lv_iconst (v := 0) hx hb dX2_becomeAs_47 (by decide) ?_
  refine lv_bipush (v := 6) hx hb dX2_becomeAs_48 (by decide) ?_
  obtain ⟨⟨k1_50, k2_50, k3_50, k4_50, k5_50⟩, hf⟩ := cpy_e hf
  refine va_copyi (f := s1 3) (g := s0_35 3) hx hb (by rw [hml]; exact hl.1.symm) hown (hts _ m_X2_becomeAs_cb082c) (hts _ m_X2_becomeAs_66773d) (hts _ m_X2_becomeAs_30dbde) (hts _ m_X2_becomeAs_3f8a6f) hK hP (hDD s0_35 h0 s1 h1) hS 10 3 0 0 rfl rfl rfl rfl rfl k1_50 k2_50 k3_50 k4_50 k5_50 (fun _ _ => rfl) (Nat.le_of_ble_eq_true rfl) (Nat.le_of_ble_eq_true rfl) dX2_becomeAs_50 (fun H locs hP _ hS => ?_)
  obtain ⟨s0_50, hP, hf⟩ := nm_st' (P := fun z => va_P E.1 vwCl ((wX2 E a0 z h0 ++ (wX2 E a1 s1 h1)) ++ sW E.2.1 L) H) hf hP
  refine lv_aload_n hx hb dX2_becomeAs_53 rfl (lv_at hl 1 rfl) ?_
  refine va_get (ci := 2) (C := RX2) (T := TX2) (N := 11) (v := .ref (a1 4)) hx hb hts i_X2_becomeAs_X2 hown hK hP 7 rfl rfl 4 (by decide) (hts _ m_X2_becomeAs_e39fb3) (fun _ h9 => h9) rfl dX2_becomeAs_54 ?_
  refine lv_iconst (v := 0) hx hb dX2_becomeAs_57 (by decide) ?_
  refine lv_aload_n hx hb dX2_becomeAs_58 rfl (lv_at hl 0 rfl) ?_
  refine va_get (ci := 2) (C := RX2) (T := TX2) (N := 11) (v := .ref (a0 4)) hx hb hts i_X2_becomeAs_X2 hown hK hP 0 rfl rfl 4 (by decide) (hts _ m_X2_becomeAs_e39fb3) (fun _ h9 => h9) rfl dX2_becomeAs_59 ?_
  refine lv_iconst (v := 0) hx hb dX2_becomeAs_62 (by decide) ?_
  refine lv_bipush (v := 24) hx hb dX2_becomeAs_63 (by decide) ?_
  obtain ⟨⟨k1_65, k2_65, k3_65, k4_65, k5_65⟩, hf⟩ := cpy_e hf
  refine va_copyi (f := s1 4) (g := s0_50 4) hx hb (by rw [hml]; exact hl.1.symm) hown (hts _ m_X2_becomeAs_cb082c) (hts _ m_X2_becomeAs_66773d) (hts _ m_X2_becomeAs_30dbde) (hts _ m_X2_becomeAs_3f8a6f) hK hP (hDD s0_50 h0 s1 h1) hS 11 4 0 0 rfl rfl rfl rfl rfl k1_65 k2_65 k3_65 k4_65 k5_65 (fun _ _ => rfl) (Nat.le_of_ble_eq_true rfl) (Nat.le_of_ble_eq_true rfl) dX2_becomeAs_65 (fun H locs hP _ hS => ?_)
  obtain ⟨s0_65, hP, hf⟩ := nm_st' (P := fun z => va_P E.1 vwCl ((wX2 E a0 z h0 ++ (wX2 E a1 s1 h1)) ++ sW E.2.1 L) H) hf hP
  refine lv_aload_n hx hb dX2_becomeAs_68 rfl (lv_at hl 1 rfl) ?_
  refine va_get (ci := 2) (C := RX2) (T := TX2) (N := 11) (v := .ref (a1 5)) hx hb hts i_X2_becomeAs_X2 hown hK hP 7 rfl rfl 5 (by decide) (hts _ m_X2_becomeAs_102288) (fun _ h9 => h9) rfl dX2_becomeAs_69 ?_
  refine lv_iconst (v := 0) hx hb dX2_becomeAs_72 (by decide) ?_
  refine lv_aload_n hx hb dX2_becomeAs_73 rfl (lv_at hl 0 rfl) ?_
  refine va_get (ci := 2) (C := RX2) (T := TX2) (N := 11) (v := .ref (a0 5)) hx hb hts i_X2_becomeAs_X2 hown hK hP 0 rfl rfl 5 (by decide) (hts _ m_X2_becomeAs_102288) (fun _ h9 => h9) rfl dX2_becomeAs_74 ?_
  refine lv_iconst (v := 0) hx hb dX2_becomeAs_77 (by decide) ?_
  refine lv_bipush (v := 6) hx hb dX2_becomeAs_78 (by decide) ?_
  obtain ⟨⟨k1_80, k2_80, k3_80, k4_80, k5_80⟩, hf⟩ := cpy_e hf
  refine va_copyi (f := s1 5) (g := s0_65 5) hx hb (by rw [hml]; exact hl.1.symm) hown (hts _ m_X2_becomeAs_cb082c) (hts _ m_X2_becomeAs_66773d) (hts _ m_X2_becomeAs_30dbde) (hts _ m_X2_becomeAs_3f8a6f) hK hP (hDD s0_65 h0 s1 h1) hS 12 5 0 0 rfl rfl rfl rfl rfl k1_80 k2_80 k3_80 k4_80 k5_80 (fun _ _ => rfl) (Nat.le_of_ble_eq_true rfl) (Nat.le_of_ble_eq_true rfl) dX2_becomeAs_80 (fun H locs hP _ hS => ?_)
  obtain ⟨s0_80, hP, hf⟩ := nm_st' (P := fun z => va_P E.1 vwCl ((wX2 E a0 z h0 ++ (wX2 E a1 s1 h1)) ++ sW E.2.1 L) H) hf hP
  refine lv_aload_n hx hb dX2_becomeAs_83 rfl (lv_at hl 0 rfl) ?_
  refine lv_aload_n hx hb dX2_becomeAs_84 rfl (lv_at hl 1 rfl) ?_
  refine va_get (ci := 2) (C := RX2) (T := TX2) (N := 11) (v := .int (s1 6 0)) hx hb hts i_X2_becomeAs_X2 hown hK hP 7 rfl rfl 6 (by decide) (hts _ m_X2_becomeAs_8f234e) (fun _ h9 => h9) rfl dX2_becomeAs_85 ?_
  refine va_put (ci := 2) (v := .int (s1 6 0)) (ty := .int) (C := RX2) (T := TX2) (N := 11) hx hb hts i_X2_becomeAs_X2 tyX2 tyX2_ok nmX2 hown hK hP (hDD s0_80 h0 s1 h1) hS 0 rfl rfl 6 (by decide) (hts _ m_X2_becomeAs_8f234e) (fun _ h9 => h9) rfl (by decide +kernel) rfl rfl (Nat.le_of_ble_eq_true rfl) dX2_becomeAs_88 (fun H locs hP _ hS => ?_)
  obtain ⟨s0_88, hP, hf⟩ := nm_st' (P := fun z => va_P E.1 vwCl ((wX2 E a0 z h0 ++ (wX2 E a1 s1 h1)) ++ sW E.2.1 L) H) hf hP
  refine lv_aload_n hx hb dX2_becomeAs_91 rfl (lv_at hl 0 rfl) ?_
  refine lv_aload_n hx hb dX2_becomeAs_92 rfl (lv_at hl 1 rfl) ?_
  refine va_get (ci := 2) (C := RX2) (T := TX2) (N := 11) (v := .int (s1 7 0)) hx hb hts i_X2_becomeAs_X2 hown hK hP 7 rfl rfl 7 (by decide) (hts _ m_X2_becomeAs_8162d6) (fun _ h9 => h9) rfl dX2_becomeAs_93 ?_
  refine va_put (ci := 2) (v := .int (s1 7 0)) (ty := .int) (C := RX2) (T := TX2) (N := 11) hx hb hts i_X2_becomeAs_X2 tyX2 tyX2_ok nmX2 hown hK hP (hDD s0_88 h0 s1 h1) hS 0 rfl rfl 7 (by decide) (hts _ m_X2_becomeAs_8162d6) (fun _ h9 => h9) rfl (by decide +kernel) rfl rfl (Nat.le_of_ble_eq_true rfl) dX2_becomeAs_96 (fun H locs hP _ hS => ?_)
  obtain ⟨s0_96, hP, hf⟩ := nm_st' (P := fun z => va_P E.1 vwCl ((wX2 E a0 z h0 ++ (wX2 E a1 s1 h1)) ++ sW E.2.1 L) H) hf hP
  refine lv_aload_n hx hb dX2_becomeAs_99 rfl (lv_at hl 0 rfl) ?_
  refine lv_aload_n hx hb dX2_becomeAs_100 rfl (lv_at hl 1 rfl) ?_
  refine va_get (ci := 2) (C := RX2) (T := TX2) (N := 11) (v := .int (s1 8 0)) hx hb hts i_X2_becomeAs_X2 hown hK hP 7 rfl rfl 8 (by decide) (hts _ m_X2_becomeAs_88869a) (fun _ h9 => h9) rfl dX2_becomeAs_101 ?_
  refine va_put (ci := 2) (v := .int (s1 8 0)) (ty := .int) (C := RX2) (T := TX2) (N := 11) hx hb hts i_X2_becomeAs_X2 tyX2 tyX2_ok nmX2 hown hK hP (hDD s0_96 h0 s1 h1) hS 0 rfl rfl 8 (by decide) (hts _ m_X2_becomeAs_88869a) (fun _ h9 => h9) rfl (by decide +kernel) rfl rfl (Nat.le_of_ble_eq_true rfl) dX2_becomeAs_104 (fun H locs hP _ hS => ?_)
  obtain ⟨s0_104, hP, hf⟩ := nm_st' (P := fun z => va_P E.1 vwCl ((wX2 E a0 z h0 ++ (wX2 E a1 s1 h1)) ++ sW E.2.1 L) H) hf hP
  refine lv_aload_n hx hb dX2_becomeAs_107 rfl (lv_at hl 0 rfl) ?_
  refine lv_aload_n hx hb dX2_becomeAs_108 rfl (lv_at hl 1 rfl) ?_
  refine va_get (ci := 2) (C := RX2) (T := TX2) (N := 11) (v := hv h1) hx hb hts i_X2_becomeAs_X2 hown hK hP 7 rfl rfl 9 (by decide) (hts _ m_X2_becomeAs_2ad546) (fun _ h9 => h9) rfl dX2_becomeAs_109 ?_
  refine va_put (ci := 2) (v := hv h1) (ty := (.object "PickedMatch$Street")) (C := RX2) (T := TX2) (N := 11) hx hb hts i_X2_becomeAs_X2 tyX2 tyX2_ok nmX2 hown hK hP (hDD s0_104 h0 s1 h1) hS 0 rfl rfl 9 (by decide) (hts _ m_X2_becomeAs_2ad546) (fun _ h9 => h9) rfl (by decide +kernel) (hv_nar _ _) (hv_fit _ _) (Nat.le_of_ble_eq_true rfl) dX2_becomeAs_112 (fun H locs hP _ hS => ?_)
  obtain ⟨h0_112, hP, hf⟩ := nm_st' (P := fun z => va_P E.1 vwCl ((wX2 E a0 s0_104 z ++ (wX2 E a1 s1 h1)) ++ sW E.2.1 L) H) hf hP
  have e9 := Option.some.inj hf
  exact rt_v hx hb hr hlocks (rtP (P := fun z => va_P E.1 vwCl ((wX2 E a0 z.1 z.2 ++ (wX2 E a1 s1 h1)) ++ sW E.2.1 L) H) e9 hP) hS dX2_becomeAs_115
abbrev rm_X2_hasThing : Room := { frames := 0, cells := 0, slots := 0, locals := 0 }
theorem m_X2_hasThing_fa62b9 : Cond.fieldLink RX2 32 "PickedMatch$Scene" "things" "I" ∈ wsX2_hasThing := by decide +kernel
theorem i_X2_hasThing_X2 : ∀ w ∈ wsX20, w ∈ wsX2_hasThing := fun _ h => List.mem_cons_of_mem _ (List.mem_append_right _ h)
set_option maxHeartbeats 8000000 in
set_option maxRecDepth 100000 in
theorem k_X2_hasThing (l : Launch) (E : Ev) (a0 : Nat → Nat) (L : List SR) (N : Nat) (s0 : St) (h0 : Option SR) (p1 : Int32) (q : (Int32)) (hf : f_X2_hasThing N s0 p1 = some q) : Ci l yX2_hasThing wsX2_hasThing rm_X2_hasThing E [.ref (a0 0), .int p1] ((wX2 E a0 s0 h0) ++ sW E.2.1 L) ((wX2 E a0 s0 h0) ++ sW E.2.1 L) q := by
  unfold f_X2_hasThing at hf
  intro sz
  refine Met.ofW (cc := cX2_hasThing) (maxL := 2) (ret := (some .boolean)) (by decide) rfl ?_
  intro p e s m args below meth c s₁ B hml hpre
  obtain ⟨rfl, hsz, hP, hK, hD0, hG, hA, hAB⟩ := start hpre
  have hx := B.exec
  have hb := B.bytes
  have hr := B.returns
  have hts := atoms_spec (ws := wsX2_hasThing) B.pre
  have hown : s.vm.findClass RX2 = some m.cls := findClass_of_methodNamed B.named
  have hlocks := B.notSynchronized
  subst hsz
  generalize va_A ((wX2 E a0 s0 h0) ++ sW E.2.1 L) s.heap.size = A0 at hD0 hA hAB ⊢
  have hDD : ∀ (s0 : St) (h0 : Option SR), va_D A0 ((wX2 E a0 s0 h0) ++ sW E.2.1 L) := fun s0 h0 => vD_addr hD0 rfl
  have hS : va_S A0 s.heap s.heap [] := va_S.rf
  have hl := lv_entry ([.ref (a0 0), .int p1]) (n := 2) (Nat.le_of_ble_eq_true rfl)
  rw [lg_entry_eq]
  generalize (lg_sl ([.ref (a0 0), .int p1]) ++ List.replicate (2 - (lg_sl ([.ref (a0 0), .int p1])).length) Slot.unset).toArray = ls at hl ⊢
  have hl : lv_has ls 2 [(0, .ref (a0 0)), (1, .int p1)] := hl
  refine lv_iload_n hx hb dX2_hasThing_0 rfl (lv_at hl 1 rfl) ?_
  refine lv_if_lt (tgt := 16) hx hb dX2_hasThing_1 (by decide) (fun c_1 => ?_) (fun c_1 => ?_)
  · have hf := ite_t c_1 hf
    refine lv_iconst (v := 0) hx hb dX2_hasThing_16 (by decide) ?_
    have e9 := Option.some.inj hf
    exact rt_z hx hb hr rfl hlocks e9 hP hS dX2_hasThing_17
  · have hf := ite_f c_1 hf
    refine lv_iload_n hx hb dX2_hasThing_4 rfl (lv_at hl 1 rfl) ?_
    refine lv_aload_n hx hb dX2_hasThing_5 rfl (lv_at hl 0 rfl) ?_
    refine va_get (ci := 2) (C := RX2) (T := TX2) (N := 11) (v := .int (s0 0 0)) hx hb hts i_X2_hasThing_X2 hown hK hP 0 rfl rfl 0 (by decide) (hts _ m_X2_hasThing_fa62b9) (fun _ h9 => h9) rfl dX2_hasThing_6 ?_
    refine lv_icmp_ge (tgt := 16) hx hb dX2_hasThing_9 (by decide) (fun c_9 => ?_) (fun c_9 => ?_)
    · have hf := ite_t c_9 hf
      refine lv_iconst (v := 0) hx hb dX2_hasThing_16 (by decide) ?_
      have e9 := Option.some.inj hf
      exact rt_z hx hb hr rfl hlocks e9 hP hS dX2_hasThing_17
    · have hf := ite_f c_9 hf
      refine lv_iconst (v := 1) hx hb dX2_hasThing_12 (by decide) ?_
      refine lv_goto (tgt := 17) hx hb dX2_hasThing_13 (by decide) ?_
      have e9 := Option.some.inj hf
      exact rt_z hx hb hr rfl hlocks e9 hP hS dX2_hasThing_17
abbrev rm_X2_addThing : Room := { frames := 0, cells := 0, slots := 0, locals := 0 }
theorem m_X2_addThing_fa62b9 : Cond.fieldLink RX2 32 "PickedMatch$Scene" "things" "I" ∈ wsX2_addThing := by decide +kernel
theorem i_X2_addThing_X2 : ∀ w ∈ wsX20, w ∈ wsX2_addThing := fun _ h => List.mem_cons_of_mem _ (List.mem_append_right _ h)
theorem m_X2_addThing_e4af18 : Cond.fieldLink RX2 9 "PickedMatch$Scene" "kinds" "[I" ∈ wsX2_addThing := by decide +kernel
theorem m_X2_addThing_a75564 : Cond.fieldLink RX2 15 "PickedMatch$Scene" "numbers" "[I" ∈ wsX2_addThing := by decide +kernel
theorem m_X2_addThing_d527ee : Cond.fieldLink RX2 18 "PickedMatch$Scene" "marks" "[I" ∈ wsX2_addThing := by decide +kernel
set_option maxHeartbeats 8000000 in
set_option maxRecDepth 100000 in
theorem k_X2_addThing (l : Launch) (E : Ev) (a0 : Nat → Nat) (L : List SR) (N : Nat) (s0 : St) (h0 : Option SR) (p1 : Int32) (p2 : Int32) (p3 : Int32) (q : (Int32 × St)) (hf : f_X2_addThing N s0 p1 p2 p3 = some q) : Ci l yX2_addThing wsX2_addThing rm_X2_addThing E [.ref (a0 0), .int p1, .int p2, .int p3] ((wX2 E a0 s0 h0) ++ sW E.2.1 L) ((wX2 E a0 q.2 h0) ++ sW E.2.1 L) q.1 := by
  unfold f_X2_addThing at hf
  intro sz
  refine Met.ofW (cc := cX2_addThing) (maxL := 5) (ret := (some .int)) (by decide) rfl ?_
  intro p e s m args below meth c s₁ B hml hpre
  obtain ⟨rfl, hsz, hP, hK, hD0, hG, hA, hAB⟩ := start hpre
  have hx := B.exec
  have hb := B.bytes
  have hr := B.returns
  have hts := atoms_spec (ws := wsX2_addThing) B.pre
  have hown : s.vm.findClass RX2 = some m.cls := findClass_of_methodNamed B.named
  have hlocks := B.notSynchronized
  subst hsz
  generalize va_A ((wX2 E a0 s0 h0) ++ sW E.2.1 L) s.heap.size = A0 at hD0 hA hAB ⊢
  have hDD : ∀ (s0 : St) (h0 : Option SR), va_D A0 ((wX2 E a0 s0 h0) ++ sW E.2.1 L) := fun s0 h0 => vD_addr hD0 rfl
  have hS : va_S A0 s.heap s.heap [] := va_S.rf
  have hl := lv_entry ([.ref (a0 0), .int p1, .int p2, .int p3]) (n := 5) (Nat.le_of_ble_eq_true rfl)
  rw [lg_entry_eq]
  generalize (lg_sl ([.ref (a0 0), .int p1, .int p2, .int p3]) ++ List.replicate (5 - (lg_sl ([.ref (a0 0), .int p1, .int p2, .int p3])).length) Slot.unset).toArray = ls at hl ⊢
  have hl : lv_has ls 5 [(0, .ref (a0 0)), (1, .int p1), (2, .int p2), (3, .int p3)] := hl
  refine lv_aload_n hx hb dX2_addThing_0 rfl (lv_at hl 0 rfl) ?_
  refine va_get (ci := 2) (C := RX2) (T := TX2) (N := 11) (v := .int (s0 0 0)) hx hb hts i_X2_addThing_X2 hown hK hP 0 rfl rfl 0 (by decide) (hts _ m_X2_addThing_fa62b9) (fun _ h9 => h9) rfl dX2_addThing_1 ?_
  refine lv_topi (fun x4 e_x4 => ?_)
  have hf := nm_q e_x4 hf
  refine lv_istore (lv' := [(4, .int x4), (0, .ref (a0 0)), (1, .int p1), (2, .int p2), (3, .int p3)]) hx hb dX2_addThing_4 hl (Nat.le_of_ble_eq_true rfl) rfl (fun ls hl => ?_)
  refine lv_iload hx hb dX2_addThing_6 (lv_at hl 0 rfl) ?_
  refine lv_bipush (v := 6) hx hb dX2_addThing_8 (by decide) ?_
  refine lv_icmp_lt (tgt := 16) hx hb dX2_addThing_10 (by decide) (fun c_10 => ?_) (fun c_10 => ?_)
  · have hf := ite_t c_10 hf
    refine lv_aload_n hx hb dX2_addThing_16 rfl (lv_at hl 1 rfl) ?_
    refine va_get (ci := 2) (C := RX2) (T := TX2) (N := 11) (v := .ref (a0 1)) hx hb hts i_X2_addThing_X2 hown hK hP 0 rfl rfl 1 (by decide) (hts _ m_X2_addThing_e4af18) (fun _ h9 => h9) rfl dX2_addThing_17 ?_
    refine lv_iload hx hb dX2_addThing_20 (lv_at hl 0 rfl) ?_
    refine lv_iload_n hx hb dX2_addThing_22 rfl (lv_at hl 2 rfl) ?_
    obtain ⟨h_23, hf⟩ := ck_e hf
    refine va_iast (cA := E.2.1) (n := 6) (f := s0 1) (x := p1) hx hb hK hP (hDD s0 h0) hS 1 0 rfl rfl h_23 dX2_addThing_23 (fun H locs hP _ hS => ?_)
    obtain ⟨s0_23, hP, hf⟩ := nm_st' (P := fun z => va_P E.1 vwCl ((wX2 E a0 z h0) ++ sW E.2.1 L) H) hf hP
    refine lv_aload_n hx hb dX2_addThing_24 rfl (lv_at hl 1 rfl) ?_
    refine va_get (ci := 2) (C := RX2) (T := TX2) (N := 11) (v := .ref (a0 2)) hx hb hts i_X2_addThing_X2 hown hK hP 0 rfl rfl 2 (by decide) (hts _ m_X2_addThing_a75564) (fun _ h9 => h9) rfl dX2_addThing_25 ?_
    refine lv_iload hx hb dX2_addThing_28 (lv_at hl 0 rfl) ?_
    refine lv_iload_n hx hb dX2_addThing_30 rfl (lv_at hl 3 rfl) ?_
    obtain ⟨h_31, hf⟩ := ck_e hf
    refine va_iast (cA := E.2.1) (n := 6) (f := s0_23 2) (x := p2) hx hb hK hP (hDD s0_23 h0) hS 2 0 rfl rfl h_31 dX2_addThing_31 (fun H locs hP _ hS => ?_)
    obtain ⟨s0_31, hP, hf⟩ := nm_st' (P := fun z => va_P E.1 vwCl ((wX2 E a0 z h0) ++ sW E.2.1 L) H) hf hP
    refine lv_aload_n hx hb dX2_addThing_32 rfl (lv_at hl 1 rfl) ?_
    refine va_get (ci := 2) (C := RX2) (T := TX2) (N := 11) (v := .ref (a0 3)) hx hb hts i_X2_addThing_X2 hown hK hP 0 rfl rfl 3 (by decide) (hts _ m_X2_addThing_d527ee) (fun _ h9 => h9) rfl dX2_addThing_33 ?_
    refine lv_iload hx hb dX2_addThing_36 (lv_at hl 0 rfl) ?_
    refine lv_iload_n hx hb dX2_addThing_38 rfl (lv_at hl 4 rfl) ?_
    obtain ⟨h_39, hf⟩ := ck_e hf
    refine va_iast (cA := E.2.1) (n := 6) (f := s0_31 3) (x := p3) hx hb hK hP (hDD s0_31 h0) hS 3 0 rfl rfl h_39 dX2_addThing_39 (fun H locs hP _ hS => ?_)
    obtain ⟨s0_39, hP, hf⟩ := nm_st' (P := fun z => va_P E.1 vwCl ((wX2 E a0 z h0) ++ sW E.2.1 L) H) hf hP
    refine lv_aload_n hx hb dX2_addThing_40 rfl (lv_at hl 1 rfl) ?_
    refine lv_iload hx hb dX2_addThing_41 (lv_at hl 0 rfl) ?_
    refine lv_iconst (v := 1) hx hb dX2_addThing_43 (by decide) ?_
    refine lv_iadd hx hb dX2_addThing_44 ?_
    refine va_put (ci := 2) (v := .int (x4 + 1)) (ty := .int) (C := RX2) (T := TX2) (N := 11) hx hb hts i_X2_addThing_X2 tyX2 tyX2_ok nmX2 hown hK hP (hDD s0_39 h0) hS 0 rfl rfl 0 (by decide) (hts _ m_X2_addThing_fa62b9) (fun _ h9 => h9) rfl (by decide +kernel) rfl rfl (Nat.le_of_ble_eq_true rfl) dX2_addThing_45 (fun H locs hP _ hS => ?_)
    obtain ⟨s0_45, hP, hf⟩ := nm_st' (P := fun z => va_P E.1 vwCl ((wX2 E a0 z h0) ++ sW E.2.1 L) H) hf hP
    refine lv_iload hx hb dX2_addThing_48 (lv_at hl 0 rfl) ?_
    have e9 := Option.some.inj hf
    exact rt_i hx hb hr hlocks (fst_e e9) (rtP (P := fun z => va_P E.1 vwCl ((wX2 E a0 z.2 h0) ++ sW E.2.1 L) H) e9 hP) hS dX2_addThing_50
  · have hf := ite_f c_10 hf
    refine lv_bipush (v := (-4)) hx hb dX2_addThing_13 (by decide) ?_
    have e9 := Option.some.inj hf
    exact rt_i hx hb hr hlocks (fst_e e9) (rtP (P := fun z => va_P E.1 vwCl ((wX2 E a0 z.2 h0) ++ sW E.2.1 L) s.heap) e9 hP) hS dX2_addThing_15
abbrev rm_X2_isHad : Room := { frames := 0, cells := 0, slots := 0, locals := 0 }
theorem m_X2_isHad_8162d6 : Cond.fieldLink RX2 45 "PickedMatch$Scene" "hadBits" "I" ∈ wsX2_isHad := by decide +kernel
theorem i_X2_isHad_X2 : ∀ w ∈ wsX20, w ∈ wsX2_isHad := fun _ h => List.mem_cons_of_mem _ (List.mem_append_right _ h)
set_option maxHeartbeats 8000000 in
set_option maxRecDepth 100000 in
theorem k_X2_isHad (l : Launch) (E : Ev) (a0 : Nat → Nat) (L : List SR) (N : Nat) (s0 : St) (h0 : Option SR) (p1 : Int32) (q : (Int32)) (hf : f_X2_isHad N s0 p1 = some q) : Ci l yX2_isHad wsX2_isHad rm_X2_isHad E [.ref (a0 0), .int p1] ((wX2 E a0 s0 h0) ++ sW E.2.1 L) ((wX2 E a0 s0 h0) ++ sW E.2.1 L) q := by
  unfold f_X2_isHad at hf
  intro sz
  refine Met.ofW (cc := cX2_isHad) (maxL := 2) (ret := (some .boolean)) (by decide) rfl ?_
  intro p e s m args below meth c s₁ B hml hpre
  obtain ⟨rfl, hsz, hP, hK, hD0, hG, hA, hAB⟩ := start hpre
  have hx := B.exec
  have hb := B.bytes
  have hr := B.returns
  have hts := atoms_spec (ws := wsX2_isHad) B.pre
  have hown : s.vm.findClass RX2 = some m.cls := findClass_of_methodNamed B.named
  have hlocks := B.notSynchronized
  subst hsz
  generalize va_A ((wX2 E a0 s0 h0) ++ sW E.2.1 L) s.heap.size = A0 at hD0 hA hAB ⊢
  have hDD : ∀ (s0 : St) (h0 : Option SR), va_D A0 ((wX2 E a0 s0 h0) ++ sW E.2.1 L) := fun s0 h0 => vD_addr hD0 rfl
  have hS : va_S A0 s.heap s.heap [] := va_S.rf
  have hl := lv_entry ([.ref (a0 0), .int p1]) (n := 2) (Nat.le_of_ble_eq_true rfl)
  rw [lg_entry_eq]
  generalize (lg_sl ([.ref (a0 0), .int p1]) ++ List.replicate (2 - (lg_sl ([.ref (a0 0), .int p1])).length) Slot.unset).toArray = ls at hl ⊢
  have hl : lv_has ls 2 [(0, .ref (a0 0)), (1, .int p1)] := hl
  refine lv_aload_n hx hb dX2_isHad_0 rfl (lv_at hl 0 rfl) ?_
  refine va_get (ci := 2) (C := RX2) (T := TX2) (N := 11) (v := .int (s0 7 0)) hx hb hts i_X2_isHad_X2 hown hK hP 0 rfl rfl 7 (by decide) (hts _ m_X2_isHad_8162d6) (fun _ h9 => h9) rfl dX2_isHad_1 ?_
  refine lv_iload_n hx hb dX2_isHad_4 rfl (lv_at hl 1 rfl) ?_
  refine lv_ishr hx hb dX2_isHad_5 ?_
  refine lv_iconst (v := 1) hx hb dX2_isHad_6 (by decide) ?_
  refine lv_iand hx hb dX2_isHad_7 ?_
  refine lv_iconst (v := 1) hx hb dX2_isHad_8 (by decide) ?_
  refine lv_icmp_ne (tgt := 16) hx hb dX2_isHad_9 (by decide) (fun c_9 => ?_) (fun c_9 => ?_)
  · have hf := ite_f c_9 hf
    refine lv_iconst (v := 0) hx hb dX2_isHad_16 (by decide) ?_
    have e9 := Option.some.inj hf
    exact rt_z hx hb hr rfl hlocks e9 hP hS dX2_isHad_17
  · have hf := ite_t c_9 hf
    refine lv_iconst (v := 1) hx hb dX2_isHad_12 (by decide) ?_
    refine lv_goto (tgt := 17) hx hb dX2_isHad_13 (by decide) ?_
    have e9 := Option.some.inj hf
    exact rt_z hx hb hr rfl hlocks e9 hP hS dX2_isHad_17
abbrev rm_X2_placeInHad : Room := { frames := 0, cells := 0, slots := 0, locals := 0 }
theorem m_X2_placeInHad_8f234e : Cond.fieldLink RX2 42 "PickedMatch$Scene" "hadCount" "I" ∈ wsX2_placeInHad := by decide +kernel
theorem i_X2_placeInHad_X2 : ∀ w ∈ wsX20, w ∈ wsX2_placeInHad := fun _ h => List.mem_cons_of_mem _ (List.mem_append_right _ h)
theorem m_X2_placeInHad_102288 : Cond.fieldLink RX2 24 "PickedMatch$Scene" "had" "[I" ∈ wsX2_placeInHad := by decide +kernel
set_option maxHeartbeats 8000000 in
set_option maxRecDepth 100000 in
theorem k_X2_placeInHad (l : Launch) (E : Ev) (a0 : Nat → Nat) (L : List SR) (N : Nat) (s0 : St) (h0 : Option SR) (p1 : Int32) (q : (Int32)) (hf : f_X2_placeInHad N s0 p1 = some q) : Ci l yX2_placeInHad wsX2_placeInHad rm_X2_placeInHad E [.ref (a0 0), .int p1] ((wX2 E a0 s0 h0) ++ sW E.2.1 L) ((wX2 E a0 s0 h0) ++ sW E.2.1 L) q := by
  unfold f_X2_placeInHad at hf
  intro sz
  refine Met.ofW (cc := cX2_placeInHad) (maxL := 3) (ret := (some .int)) (by decide) rfl ?_
  intro p e s m args below meth c s₁ B hml hpre
  obtain ⟨rfl, hsz, hP, hK, hD0, hG, hA, hAB⟩ := start hpre
  have hx := B.exec
  have hb := B.bytes
  have hr := B.returns
  have hts := atoms_spec (ws := wsX2_placeInHad) B.pre
  have hown : s.vm.findClass RX2 = some m.cls := findClass_of_methodNamed B.named
  have hlocks := B.notSynchronized
  subst hsz
  generalize va_A ((wX2 E a0 s0 h0) ++ sW E.2.1 L) s.heap.size = A0 at hD0 hA hAB ⊢
  have hDD : ∀ (s0 : St) (h0 : Option SR), va_D A0 ((wX2 E a0 s0 h0) ++ sW E.2.1 L) := fun s0 h0 => vD_addr hD0 rfl
  have hS : va_S A0 s.heap s.heap [] := va_S.rf
  have hl := lv_entry ([.ref (a0 0), .int p1]) (n := 3) (Nat.le_of_ble_eq_true rfl)
  rw [lg_entry_eq]
  generalize (lg_sl ([.ref (a0 0), .int p1]) ++ List.replicate (3 - (lg_sl ([.ref (a0 0), .int p1])).length) Slot.unset).toArray = ls at hl ⊢
  have hl : lv_has ls 3 [(0, .ref (a0 0)), (1, .int p1)] := hl
  have hL_2 : ∀ (s0 : St) (v1 : Int32) (n_2 : Nat) (v2 : Int32), l_X2_placeInHad_2 N s0 v1 n_2 v2 = some q → ∀ (H : Heap) (locs : List Loc) (ls : Array Slot), va_P E.1 vwCl ((wX2 E a0 s0 h0) ++ sW E.2.1 L) H → va_S A0 s.heap H locs → lv_has ls 3 [(0, .ref (a0 0)), (1, .int v1), (2, .int v2)] → W p l e rm_X2_placeInHad s m ([.ref (a0 0), .int p1] : List Value).toArray below meth c H locs 0 0 (MQ below (va_Qi (fun (r' : Int32) (_ : Unit) => r' = q) (fun _ t => va_P E.1 vwCl ((wX2 E a0 s0 h0) ++ sW E.2.1 L) t.heap) A0) ([.ref (a0 0), .int p1] : List Value).toArray s 0 0 A0) (F0 m 2 ls []) := by
    intro s0 v1 n_2
    induction n_2 with
    | zero => intro v2 hf; rw [l_X2_placeInHad_2] at hf; cases hf
    | succ n_2 ih_2 =>
      intro v2 hf H locs ls hP hS hl
      rw [l_X2_placeInHad_2] at hf
      refine lv_iload_n hx hb dX2_placeInHad_2 rfl (lv_at hl 2 rfl) ?_
      refine lv_aload_n hx hb dX2_placeInHad_3 rfl (lv_at hl 0 rfl) ?_
      refine va_get (ci := 2) (C := RX2) (T := TX2) (N := 11) (v := .int (s0 6 0)) hx hb hts i_X2_placeInHad_X2 hown hK hP 0 rfl rfl 6 (by decide) (hts _ m_X2_placeInHad_8f234e) (fun _ h9 => h9) rfl dX2_placeInHad_4 ?_
      refine lv_icmp_ge (tgt := 28) hx hb dX2_placeInHad_7 (by decide) (fun c_7 => ?_) (fun c_7 => ?_)
      · have hf := ite_t c_7 hf
        refine lv_bipush (v := (-5)) hx hb dX2_placeInHad_28 (by decide) ?_
        have e9 := Option.some.inj hf
        exact rt_i hx hb hr hlocks e9 hP hS dX2_placeInHad_30
      · have hf := ite_f c_7 hf
        refine lv_aload_n hx hb dX2_placeInHad_10 rfl (lv_at hl 0 rfl) ?_
        refine va_get (ci := 2) (C := RX2) (T := TX2) (N := 11) (v := .ref (a0 5)) hx hb hts i_X2_placeInHad_X2 hown hK hP 0 rfl rfl 5 (by decide) (hts _ m_X2_placeInHad_102288) (fun _ h9 => h9) rfl dX2_placeInHad_11 ?_
        refine lv_iload_n hx hb dX2_placeInHad_14 rfl (lv_at hl 2 rfl) ?_
        obtain ⟨h_15, hf⟩ := ck_e hf
        refine va_iald (cA := E.2.1) (n := 6) (f := s0 5) hx hb hK hP 5 0 rfl rfl h_15 dX2_placeInHad_15 ?_
        refine lv_iload_n hx hb dX2_placeInHad_16 rfl (lv_at hl 1 rfl) ?_
        refine lv_icmp_ne (tgt := 22) hx hb dX2_placeInHad_17 (by decide) (fun c_17 => ?_) (fun c_17 => ?_)
        · have hf := ite_f c_17 hf
          obtain ⟨x22, e_x22⟩ : ∃ y : Int32, y = v2 + 1 := ⟨_, rfl⟩
          have hf := nm_q e_x22 hf
          refine lv_iinc (v := x22) (lv' := [(2, .int x22), (0, .ref (a0 0)), (1, .int v1)]) hx hb dX2_placeInHad_22 hl (k := 2) rfl (by rw [e_x22]; rfl) (Nat.le_of_ble_eq_true rfl) rfl (fun ls hl => ?_)
          refine lv_goto (tgt := 2) hx hb dX2_placeInHad_25 (by decide) ?_
          exact ih_2 x22 hf _ _ _ hP hS (lv_sub hl [1, 2, 0] rfl)
        · have hf := ite_t c_17 hf
          refine lv_iload_n hx hb dX2_placeInHad_20 rfl (lv_at hl 2 rfl) ?_
          have e9 := Option.some.inj hf
          exact rt_i hx hb hr hlocks e9 hP hS dX2_placeInHad_21
  refine lv_iconst (v := 0) hx hb dX2_placeInHad_0 (by decide) ?_
  refine lv_istore_n (lv' := [(2, .int 0), (0, .ref (a0 0)), (1, .int p1)]) hx hb dX2_placeInHad_1 rfl hl (Nat.le_of_ble_eq_true rfl) rfl (fun ls hl => ?_)
  exact hL_2 s0 p1 N 0 hf _ _ _ hP hS (lv_sub hl [1, 2, 0] rfl)
abbrev rm_X2_pickUp : Room := { frames := 1, cells := 0, slots := 0, locals := 21 }
theorem m_X2_pickUp_8f234e : Cond.fieldLink RX2 42 "PickedMatch$Scene" "hadCount" "I" ∈ wsX2_pickUp := by decide +kernel
theorem i_X2_pickUp_X2 : ∀ w ∈ wsX20, w ∈ wsX2_pickUp := fun _ h => List.mem_cons_of_mem _ (List.mem_append_right _ h)
theorem m_X2_pickUp_102288 : Cond.fieldLink RX2 24 "PickedMatch$Scene" "had" "[I" ∈ wsX2_pickUp := by decide +kernel
theorem m_X2_pickUp_8162d6 : Cond.fieldLink RX2 45 "PickedMatch$Scene" "hadBits" "I" ∈ wsX2_pickUp := by decide +kernel
set_option maxHeartbeats 8000000 in
set_option maxRecDepth 100000 in
theorem k_X2_pickUp (l : Launch) (E : Ev) (a0 : Nat → Nat) (L : List SR) (N : Nat) (s0 : St) (h0 : Option SR) (p1 : Int32) (q : (St)) (hf : f_X2_pickUp N s0 p1 = some q) : Cv l yX2_pickUp wsX2_pickUp rm_X2_pickUp E [.ref (a0 0), .int p1] ((wX2 E a0 s0 h0) ++ sW E.2.1 L) ((wX2 E a0 q h0) ++ sW E.2.1 L) := by
  unfold f_X2_pickUp at hf
  intro sz
  refine Met.ofW (cc := cX2_pickUp) (maxL := 2) (ret := none) (by decide) rfl ?_
  intro p e s m args below meth c s₁ B hml hpre
  obtain ⟨rfl, hsz, hP, hK, hD0, hG, hA, hAB⟩ := start hpre
  have hx := B.exec
  have hb := B.bytes
  have hr := B.returns
  have hts := atoms_spec (ws := wsX2_pickUp) B.pre
  have hown : s.vm.findClass RX2 = some m.cls := findClass_of_methodNamed B.named
  have hlocks := B.notSynchronized
  subst hsz
  generalize va_A ((wX2 E a0 s0 h0) ++ sW E.2.1 L) s.heap.size = A0 at hD0 hA hAB ⊢
  have hDD : ∀ (s0 : St) (h0 : Option SR), va_D A0 ((wX2 E a0 s0 h0) ++ sW E.2.1 L) := fun s0 h0 => vD_addr hD0 rfl
  have hS : va_S A0 s.heap s.heap [] := va_S.rf
  have hl := lv_entry ([.ref (a0 0), .int p1]) (n := 2) (Nat.le_of_ble_eq_true rfl)
  rw [lg_entry_eq]
  generalize (lg_sl ([.ref (a0 0), .int p1]) ++ List.replicate (2 - (lg_sl ([.ref (a0 0), .int p1])).length) Slot.unset).toArray = ls at hl ⊢
  have hl : lv_has ls 2 [(0, .ref (a0 0)), (1, .int p1)] := hl
  refine lv_aload_n hx hb dX2_pickUp_0 rfl (lv_at hl 0 rfl) ?_
  refine va_get (ci := 2) (C := RX2) (T := TX2) (N := 11) (v := .int (s0 6 0)) hx hb hts i_X2_pickUp_X2 hown hK hP 0 rfl rfl 6 (by decide) (hts _ m_X2_pickUp_8f234e) (fun _ h9 => h9) rfl dX2_pickUp_1 ?_
  refine lv_bipush (v := 6) hx hb dX2_pickUp_4 (by decide) ?_
  refine lv_icmp_ge (tgt := 49) hx hb dX2_pickUp_6 (by decide) (fun c_6 => ?_) (fun c_6 => ?_)
  · have hf := ite_t c_6 hf
    have e9 := Option.some.inj hf
    exact rt_v hx hb hr hlocks (rtP (P := fun z => va_P E.1 vwCl ((wX2 E a0 z h0) ++ sW E.2.1 L) s.heap) e9 hP) hS dX2_pickUp_49
  · have hf := ite_f c_6 hf
    refine lv_aload_n hx hb dX2_pickUp_9 rfl (lv_at hl 0 rfl) ?_
    refine lv_iload_n hx hb dX2_pickUp_10 rfl (lv_at hl 1 rfl) ?_
    obtain ⟨q11, hc_11, hf⟩ := cl_e hf
    refine fin_i (E := E) (wc := (wX2 E a0 s0 h0) ++ sW E.2.1 L) (wc' := (wX2 E a0 s0 h0) ++ sW E.2.1 L) (va_runV (As := [.int p1]) (rest := []) ⟨hx, hb, hml, hown, hts⟩ (k_X2_isHad l E a0 L N s0 h0 p1 q11 hc_11 _) (cwV 1 hts gX2_pickUp_X2_isHad rfl rfl rfl (by decide +kernel) ⟨(Nat.le_of_ble_eq_true rfl), (Nat.le_of_ble_eq_true rfl)⟩) (pre_v (ci := 2) (q0 := 0) hK hP (hDD s0 h0) hS hG hAB rfl rfl) rfl rfl hl.1 rfl (lv_room (Nat.le_of_ble_eq_true rfl)) dX2_pickUp_11 ⟨Nat.zero_le _, Nat.zero_le _⟩) hS (w_free (hDD s0 h0) hS hA (fun _ h => h)) (fun H locs hP1 hk hS => ?_)
    have hP := hP1
    refine lv_if_ne (tgt := 49) hx hb dX2_pickUp_14 (by decide) (fun c_14 => ?_) (fun c_14 => ?_)
    · have hf := ite_f c_14 hf
      have e9 := Option.some.inj hf
      exact rt_v hx hb hr hlocks (rtP (P := fun z => va_P E.1 vwCl ((wX2 E a0 z h0) ++ sW E.2.1 L) H) e9 hP) hS dX2_pickUp_49
    · have hf := ite_t c_14 hf
      refine lv_aload_n hx hb dX2_pickUp_17 rfl (lv_at hl 0 rfl) ?_
      refine va_get (ci := 2) (C := RX2) (T := TX2) (N := 11) (v := .ref (a0 5)) hx hb hts i_X2_pickUp_X2 hown hK hP 0 rfl rfl 5 (by decide) (hts _ m_X2_pickUp_102288) (fun _ h9 => h9) rfl dX2_pickUp_18 ?_
      refine lv_aload_n hx hb dX2_pickUp_21 rfl (lv_at hl 0 rfl) ?_
      refine va_get (ci := 2) (C := RX2) (T := TX2) (N := 11) (v := .int (s0 6 0)) hx hb hts i_X2_pickUp_X2 hown hK hP 0 rfl rfl 6 (by decide) (hts _ m_X2_pickUp_8f234e) (fun _ h9 => h9) rfl dX2_pickUp_22 ?_
      refine lv_iload_n hx hb dX2_pickUp_25 rfl (lv_at hl 1 rfl) ?_
      obtain ⟨h_26, hf⟩ := ck_e hf
      refine va_iast (cA := E.2.1) (n := 6) (f := s0 5) (x := p1) hx hb hK hP (hDD s0 h0) hS 5 0 rfl rfl h_26 dX2_pickUp_26 (fun H locs hP _ hS => ?_)
      obtain ⟨s0_26, hP, hf⟩ := nm_st' (P := fun z => va_P E.1 vwCl ((wX2 E a0 z h0) ++ sW E.2.1 L) H) hf hP
      refine lv_aload_n hx hb dX2_pickUp_27 rfl (lv_at hl 0 rfl) ?_
      refine lv_dup hx hb dX2_pickUp_28 rfl ?_
      refine va_get (ci := 2) (C := RX2) (T := TX2) (N := 11) (v := .int (s0_26 6 0)) hx hb hts i_X2_pickUp_X2 hown hK hP 0 rfl rfl 6 (by decide) (hts _ m_X2_pickUp_8f234e) (fun _ h9 => h9) rfl dX2_pickUp_29 ?_
      refine lv_iconst (v := 1) hx hb dX2_pickUp_32 (by decide) ?_
      refine lv_iadd hx hb dX2_pickUp_33 ?_
      refine va_put (ci := 2) (v := .int ((s0_26 6 0) + 1)) (ty := .int) (C := RX2) (T := TX2) (N := 11) hx hb hts i_X2_pickUp_X2 tyX2 tyX2_ok nmX2 hown hK hP (hDD s0_26 h0) hS 0 rfl rfl 6 (by decide) (hts _ m_X2_pickUp_8f234e) (fun _ h9 => h9) rfl (by decide +kernel) rfl rfl (Nat.le_of_ble_eq_true rfl) dX2_pickUp_34 (fun H locs hP _ hS => ?_)
      obtain ⟨s0_34, hP, hf⟩ := nm_st' (P := fun z => va_P E.1 vwCl ((wX2 E a0 z h0) ++ sW E.2.1 L) H) hf hP
      refine lv_aload_n hx hb dX2_pickUp_37 rfl (lv_at hl 0 rfl) ?_
      refine lv_dup hx hb dX2_pickUp_38 rfl ?_
      refine va_get (ci := 2) (C := RX2) (T := TX2) (N := 11) (v := .int (s0_34 7 0)) hx hb hts i_X2_pickUp_X2 hown hK hP 0 rfl rfl 7 (by decide) (hts _ m_X2_pickUp_8162d6) (fun _ h9 => h9) rfl dX2_pickUp_39 ?_
      refine lv_iconst (v := 1) hx hb dX2_pickUp_42 (by decide) ?_
      refine lv_iload_n hx hb dX2_pickUp_43 rfl (lv_at hl 1 rfl) ?_
      refine lv_ishl hx hb dX2_pickUp_44 ?_
      refine lv_ior hx hb dX2_pickUp_45 ?_
      refine va_put (ci := 2) (v := .int ((s0_34 7 0) ||| (1 <<< (p1 &&& 31)))) (ty := .int) (C := RX2) (T := TX2) (N := 11) hx hb hts i_X2_pickUp_X2 tyX2 tyX2_ok nmX2 hown hK hP (hDD s0_34 h0) hS 0 rfl rfl 7 (by decide) (hts _ m_X2_pickUp_8162d6) (fun _ h9 => h9) rfl (by decide +kernel) rfl rfl (Nat.le_of_ble_eq_true rfl) dX2_pickUp_46 (fun H locs hP _ hS => ?_)
      obtain ⟨s0_46, hP, hf⟩ := nm_st' (P := fun z => va_P E.1 vwCl ((wX2 E a0 z h0) ++ sW E.2.1 L) H) hf hP
      have e9 := Option.some.inj hf
      exact rt_v hx hb hr hlocks (rtP (P := fun z => va_P E.1 vwCl ((wX2 E a0 z h0) ++ sW E.2.1 L) H) e9 hP) hS dX2_pickUp_49
abbrev rm_X2_layDownNewest : Room := { frames := 0, cells := 0, slots := 0, locals := 0 }
theorem m_X2_layDownNewest_8f234e : Cond.fieldLink RX2 42 "PickedMatch$Scene" "hadCount" "I" ∈ wsX2_layDownNewest := by decide +kernel
theorem i_X2_layDownNewest_X2 : ∀ w ∈ wsX20, w ∈ wsX2_layDownNewest := fun _ h => List.mem_cons_of_mem _ (List.mem_append_right _ h)
theorem m_X2_layDownNewest_102288 : Cond.fieldLink RX2 24 "PickedMatch$Scene" "had" "[I" ∈ wsX2_layDownNewest := by decide +kernel
theorem m_X2_layDownNewest_8162d6 : Cond.fieldLink RX2 45 "PickedMatch$Scene" "hadBits" "I" ∈ wsX2_layDownNewest := by decide +kernel
set_option maxHeartbeats 8000000 in
set_option maxRecDepth 100000 in
theorem k_X2_layDownNewest (l : Launch) (E : Ev) (a0 : Nat → Nat) (L : List SR) (N : Nat) (s0 : St) (h0 : Option SR) (q : (Int32 × St)) (hf : f_X2_layDownNewest N s0 = some q) : Ci l yX2_layDownNewest wsX2_layDownNewest rm_X2_layDownNewest E [.ref (a0 0)] ((wX2 E a0 s0 h0) ++ sW E.2.1 L) ((wX2 E a0 q.2 h0) ++ sW E.2.1 L) q.1 := by
  unfold f_X2_layDownNewest at hf
  intro sz
  refine Met.ofW (cc := cX2_layDownNewest) (maxL := 2) (ret := (some .int)) (by decide) rfl ?_
  intro p e s m args below meth c s₁ B hml hpre
  obtain ⟨rfl, hsz, hP, hK, hD0, hG, hA, hAB⟩ := start hpre
  have hx := B.exec
  have hb := B.bytes
  have hr := B.returns
  have hts := atoms_spec (ws := wsX2_layDownNewest) B.pre
  have hown : s.vm.findClass RX2 = some m.cls := findClass_of_methodNamed B.named
  have hlocks := B.notSynchronized
  subst hsz
  generalize va_A ((wX2 E a0 s0 h0) ++ sW E.2.1 L) s.heap.size = A0 at hD0 hA hAB ⊢
  have hDD : ∀ (s0 : St) (h0 : Option SR), va_D A0 ((wX2 E a0 s0 h0) ++ sW E.2.1 L) := fun s0 h0 => vD_addr hD0 rfl
  have hS : va_S A0 s.heap s.heap [] := va_S.rf
  have hl := lv_entry ([.ref (a0 0)]) (n := 2) (Nat.le_of_ble_eq_true rfl)
  rw [lg_entry_eq]
  generalize (lg_sl ([.ref (a0 0)]) ++ List.replicate (2 - (lg_sl ([.ref (a0 0)])).length) Slot.unset).toArray = ls at hl ⊢
  have hl : lv_has ls 2 [(0, .ref (a0 0))] := hl
  refine lv_aload_n hx hb dX2_layDownNewest_0 rfl (lv_at hl 0 rfl) ?_
  refine va_get (ci := 2) (C := RX2) (T := TX2) (N := 11) (v := .int (s0 6 0)) hx hb hts i_X2_layDownNewest_X2 hown hK hP 0 rfl rfl 6 (by decide) (hts _ m_X2_layDownNewest_8f234e) (fun _ h9 => h9) rfl dX2_layDownNewest_1 ?_
  refine lv_if_ne (tgt := 10) hx hb dX2_layDownNewest_4 (by decide) (fun c_4 => ?_) (fun c_4 => ?_)
  · have hf := ite_f c_4 hf
    refine lv_aload_n hx hb dX2_layDownNewest_10 rfl (lv_at hl 0 rfl) ?_
    refine lv_dup hx hb dX2_layDownNewest_11 rfl ?_
    refine va_get (ci := 2) (C := RX2) (T := TX2) (N := 11) (v := .int (s0 6 0)) hx hb hts i_X2_layDownNewest_X2 hown hK hP 0 rfl rfl 6 (by decide) (hts _ m_X2_layDownNewest_8f234e) (fun _ h9 => h9) rfl dX2_layDownNewest_12 ?_
    refine lv_iconst (v := 1) hx hb dX2_layDownNewest_15 (by decide) ?_
    refine lv_isub hx hb dX2_layDownNewest_16 ?_
    refine va_put (ci := 2) (v := .int ((s0 6 0) - 1)) (ty := .int) (C := RX2) (T := TX2) (N := 11) hx hb hts i_X2_layDownNewest_X2 tyX2 tyX2_ok nmX2 hown hK hP (hDD s0 h0) hS 0 rfl rfl 6 (by decide) (hts _ m_X2_layDownNewest_8f234e) (fun _ h9 => h9) rfl (by decide +kernel) rfl rfl (Nat.le_of_ble_eq_true rfl) dX2_layDownNewest_17 (fun H locs hP _ hS => ?_)
    obtain ⟨s0_17, hP, hf⟩ := nm_st' (P := fun z => va_P E.1 vwCl ((wX2 E a0 z h0) ++ sW E.2.1 L) H) hf hP
    refine lv_aload_n hx hb dX2_layDownNewest_20 rfl (lv_at hl 0 rfl) ?_
    refine va_get (ci := 2) (C := RX2) (T := TX2) (N := 11) (v := .ref (a0 5)) hx hb hts i_X2_layDownNewest_X2 hown hK hP 0 rfl rfl 5 (by decide) (hts _ m_X2_layDownNewest_102288) (fun _ h9 => h9) rfl dX2_layDownNewest_21 ?_
    refine lv_aload_n hx hb dX2_layDownNewest_24 rfl (lv_at hl 0 rfl) ?_
    refine va_get (ci := 2) (C := RX2) (T := TX2) (N := 11) (v := .int (s0_17 6 0)) hx hb hts i_X2_layDownNewest_X2 hown hK hP 0 rfl rfl 6 (by decide) (hts _ m_X2_layDownNewest_8f234e) (fun _ h9 => h9) rfl dX2_layDownNewest_25 ?_
    obtain ⟨h_28, hf⟩ := ck_e hf
    refine va_iald (cA := E.2.1) (n := 6) (f := s0_17 5) hx hb hK hP 5 0 rfl rfl h_28 dX2_layDownNewest_28 ?_
    refine lv_topi (fun x29 e_x29 => ?_)
    have hf := nm_q e_x29 hf
    refine lv_istore_n (lv' := [(1, .int x29), (0, .ref (a0 0))]) hx hb dX2_layDownNewest_29 rfl hl (Nat.le_of_ble_eq_true rfl) rfl (fun ls hl => ?_)
    refine lv_aload_n hx hb dX2_layDownNewest_30 rfl (lv_at hl 1 rfl) ?_
    refine lv_dup hx hb dX2_layDownNewest_31 rfl ?_
    refine va_get (ci := 2) (C := RX2) (T := TX2) (N := 11) (v := .int (s0_17 7 0)) hx hb hts i_X2_layDownNewest_X2 hown hK hP 0 rfl rfl 7 (by decide) (hts _ m_X2_layDownNewest_8162d6) (fun _ h9 => h9) rfl dX2_layDownNewest_32 ?_
    refine lv_iconst (v := 1) hx hb dX2_layDownNewest_35 (by decide) ?_
    refine lv_iload_n hx hb dX2_layDownNewest_36 rfl (lv_at hl 0 rfl) ?_
    refine lv_ishl hx hb dX2_layDownNewest_37 ?_
    refine lv_iconst (v := (-1)) hx hb dX2_layDownNewest_38 (by decide) ?_
    refine lv_ixor hx hb dX2_layDownNewest_39 ?_
    refine lv_iand hx hb dX2_layDownNewest_40 ?_
    refine va_put (ci := 2) (v := .int ((s0_17 7 0) &&& ((1 <<< (x29 &&& 31)) ^^^ (-1)))) (ty := .int) (C := RX2) (T := TX2) (N := 11) hx hb hts i_X2_layDownNewest_X2 tyX2 tyX2_ok nmX2 hown hK hP (hDD s0_17 h0) hS 0 rfl rfl 7 (by decide) (hts _ m_X2_layDownNewest_8162d6) (fun _ h9 => h9) rfl (by decide +kernel) rfl rfl (Nat.le_of_ble_eq_true rfl) dX2_layDownNewest_41 (fun H locs hP _ hS => ?_)
    obtain ⟨s0_41, hP, hf⟩ := nm_st' (P := fun z => va_P E.1 vwCl ((wX2 E a0 z h0) ++ sW E.2.1 L) H) hf hP
    refine lv_iload_n hx hb dX2_layDownNewest_44 rfl (lv_at hl 0 rfl) ?_
    have e9 := Option.some.inj hf
    exact rt_i hx hb hr hlocks (fst_e e9) (rtP (P := fun z => va_P E.1 vwCl ((wX2 E a0 z.2 h0) ++ sW E.2.1 L) H) e9 hP) hS dX2_layDownNewest_45
  · have hf := ite_t c_4 hf
    refine lv_bipush (v := (-5)) hx hb dX2_layDownNewest_7 (by decide) ?_
    have e9 := Option.some.inj hf
    exact rt_i hx hb hr hlocks (fst_e e9) (rtP (P := fun z => va_P E.1 vwCl ((wX2 E a0 z.2 h0) ++ sW E.2.1 L) s.heap) e9 hP) hS dX2_layDownNewest_9
abbrev rm_X2_layDown : Room := { frames := 0, cells := 0, slots := 0, locals := 0 }
theorem m_X2_layDown_8f234e : Cond.fieldLink RX2 42 "PickedMatch$Scene" "hadCount" "I" ∈ wsX2_layDown := by decide +kernel
theorem i_X2_layDown_X2 : ∀ w ∈ wsX20, w ∈ wsX2_layDown := fun _ h => List.mem_cons_of_mem _ (List.mem_append_right _ h)
theorem m_X2_layDown_8162d6 : Cond.fieldLink RX2 45 "PickedMatch$Scene" "hadBits" "I" ∈ wsX2_layDown := by decide +kernel
theorem m_X2_layDown_102288 : Cond.fieldLink RX2 24 "PickedMatch$Scene" "had" "[I" ∈ wsX2_layDown := by decide +kernel
set_option maxHeartbeats 8000000 in
set_option maxRecDepth 100000 in
theorem k_X2_layDown (l : Launch) (E : Ev) (a0 : Nat → Nat) (L : List SR) (N : Nat) (s0 : St) (h0 : Option SR) (p1 : Int32) (q : (St)) (hf : f_X2_layDown N s0 p1 = some q) : Cv l yX2_layDown wsX2_layDown rm_X2_layDown E [.ref (a0 0), .int p1] ((wX2 E a0 s0 h0) ++ sW E.2.1 L) ((wX2 E a0 q h0) ++ sW E.2.1 L) := by
  unfold f_X2_layDown at hf
  intro sz
  refine Met.ofW (cc := cX2_layDown) (maxL := 4) (ret := none) (by decide) rfl ?_
  intro p e s m args below meth c s₁ B hml hpre
  obtain ⟨rfl, hsz, hP, hK, hD0, hG, hA, hAB⟩ := start hpre
  have hx := B.exec
  have hb := B.bytes
  have hr := B.returns
  have hts := atoms_spec (ws := wsX2_layDown) B.pre
  have hown : s.vm.findClass RX2 = some m.cls := findClass_of_methodNamed B.named
  have hlocks := B.notSynchronized
  subst hsz
  generalize va_A ((wX2 E a0 s0 h0) ++ sW E.2.1 L) s.heap.size = A0 at hD0 hA hAB ⊢
  have hDD : ∀ (s0 : St) (h0 : Option SR), va_D A0 ((wX2 E a0 s0 h0) ++ sW E.2.1 L) := fun s0 h0 => vD_addr hD0 rfl
  have hS : va_S A0 s.heap s.heap [] := va_S.rf
  have hl := lv_entry ([.ref (a0 0), .int p1]) (n := 4) (Nat.le_of_ble_eq_true rfl)
  rw [lg_entry_eq]
  generalize (lg_sl ([.ref (a0 0), .int p1]) ++ List.replicate (4 - (lg_sl ([.ref (a0 0), .int p1])).length) Slot.unset).toArray = ls at hl ⊢
  have hl : lv_has ls 4 [(0, .ref (a0 0)), (1, .int p1)] := hl
  have hL_4 : ∀ (v1 : Int32) (n_4 : Nat) (s0 : St) (v2 : Int32) (v3 : Int32), l_X2_layDown_4 N v1 n_4 s0 v2 v3 = some q → ∀ (H : Heap) (locs : List Loc) (ls : Array Slot), va_P E.1 vwCl ((wX2 E a0 s0 h0) ++ sW E.2.1 L) H → va_S A0 s.heap H locs → lv_has ls 4 [(0, .ref (a0 0)), (1, .int v1), (2, .int v2), (3, .int v3)] → W p l e rm_X2_layDown s m ([.ref (a0 0), .int p1] : List Value).toArray below meth c H locs 0 0 (MQ below (va_Qv (fun (_ : Unit) => True) (fun _ t => va_P E.1 vwCl ((wX2 E a0 q h0) ++ sW E.2.1 L) t.heap) A0) ([.ref (a0 0), .int p1] : List Value).toArray s 0 0 A0) (F0 m 4 ls []) := by
    intro v1 n_4
    induction n_4 with
    | zero => intro s0 v2 v3 hf; rw [l_X2_layDown_4] at hf; cases hf
    | succ n_4 ih_4 =>
      intro s0 v2 v3 hf H locs ls hP hS hl
      rw [l_X2_layDown_4] at hf
      refine lv_iload_n hx hb dX2_layDown_4 rfl (lv_at hl 3 rfl) ?_
      refine lv_aload_n hx hb dX2_layDown_5 rfl (lv_at hl 0 rfl) ?_
      refine va_get (ci := 2) (C := RX2) (T := TX2) (N := 11) (v := .int (s0 6 0)) hx hb hts i_X2_layDown_X2 hown hK hP 0 rfl rfl 6 (by decide) (hts _ m_X2_layDown_8f234e) (fun _ h9 => h9) rfl dX2_layDown_6 ?_
      refine lv_icmp_ge (tgt := 43) hx hb dX2_layDown_9 (by decide) (fun c_9 => ?_) (fun c_9 => ?_)
      · have hf := ite_t c_9 hf
        refine lv_aload_n hx hb dX2_layDown_43 rfl (lv_at hl 0 rfl) ?_
        refine lv_iload_n hx hb dX2_layDown_44 rfl (lv_at hl 2 rfl) ?_
        refine va_put (ci := 2) (v := .int v2) (ty := .int) (C := RX2) (T := TX2) (N := 11) hx hb hts i_X2_layDown_X2 tyX2 tyX2_ok nmX2 hown hK hP (hDD s0 h0) hS 0 rfl rfl 6 (by decide) (hts _ m_X2_layDown_8f234e) (fun _ h9 => h9) rfl (by decide +kernel) rfl rfl (Nat.le_of_ble_eq_true rfl) dX2_layDown_45 (fun H locs hP _ hS => ?_)
        obtain ⟨s0_45, hP, hf⟩ := nm_st' (P := fun z => va_P E.1 vwCl ((wX2 E a0 z h0) ++ sW E.2.1 L) H) hf hP
        refine lv_aload_n hx hb dX2_layDown_48 rfl (lv_at hl 0 rfl) ?_
        refine lv_dup hx hb dX2_layDown_49 rfl ?_
        refine va_get (ci := 2) (C := RX2) (T := TX2) (N := 11) (v := .int (s0_45 7 0)) hx hb hts i_X2_layDown_X2 hown hK hP 0 rfl rfl 7 (by decide) (hts _ m_X2_layDown_8162d6) (fun _ h9 => h9) rfl dX2_layDown_50 ?_
        refine lv_iconst (v := 1) hx hb dX2_layDown_53 (by decide) ?_
        refine lv_iload_n hx hb dX2_layDown_54 rfl (lv_at hl 1 rfl) ?_
        refine lv_ishl hx hb dX2_layDown_55 ?_
        refine lv_iconst (v := (-1)) hx hb dX2_layDown_56 (by decide) ?_
        refine lv_ixor hx hb dX2_layDown_57 ?_
        refine lv_iand hx hb dX2_layDown_58 ?_
        refine va_put (ci := 2) (v := .int ((s0_45 7 0) &&& ((1 <<< (v1 &&& 31)) ^^^ (-1)))) (ty := .int) (C := RX2) (T := TX2) (N := 11) hx hb hts i_X2_layDown_X2 tyX2 tyX2_ok nmX2 hown hK hP (hDD s0_45 h0) hS 0 rfl rfl 7 (by decide) (hts _ m_X2_layDown_8162d6) (fun _ h9 => h9) rfl (by decide +kernel) rfl rfl (Nat.le_of_ble_eq_true rfl) dX2_layDown_59 (fun H locs hP _ hS => ?_)
        obtain ⟨s0_59, hP, hf⟩ := nm_st' (P := fun z => va_P E.1 vwCl ((wX2 E a0 z h0) ++ sW E.2.1 L) H) hf hP
        have e9 := Option.some.inj hf
        exact rt_v hx hb hr hlocks (rtP (P := fun z => va_P E.1 vwCl ((wX2 E a0 z h0) ++ sW E.2.1 L) H) e9 hP) hS dX2_layDown_62
      · have hf := ite_f c_9 hf
        refine lv_aload_n hx hb dX2_layDown_12 rfl (lv_at hl 0 rfl) ?_
        refine va_get (ci := 2) (C := RX2) (T := TX2) (N := 11) (v := .ref (a0 5)) hx hb hts i_X2_layDown_X2 hown hK hP 0 rfl rfl 5 (by decide) (hts _ m_X2_layDown_102288) (fun _ h9 => h9) rfl dX2_layDown_13 ?_
        refine lv_iload_n hx hb dX2_layDown_16 rfl (lv_at hl 3 rfl) ?_
        obtain ⟨h_17, hf⟩ := ck_e hf
        refine va_iald (cA := E.2.1) (n := 6) (f := s0 5) hx hb hK hP 5 0 rfl rfl h_17 dX2_layDown_17 ?_
        refine lv_iload_n hx hb dX2_layDown_18 rfl (lv_at hl 1 rfl) ?_
        refine lv_icmp_eq (tgt := 37) hx hb dX2_layDown_19 (by decide) (fun c_19 => ?_) (fun c_19 => ?_)
        · have hf := ite_t c_19 hf
          obtain ⟨x37, e_x37⟩ : ∃ y : Int32, y = v3 + 1 := ⟨_, rfl⟩
          have hf := nm_q e_x37 hf
          refine lv_iinc (v := x37) (lv' := [(3, .int x37), (0, .ref (a0 0)), (1, .int v1), (2, .int v2)]) hx hb dX2_layDown_37 hl (k := 3) rfl (by rw [e_x37]; rfl) (Nat.le_of_ble_eq_true rfl) rfl (fun ls hl => ?_)
          refine lv_goto (tgt := 4) hx hb dX2_layDown_40 (by decide) ?_
          exact ih_4 s0 v2 x37 hf _ _ _ hP hS (lv_sub hl [1, 2, 3, 0] rfl)
        · have hf := ite_f c_19 hf
          refine lv_aload_n hx hb dX2_layDown_22 rfl (lv_at hl 0 rfl) ?_
          refine va_get (ci := 2) (C := RX2) (T := TX2) (N := 11) (v := .ref (a0 5)) hx hb hts i_X2_layDown_X2 hown hK hP 0 rfl rfl 5 (by decide) (hts _ m_X2_layDown_102288) (fun _ h9 => h9) rfl dX2_layDown_23 ?_
          refine lv_iload_n hx hb dX2_layDown_26 rfl (lv_at hl 2 rfl) ?_
          refine lv_aload_n hx hb dX2_layDown_27 rfl (lv_at hl 0 rfl) ?_
          refine va_get (ci := 2) (C := RX2) (T := TX2) (N := 11) (v := .ref (a0 5)) hx hb hts i_X2_layDown_X2 hown hK hP 0 rfl rfl 5 (by decide) (hts _ m_X2_layDown_102288) (fun _ h9 => h9) rfl dX2_layDown_28 ?_
          refine lv_iload_n hx hb dX2_layDown_31 rfl (lv_at hl 3 rfl) ?_
          obtain ⟨h_32, hf⟩ := ck_e hf
          refine va_iald (cA := E.2.1) (n := 6) (f := s0 5) hx hb hK hP 5 0 rfl rfl h_32 dX2_layDown_32 ?_
          obtain ⟨h_33, hf⟩ := ck_e hf
          refine va_iast (cA := E.2.1) (n := 6) (f := s0 5) (x := s0 5 v3.toNatClampNeg) hx hb hK hP (hDD s0 h0) hS 5 0 rfl rfl h_33 dX2_layDown_33 (fun H locs hP _ hS => ?_)
          obtain ⟨s0_33, hP, hf⟩ := nm_st' (P := fun z => va_P E.1 vwCl ((wX2 E a0 z h0) ++ sW E.2.1 L) H) hf hP
          obtain ⟨x34, e_x34⟩ : ∃ y : Int32, y = v2 + 1 := ⟨_, rfl⟩
          have hf := nm_q e_x34 hf
          refine lv_iinc (v := x34) (lv' := [(2, .int x34), (0, .ref (a0 0)), (1, .int v1), (3, .int v3)]) hx hb dX2_layDown_34 hl (k := 2) rfl (by rw [e_x34]; rfl) (Nat.le_of_ble_eq_true rfl) rfl (fun ls hl => ?_)
          obtain ⟨x37, e_x37⟩ : ∃ y : Int32, y = v3 + 1 := ⟨_, rfl⟩
          have hf := nm_q e_x37 hf
          refine lv_iinc (v := x37) (lv' := [(3, .int x37), (2, .int x34), (0, .ref (a0 0)), (1, .int v1)]) hx hb dX2_layDown_37 hl (k := 3) rfl (by rw [e_x37]; rfl) (Nat.le_of_ble_eq_true rfl) rfl (fun ls hl => ?_)
          refine lv_goto (tgt := 4) hx hb dX2_layDown_40 (by decide) ?_
          exact ih_4 s0_33 x34 x37 hf _ _ _ hP hS (lv_sub hl [2, 3, 1, 0] rfl)
  refine lv_iconst (v := 0) hx hb dX2_layDown_0 (by decide) ?_
  refine lv_istore_n (lv' := [(2, .int 0), (0, .ref (a0 0)), (1, .int p1)]) hx hb dX2_layDown_1 rfl hl (Nat.le_of_ble_eq_true rfl) rfl (fun ls hl => ?_)
  refine lv_iconst (v := 0) hx hb dX2_layDown_2 (by decide) ?_
  refine lv_istore_n (lv' := [(3, .int 0), (2, .int 0), (0, .ref (a0 0)), (1, .int p1)]) hx hb dX2_layDown_3 rfl hl (Nat.le_of_ble_eq_true rfl) rfl (fun ls hl => ?_)
  exact hL_4 p1 N s0 0 0 hf _ _ _ hP hS (lv_sub hl [2, 3, 1, 0] rfl)
abbrev rm_X2_needNow : Room := { frames := 0, cells := 0, slots := 0, locals := 0 }
theorem m_X2_needNow_2ad546 : Cond.fieldLink RX2 51 "PickedMatch$Scene" "held" "LPickedMatch$Street;" ∈ wsX2_needNow := by decide +kernel
theorem i_X2_needNow_X2 : ∀ w ∈ wsX20, w ∈ wsX2_needNow := fun _ h => List.mem_cons_of_mem _ (List.mem_append_left _ (List.mem_append_right _ h))
theorem i_X2_needNow_X4 : ∀ w ∈ wsX40, w ∈ wsX2_needNow := fun _ h => List.mem_cons_of_mem _ (List.mem_append_right _ h)
set_option maxHeartbeats 8000000 in
set_option maxRecDepth 100000 in
theorem k_X2_needNow (l : Launch) (E : Ev) (a0 : Nat → Nat) (L : List SR) (N : Nat) (s0 : St) (h0 : Option SR) (q : (Int32)) (hf : f_X2_needNow N L h0 = some q) : Ci l yX2_needNow wsX2_needNow rm_X2_needNow E [.ref (a0 0)] ((wX2 E a0 s0 h0) ++ sW E.2.1 L) ((wX2 E a0 s0 h0) ++ sW E.2.1 L) q := by
  unfold f_X2_needNow at hf
  intro sz
  refine Met.ofW (cc := cX2_needNow) (maxL := 1) (ret := (some .int)) (by decide) rfl ?_
  intro p e s m args below meth c s₁ B hml hpre
  obtain ⟨rfl, hsz, hP, hK, hD0, hG, hA, hAB⟩ := start hpre
  have hx := B.exec
  have hb := B.bytes
  have hr := B.returns
  have hts := atoms_spec (ws := wsX2_needNow) B.pre
  have hown : s.vm.findClass RX2 = some m.cls := findClass_of_methodNamed B.named
  have hlocks := B.notSynchronized
  subst hsz
  generalize va_A ((wX2 E a0 s0 h0) ++ sW E.2.1 L) s.heap.size = A0 at hD0 hA hAB ⊢
  have hDD : ∀ (s0 : St) (h0 : Option SR), va_D A0 ((wX2 E a0 s0 h0) ++ sW E.2.1 L) := fun s0 h0 => vD_addr hD0 rfl
  have hS : va_S A0 s.heap s.heap [] := va_S.rf
  have hl := lv_entry ([.ref (a0 0)]) (n := 1) (Nat.le_of_ble_eq_true rfl)
  rw [lg_entry_eq]
  generalize (lg_sl ([.ref (a0 0)]) ++ List.replicate (1 - (lg_sl ([.ref (a0 0)])).length) Slot.unset).toArray = ls at hl ⊢
  have hl : lv_has ls 1 [(0, .ref (a0 0))] := hl
  refine lv_aload_n hx hb dX2_needNow_0 rfl (lv_at hl 0 rfl) ?_
  refine va_get (ci := 2) (C := RX2) (T := TX2) (N := 11) (v := hv h0) hx hb hts i_X2_needNow_X2 hown hK hP 0 rfl rfl 9 (by decide) (hts _ m_X2_needNow_2ad546) (fun _ h9 => h9) rfl dX2_needNow_1 ?_
  rcases opt_or h0 with hh_4 | ⟨R4, hh_4⟩
  · have hf := onl_n hh_4 hf
    refine W.eq (g2 := F0 m 4 ls (.null :: [])) (by rw [hh_4]; rfl) ?_
    refine lv_ifnonnullN hx hb dX2_needNow_4 ?_
    refine lv_iconst (v := 1) hx hb dX2_needNow_7 (by decide) ?_
    refine lv_goto (tgt := 18) hx hb dX2_needNow_8 (by decide) ?_
    have e9 := Option.some.inj hf
    exact rt_i hx hb hr hlocks e9 hP hS dX2_needNow_18
  · have hf := onl_s hh_4 hf
    obtain ⟨hR_R4, hf⟩ := cp_e hf
    refine W.eq (g2 := F0 m 4 ls (.ref R4.1 :: [])) (by rw [hh_4]; rfl) ?_
    refine lv_ifnonnull (tgt := 11) hx hb dX2_needNow_4 (by decide) ?_
    refine lv_aload_n hx hb dX2_needNow_11 rfl (lv_at hl 0 rfl) ?_
    refine va_get (ci := 2) (C := RX2) (T := TX2) (N := 11) (v := .ref R4.1) hx hb hts i_X2_needNow_X2 hown hK hP 0 rfl rfl 9 (by decide) (hts _ m_X2_needNow_2ad546) (fun _ h9 => h9) (by show some (hv h0) = _; rw [hh_4]; rfl) dX2_needNow_12 ?_
    obtain ⟨p_15, hs1_15, hs2_15⟩ := sW_get (cI := E.2.1) hR_R4
    have hs1_15 := suf_at (w := wX2 E a0 s0 h0) 7 rfl hs1_15
    have hs2_15 := suf_at (w := wX2 E a0 s0 h0) 7 rfl hs2_15
    refine va_getN (ci := 4) (C := RX4) (T := TX4) (N := 3) (v := .int R4.2.2.2.2.1) hx hb hts i_X2_needNow_X4 hown hK hP _ hs1_15 rfl 1 (by decide) (nwG hG (w := .fieldLinkNest "PickedMatch$Scene" 59 "PickedMatch$Street" "need" "I" "PickedMatch") (by decide +kernel)) (fun _ h9 => h9) rfl dX2_needNow_15 ?_
    have e9 := Option.some.inj hf
    exact rt_i hx hb hr hlocks e9 hP hS dX2_needNow_18
abbrev rm_X2_holdNow : Room := { frames := 0, cells := 0, slots := 0, locals := 0 }
theorem m_X2_holdNow_2ad546 : Cond.fieldLink RX2 51 "PickedMatch$Scene" "held" "LPickedMatch$Street;" ∈ wsX2_holdNow := by decide +kernel
theorem i_X2_holdNow_X2 : ∀ w ∈ wsX20, w ∈ wsX2_holdNow := fun _ h => List.mem_cons_of_mem _ (List.mem_append_left _ (List.mem_append_right _ h))
theorem i_X2_holdNow_X4 : ∀ w ∈ wsX40, w ∈ wsX2_holdNow := fun _ h => List.mem_cons_of_mem _ (List.mem_append_right _ h)
set_option maxHeartbeats 8000000 in
set_option maxRecDepth 100000 in
theorem k_X2_holdNow (l : Launch) (E : Ev) (a0 : Nat → Nat) (L : List SR) (N : Nat) (s0 : St) (h0 : Option SR) (q : (Int32)) (hf : f_X2_holdNow N L h0 = some q) : Ci l yX2_holdNow wsX2_holdNow rm_X2_holdNow E [.ref (a0 0)] ((wX2 E a0 s0 h0) ++ sW E.2.1 L) ((wX2 E a0 s0 h0) ++ sW E.2.1 L) q := by
  unfold f_X2_holdNow at hf
  intro sz
  refine Met.ofW (cc := cX2_holdNow) (maxL := 1) (ret := (some .int)) (by decide) rfl ?_
  intro p e s m args below meth c s₁ B hml hpre
  obtain ⟨rfl, hsz, hP, hK, hD0, hG, hA, hAB⟩ := start hpre
  have hx := B.exec
  have hb := B.bytes
  have hr := B.returns
  have hts := atoms_spec (ws := wsX2_holdNow) B.pre
  have hown : s.vm.findClass RX2 = some m.cls := findClass_of_methodNamed B.named
  have hlocks := B.notSynchronized
  subst hsz
  generalize va_A ((wX2 E a0 s0 h0) ++ sW E.2.1 L) s.heap.size = A0 at hD0 hA hAB ⊢
  have hDD : ∀ (s0 : St) (h0 : Option SR), va_D A0 ((wX2 E a0 s0 h0) ++ sW E.2.1 L) := fun s0 h0 => vD_addr hD0 rfl
  have hS : va_S A0 s.heap s.heap [] := va_S.rf
  have hl := lv_entry ([.ref (a0 0)]) (n := 1) (Nat.le_of_ble_eq_true rfl)
  rw [lg_entry_eq]
  generalize (lg_sl ([.ref (a0 0)]) ++ List.replicate (1 - (lg_sl ([.ref (a0 0)])).length) Slot.unset).toArray = ls at hl ⊢
  have hl : lv_has ls 1 [(0, .ref (a0 0))] := hl
  refine lv_aload_n hx hb dX2_holdNow_0 rfl (lv_at hl 0 rfl) ?_
  refine va_get (ci := 2) (C := RX2) (T := TX2) (N := 11) (v := hv h0) hx hb hts i_X2_holdNow_X2 hown hK hP 0 rfl rfl 9 (by decide) (hts _ m_X2_holdNow_2ad546) (fun _ h9 => h9) rfl dX2_holdNow_1 ?_
  rcases opt_or h0 with hh_4 | ⟨R4, hh_4⟩
  · have hf := onl_n hh_4 hf
    refine W.eq (g2 := F0 m 4 ls (.null :: [])) (by rw [hh_4]; rfl) ?_
    refine lv_ifnonnullN hx hb dX2_holdNow_4 ?_
    refine lv_bipush (v := 6) hx hb dX2_holdNow_7 (by decide) ?_
    refine lv_goto (tgt := 19) hx hb dX2_holdNow_9 (by decide) ?_
    have e9 := Option.some.inj hf
    exact rt_i hx hb hr hlocks e9 hP hS dX2_holdNow_19
  · have hf := onl_s hh_4 hf
    obtain ⟨hR_R4, hf⟩ := cp_e hf
    refine W.eq (g2 := F0 m 4 ls (.ref R4.1 :: [])) (by rw [hh_4]; rfl) ?_
    refine lv_ifnonnull (tgt := 12) hx hb dX2_holdNow_4 (by decide) ?_
    refine lv_aload_n hx hb dX2_holdNow_12 rfl (lv_at hl 0 rfl) ?_
    refine va_get (ci := 2) (C := RX2) (T := TX2) (N := 11) (v := .ref R4.1) hx hb hts i_X2_holdNow_X2 hown hK hP 0 rfl rfl 9 (by decide) (hts _ m_X2_holdNow_2ad546) (fun _ h9 => h9) (by show some (hv h0) = _; rw [hh_4]; rfl) dX2_holdNow_13 ?_
    obtain ⟨p_16, hs1_16, hs2_16⟩ := sW_get (cI := E.2.1) hR_R4
    have hs1_16 := suf_at (w := wX2 E a0 s0 h0) 7 rfl hs1_16
    have hs2_16 := suf_at (w := wX2 E a0 s0 h0) 7 rfl hs2_16
    refine va_getN (ci := 4) (C := RX4) (T := TX4) (N := 3) (v := .int R4.2.2.2.2.2) hx hb hts i_X2_holdNow_X4 hown hK hP _ hs1_16 rfl 2 (by decide) (nwG hG (w := .fieldLinkNest "PickedMatch$Scene" 62 "PickedMatch$Street" "hold" "I" "PickedMatch") (by decide +kernel)) (fun _ h9 => h9) rfl dX2_holdNow_16 ?_
    have e9 := Option.some.inj hf
    exact rt_i hx hb hr hlocks e9 hP hS dX2_holdNow_19
