/-! ===== what the methods compute, and that they do: by program out of the bytecode (wip/gen) ===== -/
abbrev rm_X7_count : Room := { frames := 0, cells := 0, slots := 0, locals := 0 }
theorem m_X7_count_265b14 : Cond.fieldLink RX7 12 "PickedMatch" "scene" "LPickedMatch$Scene;" ∈ wsX7_count := by decide +kernel
theorem i_X7_count_X7 : ∀ w ∈ wsX70, w ∈ wsX7_count := fun _ h => List.mem_cons_of_mem _ (List.mem_append_left _ (List.mem_append_left _ (List.mem_append_left _ (List.mem_append_left _ (List.mem_append_right _ h)))))
theorem i_X7_count_X2 : ∀ w ∈ wsX20, w ∈ wsX7_count := fun _ h => List.mem_cons_of_mem _ (List.mem_append_left _ (List.mem_append_left _ (List.mem_append_left _ (List.mem_append_right _ h))))
theorem m_X7_count_c104ba : Cond.fieldLink RX7 121 "PickedMatch" "streetCount" "I" ∈ wsX7_count := by decide +kernel
theorem m_X7_count_6a5209 : Cond.fieldLink RX7 24 "PickedMatch" "notes" "LPickedMatch$Notes;" ∈ wsX7_count := by decide +kernel
theorem i_X7_count_X1 : ∀ w ∈ wsX10, w ∈ wsX7_count := fun _ h => List.mem_cons_of_mem _ (List.mem_append_left _ (List.mem_append_left _ (List.mem_append_right _ h)))
theorem m_X7_count_d00ad8 : Cond.fieldLink RX7 37 "PickedMatch" "reader" "LPickedMatch$StreetReader;" ∈ wsX7_count := by decide +kernel
theorem i_X7_count_X5 : ∀ w ∈ wsX50, w ∈ wsX7_count := fun _ h => List.mem_cons_of_mem _ (List.mem_append_left _ (List.mem_append_right _ h))
theorem m_X7_count_e811b9 : Cond.fieldLink RX7 51 "PickedMatch" "acts" "LPickedMatch$Acts;" ∈ wsX7_count := by decide +kernel
theorem i_X7_count_X0 : ∀ w ∈ wsX00, w ∈ wsX7_count := fun _ h => List.mem_cons_of_mem _ (List.mem_append_right _ h)
set_option maxHeartbeats 8000000 in
set_option maxRecDepth 100000 in
theorem k_X7_count (l : Launch) (E : Ev) (a0 : Nat → Nat) (a1 : Nat → Nat) (a2 : Nat → Nat) (a3 : Nat → Nat) (a4 : Nat → Nat) (a5 : Nat → Nat) (a6 : Nat → Nat) (a7 : Nat → Nat) (a8 : Nat → Nat) (a9 : Nat → Nat) (L : List SR) (N : Nat) (s0 : St) (s1 : St) (h1 : Option SR) (s2 : St) (h2 : Option SR) (s3 : St) (s4 : St) (h4 : Option SR) (s5 : St) (s6 : St) (s7 : St) (s8 : St) (s9 : St) (t9 : Nat → Nat → Int64) (p1 : Int32) (q : (Int32)) (hf : f_X7_count N s0 s1 s3 s6 s8 p1 = some q) : Ci l yX7_count wsX7_count rm_X7_count E [.ref (a0 0), .int p1] ((wX7o E a0 a1 a2 a3 a4 a5 a6 a7 a8 a9 s0 ++ (wX2 E a1 s1 h1 ++ (wX2 E a2 s2 h2 ++ (wX1 E a3 s3 ++ (wX2 E a4 s4 h4 ++ (wX1 E a5 s5 ++ (wX5 E a6 s6 ++ (wX3 E a7 s7 ++ (wX0 E a8 s8 ++ (wX6 E a9 s9 t9)))))))))) ++ sW E.2.1 L) ((wX7o E a0 a1 a2 a3 a4 a5 a6 a7 a8 a9 s0 ++ (wX2 E a1 s1 h1 ++ (wX2 E a2 s2 h2 ++ (wX1 E a3 s3 ++ (wX2 E a4 s4 h4 ++ (wX1 E a5 s5 ++ (wX5 E a6 s6 ++ (wX3 E a7 s7 ++ (wX0 E a8 s8 ++ (wX6 E a9 s9 t9)))))))))) ++ sW E.2.1 L) q := by
  unfold f_X7_count at hf
  intro sz
  refine Met.ofW (cc := cX7_count) (maxL := 2) (ret := (some .int)) (by decide) rfl ?_
  intro p e s m args below meth c s₁ B hml hpre
  obtain ⟨rfl, hsz, hP, hK, hD0, hG, hA, hAB⟩ := start hpre
  have hx := B.exec
  have hb := B.bytes
  have hr := B.returns
  have hts := atoms_spec (ws := wsX7_count) B.pre
  have hown : s.vm.findClass RX7 = some m.cls := findClass_of_methodNamed B.named
  have hlocks := B.notSynchronized
  subst hsz
  generalize va_A ((wX7o E a0 a1 a2 a3 a4 a5 a6 a7 a8 a9 s0 ++ (wX2 E a1 s1 h1 ++ (wX2 E a2 s2 h2 ++ (wX1 E a3 s3 ++ (wX2 E a4 s4 h4 ++ (wX1 E a5 s5 ++ (wX5 E a6 s6 ++ (wX3 E a7 s7 ++ (wX0 E a8 s8 ++ (wX6 E a9 s9 t9)))))))))) ++ sW E.2.1 L) s.heap.size = A0 at hD0 hA hAB ⊢
  have hDD : ∀ (s0 : St) (s1 : St) (h1 : Option SR) (s2 : St) (h2 : Option SR) (s3 : St) (s4 : St) (h4 : Option SR) (s5 : St) (s6 : St) (s7 : St) (s8 : St) (s9 : St) (t9 : Nat → Nat → Int64), va_D A0 ((wX7o E a0 a1 a2 a3 a4 a5 a6 a7 a8 a9 s0 ++ (wX2 E a1 s1 h1 ++ (wX2 E a2 s2 h2 ++ (wX1 E a3 s3 ++ (wX2 E a4 s4 h4 ++ (wX1 E a5 s5 ++ (wX5 E a6 s6 ++ (wX3 E a7 s7 ++ (wX0 E a8 s8 ++ (wX6 E a9 s9 t9)))))))))) ++ sW E.2.1 L) := fun s0 s1 h1 s2 h2 s3 s4 h4 s5 s6 s7 s8 s9 t9 => vD_addr hD0 rfl
  have hS : va_S A0 s.heap s.heap [] := va_S.rf
  have hl := lv_entry ([.ref (a0 0), .int p1]) (n := 2) (Nat.le_of_ble_eq_true rfl)
  rw [lg_entry_eq]
  generalize (lg_sl ([.ref (a0 0), .int p1]) ++ List.replicate (2 - (lg_sl ([.ref (a0 0), .int p1])).length) Slot.unset).toArray = ls at hl ⊢
  have hl : lv_has ls 2 [(0, .ref (a0 0)), (1, .int p1)] := hl
  refine lv_iload_n hx hb dX7_count_0 rfl (lv_at hl 1 rfl) ?_
  by_cases c_1_0 : p1 = 0
  · have hf := ite_t c_1_0 hf
    refine lv_tableIn (off := 47) (tgt := 48) hx hb dX7_count_1 (by rw [c_1_0]; decide) (by rw [c_1_0]; decide) (by rw [c_1_0]; rfl) (by decide) ?_
    refine lv_aload_n hx hb dX7_count_48 rfl (lv_at hl 0 rfl) ?_
    refine va_get (ci := 7) (C := RX7) (T := TX7) (N := 11) (v := .ref (a1 0)) hx hb hts i_X7_count_X7 hown hK hP 0 rfl rfl 0 (by decide) (hts _ m_X7_count_265b14) (fun _ h9 => h9) rfl dX7_count_49 ?_
    refine va_getN (ci := 2) (C := RX2) (T := TX2) (N := 11) (v := .int (s1 0 0)) hx hb hts i_X7_count_X2 hown hK hP 1 rfl rfl 0 (by decide) (nwG hG (w := .fieldLinkNest "PickedMatch" 66 "PickedMatch$Scene" "things" "I" "PickedMatch") (by decide +kernel)) (fun _ h9 => h9) rfl dX7_count_52 ?_
    have e9 := Option.some.inj hf
    exact rt_i hx hb hr hlocks e9 hP hS dX7_count_55
  · have hf := ite_f c_1_0 hf
    by_cases c_1_1 : p1 = 1
    · have hf := ite_t c_1_1 hf
      refine lv_tableIn (off := 55) (tgt := 56) hx hb dX7_count_1 (by rw [c_1_1]; decide) (by rw [c_1_1]; decide) (by rw [c_1_1]; rfl) (by decide) ?_
      refine lv_aload_n hx hb dX7_count_56 rfl (lv_at hl 0 rfl) ?_
      refine va_get (ci := 7) (C := RX7) (T := TX7) (N := 11) (v := .int (s0 7 0)) hx hb hts i_X7_count_X7 hown hK hP 0 rfl rfl 7 (by decide) (hts _ m_X7_count_c104ba) (fun _ h9 => h9) rfl dX7_count_57 ?_
      have e9 := Option.some.inj hf
      exact rt_i hx hb hr hlocks e9 hP hS dX7_count_60
    · have hf := ite_f c_1_1 hf
      by_cases c_1_2 : p1 = 2
      · have hf := ite_t c_1_2 hf
        refine lv_tableIn (off := 60) (tgt := 61) hx hb dX7_count_1 (by rw [c_1_2]; decide) (by rw [c_1_2]; decide) (by rw [c_1_2]; rfl) (by decide) ?_
        refine lv_aload_n hx hb dX7_count_61 rfl (lv_at hl 0 rfl) ?_
        refine va_get (ci := 7) (C := RX7) (T := TX7) (N := 11) (v := .ref (a1 0)) hx hb hts i_X7_count_X7 hown hK hP 0 rfl rfl 0 (by decide) (hts _ m_X7_count_265b14) (fun _ h9 => h9) rfl dX7_count_62 ?_
        refine va_getN (ci := 2) (C := RX2) (T := TX2) (N := 11) (v := .int (s1 6 0)) hx hb hts i_X7_count_X2 hown hK hP 1 rfl rfl 6 (by decide) (nwG hG (w := .fieldLinkNest "PickedMatch" 108 "PickedMatch$Scene" "hadCount" "I" "PickedMatch") (by decide +kernel)) (fun _ h9 => h9) rfl dX7_count_65 ?_
        have e9 := Option.some.inj hf
        exact rt_i hx hb hr hlocks e9 hP hS dX7_count_68
      · have hf := ite_f c_1_2 hf
        by_cases c_1_3 : p1 = 3
        · have hf := ite_t c_1_3 hf
          refine lv_tableIn (off := 68) (tgt := 69) hx hb dX7_count_1 (by rw [c_1_3]; decide) (by rw [c_1_3]; decide) (by rw [c_1_3]; rfl) (by decide) ?_
          refine lv_aload_n hx hb dX7_count_69 rfl (lv_at hl 0 rfl) ?_
          refine va_get (ci := 7) (C := RX7) (T := TX7) (N := 11) (v := .ref (a3 0)) hx hb hts i_X7_count_X7 hown hK hP 0 rfl rfl 2 (by decide) (hts _ m_X7_count_6a5209) (fun _ h9 => h9) rfl dX7_count_70 ?_
          refine va_getN (ci := 1) (C := RX1) (T := TX1) (N := 10) (v := .int (s3 3 0)) hx hb hts i_X7_count_X1 hown hK hP 15 rfl rfl 3 (by decide) (nwG hG (w := .fieldLinkNest "PickedMatch" 206 "PickedMatch$Notes" "seenCount" "I" "PickedMatch") (by decide +kernel)) (fun _ h9 => h9) rfl dX7_count_73 ?_
          have e9 := Option.some.inj hf
          exact rt_i hx hb hr hlocks e9 hP hS dX7_count_76
        · have hf := ite_f c_1_3 hf
          by_cases c_1_4 : p1 = 4
          · have hf := ite_t c_1_4 hf
            refine lv_tableIn (off := 76) (tgt := 77) hx hb dX7_count_1 (by rw [c_1_4]; decide) (by rw [c_1_4]; decide) (by rw [c_1_4]; rfl) (by decide) ?_
            refine lv_aload_n hx hb dX7_count_77 rfl (lv_at hl 0 rfl) ?_
            refine va_get (ci := 7) (C := RX7) (T := TX7) (N := 11) (v := .ref (a3 0)) hx hb hts i_X7_count_X7 hown hK hP 0 rfl rfl 2 (by decide) (hts _ m_X7_count_6a5209) (fun _ h9 => h9) rfl dX7_count_78 ?_
            refine va_getN (ci := 1) (C := RX1) (T := TX1) (N := 10) (v := .int (s3 6 0)) hx hb hts i_X7_count_X1 hown hK hP 15 rfl rfl 6 (by decide) (nwG hG (w := .fieldLinkNest "PickedMatch" 228 "PickedMatch$Notes" "weekCount" "I" "PickedMatch") (by decide +kernel)) (fun _ h9 => h9) rfl dX7_count_81 ?_
            have e9 := Option.some.inj hf
            exact rt_i hx hb hr hlocks e9 hP hS dX7_count_84
          · have hf := ite_f c_1_4 hf
            by_cases c_1_5 : p1 = 5
            · have hf := ite_t c_1_5 hf
              refine lv_tableIn (off := 84) (tgt := 85) hx hb dX7_count_1 (by rw [c_1_5]; decide) (by rw [c_1_5]; decide) (by rw [c_1_5]; rfl) (by decide) ?_
              refine lv_aload_n hx hb dX7_count_85 rfl (lv_at hl 0 rfl) ?_
              refine va_get (ci := 7) (C := RX7) (T := TX7) (N := 11) (v := .ref (a3 0)) hx hb hts i_X7_count_X7 hown hK hP 0 rfl rfl 2 (by decide) (hts _ m_X7_count_6a5209) (fun _ h9 => h9) rfl dX7_count_86 ?_
              refine va_getN (ci := 1) (C := RX1) (T := TX1) (N := 10) (v := .int (s3 9 0)) hx hb hts i_X7_count_X1 hown hK hP 15 rfl rfl 9 (by decide) (nwG hG (w := .fieldLinkNest "PickedMatch" 238 "PickedMatch$Notes" "bookCount" "I" "PickedMatch") (by decide +kernel)) (fun _ h9 => h9) rfl dX7_count_89 ?_
              have e9 := Option.some.inj hf
              exact rt_i hx hb hr hlocks e9 hP hS dX7_count_92
            · have hf := ite_f c_1_5 hf
              by_cases c_1_6 : p1 = 6
              · have hf := ite_t c_1_6 hf
                refine lv_tableIn (off := 92) (tgt := 93) hx hb dX7_count_1 (by rw [c_1_6]; decide) (by rw [c_1_6]; decide) (by rw [c_1_6]; rfl) (by decide) ?_
                refine lv_aload_n hx hb dX7_count_93 rfl (lv_at hl 0 rfl) ?_
                refine va_get (ci := 7) (C := RX7) (T := TX7) (N := 11) (v := .ref (a6 0)) hx hb hts i_X7_count_X7 hown hK hP 0 rfl rfl 6 (by decide) (hts _ m_X7_count_d00ad8) (fun _ h9 => h9) rfl dX7_count_94 ?_
                refine va_getN (ci := 5) (C := RX5) (T := TX5) (N := 8) (v := .int (s6 1 0)) hx hb hts i_X7_count_X5 hown hK hP 38 rfl rfl 1 (by decide) (nwG hG (w := .fieldLinkNest "PickedMatch" 115 "PickedMatch$StreetReader" "length" "I" "PickedMatch") (by decide +kernel)) (fun _ h9 => h9) rfl dX7_count_97 ?_
                have e9 := Option.some.inj hf
                exact rt_i hx hb hr hlocks e9 hP hS dX7_count_100
              · have hf := ite_f c_1_6 hf
                by_cases c_1_7 : p1 = 7
                · have hf := ite_t c_1_7 hf
                  refine lv_tableIn (off := 100) (tgt := 101) hx hb dX7_count_1 (by rw [c_1_7]; decide) (by rw [c_1_7]; decide) (by rw [c_1_7]; rfl) (by decide) ?_
                  refine lv_aload_n hx hb dX7_count_101 rfl (lv_at hl 0 rfl) ?_
                  refine va_get (ci := 7) (C := RX7) (T := TX7) (N := 11) (v := .ref (a8 0)) hx hb hts i_X7_count_X7 hown hK hP 0 rfl rfl 9 (by decide) (hts _ m_X7_count_e811b9) (fun _ h9 => h9) rfl dX7_count_102 ?_
                  refine va_getN (ci := 0) (C := RX0) (T := TX0) (N := 5) (v := .int (s8 1 0)) hx hb hts i_X7_count_X0 hown hK hP 44 rfl rfl 1 (by decide) (nwG hG (w := .fieldLinkNest "PickedMatch" 284 "PickedMatch$Acts" "ran" "I" "PickedMatch") (by decide +kernel)) (fun _ h9 => h9) rfl dX7_count_105 ?_
                  have e9 := Option.some.inj hf
                  exact rt_i hx hb hr hlocks e9 hP hS dX7_count_108
                · have hf := ite_f c_1_7 hf
                  refine lv_tableOut (tgt := 109) hx hb dX7_count_1 (by have n0 := lv_neT (a := 0) c_1_0 (by decide); have n1 := lv_neT (a := 1) c_1_1 (by decide); have n2 := lv_neT (a := 2) c_1_2 (by decide); have n3 := lv_neT (a := 3) c_1_3 (by decide); have n4 := lv_neT (a := 4) c_1_4 (by decide); have n5 := lv_neT (a := 5) c_1_5 (by decide); have n6 := lv_neT (a := 6) c_1_6 (by decide); have n7 := lv_neT (a := 7) c_1_7 (by decide); omega) (by decide) ?_
                  refine lv_bipush (v := (-2)) hx hb dX7_count_109 (by decide) ?_
                  have e9 := Option.some.inj hf
                  exact rt_i hx hb hr hlocks e9 hP hS dX7_count_111
abbrev rm_X7_tape : Room := { frames := 1, cells := 0, slots := 0, locals := 24 }
theorem m_X7_tape_12bc67 : Cond.fieldLink RX7 58 "PickedMatch" "tapes" "LPickedMatch$Tapes;" ∈ wsX7_tape := by decide +kernel
theorem i_X7_tape_X7 : ∀ w ∈ wsX70, w ∈ wsX7_tape := fun _ h => List.mem_cons_of_mem _ (List.mem_append_left _ (List.mem_append_right _ h))
theorem m_X7_tape_4512f1 : Cond.initialized RX6 ∈ wsX7_tape := by decide +kernel
theorem m_X7_tape_2bff22 : Cond.instanceMethod yX6_hasTape ∈ wsX7_tape := by decide +kernel
theorem m_X7_tape_753aea : Cond.selects RX6 yX6_hasTape yX6_hasTape ∈ wsX7_tape := by decide +kernel
theorem m_X7_tape_1f689e : Cond.instanceMethod yX6_makeRow ∈ wsX7_tape := by decide +kernel
theorem m_X7_tape_3aa59f : Cond.selects RX6 yX6_makeRow yX6_makeRow ∈ wsX7_tape := by decide +kernel
set_option maxHeartbeats 8000000 in
set_option maxRecDepth 100000 in
theorem k_X7_tape (l : Launch) (E : Ev) (a0 : Nat → Nat) (a1 : Nat → Nat) (a2 : Nat → Nat) (a3 : Nat → Nat) (a4 : Nat → Nat) (a5 : Nat → Nat) (a6 : Nat → Nat) (a7 : Nat → Nat) (a8 : Nat → Nat) (a9 : Nat → Nat) (L : List SR) (N : Nat) (s0 : St) (s1 : St) (h1 : Option SR) (s2 : St) (h2 : Option SR) (s3 : St) (s4 : St) (h4 : Option SR) (s5 : St) (s6 : St) (s7 : St) (s8 : St) (s9 : St) (t9 : Nat → Nat → Int64) (p1 : Int32) (p2 : Int32) (p3 : Int32) (q : (Int32 × St × (Nat → Nat → Int64))) (hf : f_X7_tape N s9 t9 p1 p2 p3 = some q) : Ci l yX7_tape wsX7_tape rm_X7_tape E [.ref (a0 0), .int p1, .int p2, .int p3] ((wX7o E a0 a1 a2 a3 a4 a5 a6 a7 a8 a9 s0 ++ (wX2 E a1 s1 h1 ++ (wX2 E a2 s2 h2 ++ (wX1 E a3 s3 ++ (wX2 E a4 s4 h4 ++ (wX1 E a5 s5 ++ (wX5 E a6 s6 ++ (wX3 E a7 s7 ++ (wX0 E a8 s8 ++ (wX6 E a9 s9 t9)))))))))) ++ sW E.2.1 L) ((wX7o E a0 a1 a2 a3 a4 a5 a6 a7 a8 a9 s0 ++ (wX2 E a1 s1 h1 ++ (wX2 E a2 s2 h2 ++ (wX1 E a3 s3 ++ (wX2 E a4 s4 h4 ++ (wX1 E a5 s5 ++ (wX5 E a6 s6 ++ (wX3 E a7 s7 ++ (wX0 E a8 s8 ++ (wX6 E a9 q.2.1 q.2.2)))))))))) ++ sW E.2.1 L) q.1 := by
  unfold f_X7_tape at hf
  intro sz
  refine Met.ofW (cc := cX7_tape) (maxL := 4) (ret := (some .int)) (by decide) rfl ?_
  intro p e s m args below meth c s₁ B hml hpre
  obtain ⟨rfl, hsz, hP, hK, hD0, hG, hA, hAB⟩ := start hpre
  have hx := B.exec
  have hb := B.bytes
  have hr := B.returns
  have hts := atoms_spec (ws := wsX7_tape) B.pre
  have hown : s.vm.findClass RX7 = some m.cls := findClass_of_methodNamed B.named
  have hlocks := B.notSynchronized
  subst hsz
  generalize va_A ((wX7o E a0 a1 a2 a3 a4 a5 a6 a7 a8 a9 s0 ++ (wX2 E a1 s1 h1 ++ (wX2 E a2 s2 h2 ++ (wX1 E a3 s3 ++ (wX2 E a4 s4 h4 ++ (wX1 E a5 s5 ++ (wX5 E a6 s6 ++ (wX3 E a7 s7 ++ (wX0 E a8 s8 ++ (wX6 E a9 s9 t9)))))))))) ++ sW E.2.1 L) s.heap.size = A0 at hD0 hA hAB ⊢
  have hDD : ∀ (s0 : St) (s1 : St) (h1 : Option SR) (s2 : St) (h2 : Option SR) (s3 : St) (s4 : St) (h4 : Option SR) (s5 : St) (s6 : St) (s7 : St) (s8 : St) (s9 : St) (t9 : Nat → Nat → Int64), va_D A0 ((wX7o E a0 a1 a2 a3 a4 a5 a6 a7 a8 a9 s0 ++ (wX2 E a1 s1 h1 ++ (wX2 E a2 s2 h2 ++ (wX1 E a3 s3 ++ (wX2 E a4 s4 h4 ++ (wX1 E a5 s5 ++ (wX5 E a6 s6 ++ (wX3 E a7 s7 ++ (wX0 E a8 s8 ++ (wX6 E a9 s9 t9)))))))))) ++ sW E.2.1 L) := fun s0 s1 h1 s2 h2 s3 s4 h4 s5 s6 s7 s8 s9 t9 => vD_addr hD0 rfl
  have hS : va_S A0 s.heap s.heap [] := va_S.rf
  have hl := lv_entry ([.ref (a0 0), .int p1, .int p2, .int p3]) (n := 4) (Nat.le_of_ble_eq_true rfl)
  rw [lg_entry_eq]
  generalize (lg_sl ([.ref (a0 0), .int p1, .int p2, .int p3]) ++ List.replicate (4 - (lg_sl ([.ref (a0 0), .int p1, .int p2, .int p3])).length) Slot.unset).toArray = ls at hl ⊢
  have hl : lv_has ls 4 [(0, .ref (a0 0)), (1, .int p1), (2, .int p2), (3, .int p3)] := hl
  refine lv_aload_n hx hb dX7_tape_0 rfl (lv_at hl 0 rfl) ?_
  refine va_get (ci := 7) (C := RX7) (T := TX7) (N := 11) (v := .ref (a9 0)) hx hb hts i_X7_tape_X7 hown hK hP 0 rfl rfl 10 (by decide) (hts _ m_X7_tape_12bc67) (fun _ h9 => h9) rfl dX7_tape_1 ?_
  refine lv_iload_n hx hb dX7_tape_4 rfl (lv_at hl 1 rfl) ?_
  obtain ⟨q5, hc_5, hf⟩ := cl_e hf
  have hm_5 : ∀ q ∈ wX6 E a9 s9 t9, q ∈ (wX7o E a0 a1 a2 a3 a4 a5 a6 a7 a8 a9 s0 ++ (wX2 E a1 s1 h1 ++ (wX2 E a2 s2 h2 ++ (wX1 E a3 s3 ++ (wX2 E a4 s4 h4 ++ (wX1 E a5 s5 ++ (wX5 E a6 s6 ++ (wX3 E a7 s7 ++ (wX0 E a8 s8 ++ (wX6 E a9 s9 t9)))))))))) ++ sW E.2.1 L := (inl_mem (sub_mem (suf := []) [46, 47, 48, 49] rfl))
  refine fin_i (E := E) (wc := wX6 E a9 s9 t9) (wc' := wX6 E a9 s9 t9) (va_runVN (As := [.int p1]) (rest := []) ⟨hx, hb, hml, hown, hts⟩ (k_X6_hasTape l E a9 N s9 t9 p1 q5 hc_5 _) ⟨va_cnB 1 hts gX7_tape_X6_hasTape_n247 rfl rfl rfl (hG.1 (.methodLinkNest "PickedMatch" 247 yX6_hasTape "PickedMatch") (by decide +kernel)) (hts _ m_X7_tape_4512f1) (by decide +kernel) ⟨(Nat.le_of_ble_eq_true rfl), (Nat.le_of_ble_eq_true rfl)⟩, (hts _ m_X7_tape_2bff22), (hts _ m_X7_tape_753aea)⟩ (pre_v (ci := 6) (q0 := 0) hK (sub_P hm_5 hP) (sub_Dn (ws := wX7o E a0 a1 a2 a3 a4 a5 a6 a7 a8 a9 s0 ++ (wX2 E a1 s1 h1 ++ (wX2 E a2 s2 h2 ++ (wX1 E a3 s3 ++ (wX2 E a4 s4 h4 ++ (wX1 E a5 s5 ++ (wX5 E a6 s6 ++ (wX3 E a7 s7 ++ (wX0 E a8 s8 ++ (wX6 E a9 s9 t9)))))))))) (wc := wX6 E a9 s9 t9) (suf := sW E.2.1 L) [46, 47, 48, 49] (by decide) rfl (hDD s0 s1 h1 s2 h2 s3 s4 h4 s5 s6 s7 s8 s9 t9)) hS hG hAB rfl rfl) rfl rfl hl.1 rfl (lv_room (Nat.le_of_ble_eq_true rfl)) dX7_tape_5 ⟨Nat.zero_le _, Nat.zero_le _⟩) hS (w_free (hDD s0 s1 h1 s2 h2 s3 s4 h4 s5 s6 s7 s8 s9 t9) hS hA hm_5) (fun H locs hP1 hk hS => ?_)
  have hP := w_join (ws' := wX7o E a0 a1 a2 a3 a4 a5 a6 a7 a8 a9 s0 ++ (wX2 E a1 s1 h1 ++ (wX2 E a2 s2 h2 ++ (wX1 E a3 s3 ++ (wX2 E a4 s4 h4 ++ (wX1 E a5 s5 ++ (wX5 E a6 s6 ++ (wX3 E a7 s7 ++ (wX0 E a8 s8 ++ (wX6 E a9 s9 t9)))))))))) (wc := wX6 E a9 s9 t9) (wc' := wX6 E a9 s9 t9) hP (hDD s0 s1 h1 s2 h2 s3 s4 h4 s5 s6 s7 s8 s9 t9) [46, 47, 48, 49] rfl [none, none, none, none, none, none, none, none, none, none, none, none, none, none, none, none, none, none, none, none, none, none, none, none, none, none, none, none, none, none, none, none, none, none, none, none, none, none, none, none, none, none, none, none, none, none, some 0, some 1, some 2, some 3] rfl rfl hk hP1
  refine lv_if_ne (tgt := 13) hx hb dX7_tape_8 (by decide) (fun c_8 => ?_) (fun c_8 => ?_)
  · have hf := ite_f c_8 hf
    refine lv_iload_n hx hb dX7_tape_13 rfl (lv_at hl 2 rfl) ?_
    refine lv_iconst (v := (-1)) hx hb dX7_tape_14 (by decide) ?_
    refine lv_icmp_ne (tgt := 30) hx hb dX7_tape_15 (by decide) (fun c_15 => ?_) (fun c_15 => ?_)
    · have hf := ite_f c_15 hf
      refine lv_iload_n hx hb dX7_tape_30 rfl (lv_at hl 2 rfl) ?_
      refine lv_iconst (v := 0) hx hb dX7_tape_31 (by decide) ?_
      refine lv_iconst (v := 4) hx hb dX7_tape_32 (by decide) ?_
      obtain ⟨q33, hc_33, hf⟩ := cl_e hf
      refine fin_i (E := E) (wc := ([] : va_W)) (wc' := ([] : va_W)) (va_runS (As := [.int p2, .int 0, .int 4]) (rest := []) ⟨hx, hb, hml, hown, hts⟩ (k_X7_isWithin l E N p2 0 4 q33 hc_33 _) (va_cwS 3 hts gX7_tape_X7_isWithin rfl rfl rfl (by decide +kernel) ⟨(Nat.le_of_ble_eq_true rfl), (Nat.le_of_ble_eq_true rfl)⟩) (pre_s hK va_P_nil va_D_nil hS hG hAB) rfl rfl hl.1 rfl (lv_room (Nat.le_of_ble_eq_true rfl)) dX7_tape_33 ⟨Nat.zero_le _, Nat.zero_le _⟩) hS (free_nil hS hA) (fun H locs hP1 hk hS => ?_)
      have hP := w_kept0 hP hk
      refine lv_if_eq (tgt := 45) hx hb dX7_tape_36 (by decide) (fun c_36 => ?_) (fun c_36 => ?_)
      · have hf := ite_t c_36 hf
        refine lv_bipush (v := (-2)) hx hb dX7_tape_45 (by decide) ?_
        have e9 := Option.some.inj hf
        have h9_0 : s9 = q.2.1 := congrArg (fun z => z.2.1) e9
        have h9_1 : t9 = q.2.2 := congrArg (fun z => z.2.2) e9
        have hP9 : va_P E.1 vwCl ((wX7o E a0 a1 a2 a3 a4 a5 a6 a7 a8 a9 s0 ++ (wX2 E a1 s1 h1 ++ (wX2 E a2 s2 h2 ++ (wX1 E a3 s3 ++ (wX2 E a4 s4 h4 ++ (wX1 E a5 s5 ++ (wX5 E a6 s6 ++ (wX3 E a7 s7 ++ (wX0 E a8 s8 ++ (wX6 E a9 q.2.1 q.2.2)))))))))) ++ sW E.2.1 L) H := by rw [← h9_0, ← h9_1]; exact hP
        exact rt_i hx hb hr hlocks (fst_e e9) hP9 hS dX7_tape_47
      · have hf := ite_f c_36 hf
        refine lv_iload_n hx hb dX7_tape_39 rfl (lv_at hl 3 rfl) ?_
        refine lv_bipush (v := 60) hx hb dX7_tape_40 (by decide) ?_
        refine lv_icmp_le (tgt := 48) hx hb dX7_tape_42 (by decide) (fun c_42 => ?_) (fun c_42 => ?_)
        · have hf := ite_t c_42 hf
          refine lv_iload_n hx hb dX7_tape_48 rfl (lv_at hl 3 rfl) ?_
          refine lv_if_ge (tgt := 55) hx hb dX7_tape_49 (by decide) (fun c_49 => ?_) (fun c_49 => ?_)
          · have hf := ite_t c_49 hf
            refine lv_aload_n hx hb dX7_tape_55 rfl (lv_at hl 0 rfl) ?_
            refine va_get (ci := 7) (C := RX7) (T := TX7) (N := 11) (v := .ref (a9 0)) hx hb hts i_X7_tape_X7 hown hK hP 0 rfl rfl 10 (by decide) (hts _ m_X7_tape_12bc67) (fun _ h9 => h9) rfl dX7_tape_56 ?_
            refine lv_iload_n hx hb dX7_tape_59 rfl (lv_at hl 1 rfl) ?_
            refine lv_iload_n hx hb dX7_tape_60 rfl (lv_at hl 2 rfl) ?_
            refine lv_iload_n hx hb dX7_tape_61 rfl (lv_at hl 3 rfl) ?_
            obtain ⟨q62, hc_62, hf⟩ := cl_e hf
            have hm_62 : ∀ q ∈ wX6 E a9 s9 t9, q ∈ (wX7o E a0 a1 a2 a3 a4 a5 a6 a7 a8 a9 s0 ++ (wX2 E a1 s1 h1 ++ (wX2 E a2 s2 h2 ++ (wX1 E a3 s3 ++ (wX2 E a4 s4 h4 ++ (wX1 E a5 s5 ++ (wX5 E a6 s6 ++ (wX3 E a7 s7 ++ (wX0 E a8 s8 ++ (wX6 E a9 s9 t9)))))))))) ++ sW E.2.1 L := (inl_mem (sub_mem (suf := []) [46, 47, 48, 49] rfl))
            refine fin_v (E := E) (wc := wX6 E a9 s9 t9) (wc' := wX6 E a9 q62.1 q62.2) (va_runVN (As := [.int p1, .int p2, .int p3]) (rest := []) ⟨hx, hb, hml, hown, hts⟩ (k_X6_makeRow l E a9 N s9 t9 p1 p2 p3 q62 hc_62 _) ⟨va_cnB 3 hts gX7_tape_X6_makeRow_n287 rfl rfl rfl (hG.1 (.methodLinkNest "PickedMatch" 287 yX6_makeRow "PickedMatch") (by decide +kernel)) (hts _ m_X7_tape_4512f1) (by decide +kernel) ⟨(Nat.le_of_ble_eq_true rfl), (Nat.le_of_ble_eq_true rfl)⟩, (hts _ m_X7_tape_1f689e), (hts _ m_X7_tape_3aa59f)⟩ (pre_v (ci := 6) (q0 := 0) hK (sub_P hm_62 hP) (sub_Dn (ws := wX7o E a0 a1 a2 a3 a4 a5 a6 a7 a8 a9 s0 ++ (wX2 E a1 s1 h1 ++ (wX2 E a2 s2 h2 ++ (wX1 E a3 s3 ++ (wX2 E a4 s4 h4 ++ (wX1 E a5 s5 ++ (wX5 E a6 s6 ++ (wX3 E a7 s7 ++ (wX0 E a8 s8 ++ (wX6 E a9 s9 t9)))))))))) (wc := wX6 E a9 s9 t9) (suf := sW E.2.1 L) [46, 47, 48, 49] (by decide) rfl (hDD s0 s1 h1 s2 h2 s3 s4 h4 s5 s6 s7 s8 s9 t9)) hS hG hAB rfl rfl) rfl rfl hl.1 rfl (lv_room (Nat.le_of_ble_eq_true rfl)) dX7_tape_62 ⟨Nat.zero_le _, Nat.zero_le _⟩) hS (w_free (hDD s0 s1 h1 s2 h2 s3 s4 h4 s5 s6 s7 s8 s9 t9) hS hA hm_62) (fun H locs hP1 hk hS => ?_)
            have hP := w_join (ws' := wX7o E a0 a1 a2 a3 a4 a5 a6 a7 a8 a9 s0 ++ (wX2 E a1 s1 h1 ++ (wX2 E a2 s2 h2 ++ (wX1 E a3 s3 ++ (wX2 E a4 s4 h4 ++ (wX1 E a5 s5 ++ (wX5 E a6 s6 ++ (wX3 E a7 s7 ++ (wX0 E a8 s8 ++ (wX6 E a9 q62.1 q62.2)))))))))) (wc := wX6 E a9 s9 t9) (wc' := wX6 E a9 q62.1 q62.2) hP (hDD s0 s1 h1 s2 h2 s3 s4 h4 s5 s6 s7 s8 s9 t9) [46, 47, 48, 49] rfl [none, none, none, none, none, none, none, none, none, none, none, none, none, none, none, none, none, none, none, none, none, none, none, none, none, none, none, none, none, none, none, none, none, none, none, none, none, none, none, none, none, none, none, none, none, none, some 0, some 1, some 2, some 3] rfl rfl hk hP1
            refine lv_iconst (v := 1) hx hb dX7_tape_65 (by decide) ?_
            have e9 := Option.some.inj hf
            have h9_0 : q62.1 = q.2.1 := congrArg (fun z => z.2.1) e9
            have h9_1 : q62.2 = q.2.2 := congrArg (fun z => z.2.2) e9
            have hP9 : va_P E.1 vwCl ((wX7o E a0 a1 a2 a3 a4 a5 a6 a7 a8 a9 s0 ++ (wX2 E a1 s1 h1 ++ (wX2 E a2 s2 h2 ++ (wX1 E a3 s3 ++ (wX2 E a4 s4 h4 ++ (wX1 E a5 s5 ++ (wX5 E a6 s6 ++ (wX3 E a7 s7 ++ (wX0 E a8 s8 ++ (wX6 E a9 q.2.1 q.2.2)))))))))) ++ sW E.2.1 L) H := by rw [← h9_0, ← h9_1]; exact hP
            exact rt_i hx hb hr hlocks (fst_e e9) hP9 hS dX7_tape_66
          · have hf := ite_f c_49 hf
            refine lv_bipush (v := (-14)) hx hb dX7_tape_52 (by decide) ?_
            have e9 := Option.some.inj hf
            have h9_0 : s9 = q.2.1 := congrArg (fun z => z.2.1) e9
            have h9_1 : t9 = q.2.2 := congrArg (fun z => z.2.2) e9
            have hP9 : va_P E.1 vwCl ((wX7o E a0 a1 a2 a3 a4 a5 a6 a7 a8 a9 s0 ++ (wX2 E a1 s1 h1 ++ (wX2 E a2 s2 h2 ++ (wX1 E a3 s3 ++ (wX2 E a4 s4 h4 ++ (wX1 E a5 s5 ++ (wX5 E a6 s6 ++ (wX3 E a7 s7 ++ (wX0 E a8 s8 ++ (wX6 E a9 q.2.1 q.2.2)))))))))) ++ sW E.2.1 L) H := by rw [← h9_0, ← h9_1]; exact hP
            exact rt_i hx hb hr hlocks (fst_e e9) hP9 hS dX7_tape_54
        · have hf := ite_f c_42 hf
          refine lv_bipush (v := (-2)) hx hb dX7_tape_45 (by decide) ?_
          have e9 := Option.some.inj hf
          have h9_0 : s9 = q.2.1 := congrArg (fun z => z.2.1) e9
          have h9_1 : t9 = q.2.2 := congrArg (fun z => z.2.2) e9
          have hP9 : va_P E.1 vwCl ((wX7o E a0 a1 a2 a3 a4 a5 a6 a7 a8 a9 s0 ++ (wX2 E a1 s1 h1 ++ (wX2 E a2 s2 h2 ++ (wX1 E a3 s3 ++ (wX2 E a4 s4 h4 ++ (wX1 E a5 s5 ++ (wX5 E a6 s6 ++ (wX3 E a7 s7 ++ (wX0 E a8 s8 ++ (wX6 E a9 q.2.1 q.2.2)))))))))) ++ sW E.2.1 L) H := by rw [← h9_0, ← h9_1]; exact hP
          exact rt_i hx hb hr hlocks (fst_e e9) hP9 hS dX7_tape_47
    · have hf := ite_t c_15 hf
      refine lv_aload_n hx hb dX7_tape_18 rfl (lv_at hl 0 rfl) ?_
      refine va_get (ci := 7) (C := RX7) (T := TX7) (N := 11) (v := .ref (a9 0)) hx hb hts i_X7_tape_X7 hown hK hP 0 rfl rfl 10 (by decide) (hts _ m_X7_tape_12bc67) (fun _ h9 => h9) rfl dX7_tape_19 ?_
      refine lv_iload_n hx hb dX7_tape_22 rfl (lv_at hl 1 rfl) ?_
      refine lv_iconst (v := (-1)) hx hb dX7_tape_23 (by decide) ?_
      refine lv_iconst (v := 0) hx hb dX7_tape_24 (by decide) ?_
      obtain ⟨q25, hc_25, hf⟩ := cl_e hf
      have hm_25 : ∀ q ∈ wX6 E a9 s9 t9, q ∈ (wX7o E a0 a1 a2 a3 a4 a5 a6 a7 a8 a9 s0 ++ (wX2 E a1 s1 h1 ++ (wX2 E a2 s2 h2 ++ (wX1 E a3 s3 ++ (wX2 E a4 s4 h4 ++ (wX1 E a5 s5 ++ (wX5 E a6 s6 ++ (wX3 E a7 s7 ++ (wX0 E a8 s8 ++ (wX6 E a9 s9 t9)))))))))) ++ sW E.2.1 L := (inl_mem (sub_mem (suf := []) [46, 47, 48, 49] rfl))
      refine fin_v (E := E) (wc := wX6 E a9 s9 t9) (wc' := wX6 E a9 q25.1 q25.2) (va_runVN (As := [.int p1, .int (-1), .int 0]) (rest := []) ⟨hx, hb, hml, hown, hts⟩ (k_X6_makeRow l E a9 N s9 t9 p1 (-1) 0 q25 hc_25 _) ⟨va_cnB 3 hts gX7_tape_X6_makeRow_n287 rfl rfl rfl (hG.1 (.methodLinkNest "PickedMatch" 287 yX6_makeRow "PickedMatch") (by decide +kernel)) (hts _ m_X7_tape_4512f1) (by decide +kernel) ⟨(Nat.le_of_ble_eq_true rfl), (Nat.le_of_ble_eq_true rfl)⟩, (hts _ m_X7_tape_1f689e), (hts _ m_X7_tape_3aa59f)⟩ (pre_v (ci := 6) (q0 := 0) hK (sub_P hm_25 hP) (sub_Dn (ws := wX7o E a0 a1 a2 a3 a4 a5 a6 a7 a8 a9 s0 ++ (wX2 E a1 s1 h1 ++ (wX2 E a2 s2 h2 ++ (wX1 E a3 s3 ++ (wX2 E a4 s4 h4 ++ (wX1 E a5 s5 ++ (wX5 E a6 s6 ++ (wX3 E a7 s7 ++ (wX0 E a8 s8 ++ (wX6 E a9 s9 t9)))))))))) (wc := wX6 E a9 s9 t9) (suf := sW E.2.1 L) [46, 47, 48, 49] (by decide) rfl (hDD s0 s1 h1 s2 h2 s3 s4 h4 s5 s6 s7 s8 s9 t9)) hS hG hAB rfl rfl) rfl rfl hl.1 rfl (lv_room (Nat.le_of_ble_eq_true rfl)) dX7_tape_25 ⟨Nat.zero_le _, Nat.zero_le _⟩) hS (w_free (hDD s0 s1 h1 s2 h2 s3 s4 h4 s5 s6 s7 s8 s9 t9) hS hA hm_25) (fun H locs hP1 hk hS => ?_)
      have hP := w_join (ws' := wX7o E a0 a1 a2 a3 a4 a5 a6 a7 a8 a9 s0 ++ (wX2 E a1 s1 h1 ++ (wX2 E a2 s2 h2 ++ (wX1 E a3 s3 ++ (wX2 E a4 s4 h4 ++ (wX1 E a5 s5 ++ (wX5 E a6 s6 ++ (wX3 E a7 s7 ++ (wX0 E a8 s8 ++ (wX6 E a9 q25.1 q25.2)))))))))) (wc := wX6 E a9 s9 t9) (wc' := wX6 E a9 q25.1 q25.2) hP (hDD s0 s1 h1 s2 h2 s3 s4 h4 s5 s6 s7 s8 s9 t9) [46, 47, 48, 49] rfl [none, none, none, none, none, none, none, none, none, none, none, none, none, none, none, none, none, none, none, none, none, none, none, none, none, none, none, none, none, none, none, none, none, none, none, none, none, none, none, none, none, none, none, none, none, none, some 0, some 1, some 2, some 3] rfl rfl hk hP1
      refine lv_iconst (v := 1) hx hb dX7_tape_28 (by decide) ?_
      have e9 := Option.some.inj hf
      have h9_0 : q25.1 = q.2.1 := congrArg (fun z => z.2.1) e9
      have h9_1 : q25.2 = q.2.2 := congrArg (fun z => z.2.2) e9
      have hP9 : va_P E.1 vwCl ((wX7o E a0 a1 a2 a3 a4 a5 a6 a7 a8 a9 s0 ++ (wX2 E a1 s1 h1 ++ (wX2 E a2 s2 h2 ++ (wX1 E a3 s3 ++ (wX2 E a4 s4 h4 ++ (wX1 E a5 s5 ++ (wX5 E a6 s6 ++ (wX3 E a7 s7 ++ (wX0 E a8 s8 ++ (wX6 E a9 q.2.1 q.2.2)))))))))) ++ sW E.2.1 L) H := by rw [← h9_0, ← h9_1]; exact hP
      exact rt_i hx hb hr hlocks (fst_e e9) hP9 hS dX7_tape_29
  · have hf := ite_t c_8 hf
    refine lv_iconst (v := (-1)) hx hb dX7_tape_11 (by decide) ?_
    have e9 := Option.some.inj hf
    have h9_0 : s9 = q.2.1 := congrArg (fun z => z.2.1) e9
    have h9_1 : t9 = q.2.2 := congrArg (fun z => z.2.2) e9
    have hP9 : va_P E.1 vwCl ((wX7o E a0 a1 a2 a3 a4 a5 a6 a7 a8 a9 s0 ++ (wX2 E a1 s1 h1 ++ (wX2 E a2 s2 h2 ++ (wX1 E a3 s3 ++ (wX2 E a4 s4 h4 ++ (wX1 E a5 s5 ++ (wX5 E a6 s6 ++ (wX3 E a7 s7 ++ (wX0 E a8 s8 ++ (wX6 E a9 q.2.1 q.2.2)))))))))) ++ sW E.2.1 L) H := by rw [← h9_0, ← h9_1]; exact hP
    exact rt_i hx hb hr hlocks (fst_e e9) hP9 hS dX7_tape_12
abbrev rm_X7_item : Room := { frames := 2, cells := 0, slots := 0, locals := 46 }
theorem m_X7_item_12bc67 : Cond.fieldLink RX7 58 "PickedMatch" "tapes" "LPickedMatch$Tapes;" ∈ wsX7_item := by decide +kernel
theorem i_X7_item_X7 : ∀ w ∈ wsX70, w ∈ wsX7_item := fun _ h => List.mem_cons_of_mem _ (List.mem_append_left _ (List.mem_append_right _ h))
theorem m_X7_item_4512f1 : Cond.initialized RX6 ∈ wsX7_item := by decide +kernel
theorem m_X7_item_2bff22 : Cond.instanceMethod yX6_hasTape ∈ wsX7_item := by decide +kernel
theorem m_X7_item_753aea : Cond.selects RX6 yX6_hasTape yX6_hasTape ∈ wsX7_item := by decide +kernel
theorem i_X7_item_X6 : ∀ w ∈ wsX60, w ∈ wsX7_item := fun _ h => List.mem_cons_of_mem _ (List.mem_append_right _ h)
theorem m_X7_item_768449 : Cond.instanceMethod yX6_hasPlace ∈ wsX7_item := by decide +kernel
theorem m_X7_item_650fa7 : Cond.selects RX6 yX6_hasPlace yX6_hasPlace ∈ wsX7_item := by decide +kernel
theorem m_X7_item_bbee6e : Cond.instanceMethod yX6_setItem ∈ wsX7_item := by decide +kernel
theorem m_X7_item_469444 : Cond.selects RX6 yX6_setItem yX6_setItem ∈ wsX7_item := by decide +kernel
set_option maxHeartbeats 8000000 in
set_option maxRecDepth 100000 in
theorem k_X7_item (l : Launch) (E : Ev) (a0 : Nat → Nat) (a1 : Nat → Nat) (a2 : Nat → Nat) (a3 : Nat → Nat) (a4 : Nat → Nat) (a5 : Nat → Nat) (a6 : Nat → Nat) (a7 : Nat → Nat) (a8 : Nat → Nat) (a9 : Nat → Nat) (L : List SR) (N : Nat) (s0 : St) (s1 : St) (h1 : Option SR) (s2 : St) (h2 : Option SR) (s3 : St) (s4 : St) (h4 : Option SR) (s5 : St) (s6 : St) (s7 : St) (s8 : St) (s9 : St) (t9 : Nat → Nat → Int64) (p1 : Int32) (p2 : Int32) (p3 : Int64) (q : (Int32 × (Nat → Nat → Int64))) (hf : f_X7_item N s9 t9 p1 p2 p3 = some q) : Ci l yX7_item wsX7_item rm_X7_item E [.ref (a0 0), .int p1, .int p2, .long p3] ((wX7o E a0 a1 a2 a3 a4 a5 a6 a7 a8 a9 s0 ++ (wX2 E a1 s1 h1 ++ (wX2 E a2 s2 h2 ++ (wX1 E a3 s3 ++ (wX2 E a4 s4 h4 ++ (wX1 E a5 s5 ++ (wX5 E a6 s6 ++ (wX3 E a7 s7 ++ (wX0 E a8 s8 ++ (wX6 E a9 s9 t9)))))))))) ++ sW E.2.1 L) ((wX7o E a0 a1 a2 a3 a4 a5 a6 a7 a8 a9 s0 ++ (wX2 E a1 s1 h1 ++ (wX2 E a2 s2 h2 ++ (wX1 E a3 s3 ++ (wX2 E a4 s4 h4 ++ (wX1 E a5 s5 ++ (wX5 E a6 s6 ++ (wX3 E a7 s7 ++ (wX0 E a8 s8 ++ (wX6 E a9 s9 q.2)))))))))) ++ sW E.2.1 L) q.1 := by
  unfold f_X7_item at hf
  intro sz
  refine Met.ofW (cc := cX7_item) (maxL := 5) (ret := (some .int)) (by decide) rfl ?_
  intro p e s m args below meth c s₁ B hml hpre
  obtain ⟨rfl, hsz, hP, hK, hD0, hG, hA, hAB⟩ := start hpre
  have hx := B.exec
  have hb := B.bytes
  have hr := B.returns
  have hts := atoms_spec (ws := wsX7_item) B.pre
  have hown : s.vm.findClass RX7 = some m.cls := findClass_of_methodNamed B.named
  have hlocks := B.notSynchronized
  subst hsz
  generalize va_A ((wX7o E a0 a1 a2 a3 a4 a5 a6 a7 a8 a9 s0 ++ (wX2 E a1 s1 h1 ++ (wX2 E a2 s2 h2 ++ (wX1 E a3 s3 ++ (wX2 E a4 s4 h4 ++ (wX1 E a5 s5 ++ (wX5 E a6 s6 ++ (wX3 E a7 s7 ++ (wX0 E a8 s8 ++ (wX6 E a9 s9 t9)))))))))) ++ sW E.2.1 L) s.heap.size = A0 at hD0 hA hAB ⊢
  have hDD : ∀ (s0 : St) (s1 : St) (h1 : Option SR) (s2 : St) (h2 : Option SR) (s3 : St) (s4 : St) (h4 : Option SR) (s5 : St) (s6 : St) (s7 : St) (s8 : St) (s9 : St) (t9 : Nat → Nat → Int64), va_D A0 ((wX7o E a0 a1 a2 a3 a4 a5 a6 a7 a8 a9 s0 ++ (wX2 E a1 s1 h1 ++ (wX2 E a2 s2 h2 ++ (wX1 E a3 s3 ++ (wX2 E a4 s4 h4 ++ (wX1 E a5 s5 ++ (wX5 E a6 s6 ++ (wX3 E a7 s7 ++ (wX0 E a8 s8 ++ (wX6 E a9 s9 t9)))))))))) ++ sW E.2.1 L) := fun s0 s1 h1 s2 h2 s3 s4 h4 s5 s6 s7 s8 s9 t9 => vD_addr hD0 rfl
  have hS : va_S A0 s.heap s.heap [] := va_S.rf
  have hl := lv_entry ([.ref (a0 0), .int p1, .int p2, .long p3]) (n := 5) (Nat.le_of_ble_eq_true rfl)
  rw [lg_entry_eq]
  generalize (lg_sl ([.ref (a0 0), .int p1, .int p2, .long p3]) ++ List.replicate (5 - (lg_sl ([.ref (a0 0), .int p1, .int p2, .long p3])).length) Slot.unset).toArray = ls at hl ⊢
  have hl : lv_has ls 5 [(0, .ref (a0 0)), (1, .int p1), (2, .int p2), (3, .long p3)] := hl
  refine lv_aload_n hx hb dX7_item_0 rfl (lv_at hl 0 rfl) ?_
  refine va_get (ci := 7) (C := RX7) (T := TX7) (N := 11) (v := .ref (a9 0)) hx hb hts i_X7_item_X7 hown hK hP 0 rfl rfl 10 (by decide) (hts _ m_X7_item_12bc67) (fun _ h9 => h9) rfl dX7_item_1 ?_
  refine lv_iload_n hx hb dX7_item_4 rfl (lv_at hl 1 rfl) ?_
  obtain ⟨q5, hc_5, hf⟩ := cl_e hf
  have hm_5 : ∀ q ∈ wX6 E a9 s9 t9, q ∈ (wX7o E a0 a1 a2 a3 a4 a5 a6 a7 a8 a9 s0 ++ (wX2 E a1 s1 h1 ++ (wX2 E a2 s2 h2 ++ (wX1 E a3 s3 ++ (wX2 E a4 s4 h4 ++ (wX1 E a5 s5 ++ (wX5 E a6 s6 ++ (wX3 E a7 s7 ++ (wX0 E a8 s8 ++ (wX6 E a9 s9 t9)))))))))) ++ sW E.2.1 L := (inl_mem (sub_mem (suf := []) [46, 47, 48, 49] rfl))
  refine fin_i (E := E) (wc := wX6 E a9 s9 t9) (wc' := wX6 E a9 s9 t9) (va_runVN (As := [.int p1]) (rest := []) ⟨hx, hb, hml, hown, hts⟩ (k_X6_hasTape l E a9 N s9 t9 p1 q5 hc_5 _) ⟨va_cnB 1 hts gX7_item_X6_hasTape_n247 rfl rfl rfl (hG.1 (.methodLinkNest "PickedMatch" 247 yX6_hasTape "PickedMatch") (by decide +kernel)) (hts _ m_X7_item_4512f1) (by decide +kernel) ⟨(Nat.le_of_ble_eq_true rfl), (Nat.le_of_ble_eq_true rfl)⟩, (hts _ m_X7_item_2bff22), (hts _ m_X7_item_753aea)⟩ (pre_v (ci := 6) (q0 := 0) hK (sub_P hm_5 hP) (sub_Dn (ws := wX7o E a0 a1 a2 a3 a4 a5 a6 a7 a8 a9 s0 ++ (wX2 E a1 s1 h1 ++ (wX2 E a2 s2 h2 ++ (wX1 E a3 s3 ++ (wX2 E a4 s4 h4 ++ (wX1 E a5 s5 ++ (wX5 E a6 s6 ++ (wX3 E a7 s7 ++ (wX0 E a8 s8 ++ (wX6 E a9 s9 t9)))))))))) (wc := wX6 E a9 s9 t9) (suf := sW E.2.1 L) [46, 47, 48, 49] (by decide) rfl (hDD s0 s1 h1 s2 h2 s3 s4 h4 s5 s6 s7 s8 s9 t9)) hS hG hAB rfl rfl) rfl rfl hl.1 rfl (lv_room (Nat.le_of_ble_eq_true rfl)) dX7_item_5 ⟨Nat.zero_le _, Nat.zero_le _⟩) hS (w_free (hDD s0 s1 h1 s2 h2 s3 s4 h4 s5 s6 s7 s8 s9 t9) hS hA hm_5) (fun H locs hP1 hk hS => ?_)
  have hP := w_join (ws' := wX7o E a0 a1 a2 a3 a4 a5 a6 a7 a8 a9 s0 ++ (wX2 E a1 s1 h1 ++ (wX2 E a2 s2 h2 ++ (wX1 E a3 s3 ++ (wX2 E a4 s4 h4 ++ (wX1 E a5 s5 ++ (wX5 E a6 s6 ++ (wX3 E a7 s7 ++ (wX0 E a8 s8 ++ (wX6 E a9 s9 t9)))))))))) (wc := wX6 E a9 s9 t9) (wc' := wX6 E a9 s9 t9) hP (hDD s0 s1 h1 s2 h2 s3 s4 h4 s5 s6 s7 s8 s9 t9) [46, 47, 48, 49] rfl [none, none, none, none, none, none, none, none, none, none, none, none, none, none, none, none, none, none, none, none, none, none, none, none, none, none, none, none, none, none, none, none, none, none, none, none, none, none, none, none, none, none, none, none, none, none, some 0, some 1, some 2, some 3] rfl rfl hk hP1
  refine lv_if_ne (tgt := 13) hx hb dX7_item_8 (by decide) (fun c_8 => ?_) (fun c_8 => ?_)
  · have hf := ite_f c_8 hf
    refine lv_aload_n hx hb dX7_item_13 rfl (lv_at hl 0 rfl) ?_
    refine va_get (ci := 7) (C := RX7) (T := TX7) (N := 11) (v := .ref (a9 0)) hx hb hts i_X7_item_X7 hown hK hP 0 rfl rfl 10 (by decide) (hts _ m_X7_item_12bc67) (fun _ h9 => h9) rfl dX7_item_14 ?_
    refine va_getN (ci := 6) (C := RX6) (T := TX6) (N := 3) (v := .ref (a9 1)) hx hb hts i_X7_item_X6 hown hK hP 46 rfl rfl 0 (by decide) (nwG hG (w := .fieldLinkNest "PickedMatch" 250 "PickedMatch$Tapes" "sorts" "[I" "PickedMatch") (by decide +kernel)) (fun _ h9 => h9) rfl dX7_item_17 ?_
    refine lv_iload_n hx hb dX7_item_20 rfl (lv_at hl 1 rfl) ?_
    obtain ⟨h_21, hf⟩ := ck_e hf
    refine va_iald (cA := E.2.1) (n := 6) (f := s9 0) hx hb hK hP 47 0 rfl rfl h_21 dX7_item_21 ?_
    refine lv_iconst (v := (-1)) hx hb dX7_item_22 (by decide) ?_
    refine lv_icmp_ne (tgt := 29) hx hb dX7_item_23 (by decide) (fun c_23 => ?_) (fun c_23 => ?_)
    · have hf := ite_f c_23 hf
      refine lv_aload_n hx hb dX7_item_29 rfl (lv_at hl 0 rfl) ?_
      refine va_get (ci := 7) (C := RX7) (T := TX7) (N := 11) (v := .ref (a9 0)) hx hb hts i_X7_item_X7 hown hK hP 0 rfl rfl 10 (by decide) (hts _ m_X7_item_12bc67) (fun _ h9 => h9) rfl dX7_item_30 ?_
      refine lv_iload_n hx hb dX7_item_33 rfl (lv_at hl 1 rfl) ?_
      refine lv_iload_n hx hb dX7_item_34 rfl (lv_at hl 2 rfl) ?_
      obtain ⟨q35, hc_35, hf⟩ := cl_e hf
      have hm_35 : ∀ q ∈ wX6 E a9 s9 t9, q ∈ (wX7o E a0 a1 a2 a3 a4 a5 a6 a7 a8 a9 s0 ++ (wX2 E a1 s1 h1 ++ (wX2 E a2 s2 h2 ++ (wX1 E a3 s3 ++ (wX2 E a4 s4 h4 ++ (wX1 E a5 s5 ++ (wX5 E a6 s6 ++ (wX3 E a7 s7 ++ (wX0 E a8 s8 ++ (wX6 E a9 s9 t9)))))))))) ++ sW E.2.1 L := (inl_mem (sub_mem (suf := []) [46, 47, 48, 49] rfl))
      refine fin_i (E := E) (wc := wX6 E a9 s9 t9) (wc' := wX6 E a9 s9 t9) (va_runVN (As := [.int p1, .int p2]) (rest := []) ⟨hx, hb, hml, hown, hts⟩ (k_X6_hasPlace l E a9 N s9 t9 p1 p2 q35 hc_35 _) ⟨va_cnB 2 hts gX7_item_X6_hasPlace_n291 rfl rfl rfl (hG.1 (.methodLinkNest "PickedMatch" 291 yX6_hasPlace "PickedMatch") (by decide +kernel)) (hts _ m_X7_item_4512f1) (by decide +kernel) ⟨(Nat.le_of_ble_eq_true rfl), (Nat.le_of_ble_eq_true rfl)⟩, (hts _ m_X7_item_768449), (hts _ m_X7_item_650fa7)⟩ (pre_v (ci := 6) (q0 := 0) hK (sub_P hm_35 hP) (sub_Dn (ws := wX7o E a0 a1 a2 a3 a4 a5 a6 a7 a8 a9 s0 ++ (wX2 E a1 s1 h1 ++ (wX2 E a2 s2 h2 ++ (wX1 E a3 s3 ++ (wX2 E a4 s4 h4 ++ (wX1 E a5 s5 ++ (wX5 E a6 s6 ++ (wX3 E a7 s7 ++ (wX0 E a8 s8 ++ (wX6 E a9 s9 t9)))))))))) (wc := wX6 E a9 s9 t9) (suf := sW E.2.1 L) [46, 47, 48, 49] (by decide) rfl (hDD s0 s1 h1 s2 h2 s3 s4 h4 s5 s6 s7 s8 s9 t9)) hS hG hAB rfl rfl) rfl rfl hl.1 rfl (lv_room (Nat.le_of_ble_eq_true rfl)) dX7_item_35 ⟨Nat.zero_le _, Nat.zero_le _⟩) hS (w_free (hDD s0 s1 h1 s2 h2 s3 s4 h4 s5 s6 s7 s8 s9 t9) hS hA hm_35) (fun H locs hP1 hk hS => ?_)
      have hP := w_join (ws' := wX7o E a0 a1 a2 a3 a4 a5 a6 a7 a8 a9 s0 ++ (wX2 E a1 s1 h1 ++ (wX2 E a2 s2 h2 ++ (wX1 E a3 s3 ++ (wX2 E a4 s4 h4 ++ (wX1 E a5 s5 ++ (wX5 E a6 s6 ++ (wX3 E a7 s7 ++ (wX0 E a8 s8 ++ (wX6 E a9 s9 t9)))))))))) (wc := wX6 E a9 s9 t9) (wc' := wX6 E a9 s9 t9) hP (hDD s0 s1 h1 s2 h2 s3 s4 h4 s5 s6 s7 s8 s9 t9) [46, 47, 48, 49] rfl [none, none, none, none, none, none, none, none, none, none, none, none, none, none, none, none, none, none, none, none, none, none, none, none, none, none, none, none, none, none, none, none, none, none, none, none, none, none, none, none, none, none, none, none, none, none, some 0, some 1, some 2, some 3] rfl rfl hk hP1
      refine lv_if_ne (tgt := 44) hx hb dX7_item_38 (by decide) (fun c_38 => ?_) (fun c_38 => ?_)
      · have hf := ite_f c_38 hf
        refine lv_aload_n hx hb dX7_item_44 rfl (lv_at hl 0 rfl) ?_
        refine va_get (ci := 7) (C := RX7) (T := TX7) (N := 11) (v := .ref (a9 0)) hx hb hts i_X7_item_X7 hown hK hP 0 rfl rfl 10 (by decide) (hts _ m_X7_item_12bc67) (fun _ h9 => h9) rfl dX7_item_45 ?_
        refine lv_iload_n hx hb dX7_item_48 rfl (lv_at hl 1 rfl) ?_
        refine lv_iload_n hx hb dX7_item_49 rfl (lv_at hl 2 rfl) ?_
        refine lv_lload_n hx hb dX7_item_50 rfl (lv_at hl 3 rfl) ?_
        obtain ⟨q51, hc_51, hf⟩ := cl_e hf
        have hm_51 : ∀ q ∈ wX6 E a9 s9 t9, q ∈ (wX7o E a0 a1 a2 a3 a4 a5 a6 a7 a8 a9 s0 ++ (wX2 E a1 s1 h1 ++ (wX2 E a2 s2 h2 ++ (wX1 E a3 s3 ++ (wX2 E a4 s4 h4 ++ (wX1 E a5 s5 ++ (wX5 E a6 s6 ++ (wX3 E a7 s7 ++ (wX0 E a8 s8 ++ (wX6 E a9 s9 t9)))))))))) ++ sW E.2.1 L := (inl_mem (sub_mem (suf := []) [46, 47, 48, 49] rfl))
        refine fin_v (E := E) (wc := wX6 E a9 s9 t9) (wc' := wX6 E a9 s9 q51) (va_runVN (As := [.int p1, .int p2, .long p3]) (rest := []) ⟨hx, hb, hml, hown, hts⟩ (k_X6_setItem l E a9 N s9 t9 p1 p2 p3 q51 hc_51 _) ⟨va_cnB 3 hts gX7_item_X6_setItem_n294 rfl rfl rfl (hG.1 (.methodLinkNest "PickedMatch" 294 yX6_setItem "PickedMatch") (by decide +kernel)) (hts _ m_X7_item_4512f1) (by decide +kernel) ⟨(Nat.le_of_ble_eq_true rfl), (Nat.le_of_ble_eq_true rfl)⟩, (hts _ m_X7_item_bbee6e), (hts _ m_X7_item_469444)⟩ (pre_v (ci := 6) (q0 := 0) hK (sub_P hm_51 hP) (sub_Dn (ws := wX7o E a0 a1 a2 a3 a4 a5 a6 a7 a8 a9 s0 ++ (wX2 E a1 s1 h1 ++ (wX2 E a2 s2 h2 ++ (wX1 E a3 s3 ++ (wX2 E a4 s4 h4 ++ (wX1 E a5 s5 ++ (wX5 E a6 s6 ++ (wX3 E a7 s7 ++ (wX0 E a8 s8 ++ (wX6 E a9 s9 t9)))))))))) (wc := wX6 E a9 s9 t9) (suf := sW E.2.1 L) [46, 47, 48, 49] (by decide) rfl (hDD s0 s1 h1 s2 h2 s3 s4 h4 s5 s6 s7 s8 s9 t9)) hS hG hAB rfl rfl) rfl rfl hl.1 rfl (lv_room (Nat.le_of_ble_eq_true rfl)) dX7_item_51 ⟨Nat.zero_le _, Nat.zero_le _⟩) hS (w_free (hDD s0 s1 h1 s2 h2 s3 s4 h4 s5 s6 s7 s8 s9 t9) hS hA hm_51) (fun H locs hP1 hk hS => ?_)
        have hP := w_join (ws' := wX7o E a0 a1 a2 a3 a4 a5 a6 a7 a8 a9 s0 ++ (wX2 E a1 s1 h1 ++ (wX2 E a2 s2 h2 ++ (wX1 E a3 s3 ++ (wX2 E a4 s4 h4 ++ (wX1 E a5 s5 ++ (wX5 E a6 s6 ++ (wX3 E a7 s7 ++ (wX0 E a8 s8 ++ (wX6 E a9 s9 q51)))))))))) (wc := wX6 E a9 s9 t9) (wc' := wX6 E a9 s9 q51) hP (hDD s0 s1 h1 s2 h2 s3 s4 h4 s5 s6 s7 s8 s9 t9) [46, 47, 48, 49] rfl [none, none, none, none, none, none, none, none, none, none, none, none, none, none, none, none, none, none, none, none, none, none, none, none, none, none, none, none, none, none, none, none, none, none, none, none, none, none, none, none, none, none, none, none, none, none, some 0, some 1, some 2, some 3] rfl rfl hk hP1
        refine lv_iconst (v := 1) hx hb dX7_item_54 (by decide) ?_
        have e9 := Option.some.inj hf
        have h9_0 : q51 = q.2 := congrArg (fun z => z.2) e9
        have hP9 : va_P E.1 vwCl ((wX7o E a0 a1 a2 a3 a4 a5 a6 a7 a8 a9 s0 ++ (wX2 E a1 s1 h1 ++ (wX2 E a2 s2 h2 ++ (wX1 E a3 s3 ++ (wX2 E a4 s4 h4 ++ (wX1 E a5 s5 ++ (wX5 E a6 s6 ++ (wX3 E a7 s7 ++ (wX0 E a8 s8 ++ (wX6 E a9 s9 q.2)))))))))) ++ sW E.2.1 L) H := by rw [← h9_0]; exact hP
        exact rt_i hx hb hr hlocks (fst_e e9) hP9 hS dX7_item_55
      · have hf := ite_t c_38 hf
        refine lv_bipush (v := (-13)) hx hb dX7_item_41 (by decide) ?_
        have e9 := Option.some.inj hf
        have h9_0 : t9 = q.2 := congrArg (fun z => z.2) e9
        have hP9 : va_P E.1 vwCl ((wX7o E a0 a1 a2 a3 a4 a5 a6 a7 a8 a9 s0 ++ (wX2 E a1 s1 h1 ++ (wX2 E a2 s2 h2 ++ (wX1 E a3 s3 ++ (wX2 E a4 s4 h4 ++ (wX1 E a5 s5 ++ (wX5 E a6 s6 ++ (wX3 E a7 s7 ++ (wX0 E a8 s8 ++ (wX6 E a9 s9 q.2)))))))))) ++ sW E.2.1 L) H := by rw [← h9_0]; exact hP
        exact rt_i hx hb hr hlocks (fst_e e9) hP9 hS dX7_item_43
    · have hf := ite_t c_23 hf
      refine lv_bipush (v := (-11)) hx hb dX7_item_26 (by decide) ?_
      have e9 := Option.some.inj hf
      have h9_0 : t9 = q.2 := congrArg (fun z => z.2) e9
      have hP9 : va_P E.1 vwCl ((wX7o E a0 a1 a2 a3 a4 a5 a6 a7 a8 a9 s0 ++ (wX2 E a1 s1 h1 ++ (wX2 E a2 s2 h2 ++ (wX1 E a3 s3 ++ (wX2 E a4 s4 h4 ++ (wX1 E a5 s5 ++ (wX5 E a6 s6 ++ (wX3 E a7 s7 ++ (wX0 E a8 s8 ++ (wX6 E a9 s9 q.2)))))))))) ++ sW E.2.1 L) H := by rw [← h9_0]; exact hP
      exact rt_i hx hb hr hlocks (fst_e e9) hP9 hS dX7_item_28
  · have hf := ite_t c_8 hf
    refine lv_iconst (v := (-1)) hx hb dX7_item_11 (by decide) ?_
    have e9 := Option.some.inj hf
    have h9_0 : t9 = q.2 := congrArg (fun z => z.2) e9
    have hP9 : va_P E.1 vwCl ((wX7o E a0 a1 a2 a3 a4 a5 a6 a7 a8 a9 s0 ++ (wX2 E a1 s1 h1 ++ (wX2 E a2 s2 h2 ++ (wX1 E a3 s3 ++ (wX2 E a4 s4 h4 ++ (wX1 E a5 s5 ++ (wX5 E a6 s6 ++ (wX3 E a7 s7 ++ (wX0 E a8 s8 ++ (wX6 E a9 s9 q.2)))))))))) ++ sW E.2.1 L) H := by rw [← h9_0]; exact hP
    exact rt_i hx hb hr hlocks (fst_e e9) hP9 hS dX7_item_12
abbrev rm_X7_read : Room := { frames := 1, cells := 0, slots := 0, locals := 22 }
theorem m_X7_read_12bc67 : Cond.fieldLink RX7 58 "PickedMatch" "tapes" "LPickedMatch$Tapes;" ∈ wsX7_read := by decide +kernel
theorem i_X7_read_X7 : ∀ w ∈ wsX70, w ∈ wsX7_read := fun _ h => List.mem_cons_of_mem _ (List.mem_append_left _ (List.mem_append_right _ h))
theorem m_X7_read_4512f1 : Cond.initialized RX6 ∈ wsX7_read := by decide +kernel
theorem m_X7_read_2bff22 : Cond.instanceMethod yX6_hasTape ∈ wsX7_read := by decide +kernel
theorem m_X7_read_753aea : Cond.selects RX6 yX6_hasTape yX6_hasTape ∈ wsX7_read := by decide +kernel
theorem m_X7_read_a4198b : Cond.constantLong RX7 217 (-9223372036854775808) ∈ wsX7_read := by decide +kernel
theorem m_X7_read_768449 : Cond.instanceMethod yX6_hasPlace ∈ wsX7_read := by decide +kernel
theorem m_X7_read_650fa7 : Cond.selects RX6 yX6_hasPlace yX6_hasPlace ∈ wsX7_read := by decide +kernel
theorem m_X7_read_11f245 : Cond.instanceMethod yX6_itemAt ∈ wsX7_read := by decide +kernel
theorem m_X7_read_7af884 : Cond.selects RX6 yX6_itemAt yX6_itemAt ∈ wsX7_read := by decide +kernel
set_option maxHeartbeats 8000000 in
set_option maxRecDepth 100000 in
theorem k_X7_read (l : Launch) (E : Ev) (a0 : Nat → Nat) (a1 : Nat → Nat) (a2 : Nat → Nat) (a3 : Nat → Nat) (a4 : Nat → Nat) (a5 : Nat → Nat) (a6 : Nat → Nat) (a7 : Nat → Nat) (a8 : Nat → Nat) (a9 : Nat → Nat) (L : List SR) (N : Nat) (s0 : St) (s1 : St) (h1 : Option SR) (s2 : St) (h2 : Option SR) (s3 : St) (s4 : St) (h4 : Option SR) (s5 : St) (s6 : St) (s7 : St) (s8 : St) (s9 : St) (t9 : Nat → Nat → Int64) (p1 : Int32) (p2 : Int32) (q : (Int64)) (hf : f_X7_read N s9 t9 p1 p2 = some q) : Cl l yX7_read wsX7_read rm_X7_read E [.ref (a0 0), .int p1, .int p2] ((wX7o E a0 a1 a2 a3 a4 a5 a6 a7 a8 a9 s0 ++ (wX2 E a1 s1 h1 ++ (wX2 E a2 s2 h2 ++ (wX1 E a3 s3 ++ (wX2 E a4 s4 h4 ++ (wX1 E a5 s5 ++ (wX5 E a6 s6 ++ (wX3 E a7 s7 ++ (wX0 E a8 s8 ++ (wX6 E a9 s9 t9)))))))))) ++ sW E.2.1 L) ((wX7o E a0 a1 a2 a3 a4 a5 a6 a7 a8 a9 s0 ++ (wX2 E a1 s1 h1 ++ (wX2 E a2 s2 h2 ++ (wX1 E a3 s3 ++ (wX2 E a4 s4 h4 ++ (wX1 E a5 s5 ++ (wX5 E a6 s6 ++ (wX3 E a7 s7 ++ (wX0 E a8 s8 ++ (wX6 E a9 s9 t9)))))))))) ++ sW E.2.1 L) q := by
  unfold f_X7_read at hf
  intro sz
  refine Met.ofW (cc := cX7_read) (maxL := 3) (ret := (some .long)) (by decide) rfl ?_
  intro p e s m args below meth c s₁ B hml hpre
  obtain ⟨rfl, hsz, hP, hK, hD0, hG, hA, hAB⟩ := start hpre
  have hx := B.exec
  have hb := B.bytes
  have hr := B.returns
  have hts := atoms_spec (ws := wsX7_read) B.pre
  have hown : s.vm.findClass RX7 = some m.cls := findClass_of_methodNamed B.named
  have hlocks := B.notSynchronized
  subst hsz
  generalize va_A ((wX7o E a0 a1 a2 a3 a4 a5 a6 a7 a8 a9 s0 ++ (wX2 E a1 s1 h1 ++ (wX2 E a2 s2 h2 ++ (wX1 E a3 s3 ++ (wX2 E a4 s4 h4 ++ (wX1 E a5 s5 ++ (wX5 E a6 s6 ++ (wX3 E a7 s7 ++ (wX0 E a8 s8 ++ (wX6 E a9 s9 t9)))))))))) ++ sW E.2.1 L) s.heap.size = A0 at hD0 hA hAB ⊢
  have hDD : ∀ (s0 : St) (s1 : St) (h1 : Option SR) (s2 : St) (h2 : Option SR) (s3 : St) (s4 : St) (h4 : Option SR) (s5 : St) (s6 : St) (s7 : St) (s8 : St) (s9 : St) (t9 : Nat → Nat → Int64), va_D A0 ((wX7o E a0 a1 a2 a3 a4 a5 a6 a7 a8 a9 s0 ++ (wX2 E a1 s1 h1 ++ (wX2 E a2 s2 h2 ++ (wX1 E a3 s3 ++ (wX2 E a4 s4 h4 ++ (wX1 E a5 s5 ++ (wX5 E a6 s6 ++ (wX3 E a7 s7 ++ (wX0 E a8 s8 ++ (wX6 E a9 s9 t9)))))))))) ++ sW E.2.1 L) := fun s0 s1 h1 s2 h2 s3 s4 h4 s5 s6 s7 s8 s9 t9 => vD_addr hD0 rfl
  have hS : va_S A0 s.heap s.heap [] := va_S.rf
  have hl := lv_entry ([.ref (a0 0), .int p1, .int p2]) (n := 3) (Nat.le_of_ble_eq_true rfl)
  rw [lg_entry_eq]
  generalize (lg_sl ([.ref (a0 0), .int p1, .int p2]) ++ List.replicate (3 - (lg_sl ([.ref (a0 0), .int p1, .int p2])).length) Slot.unset).toArray = ls at hl ⊢
  have hl : lv_has ls 3 [(0, .ref (a0 0)), (1, .int p1), (2, .int p2)] := hl
  refine lv_aload_n hx hb dX7_read_0 rfl (lv_at hl 0 rfl) ?_
  refine va_get (ci := 7) (C := RX7) (T := TX7) (N := 11) (v := .ref (a9 0)) hx hb hts i_X7_read_X7 hown hK hP 0 rfl rfl 10 (by decide) (hts _ m_X7_read_12bc67) (fun _ h9 => h9) rfl dX7_read_1 ?_
  refine lv_iload_n hx hb dX7_read_4 rfl (lv_at hl 1 rfl) ?_
  obtain ⟨q5, hc_5, hf⟩ := cl_e hf
  have hm_5 : ∀ q ∈ wX6 E a9 s9 t9, q ∈ (wX7o E a0 a1 a2 a3 a4 a5 a6 a7 a8 a9 s0 ++ (wX2 E a1 s1 h1 ++ (wX2 E a2 s2 h2 ++ (wX1 E a3 s3 ++ (wX2 E a4 s4 h4 ++ (wX1 E a5 s5 ++ (wX5 E a6 s6 ++ (wX3 E a7 s7 ++ (wX0 E a8 s8 ++ (wX6 E a9 s9 t9)))))))))) ++ sW E.2.1 L := (inl_mem (sub_mem (suf := []) [46, 47, 48, 49] rfl))
  refine fin_i (E := E) (wc := wX6 E a9 s9 t9) (wc' := wX6 E a9 s9 t9) (va_runVN (As := [.int p1]) (rest := []) ⟨hx, hb, hml, hown, hts⟩ (k_X6_hasTape l E a9 N s9 t9 p1 q5 hc_5 _) ⟨va_cnB 1 hts gX7_read_X6_hasTape_n247 rfl rfl rfl (hG.1 (.methodLinkNest "PickedMatch" 247 yX6_hasTape "PickedMatch") (by decide +kernel)) (hts _ m_X7_read_4512f1) (by decide +kernel) ⟨(Nat.le_of_ble_eq_true rfl), (Nat.le_of_ble_eq_true rfl)⟩, (hts _ m_X7_read_2bff22), (hts _ m_X7_read_753aea)⟩ (pre_v (ci := 6) (q0 := 0) hK (sub_P hm_5 hP) (sub_Dn (ws := wX7o E a0 a1 a2 a3 a4 a5 a6 a7 a8 a9 s0 ++ (wX2 E a1 s1 h1 ++ (wX2 E a2 s2 h2 ++ (wX1 E a3 s3 ++ (wX2 E a4 s4 h4 ++ (wX1 E a5 s5 ++ (wX5 E a6 s6 ++ (wX3 E a7 s7 ++ (wX0 E a8 s8 ++ (wX6 E a9 s9 t9)))))))))) (wc := wX6 E a9 s9 t9) (suf := sW E.2.1 L) [46, 47, 48, 49] (by decide) rfl (hDD s0 s1 h1 s2 h2 s3 s4 h4 s5 s6 s7 s8 s9 t9)) hS hG hAB rfl rfl) rfl rfl hl.1 rfl (lv_room (Nat.le_of_ble_eq_true rfl)) dX7_read_5 ⟨Nat.zero_le _, Nat.zero_le _⟩) hS (w_free (hDD s0 s1 h1 s2 h2 s3 s4 h4 s5 s6 s7 s8 s9 t9) hS hA hm_5) (fun H locs hP1 hk hS => ?_)
  have hP := w_join (ws' := wX7o E a0 a1 a2 a3 a4 a5 a6 a7 a8 a9 s0 ++ (wX2 E a1 s1 h1 ++ (wX2 E a2 s2 h2 ++ (wX1 E a3 s3 ++ (wX2 E a4 s4 h4 ++ (wX1 E a5 s5 ++ (wX5 E a6 s6 ++ (wX3 E a7 s7 ++ (wX0 E a8 s8 ++ (wX6 E a9 s9 t9)))))))))) (wc := wX6 E a9 s9 t9) (wc' := wX6 E a9 s9 t9) hP (hDD s0 s1 h1 s2 h2 s3 s4 h4 s5 s6 s7 s8 s9 t9) [46, 47, 48, 49] rfl [none, none, none, none, none, none, none, none, none, none, none, none, none, none, none, none, none, none, none, none, none, none, none, none, none, none, none, none, none, none, none, none, none, none, none, none, none, none, none, none, none, none, none, none, none, none, some 0, some 1, some 2, some 3] rfl rfl hk hP1
  refine lv_if_eq (tgt := 23) hx hb dX7_read_8 (by decide) (fun c_8 => ?_) (fun c_8 => ?_)
  · have hf := ite_t c_8 hf
    refine lv_ldc2 (v := (-9223372036854775808)) hx hb hown (hts _ m_X7_read_a4198b) dX7_read_23 ?_
    have e9 := Option.some.inj hf
    exact rt_l hx hb hr hlocks e9 hP hS dX7_read_26
  · have hf := ite_f c_8 hf
    refine lv_aload_n hx hb dX7_read_11 rfl (lv_at hl 0 rfl) ?_
    refine va_get (ci := 7) (C := RX7) (T := TX7) (N := 11) (v := .ref (a9 0)) hx hb hts i_X7_read_X7 hown hK hP 0 rfl rfl 10 (by decide) (hts _ m_X7_read_12bc67) (fun _ h9 => h9) rfl dX7_read_12 ?_
    refine lv_iload_n hx hb dX7_read_15 rfl (lv_at hl 1 rfl) ?_
    refine lv_iload_n hx hb dX7_read_16 rfl (lv_at hl 2 rfl) ?_
    obtain ⟨q17, hc_17, hf⟩ := cl_e hf
    have hm_17 : ∀ q ∈ wX6 E a9 s9 t9, q ∈ (wX7o E a0 a1 a2 a3 a4 a5 a6 a7 a8 a9 s0 ++ (wX2 E a1 s1 h1 ++ (wX2 E a2 s2 h2 ++ (wX1 E a3 s3 ++ (wX2 E a4 s4 h4 ++ (wX1 E a5 s5 ++ (wX5 E a6 s6 ++ (wX3 E a7 s7 ++ (wX0 E a8 s8 ++ (wX6 E a9 s9 t9)))))))))) ++ sW E.2.1 L := (inl_mem (sub_mem (suf := []) [46, 47, 48, 49] rfl))
    refine fin_i (E := E) (wc := wX6 E a9 s9 t9) (wc' := wX6 E a9 s9 t9) (va_runVN (As := [.int p1, .int p2]) (rest := []) ⟨hx, hb, hml, hown, hts⟩ (k_X6_hasPlace l E a9 N s9 t9 p1 p2 q17 hc_17 _) ⟨va_cnB 2 hts gX7_read_X6_hasPlace_n291 rfl rfl rfl (hG.1 (.methodLinkNest "PickedMatch" 291 yX6_hasPlace "PickedMatch") (by decide +kernel)) (hts _ m_X7_read_4512f1) (by decide +kernel) ⟨(Nat.le_of_ble_eq_true rfl), (Nat.le_of_ble_eq_true rfl)⟩, (hts _ m_X7_read_768449), (hts _ m_X7_read_650fa7)⟩ (pre_v (ci := 6) (q0 := 0) hK (sub_P hm_17 hP) (sub_Dn (ws := wX7o E a0 a1 a2 a3 a4 a5 a6 a7 a8 a9 s0 ++ (wX2 E a1 s1 h1 ++ (wX2 E a2 s2 h2 ++ (wX1 E a3 s3 ++ (wX2 E a4 s4 h4 ++ (wX1 E a5 s5 ++ (wX5 E a6 s6 ++ (wX3 E a7 s7 ++ (wX0 E a8 s8 ++ (wX6 E a9 s9 t9)))))))))) (wc := wX6 E a9 s9 t9) (suf := sW E.2.1 L) [46, 47, 48, 49] (by decide) rfl (hDD s0 s1 h1 s2 h2 s3 s4 h4 s5 s6 s7 s8 s9 t9)) hS hG hAB rfl rfl) rfl rfl hl.1 rfl (lv_room (Nat.le_of_ble_eq_true rfl)) dX7_read_17 ⟨Nat.zero_le _, Nat.zero_le _⟩) hS (w_free (hDD s0 s1 h1 s2 h2 s3 s4 h4 s5 s6 s7 s8 s9 t9) hS hA hm_17) (fun H locs hP1 hk hS => ?_)
    have hP := w_join (ws' := wX7o E a0 a1 a2 a3 a4 a5 a6 a7 a8 a9 s0 ++ (wX2 E a1 s1 h1 ++ (wX2 E a2 s2 h2 ++ (wX1 E a3 s3 ++ (wX2 E a4 s4 h4 ++ (wX1 E a5 s5 ++ (wX5 E a6 s6 ++ (wX3 E a7 s7 ++ (wX0 E a8 s8 ++ (wX6 E a9 s9 t9)))))))))) (wc := wX6 E a9 s9 t9) (wc' := wX6 E a9 s9 t9) hP (hDD s0 s1 h1 s2 h2 s3 s4 h4 s5 s6 s7 s8 s9 t9) [46, 47, 48, 49] rfl [none, none, none, none, none, none, none, none, none, none, none, none, none, none, none, none, none, none, none, none, none, none, none, none, none, none, none, none, none, none, none, none, none, none, none, none, none, none, none, none, none, none, none, none, none, none, some 0, some 1, some 2, some 3] rfl rfl hk hP1
    refine lv_if_ne (tgt := 27) hx hb dX7_read_20 (by decide) (fun c_20 => ?_) (fun c_20 => ?_)
    · have hf := ite_f c_20 hf
      refine lv_aload_n hx hb dX7_read_27 rfl (lv_at hl 0 rfl) ?_
      refine va_get (ci := 7) (C := RX7) (T := TX7) (N := 11) (v := .ref (a9 0)) hx hb hts i_X7_read_X7 hown hK hP 0 rfl rfl 10 (by decide) (hts _ m_X7_read_12bc67) (fun _ h9 => h9) rfl dX7_read_28 ?_
      refine lv_iload_n hx hb dX7_read_31 rfl (lv_at hl 1 rfl) ?_
      refine lv_iload_n hx hb dX7_read_32 rfl (lv_at hl 2 rfl) ?_
      obtain ⟨q33, hc_33, hf⟩ := cl_e hf
      have hm_33 : ∀ q ∈ wX6 E a9 s9 t9, q ∈ (wX7o E a0 a1 a2 a3 a4 a5 a6 a7 a8 a9 s0 ++ (wX2 E a1 s1 h1 ++ (wX2 E a2 s2 h2 ++ (wX1 E a3 s3 ++ (wX2 E a4 s4 h4 ++ (wX1 E a5 s5 ++ (wX5 E a6 s6 ++ (wX3 E a7 s7 ++ (wX0 E a8 s8 ++ (wX6 E a9 s9 t9)))))))))) ++ sW E.2.1 L := (inl_mem (sub_mem (suf := []) [46, 47, 48, 49] rfl))
      refine fin_l (E := E) (wc := wX6 E a9 s9 t9) (wc' := wX6 E a9 s9 t9) (va_runVN (As := [.int p1, .int p2]) (rest := []) ⟨hx, hb, hml, hown, hts⟩ (k_X6_itemAt l E a9 N s9 t9 p1 p2 q33 hc_33 _) ⟨va_cnB 2 hts gX7_read_X6_itemAt_n256 rfl rfl rfl (hG.1 (.methodLinkNest "PickedMatch" 256 yX6_itemAt "PickedMatch") (by decide +kernel)) (hts _ m_X7_read_4512f1) (by decide +kernel) ⟨(Nat.le_of_ble_eq_true rfl), (Nat.le_of_ble_eq_true rfl)⟩, (hts _ m_X7_read_11f245), (hts _ m_X7_read_7af884)⟩ (pre_v (ci := 6) (q0 := 0) hK (sub_P hm_33 hP) (sub_Dn (ws := wX7o E a0 a1 a2 a3 a4 a5 a6 a7 a8 a9 s0 ++ (wX2 E a1 s1 h1 ++ (wX2 E a2 s2 h2 ++ (wX1 E a3 s3 ++ (wX2 E a4 s4 h4 ++ (wX1 E a5 s5 ++ (wX5 E a6 s6 ++ (wX3 E a7 s7 ++ (wX0 E a8 s8 ++ (wX6 E a9 s9 t9)))))))))) (wc := wX6 E a9 s9 t9) (suf := sW E.2.1 L) [46, 47, 48, 49] (by decide) rfl (hDD s0 s1 h1 s2 h2 s3 s4 h4 s5 s6 s7 s8 s9 t9)) hS hG hAB rfl rfl) rfl rfl hl.1 rfl (lv_room (Nat.le_of_ble_eq_true rfl)) dX7_read_33 ⟨Nat.zero_le _, Nat.zero_le _⟩) hS (w_free (hDD s0 s1 h1 s2 h2 s3 s4 h4 s5 s6 s7 s8 s9 t9) hS hA hm_33) (fun H locs hP1 hk hS => ?_)
      have hP := w_join (ws' := wX7o E a0 a1 a2 a3 a4 a5 a6 a7 a8 a9 s0 ++ (wX2 E a1 s1 h1 ++ (wX2 E a2 s2 h2 ++ (wX1 E a3 s3 ++ (wX2 E a4 s4 h4 ++ (wX1 E a5 s5 ++ (wX5 E a6 s6 ++ (wX3 E a7 s7 ++ (wX0 E a8 s8 ++ (wX6 E a9 s9 t9)))))))))) (wc := wX6 E a9 s9 t9) (wc' := wX6 E a9 s9 t9) hP (hDD s0 s1 h1 s2 h2 s3 s4 h4 s5 s6 s7 s8 s9 t9) [46, 47, 48, 49] rfl [none, none, none, none, none, none, none, none, none, none, none, none, none, none, none, none, none, none, none, none, none, none, none, none, none, none, none, none, none, none, none, none, none, none, none, none, none, none, none, none, none, none, none, none, none, none, some 0, some 1, some 2, some 3] rfl rfl hk hP1
      have e9 := Option.some.inj hf
      exact rt_l hx hb hr hlocks e9 hP hS dX7_read_36
    · have hf := ite_t c_20 hf
      refine lv_ldc2 (v := (-9223372036854775808)) hx hb hown (hts _ m_X7_read_a4198b) dX7_read_23 ?_
      have e9 := Option.some.inj hf
      exact rt_l hx hb hr hlocks e9 hP hS dX7_read_26
abbrev rm_X7_shift : Room := { frames := 2, cells := 0, slots := 0, locals := 85 }
theorem m_X7_shift_12bc67 : Cond.fieldLink RX7 58 "PickedMatch" "tapes" "LPickedMatch$Tapes;" ∈ wsX7_shift := by decide +kernel
theorem i_X7_shift_X7 : ∀ w ∈ wsX70, w ∈ wsX7_shift := fun _ h => List.mem_cons_of_mem _ (List.mem_append_left _ (List.mem_append_right _ h))
theorem m_X7_shift_4512f1 : Cond.initialized RX6 ∈ wsX7_shift := by decide +kernel
theorem m_X7_shift_2bff22 : Cond.instanceMethod yX6_hasTape ∈ wsX7_shift := by decide +kernel
theorem m_X7_shift_753aea : Cond.selects RX6 yX6_hasTape yX6_hasTape ∈ wsX7_shift := by decide +kernel
theorem i_X7_shift_X6 : ∀ w ∈ wsX60, w ∈ wsX7_shift := fun _ h => List.mem_cons_of_mem _ (List.mem_append_right _ h)
theorem m_X7_shift_ecaf94 : Cond.instanceMethod yX6_hasStretch ∈ wsX7_shift := by decide +kernel
theorem m_X7_shift_a15a3a : Cond.selects RX6 yX6_hasStretch yX6_hasStretch ∈ wsX7_shift := by decide +kernel
theorem m_X7_shift_03fad5 : Cond.instanceMethod yX6_copyItems ∈ wsX7_shift := by decide +kernel
theorem m_X7_shift_918721 : Cond.selects RX6 yX6_copyItems yX6_copyItems ∈ wsX7_shift := by decide +kernel
set_option maxHeartbeats 8000000 in
set_option maxRecDepth 100000 in
theorem k_X7_shift (l : Launch) (E : Ev) (a0 : Nat → Nat) (a1 : Nat → Nat) (a2 : Nat → Nat) (a3 : Nat → Nat) (a4 : Nat → Nat) (a5 : Nat → Nat) (a6 : Nat → Nat) (a7 : Nat → Nat) (a8 : Nat → Nat) (a9 : Nat → Nat) (L : List SR) (N : Nat) (s0 : St) (s1 : St) (h1 : Option SR) (s2 : St) (h2 : Option SR) (s3 : St) (s4 : St) (h4 : Option SR) (s5 : St) (s6 : St) (s7 : St) (s8 : St) (s9 : St) (t9 : Nat → Nat → Int64) (p1 : Int32) (p2 : Int32) (p3 : Int32) (p4 : Int32) (p5 : Int32) (q : (Int32 × (Nat → Nat → Int64))) (hf : f_X7_shift N s9 t9 p1 p2 p3 p4 p5 = some q) : Ci l yX7_shift wsX7_shift rm_X7_shift E [.ref (a0 0), .int p1, .int p2, .int p3, .int p4, .int p5] ((wX7o E a0 a1 a2 a3 a4 a5 a6 a7 a8 a9 s0 ++ (wX2 E a1 s1 h1 ++ (wX2 E a2 s2 h2 ++ (wX1 E a3 s3 ++ (wX2 E a4 s4 h4 ++ (wX1 E a5 s5 ++ (wX5 E a6 s6 ++ (wX3 E a7 s7 ++ (wX0 E a8 s8 ++ (wX6 E a9 s9 t9)))))))))) ++ sW E.2.1 L) ((wX7o E a0 a1 a2 a3 a4 a5 a6 a7 a8 a9 s0 ++ (wX2 E a1 s1 h1 ++ (wX2 E a2 s2 h2 ++ (wX1 E a3 s3 ++ (wX2 E a4 s4 h4 ++ (wX1 E a5 s5 ++ (wX5 E a6 s6 ++ (wX3 E a7 s7 ++ (wX0 E a8 s8 ++ (wX6 E a9 s9 q.2)))))))))) ++ sW E.2.1 L) q.1 := by
  unfold f_X7_shift at hf
  intro sz
  refine Met.ofW (cc := cX7_shift) (maxL := 6) (ret := (some .int)) (by decide) rfl ?_
  intro p e s m args below meth c s₁ B hml hpre
  obtain ⟨rfl, hsz, hP, hK, hD0, hG, hA, hAB⟩ := start hpre
  have hx := B.exec
  have hb := B.bytes
  have hr := B.returns
  have hts := atoms_spec (ws := wsX7_shift) B.pre
  have hown : s.vm.findClass RX7 = some m.cls := findClass_of_methodNamed B.named
  have hlocks := B.notSynchronized
  subst hsz
  generalize va_A ((wX7o E a0 a1 a2 a3 a4 a5 a6 a7 a8 a9 s0 ++ (wX2 E a1 s1 h1 ++ (wX2 E a2 s2 h2 ++ (wX1 E a3 s3 ++ (wX2 E a4 s4 h4 ++ (wX1 E a5 s5 ++ (wX5 E a6 s6 ++ (wX3 E a7 s7 ++ (wX0 E a8 s8 ++ (wX6 E a9 s9 t9)))))))))) ++ sW E.2.1 L) s.heap.size = A0 at hD0 hA hAB ⊢
  have hDD : ∀ (s0 : St) (s1 : St) (h1 : Option SR) (s2 : St) (h2 : Option SR) (s3 : St) (s4 : St) (h4 : Option SR) (s5 : St) (s6 : St) (s7 : St) (s8 : St) (s9 : St) (t9 : Nat → Nat → Int64), va_D A0 ((wX7o E a0 a1 a2 a3 a4 a5 a6 a7 a8 a9 s0 ++ (wX2 E a1 s1 h1 ++ (wX2 E a2 s2 h2 ++ (wX1 E a3 s3 ++ (wX2 E a4 s4 h4 ++ (wX1 E a5 s5 ++ (wX5 E a6 s6 ++ (wX3 E a7 s7 ++ (wX0 E a8 s8 ++ (wX6 E a9 s9 t9)))))))))) ++ sW E.2.1 L) := fun s0 s1 h1 s2 h2 s3 s4 h4 s5 s6 s7 s8 s9 t9 => vD_addr hD0 rfl
  have hS : va_S A0 s.heap s.heap [] := va_S.rf
  have hl := lv_entry ([.ref (a0 0), .int p1, .int p2, .int p3, .int p4, .int p5]) (n := 6) (Nat.le_of_ble_eq_true rfl)
  rw [lg_entry_eq]
  generalize (lg_sl ([.ref (a0 0), .int p1, .int p2, .int p3, .int p4, .int p5]) ++ List.replicate (6 - (lg_sl ([.ref (a0 0), .int p1, .int p2, .int p3, .int p4, .int p5])).length) Slot.unset).toArray = ls at hl ⊢
  have hl : lv_has ls 6 [(0, .ref (a0 0)), (1, .int p1), (2, .int p2), (3, .int p3), (4, .int p4), (5, .int p5)] := hl
  refine lv_aload_n hx hb dX7_shift_0 rfl (lv_at hl 0 rfl) ?_
  refine va_get (ci := 7) (C := RX7) (T := TX7) (N := 11) (v := .ref (a9 0)) hx hb hts i_X7_shift_X7 hown hK hP 0 rfl rfl 10 (by decide) (hts _ m_X7_shift_12bc67) (fun _ h9 => h9) rfl dX7_shift_1 ?_
  refine lv_iload_n hx hb dX7_shift_4 rfl (lv_at hl 1 rfl) ?_
  obtain ⟨q5, hc_5, hf⟩ := cl_e hf
  have hm_5 : ∀ q ∈ wX6 E a9 s9 t9, q ∈ (wX7o E a0 a1 a2 a3 a4 a5 a6 a7 a8 a9 s0 ++ (wX2 E a1 s1 h1 ++ (wX2 E a2 s2 h2 ++ (wX1 E a3 s3 ++ (wX2 E a4 s4 h4 ++ (wX1 E a5 s5 ++ (wX5 E a6 s6 ++ (wX3 E a7 s7 ++ (wX0 E a8 s8 ++ (wX6 E a9 s9 t9)))))))))) ++ sW E.2.1 L := (inl_mem (sub_mem (suf := []) [46, 47, 48, 49] rfl))
  refine fin_i (E := E) (wc := wX6 E a9 s9 t9) (wc' := wX6 E a9 s9 t9) (va_runVN (As := [.int p1]) (rest := []) ⟨hx, hb, hml, hown, hts⟩ (k_X6_hasTape l E a9 N s9 t9 p1 q5 hc_5 _) ⟨va_cnB 1 hts gX7_shift_X6_hasTape_n247 rfl rfl rfl (hG.1 (.methodLinkNest "PickedMatch" 247 yX6_hasTape "PickedMatch") (by decide +kernel)) (hts _ m_X7_shift_4512f1) (by decide +kernel) ⟨(Nat.le_of_ble_eq_true rfl), (Nat.le_of_ble_eq_true rfl)⟩, (hts _ m_X7_shift_2bff22), (hts _ m_X7_shift_753aea)⟩ (pre_v (ci := 6) (q0 := 0) hK (sub_P hm_5 hP) (sub_Dn (ws := wX7o E a0 a1 a2 a3 a4 a5 a6 a7 a8 a9 s0 ++ (wX2 E a1 s1 h1 ++ (wX2 E a2 s2 h2 ++ (wX1 E a3 s3 ++ (wX2 E a4 s4 h4 ++ (wX1 E a5 s5 ++ (wX5 E a6 s6 ++ (wX3 E a7 s7 ++ (wX0 E a8 s8 ++ (wX6 E a9 s9 t9)))))))))) (wc := wX6 E a9 s9 t9) (suf := sW E.2.1 L) [46, 47, 48, 49] (by decide) rfl (hDD s0 s1 h1 s2 h2 s3 s4 h4 s5 s6 s7 s8 s9 t9)) hS hG hAB rfl rfl) rfl rfl hl.1 rfl (lv_room (Nat.le_of_ble_eq_true rfl)) dX7_shift_5 ⟨Nat.zero_le _, Nat.zero_le _⟩) hS (w_free (hDD s0 s1 h1 s2 h2 s3 s4 h4 s5 s6 s7 s8 s9 t9) hS hA hm_5) (fun H locs hP1 hk hS => ?_)
  have hP := w_join (ws' := wX7o E a0 a1 a2 a3 a4 a5 a6 a7 a8 a9 s0 ++ (wX2 E a1 s1 h1 ++ (wX2 E a2 s2 h2 ++ (wX1 E a3 s3 ++ (wX2 E a4 s4 h4 ++ (wX1 E a5 s5 ++ (wX5 E a6 s6 ++ (wX3 E a7 s7 ++ (wX0 E a8 s8 ++ (wX6 E a9 s9 t9)))))))))) (wc := wX6 E a9 s9 t9) (wc' := wX6 E a9 s9 t9) hP (hDD s0 s1 h1 s2 h2 s3 s4 h4 s5 s6 s7 s8 s9 t9) [46, 47, 48, 49] rfl [none, none, none, none, none, none, none, none, none, none, none, none, none, none, none, none, none, none, none, none, none, none, none, none, none, none, none, none, none, none, none, none, none, none, none, none, none, none, none, none, none, none, none, none, none, none, some 0, some 1, some 2, some 3] rfl rfl hk hP1
  refine lv_if_eq (tgt := 22) hx hb dX7_shift_8 (by decide) (fun c_8 => ?_) (fun c_8 => ?_)
  · have hf := ite_t c_8 hf
    refine lv_iconst (v := (-1)) hx hb dX7_shift_22 (by decide) ?_
    have e9 := Option.some.inj hf
    have h9_0 : t9 = q.2 := congrArg (fun z => z.2) e9
    have hP9 : va_P E.1 vwCl ((wX7o E a0 a1 a2 a3 a4 a5 a6 a7 a8 a9 s0 ++ (wX2 E a1 s1 h1 ++ (wX2 E a2 s2 h2 ++ (wX1 E a3 s3 ++ (wX2 E a4 s4 h4 ++ (wX1 E a5 s5 ++ (wX5 E a6 s6 ++ (wX3 E a7 s7 ++ (wX0 E a8 s8 ++ (wX6 E a9 s9 q.2)))))))))) ++ sW E.2.1 L) H := by rw [← h9_0]; exact hP
    exact rt_i hx hb hr hlocks (fst_e e9) hP9 hS dX7_shift_23
  · have hf := ite_f c_8 hf
    refine lv_aload_n hx hb dX7_shift_11 rfl (lv_at hl 0 rfl) ?_
    refine va_get (ci := 7) (C := RX7) (T := TX7) (N := 11) (v := .ref (a9 0)) hx hb hts i_X7_shift_X7 hown hK hP 0 rfl rfl 10 (by decide) (hts _ m_X7_shift_12bc67) (fun _ h9 => h9) rfl dX7_shift_12 ?_
    refine lv_iload_n hx hb dX7_shift_15 rfl (lv_at hl 3 rfl) ?_
    obtain ⟨q16, hc_16, hf⟩ := cl_e hf
    have hm_16 : ∀ q ∈ wX6 E a9 s9 t9, q ∈ (wX7o E a0 a1 a2 a3 a4 a5 a6 a7 a8 a9 s0 ++ (wX2 E a1 s1 h1 ++ (wX2 E a2 s2 h2 ++ (wX1 E a3 s3 ++ (wX2 E a4 s4 h4 ++ (wX1 E a5 s5 ++ (wX5 E a6 s6 ++ (wX3 E a7 s7 ++ (wX0 E a8 s8 ++ (wX6 E a9 s9 t9)))))))))) ++ sW E.2.1 L := (inl_mem (sub_mem (suf := []) [46, 47, 48, 49] rfl))
    refine fin_i (E := E) (wc := wX6 E a9 s9 t9) (wc' := wX6 E a9 s9 t9) (va_runVN (As := [.int p3]) (rest := []) ⟨hx, hb, hml, hown, hts⟩ (k_X6_hasTape l E a9 N s9 t9 p3 q16 hc_16 _) ⟨va_cnB 1 hts gX7_shift_X6_hasTape_n247 rfl rfl rfl (hG.1 (.methodLinkNest "PickedMatch" 247 yX6_hasTape "PickedMatch") (by decide +kernel)) (hts _ m_X7_shift_4512f1) (by decide +kernel) ⟨(Nat.le_of_ble_eq_true rfl), (Nat.le_of_ble_eq_true rfl)⟩, (hts _ m_X7_shift_2bff22), (hts _ m_X7_shift_753aea)⟩ (pre_v (ci := 6) (q0 := 0) hK (sub_P hm_16 hP) (sub_Dn (ws := wX7o E a0 a1 a2 a3 a4 a5 a6 a7 a8 a9 s0 ++ (wX2 E a1 s1 h1 ++ (wX2 E a2 s2 h2 ++ (wX1 E a3 s3 ++ (wX2 E a4 s4 h4 ++ (wX1 E a5 s5 ++ (wX5 E a6 s6 ++ (wX3 E a7 s7 ++ (wX0 E a8 s8 ++ (wX6 E a9 s9 t9)))))))))) (wc := wX6 E a9 s9 t9) (suf := sW E.2.1 L) [46, 47, 48, 49] (by decide) rfl (hDD s0 s1 h1 s2 h2 s3 s4 h4 s5 s6 s7 s8 s9 t9)) hS hG hAB rfl rfl) rfl rfl hl.1 rfl (lv_room (Nat.le_of_ble_eq_true rfl)) dX7_shift_16 ⟨Nat.zero_le _, Nat.zero_le _⟩) hS (w_free (hDD s0 s1 h1 s2 h2 s3 s4 h4 s5 s6 s7 s8 s9 t9) hS hA hm_16) (fun H locs hP1 hk hS => ?_)
    have hP := w_join (ws' := wX7o E a0 a1 a2 a3 a4 a5 a6 a7 a8 a9 s0 ++ (wX2 E a1 s1 h1 ++ (wX2 E a2 s2 h2 ++ (wX1 E a3 s3 ++ (wX2 E a4 s4 h4 ++ (wX1 E a5 s5 ++ (wX5 E a6 s6 ++ (wX3 E a7 s7 ++ (wX0 E a8 s8 ++ (wX6 E a9 s9 t9)))))))))) (wc := wX6 E a9 s9 t9) (wc' := wX6 E a9 s9 t9) hP (hDD s0 s1 h1 s2 h2 s3 s4 h4 s5 s6 s7 s8 s9 t9) [46, 47, 48, 49] rfl [none, none, none, none, none, none, none, none, none, none, none, none, none, none, none, none, none, none, none, none, none, none, none, none, none, none, none, none, none, none, none, none, none, none, none, none, none, none, none, none, none, none, none, none, none, none, some 0, some 1, some 2, some 3] rfl rfl hk hP1
    refine lv_if_ne (tgt := 24) hx hb dX7_shift_19 (by decide) (fun c_19 => ?_) (fun c_19 => ?_)
    · have hf := ite_f c_19 hf
      refine lv_aload_n hx hb dX7_shift_24 rfl (lv_at hl 0 rfl) ?_
      refine va_get (ci := 7) (C := RX7) (T := TX7) (N := 11) (v := .ref (a9 0)) hx hb hts i_X7_shift_X7 hown hK hP 0 rfl rfl 10 (by decide) (hts _ m_X7_shift_12bc67) (fun _ h9 => h9) rfl dX7_shift_25 ?_
      refine va_getN (ci := 6) (C := RX6) (T := TX6) (N := 3) (v := .ref (a9 1)) hx hb hts i_X7_shift_X6 hown hK hP 46 rfl rfl 0 (by decide) (nwG hG (w := .fieldLinkNest "PickedMatch" 250 "PickedMatch$Tapes" "sorts" "[I" "PickedMatch") (by decide +kernel)) (fun _ h9 => h9) rfl dX7_shift_28 ?_
      refine lv_iload_n hx hb dX7_shift_31 rfl (lv_at hl 1 rfl) ?_
      obtain ⟨h_32, hf⟩ := ck_e hf
      refine va_iald (cA := E.2.1) (n := 6) (f := s9 0) hx hb hK hP 47 0 rfl rfl h_32 dX7_shift_32 ?_
      refine lv_iconst (v := (-1)) hx hb dX7_shift_33 (by decide) ?_
      refine lv_icmp_eq (tgt := 50) hx hb dX7_shift_34 (by decide) (fun c_34 => ?_) (fun c_34 => ?_)
      · have hf := ite_t c_34 hf
        refine lv_bipush (v := (-11)) hx hb dX7_shift_50 (by decide) ?_
        have e9 := Option.some.inj hf
        have h9_0 : t9 = q.2 := congrArg (fun z => z.2) e9
        have hP9 : va_P E.1 vwCl ((wX7o E a0 a1 a2 a3 a4 a5 a6 a7 a8 a9 s0 ++ (wX2 E a1 s1 h1 ++ (wX2 E a2 s2 h2 ++ (wX1 E a3 s3 ++ (wX2 E a4 s4 h4 ++ (wX1 E a5 s5 ++ (wX5 E a6 s6 ++ (wX3 E a7 s7 ++ (wX0 E a8 s8 ++ (wX6 E a9 s9 q.2)))))))))) ++ sW E.2.1 L) H := by rw [← h9_0]; exact hP
        exact rt_i hx hb hr hlocks (fst_e e9) hP9 hS dX7_shift_52
      · have hf := ite_f c_34 hf
        refine lv_aload_n hx hb dX7_shift_37 rfl (lv_at hl 0 rfl) ?_
        refine va_get (ci := 7) (C := RX7) (T := TX7) (N := 11) (v := .ref (a9 0)) hx hb hts i_X7_shift_X7 hown hK hP 0 rfl rfl 10 (by decide) (hts _ m_X7_shift_12bc67) (fun _ h9 => h9) rfl dX7_shift_38 ?_
        refine va_getN (ci := 6) (C := RX6) (T := TX6) (N := 3) (v := .ref (a9 1)) hx hb hts i_X7_shift_X6 hown hK hP 46 rfl rfl 0 (by decide) (nwG hG (w := .fieldLinkNest "PickedMatch" 250 "PickedMatch$Tapes" "sorts" "[I" "PickedMatch") (by decide +kernel)) (fun _ h9 => h9) rfl dX7_shift_41 ?_
        refine lv_iload_n hx hb dX7_shift_44 rfl (lv_at hl 3 rfl) ?_
        obtain ⟨h_45, hf⟩ := ck_e hf
        refine va_iald (cA := E.2.1) (n := 6) (f := s9 0) hx hb hK hP 47 0 rfl rfl h_45 dX7_shift_45 ?_
        refine lv_iconst (v := (-1)) hx hb dX7_shift_46 (by decide) ?_
        refine lv_icmp_ne (tgt := 53) hx hb dX7_shift_47 (by decide) (fun c_47 => ?_) (fun c_47 => ?_)
        · have hf := ite_f c_47 hf
          refine lv_aload_n hx hb dX7_shift_53 rfl (lv_at hl 0 rfl) ?_
          refine va_get (ci := 7) (C := RX7) (T := TX7) (N := 11) (v := .ref (a9 0)) hx hb hts i_X7_shift_X7 hown hK hP 0 rfl rfl 10 (by decide) (hts _ m_X7_shift_12bc67) (fun _ h9 => h9) rfl dX7_shift_54 ?_
          refine va_getN (ci := 6) (C := RX6) (T := TX6) (N := 3) (v := .ref (a9 1)) hx hb hts i_X7_shift_X6 hown hK hP 46 rfl rfl 0 (by decide) (nwG hG (w := .fieldLinkNest "PickedMatch" 250 "PickedMatch$Tapes" "sorts" "[I" "PickedMatch") (by decide +kernel)) (fun _ h9 => h9) rfl dX7_shift_57 ?_
          refine lv_iload_n hx hb dX7_shift_60 rfl (lv_at hl 1 rfl) ?_
          obtain ⟨h_61, hf⟩ := ck_e hf
          refine va_iald (cA := E.2.1) (n := 6) (f := s9 0) hx hb hK hP 47 0 rfl rfl h_61 dX7_shift_61 ?_
          refine lv_aload_n hx hb dX7_shift_62 rfl (lv_at hl 0 rfl) ?_
          refine va_get (ci := 7) (C := RX7) (T := TX7) (N := 11) (v := .ref (a9 0)) hx hb hts i_X7_shift_X7 hown hK hP 0 rfl rfl 10 (by decide) (hts _ m_X7_shift_12bc67) (fun _ h9 => h9) rfl dX7_shift_63 ?_
          refine va_getN (ci := 6) (C := RX6) (T := TX6) (N := 3) (v := .ref (a9 1)) hx hb hts i_X7_shift_X6 hown hK hP 46 rfl rfl 0 (by decide) (nwG hG (w := .fieldLinkNest "PickedMatch" 250 "PickedMatch$Tapes" "sorts" "[I" "PickedMatch") (by decide +kernel)) (fun _ h9 => h9) rfl dX7_shift_66 ?_
          refine lv_iload_n hx hb dX7_shift_69 rfl (lv_at hl 3 rfl) ?_
          obtain ⟨h_70, hf⟩ := ck_e hf
          refine va_iald (cA := E.2.1) (n := 6) (f := s9 0) hx hb hK hP 47 0 rfl rfl h_70 dX7_shift_70 ?_
          refine lv_icmp_eq (tgt := 77) hx hb dX7_shift_71 (by decide) (fun c_71 => ?_) (fun c_71 => ?_)
          · have hf := ite_t c_71 hf
            refine lv_aload_n hx hb dX7_shift_77 rfl (lv_at hl 0 rfl) ?_
            refine va_get (ci := 7) (C := RX7) (T := TX7) (N := 11) (v := .ref (a9 0)) hx hb hts i_X7_shift_X7 hown hK hP 0 rfl rfl 10 (by decide) (hts _ m_X7_shift_12bc67) (fun _ h9 => h9) rfl dX7_shift_78 ?_
            refine lv_iload_n hx hb dX7_shift_81 rfl (lv_at hl 1 rfl) ?_
            refine lv_iload_n hx hb dX7_shift_82 rfl (lv_at hl 2 rfl) ?_
            refine lv_iload hx hb dX7_shift_83 (lv_at hl 5 rfl) ?_
            obtain ⟨q85, hc_85, hf⟩ := cl_e hf
            have hm_85 : ∀ q ∈ wX6 E a9 s9 t9, q ∈ (wX7o E a0 a1 a2 a3 a4 a5 a6 a7 a8 a9 s0 ++ (wX2 E a1 s1 h1 ++ (wX2 E a2 s2 h2 ++ (wX1 E a3 s3 ++ (wX2 E a4 s4 h4 ++ (wX1 E a5 s5 ++ (wX5 E a6 s6 ++ (wX3 E a7 s7 ++ (wX0 E a8 s8 ++ (wX6 E a9 s9 t9)))))))))) ++ sW E.2.1 L := (inl_mem (sub_mem (suf := []) [46, 47, 48, 49] rfl))
            refine fin_i (E := E) (wc := wX6 E a9 s9 t9) (wc' := wX6 E a9 s9 t9) (va_runVN (As := [.int p1, .int p2, .int p5]) (rest := []) ⟨hx, hb, hml, hown, hts⟩ (k_X6_hasStretch l E a9 N s9 t9 p1 p2 p5 q85 hc_85 _) ⟨va_cnB 3 hts gX7_shift_X6_hasStretch_n298 rfl rfl rfl (hG.1 (.methodLinkNest "PickedMatch" 298 yX6_hasStretch "PickedMatch") (by decide +kernel)) (hts _ m_X7_shift_4512f1) (by decide +kernel) ⟨(Nat.le_of_ble_eq_true rfl), (Nat.le_of_ble_eq_true rfl)⟩, (hts _ m_X7_shift_ecaf94), (hts _ m_X7_shift_a15a3a)⟩ (pre_v (ci := 6) (q0 := 0) hK (sub_P hm_85 hP) (sub_Dn (ws := wX7o E a0 a1 a2 a3 a4 a5 a6 a7 a8 a9 s0 ++ (wX2 E a1 s1 h1 ++ (wX2 E a2 s2 h2 ++ (wX1 E a3 s3 ++ (wX2 E a4 s4 h4 ++ (wX1 E a5 s5 ++ (wX5 E a6 s6 ++ (wX3 E a7 s7 ++ (wX0 E a8 s8 ++ (wX6 E a9 s9 t9)))))))))) (wc := wX6 E a9 s9 t9) (suf := sW E.2.1 L) [46, 47, 48, 49] (by decide) rfl (hDD s0 s1 h1 s2 h2 s3 s4 h4 s5 s6 s7 s8 s9 t9)) hS hG hAB rfl rfl) rfl rfl hl.1 rfl (lv_room (Nat.le_of_ble_eq_true rfl)) dX7_shift_85 ⟨Nat.zero_le _, Nat.zero_le _⟩) hS (w_free (hDD s0 s1 h1 s2 h2 s3 s4 h4 s5 s6 s7 s8 s9 t9) hS hA hm_85) (fun H locs hP1 hk hS => ?_)
            have hP := w_join (ws' := wX7o E a0 a1 a2 a3 a4 a5 a6 a7 a8 a9 s0 ++ (wX2 E a1 s1 h1 ++ (wX2 E a2 s2 h2 ++ (wX1 E a3 s3 ++ (wX2 E a4 s4 h4 ++ (wX1 E a5 s5 ++ (wX5 E a6 s6 ++ (wX3 E a7 s7 ++ (wX0 E a8 s8 ++ (wX6 E a9 s9 t9)))))))))) (wc := wX6 E a9 s9 t9) (wc' := wX6 E a9 s9 t9) hP (hDD s0 s1 h1 s2 h2 s3 s4 h4 s5 s6 s7 s8 s9 t9) [46, 47, 48, 49] rfl [none, none, none, none, none, none, none, none, none, none, none, none, none, none, none, none, none, none, none, none, none, none, none, none, none, none, none, none, none, none, none, none, none, none, none, none, none, none, none, none, none, none, none, none, none, none, some 0, some 1, some 2, some 3] rfl rfl hk hP1
            refine lv_if_eq (tgt := 106) hx hb dX7_shift_88 (by decide) (fun c_88 => ?_) (fun c_88 => ?_)
            · have hf := ite_t c_88 hf
              refine lv_bipush (v := (-13)) hx hb dX7_shift_106 (by decide) ?_
              have e9 := Option.some.inj hf
              have h9_0 : t9 = q.2 := congrArg (fun z => z.2) e9
              have hP9 : va_P E.1 vwCl ((wX7o E a0 a1 a2 a3 a4 a5 a6 a7 a8 a9 s0 ++ (wX2 E a1 s1 h1 ++ (wX2 E a2 s2 h2 ++ (wX1 E a3 s3 ++ (wX2 E a4 s4 h4 ++ (wX1 E a5 s5 ++ (wX5 E a6 s6 ++ (wX3 E a7 s7 ++ (wX0 E a8 s8 ++ (wX6 E a9 s9 q.2)))))))))) ++ sW E.2.1 L) H := by rw [← h9_0]; exact hP
              exact rt_i hx hb hr hlocks (fst_e e9) hP9 hS dX7_shift_108
            · have hf := ite_f c_88 hf
              refine lv_aload_n hx hb dX7_shift_91 rfl (lv_at hl 0 rfl) ?_
              refine va_get (ci := 7) (C := RX7) (T := TX7) (N := 11) (v := .ref (a9 0)) hx hb hts i_X7_shift_X7 hown hK hP 0 rfl rfl 10 (by decide) (hts _ m_X7_shift_12bc67) (fun _ h9 => h9) rfl dX7_shift_92 ?_
              refine lv_iload_n hx hb dX7_shift_95 rfl (lv_at hl 3 rfl) ?_
              refine lv_iload hx hb dX7_shift_96 (lv_at hl 4 rfl) ?_
              refine lv_iload hx hb dX7_shift_98 (lv_at hl 5 rfl) ?_
              obtain ⟨q100, hc_100, hf⟩ := cl_e hf
              have hm_100 : ∀ q ∈ wX6 E a9 s9 t9, q ∈ (wX7o E a0 a1 a2 a3 a4 a5 a6 a7 a8 a9 s0 ++ (wX2 E a1 s1 h1 ++ (wX2 E a2 s2 h2 ++ (wX1 E a3 s3 ++ (wX2 E a4 s4 h4 ++ (wX1 E a5 s5 ++ (wX5 E a6 s6 ++ (wX3 E a7 s7 ++ (wX0 E a8 s8 ++ (wX6 E a9 s9 t9)))))))))) ++ sW E.2.1 L := (inl_mem (sub_mem (suf := []) [46, 47, 48, 49] rfl))
              refine fin_i (E := E) (wc := wX6 E a9 s9 t9) (wc' := wX6 E a9 s9 t9) (va_runVN (As := [.int p3, .int p4, .int p5]) (rest := []) ⟨hx, hb, hml, hown, hts⟩ (k_X6_hasStretch l E a9 N s9 t9 p3 p4 p5 q100 hc_100 _) ⟨va_cnB 3 hts gX7_shift_X6_hasStretch_n298 rfl rfl rfl (hG.1 (.methodLinkNest "PickedMatch" 298 yX6_hasStretch "PickedMatch") (by decide +kernel)) (hts _ m_X7_shift_4512f1) (by decide +kernel) ⟨(Nat.le_of_ble_eq_true rfl), (Nat.le_of_ble_eq_true rfl)⟩, (hts _ m_X7_shift_ecaf94), (hts _ m_X7_shift_a15a3a)⟩ (pre_v (ci := 6) (q0 := 0) hK (sub_P hm_100 hP) (sub_Dn (ws := wX7o E a0 a1 a2 a3 a4 a5 a6 a7 a8 a9 s0 ++ (wX2 E a1 s1 h1 ++ (wX2 E a2 s2 h2 ++ (wX1 E a3 s3 ++ (wX2 E a4 s4 h4 ++ (wX1 E a5 s5 ++ (wX5 E a6 s6 ++ (wX3 E a7 s7 ++ (wX0 E a8 s8 ++ (wX6 E a9 s9 t9)))))))))) (wc := wX6 E a9 s9 t9) (suf := sW E.2.1 L) [46, 47, 48, 49] (by decide) rfl (hDD s0 s1 h1 s2 h2 s3 s4 h4 s5 s6 s7 s8 s9 t9)) hS hG hAB rfl rfl) rfl rfl hl.1 rfl (lv_room (Nat.le_of_ble_eq_true rfl)) dX7_shift_100 ⟨Nat.zero_le _, Nat.zero_le _⟩) hS (w_free (hDD s0 s1 h1 s2 h2 s3 s4 h4 s5 s6 s7 s8 s9 t9) hS hA hm_100) (fun H locs hP1 hk hS => ?_)
              have hP := w_join (ws' := wX7o E a0 a1 a2 a3 a4 a5 a6 a7 a8 a9 s0 ++ (wX2 E a1 s1 h1 ++ (wX2 E a2 s2 h2 ++ (wX1 E a3 s3 ++ (wX2 E a4 s4 h4 ++ (wX1 E a5 s5 ++ (wX5 E a6 s6 ++ (wX3 E a7 s7 ++ (wX0 E a8 s8 ++ (wX6 E a9 s9 t9)))))))))) (wc := wX6 E a9 s9 t9) (wc' := wX6 E a9 s9 t9) hP (hDD s0 s1 h1 s2 h2 s3 s4 h4 s5 s6 s7 s8 s9 t9) [46, 47, 48, 49] rfl [none, none, none, none, none, none, none, none, none, none, none, none, none, none, none, none, none, none, none, none, none, none, none, none, none, none, none, none, none, none, none, none, none, none, none, none, none, none, none, none, none, none, none, none, none, none, some 0, some 1, some 2, some 3] rfl rfl hk hP1
              refine lv_if_ne (tgt := 109) hx hb dX7_shift_103 (by decide) (fun c_103 => ?_) (fun c_103 => ?_)
              · have hf := ite_f c_103 hf
                refine lv_aload_n hx hb dX7_shift_109 rfl (lv_at hl 0 rfl) ?_
                refine va_get (ci := 7) (C := RX7) (T := TX7) (N := 11) (v := .ref (a9 0)) hx hb hts i_X7_shift_X7 hown hK hP 0 rfl rfl 10 (by decide) (hts _ m_X7_shift_12bc67) (fun _ h9 => h9) rfl dX7_shift_110 ?_
                refine lv_iload_n hx hb dX7_shift_113 rfl (lv_at hl 1 rfl) ?_
                refine lv_iload_n hx hb dX7_shift_114 rfl (lv_at hl 2 rfl) ?_
                refine lv_iload_n hx hb dX7_shift_115 rfl (lv_at hl 3 rfl) ?_
                refine lv_iload hx hb dX7_shift_116 (lv_at hl 4 rfl) ?_
                refine lv_iload hx hb dX7_shift_118 (lv_at hl 5 rfl) ?_
                obtain ⟨q120, hc_120, hf⟩ := cl_e hf
                have hm_120 : ∀ q ∈ wX6 E a9 s9 t9, q ∈ (wX7o E a0 a1 a2 a3 a4 a5 a6 a7 a8 a9 s0 ++ (wX2 E a1 s1 h1 ++ (wX2 E a2 s2 h2 ++ (wX1 E a3 s3 ++ (wX2 E a4 s4 h4 ++ (wX1 E a5 s5 ++ (wX5 E a6 s6 ++ (wX3 E a7 s7 ++ (wX0 E a8 s8 ++ (wX6 E a9 s9 t9)))))))))) ++ sW E.2.1 L := (inl_mem (sub_mem (suf := []) [46, 47, 48, 49] rfl))
                refine fin_v (E := E) (wc := wX6 E a9 s9 t9) (wc' := wX6 E a9 s9 q120) (va_runVN (As := [.int p1, .int p2, .int p3, .int p4, .int p5]) (rest := []) ⟨hx, hb, hml, hown, hts⟩ (k_X6_copyItems l E a9 N s9 t9 p1 p2 p3 p4 p5 q120 hc_120 _) ⟨va_cnB 5 hts gX7_shift_X6_copyItems_n301 rfl rfl rfl (hG.1 (.methodLinkNest "PickedMatch" 301 yX6_copyItems "PickedMatch") (by decide +kernel)) (hts _ m_X7_shift_4512f1) (by decide +kernel) ⟨(Nat.le_of_ble_eq_true rfl), (Nat.le_of_ble_eq_true rfl)⟩, (hts _ m_X7_shift_03fad5), (hts _ m_X7_shift_918721)⟩ (pre_v (ci := 6) (q0 := 0) hK (sub_P hm_120 hP) (sub_Dn (ws := wX7o E a0 a1 a2 a3 a4 a5 a6 a7 a8 a9 s0 ++ (wX2 E a1 s1 h1 ++ (wX2 E a2 s2 h2 ++ (wX1 E a3 s3 ++ (wX2 E a4 s4 h4 ++ (wX1 E a5 s5 ++ (wX5 E a6 s6 ++ (wX3 E a7 s7 ++ (wX0 E a8 s8 ++ (wX6 E a9 s9 t9)))))))))) (wc := wX6 E a9 s9 t9) (suf := sW E.2.1 L) [46, 47, 48, 49] (by decide) rfl (hDD s0 s1 h1 s2 h2 s3 s4 h4 s5 s6 s7 s8 s9 t9)) hS hG hAB rfl rfl) rfl rfl hl.1 rfl (lv_room (Nat.le_of_ble_eq_true rfl)) dX7_shift_120 ⟨Nat.zero_le _, Nat.zero_le _⟩) hS (w_free (hDD s0 s1 h1 s2 h2 s3 s4 h4 s5 s6 s7 s8 s9 t9) hS hA hm_120) (fun H locs hP1 hk hS => ?_)
                have hP := w_join (ws' := wX7o E a0 a1 a2 a3 a4 a5 a6 a7 a8 a9 s0 ++ (wX2 E a1 s1 h1 ++ (wX2 E a2 s2 h2 ++ (wX1 E a3 s3 ++ (wX2 E a4 s4 h4 ++ (wX1 E a5 s5 ++ (wX5 E a6 s6 ++ (wX3 E a7 s7 ++ (wX0 E a8 s8 ++ (wX6 E a9 s9 q120)))))))))) (wc := wX6 E a9 s9 t9) (wc' := wX6 E a9 s9 q120) hP (hDD s0 s1 h1 s2 h2 s3 s4 h4 s5 s6 s7 s8 s9 t9) [46, 47, 48, 49] rfl [none, none, none, none, none, none, none, none, none, none, none, none, none, none, none, none, none, none, none, none, none, none, none, none, none, none, none, none, none, none, none, none, none, none, none, none, none, none, none, none, none, none, none, none, none, none, some 0, some 1, some 2, some 3] rfl rfl hk hP1
                refine lv_iload hx hb dX7_shift_123 (lv_at hl 5 rfl) ?_
                have e9 := Option.some.inj hf
                have h9_0 : q120 = q.2 := congrArg (fun z => z.2) e9
                have hP9 : va_P E.1 vwCl ((wX7o E a0 a1 a2 a3 a4 a5 a6 a7 a8 a9 s0 ++ (wX2 E a1 s1 h1 ++ (wX2 E a2 s2 h2 ++ (wX1 E a3 s3 ++ (wX2 E a4 s4 h4 ++ (wX1 E a5 s5 ++ (wX5 E a6 s6 ++ (wX3 E a7 s7 ++ (wX0 E a8 s8 ++ (wX6 E a9 s9 q.2)))))))))) ++ sW E.2.1 L) H := by rw [← h9_0]; exact hP
                exact rt_i hx hb hr hlocks (fst_e e9) hP9 hS dX7_shift_125
              · have hf := ite_t c_103 hf
                refine lv_bipush (v := (-13)) hx hb dX7_shift_106 (by decide) ?_
                have e9 := Option.some.inj hf
                have h9_0 : t9 = q.2 := congrArg (fun z => z.2) e9
                have hP9 : va_P E.1 vwCl ((wX7o E a0 a1 a2 a3 a4 a5 a6 a7 a8 a9 s0 ++ (wX2 E a1 s1 h1 ++ (wX2 E a2 s2 h2 ++ (wX1 E a3 s3 ++ (wX2 E a4 s4 h4 ++ (wX1 E a5 s5 ++ (wX5 E a6 s6 ++ (wX3 E a7 s7 ++ (wX0 E a8 s8 ++ (wX6 E a9 s9 q.2)))))))))) ++ sW E.2.1 L) H := by rw [← h9_0]; exact hP
                exact rt_i hx hb hr hlocks (fst_e e9) hP9 hS dX7_shift_108
          · have hf := ite_f c_71 hf
            refine lv_bipush (v := (-12)) hx hb dX7_shift_74 (by decide) ?_
            have e9 := Option.some.inj hf
            have h9_0 : t9 = q.2 := congrArg (fun z => z.2) e9
            have hP9 : va_P E.1 vwCl ((wX7o E a0 a1 a2 a3 a4 a5 a6 a7 a8 a9 s0 ++ (wX2 E a1 s1 h1 ++ (wX2 E a2 s2 h2 ++ (wX1 E a3 s3 ++ (wX2 E a4 s4 h4 ++ (wX1 E a5 s5 ++ (wX5 E a6 s6 ++ (wX3 E a7 s7 ++ (wX0 E a8 s8 ++ (wX6 E a9 s9 q.2)))))))))) ++ sW E.2.1 L) H := by rw [← h9_0]; exact hP
            exact rt_i hx hb hr hlocks (fst_e e9) hP9 hS dX7_shift_76
        · have hf := ite_t c_47 hf
          refine lv_bipush (v := (-11)) hx hb dX7_shift_50 (by decide) ?_
          have e9 := Option.some.inj hf
          have h9_0 : t9 = q.2 := congrArg (fun z => z.2) e9
          have hP9 : va_P E.1 vwCl ((wX7o E a0 a1 a2 a3 a4 a5 a6 a7 a8 a9 s0 ++ (wX2 E a1 s1 h1 ++ (wX2 E a2 s2 h2 ++ (wX1 E a3 s3 ++ (wX2 E a4 s4 h4 ++ (wX1 E a5 s5 ++ (wX5 E a6 s6 ++ (wX3 E a7 s7 ++ (wX0 E a8 s8 ++ (wX6 E a9 s9 q.2)))))))))) ++ sW E.2.1 L) H := by rw [← h9_0]; exact hP
          exact rt_i hx hb hr hlocks (fst_e e9) hP9 hS dX7_shift_52
    · have hf := ite_t c_19 hf
      refine lv_iconst (v := (-1)) hx hb dX7_shift_22 (by decide) ?_
      have e9 := Option.some.inj hf
      have h9_0 : t9 = q.2 := congrArg (fun z => z.2) e9
      have hP9 : va_P E.1 vwCl ((wX7o E a0 a1 a2 a3 a4 a5 a6 a7 a8 a9 s0 ++ (wX2 E a1 s1 h1 ++ (wX2 E a2 s2 h2 ++ (wX1 E a3 s3 ++ (wX2 E a4 s4 h4 ++ (wX1 E a5 s5 ++ (wX5 E a6 s6 ++ (wX3 E a7 s7 ++ (wX0 E a8 s8 ++ (wX6 E a9 s9 q.2)))))))))) ++ sW E.2.1 L) H := by rw [← h9_0]; exact hP
      exact rt_i hx hb hr hlocks (fst_e e9) hP9 hS dX7_shift_23
