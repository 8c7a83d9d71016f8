/-! ===== what the methods compute, and that they do: by program out of the bytecode (wip/gen) ===== -/
noncomputable def j_X5_readTest_52 (N : Nat) (s0 : St) (v2 : Int32) (y0 : Int32) : Option (Int32 × St) := (if 0 ≤ y0 then nm (sI s0 6 ((s0 6 0) + 1)) (fun (s0_68 : St) => cl (f_X5_readNumber N s0_68) (fun q72 => (if q72.1 = 0 then some (0, q72.2) else cl (f_X5_addStep N q72.2 (((1000 + (v2 * 1000)) + (y0 * 100)) + (q72.2 7 0))) (fun q101 => some (1, q101))))) else some (0, s0))
noncomputable def j_X5_readTest_15 (N : Nat) (s0 : St) (y0 : Int32) : Option (Int32 × St) := (if 0 ≤ y0 then nm (sI s0 6 ((s0 6 0) + 1)) (fun (s0_29 : St) => cl (f_X5_nextSign N s0_29) (fun q33 => (if 0 ≤ q33 then cl (f_J0_indexOf_0f7a4 N 6 ((q33.toUInt32 % 65536).toInt32)) (fun q49 => j_X5_readTest_52 N s0_29 y0 q49) else j_X5_readTest_52 N s0_29 y0 (-1)))) else some (0, s0))
noncomputable def f_X5_readTest (N : Nat) (s0 : St) (p1 : Int32) : Option (Int32 × St) := (if 0 ≤ p1 then cl (f_J0_indexOf_0f7a4 N 5 ((p1.toUInt32 % 65536).toInt32)) (fun q12 => j_X5_readTest_15 N s0 q12) else j_X5_readTest_15 N s0 (-1))
noncomputable def l_X5_readBoth_12 (rp : St → Int32 → Option (Int32 × St)) (N : Nat) (v1 : Int32) : Nat → St → Int32 → Option (Int32 × St)
  | 0, _, _ => none
  | n + 1, s0, v2 => (if 100 ≤ v2 then some (1, s0) else cl (f_X5_nextSign N s0) (fun q19 => (if q19 = 38 then nm (sI s0 6 ((s0 6 0) + 1)) (fun (s0_34 : St) => cl (rp s0_34 v1) (fun q39 => (if q39.1 = 0 then some (0, q39.2) else cl (f_X5_addStep N q39.2 2) (fun q49 => nm (v2 + 1) (fun (x52 : Int32) => l_X5_readBoth_12 rp N v1 n q49 x52))))) else some (1, s0))))
noncomputable def f_X5_readBoth (rp : St → Int32 → Option (Int32 × St)) (N : Nat) (s0 : St) (p1 : Int32) : Option (Int32 × St) := cl (rp s0 p1) (fun q2 => (if q2.1 = 0 then some (0, q2.2) else l_X5_readBoth_12 rp N p1 N q2.2 0))
noncomputable def l_X5_readEither_12 (rp : St → Int32 → Option (Int32 × St)) (N : Nat) (v1 : Int32) : Nat → St → Int32 → Option (Int32 × St)
  | 0, _, _ => none
  | n + 1, s0, v2 => (if 100 ≤ v2 then some (1, s0) else cl (f_X5_nextSign N s0) (fun q19 => (if q19 = 124 then nm (sI s0 6 ((s0 6 0) + 1)) (fun (s0_34 : St) => cl (f_X5_readBoth rp N s0_34 v1) (fun q39 => (if q39.1 = 0 then some (0, q39.2) else cl (f_X5_addStep N q39.2 3) (fun q49 => nm (v2 + 1) (fun (x52 : Int32) => l_X5_readEither_12 rp N v1 n q49 x52))))) else some (1, s0))))
noncomputable def f_X5_readEither (rp : St → Int32 → Option (Int32 × St)) (N : Nat) (s0 : St) (p1 : Int32) : Option (Int32 × St) := cl (f_X5_readBoth rp N s0 p1) (fun q2 => (if q2.1 = 0 then some (0, q2.2) else l_X5_readEither_12 rp N p1 N q2.2 0))
noncomputable def j_X5_readPart_23 (rp : St → Int32 → Option (Int32 × St)) (N : Nat) (s0 : St) (v1 : Int32) (v2 : Int32) : Option (Int32 × St) := (if v1 < 4 then nm (sI s0 6 ((s0 6 0) + 1)) (fun (s0_37 : St) => (if v2 = 40 then cl (f_X5_readEither rp N s0_37 (v1 + 1)) (fun q50 => (if q50.1 = 0 then some (0, q50.2) else cl (f_X5_readSign N q50.2 41) (fun q59 => (if q59.1 = 0 then some (0, q59.2) else some (1, q59.2))))) else cl (rp s0_37 (v1 + 1)) (fun q75 => (if q75.1 = 0 then some (0, q75.2) else cl (f_X5_addStep N q75.2 1) (fun q85 => some (1, q85)))))) else some (0, s0))
noncomputable def f_X5_readPart (N : Nat) : Nat → St → Int32 → Option (Int32 × St)
  | 0, _, _ => none
  | D + 1, s0, p1 => cl (f_X5_nextSign N s0) (fun q1 => (if q1 = 33 then j_X5_readPart_23 (f_X5_readPart N D) N s0 p1 q1 else (if q1 = 40 then j_X5_readPart_23 (f_X5_readPart N D) N s0 p1 q1 else cl (f_X5_readTest N s0 q1) (fun q19 => cb q19.1 (some (q19.1, q19.2))))))
noncomputable def f_X5_readClause (N : Nat) (s0 : St) : Option (Int32 × St) := cl (f_X5_nextSign N s0) (fun q1 => cl (f_X5_wordFrom N q1) (fun q7 => cl (f_X5_readNumbered N q7 s0) (fun q10 => (if q10.1 = 0 then some (0, q10.2) else nm (q10.2 7 0) (fun (x22 : Int32) => (if q1 = 110 then nm (sI q10.2 4 x22) (fun (s0_31 : St) => some (1, s0_31)) else (if q1 = 104 then nm (sI q10.2 5 (if 1 < x22 then x22 else 1)) (fun (s0_48 : St) => some (1, s0_48)) else cl (f_X5_readSign N q10.2 32) (fun q56 => (if q56.1 = 0 then some (0, q56.2) else cl (f_X5_readEither (f_X5_readPart N 8) N q56.2 0) (fun q64 => (if q64.1 = 0 then some (0, q64.2) else (if q1 = 108 then cl (f_X5_addStep N q64.2 (100 + x22)) (fun q91 => some (1, q91)) else cl (f_X5_addStep N q64.2 (200 + x22)) (fun q91 => some (1, q91))))))))))))))
noncomputable def l_X5_readStreet_23 (N : Nat) : Nat → St → Int32 → Option (Int32 × St)
  | 0, _, _ => none
  | n + 1, s0, v1 => (if 10 < v1 then some (0, s0) else cl (f_X5_readClause N s0) (fun q30 => (if q30.1 = 0 then some (0, q30.2) else (if (q30.2 6 0) < (q30.2 1 0) then (if v1 = 10 then some (0, q30.2) else cl (f_X5_readSign N q30.2 59) (fun q60 => (if q60.1 = 0 then some (0, q60.2) else nm (v1 + 1) (fun (x68 : Int32) => l_X5_readStreet_23 N n q60.2 x68)))) else some (1, q30.2)))))
noncomputable def f_X5_readStreet (N : Nat) (s0 : St) : Option (Int32 × St) := nm (sI s0 6 0) (fun (s0_2 : St) => nm (sI s0_2 3 0) (fun (s0_7 : St) => nm (sI s0_7 4 1) (fun (s0_12 : St) => nm (sI s0_12 5 6) (fun (s0_18 : St) => l_X5_readStreet_23 N N s0_18 1))))
noncomputable def f_X7_isWithin (N : Nat) (p0 : Int32) (p1 : Int32) (p2 : Int32) : Option (Int32) := (if p0 < p1 then some 0 else (if p2 < p0 then some 0 else some 1))
noncomputable def f_X7_thing (N : Nat) (s1 : St) (p1 : Int32) (p2 : Int32) (p3 : Int32) : Option (Int32 × St) := cl (f_X7_isWithin N p1 0 6) (fun q4 => (if q4 = 0 then some ((-1), s1) else cl (f_X7_isWithin N p2 0 9) (fun q16 => (if q16 = 0 then some ((-2), s1) else cl (f_X7_isWithin N p3 0 255) (fun q27 => (if q27 = 0 then some ((-2), s1) else (if (s1 0 0) < 6 then cl (f_X2_addThing N s1 p1 p2 p3) (fun q58 => some (q58.1, q58.2)) else some ((-4), s1))))))))
noncomputable def f_X7_of (N : Nat) (L : List SR) (s1 : St) (h1 : Option SR) (p1 : Int32) (p2 : Int32) : Option (Int32 × St) := cl (f_X2_hasThing N s1 p1) (fun q5 => (if q5 = 0 then some ((-1001), s1) else (if p2 = 0 then ck p1 6 (some (s1 1 p1.toNatClampNeg, s1)) else (if p2 = 1 then ck p1 6 (some (s1 2 p1.toNatClampNeg, s1)) else (if p2 = 2 then ck p1 6 (some (s1 3 p1.toNatClampNeg, s1)) else (if p2 = 3 then cl (f_X2_placeInHad N s1 p1) (fun q95 => some (q95, s1)) else (if p2 = 4 then cl (f_X2_tasteOf N L s1 h1 p1) (fun q104 => some (q104.1, q104.2)) else (if p2 = 5 then cl (f_X2_alikeOf N s1 p1) (fun q113 => some (q113, s1)) else (if p2 = 6 then cl (f_X2_goesNow N L s1 h1 p1) (fun q122 => (if q122.1 = 0 then some (0, q122.2) else some (1, q122.2))) else some ((-1001), s1))))))))))
noncomputable def f_X7_mark (N : Nat) (s1 : St) (p1 : Int32) (p2 : Int32) : Option (Int32 × St) := cl (f_X2_hasThing N s1 p1) (fun q5 => (if q5 = 0 then some ((-1), s1) else cl (f_X7_isWithin N p2 0 255) (fun q18 => (if q18 = 0 then some ((-2), s1) else ck p1 6 (nm (s1 3 p1.toNatClampNeg) (fun (x36 : Int32) => ck p1 6 (nm (sA s1 3 (upd (s1 3) p1.toNatClampNeg p2)) (fun (s1_46 : St) => some (x36, s1_46)))))))))
noncomputable def f_X7_row (N : Nat) (s1 : St) (p1 : Int32) (p2 : Int32) (p3 : Int32) : Option (Int32 × St) := cl (f_X2_hasThing N s1 p1) (fun q5 => (if q5 = 0 then some ((-1), s1) else cl (f_X7_isWithin N p2 0 3) (fun q14 => (if q14 = 0 then some ((-1), s1) else cl (f_X7_isWithin N p3 0 9) (fun q26 => (if q26 = 0 then some ((-2), s1) else ck p1 6 ((if (s1 1 p1.toNatClampNeg) = 6 then nm ((p1 * 4) + p2) (fun (x57 : Int32) => ck x57 24 (nm (s1 4 x57.toNatClampNeg) (fun (x69 : Int32) => ck x57 24 (nm (sA s1 4 (upd (s1 4) x57.toNatClampNeg p3)) (fun (s1_81 : St) => some (x69, s1_81)))))) else some ((-3), s1)))))))))
noncomputable def f_X7_take (N : Nat) (L : List SR) (s1 : St) (h1 : Option SR) (p1 : Int32) : Option (Int32 × St) := cl (f_X2_hasThing N s1 p1) (fun q5 => (if q5 = 0 then some ((-1), s1) else cl (f_X2_goesNow N L s1 h1 p1) (fun q18 => (if q18.1 = 0 then some ((-3), q18.2) else cl (f_X2_pickUp N q18.2 p1) (fun q32 => some (q32 6 0, q32))))))
abbrev rm_X5_readTest : Room := { frames := 4, cells := 0, slots := 0, locals := 106 }
theorem m_X5_readTest_646be5 : Cond.fieldLink RX5 22 "PickedMatch$StreetReader" "place" "I" ∈ wsX5_readTest := by decide +kernel
theorem i_X5_readTest_X5 : ∀ w ∈ wsX50, w ∈ wsX5_readTest := fun _ h => List.mem_cons_of_mem _ (List.mem_append_right _ h)
theorem m_X5_readTest_3a6745 : Cond.fieldLink RX5 54 "PickedMatch$StreetReader" "number" "I" ∈ wsX5_readTest := by decide +kernel
set_option maxHeartbeats 8000000 in
set_option maxRecDepth 100000 in
theorem k_X5_readTest (l : Launch) (E : Ev) (a0 : Nat → Nat) (N : Nat) (s0 : St) (p1 : Int32) (q : (Int32 × St)) (hf : f_X5_readTest N s0 p1 = some q) : Ci l yX5_readTest wsX5_readTest rm_X5_readTest E [.ref (a0 0), .int p1] (wX5 E a0 s0) (wX5 E a0 q.2) q.1 := by
  unfold f_X5_readTest at hf
  intro sz
  refine Met.ofW (cc := cX5_readTest) (maxL := 5) (ret := (some .boolean)) (by decide) rfl ?_
  intro p e s m args below meth c s₁ B hml hv
  obtain ⟨rfl, hsz, hP, hK, hD0, hG, hA, hAB⟩ := start hv
  have hx := B.exec
  have hb := B.bytes
  have hr := B.returns
  have hts := atoms_spec (ws := wsX5_readTest) B.pre
  have hown : s.vm.findClass RX5 = some m.cls := findClass_of_methodNamed B.named
  have hlocks := B.notSynchronized
  subst hsz
  generalize va_A (wX5 E a0 s0) s.heap.size = A0 at hD0 hA hAB ⊢
  have hDD : ∀ (s0 : St), va_D A0 (wX5 E a0 s0) := fun s0 => vD_addr hD0 rfl
  have hS : va_S A0 s.heap s.heap [] := va_S.rf
  have hl := lv_entry ([.ref (a0 0), .int p1]) (n := 5) (Nat.le_of_ble_eq_true rfl)
  rw [lg_entry_eq]
  generalize (lg_sl ([.ref (a0 0), .int p1]) ++ List.replicate (5 - (lg_sl ([.ref (a0 0), .int p1])).length) Slot.unset).toArray = ls at hl ⊢
  have hl : lv_has ls 5 [(0, .ref (a0 0)), (1, .int p1)] := hl
  have hL_52 : ∀ (s0 : St) (v2 : Int32) (y0 : Int32), j_X5_readTest_52 N s0 v2 y0 = some q → ∀ (H : Heap) (locs : List Loc) (ls : Array Slot), va_P E.1 vwCl (wX5 E a0 s0) H → va_S A0 s.heap H locs → lv_has ls 5 [(0, .ref (a0 0)), (2, .int v2)] → W p l e rm_X5_readTest s m ([.ref (a0 0), .int p1] : List Value).toArray below meth c H locs 0 0 (MQ below (va_Qi (fun (r' : Int32) (_ : Unit) => r' = q.1) (fun _ t => va_P E.1 vwCl (wX5 E a0 q.2) t.heap) A0) ([.ref (a0 0), .int p1] : List Value).toArray s 0 0 A0) (F0 m 52 ls [.int y0]) := by
    intro s0 v2 y0 hf H locs ls hP hS hl
    unfold j_X5_readTest_52 at hf
    refine lv_istore (lv' := [(4, .int y0), (0, .ref (a0 0)), (2, .int v2)]) hx hb dX5_readTest_52 hl (Nat.le_of_ble_eq_true rfl) rfl (fun ls hl => ?_)
    refine lv_iload hx hb dX5_readTest_54 (lv_at hl 0 rfl) ?_
    refine lv_if_ge (tgt := 61) hx hb dX5_readTest_56 (by decide) (fun c_56 => ?_) (fun c_56 => ?_)
    · have hf := ite_t c_56 hf
      refine lv_aload_n hx hb dX5_readTest_61 rfl (lv_at hl 1 rfl) ?_
      refine lv_dup hx hb dX5_readTest_62 rfl ?_
      refine va_get (ci := 5) (C := RX5) (T := TX5) (N := 8) (v := .int (s0 6 0)) hx hb hts i_X5_readTest_X5 hown hK hP 0 rfl rfl 6 (by decide) (hts _ m_X5_readTest_646be5) (fun _ h9 => h9) rfl dX5_readTest_63 ?_
      refine lv_iconst (v := 1) hx hb dX5_readTest_66 (by decide) ?_
      refine lv_iadd hx hb dX5_readTest_67 ?_
      refine va_put (ci := 5) (v := .int ((s0 6 0) + 1)) (ty := .int) (C := RX5) (T := TX5) (N := 8) hx hb hts i_X5_readTest_X5 tyX5 tyX5_ok nmX5 hown hK hP (hDD s0) hS 0 rfl rfl 6 (by decide) (hts _ m_X5_readTest_646be5) (fun _ h9 => h9) rfl (by decide +kernel) rfl rfl (Nat.le_of_ble_eq_true rfl) dX5_readTest_68 (fun H locs hP _ hS => ?_)
      obtain ⟨s0_68, hP, hf⟩ := nm_st' (P := fun z => va_P E.1 vwCl (wX5 E a0 z) H) hf hP
      refine lv_aload_n hx hb dX5_readTest_71 rfl (lv_at hl 1 rfl) ?_
      obtain ⟨q72, hc_72, hf⟩ := cl_e hf
      refine fin_i (E := E) (wc := wX5 E a0 s0_68) (wc' := wX5 E a0 q72.2) (va_runV (As := []) (rest := []) ⟨hx, hb, hml, hown, hts⟩ (k_X5_readNumber l E a0 N s0_68 q72 hc_72 _) (cwV 0 hts gX5_readTest_X5_readNumber rfl rfl rfl (by decide +kernel) ⟨(Nat.le_of_ble_eq_true rfl), (Nat.le_of_ble_eq_true rfl)⟩) (pre_v (ci := 5) (q0 := 0) hK hP (hDD s0_68) hS hG hAB rfl rfl) rfl rfl hl.1 rfl (lv_room (Nat.le_of_ble_eq_true rfl)) dX5_readTest_72 ⟨Nat.zero_le _, Nat.zero_le _⟩) hS (w_free (hDD s0_68) hS hA (fun _ h => h)) (fun H locs hP1 hk hS => ?_)
      have hP := hP1
      refine lv_if_ne (tgt := 80) hx hb dX5_readTest_75 (by decide) (fun c_75 => ?_) (fun c_75 => ?_)
      · have hf := ite_f c_75 hf
        refine lv_aload_n hx hb dX5_readTest_80 rfl (lv_at hl 1 rfl) ?_
        refine lv_sipush (v := 1000) hx hb dX5_readTest_81 (by decide) ?_
        refine lv_iload_n hx hb dX5_readTest_84 rfl (lv_at hl 2 rfl) ?_
        refine lv_sipush (v := 1000) hx hb dX5_readTest_85 (by decide) ?_
        refine lv_imul hx hb dX5_readTest_88 ?_
        refine lv_iadd hx hb dX5_readTest_89 ?_
        refine lv_iload hx hb dX5_readTest_90 (lv_at hl 0 rfl) ?_
        refine lv_bipush (v := 100) hx hb dX5_readTest_92 (by decide) ?_
        refine lv_imul hx hb dX5_readTest_94 ?_
        refine lv_iadd hx hb dX5_readTest_95 ?_
        refine lv_aload_n hx hb dX5_readTest_96 rfl (lv_at hl 1 rfl) ?_
        refine va_get (ci := 5) (C := RX5) (T := TX5) (N := 8) (v := .int (q72.2 7 0)) hx hb hts i_X5_readTest_X5 hown hK hP 0 rfl rfl 7 (by decide) (hts _ m_X5_readTest_3a6745) (fun _ h9 => h9) rfl dX5_readTest_97 ?_
        refine lv_iadd hx hb dX5_readTest_100 ?_
        obtain ⟨q101, hc_101, hf⟩ := cl_e hf
        refine fin_v (E := E) (wc := wX5 E a0 q72.2) (wc' := wX5 E a0 q101) (va_runV (As := [.int (((1000 + (v2 * 1000)) + (y0 * 100)) + (q72.2 7 0))]) (rest := []) ⟨hx, hb, hml, hown, hts⟩ (k_X5_addStep l E a0 N q72.2 (((1000 + (v2 * 1000)) + (y0 * 100)) + (q72.2 7 0)) q101 hc_101 _) (cwV 1 hts gX5_readTest_X5_addStep rfl rfl rfl (by decide +kernel) ⟨(Nat.le_of_ble_eq_true rfl), (Nat.le_of_ble_eq_true rfl)⟩) (pre_v (ci := 5) (q0 := 0) hK hP (hDD q72.2) hS hG hAB rfl rfl) rfl rfl hl.1 rfl (lv_room (Nat.le_of_ble_eq_true rfl)) dX5_readTest_101 ⟨Nat.zero_le _, Nat.zero_le _⟩) hS (w_free (hDD q72.2) hS hA (fun _ h => h)) (fun H locs hP1 hk hS => ?_)
        have hP := hP1
        refine lv_iconst (v := 1) hx hb dX5_readTest_104 (by decide) ?_
        have e9 := Option.some.inj hf
        exact rt_z hx hb hr rfl hlocks (fst_e e9) (rtP (P := fun z => va_P E.1 vwCl (wX5 E a0 z.2) H) e9 hP) hS dX5_readTest_105
      · have hf := ite_t c_75 hf
        refine lv_iconst (v := 0) hx hb dX5_readTest_78 (by decide) ?_
        have e9 := Option.some.inj hf
        exact rt_z hx hb hr rfl hlocks (fst_e e9) (rtP (P := fun z => va_P E.1 vwCl (wX5 E a0 z.2) H) e9 hP) hS dX5_readTest_79
    · have hf := ite_f c_56 hf
      refine lv_iconst (v := 0) hx hb dX5_readTest_59 (by decide) ?_
      have e9 := Option.some.inj hf
      exact rt_z hx hb hr rfl hlocks (fst_e e9) (rtP (P := fun z => va_P E.1 vwCl (wX5 E a0 z.2) H) e9 hP) hS dX5_readTest_60
  have hL_15 : ∀ (s0 : St) (y0 : Int32), j_X5_readTest_15 N s0 y0 = some q → ∀ (H : Heap) (locs : List Loc) (ls : Array Slot), va_P E.1 vwCl (wX5 E a0 s0) H → va_S A0 s.heap H locs → lv_has ls 5 [(0, .ref (a0 0))] → W p l e rm_X5_readTest s m ([.ref (a0 0), .int p1] : List Value).toArray below meth c H locs 0 0 (MQ below (va_Qi (fun (r' : Int32) (_ : Unit) => r' = q.1) (fun _ t => va_P E.1 vwCl (wX5 E a0 q.2) t.heap) A0) ([.ref (a0 0), .int p1] : List Value).toArray s 0 0 A0) (F0 m 15 ls [.int y0]) := by
    intro s0 y0 hf H locs ls hP hS hl
    unfold j_X5_readTest_15 at hf
    refine lv_istore_n (lv' := [(2, .int y0), (0, .ref (a0 0))]) hx hb dX5_readTest_15 rfl hl (Nat.le_of_ble_eq_true rfl) rfl (fun ls hl => ?_)
    refine lv_iload_n hx hb dX5_readTest_16 rfl (lv_at hl 0 rfl) ?_
    refine lv_if_ge (tgt := 22) hx hb dX5_readTest_17 (by decide) (fun c_17 => ?_) (fun c_17 => ?_)
    · have hf := ite_t c_17 hf
      refine lv_aload_n hx hb dX5_readTest_22 rfl (lv_at hl 1 rfl) ?_
      refine lv_dup hx hb dX5_readTest_23 rfl ?_
      refine va_get (ci := 5) (C := RX5) (T := TX5) (N := 8) (v := .int (s0 6 0)) hx hb hts i_X5_readTest_X5 hown hK hP 0 rfl rfl 6 (by decide) (hts _ m_X5_readTest_646be5) (fun _ h9 => h9) rfl dX5_readTest_24 ?_
      refine lv_iconst (v := 1) hx hb dX5_readTest_27 (by decide) ?_
      refine lv_iadd hx hb dX5_readTest_28 ?_
      refine va_put (ci := 5) (v := .int ((s0 6 0) + 1)) (ty := .int) (C := RX5) (T := TX5) (N := 8) hx hb hts i_X5_readTest_X5 tyX5 tyX5_ok nmX5 hown hK hP (hDD s0) hS 0 rfl rfl 6 (by decide) (hts _ m_X5_readTest_646be5) (fun _ h9 => h9) rfl (by decide +kernel) rfl rfl (Nat.le_of_ble_eq_true rfl) dX5_readTest_29 (fun H locs hP _ hS => ?_)
      obtain ⟨s0_29, hP, hf⟩ := nm_st' (P := fun z => va_P E.1 vwCl (wX5 E a0 z) H) hf hP
      refine lv_aload_n hx hb dX5_readTest_32 rfl (lv_at hl 1 rfl) ?_
      obtain ⟨q33, hc_33, hf⟩ := cl_e hf
      refine fin_i (E := E) (wc := wX5 E a0 s0_29) (wc' := wX5 E a0 s0_29) (va_runV (As := []) (rest := []) ⟨hx, hb, hml, hown, hts⟩ (k_X5_nextSign l E a0 N s0_29 q33 hc_33 _) (cwV 0 hts gX5_readTest_X5_nextSign rfl rfl rfl (by decide +kernel) ⟨(Nat.le_of_ble_eq_true rfl), (Nat.le_of_ble_eq_true rfl)⟩) (pre_v (ci := 5) (q0 := 0) hK hP (hDD s0_29) hS hG hAB rfl rfl) rfl rfl hl.1 rfl (lv_room (Nat.le_of_ble_eq_true rfl)) dX5_readTest_33 ⟨Nat.zero_le _, Nat.zero_le _⟩) hS (w_free (hDD s0_29) hS hA (fun _ h => h)) (fun H locs hP1 hk hS => ?_)
      have hP := hP1
      refine lv_istore_n (lv' := [(3, .int q33), (2, .int y0), (0, .ref (a0 0))]) hx hb dX5_readTest_36 rfl hl (Nat.le_of_ble_eq_true rfl) rfl (fun ls hl => ?_)
      refine lv_iload_n hx hb dX5_readTest_37 rfl (lv_at hl 0 rfl) ?_
      refine lv_if_ge (tgt := 45) hx hb dX5_readTest_38 (by decide) (fun c_38 => ?_) (fun c_38 => ?_)
      · have hf := ite_t c_38 hf
        refine va_ldcS hx hb hown (hG.2.1 (109, "<=>", 6) (by decide)) dX5_readTest_45 ?_
        refine lv_iload_n hx hb dX5_readTest_47 rfl (lv_at hl 0 rfl) ?_
        refine lv_i2c (v := (q33.toUInt32 % 65536).toInt32) hx hb dX5_readTest_48 rfl ?_
        obtain ⟨q49, hc_49, hf⟩ := cl_e hf
        have hw_49 : 6 < 7 := by decide
        have hk_49 := hG.2.2.1.2.2.2.2.1 6 hw_49
        refine fin_i (E := E) (wc := ([] : va_W)) (wc' := ([] : va_W)) (va_runV (As := [.int ((q33.toUInt32 % 65536).toInt32)]) (rest := []) ⟨hx, hb, hml, hown, hts⟩ (k_J0_indexOf_0f7a4 l E N 6 ((q33.toUInt32 % 65536).toInt32) q49 hc_49 _) (cwV 1 hts gX5_readTest_J0_indexOf_0f7a4 rfl rfl rfl (by decide +kernel) ⟨(Nat.le_of_ble_eq_true rfl), (Nat.le_of_ble_eq_true rfl)⟩) (pre_k hK va_P_nil va_D_nil hS hG hAB hw_49) rfl rfl hl.1 rfl (lv_room (Nat.le_of_ble_eq_true rfl)) dX5_readTest_49 ⟨Nat.zero_le _, Nat.zero_le _⟩) hS (free_nil hS hA) (fun H locs hP1 hk hS => ?_)
        have hP := w_kept0 hP hk
        exact hL_52 s0_29 y0 q49 hf _ _ _ hP hS (lv_sub hl [2, 1] rfl)
      · have hf := ite_f c_38 hf
        refine lv_iconst (v := (-1)) hx hb dX5_readTest_41 (by decide) ?_
        refine lv_goto (tgt := 52) hx hb dX5_readTest_42 (by decide) ?_
        exact hL_52 s0_29 y0 (-1) hf _ _ _ hP hS (lv_sub hl [2, 1] rfl)
    · have hf := ite_f c_17 hf
      refine lv_iconst (v := 0) hx hb dX5_readTest_20 (by decide) ?_
      have e9 := Option.some.inj hf
      exact rt_z hx hb hr rfl hlocks (fst_e e9) (rtP (P := fun z => va_P E.1 vwCl (wX5 E a0 z.2) H) e9 hP) hS dX5_readTest_21
  refine lv_iload_n hx hb dX5_readTest_0 rfl (lv_at hl 1 rfl) ?_
  refine lv_if_ge (tgt := 8) hx hb dX5_readTest_1 (by decide) (fun c_1 => ?_) (fun c_1 => ?_)
  · have hf := ite_t c_1 hf
    refine va_ldcS hx hb hown (hG.2.1 (103, "tkvmwd", 5) (by decide)) dX5_readTest_8 ?_
    refine lv_iload_n hx hb dX5_readTest_10 rfl (lv_at hl 1 rfl) ?_
    refine lv_i2c (v := (p1.toUInt32 % 65536).toInt32) hx hb dX5_readTest_11 rfl ?_
    obtain ⟨q12, hc_12, hf⟩ := cl_e hf
    have hw_12 : 5 < 7 := by decide
    have hk_12 := hG.2.2.1.2.2.2.2.1 5 hw_12
    refine fin_i (E := E) (wc := ([] : va_W)) (wc' := ([] : va_W)) (va_runV (As := [.int ((p1.toUInt32 % 65536).toInt32)]) (rest := []) ⟨hx, hb, hml, hown, hts⟩ (k_J0_indexOf_0f7a4 l E N 5 ((p1.toUInt32 % 65536).toInt32) q12 hc_12 _) (cwV 1 hts gX5_readTest_J0_indexOf_0f7a4 rfl rfl rfl (by decide +kernel) ⟨(Nat.le_of_ble_eq_true rfl), (Nat.le_of_ble_eq_true rfl)⟩) (pre_k hK va_P_nil va_D_nil hS hG hAB hw_12) rfl rfl hl.1 rfl (lv_room (Nat.le_of_ble_eq_true rfl)) dX5_readTest_12 ⟨Nat.zero_le _, Nat.zero_le _⟩) hS (free_nil hS hA) (fun H locs hP1 hk hS => ?_)
    have hP := w_kept0 hP hk
    exact hL_15 s0 q12 hf _ _ _ hP hS (lv_sub hl [0] rfl)
  · have hf := ite_f c_1 hf
    refine lv_iconst (v := (-1)) hx hb dX5_readTest_4 (by decide) ?_
    refine lv_goto (tgt := 15) hx hb dX5_readTest_5 (by decide) ?_
    exact hL_15 s0 (-1) hf _ _ _ hP hS (lv_sub hl [0] rfl)
def rm_X5_readBoth (D : Nat) : Room := { frames := 3 * D + 13, cells := 0, slots := 0, locals := 90 * D + 430 }
theorem m_X5_readBoth_646be5 : Cond.fieldLink RX5 22 "PickedMatch$StreetReader" "place" "I" ∈ wsX5_readBoth := by decide +kernel
theorem i_X5_readBoth_X5 : ∀ w ∈ wsX50, w ∈ wsX5_readBoth := fun _ h => List.mem_cons_of_mem _ (List.mem_append_right _ h)
set_option maxHeartbeats 8000000 in
set_option maxRecDepth 100000 in
theorem k_X5_readBoth (l : Launch) (N : Nat) (D : Nat) (ihD : ∀ (E : Ev) (a0 : Nat → Nat) (s0 : St) (p1 : Int32) (q : Int32 × St), f_X5_readPart N D s0 p1 = some q → Ci l yX5_readPart wsX5_readPart (rm_X5_readPart D) E [.ref (a0 0), .int p1] (wX5 E a0 s0) (wX5 E a0 q.2) q.1) (E : Ev) (a0 : Nat → Nat) (s0 : St) (p1 : Int32) (q : (Int32 × St)) (hf : f_X5_readBoth (f_X5_readPart N D) N s0 p1 = some q) : Ci l yX5_readBoth wsX5_readBoth (rm_X5_readBoth D) E [.ref (a0 0), .int p1] (wX5 E a0 s0) (wX5 E a0 q.2) q.1 := by
  unfold f_X5_readBoth at hf
  intro sz
  refine Met.ofW (cc := cX5_readBoth) (maxL := 3) (ret := (some .boolean)) (by decide) rfl ?_
  intro p e s m args below meth c s₁ B hml hv
  obtain ⟨rfl, hsz, hP, hK, hD0, hG, hA, hAB⟩ := start hv
  have hx := B.exec
  have hb := B.bytes
  have hr := B.returns
  have hts := atoms_spec (ws := wsX5_readBoth) B.pre
  have hown : s.vm.findClass RX5 = some m.cls := findClass_of_methodNamed B.named
  have hlocks := B.notSynchronized
  subst hsz
  generalize va_A (wX5 E a0 s0) s.heap.size = A0 at hD0 hA hAB ⊢
  have hDD : ∀ (s0 : St), va_D A0 (wX5 E a0 s0) := fun s0 => vD_addr hD0 rfl
  have hS : va_S A0 s.heap s.heap [] := va_S.rf
  have hl := lv_entry ([.ref (a0 0), .int p1]) (n := 3) (Nat.le_of_ble_eq_true rfl)
  rw [lg_entry_eq]
  generalize (lg_sl ([.ref (a0 0), .int p1]) ++ List.replicate (3 - (lg_sl ([.ref (a0 0), .int p1])).length) Slot.unset).toArray = ls at hl ⊢
  have hl : lv_has ls 3 [(0, .ref (a0 0)), (1, .int p1)] := hl
  have hL_12 : ∀ (v1 : Int32) (n_12 : Nat) (s0 : St) (v2 : Int32), l_X5_readBoth_12 rp N v1 n_12 s0 v2 = some q → ∀ (H : Heap) (locs : List Loc) (ls : Array Slot), va_P E.1 vwCl (wX5 E a0 s0) H → va_S A0 s.heap H locs → lv_has ls 3 [(0, .ref (a0 0)), (1, .int v1), (2, .int v2)] → W p l e (rm_X5_readBoth D) s m ([.ref (a0 0), .int p1] : List Value).toArray below meth c H locs 0 0 (MQ below (va_Qi (fun (r' : Int32) (_ : Unit) => r' = q.1) (fun _ t => va_P E.1 vwCl (wX5 E a0 q.2) t.heap) A0) ([.ref (a0 0), .int p1] : List Value).toArray s 0 0 A0) (F0 m 12 ls []) := by
    intro v1 n_12
    induction n_12 with
    | zero => intro s0 v2 hf; rw [l_X5_readBoth_12] at hf; cases hf
    | succ n_12 ih_12 =>
      intro s0 v2 hf H locs ls hP hS hl
      rw [l_X5_readBoth_12] at hf
      refine lv_iload_n hx hb dX5_readBoth_12 rfl (lv_at hl 2 rfl) ?_
      refine lv_bipush (v := 100) hx hb dX5_readBoth_13 (by decide) ?_
      refine lv_icmp_ge (tgt := 58) hx hb dX5_readBoth_15 (by decide) (fun c_15 => ?_) (fun c_15 => ?_)
      · have hf := ite_t c_15 hf
        refine lv_iconst (v := 1) hx hb dX5_readBoth_58 (by decide) ?_
        have e9 := Option.some.inj hf
        exact rt_z hx hb hr rfl hlocks (fst_e e9) (rtP (P := fun z => va_P E.1 vwCl (wX5 E a0 z.2) H) e9 hP) hS dX5_readBoth_59
      · have hf := ite_f c_15 hf
        refine lv_aload_n hx hb dX5_readBoth_18 rfl (lv_at hl 0 rfl) ?_
        obtain ⟨q19, hc_19, hf⟩ := cl_e hf
        refine fin_i (E := E) (wc := wX5 E a0 s0) (wc' := wX5 E a0 s0) (va_runV (As := []) (rest := []) ⟨hx, hb, hml, hown, hts⟩ (k_X5_nextSign l E a0 N s0 q19 hc_19 _) (cwV 0 hts gX5_readBoth_X5_nextSign rfl rfl rfl (by decide +kernel) ⟨(by simp only [headSpec, rm_X5_readBoth, rm_X5_nextSign]; omega), (by simp only [headSpec, rm_X5_readBoth, rm_X5_nextSign]; omega)⟩) (pre_v (ci := 5) (q0 := 0) hK hP (hDD s0) hS hG hAB rfl rfl) rfl rfl hl.1 rfl (lv_room (Nat.le_of_ble_eq_true rfl)) dX5_readBoth_19 ⟨Nat.zero_le _, Nat.zero_le _⟩) hS (w_free (hDD s0) hS hA (fun _ h => h)) (fun H locs hP1 hk hS => ?_)
        have hP := hP1
        refine lv_bipush (v := 38) hx hb dX5_readBoth_22 (by decide) ?_
        refine lv_icmp_ne (tgt := 58) hx hb dX5_readBoth_24 (by decide) (fun c_24 => ?_) (fun c_24 => ?_)
        · have hf := ite_f c_24 hf
          refine lv_iconst (v := 1) hx hb dX5_readBoth_58 (by decide) ?_
          have e9 := Option.some.inj hf
          exact rt_z hx hb hr rfl hlocks (fst_e e9) (rtP (P := fun z => va_P E.1 vwCl (wX5 E a0 z.2) H) e9 hP) hS dX5_readBoth_59
        · have hf := ite_t c_24 hf
          refine lv_aload_n hx hb dX5_readBoth_27 rfl (lv_at hl 0 rfl) ?_
          refine lv_dup hx hb dX5_readBoth_28 rfl ?_
          refine va_get (ci := 5) (C := RX5) (T := TX5) (N := 8) (v := .int (s0 6 0)) hx hb hts i_X5_readBoth_X5 hown hK hP 0 rfl rfl 6 (by decide) (hts _ m_X5_readBoth_646be5) (fun _ h9 => h9) rfl dX5_readBoth_29 ?_
          refine lv_iconst (v := 1) hx hb dX5_readBoth_32 (by decide) ?_
          refine lv_iadd hx hb dX5_readBoth_33 ?_
          refine va_put (ci := 5) (v := .int ((s0 6 0) + 1)) (ty := .int) (C := RX5) (T := TX5) (N := 8) hx hb hts i_X5_readBoth_X5 tyX5 tyX5_ok nmX5 hown hK hP (hDD s0) hS 0 rfl rfl 6 (by decide) (hts _ m_X5_readBoth_646be5) (fun _ h9 => h9) rfl (by decide +kernel) rfl rfl (Nat.le_of_ble_eq_true rfl) dX5_readBoth_34 (fun H locs hP _ hS => ?_)
          obtain ⟨s0_34, hP, hf⟩ := nm_st' (P := fun z => va_P E.1 vwCl (wX5 E a0 z) H) hf hP
          refine lv_aload_n hx hb dX5_readBoth_37 rfl (lv_at hl 0 rfl) ?_
          refine lv_iload_n hx hb dX5_readBoth_38 rfl (lv_at hl 1 rfl) ?_
          obtain ⟨q39, hc_39, hf⟩ := cl_e hf
          refine fin_i (E := E) (wc := wX5 E a0 s0_34) (wc' := wX5 E a0 q39.2) (va_runV (As := [.int v1]) (rest := []) ⟨hx, hb, hml, hown, hts⟩ (ihD E a0 s0_34 v1 q39 hc_39 _) (cwV 1 hts gX5_readBoth_X5_readPart rfl rfl rfl (by decide +kernel) ⟨(by simp only [headSpec, rm_X5_readBoth, rm_X5_readPart]; omega), (by simp only [headSpec, rm_X5_readBoth, rm_X5_readPart]; omega)⟩) (pre_v (ci := 5) (q0 := 0) hK hP (hDD s0_34) hS hG hAB rfl rfl) rfl rfl hl.1 rfl (lv_room (Nat.le_of_ble_eq_true rfl)) dX5_readBoth_39 ⟨Nat.zero_le _, Nat.zero_le _⟩) hS (w_free (hDD s0_34) hS hA (fun _ h => h)) (fun H locs hP1 hk hS => ?_)
          have hP := hP1
          refine lv_if_ne (tgt := 47) hx hb dX5_readBoth_42 (by decide) (fun c_42 => ?_) (fun c_42 => ?_)
          · have hf := ite_f c_42 hf
            refine lv_aload_n hx hb dX5_readBoth_47 rfl (lv_at hl 0 rfl) ?_
            refine lv_iconst (v := 2) hx hb dX5_readBoth_48 (by decide) ?_
            obtain ⟨q49, hc_49, hf⟩ := cl_e hf
            refine fin_v (E := E) (wc := wX5 E a0 q39.2) (wc' := wX5 E a0 q49) (va_runV (As := [.int 2]) (rest := []) ⟨hx, hb, hml, hown, hts⟩ (k_X5_addStep l E a0 N q39.2 2 q49 hc_49 _) (cwV 1 hts gX5_readBoth_X5_addStep rfl rfl rfl (by decide +kernel) ⟨(by simp only [headSpec, rm_X5_readBoth, rm_X5_addStep]; omega), (by simp only [headSpec, rm_X5_readBoth, rm_X5_addStep]; omega)⟩) (pre_v (ci := 5) (q0 := 0) hK hP (hDD q39.2) hS hG hAB rfl rfl) rfl rfl hl.1 rfl (lv_room (Nat.le_of_ble_eq_true rfl)) dX5_readBoth_49 ⟨Nat.zero_le _, Nat.zero_le _⟩) hS (w_free (hDD q39.2) hS hA (fun _ h => h)) (fun H locs hP1 hk hS => ?_)
            have hP := hP1
            obtain ⟨x52, e_x52⟩ : ∃ y : Int32, y = v2 + 1 := ⟨_, rfl⟩
            have hf := nm_q e_x52 hf
            refine lv_iinc (v := x52) (lv' := [(2, .int x52), (0, .ref (a0 0)), (1, .int v1)]) hx hb dX5_readBoth_52 hl (k := 2) rfl (by rw [e_x52]; rfl) (Nat.le_of_ble_eq_true rfl) rfl (fun ls hl => ?_)
            refine lv_goto (tgt := 12) hx hb dX5_readBoth_55 (by decide) ?_
            exact ih_12 q49 x52 hf _ _ _ hP hS (lv_sub hl [1, 2, 0] rfl)
          · have hf := ite_t c_42 hf
            refine lv_iconst (v := 0) hx hb dX5_readBoth_45 (by decide) ?_
            have e9 := Option.some.inj hf
            exact rt_z hx hb hr rfl hlocks (fst_e e9) (rtP (P := fun z => va_P E.1 vwCl (wX5 E a0 z.2) H) e9 hP) hS dX5_readBoth_46
  refine lv_aload_n hx hb dX5_readBoth_0 rfl (lv_at hl 0 rfl) ?_
  refine lv_iload_n hx hb dX5_readBoth_1 rfl (lv_at hl 1 rfl) ?_
  obtain ⟨q2, hc_2, hf⟩ := cl_e hf
  refine fin_i (E := E) (wc := wX5 E a0 s0) (wc' := wX5 E a0 q2.2) (va_runV (As := [.int p1]) (rest := []) ⟨hx, hb, hml, hown, hts⟩ (ihD E a0 s0 p1 q2 hc_2 _) (cwV 1 hts gX5_readBoth_X5_readPart rfl rfl rfl (by decide +kernel) ⟨(by simp only [headSpec, rm_X5_readBoth, rm_X5_readPart]; omega), (by simp only [headSpec, rm_X5_readBoth, rm_X5_readPart]; omega)⟩) (pre_v (ci := 5) (q0 := 0) hK hP (hDD s0) hS hG hAB rfl rfl) rfl rfl hl.1 rfl (lv_room (Nat.le_of_ble_eq_true rfl)) dX5_readBoth_2 ⟨Nat.zero_le _, Nat.zero_le _⟩) hS (w_free (hDD s0) hS hA (fun _ h => h)) (fun H locs hP1 hk hS => ?_)
  have hP := hP1
  refine lv_if_ne (tgt := 10) hx hb dX5_readBoth_5 (by decide) (fun c_5 => ?_) (fun c_5 => ?_)
  · have hf := ite_f c_5 hf
    refine lv_iconst (v := 0) hx hb dX5_readBoth_10 (by decide) ?_
    refine lv_istore_n (lv' := [(2, .int 0), (0, .ref (a0 0)), (1, .int p1)]) hx hb dX5_readBoth_11 rfl hl (Nat.le_of_ble_eq_true rfl) rfl (fun ls hl => ?_)
    exact hL_12 p1 N q2.2 0 hf _ _ _ hP hS (lv_sub hl [1, 2, 0] rfl)
  · have hf := ite_t c_5 hf
    refine lv_iconst (v := 0) hx hb dX5_readBoth_8 (by decide) ?_
    have e9 := Option.some.inj hf
    exact rt_z hx hb hr rfl hlocks (fst_e e9) (rtP (P := fun z => va_P E.1 vwCl (wX5 E a0 z.2) H) e9 hP) hS dX5_readBoth_9
def rm_X5_readEither (D : Nat) : Room := { frames := 3 * D + 14, cells := 0, slots := 0, locals := 90 * D + 460 }
theorem m_X5_readEither_646be5 : Cond.fieldLink RX5 22 "PickedMatch$StreetReader" "place" "I" ∈ wsX5_readEither := by decide +kernel
theorem i_X5_readEither_X5 : ∀ w ∈ wsX50, w ∈ wsX5_readEither := fun _ h => List.mem_cons_of_mem _ (List.mem_append_right _ h)
set_option maxHeartbeats 8000000 in
set_option maxRecDepth 100000 in
theorem k_X5_readEither (l : Launch) (N : Nat) (D : Nat) (ihD : ∀ (E : Ev) (a0 : Nat → Nat) (s0 : St) (p1 : Int32) (q : Int32 × St), f_X5_readPart N D s0 p1 = some q → Ci l yX5_readPart wsX5_readPart (rm_X5_readPart D) E [.ref (a0 0), .int p1] (wX5 E a0 s0) (wX5 E a0 q.2) q.1) (E : Ev) (a0 : Nat → Nat) (s0 : St) (p1 : Int32) (q : (Int32 × St)) (hf : f_X5_readEither (f_X5_readPart N D) N s0 p1 = some q) : Ci l yX5_readEither wsX5_readEither (rm_X5_readEither D) E [.ref (a0 0), .int p1] (wX5 E a0 s0) (wX5 E a0 q.2) q.1 := by
  unfold f_X5_readEither at hf
  intro sz
  refine Met.ofW (cc := cX5_readEither) (maxL := 3) (ret := (some .boolean)) (by decide) rfl ?_
  intro p e s m args below meth c s₁ B hml hv
  obtain ⟨rfl, hsz, hP, hK, hD0, hG, hA, hAB⟩ := start hv
  have hx := B.exec
  have hb := B.bytes
  have hr := B.returns
  have hts := atoms_spec (ws := wsX5_readEither) B.pre
  have hown : s.vm.findClass RX5 = some m.cls := findClass_of_methodNamed B.named
  have hlocks := B.notSynchronized
  subst hsz
  generalize va_A (wX5 E a0 s0) s.heap.size = A0 at hD0 hA hAB ⊢
  have hDD : ∀ (s0 : St), va_D A0 (wX5 E a0 s0) := fun s0 => vD_addr hD0 rfl
  have hS : va_S A0 s.heap s.heap [] := va_S.rf
  have hl := lv_entry ([.ref (a0 0), .int p1]) (n := 3) (Nat.le_of_ble_eq_true rfl)
  rw [lg_entry_eq]
  generalize (lg_sl ([.ref (a0 0), .int p1]) ++ List.replicate (3 - (lg_sl ([.ref (a0 0), .int p1])).length) Slot.unset).toArray = ls at hl ⊢
  have hl : lv_has ls 3 [(0, .ref (a0 0)), (1, .int p1)] := hl
  have hL_12 : ∀ (v1 : Int32) (n_12 : Nat) (s0 : St) (v2 : Int32), l_X5_readEither_12 rp N v1 n_12 s0 v2 = some q → ∀ (H : Heap) (locs : List Loc) (ls : Array Slot), va_P E.1 vwCl (wX5 E a0 s0) H → va_S A0 s.heap H locs → lv_has ls 3 [(0, .ref (a0 0)), (1, .int v1), (2, .int v2)] → W p l e (rm_X5_readEither D) s m ([.ref (a0 0), .int p1] : List Value).toArray below meth c H locs 0 0 (MQ below (va_Qi (fun (r' : Int32) (_ : Unit) => r' = q.1) (fun _ t => va_P E.1 vwCl (wX5 E a0 q.2) t.heap) A0) ([.ref (a0 0), .int p1] : List Value).toArray s 0 0 A0) (F0 m 12 ls []) := by
    intro v1 n_12
    induction n_12 with
    | zero => intro s0 v2 hf; rw [l_X5_readEither_12] at hf; cases hf
    | succ n_12 ih_12 =>
      intro s0 v2 hf H locs ls hP hS hl
      rw [l_X5_readEither_12] at hf
      refine lv_iload_n hx hb dX5_readEither_12 rfl (lv_at hl 2 rfl) ?_
      refine lv_bipush (v := 100) hx hb dX5_readEither_13 (by decide) ?_
      refine lv_icmp_ge (tgt := 58) hx hb dX5_readEither_15 (by decide) (fun c_15 => ?_) (fun c_15 => ?_)
      · have hf := ite_t c_15 hf
        refine lv_iconst (v := 1) hx hb dX5_readEither_58 (by decide) ?_
        have e9 := Option.some.inj hf
        exact rt_z hx hb hr rfl hlocks (fst_e e9) (rtP (P := fun z => va_P E.1 vwCl (wX5 E a0 z.2) H) e9 hP) hS dX5_readEither_59
      · have hf := ite_f c_15 hf
        refine lv_aload_n hx hb dX5_readEither_18 rfl (lv_at hl 0 rfl) ?_
        obtain ⟨q19, hc_19, hf⟩ := cl_e hf
        refine fin_i (E := E) (wc := wX5 E a0 s0) (wc' := wX5 E a0 s0) (va_runV (As := []) (rest := []) ⟨hx, hb, hml, hown, hts⟩ (k_X5_nextSign l E a0 N s0 q19 hc_19 _) (cwV 0 hts gX5_readEither_X5_nextSign rfl rfl rfl (by decide +kernel) ⟨(by simp only [headSpec, rm_X5_readEither, rm_X5_nextSign]; omega), (by simp only [headSpec, rm_X5_readEither, rm_X5_nextSign]; omega)⟩) (pre_v (ci := 5) (q0 := 0) hK hP (hDD s0) hS hG hAB rfl rfl) rfl rfl hl.1 rfl (lv_room (Nat.le_of_ble_eq_true rfl)) dX5_readEither_19 ⟨Nat.zero_le _, Nat.zero_le _⟩) hS (w_free (hDD s0) hS hA (fun _ h => h)) (fun H locs hP1 hk hS => ?_)
        have hP := hP1
        refine lv_bipush (v := 124) hx hb dX5_readEither_22 (by decide) ?_
        refine lv_icmp_ne (tgt := 58) hx hb dX5_readEither_24 (by decide) (fun c_24 => ?_) (fun c_24 => ?_)
        · have hf := ite_f c_24 hf
          refine lv_iconst (v := 1) hx hb dX5_readEither_58 (by decide) ?_
          have e9 := Option.some.inj hf
          exact rt_z hx hb hr rfl hlocks (fst_e e9) (rtP (P := fun z => va_P E.1 vwCl (wX5 E a0 z.2) H) e9 hP) hS dX5_readEither_59
        · have hf := ite_t c_24 hf
          refine lv_aload_n hx hb dX5_readEither_27 rfl (lv_at hl 0 rfl) ?_
          refine lv_dup hx hb dX5_readEither_28 rfl ?_
          refine va_get (ci := 5) (C := RX5) (T := TX5) (N := 8) (v := .int (s0 6 0)) hx hb hts i_X5_readEither_X5 hown hK hP 0 rfl rfl 6 (by decide) (hts _ m_X5_readEither_646be5) (fun _ h9 => h9) rfl dX5_readEither_29 ?_
          refine lv_iconst (v := 1) hx hb dX5_readEither_32 (by decide) ?_
          refine lv_iadd hx hb dX5_readEither_33 ?_
          refine va_put (ci := 5) (v := .int ((s0 6 0) + 1)) (ty := .int) (C := RX5) (T := TX5) (N := 8) hx hb hts i_X5_readEither_X5 tyX5 tyX5_ok nmX5 hown hK hP (hDD s0) hS 0 rfl rfl 6 (by decide) (hts _ m_X5_readEither_646be5) (fun _ h9 => h9) rfl (by decide +kernel) rfl rfl (Nat.le_of_ble_eq_true rfl) dX5_readEither_34 (fun H locs hP _ hS => ?_)
          obtain ⟨s0_34, hP, hf⟩ := nm_st' (P := fun z => va_P E.1 vwCl (wX5 E a0 z) H) hf hP
          refine lv_aload_n hx hb dX5_readEither_37 rfl (lv_at hl 0 rfl) ?_
          refine lv_iload_n hx hb dX5_readEither_38 rfl (lv_at hl 1 rfl) ?_
          obtain ⟨q39, hc_39, hf⟩ := cl_e hf
          refine fin_i (E := E) (wc := wX5 E a0 s0_34) (wc' := wX5 E a0 q39.2) (va_runV (As := [.int v1]) (rest := []) ⟨hx, hb, hml, hown, hts⟩ (k_X5_readBoth l N D ihD E a0 s0_34 v1 q39 hc_39 _) (cwV 1 hts gX5_readEither_X5_readBoth rfl rfl rfl (by decide +kernel) ⟨(by simp only [headSpec, rm_X5_readEither, rm_X5_readBoth]; omega), (by simp only [headSpec, rm_X5_readEither, rm_X5_readBoth]; omega)⟩) (pre_v (ci := 5) (q0 := 0) hK hP (hDD s0_34) hS hG hAB rfl rfl) rfl rfl hl.1 rfl (lv_room (Nat.le_of_ble_eq_true rfl)) dX5_readEither_39 ⟨Nat.zero_le _, Nat.zero_le _⟩) hS (w_free (hDD s0_34) hS hA (fun _ h => h)) (fun H locs hP1 hk hS => ?_)
          have hP := hP1
          refine lv_if_ne (tgt := 47) hx hb dX5_readEither_42 (by decide) (fun c_42 => ?_) (fun c_42 => ?_)
          · have hf := ite_f c_42 hf
            refine lv_aload_n hx hb dX5_readEither_47 rfl (lv_at hl 0 rfl) ?_
            refine lv_iconst (v := 3) hx hb dX5_readEither_48 (by decide) ?_
            obtain ⟨q49, hc_49, hf⟩ := cl_e hf
            refine fin_v (E := E) (wc := wX5 E a0 q39.2) (wc' := wX5 E a0 q49) (va_runV (As := [.int 3]) (rest := []) ⟨hx, hb, hml, hown, hts⟩ (k_X5_addStep l E a0 N q39.2 3 q49 hc_49 _) (cwV 1 hts gX5_readEither_X5_addStep rfl rfl rfl (by decide +kernel) ⟨(by simp only [headSpec, rm_X5_readEither, rm_X5_addStep]; omega), (by simp only [headSpec, rm_X5_readEither, rm_X5_addStep]; omega)⟩) (pre_v (ci := 5) (q0 := 0) hK hP (hDD q39.2) hS hG hAB rfl rfl) rfl rfl hl.1 rfl (lv_room (Nat.le_of_ble_eq_true rfl)) dX5_readEither_49 ⟨Nat.zero_le _, Nat.zero_le _⟩) hS (w_free (hDD q39.2) hS hA (fun _ h => h)) (fun H locs hP1 hk hS => ?_)
            have hP := hP1
            obtain ⟨x52, e_x52⟩ : ∃ y : Int32, y = v2 + 1 := ⟨_, rfl⟩
            have hf := nm_q e_x52 hf
            refine lv_iinc (v := x52) (lv' := [(2, .int x52), (0, .ref (a0 0)), (1, .int v1)]) hx hb dX5_readEither_52 hl (k := 2) rfl (by rw [e_x52]; rfl) (Nat.le_of_ble_eq_true rfl) rfl (fun ls hl => ?_)
            refine lv_goto (tgt := 12) hx hb dX5_readEither_55 (by decide) ?_
            exact ih_12 q49 x52 hf _ _ _ hP hS (lv_sub hl [1, 2, 0] rfl)
          · have hf := ite_t c_42 hf
            refine lv_iconst (v := 0) hx hb dX5_readEither_45 (by decide) ?_
            have e9 := Option.some.inj hf
            exact rt_z hx hb hr rfl hlocks (fst_e e9) (rtP (P := fun z => va_P E.1 vwCl (wX5 E a0 z.2) H) e9 hP) hS dX5_readEither_46
  refine lv_aload_n hx hb dX5_readEither_0 rfl (lv_at hl 0 rfl) ?_
  refine lv_iload_n hx hb dX5_readEither_1 rfl (lv_at hl 1 rfl) ?_
  obtain ⟨q2, hc_2, hf⟩ := cl_e hf
  refine fin_i (E := E) (wc := wX5 E a0 s0) (wc' := wX5 E a0 q2.2) (va_runV (As := [.int p1]) (rest := []) ⟨hx, hb, hml, hown, hts⟩ (k_X5_readBoth l N D ihD E a0 s0 p1 q2 hc_2 _) (cwV 1 hts gX5_readEither_X5_readBoth rfl rfl rfl (by decide +kernel) ⟨(by simp only [headSpec, rm_X5_readEither, rm_X5_readBoth]; omega), (by simp only [headSpec, rm_X5_readEither, rm_X5_readBoth]; omega)⟩) (pre_v (ci := 5) (q0 := 0) hK hP (hDD s0) hS hG hAB rfl rfl) rfl rfl hl.1 rfl (lv_room (Nat.le_of_ble_eq_true rfl)) dX5_readEither_2 ⟨Nat.zero_le _, Nat.zero_le _⟩) hS (w_free (hDD s0) hS hA (fun _ h => h)) (fun H locs hP1 hk hS => ?_)
  have hP := hP1
  refine lv_if_ne (tgt := 10) hx hb dX5_readEither_5 (by decide) (fun c_5 => ?_) (fun c_5 => ?_)
  · have hf := ite_f c_5 hf
    refine lv_iconst (v := 0) hx hb dX5_readEither_10 (by decide) ?_
    refine lv_istore_n (lv' := [(2, .int 0), (0, .ref (a0 0)), (1, .int p1)]) hx hb dX5_readEither_11 rfl hl (Nat.le_of_ble_eq_true rfl) rfl (fun ls hl => ?_)
    exact hL_12 p1 N q2.2 0 hf _ _ _ hP hS (lv_sub hl [1, 2, 0] rfl)
  · have hf := ite_t c_5 hf
    refine lv_iconst (v := 0) hx hb dX5_readEither_8 (by decide) ?_
    have e9 := Option.some.inj hf
    exact rt_z hx hb hr rfl hlocks (fst_e e9) (rtP (P := fun z => va_P E.1 vwCl (wX5 E a0 z.2) H) e9 hP) hS dX5_readEither_9
def rm_X5_readPart (D : Nat) : Room := { frames := 3 * D + 12, cells := 0, slots := 0, locals := 90 * D + 400 }
theorem m_X5_readPart_646be5 : Cond.fieldLink RX5 22 "PickedMatch$StreetReader" "place" "I" ∈ wsX5_readPart := by decide +kernel
theorem i_X5_readPart_X5 : ∀ w ∈ wsX50, w ∈ wsX5_readPart := fun _ h => List.mem_cons_of_mem _ (List.mem_append_right _ h)
set_option maxHeartbeats 8000000 in
set_option maxRecDepth 100000 in
theorem k_X5_readPart (l : Launch) (E : Ev) (a0 : Nat → Nat) (N : Nat) (D : Nat) (s0 : St) (p1 : Int32) (q : (Int32 × St)) (hf : f_X5_readPart N D s0 p1 = some q) : Ci l yX5_readPart wsX5_readPart (rm_X5_readPart D) E [.ref (a0 0), .int p1] (wX5 E a0 s0) (wX5 E a0 q.2) q.1 := by
  revert E a0 s0 p1 q hf
  induction D with
  | zero => intro E a0 s0 p1 q hf; rw [f_X5_readPart] at hf; cases hf
  | succ D ihD =>
  intro E a0 s0 p1 q hf
  rw [f_X5_readPart] at hf
  intro sz
  refine Met.ofW (cc := cX5_readPart) (maxL := 3) (ret := (some .boolean)) (by decide) rfl ?_
  intro p e s m args below meth c s₁ B hml hv
  obtain ⟨rfl, hsz, hP, hK, hD0, hG, hA, hAB⟩ := start hv
  have hx := B.exec
  have hb := B.bytes
  have hr := B.returns
  have hts := atoms_spec (ws := wsX5_readPart) B.pre
  have hown : s.vm.findClass RX5 = some m.cls := findClass_of_methodNamed B.named
  have hlocks := B.notSynchronized
  subst hsz
  generalize va_A (wX5 E a0 s0) s.heap.size = A0 at hD0 hA hAB ⊢
  have hDD : ∀ (s0 : St), va_D A0 (wX5 E a0 s0) := fun s0 => vD_addr hD0 rfl
  have hS : va_S A0 s.heap s.heap [] := va_S.rf
  have hl := lv_entry ([.ref (a0 0), .int p1]) (n := 3) (Nat.le_of_ble_eq_true rfl)
  rw [lg_entry_eq]
  generalize (lg_sl ([.ref (a0 0), .int p1]) ++ List.replicate (3 - (lg_sl ([.ref (a0 0), .int p1])).length) Slot.unset).toArray = ls at hl ⊢
  have hl : lv_has ls 3 [(0, .ref (a0 0)), (1, .int p1)] := hl
  have hL_23 : ∀ (s0 : St) (v1 : Int32) (v2 : Int32), j_X5_readPart_23 (f_X5_readPart N D) N s0 v1 v2 = some q → ∀ (H : Heap) (locs : List Loc) (ls : Array Slot), va_P E.1 vwCl (wX5 E a0 s0) H → va_S A0 s.heap H locs → lv_has ls 3 [(0, .ref (a0 0)), (1, .int v1), (2, .int v2)] → W p l e (rm_X5_readPart (D + 1)) s m ([.ref (a0 0), .int p1] : List Value).toArray below meth c H locs 0 0 (MQ below (va_Qi (fun (r' : Int32) (_ : Unit) => r' = q.1) (fun _ t => va_P E.1 vwCl (wX5 E a0 q.2) t.heap) A0) ([.ref (a0 0), .int p1] : List Value).toArray s 0 0 A0) (F0 m 23 ls []) := by
    intro s0 v1 v2 hf H locs ls hP hS hl
    unfold j_X5_readPart_23 at hf
    refine lv_iload_n hx hb dX5_readPart_23 rfl (lv_at hl 1 rfl) ?_
    refine lv_iconst (v := 4) hx hb dX5_readPart_24 (by decide) ?_
    refine lv_icmp_lt (tgt := 30) hx hb dX5_readPart_25 (by decide) (fun c_25 => ?_) (fun c_25 => ?_)
    · have hf := ite_t c_25 hf
      refine lv_aload_n hx hb dX5_readPart_30 rfl (lv_at hl 0 rfl) ?_
      refine lv_dup hx hb dX5_readPart_31 rfl ?_
      refine va_get (ci := 5) (C := RX5) (T := TX5) (N := 8) (v := .int (s0 6 0)) hx hb hts i_X5_readPart_X5 hown hK hP 0 rfl rfl 6 (by decide) (hts _ m_X5_readPart_646be5) (fun _ h9 => h9) rfl dX5_readPart_32 ?_
      refine lv_iconst (v := 1) hx hb dX5_readPart_35 (by decide) ?_
      refine lv_iadd hx hb dX5_readPart_36 ?_
      refine va_put (ci := 5) (v := .int ((s0 6 0) + 1)) (ty := .int) (C := RX5) (T := TX5) (N := 8) hx hb hts i_X5_readPart_X5 tyX5 tyX5_ok nmX5 hown hK hP (hDD s0) hS 0 rfl rfl 6 (by decide) (hts _ m_X5_readPart_646be5) (fun _ h9 => h9) rfl (by decide +kernel) rfl rfl (Nat.le_of_ble_eq_true rfl) dX5_readPart_37 (fun H locs hP _ hS => ?_)
      obtain ⟨s0_37, hP, hf⟩ := nm_st' (P := fun z => va_P E.1 vwCl (wX5 E a0 z) H) hf hP
      refine lv_iload_n hx hb dX5_readPart_40 rfl (lv_at hl 2 rfl) ?_
      refine lv_bipush (v := 40) hx hb dX5_readPart_41 (by decide) ?_
      refine lv_icmp_ne (tgt := 71) hx hb dX5_readPart_43 (by decide) (fun c_43 => ?_) (fun c_43 => ?_)
      · have hf := ite_f c_43 hf
        refine lv_aload_n hx hb dX5_readPart_71 rfl (lv_at hl 0 rfl) ?_
        refine lv_iload_n hx hb dX5_readPart_72 rfl (lv_at hl 1 rfl) ?_
        refine lv_iconst (v := 1) hx hb dX5_readPart_73 (by decide) ?_
        refine lv_iadd hx hb dX5_readPart_74 ?_
        obtain ⟨q75, hc_75, hf⟩ := cl_e hf
        refine fin_i (E := E) (wc := wX5 E a0 s0_37) (wc' := wX5 E a0 q75.2) (va_runV (As := [.int (v1 + 1)]) (rest := []) ⟨hx, hb, hml, hown, hts⟩ (ihD E a0 s0_37 (v1 + 1) q75 hc_75 _) (cwV 1 hts gX5_readPart_X5_readPart rfl rfl rfl (by decide +kernel) ⟨(by simp only [headSpec, rm_X5_readPart, rm_X5_readPart]; omega), (by simp only [headSpec, rm_X5_readPart, rm_X5_readPart]; omega)⟩) (pre_v (ci := 5) (q0 := 0) hK hP (hDD s0_37) hS hG hAB rfl rfl) rfl rfl hl.1 rfl (lv_room (Nat.le_of_ble_eq_true rfl)) dX5_readPart_75 ⟨Nat.zero_le _, Nat.zero_le _⟩) hS (w_free (hDD s0_37) hS hA (fun _ h => h)) (fun H locs hP1 hk hS => ?_)
        have hP := hP1
        refine lv_if_ne (tgt := 83) hx hb dX5_readPart_78 (by decide) (fun c_78 => ?_) (fun c_78 => ?_)
        · have hf := ite_f c_78 hf
          refine lv_aload_n hx hb dX5_readPart_83 rfl (lv_at hl 0 rfl) ?_
          refine lv_iconst (v := 1) hx hb dX5_readPart_84 (by decide) ?_
          obtain ⟨q85, hc_85, hf⟩ := cl_e hf
          refine fin_v (E := E) (wc := wX5 E a0 q75.2) (wc' := wX5 E a0 q85) (va_runV (As := [.int 1]) (rest := []) ⟨hx, hb, hml, hown, hts⟩ (k_X5_addStep l E a0 N q75.2 1 q85 hc_85 _) (cwV 1 hts gX5_readPart_X5_addStep rfl rfl rfl (by decide +kernel) ⟨(by simp only [headSpec, rm_X5_readPart, rm_X5_addStep]; omega), (by simp only [headSpec, rm_X5_readPart, rm_X5_addStep]; omega)⟩) (pre_v (ci := 5) (q0 := 0) hK hP (hDD q75.2) hS hG hAB rfl rfl) rfl rfl hl.1 rfl (lv_room (Nat.le_of_ble_eq_true rfl)) dX5_readPart_85 ⟨Nat.zero_le _, Nat.zero_le _⟩) hS (w_free (hDD q75.2) hS hA (fun _ h => h)) (fun H locs hP1 hk hS => ?_)
          have hP := hP1
          refine lv_iconst (v := 1) hx hb dX5_readPart_88 (by decide) ?_
          have e9 := Option.some.inj hf
          exact rt_z hx hb hr rfl hlocks (fst_e e9) (rtP (P := fun z => va_P E.1 vwCl (wX5 E a0 z.2) H) e9 hP) hS dX5_readPart_89
        · have hf := ite_t c_78 hf
          refine lv_iconst (v := 0) hx hb dX5_readPart_81 (by decide) ?_
          have e9 := Option.some.inj hf
          exact rt_z hx hb hr rfl hlocks (fst_e e9) (rtP (P := fun z => va_P E.1 vwCl (wX5 E a0 z.2) H) e9 hP) hS dX5_readPart_82
      · have hf := ite_t c_43 hf
        refine lv_aload_n hx hb dX5_readPart_46 rfl (lv_at hl 0 rfl) ?_
        refine lv_iload_n hx hb dX5_readPart_47 rfl (lv_at hl 1 rfl) ?_
        refine lv_iconst (v := 1) hx hb dX5_readPart_48 (by decide) ?_
        refine lv_iadd hx hb dX5_readPart_49 ?_
        obtain ⟨q50, hc_50, hf⟩ := cl_e hf
        refine fin_i (E := E) (wc := wX5 E a0 s0_37) (wc' := wX5 E a0 q50.2) (va_runV (As := [.int (v1 + 1)]) (rest := []) ⟨hx, hb, hml, hown, hts⟩ (k_X5_readEither l N D ihD E a0 s0_37 (v1 + 1) q50 hc_50 _) (cwV 1 hts gX5_readPart_X5_readEither rfl rfl rfl (by decide +kernel) ⟨(by simp only [headSpec, rm_X5_readPart, rm_X5_readEither]; omega), (by simp only [headSpec, rm_X5_readPart, rm_X5_readEither]; omega)⟩) (pre_v (ci := 5) (q0 := 0) hK hP (hDD s0_37) hS hG hAB rfl rfl) rfl rfl hl.1 rfl (lv_room (Nat.le_of_ble_eq_true rfl)) dX5_readPart_50 ⟨Nat.zero_le _, Nat.zero_le _⟩) hS (w_free (hDD s0_37) hS hA (fun _ h => h)) (fun H locs hP1 hk hS => ?_)
        have hP := hP1
        refine lv_if_eq (tgt := 69) hx hb dX5_readPart_53 (by decide) (fun c_53 => ?_) (fun c_53 => ?_)
        · have hf := ite_t c_53 hf
          refine lv_iconst (v := 0) hx hb dX5_readPart_69 (by decide) ?_
          have e9 := Option.some.inj hf
          exact rt_z hx hb hr rfl hlocks (fst_e e9) (rtP (P := fun z => va_P E.1 vwCl (wX5 E a0 z.2) H) e9 hP) hS dX5_readPart_70
        · have hf := ite_f c_53 hf
          refine lv_aload_n hx hb dX5_readPart_56 rfl (lv_at hl 0 rfl) ?_
          refine lv_bipush (v := 41) hx hb dX5_readPart_57 (by decide) ?_
          obtain ⟨q59, hc_59, hf⟩ := cl_e hf
          refine fin_i (E := E) (wc := wX5 E a0 q50.2) (wc' := wX5 E a0 q59.2) (va_runV (As := [.int 41]) (rest := []) ⟨hx, hb, hml, hown, hts⟩ (k_X5_readSign l E a0 N q50.2 41 q59 hc_59 _) (cwV 1 hts gX5_readPart_X5_readSign rfl rfl rfl (by decide +kernel) ⟨(by simp only [headSpec, rm_X5_readPart, rm_X5_readSign]; omega), (by simp only [headSpec, rm_X5_readPart, rm_X5_readSign]; omega)⟩) (pre_v (ci := 5) (q0 := 0) hK hP (hDD q50.2) hS hG hAB rfl rfl) rfl rfl hl.1 rfl (lv_room (Nat.le_of_ble_eq_true rfl)) dX5_readPart_59 ⟨Nat.zero_le _, Nat.zero_le _⟩) hS (w_free (hDD q50.2) hS hA (fun _ h => h)) (fun H locs hP1 hk hS => ?_)
          have hP := hP1
          refine lv_if_eq (tgt := 69) hx hb dX5_readPart_62 (by decide) (fun c_62 => ?_) (fun c_62 => ?_)
          · have hf := ite_t c_62 hf
            refine lv_iconst (v := 0) hx hb dX5_readPart_69 (by decide) ?_
            have e9 := Option.some.inj hf
            exact rt_z hx hb hr rfl hlocks (fst_e e9) (rtP (P := fun z => va_P E.1 vwCl (wX5 E a0 z.2) H) e9 hP) hS dX5_readPart_70
          · have hf := ite_f c_62 hf
            refine lv_iconst (v := 1) hx hb dX5_readPart_65 (by decide) ?_
            refine lv_goto (tgt := 70) hx hb dX5_readPart_66 (by decide) ?_
            have e9 := Option.some.inj hf
            exact rt_z hx hb hr rfl hlocks (fst_e e9) (rtP (P := fun z => va_P E.1 vwCl (wX5 E a0 z.2) H) e9 hP) hS dX5_readPart_70
    · have hf := ite_f c_25 hf
      refine lv_iconst (v := 0) hx hb dX5_readPart_28 (by decide) ?_
      have e9 := Option.some.inj hf
      exact rt_z hx hb hr rfl hlocks (fst_e e9) (rtP (P := fun z => va_P E.1 vwCl (wX5 E a0 z.2) H) e9 hP) hS dX5_readPart_29
  refine lv_aload_n hx hb dX5_readPart_0 rfl (lv_at hl 0 rfl) ?_
  obtain ⟨q1, hc_1, hf⟩ := cl_e hf
  refine fin_i (E := E) (wc := wX5 E a0 s0) (wc' := wX5 E a0 s0) (va_runV (As := []) (rest := []) ⟨hx, hb, hml, hown, hts⟩ (k_X5_nextSign l E a0 N s0 q1 hc_1 _) (cwV 0 hts gX5_readPart_X5_nextSign rfl rfl rfl (by decide +kernel) ⟨(by simp only [headSpec, rm_X5_readPart, rm_X5_nextSign]; omega), (by simp only [headSpec, rm_X5_readPart, rm_X5_nextSign]; omega)⟩) (pre_v (ci := 5) (q0 := 0) hK hP (hDD s0) hS hG hAB rfl rfl) rfl rfl hl.1 rfl (lv_room (Nat.le_of_ble_eq_true rfl)) dX5_readPart_1 ⟨Nat.zero_le _, Nat.zero_le _⟩) hS (w_free (hDD s0) hS hA (fun _ h => h)) (fun H locs hP1 hk hS => ?_)
  have hP := hP1
  refine lv_istore_n (lv' := [(2, .int q1), (0, .ref (a0 0)), (1, .int p1)]) hx hb dX5_readPart_4 rfl hl (Nat.le_of_ble_eq_true rfl) rfl (fun ls hl => ?_)
  refine lv_iload_n hx hb dX5_readPart_5 rfl (lv_at hl 0 rfl) ?_
  refine lv_bipush (v := 33) hx hb dX5_readPart_6 (by decide) ?_
  refine lv_icmp_eq (tgt := 23) hx hb dX5_readPart_8 (by decide) (fun c_8 => ?_) (fun c_8 => ?_)
  · have hf := ite_t c_8 hf
    exact hL_23 s0 p1 q1 hf _ _ _ hP hS (lv_sub hl [1, 2, 0] rfl)
  · have hf := ite_f c_8 hf
    refine lv_iload_n hx hb dX5_readPart_11 rfl (lv_at hl 0 rfl) ?_
    refine lv_bipush (v := 40) hx hb dX5_readPart_12 (by decide) ?_
    refine lv_icmp_eq (tgt := 23) hx hb dX5_readPart_14 (by decide) (fun c_14 => ?_) (fun c_14 => ?_)
    · have hf := ite_t c_14 hf
      exact hL_23 s0 p1 q1 hf _ _ _ hP hS (lv_sub hl [1, 2, 0] rfl)
    · have hf := ite_f c_14 hf
      refine lv_aload_n hx hb dX5_readPart_17 rfl (lv_at hl 1 rfl) ?_
      refine lv_iload_n hx hb dX5_readPart_18 rfl (lv_at hl 0 rfl) ?_
      obtain ⟨q19, hc_19, hf⟩ := cl_e hf
      refine fin_i (E := E) (wc := wX5 E a0 s0) (wc' := wX5 E a0 q19.2) (va_runV (As := [.int q1]) (rest := []) ⟨hx, hb, hml, hown, hts⟩ (k_X5_readTest l E a0 N s0 q1 q19 hc_19 _) (cwV 1 hts gX5_readPart_X5_readTest rfl rfl rfl (by decide +kernel) ⟨(by simp only [headSpec, rm_X5_readPart, rm_X5_readTest]; omega), (by simp only [headSpec, rm_X5_readPart, rm_X5_readTest]; omega)⟩) (pre_v (ci := 5) (q0 := 0) hK hP (hDD s0) hS hG hAB rfl rfl) rfl rfl hl.1 rfl (lv_room (Nat.le_of_ble_eq_true rfl)) dX5_readPart_19 ⟨Nat.zero_le _, Nat.zero_le _⟩) hS (w_free (hDD s0) hS hA (fun _ h => h)) (fun H locs hP1 hk hS => ?_)
      have hP := hP1
      obtain ⟨hn_22, hf⟩ := cb_e hf
      have e9 := Option.some.inj hf
      exact rt_z hx hb hr (nar_b hn_22) hlocks (fst_e e9) (rtP (P := fun z => va_P E.1 vwCl (wX5 E a0 z.2) H) e9 hP) hS dX5_readPart_22
abbrev rm_X5_readClause : Room := { frames := 39, cells := 0, slots := 0, locals := 1202 }
theorem m_X5_readClause_3a6745 : Cond.fieldLink RX5 54 "PickedMatch$StreetReader" "number" "I" ∈ wsX5_readClause := by decide +kernel
theorem i_X5_readClause_X5 : ∀ w ∈ wsX50, w ∈ wsX5_readClause := fun _ h => List.mem_cons_of_mem _ (List.mem_append_right _ h)
theorem m_X5_readClause_42fa44 : Cond.methodLink RX5 57 Lib.Math.max.name ∈ wsX5_readClause := by decide +kernel
theorem m_X5_readClause_7cc87a : Cond.static Lib.Math.max.name ∈ wsX5_readClause := by decide +kernel
theorem m_X5_readClause_0001fc : Cond.initialized "java/lang/Math" ∈ wsX5_readClause := by decide +kernel
theorem m_X5_readClause_6b973c : Cond.code Lib.Math.max.name Lib.Math.max.code 2 (some .int) ∈ wsX5_readClause := by decide +kernel
theorem m_X5_readClause_31e22a : Cond.fieldLink RX5 31 "PickedMatch$StreetReader" "hold" "I" ∈ wsX5_readClause := by decide +kernel
theorem m_X5_readClause_3c1f19 : Cond.fieldLink RX5 28 "PickedMatch$StreetReader" "need" "I" ∈ wsX5_readClause := by decide +kernel
set_option maxHeartbeats 8000000 in
set_option maxRecDepth 100000 in
theorem k_X5_readClause (l : Launch) (E : Ev) (a0 : Nat → Nat) (N : Nat) (s0 : St) (q : (Int32 × St)) (hf : f_X5_readClause N s0 = some q) : Ci l yX5_readClause wsX5_readClause rm_X5_readClause E [.ref (a0 0)] (wX5 E a0 s0) (wX5 E a0 q.2) q.1 := by
  unfold f_X5_readClause at hf
  intro sz
  refine Met.ofW (cc := cX5_readClause) (maxL := 3) (ret := (some .boolean)) (by decide) rfl ?_
  intro p e s m args below meth c s₁ B hml hv
  obtain ⟨rfl, hsz, hP, hK, hD0, hG, hA, hAB⟩ := start hv
  have hx := B.exec
  have hb := B.bytes
  have hr := B.returns
  have hts := atoms_spec (ws := wsX5_readClause) B.pre
  have hown : s.vm.findClass RX5 = some m.cls := findClass_of_methodNamed B.named
  have hlocks := B.notSynchronized
  subst hsz
  generalize va_A (wX5 E a0 s0) s.heap.size = A0 at hD0 hA hAB ⊢
  have hDD : ∀ (s0 : St), va_D A0 (wX5 E a0 s0) := fun s0 => vD_addr hD0 rfl
  have hS : va_S A0 s.heap s.heap [] := va_S.rf
  have hl := lv_entry ([.ref (a0 0)]) (n := 3) (Nat.le_of_ble_eq_true rfl)
  rw [lg_entry_eq]
  generalize (lg_sl ([.ref (a0 0)]) ++ List.replicate (3 - (lg_sl ([.ref (a0 0)])).length) Slot.unset).toArray = ls at hl ⊢
  have hl : lv_has ls 3 [(0, .ref (a0 0))] := hl
  refine lv_aload_n hx hb dX5_readClause_0 rfl (lv_at hl 0 rfl) ?_
  obtain ⟨q1, hc_1, hf⟩ := cl_e hf
  refine fin_i (E := E) (wc := wX5 E a0 s0) (wc' := wX5 E a0 s0) (va_runV (As := []) (rest := []) ⟨hx, hb, hml, hown, hts⟩ (k_X5_nextSign l E a0 N s0 q1 hc_1 _) (cwV 0 hts gX5_readClause_X5_nextSign rfl rfl rfl (by decide +kernel) ⟨(Nat.le_of_ble_eq_true rfl), (Nat.le_of_ble_eq_true rfl)⟩) (pre_v (ci := 5) (q0 := 0) hK hP (hDD s0) hS hG hAB rfl rfl) rfl rfl hl.1 rfl (lv_room (Nat.le_of_ble_eq_true rfl)) dX5_readClause_1 ⟨Nat.zero_le _, Nat.zero_le _⟩) hS (w_free (hDD s0) hS hA (fun _ h => h)) (fun H locs hP1 hk hS => ?_)
  have hP := hP1
  refine lv_istore_n (lv' := [(1, .int q1), (0, .ref (a0 0))]) hx hb dX5_readClause_4 rfl hl (Nat.le_of_ble_eq_true rfl) rfl (fun ls hl => ?_)
  refine lv_aload_n hx hb dX5_readClause_5 rfl (lv_at hl 1 rfl) ?_
  refine lv_iload_n hx hb dX5_readClause_6 rfl (lv_at hl 0 rfl) ?_
  obtain ⟨q7, hc_7, hf⟩ := cl_e hf
  refine fin_a (E := E) (wc := ([] : va_W)) (wc' := ([] : va_W)) (va_runS (As := [.int q1]) (rest := [.ref (a0 0)]) ⟨hx, hb, hml, hown, hts⟩ (k_X5_wordFrom l E N q1 q7 hc_7 _) (va_cwS 1 hts gX5_readClause_X5_wordFrom rfl rfl rfl (by decide +kernel) ⟨(Nat.le_of_ble_eq_true rfl), (Nat.le_of_ble_eq_true rfl)⟩) (pre_s hK va_P_nil va_D_nil hS hG hAB) rfl rfl hl.1 rfl (lv_room (Nat.le_of_ble_eq_true rfl)) dX5_readClause_7 ⟨Nat.zero_le _, Nat.zero_le _⟩) hS (free_nil hS hA) (fun H locs hP1 hk hS => ?_)
  have hP := w_kept0 hP hk
  obtain ⟨q10, hc_10, hf⟩ := cl_e hf
  refine fin_i (E := E) (wc := wX5 E a0 s0) (wc' := wX5 E a0 q10.2) (va_runV (As := [.ref (E.2.2.2.2.2.1 q7)]) (rest := []) ⟨hx, hb, hml, hown, hts⟩ (k_X5_readNumbered l E a0 N q7 s0 q10 hc_10 _) (cwV 1 hts gX5_readClause_X5_readNumbered rfl rfl rfl (by decide +kernel) ⟨(Nat.le_of_ble_eq_true rfl), (Nat.le_of_ble_eq_true rfl)⟩) (pre_v (ci := 5) (q0 := 0) hK hP (hDD s0) hS hG hAB rfl rfl) rfl rfl hl.1 rfl (lv_room (Nat.le_of_ble_eq_true rfl)) dX5_readClause_10 ⟨Nat.zero_le _, Nat.zero_le _⟩) hS (w_free (hDD s0) hS hA (fun _ h => h)) (fun H locs hP1 hk hS => ?_)
  have hP := hP1
  refine lv_if_ne (tgt := 18) hx hb dX5_readClause_13 (by decide) (fun c_13 => ?_) (fun c_13 => ?_)
  · have hf := ite_f c_13 hf
    refine lv_aload_n hx hb dX5_readClause_18 rfl (lv_at hl 1 rfl) ?_
    refine va_get (ci := 5) (C := RX5) (T := TX5) (N := 8) (v := .int (q10.2 7 0)) hx hb hts i_X5_readClause_X5 hown hK hP 0 rfl rfl 7 (by decide) (hts _ m_X5_readClause_3a6745) (fun _ h9 => h9) rfl dX5_readClause_19 ?_
    refine lv_topi (fun x22 e_x22 => ?_)
    have hf := nm_q e_x22 hf
    refine lv_istore_n (lv' := [(2, .int x22), (1, .int q1), (0, .ref (a0 0))]) hx hb dX5_readClause_22 rfl hl (Nat.le_of_ble_eq_true rfl) rfl (fun ls hl => ?_)
    refine lv_iload_n hx hb dX5_readClause_23 rfl (lv_at hl 1 rfl) ?_
    refine lv_bipush (v := 110) hx hb dX5_readClause_24 (by decide) ?_
    refine lv_icmp_ne (tgt := 36) hx hb dX5_readClause_26 (by decide) (fun c_26 => ?_) (fun c_26 => ?_)
    · have hf := ite_f c_26 hf
      refine lv_iload_n hx hb dX5_readClause_36 rfl (lv_at hl 1 rfl) ?_
      refine lv_bipush (v := 104) hx hb dX5_readClause_37 (by decide) ?_
      refine lv_icmp_ne (tgt := 53) hx hb dX5_readClause_39 (by decide) (fun c_39 => ?_) (fun c_39 => ?_)
      · have hf := ite_f c_39 hf
        refine lv_aload_n hx hb dX5_readClause_53 rfl (lv_at hl 2 rfl) ?_
        refine lv_bipush (v := 32) hx hb dX5_readClause_54 (by decide) ?_
        obtain ⟨q56, hc_56, hf⟩ := cl_e hf
        refine fin_i (E := E) (wc := wX5 E a0 q10.2) (wc' := wX5 E a0 q56.2) (va_runV (As := [.int 32]) (rest := []) ⟨hx, hb, hml, hown, hts⟩ (k_X5_readSign l E a0 N q10.2 32 q56 hc_56 _) (cwV 1 hts gX5_readClause_X5_readSign rfl rfl rfl (by decide +kernel) ⟨(Nat.le_of_ble_eq_true rfl), (Nat.le_of_ble_eq_true rfl)⟩) (pre_v (ci := 5) (q0 := 0) hK hP (hDD q10.2) hS hG hAB rfl rfl) rfl rfl hl.1 rfl (lv_room (Nat.le_of_ble_eq_true rfl)) dX5_readClause_56 ⟨Nat.zero_le _, Nat.zero_le _⟩) hS (w_free (hDD q10.2) hS hA (fun _ h => h)) (fun H locs hP1 hk hS => ?_)
        have hP := hP1
        refine lv_if_eq (tgt := 70) hx hb dX5_readClause_59 (by decide) (fun c_59 => ?_) (fun c_59 => ?_)
        · have hf := ite_t c_59 hf
          refine lv_iconst (v := 0) hx hb dX5_readClause_70 (by decide) ?_
          have e9 := Option.some.inj hf
          exact rt_z hx hb hr rfl hlocks (fst_e e9) (rtP (P := fun z => va_P E.1 vwCl (wX5 E a0 z.2) H) e9 hP) hS dX5_readClause_71
        · have hf := ite_f c_59 hf
          refine lv_aload_n hx hb dX5_readClause_62 rfl (lv_at hl 2 rfl) ?_
          refine lv_iconst (v := 0) hx hb dX5_readClause_63 (by decide) ?_
          obtain ⟨q64, hc_64, hf⟩ := cl_e hf
          refine fin_i (E := E) (wc := wX5 E a0 q56.2) (wc' := wX5 E a0 q64.2) (va_runV (As := [.int 0]) (rest := []) ⟨hx, hb, hml, hown, hts⟩ (k_X5_readEither l N 8 (fun E a0 s0 p1 q hq => k_X5_readPart l E a0 N 8 s0 p1 q hq) E a0 q56.2 0 q64 hc_64 _) (cwV 1 hts gX5_readClause_X5_readEither rfl rfl rfl (by decide +kernel) ⟨(Nat.le_of_ble_eq_true rfl), (Nat.le_of_ble_eq_true rfl)⟩) (pre_v (ci := 5) (q0 := 0) hK hP (hDD q56.2) hS hG hAB rfl rfl) rfl rfl hl.1 rfl (lv_room (Nat.le_of_ble_eq_true rfl)) dX5_readClause_64 ⟨Nat.zero_le _, Nat.zero_le _⟩) hS (w_free (hDD q56.2) hS hA (fun _ h => h)) (fun H locs hP1 hk hS => ?_)
          have hP := hP1
          refine lv_if_ne (tgt := 72) hx hb dX5_readClause_67 (by decide) (fun c_67 => ?_) (fun c_67 => ?_)
          · have hf := ite_f c_67 hf
            refine lv_aload_n hx hb dX5_readClause_72 rfl (lv_at hl 2 rfl) ?_
            refine lv_iload_n hx hb dX5_readClause_73 rfl (lv_at hl 1 rfl) ?_
            refine lv_bipush (v := 108) hx hb dX5_readClause_74 (by decide) ?_
            refine lv_icmp_ne (tgt := 86) hx hb dX5_readClause_76 (by decide) (fun c_76 => ?_) (fun c_76 => ?_)
            · have hf := ite_f c_76 hf
              refine lv_sipush (v := 200) hx hb dX5_readClause_86 (by decide) ?_
              refine lv_iload_n hx hb dX5_readClause_89 rfl (lv_at hl 0 rfl) ?_
              refine lv_iadd hx hb dX5_readClause_90 ?_
              obtain ⟨q91, hc_91, hf⟩ := cl_e hf
              refine fin_v (E := E) (wc := wX5 E a0 q64.2) (wc' := wX5 E a0 q91) (va_runV (As := [.int (200 + x22)]) (rest := []) ⟨hx, hb, hml, hown, hts⟩ (k_X5_addStep l E a0 N q64.2 (200 + x22) q91 hc_91 _) (cwV 1 hts gX5_readClause_X5_addStep rfl rfl rfl (by decide +kernel) ⟨(Nat.le_of_ble_eq_true rfl), (Nat.le_of_ble_eq_true rfl)⟩) (pre_v (ci := 5) (q0 := 0) hK hP (hDD q64.2) hS hG hAB rfl rfl) rfl rfl hl.1 rfl (lv_room (Nat.le_of_ble_eq_true rfl)) dX5_readClause_91 ⟨Nat.zero_le _, Nat.zero_le _⟩) hS (w_free (hDD q64.2) hS hA (fun _ h => h)) (fun H locs hP1 hk hS => ?_)
              have hP := hP1
              refine lv_iconst (v := 1) hx hb dX5_readClause_94 (by decide) ?_
              have e9 := Option.some.inj hf
              exact rt_z hx hb hr rfl hlocks (fst_e e9) (rtP (P := fun z => va_P E.1 vwCl (wX5 E a0 z.2) H) e9 hP) hS dX5_readClause_95
            · have hf := ite_t c_76 hf
              refine lv_bipush (v := 100) hx hb dX5_readClause_79 (by decide) ?_
              refine lv_iload_n hx hb dX5_readClause_81 rfl (lv_at hl 0 rfl) ?_
              refine lv_iadd hx hb dX5_readClause_82 ?_
              refine lv_goto (tgt := 91) hx hb dX5_readClause_83 (by decide) ?_
              obtain ⟨q91, hc_91, hf⟩ := cl_e hf
              refine fin_v (E := E) (wc := wX5 E a0 q64.2) (wc' := wX5 E a0 q91) (va_runV (As := [.int (100 + x22)]) (rest := []) ⟨hx, hb, hml, hown, hts⟩ (k_X5_addStep l E a0 N q64.2 (100 + x22) q91 hc_91 _) (cwV 1 hts gX5_readClause_X5_addStep rfl rfl rfl (by decide +kernel) ⟨(Nat.le_of_ble_eq_true rfl), (Nat.le_of_ble_eq_true rfl)⟩) (pre_v (ci := 5) (q0 := 0) hK hP (hDD q64.2) hS hG hAB rfl rfl) rfl rfl hl.1 rfl (lv_room (Nat.le_of_ble_eq_true rfl)) dX5_readClause_91 ⟨Nat.zero_le _, Nat.zero_le _⟩) hS (w_free (hDD q64.2) hS hA (fun _ h => h)) (fun H locs hP1 hk hS => ?_)
              have hP := hP1
              refine lv_iconst (v := 1) hx hb dX5_readClause_94 (by decide) ?_
              have e9 := Option.some.inj hf
              exact rt_z hx hb hr rfl hlocks (fst_e e9) (rtP (P := fun z => va_P E.1 vwCl (wX5 E a0 z.2) H) e9 hP) hS dX5_readClause_95
          · have hf := ite_t c_67 hf
            refine lv_iconst (v := 0) hx hb dX5_readClause_70 (by decide) ?_
            have e9 := Option.some.inj hf
            exact rt_z hx hb hr rfl hlocks (fst_e e9) (rtP (P := fun z => va_P E.1 vwCl (wX5 E a0 z.2) H) e9 hP) hS dX5_readClause_71
      · have hf := ite_t c_39 hf
        refine lv_aload_n hx hb dX5_readClause_42 rfl (lv_at hl 2 rfl) ?_
        refine lv_iconst (v := 1) hx hb dX5_readClause_43 (by decide) ?_
        refine lv_iload_n hx hb dX5_readClause_44 rfl (lv_at hl 0 rfl) ?_
        refine va_mmax hx hb (by rw [hml]; exact hl.1.symm) hown (hts _ m_X5_readClause_42fa44) (hts _ m_X5_readClause_7cc87a) (hts _ m_X5_readClause_0001fc) (hts _ m_X5_readClause_6b973c) (Nat.le_of_ble_eq_true rfl) (Nat.le_of_ble_eq_true rfl) (Nat.zero_le _) (Nat.zero_le _) dX5_readClause_45 ?_
        refine va_put (ci := 5) (v := .int (if 1 < x22 then x22 else 1)) (ty := .int) (C := RX5) (T := TX5) (N := 8) hx hb hts i_X5_readClause_X5 tyX5 tyX5_ok nmX5 hown hK hP (hDD q10.2) hS 0 rfl rfl 5 (by decide) (hts _ m_X5_readClause_31e22a) (fun _ h9 => h9) rfl (by decide +kernel) rfl rfl (Nat.le_of_ble_eq_true rfl) dX5_readClause_48 (fun H locs hP _ hS => ?_)
        obtain ⟨s0_48, hP, hf⟩ := nm_st' (P := fun z => va_P E.1 vwCl (wX5 E a0 z) H) hf hP
        refine lv_iconst (v := 1) hx hb dX5_readClause_51 (by decide) ?_
        have e9 := Option.some.inj hf
        exact rt_z hx hb hr rfl hlocks (fst_e e9) (rtP (P := fun z => va_P E.1 vwCl (wX5 E a0 z.2) H) e9 hP) hS dX5_readClause_52
    · have hf := ite_t c_26 hf
      refine lv_aload_n hx hb dX5_readClause_29 rfl (lv_at hl 2 rfl) ?_
      refine lv_iload_n hx hb dX5_readClause_30 rfl (lv_at hl 0 rfl) ?_
      refine va_put (ci := 5) (v := .int x22) (ty := .int) (C := RX5) (T := TX5) (N := 8) hx hb hts i_X5_readClause_X5 tyX5 tyX5_ok nmX5 hown hK hP (hDD q10.2) hS 0 rfl rfl 4 (by decide) (hts _ m_X5_readClause_3c1f19) (fun _ h9 => h9) rfl (by decide +kernel) rfl rfl (Nat.le_of_ble_eq_true rfl) dX5_readClause_31 (fun H locs hP _ hS => ?_)
      obtain ⟨s0_31, hP, hf⟩ := nm_st' (P := fun z => va_P E.1 vwCl (wX5 E a0 z) H) hf hP
      refine lv_iconst (v := 1) hx hb dX5_readClause_34 (by decide) ?_
      have e9 := Option.some.inj hf
      exact rt_z hx hb hr rfl hlocks (fst_e e9) (rtP (P := fun z => va_P E.1 vwCl (wX5 E a0 z.2) H) e9 hP) hS dX5_readClause_35
  · have hf := ite_t c_13 hf
    refine lv_iconst (v := 0) hx hb dX5_readClause_16 (by decide) ?_
    have e9 := Option.some.inj hf
    exact rt_z hx hb hr rfl hlocks (fst_e e9) (rtP (P := fun z => va_P E.1 vwCl (wX5 E a0 z.2) H) e9 hP) hS dX5_readClause_17
abbrev rm_X5_readStreet : Room := { frames := 40, cells := 0, slots := 0, locals := 1224 }
theorem m_X5_readStreet_646be5 : Cond.fieldLink RX5 22 "PickedMatch$StreetReader" "place" "I" ∈ wsX5_readStreet := by decide +kernel
theorem i_X5_readStreet_X5 : ∀ w ∈ wsX50, w ∈ wsX5_readStreet := fun _ h => List.mem_cons_of_mem _ (List.mem_append_right _ h)
theorem m_X5_readStreet_3e3bef : Cond.fieldLink RX5 18 "PickedMatch$StreetReader" "length" "I" ∈ wsX5_readStreet := by decide +kernel
theorem m_X5_readStreet_ae53a9 : Cond.fieldLink RX5 25 "PickedMatch$StreetReader" "size" "I" ∈ wsX5_readStreet := by decide +kernel
theorem m_X5_readStreet_3c1f19 : Cond.fieldLink RX5 28 "PickedMatch$StreetReader" "need" "I" ∈ wsX5_readStreet := by decide +kernel
theorem m_X5_readStreet_31e22a : Cond.fieldLink RX5 31 "PickedMatch$StreetReader" "hold" "I" ∈ wsX5_readStreet := by decide +kernel
set_option maxHeartbeats 8000000 in
set_option maxRecDepth 100000 in
theorem k_X5_readStreet (l : Launch) (E : Ev) (a0 : Nat → Nat) (N : Nat) (s0 : St) (q : (Int32 × St)) (hf : f_X5_readStreet N s0 = some q) : Ci l yX5_readStreet wsX5_readStreet rm_X5_readStreet E [.ref (a0 0)] (wX5 E a0 s0) (wX5 E a0 q.2) q.1 := by
  unfold f_X5_readStreet at hf
  intro sz
  refine Met.ofW (cc := cX5_readStreet) (maxL := 2) (ret := (some .boolean)) (by decide) rfl ?_
  intro p e s m args below meth c s₁ B hml hv
  obtain ⟨rfl, hsz, hP, hK, hD0, hG, hA, hAB⟩ := start hv
  have hx := B.exec
  have hb := B.bytes
  have hr := B.returns
  have hts := atoms_spec (ws := wsX5_readStreet) B.pre
  have hown : s.vm.findClass RX5 = some m.cls := findClass_of_methodNamed B.named
  have hlocks := B.notSynchronized
  subst hsz
  generalize va_A (wX5 E a0 s0) s.heap.size = A0 at hD0 hA hAB ⊢
  have hDD : ∀ (s0 : St), va_D A0 (wX5 E a0 s0) := fun s0 => vD_addr hD0 rfl
  have hS : va_S A0 s.heap s.heap [] := va_S.rf
  have hl := lv_entry ([.ref (a0 0)]) (n := 2) (Nat.le_of_ble_eq_true rfl)
  rw [lg_entry_eq]
  generalize (lg_sl ([.ref (a0 0)]) ++ List.replicate (2 - (lg_sl ([.ref (a0 0)])).length) Slot.unset).toArray = ls at hl ⊢
  have hl : lv_has ls 2 [(0, .ref (a0 0))] := hl
  have hL_23 : ∀ (n_23 : Nat) (s0 : St) (v1 : Int32), l_X5_readStreet_23 N n_23 s0 v1 = some q → ∀ (H : Heap) (locs : List Loc) (ls : Array Slot), va_P E.1 vwCl (wX5 E a0 s0) H → va_S A0 s.heap H locs → lv_has ls 2 [(0, .ref (a0 0)), (1, .int v1)] → W p l e rm_X5_readStreet s m ([.ref (a0 0)] : List Value).toArray below meth c H locs 0 0 (MQ below (va_Qi (fun (r' : Int32) (_ : Unit) => r' = q.1) (fun _ t => va_P E.1 vwCl (wX5 E a0 q.2) t.heap) A0) ([.ref (a0 0)] : List Value).toArray s 0 0 A0) (F0 m 23 ls []) := by
    intro n_23
    induction n_23 with
    | zero => intro s0 v1 hf; rw [l_X5_readStreet_23] at hf; cases hf
    | succ n_23 ih_23 =>
      intro s0 v1 hf H locs ls hP hS hl
      rw [l_X5_readStreet_23] at hf
      refine lv_iload_n hx hb dX5_readStreet_23 rfl (lv_at hl 1 rfl) ?_
      refine lv_bipush (v := 10) hx hb dX5_readStreet_24 (by decide) ?_
      refine lv_icmp_gt (tgt := 74) hx hb dX5_readStreet_26 (by decide) (fun c_26 => ?_) (fun c_26 => ?_)
      · have hf := ite_t c_26 hf
        refine lv_iconst (v := 0) hx hb dX5_readStreet_74 (by decide) ?_
        have e9 := Option.some.inj hf
        exact rt_z hx hb hr rfl hlocks (fst_e e9) (rtP (P := fun z => va_P E.1 vwCl (wX5 E a0 z.2) H) e9 hP) hS dX5_readStreet_75
      · have hf := ite_f c_26 hf
        refine lv_aload_n hx hb dX5_readStreet_29 rfl (lv_at hl 0 rfl) ?_
        obtain ⟨q30, hc_30, hf⟩ := cl_e hf
        refine fin_i (E := E) (wc := wX5 E a0 s0) (wc' := wX5 E a0 q30.2) (va_runV (As := []) (rest := []) ⟨hx, hb, hml, hown, hts⟩ (k_X5_readClause l E a0 N s0 q30 hc_30 _) (cwV 0 hts gX5_readStreet_X5_readClause rfl rfl rfl (by decide +kernel) ⟨(Nat.le_of_ble_eq_true rfl), (Nat.le_of_ble_eq_true rfl)⟩) (pre_v (ci := 5) (q0 := 0) hK hP (hDD s0) hS hG hAB rfl rfl) rfl rfl hl.1 rfl (lv_room (Nat.le_of_ble_eq_true rfl)) dX5_readStreet_30 ⟨Nat.zero_le _, Nat.zero_le _⟩) hS (w_free (hDD s0) hS hA (fun _ h => h)) (fun H locs hP1 hk hS => ?_)
        have hP := hP1
        refine lv_if_ne (tgt := 38) hx hb dX5_readStreet_33 (by decide) (fun c_33 => ?_) (fun c_33 => ?_)
        · have hf := ite_f c_33 hf
          refine lv_aload_n hx hb dX5_readStreet_38 rfl (lv_at hl 0 rfl) ?_
          refine va_get (ci := 5) (C := RX5) (T := TX5) (N := 8) (v := .int (q30.2 6 0)) hx hb hts i_X5_readStreet_X5 hown hK hP 0 rfl rfl 6 (by decide) (hts _ m_X5_readStreet_646be5) (fun _ h9 => h9) rfl dX5_readStreet_39 ?_
          refine lv_aload_n hx hb dX5_readStreet_42 rfl (lv_at hl 0 rfl) ?_
          refine va_get (ci := 5) (C := RX5) (T := TX5) (N := 8) (v := .int (q30.2 1 0)) hx hb hts i_X5_readStreet_X5 hown hK hP 0 rfl rfl 1 (by decide) (hts _ m_X5_readStreet_3e3bef) (fun _ h9 => h9) rfl dX5_readStreet_43 ?_
          refine lv_icmp_lt (tgt := 51) hx hb dX5_readStreet_46 (by decide) (fun c_46 => ?_) (fun c_46 => ?_)
          · have hf := ite_t c_46 hf
            refine lv_iload_n hx hb dX5_readStreet_51 rfl (lv_at hl 1 rfl) ?_
            refine lv_bipush (v := 10) hx hb dX5_readStreet_52 (by decide) ?_
            refine lv_icmp_eq (tgt := 66) hx hb dX5_readStreet_54 (by decide) (fun c_54 => ?_) (fun c_54 => ?_)
            · have hf := ite_t c_54 hf
              refine lv_iconst (v := 0) hx hb dX5_readStreet_66 (by decide) ?_
              have e9 := Option.some.inj hf
              exact rt_z hx hb hr rfl hlocks (fst_e e9) (rtP (P := fun z => va_P E.1 vwCl (wX5 E a0 z.2) H) e9 hP) hS dX5_readStreet_67
            · have hf := ite_f c_54 hf
              refine lv_aload_n hx hb dX5_readStreet_57 rfl (lv_at hl 0 rfl) ?_
              refine lv_bipush (v := 59) hx hb dX5_readStreet_58 (by decide) ?_
              obtain ⟨q60, hc_60, hf⟩ := cl_e hf
              refine fin_i (E := E) (wc := wX5 E a0 q30.2) (wc' := wX5 E a0 q60.2) (va_runV (As := [.int 59]) (rest := []) ⟨hx, hb, hml, hown, hts⟩ (k_X5_readSign l E a0 N q30.2 59 q60 hc_60 _) (cwV 1 hts gX5_readStreet_X5_readSign rfl rfl rfl (by decide +kernel) ⟨(Nat.le_of_ble_eq_true rfl), (Nat.le_of_ble_eq_true rfl)⟩) (pre_v (ci := 5) (q0 := 0) hK hP (hDD q30.2) hS hG hAB rfl rfl) rfl rfl hl.1 rfl (lv_room (Nat.le_of_ble_eq_true rfl)) dX5_readStreet_60 ⟨Nat.zero_le _, Nat.zero_le _⟩) hS (w_free (hDD q30.2) hS hA (fun _ h => h)) (fun H locs hP1 hk hS => ?_)
              have hP := hP1
              refine lv_if_ne (tgt := 68) hx hb dX5_readStreet_63 (by decide) (fun c_63 => ?_) (fun c_63 => ?_)
              · have hf := ite_f c_63 hf
                obtain ⟨x68, e_x68⟩ : ∃ y : Int32, y = v1 + 1 := ⟨_, rfl⟩
                have hf := nm_q e_x68 hf
                refine lv_iinc (v := x68) (lv' := [(1, .int x68), (0, .ref (a0 0))]) hx hb dX5_readStreet_68 hl (k := 1) rfl (by rw [e_x68]; rfl) (Nat.le_of_ble_eq_true rfl) rfl (fun ls hl => ?_)
                refine lv_goto (tgt := 23) hx hb dX5_readStreet_71 (by decide) ?_
                exact ih_23 q60.2 x68 hf _ _ _ hP hS (lv_sub hl [1, 0] rfl)
              · have hf := ite_t c_63 hf
                refine lv_iconst (v := 0) hx hb dX5_readStreet_66 (by decide) ?_
                have e9 := Option.some.inj hf
                exact rt_z hx hb hr rfl hlocks (fst_e e9) (rtP (P := fun z => va_P E.1 vwCl (wX5 E a0 z.2) H) e9 hP) hS dX5_readStreet_67
          · have hf := ite_f c_46 hf
            refine lv_iconst (v := 1) hx hb dX5_readStreet_49 (by decide) ?_
            have e9 := Option.some.inj hf
            exact rt_z hx hb hr rfl hlocks (fst_e e9) (rtP (P := fun z => va_P E.1 vwCl (wX5 E a0 z.2) H) e9 hP) hS dX5_readStreet_50
        · have hf := ite_t c_33 hf
          refine lv_iconst (v := 0) hx hb dX5_readStreet_36 (by decide) ?_
          have e9 := Option.some.inj hf
          exact rt_z hx hb hr rfl hlocks (fst_e e9) (rtP (P := fun z => va_P E.1 vwCl (wX5 E a0 z.2) H) e9 hP) hS dX5_readStreet_37
  refine lv_aload_n hx hb dX5_readStreet_0 rfl (lv_at hl 0 rfl) ?_
  refine lv_iconst (v := 0) hx hb dX5_readStreet_1 (by decide) ?_
  refine va_put (ci := 5) (v := .int 0) (ty := .int) (C := RX5) (T := TX5) (N := 8) hx hb hts i_X5_readStreet_X5 tyX5 tyX5_ok nmX5 hown hK hP (hDD s0) hS 0 rfl rfl 6 (by decide) (hts _ m_X5_readStreet_646be5) (fun _ h9 => h9) rfl (by decide +kernel) rfl rfl (Nat.le_of_ble_eq_true rfl) dX5_readStreet_2 (fun H locs hP _ hS => ?_)
  obtain ⟨s0_2, hP, hf⟩ := nm_st' (P := fun z => va_P E.1 vwCl (wX5 E a0 z) H) hf hP
  refine lv_aload_n hx hb dX5_readStreet_5 rfl (lv_at hl 0 rfl) ?_
  refine lv_iconst (v := 0) hx hb dX5_readStreet_6 (by decide) ?_
  refine va_put (ci := 5) (v := .int 0) (ty := .int) (C := RX5) (T := TX5) (N := 8) hx hb hts i_X5_readStreet_X5 tyX5 tyX5_ok nmX5 hown hK hP (hDD s0_2) hS 0 rfl rfl 3 (by decide) (hts _ m_X5_readStreet_ae53a9) (fun _ h9 => h9) rfl (by decide +kernel) rfl rfl (Nat.le_of_ble_eq_true rfl) dX5_readStreet_7 (fun H locs hP _ hS => ?_)
  obtain ⟨s0_7, hP, hf⟩ := nm_st' (P := fun z => va_P E.1 vwCl (wX5 E a0 z) H) hf hP
  refine lv_aload_n hx hb dX5_readStreet_10 rfl (lv_at hl 0 rfl) ?_
  refine lv_iconst (v := 1) hx hb dX5_readStreet_11 (by decide) ?_
  refine va_put (ci := 5) (v := .int 1) (ty := .int) (C := RX5) (T := TX5) (N := 8) hx hb hts i_X5_readStreet_X5 tyX5 tyX5_ok nmX5 hown hK hP (hDD s0_7) hS 0 rfl rfl 4 (by decide) (hts _ m_X5_readStreet_3c1f19) (fun _ h9 => h9) rfl (by decide +kernel) rfl rfl (Nat.le_of_ble_eq_true rfl) dX5_readStreet_12 (fun H locs hP _ hS => ?_)
  obtain ⟨s0_12, hP, hf⟩ := nm_st' (P := fun z => va_P E.1 vwCl (wX5 E a0 z) H) hf hP
  refine lv_aload_n hx hb dX5_readStreet_15 rfl (lv_at hl 0 rfl) ?_
  refine lv_bipush (v := 6) hx hb dX5_readStreet_16 (by decide) ?_
  refine va_put (ci := 5) (v := .int 6) (ty := .int) (C := RX5) (T := TX5) (N := 8) hx hb hts i_X5_readStreet_X5 tyX5 tyX5_ok nmX5 hown hK hP (hDD s0_12) hS 0 rfl rfl 5 (by decide) (hts _ m_X5_readStreet_31e22a) (fun _ h9 => h9) rfl (by decide +kernel) rfl rfl (Nat.le_of_ble_eq_true rfl) dX5_readStreet_18 (fun H locs hP _ hS => ?_)
  obtain ⟨s0_18, hP, hf⟩ := nm_st' (P := fun z => va_P E.1 vwCl (wX5 E a0 z) H) hf hP
  refine lv_iconst (v := 1) hx hb dX5_readStreet_21 (by decide) ?_
  refine lv_istore_n (lv' := [(1, .int 1), (0, .ref (a0 0))]) hx hb dX5_readStreet_22 rfl hl (Nat.le_of_ble_eq_true rfl) rfl (fun ls hl => ?_)
  exact hL_23 N s0_18 1 hf _ _ _ hP hS (lv_sub hl [1, 0] rfl)
abbrev rm_X7_isWithin : Room := { frames := 0, cells := 0, slots := 0, locals := 0 }
set_option maxHeartbeats 8000000 in
set_option maxRecDepth 100000 in
theorem k_X7_isWithin (l : Launch) (E : Ev) (N : Nat) (p0 : Int32) (p1 : Int32) (p2 : Int32) (q : (Int32)) (hf : f_X7_isWithin N p0 p1 p2 = some q) : Ci l yX7_isWithin wsX7_isWithin rm_X7_isWithin E [.int p0, .int p1, .int p2] (([] : va_W)) (([] : va_W)) q := by
  unfold f_X7_isWithin at hf
  intro sz
  refine Met.ofW (cc := cX7_isWithin) (maxL := 3) (ret := (some .boolean)) (by decide) rfl ?_
  intro p e s m args below meth c s₁ B hml hv
  obtain ⟨rfl, hsz, hP, hK, hD0, hG, hA, hAB⟩ := start hv
  have hx := B.exec
  have hb := B.bytes
  have hr := B.returns
  have hts := atoms_spec (ws := wsX7_isWithin) B.pre
  have hown : s.vm.findClass RX7 = some m.cls := findClass_of_methodNamed B.named
  have hlocks := B.notSynchronized
  subst hsz
  generalize va_A (([] : va_W)) s.heap.size = A0 at hD0 hA hAB ⊢
  have hDD : va_D A0 (([] : va_W)) := hD0
  have hS : va_S A0 s.heap s.heap [] := va_S.rf
  have hl := lv_entry ([.int p0, .int p1, .int p2]) (n := 3) (Nat.le_of_ble_eq_true rfl)
  rw [lg_entry_eq]
  generalize (lg_sl ([.int p0, .int p1, .int p2]) ++ List.replicate (3 - (lg_sl ([.int p0, .int p1, .int p2])).length) Slot.unset).toArray = ls at hl ⊢
  have hl : lv_has ls 3 [(0, .int p0), (1, .int p1), (2, .int p2)] := hl
  refine lv_iload_n hx hb dX7_isWithin_0 rfl (lv_at hl 0 rfl) ?_
  refine lv_iload_n hx hb dX7_isWithin_1 rfl (lv_at hl 1 rfl) ?_
  refine lv_icmp_lt (tgt := 14) hx hb dX7_isWithin_2 (by decide) (fun c_2 => ?_) (fun c_2 => ?_)
  · have hf := ite_t c_2 hf
    refine lv_iconst (v := 0) hx hb dX7_isWithin_14 (by decide) ?_
    have e9 := Option.some.inj hf
    exact rt_z hx hb hr rfl hlocks e9 hP hS dX7_isWithin_15
  · have hf := ite_f c_2 hf
    refine lv_iload_n hx hb dX7_isWithin_5 rfl (lv_at hl 0 rfl) ?_
    refine lv_iload_n hx hb dX7_isWithin_6 rfl (lv_at hl 2 rfl) ?_
    refine lv_icmp_gt (tgt := 14) hx hb dX7_isWithin_7 (by decide) (fun c_7 => ?_) (fun c_7 => ?_)
    · have hf := ite_t c_7 hf
      refine lv_iconst (v := 0) hx hb dX7_isWithin_14 (by decide) ?_
      have e9 := Option.some.inj hf
      exact rt_z hx hb hr rfl hlocks e9 hP hS dX7_isWithin_15
    · have hf := ite_f c_7 hf
      refine lv_iconst (v := 1) hx hb dX7_isWithin_10 (by decide) ?_
      refine lv_goto (tgt := 15) hx hb dX7_isWithin_11 (by decide) ?_
      have e9 := Option.some.inj hf
      exact rt_z hx hb hr rfl hlocks e9 hP hS dX7_isWithin_15
abbrev rm_X7_thing : Room := { frames := 1, cells := 0, slots := 0, locals := 24 }
theorem m_X7_thing_265b14 : Cond.fieldLink RX7 12 "PickedMatch" "scene" "LPickedMatch$Scene;" ∈ wsX7_thing := by decide +kernel
theorem i_X7_thing_X7 : ∀ w ∈ wsX70, w ∈ wsX7_thing := fun _ h => List.mem_cons_of_mem _ (List.mem_append_left _ (List.mem_append_right _ h))
theorem i_X7_thing_X2 : ∀ w ∈ wsX20, w ∈ wsX7_thing := fun _ h => List.mem_cons_of_mem _ (List.mem_append_right _ h)
theorem m_X7_thing_4cf9d8 : Cond.initialized RX2 ∈ wsX7_thing := by decide +kernel
theorem m_X7_thing_950bef : Cond.instanceMethod yX2_addThing ∈ wsX7_thing := by decide +kernel
theorem m_X7_thing_513c03 : Cond.selects RX2 yX2_addThing yX2_addThing ∈ wsX7_thing := by decide +kernel
set_option maxHeartbeats 8000000 in
set_option maxRecDepth 100000 in
theorem k_X7_thing (l : Launch) (E : Ev) (a0 : Nat → Nat) (a1 : Nat → Nat) (a2 : Nat → Nat) (a3 : Nat → Nat) (a4 : Nat → Nat) (a5 : Nat → Nat) (a6 : Nat → Nat) (a7 : Nat → Nat) (a8 : Nat → Nat) (a9 : Nat → Nat) (L : List SR) (N : Nat) (s0 : St) (s1 : St) (h1 : Option SR) (s2 : St) (h2 : Option SR) (s3 : St) (s4 : St) (h4 : Option SR) (s5 : St) (s6 : St) (s7 : St) (s8 : St) (s9 : St) (t9 : Nat → Nat → Int64) (p1 : Int32) (p2 : Int32) (p3 : Int32) (q : (Int32 × St)) (hf : f_X7_thing N s1 p1 p2 p3 = some q) : Ci l yX7_thing wsX7_thing rm_X7_thing E [.ref (a0 0), .int p1, .int p2, .int p3] ((wX7o E a0 a1 a2 a3 a4 a5 a6 a7 a8 a9 s0 ++ (wX2 E a1 s1 h1 ++ (wX2 E a2 s2 h2 ++ (wX1 E a3 s3 ++ (wX2 E a4 s4 h4 ++ (wX1 E a5 s5 ++ (wX5 E a6 s6 ++ (wX3 E a7 s7 ++ (wX0 E a8 s8 ++ (wX6 E a9 s9 t9)))))))))) ++ sW E.2.1 L) ((wX7o E a0 a1 a2 a3 a4 a5 a6 a7 a8 a9 s0 ++ (wX2 E a1 q.2 h1 ++ (wX2 E a2 s2 h2 ++ (wX1 E a3 s3 ++ (wX2 E a4 s4 h4 ++ (wX1 E a5 s5 ++ (wX5 E a6 s6 ++ (wX3 E a7 s7 ++ (wX0 E a8 s8 ++ (wX6 E a9 s9 t9)))))))))) ++ sW E.2.1 L) q.1 := by
  unfold f_X7_thing at hf
  intro sz
  refine Met.ofW (cc := cX7_thing) (maxL := 4) (ret := (some .int)) (by decide) rfl ?_
  intro p e s m args below meth c s₁ B hml hpre
  obtain ⟨rfl, hsz, hP, hK, hD0, hG, hA, hAB⟩ := start hpre
  have hx := B.exec
  have hb := B.bytes
  have hr := B.returns
  have hts := atoms_spec (ws := wsX7_thing) B.pre
  have hown : s.vm.findClass RX7 = some m.cls := findClass_of_methodNamed B.named
  have hlocks := B.notSynchronized
  subst hsz
  generalize va_A ((wX7o E a0 a1 a2 a3 a4 a5 a6 a7 a8 a9 s0 ++ (wX2 E a1 s1 h1 ++ (wX2 E a2 s2 h2 ++ (wX1 E a3 s3 ++ (wX2 E a4 s4 h4 ++ (wX1 E a5 s5 ++ (wX5 E a6 s6 ++ (wX3 E a7 s7 ++ (wX0 E a8 s8 ++ (wX6 E a9 s9 t9)))))))))) ++ sW E.2.1 L) s.heap.size = A0 at hD0 hA hAB ⊢
  have hDD : ∀ (s0 : St) (s1 : St) (h1 : Option SR) (s2 : St) (h2 : Option SR) (s3 : St) (s4 : St) (h4 : Option SR) (s5 : St) (s6 : St) (s7 : St) (s8 : St) (s9 : St) (t9 : Nat → Nat → Int64), va_D A0 ((wX7o E a0 a1 a2 a3 a4 a5 a6 a7 a8 a9 s0 ++ (wX2 E a1 s1 h1 ++ (wX2 E a2 s2 h2 ++ (wX1 E a3 s3 ++ (wX2 E a4 s4 h4 ++ (wX1 E a5 s5 ++ (wX5 E a6 s6 ++ (wX3 E a7 s7 ++ (wX0 E a8 s8 ++ (wX6 E a9 s9 t9)))))))))) ++ sW E.2.1 L) := fun s0 s1 h1 s2 h2 s3 s4 h4 s5 s6 s7 s8 s9 t9 => vD_addr hD0 rfl
  have hS : va_S A0 s.heap s.heap [] := va_S.rf
  have hl := lv_entry ([.ref (a0 0), .int p1, .int p2, .int p3]) (n := 4) (Nat.le_of_ble_eq_true rfl)
  rw [lg_entry_eq]
  generalize (lg_sl ([.ref (a0 0), .int p1, .int p2, .int p3]) ++ List.replicate (4 - (lg_sl ([.ref (a0 0), .int p1, .int p2, .int p3])).length) Slot.unset).toArray = ls at hl ⊢
  have hl : lv_has ls 4 [(0, .ref (a0 0)), (1, .int p1), (2, .int p2), (3, .int p3)] := hl
  refine lv_iload_n hx hb dX7_thing_0 rfl (lv_at hl 1 rfl) ?_
  refine lv_iconst (v := 0) hx hb dX7_thing_1 (by decide) ?_
  refine lv_bipush (v := 6) hx hb dX7_thing_2 (by decide) ?_
  obtain ⟨q4, hc_4, hf⟩ := cl_e hf
  refine fin_i (E := E) (wc := ([] : va_W)) (wc' := ([] : va_W)) (va_runS (As := [.int p1, .int 0, .int 6]) (rest := []) ⟨hx, hb, hml, hown, hts⟩ (k_X7_isWithin l E N p1 0 6 q4 hc_4 _) (va_cwS 3 hts gX7_thing_X7_isWithin rfl rfl rfl (by decide +kernel) ⟨(Nat.le_of_ble_eq_true rfl), (Nat.le_of_ble_eq_true rfl)⟩) (pre_s hK va_P_nil va_D_nil hS hG hAB) rfl rfl hl.1 rfl (lv_room (Nat.le_of_ble_eq_true rfl)) dX7_thing_4 ⟨Nat.zero_le _, Nat.zero_le _⟩) hS (free_nil hS hA) (fun H locs hP1 hk hS => ?_)
  have hP := w_kept0 hP hk
  refine lv_if_ne (tgt := 12) hx hb dX7_thing_7 (by decide) (fun c_7 => ?_) (fun c_7 => ?_)
  · have hf := ite_f c_7 hf
    refine lv_iload_n hx hb dX7_thing_12 rfl (lv_at hl 2 rfl) ?_
    refine lv_iconst (v := 0) hx hb dX7_thing_13 (by decide) ?_
    refine lv_bipush (v := 9) hx hb dX7_thing_14 (by decide) ?_
    obtain ⟨q16, hc_16, hf⟩ := cl_e hf
    refine fin_i (E := E) (wc := ([] : va_W)) (wc' := ([] : va_W)) (va_runS (As := [.int p2, .int 0, .int 9]) (rest := []) ⟨hx, hb, hml, hown, hts⟩ (k_X7_isWithin l E N p2 0 9 q16 hc_16 _) (va_cwS 3 hts gX7_thing_X7_isWithin rfl rfl rfl (by decide +kernel) ⟨(Nat.le_of_ble_eq_true rfl), (Nat.le_of_ble_eq_true rfl)⟩) (pre_s hK va_P_nil va_D_nil hS hG hAB) rfl rfl hl.1 rfl (lv_room (Nat.le_of_ble_eq_true rfl)) dX7_thing_16 ⟨Nat.zero_le _, Nat.zero_le _⟩) hS (free_nil hS hA) (fun H locs hP1 hk hS => ?_)
    have hP := w_kept0 hP hk
    refine lv_if_eq (tgt := 33) hx hb dX7_thing_19 (by decide) (fun c_19 => ?_) (fun c_19 => ?_)
    · have hf := ite_t c_19 hf
      refine lv_bipush (v := (-2)) hx hb dX7_thing_33 (by decide) ?_
      have e9 := Option.some.inj hf
      exact rt_i hx hb hr hlocks (fst_e e9) (rtP (P := fun z => va_P E.1 vwCl ((wX7o E a0 a1 a2 a3 a4 a5 a6 a7 a8 a9 s0 ++ (wX2 E a1 z.2 h1 ++ (wX2 E a2 s2 h2 ++ (wX1 E a3 s3 ++ (wX2 E a4 s4 h4 ++ (wX1 E a5 s5 ++ (wX5 E a6 s6 ++ (wX3 E a7 s7 ++ (wX0 E a8 s8 ++ (wX6 E a9 s9 t9)))))))))) ++ sW E.2.1 L) H) e9 hP) hS dX7_thing_35
    · have hf := ite_f c_19 hf
      refine lv_iload_n hx hb dX7_thing_22 rfl (lv_at hl 3 rfl) ?_
      refine lv_iconst (v := 0) hx hb dX7_thing_23 (by decide) ?_
      refine lv_sipush (v := 255) hx hb dX7_thing_24 (by decide) ?_
      obtain ⟨q27, hc_27, hf⟩ := cl_e hf
      refine fin_i (E := E) (wc := ([] : va_W)) (wc' := ([] : va_W)) (va_runS (As := [.int p3, .int 0, .int 255]) (rest := []) ⟨hx, hb, hml, hown, hts⟩ (k_X7_isWithin l E N p3 0 255 q27 hc_27 _) (va_cwS 3 hts gX7_thing_X7_isWithin rfl rfl rfl (by decide +kernel) ⟨(Nat.le_of_ble_eq_true rfl), (Nat.le_of_ble_eq_true rfl)⟩) (pre_s hK va_P_nil va_D_nil hS hG hAB) rfl rfl hl.1 rfl (lv_room (Nat.le_of_ble_eq_true rfl)) dX7_thing_27 ⟨Nat.zero_le _, Nat.zero_le _⟩) hS (free_nil hS hA) (fun H locs hP1 hk hS => ?_)
      have hP := w_kept0 hP hk
      refine lv_if_ne (tgt := 36) hx hb dX7_thing_30 (by decide) (fun c_30 => ?_) (fun c_30 => ?_)
      · have hf := ite_f c_30 hf
        refine lv_aload_n hx hb dX7_thing_36 rfl (lv_at hl 0 rfl) ?_
        refine va_get (ci := 7) (C := RX7) (T := TX7) (N := 11) (v := .ref (a1 0)) hx hb hts i_X7_thing_X7 hown hK hP 0 rfl rfl 0 (by decide) (hts _ m_X7_thing_265b14) (fun _ h9 => h9) rfl dX7_thing_37 ?_
        refine va_getN (ci := 2) (C := RX2) (T := TX2) (N := 11) (v := .int (s1 0 0)) hx hb hts i_X7_thing_X2 hown hK hP 1 rfl rfl 0 (by decide) (nwG hG (w := .fieldLinkNest "PickedMatch" 66 "PickedMatch$Scene" "things" "I" "PickedMatch") (by decide +kernel)) (fun _ h9 => h9) rfl dX7_thing_40 ?_
        refine lv_bipush (v := 6) hx hb dX7_thing_43 (by decide) ?_
        refine lv_icmp_lt (tgt := 51) hx hb dX7_thing_45 (by decide) (fun c_45 => ?_) (fun c_45 => ?_)
        · have hf := ite_t c_45 hf
          refine lv_aload_n hx hb dX7_thing_51 rfl (lv_at hl 0 rfl) ?_
          refine va_get (ci := 7) (C := RX7) (T := TX7) (N := 11) (v := .ref (a1 0)) hx hb hts i_X7_thing_X7 hown hK hP 0 rfl rfl 0 (by decide) (hts _ m_X7_thing_265b14) (fun _ h9 => h9) rfl dX7_thing_52 ?_
          refine lv_iload_n hx hb dX7_thing_55 rfl (lv_at hl 1 rfl) ?_
          refine lv_iload_n hx hb dX7_thing_56 rfl (lv_at hl 2 rfl) ?_
          refine lv_iload_n hx hb dX7_thing_57 rfl (lv_at hl 3 rfl) ?_
          obtain ⟨q58, hc_58, hf⟩ := cl_e hf
          have hm_58 : ∀ q ∈ (wX2 E a1 s1 h1) ++ sW E.2.1 L, q ∈ (wX7o E a0 a1 a2 a3 a4 a5 a6 a7 a8 a9 s0 ++ (wX2 E a1 s1 h1 ++ (wX2 E a2 s2 h2 ++ (wX1 E a3 s3 ++ (wX2 E a4 s4 h4 ++ (wX1 E a5 s5 ++ (wX5 E a6 s6 ++ (wX3 E a7 s7 ++ (wX0 E a8 s8 ++ (wX6 E a9 s9 t9)))))))))) ++ sW E.2.1 L := (app_mem (sub_mem (suf := []) [1, 2, 3, 4, 5, 6, 7] rfl))
          refine fin_i (E := E) (wc := (wX2 E a1 s1 h1) ++ sW E.2.1 L) (wc' := (wX2 E a1 q58.2 h1) ++ sW E.2.1 L) (va_runVN (As := [.int p1, .int p2, .int p3]) (rest := []) ⟨hx, hb, hml, hown, hts⟩ (k_X2_addThing l E a1 L N s1 h1 p1 p2 p3 q58 hc_58 _) ⟨va_cnB 3 hts gX7_thing_X2_addThing_n70 rfl rfl rfl (hG.1 (.methodLinkNest "PickedMatch" 70 yX2_addThing "PickedMatch") (by decide +kernel)) (hts _ m_X7_thing_4cf9d8) (by decide +kernel) ⟨(Nat.le_of_ble_eq_true rfl), (Nat.le_of_ble_eq_true rfl)⟩, (hts _ m_X7_thing_950bef), (hts _ m_X7_thing_513c03)⟩ (pre_v (ci := 2) (q0 := 0) hK (sub_P hm_58 hP) (sub_Ds (wc := wX2 E a1 s1 h1) [1, 2, 3, 4, 5, 6, 7] (by decide) rfl (hDD s0 s1 h1 s2 h2 s3 s4 h4 s5 s6 s7 s8 s9 t9)) hS hG hAB rfl rfl) rfl rfl hl.1 rfl (lv_room (Nat.le_of_ble_eq_true rfl)) dX7_thing_58 ⟨Nat.zero_le _, Nat.zero_le _⟩) hS (w_free (hDD s0 s1 h1 s2 h2 s3 s4 h4 s5 s6 s7 s8 s9 t9) hS hA hm_58) (fun H locs hP1 hk hS => ?_)
          have hP := w_joins (ws' := wX7o E a0 a1 a2 a3 a4 a5 a6 a7 a8 a9 s0 ++ (wX2 E a1 q58.2 h1 ++ (wX2 E a2 s2 h2 ++ (wX1 E a3 s3 ++ (wX2 E a4 s4 h4 ++ (wX1 E a5 s5 ++ (wX5 E a6 s6 ++ (wX3 E a7 s7 ++ (wX0 E a8 s8 ++ (wX6 E a9 s9 t9)))))))))) (wc := wX2 E a1 s1 h1) (wc' := wX2 E a1 q58.2 h1) hP (hDD s0 s1 h1 s2 h2 s3 s4 h4 s5 s6 s7 s8 s9 t9) [1, 2, 3, 4, 5, 6, 7] rfl [none, some 0, some 1, some 2, some 3, some 4, some 5, some 6, none, none, none, none, none, none, none, none, none, none, none, none, none, none, none, none, none, none, none, none, none, none, none, none, none, none, none, none, none, none, none, none, none, none, none, none, none, none, none, none, none, none] rfl rfl hk hP1
          have e9 := Option.some.inj hf
          exact rt_i hx hb hr hlocks (fst_e e9) (rtP (P := fun z => va_P E.1 vwCl ((wX7o E a0 a1 a2 a3 a4 a5 a6 a7 a8 a9 s0 ++ (wX2 E a1 z.2 h1 ++ (wX2 E a2 s2 h2 ++ (wX1 E a3 s3 ++ (wX2 E a4 s4 h4 ++ (wX1 E a5 s5 ++ (wX5 E a6 s6 ++ (wX3 E a7 s7 ++ (wX0 E a8 s8 ++ (wX6 E a9 s9 t9)))))))))) ++ sW E.2.1 L) H) e9 hP) hS dX7_thing_61
        · have hf := ite_f c_45 hf
          refine lv_bipush (v := (-4)) hx hb dX7_thing_48 (by decide) ?_
          have e9 := Option.some.inj hf
          exact rt_i hx hb hr hlocks (fst_e e9) (rtP (P := fun z => va_P E.1 vwCl ((wX7o E a0 a1 a2 a3 a4 a5 a6 a7 a8 a9 s0 ++ (wX2 E a1 z.2 h1 ++ (wX2 E a2 s2 h2 ++ (wX1 E a3 s3 ++ (wX2 E a4 s4 h4 ++ (wX1 E a5 s5 ++ (wX5 E a6 s6 ++ (wX3 E a7 s7 ++ (wX0 E a8 s8 ++ (wX6 E a9 s9 t9)))))))))) ++ sW E.2.1 L) H) e9 hP) hS dX7_thing_50
      · have hf := ite_t c_30 hf
        refine lv_bipush (v := (-2)) hx hb dX7_thing_33 (by decide) ?_
        have e9 := Option.some.inj hf
        exact rt_i hx hb hr hlocks (fst_e e9) (rtP (P := fun z => va_P E.1 vwCl ((wX7o E a0 a1 a2 a3 a4 a5 a6 a7 a8 a9 s0 ++ (wX2 E a1 z.2 h1 ++ (wX2 E a2 s2 h2 ++ (wX1 E a3 s3 ++ (wX2 E a4 s4 h4 ++ (wX1 E a5 s5 ++ (wX5 E a6 s6 ++ (wX3 E a7 s7 ++ (wX0 E a8 s8 ++ (wX6 E a9 s9 t9)))))))))) ++ sW E.2.1 L) H) e9 hP) hS dX7_thing_35
  · have hf := ite_t c_7 hf
    refine lv_iconst (v := (-1)) hx hb dX7_thing_10 (by decide) ?_
    have e9 := Option.some.inj hf
    exact rt_i hx hb hr hlocks (fst_e e9) (rtP (P := fun z => va_P E.1 vwCl ((wX7o E a0 a1 a2 a3 a4 a5 a6 a7 a8 a9 s0 ++ (wX2 E a1 z.2 h1 ++ (wX2 E a2 s2 h2 ++ (wX1 E a3 s3 ++ (wX2 E a4 s4 h4 ++ (wX1 E a5 s5 ++ (wX5 E a6 s6 ++ (wX3 E a7 s7 ++ (wX0 E a8 s8 ++ (wX6 E a9 s9 t9)))))))))) ++ sW E.2.1 L) H) e9 hP) hS dX7_thing_11
abbrev rm_X7_of : Room := { frames := 4, cells := 0, slots := 0, locals := 95 }
theorem m_X7_of_265b14 : Cond.fieldLink RX7 12 "PickedMatch" "scene" "LPickedMatch$Scene;" ∈ wsX7_of := by decide +kernel
theorem i_X7_of_X7 : ∀ w ∈ wsX70, w ∈ wsX7_of := fun _ h => List.mem_cons_of_mem _ (List.mem_append_left _ (List.mem_append_left _ (List.mem_append_right _ h)))
theorem m_X7_of_4cf9d8 : Cond.initialized RX2 ∈ wsX7_of := by decide +kernel
theorem m_X7_of_0211d8 : Cond.instanceMethod yX2_hasThing ∈ wsX7_of := by decide +kernel
theorem m_X7_of_6099ba : Cond.selects RX2 yX2_hasThing yX2_hasThing ∈ wsX7_of := by decide +kernel
theorem i_X7_of_X2 : ∀ w ∈ wsX20, w ∈ wsX7_of := fun _ h => List.mem_cons_of_mem _ (List.mem_append_left _ (List.mem_append_right _ h))
theorem m_X7_of_b9a53b : Cond.instanceMethod yX2_placeInHad ∈ wsX7_of := by decide +kernel
theorem m_X7_of_a6c035 : Cond.selects RX2 yX2_placeInHad yX2_placeInHad ∈ wsX7_of := by decide +kernel
theorem m_X7_of_190a7f : Cond.instanceMethod yX2_tasteOf ∈ wsX7_of := by decide +kernel
theorem m_X7_of_65fa63 : Cond.selects RX2 yX2_tasteOf yX2_tasteOf ∈ wsX7_of := by decide +kernel
theorem m_X7_of_9a2aa6 : Cond.instanceMethod yX2_alikeOf ∈ wsX7_of := by decide +kernel
theorem m_X7_of_12d1d9 : Cond.selects RX2 yX2_alikeOf yX2_alikeOf ∈ wsX7_of := by decide +kernel
theorem m_X7_of_e42de2 : Cond.instanceMethod yX2_goesNow ∈ wsX7_of := by decide +kernel
theorem m_X7_of_678d5f : Cond.selects RX2 yX2_goesNow yX2_goesNow ∈ wsX7_of := by decide +kernel
set_option maxHeartbeats 8000000 in
set_option maxRecDepth 100000 in
theorem k_X7_of (l : Launch) (E : Ev) (a0 : Nat → Nat) (a1 : Nat → Nat) (a2 : Nat → Nat) (a3 : Nat → Nat) (a4 : Nat → Nat) (a5 : Nat → Nat) (a6 : Nat → Nat) (a7 : Nat → Nat) (a8 : Nat → Nat) (a9 : Nat → Nat) (L : List SR) (N : Nat) (s0 : St) (s1 : St) (h1 : Option SR) (s2 : St) (h2 : Option SR) (s3 : St) (s4 : St) (h4 : Option SR) (s5 : St) (s6 : St) (s7 : St) (s8 : St) (s9 : St) (t9 : Nat → Nat → Int64) (p1 : Int32) (p2 : Int32) (q : (Int32 × St)) (hf : f_X7_of N L s1 h1 p1 p2 = some q) : Ci l yX7_of wsX7_of rm_X7_of E [.ref (a0 0), .int p1, .int p2] ((wX7o E a0 a1 a2 a3 a4 a5 a6 a7 a8 a9 s0 ++ (wX2 E a1 s1 h1 ++ (wX2 E a2 s2 h2 ++ (wX1 E a3 s3 ++ (wX2 E a4 s4 h4 ++ (wX1 E a5 s5 ++ (wX5 E a6 s6 ++ (wX3 E a7 s7 ++ (wX0 E a8 s8 ++ (wX6 E a9 s9 t9)))))))))) ++ sW E.2.1 L) ((wX7o E a0 a1 a2 a3 a4 a5 a6 a7 a8 a9 s0 ++ (wX2 E a1 q.2 h1 ++ (wX2 E a2 s2 h2 ++ (wX1 E a3 s3 ++ (wX2 E a4 s4 h4 ++ (wX1 E a5 s5 ++ (wX5 E a6 s6 ++ (wX3 E a7 s7 ++ (wX0 E a8 s8 ++ (wX6 E a9 s9 t9)))))))))) ++ sW E.2.1 L) q.1 := by
  unfold f_X7_of at hf
  intro sz
  refine Met.ofW (cc := cX7_of) (maxL := 3) (ret := (some .int)) (by decide) rfl ?_
  intro p e s m args below meth c s₁ B hml hpre
  obtain ⟨rfl, hsz, hP, hK, hD0, hG, hA, hAB⟩ := start hpre
  have hx := B.exec
  have hb := B.bytes
  have hr := B.returns
  have hts := atoms_spec (ws := wsX7_of) B.pre
  have hown : s.vm.findClass RX7 = some m.cls := findClass_of_methodNamed B.named
  have hlocks := B.notSynchronized
  subst hsz
  generalize va_A ((wX7o E a0 a1 a2 a3 a4 a5 a6 a7 a8 a9 s0 ++ (wX2 E a1 s1 h1 ++ (wX2 E a2 s2 h2 ++ (wX1 E a3 s3 ++ (wX2 E a4 s4 h4 ++ (wX1 E a5 s5 ++ (wX5 E a6 s6 ++ (wX3 E a7 s7 ++ (wX0 E a8 s8 ++ (wX6 E a9 s9 t9)))))))))) ++ sW E.2.1 L) s.heap.size = A0 at hD0 hA hAB ⊢
  have hDD : ∀ (s0 : St) (s1 : St) (h1 : Option SR) (s2 : St) (h2 : Option SR) (s3 : St) (s4 : St) (h4 : Option SR) (s5 : St) (s6 : St) (s7 : St) (s8 : St) (s9 : St) (t9 : Nat → Nat → Int64), va_D A0 ((wX7o E a0 a1 a2 a3 a4 a5 a6 a7 a8 a9 s0 ++ (wX2 E a1 s1 h1 ++ (wX2 E a2 s2 h2 ++ (wX1 E a3 s3 ++ (wX2 E a4 s4 h4 ++ (wX1 E a5 s5 ++ (wX5 E a6 s6 ++ (wX3 E a7 s7 ++ (wX0 E a8 s8 ++ (wX6 E a9 s9 t9)))))))))) ++ sW E.2.1 L) := fun s0 s1 h1 s2 h2 s3 s4 h4 s5 s6 s7 s8 s9 t9 => vD_addr hD0 rfl
  have hS : va_S A0 s.heap s.heap [] := va_S.rf
  have hl := lv_entry ([.ref (a0 0), .int p1, .int p2]) (n := 3) (Nat.le_of_ble_eq_true rfl)
  rw [lg_entry_eq]
  generalize (lg_sl ([.ref (a0 0), .int p1, .int p2]) ++ List.replicate (3 - (lg_sl ([.ref (a0 0), .int p1, .int p2])).length) Slot.unset).toArray = ls at hl ⊢
  have hl : lv_has ls 3 [(0, .ref (a0 0)), (1, .int p1), (2, .int p2)] := hl
  refine lv_aload_n hx hb dX7_of_0 rfl (lv_at hl 0 rfl) ?_
  refine va_get (ci := 7) (C := RX7) (T := TX7) (N := 11) (v := .ref (a1 0)) hx hb hts i_X7_of_X7 hown hK hP 0 rfl rfl 0 (by decide) (hts _ m_X7_of_265b14) (fun _ h9 => h9) rfl dX7_of_1 ?_
  refine lv_iload_n hx hb dX7_of_4 rfl (lv_at hl 1 rfl) ?_
  obtain ⟨q5, hc_5, hf⟩ := cl_e hf
  have hm_5 : ∀ q ∈ (wX2 E a1 s1 h1) ++ sW E.2.1 L, q ∈ (wX7o E a0 a1 a2 a3 a4 a5 a6 a7 a8 a9 s0 ++ (wX2 E a1 s1 h1 ++ (wX2 E a2 s2 h2 ++ (wX1 E a3 s3 ++ (wX2 E a4 s4 h4 ++ (wX1 E a5 s5 ++ (wX5 E a6 s6 ++ (wX3 E a7 s7 ++ (wX0 E a8 s8 ++ (wX6 E a9 s9 t9)))))))))) ++ sW E.2.1 L := (app_mem (sub_mem (suf := []) [1, 2, 3, 4, 5, 6, 7] rfl))
  refine fin_i (E := E) (wc := (wX2 E a1 s1 h1) ++ sW E.2.1 L) (wc' := (wX2 E a1 s1 h1) ++ sW E.2.1 L) (va_runVN (As := [.int p1]) (rest := []) ⟨hx, hb, hml, hown, hts⟩ (k_X2_hasThing l E a1 L N s1 h1 p1 q5 hc_5 _) ⟨va_cnB 1 hts gX7_of_X2_hasThing_n74 rfl rfl rfl (hG.1 (.methodLinkNest "PickedMatch" 74 yX2_hasThing "PickedMatch") (by decide +kernel)) (hts _ m_X7_of_4cf9d8) (by decide +kernel) ⟨(Nat.le_of_ble_eq_true rfl), (Nat.le_of_ble_eq_true rfl)⟩, (hts _ m_X7_of_0211d8), (hts _ m_X7_of_6099ba)⟩ (pre_v (ci := 2) (q0 := 0) hK (sub_P hm_5 hP) (sub_Ds (wc := wX2 E a1 s1 h1) [1, 2, 3, 4, 5, 6, 7] (by decide) rfl (hDD s0 s1 h1 s2 h2 s3 s4 h4 s5 s6 s7 s8 s9 t9)) hS hG hAB rfl rfl) rfl rfl hl.1 rfl (lv_room (Nat.le_of_ble_eq_true rfl)) dX7_of_5 ⟨Nat.zero_le _, Nat.zero_le _⟩) hS (w_free (hDD s0 s1 h1 s2 h2 s3 s4 h4 s5 s6 s7 s8 s9 t9) hS hA hm_5) (fun H locs hP1 hk hS => ?_)
  have hP := w_joins (ws' := wX7o E a0 a1 a2 a3 a4 a5 a6 a7 a8 a9 s0 ++ (wX2 E a1 s1 h1 ++ (wX2 E a2 s2 h2 ++ (wX1 E a3 s3 ++ (wX2 E a4 s4 h4 ++ (wX1 E a5 s5 ++ (wX5 E a6 s6 ++ (wX3 E a7 s7 ++ (wX0 E a8 s8 ++ (wX6 E a9 s9 t9)))))))))) (wc := wX2 E a1 s1 h1) (wc' := wX2 E a1 s1 h1) hP (hDD s0 s1 h1 s2 h2 s3 s4 h4 s5 s6 s7 s8 s9 t9) [1, 2, 3, 4, 5, 6, 7] rfl [none, some 0, some 1, some 2, some 3, some 4, some 5, some 6, none, none, none, none, none, none, none, none, none, none, none, none, none, none, none, none, none, none, none, none, none, none, none, none, none, none, none, none, none, none, none, none, none, none, none, none, none, none, none, none, none, none] rfl rfl hk hP1
  refine lv_if_ne (tgt := 15) hx hb dX7_of_8 (by decide) (fun c_8 => ?_) (fun c_8 => ?_)
  · have hf := ite_f c_8 hf
    refine lv_iload_n hx hb dX7_of_15 rfl (lv_at hl 2 rfl) ?_
    by_cases c_16_0 : p2 = 0
    · have hf := ite_t c_16_0 hf
      refine lv_tableIn (off := 44) (tgt := 60) hx hb dX7_of_16 (by rw [c_16_0]; decide) (by rw [c_16_0]; decide) (by rw [c_16_0]; rfl) (by decide) ?_
      refine lv_aload_n hx hb dX7_of_60 rfl (lv_at hl 0 rfl) ?_
      refine va_get (ci := 7) (C := RX7) (T := TX7) (N := 11) (v := .ref (a1 0)) hx hb hts i_X7_of_X7 hown hK hP 0 rfl rfl 0 (by decide) (hts _ m_X7_of_265b14) (fun _ h9 => h9) rfl dX7_of_61 ?_
      refine va_getN (ci := 2) (C := RX2) (T := TX2) (N := 11) (v := .ref (a1 1)) hx hb hts i_X7_of_X2 hown hK hP 1 rfl rfl 1 (by decide) (nwG hG (w := .fieldLinkNest "PickedMatch" 78 "PickedMatch$Scene" "kinds" "[I" "PickedMatch") (by decide +kernel)) (fun _ h9 => h9) rfl dX7_of_64 ?_
      refine lv_iload_n hx hb dX7_of_67 rfl (lv_at hl 1 rfl) ?_
      obtain ⟨h_68, hf⟩ := ck_e hf
      refine va_iald (cA := E.2.1) (n := 6) (f := s1 1) hx hb hK hP 2 0 rfl rfl h_68 dX7_of_68 ?_
      have e9 := Option.some.inj hf
      exact rt_i hx hb hr hlocks (fst_e e9) (rtP (P := fun z => va_P E.1 vwCl ((wX7o E a0 a1 a2 a3 a4 a5 a6 a7 a8 a9 s0 ++ (wX2 E a1 z.2 h1 ++ (wX2 E a2 s2 h2 ++ (wX1 E a3 s3 ++ (wX2 E a4 s4 h4 ++ (wX1 E a5 s5 ++ (wX5 E a6 s6 ++ (wX3 E a7 s7 ++ (wX0 E a8 s8 ++ (wX6 E a9 s9 t9)))))))))) ++ sW E.2.1 L) H) e9 hP) hS dX7_of_69
    · have hf := ite_f c_16_0 hf
      by_cases c_16_1 : p2 = 1
      · have hf := ite_t c_16_1 hf
        refine lv_tableIn (off := 54) (tgt := 70) hx hb dX7_of_16 (by rw [c_16_1]; decide) (by rw [c_16_1]; decide) (by rw [c_16_1]; rfl) (by decide) ?_
        refine lv_aload_n hx hb dX7_of_70 rfl (lv_at hl 0 rfl) ?_
        refine va_get (ci := 7) (C := RX7) (T := TX7) (N := 11) (v := .ref (a1 0)) hx hb hts i_X7_of_X7 hown hK hP 0 rfl rfl 0 (by decide) (hts _ m_X7_of_265b14) (fun _ h9 => h9) rfl dX7_of_71 ?_
        refine va_getN (ci := 2) (C := RX2) (T := TX2) (N := 11) (v := .ref (a1 2)) hx hb hts i_X7_of_X2 hown hK hP 1 rfl rfl 2 (by decide) (nwG hG (w := .fieldLinkNest "PickedMatch" 82 "PickedMatch$Scene" "numbers" "[I" "PickedMatch") (by decide +kernel)) (fun _ h9 => h9) rfl dX7_of_74 ?_
        refine lv_iload_n hx hb dX7_of_77 rfl (lv_at hl 1 rfl) ?_
        obtain ⟨h_78, hf⟩ := ck_e hf
        refine va_iald (cA := E.2.1) (n := 6) (f := s1 2) hx hb hK hP 3 0 rfl rfl h_78 dX7_of_78 ?_
        have e9 := Option.some.inj hf
        exact rt_i hx hb hr hlocks (fst_e e9) (rtP (P := fun z => va_P E.1 vwCl ((wX7o E a0 a1 a2 a3 a4 a5 a6 a7 a8 a9 s0 ++ (wX2 E a1 z.2 h1 ++ (wX2 E a2 s2 h2 ++ (wX1 E a3 s3 ++ (wX2 E a4 s4 h4 ++ (wX1 E a5 s5 ++ (wX5 E a6 s6 ++ (wX3 E a7 s7 ++ (wX0 E a8 s8 ++ (wX6 E a9 s9 t9)))))))))) ++ sW E.2.1 L) H) e9 hP) hS dX7_of_79
      · have hf := ite_f c_16_1 hf
        by_cases c_16_2 : p2 = 2
        · have hf := ite_t c_16_2 hf
          refine lv_tableIn (off := 64) (tgt := 80) hx hb dX7_of_16 (by rw [c_16_2]; decide) (by rw [c_16_2]; decide) (by rw [c_16_2]; rfl) (by decide) ?_
          refine lv_aload_n hx hb dX7_of_80 rfl (lv_at hl 0 rfl) ?_
          refine va_get (ci := 7) (C := RX7) (T := TX7) (N := 11) (v := .ref (a1 0)) hx hb hts i_X7_of_X7 hown hK hP 0 rfl rfl 0 (by decide) (hts _ m_X7_of_265b14) (fun _ h9 => h9) rfl dX7_of_81 ?_
          refine va_getN (ci := 2) (C := RX2) (T := TX2) (N := 11) (v := .ref (a1 3)) hx hb hts i_X7_of_X2 hown hK hP 1 rfl rfl 3 (by decide) (nwG hG (w := .fieldLinkNest "PickedMatch" 85 "PickedMatch$Scene" "marks" "[I" "PickedMatch") (by decide +kernel)) (fun _ h9 => h9) rfl dX7_of_84 ?_
          refine lv_iload_n hx hb dX7_of_87 rfl (lv_at hl 1 rfl) ?_
          obtain ⟨h_88, hf⟩ := ck_e hf
          refine va_iald (cA := E.2.1) (n := 6) (f := s1 3) hx hb hK hP 4 0 rfl rfl h_88 dX7_of_88 ?_
          have e9 := Option.some.inj hf
          exact rt_i hx hb hr hlocks (fst_e e9) (rtP (P := fun z => va_P E.1 vwCl ((wX7o E a0 a1 a2 a3 a4 a5 a6 a7 a8 a9 s0 ++ (wX2 E a1 z.2 h1 ++ (wX2 E a2 s2 h2 ++ (wX1 E a3 s3 ++ (wX2 E a4 s4 h4 ++ (wX1 E a5 s5 ++ (wX5 E a6 s6 ++ (wX3 E a7 s7 ++ (wX0 E a8 s8 ++ (wX6 E a9 s9 t9)))))))))) ++ sW E.2.1 L) H) e9 hP) hS dX7_of_89
        · have hf := ite_f c_16_2 hf
          by_cases c_16_3 : p2 = 3
          · have hf := ite_t c_16_3 hf
            refine lv_tableIn (off := 74) (tgt := 90) hx hb dX7_of_16 (by rw [c_16_3]; decide) (by rw [c_16_3]; decide) (by rw [c_16_3]; rfl) (by decide) ?_
            refine lv_aload_n hx hb dX7_of_90 rfl (lv_at hl 0 rfl) ?_
            refine va_get (ci := 7) (C := RX7) (T := TX7) (N := 11) (v := .ref (a1 0)) hx hb hts i_X7_of_X7 hown hK hP 0 rfl rfl 0 (by decide) (hts _ m_X7_of_265b14) (fun _ h9 => h9) rfl dX7_of_91 ?_
            refine lv_iload_n hx hb dX7_of_94 rfl (lv_at hl 1 rfl) ?_
            obtain ⟨q95, hc_95, hf⟩ := cl_e hf
            have hm_95 : ∀ q ∈ (wX2 E a1 s1 h1) ++ sW E.2.1 L, q ∈ (wX7o E a0 a1 a2 a3 a4 a5 a6 a7 a8 a9 s0 ++ (wX2 E a1 s1 h1 ++ (wX2 E a2 s2 h2 ++ (wX1 E a3 s3 ++ (wX2 E a4 s4 h4 ++ (wX1 E a5 s5 ++ (wX5 E a6 s6 ++ (wX3 E a7 s7 ++ (wX0 E a8 s8 ++ (wX6 E a9 s9 t9)))))))))) ++ sW E.2.1 L := (app_mem (sub_mem (suf := []) [1, 2, 3, 4, 5, 6, 7] rfl))
            refine fin_i (E := E) (wc := (wX2 E a1 s1 h1) ++ sW E.2.1 L) (wc' := (wX2 E a1 s1 h1) ++ sW E.2.1 L) (va_runVN (As := [.int p1]) (rest := []) ⟨hx, hb, hml, hown, hts⟩ (k_X2_placeInHad l E a1 L N s1 h1 p1 q95 hc_95 _) ⟨va_cnB 1 hts gX7_of_X2_placeInHad_n88 rfl rfl rfl (hG.1 (.methodLinkNest "PickedMatch" 88 yX2_placeInHad "PickedMatch") (by decide +kernel)) (hts _ m_X7_of_4cf9d8) (by decide +kernel) ⟨(Nat.le_of_ble_eq_true rfl), (Nat.le_of_ble_eq_true rfl)⟩, (hts _ m_X7_of_b9a53b), (hts _ m_X7_of_a6c035)⟩ (pre_v (ci := 2) (q0 := 0) hK (sub_P hm_95 hP) (sub_Ds (wc := wX2 E a1 s1 h1) [1, 2, 3, 4, 5, 6, 7] (by decide) rfl (hDD s0 s1 h1 s2 h2 s3 s4 h4 s5 s6 s7 s8 s9 t9)) hS hG hAB rfl rfl) rfl rfl hl.1 rfl (lv_room (Nat.le_of_ble_eq_true rfl)) dX7_of_95 ⟨Nat.zero_le _, Nat.zero_le _⟩) hS (w_free (hDD s0 s1 h1 s2 h2 s3 s4 h4 s5 s6 s7 s8 s9 t9) hS hA hm_95) (fun H locs hP1 hk hS => ?_)
            have hP := w_joins (ws' := wX7o E a0 a1 a2 a3 a4 a5 a6 a7 a8 a9 s0 ++ (wX2 E a1 s1 h1 ++ (wX2 E a2 s2 h2 ++ (wX1 E a3 s3 ++ (wX2 E a4 s4 h4 ++ (wX1 E a5 s5 ++ (wX5 E a6 s6 ++ (wX3 E a7 s7 ++ (wX0 E a8 s8 ++ (wX6 E a9 s9 t9)))))))))) (wc := wX2 E a1 s1 h1) (wc' := wX2 E a1 s1 h1) hP (hDD s0 s1 h1 s2 h2 s3 s4 h4 s5 s6 s7 s8 s9 t9) [1, 2, 3, 4, 5, 6, 7] rfl [none, some 0, some 1, some 2, some 3, some 4, some 5, some 6, none, none, none, none, none, none, none, none, none, none, none, none, none, none, none, none, none, none, none, none, none, none, none, none, none, none, none, none, none, none, none, none, none, none, none, none, none, none, none, none, none, none] rfl rfl hk hP1
            have e9 := Option.some.inj hf
            exact rt_i hx hb hr hlocks (fst_e e9) (rtP (P := fun z => va_P E.1 vwCl ((wX7o E a0 a1 a2 a3 a4 a5 a6 a7 a8 a9 s0 ++ (wX2 E a1 z.2 h1 ++ (wX2 E a2 s2 h2 ++ (wX1 E a3 s3 ++ (wX2 E a4 s4 h4 ++ (wX1 E a5 s5 ++ (wX5 E a6 s6 ++ (wX3 E a7 s7 ++ (wX0 E a8 s8 ++ (wX6 E a9 s9 t9)))))))))) ++ sW E.2.1 L) H) e9 hP) hS dX7_of_98
          · have hf := ite_f c_16_3 hf
            by_cases c_16_4 : p2 = 4
            · have hf := ite_t c_16_4 hf
              refine lv_tableIn (off := 83) (tgt := 99) hx hb dX7_of_16 (by rw [c_16_4]; decide) (by rw [c_16_4]; decide) (by rw [c_16_4]; rfl) (by decide) ?_
              refine lv_aload_n hx hb dX7_of_99 rfl (lv_at hl 0 rfl) ?_
              refine va_get (ci := 7) (C := RX7) (T := TX7) (N := 11) (v := .ref (a1 0)) hx hb hts i_X7_of_X7 hown hK hP 0 rfl rfl 0 (by decide) (hts _ m_X7_of_265b14) (fun _ h9 => h9) rfl dX7_of_100 ?_
              refine lv_iload_n hx hb dX7_of_103 rfl (lv_at hl 1 rfl) ?_
              obtain ⟨q104, hc_104, hf⟩ := cl_e hf
              have hm_104 : ∀ q ∈ (wX2 E a1 s1 h1) ++ sW E.2.1 L, q ∈ (wX7o E a0 a1 a2 a3 a4 a5 a6 a7 a8 a9 s0 ++ (wX2 E a1 s1 h1 ++ (wX2 E a2 s2 h2 ++ (wX1 E a3 s3 ++ (wX2 E a4 s4 h4 ++ (wX1 E a5 s5 ++ (wX5 E a6 s6 ++ (wX3 E a7 s7 ++ (wX0 E a8 s8 ++ (wX6 E a9 s9 t9)))))))))) ++ sW E.2.1 L := (app_mem (sub_mem (suf := []) [1, 2, 3, 4, 5, 6, 7] rfl))
              refine fin_i (E := E) (wc := (wX2 E a1 s1 h1) ++ sW E.2.1 L) (wc' := (wX2 E a1 q104.2 h1) ++ sW E.2.1 L) (va_runVN (As := [.int p1]) (rest := []) ⟨hx, hb, hml, hown, hts⟩ (k_X2_tasteOf l E a1 L N s1 h1 p1 q104 hc_104 _) ⟨va_cnB 1 hts gX7_of_X2_tasteOf_n92 rfl rfl rfl (hG.1 (.methodLinkNest "PickedMatch" 92 yX2_tasteOf "PickedMatch") (by decide +kernel)) (hts _ m_X7_of_4cf9d8) (by decide +kernel) ⟨(Nat.le_of_ble_eq_true rfl), (Nat.le_of_ble_eq_true rfl)⟩, (hts _ m_X7_of_190a7f), (hts _ m_X7_of_65fa63)⟩ (pre_v (ci := 2) (q0 := 0) hK (sub_P hm_104 hP) (sub_Ds (wc := wX2 E a1 s1 h1) [1, 2, 3, 4, 5, 6, 7] (by decide) rfl (hDD s0 s1 h1 s2 h2 s3 s4 h4 s5 s6 s7 s8 s9 t9)) hS hG hAB rfl rfl) rfl rfl hl.1 rfl (lv_room (Nat.le_of_ble_eq_true rfl)) dX7_of_104 ⟨Nat.zero_le _, Nat.zero_le _⟩) hS (w_free (hDD s0 s1 h1 s2 h2 s3 s4 h4 s5 s6 s7 s8 s9 t9) hS hA hm_104) (fun H locs hP1 hk hS => ?_)
              have hP := w_joins (ws' := wX7o E a0 a1 a2 a3 a4 a5 a6 a7 a8 a9 s0 ++ (wX2 E a1 q104.2 h1 ++ (wX2 E a2 s2 h2 ++ (wX1 E a3 s3 ++ (wX2 E a4 s4 h4 ++ (wX1 E a5 s5 ++ (wX5 E a6 s6 ++ (wX3 E a7 s7 ++ (wX0 E a8 s8 ++ (wX6 E a9 s9 t9)))))))))) (wc := wX2 E a1 s1 h1) (wc' := wX2 E a1 q104.2 h1) hP (hDD s0 s1 h1 s2 h2 s3 s4 h4 s5 s6 s7 s8 s9 t9) [1, 2, 3, 4, 5, 6, 7] rfl [none, some 0, some 1, some 2, some 3, some 4, some 5, some 6, none, none, none, none, none, none, none, none, none, none, none, none, none, none, none, none, none, none, none, none, none, none, none, none, none, none, none, none, none, none, none, none, none, none, none, none, none, none, none, none, none, none] rfl rfl hk hP1
              have e9 := Option.some.inj hf
              exact rt_i hx hb hr hlocks (fst_e e9) (rtP (P := fun z => va_P E.1 vwCl ((wX7o E a0 a1 a2 a3 a4 a5 a6 a7 a8 a9 s0 ++ (wX2 E a1 z.2 h1 ++ (wX2 E a2 s2 h2 ++ (wX1 E a3 s3 ++ (wX2 E a4 s4 h4 ++ (wX1 E a5 s5 ++ (wX5 E a6 s6 ++ (wX3 E a7 s7 ++ (wX0 E a8 s8 ++ (wX6 E a9 s9 t9)))))))))) ++ sW E.2.1 L) H) e9 hP) hS dX7_of_107
            · have hf := ite_f c_16_4 hf
              by_cases c_16_5 : p2 = 5
              · have hf := ite_t c_16_5 hf
                refine lv_tableIn (off := 92) (tgt := 108) hx hb dX7_of_16 (by rw [c_16_5]; decide) (by rw [c_16_5]; decide) (by rw [c_16_5]; rfl) (by decide) ?_
                refine lv_aload_n hx hb dX7_of_108 rfl (lv_at hl 0 rfl) ?_
                refine va_get (ci := 7) (C := RX7) (T := TX7) (N := 11) (v := .ref (a1 0)) hx hb hts i_X7_of_X7 hown hK hP 0 rfl rfl 0 (by decide) (hts _ m_X7_of_265b14) (fun _ h9 => h9) rfl dX7_of_109 ?_
                refine lv_iload_n hx hb dX7_of_112 rfl (lv_at hl 1 rfl) ?_
                obtain ⟨q113, hc_113, hf⟩ := cl_e hf
                have hm_113 : ∀ q ∈ (wX2 E a1 s1 h1) ++ sW E.2.1 L, q ∈ (wX7o E a0 a1 a2 a3 a4 a5 a6 a7 a8 a9 s0 ++ (wX2 E a1 s1 h1 ++ (wX2 E a2 s2 h2 ++ (wX1 E a3 s3 ++ (wX2 E a4 s4 h4 ++ (wX1 E a5 s5 ++ (wX5 E a6 s6 ++ (wX3 E a7 s7 ++ (wX0 E a8 s8 ++ (wX6 E a9 s9 t9)))))))))) ++ sW E.2.1 L := (app_mem (sub_mem (suf := []) [1, 2, 3, 4, 5, 6, 7] rfl))
                refine fin_i (E := E) (wc := (wX2 E a1 s1 h1) ++ sW E.2.1 L) (wc' := (wX2 E a1 s1 h1) ++ sW E.2.1 L) (va_runVN (As := [.int p1]) (rest := []) ⟨hx, hb, hml, hown, hts⟩ (k_X2_alikeOf l E a1 L N s1 h1 p1 q113 hc_113 _) ⟨va_cnB 1 hts gX7_of_X2_alikeOf_n95 rfl rfl rfl (hG.1 (.methodLinkNest "PickedMatch" 95 yX2_alikeOf "PickedMatch") (by decide +kernel)) (hts _ m_X7_of_4cf9d8) (by decide +kernel) ⟨(Nat.le_of_ble_eq_true rfl), (Nat.le_of_ble_eq_true rfl)⟩, (hts _ m_X7_of_9a2aa6), (hts _ m_X7_of_12d1d9)⟩ (pre_v (ci := 2) (q0 := 0) hK (sub_P hm_113 hP) (sub_Ds (wc := wX2 E a1 s1 h1) [1, 2, 3, 4, 5, 6, 7] (by decide) rfl (hDD s0 s1 h1 s2 h2 s3 s4 h4 s5 s6 s7 s8 s9 t9)) hS hG hAB rfl rfl) rfl rfl hl.1 rfl (lv_room (Nat.le_of_ble_eq_true rfl)) dX7_of_113 ⟨Nat.zero_le _, Nat.zero_le _⟩) hS (w_free (hDD s0 s1 h1 s2 h2 s3 s4 h4 s5 s6 s7 s8 s9 t9) hS hA hm_113) (fun H locs hP1 hk hS => ?_)
                have hP := w_joins (ws' := wX7o E a0 a1 a2 a3 a4 a5 a6 a7 a8 a9 s0 ++ (wX2 E a1 s1 h1 ++ (wX2 E a2 s2 h2 ++ (wX1 E a3 s3 ++ (wX2 E a4 s4 h4 ++ (wX1 E a5 s5 ++ (wX5 E a6 s6 ++ (wX3 E a7 s7 ++ (wX0 E a8 s8 ++ (wX6 E a9 s9 t9)))))))))) (wc := wX2 E a1 s1 h1) (wc' := wX2 E a1 s1 h1) hP (hDD s0 s1 h1 s2 h2 s3 s4 h4 s5 s6 s7 s8 s9 t9) [1, 2, 3, 4, 5, 6, 7] rfl [none, some 0, some 1, some 2, some 3, some 4, some 5, some 6, none, none, none, none, none, none, none, none, none, none, none, none, none, none, none, none, none, none, none, none, none, none, none, none, none, none, none, none, none, none, none, none, none, none, none, none, none, none, none, none, none, none] rfl rfl hk hP1
                have e9 := Option.some.inj hf
                exact rt_i hx hb hr hlocks (fst_e e9) (rtP (P := fun z => va_P E.1 vwCl ((wX7o E a0 a1 a2 a3 a4 a5 a6 a7 a8 a9 s0 ++ (wX2 E a1 z.2 h1 ++ (wX2 E a2 s2 h2 ++ (wX1 E a3 s3 ++ (wX2 E a4 s4 h4 ++ (wX1 E a5 s5 ++ (wX5 E a6 s6 ++ (wX3 E a7 s7 ++ (wX0 E a8 s8 ++ (wX6 E a9 s9 t9)))))))))) ++ sW E.2.1 L) H) e9 hP) hS dX7_of_116
              · have hf := ite_f c_16_5 hf
                by_cases c_16_6 : p2 = 6
                · have hf := ite_t c_16_6 hf
                  refine lv_tableIn (off := 101) (tgt := 117) hx hb dX7_of_16 (by rw [c_16_6]; decide) (by rw [c_16_6]; decide) (by rw [c_16_6]; rfl) (by decide) ?_
                  refine lv_aload_n hx hb dX7_of_117 rfl (lv_at hl 0 rfl) ?_
                  refine va_get (ci := 7) (C := RX7) (T := TX7) (N := 11) (v := .ref (a1 0)) hx hb hts i_X7_of_X7 hown hK hP 0 rfl rfl 0 (by decide) (hts _ m_X7_of_265b14) (fun _ h9 => h9) rfl dX7_of_118 ?_
                  refine lv_iload_n hx hb dX7_of_121 rfl (lv_at hl 1 rfl) ?_
                  obtain ⟨q122, hc_122, hf⟩ := cl_e hf
                  have hm_122 : ∀ q ∈ (wX2 E a1 s1 h1) ++ sW E.2.1 L, q ∈ (wX7o E a0 a1 a2 a3 a4 a5 a6 a7 a8 a9 s0 ++ (wX2 E a1 s1 h1 ++ (wX2 E a2 s2 h2 ++ (wX1 E a3 s3 ++ (wX2 E a4 s4 h4 ++ (wX1 E a5 s5 ++ (wX5 E a6 s6 ++ (wX3 E a7 s7 ++ (wX0 E a8 s8 ++ (wX6 E a9 s9 t9)))))))))) ++ sW E.2.1 L := (app_mem (sub_mem (suf := []) [1, 2, 3, 4, 5, 6, 7] rfl))
                  refine fin_i (E := E) (wc := (wX2 E a1 s1 h1) ++ sW E.2.1 L) (wc' := (wX2 E a1 q122.2 h1) ++ sW E.2.1 L) (va_runVN (As := [.int p1]) (rest := []) ⟨hx, hb, hml, hown, hts⟩ (k_X2_goesNow l E a1 L N s1 h1 p1 q122 hc_122 _) ⟨va_cnB 1 hts gX7_of_X2_goesNow_n98 rfl rfl rfl (hG.1 (.methodLinkNest "PickedMatch" 98 yX2_goesNow "PickedMatch") (by decide +kernel)) (hts _ m_X7_of_4cf9d8) (by decide +kernel) ⟨(Nat.le_of_ble_eq_true rfl), (Nat.le_of_ble_eq_true rfl)⟩, (hts _ m_X7_of_e42de2), (hts _ m_X7_of_678d5f)⟩ (pre_v (ci := 2) (q0 := 0) hK (sub_P hm_122 hP) (sub_Ds (wc := wX2 E a1 s1 h1) [1, 2, 3, 4, 5, 6, 7] (by decide) rfl (hDD s0 s1 h1 s2 h2 s3 s4 h4 s5 s6 s7 s8 s9 t9)) hS hG hAB rfl rfl) rfl rfl hl.1 rfl (lv_room (Nat.le_of_ble_eq_true rfl)) dX7_of_122 ⟨Nat.zero_le _, Nat.zero_le _⟩) hS (w_free (hDD s0 s1 h1 s2 h2 s3 s4 h4 s5 s6 s7 s8 s9 t9) hS hA hm_122) (fun H locs hP1 hk hS => ?_)
                  have hP := w_joins (ws' := wX7o E a0 a1 a2 a3 a4 a5 a6 a7 a8 a9 s0 ++ (wX2 E a1 q122.2 h1 ++ (wX2 E a2 s2 h2 ++ (wX1 E a3 s3 ++ (wX2 E a4 s4 h4 ++ (wX1 E a5 s5 ++ (wX5 E a6 s6 ++ (wX3 E a7 s7 ++ (wX0 E a8 s8 ++ (wX6 E a9 s9 t9)))))))))) (wc := wX2 E a1 s1 h1) (wc' := wX2 E a1 q122.2 h1) hP (hDD s0 s1 h1 s2 h2 s3 s4 h4 s5 s6 s7 s8 s9 t9) [1, 2, 3, 4, 5, 6, 7] rfl [none, some 0, some 1, some 2, some 3, some 4, some 5, some 6, none, none, none, none, none, none, none, none, none, none, none, none, none, none, none, none, none, none, none, none, none, none, none, none, none, none, none, none, none, none, none, none, none, none, none, none, none, none, none, none, none, none] rfl rfl hk hP1
                  refine lv_if_eq (tgt := 132) hx hb dX7_of_125 (by decide) (fun c_125 => ?_) (fun c_125 => ?_)
                  · have hf := ite_t c_125 hf
                    refine lv_iconst (v := 0) hx hb dX7_of_132 (by decide) ?_
                    have e9 := Option.some.inj hf
                    exact rt_i hx hb hr hlocks (fst_e e9) (rtP (P := fun z => va_P E.1 vwCl ((wX7o E a0 a1 a2 a3 a4 a5 a6 a7 a8 a9 s0 ++ (wX2 E a1 z.2 h1 ++ (wX2 E a2 s2 h2 ++ (wX1 E a3 s3 ++ (wX2 E a4 s4 h4 ++ (wX1 E a5 s5 ++ (wX5 E a6 s6 ++ (wX3 E a7 s7 ++ (wX0 E a8 s8 ++ (wX6 E a9 s9 t9)))))))))) ++ sW E.2.1 L) H) e9 hP) hS dX7_of_133
                  · have hf := ite_f c_125 hf
                    refine lv_iconst (v := 1) hx hb dX7_of_128 (by decide) ?_
                    refine lv_goto (tgt := 133) hx hb dX7_of_129 (by decide) ?_
                    have e9 := Option.some.inj hf
                    exact rt_i hx hb hr hlocks (fst_e e9) (rtP (P := fun z => va_P E.1 vwCl ((wX7o E a0 a1 a2 a3 a4 a5 a6 a7 a8 a9 s0 ++ (wX2 E a1 z.2 h1 ++ (wX2 E a2 s2 h2 ++ (wX1 E a3 s3 ++ (wX2 E a4 s4 h4 ++ (wX1 E a5 s5 ++ (wX5 E a6 s6 ++ (wX3 E a7 s7 ++ (wX0 E a8 s8 ++ (wX6 E a9 s9 t9)))))))))) ++ sW E.2.1 L) H) e9 hP) hS dX7_of_133
                · have hf := ite_f c_16_6 hf
                  refine lv_tableOut (tgt := 134) hx hb dX7_of_16 (by have n0 := lv_neT (a := 0) c_16_0 (by decide); have n1 := lv_neT (a := 1) c_16_1 (by decide); have n2 := lv_neT (a := 2) c_16_2 (by decide); have n3 := lv_neT (a := 3) c_16_3 (by decide); have n4 := lv_neT (a := 4) c_16_4 (by decide); have n5 := lv_neT (a := 5) c_16_5 (by decide); have n6 := lv_neT (a := 6) c_16_6 (by decide); omega) (by decide) ?_
                  refine lv_sipush (v := (-1001)) hx hb dX7_of_134 (by decide) ?_
                  have e9 := Option.some.inj hf
                  exact rt_i hx hb hr hlocks (fst_e e9) (rtP (P := fun z => va_P E.1 vwCl ((wX7o E a0 a1 a2 a3 a4 a5 a6 a7 a8 a9 s0 ++ (wX2 E a1 z.2 h1 ++ (wX2 E a2 s2 h2 ++ (wX1 E a3 s3 ++ (wX2 E a4 s4 h4 ++ (wX1 E a5 s5 ++ (wX5 E a6 s6 ++ (wX3 E a7 s7 ++ (wX0 E a8 s8 ++ (wX6 E a9 s9 t9)))))))))) ++ sW E.2.1 L) H) e9 hP) hS dX7_of_137
  · have hf := ite_t c_8 hf
    refine lv_sipush (v := (-1001)) hx hb dX7_of_11 (by decide) ?_
    have e9 := Option.some.inj hf
    exact rt_i hx hb hr hlocks (fst_e e9) (rtP (P := fun z => va_P E.1 vwCl ((wX7o E a0 a1 a2 a3 a4 a5 a6 a7 a8 a9 s0 ++ (wX2 E a1 z.2 h1 ++ (wX2 E a2 s2 h2 ++ (wX1 E a3 s3 ++ (wX2 E a4 s4 h4 ++ (wX1 E a5 s5 ++ (wX5 E a6 s6 ++ (wX3 E a7 s7 ++ (wX0 E a8 s8 ++ (wX6 E a9 s9 t9)))))))))) ++ sW E.2.1 L) H) e9 hP) hS dX7_of_14
abbrev rm_X7_mark : Room := { frames := 1, cells := 0, slots := 0, locals := 22 }
theorem m_X7_mark_265b14 : Cond.fieldLink RX7 12 "PickedMatch" "scene" "LPickedMatch$Scene;" ∈ wsX7_mark := by decide +kernel
theorem i_X7_mark_X7 : ∀ w ∈ wsX70, w ∈ wsX7_mark := fun _ h => List.mem_cons_of_mem _ (List.mem_append_left _ (List.mem_append_right _ h))
theorem m_X7_mark_4cf9d8 : Cond.initialized RX2 ∈ wsX7_mark := by decide +kernel
theorem m_X7_mark_0211d8 : Cond.instanceMethod yX2_hasThing ∈ wsX7_mark := by decide +kernel
theorem m_X7_mark_6099ba : Cond.selects RX2 yX2_hasThing yX2_hasThing ∈ wsX7_mark := by decide +kernel
theorem i_X7_mark_X2 : ∀ w ∈ wsX20, w ∈ wsX7_mark := fun _ h => List.mem_cons_of_mem _ (List.mem_append_right _ h)
set_option maxHeartbeats 8000000 in
set_option maxRecDepth 100000 in
theorem k_X7_mark (l : Launch) (E : Ev) (a0 : Nat → Nat) (a1 : Nat → Nat) (a2 : Nat → Nat) (a3 : Nat → Nat) (a4 : Nat → Nat) (a5 : Nat → Nat) (a6 : Nat → Nat) (a7 : Nat → Nat) (a8 : Nat → Nat) (a9 : Nat → Nat) (L : List SR) (N : Nat) (s0 : St) (s1 : St) (h1 : Option SR) (s2 : St) (h2 : Option SR) (s3 : St) (s4 : St) (h4 : Option SR) (s5 : St) (s6 : St) (s7 : St) (s8 : St) (s9 : St) (t9 : Nat → Nat → Int64) (p1 : Int32) (p2 : Int32) (q : (Int32 × St)) (hf : f_X7_mark N s1 p1 p2 = some q) : Ci l yX7_mark wsX7_mark rm_X7_mark E [.ref (a0 0), .int p1, .int p2] ((wX7o E a0 a1 a2 a3 a4 a5 a6 a7 a8 a9 s0 ++ (wX2 E a1 s1 h1 ++ (wX2 E a2 s2 h2 ++ (wX1 E a3 s3 ++ (wX2 E a4 s4 h4 ++ (wX1 E a5 s5 ++ (wX5 E a6 s6 ++ (wX3 E a7 s7 ++ (wX0 E a8 s8 ++ (wX6 E a9 s9 t9)))))))))) ++ sW E.2.1 L) ((wX7o E a0 a1 a2 a3 a4 a5 a6 a7 a8 a9 s0 ++ (wX2 E a1 q.2 h1 ++ (wX2 E a2 s2 h2 ++ (wX1 E a3 s3 ++ (wX2 E a4 s4 h4 ++ (wX1 E a5 s5 ++ (wX5 E a6 s6 ++ (wX3 E a7 s7 ++ (wX0 E a8 s8 ++ (wX6 E a9 s9 t9)))))))))) ++ sW E.2.1 L) q.1 := by
  unfold f_X7_mark at hf
  intro sz
  refine Met.ofW (cc := cX7_mark) (maxL := 4) (ret := (some .int)) (by decide) rfl ?_
  intro p e s m args below meth c s₁ B hml hpre
  obtain ⟨rfl, hsz, hP, hK, hD0, hG, hA, hAB⟩ := start hpre
  have hx := B.exec
  have hb := B.bytes
  have hr := B.returns
  have hts := atoms_spec (ws := wsX7_mark) B.pre
  have hown : s.vm.findClass RX7 = some m.cls := findClass_of_methodNamed B.named
  have hlocks := B.notSynchronized
  subst hsz
  generalize va_A ((wX7o E a0 a1 a2 a3 a4 a5 a6 a7 a8 a9 s0 ++ (wX2 E a1 s1 h1 ++ (wX2 E a2 s2 h2 ++ (wX1 E a3 s3 ++ (wX2 E a4 s4 h4 ++ (wX1 E a5 s5 ++ (wX5 E a6 s6 ++ (wX3 E a7 s7 ++ (wX0 E a8 s8 ++ (wX6 E a9 s9 t9)))))))))) ++ sW E.2.1 L) s.heap.size = A0 at hD0 hA hAB ⊢
  have hDD : ∀ (s0 : St) (s1 : St) (h1 : Option SR) (s2 : St) (h2 : Option SR) (s3 : St) (s4 : St) (h4 : Option SR) (s5 : St) (s6 : St) (s7 : St) (s8 : St) (s9 : St) (t9 : Nat → Nat → Int64), va_D A0 ((wX7o E a0 a1 a2 a3 a4 a5 a6 a7 a8 a9 s0 ++ (wX2 E a1 s1 h1 ++ (wX2 E a2 s2 h2 ++ (wX1 E a3 s3 ++ (wX2 E a4 s4 h4 ++ (wX1 E a5 s5 ++ (wX5 E a6 s6 ++ (wX3 E a7 s7 ++ (wX0 E a8 s8 ++ (wX6 E a9 s9 t9)))))))))) ++ sW E.2.1 L) := fun s0 s1 h1 s2 h2 s3 s4 h4 s5 s6 s7 s8 s9 t9 => vD_addr hD0 rfl
  have hS : va_S A0 s.heap s.heap [] := va_S.rf
  have hl := lv_entry ([.ref (a0 0), .int p1, .int p2]) (n := 4) (Nat.le_of_ble_eq_true rfl)
  rw [lg_entry_eq]
  generalize (lg_sl ([.ref (a0 0), .int p1, .int p2]) ++ List.replicate (4 - (lg_sl ([.ref (a0 0), .int p1, .int p2])).length) Slot.unset).toArray = ls at hl ⊢
  have hl : lv_has ls 4 [(0, .ref (a0 0)), (1, .int p1), (2, .int p2)] := hl
  refine lv_aload_n hx hb dX7_mark_0 rfl (lv_at hl 0 rfl) ?_
  refine va_get (ci := 7) (C := RX7) (T := TX7) (N := 11) (v := .ref (a1 0)) hx hb hts i_X7_mark_X7 hown hK hP 0 rfl rfl 0 (by decide) (hts _ m_X7_mark_265b14) (fun _ h9 => h9) rfl dX7_mark_1 ?_
  refine lv_iload_n hx hb dX7_mark_4 rfl (lv_at hl 1 rfl) ?_
  obtain ⟨q5, hc_5, hf⟩ := cl_e hf
  have hm_5 : ∀ q ∈ (wX2 E a1 s1 h1) ++ sW E.2.1 L, q ∈ (wX7o E a0 a1 a2 a3 a4 a5 a6 a7 a8 a9 s0 ++ (wX2 E a1 s1 h1 ++ (wX2 E a2 s2 h2 ++ (wX1 E a3 s3 ++ (wX2 E a4 s4 h4 ++ (wX1 E a5 s5 ++ (wX5 E a6 s6 ++ (wX3 E a7 s7 ++ (wX0 E a8 s8 ++ (wX6 E a9 s9 t9)))))))))) ++ sW E.2.1 L := (app_mem (sub_mem (suf := []) [1, 2, 3, 4, 5, 6, 7] rfl))
  refine fin_i (E := E) (wc := (wX2 E a1 s1 h1) ++ sW E.2.1 L) (wc' := (wX2 E a1 s1 h1) ++ sW E.2.1 L) (va_runVN (As := [.int p1]) (rest := []) ⟨hx, hb, hml, hown, hts⟩ (k_X2_hasThing l E a1 L N s1 h1 p1 q5 hc_5 _) ⟨va_cnB 1 hts gX7_mark_X2_hasThing_n74 rfl rfl rfl (hG.1 (.methodLinkNest "PickedMatch" 74 yX2_hasThing "PickedMatch") (by decide +kernel)) (hts _ m_X7_mark_4cf9d8) (by decide +kernel) ⟨(Nat.le_of_ble_eq_true rfl), (Nat.le_of_ble_eq_true rfl)⟩, (hts _ m_X7_mark_0211d8), (hts _ m_X7_mark_6099ba)⟩ (pre_v (ci := 2) (q0 := 0) hK (sub_P hm_5 hP) (sub_Ds (wc := wX2 E a1 s1 h1) [1, 2, 3, 4, 5, 6, 7] (by decide) rfl (hDD s0 s1 h1 s2 h2 s3 s4 h4 s5 s6 s7 s8 s9 t9)) hS hG hAB rfl rfl) rfl rfl hl.1 rfl (lv_room (Nat.le_of_ble_eq_true rfl)) dX7_mark_5 ⟨Nat.zero_le _, Nat.zero_le _⟩) hS (w_free (hDD s0 s1 h1 s2 h2 s3 s4 h4 s5 s6 s7 s8 s9 t9) hS hA hm_5) (fun H locs hP1 hk hS => ?_)
  have hP := w_joins (ws' := wX7o E a0 a1 a2 a3 a4 a5 a6 a7 a8 a9 s0 ++ (wX2 E a1 s1 h1 ++ (wX2 E a2 s2 h2 ++ (wX1 E a3 s3 ++ (wX2 E a4 s4 h4 ++ (wX1 E a5 s5 ++ (wX5 E a6 s6 ++ (wX3 E a7 s7 ++ (wX0 E a8 s8 ++ (wX6 E a9 s9 t9)))))))))) (wc := wX2 E a1 s1 h1) (wc' := wX2 E a1 s1 h1) hP (hDD s0 s1 h1 s2 h2 s3 s4 h4 s5 s6 s7 s8 s9 t9) [1, 2, 3, 4, 5, 6, 7] rfl [none, some 0, some 1, some 2, some 3, some 4, some 5, some 6, none, none, none, none, none, none, none, none, none, none, none, none, none, none, none, none, none, none, none, none, none, none, none, none, none, none, none, none, none, none, none, none, none, none, none, none, none, none, none, none, none, none] rfl rfl hk hP1
  refine lv_if_ne (tgt := 13) hx hb dX7_mark_8 (by decide) (fun c_8 => ?_) (fun c_8 => ?_)
  · have hf := ite_f c_8 hf
    refine lv_iload_n hx hb dX7_mark_13 rfl (lv_at hl 2 rfl) ?_
    refine lv_iconst (v := 0) hx hb dX7_mark_14 (by decide) ?_
    refine lv_sipush (v := 255) hx hb dX7_mark_15 (by decide) ?_
    obtain ⟨q18, hc_18, hf⟩ := cl_e hf
    refine fin_i (E := E) (wc := ([] : va_W)) (wc' := ([] : va_W)) (va_runS (As := [.int p2, .int 0, .int 255]) (rest := []) ⟨hx, hb, hml, hown, hts⟩ (k_X7_isWithin l E N p2 0 255 q18 hc_18 _) (va_cwS 3 hts gX7_mark_X7_isWithin rfl rfl rfl (by decide +kernel) ⟨(Nat.le_of_ble_eq_true rfl), (Nat.le_of_ble_eq_true rfl)⟩) (pre_s hK va_P_nil va_D_nil hS hG hAB) rfl rfl hl.1 rfl (lv_room (Nat.le_of_ble_eq_true rfl)) dX7_mark_18 ⟨Nat.zero_le _, Nat.zero_le _⟩) hS (free_nil hS hA) (fun H locs hP1 hk hS => ?_)
    have hP := w_kept0 hP hk
    refine lv_if_ne (tgt := 27) hx hb dX7_mark_21 (by decide) (fun c_21 => ?_) (fun c_21 => ?_)
    · have hf := ite_f c_21 hf
      refine lv_aload_n hx hb dX7_mark_27 rfl (lv_at hl 0 rfl) ?_
      refine va_get (ci := 7) (C := RX7) (T := TX7) (N := 11) (v := .ref (a1 0)) hx hb hts i_X7_mark_X7 hown hK hP 0 rfl rfl 0 (by decide) (hts _ m_X7_mark_265b14) (fun _ h9 => h9) rfl dX7_mark_28 ?_
      refine va_getN (ci := 2) (C := RX2) (T := TX2) (N := 11) (v := .ref (a1 3)) hx hb hts i_X7_mark_X2 hown hK hP 1 rfl rfl 3 (by decide) (nwG hG (w := .fieldLinkNest "PickedMatch" 85 "PickedMatch$Scene" "marks" "[I" "PickedMatch") (by decide +kernel)) (fun _ h9 => h9) rfl dX7_mark_31 ?_
      refine lv_iload_n hx hb dX7_mark_34 rfl (lv_at hl 1 rfl) ?_
      obtain ⟨h_35, hf⟩ := ck_e hf
      refine va_iald (cA := E.2.1) (n := 6) (f := s1 3) hx hb hK hP 4 0 rfl rfl h_35 dX7_mark_35 ?_
      refine lv_topi (fun x36 e_x36 => ?_)
      have hf := nm_q e_x36 hf
      refine lv_istore_n (lv' := [(3, .int x36), (0, .ref (a0 0)), (1, .int p1), (2, .int p2)]) hx hb dX7_mark_36 rfl hl (Nat.le_of_ble_eq_true rfl) rfl (fun ls hl => ?_)
      refine lv_aload_n hx hb dX7_mark_37 rfl (lv_at hl 1 rfl) ?_
      refine va_get (ci := 7) (C := RX7) (T := TX7) (N := 11) (v := .ref (a1 0)) hx hb hts i_X7_mark_X7 hown hK hP 0 rfl rfl 0 (by decide) (hts _ m_X7_mark_265b14) (fun _ h9 => h9) rfl dX7_mark_38 ?_
      refine va_getN (ci := 2) (C := RX2) (T := TX2) (N := 11) (v := .ref (a1 3)) hx hb hts i_X7_mark_X2 hown hK hP 1 rfl rfl 3 (by decide) (nwG hG (w := .fieldLinkNest "PickedMatch" 85 "PickedMatch$Scene" "marks" "[I" "PickedMatch") (by decide +kernel)) (fun _ h9 => h9) rfl dX7_mark_41 ?_
      refine lv_iload_n hx hb dX7_mark_44 rfl (lv_at hl 2 rfl) ?_
      refine lv_iload_n hx hb dX7_mark_45 rfl (lv_at hl 3 rfl) ?_
      obtain ⟨h_46, hf⟩ := ck_e hf
      refine va_iast (cA := E.2.1) (n := 6) (f := s1 3) (x := p2) hx hb hK hP (hDD s0 s1 h1 s2 h2 s3 s4 h4 s5 s6 s7 s8 s9 t9) hS 4 0 rfl rfl h_46 dX7_mark_46 (fun H locs hP _ hS => ?_)
      obtain ⟨s1_46, hP, hf⟩ := nm_st' (P := fun z => va_P E.1 vwCl ((wX7o E a0 a1 a2 a3 a4 a5 a6 a7 a8 a9 s0 ++ (wX2 E a1 z h1 ++ (wX2 E a2 s2 h2 ++ (wX1 E a3 s3 ++ (wX2 E a4 s4 h4 ++ (wX1 E a5 s5 ++ (wX5 E a6 s6 ++ (wX3 E a7 s7 ++ (wX0 E a8 s8 ++ (wX6 E a9 s9 t9)))))))))) ++ sW E.2.1 L) H) hf hP
      refine lv_iload_n hx hb dX7_mark_47 rfl (lv_at hl 0 rfl) ?_
      have e9 := Option.some.inj hf
      exact rt_i hx hb hr hlocks (fst_e e9) (rtP (P := fun z => va_P E.1 vwCl ((wX7o E a0 a1 a2 a3 a4 a5 a6 a7 a8 a9 s0 ++ (wX2 E a1 z.2 h1 ++ (wX2 E a2 s2 h2 ++ (wX1 E a3 s3 ++ (wX2 E a4 s4 h4 ++ (wX1 E a5 s5 ++ (wX5 E a6 s6 ++ (wX3 E a7 s7 ++ (wX0 E a8 s8 ++ (wX6 E a9 s9 t9)))))))))) ++ sW E.2.1 L) H) e9 hP) hS dX7_mark_48
    · have hf := ite_t c_21 hf
      refine lv_bipush (v := (-2)) hx hb dX7_mark_24 (by decide) ?_
      have e9 := Option.some.inj hf
      exact rt_i hx hb hr hlocks (fst_e e9) (rtP (P := fun z => va_P E.1 vwCl ((wX7o E a0 a1 a2 a3 a4 a5 a6 a7 a8 a9 s0 ++ (wX2 E a1 z.2 h1 ++ (wX2 E a2 s2 h2 ++ (wX1 E a3 s3 ++ (wX2 E a4 s4 h4 ++ (wX1 E a5 s5 ++ (wX5 E a6 s6 ++ (wX3 E a7 s7 ++ (wX0 E a8 s8 ++ (wX6 E a9 s9 t9)))))))))) ++ sW E.2.1 L) H) e9 hP) hS dX7_mark_26
  · have hf := ite_t c_8 hf
    refine lv_iconst (v := (-1)) hx hb dX7_mark_11 (by decide) ?_
    have e9 := Option.some.inj hf
    exact rt_i hx hb hr hlocks (fst_e e9) (rtP (P := fun z => va_P E.1 vwCl ((wX7o E a0 a1 a2 a3 a4 a5 a6 a7 a8 a9 s0 ++ (wX2 E a1 z.2 h1 ++ (wX2 E a2 s2 h2 ++ (wX1 E a3 s3 ++ (wX2 E a4 s4 h4 ++ (wX1 E a5 s5 ++ (wX5 E a6 s6 ++ (wX3 E a7 s7 ++ (wX0 E a8 s8 ++ (wX6 E a9 s9 t9)))))))))) ++ sW E.2.1 L) H) e9 hP) hS dX7_mark_12
abbrev rm_X7_row : Room := { frames := 1, cells := 0, slots := 0, locals := 22 }
theorem m_X7_row_265b14 : Cond.fieldLink RX7 12 "PickedMatch" "scene" "LPickedMatch$Scene;" ∈ wsX7_row := by decide +kernel
theorem i_X7_row_X7 : ∀ w ∈ wsX70, w ∈ wsX7_row := fun _ h => List.mem_cons_of_mem _ (List.mem_append_left _ (List.mem_append_right _ h))
theorem m_X7_row_4cf9d8 : Cond.initialized RX2 ∈ wsX7_row := by decide +kernel
theorem m_X7_row_0211d8 : Cond.instanceMethod yX2_hasThing ∈ wsX7_row := by decide +kernel
theorem m_X7_row_6099ba : Cond.selects RX2 yX2_hasThing yX2_hasThing ∈ wsX7_row := by decide +kernel
theorem i_X7_row_X2 : ∀ w ∈ wsX20, w ∈ wsX7_row := fun _ h => List.mem_cons_of_mem _ (List.mem_append_right _ h)
set_option maxHeartbeats 8000000 in
set_option maxRecDepth 100000 in
theorem k_X7_row (l : Launch) (E : Ev) (a0 : Nat → Nat) (a1 : Nat → Nat) (a2 : Nat → Nat) (a3 : Nat → Nat) (a4 : Nat → Nat) (a5 : Nat → Nat) (a6 : Nat → Nat) (a7 : Nat → Nat) (a8 : Nat → Nat) (a9 : Nat → Nat) (L : List SR) (N : Nat) (s0 : St) (s1 : St) (h1 : Option SR) (s2 : St) (h2 : Option SR) (s3 : St) (s4 : St) (h4 : Option SR) (s5 : St) (s6 : St) (s7 : St) (s8 : St) (s9 : St) (t9 : Nat → Nat → Int64) (p1 : Int32) (p2 : Int32) (p3 : Int32) (q : (Int32 × St)) (hf : f_X7_row N s1 p1 p2 p3 = some q) : Ci l yX7_row wsX7_row rm_X7_row E [.ref (a0 0), .int p1, .int p2, .int p3] ((wX7o E a0 a1 a2 a3 a4 a5 a6 a7 a8 a9 s0 ++ (wX2 E a1 s1 h1 ++ (wX2 E a2 s2 h2 ++ (wX1 E a3 s3 ++ (wX2 E a4 s4 h4 ++ (wX1 E a5 s5 ++ (wX5 E a6 s6 ++ (wX3 E a7 s7 ++ (wX0 E a8 s8 ++ (wX6 E a9 s9 t9)))))))))) ++ sW E.2.1 L) ((wX7o E a0 a1 a2 a3 a4 a5 a6 a7 a8 a9 s0 ++ (wX2 E a1 q.2 h1 ++ (wX2 E a2 s2 h2 ++ (wX1 E a3 s3 ++ (wX2 E a4 s4 h4 ++ (wX1 E a5 s5 ++ (wX5 E a6 s6 ++ (wX3 E a7 s7 ++ (wX0 E a8 s8 ++ (wX6 E a9 s9 t9)))))))))) ++ sW E.2.1 L) q.1 := by
  unfold f_X7_row at hf
  intro sz
  refine Met.ofW (cc := cX7_row) (maxL := 6) (ret := (some .int)) (by decide) rfl ?_
  intro p e s m args below meth c s₁ B hml hpre
  obtain ⟨rfl, hsz, hP, hK, hD0, hG, hA, hAB⟩ := start hpre
  have hx := B.exec
  have hb := B.bytes
  have hr := B.returns
  have hts := atoms_spec (ws := wsX7_row) B.pre
  have hown : s.vm.findClass RX7 = some m.cls := findClass_of_methodNamed B.named
  have hlocks := B.notSynchronized
  subst hsz
  generalize va_A ((wX7o E a0 a1 a2 a3 a4 a5 a6 a7 a8 a9 s0 ++ (wX2 E a1 s1 h1 ++ (wX2 E a2 s2 h2 ++ (wX1 E a3 s3 ++ (wX2 E a4 s4 h4 ++ (wX1 E a5 s5 ++ (wX5 E a6 s6 ++ (wX3 E a7 s7 ++ (wX0 E a8 s8 ++ (wX6 E a9 s9 t9)))))))))) ++ sW E.2.1 L) s.heap.size = A0 at hD0 hA hAB ⊢
  have hDD : ∀ (s0 : St) (s1 : St) (h1 : Option SR) (s2 : St) (h2 : Option SR) (s3 : St) (s4 : St) (h4 : Option SR) (s5 : St) (s6 : St) (s7 : St) (s8 : St) (s9 : St) (t9 : Nat → Nat → Int64), va_D A0 ((wX7o E a0 a1 a2 a3 a4 a5 a6 a7 a8 a9 s0 ++ (wX2 E a1 s1 h1 ++ (wX2 E a2 s2 h2 ++ (wX1 E a3 s3 ++ (wX2 E a4 s4 h4 ++ (wX1 E a5 s5 ++ (wX5 E a6 s6 ++ (wX3 E a7 s7 ++ (wX0 E a8 s8 ++ (wX6 E a9 s9 t9)))))))))) ++ sW E.2.1 L) := fun s0 s1 h1 s2 h2 s3 s4 h4 s5 s6 s7 s8 s9 t9 => vD_addr hD0 rfl
  have hS : va_S A0 s.heap s.heap [] := va_S.rf
  have hl := lv_entry ([.ref (a0 0), .int p1, .int p2, .int p3]) (n := 6) (Nat.le_of_ble_eq_true rfl)
  rw [lg_entry_eq]
  generalize (lg_sl ([.ref (a0 0), .int p1, .int p2, .int p3]) ++ List.replicate (6 - (lg_sl ([.ref (a0 0), .int p1, .int p2, .int p3])).length) Slot.unset).toArray = ls at hl ⊢
  have hl : lv_has ls 6 [(0, .ref (a0 0)), (1, .int p1), (2, .int p2), (3, .int p3)] := hl
  refine lv_aload_n hx hb dX7_row_0 rfl (lv_at hl 0 rfl) ?_
  refine va_get (ci := 7) (C := RX7) (T := TX7) (N := 11) (v := .ref (a1 0)) hx hb hts i_X7_row_X7 hown hK hP 0 rfl rfl 0 (by decide) (hts _ m_X7_row_265b14) (fun _ h9 => h9) rfl dX7_row_1 ?_
  refine lv_iload_n hx hb dX7_row_4 rfl (lv_at hl 1 rfl) ?_
  obtain ⟨q5, hc_5, hf⟩ := cl_e hf
  have hm_5 : ∀ q ∈ (wX2 E a1 s1 h1) ++ sW E.2.1 L, q ∈ (wX7o E a0 a1 a2 a3 a4 a5 a6 a7 a8 a9 s0 ++ (wX2 E a1 s1 h1 ++ (wX2 E a2 s2 h2 ++ (wX1 E a3 s3 ++ (wX2 E a4 s4 h4 ++ (wX1 E a5 s5 ++ (wX5 E a6 s6 ++ (wX3 E a7 s7 ++ (wX0 E a8 s8 ++ (wX6 E a9 s9 t9)))))))))) ++ sW E.2.1 L := (app_mem (sub_mem (suf := []) [1, 2, 3, 4, 5, 6, 7] rfl))
  refine fin_i (E := E) (wc := (wX2 E a1 s1 h1) ++ sW E.2.1 L) (wc' := (wX2 E a1 s1 h1) ++ sW E.2.1 L) (va_runVN (As := [.int p1]) (rest := []) ⟨hx, hb, hml, hown, hts⟩ (k_X2_hasThing l E a1 L N s1 h1 p1 q5 hc_5 _) ⟨va_cnB 1 hts gX7_row_X2_hasThing_n74 rfl rfl rfl (hG.1 (.methodLinkNest "PickedMatch" 74 yX2_hasThing "PickedMatch") (by decide +kernel)) (hts _ m_X7_row_4cf9d8) (by decide +kernel) ⟨(Nat.le_of_ble_eq_true rfl), (Nat.le_of_ble_eq_true rfl)⟩, (hts _ m_X7_row_0211d8), (hts _ m_X7_row_6099ba)⟩ (pre_v (ci := 2) (q0 := 0) hK (sub_P hm_5 hP) (sub_Ds (wc := wX2 E a1 s1 h1) [1, 2, 3, 4, 5, 6, 7] (by decide) rfl (hDD s0 s1 h1 s2 h2 s3 s4 h4 s5 s6 s7 s8 s9 t9)) hS hG hAB rfl rfl) rfl rfl hl.1 rfl (lv_room (Nat.le_of_ble_eq_true rfl)) dX7_row_5 ⟨Nat.zero_le _, Nat.zero_le _⟩) hS (w_free (hDD s0 s1 h1 s2 h2 s3 s4 h4 s5 s6 s7 s8 s9 t9) hS hA hm_5) (fun H locs hP1 hk hS => ?_)
  have hP := w_joins (ws' := wX7o E a0 a1 a2 a3 a4 a5 a6 a7 a8 a9 s0 ++ (wX2 E a1 s1 h1 ++ (wX2 E a2 s2 h2 ++ (wX1 E a3 s3 ++ (wX2 E a4 s4 h4 ++ (wX1 E a5 s5 ++ (wX5 E a6 s6 ++ (wX3 E a7 s7 ++ (wX0 E a8 s8 ++ (wX6 E a9 s9 t9)))))))))) (wc := wX2 E a1 s1 h1) (wc' := wX2 E a1 s1 h1) hP (hDD s0 s1 h1 s2 h2 s3 s4 h4 s5 s6 s7 s8 s9 t9) [1, 2, 3, 4, 5, 6, 7] rfl [none, some 0, some 1, some 2, some 3, some 4, some 5, some 6, none, none, none, none, none, none, none, none, none, none, none, none, none, none, none, none, none, none, none, none, none, none, none, none, none, none, none, none, none, none, none, none, none, none, none, none, none, none, none, none, none, none] rfl rfl hk hP1
  refine lv_if_eq (tgt := 20) hx hb dX7_row_8 (by decide) (fun c_8 => ?_) (fun c_8 => ?_)
  · have hf := ite_t c_8 hf
    refine lv_iconst (v := (-1)) hx hb dX7_row_20 (by decide) ?_
    have e9 := Option.some.inj hf
    exact rt_i hx hb hr hlocks (fst_e e9) (rtP (P := fun z => va_P E.1 vwCl ((wX7o E a0 a1 a2 a3 a4 a5 a6 a7 a8 a9 s0 ++ (wX2 E a1 z.2 h1 ++ (wX2 E a2 s2 h2 ++ (wX1 E a3 s3 ++ (wX2 E a4 s4 h4 ++ (wX1 E a5 s5 ++ (wX5 E a6 s6 ++ (wX3 E a7 s7 ++ (wX0 E a8 s8 ++ (wX6 E a9 s9 t9)))))))))) ++ sW E.2.1 L) H) e9 hP) hS dX7_row_21
  · have hf := ite_f c_8 hf
    refine lv_iload_n hx hb dX7_row_11 rfl (lv_at hl 2 rfl) ?_
    refine lv_iconst (v := 0) hx hb dX7_row_12 (by decide) ?_
    refine lv_iconst (v := 3) hx hb dX7_row_13 (by decide) ?_
    obtain ⟨q14, hc_14, hf⟩ := cl_e hf
    refine fin_i (E := E) (wc := ([] : va_W)) (wc' := ([] : va_W)) (va_runS (As := [.int p2, .int 0, .int 3]) (rest := []) ⟨hx, hb, hml, hown, hts⟩ (k_X7_isWithin l E N p2 0 3 q14 hc_14 _) (va_cwS 3 hts gX7_row_X7_isWithin rfl rfl rfl (by decide +kernel) ⟨(Nat.le_of_ble_eq_true rfl), (Nat.le_of_ble_eq_true rfl)⟩) (pre_s hK va_P_nil va_D_nil hS hG hAB) rfl rfl hl.1 rfl (lv_room (Nat.le_of_ble_eq_true rfl)) dX7_row_14 ⟨Nat.zero_le _, Nat.zero_le _⟩) hS (free_nil hS hA) (fun H locs hP1 hk hS => ?_)
    have hP := w_kept0 hP hk
    refine lv_if_ne (tgt := 22) hx hb dX7_row_17 (by decide) (fun c_17 => ?_) (fun c_17 => ?_)
    · have hf := ite_f c_17 hf
      refine lv_iload_n hx hb dX7_row_22 rfl (lv_at hl 3 rfl) ?_
      refine lv_iconst (v := 0) hx hb dX7_row_23 (by decide) ?_
      refine lv_bipush (v := 9) hx hb dX7_row_24 (by decide) ?_
      obtain ⟨q26, hc_26, hf⟩ := cl_e hf
      refine fin_i (E := E) (wc := ([] : va_W)) (wc' := ([] : va_W)) (va_runS (As := [.int p3, .int 0, .int 9]) (rest := []) ⟨hx, hb, hml, hown, hts⟩ (k_X7_isWithin l E N p3 0 9 q26 hc_26 _) (va_cwS 3 hts gX7_row_X7_isWithin rfl rfl rfl (by decide +kernel) ⟨(Nat.le_of_ble_eq_true rfl), (Nat.le_of_ble_eq_true rfl)⟩) (pre_s hK va_P_nil va_D_nil hS hG hAB) rfl rfl hl.1 rfl (lv_room (Nat.le_of_ble_eq_true rfl)) dX7_row_26 ⟨Nat.zero_le _, Nat.zero_le _⟩) hS (free_nil hS hA) (fun H locs hP1 hk hS => ?_)
      have hP := w_kept0 hP hk
      refine lv_if_ne (tgt := 35) hx hb dX7_row_29 (by decide) (fun c_29 => ?_) (fun c_29 => ?_)
      · have hf := ite_f c_29 hf
        refine lv_aload_n hx hb dX7_row_35 rfl (lv_at hl 0 rfl) ?_
        refine va_get (ci := 7) (C := RX7) (T := TX7) (N := 11) (v := .ref (a1 0)) hx hb hts i_X7_row_X7 hown hK hP 0 rfl rfl 0 (by decide) (hts _ m_X7_row_265b14) (fun _ h9 => h9) rfl dX7_row_36 ?_
        refine va_getN (ci := 2) (C := RX2) (T := TX2) (N := 11) (v := .ref (a1 1)) hx hb hts i_X7_row_X2 hown hK hP 1 rfl rfl 1 (by decide) (nwG hG (w := .fieldLinkNest "PickedMatch" 78 "PickedMatch$Scene" "kinds" "[I" "PickedMatch") (by decide +kernel)) (fun _ h9 => h9) rfl dX7_row_39 ?_
        refine lv_iload_n hx hb dX7_row_42 rfl (lv_at hl 1 rfl) ?_
        obtain ⟨h_43, hf⟩ := ck_e hf
        refine va_iald (cA := E.2.1) (n := 6) (f := s1 1) hx hb hK hP 2 0 rfl rfl h_43 dX7_row_43 ?_
        refine lv_bipush (v := 6) hx hb dX7_row_44 (by decide) ?_
        refine lv_icmp_eq (tgt := 52) hx hb dX7_row_46 (by decide) (fun c_46 => ?_) (fun c_46 => ?_)
        · have hf := ite_t c_46 hf
          refine lv_iload_n hx hb dX7_row_52 rfl (lv_at hl 1 rfl) ?_
          refine lv_iconst (v := 4) hx hb dX7_row_53 (by decide) ?_
          refine lv_imul hx hb dX7_row_54 ?_
          refine lv_iload_n hx hb dX7_row_55 rfl (lv_at hl 2 rfl) ?_
          refine lv_iadd hx hb dX7_row_56 ?_
          refine lv_topi (fun x57 e_x57 => ?_)
          have hf := nm_q e_x57 hf
          refine lv_istore (lv' := [(4, .int x57), (0, .ref (a0 0)), (1, .int p1), (2, .int p2), (3, .int p3)]) hx hb dX7_row_57 hl (Nat.le_of_ble_eq_true rfl) rfl (fun ls hl => ?_)
          refine lv_aload_n hx hb dX7_row_59 rfl (lv_at hl 1 rfl) ?_
          refine va_get (ci := 7) (C := RX7) (T := TX7) (N := 11) (v := .ref (a1 0)) hx hb hts i_X7_row_X7 hown hK hP 0 rfl rfl 0 (by decide) (hts _ m_X7_row_265b14) (fun _ h9 => h9) rfl dX7_row_60 ?_
          refine va_getN (ci := 2) (C := RX2) (T := TX2) (N := 11) (v := .ref (a1 4)) hx hb hts i_X7_row_X2 hown hK hP 1 rfl rfl 4 (by decide) (nwG hG (w := .fieldLinkNest "PickedMatch" 101 "PickedMatch$Scene" "rows" "[I" "PickedMatch") (by decide +kernel)) (fun _ h9 => h9) rfl dX7_row_63 ?_
          refine lv_iload hx hb dX7_row_66 (lv_at hl 0 rfl) ?_
          obtain ⟨h_68, hf⟩ := ck_e hf
          refine va_iald (cA := E.2.1) (n := 24) (f := s1 4) hx hb hK hP 5 0 rfl rfl h_68 dX7_row_68 ?_
          refine lv_topi (fun x69 e_x69 => ?_)
          have hf := nm_q e_x69 hf
          refine lv_istore (lv' := [(5, .int x69), (4, .int x57), (0, .ref (a0 0)), (1, .int p1), (2, .int p2), (3, .int p3)]) hx hb dX7_row_69 hl (Nat.le_of_ble_eq_true rfl) rfl (fun ls hl => ?_)
          refine lv_aload_n hx hb dX7_row_71 rfl (lv_at hl 2 rfl) ?_
          refine va_get (ci := 7) (C := RX7) (T := TX7) (N := 11) (v := .ref (a1 0)) hx hb hts i_X7_row_X7 hown hK hP 0 rfl rfl 0 (by decide) (hts _ m_X7_row_265b14) (fun _ h9 => h9) rfl dX7_row_72 ?_
          refine va_getN (ci := 2) (C := RX2) (T := TX2) (N := 11) (v := .ref (a1 4)) hx hb hts i_X7_row_X2 hown hK hP 1 rfl rfl 4 (by decide) (nwG hG (w := .fieldLinkNest "PickedMatch" 101 "PickedMatch$Scene" "rows" "[I" "PickedMatch") (by decide +kernel)) (fun _ h9 => h9) rfl dX7_row_75 ?_
          refine lv_iload hx hb dX7_row_78 (lv_at hl 1 rfl) ?_
          refine lv_iload_n hx hb dX7_row_80 rfl (lv_at hl 5 rfl) ?_
          obtain ⟨h_81, hf⟩ := ck_e hf
          refine va_iast (cA := E.2.1) (n := 24) (f := s1 4) (x := p3) hx hb hK hP (hDD s0 s1 h1 s2 h2 s3 s4 h4 s5 s6 s7 s8 s9 t9) hS 5 0 rfl rfl h_81 dX7_row_81 (fun H locs hP _ hS => ?_)
          obtain ⟨s1_81, hP, hf⟩ := nm_st' (P := fun z => va_P E.1 vwCl ((wX7o E a0 a1 a2 a3 a4 a5 a6 a7 a8 a9 s0 ++ (wX2 E a1 z h1 ++ (wX2 E a2 s2 h2 ++ (wX1 E a3 s3 ++ (wX2 E a4 s4 h4 ++ (wX1 E a5 s5 ++ (wX5 E a6 s6 ++ (wX3 E a7 s7 ++ (wX0 E a8 s8 ++ (wX6 E a9 s9 t9)))))))))) ++ sW E.2.1 L) H) hf hP
          refine lv_iload hx hb dX7_row_82 (lv_at hl 0 rfl) ?_
          have e9 := Option.some.inj hf
          exact rt_i hx hb hr hlocks (fst_e e9) (rtP (P := fun z => va_P E.1 vwCl ((wX7o E a0 a1 a2 a3 a4 a5 a6 a7 a8 a9 s0 ++ (wX2 E a1 z.2 h1 ++ (wX2 E a2 s2 h2 ++ (wX1 E a3 s3 ++ (wX2 E a4 s4 h4 ++ (wX1 E a5 s5 ++ (wX5 E a6 s6 ++ (wX3 E a7 s7 ++ (wX0 E a8 s8 ++ (wX6 E a9 s9 t9)))))))))) ++ sW E.2.1 L) H) e9 hP) hS dX7_row_84
        · have hf := ite_f c_46 hf
          refine lv_bipush (v := (-3)) hx hb dX7_row_49 (by decide) ?_
          have e9 := Option.some.inj hf
          exact rt_i hx hb hr hlocks (fst_e e9) (rtP (P := fun z => va_P E.1 vwCl ((wX7o E a0 a1 a2 a3 a4 a5 a6 a7 a8 a9 s0 ++ (wX2 E a1 z.2 h1 ++ (wX2 E a2 s2 h2 ++ (wX1 E a3 s3 ++ (wX2 E a4 s4 h4 ++ (wX1 E a5 s5 ++ (wX5 E a6 s6 ++ (wX3 E a7 s7 ++ (wX0 E a8 s8 ++ (wX6 E a9 s9 t9)))))))))) ++ sW E.2.1 L) H) e9 hP) hS dX7_row_51
      · have hf := ite_t c_29 hf
        refine lv_bipush (v := (-2)) hx hb dX7_row_32 (by decide) ?_
        have e9 := Option.some.inj hf
        exact rt_i hx hb hr hlocks (fst_e e9) (rtP (P := fun z => va_P E.1 vwCl ((wX7o E a0 a1 a2 a3 a4 a5 a6 a7 a8 a9 s0 ++ (wX2 E a1 z.2 h1 ++ (wX2 E a2 s2 h2 ++ (wX1 E a3 s3 ++ (wX2 E a4 s4 h4 ++ (wX1 E a5 s5 ++ (wX5 E a6 s6 ++ (wX3 E a7 s7 ++ (wX0 E a8 s8 ++ (wX6 E a9 s9 t9)))))))))) ++ sW E.2.1 L) H) e9 hP) hS dX7_row_34
    · have hf := ite_t c_17 hf
      refine lv_iconst (v := (-1)) hx hb dX7_row_20 (by decide) ?_
      have e9 := Option.some.inj hf
      exact rt_i hx hb hr hlocks (fst_e e9) (rtP (P := fun z => va_P E.1 vwCl ((wX7o E a0 a1 a2 a3 a4 a5 a6 a7 a8 a9 s0 ++ (wX2 E a1 z.2 h1 ++ (wX2 E a2 s2 h2 ++ (wX1 E a3 s3 ++ (wX2 E a4 s4 h4 ++ (wX1 E a5 s5 ++ (wX5 E a6 s6 ++ (wX3 E a7 s7 ++ (wX0 E a8 s8 ++ (wX6 E a9 s9 t9)))))))))) ++ sW E.2.1 L) H) e9 hP) hS dX7_row_21
abbrev rm_X7_take : Room := { frames := 4, cells := 0, slots := 0, locals := 95 }
theorem m_X7_take_265b14 : Cond.fieldLink RX7 12 "PickedMatch" "scene" "LPickedMatch$Scene;" ∈ wsX7_take := by decide +kernel
theorem i_X7_take_X7 : ∀ w ∈ wsX70, w ∈ wsX7_take := fun _ h => List.mem_cons_of_mem _ (List.mem_append_left _ (List.mem_append_left _ (List.mem_append_right _ h)))
theorem m_X7_take_4cf9d8 : Cond.initialized RX2 ∈ wsX7_take := by decide +kernel
theorem m_X7_take_0211d8 : Cond.instanceMethod yX2_hasThing ∈ wsX7_take := by decide +kernel
theorem m_X7_take_6099ba : Cond.selects RX2 yX2_hasThing yX2_hasThing ∈ wsX7_take := by decide +kernel
theorem m_X7_take_e42de2 : Cond.instanceMethod yX2_goesNow ∈ wsX7_take := by decide +kernel
theorem m_X7_take_678d5f : Cond.selects RX2 yX2_goesNow yX2_goesNow ∈ wsX7_take := by decide +kernel
theorem m_X7_take_090fb6 : Cond.instanceMethod yX2_pickUp ∈ wsX7_take := by decide +kernel
theorem m_X7_take_bf4ad0 : Cond.selects RX2 yX2_pickUp yX2_pickUp ∈ wsX7_take := by decide +kernel
theorem i_X7_take_X2 : ∀ w ∈ wsX20, w ∈ wsX7_take := fun _ h => List.mem_cons_of_mem _ (List.mem_append_left _ (List.mem_append_right _ h))
set_option maxHeartbeats 8000000 in
set_option maxRecDepth 100000 in
theorem k_X7_take (l : Launch) (E : Ev) (a0 : Nat → Nat) (a1 : Nat → Nat) (a2 : Nat → Nat) (a3 : Nat → Nat) (a4 : Nat → Nat) (a5 : Nat → Nat) (a6 : Nat → Nat) (a7 : Nat → Nat) (a8 : Nat → Nat) (a9 : Nat → Nat) (L : List SR) (N : Nat) (s0 : St) (s1 : St) (h1 : Option SR) (s2 : St) (h2 : Option SR) (s3 : St) (s4 : St) (h4 : Option SR) (s5 : St) (s6 : St) (s7 : St) (s8 : St) (s9 : St) (t9 : Nat → Nat → Int64) (p1 : Int32) (q : (Int32 × St)) (hf : f_X7_take N L s1 h1 p1 = some q) : Ci l yX7_take wsX7_take rm_X7_take E [.ref (a0 0), .int p1] ((wX7o E a0 a1 a2 a3 a4 a5 a6 a7 a8 a9 s0 ++ (wX2 E a1 s1 h1 ++ (wX2 E a2 s2 h2 ++ (wX1 E a3 s3 ++ (wX2 E a4 s4 h4 ++ (wX1 E a5 s5 ++ (wX5 E a6 s6 ++ (wX3 E a7 s7 ++ (wX0 E a8 s8 ++ (wX6 E a9 s9 t9)))))))))) ++ sW E.2.1 L) ((wX7o E a0 a1 a2 a3 a4 a5 a6 a7 a8 a9 s0 ++ (wX2 E a1 q.2 h1 ++ (wX2 E a2 s2 h2 ++ (wX1 E a3 s3 ++ (wX2 E a4 s4 h4 ++ (wX1 E a5 s5 ++ (wX5 E a6 s6 ++ (wX3 E a7 s7 ++ (wX0 E a8 s8 ++ (wX6 E a9 s9 t9)))))))))) ++ sW E.2.1 L) q.1 := by
  unfold f_X7_take at hf
  intro sz
  refine Met.ofW (cc := cX7_take) (maxL := 2) (ret := (some .int)) (by decide) rfl ?_
  intro p e s m args below meth c s₁ B hml hpre
  obtain ⟨rfl, hsz, hP, hK, hD0, hG, hA, hAB⟩ := start hpre
  have hx := B.exec
  have hb := B.bytes
  have hr := B.returns
  have hts := atoms_spec (ws := wsX7_take) B.pre
  have hown : s.vm.findClass RX7 = some m.cls := findClass_of_methodNamed B.named
  have hlocks := B.notSynchronized
  subst hsz
  generalize va_A ((wX7o E a0 a1 a2 a3 a4 a5 a6 a7 a8 a9 s0 ++ (wX2 E a1 s1 h1 ++ (wX2 E a2 s2 h2 ++ (wX1 E a3 s3 ++ (wX2 E a4 s4 h4 ++ (wX1 E a5 s5 ++ (wX5 E a6 s6 ++ (wX3 E a7 s7 ++ (wX0 E a8 s8 ++ (wX6 E a9 s9 t9)))))))))) ++ sW E.2.1 L) s.heap.size = A0 at hD0 hA hAB ⊢
  have hDD : ∀ (s0 : St) (s1 : St) (h1 : Option SR) (s2 : St) (h2 : Option SR) (s3 : St) (s4 : St) (h4 : Option SR) (s5 : St) (s6 : St) (s7 : St) (s8 : St) (s9 : St) (t9 : Nat → Nat → Int64), va_D A0 ((wX7o E a0 a1 a2 a3 a4 a5 a6 a7 a8 a9 s0 ++ (wX2 E a1 s1 h1 ++ (wX2 E a2 s2 h2 ++ (wX1 E a3 s3 ++ (wX2 E a4 s4 h4 ++ (wX1 E a5 s5 ++ (wX5 E a6 s6 ++ (wX3 E a7 s7 ++ (wX0 E a8 s8 ++ (wX6 E a9 s9 t9)))))))))) ++ sW E.2.1 L) := fun s0 s1 h1 s2 h2 s3 s4 h4 s5 s6 s7 s8 s9 t9 => vD_addr hD0 rfl
  have hS : va_S A0 s.heap s.heap [] := va_S.rf
  have hl := lv_entry ([.ref (a0 0), .int p1]) (n := 2) (Nat.le_of_ble_eq_true rfl)
  rw [lg_entry_eq]
  generalize (lg_sl ([.ref (a0 0), .int p1]) ++ List.replicate (2 - (lg_sl ([.ref (a0 0), .int p1])).length) Slot.unset).toArray = ls at hl ⊢
  have hl : lv_has ls 2 [(0, .ref (a0 0)), (1, .int p1)] := hl
  refine lv_aload_n hx hb dX7_take_0 rfl (lv_at hl 0 rfl) ?_
  refine va_get (ci := 7) (C := RX7) (T := TX7) (N := 11) (v := .ref (a1 0)) hx hb hts i_X7_take_X7 hown hK hP 0 rfl rfl 0 (by decide) (hts _ m_X7_take_265b14) (fun _ h9 => h9) rfl dX7_take_1 ?_
  refine lv_iload_n hx hb dX7_take_4 rfl (lv_at hl 1 rfl) ?_
  obtain ⟨q5, hc_5, hf⟩ := cl_e hf
  have hm_5 : ∀ q ∈ (wX2 E a1 s1 h1) ++ sW E.2.1 L, q ∈ (wX7o E a0 a1 a2 a3 a4 a5 a6 a7 a8 a9 s0 ++ (wX2 E a1 s1 h1 ++ (wX2 E a2 s2 h2 ++ (wX1 E a3 s3 ++ (wX2 E a4 s4 h4 ++ (wX1 E a5 s5 ++ (wX5 E a6 s6 ++ (wX3 E a7 s7 ++ (wX0 E a8 s8 ++ (wX6 E a9 s9 t9)))))))))) ++ sW E.2.1 L := (app_mem (sub_mem (suf := []) [1, 2, 3, 4, 5, 6, 7] rfl))
  refine fin_i (E := E) (wc := (wX2 E a1 s1 h1) ++ sW E.2.1 L) (wc' := (wX2 E a1 s1 h1) ++ sW E.2.1 L) (va_runVN (As := [.int p1]) (rest := []) ⟨hx, hb, hml, hown, hts⟩ (k_X2_hasThing l E a1 L N s1 h1 p1 q5 hc_5 _) ⟨va_cnB 1 hts gX7_take_X2_hasThing_n74 rfl rfl rfl (hG.1 (.methodLinkNest "PickedMatch" 74 yX2_hasThing "PickedMatch") (by decide +kernel)) (hts _ m_X7_take_4cf9d8) (by decide +kernel) ⟨(Nat.le_of_ble_eq_true rfl), (Nat.le_of_ble_eq_true rfl)⟩, (hts _ m_X7_take_0211d8), (hts _ m_X7_take_6099ba)⟩ (pre_v (ci := 2) (q0 := 0) hK (sub_P hm_5 hP) (sub_Ds (wc := wX2 E a1 s1 h1) [1, 2, 3, 4, 5, 6, 7] (by decide) rfl (hDD s0 s1 h1 s2 h2 s3 s4 h4 s5 s6 s7 s8 s9 t9)) hS hG hAB rfl rfl) rfl rfl hl.1 rfl (lv_room (Nat.le_of_ble_eq_true rfl)) dX7_take_5 ⟨Nat.zero_le _, Nat.zero_le _⟩) hS (w_free (hDD s0 s1 h1 s2 h2 s3 s4 h4 s5 s6 s7 s8 s9 t9) hS hA hm_5) (fun H locs hP1 hk hS => ?_)
  have hP := w_joins (ws' := wX7o E a0 a1 a2 a3 a4 a5 a6 a7 a8 a9 s0 ++ (wX2 E a1 s1 h1 ++ (wX2 E a2 s2 h2 ++ (wX1 E a3 s3 ++ (wX2 E a4 s4 h4 ++ (wX1 E a5 s5 ++ (wX5 E a6 s6 ++ (wX3 E a7 s7 ++ (wX0 E a8 s8 ++ (wX6 E a9 s9 t9)))))))))) (wc := wX2 E a1 s1 h1) (wc' := wX2 E a1 s1 h1) hP (hDD s0 s1 h1 s2 h2 s3 s4 h4 s5 s6 s7 s8 s9 t9) [1, 2, 3, 4, 5, 6, 7] rfl [none, some 0, some 1, some 2, some 3, some 4, some 5, some 6, none, none, none, none, none, none, none, none, none, none, none, none, none, none, none, none, none, none, none, none, none, none, none, none, none, none, none, none, none, none, none, none, none, none, none, none, none, none, none, none, none, none] rfl rfl hk hP1
  refine lv_if_ne (tgt := 13) hx hb dX7_take_8 (by decide) (fun c_8 => ?_) (fun c_8 => ?_)
  · have hf := ite_f c_8 hf
    refine lv_aload_n hx hb dX7_take_13 rfl (lv_at hl 0 rfl) ?_
    refine va_get (ci := 7) (C := RX7) (T := TX7) (N := 11) (v := .ref (a1 0)) hx hb hts i_X7_take_X7 hown hK hP 0 rfl rfl 0 (by decide) (hts _ m_X7_take_265b14) (fun _ h9 => h9) rfl dX7_take_14 ?_
    refine lv_iload_n hx hb dX7_take_17 rfl (lv_at hl 1 rfl) ?_
    obtain ⟨q18, hc_18, hf⟩ := cl_e hf
    have hm_18 : ∀ q ∈ (wX2 E a1 s1 h1) ++ sW E.2.1 L, q ∈ (wX7o E a0 a1 a2 a3 a4 a5 a6 a7 a8 a9 s0 ++ (wX2 E a1 s1 h1 ++ (wX2 E a2 s2 h2 ++ (wX1 E a3 s3 ++ (wX2 E a4 s4 h4 ++ (wX1 E a5 s5 ++ (wX5 E a6 s6 ++ (wX3 E a7 s7 ++ (wX0 E a8 s8 ++ (wX6 E a9 s9 t9)))))))))) ++ sW E.2.1 L := (app_mem (sub_mem (suf := []) [1, 2, 3, 4, 5, 6, 7] rfl))
    refine fin_i (E := E) (wc := (wX2 E a1 s1 h1) ++ sW E.2.1 L) (wc' := (wX2 E a1 q18.2 h1) ++ sW E.2.1 L) (va_runVN (As := [.int p1]) (rest := []) ⟨hx, hb, hml, hown, hts⟩ (k_X2_goesNow l E a1 L N s1 h1 p1 q18 hc_18 _) ⟨va_cnB 1 hts gX7_take_X2_goesNow_n98 rfl rfl rfl (hG.1 (.methodLinkNest "PickedMatch" 98 yX2_goesNow "PickedMatch") (by decide +kernel)) (hts _ m_X7_take_4cf9d8) (by decide +kernel) ⟨(Nat.le_of_ble_eq_true rfl), (Nat.le_of_ble_eq_true rfl)⟩, (hts _ m_X7_take_e42de2), (hts _ m_X7_take_678d5f)⟩ (pre_v (ci := 2) (q0 := 0) hK (sub_P hm_18 hP) (sub_Ds (wc := wX2 E a1 s1 h1) [1, 2, 3, 4, 5, 6, 7] (by decide) rfl (hDD s0 s1 h1 s2 h2 s3 s4 h4 s5 s6 s7 s8 s9 t9)) hS hG hAB rfl rfl) rfl rfl hl.1 rfl (lv_room (Nat.le_of_ble_eq_true rfl)) dX7_take_18 ⟨Nat.zero_le _, Nat.zero_le _⟩) hS (w_free (hDD s0 s1 h1 s2 h2 s3 s4 h4 s5 s6 s7 s8 s9 t9) hS hA hm_18) (fun H locs hP1 hk hS => ?_)
    have hP := w_joins (ws' := wX7o E a0 a1 a2 a3 a4 a5 a6 a7 a8 a9 s0 ++ (wX2 E a1 q18.2 h1 ++ (wX2 E a2 s2 h2 ++ (wX1 E a3 s3 ++ (wX2 E a4 s4 h4 ++ (wX1 E a5 s5 ++ (wX5 E a6 s6 ++ (wX3 E a7 s7 ++ (wX0 E a8 s8 ++ (wX6 E a9 s9 t9)))))))))) (wc := wX2 E a1 s1 h1) (wc' := wX2 E a1 q18.2 h1) hP (hDD s0 s1 h1 s2 h2 s3 s4 h4 s5 s6 s7 s8 s9 t9) [1, 2, 3, 4, 5, 6, 7] rfl [none, some 0, some 1, some 2, some 3, some 4, some 5, some 6, none, none, none, none, none, none, none, none, none, none, none, none, none, none, none, none, none, none, none, none, none, none, none, none, none, none, none, none, none, none, none, none, none, none, none, none, none, none, none, none, none, none] rfl rfl hk hP1
    refine lv_if_ne (tgt := 27) hx hb dX7_take_21 (by decide) (fun c_21 => ?_) (fun c_21 => ?_)
    · have hf := ite_f c_21 hf
      refine lv_aload_n hx hb dX7_take_27 rfl (lv_at hl 0 rfl) ?_
      refine va_get (ci := 7) (C := RX7) (T := TX7) (N := 11) (v := .ref (a1 0)) hx hb hts i_X7_take_X7 hown hK hP 0 rfl rfl 0 (by decide) (hts _ m_X7_take_265b14) (fun _ h9 => h9) rfl dX7_take_28 ?_
      refine lv_iload_n hx hb dX7_take_31 rfl (lv_at hl 1 rfl) ?_
      obtain ⟨q32, hc_32, hf⟩ := cl_e hf
      have hm_32 : ∀ q ∈ (wX2 E a1 q18.2 h1) ++ sW E.2.1 L, q ∈ (wX7o E a0 a1 a2 a3 a4 a5 a6 a7 a8 a9 s0 ++ (wX2 E a1 q18.2 h1 ++ (wX2 E a2 s2 h2 ++ (wX1 E a3 s3 ++ (wX2 E a4 s4 h4 ++ (wX1 E a5 s5 ++ (wX5 E a6 s6 ++ (wX3 E a7 s7 ++ (wX0 E a8 s8 ++ (wX6 E a9 s9 t9)))))))))) ++ sW E.2.1 L := (app_mem (sub_mem (suf := []) [1, 2, 3, 4, 5, 6, 7] rfl))
      refine fin_v (E := E) (wc := (wX2 E a1 q18.2 h1) ++ sW E.2.1 L) (wc' := (wX2 E a1 q32 h1) ++ sW E.2.1 L) (va_runVN (As := [.int p1]) (rest := []) ⟨hx, hb, hml, hown, hts⟩ (k_X2_pickUp l E a1 L N q18.2 h1 p1 q32 hc_32 _) ⟨va_cnB 1 hts gX7_take_X2_pickUp_n104 rfl rfl rfl (hG.1 (.methodLinkNest "PickedMatch" 104 yX2_pickUp "PickedMatch") (by decide +kernel)) (hts _ m_X7_take_4cf9d8) (by decide +kernel) ⟨(Nat.le_of_ble_eq_true rfl), (Nat.le_of_ble_eq_true rfl)⟩, (hts _ m_X7_take_090fb6), (hts _ m_X7_take_bf4ad0)⟩ (pre_v (ci := 2) (q0 := 0) hK (sub_P hm_32 hP) (sub_Ds (wc := wX2 E a1 q18.2 h1) [1, 2, 3, 4, 5, 6, 7] (by decide) rfl (hDD s0 q18.2 h1 s2 h2 s3 s4 h4 s5 s6 s7 s8 s9 t9)) hS hG hAB rfl rfl) rfl rfl hl.1 rfl (lv_room (Nat.le_of_ble_eq_true rfl)) dX7_take_32 ⟨Nat.zero_le _, Nat.zero_le _⟩) hS (w_free (hDD s0 q18.2 h1 s2 h2 s3 s4 h4 s5 s6 s7 s8 s9 t9) hS hA hm_32) (fun H locs hP1 hk hS => ?_)
      have hP := w_joins (ws' := wX7o E a0 a1 a2 a3 a4 a5 a6 a7 a8 a9 s0 ++ (wX2 E a1 q32 h1 ++ (wX2 E a2 s2 h2 ++ (wX1 E a3 s3 ++ (wX2 E a4 s4 h4 ++ (wX1 E a5 s5 ++ (wX5 E a6 s6 ++ (wX3 E a7 s7 ++ (wX0 E a8 s8 ++ (wX6 E a9 s9 t9)))))))))) (wc := wX2 E a1 q18.2 h1) (wc' := wX2 E a1 q32 h1) hP (hDD s0 q18.2 h1 s2 h2 s3 s4 h4 s5 s6 s7 s8 s9 t9) [1, 2, 3, 4, 5, 6, 7] rfl [none, some 0, some 1, some 2, some 3, some 4, some 5, some 6, none, none, none, none, none, none, none, none, none, none, none, none, none, none, none, none, none, none, none, none, none, none, none, none, none, none, none, none, none, none, none, none, none, none, none, none, none, none, none, none, none, none] rfl rfl hk hP1
      refine lv_aload_n hx hb dX7_take_35 rfl (lv_at hl 0 rfl) ?_
      refine va_get (ci := 7) (C := RX7) (T := TX7) (N := 11) (v := .ref (a1 0)) hx hb hts i_X7_take_X7 hown hK hP 0 rfl rfl 0 (by decide) (hts _ m_X7_take_265b14) (fun _ h9 => h9) rfl dX7_take_36 ?_
      refine va_getN (ci := 2) (C := RX2) (T := TX2) (N := 11) (v := .int (q32 6 0)) hx hb hts i_X7_take_X2 hown hK hP 1 rfl rfl 6 (by decide) (nwG hG (w := .fieldLinkNest "PickedMatch" 108 "PickedMatch$Scene" "hadCount" "I" "PickedMatch") (by decide +kernel)) (fun _ h9 => h9) rfl dX7_take_39 ?_
      have e9 := Option.some.inj hf
      exact rt_i hx hb hr hlocks (fst_e e9) (rtP (P := fun z => va_P E.1 vwCl ((wX7o E a0 a1 a2 a3 a4 a5 a6 a7 a8 a9 s0 ++ (wX2 E a1 z.2 h1 ++ (wX2 E a2 s2 h2 ++ (wX1 E a3 s3 ++ (wX2 E a4 s4 h4 ++ (wX1 E a5 s5 ++ (wX5 E a6 s6 ++ (wX3 E a7 s7 ++ (wX0 E a8 s8 ++ (wX6 E a9 s9 t9)))))))))) ++ sW E.2.1 L) H) e9 hP) hS dX7_take_42
    · have hf := ite_t c_21 hf
      refine lv_bipush (v := (-3)) hx hb dX7_take_24 (by decide) ?_
      have e9 := Option.some.inj hf
      exact rt_i hx hb hr hlocks (fst_e e9) (rtP (P := fun z => va_P E.1 vwCl ((wX7o E a0 a1 a2 a3 a4 a5 a6 a7 a8 a9 s0 ++ (wX2 E a1 z.2 h1 ++ (wX2 E a2 s2 h2 ++ (wX1 E a3 s3 ++ (wX2 E a4 s4 h4 ++ (wX1 E a5 s5 ++ (wX5 E a6 s6 ++ (wX3 E a7 s7 ++ (wX0 E a8 s8 ++ (wX6 E a9 s9 t9)))))))))) ++ sW E.2.1 L) H) e9 hP) hS dX7_take_26
  · have hf := ite_t c_8 hf
    refine lv_iconst (v := (-1)) hx hb dX7_take_11 (by decide) ?_
    have e9 := Option.some.inj hf
    exact rt_i hx hb hr hlocks (fst_e e9) (rtP (P := fun z => va_P E.1 vwCl ((wX7o E a0 a1 a2 a3 a4 a5 a6 a7 a8 a9 s0 ++ (wX2 E a1 z.2 h1 ++ (wX2 E a2 s2 h2 ++ (wX1 E a3 s3 ++ (wX2 E a4 s4 h4 ++ (wX1 E a5 s5 ++ (wX5 E a6 s6 ++ (wX3 E a7 s7 ++ (wX0 E a8 s8 ++ (wX6 E a9 s9 t9)))))))))) ++ sW E.2.1 L) H) e9 hP) hS dX7_take_12
