abbrev rm_X7_init : Room := { frames := 2, cells := 49, slots := 941, locals := 60 }
theorem m_X7_init_751ef0 : Cond.methodLink RX7 3 objectInit ∈ wsX7_init := by decide +kernel
theorem m_X7_init_99ff6a : Cond.instanceMethod objectInit ∈ wsX7_init := by decide +kernel
theorem m_X7_init_bd0ebf : Cond.code objectInit ⟨#[0xb1]⟩ 1 none ∈ wsX7_init := by decide +kernel
theorem i_X7_init_X2 : ∀ w ∈ wsX20, w ∈ wsX7_init := fun _ h => List.mem_cons_of_mem _ (List.mem_append_left _ (List.mem_append_left _ (List.mem_append_left _ (List.mem_append_left _ (List.mem_append_left _ (List.mem_append_left _ (List.mem_append_right _ h)))))))
theorem m_X7_init_8788b4 : Cond.classLink RX7 9 RX2 ∈ wsX7_init := by decide +kernel
theorem m_X7_init_a437bd : Cond.instantiable RX2 11 ∈ wsX7_init := by decide +kernel
theorem m_X7_init_4cf9d8 : Cond.initialized RX2 ∈ wsX7_init := by decide +kernel
theorem m_X7_init_eb7688 : Cond.instanceMethod yX2_init ∈ wsX7_init := by decide +kernel
theorem m_X7_init_265b14 : Cond.fieldLink RX7 12 "PickedMatch" "scene" "LPickedMatch$Scene;" ∈ wsX7_init := by decide +kernel
theorem i_X7_init_X7 : ∀ w ∈ wsX70, w ∈ wsX7_init := fun _ h => List.mem_cons_of_mem _ (List.mem_append_left _ (List.mem_append_left _ (List.mem_append_left _ (List.mem_append_left _ (List.mem_append_left _ (List.mem_append_right _ h))))))
theorem m_X7_init_5dfb42 : Cond.fieldLink RX7 18 "PickedMatch" "trial" "LPickedMatch$Scene;" ∈ wsX7_init := by decide +kernel
theorem i_X7_init_X1 : ∀ w ∈ wsX10, w ∈ wsX7_init := fun _ h => List.mem_cons_of_mem _ (List.mem_append_left _ (List.mem_append_left _ (List.mem_append_left _ (List.mem_append_left _ (List.mem_append_right _ h)))))
theorem m_X7_init_67a8da : Cond.classLink RX7 21 RX1 ∈ wsX7_init := by decide +kernel
theorem m_X7_init_6a68c1 : Cond.instantiable RX1 10 ∈ wsX7_init := by decide +kernel
theorem m_X7_init_6e074f : Cond.initialized RX1 ∈ wsX7_init := by decide +kernel
theorem m_X7_init_696fe5 : Cond.instanceMethod yX1_init ∈ wsX7_init := by decide +kernel
theorem m_X7_init_6a5209 : Cond.fieldLink RX7 24 "PickedMatch" "notes" "LPickedMatch$Notes;" ∈ wsX7_init := by decide +kernel
theorem m_X7_init_ab2d9f : Cond.fieldLink RX7 28 "PickedMatch" "keptScene" "LPickedMatch$Scene;" ∈ wsX7_init := by decide +kernel
theorem m_X7_init_10f301 : Cond.fieldLink RX7 31 "PickedMatch" "keptNotes" "LPickedMatch$Notes;" ∈ wsX7_init := by decide +kernel
theorem i_X7_init_X5 : ∀ w ∈ wsX50, w ∈ wsX7_init := fun _ h => List.mem_cons_of_mem _ (List.mem_append_left _ (List.mem_append_left _ (List.mem_append_left _ (List.mem_append_right _ h))))
theorem m_X7_init_42cb1c : Cond.classLink RX7 34 RX5 ∈ wsX7_init := by decide +kernel
theorem m_X7_init_0a6186 : Cond.instantiable RX5 8 ∈ wsX7_init := by decide +kernel
theorem m_X7_init_ba2631 : Cond.initialized RX5 ∈ wsX7_init := by decide +kernel
theorem m_X7_init_5a52e7 : Cond.instanceMethod yX5_init ∈ wsX7_init := by decide +kernel
theorem m_X7_init_d00ad8 : Cond.fieldLink RX7 37 "PickedMatch" "reader" "LPickedMatch$StreetReader;" ∈ wsX7_init := by decide +kernel
theorem i_X7_init_X3 : ∀ w ∈ wsX30, w ∈ wsX7_init := fun _ h => List.mem_cons_of_mem _ (List.mem_append_left _ (List.mem_append_left _ (List.mem_append_right _ h)))
theorem m_X7_init_c661db : Cond.classLink RX7 41 RX3 ∈ wsX7_init := by decide +kernel
theorem m_X7_init_3d085c : Cond.instantiable RX3 4 ∈ wsX7_init := by decide +kernel
theorem m_X7_init_7824fe : Cond.initialized RX3 ∈ wsX7_init := by decide +kernel
theorem m_X7_init_a282ab : Cond.instanceMethod yX3_init ∈ wsX7_init := by decide +kernel
theorem m_X7_init_4537e5 : Cond.fieldLink RX7 44 "PickedMatch" "search" "LPickedMatch$Search;" ∈ wsX7_init := by decide +kernel
theorem i_X7_init_X0 : ∀ w ∈ wsX00, w ∈ wsX7_init := fun _ h => List.mem_cons_of_mem _ (List.mem_append_left _ (List.mem_append_right _ h))
theorem m_X7_init_83bcbd : Cond.classLink RX7 48 RX0 ∈ wsX7_init := by decide +kernel
theorem m_X7_init_5e19bf : Cond.instantiable RX0 5 ∈ wsX7_init := by decide +kernel
theorem m_X7_init_a93c50 : Cond.initialized RX0 ∈ wsX7_init := by decide +kernel
theorem m_X7_init_dc1f38 : Cond.instanceMethod yX0_init ∈ wsX7_init := by decide +kernel
theorem m_X7_init_e811b9 : Cond.fieldLink RX7 51 "PickedMatch" "acts" "LPickedMatch$Acts;" ∈ wsX7_init := by decide +kernel
theorem i_X7_init_X6 : ∀ w ∈ wsX60, w ∈ wsX7_init := fun _ h => List.mem_cons_of_mem _ (List.mem_append_right _ h)
theorem m_X7_init_d9f298 : Cond.classLink RX7 55 RX6 ∈ wsX7_init := by decide +kernel
theorem m_X7_init_033eb4 : Cond.instantiable RX6 3 ∈ wsX7_init := by decide +kernel
theorem m_X7_init_4512f1 : Cond.initialized RX6 ∈ wsX7_init := by decide +kernel
theorem m_X7_init_69da50 : Cond.instanceMethod yX6_init ∈ wsX7_init := by decide +kernel
theorem m_X7_init_12bc67 : Cond.fieldLink RX7 58 "PickedMatch" "tapes" "LPickedMatch$Tapes;" ∈ wsX7_init := by decide +kernel
set_option maxHeartbeats 16000000 in
set_option maxRecDepth 100000 in
theorem k_X7_init (l : Launch) (E : Ev) (h0 : Nat) : Cn7 l yX7_init wsX7_init rm_X7_init E [.null, .null, .null, .null, .null, .int 0, .null, .int 0, .null, .null, .null] h0 49 941 := by
  intro sz
  refine Met.ofW (cc := cX7_init) (maxL := 1) (ret := none) (by decide) rfl ?_
  intro p e s m args below meth c s₁ B hml hv
  obtain ⟨rfl, hsz, hP, hK, hD, hG, hA, hAB⟩ := start hv
  have hx := B.exec
  have hb := B.bytes
  have hr := B.returns
  have hts := atoms_spec (ws := wsX7_init) B.pre
  have hown : s.vm.findClass RX7 = some m.cls := findClass_of_methodNamed B.named
  have hlocks := B.notSynchronized
  have hin : meth.name = "<init>" := (name_of_methodNamed B.named B.method).1
  subst hsz
  generalize va_A [(h0, .inr (7, [.null, .null, .null, .null, .null, .int 0, .null, .int 0, .null, .null, .null]))] s.heap.size = A0 at hD hA hAB ⊢
  have hS : va_S A0 s.heap s.heap [] := va_S.rf
  have hP : va_P E.1 vwCl [(h0, .inr (7, [.null, .null, .null, .null, .null, .int 0, .null, .int 0, .null, .null, .null]))] s.heap := hP
  have hl := lv_entry ([.ref h0]) (n := 1) (Nat.le_of_ble_eq_true rfl)
  rw [lg_entry_eq]
  generalize (lg_sl ([.ref h0]) ++ List.replicate (1 - (lg_sl ([.ref h0])).length) Slot.unset).toArray = ls at hl ⊢
  have hl : lv_has ls 1 [(0, .ref h0)] := hl
  refine lv_aload_n hx hb dX7_init_0 rfl (lv_at hl 0 rfl) ?_
  refine W.objInit hx hb hown (hts _ m_X7_init_751ef0) (hts _ m_X7_init_99ff6a) (hts _ m_X7_init_bd0ebf) rfl (by rw [hml]; exact hl.1) rfl dX7_init_1 (Nat.le_of_ble_eq_true rfl) (Nat.le_of_ble_eq_true rfl) ?_
  refine W.eq (g2 := F0 m 4 ls []) rfl ?_
  refine lv_aload_n hx hb dX7_init_4 rfl (lv_at hl 0 rfl) ?_
  refine va_new (ci := 2) (fs := [.int 0, .null, .null, .null, .null, .null, .int 0, .int 0, .int 0, .null, .null]) (C := RX2) (T := TX2) (N := 11) hx hb hts i_X7_init_X2 tyX2 tyX2_ok hown (hts _ m_X7_init_8788b4) (hts _ m_X7_init_a437bd) (hts _ m_X7_init_4cf9d8) hK hP hD hS hA rfl (fun j hj => by rcases (show j = 0 ∨ j = 1 ∨ j = 2 ∨ j = 3 ∨ j = 4 ∨ j = 5 ∨ j = 6 ∨ j = 7 ∨ j = 8 ∨ j = 9 ∨ j = 10 by omega) with rfl | rfl | rfl | rfl | rfl | rfl | rfl | rfl | rfl | rfl | rfl <;> rfl) (Nat.le_of_ble_eq_true rfl) (Nat.le_of_ble_eq_true rfl) dX7_init_5 (fun q5 H hP hD hS => ?_)
  refine W.widen (k := 1) (n := 11) (Nat.le_of_ble_eq_true rfl) (Nat.le_of_ble_eq_true rfl) ?_
  refine lv_dup hx hb dX7_init_8 rfl ?_
  have hP : va_P E.1 vwCl ([(h0, .inr (7, [.null, .null, .null, .null, .null, .int 0, .null, .int 0, .null, .null, .null]))] ++ [(q5, .inr (2, [.int 0, .null, .null, .null, .null, .null, .int 0, .int 0, .int 0, .null, .null]))]) H := hP
  have hD : va_D A0 ([(h0, .inr (7, [.null, .null, .null, .null, .null, .int 0, .null, .int 0, .null, .null, .null]))] ++ [(q5, .inr (2, [.int 0, .null, .null, .null, .null, .null, .int 0, .int 0, .int 0, .null, .null]))]) := hD
  have hPc := hP.sub (ws' := [(q5, .inr (2, [.int 0, .null, .null, .null, .null, .null, .int 0, .int 0, .int 0, .null, .null]))]) [1] rfl
  have hDc := hD.sub (ws' := [(q5, .inr (2, [.int 0, .null, .null, .null, .null, .null, .int 0, .int 0, .int 0, .null, .null]))]) [1] (by decide) rfl
  have hFc := va_free (wc := [(q5, .inr (2, [.int 0, .null, .null, .null, .null, .null, .int 0, .int 0, .int 0, .null, .null]))]) hD hS hA [1] rfl
  refine va_callv (va_runIN (As := []) (rest := [.ref q5, .ref h0]) ⟨hx, hb, hml, hown, hts⟩ (k_X2_init l E q5 _) ⟨va_cnB 0 hts gX7_init_X2_init_n11 rfl rfl rfl (hG.1 (.methodLinkNest "PickedMatch" 11 yX2_init "PickedMatch") (by decide +kernel)) (hts _ m_X7_init_4cf9d8) (by decide +kernel) ⟨Nat.le_of_ble_eq_true rfl, Nat.le_of_ble_eq_true rfl⟩, rfl, hts _ m_X7_init_eb7688⟩ (pre_s hK hPc hDc hS hG hAB) rfl rfl hl.1 rfl (lv_room (Nat.le_of_ble_eq_true rfl)) dX7_init_9 ⟨Nat.le_of_ble_eq_true rfl, Nat.le_of_ble_eq_true rfl⟩) hS (fun q _ h => hFc q h) hFc (fun u t H1 locs ht hvm hw hB hz1 hk1 hS => ?_)
  obtain ⟨b1, hb1, hP1, hD1⟩ := hB
  rw [ht] at hP1
  subst hb1
  obtain ⟨hP, hD⟩ := va_join (wr := [(h0, .inr (7, [.null, .null, .null, .null, .null, .int 0, .null, .int 0, .null, .null, .null]))]) (w1 := wX2 E b1 st_X2 none) hP hD [1] [0] rfl rfl (by decide) (by decide) hk1 hFc hP1 hD1
  clear hP1 hD1 hk1 hPc hDc hFc hz1 hw ht
  refine W.widen (k := 7) (n := 65) (Nat.le_of_ble_eq_true rfl) (Nat.le_of_ble_eq_true rfl) ?_
  refine va_putF (ci := 7) (v := .ref (b1 0)) (ty := .object "PickedMatch$Scene") (C := RX7) (T := TX7) (N := 11) hx hb hts i_X7_init_X7 tyX7 tyX7_ok nmX7 hown hK hP hD hS 0 rfl rfl 0 (by decide) (hts _ m_X7_init_265b14) (fun _ h9 => h9) rfl hin rfl (by decide +kernel) rfl rfl (Nat.le_of_ble_eq_true rfl) dX7_init_12 (fun H1 locs hP hD hS => ?_)
  generalize H1 = H at hP hS ⊢
  have hP : va_P E.1 vwCl ([(h0, .inr (7, [.ref (b1 0), .null, .null, .null, .null, .int 0, .null, .int 0, .null, .null, .null]))] ++ wX2 E b1 st_X2 none) H := hP
  have hD : va_D A0 ([(h0, .inr (7, [.ref (b1 0), .null, .null, .null, .null, .int 0, .null, .int 0, .null, .null, .null]))] ++ wX2 E b1 st_X2 none) := hD
  refine lv_aload_n hx hb dX7_init_15 rfl (lv_at hl 0 rfl) ?_
  refine va_new (ci := 2) (fs := [.int 0, .null, .null, .null, .null, .null, .int 0, .int 0, .int 0, .null, .null]) (C := RX2) (T := TX2) (N := 11) hx hb hts i_X7_init_X2 tyX2 tyX2_ok hown (hts _ m_X7_init_8788b4) (hts _ m_X7_init_a437bd) (hts _ m_X7_init_4cf9d8) hK hP hD hS hA rfl (fun j hj => by rcases (show j = 0 ∨ j = 1 ∨ j = 2 ∨ j = 3 ∨ j = 4 ∨ j = 5 ∨ j = 6 ∨ j = 7 ∨ j = 8 ∨ j = 9 ∨ j = 10 by omega) with rfl | rfl | rfl | rfl | rfl | rfl | rfl | rfl | rfl | rfl | rfl <;> rfl) (Nat.le_of_ble_eq_true rfl) (Nat.le_of_ble_eq_true rfl) dX7_init_16 (fun q16 H hP hD hS => ?_)
  refine W.widen (k := 8) (n := 76) (Nat.le_of_ble_eq_true rfl) (Nat.le_of_ble_eq_true rfl) ?_
  refine lv_dup hx hb dX7_init_19 rfl ?_
  have hP : va_P E.1 vwCl ([(h0, .inr (7, [.ref (b1 0), .null, .null, .null, .null, .int 0, .null, .int 0, .null, .null, .null]))] ++ wX2 E b1 st_X2 none ++ [(q16, .inr (2, [.int 0, .null, .null, .null, .null, .null, .int 0, .int 0, .int 0, .null, .null]))]) H := hP
  have hD : va_D A0 ([(h0, .inr (7, [.ref (b1 0), .null, .null, .null, .null, .int 0, .null, .int 0, .null, .null, .null]))] ++ wX2 E b1 st_X2 none ++ [(q16, .inr (2, [.int 0, .null, .null, .null, .null, .null, .int 0, .int 0, .int 0, .null, .null]))]) := hD
  have hPc := hP.sub (ws' := [(q16, .inr (2, [.int 0, .null, .null, .null, .null, .null, .int 0, .int 0, .int 0, .null, .null]))]) [8] rfl
  have hDc := hD.sub (ws' := [(q16, .inr (2, [.int 0, .null, .null, .null, .null, .null, .int 0, .int 0, .int 0, .null, .null]))]) [8] (by decide) rfl
  have hFc := va_free (wc := [(q16, .inr (2, [.int 0, .null, .null, .null, .null, .null, .int 0, .int 0, .int 0, .null, .null]))]) hD hS hA [8] rfl
  refine va_callv (va_runIN (As := []) (rest := [.ref q16, .ref h0]) ⟨hx, hb, hml, hown, hts⟩ (k_X2_init l E q16 _) ⟨va_cnB 0 hts gX7_init_X2_init_n11 rfl rfl rfl (hG.1 (.methodLinkNest "PickedMatch" 11 yX2_init "PickedMatch") (by decide +kernel)) (hts _ m_X7_init_4cf9d8) (by decide +kernel) ⟨Nat.le_of_ble_eq_true rfl, Nat.le_of_ble_eq_true rfl⟩, rfl, hts _ m_X7_init_eb7688⟩ (pre_s hK hPc hDc hS hG hAB) rfl rfl hl.1 rfl (lv_room (Nat.le_of_ble_eq_true rfl)) dX7_init_20 ⟨Nat.le_of_ble_eq_true rfl, Nat.le_of_ble_eq_true rfl⟩) hS (fun q _ h => hFc q h) hFc (fun u t H1 locs ht hvm hw hB hz1 hk1 hS => ?_)
  obtain ⟨b2, hb2, hP1, hD1⟩ := hB
  rw [ht] at hP1
  subst hb2
  obtain ⟨hP, hD⟩ := va_join (wr := [(h0, .inr (7, [.ref (b1 0), .null, .null, .null, .null, .int 0, .null, .int 0, .null, .null, .null]))] ++ wX2 E b1 st_X2 none) (w1 := wX2 E b2 st_X2 none) hP hD [8] [0, 1, 2, 3, 4, 5, 6, 7] rfl rfl (by decide) (by decide) hk1 hFc hP1 hD1
  clear hP1 hD1 hk1 hPc hDc hFc hz1 hw ht
  refine W.widen (k := 14) (n := 130) (Nat.le_of_ble_eq_true rfl) (Nat.le_of_ble_eq_true rfl) ?_
  refine va_putF (ci := 7) (v := .ref (b2 0)) (ty := .object "PickedMatch$Scene") (C := RX7) (T := TX7) (N := 11) hx hb hts i_X7_init_X7 tyX7 tyX7_ok nmX7 hown hK hP hD hS 0 rfl rfl 1 (by decide) (hts _ m_X7_init_5dfb42) (fun _ h9 => h9) rfl hin rfl (by decide +kernel) rfl rfl (Nat.le_of_ble_eq_true rfl) dX7_init_23 (fun H1 locs hP hD hS => ?_)
  generalize H1 = H at hP hS ⊢
  have hP : va_P E.1 vwCl ([(h0, .inr (7, [.ref (b1 0), .ref (b2 0), .null, .null, .null, .int 0, .null, .int 0, .null, .null, .null]))] ++ wX2 E b1 st_X2 none ++ wX2 E b2 st_X2 none) H := hP
  have hD : va_D A0 ([(h0, .inr (7, [.ref (b1 0), .ref (b2 0), .null, .null, .null, .int 0, .null, .int 0, .null, .null, .null]))] ++ wX2 E b1 st_X2 none ++ wX2 E b2 st_X2 none) := hD
  refine lv_aload_n hx hb dX7_init_26 rfl (lv_at hl 0 rfl) ?_
  refine va_new (ci := 1) (fs := [.null, .null, .null, .int 0, .null, .null, .int 0, .null, .null, .int 0]) (C := RX1) (T := TX1) (N := 10) hx hb hts i_X7_init_X1 tyX1 tyX1_ok hown (hts _ m_X7_init_67a8da) (hts _ m_X7_init_6a68c1) (hts _ m_X7_init_6e074f) hK hP hD hS hA rfl (fun j hj => by rcases (show j = 0 ∨ j = 1 ∨ j = 2 ∨ j = 3 ∨ j = 4 ∨ j = 5 ∨ j = 6 ∨ j = 7 ∨ j = 8 ∨ j = 9 by omega) with rfl | rfl | rfl | rfl | rfl | rfl | rfl | rfl | rfl | rfl <;> rfl) (Nat.le_of_ble_eq_true rfl) (Nat.le_of_ble_eq_true rfl) dX7_init_27 (fun q27 H hP hD hS => ?_)
  refine W.widen (k := 15) (n := 140) (Nat.le_of_ble_eq_true rfl) (Nat.le_of_ble_eq_true rfl) ?_
  refine lv_dup hx hb dX7_init_30 rfl ?_
  have hP : va_P E.1 vwCl ([(h0, .inr (7, [.ref (b1 0), .ref (b2 0), .null, .null, .null, .int 0, .null, .int 0, .null, .null, .null]))] ++ wX2 E b1 st_X2 none ++ wX2 E b2 st_X2 none ++ [(q27, .inr (1, [.null, .null, .null, .int 0, .null, .null, .int 0, .null, .null, .int 0]))]) H := hP
  have hD : va_D A0 ([(h0, .inr (7, [.ref (b1 0), .ref (b2 0), .null, .null, .null, .int 0, .null, .int 0, .null, .null, .null]))] ++ wX2 E b1 st_X2 none ++ wX2 E b2 st_X2 none ++ [(q27, .inr (1, [.null, .null, .null, .int 0, .null, .null, .int 0, .null, .null, .int 0]))]) := hD
  have hPc := hP.sub (ws' := [(q27, .inr (1, [.null, .null, .null, .int 0, .null, .null, .int 0, .null, .null, .int 0]))]) [15] rfl
  have hDc := hD.sub (ws' := [(q27, .inr (1, [.null, .null, .null, .int 0, .null, .null, .int 0, .null, .null, .int 0]))]) [15] (by decide) rfl
  have hFc := va_free (wc := [(q27, .inr (1, [.null, .null, .null, .int 0, .null, .null, .int 0, .null, .null, .int 0]))]) hD hS hA [15] rfl
  refine va_callv (va_runIN (As := []) (rest := [.ref q27, .ref h0]) ⟨hx, hb, hml, hown, hts⟩ (k_X1_init l E q27 _) ⟨va_cnB 0 hts gX7_init_X1_init_n23 rfl rfl rfl (hG.1 (.methodLinkNest "PickedMatch" 23 yX1_init "PickedMatch") (by decide +kernel)) (hts _ m_X7_init_6e074f) (by decide +kernel) ⟨Nat.le_of_ble_eq_true rfl, Nat.le_of_ble_eq_true rfl⟩, rfl, hts _ m_X7_init_696fe5⟩ (pre_s hK hPc hDc hS hG hAB) rfl rfl hl.1 rfl (lv_room (Nat.le_of_ble_eq_true rfl)) dX7_init_31 ⟨Nat.le_of_ble_eq_true rfl, Nat.le_of_ble_eq_true rfl⟩) hS (fun q _ h => hFc q h) hFc (fun u t H1 locs ht hvm hw hB hz1 hk1 hS => ?_)
  obtain ⟨b3, hb3, hP1, hD1⟩ := hB
  rw [ht] at hP1
  subst hb3
  obtain ⟨hP, hD⟩ := va_join (wr := [(h0, .inr (7, [.ref (b1 0), .ref (b2 0), .null, .null, .null, .int 0, .null, .int 0, .null, .null, .null]))] ++ wX2 E b1 st_X2 none ++ wX2 E b2 st_X2 none) (w1 := wX1 E b3 st_X1) hP hD [15] [0, 1, 2, 3, 4, 5, 6, 7, 8, 9, 10, 11, 12, 13, 14] rfl rfl (by decide) (by decide) hk1 hFc hP1 hD1
  clear hP1 hD1 hk1 hPc hDc hFc hz1 hw ht
  refine W.widen (k := 22) (n := 191) (Nat.le_of_ble_eq_true rfl) (Nat.le_of_ble_eq_true rfl) ?_
  refine va_putF (ci := 7) (v := .ref (b3 0)) (ty := .object "PickedMatch$Notes") (C := RX7) (T := TX7) (N := 11) hx hb hts i_X7_init_X7 tyX7 tyX7_ok nmX7 hown hK hP hD hS 0 rfl rfl 2 (by decide) (hts _ m_X7_init_6a5209) (fun _ h9 => h9) rfl hin rfl (by decide +kernel) rfl rfl (Nat.le_of_ble_eq_true rfl) dX7_init_34 (fun H1 locs hP hD hS => ?_)
  generalize H1 = H at hP hS ⊢
  have hP : va_P E.1 vwCl ([(h0, .inr (7, [.ref (b1 0), .ref (b2 0), .ref (b3 0), .null, .null, .int 0, .null, .int 0, .null, .null, .null]))] ++ wX2 E b1 st_X2 none ++ wX2 E b2 st_X2 none ++ wX1 E b3 st_X1) H := hP
  have hD : va_D A0 ([(h0, .inr (7, [.ref (b1 0), .ref (b2 0), .ref (b3 0), .null, .null, .int 0, .null, .int 0, .null, .null, .null]))] ++ wX2 E b1 st_X2 none ++ wX2 E b2 st_X2 none ++ wX1 E b3 st_X1) := hD
  refine lv_aload_n hx hb dX7_init_37 rfl (lv_at hl 0 rfl) ?_
  refine va_new (ci := 2) (fs := [.int 0, .null, .null, .null, .null, .null, .int 0, .int 0, .int 0, .null, .null]) (C := RX2) (T := TX2) (N := 11) hx hb hts i_X7_init_X2 tyX2 tyX2_ok hown (hts _ m_X7_init_8788b4) (hts _ m_X7_init_a437bd) (hts _ m_X7_init_4cf9d8) hK hP hD hS hA rfl (fun j hj => by rcases (show j = 0 ∨ j = 1 ∨ j = 2 ∨ j = 3 ∨ j = 4 ∨ j = 5 ∨ j = 6 ∨ j = 7 ∨ j = 8 ∨ j = 9 ∨ j = 10 by omega) with rfl | rfl | rfl | rfl | rfl | rfl | rfl | rfl | rfl | rfl | rfl <;> rfl) (Nat.le_of_ble_eq_true rfl) (Nat.le_of_ble_eq_true rfl) dX7_init_38 (fun q38 H hP hD hS => ?_)
  refine W.widen (k := 23) (n := 202) (Nat.le_of_ble_eq_true rfl) (Nat.le_of_ble_eq_true rfl) ?_
  refine lv_dup hx hb dX7_init_41 rfl ?_
  have hP : va_P E.1 vwCl ([(h0, .inr (7, [.ref (b1 0), .ref (b2 0), .ref (b3 0), .null, .null, .int 0, .null, .int 0, .null, .null, .null]))] ++ wX2 E b1 st_X2 none ++ wX2 E b2 st_X2 none ++ wX1 E b3 st_X1 ++ [(q38, .inr (2, [.int 0, .null, .null, .null, .null, .null, .int 0, .int 0, .int 0, .null, .null]))]) H := hP
  have hD : va_D A0 ([(h0, .inr (7, [.ref (b1 0), .ref (b2 0), .ref (b3 0), .null, .null, .int 0, .null, .int 0, .null, .null, .null]))] ++ wX2 E b1 st_X2 none ++ wX2 E b2 st_X2 none ++ wX1 E b3 st_X1 ++ [(q38, .inr (2, [.int 0, .null, .null, .null, .null, .null, .int 0, .int 0, .int 0, .null, .null]))]) := hD
  have hPc := hP.sub (ws' := [(q38, .inr (2, [.int 0, .null, .null, .null, .null, .null, .int 0, .int 0, .int 0, .null, .null]))]) [23] rfl
  have hDc := hD.sub (ws' := [(q38, .inr (2, [.int 0, .null, .null, .null, .null, .null, .int 0, .int 0, .int 0, .null, .null]))]) [23] (by decide) rfl
  have hFc := va_free (wc := [(q38, .inr (2, [.int 0, .null, .null, .null, .null, .null, .int 0, .int 0, .int 0, .null, .null]))]) hD hS hA [23] rfl
  refine va_callv (va_runIN (As := []) (rest := [.ref q38, .ref h0]) ⟨hx, hb, hml, hown, hts⟩ (k_X2_init l E q38 _) ⟨va_cnB 0 hts gX7_init_X2_init_n11 rfl rfl rfl (hG.1 (.methodLinkNest "PickedMatch" 11 yX2_init "PickedMatch") (by decide +kernel)) (hts _ m_X7_init_4cf9d8) (by decide +kernel) ⟨Nat.le_of_ble_eq_true rfl, Nat.le_of_ble_eq_true rfl⟩, rfl, hts _ m_X7_init_eb7688⟩ (pre_s hK hPc hDc hS hG hAB) rfl rfl hl.1 rfl (lv_room (Nat.le_of_ble_eq_true rfl)) dX7_init_42 ⟨Nat.le_of_ble_eq_true rfl, Nat.le_of_ble_eq_true rfl⟩) hS (fun q _ h => hFc q h) hFc (fun u t H1 locs ht hvm hw hB hz1 hk1 hS => ?_)
  obtain ⟨b4, hb4, hP1, hD1⟩ := hB
  rw [ht] at hP1
  subst hb4
  obtain ⟨hP, hD⟩ := va_join (wr := [(h0, .inr (7, [.ref (b1 0), .ref (b2 0), .ref (b3 0), .null, .null, .int 0, .null, .int 0, .null, .null, .null]))] ++ wX2 E b1 st_X2 none ++ wX2 E b2 st_X2 none ++ wX1 E b3 st_X1) (w1 := wX2 E b4 st_X2 none) hP hD [23] [0, 1, 2, 3, 4, 5, 6, 7, 8, 9, 10, 11, 12, 13, 14, 15, 16, 17, 18, 19, 20, 21, 22] rfl rfl (by decide) (by decide) hk1 hFc hP1 hD1
  clear hP1 hD1 hk1 hPc hDc hFc hz1 hw ht
  refine W.widen (k := 29) (n := 256) (Nat.le_of_ble_eq_true rfl) (Nat.le_of_ble_eq_true rfl) ?_
  refine va_putF (ci := 7) (v := .ref (b4 0)) (ty := .object "PickedMatch$Scene") (C := RX7) (T := TX7) (N := 11) hx hb hts i_X7_init_X7 tyX7 tyX7_ok nmX7 hown hK hP hD hS 0 rfl rfl 3 (by decide) (hts _ m_X7_init_ab2d9f) (fun _ h9 => h9) rfl hin rfl (by decide +kernel) rfl rfl (Nat.le_of_ble_eq_true rfl) dX7_init_45 (fun H1 locs hP hD hS => ?_)
  generalize H1 = H at hP hS ⊢
  have hP : va_P E.1 vwCl ([(h0, .inr (7, [.ref (b1 0), .ref (b2 0), .ref (b3 0), .ref (b4 0), .null, .int 0, .null, .int 0, .null, .null, .null]))] ++ wX2 E b1 st_X2 none ++ wX2 E b2 st_X2 none ++ wX1 E b3 st_X1 ++ wX2 E b4 st_X2 none) H := hP
  have hD : va_D A0 ([(h0, .inr (7, [.ref (b1 0), .ref (b2 0), .ref (b3 0), .ref (b4 0), .null, .int 0, .null, .int 0, .null, .null, .null]))] ++ wX2 E b1 st_X2 none ++ wX2 E b2 st_X2 none ++ wX1 E b3 st_X1 ++ wX2 E b4 st_X2 none) := hD
  refine lv_aload_n hx hb dX7_init_48 rfl (lv_at hl 0 rfl) ?_
  refine va_new (ci := 1) (fs := [.null, .null, .null, .int 0, .null, .null, .int 0, .null, .null, .int 0]) (C := RX1) (T := TX1) (N := 10) hx hb hts i_X7_init_X1 tyX1 tyX1_ok hown (hts _ m_X7_init_67a8da) (hts _ m_X7_init_6a68c1) (hts _ m_X7_init_6e074f) hK hP hD hS hA rfl (fun j hj => by rcases (show j = 0 ∨ j = 1 ∨ j = 2 ∨ j = 3 ∨ j = 4 ∨ j = 5 ∨ j = 6 ∨ j = 7 ∨ j = 8 ∨ j = 9 by omega) with rfl | rfl | rfl | rfl | rfl | rfl | rfl | rfl | rfl | rfl <;> rfl) (Nat.le_of_ble_eq_true rfl) (Nat.le_of_ble_eq_true rfl) dX7_init_49 (fun q49 H hP hD hS => ?_)
  refine W.widen (k := 30) (n := 266) (Nat.le_of_ble_eq_true rfl) (Nat.le_of_ble_eq_true rfl) ?_
  refine lv_dup hx hb dX7_init_52 rfl ?_
  have hP : va_P E.1 vwCl ([(h0, .inr (7, [.ref (b1 0), .ref (b2 0), .ref (b3 0), .ref (b4 0), .null, .int 0, .null, .int 0, .null, .null, .null]))] ++ wX2 E b1 st_X2 none ++ wX2 E b2 st_X2 none ++ wX1 E b3 st_X1 ++ wX2 E b4 st_X2 none ++ [(q49, .inr (1, [.null, .null, .null, .int 0, .null, .null, .int 0, .null, .null, .int 0]))]) H := hP
  have hD : va_D A0 ([(h0, .inr (7, [.ref (b1 0), .ref (b2 0), .ref (b3 0), .ref (b4 0), .null, .int 0, .null, .int 0, .null, .null, .null]))] ++ wX2 E b1 st_X2 none ++ wX2 E b2 st_X2 none ++ wX1 E b3 st_X1 ++ wX2 E b4 st_X2 none ++ [(q49, .inr (1, [.null, .null, .null, .int 0, .null, .null, .int 0, .null, .null, .int 0]))]) := hD
  have hPc := hP.sub (ws' := [(q49, .inr (1, [.null, .null, .null, .int 0, .null, .null, .int 0, .null, .null, .int 0]))]) [30] rfl
  have hDc := hD.sub (ws' := [(q49, .inr (1, [.null, .null, .null, .int 0, .null, .null, .int 0, .null, .null, .int 0]))]) [30] (by decide) rfl
  have hFc := va_free (wc := [(q49, .inr (1, [.null, .null, .null, .int 0, .null, .null, .int 0, .null, .null, .int 0]))]) hD hS hA [30] rfl
  refine va_callv (va_runIN (As := []) (rest := [.ref q49, .ref h0]) ⟨hx, hb, hml, hown, hts⟩ (k_X1_init l E q49 _) ⟨va_cnB 0 hts gX7_init_X1_init_n23 rfl rfl rfl (hG.1 (.methodLinkNest "PickedMatch" 23 yX1_init "PickedMatch") (by decide +kernel)) (hts _ m_X7_init_6e074f) (by decide +kernel) ⟨Nat.le_of_ble_eq_true rfl, Nat.le_of_ble_eq_true rfl⟩, rfl, hts _ m_X7_init_696fe5⟩ (pre_s hK hPc hDc hS hG hAB) rfl rfl hl.1 rfl (lv_room (Nat.le_of_ble_eq_true rfl)) dX7_init_53 ⟨Nat.le_of_ble_eq_true rfl, Nat.le_of_ble_eq_true rfl⟩) hS (fun q _ h => hFc q h) hFc (fun u t H1 locs ht hvm hw hB hz1 hk1 hS => ?_)
  obtain ⟨b5, hb5, hP1, hD1⟩ := hB
  rw [ht] at hP1
  subst hb5
  obtain ⟨hP, hD⟩ := va_join (wr := [(h0, .inr (7, [.ref (b1 0), .ref (b2 0), .ref (b3 0), .ref (b4 0), .null, .int 0, .null, .int 0, .null, .null, .null]))] ++ wX2 E b1 st_X2 none ++ wX2 E b2 st_X2 none ++ wX1 E b3 st_X1 ++ wX2 E b4 st_X2 none) (w1 := wX1 E b5 st_X1) hP hD [30] [0, 1, 2, 3, 4, 5, 6, 7, 8, 9, 10, 11, 12, 13, 14, 15, 16, 17, 18, 19, 20, 21, 22, 23, 24, 25, 26, 27, 28, 29] rfl rfl (by decide) (by decide) hk1 hFc hP1 hD1
  clear hP1 hD1 hk1 hPc hDc hFc hz1 hw ht
  refine W.widen (k := 37) (n := 317) (Nat.le_of_ble_eq_true rfl) (Nat.le_of_ble_eq_true rfl) ?_
  refine va_putF (ci := 7) (v := .ref (b5 0)) (ty := .object "PickedMatch$Notes") (C := RX7) (T := TX7) (N := 11) hx hb hts i_X7_init_X7 tyX7 tyX7_ok nmX7 hown hK hP hD hS 0 rfl rfl 4 (by decide) (hts _ m_X7_init_10f301) (fun _ h9 => h9) rfl hin rfl (by decide +kernel) rfl rfl (Nat.le_of_ble_eq_true rfl) dX7_init_56 (fun H1 locs hP hD hS => ?_)
  generalize H1 = H at hP hS ⊢
  have hP : va_P E.1 vwCl ([(h0, .inr (7, [.ref (b1 0), .ref (b2 0), .ref (b3 0), .ref (b4 0), .ref (b5 0), .int 0, .null, .int 0, .null, .null, .null]))] ++ wX2 E b1 st_X2 none ++ wX2 E b2 st_X2 none ++ wX1 E b3 st_X1 ++ wX2 E b4 st_X2 none ++ wX1 E b5 st_X1) H := hP
  have hD : va_D A0 ([(h0, .inr (7, [.ref (b1 0), .ref (b2 0), .ref (b3 0), .ref (b4 0), .ref (b5 0), .int 0, .null, .int 0, .null, .null, .null]))] ++ wX2 E b1 st_X2 none ++ wX2 E b2 st_X2 none ++ wX1 E b3 st_X1 ++ wX2 E b4 st_X2 none ++ wX1 E b5 st_X1) := hD
  refine lv_aload_n hx hb dX7_init_59 rfl (lv_at hl 0 rfl) ?_
  refine va_new (ci := 5) (fs := [.null, .int 0, .null, .int 0, .int 0, .int 0, .int 0, .int 0]) (C := RX5) (T := TX5) (N := 8) hx hb hts i_X7_init_X5 tyX5 tyX5_ok hown (hts _ m_X7_init_42cb1c) (hts _ m_X7_init_0a6186) (hts _ m_X7_init_ba2631) hK hP hD hS hA rfl (fun j hj => by rcases (show j = 0 ∨ j = 1 ∨ j = 2 ∨ j = 3 ∨ j = 4 ∨ j = 5 ∨ j = 6 ∨ j = 7 by omega) with rfl | rfl | rfl | rfl | rfl | rfl | rfl | rfl <;> rfl) (Nat.le_of_ble_eq_true rfl) (Nat.le_of_ble_eq_true rfl) dX7_init_60 (fun q60 H hP hD hS => ?_)
  refine W.widen (k := 38) (n := 325) (Nat.le_of_ble_eq_true rfl) (Nat.le_of_ble_eq_true rfl) ?_
  refine lv_dup hx hb dX7_init_63 rfl ?_
  have hP : va_P E.1 vwCl ([(h0, .inr (7, [.ref (b1 0), .ref (b2 0), .ref (b3 0), .ref (b4 0), .ref (b5 0), .int 0, .null, .int 0, .null, .null, .null]))] ++ wX2 E b1 st_X2 none ++ wX2 E b2 st_X2 none ++ wX1 E b3 st_X1 ++ wX2 E b4 st_X2 none ++ wX1 E b5 st_X1 ++ [(q60, .inr (5, [.null, .int 0, .null, .int 0, .int 0, .int 0, .int 0, .int 0]))]) H := hP
  have hD : va_D A0 ([(h0, .inr (7, [.ref (b1 0), .ref (b2 0), .ref (b3 0), .ref (b4 0), .ref (b5 0), .int 0, .null, .int 0, .null, .null, .null]))] ++ wX2 E b1 st_X2 none ++ wX2 E b2 st_X2 none ++ wX1 E b3 st_X1 ++ wX2 E b4 st_X2 none ++ wX1 E b5 st_X1 ++ [(q60, .inr (5, [.null, .int 0, .null, .int 0, .int 0, .int 0, .int 0, .int 0]))]) := hD
  have hPc := hP.sub (ws' := [(q60, .inr (5, [.null, .int 0, .null, .int 0, .int 0, .int 0, .int 0, .int 0]))]) [38] rfl
  have hDc := hD.sub (ws' := [(q60, .inr (5, [.null, .int 0, .null, .int 0, .int 0, .int 0, .int 0, .int 0]))]) [38] (by decide) rfl
  have hFc := va_free (wc := [(q60, .inr (5, [.null, .int 0, .null, .int 0, .int 0, .int 0, .int 0, .int 0]))]) hD hS hA [38] rfl
  refine va_callv (va_runIN (As := []) (rest := [.ref q60, .ref h0]) ⟨hx, hb, hml, hown, hts⟩ (k_X5_init l E q60 _) ⟨va_cnB 0 hts gX7_init_X5_init_n36 rfl rfl rfl (hG.1 (.methodLinkNest "PickedMatch" 36 yX5_init "PickedMatch") (by decide +kernel)) (hts _ m_X7_init_ba2631) (by decide +kernel) ⟨Nat.le_of_ble_eq_true rfl, Nat.le_of_ble_eq_true rfl⟩, rfl, hts _ m_X7_init_5a52e7⟩ (pre_s hK hPc hDc hS hG hAB) rfl rfl hl.1 rfl (lv_room (Nat.le_of_ble_eq_true rfl)) dX7_init_64 ⟨Nat.le_of_ble_eq_true rfl, Nat.le_of_ble_eq_true rfl⟩) hS (fun q _ h => hFc q h) hFc (fun u t H1 locs ht hvm hw hB hz1 hk1 hS => ?_)
  obtain ⟨b6, hb6, hP1, hD1⟩ := hB
  rw [ht] at hP1
  subst hb6
  obtain ⟨hP, hD⟩ := va_join (wr := [(h0, .inr (7, [.ref (b1 0), .ref (b2 0), .ref (b3 0), .ref (b4 0), .ref (b5 0), .int 0, .null, .int 0, .null, .null, .null]))] ++ wX2 E b1 st_X2 none ++ wX2 E b2 st_X2 none ++ wX1 E b3 st_X1 ++ wX2 E b4 st_X2 none ++ wX1 E b5 st_X1) (w1 := wX5 E b6 st_X5) hP hD [38] [0, 1, 2, 3, 4, 5, 6, 7, 8, 9, 10, 11, 12, 13, 14, 15, 16, 17, 18, 19, 20, 21, 22, 23, 24, 25, 26, 27, 28, 29, 30, 31, 32, 33, 34, 35, 36, 37] rfl rfl (by decide) (by decide) hk1 hFc hP1 hD1
  clear hP1 hD1 hk1 hPc hDc hFc hz1 hw ht
  refine W.widen (k := 40) (n := 525) (Nat.le_of_ble_eq_true rfl) (Nat.le_of_ble_eq_true rfl) ?_
  refine va_putF (ci := 7) (v := .ref (b6 0)) (ty := .object "PickedMatch$StreetReader") (C := RX7) (T := TX7) (N := 11) hx hb hts i_X7_init_X7 tyX7 tyX7_ok nmX7 hown hK hP hD hS 0 rfl rfl 6 (by decide) (hts _ m_X7_init_d00ad8) (fun _ h9 => h9) rfl hin rfl (by decide +kernel) rfl rfl (Nat.le_of_ble_eq_true rfl) dX7_init_67 (fun H1 locs hP hD hS => ?_)
  generalize H1 = H at hP hS ⊢
  have hP : va_P E.1 vwCl ([(h0, .inr (7, [.ref (b1 0), .ref (b2 0), .ref (b3 0), .ref (b4 0), .ref (b5 0), .int 0, .ref (b6 0), .int 0, .null, .null, .null]))] ++ wX2 E b1 st_X2 none ++ wX2 E b2 st_X2 none ++ wX1 E b3 st_X1 ++ wX2 E b4 st_X2 none ++ wX1 E b5 st_X1 ++ wX5 E b6 st_X5) H := hP
  have hD : va_D A0 ([(h0, .inr (7, [.ref (b1 0), .ref (b2 0), .ref (b3 0), .ref (b4 0), .ref (b5 0), .int 0, .ref (b6 0), .int 0, .null, .null, .null]))] ++ wX2 E b1 st_X2 none ++ wX2 E b2 st_X2 none ++ wX1 E b3 st_X1 ++ wX2 E b4 st_X2 none ++ wX1 E b5 st_X1 ++ wX5 E b6 st_X5) := hD
  refine lv_aload_n hx hb dX7_init_70 rfl (lv_at hl 0 rfl) ?_
  refine va_new (ci := 3) (fs := [.null, .null, .int 0, .int 0]) (C := RX3) (T := TX3) (N := 4) hx hb hts i_X7_init_X3 tyX3 tyX3_ok hown (hts _ m_X7_init_c661db) (hts _ m_X7_init_3d085c) (hts _ m_X7_init_7824fe) hK hP hD hS hA rfl (fun j hj => by rcases (show j = 0 ∨ j = 1 ∨ j = 2 ∨ j = 3 by omega) with rfl | rfl | rfl | rfl <;> rfl) (Nat.le_of_ble_eq_true rfl) (Nat.le_of_ble_eq_true rfl) dX7_init_71 (fun q71 H hP hD hS => ?_)
  refine W.widen (k := 41) (n := 529) (Nat.le_of_ble_eq_true rfl) (Nat.le_of_ble_eq_true rfl) ?_
  refine lv_dup hx hb dX7_init_74 rfl ?_
  have hP : va_P E.1 vwCl ([(h0, .inr (7, [.ref (b1 0), .ref (b2 0), .ref (b3 0), .ref (b4 0), .ref (b5 0), .int 0, .ref (b6 0), .int 0, .null, .null, .null]))] ++ wX2 E b1 st_X2 none ++ wX2 E b2 st_X2 none ++ wX1 E b3 st_X1 ++ wX2 E b4 st_X2 none ++ wX1 E b5 st_X1 ++ wX5 E b6 st_X5 ++ [(q71, .inr (3, [.null, .null, .int 0, .int 0]))]) H := hP
  have hD : va_D A0 ([(h0, .inr (7, [.ref (b1 0), .ref (b2 0), .ref (b3 0), .ref (b4 0), .ref (b5 0), .int 0, .ref (b6 0), .int 0, .null, .null, .null]))] ++ wX2 E b1 st_X2 none ++ wX2 E b2 st_X2 none ++ wX1 E b3 st_X1 ++ wX2 E b4 st_X2 none ++ wX1 E b5 st_X1 ++ wX5 E b6 st_X5 ++ [(q71, .inr (3, [.null, .null, .int 0, .int 0]))]) := hD
  have hPc := hP.sub (ws' := [(q71, .inr (3, [.null, .null, .int 0, .int 0]))]) [41] rfl
  have hDc := hD.sub (ws' := [(q71, .inr (3, [.null, .null, .int 0, .int 0]))]) [41] (by decide) rfl
  have hFc := va_free (wc := [(q71, .inr (3, [.null, .null, .int 0, .int 0]))]) hD hS hA [41] rfl
  refine va_callv (va_runIN (As := []) (rest := [.ref q71, .ref h0]) ⟨hx, hb, hml, hown, hts⟩ (k_X3_init l E q71 _) ⟨va_cnB 0 hts gX7_init_X3_init_n43 rfl rfl rfl (hG.1 (.methodLinkNest "PickedMatch" 43 yX3_init "PickedMatch") (by decide +kernel)) (hts _ m_X7_init_7824fe) (by decide +kernel) ⟨Nat.le_of_ble_eq_true rfl, Nat.le_of_ble_eq_true rfl⟩, rfl, hts _ m_X7_init_a282ab⟩ (pre_s hK hPc hDc hS hG hAB) rfl rfl hl.1 rfl (lv_room (Nat.le_of_ble_eq_true rfl)) dX7_init_75 ⟨Nat.le_of_ble_eq_true rfl, Nat.le_of_ble_eq_true rfl⟩) hS (fun q _ h => hFc q h) hFc (fun u t H1 locs ht hvm hw hB hz1 hk1 hS => ?_)
  obtain ⟨b7, hb7, hP1, hD1⟩ := hB
  rw [ht] at hP1
  subst hb7
  obtain ⟨hP, hD⟩ := va_join (wr := [(h0, .inr (7, [.ref (b1 0), .ref (b2 0), .ref (b3 0), .ref (b4 0), .ref (b5 0), .int 0, .ref (b6 0), .int 0, .null, .null, .null]))] ++ wX2 E b1 st_X2 none ++ wX2 E b2 st_X2 none ++ wX1 E b3 st_X1 ++ wX2 E b4 st_X2 none ++ wX1 E b5 st_X1 ++ wX5 E b6 st_X5) (w1 := wX3 E b7 st_X3) hP hD [41] [0, 1, 2, 3, 4, 5, 6, 7, 8, 9, 10, 11, 12, 13, 14, 15, 16, 17, 18, 19, 20, 21, 22, 23, 24, 25, 26, 27, 28, 29, 30, 31, 32, 33, 34, 35, 36, 37, 38, 39, 40] rfl rfl (by decide) (by decide) hk1 hFc hP1 hD1
  clear hP1 hD1 hk1 hPc hDc hFc hz1 hw ht
  refine W.widen (k := 43) (n := 541) (Nat.le_of_ble_eq_true rfl) (Nat.le_of_ble_eq_true rfl) ?_
  refine va_putF (ci := 7) (v := .ref (b7 0)) (ty := .object "PickedMatch$Search") (C := RX7) (T := TX7) (N := 11) hx hb hts i_X7_init_X7 tyX7 tyX7_ok nmX7 hown hK hP hD hS 0 rfl rfl 8 (by decide) (hts _ m_X7_init_4537e5) (fun _ h9 => h9) rfl hin rfl (by decide +kernel) rfl rfl (Nat.le_of_ble_eq_true rfl) dX7_init_78 (fun H1 locs hP hD hS => ?_)
  generalize H1 = H at hP hS ⊢
  have hP : va_P E.1 vwCl ([(h0, .inr (7, [.ref (b1 0), .ref (b2 0), .ref (b3 0), .ref (b4 0), .ref (b5 0), .int 0, .ref (b6 0), .int 0, .ref (b7 0), .null, .null]))] ++ wX2 E b1 st_X2 none ++ wX2 E b2 st_X2 none ++ wX1 E b3 st_X1 ++ wX2 E b4 st_X2 none ++ wX1 E b5 st_X1 ++ wX5 E b6 st_X5 ++ wX3 E b7 st_X3) H := hP
  have hD : va_D A0 ([(h0, .inr (7, [.ref (b1 0), .ref (b2 0), .ref (b3 0), .ref (b4 0), .ref (b5 0), .int 0, .ref (b6 0), .int 0, .ref (b7 0), .null, .null]))] ++ wX2 E b1 st_X2 none ++ wX2 E b2 st_X2 none ++ wX1 E b3 st_X1 ++ wX2 E b4 st_X2 none ++ wX1 E b5 st_X1 ++ wX5 E b6 st_X5 ++ wX3 E b7 st_X3) := hD
  refine lv_aload_n hx hb dX7_init_81 rfl (lv_at hl 0 rfl) ?_
  refine va_new (ci := 0) (fs := [.null, .int 0, .int 0, .int 0, .int 0]) (C := RX0) (T := TX0) (N := 5) hx hb hts i_X7_init_X0 tyX0 tyX0_ok hown (hts _ m_X7_init_83bcbd) (hts _ m_X7_init_5e19bf) (hts _ m_X7_init_a93c50) hK hP hD hS hA rfl (fun j hj => by rcases (show j = 0 ∨ j = 1 ∨ j = 2 ∨ j = 3 ∨ j = 4 by omega) with rfl | rfl | rfl | rfl | rfl <;> rfl) (Nat.le_of_ble_eq_true rfl) (Nat.le_of_ble_eq_true rfl) dX7_init_82 (fun q82 H hP hD hS => ?_)
  refine W.widen (k := 44) (n := 546) (Nat.le_of_ble_eq_true rfl) (Nat.le_of_ble_eq_true rfl) ?_
  refine lv_dup hx hb dX7_init_85 rfl ?_
  have hP : va_P E.1 vwCl ([(h0, .inr (7, [.ref (b1 0), .ref (b2 0), .ref (b3 0), .ref (b4 0), .ref (b5 0), .int 0, .ref (b6 0), .int 0, .ref (b7 0), .null, .null]))] ++ wX2 E b1 st_X2 none ++ wX2 E b2 st_X2 none ++ wX1 E b3 st_X1 ++ wX2 E b4 st_X2 none ++ wX1 E b5 st_X1 ++ wX5 E b6 st_X5 ++ wX3 E b7 st_X3 ++ [(q82, .inr (0, [.null, .int 0, .int 0, .int 0, .int 0]))]) H := hP
  have hD : va_D A0 ([(h0, .inr (7, [.ref (b1 0), .ref (b2 0), .ref (b3 0), .ref (b4 0), .ref (b5 0), .int 0, .ref (b6 0), .int 0, .ref (b7 0), .null, .null]))] ++ wX2 E b1 st_X2 none ++ wX2 E b2 st_X2 none ++ wX1 E b3 st_X1 ++ wX2 E b4 st_X2 none ++ wX1 E b5 st_X1 ++ wX5 E b6 st_X5 ++ wX3 E b7 st_X3 ++ [(q82, .inr (0, [.null, .int 0, .int 0, .int 0, .int 0]))]) := hD
  have hPc := hP.sub (ws' := [(q82, .inr (0, [.null, .int 0, .int 0, .int 0, .int 0]))]) [44] rfl
  have hDc := hD.sub (ws' := [(q82, .inr (0, [.null, .int 0, .int 0, .int 0, .int 0]))]) [44] (by decide) rfl
  have hFc := va_free (wc := [(q82, .inr (0, [.null, .int 0, .int 0, .int 0, .int 0]))]) hD hS hA [44] rfl
  refine va_callv (va_runIN (As := []) (rest := [.ref q82, .ref h0]) ⟨hx, hb, hml, hown, hts⟩ (k_X0_init l E q82 _) ⟨va_cnB 0 hts gX7_init_X0_init_n50 rfl rfl rfl (hG.1 (.methodLinkNest "PickedMatch" 50 yX0_init "PickedMatch") (by decide +kernel)) (hts _ m_X7_init_a93c50) (by decide +kernel) ⟨Nat.le_of_ble_eq_true rfl, Nat.le_of_ble_eq_true rfl⟩, rfl, hts _ m_X7_init_dc1f38⟩ (pre_s hK hPc hDc hS hG hAB) rfl rfl hl.1 rfl (lv_room (Nat.le_of_ble_eq_true rfl)) dX7_init_86 ⟨Nat.le_of_ble_eq_true rfl, Nat.le_of_ble_eq_true rfl⟩) hS (fun q _ h => hFc q h) hFc (fun u t H1 locs ht hvm hw hB hz1 hk1 hS => ?_)
  obtain ⟨b8, hb8, hP1, hD1⟩ := hB
  rw [ht] at hP1
  subst hb8
  obtain ⟨hP, hD⟩ := va_join (wr := [(h0, .inr (7, [.ref (b1 0), .ref (b2 0), .ref (b3 0), .ref (b4 0), .ref (b5 0), .int 0, .ref (b6 0), .int 0, .ref (b7 0), .null, .null]))] ++ wX2 E b1 st_X2 none ++ wX2 E b2 st_X2 none ++ wX1 E b3 st_X1 ++ wX2 E b4 st_X2 none ++ wX1 E b5 st_X1 ++ wX5 E b6 st_X5 ++ wX3 E b7 st_X3) (w1 := wX0 E b8 st_X0) hP hD [44] [0, 1, 2, 3, 4, 5, 6, 7, 8, 9, 10, 11, 12, 13, 14, 15, 16, 17, 18, 19, 20, 21, 22, 23, 24, 25, 26, 27, 28, 29, 30, 31, 32, 33, 34, 35, 36, 37, 38, 39, 40, 41, 42, 43] rfl rfl (by decide) (by decide) hk1 hFc hP1 hD1
  clear hP1 hD1 hk1 hPc hDc hFc hz1 hw ht
  refine W.widen (k := 45) (n := 566) (Nat.le_of_ble_eq_true rfl) (Nat.le_of_ble_eq_true rfl) ?_
  refine va_putF (ci := 7) (v := .ref (b8 0)) (ty := .object "PickedMatch$Acts") (C := RX7) (T := TX7) (N := 11) hx hb hts i_X7_init_X7 tyX7 tyX7_ok nmX7 hown hK hP hD hS 0 rfl rfl 9 (by decide) (hts _ m_X7_init_e811b9) (fun _ h9 => h9) rfl hin rfl (by decide +kernel) rfl rfl (Nat.le_of_ble_eq_true rfl) dX7_init_89 (fun H1 locs hP hD hS => ?_)
  generalize H1 = H at hP hS ⊢
  have hP : va_P E.1 vwCl ([(h0, .inr (7, [.ref (b1 0), .ref (b2 0), .ref (b3 0), .ref (b4 0), .ref (b5 0), .int 0, .ref (b6 0), .int 0, .ref (b7 0), .ref (b8 0), .null]))] ++ wX2 E b1 st_X2 none ++ wX2 E b2 st_X2 none ++ wX1 E b3 st_X1 ++ wX2 E b4 st_X2 none ++ wX1 E b5 st_X1 ++ wX5 E b6 st_X5 ++ wX3 E b7 st_X3 ++ wX0 E b8 st_X0) H := hP
  have hD : va_D A0 ([(h0, .inr (7, [.ref (b1 0), .ref (b2 0), .ref (b3 0), .ref (b4 0), .ref (b5 0), .int 0, .ref (b6 0), .int 0, .ref (b7 0), .ref (b8 0), .null]))] ++ wX2 E b1 st_X2 none ++ wX2 E b2 st_X2 none ++ wX1 E b3 st_X1 ++ wX2 E b4 st_X2 none ++ wX1 E b5 st_X1 ++ wX5 E b6 st_X5 ++ wX3 E b7 st_X3 ++ wX0 E b8 st_X0) := hD
  refine lv_aload_n hx hb dX7_init_92 rfl (lv_at hl 0 rfl) ?_
  refine va_new (ci := 6) (fs := [.null, .null, .null]) (C := RX6) (T := TX6) (N := 3) hx hb hts i_X7_init_X6 tyX6 tyX6_ok hown (hts _ m_X7_init_d9f298) (hts _ m_X7_init_033eb4) (hts _ m_X7_init_4512f1) hK hP hD hS hA rfl (fun j hj => by rcases (show j = 0 ∨ j = 1 ∨ j = 2 by omega) with rfl | rfl | rfl <;> rfl) (Nat.le_of_ble_eq_true rfl) (Nat.le_of_ble_eq_true rfl) dX7_init_93 (fun q93 H hP hD hS => ?_)
  refine W.widen (k := 46) (n := 569) (Nat.le_of_ble_eq_true rfl) (Nat.le_of_ble_eq_true rfl) ?_
  refine lv_dup hx hb dX7_init_96 rfl ?_
  have hP : va_P E.1 vwCl ([(h0, .inr (7, [.ref (b1 0), .ref (b2 0), .ref (b3 0), .ref (b4 0), .ref (b5 0), .int 0, .ref (b6 0), .int 0, .ref (b7 0), .ref (b8 0), .null]))] ++ wX2 E b1 st_X2 none ++ wX2 E b2 st_X2 none ++ wX1 E b3 st_X1 ++ wX2 E b4 st_X2 none ++ wX1 E b5 st_X1 ++ wX5 E b6 st_X5 ++ wX3 E b7 st_X3 ++ wX0 E b8 st_X0 ++ [(q93, .inr (6, [.null, .null, .null]))]) H := hP
  have hD : va_D A0 ([(h0, .inr (7, [.ref (b1 0), .ref (b2 0), .ref (b3 0), .ref (b4 0), .ref (b5 0), .int 0, .ref (b6 0), .int 0, .ref (b7 0), .ref (b8 0), .null]))] ++ wX2 E b1 st_X2 none ++ wX2 E b2 st_X2 none ++ wX1 E b3 st_X1 ++ wX2 E b4 st_X2 none ++ wX1 E b5 st_X1 ++ wX5 E b6 st_X5 ++ wX3 E b7 st_X3 ++ wX0 E b8 st_X0 ++ [(q93, .inr (6, [.null, .null, .null]))]) := hD
  have hPc := hP.sub (ws' := [(q93, .inr (6, [.null, .null, .null]))]) [46] rfl
  have hDc := hD.sub (ws' := [(q93, .inr (6, [.null, .null, .null]))]) [46] (by decide) rfl
  have hFc := va_free (wc := [(q93, .inr (6, [.null, .null, .null]))]) hD hS hA [46] rfl
  refine va_callv (va_runIN (As := []) (rest := [.ref q93, .ref h0]) ⟨hx, hb, hml, hown, hts⟩ (k_X6_init l E q93 _) ⟨va_cnB 0 hts gX7_init_X6_init_n57 rfl rfl rfl (hG.1 (.methodLinkNest "PickedMatch" 57 yX6_init "PickedMatch") (by decide +kernel)) (hts _ m_X7_init_4512f1) (by decide +kernel) ⟨Nat.le_of_ble_eq_true rfl, Nat.le_of_ble_eq_true rfl⟩, rfl, hts _ m_X7_init_69da50⟩ (pre_s hK hPc hDc hS hG hAB) rfl rfl hl.1 rfl (lv_room (Nat.le_of_ble_eq_true rfl)) dX7_init_97 ⟨Nat.le_of_ble_eq_true rfl, Nat.le_of_ble_eq_true rfl⟩) hS (fun q _ h => hFc q h) hFc (fun u t H1 locs ht hvm hw hB hz1 hk1 hS => ?_)
  obtain ⟨b9, hb9, hP1, hD1⟩ := hB
  rw [ht] at hP1
  subst hb9
  obtain ⟨hP, hD⟩ := va_join (wr := [(h0, .inr (7, [.ref (b1 0), .ref (b2 0), .ref (b3 0), .ref (b4 0), .ref (b5 0), .int 0, .ref (b6 0), .int 0, .ref (b7 0), .ref (b8 0), .null]))] ++ wX2 E b1 st_X2 none ++ wX2 E b2 st_X2 none ++ wX1 E b3 st_X1 ++ wX2 E b4 st_X2 none ++ wX1 E b5 st_X1 ++ wX5 E b6 st_X5 ++ wX3 E b7 st_X3 ++ wX0 E b8 st_X0) (w1 := wX6 E b9 st_X6 (fun _ _ => 0)) hP hD [46] [0, 1, 2, 3, 4, 5, 6, 7, 8, 9, 10, 11, 12, 13, 14, 15, 16, 17, 18, 19, 20, 21, 22, 23, 24, 25, 26, 27, 28, 29, 30, 31, 32, 33, 34, 35, 36, 37, 38, 39, 40, 41, 42, 43, 44, 45] rfl rfl (by decide) (by decide) hk1 hFc hP1 hD1
  clear hP1 hD1 hk1 hPc hDc hFc hz1 hw ht
  refine W.widen (k := 49) (n := 941) (Nat.le_of_ble_eq_true rfl) (Nat.le_of_ble_eq_true rfl) ?_
  refine va_putF (ci := 7) (v := .ref (b9 0)) (ty := .object "PickedMatch$Tapes") (C := RX7) (T := TX7) (N := 11) hx hb hts i_X7_init_X7 tyX7 tyX7_ok nmX7 hown hK hP hD hS 0 rfl rfl 10 (by decide) (hts _ m_X7_init_12bc67) (fun _ h9 => h9) rfl hin rfl (by decide +kernel) rfl rfl (Nat.le_of_ble_eq_true rfl) dX7_init_100 (fun H1 locs hP hD hS => ?_)
  generalize H1 = H at hP hS ⊢
  have hP : va_P E.1 vwCl ([(h0, .inr (7, [.ref (b1 0), .ref (b2 0), .ref (b3 0), .ref (b4 0), .ref (b5 0), .int 0, .ref (b6 0), .int 0, .ref (b7 0), .ref (b8 0), .ref (b9 0)]))] ++ wX2 E b1 st_X2 none ++ wX2 E b2 st_X2 none ++ wX1 E b3 st_X1 ++ wX2 E b4 st_X2 none ++ wX1 E b5 st_X1 ++ wX5 E b6 st_X5 ++ wX3 E b7 st_X3 ++ wX0 E b8 st_X0 ++ wX6 E b9 st_X6 (fun _ _ => 0)) H := hP
  have hD : va_D A0 ([(h0, .inr (7, [.ref (b1 0), .ref (b2 0), .ref (b3 0), .ref (b4 0), .ref (b5 0), .int 0, .ref (b6 0), .int 0, .ref (b7 0), .ref (b8 0), .ref (b9 0)]))] ++ wX2 E b1 st_X2 none ++ wX2 E b2 st_X2 none ++ wX1 E b3 st_X1 ++ wX2 E b4 st_X2 none ++ wX1 E b5 st_X1 ++ wX5 E b6 st_X5 ++ wX3 E b7 st_X3 ++ wX0 E b8 st_X0 ++ wX6 E b9 st_X6 (fun _ _ => 0)) := hD
  exact rt_n7 hx hb hr hlocks ⟨fun k => match k with | 0 => (fun _ => h0) | 1 => b1 | 2 => b2 | 3 => b3 | 4 => b4 | 5 => b5 | 6 => b6 | 7 => b7 | 8 => b8 | _ => b9, rfl, hP, hD⟩ hS dX7_init_103
