/-! ===== what the methods compute, and that they do: by program out of the bytecode (wip/gen) ===== -/
abbrev rm_X8_image : Room := { frames := 0, cells := 0, slots := 0, locals := 0 }
theorem m_X8_image_acbb5e : Cond.fieldLink RX8 7 "PickedMatchModel" "things" "I" ∈ wsX8_image := by decide +kernel
theorem i_X8_image_X8 : ∀ w ∈ wsX80, w ∈ wsX8_image := fun _ h => List.mem_cons_of_mem _ (List.mem_append_right _ h)
theorem m_X8_image_f899f1 : Cond.fieldLink RX8 187 "PickedMatchModel" "imageBookThing" "[I" ∈ wsX8_image := by decide +kernel
theorem m_X8_image_a6023e : Cond.fieldLink RX8 129 "PickedMatchModel" "bookThing" "[I" ∈ wsX8_image := by decide +kernel
theorem m_X8_image_138d39 : Cond.fieldLink RX8 190 "PickedMatchModel" "imageBookMarks" "[I" ∈ wsX8_image := by decide +kernel
theorem m_X8_image_b5e8bc : Cond.fieldLink RX8 132 "PickedMatchModel" "bookMarks" "[I" ∈ wsX8_image := by decide +kernel
theorem m_X8_image_a536a2 : Cond.fieldLink RX8 181 "PickedMatchModel" "imageWhat" "[I" ∈ wsX8_image := by decide +kernel
theorem m_X8_image_13b3e6 : Cond.fieldLink RX8 123 "PickedMatchModel" "weekWhat" "[I" ∈ wsX8_image := by decide +kernel
theorem m_X8_image_a5a51c : Cond.fieldLink RX8 184 "PickedMatchModel" "imageNumber" "[I" ∈ wsX8_image := by decide +kernel
theorem m_X8_image_dcf18d : Cond.fieldLink RX8 126 "PickedMatchModel" "weekNumber" "[I" ∈ wsX8_image := by decide +kernel
theorem m_X8_image_dcb1af : Cond.fieldLink RX8 175 "PickedMatchModel" "imageThing" "[I" ∈ wsX8_image := by decide +kernel
theorem m_X8_image_7bcf41 : Cond.fieldLink RX8 108 "PickedMatchModel" "seenThing" "[I" ∈ wsX8_image := by decide +kernel
theorem m_X8_image_831c03 : Cond.fieldLink RX8 193 "PickedMatchModel" "imageSeenHad" "[Z" ∈ wsX8_image := by decide +kernel
theorem m_X8_image_6d0e43 : Cond.fieldLink RX8 114 "PickedMatchModel" "seenHad" "[Z" ∈ wsX8_image := by decide +kernel
theorem m_X8_image_e2e2a2 : Cond.fieldLink RX8 178 "PickedMatchModel" "imageWhen" "[I" ∈ wsX8_image := by decide +kernel
theorem m_X8_image_9b9f00 : Cond.fieldLink RX8 111 "PickedMatchModel" "seenWhen" "[I" ∈ wsX8_image := by decide +kernel
theorem m_X8_image_e6821d : Cond.fieldLink RX8 169 "PickedMatchModel" "imageRows" "[I" ∈ wsX8_image := by decide +kernel
theorem m_X8_image_096e14 : Cond.fieldLink RX8 29 "PickedMatchModel" "rows" "[I" ∈ wsX8_image := by decide +kernel
theorem m_X8_image_406c87 : Cond.fieldLink RX8 160 "PickedMatchModel" "imageKind" "[I" ∈ wsX8_image := by decide +kernel
theorem m_X8_image_275364 : Cond.fieldLink RX8 19 "PickedMatchModel" "kind" "[I" ∈ wsX8_image := by decide +kernel
theorem m_X8_image_a95abf : Cond.fieldLink RX8 163 "PickedMatchModel" "imageV" "[I" ∈ wsX8_image := by decide +kernel
theorem m_X8_image_7b6120 : Cond.fieldLink RX8 23 "PickedMatchModel" "v" "[I" ∈ wsX8_image := by decide +kernel
theorem m_X8_image_cd60a0 : Cond.fieldLink RX8 166 "PickedMatchModel" "imageMarks" "[I" ∈ wsX8_image := by decide +kernel
theorem m_X8_image_fa4c49 : Cond.fieldLink RX8 26 "PickedMatchModel" "marks" "[I" ∈ wsX8_image := by decide +kernel
theorem m_X8_image_3f1fa8 : Cond.fieldLink RX8 172 "PickedMatchModel" "imageOf" "[I" ∈ wsX8_image := by decide +kernel
theorem m_X8_image_ef0124 : Cond.fieldLink RX8 32 "PickedMatchModel" "hadOf" "[I" ∈ wsX8_image := by decide +kernel
theorem m_X8_image_b2d4f5 : Cond.fieldLink RX8 135 "PickedMatchModel" "hasImage" "Z" ∈ wsX8_image := by decide +kernel
theorem m_X8_image_0961c6 : Cond.fieldLink RX8 38 "PickedMatchModel" "the" "I" ∈ wsX8_image := by decide +kernel
theorem m_X8_image_9ebdd7 : Cond.fieldLink RX8 139 "PickedMatchModel" "imageThe" "I" ∈ wsX8_image := by decide +kernel
theorem m_X8_image_aea0e2 : Cond.fieldLink RX8 142 "PickedMatchModel" "imageThings" "I" ∈ wsX8_image := by decide +kernel
theorem m_X8_image_92e5f7 : Cond.fieldLink RX8 13 "PickedMatchModel" "had" "I" ∈ wsX8_image := by decide +kernel
theorem m_X8_image_2a1732 : Cond.fieldLink RX8 145 "PickedMatchModel" "imageHad" "I" ∈ wsX8_image := by decide +kernel
theorem m_X8_image_840104 : Cond.fieldLink RX8 16 "PickedMatchModel" "days" "I" ∈ wsX8_image := by decide +kernel
theorem m_X8_image_00369c : Cond.fieldLink RX8 148 "PickedMatchModel" "imageDays" "I" ∈ wsX8_image := by decide +kernel
theorem m_X8_image_36ca5e : Cond.fieldLink RX8 105 "PickedMatchModel" "seen" "I" ∈ wsX8_image := by decide +kernel
theorem m_X8_image_83e4e9 : Cond.fieldLink RX8 151 "PickedMatchModel" "imageSeen" "I" ∈ wsX8_image := by decide +kernel
theorem m_X8_image_4ca6a4 : Cond.fieldLink RX8 117 "PickedMatchModel" "weeks" "I" ∈ wsX8_image := by decide +kernel
theorem m_X8_image_91a6da : Cond.fieldLink RX8 154 "PickedMatchModel" "imageWeeks" "I" ∈ wsX8_image := by decide +kernel
theorem m_X8_image_87408b : Cond.fieldLink RX8 120 "PickedMatchModel" "books" "I" ∈ wsX8_image := by decide +kernel
theorem m_X8_image_d95658 : Cond.fieldLink RX8 157 "PickedMatchModel" "imageBooks" "I" ∈ wsX8_image := by decide +kernel
set_option maxHeartbeats 8000000 in
set_option maxRecDepth 100000 in
theorem k_X8_image (l : Launch) (E : Ev) (a0 : Nat → Nat) (N : Nat) (s0 : St) (t0 : Nat → Nat → Int64) (q : (Int32 × St)) (hf : f_X8_image N s0 = some q) : Ci l yX8_image wsX8_image rm_X8_image E [.ref (a0 0)] (wX8 E a0 s0 t0) (wX8 E a0 q.2 t0) q.1 := by
  unfold f_X8_image at hf
  intro sz
  refine Met.ofW (cc := cX8_image) (maxL := 2) (ret := (some .int)) (by decide) rfl ?_
  intro p e s m args below meth c s₁ B hml hv
  obtain ⟨rfl, hsz, hP, hK, hD0, hG, hA, hAB⟩ := start hv
  have hx := B.exec
  have hb := B.bytes
  have hr := B.returns
  have hts := atoms_spec (ws := wsX8_image) B.pre
  have hown : s.vm.findClass RX8 = some m.cls := findClass_of_methodNamed B.named
  have hlocks := B.notSynchronized
  subst hsz
  generalize va_A (wX8 E a0 s0 t0) s.heap.size = A0 at hD0 hA hAB ⊢
  have hDD : ∀ (s0 : St) (t0 : Nat → Nat → Int64), va_D A0 (wX8 E a0 s0 t0) := fun s0 t0 => vD_addr hD0 rfl
  have hS : va_S A0 s.heap s.heap [] := va_S.rf
  have hl := lv_entry ([.ref (a0 0)]) (n := 2) (Nat.le_of_ble_eq_true rfl)
  rw [lg_entry_eq]
  generalize (lg_sl ([.ref (a0 0)]) ++ List.replicate (2 - (lg_sl ([.ref (a0 0)])).length) Slot.unset).toArray = ls at hl ⊢
  have hl : lv_has ls 2 [(0, .ref (a0 0))] := hl
  have hL_238 : ∀ (n_238 : Nat) (s0 : St) (v1 : Int32), l_X8_image_238 N n_238 s0 v1 = some q → ∀ (H : Heap) (locs : List Loc) (ls : Array Slot), va_P E.1 vwCl (wX8 E a0 s0 t0) H → va_S A0 s.heap H locs → lv_has ls 2 [(0, .ref (a0 0)), (1, .int v1)] → W p l e rm_X8_image s m ([.ref (a0 0)] : List Value).toArray below meth c H locs 0 0 (MQ below (va_Qi (fun (r' : Int32) (_ : Unit) => r' = q.1) (fun _ t => va_P E.1 vwCl (wX8 E a0 q.2 t0) t.heap) A0) ([.ref (a0 0)] : List Value).toArray s 0 0 A0) (F0 m 238 ls []) := by
    intro n_238
    induction n_238 with
    | zero => intro s0 v1 hf; rw [l_X8_image_238] at hf; cases hf
    | succ n_238 ih_238 =>
      intro s0 v1 hf H locs ls hP hS hl
      rw [l_X8_image_238] at hf
      refine lv_iload_n hx hb dX8_image_238 rfl (lv_at hl 1 rfl) ?_
      refine lv_bipush (v := 8) hx hb dX8_image_239 (by decide) ?_
      refine lv_icmp_ge (tgt := 274) hx hb dX8_image_241 (by decide) (fun c_241 => ?_) (fun c_241 => ?_)
      · have hf := ite_t c_241 hf
        refine lv_aload_n hx hb dX8_image_274 rfl (lv_at hl 0 rfl) ?_
        refine va_get (ci := 8) (C := RX8) (T := TX8) (N := 67) (v := .int (s0 0 0)) hx hb hts i_X8_image_X8 hown hK hP 0 rfl rfl 0 (by decide) (hts _ m_X8_image_acbb5e) (fun _ h9 => h9) rfl dX8_image_275 ?_
        have e9 := Option.some.inj hf
        exact rt_i hx hb hr hlocks (fst_e e9) (rtP (P := fun z => va_P E.1 vwCl (wX8 E a0 z.2 t0) H) e9 hP) hS dX8_image_278
      · have hf := ite_f c_241 hf
        refine lv_aload_n hx hb dX8_image_244 rfl (lv_at hl 0 rfl) ?_
        refine va_get (ci := 8) (C := RX8) (T := TX8) (N := 67) (v := .ref (a0 35)) hx hb hts i_X8_image_X8 hown hK hP 0 rfl rfl 58 (by decide) (hts _ m_X8_image_f899f1) (fun _ h9 => h9) rfl dX8_image_245 ?_
        refine lv_iload_n hx hb dX8_image_248 rfl (lv_at hl 1 rfl) ?_
        refine lv_aload_n hx hb dX8_image_249 rfl (lv_at hl 0 rfl) ?_
        refine va_get (ci := 8) (C := RX8) (T := TX8) (N := 67) (v := .ref (a0 24)) hx hb hts i_X8_image_X8 hown hK hP 0 rfl rfl 39 (by decide) (hts _ m_X8_image_a6023e) (fun _ h9 => h9) rfl dX8_image_250 ?_
        refine lv_iload_n hx hb dX8_image_253 rfl (lv_at hl 1 rfl) ?_
        obtain ⟨h_254, hf⟩ := ck_e hf
        refine va_iald (cA := E.2.1) (n := 8) (f := s0 39) hx hb hK hP 24 0 rfl rfl h_254 dX8_image_254 ?_
        obtain ⟨h_255, hf⟩ := ck_e hf
        refine va_iast (cA := E.2.1) (n := 8) (f := s0 58) (x := s0 39 v1.toNatClampNeg) hx hb hK hP (hDD s0 t0) hS 35 0 rfl rfl h_255 dX8_image_255 (fun H locs hP _ hS => ?_)
        obtain ⟨s0_255, hP, hf⟩ := nm_st' (P := fun z => va_P E.1 vwCl (wX8 E a0 z t0) H) hf hP
        refine lv_aload_n hx hb dX8_image_256 rfl (lv_at hl 0 rfl) ?_
        refine va_get (ci := 8) (C := RX8) (T := TX8) (N := 67) (v := .ref (a0 36)) hx hb hts i_X8_image_X8 hown hK hP 0 rfl rfl 59 (by decide) (hts _ m_X8_image_138d39) (fun _ h9 => h9) rfl dX8_image_257 ?_
        refine lv_iload_n hx hb dX8_image_260 rfl (lv_at hl 1 rfl) ?_
        refine lv_aload_n hx hb dX8_image_261 rfl (lv_at hl 0 rfl) ?_
        refine va_get (ci := 8) (C := RX8) (T := TX8) (N := 67) (v := .ref (a0 25)) hx hb hts i_X8_image_X8 hown hK hP 0 rfl rfl 40 (by decide) (hts _ m_X8_image_b5e8bc) (fun _ h9 => h9) rfl dX8_image_262 ?_
        refine lv_iload_n hx hb dX8_image_265 rfl (lv_at hl 1 rfl) ?_
        obtain ⟨h_266, hf⟩ := ck_e hf
        refine va_iald (cA := E.2.1) (n := 8) (f := s0_255 40) hx hb hK hP 25 0 rfl rfl h_266 dX8_image_266 ?_
        obtain ⟨h_267, hf⟩ := ck_e hf
        refine va_iast (cA := E.2.1) (n := 8) (f := s0_255 59) (x := s0_255 40 v1.toNatClampNeg) hx hb hK hP (hDD s0_255 t0) hS 36 0 rfl rfl h_267 dX8_image_267 (fun H locs hP _ hS => ?_)
        obtain ⟨s0_267, hP, hf⟩ := nm_st' (P := fun z => va_P E.1 vwCl (wX8 E a0 z t0) H) hf hP
        obtain ⟨x268, e_x268⟩ : ∃ y : Int32, y = v1 + 1 := ⟨_, rfl⟩
        have hf := nm_q e_x268 hf
        refine lv_iinc (v := x268) (lv' := [(1, .int x268), (0, .ref (a0 0))]) hx hb dX8_image_268 hl (k := 1) rfl (by rw [e_x268]; rfl) (Nat.le_of_ble_eq_true rfl) rfl (fun ls hl => ?_)
        refine lv_goto (tgt := 238) hx hb dX8_image_271 (by decide) ?_
        exact ih_238 s0_267 x268 hf _ _ _ hP hS (lv_sub hl [1, 0] rfl)
  have hL_200 : ∀ (n_200 : Nat) (s0 : St) (v1 : Int32), l_X8_image_200 N n_200 s0 v1 = some q → ∀ (H : Heap) (locs : List Loc) (ls : Array Slot), va_P E.1 vwCl (wX8 E a0 s0 t0) H → va_S A0 s.heap H locs → lv_has ls 2 [(0, .ref (a0 0)), (1, .int v1)] → W p l e rm_X8_image s m ([.ref (a0 0)] : List Value).toArray below meth c H locs 0 0 (MQ below (va_Qi (fun (r' : Int32) (_ : Unit) => r' = q.1) (fun _ t => va_P E.1 vwCl (wX8 E a0 q.2 t0) t.heap) A0) ([.ref (a0 0)] : List Value).toArray s 0 0 A0) (F0 m 200 ls []) := by
    intro n_200
    induction n_200 with
    | zero => intro s0 v1 hf; rw [l_X8_image_200] at hf; cases hf
    | succ n_200 ih_200 =>
      intro s0 v1 hf H locs ls hP hS hl
      rw [l_X8_image_200] at hf
      refine lv_iload_n hx hb dX8_image_200 rfl (lv_at hl 1 rfl) ?_
      refine lv_bipush (v := 10) hx hb dX8_image_201 (by decide) ?_
      refine lv_icmp_ge (tgt := 236) hx hb dX8_image_203 (by decide) (fun c_203 => ?_) (fun c_203 => ?_)
      · have hf := ite_t c_203 hf
        refine lv_iconst (v := 0) hx hb dX8_image_236 (by decide) ?_
        refine lv_istore_n (lv' := [(1, .int 0), (0, .ref (a0 0))]) hx hb dX8_image_237 rfl hl (Nat.le_of_ble_eq_true rfl) rfl (fun ls hl => ?_)
        exact hL_238 N s0 0 hf _ _ _ hP hS (lv_sub hl [1, 0] rfl)
      · have hf := ite_f c_203 hf
        refine lv_aload_n hx hb dX8_image_206 rfl (lv_at hl 0 rfl) ?_
        refine va_get (ci := 8) (C := RX8) (T := TX8) (N := 67) (v := .ref (a0 33)) hx hb hts i_X8_image_X8 hown hK hP 0 rfl rfl 56 (by decide) (hts _ m_X8_image_a536a2) (fun _ h9 => h9) rfl dX8_image_207 ?_
        refine lv_iload_n hx hb dX8_image_210 rfl (lv_at hl 1 rfl) ?_
        refine lv_aload_n hx hb dX8_image_211 rfl (lv_at hl 0 rfl) ?_
        refine va_get (ci := 8) (C := RX8) (T := TX8) (N := 67) (v := .ref (a0 22)) hx hb hts i_X8_image_X8 hown hK hP 0 rfl rfl 37 (by decide) (hts _ m_X8_image_13b3e6) (fun _ h9 => h9) rfl dX8_image_212 ?_
        refine lv_iload_n hx hb dX8_image_215 rfl (lv_at hl 1 rfl) ?_
        obtain ⟨h_216, hf⟩ := ck_e hf
        refine va_iald (cA := E.2.1) (n := 10) (f := s0 37) hx hb hK hP 22 0 rfl rfl h_216 dX8_image_216 ?_
        obtain ⟨h_217, hf⟩ := ck_e hf
        refine va_iast (cA := E.2.1) (n := 10) (f := s0 56) (x := s0 37 v1.toNatClampNeg) hx hb hK hP (hDD s0 t0) hS 33 0 rfl rfl h_217 dX8_image_217 (fun H locs hP _ hS => ?_)
        obtain ⟨s0_217, hP, hf⟩ := nm_st' (P := fun z => va_P E.1 vwCl (wX8 E a0 z t0) H) hf hP
        refine lv_aload_n hx hb dX8_image_218 rfl (lv_at hl 0 rfl) ?_
        refine va_get (ci := 8) (C := RX8) (T := TX8) (N := 67) (v := .ref (a0 34)) hx hb hts i_X8_image_X8 hown hK hP 0 rfl rfl 57 (by decide) (hts _ m_X8_image_a5a51c) (fun _ h9 => h9) rfl dX8_image_219 ?_
        refine lv_iload_n hx hb dX8_image_222 rfl (lv_at hl 1 rfl) ?_
        refine lv_aload_n hx hb dX8_image_223 rfl (lv_at hl 0 rfl) ?_
        refine va_get (ci := 8) (C := RX8) (T := TX8) (N := 67) (v := .ref (a0 23)) hx hb hts i_X8_image_X8 hown hK hP 0 rfl rfl 38 (by decide) (hts _ m_X8_image_dcf18d) (fun _ h9 => h9) rfl dX8_image_224 ?_
        refine lv_iload_n hx hb dX8_image_227 rfl (lv_at hl 1 rfl) ?_
        obtain ⟨h_228, hf⟩ := ck_e hf
        refine va_iald (cA := E.2.1) (n := 10) (f := s0_217 38) hx hb hK hP 23 0 rfl rfl h_228 dX8_image_228 ?_
        obtain ⟨h_229, hf⟩ := ck_e hf
        refine va_iast (cA := E.2.1) (n := 10) (f := s0_217 57) (x := s0_217 38 v1.toNatClampNeg) hx hb hK hP (hDD s0_217 t0) hS 34 0 rfl rfl h_229 dX8_image_229 (fun H locs hP _ hS => ?_)
        obtain ⟨s0_229, hP, hf⟩ := nm_st' (P := fun z => va_P E.1 vwCl (wX8 E a0 z t0) H) hf hP
        obtain ⟨x230, e_x230⟩ : ∃ y : Int32, y = v1 + 1 := ⟨_, rfl⟩
        have hf := nm_q e_x230 hf
        refine lv_iinc (v := x230) (lv' := [(1, .int x230), (0, .ref (a0 0))]) hx hb dX8_image_230 hl (k := 1) rfl (by rw [e_x230]; rfl) (Nat.le_of_ble_eq_true rfl) rfl (fun ls hl => ?_)
        refine lv_goto (tgt := 200) hx hb dX8_image_233 (by decide) ?_
        exact ih_200 s0_229 x230 hf _ _ _ hP hS (lv_sub hl [1, 0] rfl)
  have hL_151 : ∀ (n_151 : Nat) (s0 : St) (v1 : Int32), l_X8_image_151 N n_151 s0 v1 = some q → ∀ (H : Heap) (locs : List Loc) (ls : Array Slot), va_P E.1 vwCl (wX8 E a0 s0 t0) H → va_S A0 s.heap H locs → lv_has ls 2 [(0, .ref (a0 0)), (1, .int v1)] → W p l e rm_X8_image s m ([.ref (a0 0)] : List Value).toArray below meth c H locs 0 0 (MQ below (va_Qi (fun (r' : Int32) (_ : Unit) => r' = q.1) (fun _ t => va_P E.1 vwCl (wX8 E a0 q.2 t0) t.heap) A0) ([.ref (a0 0)] : List Value).toArray s 0 0 A0) (F0 m 151 ls []) := by
    intro n_151
    induction n_151 with
    | zero => intro s0 v1 hf; rw [l_X8_image_151] at hf; cases hf
    | succ n_151 ih_151 =>
      intro s0 v1 hf H locs ls hP hS hl
      rw [l_X8_image_151] at hf
      refine lv_iload_n hx hb dX8_image_151 rfl (lv_at hl 1 rfl) ?_
      refine lv_iconst (v := 5) hx hb dX8_image_152 (by decide) ?_
      refine lv_icmp_ge (tgt := 198) hx hb dX8_image_153 (by decide) (fun c_153 => ?_) (fun c_153 => ?_)
      · have hf := ite_t c_153 hf
        refine lv_iconst (v := 0) hx hb dX8_image_198 (by decide) ?_
        refine lv_istore_n (lv' := [(1, .int 0), (0, .ref (a0 0))]) hx hb dX8_image_199 rfl hl (Nat.le_of_ble_eq_true rfl) rfl (fun ls hl => ?_)
        exact hL_200 N s0 0 hf _ _ _ hP hS (lv_sub hl [1, 0] rfl)
      · have hf := ite_f c_153 hf
        refine lv_aload_n hx hb dX8_image_156 rfl (lv_at hl 0 rfl) ?_
        refine va_get (ci := 8) (C := RX8) (T := TX8) (N := 67) (v := .ref (a0 31)) hx hb hts i_X8_image_X8 hown hK hP 0 rfl rfl 54 (by decide) (hts _ m_X8_image_dcb1af) (fun _ h9 => h9) rfl dX8_image_157 ?_
        refine lv_iload_n hx hb dX8_image_160 rfl (lv_at hl 1 rfl) ?_
        refine lv_aload_n hx hb dX8_image_161 rfl (lv_at hl 0 rfl) ?_
        refine va_get (ci := 8) (C := RX8) (T := TX8) (N := 67) (v := .ref (a0 19)) hx hb hts i_X8_image_X8 hown hK hP 0 rfl rfl 32 (by decide) (hts _ m_X8_image_7bcf41) (fun _ h9 => h9) rfl dX8_image_162 ?_
        refine lv_iload_n hx hb dX8_image_165 rfl (lv_at hl 1 rfl) ?_
        obtain ⟨h_166, hf⟩ := ck_e hf
        refine va_iald (cA := E.2.1) (n := 5) (f := s0 32) hx hb hK hP 19 0 rfl rfl h_166 dX8_image_166 ?_
        obtain ⟨h_167, hf⟩ := ck_e hf
        refine va_iast (cA := E.2.1) (n := 5) (f := s0 54) (x := s0 32 v1.toNatClampNeg) hx hb hK hP (hDD s0 t0) hS 31 0 rfl rfl h_167 dX8_image_167 (fun H locs hP _ hS => ?_)
        obtain ⟨s0_167, hP, hf⟩ := nm_st' (P := fun z => va_P E.1 vwCl (wX8 E a0 z t0) H) hf hP
        refine lv_aload_n hx hb dX8_image_168 rfl (lv_at hl 0 rfl) ?_
        refine va_get (ci := 8) (C := RX8) (T := TX8) (N := 67) (v := .ref (a0 37)) hx hb hts i_X8_image_X8 hown hK hP 0 rfl rfl 60 (by decide) (hts _ m_X8_image_831c03) (fun _ h9 => h9) rfl dX8_image_169 ?_
        refine lv_iload_n hx hb dX8_image_172 rfl (lv_at hl 1 rfl) ?_
        refine lv_aload_n hx hb dX8_image_173 rfl (lv_at hl 0 rfl) ?_
        refine va_get (ci := 8) (C := RX8) (T := TX8) (N := 67) (v := .ref (a0 21)) hx hb hts i_X8_image_X8 hown hK hP 0 rfl rfl 34 (by decide) (hts _ m_X8_image_6d0e43) (fun _ h9 => h9) rfl dX8_image_174 ?_
        refine lv_iload_n hx hb dX8_image_177 rfl (lv_at hl 1 rfl) ?_
        obtain ⟨h_178, hf⟩ := ck_e hf
        refine va_zald (cA := E.2.2.2.1) (n := 5) (f := s0_167 34) hx hb hK hP 21 2 rfl rfl h_178 dX8_image_178 ?_
        obtain ⟨h_179, hf⟩ := ck_e hf
        refine va_zast (cA := E.2.2.2.1) (n := 5) (f := s0_167 60) (x := s0_167 34 v1.toNatClampNeg) hx hb hK hP (hDD s0_167 t0) hS 37 2 rfl rfl h_179 dX8_image_179 (fun H locs hP _ hS => ?_)
        obtain ⟨s0_179, hP, hf⟩ := nm_st' (P := fun z => va_P E.1 vwCl (wX8 E a0 z t0) H) hf hP
        refine lv_aload_n hx hb dX8_image_180 rfl (lv_at hl 0 rfl) ?_
        refine va_get (ci := 8) (C := RX8) (T := TX8) (N := 67) (v := .ref (a0 32)) hx hb hts i_X8_image_X8 hown hK hP 0 rfl rfl 55 (by decide) (hts _ m_X8_image_e2e2a2) (fun _ h9 => h9) rfl dX8_image_181 ?_
        refine lv_iload_n hx hb dX8_image_184 rfl (lv_at hl 1 rfl) ?_
        refine lv_aload_n hx hb dX8_image_185 rfl (lv_at hl 0 rfl) ?_
        refine va_get (ci := 8) (C := RX8) (T := TX8) (N := 67) (v := .ref (a0 20)) hx hb hts i_X8_image_X8 hown hK hP 0 rfl rfl 33 (by decide) (hts _ m_X8_image_9b9f00) (fun _ h9 => h9) rfl dX8_image_186 ?_
        refine lv_iload_n hx hb dX8_image_189 rfl (lv_at hl 1 rfl) ?_
        obtain ⟨h_190, hf⟩ := ck_e hf
        refine va_iald (cA := E.2.1) (n := 5) (f := s0_179 33) hx hb hK hP 20 0 rfl rfl h_190 dX8_image_190 ?_
        obtain ⟨h_191, hf⟩ := ck_e hf
        refine va_iast (cA := E.2.1) (n := 5) (f := s0_179 55) (x := s0_179 33 v1.toNatClampNeg) hx hb hK hP (hDD s0_179 t0) hS 32 0 rfl rfl h_191 dX8_image_191 (fun H locs hP _ hS => ?_)
        obtain ⟨s0_191, hP, hf⟩ := nm_st' (P := fun z => va_P E.1 vwCl (wX8 E a0 z t0) H) hf hP
        obtain ⟨x192, e_x192⟩ : ∃ y : Int32, y = v1 + 1 := ⟨_, rfl⟩
        have hf := nm_q e_x192 hf
        refine lv_iinc (v := x192) (lv' := [(1, .int x192), (0, .ref (a0 0))]) hx hb dX8_image_192 hl (k := 1) rfl (by rw [e_x192]; rfl) (Nat.le_of_ble_eq_true rfl) rfl (fun ls hl => ?_)
        refine lv_goto (tgt := 151) hx hb dX8_image_195 (by decide) ?_
        exact ih_151 s0_191 x192 hf _ _ _ hP hS (lv_sub hl [1, 0] rfl)
  have hL_125 : ∀ (n_125 : Nat) (s0 : St) (v1 : Int32), l_X8_image_125 N n_125 s0 v1 = some q → ∀ (H : Heap) (locs : List Loc) (ls : Array Slot), va_P E.1 vwCl (wX8 E a0 s0 t0) H → va_S A0 s.heap H locs → lv_has ls 2 [(0, .ref (a0 0)), (1, .int v1)] → W p l e rm_X8_image s m ([.ref (a0 0)] : List Value).toArray below meth c H locs 0 0 (MQ below (va_Qi (fun (r' : Int32) (_ : Unit) => r' = q.1) (fun _ t => va_P E.1 vwCl (wX8 E a0 q.2 t0) t.heap) A0) ([.ref (a0 0)] : List Value).toArray s 0 0 A0) (F0 m 125 ls []) := by
    intro n_125
    induction n_125 with
    | zero => intro s0 v1 hf; rw [l_X8_image_125] at hf; cases hf
    | succ n_125 ih_125 =>
      intro s0 v1 hf H locs ls hP hS hl
      rw [l_X8_image_125] at hf
      refine lv_iload_n hx hb dX8_image_125 rfl (lv_at hl 1 rfl) ?_
      refine lv_bipush (v := 24) hx hb dX8_image_126 (by decide) ?_
      refine lv_icmp_ge (tgt := 149) hx hb dX8_image_128 (by decide) (fun c_128 => ?_) (fun c_128 => ?_)
      · have hf := ite_t c_128 hf
        refine lv_iconst (v := 0) hx hb dX8_image_149 (by decide) ?_
        refine lv_istore_n (lv' := [(1, .int 0), (0, .ref (a0 0))]) hx hb dX8_image_150 rfl hl (Nat.le_of_ble_eq_true rfl) rfl (fun ls hl => ?_)
        exact hL_151 N s0 0 hf _ _ _ hP hS (lv_sub hl [1, 0] rfl)
      · have hf := ite_f c_128 hf
        refine lv_aload_n hx hb dX8_image_131 rfl (lv_at hl 0 rfl) ?_
        refine va_get (ci := 8) (C := RX8) (T := TX8) (N := 67) (v := .ref (a0 29)) hx hb hts i_X8_image_X8 hown hK hP 0 rfl rfl 52 (by decide) (hts _ m_X8_image_e6821d) (fun _ h9 => h9) rfl dX8_image_132 ?_
        refine lv_iload_n hx hb dX8_image_135 rfl (lv_at hl 1 rfl) ?_
        refine lv_aload_n hx hb dX8_image_136 rfl (lv_at hl 0 rfl) ?_
        refine va_get (ci := 8) (C := RX8) (T := TX8) (N := 67) (v := .ref (a0 4)) hx hb hts i_X8_image_X8 hown hK hP 0 rfl rfl 6 (by decide) (hts _ m_X8_image_096e14) (fun _ h9 => h9) rfl dX8_image_137 ?_
        refine lv_iload_n hx hb dX8_image_140 rfl (lv_at hl 1 rfl) ?_
        obtain ⟨h_141, hf⟩ := ck_e hf
        refine va_iald (cA := E.2.1) (n := 24) (f := s0 6) hx hb hK hP 4 0 rfl rfl h_141 dX8_image_141 ?_
        obtain ⟨h_142, hf⟩ := ck_e hf
        refine va_iast (cA := E.2.1) (n := 24) (f := s0 52) (x := s0 6 v1.toNatClampNeg) hx hb hK hP (hDD s0 t0) hS 29 0 rfl rfl h_142 dX8_image_142 (fun H locs hP _ hS => ?_)
        obtain ⟨s0_142, hP, hf⟩ := nm_st' (P := fun z => va_P E.1 vwCl (wX8 E a0 z t0) H) hf hP
        obtain ⟨x143, e_x143⟩ : ∃ y : Int32, y = v1 + 1 := ⟨_, rfl⟩
        have hf := nm_q e_x143 hf
        refine lv_iinc (v := x143) (lv' := [(1, .int x143), (0, .ref (a0 0))]) hx hb dX8_image_143 hl (k := 1) rfl (by rw [e_x143]; rfl) (Nat.le_of_ble_eq_true rfl) rfl (fun ls hl => ?_)
        refine lv_goto (tgt := 125) hx hb dX8_image_146 (by decide) ?_
        exact ih_125 s0_142 x143 hf _ _ _ hP hS (lv_sub hl [1, 0] rfl)
  have hL_63 : ∀ (n_63 : Nat) (s0 : St) (v1 : Int32), l_X8_image_63 N n_63 s0 v1 = some q → ∀ (H : Heap) (locs : List Loc) (ls : Array Slot), va_P E.1 vwCl (wX8 E a0 s0 t0) H → va_S A0 s.heap H locs → lv_has ls 2 [(0, .ref (a0 0)), (1, .int v1)] → W p l e rm_X8_image s m ([.ref (a0 0)] : List Value).toArray below meth c H locs 0 0 (MQ below (va_Qi (fun (r' : Int32) (_ : Unit) => r' = q.1) (fun _ t => va_P E.1 vwCl (wX8 E a0 q.2 t0) t.heap) A0) ([.ref (a0 0)] : List Value).toArray s 0 0 A0) (F0 m 63 ls []) := by
    intro n_63
    induction n_63 with
    | zero => intro s0 v1 hf; rw [l_X8_image_63] at hf; cases hf
    | succ n_63 ih_63 =>
      intro s0 v1 hf H locs ls hP hS hl
      rw [l_X8_image_63] at hf
      refine lv_iload_n hx hb dX8_image_63 rfl (lv_at hl 1 rfl) ?_
      refine lv_bipush (v := 6) hx hb dX8_image_64 (by decide) ?_
      refine lv_icmp_ge (tgt := 123) hx hb dX8_image_66 (by decide) (fun c_66 => ?_) (fun c_66 => ?_)
      · have hf := ite_t c_66 hf
        refine lv_iconst (v := 0) hx hb dX8_image_123 (by decide) ?_
        refine lv_istore_n (lv' := [(1, .int 0), (0, .ref (a0 0))]) hx hb dX8_image_124 rfl hl (Nat.le_of_ble_eq_true rfl) rfl (fun ls hl => ?_)
        exact hL_125 N s0 0 hf _ _ _ hP hS (lv_sub hl [1, 0] rfl)
      · have hf := ite_f c_66 hf
        refine lv_aload_n hx hb dX8_image_69 rfl (lv_at hl 0 rfl) ?_
        refine va_get (ci := 8) (C := RX8) (T := TX8) (N := 67) (v := .ref (a0 26)) hx hb hts i_X8_image_X8 hown hK hP 0 rfl rfl 49 (by decide) (hts _ m_X8_image_406c87) (fun _ h9 => h9) rfl dX8_image_70 ?_
        refine lv_iload_n hx hb dX8_image_73 rfl (lv_at hl 1 rfl) ?_
        refine lv_aload_n hx hb dX8_image_74 rfl (lv_at hl 0 rfl) ?_
        refine va_get (ci := 8) (C := RX8) (T := TX8) (N := 67) (v := .ref (a0 1)) hx hb hts i_X8_image_X8 hown hK hP 0 rfl rfl 3 (by decide) (hts _ m_X8_image_275364) (fun _ h9 => h9) rfl dX8_image_75 ?_
        refine lv_iload_n hx hb dX8_image_78 rfl (lv_at hl 1 rfl) ?_
        obtain ⟨h_79, hf⟩ := ck_e hf
        refine va_iald (cA := E.2.1) (n := 6) (f := s0 3) hx hb hK hP 1 0 rfl rfl h_79 dX8_image_79 ?_
        obtain ⟨h_80, hf⟩ := ck_e hf
        refine va_iast (cA := E.2.1) (n := 6) (f := s0 49) (x := s0 3 v1.toNatClampNeg) hx hb hK hP (hDD s0 t0) hS 26 0 rfl rfl h_80 dX8_image_80 (fun H locs hP _ hS => ?_)
        obtain ⟨s0_80, hP, hf⟩ := nm_st' (P := fun z => va_P E.1 vwCl (wX8 E a0 z t0) H) hf hP
        refine lv_aload_n hx hb dX8_image_81 rfl (lv_at hl 0 rfl) ?_
        refine va_get (ci := 8) (C := RX8) (T := TX8) (N := 67) (v := .ref (a0 27)) hx hb hts i_X8_image_X8 hown hK hP 0 rfl rfl 50 (by decide) (hts _ m_X8_image_a95abf) (fun _ h9 => h9) rfl dX8_image_82 ?_
        refine lv_iload_n hx hb dX8_image_85 rfl (lv_at hl 1 rfl) ?_
        refine lv_aload_n hx hb dX8_image_86 rfl (lv_at hl 0 rfl) ?_
        refine va_get (ci := 8) (C := RX8) (T := TX8) (N := 67) (v := .ref (a0 2)) hx hb hts i_X8_image_X8 hown hK hP 0 rfl rfl 4 (by decide) (hts _ m_X8_image_7b6120) (fun _ h9 => h9) rfl dX8_image_87 ?_
        refine lv_iload_n hx hb dX8_image_90 rfl (lv_at hl 1 rfl) ?_
        obtain ⟨h_91, hf⟩ := ck_e hf
        refine va_iald (cA := E.2.1) (n := 6) (f := s0_80 4) hx hb hK hP 2 0 rfl rfl h_91 dX8_image_91 ?_
        obtain ⟨h_92, hf⟩ := ck_e hf
        refine va_iast (cA := E.2.1) (n := 6) (f := s0_80 50) (x := s0_80 4 v1.toNatClampNeg) hx hb hK hP (hDD s0_80 t0) hS 27 0 rfl rfl h_92 dX8_image_92 (fun H locs hP _ hS => ?_)
        obtain ⟨s0_92, hP, hf⟩ := nm_st' (P := fun z => va_P E.1 vwCl (wX8 E a0 z t0) H) hf hP
        refine lv_aload_n hx hb dX8_image_93 rfl (lv_at hl 0 rfl) ?_
        refine va_get (ci := 8) (C := RX8) (T := TX8) (N := 67) (v := .ref (a0 28)) hx hb hts i_X8_image_X8 hown hK hP 0 rfl rfl 51 (by decide) (hts _ m_X8_image_cd60a0) (fun _ h9 => h9) rfl dX8_image_94 ?_
        refine lv_iload_n hx hb dX8_image_97 rfl (lv_at hl 1 rfl) ?_
        refine lv_aload_n hx hb dX8_image_98 rfl (lv_at hl 0 rfl) ?_
        refine va_get (ci := 8) (C := RX8) (T := TX8) (N := 67) (v := .ref (a0 3)) hx hb hts i_X8_image_X8 hown hK hP 0 rfl rfl 5 (by decide) (hts _ m_X8_image_fa4c49) (fun _ h9 => h9) rfl dX8_image_99 ?_
        refine lv_iload_n hx hb dX8_image_102 rfl (lv_at hl 1 rfl) ?_
        obtain ⟨h_103, hf⟩ := ck_e hf
        refine va_iald (cA := E.2.1) (n := 6) (f := s0_92 5) hx hb hK hP 3 0 rfl rfl h_103 dX8_image_103 ?_
        obtain ⟨h_104, hf⟩ := ck_e hf
        refine va_iast (cA := E.2.1) (n := 6) (f := s0_92 51) (x := s0_92 5 v1.toNatClampNeg) hx hb hK hP (hDD s0_92 t0) hS 28 0 rfl rfl h_104 dX8_image_104 (fun H locs hP _ hS => ?_)
        obtain ⟨s0_104, hP, hf⟩ := nm_st' (P := fun z => va_P E.1 vwCl (wX8 E a0 z t0) H) hf hP
        refine lv_aload_n hx hb dX8_image_105 rfl (lv_at hl 0 rfl) ?_
        refine va_get (ci := 8) (C := RX8) (T := TX8) (N := 67) (v := .ref (a0 30)) hx hb hts i_X8_image_X8 hown hK hP 0 rfl rfl 53 (by decide) (hts _ m_X8_image_3f1fa8) (fun _ h9 => h9) rfl dX8_image_106 ?_
        refine lv_iload_n hx hb dX8_image_109 rfl (lv_at hl 1 rfl) ?_
        refine lv_aload_n hx hb dX8_image_110 rfl (lv_at hl 0 rfl) ?_
        refine va_get (ci := 8) (C := RX8) (T := TX8) (N := 67) (v := .ref (a0 5)) hx hb hts i_X8_image_X8 hown hK hP 0 rfl rfl 7 (by decide) (hts _ m_X8_image_ef0124) (fun _ h9 => h9) rfl dX8_image_111 ?_
        refine lv_iload_n hx hb dX8_image_114 rfl (lv_at hl 1 rfl) ?_
        obtain ⟨h_115, hf⟩ := ck_e hf
        refine va_iald (cA := E.2.1) (n := 6) (f := s0_104 7) hx hb hK hP 5 0 rfl rfl h_115 dX8_image_115 ?_
        obtain ⟨h_116, hf⟩ := ck_e hf
        refine va_iast (cA := E.2.1) (n := 6) (f := s0_104 53) (x := s0_104 7 v1.toNatClampNeg) hx hb hK hP (hDD s0_104 t0) hS 30 0 rfl rfl h_116 dX8_image_116 (fun H locs hP _ hS => ?_)
        obtain ⟨s0_116, hP, hf⟩ := nm_st' (P := fun z => va_P E.1 vwCl (wX8 E a0 z t0) H) hf hP
        obtain ⟨x117, e_x117⟩ : ∃ y : Int32, y = v1 + 1 := ⟨_, rfl⟩
        have hf := nm_q e_x117 hf
        refine lv_iinc (v := x117) (lv' := [(1, .int x117), (0, .ref (a0 0))]) hx hb dX8_image_117 hl (k := 1) rfl (by rw [e_x117]; rfl) (Nat.le_of_ble_eq_true rfl) rfl (fun ls hl => ?_)
        refine lv_goto (tgt := 63) hx hb dX8_image_120 (by decide) ?_
        exact ih_63 s0_116 x117 hf _ _ _ hP hS (lv_sub hl [1, 0] rfl)
  refine lv_aload_n hx hb dX8_image_0 rfl (lv_at hl 0 rfl) ?_
  refine lv_iconst (v := 1) hx hb dX8_image_1 (by decide) ?_
  refine va_put (ci := 8) (v := .int 1) (ty := .boolean) (C := RX8) (T := TX8) (N := 67) hx hb hts i_X8_image_X8 tyX8 tyX8_ok nmX8 hown hK hP (hDD s0 t0) hS 0 rfl rfl 41 (by decide) (hts _ m_X8_image_b2d4f5) (fun _ h9 => h9) rfl (by decide +kernel) rfl rfl (Nat.le_of_ble_eq_true rfl) dX8_image_2 (fun H locs hP _ hS => ?_)
  obtain ⟨s0_2, hP, hf⟩ := nm_st' (P := fun z => va_P E.1 vwCl (wX8 E a0 z t0) H) hf hP
  refine lv_aload_n hx hb dX8_image_5 rfl (lv_at hl 0 rfl) ?_
  refine lv_aload_n hx hb dX8_image_6 rfl (lv_at hl 0 rfl) ?_
  refine va_get (ci := 8) (C := RX8) (T := TX8) (N := 67) (v := .int (s0_2 9 0)) hx hb hts i_X8_image_X8 hown hK hP 0 rfl rfl 9 (by decide) (hts _ m_X8_image_0961c6) (fun _ h9 => h9) rfl dX8_image_7 ?_
  refine va_put (ci := 8) (v := .int (s0_2 9 0)) (ty := .int) (C := RX8) (T := TX8) (N := 67) hx hb hts i_X8_image_X8 tyX8 tyX8_ok nmX8 hown hK hP (hDD s0_2 t0) hS 0 rfl rfl 42 (by decide) (hts _ m_X8_image_9ebdd7) (fun _ h9 => h9) rfl (by decide +kernel) rfl rfl (Nat.le_of_ble_eq_true rfl) dX8_image_10 (fun H locs hP _ hS => ?_)
  obtain ⟨s0_10, hP, hf⟩ := nm_st' (P := fun z => va_P E.1 vwCl (wX8 E a0 z t0) H) hf hP
  refine lv_aload_n hx hb dX8_image_13 rfl (lv_at hl 0 rfl) ?_
  refine lv_aload_n hx hb dX8_image_14 rfl (lv_at hl 0 rfl) ?_
  refine va_get (ci := 8) (C := RX8) (T := TX8) (N := 67) (v := .int (s0_10 0 0)) hx hb hts i_X8_image_X8 hown hK hP 0 rfl rfl 0 (by decide) (hts _ m_X8_image_acbb5e) (fun _ h9 => h9) rfl dX8_image_15 ?_
  refine va_put (ci := 8) (v := .int (s0_10 0 0)) (ty := .int) (C := RX8) (T := TX8) (N := 67) hx hb hts i_X8_image_X8 tyX8 tyX8_ok nmX8 hown hK hP (hDD s0_10 t0) hS 0 rfl rfl 43 (by decide) (hts _ m_X8_image_aea0e2) (fun _ h9 => h9) rfl (by decide +kernel) rfl rfl (Nat.le_of_ble_eq_true rfl) dX8_image_18 (fun H locs hP _ hS => ?_)
  obtain ⟨s0_18, hP, hf⟩ := nm_st' (P := fun z => va_P E.1 vwCl (wX8 E a0 z t0) H) hf hP
  refine lv_aload_n hx hb dX8_image_21 rfl (lv_at hl 0 rfl) ?_
  refine lv_aload_n hx hb dX8_image_22 rfl (lv_at hl 0 rfl) ?_
  refine va_get (ci := 8) (C := RX8) (T := TX8) (N := 67) (v := .int (s0_18 1 0)) hx hb hts i_X8_image_X8 hown hK hP 0 rfl rfl 1 (by decide) (hts _ m_X8_image_92e5f7) (fun _ h9 => h9) rfl dX8_image_23 ?_
  refine va_put (ci := 8) (v := .int (s0_18 1 0)) (ty := .int) (C := RX8) (T := TX8) (N := 67) hx hb hts i_X8_image_X8 tyX8 tyX8_ok nmX8 hown hK hP (hDD s0_18 t0) hS 0 rfl rfl 44 (by decide) (hts _ m_X8_image_2a1732) (fun _ h9 => h9) rfl (by decide +kernel) rfl rfl (Nat.le_of_ble_eq_true rfl) dX8_image_26 (fun H locs hP _ hS => ?_)
  obtain ⟨s0_26, hP, hf⟩ := nm_st' (P := fun z => va_P E.1 vwCl (wX8 E a0 z t0) H) hf hP
  refine lv_aload_n hx hb dX8_image_29 rfl (lv_at hl 0 rfl) ?_
  refine lv_aload_n hx hb dX8_image_30 rfl (lv_at hl 0 rfl) ?_
  refine va_get (ci := 8) (C := RX8) (T := TX8) (N := 67) (v := .int (s0_26 2 0)) hx hb hts i_X8_image_X8 hown hK hP 0 rfl rfl 2 (by decide) (hts _ m_X8_image_840104) (fun _ h9 => h9) rfl dX8_image_31 ?_
  refine va_put (ci := 8) (v := .int (s0_26 2 0)) (ty := .int) (C := RX8) (T := TX8) (N := 67) hx hb hts i_X8_image_X8 tyX8 tyX8_ok nmX8 hown hK hP (hDD s0_26 t0) hS 0 rfl rfl 45 (by decide) (hts _ m_X8_image_00369c) (fun _ h9 => h9) rfl (by decide +kernel) rfl rfl (Nat.le_of_ble_eq_true rfl) dX8_image_34 (fun H locs hP _ hS => ?_)
  obtain ⟨s0_34, hP, hf⟩ := nm_st' (P := fun z => va_P E.1 vwCl (wX8 E a0 z t0) H) hf hP
  refine lv_aload_n hx hb dX8_image_37 rfl (lv_at hl 0 rfl) ?_
  refine lv_aload_n hx hb dX8_image_38 rfl (lv_at hl 0 rfl) ?_
  refine va_get (ci := 8) (C := RX8) (T := TX8) (N := 67) (v := .int (s0_34 31 0)) hx hb hts i_X8_image_X8 hown hK hP 0 rfl rfl 31 (by decide) (hts _ m_X8_image_36ca5e) (fun _ h9 => h9) rfl dX8_image_39 ?_
  refine va_put (ci := 8) (v := .int (s0_34 31 0)) (ty := .int) (C := RX8) (T := TX8) (N := 67) hx hb hts i_X8_image_X8 tyX8 tyX8_ok nmX8 hown hK hP (hDD s0_34 t0) hS 0 rfl rfl 46 (by decide) (hts _ m_X8_image_83e4e9) (fun _ h9 => h9) rfl (by decide +kernel) rfl rfl (Nat.le_of_ble_eq_true rfl) dX8_image_42 (fun H locs hP _ hS => ?_)
  obtain ⟨s0_42, hP, hf⟩ := nm_st' (P := fun z => va_P E.1 vwCl (wX8 E a0 z t0) H) hf hP
  refine lv_aload_n hx hb dX8_image_45 rfl (lv_at hl 0 rfl) ?_
  refine lv_aload_n hx hb dX8_image_46 rfl (lv_at hl 0 rfl) ?_
  refine va_get (ci := 8) (C := RX8) (T := TX8) (N := 67) (v := .int (s0_42 35 0)) hx hb hts i_X8_image_X8 hown hK hP 0 rfl rfl 35 (by decide) (hts _ m_X8_image_4ca6a4) (fun _ h9 => h9) rfl dX8_image_47 ?_
  refine va_put (ci := 8) (v := .int (s0_42 35 0)) (ty := .int) (C := RX8) (T := TX8) (N := 67) hx hb hts i_X8_image_X8 tyX8 tyX8_ok nmX8 hown hK hP (hDD s0_42 t0) hS 0 rfl rfl 47 (by decide) (hts _ m_X8_image_91a6da) (fun _ h9 => h9) rfl (by decide +kernel) rfl rfl (Nat.le_of_ble_eq_true rfl) dX8_image_50 (fun H locs hP _ hS => ?_)
  obtain ⟨s0_50, hP, hf⟩ := nm_st' (P := fun z => va_P E.1 vwCl (wX8 E a0 z t0) H) hf hP
  refine lv_aload_n hx hb dX8_image_53 rfl (lv_at hl 0 rfl) ?_
  refine lv_aload_n hx hb dX8_image_54 rfl (lv_at hl 0 rfl) ?_
  refine va_get (ci := 8) (C := RX8) (T := TX8) (N := 67) (v := .int (s0_50 36 0)) hx hb hts i_X8_image_X8 hown hK hP 0 rfl rfl 36 (by decide) (hts _ m_X8_image_87408b) (fun _ h9 => h9) rfl dX8_image_55 ?_
  refine va_put (ci := 8) (v := .int (s0_50 36 0)) (ty := .int) (C := RX8) (T := TX8) (N := 67) hx hb hts i_X8_image_X8 tyX8 tyX8_ok nmX8 hown hK hP (hDD s0_50 t0) hS 0 rfl rfl 48 (by decide) (hts _ m_X8_image_d95658) (fun _ h9 => h9) rfl (by decide +kernel) rfl rfl (Nat.le_of_ble_eq_true rfl) dX8_image_58 (fun H locs hP _ hS => ?_)
  obtain ⟨s0_58, hP, hf⟩ := nm_st' (P := fun z => va_P E.1 vwCl (wX8 E a0 z t0) H) hf hP
  refine lv_iconst (v := 0) hx hb dX8_image_61 (by decide) ?_
  refine lv_istore_n (lv' := [(1, .int 0), (0, .ref (a0 0))]) hx hb dX8_image_62 rfl hl (Nat.le_of_ble_eq_true rfl) rfl (fun ls hl => ?_)
  exact hL_63 N s0_58 0 hf _ _ _ hP hS (lv_sub hl [1, 0] rfl)
abbrev rm_X8_undo : Room := { frames := 0, cells := 0, slots := 0, locals := 0 }
theorem m_X8_undo_acbb5e : Cond.fieldLink RX8 7 "PickedMatchModel" "things" "I" ∈ wsX8_undo := by decide +kernel
theorem i_X8_undo_X8 : ∀ w ∈ wsX80, w ∈ wsX8_undo := fun _ h => List.mem_cons_of_mem _ (List.mem_append_right _ h)
theorem m_X8_undo_a6023e : Cond.fieldLink RX8 129 "PickedMatchModel" "bookThing" "[I" ∈ wsX8_undo := by decide +kernel
theorem m_X8_undo_f899f1 : Cond.fieldLink RX8 187 "PickedMatchModel" "imageBookThing" "[I" ∈ wsX8_undo := by decide +kernel
theorem m_X8_undo_b5e8bc : Cond.fieldLink RX8 132 "PickedMatchModel" "bookMarks" "[I" ∈ wsX8_undo := by decide +kernel
theorem m_X8_undo_138d39 : Cond.fieldLink RX8 190 "PickedMatchModel" "imageBookMarks" "[I" ∈ wsX8_undo := by decide +kernel
theorem m_X8_undo_13b3e6 : Cond.fieldLink RX8 123 "PickedMatchModel" "weekWhat" "[I" ∈ wsX8_undo := by decide +kernel
theorem m_X8_undo_a536a2 : Cond.fieldLink RX8 181 "PickedMatchModel" "imageWhat" "[I" ∈ wsX8_undo := by decide +kernel
theorem m_X8_undo_dcf18d : Cond.fieldLink RX8 126 "PickedMatchModel" "weekNumber" "[I" ∈ wsX8_undo := by decide +kernel
theorem m_X8_undo_a5a51c : Cond.fieldLink RX8 184 "PickedMatchModel" "imageNumber" "[I" ∈ wsX8_undo := by decide +kernel
theorem m_X8_undo_7bcf41 : Cond.fieldLink RX8 108 "PickedMatchModel" "seenThing" "[I" ∈ wsX8_undo := by decide +kernel
theorem m_X8_undo_dcb1af : Cond.fieldLink RX8 175 "PickedMatchModel" "imageThing" "[I" ∈ wsX8_undo := by decide +kernel
theorem m_X8_undo_6d0e43 : Cond.fieldLink RX8 114 "PickedMatchModel" "seenHad" "[Z" ∈ wsX8_undo := by decide +kernel
theorem m_X8_undo_831c03 : Cond.fieldLink RX8 193 "PickedMatchModel" "imageSeenHad" "[Z" ∈ wsX8_undo := by decide +kernel
theorem m_X8_undo_9b9f00 : Cond.fieldLink RX8 111 "PickedMatchModel" "seenWhen" "[I" ∈ wsX8_undo := by decide +kernel
theorem m_X8_undo_e2e2a2 : Cond.fieldLink RX8 178 "PickedMatchModel" "imageWhen" "[I" ∈ wsX8_undo := by decide +kernel
theorem m_X8_undo_096e14 : Cond.fieldLink RX8 29 "PickedMatchModel" "rows" "[I" ∈ wsX8_undo := by decide +kernel
theorem m_X8_undo_e6821d : Cond.fieldLink RX8 169 "PickedMatchModel" "imageRows" "[I" ∈ wsX8_undo := by decide +kernel
theorem m_X8_undo_275364 : Cond.fieldLink RX8 19 "PickedMatchModel" "kind" "[I" ∈ wsX8_undo := by decide +kernel
theorem m_X8_undo_406c87 : Cond.fieldLink RX8 160 "PickedMatchModel" "imageKind" "[I" ∈ wsX8_undo := by decide +kernel
theorem m_X8_undo_7b6120 : Cond.fieldLink RX8 23 "PickedMatchModel" "v" "[I" ∈ wsX8_undo := by decide +kernel
theorem m_X8_undo_a95abf : Cond.fieldLink RX8 163 "PickedMatchModel" "imageV" "[I" ∈ wsX8_undo := by decide +kernel
theorem m_X8_undo_fa4c49 : Cond.fieldLink RX8 26 "PickedMatchModel" "marks" "[I" ∈ wsX8_undo := by decide +kernel
theorem m_X8_undo_cd60a0 : Cond.fieldLink RX8 166 "PickedMatchModel" "imageMarks" "[I" ∈ wsX8_undo := by decide +kernel
theorem m_X8_undo_ef0124 : Cond.fieldLink RX8 32 "PickedMatchModel" "hadOf" "[I" ∈ wsX8_undo := by decide +kernel
theorem m_X8_undo_3f1fa8 : Cond.fieldLink RX8 172 "PickedMatchModel" "imageOf" "[I" ∈ wsX8_undo := by decide +kernel
theorem m_X8_undo_b2d4f5 : Cond.fieldLink RX8 135 "PickedMatchModel" "hasImage" "Z" ∈ wsX8_undo := by decide +kernel
theorem m_X8_undo_9ebdd7 : Cond.fieldLink RX8 139 "PickedMatchModel" "imageThe" "I" ∈ wsX8_undo := by decide +kernel
theorem m_X8_undo_0961c6 : Cond.fieldLink RX8 38 "PickedMatchModel" "the" "I" ∈ wsX8_undo := by decide +kernel
theorem m_X8_undo_aea0e2 : Cond.fieldLink RX8 142 "PickedMatchModel" "imageThings" "I" ∈ wsX8_undo := by decide +kernel
theorem m_X8_undo_2a1732 : Cond.fieldLink RX8 145 "PickedMatchModel" "imageHad" "I" ∈ wsX8_undo := by decide +kernel
theorem m_X8_undo_92e5f7 : Cond.fieldLink RX8 13 "PickedMatchModel" "had" "I" ∈ wsX8_undo := by decide +kernel
theorem m_X8_undo_00369c : Cond.fieldLink RX8 148 "PickedMatchModel" "imageDays" "I" ∈ wsX8_undo := by decide +kernel
theorem m_X8_undo_840104 : Cond.fieldLink RX8 16 "PickedMatchModel" "days" "I" ∈ wsX8_undo := by decide +kernel
theorem m_X8_undo_83e4e9 : Cond.fieldLink RX8 151 "PickedMatchModel" "imageSeen" "I" ∈ wsX8_undo := by decide +kernel
theorem m_X8_undo_36ca5e : Cond.fieldLink RX8 105 "PickedMatchModel" "seen" "I" ∈ wsX8_undo := by decide +kernel
theorem m_X8_undo_91a6da : Cond.fieldLink RX8 154 "PickedMatchModel" "imageWeeks" "I" ∈ wsX8_undo := by decide +kernel
theorem m_X8_undo_4ca6a4 : Cond.fieldLink RX8 117 "PickedMatchModel" "weeks" "I" ∈ wsX8_undo := by decide +kernel
theorem m_X8_undo_d95658 : Cond.fieldLink RX8 157 "PickedMatchModel" "imageBooks" "I" ∈ wsX8_undo := by decide +kernel
theorem m_X8_undo_87408b : Cond.fieldLink RX8 120 "PickedMatchModel" "books" "I" ∈ wsX8_undo := by decide +kernel
set_option maxHeartbeats 8000000 in
set_option maxRecDepth 100000 in
theorem k_X8_undo (l : Launch) (E : Ev) (a0 : Nat → Nat) (N : Nat) (s0 : St) (t0 : Nat → Nat → Int64) (q : (Int32 × St)) (hf : f_X8_undo N s0 = some q) : Ci l yX8_undo wsX8_undo rm_X8_undo E [.ref (a0 0)] (wX8 E a0 s0 t0) (wX8 E a0 q.2 t0) q.1 := by
  unfold f_X8_undo at hf
  intro sz
  refine Met.ofW (cc := cX8_undo) (maxL := 2) (ret := (some .int)) (by decide) rfl ?_
  intro p e s m args below meth c s₁ B hml hv
  obtain ⟨rfl, hsz, hP, hK, hD0, hG, hA, hAB⟩ := start hv
  have hx := B.exec
  have hb := B.bytes
  have hr := B.returns
  have hts := atoms_spec (ws := wsX8_undo) B.pre
  have hown : s.vm.findClass RX8 = some m.cls := findClass_of_methodNamed B.named
  have hlocks := B.notSynchronized
  subst hsz
  generalize va_A (wX8 E a0 s0 t0) s.heap.size = A0 at hD0 hA hAB ⊢
  have hDD : ∀ (s0 : St) (t0 : Nat → Nat → Int64), va_D A0 (wX8 E a0 s0 t0) := fun s0 t0 => vD_addr hD0 rfl
  have hS : va_S A0 s.heap s.heap [] := va_S.rf
  have hl := lv_entry ([.ref (a0 0)]) (n := 2) (Nat.le_of_ble_eq_true rfl)
  rw [lg_entry_eq]
  generalize (lg_sl ([.ref (a0 0)]) ++ List.replicate (2 - (lg_sl ([.ref (a0 0)])).length) Slot.unset).toArray = ls at hl ⊢
  have hl : lv_has ls 2 [(0, .ref (a0 0))] := hl
  have hL_243 : ∀ (n_243 : Nat) (s0 : St) (v1 : Int32), l_X8_undo_243 N n_243 s0 v1 = some q → ∀ (H : Heap) (locs : List Loc) (ls : Array Slot), va_P E.1 vwCl (wX8 E a0 s0 t0) H → va_S A0 s.heap H locs → lv_has ls 2 [(0, .ref (a0 0)), (1, .int v1)] → W p l e rm_X8_undo s m ([.ref (a0 0)] : List Value).toArray below meth c H locs 0 0 (MQ below (va_Qi (fun (r' : Int32) (_ : Unit) => r' = q.1) (fun _ t => va_P E.1 vwCl (wX8 E a0 q.2 t0) t.heap) A0) ([.ref (a0 0)] : List Value).toArray s 0 0 A0) (F0 m 243 ls []) := by
    intro n_243
    induction n_243 with
    | zero => intro s0 v1 hf; rw [l_X8_undo_243] at hf; cases hf
    | succ n_243 ih_243 =>
      intro s0 v1 hf H locs ls hP hS hl
      rw [l_X8_undo_243] at hf
      refine lv_iload_n hx hb dX8_undo_243 rfl (lv_at hl 1 rfl) ?_
      refine lv_bipush (v := 8) hx hb dX8_undo_244 (by decide) ?_
      refine lv_icmp_ge (tgt := 279) hx hb dX8_undo_246 (by decide) (fun c_246 => ?_) (fun c_246 => ?_)
      · have hf := ite_t c_246 hf
        refine lv_aload_n hx hb dX8_undo_279 rfl (lv_at hl 0 rfl) ?_
        refine va_get (ci := 8) (C := RX8) (T := TX8) (N := 67) (v := .int (s0 0 0)) hx hb hts i_X8_undo_X8 hown hK hP 0 rfl rfl 0 (by decide) (hts _ m_X8_undo_acbb5e) (fun _ h9 => h9) rfl dX8_undo_280 ?_
        have e9 := Option.some.inj hf
        exact rt_i hx hb hr hlocks (fst_e e9) (rtP (P := fun z => va_P E.1 vwCl (wX8 E a0 z.2 t0) H) e9 hP) hS dX8_undo_283
      · have hf := ite_f c_246 hf
        refine lv_aload_n hx hb dX8_undo_249 rfl (lv_at hl 0 rfl) ?_
        refine va_get (ci := 8) (C := RX8) (T := TX8) (N := 67) (v := .ref (a0 24)) hx hb hts i_X8_undo_X8 hown hK hP 0 rfl rfl 39 (by decide) (hts _ m_X8_undo_a6023e) (fun _ h9 => h9) rfl dX8_undo_250 ?_
        refine lv_iload_n hx hb dX8_undo_253 rfl (lv_at hl 1 rfl) ?_
        refine lv_aload_n hx hb dX8_undo_254 rfl (lv_at hl 0 rfl) ?_
        refine va_get (ci := 8) (C := RX8) (T := TX8) (N := 67) (v := .ref (a0 35)) hx hb hts i_X8_undo_X8 hown hK hP 0 rfl rfl 58 (by decide) (hts _ m_X8_undo_f899f1) (fun _ h9 => h9) rfl dX8_undo_255 ?_
        refine lv_iload_n hx hb dX8_undo_258 rfl (lv_at hl 1 rfl) ?_
        obtain ⟨h_259, hf⟩ := ck_e hf
        refine va_iald (cA := E.2.1) (n := 8) (f := s0 58) hx hb hK hP 35 0 rfl rfl h_259 dX8_undo_259 ?_
        obtain ⟨h_260, hf⟩ := ck_e hf
        refine va_iast (cA := E.2.1) (n := 8) (f := s0 39) (x := s0 58 v1.toNatClampNeg) hx hb hK hP (hDD s0 t0) hS 24 0 rfl rfl h_260 dX8_undo_260 (fun H locs hP _ hS => ?_)
        obtain ⟨s0_260, hP, hf⟩ := nm_st' (P := fun z => va_P E.1 vwCl (wX8 E a0 z t0) H) hf hP
        refine lv_aload_n hx hb dX8_undo_261 rfl (lv_at hl 0 rfl) ?_
        refine va_get (ci := 8) (C := RX8) (T := TX8) (N := 67) (v := .ref (a0 25)) hx hb hts i_X8_undo_X8 hown hK hP 0 rfl rfl 40 (by decide) (hts _ m_X8_undo_b5e8bc) (fun _ h9 => h9) rfl dX8_undo_262 ?_
        refine lv_iload_n hx hb dX8_undo_265 rfl (lv_at hl 1 rfl) ?_
        refine lv_aload_n hx hb dX8_undo_266 rfl (lv_at hl 0 rfl) ?_
        refine va_get (ci := 8) (C := RX8) (T := TX8) (N := 67) (v := .ref (a0 36)) hx hb hts i_X8_undo_X8 hown hK hP 0 rfl rfl 59 (by decide) (hts _ m_X8_undo_138d39) (fun _ h9 => h9) rfl dX8_undo_267 ?_
        refine lv_iload_n hx hb dX8_undo_270 rfl (lv_at hl 1 rfl) ?_
        obtain ⟨h_271, hf⟩ := ck_e hf
        refine va_iald (cA := E.2.1) (n := 8) (f := s0_260 59) hx hb hK hP 36 0 rfl rfl h_271 dX8_undo_271 ?_
        obtain ⟨h_272, hf⟩ := ck_e hf
        refine va_iast (cA := E.2.1) (n := 8) (f := s0_260 40) (x := s0_260 59 v1.toNatClampNeg) hx hb hK hP (hDD s0_260 t0) hS 25 0 rfl rfl h_272 dX8_undo_272 (fun H locs hP _ hS => ?_)
        obtain ⟨s0_272, hP, hf⟩ := nm_st' (P := fun z => va_P E.1 vwCl (wX8 E a0 z t0) H) hf hP
        obtain ⟨x273, e_x273⟩ : ∃ y : Int32, y = v1 + 1 := ⟨_, rfl⟩
        have hf := nm_q e_x273 hf
        refine lv_iinc (v := x273) (lv' := [(1, .int x273), (0, .ref (a0 0))]) hx hb dX8_undo_273 hl (k := 1) rfl (by rw [e_x273]; rfl) (Nat.le_of_ble_eq_true rfl) rfl (fun ls hl => ?_)
        refine lv_goto (tgt := 243) hx hb dX8_undo_276 (by decide) ?_
        exact ih_243 s0_272 x273 hf _ _ _ hP hS (lv_sub hl [1, 0] rfl)
  have hL_205 : ∀ (n_205 : Nat) (s0 : St) (v1 : Int32), l_X8_undo_205 N n_205 s0 v1 = some q → ∀ (H : Heap) (locs : List Loc) (ls : Array Slot), va_P E.1 vwCl (wX8 E a0 s0 t0) H → va_S A0 s.heap H locs → lv_has ls 2 [(0, .ref (a0 0)), (1, .int v1)] → W p l e rm_X8_undo s m ([.ref (a0 0)] : List Value).toArray below meth c H locs 0 0 (MQ below (va_Qi (fun (r' : Int32) (_ : Unit) => r' = q.1) (fun _ t => va_P E.1 vwCl (wX8 E a0 q.2 t0) t.heap) A0) ([.ref (a0 0)] : List Value).toArray s 0 0 A0) (F0 m 205 ls []) := by
    intro n_205
    induction n_205 with
    | zero => intro s0 v1 hf; rw [l_X8_undo_205] at hf; cases hf
    | succ n_205 ih_205 =>
      intro s0 v1 hf H locs ls hP hS hl
      rw [l_X8_undo_205] at hf
      refine lv_iload_n hx hb dX8_undo_205 rfl (lv_at hl 1 rfl) ?_
      refine lv_bipush (v := 10) hx hb dX8_undo_206 (by decide) ?_
      refine lv_icmp_ge (tgt := 241) hx hb dX8_undo_208 (by decide) (fun c_208 => ?_) (fun c_208 => ?_)
      · have hf := ite_t c_208 hf
        refine lv_iconst (v := 0) hx hb dX8_undo_241 (by decide) ?_
        refine lv_istore_n (lv' := [(1, .int 0), (0, .ref (a0 0))]) hx hb dX8_undo_242 rfl hl (Nat.le_of_ble_eq_true rfl) rfl (fun ls hl => ?_)
        exact hL_243 N s0 0 hf _ _ _ hP hS (lv_sub hl [1, 0] rfl)
      · have hf := ite_f c_208 hf
        refine lv_aload_n hx hb dX8_undo_211 rfl (lv_at hl 0 rfl) ?_
        refine va_get (ci := 8) (C := RX8) (T := TX8) (N := 67) (v := .ref (a0 22)) hx hb hts i_X8_undo_X8 hown hK hP 0 rfl rfl 37 (by decide) (hts _ m_X8_undo_13b3e6) (fun _ h9 => h9) rfl dX8_undo_212 ?_
        refine lv_iload_n hx hb dX8_undo_215 rfl (lv_at hl 1 rfl) ?_
        refine lv_aload_n hx hb dX8_undo_216 rfl (lv_at hl 0 rfl) ?_
        refine va_get (ci := 8) (C := RX8) (T := TX8) (N := 67) (v := .ref (a0 33)) hx hb hts i_X8_undo_X8 hown hK hP 0 rfl rfl 56 (by decide) (hts _ m_X8_undo_a536a2) (fun _ h9 => h9) rfl dX8_undo_217 ?_
        refine lv_iload_n hx hb dX8_undo_220 rfl (lv_at hl 1 rfl) ?_
        obtain ⟨h_221, hf⟩ := ck_e hf
        refine va_iald (cA := E.2.1) (n := 10) (f := s0 56) hx hb hK hP 33 0 rfl rfl h_221 dX8_undo_221 ?_
        obtain ⟨h_222, hf⟩ := ck_e hf
        refine va_iast (cA := E.2.1) (n := 10) (f := s0 37) (x := s0 56 v1.toNatClampNeg) hx hb hK hP (hDD s0 t0) hS 22 0 rfl rfl h_222 dX8_undo_222 (fun H locs hP _ hS => ?_)
        obtain ⟨s0_222, hP, hf⟩ := nm_st' (P := fun z => va_P E.1 vwCl (wX8 E a0 z t0) H) hf hP
        refine lv_aload_n hx hb dX8_undo_223 rfl (lv_at hl 0 rfl) ?_
        refine va_get (ci := 8) (C := RX8) (T := TX8) (N := 67) (v := .ref (a0 23)) hx hb hts i_X8_undo_X8 hown hK hP 0 rfl rfl 38 (by decide) (hts _ m_X8_undo_dcf18d) (fun _ h9 => h9) rfl dX8_undo_224 ?_
        refine lv_iload_n hx hb dX8_undo_227 rfl (lv_at hl 1 rfl) ?_
        refine lv_aload_n hx hb dX8_undo_228 rfl (lv_at hl 0 rfl) ?_
        refine va_get (ci := 8) (C := RX8) (T := TX8) (N := 67) (v := .ref (a0 34)) hx hb hts i_X8_undo_X8 hown hK hP 0 rfl rfl 57 (by decide) (hts _ m_X8_undo_a5a51c) (fun _ h9 => h9) rfl dX8_undo_229 ?_
        refine lv_iload_n hx hb dX8_undo_232 rfl (lv_at hl 1 rfl) ?_
        obtain ⟨h_233, hf⟩ := ck_e hf
        refine va_iald (cA := E.2.1) (n := 10) (f := s0_222 57) hx hb hK hP 34 0 rfl rfl h_233 dX8_undo_233 ?_
        obtain ⟨h_234, hf⟩ := ck_e hf
        refine va_iast (cA := E.2.1) (n := 10) (f := s0_222 38) (x := s0_222 57 v1.toNatClampNeg) hx hb hK hP (hDD s0_222 t0) hS 23 0 rfl rfl h_234 dX8_undo_234 (fun H locs hP _ hS => ?_)
        obtain ⟨s0_234, hP, hf⟩ := nm_st' (P := fun z => va_P E.1 vwCl (wX8 E a0 z t0) H) hf hP
        obtain ⟨x235, e_x235⟩ : ∃ y : Int32, y = v1 + 1 := ⟨_, rfl⟩
        have hf := nm_q e_x235 hf
        refine lv_iinc (v := x235) (lv' := [(1, .int x235), (0, .ref (a0 0))]) hx hb dX8_undo_235 hl (k := 1) rfl (by rw [e_x235]; rfl) (Nat.le_of_ble_eq_true rfl) rfl (fun ls hl => ?_)
        refine lv_goto (tgt := 205) hx hb dX8_undo_238 (by decide) ?_
        exact ih_205 s0_234 x235 hf _ _ _ hP hS (lv_sub hl [1, 0] rfl)
  have hL_156 : ∀ (n_156 : Nat) (s0 : St) (v1 : Int32), l_X8_undo_156 N n_156 s0 v1 = some q → ∀ (H : Heap) (locs : List Loc) (ls : Array Slot), va_P E.1 vwCl (wX8 E a0 s0 t0) H → va_S A0 s.heap H locs → lv_has ls 2 [(0, .ref (a0 0)), (1, .int v1)] → W p l e rm_X8_undo s m ([.ref (a0 0)] : List Value).toArray below meth c H locs 0 0 (MQ below (va_Qi (fun (r' : Int32) (_ : Unit) => r' = q.1) (fun _ t => va_P E.1 vwCl (wX8 E a0 q.2 t0) t.heap) A0) ([.ref (a0 0)] : List Value).toArray s 0 0 A0) (F0 m 156 ls []) := by
    intro n_156
    induction n_156 with
    | zero => intro s0 v1 hf; rw [l_X8_undo_156] at hf; cases hf
    | succ n_156 ih_156 =>
      intro s0 v1 hf H locs ls hP hS hl
      rw [l_X8_undo_156] at hf
      refine lv_iload_n hx hb dX8_undo_156 rfl (lv_at hl 1 rfl) ?_
      refine lv_iconst (v := 5) hx hb dX8_undo_157 (by decide) ?_
      refine lv_icmp_ge (tgt := 203) hx hb dX8_undo_158 (by decide) (fun c_158 => ?_) (fun c_158 => ?_)
      · have hf := ite_t c_158 hf
        refine lv_iconst (v := 0) hx hb dX8_undo_203 (by decide) ?_
        refine lv_istore_n (lv' := [(1, .int 0), (0, .ref (a0 0))]) hx hb dX8_undo_204 rfl hl (Nat.le_of_ble_eq_true rfl) rfl (fun ls hl => ?_)
        exact hL_205 N s0 0 hf _ _ _ hP hS (lv_sub hl [1, 0] rfl)
      · have hf := ite_f c_158 hf
        refine lv_aload_n hx hb dX8_undo_161 rfl (lv_at hl 0 rfl) ?_
        refine va_get (ci := 8) (C := RX8) (T := TX8) (N := 67) (v := .ref (a0 19)) hx hb hts i_X8_undo_X8 hown hK hP 0 rfl rfl 32 (by decide) (hts _ m_X8_undo_7bcf41) (fun _ h9 => h9) rfl dX8_undo_162 ?_
        refine lv_iload_n hx hb dX8_undo_165 rfl (lv_at hl 1 rfl) ?_
        refine lv_aload_n hx hb dX8_undo_166 rfl (lv_at hl 0 rfl) ?_
        refine va_get (ci := 8) (C := RX8) (T := TX8) (N := 67) (v := .ref (a0 31)) hx hb hts i_X8_undo_X8 hown hK hP 0 rfl rfl 54 (by decide) (hts _ m_X8_undo_dcb1af) (fun _ h9 => h9) rfl dX8_undo_167 ?_
        refine lv_iload_n hx hb dX8_undo_170 rfl (lv_at hl 1 rfl) ?_
        obtain ⟨h_171, hf⟩ := ck_e hf
        refine va_iald (cA := E.2.1) (n := 5) (f := s0 54) hx hb hK hP 31 0 rfl rfl h_171 dX8_undo_171 ?_
        obtain ⟨h_172, hf⟩ := ck_e hf
        refine va_iast (cA := E.2.1) (n := 5) (f := s0 32) (x := s0 54 v1.toNatClampNeg) hx hb hK hP (hDD s0 t0) hS 19 0 rfl rfl h_172 dX8_undo_172 (fun H locs hP _ hS => ?_)
        obtain ⟨s0_172, hP, hf⟩ := nm_st' (P := fun z => va_P E.1 vwCl (wX8 E a0 z t0) H) hf hP
        refine lv_aload_n hx hb dX8_undo_173 rfl (lv_at hl 0 rfl) ?_
        refine va_get (ci := 8) (C := RX8) (T := TX8) (N := 67) (v := .ref (a0 21)) hx hb hts i_X8_undo_X8 hown hK hP 0 rfl rfl 34 (by decide) (hts _ m_X8_undo_6d0e43) (fun _ h9 => h9) rfl dX8_undo_174 ?_
        refine lv_iload_n hx hb dX8_undo_177 rfl (lv_at hl 1 rfl) ?_
        refine lv_aload_n hx hb dX8_undo_178 rfl (lv_at hl 0 rfl) ?_
        refine va_get (ci := 8) (C := RX8) (T := TX8) (N := 67) (v := .ref (a0 37)) hx hb hts i_X8_undo_X8 hown hK hP 0 rfl rfl 60 (by decide) (hts _ m_X8_undo_831c03) (fun _ h9 => h9) rfl dX8_undo_179 ?_
        refine lv_iload_n hx hb dX8_undo_182 rfl (lv_at hl 1 rfl) ?_
        obtain ⟨h_183, hf⟩ := ck_e hf
        refine va_zald (cA := E.2.2.2.1) (n := 5) (f := s0_172 60) hx hb hK hP 37 2 rfl rfl h_183 dX8_undo_183 ?_
        obtain ⟨h_184, hf⟩ := ck_e hf
        refine va_zast (cA := E.2.2.2.1) (n := 5) (f := s0_172 34) (x := s0_172 60 v1.toNatClampNeg) hx hb hK hP (hDD s0_172 t0) hS 21 2 rfl rfl h_184 dX8_undo_184 (fun H locs hP _ hS => ?_)
        obtain ⟨s0_184, hP, hf⟩ := nm_st' (P := fun z => va_P E.1 vwCl (wX8 E a0 z t0) H) hf hP
        refine lv_aload_n hx hb dX8_undo_185 rfl (lv_at hl 0 rfl) ?_
        refine va_get (ci := 8) (C := RX8) (T := TX8) (N := 67) (v := .ref (a0 20)) hx hb hts i_X8_undo_X8 hown hK hP 0 rfl rfl 33 (by decide) (hts _ m_X8_undo_9b9f00) (fun _ h9 => h9) rfl dX8_undo_186 ?_
        refine lv_iload_n hx hb dX8_undo_189 rfl (lv_at hl 1 rfl) ?_
        refine lv_aload_n hx hb dX8_undo_190 rfl (lv_at hl 0 rfl) ?_
        refine va_get (ci := 8) (C := RX8) (T := TX8) (N := 67) (v := .ref (a0 32)) hx hb hts i_X8_undo_X8 hown hK hP 0 rfl rfl 55 (by decide) (hts _ m_X8_undo_e2e2a2) (fun _ h9 => h9) rfl dX8_undo_191 ?_
        refine lv_iload_n hx hb dX8_undo_194 rfl (lv_at hl 1 rfl) ?_
        obtain ⟨h_195, hf⟩ := ck_e hf
        refine va_iald (cA := E.2.1) (n := 5) (f := s0_184 55) hx hb hK hP 32 0 rfl rfl h_195 dX8_undo_195 ?_
        obtain ⟨h_196, hf⟩ := ck_e hf
        refine va_iast (cA := E.2.1) (n := 5) (f := s0_184 33) (x := s0_184 55 v1.toNatClampNeg) hx hb hK hP (hDD s0_184 t0) hS 20 0 rfl rfl h_196 dX8_undo_196 (fun H locs hP _ hS => ?_)
        obtain ⟨s0_196, hP, hf⟩ := nm_st' (P := fun z => va_P E.1 vwCl (wX8 E a0 z t0) H) hf hP
        obtain ⟨x197, e_x197⟩ : ∃ y : Int32, y = v1 + 1 := ⟨_, rfl⟩
        have hf := nm_q e_x197 hf
        refine lv_iinc (v := x197) (lv' := [(1, .int x197), (0, .ref (a0 0))]) hx hb dX8_undo_197 hl (k := 1) rfl (by rw [e_x197]; rfl) (Nat.le_of_ble_eq_true rfl) rfl (fun ls hl => ?_)
        refine lv_goto (tgt := 156) hx hb dX8_undo_200 (by decide) ?_
        exact ih_156 s0_196 x197 hf _ _ _ hP hS (lv_sub hl [1, 0] rfl)
  have hL_130 : ∀ (n_130 : Nat) (s0 : St) (v1 : Int32), l_X8_undo_130 N n_130 s0 v1 = some q → ∀ (H : Heap) (locs : List Loc) (ls : Array Slot), va_P E.1 vwCl (wX8 E a0 s0 t0) H → va_S A0 s.heap H locs → lv_has ls 2 [(0, .ref (a0 0)), (1, .int v1)] → W p l e rm_X8_undo s m ([.ref (a0 0)] : List Value).toArray below meth c H locs 0 0 (MQ below (va_Qi (fun (r' : Int32) (_ : Unit) => r' = q.1) (fun _ t => va_P E.1 vwCl (wX8 E a0 q.2 t0) t.heap) A0) ([.ref (a0 0)] : List Value).toArray s 0 0 A0) (F0 m 130 ls []) := by
    intro n_130
    induction n_130 with
    | zero => intro s0 v1 hf; rw [l_X8_undo_130] at hf; cases hf
    | succ n_130 ih_130 =>
      intro s0 v1 hf H locs ls hP hS hl
      rw [l_X8_undo_130] at hf
      refine lv_iload_n hx hb dX8_undo_130 rfl (lv_at hl 1 rfl) ?_
      refine lv_bipush (v := 24) hx hb dX8_undo_131 (by decide) ?_
      refine lv_icmp_ge (tgt := 154) hx hb dX8_undo_133 (by decide) (fun c_133 => ?_) (fun c_133 => ?_)
      · have hf := ite_t c_133 hf
        refine lv_iconst (v := 0) hx hb dX8_undo_154 (by decide) ?_
        refine lv_istore_n (lv' := [(1, .int 0), (0, .ref (a0 0))]) hx hb dX8_undo_155 rfl hl (Nat.le_of_ble_eq_true rfl) rfl (fun ls hl => ?_)
        exact hL_156 N s0 0 hf _ _ _ hP hS (lv_sub hl [1, 0] rfl)
      · have hf := ite_f c_133 hf
        refine lv_aload_n hx hb dX8_undo_136 rfl (lv_at hl 0 rfl) ?_
        refine va_get (ci := 8) (C := RX8) (T := TX8) (N := 67) (v := .ref (a0 4)) hx hb hts i_X8_undo_X8 hown hK hP 0 rfl rfl 6 (by decide) (hts _ m_X8_undo_096e14) (fun _ h9 => h9) rfl dX8_undo_137 ?_
        refine lv_iload_n hx hb dX8_undo_140 rfl (lv_at hl 1 rfl) ?_
        refine lv_aload_n hx hb dX8_undo_141 rfl (lv_at hl 0 rfl) ?_
        refine va_get (ci := 8) (C := RX8) (T := TX8) (N := 67) (v := .ref (a0 29)) hx hb hts i_X8_undo_X8 hown hK hP 0 rfl rfl 52 (by decide) (hts _ m_X8_undo_e6821d) (fun _ h9 => h9) rfl dX8_undo_142 ?_
        refine lv_iload_n hx hb dX8_undo_145 rfl (lv_at hl 1 rfl) ?_
        obtain ⟨h_146, hf⟩ := ck_e hf
        refine va_iald (cA := E.2.1) (n := 24) (f := s0 52) hx hb hK hP 29 0 rfl rfl h_146 dX8_undo_146 ?_
        obtain ⟨h_147, hf⟩ := ck_e hf
        refine va_iast (cA := E.2.1) (n := 24) (f := s0 6) (x := s0 52 v1.toNatClampNeg) hx hb hK hP (hDD s0 t0) hS 4 0 rfl rfl h_147 dX8_undo_147 (fun H locs hP _ hS => ?_)
        obtain ⟨s0_147, hP, hf⟩ := nm_st' (P := fun z => va_P E.1 vwCl (wX8 E a0 z t0) H) hf hP
        obtain ⟨x148, e_x148⟩ : ∃ y : Int32, y = v1 + 1 := ⟨_, rfl⟩
        have hf := nm_q e_x148 hf
        refine lv_iinc (v := x148) (lv' := [(1, .int x148), (0, .ref (a0 0))]) hx hb dX8_undo_148 hl (k := 1) rfl (by rw [e_x148]; rfl) (Nat.le_of_ble_eq_true rfl) rfl (fun ls hl => ?_)
        refine lv_goto (tgt := 130) hx hb dX8_undo_151 (by decide) ?_
        exact ih_130 s0_147 x148 hf _ _ _ hP hS (lv_sub hl [1, 0] rfl)
  have hL_68 : ∀ (n_68 : Nat) (s0 : St) (v1 : Int32), l_X8_undo_68 N n_68 s0 v1 = some q → ∀ (H : Heap) (locs : List Loc) (ls : Array Slot), va_P E.1 vwCl (wX8 E a0 s0 t0) H → va_S A0 s.heap H locs → lv_has ls 2 [(0, .ref (a0 0)), (1, .int v1)] → W p l e rm_X8_undo s m ([.ref (a0 0)] : List Value).toArray below meth c H locs 0 0 (MQ below (va_Qi (fun (r' : Int32) (_ : Unit) => r' = q.1) (fun _ t => va_P E.1 vwCl (wX8 E a0 q.2 t0) t.heap) A0) ([.ref (a0 0)] : List Value).toArray s 0 0 A0) (F0 m 68 ls []) := by
    intro n_68
    induction n_68 with
    | zero => intro s0 v1 hf; rw [l_X8_undo_68] at hf; cases hf
    | succ n_68 ih_68 =>
      intro s0 v1 hf H locs ls hP hS hl
      rw [l_X8_undo_68] at hf
      refine lv_iload_n hx hb dX8_undo_68 rfl (lv_at hl 1 rfl) ?_
      refine lv_bipush (v := 6) hx hb dX8_undo_69 (by decide) ?_
      refine lv_icmp_ge (tgt := 128) hx hb dX8_undo_71 (by decide) (fun c_71 => ?_) (fun c_71 => ?_)
      · have hf := ite_t c_71 hf
        refine lv_iconst (v := 0) hx hb dX8_undo_128 (by decide) ?_
        refine lv_istore_n (lv' := [(1, .int 0), (0, .ref (a0 0))]) hx hb dX8_undo_129 rfl hl (Nat.le_of_ble_eq_true rfl) rfl (fun ls hl => ?_)
        exact hL_130 N s0 0 hf _ _ _ hP hS (lv_sub hl [1, 0] rfl)
      · have hf := ite_f c_71 hf
        refine lv_aload_n hx hb dX8_undo_74 rfl (lv_at hl 0 rfl) ?_
        refine va_get (ci := 8) (C := RX8) (T := TX8) (N := 67) (v := .ref (a0 1)) hx hb hts i_X8_undo_X8 hown hK hP 0 rfl rfl 3 (by decide) (hts _ m_X8_undo_275364) (fun _ h9 => h9) rfl dX8_undo_75 ?_
        refine lv_iload_n hx hb dX8_undo_78 rfl (lv_at hl 1 rfl) ?_
        refine lv_aload_n hx hb dX8_undo_79 rfl (lv_at hl 0 rfl) ?_
        refine va_get (ci := 8) (C := RX8) (T := TX8) (N := 67) (v := .ref (a0 26)) hx hb hts i_X8_undo_X8 hown hK hP 0 rfl rfl 49 (by decide) (hts _ m_X8_undo_406c87) (fun _ h9 => h9) rfl dX8_undo_80 ?_
        refine lv_iload_n hx hb dX8_undo_83 rfl (lv_at hl 1 rfl) ?_
        obtain ⟨h_84, hf⟩ := ck_e hf
        refine va_iald (cA := E.2.1) (n := 6) (f := s0 49) hx hb hK hP 26 0 rfl rfl h_84 dX8_undo_84 ?_
        obtain ⟨h_85, hf⟩ := ck_e hf
        refine va_iast (cA := E.2.1) (n := 6) (f := s0 3) (x := s0 49 v1.toNatClampNeg) hx hb hK hP (hDD s0 t0) hS 1 0 rfl rfl h_85 dX8_undo_85 (fun H locs hP _ hS => ?_)
        obtain ⟨s0_85, hP, hf⟩ := nm_st' (P := fun z => va_P E.1 vwCl (wX8 E a0 z t0) H) hf hP
        refine lv_aload_n hx hb dX8_undo_86 rfl (lv_at hl 0 rfl) ?_
        refine va_get (ci := 8) (C := RX8) (T := TX8) (N := 67) (v := .ref (a0 2)) hx hb hts i_X8_undo_X8 hown hK hP 0 rfl rfl 4 (by decide) (hts _ m_X8_undo_7b6120) (fun _ h9 => h9) rfl dX8_undo_87 ?_
        refine lv_iload_n hx hb dX8_undo_90 rfl (lv_at hl 1 rfl) ?_
        refine lv_aload_n hx hb dX8_undo_91 rfl (lv_at hl 0 rfl) ?_
        refine va_get (ci := 8) (C := RX8) (T := TX8) (N := 67) (v := .ref (a0 27)) hx hb hts i_X8_undo_X8 hown hK hP 0 rfl rfl 50 (by decide) (hts _ m_X8_undo_a95abf) (fun _ h9 => h9) rfl dX8_undo_92 ?_
        refine lv_iload_n hx hb dX8_undo_95 rfl (lv_at hl 1 rfl) ?_
        obtain ⟨h_96, hf⟩ := ck_e hf
        refine va_iald (cA := E.2.1) (n := 6) (f := s0_85 50) hx hb hK hP 27 0 rfl rfl h_96 dX8_undo_96 ?_
        obtain ⟨h_97, hf⟩ := ck_e hf
        refine va_iast (cA := E.2.1) (n := 6) (f := s0_85 4) (x := s0_85 50 v1.toNatClampNeg) hx hb hK hP (hDD s0_85 t0) hS 2 0 rfl rfl h_97 dX8_undo_97 (fun H locs hP _ hS => ?_)
        obtain ⟨s0_97, hP, hf⟩ := nm_st' (P := fun z => va_P E.1 vwCl (wX8 E a0 z t0) H) hf hP
        refine lv_aload_n hx hb dX8_undo_98 rfl (lv_at hl 0 rfl) ?_
        refine va_get (ci := 8) (C := RX8) (T := TX8) (N := 67) (v := .ref (a0 3)) hx hb hts i_X8_undo_X8 hown hK hP 0 rfl rfl 5 (by decide) (hts _ m_X8_undo_fa4c49) (fun _ h9 => h9) rfl dX8_undo_99 ?_
        refine lv_iload_n hx hb dX8_undo_102 rfl (lv_at hl 1 rfl) ?_
        refine lv_aload_n hx hb dX8_undo_103 rfl (lv_at hl 0 rfl) ?_
        refine va_get (ci := 8) (C := RX8) (T := TX8) (N := 67) (v := .ref (a0 28)) hx hb hts i_X8_undo_X8 hown hK hP 0 rfl rfl 51 (by decide) (hts _ m_X8_undo_cd60a0) (fun _ h9 => h9) rfl dX8_undo_104 ?_
        refine lv_iload_n hx hb dX8_undo_107 rfl (lv_at hl 1 rfl) ?_
        obtain ⟨h_108, hf⟩ := ck_e hf
        refine va_iald (cA := E.2.1) (n := 6) (f := s0_97 51) hx hb hK hP 28 0 rfl rfl h_108 dX8_undo_108 ?_
        obtain ⟨h_109, hf⟩ := ck_e hf
        refine va_iast (cA := E.2.1) (n := 6) (f := s0_97 5) (x := s0_97 51 v1.toNatClampNeg) hx hb hK hP (hDD s0_97 t0) hS 3 0 rfl rfl h_109 dX8_undo_109 (fun H locs hP _ hS => ?_)
        obtain ⟨s0_109, hP, hf⟩ := nm_st' (P := fun z => va_P E.1 vwCl (wX8 E a0 z t0) H) hf hP
        refine lv_aload_n hx hb dX8_undo_110 rfl (lv_at hl 0 rfl) ?_
        refine va_get (ci := 8) (C := RX8) (T := TX8) (N := 67) (v := .ref (a0 5)) hx hb hts i_X8_undo_X8 hown hK hP 0 rfl rfl 7 (by decide) (hts _ m_X8_undo_ef0124) (fun _ h9 => h9) rfl dX8_undo_111 ?_
        refine lv_iload_n hx hb dX8_undo_114 rfl (lv_at hl 1 rfl) ?_
        refine lv_aload_n hx hb dX8_undo_115 rfl (lv_at hl 0 rfl) ?_
        refine va_get (ci := 8) (C := RX8) (T := TX8) (N := 67) (v := .ref (a0 30)) hx hb hts i_X8_undo_X8 hown hK hP 0 rfl rfl 53 (by decide) (hts _ m_X8_undo_3f1fa8) (fun _ h9 => h9) rfl dX8_undo_116 ?_
        refine lv_iload_n hx hb dX8_undo_119 rfl (lv_at hl 1 rfl) ?_
        obtain ⟨h_120, hf⟩ := ck_e hf
        refine va_iald (cA := E.2.1) (n := 6) (f := s0_109 53) hx hb hK hP 30 0 rfl rfl h_120 dX8_undo_120 ?_
        obtain ⟨h_121, hf⟩ := ck_e hf
        refine va_iast (cA := E.2.1) (n := 6) (f := s0_109 7) (x := s0_109 53 v1.toNatClampNeg) hx hb hK hP (hDD s0_109 t0) hS 5 0 rfl rfl h_121 dX8_undo_121 (fun H locs hP _ hS => ?_)
        obtain ⟨s0_121, hP, hf⟩ := nm_st' (P := fun z => va_P E.1 vwCl (wX8 E a0 z t0) H) hf hP
        obtain ⟨x122, e_x122⟩ : ∃ y : Int32, y = v1 + 1 := ⟨_, rfl⟩
        have hf := nm_q e_x122 hf
        refine lv_iinc (v := x122) (lv' := [(1, .int x122), (0, .ref (a0 0))]) hx hb dX8_undo_122 hl (k := 1) rfl (by rw [e_x122]; rfl) (Nat.le_of_ble_eq_true rfl) rfl (fun ls hl => ?_)
        refine lv_goto (tgt := 68) hx hb dX8_undo_125 (by decide) ?_
        exact ih_68 s0_121 x122 hf _ _ _ hP hS (lv_sub hl [1, 0] rfl)
  refine lv_aload_n hx hb dX8_undo_0 rfl (lv_at hl 0 rfl) ?_
  refine va_get (ci := 8) (C := RX8) (T := TX8) (N := 67) (v := .int (s0 41 0)) hx hb hts i_X8_undo_X8 hown hK hP 0 rfl rfl 41 (by decide) (hts _ m_X8_undo_b2d4f5) (fun _ h9 => h9) rfl dX8_undo_1 ?_
  refine lv_if_ne (tgt := 10) hx hb dX8_undo_4 (by decide) (fun c_4 => ?_) (fun c_4 => ?_)
  · have hf := ite_f c_4 hf
    refine lv_aload_n hx hb dX8_undo_10 rfl (lv_at hl 0 rfl) ?_
    refine lv_aload_n hx hb dX8_undo_11 rfl (lv_at hl 0 rfl) ?_
    refine va_get (ci := 8) (C := RX8) (T := TX8) (N := 67) (v := .int (s0 42 0)) hx hb hts i_X8_undo_X8 hown hK hP 0 rfl rfl 42 (by decide) (hts _ m_X8_undo_9ebdd7) (fun _ h9 => h9) rfl dX8_undo_12 ?_
    refine va_put (ci := 8) (v := .int (s0 42 0)) (ty := .int) (C := RX8) (T := TX8) (N := 67) hx hb hts i_X8_undo_X8 tyX8 tyX8_ok nmX8 hown hK hP (hDD s0 t0) hS 0 rfl rfl 9 (by decide) (hts _ m_X8_undo_0961c6) (fun _ h9 => h9) rfl (by decide +kernel) rfl rfl (Nat.le_of_ble_eq_true rfl) dX8_undo_15 (fun H locs hP _ hS => ?_)
    obtain ⟨s0_15, hP, hf⟩ := nm_st' (P := fun z => va_P E.1 vwCl (wX8 E a0 z t0) H) hf hP
    refine lv_aload_n hx hb dX8_undo_18 rfl (lv_at hl 0 rfl) ?_
    refine lv_aload_n hx hb dX8_undo_19 rfl (lv_at hl 0 rfl) ?_
    refine va_get (ci := 8) (C := RX8) (T := TX8) (N := 67) (v := .int (s0_15 43 0)) hx hb hts i_X8_undo_X8 hown hK hP 0 rfl rfl 43 (by decide) (hts _ m_X8_undo_aea0e2) (fun _ h9 => h9) rfl dX8_undo_20 ?_
    refine va_put (ci := 8) (v := .int (s0_15 43 0)) (ty := .int) (C := RX8) (T := TX8) (N := 67) hx hb hts i_X8_undo_X8 tyX8 tyX8_ok nmX8 hown hK hP (hDD s0_15 t0) hS 0 rfl rfl 0 (by decide) (hts _ m_X8_undo_acbb5e) (fun _ h9 => h9) rfl (by decide +kernel) rfl rfl (Nat.le_of_ble_eq_true rfl) dX8_undo_23 (fun H locs hP _ hS => ?_)
    obtain ⟨s0_23, hP, hf⟩ := nm_st' (P := fun z => va_P E.1 vwCl (wX8 E a0 z t0) H) hf hP
    refine lv_aload_n hx hb dX8_undo_26 rfl (lv_at hl 0 rfl) ?_
    refine lv_aload_n hx hb dX8_undo_27 rfl (lv_at hl 0 rfl) ?_
    refine va_get (ci := 8) (C := RX8) (T := TX8) (N := 67) (v := .int (s0_23 44 0)) hx hb hts i_X8_undo_X8 hown hK hP 0 rfl rfl 44 (by decide) (hts _ m_X8_undo_2a1732) (fun _ h9 => h9) rfl dX8_undo_28 ?_
    refine va_put (ci := 8) (v := .int (s0_23 44 0)) (ty := .int) (C := RX8) (T := TX8) (N := 67) hx hb hts i_X8_undo_X8 tyX8 tyX8_ok nmX8 hown hK hP (hDD s0_23 t0) hS 0 rfl rfl 1 (by decide) (hts _ m_X8_undo_92e5f7) (fun _ h9 => h9) rfl (by decide +kernel) rfl rfl (Nat.le_of_ble_eq_true rfl) dX8_undo_31 (fun H locs hP _ hS => ?_)
    obtain ⟨s0_31, hP, hf⟩ := nm_st' (P := fun z => va_P E.1 vwCl (wX8 E a0 z t0) H) hf hP
    refine lv_aload_n hx hb dX8_undo_34 rfl (lv_at hl 0 rfl) ?_
    refine lv_aload_n hx hb dX8_undo_35 rfl (lv_at hl 0 rfl) ?_
    refine va_get (ci := 8) (C := RX8) (T := TX8) (N := 67) (v := .int (s0_31 45 0)) hx hb hts i_X8_undo_X8 hown hK hP 0 rfl rfl 45 (by decide) (hts _ m_X8_undo_00369c) (fun _ h9 => h9) rfl dX8_undo_36 ?_
    refine va_put (ci := 8) (v := .int (s0_31 45 0)) (ty := .int) (C := RX8) (T := TX8) (N := 67) hx hb hts i_X8_undo_X8 tyX8 tyX8_ok nmX8 hown hK hP (hDD s0_31 t0) hS 0 rfl rfl 2 (by decide) (hts _ m_X8_undo_840104) (fun _ h9 => h9) rfl (by decide +kernel) rfl rfl (Nat.le_of_ble_eq_true rfl) dX8_undo_39 (fun H locs hP _ hS => ?_)
    obtain ⟨s0_39, hP, hf⟩ := nm_st' (P := fun z => va_P E.1 vwCl (wX8 E a0 z t0) H) hf hP
    refine lv_aload_n hx hb dX8_undo_42 rfl (lv_at hl 0 rfl) ?_
    refine lv_aload_n hx hb dX8_undo_43 rfl (lv_at hl 0 rfl) ?_
    refine va_get (ci := 8) (C := RX8) (T := TX8) (N := 67) (v := .int (s0_39 46 0)) hx hb hts i_X8_undo_X8 hown hK hP 0 rfl rfl 46 (by decide) (hts _ m_X8_undo_83e4e9) (fun _ h9 => h9) rfl dX8_undo_44 ?_
    refine va_put (ci := 8) (v := .int (s0_39 46 0)) (ty := .int) (C := RX8) (T := TX8) (N := 67) hx hb hts i_X8_undo_X8 tyX8 tyX8_ok nmX8 hown hK hP (hDD s0_39 t0) hS 0 rfl rfl 31 (by decide) (hts _ m_X8_undo_36ca5e) (fun _ h9 => h9) rfl (by decide +kernel) rfl rfl (Nat.le_of_ble_eq_true rfl) dX8_undo_47 (fun H locs hP _ hS => ?_)
    obtain ⟨s0_47, hP, hf⟩ := nm_st' (P := fun z => va_P E.1 vwCl (wX8 E a0 z t0) H) hf hP
    refine lv_aload_n hx hb dX8_undo_50 rfl (lv_at hl 0 rfl) ?_
    refine lv_aload_n hx hb dX8_undo_51 rfl (lv_at hl 0 rfl) ?_
    refine va_get (ci := 8) (C := RX8) (T := TX8) (N := 67) (v := .int (s0_47 47 0)) hx hb hts i_X8_undo_X8 hown hK hP 0 rfl rfl 47 (by decide) (hts _ m_X8_undo_91a6da) (fun _ h9 => h9) rfl dX8_undo_52 ?_
    refine va_put (ci := 8) (v := .int (s0_47 47 0)) (ty := .int) (C := RX8) (T := TX8) (N := 67) hx hb hts i_X8_undo_X8 tyX8 tyX8_ok nmX8 hown hK hP (hDD s0_47 t0) hS 0 rfl rfl 35 (by decide) (hts _ m_X8_undo_4ca6a4) (fun _ h9 => h9) rfl (by decide +kernel) rfl rfl (Nat.le_of_ble_eq_true rfl) dX8_undo_55 (fun H locs hP _ hS => ?_)
    obtain ⟨s0_55, hP, hf⟩ := nm_st' (P := fun z => va_P E.1 vwCl (wX8 E a0 z t0) H) hf hP
    refine lv_aload_n hx hb dX8_undo_58 rfl (lv_at hl 0 rfl) ?_
    refine lv_aload_n hx hb dX8_undo_59 rfl (lv_at hl 0 rfl) ?_
    refine va_get (ci := 8) (C := RX8) (T := TX8) (N := 67) (v := .int (s0_55 48 0)) hx hb hts i_X8_undo_X8 hown hK hP 0 rfl rfl 48 (by decide) (hts _ m_X8_undo_d95658) (fun _ h9 => h9) rfl dX8_undo_60 ?_
    refine va_put (ci := 8) (v := .int (s0_55 48 0)) (ty := .int) (C := RX8) (T := TX8) (N := 67) hx hb hts i_X8_undo_X8 tyX8 tyX8_ok nmX8 hown hK hP (hDD s0_55 t0) hS 0 rfl rfl 36 (by decide) (hts _ m_X8_undo_87408b) (fun _ h9 => h9) rfl (by decide +kernel) rfl rfl (Nat.le_of_ble_eq_true rfl) dX8_undo_63 (fun H locs hP _ hS => ?_)
    obtain ⟨s0_63, hP, hf⟩ := nm_st' (P := fun z => va_P E.1 vwCl (wX8 E a0 z t0) H) hf hP
    refine lv_iconst (v := 0) hx hb dX8_undo_66 (by decide) ?_
    refine lv_istore_n (lv' := [(1, .int 0), (0, .ref (a0 0))]) hx hb dX8_undo_67 rfl hl (Nat.le_of_ble_eq_true rfl) rfl (fun ls hl => ?_)
    exact hL_68 N s0_63 0 hf _ _ _ hP hS (lv_sub hl [1, 0] rfl)
  · have hf := ite_t c_4 hf
    refine lv_bipush (v := (-3)) hx hb dX8_undo_7 (by decide) ?_
    have e9 := Option.some.inj hf
    exact rt_i hx hb hr hlocks (fst_e e9) (rtP (P := fun z => va_P E.1 vwCl (wX8 E a0 z.2 t0) s.heap) e9 hP) hS dX8_undo_9
abbrev rm_X8_body : Room := { frames := 0, cells := 0, slots := 0, locals := 0 }
theorem m_X8_body_c73d03 : Cond.fieldLink RX8 196 "PickedMatchModel" "ran" "I" ∈ wsX8_body := by decide +kernel
theorem i_X8_body_X8 : ∀ w ∈ wsX80, w ∈ wsX8_body := fun _ h => List.mem_cons_of_mem _ (List.mem_append_right _ h)
theorem m_X8_body_728ccc : Cond.fieldLink RX8 199 "PickedMatchModel" "bodies" "[I" ∈ wsX8_body := by decide +kernel
set_option maxHeartbeats 8000000 in
set_option maxRecDepth 100000 in
theorem k_X8_body (l : Launch) (E : Ev) (a0 : Nat → Nat) (N : Nat) (s0 : St) (t0 : Nat → Nat → Int64) (p1 : Int32) (q : (St)) (hf : f_X8_body N s0 p1 = some q) : Cv l yX8_body wsX8_body rm_X8_body E [.ref (a0 0), .int p1] (wX8 E a0 s0 t0) (wX8 E a0 q t0) := by
  unfold f_X8_body at hf
  intro sz
  refine Met.ofW (cc := cX8_body) (maxL := 2) (ret := none) (by decide) rfl ?_
  intro p e s m args below meth c s₁ B hml hv
  obtain ⟨rfl, hsz, hP, hK, hD0, hG, hA, hAB⟩ := start hv
  have hx := B.exec
  have hb := B.bytes
  have hr := B.returns
  have hts := atoms_spec (ws := wsX8_body) B.pre
  have hown : s.vm.findClass RX8 = some m.cls := findClass_of_methodNamed B.named
  have hlocks := B.notSynchronized
  subst hsz
  generalize va_A (wX8 E a0 s0 t0) s.heap.size = A0 at hD0 hA hAB ⊢
  have hDD : ∀ (s0 : St) (t0 : Nat → Nat → Int64), va_D A0 (wX8 E a0 s0 t0) := fun s0 t0 => vD_addr hD0 rfl
  have hS : va_S A0 s.heap s.heap [] := va_S.rf
  have hl := lv_entry ([.ref (a0 0), .int p1]) (n := 2) (Nat.le_of_ble_eq_true rfl)
  rw [lg_entry_eq]
  generalize (lg_sl ([.ref (a0 0), .int p1]) ++ List.replicate (2 - (lg_sl ([.ref (a0 0), .int p1])).length) Slot.unset).toArray = ls at hl ⊢
  have hl : lv_has ls 2 [(0, .ref (a0 0)), (1, .int p1)] := hl
  refine lv_aload_n hx hb dX8_body_0 rfl (lv_at hl 0 rfl) ?_
  refine va_get (ci := 8) (C := RX8) (T := TX8) (N := 67) (v := .int (s0 61 0)) hx hb hts i_X8_body_X8 hown hK hP 0 rfl rfl 61 (by decide) (hts _ m_X8_body_c73d03) (fun _ h9 => h9) rfl dX8_body_1 ?_
  refine lv_bipush (v := 20) hx hb dX8_body_4 (by decide) ?_
  refine lv_icmp_ge (tgt := 19) hx hb dX8_body_6 (by decide) (fun c_6 => ?_) (fun c_6 => ?_)
  · have hf := ite_t c_6 hf
    refine lv_aload_n hx hb dX8_body_19 rfl (lv_at hl 0 rfl) ?_
    refine lv_dup hx hb dX8_body_20 rfl ?_
    refine va_get (ci := 8) (C := RX8) (T := TX8) (N := 67) (v := .int (s0 61 0)) hx hb hts i_X8_body_X8 hown hK hP 0 rfl rfl 61 (by decide) (hts _ m_X8_body_c73d03) (fun _ h9 => h9) rfl dX8_body_21 ?_
    refine lv_iconst (v := 1) hx hb dX8_body_24 (by decide) ?_
    refine lv_iadd hx hb dX8_body_25 ?_
    refine va_put (ci := 8) (v := .int ((s0 61 0) + 1)) (ty := .int) (C := RX8) (T := TX8) (N := 67) hx hb hts i_X8_body_X8 tyX8 tyX8_ok nmX8 hown hK hP (hDD s0 t0) hS 0 rfl rfl 61 (by decide) (hts _ m_X8_body_c73d03) (fun _ h9 => h9) rfl (by decide +kernel) rfl rfl (Nat.le_of_ble_eq_true rfl) dX8_body_26 (fun H locs hP _ hS => ?_)
    obtain ⟨s0_26, hP, hf⟩ := nm_st' (P := fun z => va_P E.1 vwCl (wX8 E a0 z t0) H) hf hP
    have e9 := Option.some.inj hf
    exact rt_v hx hb hr hlocks (rtP (P := fun z => va_P E.1 vwCl (wX8 E a0 z t0) H) e9 hP) hS dX8_body_29
  · have hf := ite_f c_6 hf
    refine lv_aload_n hx hb dX8_body_9 rfl (lv_at hl 0 rfl) ?_
    refine va_get (ci := 8) (C := RX8) (T := TX8) (N := 67) (v := .ref (a0 38)) hx hb hts i_X8_body_X8 hown hK hP 0 rfl rfl 62 (by decide) (hts _ m_X8_body_728ccc) (fun _ h9 => h9) rfl dX8_body_10 ?_
    refine lv_aload_n hx hb dX8_body_13 rfl (lv_at hl 0 rfl) ?_
    refine va_get (ci := 8) (C := RX8) (T := TX8) (N := 67) (v := .int (s0 61 0)) hx hb hts i_X8_body_X8 hown hK hP 0 rfl rfl 61 (by decide) (hts _ m_X8_body_c73d03) (fun _ h9 => h9) rfl dX8_body_14 ?_
    refine lv_iload_n hx hb dX8_body_17 rfl (lv_at hl 1 rfl) ?_
    obtain ⟨h_18, hf⟩ := ck_e hf
    refine va_iast (cA := E.2.1) (n := 20) (f := s0 62) (x := p1) hx hb hK hP (hDD s0 t0) hS 38 0 rfl rfl h_18 dX8_body_18 (fun H locs hP _ hS => ?_)
    obtain ⟨s0_18, hP, hf⟩ := nm_st' (P := fun z => va_P E.1 vwCl (wX8 E a0 z t0) H) hf hP
    refine lv_aload_n hx hb dX8_body_19 rfl (lv_at hl 0 rfl) ?_
    refine lv_dup hx hb dX8_body_20 rfl ?_
    refine va_get (ci := 8) (C := RX8) (T := TX8) (N := 67) (v := .int (s0_18 61 0)) hx hb hts i_X8_body_X8 hown hK hP 0 rfl rfl 61 (by decide) (hts _ m_X8_body_c73d03) (fun _ h9 => h9) rfl dX8_body_21 ?_
    refine lv_iconst (v := 1) hx hb dX8_body_24 (by decide) ?_
    refine lv_iadd hx hb dX8_body_25 ?_
    refine va_put (ci := 8) (v := .int ((s0_18 61 0) + 1)) (ty := .int) (C := RX8) (T := TX8) (N := 67) hx hb hts i_X8_body_X8 tyX8 tyX8_ok nmX8 hown hK hP (hDD s0_18 t0) hS 0 rfl rfl 61 (by decide) (hts _ m_X8_body_c73d03) (fun _ h9 => h9) rfl (by decide +kernel) rfl rfl (Nat.le_of_ble_eq_true rfl) dX8_body_26 (fun H locs hP _ hS => ?_)
    obtain ⟨s0_26, hP, hf⟩ := nm_st' (P := fun z => va_P E.1 vwCl (wX8 E a0 z t0) H) hf hP
    have e9 := Option.some.inj hf
    exact rt_v hx hb hr hlocks (rtP (P := fun z => va_P E.1 vwCl (wX8 E a0 z t0) H) e9 hP) hS dX8_body_29
abbrev rm_X8_thingLies : Room := { frames := 1, cells := 0, slots := 0, locals := 21 }
set_option maxHeartbeats 8000000 in
set_option maxRecDepth 100000 in
theorem k_X8_thingLies (l : Launch) (E : Ev) (a0 : Nat → Nat) (N : Nat) (s0 : St) (t0 : Nat → Nat → Int64) (p1 : Int32) (p2 : Int32) (q : (Int32 × St)) (hf : f_X8_thingLies N s0 p1 p2 = some q) : Ci l yX8_thingLies wsX8_thingLies rm_X8_thingLies E [.ref (a0 0), .int p1, .int p2] (wX8 E a0 s0 t0) (wX8 E a0 q.2 t0) q.1 := by
  unfold f_X8_thingLies at hf
  intro sz
  refine Met.ofW (cc := cX8_thingLies) (maxL := 3) (ret := (some .int)) (by decide) rfl ?_
  intro p e s m args below meth c s₁ B hml hv
  obtain ⟨rfl, hsz, hP, hK, hD0, hG, hA, hAB⟩ := start hv
  have hx := B.exec
  have hb := B.bytes
  have hr := B.returns
  have hts := atoms_spec (ws := wsX8_thingLies) B.pre
  have hown : s.vm.findClass RX8 = some m.cls := findClass_of_methodNamed B.named
  have hlocks := B.notSynchronized
  subst hsz
  generalize va_A (wX8 E a0 s0 t0) s.heap.size = A0 at hD0 hA hAB ⊢
  have hDD : ∀ (s0 : St) (t0 : Nat → Nat → Int64), va_D A0 (wX8 E a0 s0 t0) := fun s0 t0 => vD_addr hD0 rfl
  have hS : va_S A0 s.heap s.heap [] := va_S.rf
  have hl := lv_entry ([.ref (a0 0), .int p1, .int p2]) (n := 3) (Nat.le_of_ble_eq_true rfl)
  rw [lg_entry_eq]
  generalize (lg_sl ([.ref (a0 0), .int p1, .int p2]) ++ List.replicate (3 - (lg_sl ([.ref (a0 0), .int p1, .int p2])).length) Slot.unset).toArray = ls at hl ⊢
  have hl : lv_has ls 3 [(0, .ref (a0 0)), (1, .int p1), (2, .int p2)] := hl
  refine lv_aload_n hx hb dX8_thingLies_0 rfl (lv_at hl 0 rfl) ?_
  refine lv_bipush (v := 10) hx hb dX8_thingLies_1 (by decide) ?_
  obtain ⟨q3, hc_3, hf⟩ := cl_e hf
  refine fin_v (E := E) (wc := wX8 E a0 s0 t0) (wc' := wX8 E a0 q3 t0) (va_runV (As := [.int 10]) (rest := []) ⟨hx, hb, hml, hown, hts⟩ (k_X8_body l E a0 N s0 t0 10 q3 hc_3 _) (cwV 1 hts gX8_thingLies_X8_body rfl rfl rfl (by decide +kernel) ⟨(Nat.le_of_ble_eq_true rfl), (Nat.le_of_ble_eq_true rfl)⟩) (pre_v (ci := 8) (q0 := 0) hK hP (hDD s0 t0) hS hG hAB rfl rfl) rfl rfl hl.1 rfl (lv_room (Nat.le_of_ble_eq_true rfl)) dX8_thingLies_3 ⟨Nat.zero_le _, Nat.zero_le _⟩) hS (w_free (hDD s0 t0) hS hA (fun _ h => h)) (fun H locs hP1 hk hS => ?_)
  have hP := hP1
  refine lv_iload_n hx hb dX8_thingLies_6 rfl (lv_at hl 2 rfl) ?_
  refine lv_iload_n hx hb dX8_thingLies_7 rfl (lv_at hl 1 rfl) ?_
  refine lv_iadd hx hb dX8_thingLies_8 ?_
  have e9 := Option.some.inj hf
  exact rt_i hx hb hr hlocks (fst_e e9) (rtP (P := fun z => va_P E.1 vwCl (wX8 E a0 z.2 t0) H) e9 hP) hS dX8_thingLies_9
abbrev rm_X8_liesAct : Room := { frames := 2, cells := 0, slots := 0, locals := 43 }
theorem m_X8_liesAct_275364 : Cond.fieldLink RX8 19 "PickedMatchModel" "kind" "[I" ∈ wsX8_liesAct := by decide +kernel
theorem i_X8_liesAct_X8 : ∀ w ∈ wsX80, w ∈ wsX8_liesAct := fun _ h => List.mem_cons_of_mem _ (List.mem_append_right _ h)
theorem m_X8_liesAct_7b6120 : Cond.fieldLink RX8 23 "PickedMatchModel" "v" "[I" ∈ wsX8_liesAct := by decide +kernel
set_option maxHeartbeats 8000000 in
set_option maxRecDepth 100000 in
theorem k_X8_liesAct (l : Launch) (E : Ev) (a0 : Nat → Nat) (N : Nat) (s0 : St) (t0 : Nat → Nat → Int64) (p1 : Int32) (p2 : Int32) (q : (Int32 × St)) (hf : f_X8_liesAct N s0 p1 p2 = some q) : Ci l yX8_liesAct wsX8_liesAct rm_X8_liesAct E [.ref (a0 0), .int p1, .int p2] (wX8 E a0 s0 t0) (wX8 E a0 q.2 t0) q.1 := by
  unfold f_X8_liesAct at hf
  intro sz
  refine Met.ofW (cc := cX8_liesAct) (maxL := 3) (ret := (some .int)) (by decide) rfl ?_
  intro p e s m args below meth c s₁ B hml hv
  obtain ⟨rfl, hsz, hP, hK, hD0, hG, hA, hAB⟩ := start hv
  have hx := B.exec
  have hb := B.bytes
  have hr := B.returns
  have hts := atoms_spec (ws := wsX8_liesAct) B.pre
  have hown : s.vm.findClass RX8 = some m.cls := findClass_of_methodNamed B.named
  have hlocks := B.notSynchronized
  subst hsz
  generalize va_A (wX8 E a0 s0 t0) s.heap.size = A0 at hD0 hA hAB ⊢
  have hDD : ∀ (s0 : St) (t0 : Nat → Nat → Int64), va_D A0 (wX8 E a0 s0 t0) := fun s0 t0 => vD_addr hD0 rfl
  have hS : va_S A0 s.heap s.heap [] := va_S.rf
  have hl := lv_entry ([.ref (a0 0), .int p1, .int p2]) (n := 3) (Nat.le_of_ble_eq_true rfl)
  rw [lg_entry_eq]
  generalize (lg_sl ([.ref (a0 0), .int p1, .int p2]) ++ List.replicate (3 - (lg_sl ([.ref (a0 0), .int p1, .int p2])).length) Slot.unset).toArray = ls at hl ⊢
  have hl : lv_has ls 3 [(0, .ref (a0 0)), (1, .int p1), (2, .int p2)] := hl
  refine lv_aload_n hx hb dX8_liesAct_0 rfl (lv_at hl 0 rfl) ?_
  refine va_get (ci := 8) (C := RX8) (T := TX8) (N := 67) (v := .ref (a0 1)) hx hb hts i_X8_liesAct_X8 hown hK hP 0 rfl rfl 3 (by decide) (hts _ m_X8_liesAct_275364) (fun _ h9 => h9) rfl dX8_liesAct_1 ?_
  refine lv_iload_n hx hb dX8_liesAct_4 rfl (lv_at hl 1 rfl) ?_
  obtain ⟨h_5, hf⟩ := ck_e hf
  refine va_iald (cA := E.2.1) (n := 6) (f := s0 3) hx hb hK hP 1 0 rfl rfl h_5 dX8_liesAct_5 ?_
  by_cases c_6_0 : (s0 3 p1.toNatClampNeg) = 2
  · have hf := ite_t c_6_0 hf
    refine lv_tableIn (off := 34) (tgt := 40) hx hb dX8_liesAct_6 (by rw [c_6_0]; decide) (by rw [c_6_0]; decide) (by rw [c_6_0]; rfl) (by decide) ?_
    refine lv_aload_n hx hb dX8_liesAct_40 rfl (lv_at hl 0 rfl) ?_
    refine lv_bipush (v := 30) hx hb dX8_liesAct_41 (by decide) ?_
    obtain ⟨q43, hc_43, hf⟩ := cl_e hf
    refine fin_v (E := E) (wc := wX8 E a0 s0 t0) (wc' := wX8 E a0 q43 t0) (va_runV (As := [.int 30]) (rest := []) ⟨hx, hb, hml, hown, hts⟩ (k_X8_body l E a0 N s0 t0 30 q43 hc_43 _) (cwV 1 hts gX8_liesAct_X8_body rfl rfl rfl (by decide +kernel) ⟨(Nat.le_of_ble_eq_true rfl), (Nat.le_of_ble_eq_true rfl)⟩) (pre_v (ci := 8) (q0 := 0) hK hP (hDD s0 t0) hS hG hAB rfl rfl) rfl rfl hl.1 rfl (lv_room (Nat.le_of_ble_eq_true rfl)) dX8_liesAct_43 ⟨Nat.zero_le _, Nat.zero_le _⟩) hS (w_free (hDD s0 t0) hS hA (fun _ h => h)) (fun H locs hP1 hk hS => ?_)
    have hP := hP1
    refine lv_aload_n hx hb dX8_liesAct_46 rfl (lv_at hl 0 rfl) ?_
    refine lv_iload_n hx hb dX8_liesAct_47 rfl (lv_at hl 1 rfl) ?_
    refine lv_iload_n hx hb dX8_liesAct_48 rfl (lv_at hl 2 rfl) ?_
    refine lv_iconst (v := 3) hx hb dX8_liesAct_49 (by decide) ?_
    refine lv_imul hx hb dX8_liesAct_50 ?_
    obtain ⟨q51, hc_51, hf⟩ := cl_e hf
    refine fin_i (E := E) (wc := wX8 E a0 q43 t0) (wc' := wX8 E a0 q51.2 t0) (va_runV (As := [.int p1, .int (p2 * 3)]) (rest := []) ⟨hx, hb, hml, hown, hts⟩ (k_X8_thingLies l E a0 N q43 t0 p1 (p2 * 3) q51 hc_51 _) (cwV 2 hts gX8_liesAct_X8_thingLies rfl rfl rfl (by decide +kernel) ⟨(Nat.le_of_ble_eq_true rfl), (Nat.le_of_ble_eq_true rfl)⟩) (pre_v (ci := 8) (q0 := 0) hK hP (hDD q43 t0) hS hG hAB rfl rfl) rfl rfl hl.1 rfl (lv_room (Nat.le_of_ble_eq_true rfl)) dX8_liesAct_51 ⟨Nat.zero_le _, Nat.zero_le _⟩) hS (w_free (hDD q43 t0) hS hA (fun _ h => h)) (fun H locs hP1 hk hS => ?_)
    have hP := hP1
    have e9 := Option.some.inj hf
    exact rt_i hx hb hr hlocks (fst_e e9) (rtP (P := fun z => va_P E.1 vwCl (wX8 E a0 z.2 t0) H) e9 hP) hS dX8_liesAct_54
  · have hf := ite_f c_6_0 hf
    by_cases c_6_1 : (s0 3 p1.toNatClampNeg) = 3
    · have hf := ite_t c_6_1 hf
      refine lv_tableIn (off := 83) (tgt := 89) hx hb dX8_liesAct_6 (by rw [c_6_1]; decide) (by rw [c_6_1]; decide) (by rw [c_6_1]; rfl) (by decide) ?_
      refine lv_aload_n hx hb dX8_liesAct_89 rfl (lv_at hl 0 rfl) ?_
      refine lv_iload_n hx hb dX8_liesAct_90 rfl (lv_at hl 1 rfl) ?_
      refine lv_iload_n hx hb dX8_liesAct_91 rfl (lv_at hl 2 rfl) ?_
      obtain ⟨q92, hc_92, hf⟩ := cl_e hf
      refine fin_i (E := E) (wc := wX8 E a0 s0 t0) (wc' := wX8 E a0 q92.2 t0) (va_runV (As := [.int p1, .int p2]) (rest := []) ⟨hx, hb, hml, hown, hts⟩ (k_X8_thingLies l E a0 N s0 t0 p1 p2 q92 hc_92 _) (cwV 2 hts gX8_liesAct_X8_thingLies rfl rfl rfl (by decide +kernel) ⟨(Nat.le_of_ble_eq_true rfl), (Nat.le_of_ble_eq_true rfl)⟩) (pre_v (ci := 8) (q0 := 0) hK hP (hDD s0 t0) hS hG hAB rfl rfl) rfl rfl hl.1 rfl (lv_room (Nat.le_of_ble_eq_true rfl)) dX8_liesAct_92 ⟨Nat.zero_le _, Nat.zero_le _⟩) hS (w_free (hDD s0 t0) hS hA (fun _ h => h)) (fun H locs hP1 hk hS => ?_)
      have hP := hP1
      have e9 := Option.some.inj hf
      exact rt_i hx hb hr hlocks (fst_e e9) (rtP (P := fun z => va_P E.1 vwCl (wX8 E a0 z.2 t0) H) e9 hP) hS dX8_liesAct_95
    · have hf := ite_f c_6_1 hf
      by_cases c_6_2 : (s0 3 p1.toNatClampNeg) = 4
      · have hf := ite_t c_6_2 hf
        refine lv_tableIn (off := 49) (tgt := 55) hx hb dX8_liesAct_6 (by rw [c_6_2]; decide) (by rw [c_6_2]; decide) (by rw [c_6_2]; rfl) (by decide) ?_
        refine lv_aload_n hx hb dX8_liesAct_55 rfl (lv_at hl 0 rfl) ?_
        refine lv_bipush (v := 50) hx hb dX8_liesAct_56 (by decide) ?_
        obtain ⟨q58, hc_58, hf⟩ := cl_e hf
        refine fin_v (E := E) (wc := wX8 E a0 s0 t0) (wc' := wX8 E a0 q58 t0) (va_runV (As := [.int 50]) (rest := []) ⟨hx, hb, hml, hown, hts⟩ (k_X8_body l E a0 N s0 t0 50 q58 hc_58 _) (cwV 1 hts gX8_liesAct_X8_body rfl rfl rfl (by decide +kernel) ⟨(Nat.le_of_ble_eq_true rfl), (Nat.le_of_ble_eq_true rfl)⟩) (pre_v (ci := 8) (q0 := 0) hK hP (hDD s0 t0) hS hG hAB rfl rfl) rfl rfl hl.1 rfl (lv_room (Nat.le_of_ble_eq_true rfl)) dX8_liesAct_58 ⟨Nat.zero_le _, Nat.zero_le _⟩) hS (w_free (hDD s0 t0) hS hA (fun _ h => h)) (fun H locs hP1 hk hS => ?_)
        have hP := hP1
        refine lv_aload_n hx hb dX8_liesAct_61 rfl (lv_at hl 0 rfl) ?_
        refine lv_iload_n hx hb dX8_liesAct_62 rfl (lv_at hl 1 rfl) ?_
        refine lv_iload_n hx hb dX8_liesAct_63 rfl (lv_at hl 2 rfl) ?_
        obtain ⟨q64, hc_64, hf⟩ := cl_e hf
        refine fin_i (E := E) (wc := wX8 E a0 q58 t0) (wc' := wX8 E a0 q64.2 t0) (va_runV (As := [.int p1, .int p2]) (rest := []) ⟨hx, hb, hml, hown, hts⟩ (k_X8_thingLies l E a0 N q58 t0 p1 p2 q64 hc_64 _) (cwV 2 hts gX8_liesAct_X8_thingLies rfl rfl rfl (by decide +kernel) ⟨(Nat.le_of_ble_eq_true rfl), (Nat.le_of_ble_eq_true rfl)⟩) (pre_v (ci := 8) (q0 := 0) hK hP (hDD q58 t0) hS hG hAB rfl rfl) rfl rfl hl.1 rfl (lv_room (Nat.le_of_ble_eq_true rfl)) dX8_liesAct_64 ⟨Nat.zero_le _, Nat.zero_le _⟩) hS (w_free (hDD q58 t0) hS hA (fun _ h => h)) (fun H locs hP1 hk hS => ?_)
        have hP := hP1
        refine lv_ineg hx hb dX8_liesAct_67 ?_
        have e9 := Option.some.inj hf
        exact rt_i hx hb hr hlocks (fst_e e9) (rtP (P := fun z => va_P E.1 vwCl (wX8 E a0 z.2 t0) H) e9 hP) hS dX8_liesAct_68
      · have hf := ite_f c_6_2 hf
        by_cases c_6_3 : (s0 3 p1.toNatClampNeg) = 5
        · have hf := ite_t c_6_3 hf
          refine lv_tableIn (off := 34) (tgt := 40) hx hb dX8_liesAct_6 (by rw [c_6_3]; decide) (by rw [c_6_3]; decide) (by rw [c_6_3]; rfl) (by decide) ?_
          refine lv_aload_n hx hb dX8_liesAct_40 rfl (lv_at hl 0 rfl) ?_
          refine lv_bipush (v := 30) hx hb dX8_liesAct_41 (by decide) ?_
          obtain ⟨q43, hc_43, hf⟩ := cl_e hf
          refine fin_v (E := E) (wc := wX8 E a0 s0 t0) (wc' := wX8 E a0 q43 t0) (va_runV (As := [.int 30]) (rest := []) ⟨hx, hb, hml, hown, hts⟩ (k_X8_body l E a0 N s0 t0 30 q43 hc_43 _) (cwV 1 hts gX8_liesAct_X8_body rfl rfl rfl (by decide +kernel) ⟨(Nat.le_of_ble_eq_true rfl), (Nat.le_of_ble_eq_true rfl)⟩) (pre_v (ci := 8) (q0 := 0) hK hP (hDD s0 t0) hS hG hAB rfl rfl) rfl rfl hl.1 rfl (lv_room (Nat.le_of_ble_eq_true rfl)) dX8_liesAct_43 ⟨Nat.zero_le _, Nat.zero_le _⟩) hS (w_free (hDD s0 t0) hS hA (fun _ h => h)) (fun H locs hP1 hk hS => ?_)
          have hP := hP1
          refine lv_aload_n hx hb dX8_liesAct_46 rfl (lv_at hl 0 rfl) ?_
          refine lv_iload_n hx hb dX8_liesAct_47 rfl (lv_at hl 1 rfl) ?_
          refine lv_iload_n hx hb dX8_liesAct_48 rfl (lv_at hl 2 rfl) ?_
          refine lv_iconst (v := 3) hx hb dX8_liesAct_49 (by decide) ?_
          refine lv_imul hx hb dX8_liesAct_50 ?_
          obtain ⟨q51, hc_51, hf⟩ := cl_e hf
          refine fin_i (E := E) (wc := wX8 E a0 q43 t0) (wc' := wX8 E a0 q51.2 t0) (va_runV (As := [.int p1, .int (p2 * 3)]) (rest := []) ⟨hx, hb, hml, hown, hts⟩ (k_X8_thingLies l E a0 N q43 t0 p1 (p2 * 3) q51 hc_51 _) (cwV 2 hts gX8_liesAct_X8_thingLies rfl rfl rfl (by decide +kernel) ⟨(Nat.le_of_ble_eq_true rfl), (Nat.le_of_ble_eq_true rfl)⟩) (pre_v (ci := 8) (q0 := 0) hK hP (hDD q43 t0) hS hG hAB rfl rfl) rfl rfl hl.1 rfl (lv_room (Nat.le_of_ble_eq_true rfl)) dX8_liesAct_51 ⟨Nat.zero_le _, Nat.zero_le _⟩) hS (w_free (hDD q43 t0) hS hA (fun _ h => h)) (fun H locs hP1 hk hS => ?_)
          have hP := hP1
          have e9 := Option.some.inj hf
          exact rt_i hx hb hr hlocks (fst_e e9) (rtP (P := fun z => va_P E.1 vwCl (wX8 E a0 z.2 t0) H) e9 hP) hS dX8_liesAct_54
        · have hf := ite_f c_6_3 hf
          by_cases c_6_4 : (s0 3 p1.toNatClampNeg) = 6
          · have hf := ite_t c_6_4 hf
            refine lv_tableIn (off := 63) (tgt := 69) hx hb dX8_liesAct_6 (by rw [c_6_4]; decide) (by rw [c_6_4]; decide) (by rw [c_6_4]; rfl) (by decide) ?_
            refine lv_aload_n hx hb dX8_liesAct_69 rfl (lv_at hl 0 rfl) ?_
            refine lv_bipush (v := 71) hx hb dX8_liesAct_70 (by decide) ?_
            obtain ⟨q72, hc_72, hf⟩ := cl_e hf
            refine fin_v (E := E) (wc := wX8 E a0 s0 t0) (wc' := wX8 E a0 q72 t0) (va_runV (As := [.int 71]) (rest := []) ⟨hx, hb, hml, hown, hts⟩ (k_X8_body l E a0 N s0 t0 71 q72 hc_72 _) (cwV 1 hts gX8_liesAct_X8_body rfl rfl rfl (by decide +kernel) ⟨(Nat.le_of_ble_eq_true rfl), (Nat.le_of_ble_eq_true rfl)⟩) (pre_v (ci := 8) (q0 := 0) hK hP (hDD s0 t0) hS hG hAB rfl rfl) rfl rfl hl.1 rfl (lv_room (Nat.le_of_ble_eq_true rfl)) dX8_liesAct_72 ⟨Nat.zero_le _, Nat.zero_le _⟩) hS (w_free (hDD s0 t0) hS hA (fun _ h => h)) (fun H locs hP1 hk hS => ?_)
            have hP := hP1
            refine lv_aload_n hx hb dX8_liesAct_75 rfl (lv_at hl 0 rfl) ?_
            refine lv_iload_n hx hb dX8_liesAct_76 rfl (lv_at hl 1 rfl) ?_
            refine lv_iload_n hx hb dX8_liesAct_77 rfl (lv_at hl 2 rfl) ?_
            obtain ⟨q78, hc_78, hf⟩ := cl_e hf
            refine fin_i (E := E) (wc := wX8 E a0 q72 t0) (wc' := wX8 E a0 q78.2 t0) (va_runV (As := [.int p1, .int p2]) (rest := []) ⟨hx, hb, hml, hown, hts⟩ (k_X8_thingLies l E a0 N q72 t0 p1 p2 q78 hc_78 _) (cwV 2 hts gX8_liesAct_X8_thingLies rfl rfl rfl (by decide +kernel) ⟨(Nat.le_of_ble_eq_true rfl), (Nat.le_of_ble_eq_true rfl)⟩) (pre_v (ci := 8) (q0 := 0) hK hP (hDD q72 t0) hS hG hAB rfl rfl) rfl rfl hl.1 rfl (lv_room (Nat.le_of_ble_eq_true rfl)) dX8_liesAct_78 ⟨Nat.zero_le _, Nat.zero_le _⟩) hS (w_free (hDD q72 t0) hS hA (fun _ h => h)) (fun H locs hP1 hk hS => ?_)
            have hP := hP1
            refine lv_aload_n hx hb dX8_liesAct_81 rfl (lv_at hl 0 rfl) ?_
            refine va_get (ci := 8) (C := RX8) (T := TX8) (N := 67) (v := .ref (a0 2)) hx hb hts i_X8_liesAct_X8 hown hK hP 0 rfl rfl 4 (by decide) (hts _ m_X8_liesAct_7b6120) (fun _ h9 => h9) rfl dX8_liesAct_82 ?_
            refine lv_iload_n hx hb dX8_liesAct_85 rfl (lv_at hl 1 rfl) ?_
            obtain ⟨h_86, hf⟩ := ck_e hf
            refine va_iald (cA := E.2.1) (n := 6) (f := q78.2 4) hx hb hK hP 2 0 rfl rfl h_86 dX8_liesAct_86 ?_
            refine lv_ixor hx hb dX8_liesAct_87 ?_
            have e9 := Option.some.inj hf
            exact rt_i hx hb hr hlocks (fst_e e9) (rtP (P := fun z => va_P E.1 vwCl (wX8 E a0 z.2 t0) H) e9 hP) hS dX8_liesAct_88
          · have hf := ite_f c_6_4 hf
            refine lv_tableOut (tgt := 89) hx hb dX8_liesAct_6 (by have n0 := lv_neT (a := 2) c_6_0 (by decide); have n1 := lv_neT (a := 3) c_6_1 (by decide); have n2 := lv_neT (a := 4) c_6_2 (by decide); have n3 := lv_neT (a := 5) c_6_3 (by decide); have n4 := lv_neT (a := 6) c_6_4 (by decide); omega) (by decide) ?_
            refine lv_aload_n hx hb dX8_liesAct_89 rfl (lv_at hl 0 rfl) ?_
            refine lv_iload_n hx hb dX8_liesAct_90 rfl (lv_at hl 1 rfl) ?_
            refine lv_iload_n hx hb dX8_liesAct_91 rfl (lv_at hl 2 rfl) ?_
            obtain ⟨q92, hc_92, hf⟩ := cl_e hf
            refine fin_i (E := E) (wc := wX8 E a0 s0 t0) (wc' := wX8 E a0 q92.2 t0) (va_runV (As := [.int p1, .int p2]) (rest := []) ⟨hx, hb, hml, hown, hts⟩ (k_X8_thingLies l E a0 N s0 t0 p1 p2 q92 hc_92 _) (cwV 2 hts gX8_liesAct_X8_thingLies rfl rfl rfl (by decide +kernel) ⟨(Nat.le_of_ble_eq_true rfl), (Nat.le_of_ble_eq_true rfl)⟩) (pre_v (ci := 8) (q0 := 0) hK hP (hDD s0 t0) hS hG hAB rfl rfl) rfl rfl hl.1 rfl (lv_room (Nat.le_of_ble_eq_true rfl)) dX8_liesAct_92 ⟨Nat.zero_le _, Nat.zero_le _⟩) hS (w_free (hDD s0 t0) hS hA (fun _ h => h)) (fun H locs hP1 hk hS => ?_)
            have hP := hP1
            have e9 := Option.some.inj hf
            exact rt_i hx hb hr hlocks (fst_e e9) (rtP (P := fun z => va_P E.1 vwCl (wX8 E a0 z.2 t0) H) e9 hP) hS dX8_liesAct_95
abbrev rm_X8_thingFits : Room := { frames := 3, cells := 0, slots := 0, locals := 65 }
theorem m_X8_thingFits_7b6120 : Cond.fieldLink RX8 23 "PickedMatchModel" "v" "[I" ∈ wsX8_thingFits := by decide +kernel
theorem i_X8_thingFits_X8 : ∀ w ∈ wsX80, w ∈ wsX8_thingFits := fun _ h => List.mem_cons_of_mem _ (List.mem_append_right _ h)
set_option maxHeartbeats 8000000 in
set_option maxRecDepth 100000 in
theorem k_X8_thingFits (l : Launch) (E : Ev) (a0 : Nat → Nat) (N : Nat) (s0 : St) (t0 : Nat → Nat → Int64) (p1 : Int32) (p2 : Int32) (q : (Int32 × St)) (hf : f_X8_thingFits N s0 p1 p2 = some q) : Ci l yX8_thingFits wsX8_thingFits rm_X8_thingFits E [.ref (a0 0), .int p1, .int p2] (wX8 E a0 s0 t0) (wX8 E a0 q.2 t0) q.1 := by
  unfold f_X8_thingFits at hf
  intro sz
  refine Met.ofW (cc := cX8_thingFits) (maxL := 3) (ret := (some .int)) (by decide) rfl ?_
  intro p e s m args below meth c s₁ B hml hv
  obtain ⟨rfl, hsz, hP, hK, hD0, hG, hA, hAB⟩ := start hv
  have hx := B.exec
  have hb := B.bytes
  have hr := B.returns
  have hts := atoms_spec (ws := wsX8_thingFits) B.pre
  have hown : s.vm.findClass RX8 = some m.cls := findClass_of_methodNamed B.named
  have hlocks := B.notSynchronized
  subst hsz
  generalize va_A (wX8 E a0 s0 t0) s.heap.size = A0 at hD0 hA hAB ⊢
  have hDD : ∀ (s0 : St) (t0 : Nat → Nat → Int64), va_D A0 (wX8 E a0 s0 t0) := fun s0 t0 => vD_addr hD0 rfl
  have hS : va_S A0 s.heap s.heap [] := va_S.rf
  have hl := lv_entry ([.ref (a0 0), .int p1, .int p2]) (n := 3) (Nat.le_of_ble_eq_true rfl)
  rw [lg_entry_eq]
  generalize (lg_sl ([.ref (a0 0), .int p1, .int p2]) ++ List.replicate (3 - (lg_sl ([.ref (a0 0), .int p1, .int p2])).length) Slot.unset).toArray = ls at hl ⊢
  have hl : lv_has ls 3 [(0, .ref (a0 0)), (1, .int p1), (2, .int p2)] := hl
  refine lv_aload_n hx hb dX8_thingFits_0 rfl (lv_at hl 0 rfl) ?_
  refine lv_bipush (v := 11) hx hb dX8_thingFits_1 (by decide) ?_
  obtain ⟨q3, hc_3, hf⟩ := cl_e hf
  refine fin_v (E := E) (wc := wX8 E a0 s0 t0) (wc' := wX8 E a0 q3 t0) (va_runV (As := [.int 11]) (rest := []) ⟨hx, hb, hml, hown, hts⟩ (k_X8_body l E a0 N s0 t0 11 q3 hc_3 _) (cwV 1 hts gX8_thingFits_X8_body rfl rfl rfl (by decide +kernel) ⟨(Nat.le_of_ble_eq_true rfl), (Nat.le_of_ble_eq_true rfl)⟩) (pre_v (ci := 8) (q0 := 0) hK hP (hDD s0 t0) hS hG hAB rfl rfl) rfl rfl hl.1 rfl (lv_room (Nat.le_of_ble_eq_true rfl)) dX8_thingFits_3 ⟨Nat.zero_le _, Nat.zero_le _⟩) hS (w_free (hDD s0 t0) hS hA (fun _ h => h)) (fun H locs hP1 hk hS => ?_)
  have hP := hP1
  refine lv_aload_n hx hb dX8_thingFits_6 rfl (lv_at hl 0 rfl) ?_
  refine lv_iload_n hx hb dX8_thingFits_7 rfl (lv_at hl 1 rfl) ?_
  refine lv_iload_n hx hb dX8_thingFits_8 rfl (lv_at hl 2 rfl) ?_
  obtain ⟨q9, hc_9, hf⟩ := cl_e hf
  refine fin_i (E := E) (wc := wX8 E a0 q3 t0) (wc' := wX8 E a0 q9.2 t0) (va_runV (As := [.int p1, .int p2]) (rest := []) ⟨hx, hb, hml, hown, hts⟩ (k_X8_liesAct l E a0 N q3 t0 p1 p2 q9 hc_9 _) (cwV 2 hts gX8_thingFits_X8_liesAct rfl rfl rfl (by decide +kernel) ⟨(Nat.le_of_ble_eq_true rfl), (Nat.le_of_ble_eq_true rfl)⟩) (pre_v (ci := 8) (q0 := 0) hK hP (hDD q3 t0) hS hG hAB rfl rfl) rfl rfl hl.1 rfl (lv_room (Nat.le_of_ble_eq_true rfl)) dX8_thingFits_9 ⟨Nat.zero_le _, Nat.zero_le _⟩) hS (w_free (hDD q3 t0) hS hA (fun _ h => h)) (fun H locs hP1 hk hS => ?_)
  have hP := hP1
  refine lv_aload_n hx hb dX8_thingFits_12 rfl (lv_at hl 0 rfl) ?_
  refine va_get (ci := 8) (C := RX8) (T := TX8) (N := 67) (v := .ref (a0 2)) hx hb hts i_X8_thingFits_X8 hown hK hP 0 rfl rfl 4 (by decide) (hts _ m_X8_thingFits_7b6120) (fun _ h9 => h9) rfl dX8_thingFits_13 ?_
  refine lv_iload_n hx hb dX8_thingFits_16 rfl (lv_at hl 1 rfl) ?_
  obtain ⟨h_17, hf⟩ := ck_e hf
  refine va_iald (cA := E.2.1) (n := 6) (f := q9.2 4) hx hb hK hP 2 0 rfl rfl h_17 dX8_thingFits_17 ?_
  refine lv_isub hx hb dX8_thingFits_18 ?_
  have e9 := Option.some.inj hf
  exact rt_i hx hb hr hlocks (fst_e e9) (rtP (P := fun z => va_P E.1 vwCl (wX8 E a0 z.2 t0) H) e9 hP) hS dX8_thingFits_19
abbrev rm_X8_gloveFits : Room := { frames := 4, cells := 0, slots := 0, locals := 87 }
set_option maxHeartbeats 8000000 in
set_option maxRecDepth 100000 in
theorem k_X8_gloveFits (l : Launch) (E : Ev) (a0 : Nat → Nat) (N : Nat) (s0 : St) (t0 : Nat → Nat → Int64) (p1 : Int32) (p2 : Int32) (q : (Int32 × St)) (hf : f_X8_gloveFits N s0 p1 p2 = some q) : Ci l yX8_gloveFits wsX8_gloveFits rm_X8_gloveFits E [.ref (a0 0), .int p1, .int p2] (wX8 E a0 s0 t0) (wX8 E a0 q.2 t0) q.1 := by
  unfold f_X8_gloveFits at hf
  intro sz
  refine Met.ofW (cc := cX8_gloveFits) (maxL := 3) (ret := (some .int)) (by decide) rfl ?_
  intro p e s m args below meth c s₁ B hml hv
  obtain ⟨rfl, hsz, hP, hK, hD0, hG, hA, hAB⟩ := start hv
  have hx := B.exec
  have hb := B.bytes
  have hr := B.returns
  have hts := atoms_spec (ws := wsX8_gloveFits) B.pre
  have hown : s.vm.findClass RX8 = some m.cls := findClass_of_methodNamed B.named
  have hlocks := B.notSynchronized
  subst hsz
  generalize va_A (wX8 E a0 s0 t0) s.heap.size = A0 at hD0 hA hAB ⊢
  have hDD : ∀ (s0 : St) (t0 : Nat → Nat → Int64), va_D A0 (wX8 E a0 s0 t0) := fun s0 t0 => vD_addr hD0 rfl
  have hS : va_S A0 s.heap s.heap [] := va_S.rf
  have hl := lv_entry ([.ref (a0 0), .int p1, .int p2]) (n := 3) (Nat.le_of_ble_eq_true rfl)
  rw [lg_entry_eq]
  generalize (lg_sl ([.ref (a0 0), .int p1, .int p2]) ++ List.replicate (3 - (lg_sl ([.ref (a0 0), .int p1, .int p2])).length) Slot.unset).toArray = ls at hl ⊢
  have hl : lv_has ls 3 [(0, .ref (a0 0)), (1, .int p1), (2, .int p2)] := hl
  refine lv_aload_n hx hb dX8_gloveFits_0 rfl (lv_at hl 0 rfl) ?_
  refine lv_bipush (v := 20) hx hb dX8_gloveFits_1 (by decide) ?_
  obtain ⟨q3, hc_3, hf⟩ := cl_e hf
  refine fin_v (E := E) (wc := wX8 E a0 s0 t0) (wc' := wX8 E a0 q3 t0) (va_runV (As := [.int 20]) (rest := []) ⟨hx, hb, hml, hown, hts⟩ (k_X8_body l E a0 N s0 t0 20 q3 hc_3 _) (cwV 1 hts gX8_gloveFits_X8_body rfl rfl rfl (by decide +kernel) ⟨(Nat.le_of_ble_eq_true rfl), (Nat.le_of_ble_eq_true rfl)⟩) (pre_v (ci := 8) (q0 := 0) hK hP (hDD s0 t0) hS hG hAB rfl rfl) rfl rfl hl.1 rfl (lv_room (Nat.le_of_ble_eq_true rfl)) dX8_gloveFits_3 ⟨Nat.zero_le _, Nat.zero_le _⟩) hS (w_free (hDD s0 t0) hS hA (fun _ h => h)) (fun H locs hP1 hk hS => ?_)
  have hP := hP1
  refine lv_aload_n hx hb dX8_gloveFits_6 rfl (lv_at hl 0 rfl) ?_
  refine lv_iload_n hx hb dX8_gloveFits_7 rfl (lv_at hl 1 rfl) ?_
  refine lv_iload_n hx hb dX8_gloveFits_8 rfl (lv_at hl 2 rfl) ?_
  obtain ⟨q9, hc_9, hf⟩ := cl_e hf
  refine fin_i (E := E) (wc := wX8 E a0 q3 t0) (wc' := wX8 E a0 q9.2 t0) (va_runV (As := [.int p1, .int p2]) (rest := []) ⟨hx, hb, hml, hown, hts⟩ (k_X8_thingFits l E a0 N q3 t0 p1 p2 q9 hc_9 _) (cwV 2 hts gX8_gloveFits_X8_thingFits rfl rfl rfl (by decide +kernel) ⟨(Nat.le_of_ble_eq_true rfl), (Nat.le_of_ble_eq_true rfl)⟩) (pre_v (ci := 8) (q0 := 0) hK hP (hDD q3 t0) hS hG hAB rfl rfl) rfl rfl hl.1 rfl (lv_room (Nat.le_of_ble_eq_true rfl)) dX8_gloveFits_9 ⟨Nat.zero_le _, Nat.zero_le _⟩) hS (w_free (hDD q3 t0) hS hA (fun _ h => h)) (fun H locs hP1 hk hS => ?_)
  have hP := hP1
  refine lv_bipush (v := 6) hx hb dX8_gloveFits_12 (by decide) ?_
  refine lv_ixor hx hb dX8_gloveFits_14 ?_
  have e9 := Option.some.inj hf
  exact rt_i hx hb hr hlocks (fst_e e9) (rtP (P := fun z => va_P E.1 vwCl (wX8 E a0 z.2 t0) H) e9 hP) hS dX8_gloveFits_15
abbrev rm_X8_fitsAct : Room := { frames := 5, cells := 0, slots := 0, locals := 109 }
theorem m_X8_fitsAct_275364 : Cond.fieldLink RX8 19 "PickedMatchModel" "kind" "[I" ∈ wsX8_fitsAct := by decide +kernel
theorem i_X8_fitsAct_X8 : ∀ w ∈ wsX80, w ∈ wsX8_fitsAct := fun _ h => List.mem_cons_of_mem _ (List.mem_append_right _ h)
set_option maxHeartbeats 8000000 in
set_option maxRecDepth 100000 in
theorem k_X8_fitsAct (l : Launch) (E : Ev) (a0 : Nat → Nat) (N : Nat) (s0 : St) (t0 : Nat → Nat → Int64) (p1 : Int32) (p2 : Int32) (q : (Int32 × St)) (hf : f_X8_fitsAct N s0 p1 p2 = some q) : Ci l yX8_fitsAct wsX8_fitsAct rm_X8_fitsAct E [.ref (a0 0), .int p1, .int p2] (wX8 E a0 s0 t0) (wX8 E a0 q.2 t0) q.1 := by
  unfold f_X8_fitsAct at hf
  intro sz
  refine Met.ofW (cc := cX8_fitsAct) (maxL := 4) (ret := (some .int)) (by decide) rfl ?_
  intro p e s m args below meth c s₁ B hml hv
  obtain ⟨rfl, hsz, hP, hK, hD0, hG, hA, hAB⟩ := start hv
  have hx := B.exec
  have hb := B.bytes
  have hr := B.returns
  have hts := atoms_spec (ws := wsX8_fitsAct) B.pre
  have hown : s.vm.findClass RX8 = some m.cls := findClass_of_methodNamed B.named
  have hlocks := B.notSynchronized
  subst hsz
  generalize va_A (wX8 E a0 s0 t0) s.heap.size = A0 at hD0 hA hAB ⊢
  have hDD : ∀ (s0 : St) (t0 : Nat → Nat → Int64), va_D A0 (wX8 E a0 s0 t0) := fun s0 t0 => vD_addr hD0 rfl
  have hS : va_S A0 s.heap s.heap [] := va_S.rf
  have hl := lv_entry ([.ref (a0 0), .int p1, .int p2]) (n := 4) (Nat.le_of_ble_eq_true rfl)
  rw [lg_entry_eq]
  generalize (lg_sl ([.ref (a0 0), .int p1, .int p2]) ++ List.replicate (4 - (lg_sl ([.ref (a0 0), .int p1, .int p2])).length) Slot.unset).toArray = ls at hl ⊢
  have hl : lv_has ls 4 [(0, .ref (a0 0)), (1, .int p1), (2, .int p2)] := hl
  refine lv_aload_n hx hb dX8_fitsAct_0 rfl (lv_at hl 0 rfl) ?_
  refine va_get (ci := 8) (C := RX8) (T := TX8) (N := 67) (v := .ref (a0 1)) hx hb hts i_X8_fitsAct_X8 hown hK hP 0 rfl rfl 3 (by decide) (hts _ m_X8_fitsAct_275364) (fun _ h9 => h9) rfl dX8_fitsAct_1 ?_
  refine lv_iload_n hx hb dX8_fitsAct_4 rfl (lv_at hl 1 rfl) ?_
  obtain ⟨h_5, hf⟩ := ck_e hf
  refine va_iald (cA := E.2.1) (n := 6) (f := s0 3) hx hb hK hP 1 0 rfl rfl h_5 dX8_fitsAct_5 ?_
  by_cases c_6_0 : (s0 3 p1.toNatClampNeg) = 1
  · have hf := ite_t c_6_0 hf
    refine lv_lookup (off := 34) (tgt := 40) hx hb dX8_fitsAct_6 (by decide) (by rw [c_6_0]; rfl) (by decide) ?_
    refine lv_aload_n hx hb dX8_fitsAct_40 rfl (lv_at hl 0 rfl) ?_
    refine lv_iload_n hx hb dX8_fitsAct_41 rfl (lv_at hl 1 rfl) ?_
    refine lv_iload_n hx hb dX8_fitsAct_42 rfl (lv_at hl 2 rfl) ?_
    obtain ⟨q43, hc_43, hf⟩ := cl_e hf
    refine fin_i (E := E) (wc := wX8 E a0 s0 t0) (wc' := wX8 E a0 q43.2 t0) (va_runV (As := [.int p1, .int p2]) (rest := []) ⟨hx, hb, hml, hown, hts⟩ (k_X8_gloveFits l E a0 N s0 t0 p1 p2 q43 hc_43 _) (cwV 2 hts gX8_fitsAct_X8_gloveFits rfl rfl rfl (by decide +kernel) ⟨(Nat.le_of_ble_eq_true rfl), (Nat.le_of_ble_eq_true rfl)⟩) (pre_v (ci := 8) (q0 := 0) hK hP (hDD s0 t0) hS hG hAB rfl rfl) rfl rfl hl.1 rfl (lv_room (Nat.le_of_ble_eq_true rfl)) dX8_fitsAct_43 ⟨Nat.zero_le _, Nat.zero_le _⟩) hS (w_free (hDD s0 t0) hS hA (fun _ h => h)) (fun H locs hP1 hk hS => ?_)
    have hP := hP1
    have e9 := Option.some.inj hf
    exact rt_i hx hb hr hlocks (fst_e e9) (rtP (P := fun z => va_P E.1 vwCl (wX8 E a0 z.2 t0) H) e9 hP) hS dX8_fitsAct_46
  · have hf := ite_f c_6_0 hf
    by_cases c_6_1 : (s0 3 p1.toNatClampNeg) = 4
    · have hf := ite_t c_6_1 hf
      refine lv_lookup (off := 41) (tgt := 47) hx hb dX8_fitsAct_6 (by decide) (by rw [lv_osw c_6_0 (by decide)]; rw [c_6_1]; rfl) (by decide) ?_
      refine lv_aload_n hx hb dX8_fitsAct_47 rfl (lv_at hl 0 rfl) ?_
      refine lv_bipush (v := 51) hx hb dX8_fitsAct_48 (by decide) ?_
      obtain ⟨q50, hc_50, hf⟩ := cl_e hf
      refine fin_v (E := E) (wc := wX8 E a0 s0 t0) (wc' := wX8 E a0 q50 t0) (va_runV (As := [.int 51]) (rest := []) ⟨hx, hb, hml, hown, hts⟩ (k_X8_body l E a0 N s0 t0 51 q50 hc_50 _) (cwV 1 hts gX8_fitsAct_X8_body rfl rfl rfl (by decide +kernel) ⟨(Nat.le_of_ble_eq_true rfl), (Nat.le_of_ble_eq_true rfl)⟩) (pre_v (ci := 8) (q0 := 0) hK hP (hDD s0 t0) hS hG hAB rfl rfl) rfl rfl hl.1 rfl (lv_room (Nat.le_of_ble_eq_true rfl)) dX8_fitsAct_50 ⟨Nat.zero_le _, Nat.zero_le _⟩) hS (w_free (hDD s0 t0) hS hA (fun _ h => h)) (fun H locs hP1 hk hS => ?_)
      have hP := hP1
      refine lv_aload_n hx hb dX8_fitsAct_53 rfl (lv_at hl 0 rfl) ?_
      refine lv_iload_n hx hb dX8_fitsAct_54 rfl (lv_at hl 1 rfl) ?_
      refine lv_iload_n hx hb dX8_fitsAct_55 rfl (lv_at hl 2 rfl) ?_
      refine lv_iconst (v := 1) hx hb dX8_fitsAct_56 (by decide) ?_
      refine lv_iadd hx hb dX8_fitsAct_57 ?_
      obtain ⟨q58, hc_58, hf⟩ := cl_e hf
      refine fin_i (E := E) (wc := wX8 E a0 q50 t0) (wc' := wX8 E a0 q58.2 t0) (va_runV (As := [.int p1, .int (p2 + 1)]) (rest := []) ⟨hx, hb, hml, hown, hts⟩ (k_X8_gloveFits l E a0 N q50 t0 p1 (p2 + 1) q58 hc_58 _) (cwV 2 hts gX8_fitsAct_X8_gloveFits rfl rfl rfl (by decide +kernel) ⟨(Nat.le_of_ble_eq_true rfl), (Nat.le_of_ble_eq_true rfl)⟩) (pre_v (ci := 8) (q0 := 0) hK hP (hDD q50 t0) hS hG hAB rfl rfl) rfl rfl hl.1 rfl (lv_room (Nat.le_of_ble_eq_true rfl)) dX8_fitsAct_58 ⟨Nat.zero_le _, Nat.zero_le _⟩) hS (w_free (hDD q50 t0) hS hA (fun _ h => h)) (fun H locs hP1 hk hS => ?_)
      have hP := hP1
      have e9 := Option.some.inj hf
      exact rt_i hx hb hr hlocks (fst_e e9) (rtP (P := fun z => va_P E.1 vwCl (wX8 E a0 z.2 t0) H) e9 hP) hS dX8_fitsAct_61
    · have hf := ite_f c_6_1 hf
      by_cases c_6_2 : (s0 3 p1.toNatClampNeg) = 6
      · have hf := ite_t c_6_2 hf
        refine lv_lookup (off := 56) (tgt := 62) hx hb dX8_fitsAct_6 (by decide) (by rw [lv_osw c_6_0 (by decide)]; rw [lv_osw c_6_1 (by decide)]; rw [c_6_2]; rfl) (by decide) ?_
        refine lv_aload_n hx hb dX8_fitsAct_62 rfl (lv_at hl 0 rfl) ?_
        refine lv_bipush (v := 70) hx hb dX8_fitsAct_63 (by decide) ?_
        obtain ⟨q65, hc_65, hf⟩ := cl_e hf
        refine fin_v (E := E) (wc := wX8 E a0 s0 t0) (wc' := wX8 E a0 q65 t0) (va_runV (As := [.int 70]) (rest := []) ⟨hx, hb, hml, hown, hts⟩ (k_X8_body l E a0 N s0 t0 70 q65 hc_65 _) (cwV 1 hts gX8_fitsAct_X8_body rfl rfl rfl (by decide +kernel) ⟨(Nat.le_of_ble_eq_true rfl), (Nat.le_of_ble_eq_true rfl)⟩) (pre_v (ci := 8) (q0 := 0) hK hP (hDD s0 t0) hS hG hAB rfl rfl) rfl rfl hl.1 rfl (lv_room (Nat.le_of_ble_eq_true rfl)) dX8_fitsAct_65 ⟨Nat.zero_le _, Nat.zero_le _⟩) hS (w_free (hDD s0 t0) hS hA (fun _ h => h)) (fun H locs hP1 hk hS => ?_)
        have hP := hP1
        refine lv_aload_n hx hb dX8_fitsAct_68 rfl (lv_at hl 0 rfl) ?_
        refine lv_iload_n hx hb dX8_fitsAct_69 rfl (lv_at hl 1 rfl) ?_
        refine lv_iload_n hx hb dX8_fitsAct_70 rfl (lv_at hl 2 rfl) ?_
        obtain ⟨q71, hc_71, hf⟩ := cl_e hf
        refine fin_i (E := E) (wc := wX8 E a0 q65 t0) (wc' := wX8 E a0 q71.2 t0) (va_runV (As := [.int p1, .int p2]) (rest := []) ⟨hx, hb, hml, hown, hts⟩ (k_X8_thingFits l E a0 N q65 t0 p1 p2 q71 hc_71 _) (cwV 2 hts gX8_fitsAct_X8_thingFits rfl rfl rfl (by decide +kernel) ⟨(Nat.le_of_ble_eq_true rfl), (Nat.le_of_ble_eq_true rfl)⟩) (pre_v (ci := 8) (q0 := 0) hK hP (hDD q65 t0) hS hG hAB rfl rfl) rfl rfl hl.1 rfl (lv_room (Nat.le_of_ble_eq_true rfl)) dX8_fitsAct_71 ⟨Nat.zero_le _, Nat.zero_le _⟩) hS (w_free (hDD q65 t0) hS hA (fun _ h => h)) (fun H locs hP1 hk hS => ?_)
        have hP := hP1
        refine lv_topi (fun x74 e_x74 => ?_)
        have hf := nm_q e_x74 hf
        refine lv_istore_n (lv' := [(3, .int x74), (0, .ref (a0 0)), (1, .int p1), (2, .int p2)]) hx hb dX8_fitsAct_74 rfl hl (Nat.le_of_ble_eq_true rfl) rfl (fun ls hl => ?_)
        refine lv_iload_n hx hb dX8_fitsAct_75 rfl (lv_at hl 0 rfl) ?_
        refine lv_aload_n hx hb dX8_fitsAct_76 rfl (lv_at hl 1 rfl) ?_
        refine lv_iload_n hx hb dX8_fitsAct_77 rfl (lv_at hl 2 rfl) ?_
        refine lv_iconst (v := 2) hx hb dX8_fitsAct_78 (by decide) ?_
        obtain ⟨q79, hc_79, hf⟩ := cl_e hf
        refine fin_i (E := E) (wc := wX8 E a0 q71.2 t0) (wc' := wX8 E a0 q79.2 t0) (va_runV (As := [.int p1, .int 2]) (rest := [.int x74]) ⟨hx, hb, hml, hown, hts⟩ (k_X8_thingLies l E a0 N q71.2 t0 p1 2 q79 hc_79 _) (cwV 2 hts gX8_fitsAct_X8_thingLies rfl rfl rfl (by decide +kernel) ⟨(Nat.le_of_ble_eq_true rfl), (Nat.le_of_ble_eq_true rfl)⟩) (pre_v (ci := 8) (q0 := 0) hK hP (hDD q71.2 t0) hS hG hAB rfl rfl) rfl rfl hl.1 rfl (lv_room (Nat.le_of_ble_eq_true rfl)) dX8_fitsAct_79 ⟨Nat.zero_le _, Nat.zero_le _⟩) hS (w_free (hDD q71.2 t0) hS hA (fun _ h => h)) (fun H locs hP1 hk hS => ?_)
        have hP := hP1
        refine lv_iadd hx hb dX8_fitsAct_82 ?_
        have e9 := Option.some.inj hf
        exact rt_i hx hb hr hlocks (fst_e e9) (rtP (P := fun z => va_P E.1 vwCl (wX8 E a0 z.2 t0) H) e9 hP) hS dX8_fitsAct_83
      · have hf := ite_f c_6_2 hf
        refine lv_lookup (off := 78) (tgt := 84) hx hb dX8_fitsAct_6 (by decide) (by rw [lv_osw c_6_0 (by decide)]; rw [lv_osw c_6_1 (by decide)]; rw [lv_osw c_6_2 (by decide)]; rfl) (by decide) ?_
        refine lv_aload_n hx hb dX8_fitsAct_84 rfl (lv_at hl 0 rfl) ?_
        refine lv_iload_n hx hb dX8_fitsAct_85 rfl (lv_at hl 1 rfl) ?_
        refine lv_iload_n hx hb dX8_fitsAct_86 rfl (lv_at hl 2 rfl) ?_
        obtain ⟨q87, hc_87, hf⟩ := cl_e hf
        refine fin_i (E := E) (wc := wX8 E a0 s0 t0) (wc' := wX8 E a0 q87.2 t0) (va_runV (As := [.int p1, .int p2]) (rest := []) ⟨hx, hb, hml, hown, hts⟩ (k_X8_thingFits l E a0 N s0 t0 p1 p2 q87 hc_87 _) (cwV 2 hts gX8_fitsAct_X8_thingFits rfl rfl rfl (by decide +kernel) ⟨(Nat.le_of_ble_eq_true rfl), (Nat.le_of_ble_eq_true rfl)⟩) (pre_v (ci := 8) (q0 := 0) hK hP (hDD s0 t0) hS hG hAB rfl rfl) rfl rfl hl.1 rfl (lv_room (Nat.le_of_ble_eq_true rfl)) dX8_fitsAct_87 ⟨Nat.zero_le _, Nat.zero_le _⟩) hS (w_free (hDD s0 t0) hS hA (fun _ h => h)) (fun H locs hP1 hk hS => ?_)
        have hP := hP1
        have e9 := Option.some.inj hf
        exact rt_i hx hb hr hlocks (fst_e e9) (rtP (P := fun z => va_P E.1 vwCl (wX8 E a0 z.2 t0) H) e9 hP) hS dX8_fitsAct_90
abbrev rm_X8_thingTells : Room := { frames := 6, cells := 0, slots := 0, locals := 132 }
set_option maxHeartbeats 8000000 in
set_option maxRecDepth 100000 in
theorem k_X8_thingTells (l : Launch) (E : Ev) (a0 : Nat → Nat) (N : Nat) (s0 : St) (t0 : Nat → Nat → Int64) (p1 : Int32) (p2 : Int32) (q : (Int32 × St)) (hf : f_X8_thingTells N s0 p1 p2 = some q) : Ci l yX8_thingTells wsX8_thingTells rm_X8_thingTells E [.ref (a0 0), .int p1, .int p2] (wX8 E a0 s0 t0) (wX8 E a0 q.2 t0) q.1 := by
  unfold f_X8_thingTells at hf
  intro sz
  refine Met.ofW (cc := cX8_thingTells) (maxL := 3) (ret := (some .int)) (by decide) rfl ?_
  intro p e s m args below meth c s₁ B hml hv
  obtain ⟨rfl, hsz, hP, hK, hD0, hG, hA, hAB⟩ := start hv
  have hx := B.exec
  have hb := B.bytes
  have hr := B.returns
  have hts := atoms_spec (ws := wsX8_thingTells) B.pre
  have hown : s.vm.findClass RX8 = some m.cls := findClass_of_methodNamed B.named
  have hlocks := B.notSynchronized
  subst hsz
  generalize va_A (wX8 E a0 s0 t0) s.heap.size = A0 at hD0 hA hAB ⊢
  have hDD : ∀ (s0 : St) (t0 : Nat → Nat → Int64), va_D A0 (wX8 E a0 s0 t0) := fun s0 t0 => vD_addr hD0 rfl
  have hS : va_S A0 s.heap s.heap [] := va_S.rf
  have hl := lv_entry ([.ref (a0 0), .int p1, .int p2]) (n := 3) (Nat.le_of_ble_eq_true rfl)
  rw [lg_entry_eq]
  generalize (lg_sl ([.ref (a0 0), .int p1, .int p2]) ++ List.replicate (3 - (lg_sl ([.ref (a0 0), .int p1, .int p2])).length) Slot.unset).toArray = ls at hl ⊢
  have hl : lv_has ls 3 [(0, .ref (a0 0)), (1, .int p1), (2, .int p2)] := hl
  refine lv_aload_n hx hb dX8_thingTells_0 rfl (lv_at hl 0 rfl) ?_
  refine lv_bipush (v := 12) hx hb dX8_thingTells_1 (by decide) ?_
  obtain ⟨q3, hc_3, hf⟩ := cl_e hf
  refine fin_v (E := E) (wc := wX8 E a0 s0 t0) (wc' := wX8 E a0 q3 t0) (va_runV (As := [.int 12]) (rest := []) ⟨hx, hb, hml, hown, hts⟩ (k_X8_body l E a0 N s0 t0 12 q3 hc_3 _) (cwV 1 hts gX8_thingTells_X8_body rfl rfl rfl (by decide +kernel) ⟨(Nat.le_of_ble_eq_true rfl), (Nat.le_of_ble_eq_true rfl)⟩) (pre_v (ci := 8) (q0 := 0) hK hP (hDD s0 t0) hS hG hAB rfl rfl) rfl rfl hl.1 rfl (lv_room (Nat.le_of_ble_eq_true rfl)) dX8_thingTells_3 ⟨Nat.zero_le _, Nat.zero_le _⟩) hS (w_free (hDD s0 t0) hS hA (fun _ h => h)) (fun H locs hP1 hk hS => ?_)
  have hP := hP1
  refine lv_aload_n hx hb dX8_thingTells_6 rfl (lv_at hl 0 rfl) ?_
  refine lv_iload_n hx hb dX8_thingTells_7 rfl (lv_at hl 1 rfl) ?_
  refine lv_iload_n hx hb dX8_thingTells_8 rfl (lv_at hl 2 rfl) ?_
  obtain ⟨q9, hc_9, hf⟩ := cl_e hf
  refine fin_i (E := E) (wc := wX8 E a0 q3 t0) (wc' := wX8 E a0 q9.2 t0) (va_runV (As := [.int p1, .int p2]) (rest := []) ⟨hx, hb, hml, hown, hts⟩ (k_X8_fitsAct l E a0 N q3 t0 p1 p2 q9 hc_9 _) (cwV 2 hts gX8_thingTells_X8_fitsAct rfl rfl rfl (by decide +kernel) ⟨(Nat.le_of_ble_eq_true rfl), (Nat.le_of_ble_eq_true rfl)⟩) (pre_v (ci := 8) (q0 := 0) hK hP (hDD q3 t0) hS hG hAB rfl rfl) rfl rfl hl.1 rfl (lv_room (Nat.le_of_ble_eq_true rfl)) dX8_thingTells_9 ⟨Nat.zero_le _, Nat.zero_le _⟩) hS (w_free (hDD q3 t0) hS hA (fun _ h => h)) (fun H locs hP1 hk hS => ?_)
  have hP := hP1
  refine lv_iconst (v := 2) hx hb dX8_thingTells_12 (by decide) ?_
  refine lv_imul hx hb dX8_thingTells_13 ?_
  have e9 := Option.some.inj hf
  exact rt_i hx hb hr hlocks (fst_e e9) (rtP (P := fun z => va_P E.1 vwCl (wX8 E a0 z.2 t0) H) e9 hP) hS dX8_thingTells_14
abbrev rm_X8_tellsAct : Room := { frames := 7, cells := 0, slots := 0, locals := 154 }
theorem m_X8_tellsAct_275364 : Cond.fieldLink RX8 19 "PickedMatchModel" "kind" "[I" ∈ wsX8_tellsAct := by decide +kernel
theorem i_X8_tellsAct_X8 : ∀ w ∈ wsX80, w ∈ wsX8_tellsAct := fun _ h => List.mem_cons_of_mem _ (List.mem_append_right _ h)
set_option maxHeartbeats 8000000 in
set_option maxRecDepth 100000 in
theorem k_X8_tellsAct (l : Launch) (E : Ev) (a0 : Nat → Nat) (N : Nat) (s0 : St) (t0 : Nat → Nat → Int64) (p1 : Int32) (p2 : Int32) (q : (Int32 × St)) (hf : f_X8_tellsAct N s0 p1 p2 = some q) : Ci l yX8_tellsAct wsX8_tellsAct rm_X8_tellsAct E [.ref (a0 0), .int p1, .int p2] (wX8 E a0 s0 t0) (wX8 E a0 q.2 t0) q.1 := by
  unfold f_X8_tellsAct at hf
  intro sz
  refine Met.ofW (cc := cX8_tellsAct) (maxL := 4) (ret := (some .int)) (by decide) rfl ?_
  intro p e s m args below meth c s₁ B hml hv
  obtain ⟨rfl, hsz, hP, hK, hD0, hG, hA, hAB⟩ := start hv
  have hx := B.exec
  have hb := B.bytes
  have hr := B.returns
  have hts := atoms_spec (ws := wsX8_tellsAct) B.pre
  have hown : s.vm.findClass RX8 = some m.cls := findClass_of_methodNamed B.named
  have hlocks := B.notSynchronized
  subst hsz
  generalize va_A (wX8 E a0 s0 t0) s.heap.size = A0 at hD0 hA hAB ⊢
  have hDD : ∀ (s0 : St) (t0 : Nat → Nat → Int64), va_D A0 (wX8 E a0 s0 t0) := fun s0 t0 => vD_addr hD0 rfl
  have hS : va_S A0 s.heap s.heap [] := va_S.rf
  have hl := lv_entry ([.ref (a0 0), .int p1, .int p2]) (n := 4) (Nat.le_of_ble_eq_true rfl)
  rw [lg_entry_eq]
  generalize (lg_sl ([.ref (a0 0), .int p1, .int p2]) ++ List.replicate (4 - (lg_sl ([.ref (a0 0), .int p1, .int p2])).length) Slot.unset).toArray = ls at hl ⊢
  have hl : lv_has ls 4 [(0, .ref (a0 0)), (1, .int p1), (2, .int p2)] := hl
  refine lv_aload_n hx hb dX8_tellsAct_0 rfl (lv_at hl 0 rfl) ?_
  refine va_get (ci := 8) (C := RX8) (T := TX8) (N := 67) (v := .ref (a0 1)) hx hb hts i_X8_tellsAct_X8 hown hK hP 0 rfl rfl 3 (by decide) (hts _ m_X8_tellsAct_275364) (fun _ h9 => h9) rfl dX8_tellsAct_1 ?_
  refine lv_iload_n hx hb dX8_tellsAct_4 rfl (lv_at hl 1 rfl) ?_
  obtain ⟨h_5, hf⟩ := ck_e hf
  refine va_iald (cA := E.2.1) (n := 6) (f := s0 3) hx hb hK hP 1 0 rfl rfl h_5 dX8_tellsAct_5 ?_
  by_cases c_6_0 : (s0 3 p1.toNatClampNeg) = 3
  · have hf := ite_t c_6_0 hf
    refine lv_tableIn (off := 30) (tgt := 36) hx hb dX8_tellsAct_6 (by rw [c_6_0]; decide) (by rw [c_6_0]; decide) (by rw [c_6_0]; rfl) (by decide) ?_
    refine lv_aload_n hx hb dX8_tellsAct_36 rfl (lv_at hl 0 rfl) ?_
    refine lv_bipush (v := 40) hx hb dX8_tellsAct_37 (by decide) ?_
    obtain ⟨q39, hc_39, hf⟩ := cl_e hf
    refine fin_v (E := E) (wc := wX8 E a0 s0 t0) (wc' := wX8 E a0 q39 t0) (va_runV (As := [.int 40]) (rest := []) ⟨hx, hb, hml, hown, hts⟩ (k_X8_body l E a0 N s0 t0 40 q39 hc_39 _) (cwV 1 hts gX8_tellsAct_X8_body rfl rfl rfl (by decide +kernel) ⟨(Nat.le_of_ble_eq_true rfl), (Nat.le_of_ble_eq_true rfl)⟩) (pre_v (ci := 8) (q0 := 0) hK hP (hDD s0 t0) hS hG hAB rfl rfl) rfl rfl hl.1 rfl (lv_room (Nat.le_of_ble_eq_true rfl)) dX8_tellsAct_39 ⟨Nat.zero_le _, Nat.zero_le _⟩) hS (w_free (hDD s0 t0) hS hA (fun _ h => h)) (fun H locs hP1 hk hS => ?_)
    have hP := hP1
    refine lv_aload_n hx hb dX8_tellsAct_42 rfl (lv_at hl 0 rfl) ?_
    refine lv_iload_n hx hb dX8_tellsAct_43 rfl (lv_at hl 1 rfl) ?_
    refine lv_iload_n hx hb dX8_tellsAct_44 rfl (lv_at hl 2 rfl) ?_
    obtain ⟨q45, hc_45, hf⟩ := cl_e hf
    refine fin_i (E := E) (wc := wX8 E a0 q39 t0) (wc' := wX8 E a0 q45.2 t0) (va_runV (As := [.int p1, .int p2]) (rest := []) ⟨hx, hb, hml, hown, hts⟩ (k_X8_thingTells l E a0 N q39 t0 p1 p2 q45 hc_45 _) (cwV 2 hts gX8_tellsAct_X8_thingTells rfl rfl rfl (by decide +kernel) ⟨(Nat.le_of_ble_eq_true rfl), (Nat.le_of_ble_eq_true rfl)⟩) (pre_v (ci := 8) (q0 := 0) hK hP (hDD q39 t0) hS hG hAB rfl rfl) rfl rfl hl.1 rfl (lv_room (Nat.le_of_ble_eq_true rfl)) dX8_tellsAct_45 ⟨Nat.zero_le _, Nat.zero_le _⟩) hS (w_free (hDD q39 t0) hS hA (fun _ h => h)) (fun H locs hP1 hk hS => ?_)
    have hP := hP1
    refine lv_topi (fun x48 e_x48 => ?_)
    have hf := nm_q e_x48 hf
    refine lv_istore_n (lv' := [(3, .int x48), (0, .ref (a0 0)), (1, .int p1), (2, .int p2)]) hx hb dX8_tellsAct_48 rfl hl (Nat.le_of_ble_eq_true rfl) rfl (fun ls hl => ?_)
    refine lv_iload_n hx hb dX8_tellsAct_49 rfl (lv_at hl 0 rfl) ?_
    refine lv_aload_n hx hb dX8_tellsAct_50 rfl (lv_at hl 1 rfl) ?_
    refine lv_iload_n hx hb dX8_tellsAct_51 rfl (lv_at hl 2 rfl) ?_
    refine lv_iconst (v := 1) hx hb dX8_tellsAct_52 (by decide) ?_
    obtain ⟨q53, hc_53, hf⟩ := cl_e hf
    refine fin_i (E := E) (wc := wX8 E a0 q45.2 t0) (wc' := wX8 E a0 q53.2 t0) (va_runV (As := [.int p1, .int 1]) (rest := [.int x48]) ⟨hx, hb, hml, hown, hts⟩ (k_X8_fitsAct l E a0 N q45.2 t0 p1 1 q53 hc_53 _) (cwV 2 hts gX8_tellsAct_X8_fitsAct rfl rfl rfl (by decide +kernel) ⟨(Nat.le_of_ble_eq_true rfl), (Nat.le_of_ble_eq_true rfl)⟩) (pre_v (ci := 8) (q0 := 0) hK hP (hDD q45.2 t0) hS hG hAB rfl rfl) rfl rfl hl.1 rfl (lv_room (Nat.le_of_ble_eq_true rfl)) dX8_tellsAct_53 ⟨Nat.zero_le _, Nat.zero_le _⟩) hS (w_free (hDD q45.2 t0) hS hA (fun _ h => h)) (fun H locs hP1 hk hS => ?_)
    have hP := hP1
    refine lv_iadd hx hb dX8_tellsAct_56 ?_
    have e9 := Option.some.inj hf
    exact rt_i hx hb hr hlocks (fst_e e9) (rtP (P := fun z => va_P E.1 vwCl (wX8 E a0 z.2 t0) H) e9 hP) hS dX8_tellsAct_57
  · have hf := ite_f c_6_0 hf
    by_cases c_6_1 : (s0 3 p1.toNatClampNeg) = 4
    · have hf := ite_t c_6_1 hf
      refine lv_tableIn (off := 67) (tgt := 73) hx hb dX8_tellsAct_6 (by rw [c_6_1]; decide) (by rw [c_6_1]; decide) (by rw [c_6_1]; rfl) (by decide) ?_
      refine lv_aload_n hx hb dX8_tellsAct_73 rfl (lv_at hl 0 rfl) ?_
      refine lv_iload_n hx hb dX8_tellsAct_74 rfl (lv_at hl 1 rfl) ?_
      refine lv_iload_n hx hb dX8_tellsAct_75 rfl (lv_at hl 2 rfl) ?_
      obtain ⟨q76, hc_76, hf⟩ := cl_e hf
      refine fin_i (E := E) (wc := wX8 E a0 s0 t0) (wc' := wX8 E a0 q76.2 t0) (va_runV (As := [.int p1, .int p2]) (rest := []) ⟨hx, hb, hml, hown, hts⟩ (k_X8_thingTells l E a0 N s0 t0 p1 p2 q76 hc_76 _) (cwV 2 hts gX8_tellsAct_X8_thingTells rfl rfl rfl (by decide +kernel) ⟨(Nat.le_of_ble_eq_true rfl), (Nat.le_of_ble_eq_true rfl)⟩) (pre_v (ci := 8) (q0 := 0) hK hP (hDD s0 t0) hS hG hAB rfl rfl) rfl rfl hl.1 rfl (lv_room (Nat.le_of_ble_eq_true rfl)) dX8_tellsAct_76 ⟨Nat.zero_le _, Nat.zero_le _⟩) hS (w_free (hDD s0 t0) hS hA (fun _ h => h)) (fun H locs hP1 hk hS => ?_)
      have hP := hP1
      have e9 := Option.some.inj hf
      exact rt_i hx hb hr hlocks (fst_e e9) (rtP (P := fun z => va_P E.1 vwCl (wX8 E a0 z.2 t0) H) e9 hP) hS dX8_tellsAct_79
    · have hf := ite_f c_6_1 hf
      by_cases c_6_2 : (s0 3 p1.toNatClampNeg) = 5
      · have hf := ite_t c_6_2 hf
        refine lv_tableIn (off := 52) (tgt := 58) hx hb dX8_tellsAct_6 (by rw [c_6_2]; decide) (by rw [c_6_2]; decide) (by rw [c_6_2]; rfl) (by decide) ?_
        refine lv_aload_n hx hb dX8_tellsAct_58 rfl (lv_at hl 0 rfl) ?_
        refine lv_bipush (v := 60) hx hb dX8_tellsAct_59 (by decide) ?_
        obtain ⟨q61, hc_61, hf⟩ := cl_e hf
        refine fin_v (E := E) (wc := wX8 E a0 s0 t0) (wc' := wX8 E a0 q61 t0) (va_runV (As := [.int 60]) (rest := []) ⟨hx, hb, hml, hown, hts⟩ (k_X8_body l E a0 N s0 t0 60 q61 hc_61 _) (cwV 1 hts gX8_tellsAct_X8_body rfl rfl rfl (by decide +kernel) ⟨(Nat.le_of_ble_eq_true rfl), (Nat.le_of_ble_eq_true rfl)⟩) (pre_v (ci := 8) (q0 := 0) hK hP (hDD s0 t0) hS hG hAB rfl rfl) rfl rfl hl.1 rfl (lv_room (Nat.le_of_ble_eq_true rfl)) dX8_tellsAct_61 ⟨Nat.zero_le _, Nat.zero_le _⟩) hS (w_free (hDD s0 t0) hS hA (fun _ h => h)) (fun H locs hP1 hk hS => ?_)
        have hP := hP1
        refine lv_aload_n hx hb dX8_tellsAct_64 rfl (lv_at hl 0 rfl) ?_
        refine lv_iload_n hx hb dX8_tellsAct_65 rfl (lv_at hl 1 rfl) ?_
        refine lv_iload_n hx hb dX8_tellsAct_66 rfl (lv_at hl 2 rfl) ?_
        refine lv_iload_n hx hb dX8_tellsAct_67 rfl (lv_at hl 1 rfl) ?_
        refine lv_isub hx hb dX8_tellsAct_68 ?_
        obtain ⟨q69, hc_69, hf⟩ := cl_e hf
        refine fin_i (E := E) (wc := wX8 E a0 q61 t0) (wc' := wX8 E a0 q69.2 t0) (va_runV (As := [.int p1, .int (p2 - p1)]) (rest := []) ⟨hx, hb, hml, hown, hts⟩ (k_X8_thingTells l E a0 N q61 t0 p1 (p2 - p1) q69 hc_69 _) (cwV 2 hts gX8_tellsAct_X8_thingTells rfl rfl rfl (by decide +kernel) ⟨(Nat.le_of_ble_eq_true rfl), (Nat.le_of_ble_eq_true rfl)⟩) (pre_v (ci := 8) (q0 := 0) hK hP (hDD q61 t0) hS hG hAB rfl rfl) rfl rfl hl.1 rfl (lv_room (Nat.le_of_ble_eq_true rfl)) dX8_tellsAct_69 ⟨Nat.zero_le _, Nat.zero_le _⟩) hS (w_free (hDD q61 t0) hS hA (fun _ h => h)) (fun H locs hP1 hk hS => ?_)
        have hP := hP1
        have e9 := Option.some.inj hf
        exact rt_i hx hb hr hlocks (fst_e e9) (rtP (P := fun z => va_P E.1 vwCl (wX8 E a0 z.2 t0) H) e9 hP) hS dX8_tellsAct_72
      · have hf := ite_f c_6_2 hf
        by_cases c_6_3 : (s0 3 p1.toNatClampNeg) = 6
        · have hf := ite_t c_6_3 hf
          refine lv_tableIn (off := 30) (tgt := 36) hx hb dX8_tellsAct_6 (by rw [c_6_3]; decide) (by rw [c_6_3]; decide) (by rw [c_6_3]; rfl) (by decide) ?_
          refine lv_aload_n hx hb dX8_tellsAct_36 rfl (lv_at hl 0 rfl) ?_
          refine lv_bipush (v := 40) hx hb dX8_tellsAct_37 (by decide) ?_
          obtain ⟨q39, hc_39, hf⟩ := cl_e hf
          refine fin_v (E := E) (wc := wX8 E a0 s0 t0) (wc' := wX8 E a0 q39 t0) (va_runV (As := [.int 40]) (rest := []) ⟨hx, hb, hml, hown, hts⟩ (k_X8_body l E a0 N s0 t0 40 q39 hc_39 _) (cwV 1 hts gX8_tellsAct_X8_body rfl rfl rfl (by decide +kernel) ⟨(Nat.le_of_ble_eq_true rfl), (Nat.le_of_ble_eq_true rfl)⟩) (pre_v (ci := 8) (q0 := 0) hK hP (hDD s0 t0) hS hG hAB rfl rfl) rfl rfl hl.1 rfl (lv_room (Nat.le_of_ble_eq_true rfl)) dX8_tellsAct_39 ⟨Nat.zero_le _, Nat.zero_le _⟩) hS (w_free (hDD s0 t0) hS hA (fun _ h => h)) (fun H locs hP1 hk hS => ?_)
          have hP := hP1
          refine lv_aload_n hx hb dX8_tellsAct_42 rfl (lv_at hl 0 rfl) ?_
          refine lv_iload_n hx hb dX8_tellsAct_43 rfl (lv_at hl 1 rfl) ?_
          refine lv_iload_n hx hb dX8_tellsAct_44 rfl (lv_at hl 2 rfl) ?_
          obtain ⟨q45, hc_45, hf⟩ := cl_e hf
          refine fin_i (E := E) (wc := wX8 E a0 q39 t0) (wc' := wX8 E a0 q45.2 t0) (va_runV (As := [.int p1, .int p2]) (rest := []) ⟨hx, hb, hml, hown, hts⟩ (k_X8_thingTells l E a0 N q39 t0 p1 p2 q45 hc_45 _) (cwV 2 hts gX8_tellsAct_X8_thingTells rfl rfl rfl (by decide +kernel) ⟨(Nat.le_of_ble_eq_true rfl), (Nat.le_of_ble_eq_true rfl)⟩) (pre_v (ci := 8) (q0 := 0) hK hP (hDD q39 t0) hS hG hAB rfl rfl) rfl rfl hl.1 rfl (lv_room (Nat.le_of_ble_eq_true rfl)) dX8_tellsAct_45 ⟨Nat.zero_le _, Nat.zero_le _⟩) hS (w_free (hDD q39 t0) hS hA (fun _ h => h)) (fun H locs hP1 hk hS => ?_)
          have hP := hP1
          refine lv_topi (fun x48 e_x48 => ?_)
          have hf := nm_q e_x48 hf
          refine lv_istore_n (lv' := [(3, .int x48), (0, .ref (a0 0)), (1, .int p1), (2, .int p2)]) hx hb dX8_tellsAct_48 rfl hl (Nat.le_of_ble_eq_true rfl) rfl (fun ls hl => ?_)
          refine lv_iload_n hx hb dX8_tellsAct_49 rfl (lv_at hl 0 rfl) ?_
          refine lv_aload_n hx hb dX8_tellsAct_50 rfl (lv_at hl 1 rfl) ?_
          refine lv_iload_n hx hb dX8_tellsAct_51 rfl (lv_at hl 2 rfl) ?_
          refine lv_iconst (v := 1) hx hb dX8_tellsAct_52 (by decide) ?_
          obtain ⟨q53, hc_53, hf⟩ := cl_e hf
          refine fin_i (E := E) (wc := wX8 E a0 q45.2 t0) (wc' := wX8 E a0 q53.2 t0) (va_runV (As := [.int p1, .int 1]) (rest := [.int x48]) ⟨hx, hb, hml, hown, hts⟩ (k_X8_fitsAct l E a0 N q45.2 t0 p1 1 q53 hc_53 _) (cwV 2 hts gX8_tellsAct_X8_fitsAct rfl rfl rfl (by decide +kernel) ⟨(Nat.le_of_ble_eq_true rfl), (Nat.le_of_ble_eq_true rfl)⟩) (pre_v (ci := 8) (q0 := 0) hK hP (hDD q45.2 t0) hS hG hAB rfl rfl) rfl rfl hl.1 rfl (lv_room (Nat.le_of_ble_eq_true rfl)) dX8_tellsAct_53 ⟨Nat.zero_le _, Nat.zero_le _⟩) hS (w_free (hDD q45.2 t0) hS hA (fun _ h => h)) (fun H locs hP1 hk hS => ?_)
          have hP := hP1
          refine lv_iadd hx hb dX8_tellsAct_56 ?_
          have e9 := Option.some.inj hf
          exact rt_i hx hb hr hlocks (fst_e e9) (rtP (P := fun z => va_P E.1 vwCl (wX8 E a0 z.2 t0) H) e9 hP) hS dX8_tellsAct_57
        · have hf := ite_f c_6_3 hf
          refine lv_tableOut (tgt := 73) hx hb dX8_tellsAct_6 (by have n0 := lv_neT (a := 3) c_6_0 (by decide); have n1 := lv_neT (a := 4) c_6_1 (by decide); have n2 := lv_neT (a := 5) c_6_2 (by decide); have n3 := lv_neT (a := 6) c_6_3 (by decide); omega) (by decide) ?_
          refine lv_aload_n hx hb dX8_tellsAct_73 rfl (lv_at hl 0 rfl) ?_
          refine lv_iload_n hx hb dX8_tellsAct_74 rfl (lv_at hl 1 rfl) ?_
          refine lv_iload_n hx hb dX8_tellsAct_75 rfl (lv_at hl 2 rfl) ?_
          obtain ⟨q76, hc_76, hf⟩ := cl_e hf
          refine fin_i (E := E) (wc := wX8 E a0 s0 t0) (wc' := wX8 E a0 q76.2 t0) (va_runV (As := [.int p1, .int p2]) (rest := []) ⟨hx, hb, hml, hown, hts⟩ (k_X8_thingTells l E a0 N s0 t0 p1 p2 q76 hc_76 _) (cwV 2 hts gX8_tellsAct_X8_thingTells rfl rfl rfl (by decide +kernel) ⟨(Nat.le_of_ble_eq_true rfl), (Nat.le_of_ble_eq_true rfl)⟩) (pre_v (ci := 8) (q0 := 0) hK hP (hDD s0 t0) hS hG hAB rfl rfl) rfl rfl hl.1 rfl (lv_room (Nat.le_of_ble_eq_true rfl)) dX8_tellsAct_76 ⟨Nat.zero_le _, Nat.zero_le _⟩) hS (w_free (hDD s0 t0) hS hA (fun _ h => h)) (fun H locs hP1 hk hS => ?_)
          have hP := hP1
          have e9 := Option.some.inj hf
          exact rt_i hx hb hr hlocks (fst_e e9) (rtP (P := fun z => va_P E.1 vwCl (wX8 E a0 z.2 t0) H) e9 hP) hS dX8_tellsAct_79
abbrev rm_X8_act : Room := { frames := 8, cells := 0, slots := 0, locals := 177 }
theorem m_X8_act_c73d03 : Cond.fieldLink RX8 196 "PickedMatchModel" "ran" "I" ∈ wsX8_act := by decide +kernel
theorem i_X8_act_X8 : ∀ w ∈ wsX80, w ∈ wsX8_act := fun _ h => List.mem_cons_of_mem _ (List.mem_append_right _ h)
set_option maxHeartbeats 8000000 in
set_option maxRecDepth 100000 in
theorem k_X8_act (l : Launch) (E : Ev) (a0 : Nat → Nat) (N : Nat) (s0 : St) (t0 : Nat → Nat → Int64) (p1 : Int32) (p2 : Int32) (p3 : Int32) (q : (Int32 × St)) (hf : f_X8_act N s0 p1 p2 p3 = some q) : Ci l yX8_act wsX8_act rm_X8_act E [.ref (a0 0), .int p1, .int p2, .int p3] (wX8 E a0 s0 t0) (wX8 E a0 q.2 t0) q.1 := by
  unfold f_X8_act at hf
  intro sz
  refine Met.ofW (cc := cX8_act) (maxL := 4) (ret := (some .int)) (by decide) rfl ?_
  intro p e s m args below meth c s₁ B hml hv
  obtain ⟨rfl, hsz, hP, hK, hD0, hG, hA, hAB⟩ := start hv
  have hx := B.exec
  have hb := B.bytes
  have hr := B.returns
  have hts := atoms_spec (ws := wsX8_act) B.pre
  have hown : s.vm.findClass RX8 = some m.cls := findClass_of_methodNamed B.named
  have hlocks := B.notSynchronized
  subst hsz
  generalize va_A (wX8 E a0 s0 t0) s.heap.size = A0 at hD0 hA hAB ⊢
  have hDD : ∀ (s0 : St) (t0 : Nat → Nat → Int64), va_D A0 (wX8 E a0 s0 t0) := fun s0 t0 => vD_addr hD0 rfl
  have hS : va_S A0 s.heap s.heap [] := va_S.rf
  have hl := lv_entry ([.ref (a0 0), .int p1, .int p2, .int p3]) (n := 4) (Nat.le_of_ble_eq_true rfl)
  rw [lg_entry_eq]
  generalize (lg_sl ([.ref (a0 0), .int p1, .int p2, .int p3]) ++ List.replicate (4 - (lg_sl ([.ref (a0 0), .int p1, .int p2, .int p3])).length) Slot.unset).toArray = ls at hl ⊢
  have hl : lv_has ls 4 [(0, .ref (a0 0)), (1, .int p1), (2, .int p2), (3, .int p3)] := hl
  refine lv_aload_n hx hb dX8_act_0 rfl (lv_at hl 0 rfl) ?_
  refine lv_iconst (v := 0) hx hb dX8_act_1 (by decide) ?_
  refine va_put (ci := 8) (v := .int 0) (ty := .int) (C := RX8) (T := TX8) (N := 67) hx hb hts i_X8_act_X8 tyX8 tyX8_ok nmX8 hown hK hP (hDD s0 t0) hS 0 rfl rfl 61 (by decide) (hts _ m_X8_act_c73d03) (fun _ h9 => h9) rfl (by decide +kernel) rfl rfl (Nat.le_of_ble_eq_true rfl) dX8_act_2 (fun H locs hP _ hS => ?_)
  obtain ⟨s0_2, hP, hf⟩ := nm_st' (P := fun z => va_P E.1 vwCl (wX8 E a0 z t0) H) hf hP
  refine lv_aload_n hx hb dX8_act_5 rfl (lv_at hl 0 rfl) ?_
  refine lv_iload_n hx hb dX8_act_6 rfl (lv_at hl 1 rfl) ?_
  obtain ⟨q7, hc_7, hf⟩ := cl_e hf
  refine fin_i (E := E) (wc := wX8 E a0 s0_2 t0) (wc' := wX8 E a0 s0_2 t0) (va_runV (As := [.int p1]) (rest := []) ⟨hx, hb, hml, hown, hts⟩ (k_X8_isThing l E a0 N s0_2 t0 p1 q7 hc_7 _) (cwV 1 hts gX8_act_X8_isThing rfl rfl rfl (by decide +kernel) ⟨(Nat.le_of_ble_eq_true rfl), (Nat.le_of_ble_eq_true rfl)⟩) (pre_v (ci := 8) (q0 := 0) hK hP (hDD s0_2 t0) hS hG hAB rfl rfl) rfl rfl hl.1 rfl (lv_room (Nat.le_of_ble_eq_true rfl)) dX8_act_7 ⟨Nat.zero_le _, Nat.zero_le _⟩) hS (w_free (hDD s0_2 t0) hS hA (fun _ h => h)) (fun H locs hP1 hk hS => ?_)
  have hP := hP1
  refine lv_if_eq (tgt := 23) hx hb dX8_act_10 (by decide) (fun c_10 => ?_) (fun c_10 => ?_)
  · have hf := ite_t c_10 hf
    refine lv_iconst (v := 0) hx hb dX8_act_23 (by decide) ?_
    have e9 := Option.some.inj hf
    exact rt_i hx hb hr hlocks (fst_e e9) (rtP (P := fun z => va_P E.1 vwCl (wX8 E a0 z.2 t0) H) e9 hP) hS dX8_act_24
  · have hf := ite_f c_10 hf
    refine lv_aload_n hx hb dX8_act_13 rfl (lv_at hl 0 rfl) ?_
    refine lv_iload_n hx hb dX8_act_14 rfl (lv_at hl 2 rfl) ?_
    refine lv_iconst (v := 0) hx hb dX8_act_15 (by decide) ?_
    refine lv_iconst (v := 2) hx hb dX8_act_16 (by decide) ?_
    obtain ⟨q17, hc_17, hf⟩ := cl_e hf
    refine fin_i (E := E) (wc := wX8 E a0 s0_2 t0) (wc' := wX8 E a0 s0_2 t0) (va_runV (As := [.int p2, .int 0, .int 2]) (rest := []) ⟨hx, hb, hml, hown, hts⟩ (k_X8_in l E a0 N s0_2 t0 p2 0 2 q17 hc_17 _) (cwV 3 hts gX8_act_X8_in rfl rfl rfl (by decide +kernel) ⟨(Nat.le_of_ble_eq_true rfl), (Nat.le_of_ble_eq_true rfl)⟩) (pre_v (ci := 8) (q0 := 0) hK hP (hDD s0_2 t0) hS hG hAB rfl rfl) rfl rfl hl.1 rfl (lv_room (Nat.le_of_ble_eq_true rfl)) dX8_act_17 ⟨Nat.zero_le _, Nat.zero_le _⟩) hS (w_free (hDD s0_2 t0) hS hA (fun _ h => h)) (fun H locs hP1 hk hS => ?_)
    have hP := hP1
    refine lv_if_ne (tgt := 25) hx hb dX8_act_20 (by decide) (fun c_20 => ?_) (fun c_20 => ?_)
    · have hf := ite_f c_20 hf
      refine lv_iload_n hx hb dX8_act_25 rfl (lv_at hl 2 rfl) ?_
      refine lv_if_ne (tgt := 38) hx hb dX8_act_26 (by decide) (fun c_26 => ?_) (fun c_26 => ?_)
      · have hf := ite_f c_26 hf
        refine lv_iload_n hx hb dX8_act_38 rfl (lv_at hl 2 rfl) ?_
        refine lv_iconst (v := 1) hx hb dX8_act_39 (by decide) ?_
        refine lv_icmp_ne (tgt := 52) hx hb dX8_act_40 (by decide) (fun c_40 => ?_) (fun c_40 => ?_)
        · have hf := ite_f c_40 hf
          refine lv_aload_n hx hb dX8_act_52 rfl (lv_at hl 0 rfl) ?_
          refine lv_iload_n hx hb dX8_act_53 rfl (lv_at hl 1 rfl) ?_
          refine lv_iload_n hx hb dX8_act_54 rfl (lv_at hl 3 rfl) ?_
          obtain ⟨q55, hc_55, hf⟩ := cl_e hf
          refine fin_i (E := E) (wc := wX8 E a0 s0_2 t0) (wc' := wX8 E a0 q55.2 t0) (va_runV (As := [.int p1, .int p3]) (rest := []) ⟨hx, hb, hml, hown, hts⟩ (k_X8_tellsAct l E a0 N s0_2 t0 p1 p3 q55 hc_55 _) (cwV 2 hts gX8_act_X8_tellsAct rfl rfl rfl (by decide +kernel) ⟨(Nat.le_of_ble_eq_true rfl), (Nat.le_of_ble_eq_true rfl)⟩) (pre_v (ci := 8) (q0 := 0) hK hP (hDD s0_2 t0) hS hG hAB rfl rfl) rfl rfl hl.1 rfl (lv_room (Nat.le_of_ble_eq_true rfl)) dX8_act_55 ⟨Nat.zero_le _, Nat.zero_le _⟩) hS (w_free (hDD s0_2 t0) hS hA (fun _ h => h)) (fun H locs hP1 hk hS => ?_)
          have hP := hP1
          have e9 := Option.some.inj hf
          exact rt_i hx hb hr hlocks (fst_e e9) (rtP (P := fun z => va_P E.1 vwCl (wX8 E a0 z.2 t0) H) e9 hP) hS dX8_act_58
        · have hf := ite_t c_40 hf
          refine lv_aload_n hx hb dX8_act_43 rfl (lv_at hl 0 rfl) ?_
          refine lv_iload_n hx hb dX8_act_44 rfl (lv_at hl 1 rfl) ?_
          refine lv_iload_n hx hb dX8_act_45 rfl (lv_at hl 3 rfl) ?_
          obtain ⟨q46, hc_46, hf⟩ := cl_e hf
          refine fin_i (E := E) (wc := wX8 E a0 s0_2 t0) (wc' := wX8 E a0 q46.2 t0) (va_runV (As := [.int p1, .int p3]) (rest := []) ⟨hx, hb, hml, hown, hts⟩ (k_X8_fitsAct l E a0 N s0_2 t0 p1 p3 q46 hc_46 _) (cwV 2 hts gX8_act_X8_fitsAct rfl rfl rfl (by decide +kernel) ⟨(Nat.le_of_ble_eq_true rfl), (Nat.le_of_ble_eq_true rfl)⟩) (pre_v (ci := 8) (q0 := 0) hK hP (hDD s0_2 t0) hS hG hAB rfl rfl) rfl rfl hl.1 rfl (lv_room (Nat.le_of_ble_eq_true rfl)) dX8_act_46 ⟨Nat.zero_le _, Nat.zero_le _⟩) hS (w_free (hDD s0_2 t0) hS hA (fun _ h => h)) (fun H locs hP1 hk hS => ?_)
          have hP := hP1
          refine lv_goto (tgt := 58) hx hb dX8_act_49 (by decide) ?_
          have e9 := Option.some.inj hf
          exact rt_i hx hb hr hlocks (fst_e e9) (rtP (P := fun z => va_P E.1 vwCl (wX8 E a0 z.2 t0) H) e9 hP) hS dX8_act_58
      · have hf := ite_t c_26 hf
        refine lv_aload_n hx hb dX8_act_29 rfl (lv_at hl 0 rfl) ?_
        refine lv_iload_n hx hb dX8_act_30 rfl (lv_at hl 1 rfl) ?_
        refine lv_iload_n hx hb dX8_act_31 rfl (lv_at hl 3 rfl) ?_
        obtain ⟨q32, hc_32, hf⟩ := cl_e hf
        refine fin_i (E := E) (wc := wX8 E a0 s0_2 t0) (wc' := wX8 E a0 q32.2 t0) (va_runV (As := [.int p1, .int p3]) (rest := []) ⟨hx, hb, hml, hown, hts⟩ (k_X8_liesAct l E a0 N s0_2 t0 p1 p3 q32 hc_32 _) (cwV 2 hts gX8_act_X8_liesAct rfl rfl rfl (by decide +kernel) ⟨(Nat.le_of_ble_eq_true rfl), (Nat.le_of_ble_eq_true rfl)⟩) (pre_v (ci := 8) (q0 := 0) hK hP (hDD s0_2 t0) hS hG hAB rfl rfl) rfl rfl hl.1 rfl (lv_room (Nat.le_of_ble_eq_true rfl)) dX8_act_32 ⟨Nat.zero_le _, Nat.zero_le _⟩) hS (w_free (hDD s0_2 t0) hS hA (fun _ h => h)) (fun H locs hP1 hk hS => ?_)
        have hP := hP1
        refine lv_goto (tgt := 58) hx hb dX8_act_35 (by decide) ?_
        have e9 := Option.some.inj hf
        exact rt_i hx hb hr hlocks (fst_e e9) (rtP (P := fun z => va_P E.1 vwCl (wX8 E a0 z.2 t0) H) e9 hP) hS dX8_act_58
    · have hf := ite_t c_20 hf
      refine lv_iconst (v := 0) hx hb dX8_act_23 (by decide) ?_
      have e9 := Option.some.inj hf
      exact rt_i hx hb hr hlocks (fst_e e9) (rtP (P := fun z => va_P E.1 vwCl (wX8 E a0 z.2 t0) H) e9 hP) hS dX8_act_24
abbrev rm_X8_trace : Room := { frames := 1, cells := 0, slots := 0, locals := 23 }
theorem m_X8_trace_c73d03 : Cond.fieldLink RX8 196 "PickedMatchModel" "ran" "I" ∈ wsX8_trace := by decide +kernel
theorem i_X8_trace_X8 : ∀ w ∈ wsX80, w ∈ wsX8_trace := fun _ h => List.mem_cons_of_mem _ (List.mem_append_right _ h)
theorem m_X8_trace_728ccc : Cond.fieldLink RX8 199 "PickedMatchModel" "bodies" "[I" ∈ wsX8_trace := by decide +kernel
set_option maxHeartbeats 8000000 in
set_option maxRecDepth 100000 in
theorem k_X8_trace (l : Launch) (E : Ev) (a0 : Nat → Nat) (N : Nat) (s0 : St) (t0 : Nat → Nat → Int64) (p1 : Int32) (q : (Int32)) (hf : f_X8_trace N s0 p1 = some q) : Ci l yX8_trace wsX8_trace rm_X8_trace E [.ref (a0 0), .int p1] (wX8 E a0 s0 t0) (wX8 E a0 s0 t0) q := by
  unfold f_X8_trace at hf
  intro sz
  refine Met.ofW (cc := cX8_trace) (maxL := 2) (ret := (some .int)) (by decide) rfl ?_
  intro p e s m args below meth c s₁ B hml hv
  obtain ⟨rfl, hsz, hP, hK, hD0, hG, hA, hAB⟩ := start hv
  have hx := B.exec
  have hb := B.bytes
  have hr := B.returns
  have hts := atoms_spec (ws := wsX8_trace) B.pre
  have hown : s.vm.findClass RX8 = some m.cls := findClass_of_methodNamed B.named
  have hlocks := B.notSynchronized
  subst hsz
  generalize va_A (wX8 E a0 s0 t0) s.heap.size = A0 at hD0 hA hAB ⊢
  have hDD : ∀ (s0 : St) (t0 : Nat → Nat → Int64), va_D A0 (wX8 E a0 s0 t0) := fun s0 t0 => vD_addr hD0 rfl
  have hS : va_S A0 s.heap s.heap [] := va_S.rf
  have hl := lv_entry ([.ref (a0 0), .int p1]) (n := 2) (Nat.le_of_ble_eq_true rfl)
  rw [lg_entry_eq]
  generalize (lg_sl ([.ref (a0 0), .int p1]) ++ List.replicate (2 - (lg_sl ([.ref (a0 0), .int p1])).length) Slot.unset).toArray = ls at hl ⊢
  have hl : lv_has ls 2 [(0, .ref (a0 0)), (1, .int p1)] := hl
  refine lv_aload_n hx hb dX8_trace_0 rfl (lv_at hl 0 rfl) ?_
  refine lv_iload_n hx hb dX8_trace_1 rfl (lv_at hl 1 rfl) ?_
  refine lv_iconst (v := 0) hx hb dX8_trace_2 (by decide) ?_
  refine lv_bipush (v := 19) hx hb dX8_trace_3 (by decide) ?_
  obtain ⟨q5, hc_5, hf⟩ := cl_e hf
  refine fin_i (E := E) (wc := wX8 E a0 s0 t0) (wc' := wX8 E a0 s0 t0) (va_runV (As := [.int p1, .int 0, .int 19]) (rest := []) ⟨hx, hb, hml, hown, hts⟩ (k_X8_in l E a0 N s0 t0 p1 0 19 q5 hc_5 _) (cwV 3 hts gX8_trace_X8_in rfl rfl rfl (by decide +kernel) ⟨(Nat.le_of_ble_eq_true rfl), (Nat.le_of_ble_eq_true rfl)⟩) (pre_v (ci := 8) (q0 := 0) hK hP (hDD s0 t0) hS hG hAB rfl rfl) rfl rfl hl.1 rfl (lv_room (Nat.le_of_ble_eq_true rfl)) dX8_trace_5 ⟨Nat.zero_le _, Nat.zero_le _⟩) hS (w_free (hDD s0 t0) hS hA (fun _ h => h)) (fun H locs hP1 hk hS => ?_)
  have hP := hP1
  refine lv_if_eq (tgt := 28) hx hb dX8_trace_8 (by decide) (fun c_8 => ?_) (fun c_8 => ?_)
  · have hf := ite_t c_8 hf
    refine lv_iconst (v := (-1)) hx hb dX8_trace_28 (by decide) ?_
    have e9 := Option.some.inj hf
    exact rt_i hx hb hr hlocks e9 hP hS dX8_trace_29
  · have hf := ite_f c_8 hf
    refine lv_iload_n hx hb dX8_trace_11 rfl (lv_at hl 1 rfl) ?_
    refine lv_aload_n hx hb dX8_trace_12 rfl (lv_at hl 0 rfl) ?_
    refine va_get (ci := 8) (C := RX8) (T := TX8) (N := 67) (v := .int (s0 61 0)) hx hb hts i_X8_trace_X8 hown hK hP 0 rfl rfl 61 (by decide) (hts _ m_X8_trace_c73d03) (fun _ h9 => h9) rfl dX8_trace_13 ?_
    refine lv_icmp_ge (tgt := 28) hx hb dX8_trace_16 (by decide) (fun c_16 => ?_) (fun c_16 => ?_)
    · have hf := ite_t c_16 hf
      refine lv_iconst (v := (-1)) hx hb dX8_trace_28 (by decide) ?_
      have e9 := Option.some.inj hf
      exact rt_i hx hb hr hlocks e9 hP hS dX8_trace_29
    · have hf := ite_f c_16 hf
      refine lv_aload_n hx hb dX8_trace_19 rfl (lv_at hl 0 rfl) ?_
      refine va_get (ci := 8) (C := RX8) (T := TX8) (N := 67) (v := .ref (a0 38)) hx hb hts i_X8_trace_X8 hown hK hP 0 rfl rfl 62 (by decide) (hts _ m_X8_trace_728ccc) (fun _ h9 => h9) rfl dX8_trace_20 ?_
      refine lv_iload_n hx hb dX8_trace_23 rfl (lv_at hl 1 rfl) ?_
      obtain ⟨h_24, hf⟩ := ck_e hf
      refine va_iald (cA := E.2.1) (n := 20) (f := s0 62) hx hb hK hP 38 0 rfl rfl h_24 dX8_trace_24 ?_
      refine lv_goto (tgt := 29) hx hb dX8_trace_25 (by decide) ?_
      have e9 := Option.some.inj hf
      exact rt_i hx hb hr hlocks e9 hP hS dX8_trace_29
abbrev rm_X8_taken : Room := { frames := 2, cells := 0, slots := 0, locals := 44 }
theorem m_X8_taken_275364 : Cond.fieldLink RX8 19 "PickedMatchModel" "kind" "[I" ∈ wsX8_taken := by decide +kernel
theorem i_X8_taken_X8 : ∀ w ∈ wsX80, w ∈ wsX8_taken := fun _ h => List.mem_cons_of_mem _ (List.mem_append_right _ h)
set_option maxHeartbeats 8000000 in
set_option maxRecDepth 100000 in
theorem k_X8_taken (l : Launch) (E : Ev) (a0 : Nat → Nat) (N : Nat) (s0 : St) (t0 : Nat → Nat → Int64) (p1 : Int32) (p2 : Int32) (q : (Int32)) (hf : f_X8_taken N s0 p1 p2 = some q) : Ci l yX8_taken wsX8_taken rm_X8_taken E [.ref (a0 0), .int p1, .int p2] (wX8 E a0 s0 t0) (wX8 E a0 s0 t0) q := by
  unfold f_X8_taken at hf
  intro sz
  refine Met.ofW (cc := cX8_taken) (maxL := 4) (ret := (some .int)) (by decide) rfl ?_
  intro p e s m args below meth c s₁ B hml hv
  obtain ⟨rfl, hsz, hP, hK, hD0, hG, hA, hAB⟩ := start hv
  have hx := B.exec
  have hb := B.bytes
  have hr := B.returns
  have hts := atoms_spec (ws := wsX8_taken) B.pre
  have hown : s.vm.findClass RX8 = some m.cls := findClass_of_methodNamed B.named
  have hlocks := B.notSynchronized
  subst hsz
  generalize va_A (wX8 E a0 s0 t0) s.heap.size = A0 at hD0 hA hAB ⊢
  have hDD : ∀ (s0 : St) (t0 : Nat → Nat → Int64), va_D A0 (wX8 E a0 s0 t0) := fun s0 t0 => vD_addr hD0 rfl
  have hS : va_S A0 s.heap s.heap [] := va_S.rf
  have hl := lv_entry ([.ref (a0 0), .int p1, .int p2]) (n := 4) (Nat.le_of_ble_eq_true rfl)
  rw [lg_entry_eq]
  generalize (lg_sl ([.ref (a0 0), .int p1, .int p2]) ++ List.replicate (4 - (lg_sl ([.ref (a0 0), .int p1, .int p2])).length) Slot.unset).toArray = ls at hl ⊢
  have hl : lv_has ls 4 [(0, .ref (a0 0)), (1, .int p1), (2, .int p2)] := hl
  have hL_51 : ∀ (s0 : St) (v2 : Int32) (v3 : Int32), j_X8_taken_51 N s0 v2 v3 = some q → ∀ (H : Heap) (locs : List Loc) (ls : Array Slot), va_P E.1 vwCl (wX8 E a0 s0 t0) H → va_S A0 s.heap H locs → lv_has ls 4 [(2, .int v2), (3, .int v3)] → W p l e rm_X8_taken s m ([.ref (a0 0), .int p1, .int p2] : List Value).toArray below meth c H locs 0 0 (MQ below (va_Qi (fun (r' : Int32) (_ : Unit) => r' = q) (fun _ t => va_P E.1 vwCl (wX8 E a0 s0 t0) t.heap) A0) ([.ref (a0 0), .int p1, .int p2] : List Value).toArray s 0 0 A0) (F0 m 51 ls []) := by
    intro s0 v2 v3 hf H locs ls hP hS hl
    unfold j_X8_taken_51 at hf
    refine lv_iload_n hx hb dX8_taken_51 rfl (lv_at hl 0 rfl) ?_
    refine lv_iconst (v := 2) hx hb dX8_taken_52 (by decide) ?_
    refine lv_icmp_ne (tgt := 61) hx hb dX8_taken_53 (by decide) (fun c_53 => ?_) (fun c_53 => ?_)
    · have hf := ite_f c_53 hf
      refine lv_iload_n hx hb dX8_taken_61 rfl (lv_at hl 0 rfl) ?_
      refine lv_iconst (v := 3) hx hb dX8_taken_62 (by decide) ?_
      refine lv_icmp_ne (tgt := 76) hx hb dX8_taken_63 (by decide) (fun c_63 => ?_) (fun c_63 => ?_)
      · have hf := ite_f c_63 hf
        refine lv_bipush (v := (-12)) hx hb dX8_taken_76 (by decide) ?_
        have e9 := Option.some.inj hf
        exact rt_i hx hb hr hlocks e9 hP hS dX8_taken_78
      · have hf := ite_t c_63 hf
        refine lv_iload_n hx hb dX8_taken_66 rfl (lv_at hl 1 rfl) ?_
        refine lv_bipush (v := 6) hx hb dX8_taken_67 (by decide) ?_
        refine lv_icmp_ne (tgt := 76) hx hb dX8_taken_69 (by decide) (fun c_69 => ?_) (fun c_69 => ?_)
        · have hf := ite_f c_69 hf
          refine lv_bipush (v := (-12)) hx hb dX8_taken_76 (by decide) ?_
          have e9 := Option.some.inj hf
          exact rt_i hx hb hr hlocks e9 hP hS dX8_taken_78
        · have hf := ite_t c_69 hf
          refine lv_iload_n hx hb dX8_taken_72 rfl (lv_at hl 1 rfl) ?_
          refine lv_goto (tgt := 78) hx hb dX8_taken_73 (by decide) ?_
          have e9 := Option.some.inj hf
          exact rt_i hx hb hr hlocks e9 hP hS dX8_taken_78
    · have hf := ite_t c_53 hf
      refine lv_iload_n hx hb dX8_taken_56 rfl (lv_at hl 1 rfl) ?_
      refine lv_iconst (v := 5) hx hb dX8_taken_57 (by decide) ?_
      refine lv_icmp_eq (tgt := 72) hx hb dX8_taken_58 (by decide) (fun c_58 => ?_) (fun c_58 => ?_)
      · have hf := ite_t c_58 hf
        refine lv_iload_n hx hb dX8_taken_72 rfl (lv_at hl 1 rfl) ?_
        refine lv_goto (tgt := 78) hx hb dX8_taken_73 (by decide) ?_
        have e9 := Option.some.inj hf
        exact rt_i hx hb hr hlocks e9 hP hS dX8_taken_78
      · have hf := ite_f c_58 hf
        refine lv_iload_n hx hb dX8_taken_61 rfl (lv_at hl 0 rfl) ?_
        refine lv_iconst (v := 3) hx hb dX8_taken_62 (by decide) ?_
        refine lv_icmp_ne (tgt := 76) hx hb dX8_taken_63 (by decide) (fun c_63 => ?_) (fun c_63 => ?_)
        · have hf := ite_f c_63 hf
          refine lv_bipush (v := (-12)) hx hb dX8_taken_76 (by decide) ?_
          have e9 := Option.some.inj hf
          exact rt_i hx hb hr hlocks e9 hP hS dX8_taken_78
        · have hf := ite_t c_63 hf
          refine lv_iload_n hx hb dX8_taken_66 rfl (lv_at hl 1 rfl) ?_
          refine lv_bipush (v := 6) hx hb dX8_taken_67 (by decide) ?_
          refine lv_icmp_ne (tgt := 76) hx hb dX8_taken_69 (by decide) (fun c_69 => ?_) (fun c_69 => ?_)
          · have hf := ite_f c_69 hf
            refine lv_bipush (v := (-12)) hx hb dX8_taken_76 (by decide) ?_
            have e9 := Option.some.inj hf
            exact rt_i hx hb hr hlocks e9 hP hS dX8_taken_78
          · have hf := ite_t c_69 hf
            refine lv_iload_n hx hb dX8_taken_72 rfl (lv_at hl 1 rfl) ?_
            refine lv_goto (tgt := 78) hx hb dX8_taken_73 (by decide) ?_
            have e9 := Option.some.inj hf
            exact rt_i hx hb hr hlocks e9 hP hS dX8_taken_78
  refine lv_aload_n hx hb dX8_taken_0 rfl (lv_at hl 0 rfl) ?_
  refine lv_iload_n hx hb dX8_taken_1 rfl (lv_at hl 2 rfl) ?_
  refine lv_iconst (v := 0) hx hb dX8_taken_2 (by decide) ?_
  refine lv_bipush (v := 6) hx hb dX8_taken_3 (by decide) ?_
  obtain ⟨q5, hc_5, hf⟩ := cl_e hf
  refine fin_i (E := E) (wc := wX8 E a0 s0 t0) (wc' := wX8 E a0 s0 t0) (va_runV (As := [.int p2, .int 0, .int 6]) (rest := []) ⟨hx, hb, hml, hown, hts⟩ (k_X8_in l E a0 N s0 t0 p2 0 6 q5 hc_5 _) (cwV 3 hts gX8_taken_X8_in rfl rfl rfl (by decide +kernel) ⟨(Nat.le_of_ble_eq_true rfl), (Nat.le_of_ble_eq_true rfl)⟩) (pre_v (ci := 8) (q0 := 0) hK hP (hDD s0 t0) hS hG hAB rfl rfl) rfl rfl hl.1 rfl (lv_room (Nat.le_of_ble_eq_true rfl)) dX8_taken_5 ⟨Nat.zero_le _, Nat.zero_le _⟩) hS (w_free (hDD s0 t0) hS hA (fun _ h => h)) (fun H locs hP1 hk hS => ?_)
  have hP := hP1
  refine lv_if_ne (tgt := 14) hx hb dX8_taken_8 (by decide) (fun c_8 => ?_) (fun c_8 => ?_)
  · have hf := ite_f c_8 hf
    refine lv_aload_n hx hb dX8_taken_14 rfl (lv_at hl 0 rfl) ?_
    refine lv_iload_n hx hb dX8_taken_15 rfl (lv_at hl 1 rfl) ?_
    obtain ⟨q16, hc_16, hf⟩ := cl_e hf
    refine fin_i (E := E) (wc := wX8 E a0 s0 t0) (wc' := wX8 E a0 s0 t0) (va_runV (As := [.int p1]) (rest := []) ⟨hx, hb, hml, hown, hts⟩ (k_X8_isThing l E a0 N s0 t0 p1 q16 hc_16 _) (cwV 1 hts gX8_taken_X8_isThing rfl rfl rfl (by decide +kernel) ⟨(Nat.le_of_ble_eq_true rfl), (Nat.le_of_ble_eq_true rfl)⟩) (pre_v (ci := 8) (q0 := 0) hK hP (hDD s0 t0) hS hG hAB rfl rfl) rfl rfl hl.1 rfl (lv_room (Nat.le_of_ble_eq_true rfl)) dX8_taken_16 ⟨Nat.zero_le _, Nat.zero_le _⟩) hS (w_free (hDD s0 t0) hS hA (fun _ h => h)) (fun H locs hP1 hk hS => ?_)
    have hP := hP1
    refine lv_if_ne (tgt := 25) hx hb dX8_taken_19 (by decide) (fun c_19 => ?_) (fun c_19 => ?_)
    · have hf := ite_f c_19 hf
      refine lv_aload_n hx hb dX8_taken_25 rfl (lv_at hl 0 rfl) ?_
      refine va_get (ci := 8) (C := RX8) (T := TX8) (N := 67) (v := .ref (a0 1)) hx hb hts i_X8_taken_X8 hown hK hP 0 rfl rfl 3 (by decide) (hts _ m_X8_taken_275364) (fun _ h9 => h9) rfl dX8_taken_26 ?_
      refine lv_iload_n hx hb dX8_taken_29 rfl (lv_at hl 1 rfl) ?_
      obtain ⟨h_30, hf⟩ := ck_e hf
      refine va_iald (cA := E.2.1) (n := 6) (f := s0 3) hx hb hK hP 1 0 rfl rfl h_30 dX8_taken_30 ?_
      refine lv_topi (fun x31 e_x31 => ?_)
      have hf := nm_q e_x31 hf
      refine lv_istore_n (lv' := [(3, .int x31), (0, .ref (a0 0)), (1, .int p1), (2, .int p2)]) hx hb dX8_taken_31 rfl hl (Nat.le_of_ble_eq_true rfl) rfl (fun ls hl => ?_)
      refine lv_iload_n hx hb dX8_taken_32 rfl (lv_at hl 3 rfl) ?_
      refine lv_if_eq (tgt := 72) hx hb dX8_taken_33 (by decide) (fun c_33 => ?_) (fun c_33 => ?_)
      · have hf := ite_t c_33 hf
        refine lv_iload_n hx hb dX8_taken_72 rfl (lv_at hl 0 rfl) ?_
        refine lv_goto (tgt := 78) hx hb dX8_taken_73 (by decide) ?_
        have e9 := Option.some.inj hf
        exact rt_i hx hb hr hlocks e9 hP hS dX8_taken_78
      · have hf := ite_f c_33 hf
        refine lv_iload_n hx hb dX8_taken_36 rfl (lv_at hl 0 rfl) ?_
        refine lv_iload_n hx hb dX8_taken_37 rfl (lv_at hl 3 rfl) ?_
        refine lv_icmp_eq (tgt := 72) hx hb dX8_taken_38 (by decide) (fun c_38 => ?_) (fun c_38 => ?_)
        · have hf := ite_t c_38 hf
          refine lv_iload_n hx hb dX8_taken_72 rfl (lv_at hl 0 rfl) ?_
          refine lv_goto (tgt := 78) hx hb dX8_taken_73 (by decide) ?_
          have e9 := Option.some.inj hf
          exact rt_i hx hb hr hlocks e9 hP hS dX8_taken_78
        · have hf := ite_f c_38 hf
          refine lv_iload_n hx hb dX8_taken_41 rfl (lv_at hl 3 rfl) ?_
          refine lv_iconst (v := 1) hx hb dX8_taken_42 (by decide) ?_
          refine lv_icmp_ne (tgt := 51) hx hb dX8_taken_43 (by decide) (fun c_43 => ?_) (fun c_43 => ?_)
          · have hf := ite_f c_43 hf
            exact hL_51 s0 p2 x31 hf _ _ _ hP hS (lv_sub hl [3, 0] rfl)
          · have hf := ite_t c_43 hf
            refine lv_iload_n hx hb dX8_taken_46 rfl (lv_at hl 0 rfl) ?_
            refine lv_iconst (v := 4) hx hb dX8_taken_47 (by decide) ?_
            refine lv_icmp_eq (tgt := 72) hx hb dX8_taken_48 (by decide) (fun c_48 => ?_) (fun c_48 => ?_)
            · have hf := ite_t c_48 hf
              refine lv_iload_n hx hb dX8_taken_72 rfl (lv_at hl 0 rfl) ?_
              refine lv_goto (tgt := 78) hx hb dX8_taken_73 (by decide) ?_
              have e9 := Option.some.inj hf
              exact rt_i hx hb hr hlocks e9 hP hS dX8_taken_78
            · have hf := ite_f c_48 hf
              exact hL_51 s0 p2 x31 hf _ _ _ hP hS (lv_sub hl [3, 0] rfl)
    · have hf := ite_t c_19 hf
      refine lv_bipush (v := (-11)) hx hb dX8_taken_22 (by decide) ?_
      have e9 := Option.some.inj hf
      exact rt_i hx hb hr hlocks e9 hP hS dX8_taken_24
  · have hf := ite_t c_8 hf
    refine lv_bipush (v := (-2)) hx hb dX8_taken_11 (by decide) ?_
    have e9 := Option.some.inj hf
    exact rt_i hx hb hr hlocks e9 hP hS dX8_taken_13
