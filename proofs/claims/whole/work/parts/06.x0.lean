def st_X6 : St := (sA (fun _ _ => 0) 0 (upd (upd (upd (upd (upd (upd (fun _ => 0) 0 (-1)) 1 (-1)) 2 (-1)) 3 (-1)) 4 (-1)) 5 (-1)))
/-! ===== constructors: by program (wip/gen/ctor.py) ===== -/
theorem cls_of {E : Ev} {s : State} {cA : ClassId} {ty : FieldType} {k : Nat} {cB : ClassId} (hk : (tyL E)[k]? = some (cB, ty)) (hp : ∀ C, ty ≠ .object C) (h : va_K E.1 vwCl (tyL E ++ [(cA, ty)]) s) : cB = cA := by
  have h1 := (h.2 k (cB, ty) (by rw [List.getElem?_append_left (List.getElem?_eq_some_iff.mp hk).1]; exact hk)).2
  have h2 := (h.2 3 (cA, ty) rfl).2
  unfold va_RA at h1 h2
  cases ty with
  | object C => exact absurd rfl (hp C)
  | _ => exact Option.some.inj (h1.symm.trans h2)
theorem cls_I {E : Ev} {s : State} {cA : ClassId} (h : va_K E.1 vwCl (tyL E ++ [(cA, .int)]) s) : cA = E.2.1 := (cls_of (k := 0) rfl (fun _ => by simp) h).symm
theorem cls_J {E : Ev} {s : State} {cA : ClassId} (h : va_K E.1 vwCl (tyL E ++ [(cA, .long)]) s) : cA = E.2.2.1 := (cls_of (k := 1) rfl (fun _ => by simp) h).symm
theorem cls_Z {E : Ev} {s : State} {cA : ClassId} (h : va_K E.1 vwCl (tyL E ++ [(cA, .boolean)]) s) : cA = E.2.2.2.1 := (cls_of (k := 2) rfl (fun _ => by simp) h).symm
def Cn (l : Launch) (y : MethodName) (wl : List Cond) (rm : Room) (E : Ev) (ci : Nat) (fs0 : List Value) (w : (Nat → Nat) → va_W) (h0 mc ms : Nat) : Prop := ∀ sz : Nat, Met l y wl rm (PcW E [.ref h0] [(h0, .inr (ci, fs0))] sz) (va_Qv (fun (_ : Unit) => True) (fun _ t => ∃ a : Nat → Nat, a 0 = h0 ∧ va_P E.1 vwCl (w a) t.heap ∧ va_D (va_A [(h0, .inr (ci, fs0))] sz) (w a)) (va_A [(h0, .inr (ci, fs0))] sz)) mc ms (va_A [(h0, .inr (ci, fs0))] sz)
/-- the class's whole world: addresses by object, states by object, streets -/
def wXX (E : Ev) (b : Nat → Nat → Nat) (S : Nat → St) (h : Nat → Option SR) (τ : Nat → Nat → Int64) (L : List SR) : va_W := (wX7o E (b 0) (b 1) (b 2) (b 3) (b 4) (b 5) (b 6) (b 7) (b 8) (b 9) (S 0) ++ (wX2 E (b 1) (S 1) (h 1) ++ (wX2 E (b 2) (S 2) (h 2) ++ (wX1 E (b 3) (S 3) ++ (wX2 E (b 4) (S 4) (h 4) ++ (wX1 E (b 5) (S 5) ++ (wX5 E (b 6) (S 6) ++ (wX3 E (b 7) (S 7) ++ (wX0 E (b 8) (S 8) ++ (wX6 E (b 9) (S 9) τ)))))))))) ++ sW E.2.1 L
def S_init : Nat → St := fun k => match k with
  | 9 => st_X6
  | _ => fun _ _ => 0
def Cn7 (l : Launch) (y : MethodName) (wl : List Cond) (rm : Room) (E : Ev) (fs0 : List Value) (h0 mc ms : Nat) : Prop := ∀ sz : Nat, Met l y wl rm (PcW E [.ref h0] [(h0, .inr (7, fs0))] sz) (va_Qv (fun (_ : Unit) => True) (fun _ t => ∃ b : Nat → Nat → Nat, b 0 0 = h0 ∧ va_P E.1 vwCl (wXX E b S_init (fun _ => none) (fun _ _ => 0) []) t.heap ∧ va_D (va_A [(h0, .inr (7, fs0))] sz) (wXX E b S_init (fun _ => none) (fun _ _ => 0) [])) (va_A [(h0, .inr (7, fs0))] sz)) mc ms (va_A [(h0, .inr (7, fs0))] sz)
section RN
variable {p : Program} {l : Launch} {e : Env} {R : Room} {s : State} {m : MethodId} {args : Array Value} {below : List Frame} {meth : Method} {c : Code} {H : Heap} {locs : List Loc} {cc : ByteArray} {cells slots : Nat}
variable {E : Ev} {A : Nat → Prop} {pc : Nat} {ls : Array Slot}
theorem rt_n {w : (Nat → Nat) → va_W} {h0 : Nat} (hx : p.tables.exec = Jvm.exec) (hb : c.code = cc) (hr : meth.sig.returnType = none) (hlocks : meth.locks = false) (hP : ∃ a : Nat → Nat, a 0 = h0 ∧ va_P E.1 vwCl (w a) H ∧ va_D A (w a)) (hS : va_S A s.heap H locs) (hd : decode cc pc = .ok (.return_, 1)) : W p l e R s m args below meth c H locs cells slots (MQ below (va_Qv (fun (_ : Unit) => True) (fun _ t => ∃ a : Nat → Nat, a 0 = h0 ∧ va_P E.1 vwCl (w a) t.heap ∧ va_D A (w a)) A) args s cells slots A) (F0 m pc ls []) :=
  W.vret hx hb hr (fun t ht _ => ⟨⟨(), rfl, trivial, by subst ht; exact hP⟩, hS.F ht⟩) hS.2.2 hd
theorem rt_n7 {h0 : Nat} (hx : p.tables.exec = Jvm.exec) (hb : c.code = cc) (hr : meth.sig.returnType = none) (hlocks : meth.locks = false) (hP : ∃ b : Nat → Nat → Nat, b 0 0 = h0 ∧ va_P E.1 vwCl (wXX E b S_init (fun _ => none) (fun _ _ => 0) []) H ∧ va_D A (wXX E b S_init (fun _ => none) (fun _ _ => 0) [])) (hS : va_S A s.heap H locs) (hd : decode cc pc = .ok (.return_, 1)) : W p l e R s m args below meth c H locs cells slots (MQ below (va_Qv (fun (_ : Unit) => True) (fun _ t => ∃ b : Nat → Nat → Nat, b 0 0 = h0 ∧ va_P E.1 vwCl (wXX E b S_init (fun _ => none) (fun _ _ => 0) []) t.heap ∧ va_D A (wXX E b S_init (fun _ => none) (fun _ _ => 0) [])) A) args s cells slots A) (F0 m pc ls []) :=
  W.vret hx hb hr (fun t ht _ => ⟨⟨(), rfl, trivial, by subst ht; exact hP⟩, hS.F ht⟩) hS.2.2 hd
end RN
def st_X0 : St := (fun _ _ => 0)
abbrev rm_X0_init : Room := { frames := 1, cells := 1, slots := 20, locals := 40 }
theorem i_X0_init_X0 : ∀ w ∈ wsX00, w ∈ wsX0_init := fun _ h => List.mem_cons_of_mem _ (List.mem_append_right _ h)
theorem m_X0_init_d04809 : Cond.methodLink RX0 3 objectInit ∈ wsX0_init := by decide +kernel
theorem m_X0_init_99ff6a : Cond.instanceMethod objectInit ∈ wsX0_init := by decide +kernel
theorem m_X0_init_bd0ebf : Cond.code objectInit ⟨#[0xb1]⟩ 1 none ∈ wsX0_init := by decide +kernel
theorem m_X0_init_8e969f : Cond.arrayClass .int ∈ wsX0_init := by decide +kernel
theorem m_X0_init_3c5464 : Cond.fieldLink RX0 11 "PickedMatch$Acts" "bodies" "[I" ∈ wsX0_init := by decide +kernel
set_option maxHeartbeats 8000000 in
set_option maxRecDepth 100000 in
theorem k_X0_init (l : Launch) (E : Ev) (h0 : Nat) : Cn l yX0_init wsX0_init rm_X0_init E 0 [.null, .int 0, .int 0, .int 0, .int 0] (fun a => wX0 E a st_X0) h0 1 20 := by
  intro sz
  refine Met.ofW (cc := cX0_init) (maxL := 1) (ret := none) (by decide) rfl ?_
  intro p e s m args below meth c s₁ B hml hv
  obtain ⟨rfl, hsz, hP, hK, hD, hG, hA, hAB⟩ := start hv
  have hx := B.exec
  have hb := B.bytes
  have hr := B.returns
  have hts := atoms_spec (ws := wsX0_init) B.pre
  have hown : s.vm.findClass RX0 = some m.cls := findClass_of_methodNamed B.named
  have hlocks := B.notSynchronized
  have hin : meth.name = "<init>" := (name_of_methodNamed B.named B.method).1
  subst hsz
  generalize va_A [(h0, .inr (0, [.null, .int 0, .int 0, .int 0, .int 0]))] s.heap.size = A0 at hD hA hAB ⊢
  have hS : va_S A0 s.heap s.heap [] := va_S.rf
  have hP : va_P E.1 vwCl [(h0, .inr (0, [.null, .int 0, .int 0, .int 0, .int 0]))] s.heap := hP
  have hl := lv_entry ([.ref h0]) (n := 1) (Nat.le_of_ble_eq_true rfl)
  rw [lg_entry_eq]
  generalize (lg_sl ([.ref h0]) ++ List.replicate (1 - (lg_sl ([.ref h0])).length) Slot.unset).toArray = ls at hl ⊢
  have hl : lv_has ls 1 [(0, .ref h0)] := hl
  refine lv_aload_n hx hb dX0_init_0 rfl (lv_at hl 0 rfl) ?_
  refine W.objInit hx hb hown (hts _ m_X0_init_d04809) (hts _ m_X0_init_99ff6a) (hts _ m_X0_init_bd0ebf) rfl (by rw [hml]; exact hl.1) rfl dX0_init_1 (Nat.le_of_ble_eq_true rfl) (Nat.le_of_ble_eq_true rfl) ?_
  refine W.eq (g2 := F0 m 4 ls []) rfl ?_
  refine lv_aload_n hx hb dX0_init_4 rfl (lv_at hl 0 rfl) ?_
  refine lv_bipush (v := 20) hx hb dX0_init_5 (by decide) ?_
  refine va_newa (atype := .int) (ty := .int) (a0 := (20, .inl (fun _ => 0))) (N' := 20) hx hb (hts _ m_X0_init_8e969f) rfl hK hP hD hS hA (fun _ => rfl) (by decide) (by decide) (Nat.le_of_ble_eq_true rfl) (Nat.le_of_ble_eq_true rfl) (Nat.le_of_ble_eq_true rfl) dX0_init_7 (fun q7 cA H hK9 hP hD hS => ?_)
  obtain rfl := cls_I hK9
  clear hK9
  refine W.widen (k := 1) (n := 20) (Nat.le_of_ble_eq_true rfl) (Nat.le_of_ble_eq_true rfl) ?_
  refine va_putF (ci := 0) (v := .ref q7) (ty := (.array .int)) (C := RX0) (T := TX0) (N := 5) hx hb hts i_X0_init_X0 tyX0 tyX0_ok nmX0 hown hK hP hD hS 0 rfl rfl 0 (by decide) (hts _ m_X0_init_3c5464) (fun _ h9 => h9) rfl hin rfl (by decide +kernel) rfl rfl (Nat.le_of_ble_eq_true rfl) dX0_init_9 (fun H locs hP hD hS => ?_)
  have hP : va_P E.1 vwCl [(h0, .inr (0, [.ref q7, .int 0, .int 0, .int 0, .int 0])), (q7, .inl (E.2.1, 20, .inl (fun _ => 0)))] H := hP
  have hD : va_D A0 [(h0, .inr (0, [.ref q7, .int 0, .int 0, .int 0, .int 0])), (q7, .inl (E.2.1, 20, .inl (fun _ => 0)))] := hD
  exact rt_n hx hb hr hlocks ⟨fun k => ([h0, q7] : List Nat).getD k 0, rfl, hP, hD⟩ hS dX0_init_12
def st_X1 : St := (fun _ _ => 0)
abbrev rm_X1_init : Room := { frames := 1, cells := 7, slots := 51, locals := 40 }
theorem i_X1_init_X1 : ∀ w ∈ wsX10, w ∈ wsX1_init := fun _ h => List.mem_cons_of_mem _ (List.mem_append_right _ h)
theorem m_X1_init_386d1a : Cond.methodLink RX1 3 objectInit ∈ wsX1_init := by decide +kernel
theorem m_X1_init_99ff6a : Cond.instanceMethod objectInit ∈ wsX1_init := by decide +kernel
theorem m_X1_init_bd0ebf : Cond.code objectInit ⟨#[0xb1]⟩ 1 none ∈ wsX1_init := by decide +kernel
theorem m_X1_init_8e969f : Cond.arrayClass .int ∈ wsX1_init := by decide +kernel
theorem m_X1_init_b789e5 : Cond.fieldLink RX1 11 "PickedMatch$Notes" "seenThings" "[I" ∈ wsX1_init := by decide +kernel
theorem m_X1_init_99651a : Cond.fieldLink RX1 15 "PickedMatch$Notes" "seenHad" "[I" ∈ wsX1_init := by decide +kernel
theorem m_X1_init_47dabf : Cond.fieldLink RX1 18 "PickedMatch$Notes" "seenDays" "[I" ∈ wsX1_init := by decide +kernel
theorem m_X1_init_fa8294 : Cond.fieldLink RX1 21 "PickedMatch$Notes" "weekWhats" "[I" ∈ wsX1_init := by decide +kernel
theorem m_X1_init_e96de6 : Cond.fieldLink RX1 24 "PickedMatch$Notes" "weekThings" "[I" ∈ wsX1_init := by decide +kernel
theorem m_X1_init_1d838a : Cond.fieldLink RX1 27 "PickedMatch$Notes" "bookThings" "[I" ∈ wsX1_init := by decide +kernel
theorem m_X1_init_0bdb7a : Cond.fieldLink RX1 30 "PickedMatch$Notes" "bookMarks" "[I" ∈ wsX1_init := by decide +kernel
set_option maxHeartbeats 8000000 in
set_option maxRecDepth 100000 in
theorem k_X1_init (l : Launch) (E : Ev) (h0 : Nat) : Cn l yX1_init wsX1_init rm_X1_init E 1 [.null, .null, .null, .int 0, .null, .null, .int 0, .null, .null, .int 0] (fun a => wX1 E a st_X1) h0 7 51 := by
  intro sz
  refine Met.ofW (cc := cX1_init) (maxL := 1) (ret := none) (by decide) rfl ?_
  intro p e s m args below meth c s₁ B hml hv
  obtain ⟨rfl, hsz, hP, hK, hD, hG, hA, hAB⟩ := start hv
  have hx := B.exec
  have hb := B.bytes
  have hr := B.returns
  have hts := atoms_spec (ws := wsX1_init) B.pre
  have hown : s.vm.findClass RX1 = some m.cls := findClass_of_methodNamed B.named
  have hlocks := B.notSynchronized
  have hin : meth.name = "<init>" := (name_of_methodNamed B.named B.method).1
  subst hsz
  generalize va_A [(h0, .inr (1, [.null, .null, .null, .int 0, .null, .null, .int 0, .null, .null, .int 0]))] s.heap.size = A0 at hD hA hAB ⊢
  have hS : va_S A0 s.heap s.heap [] := va_S.rf
  have hP : va_P E.1 vwCl [(h0, .inr (1, [.null, .null, .null, .int 0, .null, .null, .int 0, .null, .null, .int 0]))] s.heap := hP
  have hl := lv_entry ([.ref h0]) (n := 1) (Nat.le_of_ble_eq_true rfl)
  rw [lg_entry_eq]
  generalize (lg_sl ([.ref h0]) ++ List.replicate (1 - (lg_sl ([.ref h0])).length) Slot.unset).toArray = ls at hl ⊢
  have hl : lv_has ls 1 [(0, .ref h0)] := hl
  refine lv_aload_n hx hb dX1_init_0 rfl (lv_at hl 0 rfl) ?_
  refine W.objInit hx hb hown (hts _ m_X1_init_386d1a) (hts _ m_X1_init_99ff6a) (hts _ m_X1_init_bd0ebf) rfl (by rw [hml]; exact hl.1) rfl dX1_init_1 (Nat.le_of_ble_eq_true rfl) (Nat.le_of_ble_eq_true rfl) ?_
  refine W.eq (g2 := F0 m 4 ls []) rfl ?_
  refine lv_aload_n hx hb dX1_init_4 rfl (lv_at hl 0 rfl) ?_
  refine lv_iconst (v := 5) hx hb dX1_init_5 (by decide) ?_
  refine va_newa (atype := .int) (ty := .int) (a0 := (5, .inl (fun _ => 0))) (N' := 5) hx hb (hts _ m_X1_init_8e969f) rfl hK hP hD hS hA (fun _ => rfl) (by decide) (by decide) (Nat.le_of_ble_eq_true rfl) (Nat.le_of_ble_eq_true rfl) (Nat.le_of_ble_eq_true rfl) dX1_init_6 (fun q6 cA H hK9 hP hD hS => ?_)
  obtain rfl := cls_I hK9
  clear hK9
  refine W.widen (k := 1) (n := 5) (Nat.le_of_ble_eq_true rfl) (Nat.le_of_ble_eq_true rfl) ?_
  refine va_putF (ci := 1) (v := .ref q6) (ty := (.array .int)) (C := RX1) (T := TX1) (N := 10) hx hb hts i_X1_init_X1 tyX1 tyX1_ok nmX1 hown hK hP hD hS 0 rfl rfl 0 (by decide) (hts _ m_X1_init_b789e5) (fun _ h9 => h9) rfl hin rfl (by decide +kernel) rfl rfl (Nat.le_of_ble_eq_true rfl) dX1_init_8 (fun H locs hP hD hS => ?_)
  have hP : va_P E.1 vwCl [(h0, .inr (1, [.ref q6, .null, .null, .int 0, .null, .null, .int 0, .null, .null, .int 0])), (q6, .inl (E.2.1, 5, .inl (fun _ => 0)))] H := hP
  have hD : va_D A0 [(h0, .inr (1, [.ref q6, .null, .null, .int 0, .null, .null, .int 0, .null, .null, .int 0])), (q6, .inl (E.2.1, 5, .inl (fun _ => 0)))] := hD
  refine lv_aload_n hx hb dX1_init_11 rfl (lv_at hl 0 rfl) ?_
  refine lv_iconst (v := 5) hx hb dX1_init_12 (by decide) ?_
  refine va_newa (atype := .int) (ty := .int) (a0 := (5, .inl (fun _ => 0))) (N' := 5) hx hb (hts _ m_X1_init_8e969f) rfl hK hP hD hS hA (fun _ => rfl) (by decide) (by decide) (Nat.le_of_ble_eq_true rfl) (Nat.le_of_ble_eq_true rfl) (Nat.le_of_ble_eq_true rfl) dX1_init_13 (fun q13 cA H hK9 hP hD hS => ?_)
  obtain rfl := cls_I hK9
  clear hK9
  refine W.widen (k := 2) (n := 10) (Nat.le_of_ble_eq_true rfl) (Nat.le_of_ble_eq_true rfl) ?_
  refine va_putF (ci := 1) (v := .ref q13) (ty := (.array .int)) (C := RX1) (T := TX1) (N := 10) hx hb hts i_X1_init_X1 tyX1 tyX1_ok nmX1 hown hK hP hD hS 0 rfl rfl 1 (by decide) (hts _ m_X1_init_99651a) (fun _ h9 => h9) rfl hin rfl (by decide +kernel) rfl rfl (Nat.le_of_ble_eq_true rfl) dX1_init_15 (fun H locs hP hD hS => ?_)
  have hP : va_P E.1 vwCl [(h0, .inr (1, [.ref q6, .ref q13, .null, .int 0, .null, .null, .int 0, .null, .null, .int 0])), (q6, .inl (E.2.1, 5, .inl (fun _ => 0))), (q13, .inl (E.2.1, 5, .inl (fun _ => 0)))] H := hP
  have hD : va_D A0 [(h0, .inr (1, [.ref q6, .ref q13, .null, .int 0, .null, .null, .int 0, .null, .null, .int 0])), (q6, .inl (E.2.1, 5, .inl (fun _ => 0))), (q13, .inl (E.2.1, 5, .inl (fun _ => 0)))] := hD
  refine lv_aload_n hx hb dX1_init_18 rfl (lv_at hl 0 rfl) ?_
  refine lv_iconst (v := 5) hx hb dX1_init_19 (by decide) ?_
  refine va_newa (atype := .int) (ty := .int) (a0 := (5, .inl (fun _ => 0))) (N' := 5) hx hb (hts _ m_X1_init_8e969f) rfl hK hP hD hS hA (fun _ => rfl) (by decide) (by decide) (Nat.le_of_ble_eq_true rfl) (Nat.le_of_ble_eq_true rfl) (Nat.le_of_ble_eq_true rfl) dX1_init_20 (fun q20 cA H hK9 hP hD hS => ?_)
  obtain rfl := cls_I hK9
  clear hK9
  refine W.widen (k := 3) (n := 15) (Nat.le_of_ble_eq_true rfl) (Nat.le_of_ble_eq_true rfl) ?_
  refine va_putF (ci := 1) (v := .ref q20) (ty := (.array .int)) (C := RX1) (T := TX1) (N := 10) hx hb hts i_X1_init_X1 tyX1 tyX1_ok nmX1 hown hK hP hD hS 0 rfl rfl 2 (by decide) (hts _ m_X1_init_47dabf) (fun _ h9 => h9) rfl hin rfl (by decide +kernel) rfl rfl (Nat.le_of_ble_eq_true rfl) dX1_init_22 (fun H locs hP hD hS => ?_)
  have hP : va_P E.1 vwCl [(h0, .inr (1, [.ref q6, .ref q13, .ref q20, .int 0, .null, .null, .int 0, .null, .null, .int 0])), (q6, .inl (E.2.1, 5, .inl (fun _ => 0))), (q13, .inl (E.2.1, 5, .inl (fun _ => 0))), (q20, .inl (E.2.1, 5, .inl (fun _ => 0)))] H := hP
  have hD : va_D A0 [(h0, .inr (1, [.ref q6, .ref q13, .ref q20, .int 0, .null, .null, .int 0, .null, .null, .int 0])), (q6, .inl (E.2.1, 5, .inl (fun _ => 0))), (q13, .inl (E.2.1, 5, .inl (fun _ => 0))), (q20, .inl (E.2.1, 5, .inl (fun _ => 0)))] := hD
  refine lv_aload_n hx hb dX1_init_25 rfl (lv_at hl 0 rfl) ?_
  refine lv_bipush (v := 10) hx hb dX1_init_26 (by decide) ?_
  refine va_newa (atype := .int) (ty := .int) (a0 := (10, .inl (fun _ => 0))) (N' := 10) hx hb (hts _ m_X1_init_8e969f) rfl hK hP hD hS hA (fun _ => rfl) (by decide) (by decide) (Nat.le_of_ble_eq_true rfl) (Nat.le_of_ble_eq_true rfl) (Nat.le_of_ble_eq_true rfl) dX1_init_28 (fun q28 cA H hK9 hP hD hS => ?_)
  obtain rfl := cls_I hK9
  clear hK9
  refine W.widen (k := 4) (n := 25) (Nat.le_of_ble_eq_true rfl) (Nat.le_of_ble_eq_true rfl) ?_
  refine va_putF (ci := 1) (v := .ref q28) (ty := (.array .int)) (C := RX1) (T := TX1) (N := 10) hx hb hts i_X1_init_X1 tyX1 tyX1_ok nmX1 hown hK hP hD hS 0 rfl rfl 4 (by decide) (hts _ m_X1_init_fa8294) (fun _ h9 => h9) rfl hin rfl (by decide +kernel) rfl rfl (Nat.le_of_ble_eq_true rfl) dX1_init_30 (fun H locs hP hD hS => ?_)
  have hP : va_P E.1 vwCl [(h0, .inr (1, [.ref q6, .ref q13, .ref q20, .int 0, .ref q28, .null, .int 0, .null, .null, .int 0])), (q6, .inl (E.2.1, 5, .inl (fun _ => 0))), (q13, .inl (E.2.1, 5, .inl (fun _ => 0))), (q20, .inl (E.2.1, 5, .inl (fun _ => 0))), (q28, .inl (E.2.1, 10, .inl (fun _ => 0)))] H := hP
  have hD : va_D A0 [(h0, .inr (1, [.ref q6, .ref q13, .ref q20, .int 0, .ref q28, .null, .int 0, .null, .null, .int 0])), (q6, .inl (E.2.1, 5, .inl (fun _ => 0))), (q13, .inl (E.2.1, 5, .inl (fun _ => 0))), (q20, .inl (E.2.1, 5, .inl (fun _ => 0))), (q28, .inl (E.2.1, 10, .inl (fun _ => 0)))] := hD
  refine lv_aload_n hx hb dX1_init_33 rfl (lv_at hl 0 rfl) ?_
  refine lv_bipush (v := 10) hx hb dX1_init_34 (by decide) ?_
  refine va_newa (atype := .int) (ty := .int) (a0 := (10, .inl (fun _ => 0))) (N' := 10) hx hb (hts _ m_X1_init_8e969f) rfl hK hP hD hS hA (fun _ => rfl) (by decide) (by decide) (Nat.le_of_ble_eq_true rfl) (Nat.le_of_ble_eq_true rfl) (Nat.le_of_ble_eq_true rfl) dX1_init_36 (fun q36 cA H hK9 hP hD hS => ?_)
  obtain rfl := cls_I hK9
  clear hK9
  refine W.widen (k := 5) (n := 35) (Nat.le_of_ble_eq_true rfl) (Nat.le_of_ble_eq_true rfl) ?_
  refine va_putF (ci := 1) (v := .ref q36) (ty := (.array .int)) (C := RX1) (T := TX1) (N := 10) hx hb hts i_X1_init_X1 tyX1 tyX1_ok nmX1 hown hK hP hD hS 0 rfl rfl 5 (by decide) (hts _ m_X1_init_e96de6) (fun _ h9 => h9) rfl hin rfl (by decide +kernel) rfl rfl (Nat.le_of_ble_eq_true rfl) dX1_init_38 (fun H locs hP hD hS => ?_)
  have hP : va_P E.1 vwCl [(h0, .inr (1, [.ref q6, .ref q13, .ref q20, .int 0, .ref q28, .ref q36, .int 0, .null, .null, .int 0])), (q6, .inl (E.2.1, 5, .inl (fun _ => 0))), (q13, .inl (E.2.1, 5, .inl (fun _ => 0))), (q20, .inl (E.2.1, 5, .inl (fun _ => 0))), (q28, .inl (E.2.1, 10, .inl (fun _ => 0))), (q36, .inl (E.2.1, 10, .inl (fun _ => 0)))] H := hP
  have hD : va_D A0 [(h0, .inr (1, [.ref q6, .ref q13, .ref q20, .int 0, .ref q28, .ref q36, .int 0, .null, .null, .int 0])), (q6, .inl (E.2.1, 5, .inl (fun _ => 0))), (q13, .inl (E.2.1, 5, .inl (fun _ => 0))), (q20, .inl (E.2.1, 5, .inl (fun _ => 0))), (q28, .inl (E.2.1, 10, .inl (fun _ => 0))), (q36, .inl (E.2.1, 10, .inl (fun _ => 0)))] := hD
  refine lv_aload_n hx hb dX1_init_41 rfl (lv_at hl 0 rfl) ?_
  refine lv_bipush (v := 8) hx hb dX1_init_42 (by decide) ?_
  refine va_newa (atype := .int) (ty := .int) (a0 := (8, .inl (fun _ => 0))) (N' := 8) hx hb (hts _ m_X1_init_8e969f) rfl hK hP hD hS hA (fun _ => rfl) (by decide) (by decide) (Nat.le_of_ble_eq_true rfl) (Nat.le_of_ble_eq_true rfl) (Nat.le_of_ble_eq_true rfl) dX1_init_44 (fun q44 cA H hK9 hP hD hS => ?_)
  obtain rfl := cls_I hK9
  clear hK9
  refine W.widen (k := 6) (n := 43) (Nat.le_of_ble_eq_true rfl) (Nat.le_of_ble_eq_true rfl) ?_
  refine va_putF (ci := 1) (v := .ref q44) (ty := (.array .int)) (C := RX1) (T := TX1) (N := 10) hx hb hts i_X1_init_X1 tyX1 tyX1_ok nmX1 hown hK hP hD hS 0 rfl rfl 7 (by decide) (hts _ m_X1_init_1d838a) (fun _ h9 => h9) rfl hin rfl (by decide +kernel) rfl rfl (Nat.le_of_ble_eq_true rfl) dX1_init_46 (fun H locs hP hD hS => ?_)
  have hP : va_P E.1 vwCl [(h0, .inr (1, [.ref q6, .ref q13, .ref q20, .int 0, .ref q28, .ref q36, .int 0, .ref q44, .null, .int 0])), (q6, .inl (E.2.1, 5, .inl (fun _ => 0))), (q13, .inl (E.2.1, 5, .inl (fun _ => 0))), (q20, .inl (E.2.1, 5, .inl (fun _ => 0))), (q28, .inl (E.2.1, 10, .inl (fun _ => 0))), (q36, .inl (E.2.1, 10, .inl (fun _ => 0))), (q44, .inl (E.2.1, 8, .inl (fun _ => 0)))] H := hP
  have hD : va_D A0 [(h0, .inr (1, [.ref q6, .ref q13, .ref q20, .int 0, .ref q28, .ref q36, .int 0, .ref q44, .null, .int 0])), (q6, .inl (E.2.1, 5, .inl (fun _ => 0))), (q13, .inl (E.2.1, 5, .inl (fun _ => 0))), (q20, .inl (E.2.1, 5, .inl (fun _ => 0))), (q28, .inl (E.2.1, 10, .inl (fun _ => 0))), (q36, .inl (E.2.1, 10, .inl (fun _ => 0))), (q44, .inl (E.2.1, 8, .inl (fun _ => 0)))] := hD
  refine lv_aload_n hx hb dX1_init_49 rfl (lv_at hl 0 rfl) ?_
  refine lv_bipush (v := 8) hx hb dX1_init_50 (by decide) ?_
  refine va_newa (atype := .int) (ty := .int) (a0 := (8, .inl (fun _ => 0))) (N' := 8) hx hb (hts _ m_X1_init_8e969f) rfl hK hP hD hS hA (fun _ => rfl) (by decide) (by decide) (Nat.le_of_ble_eq_true rfl) (Nat.le_of_ble_eq_true rfl) (Nat.le_of_ble_eq_true rfl) dX1_init_52 (fun q52 cA H hK9 hP hD hS => ?_)
  obtain rfl := cls_I hK9
  clear hK9
  refine W.widen (k := 7) (n := 51) (Nat.le_of_ble_eq_true rfl) (Nat.le_of_ble_eq_true rfl) ?_
  refine va_putF (ci := 1) (v := .ref q52) (ty := (.array .int)) (C := RX1) (T := TX1) (N := 10) hx hb hts i_X1_init_X1 tyX1 tyX1_ok nmX1 hown hK hP hD hS 0 rfl rfl 8 (by decide) (hts _ m_X1_init_0bdb7a) (fun _ h9 => h9) rfl hin rfl (by decide +kernel) rfl rfl (Nat.le_of_ble_eq_true rfl) dX1_init_54 (fun H locs hP hD hS => ?_)
  have hP : va_P E.1 vwCl [(h0, .inr (1, [.ref q6, .ref q13, .ref q20, .int 0, .ref q28, .ref q36, .int 0, .ref q44, .ref q52, .int 0])), (q6, .inl (E.2.1, 5, .inl (fun _ => 0))), (q13, .inl (E.2.1, 5, .inl (fun _ => 0))), (q20, .inl (E.2.1, 5, .inl (fun _ => 0))), (q28, .inl (E.2.1, 10, .inl (fun _ => 0))), (q36, .inl (E.2.1, 10, .inl (fun _ => 0))), (q44, .inl (E.2.1, 8, .inl (fun _ => 0))), (q52, .inl (E.2.1, 8, .inl (fun _ => 0)))] H := hP
  have hD : va_D A0 [(h0, .inr (1, [.ref q6, .ref q13, .ref q20, .int 0, .ref q28, .ref q36, .int 0, .ref q44, .ref q52, .int 0])), (q6, .inl (E.2.1, 5, .inl (fun _ => 0))), (q13, .inl (E.2.1, 5, .inl (fun _ => 0))), (q20, .inl (E.2.1, 5, .inl (fun _ => 0))), (q28, .inl (E.2.1, 10, .inl (fun _ => 0))), (q36, .inl (E.2.1, 10, .inl (fun _ => 0))), (q44, .inl (E.2.1, 8, .inl (fun _ => 0))), (q52, .inl (E.2.1, 8, .inl (fun _ => 0)))] := hD
  exact rt_n hx hb hr hlocks ⟨fun k => ([h0, q6, q13, q20, q28, q36, q44, q52] : List Nat).getD k 0, rfl, hP, hD⟩ hS dX1_init_57
def st_X2 : St := (fun _ _ => 0)
abbrev rm_X2_init : Room := { frames := 1, cells := 6, slots := 54, locals := 40 }
theorem i_X2_init_X2 : ∀ w ∈ wsX20, w ∈ wsX2_init := fun _ h => List.mem_cons_of_mem _ (List.mem_append_right _ h)
theorem m_X2_init_7d47d0 : Cond.methodLink RX2 3 objectInit ∈ wsX2_init := by decide +kernel
theorem m_X2_init_99ff6a : Cond.instanceMethod objectInit ∈ wsX2_init := by decide +kernel
theorem m_X2_init_bd0ebf : Cond.code objectInit ⟨#[0xb1]⟩ 1 none ∈ wsX2_init := by decide +kernel
theorem m_X2_init_8e969f : Cond.arrayClass .int ∈ wsX2_init := by decide +kernel
theorem m_X2_init_e4af18 : Cond.fieldLink RX2 9 "PickedMatch$Scene" "kinds" "[I" ∈ wsX2_init := by decide +kernel
theorem m_X2_init_a75564 : Cond.fieldLink RX2 15 "PickedMatch$Scene" "numbers" "[I" ∈ wsX2_init := by decide +kernel
theorem m_X2_init_d527ee : Cond.fieldLink RX2 18 "PickedMatch$Scene" "marks" "[I" ∈ wsX2_init := by decide +kernel
theorem m_X2_init_e39fb3 : Cond.fieldLink RX2 21 "PickedMatch$Scene" "rows" "[I" ∈ wsX2_init := by decide +kernel
theorem m_X2_init_102288 : Cond.fieldLink RX2 24 "PickedMatch$Scene" "had" "[I" ∈ wsX2_init := by decide +kernel
theorem m_X2_init_c65722 : Cond.fieldLink RX2 29 "PickedMatch$Scene" "tested" "[I" ∈ wsX2_init := by decide +kernel
set_option maxHeartbeats 8000000 in
set_option maxRecDepth 100000 in
theorem k_X2_init (l : Launch) (E : Ev) (h0 : Nat) : Cn l yX2_init wsX2_init rm_X2_init E 2 [.int 0, .null, .null, .null, .null, .null, .int 0, .int 0, .int 0, .null, .null] (fun a => wX2 E a st_X2 none) h0 6 54 := by
  intro sz
  refine Met.ofW (cc := cX2_init) (maxL := 1) (ret := none) (by decide) rfl ?_
  intro p e s m args below meth c s₁ B hml hv
  obtain ⟨rfl, hsz, hP, hK, hD, hG, hA, hAB⟩ := start hv
  have hx := B.exec
  have hb := B.bytes
  have hr := B.returns
  have hts := atoms_spec (ws := wsX2_init) B.pre
  have hown : s.vm.findClass RX2 = some m.cls := findClass_of_methodNamed B.named
  have hlocks := B.notSynchronized
  have hin : meth.name = "<init>" := (name_of_methodNamed B.named B.method).1
  subst hsz
  generalize va_A [(h0, .inr (2, [.int 0, .null, .null, .null, .null, .null, .int 0, .int 0, .int 0, .null, .null]))] s.heap.size = A0 at hD hA hAB ⊢
  have hS : va_S A0 s.heap s.heap [] := va_S.rf
  have hP : va_P E.1 vwCl [(h0, .inr (2, [.int 0, .null, .null, .null, .null, .null, .int 0, .int 0, .int 0, .null, .null]))] s.heap := hP
  have hl := lv_entry ([.ref h0]) (n := 1) (Nat.le_of_ble_eq_true rfl)
  rw [lg_entry_eq]
  generalize (lg_sl ([.ref h0]) ++ List.replicate (1 - (lg_sl ([.ref h0])).length) Slot.unset).toArray = ls at hl ⊢
  have hl : lv_has ls 1 [(0, .ref h0)] := hl
  refine lv_aload_n hx hb dX2_init_0 rfl (lv_at hl 0 rfl) ?_
  refine W.objInit hx hb hown (hts _ m_X2_init_7d47d0) (hts _ m_X2_init_99ff6a) (hts _ m_X2_init_bd0ebf) rfl (by rw [hml]; exact hl.1) rfl dX2_init_1 (Nat.le_of_ble_eq_true rfl) (Nat.le_of_ble_eq_true rfl) ?_
  refine W.eq (g2 := F0 m 4 ls []) rfl ?_
  refine lv_aload_n hx hb dX2_init_4 rfl (lv_at hl 0 rfl) ?_
  refine lv_bipush (v := 6) hx hb dX2_init_5 (by decide) ?_
  refine va_newa (atype := .int) (ty := .int) (a0 := (6, .inl (fun _ => 0))) (N' := 6) hx hb (hts _ m_X2_init_8e969f) rfl hK hP hD hS hA (fun _ => rfl) (by decide) (by decide) (Nat.le_of_ble_eq_true rfl) (Nat.le_of_ble_eq_true rfl) (Nat.le_of_ble_eq_true rfl) dX2_init_7 (fun q7 cA H hK9 hP hD hS => ?_)
  obtain rfl := cls_I hK9
  clear hK9
  refine W.widen (k := 1) (n := 6) (Nat.le_of_ble_eq_true rfl) (Nat.le_of_ble_eq_true rfl) ?_
  refine va_putF (ci := 2) (v := .ref q7) (ty := (.array .int)) (C := RX2) (T := TX2) (N := 11) hx hb hts i_X2_init_X2 tyX2 tyX2_ok nmX2 hown hK hP hD hS 0 rfl rfl 1 (by decide) (hts _ m_X2_init_e4af18) (fun _ h9 => h9) rfl hin rfl (by decide +kernel) rfl rfl (Nat.le_of_ble_eq_true rfl) dX2_init_9 (fun H locs hP hD hS => ?_)
  have hP : va_P E.1 vwCl [(h0, .inr (2, [.int 0, .ref q7, .null, .null, .null, .null, .int 0, .int 0, .int 0, .null, .null])), (q7, .inl (E.2.1, 6, .inl (fun _ => 0)))] H := hP
  have hD : va_D A0 [(h0, .inr (2, [.int 0, .ref q7, .null, .null, .null, .null, .int 0, .int 0, .int 0, .null, .null])), (q7, .inl (E.2.1, 6, .inl (fun _ => 0)))] := hD
  refine lv_aload_n hx hb dX2_init_12 rfl (lv_at hl 0 rfl) ?_
  refine lv_bipush (v := 6) hx hb dX2_init_13 (by decide) ?_
  refine va_newa (atype := .int) (ty := .int) (a0 := (6, .inl (fun _ => 0))) (N' := 6) hx hb (hts _ m_X2_init_8e969f) rfl hK hP hD hS hA (fun _ => rfl) (by decide) (by decide) (Nat.le_of_ble_eq_true rfl) (Nat.le_of_ble_eq_true rfl) (Nat.le_of_ble_eq_true rfl) dX2_init_15 (fun q15 cA H hK9 hP hD hS => ?_)
  obtain rfl := cls_I hK9
  clear hK9
  refine W.widen (k := 2) (n := 12) (Nat.le_of_ble_eq_true rfl) (Nat.le_of_ble_eq_true rfl) ?_
  refine va_putF (ci := 2) (v := .ref q15) (ty := (.array .int)) (C := RX2) (T := TX2) (N := 11) hx hb hts i_X2_init_X2 tyX2 tyX2_ok nmX2 hown hK hP hD hS 0 rfl rfl 2 (by decide) (hts _ m_X2_init_a75564) (fun _ h9 => h9) rfl hin rfl (by decide +kernel) rfl rfl (Nat.le_of_ble_eq_true rfl) dX2_init_17 (fun H locs hP hD hS => ?_)
  have hP : va_P E.1 vwCl [(h0, .inr (2, [.int 0, .ref q7, .ref q15, .null, .null, .null, .int 0, .int 0, .int 0, .null, .null])), (q7, .inl (E.2.1, 6, .inl (fun _ => 0))), (q15, .inl (E.2.1, 6, .inl (fun _ => 0)))] H := hP
  have hD : va_D A0 [(h0, .inr (2, [.int 0, .ref q7, .ref q15, .null, .null, .null, .int 0, .int 0, .int 0, .null, .null])), (q7, .inl (E.2.1, 6, .inl (fun _ => 0))), (q15, .inl (E.2.1, 6, .inl (fun _ => 0)))] := hD
  refine lv_aload_n hx hb dX2_init_20 rfl (lv_at hl 0 rfl) ?_
  refine lv_bipush (v := 6) hx hb dX2_init_21 (by decide) ?_
  refine va_newa (atype := .int) (ty := .int) (a0 := (6, .inl (fun _ => 0))) (N' := 6) hx hb (hts _ m_X2_init_8e969f) rfl hK hP hD hS hA (fun _ => rfl) (by decide) (by decide) (Nat.le_of_ble_eq_true rfl) (Nat.le_of_ble_eq_true rfl) (Nat.le_of_ble_eq_true rfl) dX2_init_23 (fun q23 cA H hK9 hP hD hS => ?_)
  obtain rfl := cls_I hK9
  clear hK9
  refine W.widen (k := 3) (n := 18) (Nat.le_of_ble_eq_true rfl) (Nat.le_of_ble_eq_true rfl) ?_
  refine va_putF (ci := 2) (v := .ref q23) (ty := (.array .int)) (C := RX2) (T := TX2) (N := 11) hx hb hts i_X2_init_X2 tyX2 tyX2_ok nmX2 hown hK hP hD hS 0 rfl rfl 3 (by decide) (hts _ m_X2_init_d527ee) (fun _ h9 => h9) rfl hin rfl (by decide +kernel) rfl rfl (Nat.le_of_ble_eq_true rfl) dX2_init_25 (fun H locs hP hD hS => ?_)
  have hP : va_P E.1 vwCl [(h0, .inr (2, [.int 0, .ref q7, .ref q15, .ref q23, .null, .null, .int 0, .int 0, .int 0, .null, .null])), (q7, .inl (E.2.1, 6, .inl (fun _ => 0))), (q15, .inl (E.2.1, 6, .inl (fun _ => 0))), (q23, .inl (E.2.1, 6, .inl (fun _ => 0)))] H := hP
  have hD : va_D A0 [(h0, .inr (2, [.int 0, .ref q7, .ref q15, .ref q23, .null, .null, .int 0, .int 0, .int 0, .null, .null])), (q7, .inl (E.2.1, 6, .inl (fun _ => 0))), (q15, .inl (E.2.1, 6, .inl (fun _ => 0))), (q23, .inl (E.2.1, 6, .inl (fun _ => 0)))] := hD
  refine lv_aload_n hx hb dX2_init_28 rfl (lv_at hl 0 rfl) ?_
  refine lv_bipush (v := 24) hx hb dX2_init_29 (by decide) ?_
  refine va_newa (atype := .int) (ty := .int) (a0 := (24, .inl (fun _ => 0))) (N' := 24) hx hb (hts _ m_X2_init_8e969f) rfl hK hP hD hS hA (fun _ => rfl) (by decide) (by decide) (Nat.le_of_ble_eq_true rfl) (Nat.le_of_ble_eq_true rfl) (Nat.le_of_ble_eq_true rfl) dX2_init_31 (fun q31 cA H hK9 hP hD hS => ?_)
  obtain rfl := cls_I hK9
  clear hK9
  refine W.widen (k := 4) (n := 42) (Nat.le_of_ble_eq_true rfl) (Nat.le_of_ble_eq_true rfl) ?_
  refine va_putF (ci := 2) (v := .ref q31) (ty := (.array .int)) (C := RX2) (T := TX2) (N := 11) hx hb hts i_X2_init_X2 tyX2 tyX2_ok nmX2 hown hK hP hD hS 0 rfl rfl 4 (by decide) (hts _ m_X2_init_e39fb3) (fun _ h9 => h9) rfl hin rfl (by decide +kernel) rfl rfl (Nat.le_of_ble_eq_true rfl) dX2_init_33 (fun H locs hP hD hS => ?_)
  have hP : va_P E.1 vwCl [(h0, .inr (2, [.int 0, .ref q7, .ref q15, .ref q23, .ref q31, .null, .int 0, .int 0, .int 0, .null, .null])), (q7, .inl (E.2.1, 6, .inl (fun _ => 0))), (q15, .inl (E.2.1, 6, .inl (fun _ => 0))), (q23, .inl (E.2.1, 6, .inl (fun _ => 0))), (q31, .inl (E.2.1, 24, .inl (fun _ => 0)))] H := hP
  have hD : va_D A0 [(h0, .inr (2, [.int 0, .ref q7, .ref q15, .ref q23, .ref q31, .null, .int 0, .int 0, .int 0, .null, .null])), (q7, .inl (E.2.1, 6, .inl (fun _ => 0))), (q15, .inl (E.2.1, 6, .inl (fun _ => 0))), (q23, .inl (E.2.1, 6, .inl (fun _ => 0))), (q31, .inl (E.2.1, 24, .inl (fun _ => 0)))] := hD
  refine lv_aload_n hx hb dX2_init_36 rfl (lv_at hl 0 rfl) ?_
  refine lv_bipush (v := 6) hx hb dX2_init_37 (by decide) ?_
  refine va_newa (atype := .int) (ty := .int) (a0 := (6, .inl (fun _ => 0))) (N' := 6) hx hb (hts _ m_X2_init_8e969f) rfl hK hP hD hS hA (fun _ => rfl) (by decide) (by decide) (Nat.le_of_ble_eq_true rfl) (Nat.le_of_ble_eq_true rfl) (Nat.le_of_ble_eq_true rfl) dX2_init_39 (fun q39 cA H hK9 hP hD hS => ?_)
  obtain rfl := cls_I hK9
  clear hK9
  refine W.widen (k := 5) (n := 48) (Nat.le_of_ble_eq_true rfl) (Nat.le_of_ble_eq_true rfl) ?_
  refine va_putF (ci := 2) (v := .ref q39) (ty := (.array .int)) (C := RX2) (T := TX2) (N := 11) hx hb hts i_X2_init_X2 tyX2 tyX2_ok nmX2 hown hK hP hD hS 0 rfl rfl 5 (by decide) (hts _ m_X2_init_102288) (fun _ h9 => h9) rfl hin rfl (by decide +kernel) rfl rfl (Nat.le_of_ble_eq_true rfl) dX2_init_41 (fun H locs hP hD hS => ?_)
  have hP : va_P E.1 vwCl [(h0, .inr (2, [.int 0, .ref q7, .ref q15, .ref q23, .ref q31, .ref q39, .int 0, .int 0, .int 0, .null, .null])), (q7, .inl (E.2.1, 6, .inl (fun _ => 0))), (q15, .inl (E.2.1, 6, .inl (fun _ => 0))), (q23, .inl (E.2.1, 6, .inl (fun _ => 0))), (q31, .inl (E.2.1, 24, .inl (fun _ => 0))), (q39, .inl (E.2.1, 6, .inl (fun _ => 0)))] H := hP
  have hD : va_D A0 [(h0, .inr (2, [.int 0, .ref q7, .ref q15, .ref q23, .ref q31, .ref q39, .int 0, .int 0, .int 0, .null, .null])), (q7, .inl (E.2.1, 6, .inl (fun _ => 0))), (q15, .inl (E.2.1, 6, .inl (fun _ => 0))), (q23, .inl (E.2.1, 6, .inl (fun _ => 0))), (q31, .inl (E.2.1, 24, .inl (fun _ => 0))), (q39, .inl (E.2.1, 6, .inl (fun _ => 0)))] := hD
  refine lv_aload_n hx hb dX2_init_44 rfl (lv_at hl 0 rfl) ?_
  refine lv_bipush (v := 6) hx hb dX2_init_45 (by decide) ?_
  refine va_newa (atype := .int) (ty := .int) (a0 := (6, .inl (fun _ => 0))) (N' := 6) hx hb (hts _ m_X2_init_8e969f) rfl hK hP hD hS hA (fun _ => rfl) (by decide) (by decide) (Nat.le_of_ble_eq_true rfl) (Nat.le_of_ble_eq_true rfl) (Nat.le_of_ble_eq_true rfl) dX2_init_47 (fun q47 cA H hK9 hP hD hS => ?_)
  obtain rfl := cls_I hK9
  clear hK9
  refine W.widen (k := 6) (n := 54) (Nat.le_of_ble_eq_true rfl) (Nat.le_of_ble_eq_true rfl) ?_
  refine va_putF (ci := 2) (v := .ref q47) (ty := (.array .int)) (C := RX2) (T := TX2) (N := 11) hx hb hts i_X2_init_X2 tyX2 tyX2_ok nmX2 hown hK hP hD hS 0 rfl rfl 10 (by decide) (hts _ m_X2_init_c65722) (fun _ h9 => h9) rfl hin rfl (by decide +kernel) rfl rfl (Nat.le_of_ble_eq_true rfl) dX2_init_49 (fun H locs hP hD hS => ?_)
  have hP : va_P E.1 vwCl [(h0, .inr (2, [.int 0, .ref q7, .ref q15, .ref q23, .ref q31, .ref q39, .int 0, .int 0, .int 0, .null, .ref q47])), (q7, .inl (E.2.1, 6, .inl (fun _ => 0))), (q15, .inl (E.2.1, 6, .inl (fun _ => 0))), (q23, .inl (E.2.1, 6, .inl (fun _ => 0))), (q31, .inl (E.2.1, 24, .inl (fun _ => 0))), (q39, .inl (E.2.1, 6, .inl (fun _ => 0))), (q47, .inl (E.2.1, 6, .inl (fun _ => 0)))] H := hP
  have hD : va_D A0 [(h0, .inr (2, [.int 0, .ref q7, .ref q15, .ref q23, .ref q31, .ref q39, .int 0, .int 0, .int 0, .null, .ref q47])), (q7, .inl (E.2.1, 6, .inl (fun _ => 0))), (q15, .inl (E.2.1, 6, .inl (fun _ => 0))), (q23, .inl (E.2.1, 6, .inl (fun _ => 0))), (q31, .inl (E.2.1, 24, .inl (fun _ => 0))), (q39, .inl (E.2.1, 6, .inl (fun _ => 0))), (q47, .inl (E.2.1, 6, .inl (fun _ => 0)))] := hD
  exact rt_n hx hb hr hlocks ⟨fun k => ([h0, q7, q15, q23, q31, q39, q47] : List Nat).getD k 0, rfl, hP, hD⟩ hS dX2_init_52
def st_X3 : St := (fun _ _ => 0)
abbrev rm_X3_init : Room := { frames := 1, cells := 2, slots := 12, locals := 40 }
theorem i_X3_init_X3 : ∀ w ∈ wsX30, w ∈ wsX3_init := fun _ h => List.mem_cons_of_mem _ (List.mem_append_right _ h)
theorem m_X3_init_dd3e0d : Cond.methodLink RX3 3 objectInit ∈ wsX3_init := by decide +kernel
theorem m_X3_init_99ff6a : Cond.instanceMethod objectInit ∈ wsX3_init := by decide +kernel
theorem m_X3_init_bd0ebf : Cond.code objectInit ⟨#[0xb1]⟩ 1 none ∈ wsX3_init := by decide +kernel
theorem m_X3_init_8e969f : Cond.arrayClass .int ∈ wsX3_init := by decide +kernel
theorem m_X3_init_3c3e5b : Cond.fieldLink RX3 9 "PickedMatch$Search" "tried" "[I" ∈ wsX3_init := by decide +kernel
theorem m_X3_init_725a65 : Cond.fieldLink RX3 15 "PickedMatch$Search" "best" "[I" ∈ wsX3_init := by decide +kernel
set_option maxHeartbeats 8000000 in
set_option maxRecDepth 100000 in
theorem k_X3_init (l : Launch) (E : Ev) (h0 : Nat) : Cn l yX3_init wsX3_init rm_X3_init E 3 [.null, .null, .int 0, .int 0] (fun a => wX3 E a st_X3) h0 2 12 := by
  intro sz
  refine Met.ofW (cc := cX3_init) (maxL := 1) (ret := none) (by decide) rfl ?_
  intro p e s m args below meth c s₁ B hml hv
  obtain ⟨rfl, hsz, hP, hK, hD, hG, hA, hAB⟩ := start hv
  have hx := B.exec
  have hb := B.bytes
  have hr := B.returns
  have hts := atoms_spec (ws := wsX3_init) B.pre
  have hown : s.vm.findClass RX3 = some m.cls := findClass_of_methodNamed B.named
  have hlocks := B.notSynchronized
  have hin : meth.name = "<init>" := (name_of_methodNamed B.named B.method).1
  subst hsz
  generalize va_A [(h0, .inr (3, [.null, .null, .int 0, .int 0]))] s.heap.size = A0 at hD hA hAB ⊢
  have hS : va_S A0 s.heap s.heap [] := va_S.rf
  have hP : va_P E.1 vwCl [(h0, .inr (3, [.null, .null, .int 0, .int 0]))] s.heap := hP
  have hl := lv_entry ([.ref h0]) (n := 1) (Nat.le_of_ble_eq_true rfl)
  rw [lg_entry_eq]
  generalize (lg_sl ([.ref h0]) ++ List.replicate (1 - (lg_sl ([.ref h0])).length) Slot.unset).toArray = ls at hl ⊢
  have hl : lv_has ls 1 [(0, .ref h0)] := hl
  refine lv_aload_n hx hb dX3_init_0 rfl (lv_at hl 0 rfl) ?_
  refine W.objInit hx hb hown (hts _ m_X3_init_dd3e0d) (hts _ m_X3_init_99ff6a) (hts _ m_X3_init_bd0ebf) rfl (by rw [hml]; exact hl.1) rfl dX3_init_1 (Nat.le_of_ble_eq_true rfl) (Nat.le_of_ble_eq_true rfl) ?_
  refine W.eq (g2 := F0 m 4 ls []) rfl ?_
  refine lv_aload_n hx hb dX3_init_4 rfl (lv_at hl 0 rfl) ?_
  refine lv_bipush (v := 6) hx hb dX3_init_5 (by decide) ?_
  refine va_newa (atype := .int) (ty := .int) (a0 := (6, .inl (fun _ => 0))) (N' := 6) hx hb (hts _ m_X3_init_8e969f) rfl hK hP hD hS hA (fun _ => rfl) (by decide) (by decide) (Nat.le_of_ble_eq_true rfl) (Nat.le_of_ble_eq_true rfl) (Nat.le_of_ble_eq_true rfl) dX3_init_7 (fun q7 cA H hK9 hP hD hS => ?_)
  obtain rfl := cls_I hK9
  clear hK9
  refine W.widen (k := 1) (n := 6) (Nat.le_of_ble_eq_true rfl) (Nat.le_of_ble_eq_true rfl) ?_
  refine va_putF (ci := 3) (v := .ref q7) (ty := (.array .int)) (C := RX3) (T := TX3) (N := 4) hx hb hts i_X3_init_X3 tyX3 tyX3_ok nmX3 hown hK hP hD hS 0 rfl rfl 0 (by decide) (hts _ m_X3_init_3c3e5b) (fun _ h9 => h9) rfl hin rfl (by decide +kernel) rfl rfl (Nat.le_of_ble_eq_true rfl) dX3_init_9 (fun H locs hP hD hS => ?_)
  have hP : va_P E.1 vwCl [(h0, .inr (3, [.ref q7, .null, .int 0, .int 0])), (q7, .inl (E.2.1, 6, .inl (fun _ => 0)))] H := hP
  have hD : va_D A0 [(h0, .inr (3, [.ref q7, .null, .int 0, .int 0])), (q7, .inl (E.2.1, 6, .inl (fun _ => 0)))] := hD
  refine lv_aload_n hx hb dX3_init_12 rfl (lv_at hl 0 rfl) ?_
  refine lv_bipush (v := 6) hx hb dX3_init_13 (by decide) ?_
  refine va_newa (atype := .int) (ty := .int) (a0 := (6, .inl (fun _ => 0))) (N' := 6) hx hb (hts _ m_X3_init_8e969f) rfl hK hP hD hS hA (fun _ => rfl) (by decide) (by decide) (Nat.le_of_ble_eq_true rfl) (Nat.le_of_ble_eq_true rfl) (Nat.le_of_ble_eq_true rfl) dX3_init_15 (fun q15 cA H hK9 hP hD hS => ?_)
  obtain rfl := cls_I hK9
  clear hK9
  refine W.widen (k := 2) (n := 12) (Nat.le_of_ble_eq_true rfl) (Nat.le_of_ble_eq_true rfl) ?_
  refine va_putF (ci := 3) (v := .ref q15) (ty := (.array .int)) (C := RX3) (T := TX3) (N := 4) hx hb hts i_X3_init_X3 tyX3 tyX3_ok nmX3 hown hK hP hD hS 0 rfl rfl 1 (by decide) (hts _ m_X3_init_725a65) (fun _ h9 => h9) rfl hin rfl (by decide +kernel) rfl rfl (Nat.le_of_ble_eq_true rfl) dX3_init_17 (fun H locs hP hD hS => ?_)
  have hP : va_P E.1 vwCl [(h0, .inr (3, [.ref q7, .ref q15, .int 0, .int 0])), (q7, .inl (E.2.1, 6, .inl (fun _ => 0))), (q15, .inl (E.2.1, 6, .inl (fun _ => 0)))] H := hP
  have hD : va_D A0 [(h0, .inr (3, [.ref q7, .ref q15, .int 0, .int 0])), (q7, .inl (E.2.1, 6, .inl (fun _ => 0))), (q15, .inl (E.2.1, 6, .inl (fun _ => 0)))] := hD
  exact rt_n hx hb hr hlocks ⟨fun k => ([h0, q7, q15] : List Nat).getD k 0, rfl, hP, hD⟩ hS dX3_init_20
def st_X5 : St := (fun _ _ => 0)
abbrev rm_X5_init : Room := { frames := 1, cells := 2, slots := 200, locals := 40 }
theorem i_X5_init_X5 : ∀ w ∈ wsX50, w ∈ wsX5_init := fun _ h => List.mem_cons_of_mem _ (List.mem_append_right _ h)
theorem m_X5_init_1fe1a4 : Cond.methodLink RX5 3 objectInit ∈ wsX5_init := by decide +kernel
theorem m_X5_init_99ff6a : Cond.instanceMethod objectInit ∈ wsX5_init := by decide +kernel
theorem m_X5_init_bd0ebf : Cond.code objectInit ⟨#[0xb1]⟩ 1 none ∈ wsX5_init := by decide +kernel
theorem m_X5_init_8e969f : Cond.arrayClass .int ∈ wsX5_init := by decide +kernel
theorem m_X5_init_616439 : Cond.fieldLink RX5 11 "PickedMatch$StreetReader" "text" "[I" ∈ wsX5_init := by decide +kernel
theorem m_X5_init_16fbec : Cond.fieldLink RX5 15 "PickedMatch$StreetReader" "code" "[I" ∈ wsX5_init := by decide +kernel
set_option maxHeartbeats 8000000 in
set_option maxRecDepth 100000 in
theorem k_X5_init (l : Launch) (E : Ev) (h0 : Nat) : Cn l yX5_init wsX5_init rm_X5_init E 5 [.null, .int 0, .null, .int 0, .int 0, .int 0, .int 0, .int 0] (fun a => wX5 E a st_X5) h0 2 200 := by
  intro sz
  refine Met.ofW (cc := cX5_init) (maxL := 1) (ret := none) (by decide) rfl ?_
  intro p e s m args below meth c s₁ B hml hv
  obtain ⟨rfl, hsz, hP, hK, hD, hG, hA, hAB⟩ := start hv
  have hx := B.exec
  have hb := B.bytes
  have hr := B.returns
  have hts := atoms_spec (ws := wsX5_init) B.pre
  have hown : s.vm.findClass RX5 = some m.cls := findClass_of_methodNamed B.named
  have hlocks := B.notSynchronized
  have hin : meth.name = "<init>" := (name_of_methodNamed B.named B.method).1
  subst hsz
  generalize va_A [(h0, .inr (5, [.null, .int 0, .null, .int 0, .int 0, .int 0, .int 0, .int 0]))] s.heap.size = A0 at hD hA hAB ⊢
  have hS : va_S A0 s.heap s.heap [] := va_S.rf
  have hP : va_P E.1 vwCl [(h0, .inr (5, [.null, .int 0, .null, .int 0, .int 0, .int 0, .int 0, .int 0]))] s.heap := hP
  have hl := lv_entry ([.ref h0]) (n := 1) (Nat.le_of_ble_eq_true rfl)
  rw [lg_entry_eq]
  generalize (lg_sl ([.ref h0]) ++ List.replicate (1 - (lg_sl ([.ref h0])).length) Slot.unset).toArray = ls at hl ⊢
  have hl : lv_has ls 1 [(0, .ref h0)] := hl
  refine lv_aload_n hx hb dX5_init_0 rfl (lv_at hl 0 rfl) ?_
  refine W.objInit hx hb hown (hts _ m_X5_init_1fe1a4) (hts _ m_X5_init_99ff6a) (hts _ m_X5_init_bd0ebf) rfl (by rw [hml]; exact hl.1) rfl dX5_init_1 (Nat.le_of_ble_eq_true rfl) (Nat.le_of_ble_eq_true rfl) ?_
  refine W.eq (g2 := F0 m 4 ls []) rfl ?_
  refine lv_aload_n hx hb dX5_init_4 rfl (lv_at hl 0 rfl) ?_
  refine lv_bipush (v := 100) hx hb dX5_init_5 (by decide) ?_
  refine va_newa (atype := .int) (ty := .int) (a0 := (100, .inl (fun _ => 0))) (N' := 100) hx hb (hts _ m_X5_init_8e969f) rfl hK hP hD hS hA (fun _ => rfl) (by decide) (by decide) (Nat.le_of_ble_eq_true rfl) (Nat.le_of_ble_eq_true rfl) (Nat.le_of_ble_eq_true rfl) dX5_init_7 (fun q7 cA H hK9 hP hD hS => ?_)
  obtain rfl := cls_I hK9
  clear hK9
  refine W.widen (k := 1) (n := 100) (Nat.le_of_ble_eq_true rfl) (Nat.le_of_ble_eq_true rfl) ?_
  refine va_putF (ci := 5) (v := .ref q7) (ty := (.array .int)) (C := RX5) (T := TX5) (N := 8) hx hb hts i_X5_init_X5 tyX5 tyX5_ok nmX5 hown hK hP hD hS 0 rfl rfl 0 (by decide) (hts _ m_X5_init_616439) (fun _ h9 => h9) rfl hin rfl (by decide +kernel) rfl rfl (Nat.le_of_ble_eq_true rfl) dX5_init_9 (fun H locs hP hD hS => ?_)
  have hP : va_P E.1 vwCl [(h0, .inr (5, [.ref q7, .int 0, .null, .int 0, .int 0, .int 0, .int 0, .int 0])), (q7, .inl (E.2.1, 100, .inl (fun _ => 0)))] H := hP
  have hD : va_D A0 [(h0, .inr (5, [.ref q7, .int 0, .null, .int 0, .int 0, .int 0, .int 0, .int 0])), (q7, .inl (E.2.1, 100, .inl (fun _ => 0)))] := hD
  refine lv_aload_n hx hb dX5_init_12 rfl (lv_at hl 0 rfl) ?_
  refine lv_bipush (v := 100) hx hb dX5_init_13 (by decide) ?_
  refine va_newa (atype := .int) (ty := .int) (a0 := (100, .inl (fun _ => 0))) (N' := 100) hx hb (hts _ m_X5_init_8e969f) rfl hK hP hD hS hA (fun _ => rfl) (by decide) (by decide) (Nat.le_of_ble_eq_true rfl) (Nat.le_of_ble_eq_true rfl) (Nat.le_of_ble_eq_true rfl) dX5_init_15 (fun q15 cA H hK9 hP hD hS => ?_)
  obtain rfl := cls_I hK9
  clear hK9
  refine W.widen (k := 2) (n := 200) (Nat.le_of_ble_eq_true rfl) (Nat.le_of_ble_eq_true rfl) ?_
  refine va_putF (ci := 5) (v := .ref q15) (ty := (.array .int)) (C := RX5) (T := TX5) (N := 8) hx hb hts i_X5_init_X5 tyX5 tyX5_ok nmX5 hown hK hP hD hS 0 rfl rfl 2 (by decide) (hts _ m_X5_init_16fbec) (fun _ h9 => h9) rfl hin rfl (by decide +kernel) rfl rfl (Nat.le_of_ble_eq_true rfl) dX5_init_17 (fun H locs hP hD hS => ?_)
  have hP : va_P E.1 vwCl [(h0, .inr (5, [.ref q7, .int 0, .ref q15, .int 0, .int 0, .int 0, .int 0, .int 0])), (q7, .inl (E.2.1, 100, .inl (fun _ => 0))), (q15, .inl (E.2.1, 100, .inl (fun _ => 0)))] H := hP
  have hD : va_D A0 [(h0, .inr (5, [.ref q7, .int 0, .ref q15, .int 0, .int 0, .int 0, .int 0, .int 0])), (q7, .inl (E.2.1, 100, .inl (fun _ => 0))), (q15, .inl (E.2.1, 100, .inl (fun _ => 0)))] := hD
  exact rt_n hx hb hr hlocks ⟨fun k => ([h0, q7, q15] : List Nat).getD k 0, rfl, hP, hD⟩ hS dX5_init_20
abbrev rm_X6_init : Room := { frames := 1, cells := 3, slots := 372, locals := 40 }
theorem i_X6_init_X6 : ∀ w ∈ wsX60, w ∈ wsX6_init := fun _ h => List.mem_cons_of_mem _ (List.mem_append_right _ h)
theorem m_X6_init_3c92e7 : Cond.methodLink RX6 1 objectInit ∈ wsX6_init := by decide +kernel
theorem m_X6_init_99ff6a : Cond.instanceMethod objectInit ∈ wsX6_init := by decide +kernel
theorem m_X6_init_bd0ebf : Cond.code objectInit ⟨#[0xb1]⟩ 1 none ∈ wsX6_init := by decide +kernel
theorem m_X6_init_8e969f : Cond.arrayClass .int ∈ wsX6_init := by decide +kernel
theorem m_X6_init_f44ca2 : Cond.fieldLink RX6 9 "PickedMatch$Tapes" "sorts" "[I" ∈ wsX6_init := by decide +kernel
theorem m_X6_init_967f3c : Cond.fieldLink RX6 13 "PickedMatch$Tapes" "lengths" "[I" ∈ wsX6_init := by decide +kernel
theorem m_X6_init_6933bd : Cond.arrayClass .long ∈ wsX6_init := by decide +kernel
theorem m_X6_init_9b49fa : Cond.fieldLink RX6 16 "PickedMatch$Tapes" "items" "[J" ∈ wsX6_init := by decide +kernel
set_option maxHeartbeats 8000000 in
set_option maxRecDepth 100000 in
theorem k_X6_init (l : Launch) (E : Ev) (h0 : Nat) : Cn l yX6_init wsX6_init rm_X6_init E 6 [.null, .null, .null] (fun a => wX6 E a st_X6 (fun _ _ => 0)) h0 3 372 := by
  intro sz
  refine Met.ofW (cc := cX6_init) (maxL := 1) (ret := none) (by decide) rfl ?_
  intro p e s m args below meth c s₁ B hml hv
  obtain ⟨rfl, hsz, hP, hK, hD, hG, hA, hAB⟩ := start hv
  have hx := B.exec
  have hb := B.bytes
  have hr := B.returns
  have hts := atoms_spec (ws := wsX6_init) B.pre
  have hown : s.vm.findClass RX6 = some m.cls := findClass_of_methodNamed B.named
  have hlocks := B.notSynchronized
  have hin : meth.name = "<init>" := (name_of_methodNamed B.named B.method).1
  subst hsz
  generalize va_A [(h0, .inr (6, [.null, .null, .null]))] s.heap.size = A0 at hD hA hAB ⊢
  have hS : va_S A0 s.heap s.heap [] := va_S.rf
  have hP : va_P E.1 vwCl [(h0, .inr (6, [.null, .null, .null]))] s.heap := hP
  have hl := lv_entry ([.ref h0]) (n := 1) (Nat.le_of_ble_eq_true rfl)
  rw [lg_entry_eq]
  generalize (lg_sl ([.ref h0]) ++ List.replicate (1 - (lg_sl ([.ref h0])).length) Slot.unset).toArray = ls at hl ⊢
  have hl : lv_has ls 1 [(0, .ref h0)] := hl
  refine lv_aload_n hx hb dX6_init_0 rfl (lv_at hl 0 rfl) ?_
  refine W.objInit hx hb hown (hts _ m_X6_init_3c92e7) (hts _ m_X6_init_99ff6a) (hts _ m_X6_init_bd0ebf) rfl (by rw [hml]; exact hl.1) rfl dX6_init_1 (Nat.le_of_ble_eq_true rfl) (Nat.le_of_ble_eq_true rfl) ?_
  refine W.eq (g2 := F0 m 4 ls []) rfl ?_
  refine lv_aload_n hx hb dX6_init_4 rfl (lv_at hl 0 rfl) ?_
  refine lv_bipush (v := 6) hx hb dX6_init_5 (by decide) ?_
  refine va_newa (atype := .int) (ty := .int) (a0 := (6, .inl (fun _ => 0))) (N' := 6) hx hb (hts _ m_X6_init_8e969f) rfl hK hP hD hS hA (fun _ => rfl) (by decide) (by decide) (Nat.le_of_ble_eq_true rfl) (Nat.le_of_ble_eq_true rfl) (Nat.le_of_ble_eq_true rfl) dX6_init_7 (fun q7 cA H hK9 hP hD hS => ?_)
  obtain rfl := cls_I hK9
  clear hK9
  refine W.widen (k := 1) (n := 6) (Nat.le_of_ble_eq_true rfl) (Nat.le_of_ble_eq_true rfl) ?_
  refine lv_dup hx hb dX6_init_9 rfl ?_
  refine lv_iconst (v := 0) hx hb dX6_init_10 (by decide) ?_
  refine lv_iconst (v := (-1)) hx hb dX6_init_11 (by decide) ?_
  refine va_iast (cA := E.2.1) (n := 6) (f := (fun _ => 0)) (x := (-1)) (i := 0) hx hb hK hP hD hS 1 0 rfl rfl (by unfold vp_in; decide) dX6_init_12 (fun H locs hP hD hS => ?_)
  have hP : va_P E.1 vwCl [(h0, .inr (6, [.null, .null, .null])), (q7, .inl (E.2.1, 6, .inl (upd (fun _ => 0) 0 (-1))))] H := hP
  have hD : va_D A0 [(h0, .inr (6, [.null, .null, .null])), (q7, .inl (E.2.1, 6, .inl (upd (fun _ => 0) 0 (-1))))] := hD
  refine lv_dup hx hb dX6_init_13 rfl ?_
  refine lv_iconst (v := 1) hx hb dX6_init_14 (by decide) ?_
  refine lv_iconst (v := (-1)) hx hb dX6_init_15 (by decide) ?_
  refine va_iast (cA := E.2.1) (n := 6) (f := (upd (fun _ => 0) 0 (-1))) (x := (-1)) (i := 1) hx hb hK hP hD hS 1 0 rfl rfl (by unfold vp_in; decide) dX6_init_16 (fun H locs hP hD hS => ?_)
  have hP : va_P E.1 vwCl [(h0, .inr (6, [.null, .null, .null])), (q7, .inl (E.2.1, 6, .inl (upd (upd (fun _ => 0) 0 (-1)) 1 (-1))))] H := hP
  have hD : va_D A0 [(h0, .inr (6, [.null, .null, .null])), (q7, .inl (E.2.1, 6, .inl (upd (upd (fun _ => 0) 0 (-1)) 1 (-1))))] := hD
  refine lv_dup hx hb dX6_init_17 rfl ?_
  refine lv_iconst (v := 2) hx hb dX6_init_18 (by decide) ?_
  refine lv_iconst (v := (-1)) hx hb dX6_init_19 (by decide) ?_
  refine va_iast (cA := E.2.1) (n := 6) (f := (upd (upd (fun _ => 0) 0 (-1)) 1 (-1))) (x := (-1)) (i := 2) hx hb hK hP hD hS 1 0 rfl rfl (by unfold vp_in; decide) dX6_init_20 (fun H locs hP hD hS => ?_)
  have hP : va_P E.1 vwCl [(h0, .inr (6, [.null, .null, .null])), (q7, .inl (E.2.1, 6, .inl (upd (upd (upd (fun _ => 0) 0 (-1)) 1 (-1)) 2 (-1))))] H := hP
  have hD : va_D A0 [(h0, .inr (6, [.null, .null, .null])), (q7, .inl (E.2.1, 6, .inl (upd (upd (upd (fun _ => 0) 0 (-1)) 1 (-1)) 2 (-1))))] := hD
  refine lv_dup hx hb dX6_init_21 rfl ?_
  refine lv_iconst (v := 3) hx hb dX6_init_22 (by decide) ?_
  refine lv_iconst (v := (-1)) hx hb dX6_init_23 (by decide) ?_
  refine va_iast (cA := E.2.1) (n := 6) (f := (upd (upd (upd (fun _ => 0) 0 (-1)) 1 (-1)) 2 (-1))) (x := (-1)) (i := 3) hx hb hK hP hD hS 1 0 rfl rfl (by unfold vp_in; decide) dX6_init_24 (fun H locs hP hD hS => ?_)
  have hP : va_P E.1 vwCl [(h0, .inr (6, [.null, .null, .null])), (q7, .inl (E.2.1, 6, .inl (upd (upd (upd (upd (fun _ => 0) 0 (-1)) 1 (-1)) 2 (-1)) 3 (-1))))] H := hP
  have hD : va_D A0 [(h0, .inr (6, [.null, .null, .null])), (q7, .inl (E.2.1, 6, .inl (upd (upd (upd (upd (fun _ => 0) 0 (-1)) 1 (-1)) 2 (-1)) 3 (-1))))] := hD
  refine lv_dup hx hb dX6_init_25 rfl ?_
  refine lv_iconst (v := 4) hx hb dX6_init_26 (by decide) ?_
  refine lv_iconst (v := (-1)) hx hb dX6_init_27 (by decide) ?_
  refine va_iast (cA := E.2.1) (n := 6) (f := (upd (upd (upd (upd (fun _ => 0) 0 (-1)) 1 (-1)) 2 (-1)) 3 (-1))) (x := (-1)) (i := 4) hx hb hK hP hD hS 1 0 rfl rfl (by unfold vp_in; decide) dX6_init_28 (fun H locs hP hD hS => ?_)
  have hP : va_P E.1 vwCl [(h0, .inr (6, [.null, .null, .null])), (q7, .inl (E.2.1, 6, .inl (upd (upd (upd (upd (upd (fun _ => 0) 0 (-1)) 1 (-1)) 2 (-1)) 3 (-1)) 4 (-1))))] H := hP
  have hD : va_D A0 [(h0, .inr (6, [.null, .null, .null])), (q7, .inl (E.2.1, 6, .inl (upd (upd (upd (upd (upd (fun _ => 0) 0 (-1)) 1 (-1)) 2 (-1)) 3 (-1)) 4 (-1))))] := hD
  refine lv_dup hx hb dX6_init_29 rfl ?_
  refine lv_iconst (v := 5) hx hb dX6_init_30 (by decide) ?_
  refine lv_iconst (v := (-1)) hx hb dX6_init_31 (by decide) ?_
  refine va_iast (cA := E.2.1) (n := 6) (f := (upd (upd (upd (upd (upd (fun _ => 0) 0 (-1)) 1 (-1)) 2 (-1)) 3 (-1)) 4 (-1))) (x := (-1)) (i := 5) hx hb hK hP hD hS 1 0 rfl rfl (by unfold vp_in; decide) dX6_init_32 (fun H locs hP hD hS => ?_)
  have hP : va_P E.1 vwCl [(h0, .inr (6, [.null, .null, .null])), (q7, .inl (E.2.1, 6, .inl (upd (upd (upd (upd (upd (upd (fun _ => 0) 0 (-1)) 1 (-1)) 2 (-1)) 3 (-1)) 4 (-1)) 5 (-1))))] H := hP
  have hD : va_D A0 [(h0, .inr (6, [.null, .null, .null])), (q7, .inl (E.2.1, 6, .inl (upd (upd (upd (upd (upd (upd (fun _ => 0) 0 (-1)) 1 (-1)) 2 (-1)) 3 (-1)) 4 (-1)) 5 (-1))))] := hD
  refine va_putF (ci := 6) (v := .ref q7) (ty := (.array .int)) (C := RX6) (T := TX6) (N := 3) hx hb hts i_X6_init_X6 tyX6 tyX6_ok nmX6 hown hK hP hD hS 0 rfl rfl 0 (by decide) (hts _ m_X6_init_f44ca2) (fun _ h9 => h9) rfl hin rfl (by decide +kernel) rfl rfl (Nat.le_of_ble_eq_true rfl) dX6_init_33 (fun H locs hP hD hS => ?_)
  have hP : va_P E.1 vwCl [(h0, .inr (6, [.ref q7, .null, .null])), (q7, .inl (E.2.1, 6, .inl (upd (upd (upd (upd (upd (upd (fun _ => 0) 0 (-1)) 1 (-1)) 2 (-1)) 3 (-1)) 4 (-1)) 5 (-1))))] H := hP
  have hD : va_D A0 [(h0, .inr (6, [.ref q7, .null, .null])), (q7, .inl (E.2.1, 6, .inl (upd (upd (upd (upd (upd (upd (fun _ => 0) 0 (-1)) 1 (-1)) 2 (-1)) 3 (-1)) 4 (-1)) 5 (-1))))] := hD
  refine lv_aload_n hx hb dX6_init_36 rfl (lv_at hl 0 rfl) ?_
  refine lv_bipush (v := 6) hx hb dX6_init_37 (by decide) ?_
  refine va_newa (atype := .int) (ty := .int) (a0 := (6, .inl (fun _ => 0))) (N' := 6) hx hb (hts _ m_X6_init_8e969f) rfl hK hP hD hS hA (fun _ => rfl) (by decide) (by decide) (Nat.le_of_ble_eq_true rfl) (Nat.le_of_ble_eq_true rfl) (Nat.le_of_ble_eq_true rfl) dX6_init_39 (fun q39 cA H hK9 hP hD hS => ?_)
  obtain rfl := cls_I hK9
  clear hK9
  refine W.widen (k := 2) (n := 12) (Nat.le_of_ble_eq_true rfl) (Nat.le_of_ble_eq_true rfl) ?_
  refine va_putF (ci := 6) (v := .ref q39) (ty := (.array .int)) (C := RX6) (T := TX6) (N := 3) hx hb hts i_X6_init_X6 tyX6 tyX6_ok nmX6 hown hK hP hD hS 0 rfl rfl 1 (by decide) (hts _ m_X6_init_967f3c) (fun _ h9 => h9) rfl hin rfl (by decide +kernel) rfl rfl (Nat.le_of_ble_eq_true rfl) dX6_init_41 (fun H locs hP hD hS => ?_)
  have hP : va_P E.1 vwCl [(h0, .inr (6, [.ref q7, .ref q39, .null])), (q7, .inl (E.2.1, 6, .inl (upd (upd (upd (upd (upd (upd (fun _ => 0) 0 (-1)) 1 (-1)) 2 (-1)) 3 (-1)) 4 (-1)) 5 (-1)))), (q39, .inl (E.2.1, 6, .inl (fun _ => 0)))] H := hP
  have hD : va_D A0 [(h0, .inr (6, [.ref q7, .ref q39, .null])), (q7, .inl (E.2.1, 6, .inl (upd (upd (upd (upd (upd (upd (fun _ => 0) 0 (-1)) 1 (-1)) 2 (-1)) 3 (-1)) 4 (-1)) 5 (-1)))), (q39, .inl (E.2.1, 6, .inl (fun _ => 0)))] := hD
  refine lv_aload_n hx hb dX6_init_44 rfl (lv_at hl 0 rfl) ?_
  refine lv_sipush (v := 360) hx hb dX6_init_45 (by decide) ?_
  refine va_newa (atype := .long) (ty := .long) (a0 := (360, .inr (.inl (fun _ => 0)))) (N' := 360) hx hb (hts _ m_X6_init_6933bd) rfl hK hP hD hS hA (fun _ => rfl) (by decide) (by decide) (Nat.le_of_ble_eq_true rfl) (Nat.le_of_ble_eq_true rfl) (Nat.le_of_ble_eq_true rfl) dX6_init_48 (fun q48 cA H hK9 hP hD hS => ?_)
  obtain rfl := cls_J hK9
  clear hK9
  refine W.widen (k := 3) (n := 372) (Nat.le_of_ble_eq_true rfl) (Nat.le_of_ble_eq_true rfl) ?_
  refine va_putF (ci := 6) (v := .ref q48) (ty := (.array .long)) (C := RX6) (T := TX6) (N := 3) hx hb hts i_X6_init_X6 tyX6 tyX6_ok nmX6 hown hK hP hD hS 0 rfl rfl 2 (by decide) (hts _ m_X6_init_9b49fa) (fun _ h9 => h9) rfl hin rfl (by decide +kernel) rfl rfl (Nat.le_of_ble_eq_true rfl) dX6_init_50 (fun H locs hP hD hS => ?_)
  have hP : va_P E.1 vwCl [(h0, .inr (6, [.ref q7, .ref q39, .ref q48])), (q7, .inl (E.2.1, 6, .inl (upd (upd (upd (upd (upd (upd (fun _ => 0) 0 (-1)) 1 (-1)) 2 (-1)) 3 (-1)) 4 (-1)) 5 (-1)))), (q39, .inl (E.2.1, 6, .inl (fun _ => 0))), (q48, .inl (E.2.2.1, 360, .inr (.inl (fun _ => 0))))] H := hP
  have hD : va_D A0 [(h0, .inr (6, [.ref q7, .ref q39, .ref q48])), (q7, .inl (E.2.1, 6, .inl (upd (upd (upd (upd (upd (upd (fun _ => 0) 0 (-1)) 1 (-1)) 2 (-1)) 3 (-1)) 4 (-1)) 5 (-1)))), (q39, .inl (E.2.1, 6, .inl (fun _ => 0))), (q48, .inl (E.2.2.1, 360, .inr (.inl (fun _ => 0))))] := hD
  exact rt_n hx hb hr hlocks ⟨fun k => ([h0, q7, q39, q48] : List Nat).getD k 0, rfl, hP, hD⟩ hS dX6_init_53
