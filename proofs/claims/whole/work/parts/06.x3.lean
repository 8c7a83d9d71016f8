abbrev rm_X4_init : Room := { frames := 1, cells := 1, slots := 100, locals := 60 }
theorem m_X4_init_9187e1 : Cond.methodLink RX4 1 objectInit ∈ wsX4_init := by decide +kernel
theorem m_X4_init_99ff6a : Cond.instanceMethod objectInit ∈ wsX4_init := by decide +kernel
theorem m_X4_init_bd0ebf : Cond.code objectInit ⟨#[0xb1]⟩ 1 none ∈ wsX4_init := by decide +kernel
theorem m_X4_init_23c017 : Cond.methodLink RX4 7 Lib.Math.min.name ∈ wsX4_init := by decide +kernel
theorem m_X4_init_1a05fe : Cond.static Lib.Math.min.name ∈ wsX4_init := by decide +kernel
theorem m_X4_init_0001fc : Cond.initialized "java/lang/Math" ∈ wsX4_init := by decide +kernel
theorem m_X4_init_5e99ca : Cond.code Lib.Math.min.name Lib.Math.min.code 2 (some .int) ∈ wsX4_init := by decide +kernel
theorem m_X4_init_fece5c : Cond.methodLink RX4 13 Lib.Math.max.name ∈ wsX4_init := by decide +kernel
theorem m_X4_init_7cc87a : Cond.static Lib.Math.max.name ∈ wsX4_init := by decide +kernel
theorem m_X4_init_6b973c : Cond.code Lib.Math.max.name Lib.Math.max.code 2 (some .int) ∈ wsX4_init := by decide +kernel
theorem m_X4_init_8e969f : Cond.arrayClass .int ∈ wsX4_init := by decide +kernel
theorem i_X4_init_X4 : ∀ w ∈ wsX40, w ∈ wsX4_init := fun _ h => List.mem_cons_of_mem _ (List.mem_append_right _ h)
theorem m_X4_init_8d21c9 : Cond.fieldLink RX4 16 "PickedMatch$Street" "code" "[I" ∈ wsX4_init := by decide +kernel
theorem m_X4_init_046b55 : Cond.methodLink RX4 22 arraycopyName ∈ wsX4_init := by decide +kernel
theorem m_X4_init_66773d : Cond.native arraycopyName ∈ wsX4_init := by decide +kernel
theorem m_X4_init_30dbde : Cond.static arraycopyName ∈ wsX4_init := by decide +kernel
theorem m_X4_init_3f8a6f : Cond.initialized "java/lang/System" ∈ wsX4_init := by decide +kernel
theorem m_X4_init_5e67c4 : Cond.fieldLink RX4 28 "PickedMatch$Street" "need" "I" ∈ wsX4_init := by decide +kernel
theorem m_X4_init_628298 : Cond.fieldLink RX4 32 "PickedMatch$Street" "hold" "I" ∈ wsX4_init := by decide +kernel
def W4 (E : Ev) (h0 b q : Nat) (n : Nat) (f : Nat → Int32) (x p3 p4 : Int32) : va_W := [(h0, .inr (4, [.ref q, .int p3, .int p4])), (b, .inl (E.2.1, n, .inl f)), (q, .inl (E.2.1, x.toNatClampNeg, .inl (va_cpy f (fun _ => 0) 0 0 x.toNatClampNeg)))]
set_option maxHeartbeats 8000000 in
set_option maxRecDepth 100000 in
theorem k_X4_init (l : Launch) (E : Ev) (h0 b n : Nat) (f : Nat → Int32) (p2 p3 p4 x : Int32) (hxx : lenS p2 n = x) (hx0 : ¬ x < 0) (hxn : x.toNatClampNeg ≤ n) (hn : n ≤ 100) : ∀ sz : Nat, Met l yX4_init wsX4_init rm_X4_init (PcW E [.ref h0, .ref b, .int p2, .int p3, .int p4] [(h0, .inr (4, [.null, .int 0, .int 0])), (b, .inl (E.2.1, n, .inl f))] sz) (va_Qv (fun (_ : Unit) => True) (fun _ t => ∃ q : Nat, va_P E.1 vwCl (W4 E h0 b q n f x p3 p4) t.heap ∧ va_D (va_A [(h0, .inr (4, [.null, .int 0, .int 0])), (b, .inl (E.2.1, n, .inl f))] sz) (W4 E h0 b q n f x p3 p4)) (va_A [(h0, .inr (4, [.null, .int 0, .int 0])), (b, .inl (E.2.1, n, .inl f))] sz)) 1 100 (va_A [(h0, .inr (4, [.null, .int 0, .int 0])), (b, .inl (E.2.1, n, .inl f))] sz) := by
  intro sz
  refine Met.ofW (cc := cX4_init) (maxL := 6) (ret := none) (by decide) rfl ?_
  intro p e s m args below meth c s₁ B hml hv
  obtain ⟨rfl, hsz, hP, hK, hD, hG, hA, hAB⟩ := start hv
  have hx := B.exec
  have hb := B.bytes
  have hr := B.returns
  have hts := atoms_spec (ws := wsX4_init) B.pre
  have hown : s.vm.findClass RX4 = some m.cls := findClass_of_methodNamed B.named
  have hlocks := B.notSynchronized
  have hin : meth.name = "<init>" := (name_of_methodNamed B.named B.method).1
  subst hsz
  generalize va_A [(h0, .inr (4, [.null, .int 0, .int 0])), (b, .inl (E.2.1, n, .inl f))] s.heap.size = A0 at hD hA hAB ⊢
  have hS : va_S A0 s.heap s.heap [] := va_S.rf
  have hP : va_P E.1 vwCl [(h0, .inr (4, [.null, .int 0, .int 0])), (b, .inl (E.2.1, n, .inl f))] s.heap := hP
  have hl := lv_entry ([.ref h0, .ref b, .int p2, .int p3, .int p4]) (n := 6) (Nat.le_of_ble_eq_true rfl)
  rw [lg_entry_eq]
  generalize (lg_sl ([.ref h0, .ref b, .int p2, .int p3, .int p4]) ++ List.replicate (6 - (lg_sl ([.ref h0, .ref b, .int p2, .int p3, .int p4])).length) Slot.unset).toArray = ls at hl ⊢
  have hl : lv_has ls 6 [(0, .ref h0), (1, .ref b), (2, .int p2), (3, .int p3), (4, .int p4)] := hl
  refine lv_aload_n hx hb dX4_init_0 rfl (lv_at hl 0 rfl) ?_
  refine W.objInit hx hb hown (hts _ m_X4_init_9187e1) (hts _ m_X4_init_99ff6a) (hts _ m_X4_init_bd0ebf) rfl (by rw [hml]; exact hl.1) rfl dX4_init_1 (Nat.le_of_ble_eq_true rfl) (Nat.le_of_ble_eq_true rfl) ?_
  refine W.eq (g2 := F0 m 4 ls []) rfl ?_
  refine lv_iconst (v := 0) hx hb dX4_init_4 (by decide) ?_
  refine lv_iload_n hx hb dX4_init_5 rfl (lv_at hl 2 rfl) ?_
  refine lv_aload_n hx hb dX4_init_6 rfl (lv_at hl 1 rfl) ?_
  refine va_alen (v := nI n) hx hb hK hP 1 0 rfl rfl rfl dX4_init_7 ?_
  refine va_mmin hx hb (by rw [hml]; exact hl.1.symm) hown (hts _ m_X4_init_23c017) (hts _ m_X4_init_1a05fe) (hts _ m_X4_init_0001fc) (hts _ m_X4_init_5e99ca) (Nat.le_of_ble_eq_true rfl) (Nat.le_of_ble_eq_true rfl) (Nat.zero_le _) (Nat.zero_le _) dX4_init_8 ?_
  refine va_mmax hx hb (by rw [hml]; exact hl.1.symm) hown (hts _ m_X4_init_fece5c) (hts _ m_X4_init_7cc87a) (hts _ m_X4_init_0001fc) (hts _ m_X4_init_6b973c) (Nat.le_of_ble_eq_true rfl) (Nat.le_of_ble_eq_true rfl) (Nat.zero_le _) (Nat.zero_le _) dX4_init_11 ?_
  refine lv_topi (fun x5 e_x5 => ?_)
  have hx5 : x5 = x := e_x5.trans hxx
  subst hx5
  refine lv_istore (lv' := [(5, .int x5), (0, .ref h0), (1, .ref b), (2, .int p2), (3, .int p3), (4, .int p4)]) hx hb dX4_init_14 hl (Nat.le_of_ble_eq_true rfl) rfl (fun ls hl => ?_)
  refine lv_aload_n hx hb dX4_init_16 rfl (lv_at hl 1 rfl) ?_
  refine lv_iload hx hb dX4_init_17 (lv_at hl 0 rfl) ?_
  refine va_newa (atype := .int) (ty := .int) (a0 := (x5.toNatClampNeg, .inl (fun _ => 0))) (N' := x5.toNatClampNeg) hx hb (hts _ m_X4_init_8e969f) rfl hK hP hD hS hA (fun _ => rfl) hx0 rfl (by show x5.toNatClampNeg * 4 ≤ 536870912; omega) (Nat.le_of_ble_eq_true rfl) (by show 0 + x5.toNatClampNeg ≤ 100; omega) dX4_init_19 (fun q19 cA H hK9 hP hD hS => ?_)
  obtain rfl := cls_I hK9
  clear hK9
  refine W.widen (k := 1) (n := 100) (Nat.le_of_ble_eq_true rfl) (by omega) ?_
  refine va_putF (ci := 4) (v := .ref q19) (ty := (.array .int)) (C := RX4) (T := TX4) (N := 3) hx hb hts i_X4_init_X4 tyX4 tyX4_ok nmX4 hown hK hP hD hS 0 rfl rfl 0 (by decide) (hts _ m_X4_init_8d21c9) (fun _ h9 => h9) rfl hin rfl (by decide +kernel) rfl rfl (Nat.le_of_ble_eq_true rfl) dX4_init_21 (fun H locs hP hD hS => ?_)
  have hP : va_P E.1 vwCl [(h0, .inr (4, [.ref q19, .int 0, .int 0])), (b, .inl (E.2.1, n, .inl f)), (q19, .inl (E.2.1, x5.toNatClampNeg, .inl (fun _ => 0)))] H := hP
  have hD : va_D A0 [(h0, .inr (4, [.ref q19, .int 0, .int 0])), (b, .inl (E.2.1, n, .inl f)), (q19, .inl (E.2.1, x5.toNatClampNeg, .inl (fun _ => 0)))] := hD
  refine lv_aload_n hx hb dX4_init_24 rfl (lv_at hl 2 rfl) ?_
  refine lv_iconst (v := 0) hx hb dX4_init_25 (by decide) ?_
  refine lv_aload_n hx hb dX4_init_26 rfl (lv_at hl 1 rfl) ?_
  refine va_get (ci := 4) (C := RX4) (T := TX4) (N := 3) (v := .ref q19) hx hb hts i_X4_init_X4 hown hK hP 0 rfl rfl 0 (by decide) (hts _ m_X4_init_8d21c9) (fun _ h9 => h9) rfl dX4_init_27 ?_
  refine lv_iconst (v := 0) hx hb dX4_init_30 (by decide) ?_
  refine lv_iload hx hb dX4_init_31 (lv_at hl 0 rfl) ?_
  refine va_copyi (sp := 0) (dp := 0) (f := f) (g := fun _ => 0) hx hb (by rw [hml]; exact hl.1.symm) hown (hts _ m_X4_init_046b55) (hts _ m_X4_init_66773d) (hts _ m_X4_init_30dbde) (hts _ m_X4_init_3f8a6f) hK hP hD hS 1 2 0 0 rfl rfl rfl rfl rfl (by decide) (by decide) hx0 (by show 0 + x5.toNatClampNeg ≤ n; omega) (by show 0 + x5.toNatClampNeg ≤ x5.toNatClampNeg; omega) (fun _ _ => rfl) (Nat.le_of_ble_eq_true rfl) (Nat.le_of_ble_eq_true rfl) dX4_init_33 (fun H locs hP hD hS => ?_)
  have hP : va_P E.1 vwCl [(h0, .inr (4, [.ref q19, .int 0, .int 0])), (b, .inl (E.2.1, n, .inl f)), (q19, .inl (E.2.1, x5.toNatClampNeg, .inl (va_cpy f (fun _ => 0) 0 0 x5.toNatClampNeg)))] H := hP
  have hD : va_D A0 [(h0, .inr (4, [.ref q19, .int 0, .int 0])), (b, .inl (E.2.1, n, .inl f)), (q19, .inl (E.2.1, x5.toNatClampNeg, .inl (va_cpy f (fun _ => 0) 0 0 x5.toNatClampNeg)))] := hD
  refine lv_aload_n hx hb dX4_init_36 rfl (lv_at hl 1 rfl) ?_
  refine lv_iload_n hx hb dX4_init_37 rfl (lv_at hl 4 rfl) ?_
  refine va_putF (ci := 4) (v := .int p3) (ty := .int) (C := RX4) (T := TX4) (N := 3) hx hb hts i_X4_init_X4 tyX4 tyX4_ok nmX4 hown hK hP hD hS 0 rfl rfl 1 (by decide) (hts _ m_X4_init_5e67c4) (fun _ h9 => h9) rfl hin rfl (by decide +kernel) rfl rfl (Nat.le_of_ble_eq_true rfl) dX4_init_38 (fun H locs hP hD hS => ?_)
  have hP : va_P E.1 vwCl [(h0, .inr (4, [.ref q19, .int p3, .int 0])), (b, .inl (E.2.1, n, .inl f)), (q19, .inl (E.2.1, x5.toNatClampNeg, .inl (va_cpy f (fun _ => 0) 0 0 x5.toNatClampNeg)))] H := hP
  have hD : va_D A0 [(h0, .inr (4, [.ref q19, .int p3, .int 0])), (b, .inl (E.2.1, n, .inl f)), (q19, .inl (E.2.1, x5.toNatClampNeg, .inl (va_cpy f (fun _ => 0) 0 0 x5.toNatClampNeg)))] := hD
  refine lv_aload_n hx hb dX4_init_41 rfl (lv_at hl 1 rfl) ?_
  refine lv_iload hx hb dX4_init_42 (lv_at hl 5 rfl) ?_
  refine va_putF (ci := 4) (v := .int p4) (ty := .int) (C := RX4) (T := TX4) (N := 3) hx hb hts i_X4_init_X4 tyX4 tyX4_ok nmX4 hown hK hP hD hS 0 rfl rfl 2 (by decide) (hts _ m_X4_init_628298) (fun _ h9 => h9) rfl hin rfl (by decide +kernel) rfl rfl (Nat.le_of_ble_eq_true rfl) dX4_init_44 (fun H locs hP hD hS => ?_)
  have hP : va_P E.1 vwCl [(h0, .inr (4, [.ref q19, .int p3, .int p4])), (b, .inl (E.2.1, n, .inl f)), (q19, .inl (E.2.1, x5.toNatClampNeg, .inl (va_cpy f (fun _ => 0) 0 0 x5.toNatClampNeg)))] H := hP
  have hD : va_D A0 [(h0, .inr (4, [.ref q19, .int p3, .int p4])), (b, .inl (E.2.1, n, .inl f)), (q19, .inl (E.2.1, x5.toNatClampNeg, .inl (va_cpy f (fun _ => 0) 0 0 x5.toNatClampNeg)))] := hD
  refine W.vret hx hb hr (fun t ht _ => ⟨⟨(), rfl, trivial, q19, by rw [ht]; exact hP, hD⟩, hS.F ht⟩) hS.2.2 dX4_init_47
/-! ===== a new street joins the world ===== -/
theorem st_swap_P {D : va_G} {cls : List vw_C} {w suf : va_W} {x : Nat × va_E} {H : Heap} (h : va_P D cls ((w ++ suf) ++ [x]) H) : va_P D cls ((w ++ [x]) ++ suf) H := by
  refine vP_mem.mpr (fun q hq => vP_mem.mp h q ?_)
  simp only [List.mem_append] at hq ⊢
  rcases hq with (h | h) | h
  · exact Or.inl (Or.inl h)
  · exact Or.inr h
  · exact Or.inl (Or.inr h)
theorem st_swap_D {A : Nat → Prop} {w suf : va_W} {x : Nat × va_E} (h : va_D A ((w ++ suf) ++ [x])) : va_D A ((w ++ [x]) ++ suf) := by
  have h1 := vD_nd.mp h
  refine vD_nd.mpr ⟨?_, fun q hq => h1.2 q ?_⟩
  · have h2 := h1.1
    simp only [List.map_append] at h2 ⊢
    refine (List.Perm.nodup_iff ?_).mp h2
    rw [List.append_assoc, List.append_assoc]
    exact List.Perm.append_left _ List.perm_append_comm
  · simp only [List.mem_append] at hq ⊢
    rcases hq with (h | h) | h
    · exact Or.inl (Or.inl h)
    · exact Or.inr h
    · exact Or.inl (Or.inr h)
theorem sW_app (cI : ClassId) (L : List SR) (R : SR) : sW cI (L ++ [R]) = sW cI L ++ [(R.1, .inr (4, [.ref R.2.1, .int R.2.2.2.2.1, .int R.2.2.2.2.2])), (R.2.1, .inl (cI, R.2.2.1, .inl R.2.2.2.1))] := by
  induction L with
  | nil => rfl
  | cons S L ih => simp only [List.cons_append, sW, ih]
theorem st_join {E : Ev} {A0 : Nat → Prop} {w : va_W} {L : List SR} {i b n q qb : Nat} {f : Nat → Int32} {X : va_E} {x p3 p4 : Int32} {H H1 : Heap} (hi : w[i]? = some (b, .inl (E.2.1, n, .inl f))) (hP : va_P E.1 vwCl ((w ++ [(q, X)]) ++ sW E.2.1 L) H) (hD : va_D A0 ((w ++ [(q, X)]) ++ sW E.2.1 L))
    (hk : ∀ a : Nat, a < H.size → ¬ va_A [(q, X), (b, .inl (E.2.1, n, .inl f))] H.size a → H1[a]? = H[a]?) (hfr : ∀ a, va_A [(q, X), (b, .inl (E.2.1, n, .inl f))] H.size a → A0 a)
    (hP1 : va_P E.1 vwCl (W4 E q b qb n f x p3 p4) H1) (hD1 : va_D (va_A [(q, X), (b, .inl (E.2.1, n, .inl f))] H.size) (W4 E q b qb n f x p3 p4)) :
    va_P E.1 vwCl (w ++ sW E.2.1 (L ++ [(q, qb, x.toNatClampNeg, va_cpy f (fun _ => 0) 0 0 x.toNatClampNeg, p3, p4)])) H1 ∧ va_D A0 (w ++ sW E.2.1 (L ++ [(q, qb, x.toNatClampNeg, va_cpy f (fun _ => 0) 0 0 x.toNatClampNeg, p3, p4)])) := by
  have hD' := vD_nd.mp hD
  have hnd := hD'.1
  simp only [List.map_append, List.map_cons, List.map_nil] at hnd
  have hn1 := List.nodup_append.mp hnd
  have hn2 := List.nodup_append.mp hn1.1
  have hbw : (b, (.inl (E.2.1, n, .inl f) : va_E)) ∈ w := List.mem_of_getElem? hi
  have inA : ∀ a : Nat, va_A [(q, X), (b, (.inl (E.2.1, n, .inl f) : va_E))] H.size a → a = q ∨ a = b ∨ H.size ≤ a := by
    intro a h
    rcases h with ⟨k, e, h⟩ | h
    · have h2 := List.mem_of_getElem? h
      simp only [List.mem_cons, List.not_mem_nil, or_false, Prod.mk.injEq] at h2
      rcases h2 with h2 | h2
      · exact Or.inl h2.1
      · exact Or.inr (Or.inl h2.1)
    · exact Or.inr (Or.inr h)
  have hlt : ∀ z ∈ (w ++ [(q, X)]) ++ sW E.2.1 L, z.1 < H.size := fun z hz => (vP_mem.mp hP z hz).lt
  have hd1 := vD_nd.mp hD1
  have hqb : H.size ≤ qb := by
    have h1 := hd1.2 (qb, .inl (E.2.1, x.toNatClampNeg, .inl (va_cpy f (fun _ => 0) 0 0 x.toNatClampNeg))) (by simp [W4])
    have h2 := hd1.1
    simp only [W4, List.map_cons, List.map_nil, List.nodup_cons, List.mem_cons, List.not_mem_nil, or_false, not_or] at h2
    rcases inA qb h1 with h | h | h
    · exact absurd h.symm h2.1.2
    · exact absurd h.symm h2.2.1
    · exact h
  have stay : ∀ z ∈ (w ++ [(q, X)]) ++ sW E.2.1 L, z.1 ≠ q → z.1 ≠ b → va_at E.1 vwCl z H1 := by
    intro z hz h1 h2
    refine (vP_mem.mp hP z hz).kept (hk z.1 (hlt z hz) (fun h => ?_))
    rcases inA z.1 h with h | h | h
    · exact h1 h
    · exact h2 h
    · have := hlt z hz
      omega
  have qnw : ∀ z ∈ w, z.1 ≠ q := fun z hz h => hn2.2.2 z.1 (List.mem_map.mpr ⟨z, hz, rfl⟩) q (List.mem_cons_self) h
  have snq : ∀ z ∈ sW E.2.1 L, z.1 ≠ q := fun z hz h => hn1.2.2 q (List.mem_append.mpr (Or.inr List.mem_cons_self)) z.1 (List.mem_map.mpr ⟨z, hz, rfl⟩) h.symm
  have snb : ∀ z ∈ sW E.2.1 L, z.1 ≠ b := fun z hz h => hn1.2.2 b (List.mem_append.mpr (Or.inl (List.mem_map.mpr ⟨_, hbw, rfl⟩))) z.1 (List.mem_map.mpr ⟨z, hz, rfl⟩) h.symm
  rw [sW_app]
  constructor
  · refine vP_mem.mpr (fun z hz => ?_)
    simp only [List.mem_append, List.mem_cons, List.not_mem_nil, or_false] at hz
    rcases hz with h | h | h | h
    · by_cases hb : z.1 = b
      · have : z = (b, .inl (E.2.1, n, .inl f)) := by
          obtain ⟨k, hk2⟩ := List.getElem?_of_mem h
          have e1 : ((w ++ [(q, X)]) ++ sW E.2.1 L)[k]? = some z := by
            rw [List.append_assoc, List.getElem?_append_left (List.getElem?_eq_some_iff.mp hk2).1]; exact hk2
          have e2 : ((w ++ [(q, X)]) ++ sW E.2.1 L)[i]? = some (b, .inl (E.2.1, n, .inl f)) := by
            rw [List.append_assoc, List.getElem?_append_left (List.getElem?_eq_some_iff.mp hi).1]; exact hi
          have := hD.1 k i z _ e1 e2 hb
          subst this
          rw [hi] at hk2
          exact (Option.some.inj hk2).symm
        rw [this]
        exact vP_mem.mp hP1 _ (by simp [W4])
      · exact stay z (by simp [h]) (qnw z h) hb
    · exact stay z (by simp [h]) (snq z h) (snb z h)
    · rw [h]; exact vP_mem.mp hP1 _ (by simp [W4])
    · rw [h]; exact vP_mem.mp hP1 _ (by simp [W4])
  · refine vD_nd.mpr ⟨?_, fun z hz => ?_⟩
    · simp only [List.map_append, List.map_cons, List.map_nil]
      refine List.nodup_append.mpr ⟨hn2.1, List.nodup_append.mpr ⟨hn1.2.1, ?_, ?_⟩, ?_⟩
      · simp only [List.nodup_cons, List.mem_cons, List.not_mem_nil, or_false, not_false_eq_true, and_true, List.nodup_nil]
        intro h
        have : q < H.size := hlt (q, X) (by simp)
        omega
      · intro a ha c hc
        obtain ⟨z, hz, rfl⟩ := List.mem_map.mp ha
        simp only [List.mem_cons, List.not_mem_nil, or_false] at hc
        rcases hc with rfl | rfl
        · exact snq z hz
        · have : z.1 < H.size := hlt z (by simp [hz])
          omega
      · intro a ha c hc
        obtain ⟨z, hz, rfl⟩ := List.mem_map.mp ha
        simp only [List.mem_append, List.mem_cons, List.not_mem_nil, or_false] at hc
        rcases hc with hc | rfl | rfl
        · exact hn1.2.2 z.1 (List.mem_append.mpr (Or.inl (List.mem_map.mpr ⟨z, hz, rfl⟩))) c hc
        · exact qnw z hz
        · have : z.1 < H.size := hlt z (by simp [hz])
          omega
    · simp only [List.mem_append, List.mem_cons, List.not_mem_nil, or_false] at hz
      rcases hz with h | h | h | h
      · exact hD'.2 z (by simp [h])
      · exact hD'.2 z (by simp [h])
      · rw [h]; exact hD'.2 (q, X) (by simp)
      · rw [h]; exact hfr _ (Or.inr hqb)
abbrev rm_X7_street : Room := { frames := 41, cells := 2, slots := 103, locals := 1245 }
theorem m_X7_street_c104ba : Cond.fieldLink RX7 121 "PickedMatch" "streetCount" "I" ∈ wsX7_street := by decide +kernel
theorem i_X7_street_X7 : ∀ w ∈ wsX70, w ∈ wsX7_street := fun _ h => List.mem_cons_of_mem _ (List.mem_append_left _ (List.mem_append_left _ (List.mem_append_left _ (List.mem_append_right _ h))))
theorem m_X7_street_d00ad8 : Cond.fieldLink RX7 37 "PickedMatch" "reader" "LPickedMatch$StreetReader;" ∈ wsX7_street := by decide +kernel
theorem m_X7_street_ba2631 : Cond.initialized RX5 ∈ wsX7_street := by decide +kernel
theorem m_X7_street_fec46d : Cond.instanceMethod yX5_readStreet ∈ wsX7_street := by decide +kernel
theorem m_X7_street_ab6203 : Cond.selects RX5 yX5_readStreet yX5_readStreet ∈ wsX7_street := by decide +kernel
theorem i_X7_street_X5 : ∀ w ∈ wsX50, w ∈ wsX7_street := fun _ h => List.mem_cons_of_mem _ (List.mem_append_left _ (List.mem_append_left _ (List.mem_append_right _ h)))
theorem m_X7_street_265b14 : Cond.fieldLink RX7 12 "PickedMatch" "scene" "LPickedMatch$Scene;" ∈ wsX7_street := by decide +kernel
theorem i_X7_street_X4 : ∀ w ∈ wsX40, w ∈ wsX7_street := fun _ h => List.mem_cons_of_mem _ (List.mem_append_left _ (List.mem_append_right _ h))
theorem m_X7_street_1a5ec7 : Cond.classLink RX7 131 RX4 ∈ wsX7_street := by decide +kernel
theorem m_X7_street_b211b5 : Cond.instantiable RX4 3 ∈ wsX7_street := by decide +kernel
theorem m_X7_street_3b47d5 : Cond.initialized RX4 ∈ wsX7_street := by decide +kernel
theorem m_X7_street_2bfed2 : Cond.instanceMethod yX4_init ∈ wsX7_street := by decide +kernel
theorem i_X7_street_X2 : ∀ w ∈ wsX20, w ∈ wsX7_street := fun _ h => List.mem_cons_of_mem _ (List.mem_append_right _ h)
set_option maxHeartbeats 16000000 in
set_option maxRecDepth 100000 in
theorem k_X7_street (l : Launch) (E : Ev) (a0 : Nat → Nat) (a1 : Nat → Nat) (a2 : Nat → Nat) (a3 : Nat → Nat) (a4 : Nat → Nat) (a5 : Nat → Nat) (a6 : Nat → Nat) (a7 : Nat → Nat) (a8 : Nat → Nat) (a9 : Nat → Nat) (L : List SR) (N : Nat) (s0 : St) (s1 : St) (h1 : Option SR) (s2 : St) (h2 : Option SR) (s3 : St) (s4 : St) (h4 : Option SR) (s5 : St) (s6 : St) (s7 : St) (s8 : St) (s9 : St) (t9 : Nat → Nat → Int64) (q : Int32 × St × St × Option SD) (hf : f_X7_street N s0 s6 = some q) : ∀ sz : Nat, Met l yX7_street wsX7_street rm_X7_street (PcW E [.ref (a0 0)] ((wX7o E a0 a1 a2 a3 a4 a5 a6 a7 a8 a9 s0 ++ (wX2 E a1 s1 h1 ++ (wX2 E a2 s2 h2 ++ (wX1 E a3 s3 ++ (wX2 E a4 s4 h4 ++ (wX1 E a5 s5 ++ (wX5 E a6 s6 ++ (wX3 E a7 s7 ++ (wX0 E a8 s8 ++ (wX6 E a9 s9 t9)))))))))) ++ sW E.2.1 L) sz) (va_Qi (fun (r' : Int32) (_ : Unit) => r' = q.1) (fun _ t => ∃ qa qb : Nat, va_P E.1 vwCl (match q.2.2.2 with | none => (wX7o E a0 a1 a2 a3 a4 a5 a6 a7 a8 a9 q.2.1 ++ (wX2 E a1 s1 h1 ++ (wX2 E a2 s2 h2 ++ (wX1 E a3 s3 ++ (wX2 E a4 s4 h4 ++ (wX1 E a5 s5 ++ (wX5 E a6 q.2.2.1 ++ (wX3 E a7 s7 ++ (wX0 E a8 s8 ++ (wX6 E a9 s9 t9)))))))))) ++ sW E.2.1 L | some x => (wX7o E a0 a1 a2 a3 a4 a5 a6 a7 a8 a9 q.2.1 ++ (wX2 E a1 s1 (some (qa, qb, x)) ++ (wX2 E a2 s2 h2 ++ (wX1 E a3 s3 ++ (wX2 E a4 s4 h4 ++ (wX1 E a5 s5 ++ (wX5 E a6 q.2.2.1 ++ (wX3 E a7 s7 ++ (wX0 E a8 s8 ++ (wX6 E a9 s9 t9)))))))))) ++ sW E.2.1 (L ++ [(qa, qb, x)])) t.heap ∧ va_D (va_A ((wX7o E a0 a1 a2 a3 a4 a5 a6 a7 a8 a9 s0 ++ (wX2 E a1 s1 h1 ++ (wX2 E a2 s2 h2 ++ (wX1 E a3 s3 ++ (wX2 E a4 s4 h4 ++ (wX1 E a5 s5 ++ (wX5 E a6 s6 ++ (wX3 E a7 s7 ++ (wX0 E a8 s8 ++ (wX6 E a9 s9 t9)))))))))) ++ sW E.2.1 L) sz) (match q.2.2.2 with | none => (wX7o E a0 a1 a2 a3 a4 a5 a6 a7 a8 a9 q.2.1 ++ (wX2 E a1 s1 h1 ++ (wX2 E a2 s2 h2 ++ (wX1 E a3 s3 ++ (wX2 E a4 s4 h4 ++ (wX1 E a5 s5 ++ (wX5 E a6 q.2.2.1 ++ (wX3 E a7 s7 ++ (wX0 E a8 s8 ++ (wX6 E a9 s9 t9)))))))))) ++ sW E.2.1 L | some x => (wX7o E a0 a1 a2 a3 a4 a5 a6 a7 a8 a9 q.2.1 ++ (wX2 E a1 s1 (some (qa, qb, x)) ++ (wX2 E a2 s2 h2 ++ (wX1 E a3 s3 ++ (wX2 E a4 s4 h4 ++ (wX1 E a5 s5 ++ (wX5 E a6 q.2.2.1 ++ (wX3 E a7 s7 ++ (wX0 E a8 s8 ++ (wX6 E a9 s9 t9)))))))))) ++ sW E.2.1 (L ++ [(qa, qb, x)]))) (va_A ((wX7o E a0 a1 a2 a3 a4 a5 a6 a7 a8 a9 s0 ++ (wX2 E a1 s1 h1 ++ (wX2 E a2 s2 h2 ++ (wX1 E a3 s3 ++ (wX2 E a4 s4 h4 ++ (wX1 E a5 s5 ++ (wX5 E a6 s6 ++ (wX3 E a7 s7 ++ (wX0 E a8 s8 ++ (wX6 E a9 s9 t9)))))))))) ++ sW E.2.1 L) sz)) 2 103 (va_A ((wX7o E a0 a1 a2 a3 a4 a5 a6 a7 a8 a9 s0 ++ (wX2 E a1 s1 h1 ++ (wX2 E a2 s2 h2 ++ (wX1 E a3 s3 ++ (wX2 E a4 s4 h4 ++ (wX1 E a5 s5 ++ (wX5 E a6 s6 ++ (wX3 E a7 s7 ++ (wX0 E a8 s8 ++ (wX6 E a9 s9 t9)))))))))) ++ sW E.2.1 L) sz) := by
  unfold f_X7_street at hf
  intro sz
  refine Met.ofW (cc := cX7_street) (maxL := 2) (ret := (some .int)) (by decide) rfl ?_
  intro p e s m args below meth c s₁ B hml hpre
  obtain ⟨rfl, hsz, hP, hK, hD0, hG, hA, hAB⟩ := start hpre
  have hx := B.exec
  have hb := B.bytes
  have hr := B.returns
  have hts := atoms_spec (ws := wsX7_street) B.pre
  have hown : s.vm.findClass RX7 = some m.cls := findClass_of_methodNamed B.named
  have hlocks := B.notSynchronized
  subst hsz
  generalize va_A ((wX7o E a0 a1 a2 a3 a4 a5 a6 a7 a8 a9 s0 ++ (wX2 E a1 s1 h1 ++ (wX2 E a2 s2 h2 ++ (wX1 E a3 s3 ++ (wX2 E a4 s4 h4 ++ (wX1 E a5 s5 ++ (wX5 E a6 s6 ++ (wX3 E a7 s7 ++ (wX0 E a8 s8 ++ (wX6 E a9 s9 t9)))))))))) ++ sW E.2.1 L) s.heap.size = A0 at hD0 hA hAB ⊢
  have hDD : ∀ (s0 : St) (s1 : St) (h1 : Option SR) (s2 : St) (h2 : Option SR) (s3 : St) (s4 : St) (h4 : Option SR) (s5 : St) (s6 : St) (s7 : St) (s8 : St) (s9 : St) (t9 : Nat → Nat → Int64), va_D A0 ((wX7o E a0 a1 a2 a3 a4 a5 a6 a7 a8 a9 s0 ++ (wX2 E a1 s1 h1 ++ (wX2 E a2 s2 h2 ++ (wX1 E a3 s3 ++ (wX2 E a4 s4 h4 ++ (wX1 E a5 s5 ++ (wX5 E a6 s6 ++ (wX3 E a7 s7 ++ (wX0 E a8 s8 ++ (wX6 E a9 s9 t9)))))))))) ++ sW E.2.1 L) := fun s0 s1 h1 s2 h2 s3 s4 h4 s5 s6 s7 s8 s9 t9 => vD_addr hD0 rfl
  have hS : va_S A0 s.heap s.heap [] := va_S.rf
  have hl := lv_entry ([.ref (a0 0)]) (n := 2) (Nat.le_of_ble_eq_true rfl)
  rw [lg_entry_eq]
  generalize (lg_sl ([.ref (a0 0)]) ++ List.replicate (2 - (lg_sl ([.ref (a0 0)])).length) Slot.unset).toArray = ls at hl ⊢
  have hl : lv_has ls 2 [(0, .ref (a0 0))] := hl
  refine lv_aload_n hx hb dX7_street_0 rfl (lv_at hl 0 rfl) ?_
  refine va_get (ci := 7) (C := RX7) (T := TX7) (N := 11) (v := .int (s0 7 0)) hx hb hts i_X7_street_X7 hown hK hP 0 rfl rfl 7 (by decide) (hts _ m_X7_street_c104ba) (fun _ h9 => h9) rfl dX7_street_1 ?_
  refine lv_bipush (v := 6) hx hb dX7_street_4 (by decide) ?_
  refine lv_icmp_lt (tgt := 12) hx hb dX7_street_6 (by decide) (fun c_6 => ?_) (fun c_6 => ?_)
  · have hf := ite_t c_6 hf
    refine lv_aload_n hx hb dX7_street_12 rfl (lv_at hl 0 rfl) ?_
    refine va_get (ci := 7) (C := RX7) (T := TX7) (N := 11) (v := .ref (a6 0)) hx hb hts i_X7_street_X7 hown hK hP 0 rfl rfl 6 (by decide) (hts _ m_X7_street_d00ad8) (fun _ h9 => h9) rfl dX7_street_13 ?_
    obtain ⟨q16, hc_16, hf⟩ := cl_e hf
    have hm_16 : ∀ q ∈ wX5 E a6 s6, q ∈ (wX7o E a0 a1 a2 a3 a4 a5 a6 a7 a8 a9 s0 ++ (wX2 E a1 s1 h1 ++ (wX2 E a2 s2 h2 ++ (wX1 E a3 s3 ++ (wX2 E a4 s4 h4 ++ (wX1 E a5 s5 ++ (wX5 E a6 s6 ++ (wX3 E a7 s7 ++ (wX0 E a8 s8 ++ (wX6 E a9 s9 t9)))))))))) ++ sW E.2.1 L := (inl_mem (sub_mem (suf := []) [38, 39, 40] rfl))
    refine fin_i (E := E) (wc := wX5 E a6 s6) (wc' := wX5 E a6 q16.2) (va_runVN (As := []) (rest := []) ⟨hx, hb, hml, hown, hts⟩ (k_X5_readStreet l E a6 N s6 q16 hc_16 _) ⟨va_cnB 0 hts gX7_street_X5_readStreet_n124 rfl rfl rfl (hG.1 (.methodLinkNest "PickedMatch" 124 yX5_readStreet "PickedMatch") (by decide +kernel)) (hts _ m_X7_street_ba2631) (by decide +kernel) ⟨(Nat.le_of_ble_eq_true rfl), (Nat.le_of_ble_eq_true rfl)⟩, (hts _ m_X7_street_fec46d), (hts _ m_X7_street_ab6203)⟩ (pre_v (ci := 5) (q0 := 0) hK (sub_P hm_16 hP) (sub_Dn (ws := wX7o E a0 a1 a2 a3 a4 a5 a6 a7 a8 a9 s0 ++ (wX2 E a1 s1 h1 ++ (wX2 E a2 s2 h2 ++ (wX1 E a3 s3 ++ (wX2 E a4 s4 h4 ++ (wX1 E a5 s5 ++ (wX5 E a6 s6 ++ (wX3 E a7 s7 ++ (wX0 E a8 s8 ++ (wX6 E a9 s9 t9)))))))))) (wc := wX5 E a6 s6) (suf := sW E.2.1 L) [38, 39, 40] (by decide) rfl (hDD s0 s1 h1 s2 h2 s3 s4 h4 s5 s6 s7 s8 s9 t9)) hS hG hAB rfl rfl) rfl rfl hl.1 rfl (lv_room (Nat.le_of_ble_eq_true rfl)) dX7_street_16 ⟨Nat.zero_le _, Nat.zero_le _⟩) hS (w_free (hDD s0 s1 h1 s2 h2 s3 s4 h4 s5 s6 s7 s8 s9 t9) hS hA hm_16) (fun H locs hP1 hk hS => ?_)
    have hP := w_join (ws' := wX7o E a0 a1 a2 a3 a4 a5 a6 a7 a8 a9 s0 ++ (wX2 E a1 s1 h1 ++ (wX2 E a2 s2 h2 ++ (wX1 E a3 s3 ++ (wX2 E a4 s4 h4 ++ (wX1 E a5 s5 ++ (wX5 E a6 q16.2 ++ (wX3 E a7 s7 ++ (wX0 E a8 s8 ++ (wX6 E a9 s9 t9)))))))))) (wc := wX5 E a6 s6) (wc' := wX5 E a6 q16.2) hP (hDD s0 s1 h1 s2 h2 s3 s4 h4 s5 s6 s7 s8 s9 t9) [38, 39, 40] rfl [none, none, none, none, none, none, none, none, none, none, none, none, none, none, none, none, none, none, none, none, none, none, none, none, none, none, none, none, none, none, none, none, none, none, none, none, none, none, some 0, some 1, some 2, none, none, none, none, none, none, none, none, none] rfl rfl hk hP1
    refine lv_topi (fun x19 e_x19 => ?_)
    have hf := nm_q e_x19 hf
    refine lv_istore_n (lv' := [(1, .int x19), (0, .ref (a0 0))]) hx hb dX7_street_19 rfl hl (Nat.le_of_ble_eq_true rfl) rfl (fun ls hl => ?_)
    refine lv_aload_n hx hb dX7_street_20 rfl (lv_at hl 1 rfl) ?_
    refine va_get (ci := 7) (C := RX7) (T := TX7) (N := 11) (v := .ref (a6 0)) hx hb hts i_X7_street_X7 hown hK hP 0 rfl rfl 6 (by decide) (hts _ m_X7_street_d00ad8) (fun _ h9 => h9) rfl dX7_street_21 ?_
    refine lv_iconst (v := 0) hx hb dX7_street_24 (by decide) ?_
    refine va_putN (ci := 5) (v := .int 0) (ty := .int) (C := RX5) (T := TX5) (N := 8) hx hb hts i_X7_street_X5 tyX5 tyX5_ok nmX5 hown hK hP (hDD s0 s1 h1 s2 h2 s3 s4 h4 s5 q16.2 s7 s8 s9 t9) hS 38 rfl rfl 1 (by decide) (nwG hG (w := .fieldLinkNest "PickedMatch" 115 "PickedMatch$StreetReader" "length" "I" "PickedMatch") (by decide +kernel)) (fun _ h9 => h9) rfl (by decide +kernel) rfl rfl (Nat.le_of_ble_eq_true rfl) dX7_street_25 (fun H locs hP _ hS => ?_)
    obtain ⟨s6_25, hP, hf⟩ := nm_st' (P := fun z => va_P E.1 vwCl ((wX7o E a0 a1 a2 a3 a4 a5 a6 a7 a8 a9 s0 ++ (wX2 E a1 s1 h1 ++ (wX2 E a2 s2 h2 ++ (wX1 E a3 s3 ++ (wX2 E a4 s4 h4 ++ (wX1 E a5 s5 ++ (wX5 E a6 z ++ (wX3 E a7 s7 ++ (wX0 E a8 s8 ++ (wX6 E a9 s9 t9)))))))))) ++ sW E.2.1 L) H) hf hP
    refine lv_iload_n hx hb dX7_street_28 rfl (lv_at hl 0 rfl) ?_
    refine lv_if_ne (tgt := 43) hx hb dX7_street_29 (by decide) (fun c_29 => ?_) (fun c_29 => ?_)
    · have hf := ite_f c_29 hf
      refine lv_aload_n hx hb dX7_street_43 rfl (lv_at hl 1 rfl) ?_
      refine va_get (ci := 7) (C := RX7) (T := TX7) (N := 11) (v := .ref (a1 0)) hx hb hts i_X7_street_X7 hown hK hP 0 rfl rfl 0 (by decide) (hts _ m_X7_street_265b14) (fun _ h9 => h9) rfl dX7_street_44 ?_
      refine va_new (ci := 4) (fs := [.null, .int 0, .int 0]) (C := RX4) (T := TX4) (N := 3) hx hb hts i_X7_street_X4 tyX4 tyX4_ok hown (hts _ m_X7_street_1a5ec7) (hts _ m_X7_street_b211b5) (hts _ m_X7_street_3b47d5) hK hP (hDD s0 s1 h1 s2 h2 s3 s4 h4 s5 s6_25 s7 s8 s9 t9) hS hA rfl (fun j hj => by rcases (show j = 0 ∨ j = 1 ∨ j = 2 by omega) with rfl | rfl | rfl <;> rfl) (Nat.le_of_ble_eq_true rfl) (Nat.le_of_ble_eq_true rfl) dX7_street_47 (fun q47 H hP hD hS => ?_)
      have hD47 := hD
      refine lv_dup hx hb dX7_street_50 rfl ?_
      refine lv_aload_n hx hb dX7_street_51 rfl (lv_at hl 1 rfl) ?_
      refine va_get (ci := 7) (C := RX7) (T := TX7) (N := 11) (v := .ref (a6 0)) hx hb hts i_X7_street_X7 hown hK hP 0 rfl rfl 6 (by decide) (hts _ m_X7_street_d00ad8) (fun _ h9 => h9) rfl dX7_street_52 ?_
      refine va_getN (ci := 5) (C := RX5) (T := TX5) (N := 8) (v := .ref (a6 2)) hx hb hts i_X7_street_X5 hown hK hP 38 rfl rfl 2 (by decide) (nwG hG (w := .fieldLinkNest "PickedMatch" 133 "PickedMatch$StreetReader" "code" "[I" "PickedMatch") (by decide +kernel)) (fun _ h9 => h9) rfl dX7_street_55 ?_
      refine lv_aload_n hx hb dX7_street_58 rfl (lv_at hl 1 rfl) ?_
      refine va_get (ci := 7) (C := RX7) (T := TX7) (N := 11) (v := .ref (a6 0)) hx hb hts i_X7_street_X7 hown hK hP 0 rfl rfl 6 (by decide) (hts _ m_X7_street_d00ad8) (fun _ h9 => h9) rfl dX7_street_59 ?_
      refine va_getN (ci := 5) (C := RX5) (T := TX5) (N := 8) (v := .int (s6_25 3 0)) hx hb hts i_X7_street_X5 hown hK hP 38 rfl rfl 3 (by decide) (nwG hG (w := .fieldLinkNest "PickedMatch" 136 "PickedMatch$StreetReader" "size" "I" "PickedMatch") (by decide +kernel)) (fun _ h9 => h9) rfl dX7_street_62 ?_
      refine lv_aload_n hx hb dX7_street_65 rfl (lv_at hl 1 rfl) ?_
      refine va_get (ci := 7) (C := RX7) (T := TX7) (N := 11) (v := .ref (a6 0)) hx hb hts i_X7_street_X7 hown hK hP 0 rfl rfl 6 (by decide) (hts _ m_X7_street_d00ad8) (fun _ h9 => h9) rfl dX7_street_66 ?_
      refine va_getN (ci := 5) (C := RX5) (T := TX5) (N := 8) (v := .int (s6_25 4 0)) hx hb hts i_X7_street_X5 hown hK hP 38 rfl rfl 4 (by decide) (nwG hG (w := .fieldLinkNest "PickedMatch" 139 "PickedMatch$StreetReader" "need" "I" "PickedMatch") (by decide +kernel)) (fun _ h9 => h9) rfl dX7_street_69 ?_
      refine lv_aload_n hx hb dX7_street_72 rfl (lv_at hl 1 rfl) ?_
      refine va_get (ci := 7) (C := RX7) (T := TX7) (N := 11) (v := .ref (a6 0)) hx hb hts i_X7_street_X7 hown hK hP 0 rfl rfl 6 (by decide) (hts _ m_X7_street_d00ad8) (fun _ h9 => h9) rfl dX7_street_73 ?_
      refine va_getN (ci := 5) (C := RX5) (T := TX5) (N := 8) (v := .int (s6_25 5 0)) hx hb hts i_X7_street_X5 hown hK hP 38 rfl rfl 5 (by decide) (nwG hG (w := .fieldLinkNest "PickedMatch" 142 "PickedMatch$StreetReader" "hold" "I" "PickedMatch") (by decide +kernel)) (fun _ h9 => h9) rfl dX7_street_76 ?_
      obtain ⟨x79, e_x79⟩ : ∃ y : Int32, y = lenS (s6_25 3 0) 100 := ⟨_, rfl⟩
      have hf := nm_q e_x79 hf
      obtain ⟨hx79, hf⟩ := cp_e hf
      have hP : va_P E.1 vwCl (((wX7o E a0 a1 a2 a3 a4 a5 a6 a7 a8 a9 s0 ++ (wX2 E a1 s1 h1 ++ (wX2 E a2 s2 h2 ++ (wX1 E a3 s3 ++ (wX2 E a4 s4 h4 ++ (wX1 E a5 s5 ++ (wX5 E a6 s6_25 ++ (wX3 E a7 s7 ++ (wX0 E a8 s8 ++ (wX6 E a9 s9 t9)))))))))) ++ sW E.2.1 L) ++ [(q47, .inr (4, [.null, .int 0, .int 0]))]) H := hP
      have hD : va_D A0 (((wX7o E a0 a1 a2 a3 a4 a5 a6 a7 a8 a9 s0 ++ (wX2 E a1 s1 h1 ++ (wX2 E a2 s2 h2 ++ (wX1 E a3 s3 ++ (wX2 E a4 s4 h4 ++ (wX1 E a5 s5 ++ (wX5 E a6 s6_25 ++ (wX3 E a7 s7 ++ (wX0 E a8 s8 ++ (wX6 E a9 s9 t9)))))))))) ++ sW E.2.1 L) ++ [(q47, .inr (4, [.null, .int 0, .int 0]))]) := hD
      have hP := st_swap_P (w := wX7o E a0 a1 a2 a3 a4 a5 a6 a7 a8 a9 s0 ++ (wX2 E a1 s1 h1 ++ (wX2 E a2 s2 h2 ++ (wX1 E a3 s3 ++ (wX2 E a4 s4 h4 ++ (wX1 E a5 s5 ++ (wX5 E a6 s6_25 ++ (wX3 E a7 s7 ++ (wX0 E a8 s8 ++ (wX6 E a9 s9 t9)))))))))) (suf := sW E.2.1 L) hP
      have hD := st_swap_D (w := wX7o E a0 a1 a2 a3 a4 a5 a6 a7 a8 a9 s0 ++ (wX2 E a1 s1 h1 ++ (wX2 E a2 s2 h2 ++ (wX1 E a3 s3 ++ (wX2 E a4 s4 h4 ++ (wX1 E a5 s5 ++ (wX5 E a6 s6_25 ++ (wX3 E a7 s7 ++ (wX0 E a8 s8 ++ (wX6 E a9 s9 t9)))))))))) (suf := sW E.2.1 L) hD
      have hm : ∀ q ∈ ([(q47, .inr (4, [.null, .int 0, .int 0])), (a6 2, .inl (E.2.1, 100, .inl (s6_25 2)))] : va_W), q ∈ ((wX7o E a0 a1 a2 a3 a4 a5 a6 a7 a8 a9 s0 ++ (wX2 E a1 s1 h1 ++ (wX2 E a2 s2 h2 ++ (wX1 E a3 s3 ++ (wX2 E a4 s4 h4 ++ (wX1 E a5 s5 ++ (wX5 E a6 s6_25 ++ (wX3 E a7 s7 ++ (wX0 E a8 s8 ++ (wX6 E a9 s9 t9)))))))))) ++ [(q47, .inr (4, [.null, .int 0, .int 0]))]) ++ sW E.2.1 L := inl_mem (sub_mem (suf := []) [50, 40] rfl)
      have hDc := sub_Dn (ws := (wX7o E a0 a1 a2 a3 a4 a5 a6 a7 a8 a9 s0 ++ (wX2 E a1 s1 h1 ++ (wX2 E a2 s2 h2 ++ (wX1 E a3 s3 ++ (wX2 E a4 s4 h4 ++ (wX1 E a5 s5 ++ (wX5 E a6 s6_25 ++ (wX3 E a7 s7 ++ (wX0 E a8 s8 ++ (wX6 E a9 s9 t9)))))))))) ++ [(q47, .inr (4, [.null, .int 0, .int 0]))]) (wc := [(q47, .inr (4, [.null, .int 0, .int 0])), (a6 2, .inl (E.2.1, 100, .inl (s6_25 2)))]) (suf := sW E.2.1 L) [50, 40] (by decide) rfl hD
      have hfr := w_free hD hS hA hm
      refine va_callv (va_runIN (As := [.ref (a6 2), .int (s6_25 3 0), .int (s6_25 4 0), .int (s6_25 5 0)]) (rest := [.ref q47, .ref (a1 0)]) ⟨hx, hb, hml, hown, hts⟩ (k_X4_init l E q47 (a6 2) 100 (s6_25 2) (s6_25 3 0) (s6_25 4 0) (s6_25 5 0) x79 e_x79.symm hx79.1 hx79.2 (Nat.le_refl _) _) ⟨va_cnB 4 hts gX7_street_X4_init_n145 rfl rfl rfl (hG.1 (.methodLinkNest "PickedMatch" 145 yX4_init "PickedMatch") (by decide +kernel)) (hts _ m_X7_street_3b47d5) (by decide +kernel) ⟨Nat.le_of_ble_eq_true rfl, Nat.le_of_ble_eq_true rfl⟩, rfl, hts _ m_X7_street_2bfed2⟩ (pre_s hK (sub_P hm hP) hDc hS hG hAB) rfl rfl hl.1 rfl (lv_room (Nat.le_of_ble_eq_true rfl)) dX7_street_79 ⟨Nat.le_of_ble_eq_true rfl, Nat.le_of_ble_eq_true rfl⟩) hS (fun q _ h => w_free hD hS hA hm q h) (w_free hD hS hA hm) (fun u t H1 locs ht hvm hw hB hz1 hk1 hS => ?_)
      obtain ⟨qb, hP1, hD1⟩ := hB
      rw [ht] at hP1
      obtain ⟨hP, hD⟩ := st_join (i := 40) rfl hP hD hk1 hfr hP1 hD1
      generalize H1 = H at hP hS ⊢
      have hP : va_P E.1 vwCl ((wX7o E a0 a1 a2 a3 a4 a5 a6 a7 a8 a9 s0 ++ (wX2 E a1 s1 h1 ++ (wX2 E a2 s2 h2 ++ (wX1 E a3 s3 ++ (wX2 E a4 s4 h4 ++ (wX1 E a5 s5 ++ (wX5 E a6 s6_25 ++ (wX3 E a7 s7 ++ (wX0 E a8 s8 ++ (wX6 E a9 s9 t9)))))))))) ++ sW E.2.1 (L ++ [(q47, qb, x79.toNatClampNeg, va_cpy (s6_25 2) (fun _ => 0) 0 0 x79.toNatClampNeg, s6_25 4 0, s6_25 5 0)])) H := hP
      have hD : va_D A0 ((wX7o E a0 a1 a2 a3 a4 a5 a6 a7 a8 a9 s0 ++ (wX2 E a1 s1 h1 ++ (wX2 E a2 s2 h2 ++ (wX1 E a3 s3 ++ (wX2 E a4 s4 h4 ++ (wX1 E a5 s5 ++ (wX5 E a6 s6_25 ++ (wX3 E a7 s7 ++ (wX0 E a8 s8 ++ (wX6 E a9 s9 t9)))))))))) ++ sW E.2.1 (L ++ [(q47, qb, x79.toNatClampNeg, va_cpy (s6_25 2) (fun _ => 0) 0 0 x79.toNatClampNeg, s6_25 4 0, s6_25 5 0)])) := hD
      refine va_putN (ci := 2) (v := .ref q47) (ty := .object "PickedMatch$Street") (C := RX2) (T := TX2) (N := 11) hx hb hts i_X7_street_X2 tyX2 tyX2_ok nmX2 hown hK hP hD hS 1 rfl rfl 9 (by decide) (nwG hG (w := .fieldLinkNest "PickedMatch" 148 "PickedMatch$Scene" "held" "LPickedMatch$Street;" "PickedMatch") (by decide +kernel)) (fun _ h9 => h9) rfl (by decide +kernel) rfl rfl (Nat.le_of_ble_eq_true rfl) dX7_street_82 (fun H locs hP hD hS => ?_)
      have hP : va_P E.1 vwCl ((wX7o E a0 a1 a2 a3 a4 a5 a6 a7 a8 a9 s0 ++ (wX2 E a1 s1 (some (q47, qb, x79.toNatClampNeg, va_cpy (s6_25 2) (fun _ => 0) 0 0 x79.toNatClampNeg, s6_25 4 0, s6_25 5 0)) ++ (wX2 E a2 s2 h2 ++ (wX1 E a3 s3 ++ (wX2 E a4 s4 h4 ++ (wX1 E a5 s5 ++ (wX5 E a6 s6_25 ++ (wX3 E a7 s7 ++ (wX0 E a8 s8 ++ (wX6 E a9 s9 t9)))))))))) ++ sW E.2.1 (L ++ [(q47, qb, x79.toNatClampNeg, va_cpy (s6_25 2) (fun _ => 0) 0 0 x79.toNatClampNeg, s6_25 4 0, s6_25 5 0)])) H := hP
      have hD : va_D A0 ((wX7o E a0 a1 a2 a3 a4 a5 a6 a7 a8 a9 s0 ++ (wX2 E a1 s1 (some (q47, qb, x79.toNatClampNeg, va_cpy (s6_25 2) (fun _ => 0) 0 0 x79.toNatClampNeg, s6_25 4 0, s6_25 5 0)) ++ (wX2 E a2 s2 h2 ++ (wX1 E a3 s3 ++ (wX2 E a4 s4 h4 ++ (wX1 E a5 s5 ++ (wX5 E a6 s6_25 ++ (wX3 E a7 s7 ++ (wX0 E a8 s8 ++ (wX6 E a9 s9 t9)))))))))) ++ sW E.2.1 (L ++ [(q47, qb, x79.toNatClampNeg, va_cpy (s6_25 2) (fun _ => 0) 0 0 x79.toNatClampNeg, s6_25 4 0, s6_25 5 0)])) := hD
      refine lv_aload_n hx hb dX7_street_85 rfl (lv_at hl 1 rfl) ?_
      refine lv_dup hx hb dX7_street_86 rfl ?_
      refine va_get (ci := 7) (C := RX7) (T := TX7) (N := 11) (v := .int (s0 7 0)) hx hb hts i_X7_street_X7 hown hK hP 0 rfl rfl 7 (by decide) (hts _ m_X7_street_c104ba) (fun _ h9 => h9) rfl dX7_street_87 ?_
      refine lv_iconst (v := 1) hx hb dX7_street_90 (by decide) ?_
      refine lv_iadd hx hb dX7_street_91 ?_
      refine va_put (ci := 7) (v := .int ((s0 7 0) + 1)) (ty := .int) (C := RX7) (T := TX7) (N := 11) hx hb hts i_X7_street_X7 tyX7 tyX7_ok nmX7 hown hK hP hD hS 0 rfl rfl 7 (by decide) (hts _ m_X7_street_c104ba) (fun _ h9 => h9) rfl (by decide +kernel) rfl rfl (Nat.le_of_ble_eq_true rfl) dX7_street_92 (fun H locs hP hD hS => ?_)
      obtain ⟨s0_92, ⟨hP, hD⟩, hf⟩ := nm_st' (P := fun z => va_P E.1 vwCl ((wX7o E a0 a1 a2 a3 a4 a5 a6 a7 a8 a9 z ++ (wX2 E a1 s1 (some (q47, qb, x79.toNatClampNeg, va_cpy (s6_25 2) (fun _ => 0) 0 0 x79.toNatClampNeg, s6_25 4 0, s6_25 5 0)) ++ (wX2 E a2 s2 h2 ++ (wX1 E a3 s3 ++ (wX2 E a4 s4 h4 ++ (wX1 E a5 s5 ++ (wX5 E a6 s6_25 ++ (wX3 E a7 s7 ++ (wX0 E a8 s8 ++ (wX6 E a9 s9 t9)))))))))) ++ sW E.2.1 (L ++ [(q47, qb, x79.toNatClampNeg, va_cpy (s6_25 2) (fun _ => 0) 0 0 x79.toNatClampNeg, s6_25 4 0, s6_25 5 0)])) H ∧ va_D A0 ((wX7o E a0 a1 a2 a3 a4 a5 a6 a7 a8 a9 z ++ (wX2 E a1 s1 (some (q47, qb, x79.toNatClampNeg, va_cpy (s6_25 2) (fun _ => 0) 0 0 x79.toNatClampNeg, s6_25 4 0, s6_25 5 0)) ++ (wX2 E a2 s2 h2 ++ (wX1 E a3 s3 ++ (wX2 E a4 s4 h4 ++ (wX1 E a5 s5 ++ (wX5 E a6 s6_25 ++ (wX3 E a7 s7 ++ (wX0 E a8 s8 ++ (wX6 E a9 s9 t9)))))))))) ++ sW E.2.1 (L ++ [(q47, qb, x79.toNatClampNeg, va_cpy (s6_25 2) (fun _ => 0) 0 0 x79.toNatClampNeg, s6_25 4 0, s6_25 5 0)]))) hf ⟨hP, hD⟩
      refine lv_aload_n hx hb dX7_street_95 rfl (lv_at hl 1 rfl) ?_
      refine va_get (ci := 7) (C := RX7) (T := TX7) (N := 11) (v := .int (s0_92 7 0)) hx hb hts i_X7_street_X7 hown hK hP 0 rfl rfl 7 (by decide) (hts _ m_X7_street_c104ba) (fun _ h9 => h9) rfl dX7_street_96 ?_
      refine lv_iconst (v := 1) hx hb dX7_street_99 (by decide) ?_
      refine lv_isub hx hb dX7_street_100 ?_
      have e9 := Option.some.inj hf
      refine W.widen (k := 2) (n := 103) (Nat.le_of_ble_eq_true rfl) (Nat.le_of_ble_eq_true rfl) ?_
      exact W.iret (v := (s0_92 7 0) - 1) hx hb hr (fun t ht _ => ⟨⟨(s0_92 7 0) - 1, (), rfl, (fst_e e9), q47, qb, by rw [← e9, ht]; exact ⟨hP, hD⟩⟩, hS.F ht⟩) hS.2.2 dX7_street_101
    · have hf := ite_t c_29 hf
      refine lv_bipush (v := (-10)) hx hb dX7_street_32 (by decide) ?_
      refine lv_aload_n hx hb dX7_street_34 rfl (lv_at hl 1 rfl) ?_
      refine va_get (ci := 7) (C := RX7) (T := TX7) (N := 11) (v := .ref (a6 0)) hx hb hts i_X7_street_X7 hown hK hP 0 rfl rfl 6 (by decide) (hts _ m_X7_street_d00ad8) (fun _ h9 => h9) rfl dX7_street_35 ?_
      refine va_getN (ci := 5) (C := RX5) (T := TX5) (N := 8) (v := .int (s6_25 6 0)) hx hb hts i_X7_street_X5 hown hK hP 38 rfl rfl 6 (by decide) (nwG hG (w := .fieldLinkNest "PickedMatch" 128 "PickedMatch$StreetReader" "place" "I" "PickedMatch") (by decide +kernel)) (fun _ h9 => h9) rfl dX7_street_38 ?_
      refine lv_isub hx hb dX7_street_41 ?_
      have e9 := Option.some.inj hf
      refine W.widen (k := 2) (n := 103) (Nat.le_of_ble_eq_true rfl) (Nat.le_of_ble_eq_true rfl) ?_
      exact W.iret (v := (-10) - (s6_25 6 0)) hx hb hr (fun t ht _ => ⟨⟨(-10) - (s6_25 6 0), (), rfl, (fst_e e9), 0, 0, by rw [← e9, ht]; exact ⟨hP, (hDD s0 s1 h1 s2 h2 s3 s4 h4 s5 s6_25 s7 s8 s9 t9)⟩⟩, hS.F ht⟩) hS.2.2 dX7_street_42
  · have hf := ite_f c_6 hf
    refine lv_bipush (v := (-4)) hx hb dX7_street_9 (by decide) ?_
    have e9 := Option.some.inj hf
    refine W.widen (k := 2) (n := 103) (Nat.le_of_ble_eq_true rfl) (Nat.le_of_ble_eq_true rfl) ?_
    exact W.iret (v := (-4)) hx hb hr (fun t ht _ => ⟨⟨(-4), (), rfl, (fst_e e9), 0, 0, by rw [← e9, ht]; exact ⟨hP, (hDD s0 s1 h1 s2 h2 s3 s4 h4 s5 s6 s7 s8 s9 t9)⟩⟩, hS.F ht⟩) hS.2.2 dX7_street_11
