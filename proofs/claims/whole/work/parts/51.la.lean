/-! ===== the law: its world, its context ===== -/
/-- the class's world, object by object -/
def w7 (E : Ev) (b : Nat → Nat → Nat) (L : List SR) (s0 s1 : St) (h1 : Option SR) (s2 : St) (h2 : Option SR) (s3 s4 : St) (h4 : Option SR) (s5 s6 s7 s8 s9 : St) (t9 : Nat → Nat → Int64) : va_W := (wX7o E (b 0) (b 1) (b 2) (b 3) (b 4) (b 5) (b 6) (b 7) (b 8) (b 9) s0 ++ (wX2 E (b 1) s1 h1 ++ (wX2 E (b 2) s2 h2 ++ (wX1 E (b 3) s3 ++ (wX2 E (b 4) s4 h4 ++ (wX1 E (b 5) s5 ++ (wX5 E (b 6) s6 ++ (wX3 E (b 7) s7 ++ (wX0 E (b 8) s8 ++ (wX6 E (b 9) s9 t9)))))))))) ++ sW E.2.1 L
theorem ap_P {D : va_G} {cls : List vw_C} {A B : va_W} {H : Heap} : va_P D cls (A ++ B) H ↔ va_P D cls A H ∧ va_P D cls B H := by
  rw [vP_mem, vP_mem, vP_mem]
  exact ⟨fun h => ⟨fun q hq => h q (List.mem_append.mpr (Or.inl hq)), fun q hq => h q (List.mem_append.mpr (Or.inr hq))⟩, fun h q hq => (List.mem_append.mp hq).elim (h.1 q) (h.2 q)⟩
theorem ap_ne {A0 : Nat → Prop} {A B : va_W} (h : va_D A0 (A ++ B)) : ∀ x ∈ A, ∀ y ∈ B, x.1 ≠ y.1 := by
  have h1 := (vD_nd.mp h).1
  rw [List.map_append] at h1
  have h2 := (List.nodup_append.mp h1).2.2
  exact fun x hx y hy => h2 x.1 (List.mem_map.mpr ⟨x, hx, rfl⟩) y.1 (List.mem_map.mpr ⟨y, hy, rfl⟩)
theorem ap_D1 {A0 : Nat → Prop} {A B : va_W} (h : va_D A0 (A ++ B)) : va_D A0 A := by
  have h1 := vD_nd.mp h
  have h2 := h1.1
  rw [List.map_append] at h2
  exact vD_nd.mpr ⟨(List.nodup_append.mp h2).1, fun q hq => h1.2 q (List.mem_append.mpr (Or.inl hq))⟩
theorem ap_D2 {A0 : Nat → Prop} {A B : va_W} (h : va_D A0 (A ++ B)) : va_D A0 B := by
  have h1 := vD_nd.mp h
  have h2 := h1.1
  rw [List.map_append] at h2
  exact vD_nd.mpr ⟨(List.nodup_append.mp h2).2.1, fun q hq => h1.2 q (List.mem_append.mpr (Or.inr hq))⟩
theorem jn_keep {D : va_G} {cls : List vw_C} {A B : va_W} {H H1 : Heap} (hPA : va_P D cls A H) (hne : ∀ x ∈ A, ∀ y ∈ B, x.1 ≠ y.1) (hk : ∀ q : Nat, q < H.size → ¬ va_A B H.size q → H1[q]? = H[q]?) : va_P D cls A H1 := by
  refine vP_mem.mpr (fun q hq => ?_)
  have h0 := vP_mem.mp hPA q hq
  refine h0.kept (hk q.1 h0.lt (fun z => ?_))
  rcases z with ⟨k, e, h⟩ | h
  · exact hne q hq _ (List.mem_of_getElem? h) rfl
  · have := h0.lt
    omega
theorem jn_B {D : va_G} {cls : List vw_C} {A0 : Nat → Prop} {A B B' : va_W} {H H1 : Heap} (hP : va_P D cls (A ++ B) H) (hD : va_D A0 (A ++ B)) (hk : ∀ q : Nat, q < H.size → ¬ va_A B H.size q → H1[q]? = H[q]?) (hP1 : va_P D cls B' H1) : va_P D cls (A ++ B') H1 :=
  ap_P.mpr ⟨jn_keep (ap_P.mp hP).1 (ap_ne hD) hk, hP1⟩
theorem jn_A {D : va_G} {cls : List vw_C} {A0 : Nat → Prop} {A A' B : va_W} {H H1 : Heap} (hP : va_P D cls (A ++ B) H) (hD : va_D A0 (A ++ B)) (hk : ∀ q : Nat, q < H.size → ¬ va_A A H.size q → H1[q]? = H[q]?) (hP1 : va_P D cls A' H1) : va_P D cls (A' ++ B) H1 :=
  ap_P.mpr ⟨hP1, jn_keep (ap_P.mp hP).2 (fun x hx y hy z => ap_ne hD y hy x hx z.symm) hk⟩
theorem jn_D {D : va_G} {cls : List vw_C} {A0 : Nat → Prop} {A B B' : va_W} {H : Heap} (hP : va_P D cls (A ++ B) H) (hD : va_D A0 (A ++ B)) (hF : ∀ q, va_A B H.size q → A0 q) (hD1 : va_D (va_A B H.size) B') : va_D A0 (A ++ B') := by
  have h1 := vD_nd.mp (ap_D1 hD)
  have h2 := vD_nd.mp hD1
  refine vD_nd.mpr ⟨?_, fun q hq => ?_⟩
  · rw [List.map_append]
    refine List.nodup_append.mpr ⟨h1.1, h2.1, fun a ha z hz => ?_⟩
    obtain ⟨x, hx, rfl⟩ := List.mem_map.mp ha
    obtain ⟨y, hy, rfl⟩ := List.mem_map.mp hz
    rcases h2.2 y hy with ⟨k, e, h⟩ | h
    · exact ap_ne hD x hx (y.1, e) (List.mem_of_getElem? h)
    · have := (vP_mem.mp (ap_P.mp hP).1 x hx).lt
      exact fun q => by rw [q] at this; omega
  · rcases List.mem_append.mp hq with h | h
    · exact h1.2 q h
    · exact hF _ (h2.2 q h)
theorem wD {A0 : Nat → Prop} {E : Ev} {b : Nat → Nat → Nat} {ax : Nat → Nat} {L : List SR} {s0 s1 : St} {h1 : Option SR} {s2 : St} {h2 : Option SR} {s3 s4 : St} {h4 : Option SR} {s5 s6 s7 s8 s9 : St} {t9 : Nat → Nat → Int64} {μ : St} {τ : Nat → Nat → Int64} (hD : va_D A0 (wX8 E ax μ τ ++ w7 E b L s0 s1 h1 s2 h2 s3 s4 h4 s5 s6 s7 s8 s9 t9)) (s0' s1' : St) (h1' : Option SR) (s2' : St) (h2' : Option SR) (s3' s4' : St) (h4' : Option SR) (s5' s6' s7' s8' s9' : St) (t9' : Nat → Nat → Int64) (μ' : St) (τ' : Nat → Nat → Int64) : va_D A0 (wX8 E ax μ' τ' ++ w7 E b L s0' s1' h1' s2' h2' s3' s4' h4' s5' s6' s7' s8' s9' t9') := vD_addr hD rfl
/-- where the law may write -/
def LA (s : State) (q : Nat) : Prop := s.heap.size ≤ q
/-- what the law has at hand all the way -/
def LCx (p : Program) (s : State) (m : MethodId) (meth : Method) (c : Code) (E : Ev) (bs Ls : Nat) (xs : Nat → Int32) : Prop := p.tables.exec = Jvm.exec ∧ c.code = cL_law ∧ c.maxLocals = 4 ∧ s.vm.findClass RL = some m.cls ∧ (∀ w ∈ lw_tbl, w.before #[Value.ref bs] s = true) ∧ va_X bs Ls xs s s.heap ∧ bs < s.heap.size ∧ va_K E.1 vwCl (tyL E) s ∧ GG E.2.2.2.2 s s.heap ∧ E.2.2.2.2.1 = s.heap.size
/-- the law goes on behind a call -/
def LK (p : Program) (l : Launch) (e : Env) (s : State) (m : MethodId) (below : List Frame) (meth : Method) (c : Code) (E : Ev) (b : Nat → Nat → Nat) (ax : Nat → Nat) (bs cells slots : Nat) (Q : State → Prop) (ls : Array Slot) : Prop := ∀ (L : List SR) (s0 s1 : St) (h1 : Option SR) (s2 : St) (h2 : Option SR) (s3 s4 : St) (h4 : Option SR) (s5 s6 s7 s8 s9 : St) (t9 : Nat → Nat → Int64) (μ : St) (τ : Nat → Nat → Int64) (H : Heap) (locs : List Loc), Inv L s0 s1 h1 s3 s4 h4 s5 s6 s8 s9 t9 μ τ → va_P E.1 vwCl (wX8 E ax μ τ ++ w7 E b L s0 s1 h1 s2 h2 s3 s4 h4 s5 s6 s7 s8 s9 t9) H → va_D (LA s) (wX8 E ax μ τ ++ w7 E b L s0 s1 h1 s2 h2 s3 s4 h4 s5 s6 s7 s8 s9 t9) → va_S (LA s) s.heap H locs → W p l e room_1 s m #[Value.ref bs] below meth c H locs cells slots Q (F0 m 1336 ls [])
