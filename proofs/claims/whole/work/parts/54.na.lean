/-! ===== the law: what it starts from ===== -/
theorem tl_nestW : ∀ w ∈ nestW, w ∈ lw_tbl := gi_ps [174, 178, 258, 268, 260, 262, 264, 266, 184, 182, 180, 295, 220, 224, 228, 338, 340, 314, 316, 165, 167, 169, 171, 917, 172, 673, 675, 164, 176, 471, 159, 479, 487, 495, 662, 688, 689, 690, 695, 709, 722, 731, 736, 741, 779, 795, 803, 212, 837, 845, 857, 865, 873, 877, 885, 898, 902, 931, 952, 960, 964, 979, 983, 771, 252, 289, 309, 333, 391, 399, 403, 407, 425, 433, 813, 812, 849, 850, 851, 852, 417, 745, 751, 757, 758] (by decide +kernel)
def kkS (i : Nat) : Nat := ([72, 74, 76, 77, 78, 103, 109] : List Nat).getD i 0
set_option maxHeartbeats 8000000 in
set_option maxRecDepth 100000 in
theorem law_str {s : State} {bs : Nat} (hn : (Jvm.Cond.and given_1 narrow_1).before #[Value.ref bs] s = true) (A : Nat → Prop) (hA : ∀ a : Nat, a < s.heap.size → ¬ A a) : ∃ adK adV : Nat → Nat, vk_S 7 kLen kByt adK adV A s s.heap ∧ ∀ i : Nat, i < 7 → (Term.string RX5 (kkS i)).eval #[Value.ref bs] s none [] s = some (.ref (adK i)) := by
  have hs := flat_of_before _ hn
  have c7 : ∀ i : Nat, i < 7 → i = 0 ∨ i = 1 ∨ i = 2 ∨ i = 3 ∨ i = 4 ∨ i = 5 ∨ i = 6 := fun i h => by omega
  refine vk_Sof (args := #[Value.ref bs]) (tm := fun i => Term.string RX5 (kkS i)) ?_ ?_ ?_ ?_ ?_ ?_ ?_ hA
  · intro i hi; rcases c7 i hi with rfl | rfl | rfl | rfl | rfl | rfl | rfl <;> decide
  · intro i hi; rcases c7 i hi with rfl | rfl | rfl | rfl | rfl | rfl | rfl <;> exact hs _ (by decide +kernel)
  · intro i hi; rcases c7 i hi with rfl | rfl | rfl | rfl | rfl | rfl | rfl <;> exact hs _ (by decide +kernel)
  · intro i hi; rcases c7 i hi with rfl | rfl | rfl | rfl | rfl | rfl | rfl <;> exact hs _ (by decide +kernel)
  · intro i hi; rcases c7 i hi with rfl | rfl | rfl | rfl | rfl | rfl | rfl <;> exact hs _ (by decide +kernel)
  · intro i hi
    rcases c7 i hi with rfl | rfl | rfl | rfl | rfl | rfl | rfl
    · intro j hj
      have hj : j < 4 := hj
      rcases (show j = 0 ∨ j = 1 ∨ j = 2 ∨ j = 3 by omega) with rfl | rfl | rfl | rfl <;> exact hs _ (by decide +kernel)
    · intro j hj
      have hj : j < 4 := hj
      rcases (show j = 0 ∨ j = 1 ∨ j = 2 ∨ j = 3 by omega) with rfl | rfl | rfl | rfl <;> exact hs _ (by decide +kernel)
    · intro j hj
      have hj : j < 4 := hj
      rcases (show j = 0 ∨ j = 1 ∨ j = 2 ∨ j = 3 by omega) with rfl | rfl | rfl | rfl <;> exact hs _ (by decide +kernel)
    · intro j hj
      have hj : j < 4 := hj
      rcases (show j = 0 ∨ j = 1 ∨ j = 2 ∨ j = 3 by omega) with rfl | rfl | rfl | rfl <;> exact hs _ (by decide +kernel)
    · intro j hj; exact absurd hj (Nat.not_lt_zero j)
    · intro j hj
      have hj : j < 6 := hj
      rcases (show j = 0 ∨ j = 1 ∨ j = 2 ∨ j = 3 ∨ j = 4 ∨ j = 5 by omega) with rfl | rfl | rfl | rfl | rfl | rfl <;> exact hs _ (by decide +kernel)
    · intro j hj
      have hj : j < 3 := hj
      rcases (show j = 0 ∨ j = 1 ∨ j = 2 by omega) with rfl | rfl | rfl <;> exact hs _ (by decide +kernel)
  · intro i j hi hj hij
    rcases c7 i hi with rfl | rfl | rfl | rfl | rfl | rfl | rfl <;> rcases c7 j hj with rfl | rfl | rfl | rfl | rfl | rfl | rfl <;> first | exact absurd rfl hij | exact Or.inl (hs _ (by decide +kernel)) | exact Or.inr (hs _ (by decide +kernel))
set_option maxHeartbeats 8000000 in
set_option maxRecDepth 100000 in
theorem law_env {s : State} {bs : Nat} (hts : ∀ w ∈ lw_tbl, w.before #[Value.ref bs] s = true) (hn : (Jvm.Cond.and given_1 narrow_1).before #[Value.ref bs] s = true) : ∃ E : Ev, va_K E.1 vwCl (tyL E) s ∧ GG E.2.2.2.2 s s.heap ∧ E.2.2.2.2.1 = s.heap.size := by
  have hs := flat_of_before _ hn
  obtain ⟨c0, i0, k0⟩ := u_known (C := RX0) (T := TX0) (N := 5) (n := 5) hts tl_wsX00 (hts _ (lt1 (List.mem_of_getElem? (i := 177) rfl)))
  obtain ⟨c1, i1, k1⟩ := u_known (C := RX1) (T := TX1) (N := 10) (n := 10) hts tl_wsX10 (hts _ (lt1 (List.mem_of_getElem? (i := 80) rfl)))
  obtain ⟨c2, i2, k2⟩ := u_known (C := RX2) (T := TX2) (N := 11) (n := 11) hts tl_wsX20 (hts _ (lt1 (List.mem_of_getElem? (i := 27) rfl)))
  obtain ⟨c3, i3, k3⟩ := u_known (C := RX3) (T := TX3) (N := 4) (n := 4) hts tl_wsX30 (hts _ (lt1 (List.mem_of_getElem? (i := 157) rfl)))
  obtain ⟨c4, i4, k4⟩ := u_known (C := RX4) (T := TX4) (N := 3) (n := 3) hts tl_wsX40 (hts _ (lt2 (List.mem_of_getElem? (i := 49) rfl)))
  obtain ⟨c5, i5, k5⟩ := u_known (C := RX5) (T := TX5) (N := 8) (n := 8) hts tl_wsX50 (hts _ (lt1 (List.mem_of_getElem? (i := 120) rfl)))
  obtain ⟨c6, i6, k6⟩ := u_known (C := RX6) (T := TX6) (N := 3) (n := 3) hts tl_wsX60 (hts _ (lt1 (List.mem_of_getElem? (i := 201) rfl)))
  obtain ⟨c7, i7, k7⟩ := u_known (C := RX7) (T := TX7) (N := 11) (n := 11) hts tl_wsX70 (hts _ (lt1 (List.mem_of_getElem? (i := 19) rfl)))
  obtain ⟨c8, i8, k8⟩ := u_known (C := RX8) (T := TX8) (N := 67) (n := 67) hts tl_wsX80 (hts _ (lt4 (List.mem_of_getElem? (i := 138) rfl)))
  obtain ⟨cI, kI, pI, aI, bI, dI⟩ := Cond.arrayClass_spec (hts (.arrayClass .int) (lt1 (List.mem_of_getElem? (i := 78) rfl)))
  obtain ⟨cJ, kJ, pJ, aJ, bJ, dJ⟩ := Cond.arrayClass_spec (hts (.arrayClass .long) (lt1 (List.mem_of_getElem? (i := 218) rfl)))
  obtain ⟨cZ, kZ, pZ, aZ, bZ, dZ⟩ := Cond.arrayClass_spec (hts (.arrayClass .boolean) (lt5 (List.mem_of_getElem? (i := 105) rfl)))
  have hA : ∀ a : Nat, a < s.heap.size → ¬ (fun q => s.heap.size ≤ q) a := fun a h z => by have z' : s.heap.size ≤ a := z; omega
  obtain ⟨adK, adV, hS, hK⟩ := law_str hn (fun q => s.heap.size ≤ q) hA
  obtain ⟨tK, eK, hT⟩ := va_Tof (args := #[Value.ref bs]) (s := s) (tm := .static "PickedMatch" "KIND_ABOVE" "[I") (ty := .int) (N := 7) (f := fun j => .int (ka j)) (A := fun q => s.heap.size ≤ q) (by decide) (hs _ (by decide +kernel)) (va_eqt (hs _ (by decide +kernel))) (fun j hj => by
    rcases (show j = 0 ∨ j = 1 ∨ j = 2 ∨ j = 3 ∨ j = 4 ∨ j = 5 ∨ j = 6 by omega) with rfl | rfl | rfl | rfl | rfl | rfl | rfl <;> exact va_eqt (hs _ (by decide +kernel))) hA
  refine ⟨((fun k => match k with | 0 => c0 | 1 => c1 | 2 => c2 | 3 => c3 | 4 => c4 | 5 => c5 | 6 => c6 | 7 => c7 | _ => c8, fun k => match k with | 0 => i0 | 1 => i1 | 2 => i2 | 3 => i3 | 4 => i4 | 5 => i5 | 6 => i6 | 7 => i7 | _ => i8), cI, cJ, cZ, (s.heap.size, adK, adV, tK)), ⟨?_, ?_⟩, ⟨?_, ?_, ⟨?_, hT, ?_, ?_, hS⟩, Nat.le_refl _⟩, rfl⟩
  · intro k q hq
    match k, hq with
    | 0, hq => cases hq; exact k0
    | 1, hq => cases hq; exact k1
    | 2, hq => cases hq; exact k2
    | 3, hq => cases hq; exact k3
    | 4, hq => cases hq; exact k4
    | 5, hq => cases hq; exact k5
    | 6, hq => cases hq; exact k6
    | 7, hq => cases hq; exact k7
    | 8, hq => cases hq; exact k8
    | k + 9, hq => simp [vwCl] at hq
  · intro k q hq
    match k, hq with
    | 0, hq => cases hq; exact ⟨fun n z => ⟨fun k h => (by cases h), kI, bI, pI, dI⟩, aI⟩
    | 1, hq => cases hq; exact ⟨fun n z => ⟨fun k h => (by cases h), kJ, bJ, pJ, dJ⟩, aJ⟩
    | 2, hq => cases hq; exact ⟨fun n z => ⟨fun k h => (by cases h), kZ, bZ, pZ, dZ⟩, aZ⟩
    | k + 3, hq => simp [tyL] at hq
  · intro w hw
    have h1 := hts w (tl_nestW w hw)
    have h2 := List.all_eq_true.mp nestW_ok w hw
    cases w with
    | fieldLinkNest a i b n d k => exact va_tabs rfl (rfl : s.vm = s.vm) h1
    | methodLinkNest a i x k => exact va_tabs rfl (rfl : s.vm = s.vm) h1
    | _ => cases h2
  · intro r hr
    simp only [kRef, List.mem_cons, List.not_mem_nil, or_false] at hr
    rcases hr with rfl | rfl | rfl | rfl | rfl | rfl | rfl
    · exact vk_R.of (hts _ (lt2 (List.mem_of_getElem? (i := 139) rfl))) (hK 0 (by omega))
    · exact vk_R.of (hts _ (lt2 (List.mem_of_getElem? (i := 140) rfl))) (hK 1 (by omega))
    · exact vk_R.of (hts _ (lt2 (List.mem_of_getElem? (i := 141) rfl))) (hK 2 (by omega))
    · exact vk_R.of (hts _ (lt2 (List.mem_of_getElem? (i := 142) rfl))) (hK 3 (by omega))
    · exact vk_R.of (hts _ (lt2 (List.mem_of_getElem? (i := 143) rfl))) (hK 4 (by omega))
    · exact vk_R.of (hts _ (lt2 (List.mem_of_getElem? (i := 227) rfl))) (hK 5 (by omega))
    · exact vk_R.of (hts _ (lt3 (List.mem_of_getElem? (i := 45) rfl))) (hK 6 (by omega))
  · exact va_Zof (args := #[Value.ref bs]) (hts _ (lt4 (List.mem_of_getElem? (i := 67) rfl))) (hts _ (lt1 (List.mem_of_getElem? (i := 1) rfl))) eK hA
  · exact va_Zof (args := #[Value.ref bs]) (hts _ (lt2 (List.mem_of_getElem? (i := 161) rfl))) (hts _ (lt1 (List.mem_of_getElem? (i := 11) rfl))) (va_eqt (hs _ (by decide +kernel))) hA
  · exact va_Zqof (args := #[Value.ref bs]) (hts _ (lt2 (List.mem_of_getElem? (i := 177) rfl))) (hts _ (lt1 (List.mem_of_getElem? (i := 13) rfl))) (hs _ (by decide +kernel)) hA
