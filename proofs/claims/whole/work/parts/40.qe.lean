/-! ===== pure layer QE: what a street means ===== -/
def tst (f : Nat → Int32) (t : Nat) : Bool := if t / 100 % 10 = 0 then decide (f (t / 1000) < nI (t % 100)) else if t / 100 % 10 = 1 then decide (f (t / 1000) = nI (t % 100)) else decide (nI (t % 100) < f (t / 1000))
/-- a token done on what was found so far, cap deep at most -/
def stp (f : Nat → Int32) (cap : Nat) : Nat → List Bool → Option (List Bool)
  | 0, a :: st => some ((!a) :: st)
  | 1, b :: a :: st => some ((a && b) :: st)
  | 2, b :: a :: st => some ((a || b) :: st)
  | t + 3, st => if st.length < cap then some (tst f t :: st) else none
  | _, _ => none
def runB (f : Nat → Int32) (cap : Nat) : List Nat → List Bool → Option (List Bool)
  | [], st => some st
  | t :: l, st => cl (stp f cap t st) (fun st' => runB f cap l st')
theorem runB_app (f : Nat → Int32) (cap : Nat) : ∀ (a b : List Nat) (st : List Bool), runB f cap (a ++ b) st = cl (runB f cap a st) (fun st' => runB f cap b st') := by
  intro a
  induction a with
  | nil => intro b st; rfl
  | cons t l ih =>
    intro b st
    rw [List.cons_append, runB, runB]
    cases h : stp f cap t st with
    | none => rfl
    | some s => rw [cl_s, cl_s, ih]
/-- toks are an E: on any stack with b places left they leave one more -/
def Gd (b : Nat) (toks : List Nat) (v : (Nat → Int32) → Bool) : Prop := (∀ (f : Nat → Int32) (st : List Bool) (cap : Nat), st.length + b ≤ cap → runB f cap toks st = some (v f :: st)) ∧ (∀ f g : Nat → Int32, (∀ i, i < 6 → f i = g i) → v f = v g) ∧ ∀ x ∈ toks, x < 6000
theorem Gd.le {b b' : Nat} {toks : List Nat} {v : (Nat → Int32) → Bool} (h : Gd b toks v) (hb : b ≤ b') : Gd b' toks v := ⟨fun f st cap hc => h.1 f st cap (by omega), h.2⟩
theorem Gd.not {b : Nat} {toks : List Nat} {v : (Nat → Int32) → Bool} (h : Gd b toks v) : Gd b (toks ++ [0]) (fun f => !(v f)) := by
  refine ⟨fun f st cap hc => ?_, fun f g hfg => by show (!(v f)) = (!(v g)); rw [h.2.1 f g hfg], mem_app h.2.2 (by omega)⟩
  rw [runB_app, h.1 f st cap hc, cl_s]; rfl
theorem Gd.and {b1 b2 : Nat} {a1 a2 : List Nat} {v1 v2 : (Nat → Int32) → Bool} (h1 : Gd b1 a1 v1) (h2 : Gd b2 a2 v2) : Gd (max b1 (b2 + 1)) (a1 ++ a2 ++ [1]) (fun f => v1 f && v2 f) := by
  refine ⟨fun f st cap hc => ?_, fun f g hfg => by show (v1 f && v2 f) = (v1 g && v2 g); rw [h1.2.1 f g hfg, h2.2.1 f g hfg], mem_app (fun x hx => (List.mem_append.mp hx).elim (h1.2.2 x) (h2.2.2 x)) (by omega)⟩
  rw [runB_app, runB_app, h1.1 f st cap (by omega), cl_s, h2.1 f (v1 f :: st) cap (by rw [List.length_cons]; omega), cl_s]; rfl
theorem Gd.or {b1 b2 : Nat} {a1 a2 : List Nat} {v1 v2 : (Nat → Int32) → Bool} (h1 : Gd b1 a1 v1) (h2 : Gd b2 a2 v2) : Gd (max b1 (b2 + 1)) (a1 ++ a2 ++ [2]) (fun f => v1 f || v2 f) := by
  refine ⟨fun f st cap hc => ?_, fun f g hfg => by show (v1 f || v2 f) = (v1 g || v2 g); rw [h1.2.1 f g hfg, h2.2.1 f g hfg], mem_app (fun x hx => (List.mem_append.mp hx).elim (h1.2.2 x) (h2.2.2 x)) (by omega)⟩
  rw [runB_app, runB_app, h1.1 f st cap (by omega), cl_s, h2.1 f (v1 f :: st) cap (by rw [List.length_cons]; omega), cl_s]; rfl
def GR (b : Nat) (rp : Nat → Rd) : Prop := ∀ p, (rp p).1 = true → ∃ v, Gd b (rp p).2.2 v
theorem GR.le {b b' : Nat} {rp : Nat → Rd} (h : GR b rp) (hb : b ≤ b') : GR b' rp := fun p hp => by
  obtain ⟨v, hv⟩ := h p hp; exact ⟨v, hv.le hb⟩
theorem gr_test {T : List Nat} (hT : TxOk T) : GR 1 (rtest T) := by
  intro p
  have hr := (rnum_le hT (p + 2)).2.1
  have hlx := lix_le (chr T p)
  have hrx := rix_le (chr T (p + 1))
  unfold rtest
  by_cases h6 : lix (chr T p) = 6
  · rw [if_pos h6]; exact fun z => (by cases z)
  rw [if_neg h6]
  by_cases h3 : rix (chr T (p + 1)) = 3
  · rw [if_pos h3]; exact fun z => (by cases z)
  rw [if_neg h3]
  cases hb : (rnum T (p + 2)).1
  · rw [if_neg (by decide)]; exact fun z => (by cases z)
  · rw [if_pos rfl]
    intro _
    have hdiv : (1000 * lix (chr T p) + 100 * rix (chr T (p + 1)) + (rnum T (p + 2)).2.2) / 1000 = lix (chr T p) := by omega
    refine ⟨fun f => tst f (1000 * lix (chr T p) + 100 * rix (chr T (p + 1)) + (rnum T (p + 2)).2.2), fun f st cap hc => ?_, fun f g hfg => ?_, fun x hx => by rw [List.mem_singleton] at hx; omega⟩
    · show cl (stp f cap (3 + _) st) _ = _
      rw [Nat.add_comm 3]
      show cl (if st.length < cap then _ else none) _ = _
      rw [if_pos (by omega), cl_s]; rfl
    · show tst f _ = tst g _
      unfold tst
      rw [hdiv, hfg _ (by omega)]
theorem gr_bothL {T : List Nat} {b : Nat} {rp : Nat → Rd} (h : GR b rp) : ∀ (k p : Nat) (acc : List Nat), (∃ v, Gd (b + 1) acc v) → (rBothL rp T k p acc).1 = true → ∃ v, Gd (b + 1) (rBothL rp T k p acc).2.2 v := by
  intro k
  induction k with
  | zero => intro p acc hv _; exact hv
  | succ k ih =>
    intro p acc hv
    rw [rBothL]
    by_cases h1 : chr T p = 38
    · rw [if_pos h1]
      cases hb : (rp (p + 1)).1
      · rw [if_neg (by decide)]; exact fun z => (by cases z)
      · rw [if_pos rfl]
        obtain ⟨v, hv⟩ := hv
        obtain ⟨w, hw⟩ := h (p + 1) hb
        exact ih _ _ ⟨_, (hv.and hw).le (by omega)⟩
    · rw [if_neg h1]; exact fun _ => hv
theorem gr_both {T : List Nat} {b : Nat} {rp : Nat → Rd} (h : GR b rp) : GR (b + 1) (rBoth rp T) := by
  intro p
  unfold rBoth
  cases hb : (rp p).1
  · rw [if_neg (by decide)]; exact fun z => (by cases z)
  · rw [if_pos rfl]
    obtain ⟨v, hv⟩ := h p hb
    exact gr_bothL h 100 _ _ ⟨v, hv.le (by omega)⟩
theorem gr_eitherL {T : List Nat} {b : Nat} {rp : Nat → Rd} (h : GR b rp) : ∀ (k p : Nat) (acc : List Nat), (∃ v, Gd (b + 2) acc v) → (rEitherL rp T k p acc).1 = true → ∃ v, Gd (b + 2) (rEitherL rp T k p acc).2.2 v := by
  have hB := gr_both (T := T) h
  intro k
  induction k with
  | zero => intro p acc hv _; exact hv
  | succ k ih =>
    intro p acc hv
    rw [rEitherL]
    by_cases h1 : chr T p = 124
    · rw [if_pos h1]
      cases hb : (rBoth rp T (p + 1)).1
      · rw [if_neg (by decide)]; exact fun z => (by cases z)
      · rw [if_pos rfl]
        obtain ⟨v, hv⟩ := hv
        obtain ⟨w, hw⟩ := hB (p + 1) hb
        exact ih _ _ ⟨_, (hv.or hw).le (by omega)⟩
    · rw [if_neg h1]; exact fun _ => hv
theorem gr_either {T : List Nat} {b : Nat} {rp : Nat → Rd} (h : GR b rp) : GR (b + 2) (rEither rp T) := by
  intro p
  unfold rEither
  cases hb : (rBoth rp T p).1
  · rw [if_neg (by decide)]; exact fun z => (by cases z)
  · rw [if_pos rfl]
    obtain ⟨v, hv⟩ := gr_both h p hb
    exact gr_eitherL h 100 _ _ ⟨v, hv.le (by omega)⟩
theorem gr_part {T : List Nat} (hT : TxOk T) : ∀ D d : Nat, d ≤ 4 → GR (2 * (4 - d) + 1) (rPart T D d) := by
  intro D
  induction D with
  | zero => intro d _ p z; cases z
  | succ D ih =>
    intro d hd p
    rw [rPart]
    by_cases h1 : chr T p = 33
    · rw [if_pos h1]
      by_cases hd4 : d < 4
      · rw [if_pos hd4]
        cases hb : (rPart T D (d + 1) (p + 1)).1
        · rw [if_neg (by decide)]; exact fun z => (by cases z)
        · rw [if_pos rfl]
          obtain ⟨v, hv⟩ := ih (d + 1) (by omega) (p + 1) hb
          exact fun _ => ⟨_, (hv.not).le (by omega)⟩
      · rw [if_neg hd4]; exact fun z => (by cases z)
    rw [if_neg h1]
    by_cases h4 : chr T p = 40
    · rw [if_pos h4]
      by_cases hd4 : d < 4
      · rw [if_pos hd4]
        cases hb : (rEither (rPart T D (d + 1)) T (p + 1)).1
        · rw [if_neg (by decide)]; exact fun z => (by cases z)
        · rw [if_pos rfl]
          by_cases h5 : chr T (rEither (rPart T D (d + 1)) T (p + 1)).2.1 = 41
          · rw [if_pos h5]
            obtain ⟨v, hv⟩ := gr_either (T := T) (ih (d + 1) (by omega)) (p + 1) hb
            exact fun _ => ⟨v, hv.le (by omega)⟩
          · rw [if_neg h5]; exact fun z => (by cases z)
      · rw [if_neg hd4]; exact fun z => (by cases z)
    · rw [if_neg h4]; exact ((gr_test hT).le (by omega)) p
theorem gr_E {T : List Nat} (hT : TxOk T) : GR 11 (rE T) := gr_either (gr_part hT 8 0 (by omega))
/-- a clause that is well made -/
def GC (z : Cz) : Prop := z.1 < 4 ∧ z.2.1 ≤ 99 ∧ (z.1 ≤ 1 → ∃ v, Gd 11 z.2.2 v)
theorem gc_clause {T : List Nat} (hT : TxOk T) {p : Nat} (hp : p ≤ T.length) (h : (rClause T p).1 = true) : GC (rClause T p).2.2 := by
  have hk := (clause_ok hT hp).2.2 h
  refine ⟨hk.2.1, hk.2.2, ?_⟩
  revert h
  unfold rClause
  by_cases h4 : wx (chr T p) = 4
  · rw [if_pos h4]; exact fun z => (by cases z)
  rw [if_neg h4]
  cases hb : (rHd T p).1
  · rw [if_neg (by decide)]; exact fun z => (by cases z)
  rw [if_pos rfl]
  by_cases h2 : 2 ≤ wx (chr T p)
  · rw [if_pos h2]
    exact fun _ z => by have z' : wx (chr T p) ≤ 1 := z; omega
  rw [if_neg h2]
  by_cases h32 : chr T (rHd T p).2.1 = 32
  · rw [if_pos h32]
    cases hE : (rE T ((rHd T p).2.1 + 1)).1
    · rw [if_neg (by decide)]; exact fun z => (by cases z)
    · rw [if_pos rfl]; exact fun _ _ => gr_E hT _ hE
  · rw [if_neg h32]; exact fun z => (by cases z)
theorem gc_street {T : List Nat} (hT : TxOk T) : ∀ (k p : Nat) (cs : List Cz), p ≤ T.length → (∀ z ∈ cs, GC z) → (rSt T k p cs).1 = true → ∀ z ∈ (rSt T k p cs).2.2, GC z := by
  intro k
  induction k with
  | zero => intro p cs _ _ z; cases z
  | succ k ih =>
    intro p cs hp hc
    have hk := clause_ok hT hp
    rw [rSt]
    cases hb : (rClause T p).1
    · rw [if_neg (by decide)]; exact fun z => (by cases z)
    rw [if_pos rfl]
    have hz := gc_clause hT hp hb
    by_cases hend : T.length ≤ (rClause T p).2.1
    · rw [if_pos hend]; exact fun _ => mem_app hc hz
    rw [if_neg hend]
    by_cases hk0 : k = 0
    · rw [if_pos hk0]; exact fun z => (by cases z)
    rw [if_neg hk0]
    by_cases h59 : chr T (rClause T p).2.1 = 59
    · rw [if_pos h59]; exact ih _ _ (by omega) (mem_app hc hz)
    · rw [if_neg h59]; exact fun z => (by cases z)
/-- whether an E is so -/
def evz (f : Nat → Int32) (toks : List Nat) : Bool := match runB f 12 toks [] with
  | some (b :: _) => b
  | _ => false
/-- what a clause brings to the taste -/
def cvz (f : Nat → Int32) (z : Cz) : Int32 := if z.1 ≤ 1 then (if evz f z.2.2 = true then (if z.1 = 0 then nI z.2.1 else -(nI z.2.1)) else 0) else 0
def sumZ (f : Nat → Int32) (cs : List Cz) (a : Int32) : Int32 := cs.foldl (fun a z => a + cvz f z) a
/-- a street's meaning -/
def SnZ (cs : List Cz) : Sn := ((fun f => sumZ f cs 0), nI (needF cs), nI (holdF cs))
theorem Gd.ev {toks : List Nat} {v : (Nat → Int32) → Bool} (h : Gd 11 toks v) (f : Nat → Int32) : runB f 12 toks [] = some [v f] ∧ evz f toks = v f := by
  have e := h.1 f [] 12 (by simp)
  exact ⟨e, by unfold evz; rw [e]⟩
theorem holdF_ok {cs : List Cz} (h : ∀ z ∈ cs, GC z) : 1 ≤ holdF cs ∧ holdF cs ≤ 99 := by
  have key : ∀ (l : List Cz) (a : Nat), (∀ z ∈ l, GC z) → 1 ≤ a → a ≤ 99 → 1 ≤ l.foldl (fun a z => if z.1 = 3 then max 1 z.2.1 else a) a ∧ l.foldl (fun a z => if z.1 = 3 then max 1 z.2.1 else a) a ≤ 99 := by
    intro l
    induction l with
    | nil => intro a _ h1 h2; exact ⟨h1, h2⟩
    | cons z l ih =>
      intro a hz h1 h2
      have := (hz z List.mem_cons_self).2.1
      refine ih _ (fun y hy => hz y (List.mem_cons_of_mem _ hy)) ?_ ?_
      · show 1 ≤ (if z.1 = 3 then max 1 z.2.1 else a); split <;> omega
      · show (if z.1 = 3 then max 1 z.2.1 else a) ≤ 99; split <;> omega
  exact key cs 6 h (by omega) (by omega)
theorem SnZ_2 (cs : List Cz) : (SnZ cs).2.2 = nI (holdF cs) := by unfold SnZ; simp only
theorem cvz_eq {z : Cz} (h : GC z) {f g : Nat → Int32} (hfg : ∀ i, i < 6 → f i = g i) : cvz f z = cvz g z := by
  unfold cvz
  by_cases h1 : z.1 ≤ 1
  · obtain ⟨v, hv⟩ := h.2.2 h1
    rw [if_pos h1, if_pos h1, (hv.ev f).2, (hv.ev g).2, hv.2.1 f g hfg]
  · rw [if_neg h1, if_neg h1]
theorem sumZ_cons (f : Nat → Int32) (z : Cz) (l : List Cz) (a : Int32) : sumZ f (z :: l) a = sumZ f l (a + cvz f z) := by unfold sumZ; rw [List.foldl_cons]
theorem sumZ_nil (f : Nat → Int32) (a : Int32) : sumZ f [] a = a := by unfold sumZ; rw [List.foldl_nil]
theorem sumZ_eq {f g : Nat → Int32} (hfg : ∀ i, i < 6 → f i = g i) : ∀ (l : List Cz) (a : Int32), (∀ z ∈ l, GC z) → sumZ f l a = sumZ g l a := by
  intro l
  induction l with
  | nil => intro a _; rw [sumZ_nil, sumZ_nil]
  | cons z l ih =>
    intro a hz
    rw [sumZ_cons, sumZ_cons, cvz_eq (hz z List.mem_cons_self) hfg]
    exact ih _ (fun y hy => hz y (List.mem_cons_of_mem _ hy))
theorem SnZ_1 (cs : List Cz) (f : Nat → Int32) : (SnZ cs).1 f = sumZ f cs 0 := by unfold SnZ; simp only
theorem SnZ_n (cs : List Cz) : (SnZ cs).2.1 = nI (needF cs) := by unfold SnZ; simp only
theorem SnZ_ok {cs : List Cz} (h : ∀ z ∈ cs, GC z) : SnOk (SnZ cs) := by
  unfold SnOk
  refine ⟨fun f g hfg => ?_, holdF cs, SnZ_2 cs, holdF_ok h⟩
  rw [SnZ_1, SnZ_1]
  exact sumZ_eq hfg cs 0 h
