/-! ===== the pure words of the decompiled functions ===== -/
abbrev St : Type := Nat → Nat → Int32
abbrev SR : Type := Nat × Nat × Nat × (Nat → Int32) × Int32 × Int32
def sA {α : Type} (σ : Nat → α) (k : Nat) (f : α) : Nat → α := fun j => bif Nat.beq j k then f else σ j
def sI (σ : St) (k : Nat) (v : Int32) : St := sA σ k (fun _ => v)
def nm {α β : Type} (e : α) (k : α → Option β) : Option β := k e
def ck {β : Type} (i : Int32) (n : Nat) (k : Option β) : Option β := if 0 ≤ i.toInt ∧ i.toInt < n then k else none
def cz {β : Type} (y : Int32) (k : Option β) : Option β := if y = 0 then none else k
def czL {β : Type} (y : Int64) (k : Option β) : Option β := if y = 0 then none else k
def cb {β : Type} (v : Int32) (k : Option β) : Option β := if v = 0 ∨ v = 1 then k else none
def cl {α β : Type} (o : Option α) (k : α → Option β) : Option β := match o with
  | none => none
  | some a => k a
def onl {β : Type} (o : Option SR) (a : β) (b : SR → β) : β := match o with
  | none => a
  | some R => b R
def cp {β : Type} (p : Prop) (d : Decidable p) (k : Option β) : Option β := @ite _ p d k none
def cpy {β : Type} (sp dp n : Int32) (n0 n1 : Nat) (k : Option β) : Option β := if ¬ sp < 0 ∧ ¬ dp < 0 ∧ ¬ n < 0 ∧ sp.toNatClampNeg + n.toNatClampNeg ≤ n0 ∧ dp.toNatClampNeg + n.toNatClampNeg ≤ n1 then k else none
def ka (j : Nat) : Int32 := ([-1, 0, 0, 0, 1, 2, 3] : List Int32).getD j 0
def kLen : List Nat := [4, 4, 4, 4, 0, 6, 3]
def kByt : List (List Int32) := [[108, 105, 107, 101], [109, 105, 110, 100], [110, 101, 101, 100], [104, 111, 108, 100], [], [116, 107, 118, 109, 119, 100], [60, 61, 62]]
abbrev SD : Type := Nat × (Nat → Int32) × Int32 × Int32
def lenS (size : Int32) (n : Nat) : Int32 := if (0 : Int32) < (if nI n < size then nI n else size) then (if nI n < size then nI n else size) else 0
