/-! a world: cell i at the address r i, its numbers v i k -/
abbrev gV : Type := Nat → Nat → Int32
def up2 (v : gV) (i : Nat) (f : Nat → Int32) : gV := fun j => if j = i then f else v j
def up1 (v : gV) (i k : Nat) (x : Int32) : gV := up2 v i (upd (v i) k x)
/-! helpers of the functions -/
def gin (x : Int32) (n : Nat) : Bool := decide (0 ≤ x.toInt ∧ x.toInt < n)
theorem gin_in {x : Int32} {n : Nat} (h : gin x n = true) : vp_in x n := vp_in_iff.mpr (of_decide_eq_true h)
theorem gin_lt {x : Int32} {n : Nat} (h : gin x n = true) : x.toNatClampNeg < n := Nat.not_le.mp fun q => gin_in h (Or.inr q)
theorem gTr {c : Prop} [Decidable c] {α : Type} {a b R : α} (h : c) (e : (if c then a else b) = R) : a = R := by rwa [if_pos h] at e
theorem gF {c : Prop} [Decidable c] {α : Type} {a b R : α} (h : ¬ c) (e : (if c then a else b) = R) : b = R := by rwa [if_neg h] at e
theorem gGd {c : Prop} [Decidable c] {α : Type} {a : Option α} {R : α} (e : (if c then a else none) = some R) : c ∧ a = some R := by
  by_cases h : c
  · exact ⟨h, gTr h e⟩
  · exact absurd (gF h e) (by simp)
theorem gGN {c : Prop} [Decidable c] {α : Type} {a : Option α} {R : α} (e : (if c then none else a) = some R) : ¬ c ∧ a = some R := by
  by_cases h : c
  · exact absurd (gTr h e) (by simp)
  · exact ⟨h, gF h e⟩
def gB {α β : Type} (x : Option (α × gV)) (k : α → gV → Option β) : Option β := match x with
  | none => none
  | some q => k q.1 q.2
theorem gB_inv {α β : Type} {x : Option (α × gV)} {k : α → gV → Option β} {R : β} (h : gB x k = some R) : ∃ y v, x = some (y, v) ∧ k y v = some R := by
  cases x with
  | none => cases h
  | some q => exact ⟨q.1, q.2, rfl, h⟩
theorem gB_some {α β : Type} {y : α} {v : gV} {k : α → gV → Option β} : gB (some (y, v)) k = k y v := rfl
def gOp {β : Type} (o : Option Nat) (a : Option β) (k : Nat → Option β) : Option β := match o with
  | none => a
  | some t => if t < 6 then k t else none
theorem gOpt {β : Type} {o : Option Nat} {a : Option β} {k : Nat → Option β} {R : β} (h : gOp o a k = some R) : (o = none ∧ a = some R) ∨ ∃ t, t < 6 ∧ o = some t ∧ k t = some R := by
  cases o with
  | none => exact Or.inl ⟨rfl, h⟩
  | some t =>
    obtain ⟨c, h⟩ := gGd h
    exact Or.inr ⟨t, c, rfl, h⟩
def gTx {α : Type} (x : Int32) (a : α) (k : Nat → α) : α := if gin (x - 1) 6 = true then k (x - 1).toNatClampNeg else a
theorem gTxt {α : Type} {x : Int32} {a : α} {k : Nat → α} {R : α} (h : gTx x a k = R) : (gin (x - 1) 6 = false ∧ a = R) ∨ ∃ t, t < 6 ∧ (gin (x - 1) 6 = true ∧ (x - 1).toNatClampNeg = t) ∧ k t = R := by
  unfold gTx at h
  by_cases c : gin (x - 1) 6 = true
  · exact Or.inr ⟨_, gin_lt c, ⟨c, rfl⟩, gTr c h⟩
  · exact Or.inl ⟨by simpa using c, gF c h⟩
def gtxt (r : Nat → Nat) (x : Int32) : Option Nat := if gin (x - 1) 6 = true then some (r (31 + (x - 1).toNatClampNeg)) else none
def gmax (x y : Int32) : Int32 := if x < y then y else x
def gmin (x y : Int32) : Int32 := if y < x then y else x
def gCp (sp dp n : Int32) (a b c n0 n1 : Nat) : Prop := ¬ sp < 0 ∧ ¬ dp < 0 ∧ ¬ n < 0 ∧ sp.toNatClampNeg = a ∧ dp.toNatClampNeg = b ∧ n.toNatClampNeg = c ∧ a + c ≤ n0 ∧ b + c ≤ n1
def gcp (sp dp n : Int32) (n0 n1 : Nat) : Bool := decide (¬ sp < 0 ∧ ¬ dp < 0 ∧ ¬ n < 0 ∧ sp.toNatClampNeg + n.toNatClampNeg ≤ n0 ∧ dp.toNatClampNeg + n.toNatClampNeg ≤ n1)
theorem gcp_of {sp dp n : Int32} {n0 n1 : Nat} (h : gcp sp dp n n0 n1 = true) : gCp sp dp n sp.toNatClampNeg dp.toNatClampNeg n.toNatClampNeg n0 n1 := by
  obtain ⟨h1, h2, h3, h4, h5⟩ := of_decide_eq_true h
  exact ⟨h1, h2, h3, rfl, rfl, rfl, h4, h5⟩
def gS0 (j : Nat) : Int32 := ([-1, 0, 0, 1, 2, 0] : List Int32).getD j 0
def gS1 (j : Nat) : Int32 := ([3, 99, 100] : List Int32).getD j 0
def gS2 (j : Nat) : Int32 := ([6, 5, 0, 1, 2, 3] : List Int32).getD j 0
def gWlen : List Nat := [6, 5, 6, 2, 3, 3, 3, 5, 4, 5, 4, 5]
def gWbyt : List (List Int32) := [[100, 114, 105, 110, 107, 115], [119, 111, 114, 116, 104], [98, 114, 101, 97, 107, 115], [111, 114], [97, 110, 100], [110, 111, 116], [100, 97, 121], [100, 114, 117, 110, 107], [102, 117, 108, 108], [101, 109, 112, 116, 121], [99, 111, 114, 107], [108, 97, 98, 101, 108]]
def gwl (w : Nat) : Int32 := Int32.ofNat (gWlen.getD w 0)
def gwc (w k : Nat) : Int32 := (gWbyt.getD w []).getD k 0
