/-! the reader of words, numbers, signs: its picture -/
def goR (P : Nat → Bool) (T : Nat → Nat) : Nat → Nat → Nat
  | 0, p => p
  | k + 1, p => if P (T p) = true then goR P T k (p + 1) else p
/-- the end of the run that begins at p -/
def er (P : Nat → Bool) (T : Nat → Nat) (q p : Nat) : Nat := goR P T (q - p) p
theorem er_stop {P : Nat → Bool} {T : Nat → Nat} {q p : Nat} (h : q ≤ p) : er P T q p = p := by
  unfold er
  rw [show q - p = 0 by omega]
  rfl
theorem er_go {P : Nat → Bool} {T : Nat → Nat} {q p : Nat} (h : p < q) (hp : P (T p) = true) : er P T q p = er P T q (p + 1) := by
  unfold er
  rw [show q - p = (q - (p + 1)) + 1 by omega, goR, if_pos hp]
theorem er_no {P : Nat → Bool} {T : Nat → Nat} {q p : Nat} (hp : ¬ P (T p) = true) : er P T q p = p := by
  unfold er
  cases h : q - p with
  | zero => rfl
  | succ k => rw [goR, if_neg hp]
theorem er_spec {P : Nat → Bool} {T : Nat → Nat} {q : Nat} : ∀ (k p : Nat), p + k = q → p ≤ er P T q p ∧ er P T q p ≤ q ∧ (∀ j, p ≤ j → j < er P T q p → P (T j) = true) ∧ (er P T q p < q → ¬ P (T (er P T q p)) = true) := by
  intro k
  induction k with
  | zero =>
    intro p hp
    rw [er_stop (by omega)]
    exact ⟨Nat.le_refl _, by omega, fun j a b => by omega, fun z => by omega⟩
  | succ k ih =>
    intro p hp
    by_cases c : P (T p) = true
    · obtain ⟨h1, h2, h3, h4⟩ := ih (p + 1) (by omega)
      rw [er_go (by omega) c]
      refine ⟨by omega, h2, fun j a b => ?_, h4⟩
      by_cases e : j = p
      · rw [e]; exact c
      · exact h3 j (by omega) b
    · rw [er_no c]
      exact ⟨Nat.le_refl _, by omega, fun j a b => by omega, fun _ => c⟩
def bl (c : Nat) : Bool := decide (c = 32 ∨ c = 10)
def lt (c : Nat) : Bool := decide (97 ≤ c ∧ c ≤ 122)
def dt (c : Nat) : Bool := decide (48 ≤ c ∧ c ≤ 57)
def sg (c : Nat) : Bool := decide (c = 40 ∨ c = 41 ∨ c = 59 ∨ c = 43 ∨ c = 45 ∨ c = 42 ∨ c = 60 ∨ c = 61)
/-- word w stands from b to e -/
def mt (T : Nat → Nat) (b e w : Nat) : Prop := gWlen.getD w 0 = e - b ∧ ∀ k, k < gWlen.getD w 0 → gwc w k = nI (T (b + k))
theorem gW_len : ∀ w, w < 12 → gWlen.getD w 0 ≤ 8 ∧ 0 < gWlen.getD w 0 := by decide
theorem gW_diff : ∀ w, w < 12 → ∀ z, z < 12 → w ≠ z → gWlen.getD w 0 = gWlen.getD z 0 → ∃ k, k < 8 ∧ k < gWlen.getD w 0 ∧ gwc w k ≠ gwc z k := by decide
theorem mt_one {T : Nat → Nat} {b e w z : Nat} (hw : w < 12) (hz : z < 12) (h1 : mt T b e w) (h2 : mt T b e z) : w = z := by
  by_cases h : w = z
  · exact h
  · obtain ⟨k, -, hk, hd⟩ := gW_diff w hw z hz h (h1.1.trans h2.1.symm)
    exact absurd ((h1.2 k hk).trans (h2.2 k (by rw [h2.1, ← h1.1]; exact hk)).symm) hd
/-- the first from i on that holds, or 12 -/
noncomputable def fnd (m : Nat → Prop) : Nat → Nat → Nat
  | 0, _ => 12
  | k + 1, i => haveI := Classical.propDecidable (m i); if m i then i else fnd m k (i + 1)
theorem fnd_yes {m : Nat → Prop} {k i : Nat} (h : m i) : fnd m (k + 1) i = i := by
  unfold fnd
  rw [if_pos h]
theorem fnd_no {m : Nat → Prop} {k i : Nat} (h : ¬ m i) : fnd m (k + 1) i = fnd m k (i + 1) := by
  rw [fnd, if_neg h]
theorem fnd_spec {m : Nat → Prop} : ∀ (k i : Nat), i + k = 12 → (fnd m k i = 12 ∧ ∀ j, i ≤ j → j < 12 → ¬ m j) ∨ (i ≤ fnd m k i ∧ fnd m k i < 12 ∧ m (fnd m k i)) := by
  intro k
  induction k with
  | zero =>
    intro i hi
    exact Or.inl ⟨rfl, fun j a b => by omega⟩
  | succ k ih =>
    intro i hi
    by_cases h : m i
    · rw [fnd_yes h]
      exact Or.inr ⟨Nat.le_refl _, by omega, h⟩
    · rw [fnd_no h]
      rcases ih (i + 1) (by omega) with ⟨h1, h2⟩ | ⟨h1, h2, h3⟩
      · refine Or.inl ⟨h1, fun j a b => ?_⟩
        by_cases e : j = i
        · rw [e]; exact h
        · exact h2 j (by omega) b
      · exact Or.inr ⟨by omega, h2, h3⟩
noncomputable def wI (T : Nat → Nat) (b e : Nat) : Nat := fnd (mt T b e) 12 0
def numN (T : Nat → Nat) : Nat → Nat → Nat → Nat
  | 0, _, z => z
  | k + 1, p, z => numN T k (p + 1) (z * 10 + T p - 48)
/-- begin, token, number, next place -/
def bg (T : Nat → Nat) (q p : Nat) : Nat := er bl T q p
noncomputable def tk (T : Nat → Nat) (q p : Nat) : Nat :=
  if bg T q p < q then
    if lt (T (bg T q p)) = true then (if wI T (bg T q p) (er lt T q (bg T q p)) < 12 then 300 + wI T (bg T q p) (er lt T q (bg T q p)) else 1)
    else if dt (T (bg T q p)) = true then (if er dt T q (bg T q p) - bg T q p ≤ 4 then 2 else 1)
    else if sg (T (bg T q p)) = true then T (bg T q p) else 1
  else 0
def nm (T : Nat → Nat) (q p : Nat) : Nat := numN T (er dt T q (bg T q p) - bg T q p) (bg T q p) 0
def nx (T : Nat → Nat) (q p : Nat) : Nat :=
  if bg T q p < q then
    if lt (T (bg T q p)) = true then er lt T q (bg T q p)
    else if dt (T (bg T q p)) = true then er dt T q (bg T q p)
    else bg T q p + 1
  else bg T q p
theorem bg_le {T : Nat → Nat} {q p : Nat} (h : p ≤ q) : p ≤ bg T q p ∧ bg T q p ≤ q := by
  obtain ⟨h1, h2, -⟩ := er_spec (P := bl) (T := T) (q := q) (q - p) p (by omega)
  exact ⟨h1, h2⟩
theorem nx_le {T : Nat → Nat} {q p : Nat} (h : p ≤ q) : bg T q p ≤ nx T q p ∧ nx T q p ≤ q ∧ (bg T q p < q → bg T q p < nx T q p) := by
  obtain ⟨h1, h2⟩ := bg_le (T := T) h
  unfold nx
  generalize bg T q p = b at *
  by_cases c : b < q
  · rw [if_pos c]
    by_cases l : lt (T b) = true
    · obtain ⟨g1, g2, -⟩ := er_spec (P := lt) (T := T) (q := q) (q - (b + 1)) (b + 1) (by omega)
      rw [if_pos l, er_go c l]
      omega
    · rw [if_neg l]
      by_cases d : dt (T b) = true
      · obtain ⟨g1, g2, -⟩ := er_spec (P := dt) (T := T) (q := q) (q - (b + 1)) (b + 1) (by omega)
        rw [if_pos d, er_go c d]
        omega
      · rw [if_neg d]
        omega
  · rw [if_neg c]
    omega
theorem tk_0 {T : Nat → Nat} {q p : Nat} : tk T q p ≠ 0 → bg T q p < q := by
  intro h
  by_cases c : bg T q p < q
  · exact c
  · exfalso
    apply h
    unfold tk
    rw [if_neg c]
theorem sg_cases {c : Nat} (h : sg c = true) : c = 40 ∨ c = 41 ∨ c = 59 ∨ c = 43 ∨ c = 45 ∨ c = 42 ∨ c = 60 ∨ c = 61 := of_decide_eq_true h
/-- what a token may be -/
theorem tk_cases (T : Nat → Nat) (q p : Nat) : tk T q p = 0 ∨ tk T q p = 1 ∨ tk T q p = 2 ∨ (tk T q p = 40 ∨ tk T q p = 41 ∨ tk T q p = 59 ∨ tk T q p = 43 ∨ tk T q p = 45 ∨ tk T q p = 42 ∨ tk T q p = 60 ∨ tk T q p = 61) ∨ ∃ w, w < 12 ∧ tk T q p = 300 + w := by
  unfold tk
  by_cases c : bg T q p < q
  · rw [if_pos c]
    by_cases l : lt (T (bg T q p)) = true
    · rw [if_pos l]
      by_cases w : wI T (bg T q p) (er lt T q (bg T q p)) < 12
      · rw [if_pos w]; exact Or.inr (Or.inr (Or.inr (Or.inr ⟨_, w, rfl⟩)))
      · rw [if_neg w]; exact Or.inr (Or.inl rfl)
    · rw [if_neg l]
      by_cases d : dt (T (bg T q p)) = true
      · rw [if_pos d]
        by_cases w : er dt T q (bg T q p) - bg T q p ≤ 4
        · rw [if_pos w]; exact Or.inr (Or.inr (Or.inl rfl))
        · rw [if_neg w]; exact Or.inr (Or.inl rfl)
      · rw [if_neg d]
        by_cases s : sg (T (bg T q p)) = true
        · rw [if_pos s]; exact Or.inr (Or.inr (Or.inr (Or.inl (sg_cases s))))
        · rw [if_neg s]; exact Or.inr (Or.inl rfl)
  · rw [if_neg c]; exact Or.inl rfl
theorem numN_lt {T : Nat → Nat} : ∀ (k p z : Nat), (∀ j, p ≤ j → j < p + k → dt (T j) = true) → numN T k p z < 10 ^ k * (z + 1) := by
  intro k
  induction k with
  | zero =>
    intro p z _
    unfold numN
    omega
  | succ k ih =>
    intro p z h
    have h0 : 48 ≤ T p ∧ T p ≤ 57 := of_decide_eq_true (h p (Nat.le_refl _) (by omega))
    have := ih (p + 1) (z * 10 + T p - 48) (fun j a b => h j (by omega) (by omega))
    unfold numN
    refine Nat.lt_of_lt_of_le this ?_
    rw [Nat.pow_succ, Nat.mul_assoc]
    exact Nat.mul_le_mul_left _ (by omega)
theorem nm_lt {T : Nat → Nat} {q p : Nat} (hp : p ≤ q) (h : tk T q p = 2) : nm T q p < 10000 := by
  have hb := tk_0 (show tk T q p ≠ 0 by omega)
  unfold tk at h
  unfold nm
  generalize bg T q p = b at *
  rw [if_pos hb] at h
  by_cases l : lt (T b) = true
  · rw [if_pos l] at h
    split at h <;> omega
  · rw [if_neg l] at h
    by_cases d : dt (T b) = true
    · rw [if_pos d] at h
      by_cases w : er dt T q b - b ≤ 4
      · obtain ⟨g1, g2, g3, -⟩ := er_spec (P := dt) (T := T) (q := q) (q - b) b (by omega)
        have := numN_lt (T := T) (er dt T q b - b) b 0 (fun j a c => g3 j a (by omega))
        have hp : 10 ^ (er dt T q b - b) ≤ 10 ^ 4 := Nat.pow_le_pow_right (by decide) w
        omega
      · rw [if_neg w] at h; omega
    · rw [if_neg d] at h
      by_cases s : sg (T b) = true
      · rw [if_pos s] at h
        have := sg_cases s
        omega
      · rw [if_neg s] at h; omega
