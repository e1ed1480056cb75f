/-! never: digits of a row of counts, both sides -/
theorem digL {v u : gV} {n : Nat} {x1 : Int32} (hv : v 4 4 = nI n) (hu : u 0 1 = nI n) (h5 : n ≤ 5) : ∀ (k i fuel : Nat) (z : Int32), k < fuel → i + k = n → ∃ x, fX5_inDigits_4 fuel v x1 z (nI i) = some (x, v) ∧ fX6_rowDigits_4 fuel u x1 z (nI i) = some (x, u) := by
  intro k
  induction k with
  | zero =>
    intro i fuel z hf hi
    obtain ⟨q, rfl⟩ : ∃ q, fuel = q + 1 := ⟨fuel - 1, by omega⟩
    rw [fX5_inDigits_4, fX6_rowDigits_4, hv, hu, if_pos (nI_yleL rfl rfl (by omega) (by omega)), if_pos (nI_yleL rfl rfl (by omega) (by omega))]
    exact ⟨_, rfl, rfl⟩
  | succ k ih =>
    intro i fuel z hf hi
    obtain ⟨q, rfl⟩ : ∃ q, fuel = q + 1 := ⟨fuel - 1, by omega⟩
    rw [fX5_inDigits_4, fX6_rowDigits_4, hv, hu, if_neg (nI_nleL rfl rfl (by omega) (by omega)), if_neg (nI_nleL rfl rfl (by omega) (by omega)), nI_1, Int32.mul_comm z 10]
    exact ih (i + 1) q _ (by omega) (by omega)
theorem digits {v u : gV} {n : Nat} (hv : v 4 4 = nI n) (hu : u 0 1 = nI n) (h5 : n ≤ 5) (x1 : Int32) : ∃ x, fX5_inDigits v x1 = some (x, v) ∧ fX6_rowDigits u x1 = some (x, u) := digL hv hu h5 n 0 2000 0 (by omega) (by omega)
theorem shN : ∀ n, n < 32 → ((nI n &&& 31).toBitVec.smod 32).toNat = n := by decide
/-- how often rate r is in the row of counts -/
def dg (n row r : Nat) : Nat := row / 2 ^ (2 * (n - 1 - r)) % 4
theorem mDg {n row r : Nat} (h5 : n ≤ 5) (hr : r < n) (hw : row < 2 ^ 31) : ((nI row >>> ((2 * ((nI n - 1) - nI r)) &&& 31)) &&& 3) = nI (dg n row r) := by
  rw [show (1 : Int32) = nI 1 from rfl, pk_sub (by omega), pk_sub (by omega), show (2 : Int32) = nI 2 from rfl, pk_mul, pk_shrN hw _ (2 * (n - 1 - r)) (shN _ (by omega)), pk_andN (Nat.lt_of_le_of_lt (Nat.div_le_self _ _) (by omega)) 2 rfl]
  rfl
theorem cDg {n row r : Nat} (hw : row < 2 ^ 31) : (nI (row / 2 ^ (2 * (n - 1 - r))) &&& 3) = nI (dg n row r) := by
  rw [pk_andN (Nat.lt_of_le_of_lt (Nat.div_le_self _ _) (by omega)) 2 rfl]
  rfl
theorem cSh {n row r : Nat} (hw : row < 2 ^ 31) (hr : r + 1 < n) : nI (row / 2 ^ (2 * (n - 1 - (r + 1)))) >>> ((2 : Int32) &&& 31) = nI (row / 2 ^ (2 * (n - 1 - r))) := by
  rw [pk_shrN (Nat.lt_of_le_of_lt (Nat.div_le_self _ _) hw) _ 2 rfl, Nat.div_div_eq_div_mul, ← Nat.pow_add]
  rw [show 2 * (n - 1 - (r + 1)) + 2 = 2 * (n - 1 - r) by omega]
