/-! never: the sums, the class's side -/
def gsum (f : Nat → Int32) : Nat → Int32
  | 0 => 0
  | k + 1 => gsum f k + f k
def anyB (p : Nat → Bool) : Nat → Bool
  | 0 => false
  | k + 1 => p k || anyB p k
def nvG (K T M : Nat → Int32) (d : Int32) (n row r : Nat) : Int32 := nI (dg n row r) * mG K T M r d
def nvT (K S T M : Nat → Int32) (d : Int32) (n row : Nat) (s : Int32) (r : Nat) : Int32 := if S r = s then nI (dg n row r) * mT K T M r d else 0
def nvB (K T M : Nat → Int32) (d : Int32) (n row r : Nat) : Bool := decide (¬ nI (dg n row r) ≤ 0 ∧ mG K T M r d = 0)
def nvE (G A B C q : Int32) : Int32 := if G ≤ 0 then 0 else if G * q < A then 0 else if G < B then 0 else if G < C then 0 else 1
theorem gsum_dn {f : Nat → Int32} {k : Nat} {a Z : Int32} (h : a + gsum f (k + 1) = Z) : (a + f k) + gsum f k = Z := by
  rw [← h, gsum, Int32.add_assoc, Int32.add_comm (f k)]
theorem cNev_182 {v : gV} {G A B C q : Int32} : fX5_neverEnds_182 v q G A B C = some (nvE G A B C q, v) := by
  unfold fX5_neverEnds_182 nvE
  by_cases c1 : G ≤ 0
  · rw [if_pos c1, if_pos c1]
  · rw [if_neg c1, if_neg c1]
    by_cases c2 : G * q < A
    · rw [if_pos c2, if_pos c2]
    · rw [if_neg c2, if_neg c2]
      by_cases c3 : G < B
      · rw [if_pos c3, if_pos c3]
      · rw [if_neg c3, if_neg c3]
        by_cases c4 : G < C
        · rw [if_pos c4, if_pos c4]
        · rw [if_neg c4, if_neg c4]
theorem cNev_84 {v : gV} {n row r : Nat} (hn : v 4 4 = nI n) (h5 : n ≤ 5) (hr : r < n) (k25 : gV → Int32 → Int32 → Int32 → Int32 → Int32 → Int32 → Int32 → Option (Int32 × gV)) (q g a b c x7 : Int32) : fX5_neverEnds_84 k25 v q g a b c x7 (nI r) (nI (dg n row r)) (mG (v 9) (v 11) (v 12) r (v 1 6)) = k25 v q (g + nvG (v 9) (v 11) (v 12) (v 1 6) n row r) (a + nvT (v 9) (v 10) (v 11) (v 12) (v 1 6) n row 1 r) (b + nvT (v 9) (v 10) (v 11) (v 12) (v 1 6) n row 2 r) (c + nvT (v 9) (v 10) (v 11) (v 12) (v 1 6) n row 3 r) x7 (nI r + (-1)) := by
  have g5 : gin (nI r) 5 = true := gin_nI (by omega) (by decide)
  have cr : (nI r).toNatClampNeg = r := nI_clamp (by omega)
  unfold fX5_neverEnds_84 fX5_neverEnds_139 fX5_neverEnds_156 fX5_neverEnds_173 nvG nvT
  rw [cTakes hn h5 hr, gB_some, if_pos g5, cr]
  by_cases c1 : v 10 r = 1
  · rw [c1]; rfl
  · by_cases c2 : v 10 r = 2
    · rw [c2]; rfl
    · by_cases c3 : v 10 r = 3
      · rw [c3]; rfl
      · simp only [if_neg c1, if_neg c2, if_neg c3]
theorem cNevL {v : gV} {n row : Nat} (hn : v 4 4 = nI n) (h5 : n ≤ 5) (hw : row < 2 ^ 31) {q G A B C : Int32} : ∀ (k fuel : Nat) (g a b c : Int32), k < fuel → k ≤ n → g + gsum (nvG (v 9) (v 11) (v 12) (v 1 6) n row) k = G → a + gsum (nvT (v 9) (v 10) (v 11) (v 12) (v 1 6) n row 1) k = A → b + gsum (nvT (v 9) (v 10) (v 11) (v 12) (v 1 6) n row 2) k = B → c + gsum (nvT (v 9) (v 10) (v 11) (v 12) (v 1 6) n row 3) k = C →
    fX5_neverEnds_25 fuel v q g a b c (nI (row / 2 ^ (2 * (n - k)))) (nI k - 1) = some (if anyB (nvB (v 9) (v 11) (v 12) (v 1 6) n row) k = true then 0 else nvE G A B C q, v) := by
  intro k
  induction k with
  | zero =>
    intro fuel g a b c hf hk e1 e2 e3 e4
    obtain ⟨p, rfl⟩ : ∃ p, fuel = p + 1 := ⟨fuel - 1, by omega⟩
    rw [gsum, Int32.add_zero] at e1 e2 e3 e4
    subst e1 e2 e3 e4
    rw [fX5_neverEnds_25, if_pos (show nI 0 - 1 < 0 by decide), cNev_182, anyB, if_neg (by decide)]
  | succ k ih =>
    intro fuel g a b c hf hk e1 e2 e3 e4
    obtain ⟨p, rfl⟩ : ∃ p, fuel = p + 1 := ⟨fuel - 1, by omega⟩
    have hk1 : nI (k + 1) - 1 = nI k := by rw [show (1 : Int32) = nI 1 from rfl, pk_sub (by omega), Nat.add_sub_cancel]
    have hd : (nI (row / 2 ^ (2 * (n - (k + 1)))) &&& 3) = nI (dg n row k) := by
      rw [show n - (k + 1) = n - 1 - k by omega]; exact cDg hw
    have hs : nI (row / 2 ^ (2 * (n - (k + 1)))) >>> ((2 : Int32) &&& 31) = nI (row / 2 ^ (2 * (n - k))) := by
      rw [pk_shrN (Nat.lt_of_le_of_lt (Nat.div_le_self _ _) hw) _ 2 rfl, Nat.div_div_eq_div_mul, ← Nat.pow_add, show 2 * (n - (k + 1)) + 2 = 2 * (n - k) by omega]
    rw [fX5_neverEnds_25, hk1, if_neg (nI_pos (by omega)), cHas hn h5 (by omega), gB_some, if_neg ne10, cGives hn h5 (by omega), gB_some, hd, hs, cNev_84 hn h5 (by omega), ← Int32.sub_eq_add_neg, ih p _ _ _ _ (by omega) (by omega) (gsum_dn e1) (gsum_dn e2) (gsum_dn e3) (gsum_dn e4), anyB]
    by_cases c1 : nI (dg n row k) ≤ 0
    · rw [if_pos c1, show nvB (v 9) (v 11) (v 12) (v 1 6) n row k = false from decide_eq_false (fun z => z.1 c1), Bool.false_or]
    · rw [if_neg c1]
      by_cases c2 : mG (v 9) (v 11) (v 12) k (v 1 6) = 0
      · rw [if_pos c2, show nvB (v 9) (v 11) (v 12) (v 1 6) n row k = true from decide_eq_true ⟨c1, c2⟩, Bool.true_or, if_pos rfl]
      · rw [if_neg c2, show nvB (v 9) (v 11) (v 12) (v 1 6) n row k = false from decide_eq_false (fun z => c2 z.2), Bool.false_or]
