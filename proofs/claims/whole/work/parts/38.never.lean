/-! never: the sums, the reference's side -/
theorem anyB_le {p : Nat → Bool} {i : Nat} (h : anyB p i = true) : ∀ n, i ≤ n → anyB p n = true := by
  intro n
  induction n with
  | zero => 
    intro hi
    obtain rfl : i = 0 := by omega
    exact h
  | succ n ih =>
    intro hi
    by_cases e : i = n + 1
    · rw [← e]; exact h
    · rw [anyB, ih (by omega), Bool.or_true]
theorem mNev_55 {u : gV} {n row r : Nat} (hI : RI (u 2) (u 3) (u 4) (u 5) n) (hr : r < n) (k13 : gV → Int32 → Int32 → Int32 → Int32 → Int32 → Int32 → Option (Int32 × gV)) (x1 g a b c : Int32) : fX6_neverEnds_55 k13 u x1 g a b c (nI r) (nI (dg n row r)) = k13 u x1 (g + nvG (u 2) (u 4) (u 5) (u 1 6) n row r) (a + nvT (u 2) (u 3) (u 4) (u 5) (u 1 6) n row 1 r) (b + nvT (u 2) (u 3) (u 4) (u 5) (u 1 6) n row 2 r) (c + nvT (u 2) (u 3) (u 4) (u 5) (u 1 6) n row 3 r) (nI r + 1) := by
  have h5 := hI.1
  obtain ⟨hK, hS, hT, hM⟩ := hI.2 r hr
  have g5 : gin (nI r) 5 = true := gin_nI (by omega) (by decide)
  have cr : (nI r).toNatClampNeg = r := nI_clamp (by omega)
  unfold fX6_neverEnds_55 fX6_neverEnds_92 fX6_neverEnds_120 fX6_neverEnds_149 nvG nvT
  rw [mGives (by omega) hT.1 hT.2, gB_some, if_pos g5, cr]
  by_cases c1 : u 3 r = 1
  · rw [if_pos c1, mTakes (by omega) hT.1 hT.2, gB_some, if_pos g5, if_neg (by rw [c1]; decide), if_pos g5, if_neg (by rw [c1]; decide), if_pos c1, if_neg (by rw [c1]; decide), if_neg (by rw [c1]; decide)]
  · rw [if_neg c1, if_pos g5, if_neg c1]
    by_cases c2 : u 3 r = 2
    · rw [if_pos c2, mTakes (by omega) hT.1 hT.2, gB_some, if_pos g5, if_neg (by rw [c2]; decide), if_pos c2, if_neg (by rw [c2]; decide)]
    · rw [if_neg c2, if_pos g5, if_neg c2]
      by_cases c3 : u 3 r = 3
      · rw [if_pos c3, mTakes (by omega) hT.1 hT.2, gB_some, if_pos c3]
      · rw [if_neg c3, if_neg c3]
theorem mNevL {u u2 : gV} {n row : Nat} (hn : u 0 1 = nI n) (hI : RI (u 2) (u 3) (u 4) (u 5) n) (hw : row < 2 ^ 31) {q : Int32} (ha : fX6_asksOf u 0 = some (q, u2)) (hs : sameM u u2) : ∀ (k i fuel : Nat), k < fuel → i + k = n → anyB (nvB (u 2) (u 4) (u 5) (u 1 6) n row) i = false →
    ∃ u', sameM u u' ∧ fX6_neverEnds_13 fuel u (nI row) (gsum (nvG (u 2) (u 4) (u 5) (u 1 6) n row) i) (gsum (nvT (u 2) (u 3) (u 4) (u 5) (u 1 6) n row 1) i) (gsum (nvT (u 2) (u 3) (u 4) (u 5) (u 1 6) n row 2) i) (gsum (nvT (u 2) (u 3) (u 4) (u 5) (u 1 6) n row 3) i) (nI i) = some (if anyB (nvB (u 2) (u 4) (u 5) (u 1 6) n row) n = true then 0 else nvE (gsum (nvG (u 2) (u 4) (u 5) (u 1 6) n row) n) (gsum (nvT (u 2) (u 3) (u 4) (u 5) (u 1 6) n row 1) n) (gsum (nvT (u 2) (u 3) (u 4) (u 5) (u 1 6) n row 2) n) (gsum (nvT (u 2) (u 3) (u 4) (u 5) (u 1 6) n row 3) n) q, u') := by
  have h5 := hI.1
  intro k
  induction k with
  | zero =>
    intro i fuel hf hi hp
    obtain ⟨p, rfl⟩ : ∃ p, fuel = p + 1 := ⟨fuel - 1, by omega⟩
    obtain rfl : i = n := by omega
    rw [hp, if_neg (by decide), fX6_neverEnds_13, hn, if_pos (nI_yleL rfl rfl (by omega) (by omega)), ha, gB_some]
    unfold nvE
    by_cases c1 : gsum (nvG (u 2) (u 4) (u 5) (u 1 6) i row) i ≤ 0
    · rw [if_pos c1, if_pos c1]; exact ⟨_, sameM_rf, rfl⟩
    · rw [if_neg c1, if_neg c1]
      repeat' split
      all_goals exact ⟨_, hs, rfl⟩
  | succ k ih =>
    intro i fuel hf hi hp
    obtain ⟨p, rfl⟩ : ∃ p, fuel = p + 1 := ⟨fuel - 1, by omega⟩
    obtain ⟨hK, hS, hT, hM⟩ := hI.2 i (by omega)
    rw [fX6_neverEnds_13, hn, if_neg (nI_nleL rfl rfl (by omega) (by omega)), mDg h5 (by omega) hw, mGives (by omega) hT.1 hT.2, gB_some, mNev_55 hI (by omega), nI_1]
    by_cases c1 : nI (dg n row i) ≤ 0
    · rw [if_pos c1]
      exact ih (i + 1) p (by omega) (by omega) (by rw [anyB, hp, Bool.or_false]; exact decide_eq_false (fun z => z.1 c1))
    · rw [if_neg c1]
      by_cases c2 : mG (u 2) (u 4) (u 5) i (u 1 6) = 0
      · rw [if_pos c2, anyB_le (i := i + 1) (by rw [anyB, hp, Bool.or_false]; exact decide_eq_true ⟨c1, c2⟩) n (by omega), if_pos rfl]
        exact ⟨_, sameM_rf, rfl⟩
      · rw [if_neg c2]
        exact ih (i + 1) p (by omega) (by omega) (by rw [anyB, hp, Bool.or_false]; exact decide_eq_false (fun z => c2 z.2))
