/-! the rates, on both sides -/
theorem gin_nI {j n : Nat} (h : j < n) (hn : n < 2 ^ 31) : gin (nI j) n = true := by
  unfold gin
  rw [nI_toInt (by omega)]
  exact decide_eq_true (by omega)
theorem up1_eq {v : gV} {i k : Nat} {x : Int32} : up1 v i k x i = upd (v i) k x := by simp [up1, up2]
theorem up1_ne {v : gV} {i j k : Nat} {x : Int32} (h : j ≠ i) : up1 v i k x j = v j := by simp [up1, up2, h]
theorem up2_eq {v : gV} {i : Nat} {f : Nat → Int32} : up2 v i f i = f := by simp [up2]
theorem up2_ne {v : gV} {i j : Nat} {f : Nat → Int32} (h : j ≠ i) : up2 v i f j = v j := by simp [up2, h]
/-- how many a rate takes, gives, lends -/
def mT (K T M : Nat → Int32) (r : Nat) (d : Int32) : Int32 :=
  if K r = 2 ∨ K r = 4 then (if d - d / 2 * 2 = 1 then T r + M r else T r) else if K r = 5 then (if d < M r then T r else gmax 1 (T r - 1)) else T r
def mG (K T M : Nat → Int32) (r : Nat) (d : Int32) : Int32 :=
  if K r = 3 then (if T r ≤ 5 then 1 else 2) else if K r = 4 then (if d - d / 7 * 7 = M r - M r / 7 * 7 then 2 else 0) else 1
def mL (K M : Nat → Int32) (r : Nat) : Int32 := if K r = 1 then 1 else if K r = 3 then 1 + M r else 0
theorem cHas {v : gV} {n r : Nat} (hn : v 4 4 = nI n) (h5 : n ≤ 5) (hr : r < n) : fX1_has v (nI r) = some (1, v) := by
  unfold fX1_has
  rw [if_neg (nI_pos (by omega)), if_neg (by rw [hn]; exact nI_ge hr (by omega)), if_neg (show ¬ (5 : Int32) ≤ nI r from nI_ge (a := r) (b := 5) (by omega) (by decide))]
theorem cTakes {v : gV} {n r : Nat} (hn : v 4 4 = nI n) (h5 : n ≤ 5) (hr : r < n) (d : Int32) : fX1_takes v (nI r) d = some (mT (v 9) (v 11) (v 12) r d, v) := by
  have hg : gin (nI r) 5 = true := gin_nI (by omega) (by decide)
  have hc : (nI r).toNatClampNeg = r := nI_clamp (by omega)
  unfold fX1_takes mT
  rw [cHas hn h5 hr]
  simp only [gB_some, hg, hc, if_true, Int32.add_zero]
  rw [if_neg (by decide)]
  by_cases h2 : v 9 r = 2
  · simp [h2]; split <;> rfl
  · by_cases h3 : v 9 r = 3
    · simp [h3]
    · by_cases h4 : v 9 r = 4
      · simp [h4]; split <;> rfl
      · by_cases h6 : v 9 r = 5
        · simp [h6]; split <;> rfl
        · simp [h2, h3, h4, h6]
theorem cGives {v : gV} {n r : Nat} (hn : v 4 4 = nI n) (h5 : n ≤ 5) (hr : r < n) (d : Int32) : fX1_gives v (nI r) d = some (mG (v 9) (v 11) (v 12) r d, v) := by
  have hg : gin (nI r) 5 = true := gin_nI (by omega) (by decide)
  have hc : (nI r).toNatClampNeg = r := nI_clamp (by omega)
  unfold fX1_gives mG
  rw [cHas hn h5 hr]
  simp only [gB_some, hg, hc, if_true]
  rw [if_neg (by decide)]
  repeat' split
  all_goals first | rfl | contradiction
theorem cLends {v : gV} {n r : Nat} (hn : v 4 4 = nI n) (h5 : n ≤ 5) (hr : r < n) : fX1_lends v (nI r) = some (mL (v 9) (v 12) r, v) := by
  have hg : gin (nI r) 5 = true := gin_nI (by omega) (by decide)
  have hc : (nI r).toNatClampNeg = r := nI_clamp (by omega)
  unfold fX1_lends mL
  rw [cHas hn h5 hr]
  simp only [gB_some, hg, hc, if_true]
  rw [if_neg (by decide)]
  repeat' split
  all_goals first | rfl | contradiction
/-- the reference's -/
theorem gmax_within {v : gV} {t : Int32} (h1 : 1 ≤ t.toInt) (h2 : t.toInt ≤ 9) : fX6_within v (t - 1) 1 9 = some (gmax 1 (t - 1), v) := by
  have e : (t - 1).toInt = t.toInt - 1 := by
    rw [Int32.toInt_sub, show (1 : Int32).toInt = 1 from rfl]
    exact Int.bmod_eq_of_le (by omega) (by omega)
  have l1 : (1 : Int32).toInt = 1 := rfl
  have l9 : (9 : Int32).toInt = 9 := rfl
  unfold fX6_within gmax
  simp only [Int32.le_iff_toInt_le, Int32.lt_iff_toInt_lt, l1, l9, e]
  by_cases h : t.toInt = 1
  · have : t - 1 = 0 := by
      apply Int32.toInt_inj.mp
      rw [e, h]
      rfl
    rw [if_neg (by omega), if_neg (by omega)]
  · by_cases h3 : t.toInt = 2
    · have : t - 1 = 1 := by
        apply Int32.toInt_inj.mp
        rw [e, h3]
        rfl
      rw [if_pos (by omega), if_pos (by omega), if_neg (by omega), this]
    · rw [if_pos (by omega), if_pos (by omega), if_pos (by omega)]
theorem mTakes {v : gV} {r : Nat} (hr : r < 5) (h1 : 1 ≤ (v 4 r).toInt) (h2 : (v 4 r).toInt ≤ 9) : fX6_takes v (nI r) = some (mT (v 2) (v 4) (v 5) r (v 1 6), v) := by
  have hg : gin (nI r) 5 = true := gin_nI (by omega) (by decide)
  have hc : (nI r).toNatClampNeg = r := nI_clamp (by omega)
  unfold fX6_takes mT fX6_takes_25 fX6_takes_87
  simp only [hg, hc, if_true, gmax_within h1 h2, gB_some]
  by_cases h2 : v 2 r = 2
  · simp [h2]; split <;> rfl
  · by_cases h4 : v 2 r = 4
    · simp [h4]; split <;> rfl
    · by_cases h6 : v 2 r = 5
      · simp [h6]; split <;> rfl
      · simp [h2, h4, h6]
theorem mGives {v : gV} {r : Nat} (hr : r < 5) (h1 : 1 ≤ (v 4 r).toInt) (h2 : (v 4 r).toInt ≤ 9) : fX6_gives v (nI r) = some (mG (v 2) (v 4) (v 5) r (v 1 6), v) := by
  have hg : gin (nI r) 5 = true := gin_nI (by omega) (by decide)
  have hc : (nI r).toNatClampNeg = r := nI_clamp (by omega)
  unfold fX6_gives mG
  rw [mTakes hr h1 h2]
  simp only [hg, hc, if_true, gB_some]
  by_cases h3 : v 2 r = 3
  · have e : mT (v 2) (v 4) (v 5) r (v 1 6) = v 4 r := by simp [mT, h3]
    rw [if_pos h3, if_pos h3, e]
    split <;> rfl
  · rw [if_neg h3, if_neg h3]
    repeat' split
    all_goals first | rfl | contradiction
theorem mLends {v : gV} {r : Nat} (hr : r < 5) : fX6_lends v (nI r) = some (mL (v 2) (v 5) r, v) := by
  have hg : gin (nI r) 5 = true := gin_nI (by omega) (by decide)
  have hc : (nI r).toNatClampNeg = r := nI_clamp (by omega)
  unfold fX6_lends mL
  simp only [hg, hc, if_true]
  repeat' split
  all_goals first | rfl | contradiction
