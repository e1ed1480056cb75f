/-! moves, on both sides -/
/-- the rates are as told -/
def RI (K S T M : Nat → Int32) (n : Nat) : Prop := n ≤ 5 ∧ ∀ r, r < n → (0 ≤ (K r).toInt ∧ (K r).toInt ≤ 5) ∧ (1 ≤ (S r).toInt ∧ (S r).toInt ≤ 3) ∧ (1 ≤ (T r).toInt ∧ (T r).toInt ≤ 9) ∧ (0 ≤ (M r).toInt ∧ (M r).toInt ≤ 9)
/-- whether one can exchange at rate r -/
def mX (K S T M s : Nat → Int32) (r : Nat) : Bool := decide (mG K T M r (s 6) ≠ 0 ∧ s 0 + mG K T M r (s 6) ≤ 999 ∧ (¬ 0 < mT K T M r (s 6) - s (S r).toNatClampNeg ∨ (S r = 1 ∧ ¬ mL K M r - s 4 < mT K T M r (s 6) - s (S r).toNatClampNeg)))
theorem mG_012 (K T M : Nat → Int32) (r : Nat) (d : Int32) : mG K T M r d = 0 ∨ mG K T M r d = 1 ∨ mG K T M r d = 2 := by
  unfold mG
  repeat' split
  all_goals simp
theorem i32_0 : (0 : Int32).toInt = 0 := rfl
theorem i32_1 : (1 : Int32).toInt = 1 := rfl
theorem i32_3 : (3 : Int32).toInt = 3 := rfl
theorem S_rng {x : Int32} (h1 : 1 ≤ x.toInt) (h3 : x.toInt ≤ 3) : ¬ x < 1 ∧ x ≤ 3 ∧ gin x 7 = true ∧ x.toNatClampNeg < 4 ∧ 0 < x.toNatClampNeg := by
  refine ⟨?_, ?_, ?_, ?_, ?_⟩
  · rw [Int32.lt_iff_toInt_lt, i32_1]; omega
  · rw [Int32.le_iff_toInt_le, i32_3]; omega
  · exact decide_eq_true ⟨by omega, by omega⟩
  · show x.toInt.toNat < 4; omega
  · show 0 < x.toInt.toNat; omega
theorem cCanX {v : gV} {a n r : Nat} (hn : v 4 4 = nI n) (hI : RI (v 9) (v 10) (v 11) (v 12) n) (hr : r < n) : fX5_canExchange v a (nI r) = some (if mX (v 9) (v 10) (v 11) (v 12) (v a) r = true then 1 else 0, v) := by
  have h5 := hI.1
  obtain ⟨hK, hS, hT, hM⟩ := hI.2 r hr
  have hg : gin (nI r) 5 = true := gin_nI (by omega) (by decide)
  have hc : (nI r).toNatClampNeg = r := nI_clamp (by omega)
  obtain ⟨s1, s2, s3, s4, s5⟩ := S_rng hS.1 hS.2
  unfold fX5_canExchange mX
  simp only [cHas hn h5 hr, cGives hn h5 hr, cTakes hn h5 hr, cLends hn h5 hr, gB_some, hg, hc, if_true, s2, s3, if_neg s1]
  rw [if_neg (by decide)]
  by_cases h1 : mG (v 9) (v 11) (v 12) r (v a 6) = 0
  · simp [h1]
  by_cases h2 : v a 0 + mG (v 9) (v 11) (v 12) r (v a 6) ≤ 999
  · by_cases h3 : 0 < mT (v 9) (v 11) (v 12) r (v a 6) - v a (v 10 r).toNatClampNeg
    · by_cases h4 : v 10 r = 1
      · by_cases h6 : mL (v 9) (v 12) r - v a 4 < mT (v 9) (v 11) (v 12) r (v a 6) - v a (v 10 r).toNatClampNeg
        · rw [if_neg h1, if_pos h2, if_pos h3, if_pos h4, if_pos h6, if_neg]
          simp [h3, h6]
        · rw [if_neg h1, if_pos h2, if_pos h3, if_pos h4, if_neg h6, if_pos]
          exact decide_eq_true ⟨h1, h2, Or.inr ⟨h4, h6⟩⟩
      · rw [if_neg h1, if_pos h2, if_pos h3, if_neg h4, if_neg]
        simp [h3, h4]
    · rw [if_neg h1, if_pos h2, if_neg h3, if_pos]
      exact decide_eq_true ⟨h1, h2, Or.inl h3⟩
  · rw [if_neg h1, if_neg h2, if_neg]
    simp [h2]
theorem mCanX {v : gV} {n r : Nat} (hI : RI (v 2) (v 3) (v 4) (v 5) n) (hr : r < n) : fX6_canExchange v (nI r) = some (if (decide (¬ nI r = v 0 6) && mX (v 2) (v 3) (v 4) (v 5) (v 1) r) = true then 1 else 0, v) := by
  have h5 := hI.1
  obtain ⟨hK, hS, hT, hM⟩ := hI.2 r hr
  have hg : gin (nI r) 5 = true := gin_nI (by omega) (by decide)
  have hc : (nI r).toNatClampNeg = r := nI_clamp (by omega)
  obtain ⟨s1, s2, s3, s4, s5⟩ := S_rng hS.1 hS.2
  have hr5 : r < 5 := by omega
  unfold fX6_canExchange fX6_canExchange_48 fX6_canExchange_52 fX6_canExchange_53
  simp only [mTakes hr5 hT.1 hT.2, mGives hr5 hT.1 hT.2, mLends hr5, gB_some, hg, hc, if_true, s3]
  by_cases hb : nI r = v 0 6
  · simp [hb]
  simp only [if_neg hb, hb, not_false_eq_true, decide_true, Bool.true_and]
  have g012 := mG_012 (v 2) (v 4) (v 5) r (v 1 6)
  have hle : (mG (v 2) (v 4) (v 5) r (v 1 6) ≤ 0) = (mG (v 2) (v 4) (v 5) r (v 1 6) = 0) := by
    rcases g012 with h | h | h <;> rw [h] <;> decide
  have hgt : (999 < v 1 0 + mG (v 2) (v 4) (v 5) r (v 1 6)) = ¬ (v 1 0 + mG (v 2) (v 4) (v 5) r (v 1 6) ≤ 999) := propext Int32.not_le.symm
  have hlk : (mT (v 2) (v 4) (v 5) r (v 1 6) - v 1 (v 3 r).toNatClampNeg ≤ 0) = ¬ (0 < mT (v 2) (v 4) (v 5) r (v 1 6) - v 1 (v 3 r).toNatClampNeg) := propext Int32.not_lt.symm
  simp only [hle, hgt, hlk]
  unfold mX
  generalize mT (v 2) (v 4) (v 5) r (v 1 6) - v 1 (v 3 r).toNatClampNeg = lk
  generalize mL (v 2) (v 5) r - v 1 4 = ll
  generalize mG (v 2) (v 4) (v 5) r (v 1 6) = g
  by_cases h1 : g = 0
  · simp [h1]
  by_cases h2 : v 1 0 + g ≤ 999
  · by_cases h3 : 0 < lk
    · by_cases h4 : v 3 r = 1
      · by_cases h6 : ll < lk
        · simp [h1, h2, h3, h4, h6]
        · simp [h1, h2, h3, h4, h6]
      · simp [h1, h2, h3, h4]
    · simp [h1, h2, h3]
  · simp [h1, h2]
/-- what drinking does to a row, when c empties come -/
def mDr (c : Int32) (s : Nat → Int32) : Nat → Int32 := upd (upd (upd (upd (upd (upd s 0 (s 0 - 1)) 5 (s 5 + 1)) 4 (s 4 - gmin c (s 4))) 1 (gmin 999 (s 1 + c - gmin c (s 4)))) 2 (gmin 999 (s 2 + 1))) 3 (gmin 999 (s 3 + 1))
/-- what an exchange at rate r does -/
def mE (K S T M : Nat → Int32) (r : Nat) (s : Nat → Int32) : Nat → Int32 :=
  upd (upd (upd s (S r).toNatClampNeg (s (S r).toNatClampNeg - gmin (mT K T M r (s 6)) (s (S r).toNatClampNeg))) 4 (s 4 + (mT K T M r (s 6) - gmin (mT K T M r (s 6)) (s (S r).toNatClampNeg)))) 0 (s 0 + mG K T M r (s 6))
theorem up1_def {v : gV} {i k : Nat} {x : Int32} : up1 v i k x = up2 v i (upd (v i) k x) := rfl
theorem up2_up2 {v : gV} {i : Nat} {f g : Nat → Int32} : up2 (up2 v i f) i g = up2 v i g := by
  funext j
  by_cases h : j = i <;> simp [up2, h]
theorem cDrink {v : gV} {a : Nat} {c : Int32} : fX5_drink v a c = some ((), up2 v a (mDr c (v a))) := by
  unfold fX5_drink mDr
  simp only [up1_def, up2_eq, up2_up2]
  rfl
theorem upd_eq {f : Nat → Int32} {k : Nat} {x : Int32} : upd f k x k = x := by simp [upd]
theorem upd_ne {f : Nat → Int32} {j k : Nat} {x : Int32} (h : j ≠ k) : upd f k x j = f j := by simp [upd, h]
theorem upd_comm {f : Nat → Int32} {j k : Nat} {x y : Int32} (h : j ≠ k) : upd (upd f j x) k y = upd (upd f k y) j x := by
  funext i
  by_cases h1 : i = j
  · subst h1
    simp [upd, h]
  · by_cases h2 : i = k
    · simp [upd, h2, Ne.symm h]
    · simp [upd, h1, h2]
theorem cExch {v : gV} {a n r : Nat} (hn : v 4 4 = nI n) (hI : RI (v 9) (v 10) (v 11) (v 12) n) (hr : r < n) (ha : a ≠ 4 ∧ a ≠ 9 ∧ a ≠ 10 ∧ a ≠ 11 ∧ a ≠ 12) : fX5_exchange v a (nI r) = some ((), up2 v a (mE (v 9) (v 10) (v 11) (v 12) r (v a))) := by
  have h5 := hI.1
  obtain ⟨hK, hS, hT, hM⟩ := hI.2 r hr
  have hg : gin (nI r) 5 = true := gin_nI (by omega) (by decide)
  have hc : (nI r).toNatClampNeg = r := nI_clamp (by omega)
  obtain ⟨s1, s2, s3, s4, s5⟩ := S_rng hS.1 hS.2
  obtain ⟨a4, a9, a10, a11, a12⟩ := ha
  unfold fX5_exchange
  simp only [cHas hn h5 hr, cTakes hn h5 hr, gB_some, hg, hc, if_true, s2, s3, if_neg s1]
  rw [if_neg (by decide)]
  simp only [up1_def, up2_eq, up2_up2]
  generalize hf : upd (upd (v a) (v 10 r).toNatClampNeg _) 4 _ = f
  have hn' : (up2 v a f) 4 4 = nI n := by rw [up2_ne (Ne.symm a4)]; exact hn
  rw [cGives hn' h5 hr]
  simp only [gB_some, up2_eq, up2_up2, up2_ne (Ne.symm a9), up2_ne (Ne.symm a11), up2_ne (Ne.symm a12)]
  have e4 : f 4 = v a 4 + (mT (v 9) (v 11) (v 12) r (v a 6) - gmin (mT (v 9) (v 11) (v 12) r (v a 6)) (v a (v 10 r).toNatClampNeg)) := by
    rw [← hf, upd_eq, upd_ne (by omega)]
  have e6 : f 6 = v a 6 := by rw [← hf, upd_ne (by decide), upd_ne (by omega)]
  have e0 : f 0 = v a 0 := by rw [← hf, upd_ne (by decide), upd_ne (by omega)]
  rw [e6, e0]
  unfold mE
  rw [← hf, upd_ne (f := v a) (j := 4) (by omega)]
/-- beyond its seven places a row holds nothing -/
def Z7 (s : Nat → Int32) : Prop := ∀ k, 7 ≤ k → s k = 0
/-- 0 .. 999 each, owes and day as told -/
def Rw (s : Nat → Int32) : Prop := (∀ k, k < 4 → 0 ≤ (s k).toInt ∧ (s k).toInt ≤ 999) ∧ (0 ≤ (s 4).toInt ∧ (s 4).toInt ≤ 99) ∧ (0 ≤ (s 5).toInt ∧ (s 5).toInt ≤ 999) ∧ (0 ≤ (s 6).toInt ∧ (s 6).toInt ≤ 112) ∧ Z7 s
theorem i32_add {x y : Int32} (h1 : -2147483648 ≤ x.toInt + y.toInt) (h2 : x.toInt + y.toInt ≤ 2147483647) : (x + y).toInt = x.toInt + y.toInt := by
  rw [Int32.toInt_add]
  exact Int.bmod_eq_of_le (by omega) (by omega)
theorem i32_sub {x y : Int32} (h1 : -2147483648 ≤ x.toInt - y.toInt) (h2 : x.toInt - y.toInt ≤ 2147483647) : (x - y).toInt = x.toInt - y.toInt := by
  rw [Int32.toInt_sub]
  exact Int.bmod_eq_of_le (by omega) (by omega)
theorem gmin_toInt (x y : Int32) : (gmin x y).toInt = if y.toInt < x.toInt then y.toInt else x.toInt := by
  unfold gmin
  simp only [Int32.lt_iff_toInt_lt]
  split <;> rfl
theorem gmax_toInt (x y : Int32) : (gmax x y).toInt = if x.toInt < y.toInt then y.toInt else x.toInt := by
  unfold gmax
  simp only [Int32.lt_iff_toInt_lt]
  split <;> rfl
theorem i32_999 : (999 : Int32).toInt = 999 := rfl
theorem i32_2 : (2 : Int32).toInt = 2 := rfl
/-- within 0 .. 999, of what isn't below 0 -/
theorem mWithin {v : gV} {x : Int32} (h : 0 ≤ x.toInt) : fX6_within v x 0 999 = some (gmin 999 x, v) := by
  unfold fX6_within gmin
  simp only [Int32.le_iff_toInt_le, Int32.lt_iff_toInt_lt, i32_0, i32_999]
  rw [if_pos h]
  by_cases h2 : x.toInt ≤ 999
  · rw [if_pos h2]
    by_cases h3 : x.toInt < 999
    · rw [if_pos h3]
    · have : x = 999 := Int32.toInt_inj.mp (by rw [i32_999]; omega)
      rw [if_neg h3, this]
  · rw [if_neg h2, if_neg (by omega)]
theorem mDrinks26 {v : gV} {c b : Int32} (hs : Rw (v 1)) (hc : 0 ≤ c.toInt ∧ c.toInt ≤ 3) (hb : b = gmin c (v 1 4)) : fX6_drinks_26 v c b = some ((), up2 v 1 (mDr c (v 1))) := by
  subst hb
  obtain ⟨h03, h4, h5, h6⟩ := hs
  have h1 := h03 1 (by decide)
  have h2 := h03 2 (by decide)
  have h3 := h03 3 (by decide)
  have gm := gmin_toInt c (v 1 4)
  have a1 : (v 1 1 + c).toInt = (v 1 1).toInt + c.toInt := i32_add (by omega) (by omega)
  have a2 : (v 1 1 + c - gmin c (v 1 4)).toInt = (v 1 1).toInt + c.toInt - (gmin c (v 1 4)).toInt := by
    rw [i32_sub, a1] <;> (rw [a1, gm]; split <;> omega)
  have a3 : (v 1 2 + 1).toInt = (v 1 2).toInt + 1 := i32_add (by rw [i32_1]; omega) (by rw [i32_1]; omega)
  have a4 : (v 1 3 + 1).toInt = (v 1 3).toInt + 1 := i32_add (by rw [i32_1]; omega) (by rw [i32_1]; omega)
  unfold fX6_drinks_26
  simp only [up1_def, up2_eq, up2_up2]
  rw [show upd (upd (upd (v 1) 0 (v 1 0 - 1)) 5 (upd (v 1) 0 (v 1 0 - 1) 5 + 1)) 4 (upd (upd (v 1) 0 (v 1 0 - 1)) 5 (upd (v 1) 0 (v 1 0 - 1) 5 + 1) 4 - gmin c (v 1 4)) 1 = v 1 1 from rfl, mWithin (by rw [a2, gm]; split <;> omega)]
  simp only [gB_some, up2_eq, up2_up2]
  rw [show ∀ (f : Nat → Int32) (x : Int32), upd (upd (upd (upd f 0 (f 0 - 1)) 5 (upd f 0 (f 0 - 1) 5 + 1)) 4 (upd (upd f 0 (f 0 - 1)) 5 (upd f 0 (f 0 - 1) 5 + 1) 4 - gmin c (v 1 4))) 1 x 2 = f 2 from fun _ _ => rfl, mWithin (by rw [a3]; omega)]
  simp only [gB_some, up2_eq, up2_up2]
  rw [show ∀ (f : Nat → Int32) (x y : Int32), upd (upd (upd (upd (upd f 0 (f 0 - 1)) 5 (upd f 0 (f 0 - 1) 5 + 1)) 4 (upd (upd f 0 (f 0 - 1)) 5 (upd f 0 (f 0 - 1) 5 + 1) 4 - gmin c (v 1 4))) 1 x) 2 y 3 = f 3 from fun _ _ _ => rfl, mWithin (by rw [a4]; omega), gB_some]
  simp only [up2_eq, up2_up2]
  rfl
theorem mDrinks {u u2 : gV} {c : Int32} (hq : fX6_asksOf u 0 = some (c, u2)) (h1 : u2 1 = u 1) (hs : Rw (u 1)) (hc : 0 ≤ c.toInt ∧ c.toInt ≤ 3) : fX6_drinks u = some ((), up2 u2 1 (mDr c (u 1))) := by
  unfold fX6_drinks
  rw [hq, gB_some, h1]
  have hs2 : Rw (u2 1) := by rw [h1]; exact hs
  by_cases h : u 1 4 ≤ c
  · rw [if_pos h, mDrinks26 hs2 hc ?_, h1]
    unfold gmin
    rw [h1]
    by_cases h2 : u 1 4 < c
    · rw [if_pos h2]
    · rw [if_neg h2]
      rw [Int32.le_iff_toInt_le] at h
      rw [Int32.lt_iff_toInt_lt] at h2
      exact Int32.toInt_inj.mp (by omega)
  · rw [if_neg h, mDrinks26 hs2 hc ?_, h1]
    unfold gmin
    rw [h1, if_neg]
    intro h2
    rw [Int32.le_iff_toInt_le] at h
    rw [Int32.lt_iff_toInt_lt] at h2
    omega
theorem mExch {v : gV} {n r : Nat} (hI : RI (v 2) (v 3) (v 4) (v 5) n) (hr : r < n) : fX6_exchanges v (nI r) = some ((), up2 v 1 (mE (v 2) (v 3) (v 4) (v 5) r (v 1))) := by
  have h5 := hI.1
  obtain ⟨hK, hS, hT, hM⟩ := hI.2 r hr
  have hg : gin (nI r) 5 = true := gin_nI (by omega) (by decide)
  have hc : (nI r).toNatClampNeg = r := nI_clamp (by omega)
  obtain ⟨s1, s2, s3, s4, s5⟩ := S_rng hS.1 hS.2
  have hr5 : r < 5 := by omega
  unfold fX6_exchanges fX6_exchanges_36
  simp only [mTakes hr5 hT.1 hT.2, mGives hr5 hT.1 hT.2, gB_some, hg, hc, if_true, s3, up1_def, up2_eq, up2_up2, up2_ne (show 3 ≠ 1 by decide)]
  have key : ∀ b : Int32, b = gmin (mT (v 2) (v 4) (v 5) r (v 1 6)) (v 1 (v 3 r).toNatClampNeg) → upd (upd (upd (v 1) 4 (v 1 4 + (mT (v 2) (v 4) (v 5) r (v 1 6) - b))) (v 3 r).toNatClampNeg (upd (v 1) 4 (v 1 4 + (mT (v 2) (v 4) (v 5) r (v 1 6) - b)) (v 3 r).toNatClampNeg - b)) 0 (upd (upd (v 1) 4 (v 1 4 + (mT (v 2) (v 4) (v 5) r (v 1 6) - b))) (v 3 r).toNatClampNeg (upd (v 1) 4 (v 1 4 + (mT (v 2) (v 4) (v 5) r (v 1 6) - b)) (v 3 r).toNatClampNeg - b) 0 + mG (v 2) (v 4) (v 5) r (v 1 6)) = mE (v 2) (v 3) (v 4) (v 5) r (v 1) := by
    intro b hb
    have n4 : (v 3 r).toNatClampNeg ≠ 4 := by omega
    have n0 : (0 : Nat) ≠ (v 3 r).toNatClampNeg := by omega
    unfold mE
    rw [upd_ne n4, upd_ne n0, upd_ne (show (0 : Nat) ≠ 4 by decide), upd_comm (Ne.symm n4), ← hb]
  by_cases h : mT (v 2) (v 4) (v 5) r (v 1 6) ≤ v 1 (v 3 r).toNatClampNeg
  · rw [if_pos h, key]
    unfold gmin
    rw [if_neg (Int32.not_lt.mpr h)]
  · rw [if_neg h, key]
    unfold gmin
    rw [if_pos (Int32.not_le.mp h)]
