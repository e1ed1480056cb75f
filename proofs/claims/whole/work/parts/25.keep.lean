/-! moves keep the bounds of a row -/
def mMk (K S T M : Nat → Int32) (L : (Nat → Int32) → Int32) (m : Nat) (s : Nat → Int32) : Nat → Int32 := if m = 0 then mDr (L s) s else mE K S T M (m - 1) s
/-- the first of j, j + 1 .. (f of them) with p -/
def mFd (p : Nat → Bool) : Nat → Nat → Option Nat
  | 0, _ => none
  | f + 1, j => if p j = true then some j else mFd p f (j + 1)
def mPk (K S T M : Nat → Int32) (w : Int32) (n : Nat) (s : Nat → Int32) : Option Nat :=
  if 0 < s 0 ∧ s 5 < 999 then some 0 else (mFd (fun r => decide (¬ nI r = w) && mX K S T M s r) n 0).map (fun r => r + 1)
def encO : Option Nat → Int32
  | none => -1
  | some m => nI m
theorem mFd_some {p : Nat → Bool} : ∀ (f j r : Nat), mFd p f j = some r → (j ≤ r ∧ r < j + f) ∧ p r = true := by
  intro f
  induction f with
  | zero => intro j r h; cases h
  | succ f ih =>
    intro j r h
    unfold mFd at h
    by_cases hp : p j = true
    · rw [if_pos hp] at h
      cases h
      exact ⟨⟨Nat.le_refl _, by omega⟩, hp⟩
    · rw [if_neg hp] at h
      obtain ⟨⟨a, b⟩, c⟩ := ih (j + 1) r h
      exact ⟨⟨by omega, by omega⟩, c⟩
/-- what can be picked: to drink, or an exchange that can be -/
theorem mPk_some {K S T M : Nat → Int32} {w : Int32} {n m : Nat} {s : Nat → Int32} (h : mPk K S T M w n s = some m) : (m = 0 ∧ 0 < s 0 ∧ s 5 < 999) ∨ ∃ r, m = r + 1 ∧ r < n ∧ mX K S T M s r = true := by
  unfold mPk at h
  by_cases h0 : 0 < s 0 ∧ s 5 < 999
  · rw [if_pos h0] at h
    cases h
    exact Or.inl ⟨rfl, h0⟩
  · rw [if_neg h0] at h
    cases hf : mFd (fun r => decide (¬ nI r = w) && mX K S T M s r) n 0 with
    | none => rw [hf] at h; cases h
    | some r =>
      rw [hf] at h
      cases h
      obtain ⟨⟨-, h2⟩, h3⟩ := mFd_some _ _ _ hf
      exact Or.inr ⟨r, rfl, by omega, (Bool.and_eq_true _ _ ▸ h3).2⟩
theorem i32_18 {x y : Int32} (h1 : 1 ≤ x.toInt ∧ x.toInt ≤ 9) (h2 : 0 ≤ y.toInt ∧ y.toInt ≤ 9) : (x + y).toInt = x.toInt + y.toInt := i32_add (by omega) (by omega)
theorem mT_rng {K S T M : Nat → Int32} {n r : Nat} (hI : RI K S T M n) (hr : r < n) (d : Int32) : 1 ≤ (mT K T M r d).toInt ∧ (mT K T M r d).toInt ≤ 18 := by
  obtain ⟨hK, hS, hT, hM⟩ := hI.2 r hr
  have e := i32_18 hT hM
  have e1 : (T r - 1).toInt = (T r).toInt - 1 := i32_sub (by rw [i32_1]; omega) (by rw [i32_1]; omega)
  have e2 := gmax_toInt 1 (T r - 1)
  rw [e1, i32_1] at e2
  unfold mT
  split
  · split
    · rw [e]; omega
    · omega
  · split
    · split
      · omega
      · rw [e2]; split <;> omega
    · omega
theorem mL_rng {K S T M : Nat → Int32} {n r : Nat} (hI : RI K S T M n) (hr : r < n) : 0 ≤ (mL K M r).toInt ∧ (mL K M r).toInt ≤ 10 := by
  obtain ⟨hK, hS, hT, hM⟩ := hI.2 r hr
  have e : (1 + M r).toInt = 1 + (M r).toInt := i32_add (by rw [i32_1]; omega) (by rw [i32_1]; omega)
  unfold mL
  split
  · rw [i32_1]; omega
  · split
    · rw [e]; omega
    · rw [i32_0]; omega
theorem Rw_dr {s : Nat → Int32} {c : Int32} (hs : Rw s) (hc : 0 ≤ c.toInt ∧ c.toInt ≤ 3) (h0 : 0 < s 0) (h5 : s 5 < 999) : Rw (mDr c s) := by
  obtain ⟨h03, h4, h5', h6⟩ := hs
  have a0 := h03 0 (by decide)
  have a1 := h03 1 (by decide)
  have a2 := h03 2 (by decide)
  have a3 := h03 3 (by decide)
  rw [Int32.lt_iff_toInt_lt, i32_0] at h0
  rw [Int32.lt_iff_toInt_lt, i32_999] at h5
  have gm := gmin_toInt c (s 4)
  have e0 : (s 0 - 1).toInt = (s 0).toInt - 1 := i32_sub (by rw [i32_1]; omega) (by rw [i32_1]; omega)
  have e5 : (s 5 + 1).toInt = (s 5).toInt + 1 := i32_add (by rw [i32_1]; omega) (by rw [i32_1]; omega)
  have e2 : (s 2 + 1).toInt = (s 2).toInt + 1 := i32_add (by rw [i32_1]; omega) (by rw [i32_1]; omega)
  have e3 : (s 3 + 1).toInt = (s 3).toInt + 1 := i32_add (by rw [i32_1]; omega) (by rw [i32_1]; omega)
  have e1 : (s 1 + c).toInt = (s 1).toInt + c.toInt := i32_add (by omega) (by omega)
  have e4 : (s 4 - gmin c (s 4)).toInt = (s 4).toInt - (gmin c (s 4)).toInt := by
    apply i32_sub <;> (rw [gm]; split <;> omega)
  have e1' : (s 1 + c - gmin c (s 4)).toInt = (s 1).toInt + c.toInt - (gmin c (s 4)).toInt := by
    rw [i32_sub, e1] <;> (rw [e1, gm]; split <;> omega)
  have g1 := gmin_toInt 999 (s 1 + c - gmin c (s 4))
  have g2 := gmin_toInt 999 (s 2 + 1)
  have g3 := gmin_toInt 999 (s 3 + 1)
  rw [e1', gm, i32_999] at g1
  rw [e2, i32_999] at g2
  rw [e3, i32_999] at g3
  rw [gm] at e4
  refine ⟨fun k hk => ?_, ?_, ?_, ?_⟩
  · match k, hk with
    | 0, _ =>
      show 0 ≤ (s 0 - 1).toInt ∧ (s 0 - 1).toInt ≤ 999
      omega
    | 1, _ =>
      show 0 ≤ (gmin 999 (s 1 + c - gmin c (s 4))).toInt ∧ (gmin 999 (s 1 + c - gmin c (s 4))).toInt ≤ 999
      rw [g1]
      constructor <;> (split <;> split at g1 <;> omega)
    | 2, _ =>
      show 0 ≤ (gmin 999 (s 2 + 1)).toInt ∧ (gmin 999 (s 2 + 1)).toInt ≤ 999
      rw [g2]
      split <;> omega
    | 3, _ =>
      show 0 ≤ (gmin 999 (s 3 + 1)).toInt ∧ (gmin 999 (s 3 + 1)).toInt ≤ 999
      rw [g3]
      split <;> omega
  · show 0 ≤ (s 4 - gmin c (s 4)).toInt ∧ (s 4 - gmin c (s 4)).toInt ≤ 99
    rw [e4]
    split <;> omega
  · show 0 ≤ (s 5 + 1).toInt ∧ (s 5 + 1).toInt ≤ 999
    omega
  · refine ⟨h6.1, fun k hk => ?_⟩
    unfold mDr
    rw [upd_ne (by omega), upd_ne (by omega), upd_ne (by omega), upd_ne (by omega), upd_ne (by omega), upd_ne (by omega)]
    exact h6.2 k hk
theorem Rw_ex {K S T M s : Nat → Int32} {n r : Nat} (hI : RI K S T M n) (hr : r < n) (hs : Rw s) (hX : mX K S T M s r = true) : Rw (mE K S T M r s) := by
  obtain ⟨hK, hS, hT, hM⟩ := hI.2 r hr
  obtain ⟨s1, s2, s3, s4, s5⟩ := S_rng hS.1 hS.2
  obtain ⟨h03, h4, h5, h6⟩ := hs
  have tr := mT_rng hI hr (s 6)
  have lr := mL_rng hI hr
  obtain ⟨x1, x2, x3⟩ := of_decide_eq_true hX
  have a0 := h03 0 (by decide)
  have as := h03 (S r).toNatClampNeg (by omega)
  have gm := gmin_toInt (mT K T M r (s 6)) (s (S r).toNatClampNeg)
  rw [Int32.lt_iff_toInt_lt, i32_0] at x3
  have el : (mT K T M r (s 6) - s (S r).toNatClampNeg).toInt = (mT K T M r (s 6)).toInt - (s (S r).toNatClampNeg).toInt := i32_sub (by omega) (by omega)
  have ell : (mL K M r - s 4).toInt = (mL K M r).toInt - (s 4).toInt := i32_sub (by omega) (by omega)
  rw [Int32.lt_iff_toInt_lt, el, ell] at x3
  have g := mG_012 K T M r (s 6)
  have gr : 0 ≤ (mG K T M r (s 6)).toInt ∧ (mG K T M r (s 6)).toInt ≤ 2 := by
    rcases g with h | h | h <;> rw [h] <;> decide
  have e0 : (s 0 + mG K T M r (s 6)).toInt = (s 0).toInt + (mG K T M r (s 6)).toInt := i32_add (by omega) (by omega)
  rw [Int32.le_iff_toInt_le, e0, i32_999] at x2
  have es : (s (S r).toNatClampNeg - gmin (mT K T M r (s 6)) (s (S r).toNatClampNeg)).toInt = (s (S r).toNatClampNeg).toInt - (gmin (mT K T M r (s 6)) (s (S r).toNatClampNeg)).toInt := by
    apply i32_sub <;> (rw [gm]; split <;> omega)
  have et : (mT K T M r (s 6) - gmin (mT K T M r (s 6)) (s (S r).toNatClampNeg)).toInt = (mT K T M r (s 6)).toInt - (gmin (mT K T M r (s 6)) (s (S r).toNatClampNeg)).toInt := by
    apply i32_sub <;> (rw [gm]; split <;> omega)
  have e4 : (s 4 + (mT K T M r (s 6) - gmin (mT K T M r (s 6)) (s (S r).toNatClampNeg))).toInt = (s 4).toInt + ((mT K T M r (s 6)).toInt - (gmin (mT K T M r (s 6)) (s (S r).toNatClampNeg)).toInt) := by
    rw [i32_add, et] <;> (rw [et, gm]; split <;> omega)
  have n4 : (S r).toNatClampNeg ≠ 4 := by omega
  have n0 : (S r).toNatClampNeg ≠ 0 := by omega
  unfold mE
  refine ⟨fun k hk => ?_, ?_, ?_, ?_⟩
  · by_cases k0 : k = 0
    · subst k0
      rw [upd_eq, e0]
      omega
    · rw [upd_ne k0, upd_ne (show k ≠ 4 by omega)]
      by_cases ks : k = (S r).toNatClampNeg
      · rw [ks, upd_eq, es, gm]
        split <;> omega
      · rw [upd_ne ks]
        exact h03 k hk
  · rw [upd_ne (by decide), upd_eq, e4, gm]
    split <;> omega
  · rw [upd_ne (by decide), upd_ne (by decide), upd_ne (by omega)]
    exact h5
  · refine ⟨?_, fun k hk => ?_⟩
    · rw [upd_ne (by decide), upd_ne (by decide), upd_ne (by omega)]
      exact h6.1
    · rw [upd_ne (by omega), upd_ne (by omega), upd_ne (by omega)]
      exact h6.2 k hk
theorem Rw_mk {K S T M s : Nat → Int32} {w : Int32} {n m : Nat} {L : (Nat → Int32) → Int32} (hI : RI K S T M n) (hs : Rw s) (hL : 0 ≤ (L s).toInt ∧ (L s).toInt ≤ 3) (h : mPk K S T M w n s = some m) : Rw (mMk K S T M L m s) := by
  unfold mMk
  rcases mPk_some h with ⟨rfl, h0, h5⟩ | ⟨r, rfl, hr, hX⟩
  · rw [if_pos rfl]
    exact Rw_dr hs hL h0 h5
  · rw [if_neg (by omega), Nat.add_sub_cancel]
    exact Rw_ex hI hr hs hX
