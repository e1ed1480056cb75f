/-! greedily, on both sides -/
/-- n moves at most: how many, and how one stands then -/
def mRun (K S T M : Nat → Int32) (w : Int32) (n : Nat) (L : (Nat → Int32) → Int32) : Nat → (Nat → Int32) → Nat × (Nat → Int32)
  | 0, s => (0, s)
  | k + 1, s => match mPk K S T M w n s with
    | none => (0, s)
    | some m => ((mRun K S T M w n L k (mMk K S T M L m s)).1 + 1, (mRun K S T M w n L k (mMk K S T M L m s)).2)
theorem mRun_none {K S T M s : Nat → Int32} {w : Int32} {n k : Nat} {L : (Nat → Int32) → Int32} (h : mPk K S T M w n s = none) : mRun K S T M w n L k s = (0, s) := by
  cases k with
  | zero => rfl
  | succ k => unfold mRun; rw [h]
theorem mRun_some {K S T M s : Nat → Int32} {w : Int32} {n k m : Nat} {L : (Nat → Int32) → Int32} (h : mPk K S T M w n s = some m) : mRun K S T M w n L (k + 1) s = ((mRun K S T M w n L k (mMk K S T M L m s)).1 + 1, (mRun K S T M w n L k (mMk K S T M L m s)).2) := by
  rw [mRun, h]
theorem mRun_le {K S T M : Nat → Int32} {w : Int32} {n : Nat} {L : (Nat → Int32) → Int32} : ∀ (k : Nat) (s : Nat → Int32), (mRun K S T M w n L k s).1 ≤ k := by
  intro k
  induction k with
  | zero => intro s; exact Nat.le_refl 0
  | succ k ih =>
    intro s
    cases h : mPk K S T M w n s with
    | none => rw [mRun_none h]; exact Nat.zero_le _
    | some m =>
      rw [mRun_some h]
      have := ih (mMk K S T M L m s)
      show _ + 1 ≤ k + 1
      omega
theorem Rw_run {K S T M : Nat → Int32} {w : Int32} {n : Nat} {L : (Nat → Int32) → Int32} (hI : RI K S T M n) (hL : ∀ s, 0 ≤ (L s).toInt ∧ (L s).toInt ≤ 3) : ∀ (k : Nat) (s : Nat → Int32), Rw s → Rw (mRun K S T M w n L k s).2 := by
  intro k
  induction k with
  | zero => intro s h; exact h
  | succ k ih =>
    intro s hs
    cases h : mPk K S T M w n s with
    | none => rw [mRun_none h]; exact hs
    | some m =>
      rw [mRun_some h]
      exact ih _ (Rw_mk hI hs (hL s) h)
theorem up2_comm {v : gV} {i j : Nat} {f g : Nat → Int32} (h : i ≠ j) : up2 (up2 v i f) j g = up2 (up2 v j g) i f := by
  funext q
  by_cases h1 : q = i
  · subst h1
    rw [up2_eq, up2_ne h, up2_eq]
  · by_cases h2 : q = j
    · subst h2
      rw [up2_eq, up2_ne h1, up2_eq]
    · rw [up2_ne h2, up2_ne h1, up2_ne h1, up2_ne h2]
/-- the class's world: rates, and nt texts -/
def cBase (v : gV) (n nt : Nat) (tc tb : Nat → Nat → Nat) : Prop := v 4 4 = nI n ∧ RI (v 9) (v 10) (v 11) (v 12) n ∧ nt ≤ 6 ∧ ∀ t, t < nt → wTX (tc t) (tb t) ∧ cTX v t (tc t) (tb t)
/-- the cells that thought may change -/
def okc (j : Nat) : Prop := j = 49 ∨ j = 1 ∨ j = 2 ∨ (20 ≤ j ∧ j ≤ 26)
theorem cBase_up2 {v : gV} {n nt j : Nat} {tc tb : Nat → Nat → Nat} {f : Nat → Int32} (h : cBase v n nt tc tb) (hj : okc j) : cBase (up2 v j f) n nt tc tb := by
  obtain ⟨h1, h2, h3, h4⟩ := h
  unfold okc at hj
  refine ⟨by rw [up2_ne (by omega)]; exact h1, by rw [up2_ne (by omega), up2_ne (by omega), up2_ne (by omega), up2_ne (by omega)]; exact h2, h3, fun t ht => ⟨(h4 t ht).1, ?_, ?_⟩⟩
  · intro k hk
    rw [up2_ne (by omega)]
    exact (h4 t ht).2.1 k hk
  · intro i hi
    rw [up2_ne (by omega)]
    exact (h4 t ht).2.2 i hi
def rowc (a : Nat) : Prop := a = 1 ∨ a = 2 ∨ (20 ≤ a ∧ a ≤ 26)
theorem rowc_ok {a : Nat} (h : rowc a) : okc a := Or.inr h
theorem rowc_49 {a : Nat} (h : rowc a) : a ≠ 49 := by unfold rowc at h; omega
theorem cMake {v : gV} {a n nt m t : Nat} {tc tb : Nat → Nat → Nat} (hB : cBase v n nt tc tb) (ha : rowc a) (hm : m ≤ n) (ht : t < nt) : ∃ f, fX5_make v a (nI m) (nI t) = some ((), up2 (up2 v 49 f) a (mMk (v 9) (v 10) (v 11) (v 12) (LW (tc t) (tb t) 0) m (v a))) := by
  obtain ⟨h1, h2, h3, h4⟩ := hB
  have n5 := h2.1
  unfold fX5_make mMk
  by_cases h0 : m = 0
  · subst h0
    obtain ⟨f, hf⟩ := cSays (v := v) (a := a) (k := 0) (show t < 6 by omega) (by decide) (rowc_49 ha) (h4 t ht).1 (h4 t ht).2
    refine ⟨f, ?_⟩
    rw [if_pos (show nI 0 = 0 from rfl), show (0 : Int32) = nI 0 from rfl, hf, gB_some, cDrink, gB_some, up2_ne (rowc_49 ha), if_pos rfl]
  · obtain ⟨r, rfl⟩ : ∃ r, m = r + 1 := ⟨m - 1, by omega⟩
    refine ⟨v 49, ?_⟩
    unfold rowc at ha
    rw [if_neg (nI_ne0 (by omega) (by omega)), nI_pred, cExch h1 h2 (show r < n by omega) (by omega), gB_some, up2_self, if_neg h0, Nat.add_sub_cancel]
theorem cPickL {v : gV} {a n : Nat} {w : Int32} (hn : v 4 4 = nI n) (hI : RI (v 9) (v 10) (v 11) (v 12) n) : ∀ (k j fuel : Nat), k < fuel → j + k = n → fX5_pick_11 fuel v a w (nI j) = some (encO ((mFd (fun r => decide (¬ nI r = w) && mX (v 9) (v 10) (v 11) (v 12) (v a) r) k j).map (fun r => r + 1)), v) := by
  have n5 := hI.1
  intro k
  induction k with
  | zero =>
    intro j fuel hf hj
    obtain ⟨q, rfl⟩ : ∃ q, fuel = q + 1 := ⟨fuel - 1, by omega⟩
    rw [fX5_pick_11, hn, if_pos (nI_le (by omega) (by omega))]
    rfl
  | succ k ih =>
    intro j fuel hf hj
    obtain ⟨q, rfl⟩ : ∃ q, fuel = q + 1 := ⟨fuel - 1, by omega⟩
    rw [fX5_pick_11, hn, if_neg (nI_ge (by omega) (by omega))]
    unfold mFd fX5_pick_40
    by_cases hw : nI j = w
    · rw [if_pos hw, nI_1, ih (j + 1) q (by omega) (by omega), if_neg (by simp [hw])]
    · rw [if_neg hw, cCanX hn hI (by omega), gB_some]
      by_cases hx : mX (v 9) (v 10) (v 11) (v 12) (v a) j = true
      · rw [if_pos hx, if_neg (by decide), if_pos (by simp [hw, hx]), nI_1]
        rfl
      · rw [if_neg hx, if_pos rfl, nI_1, ih (j + 1) q (by omega) (by omega), if_neg (by simp [hx])]
theorem cCanDrink {v : gV} {a : Nat} : fX5_canDrink v a = some (if 0 < v a 0 ∧ v a 5 < 999 then 1 else 0, v) := by
  unfold fX5_canDrink
  by_cases h1 : v a 0 ≤ 0
  · rw [if_pos h1, if_neg (fun z => absurd h1 (Int32.not_le.mpr z.1))]
  · rw [if_neg h1]
    by_cases h2 : 999 ≤ v a 5
    · rw [if_pos h2, if_neg (fun z => absurd h2 (Int32.not_le.mpr z.2))]
    · rw [if_neg h2, if_pos ⟨Int32.not_le.mp h1, Int32.not_le.mp h2⟩]
theorem cPick {v : gV} {a n : Nat} {w : Int32} (hn : v 4 4 = nI n) (hI : RI (v 9) (v 10) (v 11) (v 12) n) : fX5_pick v a w = some (encO (mPk (v 9) (v 10) (v 11) (v 12) w n (v a)), v) := by
  have n5 := hI.1
  unfold fX5_pick mPk
  rw [cCanDrink, gB_some]
  by_cases h : 0 < v a 0 ∧ v a 5 < 999
  · rw [if_pos h, if_neg (by decide), if_pos h]
    rfl
  · rw [if_neg h, if_pos rfl, if_neg h]
    exact cPickL hn hI n 0 2000 (by omega) (by omega)
theorem encO_none {o : Option Nat} (h : o = none) : encO o = -1 := by rw [h]; rfl
theorem nI_nm1 {m : Nat} (h : m < 2 ^ 31) : ¬ nI m = -1 := by
  intro e
  have h1 := nI_toInt h
  rw [e] at h1
  have h2 : (-1 : Int32).toInt = -1 := rfl
  omega
theorem mPk_le {K S T M : Nat → Int32} {w : Int32} {n m : Nat} {s : Nat → Int32} (h : mPk K S T M w n s = some m) : m ≤ n := by
  rcases mPk_some h with ⟨rfl, -⟩ | ⟨r, rfl, hr, -⟩ <;> omega
theorem cRunL {a n nt t N : Nat} {w : Int32} {tc tb : Nat → Nat → Nat} (ha : rowc a) (ht : t < nt) (hN : N ≤ 200) {K S T M : Nat → Int32} : ∀ (k i fuel : Nat) (v : gV), cBase v n nt tc tb → v 9 = K → v 10 = S → v 11 = T → v 12 = M → k < fuel → i + k = N →
    ∃ f, fX5_runGreedily_3 fuel v a (nI N) w (nI t) (nI i) = some (nI (i + (mRun K S T M w n (LW (tc t) (tb t) 0) k (v a)).1), up2 (up2 v 49 f) a (mRun K S T M w n (LW (tc t) (tb t) 0) k (v a)).2) := by
  intro k
  induction k with
  | zero =>
    intro i fuel v hB hK hS hT hM hf hi
    obtain ⟨q, rfl⟩ : ∃ q, fuel = q + 1 := ⟨fuel - 1, by omega⟩
    refine ⟨v 49, ?_⟩
    rw [fX5_runGreedily_3, if_pos (nI_le (by omega) (by omega)), up2_self]
    show _ = some (nI (i + 0), up2 v a (v a))
    rw [up2_self, show N = i + 0 by omega]
  | succ k ih =>
    intro i fuel v hB hK hS hT hM hf hi
    obtain ⟨q, rfl⟩ : ∃ q, fuel = q + 1 := ⟨fuel - 1, by omega⟩
    have hp := cPick (a := a) (w := w) hB.1 hB.2.1
    rw [hK, hS, hT, hM] at hp
    rw [fX5_runGreedily_3, if_neg (nI_ge (by omega) (by omega)), hp, gB_some]
    cases h : mPk K S T M w n (v a) with
    | none =>
      refine ⟨v 49, ?_⟩
      rw [mRun_none h, up2_self, up2_self]
      rfl
    | some m =>
      have hm := mPk_le h
      have n5 := hB.2.1.1
      obtain ⟨f, hmk⟩ := cMake hB ha hm ht
      rw [hK, hS, hT, hM] at hmk
      rw [show encO (some m) = nI m from rfl, if_neg (nI_nm1 (by omega)), hmk, gB_some, nI_1]
      have na : ∀ j, ¬ okc j → up2 (up2 v 49 f) a (mMk K S T M (LW (tc t) (tb t) 0) m (v a)) j = v j := fun j hj => by
        have e1 : j ≠ a := fun e => hj (by rw [e]; exact rowc_ok ha)
        have e2 : j ≠ 49 := fun e => hj (Or.inl e)
        rw [up2_ne e1, up2_ne e2]
      obtain ⟨f2, h2⟩ := ih (i + 1) q (up2 (up2 v 49 f) a (mMk K S T M (LW (tc t) (tb t) 0) m (v a))) (cBase_up2 (cBase_up2 hB (Or.inl rfl)) (rowc_ok ha))
        (by rw [na 9 (by unfold okc; omega)]; exact hK) (by rw [na 10 (by unfold okc; omega)]; exact hS) (by rw [na 11 (by unfold okc; omega)]; exact hT) (by rw [na 12 (by unfold okc; omega)]; exact hM) (by omega) (by omega)
      refine ⟨f2, ?_⟩
      rw [h2, up2_eq, mRun_some h, up2_comm (rowc_49 ha), up2_up2, up2_up2]
      show some (nI (i + 1 + _), _) = some (nI (i + (_ + 1)), _)
      rw [show ∀ x : Nat, i + 1 + x = i + (x + 1) from fun x => by omega]
theorem cRun {v : gV} {a n nt t N : Nat} {w : Int32} {tc tb : Nat → Nat → Nat} (hB : cBase v n nt tc tb) (ha : rowc a) (ht : t < nt) (hN : N ≤ 200) :
    ∃ f, fX5_runGreedily v a (nI N) w (nI t) = some (nI (mRun (v 9) (v 10) (v 11) (v 12) w n (LW (tc t) (tb t) 0) N (v a)).1, up2 (up2 v 49 f) a (mRun (v 9) (v 10) (v 11) (v 12) w n (LW (tc t) (tb t) 0) N (v a)).2) := by
  obtain ⟨f, h⟩ := cRunL (w := w) ha ht hN N 0 2000 v hB rfl rfl rfl rfl (by omega) (by omega)
  refine ⟨f, ?_⟩
  rw [Nat.zero_add] at h
  exact h
/-- the reference's world -/
def mBase (u : gV) (n nt t : Nat) (tc tb : Nat → Nat → Nat) : Prop := u 0 1 = nI n ∧ RI (u 2) (u 3) (u 4) (u 5) n ∧ (nt ≤ 6 ∧ t < nt ∧ u 0 12 = nI t) ∧ ∀ t, t < nt → wTX (tc t) (tb t) ∧ mTX u t (tc t) (tb t)
theorem mBase_up2 {u : gV} {n nt t j : Nat} {tc tb : Nat → Nat → Nat} {f : Nat → Int32} (h : mBase u n nt t tc tb) (hj : j = 1 ∨ 15 ≤ j) : mBase (up2 u j f) n nt t tc tb := by
  obtain ⟨h1, h2, ⟨h3, h5, h6⟩, h4⟩ := h
  refine ⟨by rw [up2_ne (by omega)]; exact h1, by rw [up2_ne (by omega), up2_ne (by omega), up2_ne (by omega), up2_ne (by omega)]; exact h2, ⟨h3, h5, by rw [up2_ne (by omega)]; exact h6⟩, fun t ht => ⟨(h4 t ht).1, ?_, ?_⟩⟩
  · intro k hk
    rw [up2_ne (by omega)]
    exact (h4 t ht).2.1 k hk
  · intro i hi
    rw [up2_ne (by omega)]
    exact (h4 t ht).2.2 i hi
/-- what asking leaves: named and stack -/
def up3 (u : gV) (g f s : Nat → Int32) : gV := up2 (up2 (up2 u 17 g) 16 f) 1 s
theorem up3_self {u : gV} : up3 u (u 17) (u 16) (u 1) = u := by
  unfold up3
  rw [up2_self, up2_self, up2_self]
theorem up3_1 {u : gV} {g f s : Nat → Int32} : up3 u g f s 1 = s := by
  unfold up3
  rw [up2_eq]
theorem up3_ne {u : gV} {g f s : Nat → Int32} {j : Nat} (h : j ≠ 1 ∧ j ≠ 16 ∧ j ≠ 17) : up3 u g f s j = u j := by
  unfold up3
  rw [up2_ne h.1, up2_ne h.2.1, up2_ne h.2.2]
theorem up3_up3 {u : gV} {g f s g' f' s' : Nat → Int32} : up3 (up3 u g f s) g' f' s' = up3 u g' f' s' := by
  unfold up3
  rw [up2_comm (show 1 ≠ 17 by decide), up2_comm (show 1 ≠ 16 by decide), up2_up2, up2_comm (show 16 ≠ 17 by decide), up2_up2, up2_up2]
theorem mBase_up3 {u : gV} {n nt t : Nat} {tc tb : Nat → Nat → Nat} {g f s : Nat → Int32} (h : mBase u n nt t tc tb) : mBase (up3 u g f s) n nt t tc tb := mBase_up2 (mBase_up2 (mBase_up2 h (Or.inr (by decide))) (Or.inr (by decide))) (Or.inl rfl)
theorem mGoes {u : gV} {n nt t m : Nat} {tc tb : Nat → Nat → Nat} (hB : mBase u n nt t tc tb) (hs : Rw (u 1)) (hm : m ≤ n) : ∃ g f, fX6_goes u (nI m) = some ((), up3 u g f (mMk (u 2) (u 3) (u 4) (u 5) (LW (tc t) (tb t) 0) m (u 1))) := by
  obtain ⟨h1, h2, ⟨h3, h5, h6⟩, h4⟩ := hB
  have n5 := h2.1
  unfold fX6_goes mMk
  by_cases h0 : m = 0
  · subst h0
    obtain ⟨f, g, hf⟩ := mAsksOf (u := u) (k := 0) (show t < 6 by omega) (by decide) h6 (h4 t h5).1 (h4 t h5).2
    refine ⟨g, f, ?_⟩
    rw [if_pos (show nI 0 = 0 from rfl), mDrinks hf (by rw [up2_ne (by decide), up2_ne (by decide)]) hs (LW_rng _ _ _), gB_some, if_pos rfl]
    rfl
  · obtain ⟨r, rfl⟩ : ∃ r, m = r + 1 := ⟨m - 1, by omega⟩
    refine ⟨u 17, u 16, ?_⟩
    rw [if_neg (nI_ne0 (by omega) (by omega)), nI_pred, mExch h2 (show r < n by omega), gB_some, if_neg h0, Nat.add_sub_cancel]
    unfold up3
    rw [up2_self, up2_self]
theorem mCanMove0 {u : gV} : fX6_canMove u 0 = some (if 0 < u 1 0 ∧ u 1 5 < 999 then 1 else 0, u) := by
  unfold fX6_canMove fX6_canMove_29
  rw [if_pos rfl]
  by_cases h1 : u 1 0 ≤ 0
  · rw [if_pos h1, if_neg (fun z => absurd h1 (Int32.not_le.mpr z.1))]
  · rw [if_neg h1]
    by_cases h2 : 999 ≤ u 1 5
    · rw [if_pos h2, if_neg (fun z => absurd h2 (Int32.not_le.mpr z.2))]
    · rw [if_neg h2, if_pos ⟨Int32.not_le.mp h1, Int32.not_le.mp h2⟩]
theorem mCanMove1 {u : gV} {n r : Nat} (hI : RI (u 2) (u 3) (u 4) (u 5) n) (hr : r < n) : fX6_canMove u (nI (r + 1)) = some (if (decide (¬ nI r = u 0 6) && mX (u 2) (u 3) (u 4) (u 5) (u 1) r) = true then 1 else 0, u) := by
  have n5 := hI.1
  unfold fX6_canMove
  rw [if_neg (nI_ne0 (by omega) (by omega)), nI_pred, mCanX hI hr, gB_some]
  split
  · rw [if_pos (Or.inr rfl)]
  · rw [if_pos (Or.inl rfl)]
theorem mGreedyL {u : gV} {n : Nat} (hn : u 0 1 = nI n) (hI : RI (u 2) (u 3) (u 4) (u 5) n) : ∀ (k j fuel : Nat), k < fuel → j + k = n → fX6_greedy_2 fuel u (nI (j + 1)) = some (encO ((mFd (fun r => decide (¬ nI r = u 0 6) && mX (u 2) (u 3) (u 4) (u 5) (u 1) r) k j).map (fun r => r + 1)), u) := by
  have n5 := hI.1
  intro k
  induction k with
  | zero =>
    intro j fuel hf hj
    obtain ⟨q, rfl⟩ : ∃ q, fuel = q + 1 := ⟨fuel - 1, by omega⟩
    rw [fX6_greedy_2, hn, if_pos (nI_lt (by omega) (by omega))]
    rfl
  | succ k ih =>
    intro j fuel hf hj
    obtain ⟨q, rfl⟩ : ∃ q, fuel = q + 1 := ⟨fuel - 1, by omega⟩
    rw [fX6_greedy_2, hn, if_neg (nI_nlt (by omega) (by omega)), mCanMove1 hI (by omega), gB_some]
    unfold mFd
    by_cases hx : (decide (¬ nI j = u 0 6) && mX (u 2) (u 3) (u 4) (u 5) (u 1) j) = true
    · rw [if_pos hx, if_neg (by decide), if_pos hx]
      rfl
    · rw [if_neg hx, if_pos rfl, nI_1, ih (j + 1) q (by omega) (by omega), if_neg hx]
theorem mGreedy {u : gV} {n : Nat} (hn : u 0 1 = nI n) (hI : RI (u 2) (u 3) (u 4) (u 5) n) : fX6_greedy u = some (encO (mPk (u 2) (u 3) (u 4) (u 5) (u 0 6) n (u 1)), u) := by
  have n5 := hI.1
  unfold fX6_greedy mPk
  rw [fX6_greedy_2, hn, if_neg (nI_nltL (y := 0) (b := 0) rfl rfl (Nat.zero_le _) (by omega)), mCanMove0, gB_some]
  by_cases h : 0 < u 1 0 ∧ u 1 5 < 999
  · rw [if_pos h, if_neg (by decide), if_pos h]
    rfl
  · rw [if_neg h, if_pos rfl, if_neg h]
    exact mGreedyL hn hI n 0 1999 (by omega) (by omega)
theorem mGoesOnL {n nt t N : Nat} {w : Int32} {tc tb : Nat → Nat → Nat} (hN : N ≤ 200) {K S T M : Nat → Int32} : ∀ (k i fuel : Nat) (u : gV), mBase u n nt t tc tb → Rw (u 1) → u 2 = K → u 3 = S → u 4 = T → u 5 = M → u 0 6 = w → k < fuel → i + k = N →
    ∃ g f, fX6_goesOn_15 fuel u (nI N) (nI i) (if 0 < k then encO (mPk K S T M w n (u 1)) else -1) = some (nI (i + (mRun K S T M w n (LW (tc t) (tb t) 0) k (u 1)).1), up3 u g f (mRun K S T M w n (LW (tc t) (tb t) 0) k (u 1)).2) := by
  intro k
  induction k with
  | zero =>
    intro i fuel u hB hs hK hS hT hM hw hf hi
    obtain ⟨q, rfl⟩ : ∃ q, fuel = q + 1 := ⟨fuel - 1, by omega⟩
    refine ⟨u 17, u 16, ?_⟩
    rw [fX6_goesOn_15, if_neg (Nat.lt_irrefl 0), if_pos rfl]
    show _ = some (nI (i + 0), up3 u (u 17) (u 16) (u 1))
    rw [up3_self]
    rfl
  | succ k ih =>
    intro i fuel u hB hs hK hS hT hM hw hf hi
    obtain ⟨q, rfl⟩ : ∃ q, fuel = q + 1 := ⟨fuel - 1, by omega⟩
    rw [fX6_goesOn_15, if_pos (Nat.succ_pos k)]
    cases h : mPk K S T M w n (u 1) with
    | none =>
      refine ⟨u 17, u 16, ?_⟩
      rw [if_pos (show encO none = -1 from rfl), mRun_none h, up3_self]
      rfl
    | some m =>
      have hm := mPk_le h
      have hI := hB.2.1
      have n5 := hI.1
      obtain ⟨g, f, hgo⟩ := mGoes hB hs hm
      rw [hK, hS, hT, hM] at hgo
      rw [show encO (some m) = nI m from rfl, if_neg (nI_nm1 (by omega)), hgo, gB_some, nI_1]
      have hB2 := mBase_up3 (g := g) (f := f) (s := mMk K S T M (LW (tc t) (tb t) 0) m (u 1)) hB
      have hs2 : Rw (up3 u g f (mMk K S T M (LW (tc t) (tb t) 0) m (u 1)) 1) := by
        rw [up3_1]
        rw [hK, hS, hT, hM] at hI
        exact Rw_mk hI hs (LW_rng _ _ _) h
      obtain ⟨g2, f2, h2⟩ := ih (i + 1) q (up3 u g f (mMk K S T M (LW (tc t) (tb t) 0) m (u 1))) hB2 hs2 (by rw [up3_ne (by decide)]; exact hK) (by rw [up3_ne (by decide)]; exact hS) (by rw [up3_ne (by decide)]; exact hT) (by rw [up3_ne (by decide)]; exact hM) (by rw [up3_ne (by decide)]; exact hw) (by omega) (by omega)
      refine ⟨g2, f2, ?_⟩
      unfold fX6_goesOn_41
      rw [up3_1] at h2
      rw [up3_up3] at h2
      rw [mRun_some h]
      by_cases hk : 0 < k
      · rw [if_pos hk] at h2
        have hp := mGreedy hB2.1 hB2.2.1
        rw [up3_ne (by decide), up3_ne (by decide), up3_ne (by decide), up3_ne (by decide), up3_ne (by decide), up3_1, hK, hS, hT, hM, hw] at hp
        rw [if_neg (nI_ge (by omega) (by omega)), hp, gB_some, h2]
        show some (nI (i + 1 + _), _) = some (nI (i + (_ + 1)), _)
        rw [show ∀ x : Nat, i + 1 + x = i + (x + 1) from fun x => by omega]
      · rw [if_neg hk] at h2
        rw [if_pos (nI_le (by omega) (by omega)), h2]
        show some (nI (i + 1 + _), _) = some (nI (i + (_ + 1)), _)
        rw [show ∀ x : Nat, i + 1 + x = i + (x + 1) from fun x => by omega]
theorem mGoesOn {u : gV} {n nt t N : Nat} {tc tb : Nat → Nat → Nat} (hB : mBase u n nt t tc tb) (hs : Rw (u 1)) (hN : N ≤ 200) :
    ∃ g f, fX6_goesOn u (nI N) = some (nI (mRun (u 2) (u 3) (u 4) (u 5) (u 0 6) n (LW (tc t) (tb t) 0) N (u 1)).1, up3 u g f (mRun (u 2) (u 3) (u 4) (u 5) (u 0 6) n (LW (tc t) (tb t) 0) N (u 1)).2) := by
  obtain ⟨g, f, h⟩ := mGoesOnL (w := u 0 6) hN N 0 2000 u hB hs rfl rfl rfl rfl rfl (by omega) (by omega)
  refine ⟨g, f, ?_⟩
  rw [Nat.zero_add] at h
  unfold fX6_goesOn fX6_goesOn_14
  by_cases h0 : 0 < N
  · rw [if_pos h0] at h
    rw [if_neg (nI_nle h0 (by omega)), mGreedy hB.1 hB.2.1, gB_some]
    exact h
  · rw [if_neg h0] at h
    rw [if_pos (show nI N ≤ 0 from by rw [show N = 0 by omega]; decide)]
    exact h
