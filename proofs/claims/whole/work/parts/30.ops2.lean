/-! count, force, asks, told, can, move: both sides -/
theorem nI_out {x : Int32} {n : Nat} (h : ¬ ∃ r, r < n ∧ x = nI r) : ¬ (0 ≤ x.toInt ∧ x.toInt < n) := fun z => h (by obtain ⟨k, a, b⟩ := nI_ex z.1 z.2; exact ⟨k, a, b⟩)
theorem cHasF {v : gV} {n : Nat} {x : Int32} (hn : v 4 4 = nI n) (h5 : n ≤ 5) (h : ¬ ∃ r, r < n ∧ x = nI r) : fX1_has v x = some (0, v) := by
  have h1 := nI_out h
  unfold fX1_has
  by_cases h0 : x < 0
  · rw [if_pos h0]
  · rw [if_neg h0, if_pos]
    rw [Int32.lt_iff_toInt_lt, i32_0] at h0
    rw [hn, Int32.le_iff_toInt_le, nI_toInt (by omega)]
    omega
theorem mIsRateT {u : gV} {n r : Nat} (hn : u 0 1 = nI n) (h5 : n ≤ 5) (hr : r < n) : fX6_isRate u (nI r) = some (1, u) := by
  unfold fX6_isRate
  obtain ⟨q, rfl⟩ : ∃ q, n = q + 1 := ⟨n - 1, by omega⟩
  rw [hn, nI_pred, mInT ⟨nI_pos' (by omega), nI_le (by omega) (by omega)⟩, gB_some, if_pos (Or.inr rfl)]
theorem mIsRateF {u : gV} {n : Nat} {x : Int32} (hn : u 0 1 = nI n) (h5 : n ≤ 5) (h : ¬ ∃ r, r < n ∧ x = nI r) : fX6_isRate u x = some (0, u) := by
  have h1 := nI_out h
  unfold fX6_isRate
  rw [hn, mInF, gB_some, if_pos (Or.inl rfl)]
  intro z
  apply h1
  have e0 := Int32.le_iff_toInt_le.mp z.1
  have e1 := Int32.le_iff_toInt_le.mp z.2
  rw [i32_0] at e0
  rw [i32_sub (by rw [nI_toInt (by omega), i32_1]; omega) (by rw [nI_toInt (by omega), i32_1]; omega), nI_toInt (by omega), i32_1] at e1
  omega
theorem cIsMoveT {v : gV} {n m : Nat} (hn : v 4 4 = nI n) (h5 : n ≤ 5) (hm : m ≤ n) : fX5_isMove v (nI m) = some (1, v) := by
  unfold fX5_isMove fX5_isMove_17
  by_cases h0 : m = 0
  · subst h0
    rw [if_pos (show nI 0 = 0 from rfl)]
  · obtain ⟨r, rfl⟩ : ∃ r, m = r + 1 := ⟨m - 1, by omega⟩
    rw [if_neg (nI_ne0 (by omega) (by omega)), nI_pred, cHas hn h5 (by omega), gB_some, if_neg ne10]
theorem cIsMoveF {v : gV} {n : Nat} {x : Int32} (hn : v 4 4 = nI n) (h5 : n ≤ 5) (h : ¬ ∃ r, r < n + 1 ∧ x = nI r) : fX5_isMove v x = some (0, v) := by
  unfold fX5_isMove
  rw [if_neg (show ¬ x = 0 from fun e => h ⟨0, by omega, e⟩), cHasF hn h5, gB_some, if_pos rfl]
  rintro ⟨r, hr, e⟩
  refine h ⟨r + 1, by omega, ?_⟩
  rw [← nI_1, ← e]
  simp
theorem mIsMoveT {u : gV} {n m : Nat} (hn : u 0 1 = nI n) (h5 : n ≤ 5) (hm : m ≤ n) : fX6_isMove u (nI m) = some (1, u) := by
  unfold fX6_isMove
  rw [hn, mInT ⟨nI_pos' (by omega), nI_le hm (by omega)⟩, gB_some, if_pos (Or.inr rfl)]
theorem mIsMoveF {u : gV} {n : Nat} {x : Int32} (hn : u 0 1 = nI n) (h5 : n ≤ 5) (h : ¬ ∃ r, r < n + 1 ∧ x = nI r) : fX6_isMove u x = some (0, u) := by
  have h1 := nI_out h
  unfold fX6_isMove
  rw [hn, mInF, gB_some, if_pos (Or.inl rfl)]
  intro z
  apply h1
  have e0 := Int32.le_iff_toInt_le.mp z.1
  have e1 := Int32.le_iff_toInt_le.mp z.2
  rw [i32_0] at e0
  rw [nI_toInt (by omega)] at e1
  omega
/-- whether move m can be -/
def mCan (K S T M : Nat → Int32) (m : Nat) (s : Nat → Int32) : Prop := (m = 0 ∧ 0 < s 0 ∧ s 5 < 999) ∨ ∃ r, m = r + 1 ∧ mX K S T M s r = true
theorem cCanMake {v : gV} {a n m : Nat} (hn : v 4 4 = nI n) (hI : RI (v 9) (v 10) (v 11) (v 12) n) (hm : m ≤ n) : (mCan (v 9) (v 10) (v 11) (v 12) m (v a) ∧ fX5_canMake v a (nI m) = some (1, v)) ∨ (¬ mCan (v 9) (v 10) (v 11) (v 12) m (v a) ∧ fX5_canMake v a (nI m) = some (0, v)) := by
  have n5 := hI.1
  unfold fX5_canMake mCan
  by_cases h0 : m = 0
  · subst h0
    rw [if_pos (show nI 0 = 0 from rfl), cCanDrink, gB_some]
    by_cases h : 0 < v a 0 ∧ v a 5 < 999
    · exact Or.inl ⟨Or.inl ⟨rfl, h⟩, by rw [if_pos h, if_pos (Or.inr rfl)]⟩
    · refine Or.inr ⟨?_, by rw [if_neg h, if_pos (Or.inl rfl)]⟩
      rintro (z | ⟨r, z, -⟩)
      · exact h z.2
      · omega
  · obtain ⟨r, rfl⟩ : ∃ r, m = r + 1 := ⟨m - 1, by omega⟩
    rw [if_neg (nI_ne0 (by omega) (by omega)), nI_pred, cCanX hn hI (by omega), gB_some]
    by_cases h : mX (v 9) (v 10) (v 11) (v 12) (v a) r = true
    · exact Or.inl ⟨Or.inr ⟨r, rfl, h⟩, by rw [if_pos h, if_pos (Or.inr rfl)]⟩
    · refine Or.inr ⟨?_, by rw [if_neg h, if_pos (Or.inl rfl)]⟩
      rintro (z | ⟨r', z, z2⟩)
      · omega
      · obtain rfl : r = r' := by omega
        exact h z2
theorem mCanMv {u : gV} {n m : Nat} (hI : RI (u 2) (u 3) (u 4) (u 5) n) (hb : u 0 6 = -1) (hm : m ≤ n) : (mCan (u 2) (u 3) (u 4) (u 5) m (u 1) ∧ fX6_canMove u (nI m) = some (1, u)) ∨ (¬ mCan (u 2) (u 3) (u 4) (u 5) m (u 1) ∧ fX6_canMove u (nI m) = some (0, u)) := by
  have n5 := hI.1
  unfold mCan
  by_cases h0 : m = 0
  · subst h0
    rw [show nI 0 = 0 from rfl, mCanMove0]
    by_cases h : 0 < u 1 0 ∧ u 1 5 < 999
    · exact Or.inl ⟨Or.inl ⟨rfl, h⟩, by rw [if_pos h]⟩
    · refine Or.inr ⟨?_, by rw [if_neg h]⟩
      rintro (z | ⟨r, z, -⟩)
      · exact h z.2
      · omega
  · obtain ⟨r, rfl⟩ : ∃ r, m = r + 1 := ⟨m - 1, by omega⟩
    rw [mCanMove1 hI (by omega), hb]
    have hd : decide (¬ nI r = (-1 : Int32)) = true := decide_eq_true (nI_nm1 (by omega))
    rw [hd, Bool.true_and]
    by_cases h : mX (u 2) (u 3) (u 4) (u 5) (u 1) r = true
    · exact Or.inl ⟨Or.inr ⟨r, rfl, h⟩, by rw [if_pos h]⟩
    · refine Or.inr ⟨?_, by rw [if_neg h]⟩
      rintro (z | ⟨r', z, z2⟩)
      · omega
      · obtain rfl : r = r' := by omega
        exact h z2
theorem Rw_can {K S T M s : Nat → Int32} {n m : Nat} {L : (Nat → Int32) → Int32} (hI : RI K S T M n) (hs : Rw s) (hL : 0 ≤ (L s).toInt ∧ (L s).toInt ≤ 3) (hm : m ≤ n) (h : mCan K S T M m s) : Rw (mMk K S T M L m s) := by
  unfold mMk
  rcases h with ⟨rfl, h0, h5⟩ | ⟨r, rfl, hX⟩
  · rw [if_pos rfl]
    exact Rw_dr hs hL h0 h5
  · rw [if_neg (by omega), Nat.add_sub_cancel]
    exact Rw_ex hI (by omega) hs hX
theorem mMk_6 {K S T M s : Nat → Int32} {n m : Nat} {L : (Nat → Int32) → Int32} (hI : RI K S T M n) (hm : m ≤ n) : mMk K S T M L m s 6 = s 6 := by
  unfold mMk
  by_cases h0 : m = 0
  · rw [if_pos h0]
    unfold mDr
    rw [upd_ne (by decide), upd_ne (by decide), upd_ne (by decide), upd_ne (by decide), upd_ne (by decide), upd_ne (by decide)]
  · rw [if_neg h0]
    obtain ⟨hK, hS, hT, hM⟩ := hI.2 (m - 1) (by omega)
    obtain ⟨s1, s2, s3, s4, s5⟩ := S_rng hS.1 hS.2
    unfold mE
    rw [upd_ne (by decide), upd_ne (by decide), upd_ne (by omega)]
theorem mRun_6 {K S T M : Nat → Int32} {w : Int32} {n : Nat} {L : (Nat → Int32) → Int32} (hI : RI K S T M n) : ∀ (k : Nat) (s : Nat → Int32), (mRun K S T M w n L k s).2 6 = s 6 := by
  intro k
  induction k with
  | zero => intro s; rfl
  | succ k ih =>
    intro s
    cases h : mPk K S T M w n s with
    | none => rw [mRun_none h]
    | some m =>
      rw [mRun_some h]
      exact (ih _).trans (mMk_6 hI (mPk_le h))
theorem op_count {v u : gV} (h : RelE v u) (x1 : Int32) : ∃ x v' u', fX5_count v x1 = some (x, v') ∧ fX6_count u x1 = some (x, u') ∧ RelE v' u' := by
  obtain ⟨n, nt, t, tc, tb, hR⟩ := h
  obtain ⟨hB, hM, ⟨⟨a1, a2, a3⟩, -, -, ⟨a9, a10, a11⟩, -, -⟩, ⟨⟨q, t1, t2, t3, t4⟩, t5⟩, -⟩ := id hR
  have hE : RelE v u := ⟨n, nt, t, tc, tb, hR⟩
  unfold fX5_count fX6_count fX5_count_17
  by_cases hx : ∃ k, k < 7 ∧ x1 = nI k
  · obtain ⟨k, hk, rfl⟩ := hx
    rw [if_neg (nI_pos (by omega)), if_neg (nI_nleL (x := 7) (a := 7) rfl rfl hk (by decide)), if_pos (gin_nI hk (by decide)), mInT ⟨nI_pos' (by omega), nI_yleL (y := 6) (b := 6) rfl rfl (by omega) (by decide)⟩, gB_some, if_neg ne10, if_pos (gin_nI hk (by decide)), a1]
    exact ⟨_, _, _, rfl, rfl, hE⟩
  · have ho := nI_out hx
    have hc : ∀ (A B : Option (Int32 × gV)), (if x1 < 0 then A else if 7 ≤ x1 then A else B) = A := by
      intro A B
      by_cases h0 : x1 < 0
      · rw [if_pos h0]
      · rw [if_neg h0, if_pos]
        rw [Int32.lt_iff_toInt_lt, i32_0] at h0
        rw [Int32.le_iff_toInt_le, show (7 : Int32).toInt = 7 from rfl]
        omega
    have hm : ¬ ((0 : Int32) ≤ x1 ∧ x1 ≤ 6) := fun z => ho (by
      have e0 := Int32.le_iff_toInt_le.mp z.1
      have e1 := Int32.le_iff_toInt_le.mp z.2
      rw [i32_0] at e0
      rw [show (6 : Int32).toInt = 6 from rfl] at e1
      omega)
    rw [hc, mInF hm, gB_some, if_pos rfl, hB.1, hM.1, a9, a11, a10, hM.2.2.1.2.2, t2, t3]
    by_cases c7 : x1 = 7
    · rw [if_pos c7, if_pos c7]; exact ⟨_, _, _, rfl, rfl, hE⟩
    rw [if_neg c7, if_neg c7]
    by_cases c8 : x1 = 8
    · rw [if_pos c8, if_pos c8]; exact ⟨_, _, _, rfl, rfl, hE⟩
    rw [if_neg c8, if_neg c8]
    by_cases c9 : x1 = 9
    · rw [if_pos c9, if_pos c9]; exact ⟨_, _, _, rfl, rfl, hE⟩
    rw [if_neg c9, if_neg c9]
    by_cases c10 : x1 = 10
    · rw [if_pos c10, if_pos c10]; exact ⟨_, _, _, rfl, rfl, hE⟩
    rw [if_neg c10, if_neg c10]
    exact ⟨_, _, _, rfl, rfl, hE⟩
theorem op_can {v u : gV} (h : RelE v u) (x1 : Int32) : ∃ x v' u', fX5_can v x1 = some (x, v') ∧ fX6_can u x1 = some (x, u') ∧ RelE v' u' := by
  obtain ⟨n, nt, t, tc, tb, hR⟩ := h
  obtain ⟨hB, hM, ⟨⟨a1, a2, a3⟩, ⟨a4, a5, a6, a7⟩, a8, -⟩, -⟩ := id hR
  have hE : RelE v u := ⟨n, nt, t, tc, tb, hR⟩
  have n5 := hB.2.1.1
  unfold fX5_can fX6_can
  by_cases hx : ∃ r, r < n + 1 ∧ x1 = nI r
  · obtain ⟨m, hm, rfl⟩ := hx
    rw [cIsMoveT hB.1 n5 (by omega), mIsMoveT hM.1 n5 (by omega), gB_some, gB_some, if_neg ne10, if_neg ne10]
    have c := cCanMake (a := 1) hB.1 hB.2.1 (show m ≤ n by omega)
    have d := mCanMv hM.2.1 a8 (show m ≤ n by omega)
    rw [a4, a5, a6, a7, a1] at c
    rcases c with ⟨c1, c2⟩ | ⟨c1, c2⟩ <;> rcases d with ⟨d1, d2⟩ | ⟨d1, d2⟩
    · rw [c2, d2, gB_some, gB_some, if_neg ne10, if_neg ne10]; exact ⟨_, _, _, rfl, rfl, hE⟩
    · exact absurd c1 d1
    · exact absurd d1 c1
    · rw [c2, d2, gB_some, gB_some, if_pos rfl, if_pos rfl]; exact ⟨_, _, _, rfl, rfl, hE⟩
  · rw [cIsMoveF hB.1 n5 hx, mIsMoveF hM.1 n5 hx, gB_some, gB_some, if_pos rfl, if_pos rfl]
    exact ⟨_, _, _, rfl, rfl, hE⟩
theorem op_move {v u : gV} (h : RelE v u) (x1 : Int32) : ∃ x v' u', fX5_move v x1 = some (x, v') ∧ fX6_move u x1 = some (x, u') ∧ RelE v' u' := by
  obtain ⟨n, nt, t, tc, tb, hR⟩ := h
  obtain ⟨hB, hM, ⟨⟨a1, a2, a3⟩, ⟨a4, a5, a6, a7⟩, a8, ⟨a9, a10, a11⟩, -⟩, -⟩ := id hR
  have hE : RelE v u := ⟨n, nt, t, tc, tb, hR⟩
  have n5 := hB.2.1.1
  unfold fX5_move fX6_move
  by_cases hx : ∃ r, r < n + 1 ∧ x1 = nI r
  · obtain ⟨m, hm, rfl⟩ := hx
    rw [cIsMoveT hB.1 n5 (by omega), mIsMoveT hM.1 n5 (by omega), gB_some, gB_some, if_neg ne10, if_neg ne10]
    have c := cCanMake (a := 1) hB.1 hB.2.1 (show m ≤ n by omega)
    have d := mCanMv hM.2.1 a8 (show m ≤ n by omega)
    rw [a4, a5, a6, a7, a1] at c
    rcases c with ⟨c1, c2⟩ | ⟨c1, c2⟩ <;> rcases d with ⟨d1, d2⟩ | ⟨d1, d2⟩
    · rw [c2, d2, gB_some, gB_some, if_neg ne10, if_neg ne10, a10]
      obtain ⟨f, hf⟩ := cMake (a := 1) hB (Or.inl rfl) (show m ≤ n by omega) hM.2.2.1.2.1
      obtain ⟨g, f2, hg⟩ := mGoes hM (by rw [← a1]; exact a2) (show m ≤ n by omega)
      rw [hf, hg, gB_some, gB_some]
      rw [a4, a5, a6, a7, a1]
      refine ⟨_, _, _, rfl, ?_, n, nt, t, tc, tb, Rel_row (Rel_same (sameC_49 hR) (sameM_2 (g := g) (f := f2)) hR) (s := mMk (u 2) (u 3) (u 4) (u 5) (LW (tc t) (tb t) 0) m (u 1)) ?_ ?_⟩
      · rw [up3_1, up2_eq]
        rfl
      · rw [a1] at a2
        exact Rw_can hM.2.1 a2 (LW_rng _ _ _) (by omega) d1
      · rw [mMk_6 hM.2.1 (by omega), ← a1]
        exact a3
    · exact absurd c1 d1
    · exact absurd d1 c1
    · rw [c2, d2, gB_some, gB_some, if_pos rfl, if_pos rfl]; exact ⟨_, _, _, rfl, rfl, hE⟩
  · rw [cIsMoveF hB.1 n5 hx, mIsMoveF hM.1 n5 hx, gB_some, gB_some, if_pos rfl, if_pos rfl]
    exact ⟨_, _, _, rfl, rfl, hE⟩
theorem op_told {v u : gV} (h : RelE v u) (x1 x2 : Int32) : ∃ x v' u', fX5_told v x1 x2 = some (x, v') ∧ fX6_told u x1 x2 = some (x, u') ∧ RelE v' u' := by
  obtain ⟨n, nt, t, tc, tb, hR⟩ := h
  obtain ⟨hB, hM, ⟨⟨a1, a2, a3⟩, ⟨a4, a5, a6, a7⟩, a8, -⟩, -⟩ := id hR
  have hE : RelE v u := ⟨n, nt, t, tc, tb, hR⟩
  have n5 := hB.2.1.1
  unfold fX5_told fX6_told
  by_cases hx : ∃ r, r < n ∧ x1 = nI r
  · obtain ⟨r, hr, rfl⟩ := hx
    have hT := (hM.2.1.2 r hr).2.2.1
    have gr : gin (nI r) 5 = true := gin_nI (by omega) (by decide)
    rw [cHas hB.1 n5 hr, mIsRateT hM.1 n5 hr, gB_some, gB_some, if_neg ne10, if_neg ne10, cTakes hB.1 n5 hr, cGives hB.1 n5 hr, cLends hB.1 n5 hr, mTakes (show r < 5 by omega) hT.1 hT.2, mGives (show r < 5 by omega) hT.1 hT.2, mLends (show r < 5 by omega), a4, a5, a6, a7, a1]
    simp only [gB_some, gr, if_true]
    by_cases c0 : x2 = 0
    · rw [if_pos c0, if_pos c0]; exact ⟨_, _, _, rfl, rfl, hE⟩
    rw [if_neg c0, if_neg c0]
    by_cases c1 : x2 = 1
    · rw [if_pos c1, if_pos c1]; exact ⟨_, _, _, rfl, rfl, hE⟩
    rw [if_neg c1, if_neg c1]
    by_cases c2 : x2 = 2
    · rw [if_pos c2, if_pos c2]; exact ⟨_, _, _, rfl, rfl, hE⟩
    rw [if_neg c2, if_neg c2]
    by_cases c3 : x2 = 3
    · rw [if_pos c3, if_pos c3]; exact ⟨_, _, _, rfl, rfl, hE⟩
    rw [if_neg c3, if_neg c3]
    by_cases c4 : x2 = 4
    · rw [if_pos c4, if_pos c4]; exact ⟨_, _, _, rfl, rfl, hE⟩
    rw [if_neg c4, if_neg c4]
    by_cases c5 : x2 = 5
    · rw [if_pos c5, if_pos c5]; exact ⟨_, _, _, rfl, rfl, hE⟩
    rw [if_neg c5, if_neg c5]
    by_cases c6 : x2 = 6
    · rw [if_pos c6, if_pos c6]; exact ⟨_, _, _, rfl, rfl, hE⟩
    rw [if_neg c6, if_neg c6]
    exact ⟨_, _, _, rfl, rfl, hE⟩
  · rw [cHasF hB.1 n5 hx, mIsRateF hM.1 n5 hx, gB_some, gB_some, if_pos rfl, if_pos rfl]
    exact ⟨_, _, _, rfl, rfl, hE⟩
