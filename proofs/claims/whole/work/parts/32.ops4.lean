/-! least, bought, friends, worth, laws, when: both sides -/
theorem upd_self {f : Nat → Int32} {k : Nat} : upd f k (f k) = f := by
  funext j
  by_cases h : j = k
  · rw [h, upd_eq]
  · rw [upd_ne h]
/-- one thought on both sides: the same end, and the relation stays -/
theorem both {v u : gV} {n nt t : Nat} {tc tb : Nat → Nat → Nat} (hR : Rel v u n nt t tc tb) {x : Int32} (h0 : 0 ≤ x.toInt) (h1 : x.toInt ≤ 999) : ∃ v' u', fX5_endWith v x = some ((), v') ∧ fX6_drunkWith u x = some (v' 2 5, u') ∧ Rel v' u' n nt t tc tb ∧ v' 2 = mEnd (u 2) (u 3) (u 4) (u 5) (-1) n (LW (tc t) (tb t) 0) (upd (u 1) 0 x) ∧ v' 2 1 = u' 0 35 ∧ ((mBare (v' 2) ∧ u' 0 36 = 1) ∨ (¬ mBare (v' 2) ∧ u' 0 36 = 0)) ∧ v' 1 = v 1 ∧ u' 1 = u 1 ∧ (u' 2 = u 2 ∧ u' 3 = u 3 ∧ u' 4 = u 4 ∧ u' 5 = u 5) := by
  obtain ⟨hB, hM, ⟨⟨a1, a2, a3⟩, ⟨a4, a5, a6, a7⟩, a8, ⟨a9, a10, a11⟩, a12, a13⟩, -⟩ := id hR
  have hs : Rw (u 1) := by rw [← a1]; exact a2
  obtain ⟨f, hf⟩ := cEndWith hB hM.2.2.1.2.1 a10 (Rw_Z7 a2) a12 x
  obtain ⟨u', hu, hsm, h35, h36⟩ := mDrunkWith hM hs h0 h1
  have hrw := Rw_run hM.2.1 (w := -1) (L := LW (tc t) (tb t) 0) (fun s => LW_rng _ _ s) 200 _ (Rw_0 hs h0 h1)
  rw [a8] at hu h35 h36
  rw [a4, a5, a6, a7, a1] at hf
  refine ⟨_, u', hf, ?_, Rel_same (sameC_2 hR (Rw_Z7 hrw)) hsm hR, up2_eq, ?_, ?_, ?_, hsm.1 1 (by decide) (by decide) (by decide) (by decide), hsm.1 2 (by decide) (by decide) (by decide) (by decide), hsm.1 3 (by decide) (by decide) (by decide) (by decide), hsm.1 4 (by decide) (by decide) (by decide) (by decide), hsm.1 5 (by decide) (by decide) (by decide) (by decide)⟩
  · rw [up2_eq]; exact hu
  · rw [up2_eq]; exact h35.symm
  · rw [up2_eq]; exact h36
  · rw [up2_ne (by decide), up2_ne (by decide)]
theorem bareT {α : Type} {s : Nat → Int32} {X Y : α} (h : mBare s) : (if s 0 = 0 then if s 1 = 0 then if s 4 = 0 then X else Y else Y else Y) = X := by
  rw [if_pos h.1, if_pos h.2.1, if_pos h.2.2]
theorem bareF {α : Type} {s : Nat → Int32} {X Y : α} (h : ¬ mBare s) : (if s 0 = 0 then if s 1 = 0 then if s 4 = 0 then X else Y else Y else Y) = Y := by
  by_cases h0 : s 0 = 0
  · rw [if_pos h0]
    by_cases h1 : s 1 = 0
    · rw [if_pos h1]
      by_cases h4 : s 4 = 0
      · exact absurd ⟨h0, h1, h4⟩ h
      · rw [if_neg h4]
    · rw [if_neg h1]
  · rw [if_neg h0]
theorem leastL {n nt t : Nat} {tc tb : Nat → Nat → Nat} {goal how : Int32} : ∀ (k i fuel : Nat) (v u : gV), k < fuel → i + k = 61 → Rel v u n nt t tc tb → ∃ x v' u', fX5_least_25 fuel v goal how (nI i) = some (x, v') ∧ fX6_least_25 fuel u goal how (nI i) = some (x, u') ∧ RelE v' u' := by
  intro k
  induction k with
  | zero =>
    intro i fuel v u hf hi hR
    obtain ⟨q, rfl⟩ : ∃ q, fuel = q + 1 := ⟨fuel - 1, by omega⟩
    obtain rfl : i = 61 := by omega
    rw [fX5_least_25, fX6_least_25, if_pos (show (60 : Int32) < nI 61 by decide), if_pos (show (60 : Int32) < nI 61 by decide)]
    exact ⟨_, _, _, rfl, rfl, n, nt, t, tc, tb, hR⟩
  | succ k ih =>
    intro i fuel v u hf hi hR
    obtain ⟨q, rfl⟩ : ∃ q, fuel = q + 1 := ⟨fuel - 1, by omega⟩
    have hT := nI_toInt (show i < 2 ^ 31 by omega)
    obtain ⟨v', u', e1, e2, e3, -, -, e5, -⟩ := both hR (x := nI i) (by omega) (by omega)
    obtain ⟨x, v2, u2, r1, r2, r3⟩ := ih (i + 1) q v' u' (by omega) (by omega) e3
    have hE : RelE v' u' := ⟨n, nt, t, tc, tb, e3⟩
    rw [fX5_least_25, fX6_least_25, if_neg (nI_nltL (x := 60) (a := 60) rfl rfl (by omega) (by decide)), if_neg (nI_nltL (x := 60) (a := 60) rfl rfl (by omega) (by decide)), e1, e2, gB_some, gB_some]
    unfold fX5_least_63 fX5_least_64 fX5_least_85 fX6_least_53
    rw [nI_1, r1, r2]
    rcases e5 with ⟨hb, h36⟩ | ⟨hb, h36⟩
    · rw [bareT hb, h36, if_neg ne10, if_neg ne10]
      by_cases c1 : v' 2 5 < goal
      · rw [if_pos c1, if_pos c1]; exact ⟨_, _, _, rfl, rfl, r3⟩
      · rw [if_neg c1, if_neg c1]
        by_cases c2 : how = 0
        · rw [if_pos c2, if_pos c2]; exact ⟨_, _, _, rfl, rfl, hE⟩
        · rw [if_neg c2, if_neg c2]; exact ⟨_, _, _, rfl, rfl, hE⟩
    · rw [bareF hb, h36, if_pos rfl, if_pos rfl]
      by_cases c1 : v' 2 5 < goal
      · rw [if_pos c1, if_pos c1]; exact ⟨_, _, _, rfl, rfl, r3⟩
      · rw [if_neg c1, if_neg c1]
        by_cases c2 : how = 0
        · rw [if_pos c2, if_pos c2]; exact ⟨_, _, _, rfl, rfl, hE⟩
        · rw [if_neg c2, if_neg c2]; exact ⟨_, _, _, rfl, rfl, r3⟩
theorem op_least {v u : gV} (h : RelE v u) (x1 x2 : Int32) : ∃ x v' u', fX5_least v x1 x2 = some (x, v') ∧ fX6_least u x1 x2 = some (x, u') ∧ RelE v' u' := by
  have hE := h
  obtain ⟨n, nt, t, tc, tb, hR⟩ := h
  unfold fX5_least fX6_least
  rw [show (999 : Int32) = nI 999 from rfl, show (1 : Int32) = nI 1 from rfl]
  by_cases hx : ∃ k, k < 999 + 1 ∧ x1 = nI k
  · obtain ⟨k, hk, rfl⟩ := hx
    rw [good_gt (by decide) hk, mInT ((rngC (by decide)).mpr ⟨k, hk, rfl⟩), gB_some, if_neg ne10]
    by_cases hy : ∃ j, j < 1 + 1 ∧ x2 = nI j
    · obtain ⟨j, hj, rfl⟩ := hy
      rw [good_le (by decide) hj, mInT ((rngC (by decide)).mpr ⟨j, hj, rfl⟩), gB_some, if_neg ne10]
      exact leastL 61 0 2000 v u (by omega) (by omega) hR
    · rw [bad_le (by decide) hy, mInF (fun z => hy ((rngC (by decide)).mp z)), gB_some, if_pos rfl]
      exact ⟨_, _, _, rfl, rfl, hE⟩
  · rw [bad_gt (by decide) hx, mInF (fun z => hx ((rngC (by decide)).mp z)), gB_some, if_pos rfl]
    exact ⟨_, _, _, rfl, rfl, hE⟩
theorem boughtL {n nt t : Nat} {tc tb : Nat → Nat → Nat} {much em : Int32} : ∀ (k i fuel : Nat) (z : Int64) (v u : gV), k < fuel → i + k = 61 → Rel v u n nt t tc tb → ∃ x v' u', fX5_bought_31 fuel v much em z (nI i) = some (x, v') ∧ fX6_bought_31 fuel u much em z (nI i) = some (x, u') ∧ RelE v' u' := by
  intro k
  induction k with
  | zero =>
    intro i fuel z v u hf hi hR
    obtain ⟨q, rfl⟩ : ∃ q, fuel = q + 1 := ⟨fuel - 1, by omega⟩
    obtain rfl : i = 61 := by omega
    rw [fX5_bought_31, fX6_bought_31, if_pos (show (60 : Int32) < nI 61 by decide), if_pos (show (60 : Int32) < nI 61 by decide)]
    exact ⟨_, _, _, rfl, rfl, n, nt, t, tc, tb, hR⟩
  | succ k ih =>
    intro i fuel z v u hf hi hR
    obtain ⟨q, rfl⟩ : ∃ q, fuel = q + 1 := ⟨fuel - 1, by omega⟩
    have hT := nI_toInt (show i < 2 ^ 31 by omega)
    obtain ⟨v', u', e1, e2, e3, -, e4, -⟩ := both hR (x := nI i) (by omega) (by omega)
    rw [fX5_bought_31, fX6_bought_31, if_neg (nI_nltL (x := 60) (a := 60) rfl rfl (by omega) (by decide)), if_neg (nI_nltL (x := 60) (a := 60) rfl rfl (by omega) (by decide)), e1, e2, gB_some, gB_some]
    unfold fX5_bought_69 fX6_bought_64 fX6_bought_65
    rw [nI_1, ← e4, Int64.or_zero]
    by_cases c1 : v' 2 5 = much
    · rw [if_pos c1, if_pos c1]
      by_cases c2 : v' 2 1 = em
      · rw [if_pos c2, if_pos c2]; exact ih (i + 1) q _ v' u' (by omega) (by omega) e3
      · rw [if_neg c2, if_neg c2]; exact ih (i + 1) q _ v' u' (by omega) (by omega) e3
    · rw [if_neg c1, if_neg c1]; exact ih (i + 1) q _ v' u' (by omega) (by omega) e3
theorem op_bought {v u : gV} (h : RelE v u) (x1 x2 : Int32) : ∃ x v' u', fX5_bought v x1 x2 = some (x, v') ∧ fX6_bought u x1 x2 = some (x, u') ∧ RelE v' u' := by
  have hE := h
  obtain ⟨n, nt, t, tc, tb, hR⟩ := h
  unfold fX5_bought fX6_bought
  rw [show (999 : Int32) = nI 999 from rfl]
  by_cases hx : ∃ k, k < 999 + 1 ∧ x1 = nI k
  · obtain ⟨k, hk, rfl⟩ := hx
    rw [good_gt (by decide) hk, mInT ((rngC (by decide)).mpr ⟨k, hk, rfl⟩), gB_some, if_neg ne10]
    by_cases hy : ∃ j, j < 999 + 1 ∧ x2 = nI j
    · obtain ⟨j, hj, rfl⟩ := hy
      rw [good_le (by decide) hj, mInT ((rngC (by decide)).mpr ⟨j, hj, rfl⟩), gB_some, if_neg ne10]
      exact boughtL 61 0 2000 0 v u (by omega) (by omega) hR
    · rw [bad_le (by decide) hy, mInF (fun z => hy ((rngC (by decide)).mp z)), gB_some, if_pos rfl]
      exact ⟨_, _, _, rfl, rfl, hE⟩
  · rw [bad_gt (by decide) hx, mInF (fun z => hx ((rngC (by decide)).mp z)), gB_some, if_pos rfl]
    exact ⟨_, _, _, rfl, rfl, hE⟩
theorem i32_fr (a b c d : Int32) : ((a - d) - (b - d)) - (c - d) = ((a - b) - c) + d := by
  simp only [Int32.sub_eq_add_neg, Int32.neg_add, Int32.neg_neg]
  have h : ((a + -d) + (-b + d)) = a + -b := by
    rw [Int32.add_assoc, ← Int32.add_assoc (-d), Int32.add_comm (-d), Int32.add_assoc (-b), Int32.add_left_neg, Int32.add_zero]
  rw [h, ← Int32.add_assoc]
theorem op_friends {v u : gV} (h : RelE v u) (x1 x2 : Int32) : ∃ x v' u', fX5_friends v x1 x2 = some (x, v') ∧ fX6_friends u x1 x2 = some (x, u') ∧ RelE v' u' := by
  have hE := h
  obtain ⟨n, nt, t, tc, tb, hR⟩ := h
  unfold fX5_friends fX6_friends
  rw [show (60 : Int32) = nI 60 from rfl]
  by_cases hx : ∃ k, k < 60 + 1 ∧ x1 = nI k
  · obtain ⟨k, hk, rfl⟩ := hx
    rw [good_gt (by decide) hk, mInT ((rngC (by decide)).mpr ⟨k, hk, rfl⟩), gB_some, if_neg ne10]
    by_cases hy : ∃ j, j < 60 + 1 ∧ x2 = nI j
    · obtain ⟨j, hj, rfl⟩ := hy
      rw [good_le (by decide) hj, mInT ((rngC (by decide)).mpr ⟨j, hj, rfl⟩), gB_some, if_neg ne10, nI_add]
      have tk := nI_toInt (show k < 2 ^ 31 by omega)
      have tj := nI_toInt (show j < 2 ^ 31 by omega)
      have tkj := nI_toInt (show k + j < 2 ^ 31 by omega)
      obtain ⟨v1, u1, e1, e2, e3, e4, -, -, e5, e6, -⟩ := both hR (x := nI (k + j)) (by omega) (by omega)
      obtain ⟨v2, u2, f1, f2, f3, f4, -, -, f5, f6, -⟩ := both e3 (x := nI k) (by omega) (by omega)
      obtain ⟨v3, u3, g1, g2, g3, g4, -, -, g5, g6, -⟩ := both f3 (x := nI j) (by omega) (by omega)
      rw [e1, e2, gB_some, gB_some, f1, f2, gB_some, gB_some, g1, g2, gB_some, gB_some, g5, f5, e5, g6, f6, e6, i32_fr]
      rw [show v 1 5 = u 1 5 from by rw [hR.2.2.1.1.1]]
      exact ⟨_, _, _, rfl, rfl, n, nt, t, tc, tb, g3⟩
    · rw [bad_le (by decide) hy, mInF (fun z => hy ((rngC (by decide)).mp z)), gB_some, if_pos rfl]
      exact ⟨_, _, _, rfl, rfl, hE⟩
  · rw [bad_gt (by decide) hx, mInF (fun z => hx ((rngC (by decide)).mp z)), gB_some, if_pos rfl]
    exact ⟨_, _, _, rfl, rfl, hE⟩
