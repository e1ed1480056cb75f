/-! drawn, mean: the operations -/
theorem drunk {v u : gV} {n nt t N : Nat} {tc tb : Nat → Nat → Nat} (hR : Rel v u n nt t tc tb) (hN : N ≤ 200) (x1 : Int32) : ∃ d v' u', d ≤ 999 ∧ fX5_drunkByLot v x1 (nI N) = some (nI d, v') ∧ fX6_drunkBy u x1 (nI N) = some (nI d, u') ∧ Rel v' u' n nt t tc tb := by
  obtain ⟨v1, w1, a1, a2, a3, a4, a5, a6⟩ := TJ_start hR
  have hu : Rw (u 1) := by rw [← hR.2.2.1.1.1]; exact hR.2.2.1.1.2.1
  obtain ⟨x, v2, w2, e1, e2, e3, e4, e5, e6⟩ := drawnL hu hN N 0 2000 (x1.toInt64 + 1) v1 w1 _ (by omega) (by omega) a3 a6
  have hb := e5.2.2.1
  obtain ⟨d, hd, hx⟩ := nI_ex (n := 1000) (x := x) (by rw [e6]; exact hb.1) (by rw [e6]; omega)
  rw [hx] at e1 e2
  unfold fX5_drunkByLot fX6_drunkBy fX6_drunkBy_22
  rw [a1, a2, gB_some, gB_some]
  refine ⟨d, v2, up2 w2 1 (u 1), by omega, e1, ?_, Rel_same (TJ_sameC hR (stC_tr a4 e3) ⟨rfl, e5⟩ rfl) (TJ_sameM a5 e4) hR⟩
  by_cases e : N ≤ 0
  · rw [if_pos e] at e2
    rw [if_pos (nI_yleL (y := 0) (b := 0) rfl rfl e (by decide))]
    exact e2
  · rw [if_neg e] at e2
    rw [if_neg (nI_nleL (y := 0) (b := 0) rfl rfl (by omega) (by omega)), (TJ_pick a3).2, gB_some]
    exact e2
theorem isDrawn {u : gV} {x1 x2 : Int32} : ((∃ a b, a < 99999 + 1 ∧ b < 200 + 1 ∧ x1 = nI a ∧ x2 = nI b) ∧ fX6_isDrawn u x1 x2 = some (1, u)) ∨ (((¬ ∃ a, a < 99999 + 1 ∧ x1 = nI a) ∨ (¬ ∃ a, a < 200 + 1 ∧ x2 = nI a)) ∧ fX6_isDrawn u x1 x2 = some (0, u)) := by
  unfold fX6_isDrawn
  by_cases h1 : ∃ a, a < 99999 + 1 ∧ x1 = nI a
  · rw [mInT (b := 99999) ((rngC (n := 99999) (by decide)).mpr h1), gB_some, if_neg ne10]
    by_cases h2 : ∃ a, a < 200 + 1 ∧ x2 = nI a
    · rw [mInT (b := 200) ((rngC (n := 200) (by decide)).mpr h2), gB_some, if_neg ne10]
      obtain ⟨a, ha, e1⟩ := h1
      obtain ⟨b, hb, e2⟩ := h2
      exact Or.inl ⟨⟨a, b, ha, hb, e1, e2⟩, rfl⟩
    · rw [mInF (b := 200) (fun z => h2 ((rngC (n := 200) (by decide)).mp z)), gB_some, if_pos rfl]
      exact Or.inr ⟨Or.inr h2, rfl⟩
  · rw [mInF (b := 99999) (fun z => h1 ((rngC (n := 99999) (by decide)).mp z)), gB_some, if_pos rfl]
    exact Or.inr ⟨Or.inl h1, rfl⟩
theorem ite_same {c : Prop} [Decidable c] {α : Type} {A : α} : (if c then A else A) = A := by
  by_cases h : c
  · rw [if_pos h]
  · rw [if_neg h]
theorem op_drawn {v u : gV} (h : RelE v u) (x1 x2 : Int32) : ∃ x v' u', fX5_drawn v x1 x2 = some (x, v') ∧ fX6_drawn u x1 x2 = some (x, u') ∧ RelE v' u' := by
  have hE := h
  obtain ⟨n, nt, t, tc, tb, hR⟩ := h
  unfold fX5_drawn fX6_drawn
  rw [show (99999 : Int32) = nI 99999 from rfl, show (200 : Int32) = nI 200 from rfl]
  rcases isDrawn (u := u) (x1 := x1) (x2 := x2) with ⟨⟨a, b, ha, hb, rfl, rfl⟩, e⟩ | ⟨h1 | h2, e⟩
  · obtain ⟨d, v', u', -, e1, e2, e3⟩ := drunk hR (show b ≤ 200 by omega) (nI a)
    rw [e, gB_some, if_neg ne10, good_gt (by decide) ha, good_le (by decide) hb, e1, e2, gB_some, gB_some]
    exact ⟨_, _, _, rfl, rfl, n, nt, t, tc, tb, e3⟩
  · rw [e, gB_some, if_pos rfl, bad_gt (by decide) h1]
    exact ⟨_, _, _, rfl, rfl, hE⟩
  · rw [e, gB_some, if_pos rfl, bad_le (by decide) h2, ite_same, ite_same]
    exact ⟨_, _, _, rfl, rfl, hE⟩
theorem gcd_step {a b : Nat} : Nat.gcd a b = Nat.gcd b (a % b) := by
  rw [Nat.gcd_comm a b, Nat.gcd_rec b a, Nat.gcd_comm]
theorem cGcdL {v : gV} : ∀ (k b a i fuel : Nat), b ≤ k → k < fuel → i + k < 40 → a < 2 ^ 31 → fX5_commonDivisor_7 fuel v (nI a) (nI b) (nI i) = some (nI (Nat.gcd a b), v) := by
  intro k
  induction k with
  | zero =>
    intro b a i fuel hb hf hi ha
    obtain ⟨q, rfl⟩ : ∃ q, fuel = q + 1 := ⟨fuel - 1, by omega⟩
    obtain rfl : b = 0 := by omega
    rw [fX5_commonDivisor_7, if_neg (nI_nleL (x := 40) (a := 40) rfl rfl (by omega) (by decide)), if_pos (show nI 0 = 0 from rfl), Nat.gcd_zero_right]
  | succ k ih =>
    intro b a i fuel hb hf hi ha
    obtain ⟨q, rfl⟩ : ∃ q, fuel = q + 1 := ⟨fuel - 1, by omega⟩
    by_cases h0 : b = 0
    · subst h0
      rw [fX5_commonDivisor_7, if_neg (nI_nleL (x := 40) (a := 40) rfl rfl (by omega) (by decide)), if_pos (show nI 0 = 0 from rfl), Nat.gcd_zero_right]
    · have hn : ¬ nI b = 0 := nI_neL (y := 0) (b := 0) rfl rfl h0 (by omega) (by decide)
      have hm := Nat.mod_lt a (show b > 0 by omega)
      rw [fX5_commonDivisor_7, if_neg (nI_nleL (x := 40) (a := 40) rfl rfl (by omega) (by decide)), if_neg hn, if_neg hn, pk_rem ha (by omega) (by omega), nI_1, ih (a % b) b (i + 1) q (by omega) (by omega) (by omega) (by omega), ← gcd_step]
theorem lN_0 {b : Nat} (hb : b < 2 ^ 63) : lN b = 0 ↔ b = 0 := pk_lEQ (b := 0) hb (by decide)
theorem mLowL {u : gV} {x0 x2 : Int64} {x4 : Int32} : ∀ (k b a fuel : Nat), b ≤ k → k < fuel → 0 < a + b → a < 2 ^ 31 → b < 2 ^ 31 → fX6_lowest_16 fuel u x0 x2 x4 (lN a) (lN b) = some (if x4 = 0 then x0 / lN (Nat.gcd a b) else x2 / lN (Nat.gcd a b), u) := by
  intro k
  induction k with
  | zero =>
    intro b a fuel hb hf h0 ha hb31
    obtain ⟨q, rfl⟩ : ∃ q, fuel = q + 1 := ⟨fuel - 1, by omega⟩
    obtain rfl : b = 0 := by omega
    have hn : ¬ lN a = 0 := fun z => by have := (lN_0 (by omega)).mp z; omega
    rw [fX6_lowest_16, if_pos (show lg_cmp (lN 0) 0 = 0 from (lg_cmp_eq _ _).mpr rfl), if_neg hn, if_neg hn, Nat.gcd_zero_right]
    by_cases c : x4 = 0
    · rw [if_pos c, if_pos c]
    · rw [if_neg c, if_neg c]
  | succ k ih =>
    intro b a fuel hb hf h0 ha hb31
    obtain ⟨q, rfl⟩ : ∃ q, fuel = q + 1 := ⟨fuel - 1, by omega⟩
    by_cases hb0 : b = 0
    · subst hb0
      have hn : ¬ lN a = 0 := fun z => by have := (lN_0 (by omega)).mp z; omega
      rw [fX6_lowest_16, if_pos (show lg_cmp (lN 0) 0 = 0 from (lg_cmp_eq _ _).mpr rfl), if_neg hn, if_neg hn, Nat.gcd_zero_right]
      by_cases c : x4 = 0
      · rw [if_pos c, if_pos c]
      · rw [if_neg c, if_neg c]
    · have hn : ¬ lN b = 0 := fun z => hb0 ((lN_0 (by omega)).mp z)
      have hn2 : ¬ lg_cmp (lN b) 0 = 0 := fun z => hn ((lg_cmp_eq _ _).mp z)
      have hm := Nat.mod_lt a (show b > 0 by omega)
      rw [fX6_lowest_16, if_neg hn2, if_neg hn, pk_lRem (by omega) (by omega) (by omega), ih (a % b) b q (by omega) (by omega) (by omega) (by omega) (by omega), ← gcd_step]
theorem low {v u : gV} {a y : Nat} {x4 : Int32} (ha : a < 2 ^ 31) (hy0 : 0 < y) (hy : y ≤ 30) (h4 : x4 = 0 ∨ x4 = 1) : ∃ z : Int64, (gB (fX5_commonDivisor v (nI a) (nI y)) (fun y1 v2 => (if y1 = 0 then some ((-4611686018427387904 : Int64), v2) else (if x4 = 0 then fX5_mean_111 v2 y1 (nI a) else fX5_mean_111 v2 y1 (nI y))))) = some (z, v) ∧ fX6_lowest u (lN a) (nI y).toInt64 x4 = some (z, u) := by
  have hg0 : 0 < Nat.gcd a y := Nat.gcd_pos_of_pos_right a hy0
  have hgy : Nat.gcd a y ≤ y := Nat.gcd_le_right a hy0
  have hgn : ¬ nI (Nat.gcd a y) = 0 := nI_neL (y := 0) (b := 0) rfl rfl (by omega) (by omega) (by decide)
  have e : fX5_commonDivisor v (nI a) (nI y) = some (nI (Nat.gcd a y), v) := cGcdL 30 y a 0 2000 hy (by omega) (by omega) ha
  unfold fX6_lowest
  rw [e, gB_some, if_neg hgn, nI_l (by omega)]
  unfold fX5_mean_111
  rw [if_neg hgn, if_neg hgn, pk_div ha hg0 (by omega), pk_div (by omega) hg0 (by omega), nI_l (Nat.lt_of_le_of_lt (Nat.div_le_self _ _) ha), nI_l (Nat.lt_of_le_of_lt (Nat.div_le_self _ _) (by omega))]
  by_cases h0 : a = 0
  · subst h0
    rw [if_pos (show lg_cmp (lN 0) 0 = 0 from (lg_cmp_eq _ _).mpr rfl), Nat.gcd_zero_left, Nat.zero_div, Nat.div_self hy0]
    rcases h4 with c | c <;> subst c
    · exact ⟨_, rfl, rfl⟩
    · exact ⟨_, rfl, rfl⟩
  · have hn2 : ¬ lg_cmp (lN a) 0 = 0 := fun z => h0 ((lN_0 (by omega)).mp ((lg_cmp_eq _ _).mp z))
    have el : fX6_lowest_16 2000 u (lN a) (lN y) x4 (lN a) (lN y) = _ := mLowL 30 y a 2000 hy (by omega) (by omega) ha (by omega)
    rw [if_neg hn2, el, pk_lDiv (by omega) hg0 (by omega), pk_lDiv (by omega) hg0 (by omega)]
    by_cases c : x4 = 0
    · rw [if_pos c, if_pos c]; exact ⟨_, rfl, rfl⟩
    · rw [if_neg c, if_neg c]; exact ⟨_, rfl, rfl⟩
theorem meanL {x1 x4 : Int32} {n nt t y N : Nat} {tc tb : Nat → Nat → Nat} (hN : N ≤ 200) (hy0 : 0 < y) (hy : y ≤ 30) (h4 : x4 = 0 ∨ x4 = 1) : ∀ (k i fuel a : Nat) (v u : gV), k < fuel → i + k = y → a ≤ 999 * i → Rel v u n nt t tc tb → ∃ x v' u', fX5_mean_57 fuel v x1 (nI y) (nI N) x4 (nI a) (nI i) = some (x, v') ∧ fX6_mean_38 fuel u x1 (nI y) (nI N) x4 (lN a) (nI i) = some (x, u') ∧ RelE v' u' := by
  intro k
  induction k with
  | zero =>
    intro i fuel a v u hf hi ha hR
    obtain ⟨q, rfl⟩ : ∃ q, fuel = q + 1 := ⟨fuel - 1, by omega⟩
    obtain ⟨z, e1, e2⟩ := low (v := v) (u := u) (show a < 2 ^ 31 by omega) hy0 hy h4
    rw [fX5_mean_57, fX6_mean_38, if_pos (nI_yleL rfl rfl (by omega) (by omega)), if_pos (nI_yleL rfl rfl (by omega) (by omega)), e1, e2, gB_some]
    exact ⟨_, _, _, rfl, rfl, n, nt, t, tc, tb, hR⟩
  | succ k ih =>
    intro i fuel a v u hf hi ha hR
    obtain ⟨q, rfl⟩ : ∃ q, fuel = q + 1 := ⟨fuel - 1, by omega⟩
    obtain ⟨d, v', u', hd, e1, e2, e3⟩ := drunk hR hN (x1 + nI i)
    rw [fX5_mean_57, fX6_mean_38, if_neg (nI_nleL rfl rfl (by omega) (by omega)), if_neg (nI_nleL rfl rfl (by omega) (by omega)), e1, e2, gB_some, gB_some, nI_add, nI_l (by omega), lN_add, nI_1]
    exact ih (i + 1) q (a + d) v' u' (by omega) (by omega) (by omega) e3
theorem op_mean {v u : gV} (h : RelE v u) (x1 x2 x3 x4 : Int32) : ∃ x v' u', fX5_mean v x1 x2 x3 x4 = some (x, v') ∧ fX6_mean u x1 x2 x3 x4 = some (x, u') ∧ RelE v' u' := by
  have hE := h
  obtain ⟨n, nt, t, tc, tb, hR⟩ := h
  unfold fX5_mean fX6_mean
  rw [show (99999 : Int32) = nI 99999 from rfl, show (200 : Int32) = nI 200 from rfl]
  have h30 : (∃ y, y < 30 + 1 ∧ 1 ≤ y ∧ x2 = nI y) ∨ ¬ (1 ≤ x2 ∧ x2 ≤ 30) := by
    by_cases c : 1 ≤ x2 ∧ x2 ≤ 30
    · left
      have c1 := c.1
      rw [Int32.le_iff_toInt_le, i32_1] at c1
      obtain ⟨y, hy, e⟩ := (rngC (n := 30) (by decide)).mp ⟨by rw [Int32.le_iff_toInt_le, i32_0]; omega, c.2⟩
      refine ⟨y, hy, ?_, e⟩
      rw [e, nI_toInt (by omega)] at c1
      omega
    · exact Or.inr c
  rcases isDrawn (u := u) (x1 := x1) (x2 := x3) with ⟨⟨a, b, ha, hb, rfl, rfl⟩, e⟩ | ⟨h1 | h2, e⟩
  · rw [e, gB_some, if_neg ne10, good_gt (by decide) ha, good_gt (by decide) hb]
    rcases h30 with ⟨y, hy, hy1, rfl⟩ | hbad
    · rw [if_neg (nI_nltL (y := 1) (b := 1) rfl rfl hy1 (by omega)), if_pos (nI_yleL (y := 30) (b := 30) rfl rfl (by omega) (by decide)), mInT ⟨nI_yleL (x := 1) (a := 1) rfl rfl hy1 (by omega), nI_yleL (y := 30) (b := 30) rfl rfl (by omega) (by decide)⟩, gB_some, if_neg ne10]
      by_cases h4 : ∃ k, k < 1 + 1 ∧ x4 = nI k
      · obtain ⟨k, hk, rfl⟩ := h4
        rw [good1 hk, mInT (b := 1) ((rngC (n := 1) (by decide)).mpr ⟨k, hk, rfl⟩), gB_some, if_neg ne10]
        exact meanL (show b ≤ 200 by omega) hy1 (by omega) (by
          match k, hk with
          | 0, _ => exact Or.inl rfl
          | 1, _ => exact Or.inr rfl) y 0 2000 0 v u (by omega) (by omega) (by omega) hR
      · rw [bad1 h4, mInF (b := 1) (fun z => h4 ((rngC (n := 1) (by decide)).mp z)), gB_some, if_pos rfl]
        exact ⟨_, _, _, rfl, rfl, hE⟩
    · rw [mInF hbad, gB_some, if_pos rfl]
      by_cases c : x2 < 1
      · rw [if_pos c]; exact ⟨_, _, _, rfl, rfl, hE⟩
      · have c2 : ¬ x2 ≤ 30 := fun z => hbad ⟨by
          rw [Int32.lt_iff_toInt_lt] at c
          rw [Int32.le_iff_toInt_le]
          omega, z⟩
        rw [if_neg c, if_neg c2]; exact ⟨_, _, _, rfl, rfl, hE⟩
  · rw [e, gB_some, if_pos rfl, bad_gt (by decide) h1]
    exact ⟨_, _, _, rfl, rfl, hE⟩
  · rw [e, gB_some, if_pos rfl, bad_gt (by decide) h2, ite_same, ite_same, ite_same, ite_same]
    exact ⟨_, _, _, rfl, rfl, hE⟩
