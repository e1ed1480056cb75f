/-! back, feed: both sides -/
theorem bk54 {u : gV} : ∀ (k i fuel : Nat) (a b : Nat → Int32), k < fuel → i + k = 5 → (∀ j, j < i → a j = u 9 (7 + j) ∧ b j = u 9 (12 + j)) → (∀ j, 5 ≤ j → a j = u 2 j ∧ b j = u 5 j) → ∃ a' b', fX6_back_54 fuel (up2 (up2 u 2 a) 5 b) (nI i) = some (u 0 1, up2 (up2 u 2 a') 5 b') ∧ (∀ j, j < 5 → a' j = u 9 (7 + j) ∧ b' j = u 9 (12 + j)) ∧ ∀ j, 5 ≤ j → a' j = u 2 j ∧ b' j = u 5 j := by
  intro k
  induction k with
  | zero =>
    intro i fuel a b hf hi ha hb
    obtain ⟨q, rfl⟩ : ∃ q, fuel = q + 1 := ⟨fuel - 1, by omega⟩
    obtain rfl : i = 5 := by omega
    rw [fX6_back_54, if_pos (show (5 : Int32) ≤ nI 5 by decide), up2_ne (by decide), up2_ne (by decide)]
    exact ⟨a, b, rfl, ha, hb⟩
  | succ k ih =>
    intro i fuel a b hf hi ha hb
    obtain ⟨q, rfl⟩ : ∃ q, fuel = q + 1 := ⟨fuel - 1, by omega⟩
    have e7 : 7 + nI i = nI (7 + i) := by rw [show (7 : Int32) = nI 7 from rfl, nI_add]
    have e12 : 12 + nI i = nI (12 + i) := by rw [show (12 : Int32) = nI 12 from rfl, nI_add]
    have ew : ∀ x y, up1 (up1 (up2 (up2 u 2 a) 5 b) 2 i x) 5 i y = up2 (up2 u 2 (upd a i x)) 5 (upd b i y) := by
      intro x y
      rw [up1_def (i := 5), up1_ne (show 5 ≠ 2 by decide), up2_eq, up1_def, up2_ne (show 2 ≠ 5 by decide), up2_eq, up2_comm (show 5 ≠ 2 by decide), up2_up2, up2_up2]
    rw [fX6_back_54, if_neg (nI_nleL (x := 5) (a := 5) rfl rfl (by omega) (by decide)), e7, e12, if_pos (gin_nI (by omega) (by decide)), if_pos (gin_nI (by omega) (by decide)), if_pos (gin_nI (by omega) (by decide)), if_pos (gin_nI (by omega) (by decide)), nI_clamp (by omega), nI_clamp (by omega), nI_clamp (by omega), nI_1, ew, up1_ne (show 9 ≠ 2 by decide), up2_ne (show 9 ≠ 5 by decide), up2_ne (show 9 ≠ 2 by decide)]
    refine ih (i + 1) q _ _ (by omega) (by omega) (fun j hj => ?_) (fun j hj => ?_)
    · by_cases e : j = i
      · subst e
        rw [upd_eq, upd_eq]
        exact ⟨rfl, rfl⟩
      · rw [upd_ne e, upd_ne e]
        exact ha j (by omega)
    · rw [upd_ne (by omega), upd_ne (by omega)]
      exact hb j hj
theorem bk28 {u : gV} : ∀ (k i fuel : Nat) (c : Nat → Int32), k < fuel → i + k = 7 → (∀ j, j < i → c j = u 9 j) → (∀ j, 7 ≤ j → c j = u 1 j) → ∃ c' a' b', fX6_back_28 fuel (up2 u 1 c) (nI i) = some (u 0 1, up2 (up2 (up2 u 1 c') 2 a') 5 b') ∧ ((∀ j, j < 7 → c' j = u 9 j) ∧ ∀ j, 7 ≤ j → c' j = u 1 j) ∧ (∀ j, j < 5 → a' j = u 9 (7 + j) ∧ b' j = u 9 (12 + j)) ∧ ∀ j, 5 ≤ j → a' j = u 2 j ∧ b' j = u 5 j := by
  intro k
  induction k with
  | zero =>
    intro i fuel c hf hi h1 h2
    obtain ⟨q, rfl⟩ : ∃ q, fuel = q + 1 := ⟨fuel - 1, by omega⟩
    obtain rfl : i = 7 := by omega
    obtain ⟨a', b', e1, e2, e3⟩ := bk54 (u := up2 u 1 c) 5 0 2000 ((up2 u 1 c) 2) ((up2 u 1 c) 5) (by omega) (by omega) (fun j hj => absurd hj (Nat.not_lt_zero j)) (fun j hj => ⟨rfl, rfl⟩)
    rw [up2_self, up2_self] at e1
    rw [fX6_back_28, if_pos (show (7 : Int32) ≤ nI 7 by decide)]
    exact ⟨c, a', b', e1, ⟨h1, h2⟩, e2, e3⟩
  | succ k ih =>
    intro i fuel c hf hi h1 h2
    obtain ⟨q, rfl⟩ : ∃ q, fuel = q + 1 := ⟨fuel - 1, by omega⟩
    rw [fX6_back_28, if_neg (nI_nleL (x := 7) (a := 7) rfl rfl (by omega) (by decide)), if_pos (gin_nI (by omega) (by decide)), if_pos (gin_nI (by omega) (by decide)), nI_clamp (by omega), nI_1, up1_up2, up2_ne (show 9 ≠ 1 by decide)]
    refine ih (i + 1) q _ (by omega) (by omega) (fun j hj => ?_) (fun j hj => ?_)
    · by_cases e : j = i
      · rw [e, upd_eq]
      · rw [upd_ne e]; exact h1 j (by omega)
    · rw [upd_ne (by omega)]; exact h2 j hj
theorem op_back {v u : gV} (h : RelE v u) : ∃ x v' u', fX5_back v = some (x, v') ∧ fX6_back u = some (x, u') ∧ RelE v' u' := by
  have hE := h
  obtain ⟨n, nt, t, tc, tb, hR⟩ := h
  obtain ⟨⟨b1, b2, b3, b4⟩, ⟨m1, m2, ⟨m3, m5, m6⟩, m4⟩, ⟨⟨a1, a2, a3⟩, ⟨a4, a5, a6, a7⟩, a8, ⟨a9, a10, a11⟩, a12, a13⟩, ⟨⟨q, t1, t2, t3, t4⟩, t5⟩, ⟨i1, i2, i3⟩, hS⟩ := id hR
  rw [cBack]
  unfold fX6_back
  rcases i3 with i3 | ⟨i3, ni, ti, c1, c2, ⟨c3, c3'⟩, ⟨c4, c4'⟩, ⟨c5, c5'⟩, c6, c7, c8⟩
  · rw [if_pos i3, if_pos (i2.symm.trans i3)]
    exact ⟨_, _, _, rfl, rfl, hE⟩
  · rw [if_neg (by rw [i3]; decide), if_neg (by rw [← i2, i3]; decide)]
    have hW : ∀ j, j ≠ 0 → (up1 (up1 u 0 1 (u 0 14)) 0 12 ((up1 u 0 1 (u 0 14)) 0 15)) j = u j := fun j hj => by rw [up1_ne hj, up1_ne hj]
    have hW0 : ∀ k, k ≠ 1 → k ≠ 12 → (up1 (up1 u 0 1 (u 0 14)) 0 12 ((up1 u 0 1 (u 0 14)) 0 15)) 0 k = u 0 k := fun k h1 h2 => by
      rw [up1_eq, upd_ne h2, up1_eq, upd_ne h1]
    have w1 : (up1 (up1 u 0 1 (u 0 14)) 0 12 ((up1 u 0 1 (u 0 14)) 0 15)) 0 1 = u 0 14 := rfl
    have w12 : (up1 (up1 u 0 1 (u 0 14)) 0 12 ((up1 u 0 1 (u 0 14)) 0 15)) 0 12 = u 0 15 := rfl
    generalize up1 (up1 u 0 1 (u 0 14)) 0 12 ((up1 u 0 1 (u 0 14)) 0 15) = W at *
    obtain ⟨g1, g2, g5, e1, e2, e3, e4⟩ := bk28 (u := W) 7 0 2000 (W 1) (by omega) (by omega) (fun j hj => absurd hj (Nat.not_lt_zero j)) (fun j hj => rfl)
    rw [up2_self] at e1
    rw [show (0 : Int32) = nI 0 from rfl, e1, w1, c3, c3', c4]
    have x1 : g1 = v 17 := Z7_eq (fun k hk => by rw [e2.2 k hk, hW 1 (by decide), ← a1]; exact Rw_Z7 a2 k hk) i1 (fun k hk => by rw [e2.1 k hk, hW 9 (by decide)]; exact c6 k hk)
    have x2 : va_cpy (v 18) (v 9) 0 0 5 = g2 := by
      funext j
      by_cases e : j < 5
      · rw [sb_cpy0' e, (e3 j e).1, hW 9 (by decide)]; exact ((c7 j e).1).symm
      · rw [pk_cpy_out (by omega), (e4 j (by omega)).1, hW 2 (by decide), a4]
    have x5 : va_cpy (v 19) (v 12) 0 0 5 = g5 := by
      funext j
      by_cases e : j < 5
      · rw [sb_cpy0' e, (e3 j e).2, hW 9 (by decide)]; exact ((c7 j e).2).symm
      · rw [pk_cpy_out (by omega), (e4 j (by omega)).2, hW 5 (by decide), a7]
    have y18 : ∀ r, r < ni → g2 r = v 18 r := fun r hr => by
      have := c8.1
      rw [(e3 r (by omega)).1, hW 9 (by decide)]; exact (c7 r (by omega)).1
    have y19 : ∀ r, r < ni → g5 r = v 19 r := fun r hr => by
      have := c8.1
      rw [(e3 r (by omega)).2, hW 9 (by decide)]; exact (c7 r (by omega)).2
    have hRI : RI g2 (v 10) (v 11) g5 ni := ⟨c8.1, fun r hr => by rw [y18 r hr, y19 r hr]; exact c8.2 r hr⟩
    rw [x2, x5, cpy7 i1 (Rw_Z7 a2), x1]
    have V : ∀ j, ¬ (j = 0 ∨ j = 1 ∨ j = 4 ∨ j = 9 ∨ j = 12) → (up1 (up1 (up2 (up2 (up2 v 1 (v 17)) 9 g2) 12 g5) 4 4 (nI ni)) 0 9 (nI ti)) j = v j := fun j hj => by rw [up1_ne (by omega), up1_ne (by omega), up2_ne (by omega), up2_ne (by omega), up2_ne (by omega)]
    have U : ∀ j, ¬ (j = 0 ∨ j = 1 ∨ j = 2 ∨ j = 5) → (up2 (up2 (up2 W 1 (v 17)) 2 g2) 5 g5) j = u j := fun j hj => by rw [up2_ne (by omega), up2_ne (by omega), up2_ne (by omega), hW j (by omega)]
    have U0 : ∀ k, k ≠ 1 → k ≠ 12 → (up2 (up2 (up2 W 1 (v 17)) 2 g2) 5 g5) 0 k = u 0 k := fun k h1 h2 => by rw [up2_ne (by omega), up2_ne (by omega), up2_ne (by omega), hW0 k h1 h2]
    have V0 : ∀ k, k ≠ 9 → (up1 (up1 (up2 (up2 (up2 v 1 (v 17)) 9 g2) 12 g5) 4 4 (nI ni)) 0 9 (nI ti)) 0 k = v 0 k := fun k h9 => by rw [up1_eq, upd_ne h9, up1_ne (by omega), up2_ne (by omega), up2_ne (by omega), up2_ne (by omega)]
    have V1 : (up1 (up1 (up2 (up2 (up2 v 1 (v 17)) 9 g2) 12 g5) 4 4 (nI ni)) 0 9 (nI ti)) 1 = v 17 := rfl
    have V44 : (up1 (up1 (up2 (up2 (up2 v 1 (v 17)) 9 g2) 12 g5) 4 4 (nI ni)) 0 9 (nI ti)) 4 4 = nI ni := rfl
    have V9 : (up1 (up1 (up2 (up2 (up2 v 1 (v 17)) 9 g2) 12 g5) 4 4 (nI ni)) 0 9 (nI ti)) 9 = g2 := rfl
    have V12 : (up1 (up1 (up2 (up2 (up2 v 1 (v 17)) 9 g2) 12 g5) 4 4 (nI ni)) 0 9 (nI ti)) 12 = g5 := rfl
    have V09 : (up1 (up1 (up2 (up2 (up2 v 1 (v 17)) 9 g2) 12 g5) 4 4 (nI ni)) 0 9 (nI ti)) 0 9 = nI ti := rfl
    have U1 : (up2 (up2 (up2 W 1 (v 17)) 2 g2) 5 g5) 1 = v 17 := rfl
    have U2 : (up2 (up2 (up2 W 1 (v 17)) 2 g2) 5 g5) 2 = g2 := rfl
    have U5 : (up2 (up2 (up2 W 1 (v 17)) 2 g2) 5 g5) 5 = g5 := rfl
    have U01 : (up2 (up2 (up2 W 1 (v 17)) 2 g2) 5 g5) 0 1 = nI ni := w1.trans c3'
    have U012 : (up2 (up2 (up2 W 1 (v 17)) 2 g2) 5 g5) 0 12 = nI ti := w12.trans c4'
    refine ⟨_, _, _, rfl, rfl, ni, nt, ti, tc, tb, ?_⟩
    generalize up1 (up1 (up2 (up2 (up2 v 1 (v 17)) 9 g2) 12 g5) 4 4 (nI ni)) 0 9 (nI ti) = v' at *
    generalize up2 (up2 (up2 W 1 (v 17)) 2 g2) 5 g5 = u' at *
    refine ⟨⟨V44, ?_, b3, fun t ht => ⟨(b4 t ht).1, ?_, ?_⟩⟩, ⟨U01, ?_, ⟨m3, c2, U012⟩, fun t ht => ⟨(m4 t ht).1, ?_, ?_⟩⟩, ⟨⟨V1.trans U1.symm, ?_, ?_⟩, ⟨V9.trans U2.symm, ?_, ?_, V12.trans U5.symm⟩, ?_, ⟨?_, V09, ?_⟩, ?_, ?_⟩, ⟨⟨q, t1, ?_, ?_, ?_⟩, ?_⟩, ⟨?_, ?_, ?_⟩, ?_⟩
    · rw [V9, V12, V 10 (by omega), V 11 (by omega)]; exact hRI
    · rw [V (43 + t) (by omega)]; exact (b4 t ht).2.1
    · rw [V (37 + t) (by omega)]; exact (b4 t ht).2.2
    · rw [U2, U5, U 3 (by omega), U 4 (by omega), ← a5, ← a6]; exact hRI
    · rw [U 8 (by omega)]; exact (m4 t ht).2.1
    · rw [U 7 (by omega)]; exact (m4 t ht).2.2
    · rw [V1]; exact c5
    · rw [V1]; exact c5'
    · rw [V 10 (by omega), U 3 (by omega)]; exact a5
    · rw [V 11 (by omega), U 4 (by omega)]; exact a6
    · rw [U0 6 (by omega) (by omega)]; exact a8
    · rw [V0 8 (by omega)]; exact a9
    · rw [U0 11 (by omega) (by omega)]; exact a11
    · rw [V 2 (by omega)]; exact a12
    · intro d hd; rw [V (20 + d) (by omega)]; exact a13 d hd
    · rw [V 5 (by omega)]; exact t2
    · rw [U0 8 (by omega) (by omega)]; exact t3
    · rw [V 13 (by omega), U 6 (by omega)]; exact t4
    · rw [U 14 (by omega)]; exact t5
    · rw [V 17 (by omega)]; exact i1
    · rw [V 8 (by omega), U0 13 (by omega) (by omega)]; exact i2
    · rw [V 8 (by omega), V 17 (by omega), V 18 (by omega), V 19 (by omega), V 10 (by omega), V 11 (by omega), U 9 (by omega), U0 14 (by omega) (by omega), U0 15 (by omega) (by omega)]
      exact Or.inr ⟨i3, ni, ti, Nat.le_refl _, c2, ⟨c3, c3'⟩, ⟨c4, c4'⟩, ⟨c5, c5'⟩, c6, c7, c8⟩
    · intro s hs
      rw [V 15 (by omega), V 16 (by omega), V (27 + s) (by omega), U 10 (by omega), U 11 (by omega), U 12 (by omega)]
      exact hS s hs
