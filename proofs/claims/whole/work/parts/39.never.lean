/-! never: both sides -/
theorem digN {u : gV} {n row : Nat} (hu : u 0 1 = nI n) (h5 : n ≤ 5) (hw : row < 2 ^ 31) : ∀ (k i fuel m : Nat), k < fuel → i + k = n → m < 10 ^ i → ∃ m', m' < 10 ^ n ∧ fX6_rowDigits_4 fuel u (nI row) (nI m) (nI i) = some (nI m', u) := by
  intro k
  induction k with
  | zero =>
    intro i fuel m hf hi hm
    obtain ⟨q, rfl⟩ : ∃ q, fuel = q + 1 := ⟨fuel - 1, by omega⟩
    obtain rfl : i = n := by omega
    rw [fX6_rowDigits_4, hu, if_pos (nI_yleL rfl rfl (by omega) (by omega))]
    exact ⟨m, hm, rfl⟩
  | succ k ih =>
    intro i fuel m hf hi hm
    obtain ⟨q, rfl⟩ : ∃ q, fuel = q + 1 := ⟨fuel - 1, by omega⟩
    rw [fX6_rowDigits_4, hu, if_neg (nI_nleL rfl rfl (by omega) (by omega)), mDg h5 (by omega) hw, show (10 : Int32) = nI 10 from rfl, pk_mul, nI_add, nI_1]
    refine ih (i + 1) q _ (by omega) (by omega) ?_
    have hd : dg n row i < 4 := Nat.mod_lt _ (by decide)
    rw [Nat.pow_succ]
    omega
theorem digits' {v u : gV} {n row : Nat} (hv : v 4 4 = nI n) (hu : u 0 1 = nI n) (h5 : n ≤ 5) (hw : row < 2 ^ 31) : ∃ m, m < 2 ^ 31 ∧ fX5_inDigits v (nI row) = some (nI m, v) ∧ fX6_rowDigits u (nI row) = some (nI m, u) := by
  obtain ⟨x, e1, e2⟩ := digits hv hu h5 (nI row)
  obtain ⟨m, hm, e3⟩ := digN hu h5 hw n 0 2000 0 (by omega) (by omega) (by decide)
  have e4 : fX6_rowDigits u (nI row) = some (nI m, u) := e3
  rw [e4] at e2
  injection e2 with e2
  injection e2 with e2 _
  have hp : 10 ^ n ≤ 10 ^ 5 := Nat.pow_le_pow_right (by decide) h5
  refine ⟨m, by omega, by rw [e2]; exact e1, e4⟩
theorem nevBoth {v u w : gV} {n nt t row : Nat} {tc tb : Nat → Nat → Nat} (hR : Rel v u n nt t tc tb) (hs : sameM u w) (hw : row < 2 ^ 31) : ∃ e w', fX5_neverEnds v (nI row) (LW (tc t) (tb t) 0 (u 1)) = some (e, v) ∧ sameM u w' ∧ fX6_neverEnds w (nI row) = some (e, w') := by
  obtain ⟨hB, hM, ⟨⟨a1, -, -⟩, ⟨a4, a5, a6, a7⟩, -⟩, -⟩ := id hR
  have hM2 := mBase_same hs hM
  have n5 := hB.2.1.1
  have n6 := hB.2.2.1
  obtain ⟨m1, m2, ⟨-, ht, hl⟩, hTm⟩ := hM2
  have c := cNevL (v := v) (n := n) (row := row) hB.1 n5 hw (q := LW (tc t) (tb t) 0 (u 1)) n 2000 0 0 0 0 (by omega) (Nat.le_refl _) rfl rfl rfl rfl
  rw [Nat.sub_self, Nat.mul_zero, Nat.pow_zero, Nat.div_one, Int32.zero_add, Int32.zero_add, Int32.zero_add, Int32.zero_add] at c
  obtain ⟨g, g2, hg⟩ := mAsksOf (u := w) (k := 0) (show t < 6 by omega) (by decide) hl (hTm t ht).1 (hTm t ht).2
  obtain ⟨w', s1, e1⟩ := mNevL (n := n) (row := row) m1 m2 hw hg sameM_2 n 0 2000 (by omega) (by omega) rfl
  have e : ∀ j, j ≠ 0 → j < 15 → w j = u j := fun j h0 h15 => hs.1 j h0 (by omega) (by omega) (by omega)
  rw [e 1 (by decide) (by decide), e 2 (by decide) (by decide), e 3 (by decide) (by decide), e 4 (by decide) (by decide), e 5 (by decide) (by decide)] at e1
  rw [a1, a4, a5, a6, a7] at c
  unfold fX5_neverEnds fX6_neverEnds
  rw [hB.1]
  exact ⟨_, w', c, sameM_tr hs s1, e1⟩
theorem p4n {n : Nat} (h5 : n ≤ 5) : (1 : Int32) <<< ((2 * nI n) &&& 31) = nI (2 ^ (2 * n)) := by
  have hp : 2 ^ (2 * n) ≤ 2 ^ 10 := Nat.pow_le_pow_right (by decide) (by omega)
  rw [show (2 : Int32) = nI 2 from rfl, pk_mul, show (1 : Int32) = nI 1 from rfl, pk_shlN _ (2 * n) (shN _ (by omega)) (by omega), Nat.one_mul]
/-- once the first row is found, the reference only counts on -/
theorem nevOn {v u : gV} {n nt t : Nat} {x1 : Int32} {tc tb : Nat → Nat → Nat} (hR : Rel v u n nt t tc tb) (hx : x1 = 0) : ∀ (k i fuel m : Nat) (z : Int32) (w : gV), k < fuel → i + k = 2 ^ (2 * n) → m < 2 ^ 31 → sameM u w → ∃ w', sameM u w' ∧ fX6_never_19 fuel w x1 (nI m) z (nI i) = some (nI m, w') := by
  obtain ⟨hB, hM, -⟩ := id hR
  have n5 := hB.2.1.1
  have hp : 2 ^ (2 * n) ≤ 2 ^ 10 := Nat.pow_le_pow_right (by decide) (by omega)
  intro k
  induction k with
  | zero =>
    intro i fuel m z w hf hi hm hs
    obtain ⟨q, rfl⟩ : ∃ q, fuel = q + 1 := ⟨fuel - 1, by omega⟩
    rw [fX6_never_19, hs.2 1 (by decide), hM.1, p4n n5, if_pos (nI_yleL rfl rfl (by omega) (by omega)), if_pos hx]
    exact ⟨w, hs, rfl⟩
  | succ k ih =>
    intro i fuel m z w hf hi hm hs
    obtain ⟨q, rfl⟩ : ∃ q, fuel = q + 1 := ⟨fuel - 1, by omega⟩
    obtain ⟨e, w', -, s1, e1⟩ := nevBoth (row := i) hR hs (by omega)
    rw [fX6_never_19, hs.2 1 (by decide), hM.1, p4n n5, if_neg (nI_nleL rfl rfl (by omega) (by omega)), e1, gB_some, if_neg (nI_nm1 hm)]
    unfold fX6_never_56 fX6_never_60
    simp only [nI_1]
    by_cases c : e = 0
    · rw [if_pos c]
      exact ih (i + 1) q m _ w' (by omega) (by omega) hm s1
    · rw [if_neg c]
      exact ih (i + 1) q m _ w' (by omega) (by omega) hm s1
theorem neverL {v u : gV} {n nt t : Nat} {x1 : Int32} {tc tb : Nat → Nat → Nat} (hR : Rel v u n nt t tc tb) : ∀ (k i fuel : Nat) (y z : Int32) (w : gV), k < fuel → i + k = 2 ^ (2 * n) → sameM u w → (x1 = 0 → y = -1) → ∃ x w', sameM u w' ∧ fX5_never_44 fuel v x1 (LW (tc t) (tb t) 0 (u 1)) (nI (2 ^ (2 * n))) z (nI i) = some (x, v) ∧ fX6_never_19 fuel w x1 y z (nI i) = some (x, w') := by
  obtain ⟨hB, hM, -⟩ := id hR
  have n5 := hB.2.1.1
  have hp : 2 ^ (2 * n) ≤ 2 ^ 10 := Nat.pow_le_pow_right (by decide) (by omega)
  intro k
  induction k with
  | zero =>
    intro i fuel y z w hf hi hs hy
    obtain ⟨q, rfl⟩ : ∃ q, fuel = q + 1 := ⟨fuel - 1, by omega⟩
    rw [fX5_never_44, fX6_never_19, hs.2 1 (by decide), hM.1, p4n n5, if_pos (nI_yleL rfl rfl (by omega) (by omega)), if_pos (nI_yleL rfl rfl (by omega) (by omega))]
    by_cases c : x1 = 0
    · rw [if_pos c, if_pos c, hy c]
      exact ⟨_, w, hs, rfl, rfl⟩
    · rw [if_neg c, if_neg c]
      exact ⟨_, w, hs, rfl, rfl⟩
  | succ k ih =>
    intro i fuel y z w hf hi hs hy
    obtain ⟨q, rfl⟩ : ∃ q, fuel = q + 1 := ⟨fuel - 1, by omega⟩
    obtain ⟨e, w', e0, s1, e1⟩ := nevBoth (row := i) hR hs (by omega)
    rw [fX5_never_44, fX6_never_19, hs.2 1 (by decide), hM.1, p4n n5, if_neg (nI_nleL rfl rfl (by omega) (by omega)), if_neg (nI_nleL rfl rfl (by omega) (by omega)), e0, e1, gB_some, gB_some]
    unfold fX5_never_74 fX6_never_56 fX6_never_60
    simp only [nI_1]
    by_cases c : e = 0
    · rw [if_pos c, if_pos c]
      exact ih (i + 1) q y z w' (by omega) (by omega) s1 hy
    · rw [if_neg c, if_neg c]
      obtain ⟨m, hm, d1, d2⟩ := digits' (v := v) (u := w') (row := i) hB.1 (mBase_same s1 hM).1 n5 (by omega)
      by_cases c1 : x1 = 0
      · rw [if_pos c1, if_pos (hy c1), d1, d2, gB_some, gB_some]
        obtain ⟨w2, s2, e2⟩ := nevOn hR c1 k (i + 1) q m (z + nI 1) w' (by omega) (by omega) hm s1
        exact ⟨_, w2, s2, rfl, e2⟩
      · rw [if_neg c1]
        by_cases c2 : y = -1
        · rw [if_pos c2, d2, gB_some]
          exact ih (i + 1) q _ _ w' (by omega) (by omega) s1 (fun z => absurd z c1)
        · rw [if_neg c2]
          exact ih (i + 1) q _ _ w' (by omega) (by omega) s1 (fun z => absurd z c1)
theorem good1 {α : Type} {k : Nat} {A B : α} (h : k < 1 + 1) : (if nI k < 0 then A else if nI k ≤ 1 then B else A) = B := good_le (by decide) h
theorem bad1 {α : Type} {x : Int32} {A B : α} (h : ¬ ∃ k, k < 1 + 1 ∧ x = nI k) : (if x < 0 then A else if x ≤ 1 then B else A) = A := bad_le (n := 1) (by decide) h
theorem op_never {v u : gV} (h : RelE v u) (x1 : Int32) : ∃ x v' u', fX5_never v x1 = some (x, v') ∧ fX6_never u x1 = some (x, u') ∧ RelE v' u' := by
  have hE := h
  obtain ⟨n, nt, t, tc, tb, hR⟩ := h
  unfold fX5_never fX6_never
  by_cases hx : ∃ k, k < 1 + 1 ∧ x1 = nI k
  · obtain ⟨k, hk, rfl⟩ := hx
    obtain ⟨hB, hM, ⟨⟨a1, -, -⟩, -, -, ⟨a9, a10, a11⟩, -⟩, -⟩ := id hR
    have n5 := hB.2.1.1
    have n6 := hB.2.2.1
    obtain ⟨-, -, ⟨-, ht, hl⟩, hTm⟩ := hM
    have hp : 2 ^ (2 * n) ≤ 2 ^ 10 := Nat.pow_le_pow_right (by decide) (by omega)
    have hp0 : 0 < 2 ^ (2 * n) := Nat.pow_pos (by decide)
    obtain ⟨f, hf⟩ := cSays (v := v) (k := 0) (a := 1) (show t < 6 by omega) (by decide) (by decide) (hB.2.2.2 t ht).1 (hB.2.2.2 t ht).2
    have hR2 := Rel_same (sameC_49 (f := f) hR) sameM_rf hR
    obtain ⟨x, w', s1, e1, e2⟩ := neverL (x1 := nI k) hR2 (2 ^ (2 * n) - 1) 1 2000 (-1) 0 u (by omega) (by omega) sameM_rf (fun _ => rfl)
    rw [good1 hk, mInT (b := 1) ((rngC (n := 1) (by decide)).mpr ⟨k, hk, rfl⟩), gB_some, if_neg ne10, a10, show fX5_says v (nI t) 0 1 = _ from hf, gB_some, hR2.1.1, a1, p4n n5]
    exact ⟨x, _, w', e1, e2, n, nt, t, tc, tb, Rel_same ⟨fun _ _ _ _ _ => rfl, fun _ _ => rfl, hR2.2.2.1.2.2.2.2.1, hR2.2.2.1.2.2.2.2.2⟩ s1 hR2⟩
  · rw [bad1 hx, mInF (b := 1) (fun z => hx ((rngC (n := 1) (by decide)).mp z)), gB_some, if_pos rfl]
    exact ⟨_, _, _, rfl, rfl, hE⟩
