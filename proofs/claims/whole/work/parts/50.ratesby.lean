/-! ratesBy: both sides -/
theorem i32_lt31 (x : Int32) : x.toInt < 2 ^ 31 := by
  have := Int32.toInt_lt x
  omega
theorem ratesByL {nt t s z y : Nat} {x3 : Int32} {tc tb : Nat → Nat → Nat} (hs : s < 4) (hz : z ≤ 40) (hy : y ≤ 5) : ∀ (k i fuel n : Nat) (a : Int32) (v u : gV), k < fuel → i + k = y → Rel v u n nt t tc tb → v 16 s = nI z → ∃ x v' u', fX5_ratesBy_68 fuel v (nI s) x3 (nI y) a (nI i) = some (x, v') ∧ fX6_ratesBy_63 fuel u (nI s) x3 (nI y) a (nI i) = some (x, u') ∧ RelE v' u' := by
  intro k
  induction k with
  | zero =>
    intro i fuel n a v u hf hi hR h16
    obtain ⟨q, rfl⟩ : ∃ q, fuel = q + 1 := ⟨fuel - 1, by omega⟩
    rw [fX5_ratesBy_68, fX6_ratesBy_63, if_pos (nI_yleL rfl rfl (by omega) (by omega)), if_pos (nI_yleL rfl rfl (by omega) (by omega))]
    exact ⟨_, _, _, rfl, rfl, n, nt, t, tc, tb, hR⟩
  | succ k ih =>
    intro i fuel n a v u hf hi hR h16
    obtain ⟨q, rfl⟩ : ∃ q, fuel = q + 1 := ⟨fuel - 1, by omega⟩
    have hE : RelE v u := ⟨n, nt, t, tc, tb, hR⟩
    rw [fX5_ratesBy_68, fX6_ratesBy_63, if_neg (nI_nleL rfl rfl (by omega) (by omega)), if_neg (nI_nleL rfl rfl (by omega) (by omega))]
    by_cases c0 : x3 < 0
    · rw [if_pos c0, if_pos c0]
      exact ⟨_, _, _, rfl, rfl, hE⟩
    · obtain ⟨h1, h2, z', q1, q2, q3, q4, q5⟩ := hR.2.2.2.2.2 s hs
      have ez : z = z' := (nI_eq (by omega) (by omega)).mp (h16.symm.trans q2)
      subst ez
      rw [if_neg c0, if_neg c0, cSize hs, gB_some, if_pos (gin_nI hs (by decide)), nI_clamp (show s < 2 ^ 31 by omega), q3, q2]
      have c0' : 0 ≤ x3.toInt := by rw [Int32.lt_iff_toInt_lt, i32_0] at c0; omega
      obtain ⟨p, hp, rfl⟩ := nI_ex (n := 2 ^ 31) c0' (i32_lt31 x3)
      have e3 : (3 : Int32) * nI i = nI (3 * i) := by rw [show (3 : Int32) = nI 3 from rfl, pk_mul]
      have e3' : (3 : Int32) * (nI i + 1) = nI (3 * (i + 1)) := by rw [show (3 : Int32) = nI 3 from rfl, nI_1, pk_mul]
      have hpT : (nI p).toInt = p := nI_toInt hp
      have hzT : (nI z).toInt = z := nI_toInt (by omega)
      have h3T : (nI (3 * (i + 1))).toInt = (3 * (i + 1) : Nat) := nI_toInt (by omega)
      have hzs : (nI z - nI (3 * (i + 1))).toInt = (z : Int) - (3 * (i + 1) : Nat) := by rw [i32_sub (by omega) (by omega), hzT, h3T]
      rw [e3, e3', nI_add]
      by_cases good : p + 3 * (i + 1) ≤ z
      · have d1 : nI p ≤ nI z - nI (3 * (i + 1)) := by rw [Int32.le_iff_toInt_le, hzs]; omega
        have d2 : ¬ nI (p + 3 * i) < nI p := nI_nltL rfl rfl (by omega) (by omega)
        have d3 : nI (p + 3 * i) ≤ nI z - 3 := by
          rw [show (3 : Int32) = nI 3 from rfl, pk_sub (by omega)]
          exact nI_yleL rfl rfl (by omega) (by omega)
        rw [if_pos d1, if_neg d2, if_pos d3, show (2 : Int32) = nI 2 from rfl, nI_40, nI_1, nI_1, nI_add, nI_add, if_pos (gin_nI (by omega) (by decide)), if_pos (gin_nI (by omega) (by decide)), if_pos (gin_nI (by omega) (by decide)), nI_clamp (by omega), nI_clamp (by omega), nI_clamp (by omega), cGet hs q2 (by omega) q1, gB_some, cGet hs q2 (by omega) q1, gB_some, cGet hs q2 (by omega) q1, gB_some, q5 (p + 3 * i) (by omega), q5 (p + 3 * i + 1) (by omega), q5 (p + 3 * i + 2) (by omega)]
        obtain ⟨x, v', u', f1, f2, ⟨n', f3⟩, f4, f5⟩ := rateP hR (u 12 (40 * s + (p + 3 * i))) (u 12 (40 * s + (p + 3 * i) + 1)) (u 12 (40 * s + (p + 3 * i) + 2))
        rw [show 40 * s + (p + 3 * i + 1) = 40 * s + (p + 3 * i) + 1 by omega, show 40 * s + (p + 3 * i + 2) = 40 * s + (p + 3 * i) + 2 by omega, f1, f2, gB_some, gB_some]
        unfold fX5_ratesBy_164 fX6_ratesBy_152
        rw [nI_1]
        have h16' : v' 16 s = nI z := by rw [f4 16 (by omega)]; exact q2
        by_cases c : x < 0
        · rw [if_pos c, if_pos c]
          exact ih (i + 1) q n' _ v' u' (by omega) (by omega) f3 h16'
        · rw [if_neg c, if_neg c]
          exact ih (i + 1) q n' _ v' u' (by omega) (by omega) f3 h16'
      · have d1 : ¬ nI p ≤ nI z - nI (3 * (i + 1)) := by rw [Int32.le_iff_toInt_le, hzs]; omega
        rw [if_neg d1]
        by_cases c1 : nI (p + 3 * i) < nI p
        · rw [if_pos c1]; exact ⟨_, _, _, rfl, rfl, hE⟩
        · have d3 : ¬ nI (p + 3 * i) ≤ nI z - 3 := by
            have hz3 : (nI z - 3).toInt = (z : Int) - 3 := by rw [i32_sub (by rw [i32_3]; omega) (by rw [i32_3]; omega), hzT, i32_3]
            rw [Int32.lt_iff_toInt_lt] at c1
            rw [Int32.le_iff_toInt_le, hz3]
            by_cases big : p + 3 * i < 2 ^ 31
            · rw [nI_toInt big]; omega
            · rw [hpT] at c1; omega
          rw [if_neg c1, if_neg d3]; exact ⟨_, _, _, rfl, rfl, hE⟩
theorem op_ratesBy {v u : gV} (h : RelE v u) (x1 x2 x3 x4 : Int32) : ∃ x v' u', fX5_ratesBy v x1 x2 x3 x4 = some (x, v') ∧ fX6_ratesBy u x1 x2 x3 x4 = some (x, u') ∧ RelE v' u' := by
  have hE := h
  obtain ⟨n, nt, t, tc, tb, hR⟩ := h
  unfold fX5_ratesBy fX6_ratesBy
  by_cases hx : ∃ s, s < 4 ∧ x1 = nI s
  · obtain ⟨s, hs, rfl⟩ := hx
    obtain ⟨h1, h2, z, q1, q2, q3, q4, q5⟩ := hR.2.2.2.2.2 s hs
    rw [cIsSheet hs, mIn03T hs, gB_some, gB_some, if_neg ne10, if_neg ne10]
    by_cases h2 : ∃ k, k < 2 + 1 ∧ x2 = nI k
    · obtain ⟨k, hk, rfl⟩ := h2
      have e2 : fX2_isSort v (nI k) = some (1, v) := good_gt (n := 2) (by decide) hk
      rw [e2, gB_some, if_neg ne10, mInT (b := 2) ((rngC (n := 2) (by decide)).mpr ⟨k, hk, rfl⟩), gB_some, if_neg ne10, show (5 : Int32) = nI 5 from rfl]
      by_cases h4 : ∃ y, y < 5 + 1 ∧ x4 = nI y
      · obtain ⟨y, hy, rfl⟩ := h4
        rw [good_le (by decide) hy, mInT (b := nI 5) ((rngC (n := 5) (by decide)).mpr ⟨y, hy, rfl⟩), gB_some, if_neg ne10, if_pos (gin_nI hs (by decide)), nI_clamp (show s < 2 ^ 31 by omega), ← h1]
        rcases refusal hR (nI s) with ⟨hx, -⟩ | ⟨s', hs', es, ⟨c, r1, -⟩ | ⟨c, r1, -⟩⟩
        · exact absurd ⟨s, hs, rfl⟩ hx
        · have : s = s' := (nI_eq (by omega) (by omega)).mp es
          subst this
          rw [r1, gB_some, if_neg (by decide), if_pos c]
          exact ⟨_, _, _, rfl, rfl, hE⟩
        · have : s = s' := (nI_eq (by omega) (by omega)).mp es
          subst this
          rw [r1, gB_some, if_pos rfl, if_neg c, if_pos (gin_nI hs (by decide)), if_pos (gin_nI hs (by decide))]
          by_cases d : v 15 s = nI k
          · rw [if_pos d, if_pos d]
            exact ratesByL hs q1 (show y ≤ 5 by omega) y 0 2000 n 0 v u (by omega) (by omega) hR q2
          · rw [if_neg d, if_neg d]
            exact ⟨_, _, _, rfl, rfl, hE⟩
      · rw [bad_le (by decide) h4, mInF (b := nI 5) (fun z => h4 ((rngC (n := 5) (by decide)).mp z)), gB_some, if_pos rfl]
        exact ⟨_, _, _, rfl, rfl, hE⟩
    · have e2 : fX2_isSort v x2 = some (0, v) := bad_gt (n := 2) (by decide) h2
      rw [e2, gB_some, if_pos rfl, mInF (b := 2) (fun z => h2 ((rngC (n := 2) (by decide)).mp z)), gB_some, if_pos rfl]
      exact ⟨_, _, _, rfl, rfl, hE⟩
  · rw [cIsSheetF hx, mIn03F hx, gB_some, gB_some, if_pos rfl, if_pos rfl]
    exact ⟨_, _, _, rfl, rfl, hE⟩
