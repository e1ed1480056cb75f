/-! rate: both sides -/
theorem rateP {v u : gV} {n nt t : Nat} {tc tb : Nat → Nat → Nat} (hR : Rel v u n nt t tc tb) (x1 x2 x3 : Int32) : ∃ x v' u', fX1_put v x1 x2 x3 = some (x, v') ∧ fX6_rate u x1 x2 x3 = some (x, u') ∧ (∃ n', Rel v' u' n' nt t tc tb) ∧ (∀ j, ¬ (j = 4 ∨ 9 ≤ j ∧ j ≤ 12) → v' j = v j) ∧ ∀ j, ¬ (j = 0 ∨ 2 ≤ j ∧ j ≤ 5) → u' j = u j := by
  obtain ⟨hB, hM, ⟨⟨a1, a2, a3⟩, ⟨a4, a5, a6, a7⟩, -⟩, -⟩ := id hR
  have n5 := hB.2.1.1
  have stay : ∀ x : Int32, fX1_put v x1 x2 x3 = some (x, v) → fX6_rate u x1 x2 x3 = some (x, u) → ∃ x v' u', fX1_put v x1 x2 x3 = some (x, v') ∧ fX6_rate u x1 x2 x3 = some (x, u') ∧ (∃ n', Rel v' u' n' nt t tc tb) ∧ (∀ j, ¬ (j = 4 ∨ 9 ≤ j ∧ j ≤ 12) → v' j = v j) ∧ ∀ j, ¬ (j = 0 ∨ 2 ≤ j ∧ j ≤ 5) → u' j = u j := fun x e1 e2 => ⟨x, v, u, e1, e2, ⟨n, hR⟩, fun _ _ => rfl, fun _ _ => rfl⟩
  by_cases h1 : ∃ k, k < 6 ∧ x1 = nI k
  · obtain ⟨k, hk, rfl⟩ := h1
    by_cases h3 : ∃ m, m < 9 + 1 ∧ x3 = nI m
    · obtain ⟨m, hm, rfl⟩ := h3
      have b39 : (11 ≤ x2 ∧ x2 ≤ 39) ∨ ((x2 < 11 ∨ 39 < x2) ∧ ¬ (11 ≤ x2 ∧ x2 ≤ 39)) := by
        by_cases c : 11 ≤ x2 ∧ x2 ≤ 39
        · exact Or.inl c
        · refine Or.inr ⟨?_, c⟩
          rw [Int32.le_iff_toInt_le, Int32.le_iff_toInt_le] at c
          rw [Int32.lt_iff_toInt_lt, Int32.lt_iff_toInt_lt]
          omega
      rcases b39 with c | ⟨c, d⟩
      · obtain ⟨y, hy, rfl⟩ := (rngC (x := x2) (n := 39) (by decide)).mp ⟨by have c1 := c.1; rw [Int32.le_iff_toInt_le, show (11 : Int32).toInt = 11 from rfl] at c1; rw [Int32.le_iff_toInt_le, i32_0]; omega, c.2⟩
        have hy1 : 11 ≤ y := by
          have c1 := c.1
          rw [Int32.le_iff_toInt_le, show (11 : Int32).toInt = 11 from rfl, nI_toInt (by omega)] at c1
          omega
        have e10 : nI y - nI y / 10 * 10 = nI (y % 10) := pk_rem (d := 10) (by omega) (by decide) (by decide)
        have d10 : nI y / 10 = nI (y / 10) := pk_div (d := 10) (by omega) (by decide) (by decide)
        have hc : fX1_put v (nI k) (nI y) (nI m) = (if nI (y % 10) = 0 then some ((-2), v) else if n < 5 then some (nI n, up1 (up1 (up1 (up1 (up1 v 9 n (nI k)) 10 n (nI (y / 10))) 11 n (nI (y % 10))) 12 n (nI m)) 4 4 (nI (n + 1))) else some (-4, v)) := by
          unfold fX1_put
          rw [cIsKind hk, gB_some, if_neg ne10, if_neg (nI_nltL (y := 11) (b := 11) rfl rfl hy1 (by omega)), if_neg (nI_nltL (x := 39) (a := 39) rfl rfl (by omega) (by decide)), cIsMore hm, e10, d10, gB_some, if_neg ne10]
          by_cases c0 : nI (y % 10) = 0
          · rw [if_pos c0, if_pos c0]
          · rw [if_neg c0, if_neg c0, hB.1, if_neg (nI_pos (by omega))]
            by_cases c5 : n < 5
            · simp only [up1_ne (show (4 : Nat) ≠ 9 by decide), up1_ne (show (4 : Nat) ≠ 10 by decide), up1_ne (show (4 : Nat) ≠ 11 by decide), up1_ne (show (4 : Nat) ≠ 12 by decide), hB.1]
              have g5 : gin (nI n) 5 = true := gin_nI (by omega) (by decide)
              rw [if_pos (nI_yltL (y := 5) (b := 5) rfl rfl c5 (by decide)), if_pos g5, if_pos g5, if_pos g5, if_pos g5, if_pos c5, nI_clamp (by omega), up1_eq', nI_1, show (1 : Int32) = nI 1 from rfl, pk_sub (by omega), Nat.add_sub_cancel]
            · rw [if_neg (nI_nltL (y := 5) (b := 5) rfl rfl (by omega) (by omega)), if_neg c5]
        have hm' : fX6_rate u (nI k) (nI y) (nI m) = (if nI (y % 10) = 0 then some ((-2), u) else if n < 5 then some (nI n, up1 (up1 (up1 (up1 (up1 u 2 n (nI k)) 3 n (nI (y / 10))) 4 n (nI (y % 10))) 5 n (nI m)) 0 1 (nI (n + 1))) else some (-4, u)) := by
          unfold fX6_rate
          rw [mIsSo hk hm, gB_some, if_neg ne10, mInT c, e10, d10, gB_some, if_neg ne10]
          by_cases c0 : nI (y % 10) = 0
          · rw [if_pos c0, if_pos c0]
          · rw [if_neg c0, if_neg c0, hM.1]
            by_cases c5 : n < 5
            · simp only [up1_ne (show (0 : Nat) ≠ 2 by decide), up1_ne (show (0 : Nat) ≠ 3 by decide), up1_ne (show (0 : Nat) ≠ 4 by decide), up1_ne (show (0 : Nat) ≠ 5 by decide), hM.1]
              have g5 : gin (nI n) 5 = true := gin_nI (by omega) (by decide)
              rw [if_neg (nI_neL (y := 5) (b := 5) rfl rfl (by omega) (by omega) (by decide)), if_pos g5, if_pos g5, if_pos g5, if_pos g5, if_pos c5, nI_clamp (by omega), up1_eq', nI_1, show (1 : Int32) = nI 1 from rfl, pk_sub (by omega), Nat.add_sub_cancel]
            · obtain rfl : n = 5 := by omega
              rw [if_pos (show nI 5 = 5 from rfl), if_neg c5]
        by_cases c0 : nI (y % 10) = 0
        · rw [if_pos c0] at hc hm'
          exact stay _ hc hm'
        · rw [if_neg c0] at hc hm'
          by_cases c5 : n < 5
          · rw [if_pos c5] at hc hm'
            refine ⟨_, _, _, hc, hm', ⟨n + 1, Rel_rt (Nat.le_succ n) (fun j hj => ?_) (fun j hj => ?_) (fun k hk => ?_) ?_ ?_ ⟨?_, ?_, ?_, ?_⟩ ⟨c5, fun i hi => ?_⟩ (fun i hi => ⟨?_, ?_⟩) hR⟩, fun j hj => ?_, fun j hj => ?_⟩
            · rw [up1_ne (by omega), up1_ne (by omega), up1_ne (by omega), up1_ne (by omega), up1_ne (by omega)]
            · rw [up1_ne (by omega), up1_ne (by omega), up1_ne (by omega), up1_ne (by omega), up1_ne (by omega)]
            · rw [up1_eq, upd_ne hk, up1_ne (by omega), up1_ne (by omega), up1_ne (by omega), up1_ne (by omega)]
            · rw [up1_eq']
            · rw [up1_eq']
            · rw [up1_ne (by omega), up1_ne (by omega), up1_ne (by omega), up1_ne (by omega), up1_eq, up1_ne (by omega), up1_ne (by omega), up1_ne (by omega), up1_ne (by omega), up1_eq, a4]
            · rw [up1_ne (by omega), up1_ne (by omega), up1_ne (by omega), up1_eq, up1_ne (show 10 ≠ 9 by omega), up1_ne (by omega), up1_ne (by omega), up1_ne (by omega), up1_eq, up1_ne (by omega), a5]
            · rw [up1_ne (by omega), up1_ne (by omega), up1_eq, up1_ne (show 11 ≠ 10 by omega), up1_ne (by omega), up1_ne (by omega), up1_ne (by omega), up1_eq, up1_ne (by omega), up1_ne (by omega), a6]
            · rw [up1_ne (by omega), up1_eq, up1_ne (show 12 ≠ 11 by omega), up1_ne (by omega), up1_ne (by omega), up1_ne (by omega), up1_eq, up1_ne (by omega), up1_ne (by omega), up1_ne (by omega), a7]
            · rw [up1_ne (show 9 ≠ 4 by decide), up1_ne (show 10 ≠ 4 by decide), up1_ne (show 11 ≠ 4 by decide), up1_ne (show 12 ≠ 4 by decide), up1_ne (show 9 ≠ 12 by decide), up1_ne (show 10 ≠ 12 by decide), up1_ne (show 11 ≠ 12 by decide), up1_ne (show 9 ≠ 11 by decide), up1_ne (show 10 ≠ 11 by decide), up1_ne (show 9 ≠ 10 by decide), up1_eq, up1_eq, up1_eq, up1_eq, up1_ne (show 12 ≠ 11 by decide), up1_ne (show 12 ≠ 10 by decide), up1_ne (show 12 ≠ 9 by decide), up1_ne (show 11 ≠ 10 by decide), up1_ne (show 11 ≠ 9 by decide), up1_ne (show 10 ≠ 9 by decide)]
              by_cases e : i = n
              · have h0 : y % 10 ≠ 0 := fun z => c0 (by rw [z]; rfl)
                rw [e, upd_eq, upd_eq, upd_eq, upd_eq, nI_toInt (by omega), nI_toInt (by omega), nI_toInt (by omega), nI_toInt (by omega)]
                omega
              · rw [upd_ne e, upd_ne e, upd_ne e, upd_ne e]
                exact hB.2.1.2 i (by omega)
            · rw [up1_ne (by omega), up1_ne (by omega), up1_ne (by omega), up1_eq, upd_ne (by omega), up1_ne (by omega)]
            · rw [up1_ne (by omega), up1_ne (by omega), up1_eq, upd_ne (by omega), up1_ne (by omega), up1_ne (by omega)]
            · rw [up1_ne (by omega), up1_ne (by omega), up1_ne (by omega), up1_ne (by omega), up1_ne (by omega)]
            · rw [up1_ne (by omega), up1_ne (by omega), up1_ne (by omega), up1_ne (by omega), up1_ne (by omega)]
          · rw [if_neg c5] at hc hm'
            exact stay _ hc hm'
      · refine stay (-2) ?_ ?_
        · unfold fX1_put
          rw [cIsKind hk, gB_some, if_neg ne10]
          by_cases c11 : x2 < 11
          · rw [if_pos c11]
          · rw [if_neg c11, if_pos (c.resolve_left c11)]
        · unfold fX6_rate
          rw [mIsSo hk hm, gB_some, if_neg ne10, mInF d, gB_some, if_pos rfl]
    · refine stay (-2) ?_ ?_
      · unfold fX1_put
        rw [cIsKind hk, gB_some, if_neg ne10, cIsMoreF h3, gB_some, if_pos rfl, ite_same, ite_same, ite_same]
      · unfold fX6_rate
        rw [mIsSoF (Or.inr h3), gB_some, if_pos rfl]
  · refine stay (-2) ?_ ?_
    · unfold fX1_put
      rw [cIsKindF h1, gB_some, if_pos rfl]
    · unfold fX6_rate
      rw [mIsSoF (Or.inl h1), gB_some, if_pos rfl]
theorem op_rate {v u : gV} (h : RelE v u) (x1 x2 x3 : Int32) : ∃ x v' u', fX5_rate v x1 x2 x3 = some (x, v') ∧ fX6_rate u x1 x2 x3 = some (x, u') ∧ RelE v' u' := by
  obtain ⟨n, nt, t, tc, tb, hR⟩ := h
  obtain ⟨x, v', u', e1, e2, ⟨n', e3⟩, -⟩ := rateP hR x1 x2 x3
  unfold fX5_rate
  rw [e1, gB_some]
  exact ⟨_, _, _, rfl, e2, n', nt, t, tc, tb, e3⟩
