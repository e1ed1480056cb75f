/-! judge, behind: both sides -/
theorem cGet {v : gV} {s k z : Nat} (hs : s < 4) (hz : v 16 s = nI z) (hk : k < z) (h40 : z ≤ 40) : fX2_get v (nI s) (nI k) = some (v (27 + s) k, v) := by
  unfold fX2_get
  rw [cIsSheet hs, gB_some, if_neg ne10, if_neg (nI_pos (by omega)), if_pos (gin_nI hs (by decide)), nI_clamp (show s < 2 ^ 31 by omega), hz, if_neg (nI_nleL rfl rfl hk (by omega)), if_neg (nI_nleL (x := 40) (a := 40) rfl rfl (by omega) (by decide)), if_pos (gin_nI hs (by decide)), if_pos (gin_nI (show k < 40 by omega) (by decide)), nI_clamp (show k < 2 ^ 31 by omega)]
theorem judgeL {n nt t s z : Nat} {tc tb : Nat → Nat → Nat} (hs : s < 4) (h40 : z ≤ 40) : ∀ (k i fuel : Nat) (v w : gV) (r : Nat → Int32), k < fuel → i + k = z → TJ v w n nt t tc tb r → v 16 s = nI z → w 11 s = nI z → (∀ j, j < z → v (27 + s) j = w 12 (40 * s + j)) →
    ∃ x v' w' r', fX5_firstWrong_17 fuel v (nI s) (nI z) (nI i) = some (x, v') ∧ fX6_goesBy_2 fuel w (nI s) (nI i) = some (x, w') ∧ TJ v' w' n nt t tc tb r' ∧ stC v v' ∧ stM w w' := by
  intro k
  induction k with
  | zero =>
    intro i fuel v w r hf hi hJ h16 h11 hc
    obtain ⟨q, rfl⟩ : ∃ q, fuel = q + 1 := ⟨fuel - 1, by omega⟩
    rw [fX5_firstWrong_17, fX6_goesBy_2, if_pos (nI_yleL rfl rfl (by omega) (by omega)), if_pos (gin_nI hs (by decide)), nI_clamp (by omega), h11, if_pos (nI_yleL rfl rfl (by omega) (by omega))]
    exact ⟨_, _, _, r, rfl, rfl, hJ, stC_rf, stM_rf⟩
  | succ k ih =>
    intro i fuel v w r hf hi hJ h16 h11 hc
    obtain ⟨q, rfl⟩ : ∃ q, fuel = q + 1 := ⟨fuel - 1, by omega⟩
    have n5 := hJ.1.2.1.1
    rw [fX5_firstWrong_17, fX6_goesBy_2, if_neg (nI_nleL rfl rfl (by omega) (by omega)), if_pos (gin_nI hs (by decide)), nI_clamp (show s < 2 ^ 31 by omega), h11, if_neg (nI_nleL rfl rfl (by omega) (by omega)), cGet hs h16 (by omega) h40, gB_some, nI_40, if_pos (gin_nI (by omega) (by decide)), nI_clamp (by omega), ← hc i (by omega)]
    by_cases hx : ∃ m, m < n + 1 ∧ v (27 + s) i = nI m
    · obtain ⟨m, hm, e⟩ := hx
      rw [e, cIsMoveT hJ.1.1 n5 (by omega), mIsMoveT hJ.2.1.1 n5 (by omega), gB_some, gB_some, if_neg ne10, if_neg ne10]
      rcases TJ_can hJ (show m ≤ n by omega) with ⟨c1, c2, c3⟩ | ⟨c2, c3⟩
      · rw [c2, c3, gB_some, gB_some, if_neg ne10, if_neg ne10]
        obtain ⟨v', w', d1, d2, d3, d4, d5⟩ := TJ_make hJ (show m ≤ n by omega) c1
        rw [d1, d2, gB_some, gB_some, nI_1]
        obtain ⟨x, v2, w2, r2, e1, e2, e3, e4, e5⟩ := ih (i + 1) q v' w' _ (by omega) (by omega) d3 (by rw [d4 16 (by decide) (by decide)]; exact h16) (by rw [d5 11 (by decide) (by decide) (by decide)]; exact h11) (fun j hj => by rw [d4 (27 + s) (by omega) (by omega), d5 12 (by decide) (by decide) (by decide)]; exact hc j hj)
        exact ⟨x, v2, w2, r2, e1, e2, e3, stC_tr d4 e4, stM_tr d5 e5⟩
      · rw [c2, c3, gB_some, gB_some, if_pos rfl, if_pos rfl]
        exact ⟨_, _, _, r, rfl, rfl, hJ, stC_rf, stM_rf⟩
    · rw [cIsMoveF hJ.1.1 n5 hx, mIsMoveF hJ.2.1.1 n5 hx, gB_some, gB_some, if_pos rfl, if_pos rfl]
      exact ⟨_, _, _, r, rfl, rfl, hJ, stC_rf, stM_rf⟩
theorem judged {v u : gV} {n nt t s : Nat} {tc tb : Nat → Nat → Nat} (hR : Rel v u n nt t tc tb) (hs : s < 4) : ∃ x v' w1 w' r, fX5_firstWrong v (nI s) = some (x, v') ∧ fX6_keeps u 0 = some ((), w1) ∧ fX6_goesBy w1 (nI s) = some (x, w') ∧ TJ v' w' n nt t tc tb r ∧ fX6_laysBack w' 0 = some ((), up2 w' 1 (u 1)) ∧ Rel v' (up2 w' 1 (u 1)) n nt t tc tb := by
  obtain ⟨v1, w1, a1, a2, a3, a4, a5, a6⟩ := TJ_start hR
  obtain ⟨h1, h2, z, q1, q2, q3, q4, q5⟩ := hR.2.2.2.2.2 s hs
  obtain ⟨x, v2, w2, r2, e1, e2, e3, e4, e5⟩ := judgeL hs q1 z 0 2000 v1 w1 _ (by omega) (by omega) a3 (by rw [a4 16 (by decide) (by decide)]; exact q2) (by rw [a5 11 (by decide)]; exact q3) (fun j hj => by rw [a4 (27 + s) (by omega) (by omega), a5 12 (by decide)]; exact q5 j hj)
  unfold fX5_firstWrong fX6_goesBy
  rw [a1, gB_some, cSize hs, gB_some, a4 16 (by decide) (by decide), q2]
  have hu : Rw (u 1) := by rw [← hR.2.2.1.1.1]; exact hR.2.2.1.1.2.1
  exact ⟨x, v2, w1, w2, r2, e1, a2, e2, e3, TJ_back e3 hu (fun k hk => by rw [e5 18 (by decide) (by decide) (by decide)]; exact a6 k hk), Rel_same (TJ_sameC hR (stC_tr a4 e4) ⟨e3.2.2.2.2.2.1, e3.2.2.2.2.2.2.2⟩ rfl) (TJ_sameM a5 e5) hR⟩
theorem op_judge {v u : gV} (h : RelE v u) (x1 : Int32) : ∃ x v' u', fX5_judge v x1 = some (x, v') ∧ fX6_judge u x1 = some (x, u') ∧ RelE v' u' := by
  have hE := h
  obtain ⟨n, nt, t, tc, tb, hR⟩ := h
  unfold fX5_judge fX6_judge
  rcases refusal hR x1 with ⟨hx, r1, r2⟩ | ⟨s, hs, rfl, ⟨c, r1, r2⟩ | ⟨c, r1, r2⟩⟩
  · rw [r1, r2, gB_some, gB_some, if_neg (by decide), if_neg (by decide)]; exact ⟨_, _, _, rfl, rfl, hE⟩
  · rw [r1, r2, gB_some, gB_some, if_neg (by decide), if_neg (by decide)]; exact ⟨_, _, _, rfl, rfl, hE⟩
  · obtain ⟨x, v', w1, w', r, d1, d2, d3, -, d5, d6⟩ := judged hR hs
    rw [r1, r2, gB_some, gB_some, if_pos rfl, if_pos rfl, d1, d2, gB_some, gB_some, d3, gB_some, d5, gB_some]
    exact ⟨_, _, _, rfl, rfl, n, nt, t, tc, tb, d6⟩
theorem op_behind {v u : gV} (h : RelE v u) (x1 x2 : Int32) : ∃ x v' u', fX5_behind v x1 x2 = some (x, v') ∧ fX6_behind u x1 x2 = some (x, u') ∧ RelE v' u' := by
  have hE := h
  obtain ⟨n, nt, t, tc, tb, hR⟩ := h
  unfold fX5_behind fX6_behind
  rcases refusal hR x1 with ⟨hx, r1, r2⟩ | ⟨s, hs, rfl, ⟨c, r1, r2⟩ | ⟨c, r1, r2⟩⟩
  · rw [r1, r2, gB_some, gB_some, if_neg (by decide), if_neg (by decide)]; exact ⟨_, _, _, rfl, rfl, hE⟩
  · rw [r1, r2, gB_some, gB_some, if_neg (by decide), if_neg (by decide)]; exact ⟨_, _, _, rfl, rfl, hE⟩
  · rw [r1, r2, gB_some, gB_some, if_pos rfl, if_pos rfl]
    by_cases hx : ∃ k, k < 6 + 1 ∧ x2 = nI k
    · obtain ⟨k, hk, rfl⟩ := hx
      obtain ⟨x, v', w1, w', r, d1, d2, d3, dJ, d5, d6⟩ := judged hR hs
      rw [show (7 : Int32) = nI 7 from rfl, good_lt (by decide) (show k < 7 by omega), mInT (b := 6) ((rngC (n := 6) (by decide)).mpr ⟨k, hk, rfl⟩), gB_some, if_neg ne10, d1, d2, gB_some, gB_some, d3, gB_some]
      unfold fX6_behind_50
      obtain ⟨-, -, -, -, -, g1, g2, -⟩ := dJ
      by_cases e : x = -1
      · rw [if_pos e, if_pos e, if_pos (gin_nI (show k < 7 by omega) (by decide)), if_pos (gin_nI (show k < 7 by omega) (by decide)), d5, gB_some, g1, g2]
        exact ⟨_, _, _, rfl, rfl, n, nt, t, tc, tb, d6⟩
      · rw [if_neg e, if_neg e, d5, gB_some]
        exact ⟨_, _, _, rfl, rfl, n, nt, t, tc, tb, d6⟩
    · rw [show (7 : Int32) = nI 7 from rfl, bad_lt (by decide) hx, mInF (b := 6) (fun z => hx ((rngC (n := 6) (by decide)).mp z)), gB_some, if_pos rfl]
      exact ⟨_, _, _, rfl, rfl, hE⟩
