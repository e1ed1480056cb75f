/-! drawn: both sides -/
theorem Rw_1 {s : Nat → Int32} {x : Int32} (h : Rw s) (h0 : 0 ≤ x.toInt) (h1 : x.toInt ≤ 999) : Rw (upd s 1 x) := by
  obtain ⟨a, b, c, d, z⟩ := h
  refine ⟨fun k hk => ?_, by rw [upd_ne (by decide)]; exact b, by rw [upd_ne (by decide)]; exact c, by rw [upd_ne (by decide)]; exact d, Z7_upd z (by decide)⟩
  by_cases e : k = 1
  · rw [e, upd_eq]
    exact ⟨h0, h1⟩
  · rw [upd_ne e]
    exact a k hk
theorem TJ_row {v w : gV} {n nt t : Nat} {tc tb : Nat → Nat → Nat} {r r' : Nat → Int32} (h : TJ v w n nt t tc tb r) (hr : Rw r') : TJ (up2 v 2 r') (up2 w 1 r') n nt t tc tb r' := TJ_to h (fun j hj => up2_ne (by omega)) (fun j hj => up2_ne (by omega)) up2_eq up2_eq hr
theorem drawnL {u : gV} {n nt t N : Nat} {tc tb : Nat → Nat → Nat} (hu : Rw (u 1)) (hN : N ≤ 200) : ∀ (k i fuel : Nat) (lot : Int64) (v w : gV) (r : Nat → Int32), k < fuel → i + k = N → TJ v w n nt t tc tb r → (∀ k, k < 7 → w 18 k = u 1 k) →
    ∃ x v' w', fX5_drunkByLot_14 fuel v (nI N) lot (nI i) = some (x, v') ∧ fX6_drunkBy_27 fuel w (nI N) lot (if N ≤ i then -1 else encO (mPk (w 2) (w 3) (w 4) (w 5) (-1) n r)) (nI (i + 1)) = some (x, up2 w' 1 (u 1)) ∧ stC v v' ∧ stM w w' ∧ Rw (v' 2) ∧ x = v' 2 5 := by
  intro k
  induction k with
  | zero =>
    intro i fuel lot v w r hf hi hJ h18
    obtain ⟨q, rfl⟩ : ∃ q, fuel = q + 1 := ⟨fuel - 1, by omega⟩
    rw [fX5_drunkByLot_14, fX6_drunkBy_27, if_pos (nI_yleL rfl rfl (by omega) (by omega)), if_pos (show N ≤ i by omega), if_pos rfl, TJ_back hJ hu h18, gB_some]
    obtain ⟨-, -, -, -, -, e1, e2, e3⟩ := hJ
    rw [e1, e2]
    exact ⟨_, _, _, rfl, rfl, stC_rf, stM_rf, by rw [e1]; exact e3, by rw [e1]⟩
  | succ k ih =>
    intro i fuel lot v w r hf hi hJ h18
    obtain ⟨q, rfl⟩ : ∃ q, fuel = q + 1 := ⟨fuel - 1, by omega⟩
    have n5 := hJ.1.2.1.1
    rw [fX5_drunkByLot_14, fX6_drunkBy_27, if_neg (nI_nleL rfl rfl (by omega) (by omega)), if_neg (show ¬ N ≤ i by omega), (TJ_pick hJ).1, gB_some]
    -- what comes behind a move
    have hgo : ∀ (lot' : Int64) (v' w' : gV) (r' : Nat → Int32), TJ v' w' n nt t tc tb r' → stC v v' → stM w w' → ∃ x v2 w2, fX5_drunkByLot_14 q v' (nI N) lot' (nI (i + 1)) = some (x, v2) ∧ fX6_drunkBy_96 (fX6_drunkBy_27 q) w' (nI N) lot' (nI (i + 1)) = some (x, up2 w2 1 (u 1)) ∧ stC v v2 ∧ stM w w2 ∧ Rw (v2 2) ∧ x = v2 2 5 := by
      intro lot' v' w' r' hJ' g1 g2
      obtain ⟨x, v2, w2, e1, e2, e3, e4, e5⟩ := ih (i + 1) q lot' v' w' r' (by omega) (by omega) hJ' (fun k hk => by rw [g2 18 (by decide) (by decide) (by decide)]; exact h18 k hk)
      refine ⟨x, v2, w2, e1, ?_, stC_tr g1 e3, stM_tr g2 e4, e5⟩
      unfold fX6_drunkBy_96 fX6_drunkBy_110
      rw [nI_1]
      by_cases e : N ≤ i + 1
      · rw [if_pos e] at e2
        rw [if_pos (nI_yleL rfl rfl e (by omega))]
        exact e2
      · rw [if_neg e] at e2
        rw [if_neg (nI_nleL rfl rfl (by omega) (by omega)), (TJ_pick hJ').2, gB_some]
        exact e2
    cases hP : mPk (w 2) (w 3) (w 4) (w 5) (-1) n r with
    | none =>
      rw [if_pos (encO_none rfl), if_pos (encO_none rfl), TJ_back hJ hu h18, gB_some]
      obtain ⟨-, -, -, -, -, e1, e2, e3⟩ := hJ
      rw [e1, e2]
      exact ⟨_, _, _, rfl, rfl, stC_rf, stM_rf, by rw [e1]; exact e3, by rw [e1]⟩
    | some m =>
      have hm := mPk_le hP
      have hcn := mPk_can hP
      obtain ⟨v1, w1, s1, s2, s3, s4, s5⟩ := TJ_says (k := 2) hJ (by decide)
      rw [show (nI 2 : Int32) = 2 from rfl] at s1 s2
      have hW : ∀ j, j = 0 ∨ (2 ≤ j ∧ j ≤ 5) → w1 j = w j := fun j hj => s5 j (by omega) (by omega) (by omega)
      rw [show encO (some m) = nI m from rfl, if_neg (nI_nm1 (by omega)), if_neg (nI_nm1 (by omega)), s2, gB_some]
      unfold fX5_drunkByLot_57 fX5_drunkByLot_113 fX6_drunkBy_93 fX6_drunkBy_94
      simp only [nI_1]
      by_cases h0 : nI m = 0
      · rw [if_pos h0, s1, gB_some]
        obtain ⟨v2, w2, f1, f2, f3, f4, f5⟩ := TJ_make s3 hm (by rw [hW 2 (by omega), hW 3 (by omega), hW 4 (by omega), hW 5 (by omega)]; exact hcn)
        rw [f1, f2, gB_some, gB_some, if_pos h0, if_pos h0]
        generalize mMk (w1 2) (w1 3) (w1 4) (w1 5) (LW (tc t) (tb t) 0) m r = r2 at f3
        have hsame : up1 w2 1 (1 : Int32).toNatClampNeg (w2 1 1 - 0) = w2 := by
          rw [Int32.sub_zero]; exact up1_same
        have gg1 : gin 1 7 = true := rfl
        obtain ⟨-, -, -, -, -, e1, e2, e3⟩ := id f3
        rw [if_pos gg1, if_pos gg1, hsame, e1, e2]
        have hgo2 := fun lot' => hgo lot' v2 w2 r2 f3 (stC_tr s4 f4) (stM_tr s5 f5)
        generalize hlot : lot * 48271 - lot * 48271 / 2147483647 * 2147483647 = lot'
        by_cases c1 : 0 ≤ lg_cmp (lot' - lot' / 100 * 100) (LW (tc t) (tb t) 2 r).toInt64
        · rw [if_pos c1, if_pos c1]
          by_cases c2 : r2 1 ≤ 0
          · rw [if_pos c2]; exact hgo2 lot'
          · rw [if_neg c2]; exact hgo2 lot'
        · rw [if_neg c1, if_neg c1]
          by_cases c2 : r2 1 ≤ 0
          · rw [if_pos c2, if_pos c2]; exact hgo2 lot'
          · rw [if_neg c2, if_neg c2]
            have hb := e3.1 1 (by decide)
            have hd : (r2 1 - 1).toInt = (r2 1).toInt - 1 := by rw [i32_sub (by rw [i32_1]; omega) (by rw [i32_1]; omega), i32_1]
            have hp : 0 < (r2 1).toInt := by
              rw [Int32.le_iff_toInt_le, i32_0] at c2
              omega
            have hr3 : Rw (upd r2 1 (r2 1 - 1)) := Rw_1 e3 (by omega) (by omega)
            have hJ3 := TJ_row f3 hr3
            rw [up1_def, up1_def, e1, show w2 (1 : Nat) = r2 from e2]
            exact hgo lot' _ _ _ hJ3 (stC_tr (stC_tr s4 f4) (fun j a b => up2_ne a)) (stM_tr (stM_tr s5 f5) (fun j a b c => up2_ne a))
      · rw [if_neg h0]
        obtain ⟨v2, w2, f1, f2, f3, f4, f5⟩ := TJ_make s3 hm (by rw [hW 2 (by omega), hW 3 (by omega), hW 4 (by omega), hW 5 (by omega)]; exact hcn)
        obtain ⟨v3, w3, g1, g2, g3, g4, g5⟩ := TJ_make hJ hm hcn
        rw [g1, gB_some, if_neg h0, f2, gB_some, if_neg h0]
        rw [hW 2 (by omega), hW 3 (by omega), hW 4 (by omega), hW 5 (by omega)] at f3
        have hJ3 : TJ v3 w2 n nt t tc tb (mMk (w 2) (w 3) (w 4) (w 5) (LW (tc t) (tb t) 0) m r) := by
          refine TJ_to g3 (fun j hj => rfl) (fun j hj => ?_) g3.2.2.2.2.2.1 f3.2.2.2.2.2.2.1 g3.2.2.2.2.2.2.2
          rw [f5 j (by omega) (by omega) (by omega), s5 j (by omega) (by omega) (by omega), g5 j (by omega) (by omega) (by omega)]
        exact hgo lot v3 w2 _ hJ3 g4 (stM_tr s5 f5)
