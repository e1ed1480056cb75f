/-! film: both sides -/
def FI (v0 u0 : gV) (n nt t : Nat) (tc tb : Nat → Nat → Nat) (s z i : Nat) (v w : gV) (r : Nat → Int32) : Prop := TJ v w n nt t tc tb r ∧ (∀ j, j ≠ 2 → j ≠ 49 → j ≠ 15 → j ≠ 16 → j ≠ 27 + s → v j = v0 j) ∧ (v 15 = upd (v0 15) s 2 ∧ v 16 = upd (v0 16) s (nI z)) ∧ (∀ j, j ≠ 1 → j ≠ 16 → j ≠ 17 → j ≠ 18 → j ≠ 12 → w j = u0 j) ∧ (∀ j, (j < 40 * s ∨ 40 * s + 40 ≤ j) → w 12 j = u0 12 j) ∧ (∀ k, k < 7 → w 18 k = u0 1 k) ∧ ∀ j, j < i → v (27 + s) j = w 12 (40 * s + j)
theorem FI_end {v0 u0 v w : gV} {n nt t s z i : Nat} {tc tb : Nat → Nat → Nat} {r : Nat → Int32} (hR : Rel v0 u0 n nt t tc tb) (hs : s < 4) (hi : i ≤ z) (hz : z ≤ 40) (h : FI v0 u0 n nt t tc tb s z i v w r) : fX6_laysBack w 0 = some ((), up2 w 1 (u0 1)) ∧ Rel (up1 v 16 s (nI i)) (up1 (up1 (up2 w 1 (u0 1)) 10 s 2) 11 s (nI i)) n nt t tc tb := by
  obtain ⟨hJ, c1, ⟨c15, c16⟩, d1, d12, d18, hc⟩ := h
  have hu : Rw (u0 1) := by rw [← hR.2.2.1.1.1]; exact hR.2.2.1.1.2.1
  refine ⟨TJ_back hJ hu d18, ?_⟩
  have hp := Rel_put (x := 2) (f := v (27 + s)) (g := w 12) hR hs (Or.inr (by decide)) (show i ≤ 40 by omega) (fun e => absurd e (by decide)) hc d12
  refine Rel_same ⟨fun j a b c d => ?_, fun k hk => ?_, ?_, fun d hd => ?_⟩ ⟨fun j a b c d => ?_, fun k hk => ?_⟩ hp
  · by_cases e1 : j = 27 + s
    · rw [e1, up2_eq, up1_ne (by omega)]
    · rw [up2_ne e1]
      by_cases e2 : j = 16
      · rw [e2, up1_eq, up1_eq, up1_ne (by decide), c16, upd_upd]
      · rw [up1_ne e2, up1_ne e2]
        by_cases e3 : j = 15
        · rw [e3, up1_eq, c15]
        · rw [up1_ne e3, c1 j b c e3 e2 e1]
  · rw [up1_ne (by decide), up2_ne (by omega), up1_ne (by decide), up1_ne (by decide), c1 0 (by decide) (by decide) (by decide) (by decide) (by omega)]
  · rw [up1_ne (by decide), hJ.2.2.2.2.2.1]; exact Rw_Z7 hJ.2.2.2.2.2.2.2
  · rw [up1_ne (by omega), c1 (20 + d) (by omega) (by omega) (by omega) (by omega) (by omega)]
    exact hR.2.2.1.2.2.2.2.2 d hd
  · by_cases e1 : j = 12
    · rw [e1, up2_eq, up1_ne (by decide), up1_ne (by decide), up2_ne (by decide)]
    · rw [up2_ne e1]
      by_cases e2 : j = 11
      · rw [e2, up1_eq, up1_eq, up1_ne (by decide), up1_ne (by decide), up2_ne (by decide), d1 11 (by decide) (by decide) (by decide) (by decide) (by decide)]
      · rw [up1_ne e2, up1_ne e2]
        by_cases e3 : j = 10
        · rw [e3, up1_eq, up1_eq, up2_ne (by decide), d1 10 (by decide) (by decide) (by decide) (by decide) (by decide)]
        · rw [up1_ne e3, up1_ne e3]
          by_cases e4 : j = 1
          · rw [e4, up2_eq]
          · rw [up2_ne e4, d1 j e4 b c d e1]
  · rw [up1_ne (by decide), up1_ne (by decide), up2_ne (by decide), up2_ne (by decide), up1_ne (by decide), up1_ne (by decide), d1 0 (by decide) (by decide) (by decide) (by decide) (by decide)]
theorem cShort {v : gV} {s z i : Nat} (hs : s < 4) (hz : v 16 s = nI z) (hi : i ≤ z) (h40 : z ≤ 40) : fX2_shorten v (nI s) (nI i) = some ((), up1 v 16 s (nI i)) := by
  unfold fX2_shorten
  rw [cIsSheet hs, gB_some, if_neg ne10, if_neg (nI_pos (by omega)), if_pos (gin_nI hs (by decide)), nI_clamp (show s < 2 ^ 31 by omega), hz, if_neg (nI_nltL rfl rfl hi (by omega)), if_pos (gin_nI hs (by decide))]
theorem filmL {v0 u0 : gV} {n nt t s z : Nat} {tc tb : Nat → Nat → Nat} (hR : Rel v0 u0 n nt t tc tb) (hs : s < 4) (hz : z ≤ 40) : ∀ (k i fuel : Nat) (v w : gV) (r : Nat → Int32), k < fuel → i + k = z → FI v0 u0 n nt t tc tb s z i v w r →
    ∃ x v' w', fX5_film_41 fuel v (nI s) (nI z) (nI i) = some (x, v') ∧ fX6_film_72 fuel w (nI s) (nI z) (nI i) (if z ≤ i then -1 else encO (mPk (w 2) (w 3) (w 4) (w 5) (-1) n r)) = some (x, w') ∧ Rel v' w' n nt t tc tb := by
  intro k
  induction k with
  | zero =>
    intro i fuel v w r hf hi hF
    obtain ⟨q, rfl⟩ : ∃ q, fuel = q + 1 := ⟨fuel - 1, by omega⟩
    obtain rfl : i = z := by omega
    obtain ⟨e1, e2⟩ := FI_end hR hs (Nat.le_refl _) hz hF
    have e3 : up1 v 16 s (nI i) = v := by
      have : v 16 s = nI i := by rw [hF.2.2.1.2, upd_eq]
      rw [← this, up1_same]
    rw [e3] at e2
    rw [fX5_film_41, fX6_film_72, if_pos (nI_yleL rfl rfl (by omega) (by omega)), if_pos (Nat.le_refl _), if_pos rfl, e1, gB_some, if_pos (gin_nI hs (by decide)), if_pos (gin_nI hs (by decide)), nI_clamp (show s < 2 ^ 31 by omega)]
    exact ⟨_, _, _, rfl, rfl, e2⟩
  | succ k ih =>
    intro i fuel v w r hf hi hF
    obtain ⟨q, rfl⟩ : ∃ q, fuel = q + 1 := ⟨fuel - 1, by omega⟩
    obtain ⟨hJ, c1, ⟨c15, c16⟩, d1, d12, d18, hc⟩ := id hF
    have h16 : v 16 s = nI z := by rw [c16, upd_eq]
    have h15 : v 15 s = 2 := by rw [c15, upd_eq]
    have n5 := hJ.1.2.1.1
    rw [fX5_film_41, fX6_film_72, if_neg (nI_nleL rfl rfl (by omega) (by omega)), if_neg (show ¬ z ≤ i by omega), (TJ_pick hJ).1, gB_some]
    cases hP : mPk (w 2) (w 3) (w 4) (w 5) (-1) n r with
    | none =>
      obtain ⟨e1, e2⟩ := FI_end hR hs (show i ≤ z by omega) hz hF
      rw [if_pos (encO_none rfl), if_pos (encO_none rfl), cShort hs h16 (by omega) hz, gB_some, e1, gB_some, if_pos (gin_nI hs (by decide)), if_pos (gin_nI hs (by decide)), nI_clamp (show s < 2 ^ 31 by omega)]
      exact ⟨_, _, _, rfl, rfl, e2⟩
    | some m =>
      have hm := mPk_le hP
      have hcn := mPk_can hP
      rw [show encO (some m) = nI m from rfl, if_neg (nI_nm1 (by omega)), if_neg (nI_nm1 (by omega)), cPut hs h16 (show i < z by omega) hz, gB_some, nI_40, if_pos (gin_nI (by omega) (by decide)), nI_clamp (show 40 * s + i < 2 ^ 31 by omega), h15, show kp 2 (nI m) = nI m from rfl, up1_def]
      have hJ2 : TJ (up2 v (27 + s) (upd (v (27 + s)) i (nI m))) (up2 w 12 (upd (w 12) (40 * s + i) (nI m))) n nt t tc tb r := TJ_to hJ (fun j hj => up2_ne (by omega)) (fun j hj => up2_ne (by omega)) (by rw [up2_ne (by omega)]; exact hJ.2.2.2.2.2.1) (by rw [up2_ne (by decide)]; exact hJ.2.2.2.2.2.2.1) hJ.2.2.2.2.2.2.2
      have hW : ∀ j, j ≠ 12 → (up2 w 12 (upd (w 12) (40 * s + i) (nI m))) j = w j := fun j hj => up2_ne hj
      obtain ⟨v', w', f1, f2, f3, f4, f5⟩ := TJ_make hJ2 hm (by rw [hW 2 (by decide), hW 3 (by decide), hW 4 (by decide), hW 5 (by decide)]; exact hcn)
      rw [hW 2 (by decide), hW 3 (by decide), hW 4 (by decide), hW 5 (by decide)] at f3
      have hF2 : FI v0 u0 n nt t tc tb s z (i + 1) v' w' (mMk (w 2) (w 3) (w 4) (w 5) (LW (tc t) (tb t) 0) m r) := by
        refine ⟨f3, fun j a b c d e => ?_, ⟨?_, ?_⟩, fun j a b c d e => ?_, fun j hj => ?_, fun k hk => ?_, fun j hj => ?_⟩
        · rw [f4 j a b, up2_ne e]; exact c1 j a b c d e
        · rw [f4 15 (by decide) (by decide), up2_ne (by omega)]; exact c15
        · rw [f4 16 (by decide) (by decide), up2_ne (by omega)]; exact c16
        · rw [f5 j a b c, hW j e]; exact d1 j a b c d e
        · rw [f5 12 (by decide) (by decide) (by decide), up2_eq, upd_ne (by omega)]; exact d12 j hj
        · rw [f5 18 (by decide) (by decide) (by decide), hW 18 (by decide)]; exact d18 k hk
        · rw [f4 (27 + s) (by omega) (by omega), f5 12 (by decide) (by decide) (by decide), up2_eq, up2_eq]
          by_cases e : j = i
          · rw [e, upd_eq, upd_eq]
          · rw [upd_ne e, upd_ne (by omega)]; exact hc j (by omega)
      obtain ⟨x, v2, w2, g1, g2, g3⟩ := ih (i + 1) q v' w' _ (by omega) (by omega) hF2
      rw [f1, gB_some, f2, gB_some, nI_1]
      unfold fX6_film_113
      by_cases e : z ≤ i + 1
      · rw [if_pos (nI_yleL rfl rfl e (by omega))]
        rw [if_pos e] at g2
        exact ⟨x, v2, w2, g1, g2, g3⟩
      · rw [if_neg (nI_nleL rfl rfl (by omega) (by omega)), (TJ_pick f3).2, gB_some]
        rw [if_neg e] at g2
        exact ⟨x, v2, w2, g1, g2, g3⟩
theorem zeroF {u : gV} {s : Nat} {x2 : Int32} (hs : s < 4) : ∀ (k i fuel : Nat) (g : Nat → Int32), k < fuel → i + k = 40 → (∀ j, j < i → g (40 * s + j) = 0) → ∃ g', fX6_film_27 fuel (up2 u 12 g) (nI s) x2 (nI i) = fX6_film_27 1 (up2 u 12 g') (nI s) x2 40 ∧ (∀ j, j < 40 → g' (40 * s + j) = 0) ∧ ∀ j, (j < 40 * s ∨ 40 * s + 40 ≤ j) → g' j = g j := by
  intro k
  induction k with
  | zero =>
    intro i fuel g hf hi hg
    obtain ⟨q, rfl⟩ : ∃ q, fuel = q + 1 := ⟨fuel - 1, by omega⟩
    obtain rfl : i = 40 := by omega
    refine ⟨g, ?_, hg, fun _ _ => rfl⟩
    rw [fX6_film_27, fX6_film_27, if_pos (show (40 : Int32) ≤ nI 40 by decide), if_pos (show (40 : Int32) ≤ 40 by decide)]
  | succ k ih =>
    intro i fuel g hf hi hg
    obtain ⟨q, rfl⟩ : ∃ q, fuel = q + 1 := ⟨fuel - 1, by omega⟩
    rw [fX6_film_27, if_neg (nI_nleL (x := 40) (a := 40) rfl rfl (by omega) (by decide)), nI_40, if_pos (gin_nI (by omega) (by decide)), nI_clamp (by omega), nI_1, up1_up2]
    obtain ⟨g', e1, e2, e3⟩ := ih (i + 1) q (upd g (40 * s + i) 0) (by omega) (by omega) (fun j hj => by
      by_cases e : j = i
      · rw [e, upd_eq]
      · rw [upd_ne (by omega)]; exact hg j (by omega))
    exact ⟨g', e1, e2, fun j hj => by rw [e3 j hj, upd_ne (by omega)]⟩
