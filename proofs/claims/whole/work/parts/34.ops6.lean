/-! laws, when: both sides -/
theorem lawsL {x1 : Int32} {u : gV} {n nt t : Nat} {tc tb : Nat → Nat → Nat} : ∀ (k i fuel : Nat) (z : Int32) (v w : gV), k < fuel → i + k = nt → Rel v u n nt t tc tb → sameM u (up1 w 0 12 (u 0 12)) → ∃ x v' u', fX5_laws_18 fuel v x1 z (nI i) = some (x, v') ∧ fX6_laws_24 fuel w x1 (nI t) z (nI i) = some (x, u') ∧ RelE v' u' := by
  intro k
  induction k with
  | zero =>
    intro i fuel z v w hf hi hR hJ
    obtain ⟨q, rfl⟩ : ∃ q, fuel = q + 1 := ⟨fuel - 1, by omega⟩
    obtain ⟨hB, hM, ⟨-, -, a8, ⟨a9, a10, a11⟩, a12, a13⟩, -⟩ := id hR
    have hnt := hM.2.2.1.1
    have w11 : w 0 11 = nI nt := by
      have := hJ.2 11 (by decide)
      rw [up1_eq, upd_ne (by decide)] at this
      rw [this]; exact a11
    rw [fX5_laws_18, fX6_laws_24, a9, w11, if_pos (nI_yleL rfl rfl (by omega) (by omega)), if_pos (nI_yleL rfl rfl (by omega) (by omega))]
    rw [hM.2.2.1.2.2] at hJ
    exact ⟨_, _, _, rfl, rfl, n, nt, t, tc, tb, Rel_same ⟨fun _ _ _ _ _ => rfl, fun _ _ => rfl, a12, a13⟩ hJ hR⟩
  | succ k ih =>
    intro i fuel z v w hf hi hR hJ
    obtain ⟨q, rfl⟩ : ∃ q, fuel = q + 1 := ⟨fuel - 1, by omega⟩
    obtain ⟨hB, hM, ⟨-, -, a8, ⟨a9, a10, a11⟩, -⟩, -⟩ := id hR
    have hnt := hM.2.2.1.1
    have w11 : w 0 11 = nI nt := by
      have := hJ.2 11 (by decide)
      rw [up1_eq, upd_ne (by decide)] at this
      rw [this]; exact a11
    have w6 : (up1 w 0 12 (nI i)) 0 6 = -1 := by
      have := hJ.2 6 (by decide)
      rw [up1_eq, upd_ne (by decide)] at this ⊢
      rw [this]; exact a8
    obtain ⟨c, v1, v', b1, b2, b3, b4, b5, b6⟩ := cThink hR (-1) (show i < nt by omega)
    obtain ⟨w', e1, e2⟩ := mThinkW (x := nI i) hR hJ (Or.inr rfl) (show i < nt by omega) (by rw [up1_eq, upd_eq])
    rw [w6] at e1
    rw [fX5_laws_18, fX6_laws_24, a9, w11, if_neg (nI_nleL rfl rfl (by omega) (by omega)), if_neg (nI_nleL rfl rfl (by omega) (by omega)), b1, gB_some, b3, gB_some, e1, gB_some]
    unfold fX5_laws_58 fX6_laws_62
    rw [nI_1, b5]
    by_cases c1 : mEnd (u 2) (u 3) (u 4) (u 5) (-1) n (LW (tc i) (tb i) 0) (u 1) 5 = x1
    · rw [if_pos c1, if_pos c1]
      exact ih (i + 1) q _ v' w' (by omega) (by omega) b4 e2
    · rw [if_neg c1, if_neg c1, Int32.or_zero]
      exact ih (i + 1) q _ v' w' (by omega) (by omega) b4 e2
theorem op_laws {v u : gV} (h : RelE v u) (x1 : Int32) : ∃ x v' u', fX5_laws v x1 = some (x, v') ∧ fX6_laws u x1 = some (x, u') ∧ RelE v' u' := by
  have hE := h
  obtain ⟨n, nt, t, tc, tb, hR⟩ := h
  obtain ⟨hB, hM, -⟩ := id hR
  have hnt := hM.2.2.1.1
  unfold fX5_laws fX6_laws
  rw [show (999 : Int32) = nI 999 from rfl]
  by_cases hx : ∃ k, k < 999 + 1 ∧ x1 = nI k
  · obtain ⟨k, hk, rfl⟩ := hx
    rw [good_le (by decide) hk, mInT ((rngC (by decide)).mpr ⟨k, hk, rfl⟩), gB_some, if_neg ne10, hM.2.2.1.2.2]
    exact lawsL nt 0 2000 0 v u (by omega) (by omega) hR (sameM_in (by decide) sameM_rf)
  · rw [bad_le (by decide) hx, mInF (fun z => hx ((rngC (by decide)).mp z)), gB_some, if_pos rfl]
    exact ⟨_, _, _, rfl, rfl, hE⟩
theorem upd_upd {f : Nat → Int32} {k : Nat} {x y : Int32} : upd (upd f k x) k y = upd f k y := by
  funext j
  by_cases h : j = k
  · rw [h, upd_eq, upd_eq]
  · rw [upd_ne h, upd_ne h, upd_ne h]
theorem Rw_6 {s : Nat → Int32} {x : Int32} (h : Rw s) (h0 : 0 ≤ x.toInt) (h1 : x.toInt ≤ 112) : Rw (upd s 6 x) := by
  obtain ⟨a, b, c, d, z⟩ := h
  refine ⟨fun k hk => ?_, ?_, ?_, ?_, Z7_upd z (by decide)⟩
  · rw [upd_ne (by omega)]; exact a k hk
  · rw [upd_ne (by decide)]; exact b
  · rw [upd_ne (by decide)]; exact c
  · rw [upd_eq]; exact ⟨h0, h1⟩
theorem cThinkD {v u : gV} {n nt t k : Nat} {tc tb : Nat → Nat → Nat} (hR : Rel v u n nt t tc tb) (w x : Int32) (hk : k < nt) (hx0 : 0 ≤ (u 1 6 + x).toInt) (hx1 : (u 1 6 + x).toInt ≤ 112) : ∃ c v1 v', fX5_startThought v = some ((), v1) ∧ v1 0 = v 0 ∧ fX5_runGreedily (up1 v1 2 6 (v1 2 6 + x)) 2 200 w (nI k) = some (c, v') ∧ Rel v' u n nt t tc tb ∧ v' 2 = mEnd (u 2) (u 3) (u 4) (u 5) w n (LW (tc k) (tb k) 0) (upd (u 1) 6 (u 1 6 + x)) ∧ v' 0 = v 0 := by
  obtain ⟨hB, hM, ⟨⟨a1, a2, a3⟩, ⟨a4, a5, a6, a7⟩, a8, ⟨a9, a10, a11⟩, a12, a13⟩, -⟩ := id hR
  have hs : Rw (u 1) := by rw [← a1]; exact a2
  have hs2 := Rw_6 hs hx0 hx1
  have hB2 : cBase (up2 v 2 (upd (u 1) 6 (u 1 6 + x))) n nt tc tb := cBase_up2 hB (Or.inr (Or.inr (Or.inl rfl)))
  obtain ⟨f, hf⟩ := cRun (w := w) hB2 (a := 2) (N := 200) (Or.inr (Or.inl rfl)) hk (by decide)
  have hrw := Rw_run hM.2.1 (w := w) (L := LW (tc k) (tb k) 0) (fun s => LW_rng _ _ s) 200 _ hs2
  rw [up2_ne (by decide), up2_ne (by decide), up2_ne (by decide), up2_ne (by decide), up2_eq, up2_comm (show 2 ≠ 49 by decide), up2_up2, a4, a5, a6, a7] at hf
  refine ⟨_, _, _, cStart (Rw_Z7 a2) a12, up2_ne (by decide), by rw [a1, up1_def, up2_eq, up2_up2]; exact hf, Rel_same (sameC_2 hR (Rw_Z7 hrw)) sameM_rf hR, up2_eq, ?_⟩
  rw [up2_ne (by decide), up2_ne (by decide)]
theorem mThinkD {v u w : gV} {n nt t : Nat} {y : Int32} {tc tb : Nat → Nat → Nat} (hR : Rel v u n nt t tc tb) (hJ : sameM u (up1 w 1 6 (u 1 6))) (hy0 : 0 ≤ y.toInt) (hy1 : y.toInt ≤ 112) : ∃ w', fX6_drunkWith (up1 w 1 6 y) ((up1 w 1 6 y) 1 0) = some (mEnd (u 2) (u 3) (u 4) (u 5) (-1) n (LW (tc t) (tb t) 0) (upd (u 1) 6 y) 5, w') ∧ sameM u (up1 w' 1 6 (u 1 6)) := by
  obtain ⟨hB, hM, ⟨⟨a1, a2, a3⟩, -, a8, -⟩, -⟩ := id hR
  have hs : Rw (u 1) := by rw [← a1]; exact a2
  have w0 : ∀ k, k < 33 → w 0 k = u 0 k := fun k hk => by
    have := hJ.2 k hk
    rwa [up1_ne (by decide)] at this
  have w1 : upd (w 1) 6 (u 1 6) = u 1 := by
    have := hJ.1 1 (by decide) (by decide) (by decide) (by decide)
    rwa [up1_eq] at this
  have wj : ∀ j, j ≠ 0 → j ≠ 1 → j ≠ 16 → j ≠ 17 → j ≠ 18 → w j = u j := fun j h0 h1 a b c => by
    have := hJ.1 j h0 a b c
    rwa [up1_ne h1] at this
  have W1 : (up1 w 1 6 y) 1 = upd (u 1) 6 y := by rw [up1_eq, ← w1, upd_upd]
  have W0 : (up1 w 1 6 y) 0 = w 0 := up1_ne (by decide)
  have e : ∀ j, j ≠ 0 → j ≠ 1 → j < 15 → (up1 w 1 6 y) j = u j := fun j h0 h1 h15 => by
    rw [up1_ne h1]; exact wj j h0 h1 (by omega) (by omega) (by omega)
  have hB2 : mBase (up1 w 1 6 y) n nt t tc tb := mBase_put hM e (by rw [W0]; exact w0 1 (by decide)) (by rw [W0, w0 12 (by decide)]; exact hM.2.2.1.2.2) hM.2.2.1.2.1
  have h0 := hs.1 0 (by decide)
  have hs2 := Rw_6 hs hy0 hy1
  obtain ⟨w', g1, g2, -⟩ := mDrunkWith hB2 (by rw [W1]; exact hs2) (x := (up1 w 1 6 y) 1 0) (by rw [W1, upd_ne (by decide)]; exact h0.1) (by rw [W1, upd_ne (by decide)]; exact h0.2)
  rw [W1, e 2 (by decide) (by decide) (by decide), e 3 (by decide) (by decide) (by decide), e 4 (by decide) (by decide) (by decide), e 5 (by decide) (by decide) (by decide), upd_self, W0, w0 6 (by decide), a8] at g1
  rw [W1]
  refine ⟨w', g1, fun j a b c d => ?_, fun k hk => ?_⟩
  · by_cases e1 : j = 1
    · rw [e1, up1_eq, g2.1 1 (by decide) (by decide) (by decide) (by decide), W1, upd_upd, upd_self]
    · rw [up1_ne e1, g2.1 j a b c d, up1_ne e1]
      exact wj j a e1 b c d
  · rw [up1_ne (by decide), g2.2 k hk, W0]
    exact w0 k hk
