/-! worth, laws: both sides -/
theorem sameM_put {u w w' : gV} {k : Nat} {x : Int32} (hJ : sameM u (up1 w 0 k (u 0 k))) (g : sameM (up1 w 0 k x) w') : sameM u (up1 w' 0 k (u 0 k)) := by
  refine ⟨fun j a b c d => ?_, fun i hi => ?_⟩
  · rw [up1_ne a, g.1 j a b c d, up1_ne a]
    have := hJ.1 j a b c d
    rwa [up1_ne a] at this
  · rw [up1_eq]
    by_cases e : i = k
    · rw [e, upd_eq]
    · rw [upd_ne e, g.2 i hi, up1_eq, upd_ne e]
      have := hJ.2 i hi
      rwa [up1_eq, upd_ne e] at this
theorem sameM_in {u w : gV} {k : Nat} (hk : k < 33) (h : sameM u w) : sameM u (up1 w 0 k (u 0 k)) := by
  refine ⟨fun j a b c d => ?_, fun i hi => ?_⟩
  · rw [up1_ne a]; exact h.1 j a b c d
  · rw [up1_eq]
    by_cases e : i = k
    · rw [e, upd_eq]
    · rw [upd_ne e]; exact h.2 i hi
theorem mBase_put {u w : gV} {n nt t k : Nat} {tc tb : Nat → Nat → Nat} (h : mBase u n nt t tc tb) (e : ∀ j, j ≠ 0 → j ≠ 1 → j < 15 → w j = u j) (e1 : w 0 1 = u 0 1) (e2 : w 0 12 = nI k) (hk : k < nt) : mBase w n nt k tc tb := by
  obtain ⟨h1, h2, ⟨h3, h5, h6⟩, h4⟩ := h
  refine ⟨by rw [e1]; exact h1, by rw [e 2 (by omega) (by omega) (by omega), e 3 (by omega) (by omega) (by omega), e 4 (by omega) (by omega) (by omega), e 5 (by omega) (by omega) (by omega)]; exact h2, ⟨h3, hk, e2⟩, fun t ht => ⟨(h4 t ht).1, ?_, ?_⟩⟩
  · intro k hk
    rw [e 8 (by omega) (by omega) (by omega)]
    exact (h4 t ht).2.1 k hk
  · intro i hi
    rw [e 7 (by omega) (by omega) (by omega)]
    exact (h4 t ht).2.2 i hi
theorem cThink {v u : gV} {n nt t k : Nat} {tc tb : Nat → Nat → Nat} (hR : Rel v u n nt t tc tb) (w : Int32) (hk : k < nt) : ∃ c v1 v', fX5_startThought v = some ((), v1) ∧ v1 0 = v 0 ∧ fX5_runGreedily v1 2 200 w (nI k) = some (c, v') ∧ Rel v' u n nt t tc tb ∧ v' 2 = mEnd (u 2) (u 3) (u 4) (u 5) w n (LW (tc k) (tb k) 0) (u 1) ∧ v' 0 = v 0 := by
  obtain ⟨hB, hM, ⟨⟨a1, a2, a3⟩, ⟨a4, a5, a6, a7⟩, a8, ⟨a9, a10, a11⟩, a12, a13⟩, -⟩ := id hR
  have hs : Rw (u 1) := by rw [← a1]; exact a2
  have hB2 : cBase (up2 v 2 (v 1)) n nt tc tb := cBase_up2 hB (Or.inr (Or.inr (Or.inl rfl)))
  obtain ⟨f, hf⟩ := cRun (w := w) hB2 (a := 2) (N := 200) (Or.inr (Or.inl rfl)) hk (by decide)
  have hrw := Rw_run hM.2.1 (w := w) (L := LW (tc k) (tb k) 0) (fun s => LW_rng _ _ s) 200 _ hs
  rw [up2_ne (by decide), up2_ne (by decide), up2_ne (by decide), up2_ne (by decide), up2_eq, up2_comm (show 2 ≠ 49 by decide), up2_up2, a4, a5, a6, a7, a1] at hf
  refine ⟨_, _, _, cStart (Rw_Z7 a2) a12, up2_ne (by decide), by rw [a1]; exact hf, Rel_same (sameC_2 hR (Rw_Z7 hrw)) sameM_rf hR, up2_eq, ?_⟩
  rw [up2_ne (by decide), up2_ne (by decide)]
theorem mThinkW {v u w : gV} {n nt t k i : Nat} {x : Int32} {tc tb : Nat → Nat → Nat} (hR : Rel v u n nt t tc tb) (hJ : sameM u (up1 w 0 i (u 0 i))) (hi : i = 6 ∨ i = 12) (hk : k < nt) (h6 : (up1 w 0 i x) 0 12 = nI k) : ∃ w', fX6_drunkWith (up1 w 0 i x) ((up1 w 0 i x) 1 0) = some (mEnd (u 2) (u 3) (u 4) (u 5) ((up1 w 0 i x) 0 6) n (LW (tc k) (tb k) 0) (u 1) 5, w') ∧ sameM u (up1 w' 0 i (u 0 i)) := by
  obtain ⟨hB, hM, ⟨⟨a1, a2, a3⟩, -⟩, -⟩ := id hR
  have hs : Rw (u 1) := by rw [← a1]; exact a2
  have e : ∀ j, j ≠ 0 → j < 15 → (up1 w 0 i x) j = u j := fun j h0 h15 => by
    have := hJ.1 j h0 (by omega) (by omega) (by omega)
    rw [up1_ne h0] at this ⊢
    exact this
  have e1 : (up1 w 0 i x) 0 1 = u 0 1 := by
    have := hJ.2 1 (by omega)
    rw [up1_eq, upd_ne (by omega)] at this ⊢
    exact this
  have hB2 : mBase (up1 w 0 i x) n nt k tc tb := mBase_put hM (fun j a _ b => e j a b) e1 h6 hk
  have h0 := hs.1 0 (by decide)
  obtain ⟨w', g1, g2, -⟩ := mDrunkWith hB2 (by rw [e 1 (by decide) (by decide)]; exact hs) h0.1 h0.2
  rw [e 1 (by decide) (by decide), e 2 (by decide) (by decide), e 3 (by decide) (by decide), e 4 (by decide) (by decide), e 5 (by decide) (by decide), upd_self] at g1
  rw [e 1 (by decide) (by decide)]
  exact ⟨w', g1, sameM_put hJ g2⟩
theorem up1_same {u : gV} {i k : Nat} : up1 u i k (u i k) = u := by
  rw [up1_def, upd_self, up2_self]
theorem op_worth {v u : gV} (h : RelE v u) (x1 : Int32) : ∃ x v' u', fX5_worth v x1 = some (x, v') ∧ fX6_worth u x1 = some (x, u') ∧ RelE v' u' := by
  have hE := h
  obtain ⟨n, nt, t, tc, tb, hR⟩ := h
  obtain ⟨hB, hM, ⟨⟨a1, a2, a3⟩, ⟨a4, a5, a6, a7⟩, a8, ⟨a9, a10, a11⟩, -⟩, -⟩ := id hR
  have n5 := hB.2.1.1
  have ht := hM.2.2.1.2.1
  unfold fX5_worth fX6_worth
  by_cases hx : ∃ r, r < n ∧ x1 = nI r
  · obtain ⟨r, hr, rfl⟩ := hx
    rw [cHas hB.1 n5 hr, mIsRateT hM.1 n5 hr, gB_some, gB_some, if_neg ne10, if_neg ne10]
    obtain ⟨c1, p1, v1, b1, b2, b3, b4, b5, b6⟩ := cThink hR (-1) ht
    rw [b1, gB_some, b2, a10, b3, gB_some]
    obtain ⟨c2, p2, v2, d1, d2, d3, d4, d5, d6⟩ := cThink b4 (nI r) ht
    rw [d1, gB_some, d2, b6, a10, d3, gB_some, b5, d5]
    have hJ : sameM u (up1 u 0 6 (u 0 6)) := sameM_in (by decide) sameM_rf
    obtain ⟨w1, e1, e2⟩ := mThinkW (x := u 0 6) hR hJ (Or.inl rfl) ht (by rw [up1_same]; exact hM.2.2.1.2.2)
    rw [up1_same, a8] at e1
    have h12 : (up1 w1 0 6 (nI r)) 0 12 = nI t := by
      have := e2.2 12 (by decide)
      rw [up1_eq, upd_ne (by decide)] at this ⊢
      rw [this]; exact hM.2.2.1.2.2
    obtain ⟨w2, f1, f2⟩ := mThinkW (x := nI r) hR e2 (Or.inl rfl) ht h12
    rw [up1_eq, upd_eq] at f1
    rw [e1, gB_some, f1, gB_some]
    rw [a8] at f2
    exact ⟨_, _, _, rfl, rfl, n, nt, t, tc, tb, Rel_same ⟨fun _ _ _ _ _ => rfl, fun _ _ => rfl, d4.2.2.1.2.2.2.2.1, d4.2.2.1.2.2.2.2.2⟩ f2 d4⟩
  · rw [cHasF hB.1 n5 hx, mIsRateF hM.1 n5 hx, gB_some, gB_some, if_pos rfl, if_pos rfl]
    exact ⟨_, _, _, rfl, rfl, hE⟩
