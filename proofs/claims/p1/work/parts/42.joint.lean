/-! a thought on both sides at once -/
def TJ (v w : gV) (n nt t : Nat) (tc tb : Nat → Nat → Nat) (r : Nat → Int32) : Prop := cBase v n nt tc tb ∧ mBase w n nt t tc tb ∧ v 0 9 = nI t ∧ (v 9 = w 2 ∧ v 10 = w 3 ∧ v 11 = w 4 ∧ v 12 = w 5) ∧ w 0 6 = -1 ∧ (v 2 = r ∧ w 1 = r ∧ Rw r)
/-- what a step of a thought leaves -/
def stC (v v' : gV) : Prop := ∀ j, j ≠ 2 → j ≠ 49 → v' j = v j
def stM (w w' : gV) : Prop := ∀ j, j ≠ 1 → j ≠ 16 → j ≠ 17 → w' j = w j
theorem stC_rf {v : gV} : stC v v := fun _ _ _ => rfl
theorem stM_rf {v : gV} : stM v v := fun _ _ _ _ => rfl
theorem stC_tr {a b c : gV} (h : stC a b) (g : stC b c) : stC a c := fun j x y => (g j x y).trans (h j x y)
theorem stM_tr {a b c : gV} (h : stM a b) (g : stM b c) : stM a c := fun j x y z => (g j x y z).trans (h j x y z)
theorem TJ_to {v w v' w' : gV} {n nt t : Nat} {tc tb : Nat → Nat → Nat} {r r' : Nat → Int32} (h : TJ v w n nt t tc tb r) (hv : ∀ j, j = 0 ∨ j = 4 ∨ (9 ≤ j ∧ j ≤ 12) ∨ (37 ≤ j ∧ j ≤ 48) → v' j = v j) (hw : ∀ j, j = 0 ∨ (2 ≤ j ∧ j ≤ 5) ∨ j = 7 ∨ j = 8 → w' j = w j) (h1 : v' 2 = r') (h2 : w' 1 = r') (h3 : Rw r') : TJ v' w' n nt t tc tb r' := by
  obtain ⟨⟨b1, b2, b3, b4⟩, ⟨m1, m2, ⟨m3, m5, m6⟩, m4⟩, a10, ⟨a4, a5, a6, a7⟩, a8, -⟩ := h
  refine ⟨⟨?_, ?_, b3, fun t ht => ⟨(b4 t ht).1, ?_, ?_⟩⟩, ⟨?_, ?_, ⟨m3, m5, ?_⟩, fun t ht => ⟨(m4 t ht).1, ?_, ?_⟩⟩, ?_, ⟨?_, ?_, ?_, ?_⟩, ?_, h1, h2, h3⟩
  · rw [hv 4 (by omega)]; exact b1
  · rw [hv 9 (by omega), hv 10 (by omega), hv 11 (by omega), hv 12 (by omega)]; exact b2
  · rw [hv (43 + t) (by omega)]; exact (b4 t ht).2.1
  · rw [hv (37 + t) (by omega)]; exact (b4 t ht).2.2
  · rw [hw 0 (by omega)]; exact m1
  · rw [hw 2 (by omega), hw 3 (by omega), hw 4 (by omega), hw 5 (by omega)]; exact m2
  · rw [hw 0 (by omega)]; exact m6
  · rw [hw 8 (by omega)]; exact (m4 t ht).2.1
  · rw [hw 7 (by omega)]; exact (m4 t ht).2.2
  · rw [hv 0 (by omega)]; exact a10
  · rw [hv 9 (by omega), hw 2 (by omega)]; exact a4
  · rw [hv 10 (by omega), hw 3 (by omega)]; exact a5
  · rw [hv 11 (by omega), hw 4 (by omega)]; exact a6
  · rw [hv 12 (by omega), hw 5 (by omega)]; exact a7
  · rw [hw 0 (by omega)]; exact a8
theorem TJ_start {v u : gV} {n nt t : Nat} {tc tb : Nat → Nat → Nat} (h : Rel v u n nt t tc tb) : ∃ v1 w1, fX5_startThought v = some ((), v1) ∧ fX6_keeps u 0 = some ((), w1) ∧ TJ v1 w1 n nt t tc tb (u 1) ∧ stC v v1 ∧ (∀ j, j ≠ 18 → w1 j = u j) ∧ ∀ k, k < 7 → w1 18 k = u 1 k := by
  obtain ⟨hB, hM, ⟨⟨a1, a2, a3⟩, ⟨a4, a5, a6, a7⟩, a8, ⟨a9, a10, a11⟩, a12, a13⟩, -⟩ := id h
  refine ⟨_, _, cStart (Rw_Z7 a2) a12, mKeeps (u := u) (d := 0) (by decide), ⟨cBase_up2 hB (Or.inr (Or.inr (Or.inl rfl))), mBase_up2 hM (Or.inr (by decide)), ?_, ⟨?_, ?_, ?_, ?_⟩, ?_, ?_, ?_, ?_⟩, fun j a b => up2_ne a, fun j a => up2_ne a, fun k hk => ?_⟩
  · rw [up2_ne (by decide)]; exact a10
  · rw [up2_ne (by decide), up2_ne (by decide)]; exact a4
  · rw [up2_ne (by decide), up2_ne (by decide)]; exact a5
  · rw [up2_ne (by decide), up2_ne (by decide)]; exact a6
  · rw [up2_ne (by decide), up2_ne (by decide)]; exact a7
  · rw [up2_ne (by decide)]; exact a8
  · rw [up2_eq]; exact a1
  · rw [up2_ne (by decide)]
  · rw [← a1]; exact a2
  · rw [up2_eq]
    have := kF_at (d := 0) (s := u 1) (g := u 18) hk
    rwa [Nat.mul_zero, Nat.zero_add] at this
theorem TJ_back {v w u : gV} {n nt t : Nat} {tc tb : Nat → Nat → Nat} {r : Nat → Int32} (h : TJ v w n nt t tc tb r) (hz : Rw (u 1)) (hk : ∀ k, k < 7 → w 18 k = u 1 k) : fX6_laysBack w 0 = some ((), up2 w 1 (u 1)) := by
  refine mLays (d := 0) (s0 := u 1) (by decide) (fun k hk' => ?_) (Rw_Z7 hz) (by rw [h.2.2.2.2.2.2.1]; exact Rw_Z7 h.2.2.2.2.2.2.2)
  rw [Nat.mul_zero, Nat.zero_add]
  exact hk k hk'
theorem TJ_make {v w : gV} {n nt t m : Nat} {tc tb : Nat → Nat → Nat} {r : Nat → Int32} (h : TJ v w n nt t tc tb r) (hm : m ≤ n) (hc : mCan (w 2) (w 3) (w 4) (w 5) m r) : ∃ v' w', fX5_make v 2 (nI m) (v 0 9) = some ((), v') ∧ fX6_goes w (nI m) = some ((), w') ∧ TJ v' w' n nt t tc tb (mMk (w 2) (w 3) (w 4) (w 5) (LW (tc t) (tb t) 0) m r) ∧ stC v v' ∧ stM w w' := by
  obtain ⟨hB, hM, a10, ⟨a4, a5, a6, a7⟩, a8, e1, e2, e3⟩ := id h
  obtain ⟨f, hf⟩ := cMake (a := 2) hB (Or.inr (Or.inl rfl)) hm hM.2.2.1.2.1
  obtain ⟨g, f2, hg⟩ := mGoes hM (by rw [e2]; exact e3) hm
  rw [a4, a5, a6, a7, e1] at hf
  rw [e2] at hg
  rw [a10]
  refine ⟨_, _, hf, hg, TJ_to h (fun j hj => ?_) (fun j hj => ?_) up2_eq up3_1 (Rw_can hM.2.1 e3 (LW_rng _ _ _) hm hc), fun j a b => ?_, fun j a b c => up3_ne ⟨a, b, c⟩⟩
  · rw [up2_ne (by omega), up2_ne (by omega)]
  · exact up3_ne (by omega)
  · rw [up2_ne a, up2_ne b]
theorem TJ_can {v w : gV} {n nt t m : Nat} {tc tb : Nat → Nat → Nat} {r : Nat → Int32} (h : TJ v w n nt t tc tb r) (hm : m ≤ n) : (mCan (w 2) (w 3) (w 4) (w 5) m r ∧ fX5_canMake v 2 (nI m) = some (1, v) ∧ fX6_canMove w (nI m) = some (1, w)) ∨ (fX5_canMake v 2 (nI m) = some (0, v) ∧ fX6_canMove w (nI m) = some (0, w)) := by
  obtain ⟨hB, hM, a10, ⟨a4, a5, a6, a7⟩, a8, e1, e2, e3⟩ := id h
  have c := cCanMake (a := 2) hB.1 hB.2.1 hm
  have d := mCanMv hM.2.1 a8 hm
  rw [a4, a5, a6, a7, e1] at c
  rw [e2] at d
  rcases c with ⟨c1, c2⟩ | ⟨c1, c2⟩ <;> rcases d with ⟨d1, d2⟩ | ⟨d1, d2⟩
  · exact Or.inl ⟨c1, c2, d2⟩
  · exact absurd c1 d1
  · exact absurd d1 c1
  · exact Or.inr ⟨c2, d2⟩
theorem TJ_pick {v w : gV} {n nt t : Nat} {tc tb : Nat → Nat → Nat} {r : Nat → Int32} (h : TJ v w n nt t tc tb r) : fX5_pick v 2 (-1) = some (encO (mPk (w 2) (w 3) (w 4) (w 5) (-1) n r), v) ∧ fX6_greedy w = some (encO (mPk (w 2) (w 3) (w 4) (w 5) (-1) n r), w) := by
  obtain ⟨hB, hM, a10, ⟨a4, a5, a6, a7⟩, a8, e1, e2, e3⟩ := id h
  have c := cPick (a := 2) (w := -1) hB.1 hB.2.1
  have d := mGreedy hM.1 hM.2.1
  rw [a4, a5, a6, a7, e1] at c
  rw [e2, a8] at d
  exact ⟨c, d⟩
theorem mPk_can {K S T M : Nat → Int32} {w : Int32} {n m : Nat} {s : Nat → Int32} (h : mPk K S T M w n s = some m) : mCan K S T M m s := by
  rcases mPk_some h with h1 | ⟨r, e, -, h2⟩
  · exact Or.inl h1
  · exact Or.inr ⟨r, e, h2⟩
theorem TJ_says {v w : gV} {n nt t k : Nat} {tc tb : Nat → Nat → Nat} {r : Nat → Int32} (h : TJ v w n nt t tc tb r) (hk : k < 3) : ∃ v' w', fX5_says v (v 0 9) (nI k) 2 = some (LW (tc t) (tb t) k r, v') ∧ fX6_asksOf w (nI k) = some (LW (tc t) (tb t) k r, w') ∧ TJ v' w' n nt t tc tb r ∧ stC v v' ∧ stM w w' := by
  obtain ⟨hB, hM, a10, ⟨a4, a5, a6, a7⟩, a8, e1, e2, e3⟩ := id h
  obtain ⟨-, -, ⟨-, ht, hl⟩, hTm⟩ := hM
  have n6 := hB.2.2.1
  obtain ⟨f, hf⟩ := cSays (v := v) (a := 2) (show t < 6 by omega) hk (by decide) (hB.2.2.2 t ht).1 (hB.2.2.2 t ht).2
  obtain ⟨g, g2, hg⟩ := mAsksOf (u := w) (show t < 6 by omega) hk hl (hTm t ht).1 (hTm t ht).2
  rw [e1] at hf
  rw [e2] at hg
  rw [a10]
  refine ⟨_, _, hf, hg, TJ_to h (fun j hj => up2_ne (by omega)) (fun j hj => ?_) ?_ ?_ e3, fun j a b => up2_ne b, fun j a b c => ?_⟩
  · rw [up2_ne (by omega), up2_ne (by omega)]
  · rw [up2_ne (by decide)]; exact e1
  · rw [up2_ne (by decide), up2_ne (by decide)]; exact e2
  · rw [up2_ne b, up2_ne c]
theorem TJ_sameC {v u v1 v2 : gV} {n nt t : Nat} {tc tb : Nat → Nat → Nat} {r : Nat → Int32} (h : Rel v u n nt t tc tb) (h1 : stC v v1) (hJ : v1 2 = r ∧ Rw r) (e : v2 = v1) : sameC v v2 := by
  subst e
  refine ⟨fun j a b c d => h1 j b c, fun k hk => by rw [h1 0 (by decide) (by decide)], by rw [hJ.1]; exact Rw_Z7 hJ.2, fun d hd => by rw [h1 (20 + d) (by omega) (by omega)]; exact h.2.2.1.2.2.2.2.2 d hd⟩
theorem TJ_sameM {u w0 w : gV} (h0 : ∀ j, j ≠ 18 → w0 j = u j) (h1 : stM w0 w) : sameM u (up2 w 1 (u 1)) := by
  refine ⟨fun j a b c d => ?_, fun k hk => ?_⟩
  · by_cases e : j = 1
    · rw [e, up2_eq]
    · rw [up2_ne e, h1 j e b c, h0 j d]
  · rw [up2_ne (by decide), h1 0 (by decide) (by decide) (by decide), h0 0 (by decide)]
