/-! best: a step on each side -/
def BJ (v w : gV) (n nt t : Nat) (tc tb : Nat → Nat → Nat) : Prop := cBase v n nt tc tb ∧ mBase w n nt t tc tb ∧ v 0 9 = nI t ∧ (v 9 = w 2 ∧ v 10 = w 3 ∧ v 11 = w 4 ∧ v 12 = w 5) ∧ w 0 6 = -1
theorem BJ_to {v w v' w' : gV} {n nt t : Nat} {tc tb : Nat → Nat → Nat} (h : BJ v w n nt t tc tb) (hv : ∀ j, j = 4 ∨ (9 ≤ j ∧ j ≤ 12) ∨ (37 ≤ j ∧ j ≤ 48) → v' j = v j) (hv0 : v' 0 9 = v 0 9) (hw : ∀ j, (2 ≤ j ∧ j ≤ 5) ∨ j = 7 ∨ j = 8 → w' j = w j) (hw0 : ∀ k, k < 33 → w' 0 k = w 0 k) : BJ v' w' n nt t tc tb := by
  obtain ⟨⟨b1, b2, b3, b4⟩, ⟨m1, m2, ⟨m3, m5, m6⟩, m4⟩, a10, ⟨a4, a5, a6, a7⟩, a8⟩ := h
  refine ⟨⟨?_, ?_, b3, fun t ht => ⟨(b4 t ht).1, ?_, ?_⟩⟩, ⟨?_, ?_, ⟨m3, m5, ?_⟩, fun t ht => ⟨(m4 t ht).1, ?_, ?_⟩⟩, ?_, ⟨?_, ?_, ?_, ?_⟩, ?_⟩
  · rw [hv 4 (by omega)]; exact b1
  · rw [hv 9 (by omega), hv 10 (by omega), hv 11 (by omega), hv 12 (by omega)]; exact b2
  · rw [hv (43 + t) (by omega)]; exact (b4 t ht).2.1
  · rw [hv (37 + t) (by omega)]; exact (b4 t ht).2.2
  · rw [hw0 1 (by omega)]; exact m1
  · rw [hw 2 (by omega), hw 3 (by omega), hw 4 (by omega), hw 5 (by omega)]; exact m2
  · rw [hw0 12 (by omega)]; exact m6
  · rw [hw 8 (by omega)]; exact (m4 t ht).2.1
  · rw [hw 7 (by omega)]; exact (m4 t ht).2.2
  · rw [hv0]; exact a10
  · rw [hv 9 (by omega), hw 2 (by omega)]; exact a4
  · rw [hv 10 (by omega), hw 3 (by omega)]; exact a5
  · rw [hv 11 (by omega), hw 4 (by omega)]; exact a6
  · rw [hv 12 (by omega), hw 5 (by omega)]; exact a7
  · rw [hw0 6 (by omega)]; exact a8
def JB (v w : gV) (n nt t : Nat) (tc tb : Nat → Nat → Nat) (d : Nat) (r : Nat → Int32) : Prop := BJ v w n nt t tc tb ∧ (v (20 + d) = r ∧ w 1 = r ∧ Rw r) ∧ (v 0 10 = w 0 33 ∧ v 0 11 = w 0 34) ∧ ∀ e, e < 7 → Z7 (v (20 + e))
/-- what a deeper look leaves -/
def frC (d : Nat) (v v' : gV) : Prop := (∀ j, j ≠ 0 → j ≠ 49 → ¬ (20 + d < j ∧ j ≤ 26) → v' j = v j) ∧ ∀ k, k ≠ 10 → k ≠ 11 → v' 0 k = v 0 k
def frM (d : Nat) (w w' : gV) : Prop := (∀ j, j ≠ 0 → j ≠ 1 → j ≠ 16 → j ≠ 17 → j ≠ 18 → w' j = w j) ∧ (∀ k, k ≠ 33 → k ≠ 34 → w' 0 k = w 0 k) ∧ (∀ j, j < 7 * d → w' 18 j = w 18 j) ∧ w 0 33 ≤ w' 0 33
theorem frC_rf {d : Nat} {v : gV} : frC d v v := ⟨fun _ _ _ _ => rfl, fun _ _ _ => rfl⟩
theorem frM_rf {d : Nat} {w : gV} : frM d w w := ⟨fun _ _ _ _ _ _ => rfl, fun _ _ _ => rfl, fun _ _ => rfl, by rw [Int32.le_iff_toInt_le]; exact Int.le_refl _⟩
theorem frC_tr {d : Nat} {a b c : gV} (h : frC d a b) (g : frC d b c) : frC d a c := ⟨fun j x y z => (g.1 j x y z).trans (h.1 j x y z), fun k x y => (g.2 k x y).trans (h.2 k x y)⟩
theorem frM_tr {d : Nat} {a b c : gV} (h : frM d a b) (g : frM d b c) : frM d a c := ⟨fun j x y z p q => (g.1 j x y z p q).trans (h.1 j x y z p q), fun k x y => (g.2.1 k x y).trans (h.2.1 k x y), fun j x => (g.2.2.1 j x).trans (h.2.2.1 j x), by
  have h1 := h.2.2.2
  have h2 := g.2.2.2
  rw [Int32.le_iff_toInt_le] at h1 h2 ⊢
  omega⟩
theorem frC_up {d : Nat} {v v' : gV} (h : frC (d + 1) v v') : frC d v v' := ⟨fun j a b c => h.1 j a b (by omega), h.2⟩
theorem frM_up {d : Nat} {w w' : gV} (h : frM (d + 1) w w') : frM d w w' := ⟨h.1, h.2.1, fun j hj => h.2.2.1 j (by omega), h.2.2.2⟩
def mY (tc tb : Nat → Nat → Nat) (t m : Nat) (r : Nat → Int32) : Int32 := if m = 0 then LW (tc t) (tb t) 1 r else 0
theorem cTry {v w : gV} {n nt t d m L : Nat} {tc tb : Nat → Nat → Nat} {r : Nat → Int32} (h : JB v w n nt t tc tb d r) (hd : d + 1 ≤ 6) (hm : m ≤ n) :
    (mCan (w 2) (w 3) (w 4) (w 5) m r ∧ ∃ f, ∀ (R : Nat → gV → Int32 → Int32 → Int32 → Int32 → Int32 → Option (Unit × gV)) (x3 x4 : Int32), fX5_tryMove R v (nI m) (nI d) (nI L) x3 x4 = gB (R 0 (up2 (up2 v 49 f) (20 + (d + 1)) (mMk (w 2) (w 3) (w 4) (w 5) (LW (tc t) (tb t) 0) m r)) (nI (d + 1)) (nI L) (x3 + mY tc tb t m r) (((x4 * 10) + nI m) + 1) 0) (fun _ v14 => some ((), v14))) ∨
    (¬ mCan (w 2) (w 3) (w 4) (w 5) m r ∧ ∀ (R : Nat → gV → Int32 → Int32 → Int32 → Int32 → Int32 → Option (Unit × gV)) (x3 x4 : Int32), fX5_tryMove R v (nI m) (nI d) (nI L) x3 x4 = some ((), v)) := by
  obtain ⟨⟨hB, hM, a10, ⟨a4, a5, a6, a7⟩, a8⟩, ⟨e1, e2, e3⟩, -, eZ⟩ := h
  have n5 := hB.2.1.1
  have n6 := hB.2.2.1
  have gd : gin (nI d) 7 = true := gin_nI (by omega) (by decide)
  have gd1 : gin (nI (d + 1)) 7 = true := gin_nI (by omega) (by decide)
  have h7 : ¬ (7 : Int32) ≤ nI (d + 1) := nI_nleL (x := 7) (a := 7) rfl rfl (by omega) (by decide)
  have c := cCanMake (a := 20 + d) hB.1 hB.2.1 hm
  rw [a4, a5, a6, a7, e1] at c
  rcases c with ⟨c1, c2⟩ | ⟨c1, c2⟩
  · refine Or.inl ⟨c1, ?_⟩
    have hmk : ∀ f1 : Nat → Int32, ∃ f, fX5_make (up2 (up2 v 49 f1) (20 + (d + 1)) r) (20 + (d + 1)) (nI m) (nI t) = some ((), up2 (up2 v 49 f) (20 + (d + 1)) (mMk (w 2) (w 3) (w 4) (w 5) (LW (tc t) (tb t) 0) m r)) := by
      intro f1
      have hB2 : cBase (up2 (up2 v 49 f1) (20 + (d + 1)) r) n nt tc tb := cBase_up2 (cBase_up2 hB (Or.inl rfl)) (rowc_ok (Or.inr (Or.inr ⟨by omega, by omega⟩)))
      obtain ⟨f, hf⟩ := cMake (a := 20 + (d + 1)) hB2 (Or.inr (Or.inr ⟨by omega, by omega⟩)) hm hM.2.2.1.2.1
      refine ⟨f, ?_⟩
      rw [hf, up2_eq]
      rw [up2_ne (show 9 ≠ 20 + (d + 1) by omega), up2_ne (show 10 ≠ 20 + (d + 1) by omega), up2_ne (show 11 ≠ 20 + (d + 1) by omega), up2_ne (show 12 ≠ 20 + (d + 1) by omega), up2_ne (show 9 ≠ 49 by omega), up2_ne (show 10 ≠ 49 by omega), up2_ne (show 11 ≠ 49 by omega), up2_ne (show 12 ≠ 49 by omega), a4, a5, a6, a7, up2_comm (show 20 + (d + 1) ≠ 49 by omega), up2_up2, up2_up2]
    have hcp : ∀ f1 : Nat → Int32, va_cpy ((up2 v 49 f1) (20 + d)) ((up2 v 49 f1) (20 + (d + 1))) 0 0 7 = r := by
      intro f1
      rw [up2_ne (by omega), up2_ne (by omega), e1]
      exact cpy7 (Rw_Z7 e3) (eZ (d + 1) (by omega))
    unfold fX5_tryMove fX5_tryMove_67 mY
    by_cases h0 : m = 0
    · subst h0
      obtain ⟨f1, hf1⟩ := cSays (v := v) (k := 1) (a := 20 + d) (show t < 6 by have := hM.2.2.1.2.1; omega) (by decide) (by omega) (hB.2.2.2 t hM.2.2.1.2.1).1 (hB.2.2.2 t hM.2.2.1.2.1).2
      rw [e1] at hf1
      obtain ⟨f, hf⟩ := hmk f1
      refine ⟨f, fun R x3 x4 => ?_⟩
      rw [if_neg (nI_pos (by omega)), nI_1, if_neg h7, if_pos gd, nI_clamp (show d < 2 ^ 31 by omega), c2, gB_some, if_neg ne10, if_pos gd, if_pos gd1, if_pos (show nI 0 = 0 from rfl), a10, show fX5_says v (nI t) 1 (20 + d) = _ from hf1, gB_some, nI_clamp (show d + 1 < 2 ^ 31 by omega), hcp, up2_ne (show 0 ≠ 20 + (d + 1) by omega), up2_ne (show 0 ≠ 49 by decide), a10, hf, gB_some, if_pos rfl]
    · obtain ⟨f, hf⟩ := hmk (v 49)
      have hcp2 := hcp (v 49)
      rw [up2_self] at hf hcp2
      refine ⟨f, fun R x3 x4 => ?_⟩
      rw [if_neg (nI_pos (by omega)), nI_1, if_neg h7, if_pos gd, nI_clamp (show d < 2 ^ 31 by omega), c2, gB_some, if_neg ne10, if_pos gd, if_pos gd1, if_neg (nI_neL (y := 0) (b := 0) rfl rfl h0 (by omega) (by decide)), nI_clamp (show d + 1 < 2 ^ 31 by omega), hcp2, up2_ne (show 0 ≠ 20 + (d + 1) by omega), a10, hf, gB_some, if_neg h0]
  · refine Or.inr ⟨c1, fun R x3 x4 => ?_⟩
    unfold fX5_tryMove
    rw [if_neg (nI_pos (by omega)), nI_1, if_neg h7, if_pos gd, nI_clamp (show d < 2 ^ 31 by omega), c2, gB_some, if_pos rfl]
theorem mTry {v w : gV} {n nt t d m L : Nat} {tc tb : Nat → Nat → Nat} {r : Nat → Int32} (h : JB v w n nt t tc tb d r) (hd : d + 1 ≤ 6) (hm : m ≤ n) :
    (mCan (w 2) (w 3) (w 4) (w 5) m r ∧ ∃ g f, ∀ (R : Nat → gV → Int32 → Int32 → Int32 → Int32 → Option (Unit × gV)) (q : Nat) (x3 x4 : Int32), fX6_rows_33 R (q + 1) w (nI d) (nI L) x3 x4 (nI m) = gB (R 0 (up3 w g f (mMk (w 2) (w 3) (w 4) (w 5) (LW (tc t) (tb t) 0) m r)) (nI (d + 1)) (nI L) (x3 + mY tc tb t m r) (((10 * x4) + nI m) + 1)) (fun _ v14 => gB (fX6_laysBack v14 (nI d)) (fun _ v17 => fX6_rows_33 R q v17 (nI d) (nI L) x3 x4 (nI (m + 1))))) ∨
    (¬ mCan (w 2) (w 3) (w 4) (w 5) m r ∧ ∀ (R : Nat → gV → Int32 → Int32 → Int32 → Int32 → Option (Unit × gV)) (q : Nat) (x3 x4 : Int32), fX6_rows_33 R (q + 1) w (nI d) (nI L) x3 x4 (nI m) = fX6_rows_33 R q w (nI d) (nI L) x3 x4 (nI (m + 1))) := by
  obtain ⟨⟨hB, hM, a10, ⟨a4, a5, a6, a7⟩, a8⟩, ⟨e1, e2, e3⟩, -, eZ⟩ := h
  have n5 := hB.2.1.1
  have n6 := hB.2.2.1
  have c := mCanMv hM.2.1 a8 hm
  rw [e2] at c
  rcases c with ⟨c1, c2⟩ | ⟨c1, c2⟩
  · refine Or.inl ⟨c1, ?_⟩
    by_cases h0 : m = 0
    · subst h0
      obtain ⟨-, -, ⟨-, ht, hl⟩, hTm⟩ := id hM
      obtain ⟨f1, g1, hg⟩ := mAsksOf (u := w) (k := 1) (show t < 6 by omega) (by decide) hl (hTm t ht).1 (hTm t ht).2
      rw [e2] at hg
      have hM2 : mBase (up2 (up2 w 17 g1) 16 f1) n nt t tc tb := mBase_up2 (mBase_up2 hM (Or.inr (by decide))) (Or.inr (by decide))
      obtain ⟨g, f, hf⟩ := mGoes (u := up2 (up2 w 17 g1) 16 f1) hM2 (by rw [up2_ne (by decide), up2_ne (by decide), e2]; exact e3) hm
      simp only [up2_ne (show (1 : Nat) ≠ 16 by decide), up2_ne (show (1 : Nat) ≠ 17 by decide), up2_ne (show (2 : Nat) ≠ 16 by decide), up2_ne (show (2 : Nat) ≠ 17 by decide), up2_ne (show (3 : Nat) ≠ 16 by decide), up2_ne (show (3 : Nat) ≠ 17 by decide), up2_ne (show (4 : Nat) ≠ 16 by decide), up2_ne (show (4 : Nat) ≠ 17 by decide), up2_ne (show (5 : Nat) ≠ 16 by decide), up2_ne (show (5 : Nat) ≠ 17 by decide), e2] at hf
      have e3' : up3 (up2 (up2 w 17 g1) 16 f1) g f (mMk (w 2) (w 3) (w 4) (w 5) (LW (tc t) (tb t) 0) 0 r) = up3 w g f (mMk (w 2) (w 3) (w 4) (w 5) (LW (tc t) (tb t) 0) 0 r) := by
        unfold up3
        rw [up2_comm (show 16 ≠ 17 by decide), up2_up2, up2_up2]
      rw [e3'] at hf
      refine ⟨g, f, fun R q x3 x4 => ?_⟩
      rw [fX6_rows_33, hM.1, if_neg (nI_nltL rfl rfl (by omega) (by omega)), c2, gB_some, if_neg ne10, if_pos (show nI 0 = 0 from rfl), show fX6_asksOf w 1 = _ from hg, gB_some]
      unfold fX6_rows_65 fX6_rows_100 mY
      rw [hf, gB_some, nI_1, nI_1, if_pos rfl]
    · obtain ⟨g, f, hf⟩ := mGoes (u := w) hM (by rw [e2]; exact e3) hm
      rw [e2] at hf
      refine ⟨g, f, fun R q x3 x4 => ?_⟩
      rw [fX6_rows_33, hM.1, if_neg (nI_nltL rfl rfl (by omega) (by omega)), c2, gB_some, if_neg ne10, if_neg (nI_neL (y := 0) (b := 0) rfl rfl h0 (by omega) (by decide))]
      unfold fX6_rows_65 fX6_rows_100 mY
      rw [hf, gB_some, nI_1, nI_1, if_neg h0]
  · refine Or.inr ⟨c1, fun R q x3 x4 => ?_⟩
    rw [fX6_rows_33, hM.1, if_neg (nI_nltL rfl rfl (by omega) (by omega)), c2, gB_some, if_pos rfl]
    unfold fX6_rows_100
    rw [nI_1]
