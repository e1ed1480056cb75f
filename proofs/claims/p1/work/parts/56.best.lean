/-! best: the search on both sides -/
def kept (w : gV) (d : Nat) (r : Nat → Int32) : Prop := ∀ k, k < 7 → w 18 (7 * d + k) = r k
def bestI (n nt t : Nat) (tc tb : Nat → Nat → Nat) (L d fc fm : Nat) : Prop := ∀ (v w : gV) (r : Nat → Int32) (x3 x4 : Int32), JB v w n nt t tc tb d r → ∃ v' w', fX5_tr fc 0 v (nI d) (nI L) x3 x4 0 = some ((), v') ∧ fX6_rw fm 0 w (nI d) (nI L) x3 x4 = some ((), w') ∧ JB v' w' n nt t tc tb d r ∧ frC d v v' ∧ frM d w w' ∧ x3 ≤ w' 0 33
theorem rwS {fm : Nat} {w : gV} {a0 a1 a2 a3 : Int32} : fX6_rw (fm + 1) 0 w a0 a1 a2 a3 = fX6_rows (fX6_rw fm) w a0 a1 a2 a3 := rfl
theorem trS0 {fc : Nat} {v : gV} {a0 a1 a2 a3 a4 : Int32} : fX5_tr (fc + 1) 0 v a0 a1 a2 a3 a4 = fX5_tryRows (fX5_tr fc) v a0 a1 a2 a3 := rfl
theorem trS1 {fc : Nat} {v : gV} {a0 a1 a2 a3 a4 : Int32} : fX5_tr (fc + 1) 1 v a0 a1 a2 a3 a4 = fX5_tryMove (fX5_tr fc) v a0 a1 a2 a3 a4 := rfl
theorem JB_next {v w : gV} {n nt t d : Nat} {tc tb : Nat → Nat → Nat} {r s f g f2 : Nat → Int32} (h : JB v w n nt t tc tb d r) (hd : d + 1 ≤ 6) (hs : Rw s) : JB (up2 (up2 v 49 f) (20 + (d + 1)) s) (up3 w g f2 s) n nt t tc tb (d + 1) s := by
  obtain ⟨hJ, ⟨e1, e2, e3⟩, ⟨k1, k2⟩, eZ⟩ := h
  refine ⟨BJ_to hJ (fun j hj => ?_) ?_ (fun j hj => ?_) (fun k hk => ?_), ⟨up2_eq, up3_1, hs⟩, ⟨?_, ?_⟩, fun e he => ?_⟩
  · rw [up2_ne (by omega), up2_ne (by omega)]
  · rw [up2_ne (by omega), up2_ne (by omega)]
  · exact up3_ne (by omega)
  · rw [up3_ne (by decide)]
  · rw [up2_ne (by omega), up2_ne (by omega), up3_ne (by decide)]; exact k1
  · rw [up2_ne (by omega), up2_ne (by omega), up3_ne (by decide)]; exact k2
  · by_cases c : e = d + 1
    · rw [c, up2_eq]; exact Rw_Z7 hs
    · rw [up2_ne (by omega), up2_ne (by omega)]; exact eZ e he
theorem stepJ {v w : gV} {n nt t d m L fc fm : Nat} {tc tb : Nat → Nat → Nat} {r : Nat → Int32} {x3 x4 : Int32} (hI : bestI n nt t tc tb L (d + 1) fc fm) (h : JB v w n nt t tc tb d r) (hk : kept w d r) (hd : d + 1 ≤ 6) (hm : m ≤ n) : ∃ v' w', fX5_tr (fc + 1) 1 v (nI m) (nI d) (nI L) x3 x4 = some ((), v') ∧ (∀ q, fX6_rows_33 (fX6_rw fm) (q + 1) w (nI d) (nI L) x3 x4 (nI m) = fX6_rows_33 (fX6_rw fm) q w' (nI d) (nI L) x3 x4 (nI (m + 1))) ∧ JB v' w' n nt t tc tb d r ∧ frC d v v' ∧ frM d w w' ∧ kept w' d r := by
  rcases cTry (L := L) h hd hm with ⟨c1, f, c2⟩ | ⟨c1, c2⟩ <;> rcases mTry (L := L) h hd hm with ⟨d1, g, f2, d2⟩ | ⟨d1, d2⟩
  · obtain ⟨⟨hB, hM, a10, a4, a8⟩, ⟨e1, e2, e3⟩, -, eZ⟩ := id h
    have hs : Rw (mMk (w 2) (w 3) (w 4) (w 5) (LW (tc t) (tb t) 0) m r) := Rw_can hM.2.1 e3 (LW_rng _ _ _) hm c1
    generalize mMk (w 2) (w 3) (w 4) (w 5) (LW (tc t) (tb t) 0) m r = s at *
    obtain ⟨v', w', g1, g2, g3, g4, g5, g6⟩ := hI _ _ s (x3 + mY tc tb t m r) (((x4 * 10) + nI m) + 1) (JB_next (f := f) (g := g) (f2 := f2) h hd hs)
    have k18 : ∀ k, k < 7 → w' 18 (7 * d + k) = r k := fun k hk' => by
      rw [g5.2.2.1 _ (by omega), up3_ne (by decide)]; exact hk k hk'
    have lb : fX6_laysBack w' (nI d) = some ((), up2 w' 1 r) := mLays (by omega) k18 (Rw_Z7 e3) (by rw [g3.2.1.2.1]; exact Rw_Z7 hs)
    refine ⟨v', up2 w' 1 r, ?_, fun q => ?_, ⟨BJ_to g3.1 (fun _ _ => rfl) rfl (fun j hj => up2_ne (by omega)) (fun k _ => by rw [up2_ne (by decide)]), ⟨?_, up2_eq, e3⟩, ?_, g3.2.2.2⟩, ?_, ?_, fun k hk' => ?_⟩
    · rw [trS1, c2, g1, gB_some]
    · rw [d2, show (10 * x4 + nI m) + 1 = ((x4 * 10) + nI m) + 1 by rw [Int32.mul_comm], g2, gB_some, lb, gB_some]
    · rw [g4.1 (20 + d) (by omega) (by omega) (by omega), up2_ne (by omega), up2_ne (by omega)]; exact e1
    · rw [up2_ne (by decide)]; exact g3.2.2.1
    · refine frC_tr ⟨fun j a b c => ?_, fun k _ _ => ?_⟩ (frC_up g4)
      · rw [up2_ne (by omega), up2_ne b]
      · rw [up2_ne (by omega), up2_ne (by omega)]
    · refine ⟨fun j p q x y z => ?_, fun k p q => ?_, fun j hj => ?_, ?_⟩
      · rw [up2_ne q, g5.1 j p q x y z, up3_ne ⟨q, x, y⟩]
      · rw [up2_ne (by decide), g5.2.1 k p q, up3_ne (by decide)]
      · rw [up2_ne (by decide), g5.2.2.1 j (by omega), up3_ne (by decide)]
      · have := g5.2.2.2
        rw [up3_ne (by decide)] at this
        rw [up2_ne (by decide)]; exact this
    · rw [up2_ne (by decide)]; exact k18 k hk'
  · exact absurd c1 d1
  · exact absurd d1 c1
  · refine ⟨v, w, ?_, fun q => d2 _ q x3 x4, h, frC_rf, frM_rf, hk⟩
    rw [trS1, c2]
theorem stepM {v w : gV} {n nt t d m L fm : Nat} {tc tb : Nat → Nat → Nat} {r : Nat → Int32} {x3 x4 : Int32} (h : JB v w n nt t tc tb d r) (hk : kept w d r) (hd : d + 1 ≤ 6) (hm : m ≤ n) (hL : d + 1 = L) (h0 : m ≠ 0) (hx : x3 ≤ w 0 33) : ∃ w', (∀ q, fX6_rows_33 (fX6_rw (fm + 1)) (q + 1) w (nI d) (nI L) x3 x4 (nI m) = fX6_rows_33 (fX6_rw (fm + 1)) q w' (nI d) (nI L) x3 x4 (nI (m + 1))) ∧ JB v w' n nt t tc tb d r ∧ frM d w w' ∧ kept w' d r := by
  rcases mTry (L := L) h hd hm with ⟨d1, g, f2, d2⟩ | ⟨d1, d2⟩
  · obtain ⟨⟨hB, hM, a10, a4, a8⟩, ⟨e1, e2, e3⟩, e5, eZ⟩ := id h
    have hs : Rw (mMk (w 2) (w 3) (w 4) (w 5) (LW (tc t) (tb t) 0) m r) := Rw_can hM.2.1 e3 (LW_rng _ _ _) hm d1
    generalize mMk (w 2) (w 3) (w 4) (w 5) (LW (tc t) (tb t) 0) m r = s at *
    have lb : fX6_laysBack (up3 w g f2 s) (nI d) = some ((), up2 (up3 w g f2 s) 1 r) := mLays (by omega) (fun k hk' => by rw [up3_ne (by decide)]; exact hk k hk') (Rw_Z7 e3) (by rw [up3_1]; exact Rw_Z7 hs)
    refine ⟨up2 (up3 w g f2 s) 1 r, fun q => ?_, ⟨BJ_to h.1 (fun _ _ => rfl) rfl (fun j hj => ?_) (fun k _ => ?_), ⟨e1, up2_eq, e3⟩, ?_, eZ⟩, ⟨fun j p q x y z => ?_, fun k p q => ?_, fun j hj => ?_, ?_⟩, fun k hk' => ?_⟩
    · rw [d2, hL, rwS]
      unfold fX6_rows fX6_rows_19 mY
      rw [if_neg h0, Int32.add_zero, up3_ne (by decide), if_pos hx, if_pos rfl, gB_some, lb, gB_some]
    · rw [up2_ne (by omega), up3_ne (by omega)]
    · rw [up2_ne (by decide), up3_ne (by decide)]
    · rw [up2_ne (by decide), up3_ne (by decide)]; exact e5
    · rw [up2_ne q, up3_ne ⟨q, x, y⟩]
    · rw [up2_ne (by decide), up3_ne (by decide)]
    · rw [up2_ne (by decide), up3_ne (by decide)]
    · rw [up2_ne (by decide), up3_ne (by decide), Int32.le_iff_toInt_le]; exact Int.le_refl _
    · rw [up2_ne (by decide), up3_ne (by decide)]; exact hk k hk'
  · exact ⟨w, fun q => d2 _ q x3 x4, h, frM_rf, hk⟩
theorem le_fr {d : Nat} {w w' : gV} {x : Int32} (h : x ≤ w 0 33) (g : frM d w w') : x ≤ w' 0 33 := by
  have h2 := g.2.2.2
  rw [Int32.le_iff_toInt_le] at h h2 ⊢
  omega
theorem loopJ {n nt t d L fc fm : Nat} {tc tb : Nat → Nat → Nat} {r : Nat → Int32} {x3 x4 : Int32} (hI : bestI n nt t tc tb L (d + 1) fc fm) (hd : d + 1 ≤ 6) (n5 : n ≤ 5) : ∀ (k i qc qm : Nat) (v w : gV), k < qc → k < qm → i + k = n + 1 → JB v w n nt t tc tb d r → kept w d r → ∃ v' w', fX5_tryRows_48 (fX5_tr (fc + 1)) qc v (nI d) (nI L) x3 x4 (nI n) (nI i) = some ((), v') ∧ fX6_rows_33 (fX6_rw fm) qm w (nI d) (nI L) x3 x4 (nI i) = some ((), w') ∧ JB v' w' n nt t tc tb d r ∧ frC d v v' ∧ frM d w w' := by
  intro k
  induction k with
  | zero =>
    intro i qc qm v w hc hm hi h hk
    obtain ⟨a, rfl⟩ : ∃ a, qc = a + 1 := ⟨qc - 1, by omega⟩
    obtain ⟨b, rfl⟩ : ∃ b, qm = b + 1 := ⟨qm - 1, by omega⟩
    rw [fX5_tryRows_48, fX6_rows_33, if_pos (nI_yltL rfl rfl (by omega) (by omega)), h.1.2.1.1, if_pos (nI_yltL rfl rfl (by omega) (by omega))]
    exact ⟨v, w, rfl, rfl, h, frC_rf, frM_rf⟩
  | succ k ih =>
    intro i qc qm v w hc hm hi h hk
    obtain ⟨a, rfl⟩ : ∃ a, qc = a + 1 := ⟨qc - 1, by omega⟩
    obtain ⟨b, rfl⟩ : ∃ b, qm = b + 1 := ⟨qm - 1, by omega⟩
    obtain ⟨v1, w1, s1, s2, s3, s4, s5, s6⟩ := stepJ (x3 := x3) (x4 := x4) hI h hk hd (show i ≤ n by omega)
    obtain ⟨v2, w2, t1, t2, t3, t4, t5⟩ := ih (i + 1) a b v1 w1 (by omega) (by omega) (by omega) s3 s6
    rw [fX5_tryRows_48, if_neg (nI_nltL rfl rfl (by omega) (by omega)), s1, gB_some, nI_1, t1, s2, t2]
    exact ⟨v2, w2, rfl, rfl, t3, frC_tr s4 t4, frM_tr s5 t5⟩
theorem loopM {v : gV} {n nt t d L fm : Nat} {tc tb : Nat → Nat → Nat} {r : Nat → Int32} {x3 x4 : Int32} (hd : d + 1 ≤ 6) (hL : d + 1 = L) (n5 : n ≤ 5) : ∀ (k i qm : Nat) (w : gV), k < qm → i + k = n + 1 → 0 < i → x3 ≤ w 0 33 → JB v w n nt t tc tb d r → kept w d r → ∃ w', fX6_rows_33 (fX6_rw (fm + 1)) qm w (nI d) (nI L) x3 x4 (nI i) = some ((), w') ∧ JB v w' n nt t tc tb d r ∧ frM d w w' := by
  intro k
  induction k with
  | zero =>
    intro i qm w hm hi h0 hx h hk
    obtain ⟨b, rfl⟩ : ∃ b, qm = b + 1 := ⟨qm - 1, by omega⟩
    rw [fX6_rows_33, h.1.2.1.1, if_pos (nI_yltL rfl rfl (by omega) (by omega))]
    exact ⟨w, rfl, h, frM_rf⟩
  | succ k ih =>
    intro i qm w hm hi h0 hx h hk
    obtain ⟨b, rfl⟩ : ∃ b, qm = b + 1 := ⟨qm - 1, by omega⟩
    obtain ⟨w1, s2, s3, s5, s6⟩ := stepM (x3 := x3) (x4 := x4) (fm := fm) h hk hd (show i ≤ n by omega) hL (by omega) hx
    obtain ⟨w2, t2, t3, t5⟩ := ih (i + 1) b w1 (by omega) (by omega) (by omega) (le_fr hx s5) s3 s6
    rw [s2, t2]
    exact ⟨w2, rfl, t3, frM_tr s5 t5⟩
