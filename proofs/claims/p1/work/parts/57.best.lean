/-! best: the operation -/
theorem bestAll {n nt t : Nat} {tc tb : Nat → Nat → Nat} {L : Nat} (hL : L ≤ 6) (n5 : n ≤ 5) : ∀ (k d fc fm : Nat), d + k = L → 2 * k < fc → k < fm → bestI n nt t tc tb L d fc fm := by
  intro k
  induction k with
  | zero =>
    intro d fc fm hd hc hm v w r x3 x4 h
    obtain ⟨a, rfl⟩ : ∃ a, fc = a + 1 := ⟨fc - 1, by omega⟩
    obtain ⟨b, rfl⟩ : ∃ b, fm = b + 1 := ⟨fm - 1, by omega⟩
    obtain rfl : d = L := by omega
    rw [trS0, rwS]
    unfold fX5_tryRows fX6_rows fX5_tryRows_19 fX6_rows_19
    obtain ⟨hJ, ⟨e1, e2, e3⟩, ⟨k1, k2⟩, eZ⟩ := id h
    rw [k1, if_neg (nI_nltL rfl rfl (Nat.le_refl _) (by omega)), if_neg (nI_nltL rfl rfl (Nat.le_refl _) (by omega)), if_pos rfl, if_pos rfl]
    by_cases c : x3 ≤ w 0 33
    · rw [if_pos c, if_pos c]
      exact ⟨v, w, rfl, rfl, h, frC_rf, frM_rf, c⟩
    · rw [if_neg c, if_neg c]
      refine ⟨_, _, rfl, rfl, ⟨BJ_to hJ (fun j hj => ?_) ?_ (fun j hj => ?_) (fun k hk => ?_), ⟨?_, ?_, e3⟩, ⟨?_, ?_⟩, fun e he => ?_⟩, ⟨fun j p q x => ?_, fun k p q => ?_⟩, ⟨fun j p q x y z => ?_, fun k p q => ?_, fun j hj => ?_, ?_⟩, ?_⟩
      · rw [up1_ne (by omega), up1_ne (by omega)]
      · rw [up1_eq, upd_ne (by decide), up1_eq, upd_ne (by decide)]
      · rw [up1_ne (by omega), up1_ne (by omega)]
      · rw [up1_eq, upd_ne (by omega), up1_eq, upd_ne (by omega)]
      · rw [up1_ne (by omega), up1_ne (by omega)]; exact e1
      · rw [up1_ne (by omega), up1_ne (by omega)]; exact e2
      · rw [up1_eq, upd_ne (by decide), up1_eq', up1_eq, upd_ne (by decide), up1_eq']
      · rw [up1_eq', up1_eq']
      · rw [up1_ne (by omega), up1_ne (by omega)]; exact eZ e he
      · rw [up1_ne p, up1_ne p]
      · rw [up1_eq, upd_ne q, up1_eq, upd_ne p]
      · rw [up1_ne p, up1_ne p]
      · rw [up1_eq, upd_ne q, up1_eq, upd_ne p]
      · rw [up1_ne (by decide), up1_ne (by decide)]
      · rw [up1_eq, upd_ne (by decide), up1_eq']
        rw [Int32.le_iff_toInt_le] at c ⊢
        omega
      · rw [up1_eq, upd_ne (by decide), up1_eq', Int32.le_iff_toInt_le]
        exact Int.le_refl _
  | succ k ih =>
    intro d fc fm hd hc hm v w r x3 x4 h
    obtain ⟨a, rfl⟩ : ∃ a, fc = a + 2 := ⟨fc - 2, by omega⟩
    obtain ⟨b, rfl⟩ : ∃ b, fm = b + 1 := ⟨fm - 1, by omega⟩
    have hI := ih (d + 1) a b (by omega) (by omega) (by omega)
    -- the record
    have hrec : ∃ v1 w1, (∀ A : gV → Option (Unit × gV), (if x3 ≤ v 0 10 then A v else A (up1 (up1 v 0 10 x3) 0 11 x4)) = A v1) ∧ (∀ A : gV → Option (Unit × gV), (if x3 ≤ w 0 33 then A w else A (up1 (up1 w 0 33 x3) 0 34 x4)) = A w1) ∧ JB v1 w1 n nt t tc tb d r ∧ frC d v v1 ∧ frM d w w1 ∧ x3 ≤ w1 0 33 := by
      obtain ⟨hJ, ⟨e1, e2, e3⟩, ⟨k1, k2⟩, eZ⟩ := id h
      rw [k1]
      by_cases c : x3 ≤ w 0 33
      · refine ⟨v, w, fun A => if_pos c, fun A => if_pos c, h, frC_rf, frM_rf, c⟩
      · refine ⟨_, _, fun A => if_neg c, fun A => if_neg c, ⟨BJ_to hJ (fun j hj => ?_) ?_ (fun j hj => ?_) (fun k hk => ?_), ⟨?_, ?_, e3⟩, ⟨?_, ?_⟩, fun e he => ?_⟩, ⟨fun j p q x => ?_, fun k p q => ?_⟩, ⟨fun j p q x y z => ?_, fun k p q => ?_, fun j hj => ?_, ?_⟩, ?_⟩
        · rw [up1_ne (by omega), up1_ne (by omega)]
        · rw [up1_eq, upd_ne (by decide), up1_eq, upd_ne (by decide)]
        · rw [up1_ne (by omega), up1_ne (by omega)]
        · rw [up1_eq, upd_ne (by omega), up1_eq, upd_ne (by omega)]
        · rw [up1_ne (by omega), up1_ne (by omega)]; exact e1
        · rw [up1_ne (by omega), up1_ne (by omega)]; exact e2
        · rw [up1_eq, upd_ne (by decide), up1_eq', up1_eq, upd_ne (by decide), up1_eq']
        · rw [up1_eq', up1_eq']
        · rw [up1_ne (by omega), up1_ne (by omega)]; exact eZ e he
        · rw [up1_ne p, up1_ne p]
        · rw [up1_eq, upd_ne q, up1_eq, upd_ne p]
        · rw [up1_ne p, up1_ne p]
        · rw [up1_eq, upd_ne q, up1_eq, upd_ne p]
        · rw [up1_ne (by decide), up1_ne (by decide)]
        · rw [up1_eq, upd_ne (by decide), up1_eq']
          rw [Int32.le_iff_toInt_le] at c ⊢
          omega
        · rw [up1_eq, upd_ne (by decide), up1_eq', Int32.le_iff_toInt_le]
          exact Int.le_refl _
    obtain ⟨v1, w1, r1, r2, h1, f1, g1, hx⟩ := hrec
    rw [trS0, rwS]
    unfold fX5_tryRows fX6_rows
    rw [r1 (fun z => fX5_tryRows_19 (fX5_tr (a + 1)) z (nI d) (nI L) x3 x4), r2 (fun z => fX6_rows_19 (fX6_rw b) z (nI d) (nI L) x3 x4)]
    unfold fX5_tryRows_19 fX6_rows_19 fX5_tryRows_43
    obtain ⟨hJ, ⟨e1, e2, e3⟩, ⟨k1, k2⟩, eZ⟩ := id h1
    have hkp := mKeeps (u := w1) (d := d) (by omega)
    rw [e2] at hkp
    rw [if_pos (nI_yltL rfl rfl (by omega) (by omega)), if_neg (nI_neL rfl rfl (by omega) (by omega) (by omega)), hkp, gB_some, nI_1]
    have h2 : JB v1 (up2 w1 18 (kF d r (w1 18) 0)) n nt t tc tb d r := ⟨BJ_to hJ (fun _ _ => rfl) rfl (fun j hj => up2_ne (by omega)) (fun k _ => by rw [up2_ne (by decide)]), ⟨e1, by rw [up2_ne (by decide)]; exact e2, e3⟩, ⟨by rw [up2_ne (by decide)]; exact k1, by rw [up2_ne (by decide)]; exact k2⟩, eZ⟩
    have hk2 : kept (up2 w1 18 (kF d r (w1 18) 0)) d r := fun k hk => by rw [up2_eq]; exact kF_at hk
    have g2 : frM d w1 (up2 w1 18 (kF d r (w1 18) 0)) := ⟨fun j p q x y z => up2_ne z, fun k p q => by rw [up2_ne (by decide)], fun j hj => by rw [up2_eq]; exact kF_ne (Or.inl hj), by rw [up2_ne (by decide), Int32.le_iff_toInt_le]; exact Int.le_refl _⟩
    have hx2 := le_fr hx g2
    generalize up2 w1 18 (kF d r (w1 18) 0) = w2 at *
    by_cases last : d + 1 = L
    · obtain ⟨v3, w3, s1, s2, s3, s4, s5, s6⟩ := stepJ (m := 0) (x3 := x3) (x4 := x4) hI h2 hk2 (by omega) (Nat.zero_le n)
      obtain ⟨b', rfl⟩ : ∃ b', b = b' + 1 := ⟨b - 1, by omega⟩
      obtain ⟨w4, t1, t2, t3⟩ := loopM (fm := b') (x3 := x3) (x4 := x4) (L := L) (show d + 1 ≤ 6 by omega) last n5 n 1 1999 w3 (by omega) (by omega) (by decide) (le_fr hx2 s5) s3 s6
      have s2' := s2 1999
      rw [show (nI 0 : Int32) = 0 from rfl] at s1 s2'
      rw [last, if_pos rfl, fX5_tryRows_48, if_neg (show ¬ (0 : Int32) < 0 by decide), s1, gB_some, fX5_tryRows_48, if_pos (show (0 : Int32) < 0 + 1 by decide), show (2000 : Nat) = 1999 + 1 from rfl, s2', show (nI (0 + 1) : Int32) = nI 1 from rfl, t1]
      exact ⟨v3, w4, rfl, rfl, t2, frC_tr f1 s4, frM_tr g1 (frM_tr g2 (frM_tr s5 t3)), le_fr (le_fr hx2 s5) t3⟩
    · obtain ⟨v3, w3, s1, s2, s3, s4, s5⟩ := loopJ (x3 := x3) (x4 := x4) hI (by omega) n5 (n + 1) 0 2000 2000 v1 w2 (by omega) (by omega) (by omega) h2 hk2
      rw [if_neg (nI_neL rfl rfl last (by omega) (by omega)), hJ.1.1]
      exact ⟨v3, w3, s1, s2, s3, frC_tr f1 s4, frM_tr g1 (frM_tr g2 s5), le_fr hx2 s5⟩
theorem op_best {v u : gV} (h : RelE v u) (x1 x2 : Int32) : ∃ x v' u', fX5_best v x1 x2 = some (x, v') ∧ fX6_best u x1 x2 = some (x, u') ∧ RelE v' u' := by
  have hE := h
  obtain ⟨n, nt, t, tc, tb, hR⟩ := h
  obtain ⟨hB, hM, ⟨⟨a1, a2, a3⟩, ⟨a4, a5, a6, a7⟩, a8, ⟨a9, a10, a11⟩, a12, a13⟩, -⟩ := id hR
  have n5 := hB.2.1.1
  unfold fX5_best fX6_best
  rw [show (6 : Int32) = nI 6 from rfl]
  by_cases h1 : ∃ k, k < 6 + 1 ∧ x1 = nI k
  · obtain ⟨L, hL, rfl⟩ := h1
    rw [good_gt (by decide) hL, mInT (b := nI 6) ((rngC (n := 6) (by decide)).mpr ⟨L, hL, rfl⟩), gB_some, if_neg ne10]
    by_cases h2 : ∃ k, k < 1 + 1 ∧ x2 = nI k
    · obtain ⟨k, hk, rfl⟩ := h2
      rw [good1 hk, mInT (b := 1) ((rngC (n := 1) (by decide)).mpr ⟨k, hk, rfl⟩), gB_some, if_neg ne10]
      have hcp : va_cpy ((up1 (up1 v 0 10 0) 0 11 0) 1) ((up1 (up1 v 0 10 0) 0 11 0) (20 + 0)) 0 0 7 = u 1 := by
        rw [up1_ne (by decide), up1_ne (by decide), up1_ne (by decide), up1_ne (by decide), cpy7 (Rw_Z7 a2) (a13 0 (by decide))]
        exact a1
      rw [hcp]
      have hJ : JB (up2 (up1 (up1 v 0 10 0) 0 11 0) (20 + 0) (u 1)) (up1 (up1 u 0 33 0) 0 34 0) n nt t tc tb 0 (u 1) := by
        refine ⟨BJ_to (v := v) (w := u) ⟨hB, hM, a10, ⟨a4, a5, a6, a7⟩, a8⟩ (fun j hj => ?_) ?_ (fun j hj => ?_) (fun k hk => ?_), ⟨up2_eq, ?_, ?_⟩, ⟨?_, ?_⟩, fun e he => ?_⟩
        · rw [up2_ne (by omega), up1_ne (by omega), up1_ne (by omega)]
        · rfl
        · rw [up1_ne (by omega), up1_ne (by omega)]
        · rw [up1_eq, upd_ne (by omega), up1_eq, upd_ne (by omega)]
        · rw [up1_ne (by omega), up1_ne (by omega)]
        · rw [← a1]; exact a2
        · rfl
        · rfl
        · by_cases c : e = 0
          · rw [c, up2_eq, ← a1]; exact Rw_Z7 a2
          · rw [up2_ne (by omega), up1_ne (by omega), up1_ne (by omega)]; exact a13 e he
      obtain ⟨v', u', g1, g2, g3, g4, g5, -⟩ := bestAll (show L ≤ 6 by omega) n5 L 0 16 8 (by omega) (by omega) (by omega) _ _ _ 0 0 hJ
      rw [show (nI 0 : Int32) = 0 from rfl] at g1 g2
      rw [g1, g2, gB_some, gB_some, g3.2.2.1.1, g3.2.2.1.2]
      have hfin : Rel v' u' n nt t tc tb := by
        refine Rel_same ⟨fun j a b c d => ?_, fun k hk => ?_, ?_, fun d hd => g3.2.2.2 d hd⟩ ⟨fun j a b c d => ?_, fun k hk => ?_⟩ hR
        · rw [g4.1 j a c (by omega), up2_ne (by omega), up1_ne (by omega), up1_ne (by omega)]
        · rw [g4.2 k (by omega) (by omega), up2_ne (by omega), up1_eq, upd_ne (by omega), up1_eq, upd_ne (by omega)]
        · rw [g4.1 2 (by decide) (by decide) (by decide), up2_ne (by decide), up1_ne (by decide), up1_ne (by decide)]; exact a12
        · by_cases e : j = 1
          · rw [e, g3.2.1.2.1]
          · rw [g5.1 j a e b c d, up1_ne (by omega), up1_ne (by omega)]
        · rw [g5.2.1 k (by omega) (by omega), up1_eq, upd_ne (by omega), up1_eq, upd_ne (by omega)]
      by_cases c : nI k = 0
      · rw [if_pos c, if_pos c]; exact ⟨_, _, _, rfl, rfl, n, nt, t, tc, tb, hfin⟩
      · rw [if_neg c, if_neg c]; exact ⟨_, _, _, rfl, rfl, n, nt, t, tc, tb, hfin⟩
    · rw [bad1 h2, mInF (b := 1) (fun z => h2 ((rngC (n := 1) (by decide)).mp z)), gB_some, if_pos rfl]
      exact ⟨_, _, _, rfl, rfl, hE⟩
  · rw [bad_gt (by decide) h1, mInF (b := nI 6) (fun z => h1 ((rngC (n := 6) (by decide)).mp z)), gB_some, if_pos rfl]
    exact ⟨_, _, _, rfl, rfl, hE⟩
