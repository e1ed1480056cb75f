/-! taken, change, rate: both sides -/
theorem oneUnder {v u : gV} : ∀ k j : Nat, k < 6 → j < 7 → ∃ b : Int32, fX1_isOne v (nI k) (nI j) = some (b, v) ∧ (j < 6 → fX6_isUnder u (nI k) (nI j) = some (b, u)) ∧ (j = 6 → b = 0)
  | 0, 0, _, _ => ⟨1, rfl, fun _ => rfl, fun h => absurd h (by decide)⟩
  | 0, 1, _, _ => ⟨0, rfl, fun _ => rfl, fun h => rfl⟩
  | 0, 2, _, _ => ⟨0, rfl, fun _ => rfl, fun h => rfl⟩
  | 0, 3, _, _ => ⟨0, rfl, fun _ => rfl, fun h => rfl⟩
  | 0, 4, _, _ => ⟨0, rfl, fun _ => rfl, fun h => rfl⟩
  | 0, 5, _, _ => ⟨0, rfl, fun _ => rfl, fun h => rfl⟩
  | 0, 6, _, _ => ⟨0, rfl, fun h => absurd h (by decide), fun _ => rfl⟩
  | 1, 0, _, _ => ⟨1, rfl, fun _ => rfl, fun h => absurd h (by decide)⟩
  | 1, 1, _, _ => ⟨1, rfl, fun _ => rfl, fun h => absurd h (by decide)⟩
  | 1, 2, _, _ => ⟨0, rfl, fun _ => rfl, fun h => rfl⟩
  | 1, 3, _, _ => ⟨0, rfl, fun _ => rfl, fun h => rfl⟩
  | 1, 4, _, _ => ⟨0, rfl, fun _ => rfl, fun h => rfl⟩
  | 1, 5, _, _ => ⟨0, rfl, fun _ => rfl, fun h => rfl⟩
  | 1, 6, _, _ => ⟨0, rfl, fun h => absurd h (by decide), fun _ => rfl⟩
  | 2, 0, _, _ => ⟨1, rfl, fun _ => rfl, fun h => absurd h (by decide)⟩
  | 2, 1, _, _ => ⟨0, rfl, fun _ => rfl, fun h => rfl⟩
  | 2, 2, _, _ => ⟨1, rfl, fun _ => rfl, fun h => absurd h (by decide)⟩
  | 2, 3, _, _ => ⟨0, rfl, fun _ => rfl, fun h => rfl⟩
  | 2, 4, _, _ => ⟨0, rfl, fun _ => rfl, fun h => rfl⟩
  | 2, 5, _, _ => ⟨0, rfl, fun _ => rfl, fun h => rfl⟩
  | 2, 6, _, _ => ⟨0, rfl, fun h => absurd h (by decide), fun _ => rfl⟩
  | 3, 0, _, _ => ⟨1, rfl, fun _ => rfl, fun h => absurd h (by decide)⟩
  | 3, 1, _, _ => ⟨1, rfl, fun _ => rfl, fun h => absurd h (by decide)⟩
  | 3, 2, _, _ => ⟨0, rfl, fun _ => rfl, fun h => rfl⟩
  | 3, 3, _, _ => ⟨1, rfl, fun _ => rfl, fun h => absurd h (by decide)⟩
  | 3, 4, _, _ => ⟨0, rfl, fun _ => rfl, fun h => rfl⟩
  | 3, 5, _, _ => ⟨0, rfl, fun _ => rfl, fun h => rfl⟩
  | 3, 6, _, _ => ⟨0, rfl, fun h => absurd h (by decide), fun _ => rfl⟩
  | 4, 0, _, _ => ⟨1, rfl, fun _ => rfl, fun h => absurd h (by decide)⟩
  | 4, 1, _, _ => ⟨0, rfl, fun _ => rfl, fun h => rfl⟩
  | 4, 2, _, _ => ⟨1, rfl, fun _ => rfl, fun h => absurd h (by decide)⟩
  | 4, 3, _, _ => ⟨0, rfl, fun _ => rfl, fun h => rfl⟩
  | 4, 4, _, _ => ⟨1, rfl, fun _ => rfl, fun h => absurd h (by decide)⟩
  | 4, 5, _, _ => ⟨0, rfl, fun _ => rfl, fun h => rfl⟩
  | 4, 6, _, _ => ⟨0, rfl, fun h => absurd h (by decide), fun _ => rfl⟩
  | 5, 0, _, _ => ⟨1, rfl, fun _ => rfl, fun h => absurd h (by decide)⟩
  | 5, 1, _, _ => ⟨0, rfl, fun _ => rfl, fun h => rfl⟩
  | 5, 2, _, _ => ⟨0, rfl, fun _ => rfl, fun h => rfl⟩
  | 5, 3, _, _ => ⟨0, rfl, fun _ => rfl, fun h => rfl⟩
  | 5, 4, _, _ => ⟨0, rfl, fun _ => rfl, fun h => rfl⟩
  | 5, 5, _, _ => ⟨1, rfl, fun _ => rfl, fun h => absurd h (by decide)⟩
  | 5, 6, _, _ => ⟨0, rfl, fun h => absurd h (by decide), fun _ => rfl⟩
theorem op_taken {v u : gV} (h : RelE v u) (x1 x2 : Int32) : ∃ x v' u', fX5_taken v x1 x2 = some (x, v') ∧ fX6_taken u x1 x2 = some (x, u') ∧ RelE v' u' := by
  have hE := h
  obtain ⟨n, nt, t, tc, tb, hR⟩ := h
  obtain ⟨hB, hM, ⟨⟨a1, a2, a3⟩, ⟨a4, a5, a6, a7⟩, -⟩, -⟩ := id hR
  have n5 := hB.2.1.1
  unfold fX5_taken fX6_taken
  by_cases h2 : ∃ j, j < 6 + 1 ∧ x2 = nI j
  · obtain ⟨j, hj, rfl⟩ := h2
    rw [show (6 : Int32) = nI 6 from rfl, good_le (by decide) hj, mInT (b := nI 6) ((rngC (n := 6) (by decide)).mpr ⟨j, hj, rfl⟩), gB_some, if_neg ne10]
    by_cases h1 : ∃ i, i < 8 + 1 ∧ x1 = nI i
    · obtain ⟨i, hi, rfl⟩ := h1
      rw [show (9 : Int32) = nI 9 from rfl, good_lt (by decide) (show i < 9 by omega), mInT (b := 8) ((rngC (n := 8) (by decide)).mpr ⟨i, hi, rfl⟩), gB_some, if_neg ne10]
      by_cases h4 : 4 ≤ i
      · rw [if_pos (nI_yltL (x := 3) (a := 3) rfl rfl (by omega) (by omega)), if_pos (nI_yleL (x := 4) (a := 4) rfl rfl h4 (by omega)), show (4 : Int32) = nI 4 from rfl, pk_sub h4, hM.1]
        by_cases hr : i - 4 < n
        · obtain ⟨k, hk, ek⟩ := nI_ex (n := 6) (x := u 2 (i - 4)) (hM.2.1.2 (i - 4) hr).1.1 (by have := (hM.2.1.2 (i - 4) hr).1.2; omega)
          obtain ⟨b, o1, o2, o3⟩ := oneUnder (v := v) (u := u) k j hk hj
          rw [cHas hB.1 n5 hr, gB_some, if_neg ne10, if_pos (gin_nI (show i - 4 < 5 by omega) (by decide)), nI_clamp (by omega), a4, ek, o1, gB_some, if_pos (nI_yltL rfl rfl hr (by omega))]
          by_cases h6 : j = 6
          · rw [o3 h6, if_pos rfl, if_pos (nI_yleL rfl rfl (by omega) (by omega))]
            exact ⟨_, _, _, rfl, rfl, hE⟩
          · rw [if_neg (nI_nleL rfl rfl (by omega) (by omega)), if_pos (gin_nI (show i - 4 < 5 by omega) (by decide)), o2 (by omega), gB_some]
            by_cases hb : b = 0
            · rw [if_pos hb, if_pos hb]; exact ⟨_, _, _, rfl, rfl, hE⟩
            · rw [if_neg hb, if_neg hb]; exact ⟨_, _, _, rfl, rfl, hE⟩
        · rw [cHasF hB.1 n5 (fun ⟨r, hr2, e⟩ => hr (by have := (nI_eq (by omega) (by omega)).mp e; omega)), gB_some, if_pos rfl, if_neg (nI_nltL rfl rfl (by omega) (by omega))]
          exact ⟨_, _, _, rfl, rfl, hE⟩
      · rw [if_neg (nI_nltL (x := 3) (a := 3) rfl rfl (by omega) (by decide)), if_neg (nI_nleL (x := 4) (a := 4) rfl rfl (by omega) (by decide)), if_pos (gin_nI (show i < 7 by omega) (by decide)), if_pos (gin_nI (show i < 7 by omega) (by decide)), if_pos (gin_nI (show i < 7 by omega) (by decide)), if_pos (gin_nI (show i < 7 by omega) (by decide)), nI_clamp (by omega), a1]
        by_cases c : u 1 i = 0
        · rw [if_pos c, if_pos c]; exact ⟨_, _, _, rfl, rfl, hE⟩
        · rw [if_neg c, if_neg c]
          by_cases d : nI j = nI 6
          · rw [if_pos d, if_pos d]; exact ⟨_, _, _, rfl, rfl, hE⟩
          · rw [if_neg d, if_neg d]; exact ⟨_, _, _, rfl, rfl, hE⟩
    · rw [show (9 : Int32) = nI 9 from rfl, bad_lt (by decide) h1, mInF (b := 8) (fun z => h1 ((rngC (n := 8) (by decide)).mp z)), gB_some, if_pos rfl]
      exact ⟨_, _, _, rfl, rfl, hE⟩
  · rw [show (6 : Int32) = nI 6 from rfl, bad_le (by decide) h2, mInF (b := nI 6) (fun z => h2 ((rngC (n := 6) (by decide)).mp z)), gB_some, if_pos rfl]
    exact ⟨_, _, _, rfl, rfl, hE⟩
theorem cIsKind {v : gV} {k : Nat} (h : k < 6) : fX1_isKind v (nI k) = some (1, v) := by
  unfold fX1_isKind
  rw [if_neg (nI_pos (by omega)), if_neg (nI_nleL (x := 6) (a := 6) rfl rfl h (by decide))]
theorem cIsKindF {v : gV} {x : Int32} (h : ¬ ∃ k, k < 6 ∧ x = nI k) : fX1_isKind v x = some (0, v) := bad_ge (n := 6) (by decide) h
theorem cIsMore {v : gV} {k : Nat} (h : k < 9 + 1) : fX1_isMore v (nI k) = some (1, v) := good_gt (n := 9) (by decide) h
theorem cIsMoreF {v : gV} {x : Int32} (h : ¬ ∃ k, k < 9 + 1 ∧ x = nI k) : fX1_isMore v x = some (0, v) := bad_gt (n := 9) (by decide) h
theorem mIsSo {u : gV} {k m : Nat} (h : k < 6) (hm : m < 9 + 1) : fX6_isSo u (nI k) (nI m) = some (1, u) := by
  unfold fX6_isSo
  rw [mInT (b := 5) ((rngC (n := 5) (by decide)).mpr ⟨k, h, rfl⟩), gB_some, if_neg ne10, mInT (b := 9) ((rngC (n := 9) (by decide)).mpr ⟨m, hm, rfl⟩), gB_some, if_neg ne10]
theorem mIsSoF {u : gV} {x y : Int32} (h : (¬ ∃ k, k < 6 ∧ x = nI k) ∨ ¬ ∃ k, k < 9 + 1 ∧ y = nI k) : fX6_isSo u x y = some (0, u) := by
  unfold fX6_isSo
  by_cases h1 : ∃ k, k < 6 ∧ x = nI k
  · rw [mInT (b := 5) ((rngC (n := 5) (by decide)).mpr h1), gB_some, if_neg ne10, mInF (b := 9) (fun z => (h.resolve_left (fun z => z h1)) ((rngC (n := 9) (by decide)).mp z)), gB_some, if_pos rfl]
  · rw [mInF (b := 5) (fun z => h1 ((rngC (n := 5) (by decide)).mp z)), gB_some, if_pos rfl]
theorem Rel_rt {v v' u u' : gV} {n n' nt t : Nat} {tc tb : Nat → Nat → Nat} (hn : n ≤ n') (hv : ∀ j, ¬ (j = 4 ∨ 9 ≤ j ∧ j ≤ 12) → v' j = v j) (hu : ∀ j, ¬ (j = 0 ∨ 2 ≤ j ∧ j ≤ 5) → u' j = u j) (hu0 : ∀ k, k ≠ 1 → u' 0 k = u 0 k) (e1 : v' 4 4 = nI n') (e2 : u' 0 1 = nI n') (e3 : v' 9 = u' 2 ∧ v' 10 = u' 3 ∧ v' 11 = u' 4 ∧ v' 12 = u' 5) (e4 : RI (v' 9) (v' 10) (v' 11) (v' 12) n') (e5 : ∀ r, r < n → v' 10 r = v 10 r ∧ v' 11 r = v 11 r) (h : Rel v u n nt t tc tb) : Rel v' u' n' nt t tc tb := by
  obtain ⟨⟨b1, b2, b3, b4⟩, ⟨m1, m2, ⟨m3, m5, m6⟩, m4⟩, ⟨⟨a1, a2, a3⟩, ⟨a4, a5, a6, a7⟩, a8, ⟨a9, a10, a11⟩, a12, a13⟩, ⟨⟨q, t1, t2, t3, t4⟩, t5⟩, ⟨i1, i2, i3⟩, hS⟩ := h
  refine ⟨⟨e1, e4, b3, fun t ht => ⟨(b4 t ht).1, ?_, ?_⟩⟩, ⟨e2, ?_, ⟨m3, m5, ?_⟩, fun t ht => ⟨(m4 t ht).1, ?_, ?_⟩⟩, ⟨⟨?_, ?_, ?_⟩, e3, ?_, ⟨?_, ?_, ?_⟩, ?_, ?_⟩, ⟨⟨q, t1, ?_, ?_, ?_⟩, ?_⟩, ⟨?_, ?_, ?_⟩, ?_⟩
  · rw [hv (43 + t) (by omega)]; exact (b4 t ht).2.1
  · rw [hv (37 + t) (by omega)]; exact (b4 t ht).2.2
  · rw [← e3.1, ← e3.2.1, ← e3.2.2.1, ← e3.2.2.2]; exact e4
  · rw [hu0 12 (by omega)]; exact m6
  · rw [hu 8 (by omega)]; exact (m4 t ht).2.1
  · rw [hu 7 (by omega)]; exact (m4 t ht).2.2
  · rw [hv 1 (by omega), hu 1 (by omega)]; exact a1
  · rw [hv 1 (by omega)]; exact a2
  · rw [hv 1 (by omega)]; exact a3
  · rw [hu0 6 (by omega)]; exact a8
  · rw [hv 0 (by omega)]; exact a9
  · rw [hv 0 (by omega)]; exact a10
  · rw [hu0 11 (by omega)]; exact a11
  · rw [hv 2 (by omega)]; exact a12
  · intro d hd; rw [hv (20 + d) (by omega)]; exact a13 d hd
  · rw [hv 5 (by omega)]; exact t2
  · rw [hu0 8 (by omega)]; exact t3
  · rw [hv 13 (by omega), hu 6 (by omega)]; exact t4
  · rw [hu 14 (by omega)]; exact t5
  · rw [hv 17 (by omega)]; exact i1
  · rw [hv 8 (by omega), hu0 13 (by omega)]; exact i2
  · rw [hv 8 (by omega), hv 17 (by omega), hv 18 (by omega), hv 19 (by omega), hu 9 (by omega), hu0 14 (by omega), hu0 15 (by omega)]
    rcases i3 with i3 | ⟨i3, ni, ti, c1, c2, c3, c4, c5, c6, c7, c8⟩
    · exact Or.inl i3
    · refine Or.inr ⟨i3, ni, ti, by omega, c2, c3, c4, c5, c6, c7, c8.1, fun r hr => ?_⟩
      rw [(e5 r (by omega)).1, (e5 r (by omega)).2]
      exact c8.2 r hr
  · intro s hs
    rw [hv 15 (by omega), hv 16 (by omega), hv (27 + s) (by omega), hu 10 (by omega), hu 11 (by omega), hu 12 (by omega)]
    exact hS s hs
theorem op_change {v u : gV} (h : RelE v u) (x1 x2 x3 : Int32) : ∃ x v' u', fX5_change v x1 x2 x3 = some (x, v') ∧ fX6_change u x1 x2 x3 = some (x, u') ∧ RelE v' u' := by
  have hE := h
  obtain ⟨n, nt, t, tc, tb, hR⟩ := h
  obtain ⟨hB, hM, ⟨⟨a1, a2, a3⟩, ⟨a4, a5, a6, a7⟩, -⟩, -⟩ := id hR
  have n5 := hB.2.1.1
  unfold fX5_change fX6_change
  by_cases hx : ∃ r, r < n ∧ x1 = nI r
  · obtain ⟨r, hr, rfl⟩ := hx
    rw [cHas hB.1 n5 hr, mIsRateT hM.1 n5 hr, gB_some, gB_some, if_neg ne10, if_neg ne10]
    by_cases h2 : ∃ k, k < 6 ∧ x2 = nI k
    · by_cases h3 : ∃ m, m < 9 + 1 ∧ x3 = nI m
      · obtain ⟨k, hk, rfl⟩ := h2
        obtain ⟨m, hm, rfl⟩ := h3
        have g5 : gin (nI r) 5 = true := gin_nI (by omega) (by decide)
        rw [cIsKind hk, gB_some, if_neg ne10, cIsMore hm, gB_some, if_neg ne10, mIsSo hk hm, gB_some, if_neg ne10, if_pos g5, if_pos g5, if_pos g5, if_pos g5, if_pos g5, if_pos g5, nI_clamp (by omega), a4]
        refine ⟨_, _, _, rfl, rfl, n, nt, t, tc, tb, Rel_rt (Nat.le_refl _) (fun j hj => ?_) (fun j hj => ?_) (fun k _ => ?_) ?_ ?_ ⟨?_, ?_, ?_, ?_⟩ ⟨n5, fun i hi => ?_⟩ (fun i hi => ⟨?_, ?_⟩) hR⟩
        · rw [up1_ne (by omega), up1_ne (by omega)]
        · rw [up1_ne (by omega), up1_ne (by omega)]
        · rw [up1_ne (by omega), up1_ne (by omega)]
        · rw [up1_ne (by omega), up1_ne (by omega)]; exact hB.1
        · rw [up1_ne (by omega), up1_ne (by omega)]; exact hM.1
        · rw [up1_ne (by omega), up1_eq, up1_ne (by omega), up1_eq, a4]
        · rw [up1_ne (by omega), up1_ne (by omega), up1_ne (by omega), up1_ne (by omega), a5]
        · rw [up1_ne (by omega), up1_ne (by omega), up1_ne (by omega), up1_ne (by omega), a6]
        · rw [up1_eq, up1_ne (by omega), up1_eq, up1_ne (by omega), a7]
        · have hI := hB.2.1.2 i hi
          rw [up1_ne (show 9 ≠ 12 by decide), up1_ne (show 10 ≠ 12 by decide), up1_ne (show 11 ≠ 12 by decide), up1_eq, up1_eq, up1_ne (show 10 ≠ 9 by decide), up1_ne (show 11 ≠ 9 by decide), up1_ne (show 12 ≠ 9 by decide)]
          refine ⟨?_, hI.2.1, hI.2.2.1, ?_⟩
          · by_cases e : i = r
            · rw [e, upd_eq, nI_toInt (by omega)]; omega
            · rw [upd_ne e]; exact hI.1
          · by_cases e : i = r
            · rw [e, upd_eq, nI_toInt (by omega)]; omega
            · rw [upd_ne e]; exact hI.2.2.2
        · rw [up1_ne (by omega), up1_ne (by omega)]
        · rw [up1_ne (by omega), up1_ne (by omega)]
      · obtain ⟨k, hk, rfl⟩ := h2
        rw [cIsKind hk, gB_some, if_neg ne10, cIsMoreF h3, gB_some, if_pos rfl, mIsSoF (Or.inr h3), gB_some, if_pos rfl]
        exact ⟨_, _, _, rfl, rfl, hE⟩
    · rw [cIsKindF h2, gB_some, if_pos rfl, mIsSoF (Or.inl h2), gB_some, if_pos rfl]
      exact ⟨_, _, _, rfl, rfl, hE⟩
  · rw [cHasF hB.1 n5 hx, mIsRateF hM.1 n5 hx, gB_some, gB_some, if_pos rfl, if_pos rfl]
    exact ⟨_, _, _, rfl, rfl, hE⟩
