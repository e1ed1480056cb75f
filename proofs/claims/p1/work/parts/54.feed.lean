/-! feed: both sides -/
theorem Rel_feed {v u : gV} {n nt t q : Nat} {x : Int32} {tc tb : Nat → Nat → Nat} (h : Rel v u n nt t tc tb) (hq : q < 160) (h1 : v 5 1 = nI q) (hx : 0 ≤ x.toInt ∧ x.toInt ≤ 255) : Rel (up1 (up1 v 13 q x) 5 1 (nI (q + 1))) (up1 (up1 u 6 q x) 0 8 (nI (q + 1))) n nt t tc tb := by
  obtain ⟨⟨b1, b2, b3, b4⟩, ⟨m1, m2, ⟨m3, m5, m6⟩, m4⟩, ⟨⟨a1, a2, a3⟩, ⟨a4, a5, a6, a7⟩, a8, ⟨a9, a10, a11⟩, a12, a13⟩, ⟨⟨p, t1, t2, t3, t4⟩, t5⟩, ⟨i1, i2, i3⟩, hS⟩ := h
  have ep : p = q := (nI_eq (by omega) (by omega)).mp (t2.symm.trans h1)
  subst ep
  have hv : ∀ j, ¬ (j = 5 ∨ j = 13) → (up1 (up1 v 13 p x) 5 1 (nI (p + 1))) j = v j := fun j hj => by rw [up1_ne (by omega), up1_ne (by omega)]
  have hu : ∀ j, ¬ (j = 0 ∨ j = 6) → (up1 (up1 u 6 p x) 0 8 (nI (p + 1))) j = u j := fun j hj => by rw [up1_ne (by omega), up1_ne (by omega)]
  have hu0 : ∀ k, k ≠ 8 → (up1 (up1 u 6 p x) 0 8 (nI (p + 1))) 0 k = u 0 k := fun k hk => by rw [up1_eq, upd_ne hk, up1_ne (by omega)]
  refine ⟨⟨?_, ?_, b3, fun t ht => ⟨(b4 t ht).1, ?_, ?_⟩⟩, ⟨?_, ?_, ⟨m3, m5, ?_⟩, fun t ht => ⟨(m4 t ht).1, ?_, ?_⟩⟩, ⟨⟨?_, ?_, ?_⟩, ⟨?_, ?_, ?_, ?_⟩, ?_, ⟨?_, ?_, ?_⟩, ?_, ?_⟩, ⟨⟨p + 1, hq, ?_, ?_, ?_⟩, ?_⟩, ⟨?_, ?_, ?_⟩, ?_⟩
  · rw [hv 4 (by omega)]; exact b1
  · rw [hv 9 (by omega), hv 10 (by omega), hv 11 (by omega), hv 12 (by omega)]; exact b2
  · rw [hv (43 + t) (by omega)]; exact (b4 t ht).2.1
  · rw [hv (37 + t) (by omega)]; exact (b4 t ht).2.2
  · rw [hu0 1 (by omega)]; exact m1
  · rw [hu 2 (by omega), hu 3 (by omega), hu 4 (by omega), hu 5 (by omega)]; exact m2
  · rw [hu0 12 (by omega)]; exact m6
  · rw [hu 8 (by omega)]; exact (m4 t ht).2.1
  · rw [hu 7 (by omega)]; exact (m4 t ht).2.2
  · rw [hv 1 (by omega), hu 1 (by omega)]; exact a1
  · rw [hv 1 (by omega)]; exact a2
  · rw [hv 1 (by omega)]; exact a3
  · rw [hv 9 (by omega), hu 2 (by omega)]; exact a4
  · rw [hv 10 (by omega), hu 3 (by omega)]; exact a5
  · rw [hv 11 (by omega), hu 4 (by omega)]; exact a6
  · rw [hv 12 (by omega), hu 5 (by omega)]; exact a7
  · rw [hu0 6 (by omega)]; exact a8
  · rw [hv 0 (by omega)]; exact a9
  · rw [hv 0 (by omega)]; exact a10
  · rw [hu0 11 (by omega)]; exact a11
  · rw [hv 2 (by omega)]; exact a12
  · intro d hd; rw [hv (20 + d) (by omega)]; exact a13 d hd
  · rw [up1_eq']
  · rw [up1_eq']
  · intro i hi
    rw [up1_ne (show 13 ≠ 5 by decide), up1_eq, up1_ne (show 6 ≠ 0 by decide), up1_eq]
    by_cases e : i = p
    · rw [e, upd_eq, upd_eq]; exact ⟨rfl, hx⟩
    · rw [upd_ne e, upd_ne e]; exact t4 i (by omega)
  · rw [hu 14 (by omega)]; exact t5
  · rw [hv 17 (by omega)]; exact i1
  · rw [hv 8 (by omega), hu0 13 (by omega)]; exact i2
  · rw [hv 8 (by omega), hv 17 (by omega), hv 18 (by omega), hv 19 (by omega), hv 10 (by omega), hv 11 (by omega), hu 9 (by omega), hu0 14 (by omega), hu0 15 (by omega)]; exact i3
  · intro s hs
    rw [hv 15 (by omega), hv 16 (by omega), hv (27 + s) (by omega), hu 10 (by omega), hu 11 (by omega), hu 12 (by omega)]
    exact hS s hs
def bt (x2 x3 x4 x5 x6 : Int32) (i : Nat) : Int32 := if i = 0 then x2 else if i = 1 then x3 else if i = 2 then x4 else if i = 3 then x5 else x6
theorem cFeed1 {v : gV} {c i n : Nat} {x2 x3 x4 x5 x6 : Int32} (hi : i < c) (hc : c ≤ 5) : fX5_feed_72 (n + 1) v (nI c) x2 x3 x4 x5 x6 (nI i) = fX5_feed_125 (fX5_feed_72 n) v (nI c) x2 x3 x4 x5 x6 (nI i) (bt x2 x3 x4 x5 x6 i) := by
  rw [fX5_feed_72, if_neg (nI_nleL rfl rfl hi (by omega))]
  unfold bt
  by_cases e0 : i = 0
  · rw [if_pos e0, e0]; rfl
  · rw [if_neg e0, if_neg (nI_neL (y := 0) (b := 0) rfl rfl e0 (by omega) (by decide))]
    by_cases e1 : i = 1
    · rw [if_pos e1, e1]; rfl
    · rw [if_neg e1, if_neg (nI_neL (y := 1) (b := 1) rfl rfl e1 (by omega) (by decide))]
      by_cases e2 : i = 2
      · rw [if_pos e2, e2]; rfl
      · rw [if_neg e2, if_neg (nI_neL (y := 2) (b := 2) rfl rfl e2 (by omega) (by decide))]
        by_cases e3 : i = 3
        · rw [if_pos e3, e3]; rfl
        · rw [if_neg e3, if_neg (nI_neL (y := 3) (b := 3) rfl rfl e3 (by omega) (by decide))]
theorem mFeed1 {u : gV} {c i n : Nat} {x2 x3 x4 x5 x6 : Int32} (hi : i < c) (hc : c ≤ 5) : fX6_feed_68 (n + 1) u (nI c) x2 x3 x4 x5 x6 (nI i) = fX6_feed_125 (fX6_feed_68 n) u (nI c) x2 x3 x4 x5 x6 (nI i) (u 0 8) (bt x2 x3 x4 x5 x6 i) := by
  rw [fX6_feed_68, if_neg (nI_nleL rfl rfl hi (by omega))]
  unfold bt
  by_cases e0 : i = 0
  · rw [if_pos e0, e0]; rfl
  · rw [if_neg e0, if_neg (nI_neL (y := 0) (b := 0) rfl rfl e0 (by omega) (by decide))]
    by_cases e1 : i = 1
    · rw [if_pos e1, e1]; rfl
    · rw [if_neg e1, if_neg (nI_neL (y := 1) (b := 1) rfl rfl e1 (by omega) (by decide))]
      by_cases e2 : i = 2
      · rw [if_pos e2, e2]; rfl
      · rw [if_neg e2, if_neg (nI_neL (y := 2) (b := 2) rfl rfl e2 (by omega) (by decide))]
        by_cases e3 : i = 3
        · rw [if_pos e3, e3]; rfl
        · rw [if_neg e3, if_neg (nI_neL (y := 3) (b := 3) rfl rfl e3 (by omega) (by decide))]
theorem feedL {n nt t c : Nat} {x2 x3 x4 x5 x6 : Int32} {tc tb : Nat → Nat → Nat} (hc : c ≤ 5) (hb : ∀ i, 0 ≤ (bt x2 x3 x4 x5 x6 i).toInt ∧ (bt x2 x3 x4 x5 x6 i).toInt ≤ 255) : ∀ (k i fuel q : Nat) (v u : gV), k < fuel → i + k = c → Rel v u n nt t tc tb → v 5 1 = nI q → u 0 8 = nI q → q + k ≤ 160 → ∃ x v' u', fX5_feed_72 fuel v (nI c) x2 x3 x4 x5 x6 (nI i) = some (x, v') ∧ fX6_feed_68 fuel u (nI c) x2 x3 x4 x5 x6 (nI i) = some (x, u') ∧ RelE v' u' := by
  intro k
  induction k with
  | zero =>
    intro i fuel q v u hf hi hR h5 h8 hq
    obtain ⟨p, rfl⟩ : ∃ p, fuel = p + 1 := ⟨fuel - 1, by omega⟩
    rw [fX5_feed_72, fX6_feed_68, if_pos (nI_yleL rfl rfl (by omega) (by omega)), if_pos (nI_yleL rfl rfl (by omega) (by omega)), h5, h8]
    exact ⟨_, _, _, rfl, rfl, n, nt, t, tc, tb, hR⟩
  | succ k ih =>
    intro i fuel q v u hf hi hR h5 h8 hq
    obtain ⟨p, rfl⟩ : ∃ p, fuel = p + 1 := ⟨fuel - 1, by omega⟩
    rw [cFeed1 (by omega) hc, mFeed1 (by omega) hc]
    unfold fX5_feed_125 fX6_feed_125 fX3_append
    have gq : gin (nI q) 160 = true := gin_nI (by omega) (by decide)
    rw [h5, h8, if_neg (nI_pos (by omega)), if_neg (nI_nleL (x := 160) (a := 160) rfl rfl (by omega) (by decide)), if_pos gq, if_pos gq, gB_some, nI_clamp (by omega), up1_ne (show 5 ≠ 13 by decide), up1_ne (show 0 ≠ 6 by decide), h5, h8, nI_1, nI_1]
    exact ih (i + 1) p (q + 1) _ _ (by omega) (by omega) (Rel_feed hR (by omega) h5 (hb i)) up1_eq' up1_eq' (by omega)
theorem isB {v u : gV} (x : Int32) : ((0 ≤ x.toInt ∧ x.toInt ≤ 255) ∧ fX5_isByte v x = some (1, v) ∧ fX6_isByte u x = some (1, u)) ∨ (fX5_isByte v x = some (0, v) ∧ fX6_isByte u x = some (0, u)) := by
  unfold fX5_isByte fX6_isByte
  rw [show (255 : Int32) = nI 255 from rfl]
  by_cases h : ∃ k, k < 255 + 1 ∧ x = nI k
  · obtain ⟨k, hk, rfl⟩ := h
    rw [good_gt (by decide) hk, mInT ((rngC (n := 255) (by decide)).mpr ⟨k, hk, rfl⟩), gB_some, if_pos (Or.inr rfl), nI_toInt (by omega)]
    exact Or.inl ⟨by omega, rfl, rfl⟩
  · rw [bad_gt (by decide) h, mInF (fun z => h ((rngC (n := 255) (by decide)).mp z)), gB_some, if_pos (Or.inl rfl)]
    exact Or.inr ⟨rfl, rfl⟩
theorem op_feed {v u : gV} (h : RelE v u) (x1 x2 x3 x4 x5 x6 : Int32) : ∃ x v' u', fX5_feed v x1 x2 x3 x4 x5 x6 = some (x, v') ∧ fX6_feed u x1 x2 x3 x4 x5 x6 = some (x, u') ∧ RelE v' u' := by
  have hE := h
  obtain ⟨n, nt, t, tc, tb, hR⟩ := h
  obtain ⟨-, -, -, ⟨⟨q, t1, t2, t3, -⟩, -⟩, -⟩ := id hR
  unfold fX5_feed fX6_feed
  by_cases hx : 1 ≤ x1 ∧ x1 ≤ 5
  · obtain ⟨c, hc, rfl⟩ := (rngC (x := x1) (n := 5) (by decide)).mp ⟨by have c1 := hx.1; rw [Int32.le_iff_toInt_le, i32_1] at c1; rw [Int32.le_iff_toInt_le, i32_0]; omega, hx.2⟩
    have hc1 : 1 ≤ c := by
      have c1 := hx.1
      rw [Int32.le_iff_toInt_le, i32_1, nI_toInt (by omega)] at c1
      omega
    rw [if_neg (nI_nltL (y := 1) (b := 1) rfl rfl hc1 (by omega)), if_neg (nI_nltL (x := 5) (a := 5) rfl rfl (by omega) (by decide)), mInT hx, gB_some, if_neg ne10]
    rcases isB (v := v) (u := u) x2 with ⟨k2, e2, d2⟩ | ⟨e2, d2⟩
    · rw [e2, d2, gB_some, gB_some, if_neg ne10, if_neg ne10]
      rcases isB (v := v) (u := u) x3 with ⟨k3, e3, d3⟩ | ⟨e3, d3⟩
      · rw [e3, d3, gB_some, gB_some, if_neg ne10, if_neg ne10]
        rcases isB (v := v) (u := u) x4 with ⟨k4, e4, d4⟩ | ⟨e4, d4⟩
        · rw [e4, d4, gB_some, gB_some, if_neg ne10, if_neg ne10]
          rcases isB (v := v) (u := u) x5 with ⟨k5, e5, d5⟩ | ⟨e5, d5⟩
          · rw [e5, d5, gB_some, gB_some, if_neg ne10, if_neg ne10]
            rcases isB (v := v) (u := u) x6 with ⟨k6, e6, d6⟩ | ⟨e6, d6⟩
            · rw [e6, d6, gB_some, gB_some, if_neg ne10, if_neg ne10, t2, t3, nI_add]
              by_cases g : q + c ≤ 160
              · rw [if_pos (nI_yleL (y := 160) (b := 160) rfl rfl g (by decide)), if_pos (nI_yleL (y := 160) (b := 160) rfl rfl g (by decide))]
                refine feedL (show c ≤ 5 by omega) (fun i => ?_) c 0 2000 q v u (by omega) (by omega) hR t2 t3 g
                unfold bt
                split
                · exact k2
                · split
                  · exact k3
                  · split
                    · exact k4
                    · split
                      · exact k5
                      · exact k6
              · rw [if_neg (nI_nleL (y := 160) (b := 160) rfl rfl (by omega) (by omega)), if_neg (nI_nleL (y := 160) (b := 160) rfl rfl (by omega) (by omega))]
                exact ⟨_, _, _, rfl, rfl, hE⟩
            · rw [e6, d6, gB_some, gB_some, if_pos rfl, if_pos rfl]; exact ⟨_, _, _, rfl, rfl, hE⟩
          · rw [e5, d5, gB_some, gB_some, if_pos rfl, if_pos rfl]; exact ⟨_, _, _, rfl, rfl, hE⟩
        · rw [e4, d4, gB_some, gB_some, if_pos rfl, if_pos rfl]; exact ⟨_, _, _, rfl, rfl, hE⟩
      · rw [e3, d3, gB_some, gB_some, if_pos rfl, if_pos rfl]; exact ⟨_, _, _, rfl, rfl, hE⟩
    · rw [e2, d2, gB_some, gB_some, if_pos rfl, if_pos rfl]; exact ⟨_, _, _, rfl, rfl, hE⟩
  · rw [mInF hx, gB_some, if_pos rfl]
    by_cases c : x1 < 1
    · rw [if_pos c]; exact ⟨_, _, _, rfl, rfl, hE⟩
    · have c2 : 5 < x1 := by
        rw [Int32.le_iff_toInt_le, Int32.le_iff_toInt_le] at hx
        rw [Int32.lt_iff_toInt_lt] at c ⊢
        omega
      rw [if_neg c, if_pos c2]; exact ⟨_, _, _, rfl, rfl, hE⟩
