/-! force, asks, all, go, next, least, bought, friends, worth: both sides -/
theorem rngC {x : Int32} {n : Nat} (hn : n < 2 ^ 31) : ((0 : Int32) ≤ x ∧ x ≤ nI n) ↔ ∃ k, k < n + 1 ∧ x = nI k := by
  constructor
  · rintro ⟨h0, h1⟩
    rw [Int32.le_iff_toInt_le] at h0 h1
    rw [i32_0] at h0
    rw [nI_toInt hn] at h1
    exact nI_ex h0 (by omega)
  · rintro ⟨k, hk, rfl⟩
    exact ⟨nI_pos' (by omega), nI_le (by omega) hn⟩
theorem bad_le {α : Type} {x : Int32} {n : Nat} {A B : α} (hn : n < 2 ^ 31) (h : ¬ ∃ k, k < n + 1 ∧ x = nI k) : (if x < 0 then A else if x ≤ nI n then B else A) = A := by
  by_cases h0 : x < 0
  · rw [if_pos h0]
  · rw [if_neg h0, if_neg]
    intro z
    exact h ((rngC hn).mp ⟨Int32.not_lt.mp h0, z⟩)
theorem bad_lt {α : Type} {x : Int32} {n : Nat} {A B : α} (hn : n < 2 ^ 31) (h : ¬ ∃ k, k < n ∧ x = nI k) : (if x < 0 then A else if x < nI n then B else A) = A := by
  by_cases h0 : x < 0
  · rw [if_pos h0]
  · rw [if_neg h0, if_neg]
    intro z
    rw [Int32.lt_iff_toInt_lt, i32_0] at h0
    rw [Int32.lt_iff_toInt_lt, nI_toInt hn] at z
    exact nI_out h ⟨by omega, z⟩
theorem bad_gt {α : Type} {x : Int32} {n : Nat} {A B : α} (hn : n < 2 ^ 31) (h : ¬ ∃ k, k < n + 1 ∧ x = nI k) : (if x < 0 then A else if nI n < x then A else B) = A := by
  by_cases h0 : x < 0
  · rw [if_pos h0]
  · rw [if_neg h0, if_pos]
    apply Int32.not_le.mp
    intro z
    exact h ((rngC hn).mp ⟨Int32.not_lt.mp h0, z⟩)
theorem good_gt {α : Type} {k n : Nat} {A B : α} (hn : n < 2 ^ 31) (h : k < n + 1) : (if nI k < 0 then A else if nI n < nI k then A else B) = B := by
  rw [if_neg (nI_pos (by omega)), if_neg (nI_nlt (by omega) hn)]
theorem good_le {α : Type} {k n : Nat} {A B : α} (hn : n < 2 ^ 31) (h : k < n + 1) : (if nI k < 0 then A else if nI k ≤ nI n then B else A) = B := by
  rw [if_neg (nI_pos (by omega)), if_pos (nI_le (by omega) hn)]
theorem good_lt {α : Type} {k n : Nat} {A B : α} (hn : n < 2 ^ 31) (h : k < n) : (if nI k < 0 then A else if nI k < nI n then B else A) = B := by
  rw [if_neg (nI_pos (by omega)), if_pos (nI_lt h hn)]
/-- the text that is the law changes -/
theorem Rel_force {v u : gV} {n nt t k : Nat} {tc tb : Nat → Nat → Nat} (h : Rel v u n nt t tc tb) (hk : k < nt) : Rel (up1 v 0 9 (nI k)) (up1 u 0 12 (nI k)) n nt k tc tb := by
  obtain ⟨⟨b1, b2, b3, b4⟩, ⟨m1, m2, ⟨m3, m5, m6⟩, m4⟩, ⟨⟨a1, a2, a3⟩, ⟨a4, a5, a6, a7⟩, a8, ⟨a9, a10, a11⟩, a12, a13⟩, ⟨⟨q, t1, t2, t3, t4⟩, t5⟩, ⟨i1, i2, i3⟩, hS⟩ := h
  have c : ∀ j, j ≠ 0 → (up1 v 0 9 (nI k)) j = v j := fun j hj => up1_ne hj
  have m : ∀ j, j ≠ 0 → (up1 u 0 12 (nI k)) j = u j := fun j hj => up1_ne hj
  have c0 : ∀ j, j ≠ 9 → (up1 v 0 9 (nI k)) 0 j = v 0 j := fun j hj => by rw [up1_eq, upd_ne hj]
  have m0 : ∀ j, j ≠ 12 → (up1 u 0 12 (nI k)) 0 j = u 0 j := fun j hj => by rw [up1_eq, upd_ne hj]
  refine ⟨⟨?_, ?_, b3, ?_⟩, ⟨?_, ?_, ⟨m3, hk, ?_⟩, ?_⟩, ⟨⟨?_, ?_, ?_⟩, ⟨?_, ?_, ?_, ?_⟩, ?_, ⟨?_, ?_, ?_⟩, ?_, ?_⟩, ⟨⟨q, t1, ?_, ?_, ?_⟩, ?_⟩, ⟨?_, ?_, ?_⟩, ?_⟩
  · rw [c 4 (by decide)]; exact b1
  · rw [c 9 (by decide), c 10 (by decide), c 11 (by decide), c 12 (by decide)]; exact b2
  · intro t ht
    refine ⟨(b4 t ht).1, ?_, ?_⟩
    · rw [c (43 + t) (by omega)]; exact (b4 t ht).2.1
    · rw [c (37 + t) (by omega)]; exact (b4 t ht).2.2
  · rw [m0 1 (by decide)]; exact m1
  · rw [m 2 (by decide), m 3 (by decide), m 4 (by decide), m 5 (by decide)]; exact m2
  · rw [up1_eq, upd_eq]
  · intro t ht
    refine ⟨(m4 t ht).1, ?_, ?_⟩
    · rw [m 8 (by decide)]; exact (m4 t ht).2.1
    · rw [m 7 (by decide)]; exact (m4 t ht).2.2
  · rw [c 1 (by decide), m 1 (by decide)]; exact a1
  · rw [c 1 (by decide)]; exact a2
  · rw [c 1 (by decide)]; exact a3
  · rw [c 9 (by decide), m 2 (by decide)]; exact a4
  · rw [c 10 (by decide), m 3 (by decide)]; exact a5
  · rw [c 11 (by decide), m 4 (by decide)]; exact a6
  · rw [c 12 (by decide), m 5 (by decide)]; exact a7
  · rw [m0 6 (by decide)]; exact a8
  · rw [c0 8 (by decide)]; exact a9
  · rw [up1_eq, upd_eq]
  · rw [m0 11 (by decide)]; exact a11
  · rw [c 2 (by decide)]; exact a12
  · intro d hd
    rw [c (20 + d) (by omega)]; exact a13 d hd
  · rw [c 5 (by decide)]; exact t2
  · rw [m0 8 (by decide)]; exact t3
  · rw [c 13 (by decide), m 6 (by decide)]; exact t4
  · rw [m 14 (by decide)]; exact t5
  · rw [c 17 (by decide)]; exact i1
  · rw [c 8 (by decide), m0 13 (by decide)]; exact i2
  · rw [c 8 (by decide), c 17 (by decide), c 18 (by decide), c 19 (by decide), c 10 (by decide), c 11 (by decide), m 9 (by decide), m0 14 (by decide), m0 15 (by decide)]; exact i3
  · intro s hs
    rw [c 15 (by decide), c 16 (by decide), c (27 + s) (by omega), m 10 (by decide), m 11 (by decide), m 12 (by decide)]; exact hS s hs
theorem op_force {v u : gV} (h : RelE v u) (x1 : Int32) : ∃ x v' u', fX5_force v x1 = some (x, v') ∧ fX6_force u x1 = some (x, u') ∧ RelE v' u' := by
  obtain ⟨n, nt, t, tc, tb, hR⟩ := h
  obtain ⟨hB, hM, ⟨-, -, -, ⟨a9, a10, a11⟩, -⟩, -⟩ := id hR
  have hE : RelE v u := ⟨n, nt, t, tc, tb, hR⟩
  have n6 := hB.2.2.1
  obtain ⟨q, rfl⟩ : ∃ q, nt = q + 1 := ⟨nt - 1, by have := hM.2.2.1.2.1; omega⟩
  unfold fX5_force fX6_force
  rw [a9, a10, a11, nI_pred]
  by_cases hx : ∃ k, k < q + 1 ∧ x1 = nI k
  · obtain ⟨k, hk, rfl⟩ := hx
    rw [good_lt (by omega) hk, mInT ⟨nI_pos' (by omega), nI_le (by omega) (by omega)⟩, gB_some, if_neg ne10, hM.2.2.1.2.2]
    exact ⟨_, _, _, rfl, rfl, n, q + 1, k, tc, tb, Rel_force hR hk⟩
  · rw [bad_lt (by omega) hx, mInF (fun z => hx ((rngC (by omega)).mp z)), gB_some, if_pos rfl]
    exact ⟨_, _, _, rfl, rfl, hE⟩
theorem op_asks {v u : gV} (h : RelE v u) (x1 : Int32) : ∃ x v' u', fX5_asks v x1 = some (x, v') ∧ fX6_asks u x1 = some (x, u') ∧ RelE v' u' := by
  obtain ⟨n, nt, t, tc, tb, hR⟩ := h
  obtain ⟨hB, hM, ⟨⟨a1, -, -⟩, -, -, ⟨a9, a10, a11⟩, -⟩, -⟩ := id hR
  have hE : RelE v u := ⟨n, nt, t, tc, tb, hR⟩
  have n6 := hB.2.2.1
  obtain ⟨-, -, ⟨-, ht, hl⟩, hTm⟩ := hM
  unfold fX5_asks fX6_asks
  by_cases hx : ∃ k, k < 3 ∧ x1 = nI k
  · obtain ⟨k, hk, rfl⟩ := hx
    obtain ⟨f, hf⟩ := cSays (v := v) (a := 1) (show t < 6 by omega) hk (by decide) (hB.2.2.2 t ht).1 (hB.2.2.2 t ht).2
    obtain ⟨g, g2, hg⟩ := mAsksOf (u := u) (show t < 6 by omega) hk hl (hTm t ht).1 (hTm t ht).2
    rw [show (3 : Int32) = nI 3 from rfl, good_lt (by decide) hk, a10, hf, gB_some, mInT ⟨nI_pos' (by omega), nI_yleL (y := 2) (b := 2) rfl rfl (by omega) (by decide)⟩, gB_some, if_neg ne10, hg, gB_some, a1]
    exact ⟨_, _, _, rfl, rfl, n, nt, t, tc, tb, Rel_same (sameC_49 hR) sameM_2 hR⟩
  · rw [show (3 : Int32) = nI 3 from rfl, bad_lt (by decide) hx, show (2 : Int32) = nI 2 from rfl, mInF (fun z => hx ((rngC (by decide)).mp z)), gB_some, if_pos rfl]
    exact ⟨_, _, _, rfl, rfl, hE⟩
theorem mThink {u : gV} {n nt t N : Nat} {tc tb : Nat → Nat → Nat} (hB : mBase u n nt t tc tb) (hs : Rw (u 1)) (hN : N ≤ 200) : ∃ u1 U, fX6_keeps u 0 = some ((), u1) ∧ fX6_goesOn u1 (nI N) = some (nI (mRun (u 2) (u 3) (u 4) (u 5) (u 0 6) n (LW (tc t) (tb t) 0) N (u 1)).1, U) ∧ U 1 = (mRun (u 2) (u 3) (u 4) (u 5) (u 0 6) n (LW (tc t) (tb t) 0) N (u 1)).2 ∧ fX6_laysBack U 0 = some ((), up2 U 1 (u 1)) ∧ sameM u (up2 U 1 (u 1)) ∧ mBase U n nt t tc tb ∧ (U 2 = u 2 ∧ U 3 = u 3 ∧ U 4 = u 4 ∧ U 5 = u 5 ∧ U 0 = u 0) := by
  have hk := mKeeps (u := u) (d := 0) (by decide)
  have hB2 : mBase (up2 u 18 (kF 0 (u 1) (u 18) 0)) n nt t tc tb := mBase_up2 hB (Or.inr (by decide))
  obtain ⟨g, f, hg⟩ := mGoesOn (N := N) hB2 (by rw [up2_ne (by decide)]; exact hs) hN
  have hrw := Rw_run hB.2.1 (w := u 0 6) (L := LW (tc t) (tb t) 0) (fun s => LW_rng _ _ s) N _ hs
  simp only [up2_ne (show (1 : Nat) ≠ 18 by decide), up2_ne (show (2 : Nat) ≠ 18 by decide), up2_ne (show (3 : Nat) ≠ 18 by decide), up2_ne (show (4 : Nat) ≠ 18 by decide), up2_ne (show (5 : Nat) ≠ 18 by decide), up2_ne (show (0 : Nat) ≠ 18 by decide)] at hg
  refine ⟨_, _, hk, hg, up3_1, ?_, ⟨fun j a0 a2 a3 a4 => ?_, fun k hk => ?_⟩, mBase_up3 hB2, ?_⟩
  · exact mLays (d := 0) (s0 := u 1) (by decide) (fun k hk => by rw [up3_ne (by decide), up2_eq]; exact kF_at hk) (Rw_Z7 hs) (by rw [up3_1]; exact Rw_Z7 hrw)
  · by_cases e : j = 1
    · rw [e, up2_eq]
    · rw [up2_ne e, up3_ne ⟨e, a2, a3⟩, up2_ne a4]
  · rw [up2_ne (by decide), up3_ne (by decide), up2_ne (by decide)]
  · refine ⟨?_, ?_, ?_, ?_, ?_⟩ <;> rw [up3_ne (by decide), up2_ne (by decide)]
theorem op_go {v u : gV} (h : RelE v u) (x1 : Int32) : ∃ x v' u', fX5_go v x1 = some (x, v') ∧ fX6_go u x1 = some (x, u') ∧ RelE v' u' := by
  obtain ⟨n, nt, t, tc, tb, hR⟩ := h
  obtain ⟨hB, hM, ⟨⟨a1, a2, a3⟩, ⟨a4, a5, a6, a7⟩, a8, ⟨a9, a10, a11⟩, -⟩, -⟩ := id hR
  have hE : RelE v u := ⟨n, nt, t, tc, tb, hR⟩
  unfold fX5_go fX6_go
  by_cases hx : ∃ k, k < 200 + 1 ∧ x1 = nI k
  · obtain ⟨k, hk, rfl⟩ := hx
    obtain ⟨f, hf⟩ := cRun (w := -1) hB (a := 1) (N := k) (Or.inl rfl) hM.2.2.1.2.1 (by omega)
    obtain ⟨g, f2, hg⟩ := mGoesOn (N := k) hM (by rw [← a1]; exact a2) (by omega)
    rw [show (200 : Int32) = nI 200 from rfl, good_le (by decide) hk, a10, hf, gB_some, mInT ((rngC (by decide)).mpr ⟨k, hk, rfl⟩), gB_some, if_neg ne10, hg, gB_some, a4, a5, a6, a7, a8, a1]
    refine ⟨_, _, _, rfl, rfl, n, nt, t, tc, tb, Rel_row (Rel_same (sameC_49 hR) (sameM_2 (g := g) (f := f2)) hR) ?_ ?_⟩
    · rw [a1] at a2
      exact Rw_run hM.2.1 (fun s => LW_rng _ _ s) _ _ a2
    · rw [mRun_6 hM.2.1, ← a1]
      exact a3
  · rw [show (200 : Int32) = nI 200 from rfl, bad_le (by decide) hx, mInF (fun z => hx ((rngC (by decide)).mp z)), gB_some, if_pos rfl]
    exact ⟨_, _, _, rfl, rfl, hE⟩
theorem op_all {v u : gV} (h : RelE v u) (x1 : Int32) : ∃ x v' u', fX5_all v x1 = some (x, v') ∧ fX6_all u x1 = some (x, u') ∧ RelE v' u' := by
  obtain ⟨n, nt, t, tc, tb, hR⟩ := h
  obtain ⟨hB, hM, ⟨⟨a1, a2, a3⟩, ⟨a4, a5, a6, a7⟩, a8, ⟨a9, a10, a11⟩, a12, a13⟩, -⟩ := id hR
  have hE : RelE v u := ⟨n, nt, t, tc, tb, hR⟩
  unfold fX5_all fX6_all fX6_all_71
  by_cases hx : ∃ k, k < 6 + 1 ∧ x1 = nI k
  · obtain ⟨k, hk, rfl⟩ := hx
    have hB2 : cBase (up2 v 2 (v 1)) n nt tc tb := cBase_up2 hB (Or.inr (Or.inr (Or.inl rfl)))
    obtain ⟨f, hf⟩ := cRun (w := -1) hB2 (a := 2) (N := 200) (Or.inr (Or.inl rfl)) hM.2.2.1.2.1 (by decide)
    have hs : Rw (u 1) := by rw [← a1]; exact a2
    obtain ⟨u1, U, g1, g2, g3, g4, g5, g6, g7⟩ := mThink (N := 200) hM hs (by decide)
    have hrw := Rw_run hM.2.1 (w := -1) (L := LW (tc t) (tb t) 0) (fun s => LW_rng _ _ s) 200 _ hs
    simp only [up2_eq, up2_ne (show (9 : Nat) ≠ 2 by decide), up2_ne (show (10 : Nat) ≠ 2 by decide), up2_ne (show (11 : Nat) ≠ 2 by decide), up2_ne (show (12 : Nat) ≠ 2 by decide), a1, a4, a5, a6, a7] at hf
    rw [a8] at g2 g3
    rw [show (6 : Int32) = nI 6 from rfl, good_le (by decide) hk, cStart (Rw_Z7 a2) a12, gB_some, up2_ne (show (0 : Nat) ≠ 2 by decide), a10, a1, show (200 : Int32) = nI 200 from rfl, hf, gB_some, mInT ((rngC (by decide)).mpr ⟨k, hk, rfl⟩), gB_some, if_neg ne10, g1, gB_some, g2, gB_some, g3, g4]
    rw [up2_comm (show 2 ≠ 49 by decide), up2_up2]
    have fin : ∀ x : Int32, ∃ x' v' u', some (x, up2 (up2 v 49 f) 2 (mRun (u 2) (u 3) (u 4) (u 5) (-1) n (LW (tc t) (tb t) 0) 200 (u 1)).2) = some (x', v') ∧ (gB (some ((), up2 U 1 (u 1))) fun (_ : Unit) v11 => some (x, v11)) = some (x', u') ∧ RelE v' u' := fun x => ⟨_, _, _, rfl, rfl, n, nt, t, tc, tb, Rel_same (sameC_2 hR (Rw_Z7 hrw)) g5 hR⟩
    rw [up2_eq]
    match k, hk with
    | 0, _ => exact fin _
    | 1, _ => exact fin _
    | 2, _ => exact fin _
    | 3, _ => exact fin _
    | 4, _ => exact fin _
    | 5, _ => exact fin _
    | 6, _ => exact fin _
  · rw [show (6 : Int32) = nI 6 from rfl, bad_le (by decide) hx, mInF (fun z => hx ((rngC (by decide)).mp z)), gB_some, if_pos rfl]
    exact ⟨_, _, _, rfl, rfl, hE⟩
theorem op_next {v u : gV} (h : RelE v u) (x1 : Int32) : ∃ x v' u', fX5_next v x1 = some (x, v') ∧ fX6_next_ u x1 = some (x, u') ∧ RelE v' u' := by
  obtain ⟨n, nt, t, tc, tb, hR⟩ := h
  obtain ⟨hB, hM, ⟨⟨a1, a2, a3⟩, ⟨a4, a5, a6, a7⟩, a8, ⟨a9, a10, a11⟩, a12, a13⟩, -⟩ := id hR
  have hE : RelE v u := ⟨n, nt, t, tc, tb, hR⟩
  unfold fX5_next fX6_next_ fX6_next__36
  by_cases hx : ∃ k, k < 199 + 1 ∧ x1 = nI k
  · obtain ⟨k, hk, rfl⟩ := hx
    have hB2 : cBase (up2 v 2 (v 1)) n nt tc tb := cBase_up2 hB (Or.inr (Or.inr (Or.inl rfl)))
    obtain ⟨f, hf⟩ := cRun (w := -1) hB2 (a := 2) (N := k) (Or.inr (Or.inl rfl)) hM.2.2.1.2.1 (by omega)
    have hs : Rw (u 1) := by rw [← a1]; exact a2
    obtain ⟨u1, U, g1, g2, g3, g4, g5, g6, g7, g8, g9, g10, g11⟩ := mThink (N := k) hM hs (by omega)
    have hrw := Rw_run hM.2.1 (w := -1) (L := LW (tc t) (tb t) 0) (fun s => LW_rng _ _ s) k _ hs
    have hle := mRun_le (K := u 2) (S := u 3) (T := u 4) (M := u 5) (w := -1) (n := n) (L := LW (tc t) (tb t) 0) k (u 1)
    simp only [up2_eq, up2_ne (show (9 : Nat) ≠ 2 by decide), up2_ne (show (10 : Nat) ≠ 2 by decide), up2_ne (show (11 : Nat) ≠ 2 by decide), up2_ne (show (12 : Nat) ≠ 2 by decide), a1, a4, a5, a6, a7] at hf
    rw [a8] at g2 g3
    rw [show (200 : Int32) = nI 200 from rfl, good_lt (by decide) hk, cStart (Rw_Z7 a2) a12, gB_some, up2_ne (show (0 : Nat) ≠ 2 by decide), a10, a1, hf, gB_some, show (199 : Int32) = nI 199 from rfl, mInT ((rngC (by decide)).mpr ⟨k, hk, rfl⟩), gB_some, if_neg ne10, g1, gB_some, g2, gB_some, up2_comm (show 2 ≠ 49 by decide), up2_up2]
    generalize hc : (mRun (u 2) (u 3) (u 4) (u 5) (-1) n (LW (tc t) (tb t) 0) k (u 1)).1 = cnt at hle
    generalize hrow : (mRun (u 2) (u 3) (u 4) (u 5) (-1) n (LW (tc t) (tb t) 0) k (u 1)).2 = row at hrw g3
    have hRel := Rel_same (sameC_2 (f := f) hR (Rw_Z7 hrw)) g5 hR
    by_cases e : cnt = k
    · rw [e, if_pos (nI_le (Nat.le_refl _) (by omega)), if_pos rfl]
      have hB3 : cBase (up2 (up2 v 49 f) 2 row) n nt tc tb := cBase_up2 (cBase_up2 hB (Or.inl rfl)) (Or.inr (Or.inr (Or.inl rfl)))
      have hp := cPick (a := 2) (w := -1) hB3.1 hB3.2.1
      have hq := mGreedy g6.1 g6.2.1
      rw [up2_eq, up2_ne (by decide), up2_ne (by decide), up2_ne (by decide), up2_ne (by decide), up2_ne (by decide), up2_ne (by decide), up2_ne (by decide), up2_ne (by decide), a4, a5, a6, a7] at hp
      rw [g7, g8, g9, g10, g11, g3, a8] at hq
      rw [hp, gB_some, hq, gB_some, g4, gB_some]
      exact ⟨_, _, _, rfl, rfl, n, nt, t, tc, tb, hRel⟩
    · rw [if_neg (nI_ge (by omega) (by omega)), if_neg (by rw [nI_eq (by omega) (by omega)]; exact e), g4, gB_some]
      exact ⟨_, _, _, rfl, rfl, n, nt, t, tc, tb, hRel⟩
  · rw [show (200 : Int32) = nI 200 from rfl, bad_lt (by decide) hx, show (199 : Int32) = nI 199 from rfl, mInF (fun z => hx ((rngC (by decide)).mp z)), gB_some, if_pos rfl]
    exact ⟨_, _, _, rfl, rfl, hE⟩
