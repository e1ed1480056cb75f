/-! cell, sheet: both sides -/
theorem nI_40 {s k : Nat} : 40 * nI s + nI k = nI (40 * s + k) := by
  rw [show (40 : Int32) = nI 40 from rfl, pk_mul, nI_add]
theorem cSize {v : gV} {s : Nat} (hs : s < 4) : fX2_sizeOf v (nI s) = some (v 16 s, v) := by
  unfold fX2_sizeOf
  rw [cIsSheet hs, gB_some, if_neg ne10, if_pos (gin_nI hs (by decide)), nI_clamp (by omega)]
/-- how a number is kept in a sheet of a sort -/
def kp (sort x : Int32) : Int32 := if sort = 0 then x.toInt8.toInt32 else if sort = 1 then x.toInt16.toInt32 else x
theorem cPut {v : gV} {s k z : Nat} {x : Int32} (hs : s < 4) (hz : v 16 s = nI z) (hk : k < z) (h40 : z ≤ 40) : fX2_put v (nI s) (nI k) x = some ((), up2 v (27 + s) (upd (v (27 + s)) k (kp (v 15 s) x))) := by
  unfold fX2_put kp
  rw [cIsSheet hs, gB_some, if_neg ne10, if_neg (nI_pos (by omega)), if_pos (gin_nI hs (by decide)), nI_clamp (by omega), hz, if_neg (nI_nleL rfl rfl hk (by omega)), if_neg (nI_nleL (x := 40) (a := 40) rfl rfl (by omega) (by decide)), if_pos (gin_nI hs (by decide)), if_pos (gin_nI hs (by decide)), if_pos (gin_nI hs (by decide)), if_pos (gin_nI (show k < 40 by omega) (by decide)), if_pos (gin_nI (show k < 40 by omega) (by decide)), if_pos (gin_nI (show k < 40 by omega) (by decide)), nI_clamp (show k < 2 ^ 31 by omega)]
  by_cases c : v 15 s = 0
  · rw [if_pos c, if_pos c]; rfl
  · rw [if_neg c, if_neg c]
    by_cases d : v 15 s = 1
    · rw [if_pos d, if_pos d]; rfl
    · rw [if_neg d, if_neg d]; rfl
theorem Rel_cell {v u : gV} {n nt t s z k : Nat} {x : Int32} {tc tb : Nat → Nat → Nat} (h : Rel v u n nt t tc tb) (hs : s < 4) (h40 : z ≤ 40) (hz : v 16 s = nI z) (hk : k < z) : Rel (up2 v (27 + s) (upd (v (27 + s)) k x)) (up2 u 12 (upd (u 12) (40 * s + k) x)) n nt t tc tb := by
  obtain ⟨h1, h2, q, q1, q2, q3, q4, q5⟩ := h.2.2.2.2.2 s hs
  have ez : z = q := (nI_eq (by omega) (by omega)).mp (hz.symm.trans q2)
  subst ez
  refine Rel_cells h hs h40 hz (fun i hi => ?_) (fun j hj => upd_ne (by omega))
  by_cases e : i = k
  · rw [e, upd_eq, upd_eq]
  · rw [upd_ne e, upd_ne (by omega)]; exact q5 i hi
theorem op_cell {v u : gV} (h : RelE v u) (x1 x2 x3 : Int32) : ∃ x v' u', fX5_cell v x1 x2 x3 = some (x, v') ∧ fX6_cell u x1 x2 x3 = some (x, u') ∧ RelE v' u' := by
  have hE := h
  obtain ⟨n, nt, t, tc, tb, hR⟩ := h
  unfold fX5_cell fX6_cell
  rcases refusal hR x1 with ⟨hx, r1, -⟩ | ⟨s, hs, rfl, hh⟩
  · rw [r1, gB_some, if_neg (by decide), mIn03F hx, gB_some, if_pos rfl]
    exact ⟨_, _, _, rfl, rfl, hE⟩
  · obtain ⟨h1, h2, z, q1, q2, q3, q4, q5⟩ := hR.2.2.2.2.2 s hs
    rw [mIn03T hs, gB_some, if_neg ne10, if_pos (gin_nI hs (by decide)), if_pos (gin_nI hs (by decide)), nI_clamp (show s < 2 ^ 31 by omega), ← h1, q3]
    rcases hh with ⟨c, r1, -⟩ | ⟨c, r1, -⟩
    · rw [r1, gB_some, if_neg (by decide), if_pos c]
      exact ⟨_, _, _, rfl, rfl, hE⟩
    · rw [r1, gB_some, if_pos rfl, if_neg c, cSize hs, gB_some, q2]
      by_cases hx : ∃ k, k < z ∧ x2 = nI k
      · obtain ⟨k, hk, rfl⟩ := hx
        have hin : (0 : Int32) ≤ nI k ∧ nI k ≤ nI z - 1 := by
          rw [show (1 : Int32) = nI 1 from rfl, pk_sub (by omega)]
          exact ⟨nI_pos' (by omega), nI_le (by omega) (by omega)⟩
        rw [good_lt (by omega) hk, cPut hs q2 hk q1, gB_some, mInT hin, gB_some, if_neg ne10, if_pos (gin_nI hs (by decide)), if_pos (gin_nI hs (by decide)), ← h1, nI_40, if_pos (gin_nI (by omega) (by decide)), if_pos (gin_nI (by omega) (by decide)), if_pos (gin_nI (by omega) (by decide)), nI_clamp (by omega)]
        have hRc := fun x => Rel_cell (x := x) hR hs q1 q2 hk
        unfold kp
        by_cases c0 : v 15 s = 0
        · rw [if_pos c0, if_pos c0]
          exact ⟨_, _, _, rfl, rfl, n, nt, t, tc, tb, hRc _⟩
        · rw [if_neg c0, if_neg c0]
          by_cases c1 : v 15 s = 1
          · rw [if_pos c1, if_pos c1]
            exact ⟨_, _, _, rfl, rfl, n, nt, t, tc, tb, hRc _⟩
          · rw [if_neg c1, if_neg c1]
            exact ⟨_, _, _, rfl, rfl, n, nt, t, tc, tb, hRc _⟩
      · have hin : ¬ ((0 : Int32) ≤ x2 ∧ x2 ≤ nI z - 1) := by
          intro w
          refine nI_out hx ?_
          rw [Int32.le_iff_toInt_le, Int32.le_iff_toInt_le, i32_0, i32_sub (by rw [nI_toInt (by omega), i32_1]; omega) (by rw [nI_toInt (by omega), i32_1]; omega), nI_toInt (by omega), i32_1] at w
          omega
        rw [bad_lt (by omega) hx, mInF hin, gB_some, if_pos rfl]
        exact ⟨_, _, _, rfl, rfl, hE⟩
theorem zeroM {u : gV} {s : Nat} (hs : s < 4) : ∀ (k i fuel : Nat) (g : Nat → Int32), k < fuel → i + k = 40 → (∀ j, j < i → g (40 * s + j) = 0) → ∃ g', fX6_sheet_70 fuel (up2 u 12 g) (nI s) (nI i) = some (1, up2 u 12 g') ∧ (∀ j, j < 40 → g' (40 * s + j) = 0) ∧ ∀ j, (j < 40 * s ∨ 40 * s + 40 ≤ j) → g' j = g j := by
  intro k
  induction k with
  | zero =>
    intro i fuel g hf hi hg
    obtain ⟨q, rfl⟩ : ∃ q, fuel = q + 1 := ⟨fuel - 1, by omega⟩
    obtain rfl : i = 40 := by omega
    rw [fX6_sheet_70, if_pos (show (40 : Int32) ≤ nI 40 by decide)]
    exact ⟨g, rfl, hg, fun _ _ => rfl⟩
  | succ k ih =>
    intro i fuel g hf hi hg
    obtain ⟨q, rfl⟩ : ∃ q, fuel = q + 1 := ⟨fuel - 1, by omega⟩
    rw [fX6_sheet_70, if_neg (nI_nleL (x := 40) (a := 40) rfl rfl (by omega) (by decide)), nI_40, if_pos (gin_nI (by omega) (by decide)), nI_clamp (by omega), nI_1, up1_up2]
    obtain ⟨g', e1, e2, e3⟩ := ih (i + 1) q (upd g (40 * s + i) 0) (by omega) (by omega) (fun j hj => by
      by_cases e : j = i
      · rw [e, upd_eq]
      · rw [upd_ne (by omega)]; exact hg j (by omega))
    exact ⟨g', e1, e2, fun j hj => by rw [e3 j hj, upd_ne (by omega)]⟩
theorem zeroC {v : gV} {s z : Nat} (hs : s < 4) (hz : z ≤ 40) : ∀ (k i fuel : Nat) (g : Nat → Int32), k < fuel → i + k = z → (∀ j, j < i → g j = 0) → ∃ g', fX2_become_35 fuel (up2 v (27 + s) g) (nI s) (nI z) (nI i) = some ((), up2 v (27 + s) g') ∧ ∀ j, j < z → g' j = 0 := by
  intro k
  induction k with
  | zero =>
    intro i fuel g hf hi hg
    obtain ⟨q, rfl⟩ : ∃ q, fuel = q + 1 := ⟨fuel - 1, by omega⟩
    rw [fX2_become_35, if_pos (nI_yleL rfl rfl (by omega) (by omega))]
    exact ⟨g, rfl, fun j hj => hg j (by omega)⟩
  | succ k ih =>
    intro i fuel g hf hi hg
    obtain ⟨q, rfl⟩ : ∃ q, fuel = q + 1 := ⟨fuel - 1, by omega⟩
    rw [fX2_become_35, if_neg (nI_nleL rfl rfl (by omega) (by omega)), if_pos (gin_nI hs (by decide)), if_pos (gin_nI (show i < 40 by omega) (by decide)), nI_clamp (show i < 2 ^ 31 by omega), nI_clamp (show s < 2 ^ 31 by omega), nI_1, up1_up2]
    exact ih (i + 1) q (upd g i 0) (by omega) (by omega) (fun j hj => by
      by_cases e : j = i
      · rw [e, upd_eq]
      · rw [upd_ne (by omega)]; exact hg j (by omega))
theorem cBecome {v : gV} {s z : Nat} {x : Int32} (hs : s < 4) (hz : z ≤ 40) : ∃ f, fX2_become v (nI s) x (nI z) = some ((), up2 (up1 (up1 v 15 s x) 16 s (nI z)) (27 + s) f) ∧ ∀ j, j < z → f j = 0 := by
  unfold fX2_become
  rw [cIsSheet hs, gB_some, if_neg ne10, if_neg (nI_pos (by omega)), if_pos (nI_yleL (y := 40) (b := 40) rfl rfl hz (by decide)), if_pos (gin_nI hs (by decide)), if_pos (gin_nI hs (by decide)), nI_clamp (show s < 2 ^ 31 by omega)]
  obtain ⟨f, e1, e2⟩ := zeroC (v := up1 (up1 v 15 s x) 16 s (nI z)) hs hz z 0 2000 ((up1 (up1 v 15 s x) 16 s (nI z)) (27 + s)) (by omega) (by omega) (fun j hj => absurd hj (Nat.not_lt_zero j))
  rw [up2_self] at e1
  exact ⟨f, e1, e2⟩
theorem op_sheet {v u : gV} (h : RelE v u) (x1 x2 x3 : Int32) : ∃ x v' u', fX5_sheet v x1 x2 x3 = some (x, v') ∧ fX6_sheet u x1 x2 x3 = some (x, u') ∧ RelE v' u' := by
  have hE := h
  obtain ⟨n, nt, t, tc, tb, hR⟩ := h
  unfold fX5_sheet fX6_sheet
  by_cases hx : ∃ s, s < 4 ∧ x1 = nI s
  · obtain ⟨s, hs, rfl⟩ := hx
    rw [cIsSheet hs, mIn03T hs, gB_some, gB_some, if_neg ne10, if_neg ne10]
    by_cases c : x2 = -1
    · subst c
      rw [if_pos rfl, mInT (by decide), gB_some, if_neg ne10, if_pos rfl]
      unfold fX6_sheet_32 fX6_sheet_44 fX6_sheet_66
      rw [if_pos rfl, if_pos (gin_nI hs (by decide)), if_pos rfl, if_pos (gin_nI hs (by decide)), nI_clamp (show s < 2 ^ 31 by omega)]
      obtain ⟨g', e1, e2, e3⟩ := zeroM (u := up1 (up1 u 10 s (-1)) 11 s 0) hs 40 0 2000 ((up1 (up1 u 10 s (-1)) 11 s 0) 12) (by omega) (by omega) (fun j hj => absurd hj (Nat.not_lt_zero j))
      rw [up2_self] at e1
      rw [show (nI 0 : Int32) = 0 from rfl] at e1
      unfold fX2_lose
      rw [cIsSheet hs, gB_some, if_neg ne10, if_pos (gin_nI hs (by decide)), if_pos (gin_nI hs (by decide)), nI_clamp (show s < 2 ^ 31 by omega), gB_some, e1]
      refine ⟨_, _, _, rfl, rfl, n, nt, t, tc, tb, ?_⟩
      have hp := Rel_put (z := 0) (x := -1) (f := (up1 (up1 v 15 s (-1)) 16 s (nI 0)) (27 + s)) (g := g') hR hs (Or.inl rfl) (by decide) (fun _ => rfl) (fun i hi => absurd hi (Nat.not_lt_zero i)) (fun j hj => by rw [e3 j hj, up1_ne (by decide), up1_ne (by decide)])
      rw [up2_self] at hp
      exact hp
    · by_cases hs2 : ∃ k, k < 2 + 1 ∧ x2 = nI k
      · obtain ⟨k, hk, rfl⟩ := hs2
        have e2 : fX2_isSort v (nI k) = some (1, v) := good_gt (n := 2) (by decide) hk
        have e3 : fX6_in u (nI k) (-1) 2 = some (1, u) := mInT ⟨by rw [Int32.le_iff_toInt_le, nI_toInt (by omega)]; exact Int.le_trans (by decide : (-1 : Int32).toInt ≤ 0) (by omega), nI_yleL (y := 2) (b := 2) rfl rfl (by omega) (by decide)⟩
        rw [if_neg c, e2, gB_some, if_neg ne10, e3, gB_some, if_neg ne10, if_neg c]
        unfold fX6_sheet_32
        rw [if_neg c]
        by_cases c40 : x3 ≤ 40
        · rw [if_pos c40, if_pos c40]
          by_cases c0 : 0 ≤ x3
          · rw [if_pos c0, if_pos c0]
            obtain ⟨z, hz, rfl⟩ := (rngC (n := 40) (by decide)).mp ⟨c0, c40⟩
            obtain ⟨f, f1, f2⟩ := cBecome (v := v) (s := s) (z := z) (x := nI k) hs (by omega)
            unfold fX6_sheet_44 fX6_sheet_66
            rw [f1, gB_some, if_pos (gin_nI hs (by decide)), if_neg c, if_pos (gin_nI hs (by decide)), nI_clamp (show s < 2 ^ 31 by omega)]
            obtain ⟨g', e1, e2, e3⟩ := zeroM (u := up1 (up1 u 10 s (nI k)) 11 s (nI z)) hs 40 0 2000 ((up1 (up1 u 10 s (nI k)) 11 s (nI z)) 12) (by omega) (by omega) (fun j hj => absurd hj (Nat.not_lt_zero j))
            rw [up2_self] at e1
            rw [show (nI 0 : Int32) = 0 from rfl] at e1
            rw [e1]
            refine ⟨_, _, _, rfl, rfl, n, nt, t, tc, tb, ?_⟩
            exact Rel_put hR hs (Or.inr (by rw [nI_toInt (by omega)]; omega)) (by omega) (fun z => absurd z c) (fun i hi => by rw [f2 i hi, e2 i (by omega)]) (fun j hj => by rw [e3 j hj, up1_ne (by decide), up1_ne (by decide)])
          · rw [if_neg c0, if_neg c0]
            exact ⟨_, _, _, rfl, rfl, hE⟩
        · rw [if_neg c40, if_neg c40]
          exact ⟨_, _, _, rfl, rfl, hE⟩
      · have e2 : fX2_isSort v x2 = some (0, v) := bad_gt (n := 2) (by decide) hs2
        have e3 : fX6_in u x2 (-1) 2 = some (0, u) := mInF (fun w => hs2 ((rngC (n := 2) (by decide)).mp ⟨by
          have w1 := w.1
          rw [Int32.le_iff_toInt_le] at w1 ⊢
          have hc : x2.toInt ≠ (-1 : Int32).toInt := fun z => c (Int32.toInt_inj.mp z)
          rw [show (-1 : Int32).toInt = -1 from rfl] at w1 hc
          rw [i32_0]
          omega, w.2⟩))
        rw [if_neg c, e2, gB_some, if_pos rfl, e3, gB_some, if_pos rfl]
        exact ⟨_, _, _, rfl, rfl, hE⟩
  · rw [cIsSheetF hx, mIn03F hx, gB_some, gB_some, if_pos rfl, if_pos rfl]
    exact ⟨_, _, _, rfl, rfl, hE⟩
