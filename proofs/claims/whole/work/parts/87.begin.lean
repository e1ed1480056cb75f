/-! the reference's first text; how the two worlds begin -/
theorem tk_word {T : Nat → Nat} {q p b e w : Nat} (hb : bg T q p = b) (he : er lt T q b = e) (h1 : b < q) (h2 : lt (T b) = true) (h3 : mt T b e w) (hw : w < 12) : tk T q p = 300 + w := by
  unfold tk
  rw [hb, he, if_pos h1, if_pos h2]
  have : wI T b e = w := by
    unfold wI
    rcases fnd_spec (m := mt T b e) 12 0 (by omega) with ⟨-, f2⟩ | ⟨-, f2, f3⟩
    · exact absurd h3 (f2 w (Nat.zero_le _) hw)
    · exact mt_one f2 hw f3 h3
  rw [this, if_pos hw]
theorem tk_num {T : Nat → Nat} {q p b e : Nat} (hb : bg T q p = b) (he : er dt T q b = e) (h1 : b < q) (h2 : ¬ lt (T b) = true) (h3 : dt (T b) = true) (h4 : e - b ≤ 4) : tk T q p = 2 := by
  unfold tk
  rw [hb, he, if_pos h1, if_neg h2, if_pos h3, if_pos h4]
theorem tk_sig {T : Nat → Nat} {q p b : Nat} (hb : bg T q p = b) (h1 : b < q) (h2 : ¬ lt (T b) = true) (h3 : ¬ dt (T b) = true) (h4 : sg (T b) = true) : tk T q p = T b := by
  unfold tk
  rw [hb, if_pos h1, if_neg h2, if_neg h3, if_pos h4]
theorem tk_end {T : Nat → Nat} {q p b : Nat} (hb : bg T q p = b) (h1 : ¬ b < q) : tk T q p = 0 := by
  unfold tk
  rw [hb, if_neg h1]
/-- one part, one number -/
theorem mPart1 {U u : gV} {T : Nat → Nat} {q t p k : Nat} {b kk z : Int32} {ro : List Nat} (ht : t < 6) (hU : U 0 11 = nI t) (hM : MP U T q) (hk : k < 3) (hMS : MW U u t p b kk z ro) (hp : p ≤ q) (hl : ro.length ≤ p) (c1 : tk T q p = 300 + k) (c2 : tk T q (nx T q p) = 2) (c3 : tk T q (nx T q (nx T q p)) = 59) : ∃ (u' : gV) (b' k' z' : Int32), (∀ n, fX6_text_26 (n + 1) u 1 (nI k) = fX6_text_26 n u' 1 (nI (k + 1))) ∧ MS (up1 U 8 (4 * t + k) (nI ro.length)) u' t (nx T q (nx T q (nx T q p))) b' k' z' [] ((100000 + nm T q (nx T q p)) :: ro) := by
  have hq := hM.2.1
  have hin := tk_in T q p
  have hnx := nx_le (T := T) hp
  have hle := bg_le (T := T) hp
  have hlt := tk_0 (T := T) (q := q) (p := p) (by omega)
  have h3k : ¬ (3 : Int32) ≤ nI k := nI_nleL (x := 3) (a := 3) rfl rfl hk (by decide)
  obtain ⟨w, zw, w1, w2, w3⟩ := mNextW hMS hM hp
  have wk : w 0 23 = mtok (tk T q p) := w2.2.2.1.2.2.2.1
  have wz : w 0 24 = zw := w2.2.2.1.2.2.2.2
  have g24 : gin (4 * nI t + nI k) 24 = true := by rw [nI_4k]; exact gin_nI (by omega) (by decide)
  have w11 : w 0 11 = nI t := (w2.2.2.1.1 11 (by decide)).trans hU
  have w29 : w 0 29 = nI ro.length := w2.2.2.2.1
  have e8 : up1 w 8 (4 * nI t + nI k).toNatClampNeg (w 0 29) = up1 w 8 (4 * t + k) (nI ro.length) := by rw [nI_4k, nI_clamp (by omega), w29]
  have hmk : mtok (tk T q p) = 3 := (mk_3 _ hin).mpr (by omega)
  have hz : zw = nI k := w3.2.1 k hk c1
  have A1 : MP (up1 U 8 (4 * t + k) (nI ro.length)) T q := by
    refine ⟨?_, hM.2.1, ?_, ?_⟩
    · rw [up1_ne (by decide)]; exact hM.1
    · rw [up1_ne (by decide)]; exact hM.2.2.1
    · rw [up1_ne (by decide)]; exact hM.2.2.2
  have A2 : (up1 U 8 (4 * t + k) (nI ro.length)) 0 11 = nI t := by rw [up1_ne (by decide)]; exact hU
  have M2 := MW_reset (MW_up8 (i := 4 * t + k) (x := nI ro.length) w2)
  have tx : ∀ n, fX6_text_26 (n + 1) u 1 (nI k) = gB (fX6_eRead_14 2000 (up1 (up1 (up1 w 8 (4 * t + k) (nI ro.length)) 0 27 0) 0 28 0) 1 1) (fun y7 v8 => if y7 = 0 then fX6_text_93 (fX6_text_26 n) v8 (nI k) else fX6_text_94 (fX6_text_26 n) v8 (nI k) 1) := by
    intro n
    rw [fX6_text_26, if_neg h3k, if_neg ne10, w1, gB_some, wk, if_pos hmk, wz, if_pos hz]
    unfold fX6_text_60
    rw [w11, if_pos g24, if_neg ne10, e8]
    rfl
  obtain ⟨x, b1, k1, z1, x1, x2⟩ := lpOpd (n := 1999) (mn := 1) (R := []) (c := 100000 + nm T q (nx T q p)) ht A2 A1 hnx.2.1 M2 (Or.inl ⟨c2, rfl⟩) trivial (by decide) (by show 0 + 0 + ro.length ≤ _; omega)
  have hnx2 := nx_le (T := T) hnx.2.1
  have hlt2 := tk_0 (T := T) (q := q) (p := nx T q p) (by omega)
  have hle2 := bg_le (T := T) hnx.2.1
  obtain ⟨y, b2, k2, z2, y1, y2⟩ := lpSemi (n := 1998) (mn := 1) (A := []) ht A2 A1 hnx2.2.1 x2 c3 trivial (by show 0 + (ro.length + 1) ≤ _; omega)
  refine ⟨y, b2, k2, z2, fun n => ?_, y2⟩
  rw [tx n, show (2000 : Nat) = 1999 + 1 from rfl, x1, show (1999 : Nat) = 1998 + 1 from rfl, y1, gB_some, if_neg ne10]
  unfold fX6_text_94
  rw [nI_1]
def T0 (i : Nat) : Nat := ([100, 114, 105, 110, 107, 115, 32, 49, 32, 59, 32, 119, 111, 114, 116, 104, 32, 53, 32, 59, 32, 98, 114, 101, 97, 107, 115, 32, 49, 48, 32, 59] : List Nat).getD i 0
theorem u0M_6 : ∀ i, i < 32 → u0M 6 i = nI (T0 i) ∧ T0 i ≤ 255 := by decide +kernel
theorem u0M_14 : ∀ j, j < 96 → u0M 14 j = wordsF j := by decide +kernel
theorem u0M_MP : MP u0M T0 32 := ⟨rfl, by decide, u0M_6, u0M_14⟩
theorem x_0 : tk T0 32 0 = 300 + 0 := tk_word (b := 0) (e := 6) (by decide) (by decide) (by decide) (by decide) (by unfold mt; decide) (by decide)
theorem n_0 : nx T0 32 0 = 6 := by decide
theorem x_6 : tk T0 32 6 = 2 := tk_num (b := 7) (e := 8) (by decide) (by decide) (by decide) (by decide) (by decide) (by decide)
theorem n_6 : nx T0 32 6 = 8 := by decide
theorem m_6 : nm T0 32 6 = 1 := by decide
theorem x_8 : tk T0 32 8 = 59 := tk_sig (b := 9) (by decide) (by decide) (by decide) (by decide) (by decide)
theorem n_8 : nx T0 32 8 = 10 := by decide
theorem x_10 : tk T0 32 10 = 300 + 1 := tk_word (b := 11) (e := 16) (by decide) (by decide) (by decide) (by decide) (by unfold mt; decide) (by decide)
theorem n_10 : nx T0 32 10 = 16 := by decide
theorem x_16 : tk T0 32 16 = 2 := tk_num (b := 17) (e := 18) (by decide) (by decide) (by decide) (by decide) (by decide) (by decide)
theorem n_16 : nx T0 32 16 = 18 := by decide
theorem m_16 : nm T0 32 16 = 5 := by decide
theorem x_18 : tk T0 32 18 = 59 := tk_sig (b := 19) (by decide) (by decide) (by decide) (by decide) (by decide)
theorem n_18 : nx T0 32 18 = 20 := by decide
theorem x_20 : tk T0 32 20 = 300 + 2 := tk_word (b := 21) (e := 27) (by decide) (by decide) (by decide) (by decide) (by unfold mt; decide) (by decide)
theorem n_20 : nx T0 32 20 = 27 := by decide
theorem x_27 : tk T0 32 27 = 2 := tk_num (b := 28) (e := 30) (by decide) (by decide) (by decide) (by decide) (by decide) (by decide)
theorem n_27 : nx T0 32 27 = 30 := by decide
theorem m_27 : nm T0 32 27 = 10 := by decide
theorem x_30 : tk T0 32 30 = 59 := tk_sig (b := 31) (by decide) (by decide) (by decide) (by decide) (by decide)
theorem n_30 : nx T0 32 30 = 32 := by decide
theorem x_32 : tk T0 32 32 = 0 := tk_end (b := 32) (by decide) (by decide)
theorem text0 : ∃ u1, fX6_text u0M = some (0, u1) ∧ RelE v0C u1 := by
  have M0 : MW u0M (up1 (up1 u0M 0 21 0) 0 29 0) 0 0 (u0M 0 22) (u0M 0 23) (u0M 0 24) [] := by
    refine ⟨?_, ?_, ⟨?_, ?_, ?_, ?_, ?_⟩, ?_, trivial⟩
    · intro j x0 _ _; rw [up1_ne x0, up1_ne x0]
    · intro j _; rw [up1_ne (by decide), up1_ne (by decide)]
    · intro j hj; rw [up1_eq, upd_ne (by omega), up1_eq, upd_ne (by omega)]
    · rw [up1_eq, upd_ne (by decide), up1_eq']; rfl
    · rw [up1_eq, upd_ne (by decide), up1_eq, upd_ne (by decide)]
    · rw [up1_eq, upd_ne (by decide), up1_eq, upd_ne (by decide)]
    · rw [up1_eq, upd_ne (by decide), up1_eq, upd_ne (by decide)]
    · rw [up1_eq']; rfl
  have eM : fX6_text u0M = fX6_text_26 2000 (up1 (up1 u0M 0 21 0) 0 29 0) 1 (nI 0) := by
    unfold fX6_text
    rw [if_neg (show ¬ u0M 0 11 = 6 by decide)]
    rfl
  obtain ⟨u1, b1, k1, z1, e1, M1⟩ := mPart1 (T := T0) (q := 32) (t := 0) (k := 0) (by decide) rfl u0M_MP (by decide) M0 (by decide) (by decide) x_0 (by rw [n_0]; exact x_6) (by rw [n_0, n_6]; exact x_8)
  rw [n_0, n_6, n_8, m_6] at M1
  have P1 : MP (up1 u0M 8 (4 * 0 + 0) (nI ([] : List Nat).length)) T0 32 := ⟨rfl, by decide, u0M_6, u0M_14⟩
  obtain ⟨u2, b2, k2, z2, e2, M2⟩ := mPart1 (T := T0) (q := 32) (t := 0) (k := 1) (by decide) rfl P1 (by decide) (MS_MW M1) (by decide) (by decide) x_10 (by rw [n_10]; exact x_16) (by rw [n_10, n_16]; exact x_18)
  rw [n_10, n_16, n_18, m_16] at M2
  have P2 : MP (up1 (up1 u0M 8 (4 * 0 + 0) (nI ([] : List Nat).length)) 8 (4 * 0 + 1) (nI [100000 + 1].length)) T0 32 := ⟨rfl, by decide, u0M_6, u0M_14⟩
  obtain ⟨u3, b3, k3, z3, e3, M3⟩ := mPart1 (T := T0) (q := 32) (t := 0) (k := 2) (by decide) rfl P2 (by decide) (MS_MW M2) (by decide) (by decide) x_20 (by rw [n_20]; exact x_27) (by rw [n_20, n_27]; exact x_30)
  rw [n_20, n_27, n_30, m_27] at M3
  have P3 : MP (up1 (up1 (up1 u0M 8 (4 * 0 + 0) (nI ([] : List Nat).length)) 8 (4 * 0 + 1) (nI [100000 + 1].length)) 8 (4 * 0 + 2) (nI [100000 + 5, 100000 + 1].length)) T0 32 := ⟨rfl, by decide, u0M_6, u0M_14⟩
  have eM4 : fX6_text u0M = fX6_text_26 (1996 + 1) u3 1 (nI 3) := eM.trans ((e1 1999).trans ((e2 1998).trans (e3 1997)))
  obtain ⟨w, zw, w1, w2, -⟩ := mNext M3 P3 (by decide)
  have wk : w 0 23 = mtok (tk T0 32 32) := w2.2.2.1.2.2.2.1
  rw [x_32] at wk
  rw [fX6_text_26, if_pos (show (3 : Int32) ≤ nI 3 by decide)] at eM4
  unfold fX6_text_101 fX6_text_121 at eM4
  rw [if_neg ne10, w1, gB_some, wk, if_pos (show mtok 0 = 0 from rfl)] at eM4
  have w11 : w 0 11 = nI 0 := w2.2.2.1.1 11 (by decide)
  have w29 : w 0 29 = nI 3 := w2.2.2.2.1.2.2
  have e5 : fX6_text u0M = some (0, up1 (up1 (up1 w 8 3 (nI 3)) 0 8 0) 0 11 (nI 1)) := by
    rw [eM4]
    unfold fX6_text_122
    have y11 : (up1 (up1 w 8 3 (nI 3)) 0 8 0) 0 11 = nI 0 := by rw [up1_eq, upd_ne (by decide), up1_ne (by decide)]; exact w11
    have e3 : (4 * nI 0 + 3).toNatClampNeg = 3 := by decide
    rw [w11, if_pos (show gin (4 * nI 0 + 3) 24 = true by decide), if_neg ne10, e3, w29, y11, nI_1, up1_eq']
    rfl
  generalize hu : up1 (up1 (up1 w 8 3 (nI 3)) 0 8 0) 0 11 (nI 1) = U at e5
  have fJ : ∀ j, j ≠ 0 → j ≠ 7 → j ≠ 8 → j ≠ 15 → U j = u0M j := fun j y0 y7 y8 y15 => by
    rw [← hu, up1_ne y0, up1_ne y0, up1_ne y8, w2.1 j y0 y7 y15, up1_ne y8, up1_ne y8, up1_ne y8]
  have f0 : ∀ k, k ≠ 8 → k ≠ 11 → ¬ (21 ≤ k ∧ k ≤ 24) → ¬ (27 ≤ k ∧ k ≤ 29) → U 0 k = u0M 0 k := fun k k8 k11 k21 k27 => by
    rw [← hu, up1_eq, upd_ne k11, up1_eq, upd_ne k8, up1_ne (by decide), w2.2.2.1.1 k (by omega), up1_ne (by decide), up1_ne (by decide), up1_ne (by decide)]
  have f11 : U 0 11 = nI 1 := by rw [← hu, up1_eq']
  have f8 : U 0 8 = 0 := by rw [← hu, up1_eq, upd_ne (by decide), up1_eq']
  have c8 : ∀ k, k < 4 → U 8 k = nI (bf 1 2 3 k) := fun k hk => by
    rw [← hu, up1_ne (by decide), up1_ne (by decide), up1_eq]
    by_cases k3 : k = 3
    · rw [k3, upd_eq]; rfl
    · rw [upd_ne k3, w2.1 8 (by decide) (by decide) (by decide)]
      have k' : k < 3 := by omega
      match k, k' with
      | 0, _ => rfl
      | 1, _ => rfl
      | 2, _ => rfl
  have c7 : ∀ i, i < 3 → U 7 i = nI (cf [100000 + 10, 100000 + 5, 100000 + 1] i) := fun i hi => by
    have := cf_stk w2.2.2.2.2.2 i hi
    rw [← hu, up1_ne (by decide), up1_ne (by decide), up1_ne (by decide)]
    rw [show 200 * 0 + i = i by omega] at this
    exact this
  have wt : wTX (cf [100000 + 10, 100000 + 5, 100000 + 1]) (bf 1 2 3) := by
    refine ⟨rfl, ⟨by decide, by decide, by decide, by decide⟩, ?_, ?_⟩
    · intro i hi
      have hc : coL [100000 + 10, 100000 + 5, 100000 + 1] := ⟨Or.inl (Or.inr (by decide)), Or.inl (Or.inr (by decide)), Or.inl (Or.inr (by decide)), trivial⟩
      exact cf_co hc i hi
    · intro k hk
      match k, hk with
      | 0, _ => exact wf_of [100000 + 1] 0 0 1 (b := 0) (fun i hi => by rw [show i = 0 from Nat.lt_one_iff.mp hi]; rfl) rfl (Nat.le_refl 1)
      | 1, _ => exact wf_of [100000 + 5] 0 0 1 (b := 1) (fun i hi => by rw [show i = 0 from Nat.lt_one_iff.mp hi]; rfl) rfl (Nat.le_refl 1)
      | 2, _ => exact wf_of [100000 + 10] 0 0 1 (b := 2) (fun i hi => by rw [show i = 0 from Nat.lt_one_iff.mp hi]; rfl) rfl (Nat.le_refl 1)
  refine ⟨U, e5, 0, 1, 0, fun _ => cf [100000 + 10, 100000 + 5, 100000 + 1], fun _ => bf 1 2 3, ⟨rfl, ⟨by decide, fun r hr => absurd hr (Nat.not_lt_zero r)⟩, by decide, fun t ht => ⟨wt, ?_, ?_⟩⟩, ⟨?_, ⟨by decide, fun r hr => absurd hr (Nat.not_lt_zero r)⟩, ⟨by decide, by decide, ?_⟩, fun t ht => ⟨wt, ?_, ?_⟩⟩, ⟨⟨?_, ?_, ?_⟩, ⟨?_, ?_, ?_, ?_⟩, ?_, ⟨rfl, rfl, f11⟩, ?_, ?_⟩, ⟨⟨0, by decide, rfl, f8, fun i hi => absurd hi (Nat.not_lt_zero i)⟩, ?_⟩, ⟨?_, ?_, Or.inl rfl⟩, ?_⟩
  · intro k hk
    obtain rfl : t = 0 := by omega
    match k, hk with
    | 0, _ => rfl
    | 1, _ => rfl
    | 2, _ => rfl
  · intro i hi
    obtain rfl : t = 0 := by omega
    have hi : i < 3 := hi
    match i, hi with
    | 0, _ => rfl
    | 1, _ => rfl
    | 2, _ => rfl
  · rw [f0 1 (by decide) (by decide) (by decide) (by decide)]; rfl
  · rw [f0 12 (by decide) (by decide) (by decide) (by decide)]; rfl
  · intro k hk
    obtain rfl : t = 0 := by omega
    rw [show 4 * 0 + k = k by omega]; exact c8 k hk
  · intro i hi
    obtain rfl : t = 0 := by omega
    rw [show 200 * 0 + i = i by omega]; exact c7 i hi
  · rw [fJ 1 (by decide) (by decide) (by decide) (by decide)]; rfl
  · exact ⟨fun k _ => by show 0 ≤ (0 : Int32).toInt ∧ (0 : Int32).toInt ≤ 999; decide, by show 0 ≤ (0 : Int32).toInt ∧ (0 : Int32).toInt ≤ 99; decide, by show 0 ≤ (0 : Int32).toInt ∧ (0 : Int32).toInt ≤ 999; decide, by show 0 ≤ (0 : Int32).toInt ∧ (0 : Int32).toInt ≤ 112; decide, fun _ _ => rfl⟩
  · show (0 : Int32).toInt ≤ 99; decide
  · rw [fJ 2 (by decide) (by decide) (by decide) (by decide)]; rfl
  · rw [fJ 3 (by decide) (by decide) (by decide) (by decide)]; rfl
  · rw [fJ 4 (by decide) (by decide) (by decide) (by decide)]; rfl
  · rw [fJ 5 (by decide) (by decide) (by decide) (by decide)]; rfl
  · rw [f0 6 (by decide) (by decide) (by decide) (by decide)]; rfl
  · exact fun _ _ => rfl
  · intro d hd
    match d, hd with
    | 0, _ => exact fun _ _ => rfl
    | 1, _ => exact fun _ _ => rfl
    | 2, _ => exact fun _ _ => rfl
    | 3, _ => exact fun _ _ => rfl
    | 4, _ => exact fun _ _ => rfl
    | 5, _ => exact fun _ _ => rfl
    | 6, _ => exact fun _ _ => rfl
  · rw [fJ 14 (by decide) (by decide) (by decide) (by decide)]; exact u0M_14
  · exact fun _ _ => rfl
  · rw [f0 13 (by decide) (by decide) (by decide) (by decide)]; rfl
  · intro s hs
    rw [fJ 10 (by decide) (by decide) (by decide) (by decide), fJ 11 (by decide) (by decide) (by decide) (by decide)]
    match s, hs with
    | 0, _ => exact ⟨rfl, Or.inl rfl, 0, by decide, rfl, rfl, fun _ => rfl, fun i hi => absurd hi (Nat.not_lt_zero i)⟩
    | 1, _ => exact ⟨rfl, Or.inl rfl, 0, by decide, rfl, rfl, fun _ => rfl, fun i hi => absurd hi (Nat.not_lt_zero i)⟩
    | 2, _ => exact ⟨rfl, Or.inl rfl, 0, by decide, rfl, rfl, fun _ => rfl, fun i hi => absurd hi (Nat.not_lt_zero i)⟩
    | 3, _ => exact ⟨rfl, Or.inl rfl, 0, by decide, rfl, rfl, fun _ => rfl, fun i hi => absurd hi (Nat.not_lt_zero i)⟩
