/-! set, count, force, asks, moves: both sides -/
theorem nI_ex {x : Int32} {n : Nat} (h0 : 0 ≤ x.toInt) (h1 : x.toInt < n) : ∃ k, k < n ∧ x = nI k := by
  have hb := Int32.toInt_lt x
  refine ⟨x.toInt.toNat, by omega, Int32.toInt_inj.mp ?_⟩
  rw [nI_toInt (by omega)]
  omega
theorem mIn {v : gV} {x a b : Int32} : fX6_in v x a b = some (if a ≤ x ∧ x ≤ b then 1 else 0, v) := by
  unfold fX6_in
  by_cases h1 : x < a
  · rw [if_pos h1, if_neg (fun z => absurd h1 (Int32.not_lt.mpr z.1))]
  · rw [if_neg h1]
    by_cases h2 : b < x
    · rw [if_pos h2, if_neg (fun z => absurd h2 (Int32.not_lt.mpr z.2))]
    · rw [if_neg h2, if_pos ⟨Int32.not_lt.mp h1, Int32.not_lt.mp h2⟩]
theorem mInT {v : gV} {x a b : Int32} (h : a ≤ x ∧ x ≤ b) : fX6_in v x a b = some (1, v) := by rw [mIn, if_pos h]
theorem mInF {v : gV} {x a b : Int32} (h : ¬ (a ≤ x ∧ x ≤ b)) : fX6_in v x a b = some (0, v) := by rw [mIn, if_neg h]
theorem ne10 : ¬ (1 : Int32) = 0 := by decide
theorem Rel_row {v u : gV} {n nt t : Nat} {tc tb : Nat → Nat → Nat} {s : Nat → Int32} (h : Rel v u n nt t tc tb) (hs : Rw s) (hd : (s 6).toInt ≤ 99) : Rel (up2 v 1 s) (up2 u 1 s) n nt t tc tb := by
  obtain ⟨hB, hM, ⟨⟨a1, a2, a3⟩, ⟨a4, a5, a6, a7⟩, a8, ⟨a9, a10, a11⟩, a12, a13⟩, ⟨⟨q, t1, t2, t3, t4⟩, t5⟩, ⟨i1, i2, i3⟩, hS⟩ := h
  refine ⟨cBase_up2 hB (Or.inr (Or.inl rfl)), mBase_up2 hM (Or.inl rfl), ⟨⟨?_, ?_, ?_⟩, ⟨?_, ?_, ?_, ?_⟩, ?_, ⟨?_, ?_, ?_⟩, ?_, ?_⟩, ⟨⟨q, t1, ?_, ?_, ?_⟩, ?_⟩, ⟨?_, ?_, ?_⟩, ?_⟩
  · rw [up2_eq, up2_eq]
  · rw [up2_eq]; exact hs
  · rw [up2_eq]; exact hd
  · rw [up2_ne (by decide), up2_ne (by decide)]; exact a4
  · rw [up2_ne (by decide), up2_ne (by decide)]; exact a5
  · rw [up2_ne (by decide), up2_ne (by decide)]; exact a6
  · rw [up2_ne (by decide), up2_ne (by decide)]; exact a7
  · rw [up2_ne (by decide)]; exact a8
  · rw [up2_ne (by decide)]; exact a9
  · rw [up2_ne (by decide)]; exact a10
  · rw [up2_ne (by decide)]; exact a11
  · rw [up2_ne (by decide)]; exact a12
  · intro d hd
    rw [up2_ne (by omega)]; exact a13 d hd
  · rw [up2_ne (by decide)]; exact t2
  · rw [up2_ne (by decide)]; exact t3
  · rw [up2_ne (by decide), up2_ne (by decide)]; exact t4
  · rw [up2_ne (by decide)]; exact t5
  · rw [up2_ne (by decide)]; exact i1
  · rw [up2_ne (by decide), up2_ne (by decide)]; exact i2
  · rw [up2_ne (show (8 : Nat) ≠ 1 by decide), up2_ne (show (17 : Nat) ≠ 1 by decide), up2_ne (show (18 : Nat) ≠ 1 by decide), up2_ne (show (19 : Nat) ≠ 1 by decide), up2_ne (show (10 : Nat) ≠ 1 by decide), up2_ne (show (11 : Nat) ≠ 1 by decide), up2_ne (show (9 : Nat) ≠ 1 by decide), up2_ne (show (0 : Nat) ≠ 1 by decide)]; exact i3
  · intro s hs
    rw [up2_ne (show (15 : Nat) ≠ 1 by decide), up2_ne (show (16 : Nat) ≠ 1 by decide), up2_ne (show 27 + s ≠ 1 by omega), up2_ne (show (10 : Nat) ≠ 1 by decide), up2_ne (show (11 : Nat) ≠ 1 by decide), up2_ne (show (12 : Nat) ≠ 1 by decide)]
    exact hS s hs
theorem sameC_49 {v u : gV} {n nt t : Nat} {tc tb : Nat → Nat → Nat} {f : Nat → Int32} (h : Rel v u n nt t tc tb) : sameC v (up2 v 49 f) := by
  obtain ⟨-, -, ⟨-, -, -, -, a12, a13⟩, -⟩ := h
  exact ⟨fun j _ _ h3 _ => up2_ne h3, fun k _ => by rw [up2_ne (by decide)], by rw [up2_ne (by decide)]; exact a12, fun d hd => by rw [up2_ne (by omega)]; exact a13 d hd⟩
theorem sameC_2 {v u : gV} {n nt t : Nat} {tc tb : Nat → Nat → Nat} {f s : Nat → Int32} (h : Rel v u n nt t tc tb) (hs : Z7 s) : sameC v (up2 (up2 v 49 f) 2 s) := by
  obtain ⟨-, -, ⟨-, -, -, -, a12, a13⟩, -⟩ := h
  exact ⟨fun j _ h2 h3 _ => by rw [up2_ne h2, up2_ne h3], fun k _ => by rw [up2_ne (by decide), up2_ne (by decide)], by rw [up2_eq]; exact hs, fun d hd => by rw [up2_ne (by omega), up2_ne (by omega)]; exact a13 d hd⟩
theorem sameM_2 {u : gV} {g f : Nat → Int32} : sameM u (up2 (up2 u 17 g) 16 f) := ⟨fun j _ h2 h3 _ => by rw [up2_ne h2, up2_ne h3], fun k _ => by rw [up2_ne (by decide), up2_ne (by decide)]⟩
theorem op_set {v u : gV} (h : RelE v u) (x1 x2 : Int32) : ∃ x v' u', fX5_set v x1 x2 = some (x, v') ∧ fX6_set u x1 x2 = some (x, u') ∧ RelE v' u' := by
  obtain ⟨n, nt, t, tc, tb, hR⟩ := h
  obtain ⟨a1, a2, a3⟩ := hR.2.2.1.1
  unfold fX5_set fX6_set
  by_cases hx : (0 : Int32) ≤ x1 ∧ x1 ≤ 6
  · have h0 := Int32.le_iff_toInt_le.mp hx.1
    have h6 := Int32.le_iff_toInt_le.mp hx.2
    rw [i32_0] at h0
    rw [show (6 : Int32).toInt = 6 from rfl] at h6
    obtain ⟨k, hk, rfl⟩ := nI_ex (x := x1) (n := 7) h0 (by omega)
    rw [if_neg (nI_pos (by omega)), if_pos (nI_yltL (y := 7) (b := 7) rfl rfl hk (by decide)), mInT hx, gB_some, if_neg ne10]
    unfold fX6_set_25 fX6_set_33 fX5_mostOf
    have gk : gin (nI k) 7 = true := gin_nI hk (by decide)
    have ck : (nI k).toNatClampNeg = k := nI_clamp (by omega)
    have fin : ∀ B : Int32, (B.toInt ≤ 999 ∧ (k = 4 → B.toInt ≤ 99) ∧ (k = 6 → B.toInt ≤ 99)) → ∃ x v' u', (if x2 < 0 then some (-2, v) else if x2 ≤ B then if gin (nI k) 7 = true then if gin (nI k) 7 = true then some (v 1 (nI k).toNatClampNeg, up1 v 1 (nI k).toNatClampNeg x2) else none else none else some (-2, v)) = some (x, v') ∧ (gB (fX6_in u x2 0 B) fun y4 v5 => if y4 = 0 then some (-2, v5) else if gin (nI k) 7 = true then if gin (nI k) 7 = true then some (v5 1 (nI k).toNatClampNeg, up1 v5 1 (nI k).toNatClampNeg x2) else none else none) = some (x, u') ∧ RelE v' u' := by
      intro B hB
      by_cases hv : (0 : Int32) ≤ x2 ∧ x2 ≤ B
      · rw [if_neg (Int32.not_lt.mpr hv.1), if_pos hv.2, if_pos gk, if_pos gk, mInT hv, gB_some, if_neg ne10, if_pos gk, if_pos gk, ck, a1]
        refine ⟨_, _, _, rfl, rfl, n, nt, t, tc, tb, ?_⟩
        have e0 := Int32.le_iff_toInt_le.mp hv.1
        have e1 := Int32.le_iff_toInt_le.mp hv.2
        rw [i32_0] at e0
        rw [up1_def, up1_def, a1]
        rw [a1] at a2 a3
        obtain ⟨r1, r2, r3, r4, r5⟩ := a2
        refine Rel_row hR ⟨fun j hj => ?_, ?_, ?_, ?_, Z7_upd r5 hk⟩ ?_
        · by_cases e : j = k
          · rw [e, upd_eq]; omega
          · rw [upd_ne e]; exact r1 j hj
        · by_cases e : 4 = k
          · rw [← e, upd_eq]; omega
          · rw [upd_ne e]; exact r2
        · by_cases e : 5 = k
          · rw [← e, upd_eq]; omega
          · rw [upd_ne e]; exact r3
        · by_cases e : 6 = k
          · rw [← e, upd_eq]; omega
          · rw [upd_ne e]; exact r4
        · by_cases e : 6 = k
          · rw [← e, upd_eq]; omega
          · rw [upd_ne e]; exact a3
      · rw [mInF hv, gB_some, if_pos rfl]
        by_cases h2 : x2 < 0
        · rw [if_pos h2]
          exact ⟨_, _, _, rfl, rfl, n, nt, t, tc, tb, hR⟩
        · rw [if_neg h2, if_neg (fun z => hv ⟨Int32.not_lt.mp h2, z⟩)]
          exact ⟨_, _, _, rfl, rfl, n, nt, t, tc, tb, hR⟩
    by_cases k4 : nI k = 4
    · rw [if_pos k4, if_pos k4, gB_some]
      exact fin 99 ⟨by decide, fun _ => by decide, fun _ => by decide⟩
    · rw [if_neg k4, if_neg k4]
      by_cases k6 : nI k = 6
      · rw [if_pos k6, if_pos k6, gB_some]
        exact fin 99 ⟨by decide, fun _ => by decide, fun _ => by decide⟩
      · rw [if_neg k6, if_neg k6, gB_some]
        exact fin 999 ⟨by decide, fun e => absurd (by rw [e]; rfl) k4, fun e => absurd (by rw [e]; rfl) k6⟩
  · rw [mInF hx, gB_some, if_pos rfl]
    by_cases h1 : x1 < 0
    · rw [if_pos h1]
      exact ⟨_, _, _, rfl, rfl, n, nt, t, tc, tb, hR⟩
    · rw [if_neg h1, if_neg]
      · exact ⟨_, _, _, rfl, rfl, n, nt, t, tc, tb, hR⟩
      · intro h7
        refine hx ⟨Int32.not_lt.mp h1, ?_⟩
        rw [Int32.lt_iff_toInt_lt, show (7 : Int32).toInt = 7 from rfl] at h7
        rw [Int32.le_iff_toInt_le, show (6 : Int32).toInt = 6 from rfl]
        omega
