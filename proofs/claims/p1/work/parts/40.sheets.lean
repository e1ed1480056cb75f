/-! sheets: both sides -/
theorem up1_eq' {v : gV} {i k : Nat} {x : Int32} : up1 v i k x i k = x := by rw [up1_eq, upd_eq]
theorem Rel_sh {v v' u u' : gV} {n nt t : Nat} {tc tb : Nat → Nat → Nat} (hv : ∀ j, ¬ (j = 15 ∨ j = 16 ∨ 27 ≤ j ∧ j ≤ 30) → v' j = v j) (hu : ∀ j, ¬ (j = 10 ∨ j = 11 ∨ j = 12) → u' j = u j) (hS : RelS v' u') (h : Rel v u n nt t tc tb) : Rel v' u' n nt t tc tb := by
  obtain ⟨⟨b1, b2, b3, b4⟩, ⟨m1, m2, ⟨m3, m5, m6⟩, m4⟩, ⟨⟨a1, a2, a3⟩, ⟨a4, a5, a6, a7⟩, a8, ⟨a9, a10, a11⟩, a12, a13⟩, ⟨⟨q, t1, t2, t3, t4⟩, t5⟩, ⟨i1, i2, i3⟩, -⟩ := h
  refine ⟨⟨?_, ?_, b3, fun t ht => ⟨(b4 t ht).1, ?_, ?_⟩⟩, ⟨?_, ?_, ⟨m3, m5, ?_⟩, fun t ht => ⟨(m4 t ht).1, ?_, ?_⟩⟩, ⟨⟨?_, ?_, ?_⟩, ⟨?_, ?_, ?_, ?_⟩, ?_, ⟨?_, ?_, ?_⟩, ?_, ?_⟩, ⟨⟨q, t1, ?_, ?_, ?_⟩, ?_⟩, ⟨?_, ?_, ?_⟩, hS⟩
  · rw [hv 4 (by omega)]; exact b1
  · rw [hv 9 (by omega), hv 10 (by omega), hv 11 (by omega), hv 12 (by omega)]; exact b2
  · rw [hv (43 + t) (by omega)]; exact (b4 t ht).2.1
  · rw [hv (37 + t) (by omega)]; exact (b4 t ht).2.2
  · rw [hu 0 (by omega)]; exact m1
  · rw [hu 2 (by omega), hu 3 (by omega), hu 4 (by omega), hu 5 (by omega)]; exact m2
  · rw [hu 0 (by omega)]; exact m6
  · rw [hu 8 (by omega)]; exact (m4 t ht).2.1
  · rw [hu 7 (by omega)]; exact (m4 t ht).2.2
  · rw [hv 1 (by omega), hu 1 (by omega)]; exact a1
  · rw [hv 1 (by omega)]; exact a2
  · rw [hv 1 (by omega)]; exact a3
  · rw [hv 9 (by omega), hu 2 (by omega)]; exact a4
  · rw [hv 10 (by omega), hu 3 (by omega)]; exact a5
  · rw [hv 11 (by omega), hu 4 (by omega)]; exact a6
  · rw [hv 12 (by omega), hu 5 (by omega)]; exact a7
  · rw [hu 0 (by omega)]; exact a8
  · rw [hv 0 (by omega)]; exact a9
  · rw [hv 0 (by omega)]; exact a10
  · rw [hu 0 (by omega)]; exact a11
  · rw [hv 2 (by omega)]; exact a12
  · intro d hd; rw [hv (20 + d) (by omega)]; exact a13 d hd
  · rw [hv 5 (by omega)]; exact t2
  · rw [hu 0 (by omega)]; exact t3
  · rw [hv 13 (by omega), hu 6 (by omega)]; exact t4
  · rw [hu 14 (by omega)]; exact t5
  · rw [hv 17 (by omega)]; exact i1
  · rw [hv 8 (by omega), hu 0 (by omega)]; exact i2
  · rw [hv 8 (by omega), hv 17 (by omega), hv 18 (by omega), hv 19 (by omega), hv 10 (by omega), hv 11 (by omega), hu 9 (by omega), hu 0 (by omega)]; exact i3
theorem Rel_put {v u : gV} {n nt t s z : Nat} {x : Int32} {f g : Nat → Int32} {tc tb : Nat → Nat → Nat} (h : Rel v u n nt t tc tb) (hs : s < 4) (hx : x = -1 ∨ (0 ≤ x.toInt ∧ x.toInt ≤ 2)) (hz : z ≤ 40) (h0 : x = -1 → z = 0) (hf : ∀ i, i < z → f i = g (40 * s + i)) (hg : ∀ j, j < 40 * s ∨ 40 * s + 40 ≤ j → g j = u 12 j) :
    Rel (up2 (up1 (up1 v 15 s x) 16 s (nI z)) (27 + s) f) (up2 (up1 (up1 u 10 s x) 11 s (nI z)) 12 g) n nt t tc tb := by
  refine Rel_sh (fun j hj => ?_) (fun j hj => ?_) (fun r hr => ?_) h
  · rw [up2_ne (by omega), up1_ne (by omega), up1_ne (by omega)]
  · rw [up2_ne (by omega), up1_ne (by omega), up1_ne (by omega)]
  · obtain ⟨h1, h2, q, q1, q2, q3, q4, q5⟩ := h.2.2.2.2.2 r hr
    by_cases e : r = s
    · subst e
      refine ⟨?_, ?_, z, hz, ?_, ?_, ?_, ?_⟩
      · rw [up2_ne (by omega), up1_ne (by omega), up1_eq', up2_ne (by omega), up1_ne (by omega), up1_eq']
      · rw [up2_ne (by omega), up1_ne (by omega), up1_eq']; exact hx
      · rw [up2_ne (by omega), up1_eq']
      · rw [up2_ne (by omega), up1_eq']
      · rw [up2_ne (by omega), up1_ne (by omega), up1_eq']; exact h0
      · intro i hi
        rw [up2_eq, up2_eq]
        exact hf i hi
    · refine ⟨?_, ?_, q, q1, ?_, ?_, ?_, ?_⟩
      · rw [up2_ne (by omega), up1_ne (by omega), up1_eq, upd_ne e, up2_ne (by omega), up1_ne (by omega), up1_eq, upd_ne e]; exact h1
      · rw [up2_ne (by omega), up1_ne (by omega), up1_eq, upd_ne e]; exact h2
      · rw [up2_ne (by omega), up1_eq, upd_ne e, up1_ne (by omega)]; exact q2
      · rw [up2_ne (by omega), up1_eq, upd_ne e, up1_ne (by omega)]; exact q3
      · rw [up2_ne (by omega), up1_ne (by omega), up1_eq, upd_ne e]; exact q4
      · intro i hi
        rw [up2_ne (by omega), up1_ne (by omega), up1_ne (by omega), up2_eq, hg _ (by omega)]
        exact q5 i hi
theorem Rel_cells {v u : gV} {n nt t s z : Nat} {f g : Nat → Int32} {tc tb : Nat → Nat → Nat} (h : Rel v u n nt t tc tb) (hs : s < 4) (hz40 : z ≤ 40) (hz : v 16 s = nI z) (hf : ∀ i, i < z → f i = g (40 * s + i)) (hg : ∀ j, j < 40 * s ∨ 40 * s + 40 ≤ j → g j = u 12 j) : Rel (up2 v (27 + s) f) (up2 u 12 g) n nt t tc tb := by
  obtain ⟨h1, h2, q, q1, q2, q3, q4, -⟩ := h.2.2.2.2.2 s hs
  have ez : z = q := (nI_eq (by omega) (by omega)).mp (hz.symm.trans q2)
  subst ez
  have hp := Rel_put (x := v 15 s) h hs h2 q1 q4 hf hg
  have e1 : up1 (up1 v 15 s (v 15 s)) 16 s (nI z) = v := by
    rw [up1_same, ← q2, up1_same]
  have e2 : up1 (up1 u 10 s (v 15 s)) 11 s (nI z) = u := by
    rw [h1, up1_same, ← q3, up1_same]
  rw [e1, e2] at hp
  exact hp
theorem cIsSheet {v : gV} {s : Nat} (hs : s < 4) : fX2_isSheet v (nI s) = some (1, v) := by
  unfold fX2_isSheet
  rw [if_neg (nI_pos (by omega)), if_neg (nI_nleL (x := 4) (a := 4) rfl rfl hs (by decide))]
theorem bad_ge {α : Type} {x : Int32} {n : Nat} {A B : α} (hn : n < 2 ^ 31) (h : ¬ ∃ k, k < n ∧ x = nI k) : (if x < 0 then A else if nI n ≤ x then A else B) = A := by
  by_cases c : x < 0
  · rw [if_pos c]
  · rw [if_neg c]
    by_cases d : nI n ≤ x
    · rw [if_pos d]
    · exfalso
      refine nI_out h ?_
      rw [Int32.lt_iff_toInt_lt, i32_0] at c
      rw [Int32.le_iff_toInt_le, nI_toInt (by omega)] at d
      omega
theorem cIsSheetF {v : gV} {x : Int32} (h : ¬ ∃ s, s < 4 ∧ x = nI s) : fX2_isSheet v x = some (0, v) := by
  unfold fX2_isSheet
  exact bad_ge (n := 4) (by decide) h
theorem mIn03T {u : gV} {s : Nat} (hs : s < 4) : fX6_in u (nI s) 0 3 = some (1, u) := mInT ((rngC (n := 3) (by decide)).mpr ⟨s, hs, rfl⟩)
theorem mIn03F {u : gV} {x : Int32} (h : ¬ ∃ s, s < 4 ∧ x = nI s) : fX6_in u x 0 3 = some (0, u) := mInF (fun z => h ((rngC (n := 3) (by decide)).mp z))
theorem refusal {v u : gV} {n nt t : Nat} {tc tb : Nat → Nat → Nat} (h : Rel v u n nt t tc tb) (x1 : Int32) : ((¬ ∃ s, s < 4 ∧ x1 = nI s) ∧ fX2_refusal v x1 = some (-2, v) ∧ fX6_sheetWrong u x1 = some (-2, u)) ∨ ∃ s, s < 4 ∧ x1 = nI s ∧ ((v 15 s = -1 ∧ fX2_refusal v x1 = some (-11, v) ∧ fX6_sheetWrong u x1 = some (-11, u)) ∨ (v 15 s ≠ -1 ∧ fX2_refusal v x1 = some (0, v) ∧ fX6_sheetWrong u x1 = some (0, u))) := by
  by_cases hx : ∃ s, s < 4 ∧ x1 = nI s
  · right
    obtain ⟨s, hs, rfl⟩ := hx
    refine ⟨s, hs, rfl, ?_⟩
    obtain ⟨h1, -⟩ := h.2.2.2.2.2 s hs
    unfold fX2_refusal fX6_sheetWrong
    rw [cIsSheet hs, mIn03T hs, gB_some, gB_some, if_neg ne10, if_neg ne10, if_pos (gin_nI hs (by decide)), if_pos (gin_nI hs (by decide)), nI_clamp (by omega), ← h1]
    by_cases c : v 15 s = -1
    · rw [if_pos c, if_pos c]; exact Or.inl ⟨c, rfl, rfl⟩
    · rw [if_neg c, if_neg c]; exact Or.inr ⟨c, rfl, rfl⟩
  · left
    unfold fX2_refusal fX6_sheetWrong
    rw [cIsSheetF hx, mIn03F hx, gB_some, gB_some, if_pos rfl, if_pos rfl]
    exact ⟨hx, rfl, rfl⟩
