/-! image, back: both sides -/
theorem cImage {v : gV} : fX5_image v = some (v 4 4, up1 (up1 (up1 (up2 (up2 (up2 v 17 (va_cpy (v 1) (v 17) 0 0 7)) 18 (va_cpy (v 9) (v 18) 0 0 5)) 19 (va_cpy (v 12) (v 19) 0 0 5)) 8 3 (v 4 4)) 8 4 (v 0 9)) 8 5 1) := rfl
theorem cBack {v : gV} : fX5_back v = if v 8 5 = 0 then some (-3, v) else some (v 8 3, up1 (up1 (up2 (up2 (up2 v 1 (va_cpy (v 17) (v 1) 0 0 7)) 9 (va_cpy (v 18) (v 9) 0 0 5)) 12 (va_cpy (v 19) (v 12) 0 0 5)) 4 4 (v 8 3)) 0 9 (v 8 4)) := rfl
theorem sb_cpy0' {f g : Nat → Int32} {n j : Nat} (h : j < n) : va_cpy f g 0 0 n j = f j := by
  rw [pk_cpy_in (Nat.zero_le j) (by omega), Nat.sub_zero, Nat.zero_add]
theorem Rel_im {v v' u u' : gV} {n nt t : Nat} {tc tb : Nat → Nat → Nat} (hv : ∀ j, ¬ (j = 8 ∨ 17 ≤ j ∧ j ≤ 19) → v' j = v j) (hu : ∀ j, ¬ (j = 0 ∨ j = 9) → u' j = u j) (hu0 : ∀ k, ¬ (13 ≤ k ∧ k ≤ 15) → u' 0 k = u 0 k) (hI : RelI v' u' n nt) (h : Rel v u n nt t tc tb) : Rel v' u' n nt t tc tb := by
  obtain ⟨⟨b1, b2, b3, b4⟩, ⟨m1, m2, ⟨m3, m5, m6⟩, m4⟩, ⟨⟨a1, a2, a3⟩, ⟨a4, a5, a6, a7⟩, a8, ⟨a9, a10, a11⟩, a12, a13⟩, ⟨⟨q, t1, t2, t3, t4⟩, t5⟩, -, hS⟩ := h
  refine ⟨⟨?_, ?_, b3, fun t ht => ⟨(b4 t ht).1, ?_, ?_⟩⟩, ⟨?_, ?_, ⟨m3, m5, ?_⟩, fun t ht => ⟨(m4 t ht).1, ?_, ?_⟩⟩, ⟨⟨?_, ?_, ?_⟩, ⟨?_, ?_, ?_, ?_⟩, ?_, ⟨?_, ?_, ?_⟩, ?_, ?_⟩, ⟨⟨q, t1, ?_, ?_, ?_⟩, ?_⟩, hI, ?_⟩
  · rw [hv 4 (by omega)]; exact b1
  · rw [hv 9 (by omega), hv 10 (by omega), hv 11 (by omega), hv 12 (by omega)]; exact b2
  · rw [hv (43 + t) (by omega)]; exact (b4 t ht).2.1
  · rw [hv (37 + t) (by omega)]; exact (b4 t ht).2.2
  · rw [hu0 1 (by omega)]; exact m1
  · rw [hu 2 (by omega), hu 3 (by omega), hu 4 (by omega), hu 5 (by omega)]; exact m2
  · rw [hu0 12 (by omega)]; exact m6
  · rw [hu 8 (by omega)]; exact (m4 t ht).2.1
  · rw [hu 7 (by omega)]; exact (m4 t ht).2.2
  · rw [hv 1 (by omega), hu 1 (by omega)]; exact a1
  · rw [hv 1 (by omega)]; exact a2
  · rw [hv 1 (by omega)]; exact a3
  · rw [hv 9 (by omega), hu 2 (by omega)]; exact a4
  · rw [hv 10 (by omega), hu 3 (by omega)]; exact a5
  · rw [hv 11 (by omega), hu 4 (by omega)]; exact a6
  · rw [hv 12 (by omega), hu 5 (by omega)]; exact a7
  · rw [hu0 6 (by omega)]; exact a8
  · rw [hv 0 (by omega)]; exact a9
  · rw [hv 0 (by omega)]; exact a10
  · rw [hu0 11 (by omega)]; exact a11
  · rw [hv 2 (by omega)]; exact a12
  · intro d hd; rw [hv (20 + d) (by omega)]; exact a13 d hd
  · rw [hv 5 (by omega)]; exact t2
  · rw [hu0 8 (by omega)]; exact t3
  · rw [hv 13 (by omega), hu 6 (by omega)]; exact t4
  · rw [hu 14 (by omega)]; exact t5
  · intro s hs
    rw [hv 15 (by omega), hv 16 (by omega), hv (27 + s) (by omega), hu 10 (by omega), hu 11 (by omega), hu 12 (by omega)]
    exact hS s hs
theorem im49 {u : gV} : ∀ (k i fuel : Nat) (g : Nat → Int32), k < fuel → i + k = 5 → (∀ j, j < i → g (7 + j) = u 2 j ∧ g (12 + j) = u 5 j) → ∃ g', fX6_image_49 fuel (up2 u 9 g) (nI i) = some (u 0 1, up2 u 9 g') ∧ (∀ j, j < 5 → g' (7 + j) = u 2 j ∧ g' (12 + j) = u 5 j) ∧ ∀ j, j < 7 → g' j = g j := by
  intro k
  induction k with
  | zero =>
    intro i fuel g hf hi hg
    obtain ⟨q, rfl⟩ : ∃ q, fuel = q + 1 := ⟨fuel - 1, by omega⟩
    obtain rfl : i = 5 := by omega
    rw [fX6_image_49, if_pos (show (5 : Int32) ≤ nI 5 by decide), up2_ne (by decide)]
    exact ⟨g, rfl, hg, fun _ _ => rfl⟩
  | succ k ih =>
    intro i fuel g hf hi hg
    obtain ⟨q, rfl⟩ : ∃ q, fuel = q + 1 := ⟨fuel - 1, by omega⟩
    have e7 : 7 + nI i = nI (7 + i) := by rw [show (7 : Int32) = nI 7 from rfl, nI_add]
    have e12 : 12 + nI i = nI (12 + i) := by rw [show (12 : Int32) = nI 12 from rfl, nI_add]
    rw [fX6_image_49, if_neg (nI_nleL (x := 5) (a := 5) rfl rfl (by omega) (by decide)), e7, e12, if_pos (gin_nI (by omega) (by decide)), if_pos (gin_nI (by omega) (by decide)), if_pos (gin_nI (by omega) (by decide)), if_pos (gin_nI (by omega) (by decide)), nI_clamp (by omega), nI_clamp (by omega), nI_clamp (by omega), nI_1, up1_up2, up1_up2, up2_ne (show 2 ≠ 9 by decide), up2_ne (show 5 ≠ 9 by decide)]
    obtain ⟨g', e1, e2, e3⟩ := ih (i + 1) q (upd (upd g (7 + i) (u 2 i)) (12 + i) (u 5 i)) (by omega) (by omega) (fun j hj => by
      by_cases e : j = i
      · subst e
        rw [upd_eq, upd_ne (by omega), upd_eq]
        exact ⟨rfl, rfl⟩
      · rw [upd_ne (by omega), upd_ne (by omega), upd_ne (by omega), upd_ne (by omega)]
        exact hg j (by omega))
    exact ⟨g', e1, e2, fun j hj => by rw [e3 j hj, upd_ne (by omega), upd_ne (by omega)]⟩
theorem im23 {u : gV} : ∀ (k i fuel : Nat) (g : Nat → Int32), k < fuel → i + k = 7 → (∀ j, j < i → g j = u 1 j) → ∃ g', fX6_image_23 fuel (up2 u 9 g) (nI i) = some (u 0 1, up2 u 9 g') ∧ (∀ j, j < 7 → g' j = u 1 j) ∧ ∀ j, j < 5 → g' (7 + j) = u 2 j ∧ g' (12 + j) = u 5 j := by
  intro k
  induction k with
  | zero =>
    intro i fuel g hf hi hg
    obtain ⟨q, rfl⟩ : ∃ q, fuel = q + 1 := ⟨fuel - 1, by omega⟩
    obtain rfl : i = 7 := by omega
    obtain ⟨g', e1, e2, e3⟩ := im49 (u := u) 5 0 2000 g (by omega) (by omega) (fun j hj => absurd hj (Nat.not_lt_zero j))
    rw [fX6_image_23, if_pos (show (7 : Int32) ≤ nI 7 by decide)]
    exact ⟨g', e1, fun j hj => by rw [e3 j hj, hg j hj], e2⟩
  | succ k ih =>
    intro i fuel g hf hi hg
    obtain ⟨q, rfl⟩ : ∃ q, fuel = q + 1 := ⟨fuel - 1, by omega⟩
    rw [fX6_image_23, if_neg (nI_nleL (x := 7) (a := 7) rfl rfl (by omega) (by decide)), if_pos (gin_nI (by omega) (by decide)), if_pos (gin_nI (by omega) (by decide)), nI_clamp (by omega), nI_1, up1_up2, up2_ne (show 1 ≠ 9 by decide)]
    exact ih (i + 1) q (upd g i (u 1 i)) (by omega) (by omega) (fun j hj => by
      by_cases e : j = i
      · rw [e, upd_eq]
      · rw [upd_ne e]; exact hg j (by omega))
theorem op_image {v u : gV} (h : RelE v u) : ∃ x v' u', fX5_image v = some (x, v') ∧ fX6_image u = some (x, u') ∧ RelE v' u' := by
  obtain ⟨n, nt, t, tc, tb, hR⟩ := h
  obtain ⟨⟨b1, b2, b3, b4⟩, ⟨m1, m2, ⟨m3, m5, m6⟩, m4⟩, ⟨⟨a1, a2, a3⟩, ⟨a4, a5, a6, a7⟩, a8, ⟨a9, a10, a11⟩, a12, a13⟩, -, ⟨i1, i2, i3⟩, hS⟩ := id hR
  have hW : ∀ j, j ≠ 0 → (up1 (up1 (up1 u 0 13 1) 0 14 ((up1 u 0 13 1) 0 1)) 0 15 ((up1 (up1 u 0 13 1) 0 14 ((up1 u 0 13 1) 0 1)) 0 12)) j = u j := fun j hj => by rw [up1_ne hj, up1_ne hj, up1_ne hj]
  have hW0 : ∀ k, ¬ (13 ≤ k ∧ k ≤ 15) → (up1 (up1 (up1 u 0 13 1) 0 14 ((up1 u 0 13 1) 0 1)) 0 15 ((up1 (up1 u 0 13 1) 0 14 ((up1 u 0 13 1) 0 1)) 0 12)) 0 k = u 0 k := fun k hk => by
    rw [up1_eq, upd_ne (by omega), up1_eq, upd_ne (by omega), up1_eq, upd_ne (by omega)]
  have w13 : (up1 (up1 (up1 u 0 13 1) 0 14 ((up1 u 0 13 1) 0 1)) 0 15 ((up1 (up1 u 0 13 1) 0 14 ((up1 u 0 13 1) 0 1)) 0 12)) 0 13 = 1 := rfl
  have w14 : (up1 (up1 (up1 u 0 13 1) 0 14 ((up1 u 0 13 1) 0 1)) 0 15 ((up1 (up1 u 0 13 1) 0 14 ((up1 u 0 13 1) 0 1)) 0 12)) 0 14 = u 0 1 := rfl
  have w15 : (up1 (up1 (up1 u 0 13 1) 0 14 ((up1 u 0 13 1) 0 1)) 0 15 ((up1 (up1 u 0 13 1) 0 14 ((up1 u 0 13 1) 0 1)) 0 12)) 0 15 = u 0 12 := rfl
  unfold fX6_image
  generalize up1 (up1 (up1 u 0 13 1) 0 14 ((up1 u 0 13 1) 0 1)) 0 15 ((up1 (up1 u 0 13 1) 0 14 ((up1 u 0 13 1) 0 1)) 0 12) = W at *
  obtain ⟨g, e1, e2, e3⟩ := im23 (u := W) 7 0 2000 (W 9) (by omega) (by omega) (fun j hj => absurd hj (Nat.not_lt_zero j))
  rw [up2_self] at e1
  rw [cImage, show (0 : Int32) = nI 0 from rfl, e1, b1, hW0 1 (by omega), m1, cpy7 (Rw_Z7 a2) i1]
  refine ⟨_, _, _, rfl, rfl, n, nt, t, tc, tb, Rel_im (fun j hj => ?_) (fun j hj => ?_) (fun k hk => ?_) ⟨?_, ?_, ?_⟩ hR⟩
  · rw [up1_ne (by omega), up1_ne (by omega), up1_ne (by omega), up2_ne (by omega), up2_ne (by omega), up2_ne (by omega)]
  · rw [up2_ne (by omega), hW j (by omega)]
  · rw [up2_ne (by omega), hW0 k hk]
  · rw [up1_ne (by omega), up1_ne (by omega), up1_ne (by omega), up2_ne (by omega), up2_ne (by omega), up2_eq]
    exact Rw_Z7 a2
  · rw [up1_eq', up2_ne (by omega), w13]
  · refine Or.inr ⟨up1_eq', n, t, Nat.le_refl _, m5, ⟨?_, ?_⟩, ⟨?_, ?_⟩, ?_, ?_, ?_, ?_⟩
    · rw [up1_eq, upd_ne (by decide), up1_eq, upd_ne (by decide), up1_eq']
    · rw [up2_ne (by omega), w14]; exact m1
    · rw [up1_eq, upd_ne (by decide), up1_eq']; exact a10
    · rw [up2_ne (by omega), w15]; exact m6
    · rw [up1_ne (by omega), up1_ne (by omega), up1_ne (by omega), up2_ne (by omega), up2_ne (by omega), up2_eq]
      exact ⟨a2, a3⟩
    · intro k hk
      rw [up2_eq, up1_ne (by omega), up1_ne (by omega), up1_ne (by omega), up2_ne (by omega), up2_ne (by omega), up2_eq, e2 k hk, hW 1 (by omega), a1]
    · intro k hk
      rw [up2_eq, up1_ne (show 18 ≠ 8 by omega), up1_ne (show 18 ≠ 8 by omega), up1_ne (show 18 ≠ 8 by omega), up1_ne (show 19 ≠ 8 by omega), up1_ne (show 19 ≠ 8 by omega), up1_ne (show 19 ≠ 8 by omega), up2_ne (show 18 ≠ 19 by omega), up2_eq, up2_eq, sb_cpy0' hk, sb_cpy0' hk, (e3 k hk).1, (e3 k hk).2, hW 2 (by omega), hW 5 (by omega), a4, a7]
      exact ⟨rfl, rfl⟩
    · rw [up1_ne (show 18 ≠ 8 by omega), up1_ne (show 18 ≠ 8 by omega), up1_ne (show 18 ≠ 8 by omega), up1_ne (show 19 ≠ 8 by omega), up1_ne (show 19 ≠ 8 by omega), up1_ne (show 19 ≠ 8 by omega), up2_ne (show 18 ≠ 19 by omega), up2_eq, up2_eq, up1_ne (show 10 ≠ 8 by omega), up1_ne (show 10 ≠ 8 by omega), up1_ne (show 10 ≠ 8 by omega), up1_ne (show 11 ≠ 8 by omega), up1_ne (show 11 ≠ 8 by omega), up1_ne (show 11 ≠ 8 by omega)]
      refine ⟨b2.1, fun r hr => ?_⟩
      have h5 := b2.1
      rw [sb_cpy0' (show r < 5 by omega), sb_cpy0' (show r < 5 by omega), up2_ne (by omega), up2_ne (by omega), up2_ne (by omega), up2_ne (by omega), up2_ne (by omega), up2_ne (by omega)]
      exact b2.2 r hr
