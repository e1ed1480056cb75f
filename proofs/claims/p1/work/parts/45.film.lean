/-! film: the operation -/
theorem op_film {v u : gV} (h : RelE v u) (x1 x2 : Int32) : ∃ x v' u', fX5_film v x1 x2 = some (x, v') ∧ fX6_film u x1 x2 = some (x, u') ∧ RelE v' u' := by
  have hE := h
  obtain ⟨n, nt, t, tc, tb, hR⟩ := h
  unfold fX5_film fX6_film
  by_cases hx : ∃ s, s < 4 ∧ x1 = nI s
  · obtain ⟨s, hs, rfl⟩ := hx
    rw [cIsSheet hs, mIn03T hs, gB_some, gB_some, if_neg ne10, if_neg ne10]
    by_cases hy : ∃ z, z < 40 + 1 ∧ x2 = nI z
    · obtain ⟨z, hz, rfl⟩ := hy
      rw [show (if nI z < 0 then some ((-7 : Int32), v) else if nI z ≤ 40 then gB (fX2_become v (nI s) 2 (nI z)) (fun y4 v5 => gB (fX5_startThought v5) (fun y7 v8 => fX5_film_41 2000 v8 (nI s) (nI z) 0)) else some (-7, v)) = _ from good_le (n := 40) (by decide) hz, mInT (b := 40) ((rngC (n := 40) (by decide)).mpr ⟨z, hz, rfl⟩), gB_some, if_neg ne10]
      obtain ⟨v1, w1, a1, a2, a3, a4, a5, a6⟩ := TJ_start hR
      obtain ⟨f, f1, f2⟩ := cBecome (v := v) (s := s) (z := z) (x := 2) hs (by omega)
      obtain ⟨g', e1, e2, e3⟩ := zeroF (u := u) (s := s) (x2 := nI z) hs 40 0 2000 (u 12) (by omega) (by omega) (fun j hj => absurd hj (Nat.not_lt_zero j))
      rw [up2_self, show (nI 0 : Int32) = 0 from rfl] at e1
      generalize hV : up2 (up1 (up1 v 15 s 2) 16 s (nI z)) (27 + s) f = V at f1
      have V1 : ∀ j, j ≠ 15 → j ≠ 16 → j ≠ 27 + s → V j = v j := fun j a b c => by rw [← hV, up2_ne c, up1_ne b, up1_ne a]
      obtain ⟨-, -, ⟨⟨r1, r2, r3⟩, -, -, -, r12, -⟩, -⟩ := id hR
      have k1 := cStart (v := V) (by rw [V1 1 (by decide) (by decide) (by omega)]; exact Rw_Z7 r2) (by rw [V1 2 (by decide) (by decide) (by omega)]; exact r12)
      have k2 := mKeeps (u := up2 u 12 g') (d := 0) (by decide)
      rw [show (nI 0 : Int32) = 0 from rfl, up2_ne (show (1 : Nat) ≠ 12 by decide), up2_ne (show (18 : Nat) ≠ 12 by decide)] at k2
      have hF : FI v u n nt t tc tb s z 0 (up2 V 2 (V 1)) (up2 (up2 u 12 g') 18 (kF 0 (u 1) (u 18) 0)) (u 1) := by
        refine ⟨TJ_to a3 (fun j hj => ?_) (fun j hj => ?_) ?_ ?_ ?_, fun j a b c d e => ?_, ⟨?_, ?_⟩, fun j a b c d e => ?_, fun j hj => ?_, fun k hk => ?_, fun j hj => absurd hj (Nat.not_lt_zero j)⟩
        · rw [up2_ne (by omega), V1 j (by omega) (by omega) (by omega), a4 j (by omega) (by omega)]
        · rw [up2_ne (by omega), up2_ne (by omega), a5 j (by omega)]
        · rw [up2_eq, V1 1 (by decide) (by decide) (by omega)]; exact r1
        · rw [up2_ne (by decide), up2_ne (by decide)]
        · rw [← r1]; exact r2
        · rw [up2_ne a, V1 j c d e]
        · rw [up2_ne (by decide), ← hV, up2_ne (by omega), up1_ne (by decide), up1_eq]
        · rw [up2_ne (by decide), ← hV, up2_ne (by omega), up1_eq, up1_ne (by decide)]
        · rw [up2_ne d, up2_ne e]
        · rw [up2_ne (by decide), up2_eq]; exact e3 j hj
        · rw [up2_eq]
          have := kF_at (d := 0) (s := u 1) (g := u 18) hk
          rwa [Nat.mul_zero, Nat.zero_add] at this
      rw [f1, gB_some, k1, gB_some, e1, fX6_film_27, if_pos (show (40 : Int32) ≤ 40 by decide), k2, gB_some]
      unfold fX6_film_70
      obtain ⟨x, v2, w2, g1, g2, g3⟩ := filmL hR hs (show z ≤ 40 by omega) z 0 2000 _ _ _ (by omega) (by omega) hF
      rw [show (nI 0 : Int32) = 0 from rfl] at g1 g2
      by_cases e : z ≤ 0
      · rw [if_pos e] at g2
        rw [if_pos (nI_yleL (y := 0) (b := 0) rfl rfl e (by decide))]
        exact ⟨x, v2, w2, g1, g2, n, nt, t, tc, tb, g3⟩
      · rw [if_neg e] at g2
        rw [if_neg (nI_nleL (y := 0) (b := 0) rfl rfl (by omega) (by omega)), (TJ_pick hF.1).2, gB_some]
        exact ⟨x, v2, w2, g1, g2, n, nt, t, tc, tb, g3⟩
    · rw [show (40 : Int32) = nI 40 from rfl, bad_le (by decide) hy, mInF (fun z => hy ((rngC (n := 40) (by decide)).mp z)), gB_some, if_pos rfl]
      exact ⟨_, _, _, rfl, rfl, hE⟩
  · rw [cIsSheetF hx, mIn03F hx, gB_some, gB_some, if_pos rfl, if_pos rfl]
    exact ⟨_, _, _, rfl, rfl, hE⟩
