/-! when: both sides -/
theorem whenL {x1 : Int32} {u : gV} {n nt t : Nat} {tc tb : Nat → Nat → Nat} : ∀ (k i fuel : Nat) (a b : Int32) (v w : gV), k < fuel → i + k = 14 → Rel v u n nt t tc tb → sameM u (up1 w 1 6 (u 1 6)) → ∃ x v' u', fX5_when_19 fuel v x1 a b (nI i) = some (x, v') ∧ fX6_when_28 fuel w x1 (u 1 6) b a (nI i) = some (x, u') ∧ RelE v' u' := by
  intro k
  induction k with
  | zero =>
    intro i fuel a b v w hf hi hR hJ
    obtain ⟨q, rfl⟩ : ∃ q, fuel = q + 1 := ⟨fuel - 1, by omega⟩
    obtain rfl : i = 14 := by omega
    obtain ⟨hB, hM, ⟨-, -, a8, -, a12, a13⟩, -⟩ := id hR
    rw [fX5_when_19, fX6_when_28, if_pos (show (14 : Int32) ≤ nI 14 by decide), if_pos (show (13 : Int32) < nI 14 by decide)]
    have hE : RelE v (up1 w 1 6 (u 1 6)) := ⟨n, nt, t, tc, tb, Rel_same ⟨fun _ _ _ _ _ => rfl, fun _ _ => rfl, a12, a13⟩ hJ hR⟩
    by_cases c1 : x1 = 0
    · rw [if_pos c1, if_pos c1]; exact ⟨_, _, _, rfl, rfl, hE⟩
    · rw [if_neg c1, if_neg c1]; exact ⟨_, _, _, rfl, rfl, hE⟩
  | succ k ih =>
    intro i fuel a b v w hf hi hR hJ
    obtain ⟨q, rfl⟩ : ∃ q, fuel = q + 1 := ⟨fuel - 1, by omega⟩
    obtain ⟨hB, hM, ⟨⟨a1, a2, a3⟩, -, a8, ⟨a9, a10, a11⟩, -⟩, -⟩ := id hR
    have hT := nI_toInt (show i < 2 ^ 31 by omega)
    rw [a1] at a2 a3
    have d0 := a2.2.2.2.1.1
    have ds : (u 1 6 + nI i).toInt = (u 1 6).toInt + i := by rw [i32_add (by omega) (by omega), hT]
    obtain ⟨c, v1, v', b1, b2, b3, b4, b5, b6⟩ := cThinkD hR (-1) (nI i) hM.2.2.1.2.1 (by omega) (by omega)
    obtain ⟨w', e1, e2⟩ := mThinkD (y := u 1 6 + nI i) hR hJ (by omega) (by omega)
    rw [fX5_when_19, fX6_when_28, if_neg (nI_nleL (x := 14) (a := 14) rfl rfl (by omega) (by decide)), if_neg (nI_nltL (x := 13) (a := 13) rfl rfl (by omega) (by decide)), b1, gB_some, up1_ne (show (0 : Nat) ≠ 2 by decide), b2, a10, b3, gB_some, e1, gB_some]
    unfold fX5_when_73 fX6_when_71 fX6_when_86
    rw [nI_1, b5]
    by_cases c1 : mEnd (u 2) (u 3) (u 4) (u 5) (-1) n (LW (tc t) (tb t) 0) (upd (u 1) 6 (u 1 6 + nI i)) 5 ≤ a
    · rw [if_pos c1, if_pos c1, if_pos c1]
      exact ih (i + 1) q _ _ v' w' (by omega) (by omega) b4 e2
    · rw [if_neg c1, if_neg c1, if_neg c1]
      exact ih (i + 1) q _ _ v' w' (by omega) (by omega) b4 e2
theorem op_when {v u : gV} (h : RelE v u) (x1 : Int32) : ∃ x v' u', fX5_when v x1 = some (x, v') ∧ fX6_when u x1 = some (x, u') ∧ RelE v' u' := by
  have hE := h
  obtain ⟨n, nt, t, tc, tb, hR⟩ := h
  unfold fX5_when fX6_when
  rw [show (1 : Int32) = nI 1 from rfl]
  by_cases hx : ∃ k, k < 1 + 1 ∧ x1 = nI k
  · obtain ⟨k, hk, rfl⟩ := hx
    rw [good_le (by decide) hk, mInT ((rngC (by decide)).mpr ⟨k, hk, rfl⟩), gB_some, if_neg ne10]
    refine whenL 14 0 2000 (-1) 0 v u (by omega) (by omega) hR ?_
    rw [up1_same]
    exact sameM_rf
  · rw [bad_le (by decide) hx, mInF (fun z => hx ((rngC (by decide)).mp z)), gB_some, if_pos rfl]
    exact ⟨_, _, _, rfl, rfl, hE⟩
