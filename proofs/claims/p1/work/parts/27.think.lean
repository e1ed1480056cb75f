/-! moves in thought: a row is taken aside, and laid back -/
theorem Z7_eq {s t : Nat → Int32} (hs : Z7 s) (ht : Z7 t) (h : ∀ k, k < 7 → s k = t k) : s = t := by
  funext k
  by_cases hk : k < 7
  · exact h k hk
  · rw [hs k (by omega), ht k (by omega)]
theorem Rw_Z7 {s : Nat → Int32} (h : Rw s) : Z7 s := h.2.2.2.2
theorem cpy7 {s t : Nat → Int32} (hs : Z7 s) (ht : Z7 t) : va_cpy s t 0 0 7 = s := by
  refine Z7_eq ?_ hs (fun k hk => ?_)
  · intro k hk
    unfold va_cpy
    rw [if_neg (by omega)]
    exact ht k hk
  · unfold va_cpy
    rw [if_pos (by omega), Nat.zero_add, Nat.sub_zero]
theorem cStart {v : gV} (h1 : Z7 (v 1)) (h2 : Z7 (v 2)) : fX5_startThought v = some ((), up2 v 2 (v 1)) := by
  unfold fX5_startThought
  rw [cpy7 h1 h2]
/-- what keeps lays at depth d: the row s over g, from place i on -/
def kF (d : Nat) (s g : Nat → Int32) (i : Nat) : Nat → Int32 := fun j => if 7 * d + i ≤ j ∧ j < 7 * d + 7 then s (j - 7 * d) else g j
theorem nI_7 {d i : Nat} : 7 * nI d + nI i = nI (7 * d + i) := by
  rw [show (7 : Int32) = nI 7 from rfl, pk_mul, nI_add]
theorem mKeepsL {u : gV} {d : Nat} (hd : d < 10) : ∀ (k i fuel : Nat) (g : Nat → Int32), k < fuel → i + k = 7 → fX6_keeps_2 fuel (up2 u 18 g) (nI d) (nI i) = some ((), up2 u 18 (kF d (u 1) g i)) := by
  intro k
  induction k with
  | zero =>
    intro i fuel g hf hi
    obtain ⟨q, rfl⟩ : ∃ q, fuel = q + 1 := ⟨fuel - 1, by omega⟩
    obtain rfl : i = 7 := by omega
    rw [fX6_keeps_2, if_pos (show (7 : Int32) ≤ nI 7 from by decide)]
    refine congrArg (fun f => some ((), up2 u 18 f)) (funext fun j => ?_)
    unfold kF
    rw [if_neg (by omega)]
  | succ k ih =>
    intro i fuel g hf hi
    obtain ⟨q, rfl⟩ : ∃ q, fuel = q + 1 := ⟨fuel - 1, by omega⟩
    rw [fX6_keeps_2, if_neg (nI_nleL (x := 7) (a := 7) rfl rfl (by omega) (by decide)), if_pos (gin_nI (by omega) (by decide)), nI_7, if_pos (gin_nI (by omega) (by decide)), nI_clamp (by omega), nI_clamp (by omega), up1_up2, up2_ne (by decide), nI_1, ih (i + 1) q _ (by omega) (by omega)]
    refine congrArg (fun f => some ((), up2 u 18 f)) (funext fun j => ?_)
    unfold kF
    by_cases e : j = 7 * d + i
    · subst e
      rw [if_neg (by omega), upd_eq, if_pos (by omega), Nat.add_sub_cancel_left]
    · by_cases h1 : 7 * d + i ≤ j ∧ j < 7 * d + 7
      · rw [if_pos h1, if_pos (by omega)]
      · rw [if_neg h1, if_neg (by omega), upd_ne e]
theorem mKeeps {u : gV} {d : Nat} (hd : d < 10) : fX6_keeps u (nI d) = some ((), up2 u 18 (kF d (u 1) (u 18) 0)) := by
  have h := mKeepsL (u := u) hd 7 0 2000 (u 18) (by omega) (by omega)
  rw [up2_self] at h
  exact h
theorem kF_at {d k : Nat} {s g : Nat → Int32} (hk : k < 7) : kF d s g 0 (7 * d + k) = s k := by
  unfold kF
  rw [if_pos (by omega), Nat.add_sub_cancel_left]
theorem kF_ne {d j : Nat} {s g : Nat → Int32} (h : j < 7 * d ∨ 7 * d + 7 ≤ j) : kF d s g 0 j = g j := by
  unfold kF
  rw [if_neg (by omega)]
/-- what laysBack leaves -/
theorem mLaysL {u : gV} {d : Nat} {s0 : Nat → Int32} (hd : d < 10) (h0 : ∀ k, k < 7 → u 18 (7 * d + k) = s0 k) : ∀ (k i fuel : Nat) (g : Nat → Int32), k < fuel → i + k = 7 → (∀ j, j < i → g j = s0 j) → (∀ j, 7 ≤ j → g j = s0 j) → fX6_laysBack_2 fuel (up2 u 1 g) (nI d) (nI i) = some ((), up2 u 1 s0) := by
  intro k
  induction k with
  | zero =>
    intro i fuel g hf hi hg hz
    obtain ⟨q, rfl⟩ : ∃ q, fuel = q + 1 := ⟨fuel - 1, by omega⟩
    obtain rfl : i = 7 := by omega
    rw [fX6_laysBack_2, if_pos (show (7 : Int32) ≤ nI 7 from by decide)]
    refine congrArg (fun f => some ((), up2 u 1 f)) (funext fun j => ?_)
    by_cases hj : j < 7
    · exact hg j hj
    · exact hz j (by omega)
  | succ k ih =>
    intro i fuel g hf hi hg hz
    obtain ⟨q, rfl⟩ : ∃ q, fuel = q + 1 := ⟨fuel - 1, by omega⟩
    rw [fX6_laysBack_2, if_neg (nI_nleL (x := 7) (a := 7) rfl rfl (by omega) (by decide)), nI_7, if_pos (gin_nI (by omega) (by decide)), if_pos (gin_nI (by omega) (by decide)), nI_clamp (by omega), nI_clamp (by omega), up1_up2, up2_ne (by decide), nI_1]
    refine ih (i + 1) q _ (by omega) (by omega) (fun j hj => ?_) (fun j hj => ?_)
    · by_cases e : j = i
      · rw [e, upd_eq]
        exact h0 i (by omega)
      · rw [upd_ne e]
        exact hg j (by omega)
    · rw [upd_ne (by omega)]
      exact hz j hj
theorem mLays {u : gV} {d : Nat} {s0 : Nat → Int32} (hd : d < 10) (h0 : ∀ k, k < 7 → u 18 (7 * d + k) = s0 k) (hz : Z7 s0) (hu : Z7 (u 1)) : fX6_laysBack u (nI d) = some ((), up2 u 1 s0) := by
  have h := mLaysL (u := u) hd h0 7 0 2000 (u 1) (by omega) (by omega) (fun j hj => by omega) (fun j hj => by rw [hz j hj, hu j hj])
  rw [up2_self] at h
  exact h
