/-! copy: both sides -/
def cF (g : Nat → Int32) (A B lo hi : Nat) : Nat → Int32 := fun j => if B + lo ≤ j ∧ j < B + hi then g (A + (j - B)) else g j
theorem cF_step {g : Nat → Int32} {A B lo hi k : Nat} {x : Int32} {lo' hi' : Nat} (hx : x = g (A + k)) (h : ∀ j, (lo' ≤ j ∧ j < hi') ↔ (j = k ∨ (lo ≤ j ∧ j < hi))) : upd (cF g A B lo hi) (B + k) x = cF g A B lo' hi' := by
  funext j
  unfold cF
  by_cases e : j = B + k
  · rw [e, upd_eq, if_pos (by have := (h k).mpr (Or.inl rfl); omega), hx]
    congr 1
    omega
  · rw [upd_ne e]
    by_cases c : B + lo ≤ j ∧ j < B + hi
    · rw [if_pos c, if_pos (by have := (h (j - B)).mpr (Or.inr (by omega)); omega)]
    · rw [if_neg c, if_neg (fun z => by have := (h (j - B)).mp (by omega); omega)]
theorem cF_nil {g : Nat → Int32} {A B i : Nat} : cF g A B i i = g := by
  funext j
  unfold cF
  rw [if_neg (by omega)]
theorem cpyUp {u : gV} {g : Nat → Int32} {A B c : Nat} (hB : B ≤ A) (hA : A + c ≤ 160) : ∀ (k i fuel : Nat), k < fuel → i + k = c → fX6_copy_147 fuel (up2 u 12 (cF g A B 0 i)) (nI c) (nI A) (nI B) (nI i) = some (nI c, up2 u 12 (cF g A B 0 c)) := by
  intro k
  induction k with
  | zero =>
    intro i fuel hf hi
    obtain ⟨q, rfl⟩ : ∃ q, fuel = q + 1 := ⟨fuel - 1, by omega⟩
    obtain rfl : i = c := by omega
    rw [fX6_copy_147, if_pos (nI_yleL rfl rfl (by omega) (by omega))]
  | succ k ih =>
    intro i fuel hf hi
    obtain ⟨q, rfl⟩ : ∃ q, fuel = q + 1 := ⟨fuel - 1, by omega⟩
    rw [fX6_copy_147, if_neg (nI_nleL rfl rfl (by omega) (by omega)), if_pos (nI_yleL rfl rfl hB (by omega))]
    unfold fX6_copy_173
    rw [nI_add, nI_add, if_pos (gin_nI (by omega) (by decide)), if_pos (gin_nI (by omega) (by decide)), nI_clamp (by omega), nI_clamp (by omega), nI_1, up2_eq, up1_up2, cF_step (lo' := 0) (hi' := i + 1) (by unfold cF; rw [if_neg (by omega)]) (fun j => by omega)]
    exact ih (i + 1) q (by omega) (by omega)
theorem cpyDn {u : gV} {g : Nat → Int32} {A B c : Nat} (hB : A < B) (hA : B + c ≤ 160) : ∀ (k i fuel : Nat), k < fuel → i + k = c → fX6_copy_147 fuel (up2 u 12 (cF g A B (c - i) c)) (nI c) (nI A) (nI B) (nI i) = some (nI c, up2 u 12 (cF g A B 0 c)) := by
  intro k
  induction k with
  | zero =>
    intro i fuel hf hi
    obtain ⟨q, rfl⟩ : ∃ q, fuel = q + 1 := ⟨fuel - 1, by omega⟩
    obtain rfl : i = c := by omega
    rw [fX6_copy_147, if_pos (nI_yleL rfl rfl (by omega) (by omega)), Nat.sub_self]
  | succ k ih =>
    intro i fuel hf hi
    obtain ⟨q, rfl⟩ : ∃ q, fuel = q + 1 := ⟨fuel - 1, by omega⟩
    rw [fX6_copy_147, if_neg (nI_nleL rfl rfl (by omega) (by omega)), if_neg (nI_nleL rfl rfl (by omega) (by omega))]
    unfold fX6_copy_173
    rw [show nI c - 1 = nI (c - 1) from pk_sub (b := 1) (by omega), pk_sub (by omega), nI_add, nI_add, if_pos (gin_nI (by omega) (by decide)), if_pos (gin_nI (by omega) (by decide)), nI_clamp (by omega), nI_clamp (by omega), nI_1, up2_eq, up1_up2, cF_step (lo' := c - (i + 1)) (hi' := c) (by unfold cF; rw [if_neg (by omega)]) (fun j => by omega)]
    exact ih (i + 1) q (by omega) (by omega)
theorem cpyAll {u : gV} {A B c : Nat} (h1 : A + c ≤ 160) (h2 : B + c ≤ 160) : fX6_copy_147 2000 u (nI c) (nI A) (nI B) 0 = some (nI c, up2 u 12 (cF (u 12) A B 0 c)) := by
  by_cases h : B ≤ A
  · have := cpyUp (u := u) (g := u 12) h h1 c 0 2000 (by omega) (by omega)
    rwa [cF_nil, up2_self] at this
  · have := cpyDn (u := u) (g := u 12) (show A < B by omega) h2 c 0 2000 (by omega) (by omega)
    rwa [Nat.sub_zero, cF_nil, up2_self] at this
theorem op_copy {v u : gV} (h : RelE v u) (x1 x2 x3 x4 x5 : Int32) : ∃ x v' u', fX5_copy v x1 x2 x3 x4 x5 = some (x, v') ∧ fX6_copy u x1 x2 x3 x4 x5 = some (x, u') ∧ RelE v' u' := by
  have hE := h
  obtain ⟨n, nt, t, tc, tb, hR⟩ := h
  unfold fX5_copy fX6_copy
  by_cases hx : ∃ s, s < 4 ∧ x1 = nI s
  · obtain ⟨s, hs, rfl⟩ := hx
    rw [cIsSheet hs, mIn03T hs, gB_some, gB_some, if_neg ne10, if_neg ne10]
    by_cases hy : ∃ s, s < 4 ∧ x3 = nI s
    · obtain ⟨r, hr, rfl⟩ := hy
      obtain ⟨h1, h2, z, q1, q2, q3, q4, q5⟩ := hR.2.2.2.2.2 s hs
      obtain ⟨j1, j2, y, p1, p2, p3, p4, p5⟩ := hR.2.2.2.2.2 r hr
      have gs : gin (nI s) 4 = true := gin_nI hs (by decide)
      have gr : gin (nI r) 4 = true := gin_nI hr (by decide)
      rw [cIsSheet hr, mIn03T hr, gB_some, gB_some, if_neg ne10, if_neg ne10, if_pos gs, if_pos gs, if_pos gs, if_pos gs, nI_clamp (show s < 2 ^ 31 by omega), nI_clamp (show r < 2 ^ 31 by omega), ← h1, ← j1, q3, p3]
      have hne : ∀ {s : Nat}, (hs : s < 4) → (v 15 s = -1 ∧ fX2_refusal v (nI s) = some (-11, v)) ∨ (v 15 s ≠ -1 ∧ fX2_refusal v (nI s) = some (0, v)) := by
        intro s hs
        rcases refusal hR (nI s) with ⟨hx, -⟩ | ⟨s', hs', es, ⟨c, r1, -⟩ | ⟨c, r1, -⟩⟩
        · exact absurd ⟨s, hs, rfl⟩ hx
        · have : s = s' := (nI_eq (by omega) (by omega)).mp es
          subst this
          exact Or.inl ⟨c, r1⟩
        · have : s = s' := (nI_eq (by omega) (by omega)).mp es
          subst this
          exact Or.inr ⟨c, r1⟩
      rcases hne hs with ⟨c, r1⟩ | ⟨c, r1⟩
      · rw [r1, gB_some, if_neg (by decide), if_pos c]
        exact ⟨_, _, _, rfl, rfl, hE⟩
      · rw [r1, gB_some, if_pos rfl, if_neg c, if_pos gr]
        rcases hne hr with ⟨d, r2⟩ | ⟨d, r2⟩
        · rw [r2, gB_some, if_neg (by decide), if_pos d]
          exact ⟨_, _, _, rfl, rfl, hE⟩
        · rw [r2, gB_some, if_pos rfl, if_neg d, if_pos gr, if_pos gr, if_pos gs, if_pos gr]
          by_cases e : v 15 s = v 15 r
          · rw [if_pos e, if_pos e, cSize hs, gB_some, cSize hr, gB_some, q2, p2]
            have sz : ∀ {z p : Nat}, z ≤ 40 → p < 2 ^ 31 → (nI z - nI p).toInt = (z : Int) - (p : Int) := by
              intro z p hz hp
              rw [i32_sub (by rw [nI_toInt (by omega), nI_toInt hp]; omega) (by rw [nI_toInt (by omega), nI_toInt hp]; omega), nI_toInt (by omega), nI_toInt hp]
            by_cases good : ∃ p k c, p + c ≤ z ∧ k + c ≤ y ∧ x2 = nI p ∧ x4 = nI k ∧ x5 = nI c
            · obtain ⟨p, k, c, g1, g2, rfl, rfl, rfl⟩ := good
              have t1 : ¬ nI z - nI p < nI c := by rw [Int32.lt_iff_toInt_lt, sz q1 (by omega), nI_toInt (by omega)]; omega
              have t2 : nI c ≤ nI y - nI k := by rw [Int32.le_iff_toInt_le, sz p1 (by omega), nI_toInt (by omega)]; omega
              have gc : gcp (nI p) (nI k) (nI c) 40 40 = true := by
                unfold gcp
                refine decide_eq_true ⟨nI_pos (by omega), nI_pos (by omega), nI_pos (by omega), ?_, ?_⟩
                · rw [nI_clamp (by omega), nI_clamp (by omega)]; omega
                · rw [nI_clamp (by omega), nI_clamp (by omega)]; omega
              have ca := cpyAll (u := u) (A := 40 * s + p) (B := 40 * r + k) (c := c) (by omega) (by omega)
              rw [if_neg (nI_pos (by omega)), if_neg (nI_pos (by omega)), if_pos (nI_pos' (by omega)), if_neg t1, if_pos t2, if_pos gs, if_pos gr, if_pos gc, if_neg (nI_pos (by omega)), if_neg (nI_pos (by omega)), if_neg (nI_pos (by omega)), if_neg (nI_nltL rfl rfl (by omega) (by omega)), if_neg (nI_nltL rfl rfl (by omega) (by omega)), if_neg t1, if_pos gr, if_pos t2, nI_40, nI_40, ca, nI_clamp (show p < 2 ^ 31 by omega), nI_clamp (show k < 2 ^ 31 by omega), nI_clamp (show c < 2 ^ 31 by omega)]
              refine ⟨_, _, _, rfl, rfl, n, nt, t, tc, tb, Rel_cells hR hr p1 p2 (fun i hi => ?_) (fun j hj => ?_)⟩
              · unfold cF
                by_cases w : k ≤ i ∧ i < k + c
                · rw [pk_cpy_in w.1 w.2, if_pos (by omega), q5 _ (by omega)]
                  congr 1
                  omega
                · rw [pk_cpy_out (by omega), if_neg (by omega), p5 i hi]
              · unfold cF
                rw [if_neg (by omega)]
            · have bad : ∀ p k c, p < 2 ^ 31 → k < 2 ^ 31 → x2 = nI p → x4 = nI k → x5 = nI c → ¬ (p + c ≤ z ∧ k + c ≤ y) := fun p k c _ _ e1 e2 e3 w => good ⟨p, k, c, w.1, w.2, e1, e2, e3⟩
              have ex : ∀ x : Int32, ¬ x < 0 → ∃ k, k < 2 ^ 31 ∧ x = nI k := fun x hx => by
                rw [Int32.lt_iff_toInt_lt, i32_0] at hx
                exact nI_ex (n := 2 ^ 31) (by omega) (i32_lt31 x)
              by_cases a2 : x2 < 0
              · rw [if_pos a2, if_pos a2]
                by_cases a5 : x5 < 0
                · rw [if_pos a5]; exact ⟨_, _, _, rfl, rfl, hE⟩
                · rw [if_neg a5]; exact ⟨_, _, _, rfl, rfl, hE⟩
              · rw [if_neg a2, if_neg a2]
                by_cases a4 : x4 < 0
                · rw [if_pos a4, if_pos a4]
                  by_cases a5 : x5 < 0
                  · rw [if_pos a5]; exact ⟨_, _, _, rfl, rfl, hE⟩
                  · rw [if_neg a5]; exact ⟨_, _, _, rfl, rfl, hE⟩
                · rw [if_neg a4, if_neg a4]
                  by_cases a5 : x5 < 0
                  · rw [if_neg (show ¬ 0 ≤ x5 by rw [Int32.lt_iff_toInt_lt] at a5; rw [Int32.le_iff_toInt_le]; omega), if_pos a5]
                    exact ⟨_, _, _, rfl, rfl, hE⟩
                  · obtain ⟨p, hp, rfl⟩ := ex x2 a2
                    obtain ⟨k, hk, rfl⟩ := ex x4 a4
                    obtain ⟨c, hc, rfl⟩ := ex x5 a5
                    have hb := bad p k c hp hk rfl rfl rfl
                    rw [if_pos (nI_pos' hc), if_neg a5]
                    by_cases t1 : nI z - nI p < nI c
                    · rw [if_pos t1, if_pos t1, ite_same]
                      by_cases w : nI z < nI p
                      · rw [if_pos w]; exact ⟨_, _, _, rfl, rfl, hE⟩
                      · rw [if_neg w]; exact ⟨_, _, _, rfl, rfl, hE⟩
                    · have t2 : ¬ nI c ≤ nI y - nI k := by
                        rw [Int32.lt_iff_toInt_lt, sz q1 hp, nI_toInt hc] at t1
                        rw [Int32.le_iff_toInt_le, sz p1 hk, nI_toInt hc]
                        omega
                      rw [if_neg t1, if_neg t1, if_neg t2, if_neg t2, if_pos gr, ite_same]
                      by_cases w : nI z < nI p
                      · rw [if_pos w]; exact ⟨_, _, _, rfl, rfl, hE⟩
                      · rw [if_neg w]; exact ⟨_, _, _, rfl, rfl, hE⟩
          · rw [if_neg e, if_neg e]
            exact ⟨_, _, _, rfl, rfl, hE⟩
    · rw [cIsSheetF hy, mIn03F hy, gB_some, gB_some, if_pos rfl, if_pos rfl]
      exact ⟨_, _, _, rfl, rfl, hE⟩
  · rw [cIsSheetF hx, mIn03F hx, gB_some, gB_some, if_pos rfl, if_pos rfl]
    exact ⟨_, _, _, rfl, rfl, hE⟩
