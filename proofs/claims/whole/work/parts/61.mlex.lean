/-! a step of the reference's reader -/
def mtok (t : Nat) : Int32 := if t = 1 then -1 else if t = 2 then 1 else if t < 300 then nI t else if t < 303 then 3 else if t < 306 then nI (t - 299) else 2
theorem MP_g {u : gV} {T : Nat → Nat} {q : Nat} {g : Nat → Int32} (h : MP u T q) (hg : g 8 = nI q) : MP (up2 u 0 g) T q := ⟨by rw [up2_eq]; exact hg, h.2.1, fun i hi => by rw [up2_ne (by decide)]; exact h.2.2.1 i hi, fun j hj => by rw [up2_ne (by decide)]; exact h.2.2.2 j hj⟩
theorem mLet {u : gV} {c : Nat} (hc : c ≤ 255) : fX6_in u (nI c) 97 122 = some (if lt c = true then 1 else 0, u) := by
  rw [mIn]
  unfold lt
  by_cases h : 97 ≤ c ∧ c ≤ 122
  · rw [if_pos ⟨nI_yleL (x := 97) (a := 97) rfl rfl h.1 (by omega), nI_yleL (y := 122) (b := 122) rfl rfl h.2 (by omega)⟩, if_pos (decide_eq_true h)]
  · rw [if_neg (fun z => h ⟨by
      have := z.1; rw [Int32.le_iff_toInt_le, nI_toInt (by omega), show (97 : Int32).toInt = 97 from rfl] at this; omega, by
      have := z.2; rw [Int32.le_iff_toInt_le, nI_toInt (by omega), show (122 : Int32).toInt = 122 from rfl] at this; omega⟩), if_neg (fun z => h (of_decide_eq_true z))]
theorem mDig {u : gV} {c : Nat} (hc : c ≤ 255) : fX6_in u (nI c) 48 57 = some (if dt c = true then 1 else 0, u) := by
  rw [mIn]
  unfold dt
  by_cases h : 48 ≤ c ∧ c ≤ 57
  · rw [if_pos ⟨nI_yleL (x := 48) (a := 48) rfl rfl h.1 (by omega), nI_yleL (y := 57) (b := 57) rfl rfl h.2 (by omega)⟩, if_pos (decide_eq_true h)]
  · rw [if_neg (fun z => h ⟨by
      have := z.1; rw [Int32.le_iff_toInt_le, nI_toInt (by omega), show (48 : Int32).toInt = 48 from rfl] at this; omega, by
      have := z.2; rw [Int32.le_iff_toInt_le, nI_toInt (by omega), show (57 : Int32).toInt = 57 from rfl] at this; omega⟩), if_neg (fun z => h (of_decide_eq_true z))]
theorem mSkip {u : gV} {T : Nat → Nat} {q : Nat} (h : MP u T q) : ∀ (k p fuel : Nat) (g : Nat → Int32), k < fuel → p + k = q → g 8 = nI q → g 21 = nI p → fX6_next_0 fuel (up2 u 0 g) = fX6_next_52 (up2 u 0 (upd g 21 (nI (er bl T q p)))) := by
  intro k
  induction k with
  | zero =>
    intro p fuel g hf hp h1 h2
    obtain ⟨n, rfl⟩ : ∃ n, fuel = n + 1 := ⟨fuel - 1, by omega⟩
    have hq := h.2.1
    obtain rfl : p = q := by omega
    rw [er_stop (Nat.le_refl _), ← h2, upd_self, fX6_next_0, up2_eq, h1, h2, if_pos (nI_yleL rfl rfl (Nat.le_refl _) (by omega))]
  | succ k ih =>
    intro p fuel g hf hp h1 h2
    obtain ⟨n, rfl⟩ : ∃ n, fuel = n + 1 := ⟨fuel - 1, by omega⟩
    have hq := h.2.1
    obtain ⟨hv, hT⟩ := h.2.2.1 p (by omega)
    have step : bl (T p) = true → fX6_next_39 (fX6_next_0 n) (up2 u 0 g) = fX6_next_52 (up2 u 0 (upd g 21 (nI (er bl T q p)))) := fun c => by
      unfold fX6_next_39
      rw [up2_eq, h2, nI_1, up1_up2, ih (p + 1) n (upd g 21 (nI (p + 1))) (by omega) (by omega) (by rw [upd_ne (by decide)]; exact h1) (by rw [upd_eq]), upd_upd, ← er_go (by omega) c]
    rw [fX6_next_0, up2_eq, h1, h2, if_neg (nI_nleL rfl rfl (by omega) (by omega)), if_pos (gin_nI (by omega) (by decide)), up2_ne (show 6 ≠ 0 by decide), nI_clamp (by omega), hv, if_pos (gin_nI (by omega) (by decide)), show (32 : Int32) = nI 32 from rfl, show (10 : Int32) = nI 10 from rfl]
    by_cases c1 : T p = 32
    · rw [if_pos (nI_yes c1)]
      exact step (decide_eq_true (Or.inl c1))
    · rw [if_neg (nI_neL rfl rfl c1 (by omega) (by decide))]
      by_cases c2 : T p = 10
      · rw [if_pos (nI_yes c2)]
        exact step (decide_eq_true (Or.inr c2))
      · rw [if_neg (nI_neL rfl rfl c2 (by omega) (by decide)), er_no (fun z => (of_decide_eq_true z).elim c1 c2), ← h2, upd_self]
theorem mLets {u : gV} {T : Nat → Nat} {q : Nat} (h : MP u T q) : ∀ (k p fuel : Nat) (g : Nat → Int32), k < fuel → p + k = q → g 8 = nI q → g 21 = nI p → fX6_next_103 fuel (up2 u 0 g) = fX6_next_146 (up2 u 0 (upd g 21 (nI (er lt T q p)))) := by
  intro k
  induction k with
  | zero =>
    intro p fuel g hf hp h1 h2
    obtain ⟨n, rfl⟩ : ∃ n, fuel = n + 1 := ⟨fuel - 1, by omega⟩
    have hq := h.2.1
    obtain rfl : p = q := by omega
    rw [er_stop (Nat.le_refl _), ← h2, upd_self, fX6_next_103, up2_eq, h1, h2, if_pos (nI_yleL rfl rfl (Nat.le_refl _) (by omega))]
  | succ k ih =>
    intro p fuel g hf hp h1 h2
    obtain ⟨n, rfl⟩ : ∃ n, fuel = n + 1 := ⟨fuel - 1, by omega⟩
    have hq := h.2.1
    obtain ⟨hv, hT⟩ := h.2.2.1 p (by omega)
    rw [fX6_next_103, up2_eq, h1, h2, if_neg (nI_nleL rfl rfl (by omega) (by omega)), if_pos (gin_nI (by omega) (by decide)), up2_ne (show 6 ≠ 0 by decide), nI_clamp (by omega), hv, mLet hT, gB_some]
    by_cases c : lt (T p) = true
    · rw [if_pos c, if_neg ne10, up2_eq, h2, nI_1, up1_up2, ih (p + 1) n (upd g 21 (nI (p + 1))) (by omega) (by omega) (by rw [upd_ne (by decide)]; exact h1) (by rw [upd_eq]), upd_upd, ← er_go (by omega) c]
    · rw [if_neg c, if_pos rfl, er_no c, ← h2, upd_self]
theorem mDigs {u : gV} {T : Nat → Nat} {q : Nat} (h : MP u T q) : ∀ (k p i fuel : Nat) (g : Nat → Int32), k < fuel → p + k = q → i ≤ p → g 8 = nI q → g 21 = nI p → ∃ Z, fX6_next_230 fuel (up2 u 0 g) (nI i) = fX6_next_309 (up2 u 0 (upd (upd g 24 Z) 21 (nI (er dt T q p)))) (nI (i + (er dt T q p - p))) ∧ (i + (er dt T q p - p) ≤ 4 → Z = numG T (er dt T q p - p) p (g 24)) := by
  intro k
  induction k with
  | zero =>
    intro p i fuel g hf hp hi h1 h2
    obtain ⟨n, rfl⟩ : ∃ n, fuel = n + 1 := ⟨fuel - 1, by omega⟩
    have hq := h.2.1
    obtain rfl : p = q := by omega
    refine ⟨g 24, ?_, fun _ => ?_⟩
    · rw [er_stop (Nat.le_refl _), upd_self, ← h2, upd_self, fX6_next_230, up2_eq, h1, h2, if_pos (nI_yleL rfl rfl (Nat.le_refl _) (by omega)), Nat.sub_self, Nat.add_zero]
    · rw [er_stop (Nat.le_refl _), Nat.sub_self]; rfl
  | succ k ih =>
    intro p i fuel g hf hp hi h1 h2
    obtain ⟨n, rfl⟩ : ∃ n, fuel = n + 1 := ⟨fuel - 1, by omega⟩
    have hq := h.2.1
    obtain ⟨hv, hT⟩ := h.2.2.1 p (by omega)
    rw [fX6_next_230, up2_eq, h1, h2, if_neg (nI_nleL rfl rfl (by omega) (by omega)), if_pos (gin_nI (by omega) (by decide)), up2_ne (show 6 ≠ 0 by decide), nI_clamp (by omega), hv, mDig hT, gB_some]
    by_cases c : dt (T p) = true
    · obtain ⟨s1, s2, -⟩ := er_spec (P := dt) (T := T) (q := q) (q - (p + 1)) (p + 1) (by omega)
      rw [if_pos c, if_neg ne10, er_go (by omega) c]
      unfold fX6_next_290
      rw [nI_1]
      have go : ∀ z, ∃ Z, fX6_next_230 n (up1 (up1 (up2 u 0 g) 0 24 z) 0 21 ((up1 (up2 u 0 g) 0 24 z) 0 21 + 1)) (nI (i + 1)) = fX6_next_309 (up2 u 0 (upd (upd g 24 Z) 21 (nI (er dt T q (p + 1))))) (nI (i + (er dt T q (p + 1) - p))) ∧ (i + (er dt T q (p + 1) - p) ≤ 4 → Z = numG T (er dt T q (p + 1) - (p + 1)) (p + 1) z) := by
        intro z
        have e2 : up1 (up1 (up2 u 0 g) 0 24 z) 0 21 ((up1 (up2 u 0 g) 0 24 z) 0 21 + 1) = up2 u 0 (upd (upd g 24 z) 21 (nI (p + 1))) := by
          rw [up1_up2, up2_eq, up1_up2, upd_ne (show 21 ≠ 24 by decide), h2, nI_1]
        rw [e2]
        obtain ⟨Z, z1, z2⟩ := ih (p + 1) (i + 1) n (upd (upd g 24 z) 21 (nI (p + 1))) (by omega) (by omega) (by omega) (by rw [upd_ne (by decide), upd_ne (by decide)]; exact h1) (by rw [upd_eq])
        refine ⟨Z, ?_, fun w => ?_⟩
        · rw [z1, upd_comm (show 21 ≠ 24 by decide), upd_upd, upd_upd, show i + 1 + (er dt T q (p + 1) - (p + 1)) = i + (er dt T q (p + 1) - p) by omega]
        · rw [z2 (by omega), upd_ne (show 24 ≠ 21 by decide), upd_eq]
      by_cases c4 : 4 ≤ i
      · rw [if_pos (nI_yleL (x := 4) (a := 4) rfl rfl c4 (by omega))]
        obtain ⟨Z, z1, -⟩ := go 0
        exact ⟨Z, z1, fun w => by omega⟩
      · rw [if_neg (nI_nleL (x := 4) (a := 4) rfl rfl (by omega) (by decide)), up2_eq, h2, if_pos (gin_nI (by omega) (by decide)), up2_ne (show 6 ≠ 0 by decide), nI_clamp (by omega), hv]
        obtain ⟨Z, z1, z2⟩ := go (10 * g 24 + nI (T p) - 48)
        refine ⟨Z, z1, fun w => ?_⟩
        rw [z2 w, show er dt T q (p + 1) - p = (er dt T q (p + 1) - (p + 1)) + 1 by omega, Int32.mul_comm]
        rfl
    · rw [if_neg c, if_pos rfl, er_no c]
      refine ⟨g 24, ?_, fun _ => ?_⟩
      · rw [upd_self, ← h2, upd_self, Nat.sub_self, Nat.add_zero]
      · rw [Nat.sub_self]; rfl
/-- what the value of a token is -/
def mvOk (T : Nat → Nat) (q p : Nat) (x : Int32) : Prop := (tk T q p = 2 → x = nI (nm T q p)) ∧ (∀ w, w < 3 → tk T q p = 300 + w → x = nI w) ∧ ∀ c, c < 6 → tk T q p = 306 + c → x = nI c
theorem m195 {V : gV} : ∀ m, m < 13 → ∃ y z, (if (3 : Int32) ≤ nI m then (if 9 ≤ nI m then (if nI m = 12 then fX6_next_195 V (nI m) (-1) else fX6_next_195 V (nI m) ((4 + nI m) - 9)) else fX6_next_195 V (nI m) 2) else fX6_next_195 V (nI m) 3) = some ((), up1 (up1 V 0 23 y) 0 24 z) ∧ y = mtok (if m < 12 then 300 + pm m else 1) ∧ (∀ w, w < 3 → m < 12 → 300 + pm m = 300 + w → z = nI w) ∧ ∀ c, c < 6 → m < 12 → 300 + pm m = 306 + c → z = nI c
  | 0, _ => ⟨_, _, rfl, by decide, by decide, by decide⟩
  | 1, _ => ⟨_, _, rfl, by decide, by decide, by decide⟩
  | 2, _ => ⟨_, _, rfl, by decide, by decide, by decide⟩
  | 3, _ => ⟨_, _, rfl, by decide, by decide, by decide⟩
  | 4, _ => ⟨_, _, rfl, by decide, by decide, by decide⟩
  | 5, _ => ⟨_, _, rfl, by decide, by decide, by decide⟩
  | 6, _ => ⟨_, _, rfl, by decide, by decide, by decide⟩
  | 7, _ => ⟨_, _, rfl, by decide, by decide, by decide⟩
  | 8, _ => ⟨_, _, rfl, by decide, by decide, by decide⟩
  | 9, _ => ⟨_, _, rfl, by decide, by decide, by decide⟩
  | 10, _ => ⟨_, _, rfl, by decide, by decide, by decide⟩
  | 11, _ => ⟨_, _, rfl, by decide, by decide, by decide⟩
  | 12, _ => ⟨_, _, rfl, by decide, by decide, by decide⟩
