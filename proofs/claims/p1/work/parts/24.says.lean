/-! what a part of a text says, within its bounds -/
def EV (c b : Nat → Nat) (k : Nat) (s : Nat → Int32) : Int32 := evN c s (b (k + 1) - b k) (b k) (fun _ => 0) 0 0
def mCl (k : Nat) (x : Int32) : Int32 := gmax 0 (gmin (gS1 k) x)
def LW (c b : Nat → Nat) (k : Nat) (s : Nat → Int32) : Int32 := mCl k (EV c b k s)
/-- a text as told: its codes, its bounds -/
def wTX (c b : Nat → Nat) : Prop := b 0 = 0 ∧ (b 0 ≤ b 1 ∧ b 1 ≤ b 2 ∧ b 2 ≤ b 3 ∧ b 3 ≤ 160) ∧ (∀ i, i < b 3 → isCo (c i)) ∧ ∀ k, k < 3 → wfN c (b (k + 1) - b k) (b k) 0
def cTX (v : gV) (t : Nat) (c b : Nat → Nat) : Prop := (∀ k, k < 3 → v (43 + t) k = nI (b (k + 1))) ∧ ∀ i, i < b 3 → v (37 + t) i = nI (mEnc (c i))
def mTX (u : gV) (t : Nat) (c b : Nat → Nat) : Prop := (∀ k, k < 4 → u 8 (4 * t + k) = nI (b k)) ∧ ∀ i, i < b 3 → u 7 (200 * t + i) = nI (c i)
theorem wTX_le {c b : Nat → Nat} (h : wTX c b) {k : Nat} (hk : k < 3) : b k ≤ b (k + 1) ∧ b (k + 1) ≤ b 3 ∧ b 3 ≤ 160 := by
  obtain ⟨h0, ⟨h1, h2, h3, h4⟩, -⟩ := h
  match k, hk with
  | 0, _ => exact ⟨h1, by show b 1 ≤ b 3; omega, h4⟩
  | 1, _ => exact ⟨h2, by show b 2 ≤ b 3; omega, h4⟩
  | 2, _ => exact ⟨h3, Nat.le_refl _, h4⟩
theorem up2_self {v : gV} {i : Nat} : up2 v i (v i) = v := by
  funext j
  by_cases h : j = i
  · subst h
    rw [up2_eq]
  · rw [up2_ne h]
theorem cReckon {v : gV} {t a k : Nat} {c b : Nat → Nat} (ht : t < 6) (hk : k < 3) (ha : a ≠ 49) (hw : wTX c b) (hC : cTX v t c b) : ∃ f, fX4_reckon v t (nI k) a = some (EV c b k (v a), up2 v 49 f) := by
  obtain ⟨l1, l2, l3⟩ := wTX_le hw hk
  have hL := cReckonL (v := v) (a := a) ht hk ha (B := b (k + 1)) (c := c) (fun i hi => hC.2 i (by omega)) (hC.1 k hk) (by omega) (fun i hi => hw.2.2.1 i (by omega)) (b (k + 1) - b k) (b k) 0 (v 49) 2000 (by omega) (by omega) (by omega) (hw.2.2.2 k hk)
  rw [up2_self] at hL
  obtain ⟨f, hf⟩ := hL
  refine ⟨f, ?_⟩
  have e : evN c (v a) (b (k + 1) - b k) (b k) (v 49) 0 0 = EV c b k (v a) := evN_irr _ _ _ _ _ (hw.2.2.2 k hk) (fun j hj => absurd hj (Nat.not_lt_zero j))
  rw [e] at hf
  unfold fX4_reckon fX4_reckon_27
  rw [if_neg (nI_pos (by omega)), if_pos (nI_yltL (y := 3) (b := 3) rfl rfl hk (by decide))]
  match k, hk with
  | 0, _ =>
    rw [if_pos (show nI 0 = 0 from rfl)]
    have h0 : b 0 = 0 := hw.1
    rw [h0] at hf
    exact hf
  | 1, _ =>
    rw [if_neg (by decide), if_pos (by decide), show (nI 1 - 1).toNatClampNeg = 0 from rfl, hC.1 0 (by decide)]
    exact hf
  | 2, _ =>
    rw [if_neg (by decide), if_pos (by decide), show (nI 2 - 1).toNatClampNeg = 1 from rfl, hC.1 1 (by decide)]
    exact hf
theorem cSays {v : gV} {t a k : Nat} {c b : Nat → Nat} (ht : t < 6) (hk : k < 3) (ha : a ≠ 49) (hw : wTX c b) (hC : cTX v t c b) : ∃ f, fX5_says v (nI t) (nI k) a = some (LW c b k (v a), up2 v 49 f) := by
  obtain ⟨f, hf⟩ := cReckon (a := a) ht hk ha hw hC
  refine ⟨f, ?_⟩
  unfold fX5_says fX5_textAt
  rw [if_neg (nI_pos (by omega)), if_neg (nI_nleL (x := 6) (a := 6) rfl rfl ht (by decide)), if_pos (gin_nI ht (by decide)), gB_some]
  unfold gOp
  rw [nI_clamp (by omega)]
  show (if t < 6 then _ else none) = _
  rw [if_pos ht]
  dsimp only
  rw [if_neg (nI_pos (by omega)), if_pos (nI_yltL (y := 3) (b := 3) rfl rfl hk (by decide)), if_pos (gin_nI hk (by decide)), hf, gB_some, nI_clamp (by omega)]
  rfl
theorem mWithinB {v : gV} {x B : Int32} (hB : 0 ≤ B.toInt) : fX6_within v x 0 B = some (gmax 0 (gmin B x), v) := by
  unfold fX6_within gmax gmin
  simp only [Int32.le_iff_toInt_le, Int32.lt_iff_toInt_lt, i32_0]
  by_cases h : 0 ≤ x.toInt
  · rw [if_pos h]
    by_cases h2 : x.toInt ≤ B.toInt
    · rw [if_pos h2]
      by_cases h3 : x.toInt < B.toInt
      · rw [if_pos h3]
        by_cases h4 : 0 < x.toInt
        · rw [if_pos h4]
        · have : x = 0 := Int32.toInt_inj.mp (by rw [i32_0]; omega)
          rw [if_neg h4, this]
      · have : x = B := Int32.toInt_inj.mp (by omega)
        rw [if_neg h3, this]
        by_cases h4 : 0 < B.toInt
        · rw [if_pos h4]
        · have : B = 0 := Int32.toInt_inj.mp (by rw [i32_0]; omega)
          rw [if_neg h4, this]
    · rw [if_neg h2, if_neg (show ¬ x.toInt < B.toInt by omega)]
      by_cases h4 : 0 < B.toInt
      · rw [if_pos h4]
      · have : B = 0 := Int32.toInt_inj.mp (by rw [i32_0]; omega)
        rw [if_neg h4, this]
  · rw [if_neg h]
    by_cases h3 : x.toInt < B.toInt
    · rw [if_pos h3, if_neg (by omega)]
    · rw [if_neg h3]
      omega
theorem mAsksOf {u : gV} {t k : Nat} {c b : Nat → Nat} (ht : t < 6) (hk : k < 3) (hr : u 0 12 = nI t) (hw : wTX c b) (hC : mTX u t c b) : ∃ f g, fX6_asksOf u (nI k) = some (LW c b k (u 1), up2 (up2 u 17 g) 16 f) := by
  obtain ⟨l1, l2, l3⟩ := wTX_le hw hk
  unfold fX6_asksOf
  simp only [up1_def, up2_eq, up2_up2, up2_ne (show (1 : Nat) ≠ 17 by decide)]
  generalize hg : upd (upd (upd (upd (upd (upd (u 17) 0 (u 1 6)) 1 (u 1 5)) 2 (u 1 0)) 3 (u 1 1)) 4 (u 1 2)) 5 (u 1 3) = g
  have hN : ∀ j, j < 6 → (up2 u 17 g) 17 j = u 1 (mPl j) := by
    intro j hj
    rw [up2_eq, ← hg]
    match j, hj with
    | 0, _ => rfl
    | 1, _ => rfl
    | 2, _ => rfl
    | 3, _ => rfl
    | 4, _ => rfl
    | 5, _ => rfl
  have hL := mSaysL (v := up2 u 17 g) (s := u 1) ht hk (by rw [up2_ne (by decide)]; exact hr) hN (B := b (k + 1)) (c := c) (fun i hi => by rw [up2_ne (by decide)]; exact hC.2 i (by omega)) (by rw [up2_ne (by decide)]; exact hC.1 (k + 1) (by omega)) (by omega) (fun i hi => hw.2.2.1 i (by omega)) (b (k + 1) - b k) (b k) 0 ((up2 u 17 g) 16) 2000 (by omega) (by omega) (by omega) (hw.2.2.2 k hk)
  rw [up2_self] at hL
  obtain ⟨f, hf⟩ := hL
  have e : evN c (u 1) (b (k + 1) - b k) (b k) ((up2 u 17 g) 16) 0 0 = EV c b k (u 1) := evN_irr _ _ _ _ _ (hw.2.2.2 k hk) (fun j hj => absurd hj (Nat.not_lt_zero j))
  rw [e] at hf
  refine ⟨f, g, ?_⟩
  unfold fX6_says
  rw [up2_ne (show (0 : Nat) ≠ 17 by decide), hr, nI_4k, if_pos (gin_nI (by omega) (by decide)), nI_clamp (by omega), up2_ne (show (8 : Nat) ≠ 17 by decide), hC.1 k (by omega)]
  rw [show (0 : Int32) = nI 0 from rfl, hf, gB_some]
  unfold fX6_asksOf_99 LW mCl
  match k, hk with
  | 0, _ =>
    rw [if_pos rfl, show (nI 0 : Int32) = 0 from rfl, mWithinB (by decide), gB_some]
    rfl
  | 1, _ =>
    rw [if_neg (by decide), if_pos (by decide), show (nI 0 : Int32) = 0 from rfl, mWithinB (by decide), gB_some]
    rfl
  | 2, _ =>
    rw [if_neg (by decide), if_neg (by decide), show (nI 0 : Int32) = 0 from rfl, mWithinB (by decide), gB_some]
    rfl
theorem LW_rng (c b : Nat → Nat) (s : Nat → Int32) : 0 ≤ (LW c b 0 s).toInt ∧ (LW c b 0 s).toInt ≤ 3 := by
  unfold LW mCl
  rw [gmax_toInt, gmin_toInt, i32_0, show (gS1 0).toInt = 3 from rfl]
  constructor
  · split <;> (split <;> omega)
  · split <;> (split <;> omega)
