/-! the reader, the reference's side -/
def MP (u : gV) (T : Nat → Nat) (q : Nat) : Prop := u 0 8 = nI q ∧ q ≤ 160 ∧ (∀ i, i < q → u 6 i = nI (T i) ∧ T i ≤ 255) ∧ ∀ j, j < 96 → u 14 j = wordsF j
def pm (i : Nat) : Nat := ([0, 1, 2, 6, 7, 8, 9, 10, 11, 3, 4, 5] : List Nat).getD i 0
theorem pm_lt : ∀ i, i < 12 → pm i < 12 := by decide
theorem pm_on : ∀ f, f < 12 → ∃ i, i < 12 ∧ pm i = f := by decide
theorem pm_w : ∀ i, i < 12 → ∀ k, k < 8 → wordsF (8 * i + k) = if k < gWlen.getD (pm i) 0 then gwc (pm i) k else 32 := by decide
theorem gwc_32 : ∀ w, w < 12 → ∀ k, k < 8 → k < gWlen.getD w 0 → gwc w k ≠ 32 := by decide
theorem nI_8 {t k : Nat} : 8 * nI t + nI k = nI (8 * t + k) := by
  rw [show (8 : Int32) = nI 8 from rfl, pk_mul, nI_add]
def wM (T : Nat → Nat) (b e i k : Nat) : Prop := wordsF (8 * i + k) = if e ≤ b + k then 32 else nI (T (b + k))
theorem wM_mt {T : Nat → Nat} {b e i : Nat} (hi : i < 12) (hb : b < e) (hl : ∀ j, b ≤ j → j < e → lt (T j) = true) : (e - b ≤ 8 ∧ ∀ k, k < 8 → wM T b e i k) ↔ mt T b e (pm i) := by
  have hp := pm_lt i hi
  have hL := gW_len (pm i) hp
  have hT : ∀ j, b ≤ j → j < e → nI (T j) ≠ 32 := fun j h1 h2 z => by
    have h3 : 97 ≤ T j ∧ T j ≤ 122 := of_decide_eq_true (hl j h1 h2)
    have : T j = 32 := (nI_eq (a := T j) (b := 32) (by omega) (by decide)).mp z
    omega
  constructor
  · intro ⟨h8, h⟩
    have hlen : gWlen.getD (pm i) 0 = e - b := by
      by_cases c : gWlen.getD (pm i) 0 < e - b
      · exfalso
        have := h (gWlen.getD (pm i) 0) (by omega)
        unfold wM at this
        rw [pm_w i hi _ (by omega), if_neg (Nat.lt_irrefl _), if_neg (by omega)] at this
        exact hT _ (by omega) (by omega) this.symm
      · by_cases d : e - b < gWlen.getD (pm i) 0
        · exfalso
          have := h (e - b) (by omega)
          unfold wM at this
          rw [pm_w i hi _ (by omega), if_pos d, if_pos (by omega)] at this
          exact gwc_32 _ hp _ (by omega) d this
        · omega
    refine ⟨hlen, fun k hk => ?_⟩
    have := h k (by omega)
    unfold wM at this
    rw [pm_w i hi _ (by omega), if_pos hk, if_neg (by omega)] at this
    exact this
  · intro ⟨h1, h2⟩
    refine ⟨by omega, fun k hk => ?_⟩
    unfold wM
    rw [pm_w i hi k hk]
    by_cases c : k < gWlen.getD (pm i) 0
    · rw [if_pos c, if_neg (by omega)]; exact h2 k c
    · rw [if_neg c, if_pos (by omega)]
theorem mW26 {u : gV} {T : Nat → Nat} {q b e i : Nat} (h : MP u T q) (hi : i < 12) (hb : b < e) (he : e ≤ q) (k2 : gV → Int32 → Int32 → Int32 → Option (Int32 × gV)) : ∀ (k j fuel : Nat), k + 1 < fuel → j + k = 8 → (∀ x, x < j → wM T b e i x) → ((∀ x, x < 8 → wM T b e i x) ∧ fX6_wordFrom_26 k2 fuel u (nI b) (nI e) (nI i) 1 (nI j) = some (nI i, u)) ∨ ((¬ ∀ x, x < 8 → wM T b e i x) ∧ fX6_wordFrom_26 k2 fuel u (nI b) (nI e) (nI i) 1 (nI j) = k2 u (nI b) (nI e) (nI (i + 1))) := by
  have hq := h.2.1
  intro k
  induction k with
  | zero =>
    intro j fuel hf hj hp
    obtain ⟨n, rfl⟩ : ∃ n, fuel = n + 1 := ⟨fuel - 1, by omega⟩
    obtain rfl : j = 8 := by omega
    rw [fX6_wordFrom_26, if_pos (show (8 : Int32) ≤ nI 8 by decide)]
    unfold fX6_wordFrom_88
    rw [if_neg ne10]
    exact Or.inl ⟨hp, rfl⟩
  | succ k ih =>
    intro j fuel hf hj hp
    obtain ⟨n, rfl⟩ : ∃ n, fuel = n + 2 := ⟨fuel - 2, by omega⟩
    have hbad : fX6_wordFrom_26 k2 (n + 1) u (nI b) (nI e) (nI i) 0 (nI (j + 1)) = k2 u (nI b) (nI e) (nI (i + 1)) := by
      rw [fX6_wordFrom_26, if_pos rfl, ite_same]
      unfold fX6_wordFrom_88
      rw [if_pos rfl, nI_1]
    rw [fX6_wordFrom_26, if_neg (nI_nleL (x := 8) (a := 8) rfl rfl (by omega) (by decide)), if_neg ne10, nI_8, if_pos (gin_nI (by omega) (by decide)), nI_clamp (by omega), h.2.2.2 _ (by omega), nI_add]
    unfold fX6_wordFrom_72 fX6_wordFrom_80
    rw [nI_1]
    have key : ∀ y : Int32, y = (if e ≤ b + j then 32 else nI (T (b + j))) → ((∀ x, x < 8 → wM T b e i x) ∧ (if wordsF (8 * i + j) = y then fX6_wordFrom_26 k2 (n + 1) u (nI b) (nI e) (nI i) 1 (nI (j + 1)) else fX6_wordFrom_26 k2 (n + 1) u (nI b) (nI e) (nI i) 0 (nI (j + 1))) = some (nI i, u)) ∨ ((¬ ∀ x, x < 8 → wM T b e i x) ∧ (if wordsF (8 * i + j) = y then fX6_wordFrom_26 k2 (n + 1) u (nI b) (nI e) (nI i) 1 (nI (j + 1)) else fX6_wordFrom_26 k2 (n + 1) u (nI b) (nI e) (nI i) 0 (nI (j + 1))) = k2 u (nI b) (nI e) (nI (i + 1))) := by
      intro y hy
      by_cases c : wordsF (8 * i + j) = y
      · rw [if_pos c]
        exact ih (j + 1) (n + 1) (by omega) (by omega) (fun x hx => by
          by_cases ex : x = j
          · rw [ex]; unfold wM; rw [c, hy]
          · exact hp x (by omega))
      · rw [if_neg c, hbad]
        exact Or.inr ⟨fun z => c (by have := z j (by omega); unfold wM at this; rw [this, hy]), rfl⟩
    by_cases c : e ≤ b + j
    · rw [if_pos (nI_yleL rfl rfl c (by omega))]
      exact key 32 (by rw [if_pos c])
    · rw [if_neg (nI_nleL rfl rfl (by omega) (by omega)), if_pos (gin_nI (by omega) (by decide)), nI_clamp (by omega), (h.2.2.1 _ (by omega)).1]
      exact key _ (by rw [if_neg c])
theorem mWordL {u : gV} {T : Nat → Nat} {q b e : Nat} (h : MP u T q) (hb : b < e) (he : e ≤ q) (hl : ∀ j, b ≤ j → j < e → lt (T j) = true) : ∀ (k i fuel : Nat), k < fuel → i + k = 12 → fX6_wordFrom_2 fuel u (nI b) (nI e) (nI i) = some (nI (fnd (fun z => mt T b e (pm z)) k i), u) := by
  have hq := h.2.1
  intro k
  induction k with
  | zero =>
    intro i fuel hf hi
    obtain ⟨n, rfl⟩ : ∃ n, fuel = n + 1 := ⟨fuel - 1, by omega⟩
    obtain rfl : i = 12 := by omega
    rw [fX6_wordFrom_2, if_pos (show (12 : Int32) ≤ nI 12 by decide)]
    rfl
  | succ k ih =>
    intro i fuel hf hi
    obtain ⟨n, rfl⟩ : ∃ n, fuel = n + 1 := ⟨fuel - 1, by omega⟩
    have hw : i < 12 := by omega
    have hiff := wM_mt hw hb hl
    rw [fX6_wordFrom_2, if_neg (nI_nleL (x := 12) (a := 12) rfl rfl hw (by decide)), pk_sub (by omega)]
    unfold fX6_wordFrom_21
    have nx1 := ih (i + 1) n (by omega) (by omega)
    by_cases c : e - b ≤ 8
    · rw [if_neg (nI_nltL (x := 8) (a := 8) rfl rfl c (by decide)), show (0 : Int32) = nI 0 from rfl]
      rcases mW26 h hw hb he (fX6_wordFrom_2 n) 8 0 2000 (by omega) (by omega) (fun x hx => absurd hx (Nat.not_lt_zero x)) with ⟨m, y⟩ | ⟨m, y⟩
      · rw [y, fnd_yes (m := fun z => mt T b e (pm z)) (hiff.mp ⟨c, m⟩)]
      · rw [y, fnd_no (m := fun z => mt T b e (pm z)) (fun z => m (hiff.mpr z).2), nx1]
    · rw [if_pos (nI_yltL (x := 8) (a := 8) rfl rfl (by omega) (by omega)), fX6_wordFrom_26, if_neg (by decide), if_pos rfl]
      unfold fX6_wordFrom_88
      rw [if_pos rfl, nI_1, fnd_no (m := fun z => mt T b e (pm z)) (fun z => c (hiff.mpr z).1), nx1]
theorem mW_wI {T : Nat → Nat} {b e : Nat} : (wI T b e = 12 ∧ fnd (fun z => mt T b e (pm z)) 12 0 = 12) ∨ (fnd (fun z => mt T b e (pm z)) 12 0 < 12 ∧ wI T b e = pm (fnd (fun z => mt T b e (pm z)) 12 0)) := by
  unfold wI
  rcases fnd_spec (m := mt T b e) 12 0 (by omega) with ⟨f1, f2⟩ | ⟨-, f2, f3⟩
  · rcases fnd_spec (m := fun z => mt T b e (pm z)) 12 0 (by omega) with ⟨g1, g2⟩ | ⟨-, g2, g3⟩
    · exact Or.inl ⟨f1, g1⟩
    · exact absurd g3 (f2 _ (Nat.zero_le _) (pm_lt _ g2))
  · rcases fnd_spec (m := fun z => mt T b e (pm z)) 12 0 (by omega) with ⟨g1, g2⟩ | ⟨-, g2, g3⟩
    · obtain ⟨i, hi, e⟩ := pm_on _ f2
      exact absurd (by rw [e]; exact f3) (g2 i (Nat.zero_le _) hi)
    · exact Or.inr ⟨g2, mt_one f2 (pm_lt _ g2) f3 g3⟩
