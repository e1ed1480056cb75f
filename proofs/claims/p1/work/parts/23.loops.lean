/-! the two machines that reckon a text -/
theorem up1_up2 {v : gV} {i k : Nat} {f : Nat → Int32} {x : Int32} : up1 (up2 v i f) i k x = up2 v i (upd f k x) := by
  rw [up1_def, up2_eq, up2_up2]
theorem nI_m1 {h : Nat} : nI (h + 1) + (-1) = nI h := pk_m1 h
theorem nI_nleL {a b : Nat} {x y : Int32} (hx : x = nI a) (hy : y = nI b) (h : b < a) (ha : a < 2 ^ 31) : ¬ x ≤ y := by
  rw [hx, hy]
  exact nI_ge h ha
theorem nI_yleL {a b : Nat} {x y : Int32} (hx : x = nI a) (hy : y = nI b) (h : a ≤ b) (hb : b < 2 ^ 31) : x ≤ y := by
  rw [hx, hy]
  exact nI_le h hb
theorem nI_nltL {a b : Nat} {x y : Int32} (hx : x = nI a) (hy : y = nI b) (h : b ≤ a) (ha : a < 2 ^ 31) : ¬ x < y := by
  rw [hx, hy]
  exact nI_nlt h ha
theorem nI_yltL {a b : Nat} {x y : Int32} (hx : x = nI a) (hy : y = nI b) (h : a < b) (hb : b < 2 ^ 31) : x < y := by
  rw [hx, hy]
  exact nI_lt h hb
theorem nI_neL {a b : Nat} {x y : Int32} (hx : x = nI a) (hy : y = nI b) (h : a ≠ b) (ha : a < 2 ^ 31) (hb : b < 2 ^ 31) : ¬ x = y := by
  rw [hx, hy, nI_eq ha hb]
  exact h
theorem cReckonL {v : gV} {t a k B : Nat} {c : Nat → Nat} (ht : t < 6) (hk : k < 3) (ha : a ≠ 49) (hC : ∀ i, i < B → v (37 + t) i = nI (mEnc (c i))) (hE : v (43 + t) k = nI B) (hB : B ≤ 160) (hco : ∀ i, i < B → isCo (c i)) :
    ∀ (m i h : Nat) (f : Nat → Int32) (fuel : Nat), m < fuel → i + m = B → h ≤ 40 → wfN c m i h → ∃ f' : Nat → Int32, fX4_reckon_34 fuel (up2 v 49 f) t (nI k) a (nI h) (nI i) = some (evN c (v a) m i f h 0, up2 v 49 f') := by
  have n37 : 37 + t ≠ 49 := by omega
  have n43 : 43 + t ≠ 49 := by omega
  have gk : gin (nI k) 3 = true := gin_nI hk (by decide)
  have ck : (nI k).toNatClampNeg = k := nI_clamp (by omega)
  intro m
  induction m with
  | zero =>
    intro i h f fuel hf hi hh hw
    obtain ⟨n, rfl⟩ : ∃ n, fuel = n + 1 := ⟨fuel - 1, by omega⟩
    have hw1 : 1 ≤ h := hw
    refine ⟨f, ?_⟩
    rw [fX4_reckon_34, if_neg (nI_pos (by omega)), if_pos gk, ck, up2_ne n43, hE, if_pos (nI_le (by omega) (by omega))]
    unfold fX4_reckon_218
    rw [if_neg (nI_nle hw1 (by omega)), up2_eq]
    rfl
  | succ m ih =>
    intro i h f fuel hf hi hh hw
    obtain ⟨n, rfl⟩ : ∃ n, fuel = n + 1 := ⟨fuel - 1, by omega⟩
    have hiB : i < B := by omega
    have gi : gin (nI i) 160 = true := gin_nI (by omega) (by decide)
    have ci : (nI i).toNatClampNeg = i := nI_clamp (by omega)
    have hc := hco i hiB
    rw [fX4_reckon_34, if_neg (nI_pos (by omega)), if_pos gk, ck, up2_ne n43, hE, if_neg (nI_ge hiB (by omega)), if_neg (nI_nleL (x := 160) (a := 160) (b := i) rfl rfl (by omega) (by decide)), if_pos gi, ci, up2_ne n37, hC i hiB]
    unfold wfN at hw
    unfold evN
    rcases hc with hp | h13 | h19 | hb
    · have hlt := mEnc_pu hp
      have hp' : c i < 6 ∨ 100000 ≤ c i := hp.elim Or.inl (fun q => Or.inr q.1)
      rw [if_pos hp'] at hw ⊢
      rw [if_neg (nI_nleL (x := 20000) (a := 20000) rfl rfl hlt (by decide)), if_pos (nI_yltL (y := 40) (b := 40) rfl rfl hw.1 (by decide)), cOperand hp, gB_some, if_pos (gin_nI hw.1 (by decide))]
      unfold fX4_reckon_212
      rw [nI_clamp (by omega), up1_up2, nI_1, nI_1, up2_ne ha]
      obtain ⟨f', h'⟩ := ih (i + 1) (h + 1) (upd f h (mVal (v a) (c i))) n (by omega) (by omega) (by omega) hw.2
      exact ⟨f', h'⟩
    · rw [h13] at hw ⊢
      rw [if_neg (by decide), if_pos (Or.inl rfl)] at hw
      obtain ⟨q, rfl⟩ : ∃ q, h = q + 1 := ⟨h - 1, by omega⟩
      have e13 : mEnc 13 = 20001 := rfl
      rw [e13, if_pos (nI_yleL (x := 20000) (a := 20000) rfl rfl (by decide) (by decide)), if_neg (nI_nltL (x := 20001) (a := 20001) rfl rfl (Nat.le_refl _) (by decide)), if_pos (nI_yleL (x := 1) (a := 1) rfl rfl (by omega) (by omega)), nI_pred, if_pos (gin_nI (by omega) (by decide)), if_neg (nI_neL (y := 20000) (b := 20000) rfl rfl (by decide) (by decide) (by decide))]
      unfold fX4_reckon_167 fX4_reckon_212
      rw [if_pos (gin_nI (by omega) (by decide)), if_pos (gin_nI (by omega) (by decide)), nI_clamp (by omega), up2_eq, up1_up2, up1_up2, nI_1, if_neg (show ¬ ((13 : Nat) < 6 ∨ 100000 ≤ 13) by decide), if_pos (show (13 : Nat) = 13 from rfl), Nat.add_sub_cancel]
      by_cases h0 : f q = 0
      · rw [if_pos h0, if_pos h0]
        obtain ⟨f', h'⟩ := ih (i + 1) (q + 1) (upd f q 1) n (by omega) (by omega) (by omega) hw.2
        exact ⟨f', h'⟩
      · rw [if_neg h0, if_neg h0]
        obtain ⟨f', h'⟩ := ih (i + 1) (q + 1) (upd f q 0) n (by omega) (by omega) (by omega) hw.2
        exact ⟨f', h'⟩
    · rw [h19] at hw ⊢
      rw [if_neg (by decide), if_pos (Or.inr rfl)] at hw
      obtain ⟨q, rfl⟩ : ∃ q, h = q + 1 := ⟨h - 1, by omega⟩
      have e19 : mEnc 19 = 20000 := rfl
      rw [e19, if_pos (nI_yleL (x := 20000) (a := 20000) rfl rfl (by decide) (by decide)), if_neg (nI_nltL (x := 20001) (a := 20001) rfl rfl (by decide) (by decide)), if_pos (nI_yleL (x := 1) (a := 1) rfl rfl (by omega) (by omega)), nI_pred, if_pos (gin_nI (by omega) (by decide)), if_pos (show nI 20000 = 20000 from rfl)]
      unfold fX4_reckon_167 fX4_reckon_212
      rw [if_pos (gin_nI (by omega) (by decide)), nI_clamp (by omega), up2_eq, up1_up2, nI_1, if_neg (by decide), if_neg (by decide), if_pos rfl, Nat.add_sub_cancel]
      obtain ⟨f', h'⟩ := ih (i + 1) (q + 1) (upd f q (-(f q))) n (by omega) (by omega) (by omega) hw.2
      exact ⟨f', h'⟩
    · have hbb := mEnc_bi hb
      have hn1 : ¬ (c i < 6 ∨ 100000 ≤ c i) := by unfold isBi at hb; omega
      have hn2 : ¬ (c i = 13 ∨ c i = 19) := by unfold isBi at hb; omega
      rw [if_neg hn1, if_neg hn2] at hw
      rw [if_neg hn1, if_neg (fun z => hn2 (Or.inl z)), if_neg (fun z => hn2 (Or.inr z))]
      obtain ⟨q, rfl⟩ : ∃ q, h = q + 2 := ⟨h - 2, by omega⟩
      rw [if_pos (nI_yleL (x := 20000) (a := 20000) rfl rfl (by omega) (by omega)), if_pos (nI_yltL (x := 20001) (a := 20001) rfl rfl hbb.1 (by omega)), if_pos (nI_yleL (x := 2) (a := 2) rfl rfl (by omega) (by omega)), show nI (q + 2) + (-1) = nI (q + 1) from pk_m1 (q + 1), nI_pred, if_pos (gin_nI (by omega) (by decide)), if_pos (gin_nI (by omega) (by decide)), nI_clamp (by omega), nI_clamp (by omega), up2_eq, cOfTwo hb, gB_some, if_pos (gin_nI (by omega) (by decide))]
      unfold fX4_reckon_212
      rw [up1_up2, nI_1]
      obtain ⟨f', h'⟩ := ih (i + 1) (q + 1) (upd f q (mOp (c i) (f q) (f (q + 1)))) n (by omega) (by omega) (by omega) hw.2
      exact ⟨f', h'⟩
theorem nI_4k {t k : Nat} : 4 * nI t + nI k = nI (4 * t + k) := by
  rw [show (4 : Int32) = nI 4 from rfl, pk_mul, nI_add]
theorem nI_200 {t k : Nat} : 200 * nI t + nI k = nI (200 * t + k) := by
  rw [show (200 : Int32) = nI 200 from rfl, pk_mul, nI_add]
theorem mSaysL {v : gV} {t k B : Nat} {c : Nat → Nat} {s : Nat → Int32} (ht : t < 6) (hk : k < 3) (hr : v 0 12 = nI t) (hN : ∀ j, j < 6 → v 17 j = s (mPl j)) (hC : ∀ i, i < B → v 7 (200 * t + i) = nI (c i)) (hE : v 8 (4 * t + k + 1) = nI B) (hB : B ≤ 160) (hco : ∀ i, i < B → isCo (c i)) :
    ∀ (m i h : Nat) (f : Nat → Int32) (fuel : Nat), m < fuel → i + m = B → h ≤ 40 → wfN c m i h → ∃ f' : Nat → Int32, fX6_says_16 fuel (up2 v 16 f) (nI k) (nI h) (nI i) = some (evN c s m i f h 0, up2 v 16 f') := by
  have g24 : gin (nI (4 * t + k + 1)) 24 = true := gin_nI (by omega) (by decide)
  have c24 : (nI (4 * t + k + 1)).toNatClampNeg = 4 * t + k + 1 := nI_clamp (by omega)
  intro m
  induction m with
  | zero =>
    intro i h f fuel hf hi hh hw
    obtain ⟨n, rfl⟩ : ∃ n, fuel = n + 1 := ⟨fuel - 1, by omega⟩
    refine ⟨f, ?_⟩
    rw [fX6_says_16, up2_ne (show 0 ≠ 16 by decide), hr, nI_4k, nI_1, if_pos g24, c24, up2_ne (show 8 ≠ 16 by decide), hE, if_pos (nI_le (by omega) (by omega)), up2_eq]
    rfl
  | succ m ih =>
    intro i h f fuel hf hi hh hw
    obtain ⟨n, rfl⟩ : ∃ n, fuel = n + 1 := ⟨fuel - 1, by omega⟩
    have hiB : i < B := by omega
    have hc := hco i hiB
    have gi : gin (nI (200 * t + i)) 1200 = true := gin_nI (by omega) (by decide)
    have ci : (nI (200 * t + i)).toNatClampNeg = 200 * t + i := nI_clamp (by omega)
    rw [fX6_says_16, up2_ne (show 0 ≠ 16 by decide), hr, nI_4k, nI_1, if_pos g24, c24, up2_ne (show 8 ≠ 16 by decide), hE, if_neg (nI_ge hiB (by omega)), nI_200, if_pos gi, ci, up2_ne (show 7 ≠ 16 by decide), hC i hiB]
    unfold wfN at hw
    unfold evN
    rcases hc with hp | h13 | h19 | hb
    · have hp' : c i < 6 ∨ 100000 ≤ c i := hp.elim Or.inl (fun q => Or.inr q.1)
      rw [if_pos hp'] at hw ⊢
      unfold fX6_says_66 fX6_says_93 fX6_says_191
      rw [if_pos (gin_nI (show h < 200 by omega) (by decide)), if_pos (gin_nI (show h < 200 by omega) (by decide)), nI_clamp (show h < 2 ^ 31 by omega), up1_up2, up1_up2, nI_1, nI_1, up2_ne (show 17 ≠ 16 by decide)]
      rcases hp with h6 | ⟨hl, hu⟩
      · have e : mVal s (c i) = v 17 (c i) := by
          unfold mVal
          rw [if_pos h6, hN _ h6]
        rw [if_neg (nI_nleL (x := 100000) (a := 100000) rfl rfl (by omega) (by decide)), if_neg (nI_nleL (x := 11) (a := 11) rfl rfl (by omega) (by decide)), if_neg (nI_nleL (x := 11) (a := 11) rfl rfl (by omega) (by decide)), if_pos (gin_nI h6 (by decide)), nI_clamp (by omega), ← e]
        exact ih (i + 1) (h + 1) (upd f h (mVal s (c i))) n (by omega) (by omega) (by omega) hw.2
      · have e : mVal s (c i) = nI (c i) - 100000 := by
          unfold mVal
          rw [if_neg (by omega), show (100000 : Int32) = nI 100000 from rfl, pk_sub hl]
        rw [if_pos (nI_yleL (x := 100000) (a := 100000) rfl rfl hl (by omega)), if_pos (nI_yleL (x := 11) (a := 11) rfl rfl (by omega) (by omega)), ← e]
        exact ih (i + 1) (h + 1) (upd f h (mVal s (c i))) n (by omega) (by omega) (by omega) hw.2
    · rw [h13] at hw ⊢
      rw [if_neg (by decide), if_pos (Or.inl rfl)] at hw
      obtain ⟨q, rfl⟩ : ∃ q, h = q + 1 := ⟨h - 1, by omega⟩
      rw [if_neg (nI_nleL (x := 100000) (a := 100000) rfl rfl (by decide) (by decide)), if_pos (nI_yleL (x := 11) (a := 11) rfl rfl (by decide) (by decide)), if_pos (show nI 13 = 13 from rfl), nI_pred, if_pos (gin_nI (by omega) (by decide))]
      unfold fX6_says_130 fX6_says_191
      rw [if_pos (gin_nI (by omega) (by decide)), if_pos (gin_nI (by omega) (by decide)), nI_clamp (by omega), up2_eq, up1_up2, up1_up2, nI_1, if_neg (show ¬ ((13 : Nat) < 6 ∨ 100000 ≤ 13) by decide), if_pos (show (13 : Nat) = 13 from rfl), Nat.add_sub_cancel]
      by_cases h0 : f q = 0
      · rw [if_pos h0, if_pos h0]
        exact ih (i + 1) (q + 1) (upd f q 1) n (by omega) (by omega) (by omega) hw.2
      · rw [if_neg h0, if_neg h0]
        exact ih (i + 1) (q + 1) (upd f q 0) n (by omega) (by omega) (by omega) hw.2
    · rw [h19] at hw ⊢
      rw [if_neg (by decide), if_pos (Or.inr rfl)] at hw
      obtain ⟨q, rfl⟩ : ∃ q, h = q + 1 := ⟨h - 1, by omega⟩
      rw [if_neg (nI_nleL (x := 100000) (a := 100000) rfl rfl (by decide) (by decide)), if_pos (nI_yleL (x := 11) (a := 11) rfl rfl (by decide) (by decide)), if_neg (nI_neL (y := 13) (b := 13) rfl rfl (by decide) (by decide) (by decide)), if_pos (show nI 19 = 19 from rfl), nI_pred, if_pos (gin_nI (by omega) (by decide)), if_pos (gin_nI (by omega) (by decide)), nI_clamp (by omega), up2_eq, up1_up2]
      unfold fX6_says_191
      rw [nI_1, if_neg (by decide), if_neg (by decide), if_pos rfl, Nat.add_sub_cancel]
      exact ih (i + 1) (q + 1) (upd f q (-(f q))) n (by omega) (by omega) (by omega) hw.2
    · have hn1 : ¬ (c i < 6 ∨ 100000 ≤ c i) := by unfold isBi at hb; omega
      have hn2 : ¬ (c i = 13 ∨ c i = 19) := by unfold isBi at hb; omega
      have hlo : 11 ≤ c i ∧ c i < 19 := by unfold isBi at hb; omega
      rw [if_neg hn1, if_neg hn2] at hw
      rw [if_neg hn1, if_neg (fun z => hn2 (Or.inl z)), if_neg (fun z => hn2 (Or.inr z))]
      obtain ⟨q, rfl⟩ : ∃ q, h = q + 2 := ⟨h - 2, by omega⟩
      rw [if_neg (nI_nleL (x := 100000) (a := 100000) rfl rfl (by omega) (by decide)), if_pos (nI_yleL (x := 11) (a := 11) rfl rfl hlo.1 (by omega)), if_neg (nI_neL (y := 13) (b := 13) rfl rfl (fun z => hn2 (Or.inl z)) (by omega) (by decide)), if_neg (nI_neL (y := 19) (b := 19) rfl rfl (fun z => hn2 (Or.inr z)) (by omega) (by decide)), show nI (q + 2) + (-1) = nI (q + 1) from pk_m1 (q + 1), nI_pred, if_pos (gin_nI (by omega) (by decide)), if_pos (gin_nI (by omega) (by decide)), nI_clamp (by omega), nI_clamp (by omega), up2_eq, mTwo hb, gB_some, if_pos (gin_nI (by omega) (by decide))]
      unfold fX6_says_191
      rw [up1_up2, nI_1]
      exact ih (i + 1) (q + 1) (upd f q (mOp (c i) (f q) (f (q + 1)))) n (by omega) (by omega) (by omega) hw.2
